theorem dX3_replaceIn_50 : decode cX3_replaceIn 50 = .ok (.iload_n 3, 1) := by decide +kernel
theorem dX3_replaceIn_51 : decode cX3_replaceIn 51 = .ok (.iconst (-1), 1) := by decide +kernel
theorem dX3_replaceIn_52 : decode cX3_replaceIn 52 = .ok (.if_icmp .ne 10, 3) := by decide +kernel
theorem dX3_replaceIn_55 : decode cX3_replaceIn 55 = .ok (.aload_n 1, 1) := by decide +kernel
theorem dX3_replaceIn_56 : decode cX3_replaceIn 56 = .ok (.iconst 1, 1) := by decide +kernel
theorem dX3_replaceIn_57 : decode cX3_replaceIn 57 = .ok (.putfield 213, 3) := by decide +kernel
theorem dX3_replaceIn_60 : decode cX3_replaceIn 60 = .ok (.iconst 0, 1) := by decide +kernel
theorem dX3_replaceIn_61 : decode cX3_replaceIn 61 = .ok (.ireturn, 1) := by decide +kernel
theorem dX3_replaceIn_62 : decode cX3_replaceIn 62 = .ok (.iload 4, 2) := by decide +kernel
theorem dX3_replaceIn_64 : decode cX3_replaceIn 64 = .ok (.ifCond .le 32, 3) := by decide +kernel
theorem dX3_replaceIn_67 : decode cX3_replaceIn 67 = .ok (.aload_n 0, 1) := by decide +kernel
theorem dX3_replaceIn_68 : decode cX3_replaceIn 68 = .ok (.getfield 10, 3) := by decide +kernel
theorem dX3_replaceIn_71 : decode cX3_replaceIn 71 = .ok (.iload_n 3, 1) := by decide +kernel
theorem dX3_replaceIn_72 : decode cX3_replaceIn 72 = .ok (.invokevirtual 85, 3) := by decide +kernel
theorem dX3_replaceIn_75 : decode cX3_replaceIn 75 = .ok (.checkcast 61, 3) := by decide +kernel
theorem dX3_replaceIn_78 : decode cX3_replaceIn 78 = .ok (.aload_n 0, 1) := by decide +kernel
theorem dX3_replaceIn_79 : decode cX3_replaceIn 79 = .ok (.getfield 10, 3) := by decide +kernel
theorem dX3_replaceIn_82 : decode cX3_replaceIn 82 = .ok (.iload_n 2, 1) := by decide +kernel
theorem dX3_replaceIn_83 : decode cX3_replaceIn 83 = .ok (.invokevirtual 85, 3) := by decide +kernel
theorem dX3_replaceIn_86 : decode cX3_replaceIn 86 = .ok (.checkcast 61, 3) := by decide +kernel
theorem dX3_replaceIn_89 : decode cX3_replaceIn 89 = .ok (.aload_n 1, 1) := by decide +kernel
theorem dX3_replaceIn_90 : decode cX3_replaceIn 90 = .ok (.getfield 140, 3) := by decide +kernel
theorem dX3_replaceIn_93 : decode cX3_replaceIn 93 = .ok (.invokevirtual 280, 3) := by decide +kernel
theorem dX3_replaceIn_96 : decode cX3_replaceIn 96 = .ok (.aload_n 1, 1) := by decide +kernel
theorem dX3_replaceIn_97 : decode cX3_replaceIn 97 = .ok (.iload_n 2, 1) := by decide +kernel
theorem dX3_replaceIn_98 : decode cX3_replaceIn 98 = .ok (.iload_n 3, 1) := by decide +kernel
theorem dX3_replaceIn_99 : decode cX3_replaceIn 99 = .ok (.invokevirtual 284, 3) := by decide +kernel
theorem dX3_replaceIn_102 : decode cX3_replaceIn 102 = .ok (.iload 4, 2) := by decide +kernel
theorem dX3_replaceIn_104 : decode cX3_replaceIn 104 = .ok (.ireturn, 1) := by decide +kernel
theorem dX3_movesNeeded_0 : decode cX3_movesNeeded 0 = .ok (.aload_n 0, 1) := by decide +kernel
theorem dX3_movesNeeded_1 : decode cX3_movesNeeded 1 = .ok (.iload_n 3, 1) := by decide +kernel
theorem dX3_movesNeeded_2 : decode cX3_movesNeeded 2 = .ok (.invokevirtual 126, 3) := by decide +kernel
theorem dX3_movesNeeded_5 : decode cX3_movesNeeded 5 = .ok (.ifCond .ne 19, 3) := by decide +kernel
theorem dX3_movesNeeded_8 : decode cX3_movesNeeded 8 = .ok (.aload_n 0, 1) := by decide +kernel
theorem dX3_movesNeeded_9 : decode cX3_movesNeeded 9 = .ok (.iload_n 3, 1) := by decide +kernel
theorem dX3_movesNeeded_10 : decode cX3_movesNeeded 10 = .ok (.aload_n 1, 1) := by decide +kernel
theorem dX3_movesNeeded_11 : decode cX3_movesNeeded 11 = .ok (.getfield 140, 3) := by decide +kernel
theorem dX3_movesNeeded_14 : decode cX3_movesNeeded 14 = .ok (.aload_n 1, 1) := by decide +kernel
theorem dX3_movesNeeded_15 : decode cX3_movesNeeded 15 = .ok (.getfield 140, 3) := by decide +kernel
theorem dX3_movesNeeded_18 : decode cX3_movesNeeded 18 = .ok (.invokevirtual 254, 3) := by decide +kernel
theorem dX3_movesNeeded_21 : decode cX3_movesNeeded 21 = .ok (.ifCond .le 5, 3) := by decide +kernel
theorem dX3_movesNeeded_24 : decode cX3_movesNeeded 24 = .ok (.iconst 3, 1) := by decide +kernel
theorem dX3_movesNeeded_25 : decode cX3_movesNeeded 25 = .ok (.ireturn, 1) := by decide +kernel
theorem dX3_movesNeeded_26 : decode cX3_movesNeeded 26 = .ok (.aload_n 0, 1) := by decide +kernel
theorem dX3_movesNeeded_27 : decode cX3_movesNeeded 27 = .ok (.aload_n 1, 1) := by decide +kernel
theorem dX3_movesNeeded_28 : decode cX3_movesNeeded 28 = .ok (.iload_n 3, 1) := by decide +kernel
theorem dX3_movesNeeded_29 : decode cX3_movesNeeded 29 = .ok (.invokevirtual 251, 3) := by decide +kernel
theorem dX3_movesNeeded_32 : decode cX3_movesNeeded 32 = .ok (.ifCond .eq 5, 3) := by decide +kernel
theorem dX3_movesNeeded_35 : decode cX3_movesNeeded 35 = .ok (.iconst 0, 1) := by decide +kernel
theorem dX3_movesNeeded_36 : decode cX3_movesNeeded 36 = .ok (.ireturn, 1) := by decide +kernel
theorem dX3_movesNeeded_37 : decode cX3_movesNeeded 37 = .ok (.aload_n 0, 1) := by decide +kernel
theorem dX3_movesNeeded_38 : decode cX3_movesNeeded 38 = .ok (.getfield 10, 3) := by decide +kernel
theorem dX3_movesNeeded_41 : decode cX3_movesNeeded 41 = .ok (.iload_n 3, 1) := by decide +kernel
theorem dX3_movesNeeded_42 : decode cX3_movesNeeded 42 = .ok (.invokevirtual 85, 3) := by decide +kernel
theorem dX3_movesNeeded_45 : decode cX3_movesNeeded 45 = .ok (.checkcast 61, 3) := by decide +kernel
theorem dX3_movesNeeded_48 : decode cX3_movesNeeded 48 = .ok (.aload_n 0, 1) := by decide +kernel
theorem dX3_movesNeeded_49 : decode cX3_movesNeeded 49 = .ok (.getfield 10, 3) := by decide +kernel
theorem dX3_movesNeeded_52 : decode cX3_movesNeeded 52 = .ok (.iload_n 2, 1) := by decide +kernel
theorem dX3_movesNeeded_53 : decode cX3_movesNeeded 53 = .ok (.invokevirtual 85, 3) := by decide +kernel
theorem dX3_movesNeeded_56 : decode cX3_movesNeeded 56 = .ok (.checkcast 61, 3) := by decide +kernel
theorem dX3_movesNeeded_59 : decode cX3_movesNeeded 59 = .ok (.aload_n 1, 1) := by decide +kernel
theorem dX3_movesNeeded_60 : decode cX3_movesNeeded 60 = .ok (.getfield 140, 3) := by decide +kernel
theorem dX3_movesNeeded_63 : decode cX3_movesNeeded 63 = .ok (.invokevirtual 287, 3) := by decide +kernel
theorem dX3_movesNeeded_66 : decode cX3_movesNeeded 66 = .ok (.istore 4, 2) := by decide +kernel
theorem dX3_movesNeeded_68 : decode cX3_movesNeeded 68 = .ok (.iload 4, 2) := by decide +kernel
theorem dX3_movesNeeded_70 : decode cX3_movesNeeded 70 = .ok (.ifCond .eq 7, 3) := by decide +kernel
theorem dX3_movesNeeded_73 : decode cX3_movesNeeded 73 = .ok (.iconst 2, 1) := by decide +kernel
theorem dX3_movesNeeded_74 : decode cX3_movesNeeded 74 = .ok (.goto 4, 3) := by decide +kernel
theorem dX3_movesNeeded_77 : decode cX3_movesNeeded 77 = .ok (.iconst 3, 1) := by decide +kernel
theorem dX3_movesNeeded_78 : decode cX3_movesNeeded 78 = .ok (.ireturn, 1) := by decide +kernel
theorem dX4_init_0 : decode cX4_init 0 = .ok (.aload_n 0, 1) := by decide +kernel
theorem dX4_init_1 : decode cX4_init 1 = .ok (.invokespecial 1, 3) := by decide +kernel
theorem dX4_init_4 : decode cX4_init 4 = .ok (.aload_n 0, 1) := by decide +kernel
theorem dX4_init_5 : decode cX4_init 5 = .ok (.bipush 8, 2) := by decide +kernel
theorem dX4_init_7 : decode cX4_init 7 = .ok (.newarray .int, 2) := by decide +kernel
theorem dX4_init_9 : decode cX4_init 9 = .ok (.putfield 7, 3) := by decide +kernel
theorem dX4_init_12 : decode cX4_init 12 = .ok (.aload_n 0, 1) := by decide +kernel
theorem dX4_init_13 : decode cX4_init 13 = .ok (.bipush 8, 2) := by decide +kernel
theorem dX4_init_15 : decode cX4_init 15 = .ok (.newarray .int, 2) := by decide +kernel
theorem dX4_init_17 : decode cX4_init 17 = .ok (.putfield 13, 3) := by decide +kernel
theorem dX4_init_20 : decode cX4_init 20 = .ok (.aload_n 0, 1) := by decide +kernel
theorem dX4_init_21 : decode cX4_init 21 = .ok (.bipush 8, 2) := by decide +kernel
theorem dX4_init_23 : decode cX4_init 23 = .ok (.newarray .int, 2) := by decide +kernel
theorem dX4_init_25 : decode cX4_init 25 = .ok (.putfield 16, 3) := by decide +kernel
theorem dX4_init_28 : decode cX4_init 28 = .ok (.aload_n 0, 1) := by decide +kernel
theorem dX4_init_29 : decode cX4_init 29 = .ok (.bipush 8, 2) := by decide +kernel
theorem dX4_init_31 : decode cX4_init 31 = .ok (.newarray .int, 2) := by decide +kernel
theorem dX4_init_33 : decode cX4_init 33 = .ok (.putfield 19, 3) := by decide +kernel
theorem dX4_init_36 : decode cX4_init 36 = .ok (.aload_n 0, 1) := by decide +kernel
theorem dX4_init_37 : decode cX4_init 37 = .ok (.sipush 512, 3) := by decide +kernel
theorem dX4_init_40 : decode cX4_init 40 = .ok (.newarray .int, 2) := by decide +kernel
theorem dX4_init_42 : decode cX4_init 42 = .ok (.putfield 22, 3) := by decide +kernel
theorem dX4_init_45 : decode cX4_init 45 = .ok (.aload_n 0, 1) := by decide +kernel
theorem dX4_init_46 : decode cX4_init 46 = .ok (.sipush 512, 3) := by decide +kernel
theorem dX4_init_49 : decode cX4_init 49 = .ok (.newarray .int, 2) := by decide +kernel
theorem dX4_init_51 : decode cX4_init 51 = .ok (.putfield 25, 3) := by decide +kernel
theorem dX4_init_54 : decode cX4_init 54 = .ok (.aload_n 0, 1) := by decide +kernel
theorem dX4_init_55 : decode cX4_init 55 = .ok (.bipush 12, 2) := by decide +kernel
theorem dX4_init_57 : decode cX4_init 57 = .ok (.newarray .int, 2) := by decide +kernel
theorem dX4_init_59 : decode cX4_init 59 = .ok (.putfield 28, 3) := by decide +kernel
theorem dX4_init_62 : decode cX4_init 62 = .ok (.aload_n 0, 1) := by decide +kernel
theorem dX4_init_63 : decode cX4_init 63 = .ok (.bipush 12, 2) := by decide +kernel
theorem dX4_init_65 : decode cX4_init 65 = .ok (.newarray .int, 2) := by decide +kernel
theorem dX4_init_67 : decode cX4_init 67 = .ok (.putfield 31, 3) := by decide +kernel
theorem dX4_init_70 : decode cX4_init 70 = .ok (.aload_n 0, 1) := by decide +kernel
theorem dX4_init_71 : decode cX4_init 71 = .ok (.bipush 12, 2) := by decide +kernel
theorem dX4_init_73 : decode cX4_init 73 = .ok (.newarray .int, 2) := by decide +kernel
theorem dX4_init_75 : decode cX4_init 75 = .ok (.putfield 34, 3) := by decide +kernel
theorem dX4_init_78 : decode cX4_init 78 = .ok (.aload_n 0, 1) := by decide +kernel
theorem dX4_init_79 : decode cX4_init 79 = .ok (.bipush 12, 2) := by decide +kernel
theorem dX4_init_81 : decode cX4_init 81 = .ok (.newarray .int, 2) := by decide +kernel
theorem dX4_init_83 : decode cX4_init 83 = .ok (.putfield 37, 3) := by decide +kernel
theorem dX4_init_86 : decode cX4_init 86 = .ok (.aload_n 0, 1) := by decide +kernel
theorem dX4_init_87 : decode cX4_init 87 = .ok (.bipush 12, 2) := by decide +kernel
theorem dX4_init_89 : decode cX4_init 89 = .ok (.newarray .int, 2) := by decide +kernel
theorem dX4_init_91 : decode cX4_init 91 = .ok (.putfield 40, 3) := by decide +kernel
theorem dX4_init_94 : decode cX4_init 94 = .ok (.aload_n 0, 1) := by decide +kernel
theorem dX4_init_95 : decode cX4_init 95 = .ok (.bipush 64, 2) := by decide +kernel
theorem dX4_init_97 : decode cX4_init 97 = .ok (.newarray .int, 2) := by decide +kernel
theorem dX4_init_99 : decode cX4_init 99 = .ok (.putfield 43, 3) := by decide +kernel
theorem dX4_init_102 : decode cX4_init 102 = .ok (.aload_n 0, 1) := by decide +kernel
theorem dX4_init_103 : decode cX4_init 103 = .ok (.bipush 39, 2) := by decide +kernel
theorem dX4_init_105 : decode cX4_init 105 = .ok (.newarray .int, 2) := by decide +kernel
theorem dX4_init_107 : decode cX4_init 107 = .ok (.putfield 46, 3) := by decide +kernel
theorem dX4_init_110 : decode cX4_init 110 = .ok (.aload_n 0, 1) := by decide +kernel
theorem dX4_init_111 : decode cX4_init 111 = .ok (.invokevirtual 49, 3) := by decide +kernel
theorem dX4_init_114 : decode cX4_init 114 = .ok (.return_, 1) := by decide +kernel
theorem dX4_thrown_0 : decode cX4_thrown 0 = .ok (.aload_n 0, 1) := by decide +kernel
theorem dX4_thrown_1 : decode cX4_thrown 1 = .ok (.getfield 52, 3) := by decide +kernel
theorem dX4_thrown_4 : decode cX4_thrown 4 = .ok (.ireturn, 1) := by decide +kernel
theorem dX4_holds_0 : decode cX4_holds 0 = .ok (.aload_n 0, 1) := by decide +kernel
theorem dX4_holds_1 : decode cX4_holds 1 = .ok (.iload_n 1, 1) := by decide +kernel
theorem dX4_holds_2 : decode cX4_holds 2 = .ok (.putfield 52, 3) := by decide +kernel
theorem dX4_holds_5 : decode cX4_holds 5 = .ok (.iload_n 1, 1) := by decide +kernel
theorem dX4_holds_6 : decode cX4_holds 6 = .ok (.ifCond .le 7, 3) := by decide +kernel
theorem dX4_holds_9 : decode cX4_holds 9 = .ok (.iconst 1, 1) := by decide +kernel
theorem dX4_holds_10 : decode cX4_holds 10 = .ok (.goto 4, 3) := by decide +kernel
theorem dX4_holds_13 : decode cX4_holds 13 = .ok (.iconst 0, 1) := by decide +kernel
theorem dX4_holds_14 : decode cX4_holds 14 = .ok (.ireturn, 1) := by decide +kernel
theorem dX4_in_0 : decode cX4_in 0 = .ok (.iload_n 1, 1) := by decide +kernel
theorem dX4_in_1 : decode cX4_in 1 = .ok (.iload_n 2, 1) := by decide +kernel
theorem dX4_in_2 : decode cX4_in 2 = .ok (.if_icmp .lt 12, 3) := by decide +kernel
theorem dX4_in_5 : decode cX4_in 5 = .ok (.iload_n 1, 1) := by decide +kernel
theorem dX4_in_6 : decode cX4_in 6 = .ok (.iload_n 3, 1) := by decide +kernel
theorem dX4_in_7 : decode cX4_in 7 = .ok (.if_icmp .gt 7, 3) := by decide +kernel
theorem dX4_in_10 : decode cX4_in 10 = .ok (.iconst 1, 1) := by decide +kernel
theorem dX4_in_11 : decode cX4_in 11 = .ok (.goto 4, 3) := by decide +kernel
theorem dX4_in_14 : decode cX4_in 14 = .ok (.iconst 0, 1) := by decide +kernel
theorem dX4_in_15 : decode cX4_in 15 = .ok (.ireturn, 1) := by decide +kernel
theorem dX4_frees_0 : decode cX4_frees 0 = .ok (.iconst 0, 1) := by decide +kernel
theorem dX4_frees_1 : decode cX4_frees 1 = .ok (.istore_n 1, 1) := by decide +kernel
theorem dX4_frees_2 : decode cX4_frees 2 = .ok (.iload_n 1, 1) := by decide +kernel
theorem dX4_frees_3 : decode cX4_frees 3 = .ok (.bipush 39, 2) := by decide +kernel
theorem dX4_frees_5 : decode cX4_frees 5 = .ok (.if_icmp .ge 16, 3) := by decide +kernel
theorem dX4_frees_8 : decode cX4_frees 8 = .ok (.aload_n 0, 1) := by decide +kernel
theorem dX4_frees_9 : decode cX4_frees 9 = .ok (.getfield 46, 3) := by decide +kernel
theorem dX4_frees_12 : decode cX4_frees 12 = .ok (.iload_n 1, 1) := by decide +kernel
theorem dX4_frees_13 : decode cX4_frees 13 = .ok (.iconst (-1), 1) := by decide +kernel
theorem dX4_frees_14 : decode cX4_frees 14 = .ok (.iastore, 1) := by decide +kernel
theorem dX4_frees_15 : decode cX4_frees 15 = .ok (.iinc 1 1, 3) := by decide +kernel
theorem dX4_frees_18 : decode cX4_frees 18 = .ok (.goto (-16), 3) := by decide +kernel
theorem dX4_frees_21 : decode cX4_frees 21 = .ok (.return_, 1) := by decide +kernel
theorem dX4_isDancer_0 : decode cX4_isDancer 0 = .ok (.aload_n 0, 1) := by decide +kernel
theorem dX4_isDancer_1 : decode cX4_isDancer 1 = .ok (.iload_n 1, 1) := by decide +kernel
theorem dX4_isDancer_2 : decode cX4_isDancer 2 = .ok (.iconst 0, 1) := by decide +kernel
theorem dX4_isDancer_3 : decode cX4_isDancer 3 = .ok (.aload_n 0, 1) := by decide +kernel
theorem dX4_isDancer_4 : decode cX4_isDancer 4 = .ok (.getfield 56, 3) := by decide +kernel
theorem dX4_isDancer_7 : decode cX4_isDancer 7 = .ok (.iconst 1, 1) := by decide +kernel
theorem dX4_isDancer_8 : decode cX4_isDancer 8 = .ok (.isub, 1) := by decide +kernel
theorem dX4_isDancer_9 : decode cX4_isDancer 9 = .ok (.invokevirtual 59, 3) := by decide +kernel
theorem dX4_isDancer_12 : decode cX4_isDancer 12 = .ok (.ireturn, 1) := by decide +kernel
theorem dX4_isCount_0 : decode cX4_isCount 0 = .ok (.aload_n 0, 1) := by decide +kernel
theorem dX4_isCount_1 : decode cX4_isCount 1 = .ok (.iload_n 1, 1) := by decide +kernel
theorem dX4_isCount_2 : decode cX4_isCount 2 = .ok (.iconst 0, 1) := by decide +kernel
theorem dX4_isCount_3 : decode cX4_isCount 3 = .ok (.bipush 63, 2) := by decide +kernel
theorem dX4_isCount_5 : decode cX4_isCount 5 = .ok (.invokevirtual 59, 3) := by decide +kernel
theorem dX4_isCount_8 : decode cX4_isCount 8 = .ok (.ireturn, 1) := by decide +kernel
theorem dX4_dancer_0 : decode cX4_dancer 0 = .ok (.aload_n 0, 1) := by decide +kernel
theorem dX4_dancer_1 : decode cX4_dancer 1 = .ok (.iload_n 1, 1) := by decide +kernel
theorem dX4_dancer_2 : decode cX4_dancer 2 = .ok (.iconst 0, 1) := by decide +kernel
theorem dX4_dancer_3 : decode cX4_dancer 3 = .ok (.bipush 7, 2) := by decide +kernel
theorem dX4_dancer_5 : decode cX4_dancer 5 = .ok (.invokevirtual 59, 3) := by decide +kernel
theorem dX4_dancer_8 : decode cX4_dancer 8 = .ok (.ifCond .eq 18, 3) := by decide +kernel
theorem dX4_dancer_11 : decode cX4_dancer 11 = .ok (.aload_n 0, 1) := by decide +kernel
theorem dX4_dancer_12 : decode cX4_dancer 12 = .ok (.iload_n 2, 1) := by decide +kernel
theorem dX4_dancer_13 : decode cX4_dancer 13 = .ok (.iconst 0, 1) := by decide +kernel
theorem dX4_dancer_14 : decode cX4_dancer 14 = .ok (.bipush 7, 2) := by decide +kernel
theorem dX4_dancer_16 : decode cX4_dancer 16 = .ok (.invokevirtual 59, 3) := by decide +kernel
theorem dX4_dancer_19 : decode cX4_dancer 19 = .ok (.ifCond .eq 7, 3) := by decide +kernel
theorem dX4_dancer_22 : decode cX4_dancer 22 = .ok (.iconst 1, 1) := by decide +kernel
theorem dX4_dancer_23 : decode cX4_dancer 23 = .ok (.goto 4, 3) := by decide +kernel
theorem dX4_dancer_26 : decode cX4_dancer 26 = .ok (.iconst 0, 1) := by decide +kernel
theorem dX4_dancer_27 : decode cX4_dancer 27 = .ok (.istore_n 3, 1) := by decide +kernel
theorem dX4_dancer_28 : decode cX4_dancer 28 = .ok (.iconst 0, 1) := by decide +kernel
theorem dX4_dancer_29 : decode cX4_dancer 29 = .ok (.istore 4, 2) := by decide +kernel
theorem dX4_dancer_31 : decode cX4_dancer 31 = .ok (.iconst 0, 1) := by decide +kernel
theorem dX4_dancer_32 : decode cX4_dancer 32 = .ok (.istore 5, 2) := by decide +kernel
theorem dX4_dancer_34 : decode cX4_dancer 34 = .ok (.iload 5, 2) := by decide +kernel
theorem dX4_dancer_36 : decode cX4_dancer 36 = .ok (.aload_n 0, 1) := by decide +kernel
theorem dX4_dancer_37 : decode cX4_dancer 37 = .ok (.getfield 56, 3) := by decide +kernel
theorem dX4_dancer_40 : decode cX4_dancer 40 = .ok (.if_icmp .ge 41, 3) := by decide +kernel
theorem dX4_dancer_43 : decode cX4_dancer 43 = .ok (.iload 4, 2) := by decide +kernel
theorem dX4_dancer_45 : decode cX4_dancer 45 = .ok (.aload_n 0, 1) := by decide +kernel
theorem dX4_dancer_46 : decode cX4_dancer 46 = .ok (.getfield 7, 3) := by decide +kernel
theorem dX4_dancer_49 : decode cX4_dancer 49 = .ok (.iload 5, 2) := by decide +kernel
theorem dX4_dancer_51 : decode cX4_dancer 51 = .ok (.iaload, 1) := by decide +kernel
theorem dX4_dancer_52 : decode cX4_dancer 52 = .ok (.iload_n 1, 1) := by decide +kernel
theorem dX4_dancer_53 : decode cX4_dancer 53 = .ok (.if_icmp .ne 18, 3) := by decide +kernel
theorem dX4_dancer_56 : decode cX4_dancer 56 = .ok (.aload_n 0, 1) := by decide +kernel
theorem dX4_dancer_57 : decode cX4_dancer 57 = .ok (.getfield 13, 3) := by decide +kernel
theorem dX4_dancer_60 : decode cX4_dancer 60 = .ok (.iload 5, 2) := by decide +kernel
theorem dX4_dancer_62 : decode cX4_dancer 62 = .ok (.iaload, 1) := by decide +kernel
theorem dX4_dancer_63 : decode cX4_dancer 63 = .ok (.iload_n 2, 1) := by decide +kernel
theorem dX4_dancer_64 : decode cX4_dancer 64 = .ok (.if_icmp .ne 7, 3) := by decide +kernel
theorem dX4_dancer_67 : decode cX4_dancer 67 = .ok (.iconst 1, 1) := by decide +kernel
theorem dX4_dancer_68 : decode cX4_dancer 68 = .ok (.goto 4, 3) := by decide +kernel
theorem dX4_dancer_71 : decode cX4_dancer 71 = .ok (.iconst 0, 1) := by decide +kernel
theorem dX4_dancer_72 : decode cX4_dancer 72 = .ok (.ior, 1) := by decide +kernel
theorem dX4_dancer_73 : decode cX4_dancer 73 = .ok (.istore 4, 2) := by decide +kernel
theorem dX4_dancer_75 : decode cX4_dancer 75 = .ok (.iinc 5 1, 3) := by decide +kernel
theorem dX4_dancer_78 : decode cX4_dancer 78 = .ok (.goto (-44), 3) := by decide +kernel
theorem dX4_dancer_81 : decode cX4_dancer 81 = .ok (.aload_n 0, 1) := by decide +kernel
theorem dX4_dancer_82 : decode cX4_dancer 82 = .ok (.iload_n 3, 1) := by decide +kernel
theorem dX4_dancer_83 : decode cX4_dancer 83 = .ok (.ifCond .ne 7, 3) := by decide +kernel
theorem dX4_dancer_86 : decode cX4_dancer 86 = .ok (.iconst 1, 1) := by decide +kernel
theorem dX4_dancer_87 : decode cX4_dancer 87 = .ok (.goto 22, 3) := by decide +kernel
theorem dX4_dancer_90 : decode cX4_dancer 90 = .ok (.iload 4, 2) := by decide +kernel
theorem dX4_dancer_92 : decode cX4_dancer 92 = .ok (.ifCond .ne 12, 3) := by decide +kernel
theorem dX4_dancer_95 : decode cX4_dancer 95 = .ok (.aload_n 0, 1) := by decide +kernel
theorem dX4_dancer_96 : decode cX4_dancer 96 = .ok (.getfield 56, 3) := by decide +kernel
theorem dX4_dancer_99 : decode cX4_dancer 99 = .ok (.bipush 8, 2) := by decide +kernel
theorem dX4_dancer_101 : decode cX4_dancer 101 = .ok (.if_icmp .ne 7, 3) := by decide +kernel
theorem dX4_dancer_104 : decode cX4_dancer 104 = .ok (.iconst 2, 1) := by decide +kernel
theorem dX4_dancer_105 : decode cX4_dancer 105 = .ok (.goto 4, 3) := by decide +kernel
theorem dX4_dancer_108 : decode cX4_dancer 108 = .ok (.iconst 0, 1) := by decide +kernel
theorem dX4_dancer_109 : decode cX4_dancer 109 = .ok (.invokevirtual 63, 3) := by decide +kernel
theorem dX4_dancer_112 : decode cX4_dancer 112 = .ok (.ifCond .eq 5, 3) := by decide +kernel
theorem dX4_dancer_115 : decode cX4_dancer 115 = .ok (.iconst (-1), 1) := by decide +kernel
theorem dX4_dancer_116 : decode cX4_dancer 116 = .ok (.ireturn, 1) := by decide +kernel
theorem dX4_dancer_117 : decode cX4_dancer 117 = .ok (.aload_n 0, 1) := by decide +kernel
theorem dX4_dancer_118 : decode cX4_dancer 118 = .ok (.getfield 7, 3) := by decide +kernel
theorem dX4_dancer_121 : decode cX4_dancer 121 = .ok (.aload_n 0, 1) := by decide +kernel
theorem dX4_dancer_122 : decode cX4_dancer 122 = .ok (.getfield 56, 3) := by decide +kernel
theorem dX4_dancer_125 : decode cX4_dancer 125 = .ok (.iload_n 1, 1) := by decide +kernel
theorem dX4_dancer_126 : decode cX4_dancer 126 = .ok (.iastore, 1) := by decide +kernel
theorem dX4_dancer_127 : decode cX4_dancer 127 = .ok (.aload_n 0, 1) := by decide +kernel
theorem dX4_dancer_128 : decode cX4_dancer 128 = .ok (.getfield 13, 3) := by decide +kernel
theorem dX4_dancer_131 : decode cX4_dancer 131 = .ok (.aload_n 0, 1) := by decide +kernel
theorem dX4_dancer_132 : decode cX4_dancer 132 = .ok (.getfield 56, 3) := by decide +kernel
theorem dX4_dancer_135 : decode cX4_dancer 135 = .ok (.iload_n 2, 1) := by decide +kernel
theorem dX4_dancer_136 : decode cX4_dancer 136 = .ok (.iastore, 1) := by decide +kernel
theorem dX4_dancer_137 : decode cX4_dancer 137 = .ok (.aload_n 0, 1) := by decide +kernel
theorem dX4_dancer_138 : decode cX4_dancer 138 = .ok (.dup, 1) := by decide +kernel
theorem dX4_dancer_139 : decode cX4_dancer 139 = .ok (.getfield 56, 3) := by decide +kernel
theorem dX4_dancer_142 : decode cX4_dancer 142 = .ok (.iconst 1, 1) := by decide +kernel
theorem dX4_dancer_143 : decode cX4_dancer 143 = .ok (.iadd, 1) := by decide +kernel
theorem dX4_dancer_144 : decode cX4_dancer 144 = .ok (.putfield 56, 3) := by decide +kernel
theorem dX4_dancer_147 : decode cX4_dancer 147 = .ok (.aload_n 0, 1) := by decide +kernel
theorem dX4_dancer_148 : decode cX4_dancer 148 = .ok (.getfield 56, 3) := by decide +kernel
theorem dX4_dancer_151 : decode cX4_dancer 151 = .ok (.iconst 1, 1) := by decide +kernel
theorem dX4_dancer_152 : decode cX4_dancer 152 = .ok (.isub, 1) := by decide +kernel
theorem dX4_dancer_153 : decode cX4_dancer 153 = .ok (.ireturn, 1) := by decide +kernel
theorem dX4_move_0 : decode cX4_move 0 = .ok (.aload_n 0, 1) := by decide +kernel
theorem dX4_move_1 : decode cX4_move 1 = .ok (.iload_n 1, 1) := by decide +kernel
theorem dX4_move_2 : decode cX4_move 2 = .ok (.invokevirtual 67, 3) := by decide +kernel
theorem dX4_move_5 : decode cX4_move 5 = .ok (.ifCond .eq 15, 3) := by decide +kernel
theorem dX4_move_8 : decode cX4_move 8 = .ok (.aload_n 0, 1) := by decide +kernel
theorem dX4_move_9 : decode cX4_move 9 = .ok (.iload_n 2, 1) := by decide +kernel
theorem dX4_move_10 : decode cX4_move 10 = .ok (.invokevirtual 70, 3) := by decide +kernel
theorem dX4_move_13 : decode cX4_move 13 = .ok (.ifCond .eq 7, 3) := by decide +kernel
theorem dX4_move_16 : decode cX4_move 16 = .ok (.iconst 1, 1) := by decide +kernel
theorem dX4_move_17 : decode cX4_move 17 = .ok (.goto 4, 3) := by decide +kernel
theorem dX4_move_20 : decode cX4_move 20 = .ok (.iconst 0, 1) := by decide +kernel
theorem dX4_move_21 : decode cX4_move 21 = .ok (.istore 5, 2) := by decide +kernel
theorem dX4_move_23 : decode cX4_move 23 = .ok (.aload_n 0, 1) := by decide +kernel
theorem dX4_move_24 : decode cX4_move 24 = .ok (.iload 5, 2) := by decide +kernel
theorem dX4_move_26 : decode cX4_move 26 = .ok (.ifCond .ne 7, 3) := by decide +kernel
theorem dX4_move_29 : decode cX4_move 29 = .ok (.iconst 1, 1) := by decide +kernel
theorem dX4_move_30 : decode cX4_move 30 = .ok (.goto 45, 3) := by decide +kernel
theorem dX4_move_33 : decode cX4_move 33 = .ok (.aload_n 0, 1) := by decide +kernel
theorem dX4_move_34 : decode cX4_move 34 = .ok (.iload_n 3, 1) := by decide +kernel
theorem dX4_move_35 : decode cX4_move 35 = .ok (.bipush (-2), 2) := by decide +kernel
theorem dX4_move_37 : decode cX4_move 37 = .ok (.iconst 2, 1) := by decide +kernel
theorem dX4_move_38 : decode cX4_move 38 = .ok (.invokevirtual 59, 3) := by decide +kernel
theorem dX4_move_41 : decode cX4_move 41 = .ok (.ifCond .eq 15, 3) := by decide +kernel
theorem dX4_move_44 : decode cX4_move 44 = .ok (.aload_n 0, 1) := by decide +kernel
theorem dX4_move_45 : decode cX4_move 45 = .ok (.iload 4, 2) := by decide +kernel
theorem dX4_move_47 : decode cX4_move 47 = .ok (.bipush (-2), 2) := by decide +kernel
theorem dX4_move_49 : decode cX4_move 49 = .ok (.iconst 2, 1) := by decide +kernel
theorem dX4_move_50 : decode cX4_move 50 = .ok (.invokevirtual 59, 3) := by decide +kernel
theorem dX4_move_53 : decode cX4_move 53 = .ok (.ifCond .ne 7, 3) := by decide +kernel
theorem dX4_move_56 : decode cX4_move 56 = .ok (.iconst 2, 1) := by decide +kernel
theorem dX4_move_57 : decode cX4_move 57 = .ok (.goto 18, 3) := by decide +kernel
theorem dX4_move_60 : decode cX4_move 60 = .ok (.aload_n 0, 1) := by decide +kernel
theorem dX4_move_61 : decode cX4_move 61 = .ok (.getfield 16, 3) := by decide +kernel
theorem dX4_move_64 : decode cX4_move 64 = .ok (.iload_n 1, 1) := by decide +kernel
theorem dX4_move_65 : decode cX4_move 65 = .ok (.iaload, 1) := by decide +kernel
theorem dX4_move_66 : decode cX4_move 66 = .ok (.iconst 1, 1) := by decide +kernel
theorem dX4_move_67 : decode cX4_move 67 = .ok (.if_icmp .ne 7, 3) := by decide +kernel
theorem dX4_move_70 : decode cX4_move 70 = .ok (.iconst 3, 1) := by decide +kernel
theorem dX4_move_71 : decode cX4_move 71 = .ok (.goto 4, 3) := by decide +kernel
theorem dX4_move_74 : decode cX4_move 74 = .ok (.iconst 0, 1) := by decide +kernel
theorem dX4_move_75 : decode cX4_move 75 = .ok (.invokevirtual 63, 3) := by decide +kernel
theorem dX4_move_78 : decode cX4_move 78 = .ok (.ifCond .eq 5, 3) := by decide +kernel
theorem dX4_move_81 : decode cX4_move 81 = .ok (.iconst (-1), 1) := by decide +kernel
theorem dX4_move_82 : decode cX4_move 82 = .ok (.ireturn, 1) := by decide +kernel
theorem dX4_move_83 : decode cX4_move 83 = .ok (.aload_n 0, 1) := by decide +kernel
theorem dX4_move_84 : decode cX4_move 84 = .ok (.getfield 22, 3) := by decide +kernel
theorem dX4_move_87 : decode cX4_move 87 = .ok (.bipush 64, 2) := by decide +kernel
theorem dX4_move_89 : decode cX4_move 89 = .ok (.iload_n 1, 1) := by decide +kernel
theorem dX4_move_90 : decode cX4_move 90 = .ok (.imul, 1) := by decide +kernel
theorem dX4_move_91 : decode cX4_move 91 = .ok (.iload_n 2, 1) := by decide +kernel
theorem dX4_move_92 : decode cX4_move 92 = .ok (.iadd, 1) := by decide +kernel
theorem dX4_move_93 : decode cX4_move 93 = .ok (.iload_n 3, 1) := by decide +kernel
theorem dX4_move_94 : decode cX4_move 94 = .ok (.iastore, 1) := by decide +kernel
theorem dX4_move_95 : decode cX4_move 95 = .ok (.aload_n 0, 1) := by decide +kernel
theorem dX4_move_96 : decode cX4_move 96 = .ok (.getfield 25, 3) := by decide +kernel
theorem dX4_move_99 : decode cX4_move 99 = .ok (.bipush 64, 2) := by decide +kernel
theorem dX4_move_101 : decode cX4_move 101 = .ok (.iload_n 1, 1) := by decide +kernel
theorem dX4_move_102 : decode cX4_move 102 = .ok (.imul, 1) := by decide +kernel
theorem dX4_move_103 : decode cX4_move 103 = .ok (.iload_n 2, 1) := by decide +kernel
theorem dX4_move_104 : decode cX4_move 104 = .ok (.iadd, 1) := by decide +kernel
theorem dX4_move_105 : decode cX4_move 105 = .ok (.iload 4, 2) := by decide +kernel
theorem dX4_move_107 : decode cX4_move 107 = .ok (.iastore, 1) := by decide +kernel
theorem dX4_move_108 : decode cX4_move 108 = .ok (.iconst 0, 1) := by decide +kernel
theorem dX4_move_109 : decode cX4_move 109 = .ok (.istore 6, 2) := by decide +kernel
theorem dX4_move_111 : decode cX4_move 111 = .ok (.bipush 64, 2) := by decide +kernel
theorem dX4_move_113 : decode cX4_move 113 = .ok (.iload_n 1, 1) := by decide +kernel
theorem dX4_move_114 : decode cX4_move 114 = .ok (.imul, 1) := by decide +kernel
theorem dX4_move_115 : decode cX4_move 115 = .ok (.istore 7, 2) := by decide +kernel
theorem dX4_move_117 : decode cX4_move 117 = .ok (.iload 7, 2) := by decide +kernel
theorem dX4_move_119 : decode cX4_move 119 = .ok (.bipush 64, 2) := by decide +kernel
theorem dX4_move_121 : decode cX4_move 121 = .ok (.iload_n 1, 1) := by decide +kernel
theorem dX4_move_122 : decode cX4_move 122 = .ok (.imul, 1) := by decide +kernel
theorem dX4_move_123 : decode cX4_move 123 = .ok (.bipush 64, 2) := by decide +kernel
theorem dX4_move_125 : decode cX4_move 125 = .ok (.iadd, 1) := by decide +kernel
theorem dX4_move_126 : decode cX4_move 126 = .ok (.if_icmp .ge 39, 3) := by decide +kernel
theorem dX4_move_129 : decode cX4_move 129 = .ok (.iload 6, 2) := by decide +kernel
theorem dX4_move_131 : decode cX4_move 131 = .ok (.aload_n 0, 1) := by decide +kernel
theorem dX4_move_132 : decode cX4_move 132 = .ok (.getfield 22, 3) := by decide +kernel
theorem dX4_move_135 : decode cX4_move 135 = .ok (.iload 7, 2) := by decide +kernel
theorem dX4_move_137 : decode cX4_move 137 = .ok (.iaload, 1) := by decide +kernel
theorem dX4_move_138 : decode cX4_move 138 = .ok (.ifCond .ne 13, 3) := by decide +kernel
theorem dX4_move_141 : decode cX4_move 141 = .ok (.aload_n 0, 1) := by decide +kernel
theorem dX4_move_142 : decode cX4_move 142 = .ok (.getfield 25, 3) := by decide +kernel
theorem dX4_move_145 : decode cX4_move 145 = .ok (.iload 7, 2) := by decide +kernel
theorem dX4_move_147 : decode cX4_move 147 = .ok (.iaload, 1) := by decide +kernel
theorem dX4_move_148 : decode cX4_move 148 = .ok (.ifCond .eq 7, 3) := by decide +kernel
theorem dX4_move_151 : decode cX4_move 151 = .ok (.iconst 1, 1) := by decide +kernel
theorem dX4_move_152 : decode cX4_move 152 = .ok (.goto 4, 3) := by decide +kernel
theorem dX4_move_155 : decode cX4_move 155 = .ok (.iconst 0, 1) := by decide +kernel
theorem dX4_move_156 : decode cX4_move 156 = .ok (.iadd, 1) := by decide +kernel
theorem dX4_move_157 : decode cX4_move 157 = .ok (.istore 6, 2) := by decide +kernel
theorem dX4_move_159 : decode cX4_move 159 = .ok (.iinc 7 1, 3) := by decide +kernel
theorem dX4_move_162 : decode cX4_move 162 = .ok (.goto (-45), 3) := by decide +kernel
theorem dX4_move_165 : decode cX4_move 165 = .ok (.iload 6, 2) := by decide +kernel
theorem dX4_move_167 : decode cX4_move 167 = .ok (.ireturn, 1) := by decide +kernel
theorem dX4_x_0 : decode cX4_x 0 = .ok (.aload_n 0, 1) := by decide +kernel
theorem dX4_x_1 : decode cX4_x 1 = .ok (.getfield 7, 3) := by decide +kernel
theorem dX4_x_4 : decode cX4_x 4 = .ok (.iload_n 1, 1) := by decide +kernel
theorem dX4_x_5 : decode cX4_x 5 = .ok (.iaload, 1) := by decide +kernel
theorem dX4_x_6 : decode cX4_x 6 = .ok (.istore_n 3, 1) := by decide +kernel
theorem dX4_x_7 : decode cX4_x 7 = .ok (.bipush 64, 2) := by decide +kernel
theorem dX4_x_9 : decode cX4_x 9 = .ok (.iload_n 1, 1) := by decide +kernel
theorem dX4_x_10 : decode cX4_x 10 = .ok (.imul, 1) := by decide +kernel
theorem dX4_x_11 : decode cX4_x 11 = .ok (.istore 4, 2) := by decide +kernel
theorem dX4_x_13 : decode cX4_x 13 = .ok (.iload 4, 2) := by decide +kernel
theorem dX4_x_15 : decode cX4_x 15 = .ok (.bipush 64, 2) := by decide +kernel
theorem dX4_x_17 : decode cX4_x 17 = .ok (.iload_n 1, 1) := by decide +kernel
theorem dX4_x_18 : decode cX4_x 18 = .ok (.imul, 1) := by decide +kernel
theorem dX4_x_19 : decode cX4_x 19 = .ok (.iload_n 2, 1) := by decide +kernel
theorem dX4_x_20 : decode cX4_x 20 = .ok (.iadd, 1) := by decide +kernel
theorem dX4_x_21 : decode cX4_x 21 = .ok (.if_icmp .gt 19, 3) := by decide +kernel
theorem dX4_x_24 : decode cX4_x 24 = .ok (.iload_n 3, 1) := by decide +kernel
theorem dX4_x_25 : decode cX4_x 25 = .ok (.aload_n 0, 1) := by decide +kernel
theorem dX4_x_26 : decode cX4_x 26 = .ok (.getfield 22, 3) := by decide +kernel
theorem dX4_x_29 : decode cX4_x 29 = .ok (.iload 4, 2) := by decide +kernel
theorem dX4_x_31 : decode cX4_x 31 = .ok (.iaload, 1) := by decide +kernel
theorem dX4_x_32 : decode cX4_x 32 = .ok (.iadd, 1) := by decide +kernel
theorem dX4_x_33 : decode cX4_x 33 = .ok (.istore_n 3, 1) := by decide +kernel
theorem dX4_x_34 : decode cX4_x 34 = .ok (.iinc 4 1, 3) := by decide +kernel
theorem dX4_x_37 : decode cX4_x 37 = .ok (.goto (-24), 3) := by decide +kernel
theorem dX4_x_40 : decode cX4_x 40 = .ok (.iload_n 3, 1) := by decide +kernel
theorem dX4_x_41 : decode cX4_x 41 = .ok (.ireturn, 1) := by decide +kernel
theorem dX4_y_0 : decode cX4_y 0 = .ok (.aload_n 0, 1) := by decide +kernel
theorem dX4_y_1 : decode cX4_y 1 = .ok (.getfield 13, 3) := by decide +kernel
theorem dX4_y_4 : decode cX4_y 4 = .ok (.iload_n 1, 1) := by decide +kernel
theorem dX4_y_5 : decode cX4_y 5 = .ok (.iaload, 1) := by decide +kernel
theorem dX4_y_6 : decode cX4_y 6 = .ok (.istore_n 3, 1) := by decide +kernel
theorem dX4_y_7 : decode cX4_y 7 = .ok (.bipush 64, 2) := by decide +kernel
theorem dX4_y_9 : decode cX4_y 9 = .ok (.iload_n 1, 1) := by decide +kernel
theorem dX4_y_10 : decode cX4_y 10 = .ok (.imul, 1) := by decide +kernel
theorem dX4_y_11 : decode cX4_y 11 = .ok (.istore 4, 2) := by decide +kernel
theorem dX4_y_13 : decode cX4_y 13 = .ok (.iload 4, 2) := by decide +kernel
theorem dX4_y_15 : decode cX4_y 15 = .ok (.bipush 64, 2) := by decide +kernel
theorem dX4_y_17 : decode cX4_y 17 = .ok (.iload_n 1, 1) := by decide +kernel
theorem dX4_y_18 : decode cX4_y 18 = .ok (.imul, 1) := by decide +kernel
theorem dX4_y_19 : decode cX4_y 19 = .ok (.iload_n 2, 1) := by decide +kernel
theorem dX4_y_20 : decode cX4_y 20 = .ok (.iadd, 1) := by decide +kernel
theorem dX4_y_21 : decode cX4_y 21 = .ok (.if_icmp .gt 19, 3) := by decide +kernel
theorem dX4_y_24 : decode cX4_y 24 = .ok (.iload_n 3, 1) := by decide +kernel
theorem dX4_y_25 : decode cX4_y 25 = .ok (.aload_n 0, 1) := by decide +kernel
theorem dX4_y_26 : decode cX4_y 26 = .ok (.getfield 25, 3) := by decide +kernel
theorem dX4_y_29 : decode cX4_y 29 = .ok (.iload 4, 2) := by decide +kernel
theorem dX4_y_31 : decode cX4_y 31 = .ok (.iaload, 1) := by decide +kernel
theorem dX4_y_32 : decode cX4_y 32 = .ok (.iadd, 1) := by decide +kernel
theorem dX4_y_33 : decode cX4_y 33 = .ok (.istore_n 3, 1) := by decide +kernel
theorem dX4_y_34 : decode cX4_y 34 = .ok (.iinc 4 1, 3) := by decide +kernel
theorem dX4_y_37 : decode cX4_y 37 = .ok (.goto (-24), 3) := by decide +kernel
theorem dX4_y_40 : decode cX4_y 40 = .ok (.iload_n 3, 1) := by decide +kernel
theorem dX4_y_41 : decode cX4_y 41 = .ok (.ireturn, 1) := by decide +kernel
theorem dX4_place_0 : decode cX4_place 0 = .ok (.aload_n 0, 1) := by decide +kernel
theorem dX4_place_1 : decode cX4_place 1 = .ok (.aload_n 0, 1) := by decide +kernel
theorem dX4_place_2 : decode cX4_place 2 = .ok (.iload_n 1, 1) := by decide +kernel
theorem dX4_place_3 : decode cX4_place 3 = .ok (.invokevirtual 67, 3) := by decide +kernel
theorem dX4_place_6 : decode cX4_place 6 = .ok (.ifCond .eq 15, 3) := by decide +kernel
theorem dX4_place_9 : decode cX4_place 9 = .ok (.aload_n 0, 1) := by decide +kernel
theorem dX4_place_10 : decode cX4_place 10 = .ok (.iload_n 2, 1) := by decide +kernel
theorem dX4_place_11 : decode cX4_place 11 = .ok (.invokevirtual 70, 3) := by decide +kernel
theorem dX4_place_14 : decode cX4_place 14 = .ok (.ifCond .eq 7, 3) := by decide +kernel
theorem dX4_place_17 : decode cX4_place 17 = .ok (.iconst 0, 1) := by decide +kernel
theorem dX4_place_18 : decode cX4_place 18 = .ok (.goto 4, 3) := by decide +kernel
theorem dX4_place_21 : decode cX4_place 21 = .ok (.iconst 1, 1) := by decide +kernel
theorem dX4_place_22 : decode cX4_place 22 = .ok (.invokevirtual 63, 3) := by decide +kernel
theorem dX4_place_25 : decode cX4_place 25 = .ok (.ifCond .eq 7, 3) := by decide +kernel
theorem dX4_place_28 : decode cX4_place 28 = .ok (.iconst (-1), 1) := by decide +kernel
theorem dX4_place_29 : decode cX4_place 29 = .ok (.goto 22, 3) := by decide +kernel
theorem dX4_place_32 : decode cX4_place 32 = .ok (.iload_n 3, 1) := by decide +kernel
theorem dX4_place_33 : decode cX4_place 33 = .ok (.ifCond .eq 12, 3) := by decide +kernel
theorem dX4_place_36 : decode cX4_place 36 = .ok (.aload_n 0, 1) := by decide +kernel
theorem dX4_place_37 : decode cX4_place 37 = .ok (.iload_n 1, 1) := by decide +kernel
theorem dX4_place_38 : decode cX4_place 38 = .ok (.iload_n 2, 1) := by decide +kernel
theorem dX4_place_39 : decode cX4_place 39 = .ok (.invokevirtual 73, 3) := by decide +kernel
theorem dX4_place_42 : decode cX4_place 42 = .ok (.goto 9, 3) := by decide +kernel
theorem dX4_place_45 : decode cX4_place 45 = .ok (.aload_n 0, 1) := by decide +kernel
theorem dX4_place_46 : decode cX4_place 46 = .ok (.iload_n 1, 1) := by decide +kernel
theorem dX4_place_47 : decode cX4_place 47 = .ok (.iload_n 2, 1) := by decide +kernel
theorem dX4_place_48 : decode cX4_place 48 = .ok (.invokevirtual 77, 3) := by decide +kernel
theorem dX4_place_51 : decode cX4_place 51 = .ok (.ireturn, 1) := by decide +kernel
theorem dX4_placeAnew_0 : decode cX4_placeAnew 0 = .ok (.aload_n 0, 1) := by decide +kernel
theorem dX4_placeAnew_1 : decode cX4_placeAnew 1 = .ok (.aload_n 0, 1) := by decide +kernel
theorem dX4_placeAnew_2 : decode cX4_placeAnew 2 = .ok (.iload_n 1, 1) := by decide +kernel
theorem dX4_placeAnew_3 : decode cX4_placeAnew 3 = .ok (.invokevirtual 67, 3) := by decide +kernel
theorem dX4_placeAnew_6 : decode cX4_placeAnew 6 = .ok (.ifCond .eq 15, 3) := by decide +kernel
theorem dX4_placeAnew_9 : decode cX4_placeAnew 9 = .ok (.aload_n 0, 1) := by decide +kernel
theorem dX4_placeAnew_10 : decode cX4_placeAnew 10 = .ok (.iload_n 2, 1) := by decide +kernel
theorem dX4_placeAnew_11 : decode cX4_placeAnew 11 = .ok (.invokevirtual 70, 3) := by decide +kernel
theorem dX4_placeAnew_14 : decode cX4_placeAnew 14 = .ok (.ifCond .eq 7, 3) := by decide +kernel
theorem dX4_placeAnew_17 : decode cX4_placeAnew 17 = .ok (.iconst 0, 1) := by decide +kernel
theorem dX4_placeAnew_18 : decode cX4_placeAnew 18 = .ok (.goto 4, 3) := by decide +kernel
theorem dX4_placeAnew_21 : decode cX4_placeAnew 21 = .ok (.iconst 1, 1) := by decide +kernel
theorem dX4_placeAnew_22 : decode cX4_placeAnew 22 = .ok (.invokevirtual 63, 3) := by decide +kernel
theorem dX4_placeAnew_25 : decode cX4_placeAnew 25 = .ok (.ifCond .eq 7, 3) := by decide +kernel
theorem dX4_placeAnew_28 : decode cX4_placeAnew 28 = .ok (.iconst (-1), 1) := by decide +kernel
theorem dX4_placeAnew_29 : decode cX4_placeAnew 29 = .ok (.goto 22, 3) := by decide +kernel
theorem dX4_placeAnew_32 : decode cX4_placeAnew 32 = .ok (.iload_n 3, 1) := by decide +kernel
theorem dX4_placeAnew_33 : decode cX4_placeAnew 33 = .ok (.ifCond .eq 12, 3) := by decide +kernel
theorem dX4_placeAnew_36 : decode cX4_placeAnew 36 = .ok (.aload_n 0, 1) := by decide +kernel
theorem dX4_placeAnew_37 : decode cX4_placeAnew 37 = .ok (.iload_n 1, 1) := by decide +kernel
theorem dX4_placeAnew_38 : decode cX4_placeAnew 38 = .ok (.iload_n 2, 1) := by decide +kernel
theorem dX4_placeAnew_39 : decode cX4_placeAnew 39 = .ok (.invokevirtual 73, 3) := by decide +kernel
theorem dX4_placeAnew_42 : decode cX4_placeAnew 42 = .ok (.goto 9, 3) := by decide +kernel
theorem dX4_placeAnew_45 : decode cX4_placeAnew 45 = .ok (.aload_n 0, 1) := by decide +kernel
theorem dX4_placeAnew_46 : decode cX4_placeAnew 46 = .ok (.iload_n 1, 1) := by decide +kernel
theorem dX4_placeAnew_47 : decode cX4_placeAnew 47 = .ok (.iload_n 2, 1) := by decide +kernel
theorem dX4_placeAnew_48 : decode cX4_placeAnew 48 = .ok (.invokevirtual 77, 3) := by decide +kernel
theorem dX4_placeAnew_51 : decode cX4_placeAnew 51 = .ok (.ireturn, 1) := by decide +kernel
theorem dX4_isAt_0 : decode cX4_isAt 0 = .ok (.aload_n 0, 1) := by decide +kernel
theorem dX4_isAt_1 : decode cX4_isAt 1 = .ok (.iload_n 1, 1) := by decide +kernel
theorem dX4_isAt_2 : decode cX4_isAt 2 = .ok (.iload_n 2, 1) := by decide +kernel
theorem dX4_isAt_3 : decode cX4_isAt 3 = .ok (.invokevirtual 77, 3) := by decide +kernel
theorem dX4_isAt_6 : decode cX4_isAt 6 = .ok (.aload_n 0, 1) := by decide +kernel
theorem dX4_isAt_7 : decode cX4_isAt 7 = .ok (.iload_n 3, 1) := by decide +kernel
theorem dX4_isAt_8 : decode cX4_isAt 8 = .ok (.iload 4, 2) := by decide +kernel
theorem dX4_isAt_10 : decode cX4_isAt 10 = .ok (.invokevirtual 77, 3) := by decide +kernel
theorem dX4_isAt_13 : decode cX4_isAt 13 = .ok (.if_icmp .ne 23, 3) := by decide +kernel
theorem dX4_isAt_16 : decode cX4_isAt 16 = .ok (.aload_n 0, 1) := by decide +kernel
theorem dX4_isAt_17 : decode cX4_isAt 17 = .ok (.iload_n 1, 1) := by decide +kernel
theorem dX4_isAt_18 : decode cX4_isAt 18 = .ok (.iload_n 2, 1) := by decide +kernel
theorem dX4_isAt_19 : decode cX4_isAt 19 = .ok (.invokevirtual 73, 3) := by decide +kernel
theorem dX4_isAt_22 : decode cX4_isAt 22 = .ok (.aload_n 0, 1) := by decide +kernel
theorem dX4_isAt_23 : decode cX4_isAt 23 = .ok (.iload_n 3, 1) := by decide +kernel
theorem dX4_isAt_24 : decode cX4_isAt 24 = .ok (.iload 4, 2) := by decide +kernel
theorem dX4_isAt_26 : decode cX4_isAt 26 = .ok (.invokevirtual 73, 3) := by decide +kernel
theorem dX4_isAt_29 : decode cX4_isAt 29 = .ok (.if_icmp .ne 7, 3) := by decide +kernel
theorem dX4_isAt_32 : decode cX4_isAt 32 = .ok (.iconst 1, 1) := by decide +kernel
theorem dX4_isAt_33 : decode cX4_isAt 33 = .ok (.goto 4, 3) := by decide +kernel
theorem dX4_isAt_36 : decode cX4_isAt 36 = .ok (.iconst 0, 1) := by decide +kernel
theorem dX4_isAt_37 : decode cX4_isAt 37 = .ok (.ireturn, 1) := by decide +kernel
theorem dX4_clash_0 : decode cX4_clash 0 = .ok (.iconst 0, 1) := by decide +kernel
theorem dX4_clash_1 : decode cX4_clash 1 = .ok (.istore_n 2, 1) := by decide +kernel
theorem dX4_clash_2 : decode cX4_clash 2 = .ok (.iconst 0, 1) := by decide +kernel
theorem dX4_clash_3 : decode cX4_clash 3 = .ok (.istore_n 3, 1) := by decide +kernel
theorem dX4_clash_4 : decode cX4_clash 4 = .ok (.iload_n 3, 1) := by decide +kernel
theorem dX4_clash_5 : decode cX4_clash 5 = .ok (.aload_n 0, 1) := by decide +kernel
theorem dX4_clash_6 : decode cX4_clash 6 = .ok (.getfield 56, 3) := by decide +kernel
theorem dX4_clash_9 : decode cX4_clash 9 = .ok (.if_icmp .ge 112, 3) := by decide +kernel
theorem dX4_clash_12 : decode cX4_clash 12 = .ok (.iload_n 2, 1) := by decide +kernel
theorem dX4_clash_13 : decode cX4_clash 13 = .ok (.aload_n 0, 1) := by decide +kernel
theorem dX4_clash_14 : decode cX4_clash 14 = .ok (.aload_n 0, 1) := by decide +kernel
theorem dX4_clash_15 : decode cX4_clash 15 = .ok (.iload_n 3, 1) := by decide +kernel
theorem dX4_clash_16 : decode cX4_clash 16 = .ok (.iload_n 1, 1) := by decide +kernel
theorem dX4_clash_17 : decode cX4_clash 17 = .ok (.invokevirtual 77, 3) := by decide +kernel
theorem dX4_clash_20 : decode cX4_clash 20 = .ok (.iconst 0, 1) := by decide +kernel
theorem dX4_clash_21 : decode cX4_clash 21 = .ok (.bipush 7, 2) := by decide +kernel
theorem dX4_clash_23 : decode cX4_clash 23 = .ok (.invokevirtual 59, 3) := by decide +kernel
theorem dX4_clash_26 : decode cX4_clash 26 = .ok (.ifCond .eq 23, 3) := by decide +kernel
theorem dX4_clash_29 : decode cX4_clash 29 = .ok (.aload_n 0, 1) := by decide +kernel
theorem dX4_clash_30 : decode cX4_clash 30 = .ok (.aload_n 0, 1) := by decide +kernel
theorem dX4_clash_31 : decode cX4_clash 31 = .ok (.iload_n 3, 1) := by decide +kernel
theorem dX4_clash_32 : decode cX4_clash 32 = .ok (.iload_n 1, 1) := by decide +kernel
theorem dX4_clash_33 : decode cX4_clash 33 = .ok (.invokevirtual 73, 3) := by decide +kernel
theorem dX4_clash_36 : decode cX4_clash 36 = .ok (.iconst 0, 1) := by decide +kernel
theorem dX4_clash_37 : decode cX4_clash 37 = .ok (.bipush 7, 2) := by decide +kernel
theorem dX4_clash_39 : decode cX4_clash 39 = .ok (.invokevirtual 59, 3) := by decide +kernel
theorem dX4_clash_42 : decode cX4_clash 42 = .ok (.ifCond .eq 7, 3) := by decide +kernel
theorem dX4_clash_45 : decode cX4_clash 45 = .ok (.iconst 0, 1) := by decide +kernel
theorem dX4_clash_46 : decode cX4_clash 46 = .ok (.goto 4, 3) := by decide +kernel
theorem dX4_clash_49 : decode cX4_clash 49 = .ok (.iconst 1, 1) := by decide +kernel
theorem dX4_clash_50 : decode cX4_clash 50 = .ok (.iadd, 1) := by decide +kernel
theorem dX4_clash_51 : decode cX4_clash 51 = .ok (.istore_n 2, 1) := by decide +kernel
theorem dX4_clash_52 : decode cX4_clash 52 = .ok (.iconst 0, 1) := by decide +kernel
theorem dX4_clash_53 : decode cX4_clash 53 = .ok (.istore 4, 2) := by decide +kernel
theorem dX4_clash_55 : decode cX4_clash 55 = .ok (.iload 4, 2) := by decide +kernel
theorem dX4_clash_57 : decode cX4_clash 57 = .ok (.iload_n 3, 1) := by decide +kernel
theorem dX4_clash_58 : decode cX4_clash 58 = .ok (.if_icmp .ge 57, 3) := by decide +kernel
theorem dX4_clash_61 : decode cX4_clash 61 = .ok (.iload_n 2, 1) := by decide +kernel
theorem dX4_clash_62 : decode cX4_clash 62 = .ok (.aload_n 0, 1) := by decide +kernel
theorem dX4_clash_63 : decode cX4_clash 63 = .ok (.iload_n 3, 1) := by decide +kernel
theorem dX4_clash_64 : decode cX4_clash 64 = .ok (.iload_n 1, 1) := by decide +kernel
theorem dX4_clash_65 : decode cX4_clash 65 = .ok (.iload 4, 2) := by decide +kernel
theorem dX4_clash_67 : decode cX4_clash 67 = .ok (.iload_n 1, 1) := by decide +kernel
theorem dX4_clash_68 : decode cX4_clash 68 = .ok (.invokevirtual 80, 3) := by decide +kernel
theorem dX4_clash_71 : decode cX4_clash 71 = .ok (.ifCond .ne 31, 3) := by decide +kernel
theorem dX4_clash_74 : decode cX4_clash 74 = .ok (.aload_n 0, 1) := by decide +kernel
theorem dX4_clash_75 : decode cX4_clash 75 = .ok (.iload_n 3, 1) := by decide +kernel
theorem dX4_clash_76 : decode cX4_clash 76 = .ok (.iload_n 1, 1) := by decide +kernel
theorem dX4_clash_77 : decode cX4_clash 77 = .ok (.iload 4, 2) := by decide +kernel
theorem dX4_clash_79 : decode cX4_clash 79 = .ok (.iload_n 1, 1) := by decide +kernel
theorem dX4_clash_80 : decode cX4_clash 80 = .ok (.iconst 1, 1) := by decide +kernel
theorem dX4_clash_81 : decode cX4_clash 81 = .ok (.isub, 1) := by decide +kernel
theorem dX4_clash_82 : decode cX4_clash 82 = .ok (.invokevirtual 80, 3) := by decide +kernel
theorem dX4_clash_85 : decode cX4_clash 85 = .ok (.ifCond .eq 21, 3) := by decide +kernel
theorem dX4_clash_88 : decode cX4_clash 88 = .ok (.aload_n 0, 1) := by decide +kernel
theorem dX4_clash_89 : decode cX4_clash 89 = .ok (.iload 4, 2) := by decide +kernel
theorem dX4_clash_91 : decode cX4_clash 91 = .ok (.iload_n 1, 1) := by decide +kernel
theorem dX4_clash_92 : decode cX4_clash 92 = .ok (.iload_n 3, 1) := by decide +kernel
theorem dX4_clash_93 : decode cX4_clash 93 = .ok (.iload_n 1, 1) := by decide +kernel
theorem dX4_clash_94 : decode cX4_clash 94 = .ok (.iconst 1, 1) := by decide +kernel
theorem dX4_clash_95 : decode cX4_clash 95 = .ok (.isub, 1) := by decide +kernel
theorem dX4_clash_96 : decode cX4_clash 96 = .ok (.invokevirtual 80, 3) := by decide +kernel
theorem dX4_clash_99 : decode cX4_clash 99 = .ok (.ifCond .eq 7, 3) := by decide +kernel
theorem dX4_clash_102 : decode cX4_clash 102 = .ok (.iconst 1, 1) := by decide +kernel
theorem dX4_clash_103 : decode cX4_clash 103 = .ok (.goto 4, 3) := by decide +kernel
theorem dX4_clash_106 : decode cX4_clash 106 = .ok (.iconst 0, 1) := by decide +kernel
theorem dX4_clash_107 : decode cX4_clash 107 = .ok (.iadd, 1) := by decide +kernel
theorem dX4_clash_108 : decode cX4_clash 108 = .ok (.istore_n 2, 1) := by decide +kernel
theorem dX4_clash_109 : decode cX4_clash 109 = .ok (.iinc 4 1, 3) := by decide +kernel
theorem dX4_clash_112 : decode cX4_clash 112 = .ok (.goto (-57), 3) := by decide +kernel
theorem dX4_clash_115 : decode cX4_clash 115 = .ok (.iinc 3 1, 3) := by decide +kernel
theorem dX4_clash_118 : decode cX4_clash 118 = .ok (.goto (-114), 3) := by decide +kernel
theorem dX4_clash_121 : decode cX4_clash 121 = .ok (.iload_n 2, 1) := by decide +kernel
theorem dX4_clash_122 : decode cX4_clash 122 = .ok (.ireturn, 1) := by decide +kernel
theorem dX4_clashes_0 : decode cX4_clashes 0 = .ok (.aload_n 0, 1) := by decide +kernel
theorem dX4_clashes_1 : decode cX4_clashes 1 = .ok (.aload_n 0, 1) := by decide +kernel
theorem dX4_clashes_2 : decode cX4_clashes 2 = .ok (.iload_n 1, 1) := by decide +kernel
theorem dX4_clashes_3 : decode cX4_clashes 3 = .ok (.invokevirtual 70, 3) := by decide +kernel
theorem dX4_clashes_6 : decode cX4_clashes 6 = .ok (.ifCond .eq 7, 3) := by decide +kernel
theorem dX4_clashes_9 : decode cX4_clashes 9 = .ok (.iconst 0, 1) := by decide +kernel
theorem dX4_clashes_10 : decode cX4_clashes 10 = .ok (.goto 4, 3) := by decide +kernel
theorem dX4_clashes_13 : decode cX4_clashes 13 = .ok (.iconst 1, 1) := by decide +kernel
theorem dX4_clashes_14 : decode cX4_clashes 14 = .ok (.invokevirtual 63, 3) := by decide +kernel
theorem dX4_clashes_17 : decode cX4_clashes 17 = .ok (.ifCond .eq 7, 3) := by decide +kernel
theorem dX4_clashes_20 : decode cX4_clashes 20 = .ok (.iconst (-1), 1) := by decide +kernel
theorem dX4_clashes_21 : decode cX4_clashes 21 = .ok (.goto 8, 3) := by decide +kernel
theorem dX4_clashes_24 : decode cX4_clashes 24 = .ok (.aload_n 0, 1) := by decide +kernel
theorem dX4_clashes_25 : decode cX4_clashes 25 = .ok (.iload_n 1, 1) := by decide +kernel
theorem dX4_clashes_26 : decode cX4_clashes 26 = .ok (.invokevirtual 84, 3) := by decide +kernel
theorem dX4_clashes_29 : decode cX4_clashes 29 = .ok (.ireturn, 1) := by decide +kernel
theorem dX4_firstClash_0 : decode cX4_firstClash 0 = .ok (.aload_n 0, 1) := by decide +kernel
theorem dX4_firstClash_1 : decode cX4_firstClash 1 = .ok (.iconst 0, 1) := by decide +kernel
theorem dX4_firstClash_2 : decode cX4_firstClash 2 = .ok (.invokevirtual 63, 3) := by decide +kernel
theorem dX4_firstClash_5 : decode cX4_firstClash 5 = .ok (.pop, 1) := by decide +kernel
theorem dX4_firstClash_6 : decode cX4_firstClash 6 = .ok (.iconst 0, 1) := by decide +kernel
theorem dX4_firstClash_7 : decode cX4_firstClash 7 = .ok (.istore_n 1, 1) := by decide +kernel
theorem dX4_firstClash_8 : decode cX4_firstClash 8 = .ok (.iload_n 1, 1) := by decide +kernel
theorem dX4_firstClash_9 : decode cX4_firstClash 9 = .ok (.bipush 64, 2) := by decide +kernel
theorem dX4_firstClash_11 : decode cX4_firstClash 11 = .ok (.if_icmp .ge 19, 3) := by decide +kernel
theorem dX4_firstClash_14 : decode cX4_firstClash 14 = .ok (.aload_n 0, 1) := by decide +kernel
theorem dX4_firstClash_15 : decode cX4_firstClash 15 = .ok (.iload_n 1, 1) := by decide +kernel
theorem dX4_firstClash_16 : decode cX4_firstClash 16 = .ok (.invokevirtual 84, 3) := by decide +kernel
theorem dX4_firstClash_19 : decode cX4_firstClash 19 = .ok (.ifCond .le 5, 3) := by decide +kernel
theorem dX4_firstClash_22 : decode cX4_firstClash 22 = .ok (.iload_n 1, 1) := by decide +kernel
theorem dX4_firstClash_23 : decode cX4_firstClash 23 = .ok (.ireturn, 1) := by decide +kernel
theorem dX4_firstClash_24 : decode cX4_firstClash 24 = .ok (.iinc 1 1, 3) := by decide +kernel
theorem dX4_firstClash_27 : decode cX4_firstClash 27 = .ok (.goto (-19), 3) := by decide +kernel
theorem dX4_firstClash_30 : decode cX4_firstClash 30 = .ok (.iconst (-1), 1) := by decide +kernel
theorem dX4_firstClash_31 : decode cX4_firstClash 31 = .ok (.ireturn, 1) := by decide +kernel
theorem dX4_isOf_0 : decode cX4_isOf 0 = .ok (.aload_n 0, 1) := by decide +kernel
theorem dX4_isOf_1 : decode cX4_isOf 1 = .ok (.getfield 31, 3) := by decide +kernel
theorem dX4_isOf_4 : decode cX4_isOf 4 = .ok (.iload_n 1, 1) := by decide +kernel
theorem dX4_isOf_5 : decode cX4_isOf 5 = .ok (.iaload, 1) := by decide +kernel
theorem dX4_isOf_6 : decode cX4_isOf 6 = .ok (.iload_n 2, 1) := by decide +kernel
theorem dX4_isOf_7 : decode cX4_isOf 7 = .ok (.if_icmp .eq 23, 3) := by decide +kernel
theorem dX4_isOf_10 : decode cX4_isOf 10 = .ok (.aload_n 0, 1) := by decide +kernel
theorem dX4_isOf_11 : decode cX4_isOf 11 = .ok (.getfield 34, 3) := by decide +kernel
theorem dX4_isOf_14 : decode cX4_isOf 14 = .ok (.iload_n 1, 1) := by decide +kernel
theorem dX4_isOf_15 : decode cX4_isOf 15 = .ok (.iaload, 1) := by decide +kernel
theorem dX4_isOf_16 : decode cX4_isOf 16 = .ok (.iload_n 2, 1) := by decide +kernel
theorem dX4_isOf_17 : decode cX4_isOf 17 = .ok (.if_icmp .eq 13, 3) := by decide +kernel
theorem dX4_isOf_20 : decode cX4_isOf 20 = .ok (.aload_n 0, 1) := by decide +kernel
theorem dX4_isOf_21 : decode cX4_isOf 21 = .ok (.getfield 37, 3) := by decide +kernel
theorem dX4_isOf_24 : decode cX4_isOf 24 = .ok (.iload_n 1, 1) := by decide +kernel
theorem dX4_isOf_25 : decode cX4_isOf 25 = .ok (.iaload, 1) := by decide +kernel
theorem dX4_isOf_26 : decode cX4_isOf 26 = .ok (.iload_n 2, 1) := by decide +kernel
theorem dX4_isOf_27 : decode cX4_isOf 27 = .ok (.if_icmp .ne 7, 3) := by decide +kernel
theorem dX4_isOf_30 : decode cX4_isOf 30 = .ok (.iconst 1, 1) := by decide +kernel
theorem dX4_isOf_31 : decode cX4_isOf 31 = .ok (.goto 4, 3) := by decide +kernel
theorem dX4_isOf_34 : decode cX4_isOf 34 = .ok (.iconst 0, 1) := by decide +kernel
theorem dX4_isOf_35 : decode cX4_isOf 35 = .ok (.ireturn, 1) := by decide +kernel
theorem dX4_liftsOf_0 : decode cX4_liftsOf 0 = .ok (.iconst 0, 1) := by decide +kernel
theorem dX4_liftsOf_1 : decode cX4_liftsOf 1 = .ok (.istore_n 3, 1) := by decide +kernel
theorem dX4_liftsOf_2 : decode cX4_liftsOf 2 = .ok (.iconst 0, 1) := by decide +kernel
theorem dX4_liftsOf_3 : decode cX4_liftsOf 3 = .ok (.istore 4, 2) := by decide +kernel
theorem dX4_liftsOf_5 : decode cX4_liftsOf 5 = .ok (.iload 4, 2) := by decide +kernel
theorem dX4_liftsOf_7 : decode cX4_liftsOf 7 = .ok (.aload_n 0, 1) := by decide +kernel
theorem dX4_liftsOf_8 : decode cX4_liftsOf 8 = .ok (.getfield 88, 3) := by decide +kernel
theorem dX4_liftsOf_11 : decode cX4_liftsOf 11 = .ok (.if_icmp .ge 48, 3) := by decide +kernel
theorem dX4_liftsOf_14 : decode cX4_liftsOf 14 = .ok (.iload_n 3, 1) := by decide +kernel
theorem dX4_liftsOf_15 : decode cX4_liftsOf 15 = .ok (.aload_n 0, 1) := by decide +kernel
theorem dX4_liftsOf_16 : decode cX4_liftsOf 16 = .ok (.getfield 40, 3) := by decide +kernel
theorem dX4_liftsOf_19 : decode cX4_liftsOf 19 = .ok (.iload 4, 2) := by decide +kernel
theorem dX4_liftsOf_21 : decode cX4_liftsOf 21 = .ok (.iaload, 1) := by decide +kernel
theorem dX4_liftsOf_22 : decode cX4_liftsOf 22 = .ok (.ifCond .ne 28, 3) := by decide +kernel
theorem dX4_liftsOf_25 : decode cX4_liftsOf 25 = .ok (.aload_n 0, 1) := by decide +kernel
theorem dX4_liftsOf_26 : decode cX4_liftsOf 26 = .ok (.getfield 28, 3) := by decide +kernel
theorem dX4_liftsOf_29 : decode cX4_liftsOf 29 = .ok (.iload 4, 2) := by decide +kernel
theorem dX4_liftsOf_31 : decode cX4_liftsOf 31 = .ok (.iaload, 1) := by decide +kernel
theorem dX4_liftsOf_32 : decode cX4_liftsOf 32 = .ok (.iload_n 2, 1) := by decide +kernel
theorem dX4_liftsOf_33 : decode cX4_liftsOf 33 = .ok (.if_icmp .ne 17, 3) := by decide +kernel
theorem dX4_liftsOf_36 : decode cX4_liftsOf 36 = .ok (.aload_n 0, 1) := by decide +kernel
theorem dX4_liftsOf_37 : decode cX4_liftsOf 37 = .ok (.iload 4, 2) := by decide +kernel
theorem dX4_liftsOf_39 : decode cX4_liftsOf 39 = .ok (.iload_n 1, 1) := by decide +kernel
theorem dX4_liftsOf_40 : decode cX4_liftsOf 40 = .ok (.invokevirtual 91, 3) := by decide +kernel
theorem dX4_liftsOf_43 : decode cX4_liftsOf 43 = .ok (.ifCond .eq 7, 3) := by decide +kernel
theorem dX4_liftsOf_46 : decode cX4_liftsOf 46 = .ok (.iconst 1, 1) := by decide +kernel
theorem dX4_liftsOf_47 : decode cX4_liftsOf 47 = .ok (.goto 4, 3) := by decide +kernel
theorem dX4_liftsOf_50 : decode cX4_liftsOf 50 = .ok (.iconst 0, 1) := by decide +kernel
theorem dX4_liftsOf_51 : decode cX4_liftsOf 51 = .ok (.iadd, 1) := by decide +kernel
theorem dX4_liftsOf_52 : decode cX4_liftsOf 52 = .ok (.istore_n 3, 1) := by decide +kernel
theorem dX4_liftsOf_53 : decode cX4_liftsOf 53 = .ok (.iinc 4 1, 3) := by decide +kernel
theorem dX4_liftsOf_56 : decode cX4_liftsOf 56 = .ok (.goto (-51), 3) := by decide +kernel
theorem dX4_liftsOf_59 : decode cX4_liftsOf 59 = .ok (.iload_n 3, 1) := by decide +kernel
theorem dX4_liftsOf_60 : decode cX4_liftsOf 60 = .ok (.ireturn, 1) := by decide +kernel
theorem dX4_isBeside_0 : decode cX4_isBeside 0 = .ok (.aload_n 0, 1) := by decide +kernel
theorem dX4_isBeside_1 : decode cX4_isBeside 1 = .ok (.iload_n 1, 1) := by decide +kernel
theorem dX4_isBeside_2 : decode cX4_isBeside 2 = .ok (.iload_n 3, 1) := by decide +kernel
theorem dX4_isBeside_3 : decode cX4_isBeside 3 = .ok (.iload_n 2, 1) := by decide +kernel
theorem dX4_isBeside_4 : decode cX4_isBeside 4 = .ok (.iload_n 3, 1) := by decide +kernel
theorem dX4_isBeside_5 : decode cX4_isBeside 5 = .ok (.invokevirtual 80, 3) := by decide +kernel
theorem dX4_isBeside_8 : decode cX4_isBeside 8 = .ok (.ifCond .ne 51, 3) := by decide +kernel
theorem dX4_isBeside_11 : decode cX4_isBeside 11 = .ok (.aload_n 0, 1) := by decide +kernel
theorem dX4_isBeside_12 : decode cX4_isBeside 12 = .ok (.aload_n 0, 1) := by decide +kernel
theorem dX4_isBeside_13 : decode cX4_isBeside 13 = .ok (.iload_n 1, 1) := by decide +kernel
theorem dX4_isBeside_14 : decode cX4_isBeside 14 = .ok (.iload_n 3, 1) := by decide +kernel
theorem dX4_isBeside_15 : decode cX4_isBeside 15 = .ok (.invokevirtual 77, 3) := by decide +kernel
theorem dX4_isBeside_18 : decode cX4_isBeside 18 = .ok (.aload_n 0, 1) := by decide +kernel
theorem dX4_isBeside_19 : decode cX4_isBeside 19 = .ok (.iload_n 2, 1) := by decide +kernel
theorem dX4_isBeside_20 : decode cX4_isBeside 20 = .ok (.iload_n 3, 1) := by decide +kernel
theorem dX4_isBeside_21 : decode cX4_isBeside 21 = .ok (.invokevirtual 77, 3) := by decide +kernel
theorem dX4_isBeside_24 : decode cX4_isBeside 24 = .ok (.isub, 1) := by decide +kernel
theorem dX4_isBeside_25 : decode cX4_isBeside 25 = .ok (.iconst (-1), 1) := by decide +kernel
theorem dX4_isBeside_26 : decode cX4_isBeside 26 = .ok (.iconst 1, 1) := by decide +kernel
theorem dX4_isBeside_27 : decode cX4_isBeside 27 = .ok (.invokevirtual 59, 3) := by decide +kernel
theorem dX4_isBeside_30 : decode cX4_isBeside 30 = .ok (.ifCond .eq 29, 3) := by decide +kernel
theorem dX4_isBeside_33 : decode cX4_isBeside 33 = .ok (.aload_n 0, 1) := by decide +kernel
theorem dX4_isBeside_34 : decode cX4_isBeside 34 = .ok (.aload_n 0, 1) := by decide +kernel
theorem dX4_isBeside_35 : decode cX4_isBeside 35 = .ok (.iload_n 1, 1) := by decide +kernel
theorem dX4_isBeside_36 : decode cX4_isBeside 36 = .ok (.iload_n 3, 1) := by decide +kernel
theorem dX4_isBeside_37 : decode cX4_isBeside 37 = .ok (.invokevirtual 73, 3) := by decide +kernel
theorem dX4_isBeside_40 : decode cX4_isBeside 40 = .ok (.aload_n 0, 1) := by decide +kernel
theorem dX4_isBeside_41 : decode cX4_isBeside 41 = .ok (.iload_n 2, 1) := by decide +kernel
theorem dX4_isBeside_42 : decode cX4_isBeside 42 = .ok (.iload_n 3, 1) := by decide +kernel
theorem dX4_isBeside_43 : decode cX4_isBeside 43 = .ok (.invokevirtual 73, 3) := by decide +kernel
theorem dX4_isBeside_46 : decode cX4_isBeside 46 = .ok (.isub, 1) := by decide +kernel
theorem dX4_isBeside_47 : decode cX4_isBeside 47 = .ok (.iconst (-1), 1) := by decide +kernel
theorem dX4_isBeside_48 : decode cX4_isBeside 48 = .ok (.iconst 1, 1) := by decide +kernel
theorem dX4_isBeside_49 : decode cX4_isBeside 49 = .ok (.invokevirtual 59, 3) := by decide +kernel
theorem dX4_isBeside_52 : decode cX4_isBeside 52 = .ok (.ifCond .eq 7, 3) := by decide +kernel
theorem dX4_isBeside_55 : decode cX4_isBeside 55 = .ok (.iconst 1, 1) := by decide +kernel
theorem dX4_isBeside_56 : decode cX4_isBeside 56 = .ok (.goto 4, 3) := by decide +kernel
theorem dX4_isBeside_59 : decode cX4_isBeside 59 = .ok (.iconst 0, 1) := by decide +kernel
theorem dX4_isBeside_60 : decode cX4_isBeside 60 = .ok (.ireturn, 1) := by decide +kernel
theorem dX4_stands_0 : decode cX4_stands 0 = .ok (.aload_n 0, 1) := by decide +kernel
theorem dX4_stands_1 : decode cX4_stands 1 = .ok (.getfield 28, 3) := by decide +kernel
theorem dX4_stands_4 : decode cX4_stands 4 = .ok (.iload_n 1, 1) := by decide +kernel
theorem dX4_stands_5 : decode cX4_stands 5 = .ok (.iaload, 1) := by decide +kernel
theorem dX4_stands_6 : decode cX4_stands 6 = .ok (.istore_n 2, 1) := by decide +kernel
theorem dX4_stands_7 : decode cX4_stands 7 = .ok (.aload_n 0, 1) := by decide +kernel
theorem dX4_stands_8 : decode cX4_stands 8 = .ok (.aload_n 0, 1) := by decide +kernel
theorem dX4_stands_9 : decode cX4_stands 9 = .ok (.getfield 34, 3) := by decide +kernel
theorem dX4_stands_12 : decode cX4_stands 12 = .ok (.iload_n 1, 1) := by decide +kernel
theorem dX4_stands_13 : decode cX4_stands 13 = .ok (.iaload, 1) := by decide +kernel
theorem dX4_stands_14 : decode cX4_stands 14 = .ok (.aload_n 0, 1) := by decide +kernel
theorem dX4_stands_15 : decode cX4_stands 15 = .ok (.getfield 31, 3) := by decide +kernel
theorem dX4_stands_18 : decode cX4_stands 18 = .ok (.iload_n 1, 1) := by decide +kernel
theorem dX4_stands_19 : decode cX4_stands 19 = .ok (.iaload, 1) := by decide +kernel
theorem dX4_stands_20 : decode cX4_stands 20 = .ok (.iload_n 2, 1) := by decide +kernel
theorem dX4_stands_21 : decode cX4_stands 21 = .ok (.invokevirtual 95, 3) := by decide +kernel
theorem dX4_stands_24 : decode cX4_stands 24 = .ok (.ifCond .eq 27, 3) := by decide +kernel
theorem dX4_stands_27 : decode cX4_stands 27 = .ok (.aload_n 0, 1) := by decide +kernel
theorem dX4_stands_28 : decode cX4_stands 28 = .ok (.aload_n 0, 1) := by decide +kernel
theorem dX4_stands_29 : decode cX4_stands 29 = .ok (.getfield 37, 3) := by decide +kernel
theorem dX4_stands_32 : decode cX4_stands 32 = .ok (.iload_n 1, 1) := by decide +kernel
theorem dX4_stands_33 : decode cX4_stands 33 = .ok (.iaload, 1) := by decide +kernel
theorem dX4_stands_34 : decode cX4_stands 34 = .ok (.aload_n 0, 1) := by decide +kernel
theorem dX4_stands_35 : decode cX4_stands 35 = .ok (.getfield 31, 3) := by decide +kernel
theorem dX4_stands_38 : decode cX4_stands 38 = .ok (.iload_n 1, 1) := by decide +kernel
theorem dX4_stands_39 : decode cX4_stands 39 = .ok (.iaload, 1) := by decide +kernel
theorem dX4_stands_40 : decode cX4_stands 40 = .ok (.iload_n 2, 1) := by decide +kernel
theorem dX4_stands_41 : decode cX4_stands 41 = .ok (.invokevirtual 95, 3) := by decide +kernel
theorem dX4_stands_44 : decode cX4_stands 44 = .ok (.ifCond .eq 7, 3) := by decide +kernel
theorem dX4_stands_47 : decode cX4_stands 47 = .ok (.iconst 1, 1) := by decide +kernel
theorem dX4_stands_48 : decode cX4_stands 48 = .ok (.goto 4, 3) := by decide +kernel
theorem dX4_stands_51 : decode cX4_stands 51 = .ok (.iconst 0, 1) := by decide +kernel
theorem dX4_stands_52 : decode cX4_stands 52 = .ok (.istore_n 3, 1) := by decide +kernel
theorem dX4_stands_53 : decode cX4_stands 53 = .ok (.aload_n 0, 1) := by decide +kernel
theorem dX4_stands_54 : decode cX4_stands 54 = .ok (.aload_n 0, 1) := by decide +kernel
theorem dX4_stands_55 : decode cX4_stands 55 = .ok (.getfield 31, 3) := by decide +kernel
theorem dX4_stands_58 : decode cX4_stands 58 = .ok (.iload_n 1, 1) := by decide +kernel
theorem dX4_stands_59 : decode cX4_stands 59 = .ok (.iaload, 1) := by decide +kernel
theorem dX4_stands_60 : decode cX4_stands 60 = .ok (.iload_n 2, 1) := by decide +kernel
theorem dX4_stands_61 : decode cX4_stands 61 = .ok (.invokevirtual 98, 3) := by decide +kernel
theorem dX4_stands_64 : decode cX4_stands 64 = .ok (.iconst 1, 1) := by decide +kernel
theorem dX4_stands_65 : decode cX4_stands 65 = .ok (.if_icmp .ne 37, 3) := by decide +kernel
theorem dX4_stands_68 : decode cX4_stands 68 = .ok (.aload_n 0, 1) := by decide +kernel
theorem dX4_stands_69 : decode cX4_stands 69 = .ok (.aload_n 0, 1) := by decide +kernel
theorem dX4_stands_70 : decode cX4_stands 70 = .ok (.getfield 34, 3) := by decide +kernel
theorem dX4_stands_73 : decode cX4_stands 73 = .ok (.iload_n 1, 1) := by decide +kernel
theorem dX4_stands_74 : decode cX4_stands 74 = .ok (.iaload, 1) := by decide +kernel
theorem dX4_stands_75 : decode cX4_stands 75 = .ok (.iload_n 2, 1) := by decide +kernel
theorem dX4_stands_76 : decode cX4_stands 76 = .ok (.invokevirtual 98, 3) := by decide +kernel
theorem dX4_stands_79 : decode cX4_stands 79 = .ok (.iconst 1, 1) := by decide +kernel
theorem dX4_stands_80 : decode cX4_stands 80 = .ok (.if_icmp .ne 22, 3) := by decide +kernel
theorem dX4_stands_83 : decode cX4_stands 83 = .ok (.aload_n 0, 1) := by decide +kernel
theorem dX4_stands_84 : decode cX4_stands 84 = .ok (.aload_n 0, 1) := by decide +kernel
theorem dX4_stands_85 : decode cX4_stands 85 = .ok (.getfield 37, 3) := by decide +kernel
theorem dX4_stands_88 : decode cX4_stands 88 = .ok (.iload_n 1, 1) := by decide +kernel
theorem dX4_stands_89 : decode cX4_stands 89 = .ok (.iaload, 1) := by decide +kernel
theorem dX4_stands_90 : decode cX4_stands 90 = .ok (.iload_n 2, 1) := by decide +kernel
theorem dX4_stands_91 : decode cX4_stands 91 = .ok (.invokevirtual 98, 3) := by decide +kernel
theorem dX4_stands_94 : decode cX4_stands 94 = .ok (.iconst 1, 1) := by decide +kernel
theorem dX4_stands_95 : decode cX4_stands 95 = .ok (.if_icmp .ne 7, 3) := by decide +kernel
theorem dX4_stands_98 : decode cX4_stands 98 = .ok (.iconst 1, 1) := by decide +kernel
theorem dX4_stands_99 : decode cX4_stands 99 = .ok (.goto 4, 3) := by decide +kernel
theorem dX4_stands_102 : decode cX4_stands 102 = .ok (.iconst 0, 1) := by decide +kernel
theorem dX4_stands_103 : decode cX4_stands 103 = .ok (.istore 4, 2) := by decide +kernel
theorem dX4_stands_105 : decode cX4_stands 105 = .ok (.iload_n 3, 1) := by decide +kernel
theorem dX4_stands_106 : decode cX4_stands 106 = .ok (.ifCond .eq 50, 3) := by decide +kernel
theorem dX4_stands_109 : decode cX4_stands 109 = .ok (.iload 4, 2) := by decide +kernel
theorem dX4_stands_111 : decode cX4_stands 111 = .ok (.ifCond .eq 45, 3) := by decide +kernel
theorem dX4_stands_114 : decode cX4_stands 114 = .ok (.aload_n 0, 1) := by decide +kernel
theorem dX4_stands_115 : decode cX4_stands 115 = .ok (.getfield 16, 3) := by decide +kernel
theorem dX4_stands_118 : decode cX4_stands 118 = .ok (.aload_n 0, 1) := by decide +kernel
theorem dX4_stands_119 : decode cX4_stands 119 = .ok (.getfield 31, 3) := by decide +kernel
theorem dX4_stands_122 : decode cX4_stands 122 = .ok (.iload_n 1, 1) := by decide +kernel
theorem dX4_stands_123 : decode cX4_stands 123 = .ok (.iaload, 1) := by decide +kernel
theorem dX4_stands_124 : decode cX4_stands 124 = .ok (.iaload, 1) := by decide +kernel
theorem dX4_stands_125 : decode cX4_stands 125 = .ok (.aload_n 0, 1) := by decide +kernel
theorem dX4_stands_126 : decode cX4_stands 126 = .ok (.getfield 16, 3) := by decide +kernel
theorem dX4_stands_129 : decode cX4_stands 129 = .ok (.aload_n 0, 1) := by decide +kernel
theorem dX4_stands_130 : decode cX4_stands 130 = .ok (.getfield 34, 3) := by decide +kernel
theorem dX4_stands_133 : decode cX4_stands 133 = .ok (.iload_n 1, 1) := by decide +kernel
theorem dX4_stands_134 : decode cX4_stands 134 = .ok (.iaload, 1) := by decide +kernel
theorem dX4_stands_135 : decode cX4_stands 135 = .ok (.iaload, 1) := by decide +kernel
theorem dX4_stands_136 : decode cX4_stands 136 = .ok (.iadd, 1) := by decide +kernel
theorem dX4_stands_137 : decode cX4_stands 137 = .ok (.aload_n 0, 1) := by decide +kernel
theorem dX4_stands_138 : decode cX4_stands 138 = .ok (.getfield 16, 3) := by decide +kernel
theorem dX4_stands_141 : decode cX4_stands 141 = .ok (.aload_n 0, 1) := by decide +kernel
theorem dX4_stands_142 : decode cX4_stands 142 = .ok (.getfield 37, 3) := by decide +kernel
theorem dX4_stands_145 : decode cX4_stands 145 = .ok (.iload_n 1, 1) := by decide +kernel
theorem dX4_stands_146 : decode cX4_stands 146 = .ok (.iaload, 1) := by decide +kernel
theorem dX4_stands_147 : decode cX4_stands 147 = .ok (.iaload, 1) := by decide +kernel
theorem dX4_stands_148 : decode cX4_stands 148 = .ok (.iadd, 1) := by decide +kernel
theorem dX4_stands_149 : decode cX4_stands 149 = .ok (.ifCond .ne 7, 3) := by decide +kernel
theorem dX4_stands_152 : decode cX4_stands 152 = .ok (.iconst 1, 1) := by decide +kernel
theorem dX4_stands_153 : decode cX4_stands 153 = .ok (.goto 4, 3) := by decide +kernel
theorem dX4_stands_156 : decode cX4_stands 156 = .ok (.iconst 0, 1) := by decide +kernel
theorem dX4_stands_157 : decode cX4_stands 157 = .ok (.ireturn, 1) := by decide +kernel
theorem dX4_lift_0 : decode cX4_lift 0 = .ok (.aload_n 0, 1) := by decide +kernel
theorem dX4_lift_1 : decode cX4_lift 1 = .ok (.iload_n 1, 1) := by decide +kernel
theorem dX4_lift_2 : decode cX4_lift 2 = .ok (.invokevirtual 70, 3) := by decide +kernel
theorem dX4_lift_5 : decode cX4_lift 5 = .ok (.ifCond .eq 32, 3) := by decide +kernel
theorem dX4_lift_8 : decode cX4_lift 8 = .ok (.aload_n 0, 1) := by decide +kernel
theorem dX4_lift_9 : decode cX4_lift 9 = .ok (.iload_n 2, 1) := by decide +kernel
theorem dX4_lift_10 : decode cX4_lift 10 = .ok (.invokevirtual 67, 3) := by decide +kernel
theorem dX4_lift_13 : decode cX4_lift 13 = .ok (.ifCond .eq 24, 3) := by decide +kernel
theorem dX4_lift_16 : decode cX4_lift 16 = .ok (.aload_n 0, 1) := by decide +kernel
theorem dX4_lift_17 : decode cX4_lift 17 = .ok (.iload_n 3, 1) := by decide +kernel
theorem dX4_lift_18 : decode cX4_lift 18 = .ok (.invokevirtual 67, 3) := by decide +kernel
theorem dX4_lift_21 : decode cX4_lift 21 = .ok (.ifCond .eq 16, 3) := by decide +kernel
theorem dX4_lift_24 : decode cX4_lift 24 = .ok (.aload_n 0, 1) := by decide +kernel
theorem dX4_lift_25 : decode cX4_lift 25 = .ok (.iload 4, 2) := by decide +kernel
theorem dX4_lift_27 : decode cX4_lift 27 = .ok (.invokevirtual 67, 3) := by decide +kernel
theorem dX4_lift_30 : decode cX4_lift 30 = .ok (.ifCond .eq 7, 3) := by decide +kernel
theorem dX4_lift_33 : decode cX4_lift 33 = .ok (.iconst 1, 1) := by decide +kernel
theorem dX4_lift_34 : decode cX4_lift 34 = .ok (.goto 4, 3) := by decide +kernel
theorem dX4_lift_37 : decode cX4_lift 37 = .ok (.iconst 0, 1) := by decide +kernel
theorem dX4_lift_38 : decode cX4_lift 38 = .ok (.istore 5, 2) := by decide +kernel
theorem dX4_lift_40 : decode cX4_lift 40 = .ok (.iload 5, 2) := by decide +kernel
theorem dX4_lift_42 : decode cX4_lift 42 = .ok (.ifCond .eq 40, 3) := by decide +kernel
theorem dX4_lift_45 : decode cX4_lift 45 = .ok (.aload_n 0, 1) := by decide +kernel
theorem dX4_lift_46 : decode cX4_lift 46 = .ok (.getfield 16, 3) := by decide +kernel
theorem dX4_lift_49 : decode cX4_lift 49 = .ok (.iload_n 2, 1) := by decide +kernel
theorem dX4_lift_50 : decode cX4_lift 50 = .ok (.iaload, 1) := by decide +kernel
theorem dX4_lift_51 : decode cX4_lift 51 = .ok (.aload_n 0, 1) := by decide +kernel
theorem dX4_lift_52 : decode cX4_lift 52 = .ok (.getfield 16, 3) := by decide +kernel
theorem dX4_lift_55 : decode cX4_lift 55 = .ok (.iload_n 3, 1) := by decide +kernel
theorem dX4_lift_56 : decode cX4_lift 56 = .ok (.iaload, 1) := by decide +kernel
theorem dX4_lift_57 : decode cX4_lift 57 = .ok (.iadd, 1) := by decide +kernel
theorem dX4_lift_58 : decode cX4_lift 58 = .ok (.aload_n 0, 1) := by decide +kernel
theorem dX4_lift_59 : decode cX4_lift 59 = .ok (.getfield 16, 3) := by decide +kernel
theorem dX4_lift_62 : decode cX4_lift 62 = .ok (.iload 4, 2) := by decide +kernel
theorem dX4_lift_64 : decode cX4_lift 64 = .ok (.iaload, 1) := by decide +kernel
theorem dX4_lift_65 : decode cX4_lift 65 = .ok (.iadd, 1) := by decide +kernel
theorem dX4_lift_66 : decode cX4_lift 66 = .ok (.ifCond .gt 12, 3) := by decide +kernel
theorem dX4_lift_69 : decode cX4_lift 69 = .ok (.aload_n 0, 1) := by decide +kernel
theorem dX4_lift_70 : decode cX4_lift 70 = .ok (.getfield 88, 3) := by decide +kernel
theorem dX4_lift_73 : decode cX4_lift 73 = .ok (.bipush 12, 2) := by decide +kernel
theorem dX4_lift_75 : decode cX4_lift 75 = .ok (.if_icmp .ne 7, 3) := by decide +kernel
theorem dX4_lift_78 : decode cX4_lift 78 = .ok (.iconst 1, 1) := by decide +kernel
theorem dX4_lift_79 : decode cX4_lift 79 = .ok (.goto 4, 3) := by decide +kernel
theorem dX4_lift_82 : decode cX4_lift 82 = .ok (.iconst 0, 1) := by decide +kernel
theorem dX4_lift_83 : decode cX4_lift 83 = .ok (.istore 6, 2) := by decide +kernel
theorem dX4_lift_85 : decode cX4_lift 85 = .ok (.aload_n 0, 1) := by decide +kernel
theorem dX4_lift_86 : decode cX4_lift 86 = .ok (.iload 5, 2) := by decide +kernel
theorem dX4_lift_88 : decode cX4_lift 88 = .ok (.ifCond .ne 7, 3) := by decide +kernel
theorem dX4_lift_91 : decode cX4_lift 91 = .ok (.iconst 1, 1) := by decide +kernel
theorem dX4_lift_92 : decode cX4_lift 92 = .ok (.goto 34, 3) := by decide +kernel
theorem dX4_lift_95 : decode cX4_lift 95 = .ok (.iload_n 2, 1) := by decide +kernel
theorem dX4_lift_96 : decode cX4_lift 96 = .ok (.iload_n 3, 1) := by decide +kernel
theorem dX4_lift_97 : decode cX4_lift 97 = .ok (.if_icmp .eq 15, 3) := by decide +kernel
theorem dX4_lift_100 : decode cX4_lift 100 = .ok (.iload_n 2, 1) := by decide +kernel
theorem dX4_lift_101 : decode cX4_lift 101 = .ok (.iload 4, 2) := by decide +kernel
theorem dX4_lift_103 : decode cX4_lift 103 = .ok (.if_icmp .eq 9, 3) := by decide +kernel
theorem dX4_lift_106 : decode cX4_lift 106 = .ok (.iload_n 3, 1) := by decide +kernel
theorem dX4_lift_107 : decode cX4_lift 107 = .ok (.iload 4, 2) := by decide +kernel
theorem dX4_lift_109 : decode cX4_lift 109 = .ok (.if_icmp .ne 7, 3) := by decide +kernel
theorem dX4_lift_112 : decode cX4_lift 112 = .ok (.iconst 2, 1) := by decide +kernel
theorem dX4_lift_113 : decode cX4_lift 113 = .ok (.goto 13, 3) := by decide +kernel
theorem dX4_lift_116 : decode cX4_lift 116 = .ok (.iload 6, 2) := by decide +kernel
theorem dX4_lift_118 : decode cX4_lift 118 = .ok (.ifCond .eq 7, 3) := by decide +kernel
theorem dX4_lift_121 : decode cX4_lift 121 = .ok (.iconst 3, 1) := by decide +kernel
theorem dX4_lift_122 : decode cX4_lift 122 = .ok (.goto 4, 3) := by decide +kernel
theorem dX4_lift_125 : decode cX4_lift 125 = .ok (.iconst 0, 1) := by decide +kernel
theorem dX4_lift_126 : decode cX4_lift 126 = .ok (.invokevirtual 63, 3) := by decide +kernel
theorem dX4_lift_129 : decode cX4_lift 129 = .ok (.ifCond .eq 5, 3) := by decide +kernel
theorem dX4_lift_132 : decode cX4_lift 132 = .ok (.iconst (-1), 1) := by decide +kernel
theorem dX4_lift_133 : decode cX4_lift 133 = .ok (.ireturn, 1) := by decide +kernel
theorem dX4_lift_134 : decode cX4_lift 134 = .ok (.aload_n 0, 1) := by decide +kernel
theorem dX4_lift_135 : decode cX4_lift 135 = .ok (.getfield 28, 3) := by decide +kernel
theorem dX4_lift_138 : decode cX4_lift 138 = .ok (.aload_n 0, 1) := by decide +kernel
theorem dX4_lift_139 : decode cX4_lift 139 = .ok (.getfield 88, 3) := by decide +kernel
theorem dX4_lift_142 : decode cX4_lift 142 = .ok (.iload_n 1, 1) := by decide +kernel
theorem dX4_lift_143 : decode cX4_lift 143 = .ok (.iastore, 1) := by decide +kernel
theorem dX4_lift_144 : decode cX4_lift 144 = .ok (.aload_n 0, 1) := by decide +kernel
theorem dX4_lift_145 : decode cX4_lift 145 = .ok (.getfield 31, 3) := by decide +kernel
theorem dX4_lift_148 : decode cX4_lift 148 = .ok (.aload_n 0, 1) := by decide +kernel
theorem dX4_lift_149 : decode cX4_lift 149 = .ok (.getfield 88, 3) := by decide +kernel
theorem dX4_lift_152 : decode cX4_lift 152 = .ok (.iload_n 2, 1) := by decide +kernel
theorem dX4_lift_153 : decode cX4_lift 153 = .ok (.iastore, 1) := by decide +kernel
theorem dX4_lift_154 : decode cX4_lift 154 = .ok (.aload_n 0, 1) := by decide +kernel
theorem dX4_lift_155 : decode cX4_lift 155 = .ok (.getfield 34, 3) := by decide +kernel
theorem dX4_lift_158 : decode cX4_lift 158 = .ok (.aload_n 0, 1) := by decide +kernel
theorem dX4_lift_159 : decode cX4_lift 159 = .ok (.getfield 88, 3) := by decide +kernel
theorem dX4_lift_162 : decode cX4_lift 162 = .ok (.iload_n 3, 1) := by decide +kernel
theorem dX4_lift_163 : decode cX4_lift 163 = .ok (.iastore, 1) := by decide +kernel
theorem dX4_lift_164 : decode cX4_lift 164 = .ok (.aload_n 0, 1) := by decide +kernel
theorem dX4_lift_165 : decode cX4_lift 165 = .ok (.getfield 37, 3) := by decide +kernel
theorem dX4_lift_168 : decode cX4_lift 168 = .ok (.aload_n 0, 1) := by decide +kernel
theorem dX4_lift_169 : decode cX4_lift 169 = .ok (.getfield 88, 3) := by decide +kernel
theorem dX4_lift_172 : decode cX4_lift 172 = .ok (.iload 4, 2) := by decide +kernel
theorem dX4_lift_174 : decode cX4_lift 174 = .ok (.iastore, 1) := by decide +kernel
theorem dX4_lift_175 : decode cX4_lift 175 = .ok (.aload_n 0, 1) := by decide +kernel
theorem dX4_lift_176 : decode cX4_lift 176 = .ok (.dup, 1) := by decide +kernel
theorem dX4_lift_177 : decode cX4_lift 177 = .ok (.getfield 88, 3) := by decide +kernel
theorem dX4_lift_180 : decode cX4_lift 180 = .ok (.iconst 1, 1) := by decide +kernel
theorem dX4_lift_181 : decode cX4_lift 181 = .ok (.iadd, 1) := by decide +kernel
theorem dX4_lift_182 : decode cX4_lift 182 = .ok (.putfield 88, 3) := by decide +kernel
theorem dX4_lift_185 : decode cX4_lift 185 = .ok (.aload_n 0, 1) := by decide +kernel
theorem dX4_lift_186 : decode cX4_lift 186 = .ok (.getfield 88, 3) := by decide +kernel
theorem dX4_lift_189 : decode cX4_lift 189 = .ok (.iconst 1, 1) := by decide +kernel
theorem dX4_lift_190 : decode cX4_lift 190 = .ok (.isub, 1) := by decide +kernel
theorem dX4_lift_191 : decode cX4_lift 191 = .ok (.ireturn, 1) := by decide +kernel
theorem dX4_ofLift_0 : decode cX4_ofLift 0 = .ok (.aload_n 0, 1) := by decide +kernel
theorem dX4_ofLift_1 : decode cX4_ofLift 1 = .ok (.aload_n 0, 1) := by decide +kernel
theorem dX4_ofLift_2 : decode cX4_ofLift 2 = .ok (.iload_n 1, 1) := by decide +kernel
theorem dX4_ofLift_3 : decode cX4_ofLift 3 = .ok (.iconst 0, 1) := by decide +kernel
theorem dX4_ofLift_4 : decode cX4_ofLift 4 = .ok (.aload_n 0, 1) := by decide +kernel
theorem dX4_ofLift_5 : decode cX4_ofLift 5 = .ok (.getfield 88, 3) := by decide +kernel
theorem dX4_ofLift_8 : decode cX4_ofLift 8 = .ok (.iconst 1, 1) := by decide +kernel
theorem dX4_ofLift_9 : decode cX4_ofLift 9 = .ok (.isub, 1) := by decide +kernel
theorem dX4_ofLift_10 : decode cX4_ofLift 10 = .ok (.invokevirtual 59, 3) := by decide +kernel
theorem dX4_ofLift_13 : decode cX4_ofLift 13 = .ok (.ifCond .ne 7, 3) := by decide +kernel
theorem dX4_ofLift_16 : decode cX4_ofLift 16 = .ok (.iconst 1, 1) := by decide +kernel
theorem dX4_ofLift_17 : decode cX4_ofLift 17 = .ok (.goto 18, 3) := by decide +kernel
theorem dX4_ofLift_20 : decode cX4_ofLift 20 = .ok (.aload_n 0, 1) := by decide +kernel
theorem dX4_ofLift_21 : decode cX4_ofLift 21 = .ok (.iload_n 2, 1) := by decide +kernel
theorem dX4_ofLift_22 : decode cX4_ofLift 22 = .ok (.iconst 0, 1) := by decide +kernel
theorem dX4_ofLift_23 : decode cX4_ofLift 23 = .ok (.iconst 4, 1) := by decide +kernel
theorem dX4_ofLift_24 : decode cX4_ofLift 24 = .ok (.invokevirtual 59, 3) := by decide +kernel
theorem dX4_ofLift_27 : decode cX4_ofLift 27 = .ok (.ifCond .eq 7, 3) := by decide +kernel
theorem dX4_ofLift_30 : decode cX4_ofLift 30 = .ok (.iconst 0, 1) := by decide +kernel
theorem dX4_ofLift_31 : decode cX4_ofLift 31 = .ok (.goto 4, 3) := by decide +kernel
theorem dX4_ofLift_34 : decode cX4_ofLift 34 = .ok (.iconst 2, 1) := by decide +kernel
theorem dX4_ofLift_35 : decode cX4_ofLift 35 = .ok (.invokevirtual 63, 3) := by decide +kernel
theorem dX4_ofLift_38 : decode cX4_ofLift 38 = .ok (.ifCond .eq 5, 3) := by decide +kernel
theorem dX4_ofLift_41 : decode cX4_ofLift 41 = .ok (.iconst (-1), 1) := by decide +kernel
theorem dX4_ofLift_42 : decode cX4_ofLift 42 = .ok (.ireturn, 1) := by decide +kernel
theorem dX4_ofLift_43 : decode cX4_ofLift 43 = .ok (.iload_n 2, 1) := by decide +kernel
theorem dX4_ofLift_44 : decode cX4_ofLift 44 = .ok (.tableswitch 60 0 3 #[32, 39, 46, 53], 32) := by decide +kernel
theorem dX4_ofLift_76 : decode cX4_ofLift 76 = .ok (.aload_n 0, 1) := by decide +kernel
theorem dX4_ofLift_77 : decode cX4_ofLift 77 = .ok (.getfield 28, 3) := by decide +kernel
theorem dX4_ofLift_80 : decode cX4_ofLift 80 = .ok (.iload_n 1, 1) := by decide +kernel
theorem dX4_ofLift_81 : decode cX4_ofLift 81 = .ok (.iaload, 1) := by decide +kernel
theorem dX4_ofLift_82 : decode cX4_ofLift 82 = .ok (.ireturn, 1) := by decide +kernel
theorem dX4_ofLift_83 : decode cX4_ofLift 83 = .ok (.aload_n 0, 1) := by decide +kernel
theorem dX4_ofLift_84 : decode cX4_ofLift 84 = .ok (.getfield 31, 3) := by decide +kernel
theorem dX4_ofLift_87 : decode cX4_ofLift 87 = .ok (.iload_n 1, 1) := by decide +kernel
theorem dX4_ofLift_88 : decode cX4_ofLift 88 = .ok (.iaload, 1) := by decide +kernel
theorem dX4_ofLift_89 : decode cX4_ofLift 89 = .ok (.ireturn, 1) := by decide +kernel
theorem dX4_ofLift_90 : decode cX4_ofLift 90 = .ok (.aload_n 0, 1) := by decide +kernel
theorem dX4_ofLift_91 : decode cX4_ofLift 91 = .ok (.getfield 34, 3) := by decide +kernel
theorem dX4_ofLift_94 : decode cX4_ofLift 94 = .ok (.iload_n 1, 1) := by decide +kernel
theorem dX4_ofLift_95 : decode cX4_ofLift 95 = .ok (.iaload, 1) := by decide +kernel
theorem dX4_ofLift_96 : decode cX4_ofLift 96 = .ok (.ireturn, 1) := by decide +kernel
theorem dX4_ofLift_97 : decode cX4_ofLift 97 = .ok (.aload_n 0, 1) := by decide +kernel
theorem dX4_ofLift_98 : decode cX4_ofLift 98 = .ok (.getfield 37, 3) := by decide +kernel
theorem dX4_ofLift_101 : decode cX4_ofLift 101 = .ok (.iload_n 1, 1) := by decide +kernel
theorem dX4_ofLift_102 : decode cX4_ofLift 102 = .ok (.iaload, 1) := by decide +kernel
theorem dX4_ofLift_103 : decode cX4_ofLift 103 = .ok (.ireturn, 1) := by decide +kernel
theorem dX4_ofLift_104 : decode cX4_ofLift 104 = .ok (.aload_n 0, 1) := by decide +kernel
theorem dX4_ofLift_105 : decode cX4_ofLift 105 = .ok (.getfield 40, 3) := by decide +kernel
theorem dX4_ofLift_108 : decode cX4_ofLift 108 = .ok (.iload_n 1, 1) := by decide +kernel
theorem dX4_ofLift_109 : decode cX4_ofLift 109 = .ok (.iaload, 1) := by decide +kernel
theorem dX4_ofLift_110 : decode cX4_ofLift 110 = .ok (.iconst 1, 1) := by decide +kernel
theorem dX4_ofLift_111 : decode cX4_ofLift 111 = .ok (.if_icmp .ne 7, 3) := by decide +kernel
theorem dX4_ofLift_114 : decode cX4_ofLift 114 = .ok (.iconst 2, 1) := by decide +kernel
theorem dX4_ofLift_115 : decode cX4_ofLift 115 = .ok (.goto 16, 3) := by decide +kernel
theorem dX4_ofLift_118 : decode cX4_ofLift 118 = .ok (.aload_n 0, 1) := by decide +kernel
theorem dX4_ofLift_119 : decode cX4_ofLift 119 = .ok (.iload_n 1, 1) := by decide +kernel
theorem dX4_ofLift_120 : decode cX4_ofLift 120 = .ok (.invokevirtual 101, 3) := by decide +kernel
theorem dX4_ofLift_123 : decode cX4_ofLift 123 = .ok (.ifCond .eq 7, 3) := by decide +kernel
theorem dX4_ofLift_126 : decode cX4_ofLift 126 = .ok (.iconst 1, 1) := by decide +kernel
theorem dX4_ofLift_127 : decode cX4_ofLift 127 = .ok (.goto 4, 3) := by decide +kernel
theorem dX4_ofLift_130 : decode cX4_ofLift 130 = .ok (.iconst 0, 1) := by decide +kernel
theorem dX4_ofLift_131 : decode cX4_ofLift 131 = .ok (.ireturn, 1) := by decide +kernel
theorem dX4_lasts_0 : decode cX4_lasts 0 = .ok (.sipush 500, 3) := by decide +kernel
theorem dX4_lasts_3 : decode cX4_lasts 3 = .ok (.istore_n 2, 1) := by decide +kernel
theorem dX4_lasts_4 : decode cX4_lasts 4 = .ok (.iconst 0, 1) := by decide +kernel
theorem dX4_lasts_5 : decode cX4_lasts 5 = .ok (.istore_n 3, 1) := by decide +kernel
theorem dX4_lasts_6 : decode cX4_lasts 6 = .ok (.iload_n 3, 1) := by decide +kernel
theorem dX4_lasts_7 : decode cX4_lasts 7 = .ok (.iload_n 1, 1) := by decide +kernel
theorem dX4_lasts_8 : decode cX4_lasts 8 = .ok (.if_icmp .gt 29, 3) := by decide +kernel
theorem dX4_lasts_11 : decode cX4_lasts 11 = .ok (.aload_n 0, 1) := by decide +kernel
theorem dX4_lasts_12 : decode cX4_lasts 12 = .ok (.getfield 43, 3) := by decide +kernel
theorem dX4_lasts_15 : decode cX4_lasts 15 = .ok (.iload_n 3, 1) := by decide +kernel
theorem dX4_lasts_16 : decode cX4_lasts 16 = .ok (.iaload, 1) := by decide +kernel
theorem dX4_lasts_17 : decode cX4_lasts 17 = .ok (.ifCond .le 12, 3) := by decide +kernel
theorem dX4_lasts_20 : decode cX4_lasts 20 = .ok (.aload_n 0, 1) := by decide +kernel
theorem dX4_lasts_21 : decode cX4_lasts 21 = .ok (.getfield 43, 3) := by decide +kernel
theorem dX4_lasts_24 : decode cX4_lasts 24 = .ok (.iload_n 3, 1) := by decide +kernel
theorem dX4_lasts_25 : decode cX4_lasts 25 = .ok (.iaload, 1) := by decide +kernel
theorem dX4_lasts_26 : decode cX4_lasts 26 = .ok (.goto 4, 3) := by decide +kernel
theorem dX4_lasts_29 : decode cX4_lasts 29 = .ok (.iload_n 2, 1) := by decide +kernel
theorem dX4_lasts_30 : decode cX4_lasts 30 = .ok (.istore_n 2, 1) := by decide +kernel
theorem dX4_lasts_31 : decode cX4_lasts 31 = .ok (.iinc 3 1, 3) := by decide +kernel
theorem dX4_lasts_34 : decode cX4_lasts 34 = .ok (.goto (-28), 3) := by decide +kernel
theorem dX4_lasts_37 : decode cX4_lasts 37 = .ok (.iload_n 2, 1) := by decide +kernel
theorem dX4_lasts_38 : decode cX4_lasts 38 = .ok (.ireturn, 1) := by decide +kernel
theorem dX4_tempo_0 : decode cX4_tempo 0 = .ok (.aload_n 0, 1) := by decide +kernel
theorem dX4_tempo_1 : decode cX4_tempo 1 = .ok (.aload_n 0, 1) := by decide +kernel
theorem dX4_tempo_2 : decode cX4_tempo 2 = .ok (.iload_n 1, 1) := by decide +kernel
theorem dX4_tempo_3 : decode cX4_tempo 3 = .ok (.invokevirtual 70, 3) := by decide +kernel
theorem dX4_tempo_6 : decode cX4_tempo 6 = .ok (.ifCond .ne 7, 3) := by decide +kernel
theorem dX4_tempo_9 : decode cX4_tempo 9 = .ok (.iconst 1, 1) := by decide +kernel
theorem dX4_tempo_10 : decode cX4_tempo 10 = .ok (.goto 19, 3) := by decide +kernel
theorem dX4_tempo_13 : decode cX4_tempo 13 = .ok (.aload_n 0, 1) := by decide +kernel
theorem dX4_tempo_14 : decode cX4_tempo 14 = .ok (.iload_n 2, 1) := by decide +kernel
theorem dX4_tempo_15 : decode cX4_tempo 15 = .ok (.iconst 1, 1) := by decide +kernel
theorem dX4_tempo_16 : decode cX4_tempo 16 = .ok (.ldc 104, 2) := by decide +kernel
theorem dX4_tempo_18 : decode cX4_tempo 18 = .ok (.invokevirtual 59, 3) := by decide +kernel
theorem dX4_tempo_21 : decode cX4_tempo 21 = .ok (.ifCond .eq 7, 3) := by decide +kernel
theorem dX4_tempo_24 : decode cX4_tempo 24 = .ok (.iconst 0, 1) := by decide +kernel
theorem dX4_tempo_25 : decode cX4_tempo 25 = .ok (.goto 4, 3) := by decide +kernel
theorem dX4_tempo_28 : decode cX4_tempo 28 = .ok (.iconst 2, 1) := by decide +kernel
theorem dX4_tempo_29 : decode cX4_tempo 29 = .ok (.invokevirtual 63, 3) := by decide +kernel
theorem dX4_tempo_32 : decode cX4_tempo 32 = .ok (.ifCond .eq 5, 3) := by decide +kernel
theorem dX4_tempo_35 : decode cX4_tempo 35 = .ok (.iconst (-1), 1) := by decide +kernel
theorem dX4_tempo_36 : decode cX4_tempo 36 = .ok (.ireturn, 1) := by decide +kernel
theorem dX4_tempo_37 : decode cX4_tempo 37 = .ok (.aload_n 0, 1) := by decide +kernel
theorem dX4_tempo_38 : decode cX4_tempo 38 = .ok (.iload_n 1, 1) := by decide +kernel
theorem dX4_tempo_39 : decode cX4_tempo 39 = .ok (.invokevirtual 105, 3) := by decide +kernel
theorem dX4_tempo_42 : decode cX4_tempo 42 = .ok (.istore_n 3, 1) := by decide +kernel
theorem dX4_tempo_43 : decode cX4_tempo 43 = .ok (.aload_n 0, 1) := by decide +kernel
theorem dX4_tempo_44 : decode cX4_tempo 44 = .ok (.getfield 43, 3) := by decide +kernel
theorem dX4_tempo_47 : decode cX4_tempo 47 = .ok (.iload_n 1, 1) := by decide +kernel
theorem dX4_tempo_48 : decode cX4_tempo 48 = .ok (.iload_n 2, 1) := by decide +kernel
theorem dX4_tempo_49 : decode cX4_tempo 49 = .ok (.iastore, 1) := by decide +kernel
theorem dX4_tempo_50 : decode cX4_tempo 50 = .ok (.iload_n 3, 1) := by decide +kernel
theorem dX4_tempo_51 : decode cX4_tempo 51 = .ok (.ireturn, 1) := by decide +kernel
theorem dX4_begins_0 : decode cX4_begins 0 = .ok (.lconst 0, 1) := by decide +kernel
theorem dX4_begins_1 : decode cX4_begins 1 = .ok (.lstore_n 2, 1) := by decide +kernel
theorem dX4_begins_2 : decode cX4_begins 2 = .ok (.iconst 0, 1) := by decide +kernel
theorem dX4_begins_3 : decode cX4_begins 3 = .ok (.istore 4, 2) := by decide +kernel
theorem dX4_begins_5 : decode cX4_begins 5 = .ok (.iload 4, 2) := by decide +kernel
theorem dX4_begins_7 : decode cX4_begins 7 = .ok (.iload_n 1, 1) := by decide +kernel
theorem dX4_begins_8 : decode cX4_begins 8 = .ok (.if_icmp .ge 26, 3) := by decide +kernel
theorem dX4_begins_11 : decode cX4_begins 11 = .ok (.iload 4, 2) := by decide +kernel
theorem dX4_begins_13 : decode cX4_begins 13 = .ok (.bipush 64, 2) := by decide +kernel
theorem dX4_begins_15 : decode cX4_begins 15 = .ok (.if_icmp .ge 19, 3) := by decide +kernel
theorem dX4_begins_18 : decode cX4_begins 18 = .ok (.lload_n 2, 1) := by decide +kernel
theorem dX4_begins_19 : decode cX4_begins 19 = .ok (.aload_n 0, 1) := by decide +kernel
theorem dX4_begins_20 : decode cX4_begins 20 = .ok (.iload 4, 2) := by decide +kernel
theorem dX4_begins_22 : decode cX4_begins 22 = .ok (.invokevirtual 105, 3) := by decide +kernel
theorem dX4_begins_25 : decode cX4_begins 25 = .ok (.i2l, 1) := by decide +kernel
theorem dX4_begins_26 : decode cX4_begins 26 = .ok (.ladd, 1) := by decide +kernel
theorem dX4_begins_27 : decode cX4_begins 27 = .ok (.lstore_n 2, 1) := by decide +kernel
theorem dX4_begins_28 : decode cX4_begins 28 = .ok (.iinc 4 1, 3) := by decide +kernel
theorem dX4_begins_31 : decode cX4_begins 31 = .ok (.goto (-26), 3) := by decide +kernel
theorem dX4_begins_34 : decode cX4_begins 34 = .ok (.aload_n 0, 1) := by decide +kernel
theorem dX4_begins_35 : decode cX4_begins 35 = .ok (.aload_n 0, 1) := by decide +kernel
theorem dX4_begins_36 : decode cX4_begins 36 = .ok (.iload_n 1, 1) := by decide +kernel
theorem dX4_begins_37 : decode cX4_begins 37 = .ok (.invokevirtual 70, 3) := by decide +kernel
theorem dX4_begins_40 : decode cX4_begins 40 = .ok (.ifCond .ne 7, 3) := by decide +kernel
theorem dX4_begins_43 : decode cX4_begins 43 = .ok (.iconst 1, 1) := by decide +kernel
theorem dX4_begins_44 : decode cX4_begins 44 = .ok (.goto 16, 3) := by decide +kernel
theorem dX4_begins_47 : decode cX4_begins 47 = .ok (.lload_n 2, 1) := by decide +kernel
theorem dX4_begins_48 : decode cX4_begins 48 = .ok (.ldc2_w 108, 3) := by decide +kernel
theorem dX4_begins_51 : decode cX4_begins 51 = .ok (.lcmp, 1) := by decide +kernel
theorem dX4_begins_52 : decode cX4_begins 52 = .ok (.ifCond .le 7, 3) := by decide +kernel
theorem dX4_begins_55 : decode cX4_begins 55 = .ok (.iconst 2, 1) := by decide +kernel
theorem dX4_begins_56 : decode cX4_begins 56 = .ok (.goto 4, 3) := by decide +kernel
theorem dX4_begins_59 : decode cX4_begins 59 = .ok (.iconst 0, 1) := by decide +kernel
theorem dX4_begins_60 : decode cX4_begins 60 = .ok (.invokevirtual 63, 3) := by decide +kernel
theorem dX4_begins_63 : decode cX4_begins 63 = .ok (.ifCond .eq 7, 3) := by decide +kernel
theorem dX4_begins_66 : decode cX4_begins 66 = .ok (.iconst (-1), 1) := by decide +kernel
theorem dX4_begins_67 : decode cX4_begins 67 = .ok (.goto 5, 3) := by decide +kernel
theorem dX4_begins_70 : decode cX4_begins 70 = .ok (.lload_n 2, 1) := by decide +kernel
theorem dX4_begins_71 : decode cX4_begins 71 = .ok (.l2i, 1) := by decide +kernel
theorem dX4_begins_72 : decode cX4_begins 72 = .ok (.ireturn, 1) := by decide +kernel
theorem dX4_flat_0 : decode cX4_flat 0 = .ok (.iload_n 1, 1) := by decide +kernel
theorem dX4_flat_1 : decode cX4_flat 1 = .ok (.ifCond .ge 8, 3) := by decide +kernel
theorem dX4_flat_4 : decode cX4_flat 4 = .ok (.iload_n 1, 1) := by decide +kernel
theorem dX4_flat_5 : decode cX4_flat 5 = .ok (.ineg, 1) := by decide +kernel
theorem dX4_flat_6 : decode cX4_flat 6 = .ok (.goto 4, 3) := by decide +kernel
theorem dX4_flat_9 : decode cX4_flat 9 = .ok (.iload_n 1, 1) := by decide +kernel
theorem dX4_flat_10 : decode cX4_flat 10 = .ok (.ireturn, 1) := by decide +kernel
theorem dX4_cost_0 : decode cX4_cost 0 = .ok (.iconst 0, 1) := by decide +kernel
theorem dX4_cost_1 : decode cX4_cost 1 = .ok (.istore 4, 2) := by decide +kernel
theorem dX4_cost_3 : decode cX4_cost 3 = .ok (.iload_n 2, 1) := by decide +kernel
theorem dX4_cost_4 : decode cX4_cost 4 = .ok (.istore 5, 2) := by decide +kernel
theorem dX4_cost_6 : decode cX4_cost 6 = .ok (.iload 5, 2) := by decide +kernel
theorem dX4_cost_8 : decode cX4_cost 8 = .ok (.iload_n 3, 1) := by decide +kernel
theorem dX4_cost_9 : decode cX4_cost 9 = .ok (.if_icmp .gt 57, 3) := by decide +kernel
theorem dX4_cost_12 : decode cX4_cost 12 = .ok (.iload 4, 2) := by decide +kernel
theorem dX4_cost_14 : decode cX4_cost 14 = .ok (.aload_n 0, 1) := by decide +kernel
theorem dX4_cost_15 : decode cX4_cost 15 = .ok (.aload_n 0, 1) := by decide +kernel
theorem dX4_cost_16 : decode cX4_cost 16 = .ok (.getfield 22, 3) := by decide +kernel
theorem dX4_cost_19 : decode cX4_cost 19 = .ok (.bipush 64, 2) := by decide +kernel
theorem dX4_cost_21 : decode cX4_cost 21 = .ok (.iload_n 1, 1) := by decide +kernel
theorem dX4_cost_22 : decode cX4_cost 22 = .ok (.imul, 1) := by decide +kernel
theorem dX4_cost_23 : decode cX4_cost 23 = .ok (.iload 5, 2) := by decide +kernel
theorem dX4_cost_25 : decode cX4_cost 25 = .ok (.iadd, 1) := by decide +kernel
theorem dX4_cost_26 : decode cX4_cost 26 = .ok (.iaload, 1) := by decide +kernel
theorem dX4_cost_27 : decode cX4_cost 27 = .ok (.invokevirtual 110, 3) := by decide +kernel
theorem dX4_cost_30 : decode cX4_cost 30 = .ok (.aload_n 0, 1) := by decide +kernel
theorem dX4_cost_31 : decode cX4_cost 31 = .ok (.aload_n 0, 1) := by decide +kernel
theorem dX4_cost_32 : decode cX4_cost 32 = .ok (.getfield 25, 3) := by decide +kernel
theorem dX4_cost_35 : decode cX4_cost 35 = .ok (.bipush 64, 2) := by decide +kernel
theorem dX4_cost_37 : decode cX4_cost 37 = .ok (.iload_n 1, 1) := by decide +kernel
theorem dX4_cost_38 : decode cX4_cost 38 = .ok (.imul, 1) := by decide +kernel
theorem dX4_cost_39 : decode cX4_cost 39 = .ok (.iload 5, 2) := by decide +kernel
theorem dX4_cost_41 : decode cX4_cost 41 = .ok (.iadd, 1) := by decide +kernel
theorem dX4_cost_42 : decode cX4_cost 42 = .ok (.iaload, 1) := by decide +kernel
theorem dX4_cost_43 : decode cX4_cost 43 = .ok (.invokevirtual 110, 3) := by decide +kernel
theorem dX4_cost_46 : decode cX4_cost 46 = .ok (.iadd, 1) := by decide +kernel
theorem dX4_cost_47 : decode cX4_cost 47 = .ok (.iconst 5, 1) := by decide +kernel
theorem dX4_cost_48 : decode cX4_cost 48 = .ok (.aload_n 0, 1) := by decide +kernel
theorem dX4_cost_49 : decode cX4_cost 49 = .ok (.iload_n 1, 1) := by decide +kernel
theorem dX4_cost_50 : decode cX4_cost 50 = .ok (.iload 5, 2) := by decide +kernel
theorem dX4_cost_52 : decode cX4_cost 52 = .ok (.invokevirtual 98, 3) := by decide +kernel
theorem dX4_cost_55 : decode cX4_cost 55 = .ok (.imul, 1) := by decide +kernel
theorem dX4_cost_56 : decode cX4_cost 56 = .ok (.iadd, 1) := by decide +kernel
theorem dX4_cost_57 : decode cX4_cost 57 = .ok (.iadd, 1) := by decide +kernel
theorem dX4_cost_58 : decode cX4_cost 58 = .ok (.istore 4, 2) := by decide +kernel
theorem dX4_cost_60 : decode cX4_cost 60 = .ok (.iinc 5 1, 3) := by decide +kernel
theorem dX4_cost_63 : decode cX4_cost 63 = .ok (.goto (-57), 3) := by decide +kernel
theorem dX4_cost_66 : decode cX4_cost 66 = .ok (.iload 4, 2) := by decide +kernel
theorem dX4_cost_68 : decode cX4_cost 68 = .ok (.ireturn, 1) := by decide +kernel
theorem dX4_isBusy_0 : decode cX4_isBusy 0 = .ok (.iconst 0, 1) := by decide +kernel
theorem dX4_isBusy_1 : decode cX4_isBusy 1 = .ok (.istore_n 3, 1) := by decide +kernel
theorem dX4_isBusy_2 : decode cX4_isBusy 2 = .ok (.iconst 0, 1) := by decide +kernel
theorem dX4_isBusy_3 : decode cX4_isBusy 3 = .ok (.istore 4, 2) := by decide +kernel
theorem dX4_isBusy_5 : decode cX4_isBusy 5 = .ok (.iload 4, 2) := by decide +kernel
theorem dX4_isBusy_7 : decode cX4_isBusy 7 = .ok (.iconst 3, 1) := by decide +kernel
theorem dX4_isBusy_8 : decode cX4_isBusy 8 = .ok (.if_icmp .ge 49, 3) := by decide +kernel
theorem dX4_isBusy_11 : decode cX4_isBusy 11 = .ok (.aload_n 0, 1) := by decide +kernel
theorem dX4_isBusy_12 : decode cX4_isBusy 12 = .ok (.getfield 46, 3) := by decide +kernel
theorem dX4_isBusy_15 : decode cX4_isBusy 15 = .ok (.bipush 13, 2) := by decide +kernel
theorem dX4_isBusy_17 : decode cX4_isBusy 17 = .ok (.iload 4, 2) := by decide +kernel
theorem dX4_isBusy_19 : decode cX4_isBusy 19 = .ok (.imul, 1) := by decide +kernel
theorem dX4_isBusy_20 : decode cX4_isBusy 20 = .ok (.iload_n 2, 1) := by decide +kernel
theorem dX4_isBusy_21 : decode cX4_isBusy 21 = .ok (.iadd, 1) := by decide +kernel
theorem dX4_isBusy_22 : decode cX4_isBusy 22 = .ok (.bipush 8, 2) := by decide +kernel
theorem dX4_isBusy_24 : decode cX4_isBusy 24 = .ok (.isub, 1) := by decide +kernel
theorem dX4_isBusy_25 : decode cX4_isBusy 25 = .ok (.iaload, 1) := by decide +kernel
theorem dX4_isBusy_26 : decode cX4_isBusy 26 = .ok (.istore 5, 2) := by decide +kernel
theorem dX4_isBusy_28 : decode cX4_isBusy 28 = .ok (.iload_n 3, 1) := by decide +kernel
theorem dX4_isBusy_29 : decode cX4_isBusy 29 = .ok (.iload 5, 2) := by decide +kernel
theorem dX4_isBusy_31 : decode cX4_isBusy 31 = .ok (.ifCond .lt 17, 3) := by decide +kernel
theorem dX4_isBusy_34 : decode cX4_isBusy 34 = .ok (.iload 5, 2) := by decide +kernel
theorem dX4_isBusy_36 : decode cX4_isBusy 36 = .ok (.iload_n 1, 1) := by decide +kernel
theorem dX4_isBusy_37 : decode cX4_isBusy 37 = .ok (.ishr, 1) := by decide +kernel
theorem dX4_isBusy_38 : decode cX4_isBusy 38 = .ok (.iconst 1, 1) := by decide +kernel
theorem dX4_isBusy_39 : decode cX4_isBusy 39 = .ok (.iand, 1) := by decide +kernel
theorem dX4_isBusy_40 : decode cX4_isBusy 40 = .ok (.iconst 1, 1) := by decide +kernel
theorem dX4_isBusy_41 : decode cX4_isBusy 41 = .ok (.if_icmp .ne 7, 3) := by decide +kernel
theorem dX4_isBusy_44 : decode cX4_isBusy 44 = .ok (.iconst 1, 1) := by decide +kernel
theorem dX4_isBusy_45 : decode cX4_isBusy 45 = .ok (.goto 4, 3) := by decide +kernel
theorem dX4_isBusy_48 : decode cX4_isBusy 48 = .ok (.iconst 0, 1) := by decide +kernel
theorem dX4_isBusy_49 : decode cX4_isBusy 49 = .ok (.ior, 1) := by decide +kernel
theorem dX4_isBusy_50 : decode cX4_isBusy 50 = .ok (.istore_n 3, 1) := by decide +kernel
theorem dX4_isBusy_51 : decode cX4_isBusy 51 = .ok (.iinc 4 1, 3) := by decide +kernel
theorem dX4_isBusy_54 : decode cX4_isBusy 54 = .ok (.goto (-49), 3) := by decide +kernel
theorem dX4_isBusy_57 : decode cX4_isBusy 57 = .ok (.iload_n 3, 1) := by decide +kernel
theorem dX4_isBusy_58 : decode cX4_isBusy 58 = .ok (.ireturn, 1) := by decide +kernel
theorem dX4_rehearse_0 : decode cX4_rehearse 0 = .ok (.aload_n 0, 1) := by decide +kernel
theorem dX4_rehearse_1 : decode cX4_rehearse 1 = .ok (.iload_n 1, 1) := by decide +kernel
theorem dX4_rehearse_2 : decode cX4_rehearse 2 = .ok (.iconst 0, 1) := by decide +kernel
theorem dX4_rehearse_3 : decode cX4_rehearse 3 = .ok (.iconst 2, 1) := by decide +kernel
theorem dX4_rehearse_4 : decode cX4_rehearse 4 = .ok (.invokevirtual 59, 3) := by decide +kernel
theorem dX4_rehearse_7 : decode cX4_rehearse 7 = .ok (.ifCond .eq 36, 3) := by decide +kernel
theorem dX4_rehearse_10 : decode cX4_rehearse 10 = .ok (.aload_n 0, 1) := by decide +kernel
theorem dX4_rehearse_11 : decode cX4_rehearse 11 = .ok (.iload_n 2, 1) := by decide +kernel
theorem dX4_rehearse_12 : decode cX4_rehearse 12 = .ok (.bipush 8, 2) := by decide +kernel
theorem dX4_rehearse_14 : decode cX4_rehearse 14 = .ok (.bipush 20, 2) := by decide +kernel
theorem dX4_rehearse_16 : decode cX4_rehearse 16 = .ok (.invokevirtual 59, 3) := by decide +kernel
theorem dX4_rehearse_19 : decode cX4_rehearse 19 = .ok (.ifCond .eq 24, 3) := by decide +kernel
theorem dX4_rehearse_22 : decode cX4_rehearse 22 = .ok (.aload_n 0, 1) := by decide +kernel
theorem dX4_rehearse_23 : decode cX4_rehearse 23 = .ok (.iload_n 3, 1) := by decide +kernel
theorem dX4_rehearse_24 : decode cX4_rehearse 24 = .ok (.invokevirtual 70, 3) := by decide +kernel
theorem dX4_rehearse_27 : decode cX4_rehearse 27 = .ok (.ifCond .eq 16, 3) := by decide +kernel
theorem dX4_rehearse_30 : decode cX4_rehearse 30 = .ok (.aload_n 0, 1) := by decide +kernel
theorem dX4_rehearse_31 : decode cX4_rehearse 31 = .ok (.iload 4, 2) := by decide +kernel
theorem dX4_rehearse_33 : decode cX4_rehearse 33 = .ok (.invokevirtual 70, 3) := by decide +kernel
theorem dX4_rehearse_36 : decode cX4_rehearse 36 = .ok (.ifCond .eq 7, 3) := by decide +kernel
theorem dX4_rehearse_39 : decode cX4_rehearse 39 = .ok (.iconst 1, 1) := by decide +kernel
theorem dX4_rehearse_40 : decode cX4_rehearse 40 = .ok (.goto 4, 3) := by decide +kernel
theorem dX4_rehearse_43 : decode cX4_rehearse 43 = .ok (.iconst 0, 1) := by decide +kernel
theorem dX4_rehearse_44 : decode cX4_rehearse 44 = .ok (.istore 5, 2) := by decide +kernel
theorem dX4_rehearse_46 : decode cX4_rehearse 46 = .ok (.iload 5, 2) := by decide +kernel
theorem dX4_rehearse_48 : decode cX4_rehearse 48 = .ok (.ifCond .eq 13, 3) := by decide +kernel
theorem dX4_rehearse_51 : decode cX4_rehearse 51 = .ok (.iload 4, 2) := by decide +kernel
theorem dX4_rehearse_53 : decode cX4_rehearse 53 = .ok (.iload_n 3, 1) := by decide +kernel
theorem dX4_rehearse_54 : decode cX4_rehearse 54 = .ok (.if_icmp .lt 7, 3) := by decide +kernel
theorem dX4_rehearse_57 : decode cX4_rehearse 57 = .ok (.iconst 1, 1) := by decide +kernel
theorem dX4_rehearse_58 : decode cX4_rehearse 58 = .ok (.goto 4, 3) := by decide +kernel
theorem dX4_rehearse_61 : decode cX4_rehearse 61 = .ok (.iconst 0, 1) := by decide +kernel
theorem dX4_rehearse_62 : decode cX4_rehearse 62 = .ok (.istore 6, 2) := by decide +kernel
theorem dX4_rehearse_64 : decode cX4_rehearse 64 = .ok (.iconst 0, 1) := by decide +kernel
theorem dX4_rehearse_65 : decode cX4_rehearse 65 = .ok (.istore 7, 2) := by decide +kernel
theorem dX4_rehearse_67 : decode cX4_rehearse 67 = .ok (.iload 6, 2) := by decide +kernel
theorem dX4_rehearse_69 : decode cX4_rehearse 69 = .ok (.ifCond .eq 24, 3) := by decide +kernel
theorem dX4_rehearse_72 : decode cX4_rehearse 72 = .ok (.aload_n 0, 1) := by decide +kernel
theorem dX4_rehearse_73 : decode cX4_rehearse 73 = .ok (.getfield 46, 3) := by decide +kernel
theorem dX4_rehearse_76 : decode cX4_rehearse 76 = .ok (.bipush 13, 2) := by decide +kernel
theorem dX4_rehearse_78 : decode cX4_rehearse 78 = .ok (.iload_n 1, 1) := by decide +kernel
theorem dX4_rehearse_79 : decode cX4_rehearse 79 = .ok (.imul, 1) := by decide +kernel
theorem dX4_rehearse_80 : decode cX4_rehearse 80 = .ok (.iload_n 2, 1) := by decide +kernel
theorem dX4_rehearse_81 : decode cX4_rehearse 81 = .ok (.iadd, 1) := by decide +kernel
theorem dX4_rehearse_82 : decode cX4_rehearse 82 = .ok (.bipush 8, 2) := by decide +kernel
theorem dX4_rehearse_84 : decode cX4_rehearse 84 = .ok (.isub, 1) := by decide +kernel
theorem dX4_rehearse_85 : decode cX4_rehearse 85 = .ok (.iaload, 1) := by decide +kernel
theorem dX4_rehearse_86 : decode cX4_rehearse 86 = .ok (.ifCond .lt 7, 3) := by decide +kernel
theorem dX4_rehearse_89 : decode cX4_rehearse 89 = .ok (.iconst 1, 1) := by decide +kernel
theorem dX4_rehearse_90 : decode cX4_rehearse 90 = .ok (.goto 4, 3) := by decide +kernel
theorem dX4_rehearse_93 : decode cX4_rehearse 93 = .ok (.iconst 0, 1) := by decide +kernel
theorem dX4_rehearse_94 : decode cX4_rehearse 94 = .ok (.istore 8, 2) := by decide +kernel
theorem dX4_rehearse_96 : decode cX4_rehearse 96 = .ok (.iconst 0, 1) := by decide +kernel
theorem dX4_rehearse_97 : decode cX4_rehearse 97 = .ok (.istore 9, 2) := by decide +kernel
theorem dX4_rehearse_99 : decode cX4_rehearse 99 = .ok (.iload 9, 2) := by decide +kernel
theorem dX4_rehearse_101 : decode cX4_rehearse 101 = .ok (.aload_n 0, 1) := by decide +kernel
theorem dX4_rehearse_102 : decode cX4_rehearse 102 = .ok (.getfield 56, 3) := by decide +kernel
theorem dX4_rehearse_105 : decode cX4_rehearse 105 = .ok (.if_icmp .ge 98, 3) := by decide +kernel
theorem dX4_rehearse_108 : decode cX4_rehearse 108 = .ok (.iload 6, 2) := by decide +kernel
theorem dX4_rehearse_110 : decode cX4_rehearse 110 = .ok (.ifCond .eq 93, 3) := by decide +kernel
theorem dX4_rehearse_113 : decode cX4_rehearse 113 = .ok (.aload_n 0, 1) := by decide +kernel
theorem dX4_rehearse_114 : decode cX4_rehearse 114 = .ok (.getfield 16, 3) := by decide +kernel
theorem dX4_rehearse_117 : decode cX4_rehearse 117 = .ok (.iload 9, 2) := by decide +kernel
theorem dX4_rehearse_119 : decode cX4_rehearse 119 = .ok (.iaload, 1) := by decide +kernel
theorem dX4_rehearse_120 : decode cX4_rehearse 120 = .ok (.iconst 1, 1) := by decide +kernel
theorem dX4_rehearse_121 : decode cX4_rehearse 121 = .ok (.if_icmp .ne 7, 3) := by decide +kernel
theorem dX4_rehearse_124 : decode cX4_rehearse 124 = .ok (.iconst 0, 1) := by decide +kernel
theorem dX4_rehearse_125 : decode cX4_rehearse 125 = .ok (.goto 12, 3) := by decide +kernel
theorem dX4_rehearse_128 : decode cX4_rehearse 128 = .ok (.aload_n 0, 1) := by decide +kernel
theorem dX4_rehearse_129 : decode cX4_rehearse 129 = .ok (.iload 9, 2) := by decide +kernel
theorem dX4_rehearse_131 : decode cX4_rehearse 131 = .ok (.iload_n 3, 1) := by decide +kernel
theorem dX4_rehearse_132 : decode cX4_rehearse 132 = .ok (.iload 4, 2) := by decide +kernel
theorem dX4_rehearse_134 : decode cX4_rehearse 134 = .ok (.invokevirtual 113, 3) := by decide +kernel
theorem dX4_rehearse_137 : decode cX4_rehearse 137 = .ok (.istore 10, 2) := by decide +kernel
theorem dX4_rehearse_139 : decode cX4_rehearse 139 = .ok (.iload 7, 2) := by decide +kernel
theorem dX4_rehearse_141 : decode cX4_rehearse 141 = .ok (.iload 10, 2) := by decide +kernel
theorem dX4_rehearse_143 : decode cX4_rehearse 143 = .ok (.ifCond .le 10, 3) := by decide +kernel
theorem dX4_rehearse_146 : decode cX4_rehearse 146 = .ok (.iconst 1, 1) := by decide +kernel
theorem dX4_rehearse_147 : decode cX4_rehearse 147 = .ok (.iload 9, 2) := by decide +kernel
theorem dX4_rehearse_149 : decode cX4_rehearse 149 = .ok (.ishl, 1) := by decide +kernel
theorem dX4_rehearse_150 : decode cX4_rehearse 150 = .ok (.goto 4, 3) := by decide +kernel
theorem dX4_rehearse_153 : decode cX4_rehearse 153 = .ok (.iconst 0, 1) := by decide +kernel
theorem dX4_rehearse_154 : decode cX4_rehearse 154 = .ok (.ior, 1) := by decide +kernel
theorem dX4_rehearse_155 : decode cX4_rehearse 155 = .ok (.istore 7, 2) := by decide +kernel
theorem dX4_rehearse_157 : decode cX4_rehearse 157 = .ok (.iload 8, 2) := by decide +kernel
theorem dX4_rehearse_159 : decode cX4_rehearse 159 = .ok (.iload 10, 2) := by decide +kernel
theorem dX4_rehearse_161 : decode cX4_rehearse 161 = .ok (.ifCond .le 32, 3) := by decide +kernel
theorem dX4_rehearse_164 : decode cX4_rehearse 164 = .ok (.aload_n 0, 1) := by decide +kernel
theorem dX4_rehearse_165 : decode cX4_rehearse 165 = .ok (.iload 9, 2) := by decide +kernel
theorem dX4_rehearse_167 : decode cX4_rehearse 167 = .ok (.iload_n 2, 1) := by decide +kernel
theorem dX4_rehearse_168 : decode cX4_rehearse 168 = .ok (.invokevirtual 117, 3) := by decide +kernel
theorem dX4_rehearse_171 : decode cX4_rehearse 171 = .ok (.ifCond .ne 18, 3) := by decide +kernel
theorem dX4_rehearse_174 : decode cX4_rehearse 174 = .ok (.aload_n 0, 1) := by decide +kernel
theorem dX4_rehearse_175 : decode cX4_rehearse 175 = .ok (.getfield 19, 3) := by decide +kernel
theorem dX4_rehearse_178 : decode cX4_rehearse 178 = .ok (.iload 9, 2) := by decide +kernel
theorem dX4_rehearse_180 : decode cX4_rehearse 180 = .ok (.iaload, 1) := by decide +kernel
theorem dX4_rehearse_181 : decode cX4_rehearse 181 = .ok (.iload 10, 2) := by decide +kernel
theorem dX4_rehearse_183 : decode cX4_rehearse 183 = .ok (.iadd, 1) := by decide +kernel
theorem dX4_rehearse_184 : decode cX4_rehearse 184 = .ok (.bipush 60, 2) := by decide +kernel
theorem dX4_rehearse_186 : decode cX4_rehearse 186 = .ok (.if_icmp .le 7, 3) := by decide +kernel
theorem dX4_rehearse_189 : decode cX4_rehearse 189 = .ok (.iconst 1, 1) := by decide +kernel
theorem dX4_rehearse_190 : decode cX4_rehearse 190 = .ok (.goto 4, 3) := by decide +kernel
theorem dX4_rehearse_193 : decode cX4_rehearse 193 = .ok (.iconst 0, 1) := by decide +kernel
theorem dX4_rehearse_194 : decode cX4_rehearse 194 = .ok (.ior, 1) := by decide +kernel
theorem dX4_rehearse_195 : decode cX4_rehearse 195 = .ok (.istore 8, 2) := by decide +kernel
theorem dX4_rehearse_197 : decode cX4_rehearse 197 = .ok (.iinc 9 1, 3) := by decide +kernel
theorem dX4_rehearse_200 : decode cX4_rehearse 200 = .ok (.goto (-101), 3) := by decide +kernel
theorem dX4_rehearse_203 : decode cX4_rehearse 203 = .ok (.aload_n 0, 1) := by decide +kernel
theorem dX4_rehearse_204 : decode cX4_rehearse 204 = .ok (.iload 5, 2) := by decide +kernel
theorem dX4_rehearse_206 : decode cX4_rehearse 206 = .ok (.ifCond .ne 7, 3) := by decide +kernel
theorem dX4_rehearse_209 : decode cX4_rehearse 209 = .ok (.iconst 1, 1) := by decide +kernel
theorem dX4_rehearse_210 : decode cX4_rehearse 210 = .ok (.goto 22, 3) := by decide +kernel
theorem dX4_rehearse_213 : decode cX4_rehearse 213 = .ok (.iload 6, 2) := by decide +kernel
theorem dX4_rehearse_215 : decode cX4_rehearse 215 = .ok (.ifCond .ne 7, 3) := by decide +kernel
theorem dX4_rehearse_218 : decode cX4_rehearse 218 = .ok (.iconst 2, 1) := by decide +kernel
theorem dX4_rehearse_219 : decode cX4_rehearse 219 = .ok (.goto 13, 3) := by decide +kernel
theorem dX4_rehearse_222 : decode cX4_rehearse 222 = .ok (.iload 8, 2) := by decide +kernel
theorem dX4_rehearse_224 : decode cX4_rehearse 224 = .ok (.ifCond .eq 7, 3) := by decide +kernel
theorem dX4_rehearse_227 : decode cX4_rehearse 227 = .ok (.iconst 3, 1) := by decide +kernel
theorem dX4_rehearse_228 : decode cX4_rehearse 228 = .ok (.goto 4, 3) := by decide +kernel
theorem dX4_rehearse_231 : decode cX4_rehearse 231 = .ok (.iconst 0, 1) := by decide +kernel
theorem dX4_rehearse_232 : decode cX4_rehearse 232 = .ok (.invokevirtual 63, 3) := by decide +kernel
theorem dX4_rehearse_235 : decode cX4_rehearse 235 = .ok (.ifCond .eq 5, 3) := by decide +kernel
theorem dX4_rehearse_238 : decode cX4_rehearse 238 = .ok (.iconst (-1), 1) := by decide +kernel
theorem dX4_rehearse_239 : decode cX4_rehearse 239 = .ok (.ireturn, 1) := by decide +kernel
theorem dX4_rehearse_240 : decode cX4_rehearse 240 = .ok (.iconst 0, 1) := by decide +kernel
theorem dX4_rehearse_241 : decode cX4_rehearse 241 = .ok (.istore 9, 2) := by decide +kernel
theorem dX4_rehearse_243 : decode cX4_rehearse 243 = .ok (.iload 9, 2) := by decide +kernel
theorem dX4_rehearse_245 : decode cX4_rehearse 245 = .ok (.aload_n 0, 1) := by decide +kernel
theorem dX4_rehearse_246 : decode cX4_rehearse 246 = .ok (.getfield 56, 3) := by decide +kernel
theorem dX4_rehearse_249 : decode cX4_rehearse 249 = .ok (.if_icmp .ge 43, 3) := by decide +kernel
theorem dX4_rehearse_252 : decode cX4_rehearse 252 = .ok (.aload_n 0, 1) := by decide +kernel
theorem dX4_rehearse_253 : decode cX4_rehearse 253 = .ok (.getfield 19, 3) := by decide +kernel
theorem dX4_rehearse_256 : decode cX4_rehearse 256 = .ok (.iload 9, 2) := by decide +kernel
theorem dX4_rehearse_258 : decode cX4_rehearse 258 = .ok (.dup2, 1) := by decide +kernel
theorem dX4_rehearse_259 : decode cX4_rehearse 259 = .ok (.iaload, 1) := by decide +kernel
theorem dX4_rehearse_260 : decode cX4_rehearse 260 = .ok (.iload 7, 2) := by decide +kernel
theorem dX4_rehearse_262 : decode cX4_rehearse 262 = .ok (.iload 9, 2) := by decide +kernel
theorem dX4_rehearse_264 : decode cX4_rehearse 264 = .ok (.ishr, 1) := by decide +kernel
theorem dX4_rehearse_265 : decode cX4_rehearse 265 = .ok (.iconst 1, 1) := by decide +kernel
theorem dX4_rehearse_266 : decode cX4_rehearse 266 = .ok (.iand, 1) := by decide +kernel
theorem dX4_rehearse_267 : decode cX4_rehearse 267 = .ok (.iconst 1, 1) := by decide +kernel
theorem dX4_rehearse_268 : decode cX4_rehearse 268 = .ok (.if_icmp .ne 15, 3) := by decide +kernel
theorem dX4_rehearse_271 : decode cX4_rehearse 271 = .ok (.aload_n 0, 1) := by decide +kernel
theorem dX4_rehearse_272 : decode cX4_rehearse 272 = .ok (.iload 9, 2) := by decide +kernel
theorem dX4_rehearse_274 : decode cX4_rehearse 274 = .ok (.iload_n 3, 1) := by decide +kernel
theorem dX4_rehearse_275 : decode cX4_rehearse 275 = .ok (.iload 4, 2) := by decide +kernel
theorem dX4_rehearse_277 : decode cX4_rehearse 277 = .ok (.invokevirtual 113, 3) := by decide +kernel
theorem dX4_rehearse_280 : decode cX4_rehearse 280 = .ok (.goto 4, 3) := by decide +kernel
theorem dX4_rehearse_283 : decode cX4_rehearse 283 = .ok (.iconst 0, 1) := by decide +kernel
theorem dX4_rehearse_284 : decode cX4_rehearse 284 = .ok (.iadd, 1) := by decide +kernel
theorem dX4_rehearse_285 : decode cX4_rehearse 285 = .ok (.iastore, 1) := by decide +kernel
theorem dX4_rehearse_286 : decode cX4_rehearse 286 = .ok (.iinc 9 1, 3) := by decide +kernel
theorem dX4_rehearse_289 : decode cX4_rehearse 289 = .ok (.goto (-46), 3) := by decide +kernel
theorem dX4_rehearse_292 : decode cX4_rehearse 292 = .ok (.aload_n 0, 1) := by decide +kernel
theorem dX4_rehearse_293 : decode cX4_rehearse 293 = .ok (.getfield 46, 3) := by decide +kernel
theorem dX4_rehearse_296 : decode cX4_rehearse 296 = .ok (.bipush 13, 2) := by decide +kernel
theorem dX4_rehearse_298 : decode cX4_rehearse 298 = .ok (.iload_n 1, 1) := by decide +kernel
theorem dX4_rehearse_299 : decode cX4_rehearse 299 = .ok (.imul, 1) := by decide +kernel
theorem dX4_rehearse_300 : decode cX4_rehearse 300 = .ok (.iload_n 2, 1) := by decide +kernel
theorem dX4_rehearse_301 : decode cX4_rehearse 301 = .ok (.iadd, 1) := by decide +kernel
theorem dX4_rehearse_302 : decode cX4_rehearse 302 = .ok (.bipush 8, 2) := by decide +kernel
theorem dX4_rehearse_304 : decode cX4_rehearse 304 = .ok (.isub, 1) := by decide +kernel
theorem dX4_rehearse_305 : decode cX4_rehearse 305 = .ok (.iload 7, 2) := by decide +kernel
theorem dX4_rehearse_307 : decode cX4_rehearse 307 = .ok (.iastore, 1) := by decide +kernel
theorem dX4_rehearse_308 : decode cX4_rehearse 308 = .ok (.iload 7, 2) := by decide +kernel
theorem dX4_rehearse_310 : decode cX4_rehearse 310 = .ok (.ireturn, 1) := by decide +kernel
theorem dX4_rehearsal_0 : decode cX4_rehearsal 0 = .ok (.aload_n 0, 1) := by decide +kernel
theorem dX4_rehearsal_1 : decode cX4_rehearsal 1 = .ok (.aload_n 0, 1) := by decide +kernel
theorem dX4_rehearsal_2 : decode cX4_rehearsal 2 = .ok (.iload_n 1, 1) := by decide +kernel
theorem dX4_rehearsal_3 : decode cX4_rehearsal 3 = .ok (.iconst 0, 1) := by decide +kernel
theorem dX4_rehearsal_4 : decode cX4_rehearsal 4 = .ok (.iconst 2, 1) := by decide +kernel
theorem dX4_rehearsal_5 : decode cX4_rehearsal 5 = .ok (.invokevirtual 59, 3) := by decide +kernel
theorem dX4_rehearsal_8 : decode cX4_rehearsal 8 = .ok (.ifCond .eq 19, 3) := by decide +kernel
theorem dX4_rehearsal_11 : decode cX4_rehearsal 11 = .ok (.aload_n 0, 1) := by decide +kernel
theorem dX4_rehearsal_12 : decode cX4_rehearsal 12 = .ok (.iload_n 2, 1) := by decide +kernel
theorem dX4_rehearsal_13 : decode cX4_rehearsal 13 = .ok (.bipush 8, 2) := by decide +kernel
theorem dX4_rehearsal_15 : decode cX4_rehearsal 15 = .ok (.bipush 20, 2) := by decide +kernel
theorem dX4_rehearsal_17 : decode cX4_rehearsal 17 = .ok (.invokevirtual 59, 3) := by decide +kernel
theorem dX4_rehearsal_20 : decode cX4_rehearsal 20 = .ok (.ifCond .eq 7, 3) := by decide +kernel
theorem dX4_rehearsal_23 : decode cX4_rehearsal 23 = .ok (.iconst 0, 1) := by decide +kernel
theorem dX4_rehearsal_24 : decode cX4_rehearsal 24 = .ok (.goto 4, 3) := by decide +kernel
theorem dX4_rehearsal_27 : decode cX4_rehearsal 27 = .ok (.iconst 1, 1) := by decide +kernel
theorem dX4_rehearsal_28 : decode cX4_rehearsal 28 = .ok (.invokevirtual 63, 3) := by decide +kernel
theorem dX4_rehearsal_31 : decode cX4_rehearsal 31 = .ok (.ifCond .eq 7, 3) := by decide +kernel
theorem dX4_rehearsal_34 : decode cX4_rehearsal 34 = .ok (.iconst (-1), 1) := by decide +kernel
theorem dX4_rehearsal_35 : decode cX4_rehearsal 35 = .ok (.goto 17, 3) := by decide +kernel
theorem dX4_rehearsal_38 : decode cX4_rehearsal 38 = .ok (.aload_n 0, 1) := by decide +kernel
theorem dX4_rehearsal_39 : decode cX4_rehearsal 39 = .ok (.getfield 46, 3) := by decide +kernel
theorem dX4_rehearsal_42 : decode cX4_rehearsal 42 = .ok (.bipush 13, 2) := by decide +kernel
theorem dX4_rehearsal_44 : decode cX4_rehearsal 44 = .ok (.iload_n 1, 1) := by decide +kernel
theorem dX4_rehearsal_45 : decode cX4_rehearsal 45 = .ok (.imul, 1) := by decide +kernel
theorem dX4_rehearsal_46 : decode cX4_rehearsal 46 = .ok (.iload_n 2, 1) := by decide +kernel
theorem dX4_rehearsal_47 : decode cX4_rehearsal 47 = .ok (.iadd, 1) := by decide +kernel
theorem dX4_rehearsal_48 : decode cX4_rehearsal 48 = .ok (.bipush 8, 2) := by decide +kernel
theorem dX4_rehearsal_50 : decode cX4_rehearsal 50 = .ok (.isub, 1) := by decide +kernel
theorem dX4_rehearsal_51 : decode cX4_rehearsal 51 = .ok (.iaload, 1) := by decide +kernel
theorem dX4_rehearsal_52 : decode cX4_rehearsal 52 = .ok (.ireturn, 1) := by decide +kernel
theorem dX4_knees_0 : decode cX4_knees 0 = .ok (.aload_n 0, 1) := by decide +kernel
theorem dX4_knees_1 : decode cX4_knees 1 = .ok (.aload_n 0, 1) := by decide +kernel
theorem dX4_knees_2 : decode cX4_knees 2 = .ok (.iload_n 1, 1) := by decide +kernel
theorem dX4_knees_3 : decode cX4_knees 3 = .ok (.invokevirtual 67, 3) := by decide +kernel
theorem dX4_knees_6 : decode cX4_knees 6 = .ok (.ifCond .eq 7, 3) := by decide +kernel
theorem dX4_knees_9 : decode cX4_knees 9 = .ok (.iconst 0, 1) := by decide +kernel
theorem dX4_knees_10 : decode cX4_knees 10 = .ok (.goto 4, 3) := by decide +kernel
theorem dX4_knees_13 : decode cX4_knees 13 = .ok (.iconst 1, 1) := by decide +kernel
theorem dX4_knees_14 : decode cX4_knees 14 = .ok (.invokevirtual 63, 3) := by decide +kernel
theorem dX4_knees_17 : decode cX4_knees 17 = .ok (.ifCond .eq 7, 3) := by decide +kernel
theorem dX4_knees_20 : decode cX4_knees 20 = .ok (.iconst (-1), 1) := by decide +kernel
theorem dX4_knees_21 : decode cX4_knees 21 = .ok (.goto 9, 3) := by decide +kernel
theorem dX4_knees_24 : decode cX4_knees 24 = .ok (.aload_n 0, 1) := by decide +kernel
theorem dX4_knees_25 : decode cX4_knees 25 = .ok (.getfield 19, 3) := by decide +kernel
theorem dX4_knees_28 : decode cX4_knees 28 = .ok (.iload_n 1, 1) := by decide +kernel
theorem dX4_knees_29 : decode cX4_knees 29 = .ok (.iaload, 1) := by decide +kernel
theorem dX4_knees_30 : decode cX4_knees 30 = .ok (.ireturn, 1) := by decide +kernel
theorem dX4_canCome_0 : decode cX4_canCome 0 = .ok (.aload_n 0, 1) := by decide +kernel
theorem dX4_canCome_1 : decode cX4_canCome 1 = .ok (.iload_n 2, 1) := by decide +kernel
theorem dX4_canCome_2 : decode cX4_canCome 2 = .ok (.iload_n 3, 1) := by decide +kernel
theorem dX4_canCome_3 : decode cX4_canCome 3 = .ok (.invokevirtual 77, 3) := by decide +kernel
theorem dX4_canCome_6 : decode cX4_canCome 6 = .ok (.aload_n 0, 1) := by decide +kernel
theorem dX4_canCome_7 : decode cX4_canCome 7 = .ok (.iload_n 1, 1) := by decide +kernel
theorem dX4_canCome_8 : decode cX4_canCome 8 = .ok (.iload_n 3, 1) := by decide +kernel
theorem dX4_canCome_9 : decode cX4_canCome 9 = .ok (.invokevirtual 77, 3) := by decide +kernel
theorem dX4_canCome_12 : decode cX4_canCome 12 = .ok (.isub, 1) := by decide +kernel
theorem dX4_canCome_13 : decode cX4_canCome 13 = .ok (.istore 4, 2) := by decide +kernel
theorem dX4_canCome_15 : decode cX4_canCome 15 = .ok (.aload_n 0, 1) := by decide +kernel
theorem dX4_canCome_16 : decode cX4_canCome 16 = .ok (.iload_n 2, 1) := by decide +kernel
theorem dX4_canCome_17 : decode cX4_canCome 17 = .ok (.iload_n 3, 1) := by decide +kernel
theorem dX4_canCome_18 : decode cX4_canCome 18 = .ok (.invokevirtual 73, 3) := by decide +kernel
theorem dX4_canCome_21 : decode cX4_canCome 21 = .ok (.aload_n 0, 1) := by decide +kernel
theorem dX4_canCome_22 : decode cX4_canCome 22 = .ok (.iload_n 1, 1) := by decide +kernel
theorem dX4_canCome_23 : decode cX4_canCome 23 = .ok (.iload_n 3, 1) := by decide +kernel
theorem dX4_canCome_24 : decode cX4_canCome 24 = .ok (.invokevirtual 73, 3) := by decide +kernel
theorem dX4_canCome_27 : decode cX4_canCome 27 = .ok (.isub, 1) := by decide +kernel
theorem dX4_canCome_28 : decode cX4_canCome 28 = .ok (.istore 5, 2) := by decide +kernel
theorem dX4_canCome_30 : decode cX4_canCome 30 = .ok (.iload_n 3, 1) := by decide +kernel
theorem dX4_canCome_31 : decode cX4_canCome 31 = .ok (.bipush 63, 2) := by decide +kernel
theorem dX4_canCome_33 : decode cX4_canCome 33 = .ok (.if_icmp .eq 27, 3) := by decide +kernel
theorem dX4_canCome_36 : decode cX4_canCome 36 = .ok (.aload_n 0, 1) := by decide +kernel
theorem dX4_canCome_37 : decode cX4_canCome 37 = .ok (.iload 4, 2) := by decide +kernel
theorem dX4_canCome_39 : decode cX4_canCome 39 = .ok (.bipush (-2), 2) := by decide +kernel
theorem dX4_canCome_41 : decode cX4_canCome 41 = .ok (.iconst 2, 1) := by decide +kernel
theorem dX4_canCome_42 : decode cX4_canCome 42 = .ok (.invokevirtual 59, 3) := by decide +kernel
theorem dX4_canCome_45 : decode cX4_canCome 45 = .ok (.ifCond .eq 15, 3) := by decide +kernel
theorem dX4_canCome_48 : decode cX4_canCome 48 = .ok (.aload_n 0, 1) := by decide +kernel
theorem dX4_canCome_49 : decode cX4_canCome 49 = .ok (.iload 5, 2) := by decide +kernel
theorem dX4_canCome_51 : decode cX4_canCome 51 = .ok (.bipush (-2), 2) := by decide +kernel
theorem dX4_canCome_53 : decode cX4_canCome 53 = .ok (.iconst 2, 1) := by decide +kernel
theorem dX4_canCome_54 : decode cX4_canCome 54 = .ok (.invokevirtual 59, 3) := by decide +kernel
theorem dX4_canCome_57 : decode cX4_canCome 57 = .ok (.ifCond .ne 5, 3) := by decide +kernel
theorem dX4_canCome_60 : decode cX4_canCome 60 = .ok (.iconst 0, 1) := by decide +kernel
theorem dX4_canCome_61 : decode cX4_canCome 61 = .ok (.ireturn, 1) := by decide +kernel
theorem dX4_canCome_62 : decode cX4_canCome 62 = .ok (.bipush 64, 2) := by decide +kernel
theorem dX4_canCome_64 : decode cX4_canCome 64 = .ok (.iload_n 1, 1) := by decide +kernel
theorem dX4_canCome_65 : decode cX4_canCome 65 = .ok (.imul, 1) := by decide +kernel
theorem dX4_canCome_66 : decode cX4_canCome 66 = .ok (.iload_n 3, 1) := by decide +kernel
theorem dX4_canCome_67 : decode cX4_canCome 67 = .ok (.iadd, 1) := by decide +kernel
theorem dX4_canCome_68 : decode cX4_canCome 68 = .ok (.istore 6, 2) := by decide +kernel
theorem dX4_canCome_70 : decode cX4_canCome 70 = .ok (.aload_n 0, 1) := by decide +kernel
theorem dX4_canCome_71 : decode cX4_canCome 71 = .ok (.aload_n 0, 1) := by decide +kernel
theorem dX4_canCome_72 : decode cX4_canCome 72 = .ok (.getfield 22, 3) := by decide +kernel
theorem dX4_canCome_75 : decode cX4_canCome 75 = .ok (.iload 6, 2) := by decide +kernel
theorem dX4_canCome_77 : decode cX4_canCome 77 = .ok (.iaload, 1) := by decide +kernel
theorem dX4_canCome_78 : decode cX4_canCome 78 = .ok (.iload 4, 2) := by decide +kernel
theorem dX4_canCome_80 : decode cX4_canCome 80 = .ok (.iadd, 1) := by decide +kernel
theorem dX4_canCome_81 : decode cX4_canCome 81 = .ok (.bipush (-2), 2) := by decide +kernel
theorem dX4_canCome_83 : decode cX4_canCome 83 = .ok (.iconst 2, 1) := by decide +kernel
theorem dX4_canCome_84 : decode cX4_canCome 84 = .ok (.invokevirtual 59, 3) := by decide +kernel
theorem dX4_canCome_87 : decode cX4_canCome 87 = .ok (.ifCond .eq 71, 3) := by decide +kernel
theorem dX4_canCome_90 : decode cX4_canCome 90 = .ok (.aload_n 0, 1) := by decide +kernel
theorem dX4_canCome_91 : decode cX4_canCome 91 = .ok (.aload_n 0, 1) := by decide +kernel
theorem dX4_canCome_92 : decode cX4_canCome 92 = .ok (.getfield 25, 3) := by decide +kernel
theorem dX4_canCome_95 : decode cX4_canCome 95 = .ok (.iload 6, 2) := by decide +kernel
theorem dX4_canCome_97 : decode cX4_canCome 97 = .ok (.iaload, 1) := by decide +kernel
theorem dX4_canCome_98 : decode cX4_canCome 98 = .ok (.iload 5, 2) := by decide +kernel
theorem dX4_canCome_100 : decode cX4_canCome 100 = .ok (.iadd, 1) := by decide +kernel
theorem dX4_canCome_101 : decode cX4_canCome 101 = .ok (.bipush (-2), 2) := by decide +kernel
theorem dX4_canCome_103 : decode cX4_canCome 103 = .ok (.iconst 2, 1) := by decide +kernel
theorem dX4_canCome_104 : decode cX4_canCome 104 = .ok (.invokevirtual 59, 3) := by decide +kernel
theorem dX4_canCome_107 : decode cX4_canCome 107 = .ok (.ifCond .eq 51, 3) := by decide +kernel
theorem dX4_canCome_110 : decode cX4_canCome 110 = .ok (.aload_n 0, 1) := by decide +kernel
theorem dX4_canCome_111 : decode cX4_canCome 111 = .ok (.aload_n 0, 1) := by decide +kernel
theorem dX4_canCome_112 : decode cX4_canCome 112 = .ok (.getfield 22, 3) := by decide +kernel
theorem dX4_canCome_115 : decode cX4_canCome 115 = .ok (.iload 6, 2) := by decide +kernel
theorem dX4_canCome_117 : decode cX4_canCome 117 = .ok (.iconst 1, 1) := by decide +kernel
theorem dX4_canCome_118 : decode cX4_canCome 118 = .ok (.iadd, 1) := by decide +kernel
theorem dX4_canCome_119 : decode cX4_canCome 119 = .ok (.iaload, 1) := by decide +kernel
theorem dX4_canCome_120 : decode cX4_canCome 120 = .ok (.iload 4, 2) := by decide +kernel
theorem dX4_canCome_122 : decode cX4_canCome 122 = .ok (.isub, 1) := by decide +kernel
theorem dX4_canCome_123 : decode cX4_canCome 123 = .ok (.bipush (-2), 2) := by decide +kernel
theorem dX4_canCome_125 : decode cX4_canCome 125 = .ok (.iconst 2, 1) := by decide +kernel
theorem dX4_canCome_126 : decode cX4_canCome 126 = .ok (.invokevirtual 59, 3) := by decide +kernel
theorem dX4_canCome_129 : decode cX4_canCome 129 = .ok (.ifCond .eq 29, 3) := by decide +kernel
theorem dX4_canCome_132 : decode cX4_canCome 132 = .ok (.aload_n 0, 1) := by decide +kernel
theorem dX4_canCome_133 : decode cX4_canCome 133 = .ok (.aload_n 0, 1) := by decide +kernel
theorem dX4_canCome_134 : decode cX4_canCome 134 = .ok (.getfield 25, 3) := by decide +kernel
theorem dX4_canCome_137 : decode cX4_canCome 137 = .ok (.iload 6, 2) := by decide +kernel
theorem dX4_canCome_139 : decode cX4_canCome 139 = .ok (.iconst 1, 1) := by decide +kernel
theorem dX4_canCome_140 : decode cX4_canCome 140 = .ok (.iadd, 1) := by decide +kernel
theorem dX4_canCome_141 : decode cX4_canCome 141 = .ok (.iaload, 1) := by decide +kernel
theorem dX4_canCome_142 : decode cX4_canCome 142 = .ok (.iload 5, 2) := by decide +kernel
theorem dX4_canCome_144 : decode cX4_canCome 144 = .ok (.isub, 1) := by decide +kernel
theorem dX4_canCome_145 : decode cX4_canCome 145 = .ok (.bipush (-2), 2) := by decide +kernel
theorem dX4_canCome_147 : decode cX4_canCome 147 = .ok (.iconst 2, 1) := by decide +kernel
theorem dX4_canCome_148 : decode cX4_canCome 148 = .ok (.invokevirtual 59, 3) := by decide +kernel
theorem dX4_canCome_151 : decode cX4_canCome 151 = .ok (.ifCond .eq 7, 3) := by decide +kernel
theorem dX4_canCome_154 : decode cX4_canCome 154 = .ok (.iconst 1, 1) := by decide +kernel
theorem dX4_canCome_155 : decode cX4_canCome 155 = .ok (.goto 4, 3) := by decide +kernel
theorem dX4_canCome_158 : decode cX4_canCome 158 = .ok (.iconst 0, 1) := by decide +kernel
theorem dX4_canCome_159 : decode cX4_canCome 159 = .ok (.ireturn, 1) := by decide +kernel
