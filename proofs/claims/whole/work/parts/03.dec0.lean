theorem dX0_init_0 : decode cX0_init 0 = .ok (.aload_n 0, 1) := by decide +kernel
theorem dX0_init_1 : decode cX0_init 1 = .ok (.invokespecial 3, 3) := by decide +kernel
theorem dX0_init_4 : decode cX0_init 4 = .ok (.aload_n 0, 1) := by decide +kernel
theorem dX0_init_5 : decode cX0_init 5 = .ok (.iconst 0, 1) := by decide +kernel
theorem dX0_init_6 : decode cX0_init 6 = .ok (.putfield 9, 3) := by decide +kernel
theorem dX0_init_9 : decode cX0_init 9 = .ok (.aload_n 0, 1) := by decide +kernel
theorem dX0_init_10 : decode cX0_init 10 = .ok (.iconst 0, 1) := by decide +kernel
theorem dX0_init_11 : decode cX0_init 11 = .ok (.putfield 15, 3) := by decide +kernel
theorem dX0_init_14 : decode cX0_init 14 = .ok (.aload_n 0, 1) := by decide +kernel
theorem dX0_init_15 : decode cX0_init 15 = .ok (.new 19, 3) := by decide +kernel
theorem dX0_init_18 : decode cX0_init 18 = .ok (.dup, 1) := by decide +kernel
theorem dX0_init_19 : decode cX0_init 19 = .ok (.iload_n 1, 1) := by decide +kernel
theorem dX0_init_20 : decode cX0_init 20 = .ok (.invokespecial 21, 3) := by decide +kernel
theorem dX0_init_23 : decode cX0_init 23 = .ok (.putfield 24, 3) := by decide +kernel
theorem dX0_init_26 : decode cX0_init 26 = .ok (.aload_n 0, 1) := by decide +kernel
theorem dX0_init_27 : decode cX0_init 27 = .ok (.new 19, 3) := by decide +kernel
theorem dX0_init_30 : decode cX0_init 30 = .ok (.dup, 1) := by decide +kernel
theorem dX0_init_31 : decode cX0_init 31 = .ok (.iload_n 2, 1) := by decide +kernel
theorem dX0_init_32 : decode cX0_init 32 = .ok (.invokespecial 21, 3) := by decide +kernel
theorem dX0_init_35 : decode cX0_init 35 = .ok (.putfield 28, 3) := by decide +kernel
theorem dX0_init_38 : decode cX0_init 38 = .ok (.return_, 1) := by decide +kernel
theorem dX0_track_0 : decode cX0_track 0 = .ok (.iload_n 1, 1) := by decide +kernel
theorem dX0_track_1 : decode cX0_track 1 = .ok (.ifCond .eq 10, 3) := by decide +kernel
theorem dX0_track_4 : decode cX0_track 4 = .ok (.aload_n 0, 1) := by decide +kernel
theorem dX0_track_5 : decode cX0_track 5 = .ok (.getfield 28, 3) := by decide +kernel
theorem dX0_track_8 : decode cX0_track 8 = .ok (.goto 7, 3) := by decide +kernel
theorem dX0_track_11 : decode cX0_track 11 = .ok (.aload_n 0, 1) := by decide +kernel
theorem dX0_track_12 : decode cX0_track 12 = .ok (.getfield 24, 3) := by decide +kernel
theorem dX0_track_15 : decode cX0_track 15 = .ok (.areturn, 1) := by decide +kernel
theorem dX0_countsWithMoves_0 : decode cX0_countsWithMoves 0 = .ok (.iconst 0, 1) := by decide +kernel
theorem dX0_countsWithMoves_1 : decode cX0_countsWithMoves 1 = .ok (.istore_n 1, 1) := by decide +kernel
theorem dX0_countsWithMoves_2 : decode cX0_countsWithMoves 2 = .ok (.iconst 0, 1) := by decide +kernel
theorem dX0_countsWithMoves_3 : decode cX0_countsWithMoves 3 = .ok (.istore_n 2, 1) := by decide +kernel
theorem dX0_countsWithMoves_4 : decode cX0_countsWithMoves 4 = .ok (.iload_n 2, 1) := by decide +kernel
theorem dX0_countsWithMoves_5 : decode cX0_countsWithMoves 5 = .ok (.bipush 64, 2) := by decide +kernel
theorem dX0_countsWithMoves_7 : decode cX0_countsWithMoves 7 = .ok (.if_icmp .ge 36, 3) := by decide +kernel
theorem dX0_countsWithMoves_10 : decode cX0_countsWithMoves 10 = .ok (.aload_n 0, 1) := by decide +kernel
theorem dX0_countsWithMoves_11 : decode cX0_countsWithMoves 11 = .ok (.getfield 24, 3) := by decide +kernel
theorem dX0_countsWithMoves_14 : decode cX0_countsWithMoves 14 = .ok (.getfield 31, 3) := by decide +kernel
theorem dX0_countsWithMoves_17 : decode cX0_countsWithMoves 17 = .ok (.iload_n 2, 1) := by decide +kernel
theorem dX0_countsWithMoves_18 : decode cX0_countsWithMoves 18 = .ok (.iaload, 1) := by decide +kernel
theorem dX0_countsWithMoves_19 : decode cX0_countsWithMoves 19 = .ok (.ifCond .ne 15, 3) := by decide +kernel
theorem dX0_countsWithMoves_22 : decode cX0_countsWithMoves 22 = .ok (.aload_n 0, 1) := by decide +kernel
theorem dX0_countsWithMoves_23 : decode cX0_countsWithMoves 23 = .ok (.getfield 28, 3) := by decide +kernel
theorem dX0_countsWithMoves_26 : decode cX0_countsWithMoves 26 = .ok (.getfield 31, 3) := by decide +kernel
theorem dX0_countsWithMoves_29 : decode cX0_countsWithMoves 29 = .ok (.iload_n 2, 1) := by decide +kernel
theorem dX0_countsWithMoves_30 : decode cX0_countsWithMoves 30 = .ok (.iaload, 1) := by decide +kernel
theorem dX0_countsWithMoves_31 : decode cX0_countsWithMoves 31 = .ok (.ifCond .eq 6, 3) := by decide +kernel
theorem dX0_countsWithMoves_34 : decode cX0_countsWithMoves 34 = .ok (.iinc 1 1, 3) := by decide +kernel
theorem dX0_countsWithMoves_37 : decode cX0_countsWithMoves 37 = .ok (.iinc 2 1, 3) := by decide +kernel
theorem dX0_countsWithMoves_40 : decode cX0_countsWithMoves 40 = .ok (.goto (-36), 3) := by decide +kernel
theorem dX0_countsWithMoves_43 : decode cX0_countsWithMoves 43 = .ok (.iload_n 1, 1) := by decide +kernel
theorem dX0_countsWithMoves_44 : decode cX0_countsWithMoves 44 = .ok (.ireturn, 1) := by decide +kernel
theorem dX0_isOffStage_0 : decode cX0_isOffStage 0 = .ok (.aload_n 0, 1) := by decide +kernel
theorem dX0_isOffStage_1 : decode cX0_isOffStage 1 = .ok (.getfield 24, 3) := by decide +kernel
theorem dX0_isOffStage_4 : decode cX0_isOffStage 4 = .ok (.getfield 35, 3) := by decide +kernel
theorem dX0_isOffStage_7 : decode cX0_isOffStage 7 = .ok (.iload_n 1, 1) := by decide +kernel
theorem dX0_isOffStage_8 : decode cX0_isOffStage 8 = .ok (.iaload, 1) := by decide +kernel
theorem dX0_isOffStage_9 : decode cX0_isOffStage 9 = .ok (.invokestatic 38, 3) := by decide +kernel
theorem dX0_isOffStage_12 : decode cX0_isOffStage 12 = .ok (.ifCond .eq 18, 3) := by decide +kernel
theorem dX0_isOffStage_15 : decode cX0_isOffStage 15 = .ok (.aload_n 0, 1) := by decide +kernel
theorem dX0_isOffStage_16 : decode cX0_isOffStage 16 = .ok (.getfield 28, 3) := by decide +kernel
theorem dX0_isOffStage_19 : decode cX0_isOffStage 19 = .ok (.getfield 35, 3) := by decide +kernel
theorem dX0_isOffStage_22 : decode cX0_isOffStage 22 = .ok (.iload_n 1, 1) := by decide +kernel
theorem dX0_isOffStage_23 : decode cX0_isOffStage 23 = .ok (.iaload, 1) := by decide +kernel
theorem dX0_isOffStage_24 : decode cX0_isOffStage 24 = .ok (.invokestatic 38, 3) := by decide +kernel
theorem dX0_isOffStage_27 : decode cX0_isOffStage 27 = .ok (.ifCond .ne 7, 3) := by decide +kernel
theorem dX0_isOffStage_30 : decode cX0_isOffStage 30 = .ok (.iconst 1, 1) := by decide +kernel
theorem dX0_isOffStage_31 : decode cX0_isOffStage 31 = .ok (.goto 4, 3) := by decide +kernel
theorem dX0_isOffStage_34 : decode cX0_isOffStage 34 = .ok (.iconst 0, 1) := by decide +kernel
theorem dX0_isOffStage_35 : decode cX0_isOffStage 35 = .ok (.ireturn, 1) := by decide +kernel
theorem dX0_isWith_0 : decode cX0_isWith 0 = .ok (.aload_n 0, 1) := by decide +kernel
theorem dX0_isWith_1 : decode cX0_isWith 1 = .ok (.getfield 24, 3) := by decide +kernel
theorem dX0_isWith_4 : decode cX0_isWith 4 = .ok (.aload_n 1, 1) := by decide +kernel
theorem dX0_isWith_5 : decode cX0_isWith 5 = .ok (.getfield 24, 3) := by decide +kernel
theorem dX0_isWith_8 : decode cX0_isWith 8 = .ok (.iload_n 2, 1) := by decide +kernel
theorem dX0_isWith_9 : decode cX0_isWith 9 = .ok (.invokevirtual 42, 3) := by decide +kernel
theorem dX0_isWith_12 : decode cX0_isWith 12 = .ok (.ifCond .ne 22, 3) := by decide +kernel
theorem dX0_isWith_15 : decode cX0_isWith 15 = .ok (.aload_n 0, 1) := by decide +kernel
theorem dX0_isWith_16 : decode cX0_isWith 16 = .ok (.getfield 28, 3) := by decide +kernel
theorem dX0_isWith_19 : decode cX0_isWith 19 = .ok (.aload_n 1, 1) := by decide +kernel
theorem dX0_isWith_20 : decode cX0_isWith 20 = .ok (.getfield 28, 3) := by decide +kernel
theorem dX0_isWith_23 : decode cX0_isWith 23 = .ok (.iload_n 2, 1) := by decide +kernel
theorem dX0_isWith_24 : decode cX0_isWith 24 = .ok (.invokevirtual 42, 3) := by decide +kernel
theorem dX0_isWith_27 : decode cX0_isWith 27 = .ok (.ifCond .ne 7, 3) := by decide +kernel
theorem dX0_isWith_30 : decode cX0_isWith 30 = .ok (.iconst 1, 1) := by decide +kernel
theorem dX0_isWith_31 : decode cX0_isWith 31 = .ok (.goto 4, 3) := by decide +kernel
theorem dX0_isWith_34 : decode cX0_isWith 34 = .ok (.iconst 0, 1) := by decide +kernel
theorem dX0_isWith_35 : decode cX0_isWith 35 = .ok (.ireturn, 1) := by decide +kernel
theorem dX0_isBeside_0 : decode cX0_isBeside 0 = .ok (.aload_n 0, 1) := by decide +kernel
theorem dX0_isBeside_1 : decode cX0_isBeside 1 = .ok (.aload_n 1, 1) := by decide +kernel
theorem dX0_isBeside_2 : decode cX0_isBeside 2 = .ok (.iload_n 2, 1) := by decide +kernel
theorem dX0_isBeside_3 : decode cX0_isBeside 3 = .ok (.invokevirtual 46, 3) := by decide +kernel
theorem dX0_isBeside_6 : decode cX0_isBeside 6 = .ok (.ifCond .ne 45, 3) := by decide +kernel
theorem dX0_isBeside_9 : decode cX0_isBeside 9 = .ok (.aload_n 0, 1) := by decide +kernel
theorem dX0_isBeside_10 : decode cX0_isBeside 10 = .ok (.getfield 24, 3) := by decide +kernel
theorem dX0_isBeside_13 : decode cX0_isBeside 13 = .ok (.aload_n 1, 1) := by decide +kernel
theorem dX0_isBeside_14 : decode cX0_isBeside 14 = .ok (.getfield 24, 3) := by decide +kernel
theorem dX0_isBeside_17 : decode cX0_isBeside 17 = .ok (.iload_n 2, 1) := by decide +kernel
theorem dX0_isBeside_18 : decode cX0_isBeside 18 = .ok (.invokevirtual 42, 3) := by decide +kernel
theorem dX0_isBeside_21 : decode cX0_isBeside 21 = .ok (.invokestatic 50, 3) := by decide +kernel
theorem dX0_isBeside_24 : decode cX0_isBeside 24 = .ok (.iconst 1, 1) := by decide +kernel
theorem dX0_isBeside_25 : decode cX0_isBeside 25 = .ok (.if_icmp .gt 26, 3) := by decide +kernel
theorem dX0_isBeside_28 : decode cX0_isBeside 28 = .ok (.aload_n 0, 1) := by decide +kernel
theorem dX0_isBeside_29 : decode cX0_isBeside 29 = .ok (.getfield 28, 3) := by decide +kernel
theorem dX0_isBeside_32 : decode cX0_isBeside 32 = .ok (.aload_n 1, 1) := by decide +kernel
theorem dX0_isBeside_33 : decode cX0_isBeside 33 = .ok (.getfield 28, 3) := by decide +kernel
theorem dX0_isBeside_36 : decode cX0_isBeside 36 = .ok (.iload_n 2, 1) := by decide +kernel
theorem dX0_isBeside_37 : decode cX0_isBeside 37 = .ok (.invokevirtual 42, 3) := by decide +kernel
theorem dX0_isBeside_40 : decode cX0_isBeside 40 = .ok (.invokestatic 50, 3) := by decide +kernel
theorem dX0_isBeside_43 : decode cX0_isBeside 43 = .ok (.iconst 1, 1) := by decide +kernel
theorem dX0_isBeside_44 : decode cX0_isBeside 44 = .ok (.if_icmp .gt 7, 3) := by decide +kernel
theorem dX0_isBeside_47 : decode cX0_isBeside 47 = .ok (.iconst 1, 1) := by decide +kernel
theorem dX0_isBeside_48 : decode cX0_isBeside 48 = .ok (.goto 4, 3) := by decide +kernel
theorem dX0_isBeside_51 : decode cX0_isBeside 51 = .ok (.iconst 0, 1) := by decide +kernel
theorem dX0_isBeside_52 : decode cX0_isBeside 52 = .ok (.ireturn, 1) := by decide +kernel
theorem dX0_changesPlacesWith_0 : decode cX0_changesPlacesWith 0 = .ok (.aload_n 0, 1) := by decide +kernel
theorem dX0_changesPlacesWith_1 : decode cX0_changesPlacesWith 1 = .ok (.aload_n 1, 1) := by decide +kernel
theorem dX0_changesPlacesWith_2 : decode cX0_changesPlacesWith 2 = .ok (.iload_n 2, 1) := by decide +kernel
theorem dX0_changesPlacesWith_3 : decode cX0_changesPlacesWith 3 = .ok (.invokevirtual 56, 3) := by decide +kernel
theorem dX0_changesPlacesWith_6 : decode cX0_changesPlacesWith 6 = .ok (.ifCond .eq 16, 3) := by decide +kernel
theorem dX0_changesPlacesWith_9 : decode cX0_changesPlacesWith 9 = .ok (.aload_n 1, 1) := by decide +kernel
theorem dX0_changesPlacesWith_10 : decode cX0_changesPlacesWith 10 = .ok (.aload_n 0, 1) := by decide +kernel
theorem dX0_changesPlacesWith_11 : decode cX0_changesPlacesWith 11 = .ok (.iload_n 2, 1) := by decide +kernel
theorem dX0_changesPlacesWith_12 : decode cX0_changesPlacesWith 12 = .ok (.invokevirtual 56, 3) := by decide +kernel
theorem dX0_changesPlacesWith_15 : decode cX0_changesPlacesWith 15 = .ok (.ifCond .eq 7, 3) := by decide +kernel
theorem dX0_changesPlacesWith_18 : decode cX0_changesPlacesWith 18 = .ok (.iconst 1, 1) := by decide +kernel
theorem dX0_changesPlacesWith_19 : decode cX0_changesPlacesWith 19 = .ok (.goto 4, 3) := by decide +kernel
theorem dX0_changesPlacesWith_22 : decode cX0_changesPlacesWith 22 = .ok (.iconst 0, 1) := by decide +kernel
theorem dX0_changesPlacesWith_23 : decode cX0_changesPlacesWith 23 = .ok (.ireturn, 1) := by decide +kernel
theorem dX0_takesPlaceOf_0 : decode cX0_takesPlaceOf 0 = .ok (.aload_n 0, 1) := by decide +kernel
theorem dX0_takesPlaceOf_1 : decode cX0_takesPlaceOf 1 = .ok (.getfield 24, 3) := by decide +kernel
theorem dX0_takesPlaceOf_4 : decode cX0_takesPlaceOf 4 = .ok (.getfield 35, 3) := by decide +kernel
theorem dX0_takesPlaceOf_7 : decode cX0_takesPlaceOf 7 = .ok (.iload_n 2, 1) := by decide +kernel
theorem dX0_takesPlaceOf_8 : decode cX0_takesPlaceOf 8 = .ok (.iaload, 1) := by decide +kernel
theorem dX0_takesPlaceOf_9 : decode cX0_takesPlaceOf 9 = .ok (.aload_n 1, 1) := by decide +kernel
theorem dX0_takesPlaceOf_10 : decode cX0_takesPlaceOf 10 = .ok (.getfield 24, 3) := by decide +kernel
theorem dX0_takesPlaceOf_13 : decode cX0_takesPlaceOf 13 = .ok (.iload_n 2, 1) := by decide +kernel
theorem dX0_takesPlaceOf_14 : decode cX0_takesPlaceOf 14 = .ok (.invokevirtual 59, 3) := by decide +kernel
theorem dX0_takesPlaceOf_17 : decode cX0_takesPlaceOf 17 = .ok (.if_icmp .ne 27, 3) := by decide +kernel
theorem dX0_takesPlaceOf_20 : decode cX0_takesPlaceOf 20 = .ok (.aload_n 0, 1) := by decide +kernel
theorem dX0_takesPlaceOf_21 : decode cX0_takesPlaceOf 21 = .ok (.getfield 28, 3) := by decide +kernel
theorem dX0_takesPlaceOf_24 : decode cX0_takesPlaceOf 24 = .ok (.getfield 35, 3) := by decide +kernel
theorem dX0_takesPlaceOf_27 : decode cX0_takesPlaceOf 27 = .ok (.iload_n 2, 1) := by decide +kernel
theorem dX0_takesPlaceOf_28 : decode cX0_takesPlaceOf 28 = .ok (.iaload, 1) := by decide +kernel
theorem dX0_takesPlaceOf_29 : decode cX0_takesPlaceOf 29 = .ok (.aload_n 1, 1) := by decide +kernel
theorem dX0_takesPlaceOf_30 : decode cX0_takesPlaceOf 30 = .ok (.getfield 28, 3) := by decide +kernel
theorem dX0_takesPlaceOf_33 : decode cX0_takesPlaceOf 33 = .ok (.iload_n 2, 1) := by decide +kernel
theorem dX0_takesPlaceOf_34 : decode cX0_takesPlaceOf 34 = .ok (.invokevirtual 59, 3) := by decide +kernel
theorem dX0_takesPlaceOf_37 : decode cX0_takesPlaceOf 37 = .ok (.if_icmp .ne 7, 3) := by decide +kernel
theorem dX0_takesPlaceOf_40 : decode cX0_takesPlaceOf 40 = .ok (.iconst 1, 1) := by decide +kernel
theorem dX0_takesPlaceOf_41 : decode cX0_takesPlaceOf 41 = .ok (.goto 4, 3) := by decide +kernel
theorem dX0_takesPlaceOf_44 : decode cX0_takesPlaceOf 44 = .ok (.iconst 0, 1) := by decide +kernel
theorem dX0_takesPlaceOf_45 : decode cX0_takesPlaceOf 45 = .ok (.ireturn, 1) := by decide +kernel
theorem dX0_canVisit_0 : decode cX0_canVisit 0 = .ok (.aload_n 0, 1) := by decide +kernel
theorem dX0_canVisit_1 : decode cX0_canVisit 1 = .ok (.getfield 24, 3) := by decide +kernel
theorem dX0_canVisit_4 : decode cX0_canVisit 4 = .ok (.aload_n 1, 1) := by decide +kernel
theorem dX0_canVisit_5 : decode cX0_canVisit 5 = .ok (.getfield 24, 3) := by decide +kernel
theorem dX0_canVisit_8 : decode cX0_canVisit 8 = .ok (.iload_n 2, 1) := by decide +kernel
theorem dX0_canVisit_9 : decode cX0_canVisit 9 = .ok (.invokevirtual 62, 3) := by decide +kernel
theorem dX0_canVisit_12 : decode cX0_canVisit 12 = .ok (.ifCond .eq 22, 3) := by decide +kernel
theorem dX0_canVisit_15 : decode cX0_canVisit 15 = .ok (.aload_n 0, 1) := by decide +kernel
theorem dX0_canVisit_16 : decode cX0_canVisit 16 = .ok (.getfield 28, 3) := by decide +kernel
theorem dX0_canVisit_19 : decode cX0_canVisit 19 = .ok (.aload_n 1, 1) := by decide +kernel
theorem dX0_canVisit_20 : decode cX0_canVisit 20 = .ok (.getfield 28, 3) := by decide +kernel
theorem dX0_canVisit_23 : decode cX0_canVisit 23 = .ok (.iload_n 2, 1) := by decide +kernel
theorem dX0_canVisit_24 : decode cX0_canVisit 24 = .ok (.invokevirtual 62, 3) := by decide +kernel
theorem dX0_canVisit_27 : decode cX0_canVisit 27 = .ok (.ifCond .eq 7, 3) := by decide +kernel
theorem dX0_canVisit_30 : decode cX0_canVisit 30 = .ok (.iconst 1, 1) := by decide +kernel
theorem dX0_canVisit_31 : decode cX0_canVisit 31 = .ok (.goto 4, 3) := by decide +kernel
theorem dX0_canVisit_34 : decode cX0_canVisit 34 = .ok (.iconst 0, 1) := by decide +kernel
theorem dX0_canVisit_35 : decode cX0_canVisit 35 = .ok (.ireturn, 1) := by decide +kernel
theorem dX0_visit_0 : decode cX0_visit 0 = .ok (.aload_n 0, 1) := by decide +kernel
theorem dX0_visit_1 : decode cX0_visit 1 = .ok (.getfield 24, 3) := by decide +kernel
theorem dX0_visit_4 : decode cX0_visit 4 = .ok (.aload_n 1, 1) := by decide +kernel
theorem dX0_visit_5 : decode cX0_visit 5 = .ok (.getfield 24, 3) := by decide +kernel
theorem dX0_visit_8 : decode cX0_visit 8 = .ok (.iload_n 2, 1) := by decide +kernel
theorem dX0_visit_9 : decode cX0_visit 9 = .ok (.invokevirtual 66, 3) := by decide +kernel
theorem dX0_visit_12 : decode cX0_visit 12 = .ok (.aload_n 0, 1) := by decide +kernel
theorem dX0_visit_13 : decode cX0_visit 13 = .ok (.getfield 28, 3) := by decide +kernel
theorem dX0_visit_16 : decode cX0_visit 16 = .ok (.aload_n 1, 1) := by decide +kernel
theorem dX0_visit_17 : decode cX0_visit 17 = .ok (.getfield 28, 3) := by decide +kernel
theorem dX0_visit_20 : decode cX0_visit 20 = .ok (.iload_n 2, 1) := by decide +kernel
theorem dX0_visit_21 : decode cX0_visit 21 = .ok (.invokevirtual 66, 3) := by decide +kernel
theorem dX0_visit_24 : decode cX0_visit 24 = .ok (.return_, 1) := by decide +kernel
theorem dX1_init_0 : decode cX1_init 0 = .ok (.aload_n 0, 1) := by decide +kernel
theorem dX1_init_1 : decode cX1_init 1 = .ok (.invokespecial 1, 3) := by decide +kernel
theorem dX1_init_4 : decode cX1_init 4 = .ok (.aload_n 0, 1) := by decide +kernel
theorem dX1_init_5 : decode cX1_init 5 = .ok (.iconst 0, 1) := by decide +kernel
theorem dX1_init_6 : decode cX1_init 6 = .ok (.putfield 7, 3) := by decide +kernel
theorem dX1_init_9 : decode cX1_init 9 = .ok (.aload_n 0, 1) := by decide +kernel
theorem dX1_init_10 : decode cX1_init 10 = .ok (.iload_n 1, 1) := by decide +kernel
theorem dX1_init_11 : decode cX1_init 11 = .ok (.putfield 13, 3) := by decide +kernel
theorem dX1_init_14 : decode cX1_init 14 = .ok (.aload_n 0, 1) := by decide +kernel
theorem dX1_init_15 : decode cX1_init 15 = .ok (.iload_n 2, 1) := by decide +kernel
theorem dX1_init_16 : decode cX1_init 16 = .ok (.putfield 17, 3) := by decide +kernel
theorem dX1_init_19 : decode cX1_init 19 = .ok (.aload_n 0, 1) := by decide +kernel
theorem dX1_init_20 : decode cX1_init 20 = .ok (.iload_n 3, 1) := by decide +kernel
theorem dX1_init_21 : decode cX1_init 21 = .ok (.putfield 20, 3) := by decide +kernel
theorem dX1_init_24 : decode cX1_init 24 = .ok (.aload_n 0, 1) := by decide +kernel
theorem dX1_init_25 : decode cX1_init 25 = .ok (.iload 4, 2) := by decide +kernel
theorem dX1_init_27 : decode cX1_init 27 = .ok (.putfield 23, 3) := by decide +kernel
theorem dX1_init_30 : decode cX1_init 30 = .ok (.return_, 1) := by decide +kernel
theorem dX1_isBy_0 : decode cX1_isBy 0 = .ok (.aload_n 0, 1) := by decide +kernel
theorem dX1_isBy_1 : decode cX1_isBy 1 = .ok (.getfield 20, 3) := by decide +kernel
theorem dX1_isBy_4 : decode cX1_isBy 4 = .ok (.iload_n 1, 1) := by decide +kernel
theorem dX1_isBy_5 : decode cX1_isBy 5 = .ok (.if_icmp .eq 11, 3) := by decide +kernel
theorem dX1_isBy_8 : decode cX1_isBy 8 = .ok (.aload_n 0, 1) := by decide +kernel
theorem dX1_isBy_9 : decode cX1_isBy 9 = .ok (.getfield 23, 3) := by decide +kernel
theorem dX1_isBy_12 : decode cX1_isBy 12 = .ok (.iload_n 1, 1) := by decide +kernel
theorem dX1_isBy_13 : decode cX1_isBy 13 = .ok (.if_icmp .ne 7, 3) := by decide +kernel
theorem dX1_isBy_16 : decode cX1_isBy 16 = .ok (.iconst 1, 1) := by decide +kernel
theorem dX1_isBy_17 : decode cX1_isBy 17 = .ok (.goto 4, 3) := by decide +kernel
theorem dX1_isBy_20 : decode cX1_isBy 20 = .ok (.iconst 0, 1) := by decide +kernel
theorem dX1_isBy_21 : decode cX1_isBy 21 = .ok (.ireturn, 1) := by decide +kernel
theorem dX1_has_0 : decode cX1_has 0 = .ok (.aload_n 0, 1) := by decide +kernel
theorem dX1_has_1 : decode cX1_has 1 = .ok (.getfield 17, 3) := by decide +kernel
theorem dX1_has_4 : decode cX1_has 4 = .ok (.iload_n 1, 1) := by decide +kernel
theorem dX1_has_5 : decode cX1_has 5 = .ok (.if_icmp .eq 11, 3) := by decide +kernel
theorem dX1_has_8 : decode cX1_has 8 = .ok (.aload_n 0, 1) := by decide +kernel
theorem dX1_has_9 : decode cX1_has 9 = .ok (.iload_n 1, 1) := by decide +kernel
theorem dX1_has_10 : decode cX1_has 10 = .ok (.invokevirtual 26, 3) := by decide +kernel
theorem dX1_has_13 : decode cX1_has 13 = .ok (.ifCond .eq 7, 3) := by decide +kernel
theorem dX1_has_16 : decode cX1_has 16 = .ok (.iconst 1, 1) := by decide +kernel
theorem dX1_has_17 : decode cX1_has 17 = .ok (.goto 4, 3) := by decide +kernel
theorem dX1_has_20 : decode cX1_has 20 = .ok (.iconst 0, 1) := by decide +kernel
theorem dX1_has_21 : decode cX1_has 21 = .ok (.ireturn, 1) := by decide +kernel
theorem dX1_replace_0 : decode cX1_replace 0 = .ok (.aload_n 0, 1) := by decide +kernel
theorem dX1_replace_1 : decode cX1_replace 1 = .ok (.getfield 20, 3) := by decide +kernel
theorem dX1_replace_4 : decode cX1_replace 4 = .ok (.iload_n 1, 1) := by decide +kernel
theorem dX1_replace_5 : decode cX1_replace 5 = .ok (.if_icmp .ne 11, 3) := by decide +kernel
theorem dX1_replace_8 : decode cX1_replace 8 = .ok (.aload_n 0, 1) := by decide +kernel
theorem dX1_replace_9 : decode cX1_replace 9 = .ok (.iload_n 2, 1) := by decide +kernel
theorem dX1_replace_10 : decode cX1_replace 10 = .ok (.putfield 20, 3) := by decide +kernel
theorem dX1_replace_13 : decode cX1_replace 13 = .ok (.goto 8, 3) := by decide +kernel
theorem dX1_replace_16 : decode cX1_replace 16 = .ok (.aload_n 0, 1) := by decide +kernel
theorem dX1_replace_17 : decode cX1_replace 17 = .ok (.iload_n 2, 1) := by decide +kernel
theorem dX1_replace_18 : decode cX1_replace 18 = .ok (.putfield 23, 3) := by decide +kernel
theorem dX1_replace_21 : decode cX1_replace 21 = .ok (.return_, 1) := by decide +kernel
theorem dX2_init_0 : decode cX2_init 0 = .ok (.aload_n 0, 1) := by decide +kernel
theorem dX2_init_1 : decode cX2_init 1 = .ok (.invokespecial 3, 3) := by decide +kernel
theorem dX2_init_4 : decode cX2_init 4 = .ok (.aload_n 0, 1) := by decide +kernel
theorem dX2_init_5 : decode cX2_init 5 = .ok (.bipush 64, 2) := by decide +kernel
theorem dX2_init_7 : decode cX2_init 7 = .ok (.newarray .int, 2) := by decide +kernel
theorem dX2_init_9 : decode cX2_init 9 = .ok (.putfield 9, 3) := by decide +kernel
theorem dX2_init_12 : decode cX2_init 12 = .ok (.aload_n 0, 1) := by decide +kernel
theorem dX2_init_13 : decode cX2_init 13 = .ok (.bipush 64, 2) := by decide +kernel
theorem dX2_init_15 : decode cX2_init 15 = .ok (.newarray .int, 2) := by decide +kernel
theorem dX2_init_17 : decode cX2_init 17 = .ok (.putfield 15, 3) := by decide +kernel
theorem dX2_init_20 : decode cX2_init 20 = .ok (.aload_n 0, 1) := by decide +kernel
theorem dX2_init_21 : decode cX2_init 21 = .ok (.iload_n 1, 1) := by decide +kernel
theorem dX2_init_22 : decode cX2_init 22 = .ok (.putfield 18, 3) := by decide +kernel
theorem dX2_init_25 : decode cX2_init 25 = .ok (.aload_n 0, 1) := by decide +kernel
theorem dX2_init_26 : decode cX2_init 26 = .ok (.getfield 15, 3) := by decide +kernel
theorem dX2_init_29 : decode cX2_init 29 = .ok (.iload_n 1, 1) := by decide +kernel
theorem dX2_init_30 : decode cX2_init 30 = .ok (.invokestatic 22, 3) := by decide +kernel
theorem dX2_init_33 : decode cX2_init 33 = .ok (.return_, 1) := by decide +kernel
theorem dX2_write_0 : decode cX2_write 0 = .ok (.iload_n 2, 1) := by decide +kernel
theorem dX2_write_1 : decode cX2_write 1 = .ok (.aload_n 0, 1) := by decide +kernel
theorem dX2_write_2 : decode cX2_write 2 = .ok (.getfield 9, 3) := by decide +kernel
theorem dX2_write_5 : decode cX2_write 5 = .ok (.iload_n 1, 1) := by decide +kernel
theorem dX2_write_6 : decode cX2_write 6 = .ok (.iaload, 1) := by decide +kernel
theorem dX2_write_7 : decode cX2_write 7 = .ok (.isub, 1) := by decide +kernel
theorem dX2_write_8 : decode cX2_write 8 = .ok (.istore_n 3, 1) := by decide +kernel
theorem dX2_write_9 : decode cX2_write 9 = .ok (.aload_n 0, 1) := by decide +kernel
theorem dX2_write_10 : decode cX2_write 10 = .ok (.getfield 9, 3) := by decide +kernel
theorem dX2_write_13 : decode cX2_write 13 = .ok (.iload_n 1, 1) := by decide +kernel
theorem dX2_write_14 : decode cX2_write 14 = .ok (.iload_n 2, 1) := by decide +kernel
theorem dX2_write_15 : decode cX2_write 15 = .ok (.iastore, 1) := by decide +kernel
theorem dX2_write_16 : decode cX2_write 16 = .ok (.iload_n 1, 1) := by decide +kernel
theorem dX2_write_17 : decode cX2_write 17 = .ok (.istore 4, 2) := by decide +kernel
theorem dX2_write_19 : decode cX2_write 19 = .ok (.iload 4, 2) := by decide +kernel
theorem dX2_write_21 : decode cX2_write 21 = .ok (.bipush 64, 2) := by decide +kernel
theorem dX2_write_23 : decode cX2_write 23 = .ok (.if_icmp .ge 20, 3) := by decide +kernel
theorem dX2_write_26 : decode cX2_write 26 = .ok (.aload_n 0, 1) := by decide +kernel
theorem dX2_write_27 : decode cX2_write 27 = .ok (.getfield 15, 3) := by decide +kernel
theorem dX2_write_30 : decode cX2_write 30 = .ok (.iload 4, 2) := by decide +kernel
theorem dX2_write_32 : decode cX2_write 32 = .ok (.dup2, 1) := by decide +kernel
theorem dX2_write_33 : decode cX2_write 33 = .ok (.iaload, 1) := by decide +kernel
theorem dX2_write_34 : decode cX2_write 34 = .ok (.iload_n 3, 1) := by decide +kernel
theorem dX2_write_35 : decode cX2_write 35 = .ok (.iadd, 1) := by decide +kernel
theorem dX2_write_36 : decode cX2_write 36 = .ok (.iastore, 1) := by decide +kernel
theorem dX2_write_37 : decode cX2_write 37 = .ok (.iinc 4 1, 3) := by decide +kernel
theorem dX2_write_40 : decode cX2_write 40 = .ok (.goto (-21), 3) := by decide +kernel
theorem dX2_write_43 : decode cX2_write 43 = .ok (.return_, 1) := by decide +kernel
theorem dX2_placeAheadOf_0 : decode cX2_placeAheadOf 0 = .ok (.iload_n 1, 1) := by decide +kernel
theorem dX2_placeAheadOf_1 : decode cX2_placeAheadOf 1 = .ok (.ifCond .le 14, 3) := by decide +kernel
theorem dX2_placeAheadOf_4 : decode cX2_placeAheadOf 4 = .ok (.aload_n 0, 1) := by decide +kernel
theorem dX2_placeAheadOf_5 : decode cX2_placeAheadOf 5 = .ok (.getfield 15, 3) := by decide +kernel
theorem dX2_placeAheadOf_8 : decode cX2_placeAheadOf 8 = .ok (.iload_n 1, 1) := by decide +kernel
theorem dX2_placeAheadOf_9 : decode cX2_placeAheadOf 9 = .ok (.iconst 1, 1) := by decide +kernel
theorem dX2_placeAheadOf_10 : decode cX2_placeAheadOf 10 = .ok (.isub, 1) := by decide +kernel
theorem dX2_placeAheadOf_11 : decode cX2_placeAheadOf 11 = .ok (.iaload, 1) := by decide +kernel
theorem dX2_placeAheadOf_12 : decode cX2_placeAheadOf 12 = .ok (.goto 7, 3) := by decide +kernel
theorem dX2_placeAheadOf_15 : decode cX2_placeAheadOf 15 = .ok (.aload_n 0, 1) := by decide +kernel
theorem dX2_placeAheadOf_16 : decode cX2_placeAheadOf 16 = .ok (.getfield 18, 3) := by decide +kernel
theorem dX2_placeAheadOf_19 : decode cX2_placeAheadOf 19 = .ok (.ireturn, 1) := by decide +kernel
theorem dX2_followedTo_0 : decode cX2_followedTo 0 = .ok (.aload_n 0, 1) := by decide +kernel
theorem dX2_followedTo_1 : decode cX2_followedTo 1 = .ok (.getfield 18, 3) := by decide +kernel
theorem dX2_followedTo_4 : decode cX2_followedTo 4 = .ok (.istore_n 2, 1) := by decide +kernel
theorem dX2_followedTo_5 : decode cX2_followedTo 5 = .ok (.iconst 0, 1) := by decide +kernel
theorem dX2_followedTo_6 : decode cX2_followedTo 6 = .ok (.istore_n 3, 1) := by decide +kernel
theorem dX2_followedTo_7 : decode cX2_followedTo 7 = .ok (.iload_n 3, 1) := by decide +kernel
theorem dX2_followedTo_8 : decode cX2_followedTo 8 = .ok (.iload_n 1, 1) := by decide +kernel
theorem dX2_followedTo_9 : decode cX2_followedTo 9 = .ok (.if_icmp .gt 18, 3) := by decide +kernel
theorem dX2_followedTo_12 : decode cX2_followedTo 12 = .ok (.iload_n 2, 1) := by decide +kernel
theorem dX2_followedTo_13 : decode cX2_followedTo 13 = .ok (.aload_n 0, 1) := by decide +kernel
theorem dX2_followedTo_14 : decode cX2_followedTo 14 = .ok (.getfield 9, 3) := by decide +kernel
theorem dX2_followedTo_17 : decode cX2_followedTo 17 = .ok (.iload_n 3, 1) := by decide +kernel
theorem dX2_followedTo_18 : decode cX2_followedTo 18 = .ok (.iaload, 1) := by decide +kernel
theorem dX2_followedTo_19 : decode cX2_followedTo 19 = .ok (.iadd, 1) := by decide +kernel
theorem dX2_followedTo_20 : decode cX2_followedTo 20 = .ok (.istore_n 2, 1) := by decide +kernel
theorem dX2_followedTo_21 : decode cX2_followedTo 21 = .ok (.iinc 3 1, 3) := by decide +kernel
theorem dX2_followedTo_24 : decode cX2_followedTo 24 = .ok (.goto (-17), 3) := by decide +kernel
theorem dX2_followedTo_27 : decode cX2_followedTo 27 = .ok (.iload_n 2, 1) := by decide +kernel
theorem dX2_followedTo_28 : decode cX2_followedTo 28 = .ok (.ireturn, 1) := by decide +kernel
theorem dX2_wayIn_0 : decode cX2_wayIn 0 = .ok (.iconst 0, 1) := by decide +kernel
theorem dX2_wayIn_1 : decode cX2_wayIn 1 = .ok (.istore_n 3, 1) := by decide +kernel
theorem dX2_wayIn_2 : decode cX2_wayIn 2 = .ok (.iload_n 1, 1) := by decide +kernel
theorem dX2_wayIn_3 : decode cX2_wayIn 3 = .ok (.istore 4, 2) := by decide +kernel
theorem dX2_wayIn_5 : decode cX2_wayIn 5 = .ok (.iload 4, 2) := by decide +kernel
theorem dX2_wayIn_7 : decode cX2_wayIn 7 = .ok (.iload_n 2, 1) := by decide +kernel
theorem dX2_wayIn_8 : decode cX2_wayIn 8 = .ok (.if_icmp .gt 22, 3) := by decide +kernel
theorem dX2_wayIn_11 : decode cX2_wayIn 11 = .ok (.iload_n 3, 1) := by decide +kernel
theorem dX2_wayIn_12 : decode cX2_wayIn 12 = .ok (.aload_n 0, 1) := by decide +kernel
theorem dX2_wayIn_13 : decode cX2_wayIn 13 = .ok (.getfield 9, 3) := by decide +kernel
theorem dX2_wayIn_16 : decode cX2_wayIn 16 = .ok (.iload 4, 2) := by decide +kernel
theorem dX2_wayIn_18 : decode cX2_wayIn 18 = .ok (.iaload, 1) := by decide +kernel
theorem dX2_wayIn_19 : decode cX2_wayIn 19 = .ok (.invokestatic 28, 3) := by decide +kernel
theorem dX2_wayIn_22 : decode cX2_wayIn 22 = .ok (.iadd, 1) := by decide +kernel
theorem dX2_wayIn_23 : decode cX2_wayIn 23 = .ok (.istore_n 3, 1) := by decide +kernel
theorem dX2_wayIn_24 : decode cX2_wayIn 24 = .ok (.iinc 4 1, 3) := by decide +kernel
theorem dX2_wayIn_27 : decode cX2_wayIn 27 = .ok (.goto (-22), 3) := by decide +kernel
theorem dX2_wayIn_30 : decode cX2_wayIn 30 = .ok (.iload_n 3, 1) := by decide +kernel
theorem dX2_wayIn_31 : decode cX2_wayIn 31 = .ok (.ireturn, 1) := by decide +kernel
theorem dX2_wayTo_0 : decode cX2_wayTo 0 = .ok (.aload_n 1, 1) := by decide +kernel
theorem dX2_wayTo_1 : decode cX2_wayTo 1 = .ok (.getfield 15, 3) := by decide +kernel
theorem dX2_wayTo_4 : decode cX2_wayTo 4 = .ok (.iload_n 2, 1) := by decide +kernel
theorem dX2_wayTo_5 : decode cX2_wayTo 5 = .ok (.iaload, 1) := by decide +kernel
theorem dX2_wayTo_6 : decode cX2_wayTo 6 = .ok (.aload_n 0, 1) := by decide +kernel
theorem dX2_wayTo_7 : decode cX2_wayTo 7 = .ok (.getfield 15, 3) := by decide +kernel
theorem dX2_wayTo_10 : decode cX2_wayTo 10 = .ok (.iload_n 2, 1) := by decide +kernel
theorem dX2_wayTo_11 : decode cX2_wayTo 11 = .ok (.iaload, 1) := by decide +kernel
theorem dX2_wayTo_12 : decode cX2_wayTo 12 = .ok (.isub, 1) := by decide +kernel
theorem dX2_wayTo_13 : decode cX2_wayTo 13 = .ok (.ireturn, 1) := by decide +kernel
theorem dX2_canVisit_0 : decode cX2_canVisit 0 = .ok (.iload_n 2, 1) := by decide +kernel
theorem dX2_canVisit_1 : decode cX2_canVisit 1 = .ok (.bipush 63, 2) := by decide +kernel
theorem dX2_canVisit_3 : decode cX2_canVisit 3 = .ok (.if_icmp .lt 5, 3) := by decide +kernel
theorem dX2_canVisit_6 : decode cX2_canVisit 6 = .ok (.iconst 0, 1) := by decide +kernel
theorem dX2_canVisit_7 : decode cX2_canVisit 7 = .ok (.ireturn, 1) := by decide +kernel
theorem dX2_canVisit_8 : decode cX2_canVisit 8 = .ok (.aload_n 0, 1) := by decide +kernel
theorem dX2_canVisit_9 : decode cX2_canVisit 9 = .ok (.aload_n 1, 1) := by decide +kernel
theorem dX2_canVisit_10 : decode cX2_canVisit 10 = .ok (.iload_n 2, 1) := by decide +kernel
theorem dX2_canVisit_11 : decode cX2_canVisit 11 = .ok (.invokevirtual 34, 3) := by decide +kernel
theorem dX2_canVisit_14 : decode cX2_canVisit 14 = .ok (.istore_n 3, 1) := by decide +kernel
theorem dX2_canVisit_15 : decode cX2_canVisit 15 = .ok (.iload_n 3, 1) := by decide +kernel
theorem dX2_canVisit_16 : decode cX2_canVisit 16 = .ok (.invokestatic 38, 3) := by decide +kernel
theorem dX2_canVisit_19 : decode cX2_canVisit 19 = .ok (.ifCond .eq 37, 3) := by decide +kernel
theorem dX2_canVisit_22 : decode cX2_canVisit 22 = .ok (.aload_n 0, 1) := by decide +kernel
theorem dX2_canVisit_23 : decode cX2_canVisit 23 = .ok (.getfield 9, 3) := by decide +kernel
theorem dX2_canVisit_26 : decode cX2_canVisit 26 = .ok (.iload_n 2, 1) := by decide +kernel
theorem dX2_canVisit_27 : decode cX2_canVisit 27 = .ok (.iaload, 1) := by decide +kernel
theorem dX2_canVisit_28 : decode cX2_canVisit 28 = .ok (.iload_n 3, 1) := by decide +kernel
theorem dX2_canVisit_29 : decode cX2_canVisit 29 = .ok (.iadd, 1) := by decide +kernel
theorem dX2_canVisit_30 : decode cX2_canVisit 30 = .ok (.invokestatic 38, 3) := by decide +kernel
theorem dX2_canVisit_33 : decode cX2_canVisit 33 = .ok (.ifCond .eq 23, 3) := by decide +kernel
theorem dX2_canVisit_36 : decode cX2_canVisit 36 = .ok (.aload_n 0, 1) := by decide +kernel
theorem dX2_canVisit_37 : decode cX2_canVisit 37 = .ok (.getfield 9, 3) := by decide +kernel
theorem dX2_canVisit_40 : decode cX2_canVisit 40 = .ok (.iload_n 2, 1) := by decide +kernel
theorem dX2_canVisit_41 : decode cX2_canVisit 41 = .ok (.iconst 1, 1) := by decide +kernel
theorem dX2_canVisit_42 : decode cX2_canVisit 42 = .ok (.iadd, 1) := by decide +kernel
theorem dX2_canVisit_43 : decode cX2_canVisit 43 = .ok (.iaload, 1) := by decide +kernel
theorem dX2_canVisit_44 : decode cX2_canVisit 44 = .ok (.iload_n 3, 1) := by decide +kernel
theorem dX2_canVisit_45 : decode cX2_canVisit 45 = .ok (.isub, 1) := by decide +kernel
theorem dX2_canVisit_46 : decode cX2_canVisit 46 = .ok (.invokestatic 38, 3) := by decide +kernel
theorem dX2_canVisit_49 : decode cX2_canVisit 49 = .ok (.ifCond .eq 7, 3) := by decide +kernel
theorem dX2_canVisit_52 : decode cX2_canVisit 52 = .ok (.iconst 1, 1) := by decide +kernel
theorem dX2_canVisit_53 : decode cX2_canVisit 53 = .ok (.goto 4, 3) := by decide +kernel
theorem dX2_canVisit_56 : decode cX2_canVisit 56 = .ok (.iconst 0, 1) := by decide +kernel
theorem dX2_canVisit_57 : decode cX2_canVisit 57 = .ok (.ireturn, 1) := by decide +kernel
theorem dX2_visit_0 : decode cX2_visit 0 = .ok (.aload_n 0, 1) := by decide +kernel
theorem dX2_visit_1 : decode cX2_visit 1 = .ok (.aload_n 1, 1) := by decide +kernel
theorem dX2_visit_2 : decode cX2_visit 2 = .ok (.iload_n 2, 1) := by decide +kernel
theorem dX2_visit_3 : decode cX2_visit 3 = .ok (.invokevirtual 34, 3) := by decide +kernel
theorem dX2_visit_6 : decode cX2_visit 6 = .ok (.istore_n 3, 1) := by decide +kernel
theorem dX2_visit_7 : decode cX2_visit 7 = .ok (.aload_n 0, 1) := by decide +kernel
theorem dX2_visit_8 : decode cX2_visit 8 = .ok (.iload_n 2, 1) := by decide +kernel
theorem dX2_visit_9 : decode cX2_visit 9 = .ok (.aload_n 0, 1) := by decide +kernel
theorem dX2_visit_10 : decode cX2_visit 10 = .ok (.getfield 9, 3) := by decide +kernel
theorem dX2_visit_13 : decode cX2_visit 13 = .ok (.iload_n 2, 1) := by decide +kernel
theorem dX2_visit_14 : decode cX2_visit 14 = .ok (.iaload, 1) := by decide +kernel
theorem dX2_visit_15 : decode cX2_visit 15 = .ok (.iload_n 3, 1) := by decide +kernel
theorem dX2_visit_16 : decode cX2_visit 16 = .ok (.iadd, 1) := by decide +kernel
theorem dX2_visit_17 : decode cX2_visit 17 = .ok (.invokevirtual 42, 3) := by decide +kernel
theorem dX2_visit_20 : decode cX2_visit 20 = .ok (.aload_n 0, 1) := by decide +kernel
theorem dX2_visit_21 : decode cX2_visit 21 = .ok (.iload_n 2, 1) := by decide +kernel
theorem dX2_visit_22 : decode cX2_visit 22 = .ok (.iconst 1, 1) := by decide +kernel
theorem dX2_visit_23 : decode cX2_visit 23 = .ok (.iadd, 1) := by decide +kernel
theorem dX2_visit_24 : decode cX2_visit 24 = .ok (.aload_n 0, 1) := by decide +kernel
theorem dX2_visit_25 : decode cX2_visit 25 = .ok (.getfield 9, 3) := by decide +kernel
theorem dX2_visit_28 : decode cX2_visit 28 = .ok (.iload_n 2, 1) := by decide +kernel
theorem dX2_visit_29 : decode cX2_visit 29 = .ok (.iconst 1, 1) := by decide +kernel
theorem dX2_visit_30 : decode cX2_visit 30 = .ok (.iadd, 1) := by decide +kernel
theorem dX2_visit_31 : decode cX2_visit 31 = .ok (.iaload, 1) := by decide +kernel
theorem dX2_visit_32 : decode cX2_visit 32 = .ok (.iload_n 3, 1) := by decide +kernel
theorem dX2_visit_33 : decode cX2_visit 33 = .ok (.isub, 1) := by decide +kernel
theorem dX2_visit_34 : decode cX2_visit 34 = .ok (.invokevirtual 42, 3) := by decide +kernel
theorem dX2_visit_37 : decode cX2_visit 37 = .ok (.return_, 1) := by decide +kernel
theorem dX3_init_0 : decode cX3_init 0 = .ok (.aload_n 0, 1) := by decide +kernel
theorem dX3_init_1 : decode cX3_init 1 = .ok (.invokespecial 1, 3) := by decide +kernel
theorem dX3_init_4 : decode cX3_init 4 = .ok (.aload_n 0, 1) := by decide +kernel
theorem dX3_init_5 : decode cX3_init 5 = .ok (.new 7, 3) := by decide +kernel
theorem dX3_init_8 : decode cX3_init 8 = .ok (.dup, 1) := by decide +kernel
theorem dX3_init_9 : decode cX3_init 9 = .ok (.invokespecial 9, 3) := by decide +kernel
theorem dX3_init_12 : decode cX3_init 12 = .ok (.putfield 10, 3) := by decide +kernel
theorem dX3_init_15 : decode cX3_init 15 = .ok (.aload_n 0, 1) := by decide +kernel
theorem dX3_init_16 : decode cX3_init 16 = .ok (.new 7, 3) := by decide +kernel
theorem dX3_init_19 : decode cX3_init 19 = .ok (.dup, 1) := by decide +kernel
theorem dX3_init_20 : decode cX3_init 20 = .ok (.invokespecial 9, 3) := by decide +kernel
theorem dX3_init_23 : decode cX3_init 23 = .ok (.putfield 16, 3) := by decide +kernel
theorem dX3_init_26 : decode cX3_init 26 = .ok (.aload_n 0, 1) := by decide +kernel
theorem dX3_init_27 : decode cX3_init 27 = .ok (.bipush 64, 2) := by decide +kernel
theorem dX3_init_29 : decode cX3_init 29 = .ok (.newarray .int, 2) := by decide +kernel
theorem dX3_init_31 : decode cX3_init 31 = .ok (.putfield 19, 3) := by decide +kernel
theorem dX3_init_34 : decode cX3_init 34 = .ok (.aload_n 0, 1) := by decide +kernel
theorem dX3_init_35 : decode cX3_init 35 = .ok (.iconst 3, 1) := by decide +kernel
theorem dX3_init_36 : decode cX3_init 36 = .ok (.bipush 13, 2) := by decide +kernel
theorem dX3_init_38 : decode cX3_init 38 = .ok (.multianewarray 23 2, 4) := by decide +kernel
theorem dX3_init_42 : decode cX3_init 42 = .ok (.putfield 25, 3) := by decide +kernel
theorem dX3_init_45 : decode cX3_init 45 = .ok (.aload_n 0, 1) := by decide +kernel
theorem dX3_init_46 : decode cX3_init 46 = .ok (.iconst 0, 1) := by decide +kernel
theorem dX3_init_47 : decode cX3_init 47 = .ok (.putfield 28, 3) := by decide +kernel
theorem dX3_init_50 : decode cX3_init 50 = .ok (.aload_n 0, 1) := by decide +kernel
theorem dX3_init_51 : decode cX3_init 51 = .ok (.getfield 19, 3) := by decide +kernel
theorem dX3_init_54 : decode cX3_init 54 = .ok (.iconst 0, 1) := by decide +kernel
theorem dX3_init_55 : decode cX3_init 55 = .ok (.sipush 500, 3) := by decide +kernel
theorem dX3_init_58 : decode cX3_init 58 = .ok (.iastore, 1) := by decide +kernel
theorem dX3_init_59 : decode cX3_init 59 = .ok (.aload_n 0, 1) := by decide +kernel
theorem dX3_init_60 : decode cX3_init 60 = .ok (.invokevirtual 32, 3) := by decide +kernel
theorem dX3_init_63 : decode cX3_init 63 = .ok (.return_, 1) := by decide +kernel
theorem dX3_dancer_0 : decode cX3_dancer 0 = .ok (.iload_n 1, 1) := by decide +kernel
theorem dX3_dancer_1 : decode cX3_dancer 1 = .ok (.invokestatic 35, 3) := by decide +kernel
theorem dX3_dancer_4 : decode cX3_dancer 4 = .ok (.ifCond .eq 10, 3) := by decide +kernel
theorem dX3_dancer_7 : decode cX3_dancer 7 = .ok (.iload_n 2, 1) := by decide +kernel
theorem dX3_dancer_8 : decode cX3_dancer 8 = .ok (.invokestatic 35, 3) := by decide +kernel
theorem dX3_dancer_11 : decode cX3_dancer 11 = .ok (.ifCond .ne 13, 3) := by decide +kernel
theorem dX3_dancer_14 : decode cX3_dancer 14 = .ok (.new 39, 3) := by decide +kernel
theorem dX3_dancer_17 : decode cX3_dancer 17 = .ok (.dup, 1) := by decide +kernel
theorem dX3_dancer_18 : decode cX3_dancer 18 = .ok (.ldc 41, 2) := by decide +kernel
theorem dX3_dancer_20 : decode cX3_dancer 20 = .ok (.invokespecial 43, 3) := by decide +kernel
theorem dX3_dancer_23 : decode cX3_dancer 23 = .ok (.athrow, 1) := by decide +kernel
theorem dX3_dancer_24 : decode cX3_dancer 24 = .ok (.aload_n 0, 1) := by decide +kernel
theorem dX3_dancer_25 : decode cX3_dancer 25 = .ok (.getfield 10, 3) := by decide +kernel
theorem dX3_dancer_28 : decode cX3_dancer 28 = .ok (.invokevirtual 46, 3) := by decide +kernel
theorem dX3_dancer_31 : decode cX3_dancer 31 = .ok (.bipush 8, 2) := by decide +kernel
theorem dX3_dancer_33 : decode cX3_dancer 33 = .ok (.if_icmp .lt 13, 3) := by decide +kernel
theorem dX3_dancer_36 : decode cX3_dancer 36 = .ok (.new 50, 3) := by decide +kernel
theorem dX3_dancer_39 : decode cX3_dancer 39 = .ok (.dup, 1) := by decide +kernel
theorem dX3_dancer_40 : decode cX3_dancer 40 = .ok (.ldc 52, 2) := by decide +kernel
theorem dX3_dancer_42 : decode cX3_dancer 42 = .ok (.invokespecial 54, 3) := by decide +kernel
theorem dX3_dancer_45 : decode cX3_dancer 45 = .ok (.athrow, 1) := by decide +kernel
theorem dX3_dancer_46 : decode cX3_dancer 46 = .ok (.aload_n 0, 1) := by decide +kernel
theorem dX3_dancer_47 : decode cX3_dancer 47 = .ok (.iload_n 1, 1) := by decide +kernel
theorem dX3_dancer_48 : decode cX3_dancer 48 = .ok (.iload_n 2, 1) := by decide +kernel
theorem dX3_dancer_49 : decode cX3_dancer 49 = .ok (.invokevirtual 55, 3) := by decide +kernel
theorem dX3_dancer_52 : decode cX3_dancer 52 = .ok (.ifCond .eq 13, 3) := by decide +kernel
theorem dX3_dancer_55 : decode cX3_dancer 55 = .ok (.new 50, 3) := by decide +kernel
theorem dX3_dancer_58 : decode cX3_dancer 58 = .ok (.dup, 1) := by decide +kernel
theorem dX3_dancer_59 : decode cX3_dancer 59 = .ok (.ldc 59, 2) := by decide +kernel
theorem dX3_dancer_61 : decode cX3_dancer 61 = .ok (.invokespecial 54, 3) := by decide +kernel
theorem dX3_dancer_64 : decode cX3_dancer 64 = .ok (.athrow, 1) := by decide +kernel
theorem dX3_dancer_65 : decode cX3_dancer 65 = .ok (.aload_n 0, 1) := by decide +kernel
theorem dX3_dancer_66 : decode cX3_dancer 66 = .ok (.getfield 10, 3) := by decide +kernel
theorem dX3_dancer_69 : decode cX3_dancer 69 = .ok (.new 61, 3) := by decide +kernel
theorem dX3_dancer_72 : decode cX3_dancer 72 = .ok (.dup, 1) := by decide +kernel
theorem dX3_dancer_73 : decode cX3_dancer 73 = .ok (.iload_n 1, 1) := by decide +kernel
theorem dX3_dancer_74 : decode cX3_dancer 74 = .ok (.iload_n 2, 1) := by decide +kernel
theorem dX3_dancer_75 : decode cX3_dancer 75 = .ok (.invokespecial 63, 3) := by decide +kernel
theorem dX3_dancer_78 : decode cX3_dancer 78 = .ok (.invokevirtual 66, 3) := by decide +kernel
theorem dX3_dancer_81 : decode cX3_dancer 81 = .ok (.pop, 1) := by decide +kernel
theorem dX3_dancer_82 : decode cX3_dancer 82 = .ok (.aload_n 0, 1) := by decide +kernel
theorem dX3_dancer_83 : decode cX3_dancer 83 = .ok (.getfield 10, 3) := by decide +kernel
theorem dX3_dancer_86 : decode cX3_dancer 86 = .ok (.invokevirtual 46, 3) := by decide +kernel
theorem dX3_dancer_89 : decode cX3_dancer 89 = .ok (.iconst 1, 1) := by decide +kernel
theorem dX3_dancer_90 : decode cX3_dancer 90 = .ok (.isub, 1) := by decide +kernel
theorem dX3_dancer_91 : decode cX3_dancer 91 = .ok (.ireturn, 1) := by decide +kernel
theorem dX3_move_0 : decode cX3_move 0 = .ok (.aload_n 0, 1) := by decide +kernel
theorem dX3_move_1 : decode cX3_move 1 = .ok (.iload_n 1, 1) := by decide +kernel
theorem dX3_move_2 : decode cX3_move 2 = .ok (.invokevirtual 70, 3) := by decide +kernel
theorem dX3_move_5 : decode cX3_move 5 = .ok (.iload_n 2, 1) := by decide +kernel
theorem dX3_move_6 : decode cX3_move 6 = .ok (.invokestatic 74, 3) := by decide +kernel
theorem dX3_move_9 : decode cX3_move 9 = .ok (.iload_n 3, 1) := by decide +kernel
theorem dX3_move_10 : decode cX3_move 10 = .ok (.invokestatic 77, 3) := by decide +kernel
theorem dX3_move_13 : decode cX3_move 13 = .ok (.ifCond .eq 11, 3) := by decide +kernel
theorem dX3_move_16 : decode cX3_move 16 = .ok (.iload 4, 2) := by decide +kernel
theorem dX3_move_18 : decode cX3_move 18 = .ok (.invokestatic 77, 3) := by decide +kernel
theorem dX3_move_21 : decode cX3_move 21 = .ok (.ifCond .ne 13, 3) := by decide +kernel
theorem dX3_move_24 : decode cX3_move 24 = .ok (.new 80, 3) := by decide +kernel
theorem dX3_move_27 : decode cX3_move 27 = .ok (.dup, 1) := by decide +kernel
theorem dX3_move_28 : decode cX3_move 28 = .ok (.ldc 82, 2) := by decide +kernel
theorem dX3_move_30 : decode cX3_move 30 = .ok (.invokespecial 84, 3) := by decide +kernel
theorem dX3_move_33 : decode cX3_move 33 = .ok (.athrow, 1) := by decide +kernel
theorem dX3_move_34 : decode cX3_move 34 = .ok (.aload_n 0, 1) := by decide +kernel
theorem dX3_move_35 : decode cX3_move 35 = .ok (.getfield 10, 3) := by decide +kernel
theorem dX3_move_38 : decode cX3_move 38 = .ok (.iload_n 1, 1) := by decide +kernel
theorem dX3_move_39 : decode cX3_move 39 = .ok (.invokevirtual 85, 3) := by decide +kernel
theorem dX3_move_42 : decode cX3_move 42 = .ok (.checkcast 61, 3) := by decide +kernel
theorem dX3_move_45 : decode cX3_move 45 = .ok (.astore 5, 2) := by decide +kernel
theorem dX3_move_47 : decode cX3_move 47 = .ok (.aload 5, 2) := by decide +kernel
theorem dX3_move_49 : decode cX3_move 49 = .ok (.getfield 89, 3) := by decide +kernel
theorem dX3_move_52 : decode cX3_move 52 = .ok (.ifCond .eq 13, 3) := by decide +kernel
theorem dX3_move_55 : decode cX3_move 55 = .ok (.new 50, 3) := by decide +kernel
theorem dX3_move_58 : decode cX3_move 58 = .ok (.dup, 1) := by decide +kernel
theorem dX3_move_59 : decode cX3_move 59 = .ok (.ldc 93, 2) := by decide +kernel
theorem dX3_move_61 : decode cX3_move 61 = .ok (.invokespecial 54, 3) := by decide +kernel
theorem dX3_move_64 : decode cX3_move 64 = .ok (.athrow, 1) := by decide +kernel
theorem dX3_move_65 : decode cX3_move 65 = .ok (.aload 5, 2) := by decide +kernel
theorem dX3_move_67 : decode cX3_move 67 = .ok (.getfield 95, 3) := by decide +kernel
theorem dX3_move_70 : decode cX3_move 70 = .ok (.iload_n 2, 1) := by decide +kernel
theorem dX3_move_71 : decode cX3_move 71 = .ok (.iload_n 3, 1) := by decide +kernel
theorem dX3_move_72 : decode cX3_move 72 = .ok (.invokevirtual 99, 3) := by decide +kernel
theorem dX3_move_75 : decode cX3_move 75 = .ok (.aload 5, 2) := by decide +kernel
theorem dX3_move_77 : decode cX3_move 77 = .ok (.getfield 104, 3) := by decide +kernel
theorem dX3_move_80 : decode cX3_move 80 = .ok (.iload_n 2, 1) := by decide +kernel
theorem dX3_move_81 : decode cX3_move 81 = .ok (.iload 4, 2) := by decide +kernel
theorem dX3_move_83 : decode cX3_move 83 = .ok (.invokevirtual 99, 3) := by decide +kernel
theorem dX3_move_86 : decode cX3_move 86 = .ok (.aload 5, 2) := by decide +kernel
theorem dX3_move_88 : decode cX3_move 88 = .ok (.invokevirtual 107, 3) := by decide +kernel
theorem dX3_move_91 : decode cX3_move 91 = .ok (.ireturn, 1) := by decide +kernel
theorem dX3_place_0 : decode cX3_place 0 = .ok (.aload_n 0, 1) := by decide +kernel
theorem dX3_place_1 : decode cX3_place 1 = .ok (.iload_n 1, 1) := by decide +kernel
theorem dX3_place_2 : decode cX3_place 2 = .ok (.invokevirtual 70, 3) := by decide +kernel
theorem dX3_place_5 : decode cX3_place 5 = .ok (.iload_n 2, 1) := by decide +kernel
theorem dX3_place_6 : decode cX3_place 6 = .ok (.invokestatic 74, 3) := by decide +kernel
theorem dX3_place_9 : decode cX3_place 9 = .ok (.aload_n 0, 1) := by decide +kernel
theorem dX3_place_10 : decode cX3_place 10 = .ok (.getfield 10, 3) := by decide +kernel
theorem dX3_place_13 : decode cX3_place 13 = .ok (.iload_n 1, 1) := by decide +kernel
theorem dX3_place_14 : decode cX3_place 14 = .ok (.invokevirtual 85, 3) := by decide +kernel
theorem dX3_place_17 : decode cX3_place 17 = .ok (.checkcast 61, 3) := by decide +kernel
theorem dX3_place_20 : decode cX3_place 20 = .ok (.iload_n 3, 1) := by decide +kernel
theorem dX3_place_21 : decode cX3_place 21 = .ok (.invokevirtual 110, 3) := by decide +kernel
theorem dX3_place_24 : decode cX3_place 24 = .ok (.getfield 114, 3) := by decide +kernel
theorem dX3_place_27 : decode cX3_place 27 = .ok (.iload_n 2, 1) := by decide +kernel
theorem dX3_place_28 : decode cX3_place 28 = .ok (.iaload, 1) := by decide +kernel
theorem dX3_place_29 : decode cX3_place 29 = .ok (.ireturn, 1) := by decide +kernel
theorem dX3_placeAnew_0 : decode cX3_placeAnew 0 = .ok (.aload_n 0, 1) := by decide +kernel
theorem dX3_placeAnew_1 : decode cX3_placeAnew 1 = .ok (.iload_n 1, 1) := by decide +kernel
theorem dX3_placeAnew_2 : decode cX3_placeAnew 2 = .ok (.invokevirtual 70, 3) := by decide +kernel
theorem dX3_placeAnew_5 : decode cX3_placeAnew 5 = .ok (.iload_n 2, 1) := by decide +kernel
theorem dX3_placeAnew_6 : decode cX3_placeAnew 6 = .ok (.invokestatic 74, 3) := by decide +kernel
theorem dX3_placeAnew_9 : decode cX3_placeAnew 9 = .ok (.aload_n 0, 1) := by decide +kernel
theorem dX3_placeAnew_10 : decode cX3_placeAnew 10 = .ok (.getfield 10, 3) := by decide +kernel
theorem dX3_placeAnew_13 : decode cX3_placeAnew 13 = .ok (.iload_n 1, 1) := by decide +kernel
theorem dX3_placeAnew_14 : decode cX3_placeAnew 14 = .ok (.invokevirtual 85, 3) := by decide +kernel
theorem dX3_placeAnew_17 : decode cX3_placeAnew 17 = .ok (.checkcast 61, 3) := by decide +kernel
theorem dX3_placeAnew_20 : decode cX3_placeAnew 20 = .ok (.iload_n 3, 1) := by decide +kernel
theorem dX3_placeAnew_21 : decode cX3_placeAnew 21 = .ok (.invokevirtual 110, 3) := by decide +kernel
theorem dX3_placeAnew_24 : decode cX3_placeAnew 24 = .ok (.iload_n 2, 1) := by decide +kernel
theorem dX3_placeAnew_25 : decode cX3_placeAnew 25 = .ok (.invokevirtual 117, 3) := by decide +kernel
theorem dX3_placeAnew_28 : decode cX3_placeAnew 28 = .ok (.ireturn, 1) := by decide +kernel
theorem dX3_clashes_0 : decode cX3_clashes 0 = .ok (.iload_n 1, 1) := by decide +kernel
theorem dX3_clashes_1 : decode cX3_clashes 1 = .ok (.invokestatic 74, 3) := by decide +kernel
theorem dX3_clashes_4 : decode cX3_clashes 4 = .ok (.aload_n 0, 1) := by decide +kernel
theorem dX3_clashes_5 : decode cX3_clashes 5 = .ok (.iload_n 1, 1) := by decide +kernel
theorem dX3_clashes_6 : decode cX3_clashes 6 = .ok (.invokevirtual 121, 3) := by decide +kernel
theorem dX3_clashes_9 : decode cX3_clashes 9 = .ok (.ireturn, 1) := by decide +kernel
theorem dX3_firstClash_0 : decode cX3_firstClash 0 = .ok (.iconst 0, 1) := by decide +kernel
theorem dX3_firstClash_1 : decode cX3_firstClash 1 = .ok (.istore_n 1, 1) := by decide +kernel
theorem dX3_firstClash_2 : decode cX3_firstClash 2 = .ok (.iload_n 1, 1) := by decide +kernel
theorem dX3_firstClash_3 : decode cX3_firstClash 3 = .ok (.bipush 64, 2) := by decide +kernel
theorem dX3_firstClash_5 : decode cX3_firstClash 5 = .ok (.if_icmp .ge 19, 3) := by decide +kernel
theorem dX3_firstClash_8 : decode cX3_firstClash 8 = .ok (.aload_n 0, 1) := by decide +kernel
theorem dX3_firstClash_9 : decode cX3_firstClash 9 = .ok (.iload_n 1, 1) := by decide +kernel
theorem dX3_firstClash_10 : decode cX3_firstClash 10 = .ok (.invokevirtual 121, 3) := by decide +kernel
theorem dX3_firstClash_13 : decode cX3_firstClash 13 = .ok (.ifCond .le 5, 3) := by decide +kernel
theorem dX3_firstClash_16 : decode cX3_firstClash 16 = .ok (.iload_n 1, 1) := by decide +kernel
theorem dX3_firstClash_17 : decode cX3_firstClash 17 = .ok (.ireturn, 1) := by decide +kernel
theorem dX3_firstClash_18 : decode cX3_firstClash 18 = .ok (.iinc 1 1, 3) := by decide +kernel
theorem dX3_firstClash_21 : decode cX3_firstClash 21 = .ok (.goto (-19), 3) := by decide +kernel
theorem dX3_firstClash_24 : decode cX3_firstClash 24 = .ok (.iconst (-1), 1) := by decide +kernel
theorem dX3_firstClash_25 : decode cX3_firstClash 25 = .ok (.ireturn, 1) := by decide +kernel
theorem dX3_lift_0 : decode cX3_lift 0 = .ok (.iload_n 1, 1) := by decide +kernel
theorem dX3_lift_1 : decode cX3_lift 1 = .ok (.invokestatic 74, 3) := by decide +kernel
theorem dX3_lift_4 : decode cX3_lift 4 = .ok (.aload_n 0, 1) := by decide +kernel
theorem dX3_lift_5 : decode cX3_lift 5 = .ok (.iload_n 2, 1) := by decide +kernel
theorem dX3_lift_6 : decode cX3_lift 6 = .ok (.invokevirtual 70, 3) := by decide +kernel
theorem dX3_lift_9 : decode cX3_lift 9 = .ok (.aload_n 0, 1) := by decide +kernel
theorem dX3_lift_10 : decode cX3_lift 10 = .ok (.iload_n 3, 1) := by decide +kernel
theorem dX3_lift_11 : decode cX3_lift 11 = .ok (.invokevirtual 70, 3) := by decide +kernel
theorem dX3_lift_14 : decode cX3_lift 14 = .ok (.aload_n 0, 1) := by decide +kernel
theorem dX3_lift_15 : decode cX3_lift 15 = .ok (.iload 4, 2) := by decide +kernel
theorem dX3_lift_17 : decode cX3_lift 17 = .ok (.invokevirtual 70, 3) := by decide +kernel
theorem dX3_lift_20 : decode cX3_lift 20 = .ok (.iload_n 2, 1) := by decide +kernel
theorem dX3_lift_21 : decode cX3_lift 21 = .ok (.iload_n 3, 1) := by decide +kernel
theorem dX3_lift_22 : decode cX3_lift 22 = .ok (.if_icmp .eq 15, 3) := by decide +kernel
theorem dX3_lift_25 : decode cX3_lift 25 = .ok (.iload_n 2, 1) := by decide +kernel
theorem dX3_lift_26 : decode cX3_lift 26 = .ok (.iload 4, 2) := by decide +kernel
theorem dX3_lift_28 : decode cX3_lift 28 = .ok (.if_icmp .eq 9, 3) := by decide +kernel
theorem dX3_lift_31 : decode cX3_lift 31 = .ok (.iload_n 3, 1) := by decide +kernel
theorem dX3_lift_32 : decode cX3_lift 32 = .ok (.iload 4, 2) := by decide +kernel
theorem dX3_lift_34 : decode cX3_lift 34 = .ok (.if_icmp .ne 13, 3) := by decide +kernel
theorem dX3_lift_37 : decode cX3_lift 37 = .ok (.new 80, 3) := by decide +kernel
theorem dX3_lift_40 : decode cX3_lift 40 = .ok (.dup, 1) := by decide +kernel
theorem dX3_lift_41 : decode cX3_lift 41 = .ok (.ldc 124, 2) := by decide +kernel
theorem dX3_lift_43 : decode cX3_lift 43 = .ok (.invokespecial 84, 3) := by decide +kernel
theorem dX3_lift_46 : decode cX3_lift 46 = .ok (.athrow, 1) := by decide +kernel
theorem dX3_lift_47 : decode cX3_lift 47 = .ok (.aload_n 0, 1) := by decide +kernel
theorem dX3_lift_48 : decode cX3_lift 48 = .ok (.iload_n 2, 1) := by decide +kernel
theorem dX3_lift_49 : decode cX3_lift 49 = .ok (.invokevirtual 126, 3) := by decide +kernel
theorem dX3_lift_52 : decode cX3_lift 52 = .ok (.ifCond .ne 20, 3) := by decide +kernel
theorem dX3_lift_55 : decode cX3_lift 55 = .ok (.aload_n 0, 1) := by decide +kernel
theorem dX3_lift_56 : decode cX3_lift 56 = .ok (.iload_n 3, 1) := by decide +kernel
theorem dX3_lift_57 : decode cX3_lift 57 = .ok (.invokevirtual 126, 3) := by decide +kernel
theorem dX3_lift_60 : decode cX3_lift 60 = .ok (.ifCond .ne 12, 3) := by decide +kernel
theorem dX3_lift_63 : decode cX3_lift 63 = .ok (.aload_n 0, 1) := by decide +kernel
theorem dX3_lift_64 : decode cX3_lift 64 = .ok (.iload 4, 2) := by decide +kernel
theorem dX3_lift_66 : decode cX3_lift 66 = .ok (.invokevirtual 126, 3) := by decide +kernel
theorem dX3_lift_69 : decode cX3_lift 69 = .ok (.ifCond .eq 13, 3) := by decide +kernel
theorem dX3_lift_72 : decode cX3_lift 72 = .ok (.new 50, 3) := by decide +kernel
theorem dX3_lift_75 : decode cX3_lift 75 = .ok (.dup, 1) := by decide +kernel
theorem dX3_lift_76 : decode cX3_lift 76 = .ok (.ldc 93, 2) := by decide +kernel
theorem dX3_lift_78 : decode cX3_lift 78 = .ok (.invokespecial 54, 3) := by decide +kernel
theorem dX3_lift_81 : decode cX3_lift 81 = .ok (.athrow, 1) := by decide +kernel
theorem dX3_lift_82 : decode cX3_lift 82 = .ok (.aload_n 0, 1) := by decide +kernel
theorem dX3_lift_83 : decode cX3_lift 83 = .ok (.getfield 16, 3) := by decide +kernel
theorem dX3_lift_86 : decode cX3_lift 86 = .ok (.invokevirtual 46, 3) := by decide +kernel
theorem dX3_lift_89 : decode cX3_lift 89 = .ok (.bipush 12, 2) := by decide +kernel
theorem dX3_lift_91 : decode cX3_lift 91 = .ok (.if_icmp .lt 13, 3) := by decide +kernel
theorem dX3_lift_94 : decode cX3_lift 94 = .ok (.new 50, 3) := by decide +kernel
theorem dX3_lift_97 : decode cX3_lift 97 = .ok (.dup, 1) := by decide +kernel
theorem dX3_lift_98 : decode cX3_lift 98 = .ok (.ldc 129, 2) := by decide +kernel
theorem dX3_lift_100 : decode cX3_lift 100 = .ok (.invokespecial 54, 3) := by decide +kernel
theorem dX3_lift_103 : decode cX3_lift 103 = .ok (.athrow, 1) := by decide +kernel
theorem dX3_lift_104 : decode cX3_lift 104 = .ok (.aload_n 0, 1) := by decide +kernel
theorem dX3_lift_105 : decode cX3_lift 105 = .ok (.getfield 16, 3) := by decide +kernel
theorem dX3_lift_108 : decode cX3_lift 108 = .ok (.new 131, 3) := by decide +kernel
theorem dX3_lift_111 : decode cX3_lift 111 = .ok (.dup, 1) := by decide +kernel
theorem dX3_lift_112 : decode cX3_lift 112 = .ok (.iload_n 1, 1) := by decide +kernel
theorem dX3_lift_113 : decode cX3_lift 113 = .ok (.iload_n 2, 1) := by decide +kernel
theorem dX3_lift_114 : decode cX3_lift 114 = .ok (.iload_n 3, 1) := by decide +kernel
theorem dX3_lift_115 : decode cX3_lift 115 = .ok (.iload 4, 2) := by decide +kernel
theorem dX3_lift_117 : decode cX3_lift 117 = .ok (.invokespecial 133, 3) := by decide +kernel
theorem dX3_lift_120 : decode cX3_lift 120 = .ok (.invokevirtual 66, 3) := by decide +kernel
theorem dX3_lift_123 : decode cX3_lift 123 = .ok (.pop, 1) := by decide +kernel
theorem dX3_lift_124 : decode cX3_lift 124 = .ok (.aload_n 0, 1) := by decide +kernel
theorem dX3_lift_125 : decode cX3_lift 125 = .ok (.getfield 16, 3) := by decide +kernel
theorem dX3_lift_128 : decode cX3_lift 128 = .ok (.invokevirtual 46, 3) := by decide +kernel
theorem dX3_lift_131 : decode cX3_lift 131 = .ok (.iconst 1, 1) := by decide +kernel
theorem dX3_lift_132 : decode cX3_lift 132 = .ok (.isub, 1) := by decide +kernel
theorem dX3_lift_133 : decode cX3_lift 133 = .ok (.ireturn, 1) := by decide +kernel
theorem dX3_ofLift_0 : decode cX3_ofLift 0 = .ok (.iload_n 1, 1) := by decide +kernel
theorem dX3_ofLift_1 : decode cX3_ofLift 1 = .ok (.ifCond .lt 14, 3) := by decide +kernel
theorem dX3_ofLift_4 : decode cX3_ofLift 4 = .ok (.iload_n 1, 1) := by decide +kernel
theorem dX3_ofLift_5 : decode cX3_ofLift 5 = .ok (.aload_n 0, 1) := by decide +kernel
theorem dX3_ofLift_6 : decode cX3_ofLift 6 = .ok (.getfield 16, 3) := by decide +kernel
theorem dX3_ofLift_9 : decode cX3_ofLift 9 = .ok (.invokevirtual 46, 3) := by decide +kernel
theorem dX3_ofLift_12 : decode cX3_ofLift 12 = .ok (.if_icmp .lt 13, 3) := by decide +kernel
theorem dX3_ofLift_15 : decode cX3_ofLift 15 = .ok (.new 39, 3) := by decide +kernel
theorem dX3_ofLift_18 : decode cX3_ofLift 18 = .ok (.dup, 1) := by decide +kernel
theorem dX3_ofLift_19 : decode cX3_ofLift 19 = .ok (.ldc 136, 2) := by decide +kernel
theorem dX3_ofLift_21 : decode cX3_ofLift 21 = .ok (.invokespecial 43, 3) := by decide +kernel
theorem dX3_ofLift_24 : decode cX3_ofLift 24 = .ok (.athrow, 1) := by decide +kernel
theorem dX3_ofLift_25 : decode cX3_ofLift 25 = .ok (.iload_n 2, 1) := by decide +kernel
theorem dX3_ofLift_26 : decode cX3_ofLift 26 = .ok (.ifCond .lt 8, 3) := by decide +kernel
theorem dX3_ofLift_29 : decode cX3_ofLift 29 = .ok (.iload_n 2, 1) := by decide +kernel
theorem dX3_ofLift_30 : decode cX3_ofLift 30 = .ok (.iconst 5, 1) := by decide +kernel
theorem dX3_ofLift_31 : decode cX3_ofLift 31 = .ok (.if_icmp .lt 13, 3) := by decide +kernel
theorem dX3_ofLift_34 : decode cX3_ofLift 34 = .ok (.new 80, 3) := by decide +kernel
theorem dX3_ofLift_37 : decode cX3_ofLift 37 = .ok (.dup, 1) := by decide +kernel
theorem dX3_ofLift_38 : decode cX3_ofLift 38 = .ok (.ldc 138, 2) := by decide +kernel
theorem dX3_ofLift_40 : decode cX3_ofLift 40 = .ok (.invokespecial 84, 3) := by decide +kernel
theorem dX3_ofLift_43 : decode cX3_ofLift 43 = .ok (.athrow, 1) := by decide +kernel
theorem dX3_ofLift_44 : decode cX3_ofLift 44 = .ok (.aload_n 0, 1) := by decide +kernel
theorem dX3_ofLift_45 : decode cX3_ofLift 45 = .ok (.getfield 16, 3) := by decide +kernel
theorem dX3_ofLift_48 : decode cX3_ofLift 48 = .ok (.iload_n 1, 1) := by decide +kernel
theorem dX3_ofLift_49 : decode cX3_ofLift 49 = .ok (.invokevirtual 85, 3) := by decide +kernel
theorem dX3_ofLift_52 : decode cX3_ofLift 52 = .ok (.checkcast 131, 3) := by decide +kernel
theorem dX3_ofLift_55 : decode cX3_ofLift 55 = .ok (.astore_n 3, 1) := by decide +kernel
theorem dX3_ofLift_56 : decode cX3_ofLift 56 = .ok (.iload_n 2, 1) := by decide +kernel
theorem dX3_ofLift_57 : decode cX3_ofLift 57 = .ok (.tableswitch 51 0 3 #[31, 36, 41, 46], 31) := by decide +kernel
theorem dX3_ofLift_88 : decode cX3_ofLift 88 = .ok (.aload_n 3, 1) := by decide +kernel
theorem dX3_ofLift_89 : decode cX3_ofLift 89 = .ok (.getfield 140, 3) := by decide +kernel
theorem dX3_ofLift_92 : decode cX3_ofLift 92 = .ok (.ireturn, 1) := by decide +kernel
theorem dX3_ofLift_93 : decode cX3_ofLift 93 = .ok (.aload_n 3, 1) := by decide +kernel
theorem dX3_ofLift_94 : decode cX3_ofLift 94 = .ok (.getfield 143, 3) := by decide +kernel
theorem dX3_ofLift_97 : decode cX3_ofLift 97 = .ok (.ireturn, 1) := by decide +kernel
theorem dX3_ofLift_98 : decode cX3_ofLift 98 = .ok (.aload_n 3, 1) := by decide +kernel
theorem dX3_ofLift_99 : decode cX3_ofLift 99 = .ok (.getfield 146, 3) := by decide +kernel
theorem dX3_ofLift_102 : decode cX3_ofLift 102 = .ok (.ireturn, 1) := by decide +kernel
theorem dX3_ofLift_103 : decode cX3_ofLift 103 = .ok (.aload_n 3, 1) := by decide +kernel
theorem dX3_ofLift_104 : decode cX3_ofLift 104 = .ok (.getfield 149, 3) := by decide +kernel
theorem dX3_ofLift_107 : decode cX3_ofLift 107 = .ok (.ireturn, 1) := by decide +kernel
theorem dX3_ofLift_108 : decode cX3_ofLift 108 = .ok (.aload_n 0, 1) := by decide +kernel
theorem dX3_ofLift_109 : decode cX3_ofLift 109 = .ok (.aload_n 3, 1) := by decide +kernel
theorem dX3_ofLift_110 : decode cX3_ofLift 110 = .ok (.invokevirtual 152, 3) := by decide +kernel
theorem dX3_ofLift_113 : decode cX3_ofLift 113 = .ok (.ireturn, 1) := by decide +kernel
theorem dX3_tempo_0 : decode cX3_tempo 0 = .ok (.iload_n 1, 1) := by decide +kernel
theorem dX3_tempo_1 : decode cX3_tempo 1 = .ok (.invokestatic 74, 3) := by decide +kernel
theorem dX3_tempo_4 : decode cX3_tempo 4 = .ok (.iload_n 2, 1) := by decide +kernel
theorem dX3_tempo_5 : decode cX3_tempo 5 = .ok (.iconst 1, 1) := by decide +kernel
theorem dX3_tempo_6 : decode cX3_tempo 6 = .ok (.if_icmp .lt 9, 3) := by decide +kernel
theorem dX3_tempo_9 : decode cX3_tempo 9 = .ok (.iload_n 2, 1) := by decide +kernel
theorem dX3_tempo_10 : decode cX3_tempo 10 = .ok (.ldc 156, 2) := by decide +kernel
theorem dX3_tempo_12 : decode cX3_tempo 12 = .ok (.if_icmp .le 13, 3) := by decide +kernel
theorem dX3_tempo_15 : decode cX3_tempo 15 = .ok (.new 80, 3) := by decide +kernel
theorem dX3_tempo_18 : decode cX3_tempo 18 = .ok (.dup, 1) := by decide +kernel
theorem dX3_tempo_19 : decode cX3_tempo 19 = .ok (.ldc 157, 2) := by decide +kernel
theorem dX3_tempo_21 : decode cX3_tempo 21 = .ok (.invokespecial 84, 3) := by decide +kernel
theorem dX3_tempo_24 : decode cX3_tempo 24 = .ok (.athrow, 1) := by decide +kernel
theorem dX3_tempo_25 : decode cX3_tempo 25 = .ok (.aload_n 0, 1) := by decide +kernel
theorem dX3_tempo_26 : decode cX3_tempo 26 = .ok (.iload_n 1, 1) := by decide +kernel
theorem dX3_tempo_27 : decode cX3_tempo 27 = .ok (.invokevirtual 159, 3) := by decide +kernel
theorem dX3_tempo_30 : decode cX3_tempo 30 = .ok (.istore_n 3, 1) := by decide +kernel
theorem dX3_tempo_31 : decode cX3_tempo 31 = .ok (.aload_n 0, 1) := by decide +kernel
theorem dX3_tempo_32 : decode cX3_tempo 32 = .ok (.getfield 19, 3) := by decide +kernel
theorem dX3_tempo_35 : decode cX3_tempo 35 = .ok (.iload_n 1, 1) := by decide +kernel
theorem dX3_tempo_36 : decode cX3_tempo 36 = .ok (.iload_n 2, 1) := by decide +kernel
theorem dX3_tempo_37 : decode cX3_tempo 37 = .ok (.iastore, 1) := by decide +kernel
theorem dX3_tempo_38 : decode cX3_tempo 38 = .ok (.iload_n 3, 1) := by decide +kernel
theorem dX3_tempo_39 : decode cX3_tempo 39 = .ok (.ireturn, 1) := by decide +kernel
theorem dX3_begins_0 : decode cX3_begins 0 = .ok (.iload_n 1, 1) := by decide +kernel
theorem dX3_begins_1 : decode cX3_begins 1 = .ok (.invokestatic 74, 3) := by decide +kernel
theorem dX3_begins_4 : decode cX3_begins 4 = .ok (.aload_n 0, 1) := by decide +kernel
theorem dX3_begins_5 : decode cX3_begins 5 = .ok (.iload_n 1, 1) := by decide +kernel
theorem dX3_begins_6 : decode cX3_begins 6 = .ok (.invokevirtual 162, 3) := by decide +kernel
theorem dX3_begins_9 : decode cX3_begins 9 = .ok (.lstore_n 2, 1) := by decide +kernel
theorem dX3_begins_10 : decode cX3_begins 10 = .ok (.lload_n 2, 1) := by decide +kernel
theorem dX3_begins_11 : decode cX3_begins 11 = .ok (.ldc2_w 166, 3) := by decide +kernel
theorem dX3_begins_14 : decode cX3_begins 14 = .ok (.lcmp, 1) := by decide +kernel
theorem dX3_begins_15 : decode cX3_begins 15 = .ok (.ifCond .le 13, 3) := by decide +kernel
theorem dX3_begins_18 : decode cX3_begins 18 = .ok (.new 168, 3) := by decide +kernel
theorem dX3_begins_21 : decode cX3_begins 21 = .ok (.dup, 1) := by decide +kernel
theorem dX3_begins_22 : decode cX3_begins 22 = .ok (.ldc 170, 2) := by decide +kernel
theorem dX3_begins_24 : decode cX3_begins 24 = .ok (.invokespecial 172, 3) := by decide +kernel
theorem dX3_begins_27 : decode cX3_begins 27 = .ok (.athrow, 1) := by decide +kernel
theorem dX3_begins_28 : decode cX3_begins 28 = .ok (.lload_n 2, 1) := by decide +kernel
theorem dX3_begins_29 : decode cX3_begins 29 = .ok (.l2i, 1) := by decide +kernel
theorem dX3_begins_30 : decode cX3_begins 30 = .ok (.ireturn, 1) := by decide +kernel
theorem dX3_rehearse_0 : decode cX3_rehearse 0 = .ok (.iload_n 1, 1) := by decide +kernel
theorem dX3_rehearse_1 : decode cX3_rehearse 1 = .ok (.invokestatic 173, 3) := by decide +kernel
theorem dX3_rehearse_4 : decode cX3_rehearse 4 = .ok (.iload_n 2, 1) := by decide +kernel
theorem dX3_rehearse_5 : decode cX3_rehearse 5 = .ok (.invokestatic 176, 3) := by decide +kernel
theorem dX3_rehearse_8 : decode cX3_rehearse 8 = .ok (.iload_n 3, 1) := by decide +kernel
theorem dX3_rehearse_9 : decode cX3_rehearse 9 = .ok (.invokestatic 74, 3) := by decide +kernel
theorem dX3_rehearse_12 : decode cX3_rehearse 12 = .ok (.iload 4, 2) := by decide +kernel
theorem dX3_rehearse_14 : decode cX3_rehearse 14 = .ok (.invokestatic 74, 3) := by decide +kernel
theorem dX3_rehearse_17 : decode cX3_rehearse 17 = .ok (.iload 4, 2) := by decide +kernel
theorem dX3_rehearse_19 : decode cX3_rehearse 19 = .ok (.iload_n 3, 1) := by decide +kernel
theorem dX3_rehearse_20 : decode cX3_rehearse 20 = .ok (.if_icmp .ge 13, 3) := by decide +kernel
theorem dX3_rehearse_23 : decode cX3_rehearse 23 = .ok (.new 80, 3) := by decide +kernel
theorem dX3_rehearse_26 : decode cX3_rehearse 26 = .ok (.dup, 1) := by decide +kernel
theorem dX3_rehearse_27 : decode cX3_rehearse 27 = .ok (.ldc 179, 2) := by decide +kernel
theorem dX3_rehearse_29 : decode cX3_rehearse 29 = .ok (.invokespecial 84, 3) := by decide +kernel
theorem dX3_rehearse_32 : decode cX3_rehearse 32 = .ok (.athrow, 1) := by decide +kernel
theorem dX3_rehearse_33 : decode cX3_rehearse 33 = .ok (.aload_n 0, 1) := by decide +kernel
theorem dX3_rehearse_34 : decode cX3_rehearse 34 = .ok (.getfield 25, 3) := by decide +kernel
theorem dX3_rehearse_37 : decode cX3_rehearse 37 = .ok (.iload_n 1, 1) := by decide +kernel
theorem dX3_rehearse_38 : decode cX3_rehearse 38 = .ok (.aaload, 1) := by decide +kernel
theorem dX3_rehearse_39 : decode cX3_rehearse 39 = .ok (.iload_n 2, 1) := by decide +kernel
theorem dX3_rehearse_40 : decode cX3_rehearse 40 = .ok (.bipush 8, 2) := by decide +kernel
theorem dX3_rehearse_42 : decode cX3_rehearse 42 = .ok (.isub, 1) := by decide +kernel
theorem dX3_rehearse_43 : decode cX3_rehearse 43 = .ok (.iaload, 1) := by decide +kernel
theorem dX3_rehearse_44 : decode cX3_rehearse 44 = .ok (.iconst (-1), 1) := by decide +kernel
theorem dX3_rehearse_45 : decode cX3_rehearse 45 = .ok (.if_icmp .eq 13, 3) := by decide +kernel
theorem dX3_rehearse_48 : decode cX3_rehearse 48 = .ok (.new 50, 3) := by decide +kernel
theorem dX3_rehearse_51 : decode cX3_rehearse 51 = .ok (.dup, 1) := by decide +kernel
theorem dX3_rehearse_52 : decode cX3_rehearse 52 = .ok (.ldc 181, 2) := by decide +kernel
theorem dX3_rehearse_54 : decode cX3_rehearse 54 = .ok (.invokespecial 54, 3) := by decide +kernel
theorem dX3_rehearse_57 : decode cX3_rehearse 57 = .ok (.athrow, 1) := by decide +kernel
theorem dX3_rehearse_58 : decode cX3_rehearse 58 = .ok (.aload_n 0, 1) := by decide +kernel
theorem dX3_rehearse_59 : decode cX3_rehearse 59 = .ok (.iload_n 3, 1) := by decide +kernel
theorem dX3_rehearse_60 : decode cX3_rehearse 60 = .ok (.iload 4, 2) := by decide +kernel
theorem dX3_rehearse_62 : decode cX3_rehearse 62 = .ok (.invokevirtual 183, 3) := by decide +kernel
theorem dX3_rehearse_65 : decode cX3_rehearse 65 = .ok (.istore 5, 2) := by decide +kernel
theorem dX3_rehearse_67 : decode cX3_rehearse 67 = .ok (.aload_n 0, 1) := by decide +kernel
theorem dX3_rehearse_68 : decode cX3_rehearse 68 = .ok (.iload 5, 2) := by decide +kernel
theorem dX3_rehearse_70 : decode cX3_rehearse 70 = .ok (.iload_n 2, 1) := by decide +kernel
theorem dX3_rehearse_71 : decode cX3_rehearse 71 = .ok (.invokevirtual 187, 3) := by decide +kernel
theorem dX3_rehearse_74 : decode cX3_rehearse 74 = .ok (.ifCond .eq 13, 3) := by decide +kernel
theorem dX3_rehearse_77 : decode cX3_rehearse 77 = .ok (.new 50, 3) := by decide +kernel
theorem dX3_rehearse_80 : decode cX3_rehearse 80 = .ok (.dup, 1) := by decide +kernel
theorem dX3_rehearse_81 : decode cX3_rehearse 81 = .ok (.ldc 190, 2) := by decide +kernel
theorem dX3_rehearse_83 : decode cX3_rehearse 83 = .ok (.invokespecial 54, 3) := by decide +kernel
theorem dX3_rehearse_86 : decode cX3_rehearse 86 = .ok (.athrow, 1) := by decide +kernel
theorem dX3_rehearse_87 : decode cX3_rehearse 87 = .ok (.aload_n 0, 1) := by decide +kernel
theorem dX3_rehearse_88 : decode cX3_rehearse 88 = .ok (.iload 5, 2) := by decide +kernel
theorem dX3_rehearse_90 : decode cX3_rehearse 90 = .ok (.iload_n 3, 1) := by decide +kernel
theorem dX3_rehearse_91 : decode cX3_rehearse 91 = .ok (.iload 4, 2) := by decide +kernel
theorem dX3_rehearse_93 : decode cX3_rehearse 93 = .ok (.invokevirtual 192, 3) := by decide +kernel
theorem dX3_rehearse_96 : decode cX3_rehearse 96 = .ok (.ifCond .ne 13, 3) := by decide +kernel
theorem dX3_rehearse_99 : decode cX3_rehearse 99 = .ok (.new 50, 3) := by decide +kernel
theorem dX3_rehearse_102 : decode cX3_rehearse 102 = .ok (.dup, 1) := by decide +kernel
theorem dX3_rehearse_103 : decode cX3_rehearse 103 = .ok (.ldc 196, 2) := by decide +kernel
theorem dX3_rehearse_105 : decode cX3_rehearse 105 = .ok (.invokespecial 54, 3) := by decide +kernel
theorem dX3_rehearse_108 : decode cX3_rehearse 108 = .ok (.athrow, 1) := by decide +kernel
theorem dX3_rehearse_109 : decode cX3_rehearse 109 = .ok (.aload_n 0, 1) := by decide +kernel
theorem dX3_rehearse_110 : decode cX3_rehearse 110 = .ok (.iload 5, 2) := by decide +kernel
theorem dX3_rehearse_112 : decode cX3_rehearse 112 = .ok (.iload_n 3, 1) := by decide +kernel
theorem dX3_rehearse_113 : decode cX3_rehearse 113 = .ok (.iload 4, 2) := by decide +kernel
theorem dX3_rehearse_115 : decode cX3_rehearse 115 = .ok (.invokevirtual 198, 3) := by decide +kernel
theorem dX3_rehearse_118 : decode cX3_rehearse 118 = .ok (.aload_n 0, 1) := by decide +kernel
theorem dX3_rehearse_119 : decode cX3_rehearse 119 = .ok (.getfield 25, 3) := by decide +kernel
theorem dX3_rehearse_122 : decode cX3_rehearse 122 = .ok (.iload_n 1, 1) := by decide +kernel
theorem dX3_rehearse_123 : decode cX3_rehearse 123 = .ok (.aaload, 1) := by decide +kernel
theorem dX3_rehearse_124 : decode cX3_rehearse 124 = .ok (.iload_n 2, 1) := by decide +kernel
theorem dX3_rehearse_125 : decode cX3_rehearse 125 = .ok (.bipush 8, 2) := by decide +kernel
theorem dX3_rehearse_127 : decode cX3_rehearse 127 = .ok (.isub, 1) := by decide +kernel
theorem dX3_rehearse_128 : decode cX3_rehearse 128 = .ok (.iload 5, 2) := by decide +kernel
theorem dX3_rehearse_130 : decode cX3_rehearse 130 = .ok (.iastore, 1) := by decide +kernel
theorem dX3_rehearse_131 : decode cX3_rehearse 131 = .ok (.iload 5, 2) := by decide +kernel
theorem dX3_rehearse_133 : decode cX3_rehearse 133 = .ok (.ireturn, 1) := by decide +kernel
theorem dX3_rehearsal_0 : decode cX3_rehearsal 0 = .ok (.iload_n 1, 1) := by decide +kernel
theorem dX3_rehearsal_1 : decode cX3_rehearsal 1 = .ok (.invokestatic 173, 3) := by decide +kernel
theorem dX3_rehearsal_4 : decode cX3_rehearsal 4 = .ok (.iload_n 2, 1) := by decide +kernel
theorem dX3_rehearsal_5 : decode cX3_rehearsal 5 = .ok (.invokestatic 176, 3) := by decide +kernel
theorem dX3_rehearsal_8 : decode cX3_rehearsal 8 = .ok (.aload_n 0, 1) := by decide +kernel
theorem dX3_rehearsal_9 : decode cX3_rehearsal 9 = .ok (.getfield 25, 3) := by decide +kernel
theorem dX3_rehearsal_12 : decode cX3_rehearsal 12 = .ok (.iload_n 1, 1) := by decide +kernel
theorem dX3_rehearsal_13 : decode cX3_rehearsal 13 = .ok (.aaload, 1) := by decide +kernel
theorem dX3_rehearsal_14 : decode cX3_rehearsal 14 = .ok (.iload_n 2, 1) := by decide +kernel
theorem dX3_rehearsal_15 : decode cX3_rehearsal 15 = .ok (.bipush 8, 2) := by decide +kernel
theorem dX3_rehearsal_17 : decode cX3_rehearsal 17 = .ok (.isub, 1) := by decide +kernel
theorem dX3_rehearsal_18 : decode cX3_rehearsal 18 = .ok (.iaload, 1) := by decide +kernel
theorem dX3_rehearsal_19 : decode cX3_rehearsal 19 = .ok (.ireturn, 1) := by decide +kernel
theorem dX3_knees_0 : decode cX3_knees 0 = .ok (.aload_n 0, 1) := by decide +kernel
theorem dX3_knees_1 : decode cX3_knees 1 = .ok (.iload_n 1, 1) := by decide +kernel
theorem dX3_knees_2 : decode cX3_knees 2 = .ok (.invokevirtual 70, 3) := by decide +kernel
theorem dX3_knees_5 : decode cX3_knees 5 = .ok (.aload_n 0, 1) := by decide +kernel
theorem dX3_knees_6 : decode cX3_knees 6 = .ok (.getfield 10, 3) := by decide +kernel
theorem dX3_knees_9 : decode cX3_knees 9 = .ok (.iload_n 1, 1) := by decide +kernel
theorem dX3_knees_10 : decode cX3_knees 10 = .ok (.invokevirtual 85, 3) := by decide +kernel
theorem dX3_knees_13 : decode cX3_knees 13 = .ok (.checkcast 61, 3) := by decide +kernel
theorem dX3_knees_16 : decode cX3_knees 16 = .ok (.getfield 202, 3) := by decide +kernel
theorem dX3_knees_19 : decode cX3_knees 19 = .ok (.ireturn, 1) := by decide +kernel
theorem dX3_sleep_0 : decode cX3_sleep 0 = .ok (.aload_n 0, 1) := by decide +kernel
theorem dX3_sleep_1 : decode cX3_sleep 1 = .ok (.invokevirtual 32, 3) := by decide +kernel
theorem dX3_sleep_4 : decode cX3_sleep 4 = .ok (.iconst 0, 1) := by decide +kernel
theorem dX3_sleep_5 : decode cX3_sleep 5 = .ok (.istore_n 1, 1) := by decide +kernel
theorem dX3_sleep_6 : decode cX3_sleep 6 = .ok (.iload_n 1, 1) := by decide +kernel
theorem dX3_sleep_7 : decode cX3_sleep 7 = .ok (.aload_n 0, 1) := by decide +kernel
theorem dX3_sleep_8 : decode cX3_sleep 8 = .ok (.getfield 10, 3) := by decide +kernel
theorem dX3_sleep_11 : decode cX3_sleep 11 = .ok (.invokevirtual 46, 3) := by decide +kernel
theorem dX3_sleep_14 : decode cX3_sleep 14 = .ok (.if_icmp .ge 36, 3) := by decide +kernel
theorem dX3_sleep_17 : decode cX3_sleep 17 = .ok (.aload_n 0, 1) := by decide +kernel
theorem dX3_sleep_18 : decode cX3_sleep 18 = .ok (.getfield 10, 3) := by decide +kernel
theorem dX3_sleep_21 : decode cX3_sleep 21 = .ok (.iload_n 1, 1) := by decide +kernel
theorem dX3_sleep_22 : decode cX3_sleep 22 = .ok (.invokevirtual 85, 3) := by decide +kernel
theorem dX3_sleep_25 : decode cX3_sleep 25 = .ok (.checkcast 61, 3) := by decide +kernel
theorem dX3_sleep_28 : decode cX3_sleep 28 = .ok (.astore_n 2, 1) := by decide +kernel
theorem dX3_sleep_29 : decode cX3_sleep 29 = .ok (.aload_n 2, 1) := by decide +kernel
theorem dX3_sleep_30 : decode cX3_sleep 30 = .ok (.iconst 0, 1) := by decide +kernel
theorem dX3_sleep_31 : decode cX3_sleep 31 = .ok (.aload_n 2, 1) := by decide +kernel
theorem dX3_sleep_32 : decode cX3_sleep 32 = .ok (.getfield 202, 3) := by decide +kernel
theorem dX3_sleep_35 : decode cX3_sleep 35 = .ok (.bipush 25, 2) := by decide +kernel
theorem dX3_sleep_37 : decode cX3_sleep 37 = .ok (.isub, 1) := by decide +kernel
theorem dX3_sleep_38 : decode cX3_sleep 38 = .ok (.invokestatic 205, 3) := by decide +kernel
theorem dX3_sleep_41 : decode cX3_sleep 41 = .ok (.putfield 202, 3) := by decide +kernel
theorem dX3_sleep_44 : decode cX3_sleep 44 = .ok (.iinc 1 1, 3) := by decide +kernel
theorem dX3_sleep_47 : decode cX3_sleep 47 = .ok (.goto (-41), 3) := by decide +kernel
theorem dX3_sleep_50 : decode cX3_sleep 50 = .ok (.aload_n 0, 1) := by decide +kernel
theorem dX3_sleep_51 : decode cX3_sleep 51 = .ok (.dup, 1) := by decide +kernel
theorem dX3_sleep_52 : decode cX3_sleep 52 = .ok (.getfield 28, 3) := by decide +kernel
theorem dX3_sleep_55 : decode cX3_sleep 55 = .ok (.iconst 1, 1) := by decide +kernel
theorem dX3_sleep_56 : decode cX3_sleep 56 = .ok (.iadd, 1) := by decide +kernel
theorem dX3_sleep_57 : decode cX3_sleep 57 = .ok (.putfield 28, 3) := by decide +kernel
theorem dX3_sleep_60 : decode cX3_sleep 60 = .ok (.aload_n 0, 1) := by decide +kernel
theorem dX3_sleep_61 : decode cX3_sleep 61 = .ok (.getfield 28, 3) := by decide +kernel
theorem dX3_sleep_64 : decode cX3_sleep 64 = .ok (.ireturn, 1) := by decide +kernel
theorem dX3_hurt_0 : decode cX3_hurt 0 = .ok (.aload_n 0, 1) := by decide +kernel
theorem dX3_hurt_1 : decode cX3_hurt 1 = .ok (.iload_n 1, 1) := by decide +kernel
theorem dX3_hurt_2 : decode cX3_hurt 2 = .ok (.invokevirtual 70, 3) := by decide +kernel
theorem dX3_hurt_5 : decode cX3_hurt 5 = .ok (.aload_n 0, 1) := by decide +kernel
theorem dX3_hurt_6 : decode cX3_hurt 6 = .ok (.iload_n 1, 1) := by decide +kernel
theorem dX3_hurt_7 : decode cX3_hurt 7 = .ok (.invokevirtual 126, 3) := by decide +kernel
theorem dX3_hurt_10 : decode cX3_hurt 10 = .ok (.ifCond .eq 13, 3) := by decide +kernel
theorem dX3_hurt_13 : decode cX3_hurt 13 = .ok (.new 50, 3) := by decide +kernel
theorem dX3_hurt_16 : decode cX3_hurt 16 = .ok (.dup, 1) := by decide +kernel
theorem dX3_hurt_17 : decode cX3_hurt 17 = .ok (.ldc 93, 2) := by decide +kernel
theorem dX3_hurt_19 : decode cX3_hurt 19 = .ok (.invokespecial 54, 3) := by decide +kernel
theorem dX3_hurt_22 : decode cX3_hurt 22 = .ok (.athrow, 1) := by decide +kernel
theorem dX3_hurt_23 : decode cX3_hurt 23 = .ok (.aload_n 0, 1) := by decide +kernel
theorem dX3_hurt_24 : decode cX3_hurt 24 = .ok (.getfield 10, 3) := by decide +kernel
theorem dX3_hurt_27 : decode cX3_hurt 27 = .ok (.iload_n 1, 1) := by decide +kernel
theorem dX3_hurt_28 : decode cX3_hurt 28 = .ok (.invokevirtual 85, 3) := by decide +kernel
theorem dX3_hurt_31 : decode cX3_hurt 31 = .ok (.checkcast 61, 3) := by decide +kernel
theorem dX3_hurt_34 : decode cX3_hurt 34 = .ok (.iconst 1, 1) := by decide +kernel
theorem dX3_hurt_35 : decode cX3_hurt 35 = .ok (.putfield 89, 3) := by decide +kernel
theorem dX3_hurt_38 : decode cX3_hurt 38 = .ok (.aload_n 0, 1) := by decide +kernel
theorem dX3_hurt_39 : decode cX3_hurt 39 = .ok (.iload_n 1, 1) := by decide +kernel
theorem dX3_hurt_40 : decode cX3_hurt 40 = .ok (.invokevirtual 210, 3) := by decide +kernel
theorem dX3_hurt_43 : decode cX3_hurt 43 = .ok (.iconst 0, 1) := by decide +kernel
theorem dX3_hurt_44 : decode cX3_hurt 44 = .ok (.istore_n 2, 1) := by decide +kernel
theorem dX3_hurt_45 : decode cX3_hurt 45 = .ok (.iconst 0, 1) := by decide +kernel
theorem dX3_hurt_46 : decode cX3_hurt 46 = .ok (.istore_n 3, 1) := by decide +kernel
theorem dX3_hurt_47 : decode cX3_hurt 47 = .ok (.iload_n 3, 1) := by decide +kernel
theorem dX3_hurt_48 : decode cX3_hurt 48 = .ok (.aload_n 0, 1) := by decide +kernel
theorem dX3_hurt_49 : decode cX3_hurt 49 = .ok (.getfield 16, 3) := by decide +kernel
theorem dX3_hurt_52 : decode cX3_hurt 52 = .ok (.invokevirtual 46, 3) := by decide +kernel
theorem dX3_hurt_55 : decode cX3_hurt 55 = .ok (.if_icmp .ge 49, 3) := by decide +kernel
theorem dX3_hurt_58 : decode cX3_hurt 58 = .ok (.aload_n 0, 1) := by decide +kernel
theorem dX3_hurt_59 : decode cX3_hurt 59 = .ok (.getfield 16, 3) := by decide +kernel
theorem dX3_hurt_62 : decode cX3_hurt 62 = .ok (.iload_n 3, 1) := by decide +kernel
theorem dX3_hurt_63 : decode cX3_hurt 63 = .ok (.invokevirtual 85, 3) := by decide +kernel
theorem dX3_hurt_66 : decode cX3_hurt 66 = .ok (.checkcast 131, 3) := by decide +kernel
theorem dX3_hurt_69 : decode cX3_hurt 69 = .ok (.astore 4, 2) := by decide +kernel
theorem dX3_hurt_71 : decode cX3_hurt 71 = .ok (.aload 4, 2) := by decide +kernel
theorem dX3_hurt_73 : decode cX3_hurt 73 = .ok (.getfield 213, 3) := by decide +kernel
theorem dX3_hurt_76 : decode cX3_hurt 76 = .ok (.ifCond .ne 22, 3) := by decide +kernel
theorem dX3_hurt_79 : decode cX3_hurt 79 = .ok (.aload 4, 2) := by decide +kernel
theorem dX3_hurt_81 : decode cX3_hurt 81 = .ok (.iload_n 1, 1) := by decide +kernel
theorem dX3_hurt_82 : decode cX3_hurt 82 = .ok (.invokevirtual 216, 3) := by decide +kernel
theorem dX3_hurt_85 : decode cX3_hurt 85 = .ok (.ifCond .eq 13, 3) := by decide +kernel
theorem dX3_hurt_88 : decode cX3_hurt 88 = .ok (.iload_n 2, 1) := by decide +kernel
theorem dX3_hurt_89 : decode cX3_hurt 89 = .ok (.aload_n 0, 1) := by decide +kernel
theorem dX3_hurt_90 : decode cX3_hurt 90 = .ok (.aload 4, 2) := by decide +kernel
theorem dX3_hurt_92 : decode cX3_hurt 92 = .ok (.iload_n 1, 1) := by decide +kernel
theorem dX3_hurt_93 : decode cX3_hurt 93 = .ok (.invokevirtual 219, 3) := by decide +kernel
theorem dX3_hurt_96 : decode cX3_hurt 96 = .ok (.iadd, 1) := by decide +kernel
theorem dX3_hurt_97 : decode cX3_hurt 97 = .ok (.istore_n 2, 1) := by decide +kernel
theorem dX3_hurt_98 : decode cX3_hurt 98 = .ok (.iinc 3 1, 3) := by decide +kernel
theorem dX3_hurt_101 : decode cX3_hurt 101 = .ok (.goto (-54), 3) := by decide +kernel
theorem dX3_hurt_104 : decode cX3_hurt 104 = .ok (.iload_n 2, 1) := by decide +kernel
theorem dX3_hurt_105 : decode cX3_hurt 105 = .ok (.ireturn, 1) := by decide +kernel
theorem dX3_needDancer_0 : decode cX3_needDancer 0 = .ok (.iload_n 1, 1) := by decide +kernel
theorem dX3_needDancer_1 : decode cX3_needDancer 1 = .ok (.ifCond .lt 14, 3) := by decide +kernel
theorem dX3_needDancer_4 : decode cX3_needDancer 4 = .ok (.iload_n 1, 1) := by decide +kernel
theorem dX3_needDancer_5 : decode cX3_needDancer 5 = .ok (.aload_n 0, 1) := by decide +kernel
theorem dX3_needDancer_6 : decode cX3_needDancer 6 = .ok (.getfield 10, 3) := by decide +kernel
theorem dX3_needDancer_9 : decode cX3_needDancer 9 = .ok (.invokevirtual 46, 3) := by decide +kernel
theorem dX3_needDancer_12 : decode cX3_needDancer 12 = .ok (.if_icmp .lt 13, 3) := by decide +kernel
theorem dX3_needDancer_15 : decode cX3_needDancer 15 = .ok (.new 39, 3) := by decide +kernel
theorem dX3_needDancer_18 : decode cX3_needDancer 18 = .ok (.dup, 1) := by decide +kernel
theorem dX3_needDancer_19 : decode cX3_needDancer 19 = .ok (.ldc 223, 2) := by decide +kernel
theorem dX3_needDancer_21 : decode cX3_needDancer 21 = .ok (.invokespecial 43, 3) := by decide +kernel
theorem dX3_needDancer_24 : decode cX3_needDancer 24 = .ok (.athrow, 1) := by decide +kernel
theorem dX3_needDancer_25 : decode cX3_needDancer 25 = .ok (.return_, 1) := by decide +kernel
theorem dX3_needCount_0 : decode cX3_needCount 0 = .ok (.iload_n 0, 1) := by decide +kernel
theorem dX3_needCount_1 : decode cX3_needCount 1 = .ok (.ifCond .lt 9, 3) := by decide +kernel
theorem dX3_needCount_4 : decode cX3_needCount 4 = .ok (.iload_n 0, 1) := by decide +kernel
theorem dX3_needCount_5 : decode cX3_needCount 5 = .ok (.bipush 64, 2) := by decide +kernel
theorem dX3_needCount_7 : decode cX3_needCount 7 = .ok (.if_icmp .lt 13, 3) := by decide +kernel
theorem dX3_needCount_10 : decode cX3_needCount 10 = .ok (.new 39, 3) := by decide +kernel
theorem dX3_needCount_13 : decode cX3_needCount 13 = .ok (.dup, 1) := by decide +kernel
theorem dX3_needCount_14 : decode cX3_needCount 14 = .ok (.ldc 225, 2) := by decide +kernel
theorem dX3_needCount_16 : decode cX3_needCount 16 = .ok (.invokespecial 43, 3) := by decide +kernel
theorem dX3_needCount_19 : decode cX3_needCount 19 = .ok (.athrow, 1) := by decide +kernel
theorem dX3_needCount_20 : decode cX3_needCount 20 = .ok (.return_, 1) := by decide +kernel
theorem dX3_needRoom_0 : decode cX3_needRoom 0 = .ok (.iload_n 0, 1) := by decide +kernel
theorem dX3_needRoom_1 : decode cX3_needRoom 1 = .ok (.ifCond .lt 8, 3) := by decide +kernel
theorem dX3_needRoom_4 : decode cX3_needRoom 4 = .ok (.iload_n 0, 1) := by decide +kernel
theorem dX3_needRoom_5 : decode cX3_needRoom 5 = .ok (.iconst 3, 1) := by decide +kernel
theorem dX3_needRoom_6 : decode cX3_needRoom 6 = .ok (.if_icmp .lt 13, 3) := by decide +kernel
theorem dX3_needRoom_9 : decode cX3_needRoom 9 = .ok (.new 39, 3) := by decide +kernel
theorem dX3_needRoom_12 : decode cX3_needRoom 12 = .ok (.dup, 1) := by decide +kernel
theorem dX3_needRoom_13 : decode cX3_needRoom 13 = .ok (.ldc 227, 2) := by decide +kernel
theorem dX3_needRoom_15 : decode cX3_needRoom 15 = .ok (.invokespecial 43, 3) := by decide +kernel
theorem dX3_needRoom_18 : decode cX3_needRoom 18 = .ok (.athrow, 1) := by decide +kernel
theorem dX3_needRoom_19 : decode cX3_needRoom 19 = .ok (.return_, 1) := by decide +kernel
theorem dX3_needHour_0 : decode cX3_needHour 0 = .ok (.iload_n 0, 1) := by decide +kernel
theorem dX3_needHour_1 : decode cX3_needHour 1 = .ok (.bipush 8, 2) := by decide +kernel
theorem dX3_needHour_3 : decode cX3_needHour 3 = .ok (.if_icmp .lt 9, 3) := by decide +kernel
theorem dX3_needHour_6 : decode cX3_needHour 6 = .ok (.iload_n 0, 1) := by decide +kernel
theorem dX3_needHour_7 : decode cX3_needHour 7 = .ok (.bipush 21, 2) := by decide +kernel
theorem dX3_needHour_9 : decode cX3_needHour 9 = .ok (.if_icmp .lt 13, 3) := by decide +kernel
theorem dX3_needHour_12 : decode cX3_needHour 12 = .ok (.new 39, 3) := by decide +kernel
theorem dX3_needHour_15 : decode cX3_needHour 15 = .ok (.dup, 1) := by decide +kernel
theorem dX3_needHour_16 : decode cX3_needHour 16 = .ok (.ldc 229, 2) := by decide +kernel
theorem dX3_needHour_18 : decode cX3_needHour 18 = .ok (.invokespecial 43, 3) := by decide +kernel
theorem dX3_needHour_21 : decode cX3_needHour 21 = .ok (.athrow, 1) := by decide +kernel
theorem dX3_needHour_22 : decode cX3_needHour 22 = .ok (.return_, 1) := by decide +kernel
theorem dX3_isOnStage_0 : decode cX3_isOnStage 0 = .ok (.iload_n 0, 1) := by decide +kernel
theorem dX3_isOnStage_1 : decode cX3_isOnStage 1 = .ok (.ifCond .lt 13, 3) := by decide +kernel
theorem dX3_isOnStage_4 : decode cX3_isOnStage 4 = .ok (.iload_n 0, 1) := by decide +kernel
theorem dX3_isOnStage_5 : decode cX3_isOnStage 5 = .ok (.bipush 8, 2) := by decide +kernel
theorem dX3_isOnStage_7 : decode cX3_isOnStage 7 = .ok (.if_icmp .ge 7, 3) := by decide +kernel
theorem dX3_isOnStage_10 : decode cX3_isOnStage 10 = .ok (.iconst 1, 1) := by decide +kernel
theorem dX3_isOnStage_11 : decode cX3_isOnStage 11 = .ok (.goto 4, 3) := by decide +kernel
theorem dX3_isOnStage_14 : decode cX3_isOnStage 14 = .ok (.iconst 0, 1) := by decide +kernel
theorem dX3_isOnStage_15 : decode cX3_isOnStage 15 = .ok (.ireturn, 1) := by decide +kernel
theorem dX3_isMove_0 : decode cX3_isMove 0 = .ok (.iload_n 0, 1) := by decide +kernel
theorem dX3_isMove_1 : decode cX3_isMove 1 = .ok (.bipush (-2), 2) := by decide +kernel
theorem dX3_isMove_3 : decode cX3_isMove 3 = .ok (.if_icmp .lt 12, 3) := by decide +kernel
theorem dX3_isMove_6 : decode cX3_isMove 6 = .ok (.iload_n 0, 1) := by decide +kernel
theorem dX3_isMove_7 : decode cX3_isMove 7 = .ok (.iconst 2, 1) := by decide +kernel
theorem dX3_isMove_8 : decode cX3_isMove 8 = .ok (.if_icmp .gt 7, 3) := by decide +kernel
theorem dX3_isMove_11 : decode cX3_isMove 11 = .ok (.iconst 1, 1) := by decide +kernel
theorem dX3_isMove_12 : decode cX3_isMove 12 = .ok (.goto 4, 3) := by decide +kernel
theorem dX3_isMove_15 : decode cX3_isMove 15 = .ok (.iconst 0, 1) := by decide +kernel
theorem dX3_isMove_16 : decode cX3_isMove 16 = .ok (.ireturn, 1) := by decide +kernel
theorem dX3_isFirstPlace_0 : decode cX3_isFirstPlace 0 = .ok (.iconst 0, 1) := by decide +kernel
theorem dX3_isFirstPlace_1 : decode cX3_isFirstPlace 1 = .ok (.istore_n 3, 1) := by decide +kernel
theorem dX3_isFirstPlace_2 : decode cX3_isFirstPlace 2 = .ok (.iload_n 3, 1) := by decide +kernel
theorem dX3_isFirstPlace_3 : decode cX3_isFirstPlace 3 = .ok (.aload_n 0, 1) := by decide +kernel
theorem dX3_isFirstPlace_4 : decode cX3_isFirstPlace 4 = .ok (.getfield 10, 3) := by decide +kernel
theorem dX3_isFirstPlace_7 : decode cX3_isFirstPlace 7 = .ok (.invokevirtual 46, 3) := by decide +kernel
theorem dX3_isFirstPlace_10 : decode cX3_isFirstPlace 10 = .ok (.if_icmp .ge 48, 3) := by decide +kernel
theorem dX3_isFirstPlace_13 : decode cX3_isFirstPlace 13 = .ok (.aload_n 0, 1) := by decide +kernel
theorem dX3_isFirstPlace_14 : decode cX3_isFirstPlace 14 = .ok (.getfield 10, 3) := by decide +kernel
theorem dX3_isFirstPlace_17 : decode cX3_isFirstPlace 17 = .ok (.iload_n 3, 1) := by decide +kernel
theorem dX3_isFirstPlace_18 : decode cX3_isFirstPlace 18 = .ok (.invokevirtual 85, 3) := by decide +kernel
theorem dX3_isFirstPlace_21 : decode cX3_isFirstPlace 21 = .ok (.checkcast 61, 3) := by decide +kernel
theorem dX3_isFirstPlace_24 : decode cX3_isFirstPlace 24 = .ok (.astore 4, 2) := by decide +kernel
theorem dX3_isFirstPlace_26 : decode cX3_isFirstPlace 26 = .ok (.aload 4, 2) := by decide +kernel
theorem dX3_isFirstPlace_28 : decode cX3_isFirstPlace 28 = .ok (.getfield 95, 3) := by decide +kernel
theorem dX3_isFirstPlace_31 : decode cX3_isFirstPlace 31 = .ok (.getfield 231, 3) := by decide +kernel
theorem dX3_isFirstPlace_34 : decode cX3_isFirstPlace 34 = .ok (.iload_n 1, 1) := by decide +kernel
theorem dX3_isFirstPlace_35 : decode cX3_isFirstPlace 35 = .ok (.if_icmp .ne 17, 3) := by decide +kernel
theorem dX3_isFirstPlace_38 : decode cX3_isFirstPlace 38 = .ok (.aload 4, 2) := by decide +kernel
theorem dX3_isFirstPlace_40 : decode cX3_isFirstPlace 40 = .ok (.getfield 104, 3) := by decide +kernel
theorem dX3_isFirstPlace_43 : decode cX3_isFirstPlace 43 = .ok (.getfield 231, 3) := by decide +kernel
theorem dX3_isFirstPlace_46 : decode cX3_isFirstPlace 46 = .ok (.iload_n 2, 1) := by decide +kernel
theorem dX3_isFirstPlace_47 : decode cX3_isFirstPlace 47 = .ok (.if_icmp .ne 5, 3) := by decide +kernel
theorem dX3_isFirstPlace_50 : decode cX3_isFirstPlace 50 = .ok (.iconst 1, 1) := by decide +kernel
theorem dX3_isFirstPlace_51 : decode cX3_isFirstPlace 51 = .ok (.ireturn, 1) := by decide +kernel
theorem dX3_isFirstPlace_52 : decode cX3_isFirstPlace 52 = .ok (.iinc 3 1, 3) := by decide +kernel
theorem dX3_isFirstPlace_55 : decode cX3_isFirstPlace 55 = .ok (.goto (-53), 3) := by decide +kernel
theorem dX3_isFirstPlace_58 : decode cX3_isFirstPlace 58 = .ok (.iconst 0, 1) := by decide +kernel
theorem dX3_isFirstPlace_59 : decode cX3_isFirstPlace 59 = .ok (.ireturn, 1) := by decide +kernel
theorem dX3_isOut_0 : decode cX3_isOut 0 = .ok (.aload_n 0, 1) := by decide +kernel
theorem dX3_isOut_1 : decode cX3_isOut 1 = .ok (.getfield 10, 3) := by decide +kernel
theorem dX3_isOut_4 : decode cX3_isOut 4 = .ok (.iload_n 1, 1) := by decide +kernel
theorem dX3_isOut_5 : decode cX3_isOut 5 = .ok (.invokevirtual 85, 3) := by decide +kernel
theorem dX3_isOut_8 : decode cX3_isOut 8 = .ok (.checkcast 61, 3) := by decide +kernel
theorem dX3_isOut_11 : decode cX3_isOut 11 = .ok (.getfield 89, 3) := by decide +kernel
theorem dX3_isOut_14 : decode cX3_isOut 14 = .ok (.ireturn, 1) := by decide +kernel
theorem dX3_clashesAt_0 : decode cX3_clashesAt 0 = .ok (.iconst 0, 1) := by decide +kernel
theorem dX3_clashesAt_1 : decode cX3_clashesAt 1 = .ok (.istore_n 2, 1) := by decide +kernel
theorem dX3_clashesAt_2 : decode cX3_clashesAt 2 = .ok (.iconst 0, 1) := by decide +kernel
theorem dX3_clashesAt_3 : decode cX3_clashesAt 3 = .ok (.istore_n 3, 1) := by decide +kernel
theorem dX3_clashesAt_4 : decode cX3_clashesAt 4 = .ok (.iload_n 3, 1) := by decide +kernel
theorem dX3_clashesAt_5 : decode cX3_clashesAt 5 = .ok (.aload_n 0, 1) := by decide +kernel
theorem dX3_clashesAt_6 : decode cX3_clashesAt 6 = .ok (.getfield 10, 3) := by decide +kernel
theorem dX3_clashesAt_9 : decode cX3_clashesAt 9 = .ok (.invokevirtual 46, 3) := by decide +kernel
theorem dX3_clashesAt_12 : decode cX3_clashesAt 12 = .ok (.if_icmp .ge 96, 3) := by decide +kernel
theorem dX3_clashesAt_15 : decode cX3_clashesAt 15 = .ok (.aload_n 0, 1) := by decide +kernel
theorem dX3_clashesAt_16 : decode cX3_clashesAt 16 = .ok (.getfield 10, 3) := by decide +kernel
theorem dX3_clashesAt_19 : decode cX3_clashesAt 19 = .ok (.iload_n 3, 1) := by decide +kernel
theorem dX3_clashesAt_20 : decode cX3_clashesAt 20 = .ok (.invokevirtual 85, 3) := by decide +kernel
theorem dX3_clashesAt_23 : decode cX3_clashesAt 23 = .ok (.checkcast 61, 3) := by decide +kernel
theorem dX3_clashesAt_26 : decode cX3_clashesAt 26 = .ok (.astore 4, 2) := by decide +kernel
theorem dX3_clashesAt_28 : decode cX3_clashesAt 28 = .ok (.aload 4, 2) := by decide +kernel
theorem dX3_clashesAt_30 : decode cX3_clashesAt 30 = .ok (.iload_n 1, 1) := by decide +kernel
theorem dX3_clashesAt_31 : decode cX3_clashesAt 31 = .ok (.invokevirtual 234, 3) := by decide +kernel
theorem dX3_clashesAt_34 : decode cX3_clashesAt 34 = .ok (.ifCond .eq 6, 3) := by decide +kernel
theorem dX3_clashesAt_37 : decode cX3_clashesAt 37 = .ok (.iinc 2 1, 3) := by decide +kernel
theorem dX3_clashesAt_40 : decode cX3_clashesAt 40 = .ok (.iload_n 3, 1) := by decide +kernel
theorem dX3_clashesAt_41 : decode cX3_clashesAt 41 = .ok (.iconst 1, 1) := by decide +kernel
theorem dX3_clashesAt_42 : decode cX3_clashesAt 42 = .ok (.iadd, 1) := by decide +kernel
theorem dX3_clashesAt_43 : decode cX3_clashesAt 43 = .ok (.istore 5, 2) := by decide +kernel
theorem dX3_clashesAt_45 : decode cX3_clashesAt 45 = .ok (.iload 5, 2) := by decide +kernel
theorem dX3_clashesAt_47 : decode cX3_clashesAt 47 = .ok (.aload_n 0, 1) := by decide +kernel
theorem dX3_clashesAt_48 : decode cX3_clashesAt 48 = .ok (.getfield 10, 3) := by decide +kernel
theorem dX3_clashesAt_51 : decode cX3_clashesAt 51 = .ok (.invokevirtual 46, 3) := by decide +kernel
theorem dX3_clashesAt_54 : decode cX3_clashesAt 54 = .ok (.if_icmp .ge 48, 3) := by decide +kernel
theorem dX3_clashesAt_57 : decode cX3_clashesAt 57 = .ok (.aload_n 0, 1) := by decide +kernel
theorem dX3_clashesAt_58 : decode cX3_clashesAt 58 = .ok (.getfield 10, 3) := by decide +kernel
theorem dX3_clashesAt_61 : decode cX3_clashesAt 61 = .ok (.iload 5, 2) := by decide +kernel
theorem dX3_clashesAt_63 : decode cX3_clashesAt 63 = .ok (.invokevirtual 85, 3) := by decide +kernel
theorem dX3_clashesAt_66 : decode cX3_clashesAt 66 = .ok (.checkcast 61, 3) := by decide +kernel
theorem dX3_clashesAt_69 : decode cX3_clashesAt 69 = .ok (.astore 6, 2) := by decide +kernel
theorem dX3_clashesAt_71 : decode cX3_clashesAt 71 = .ok (.aload 4, 2) := by decide +kernel
theorem dX3_clashesAt_73 : decode cX3_clashesAt 73 = .ok (.aload 6, 2) := by decide +kernel
theorem dX3_clashesAt_75 : decode cX3_clashesAt 75 = .ok (.iload_n 1, 1) := by decide +kernel
theorem dX3_clashesAt_76 : decode cX3_clashesAt 76 = .ok (.invokevirtual 237, 3) := by decide +kernel
theorem dX3_clashesAt_79 : decode cX3_clashesAt 79 = .ok (.ifCond .ne 14, 3) := by decide +kernel
theorem dX3_clashesAt_82 : decode cX3_clashesAt 82 = .ok (.aload 4, 2) := by decide +kernel
theorem dX3_clashesAt_84 : decode cX3_clashesAt 84 = .ok (.aload 6, 2) := by decide +kernel
theorem dX3_clashesAt_86 : decode cX3_clashesAt 86 = .ok (.iload_n 1, 1) := by decide +kernel
theorem dX3_clashesAt_87 : decode cX3_clashesAt 87 = .ok (.invokevirtual 241, 3) := by decide +kernel
theorem dX3_clashesAt_90 : decode cX3_clashesAt 90 = .ok (.ifCond .eq 6, 3) := by decide +kernel
theorem dX3_clashesAt_93 : decode cX3_clashesAt 93 = .ok (.iinc 2 1, 3) := by decide +kernel
theorem dX3_clashesAt_96 : decode cX3_clashesAt 96 = .ok (.iinc 5 1, 3) := by decide +kernel
theorem dX3_clashesAt_99 : decode cX3_clashesAt 99 = .ok (.goto (-54), 3) := by decide +kernel
theorem dX3_clashesAt_102 : decode cX3_clashesAt 102 = .ok (.iinc 3 1, 3) := by decide +kernel
theorem dX3_clashesAt_105 : decode cX3_clashesAt 105 = .ok (.goto (-101), 3) := by decide +kernel
theorem dX3_clashesAt_108 : decode cX3_clashesAt 108 = .ok (.iload_n 2, 1) := by decide +kernel
theorem dX3_clashesAt_109 : decode cX3_clashesAt 109 = .ok (.ireturn, 1) := by decide +kernel
theorem dX3_liftsWith_0 : decode cX3_liftsWith 0 = .ok (.iconst 0, 1) := by decide +kernel
theorem dX3_liftsWith_1 : decode cX3_liftsWith 1 = .ok (.istore 4, 2) := by decide +kernel
theorem dX3_liftsWith_3 : decode cX3_liftsWith 3 = .ok (.iconst 0, 1) := by decide +kernel
theorem dX3_liftsWith_4 : decode cX3_liftsWith 4 = .ok (.istore 5, 2) := by decide +kernel
theorem dX3_liftsWith_6 : decode cX3_liftsWith 6 = .ok (.iload 5, 2) := by decide +kernel
theorem dX3_liftsWith_8 : decode cX3_liftsWith 8 = .ok (.aload_n 0, 1) := by decide +kernel
theorem dX3_liftsWith_9 : decode cX3_liftsWith 9 = .ok (.getfield 16, 3) := by decide +kernel
theorem dX3_liftsWith_12 : decode cX3_liftsWith 12 = .ok (.invokevirtual 46, 3) := by decide +kernel
theorem dX3_liftsWith_15 : decode cX3_liftsWith 15 = .ok (.if_icmp .ge 61, 3) := by decide +kernel
theorem dX3_liftsWith_18 : decode cX3_liftsWith 18 = .ok (.aload_n 0, 1) := by decide +kernel
theorem dX3_liftsWith_19 : decode cX3_liftsWith 19 = .ok (.getfield 16, 3) := by decide +kernel
theorem dX3_liftsWith_22 : decode cX3_liftsWith 22 = .ok (.iload 5, 2) := by decide +kernel
theorem dX3_liftsWith_24 : decode cX3_liftsWith 24 = .ok (.invokevirtual 85, 3) := by decide +kernel
theorem dX3_liftsWith_27 : decode cX3_liftsWith 27 = .ok (.checkcast 131, 3) := by decide +kernel
theorem dX3_liftsWith_30 : decode cX3_liftsWith 30 = .ok (.astore 6, 2) := by decide +kernel
theorem dX3_liftsWith_32 : decode cX3_liftsWith 32 = .ok (.aload 6, 2) := by decide +kernel
theorem dX3_liftsWith_34 : decode cX3_liftsWith 34 = .ok (.getfield 213, 3) := by decide +kernel
theorem dX3_liftsWith_37 : decode cX3_liftsWith 37 = .ok (.ifCond .ne 33, 3) := by decide +kernel
theorem dX3_liftsWith_40 : decode cX3_liftsWith 40 = .ok (.aload 6, 2) := by decide +kernel
theorem dX3_liftsWith_42 : decode cX3_liftsWith 42 = .ok (.getfield 140, 3) := by decide +kernel
theorem dX3_liftsWith_45 : decode cX3_liftsWith 45 = .ok (.iload_n 2, 1) := by decide +kernel
theorem dX3_liftsWith_46 : decode cX3_liftsWith 46 = .ok (.if_icmp .lt 24, 3) := by decide +kernel
theorem dX3_liftsWith_49 : decode cX3_liftsWith 49 = .ok (.aload 6, 2) := by decide +kernel
theorem dX3_liftsWith_51 : decode cX3_liftsWith 51 = .ok (.getfield 140, 3) := by decide +kernel
theorem dX3_liftsWith_54 : decode cX3_liftsWith 54 = .ok (.iload_n 3, 1) := by decide +kernel
theorem dX3_liftsWith_55 : decode cX3_liftsWith 55 = .ok (.if_icmp .gt 15, 3) := by decide +kernel
theorem dX3_liftsWith_58 : decode cX3_liftsWith 58 = .ok (.aload 6, 2) := by decide +kernel
theorem dX3_liftsWith_60 : decode cX3_liftsWith 60 = .ok (.iload_n 1, 1) := by decide +kernel
theorem dX3_liftsWith_61 : decode cX3_liftsWith 61 = .ok (.invokevirtual 244, 3) := by decide +kernel
theorem dX3_liftsWith_64 : decode cX3_liftsWith 64 = .ok (.ifCond .eq 6, 3) := by decide +kernel
theorem dX3_liftsWith_67 : decode cX3_liftsWith 67 = .ok (.iinc 4 1, 3) := by decide +kernel
theorem dX3_liftsWith_70 : decode cX3_liftsWith 70 = .ok (.iinc 5 1, 3) := by decide +kernel
theorem dX3_liftsWith_73 : decode cX3_liftsWith 73 = .ok (.goto (-67), 3) := by decide +kernel
theorem dX3_liftsWith_76 : decode cX3_liftsWith 76 = .ok (.iload 4, 2) := by decide +kernel
theorem dX3_liftsWith_78 : decode cX3_liftsWith 78 = .ok (.ireturn, 1) := by decide +kernel
theorem dX3_stateOf_0 : decode cX3_stateOf 0 = .ok (.aload_n 1, 1) := by decide +kernel
theorem dX3_stateOf_1 : decode cX3_stateOf 1 = .ok (.getfield 213, 3) := by decide +kernel
theorem dX3_stateOf_4 : decode cX3_stateOf 4 = .ok (.ifCond .eq 5, 3) := by decide +kernel
theorem dX3_stateOf_7 : decode cX3_stateOf 7 = .ok (.iconst 2, 1) := by decide +kernel
theorem dX3_stateOf_8 : decode cX3_stateOf 8 = .ok (.ireturn, 1) := by decide +kernel
theorem dX3_stateOf_9 : decode cX3_stateOf 9 = .ok (.aload_n 0, 1) := by decide +kernel
theorem dX3_stateOf_10 : decode cX3_stateOf 10 = .ok (.aload_n 1, 1) := by decide +kernel
theorem dX3_stateOf_11 : decode cX3_stateOf 11 = .ok (.aload_n 1, 1) := by decide +kernel
theorem dX3_stateOf_12 : decode cX3_stateOf 12 = .ok (.getfield 143, 3) := by decide +kernel
theorem dX3_stateOf_15 : decode cX3_stateOf 15 = .ok (.invokevirtual 247, 3) := by decide +kernel
theorem dX3_stateOf_18 : decode cX3_stateOf 18 = .ok (.ifCond .eq 55, 3) := by decide +kernel
theorem dX3_stateOf_21 : decode cX3_stateOf 21 = .ok (.aload_n 0, 1) := by decide +kernel
theorem dX3_stateOf_22 : decode cX3_stateOf 22 = .ok (.aload_n 1, 1) := by decide +kernel
theorem dX3_stateOf_23 : decode cX3_stateOf 23 = .ok (.aload_n 1, 1) := by decide +kernel
theorem dX3_stateOf_24 : decode cX3_stateOf 24 = .ok (.getfield 146, 3) := by decide +kernel
theorem dX3_stateOf_27 : decode cX3_stateOf 27 = .ok (.invokevirtual 247, 3) := by decide +kernel
theorem dX3_stateOf_30 : decode cX3_stateOf 30 = .ok (.ifCond .eq 43, 3) := by decide +kernel
theorem dX3_stateOf_33 : decode cX3_stateOf 33 = .ok (.aload_n 0, 1) := by decide +kernel
theorem dX3_stateOf_34 : decode cX3_stateOf 34 = .ok (.aload_n 1, 1) := by decide +kernel
theorem dX3_stateOf_35 : decode cX3_stateOf 35 = .ok (.aload_n 1, 1) := by decide +kernel
theorem dX3_stateOf_36 : decode cX3_stateOf 36 = .ok (.getfield 149, 3) := by decide +kernel
theorem dX3_stateOf_39 : decode cX3_stateOf 39 = .ok (.invokevirtual 247, 3) := by decide +kernel
theorem dX3_stateOf_42 : decode cX3_stateOf 42 = .ok (.ifCond .eq 31, 3) := by decide +kernel
theorem dX3_stateOf_45 : decode cX3_stateOf 45 = .ok (.aload_n 0, 1) := by decide +kernel
theorem dX3_stateOf_46 : decode cX3_stateOf 46 = .ok (.aload_n 1, 1) := by decide +kernel
theorem dX3_stateOf_47 : decode cX3_stateOf 47 = .ok (.aload_n 1, 1) := by decide +kernel
theorem dX3_stateOf_48 : decode cX3_stateOf 48 = .ok (.getfield 146, 3) := by decide +kernel
theorem dX3_stateOf_51 : decode cX3_stateOf 51 = .ok (.invokevirtual 251, 3) := by decide +kernel
theorem dX3_stateOf_54 : decode cX3_stateOf 54 = .ok (.ifCond .eq 19, 3) := by decide +kernel
theorem dX3_stateOf_57 : decode cX3_stateOf 57 = .ok (.aload_n 0, 1) := by decide +kernel
theorem dX3_stateOf_58 : decode cX3_stateOf 58 = .ok (.aload_n 1, 1) := by decide +kernel
theorem dX3_stateOf_59 : decode cX3_stateOf 59 = .ok (.aload_n 1, 1) := by decide +kernel
theorem dX3_stateOf_60 : decode cX3_stateOf 60 = .ok (.getfield 149, 3) := by decide +kernel
theorem dX3_stateOf_63 : decode cX3_stateOf 63 = .ok (.invokevirtual 251, 3) := by decide +kernel
theorem dX3_stateOf_66 : decode cX3_stateOf 66 = .ok (.ifCond .eq 7, 3) := by decide +kernel
theorem dX3_stateOf_69 : decode cX3_stateOf 69 = .ok (.iconst 1, 1) := by decide +kernel
theorem dX3_stateOf_70 : decode cX3_stateOf 70 = .ok (.goto 4, 3) := by decide +kernel
theorem dX3_stateOf_73 : decode cX3_stateOf 73 = .ok (.iconst 0, 1) := by decide +kernel
theorem dX3_stateOf_74 : decode cX3_stateOf 74 = .ok (.istore_n 2, 1) := by decide +kernel
theorem dX3_stateOf_75 : decode cX3_stateOf 75 = .ok (.iload_n 2, 1) := by decide +kernel
theorem dX3_stateOf_76 : decode cX3_stateOf 76 = .ok (.ifCond .eq 7, 3) := by decide +kernel
theorem dX3_stateOf_79 : decode cX3_stateOf 79 = .ok (.iconst 1, 1) := by decide +kernel
theorem dX3_stateOf_80 : decode cX3_stateOf 80 = .ok (.goto 4, 3) := by decide +kernel
theorem dX3_stateOf_83 : decode cX3_stateOf 83 = .ok (.iconst 0, 1) := by decide +kernel
theorem dX3_stateOf_84 : decode cX3_stateOf 84 = .ok (.ireturn, 1) := by decide +kernel
theorem dX3_isFreeFor_0 : decode cX3_isFreeFor 0 = .ok (.aload_n 0, 1) := by decide +kernel
theorem dX3_isFreeFor_1 : decode cX3_isFreeFor 1 = .ok (.iload_n 2, 1) := by decide +kernel
theorem dX3_isFreeFor_2 : decode cX3_isFreeFor 2 = .ok (.invokevirtual 126, 3) := by decide +kernel
theorem dX3_isFreeFor_5 : decode cX3_isFreeFor 5 = .ok (.ifCond .ne 24, 3) := by decide +kernel
theorem dX3_isFreeFor_8 : decode cX3_isFreeFor 8 = .ok (.aload_n 0, 1) := by decide +kernel
theorem dX3_isFreeFor_9 : decode cX3_isFreeFor 9 = .ok (.iload_n 2, 1) := by decide +kernel
theorem dX3_isFreeFor_10 : decode cX3_isFreeFor 10 = .ok (.aload_n 1, 1) := by decide +kernel
theorem dX3_isFreeFor_11 : decode cX3_isFreeFor 11 = .ok (.getfield 140, 3) := by decide +kernel
theorem dX3_isFreeFor_14 : decode cX3_isFreeFor 14 = .ok (.aload_n 1, 1) := by decide +kernel
theorem dX3_isFreeFor_15 : decode cX3_isFreeFor 15 = .ok (.getfield 140, 3) := by decide +kernel
theorem dX3_isFreeFor_18 : decode cX3_isFreeFor 18 = .ok (.invokevirtual 254, 3) := by decide +kernel
theorem dX3_isFreeFor_21 : decode cX3_isFreeFor 21 = .ok (.iconst 1, 1) := by decide +kernel
theorem dX3_isFreeFor_22 : decode cX3_isFreeFor 22 = .ok (.if_icmp .ne 7, 3) := by decide +kernel
theorem dX3_isFreeFor_25 : decode cX3_isFreeFor 25 = .ok (.iconst 1, 1) := by decide +kernel
theorem dX3_isFreeFor_26 : decode cX3_isFreeFor 26 = .ok (.goto 4, 3) := by decide +kernel
theorem dX3_isFreeFor_29 : decode cX3_isFreeFor 29 = .ok (.iconst 0, 1) := by decide +kernel
theorem dX3_isFreeFor_30 : decode cX3_isFreeFor 30 = .ok (.ireturn, 1) := by decide +kernel
theorem dX3_isBesideLifted_0 : decode cX3_isBesideLifted 0 = .ok (.aload_n 0, 1) := by decide +kernel
theorem dX3_isBesideLifted_1 : decode cX3_isBesideLifted 1 = .ok (.getfield 10, 3) := by decide +kernel
theorem dX3_isBesideLifted_4 : decode cX3_isBesideLifted 4 = .ok (.iload_n 2, 1) := by decide +kernel
theorem dX3_isBesideLifted_5 : decode cX3_isBesideLifted 5 = .ok (.invokevirtual 85, 3) := by decide +kernel
theorem dX3_isBesideLifted_8 : decode cX3_isBesideLifted 8 = .ok (.checkcast 61, 3) := by decide +kernel
theorem dX3_isBesideLifted_11 : decode cX3_isBesideLifted 11 = .ok (.aload_n 0, 1) := by decide +kernel
theorem dX3_isBesideLifted_12 : decode cX3_isBesideLifted 12 = .ok (.getfield 10, 3) := by decide +kernel
theorem dX3_isBesideLifted_15 : decode cX3_isBesideLifted 15 = .ok (.aload_n 1, 1) := by decide +kernel
theorem dX3_isBesideLifted_16 : decode cX3_isBesideLifted 16 = .ok (.getfield 143, 3) := by decide +kernel
theorem dX3_isBesideLifted_19 : decode cX3_isBesideLifted 19 = .ok (.invokevirtual 85, 3) := by decide +kernel
theorem dX3_isBesideLifted_22 : decode cX3_isBesideLifted 22 = .ok (.checkcast 61, 3) := by decide +kernel
theorem dX3_isBesideLifted_25 : decode cX3_isBesideLifted 25 = .ok (.aload_n 1, 1) := by decide +kernel
theorem dX3_isBesideLifted_26 : decode cX3_isBesideLifted 26 = .ok (.getfield 140, 3) := by decide +kernel
theorem dX3_isBesideLifted_29 : decode cX3_isBesideLifted 29 = .ok (.invokevirtual 258, 3) := by decide +kernel
theorem dX3_isBesideLifted_32 : decode cX3_isBesideLifted 32 = .ok (.ireturn, 1) := by decide +kernel
theorem dX3_lastOf_0 : decode cX3_lastOf 0 = .ok (.iload_n 1, 1) := by decide +kernel
theorem dX3_lastOf_1 : decode cX3_lastOf 1 = .ok (.istore_n 2, 1) := by decide +kernel
theorem dX3_lastOf_2 : decode cX3_lastOf 2 = .ok (.iload_n 2, 1) := by decide +kernel
theorem dX3_lastOf_3 : decode cX3_lastOf 3 = .ok (.ifCond .le 18, 3) := by decide +kernel
theorem dX3_lastOf_6 : decode cX3_lastOf 6 = .ok (.aload_n 0, 1) := by decide +kernel
theorem dX3_lastOf_7 : decode cX3_lastOf 7 = .ok (.getfield 19, 3) := by decide +kernel
theorem dX3_lastOf_10 : decode cX3_lastOf 10 = .ok (.iload_n 2, 1) := by decide +kernel
theorem dX3_lastOf_11 : decode cX3_lastOf 11 = .ok (.iaload, 1) := by decide +kernel
theorem dX3_lastOf_12 : decode cX3_lastOf 12 = .ok (.ifCond .ne 9, 3) := by decide +kernel
theorem dX3_lastOf_15 : decode cX3_lastOf 15 = .ok (.iinc 2 (-1), 3) := by decide +kernel
theorem dX3_lastOf_18 : decode cX3_lastOf 18 = .ok (.goto (-16), 3) := by decide +kernel
theorem dX3_lastOf_21 : decode cX3_lastOf 21 = .ok (.aload_n 0, 1) := by decide +kernel
theorem dX3_lastOf_22 : decode cX3_lastOf 22 = .ok (.getfield 19, 3) := by decide +kernel
theorem dX3_lastOf_25 : decode cX3_lastOf 25 = .ok (.iload_n 2, 1) := by decide +kernel
theorem dX3_lastOf_26 : decode cX3_lastOf 26 = .ok (.iaload, 1) := by decide +kernel
theorem dX3_lastOf_27 : decode cX3_lastOf 27 = .ok (.ireturn, 1) := by decide +kernel
theorem dX3_lastsAheadOf_0 : decode cX3_lastsAheadOf 0 = .ok (.lconst 0, 1) := by decide +kernel
theorem dX3_lastsAheadOf_1 : decode cX3_lastsAheadOf 1 = .ok (.lstore_n 2, 1) := by decide +kernel
theorem dX3_lastsAheadOf_2 : decode cX3_lastsAheadOf 2 = .ok (.sipush 500, 3) := by decide +kernel
theorem dX3_lastsAheadOf_5 : decode cX3_lastsAheadOf 5 = .ok (.istore 4, 2) := by decide +kernel
theorem dX3_lastsAheadOf_7 : decode cX3_lastsAheadOf 7 = .ok (.iconst 0, 1) := by decide +kernel
theorem dX3_lastsAheadOf_8 : decode cX3_lastsAheadOf 8 = .ok (.istore 5, 2) := by decide +kernel
theorem dX3_lastsAheadOf_10 : decode cX3_lastsAheadOf 10 = .ok (.iload 5, 2) := by decide +kernel
theorem dX3_lastsAheadOf_12 : decode cX3_lastsAheadOf 12 = .ok (.iload_n 1, 1) := by decide +kernel
theorem dX3_lastsAheadOf_13 : decode cX3_lastsAheadOf 13 = .ok (.if_icmp .ge 34, 3) := by decide +kernel
theorem dX3_lastsAheadOf_16 : decode cX3_lastsAheadOf 16 = .ok (.aload_n 0, 1) := by decide +kernel
theorem dX3_lastsAheadOf_17 : decode cX3_lastsAheadOf 17 = .ok (.getfield 19, 3) := by decide +kernel
theorem dX3_lastsAheadOf_20 : decode cX3_lastsAheadOf 20 = .ok (.iload 5, 2) := by decide +kernel
theorem dX3_lastsAheadOf_22 : decode cX3_lastsAheadOf 22 = .ok (.iaload, 1) := by decide +kernel
theorem dX3_lastsAheadOf_23 : decode cX3_lastsAheadOf 23 = .ok (.ifCond .eq 12, 3) := by decide +kernel
theorem dX3_lastsAheadOf_26 : decode cX3_lastsAheadOf 26 = .ok (.aload_n 0, 1) := by decide +kernel
theorem dX3_lastsAheadOf_27 : decode cX3_lastsAheadOf 27 = .ok (.getfield 19, 3) := by decide +kernel
theorem dX3_lastsAheadOf_30 : decode cX3_lastsAheadOf 30 = .ok (.iload 5, 2) := by decide +kernel
theorem dX3_lastsAheadOf_32 : decode cX3_lastsAheadOf 32 = .ok (.iaload, 1) := by decide +kernel
theorem dX3_lastsAheadOf_33 : decode cX3_lastsAheadOf 33 = .ok (.istore 4, 2) := by decide +kernel
theorem dX3_lastsAheadOf_35 : decode cX3_lastsAheadOf 35 = .ok (.lload_n 2, 1) := by decide +kernel
theorem dX3_lastsAheadOf_36 : decode cX3_lastsAheadOf 36 = .ok (.iload 4, 2) := by decide +kernel
theorem dX3_lastsAheadOf_38 : decode cX3_lastsAheadOf 38 = .ok (.i2l, 1) := by decide +kernel
theorem dX3_lastsAheadOf_39 : decode cX3_lastsAheadOf 39 = .ok (.ladd, 1) := by decide +kernel
theorem dX3_lastsAheadOf_40 : decode cX3_lastsAheadOf 40 = .ok (.lstore_n 2, 1) := by decide +kernel
theorem dX3_lastsAheadOf_41 : decode cX3_lastsAheadOf 41 = .ok (.iinc 5 1, 3) := by decide +kernel
theorem dX3_lastsAheadOf_44 : decode cX3_lastsAheadOf 44 = .ok (.goto (-34), 3) := by decide +kernel
theorem dX3_lastsAheadOf_47 : decode cX3_lastsAheadOf 47 = .ok (.lload_n 2, 1) := by decide +kernel
theorem dX3_lastsAheadOf_48 : decode cX3_lastsAheadOf 48 = .ok (.lreturn, 1) := by decide +kernel
theorem dX3_freeRooms_0 : decode cX3_freeRooms 0 = .ok (.iconst 0, 1) := by decide +kernel
theorem dX3_freeRooms_1 : decode cX3_freeRooms 1 = .ok (.istore_n 1, 1) := by decide +kernel
theorem dX3_freeRooms_2 : decode cX3_freeRooms 2 = .ok (.iload_n 1, 1) := by decide +kernel
theorem dX3_freeRooms_3 : decode cX3_freeRooms 3 = .ok (.iconst 3, 1) := by decide +kernel
theorem dX3_freeRooms_4 : decode cX3_freeRooms 4 = .ok (.if_icmp .ge 19, 3) := by decide +kernel
theorem dX3_freeRooms_7 : decode cX3_freeRooms 7 = .ok (.aload_n 0, 1) := by decide +kernel
theorem dX3_freeRooms_8 : decode cX3_freeRooms 8 = .ok (.getfield 25, 3) := by decide +kernel
theorem dX3_freeRooms_11 : decode cX3_freeRooms 11 = .ok (.iload_n 1, 1) := by decide +kernel
theorem dX3_freeRooms_12 : decode cX3_freeRooms 12 = .ok (.aaload, 1) := by decide +kernel
theorem dX3_freeRooms_13 : decode cX3_freeRooms 13 = .ok (.iconst (-1), 1) := by decide +kernel
theorem dX3_freeRooms_14 : decode cX3_freeRooms 14 = .ok (.invokestatic 261, 3) := by decide +kernel
theorem dX3_freeRooms_17 : decode cX3_freeRooms 17 = .ok (.iinc 1 1, 3) := by decide +kernel
theorem dX3_freeRooms_20 : decode cX3_freeRooms 20 = .ok (.goto (-18), 3) := by decide +kernel
theorem dX3_freeRooms_23 : decode cX3_freeRooms 23 = .ok (.return_, 1) := by decide +kernel
theorem dX3_takesPart_0 : decode cX3_takesPart 0 = .ok (.iload_n 0, 1) := by decide +kernel
theorem dX3_takesPart_1 : decode cX3_takesPart 1 = .ok (.iload_n 1, 1) := by decide +kernel
theorem dX3_takesPart_2 : decode cX3_takesPart 2 = .ok (.ishr, 1) := by decide +kernel
theorem dX3_takesPart_3 : decode cX3_takesPart 3 = .ok (.iconst 1, 1) := by decide +kernel
theorem dX3_takesPart_4 : decode cX3_takesPart 4 = .ok (.iand, 1) := by decide +kernel
theorem dX3_takesPart_5 : decode cX3_takesPart 5 = .ok (.ifCond .eq 7, 3) := by decide +kernel
theorem dX3_takesPart_8 : decode cX3_takesPart 8 = .ok (.iconst 1, 1) := by decide +kernel
theorem dX3_takesPart_9 : decode cX3_takesPart 9 = .ok (.goto 4, 3) := by decide +kernel
theorem dX3_takesPart_12 : decode cX3_takesPart 12 = .ok (.iconst 0, 1) := by decide +kernel
theorem dX3_takesPart_13 : decode cX3_takesPart 13 = .ok (.ireturn, 1) := by decide +kernel
theorem dX3_partsIn_0 : decode cX3_partsIn 0 = .ok (.iconst 0, 1) := by decide +kernel
theorem dX3_partsIn_1 : decode cX3_partsIn 1 = .ok (.istore_n 3, 1) := by decide +kernel
theorem dX3_partsIn_2 : decode cX3_partsIn 2 = .ok (.iconst 0, 1) := by decide +kernel
theorem dX3_partsIn_3 : decode cX3_partsIn 3 = .ok (.istore 4, 2) := by decide +kernel
theorem dX3_partsIn_5 : decode cX3_partsIn 5 = .ok (.iload 4, 2) := by decide +kernel
theorem dX3_partsIn_7 : decode cX3_partsIn 7 = .ok (.aload_n 0, 1) := by decide +kernel
theorem dX3_partsIn_8 : decode cX3_partsIn 8 = .ok (.getfield 10, 3) := by decide +kernel
theorem dX3_partsIn_11 : decode cX3_partsIn 11 = .ok (.invokevirtual 46, 3) := by decide +kernel
theorem dX3_partsIn_14 : decode cX3_partsIn 14 = .ok (.if_icmp .ge 36, 3) := by decide +kernel
theorem dX3_partsIn_17 : decode cX3_partsIn 17 = .ok (.aload_n 0, 1) := by decide +kernel
theorem dX3_partsIn_18 : decode cX3_partsIn 18 = .ok (.iload 4, 2) := by decide +kernel
theorem dX3_partsIn_20 : decode cX3_partsIn 20 = .ok (.invokevirtual 126, 3) := by decide +kernel
theorem dX3_partsIn_23 : decode cX3_partsIn 23 = .ok (.ifCond .ne 21, 3) := by decide +kernel
theorem dX3_partsIn_26 : decode cX3_partsIn 26 = .ok (.aload_n 0, 1) := by decide +kernel
theorem dX3_partsIn_27 : decode cX3_partsIn 27 = .ok (.iload 4, 2) := by decide +kernel
theorem dX3_partsIn_29 : decode cX3_partsIn 29 = .ok (.iload_n 1, 1) := by decide +kernel
theorem dX3_partsIn_30 : decode cX3_partsIn 30 = .ok (.iload_n 2, 1) := by decide +kernel
theorem dX3_partsIn_31 : decode cX3_partsIn 31 = .ok (.invokevirtual 267, 3) := by decide +kernel
theorem dX3_partsIn_34 : decode cX3_partsIn 34 = .ok (.ifCond .le 10, 3) := by decide +kernel
theorem dX3_partsIn_37 : decode cX3_partsIn 37 = .ok (.iload_n 3, 1) := by decide +kernel
theorem dX3_partsIn_38 : decode cX3_partsIn 38 = .ok (.iconst 1, 1) := by decide +kernel
theorem dX3_partsIn_39 : decode cX3_partsIn 39 = .ok (.iload 4, 2) := by decide +kernel
theorem dX3_partsIn_41 : decode cX3_partsIn 41 = .ok (.ishl, 1) := by decide +kernel
theorem dX3_partsIn_42 : decode cX3_partsIn 42 = .ok (.ior, 1) := by decide +kernel
theorem dX3_partsIn_43 : decode cX3_partsIn 43 = .ok (.istore_n 3, 1) := by decide +kernel
theorem dX3_partsIn_44 : decode cX3_partsIn 44 = .ok (.iinc 4 1, 3) := by decide +kernel
theorem dX3_partsIn_47 : decode cX3_partsIn 47 = .ok (.goto (-42), 3) := by decide +kernel
theorem dX3_partsIn_50 : decode cX3_partsIn 50 = .ok (.iload_n 3, 1) := by decide +kernel
theorem dX3_partsIn_51 : decode cX3_partsIn 51 = .ok (.ireturn, 1) := by decide +kernel
theorem dX3_pointsFor_0 : decode cX3_pointsFor 0 = .ok (.aload_n 0, 1) := by decide +kernel
theorem dX3_pointsFor_1 : decode cX3_pointsFor 1 = .ok (.getfield 10, 3) := by decide +kernel
theorem dX3_pointsFor_4 : decode cX3_pointsFor 4 = .ok (.iload_n 1, 1) := by decide +kernel
theorem dX3_pointsFor_5 : decode cX3_pointsFor 5 = .ok (.invokevirtual 85, 3) := by decide +kernel
theorem dX3_pointsFor_8 : decode cX3_pointsFor 8 = .ok (.checkcast 61, 3) := by decide +kernel
theorem dX3_pointsFor_11 : decode cX3_pointsFor 11 = .ok (.astore 4, 2) := by decide +kernel
theorem dX3_pointsFor_13 : decode cX3_pointsFor 13 = .ok (.aload 4, 2) := by decide +kernel
theorem dX3_pointsFor_15 : decode cX3_pointsFor 15 = .ok (.getfield 95, 3) := by decide +kernel
theorem dX3_pointsFor_18 : decode cX3_pointsFor 18 = .ok (.iload_n 2, 1) := by decide +kernel
theorem dX3_pointsFor_19 : decode cX3_pointsFor 19 = .ok (.iload_n 3, 1) := by decide +kernel
theorem dX3_pointsFor_20 : decode cX3_pointsFor 20 = .ok (.invokevirtual 270, 3) := by decide +kernel
theorem dX3_pointsFor_23 : decode cX3_pointsFor 23 = .ok (.aload 4, 2) := by decide +kernel
theorem dX3_pointsFor_25 : decode cX3_pointsFor 25 = .ok (.getfield 104, 3) := by decide +kernel
theorem dX3_pointsFor_28 : decode cX3_pointsFor 28 = .ok (.iload_n 2, 1) := by decide +kernel
theorem dX3_pointsFor_29 : decode cX3_pointsFor 29 = .ok (.iload_n 3, 1) := by decide +kernel
theorem dX3_pointsFor_30 : decode cX3_pointsFor 30 = .ok (.invokevirtual 270, 3) := by decide +kernel
theorem dX3_pointsFor_33 : decode cX3_pointsFor 33 = .ok (.iadd, 1) := by decide +kernel
theorem dX3_pointsFor_34 : decode cX3_pointsFor 34 = .ok (.iconst 5, 1) := by decide +kernel
theorem dX3_pointsFor_35 : decode cX3_pointsFor 35 = .ok (.aload_n 0, 1) := by decide +kernel
theorem dX3_pointsFor_36 : decode cX3_pointsFor 36 = .ok (.iload_n 1, 1) := by decide +kernel
theorem dX3_pointsFor_37 : decode cX3_pointsFor 37 = .ok (.iload_n 2, 1) := by decide +kernel
theorem dX3_pointsFor_38 : decode cX3_pointsFor 38 = .ok (.iload_n 3, 1) := by decide +kernel
theorem dX3_pointsFor_39 : decode cX3_pointsFor 39 = .ok (.invokevirtual 254, 3) := by decide +kernel
theorem dX3_pointsFor_42 : decode cX3_pointsFor 42 = .ok (.imul, 1) := by decide +kernel
theorem dX3_pointsFor_43 : decode cX3_pointsFor 43 = .ok (.iadd, 1) := by decide +kernel
theorem dX3_pointsFor_44 : decode cX3_pointsFor 44 = .ok (.ireturn, 1) := by decide +kernel
theorem dX3_isAnyBusy_0 : decode cX3_isAnyBusy 0 = .ok (.iconst 0, 1) := by decide +kernel
theorem dX3_isAnyBusy_1 : decode cX3_isAnyBusy 1 = .ok (.istore_n 3, 1) := by decide +kernel
theorem dX3_isAnyBusy_2 : decode cX3_isAnyBusy 2 = .ok (.iload_n 3, 1) := by decide +kernel
theorem dX3_isAnyBusy_3 : decode cX3_isAnyBusy 3 = .ok (.iconst 3, 1) := by decide +kernel
theorem dX3_isAnyBusy_4 : decode cX3_isAnyBusy 4 = .ok (.if_icmp .ge 37, 3) := by decide +kernel
theorem dX3_isAnyBusy_7 : decode cX3_isAnyBusy 7 = .ok (.aload_n 0, 1) := by decide +kernel
theorem dX3_isAnyBusy_8 : decode cX3_isAnyBusy 8 = .ok (.getfield 25, 3) := by decide +kernel
theorem dX3_isAnyBusy_11 : decode cX3_isAnyBusy 11 = .ok (.iload_n 3, 1) := by decide +kernel
theorem dX3_isAnyBusy_12 : decode cX3_isAnyBusy 12 = .ok (.aaload, 1) := by decide +kernel
theorem dX3_isAnyBusy_13 : decode cX3_isAnyBusy 13 = .ok (.iload_n 2, 1) := by decide +kernel
theorem dX3_isAnyBusy_14 : decode cX3_isAnyBusy 14 = .ok (.bipush 8, 2) := by decide +kernel
theorem dX3_isAnyBusy_16 : decode cX3_isAnyBusy 16 = .ok (.isub, 1) := by decide +kernel
theorem dX3_isAnyBusy_17 : decode cX3_isAnyBusy 17 = .ok (.iaload, 1) := by decide +kernel
theorem dX3_isAnyBusy_18 : decode cX3_isAnyBusy 18 = .ok (.istore 4, 2) := by decide +kernel
theorem dX3_isAnyBusy_20 : decode cX3_isAnyBusy 20 = .ok (.iload 4, 2) := by decide +kernel
theorem dX3_isAnyBusy_22 : decode cX3_isAnyBusy 22 = .ok (.iconst (-1), 1) := by decide +kernel
theorem dX3_isAnyBusy_23 : decode cX3_isAnyBusy 23 = .ok (.if_icmp .eq 12, 3) := by decide +kernel
theorem dX3_isAnyBusy_26 : decode cX3_isAnyBusy 26 = .ok (.iload 4, 2) := by decide +kernel
theorem dX3_isAnyBusy_28 : decode cX3_isAnyBusy 28 = .ok (.iload_n 1, 1) := by decide +kernel
theorem dX3_isAnyBusy_29 : decode cX3_isAnyBusy 29 = .ok (.iand, 1) := by decide +kernel
theorem dX3_isAnyBusy_30 : decode cX3_isAnyBusy 30 = .ok (.ifCond .eq 5, 3) := by decide +kernel
theorem dX3_isAnyBusy_33 : decode cX3_isAnyBusy 33 = .ok (.iconst 1, 1) := by decide +kernel
theorem dX3_isAnyBusy_34 : decode cX3_isAnyBusy 34 = .ok (.ireturn, 1) := by decide +kernel
theorem dX3_isAnyBusy_35 : decode cX3_isAnyBusy 35 = .ok (.iinc 3 1, 3) := by decide +kernel
theorem dX3_isAnyBusy_38 : decode cX3_isAnyBusy 38 = .ok (.goto (-36), 3) := by decide +kernel
theorem dX3_isAnyBusy_41 : decode cX3_isAnyBusy 41 = .ok (.iconst 0, 1) := by decide +kernel
theorem dX3_isAnyBusy_42 : decode cX3_isAnyBusy 42 = .ok (.ireturn, 1) := by decide +kernel
theorem dX3_canKneesBear_0 : decode cX3_canKneesBear 0 = .ok (.iconst 0, 1) := by decide +kernel
theorem dX3_canKneesBear_1 : decode cX3_canKneesBear 1 = .ok (.istore 4, 2) := by decide +kernel
theorem dX3_canKneesBear_3 : decode cX3_canKneesBear 3 = .ok (.iload 4, 2) := by decide +kernel
theorem dX3_canKneesBear_5 : decode cX3_canKneesBear 5 = .ok (.aload_n 0, 1) := by decide +kernel
theorem dX3_canKneesBear_6 : decode cX3_canKneesBear 6 = .ok (.getfield 10, 3) := by decide +kernel
theorem dX3_canKneesBear_9 : decode cX3_canKneesBear 9 = .ok (.invokevirtual 46, 3) := by decide +kernel
theorem dX3_canKneesBear_12 : decode cX3_canKneesBear 12 = .ok (.if_icmp .ge 49, 3) := by decide +kernel
theorem dX3_canKneesBear_15 : decode cX3_canKneesBear 15 = .ok (.iload_n 1, 1) := by decide +kernel
theorem dX3_canKneesBear_16 : decode cX3_canKneesBear 16 = .ok (.iload 4, 2) := by decide +kernel
theorem dX3_canKneesBear_18 : decode cX3_canKneesBear 18 = .ok (.invokestatic 273, 3) := by decide +kernel
theorem dX3_canKneesBear_21 : decode cX3_canKneesBear 21 = .ok (.ifCond .eq 34, 3) := by decide +kernel
theorem dX3_canKneesBear_24 : decode cX3_canKneesBear 24 = .ok (.aload_n 0, 1) := by decide +kernel
theorem dX3_canKneesBear_25 : decode cX3_canKneesBear 25 = .ok (.getfield 10, 3) := by decide +kernel
theorem dX3_canKneesBear_28 : decode cX3_canKneesBear 28 = .ok (.iload 4, 2) := by decide +kernel
theorem dX3_canKneesBear_30 : decode cX3_canKneesBear 30 = .ok (.invokevirtual 85, 3) := by decide +kernel
theorem dX3_canKneesBear_33 : decode cX3_canKneesBear 33 = .ok (.checkcast 61, 3) := by decide +kernel
theorem dX3_canKneesBear_36 : decode cX3_canKneesBear 36 = .ok (.getfield 202, 3) := by decide +kernel
theorem dX3_canKneesBear_39 : decode cX3_canKneesBear 39 = .ok (.aload_n 0, 1) := by decide +kernel
theorem dX3_canKneesBear_40 : decode cX3_canKneesBear 40 = .ok (.iload 4, 2) := by decide +kernel
theorem dX3_canKneesBear_42 : decode cX3_canKneesBear 42 = .ok (.iload_n 2, 1) := by decide +kernel
theorem dX3_canKneesBear_43 : decode cX3_canKneesBear 43 = .ok (.iload_n 3, 1) := by decide +kernel
theorem dX3_canKneesBear_44 : decode cX3_canKneesBear 44 = .ok (.invokevirtual 267, 3) := by decide +kernel
theorem dX3_canKneesBear_47 : decode cX3_canKneesBear 47 = .ok (.iadd, 1) := by decide +kernel
theorem dX3_canKneesBear_48 : decode cX3_canKneesBear 48 = .ok (.bipush 60, 2) := by decide +kernel
theorem dX3_canKneesBear_50 : decode cX3_canKneesBear 50 = .ok (.if_icmp .le 5, 3) := by decide +kernel
theorem dX3_canKneesBear_53 : decode cX3_canKneesBear 53 = .ok (.iconst 0, 1) := by decide +kernel
theorem dX3_canKneesBear_54 : decode cX3_canKneesBear 54 = .ok (.ireturn, 1) := by decide +kernel
theorem dX3_canKneesBear_55 : decode cX3_canKneesBear 55 = .ok (.iinc 4 1, 3) := by decide +kernel
theorem dX3_canKneesBear_58 : decode cX3_canKneesBear 58 = .ok (.goto (-55), 3) := by decide +kernel
theorem dX3_canKneesBear_61 : decode cX3_canKneesBear 61 = .ok (.iconst 1, 1) := by decide +kernel
theorem dX3_canKneesBear_62 : decode cX3_canKneesBear 62 = .ok (.ireturn, 1) := by decide +kernel
theorem dX3_chargeKnees_0 : decode cX3_chargeKnees 0 = .ok (.iconst 0, 1) := by decide +kernel
theorem dX3_chargeKnees_1 : decode cX3_chargeKnees 1 = .ok (.istore 4, 2) := by decide +kernel
theorem dX3_chargeKnees_3 : decode cX3_chargeKnees 3 = .ok (.iload 4, 2) := by decide +kernel
theorem dX3_chargeKnees_5 : decode cX3_chargeKnees 5 = .ok (.aload_n 0, 1) := by decide +kernel
theorem dX3_chargeKnees_6 : decode cX3_chargeKnees 6 = .ok (.getfield 10, 3) := by decide +kernel
theorem dX3_chargeKnees_9 : decode cX3_chargeKnees 9 = .ok (.invokevirtual 46, 3) := by decide +kernel
theorem dX3_chargeKnees_12 : decode cX3_chargeKnees 12 = .ok (.if_icmp .ge 46, 3) := by decide +kernel
theorem dX3_chargeKnees_15 : decode cX3_chargeKnees 15 = .ok (.iload_n 1, 1) := by decide +kernel
theorem dX3_chargeKnees_16 : decode cX3_chargeKnees 16 = .ok (.iload 4, 2) := by decide +kernel
theorem dX3_chargeKnees_18 : decode cX3_chargeKnees 18 = .ok (.invokestatic 273, 3) := by decide +kernel
theorem dX3_chargeKnees_21 : decode cX3_chargeKnees 21 = .ok (.ifCond .eq 31, 3) := by decide +kernel
theorem dX3_chargeKnees_24 : decode cX3_chargeKnees 24 = .ok (.aload_n 0, 1) := by decide +kernel
theorem dX3_chargeKnees_25 : decode cX3_chargeKnees 25 = .ok (.getfield 10, 3) := by decide +kernel
theorem dX3_chargeKnees_28 : decode cX3_chargeKnees 28 = .ok (.iload 4, 2) := by decide +kernel
theorem dX3_chargeKnees_30 : decode cX3_chargeKnees 30 = .ok (.invokevirtual 85, 3) := by decide +kernel
theorem dX3_chargeKnees_33 : decode cX3_chargeKnees 33 = .ok (.checkcast 61, 3) := by decide +kernel
theorem dX3_chargeKnees_36 : decode cX3_chargeKnees 36 = .ok (.dup, 1) := by decide +kernel
theorem dX3_chargeKnees_37 : decode cX3_chargeKnees 37 = .ok (.getfield 202, 3) := by decide +kernel
theorem dX3_chargeKnees_40 : decode cX3_chargeKnees 40 = .ok (.aload_n 0, 1) := by decide +kernel
theorem dX3_chargeKnees_41 : decode cX3_chargeKnees 41 = .ok (.iload 4, 2) := by decide +kernel
theorem dX3_chargeKnees_43 : decode cX3_chargeKnees 43 = .ok (.iload_n 2, 1) := by decide +kernel
theorem dX3_chargeKnees_44 : decode cX3_chargeKnees 44 = .ok (.iload_n 3, 1) := by decide +kernel
theorem dX3_chargeKnees_45 : decode cX3_chargeKnees 45 = .ok (.invokevirtual 267, 3) := by decide +kernel
theorem dX3_chargeKnees_48 : decode cX3_chargeKnees 48 = .ok (.iadd, 1) := by decide +kernel
theorem dX3_chargeKnees_49 : decode cX3_chargeKnees 49 = .ok (.putfield 202, 3) := by decide +kernel
theorem dX3_chargeKnees_52 : decode cX3_chargeKnees 52 = .ok (.iinc 4 1, 3) := by decide +kernel
theorem dX3_chargeKnees_55 : decode cX3_chargeKnees 55 = .ok (.goto (-52), 3) := by decide +kernel
theorem dX3_chargeKnees_58 : decode cX3_chargeKnees 58 = .ok (.return_, 1) := by decide +kernel
theorem dX3_dropLiftsOf_0 : decode cX3_dropLiftsOf 0 = .ok (.iconst 0, 1) := by decide +kernel
theorem dX3_dropLiftsOf_1 : decode cX3_dropLiftsOf 1 = .ok (.istore_n 2, 1) := by decide +kernel
theorem dX3_dropLiftsOf_2 : decode cX3_dropLiftsOf 2 = .ok (.iload_n 2, 1) := by decide +kernel
theorem dX3_dropLiftsOf_3 : decode cX3_dropLiftsOf 3 = .ok (.aload_n 0, 1) := by decide +kernel
theorem dX3_dropLiftsOf_4 : decode cX3_dropLiftsOf 4 = .ok (.getfield 16, 3) := by decide +kernel
theorem dX3_dropLiftsOf_7 : decode cX3_dropLiftsOf 7 = .ok (.invokevirtual 46, 3) := by decide +kernel
theorem dX3_dropLiftsOf_10 : decode cX3_dropLiftsOf 10 = .ok (.if_icmp .ge 34, 3) := by decide +kernel
theorem dX3_dropLiftsOf_13 : decode cX3_dropLiftsOf 13 = .ok (.aload_n 0, 1) := by decide +kernel
theorem dX3_dropLiftsOf_14 : decode cX3_dropLiftsOf 14 = .ok (.getfield 16, 3) := by decide +kernel
theorem dX3_dropLiftsOf_17 : decode cX3_dropLiftsOf 17 = .ok (.iload_n 2, 1) := by decide +kernel
theorem dX3_dropLiftsOf_18 : decode cX3_dropLiftsOf 18 = .ok (.invokevirtual 85, 3) := by decide +kernel
theorem dX3_dropLiftsOf_21 : decode cX3_dropLiftsOf 21 = .ok (.checkcast 131, 3) := by decide +kernel
theorem dX3_dropLiftsOf_24 : decode cX3_dropLiftsOf 24 = .ok (.astore_n 3, 1) := by decide +kernel
theorem dX3_dropLiftsOf_25 : decode cX3_dropLiftsOf 25 = .ok (.aload_n 3, 1) := by decide +kernel
theorem dX3_dropLiftsOf_26 : decode cX3_dropLiftsOf 26 = .ok (.getfield 143, 3) := by decide +kernel
theorem dX3_dropLiftsOf_29 : decode cX3_dropLiftsOf 29 = .ok (.iload_n 1, 1) := by decide +kernel
theorem dX3_dropLiftsOf_30 : decode cX3_dropLiftsOf 30 = .ok (.if_icmp .ne 8, 3) := by decide +kernel
theorem dX3_dropLiftsOf_33 : decode cX3_dropLiftsOf 33 = .ok (.aload_n 3, 1) := by decide +kernel
theorem dX3_dropLiftsOf_34 : decode cX3_dropLiftsOf 34 = .ok (.iconst 1, 1) := by decide +kernel
theorem dX3_dropLiftsOf_35 : decode cX3_dropLiftsOf 35 = .ok (.putfield 213, 3) := by decide +kernel
theorem dX3_dropLiftsOf_38 : decode cX3_dropLiftsOf 38 = .ok (.iinc 2 1, 3) := by decide +kernel
theorem dX3_dropLiftsOf_41 : decode cX3_dropLiftsOf 41 = .ok (.goto (-39), 3) := by decide +kernel
theorem dX3_dropLiftsOf_44 : decode cX3_dropLiftsOf 44 = .ok (.return_, 1) := by decide +kernel
theorem dX3_replaceIn_0 : decode cX3_replaceIn 0 = .ok (.iconst (-1), 1) := by decide +kernel
theorem dX3_replaceIn_1 : decode cX3_replaceIn 1 = .ok (.istore_n 3, 1) := by decide +kernel
theorem dX3_replaceIn_2 : decode cX3_replaceIn 2 = .ok (.iconst 3, 1) := by decide +kernel
theorem dX3_replaceIn_3 : decode cX3_replaceIn 3 = .ok (.istore 4, 2) := by decide +kernel
theorem dX3_replaceIn_5 : decode cX3_replaceIn 5 = .ok (.iconst 0, 1) := by decide +kernel
theorem dX3_replaceIn_6 : decode cX3_replaceIn 6 = .ok (.istore 5, 2) := by decide +kernel
theorem dX3_replaceIn_8 : decode cX3_replaceIn 8 = .ok (.iload 5, 2) := by decide +kernel
theorem dX3_replaceIn_10 : decode cX3_replaceIn 10 = .ok (.aload_n 0, 1) := by decide +kernel
theorem dX3_replaceIn_11 : decode cX3_replaceIn 11 = .ok (.getfield 10, 3) := by decide +kernel
theorem dX3_replaceIn_14 : decode cX3_replaceIn 14 = .ok (.invokevirtual 46, 3) := by decide +kernel
theorem dX3_replaceIn_17 : decode cX3_replaceIn 17 = .ok (.if_icmp .ge 33, 3) := by decide +kernel
theorem dX3_replaceIn_20 : decode cX3_replaceIn 20 = .ok (.aload_n 0, 1) := by decide +kernel
theorem dX3_replaceIn_21 : decode cX3_replaceIn 21 = .ok (.aload_n 1, 1) := by decide +kernel
theorem dX3_replaceIn_22 : decode cX3_replaceIn 22 = .ok (.iload_n 2, 1) := by decide +kernel
theorem dX3_replaceIn_23 : decode cX3_replaceIn 23 = .ok (.iload 5, 2) := by decide +kernel
theorem dX3_replaceIn_25 : decode cX3_replaceIn 25 = .ok (.invokevirtual 276, 3) := by decide +kernel
theorem dX3_replaceIn_28 : decode cX3_replaceIn 28 = .ok (.istore 6, 2) := by decide +kernel
theorem dX3_replaceIn_30 : decode cX3_replaceIn 30 = .ok (.iload 6, 2) := by decide +kernel
theorem dX3_replaceIn_32 : decode cX3_replaceIn 32 = .ok (.iload 4, 2) := by decide +kernel
theorem dX3_replaceIn_34 : decode cX3_replaceIn 34 = .ok (.if_icmp .ge 10, 3) := by decide +kernel
theorem dX3_replaceIn_37 : decode cX3_replaceIn 37 = .ok (.iload 5, 2) := by decide +kernel
theorem dX3_replaceIn_39 : decode cX3_replaceIn 39 = .ok (.istore_n 3, 1) := by decide +kernel
theorem dX3_replaceIn_40 : decode cX3_replaceIn 40 = .ok (.iload 6, 2) := by decide +kernel
theorem dX3_replaceIn_42 : decode cX3_replaceIn 42 = .ok (.istore 4, 2) := by decide +kernel
theorem dX3_replaceIn_44 : decode cX3_replaceIn 44 = .ok (.iinc 5 1, 3) := by decide +kernel
theorem dX3_replaceIn_47 : decode cX3_replaceIn 47 = .ok (.goto (-39), 3) := by decide +kernel
