theorem dX0_init_0 : decode cX0_init 0 = .ok (.aload_n 0, 1) := by decide +kernel
theorem dX0_init_1 : decode cX0_init 1 = .ok (.invokespecial 3, 3) := by decide +kernel
theorem dX0_init_4 : decode cX0_init 4 = .ok (.aload_n 0, 1) := by decide +kernel
theorem dX0_init_5 : decode cX0_init 5 = .ok (.new 9, 3) := by decide +kernel
theorem dX0_init_8 : decode cX0_init 8 = .ok (.dup, 1) := by decide +kernel
theorem dX0_init_9 : decode cX0_init 9 = .ok (.bipush 12, 2) := by decide +kernel
theorem dX0_init_11 : decode cX0_init 11 = .ok (.invokespecial 11, 3) := by decide +kernel
theorem dX0_init_14 : decode cX0_init 14 = .ok (.putfield 14, 3) := by decide +kernel
theorem dX0_init_17 : decode cX0_init 17 = .ok (.aload_n 0, 1) := by decide +kernel
theorem dX0_init_18 : decode cX0_init 18 = .ok (.new 9, 3) := by decide +kernel
theorem dX0_init_21 : decode cX0_init 21 = .ok (.dup, 1) := by decide +kernel
theorem dX0_init_22 : decode cX0_init 22 = .ok (.bipush 12, 2) := by decide +kernel
theorem dX0_init_24 : decode cX0_init 24 = .ok (.invokespecial 11, 3) := by decide +kernel
theorem dX0_init_27 : decode cX0_init 27 = .ok (.putfield 20, 3) := by decide +kernel
theorem dX0_init_30 : decode cX0_init 30 = .ok (.aload_n 0, 1) := by decide +kernel
theorem dX0_init_31 : decode cX0_init 31 = .ok (.new 9, 3) := by decide +kernel
theorem dX0_init_34 : decode cX0_init 34 = .ok (.dup, 1) := by decide +kernel
theorem dX0_init_35 : decode cX0_init 35 = .ok (.bipush 12, 2) := by decide +kernel
theorem dX0_init_37 : decode cX0_init 37 = .ok (.invokespecial 11, 3) := by decide +kernel
theorem dX0_init_40 : decode cX0_init 40 = .ok (.putfield 23, 3) := by decide +kernel
theorem dX0_init_43 : decode cX0_init 43 = .ok (.return_, 1) := by decide +kernel
theorem dX0_lines_0 : decode cX0_lines 0 = .ok (.aload_n 0, 1) := by decide +kernel
theorem dX0_lines_1 : decode cX0_lines 1 = .ok (.getfield 26, 3) := by decide +kernel
theorem dX0_lines_4 : decode cX0_lines 4 = .ok (.ireturn, 1) := by decide +kernel
theorem dX0_isFull_0 : decode cX0_isFull 0 = .ok (.aload_n 0, 1) := by decide +kernel
theorem dX0_isFull_1 : decode cX0_isFull 1 = .ok (.getfield 26, 3) := by decide +kernel
theorem dX0_isFull_4 : decode cX0_isFull 4 = .ok (.bipush 12, 2) := by decide +kernel
theorem dX0_isFull_6 : decode cX0_isFull 6 = .ok (.if_icmp .lt 7, 3) := by decide +kernel
theorem dX0_isFull_9 : decode cX0_isFull 9 = .ok (.iconst 1, 1) := by decide +kernel
theorem dX0_isFull_10 : decode cX0_isFull 10 = .ok (.goto 4, 3) := by decide +kernel
theorem dX0_isFull_13 : decode cX0_isFull 13 = .ok (.iconst 0, 1) := by decide +kernel
theorem dX0_isFull_14 : decode cX0_isFull 14 = .ok (.ireturn, 1) := by decide +kernel
theorem dX0_wipe_0 : decode cX0_wipe 0 = .ok (.aload_n 0, 1) := by decide +kernel
theorem dX0_wipe_1 : decode cX0_wipe 1 = .ok (.iconst 0, 1) := by decide +kernel
theorem dX0_wipe_2 : decode cX0_wipe 2 = .ok (.putfield 26, 3) := by decide +kernel
theorem dX0_wipe_5 : decode cX0_wipe 5 = .ok (.return_, 1) := by decide +kernel
theorem dX0_add_0 : decode cX0_add 0 = .ok (.aload_n 0, 1) := by decide +kernel
theorem dX0_add_1 : decode cX0_add 1 = .ok (.invokevirtual 30, 3) := by decide +kernel
theorem dX0_add_4 : decode cX0_add 4 = .ok (.ifCond .eq 4, 3) := by decide +kernel
theorem dX0_add_7 : decode cX0_add 7 = .ok (.return_, 1) := by decide +kernel
theorem dX0_add_8 : decode cX0_add 8 = .ok (.aload_n 0, 1) := by decide +kernel
theorem dX0_add_9 : decode cX0_add 9 = .ok (.getfield 14, 3) := by decide +kernel
theorem dX0_add_12 : decode cX0_add 12 = .ok (.aload_n 0, 1) := by decide +kernel
theorem dX0_add_13 : decode cX0_add 13 = .ok (.getfield 26, 3) := by decide +kernel
theorem dX0_add_16 : decode cX0_add 16 = .ok (.iload_n 1, 1) := by decide +kernel
theorem dX0_add_17 : decode cX0_add 17 = .ok (.invokevirtual 34, 3) := by decide +kernel
theorem dX0_add_20 : decode cX0_add 20 = .ok (.aload_n 0, 1) := by decide +kernel
theorem dX0_add_21 : decode cX0_add 21 = .ok (.getfield 20, 3) := by decide +kernel
theorem dX0_add_24 : decode cX0_add 24 = .ok (.aload_n 0, 1) := by decide +kernel
theorem dX0_add_25 : decode cX0_add 25 = .ok (.getfield 26, 3) := by decide +kernel
theorem dX0_add_28 : decode cX0_add 28 = .ok (.iload_n 2, 1) := by decide +kernel
theorem dX0_add_29 : decode cX0_add 29 = .ok (.invokevirtual 34, 3) := by decide +kernel
theorem dX0_add_32 : decode cX0_add 32 = .ok (.aload_n 0, 1) := by decide +kernel
theorem dX0_add_33 : decode cX0_add 33 = .ok (.getfield 23, 3) := by decide +kernel
theorem dX0_add_36 : decode cX0_add 36 = .ok (.aload_n 0, 1) := by decide +kernel
theorem dX0_add_37 : decode cX0_add 37 = .ok (.getfield 26, 3) := by decide +kernel
theorem dX0_add_40 : decode cX0_add 40 = .ok (.iload_n 3, 1) := by decide +kernel
theorem dX0_add_41 : decode cX0_add 41 = .ok (.invokevirtual 34, 3) := by decide +kernel
theorem dX0_add_44 : decode cX0_add 44 = .ok (.aload_n 0, 1) := by decide +kernel
theorem dX0_add_45 : decode cX0_add 45 = .ok (.dup, 1) := by decide +kernel
theorem dX0_add_46 : decode cX0_add 46 = .ok (.getfield 26, 3) := by decide +kernel
theorem dX0_add_49 : decode cX0_add 49 = .ok (.iconst 1, 1) := by decide +kernel
theorem dX0_add_50 : decode cX0_add 50 = .ok (.iadd, 1) := by decide +kernel
theorem dX0_add_51 : decode cX0_add 51 = .ok (.putfield 26, 3) := by decide +kernel
theorem dX0_add_54 : decode cX0_add 54 = .ok (.return_, 1) := by decide +kernel
theorem dX0_dropLatest_0 : decode cX0_dropLatest 0 = .ok (.aload_n 0, 1) := by decide +kernel
theorem dX0_dropLatest_1 : decode cX0_dropLatest 1 = .ok (.getfield 26, 3) := by decide +kernel
theorem dX0_dropLatest_4 : decode cX0_dropLatest 4 = .ok (.ifCond .le 13, 3) := by decide +kernel
theorem dX0_dropLatest_7 : decode cX0_dropLatest 7 = .ok (.aload_n 0, 1) := by decide +kernel
theorem dX0_dropLatest_8 : decode cX0_dropLatest 8 = .ok (.dup, 1) := by decide +kernel
theorem dX0_dropLatest_9 : decode cX0_dropLatest 9 = .ok (.getfield 26, 3) := by decide +kernel
theorem dX0_dropLatest_12 : decode cX0_dropLatest 12 = .ok (.iconst 1, 1) := by decide +kernel
theorem dX0_dropLatest_13 : decode cX0_dropLatest 13 = .ok (.isub, 1) := by decide +kernel
theorem dX0_dropLatest_14 : decode cX0_dropLatest 14 = .ok (.putfield 26, 3) := by decide +kernel
theorem dX0_dropLatest_17 : decode cX0_dropLatest 17 = .ok (.return_, 1) := by decide +kernel
theorem dX0_copyFrom_0 : decode cX0_copyFrom 0 = .ok (.aload_n 0, 1) := by decide +kernel
theorem dX0_copyFrom_1 : decode cX0_copyFrom 1 = .ok (.getfield 14, 3) := by decide +kernel
theorem dX0_copyFrom_4 : decode cX0_copyFrom 4 = .ok (.aload_n 1, 1) := by decide +kernel
theorem dX0_copyFrom_5 : decode cX0_copyFrom 5 = .ok (.getfield 14, 3) := by decide +kernel
theorem dX0_copyFrom_8 : decode cX0_copyFrom 8 = .ok (.invokevirtual 38, 3) := by decide +kernel
theorem dX0_copyFrom_11 : decode cX0_copyFrom 11 = .ok (.aload_n 0, 1) := by decide +kernel
theorem dX0_copyFrom_12 : decode cX0_copyFrom 12 = .ok (.getfield 20, 3) := by decide +kernel
theorem dX0_copyFrom_15 : decode cX0_copyFrom 15 = .ok (.aload_n 1, 1) := by decide +kernel
theorem dX0_copyFrom_16 : decode cX0_copyFrom 16 = .ok (.getfield 20, 3) := by decide +kernel
theorem dX0_copyFrom_19 : decode cX0_copyFrom 19 = .ok (.invokevirtual 38, 3) := by decide +kernel
theorem dX0_copyFrom_22 : decode cX0_copyFrom 22 = .ok (.aload_n 0, 1) := by decide +kernel
theorem dX0_copyFrom_23 : decode cX0_copyFrom 23 = .ok (.getfield 23, 3) := by decide +kernel
theorem dX0_copyFrom_26 : decode cX0_copyFrom 26 = .ok (.aload_n 1, 1) := by decide +kernel
theorem dX0_copyFrom_27 : decode cX0_copyFrom 27 = .ok (.getfield 23, 3) := by decide +kernel
theorem dX0_copyFrom_30 : decode cX0_copyFrom 30 = .ok (.invokevirtual 38, 3) := by decide +kernel
theorem dX0_copyFrom_33 : decode cX0_copyFrom 33 = .ok (.aload_n 0, 1) := by decide +kernel
theorem dX0_copyFrom_34 : decode cX0_copyFrom 34 = .ok (.aload_n 1, 1) := by decide +kernel
theorem dX0_copyFrom_35 : decode cX0_copyFrom 35 = .ok (.getfield 26, 3) := by decide +kernel
theorem dX0_copyFrom_38 : decode cX0_copyFrom 38 = .ok (.putfield 26, 3) := by decide +kernel
theorem dX0_copyFrom_41 : decode cX0_copyFrom 41 = .ok (.return_, 1) := by decide +kernel
theorem dX0_setOf_0 : decode cX0_setOf 0 = .ok (.aload_n 0, 1) := by decide +kernel
theorem dX0_setOf_1 : decode cX0_setOf 1 = .ok (.getfield 14, 3) := by decide +kernel
theorem dX0_setOf_4 : decode cX0_setOf 4 = .ok (.iload_n 1, 1) := by decide +kernel
theorem dX0_setOf_5 : decode cX0_setOf 5 = .ok (.invokevirtual 42, 3) := by decide +kernel
theorem dX0_setOf_8 : decode cX0_setOf 8 = .ok (.ireturn, 1) := by decide +kernel
theorem dX0_shownOf_0 : decode cX0_shownOf 0 = .ok (.aload_n 0, 1) := by decide +kernel
theorem dX0_shownOf_1 : decode cX0_shownOf 1 = .ok (.getfield 20, 3) := by decide +kernel
theorem dX0_shownOf_4 : decode cX0_shownOf 4 = .ok (.iload_n 1, 1) := by decide +kernel
theorem dX0_shownOf_5 : decode cX0_shownOf 5 = .ok (.invokevirtual 42, 3) := by decide +kernel
theorem dX0_shownOf_8 : decode cX0_shownOf 8 = .ok (.ireturn, 1) := by decide +kernel
theorem dX0_laughOf_0 : decode cX0_laughOf 0 = .ok (.aload_n 0, 1) := by decide +kernel
theorem dX0_laughOf_1 : decode cX0_laughOf 1 = .ok (.getfield 23, 3) := by decide +kernel
theorem dX0_laughOf_4 : decode cX0_laughOf 4 = .ok (.iload_n 1, 1) := by decide +kernel
theorem dX0_laughOf_5 : decode cX0_laughOf 5 = .ok (.invokevirtual 42, 3) := by decide +kernel
theorem dX0_laughOf_8 : decode cX0_laughOf 8 = .ok (.ireturn, 1) := by decide +kernel
theorem dX0_linesWith_0 : decode cX0_linesWith 0 = .ok (.iconst 0, 1) := by decide +kernel
theorem dX0_linesWith_1 : decode cX0_linesWith 1 = .ok (.istore_n 2, 1) := by decide +kernel
theorem dX0_linesWith_2 : decode cX0_linesWith 2 = .ok (.iconst 0, 1) := by decide +kernel
theorem dX0_linesWith_3 : decode cX0_linesWith 3 = .ok (.istore_n 3, 1) := by decide +kernel
theorem dX0_linesWith_4 : decode cX0_linesWith 4 = .ok (.iload_n 3, 1) := by decide +kernel
theorem dX0_linesWith_5 : decode cX0_linesWith 5 = .ok (.aload_n 0, 1) := by decide +kernel
theorem dX0_linesWith_6 : decode cX0_linesWith 6 = .ok (.getfield 26, 3) := by decide +kernel
theorem dX0_linesWith_9 : decode cX0_linesWith 9 = .ok (.if_icmp .ge 21, 3) := by decide +kernel
theorem dX0_linesWith_12 : decode cX0_linesWith 12 = .ok (.iload_n 2, 1) := by decide +kernel
theorem dX0_linesWith_13 : decode cX0_linesWith 13 = .ok (.aload_n 0, 1) := by decide +kernel
theorem dX0_linesWith_14 : decode cX0_linesWith 14 = .ok (.iload_n 3, 1) := by decide +kernel
theorem dX0_linesWith_15 : decode cX0_linesWith 15 = .ok (.invokevirtual 46, 3) := by decide +kernel
theorem dX0_linesWith_18 : decode cX0_linesWith 18 = .ok (.iload_n 1, 1) := by decide +kernel
theorem dX0_linesWith_19 : decode cX0_linesWith 19 = .ok (.ishr, 1) := by decide +kernel
theorem dX0_linesWith_20 : decode cX0_linesWith 20 = .ok (.iconst 1, 1) := by decide +kernel
theorem dX0_linesWith_21 : decode cX0_linesWith 21 = .ok (.iand, 1) := by decide +kernel
theorem dX0_linesWith_22 : decode cX0_linesWith 22 = .ok (.iadd, 1) := by decide +kernel
theorem dX0_linesWith_23 : decode cX0_linesWith 23 = .ok (.istore_n 2, 1) := by decide +kernel
theorem dX0_linesWith_24 : decode cX0_linesWith 24 = .ok (.iinc 3 1, 3) := by decide +kernel
theorem dX0_linesWith_27 : decode cX0_linesWith 27 = .ok (.goto (-23), 3) := by decide +kernel
theorem dX0_linesWith_30 : decode cX0_linesWith 30 = .ok (.iload_n 2, 1) := by decide +kernel
theorem dX0_linesWith_31 : decode cX0_linesWith 31 = .ok (.ireturn, 1) := by decide +kernel
theorem dX0_unheardLines_0 : decode cX0_unheardLines 0 = .ok (.iconst 0, 1) := by decide +kernel
theorem dX0_unheardLines_1 : decode cX0_unheardLines 1 = .ok (.istore_n 1, 1) := by decide +kernel
theorem dX0_unheardLines_2 : decode cX0_unheardLines 2 = .ok (.iconst 0, 1) := by decide +kernel
theorem dX0_unheardLines_3 : decode cX0_unheardLines 3 = .ok (.istore_n 2, 1) := by decide +kernel
theorem dX0_unheardLines_4 : decode cX0_unheardLines 4 = .ok (.iload_n 2, 1) := by decide +kernel
theorem dX0_unheardLines_5 : decode cX0_unheardLines 5 = .ok (.aload_n 0, 1) := by decide +kernel
theorem dX0_unheardLines_6 : decode cX0_unheardLines 6 = .ok (.getfield 26, 3) := by decide +kernel
theorem dX0_unheardLines_9 : decode cX0_unheardLines 9 = .ok (.if_icmp .ge 21, 3) := by decide +kernel
theorem dX0_unheardLines_12 : decode cX0_unheardLines 12 = .ok (.aload_n 0, 1) := by decide +kernel
theorem dX0_unheardLines_13 : decode cX0_unheardLines 13 = .ok (.iload_n 2, 1) := by decide +kernel
theorem dX0_unheardLines_14 : decode cX0_unheardLines 14 = .ok (.invokevirtual 49, 3) := by decide +kernel
theorem dX0_unheardLines_17 : decode cX0_unheardLines 17 = .ok (.iconst 2, 1) := by decide +kernel
theorem dX0_unheardLines_18 : decode cX0_unheardLines 18 = .ok (.if_icmp .ne 6, 3) := by decide +kernel
theorem dX0_unheardLines_21 : decode cX0_unheardLines 21 = .ok (.iinc 1 1, 3) := by decide +kernel
theorem dX0_unheardLines_24 : decode cX0_unheardLines 24 = .ok (.iinc 2 1, 3) := by decide +kernel
theorem dX0_unheardLines_27 : decode cX0_unheardLines 27 = .ok (.goto (-23), 3) := by decide +kernel
theorem dX0_unheardLines_30 : decode cX0_unheardLines 30 = .ok (.iload_n 1, 1) := by decide +kernel
theorem dX0_unheardLines_31 : decode cX0_unheardLines 31 = .ok (.ireturn, 1) := by decide +kernel
theorem dX1_init_0 : decode cX1_init 0 = .ok (.aload_n 0, 1) := by decide +kernel
theorem dX1_init_1 : decode cX1_init 1 = .ok (.invokespecial 1, 3) := by decide +kernel
theorem dX1_init_4 : decode cX1_init 4 = .ok (.aload_n 0, 1) := by decide +kernel
theorem dX1_init_5 : decode cX1_init 5 = .ok (.new 7, 3) := by decide +kernel
theorem dX1_init_8 : decode cX1_init 8 = .ok (.dup, 1) := by decide +kernel
theorem dX1_init_9 : decode cX1_init 9 = .ok (.invokespecial 9, 3) := by decide +kernel
theorem dX1_init_12 : decode cX1_init 12 = .ok (.putfield 10, 3) := by decide +kernel
theorem dX1_init_15 : decode cX1_init 15 = .ok (.return_, 1) := by decide +kernel
theorem dX1_take_0 : decode cX1_take 0 = .ok (.aload_n 0, 1) := by decide +kernel
theorem dX1_take_1 : decode cX1_take 1 = .ok (.getfield 10, 3) := by decide +kernel
theorem dX1_take_4 : decode cX1_take 4 = .ok (.aload_n 1, 1) := by decide +kernel
theorem dX1_take_5 : decode cX1_take 5 = .ok (.invokevirtual 16, 3) := by decide +kernel
theorem dX1_take_8 : decode cX1_take 8 = .ok (.aload_n 0, 1) := by decide +kernel
theorem dX1_take_9 : decode cX1_take 9 = .ok (.iconst 1, 1) := by decide +kernel
theorem dX1_take_10 : decode cX1_take 10 = .ok (.putfield 20, 3) := by decide +kernel
theorem dX1_take_13 : decode cX1_take 13 = .ok (.return_, 1) := by decide +kernel
theorem dX1_drop_0 : decode cX1_drop 0 = .ok (.aload_n 0, 1) := by decide +kernel
theorem dX1_drop_1 : decode cX1_drop 1 = .ok (.iconst 0, 1) := by decide +kernel
theorem dX1_drop_2 : decode cX1_drop 2 = .ok (.putfield 20, 3) := by decide +kernel
theorem dX1_drop_5 : decode cX1_drop 5 = .ok (.return_, 1) := by decide +kernel
theorem dX1_isKept_0 : decode cX1_isKept 0 = .ok (.aload_n 0, 1) := by decide +kernel
theorem dX1_isKept_1 : decode cX1_isKept 1 = .ok (.getfield 20, 3) := by decide +kernel
theorem dX1_isKept_4 : decode cX1_isKept 4 = .ok (.ireturn, 1) := by decide +kernel
theorem dX1_kept_0 : decode cX1_kept 0 = .ok (.aload_n 0, 1) := by decide +kernel
theorem dX1_kept_1 : decode cX1_kept 1 = .ok (.getfield 10, 3) := by decide +kernel
theorem dX1_kept_4 : decode cX1_kept 4 = .ok (.areturn, 1) := by decide +kernel
theorem dX2_init_0 : decode cX2_init 0 = .ok (.aload_n 0, 1) := by decide +kernel
theorem dX2_init_1 : decode cX2_init 1 = .ok (.invokespecial 3, 3) := by decide +kernel
theorem dX2_init_4 : decode cX2_init 4 = .ok (.aload_n 0, 1) := by decide +kernel
theorem dX2_init_5 : decode cX2_init 5 = .ok (.aload_n 1, 1) := by decide +kernel
theorem dX2_init_6 : decode cX2_init 6 = .ok (.putfield 9, 3) := by decide +kernel
theorem dX2_init_9 : decode cX2_init 9 = .ok (.aload_n 0, 1) := by decide +kernel
theorem dX2_init_10 : decode cX2_init 10 = .ok (.aload_n 2, 1) := by decide +kernel
theorem dX2_init_11 : decode cX2_init 11 = .ok (.putfield 15, 3) := by decide +kernel
theorem dX2_init_14 : decode cX2_init 14 = .ok (.return_, 1) := by decide +kernel
theorem dX2_asked_0 : decode cX2_asked 0 = .ok (.aload_n 0, 1) := by decide +kernel
theorem dX2_asked_1 : decode cX2_asked 1 = .ok (.getfield 19, 3) := by decide +kernel
theorem dX2_asked_4 : decode cX2_asked 4 = .ok (.lreturn, 1) := by decide +kernel
theorem dX2_markAs_0 : decode cX2_markAs 0 = .ok (.iload_n 1, 1) := by decide +kernel
theorem dX2_markAs_1 : decode cX2_markAs 1 = .ok (.tableswitch 75 0 5 #[39, 45, 51, 57, 63, 69], 39) := by decide +kernel
theorem dX2_markAs_40 : decode cX2_markAs 40 = .ok (.aload_n 0, 1) := by decide +kernel
theorem dX2_markAs_41 : decode cX2_markAs 41 = .ok (.iload_n 2, 1) := by decide +kernel
theorem dX2_markAs_42 : decode cX2_markAs 42 = .ok (.invokevirtual 23, 3) := by decide +kernel
theorem dX2_markAs_45 : decode cX2_markAs 45 = .ok (.ireturn, 1) := by decide +kernel
theorem dX2_markAs_46 : decode cX2_markAs 46 = .ok (.aload_n 0, 1) := by decide +kernel
theorem dX2_markAs_47 : decode cX2_markAs 47 = .ok (.iload_n 2, 1) := by decide +kernel
theorem dX2_markAs_48 : decode cX2_markAs 48 = .ok (.invokevirtual 27, 3) := by decide +kernel
theorem dX2_markAs_51 : decode cX2_markAs 51 = .ok (.ireturn, 1) := by decide +kernel
theorem dX2_markAs_52 : decode cX2_markAs 52 = .ok (.aload_n 0, 1) := by decide +kernel
theorem dX2_markAs_53 : decode cX2_markAs 53 = .ok (.iload_n 2, 1) := by decide +kernel
theorem dX2_markAs_54 : decode cX2_markAs 54 = .ok (.invokevirtual 30, 3) := by decide +kernel
theorem dX2_markAs_57 : decode cX2_markAs 57 = .ok (.ireturn, 1) := by decide +kernel
theorem dX2_markAs_58 : decode cX2_markAs 58 = .ok (.aload_n 0, 1) := by decide +kernel
theorem dX2_markAs_59 : decode cX2_markAs 59 = .ok (.iload_n 2, 1) := by decide +kernel
theorem dX2_markAs_60 : decode cX2_markAs 60 = .ok (.invokevirtual 33, 3) := by decide +kernel
theorem dX2_markAs_63 : decode cX2_markAs 63 = .ok (.ireturn, 1) := by decide +kernel
theorem dX2_markAs_64 : decode cX2_markAs 64 = .ok (.aload_n 0, 1) := by decide +kernel
theorem dX2_markAs_65 : decode cX2_markAs 65 = .ok (.iload_n 2, 1) := by decide +kernel
theorem dX2_markAs_66 : decode cX2_markAs 66 = .ok (.invokevirtual 36, 3) := by decide +kernel
theorem dX2_markAs_69 : decode cX2_markAs 69 = .ok (.ireturn, 1) := by decide +kernel
theorem dX2_markAs_70 : decode cX2_markAs 70 = .ok (.aload_n 0, 1) := by decide +kernel
theorem dX2_markAs_71 : decode cX2_markAs 71 = .ok (.iload_n 2, 1) := by decide +kernel
theorem dX2_markAs_72 : decode cX2_markAs 72 = .ok (.invokevirtual 39, 3) := by decide +kernel
theorem dX2_markAs_75 : decode cX2_markAs 75 = .ok (.ireturn, 1) := by decide +kernel
theorem dX2_markAs_76 : decode cX2_markAs 76 = .ok (.ldc 42, 2) := by decide +kernel
theorem dX2_markAs_78 : decode cX2_markAs 78 = .ok (.ireturn, 1) := by decide +kernel
theorem dX2_asThing_0 : decode cX2_asThing 0 = .ok (.aload_n 0, 1) := by decide +kernel
theorem dX2_asThing_1 : decode cX2_asThing 1 = .ok (.dup, 1) := by decide +kernel
theorem dX2_asThing_2 : decode cX2_asThing 2 = .ok (.getfield 19, 3) := by decide +kernel
theorem dX2_asThing_5 : decode cX2_asThing 5 = .ok (.lconst 1, 1) := by decide +kernel
theorem dX2_asThing_6 : decode cX2_asThing 6 = .ok (.ladd, 1) := by decide +kernel
theorem dX2_asThing_7 : decode cX2_asThing 7 = .ok (.putfield 19, 3) := by decide +kernel
theorem dX2_asThing_10 : decode cX2_asThing 10 = .ok (.aload_n 0, 1) := by decide +kernel
theorem dX2_asThing_11 : decode cX2_asThing 11 = .ok (.getfield 9, 3) := by decide +kernel
theorem dX2_asThing_14 : decode cX2_asThing 14 = .ok (.iload_n 1, 1) := by decide +kernel
theorem dX2_asThing_15 : decode cX2_asThing 15 = .ok (.invokevirtual 43, 3) := by decide +kernel
theorem dX2_asThing_18 : decode cX2_asThing 18 = .ok (.ireturn, 1) := by decide +kernel
theorem dX2_asSack_0 : decode cX2_asSack 0 = .ok (.aload_n 0, 1) := by decide +kernel
theorem dX2_asSack_1 : decode cX2_asSack 1 = .ok (.dup, 1) := by decide +kernel
theorem dX2_asSack_2 : decode cX2_asSack 2 = .ok (.getfield 19, 3) := by decide +kernel
theorem dX2_asSack_5 : decode cX2_asSack 5 = .ok (.ldc2_w 48, 3) := by decide +kernel
theorem dX2_asSack_8 : decode cX2_asSack 8 = .ok (.ladd, 1) := by decide +kernel
theorem dX2_asSack_9 : decode cX2_asSack 9 = .ok (.putfield 19, 3) := by decide +kernel
theorem dX2_asSack_12 : decode cX2_asSack 12 = .ok (.aload_n 0, 1) := by decide +kernel
theorem dX2_asSack_13 : decode cX2_asSack 13 = .ok (.iload_n 1, 1) := by decide +kernel
theorem dX2_asSack_14 : decode cX2_asSack 14 = .ok (.invokevirtual 23, 3) := by decide +kernel
theorem dX2_asSack_17 : decode cX2_asSack 17 = .ok (.aload_n 0, 1) := by decide +kernel
theorem dX2_asSack_18 : decode cX2_asSack 18 = .ok (.getfield 9, 3) := by decide +kernel
theorem dX2_asSack_21 : decode cX2_asSack 21 = .ok (.invokevirtual 50, 3) := by decide +kernel
theorem dX2_asSack_24 : decode cX2_asSack 24 = .ok (.iadd, 1) := by decide +kernel
theorem dX2_asSack_25 : decode cX2_asSack 25 = .ok (.ireturn, 1) := by decide +kernel
theorem dX2_asLead_0 : decode cX2_asLead 0 = .ok (.aload_n 0, 1) := by decide +kernel
theorem dX2_asLead_1 : decode cX2_asLead 1 = .ok (.dup, 1) := by decide +kernel
theorem dX2_asLead_2 : decode cX2_asLead 2 = .ok (.getfield 19, 3) := by decide +kernel
theorem dX2_asLead_5 : decode cX2_asLead 5 = .ok (.ldc2_w 54, 3) := by decide +kernel
theorem dX2_asLead_8 : decode cX2_asLead 8 = .ok (.ladd, 1) := by decide +kernel
theorem dX2_asLead_9 : decode cX2_asLead 9 = .ok (.putfield 19, 3) := by decide +kernel
theorem dX2_asLead_12 : decode cX2_asLead 12 = .ok (.aload_n 0, 1) := by decide +kernel
theorem dX2_asLead_13 : decode cX2_asLead 13 = .ok (.iload_n 1, 1) := by decide +kernel
theorem dX2_asLead_14 : decode cX2_asLead 14 = .ok (.invokevirtual 23, 3) := by decide +kernel
theorem dX2_asLead_17 : decode cX2_asLead 17 = .ok (.iconst 2, 1) := by decide +kernel
theorem dX2_asLead_18 : decode cX2_asLead 18 = .ok (.imul, 1) := by decide +kernel
theorem dX2_asLead_19 : decode cX2_asLead 19 = .ok (.ireturn, 1) := by decide +kernel
theorem dX2_asFlour_0 : decode cX2_asFlour 0 = .ok (.aload_n 0, 1) := by decide +kernel
theorem dX2_asFlour_1 : decode cX2_asFlour 1 = .ok (.dup, 1) := by decide +kernel
theorem dX2_asFlour_2 : decode cX2_asFlour 2 = .ok (.getfield 19, 3) := by decide +kernel
theorem dX2_asFlour_5 : decode cX2_asFlour 5 = .ok (.ldc2_w 56, 3) := by decide +kernel
theorem dX2_asFlour_8 : decode cX2_asFlour 8 = .ok (.ladd, 1) := by decide +kernel
theorem dX2_asFlour_9 : decode cX2_asFlour 9 = .ok (.putfield 19, 3) := by decide +kernel
theorem dX2_asFlour_12 : decode cX2_asFlour 12 = .ok (.aload_n 0, 1) := by decide +kernel
theorem dX2_asFlour_13 : decode cX2_asFlour 13 = .ok (.iload_n 1, 1) := by decide +kernel
theorem dX2_asFlour_14 : decode cX2_asFlour 14 = .ok (.invokevirtual 27, 3) := by decide +kernel
theorem dX2_asFlour_17 : decode cX2_asFlour 17 = .ok (.aload_n 0, 1) := by decide +kernel
theorem dX2_asFlour_18 : decode cX2_asFlour 18 = .ok (.getfield 15, 3) := by decide +kernel
theorem dX2_asFlour_21 : decode cX2_asFlour 21 = .ok (.invokevirtual 58, 3) := by decide +kernel
theorem dX2_asFlour_24 : decode cX2_asFlour 24 = .ok (.isub, 1) := by decide +kernel
theorem dX2_asFlour_25 : decode cX2_asFlour 25 = .ok (.ireturn, 1) := by decide +kernel
theorem dX2_asGold_0 : decode cX2_asGold 0 = .ok (.aload_n 0, 1) := by decide +kernel
theorem dX2_asGold_1 : decode cX2_asGold 1 = .ok (.dup, 1) := by decide +kernel
theorem dX2_asGold_2 : decode cX2_asGold 2 = .ok (.getfield 19, 3) := by decide +kernel
theorem dX2_asGold_5 : decode cX2_asGold 5 = .ok (.ldc2_w 63, 3) := by decide +kernel
theorem dX2_asGold_8 : decode cX2_asGold 8 = .ok (.ladd, 1) := by decide +kernel
theorem dX2_asGold_9 : decode cX2_asGold 9 = .ok (.putfield 19, 3) := by decide +kernel
theorem dX2_asGold_12 : decode cX2_asGold 12 = .ok (.aload_n 0, 1) := by decide +kernel
theorem dX2_asGold_13 : decode cX2_asGold 13 = .ok (.iload_n 1, 1) := by decide +kernel
theorem dX2_asGold_14 : decode cX2_asGold 14 = .ok (.invokevirtual 30, 3) := by decide +kernel
theorem dX2_asGold_17 : decode cX2_asGold 17 = .ok (.iload_n 1, 1) := by decide +kernel
theorem dX2_asGold_18 : decode cX2_asGold 18 = .ok (.iadd, 1) := by decide +kernel
theorem dX2_asGold_19 : decode cX2_asGold 19 = .ok (.ireturn, 1) := by decide +kernel
theorem dX2_asBaby_0 : decode cX2_asBaby 0 = .ok (.aload_n 0, 1) := by decide +kernel
theorem dX2_asBaby_1 : decode cX2_asBaby 1 = .ok (.dup, 1) := by decide +kernel
theorem dX2_asBaby_2 : decode cX2_asBaby 2 = .ok (.getfield 19, 3) := by decide +kernel
theorem dX2_asBaby_5 : decode cX2_asBaby 5 = .ok (.ldc2_w 65, 3) := by decide +kernel
theorem dX2_asBaby_8 : decode cX2_asBaby 8 = .ok (.ladd, 1) := by decide +kernel
theorem dX2_asBaby_9 : decode cX2_asBaby 9 = .ok (.putfield 19, 3) := by decide +kernel
theorem dX2_asBaby_12 : decode cX2_asBaby 12 = .ok (.aload_n 0, 1) := by decide +kernel
theorem dX2_asBaby_13 : decode cX2_asBaby 13 = .ok (.iload_n 1, 1) := by decide +kernel
theorem dX2_asBaby_14 : decode cX2_asBaby 14 = .ok (.invokevirtual 23, 3) := by decide +kernel
theorem dX2_asBaby_17 : decode cX2_asBaby 17 = .ok (.aload_n 0, 1) := by decide +kernel
theorem dX2_asBaby_18 : decode cX2_asBaby 18 = .ok (.getfield 15, 3) := by decide +kernel
theorem dX2_asBaby_21 : decode cX2_asBaby 21 = .ok (.iload_n 1, 1) := by decide +kernel
theorem dX2_asBaby_22 : decode cX2_asBaby 22 = .ok (.invokevirtual 67, 3) := by decide +kernel
theorem dX2_asBaby_25 : decode cX2_asBaby 25 = .ok (.iadd, 1) := by decide +kernel
theorem dX2_asBaby_26 : decode cX2_asBaby 26 = .ok (.ireturn, 1) := by decide +kernel
theorem dX3_init_0 : decode cX3_init 0 = .ok (.aload_n 0, 1) := by decide +kernel
theorem dX3_init_1 : decode cX3_init 1 = .ok (.invokespecial 3, 3) := by decide +kernel
theorem dX3_init_4 : decode cX3_init 4 = .ok (.aload_n 0, 1) := by decide +kernel
theorem dX3_init_5 : decode cX3_init 5 = .ok (.new 9, 3) := by decide +kernel
theorem dX3_init_8 : decode cX3_init 8 = .ok (.dup, 1) := by decide +kernel
theorem dX3_init_9 : decode cX3_init 9 = .ok (.bipush 20, 2) := by decide +kernel
theorem dX3_init_11 : decode cX3_init 11 = .ok (.invokespecial 11, 3) := by decide +kernel
theorem dX3_init_14 : decode cX3_init 14 = .ok (.putfield 14, 3) := by decide +kernel
theorem dX3_init_17 : decode cX3_init 17 = .ok (.aload_n 0, 1) := by decide +kernel
theorem dX3_init_18 : decode cX3_init 18 = .ok (.new 9, 3) := by decide +kernel
theorem dX3_init_21 : decode cX3_init 21 = .ok (.dup, 1) := by decide +kernel
theorem dX3_init_22 : decode cX3_init 22 = .ok (.bipush 20, 2) := by decide +kernel
theorem dX3_init_24 : decode cX3_init 24 = .ok (.invokespecial 11, 3) := by decide +kernel
theorem dX3_init_27 : decode cX3_init 27 = .ok (.putfield 20, 3) := by decide +kernel
theorem dX3_init_30 : decode cX3_init 30 = .ok (.aload_n 0, 1) := by decide +kernel
theorem dX3_init_31 : decode cX3_init 31 = .ok (.new 9, 3) := by decide +kernel
theorem dX3_init_34 : decode cX3_init 34 = .ok (.dup, 1) := by decide +kernel
theorem dX3_init_35 : decode cX3_init 35 = .ok (.sipush 400, 3) := by decide +kernel
theorem dX3_init_38 : decode cX3_init 38 = .ok (.invokespecial 11, 3) := by decide +kernel
theorem dX3_init_41 : decode cX3_init 41 = .ok (.putfield 23, 3) := by decide +kernel
theorem dX3_init_44 : decode cX3_init 44 = .ok (.aload_n 0, 1) := by decide +kernel
theorem dX3_init_45 : decode cX3_init 45 = .ok (.aload_n 1, 1) := by decide +kernel
theorem dX3_init_46 : decode cX3_init 46 = .ok (.putfield 26, 3) := by decide +kernel
theorem dX3_init_49 : decode cX3_init 49 = .ok (.aload_n 0, 1) := by decide +kernel
theorem dX3_init_50 : decode cX3_init 50 = .ok (.aload_n 2, 1) := by decide +kernel
theorem dX3_init_51 : decode cX3_init 51 = .ok (.putfield 30, 3) := by decide +kernel
theorem dX3_init_54 : decode cX3_init 54 = .ok (.return_, 1) := by decide +kernel
theorem dX3_bestSet_0 : decode cX3_bestSet 0 = .ok (.iconst 1, 1) := by decide +kernel
theorem dX3_bestSet_1 : decode cX3_bestSet 1 = .ok (.istore_n 1, 1) := by decide +kernel
theorem dX3_bestSet_2 : decode cX3_bestSet 2 = .ok (.aload_n 0, 1) := by decide +kernel
theorem dX3_bestSet_3 : decode cX3_bestSet 3 = .ok (.iconst 1, 1) := by decide +kernel
theorem dX3_bestSet_4 : decode cX3_bestSet 4 = .ok (.invokevirtual 34, 3) := by decide +kernel
theorem dX3_bestSet_7 : decode cX3_bestSet 7 = .ok (.istore_n 2, 1) := by decide +kernel
theorem dX3_bestSet_8 : decode cX3_bestSet 8 = .ok (.iconst 2, 1) := by decide +kernel
theorem dX3_bestSet_9 : decode cX3_bestSet 9 = .ok (.istore_n 3, 1) := by decide +kernel
theorem dX3_bestSet_10 : decode cX3_bestSet 10 = .ok (.iload_n 3, 1) := by decide +kernel
theorem dX3_bestSet_11 : decode cX3_bestSet 11 = .ok (.aload_n 0, 1) := by decide +kernel
theorem dX3_bestSet_12 : decode cX3_bestSet 12 = .ok (.getfield 26, 3) := by decide +kernel
theorem dX3_bestSet_15 : decode cX3_bestSet 15 = .ok (.invokevirtual 38, 3) := by decide +kernel
theorem dX3_bestSet_18 : decode cX3_bestSet 18 = .ok (.if_icmp .ge 27, 3) := by decide +kernel
theorem dX3_bestSet_21 : decode cX3_bestSet 21 = .ok (.aload_n 0, 1) := by decide +kernel
theorem dX3_bestSet_22 : decode cX3_bestSet 22 = .ok (.iload_n 3, 1) := by decide +kernel
theorem dX3_bestSet_23 : decode cX3_bestSet 23 = .ok (.invokevirtual 34, 3) := by decide +kernel
theorem dX3_bestSet_26 : decode cX3_bestSet 26 = .ok (.istore 4, 2) := by decide +kernel
theorem dX3_bestSet_28 : decode cX3_bestSet 28 = .ok (.iload 4, 2) := by decide +kernel
theorem dX3_bestSet_30 : decode cX3_bestSet 30 = .ok (.iload_n 2, 1) := by decide +kernel
theorem dX3_bestSet_31 : decode cX3_bestSet 31 = .ok (.if_icmp .ge 8, 3) := by decide +kernel
theorem dX3_bestSet_34 : decode cX3_bestSet 34 = .ok (.iload 4, 2) := by decide +kernel
theorem dX3_bestSet_36 : decode cX3_bestSet 36 = .ok (.istore_n 2, 1) := by decide +kernel
theorem dX3_bestSet_37 : decode cX3_bestSet 37 = .ok (.iload_n 3, 1) := by decide +kernel
theorem dX3_bestSet_38 : decode cX3_bestSet 38 = .ok (.istore_n 1, 1) := by decide +kernel
theorem dX3_bestSet_39 : decode cX3_bestSet 39 = .ok (.iinc 3 1, 3) := by decide +kernel
theorem dX3_bestSet_42 : decode cX3_bestSet 42 = .ok (.goto (-32), 3) := by decide +kernel
theorem dX3_bestSet_45 : decode cX3_bestSet 45 = .ok (.iload_n 1, 1) := by decide +kernel
theorem dX3_bestSet_46 : decode cX3_bestSet 46 = .ok (.ireturn, 1) := by decide +kernel
theorem dX3_worstOf_0 : decode cX3_worstOf 0 = .ok (.aload_n 0, 1) := by decide +kernel
theorem dX3_worstOf_1 : decode cX3_worstOf 1 = .ok (.getfield 14, 3) := by decide +kernel
theorem dX3_worstOf_4 : decode cX3_worstOf 4 = .ok (.invokevirtual 44, 3) := by decide +kernel
theorem dX3_worstOf_7 : decode cX3_worstOf 7 = .ok (.aload_n 0, 1) := by decide +kernel
theorem dX3_worstOf_8 : decode cX3_worstOf 8 = .ok (.getfield 30, 3) := by decide +kernel
theorem dX3_worstOf_11 : decode cX3_worstOf 11 = .ok (.invokevirtual 47, 3) := by decide +kernel
theorem dX3_worstOf_14 : decode cX3_worstOf 14 = .ok (.istore_n 2, 1) := by decide +kernel
theorem dX3_worstOf_15 : decode cX3_worstOf 15 = .ok (.iconst 0, 1) := by decide +kernel
theorem dX3_worstOf_16 : decode cX3_worstOf 16 = .ok (.istore_n 3, 1) := by decide +kernel
theorem dX3_worstOf_17 : decode cX3_worstOf 17 = .ok (.iconst (-1), 1) := by decide +kernel
theorem dX3_worstOf_18 : decode cX3_worstOf 18 = .ok (.istore 4, 2) := by decide +kernel
theorem dX3_worstOf_20 : decode cX3_worstOf 20 = .ok (.iconst 0, 1) := by decide +kernel
theorem dX3_worstOf_21 : decode cX3_worstOf 21 = .ok (.istore 5, 2) := by decide +kernel
theorem dX3_worstOf_23 : decode cX3_worstOf 23 = .ok (.iload 5, 2) := by decide +kernel
theorem dX3_worstOf_25 : decode cX3_worstOf 25 = .ok (.iload_n 2, 1) := by decide +kernel
theorem dX3_worstOf_26 : decode cX3_worstOf 26 = .ok (.if_icmp .ge 53, 3) := by decide +kernel
theorem dX3_worstOf_29 : decode cX3_worstOf 29 = .ok (.aload_n 0, 1) := by decide +kernel
theorem dX3_worstOf_30 : decode cX3_worstOf 30 = .ok (.getfield 30, 3) := by decide +kernel
theorem dX3_worstOf_33 : decode cX3_worstOf 33 = .ok (.iload 4, 2) := by decide +kernel
theorem dX3_worstOf_35 : decode cX3_worstOf 35 = .ok (.invokevirtual 52, 3) := by decide +kernel
theorem dX3_worstOf_38 : decode cX3_worstOf 38 = .ok (.istore 4, 2) := by decide +kernel
theorem dX3_worstOf_40 : decode cX3_worstOf 40 = .ok (.aload_n 0, 1) := by decide +kernel
theorem dX3_worstOf_41 : decode cX3_worstOf 41 = .ok (.iload 4, 2) := by decide +kernel
theorem dX3_worstOf_43 : decode cX3_worstOf 43 = .ok (.iload_n 1, 1) := by decide +kernel
theorem dX3_worstOf_44 : decode cX3_worstOf 44 = .ok (.invokevirtual 55, 3) := by decide +kernel
theorem dX3_worstOf_47 : decode cX3_worstOf 47 = .ok (.istore 6, 2) := by decide +kernel
theorem dX3_worstOf_49 : decode cX3_worstOf 49 = .ok (.aload_n 0, 1) := by decide +kernel
theorem dX3_worstOf_50 : decode cX3_worstOf 50 = .ok (.getfield 14, 3) := by decide +kernel
theorem dX3_worstOf_53 : decode cX3_worstOf 53 = .ok (.iload 6, 2) := by decide +kernel
theorem dX3_worstOf_55 : decode cX3_worstOf 55 = .ok (.iconst 1, 1) := by decide +kernel
theorem dX3_worstOf_56 : decode cX3_worstOf 56 = .ok (.invokevirtual 59, 3) := by decide +kernel
theorem dX3_worstOf_59 : decode cX3_worstOf 59 = .ok (.iload_n 3, 1) := by decide +kernel
theorem dX3_worstOf_60 : decode cX3_worstOf 60 = .ok (.aload_n 0, 1) := by decide +kernel
theorem dX3_worstOf_61 : decode cX3_worstOf 61 = .ok (.getfield 14, 3) := by decide +kernel
theorem dX3_worstOf_64 : decode cX3_worstOf 64 = .ok (.iload 6, 2) := by decide +kernel
theorem dX3_worstOf_66 : decode cX3_worstOf 66 = .ok (.invokevirtual 63, 3) := by decide +kernel
theorem dX3_worstOf_69 : decode cX3_worstOf 69 = .ok (.invokestatic 66, 3) := by decide +kernel
theorem dX3_worstOf_72 : decode cX3_worstOf 72 = .ok (.istore_n 3, 1) := by decide +kernel
theorem dX3_worstOf_73 : decode cX3_worstOf 73 = .ok (.iinc 5 1, 3) := by decide +kernel
theorem dX3_worstOf_76 : decode cX3_worstOf 76 = .ok (.goto (-53), 3) := by decide +kernel
theorem dX3_worstOf_79 : decode cX3_worstOf 79 = .ok (.iload_n 3, 1) := by decide +kernel
theorem dX3_worstOf_80 : decode cX3_worstOf 80 = .ok (.ireturn, 1) := by decide +kernel
theorem dX3_weighingsFor_0 : decode cX3_weighingsFor 0 = .ok (.aload_n 0, 1) := by decide +kernel
theorem dX3_weighingsFor_1 : decode cX3_weighingsFor 1 = .ok (.getfield 30, 3) := by decide +kernel
theorem dX3_weighingsFor_4 : decode cX3_weighingsFor 4 = .ok (.invokevirtual 47, 3) := by decide +kernel
theorem dX3_weighingsFor_7 : decode cX3_weighingsFor 7 = .ok (.ifCond .eq 16, 3) := by decide +kernel
theorem dX3_weighingsFor_10 : decode cX3_weighingsFor 10 = .ok (.aload_n 0, 1) := by decide +kernel
theorem dX3_weighingsFor_11 : decode cX3_weighingsFor 11 = .ok (.getfield 30, 3) := by decide +kernel
theorem dX3_weighingsFor_14 : decode cX3_weighingsFor 14 = .ok (.iload_n 1, 1) := by decide +kernel
theorem dX3_weighingsFor_15 : decode cX3_weighingsFor 15 = .ok (.invokevirtual 71, 3) := by decide +kernel
theorem dX3_weighingsFor_18 : decode cX3_weighingsFor 18 = .ok (.bipush (-9), 2) := by decide +kernel
theorem dX3_weighingsFor_20 : decode cX3_weighingsFor 20 = .ok (.if_icmp .eq 5, 3) := by decide +kernel
theorem dX3_weighingsFor_23 : decode cX3_weighingsFor 23 = .ok (.iconst 0, 1) := by decide +kernel
theorem dX3_weighingsFor_24 : decode cX3_weighingsFor 24 = .ok (.ireturn, 1) := by decide +kernel
theorem dX3_weighingsFor_25 : decode cX3_weighingsFor 25 = .ok (.iconst 0, 1) := by decide +kernel
theorem dX3_weighingsFor_26 : decode cX3_weighingsFor 26 = .ok (.istore_n 2, 1) := by decide +kernel
theorem dX3_weighingsFor_27 : decode cX3_weighingsFor 27 = .ok (.iload_n 2, 1) := by decide +kernel
theorem dX3_weighingsFor_28 : decode cX3_weighingsFor 28 = .ok (.aload_n 0, 1) := by decide +kernel
theorem dX3_weighingsFor_29 : decode cX3_weighingsFor 29 = .ok (.getfield 26, 3) := by decide +kernel
theorem dX3_weighingsFor_32 : decode cX3_weighingsFor 32 = .ok (.invokevirtual 38, 3) := by decide +kernel
theorem dX3_weighingsFor_35 : decode cX3_weighingsFor 35 = .ok (.if_icmp .ge 20, 3) := by decide +kernel
theorem dX3_weighingsFor_38 : decode cX3_weighingsFor 38 = .ok (.aload_n 0, 1) := by decide +kernel
theorem dX3_weighingsFor_39 : decode cX3_weighingsFor 39 = .ok (.iload_n 2, 1) := by decide +kernel
theorem dX3_weighingsFor_40 : decode cX3_weighingsFor 40 = .ok (.iload_n 1, 1) := by decide +kernel
theorem dX3_weighingsFor_41 : decode cX3_weighingsFor 41 = .ok (.invokevirtual 74, 3) := by decide +kernel
theorem dX3_weighingsFor_44 : decode cX3_weighingsFor 44 = .ok (.ifCond .eq 5, 3) := by decide +kernel
theorem dX3_weighingsFor_47 : decode cX3_weighingsFor 47 = .ok (.iconst 1, 1) := by decide +kernel
theorem dX3_weighingsFor_48 : decode cX3_weighingsFor 48 = .ok (.ireturn, 1) := by decide +kernel
theorem dX3_weighingsFor_49 : decode cX3_weighingsFor 49 = .ok (.iinc 2 1, 3) := by decide +kernel
theorem dX3_weighingsFor_52 : decode cX3_weighingsFor 52 = .ok (.goto (-25), 3) := by decide +kernel
theorem dX3_weighingsFor_55 : decode cX3_weighingsFor 55 = .ok (.iload_n 1, 1) := by decide +kernel
theorem dX3_weighingsFor_56 : decode cX3_weighingsFor 56 = .ok (.iconst 3, 1) := by decide +kernel
theorem dX3_weighingsFor_57 : decode cX3_weighingsFor 57 = .ok (.if_icmp .eq 15, 3) := by decide +kernel
theorem dX3_weighingsFor_60 : decode cX3_weighingsFor 60 = .ok (.aload_n 0, 1) := by decide +kernel
theorem dX3_weighingsFor_61 : decode cX3_weighingsFor 61 = .ok (.iload_n 1, 1) := by decide +kernel
theorem dX3_weighingsFor_62 : decode cX3_weighingsFor 62 = .ok (.invokevirtual 78, 3) := by decide +kernel
theorem dX3_weighingsFor_65 : decode cX3_weighingsFor 65 = .ok (.ifCond .eq 7, 3) := by decide +kernel
theorem dX3_weighingsFor_68 : decode cX3_weighingsFor 68 = .ok (.iconst 2, 1) := by decide +kernel
theorem dX3_weighingsFor_69 : decode cX3_weighingsFor 69 = .ok (.goto 5, 3) := by decide +kernel
theorem dX3_weighingsFor_72 : decode cX3_weighingsFor 72 = .ok (.bipush (-9), 2) := by decide +kernel
theorem dX3_weighingsFor_74 : decode cX3_weighingsFor 74 = .ok (.ireturn, 1) := by decide +kernel
theorem dX3_isSureBy_0 : decode cX3_isSureBy 0 = .ok (.aload_n 0, 1) := by decide +kernel
theorem dX3_isSureBy_1 : decode cX3_isSureBy 1 = .ok (.getfield 20, 3) := by decide +kernel
theorem dX3_isSureBy_4 : decode cX3_isSureBy 4 = .ok (.invokevirtual 44, 3) := by decide +kernel
theorem dX3_isSureBy_7 : decode cX3_isSureBy 7 = .ok (.aload_n 0, 1) := by decide +kernel
theorem dX3_isSureBy_8 : decode cX3_isSureBy 8 = .ok (.getfield 30, 3) := by decide +kernel
theorem dX3_isSureBy_11 : decode cX3_isSureBy 11 = .ok (.invokevirtual 47, 3) := by decide +kernel
theorem dX3_isSureBy_14 : decode cX3_isSureBy 14 = .ok (.istore_n 3, 1) := by decide +kernel
theorem dX3_isSureBy_15 : decode cX3_isSureBy 15 = .ok (.iconst (-1), 1) := by decide +kernel
theorem dX3_isSureBy_16 : decode cX3_isSureBy 16 = .ok (.istore 4, 2) := by decide +kernel
theorem dX3_isSureBy_18 : decode cX3_isSureBy 18 = .ok (.iconst 0, 1) := by decide +kernel
theorem dX3_isSureBy_19 : decode cX3_isSureBy 19 = .ok (.istore 5, 2) := by decide +kernel
theorem dX3_isSureBy_21 : decode cX3_isSureBy 21 = .ok (.iload 5, 2) := by decide +kernel
theorem dX3_isSureBy_23 : decode cX3_isSureBy 23 = .ok (.iload_n 3, 1) := by decide +kernel
theorem dX3_isSureBy_24 : decode cX3_isSureBy 24 = .ok (.if_icmp .ge 45, 3) := by decide +kernel
theorem dX3_isSureBy_27 : decode cX3_isSureBy 27 = .ok (.aload_n 0, 1) := by decide +kernel
theorem dX3_isSureBy_28 : decode cX3_isSureBy 28 = .ok (.getfield 30, 3) := by decide +kernel
theorem dX3_isSureBy_31 : decode cX3_isSureBy 31 = .ok (.iload 4, 2) := by decide +kernel
theorem dX3_isSureBy_33 : decode cX3_isSureBy 33 = .ok (.invokevirtual 52, 3) := by decide +kernel
theorem dX3_isSureBy_36 : decode cX3_isSureBy 36 = .ok (.istore 4, 2) := by decide +kernel
theorem dX3_isSureBy_38 : decode cX3_isSureBy 38 = .ok (.aload_n 0, 1) := by decide +kernel
theorem dX3_isSureBy_39 : decode cX3_isSureBy 39 = .ok (.getfield 20, 3) := by decide +kernel
theorem dX3_isSureBy_42 : decode cX3_isSureBy 42 = .ok (.aload_n 0, 1) := by decide +kernel
theorem dX3_isSureBy_43 : decode cX3_isSureBy 43 = .ok (.iload 4, 2) := by decide +kernel
theorem dX3_isSureBy_45 : decode cX3_isSureBy 45 = .ok (.iload_n 1, 1) := by decide +kernel
theorem dX3_isSureBy_46 : decode cX3_isSureBy 46 = .ok (.invokevirtual 55, 3) := by decide +kernel
theorem dX3_isSureBy_49 : decode cX3_isSureBy 49 = .ok (.iload 4, 2) := by decide +kernel
theorem dX3_isSureBy_51 : decode cX3_isSureBy 51 = .ok (.iload_n 2, 1) := by decide +kernel
theorem dX3_isSureBy_52 : decode cX3_isSureBy 52 = .ok (.invokestatic 82, 3) := by decide +kernel
theorem dX3_isSureBy_55 : decode cX3_isSureBy 55 = .ok (.invokestatic 85, 3) := by decide +kernel
theorem dX3_isSureBy_58 : decode cX3_isSureBy 58 = .ok (.ifCond .eq 5, 3) := by decide +kernel
theorem dX3_isSureBy_61 : decode cX3_isSureBy 61 = .ok (.iconst 0, 1) := by decide +kernel
theorem dX3_isSureBy_62 : decode cX3_isSureBy 62 = .ok (.ireturn, 1) := by decide +kernel
theorem dX3_isSureBy_63 : decode cX3_isSureBy 63 = .ok (.iinc 5 1, 3) := by decide +kernel
theorem dX3_isSureBy_66 : decode cX3_isSureBy 66 = .ok (.goto (-45), 3) := by decide +kernel
theorem dX3_isSureBy_69 : decode cX3_isSureBy 69 = .ok (.iconst 1, 1) := by decide +kernel
theorem dX3_isSureBy_70 : decode cX3_isSureBy 70 = .ok (.ireturn, 1) := by decide +kernel
theorem dX3_isSureByNoneAndAlone_0 : decode cX3_isSureByNoneAndAlone 0 = .ok (.aload_n 0, 1) := by decide +kernel
theorem dX3_isSureByNoneAndAlone_1 : decode cX3_isSureByNoneAndAlone 1 = .ok (.getfield 23, 3) := by decide +kernel
theorem dX3_isSureByNoneAndAlone_4 : decode cX3_isSureByNoneAndAlone 4 = .ok (.invokevirtual 44, 3) := by decide +kernel
theorem dX3_isSureByNoneAndAlone_7 : decode cX3_isSureByNoneAndAlone 7 = .ok (.aload_n 0, 1) := by decide +kernel
theorem dX3_isSureByNoneAndAlone_8 : decode cX3_isSureByNoneAndAlone 8 = .ok (.getfield 30, 3) := by decide +kernel
theorem dX3_isSureByNoneAndAlone_11 : decode cX3_isSureByNoneAndAlone 11 = .ok (.invokevirtual 47, 3) := by decide +kernel
theorem dX3_isSureByNoneAndAlone_14 : decode cX3_isSureByNoneAndAlone 14 = .ok (.istore_n 2, 1) := by decide +kernel
theorem dX3_isSureByNoneAndAlone_15 : decode cX3_isSureByNoneAndAlone 15 = .ok (.iconst (-1), 1) := by decide +kernel
theorem dX3_isSureByNoneAndAlone_16 : decode cX3_isSureByNoneAndAlone 16 = .ok (.istore_n 3, 1) := by decide +kernel
theorem dX3_isSureByNoneAndAlone_17 : decode cX3_isSureByNoneAndAlone 17 = .ok (.iconst 0, 1) := by decide +kernel
theorem dX3_isSureByNoneAndAlone_18 : decode cX3_isSureByNoneAndAlone 18 = .ok (.istore 4, 2) := by decide +kernel
theorem dX3_isSureByNoneAndAlone_20 : decode cX3_isSureByNoneAndAlone 20 = .ok (.iload 4, 2) := by decide +kernel
theorem dX3_isSureByNoneAndAlone_22 : decode cX3_isSureByNoneAndAlone 22 = .ok (.iload_n 2, 1) := by decide +kernel
theorem dX3_isSureByNoneAndAlone_23 : decode cX3_isSureByNoneAndAlone 23 = .ok (.if_icmp .ge 57, 3) := by decide +kernel
theorem dX3_isSureByNoneAndAlone_26 : decode cX3_isSureByNoneAndAlone 26 = .ok (.aload_n 0, 1) := by decide +kernel
theorem dX3_isSureByNoneAndAlone_27 : decode cX3_isSureByNoneAndAlone 27 = .ok (.getfield 30, 3) := by decide +kernel
theorem dX3_isSureByNoneAndAlone_30 : decode cX3_isSureByNoneAndAlone 30 = .ok (.iload_n 3, 1) := by decide +kernel
theorem dX3_isSureByNoneAndAlone_31 : decode cX3_isSureByNoneAndAlone 31 = .ok (.invokevirtual 52, 3) := by decide +kernel
theorem dX3_isSureByNoneAndAlone_34 : decode cX3_isSureByNoneAndAlone 34 = .ok (.istore_n 3, 1) := by decide +kernel
theorem dX3_isSureByNoneAndAlone_35 : decode cX3_isSureByNoneAndAlone 35 = .ok (.aload_n 0, 1) := by decide +kernel
theorem dX3_isSureByNoneAndAlone_36 : decode cX3_isSureByNoneAndAlone 36 = .ok (.iload_n 3, 1) := by decide +kernel
theorem dX3_isSureByNoneAndAlone_37 : decode cX3_isSureByNoneAndAlone 37 = .ok (.iconst 0, 1) := by decide +kernel
theorem dX3_isSureByNoneAndAlone_38 : decode cX3_isSureByNoneAndAlone 38 = .ok (.invokevirtual 55, 3) := by decide +kernel
theorem dX3_isSureByNoneAndAlone_41 : decode cX3_isSureByNoneAndAlone 41 = .ok (.bipush 20, 2) := by decide +kernel
theorem dX3_isSureByNoneAndAlone_43 : decode cX3_isSureByNoneAndAlone 43 = .ok (.imul, 1) := by decide +kernel
theorem dX3_isSureByNoneAndAlone_44 : decode cX3_isSureByNoneAndAlone 44 = .ok (.aload_n 0, 1) := by decide +kernel
theorem dX3_isSureByNoneAndAlone_45 : decode cX3_isSureByNoneAndAlone 45 = .ok (.iload_n 3, 1) := by decide +kernel
theorem dX3_isSureByNoneAndAlone_46 : decode cX3_isSureByNoneAndAlone 46 = .ok (.iconst 1, 1) := by decide +kernel
theorem dX3_isSureByNoneAndAlone_47 : decode cX3_isSureByNoneAndAlone 47 = .ok (.iload_n 1, 1) := by decide +kernel
theorem dX3_isSureByNoneAndAlone_48 : decode cX3_isSureByNoneAndAlone 48 = .ok (.ishl, 1) := by decide +kernel
theorem dX3_isSureByNoneAndAlone_49 : decode cX3_isSureByNoneAndAlone 49 = .ok (.invokevirtual 55, 3) := by decide +kernel
theorem dX3_isSureByNoneAndAlone_52 : decode cX3_isSureByNoneAndAlone 52 = .ok (.iadd, 1) := by decide +kernel
theorem dX3_isSureByNoneAndAlone_53 : decode cX3_isSureByNoneAndAlone 53 = .ok (.istore 5, 2) := by decide +kernel
theorem dX3_isSureByNoneAndAlone_55 : decode cX3_isSureByNoneAndAlone 55 = .ok (.aload_n 0, 1) := by decide +kernel
theorem dX3_isSureByNoneAndAlone_56 : decode cX3_isSureByNoneAndAlone 56 = .ok (.getfield 23, 3) := by decide +kernel
theorem dX3_isSureByNoneAndAlone_59 : decode cX3_isSureByNoneAndAlone 59 = .ok (.iload 5, 2) := by decide +kernel
theorem dX3_isSureByNoneAndAlone_61 : decode cX3_isSureByNoneAndAlone 61 = .ok (.iload_n 3, 1) := by decide +kernel
theorem dX3_isSureByNoneAndAlone_62 : decode cX3_isSureByNoneAndAlone 62 = .ok (.iload_n 1, 1) := by decide +kernel
theorem dX3_isSureByNoneAndAlone_63 : decode cX3_isSureByNoneAndAlone 63 = .ok (.invokestatic 82, 3) := by decide +kernel
theorem dX3_isSureByNoneAndAlone_66 : decode cX3_isSureByNoneAndAlone 66 = .ok (.invokestatic 85, 3) := by decide +kernel
theorem dX3_isSureByNoneAndAlone_69 : decode cX3_isSureByNoneAndAlone 69 = .ok (.ifCond .eq 5, 3) := by decide +kernel
theorem dX3_isSureByNoneAndAlone_72 : decode cX3_isSureByNoneAndAlone 72 = .ok (.iconst 0, 1) := by decide +kernel
theorem dX3_isSureByNoneAndAlone_73 : decode cX3_isSureByNoneAndAlone 73 = .ok (.ireturn, 1) := by decide +kernel
theorem dX3_isSureByNoneAndAlone_74 : decode cX3_isSureByNoneAndAlone 74 = .ok (.iinc 4 1, 3) := by decide +kernel
theorem dX3_isSureByNoneAndAlone_77 : decode cX3_isSureByNoneAndAlone 77 = .ok (.goto (-57), 3) := by decide +kernel
theorem dX3_isSureByNoneAndAlone_80 : decode cX3_isSureByNoneAndAlone 80 = .ok (.iconst 1, 1) := by decide +kernel
theorem dX3_isSureByNoneAndAlone_81 : decode cX3_isSureByNoneAndAlone 81 = .ok (.ireturn, 1) := by decide +kernel
theorem dX3_isTorn_0 : decode cX3_isTorn 0 = .ok (.aload_n 0, 1) := by decide +kernel
theorem dX3_isTorn_1 : decode cX3_isTorn 1 = .ok (.iload_n 1, 1) := by decide +kernel
theorem dX3_isTorn_2 : decode cX3_isTorn 2 = .ok (.iconst 1, 1) := by decide +kernel
theorem dX3_isTorn_3 : decode cX3_isTorn 3 = .ok (.iload_n 2, 1) := by decide +kernel
theorem dX3_isTorn_4 : decode cX3_isTorn 4 = .ok (.ishl, 1) := by decide +kernel
theorem dX3_isTorn_5 : decode cX3_isTorn 5 = .ok (.invokevirtual 89, 3) := by decide +kernel
theorem dX3_isTorn_8 : decode cX3_isTorn 8 = .ok (.aload_n 0, 1) := by decide +kernel
theorem dX3_isTorn_9 : decode cX3_isTorn 9 = .ok (.iload_n 1, 1) := by decide +kernel
theorem dX3_isTorn_10 : decode cX3_isTorn 10 = .ok (.invokevirtual 63, 3) := by decide +kernel
theorem dX3_isTorn_13 : decode cX3_isTorn 13 = .ok (.invokestatic 92, 3) := by decide +kernel
theorem dX3_isTorn_16 : decode cX3_isTorn 16 = .ok (.iconst 1, 1) := by decide +kernel
theorem dX3_isTorn_17 : decode cX3_isTorn 17 = .ok (.if_icmp .le 7, 3) := by decide +kernel
theorem dX3_isTorn_20 : decode cX3_isTorn 20 = .ok (.iconst 1, 1) := by decide +kernel
theorem dX3_isTorn_21 : decode cX3_isTorn 21 = .ok (.goto 4, 3) := by decide +kernel
theorem dX3_isTorn_24 : decode cX3_isTorn 24 = .ok (.iconst 0, 1) := by decide +kernel
theorem dX3_isTorn_25 : decode cX3_isTorn 25 = .ok (.ireturn, 1) := by decide +kernel
theorem dX3_shownIn_0 : decode cX3_shownIn 0 = .ok (.aload_n 0, 1) := by decide +kernel
theorem dX3_shownIn_1 : decode cX3_shownIn 1 = .ok (.getfield 26, 3) := by decide +kernel
theorem dX3_shownIn_4 : decode cX3_shownIn 4 = .ok (.iload_n 1, 1) := by decide +kernel
theorem dX3_shownIn_5 : decode cX3_shownIn 5 = .ok (.iload_n 2, 1) := by decide +kernel
theorem dX3_shownIn_6 : decode cX3_shownIn 6 = .ok (.invokestatic 97, 3) := by decide +kernel
theorem dX3_shownIn_9 : decode cX3_shownIn 9 = .ok (.invokevirtual 100, 3) := by decide +kernel
theorem dX3_shownIn_12 : decode cX3_shownIn 12 = .ok (.ireturn, 1) := by decide +kernel
theorem dX5_init_0 : decode cX5_init 0 = .ok (.aload_n 0, 1) := by decide +kernel
theorem dX5_init_1 : decode cX5_init 1 = .ok (.invokespecial 1, 3) := by decide +kernel
theorem dX5_init_4 : decode cX5_init 4 = .ok (.aload_n 0, 1) := by decide +kernel
theorem dX5_init_5 : decode cX5_init 5 = .ok (.iload_n 1, 1) := by decide +kernel
theorem dX5_init_6 : decode cX5_init 6 = .ok (.ifCond .ge 7, 3) := by decide +kernel
theorem dX5_init_9 : decode cX5_init 9 = .ok (.iconst 0, 1) := by decide +kernel
theorem dX5_init_10 : decode cX5_init 10 = .ok (.goto 4, 3) := by decide +kernel
theorem dX5_init_13 : decode cX5_init 13 = .ok (.iload_n 1, 1) := by decide +kernel
theorem dX5_init_14 : decode cX5_init 14 = .ok (.newarray .int, 2) := by decide +kernel
theorem dX5_init_16 : decode cX5_init 16 = .ok (.putfield 7, 3) := by decide +kernel
theorem dX5_init_19 : decode cX5_init 19 = .ok (.return_, 1) := by decide +kernel
theorem dX5_get_0 : decode cX5_get 0 = .ok (.iload_n 1, 1) := by decide +kernel
theorem dX5_get_1 : decode cX5_get 1 = .ok (.ifCond .lt 21, 3) := by decide +kernel
theorem dX5_get_4 : decode cX5_get 4 = .ok (.iload_n 1, 1) := by decide +kernel
theorem dX5_get_5 : decode cX5_get 5 = .ok (.aload_n 0, 1) := by decide +kernel
theorem dX5_get_6 : decode cX5_get 6 = .ok (.getfield 7, 3) := by decide +kernel
theorem dX5_get_9 : decode cX5_get 9 = .ok (.arraylength, 1) := by decide +kernel
theorem dX5_get_10 : decode cX5_get 10 = .ok (.if_icmp .ge 12, 3) := by decide +kernel
theorem dX5_get_13 : decode cX5_get 13 = .ok (.aload_n 0, 1) := by decide +kernel
theorem dX5_get_14 : decode cX5_get 14 = .ok (.getfield 7, 3) := by decide +kernel
theorem dX5_get_17 : decode cX5_get 17 = .ok (.iload_n 1, 1) := by decide +kernel
theorem dX5_get_18 : decode cX5_get 18 = .ok (.iaload, 1) := by decide +kernel
theorem dX5_get_19 : decode cX5_get 19 = .ok (.goto 4, 3) := by decide +kernel
theorem dX5_get_22 : decode cX5_get 22 = .ok (.iconst 0, 1) := by decide +kernel
theorem dX5_get_23 : decode cX5_get 23 = .ok (.ireturn, 1) := by decide +kernel
theorem dX5_put_0 : decode cX5_put 0 = .ok (.iload_n 1, 1) := by decide +kernel
theorem dX5_put_1 : decode cX5_put 1 = .ok (.ifCond .lt 19, 3) := by decide +kernel
theorem dX5_put_4 : decode cX5_put 4 = .ok (.iload_n 1, 1) := by decide +kernel
theorem dX5_put_5 : decode cX5_put 5 = .ok (.aload_n 0, 1) := by decide +kernel
theorem dX5_put_6 : decode cX5_put 6 = .ok (.getfield 7, 3) := by decide +kernel
theorem dX5_put_9 : decode cX5_put 9 = .ok (.arraylength, 1) := by decide +kernel
theorem dX5_put_10 : decode cX5_put 10 = .ok (.if_icmp .ge 10, 3) := by decide +kernel
theorem dX5_put_13 : decode cX5_put 13 = .ok (.aload_n 0, 1) := by decide +kernel
theorem dX5_put_14 : decode cX5_put 14 = .ok (.getfield 7, 3) := by decide +kernel
theorem dX5_put_17 : decode cX5_put 17 = .ok (.iload_n 1, 1) := by decide +kernel
theorem dX5_put_18 : decode cX5_put 18 = .ok (.iload_n 2, 1) := by decide +kernel
theorem dX5_put_19 : decode cX5_put 19 = .ok (.iastore, 1) := by decide +kernel
theorem dX5_put_20 : decode cX5_put 20 = .ok (.return_, 1) := by decide +kernel
theorem dX5_add_0 : decode cX5_add 0 = .ok (.iload_n 1, 1) := by decide +kernel
theorem dX5_add_1 : decode cX5_add 1 = .ok (.ifCond .lt 22, 3) := by decide +kernel
theorem dX5_add_4 : decode cX5_add 4 = .ok (.iload_n 1, 1) := by decide +kernel
theorem dX5_add_5 : decode cX5_add 5 = .ok (.aload_n 0, 1) := by decide +kernel
theorem dX5_add_6 : decode cX5_add 6 = .ok (.getfield 7, 3) := by decide +kernel
theorem dX5_add_9 : decode cX5_add 9 = .ok (.arraylength, 1) := by decide +kernel
theorem dX5_add_10 : decode cX5_add 10 = .ok (.if_icmp .ge 13, 3) := by decide +kernel
theorem dX5_add_13 : decode cX5_add 13 = .ok (.aload_n 0, 1) := by decide +kernel
theorem dX5_add_14 : decode cX5_add 14 = .ok (.getfield 7, 3) := by decide +kernel
theorem dX5_add_17 : decode cX5_add 17 = .ok (.iload_n 1, 1) := by decide +kernel
theorem dX5_add_18 : decode cX5_add 18 = .ok (.dup2, 1) := by decide +kernel
theorem dX5_add_19 : decode cX5_add 19 = .ok (.iaload, 1) := by decide +kernel
theorem dX5_add_20 : decode cX5_add 20 = .ok (.iload_n 2, 1) := by decide +kernel
theorem dX5_add_21 : decode cX5_add 21 = .ok (.iadd, 1) := by decide +kernel
theorem dX5_add_22 : decode cX5_add 22 = .ok (.iastore, 1) := by decide +kernel
theorem dX5_add_23 : decode cX5_add 23 = .ok (.return_, 1) := by decide +kernel
theorem dX5_join_0 : decode cX5_join 0 = .ok (.iload_n 1, 1) := by decide +kernel
theorem dX5_join_1 : decode cX5_join 1 = .ok (.ifCond .lt 22, 3) := by decide +kernel
theorem dX5_join_4 : decode cX5_join 4 = .ok (.iload_n 1, 1) := by decide +kernel
theorem dX5_join_5 : decode cX5_join 5 = .ok (.aload_n 0, 1) := by decide +kernel
theorem dX5_join_6 : decode cX5_join 6 = .ok (.getfield 7, 3) := by decide +kernel
theorem dX5_join_9 : decode cX5_join 9 = .ok (.arraylength, 1) := by decide +kernel
theorem dX5_join_10 : decode cX5_join 10 = .ok (.if_icmp .ge 13, 3) := by decide +kernel
theorem dX5_join_13 : decode cX5_join 13 = .ok (.aload_n 0, 1) := by decide +kernel
theorem dX5_join_14 : decode cX5_join 14 = .ok (.getfield 7, 3) := by decide +kernel
theorem dX5_join_17 : decode cX5_join 17 = .ok (.iload_n 1, 1) := by decide +kernel
theorem dX5_join_18 : decode cX5_join 18 = .ok (.dup2, 1) := by decide +kernel
theorem dX5_join_19 : decode cX5_join 19 = .ok (.iaload, 1) := by decide +kernel
theorem dX5_join_20 : decode cX5_join 20 = .ok (.iload_n 2, 1) := by decide +kernel
theorem dX5_join_21 : decode cX5_join 21 = .ok (.ior, 1) := by decide +kernel
theorem dX5_join_22 : decode cX5_join 22 = .ok (.iastore, 1) := by decide +kernel
theorem dX5_join_23 : decode cX5_join 23 = .ok (.return_, 1) := by decide +kernel
theorem dX5_wipe_0 : decode cX5_wipe 0 = .ok (.iconst 0, 1) := by decide +kernel
theorem dX5_wipe_1 : decode cX5_wipe 1 = .ok (.istore_n 1, 1) := by decide +kernel
theorem dX5_wipe_2 : decode cX5_wipe 2 = .ok (.iload_n 1, 1) := by decide +kernel
theorem dX5_wipe_3 : decode cX5_wipe 3 = .ok (.aload_n 0, 1) := by decide +kernel
theorem dX5_wipe_4 : decode cX5_wipe 4 = .ok (.getfield 7, 3) := by decide +kernel
theorem dX5_wipe_7 : decode cX5_wipe 7 = .ok (.arraylength, 1) := by decide +kernel
theorem dX5_wipe_8 : decode cX5_wipe 8 = .ok (.if_icmp .ge 16, 3) := by decide +kernel
theorem dX5_wipe_11 : decode cX5_wipe 11 = .ok (.aload_n 0, 1) := by decide +kernel
theorem dX5_wipe_12 : decode cX5_wipe 12 = .ok (.getfield 7, 3) := by decide +kernel
theorem dX5_wipe_15 : decode cX5_wipe 15 = .ok (.iload_n 1, 1) := by decide +kernel
theorem dX5_wipe_16 : decode cX5_wipe 16 = .ok (.iconst 0, 1) := by decide +kernel
theorem dX5_wipe_17 : decode cX5_wipe 17 = .ok (.iastore, 1) := by decide +kernel
theorem dX5_wipe_18 : decode cX5_wipe 18 = .ok (.iinc 1 1, 3) := by decide +kernel
theorem dX5_wipe_21 : decode cX5_wipe 21 = .ok (.goto (-19), 3) := by decide +kernel
theorem dX5_wipe_24 : decode cX5_wipe 24 = .ok (.return_, 1) := by decide +kernel
theorem dX5_copyFrom_0 : decode cX5_copyFrom 0 = .ok (.iconst 0, 1) := by decide +kernel
theorem dX5_copyFrom_1 : decode cX5_copyFrom 1 = .ok (.istore_n 2, 1) := by decide +kernel
theorem dX5_copyFrom_2 : decode cX5_copyFrom 2 = .ok (.iload_n 2, 1) := by decide +kernel
theorem dX5_copyFrom_3 : decode cX5_copyFrom 3 = .ok (.aload_n 0, 1) := by decide +kernel
theorem dX5_copyFrom_4 : decode cX5_copyFrom 4 = .ok (.getfield 7, 3) := by decide +kernel
theorem dX5_copyFrom_7 : decode cX5_copyFrom 7 = .ok (.arraylength, 1) := by decide +kernel
theorem dX5_copyFrom_8 : decode cX5_copyFrom 8 = .ok (.if_icmp .ge 20, 3) := by decide +kernel
theorem dX5_copyFrom_11 : decode cX5_copyFrom 11 = .ok (.aload_n 0, 1) := by decide +kernel
theorem dX5_copyFrom_12 : decode cX5_copyFrom 12 = .ok (.getfield 7, 3) := by decide +kernel
theorem dX5_copyFrom_15 : decode cX5_copyFrom 15 = .ok (.iload_n 2, 1) := by decide +kernel
theorem dX5_copyFrom_16 : decode cX5_copyFrom 16 = .ok (.aload_n 1, 1) := by decide +kernel
theorem dX5_copyFrom_17 : decode cX5_copyFrom 17 = .ok (.iload_n 2, 1) := by decide +kernel
theorem dX5_copyFrom_18 : decode cX5_copyFrom 18 = .ok (.invokevirtual 13, 3) := by decide +kernel
theorem dX5_copyFrom_21 : decode cX5_copyFrom 21 = .ok (.iastore, 1) := by decide +kernel
theorem dX5_copyFrom_22 : decode cX5_copyFrom 22 = .ok (.iinc 2 1, 3) := by decide +kernel
theorem dX5_copyFrom_25 : decode cX5_copyFrom 25 = .ok (.goto (-23), 3) := by decide +kernel
theorem dX5_copyFrom_28 : decode cX5_copyFrom 28 = .ok (.return_, 1) := by decide +kernel
theorem dX6_init_0 : decode cX6_init 0 = .ok (.aload_n 0, 1) := by decide +kernel
theorem dX6_init_1 : decode cX6_init 1 = .ok (.invokespecial 3, 3) := by decide +kernel
theorem dX6_init_4 : decode cX6_init 4 = .ok (.aload_n 0, 1) := by decide +kernel
theorem dX6_init_5 : decode cX6_init 5 = .ok (.new 9, 3) := by decide +kernel
theorem dX6_init_8 : decode cX6_init 8 = .ok (.dup, 1) := by decide +kernel
theorem dX6_init_9 : decode cX6_init 9 = .ok (.iconst 3, 1) := by decide +kernel
theorem dX6_init_10 : decode cX6_init 10 = .ok (.invokespecial 11, 3) := by decide +kernel
theorem dX6_init_13 : decode cX6_init 13 = .ok (.putfield 14, 3) := by decide +kernel
theorem dX6_init_16 : decode cX6_init 16 = .ok (.aload_n 0, 1) := by decide +kernel
theorem dX6_init_17 : decode cX6_init 17 = .ok (.new 9, 3) := by decide +kernel
theorem dX6_init_20 : decode cX6_init 20 = .ok (.dup, 1) := by decide +kernel
theorem dX6_init_21 : decode cX6_init 21 = .ok (.bipush 8, 2) := by decide +kernel
theorem dX6_init_23 : decode cX6_init 23 = .ok (.invokespecial 11, 3) := by decide +kernel
theorem dX6_init_26 : decode cX6_init 26 = .ok (.putfield 20, 3) := by decide +kernel
theorem dX6_init_29 : decode cX6_init 29 = .ok (.aload_n 0, 1) := by decide +kernel
theorem dX6_init_30 : decode cX6_init 30 = .ok (.bipush 10, 2) := by decide +kernel
theorem dX6_init_32 : decode cX6_init 32 = .ok (.putfield 23, 3) := by decide +kernel
theorem dX6_init_35 : decode cX6_init 35 = .ok (.return_, 1) := by decide +kernel
theorem dX6_reset_0 : decode cX6_reset 0 = .ok (.aload_n 0, 1) := by decide +kernel
theorem dX6_reset_1 : decode cX6_reset 1 = .ok (.iconst 0, 1) := by decide +kernel
theorem dX6_reset_2 : decode cX6_reset 2 = .ok (.putfield 27, 3) := by decide +kernel
theorem dX6_reset_5 : decode cX6_reset 5 = .ok (.aload_n 0, 1) := by decide +kernel
theorem dX6_reset_6 : decode cX6_reset 6 = .ok (.iconst 0, 1) := by decide +kernel
theorem dX6_reset_7 : decode cX6_reset 7 = .ok (.putfield 30, 3) := by decide +kernel
theorem dX6_reset_10 : decode cX6_reset 10 = .ok (.aload_n 0, 1) := by decide +kernel
theorem dX6_reset_11 : decode cX6_reset 11 = .ok (.bipush 10, 2) := by decide +kernel
theorem dX6_reset_13 : decode cX6_reset 13 = .ok (.putfield 23, 3) := by decide +kernel
theorem dX6_reset_16 : decode cX6_reset 16 = .ok (.return_, 1) := by decide +kernel
theorem dX6_copyFrom_0 : decode cX6_copyFrom 0 = .ok (.aload_n 0, 1) := by decide +kernel
theorem dX6_copyFrom_1 : decode cX6_copyFrom 1 = .ok (.getfield 14, 3) := by decide +kernel
theorem dX6_copyFrom_4 : decode cX6_copyFrom 4 = .ok (.aload_n 1, 1) := by decide +kernel
theorem dX6_copyFrom_5 : decode cX6_copyFrom 5 = .ok (.getfield 14, 3) := by decide +kernel
theorem dX6_copyFrom_8 : decode cX6_copyFrom 8 = .ok (.invokevirtual 33, 3) := by decide +kernel
theorem dX6_copyFrom_11 : decode cX6_copyFrom 11 = .ok (.aload_n 0, 1) := by decide +kernel
theorem dX6_copyFrom_12 : decode cX6_copyFrom 12 = .ok (.aload_n 1, 1) := by decide +kernel
theorem dX6_copyFrom_13 : decode cX6_copyFrom 13 = .ok (.getfield 27, 3) := by decide +kernel
theorem dX6_copyFrom_16 : decode cX6_copyFrom 16 = .ok (.putfield 27, 3) := by decide +kernel
theorem dX6_copyFrom_19 : decode cX6_copyFrom 19 = .ok (.aload_n 0, 1) := by decide +kernel
theorem dX6_copyFrom_20 : decode cX6_copyFrom 20 = .ok (.aload_n 1, 1) := by decide +kernel
theorem dX6_copyFrom_21 : decode cX6_copyFrom 21 = .ok (.getfield 30, 3) := by decide +kernel
theorem dX6_copyFrom_24 : decode cX6_copyFrom 24 = .ok (.putfield 30, 3) := by decide +kernel
theorem dX6_copyFrom_27 : decode cX6_copyFrom 27 = .ok (.aload_n 0, 1) := by decide +kernel
theorem dX6_copyFrom_28 : decode cX6_copyFrom 28 = .ok (.aload_n 1, 1) := by decide +kernel
theorem dX6_copyFrom_29 : decode cX6_copyFrom 29 = .ok (.getfield 23, 3) := by decide +kernel
theorem dX6_copyFrom_32 : decode cX6_copyFrom 32 = .ok (.putfield 23, 3) := by decide +kernel
theorem dX6_copyFrom_35 : decode cX6_copyFrom 35 = .ok (.return_, 1) := by decide +kernel
theorem dX6_addThing_0 : decode cX6_addThing 0 = .ok (.aload_n 0, 1) := by decide +kernel
theorem dX6_addThing_1 : decode cX6_addThing 1 = .ok (.getfield 27, 3) := by decide +kernel
theorem dX6_addThing_4 : decode cX6_addThing 4 = .ok (.iconst 3, 1) := by decide +kernel
theorem dX6_addThing_5 : decode cX6_addThing 5 = .ok (.if_icmp .ge 25, 3) := by decide +kernel
theorem dX6_addThing_8 : decode cX6_addThing 8 = .ok (.aload_n 0, 1) := by decide +kernel
theorem dX6_addThing_9 : decode cX6_addThing 9 = .ok (.getfield 14, 3) := by decide +kernel
theorem dX6_addThing_12 : decode cX6_addThing 12 = .ok (.aload_n 0, 1) := by decide +kernel
theorem dX6_addThing_13 : decode cX6_addThing 13 = .ok (.getfield 27, 3) := by decide +kernel
theorem dX6_addThing_16 : decode cX6_addThing 16 = .ok (.iload_n 1, 1) := by decide +kernel
theorem dX6_addThing_17 : decode cX6_addThing 17 = .ok (.invokevirtual 37, 3) := by decide +kernel
theorem dX6_addThing_20 : decode cX6_addThing 20 = .ok (.aload_n 0, 1) := by decide +kernel
theorem dX6_addThing_21 : decode cX6_addThing 21 = .ok (.dup, 1) := by decide +kernel
theorem dX6_addThing_22 : decode cX6_addThing 22 = .ok (.getfield 27, 3) := by decide +kernel
theorem dX6_addThing_25 : decode cX6_addThing 25 = .ok (.iconst 1, 1) := by decide +kernel
theorem dX6_addThing_26 : decode cX6_addThing 26 = .ok (.iadd, 1) := by decide +kernel
theorem dX6_addThing_27 : decode cX6_addThing 27 = .ok (.putfield 27, 3) := by decide +kernel
theorem dX6_addThing_30 : decode cX6_addThing 30 = .ok (.return_, 1) := by decide +kernel
theorem dX6_setOwn_0 : decode cX6_setOwn 0 = .ok (.aload_n 0, 1) := by decide +kernel
theorem dX6_setOwn_1 : decode cX6_setOwn 1 = .ok (.iload_n 1, 1) := by decide +kernel
theorem dX6_setOwn_2 : decode cX6_setOwn 2 = .ok (.putfield 30, 3) := by decide +kernel
theorem dX6_setOwn_5 : decode cX6_setOwn 5 = .ok (.return_, 1) := by decide +kernel
theorem dX6_setFigures_0 : decode cX6_setFigures 0 = .ok (.aload_n 0, 1) := by decide +kernel
theorem dX6_setFigures_1 : decode cX6_setFigures 1 = .ok (.iload_n 1, 1) := by decide +kernel
theorem dX6_setFigures_2 : decode cX6_setFigures 2 = .ok (.putfield 23, 3) := by decide +kernel
theorem dX6_setFigures_5 : decode cX6_setFigures 5 = .ok (.return_, 1) := by decide +kernel
theorem dX6_things_0 : decode cX6_things 0 = .ok (.aload_n 0, 1) := by decide +kernel
theorem dX6_things_1 : decode cX6_things 1 = .ok (.getfield 27, 3) := by decide +kernel
theorem dX6_things_4 : decode cX6_things 4 = .ok (.ireturn, 1) := by decide +kernel
theorem dX6_sets_0 : decode cX6_sets 0 = .ok (.iconst 1, 1) := by decide +kernel
theorem dX6_sets_1 : decode cX6_sets 1 = .ok (.aload_n 0, 1) := by decide +kernel
theorem dX6_sets_2 : decode cX6_sets 2 = .ok (.getfield 27, 3) := by decide +kernel
theorem dX6_sets_5 : decode cX6_sets 5 = .ok (.ishl, 1) := by decide +kernel
theorem dX6_sets_6 : decode cX6_sets 6 = .ok (.ireturn, 1) := by decide +kernel
theorem dX6_own_0 : decode cX6_own 0 = .ok (.aload_n 0, 1) := by decide +kernel
theorem dX6_own_1 : decode cX6_own 1 = .ok (.getfield 30, 3) := by decide +kernel
theorem dX6_own_4 : decode cX6_own 4 = .ok (.ireturn, 1) := by decide +kernel
theorem dX6_figures_0 : decode cX6_figures 0 = .ok (.aload_n 0, 1) := by decide +kernel
theorem dX6_figures_1 : decode cX6_figures 1 = .ok (.getfield 23, 3) := by decide +kernel
theorem dX6_figures_4 : decode cX6_figures 4 = .ok (.ireturn, 1) := by decide +kernel
theorem dX6_weightOf_0 : decode cX6_weightOf 0 = .ok (.iload_n 1, 1) := by decide +kernel
theorem dX6_weightOf_1 : decode cX6_weightOf 1 = .ok (.iconst 3, 1) := by decide +kernel
theorem dX6_weightOf_2 : decode cX6_weightOf 2 = .ok (.if_icmp .ne 10, 3) := by decide +kernel
theorem dX6_weightOf_5 : decode cX6_weightOf 5 = .ok (.aload_n 0, 1) := by decide +kernel
theorem dX6_weightOf_6 : decode cX6_weightOf 6 = .ok (.getfield 30, 3) := by decide +kernel
theorem dX6_weightOf_9 : decode cX6_weightOf 9 = .ok (.goto 11, 3) := by decide +kernel
theorem dX6_weightOf_12 : decode cX6_weightOf 12 = .ok (.aload_n 0, 1) := by decide +kernel
theorem dX6_weightOf_13 : decode cX6_weightOf 13 = .ok (.getfield 14, 3) := by decide +kernel
theorem dX6_weightOf_16 : decode cX6_weightOf 16 = .ok (.iload_n 1, 1) := by decide +kernel
theorem dX6_weightOf_17 : decode cX6_weightOf 17 = .ok (.invokevirtual 41, 3) := by decide +kernel
theorem dX6_weightOf_20 : decode cX6_weightOf 20 = .ok (.ireturn, 1) := by decide +kernel
theorem dX6_loadOf_0 : decode cX6_loadOf 0 = .ok (.iconst 0, 1) := by decide +kernel
theorem dX6_loadOf_1 : decode cX6_loadOf 1 = .ok (.istore_n 2, 1) := by decide +kernel
theorem dX6_loadOf_2 : decode cX6_loadOf 2 = .ok (.iconst 0, 1) := by decide +kernel
theorem dX6_loadOf_3 : decode cX6_loadOf 3 = .ok (.istore_n 3, 1) := by decide +kernel
theorem dX6_loadOf_4 : decode cX6_loadOf 4 = .ok (.iload_n 3, 1) := by decide +kernel
theorem dX6_loadOf_5 : decode cX6_loadOf 5 = .ok (.aload_n 0, 1) := by decide +kernel
theorem dX6_loadOf_6 : decode cX6_loadOf 6 = .ok (.getfield 27, 3) := by decide +kernel
theorem dX6_loadOf_9 : decode cX6_loadOf 9 = .ok (.if_icmp .ge 29, 3) := by decide +kernel
theorem dX6_loadOf_12 : decode cX6_loadOf 12 = .ok (.iload_n 1, 1) := by decide +kernel
theorem dX6_loadOf_13 : decode cX6_loadOf 13 = .ok (.iload_n 3, 1) := by decide +kernel
theorem dX6_loadOf_14 : decode cX6_loadOf 14 = .ok (.ishr, 1) := by decide +kernel
theorem dX6_loadOf_15 : decode cX6_loadOf 15 = .ok (.iconst 1, 1) := by decide +kernel
theorem dX6_loadOf_16 : decode cX6_loadOf 16 = .ok (.iand, 1) := by decide +kernel
theorem dX6_loadOf_17 : decode cX6_loadOf 17 = .ok (.iconst 1, 1) := by decide +kernel
theorem dX6_loadOf_18 : decode cX6_loadOf 18 = .ok (.if_icmp .ne 14, 3) := by decide +kernel
theorem dX6_loadOf_21 : decode cX6_loadOf 21 = .ok (.iload_n 2, 1) := by decide +kernel
theorem dX6_loadOf_22 : decode cX6_loadOf 22 = .ok (.aload_n 0, 1) := by decide +kernel
theorem dX6_loadOf_23 : decode cX6_loadOf 23 = .ok (.getfield 14, 3) := by decide +kernel
theorem dX6_loadOf_26 : decode cX6_loadOf 26 = .ok (.iload_n 3, 1) := by decide +kernel
theorem dX6_loadOf_27 : decode cX6_loadOf 27 = .ok (.invokevirtual 41, 3) := by decide +kernel
theorem dX6_loadOf_30 : decode cX6_loadOf 30 = .ok (.iadd, 1) := by decide +kernel
theorem dX6_loadOf_31 : decode cX6_loadOf 31 = .ok (.istore_n 2, 1) := by decide +kernel
theorem dX6_loadOf_32 : decode cX6_loadOf 32 = .ok (.iinc 3 1, 3) := by decide +kernel
theorem dX6_loadOf_35 : decode cX6_loadOf 35 = .ok (.goto (-31), 3) := by decide +kernel
theorem dX6_loadOf_38 : decode cX6_loadOf 38 = .ok (.iload_n 2, 1) := by decide +kernel
theorem dX6_loadOf_39 : decode cX6_loadOf 39 = .ok (.ireturn, 1) := by decide +kernel
theorem dX6_leftOver_0 : decode cX6_leftOver 0 = .ok (.aload_n 0, 1) := by decide +kernel
theorem dX6_leftOver_1 : decode cX6_leftOver 1 = .ok (.getfield 23, 3) := by decide +kernel
theorem dX6_leftOver_4 : decode cX6_leftOver 4 = .ok (.iconst 1, 1) := by decide +kernel
theorem dX6_leftOver_5 : decode cX6_leftOver 5 = .ok (.if_icmp .ge 7, 3) := by decide +kernel
theorem dX6_leftOver_8 : decode cX6_leftOver 8 = .ok (.iconst 0, 1) := by decide +kernel
theorem dX6_leftOver_9 : decode cX6_leftOver 9 = .ok (.goto 9, 3) := by decide +kernel
theorem dX6_leftOver_12 : decode cX6_leftOver 12 = .ok (.iload_n 1, 1) := by decide +kernel
theorem dX6_leftOver_13 : decode cX6_leftOver 13 = .ok (.aload_n 0, 1) := by decide +kernel
theorem dX6_leftOver_14 : decode cX6_leftOver 14 = .ok (.getfield 23, 3) := by decide +kernel
theorem dX6_leftOver_17 : decode cX6_leftOver 17 = .ok (.irem, 1) := by decide +kernel
theorem dX6_leftOver_18 : decode cX6_leftOver 18 = .ok (.ireturn, 1) := by decide +kernel
theorem dX6_sidesOf_0 : decode cX6_sidesOf 0 = .ok (.iconst 4, 1) := by decide +kernel
theorem dX6_sidesOf_1 : decode cX6_sidesOf 1 = .ok (.istore_n 2, 1) := by decide +kernel
theorem dX6_sidesOf_2 : decode cX6_sidesOf 2 = .ok (.iconst (-1), 1) := by decide +kernel
theorem dX6_sidesOf_3 : decode cX6_sidesOf 3 = .ok (.istore_n 3, 1) := by decide +kernel
theorem dX6_sidesOf_4 : decode cX6_sidesOf 4 = .ok (.iconst 0, 1) := by decide +kernel
theorem dX6_sidesOf_5 : decode cX6_sidesOf 5 = .ok (.istore 4, 2) := by decide +kernel
theorem dX6_sidesOf_7 : decode cX6_sidesOf 7 = .ok (.iload 4, 2) := by decide +kernel
theorem dX6_sidesOf_9 : decode cX6_sidesOf 9 = .ok (.aload_n 0, 1) := by decide +kernel
theorem dX6_sidesOf_10 : decode cX6_sidesOf 10 = .ok (.invokevirtual 45, 3) := by decide +kernel
theorem dX6_sidesOf_13 : decode cX6_sidesOf 13 = .ok (.if_icmp .ge 95, 3) := by decide +kernel
theorem dX6_sidesOf_16 : decode cX6_sidesOf 16 = .ok (.iconst 0, 1) := by decide +kernel
theorem dX6_sidesOf_17 : decode cX6_sidesOf 17 = .ok (.istore 5, 2) := by decide +kernel
theorem dX6_sidesOf_19 : decode cX6_sidesOf 19 = .ok (.iload 5, 2) := by decide +kernel
theorem dX6_sidesOf_21 : decode cX6_sidesOf 21 = .ok (.aload_n 0, 1) := by decide +kernel
theorem dX6_sidesOf_22 : decode cX6_sidesOf 22 = .ok (.invokevirtual 45, 3) := by decide +kernel
theorem dX6_sidesOf_25 : decode cX6_sidesOf 25 = .ok (.if_icmp .ge 77, 3) := by decide +kernel
theorem dX6_sidesOf_28 : decode cX6_sidesOf 28 = .ok (.iload 4, 2) := by decide +kernel
theorem dX6_sidesOf_30 : decode cX6_sidesOf 30 = .ok (.invokestatic 49, 3) := by decide +kernel
theorem dX6_sidesOf_33 : decode cX6_sidesOf 33 = .ok (.iload 5, 2) := by decide +kernel
theorem dX6_sidesOf_35 : decode cX6_sidesOf 35 = .ok (.invokestatic 49, 3) := by decide +kernel
theorem dX6_sidesOf_38 : decode cX6_sidesOf 38 = .ok (.iadd, 1) := by decide +kernel
theorem dX6_sidesOf_39 : decode cX6_sidesOf 39 = .ok (.istore 6, 2) := by decide +kernel
theorem dX6_sidesOf_41 : decode cX6_sidesOf 41 = .ok (.iload 4, 2) := by decide +kernel
theorem dX6_sidesOf_43 : decode cX6_sidesOf 43 = .ok (.iload 5, 2) := by decide +kernel
theorem dX6_sidesOf_45 : decode cX6_sidesOf 45 = .ok (.iand, 1) := by decide +kernel
theorem dX6_sidesOf_46 : decode cX6_sidesOf 46 = .ok (.ifCond .ne 24, 3) := by decide +kernel
theorem dX6_sidesOf_49 : decode cX6_sidesOf 49 = .ok (.aload_n 0, 1) := by decide +kernel
theorem dX6_sidesOf_50 : decode cX6_sidesOf 50 = .ok (.iload 4, 2) := by decide +kernel
theorem dX6_sidesOf_52 : decode cX6_sidesOf 52 = .ok (.invokevirtual 54, 3) := by decide +kernel
theorem dX6_sidesOf_55 : decode cX6_sidesOf 55 = .ok (.aload_n 0, 1) := by decide +kernel
theorem dX6_sidesOf_56 : decode cX6_sidesOf 56 = .ok (.iload 5, 2) := by decide +kernel
theorem dX6_sidesOf_58 : decode cX6_sidesOf 58 = .ok (.invokevirtual 54, 3) := by decide +kernel
theorem dX6_sidesOf_61 : decode cX6_sidesOf 61 = .ok (.isub, 1) := by decide +kernel
theorem dX6_sidesOf_62 : decode cX6_sidesOf 62 = .ok (.iload_n 1, 1) := by decide +kernel
theorem dX6_sidesOf_63 : decode cX6_sidesOf 63 = .ok (.if_icmp .ne 7, 3) := by decide +kernel
theorem dX6_sidesOf_66 : decode cX6_sidesOf 66 = .ok (.iconst 1, 1) := by decide +kernel
theorem dX6_sidesOf_67 : decode cX6_sidesOf 67 = .ok (.goto 4, 3) := by decide +kernel
theorem dX6_sidesOf_70 : decode cX6_sidesOf 70 = .ok (.iconst 0, 1) := by decide +kernel
theorem dX6_sidesOf_71 : decode cX6_sidesOf 71 = .ok (.istore 7, 2) := by decide +kernel
theorem dX6_sidesOf_73 : decode cX6_sidesOf 73 = .ok (.iload 7, 2) := by decide +kernel
theorem dX6_sidesOf_75 : decode cX6_sidesOf 75 = .ok (.ifCond .eq 21, 3) := by decide +kernel
theorem dX6_sidesOf_78 : decode cX6_sidesOf 78 = .ok (.iload 6, 2) := by decide +kernel
theorem dX6_sidesOf_80 : decode cX6_sidesOf 80 = .ok (.iload_n 2, 1) := by decide +kernel
theorem dX6_sidesOf_81 : decode cX6_sidesOf 81 = .ok (.if_icmp .ge 15, 3) := by decide +kernel
theorem dX6_sidesOf_84 : decode cX6_sidesOf 84 = .ok (.iload 6, 2) := by decide +kernel
theorem dX6_sidesOf_86 : decode cX6_sidesOf 86 = .ok (.istore_n 2, 1) := by decide +kernel
theorem dX6_sidesOf_87 : decode cX6_sidesOf 87 = .ok (.iload 4, 2) := by decide +kernel
theorem dX6_sidesOf_89 : decode cX6_sidesOf 89 = .ok (.bipush 8, 2) := by decide +kernel
theorem dX6_sidesOf_91 : decode cX6_sidesOf 91 = .ok (.imul, 1) := by decide +kernel
theorem dX6_sidesOf_92 : decode cX6_sidesOf 92 = .ok (.iload 5, 2) := by decide +kernel
theorem dX6_sidesOf_94 : decode cX6_sidesOf 94 = .ok (.iadd, 1) := by decide +kernel
theorem dX6_sidesOf_95 : decode cX6_sidesOf 95 = .ok (.istore_n 3, 1) := by decide +kernel
theorem dX6_sidesOf_96 : decode cX6_sidesOf 96 = .ok (.iinc 5 1, 3) := by decide +kernel
theorem dX6_sidesOf_99 : decode cX6_sidesOf 99 = .ok (.goto (-80), 3) := by decide +kernel
theorem dX6_sidesOf_102 : decode cX6_sidesOf 102 = .ok (.iinc 4 1, 3) := by decide +kernel
theorem dX6_sidesOf_105 : decode cX6_sidesOf 105 = .ok (.goto (-98), 3) := by decide +kernel
theorem dX6_sidesOf_108 : decode cX6_sidesOf 108 = .ok (.iload_n 3, 1) := by decide +kernel
theorem dX6_sidesOf_109 : decode cX6_sidesOf 109 = .ok (.ireturn, 1) := by decide +kernel
theorem dX6_shownByTurns_0 : decode cX6_shownByTurns 0 = .ok (.aload_n 0, 1) := by decide +kernel
theorem dX6_shownByTurns_1 : decode cX6_shownByTurns 1 = .ok (.invokevirtual 45, 3) := by decide +kernel
theorem dX6_shownByTurns_4 : decode cX6_shownByTurns 4 = .ok (.iconst 1, 1) := by decide +kernel
theorem dX6_shownByTurns_5 : decode cX6_shownByTurns 5 = .ok (.isub, 1) := by decide +kernel
theorem dX6_shownByTurns_6 : decode cX6_shownByTurns 6 = .ok (.istore_n 1, 1) := by decide +kernel
theorem dX6_shownByTurns_7 : decode cX6_shownByTurns 7 = .ok (.iload_n 1, 1) := by decide +kernel
theorem dX6_shownByTurns_8 : decode cX6_shownByTurns 8 = .ok (.ifCond .lt 22, 3) := by decide +kernel
theorem dX6_shownByTurns_11 : decode cX6_shownByTurns 11 = .ok (.aload_n 0, 1) := by decide +kernel
theorem dX6_shownByTurns_12 : decode cX6_shownByTurns 12 = .ok (.getfield 20, 3) := by decide +kernel
theorem dX6_shownByTurns_15 : decode cX6_shownByTurns 15 = .ok (.iload_n 1, 1) := by decide +kernel
theorem dX6_shownByTurns_16 : decode cX6_shownByTurns 16 = .ok (.aload_n 0, 1) := by decide +kernel
theorem dX6_shownByTurns_17 : decode cX6_shownByTurns 17 = .ok (.iload_n 1, 1) := by decide +kernel
theorem dX6_shownByTurns_18 : decode cX6_shownByTurns 18 = .ok (.invokevirtual 57, 3) := by decide +kernel
theorem dX6_shownByTurns_21 : decode cX6_shownByTurns 21 = .ok (.invokevirtual 37, 3) := by decide +kernel
theorem dX6_shownByTurns_24 : decode cX6_shownByTurns 24 = .ok (.iinc 1 (-1), 3) := by decide +kernel
theorem dX6_shownByTurns_27 : decode cX6_shownByTurns 27 = .ok (.goto (-20), 3) := by decide +kernel
theorem dX6_shownByTurns_30 : decode cX6_shownByTurns 30 = .ok (.aload_n 0, 1) := by decide +kernel
theorem dX6_shownByTurns_31 : decode cX6_shownByTurns 31 = .ok (.getfield 20, 3) := by decide +kernel
theorem dX6_shownByTurns_34 : decode cX6_shownByTurns 34 = .ok (.iconst 0, 1) := by decide +kernel
theorem dX6_shownByTurns_35 : decode cX6_shownByTurns 35 = .ok (.invokevirtual 41, 3) := by decide +kernel
theorem dX6_shownByTurns_38 : decode cX6_shownByTurns 38 = .ok (.ireturn, 1) := by decide +kernel
theorem dX6_outcomeFrom_0 : decode cX6_outcomeFrom 0 = .ok (.iload_n 1, 1) := by decide +kernel
theorem dX6_outcomeFrom_1 : decode cX6_outcomeFrom 1 = .ok (.invokestatic 49, 3) := by decide +kernel
theorem dX6_outcomeFrom_4 : decode cX6_outcomeFrom 4 = .ok (.iconst 2, 1) := by decide +kernel
theorem dX6_outcomeFrom_5 : decode cX6_outcomeFrom 5 = .ok (.irem, 1) := by decide +kernel
theorem dX6_outcomeFrom_6 : decode cX6_outcomeFrom 6 = .ok (.ifCond .ne 7, 3) := by decide +kernel
theorem dX6_outcomeFrom_9 : decode cX6_outcomeFrom 9 = .ok (.iconst 1, 1) := by decide +kernel
theorem dX6_outcomeFrom_10 : decode cX6_outcomeFrom 10 = .ok (.goto 4, 3) := by decide +kernel
theorem dX6_outcomeFrom_13 : decode cX6_outcomeFrom 13 = .ok (.iconst 0, 1) := by decide +kernel
theorem dX6_outcomeFrom_14 : decode cX6_outcomeFrom 14 = .ok (.istore_n 2, 1) := by decide +kernel
theorem dX6_outcomeFrom_15 : decode cX6_outcomeFrom 15 = .ok (.aload_n 0, 1) := by decide +kernel
theorem dX6_outcomeFrom_16 : decode cX6_outcomeFrom 16 = .ok (.aload_n 0, 1) := by decide +kernel
theorem dX6_outcomeFrom_17 : decode cX6_outcomeFrom 17 = .ok (.iload_n 1, 1) := by decide +kernel
theorem dX6_outcomeFrom_18 : decode cX6_outcomeFrom 18 = .ok (.invokevirtual 54, 3) := by decide +kernel
theorem dX6_outcomeFrom_21 : decode cX6_outcomeFrom 21 = .ok (.aload_n 0, 1) := by decide +kernel
theorem dX6_outcomeFrom_22 : decode cX6_outcomeFrom 22 = .ok (.getfield 30, 3) := by decide +kernel
theorem dX6_outcomeFrom_25 : decode cX6_outcomeFrom 25 = .ok (.iadd, 1) := by decide +kernel
theorem dX6_outcomeFrom_26 : decode cX6_outcomeFrom 26 = .ok (.invokevirtual 60, 3) := by decide +kernel
theorem dX6_outcomeFrom_29 : decode cX6_outcomeFrom 29 = .ok (.istore_n 3, 1) := by decide +kernel
theorem dX6_outcomeFrom_30 : decode cX6_outcomeFrom 30 = .ok (.iconst 0, 1) := by decide +kernel
theorem dX6_outcomeFrom_31 : decode cX6_outcomeFrom 31 = .ok (.istore 4, 2) := by decide +kernel
theorem dX6_outcomeFrom_33 : decode cX6_outcomeFrom 33 = .ok (.iload 4, 2) := by decide +kernel
theorem dX6_outcomeFrom_35 : decode cX6_outcomeFrom 35 = .ok (.aload_n 0, 1) := by decide +kernel
theorem dX6_outcomeFrom_36 : decode cX6_outcomeFrom 36 = .ok (.getfield 27, 3) := by decide +kernel
theorem dX6_outcomeFrom_39 : decode cX6_outcomeFrom 39 = .ok (.if_icmp .ge 53, 3) := by decide +kernel
theorem dX6_outcomeFrom_42 : decode cX6_outcomeFrom 42 = .ok (.iload_n 1, 1) := by decide +kernel
theorem dX6_outcomeFrom_43 : decode cX6_outcomeFrom 43 = .ok (.iload 4, 2) := by decide +kernel
theorem dX6_outcomeFrom_45 : decode cX6_outcomeFrom 45 = .ok (.ishr, 1) := by decide +kernel
theorem dX6_outcomeFrom_46 : decode cX6_outcomeFrom 46 = .ok (.iconst 1, 1) := by decide +kernel
theorem dX6_outcomeFrom_47 : decode cX6_outcomeFrom 47 = .ok (.iand, 1) := by decide +kernel
theorem dX6_outcomeFrom_48 : decode cX6_outcomeFrom 48 = .ok (.ifCond .ne 38, 3) := by decide +kernel
theorem dX6_outcomeFrom_51 : decode cX6_outcomeFrom 51 = .ok (.aload_n 0, 1) := by decide +kernel
theorem dX6_outcomeFrom_52 : decode cX6_outcomeFrom 52 = .ok (.getfield 20, 3) := by decide +kernel
theorem dX6_outcomeFrom_55 : decode cX6_outcomeFrom 55 = .ok (.iload_n 1, 1) := by decide +kernel
theorem dX6_outcomeFrom_56 : decode cX6_outcomeFrom 56 = .ok (.iconst 1, 1) := by decide +kernel
theorem dX6_outcomeFrom_57 : decode cX6_outcomeFrom 57 = .ok (.iload 4, 2) := by decide +kernel
theorem dX6_outcomeFrom_59 : decode cX6_outcomeFrom 59 = .ok (.ishl, 1) := by decide +kernel
theorem dX6_outcomeFrom_60 : decode cX6_outcomeFrom 60 = .ok (.ior, 1) := by decide +kernel
theorem dX6_outcomeFrom_61 : decode cX6_outcomeFrom 61 = .ok (.invokevirtual 41, 3) := by decide +kernel
theorem dX6_outcomeFrom_64 : decode cX6_outcomeFrom 64 = .ok (.istore 5, 2) := by decide +kernel
theorem dX6_outcomeFrom_66 : decode cX6_outcomeFrom 66 = .ok (.iload_n 2, 1) := by decide +kernel
theorem dX6_outcomeFrom_67 : decode cX6_outcomeFrom 67 = .ok (.ifCond .eq 12, 3) := by decide +kernel
theorem dX6_outcomeFrom_70 : decode cX6_outcomeFrom 70 = .ok (.iload_n 3, 1) := by decide +kernel
theorem dX6_outcomeFrom_71 : decode cX6_outcomeFrom 71 = .ok (.iload 5, 2) := by decide +kernel
theorem dX6_outcomeFrom_73 : decode cX6_outcomeFrom 73 = .ok (.invokestatic 63, 3) := by decide +kernel
theorem dX6_outcomeFrom_76 : decode cX6_outcomeFrom 76 = .ok (.goto 9, 3) := by decide +kernel
theorem dX6_outcomeFrom_79 : decode cX6_outcomeFrom 79 = .ok (.iload_n 3, 1) := by decide +kernel
theorem dX6_outcomeFrom_80 : decode cX6_outcomeFrom 80 = .ok (.iload 5, 2) := by decide +kernel
theorem dX6_outcomeFrom_82 : decode cX6_outcomeFrom 82 = .ok (.invokestatic 69, 3) := by decide +kernel
theorem dX6_outcomeFrom_85 : decode cX6_outcomeFrom 85 = .ok (.istore_n 3, 1) := by decide +kernel
theorem dX6_outcomeFrom_86 : decode cX6_outcomeFrom 86 = .ok (.iinc 4 1, 3) := by decide +kernel
theorem dX6_outcomeFrom_89 : decode cX6_outcomeFrom 89 = .ok (.goto (-56), 3) := by decide +kernel
theorem dX6_outcomeFrom_92 : decode cX6_outcomeFrom 92 = .ok (.iload_n 3, 1) := by decide +kernel
theorem dX6_outcomeFrom_93 : decode cX6_outcomeFrom 93 = .ok (.ireturn, 1) := by decide +kernel
theorem dX7_init_0 : decode cX7_init 0 = .ok (.aload_n 0, 1) := by decide +kernel
theorem dX7_init_1 : decode cX7_init 1 = .ok (.invokespecial 3, 3) := by decide +kernel
theorem dX7_init_4 : decode cX7_init 4 = .ok (.aload_n 0, 1) := by decide +kernel
theorem dX7_init_5 : decode cX7_init 5 = .ok (.new 9, 3) := by decide +kernel
theorem dX7_init_8 : decode cX7_init 8 = .ok (.dup, 1) := by decide +kernel
theorem dX7_init_9 : decode cX7_init 9 = .ok (.sipush 200, 3) := by decide +kernel
theorem dX7_init_12 : decode cX7_init 12 = .ok (.invokespecial 11, 3) := by decide +kernel
theorem dX7_init_15 : decode cX7_init 15 = .ok (.putfield 14, 3) := by decide +kernel
theorem dX7_init_18 : decode cX7_init 18 = .ok (.return_, 1) := by decide +kernel
theorem dX7_length_0 : decode cX7_length 0 = .ok (.aload_n 0, 1) := by decide +kernel
theorem dX7_length_1 : decode cX7_length 1 = .ok (.getfield 20, 3) := by decide +kernel
theorem dX7_length_4 : decode cX7_length 4 = .ok (.ireturn, 1) := by decide +kernel
theorem dX7_byteAt_0 : decode cX7_byteAt 0 = .ok (.iload_n 1, 1) := by decide +kernel
theorem dX7_byteAt_1 : decode cX7_byteAt 1 = .ok (.aload_n 0, 1) := by decide +kernel
theorem dX7_byteAt_2 : decode cX7_byteAt 2 = .ok (.getfield 20, 3) := by decide +kernel
theorem dX7_byteAt_5 : decode cX7_byteAt 5 = .ok (.if_icmp .ge 14, 3) := by decide +kernel
theorem dX7_byteAt_8 : decode cX7_byteAt 8 = .ok (.aload_n 0, 1) := by decide +kernel
theorem dX7_byteAt_9 : decode cX7_byteAt 9 = .ok (.getfield 14, 3) := by decide +kernel
theorem dX7_byteAt_12 : decode cX7_byteAt 12 = .ok (.iload_n 1, 1) := by decide +kernel
theorem dX7_byteAt_13 : decode cX7_byteAt 13 = .ok (.invokevirtual 24, 3) := by decide +kernel
theorem dX7_byteAt_16 : decode cX7_byteAt 16 = .ok (.goto 4, 3) := by decide +kernel
theorem dX7_byteAt_19 : decode cX7_byteAt 19 = .ok (.iconst (-1), 1) := by decide +kernel
theorem dX7_byteAt_20 : decode cX7_byteAt 20 = .ok (.ireturn, 1) := by decide +kernel
theorem dX7_append_0 : decode cX7_append 0 = .ok (.aload_n 0, 1) := by decide +kernel
theorem dX7_append_1 : decode cX7_append 1 = .ok (.getfield 20, 3) := by decide +kernel
theorem dX7_append_4 : decode cX7_append 4 = .ok (.sipush 200, 3) := by decide +kernel
theorem dX7_append_7 : decode cX7_append 7 = .ok (.if_icmp .ge 25, 3) := by decide +kernel
theorem dX7_append_10 : decode cX7_append 10 = .ok (.aload_n 0, 1) := by decide +kernel
theorem dX7_append_11 : decode cX7_append 11 = .ok (.getfield 14, 3) := by decide +kernel
theorem dX7_append_14 : decode cX7_append 14 = .ok (.aload_n 0, 1) := by decide +kernel
theorem dX7_append_15 : decode cX7_append 15 = .ok (.getfield 20, 3) := by decide +kernel
theorem dX7_append_18 : decode cX7_append 18 = .ok (.iload_n 1, 1) := by decide +kernel
theorem dX7_append_19 : decode cX7_append 19 = .ok (.invokevirtual 28, 3) := by decide +kernel
theorem dX7_append_22 : decode cX7_append 22 = .ok (.aload_n 0, 1) := by decide +kernel
theorem dX7_append_23 : decode cX7_append 23 = .ok (.dup, 1) := by decide +kernel
theorem dX7_append_24 : decode cX7_append 24 = .ok (.getfield 20, 3) := by decide +kernel
theorem dX7_append_27 : decode cX7_append 27 = .ok (.iconst 1, 1) := by decide +kernel
theorem dX7_append_28 : decode cX7_append 28 = .ok (.iadd, 1) := by decide +kernel
theorem dX7_append_29 : decode cX7_append 29 = .ok (.putfield 20, 3) := by decide +kernel
theorem dX7_append_32 : decode cX7_append 32 = .ok (.return_, 1) := by decide +kernel
theorem dX7_wipe_0 : decode cX7_wipe 0 = .ok (.aload_n 0, 1) := by decide +kernel
theorem dX7_wipe_1 : decode cX7_wipe 1 = .ok (.iconst 0, 1) := by decide +kernel
theorem dX7_wipe_2 : decode cX7_wipe 2 = .ok (.putfield 20, 3) := by decide +kernel
theorem dX7_wipe_5 : decode cX7_wipe 5 = .ok (.return_, 1) := by decide +kernel
theorem dX7_has_0 : decode cX7_has 0 = .ok (.iload_n 3, 1) := by decide +kernel
theorem dX7_has_1 : decode cX7_has 1 = .ok (.iload_n 2, 1) := by decide +kernel
theorem dX7_has_2 : decode cX7_has 2 = .ok (.isub, 1) := by decide +kernel
theorem dX7_has_3 : decode cX7_has 3 = .ok (.aload_n 1, 1) := by decide +kernel
theorem dX7_has_4 : decode cX7_has 4 = .ok (.invokevirtual 32, 3) := by decide +kernel
theorem dX7_has_7 : decode cX7_has 7 = .ok (.if_icmp .eq 5, 3) := by decide +kernel
theorem dX7_has_10 : decode cX7_has 10 = .ok (.iconst 0, 1) := by decide +kernel
theorem dX7_has_11 : decode cX7_has 11 = .ok (.ireturn, 1) := by decide +kernel
theorem dX7_has_12 : decode cX7_has 12 = .ok (.iconst 0, 1) := by decide +kernel
theorem dX7_has_13 : decode cX7_has 13 = .ok (.istore 4, 2) := by decide +kernel
theorem dX7_has_15 : decode cX7_has 15 = .ok (.iload 4, 2) := by decide +kernel
theorem dX7_has_17 : decode cX7_has 17 = .ok (.aload_n 1, 1) := by decide +kernel
theorem dX7_has_18 : decode cX7_has 18 = .ok (.invokevirtual 32, 3) := by decide +kernel
theorem dX7_has_21 : decode cX7_has 21 = .ok (.if_icmp .ge 28, 3) := by decide +kernel
theorem dX7_has_24 : decode cX7_has 24 = .ok (.aload_n 0, 1) := by decide +kernel
theorem dX7_has_25 : decode cX7_has 25 = .ok (.iload_n 2, 1) := by decide +kernel
theorem dX7_has_26 : decode cX7_has 26 = .ok (.iload 4, 2) := by decide +kernel
theorem dX7_has_28 : decode cX7_has 28 = .ok (.iadd, 1) := by decide +kernel
theorem dX7_has_29 : decode cX7_has 29 = .ok (.invokevirtual 37, 3) := by decide +kernel
theorem dX7_has_32 : decode cX7_has 32 = .ok (.aload_n 1, 1) := by decide +kernel
theorem dX7_has_33 : decode cX7_has 33 = .ok (.iload 4, 2) := by decide +kernel
theorem dX7_has_35 : decode cX7_has 35 = .ok (.invokevirtual 40, 3) := by decide +kernel
theorem dX7_has_38 : decode cX7_has 38 = .ok (.if_icmp .eq 5, 3) := by decide +kernel
theorem dX7_has_41 : decode cX7_has 41 = .ok (.iconst 0, 1) := by decide +kernel
theorem dX7_has_42 : decode cX7_has 42 = .ok (.ireturn, 1) := by decide +kernel
theorem dX7_has_43 : decode cX7_has 43 = .ok (.iinc 4 1, 3) := by decide +kernel
theorem dX7_has_46 : decode cX7_has 46 = .ok (.goto (-31), 3) := by decide +kernel
theorem dX7_has_49 : decode cX7_has 49 = .ok (.iconst 1, 1) := by decide +kernel
theorem dX7_has_50 : decode cX7_has 50 = .ok (.ireturn, 1) := by decide +kernel
