theorem dX4_init_0 : decode cX4_init 0 = .ok (.aload_n 0, 1) := by decide +kernel
theorem dX4_init_1 : decode cX4_init 1 = .ok (.invokespecial 3, 3) := by decide +kernel
theorem dX4_init_4 : decode cX4_init 4 = .ok (.aload_n 0, 1) := by decide +kernel
theorem dX4_init_5 : decode cX4_init 5 = .ok (.new 9, 3) := by decide +kernel
theorem dX4_init_8 : decode cX4_init 8 = .ok (.dup, 1) := by decide +kernel
theorem dX4_init_9 : decode cX4_init 9 = .ok (.invokespecial 11, 3) := by decide +kernel
theorem dX4_init_12 : decode cX4_init 12 = .ok (.putfield 12, 3) := by decide +kernel
theorem dX4_init_15 : decode cX4_init 15 = .ok (.aload_n 0, 1) := by decide +kernel
theorem dX4_init_16 : decode cX4_init 16 = .ok (.aload_n 1, 1) := by decide +kernel
theorem dX4_init_17 : decode cX4_init 17 = .ok (.putfield 18, 3) := by decide +kernel
theorem dX4_init_20 : decode cX4_init 20 = .ok (.return_, 1) := by decide +kernel
theorem dX4_told_0 : decode cX4_told 0 = .ok (.aload_n 0, 1) := by decide +kernel
theorem dX4_told_1 : decode cX4_told 1 = .ok (.getfield 12, 3) := by decide +kernel
theorem dX4_told_4 : decode cX4_told 4 = .ok (.areturn, 1) := by decide +kernel
theorem dX4_items_0 : decode cX4_items 0 = .ok (.aload_n 0, 1) := by decide +kernel
theorem dX4_items_1 : decode cX4_items 1 = .ok (.getfield 22, 3) := by decide +kernel
theorem dX4_items_4 : decode cX4_items 4 = .ok (.ireturn, 1) := by decide +kernel
theorem dX4_read_0 : decode cX4_read 0 = .ok (.aload_n 0, 1) := by decide +kernel
theorem dX4_read_1 : decode cX4_read 1 = .ok (.invokevirtual 26, 3) := by decide +kernel
theorem dX4_read_4 : decode cX4_read 4 = .ok (.iconst 0, 1) := by decide +kernel
theorem dX4_read_5 : decode cX4_read 5 = .ok (.istore_n 1, 1) := by decide +kernel
theorem dX4_read_6 : decode cX4_read 6 = .ok (.iload_n 1, 1) := by decide +kernel
theorem dX4_read_7 : decode cX4_read 7 = .ok (.sipush 200, 3) := by decide +kernel
theorem dX4_read_10 : decode cX4_read 10 = .ok (.if_icmp .gt 78, 3) := by decide +kernel
theorem dX4_read_13 : decode cX4_read 13 = .ok (.aload_n 0, 1) := by decide +kernel
theorem dX4_read_14 : decode cX4_read 14 = .ok (.invokevirtual 29, 3) := by decide +kernel
theorem dX4_read_17 : decode cX4_read 17 = .ok (.istore_n 2, 1) := by decide +kernel
theorem dX4_read_18 : decode cX4_read 18 = .ok (.iload_n 2, 1) := by decide +kernel
theorem dX4_read_19 : decode cX4_read 19 = .ok (.ifCond .ne 5, 3) := by decide +kernel
theorem dX4_read_22 : decode cX4_read 22 = .ok (.iconst (-1), 1) := by decide +kernel
theorem dX4_read_23 : decode cX4_read 23 = .ok (.ireturn, 1) := by decide +kernel
theorem dX4_read_24 : decode cX4_read 24 = .ok (.aload_n 0, 1) := by decide +kernel
theorem dX4_read_25 : decode cX4_read 25 = .ok (.iload_n 2, 1) := by decide +kernel
theorem dX4_read_26 : decode cX4_read 26 = .ok (.invokevirtual 33, 3) := by decide +kernel
theorem dX4_read_29 : decode cX4_read 29 = .ok (.ifCond .eq 19, 3) := by decide +kernel
theorem dX4_read_32 : decode cX4_read 32 = .ok (.aload_n 0, 1) := by decide +kernel
theorem dX4_read_33 : decode cX4_read 33 = .ok (.invokevirtual 29, 3) := by decide +kernel
theorem dX4_read_36 : decode cX4_read 36 = .ok (.iconst 5, 1) := by decide +kernel
theorem dX4_read_37 : decode cX4_read 37 = .ok (.if_icmp .ne 11, 3) := by decide +kernel
theorem dX4_read_40 : decode cX4_read 40 = .ok (.aload_n 0, 1) := by decide +kernel
theorem dX4_read_41 : decode cX4_read 41 = .ok (.iload_n 2, 1) := by decide +kernel
theorem dX4_read_42 : decode cX4_read 42 = .ok (.invokevirtual 37, 3) := by decide +kernel
theorem dX4_read_45 : decode cX4_read 45 = .ok (.ifCond .ne 8, 3) := by decide +kernel
theorem dX4_read_48 : decode cX4_read 48 = .ok (.aload_n 0, 1) := by decide +kernel
theorem dX4_read_49 : decode cX4_read 49 = .ok (.getfield 40, 3) := by decide +kernel
theorem dX4_read_52 : decode cX4_read 52 = .ok (.ireturn, 1) := by decide +kernel
theorem dX4_read_53 : decode cX4_read 53 = .ok (.aload_n 0, 1) := by decide +kernel
theorem dX4_read_54 : decode cX4_read 54 = .ok (.iload_n 2, 1) := by decide +kernel
theorem dX4_read_55 : decode cX4_read 55 = .ok (.invokevirtual 43, 3) := by decide +kernel
theorem dX4_read_58 : decode cX4_read 58 = .ok (.aload_n 0, 1) := by decide +kernel
theorem dX4_read_59 : decode cX4_read 59 = .ok (.invokevirtual 29, 3) := by decide +kernel
theorem dX4_read_62 : decode cX4_read 62 = .ok (.bipush 6, 2) := by decide +kernel
theorem dX4_read_64 : decode cX4_read 64 = .ok (.if_icmp .eq 8, 3) := by decide +kernel
theorem dX4_read_67 : decode cX4_read 67 = .ok (.aload_n 0, 1) := by decide +kernel
theorem dX4_read_68 : decode cX4_read 68 = .ok (.getfield 40, 3) := by decide +kernel
theorem dX4_read_71 : decode cX4_read 71 = .ok (.ireturn, 1) := by decide +kernel
theorem dX4_read_72 : decode cX4_read 72 = .ok (.aload_n 0, 1) := by decide +kernel
theorem dX4_read_73 : decode cX4_read 73 = .ok (.dup, 1) := by decide +kernel
theorem dX4_read_74 : decode cX4_read 74 = .ok (.getfield 22, 3) := by decide +kernel
theorem dX4_read_77 : decode cX4_read 77 = .ok (.iconst 1, 1) := by decide +kernel
theorem dX4_read_78 : decode cX4_read 78 = .ok (.iadd, 1) := by decide +kernel
theorem dX4_read_79 : decode cX4_read 79 = .ok (.putfield 22, 3) := by decide +kernel
theorem dX4_read_82 : decode cX4_read 82 = .ok (.iinc 1 1, 3) := by decide +kernel
theorem dX4_read_85 : decode cX4_read 85 = .ok (.goto (-79), 3) := by decide +kernel
theorem dX4_read_88 : decode cX4_read 88 = .ok (.aload_n 0, 1) := by decide +kernel
theorem dX4_read_89 : decode cX4_read 89 = .ok (.getfield 40, 3) := by decide +kernel
theorem dX4_read_92 : decode cX4_read 92 = .ok (.ireturn, 1) := by decide +kernel
theorem dX4_begin_0 : decode cX4_begin 0 = .ok (.aload_n 0, 1) := by decide +kernel
theorem dX4_begin_1 : decode cX4_begin 1 = .ok (.getfield 12, 3) := by decide +kernel
theorem dX4_begin_4 : decode cX4_begin 4 = .ok (.invokevirtual 47, 3) := by decide +kernel
theorem dX4_begin_7 : decode cX4_begin 7 = .ok (.aload_n 0, 1) := by decide +kernel
theorem dX4_begin_8 : decode cX4_begin 8 = .ok (.iconst 0, 1) := by decide +kernel
theorem dX4_begin_9 : decode cX4_begin 9 = .ok (.putfield 22, 3) := by decide +kernel
theorem dX4_begin_12 : decode cX4_begin 12 = .ok (.aload_n 0, 1) := by decide +kernel
theorem dX4_begin_13 : decode cX4_begin 13 = .ok (.iconst 0, 1) := by decide +kernel
theorem dX4_begin_14 : decode cX4_begin 14 = .ok (.putfield 50, 3) := by decide +kernel
theorem dX4_begin_17 : decode cX4_begin 17 = .ok (.aload_n 0, 1) := by decide +kernel
theorem dX4_begin_18 : decode cX4_begin 18 = .ok (.iconst 0, 1) := by decide +kernel
theorem dX4_begin_19 : decode cX4_begin 19 = .ok (.putfield 54, 3) := by decide +kernel
theorem dX4_begin_22 : decode cX4_begin 22 = .ok (.aload_n 0, 1) := by decide +kernel
theorem dX4_begin_23 : decode cX4_begin 23 = .ok (.iconst 0, 1) := by decide +kernel
theorem dX4_begin_24 : decode cX4_begin 24 = .ok (.putfield 57, 3) := by decide +kernel
theorem dX4_begin_27 : decode cX4_begin 27 = .ok (.return_, 1) := by decide +kernel
theorem dX4_mayBegin_0 : decode cX4_mayBegin 0 = .ok (.iload_n 1, 1) := by decide +kernel
theorem dX4_mayBegin_1 : decode cX4_mayBegin 1 = .ok (.tableswitch 70 2 4 #[27, 44, 57], 27) := by decide +kernel
theorem dX4_mayBegin_28 : decode cX4_mayBegin 28 = .ok (.aload_n 0, 1) := by decide +kernel
theorem dX4_mayBegin_29 : decode cX4_mayBegin 29 = .ok (.getfield 12, 3) := by decide +kernel
theorem dX4_mayBegin_32 : decode cX4_mayBegin 32 = .ok (.invokevirtual 60, 3) := by decide +kernel
theorem dX4_mayBegin_35 : decode cX4_mayBegin 35 = .ok (.iconst 3, 1) := by decide +kernel
theorem dX4_mayBegin_36 : decode cX4_mayBegin 36 = .ok (.if_icmp .ge 7, 3) := by decide +kernel
theorem dX4_mayBegin_39 : decode cX4_mayBegin 39 = .ok (.iconst 1, 1) := by decide +kernel
theorem dX4_mayBegin_40 : decode cX4_mayBegin 40 = .ok (.goto 4, 3) := by decide +kernel
theorem dX4_mayBegin_43 : decode cX4_mayBegin 43 = .ok (.iconst 0, 1) := by decide +kernel
theorem dX4_mayBegin_44 : decode cX4_mayBegin 44 = .ok (.ireturn, 1) := by decide +kernel
theorem dX4_mayBegin_45 : decode cX4_mayBegin 45 = .ok (.aload_n 0, 1) := by decide +kernel
theorem dX4_mayBegin_46 : decode cX4_mayBegin 46 = .ok (.getfield 50, 3) := by decide +kernel
theorem dX4_mayBegin_49 : decode cX4_mayBegin 49 = .ok (.ifCond .ne 7, 3) := by decide +kernel
theorem dX4_mayBegin_52 : decode cX4_mayBegin 52 = .ok (.iconst 1, 1) := by decide +kernel
theorem dX4_mayBegin_53 : decode cX4_mayBegin 53 = .ok (.goto 4, 3) := by decide +kernel
theorem dX4_mayBegin_56 : decode cX4_mayBegin 56 = .ok (.iconst 0, 1) := by decide +kernel
theorem dX4_mayBegin_57 : decode cX4_mayBegin 57 = .ok (.ireturn, 1) := by decide +kernel
theorem dX4_mayBegin_58 : decode cX4_mayBegin 58 = .ok (.aload_n 0, 1) := by decide +kernel
theorem dX4_mayBegin_59 : decode cX4_mayBegin 59 = .ok (.getfield 54, 3) := by decide +kernel
theorem dX4_mayBegin_62 : decode cX4_mayBegin 62 = .ok (.ifCond .ne 7, 3) := by decide +kernel
theorem dX4_mayBegin_65 : decode cX4_mayBegin 65 = .ok (.iconst 1, 1) := by decide +kernel
theorem dX4_mayBegin_66 : decode cX4_mayBegin 66 = .ok (.goto 4, 3) := by decide +kernel
theorem dX4_mayBegin_69 : decode cX4_mayBegin 69 = .ok (.iconst 0, 1) := by decide +kernel
theorem dX4_mayBegin_70 : decode cX4_mayBegin 70 = .ok (.ireturn, 1) := by decide +kernel
theorem dX4_mayBegin_71 : decode cX4_mayBegin 71 = .ok (.iconst 0, 1) := by decide +kernel
theorem dX4_mayBegin_72 : decode cX4_mayBegin 72 = .ok (.ireturn, 1) := by decide +kernel
theorem dX4_mayTake_0 : decode cX4_mayTake 0 = .ok (.iload_n 1, 1) := by decide +kernel
theorem dX4_mayTake_1 : decode cX4_mayTake 1 = .ok (.lookupswitch 49 #[(2, 27), (3, 38)], 27) := by decide +kernel
theorem dX4_mayTake_28 : decode cX4_mayTake 28 = .ok (.aload_n 0, 1) := by decide +kernel
theorem dX4_mayTake_29 : decode cX4_mayTake 29 = .ok (.getfield 63, 3) := by decide +kernel
theorem dX4_mayTake_32 : decode cX4_mayTake 32 = .ok (.iconst 1, 1) := by decide +kernel
theorem dX4_mayTake_33 : decode cX4_mayTake 33 = .ok (.bipush 9, 2) := by decide +kernel
theorem dX4_mayTake_35 : decode cX4_mayTake 35 = .ok (.invokestatic 66, 3) := by decide +kernel
theorem dX4_mayTake_38 : decode cX4_mayTake 38 = .ok (.ireturn, 1) := by decide +kernel
theorem dX4_mayTake_39 : decode cX4_mayTake 39 = .ok (.aload_n 0, 1) := by decide +kernel
theorem dX4_mayTake_40 : decode cX4_mayTake 40 = .ok (.getfield 63, 3) := by decide +kernel
theorem dX4_mayTake_43 : decode cX4_mayTake 43 = .ok (.iconst 0, 1) := by decide +kernel
theorem dX4_mayTake_44 : decode cX4_mayTake 44 = .ok (.bipush 9, 2) := by decide +kernel
theorem dX4_mayTake_46 : decode cX4_mayTake 46 = .ok (.invokestatic 66, 3) := by decide +kernel
theorem dX4_mayTake_49 : decode cX4_mayTake 49 = .ok (.ireturn, 1) := by decide +kernel
theorem dX4_mayTake_50 : decode cX4_mayTake 50 = .ok (.aload_n 0, 1) := by decide +kernel
theorem dX4_mayTake_51 : decode cX4_mayTake 51 = .ok (.getfield 63, 3) := by decide +kernel
theorem dX4_mayTake_54 : decode cX4_mayTake 54 = .ok (.iconst 2, 1) := by decide +kernel
theorem dX4_mayTake_55 : decode cX4_mayTake 55 = .ok (.bipush 20, 2) := by decide +kernel
theorem dX4_mayTake_57 : decode cX4_mayTake 57 = .ok (.invokestatic 66, 3) := by decide +kernel
theorem dX4_mayTake_60 : decode cX4_mayTake 60 = .ok (.ireturn, 1) := by decide +kernel
theorem dX4_take_0 : decode cX4_take 0 = .ok (.iload_n 1, 1) := by decide +kernel
theorem dX4_take_1 : decode cX4_take 1 = .ok (.lookupswitch 60 #[(2, 27), (3, 41)], 27) := by decide +kernel
theorem dX4_take_28 : decode cX4_take 28 = .ok (.aload_n 0, 1) := by decide +kernel
theorem dX4_take_29 : decode cX4_take 29 = .ok (.getfield 12, 3) := by decide +kernel
theorem dX4_take_32 : decode cX4_take 32 = .ok (.aload_n 0, 1) := by decide +kernel
theorem dX4_take_33 : decode cX4_take 33 = .ok (.getfield 63, 3) := by decide +kernel
theorem dX4_take_36 : decode cX4_take 36 = .ok (.invokevirtual 70, 3) := by decide +kernel
theorem dX4_take_39 : decode cX4_take 39 = .ok (.goto 38, 3) := by decide +kernel
theorem dX4_take_42 : decode cX4_take 42 = .ok (.aload_n 0, 1) := by decide +kernel
theorem dX4_take_43 : decode cX4_take 43 = .ok (.getfield 12, 3) := by decide +kernel
theorem dX4_take_46 : decode cX4_take 46 = .ok (.aload_n 0, 1) := by decide +kernel
theorem dX4_take_47 : decode cX4_take 47 = .ok (.getfield 63, 3) := by decide +kernel
theorem dX4_take_50 : decode cX4_take 50 = .ok (.invokevirtual 73, 3) := by decide +kernel
theorem dX4_take_53 : decode cX4_take 53 = .ok (.aload_n 0, 1) := by decide +kernel
theorem dX4_take_54 : decode cX4_take 54 = .ok (.iconst 1, 1) := by decide +kernel
theorem dX4_take_55 : decode cX4_take 55 = .ok (.putfield 50, 3) := by decide +kernel
theorem dX4_take_58 : decode cX4_take 58 = .ok (.goto 19, 3) := by decide +kernel
theorem dX4_take_61 : decode cX4_take 61 = .ok (.aload_n 0, 1) := by decide +kernel
theorem dX4_take_62 : decode cX4_take 62 = .ok (.getfield 12, 3) := by decide +kernel
theorem dX4_take_65 : decode cX4_take 65 = .ok (.aload_n 0, 1) := by decide +kernel
theorem dX4_take_66 : decode cX4_take 66 = .ok (.getfield 63, 3) := by decide +kernel
theorem dX4_take_69 : decode cX4_take 69 = .ok (.invokevirtual 76, 3) := by decide +kernel
theorem dX4_take_72 : decode cX4_take 72 = .ok (.aload_n 0, 1) := by decide +kernel
theorem dX4_take_73 : decode cX4_take 73 = .ok (.iconst 1, 1) := by decide +kernel
theorem dX4_take_74 : decode cX4_take 74 = .ok (.putfield 54, 3) := by decide +kernel
theorem dX4_take_77 : decode cX4_take 77 = .ok (.return_, 1) := by decide +kernel
theorem dX4_token_0 : decode cX4_token 0 = .ok (.aload_n 0, 1) := by decide +kernel
theorem dX4_token_1 : decode cX4_token 1 = .ok (.aload_n 0, 1) := by decide +kernel
theorem dX4_token_2 : decode cX4_token 2 = .ok (.aload_n 0, 1) := by decide +kernel
theorem dX4_token_3 : decode cX4_token 3 = .ok (.getfield 57, 3) := by decide +kernel
theorem dX4_token_6 : decode cX4_token 6 = .ok (.invokevirtual 79, 3) := by decide +kernel
theorem dX4_token_9 : decode cX4_token 9 = .ok (.putfield 40, 3) := by decide +kernel
theorem dX4_token_12 : decode cX4_token 12 = .ok (.aload_n 0, 1) := by decide +kernel
theorem dX4_token_13 : decode cX4_token 13 = .ok (.getfield 18, 3) := by decide +kernel
theorem dX4_token_16 : decode cX4_token 16 = .ok (.aload_n 0, 1) := by decide +kernel
theorem dX4_token_17 : decode cX4_token 17 = .ok (.getfield 40, 3) := by decide +kernel
theorem dX4_token_20 : decode cX4_token 20 = .ok (.invokevirtual 83, 3) := by decide +kernel
theorem dX4_token_23 : decode cX4_token 23 = .ok (.istore_n 1, 1) := by decide +kernel
theorem dX4_token_24 : decode cX4_token 24 = .ok (.iload_n 1, 1) := by decide +kernel
theorem dX4_token_25 : decode cX4_token 25 = .ok (.ifCond .ge 5, 3) := by decide +kernel
theorem dX4_token_28 : decode cX4_token 28 = .ok (.iconst 0, 1) := by decide +kernel
theorem dX4_token_29 : decode cX4_token 29 = .ok (.ireturn, 1) := by decide +kernel
theorem dX4_token_30 : decode cX4_token 30 = .ok (.iload_n 1, 1) := by decide +kernel
theorem dX4_token_31 : decode cX4_token 31 = .ok (.invokestatic 88, 3) := by decide +kernel
theorem dX4_token_34 : decode cX4_token 34 = .ok (.ifCond .eq 20, 3) := by decide +kernel
theorem dX4_token_37 : decode cX4_token 37 = .ok (.aload_n 0, 1) := by decide +kernel
theorem dX4_token_38 : decode cX4_token 38 = .ok (.aload_n 0, 1) := by decide +kernel
theorem dX4_token_39 : decode cX4_token 39 = .ok (.aload_n 0, 1) := by decide +kernel
theorem dX4_token_40 : decode cX4_token 40 = .ok (.getfield 40, 3) := by decide +kernel
theorem dX4_token_43 : decode cX4_token 43 = .ok (.invokevirtual 91, 3) := by decide +kernel
theorem dX4_token_46 : decode cX4_token 46 = .ok (.putfield 57, 3) := by decide +kernel
theorem dX4_token_49 : decode cX4_token 49 = .ok (.aload_n 0, 1) := by decide +kernel
theorem dX4_token_50 : decode cX4_token 50 = .ok (.invokevirtual 94, 3) := by decide +kernel
theorem dX4_token_53 : decode cX4_token 53 = .ok (.ireturn, 1) := by decide +kernel
theorem dX4_token_54 : decode cX4_token 54 = .ok (.iload_n 1, 1) := by decide +kernel
theorem dX4_token_55 : decode cX4_token 55 = .ok (.invokestatic 97, 3) := by decide +kernel
theorem dX4_token_58 : decode cX4_token 58 = .ok (.ifCond .eq 20, 3) := by decide +kernel
theorem dX4_token_61 : decode cX4_token 61 = .ok (.aload_n 0, 1) := by decide +kernel
theorem dX4_token_62 : decode cX4_token 62 = .ok (.aload_n 0, 1) := by decide +kernel
theorem dX4_token_63 : decode cX4_token 63 = .ok (.aload_n 0, 1) := by decide +kernel
theorem dX4_token_64 : decode cX4_token 64 = .ok (.getfield 40, 3) := by decide +kernel
theorem dX4_token_67 : decode cX4_token 67 = .ok (.invokevirtual 100, 3) := by decide +kernel
theorem dX4_token_70 : decode cX4_token 70 = .ok (.putfield 57, 3) := by decide +kernel
theorem dX4_token_73 : decode cX4_token 73 = .ok (.aload_n 0, 1) := by decide +kernel
theorem dX4_token_74 : decode cX4_token 74 = .ok (.invokevirtual 103, 3) := by decide +kernel
theorem dX4_token_77 : decode cX4_token 77 = .ok (.ireturn, 1) := by decide +kernel
theorem dX4_token_78 : decode cX4_token 78 = .ok (.aload_n 0, 1) := by decide +kernel
theorem dX4_token_79 : decode cX4_token 79 = .ok (.aload_n 0, 1) := by decide +kernel
theorem dX4_token_80 : decode cX4_token 80 = .ok (.getfield 40, 3) := by decide +kernel
theorem dX4_token_83 : decode cX4_token 83 = .ok (.iconst 1, 1) := by decide +kernel
theorem dX4_token_84 : decode cX4_token 84 = .ok (.iadd, 1) := by decide +kernel
theorem dX4_token_85 : decode cX4_token 85 = .ok (.putfield 57, 3) := by decide +kernel
theorem dX4_token_88 : decode cX4_token 88 = .ok (.iload_n 1, 1) := by decide +kernel
theorem dX4_token_89 : decode cX4_token 89 = .ok (.bipush 59, 2) := by decide +kernel
theorem dX4_token_91 : decode cX4_token 91 = .ok (.if_icmp .ne 8, 3) := by decide +kernel
theorem dX4_token_94 : decode cX4_token 94 = .ok (.bipush 6, 2) := by decide +kernel
theorem dX4_token_96 : decode cX4_token 96 = .ok (.goto 4, 3) := by decide +kernel
theorem dX4_token_99 : decode cX4_token 99 = .ok (.iconst 1, 1) := by decide +kernel
theorem dX4_token_100 : decode cX4_token 100 = .ok (.ireturn, 1) := by decide +kernel
theorem dX4_wordToken_0 : decode cX4_wordToken 0 = .ok (.aload_n 0, 1) := by decide +kernel
theorem dX4_wordToken_1 : decode cX4_wordToken 1 = .ok (.getfield 18, 3) := by decide +kernel
theorem dX4_wordToken_4 : decode cX4_wordToken 4 = .ok (.ldc 106, 2) := by decide +kernel
theorem dX4_wordToken_6 : decode cX4_wordToken 6 = .ok (.aload_n 0, 1) := by decide +kernel
theorem dX4_wordToken_7 : decode cX4_wordToken 7 = .ok (.getfield 40, 3) := by decide +kernel
theorem dX4_wordToken_10 : decode cX4_wordToken 10 = .ok (.aload_n 0, 1) := by decide +kernel
theorem dX4_wordToken_11 : decode cX4_wordToken 11 = .ok (.getfield 57, 3) := by decide +kernel
theorem dX4_wordToken_14 : decode cX4_wordToken 14 = .ok (.invokevirtual 108, 3) := by decide +kernel
theorem dX4_wordToken_17 : decode cX4_wordToken 17 = .ok (.ifCond .eq 5, 3) := by decide +kernel
theorem dX4_wordToken_20 : decode cX4_wordToken 20 = .ok (.iconst 2, 1) := by decide +kernel
theorem dX4_wordToken_21 : decode cX4_wordToken 21 = .ok (.ireturn, 1) := by decide +kernel
theorem dX4_wordToken_22 : decode cX4_wordToken 22 = .ok (.aload_n 0, 1) := by decide +kernel
theorem dX4_wordToken_23 : decode cX4_wordToken 23 = .ok (.getfield 18, 3) := by decide +kernel
theorem dX4_wordToken_26 : decode cX4_wordToken 26 = .ok (.ldc 112, 2) := by decide +kernel
theorem dX4_wordToken_28 : decode cX4_wordToken 28 = .ok (.aload_n 0, 1) := by decide +kernel
theorem dX4_wordToken_29 : decode cX4_wordToken 29 = .ok (.getfield 40, 3) := by decide +kernel
theorem dX4_wordToken_32 : decode cX4_wordToken 32 = .ok (.aload_n 0, 1) := by decide +kernel
theorem dX4_wordToken_33 : decode cX4_wordToken 33 = .ok (.getfield 57, 3) := by decide +kernel
theorem dX4_wordToken_36 : decode cX4_wordToken 36 = .ok (.invokevirtual 108, 3) := by decide +kernel
theorem dX4_wordToken_39 : decode cX4_wordToken 39 = .ok (.ifCond .eq 5, 3) := by decide +kernel
theorem dX4_wordToken_42 : decode cX4_wordToken 42 = .ok (.iconst 3, 1) := by decide +kernel
theorem dX4_wordToken_43 : decode cX4_wordToken 43 = .ok (.ireturn, 1) := by decide +kernel
theorem dX4_wordToken_44 : decode cX4_wordToken 44 = .ok (.aload_n 0, 1) := by decide +kernel
theorem dX4_wordToken_45 : decode cX4_wordToken 45 = .ok (.getfield 18, 3) := by decide +kernel
theorem dX4_wordToken_48 : decode cX4_wordToken 48 = .ok (.ldc 114, 2) := by decide +kernel
theorem dX4_wordToken_50 : decode cX4_wordToken 50 = .ok (.aload_n 0, 1) := by decide +kernel
theorem dX4_wordToken_51 : decode cX4_wordToken 51 = .ok (.getfield 40, 3) := by decide +kernel
theorem dX4_wordToken_54 : decode cX4_wordToken 54 = .ok (.aload_n 0, 1) := by decide +kernel
theorem dX4_wordToken_55 : decode cX4_wordToken 55 = .ok (.getfield 57, 3) := by decide +kernel
theorem dX4_wordToken_58 : decode cX4_wordToken 58 = .ok (.invokevirtual 108, 3) := by decide +kernel
theorem dX4_wordToken_61 : decode cX4_wordToken 61 = .ok (.ifCond .eq 7, 3) := by decide +kernel
theorem dX4_wordToken_64 : decode cX4_wordToken 64 = .ok (.iconst 4, 1) := by decide +kernel
theorem dX4_wordToken_65 : decode cX4_wordToken 65 = .ok (.goto 4, 3) := by decide +kernel
theorem dX4_wordToken_68 : decode cX4_wordToken 68 = .ok (.iconst 1, 1) := by decide +kernel
theorem dX4_wordToken_69 : decode cX4_wordToken 69 = .ok (.ireturn, 1) := by decide +kernel
theorem dX4_numberToken_0 : decode cX4_numberToken 0 = .ok (.aload_n 0, 1) := by decide +kernel
theorem dX4_numberToken_1 : decode cX4_numberToken 1 = .ok (.getfield 18, 3) := by decide +kernel
theorem dX4_numberToken_4 : decode cX4_numberToken 4 = .ok (.aload_n 0, 1) := by decide +kernel
theorem dX4_numberToken_5 : decode cX4_numberToken 5 = .ok (.getfield 40, 3) := by decide +kernel
theorem dX4_numberToken_8 : decode cX4_numberToken 8 = .ok (.invokevirtual 83, 3) := by decide +kernel
theorem dX4_numberToken_11 : decode cX4_numberToken 11 = .ok (.bipush 48, 2) := by decide +kernel
theorem dX4_numberToken_13 : decode cX4_numberToken 13 = .ok (.isub, 1) := by decide +kernel
theorem dX4_numberToken_14 : decode cX4_numberToken 14 = .ok (.istore_n 1, 1) := by decide +kernel
theorem dX4_numberToken_15 : decode cX4_numberToken 15 = .ok (.aload_n 0, 1) := by decide +kernel
theorem dX4_numberToken_16 : decode cX4_numberToken 16 = .ok (.getfield 57, 3) := by decide +kernel
theorem dX4_numberToken_19 : decode cX4_numberToken 19 = .ok (.aload_n 0, 1) := by decide +kernel
theorem dX4_numberToken_20 : decode cX4_numberToken 20 = .ok (.getfield 40, 3) := by decide +kernel
theorem dX4_numberToken_23 : decode cX4_numberToken 23 = .ok (.isub, 1) := by decide +kernel
theorem dX4_numberToken_24 : decode cX4_numberToken 24 = .ok (.iconst 1, 1) := by decide +kernel
theorem dX4_numberToken_25 : decode cX4_numberToken 25 = .ok (.if_icmp .ne 10, 3) := by decide +kernel
theorem dX4_numberToken_28 : decode cX4_numberToken 28 = .ok (.aload_n 0, 1) := by decide +kernel
theorem dX4_numberToken_29 : decode cX4_numberToken 29 = .ok (.iload_n 1, 1) := by decide +kernel
theorem dX4_numberToken_30 : decode cX4_numberToken 30 = .ok (.putfield 63, 3) := by decide +kernel
theorem dX4_numberToken_33 : decode cX4_numberToken 33 = .ok (.iconst 5, 1) := by decide +kernel
theorem dX4_numberToken_34 : decode cX4_numberToken 34 = .ok (.ireturn, 1) := by decide +kernel
theorem dX4_numberToken_35 : decode cX4_numberToken 35 = .ok (.aload_n 0, 1) := by decide +kernel
theorem dX4_numberToken_36 : decode cX4_numberToken 36 = .ok (.getfield 57, 3) := by decide +kernel
theorem dX4_numberToken_39 : decode cX4_numberToken 39 = .ok (.aload_n 0, 1) := by decide +kernel
theorem dX4_numberToken_40 : decode cX4_numberToken 40 = .ok (.getfield 40, 3) := by decide +kernel
theorem dX4_numberToken_43 : decode cX4_numberToken 43 = .ok (.isub, 1) := by decide +kernel
theorem dX4_numberToken_44 : decode cX4_numberToken 44 = .ok (.iconst 2, 1) := by decide +kernel
theorem dX4_numberToken_45 : decode cX4_numberToken 45 = .ok (.if_icmp .gt 7, 3) := by decide +kernel
theorem dX4_numberToken_48 : decode cX4_numberToken 48 = .ok (.iload_n 1, 1) := by decide +kernel
theorem dX4_numberToken_49 : decode cX4_numberToken 49 = .ok (.ifCond .ne 5, 3) := by decide +kernel
theorem dX4_numberToken_52 : decode cX4_numberToken 52 = .ok (.iconst 1, 1) := by decide +kernel
theorem dX4_numberToken_53 : decode cX4_numberToken 53 = .ok (.ireturn, 1) := by decide +kernel
theorem dX4_numberToken_54 : decode cX4_numberToken 54 = .ok (.aload_n 0, 1) := by decide +kernel
theorem dX4_numberToken_55 : decode cX4_numberToken 55 = .ok (.iload_n 1, 1) := by decide +kernel
theorem dX4_numberToken_56 : decode cX4_numberToken 56 = .ok (.bipush 10, 2) := by decide +kernel
theorem dX4_numberToken_58 : decode cX4_numberToken 58 = .ok (.imul, 1) := by decide +kernel
theorem dX4_numberToken_59 : decode cX4_numberToken 59 = .ok (.aload_n 0, 1) := by decide +kernel
theorem dX4_numberToken_60 : decode cX4_numberToken 60 = .ok (.getfield 18, 3) := by decide +kernel
theorem dX4_numberToken_63 : decode cX4_numberToken 63 = .ok (.aload_n 0, 1) := by decide +kernel
theorem dX4_numberToken_64 : decode cX4_numberToken 64 = .ok (.getfield 40, 3) := by decide +kernel
theorem dX4_numberToken_67 : decode cX4_numberToken 67 = .ok (.iconst 1, 1) := by decide +kernel
theorem dX4_numberToken_68 : decode cX4_numberToken 68 = .ok (.iadd, 1) := by decide +kernel
theorem dX4_numberToken_69 : decode cX4_numberToken 69 = .ok (.invokevirtual 83, 3) := by decide +kernel
theorem dX4_numberToken_72 : decode cX4_numberToken 72 = .ok (.iadd, 1) := by decide +kernel
theorem dX4_numberToken_73 : decode cX4_numberToken 73 = .ok (.bipush 48, 2) := by decide +kernel
theorem dX4_numberToken_75 : decode cX4_numberToken 75 = .ok (.isub, 1) := by decide +kernel
theorem dX4_numberToken_76 : decode cX4_numberToken 76 = .ok (.putfield 63, 3) := by decide +kernel
theorem dX4_numberToken_79 : decode cX4_numberToken 79 = .ok (.iconst 5, 1) := by decide +kernel
theorem dX4_numberToken_80 : decode cX4_numberToken 80 = .ok (.ireturn, 1) := by decide +kernel
theorem dX4_endOfBlanks_0 : decode cX4_endOfBlanks 0 = .ok (.iload_n 1, 1) := by decide +kernel
theorem dX4_endOfBlanks_1 : decode cX4_endOfBlanks 1 = .ok (.istore_n 2, 1) := by decide +kernel
theorem dX4_endOfBlanks_2 : decode cX4_endOfBlanks 2 = .ok (.iload_n 2, 1) := by decide +kernel
theorem dX4_endOfBlanks_3 : decode cX4_endOfBlanks 3 = .ok (.aload_n 0, 1) := by decide +kernel
theorem dX4_endOfBlanks_4 : decode cX4_endOfBlanks 4 = .ok (.getfield 18, 3) := by decide +kernel
theorem dX4_endOfBlanks_7 : decode cX4_endOfBlanks 7 = .ok (.invokevirtual 116, 3) := by decide +kernel
theorem dX4_endOfBlanks_10 : decode cX4_endOfBlanks 10 = .ok (.if_icmp .ge 22, 3) := by decide +kernel
theorem dX4_endOfBlanks_13 : decode cX4_endOfBlanks 13 = .ok (.aload_n 0, 1) := by decide +kernel
theorem dX4_endOfBlanks_14 : decode cX4_endOfBlanks 14 = .ok (.getfield 18, 3) := by decide +kernel
theorem dX4_endOfBlanks_17 : decode cX4_endOfBlanks 17 = .ok (.iload_n 2, 1) := by decide +kernel
theorem dX4_endOfBlanks_18 : decode cX4_endOfBlanks 18 = .ok (.invokevirtual 83, 3) := by decide +kernel
theorem dX4_endOfBlanks_21 : decode cX4_endOfBlanks 21 = .ok (.bipush 32, 2) := by decide +kernel
theorem dX4_endOfBlanks_23 : decode cX4_endOfBlanks 23 = .ok (.if_icmp .ne 9, 3) := by decide +kernel
theorem dX4_endOfBlanks_26 : decode cX4_endOfBlanks 26 = .ok (.iinc 2 1, 3) := by decide +kernel
theorem dX4_endOfBlanks_29 : decode cX4_endOfBlanks 29 = .ok (.goto (-27), 3) := by decide +kernel
theorem dX4_endOfBlanks_32 : decode cX4_endOfBlanks 32 = .ok (.iload_n 2, 1) := by decide +kernel
theorem dX4_endOfBlanks_33 : decode cX4_endOfBlanks 33 = .ok (.ireturn, 1) := by decide +kernel
theorem dX4_endOfWord_0 : decode cX4_endOfWord 0 = .ok (.iload_n 1, 1) := by decide +kernel
theorem dX4_endOfWord_1 : decode cX4_endOfWord 1 = .ok (.istore_n 2, 1) := by decide +kernel
theorem dX4_endOfWord_2 : decode cX4_endOfWord 2 = .ok (.iload_n 2, 1) := by decide +kernel
theorem dX4_endOfWord_3 : decode cX4_endOfWord 3 = .ok (.aload_n 0, 1) := by decide +kernel
theorem dX4_endOfWord_4 : decode cX4_endOfWord 4 = .ok (.getfield 18, 3) := by decide +kernel
theorem dX4_endOfWord_7 : decode cX4_endOfWord 7 = .ok (.invokevirtual 116, 3) := by decide +kernel
theorem dX4_endOfWord_10 : decode cX4_endOfWord 10 = .ok (.if_icmp .ge 23, 3) := by decide +kernel
theorem dX4_endOfWord_13 : decode cX4_endOfWord 13 = .ok (.aload_n 0, 1) := by decide +kernel
theorem dX4_endOfWord_14 : decode cX4_endOfWord 14 = .ok (.getfield 18, 3) := by decide +kernel
theorem dX4_endOfWord_17 : decode cX4_endOfWord 17 = .ok (.iload_n 2, 1) := by decide +kernel
theorem dX4_endOfWord_18 : decode cX4_endOfWord 18 = .ok (.invokevirtual 83, 3) := by decide +kernel
theorem dX4_endOfWord_21 : decode cX4_endOfWord 21 = .ok (.invokestatic 88, 3) := by decide +kernel
theorem dX4_endOfWord_24 : decode cX4_endOfWord 24 = .ok (.ifCond .eq 9, 3) := by decide +kernel
theorem dX4_endOfWord_27 : decode cX4_endOfWord 27 = .ok (.iinc 2 1, 3) := by decide +kernel
theorem dX4_endOfWord_30 : decode cX4_endOfWord 30 = .ok (.goto (-28), 3) := by decide +kernel
theorem dX4_endOfWord_33 : decode cX4_endOfWord 33 = .ok (.iload_n 2, 1) := by decide +kernel
theorem dX4_endOfWord_34 : decode cX4_endOfWord 34 = .ok (.ireturn, 1) := by decide +kernel
theorem dX4_endOfDigits_0 : decode cX4_endOfDigits 0 = .ok (.iload_n 1, 1) := by decide +kernel
theorem dX4_endOfDigits_1 : decode cX4_endOfDigits 1 = .ok (.istore_n 2, 1) := by decide +kernel
theorem dX4_endOfDigits_2 : decode cX4_endOfDigits 2 = .ok (.iload_n 2, 1) := by decide +kernel
theorem dX4_endOfDigits_3 : decode cX4_endOfDigits 3 = .ok (.aload_n 0, 1) := by decide +kernel
theorem dX4_endOfDigits_4 : decode cX4_endOfDigits 4 = .ok (.getfield 18, 3) := by decide +kernel
theorem dX4_endOfDigits_7 : decode cX4_endOfDigits 7 = .ok (.invokevirtual 116, 3) := by decide +kernel
theorem dX4_endOfDigits_10 : decode cX4_endOfDigits 10 = .ok (.if_icmp .ge 23, 3) := by decide +kernel
theorem dX4_endOfDigits_13 : decode cX4_endOfDigits 13 = .ok (.aload_n 0, 1) := by decide +kernel
theorem dX4_endOfDigits_14 : decode cX4_endOfDigits 14 = .ok (.getfield 18, 3) := by decide +kernel
theorem dX4_endOfDigits_17 : decode cX4_endOfDigits 17 = .ok (.iload_n 2, 1) := by decide +kernel
theorem dX4_endOfDigits_18 : decode cX4_endOfDigits 18 = .ok (.invokevirtual 83, 3) := by decide +kernel
theorem dX4_endOfDigits_21 : decode cX4_endOfDigits 21 = .ok (.invokestatic 97, 3) := by decide +kernel
theorem dX4_endOfDigits_24 : decode cX4_endOfDigits 24 = .ok (.ifCond .eq 9, 3) := by decide +kernel
theorem dX4_endOfDigits_27 : decode cX4_endOfDigits 27 = .ok (.iinc 2 1, 3) := by decide +kernel
theorem dX4_endOfDigits_30 : decode cX4_endOfDigits 30 = .ok (.goto (-28), 3) := by decide +kernel
theorem dX4_endOfDigits_33 : decode cX4_endOfDigits 33 = .ok (.iload_n 2, 1) := by decide +kernel
theorem dX4_endOfDigits_34 : decode cX4_endOfDigits 34 = .ok (.ireturn, 1) := by decide +kernel
theorem dX4_isLetter_0 : decode cX4_isLetter 0 = .ok (.iload_n 0, 1) := by decide +kernel
theorem dX4_isLetter_1 : decode cX4_isLetter 1 = .ok (.bipush 97, 2) := by decide +kernel
theorem dX4_isLetter_3 : decode cX4_isLetter 3 = .ok (.bipush 122, 2) := by decide +kernel
theorem dX4_isLetter_5 : decode cX4_isLetter 5 = .ok (.invokestatic 66, 3) := by decide +kernel
theorem dX4_isLetter_8 : decode cX4_isLetter 8 = .ok (.ireturn, 1) := by decide +kernel
theorem dX4_isDigit_0 : decode cX4_isDigit 0 = .ok (.iload_n 0, 1) := by decide +kernel
theorem dX4_isDigit_1 : decode cX4_isDigit 1 = .ok (.bipush 48, 2) := by decide +kernel
theorem dX4_isDigit_3 : decode cX4_isDigit 3 = .ok (.bipush 57, 2) := by decide +kernel
theorem dX4_isDigit_5 : decode cX4_isDigit 5 = .ok (.invokestatic 66, 3) := by decide +kernel
theorem dX4_isDigit_8 : decode cX4_isDigit 8 = .ok (.ireturn, 1) := by decide +kernel
theorem dX8_init_0 : decode cX8_init 0 = .ok (.aload_n 0, 1) := by decide +kernel
theorem dX8_init_1 : decode cX8_init 1 = .ok (.invokespecial 3, 3) := by decide +kernel
theorem dX8_init_4 : decode cX8_init 4 = .ok (.aload_n 0, 1) := by decide +kernel
theorem dX8_init_5 : decode cX8_init 5 = .ok (.new 9, 3) := by decide +kernel
theorem dX8_init_8 : decode cX8_init 8 = .ok (.dup, 1) := by decide +kernel
theorem dX8_init_9 : decode cX8_init 9 = .ok (.sipush 296, 3) := by decide +kernel
theorem dX8_init_12 : decode cX8_init 12 = .ok (.invokespecial 13, 3) := by decide +kernel
theorem dX8_init_15 : decode cX8_init 15 = .ok (.putfield 16, 3) := by decide +kernel
theorem dX8_init_18 : decode cX8_init 18 = .ok (.aload_n 0, 1) := by decide +kernel
theorem dX8_init_19 : decode cX8_init 19 = .ok (.new 9, 3) := by decide +kernel
theorem dX8_init_22 : decode cX8_init 22 = .ok (.dup, 1) := by decide +kernel
theorem dX8_init_23 : decode cX8_init 23 = .ok (.sipush 313, 3) := by decide +kernel
theorem dX8_init_26 : decode cX8_init 26 = .ok (.invokespecial 13, 3) := by decide +kernel
theorem dX8_init_29 : decode cX8_init 29 = .ok (.putfield 20, 3) := by decide +kernel
theorem dX8_init_32 : decode cX8_init 32 = .ok (.aload_n 0, 1) := by decide +kernel
theorem dX8_init_33 : decode cX8_init 33 = .ok (.new 9, 3) := by decide +kernel
theorem dX8_init_36 : decode cX8_init 36 = .ok (.dup, 1) := by decide +kernel
theorem dX8_init_37 : decode cX8_init 37 = .ok (.bipush 40, 2) := by decide +kernel
theorem dX8_init_39 : decode cX8_init 39 = .ok (.invokespecial 13, 3) := by decide +kernel
theorem dX8_init_42 : decode cX8_init 42 = .ok (.putfield 23, 3) := by decide +kernel
theorem dX8_init_45 : decode cX8_init 45 = .ok (.aload_n 0, 1) := by decide +kernel
theorem dX8_init_46 : decode cX8_init 46 = .ok (.new 9, 3) := by decide +kernel
theorem dX8_init_49 : decode cX8_init 49 = .ok (.dup, 1) := by decide +kernel
theorem dX8_init_50 : decode cX8_init 50 = .ok (.bipush 13, 2) := by decide +kernel
theorem dX8_init_52 : decode cX8_init 52 = .ok (.invokespecial 13, 3) := by decide +kernel
theorem dX8_init_55 : decode cX8_init 55 = .ok (.putfield 26, 3) := by decide +kernel
theorem dX8_init_58 : decode cX8_init 58 = .ok (.aload_n 0, 1) := by decide +kernel
theorem dX8_init_59 : decode cX8_init 59 = .ok (.new 9, 3) := by decide +kernel
theorem dX8_init_62 : decode cX8_init 62 = .ok (.dup, 1) := by decide +kernel
theorem dX8_init_63 : decode cX8_init 63 = .ok (.sipush 156, 3) := by decide +kernel
theorem dX8_init_66 : decode cX8_init 66 = .ok (.invokespecial 13, 3) := by decide +kernel
theorem dX8_init_69 : decode cX8_init 69 = .ok (.putfield 29, 3) := by decide +kernel
theorem dX8_init_72 : decode cX8_init 72 = .ok (.aload_n 0, 1) := by decide +kernel
theorem dX8_init_73 : decode cX8_init 73 = .ok (.aload_n 1, 1) := by decide +kernel
theorem dX8_init_74 : decode cX8_init 74 = .ok (.putfield 32, 3) := by decide +kernel
theorem dX8_init_77 : decode cX8_init 77 = .ok (.aload_n 0, 1) := by decide +kernel
theorem dX8_init_78 : decode cX8_init 78 = .ok (.aload_n 2, 1) := by decide +kernel
theorem dX8_init_79 : decode cX8_init 79 = .ok (.putfield 36, 3) := by decide +kernel
theorem dX8_init_82 : decode cX8_init 82 = .ok (.return_, 1) := by decide +kernel
theorem dX8_forget_0 : decode cX8_forget 0 = .ok (.aload_n 0, 1) := by decide +kernel
theorem dX8_forget_1 : decode cX8_forget 1 = .ok (.iconst 0, 1) := by decide +kernel
theorem dX8_forget_2 : decode cX8_forget 2 = .ok (.putfield 40, 3) := by decide +kernel
theorem dX8_forget_5 : decode cX8_forget 5 = .ok (.return_, 1) := by decide +kernel
theorem dX8_learn_0 : decode cX8_learn 0 = .ok (.aload_n 0, 1) := by decide +kernel
theorem dX8_learn_1 : decode cX8_learn 1 = .ok (.getfield 40, 3) := by decide +kernel
theorem dX8_learn_4 : decode cX8_learn 4 = .ok (.ifCond .eq 4, 3) := by decide +kernel
theorem dX8_learn_7 : decode cX8_learn 7 = .ok (.return_, 1) := by decide +kernel
theorem dX8_learn_8 : decode cX8_learn 8 = .ok (.aload_n 0, 1) := by decide +kernel
theorem dX8_learn_9 : decode cX8_learn 9 = .ok (.iconst 1, 1) := by decide +kernel
theorem dX8_learn_10 : decode cX8_learn 10 = .ok (.putfield 40, 3) := by decide +kernel
theorem dX8_learn_13 : decode cX8_learn 13 = .ok (.aload_n 0, 1) := by decide +kernel
theorem dX8_learn_14 : decode cX8_learn 14 = .ok (.iconst 0, 1) := by decide +kernel
theorem dX8_learn_15 : decode cX8_learn 15 = .ok (.putfield 44, 3) := by decide +kernel
theorem dX8_learn_18 : decode cX8_learn 18 = .ok (.aload_n 0, 1) := by decide +kernel
theorem dX8_learn_19 : decode cX8_learn 19 = .ok (.bipush 13, 2) := by decide +kernel
theorem dX8_learn_21 : decode cX8_learn 21 = .ok (.putfield 48, 3) := by decide +kernel
theorem dX8_learn_24 : decode cX8_learn 24 = .ok (.aload_n 0, 1) := by decide +kernel
theorem dX8_learn_25 : decode cX8_learn 25 = .ok (.iconst 0, 1) := by decide +kernel
theorem dX8_learn_26 : decode cX8_learn 26 = .ok (.putfield 51, 3) := by decide +kernel
theorem dX8_learn_29 : decode cX8_learn 29 = .ok (.aload_n 0, 1) := by decide +kernel
theorem dX8_learn_30 : decode cX8_learn 30 = .ok (.getfield 20, 3) := by decide +kernel
theorem dX8_learn_33 : decode cX8_learn 33 = .ok (.invokevirtual 54, 3) := by decide +kernel
theorem dX8_learn_36 : decode cX8_learn 36 = .ok (.aload_n 0, 1) := by decide +kernel
theorem dX8_learn_37 : decode cX8_learn 37 = .ok (.getfield 23, 3) := by decide +kernel
theorem dX8_learn_40 : decode cX8_learn 40 = .ok (.invokevirtual 54, 3) := by decide +kernel
theorem dX8_learn_43 : decode cX8_learn 43 = .ok (.aload_n 0, 1) := by decide +kernel
theorem dX8_learn_44 : decode cX8_learn 44 = .ok (.getfield 26, 3) := by decide +kernel
theorem dX8_learn_47 : decode cX8_learn 47 = .ok (.invokevirtual 54, 3) := by decide +kernel
theorem dX8_learn_50 : decode cX8_learn 50 = .ok (.aload_n 0, 1) := by decide +kernel
theorem dX8_learn_51 : decode cX8_learn 51 = .ok (.getfield 29, 3) := by decide +kernel
theorem dX8_learn_54 : decode cX8_learn 54 = .ok (.invokevirtual 54, 3) := by decide +kernel
theorem dX8_learn_57 : decode cX8_learn 57 = .ok (.aload_n 0, 1) := by decide +kernel
theorem dX8_learn_58 : decode cX8_learn 58 = .ok (.invokevirtual 57, 3) := by decide +kernel
theorem dX8_learn_61 : decode cX8_learn 61 = .ok (.iconst 0, 1) := by decide +kernel
theorem dX8_learn_62 : decode cX8_learn 62 = .ok (.istore_n 1, 1) := by decide +kernel
theorem dX8_learn_63 : decode cX8_learn 63 = .ok (.iload_n 1, 1) := by decide +kernel
theorem dX8_learn_64 : decode cX8_learn 64 = .ok (.bipush 9, 2) := by decide +kernel
theorem dX8_learn_66 : decode cX8_learn 66 = .ok (.if_icmp .gt 14, 3) := by decide +kernel
theorem dX8_learn_69 : decode cX8_learn 69 = .ok (.aload_n 0, 1) := by decide +kernel
theorem dX8_learn_70 : decode cX8_learn 70 = .ok (.iload_n 1, 1) := by decide +kernel
theorem dX8_learn_71 : decode cX8_learn 71 = .ok (.invokevirtual 60, 3) := by decide +kernel
theorem dX8_learn_74 : decode cX8_learn 74 = .ok (.iinc 1 1, 3) := by decide +kernel
theorem dX8_learn_77 : decode cX8_learn 77 = .ok (.goto (-14), 3) := by decide +kernel
theorem dX8_learn_80 : decode cX8_learn 80 = .ok (.return_, 1) := by decide +kernel
theorem dX8_left_0 : decode cX8_left 0 = .ok (.aload_n 0, 1) := by decide +kernel
theorem dX8_left_1 : decode cX8_left 1 = .ok (.getfield 44, 3) := by decide +kernel
theorem dX8_left_4 : decode cX8_left 4 = .ok (.ireturn, 1) := by decide +kernel
theorem dX8_leftWith_0 : decode cX8_leftWith 0 = .ok (.aload_n 0, 1) := by decide +kernel
theorem dX8_leftWith_1 : decode cX8_leftWith 1 = .ok (.getfield 23, 3) := by decide +kernel
theorem dX8_leftWith_4 : decode cX8_leftWith 4 = .ok (.iload_n 1, 1) := by decide +kernel
theorem dX8_leftWith_5 : decode cX8_leftWith 5 = .ok (.bipush 10, 2) := by decide +kernel
theorem dX8_leftWith_7 : decode cX8_leftWith 7 = .ok (.imul, 1) := by decide +kernel
theorem dX8_leftWith_8 : decode cX8_leftWith 8 = .ok (.iload_n 2, 1) := by decide +kernel
theorem dX8_leftWith_9 : decode cX8_leftWith 9 = .ok (.iadd, 1) := by decide +kernel
theorem dX8_leftWith_10 : decode cX8_leftWith 10 = .ok (.invokevirtual 63, 3) := by decide +kernel
theorem dX8_leftWith_13 : decode cX8_leftWith 13 = .ok (.ireturn, 1) := by decide +kernel
theorem dX8_onlyWeightOf_0 : decode cX8_onlyWeightOf 0 = .ok (.iconst 0, 1) := by decide +kernel
theorem dX8_onlyWeightOf_1 : decode cX8_onlyWeightOf 1 = .ok (.istore_n 2, 1) := by decide +kernel
theorem dX8_onlyWeightOf_2 : decode cX8_onlyWeightOf 2 = .ok (.iload_n 2, 1) := by decide +kernel
theorem dX8_onlyWeightOf_3 : decode cX8_onlyWeightOf 3 = .ok (.bipush 9, 2) := by decide +kernel
theorem dX8_onlyWeightOf_5 : decode cX8_onlyWeightOf 5 = .ok (.if_icmp .gt 38, 3) := by decide +kernel
theorem dX8_onlyWeightOf_8 : decode cX8_onlyWeightOf 8 = .ok (.aload_n 0, 1) := by decide +kernel
theorem dX8_onlyWeightOf_9 : decode cX8_onlyWeightOf 9 = .ok (.getfield 44, 3) := by decide +kernel
theorem dX8_onlyWeightOf_12 : decode cX8_onlyWeightOf 12 = .ok (.ifCond .le 25, 3) := by decide +kernel
theorem dX8_onlyWeightOf_15 : decode cX8_onlyWeightOf 15 = .ok (.aload_n 0, 1) := by decide +kernel
theorem dX8_onlyWeightOf_16 : decode cX8_onlyWeightOf 16 = .ok (.getfield 23, 3) := by decide +kernel
theorem dX8_onlyWeightOf_19 : decode cX8_onlyWeightOf 19 = .ok (.iload_n 1, 1) := by decide +kernel
theorem dX8_onlyWeightOf_20 : decode cX8_onlyWeightOf 20 = .ok (.bipush 10, 2) := by decide +kernel
theorem dX8_onlyWeightOf_22 : decode cX8_onlyWeightOf 22 = .ok (.imul, 1) := by decide +kernel
theorem dX8_onlyWeightOf_23 : decode cX8_onlyWeightOf 23 = .ok (.iload_n 2, 1) := by decide +kernel
theorem dX8_onlyWeightOf_24 : decode cX8_onlyWeightOf 24 = .ok (.iadd, 1) := by decide +kernel
theorem dX8_onlyWeightOf_25 : decode cX8_onlyWeightOf 25 = .ok (.invokevirtual 63, 3) := by decide +kernel
theorem dX8_onlyWeightOf_28 : decode cX8_onlyWeightOf 28 = .ok (.aload_n 0, 1) := by decide +kernel
theorem dX8_onlyWeightOf_29 : decode cX8_onlyWeightOf 29 = .ok (.getfield 44, 3) := by decide +kernel
theorem dX8_onlyWeightOf_32 : decode cX8_onlyWeightOf 32 = .ok (.if_icmp .ne 5, 3) := by decide +kernel
theorem dX8_onlyWeightOf_35 : decode cX8_onlyWeightOf 35 = .ok (.iload_n 2, 1) := by decide +kernel
theorem dX8_onlyWeightOf_36 : decode cX8_onlyWeightOf 36 = .ok (.ireturn, 1) := by decide +kernel
theorem dX8_onlyWeightOf_37 : decode cX8_onlyWeightOf 37 = .ok (.iinc 2 1, 3) := by decide +kernel
theorem dX8_onlyWeightOf_40 : decode cX8_onlyWeightOf 40 = .ok (.goto (-38), 3) := by decide +kernel
theorem dX8_onlyWeightOf_43 : decode cX8_onlyWeightOf 43 = .ok (.bipush (-9), 2) := by decide +kernel
theorem dX8_onlyWeightOf_45 : decode cX8_onlyWeightOf 45 = .ok (.ireturn, 1) := by decide +kernel
theorem dX8_fewestFalse_0 : decode cX8_fewestFalse 0 = .ok (.aload_n 0, 1) := by decide +kernel
theorem dX8_fewestFalse_1 : decode cX8_fewestFalse 1 = .ok (.getfield 48, 3) := by decide +kernel
theorem dX8_fewestFalse_4 : decode cX8_fewestFalse 4 = .ok (.ireturn, 1) := by decide +kernel
theorem dX8_everFalse_0 : decode cX8_everFalse 0 = .ok (.aload_n 0, 1) := by decide +kernel
theorem dX8_everFalse_1 : decode cX8_everFalse 1 = .ok (.getfield 51, 3) := by decide +kernel
theorem dX8_everFalse_4 : decode cX8_everFalse 4 = .ok (.ireturn, 1) := by decide +kernel
theorem dX8_surelyLaughed_0 : decode cX8_surelyLaughed 0 = .ok (.aload_n 0, 1) := by decide +kernel
theorem dX8_surelyLaughed_1 : decode cX8_surelyLaughed 1 = .ok (.getfield 44, 3) := by decide +kernel
theorem dX8_surelyLaughed_4 : decode cX8_surelyLaughed 4 = .ok (.ifCond .ne 6, 3) := by decide +kernel
theorem dX8_surelyLaughed_7 : decode cX8_surelyLaughed 7 = .ok (.bipush (-9), 2) := by decide +kernel
theorem dX8_surelyLaughed_9 : decode cX8_surelyLaughed 9 = .ok (.ireturn, 1) := by decide +kernel
theorem dX8_surelyLaughed_10 : decode cX8_surelyLaughed 10 = .ok (.aload_n 0, 1) := by decide +kernel
theorem dX8_surelyLaughed_11 : decode cX8_surelyLaughed 11 = .ok (.getfield 36, 3) := by decide +kernel
theorem dX8_surelyLaughed_14 : decode cX8_surelyLaughed 14 = .ok (.iload_n 1, 1) := by decide +kernel
theorem dX8_surelyLaughed_15 : decode cX8_surelyLaughed 15 = .ok (.invokevirtual 67, 3) := by decide +kernel
theorem dX8_surelyLaughed_18 : decode cX8_surelyLaughed 18 = .ok (.iconst 2, 1) := by decide +kernel
theorem dX8_surelyLaughed_19 : decode cX8_surelyLaughed 19 = .ok (.if_icmp .eq 12, 3) := by decide +kernel
theorem dX8_surelyLaughed_22 : decode cX8_surelyLaughed 22 = .ok (.aload_n 0, 1) := by decide +kernel
theorem dX8_surelyLaughed_23 : decode cX8_surelyLaughed 23 = .ok (.getfield 36, 3) := by decide +kernel
theorem dX8_surelyLaughed_26 : decode cX8_surelyLaughed 26 = .ok (.iload_n 1, 1) := by decide +kernel
theorem dX8_surelyLaughed_27 : decode cX8_surelyLaughed 27 = .ok (.invokevirtual 67, 3) := by decide +kernel
theorem dX8_surelyLaughed_30 : decode cX8_surelyLaughed 30 = .ok (.ireturn, 1) := by decide +kernel
theorem dX8_surelyLaughed_31 : decode cX8_surelyLaughed 31 = .ok (.iconst 0, 1) := by decide +kernel
theorem dX8_surelyLaughed_32 : decode cX8_surelyLaughed 32 = .ok (.istore_n 2, 1) := by decide +kernel
theorem dX8_surelyLaughed_33 : decode cX8_surelyLaughed 33 = .ok (.iconst 0, 1) := by decide +kernel
theorem dX8_surelyLaughed_34 : decode cX8_surelyLaughed 34 = .ok (.istore_n 3, 1) := by decide +kernel
theorem dX8_surelyLaughed_35 : decode cX8_surelyLaughed 35 = .ok (.iload_n 3, 1) := by decide +kernel
theorem dX8_surelyLaughed_36 : decode cX8_surelyLaughed 36 = .ok (.bipush 13, 2) := by decide +kernel
theorem dX8_surelyLaughed_38 : decode cX8_surelyLaughed 38 = .ok (.if_icmp .ge 25, 3) := by decide +kernel
theorem dX8_surelyLaughed_41 : decode cX8_surelyLaughed 41 = .ok (.iload_n 2, 1) := by decide +kernel
theorem dX8_surelyLaughed_42 : decode cX8_surelyLaughed 42 = .ok (.aload_n 0, 1) := by decide +kernel
theorem dX8_surelyLaughed_43 : decode cX8_surelyLaughed 43 = .ok (.getfield 29, 3) := by decide +kernel
theorem dX8_surelyLaughed_46 : decode cX8_surelyLaughed 46 = .ok (.iload_n 1, 1) := by decide +kernel
theorem dX8_surelyLaughed_47 : decode cX8_surelyLaughed 47 = .ok (.bipush 13, 2) := by decide +kernel
theorem dX8_surelyLaughed_49 : decode cX8_surelyLaughed 49 = .ok (.imul, 1) := by decide +kernel
theorem dX8_surelyLaughed_50 : decode cX8_surelyLaughed 50 = .ok (.iload_n 3, 1) := by decide +kernel
theorem dX8_surelyLaughed_51 : decode cX8_surelyLaughed 51 = .ok (.iadd, 1) := by decide +kernel
theorem dX8_surelyLaughed_52 : decode cX8_surelyLaughed 52 = .ok (.invokevirtual 63, 3) := by decide +kernel
theorem dX8_surelyLaughed_55 : decode cX8_surelyLaughed 55 = .ok (.iadd, 1) := by decide +kernel
theorem dX8_surelyLaughed_56 : decode cX8_surelyLaughed 56 = .ok (.istore_n 2, 1) := by decide +kernel
theorem dX8_surelyLaughed_57 : decode cX8_surelyLaughed 57 = .ok (.iinc 3 1, 3) := by decide +kernel
theorem dX8_surelyLaughed_60 : decode cX8_surelyLaughed 60 = .ok (.goto (-25), 3) := by decide +kernel
theorem dX8_surelyLaughed_63 : decode cX8_surelyLaughed 63 = .ok (.iload_n 2, 1) := by decide +kernel
theorem dX8_surelyLaughed_64 : decode cX8_surelyLaughed 64 = .ok (.aload_n 0, 1) := by decide +kernel
theorem dX8_surelyLaughed_65 : decode cX8_surelyLaughed 65 = .ok (.getfield 44, 3) := by decide +kernel
theorem dX8_surelyLaughed_68 : decode cX8_surelyLaughed 68 = .ok (.if_icmp .ne 5, 3) := by decide +kernel
theorem dX8_surelyLaughed_71 : decode cX8_surelyLaughed 71 = .ok (.iconst 1, 1) := by decide +kernel
theorem dX8_surelyLaughed_72 : decode cX8_surelyLaughed 72 = .ok (.ireturn, 1) := by decide +kernel
theorem dX8_surelyLaughed_73 : decode cX8_surelyLaughed 73 = .ok (.iload_n 2, 1) := by decide +kernel
theorem dX8_surelyLaughed_74 : decode cX8_surelyLaughed 74 = .ok (.ifCond .ne 7, 3) := by decide +kernel
theorem dX8_surelyLaughed_77 : decode cX8_surelyLaughed 77 = .ok (.iconst 0, 1) := by decide +kernel
theorem dX8_surelyLaughed_78 : decode cX8_surelyLaughed 78 = .ok (.goto 5, 3) := by decide +kernel
theorem dX8_surelyLaughed_81 : decode cX8_surelyLaughed 81 = .ok (.bipush (-9), 2) := by decide +kernel
theorem dX8_surelyLaughed_83 : decode cX8_surelyLaughed 83 = .ok (.ireturn, 1) := by decide +kernel
theorem dX8_chances_0 : decode cX8_chances 0 = .ok (.aload_n 0, 1) := by decide +kernel
theorem dX8_chances_1 : decode cX8_chances 1 = .ok (.getfield 36, 3) := by decide +kernel
theorem dX8_chances_4 : decode cX8_chances 4 = .ok (.iload_n 1, 1) := by decide +kernel
theorem dX8_chances_5 : decode cX8_chances 5 = .ok (.invokevirtual 67, 3) := by decide +kernel
theorem dX8_chances_8 : decode cX8_chances 8 = .ok (.iconst 2, 1) := by decide +kernel
theorem dX8_chances_9 : decode cX8_chances 9 = .ok (.if_icmp .eq 26, 3) := by decide +kernel
theorem dX8_chances_12 : decode cX8_chances 12 = .ok (.aload_n 0, 1) := by decide +kernel
theorem dX8_chances_13 : decode cX8_chances 13 = .ok (.getfield 36, 3) := by decide +kernel
theorem dX8_chances_16 : decode cX8_chances 16 = .ok (.iload_n 1, 1) := by decide +kernel
theorem dX8_chances_17 : decode cX8_chances 17 = .ok (.invokevirtual 67, 3) := by decide +kernel
theorem dX8_chances_20 : decode cX8_chances 20 = .ok (.iconst 1, 1) := by decide +kernel
theorem dX8_chances_21 : decode cX8_chances 21 = .ok (.if_icmp .ne 12, 3) := by decide +kernel
theorem dX8_chances_24 : decode cX8_chances 24 = .ok (.aload_n 0, 1) := by decide +kernel
theorem dX8_chances_25 : decode cX8_chances 25 = .ok (.iload_n 2, 1) := by decide +kernel
theorem dX8_chances_26 : decode cX8_chances 26 = .ok (.iload_n 3, 1) := by decide +kernel
theorem dX8_chances_27 : decode cX8_chances 27 = .ok (.invokevirtual 72, 3) := by decide +kernel
theorem dX8_chances_30 : decode cX8_chances 30 = .ok (.goto 4, 3) := by decide +kernel
theorem dX8_chances_33 : decode cX8_chances 33 = .ok (.lconst 0, 1) := by decide +kernel
theorem dX8_chances_34 : decode cX8_chances 34 = .ok (.lreturn, 1) := by decide +kernel
theorem dX8_chances_35 : decode cX8_chances 35 = .ok (.lconst 0, 1) := by decide +kernel
theorem dX8_chances_36 : decode cX8_chances 36 = .ok (.lstore 4, 2) := by decide +kernel
theorem dX8_chances_38 : decode cX8_chances 38 = .ok (.iconst 0, 1) := by decide +kernel
theorem dX8_chances_39 : decode cX8_chances 39 = .ok (.istore 6, 2) := by decide +kernel
theorem dX8_chances_41 : decode cX8_chances 41 = .ok (.iload 6, 2) := by decide +kernel
theorem dX8_chances_43 : decode cX8_chances 43 = .ok (.bipush 13, 2) := by decide +kernel
theorem dX8_chances_45 : decode cX8_chances 45 = .ok (.if_icmp .ge 38, 3) := by decide +kernel
theorem dX8_chances_48 : decode cX8_chances 48 = .ok (.lload 4, 2) := by decide +kernel
theorem dX8_chances_50 : decode cX8_chances 50 = .ok (.aload_n 0, 1) := by decide +kernel
theorem dX8_chances_51 : decode cX8_chances 51 = .ok (.getfield 29, 3) := by decide +kernel
theorem dX8_chances_54 : decode cX8_chances 54 = .ok (.iload_n 1, 1) := by decide +kernel
theorem dX8_chances_55 : decode cX8_chances 55 = .ok (.bipush 13, 2) := by decide +kernel
theorem dX8_chances_57 : decode cX8_chances 57 = .ok (.imul, 1) := by decide +kernel
theorem dX8_chances_58 : decode cX8_chances 58 = .ok (.iload 6, 2) := by decide +kernel
theorem dX8_chances_60 : decode cX8_chances 60 = .ok (.iadd, 1) := by decide +kernel
theorem dX8_chances_61 : decode cX8_chances 61 = .ok (.invokevirtual 63, 3) := by decide +kernel
theorem dX8_chances_64 : decode cX8_chances 64 = .ok (.i2l, 1) := by decide +kernel
theorem dX8_chances_65 : decode cX8_chances 65 = .ok (.aload_n 0, 1) := by decide +kernel
theorem dX8_chances_66 : decode cX8_chances 66 = .ok (.iload 6, 2) := by decide +kernel
theorem dX8_chances_68 : decode cX8_chances 68 = .ok (.iload_n 2, 1) := by decide +kernel
theorem dX8_chances_69 : decode cX8_chances 69 = .ok (.iload_n 3, 1) := by decide +kernel
theorem dX8_chances_70 : decode cX8_chances 70 = .ok (.invokevirtual 76, 3) := by decide +kernel
theorem dX8_chances_73 : decode cX8_chances 73 = .ok (.lmul, 1) := by decide +kernel
theorem dX8_chances_74 : decode cX8_chances 74 = .ok (.ladd, 1) := by decide +kernel
theorem dX8_chances_75 : decode cX8_chances 75 = .ok (.lstore 4, 2) := by decide +kernel
theorem dX8_chances_77 : decode cX8_chances 77 = .ok (.iinc 6 1, 3) := by decide +kernel
theorem dX8_chances_80 : decode cX8_chances 80 = .ok (.goto (-39), 3) := by decide +kernel
theorem dX8_chances_83 : decode cX8_chances 83 = .ok (.lload 4, 2) := by decide +kernel
theorem dX8_chances_85 : decode cX8_chances 85 = .ok (.lreturn, 1) := by decide +kernel
theorem dX8_allChances_0 : decode cX8_allChances 0 = .ok (.lconst 0, 1) := by decide +kernel
theorem dX8_allChances_1 : decode cX8_allChances 1 = .ok (.lstore_n 3, 1) := by decide +kernel
theorem dX8_allChances_2 : decode cX8_allChances 2 = .ok (.iconst 0, 1) := by decide +kernel
theorem dX8_allChances_3 : decode cX8_allChances 3 = .ok (.istore 5, 2) := by decide +kernel
theorem dX8_allChances_5 : decode cX8_allChances 5 = .ok (.iload 5, 2) := by decide +kernel
theorem dX8_allChances_7 : decode cX8_allChances 7 = .ok (.bipush 13, 2) := by decide +kernel
theorem dX8_allChances_9 : decode cX8_allChances 9 = .ok (.if_icmp .ge 31, 3) := by decide +kernel
theorem dX8_allChances_12 : decode cX8_allChances 12 = .ok (.lload_n 3, 1) := by decide +kernel
theorem dX8_allChances_13 : decode cX8_allChances 13 = .ok (.aload_n 0, 1) := by decide +kernel
theorem dX8_allChances_14 : decode cX8_allChances 14 = .ok (.getfield 26, 3) := by decide +kernel
theorem dX8_allChances_17 : decode cX8_allChances 17 = .ok (.iload 5, 2) := by decide +kernel
theorem dX8_allChances_19 : decode cX8_allChances 19 = .ok (.invokevirtual 63, 3) := by decide +kernel
theorem dX8_allChances_22 : decode cX8_allChances 22 = .ok (.i2l, 1) := by decide +kernel
theorem dX8_allChances_23 : decode cX8_allChances 23 = .ok (.aload_n 0, 1) := by decide +kernel
theorem dX8_allChances_24 : decode cX8_allChances 24 = .ok (.iload 5, 2) := by decide +kernel
theorem dX8_allChances_26 : decode cX8_allChances 26 = .ok (.iload_n 1, 1) := by decide +kernel
theorem dX8_allChances_27 : decode cX8_allChances 27 = .ok (.iload_n 2, 1) := by decide +kernel
theorem dX8_allChances_28 : decode cX8_allChances 28 = .ok (.invokevirtual 76, 3) := by decide +kernel
theorem dX8_allChances_31 : decode cX8_allChances 31 = .ok (.lmul, 1) := by decide +kernel
theorem dX8_allChances_32 : decode cX8_allChances 32 = .ok (.ladd, 1) := by decide +kernel
theorem dX8_allChances_33 : decode cX8_allChances 33 = .ok (.lstore_n 3, 1) := by decide +kernel
theorem dX8_allChances_34 : decode cX8_allChances 34 = .ok (.iinc 5 1, 3) := by decide +kernel
theorem dX8_allChances_37 : decode cX8_allChances 37 = .ok (.goto (-32), 3) := by decide +kernel
theorem dX8_allChances_40 : decode cX8_allChances 40 = .ok (.lload_n 3, 1) := by decide +kernel
theorem dX8_allChances_41 : decode cX8_allChances 41 = .ok (.lreturn, 1) := by decide +kernel
theorem dX8_chance_0 : decode cX8_chance 0 = .ok (.lconst 1, 1) := by decide +kernel
theorem dX8_chance_1 : decode cX8_chance 1 = .ok (.lstore 4, 2) := by decide +kernel
theorem dX8_chance_3 : decode cX8_chance 3 = .ok (.aload_n 0, 1) := by decide +kernel
theorem dX8_chance_4 : decode cX8_chance 4 = .ok (.getfield 36, 3) := by decide +kernel
theorem dX8_chance_7 : decode cX8_chance 7 = .ok (.invokevirtual 80, 3) := by decide +kernel
theorem dX8_chance_10 : decode cX8_chance 10 = .ok (.istore 6, 2) := by decide +kernel
theorem dX8_chance_12 : decode cX8_chance 12 = .ok (.iconst 0, 1) := by decide +kernel
theorem dX8_chance_13 : decode cX8_chance 13 = .ok (.istore 7, 2) := by decide +kernel
theorem dX8_chance_15 : decode cX8_chance 15 = .ok (.iload 7, 2) := by decide +kernel
theorem dX8_chance_17 : decode cX8_chance 17 = .ok (.iload 6, 2) := by decide +kernel
theorem dX8_chance_19 : decode cX8_chance 19 = .ok (.if_icmp .ge 29, 3) := by decide +kernel
theorem dX8_chance_22 : decode cX8_chance 22 = .ok (.lload 4, 2) := by decide +kernel
theorem dX8_chance_24 : decode cX8_chance 24 = .ok (.iload 7, 2) := by decide +kernel
theorem dX8_chance_26 : decode cX8_chance 26 = .ok (.iload_n 1, 1) := by decide +kernel
theorem dX8_chance_27 : decode cX8_chance 27 = .ok (.if_icmp .ge 8, 3) := by decide +kernel
theorem dX8_chance_30 : decode cX8_chance 30 = .ok (.iload_n 2, 1) := by decide +kernel
theorem dX8_chance_31 : decode cX8_chance 31 = .ok (.i2l, 1) := by decide +kernel
theorem dX8_chance_32 : decode cX8_chance 32 = .ok (.goto 7, 3) := by decide +kernel
theorem dX8_chance_35 : decode cX8_chance 35 = .ok (.iload_n 3, 1) := by decide +kernel
theorem dX8_chance_36 : decode cX8_chance 36 = .ok (.iload_n 2, 1) := by decide +kernel
theorem dX8_chance_37 : decode cX8_chance 37 = .ok (.isub, 1) := by decide +kernel
theorem dX8_chance_38 : decode cX8_chance 38 = .ok (.i2l, 1) := by decide +kernel
theorem dX8_chance_39 : decode cX8_chance 39 = .ok (.lmul, 1) := by decide +kernel
theorem dX8_chance_40 : decode cX8_chance 40 = .ok (.lstore 4, 2) := by decide +kernel
theorem dX8_chance_42 : decode cX8_chance 42 = .ok (.iinc 7 1, 3) := by decide +kernel
theorem dX8_chance_45 : decode cX8_chance 45 = .ok (.goto (-30), 3) := by decide +kernel
theorem dX8_chance_48 : decode cX8_chance 48 = .ok (.lload 4, 2) := by decide +kernel
theorem dX8_chance_50 : decode cX8_chance 50 = .ok (.lreturn, 1) := by decide +kernel
theorem dX8_leftAfter_0 : decode cX8_leftAfter 0 = .ok (.iload_n 1, 1) := by decide +kernel
theorem dX8_leftAfter_1 : decode cX8_leftAfter 1 = .ok (.iconst 1, 1) := by decide +kernel
theorem dX8_leftAfter_2 : decode cX8_leftAfter 2 = .ok (.iadd, 1) := by decide +kernel
theorem dX8_leftAfter_3 : decode cX8_leftAfter 3 = .ok (.istore_n 2, 1) := by decide +kernel
theorem dX8_leftAfter_4 : decode cX8_leftAfter 4 = .ok (.iload_n 2, 1) := by decide +kernel
theorem dX8_leftAfter_5 : decode cX8_leftAfter 5 = .ok (.sipush 10000, 3) := by decide +kernel
theorem dX8_leftAfter_8 : decode cX8_leftAfter 8 = .ok (.if_icmp .ge 48, 3) := by decide +kernel
theorem dX8_leftAfter_11 : decode cX8_leftAfter 11 = .ok (.aload_n 0, 1) := by decide +kernel
theorem dX8_leftAfter_12 : decode cX8_leftAfter 12 = .ok (.getfield 20, 3) := by decide +kernel
theorem dX8_leftAfter_15 : decode cX8_leftAfter 15 = .ok (.iload_n 2, 1) := by decide +kernel
theorem dX8_leftAfter_16 : decode cX8_leftAfter 16 = .ok (.iconst 5, 1) := by decide +kernel
theorem dX8_leftAfter_17 : decode cX8_leftAfter 17 = .ok (.ishr, 1) := by decide +kernel
theorem dX8_leftAfter_18 : decode cX8_leftAfter 18 = .ok (.invokevirtual 63, 3) := by decide +kernel
theorem dX8_leftAfter_21 : decode cX8_leftAfter 21 = .ok (.iload_n 2, 1) := by decide +kernel
theorem dX8_leftAfter_22 : decode cX8_leftAfter 22 = .ok (.bipush 31, 2) := by decide +kernel
theorem dX8_leftAfter_24 : decode cX8_leftAfter 24 = .ok (.iand, 1) := by decide +kernel
theorem dX8_leftAfter_25 : decode cX8_leftAfter 25 = .ok (.iushr, 1) := by decide +kernel
theorem dX8_leftAfter_26 : decode cX8_leftAfter 26 = .ok (.istore_n 3, 1) := by decide +kernel
theorem dX8_leftAfter_27 : decode cX8_leftAfter 27 = .ok (.iload_n 3, 1) := by decide +kernel
theorem dX8_leftAfter_28 : decode cX8_leftAfter 28 = .ok (.iconst 1, 1) := by decide +kernel
theorem dX8_leftAfter_29 : decode cX8_leftAfter 29 = .ok (.iand, 1) := by decide +kernel
theorem dX8_leftAfter_30 : decode cX8_leftAfter 30 = .ok (.iconst 1, 1) := by decide +kernel
theorem dX8_leftAfter_31 : decode cX8_leftAfter 31 = .ok (.if_icmp .ne 5, 3) := by decide +kernel
theorem dX8_leftAfter_34 : decode cX8_leftAfter 34 = .ok (.iload_n 2, 1) := by decide +kernel
theorem dX8_leftAfter_35 : decode cX8_leftAfter 35 = .ok (.ireturn, 1) := by decide +kernel
theorem dX8_leftAfter_36 : decode cX8_leftAfter 36 = .ok (.iload_n 3, 1) := by decide +kernel
theorem dX8_leftAfter_37 : decode cX8_leftAfter 37 = .ok (.ifCond .ne 12, 3) := by decide +kernel
theorem dX8_leftAfter_40 : decode cX8_leftAfter 40 = .ok (.iload_n 2, 1) := by decide +kernel
theorem dX8_leftAfter_41 : decode cX8_leftAfter 41 = .ok (.bipush 31, 2) := by decide +kernel
theorem dX8_leftAfter_43 : decode cX8_leftAfter 43 = .ok (.ior, 1) := by decide +kernel
theorem dX8_leftAfter_44 : decode cX8_leftAfter 44 = .ok (.iconst 1, 1) := by decide +kernel
theorem dX8_leftAfter_45 : decode cX8_leftAfter 45 = .ok (.iadd, 1) := by decide +kernel
theorem dX8_leftAfter_46 : decode cX8_leftAfter 46 = .ok (.goto 6, 3) := by decide +kernel
theorem dX8_leftAfter_49 : decode cX8_leftAfter 49 = .ok (.iload_n 2, 1) := by decide +kernel
theorem dX8_leftAfter_50 : decode cX8_leftAfter 50 = .ok (.iconst 1, 1) := by decide +kernel
theorem dX8_leftAfter_51 : decode cX8_leftAfter 51 = .ok (.iadd, 1) := by decide +kernel
theorem dX8_leftAfter_52 : decode cX8_leftAfter 52 = .ok (.istore_n 2, 1) := by decide +kernel
theorem dX8_leftAfter_53 : decode cX8_leftAfter 53 = .ok (.goto (-49), 3) := by decide +kernel
theorem dX8_leftAfter_56 : decode cX8_leftAfter 56 = .ok (.sipush 10000, 3) := by decide +kernel
theorem dX8_leftAfter_59 : decode cX8_leftAfter 59 = .ok (.ireturn, 1) := by decide +kernel
theorem dX8_weightIn_0 : decode cX8_weightIn 0 = .ok (.iload_n 1, 1) := by decide +kernel
theorem dX8_weightIn_1 : decode cX8_weightIn 1 = .ok (.tableswitch 49 0 2 #[27, 33, 41], 27) := by decide +kernel
theorem dX8_weightIn_28 : decode cX8_weightIn 28 = .ok (.iload_n 0, 1) := by decide +kernel
theorem dX8_weightIn_29 : decode cX8_weightIn 29 = .ok (.sipush 1000, 3) := by decide +kernel
theorem dX8_weightIn_32 : decode cX8_weightIn 32 = .ok (.idiv, 1) := by decide +kernel
theorem dX8_weightIn_33 : decode cX8_weightIn 33 = .ok (.ireturn, 1) := by decide +kernel
theorem dX8_weightIn_34 : decode cX8_weightIn 34 = .ok (.iload_n 0, 1) := by decide +kernel
theorem dX8_weightIn_35 : decode cX8_weightIn 35 = .ok (.bipush 100, 2) := by decide +kernel
theorem dX8_weightIn_37 : decode cX8_weightIn 37 = .ok (.idiv, 1) := by decide +kernel
theorem dX8_weightIn_38 : decode cX8_weightIn 38 = .ok (.bipush 10, 2) := by decide +kernel
theorem dX8_weightIn_40 : decode cX8_weightIn 40 = .ok (.irem, 1) := by decide +kernel
theorem dX8_weightIn_41 : decode cX8_weightIn 41 = .ok (.ireturn, 1) := by decide +kernel
theorem dX8_weightIn_42 : decode cX8_weightIn 42 = .ok (.iload_n 0, 1) := by decide +kernel
theorem dX8_weightIn_43 : decode cX8_weightIn 43 = .ok (.bipush 10, 2) := by decide +kernel
theorem dX8_weightIn_45 : decode cX8_weightIn 45 = .ok (.idiv, 1) := by decide +kernel
theorem dX8_weightIn_46 : decode cX8_weightIn 46 = .ok (.bipush 10, 2) := by decide +kernel
theorem dX8_weightIn_48 : decode cX8_weightIn 48 = .ok (.irem, 1) := by decide +kernel
theorem dX8_weightIn_49 : decode cX8_weightIn 49 = .ok (.ireturn, 1) := by decide +kernel
theorem dX8_weightIn_50 : decode cX8_weightIn 50 = .ok (.iload_n 0, 1) := by decide +kernel
theorem dX8_weightIn_51 : decode cX8_weightIn 51 = .ok (.bipush 10, 2) := by decide +kernel
theorem dX8_weightIn_53 : decode cX8_weightIn 53 = .ok (.irem, 1) := by decide +kernel
theorem dX8_weightIn_54 : decode cX8_weightIn 54 = .ok (.ireturn, 1) := by decide +kernel
theorem dX8_loadIn_0 : decode cX8_loadIn 0 = .ok (.iload_n 0, 1) := by decide +kernel
theorem dX8_loadIn_1 : decode cX8_loadIn 1 = .ok (.bipush 10, 2) := by decide +kernel
theorem dX8_loadIn_3 : decode cX8_loadIn 3 = .ok (.irem, 1) := by decide +kernel
theorem dX8_loadIn_4 : decode cX8_loadIn 4 = .ok (.istore_n 2, 1) := by decide +kernel
theorem dX8_loadIn_5 : decode cX8_loadIn 5 = .ok (.iload_n 1, 1) := by decide +kernel
theorem dX8_loadIn_6 : decode cX8_loadIn 6 = .ok (.iconst 1, 1) := by decide +kernel
theorem dX8_loadIn_7 : decode cX8_loadIn 7 = .ok (.iand, 1) := by decide +kernel
theorem dX8_loadIn_8 : decode cX8_loadIn 8 = .ok (.ifCond .eq 11, 3) := by decide +kernel
theorem dX8_loadIn_11 : decode cX8_loadIn 11 = .ok (.iload_n 2, 1) := by decide +kernel
theorem dX8_loadIn_12 : decode cX8_loadIn 12 = .ok (.iload_n 0, 1) := by decide +kernel
theorem dX8_loadIn_13 : decode cX8_loadIn 13 = .ok (.sipush 1000, 3) := by decide +kernel
theorem dX8_loadIn_16 : decode cX8_loadIn 16 = .ok (.idiv, 1) := by decide +kernel
theorem dX8_loadIn_17 : decode cX8_loadIn 17 = .ok (.iadd, 1) := by decide +kernel
theorem dX8_loadIn_18 : decode cX8_loadIn 18 = .ok (.istore_n 2, 1) := by decide +kernel
theorem dX8_loadIn_19 : decode cX8_loadIn 19 = .ok (.iload_n 1, 1) := by decide +kernel
theorem dX8_loadIn_20 : decode cX8_loadIn 20 = .ok (.iconst 2, 1) := by decide +kernel
theorem dX8_loadIn_21 : decode cX8_loadIn 21 = .ok (.iand, 1) := by decide +kernel
theorem dX8_loadIn_22 : decode cX8_loadIn 22 = .ok (.ifCond .eq 13, 3) := by decide +kernel
theorem dX8_loadIn_25 : decode cX8_loadIn 25 = .ok (.iload_n 2, 1) := by decide +kernel
theorem dX8_loadIn_26 : decode cX8_loadIn 26 = .ok (.iload_n 0, 1) := by decide +kernel
theorem dX8_loadIn_27 : decode cX8_loadIn 27 = .ok (.bipush 100, 2) := by decide +kernel
theorem dX8_loadIn_29 : decode cX8_loadIn 29 = .ok (.idiv, 1) := by decide +kernel
theorem dX8_loadIn_30 : decode cX8_loadIn 30 = .ok (.bipush 10, 2) := by decide +kernel
theorem dX8_loadIn_32 : decode cX8_loadIn 32 = .ok (.irem, 1) := by decide +kernel
theorem dX8_loadIn_33 : decode cX8_loadIn 33 = .ok (.iadd, 1) := by decide +kernel
theorem dX8_loadIn_34 : decode cX8_loadIn 34 = .ok (.istore_n 2, 1) := by decide +kernel
theorem dX8_loadIn_35 : decode cX8_loadIn 35 = .ok (.iload_n 1, 1) := by decide +kernel
theorem dX8_loadIn_36 : decode cX8_loadIn 36 = .ok (.iconst 4, 1) := by decide +kernel
theorem dX8_loadIn_37 : decode cX8_loadIn 37 = .ok (.iand, 1) := by decide +kernel
theorem dX8_loadIn_38 : decode cX8_loadIn 38 = .ok (.ifCond .eq 13, 3) := by decide +kernel
theorem dX8_loadIn_41 : decode cX8_loadIn 41 = .ok (.iload_n 2, 1) := by decide +kernel
theorem dX8_loadIn_42 : decode cX8_loadIn 42 = .ok (.iload_n 0, 1) := by decide +kernel
theorem dX8_loadIn_43 : decode cX8_loadIn 43 = .ok (.bipush 10, 2) := by decide +kernel
theorem dX8_loadIn_45 : decode cX8_loadIn 45 = .ok (.idiv, 1) := by decide +kernel
theorem dX8_loadIn_46 : decode cX8_loadIn 46 = .ok (.bipush 10, 2) := by decide +kernel
theorem dX8_loadIn_48 : decode cX8_loadIn 48 = .ok (.irem, 1) := by decide +kernel
theorem dX8_loadIn_49 : decode cX8_loadIn 49 = .ok (.iadd, 1) := by decide +kernel
theorem dX8_loadIn_50 : decode cX8_loadIn 50 = .ok (.istore_n 2, 1) := by decide +kernel
theorem dX8_loadIn_51 : decode cX8_loadIn 51 = .ok (.iload_n 2, 1) := by decide +kernel
theorem dX8_loadIn_52 : decode cX8_loadIn 52 = .ok (.ireturn, 1) := by decide +kernel
theorem dX8_writeCodes_0 : decode cX8_writeCodes 0 = .ok (.aload_n 0, 1) := by decide +kernel
theorem dX8_writeCodes_1 : decode cX8_writeCodes 1 = .ok (.getfield 16, 3) := by decide +kernel
theorem dX8_writeCodes_4 : decode cX8_writeCodes 4 = .ok (.invokevirtual 54, 3) := by decide +kernel
theorem dX8_writeCodes_7 : decode cX8_writeCodes 7 = .ok (.iconst 0, 1) := by decide +kernel
theorem dX8_writeCodes_8 : decode cX8_writeCodes 8 = .ok (.istore_n 1, 1) := by decide +kernel
theorem dX8_writeCodes_9 : decode cX8_writeCodes 9 = .ok (.iload_n 1, 1) := by decide +kernel
theorem dX8_writeCodes_10 : decode cX8_writeCodes 10 = .ok (.aload_n 0, 1) := by decide +kernel
theorem dX8_writeCodes_11 : decode cX8_writeCodes 11 = .ok (.getfield 36, 3) := by decide +kernel
theorem dX8_writeCodes_14 : decode cX8_writeCodes 14 = .ok (.invokevirtual 84, 3) := by decide +kernel
theorem dX8_writeCodes_17 : decode cX8_writeCodes 17 = .ok (.if_icmp .ge 49, 3) := by decide +kernel
theorem dX8_writeCodes_20 : decode cX8_writeCodes 20 = .ok (.iconst 0, 1) := by decide +kernel
theorem dX8_writeCodes_21 : decode cX8_writeCodes 21 = .ok (.istore_n 2, 1) := by decide +kernel
theorem dX8_writeCodes_22 : decode cX8_writeCodes 22 = .ok (.iload_n 2, 1) := by decide +kernel
theorem dX8_writeCodes_23 : decode cX8_writeCodes 23 = .ok (.bipush 37, 2) := by decide +kernel
theorem dX8_writeCodes_25 : decode cX8_writeCodes 25 = .ok (.if_icmp .ge 35, 3) := by decide +kernel
theorem dX8_writeCodes_28 : decode cX8_writeCodes 28 = .ok (.aload_n 0, 1) := by decide +kernel
theorem dX8_writeCodes_29 : decode cX8_writeCodes 29 = .ok (.getfield 16, 3) := by decide +kernel
theorem dX8_writeCodes_32 : decode cX8_writeCodes 32 = .ok (.aload_n 0, 1) := by decide +kernel
theorem dX8_writeCodes_33 : decode cX8_writeCodes 33 = .ok (.getfield 36, 3) := by decide +kernel
theorem dX8_writeCodes_36 : decode cX8_writeCodes 36 = .ok (.iload_n 1, 1) := by decide +kernel
theorem dX8_writeCodes_37 : decode cX8_writeCodes 37 = .ok (.invokevirtual 87, 3) := by decide +kernel
theorem dX8_writeCodes_40 : decode cX8_writeCodes 40 = .ok (.bipush 37, 2) := by decide +kernel
theorem dX8_writeCodes_42 : decode cX8_writeCodes 42 = .ok (.imul, 1) := by decide +kernel
theorem dX8_writeCodes_43 : decode cX8_writeCodes 43 = .ok (.iload_n 2, 1) := by decide +kernel
theorem dX8_writeCodes_44 : decode cX8_writeCodes 44 = .ok (.iadd, 1) := by decide +kernel
theorem dX8_writeCodes_45 : decode cX8_writeCodes 45 = .ok (.aload_n 0, 1) := by decide +kernel
theorem dX8_writeCodes_46 : decode cX8_writeCodes 46 = .ok (.iload_n 1, 1) := by decide +kernel
theorem dX8_writeCodes_47 : decode cX8_writeCodes 47 = .ok (.iload_n 2, 1) := by decide +kernel
theorem dX8_writeCodes_48 : decode cX8_writeCodes 48 = .ok (.invokevirtual 90, 3) := by decide +kernel
theorem dX8_writeCodes_51 : decode cX8_writeCodes 51 = .ok (.invokevirtual 94, 3) := by decide +kernel
theorem dX8_writeCodes_54 : decode cX8_writeCodes 54 = .ok (.iinc 2 1, 3) := by decide +kernel
theorem dX8_writeCodes_57 : decode cX8_writeCodes 57 = .ok (.goto (-35), 3) := by decide +kernel
theorem dX8_writeCodes_60 : decode cX8_writeCodes 60 = .ok (.iinc 1 1, 3) := by decide +kernel
theorem dX8_writeCodes_63 : decode cX8_writeCodes 63 = .ok (.goto (-54), 3) := by decide +kernel
theorem dX8_writeCodes_66 : decode cX8_writeCodes 66 = .ok (.return_, 1) := by decide +kernel
theorem dX8_codeOf_0 : decode cX8_codeOf 0 = .ok (.aload_n 0, 1) := by decide +kernel
theorem dX8_codeOf_1 : decode cX8_codeOf 1 = .ok (.getfield 36, 3) := by decide +kernel
theorem dX8_codeOf_4 : decode cX8_codeOf 4 = .ok (.iload_n 1, 1) := by decide +kernel
theorem dX8_codeOf_5 : decode cX8_codeOf 5 = .ok (.invokevirtual 67, 3) := by decide +kernel
theorem dX8_codeOf_8 : decode cX8_codeOf 8 = .ok (.istore_n 3, 1) := by decide +kernel
theorem dX8_codeOf_9 : decode cX8_codeOf 9 = .ok (.aload_n 0, 1) := by decide +kernel
theorem dX8_codeOf_10 : decode cX8_codeOf 10 = .ok (.getfield 32, 3) := by decide +kernel
theorem dX8_codeOf_13 : decode cX8_codeOf 13 = .ok (.iload_n 2, 1) := by decide +kernel
theorem dX8_codeOf_14 : decode cX8_codeOf 14 = .ok (.invokevirtual 98, 3) := by decide +kernel
theorem dX8_codeOf_17 : decode cX8_codeOf 17 = .ok (.aload_n 0, 1) := by decide +kernel
theorem dX8_codeOf_18 : decode cX8_codeOf 18 = .ok (.getfield 36, 3) := by decide +kernel
theorem dX8_codeOf_21 : decode cX8_codeOf 21 = .ok (.iload_n 1, 1) := by decide +kernel
theorem dX8_codeOf_22 : decode cX8_codeOf 22 = .ok (.invokevirtual 103, 3) := by decide +kernel
theorem dX8_codeOf_25 : decode cX8_codeOf 25 = .ok (.if_icmp .ne 7, 3) := by decide +kernel
theorem dX8_codeOf_28 : decode cX8_codeOf 28 = .ok (.iconst 1, 1) := by decide +kernel
theorem dX8_codeOf_29 : decode cX8_codeOf 29 = .ok (.goto 4, 3) := by decide +kernel
theorem dX8_codeOf_32 : decode cX8_codeOf 32 = .ok (.iconst 0, 1) := by decide +kernel
theorem dX8_codeOf_33 : decode cX8_codeOf 33 = .ok (.istore 4, 2) := by decide +kernel
theorem dX8_codeOf_35 : decode cX8_codeOf 35 = .ok (.aload_n 0, 1) := by decide +kernel
theorem dX8_codeOf_36 : decode cX8_codeOf 36 = .ok (.getfield 32, 3) := by decide +kernel
theorem dX8_codeOf_39 : decode cX8_codeOf 39 = .ok (.iload_n 2, 1) := by decide +kernel
theorem dX8_codeOf_40 : decode cX8_codeOf 40 = .ok (.iconst 1, 1) := by decide +kernel
theorem dX8_codeOf_41 : decode cX8_codeOf 41 = .ok (.iadd, 1) := by decide +kernel
theorem dX8_codeOf_42 : decode cX8_codeOf 42 = .ok (.invokevirtual 98, 3) := by decide +kernel
theorem dX8_codeOf_45 : decode cX8_codeOf 45 = .ok (.aload_n 0, 1) := by decide +kernel
theorem dX8_codeOf_46 : decode cX8_codeOf 46 = .ok (.getfield 36, 3) := by decide +kernel
theorem dX8_codeOf_49 : decode cX8_codeOf 49 = .ok (.iload_n 1, 1) := by decide +kernel
theorem dX8_codeOf_50 : decode cX8_codeOf 50 = .ok (.invokevirtual 103, 3) := by decide +kernel
theorem dX8_codeOf_53 : decode cX8_codeOf 53 = .ok (.if_icmp .ne 7, 3) := by decide +kernel
theorem dX8_codeOf_56 : decode cX8_codeOf 56 = .ok (.iconst 1, 1) := by decide +kernel
theorem dX8_codeOf_57 : decode cX8_codeOf 57 = .ok (.goto 4, 3) := by decide +kernel
theorem dX8_codeOf_60 : decode cX8_codeOf 60 = .ok (.iconst 0, 1) := by decide +kernel
theorem dX8_codeOf_61 : decode cX8_codeOf 61 = .ok (.istore 5, 2) := by decide +kernel
theorem dX8_codeOf_63 : decode cX8_codeOf 63 = .ok (.iload_n 3, 1) := by decide +kernel
theorem dX8_codeOf_64 : decode cX8_codeOf 64 = .ok (.iconst 1, 1) := by decide +kernel
theorem dX8_codeOf_65 : decode cX8_codeOf 65 = .ok (.if_icmp .eq 8, 3) := by decide +kernel
theorem dX8_codeOf_68 : decode cX8_codeOf 68 = .ok (.iload 4, 2) := by decide +kernel
theorem dX8_codeOf_70 : decode cX8_codeOf 70 = .ok (.ifCond .ne 12, 3) := by decide +kernel
theorem dX8_codeOf_73 : decode cX8_codeOf 73 = .ok (.iload_n 3, 1) := by decide +kernel
theorem dX8_codeOf_74 : decode cX8_codeOf 74 = .ok (.ifCond .eq 12, 3) := by decide +kernel
theorem dX8_codeOf_77 : decode cX8_codeOf 77 = .ok (.iload 5, 2) := by decide +kernel
theorem dX8_codeOf_79 : decode cX8_codeOf 79 = .ok (.ifCond .eq 7, 3) := by decide +kernel
theorem dX8_codeOf_82 : decode cX8_codeOf 82 = .ok (.iconst 1, 1) := by decide +kernel
theorem dX8_codeOf_83 : decode cX8_codeOf 83 = .ok (.goto 4, 3) := by decide +kernel
theorem dX8_codeOf_86 : decode cX8_codeOf 86 = .ok (.iconst 0, 1) := by decide +kernel
theorem dX8_codeOf_87 : decode cX8_codeOf 87 = .ok (.istore 6, 2) := by decide +kernel
theorem dX8_codeOf_89 : decode cX8_codeOf 89 = .ok (.iload 6, 2) := by decide +kernel
theorem dX8_codeOf_91 : decode cX8_codeOf 91 = .ok (.ifCond .eq 7, 3) := by decide +kernel
theorem dX8_codeOf_94 : decode cX8_codeOf 94 = .ok (.iconst 0, 1) := by decide +kernel
theorem dX8_codeOf_95 : decode cX8_codeOf 95 = .ok (.goto 6, 3) := by decide +kernel
theorem dX8_codeOf_98 : decode cX8_codeOf 98 = .ok (.iconst 1, 1) := by decide +kernel
theorem dX8_codeOf_99 : decode cX8_codeOf 99 = .ok (.iload_n 1, 1) := by decide +kernel
theorem dX8_codeOf_100 : decode cX8_codeOf 100 = .ok (.ishl, 1) := by decide +kernel
theorem dX8_codeOf_101 : decode cX8_codeOf 101 = .ok (.istore 7, 2) := by decide +kernel
theorem dX8_codeOf_103 : decode cX8_codeOf 103 = .ok (.iload_n 3, 1) := by decide +kernel
theorem dX8_codeOf_104 : decode cX8_codeOf 104 = .ok (.iconst 2, 1) := by decide +kernel
theorem dX8_codeOf_105 : decode cX8_codeOf 105 = .ok (.if_icmp .ne 20, 3) := by decide +kernel
theorem dX8_codeOf_108 : decode cX8_codeOf 108 = .ok (.iload 5, 2) := by decide +kernel
theorem dX8_codeOf_110 : decode cX8_codeOf 110 = .ok (.ifCond .eq 15, 3) := by decide +kernel
theorem dX8_codeOf_113 : decode cX8_codeOf 113 = .ok (.iload 7, 2) := by decide +kernel
theorem dX8_codeOf_115 : decode cX8_codeOf 115 = .ok (.iconst 1, 1) := by decide +kernel
theorem dX8_codeOf_116 : decode cX8_codeOf 116 = .ok (.bipush 12, 2) := by decide +kernel
theorem dX8_codeOf_118 : decode cX8_codeOf 118 = .ok (.iload_n 1, 1) := by decide +kernel
theorem dX8_codeOf_119 : decode cX8_codeOf 119 = .ok (.iadd, 1) := by decide +kernel
theorem dX8_codeOf_120 : decode cX8_codeOf 120 = .ok (.ishl, 1) := by decide +kernel
theorem dX8_codeOf_121 : decode cX8_codeOf 121 = .ok (.ior, 1) := by decide +kernel
theorem dX8_codeOf_122 : decode cX8_codeOf 122 = .ok (.goto 5, 3) := by decide +kernel
theorem dX8_codeOf_125 : decode cX8_codeOf 125 = .ok (.iload 7, 2) := by decide +kernel
theorem dX8_codeOf_127 : decode cX8_codeOf 127 = .ok (.ireturn, 1) := by decide +kernel
theorem dX8_code_0 : decode cX8_code 0 = .ok (.aload_n 0, 1) := by decide +kernel
theorem dX8_code_1 : decode cX8_code 1 = .ok (.getfield 16, 3) := by decide +kernel
theorem dX8_code_4 : decode cX8_code 4 = .ok (.iload_n 1, 1) := by decide +kernel
theorem dX8_code_5 : decode cX8_code 5 = .ok (.bipush 37, 2) := by decide +kernel
theorem dX8_code_7 : decode cX8_code 7 = .ok (.imul, 1) := by decide +kernel
theorem dX8_code_8 : decode cX8_code 8 = .ok (.iload_n 2, 1) := by decide +kernel
theorem dX8_code_9 : decode cX8_code 9 = .ok (.iadd, 1) := by decide +kernel
theorem dX8_code_10 : decode cX8_code 10 = .ok (.invokevirtual 63, 3) := by decide +kernel
theorem dX8_code_13 : decode cX8_code 13 = .ok (.ireturn, 1) := by decide +kernel
theorem dX8_meetWorldsWith_0 : decode cX8_meetWorldsWith 0 = .ok (.aload_n 0, 1) := by decide +kernel
theorem dX8_meetWorldsWith_1 : decode cX8_meetWorldsWith 1 = .ok (.iconst 0, 1) := by decide +kernel
theorem dX8_meetWorldsWith_2 : decode cX8_meetWorldsWith 2 = .ok (.iload_n 1, 1) := by decide +kernel
theorem dX8_meetWorldsWith_3 : decode cX8_meetWorldsWith 3 = .ok (.invokevirtual 106, 3) := by decide +kernel
theorem dX8_meetWorldsWith_6 : decode cX8_meetWorldsWith 6 = .ok (.istore_n 2, 1) := by decide +kernel
theorem dX8_meetWorldsWith_7 : decode cX8_meetWorldsWith 7 = .ok (.aload_n 0, 1) := by decide +kernel
theorem dX8_meetWorldsWith_8 : decode cX8_meetWorldsWith 8 = .ok (.iconst 0, 1) := by decide +kernel
theorem dX8_meetWorldsWith_9 : decode cX8_meetWorldsWith 9 = .ok (.invokevirtual 109, 3) := by decide +kernel
theorem dX8_meetWorldsWith_12 : decode cX8_meetWorldsWith 12 = .ok (.istore_n 3, 1) := by decide +kernel
theorem dX8_meetWorldsWith_13 : decode cX8_meetWorldsWith 13 = .ok (.iload_n 3, 1) := by decide +kernel
theorem dX8_meetWorldsWith_14 : decode cX8_meetWorldsWith 14 = .ok (.aload_n 0, 1) := by decide +kernel
theorem dX8_meetWorldsWith_15 : decode cX8_meetWorldsWith 15 = .ok (.iconst 0, 1) := by decide +kernel
theorem dX8_meetWorldsWith_16 : decode cX8_meetWorldsWith 16 = .ok (.invokevirtual 112, 3) := by decide +kernel
theorem dX8_meetWorldsWith_19 : decode cX8_meetWorldsWith 19 = .ok (.if_icmp .gt 174, 3) := by decide +kernel
theorem dX8_meetWorldsWith_22 : decode cX8_meetWorldsWith 22 = .ok (.iload_n 2, 1) := by decide +kernel
theorem dX8_meetWorldsWith_23 : decode cX8_meetWorldsWith 23 = .ok (.aload_n 0, 1) := by decide +kernel
theorem dX8_meetWorldsWith_24 : decode cX8_meetWorldsWith 24 = .ok (.iconst 1, 1) := by decide +kernel
theorem dX8_meetWorldsWith_25 : decode cX8_meetWorldsWith 25 = .ok (.iload_n 1, 1) := by decide +kernel
theorem dX8_meetWorldsWith_26 : decode cX8_meetWorldsWith 26 = .ok (.iload_n 3, 1) := by decide +kernel
theorem dX8_meetWorldsWith_27 : decode cX8_meetWorldsWith 27 = .ok (.iadd, 1) := by decide +kernel
theorem dX8_meetWorldsWith_28 : decode cX8_meetWorldsWith 28 = .ok (.invokevirtual 106, 3) := by decide +kernel
theorem dX8_meetWorldsWith_31 : decode cX8_meetWorldsWith 31 = .ok (.ior, 1) := by decide +kernel
theorem dX8_meetWorldsWith_32 : decode cX8_meetWorldsWith 32 = .ok (.istore 4, 2) := by decide +kernel
theorem dX8_meetWorldsWith_34 : decode cX8_meetWorldsWith 34 = .ok (.aload_n 0, 1) := by decide +kernel
theorem dX8_meetWorldsWith_35 : decode cX8_meetWorldsWith 35 = .ok (.iconst 1, 1) := by decide +kernel
theorem dX8_meetWorldsWith_36 : decode cX8_meetWorldsWith 36 = .ok (.invokevirtual 109, 3) := by decide +kernel
theorem dX8_meetWorldsWith_39 : decode cX8_meetWorldsWith 39 = .ok (.istore 5, 2) := by decide +kernel
theorem dX8_meetWorldsWith_41 : decode cX8_meetWorldsWith 41 = .ok (.iload 5, 2) := by decide +kernel
theorem dX8_meetWorldsWith_43 : decode cX8_meetWorldsWith 43 = .ok (.aload_n 0, 1) := by decide +kernel
theorem dX8_meetWorldsWith_44 : decode cX8_meetWorldsWith 44 = .ok (.iconst 1, 1) := by decide +kernel
theorem dX8_meetWorldsWith_45 : decode cX8_meetWorldsWith 45 = .ok (.invokevirtual 112, 3) := by decide +kernel
theorem dX8_meetWorldsWith_48 : decode cX8_meetWorldsWith 48 = .ok (.if_icmp .gt 139, 3) := by decide +kernel
theorem dX8_meetWorldsWith_51 : decode cX8_meetWorldsWith 51 = .ok (.iload 4, 2) := by decide +kernel
theorem dX8_meetWorldsWith_53 : decode cX8_meetWorldsWith 53 = .ok (.aload_n 0, 1) := by decide +kernel
theorem dX8_meetWorldsWith_54 : decode cX8_meetWorldsWith 54 = .ok (.iconst 2, 1) := by decide +kernel
theorem dX8_meetWorldsWith_55 : decode cX8_meetWorldsWith 55 = .ok (.iload_n 1, 1) := by decide +kernel
theorem dX8_meetWorldsWith_56 : decode cX8_meetWorldsWith 56 = .ok (.iload 5, 2) := by decide +kernel
theorem dX8_meetWorldsWith_58 : decode cX8_meetWorldsWith 58 = .ok (.iadd, 1) := by decide +kernel
theorem dX8_meetWorldsWith_59 : decode cX8_meetWorldsWith 59 = .ok (.invokevirtual 106, 3) := by decide +kernel
theorem dX8_meetWorldsWith_62 : decode cX8_meetWorldsWith 62 = .ok (.ior, 1) := by decide +kernel
theorem dX8_meetWorldsWith_63 : decode cX8_meetWorldsWith 63 = .ok (.aload_n 0, 1) := by decide +kernel
theorem dX8_meetWorldsWith_64 : decode cX8_meetWorldsWith 64 = .ok (.iconst 3, 1) := by decide +kernel
theorem dX8_meetWorldsWith_65 : decode cX8_meetWorldsWith 65 = .ok (.iload_n 1, 1) := by decide +kernel
theorem dX8_meetWorldsWith_66 : decode cX8_meetWorldsWith 66 = .ok (.iload_n 3, 1) := by decide +kernel
theorem dX8_meetWorldsWith_67 : decode cX8_meetWorldsWith 67 = .ok (.iadd, 1) := by decide +kernel
theorem dX8_meetWorldsWith_68 : decode cX8_meetWorldsWith 68 = .ok (.iload 5, 2) := by decide +kernel
theorem dX8_meetWorldsWith_70 : decode cX8_meetWorldsWith 70 = .ok (.iadd, 1) := by decide +kernel
theorem dX8_meetWorldsWith_71 : decode cX8_meetWorldsWith 71 = .ok (.invokevirtual 106, 3) := by decide +kernel
theorem dX8_meetWorldsWith_74 : decode cX8_meetWorldsWith 74 = .ok (.ior, 1) := by decide +kernel
theorem dX8_meetWorldsWith_75 : decode cX8_meetWorldsWith 75 = .ok (.istore 6, 2) := by decide +kernel
theorem dX8_meetWorldsWith_77 : decode cX8_meetWorldsWith 77 = .ok (.aload_n 0, 1) := by decide +kernel
theorem dX8_meetWorldsWith_78 : decode cX8_meetWorldsWith 78 = .ok (.iconst 2, 1) := by decide +kernel
theorem dX8_meetWorldsWith_79 : decode cX8_meetWorldsWith 79 = .ok (.invokevirtual 109, 3) := by decide +kernel
theorem dX8_meetWorldsWith_82 : decode cX8_meetWorldsWith 82 = .ok (.istore 7, 2) := by decide +kernel
theorem dX8_meetWorldsWith_84 : decode cX8_meetWorldsWith 84 = .ok (.iload 7, 2) := by decide +kernel
theorem dX8_meetWorldsWith_86 : decode cX8_meetWorldsWith 86 = .ok (.aload_n 0, 1) := by decide +kernel
theorem dX8_meetWorldsWith_87 : decode cX8_meetWorldsWith 87 = .ok (.iconst 2, 1) := by decide +kernel
theorem dX8_meetWorldsWith_88 : decode cX8_meetWorldsWith 88 = .ok (.invokevirtual 112, 3) := by decide +kernel
theorem dX8_meetWorldsWith_91 : decode cX8_meetWorldsWith 91 = .ok (.if_icmp .gt 90, 3) := by decide +kernel
theorem dX8_meetWorldsWith_94 : decode cX8_meetWorldsWith 94 = .ok (.iload 6, 2) := by decide +kernel
theorem dX8_meetWorldsWith_96 : decode cX8_meetWorldsWith 96 = .ok (.aload_n 0, 1) := by decide +kernel
theorem dX8_meetWorldsWith_97 : decode cX8_meetWorldsWith 97 = .ok (.iconst 4, 1) := by decide +kernel
theorem dX8_meetWorldsWith_98 : decode cX8_meetWorldsWith 98 = .ok (.iload_n 1, 1) := by decide +kernel
theorem dX8_meetWorldsWith_99 : decode cX8_meetWorldsWith 99 = .ok (.iload 7, 2) := by decide +kernel
theorem dX8_meetWorldsWith_101 : decode cX8_meetWorldsWith 101 = .ok (.iadd, 1) := by decide +kernel
theorem dX8_meetWorldsWith_102 : decode cX8_meetWorldsWith 102 = .ok (.invokevirtual 106, 3) := by decide +kernel
theorem dX8_meetWorldsWith_105 : decode cX8_meetWorldsWith 105 = .ok (.ior, 1) := by decide +kernel
theorem dX8_meetWorldsWith_106 : decode cX8_meetWorldsWith 106 = .ok (.aload_n 0, 1) := by decide +kernel
theorem dX8_meetWorldsWith_107 : decode cX8_meetWorldsWith 107 = .ok (.iconst 5, 1) := by decide +kernel
theorem dX8_meetWorldsWith_108 : decode cX8_meetWorldsWith 108 = .ok (.iload_n 1, 1) := by decide +kernel
theorem dX8_meetWorldsWith_109 : decode cX8_meetWorldsWith 109 = .ok (.iload_n 3, 1) := by decide +kernel
theorem dX8_meetWorldsWith_110 : decode cX8_meetWorldsWith 110 = .ok (.iadd, 1) := by decide +kernel
theorem dX8_meetWorldsWith_111 : decode cX8_meetWorldsWith 111 = .ok (.iload 7, 2) := by decide +kernel
theorem dX8_meetWorldsWith_113 : decode cX8_meetWorldsWith 113 = .ok (.iadd, 1) := by decide +kernel
theorem dX8_meetWorldsWith_114 : decode cX8_meetWorldsWith 114 = .ok (.invokevirtual 106, 3) := by decide +kernel
theorem dX8_meetWorldsWith_117 : decode cX8_meetWorldsWith 117 = .ok (.ior, 1) := by decide +kernel
theorem dX8_meetWorldsWith_118 : decode cX8_meetWorldsWith 118 = .ok (.aload_n 0, 1) := by decide +kernel
theorem dX8_meetWorldsWith_119 : decode cX8_meetWorldsWith 119 = .ok (.bipush 6, 2) := by decide +kernel
theorem dX8_meetWorldsWith_121 : decode cX8_meetWorldsWith 121 = .ok (.iload_n 1, 1) := by decide +kernel
theorem dX8_meetWorldsWith_122 : decode cX8_meetWorldsWith 122 = .ok (.iload 5, 2) := by decide +kernel
theorem dX8_meetWorldsWith_124 : decode cX8_meetWorldsWith 124 = .ok (.iadd, 1) := by decide +kernel
theorem dX8_meetWorldsWith_125 : decode cX8_meetWorldsWith 125 = .ok (.iload 7, 2) := by decide +kernel
theorem dX8_meetWorldsWith_127 : decode cX8_meetWorldsWith 127 = .ok (.iadd, 1) := by decide +kernel
theorem dX8_meetWorldsWith_128 : decode cX8_meetWorldsWith 128 = .ok (.invokevirtual 106, 3) := by decide +kernel
theorem dX8_meetWorldsWith_131 : decode cX8_meetWorldsWith 131 = .ok (.ior, 1) := by decide +kernel
theorem dX8_meetWorldsWith_132 : decode cX8_meetWorldsWith 132 = .ok (.aload_n 0, 1) := by decide +kernel
theorem dX8_meetWorldsWith_133 : decode cX8_meetWorldsWith 133 = .ok (.bipush 7, 2) := by decide +kernel
theorem dX8_meetWorldsWith_135 : decode cX8_meetWorldsWith 135 = .ok (.iload_n 1, 1) := by decide +kernel
theorem dX8_meetWorldsWith_136 : decode cX8_meetWorldsWith 136 = .ok (.iload_n 3, 1) := by decide +kernel
theorem dX8_meetWorldsWith_137 : decode cX8_meetWorldsWith 137 = .ok (.iadd, 1) := by decide +kernel
theorem dX8_meetWorldsWith_138 : decode cX8_meetWorldsWith 138 = .ok (.iload 5, 2) := by decide +kernel
theorem dX8_meetWorldsWith_140 : decode cX8_meetWorldsWith 140 = .ok (.iadd, 1) := by decide +kernel
theorem dX8_meetWorldsWith_141 : decode cX8_meetWorldsWith 141 = .ok (.iload 7, 2) := by decide +kernel
theorem dX8_meetWorldsWith_143 : decode cX8_meetWorldsWith 143 = .ok (.iadd, 1) := by decide +kernel
theorem dX8_meetWorldsWith_144 : decode cX8_meetWorldsWith 144 = .ok (.invokevirtual 106, 3) := by decide +kernel
theorem dX8_meetWorldsWith_147 : decode cX8_meetWorldsWith 147 = .ok (.ior, 1) := by decide +kernel
theorem dX8_meetWorldsWith_148 : decode cX8_meetWorldsWith 148 = .ok (.istore 8, 2) := by decide +kernel
theorem dX8_meetWorldsWith_150 : decode cX8_meetWorldsWith 150 = .ok (.aload_n 0, 1) := by decide +kernel
theorem dX8_meetWorldsWith_151 : decode cX8_meetWorldsWith 151 = .ok (.iload_n 3, 1) := by decide +kernel
theorem dX8_meetWorldsWith_152 : decode cX8_meetWorldsWith 152 = .ok (.sipush 1000, 3) := by decide +kernel
theorem dX8_meetWorldsWith_155 : decode cX8_meetWorldsWith 155 = .ok (.imul, 1) := by decide +kernel
theorem dX8_meetWorldsWith_156 : decode cX8_meetWorldsWith 156 = .ok (.iload 5, 2) := by decide +kernel
theorem dX8_meetWorldsWith_158 : decode cX8_meetWorldsWith 158 = .ok (.bipush 100, 2) := by decide +kernel
theorem dX8_meetWorldsWith_160 : decode cX8_meetWorldsWith 160 = .ok (.imul, 1) := by decide +kernel
theorem dX8_meetWorldsWith_161 : decode cX8_meetWorldsWith 161 = .ok (.iadd, 1) := by decide +kernel
theorem dX8_meetWorldsWith_162 : decode cX8_meetWorldsWith 162 = .ok (.iload 7, 2) := by decide +kernel
theorem dX8_meetWorldsWith_164 : decode cX8_meetWorldsWith 164 = .ok (.bipush 10, 2) := by decide +kernel
theorem dX8_meetWorldsWith_166 : decode cX8_meetWorldsWith 166 = .ok (.imul, 1) := by decide +kernel
theorem dX8_meetWorldsWith_167 : decode cX8_meetWorldsWith 167 = .ok (.iadd, 1) := by decide +kernel
theorem dX8_meetWorldsWith_168 : decode cX8_meetWorldsWith 168 = .ok (.iload_n 1, 1) := by decide +kernel
theorem dX8_meetWorldsWith_169 : decode cX8_meetWorldsWith 169 = .ok (.iadd, 1) := by decide +kernel
theorem dX8_meetWorldsWith_170 : decode cX8_meetWorldsWith 170 = .ok (.iload 8, 2) := by decide +kernel
theorem dX8_meetWorldsWith_172 : decode cX8_meetWorldsWith 172 = .ok (.invokevirtual 115, 3) := by decide +kernel
theorem dX8_meetWorldsWith_175 : decode cX8_meetWorldsWith 175 = .ok (.iinc 7 1, 3) := by decide +kernel
theorem dX8_meetWorldsWith_178 : decode cX8_meetWorldsWith 178 = .ok (.goto (-94), 3) := by decide +kernel
theorem dX8_meetWorldsWith_181 : decode cX8_meetWorldsWith 181 = .ok (.iinc 5 1, 3) := by decide +kernel
theorem dX8_meetWorldsWith_184 : decode cX8_meetWorldsWith 184 = .ok (.goto (-143), 3) := by decide +kernel
theorem dX8_meetWorldsWith_187 : decode cX8_meetWorldsWith 187 = .ok (.iinc 3 1, 3) := by decide +kernel
theorem dX8_meetWorldsWith_190 : decode cX8_meetWorldsWith 190 = .ok (.goto (-177), 3) := by decide +kernel
theorem dX8_meetWorldsWith_193 : decode cX8_meetWorldsWith 193 = .ok (.return_, 1) := by decide +kernel
theorem dX8_leastOf_0 : decode cX8_leastOf 0 = .ok (.iload_n 1, 1) := by decide +kernel
theorem dX8_leastOf_1 : decode cX8_leastOf 1 = .ok (.aload_n 0, 1) := by decide +kernel
theorem dX8_leastOf_2 : decode cX8_leastOf 2 = .ok (.getfield 32, 3) := by decide +kernel
theorem dX8_leastOf_5 : decode cX8_leastOf 5 = .ok (.invokevirtual 118, 3) := by decide +kernel
theorem dX8_leastOf_8 : decode cX8_leastOf 8 = .ok (.if_icmp .ge 7, 3) := by decide +kernel
theorem dX8_leastOf_11 : decode cX8_leastOf 11 = .ok (.iconst 1, 1) := by decide +kernel
theorem dX8_leastOf_12 : decode cX8_leastOf 12 = .ok (.goto 4, 3) := by decide +kernel
theorem dX8_leastOf_15 : decode cX8_leastOf 15 = .ok (.iconst 0, 1) := by decide +kernel
theorem dX8_leastOf_16 : decode cX8_leastOf 16 = .ok (.ireturn, 1) := by decide +kernel
theorem dX8_mostOf_0 : decode cX8_mostOf 0 = .ok (.iload_n 1, 1) := by decide +kernel
theorem dX8_mostOf_1 : decode cX8_mostOf 1 = .ok (.aload_n 0, 1) := by decide +kernel
theorem dX8_mostOf_2 : decode cX8_mostOf 2 = .ok (.getfield 32, 3) := by decide +kernel
theorem dX8_mostOf_5 : decode cX8_mostOf 5 = .ok (.invokevirtual 118, 3) := by decide +kernel
theorem dX8_mostOf_8 : decode cX8_mostOf 8 = .ok (.if_icmp .ge 8, 3) := by decide +kernel
theorem dX8_mostOf_11 : decode cX8_mostOf 11 = .ok (.bipush 9, 2) := by decide +kernel
theorem dX8_mostOf_13 : decode cX8_mostOf 13 = .ok (.goto 4, 3) := by decide +kernel
theorem dX8_mostOf_16 : decode cX8_mostOf 16 = .ok (.iconst 0, 1) := by decide +kernel
theorem dX8_mostOf_17 : decode cX8_mostOf 17 = .ok (.ireturn, 1) := by decide +kernel
theorem dX8_meet_0 : decode cX8_meet 0 = .ok (.iload_n 2, 1) := by decide +kernel
theorem dX8_meet_1 : decode cX8_meet 1 = .ok (.sipush 4095, 3) := by decide +kernel
theorem dX8_meet_4 : decode cX8_meet 4 = .ok (.iand, 1) := by decide +kernel
theorem dX8_meet_5 : decode cX8_meet 5 = .ok (.istore_n 3, 1) := by decide +kernel
theorem dX8_meet_6 : decode cX8_meet 6 = .ok (.iload_n 3, 1) := by decide +kernel
theorem dX8_meet_7 : decode cX8_meet 7 = .ok (.invokestatic 121, 3) := by decide +kernel
theorem dX8_meet_10 : decode cX8_meet 10 = .ok (.istore 4, 2) := by decide +kernel
theorem dX8_meet_12 : decode cX8_meet 12 = .ok (.iload 4, 2) := by decide +kernel
theorem dX8_meet_14 : decode cX8_meet 14 = .ok (.aload_n 0, 1) := by decide +kernel
theorem dX8_meet_15 : decode cX8_meet 15 = .ok (.getfield 48, 3) := by decide +kernel
theorem dX8_meet_18 : decode cX8_meet 18 = .ok (.if_icmp .ge 17, 3) := by decide +kernel
theorem dX8_meet_21 : decode cX8_meet 21 = .ok (.aload_n 0, 1) := by decide +kernel
theorem dX8_meet_22 : decode cX8_meet 22 = .ok (.iload 4, 2) := by decide +kernel
theorem dX8_meet_24 : decode cX8_meet 24 = .ok (.putfield 48, 3) := by decide +kernel
theorem dX8_meet_27 : decode cX8_meet 27 = .ok (.aload_n 0, 1) := by decide +kernel
theorem dX8_meet_28 : decode cX8_meet 28 = .ok (.iload_n 3, 1) := by decide +kernel
theorem dX8_meet_29 : decode cX8_meet 29 = .ok (.putfield 51, 3) := by decide +kernel
theorem dX8_meet_32 : decode cX8_meet 32 = .ok (.goto 22, 3) := by decide +kernel
theorem dX8_meet_35 : decode cX8_meet 35 = .ok (.iload 4, 2) := by decide +kernel
theorem dX8_meet_37 : decode cX8_meet 37 = .ok (.aload_n 0, 1) := by decide +kernel
theorem dX8_meet_38 : decode cX8_meet 38 = .ok (.getfield 48, 3) := by decide +kernel
theorem dX8_meet_41 : decode cX8_meet 41 = .ok (.if_icmp .ne 13, 3) := by decide +kernel
theorem dX8_meet_44 : decode cX8_meet 44 = .ok (.aload_n 0, 1) := by decide +kernel
theorem dX8_meet_45 : decode cX8_meet 45 = .ok (.dup, 1) := by decide +kernel
theorem dX8_meet_46 : decode cX8_meet 46 = .ok (.getfield 51, 3) := by decide +kernel
theorem dX8_meet_49 : decode cX8_meet 49 = .ok (.iload_n 3, 1) := by decide +kernel
theorem dX8_meet_50 : decode cX8_meet 50 = .ok (.iand, 1) := by decide +kernel
theorem dX8_meet_51 : decode cX8_meet 51 = .ok (.putfield 51, 3) := by decide +kernel
theorem dX8_meet_54 : decode cX8_meet 54 = .ok (.iload_n 3, 1) := by decide +kernel
theorem dX8_meet_55 : decode cX8_meet 55 = .ok (.ifCond .ne 12, 3) := by decide +kernel
theorem dX8_meet_58 : decode cX8_meet 58 = .ok (.aload_n 0, 1) := by decide +kernel
theorem dX8_meet_59 : decode cX8_meet 59 = .ok (.iload_n 1, 1) := by decide +kernel
theorem dX8_meet_60 : decode cX8_meet 60 = .ok (.iload_n 2, 1) := by decide +kernel
theorem dX8_meet_61 : decode cX8_meet 61 = .ok (.bipush 12, 2) := by decide +kernel
theorem dX8_meet_63 : decode cX8_meet 63 = .ok (.iushr, 1) := by decide +kernel
theorem dX8_meet_64 : decode cX8_meet 64 = .ok (.invokevirtual 126, 3) := by decide +kernel
theorem dX8_meet_67 : decode cX8_meet 67 = .ok (.return_, 1) := by decide +kernel
theorem dX8_leave_0 : decode cX8_leave 0 = .ok (.aload_n 0, 1) := by decide +kernel
theorem dX8_leave_1 : decode cX8_leave 1 = .ok (.dup, 1) := by decide +kernel
theorem dX8_leave_2 : decode cX8_leave 2 = .ok (.getfield 44, 3) := by decide +kernel
theorem dX8_leave_5 : decode cX8_leave 5 = .ok (.iconst 1, 1) := by decide +kernel
theorem dX8_leave_6 : decode cX8_leave 6 = .ok (.iadd, 1) := by decide +kernel
theorem dX8_leave_7 : decode cX8_leave 7 = .ok (.putfield 44, 3) := by decide +kernel
theorem dX8_leave_10 : decode cX8_leave 10 = .ok (.aload_n 0, 1) := by decide +kernel
theorem dX8_leave_11 : decode cX8_leave 11 = .ok (.getfield 20, 3) := by decide +kernel
theorem dX8_leave_14 : decode cX8_leave 14 = .ok (.iload_n 1, 1) := by decide +kernel
theorem dX8_leave_15 : decode cX8_leave 15 = .ok (.iconst 5, 1) := by decide +kernel
theorem dX8_leave_16 : decode cX8_leave 16 = .ok (.ishr, 1) := by decide +kernel
theorem dX8_leave_17 : decode cX8_leave 17 = .ok (.iconst 1, 1) := by decide +kernel
theorem dX8_leave_18 : decode cX8_leave 18 = .ok (.iload_n 1, 1) := by decide +kernel
theorem dX8_leave_19 : decode cX8_leave 19 = .ok (.bipush 31, 2) := by decide +kernel
theorem dX8_leave_21 : decode cX8_leave 21 = .ok (.iand, 1) := by decide +kernel
theorem dX8_leave_22 : decode cX8_leave 22 = .ok (.ishl, 1) := by decide +kernel
theorem dX8_leave_23 : decode cX8_leave 23 = .ok (.invokevirtual 94, 3) := by decide +kernel
theorem dX8_leave_26 : decode cX8_leave 26 = .ok (.iconst 0, 1) := by decide +kernel
theorem dX8_leave_27 : decode cX8_leave 27 = .ok (.istore_n 3, 1) := by decide +kernel
theorem dX8_leave_28 : decode cX8_leave 28 = .ok (.iload_n 3, 1) := by decide +kernel
theorem dX8_leave_29 : decode cX8_leave 29 = .ok (.iconst 3, 1) := by decide +kernel
theorem dX8_leave_30 : decode cX8_leave 30 = .ok (.if_icmp .gt 27, 3) := by decide +kernel
theorem dX8_leave_33 : decode cX8_leave 33 = .ok (.aload_n 0, 1) := by decide +kernel
theorem dX8_leave_34 : decode cX8_leave 34 = .ok (.getfield 23, 3) := by decide +kernel
theorem dX8_leave_37 : decode cX8_leave 37 = .ok (.iload_n 3, 1) := by decide +kernel
theorem dX8_leave_38 : decode cX8_leave 38 = .ok (.bipush 10, 2) := by decide +kernel
theorem dX8_leave_40 : decode cX8_leave 40 = .ok (.imul, 1) := by decide +kernel
theorem dX8_leave_41 : decode cX8_leave 41 = .ok (.iload_n 1, 1) := by decide +kernel
theorem dX8_leave_42 : decode cX8_leave 42 = .ok (.iload_n 3, 1) := by decide +kernel
theorem dX8_leave_43 : decode cX8_leave 43 = .ok (.invokestatic 129, 3) := by decide +kernel
theorem dX8_leave_46 : decode cX8_leave 46 = .ok (.iadd, 1) := by decide +kernel
theorem dX8_leave_47 : decode cX8_leave 47 = .ok (.iconst 1, 1) := by decide +kernel
theorem dX8_leave_48 : decode cX8_leave 48 = .ok (.invokevirtual 132, 3) := by decide +kernel
theorem dX8_leave_51 : decode cX8_leave 51 = .ok (.iinc 3 1, 3) := by decide +kernel
theorem dX8_leave_54 : decode cX8_leave 54 = .ok (.goto (-26), 3) := by decide +kernel
theorem dX8_leave_57 : decode cX8_leave 57 = .ok (.iload_n 2, 1) := by decide +kernel
theorem dX8_leave_58 : decode cX8_leave 58 = .ok (.invokestatic 121, 3) := by decide +kernel
theorem dX8_leave_61 : decode cX8_leave 61 = .ok (.istore_n 3, 1) := by decide +kernel
theorem dX8_leave_62 : decode cX8_leave 62 = .ok (.aload_n 0, 1) := by decide +kernel
theorem dX8_leave_63 : decode cX8_leave 63 = .ok (.getfield 26, 3) := by decide +kernel
theorem dX8_leave_66 : decode cX8_leave 66 = .ok (.iload_n 3, 1) := by decide +kernel
theorem dX8_leave_67 : decode cX8_leave 67 = .ok (.iconst 1, 1) := by decide +kernel
theorem dX8_leave_68 : decode cX8_leave 68 = .ok (.invokevirtual 132, 3) := by decide +kernel
theorem dX8_leave_71 : decode cX8_leave 71 = .ok (.iconst 0, 1) := by decide +kernel
theorem dX8_leave_72 : decode cX8_leave 72 = .ok (.istore 4, 2) := by decide +kernel
theorem dX8_leave_74 : decode cX8_leave 74 = .ok (.iload_n 2, 1) := by decide +kernel
theorem dX8_leave_75 : decode cX8_leave 75 = .ok (.iload 4, 2) := by decide +kernel
theorem dX8_leave_77 : decode cX8_leave 77 = .ok (.ishr, 1) := by decide +kernel
theorem dX8_leave_78 : decode cX8_leave 78 = .ok (.ifCond .eq 36, 3) := by decide +kernel
theorem dX8_leave_81 : decode cX8_leave 81 = .ok (.iload 4, 2) := by decide +kernel
theorem dX8_leave_83 : decode cX8_leave 83 = .ok (.bipush 12, 2) := by decide +kernel
theorem dX8_leave_85 : decode cX8_leave 85 = .ok (.if_icmp .ge 29, 3) := by decide +kernel
theorem dX8_leave_88 : decode cX8_leave 88 = .ok (.aload_n 0, 1) := by decide +kernel
theorem dX8_leave_89 : decode cX8_leave 89 = .ok (.getfield 29, 3) := by decide +kernel
theorem dX8_leave_92 : decode cX8_leave 92 = .ok (.iload 4, 2) := by decide +kernel
theorem dX8_leave_94 : decode cX8_leave 94 = .ok (.bipush 13, 2) := by decide +kernel
theorem dX8_leave_96 : decode cX8_leave 96 = .ok (.imul, 1) := by decide +kernel
theorem dX8_leave_97 : decode cX8_leave 97 = .ok (.iload_n 3, 1) := by decide +kernel
theorem dX8_leave_98 : decode cX8_leave 98 = .ok (.iadd, 1) := by decide +kernel
theorem dX8_leave_99 : decode cX8_leave 99 = .ok (.iload_n 2, 1) := by decide +kernel
theorem dX8_leave_100 : decode cX8_leave 100 = .ok (.iload 4, 2) := by decide +kernel
theorem dX8_leave_102 : decode cX8_leave 102 = .ok (.ishr, 1) := by decide +kernel
theorem dX8_leave_103 : decode cX8_leave 103 = .ok (.iconst 1, 1) := by decide +kernel
theorem dX8_leave_104 : decode cX8_leave 104 = .ok (.iand, 1) := by decide +kernel
theorem dX8_leave_105 : decode cX8_leave 105 = .ok (.invokevirtual 132, 3) := by decide +kernel
theorem dX8_leave_108 : decode cX8_leave 108 = .ok (.iinc 4 1, 3) := by decide +kernel
theorem dX8_leave_111 : decode cX8_leave 111 = .ok (.goto (-37), 3) := by decide +kernel
theorem dX8_leave_114 : decode cX8_leave 114 = .ok (.return_, 1) := by decide +kernel
theorem dX9_init_0 : decode cX9_init 0 = .ok (.aload_n 0, 1) := by decide +kernel
theorem dX9_init_1 : decode cX9_init 1 = .ok (.invokespecial 1, 3) := by decide +kernel
theorem dX9_init_4 : decode cX9_init 4 = .ok (.aload_n 0, 1) := by decide +kernel
theorem dX9_init_5 : decode cX9_init 5 = .ok (.new 7, 3) := by decide +kernel
theorem dX9_init_8 : decode cX9_init 8 = .ok (.dup, 1) := by decide +kernel
theorem dX9_init_9 : decode cX9_init 9 = .ok (.invokespecial 9, 3) := by decide +kernel
theorem dX9_init_12 : decode cX9_init 12 = .ok (.putfield 10, 3) := by decide +kernel
theorem dX9_init_15 : decode cX9_init 15 = .ok (.aload_n 0, 1) := by decide +kernel
theorem dX9_init_16 : decode cX9_init 16 = .ok (.new 16, 3) := by decide +kernel
theorem dX9_init_19 : decode cX9_init 19 = .ok (.dup, 1) := by decide +kernel
theorem dX9_init_20 : decode cX9_init 20 = .ok (.aload_n 0, 1) := by decide +kernel
theorem dX9_init_21 : decode cX9_init 21 = .ok (.getfield 10, 3) := by decide +kernel
theorem dX9_init_24 : decode cX9_init 24 = .ok (.invokespecial 18, 3) := by decide +kernel
theorem dX9_init_27 : decode cX9_init 27 = .ok (.putfield 21, 3) := by decide +kernel
theorem dX9_init_30 : decode cX9_init 30 = .ok (.aload_n 0, 1) := by decide +kernel
theorem dX9_init_31 : decode cX9_init 31 = .ok (.new 25, 3) := by decide +kernel
theorem dX9_init_34 : decode cX9_init 34 = .ok (.dup, 1) := by decide +kernel
theorem dX9_init_35 : decode cX9_init 35 = .ok (.invokespecial 27, 3) := by decide +kernel
theorem dX9_init_38 : decode cX9_init 38 = .ok (.putfield 28, 3) := by decide +kernel
theorem dX9_init_41 : decode cX9_init 41 = .ok (.aload_n 0, 1) := by decide +kernel
theorem dX9_init_42 : decode cX9_init 42 = .ok (.new 32, 3) := by decide +kernel
theorem dX9_init_45 : decode cX9_init 45 = .ok (.dup, 1) := by decide +kernel
theorem dX9_init_46 : decode cX9_init 46 = .ok (.invokespecial 34, 3) := by decide +kernel
theorem dX9_init_49 : decode cX9_init 49 = .ok (.putfield 35, 3) := by decide +kernel
theorem dX9_init_52 : decode cX9_init 52 = .ok (.aload_n 0, 1) := by decide +kernel
theorem dX9_init_53 : decode cX9_init 53 = .ok (.new 39, 3) := by decide +kernel
theorem dX9_init_56 : decode cX9_init 56 = .ok (.dup, 1) := by decide +kernel
theorem dX9_init_57 : decode cX9_init 57 = .ok (.invokespecial 41, 3) := by decide +kernel
theorem dX9_init_60 : decode cX9_init 60 = .ok (.putfield 42, 3) := by decide +kernel
theorem dX9_init_63 : decode cX9_init 63 = .ok (.aload_n 0, 1) := by decide +kernel
theorem dX9_init_64 : decode cX9_init 64 = .ok (.new 39, 3) := by decide +kernel
theorem dX9_init_67 : decode cX9_init 67 = .ok (.dup, 1) := by decide +kernel
theorem dX9_init_68 : decode cX9_init 68 = .ok (.invokespecial 41, 3) := by decide +kernel
theorem dX9_init_71 : decode cX9_init 71 = .ok (.putfield 46, 3) := by decide +kernel
theorem dX9_init_74 : decode cX9_init 74 = .ok (.aload_n 0, 1) := by decide +kernel
theorem dX9_init_75 : decode cX9_init 75 = .ok (.new 49, 3) := by decide +kernel
theorem dX9_init_78 : decode cX9_init 78 = .ok (.dup, 1) := by decide +kernel
theorem dX9_init_79 : decode cX9_init 79 = .ok (.aload_n 0, 1) := by decide +kernel
theorem dX9_init_80 : decode cX9_init 80 = .ok (.getfield 28, 3) := by decide +kernel
theorem dX9_init_83 : decode cX9_init 83 = .ok (.aload_n 0, 1) := by decide +kernel
theorem dX9_init_84 : decode cX9_init 84 = .ok (.getfield 35, 3) := by decide +kernel
theorem dX9_init_87 : decode cX9_init 87 = .ok (.invokespecial 51, 3) := by decide +kernel
theorem dX9_init_90 : decode cX9_init 90 = .ok (.putfield 54, 3) := by decide +kernel
theorem dX9_init_93 : decode cX9_init 93 = .ok (.aload_n 0, 1) := by decide +kernel
theorem dX9_init_94 : decode cX9_init 94 = .ok (.new 58, 3) := by decide +kernel
theorem dX9_init_97 : decode cX9_init 97 = .ok (.dup, 1) := by decide +kernel
theorem dX9_init_98 : decode cX9_init 98 = .ok (.aload_n 0, 1) := by decide +kernel
theorem dX9_init_99 : decode cX9_init 99 = .ok (.getfield 28, 3) := by decide +kernel
theorem dX9_init_102 : decode cX9_init 102 = .ok (.aload_n 0, 1) := by decide +kernel
theorem dX9_init_103 : decode cX9_init 103 = .ok (.getfield 35, 3) := by decide +kernel
theorem dX9_init_106 : decode cX9_init 106 = .ok (.invokespecial 60, 3) := by decide +kernel
theorem dX9_init_109 : decode cX9_init 109 = .ok (.putfield 61, 3) := by decide +kernel
theorem dX9_init_112 : decode cX9_init 112 = .ok (.aload_n 0, 1) := by decide +kernel
theorem dX9_init_113 : decode cX9_init 113 = .ok (.new 65, 3) := by decide +kernel
theorem dX9_init_116 : decode cX9_init 116 = .ok (.dup, 1) := by decide +kernel
theorem dX9_init_117 : decode cX9_init 117 = .ok (.aload_n 0, 1) := by decide +kernel
theorem dX9_init_118 : decode cX9_init 118 = .ok (.getfield 28, 3) := by decide +kernel
theorem dX9_init_121 : decode cX9_init 121 = .ok (.aload_n 0, 1) := by decide +kernel
theorem dX9_init_122 : decode cX9_init 122 = .ok (.getfield 61, 3) := by decide +kernel
theorem dX9_init_125 : decode cX9_init 125 = .ok (.invokespecial 67, 3) := by decide +kernel
theorem dX9_init_128 : decode cX9_init 128 = .ok (.putfield 70, 3) := by decide +kernel
theorem dX9_init_131 : decode cX9_init 131 = .ok (.return_, 1) := by decide +kernel
theorem dX9_type_0 : decode cX9_type 0 = .ok (.iload_n 3, 1) := by decide +kernel
theorem dX9_type_1 : decode cX9_type 1 = .ok (.iconst 1, 1) := by decide +kernel
theorem dX9_type_2 : decode cX9_type 2 = .ok (.if_icmp .lt 9, 3) := by decide +kernel
theorem dX9_type_5 : decode cX9_type 5 = .ok (.iload_n 3, 1) := by decide +kernel
theorem dX9_type_6 : decode cX9_type 6 = .ok (.bipush 8, 2) := by decide +kernel
theorem dX9_type_8 : decode cX9_type 8 = .ok (.if_icmp .le 5, 3) := by decide +kernel
theorem dX9_type_11 : decode cX9_type 11 = .ok (.iconst (-1), 1) := by decide +kernel
theorem dX9_type_12 : decode cX9_type 12 = .ok (.ireturn, 1) := by decide +kernel
theorem dX9_type_13 : decode cX9_type 13 = .ok (.aload_n 0, 1) := by decide +kernel
theorem dX9_type_14 : decode cX9_type 14 = .ok (.getfield 10, 3) := by decide +kernel
theorem dX9_type_17 : decode cX9_type 17 = .ok (.invokevirtual 74, 3) := by decide +kernel
theorem dX9_type_20 : decode cX9_type 20 = .ok (.iload_n 3, 1) := by decide +kernel
theorem dX9_type_21 : decode cX9_type 21 = .ok (.iadd, 1) := by decide +kernel
theorem dX9_type_22 : decode cX9_type 22 = .ok (.sipush 200, 3) := by decide +kernel
theorem dX9_type_25 : decode cX9_type 25 = .ok (.if_icmp .le 6, 3) := by decide +kernel
theorem dX9_type_28 : decode cX9_type 28 = .ok (.bipush (-3), 2) := by decide +kernel
theorem dX9_type_30 : decode cX9_type 30 = .ok (.ireturn, 1) := by decide +kernel
theorem dX9_type_31 : decode cX9_type 31 = .ok (.iload_n 3, 1) := by decide +kernel
theorem dX9_type_32 : decode cX9_type 32 = .ok (.iconst 1, 1) := by decide +kernel
theorem dX9_type_33 : decode cX9_type 33 = .ok (.isub, 1) := by decide +kernel
theorem dX9_type_34 : decode cX9_type 34 = .ok (.istore 4, 2) := by decide +kernel
theorem dX9_type_36 : decode cX9_type 36 = .ok (.iload 4, 2) := by decide +kernel
theorem dX9_type_38 : decode cX9_type 38 = .ok (.ifCond .lt 28, 3) := by decide +kernel
theorem dX9_type_41 : decode cX9_type 41 = .ok (.aload_n 0, 1) := by decide +kernel
theorem dX9_type_42 : decode cX9_type 42 = .ok (.getfield 10, 3) := by decide +kernel
theorem dX9_type_45 : decode cX9_type 45 = .ok (.lload_n 1, 1) := by decide +kernel
theorem dX9_type_46 : decode cX9_type 46 = .ok (.bipush 8, 2) := by decide +kernel
theorem dX9_type_48 : decode cX9_type 48 = .ok (.iload 4, 2) := by decide +kernel
theorem dX9_type_50 : decode cX9_type 50 = .ok (.imul, 1) := by decide +kernel
theorem dX9_type_51 : decode cX9_type 51 = .ok (.lushr, 1) := by decide +kernel
theorem dX9_type_52 : decode cX9_type 52 = .ok (.l2i, 1) := by decide +kernel
theorem dX9_type_53 : decode cX9_type 53 = .ok (.sipush 255, 3) := by decide +kernel
theorem dX9_type_56 : decode cX9_type 56 = .ok (.iand, 1) := by decide +kernel
theorem dX9_type_57 : decode cX9_type 57 = .ok (.invokevirtual 78, 3) := by decide +kernel
theorem dX9_type_60 : decode cX9_type 60 = .ok (.iinc 4 (-1), 3) := by decide +kernel
theorem dX9_type_63 : decode cX9_type 63 = .ok (.goto (-27), 3) := by decide +kernel
theorem dX9_type_66 : decode cX9_type 66 = .ok (.aload_n 0, 1) := by decide +kernel
theorem dX9_type_67 : decode cX9_type 67 = .ok (.getfield 10, 3) := by decide +kernel
theorem dX9_type_70 : decode cX9_type 70 = .ok (.invokevirtual 74, 3) := by decide +kernel
theorem dX9_type_73 : decode cX9_type 73 = .ok (.ireturn, 1) := by decide +kernel
theorem dX9_clear_0 : decode cX9_clear 0 = .ok (.aload_n 0, 1) := by decide +kernel
theorem dX9_clear_1 : decode cX9_clear 1 = .ok (.getfield 10, 3) := by decide +kernel
theorem dX9_clear_4 : decode cX9_clear 4 = .ok (.invokevirtual 74, 3) := by decide +kernel
theorem dX9_clear_7 : decode cX9_clear 7 = .ok (.istore_n 1, 1) := by decide +kernel
theorem dX9_clear_8 : decode cX9_clear 8 = .ok (.aload_n 0, 1) := by decide +kernel
theorem dX9_clear_9 : decode cX9_clear 9 = .ok (.getfield 10, 3) := by decide +kernel
theorem dX9_clear_12 : decode cX9_clear 12 = .ok (.invokevirtual 82, 3) := by decide +kernel
theorem dX9_clear_15 : decode cX9_clear 15 = .ok (.iload_n 1, 1) := by decide +kernel
theorem dX9_clear_16 : decode cX9_clear 16 = .ok (.ireturn, 1) := by decide +kernel
theorem dX9_market_0 : decode cX9_market 0 = .ok (.aload_n 0, 1) := by decide +kernel
theorem dX9_market_1 : decode cX9_market 1 = .ok (.getfield 21, 3) := by decide +kernel
theorem dX9_market_4 : decode cX9_market 4 = .ok (.invokevirtual 85, 3) := by decide +kernel
theorem dX9_market_7 : decode cX9_market 7 = .ok (.istore_n 1, 1) := by decide +kernel
theorem dX9_market_8 : decode cX9_market 8 = .ok (.iload_n 1, 1) := by decide +kernel
theorem dX9_market_9 : decode cX9_market 9 = .ok (.ifCond .lt 8, 3) := by decide +kernel
theorem dX9_market_12 : decode cX9_market 12 = .ok (.bipush (-10), 2) := by decide +kernel
theorem dX9_market_14 : decode cX9_market 14 = .ok (.iload_n 1, 1) := by decide +kernel
theorem dX9_market_15 : decode cX9_market 15 = .ok (.isub, 1) := by decide +kernel
theorem dX9_market_16 : decode cX9_market 16 = .ok (.ireturn, 1) := by decide +kernel
theorem dX9_market_17 : decode cX9_market 17 = .ok (.aload_n 0, 1) := by decide +kernel
theorem dX9_market_18 : decode cX9_market 18 = .ok (.getfield 28, 3) := by decide +kernel
theorem dX9_market_21 : decode cX9_market 21 = .ok (.aload_n 0, 1) := by decide +kernel
theorem dX9_market_22 : decode cX9_market 22 = .ok (.getfield 21, 3) := by decide +kernel
theorem dX9_market_25 : decode cX9_market 25 = .ok (.invokevirtual 88, 3) := by decide +kernel
theorem dX9_market_28 : decode cX9_market 28 = .ok (.invokevirtual 92, 3) := by decide +kernel
theorem dX9_market_31 : decode cX9_market 31 = .ok (.aload_n 0, 1) := by decide +kernel
theorem dX9_market_32 : decode cX9_market 32 = .ok (.getfield 35, 3) := by decide +kernel
theorem dX9_market_35 : decode cX9_market 35 = .ok (.invokevirtual 96, 3) := by decide +kernel
theorem dX9_market_38 : decode cX9_market 38 = .ok (.aload_n 0, 1) := by decide +kernel
theorem dX9_market_39 : decode cX9_market 39 = .ok (.getfield 42, 3) := by decide +kernel
theorem dX9_market_42 : decode cX9_market 42 = .ok (.invokevirtual 97, 3) := by decide +kernel
theorem dX9_market_45 : decode cX9_market 45 = .ok (.aload_n 0, 1) := by decide +kernel
theorem dX9_market_46 : decode cX9_market 46 = .ok (.getfield 46, 3) := by decide +kernel
theorem dX9_market_49 : decode cX9_market 49 = .ok (.invokevirtual 97, 3) := by decide +kernel
theorem dX9_market_52 : decode cX9_market 52 = .ok (.aload_n 0, 1) := by decide +kernel
theorem dX9_market_53 : decode cX9_market 53 = .ok (.getfield 10, 3) := by decide +kernel
theorem dX9_market_56 : decode cX9_market 56 = .ok (.invokevirtual 82, 3) := by decide +kernel
theorem dX9_market_59 : decode cX9_market 59 = .ok (.aload_n 0, 1) := by decide +kernel
theorem dX9_market_60 : decode cX9_market 60 = .ok (.getfield 61, 3) := by decide +kernel
theorem dX9_market_63 : decode cX9_market 63 = .ok (.invokevirtual 100, 3) := by decide +kernel
theorem dX9_market_66 : decode cX9_market 66 = .ok (.aload_n 0, 1) := by decide +kernel
theorem dX9_market_67 : decode cX9_market 67 = .ok (.getfield 21, 3) := by decide +kernel
theorem dX9_market_70 : decode cX9_market 70 = .ok (.invokevirtual 103, 3) := by decide +kernel
theorem dX9_market_73 : decode cX9_market 73 = .ok (.ireturn, 1) := by decide +kernel
theorem dX9_thing_0 : decode cX9_thing 0 = .ok (.aload_n 0, 1) := by decide +kernel
theorem dX9_thing_1 : decode cX9_thing 1 = .ok (.iload_n 1, 1) := by decide +kernel
theorem dX9_thing_2 : decode cX9_thing 2 = .ok (.invokevirtual 106, 3) := by decide +kernel
theorem dX9_thing_5 : decode cX9_thing 5 = .ok (.ifCond .eq 14, 3) := by decide +kernel
theorem dX9_thing_8 : decode cX9_thing 8 = .ok (.aload_n 0, 1) := by decide +kernel
theorem dX9_thing_9 : decode cX9_thing 9 = .ok (.getfield 28, 3) := by decide +kernel
theorem dX9_thing_12 : decode cX9_thing 12 = .ok (.iload_n 1, 1) := by decide +kernel
theorem dX9_thing_13 : decode cX9_thing 13 = .ok (.invokevirtual 110, 3) := by decide +kernel
theorem dX9_thing_16 : decode cX9_thing 16 = .ok (.goto 4, 3) := by decide +kernel
theorem dX9_thing_19 : decode cX9_thing 19 = .ok (.iconst (-1), 1) := by decide +kernel
theorem dX9_thing_20 : decode cX9_thing 20 = .ok (.ireturn, 1) := by decide +kernel
theorem dX9_weigh_0 : decode cX9_weigh 0 = .ok (.aload_n 0, 1) := by decide +kernel
theorem dX9_weigh_1 : decode cX9_weigh 1 = .ok (.iload_n 1, 1) := by decide +kernel
theorem dX9_weigh_2 : decode cX9_weigh 2 = .ok (.invokevirtual 114, 3) := by decide +kernel
theorem dX9_weigh_5 : decode cX9_weigh 5 = .ok (.ifCond .eq 21, 3) := by decide +kernel
theorem dX9_weigh_8 : decode cX9_weigh 8 = .ok (.iload_n 2, 1) := by decide +kernel
theorem dX9_weigh_9 : decode cX9_weigh 9 = .ok (.iconst 0, 1) := by decide +kernel
theorem dX9_weigh_10 : decode cX9_weigh 10 = .ok (.iconst 1, 1) := by decide +kernel
theorem dX9_weigh_11 : decode cX9_weigh 11 = .ok (.invokestatic 117, 3) := by decide +kernel
theorem dX9_weigh_14 : decode cX9_weigh 14 = .ok (.ifCond .eq 12, 3) := by decide +kernel
theorem dX9_weigh_17 : decode cX9_weigh 17 = .ok (.iload_n 3, 1) := by decide +kernel
theorem dX9_weigh_18 : decode cX9_weigh 18 = .ok (.iconst 0, 1) := by decide +kernel
theorem dX9_weigh_19 : decode cX9_weigh 19 = .ok (.iconst 1, 1) := by decide +kernel
theorem dX9_weigh_20 : decode cX9_weigh 20 = .ok (.invokestatic 117, 3) := by decide +kernel
theorem dX9_weigh_23 : decode cX9_weigh 23 = .ok (.ifCond .ne 5, 3) := by decide +kernel
theorem dX9_weigh_26 : decode cX9_weigh 26 = .ok (.iconst (-1), 1) := by decide +kernel
theorem dX9_weigh_27 : decode cX9_weigh 27 = .ok (.ireturn, 1) := by decide +kernel
theorem dX9_weigh_28 : decode cX9_weigh 28 = .ok (.aload_n 0, 1) := by decide +kernel
theorem dX9_weigh_29 : decode cX9_weigh 29 = .ok (.getfield 35, 3) := by decide +kernel
theorem dX9_weigh_32 : decode cX9_weigh 32 = .ok (.invokevirtual 121, 3) := by decide +kernel
theorem dX9_weigh_35 : decode cX9_weigh 35 = .ok (.ifCond .eq 6, 3) := by decide +kernel
theorem dX9_weigh_38 : decode cX9_weigh 38 = .ok (.bipush (-3), 2) := by decide +kernel
theorem dX9_weigh_40 : decode cX9_weigh 40 = .ok (.ireturn, 1) := by decide +kernel
theorem dX9_weigh_41 : decode cX9_weigh 41 = .ok (.aload_n 0, 1) := by decide +kernel
theorem dX9_weigh_42 : decode cX9_weigh 42 = .ok (.getfield 28, 3) := by decide +kernel
theorem dX9_weigh_45 : decode cX9_weigh 45 = .ok (.aload_n 0, 1) := by decide +kernel
theorem dX9_weigh_46 : decode cX9_weigh 46 = .ok (.getfield 28, 3) := by decide +kernel
theorem dX9_weigh_49 : decode cX9_weigh 49 = .ok (.iload_n 1, 1) := by decide +kernel
theorem dX9_weigh_50 : decode cX9_weigh 50 = .ok (.invokevirtual 125, 3) := by decide +kernel
theorem dX9_weigh_53 : decode cX9_weigh 53 = .ok (.aload_n 0, 1) := by decide +kernel
theorem dX9_weigh_54 : decode cX9_weigh 54 = .ok (.getfield 28, 3) := by decide +kernel
theorem dX9_weigh_57 : decode cX9_weigh 57 = .ok (.invokevirtual 128, 3) := by decide +kernel
theorem dX9_weigh_60 : decode cX9_weigh 60 = .ok (.iadd, 1) := by decide +kernel
theorem dX9_weigh_61 : decode cX9_weigh 61 = .ok (.iload_n 2, 1) := by decide +kernel
theorem dX9_weigh_62 : decode cX9_weigh 62 = .ok (.iadd, 1) := by decide +kernel
theorem dX9_weigh_63 : decode cX9_weigh 63 = .ok (.invokevirtual 131, 3) := by decide +kernel
theorem dX9_weigh_66 : decode cX9_weigh 66 = .ok (.istore 4, 2) := by decide +kernel
theorem dX9_weigh_68 : decode cX9_weigh 68 = .ok (.aload_n 0, 1) := by decide +kernel
theorem dX9_weigh_69 : decode cX9_weigh 69 = .ok (.getfield 35, 3) := by decide +kernel
theorem dX9_weigh_72 : decode cX9_weigh 72 = .ok (.iload_n 1, 1) := by decide +kernel
theorem dX9_weigh_73 : decode cX9_weigh 73 = .ok (.iload 4, 2) := by decide +kernel
theorem dX9_weigh_75 : decode cX9_weigh 75 = .ok (.iload_n 3, 1) := by decide +kernel
theorem dX9_weigh_76 : decode cX9_weigh 76 = .ok (.iconst 1, 1) := by decide +kernel
theorem dX9_weigh_77 : decode cX9_weigh 77 = .ok (.if_icmp .ne 7, 3) := by decide +kernel
theorem dX9_weigh_80 : decode cX9_weigh 80 = .ok (.iload_n 2, 1) := by decide +kernel
theorem dX9_weigh_81 : decode cX9_weigh 81 = .ok (.goto 4, 3) := by decide +kernel
theorem dX9_weigh_84 : decode cX9_weigh 84 = .ok (.iconst 2, 1) := by decide +kernel
theorem dX9_weigh_85 : decode cX9_weigh 85 = .ok (.invokevirtual 134, 3) := by decide +kernel
theorem dX9_weigh_88 : decode cX9_weigh 88 = .ok (.aload_n 0, 1) := by decide +kernel
theorem dX9_weigh_89 : decode cX9_weigh 89 = .ok (.getfield 61, 3) := by decide +kernel
theorem dX9_weigh_92 : decode cX9_weigh 92 = .ok (.invokevirtual 100, 3) := by decide +kernel
theorem dX9_weigh_95 : decode cX9_weigh 95 = .ok (.iload 4, 2) := by decide +kernel
theorem dX9_weigh_97 : decode cX9_weigh 97 = .ok (.ireturn, 1) := by decide +kernel
theorem dX9_tell_0 : decode cX9_tell 0 = .ok (.aload_n 0, 1) := by decide +kernel
theorem dX9_tell_1 : decode cX9_tell 1 = .ok (.iload_n 1, 1) := by decide +kernel
theorem dX9_tell_2 : decode cX9_tell 2 = .ok (.invokevirtual 114, 3) := by decide +kernel
theorem dX9_tell_5 : decode cX9_tell 5 = .ok (.ifCond .eq 29, 3) := by decide +kernel
theorem dX9_tell_8 : decode cX9_tell 8 = .ok (.iload_n 2, 1) := by decide +kernel
theorem dX9_tell_9 : decode cX9_tell 9 = .ok (.iconst 0, 1) := by decide +kernel
theorem dX9_tell_10 : decode cX9_tell 10 = .ok (.aload_n 0, 1) := by decide +kernel
theorem dX9_tell_11 : decode cX9_tell 11 = .ok (.getfield 28, 3) := by decide +kernel
theorem dX9_tell_14 : decode cX9_tell 14 = .ok (.invokevirtual 138, 3) := by decide +kernel
theorem dX9_tell_17 : decode cX9_tell 17 = .ok (.iconst 1, 1) := by decide +kernel
theorem dX9_tell_18 : decode cX9_tell 18 = .ok (.isub, 1) := by decide +kernel
theorem dX9_tell_19 : decode cX9_tell 19 = .ok (.invokestatic 117, 3) := by decide +kernel
theorem dX9_tell_22 : decode cX9_tell 22 = .ok (.ifCond .eq 12, 3) := by decide +kernel
theorem dX9_tell_25 : decode cX9_tell 25 = .ok (.iload_n 3, 1) := by decide +kernel
theorem dX9_tell_26 : decode cX9_tell 26 = .ok (.iconst 0, 1) := by decide +kernel
theorem dX9_tell_27 : decode cX9_tell 27 = .ok (.iconst 2, 1) := by decide +kernel
theorem dX9_tell_28 : decode cX9_tell 28 = .ok (.invokestatic 117, 3) := by decide +kernel
theorem dX9_tell_31 : decode cX9_tell 31 = .ok (.ifCond .ne 5, 3) := by decide +kernel
theorem dX9_tell_34 : decode cX9_tell 34 = .ok (.iconst (-1), 1) := by decide +kernel
theorem dX9_tell_35 : decode cX9_tell 35 = .ok (.ireturn, 1) := by decide +kernel
theorem dX9_tell_36 : decode cX9_tell 36 = .ok (.aload_n 0, 1) := by decide +kernel
theorem dX9_tell_37 : decode cX9_tell 37 = .ok (.getfield 35, 3) := by decide +kernel
theorem dX9_tell_40 : decode cX9_tell 40 = .ok (.invokevirtual 121, 3) := by decide +kernel
theorem dX9_tell_43 : decode cX9_tell 43 = .ok (.ifCond .eq 6, 3) := by decide +kernel
theorem dX9_tell_46 : decode cX9_tell 46 = .ok (.bipush (-3), 2) := by decide +kernel
theorem dX9_tell_48 : decode cX9_tell 48 = .ok (.ireturn, 1) := by decide +kernel
theorem dX9_tell_49 : decode cX9_tell 49 = .ok (.aload_n 0, 1) := by decide +kernel
theorem dX9_tell_50 : decode cX9_tell 50 = .ok (.getfield 35, 3) := by decide +kernel
theorem dX9_tell_53 : decode cX9_tell 53 = .ok (.iload_n 1, 1) := by decide +kernel
theorem dX9_tell_54 : decode cX9_tell 54 = .ok (.iload_n 2, 1) := by decide +kernel
theorem dX9_tell_55 : decode cX9_tell 55 = .ok (.iload_n 3, 1) := by decide +kernel
theorem dX9_tell_56 : decode cX9_tell 56 = .ok (.invokevirtual 134, 3) := by decide +kernel
theorem dX9_tell_59 : decode cX9_tell 59 = .ok (.aload_n 0, 1) := by decide +kernel
theorem dX9_tell_60 : decode cX9_tell 60 = .ok (.getfield 61, 3) := by decide +kernel
theorem dX9_tell_63 : decode cX9_tell 63 = .ok (.invokevirtual 100, 3) := by decide +kernel
theorem dX9_tell_66 : decode cX9_tell 66 = .ok (.aload_n 0, 1) := by decide +kernel
theorem dX9_tell_67 : decode cX9_tell 67 = .ok (.getfield 35, 3) := by decide +kernel
theorem dX9_tell_70 : decode cX9_tell 70 = .ok (.invokevirtual 141, 3) := by decide +kernel
theorem dX9_tell_73 : decode cX9_tell 73 = .ok (.ireturn, 1) := by decide +kernel
theorem dX9_line_0 : decode cX9_line 0 = .ok (.aload_n 0, 1) := by decide +kernel
theorem dX9_line_1 : decode cX9_line 1 = .ok (.iload_n 1, 1) := by decide +kernel
theorem dX9_line_2 : decode cX9_line 2 = .ok (.invokevirtual 144, 3) := by decide +kernel
theorem dX9_line_5 : decode cX9_line 5 = .ok (.ifCond .ne 5, 3) := by decide +kernel
theorem dX9_line_8 : decode cX9_line 8 = .ok (.iconst (-1), 1) := by decide +kernel
theorem dX9_line_9 : decode cX9_line 9 = .ok (.ireturn, 1) := by decide +kernel
theorem dX9_line_10 : decode cX9_line 10 = .ok (.iload_n 2, 1) := by decide +kernel
theorem dX9_line_11 : decode cX9_line 11 = .ok (.tableswitch 52 0 2 #[25, 34, 43], 25) := by decide +kernel
theorem dX9_line_36 : decode cX9_line 36 = .ok (.aload_n 0, 1) := by decide +kernel
theorem dX9_line_37 : decode cX9_line 37 = .ok (.getfield 35, 3) := by decide +kernel
theorem dX9_line_40 : decode cX9_line 40 = .ok (.iload_n 1, 1) := by decide +kernel
theorem dX9_line_41 : decode cX9_line 41 = .ok (.invokevirtual 147, 3) := by decide +kernel
theorem dX9_line_44 : decode cX9_line 44 = .ok (.ireturn, 1) := by decide +kernel
theorem dX9_line_45 : decode cX9_line 45 = .ok (.aload_n 0, 1) := by decide +kernel
theorem dX9_line_46 : decode cX9_line 46 = .ok (.getfield 35, 3) := by decide +kernel
theorem dX9_line_49 : decode cX9_line 49 = .ok (.iload_n 1, 1) := by decide +kernel
theorem dX9_line_50 : decode cX9_line 50 = .ok (.invokevirtual 150, 3) := by decide +kernel
theorem dX9_line_53 : decode cX9_line 53 = .ok (.ireturn, 1) := by decide +kernel
theorem dX9_line_54 : decode cX9_line 54 = .ok (.aload_n 0, 1) := by decide +kernel
theorem dX9_line_55 : decode cX9_line 55 = .ok (.getfield 35, 3) := by decide +kernel
theorem dX9_line_58 : decode cX9_line 58 = .ok (.iload_n 1, 1) := by decide +kernel
theorem dX9_line_59 : decode cX9_line 59 = .ok (.invokevirtual 153, 3) := by decide +kernel
theorem dX9_line_62 : decode cX9_line 62 = .ok (.ireturn, 1) := by decide +kernel
theorem dX9_line_63 : decode cX9_line 63 = .ok (.iconst (-1), 1) := by decide +kernel
theorem dX9_line_64 : decode cX9_line 64 = .ok (.ireturn, 1) := by decide +kernel
theorem dX9_undo_0 : decode cX9_undo 0 = .ok (.aload_n 0, 1) := by decide +kernel
theorem dX9_undo_1 : decode cX9_undo 1 = .ok (.getfield 35, 3) := by decide +kernel
theorem dX9_undo_4 : decode cX9_undo 4 = .ok (.invokevirtual 141, 3) := by decide +kernel
theorem dX9_undo_7 : decode cX9_undo 7 = .ok (.ifCond .ne 6, 3) := by decide +kernel
theorem dX9_undo_10 : decode cX9_undo 10 = .ok (.bipush (-2), 2) := by decide +kernel
theorem dX9_undo_12 : decode cX9_undo 12 = .ok (.ireturn, 1) := by decide +kernel
theorem dX9_undo_13 : decode cX9_undo 13 = .ok (.aload_n 0, 1) := by decide +kernel
theorem dX9_undo_14 : decode cX9_undo 14 = .ok (.getfield 35, 3) := by decide +kernel
theorem dX9_undo_17 : decode cX9_undo 17 = .ok (.invokevirtual 156, 3) := by decide +kernel
theorem dX9_undo_20 : decode cX9_undo 20 = .ok (.aload_n 0, 1) := by decide +kernel
theorem dX9_undo_21 : decode cX9_undo 21 = .ok (.getfield 61, 3) := by decide +kernel
theorem dX9_undo_24 : decode cX9_undo 24 = .ok (.invokevirtual 100, 3) := by decide +kernel
theorem dX9_undo_27 : decode cX9_undo 27 = .ok (.aload_n 0, 1) := by decide +kernel
theorem dX9_undo_28 : decode cX9_undo 28 = .ok (.getfield 35, 3) := by decide +kernel
theorem dX9_undo_31 : decode cX9_undo 31 = .ok (.invokevirtual 141, 3) := by decide +kernel
theorem dX9_undo_34 : decode cX9_undo 34 = .ok (.ireturn, 1) := by decide +kernel
theorem dX9_could_0 : decode cX9_could 0 = .ok (.iload_n 1, 1) := by decide +kernel
theorem dX9_could_1 : decode cX9_could 1 = .ok (.iconst (-1), 1) := by decide +kernel
theorem dX9_could_2 : decode cX9_could 2 = .ok (.if_icmp .eq 11, 3) := by decide +kernel
theorem dX9_could_5 : decode cX9_could 5 = .ok (.aload_n 0, 1) := by decide +kernel
theorem dX9_could_6 : decode cX9_could 6 = .ok (.iload_n 1, 1) := by decide +kernel
theorem dX9_could_7 : decode cX9_could 7 = .ok (.invokevirtual 106, 3) := by decide +kernel
theorem dX9_could_10 : decode cX9_could 10 = .ok (.ifCond .eq 13, 3) := by decide +kernel
theorem dX9_could_13 : decode cX9_could 13 = .ok (.iload_n 2, 1) := by decide +kernel
theorem dX9_could_14 : decode cX9_could 14 = .ok (.iconst 0, 1) := by decide +kernel
theorem dX9_could_15 : decode cX9_could 15 = .ok (.bipush 9, 2) := by decide +kernel
theorem dX9_could_17 : decode cX9_could 17 = .ok (.invokestatic 117, 3) := by decide +kernel
theorem dX9_could_20 : decode cX9_could 20 = .ok (.ifCond .ne 5, 3) := by decide +kernel
theorem dX9_could_23 : decode cX9_could 23 = .ok (.iconst (-1), 1) := by decide +kernel
theorem dX9_could_24 : decode cX9_could 24 = .ok (.ireturn, 1) := by decide +kernel
theorem dX9_could_25 : decode cX9_could 25 = .ok (.iload_n 1, 1) := by decide +kernel
theorem dX9_could_26 : decode cX9_could 26 = .ok (.iconst (-1), 1) := by decide +kernel
theorem dX9_could_27 : decode cX9_could 27 = .ok (.if_icmp .ne 13, 3) := by decide +kernel
theorem dX9_could_30 : decode cX9_could 30 = .ok (.aload_n 0, 1) := by decide +kernel
theorem dX9_could_31 : decode cX9_could 31 = .ok (.invokevirtual 159, 3) := by decide +kernel
theorem dX9_could_34 : decode cX9_could 34 = .ok (.invokevirtual 163, 3) := by decide +kernel
theorem dX9_could_37 : decode cX9_could 37 = .ok (.goto 12, 3) := by decide +kernel
theorem dX9_could_40 : decode cX9_could 40 = .ok (.aload_n 0, 1) := by decide +kernel
theorem dX9_could_41 : decode cX9_could 41 = .ok (.invokevirtual 159, 3) := by decide +kernel
theorem dX9_could_44 : decode cX9_could 44 = .ok (.iload_n 1, 1) := by decide +kernel
theorem dX9_could_45 : decode cX9_could 45 = .ok (.iload_n 2, 1) := by decide +kernel
theorem dX9_could_46 : decode cX9_could 46 = .ok (.invokevirtual 166, 3) := by decide +kernel
theorem dX9_could_49 : decode cX9_could 49 = .ok (.ireturn, 1) := by decide +kernel
theorem dX9_sure_0 : decode cX9_sure 0 = .ok (.aload_n 0, 1) := by decide +kernel
theorem dX9_sure_1 : decode cX9_sure 1 = .ok (.iload_n 1, 1) := by decide +kernel
theorem dX9_sure_2 : decode cX9_sure 2 = .ok (.invokevirtual 106, 3) := by decide +kernel
theorem dX9_sure_5 : decode cX9_sure 5 = .ok (.ifCond .eq 14, 3) := by decide +kernel
theorem dX9_sure_8 : decode cX9_sure 8 = .ok (.aload_n 0, 1) := by decide +kernel
theorem dX9_sure_9 : decode cX9_sure 9 = .ok (.invokevirtual 159, 3) := by decide +kernel
theorem dX9_sure_12 : decode cX9_sure 12 = .ok (.iload_n 1, 1) := by decide +kernel
theorem dX9_sure_13 : decode cX9_sure 13 = .ok (.invokevirtual 170, 3) := by decide +kernel
theorem dX9_sure_16 : decode cX9_sure 16 = .ok (.goto 4, 3) := by decide +kernel
theorem dX9_sure_19 : decode cX9_sure 19 = .ok (.iconst (-1), 1) := by decide +kernel
theorem dX9_sure_20 : decode cX9_sure 20 = .ok (.ireturn, 1) := by decide +kernel
theorem dX9_wrong_0 : decode cX9_wrong 0 = .ok (.iload_n 1, 1) := by decide +kernel
theorem dX9_wrong_1 : decode cX9_wrong 1 = .ok (.iconst 0, 1) := by decide +kernel
theorem dX9_wrong_2 : decode cX9_wrong 2 = .ok (.iconst 1, 1) := by decide +kernel
theorem dX9_wrong_3 : decode cX9_wrong 3 = .ok (.invokestatic 117, 3) := by decide +kernel
theorem dX9_wrong_6 : decode cX9_wrong 6 = .ok (.ifCond .ne 5, 3) := by decide +kernel
theorem dX9_wrong_9 : decode cX9_wrong 9 = .ok (.iconst (-1), 1) := by decide +kernel
theorem dX9_wrong_10 : decode cX9_wrong 10 = .ok (.ireturn, 1) := by decide +kernel
theorem dX9_wrong_11 : decode cX9_wrong 11 = .ok (.iload_n 1, 1) := by decide +kernel
theorem dX9_wrong_12 : decode cX9_wrong 12 = .ok (.ifCond .ne 13, 3) := by decide +kernel
theorem dX9_wrong_15 : decode cX9_wrong 15 = .ok (.aload_n 0, 1) := by decide +kernel
theorem dX9_wrong_16 : decode cX9_wrong 16 = .ok (.invokevirtual 159, 3) := by decide +kernel
theorem dX9_wrong_19 : decode cX9_wrong 19 = .ok (.invokevirtual 173, 3) := by decide +kernel
theorem dX9_wrong_22 : decode cX9_wrong 22 = .ok (.goto 10, 3) := by decide +kernel
theorem dX9_wrong_25 : decode cX9_wrong 25 = .ok (.aload_n 0, 1) := by decide +kernel
theorem dX9_wrong_26 : decode cX9_wrong 26 = .ok (.invokevirtual 159, 3) := by decide +kernel
theorem dX9_wrong_29 : decode cX9_wrong 29 = .ok (.invokevirtual 176, 3) := by decide +kernel
theorem dX9_wrong_32 : decode cX9_wrong 32 = .ok (.ireturn, 1) := by decide +kernel
theorem dX9_next_0 : decode cX9_next 0 = .ok (.iload_n 1, 1) := by decide +kernel
theorem dX9_next_1 : decode cX9_next 1 = .ok (.iconst 0, 1) := by decide +kernel
theorem dX9_next_2 : decode cX9_next 2 = .ok (.iconst 1, 1) := by decide +kernel
theorem dX9_next_3 : decode cX9_next 3 = .ok (.invokestatic 117, 3) := by decide +kernel
theorem dX9_next_6 : decode cX9_next 6 = .ok (.ifCond .ne 5, 3) := by decide +kernel
theorem dX9_next_9 : decode cX9_next 9 = .ok (.iconst (-1), 1) := by decide +kernel
theorem dX9_next_10 : decode cX9_next 10 = .ok (.ireturn, 1) := by decide +kernel
theorem dX9_next_11 : decode cX9_next 11 = .ok (.aload_n 0, 1) := by decide +kernel
theorem dX9_next_12 : decode cX9_next 12 = .ok (.getfield 28, 3) := by decide +kernel
theorem dX9_next_15 : decode cX9_next 15 = .ok (.invokevirtual 179, 3) := by decide +kernel
theorem dX9_next_18 : decode cX9_next 18 = .ok (.ifCond .ne 6, 3) := by decide +kernel
theorem dX9_next_21 : decode cX9_next 21 = .ok (.bipush (-9), 2) := by decide +kernel
theorem dX9_next_23 : decode cX9_next 23 = .ok (.ireturn, 1) := by decide +kernel
theorem dX9_next_24 : decode cX9_next 24 = .ok (.aload_n 0, 1) := by decide +kernel
theorem dX9_next_25 : decode cX9_next 25 = .ok (.getfield 61, 3) := by decide +kernel
theorem dX9_next_28 : decode cX9_next 28 = .ok (.invokevirtual 182, 3) := by decide +kernel
theorem dX9_next_31 : decode cX9_next 31 = .ok (.aload_n 0, 1) := by decide +kernel
theorem dX9_next_32 : decode cX9_next 32 = .ok (.getfield 70, 3) := by decide +kernel
theorem dX9_next_35 : decode cX9_next 35 = .ok (.invokevirtual 185, 3) := by decide +kernel
theorem dX9_next_38 : decode cX9_next 38 = .ok (.istore_n 2, 1) := by decide +kernel
theorem dX9_next_39 : decode cX9_next 39 = .ok (.iload_n 1, 1) := by decide +kernel
theorem dX9_next_40 : decode cX9_next 40 = .ok (.ifCond .ne 7, 3) := by decide +kernel
theorem dX9_next_43 : decode cX9_next 43 = .ok (.iload_n 2, 1) := by decide +kernel
theorem dX9_next_44 : decode cX9_next 44 = .ok (.goto 11, 3) := by decide +kernel
theorem dX9_next_47 : decode cX9_next 47 = .ok (.aload_n 0, 1) := by decide +kernel
theorem dX9_next_48 : decode cX9_next 48 = .ok (.getfield 70, 3) := by decide +kernel
theorem dX9_next_51 : decode cX9_next 51 = .ok (.iload_n 2, 1) := by decide +kernel
theorem dX9_next_52 : decode cX9_next 52 = .ok (.invokevirtual 188, 3) := by decide +kernel
theorem dX9_next_55 : decode cX9_next 55 = .ok (.ireturn, 1) := by decide +kernel
theorem dX9_fewest_0 : decode cX9_fewest 0 = .ok (.aload_n 0, 1) := by decide +kernel
theorem dX9_fewest_1 : decode cX9_fewest 1 = .ok (.iload_n 1, 1) := by decide +kernel
theorem dX9_fewest_2 : decode cX9_fewest 2 = .ok (.invokevirtual 106, 3) := by decide +kernel
theorem dX9_fewest_5 : decode cX9_fewest 5 = .ok (.ifCond .ne 5, 3) := by decide +kernel
theorem dX9_fewest_8 : decode cX9_fewest 8 = .ok (.iconst (-1), 1) := by decide +kernel
theorem dX9_fewest_9 : decode cX9_fewest 9 = .ok (.ireturn, 1) := by decide +kernel
theorem dX9_fewest_10 : decode cX9_fewest 10 = .ok (.aload_n 0, 1) := by decide +kernel
theorem dX9_fewest_11 : decode cX9_fewest 11 = .ok (.getfield 61, 3) := by decide +kernel
theorem dX9_fewest_14 : decode cX9_fewest 14 = .ok (.invokevirtual 182, 3) := by decide +kernel
theorem dX9_fewest_17 : decode cX9_fewest 17 = .ok (.aload_n 0, 1) := by decide +kernel
theorem dX9_fewest_18 : decode cX9_fewest 18 = .ok (.getfield 70, 3) := by decide +kernel
theorem dX9_fewest_21 : decode cX9_fewest 21 = .ok (.iload_n 1, 1) := by decide +kernel
theorem dX9_fewest_22 : decode cX9_fewest 22 = .ok (.invokevirtual 191, 3) := by decide +kernel
theorem dX9_fewest_25 : decode cX9_fewest 25 = .ok (.ireturn, 1) := by decide +kernel
theorem dX9_laugh_0 : decode cX9_laugh 0 = .ok (.aload_n 0, 1) := by decide +kernel
theorem dX9_laugh_1 : decode cX9_laugh 1 = .ok (.iload_n 1, 1) := by decide +kernel
theorem dX9_laugh_2 : decode cX9_laugh 2 = .ok (.invokevirtual 144, 3) := by decide +kernel
theorem dX9_laugh_5 : decode cX9_laugh 5 = .ok (.ifCond .eq 14, 3) := by decide +kernel
theorem dX9_laugh_8 : decode cX9_laugh 8 = .ok (.aload_n 0, 1) := by decide +kernel
theorem dX9_laugh_9 : decode cX9_laugh 9 = .ok (.invokevirtual 159, 3) := by decide +kernel
theorem dX9_laugh_12 : decode cX9_laugh 12 = .ok (.iload_n 1, 1) := by decide +kernel
theorem dX9_laugh_13 : decode cX9_laugh 13 = .ok (.invokevirtual 194, 3) := by decide +kernel
theorem dX9_laugh_16 : decode cX9_laugh 16 = .ok (.goto 4, 3) := by decide +kernel
theorem dX9_laugh_19 : decode cX9_laugh 19 = .ok (.iconst (-1), 1) := by decide +kernel
theorem dX9_laugh_20 : decode cX9_laugh 20 = .ok (.ireturn, 1) := by decide +kernel
theorem dX9_odds_0 : decode cX9_odds 0 = .ok (.aload_n 0, 1) := by decide +kernel
theorem dX9_odds_1 : decode cX9_odds 1 = .ok (.iload_n 1, 1) := by decide +kernel
theorem dX9_odds_2 : decode cX9_odds 2 = .ok (.invokevirtual 144, 3) := by decide +kernel
theorem dX9_odds_5 : decode cX9_odds 5 = .ok (.ifCond .eq 34, 3) := by decide +kernel
theorem dX9_odds_8 : decode cX9_odds 8 = .ok (.iload_n 3, 1) := by decide +kernel
theorem dX9_odds_9 : decode cX9_odds 9 = .ok (.iconst 1, 1) := by decide +kernel
theorem dX9_odds_10 : decode cX9_odds 10 = .ok (.bipush 9, 2) := by decide +kernel
theorem dX9_odds_12 : decode cX9_odds 12 = .ok (.invokestatic 117, 3) := by decide +kernel
theorem dX9_odds_15 : decode cX9_odds 15 = .ok (.ifCond .eq 24, 3) := by decide +kernel
theorem dX9_odds_18 : decode cX9_odds 18 = .ok (.iload_n 2, 1) := by decide +kernel
theorem dX9_odds_19 : decode cX9_odds 19 = .ok (.iconst 1, 1) := by decide +kernel
theorem dX9_odds_20 : decode cX9_odds 20 = .ok (.iload_n 3, 1) := by decide +kernel
theorem dX9_odds_21 : decode cX9_odds 21 = .ok (.iconst 1, 1) := by decide +kernel
theorem dX9_odds_22 : decode cX9_odds 22 = .ok (.isub, 1) := by decide +kernel
theorem dX9_odds_23 : decode cX9_odds 23 = .ok (.invokestatic 117, 3) := by decide +kernel
theorem dX9_odds_26 : decode cX9_odds 26 = .ok (.ifCond .eq 13, 3) := by decide +kernel
theorem dX9_odds_29 : decode cX9_odds 29 = .ok (.iload 4, 2) := by decide +kernel
theorem dX9_odds_31 : decode cX9_odds 31 = .ok (.iconst 0, 1) := by decide +kernel
theorem dX9_odds_32 : decode cX9_odds 32 = .ok (.iconst 1, 1) := by decide +kernel
theorem dX9_odds_33 : decode cX9_odds 33 = .ok (.invokestatic 117, 3) := by decide +kernel
theorem dX9_odds_36 : decode cX9_odds 36 = .ok (.ifCond .ne 7, 3) := by decide +kernel
theorem dX9_odds_39 : decode cX9_odds 39 = .ok (.ldc2_w 197, 3) := by decide +kernel
theorem dX9_odds_42 : decode cX9_odds 42 = .ok (.lreturn, 1) := by decide +kernel
theorem dX9_odds_43 : decode cX9_odds 43 = .ok (.aload_n 0, 1) := by decide +kernel
theorem dX9_odds_44 : decode cX9_odds 44 = .ok (.invokevirtual 159, 3) := by decide +kernel
theorem dX9_odds_47 : decode cX9_odds 47 = .ok (.invokevirtual 163, 3) := by decide +kernel
theorem dX9_odds_50 : decode cX9_odds 50 = .ok (.ifCond .ne 7, 3) := by decide +kernel
theorem dX9_odds_53 : decode cX9_odds 53 = .ok (.ldc2_w 199, 3) := by decide +kernel
theorem dX9_odds_56 : decode cX9_odds 56 = .ok (.lreturn, 1) := by decide +kernel
theorem dX9_odds_57 : decode cX9_odds 57 = .ok (.aload_n 0, 1) := by decide +kernel
theorem dX9_odds_58 : decode cX9_odds 58 = .ok (.getfield 61, 3) := by decide +kernel
theorem dX9_odds_61 : decode cX9_odds 61 = .ok (.iload_n 1, 1) := by decide +kernel
theorem dX9_odds_62 : decode cX9_odds 62 = .ok (.iload_n 2, 1) := by decide +kernel
theorem dX9_odds_63 : decode cX9_odds 63 = .ok (.iload_n 3, 1) := by decide +kernel
theorem dX9_odds_64 : decode cX9_odds 64 = .ok (.invokevirtual 201, 3) := by decide +kernel
theorem dX9_odds_67 : decode cX9_odds 67 = .ok (.lstore 5, 2) := by decide +kernel
theorem dX9_odds_69 : decode cX9_odds 69 = .ok (.aload_n 0, 1) := by decide +kernel
theorem dX9_odds_70 : decode cX9_odds 70 = .ok (.getfield 61, 3) := by decide +kernel
theorem dX9_odds_73 : decode cX9_odds 73 = .ok (.iload_n 2, 1) := by decide +kernel
theorem dX9_odds_74 : decode cX9_odds 74 = .ok (.iload_n 3, 1) := by decide +kernel
theorem dX9_odds_75 : decode cX9_odds 75 = .ok (.invokevirtual 205, 3) := by decide +kernel
theorem dX9_odds_78 : decode cX9_odds 78 = .ok (.lstore 7, 2) := by decide +kernel
theorem dX9_odds_80 : decode cX9_odds 80 = .ok (.lload 5, 2) := by decide +kernel
theorem dX9_odds_82 : decode cX9_odds 82 = .ok (.lload 7, 2) := by decide +kernel
theorem dX9_odds_84 : decode cX9_odds 84 = .ok (.invokestatic 209, 3) := by decide +kernel
theorem dX9_odds_87 : decode cX9_odds 87 = .ok (.lstore 9, 2) := by decide +kernel
theorem dX9_odds_89 : decode cX9_odds 89 = .ok (.lload 9, 2) := by decide +kernel
theorem dX9_odds_91 : decode cX9_odds 91 = .ok (.lconst 1, 1) := by decide +kernel
theorem dX9_odds_92 : decode cX9_odds 92 = .ok (.lcmp, 1) := by decide +kernel
theorem dX9_odds_93 : decode cX9_odds 93 = .ok (.ifCond .ge 7, 3) := by decide +kernel
theorem dX9_odds_96 : decode cX9_odds 96 = .ok (.ldc2_w 199, 3) := by decide +kernel
theorem dX9_odds_99 : decode cX9_odds 99 = .ok (.lreturn, 1) := by decide +kernel
theorem dX9_odds_100 : decode cX9_odds 100 = .ok (.iload 4, 2) := by decide +kernel
theorem dX9_odds_102 : decode cX9_odds 102 = .ok (.ifCond .ne 8, 3) := by decide +kernel
theorem dX9_odds_105 : decode cX9_odds 105 = .ok (.lload 5, 2) := by decide +kernel
theorem dX9_odds_107 : decode cX9_odds 107 = .ok (.goto 5, 3) := by decide +kernel
theorem dX9_odds_110 : decode cX9_odds 110 = .ok (.lload 7, 2) := by decide +kernel
theorem dX9_odds_112 : decode cX9_odds 112 = .ok (.lload 9, 2) := by decide +kernel
theorem dX9_odds_114 : decode cX9_odds 114 = .ok (.ldiv, 1) := by decide +kernel
theorem dX9_odds_115 : decode cX9_odds 115 = .ok (.lreturn, 1) := by decide +kernel
theorem dX9_sack_0 : decode cX9_sack 0 = .ok (.iload_n 1, 1) := by decide +kernel
theorem dX9_sack_1 : decode cX9_sack 1 = .ok (.iconst 0, 1) := by decide +kernel
theorem dX9_sack_2 : decode cX9_sack 2 = .ok (.bipush 27, 2) := by decide +kernel
theorem dX9_sack_4 : decode cX9_sack 4 = .ok (.invokestatic 117, 3) := by decide +kernel
theorem dX9_sack_7 : decode cX9_sack 7 = .ok (.ifCond .eq 12, 3) := by decide +kernel
theorem dX9_sack_10 : decode cX9_sack 10 = .ok (.iload_n 2, 1) := by decide +kernel
theorem dX9_sack_11 : decode cX9_sack 11 = .ok (.iconst 0, 1) := by decide +kernel
theorem dX9_sack_12 : decode cX9_sack 12 = .ok (.iconst 2, 1) := by decide +kernel
theorem dX9_sack_13 : decode cX9_sack 13 = .ok (.invokestatic 117, 3) := by decide +kernel
theorem dX9_sack_16 : decode cX9_sack 16 = .ok (.ifCond .ne 5, 3) := by decide +kernel
theorem dX9_sack_19 : decode cX9_sack 19 = .ok (.iconst (-1), 1) := by decide +kernel
theorem dX9_sack_20 : decode cX9_sack 20 = .ok (.ireturn, 1) := by decide +kernel
theorem dX9_sack_21 : decode cX9_sack 21 = .ok (.aload_n 0, 1) := by decide +kernel
theorem dX9_sack_22 : decode cX9_sack 22 = .ok (.getfield 28, 3) := by decide +kernel
theorem dX9_sack_25 : decode cX9_sack 25 = .ok (.iload_n 1, 1) := by decide +kernel
theorem dX9_sack_26 : decode cX9_sack 26 = .ok (.invokevirtual 213, 3) := by decide +kernel
theorem dX9_sack_29 : decode cX9_sack 29 = .ok (.istore_n 3, 1) := by decide +kernel
theorem dX9_sack_30 : decode cX9_sack 30 = .ok (.iload_n 3, 1) := by decide +kernel
theorem dX9_sack_31 : decode cX9_sack 31 = .ok (.ifCond .ge 6, 3) := by decide +kernel
theorem dX9_sack_34 : decode cX9_sack 34 = .ok (.bipush (-9), 2) := by decide +kernel
theorem dX9_sack_36 : decode cX9_sack 36 = .ok (.ireturn, 1) := by decide +kernel
theorem dX9_sack_37 : decode cX9_sack 37 = .ok (.iload_n 3, 1) := by decide +kernel
theorem dX9_sack_38 : decode cX9_sack 38 = .ok (.bipush 8, 2) := by decide +kernel
theorem dX9_sack_40 : decode cX9_sack 40 = .ok (.idiv, 1) := by decide +kernel
theorem dX9_sack_41 : decode cX9_sack 41 = .ok (.istore 4, 2) := by decide +kernel
theorem dX9_sack_43 : decode cX9_sack 43 = .ok (.iload_n 3, 1) := by decide +kernel
theorem dX9_sack_44 : decode cX9_sack 44 = .ok (.bipush 8, 2) := by decide +kernel
theorem dX9_sack_46 : decode cX9_sack 46 = .ok (.irem, 1) := by decide +kernel
theorem dX9_sack_47 : decode cX9_sack 47 = .ok (.istore 5, 2) := by decide +kernel
theorem dX9_sack_49 : decode cX9_sack 49 = .ok (.iload_n 2, 1) := by decide +kernel
theorem dX9_sack_50 : decode cX9_sack 50 = .ok (.ifCond .ne 15, 3) := by decide +kernel
theorem dX9_sack_53 : decode cX9_sack 53 = .ok (.iload 4, 2) := by decide +kernel
theorem dX9_sack_55 : decode cX9_sack 55 = .ok (.invokestatic 216, 3) := by decide +kernel
theorem dX9_sack_58 : decode cX9_sack 58 = .ok (.iload 5, 2) := by decide +kernel
theorem dX9_sack_60 : decode cX9_sack 60 = .ok (.invokestatic 216, 3) := by decide +kernel
theorem dX9_sack_63 : decode cX9_sack 63 = .ok (.iadd, 1) := by decide +kernel
theorem dX9_sack_64 : decode cX9_sack 64 = .ok (.ireturn, 1) := by decide +kernel
theorem dX9_sack_65 : decode cX9_sack 65 = .ok (.iload_n 2, 1) := by decide +kernel
theorem dX9_sack_66 : decode cX9_sack 66 = .ok (.iconst 1, 1) := by decide +kernel
theorem dX9_sack_67 : decode cX9_sack 67 = .ok (.if_icmp .ne 8, 3) := by decide +kernel
theorem dX9_sack_70 : decode cX9_sack 70 = .ok (.iload 4, 2) := by decide +kernel
theorem dX9_sack_72 : decode cX9_sack 72 = .ok (.goto 5, 3) := by decide +kernel
theorem dX9_sack_75 : decode cX9_sack 75 = .ok (.iload 5, 2) := by decide +kernel
theorem dX9_sack_77 : decode cX9_sack 77 = .ok (.ireturn, 1) := by decide +kernel
theorem dX9_byTurns_0 : decode cX9_byTurns 0 = .ok (.aload_n 0, 1) := by decide +kernel
theorem dX9_byTurns_1 : decode cX9_byTurns 1 = .ok (.getfield 28, 3) := by decide +kernel
theorem dX9_byTurns_4 : decode cX9_byTurns 4 = .ok (.invokevirtual 221, 3) := by decide +kernel
theorem dX9_byTurns_7 : decode cX9_byTurns 7 = .ok (.ireturn, 1) := by decide +kernel
theorem dX9_mark_0 : decode cX9_mark 0 = .ok (.iload_n 1, 1) := by decide +kernel
theorem dX9_mark_1 : decode cX9_mark 1 = .ok (.iconst 0, 1) := by decide +kernel
theorem dX9_mark_2 : decode cX9_mark 2 = .ok (.iconst 5, 1) := by decide +kernel
theorem dX9_mark_3 : decode cX9_mark 3 = .ok (.invokestatic 117, 3) := by decide +kernel
theorem dX9_mark_6 : decode cX9_mark 6 = .ok (.ifCond .eq 20, 3) := by decide +kernel
theorem dX9_mark_9 : decode cX9_mark 9 = .ok (.iload_n 2, 1) := by decide +kernel
theorem dX9_mark_10 : decode cX9_mark 10 = .ok (.iconst 0, 1) := by decide +kernel
theorem dX9_mark_11 : decode cX9_mark 11 = .ok (.aload_n 0, 1) := by decide +kernel
theorem dX9_mark_12 : decode cX9_mark 12 = .ok (.getfield 28, 3) := by decide +kernel
theorem dX9_mark_15 : decode cX9_mark 15 = .ok (.invokevirtual 179, 3) := by decide +kernel
theorem dX9_mark_18 : decode cX9_mark 18 = .ok (.iconst 1, 1) := by decide +kernel
theorem dX9_mark_19 : decode cX9_mark 19 = .ok (.isub, 1) := by decide +kernel
theorem dX9_mark_20 : decode cX9_mark 20 = .ok (.invokestatic 117, 3) := by decide +kernel
theorem dX9_mark_23 : decode cX9_mark 23 = .ok (.ifCond .ne 6, 3) := by decide +kernel
theorem dX9_mark_26 : decode cX9_mark 26 = .ok (.ldc 224, 2) := by decide +kernel
theorem dX9_mark_28 : decode cX9_mark 28 = .ok (.ireturn, 1) := by decide +kernel
theorem dX9_mark_29 : decode cX9_mark 29 = .ok (.aload_n 0, 1) := by decide +kernel
theorem dX9_mark_30 : decode cX9_mark 30 = .ok (.getfield 54, 3) := by decide +kernel
theorem dX9_mark_33 : decode cX9_mark 33 = .ok (.iload_n 1, 1) := by decide +kernel
theorem dX9_mark_34 : decode cX9_mark 34 = .ok (.iload_n 2, 1) := by decide +kernel
theorem dX9_mark_35 : decode cX9_mark 35 = .ok (.invokevirtual 225, 3) := by decide +kernel
theorem dX9_mark_38 : decode cX9_mark 38 = .ok (.ireturn, 1) := by decide +kernel
theorem dX9_keep_0 : decode cX9_keep 0 = .ok (.iload_n 1, 1) := by decide +kernel
theorem dX9_keep_1 : decode cX9_keep 1 = .ok (.iconst 0, 1) := by decide +kernel
theorem dX9_keep_2 : decode cX9_keep 2 = .ok (.iconst 1, 1) := by decide +kernel
theorem dX9_keep_3 : decode cX9_keep 3 = .ok (.invokestatic 117, 3) := by decide +kernel
theorem dX9_keep_6 : decode cX9_keep 6 = .ok (.ifCond .ne 5, 3) := by decide +kernel
theorem dX9_keep_9 : decode cX9_keep 9 = .ok (.iconst (-1), 1) := by decide +kernel
theorem dX9_keep_10 : decode cX9_keep 10 = .ok (.ireturn, 1) := by decide +kernel
theorem dX9_keep_11 : decode cX9_keep 11 = .ok (.aload_n 0, 1) := by decide +kernel
theorem dX9_keep_12 : decode cX9_keep 12 = .ok (.iload_n 1, 1) := by decide +kernel
theorem dX9_keep_13 : decode cX9_keep 13 = .ok (.invokevirtual 228, 3) := by decide +kernel
theorem dX9_keep_16 : decode cX9_keep 16 = .ok (.aload_n 0, 1) := by decide +kernel
theorem dX9_keep_17 : decode cX9_keep 17 = .ok (.getfield 35, 3) := by decide +kernel
theorem dX9_keep_20 : decode cX9_keep 20 = .ok (.invokevirtual 232, 3) := by decide +kernel
theorem dX9_keep_23 : decode cX9_keep 23 = .ok (.aload_n 0, 1) := by decide +kernel
theorem dX9_keep_24 : decode cX9_keep 24 = .ok (.getfield 35, 3) := by decide +kernel
theorem dX9_keep_27 : decode cX9_keep 27 = .ok (.invokevirtual 141, 3) := by decide +kernel
theorem dX9_keep_30 : decode cX9_keep 30 = .ok (.ireturn, 1) := by decide +kernel
theorem dX9_back_0 : decode cX9_back 0 = .ok (.iload_n 1, 1) := by decide +kernel
theorem dX9_back_1 : decode cX9_back 1 = .ok (.iconst 0, 1) := by decide +kernel
theorem dX9_back_2 : decode cX9_back 2 = .ok (.iconst 1, 1) := by decide +kernel
theorem dX9_back_3 : decode cX9_back 3 = .ok (.invokestatic 117, 3) := by decide +kernel
theorem dX9_back_6 : decode cX9_back 6 = .ok (.ifCond .ne 5, 3) := by decide +kernel
theorem dX9_back_9 : decode cX9_back 9 = .ok (.iconst (-1), 1) := by decide +kernel
theorem dX9_back_10 : decode cX9_back 10 = .ok (.ireturn, 1) := by decide +kernel
theorem dX9_back_11 : decode cX9_back 11 = .ok (.aload_n 0, 1) := by decide +kernel
theorem dX9_back_12 : decode cX9_back 12 = .ok (.iload_n 1, 1) := by decide +kernel
theorem dX9_back_13 : decode cX9_back 13 = .ok (.invokevirtual 228, 3) := by decide +kernel
theorem dX9_back_16 : decode cX9_back 16 = .ok (.invokevirtual 236, 3) := by decide +kernel
theorem dX9_back_19 : decode cX9_back 19 = .ok (.ifCond .ne 6, 3) := by decide +kernel
theorem dX9_back_22 : decode cX9_back 22 = .ok (.bipush (-2), 2) := by decide +kernel
theorem dX9_back_24 : decode cX9_back 24 = .ok (.ireturn, 1) := by decide +kernel
theorem dX9_back_25 : decode cX9_back 25 = .ok (.aload_n 0, 1) := by decide +kernel
theorem dX9_back_26 : decode cX9_back 26 = .ok (.getfield 35, 3) := by decide +kernel
theorem dX9_back_29 : decode cX9_back 29 = .ok (.aload_n 0, 1) := by decide +kernel
theorem dX9_back_30 : decode cX9_back 30 = .ok (.iload_n 1, 1) := by decide +kernel
theorem dX9_back_31 : decode cX9_back 31 = .ok (.invokevirtual 228, 3) := by decide +kernel
theorem dX9_back_34 : decode cX9_back 34 = .ok (.invokevirtual 239, 3) := by decide +kernel
theorem dX9_back_37 : decode cX9_back 37 = .ok (.invokevirtual 243, 3) := by decide +kernel
theorem dX9_back_40 : decode cX9_back 40 = .ok (.aload_n 0, 1) := by decide +kernel
theorem dX9_back_41 : decode cX9_back 41 = .ok (.getfield 61, 3) := by decide +kernel
theorem dX9_back_44 : decode cX9_back 44 = .ok (.invokevirtual 100, 3) := by decide +kernel
theorem dX9_back_47 : decode cX9_back 47 = .ok (.aload_n 0, 1) := by decide +kernel
theorem dX9_back_48 : decode cX9_back 48 = .ok (.getfield 35, 3) := by decide +kernel
theorem dX9_back_51 : decode cX9_back 51 = .ok (.invokevirtual 141, 3) := by decide +kernel
theorem dX9_back_54 : decode cX9_back 54 = .ok (.ireturn, 1) := by decide +kernel
theorem dX9_count_0 : decode cX9_count 0 = .ok (.iload_n 1, 1) := by decide +kernel
theorem dX9_count_1 : decode cX9_count 1 = .ok (.tableswitch 63 0 3 #[31, 39, 47, 55], 31) := by decide +kernel
theorem dX9_count_32 : decode cX9_count 32 = .ok (.aload_n 0, 1) := by decide +kernel
theorem dX9_count_33 : decode cX9_count 33 = .ok (.getfield 28, 3) := by decide +kernel
theorem dX9_count_36 : decode cX9_count 36 = .ok (.invokevirtual 179, 3) := by decide +kernel
theorem dX9_count_39 : decode cX9_count 39 = .ok (.ireturn, 1) := by decide +kernel
theorem dX9_count_40 : decode cX9_count 40 = .ok (.aload_n 0, 1) := by decide +kernel
theorem dX9_count_41 : decode cX9_count 41 = .ok (.getfield 28, 3) := by decide +kernel
theorem dX9_count_44 : decode cX9_count 44 = .ok (.invokevirtual 138, 3) := by decide +kernel
theorem dX9_count_47 : decode cX9_count 47 = .ok (.ireturn, 1) := by decide +kernel
theorem dX9_count_48 : decode cX9_count 48 = .ok (.aload_n 0, 1) := by decide +kernel
theorem dX9_count_49 : decode cX9_count 49 = .ok (.getfield 35, 3) := by decide +kernel
theorem dX9_count_52 : decode cX9_count 52 = .ok (.invokevirtual 141, 3) := by decide +kernel
theorem dX9_count_55 : decode cX9_count 55 = .ok (.ireturn, 1) := by decide +kernel
theorem dX9_count_56 : decode cX9_count 56 = .ok (.aload_n 0, 1) := by decide +kernel
theorem dX9_count_57 : decode cX9_count 57 = .ok (.getfield 10, 3) := by decide +kernel
theorem dX9_count_60 : decode cX9_count 60 = .ok (.invokevirtual 74, 3) := by decide +kernel
theorem dX9_count_63 : decode cX9_count 63 = .ok (.ireturn, 1) := by decide +kernel
theorem dX9_count_64 : decode cX9_count 64 = .ok (.iconst (-1), 1) := by decide +kernel
theorem dX9_count_65 : decode cX9_count 65 = .ok (.ireturn, 1) := by decide +kernel
theorem dX9_trace_0 : decode cX9_trace 0 = .ok (.aload_n 0, 1) := by decide +kernel
theorem dX9_trace_1 : decode cX9_trace 1 = .ok (.getfield 54, 3) := by decide +kernel
theorem dX9_trace_4 : decode cX9_trace 4 = .ok (.invokevirtual 245, 3) := by decide +kernel
theorem dX9_trace_7 : decode cX9_trace 7 = .ok (.lreturn, 1) := by decide +kernel
theorem dX9_isBetween_0 : decode cX9_isBetween 0 = .ok (.iload_n 0, 1) := by decide +kernel
theorem dX9_isBetween_1 : decode cX9_isBetween 1 = .ok (.iload_n 1, 1) := by decide +kernel
theorem dX9_isBetween_2 : decode cX9_isBetween 2 = .ok (.if_icmp .lt 12, 3) := by decide +kernel
theorem dX9_isBetween_5 : decode cX9_isBetween 5 = .ok (.iload_n 0, 1) := by decide +kernel
theorem dX9_isBetween_6 : decode cX9_isBetween 6 = .ok (.iload_n 2, 1) := by decide +kernel
theorem dX9_isBetween_7 : decode cX9_isBetween 7 = .ok (.if_icmp .gt 7, 3) := by decide +kernel
theorem dX9_isBetween_10 : decode cX9_isBetween 10 = .ok (.iconst 1, 1) := by decide +kernel
theorem dX9_isBetween_11 : decode cX9_isBetween 11 = .ok (.goto 4, 3) := by decide +kernel
theorem dX9_isBetween_14 : decode cX9_isBetween 14 = .ok (.iconst 0, 1) := by decide +kernel
theorem dX9_isBetween_15 : decode cX9_isBetween 15 = .ok (.ireturn, 1) := by decide +kernel
theorem dX9_isItem_0 : decode cX9_isItem 0 = .ok (.iload_n 1, 1) := by decide +kernel
theorem dX9_isItem_1 : decode cX9_isItem 1 = .ok (.iconst 3, 1) := by decide +kernel
theorem dX9_isItem_2 : decode cX9_isItem 2 = .ok (.if_icmp .eq 20, 3) := by decide +kernel
theorem dX9_isItem_5 : decode cX9_isItem 5 = .ok (.iload_n 1, 1) := by decide +kernel
theorem dX9_isItem_6 : decode cX9_isItem 6 = .ok (.iconst 0, 1) := by decide +kernel
theorem dX9_isItem_7 : decode cX9_isItem 7 = .ok (.aload_n 0, 1) := by decide +kernel
theorem dX9_isItem_8 : decode cX9_isItem 8 = .ok (.getfield 28, 3) := by decide +kernel
theorem dX9_isItem_11 : decode cX9_isItem 11 = .ok (.invokevirtual 179, 3) := by decide +kernel
theorem dX9_isItem_14 : decode cX9_isItem 14 = .ok (.iconst 1, 1) := by decide +kernel
theorem dX9_isItem_15 : decode cX9_isItem 15 = .ok (.isub, 1) := by decide +kernel
theorem dX9_isItem_16 : decode cX9_isItem 16 = .ok (.invokestatic 117, 3) := by decide +kernel
theorem dX9_isItem_19 : decode cX9_isItem 19 = .ok (.ifCond .eq 7, 3) := by decide +kernel
theorem dX9_isItem_22 : decode cX9_isItem 22 = .ok (.iconst 1, 1) := by decide +kernel
theorem dX9_isItem_23 : decode cX9_isItem 23 = .ok (.goto 4, 3) := by decide +kernel
theorem dX9_isItem_26 : decode cX9_isItem 26 = .ok (.iconst 0, 1) := by decide +kernel
theorem dX9_isItem_27 : decode cX9_isItem 27 = .ok (.ireturn, 1) := by decide +kernel
theorem dX9_isSet_0 : decode cX9_isSet 0 = .ok (.iload_n 1, 1) := by decide +kernel
theorem dX9_isSet_1 : decode cX9_isSet 1 = .ok (.iconst 0, 1) := by decide +kernel
theorem dX9_isSet_2 : decode cX9_isSet 2 = .ok (.aload_n 0, 1) := by decide +kernel
theorem dX9_isSet_3 : decode cX9_isSet 3 = .ok (.getfield 28, 3) := by decide +kernel
theorem dX9_isSet_6 : decode cX9_isSet 6 = .ok (.invokevirtual 249, 3) := by decide +kernel
theorem dX9_isSet_9 : decode cX9_isSet 9 = .ok (.iconst 1, 1) := by decide +kernel
theorem dX9_isSet_10 : decode cX9_isSet 10 = .ok (.isub, 1) := by decide +kernel
theorem dX9_isSet_11 : decode cX9_isSet 11 = .ok (.invokestatic 117, 3) := by decide +kernel
theorem dX9_isSet_14 : decode cX9_isSet 14 = .ok (.ireturn, 1) := by decide +kernel
theorem dX9_isLine_0 : decode cX9_isLine 0 = .ok (.iload_n 1, 1) := by decide +kernel
theorem dX9_isLine_1 : decode cX9_isLine 1 = .ok (.iconst 0, 1) := by decide +kernel
theorem dX9_isLine_2 : decode cX9_isLine 2 = .ok (.aload_n 0, 1) := by decide +kernel
theorem dX9_isLine_3 : decode cX9_isLine 3 = .ok (.getfield 35, 3) := by decide +kernel
theorem dX9_isLine_6 : decode cX9_isLine 6 = .ok (.invokevirtual 141, 3) := by decide +kernel
theorem dX9_isLine_9 : decode cX9_isLine 9 = .ok (.iconst 1, 1) := by decide +kernel
theorem dX9_isLine_10 : decode cX9_isLine 10 = .ok (.isub, 1) := by decide +kernel
theorem dX9_isLine_11 : decode cX9_isLine 11 = .ok (.invokestatic 117, 3) := by decide +kernel
theorem dX9_isLine_14 : decode cX9_isLine 14 = .ok (.ireturn, 1) := by decide +kernel
theorem dX9_known_0 : decode cX9_known 0 = .ok (.aload_n 0, 1) := by decide +kernel
theorem dX9_known_1 : decode cX9_known 1 = .ok (.getfield 61, 3) := by decide +kernel
theorem dX9_known_4 : decode cX9_known 4 = .ok (.invokevirtual 182, 3) := by decide +kernel
theorem dX9_known_7 : decode cX9_known 7 = .ok (.aload_n 0, 1) := by decide +kernel
theorem dX9_known_8 : decode cX9_known 8 = .ok (.getfield 61, 3) := by decide +kernel
theorem dX9_known_11 : decode cX9_known 11 = .ok (.areturn, 1) := by decide +kernel
theorem dX9_imageOf_0 : decode cX9_imageOf 0 = .ok (.iload_n 1, 1) := by decide +kernel
theorem dX9_imageOf_1 : decode cX9_imageOf 1 = .ok (.ifCond .ne 10, 3) := by decide +kernel
theorem dX9_imageOf_4 : decode cX9_imageOf 4 = .ok (.aload_n 0, 1) := by decide +kernel
theorem dX9_imageOf_5 : decode cX9_imageOf 5 = .ok (.getfield 42, 3) := by decide +kernel
theorem dX9_imageOf_8 : decode cX9_imageOf 8 = .ok (.goto 7, 3) := by decide +kernel
theorem dX9_imageOf_11 : decode cX9_imageOf 11 = .ok (.aload_n 0, 1) := by decide +kernel
theorem dX9_imageOf_12 : decode cX9_imageOf 12 = .ok (.getfield 46, 3) := by decide +kernel
theorem dX9_imageOf_15 : decode cX9_imageOf 15 = .ok (.areturn, 1) := by decide +kernel
theorem dX9_greatestDivisor_0 : decode cX9_greatestDivisor 0 = .ok (.lload_n 0, 1) := by decide +kernel
theorem dX9_greatestDivisor_1 : decode cX9_greatestDivisor 1 = .ok (.lstore 4, 2) := by decide +kernel
theorem dX9_greatestDivisor_3 : decode cX9_greatestDivisor 3 = .ok (.lload_n 2, 1) := by decide +kernel
theorem dX9_greatestDivisor_4 : decode cX9_greatestDivisor 4 = .ok (.lstore 6, 2) := by decide +kernel
theorem dX9_greatestDivisor_6 : decode cX9_greatestDivisor 6 = .ok (.iconst 0, 1) := by decide +kernel
theorem dX9_greatestDivisor_7 : decode cX9_greatestDivisor 7 = .ok (.istore 8, 2) := by decide +kernel
theorem dX9_greatestDivisor_9 : decode cX9_greatestDivisor 9 = .ok (.iload 8, 2) := by decide +kernel
theorem dX9_greatestDivisor_11 : decode cX9_greatestDivisor 11 = .ok (.bipush 100, 2) := by decide +kernel
theorem dX9_greatestDivisor_13 : decode cX9_greatestDivisor 13 = .ok (.if_icmp .ge 31, 3) := by decide +kernel
theorem dX9_greatestDivisor_16 : decode cX9_greatestDivisor 16 = .ok (.lload 6, 2) := by decide +kernel
theorem dX9_greatestDivisor_18 : decode cX9_greatestDivisor 18 = .ok (.lconst 0, 1) := by decide +kernel
theorem dX9_greatestDivisor_19 : decode cX9_greatestDivisor 19 = .ok (.lcmp, 1) := by decide +kernel
theorem dX9_greatestDivisor_20 : decode cX9_greatestDivisor 20 = .ok (.ifCond .eq 24, 3) := by decide +kernel
theorem dX9_greatestDivisor_23 : decode cX9_greatestDivisor 23 = .ok (.lload 4, 2) := by decide +kernel
theorem dX9_greatestDivisor_25 : decode cX9_greatestDivisor 25 = .ok (.lload 6, 2) := by decide +kernel
theorem dX9_greatestDivisor_27 : decode cX9_greatestDivisor 27 = .ok (.lrem, 1) := by decide +kernel
theorem dX9_greatestDivisor_28 : decode cX9_greatestDivisor 28 = .ok (.lstore 9, 2) := by decide +kernel
theorem dX9_greatestDivisor_30 : decode cX9_greatestDivisor 30 = .ok (.lload 6, 2) := by decide +kernel
theorem dX9_greatestDivisor_32 : decode cX9_greatestDivisor 32 = .ok (.lstore 4, 2) := by decide +kernel
theorem dX9_greatestDivisor_34 : decode cX9_greatestDivisor 34 = .ok (.lload 9, 2) := by decide +kernel
theorem dX9_greatestDivisor_36 : decode cX9_greatestDivisor 36 = .ok (.lstore 6, 2) := by decide +kernel
theorem dX9_greatestDivisor_38 : decode cX9_greatestDivisor 38 = .ok (.iinc 8 1, 3) := by decide +kernel
theorem dX9_greatestDivisor_41 : decode cX9_greatestDivisor 41 = .ok (.goto (-32), 3) := by decide +kernel
theorem dX9_greatestDivisor_44 : decode cX9_greatestDivisor 44 = .ok (.lload 4, 2) := by decide +kernel
theorem dX9_greatestDivisor_46 : decode cX9_greatestDivisor 46 = .ok (.lreturn, 1) := by decide +kernel
