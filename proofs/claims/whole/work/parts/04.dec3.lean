theorem dX10_init_0 : decode cX10_init 0 = .ok (.aload_n 0, 1) := by decide +kernel
theorem dX10_init_1 : decode cX10_init 1 = .ok (.invokespecial 1, 3) := by decide +kernel
theorem dX10_init_4 : decode cX10_init 4 = .ok (.aload_n 0, 1) := by decide +kernel
theorem dX10_init_5 : decode cX10_init 5 = .ok (.sipush 200, 3) := by decide +kernel
theorem dX10_init_8 : decode cX10_init 8 = .ok (.newarray .byte, 2) := by decide +kernel
theorem dX10_init_10 : decode cX10_init 10 = .ok (.putfield 7, 3) := by decide +kernel
theorem dX10_init_13 : decode cX10_init 13 = .ok (.aload_n 0, 1) := by decide +kernel
theorem dX10_init_14 : decode cX10_init 14 = .ok (.iconst 2, 1) := by decide +kernel
theorem dX10_init_15 : decode cX10_init 15 = .ok (.newarray .int, 2) := by decide +kernel
theorem dX10_init_17 : decode cX10_init 17 = .ok (.putfield 13, 3) := by decide +kernel
theorem dX10_init_20 : decode cX10_init 20 = .ok (.aload_n 0, 1) := by decide +kernel
theorem dX10_init_21 : decode cX10_init 21 = .ok (.bipush 8, 2) := by decide +kernel
theorem dX10_init_23 : decode cX10_init 23 = .ok (.newarray .int, 2) := by decide +kernel
theorem dX10_init_25 : decode cX10_init 25 = .ok (.putfield 17, 3) := by decide +kernel
theorem dX10_init_28 : decode cX10_init 28 = .ok (.aload_n 0, 1) := by decide +kernel
theorem dX10_init_29 : decode cX10_init 29 = .ok (.iconst 2, 1) := by decide +kernel
theorem dX10_init_30 : decode cX10_init 30 = .ok (.newarray .int, 2) := by decide +kernel
theorem dX10_init_32 : decode cX10_init 32 = .ok (.putfield 20, 3) := by decide +kernel
theorem dX10_init_35 : decode cX10_init 35 = .ok (.aload_n 0, 1) := by decide +kernel
theorem dX10_init_36 : decode cX10_init 36 = .ok (.iconst 3, 1) := by decide +kernel
theorem dX10_init_37 : decode cX10_init 37 = .ok (.newarray .int, 2) := by decide +kernel
theorem dX10_init_39 : decode cX10_init 39 = .ok (.putfield 23, 3) := by decide +kernel
theorem dX10_init_42 : decode cX10_init 42 = .ok (.aload_n 0, 1) := by decide +kernel
theorem dX10_init_43 : decode cX10_init 43 = .ok (.bipush 108, 2) := by decide +kernel
theorem dX10_init_45 : decode cX10_init 45 = .ok (.newarray .int, 2) := by decide +kernel
theorem dX10_init_47 : decode cX10_init 47 = .ok (.putfield 26, 3) := by decide +kernel
theorem dX10_init_50 : decode cX10_init 50 = .ok (.aload_n 0, 1) := by decide +kernel
theorem dX10_init_51 : decode cX10_init 51 = .ok (.iconst 2, 1) := by decide +kernel
theorem dX10_init_52 : decode cX10_init 52 = .ok (.newarray .boolean, 2) := by decide +kernel
theorem dX10_init_54 : decode cX10_init 54 = .ok (.putfield 29, 3) := by decide +kernel
theorem dX10_init_57 : decode cX10_init 57 = .ok (.aload_n 0, 1) := by decide +kernel
theorem dX10_init_58 : decode cX10_init 58 = .ok (.iconst 4, 1) := by decide +kernel
theorem dX10_init_59 : decode cX10_init 59 = .ok (.newarray .int, 2) := by decide +kernel
theorem dX10_init_61 : decode cX10_init 61 = .ok (.putfield 33, 3) := by decide +kernel
theorem dX10_init_64 : decode cX10_init 64 = .ok (.aload_n 0, 1) := by decide +kernel
theorem dX10_init_65 : decode cX10_init 65 = .ok (.bipush 20, 2) := by decide +kernel
theorem dX10_init_67 : decode cX10_init 67 = .ok (.newarray .int, 2) := by decide +kernel
theorem dX10_init_69 : decode cX10_init 69 = .ok (.putfield 36, 3) := by decide +kernel
theorem dX10_init_72 : decode cX10_init 72 = .ok (.aload_n 0, 1) := by decide +kernel
theorem dX10_init_73 : decode cX10_init 73 = .ok (.sipush 400, 3) := by decide +kernel
theorem dX10_init_76 : decode cX10_init 76 = .ok (.newarray .int, 2) := by decide +kernel
theorem dX10_init_78 : decode cX10_init 78 = .ok (.putfield 39, 3) := by decide +kernel
theorem dX10_init_81 : decode cX10_init 81 = .ok (.aload_n 0, 1) := by decide +kernel
theorem dX10_init_82 : decode cX10_init 82 = .ok (.bipush 20, 2) := by decide +kernel
theorem dX10_init_84 : decode cX10_init 84 = .ok (.newarray .boolean, 2) := by decide +kernel
theorem dX10_init_86 : decode cX10_init 86 = .ok (.putfield 42, 3) := by decide +kernel
theorem dX10_init_89 : decode cX10_init 89 = .ok (.aload_n 0, 1) := by decide +kernel
theorem dX10_init_90 : decode cX10_init 90 = .ok (.bipush 8, 2) := by decide +kernel
theorem dX10_init_92 : decode cX10_init 92 = .ok (.newarray .int, 2) := by decide +kernel
theorem dX10_init_94 : decode cX10_init 94 = .ok (.putfield 45, 3) := by decide +kernel
theorem dX10_init_97 : decode cX10_init 97 = .ok (.aload_n 0, 1) := by decide +kernel
theorem dX10_init_98 : decode cX10_init 98 = .ok (.getfield 20, 3) := by decide +kernel
theorem dX10_init_101 : decode cX10_init 101 = .ok (.iconst 0, 1) := by decide +kernel
theorem dX10_init_102 : decode cX10_init 102 = .ok (.bipush 10, 2) := by decide +kernel
theorem dX10_init_104 : decode cX10_init 104 = .ok (.iastore, 1) := by decide +kernel
theorem dX10_init_105 : decode cX10_init 105 = .ok (.return_, 1) := by decide +kernel
theorem dX10_in_0 : decode cX10_in 0 = .ok (.iload_n 0, 1) := by decide +kernel
theorem dX10_in_1 : decode cX10_in 1 = .ok (.iload_n 1, 1) := by decide +kernel
theorem dX10_in_2 : decode cX10_in 2 = .ok (.if_icmp .lt 12, 3) := by decide +kernel
theorem dX10_in_5 : decode cX10_in 5 = .ok (.iload_n 0, 1) := by decide +kernel
theorem dX10_in_6 : decode cX10_in 6 = .ok (.iload_n 2, 1) := by decide +kernel
theorem dX10_in_7 : decode cX10_in 7 = .ok (.if_icmp .gt 7, 3) := by decide +kernel
theorem dX10_in_10 : decode cX10_in 10 = .ok (.iconst 1, 1) := by decide +kernel
theorem dX10_in_11 : decode cX10_in 11 = .ok (.goto 4, 3) := by decide +kernel
theorem dX10_in_14 : decode cX10_in 14 = .ok (.iconst 0, 1) := by decide +kernel
theorem dX10_in_15 : decode cX10_in 15 = .ok (.ireturn, 1) := by decide +kernel
theorem dX10_type_0 : decode cX10_type 0 = .ok (.iload_n 3, 1) := by decide +kernel
theorem dX10_type_1 : decode cX10_type 1 = .ok (.iconst 1, 1) := by decide +kernel
theorem dX10_type_2 : decode cX10_type 2 = .ok (.bipush 8, 2) := by decide +kernel
theorem dX10_type_4 : decode cX10_type 4 = .ok (.invokestatic 48, 3) := by decide +kernel
theorem dX10_type_7 : decode cX10_type 7 = .ok (.ifCond .ne 5, 3) := by decide +kernel
theorem dX10_type_10 : decode cX10_type 10 = .ok (.iconst (-1), 1) := by decide +kernel
theorem dX10_type_11 : decode cX10_type 11 = .ok (.ireturn, 1) := by decide +kernel
theorem dX10_type_12 : decode cX10_type 12 = .ok (.aload_n 0, 1) := by decide +kernel
theorem dX10_type_13 : decode cX10_type 13 = .ok (.getfield 52, 3) := by decide +kernel
theorem dX10_type_16 : decode cX10_type 16 = .ok (.iload_n 3, 1) := by decide +kernel
theorem dX10_type_17 : decode cX10_type 17 = .ok (.iadd, 1) := by decide +kernel
theorem dX10_type_18 : decode cX10_type 18 = .ok (.sipush 200, 3) := by decide +kernel
theorem dX10_type_21 : decode cX10_type 21 = .ok (.if_icmp .le 6, 3) := by decide +kernel
theorem dX10_type_24 : decode cX10_type 24 = .ok (.bipush (-3), 2) := by decide +kernel
theorem dX10_type_26 : decode cX10_type 26 = .ok (.ireturn, 1) := by decide +kernel
theorem dX10_type_27 : decode cX10_type 27 = .ok (.iload_n 3, 1) := by decide +kernel
theorem dX10_type_28 : decode cX10_type 28 = .ok (.iconst 1, 1) := by decide +kernel
theorem dX10_type_29 : decode cX10_type 29 = .ok (.isub, 1) := by decide +kernel
theorem dX10_type_30 : decode cX10_type 30 = .ok (.istore 4, 2) := by decide +kernel
theorem dX10_type_32 : decode cX10_type 32 = .ok (.iload 4, 2) := by decide +kernel
theorem dX10_type_34 : decode cX10_type 34 = .ok (.ifCond .lt 41, 3) := by decide +kernel
theorem dX10_type_37 : decode cX10_type 37 = .ok (.aload_n 0, 1) := by decide +kernel
theorem dX10_type_38 : decode cX10_type 38 = .ok (.getfield 7, 3) := by decide +kernel
theorem dX10_type_41 : decode cX10_type 41 = .ok (.aload_n 0, 1) := by decide +kernel
theorem dX10_type_42 : decode cX10_type 42 = .ok (.getfield 52, 3) := by decide +kernel
theorem dX10_type_45 : decode cX10_type 45 = .ok (.lload_n 1, 1) := by decide +kernel
theorem dX10_type_46 : decode cX10_type 46 = .ok (.bipush 8, 2) := by decide +kernel
theorem dX10_type_48 : decode cX10_type 48 = .ok (.iload 4, 2) := by decide +kernel
theorem dX10_type_50 : decode cX10_type 50 = .ok (.imul, 1) := by decide +kernel
theorem dX10_type_51 : decode cX10_type 51 = .ok (.lshr, 1) := by decide +kernel
theorem dX10_type_52 : decode cX10_type 52 = .ok (.ldc2_w 56, 3) := by decide +kernel
theorem dX10_type_55 : decode cX10_type 55 = .ok (.land, 1) := by decide +kernel
theorem dX10_type_56 : decode cX10_type 56 = .ok (.l2i, 1) := by decide +kernel
theorem dX10_type_57 : decode cX10_type 57 = .ok (.i2b, 1) := by decide +kernel
theorem dX10_type_58 : decode cX10_type 58 = .ok (.bastore, 1) := by decide +kernel
theorem dX10_type_59 : decode cX10_type 59 = .ok (.aload_n 0, 1) := by decide +kernel
theorem dX10_type_60 : decode cX10_type 60 = .ok (.dup, 1) := by decide +kernel
theorem dX10_type_61 : decode cX10_type 61 = .ok (.getfield 52, 3) := by decide +kernel
theorem dX10_type_64 : decode cX10_type 64 = .ok (.iconst 1, 1) := by decide +kernel
theorem dX10_type_65 : decode cX10_type 65 = .ok (.iadd, 1) := by decide +kernel
theorem dX10_type_66 : decode cX10_type 66 = .ok (.putfield 52, 3) := by decide +kernel
theorem dX10_type_69 : decode cX10_type 69 = .ok (.iinc 4 (-1), 3) := by decide +kernel
theorem dX10_type_72 : decode cX10_type 72 = .ok (.goto (-40), 3) := by decide +kernel
theorem dX10_type_75 : decode cX10_type 75 = .ok (.aload_n 0, 1) := by decide +kernel
theorem dX10_type_76 : decode cX10_type 76 = .ok (.getfield 52, 3) := by decide +kernel
theorem dX10_type_79 : decode cX10_type 79 = .ok (.ireturn, 1) := by decide +kernel
theorem dX10_clear_0 : decode cX10_clear 0 = .ok (.aload_n 0, 1) := by decide +kernel
theorem dX10_clear_1 : decode cX10_clear 1 = .ok (.getfield 52, 3) := by decide +kernel
theorem dX10_clear_4 : decode cX10_clear 4 = .ok (.istore_n 1, 1) := by decide +kernel
theorem dX10_clear_5 : decode cX10_clear 5 = .ok (.aload_n 0, 1) := by decide +kernel
theorem dX10_clear_6 : decode cX10_clear 6 = .ok (.iconst 0, 1) := by decide +kernel
theorem dX10_clear_7 : decode cX10_clear 7 = .ok (.putfield 52, 3) := by decide +kernel
theorem dX10_clear_10 : decode cX10_clear 10 = .ok (.iload_n 1, 1) := by decide +kernel
theorem dX10_clear_11 : decode cX10_clear 11 = .ok (.ireturn, 1) := by decide +kernel
theorem dX10_here_0 : decode cX10_here 0 = .ok (.aload_n 0, 1) := by decide +kernel
theorem dX10_here_1 : decode cX10_here 1 = .ok (.getfield 58, 3) := by decide +kernel
theorem dX10_here_4 : decode cX10_here 4 = .ok (.aload_n 0, 1) := by decide +kernel
theorem dX10_here_5 : decode cX10_here 5 = .ok (.getfield 52, 3) := by decide +kernel
theorem dX10_here_8 : decode cX10_here 8 = .ok (.if_icmp .ge 19, 3) := by decide +kernel
theorem dX10_here_11 : decode cX10_here 11 = .ok (.aload_n 0, 1) := by decide +kernel
theorem dX10_here_12 : decode cX10_here 12 = .ok (.getfield 7, 3) := by decide +kernel
theorem dX10_here_15 : decode cX10_here 15 = .ok (.aload_n 0, 1) := by decide +kernel
theorem dX10_here_16 : decode cX10_here 16 = .ok (.getfield 58, 3) := by decide +kernel
theorem dX10_here_19 : decode cX10_here 19 = .ok (.baload, 1) := by decide +kernel
theorem dX10_here_20 : decode cX10_here 20 = .ok (.sipush 255, 3) := by decide +kernel
theorem dX10_here_23 : decode cX10_here 23 = .ok (.iand, 1) := by decide +kernel
theorem dX10_here_24 : decode cX10_here 24 = .ok (.goto 4, 3) := by decide +kernel
theorem dX10_here_27 : decode cX10_here 27 = .ok (.iconst (-1), 1) := by decide +kernel
theorem dX10_here_28 : decode cX10_here 28 = .ok (.ireturn, 1) := by decide +kernel
theorem dX10_nextToken_0 : decode cX10_nextToken 0 = .ok (.aload_n 0, 1) := by decide +kernel
theorem dX10_nextToken_1 : decode cX10_nextToken 1 = .ok (.invokevirtual 61, 3) := by decide +kernel
theorem dX10_nextToken_4 : decode cX10_nextToken 4 = .ok (.bipush 32, 2) := by decide +kernel
theorem dX10_nextToken_6 : decode cX10_nextToken 6 = .ok (.if_icmp .ne 16, 3) := by decide +kernel
theorem dX10_nextToken_9 : decode cX10_nextToken 9 = .ok (.aload_n 0, 1) := by decide +kernel
theorem dX10_nextToken_10 : decode cX10_nextToken 10 = .ok (.dup, 1) := by decide +kernel
theorem dX10_nextToken_11 : decode cX10_nextToken 11 = .ok (.getfield 58, 3) := by decide +kernel
theorem dX10_nextToken_14 : decode cX10_nextToken 14 = .ok (.iconst 1, 1) := by decide +kernel
theorem dX10_nextToken_15 : decode cX10_nextToken 15 = .ok (.iadd, 1) := by decide +kernel
theorem dX10_nextToken_16 : decode cX10_nextToken 16 = .ok (.putfield 58, 3) := by decide +kernel
theorem dX10_nextToken_19 : decode cX10_nextToken 19 = .ok (.goto (-19), 3) := by decide +kernel
theorem dX10_nextToken_22 : decode cX10_nextToken 22 = .ok (.aload_n 0, 1) := by decide +kernel
theorem dX10_nextToken_23 : decode cX10_nextToken 23 = .ok (.aload_n 0, 1) := by decide +kernel
theorem dX10_nextToken_24 : decode cX10_nextToken 24 = .ok (.getfield 58, 3) := by decide +kernel
theorem dX10_nextToken_27 : decode cX10_nextToken 27 = .ok (.putfield 65, 3) := by decide +kernel
theorem dX10_nextToken_30 : decode cX10_nextToken 30 = .ok (.aload_n 0, 1) := by decide +kernel
theorem dX10_nextToken_31 : decode cX10_nextToken 31 = .ok (.iconst 0, 1) := by decide +kernel
theorem dX10_nextToken_32 : decode cX10_nextToken 32 = .ok (.putfield 68, 3) := by decide +kernel
theorem dX10_nextToken_35 : decode cX10_nextToken 35 = .ok (.aload_n 0, 1) := by decide +kernel
theorem dX10_nextToken_36 : decode cX10_nextToken 36 = .ok (.invokevirtual 61, 3) := by decide +kernel
theorem dX10_nextToken_39 : decode cX10_nextToken 39 = .ok (.istore_n 1, 1) := by decide +kernel
theorem dX10_nextToken_40 : decode cX10_nextToken 40 = .ok (.iload_n 1, 1) := by decide +kernel
theorem dX10_nextToken_41 : decode cX10_nextToken 41 = .ok (.ifCond .ge 11, 3) := by decide +kernel
theorem dX10_nextToken_44 : decode cX10_nextToken 44 = .ok (.aload_n 0, 1) := by decide +kernel
theorem dX10_nextToken_45 : decode cX10_nextToken 45 = .ok (.iconst 3, 1) := by decide +kernel
theorem dX10_nextToken_46 : decode cX10_nextToken 46 = .ok (.putfield 71, 3) := by decide +kernel
theorem dX10_nextToken_49 : decode cX10_nextToken 49 = .ok (.goto 305, 3) := by decide +kernel
theorem dX10_nextToken_52 : decode cX10_nextToken 52 = .ok (.iload_n 1, 1) := by decide +kernel
theorem dX10_nextToken_53 : decode cX10_nextToken 53 = .ok (.bipush 97, 2) := by decide +kernel
theorem dX10_nextToken_55 : decode cX10_nextToken 55 = .ok (.bipush 122, 2) := by decide +kernel
theorem dX10_nextToken_57 : decode cX10_nextToken 57 = .ok (.invokestatic 48, 3) := by decide +kernel
theorem dX10_nextToken_60 : decode cX10_nextToken 60 = .ok (.ifCond .eq 154, 3) := by decide +kernel
theorem dX10_nextToken_63 : decode cX10_nextToken 63 = .ok (.iconst 0, 1) := by decide +kernel
theorem dX10_nextToken_64 : decode cX10_nextToken 64 = .ok (.istore_n 2, 1) := by decide +kernel
theorem dX10_nextToken_65 : decode cX10_nextToken 65 = .ok (.iconst 0, 1) := by decide +kernel
theorem dX10_nextToken_66 : decode cX10_nextToken 66 = .ok (.istore_n 3, 1) := by decide +kernel
theorem dX10_nextToken_67 : decode cX10_nextToken 67 = .ok (.aload_n 0, 1) := by decide +kernel
theorem dX10_nextToken_68 : decode cX10_nextToken 68 = .ok (.invokevirtual 61, 3) := by decide +kernel
theorem dX10_nextToken_71 : decode cX10_nextToken 71 = .ok (.bipush 97, 2) := by decide +kernel
theorem dX10_nextToken_73 : decode cX10_nextToken 73 = .ok (.bipush 122, 2) := by decide +kernel
theorem dX10_nextToken_75 : decode cX10_nextToken 75 = .ok (.invokestatic 48, 3) := by decide +kernel
theorem dX10_nextToken_78 : decode cX10_nextToken 78 = .ok (.ifCond .eq 82, 3) := by decide +kernel
theorem dX10_nextToken_81 : decode cX10_nextToken 81 = .ok (.aload_n 0, 1) := by decide +kernel
theorem dX10_nextToken_82 : decode cX10_nextToken 82 = .ok (.getfield 58, 3) := by decide +kernel
theorem dX10_nextToken_85 : decode cX10_nextToken 85 = .ok (.aload_n 0, 1) := by decide +kernel
theorem dX10_nextToken_86 : decode cX10_nextToken 86 = .ok (.getfield 65, 3) := by decide +kernel
theorem dX10_nextToken_89 : decode cX10_nextToken 89 = .ok (.isub, 1) := by decide +kernel
theorem dX10_nextToken_90 : decode cX10_nextToken 90 = .ok (.istore 4, 2) := by decide +kernel
theorem dX10_nextToken_92 : decode cX10_nextToken 92 = .ok (.iload 4, 2) := by decide +kernel
theorem dX10_nextToken_94 : decode cX10_nextToken 94 = .ok (.bipush 6, 2) := by decide +kernel
theorem dX10_nextToken_96 : decode cX10_nextToken 96 = .ok (.if_icmp .ge 18, 3) := by decide +kernel
theorem dX10_nextToken_99 : decode cX10_nextToken 99 = .ok (.bipush 27, 2) := by decide +kernel
theorem dX10_nextToken_101 : decode cX10_nextToken 101 = .ok (.iload_n 2, 1) := by decide +kernel
theorem dX10_nextToken_102 : decode cX10_nextToken 102 = .ok (.imul, 1) := by decide +kernel
theorem dX10_nextToken_103 : decode cX10_nextToken 103 = .ok (.aload_n 0, 1) := by decide +kernel
theorem dX10_nextToken_104 : decode cX10_nextToken 104 = .ok (.invokevirtual 61, 3) := by decide +kernel
theorem dX10_nextToken_107 : decode cX10_nextToken 107 = .ok (.iadd, 1) := by decide +kernel
theorem dX10_nextToken_108 : decode cX10_nextToken 108 = .ok (.bipush 96, 2) := by decide +kernel
theorem dX10_nextToken_110 : decode cX10_nextToken 110 = .ok (.isub, 1) := by decide +kernel
theorem dX10_nextToken_111 : decode cX10_nextToken 111 = .ok (.goto 4, 3) := by decide +kernel
theorem dX10_nextToken_114 : decode cX10_nextToken 114 = .ok (.iload_n 2, 1) := by decide +kernel
theorem dX10_nextToken_115 : decode cX10_nextToken 115 = .ok (.istore_n 2, 1) := by decide +kernel
theorem dX10_nextToken_116 : decode cX10_nextToken 116 = .ok (.iload 4, 2) := by decide +kernel
theorem dX10_nextToken_118 : decode cX10_nextToken 118 = .ok (.bipush 6, 2) := by decide +kernel
theorem dX10_nextToken_120 : decode cX10_nextToken 120 = .ok (.if_icmp .ne 13, 3) := by decide +kernel
theorem dX10_nextToken_123 : decode cX10_nextToken 123 = .ok (.aload_n 0, 1) := by decide +kernel
theorem dX10_nextToken_124 : decode cX10_nextToken 124 = .ok (.invokevirtual 61, 3) := by decide +kernel
theorem dX10_nextToken_127 : decode cX10_nextToken 127 = .ok (.bipush 96, 2) := by decide +kernel
theorem dX10_nextToken_129 : decode cX10_nextToken 129 = .ok (.isub, 1) := by decide +kernel
theorem dX10_nextToken_130 : decode cX10_nextToken 130 = .ok (.goto 16, 3) := by decide +kernel
theorem dX10_nextToken_133 : decode cX10_nextToken 133 = .ok (.iload 4, 2) := by decide +kernel
theorem dX10_nextToken_135 : decode cX10_nextToken 135 = .ok (.bipush 6, 2) := by decide +kernel
theorem dX10_nextToken_137 : decode cX10_nextToken 137 = .ok (.if_icmp .le 8, 3) := by decide +kernel
theorem dX10_nextToken_140 : decode cX10_nextToken 140 = .ok (.bipush 99, 2) := by decide +kernel
theorem dX10_nextToken_142 : decode cX10_nextToken 142 = .ok (.goto 4, 3) := by decide +kernel
theorem dX10_nextToken_145 : decode cX10_nextToken 145 = .ok (.iload_n 3, 1) := by decide +kernel
theorem dX10_nextToken_146 : decode cX10_nextToken 146 = .ok (.istore_n 3, 1) := by decide +kernel
theorem dX10_nextToken_147 : decode cX10_nextToken 147 = .ok (.aload_n 0, 1) := by decide +kernel
theorem dX10_nextToken_148 : decode cX10_nextToken 148 = .ok (.dup, 1) := by decide +kernel
theorem dX10_nextToken_149 : decode cX10_nextToken 149 = .ok (.getfield 58, 3) := by decide +kernel
theorem dX10_nextToken_152 : decode cX10_nextToken 152 = .ok (.iconst 1, 1) := by decide +kernel
theorem dX10_nextToken_153 : decode cX10_nextToken 153 = .ok (.iadd, 1) := by decide +kernel
theorem dX10_nextToken_154 : decode cX10_nextToken 154 = .ok (.putfield 58, 3) := by decide +kernel
theorem dX10_nextToken_157 : decode cX10_nextToken 157 = .ok (.goto (-90), 3) := by decide +kernel
theorem dX10_nextToken_160 : decode cX10_nextToken 160 = .ok (.aload_n 0, 1) := by decide +kernel
theorem dX10_nextToken_161 : decode cX10_nextToken 161 = .ok (.iload_n 2, 1) := by decide +kernel
theorem dX10_nextToken_162 : decode cX10_nextToken 162 = .ok (.ldc 74, 2) := by decide +kernel
theorem dX10_nextToken_164 : decode cX10_nextToken 164 = .ok (.if_icmp .ne 11, 3) := by decide +kernel
theorem dX10_nextToken_167 : decode cX10_nextToken 167 = .ok (.iload_n 3, 1) := by decide +kernel
theorem dX10_nextToken_168 : decode cX10_nextToken 168 = .ok (.ifCond .ne 7, 3) := by decide +kernel
theorem dX10_nextToken_171 : decode cX10_nextToken 171 = .ok (.iconst 0, 1) := by decide +kernel
theorem dX10_nextToken_172 : decode cX10_nextToken 172 = .ok (.goto 36, 3) := by decide +kernel
theorem dX10_nextToken_175 : decode cX10_nextToken 175 = .ok (.iload_n 2, 1) := by decide +kernel
theorem dX10_nextToken_176 : decode cX10_nextToken 176 = .ok (.sipush 11570, 3) := by decide +kernel
theorem dX10_nextToken_179 : decode cX10_nextToken 179 = .ok (.if_icmp .ne 11, 3) := by decide +kernel
theorem dX10_nextToken_182 : decode cX10_nextToken 182 = .ok (.iload_n 3, 1) := by decide +kernel
theorem dX10_nextToken_183 : decode cX10_nextToken 183 = .ok (.ifCond .ne 7, 3) := by decide +kernel
theorem dX10_nextToken_186 : decode cX10_nextToken 186 = .ok (.iconst 1, 1) := by decide +kernel
theorem dX10_nextToken_187 : decode cX10_nextToken 187 = .ok (.goto 21, 3) := by decide +kernel
theorem dX10_nextToken_190 : decode cX10_nextToken 190 = .ok (.iload_n 2, 1) := by decide +kernel
theorem dX10_nextToken_191 : decode cX10_nextToken 191 = .ok (.ldc 75, 2) := by decide +kernel
theorem dX10_nextToken_193 : decode cX10_nextToken 193 = .ok (.if_icmp .ne 13, 3) := by decide +kernel
theorem dX10_nextToken_196 : decode cX10_nextToken 196 = .ok (.iload_n 3, 1) := by decide +kernel
theorem dX10_nextToken_197 : decode cX10_nextToken 197 = .ok (.bipush 19, 2) := by decide +kernel
theorem dX10_nextToken_199 : decode cX10_nextToken 199 = .ok (.if_icmp .ne 7, 3) := by decide +kernel
theorem dX10_nextToken_202 : decode cX10_nextToken 202 = .ok (.iconst 2, 1) := by decide +kernel
theorem dX10_nextToken_203 : decode cX10_nextToken 203 = .ok (.goto 5, 3) := by decide +kernel
theorem dX10_nextToken_206 : decode cX10_nextToken 206 = .ok (.bipush 6, 2) := by decide +kernel
theorem dX10_nextToken_208 : decode cX10_nextToken 208 = .ok (.putfield 71, 3) := by decide +kernel
theorem dX10_nextToken_211 : decode cX10_nextToken 211 = .ok (.goto 143, 3) := by decide +kernel
theorem dX10_nextToken_214 : decode cX10_nextToken 214 = .ok (.iload_n 1, 1) := by decide +kernel
theorem dX10_nextToken_215 : decode cX10_nextToken 215 = .ok (.bipush 48, 2) := by decide +kernel
theorem dX10_nextToken_217 : decode cX10_nextToken 217 = .ok (.bipush 57, 2) := by decide +kernel
theorem dX10_nextToken_219 : decode cX10_nextToken 219 = .ok (.invokestatic 48, 3) := by decide +kernel
theorem dX10_nextToken_222 : decode cX10_nextToken 222 = .ok (.ifCond .eq 106, 3) := by decide +kernel
theorem dX10_nextToken_225 : decode cX10_nextToken 225 = .ok (.aload_n 0, 1) := by decide +kernel
theorem dX10_nextToken_226 : decode cX10_nextToken 226 = .ok (.invokevirtual 61, 3) := by decide +kernel
theorem dX10_nextToken_229 : decode cX10_nextToken 229 = .ok (.bipush 48, 2) := by decide +kernel
theorem dX10_nextToken_231 : decode cX10_nextToken 231 = .ok (.bipush 57, 2) := by decide +kernel
theorem dX10_nextToken_233 : decode cX10_nextToken 233 = .ok (.invokestatic 48, 3) := by decide +kernel
theorem dX10_nextToken_236 : decode cX10_nextToken 236 = .ok (.ifCond .eq 51, 3) := by decide +kernel
theorem dX10_nextToken_239 : decode cX10_nextToken 239 = .ok (.aload_n 0, 1) := by decide +kernel
theorem dX10_nextToken_240 : decode cX10_nextToken 240 = .ok (.aload_n 0, 1) := by decide +kernel
theorem dX10_nextToken_241 : decode cX10_nextToken 241 = .ok (.getfield 68, 3) := by decide +kernel
theorem dX10_nextToken_244 : decode cX10_nextToken 244 = .ok (.bipush 99, 2) := by decide +kernel
theorem dX10_nextToken_246 : decode cX10_nextToken 246 = .ok (.if_icmp .le 10, 3) := by decide +kernel
theorem dX10_nextToken_249 : decode cX10_nextToken 249 = .ok (.aload_n 0, 1) := by decide +kernel
theorem dX10_nextToken_250 : decode cX10_nextToken 250 = .ok (.getfield 68, 3) := by decide +kernel
theorem dX10_nextToken_253 : decode cX10_nextToken 253 = .ok (.goto 18, 3) := by decide +kernel
theorem dX10_nextToken_256 : decode cX10_nextToken 256 = .ok (.bipush 10, 2) := by decide +kernel
theorem dX10_nextToken_258 : decode cX10_nextToken 258 = .ok (.aload_n 0, 1) := by decide +kernel
theorem dX10_nextToken_259 : decode cX10_nextToken 259 = .ok (.getfield 68, 3) := by decide +kernel
theorem dX10_nextToken_262 : decode cX10_nextToken 262 = .ok (.imul, 1) := by decide +kernel
theorem dX10_nextToken_263 : decode cX10_nextToken 263 = .ok (.aload_n 0, 1) := by decide +kernel
theorem dX10_nextToken_264 : decode cX10_nextToken 264 = .ok (.invokevirtual 61, 3) := by decide +kernel
theorem dX10_nextToken_267 : decode cX10_nextToken 267 = .ok (.iadd, 1) := by decide +kernel
theorem dX10_nextToken_268 : decode cX10_nextToken 268 = .ok (.bipush 48, 2) := by decide +kernel
theorem dX10_nextToken_270 : decode cX10_nextToken 270 = .ok (.isub, 1) := by decide +kernel
theorem dX10_nextToken_271 : decode cX10_nextToken 271 = .ok (.putfield 68, 3) := by decide +kernel
theorem dX10_nextToken_274 : decode cX10_nextToken 274 = .ok (.aload_n 0, 1) := by decide +kernel
theorem dX10_nextToken_275 : decode cX10_nextToken 275 = .ok (.dup, 1) := by decide +kernel
theorem dX10_nextToken_276 : decode cX10_nextToken 276 = .ok (.getfield 58, 3) := by decide +kernel
theorem dX10_nextToken_279 : decode cX10_nextToken 279 = .ok (.iconst 1, 1) := by decide +kernel
theorem dX10_nextToken_280 : decode cX10_nextToken 280 = .ok (.iadd, 1) := by decide +kernel
theorem dX10_nextToken_281 : decode cX10_nextToken 281 = .ok (.putfield 58, 3) := by decide +kernel
theorem dX10_nextToken_284 : decode cX10_nextToken 284 = .ok (.goto (-59), 3) := by decide +kernel
theorem dX10_nextToken_287 : decode cX10_nextToken 287 = .ok (.aload_n 0, 1) := by decide +kernel
theorem dX10_nextToken_288 : decode cX10_nextToken 288 = .ok (.aload_n 0, 1) := by decide +kernel
theorem dX10_nextToken_289 : decode cX10_nextToken 289 = .ok (.getfield 68, 3) := by decide +kernel
theorem dX10_nextToken_292 : decode cX10_nextToken 292 = .ok (.bipush 99, 2) := by decide +kernel
theorem dX10_nextToken_294 : decode cX10_nextToken 294 = .ok (.if_icmp .gt 22, 3) := by decide +kernel
theorem dX10_nextToken_297 : decode cX10_nextToken 297 = .ok (.iload_n 1, 1) := by decide +kernel
theorem dX10_nextToken_298 : decode cX10_nextToken 298 = .ok (.bipush 48, 2) := by decide +kernel
theorem dX10_nextToken_300 : decode cX10_nextToken 300 = .ok (.if_icmp .ne 21, 3) := by decide +kernel
theorem dX10_nextToken_303 : decode cX10_nextToken 303 = .ok (.aload_n 0, 1) := by decide +kernel
theorem dX10_nextToken_304 : decode cX10_nextToken 304 = .ok (.getfield 58, 3) := by decide +kernel
theorem dX10_nextToken_307 : decode cX10_nextToken 307 = .ok (.aload_n 0, 1) := by decide +kernel
theorem dX10_nextToken_308 : decode cX10_nextToken 308 = .ok (.getfield 65, 3) := by decide +kernel
theorem dX10_nextToken_311 : decode cX10_nextToken 311 = .ok (.isub, 1) := by decide +kernel
theorem dX10_nextToken_312 : decode cX10_nextToken 312 = .ok (.iconst 1, 1) := by decide +kernel
theorem dX10_nextToken_313 : decode cX10_nextToken 313 = .ok (.if_icmp .le 8, 3) := by decide +kernel
theorem dX10_nextToken_316 : decode cX10_nextToken 316 = .ok (.bipush 6, 2) := by decide +kernel
theorem dX10_nextToken_318 : decode cX10_nextToken 318 = .ok (.goto 4, 3) := by decide +kernel
theorem dX10_nextToken_321 : decode cX10_nextToken 321 = .ok (.iconst 4, 1) := by decide +kernel
theorem dX10_nextToken_322 : decode cX10_nextToken 322 = .ok (.putfield 71, 3) := by decide +kernel
theorem dX10_nextToken_325 : decode cX10_nextToken 325 = .ok (.goto 29, 3) := by decide +kernel
theorem dX10_nextToken_328 : decode cX10_nextToken 328 = .ok (.aload_n 0, 1) := by decide +kernel
theorem dX10_nextToken_329 : decode cX10_nextToken 329 = .ok (.dup, 1) := by decide +kernel
theorem dX10_nextToken_330 : decode cX10_nextToken 330 = .ok (.getfield 58, 3) := by decide +kernel
theorem dX10_nextToken_333 : decode cX10_nextToken 333 = .ok (.iconst 1, 1) := by decide +kernel
theorem dX10_nextToken_334 : decode cX10_nextToken 334 = .ok (.iadd, 1) := by decide +kernel
theorem dX10_nextToken_335 : decode cX10_nextToken 335 = .ok (.putfield 58, 3) := by decide +kernel
theorem dX10_nextToken_338 : decode cX10_nextToken 338 = .ok (.aload_n 0, 1) := by decide +kernel
theorem dX10_nextToken_339 : decode cX10_nextToken 339 = .ok (.iload_n 1, 1) := by decide +kernel
theorem dX10_nextToken_340 : decode cX10_nextToken 340 = .ok (.bipush 59, 2) := by decide +kernel
theorem dX10_nextToken_342 : decode cX10_nextToken 342 = .ok (.if_icmp .ne 7, 3) := by decide +kernel
theorem dX10_nextToken_345 : decode cX10_nextToken 345 = .ok (.iconst 5, 1) := by decide +kernel
theorem dX10_nextToken_346 : decode cX10_nextToken 346 = .ok (.goto 5, 3) := by decide +kernel
theorem dX10_nextToken_349 : decode cX10_nextToken 349 = .ok (.bipush 6, 2) := by decide +kernel
theorem dX10_nextToken_351 : decode cX10_nextToken 351 = .ok (.putfield 71, 3) := by decide +kernel
theorem dX10_nextToken_354 : decode cX10_nextToken 354 = .ok (.return_, 1) := by decide +kernel
theorem dX10_due_0 : decode cX10_due 0 = .ok (.aload_n 0, 1) := by decide +kernel
theorem dX10_due_1 : decode cX10_due 1 = .ok (.getfield 68, 3) := by decide +kernel
theorem dX10_due_4 : decode cX10_due 4 = .ok (.istore_n 2, 1) := by decide +kernel
theorem dX10_due_5 : decode cX10_due 5 = .ok (.aload_n 0, 1) := by decide +kernel
theorem dX10_due_6 : decode cX10_due 6 = .ok (.getfield 76, 3) := by decide +kernel
theorem dX10_due_9 : decode cX10_due 9 = .ok (.bipush (-9), 2) := by decide +kernel
theorem dX10_due_11 : decode cX10_due 11 = .ok (.if_icmp .ne 22, 3) := by decide +kernel
theorem dX10_due_14 : decode cX10_due 14 = .ok (.iload_n 1, 1) := by decide +kernel
theorem dX10_due_15 : decode cX10_due 15 = .ok (.ifCond .eq 10, 3) := by decide +kernel
theorem dX10_due_18 : decode cX10_due 18 = .ok (.aload_n 0, 1) := by decide +kernel
theorem dX10_due_19 : decode cX10_due 19 = .ok (.invokevirtual 79, 3) := by decide +kernel
theorem dX10_due_22 : decode cX10_due 22 = .ok (.goto 11, 3) := by decide +kernel
theorem dX10_due_25 : decode cX10_due 25 = .ok (.aload_n 0, 1) := by decide +kernel
theorem dX10_due_26 : decode cX10_due 26 = .ok (.aload_n 0, 1) := by decide +kernel
theorem dX10_due_27 : decode cX10_due 27 = .ok (.getfield 65, 3) := by decide +kernel
theorem dX10_due_30 : decode cX10_due 30 = .ok (.putfield 76, 3) := by decide +kernel
theorem dX10_due_33 : decode cX10_due 33 = .ok (.iload_n 2, 1) := by decide +kernel
theorem dX10_due_34 : decode cX10_due 34 = .ok (.ireturn, 1) := by decide +kernel
theorem dX10_number_0 : decode cX10_number 0 = .ok (.aload_n 0, 1) := by decide +kernel
theorem dX10_number_1 : decode cX10_number 1 = .ok (.aload_n 0, 1) := by decide +kernel
theorem dX10_number_2 : decode cX10_number 2 = .ok (.getfield 71, 3) := by decide +kernel
theorem dX10_number_5 : decode cX10_number 5 = .ok (.iconst 4, 1) := by decide +kernel
theorem dX10_number_6 : decode cX10_number 6 = .ok (.if_icmp .ne 19, 3) := by decide +kernel
theorem dX10_number_9 : decode cX10_number 9 = .ok (.aload_n 0, 1) := by decide +kernel
theorem dX10_number_10 : decode cX10_number 10 = .ok (.getfield 68, 3) := by decide +kernel
theorem dX10_number_13 : decode cX10_number 13 = .ok (.iload_n 1, 1) := by decide +kernel
theorem dX10_number_14 : decode cX10_number 14 = .ok (.iload_n 2, 1) := by decide +kernel
theorem dX10_number_15 : decode cX10_number 15 = .ok (.invokestatic 48, 3) := by decide +kernel
theorem dX10_number_18 : decode cX10_number 18 = .ok (.ifCond .eq 7, 3) := by decide +kernel
theorem dX10_number_21 : decode cX10_number 21 = .ok (.iconst 1, 1) := by decide +kernel
theorem dX10_number_22 : decode cX10_number 22 = .ok (.goto 4, 3) := by decide +kernel
theorem dX10_number_25 : decode cX10_number 25 = .ok (.iconst 0, 1) := by decide +kernel
theorem dX10_number_26 : decode cX10_number 26 = .ok (.invokevirtual 82, 3) := by decide +kernel
theorem dX10_number_29 : decode cX10_number 29 = .ok (.ireturn, 1) := by decide +kernel
theorem dX10_readItem_0 : decode cX10_readItem 0 = .ok (.aload_n 0, 1) := by decide +kernel
theorem dX10_readItem_1 : decode cX10_readItem 1 = .ok (.getfield 71, 3) := by decide +kernel
theorem dX10_readItem_4 : decode cX10_readItem 4 = .ok (.istore_n 1, 1) := by decide +kernel
theorem dX10_readItem_5 : decode cX10_readItem 5 = .ok (.aload_n 0, 1) := by decide +kernel
theorem dX10_readItem_6 : decode cX10_readItem 6 = .ok (.iload_n 1, 1) := by decide +kernel
theorem dX10_readItem_7 : decode cX10_readItem 7 = .ok (.ifCond .ne 13, 3) := by decide +kernel
theorem dX10_readItem_10 : decode cX10_readItem 10 = .ok (.aload_n 0, 1) := by decide +kernel
theorem dX10_readItem_11 : decode cX10_readItem 11 = .ok (.getfield 13, 3) := by decide +kernel
theorem dX10_readItem_14 : decode cX10_readItem 14 = .ok (.iconst 1, 1) := by decide +kernel
theorem dX10_readItem_15 : decode cX10_readItem 15 = .ok (.iaload, 1) := by decide +kernel
theorem dX10_readItem_16 : decode cX10_readItem 16 = .ok (.iconst 3, 1) := by decide +kernel
theorem dX10_readItem_17 : decode cX10_readItem 17 = .ok (.if_icmp .lt 23, 3) := by decide +kernel
theorem dX10_readItem_20 : decode cX10_readItem 20 = .ok (.iload_n 1, 1) := by decide +kernel
theorem dX10_readItem_21 : decode cX10_readItem 21 = .ok (.iconst 1, 1) := by decide +kernel
theorem dX10_readItem_22 : decode cX10_readItem 22 = .ok (.iconst 2, 1) := by decide +kernel
theorem dX10_readItem_23 : decode cX10_readItem 23 = .ok (.invokestatic 48, 3) := by decide +kernel
theorem dX10_readItem_26 : decode cX10_readItem 26 = .ok (.ifCond .eq 18, 3) := by decide +kernel
theorem dX10_readItem_29 : decode cX10_readItem 29 = .ok (.aload_n 0, 1) := by decide +kernel
theorem dX10_readItem_30 : decode cX10_readItem 30 = .ok (.getfield 86, 3) := by decide +kernel
theorem dX10_readItem_33 : decode cX10_readItem 33 = .ok (.iload_n 1, 1) := by decide +kernel
theorem dX10_readItem_34 : decode cX10_readItem 34 = .ok (.ishr, 1) := by decide +kernel
theorem dX10_readItem_35 : decode cX10_readItem 35 = .ok (.iconst 1, 1) := by decide +kernel
theorem dX10_readItem_36 : decode cX10_readItem 36 = .ok (.iand, 1) := by decide +kernel
theorem dX10_readItem_37 : decode cX10_readItem 37 = .ok (.ifCond .ne 7, 3) := by decide +kernel
theorem dX10_readItem_40 : decode cX10_readItem 40 = .ok (.iconst 1, 1) := by decide +kernel
theorem dX10_readItem_41 : decode cX10_readItem 41 = .ok (.goto 4, 3) := by decide +kernel
theorem dX10_readItem_44 : decode cX10_readItem 44 = .ok (.iconst 0, 1) := by decide +kernel
theorem dX10_readItem_45 : decode cX10_readItem 45 = .ok (.invokevirtual 82, 3) := by decide +kernel
theorem dX10_readItem_48 : decode cX10_readItem 48 = .ok (.pop, 1) := by decide +kernel
theorem dX10_readItem_49 : decode cX10_readItem 49 = .ok (.aload_n 0, 1) := by decide +kernel
theorem dX10_readItem_50 : decode cX10_readItem 50 = .ok (.getfield 76, 3) := by decide +kernel
theorem dX10_readItem_53 : decode cX10_readItem 53 = .ok (.bipush (-9), 2) := by decide +kernel
theorem dX10_readItem_55 : decode cX10_readItem 55 = .ok (.if_icmp .eq 4, 3) := by decide +kernel
theorem dX10_readItem_58 : decode cX10_readItem 58 = .ok (.return_, 1) := by decide +kernel
theorem dX10_readItem_59 : decode cX10_readItem 59 = .ok (.aload_n 0, 1) := by decide +kernel
theorem dX10_readItem_60 : decode cX10_readItem 60 = .ok (.dup, 1) := by decide +kernel
theorem dX10_readItem_61 : decode cX10_readItem 61 = .ok (.getfield 86, 3) := by decide +kernel
theorem dX10_readItem_64 : decode cX10_readItem 64 = .ok (.iconst 1, 1) := by decide +kernel
theorem dX10_readItem_65 : decode cX10_readItem 65 = .ok (.iload_n 1, 1) := by decide +kernel
theorem dX10_readItem_66 : decode cX10_readItem 66 = .ok (.ishl, 1) := by decide +kernel
theorem dX10_readItem_67 : decode cX10_readItem 67 = .ok (.ior, 1) := by decide +kernel
theorem dX10_readItem_68 : decode cX10_readItem 68 = .ok (.putfield 86, 3) := by decide +kernel
theorem dX10_readItem_71 : decode cX10_readItem 71 = .ok (.iload_n 1, 1) := by decide +kernel
theorem dX10_readItem_72 : decode cX10_readItem 72 = .ok (.ifCond .ne 36, 3) := by decide +kernel
theorem dX10_readItem_75 : decode cX10_readItem 75 = .ok (.aload_n 0, 1) := by decide +kernel
theorem dX10_readItem_76 : decode cX10_readItem 76 = .ok (.getfield 17, 3) := by decide +kernel
theorem dX10_readItem_79 : decode cX10_readItem 79 = .ok (.iconst 4, 1) := by decide +kernel
theorem dX10_readItem_80 : decode cX10_readItem 80 = .ok (.aload_n 0, 1) := by decide +kernel
theorem dX10_readItem_81 : decode cX10_readItem 81 = .ok (.getfield 13, 3) := by decide +kernel
theorem dX10_readItem_84 : decode cX10_readItem 84 = .ok (.iconst 1, 1) := by decide +kernel
theorem dX10_readItem_85 : decode cX10_readItem 85 = .ok (.iaload, 1) := by decide +kernel
theorem dX10_readItem_86 : decode cX10_readItem 86 = .ok (.iadd, 1) := by decide +kernel
theorem dX10_readItem_87 : decode cX10_readItem 87 = .ok (.aload_n 0, 1) := by decide +kernel
theorem dX10_readItem_88 : decode cX10_readItem 88 = .ok (.iconst 1, 1) := by decide +kernel
theorem dX10_readItem_89 : decode cX10_readItem 89 = .ok (.bipush 9, 2) := by decide +kernel
theorem dX10_readItem_91 : decode cX10_readItem 91 = .ok (.invokevirtual 89, 3) := by decide +kernel
theorem dX10_readItem_94 : decode cX10_readItem 94 = .ok (.iastore, 1) := by decide +kernel
theorem dX10_readItem_95 : decode cX10_readItem 95 = .ok (.aload_n 0, 1) := by decide +kernel
theorem dX10_readItem_96 : decode cX10_readItem 96 = .ok (.getfield 13, 3) := by decide +kernel
theorem dX10_readItem_99 : decode cX10_readItem 99 = .ok (.iconst 1, 1) := by decide +kernel
theorem dX10_readItem_100 : decode cX10_readItem 100 = .ok (.dup2, 1) := by decide +kernel
theorem dX10_readItem_101 : decode cX10_readItem 101 = .ok (.iaload, 1) := by decide +kernel
theorem dX10_readItem_102 : decode cX10_readItem 102 = .ok (.iconst 1, 1) := by decide +kernel
theorem dX10_readItem_103 : decode cX10_readItem 103 = .ok (.iadd, 1) := by decide +kernel
theorem dX10_readItem_104 : decode cX10_readItem 104 = .ok (.iastore, 1) := by decide +kernel
theorem dX10_readItem_105 : decode cX10_readItem 105 = .ok (.goto 38, 3) := by decide +kernel
theorem dX10_readItem_108 : decode cX10_readItem 108 = .ok (.iload_n 1, 1) := by decide +kernel
theorem dX10_readItem_109 : decode cX10_readItem 109 = .ok (.iconst 1, 1) := by decide +kernel
theorem dX10_readItem_110 : decode cX10_readItem 110 = .ok (.if_icmp .ne 20, 3) := by decide +kernel
theorem dX10_readItem_113 : decode cX10_readItem 113 = .ok (.aload_n 0, 1) := by decide +kernel
theorem dX10_readItem_114 : decode cX10_readItem 114 = .ok (.getfield 17, 3) := by decide +kernel
theorem dX10_readItem_117 : decode cX10_readItem 117 = .ok (.bipush 7, 2) := by decide +kernel
theorem dX10_readItem_119 : decode cX10_readItem 119 = .ok (.aload_n 0, 1) := by decide +kernel
theorem dX10_readItem_120 : decode cX10_readItem 120 = .ok (.iconst 0, 1) := by decide +kernel
theorem dX10_readItem_121 : decode cX10_readItem 121 = .ok (.bipush 9, 2) := by decide +kernel
theorem dX10_readItem_123 : decode cX10_readItem 123 = .ok (.invokevirtual 89, 3) := by decide +kernel
theorem dX10_readItem_126 : decode cX10_readItem 126 = .ok (.iastore, 1) := by decide +kernel
theorem dX10_readItem_127 : decode cX10_readItem 127 = .ok (.goto 16, 3) := by decide +kernel
theorem dX10_readItem_130 : decode cX10_readItem 130 = .ok (.aload_n 0, 1) := by decide +kernel
theorem dX10_readItem_131 : decode cX10_readItem 131 = .ok (.getfield 20, 3) := by decide +kernel
theorem dX10_readItem_134 : decode cX10_readItem 134 = .ok (.iconst 1, 1) := by decide +kernel
theorem dX10_readItem_135 : decode cX10_readItem 135 = .ok (.aload_n 0, 1) := by decide +kernel
theorem dX10_readItem_136 : decode cX10_readItem 136 = .ok (.iconst 2, 1) := by decide +kernel
theorem dX10_readItem_137 : decode cX10_readItem 137 = .ok (.bipush 20, 2) := by decide +kernel
theorem dX10_readItem_139 : decode cX10_readItem 139 = .ok (.invokevirtual 89, 3) := by decide +kernel
theorem dX10_readItem_142 : decode cX10_readItem 142 = .ok (.iastore, 1) := by decide +kernel
theorem dX10_readItem_143 : decode cX10_readItem 143 = .ok (.aload_n 0, 1) := by decide +kernel
theorem dX10_readItem_144 : decode cX10_readItem 144 = .ok (.aload_n 0, 1) := by decide +kernel
theorem dX10_readItem_145 : decode cX10_readItem 145 = .ok (.getfield 71, 3) := by decide +kernel
theorem dX10_readItem_148 : decode cX10_readItem 148 = .ok (.iconst 5, 1) := by decide +kernel
theorem dX10_readItem_149 : decode cX10_readItem 149 = .ok (.if_icmp .ne 7, 3) := by decide +kernel
theorem dX10_readItem_152 : decode cX10_readItem 152 = .ok (.iconst 1, 1) := by decide +kernel
theorem dX10_readItem_153 : decode cX10_readItem 153 = .ok (.goto 4, 3) := by decide +kernel
theorem dX10_readItem_156 : decode cX10_readItem 156 = .ok (.iconst 0, 1) := by decide +kernel
theorem dX10_readItem_157 : decode cX10_readItem 157 = .ok (.invokevirtual 82, 3) := by decide +kernel
theorem dX10_readItem_160 : decode cX10_readItem 160 = .ok (.pop, 1) := by decide +kernel
theorem dX10_readItem_161 : decode cX10_readItem 161 = .ok (.return_, 1) := by decide +kernel
theorem dX10_market_0 : decode cX10_market 0 = .ok (.aload_n 0, 1) := by decide +kernel
theorem dX10_market_1 : decode cX10_market 1 = .ok (.iconst 0, 1) := by decide +kernel
theorem dX10_market_2 : decode cX10_market 2 = .ok (.putfield 58, 3) := by decide +kernel
theorem dX10_market_5 : decode cX10_market 5 = .ok (.aload_n 0, 1) := by decide +kernel
theorem dX10_market_6 : decode cX10_market 6 = .ok (.bipush (-9), 2) := by decide +kernel
theorem dX10_market_8 : decode cX10_market 8 = .ok (.putfield 76, 3) := by decide +kernel
theorem dX10_market_11 : decode cX10_market 11 = .ok (.aload_n 0, 1) := by decide +kernel
theorem dX10_market_12 : decode cX10_market 12 = .ok (.iconst 0, 1) := by decide +kernel
theorem dX10_market_13 : decode cX10_market 13 = .ok (.putfield 86, 3) := by decide +kernel
theorem dX10_market_16 : decode cX10_market 16 = .ok (.aload_n 0, 1) := by decide +kernel
theorem dX10_market_17 : decode cX10_market 17 = .ok (.getfield 13, 3) := by decide +kernel
theorem dX10_market_20 : decode cX10_market 20 = .ok (.iconst 1, 1) := by decide +kernel
theorem dX10_market_21 : decode cX10_market 21 = .ok (.iconst 0, 1) := by decide +kernel
theorem dX10_market_22 : decode cX10_market 22 = .ok (.iastore, 1) := by decide +kernel
theorem dX10_market_23 : decode cX10_market 23 = .ok (.aload_n 0, 1) := by decide +kernel
theorem dX10_market_24 : decode cX10_market 24 = .ok (.getfield 17, 3) := by decide +kernel
theorem dX10_market_27 : decode cX10_market 27 = .ok (.bipush 7, 2) := by decide +kernel
theorem dX10_market_29 : decode cX10_market 29 = .ok (.iconst 0, 1) := by decide +kernel
theorem dX10_market_30 : decode cX10_market 30 = .ok (.iastore, 1) := by decide +kernel
theorem dX10_market_31 : decode cX10_market 31 = .ok (.aload_n 0, 1) := by decide +kernel
theorem dX10_market_32 : decode cX10_market 32 = .ok (.getfield 20, 3) := by decide +kernel
theorem dX10_market_35 : decode cX10_market 35 = .ok (.iconst 1, 1) := by decide +kernel
theorem dX10_market_36 : decode cX10_market 36 = .ok (.bipush 10, 2) := by decide +kernel
theorem dX10_market_38 : decode cX10_market 38 = .ok (.iastore, 1) := by decide +kernel
theorem dX10_market_39 : decode cX10_market 39 = .ok (.iconst 0, 1) := by decide +kernel
theorem dX10_market_40 : decode cX10_market 40 = .ok (.istore_n 1, 1) := by decide +kernel
theorem dX10_market_41 : decode cX10_market 41 = .ok (.aload_n 0, 1) := by decide +kernel
theorem dX10_market_42 : decode cX10_market 42 = .ok (.invokevirtual 79, 3) := by decide +kernel
theorem dX10_market_45 : decode cX10_market 45 = .ok (.aload_n 0, 1) := by decide +kernel
theorem dX10_market_46 : decode cX10_market 46 = .ok (.getfield 76, 3) := by decide +kernel
theorem dX10_market_49 : decode cX10_market 49 = .ok (.bipush (-9), 2) := by decide +kernel
theorem dX10_market_51 : decode cX10_market 51 = .ok (.if_icmp .ne 21, 3) := by decide +kernel
theorem dX10_market_54 : decode cX10_market 54 = .ok (.aload_n 0, 1) := by decide +kernel
theorem dX10_market_55 : decode cX10_market 55 = .ok (.getfield 71, 3) := by decide +kernel
theorem dX10_market_58 : decode cX10_market 58 = .ok (.iconst 3, 1) := by decide +kernel
theorem dX10_market_59 : decode cX10_market 59 = .ok (.if_icmp .eq 13, 3) := by decide +kernel
theorem dX10_market_62 : decode cX10_market 62 = .ok (.aload_n 0, 1) := by decide +kernel
theorem dX10_market_63 : decode cX10_market 63 = .ok (.invokevirtual 93, 3) := by decide +kernel
theorem dX10_market_66 : decode cX10_market 66 = .ok (.iinc 1 1, 3) := by decide +kernel
theorem dX10_market_69 : decode cX10_market 69 = .ok (.goto (-24), 3) := by decide +kernel
theorem dX10_market_72 : decode cX10_market 72 = .ok (.aload_n 0, 1) := by decide +kernel
theorem dX10_market_73 : decode cX10_market 73 = .ok (.getfield 76, 3) := by decide +kernel
theorem dX10_market_76 : decode cX10_market 76 = .ok (.bipush (-9), 2) := by decide +kernel
theorem dX10_market_78 : decode cX10_market 78 = .ok (.if_icmp .eq 11, 3) := by decide +kernel
theorem dX10_market_81 : decode cX10_market 81 = .ok (.bipush (-10), 2) := by decide +kernel
theorem dX10_market_83 : decode cX10_market 83 = .ok (.aload_n 0, 1) := by decide +kernel
theorem dX10_market_84 : decode cX10_market 84 = .ok (.getfield 76, 3) := by decide +kernel
theorem dX10_market_87 : decode cX10_market 87 = .ok (.isub, 1) := by decide +kernel
theorem dX10_market_88 : decode cX10_market 88 = .ok (.ireturn, 1) := by decide +kernel
theorem dX10_market_89 : decode cX10_market 89 = .ok (.aload_n 0, 1) := by decide +kernel
theorem dX10_market_90 : decode cX10_market 90 = .ok (.getfield 13, 3) := by decide +kernel
theorem dX10_market_93 : decode cX10_market 93 = .ok (.iconst 0, 1) := by decide +kernel
theorem dX10_market_94 : decode cX10_market 94 = .ok (.aload_n 0, 1) := by decide +kernel
theorem dX10_market_95 : decode cX10_market 95 = .ok (.getfield 13, 3) := by decide +kernel
theorem dX10_market_98 : decode cX10_market 98 = .ok (.iconst 1, 1) := by decide +kernel
theorem dX10_market_99 : decode cX10_market 99 = .ok (.iaload, 1) := by decide +kernel
theorem dX10_market_100 : decode cX10_market 100 = .ok (.iastore, 1) := by decide +kernel
theorem dX10_market_101 : decode cX10_market 101 = .ok (.aload_n 0, 1) := by decide +kernel
theorem dX10_market_102 : decode cX10_market 102 = .ok (.getfield 20, 3) := by decide +kernel
theorem dX10_market_105 : decode cX10_market 105 = .ok (.iconst 0, 1) := by decide +kernel
theorem dX10_market_106 : decode cX10_market 106 = .ok (.aload_n 0, 1) := by decide +kernel
theorem dX10_market_107 : decode cX10_market 107 = .ok (.getfield 20, 3) := by decide +kernel
theorem dX10_market_110 : decode cX10_market 110 = .ok (.iconst 1, 1) := by decide +kernel
theorem dX10_market_111 : decode cX10_market 111 = .ok (.iaload, 1) := by decide +kernel
theorem dX10_market_112 : decode cX10_market 112 = .ok (.iastore, 1) := by decide +kernel
theorem dX10_market_113 : decode cX10_market 113 = .ok (.iconst 0, 1) := by decide +kernel
theorem dX10_market_114 : decode cX10_market 114 = .ok (.istore_n 2, 1) := by decide +kernel
theorem dX10_market_115 : decode cX10_market 115 = .ok (.iload_n 2, 1) := by decide +kernel
theorem dX10_market_116 : decode cX10_market 116 = .ok (.iconst 4, 1) := by decide +kernel
theorem dX10_market_117 : decode cX10_market 117 = .ok (.if_icmp .ge 23, 3) := by decide +kernel
theorem dX10_market_120 : decode cX10_market 120 = .ok (.aload_n 0, 1) := by decide +kernel
theorem dX10_market_121 : decode cX10_market 121 = .ok (.getfield 17, 3) := by decide +kernel
theorem dX10_market_124 : decode cX10_market 124 = .ok (.iload_n 2, 1) := by decide +kernel
theorem dX10_market_125 : decode cX10_market 125 = .ok (.aload_n 0, 1) := by decide +kernel
theorem dX10_market_126 : decode cX10_market 126 = .ok (.getfield 17, 3) := by decide +kernel
theorem dX10_market_129 : decode cX10_market 129 = .ok (.iconst 4, 1) := by decide +kernel
theorem dX10_market_130 : decode cX10_market 130 = .ok (.iload_n 2, 1) := by decide +kernel
theorem dX10_market_131 : decode cX10_market 131 = .ok (.iadd, 1) := by decide +kernel
theorem dX10_market_132 : decode cX10_market 132 = .ok (.iaload, 1) := by decide +kernel
theorem dX10_market_133 : decode cX10_market 133 = .ok (.iastore, 1) := by decide +kernel
theorem dX10_market_134 : decode cX10_market 134 = .ok (.iinc 2 1, 3) := by decide +kernel
theorem dX10_market_137 : decode cX10_market 137 = .ok (.goto (-22), 3) := by decide +kernel
theorem dX10_market_140 : decode cX10_market 140 = .ok (.aload_n 0, 1) := by decide +kernel
theorem dX10_market_141 : decode cX10_market 141 = .ok (.getfield 23, 3) := by decide +kernel
theorem dX10_market_144 : decode cX10_market 144 = .ok (.iconst 0, 1) := by decide +kernel
theorem dX10_market_145 : decode cX10_market 145 = .ok (.iconst 0, 1) := by decide +kernel
theorem dX10_market_146 : decode cX10_market 146 = .ok (.iastore, 1) := by decide +kernel
theorem dX10_market_147 : decode cX10_market 147 = .ok (.aload_n 0, 1) := by decide +kernel
theorem dX10_market_148 : decode cX10_market 148 = .ok (.getfield 29, 3) := by decide +kernel
theorem dX10_market_151 : decode cX10_market 151 = .ok (.iconst 0, 1) := by decide +kernel
theorem dX10_market_152 : decode cX10_market 152 = .ok (.iconst 0, 1) := by decide +kernel
theorem dX10_market_153 : decode cX10_market 153 = .ok (.bastore, 1) := by decide +kernel
theorem dX10_market_154 : decode cX10_market 154 = .ok (.aload_n 0, 1) := by decide +kernel
theorem dX10_market_155 : decode cX10_market 155 = .ok (.getfield 29, 3) := by decide +kernel
theorem dX10_market_158 : decode cX10_market 158 = .ok (.iconst 1, 1) := by decide +kernel
theorem dX10_market_159 : decode cX10_market 159 = .ok (.iconst 0, 1) := by decide +kernel
theorem dX10_market_160 : decode cX10_market 160 = .ok (.bastore, 1) := by decide +kernel
theorem dX10_market_161 : decode cX10_market 161 = .ok (.aload_n 0, 1) := by decide +kernel
theorem dX10_market_162 : decode cX10_market 162 = .ok (.iconst 0, 1) := by decide +kernel
theorem dX10_market_163 : decode cX10_market 163 = .ok (.putfield 52, 3) := by decide +kernel
theorem dX10_market_166 : decode cX10_market 166 = .ok (.iload_n 1, 1) := by decide +kernel
theorem dX10_market_167 : decode cX10_market 167 = .ok (.ireturn, 1) := by decide +kernel
theorem dX10_isThing_0 : decode cX10_isThing 0 = .ok (.iload_n 1, 1) := by decide +kernel
theorem dX10_isThing_1 : decode cX10_isThing 1 = .ok (.iconst 0, 1) := by decide +kernel
theorem dX10_isThing_2 : decode cX10_isThing 2 = .ok (.aload_n 0, 1) := by decide +kernel
theorem dX10_isThing_3 : decode cX10_isThing 3 = .ok (.getfield 13, 3) := by decide +kernel
theorem dX10_isThing_6 : decode cX10_isThing 6 = .ok (.iconst 0, 1) := by decide +kernel
theorem dX10_isThing_7 : decode cX10_isThing 7 = .ok (.iaload, 1) := by decide +kernel
theorem dX10_isThing_8 : decode cX10_isThing 8 = .ok (.iconst 1, 1) := by decide +kernel
theorem dX10_isThing_9 : decode cX10_isThing 9 = .ok (.isub, 1) := by decide +kernel
theorem dX10_isThing_10 : decode cX10_isThing 10 = .ok (.invokestatic 48, 3) := by decide +kernel
theorem dX10_isThing_13 : decode cX10_isThing 13 = .ok (.ireturn, 1) := by decide +kernel
theorem dX10_thing_0 : decode cX10_thing 0 = .ok (.aload_n 0, 1) := by decide +kernel
theorem dX10_thing_1 : decode cX10_thing 1 = .ok (.iload_n 1, 1) := by decide +kernel
theorem dX10_thing_2 : decode cX10_thing 2 = .ok (.invokevirtual 96, 3) := by decide +kernel
theorem dX10_thing_5 : decode cX10_thing 5 = .ok (.ifCond .ne 8, 3) := by decide +kernel
theorem dX10_thing_8 : decode cX10_thing 8 = .ok (.iload_n 1, 1) := by decide +kernel
theorem dX10_thing_9 : decode cX10_thing 9 = .ok (.iconst 3, 1) := by decide +kernel
theorem dX10_thing_10 : decode cX10_thing 10 = .ok (.if_icmp .ne 12, 3) := by decide +kernel
theorem dX10_thing_13 : decode cX10_thing 13 = .ok (.aload_n 0, 1) := by decide +kernel
theorem dX10_thing_14 : decode cX10_thing 14 = .ok (.getfield 17, 3) := by decide +kernel
theorem dX10_thing_17 : decode cX10_thing 17 = .ok (.iload_n 1, 1) := by decide +kernel
theorem dX10_thing_18 : decode cX10_thing 18 = .ok (.iaload, 1) := by decide +kernel
theorem dX10_thing_19 : decode cX10_thing 19 = .ok (.goto 4, 3) := by decide +kernel
theorem dX10_thing_22 : decode cX10_thing 22 = .ok (.iconst (-1), 1) := by decide +kernel
theorem dX10_thing_23 : decode cX10_thing 23 = .ok (.ireturn, 1) := by decide +kernel
theorem dX10_isSet_0 : decode cX10_isSet 0 = .ok (.iload_n 1, 1) := by decide +kernel
theorem dX10_isSet_1 : decode cX10_isSet 1 = .ok (.iconst 0, 1) := by decide +kernel
theorem dX10_isSet_2 : decode cX10_isSet 2 = .ok (.iconst 1, 1) := by decide +kernel
theorem dX10_isSet_3 : decode cX10_isSet 3 = .ok (.aload_n 0, 1) := by decide +kernel
theorem dX10_isSet_4 : decode cX10_isSet 4 = .ok (.getfield 13, 3) := by decide +kernel
theorem dX10_isSet_7 : decode cX10_isSet 7 = .ok (.iconst 0, 1) := by decide +kernel
theorem dX10_isSet_8 : decode cX10_isSet 8 = .ok (.iaload, 1) := by decide +kernel
theorem dX10_isSet_9 : decode cX10_isSet 9 = .ok (.ishl, 1) := by decide +kernel
theorem dX10_isSet_10 : decode cX10_isSet 10 = .ok (.iconst 1, 1) := by decide +kernel
theorem dX10_isSet_11 : decode cX10_isSet 11 = .ok (.isub, 1) := by decide +kernel
theorem dX10_isSet_12 : decode cX10_isSet 12 = .ok (.invokestatic 48, 3) := by decide +kernel
theorem dX10_isSet_15 : decode cX10_isSet 15 = .ok (.ireturn, 1) := by decide +kernel
theorem dX10_trueSum_0 : decode cX10_trueSum 0 = .ok (.aload_n 0, 1) := by decide +kernel
theorem dX10_trueSum_1 : decode cX10_trueSum 1 = .ok (.getfield 17, 3) := by decide +kernel
theorem dX10_trueSum_4 : decode cX10_trueSum 4 = .ok (.iconst 3, 1) := by decide +kernel
theorem dX10_trueSum_5 : decode cX10_trueSum 5 = .ok (.iaload, 1) := by decide +kernel
theorem dX10_trueSum_6 : decode cX10_trueSum 6 = .ok (.istore_n 2, 1) := by decide +kernel
theorem dX10_trueSum_7 : decode cX10_trueSum 7 = .ok (.iconst 0, 1) := by decide +kernel
theorem dX10_trueSum_8 : decode cX10_trueSum 8 = .ok (.istore_n 3, 1) := by decide +kernel
theorem dX10_trueSum_9 : decode cX10_trueSum 9 = .ok (.iload_n 3, 1) := by decide +kernel
theorem dX10_trueSum_10 : decode cX10_trueSum 10 = .ok (.aload_n 0, 1) := by decide +kernel
theorem dX10_trueSum_11 : decode cX10_trueSum 11 = .ok (.getfield 13, 3) := by decide +kernel
theorem dX10_trueSum_14 : decode cX10_trueSum 14 = .ok (.iconst 0, 1) := by decide +kernel
theorem dX10_trueSum_15 : decode cX10_trueSum 15 = .ok (.iaload, 1) := by decide +kernel
theorem dX10_trueSum_16 : decode cX10_trueSum 16 = .ok (.if_icmp .ge 31, 3) := by decide +kernel
theorem dX10_trueSum_19 : decode cX10_trueSum 19 = .ok (.iload_n 2, 1) := by decide +kernel
theorem dX10_trueSum_20 : decode cX10_trueSum 20 = .ok (.iload_n 1, 1) := by decide +kernel
theorem dX10_trueSum_21 : decode cX10_trueSum 21 = .ok (.iload_n 3, 1) := by decide +kernel
theorem dX10_trueSum_22 : decode cX10_trueSum 22 = .ok (.ishr, 1) := by decide +kernel
theorem dX10_trueSum_23 : decode cX10_trueSum 23 = .ok (.iconst 1, 1) := by decide +kernel
theorem dX10_trueSum_24 : decode cX10_trueSum 24 = .ok (.iand, 1) := by decide +kernel
theorem dX10_trueSum_25 : decode cX10_trueSum 25 = .ok (.iconst 1, 1) := by decide +kernel
theorem dX10_trueSum_26 : decode cX10_trueSum 26 = .ok (.if_icmp .ne 12, 3) := by decide +kernel
theorem dX10_trueSum_29 : decode cX10_trueSum 29 = .ok (.aload_n 0, 1) := by decide +kernel
theorem dX10_trueSum_30 : decode cX10_trueSum 30 = .ok (.getfield 17, 3) := by decide +kernel
theorem dX10_trueSum_33 : decode cX10_trueSum 33 = .ok (.iload_n 3, 1) := by decide +kernel
theorem dX10_trueSum_34 : decode cX10_trueSum 34 = .ok (.iaload, 1) := by decide +kernel
theorem dX10_trueSum_35 : decode cX10_trueSum 35 = .ok (.goto 4, 3) := by decide +kernel
theorem dX10_trueSum_38 : decode cX10_trueSum 38 = .ok (.iconst 0, 1) := by decide +kernel
theorem dX10_trueSum_39 : decode cX10_trueSum 39 = .ok (.iadd, 1) := by decide +kernel
theorem dX10_trueSum_40 : decode cX10_trueSum 40 = .ok (.istore_n 2, 1) := by decide +kernel
theorem dX10_trueSum_41 : decode cX10_trueSum 41 = .ok (.iinc 3 1, 3) := by decide +kernel
theorem dX10_trueSum_44 : decode cX10_trueSum 44 = .ok (.goto (-35), 3) := by decide +kernel
theorem dX10_trueSum_47 : decode cX10_trueSum 47 = .ok (.iload_n 2, 1) := by decide +kernel
theorem dX10_trueSum_48 : decode cX10_trueSum 48 = .ok (.ireturn, 1) := by decide +kernel
theorem dX10_put_0 : decode cX10_put 0 = .ok (.aload_n 0, 1) := by decide +kernel
theorem dX10_put_1 : decode cX10_put 1 = .ok (.getfield 26, 3) := by decide +kernel
theorem dX10_put_4 : decode cX10_put 4 = .ok (.iconst 3, 1) := by decide +kernel
theorem dX10_put_5 : decode cX10_put 5 = .ok (.aload_n 0, 1) := by decide +kernel
theorem dX10_put_6 : decode cX10_put 6 = .ok (.getfield 23, 3) := by decide +kernel
theorem dX10_put_9 : decode cX10_put 9 = .ok (.iconst 0, 1) := by decide +kernel
theorem dX10_put_10 : decode cX10_put 10 = .ok (.iaload, 1) := by decide +kernel
theorem dX10_put_11 : decode cX10_put 11 = .ok (.imul, 1) := by decide +kernel
theorem dX10_put_12 : decode cX10_put 12 = .ok (.iload_n 1, 1) := by decide +kernel
theorem dX10_put_13 : decode cX10_put 13 = .ok (.iastore, 1) := by decide +kernel
theorem dX10_put_14 : decode cX10_put 14 = .ok (.aload_n 0, 1) := by decide +kernel
theorem dX10_put_15 : decode cX10_put 15 = .ok (.getfield 26, 3) := by decide +kernel
theorem dX10_put_18 : decode cX10_put 18 = .ok (.iconst 3, 1) := by decide +kernel
theorem dX10_put_19 : decode cX10_put 19 = .ok (.aload_n 0, 1) := by decide +kernel
theorem dX10_put_20 : decode cX10_put 20 = .ok (.getfield 23, 3) := by decide +kernel
theorem dX10_put_23 : decode cX10_put 23 = .ok (.iconst 0, 1) := by decide +kernel
theorem dX10_put_24 : decode cX10_put 24 = .ok (.iaload, 1) := by decide +kernel
theorem dX10_put_25 : decode cX10_put 25 = .ok (.imul, 1) := by decide +kernel
theorem dX10_put_26 : decode cX10_put 26 = .ok (.iconst 1, 1) := by decide +kernel
theorem dX10_put_27 : decode cX10_put 27 = .ok (.iadd, 1) := by decide +kernel
theorem dX10_put_28 : decode cX10_put 28 = .ok (.iload_n 2, 1) := by decide +kernel
theorem dX10_put_29 : decode cX10_put 29 = .ok (.iastore, 1) := by decide +kernel
theorem dX10_put_30 : decode cX10_put 30 = .ok (.aload_n 0, 1) := by decide +kernel
theorem dX10_put_31 : decode cX10_put 31 = .ok (.getfield 26, 3) := by decide +kernel
theorem dX10_put_34 : decode cX10_put 34 = .ok (.iconst 3, 1) := by decide +kernel
theorem dX10_put_35 : decode cX10_put 35 = .ok (.aload_n 0, 1) := by decide +kernel
theorem dX10_put_36 : decode cX10_put 36 = .ok (.getfield 23, 3) := by decide +kernel
theorem dX10_put_39 : decode cX10_put 39 = .ok (.iconst 0, 1) := by decide +kernel
theorem dX10_put_40 : decode cX10_put 40 = .ok (.iaload, 1) := by decide +kernel
theorem dX10_put_41 : decode cX10_put 41 = .ok (.imul, 1) := by decide +kernel
theorem dX10_put_42 : decode cX10_put 42 = .ok (.iconst 2, 1) := by decide +kernel
theorem dX10_put_43 : decode cX10_put 43 = .ok (.iadd, 1) := by decide +kernel
theorem dX10_put_44 : decode cX10_put 44 = .ok (.iload_n 3, 1) := by decide +kernel
theorem dX10_put_45 : decode cX10_put 45 = .ok (.iastore, 1) := by decide +kernel
theorem dX10_put_46 : decode cX10_put 46 = .ok (.aload_n 0, 1) := by decide +kernel
theorem dX10_put_47 : decode cX10_put 47 = .ok (.getfield 23, 3) := by decide +kernel
theorem dX10_put_50 : decode cX10_put 50 = .ok (.iconst 0, 1) := by decide +kernel
theorem dX10_put_51 : decode cX10_put 51 = .ok (.dup2, 1) := by decide +kernel
theorem dX10_put_52 : decode cX10_put 52 = .ok (.iaload, 1) := by decide +kernel
theorem dX10_put_53 : decode cX10_put 53 = .ok (.iconst 1, 1) := by decide +kernel
theorem dX10_put_54 : decode cX10_put 54 = .ok (.iadd, 1) := by decide +kernel
theorem dX10_put_55 : decode cX10_put 55 = .ok (.iastore, 1) := by decide +kernel
theorem dX10_put_56 : decode cX10_put 56 = .ok (.return_, 1) := by decide +kernel
theorem dX10_weigh_0 : decode cX10_weigh 0 = .ok (.aload_n 0, 1) := by decide +kernel
theorem dX10_weigh_1 : decode cX10_weigh 1 = .ok (.iload_n 1, 1) := by decide +kernel
theorem dX10_weigh_2 : decode cX10_weigh 2 = .ok (.invokevirtual 100, 3) := by decide +kernel
theorem dX10_weigh_5 : decode cX10_weigh 5 = .ok (.ifCond .eq 21, 3) := by decide +kernel
theorem dX10_weigh_8 : decode cX10_weigh 8 = .ok (.iload_n 2, 1) := by decide +kernel
theorem dX10_weigh_9 : decode cX10_weigh 9 = .ok (.iconst 0, 1) := by decide +kernel
theorem dX10_weigh_10 : decode cX10_weigh 10 = .ok (.iconst 1, 1) := by decide +kernel
theorem dX10_weigh_11 : decode cX10_weigh 11 = .ok (.invokestatic 48, 3) := by decide +kernel
theorem dX10_weigh_14 : decode cX10_weigh 14 = .ok (.ifCond .eq 12, 3) := by decide +kernel
theorem dX10_weigh_17 : decode cX10_weigh 17 = .ok (.iload_n 3, 1) := by decide +kernel
theorem dX10_weigh_18 : decode cX10_weigh 18 = .ok (.iconst 0, 1) := by decide +kernel
theorem dX10_weigh_19 : decode cX10_weigh 19 = .ok (.iconst 1, 1) := by decide +kernel
theorem dX10_weigh_20 : decode cX10_weigh 20 = .ok (.invokestatic 48, 3) := by decide +kernel
theorem dX10_weigh_23 : decode cX10_weigh 23 = .ok (.ifCond .ne 5, 3) := by decide +kernel
theorem dX10_weigh_26 : decode cX10_weigh 26 = .ok (.iconst (-1), 1) := by decide +kernel
theorem dX10_weigh_27 : decode cX10_weigh 27 = .ok (.ireturn, 1) := by decide +kernel
theorem dX10_weigh_28 : decode cX10_weigh 28 = .ok (.aload_n 0, 1) := by decide +kernel
theorem dX10_weigh_29 : decode cX10_weigh 29 = .ok (.getfield 23, 3) := by decide +kernel
theorem dX10_weigh_32 : decode cX10_weigh 32 = .ok (.iconst 0, 1) := by decide +kernel
theorem dX10_weigh_33 : decode cX10_weigh 33 = .ok (.iaload, 1) := by decide +kernel
theorem dX10_weigh_34 : decode cX10_weigh 34 = .ok (.bipush 12, 2) := by decide +kernel
theorem dX10_weigh_36 : decode cX10_weigh 36 = .ok (.if_icmp .ne 6, 3) := by decide +kernel
theorem dX10_weigh_39 : decode cX10_weigh 39 = .ok (.bipush (-3), 2) := by decide +kernel
theorem dX10_weigh_41 : decode cX10_weigh 41 = .ok (.ireturn, 1) := by decide +kernel
theorem dX10_weigh_42 : decode cX10_weigh 42 = .ok (.aload_n 0, 1) := by decide +kernel
theorem dX10_weigh_43 : decode cX10_weigh 43 = .ok (.iload_n 1, 1) := by decide +kernel
theorem dX10_weigh_44 : decode cX10_weigh 44 = .ok (.invokevirtual 103, 3) := by decide +kernel
theorem dX10_weigh_47 : decode cX10_weigh 47 = .ok (.iload_n 2, 1) := by decide +kernel
theorem dX10_weigh_48 : decode cX10_weigh 48 = .ok (.iadd, 1) := by decide +kernel
theorem dX10_weigh_49 : decode cX10_weigh 49 = .ok (.aload_n 0, 1) := by decide +kernel
theorem dX10_weigh_50 : decode cX10_weigh 50 = .ok (.getfield 20, 3) := by decide +kernel
theorem dX10_weigh_53 : decode cX10_weigh 53 = .ok (.iconst 0, 1) := by decide +kernel
theorem dX10_weigh_54 : decode cX10_weigh 54 = .ok (.iaload, 1) := by decide +kernel
theorem dX10_weigh_55 : decode cX10_weigh 55 = .ok (.irem, 1) := by decide +kernel
theorem dX10_weigh_56 : decode cX10_weigh 56 = .ok (.istore 4, 2) := by decide +kernel
theorem dX10_weigh_58 : decode cX10_weigh 58 = .ok (.aload_n 0, 1) := by decide +kernel
theorem dX10_weigh_59 : decode cX10_weigh 59 = .ok (.iload_n 1, 1) := by decide +kernel
theorem dX10_weigh_60 : decode cX10_weigh 60 = .ok (.iload 4, 2) := by decide +kernel
theorem dX10_weigh_62 : decode cX10_weigh 62 = .ok (.iload_n 3, 1) := by decide +kernel
theorem dX10_weigh_63 : decode cX10_weigh 63 = .ok (.iconst 1, 1) := by decide +kernel
theorem dX10_weigh_64 : decode cX10_weigh 64 = .ok (.if_icmp .ne 7, 3) := by decide +kernel
theorem dX10_weigh_67 : decode cX10_weigh 67 = .ok (.iload_n 2, 1) := by decide +kernel
theorem dX10_weigh_68 : decode cX10_weigh 68 = .ok (.goto 4, 3) := by decide +kernel
theorem dX10_weigh_71 : decode cX10_weigh 71 = .ok (.iconst 2, 1) := by decide +kernel
theorem dX10_weigh_72 : decode cX10_weigh 72 = .ok (.invokevirtual 107, 3) := by decide +kernel
theorem dX10_weigh_75 : decode cX10_weigh 75 = .ok (.iload 4, 2) := by decide +kernel
theorem dX10_weigh_77 : decode cX10_weigh 77 = .ok (.ireturn, 1) := by decide +kernel
theorem dX10_tell_0 : decode cX10_tell 0 = .ok (.aload_n 0, 1) := by decide +kernel
theorem dX10_tell_1 : decode cX10_tell 1 = .ok (.iload_n 1, 1) := by decide +kernel
theorem dX10_tell_2 : decode cX10_tell 2 = .ok (.invokevirtual 100, 3) := by decide +kernel
theorem dX10_tell_5 : decode cX10_tell 5 = .ok (.ifCond .eq 28, 3) := by decide +kernel
theorem dX10_tell_8 : decode cX10_tell 8 = .ok (.iload_n 2, 1) := by decide +kernel
theorem dX10_tell_9 : decode cX10_tell 9 = .ok (.iconst 0, 1) := by decide +kernel
theorem dX10_tell_10 : decode cX10_tell 10 = .ok (.aload_n 0, 1) := by decide +kernel
theorem dX10_tell_11 : decode cX10_tell 11 = .ok (.getfield 20, 3) := by decide +kernel
theorem dX10_tell_14 : decode cX10_tell 14 = .ok (.iconst 0, 1) := by decide +kernel
theorem dX10_tell_15 : decode cX10_tell 15 = .ok (.iaload, 1) := by decide +kernel
theorem dX10_tell_16 : decode cX10_tell 16 = .ok (.iconst 1, 1) := by decide +kernel
theorem dX10_tell_17 : decode cX10_tell 17 = .ok (.isub, 1) := by decide +kernel
theorem dX10_tell_18 : decode cX10_tell 18 = .ok (.invokestatic 48, 3) := by decide +kernel
theorem dX10_tell_21 : decode cX10_tell 21 = .ok (.ifCond .eq 12, 3) := by decide +kernel
theorem dX10_tell_24 : decode cX10_tell 24 = .ok (.iload_n 3, 1) := by decide +kernel
theorem dX10_tell_25 : decode cX10_tell 25 = .ok (.iconst 0, 1) := by decide +kernel
theorem dX10_tell_26 : decode cX10_tell 26 = .ok (.iconst 2, 1) := by decide +kernel
theorem dX10_tell_27 : decode cX10_tell 27 = .ok (.invokestatic 48, 3) := by decide +kernel
theorem dX10_tell_30 : decode cX10_tell 30 = .ok (.ifCond .ne 5, 3) := by decide +kernel
theorem dX10_tell_33 : decode cX10_tell 33 = .ok (.iconst (-1), 1) := by decide +kernel
theorem dX10_tell_34 : decode cX10_tell 34 = .ok (.ireturn, 1) := by decide +kernel
theorem dX10_tell_35 : decode cX10_tell 35 = .ok (.aload_n 0, 1) := by decide +kernel
theorem dX10_tell_36 : decode cX10_tell 36 = .ok (.getfield 23, 3) := by decide +kernel
theorem dX10_tell_39 : decode cX10_tell 39 = .ok (.iconst 0, 1) := by decide +kernel
theorem dX10_tell_40 : decode cX10_tell 40 = .ok (.iaload, 1) := by decide +kernel
theorem dX10_tell_41 : decode cX10_tell 41 = .ok (.bipush 12, 2) := by decide +kernel
theorem dX10_tell_43 : decode cX10_tell 43 = .ok (.if_icmp .ne 6, 3) := by decide +kernel
theorem dX10_tell_46 : decode cX10_tell 46 = .ok (.bipush (-3), 2) := by decide +kernel
theorem dX10_tell_48 : decode cX10_tell 48 = .ok (.ireturn, 1) := by decide +kernel
theorem dX10_tell_49 : decode cX10_tell 49 = .ok (.aload_n 0, 1) := by decide +kernel
theorem dX10_tell_50 : decode cX10_tell 50 = .ok (.iload_n 1, 1) := by decide +kernel
theorem dX10_tell_51 : decode cX10_tell 51 = .ok (.iload_n 2, 1) := by decide +kernel
theorem dX10_tell_52 : decode cX10_tell 52 = .ok (.iload_n 3, 1) := by decide +kernel
theorem dX10_tell_53 : decode cX10_tell 53 = .ok (.invokevirtual 107, 3) := by decide +kernel
theorem dX10_tell_56 : decode cX10_tell 56 = .ok (.aload_n 0, 1) := by decide +kernel
theorem dX10_tell_57 : decode cX10_tell 57 = .ok (.getfield 23, 3) := by decide +kernel
theorem dX10_tell_60 : decode cX10_tell 60 = .ok (.iconst 0, 1) := by decide +kernel
theorem dX10_tell_61 : decode cX10_tell 61 = .ok (.iaload, 1) := by decide +kernel
theorem dX10_tell_62 : decode cX10_tell 62 = .ok (.ireturn, 1) := by decide +kernel
theorem dX10_isLine_0 : decode cX10_isLine 0 = .ok (.iload_n 1, 1) := by decide +kernel
theorem dX10_isLine_1 : decode cX10_isLine 1 = .ok (.iconst 0, 1) := by decide +kernel
theorem dX10_isLine_2 : decode cX10_isLine 2 = .ok (.aload_n 0, 1) := by decide +kernel
theorem dX10_isLine_3 : decode cX10_isLine 3 = .ok (.getfield 23, 3) := by decide +kernel
theorem dX10_isLine_6 : decode cX10_isLine 6 = .ok (.iconst 0, 1) := by decide +kernel
theorem dX10_isLine_7 : decode cX10_isLine 7 = .ok (.iaload, 1) := by decide +kernel
theorem dX10_isLine_8 : decode cX10_isLine 8 = .ok (.iconst 1, 1) := by decide +kernel
theorem dX10_isLine_9 : decode cX10_isLine 9 = .ok (.isub, 1) := by decide +kernel
theorem dX10_isLine_10 : decode cX10_isLine 10 = .ok (.invokestatic 48, 3) := by decide +kernel
theorem dX10_isLine_13 : decode cX10_isLine 13 = .ok (.ireturn, 1) := by decide +kernel
theorem dX10_line_0 : decode cX10_line 0 = .ok (.aload_n 0, 1) := by decide +kernel
theorem dX10_line_1 : decode cX10_line 1 = .ok (.iload_n 1, 1) := by decide +kernel
theorem dX10_line_2 : decode cX10_line 2 = .ok (.invokevirtual 111, 3) := by decide +kernel
theorem dX10_line_5 : decode cX10_line 5 = .ok (.ifCond .eq 25, 3) := by decide +kernel
theorem dX10_line_8 : decode cX10_line 8 = .ok (.iload_n 2, 1) := by decide +kernel
theorem dX10_line_9 : decode cX10_line 9 = .ok (.iconst 0, 1) := by decide +kernel
theorem dX10_line_10 : decode cX10_line 10 = .ok (.iconst 2, 1) := by decide +kernel
theorem dX10_line_11 : decode cX10_line 11 = .ok (.invokestatic 48, 3) := by decide +kernel
theorem dX10_line_14 : decode cX10_line 14 = .ok (.ifCond .eq 16, 3) := by decide +kernel
theorem dX10_line_17 : decode cX10_line 17 = .ok (.aload_n 0, 1) := by decide +kernel
theorem dX10_line_18 : decode cX10_line 18 = .ok (.getfield 26, 3) := by decide +kernel
theorem dX10_line_21 : decode cX10_line 21 = .ok (.iconst 3, 1) := by decide +kernel
theorem dX10_line_22 : decode cX10_line 22 = .ok (.iload_n 1, 1) := by decide +kernel
theorem dX10_line_23 : decode cX10_line 23 = .ok (.imul, 1) := by decide +kernel
theorem dX10_line_24 : decode cX10_line 24 = .ok (.iload_n 2, 1) := by decide +kernel
theorem dX10_line_25 : decode cX10_line 25 = .ok (.iadd, 1) := by decide +kernel
theorem dX10_line_26 : decode cX10_line 26 = .ok (.iaload, 1) := by decide +kernel
theorem dX10_line_27 : decode cX10_line 27 = .ok (.goto 4, 3) := by decide +kernel
theorem dX10_line_30 : decode cX10_line 30 = .ok (.iconst (-1), 1) := by decide +kernel
theorem dX10_line_31 : decode cX10_line 31 = .ok (.ireturn, 1) := by decide +kernel
theorem dX10_undo_0 : decode cX10_undo 0 = .ok (.aload_n 0, 1) := by decide +kernel
theorem dX10_undo_1 : decode cX10_undo 1 = .ok (.getfield 23, 3) := by decide +kernel
theorem dX10_undo_4 : decode cX10_undo 4 = .ok (.iconst 0, 1) := by decide +kernel
theorem dX10_undo_5 : decode cX10_undo 5 = .ok (.iaload, 1) := by decide +kernel
theorem dX10_undo_6 : decode cX10_undo 6 = .ok (.ifCond .ne 6, 3) := by decide +kernel
theorem dX10_undo_9 : decode cX10_undo 9 = .ok (.bipush (-2), 2) := by decide +kernel
theorem dX10_undo_11 : decode cX10_undo 11 = .ok (.ireturn, 1) := by decide +kernel
theorem dX10_undo_12 : decode cX10_undo 12 = .ok (.aload_n 0, 1) := by decide +kernel
theorem dX10_undo_13 : decode cX10_undo 13 = .ok (.getfield 23, 3) := by decide +kernel
theorem dX10_undo_16 : decode cX10_undo 16 = .ok (.iconst 0, 1) := by decide +kernel
theorem dX10_undo_17 : decode cX10_undo 17 = .ok (.dup2, 1) := by decide +kernel
theorem dX10_undo_18 : decode cX10_undo 18 = .ok (.iaload, 1) := by decide +kernel
theorem dX10_undo_19 : decode cX10_undo 19 = .ok (.iconst 1, 1) := by decide +kernel
theorem dX10_undo_20 : decode cX10_undo 20 = .ok (.isub, 1) := by decide +kernel
theorem dX10_undo_21 : decode cX10_undo 21 = .ok (.iastore, 1) := by decide +kernel
theorem dX10_undo_22 : decode cX10_undo 22 = .ok (.aload_n 0, 1) := by decide +kernel
theorem dX10_undo_23 : decode cX10_undo 23 = .ok (.getfield 23, 3) := by decide +kernel
theorem dX10_undo_26 : decode cX10_undo 26 = .ok (.iconst 0, 1) := by decide +kernel
theorem dX10_undo_27 : decode cX10_undo 27 = .ok (.iaload, 1) := by decide +kernel
theorem dX10_undo_28 : decode cX10_undo 28 = .ok (.ireturn, 1) := by decide +kernel
theorem dX10_worlds_0 : decode cX10_worlds 0 = .ok (.bipush 10, 2) := by decide +kernel
theorem dX10_worlds_2 : decode cX10_worlds 2 = .ok (.istore_n 1, 1) := by decide +kernel
theorem dX10_worlds_3 : decode cX10_worlds 3 = .ok (.iconst 0, 1) := by decide +kernel
theorem dX10_worlds_4 : decode cX10_worlds 4 = .ok (.istore_n 2, 1) := by decide +kernel
theorem dX10_worlds_5 : decode cX10_worlds 5 = .ok (.iload_n 2, 1) := by decide +kernel
theorem dX10_worlds_6 : decode cX10_worlds 6 = .ok (.aload_n 0, 1) := by decide +kernel
theorem dX10_worlds_7 : decode cX10_worlds 7 = .ok (.getfield 13, 3) := by decide +kernel
theorem dX10_worlds_10 : decode cX10_worlds 10 = .ok (.iconst 0, 1) := by decide +kernel
theorem dX10_worlds_11 : decode cX10_worlds 11 = .ok (.iaload, 1) := by decide +kernel
theorem dX10_worlds_12 : decode cX10_worlds 12 = .ok (.if_icmp .ge 14, 3) := by decide +kernel
theorem dX10_worlds_15 : decode cX10_worlds 15 = .ok (.iload_n 1, 1) := by decide +kernel
theorem dX10_worlds_16 : decode cX10_worlds 16 = .ok (.bipush 9, 2) := by decide +kernel
theorem dX10_worlds_18 : decode cX10_worlds 18 = .ok (.imul, 1) := by decide +kernel
theorem dX10_worlds_19 : decode cX10_worlds 19 = .ok (.istore_n 1, 1) := by decide +kernel
theorem dX10_worlds_20 : decode cX10_worlds 20 = .ok (.iinc 2 1, 3) := by decide +kernel
theorem dX10_worlds_23 : decode cX10_worlds 23 = .ok (.goto (-18), 3) := by decide +kernel
theorem dX10_worlds_26 : decode cX10_worlds 26 = .ok (.iload_n 1, 1) := by decide +kernel
theorem dX10_worlds_27 : decode cX10_worlds 27 = .ok (.ireturn, 1) := by decide +kernel
theorem dX10_go_0 : decode cX10_go 0 = .ok (.aload_n 0, 1) := by decide +kernel
theorem dX10_go_1 : decode cX10_go 1 = .ok (.getfield 33, 3) := by decide +kernel
theorem dX10_go_4 : decode cX10_go 4 = .ok (.iconst 3, 1) := by decide +kernel
theorem dX10_go_5 : decode cX10_go 5 = .ok (.iload_n 1, 1) := by decide +kernel
theorem dX10_go_6 : decode cX10_go 6 = .ok (.bipush 10, 2) := by decide +kernel
theorem dX10_go_8 : decode cX10_go 8 = .ok (.irem, 1) := by decide +kernel
theorem dX10_go_9 : decode cX10_go 9 = .ok (.iastore, 1) := by decide +kernel
theorem dX10_go_10 : decode cX10_go 10 = .ok (.iload_n 1, 1) := by decide +kernel
theorem dX10_go_11 : decode cX10_go 11 = .ok (.bipush 10, 2) := by decide +kernel
theorem dX10_go_13 : decode cX10_go 13 = .ok (.idiv, 1) := by decide +kernel
theorem dX10_go_14 : decode cX10_go 14 = .ok (.istore_n 2, 1) := by decide +kernel
theorem dX10_go_15 : decode cX10_go 15 = .ok (.iconst 0, 1) := by decide +kernel
theorem dX10_go_16 : decode cX10_go 16 = .ok (.istore_n 3, 1) := by decide +kernel
theorem dX10_go_17 : decode cX10_go 17 = .ok (.iload_n 3, 1) := by decide +kernel
theorem dX10_go_18 : decode cX10_go 18 = .ok (.aload_n 0, 1) := by decide +kernel
theorem dX10_go_19 : decode cX10_go 19 = .ok (.getfield 13, 3) := by decide +kernel
theorem dX10_go_22 : decode cX10_go 22 = .ok (.iconst 0, 1) := by decide +kernel
theorem dX10_go_23 : decode cX10_go 23 = .ok (.iaload, 1) := by decide +kernel
theorem dX10_go_24 : decode cX10_go 24 = .ok (.if_icmp .ge 26, 3) := by decide +kernel
theorem dX10_go_27 : decode cX10_go 27 = .ok (.aload_n 0, 1) := by decide +kernel
theorem dX10_go_28 : decode cX10_go 28 = .ok (.getfield 33, 3) := by decide +kernel
theorem dX10_go_31 : decode cX10_go 31 = .ok (.iload_n 3, 1) := by decide +kernel
theorem dX10_go_32 : decode cX10_go 32 = .ok (.iconst 1, 1) := by decide +kernel
theorem dX10_go_33 : decode cX10_go 33 = .ok (.iload_n 2, 1) := by decide +kernel
theorem dX10_go_34 : decode cX10_go 34 = .ok (.bipush 9, 2) := by decide +kernel
theorem dX10_go_36 : decode cX10_go 36 = .ok (.irem, 1) := by decide +kernel
theorem dX10_go_37 : decode cX10_go 37 = .ok (.iadd, 1) := by decide +kernel
theorem dX10_go_38 : decode cX10_go 38 = .ok (.iastore, 1) := by decide +kernel
theorem dX10_go_39 : decode cX10_go 39 = .ok (.iload_n 2, 1) := by decide +kernel
theorem dX10_go_40 : decode cX10_go 40 = .ok (.bipush 9, 2) := by decide +kernel
theorem dX10_go_42 : decode cX10_go 42 = .ok (.idiv, 1) := by decide +kernel
theorem dX10_go_43 : decode cX10_go 43 = .ok (.istore_n 2, 1) := by decide +kernel
theorem dX10_go_44 : decode cX10_go 44 = .ok (.iinc 3 1, 3) := by decide +kernel
theorem dX10_go_47 : decode cX10_go 47 = .ok (.goto (-30), 3) := by decide +kernel
theorem dX10_go_50 : decode cX10_go 50 = .ok (.return_, 1) := by decide +kernel
theorem dX10_shownOf_0 : decode cX10_shownOf 0 = .ok (.aload_n 0, 1) := by decide +kernel
theorem dX10_shownOf_1 : decode cX10_shownOf 1 = .ok (.getfield 33, 3) := by decide +kernel
theorem dX10_shownOf_4 : decode cX10_shownOf 4 = .ok (.iconst 3, 1) := by decide +kernel
theorem dX10_shownOf_5 : decode cX10_shownOf 5 = .ok (.iaload, 1) := by decide +kernel
theorem dX10_shownOf_6 : decode cX10_shownOf 6 = .ok (.istore_n 2, 1) := by decide +kernel
theorem dX10_shownOf_7 : decode cX10_shownOf 7 = .ok (.iconst 0, 1) := by decide +kernel
theorem dX10_shownOf_8 : decode cX10_shownOf 8 = .ok (.istore_n 3, 1) := by decide +kernel
theorem dX10_shownOf_9 : decode cX10_shownOf 9 = .ok (.iload_n 3, 1) := by decide +kernel
theorem dX10_shownOf_10 : decode cX10_shownOf 10 = .ok (.aload_n 0, 1) := by decide +kernel
theorem dX10_shownOf_11 : decode cX10_shownOf 11 = .ok (.getfield 13, 3) := by decide +kernel
theorem dX10_shownOf_14 : decode cX10_shownOf 14 = .ok (.iconst 0, 1) := by decide +kernel
theorem dX10_shownOf_15 : decode cX10_shownOf 15 = .ok (.iaload, 1) := by decide +kernel
theorem dX10_shownOf_16 : decode cX10_shownOf 16 = .ok (.if_icmp .ge 31, 3) := by decide +kernel
theorem dX10_shownOf_19 : decode cX10_shownOf 19 = .ok (.iload_n 2, 1) := by decide +kernel
theorem dX10_shownOf_20 : decode cX10_shownOf 20 = .ok (.iload_n 1, 1) := by decide +kernel
theorem dX10_shownOf_21 : decode cX10_shownOf 21 = .ok (.iload_n 3, 1) := by decide +kernel
theorem dX10_shownOf_22 : decode cX10_shownOf 22 = .ok (.ishr, 1) := by decide +kernel
theorem dX10_shownOf_23 : decode cX10_shownOf 23 = .ok (.iconst 1, 1) := by decide +kernel
theorem dX10_shownOf_24 : decode cX10_shownOf 24 = .ok (.iand, 1) := by decide +kernel
theorem dX10_shownOf_25 : decode cX10_shownOf 25 = .ok (.iconst 1, 1) := by decide +kernel
theorem dX10_shownOf_26 : decode cX10_shownOf 26 = .ok (.if_icmp .ne 12, 3) := by decide +kernel
theorem dX10_shownOf_29 : decode cX10_shownOf 29 = .ok (.aload_n 0, 1) := by decide +kernel
theorem dX10_shownOf_30 : decode cX10_shownOf 30 = .ok (.getfield 33, 3) := by decide +kernel
theorem dX10_shownOf_33 : decode cX10_shownOf 33 = .ok (.iload_n 3, 1) := by decide +kernel
theorem dX10_shownOf_34 : decode cX10_shownOf 34 = .ok (.iaload, 1) := by decide +kernel
theorem dX10_shownOf_35 : decode cX10_shownOf 35 = .ok (.goto 4, 3) := by decide +kernel
theorem dX10_shownOf_38 : decode cX10_shownOf 38 = .ok (.iconst 0, 1) := by decide +kernel
theorem dX10_shownOf_39 : decode cX10_shownOf 39 = .ok (.iadd, 1) := by decide +kernel
theorem dX10_shownOf_40 : decode cX10_shownOf 40 = .ok (.istore_n 2, 1) := by decide +kernel
theorem dX10_shownOf_41 : decode cX10_shownOf 41 = .ok (.iinc 3 1, 3) := by decide +kernel
theorem dX10_shownOf_44 : decode cX10_shownOf 44 = .ok (.goto (-35), 3) := by decide +kernel
theorem dX10_shownOf_47 : decode cX10_shownOf 47 = .ok (.iload_n 2, 1) := by decide +kernel
theorem dX10_shownOf_48 : decode cX10_shownOf 48 = .ok (.aload_n 0, 1) := by decide +kernel
theorem dX10_shownOf_49 : decode cX10_shownOf 49 = .ok (.getfield 20, 3) := by decide +kernel
theorem dX10_shownOf_52 : decode cX10_shownOf 52 = .ok (.iconst 0, 1) := by decide +kernel
theorem dX10_shownOf_53 : decode cX10_shownOf 53 = .ok (.iaload, 1) := by decide +kernel
theorem dX10_shownOf_54 : decode cX10_shownOf 54 = .ok (.irem, 1) := by decide +kernel
theorem dX10_shownOf_55 : decode cX10_shownOf 55 = .ok (.ireturn, 1) := by decide +kernel
theorem dX10_laughIn_0 : decode cX10_laughIn 0 = .ok (.aload_n 0, 1) := by decide +kernel
theorem dX10_laughIn_1 : decode cX10_laughIn 1 = .ok (.aload_n 0, 1) := by decide +kernel
theorem dX10_laughIn_2 : decode cX10_laughIn 2 = .ok (.getfield 26, 3) := by decide +kernel
theorem dX10_laughIn_5 : decode cX10_laughIn 5 = .ok (.iconst 3, 1) := by decide +kernel
theorem dX10_laughIn_6 : decode cX10_laughIn 6 = .ok (.iload_n 1, 1) := by decide +kernel
theorem dX10_laughIn_7 : decode cX10_laughIn 7 = .ok (.imul, 1) := by decide +kernel
theorem dX10_laughIn_8 : decode cX10_laughIn 8 = .ok (.iaload, 1) := by decide +kernel
theorem dX10_laughIn_9 : decode cX10_laughIn 9 = .ok (.invokevirtual 114, 3) := by decide +kernel
theorem dX10_laughIn_12 : decode cX10_laughIn 12 = .ok (.istore_n 2, 1) := by decide +kernel
theorem dX10_laughIn_13 : decode cX10_laughIn 13 = .ok (.iload_n 2, 1) := by decide +kernel
theorem dX10_laughIn_14 : decode cX10_laughIn 14 = .ok (.aload_n 0, 1) := by decide +kernel
theorem dX10_laughIn_15 : decode cX10_laughIn 15 = .ok (.getfield 26, 3) := by decide +kernel
theorem dX10_laughIn_18 : decode cX10_laughIn 18 = .ok (.iconst 3, 1) := by decide +kernel
theorem dX10_laughIn_19 : decode cX10_laughIn 19 = .ok (.iload_n 1, 1) := by decide +kernel
theorem dX10_laughIn_20 : decode cX10_laughIn 20 = .ok (.imul, 1) := by decide +kernel
theorem dX10_laughIn_21 : decode cX10_laughIn 21 = .ok (.iconst 1, 1) := by decide +kernel
theorem dX10_laughIn_22 : decode cX10_laughIn 22 = .ok (.iadd, 1) := by decide +kernel
theorem dX10_laughIn_23 : decode cX10_laughIn 23 = .ok (.iaload, 1) := by decide +kernel
theorem dX10_laughIn_24 : decode cX10_laughIn 24 = .ok (.if_icmp .ne 7, 3) := by decide +kernel
theorem dX10_laughIn_27 : decode cX10_laughIn 27 = .ok (.iconst 0, 1) := by decide +kernel
theorem dX10_laughIn_28 : decode cX10_laughIn 28 = .ok (.goto 32, 3) := by decide +kernel
theorem dX10_laughIn_31 : decode cX10_laughIn 31 = .ok (.iload_n 2, 1) := by decide +kernel
theorem dX10_laughIn_32 : decode cX10_laughIn 32 = .ok (.iconst 1, 1) := by decide +kernel
theorem dX10_laughIn_33 : decode cX10_laughIn 33 = .ok (.iadd, 1) := by decide +kernel
theorem dX10_laughIn_34 : decode cX10_laughIn 34 = .ok (.aload_n 0, 1) := by decide +kernel
theorem dX10_laughIn_35 : decode cX10_laughIn 35 = .ok (.getfield 20, 3) := by decide +kernel
theorem dX10_laughIn_38 : decode cX10_laughIn 38 = .ok (.iconst 0, 1) := by decide +kernel
theorem dX10_laughIn_39 : decode cX10_laughIn 39 = .ok (.iaload, 1) := by decide +kernel
theorem dX10_laughIn_40 : decode cX10_laughIn 40 = .ok (.irem, 1) := by decide +kernel
theorem dX10_laughIn_41 : decode cX10_laughIn 41 = .ok (.aload_n 0, 1) := by decide +kernel
theorem dX10_laughIn_42 : decode cX10_laughIn 42 = .ok (.getfield 26, 3) := by decide +kernel
theorem dX10_laughIn_45 : decode cX10_laughIn 45 = .ok (.iconst 3, 1) := by decide +kernel
theorem dX10_laughIn_46 : decode cX10_laughIn 46 = .ok (.iload_n 1, 1) := by decide +kernel
theorem dX10_laughIn_47 : decode cX10_laughIn 47 = .ok (.imul, 1) := by decide +kernel
theorem dX10_laughIn_48 : decode cX10_laughIn 48 = .ok (.iconst 1, 1) := by decide +kernel
theorem dX10_laughIn_49 : decode cX10_laughIn 49 = .ok (.iadd, 1) := by decide +kernel
theorem dX10_laughIn_50 : decode cX10_laughIn 50 = .ok (.iaload, 1) := by decide +kernel
theorem dX10_laughIn_51 : decode cX10_laughIn 51 = .ok (.if_icmp .ne 7, 3) := by decide +kernel
theorem dX10_laughIn_54 : decode cX10_laughIn 54 = .ok (.iconst 1, 1) := by decide +kernel
theorem dX10_laughIn_55 : decode cX10_laughIn 55 = .ok (.goto 5, 3) := by decide +kernel
theorem dX10_laughIn_58 : decode cX10_laughIn 58 = .ok (.bipush (-9), 2) := by decide +kernel
theorem dX10_laughIn_60 : decode cX10_laughIn 60 = .ok (.istore_n 3, 1) := by decide +kernel
theorem dX10_laughIn_61 : decode cX10_laughIn 61 = .ok (.aload_n 0, 1) := by decide +kernel
theorem dX10_laughIn_62 : decode cX10_laughIn 62 = .ok (.getfield 26, 3) := by decide +kernel
theorem dX10_laughIn_65 : decode cX10_laughIn 65 = .ok (.iconst 3, 1) := by decide +kernel
theorem dX10_laughIn_66 : decode cX10_laughIn 66 = .ok (.iload_n 1, 1) := by decide +kernel
theorem dX10_laughIn_67 : decode cX10_laughIn 67 = .ok (.imul, 1) := by decide +kernel
theorem dX10_laughIn_68 : decode cX10_laughIn 68 = .ok (.iconst 2, 1) := by decide +kernel
theorem dX10_laughIn_69 : decode cX10_laughIn 69 = .ok (.iadd, 1) := by decide +kernel
theorem dX10_laughIn_70 : decode cX10_laughIn 70 = .ok (.iaload, 1) := by decide +kernel
theorem dX10_laughIn_71 : decode cX10_laughIn 71 = .ok (.iconst 2, 1) := by decide +kernel
theorem dX10_laughIn_72 : decode cX10_laughIn 72 = .ok (.if_icmp .eq 17, 3) := by decide +kernel
theorem dX10_laughIn_75 : decode cX10_laughIn 75 = .ok (.aload_n 0, 1) := by decide +kernel
theorem dX10_laughIn_76 : decode cX10_laughIn 76 = .ok (.getfield 26, 3) := by decide +kernel
theorem dX10_laughIn_79 : decode cX10_laughIn 79 = .ok (.iconst 3, 1) := by decide +kernel
theorem dX10_laughIn_80 : decode cX10_laughIn 80 = .ok (.iload_n 1, 1) := by decide +kernel
theorem dX10_laughIn_81 : decode cX10_laughIn 81 = .ok (.imul, 1) := by decide +kernel
theorem dX10_laughIn_82 : decode cX10_laughIn 82 = .ok (.iconst 2, 1) := by decide +kernel
theorem dX10_laughIn_83 : decode cX10_laughIn 83 = .ok (.iadd, 1) := by decide +kernel
theorem dX10_laughIn_84 : decode cX10_laughIn 84 = .ok (.iaload, 1) := by decide +kernel
theorem dX10_laughIn_85 : decode cX10_laughIn 85 = .ok (.iload_n 3, 1) := by decide +kernel
theorem dX10_laughIn_86 : decode cX10_laughIn 86 = .ok (.if_icmp .ne 7, 3) := by decide +kernel
theorem dX10_laughIn_89 : decode cX10_laughIn 89 = .ok (.iload_n 3, 1) := by decide +kernel
theorem dX10_laughIn_90 : decode cX10_laughIn 90 = .ok (.goto 5, 3) := by decide +kernel
theorem dX10_laughIn_93 : decode cX10_laughIn 93 = .ok (.bipush (-9), 2) := by decide +kernel
theorem dX10_laughIn_95 : decode cX10_laughIn 95 = .ok (.ireturn, 1) := by decide +kernel
theorem dX10_falseLines_0 : decode cX10_falseLines 0 = .ok (.iconst 0, 1) := by decide +kernel
theorem dX10_falseLines_1 : decode cX10_falseLines 1 = .ok (.istore_n 1, 1) := by decide +kernel
theorem dX10_falseLines_2 : decode cX10_falseLines 2 = .ok (.iconst 0, 1) := by decide +kernel
theorem dX10_falseLines_3 : decode cX10_falseLines 3 = .ok (.istore_n 2, 1) := by decide +kernel
theorem dX10_falseLines_4 : decode cX10_falseLines 4 = .ok (.iload_n 2, 1) := by decide +kernel
theorem dX10_falseLines_5 : decode cX10_falseLines 5 = .ok (.aload_n 0, 1) := by decide +kernel
theorem dX10_falseLines_6 : decode cX10_falseLines 6 = .ok (.getfield 23, 3) := by decide +kernel
theorem dX10_falseLines_9 : decode cX10_falseLines 9 = .ok (.iconst 0, 1) := by decide +kernel
theorem dX10_falseLines_10 : decode cX10_falseLines 10 = .ok (.iaload, 1) := by decide +kernel
theorem dX10_falseLines_11 : decode cX10_falseLines 11 = .ok (.if_icmp .ge 29, 3) := by decide +kernel
theorem dX10_falseLines_14 : decode cX10_falseLines 14 = .ok (.iload_n 1, 1) := by decide +kernel
theorem dX10_falseLines_15 : decode cX10_falseLines 15 = .ok (.aload_n 0, 1) := by decide +kernel
theorem dX10_falseLines_16 : decode cX10_falseLines 16 = .ok (.iload_n 2, 1) := by decide +kernel
theorem dX10_falseLines_17 : decode cX10_falseLines 17 = .ok (.invokevirtual 117, 3) := by decide +kernel
theorem dX10_falseLines_20 : decode cX10_falseLines 20 = .ok (.bipush (-9), 2) := by decide +kernel
theorem dX10_falseLines_22 : decode cX10_falseLines 22 = .ok (.if_icmp .ne 9, 3) := by decide +kernel
theorem dX10_falseLines_25 : decode cX10_falseLines 25 = .ok (.iconst 1, 1) := by decide +kernel
theorem dX10_falseLines_26 : decode cX10_falseLines 26 = .ok (.iload_n 2, 1) := by decide +kernel
theorem dX10_falseLines_27 : decode cX10_falseLines 27 = .ok (.ishl, 1) := by decide +kernel
theorem dX10_falseLines_28 : decode cX10_falseLines 28 = .ok (.goto 4, 3) := by decide +kernel
theorem dX10_falseLines_31 : decode cX10_falseLines 31 = .ok (.iconst 0, 1) := by decide +kernel
theorem dX10_falseLines_32 : decode cX10_falseLines 32 = .ok (.ior, 1) := by decide +kernel
theorem dX10_falseLines_33 : decode cX10_falseLines 33 = .ok (.istore_n 1, 1) := by decide +kernel
theorem dX10_falseLines_34 : decode cX10_falseLines 34 = .ok (.iinc 2 1, 3) := by decide +kernel
theorem dX10_falseLines_37 : decode cX10_falseLines 37 = .ok (.goto (-33), 3) := by decide +kernel
theorem dX10_falseLines_40 : decode cX10_falseLines 40 = .ok (.iload_n 1, 1) := by decide +kernel
theorem dX10_falseLines_41 : decode cX10_falseLines 41 = .ok (.ireturn, 1) := by decide +kernel
theorem dX10_canBe_0 : decode cX10_canBe 0 = .ok (.aload_n 0, 1) := by decide +kernel
theorem dX10_canBe_1 : decode cX10_canBe 1 = .ok (.iload_n 1, 1) := by decide +kernel
theorem dX10_canBe_2 : decode cX10_canBe 2 = .ok (.invokevirtual 120, 3) := by decide +kernel
theorem dX10_canBe_5 : decode cX10_canBe 5 = .ok (.aload_n 0, 1) := by decide +kernel
theorem dX10_canBe_6 : decode cX10_canBe 6 = .ok (.invokevirtual 124, 3) := by decide +kernel
theorem dX10_canBe_9 : decode cX10_canBe 9 = .ok (.ifCond .ne 7, 3) := by decide +kernel
theorem dX10_canBe_12 : decode cX10_canBe 12 = .ok (.iconst 1, 1) := by decide +kernel
theorem dX10_canBe_13 : decode cX10_canBe 13 = .ok (.goto 4, 3) := by decide +kernel
theorem dX10_canBe_16 : decode cX10_canBe 16 = .ok (.iconst 0, 1) := by decide +kernel
theorem dX10_canBe_17 : decode cX10_canBe 17 = .ok (.ireturn, 1) := by decide +kernel
theorem dX10_many_0 : decode cX10_many 0 = .ok (.iconst 0, 1) := by decide +kernel
theorem dX10_many_1 : decode cX10_many 1 = .ok (.istore_n 3, 1) := by decide +kernel
theorem dX10_many_2 : decode cX10_many 2 = .ok (.iconst 0, 1) := by decide +kernel
theorem dX10_many_3 : decode cX10_many 3 = .ok (.istore 4, 2) := by decide +kernel
theorem dX10_many_5 : decode cX10_many 5 = .ok (.iload 4, 2) := by decide +kernel
theorem dX10_many_7 : decode cX10_many 7 = .ok (.aload_n 0, 1) := by decide +kernel
theorem dX10_many_8 : decode cX10_many 8 = .ok (.invokevirtual 127, 3) := by decide +kernel
theorem dX10_many_11 : decode cX10_many 11 = .ok (.if_icmp .ge 40, 3) := by decide +kernel
theorem dX10_many_14 : decode cX10_many 14 = .ok (.iload_n 3, 1) := by decide +kernel
theorem dX10_many_15 : decode cX10_many 15 = .ok (.aload_n 0, 1) := by decide +kernel
theorem dX10_many_16 : decode cX10_many 16 = .ok (.iload 4, 2) := by decide +kernel
theorem dX10_many_18 : decode cX10_many 18 = .ok (.invokevirtual 130, 3) := by decide +kernel
theorem dX10_many_21 : decode cX10_many 21 = .ok (.ifCond .eq 21, 3) := by decide +kernel
theorem dX10_many_24 : decode cX10_many 24 = .ok (.iload_n 1, 1) := by decide +kernel
theorem dX10_many_25 : decode cX10_many 25 = .ok (.ifCond .lt 13, 3) := by decide +kernel
theorem dX10_many_28 : decode cX10_many 28 = .ok (.aload_n 0, 1) := by decide +kernel
theorem dX10_many_29 : decode cX10_many 29 = .ok (.getfield 33, 3) := by decide +kernel
theorem dX10_many_32 : decode cX10_many 32 = .ok (.iload_n 1, 1) := by decide +kernel
theorem dX10_many_33 : decode cX10_many 33 = .ok (.iaload, 1) := by decide +kernel
theorem dX10_many_34 : decode cX10_many 34 = .ok (.iload_n 2, 1) := by decide +kernel
theorem dX10_many_35 : decode cX10_many 35 = .ok (.if_icmp .ne 7, 3) := by decide +kernel
theorem dX10_many_38 : decode cX10_many 38 = .ok (.iconst 1, 1) := by decide +kernel
theorem dX10_many_39 : decode cX10_many 39 = .ok (.goto 4, 3) := by decide +kernel
theorem dX10_many_42 : decode cX10_many 42 = .ok (.iconst 0, 1) := by decide +kernel
theorem dX10_many_43 : decode cX10_many 43 = .ok (.iadd, 1) := by decide +kernel
theorem dX10_many_44 : decode cX10_many 44 = .ok (.istore_n 3, 1) := by decide +kernel
theorem dX10_many_45 : decode cX10_many 45 = .ok (.iinc 4 1, 3) := by decide +kernel
theorem dX10_many_48 : decode cX10_many 48 = .ok (.goto (-43), 3) := by decide +kernel
theorem dX10_many_51 : decode cX10_many 51 = .ok (.iload_n 3, 1) := by decide +kernel
theorem dX10_many_52 : decode cX10_many 52 = .ok (.ireturn, 1) := by decide +kernel
theorem dX10_isOne_0 : decode cX10_isOne 0 = .ok (.aload_n 0, 1) := by decide +kernel
theorem dX10_isOne_1 : decode cX10_isOne 1 = .ok (.iload_n 1, 1) := by decide +kernel
theorem dX10_isOne_2 : decode cX10_isOne 2 = .ok (.invokevirtual 96, 3) := by decide +kernel
theorem dX10_isOne_5 : decode cX10_isOne 5 = .ok (.ifCond .ne 8, 3) := by decide +kernel
theorem dX10_isOne_8 : decode cX10_isOne 8 = .ok (.iload_n 1, 1) := by decide +kernel
theorem dX10_isOne_9 : decode cX10_isOne 9 = .ok (.iconst 3, 1) := by decide +kernel
theorem dX10_isOne_10 : decode cX10_isOne 10 = .ok (.if_icmp .ne 7, 3) := by decide +kernel
theorem dX10_isOne_13 : decode cX10_isOne 13 = .ok (.iconst 1, 1) := by decide +kernel
theorem dX10_isOne_14 : decode cX10_isOne 14 = .ok (.goto 4, 3) := by decide +kernel
theorem dX10_isOne_17 : decode cX10_isOne 17 = .ok (.iconst 0, 1) := by decide +kernel
theorem dX10_isOne_18 : decode cX10_isOne 18 = .ok (.ireturn, 1) := by decide +kernel
theorem dX10_could_0 : decode cX10_could 0 = .ok (.iload_n 1, 1) := by decide +kernel
theorem dX10_could_1 : decode cX10_could 1 = .ok (.iconst (-1), 1) := by decide +kernel
theorem dX10_could_2 : decode cX10_could 2 = .ok (.if_icmp .eq 11, 3) := by decide +kernel
theorem dX10_could_5 : decode cX10_could 5 = .ok (.aload_n 0, 1) := by decide +kernel
theorem dX10_could_6 : decode cX10_could 6 = .ok (.iload_n 1, 1) := by decide +kernel
theorem dX10_could_7 : decode cX10_could 7 = .ok (.invokevirtual 133, 3) := by decide +kernel
theorem dX10_could_10 : decode cX10_could 10 = .ok (.ifCond .eq 22, 3) := by decide +kernel
theorem dX10_could_13 : decode cX10_could 13 = .ok (.iload_n 2, 1) := by decide +kernel
theorem dX10_could_14 : decode cX10_could 14 = .ok (.iconst 0, 1) := by decide +kernel
theorem dX10_could_15 : decode cX10_could 15 = .ok (.bipush 9, 2) := by decide +kernel
theorem dX10_could_17 : decode cX10_could 17 = .ok (.invokestatic 48, 3) := by decide +kernel
theorem dX10_could_20 : decode cX10_could 20 = .ok (.ifCond .eq 12, 3) := by decide +kernel
theorem dX10_could_23 : decode cX10_could 23 = .ok (.aload_n 0, 1) := by decide +kernel
theorem dX10_could_24 : decode cX10_could 24 = .ok (.iload_n 1, 1) := by decide +kernel
theorem dX10_could_25 : decode cX10_could 25 = .ok (.iload_n 2, 1) := by decide +kernel
theorem dX10_could_26 : decode cX10_could 26 = .ok (.invokevirtual 136, 3) := by decide +kernel
theorem dX10_could_29 : decode cX10_could 29 = .ok (.goto 4, 3) := by decide +kernel
theorem dX10_could_32 : decode cX10_could 32 = .ok (.iconst (-1), 1) := by decide +kernel
theorem dX10_could_33 : decode cX10_could 33 = .ok (.ireturn, 1) := by decide +kernel
theorem dX10_sure_0 : decode cX10_sure 0 = .ok (.aload_n 0, 1) := by decide +kernel
theorem dX10_sure_1 : decode cX10_sure 1 = .ok (.iload_n 1, 1) := by decide +kernel
theorem dX10_sure_2 : decode cX10_sure 2 = .ok (.invokevirtual 133, 3) := by decide +kernel
theorem dX10_sure_5 : decode cX10_sure 5 = .ok (.ifCond .ne 5, 3) := by decide +kernel
theorem dX10_sure_8 : decode cX10_sure 8 = .ok (.iconst (-1), 1) := by decide +kernel
theorem dX10_sure_9 : decode cX10_sure 9 = .ok (.ireturn, 1) := by decide +kernel
theorem dX10_sure_10 : decode cX10_sure 10 = .ok (.iconst 0, 1) := by decide +kernel
theorem dX10_sure_11 : decode cX10_sure 11 = .ok (.istore_n 2, 1) := by decide +kernel
theorem dX10_sure_12 : decode cX10_sure 12 = .ok (.iconst 0, 1) := by decide +kernel
theorem dX10_sure_13 : decode cX10_sure 13 = .ok (.istore_n 3, 1) := by decide +kernel
theorem dX10_sure_14 : decode cX10_sure 14 = .ok (.iload_n 3, 1) := by decide +kernel
theorem dX10_sure_15 : decode cX10_sure 15 = .ok (.aload_n 0, 1) := by decide +kernel
theorem dX10_sure_16 : decode cX10_sure 16 = .ok (.invokevirtual 127, 3) := by decide +kernel
theorem dX10_sure_19 : decode cX10_sure 19 = .ok (.if_icmp .ge 32, 3) := by decide +kernel
theorem dX10_sure_22 : decode cX10_sure 22 = .ok (.iload_n 2, 1) := by decide +kernel
theorem dX10_sure_23 : decode cX10_sure 23 = .ok (.aload_n 0, 1) := by decide +kernel
theorem dX10_sure_24 : decode cX10_sure 24 = .ok (.iload_n 3, 1) := by decide +kernel
theorem dX10_sure_25 : decode cX10_sure 25 = .ok (.invokevirtual 130, 3) := by decide +kernel
theorem dX10_sure_28 : decode cX10_sure 28 = .ok (.ifCond .eq 14, 3) := by decide +kernel
theorem dX10_sure_31 : decode cX10_sure 31 = .ok (.iconst 1, 1) := by decide +kernel
theorem dX10_sure_32 : decode cX10_sure 32 = .ok (.aload_n 0, 1) := by decide +kernel
theorem dX10_sure_33 : decode cX10_sure 33 = .ok (.getfield 33, 3) := by decide +kernel
theorem dX10_sure_36 : decode cX10_sure 36 = .ok (.iload_n 1, 1) := by decide +kernel
theorem dX10_sure_37 : decode cX10_sure 37 = .ok (.iaload, 1) := by decide +kernel
theorem dX10_sure_38 : decode cX10_sure 38 = .ok (.ishl, 1) := by decide +kernel
theorem dX10_sure_39 : decode cX10_sure 39 = .ok (.goto 4, 3) := by decide +kernel
theorem dX10_sure_42 : decode cX10_sure 42 = .ok (.iconst 0, 1) := by decide +kernel
theorem dX10_sure_43 : decode cX10_sure 43 = .ok (.ior, 1) := by decide +kernel
theorem dX10_sure_44 : decode cX10_sure 44 = .ok (.istore_n 2, 1) := by decide +kernel
theorem dX10_sure_45 : decode cX10_sure 45 = .ok (.iinc 3 1, 3) := by decide +kernel
theorem dX10_sure_48 : decode cX10_sure 48 = .ok (.goto (-34), 3) := by decide +kernel
theorem dX10_sure_51 : decode cX10_sure 51 = .ok (.bipush (-9), 2) := by decide +kernel
theorem dX10_sure_53 : decode cX10_sure 53 = .ok (.istore_n 3, 1) := by decide +kernel
theorem dX10_sure_54 : decode cX10_sure 54 = .ok (.iconst 0, 1) := by decide +kernel
theorem dX10_sure_55 : decode cX10_sure 55 = .ok (.istore 4, 2) := by decide +kernel
theorem dX10_sure_57 : decode cX10_sure 57 = .ok (.iload 4, 2) := by decide +kernel
theorem dX10_sure_59 : decode cX10_sure 59 = .ok (.bipush 10, 2) := by decide +kernel
theorem dX10_sure_61 : decode cX10_sure 61 = .ok (.if_icmp .ge 24, 3) := by decide +kernel
theorem dX10_sure_64 : decode cX10_sure 64 = .ok (.iload_n 2, 1) := by decide +kernel
theorem dX10_sure_65 : decode cX10_sure 65 = .ok (.iconst 1, 1) := by decide +kernel
theorem dX10_sure_66 : decode cX10_sure 66 = .ok (.iload 4, 2) := by decide +kernel
theorem dX10_sure_68 : decode cX10_sure 68 = .ok (.ishl, 1) := by decide +kernel
theorem dX10_sure_69 : decode cX10_sure 69 = .ok (.if_icmp .ne 8, 3) := by decide +kernel
theorem dX10_sure_72 : decode cX10_sure 72 = .ok (.iload 4, 2) := by decide +kernel
theorem dX10_sure_74 : decode cX10_sure 74 = .ok (.goto 4, 3) := by decide +kernel
theorem dX10_sure_77 : decode cX10_sure 77 = .ok (.iload_n 3, 1) := by decide +kernel
theorem dX10_sure_78 : decode cX10_sure 78 = .ok (.istore_n 3, 1) := by decide +kernel
theorem dX10_sure_79 : decode cX10_sure 79 = .ok (.iinc 4 1, 3) := by decide +kernel
theorem dX10_sure_82 : decode cX10_sure 82 = .ok (.goto (-25), 3) := by decide +kernel
theorem dX10_sure_85 : decode cX10_sure 85 = .ok (.iload_n 3, 1) := by decide +kernel
theorem dX10_sure_86 : decode cX10_sure 86 = .ok (.ireturn, 1) := by decide +kernel
theorem dX10_bitsIn_0 : decode cX10_bitsIn 0 = .ok (.iconst 0, 1) := by decide +kernel
theorem dX10_bitsIn_1 : decode cX10_bitsIn 1 = .ok (.istore_n 1, 1) := by decide +kernel
theorem dX10_bitsIn_2 : decode cX10_bitsIn 2 = .ok (.iconst 0, 1) := by decide +kernel
theorem dX10_bitsIn_3 : decode cX10_bitsIn 3 = .ok (.istore_n 2, 1) := by decide +kernel
theorem dX10_bitsIn_4 : decode cX10_bitsIn 4 = .ok (.iload_n 2, 1) := by decide +kernel
theorem dX10_bitsIn_5 : decode cX10_bitsIn 5 = .ok (.bipush 12, 2) := by decide +kernel
theorem dX10_bitsIn_7 : decode cX10_bitsIn 7 = .ok (.if_icmp .ge 17, 3) := by decide +kernel
theorem dX10_bitsIn_10 : decode cX10_bitsIn 10 = .ok (.iload_n 1, 1) := by decide +kernel
theorem dX10_bitsIn_11 : decode cX10_bitsIn 11 = .ok (.iload_n 0, 1) := by decide +kernel
theorem dX10_bitsIn_12 : decode cX10_bitsIn 12 = .ok (.iload_n 2, 1) := by decide +kernel
theorem dX10_bitsIn_13 : decode cX10_bitsIn 13 = .ok (.ishr, 1) := by decide +kernel
theorem dX10_bitsIn_14 : decode cX10_bitsIn 14 = .ok (.iconst 1, 1) := by decide +kernel
theorem dX10_bitsIn_15 : decode cX10_bitsIn 15 = .ok (.iand, 1) := by decide +kernel
theorem dX10_bitsIn_16 : decode cX10_bitsIn 16 = .ok (.iadd, 1) := by decide +kernel
theorem dX10_bitsIn_17 : decode cX10_bitsIn 17 = .ok (.istore_n 1, 1) := by decide +kernel
theorem dX10_bitsIn_18 : decode cX10_bitsIn 18 = .ok (.iinc 2 1, 3) := by decide +kernel
theorem dX10_bitsIn_21 : decode cX10_bitsIn 21 = .ok (.goto (-17), 3) := by decide +kernel
theorem dX10_bitsIn_24 : decode cX10_bitsIn 24 = .ok (.iload_n 1, 1) := by decide +kernel
theorem dX10_bitsIn_25 : decode cX10_bitsIn 25 = .ok (.ireturn, 1) := by decide +kernel
theorem dX10_wrong_0 : decode cX10_wrong 0 = .ok (.iload_n 1, 1) := by decide +kernel
theorem dX10_wrong_1 : decode cX10_wrong 1 = .ok (.iconst 0, 1) := by decide +kernel
theorem dX10_wrong_2 : decode cX10_wrong 2 = .ok (.iconst 1, 1) := by decide +kernel
theorem dX10_wrong_3 : decode cX10_wrong 3 = .ok (.invokestatic 48, 3) := by decide +kernel
theorem dX10_wrong_6 : decode cX10_wrong 6 = .ok (.ifCond .ne 5, 3) := by decide +kernel
theorem dX10_wrong_9 : decode cX10_wrong 9 = .ok (.iconst (-1), 1) := by decide +kernel
theorem dX10_wrong_10 : decode cX10_wrong 10 = .ok (.ireturn, 1) := by decide +kernel
theorem dX10_wrong_11 : decode cX10_wrong 11 = .ok (.bipush 13, 2) := by decide +kernel
theorem dX10_wrong_13 : decode cX10_wrong 13 = .ok (.istore_n 2, 1) := by decide +kernel
theorem dX10_wrong_14 : decode cX10_wrong 14 = .ok (.iconst 0, 1) := by decide +kernel
theorem dX10_wrong_15 : decode cX10_wrong 15 = .ok (.istore_n 3, 1) := by decide +kernel
theorem dX10_wrong_16 : decode cX10_wrong 16 = .ok (.iconst 0, 1) := by decide +kernel
theorem dX10_wrong_17 : decode cX10_wrong 17 = .ok (.istore 4, 2) := by decide +kernel
theorem dX10_wrong_19 : decode cX10_wrong 19 = .ok (.iload 4, 2) := by decide +kernel
theorem dX10_wrong_21 : decode cX10_wrong 21 = .ok (.aload_n 0, 1) := by decide +kernel
theorem dX10_wrong_22 : decode cX10_wrong 22 = .ok (.invokevirtual 127, 3) := by decide +kernel
theorem dX10_wrong_25 : decode cX10_wrong 25 = .ok (.if_icmp .ge 67, 3) := by decide +kernel
theorem dX10_wrong_28 : decode cX10_wrong 28 = .ok (.aload_n 0, 1) := by decide +kernel
theorem dX10_wrong_29 : decode cX10_wrong 29 = .ok (.iload 4, 2) := by decide +kernel
theorem dX10_wrong_31 : decode cX10_wrong 31 = .ok (.invokevirtual 120, 3) := by decide +kernel
theorem dX10_wrong_34 : decode cX10_wrong 34 = .ok (.aload_n 0, 1) := by decide +kernel
theorem dX10_wrong_35 : decode cX10_wrong 35 = .ok (.invokevirtual 124, 3) := by decide +kernel
theorem dX10_wrong_38 : decode cX10_wrong 38 = .ok (.istore 5, 2) := by decide +kernel
theorem dX10_wrong_40 : decode cX10_wrong 40 = .ok (.iload 5, 2) := by decide +kernel
theorem dX10_wrong_42 : decode cX10_wrong 42 = .ok (.invokestatic 139, 3) := by decide +kernel
theorem dX10_wrong_45 : decode cX10_wrong 45 = .ok (.istore 6, 2) := by decide +kernel
theorem dX10_wrong_47 : decode cX10_wrong 47 = .ok (.iload 6, 2) := by decide +kernel
theorem dX10_wrong_49 : decode cX10_wrong 49 = .ok (.iload_n 2, 1) := by decide +kernel
theorem dX10_wrong_50 : decode cX10_wrong 50 = .ok (.if_icmp .ge 8, 3) := by decide +kernel
theorem dX10_wrong_53 : decode cX10_wrong 53 = .ok (.iload 5, 2) := by decide +kernel
theorem dX10_wrong_55 : decode cX10_wrong 55 = .ok (.goto 17, 3) := by decide +kernel
theorem dX10_wrong_58 : decode cX10_wrong 58 = .ok (.iload 6, 2) := by decide +kernel
theorem dX10_wrong_60 : decode cX10_wrong 60 = .ok (.iload_n 2, 1) := by decide +kernel
theorem dX10_wrong_61 : decode cX10_wrong 61 = .ok (.if_icmp .ne 10, 3) := by decide +kernel
theorem dX10_wrong_64 : decode cX10_wrong 64 = .ok (.iload_n 3, 1) := by decide +kernel
theorem dX10_wrong_65 : decode cX10_wrong 65 = .ok (.iload 5, 2) := by decide +kernel
theorem dX10_wrong_67 : decode cX10_wrong 67 = .ok (.iand, 1) := by decide +kernel
theorem dX10_wrong_68 : decode cX10_wrong 68 = .ok (.goto 4, 3) := by decide +kernel
theorem dX10_wrong_71 : decode cX10_wrong 71 = .ok (.iload_n 3, 1) := by decide +kernel
theorem dX10_wrong_72 : decode cX10_wrong 72 = .ok (.istore_n 3, 1) := by decide +kernel
theorem dX10_wrong_73 : decode cX10_wrong 73 = .ok (.iload 6, 2) := by decide +kernel
theorem dX10_wrong_75 : decode cX10_wrong 75 = .ok (.iload_n 2, 1) := by decide +kernel
theorem dX10_wrong_76 : decode cX10_wrong 76 = .ok (.if_icmp .ge 8, 3) := by decide +kernel
theorem dX10_wrong_79 : decode cX10_wrong 79 = .ok (.iload 6, 2) := by decide +kernel
theorem dX10_wrong_81 : decode cX10_wrong 81 = .ok (.goto 4, 3) := by decide +kernel
theorem dX10_wrong_84 : decode cX10_wrong 84 = .ok (.iload_n 2, 1) := by decide +kernel
theorem dX10_wrong_85 : decode cX10_wrong 85 = .ok (.istore_n 2, 1) := by decide +kernel
theorem dX10_wrong_86 : decode cX10_wrong 86 = .ok (.iinc 4 1, 3) := by decide +kernel
theorem dX10_wrong_89 : decode cX10_wrong 89 = .ok (.goto (-70), 3) := by decide +kernel
theorem dX10_wrong_92 : decode cX10_wrong 92 = .ok (.iload_n 1, 1) := by decide +kernel
theorem dX10_wrong_93 : decode cX10_wrong 93 = .ok (.ifCond .ne 7, 3) := by decide +kernel
theorem dX10_wrong_96 : decode cX10_wrong 96 = .ok (.iload_n 2, 1) := by decide +kernel
theorem dX10_wrong_97 : decode cX10_wrong 97 = .ok (.goto 4, 3) := by decide +kernel
theorem dX10_wrong_100 : decode cX10_wrong 100 = .ok (.iload_n 3, 1) := by decide +kernel
theorem dX10_wrong_101 : decode cX10_wrong 101 = .ok (.ireturn, 1) := by decide +kernel
theorem dX10_worstOf_0 : decode cX10_worstOf 0 = .ok (.iconst 0, 1) := by decide +kernel
theorem dX10_worstOf_1 : decode cX10_worstOf 1 = .ok (.istore_n 2, 1) := by decide +kernel
theorem dX10_worstOf_2 : decode cX10_worstOf 2 = .ok (.iload_n 2, 1) := by decide +kernel
theorem dX10_worstOf_3 : decode cX10_worstOf 3 = .ok (.bipush 20, 2) := by decide +kernel
theorem dX10_worstOf_5 : decode cX10_worstOf 5 = .ok (.if_icmp .ge 16, 3) := by decide +kernel
theorem dX10_worstOf_8 : decode cX10_worstOf 8 = .ok (.aload_n 0, 1) := by decide +kernel
theorem dX10_worstOf_9 : decode cX10_worstOf 9 = .ok (.getfield 36, 3) := by decide +kernel
theorem dX10_worstOf_12 : decode cX10_worstOf 12 = .ok (.iload_n 2, 1) := by decide +kernel
theorem dX10_worstOf_13 : decode cX10_worstOf 13 = .ok (.iconst 0, 1) := by decide +kernel
theorem dX10_worstOf_14 : decode cX10_worstOf 14 = .ok (.iastore, 1) := by decide +kernel
theorem dX10_worstOf_15 : decode cX10_worstOf 15 = .ok (.iinc 2 1, 3) := by decide +kernel
theorem dX10_worstOf_18 : decode cX10_worstOf 18 = .ok (.goto (-16), 3) := by decide +kernel
theorem dX10_worstOf_21 : decode cX10_worstOf 21 = .ok (.iconst 0, 1) := by decide +kernel
theorem dX10_worstOf_22 : decode cX10_worstOf 22 = .ok (.istore_n 2, 1) := by decide +kernel
theorem dX10_worstOf_23 : decode cX10_worstOf 23 = .ok (.iload_n 2, 1) := by decide +kernel
theorem dX10_worstOf_24 : decode cX10_worstOf 24 = .ok (.aload_n 0, 1) := by decide +kernel
theorem dX10_worstOf_25 : decode cX10_worstOf 25 = .ok (.invokevirtual 127, 3) := by decide +kernel
theorem dX10_worstOf_28 : decode cX10_worstOf 28 = .ok (.if_icmp .ge 31, 3) := by decide +kernel
theorem dX10_worstOf_31 : decode cX10_worstOf 31 = .ok (.aload_n 0, 1) := by decide +kernel
theorem dX10_worstOf_32 : decode cX10_worstOf 32 = .ok (.iload_n 2, 1) := by decide +kernel
theorem dX10_worstOf_33 : decode cX10_worstOf 33 = .ok (.invokevirtual 130, 3) := by decide +kernel
theorem dX10_worstOf_36 : decode cX10_worstOf 36 = .ok (.ifCond .eq 17, 3) := by decide +kernel
theorem dX10_worstOf_39 : decode cX10_worstOf 39 = .ok (.aload_n 0, 1) := by decide +kernel
theorem dX10_worstOf_40 : decode cX10_worstOf 40 = .ok (.getfield 36, 3) := by decide +kernel
theorem dX10_worstOf_43 : decode cX10_worstOf 43 = .ok (.aload_n 0, 1) := by decide +kernel
theorem dX10_worstOf_44 : decode cX10_worstOf 44 = .ok (.iload_n 1, 1) := by decide +kernel
theorem dX10_worstOf_45 : decode cX10_worstOf 45 = .ok (.invokevirtual 114, 3) := by decide +kernel
theorem dX10_worstOf_48 : decode cX10_worstOf 48 = .ok (.dup2, 1) := by decide +kernel
theorem dX10_worstOf_49 : decode cX10_worstOf 49 = .ok (.iaload, 1) := by decide +kernel
theorem dX10_worstOf_50 : decode cX10_worstOf 50 = .ok (.iconst 1, 1) := by decide +kernel
theorem dX10_worstOf_51 : decode cX10_worstOf 51 = .ok (.iadd, 1) := by decide +kernel
theorem dX10_worstOf_52 : decode cX10_worstOf 52 = .ok (.iastore, 1) := by decide +kernel
theorem dX10_worstOf_53 : decode cX10_worstOf 53 = .ok (.iinc 2 1, 3) := by decide +kernel
theorem dX10_worstOf_56 : decode cX10_worstOf 56 = .ok (.goto (-33), 3) := by decide +kernel
theorem dX10_worstOf_59 : decode cX10_worstOf 59 = .ok (.iconst 0, 1) := by decide +kernel
theorem dX10_worstOf_60 : decode cX10_worstOf 60 = .ok (.istore_n 2, 1) := by decide +kernel
theorem dX10_worstOf_61 : decode cX10_worstOf 61 = .ok (.iconst 0, 1) := by decide +kernel
theorem dX10_worstOf_62 : decode cX10_worstOf 62 = .ok (.istore_n 3, 1) := by decide +kernel
theorem dX10_worstOf_63 : decode cX10_worstOf 63 = .ok (.iload_n 3, 1) := by decide +kernel
theorem dX10_worstOf_64 : decode cX10_worstOf 64 = .ok (.bipush 20, 2) := by decide +kernel
theorem dX10_worstOf_66 : decode cX10_worstOf 66 = .ok (.if_icmp .ge 30, 3) := by decide +kernel
theorem dX10_worstOf_69 : decode cX10_worstOf 69 = .ok (.aload_n 0, 1) := by decide +kernel
theorem dX10_worstOf_70 : decode cX10_worstOf 70 = .ok (.getfield 36, 3) := by decide +kernel
theorem dX10_worstOf_73 : decode cX10_worstOf 73 = .ok (.iload_n 3, 1) := by decide +kernel
theorem dX10_worstOf_74 : decode cX10_worstOf 74 = .ok (.iaload, 1) := by decide +kernel
theorem dX10_worstOf_75 : decode cX10_worstOf 75 = .ok (.iload_n 2, 1) := by decide +kernel
theorem dX10_worstOf_76 : decode cX10_worstOf 76 = .ok (.if_icmp .le 12, 3) := by decide +kernel
theorem dX10_worstOf_79 : decode cX10_worstOf 79 = .ok (.aload_n 0, 1) := by decide +kernel
theorem dX10_worstOf_80 : decode cX10_worstOf 80 = .ok (.getfield 36, 3) := by decide +kernel
theorem dX10_worstOf_83 : decode cX10_worstOf 83 = .ok (.iload_n 3, 1) := by decide +kernel
theorem dX10_worstOf_84 : decode cX10_worstOf 84 = .ok (.iaload, 1) := by decide +kernel
theorem dX10_worstOf_85 : decode cX10_worstOf 85 = .ok (.goto 4, 3) := by decide +kernel
theorem dX10_worstOf_88 : decode cX10_worstOf 88 = .ok (.iload_n 2, 1) := by decide +kernel
theorem dX10_worstOf_89 : decode cX10_worstOf 89 = .ok (.istore_n 2, 1) := by decide +kernel
theorem dX10_worstOf_90 : decode cX10_worstOf 90 = .ok (.iinc 3 1, 3) := by decide +kernel
theorem dX10_worstOf_93 : decode cX10_worstOf 93 = .ok (.goto (-30), 3) := by decide +kernel
theorem dX10_worstOf_96 : decode cX10_worstOf 96 = .ok (.iload_n 2, 1) := by decide +kernel
theorem dX10_worstOf_97 : decode cX10_worstOf 97 = .ok (.ireturn, 1) := by decide +kernel
theorem dX10_next_0 : decode cX10_next 0 = .ok (.iload_n 1, 1) := by decide +kernel
theorem dX10_next_1 : decode cX10_next 1 = .ok (.iconst 0, 1) := by decide +kernel
theorem dX10_next_2 : decode cX10_next 2 = .ok (.iconst 1, 1) := by decide +kernel
theorem dX10_next_3 : decode cX10_next 3 = .ok (.invokestatic 48, 3) := by decide +kernel
theorem dX10_next_6 : decode cX10_next 6 = .ok (.ifCond .ne 5, 3) := by decide +kernel
theorem dX10_next_9 : decode cX10_next 9 = .ok (.iconst (-1), 1) := by decide +kernel
theorem dX10_next_10 : decode cX10_next 10 = .ok (.ireturn, 1) := by decide +kernel
theorem dX10_next_11 : decode cX10_next 11 = .ok (.bipush (-9), 2) := by decide +kernel
theorem dX10_next_13 : decode cX10_next 13 = .ok (.istore_n 2, 1) := by decide +kernel
theorem dX10_next_14 : decode cX10_next 14 = .ok (.bipush (-9), 2) := by decide +kernel
theorem dX10_next_16 : decode cX10_next 16 = .ok (.istore_n 3, 1) := by decide +kernel
theorem dX10_next_17 : decode cX10_next 17 = .ok (.iconst 1, 1) := by decide +kernel
theorem dX10_next_18 : decode cX10_next 18 = .ok (.istore 4, 2) := by decide +kernel
theorem dX10_next_20 : decode cX10_next 20 = .ok (.iload 4, 2) := by decide +kernel
theorem dX10_next_22 : decode cX10_next 22 = .ok (.iconst 1, 1) := by decide +kernel
theorem dX10_next_23 : decode cX10_next 23 = .ok (.aload_n 0, 1) := by decide +kernel
theorem dX10_next_24 : decode cX10_next 24 = .ok (.getfield 13, 3) := by decide +kernel
theorem dX10_next_27 : decode cX10_next 27 = .ok (.iconst 0, 1) := by decide +kernel
theorem dX10_next_28 : decode cX10_next 28 = .ok (.iaload, 1) := by decide +kernel
theorem dX10_next_29 : decode cX10_next 29 = .ok (.ishl, 1) := by decide +kernel
theorem dX10_next_30 : decode cX10_next 30 = .ok (.if_icmp .ge 35, 3) := by decide +kernel
theorem dX10_next_33 : decode cX10_next 33 = .ok (.aload_n 0, 1) := by decide +kernel
theorem dX10_next_34 : decode cX10_next 34 = .ok (.iload 4, 2) := by decide +kernel
theorem dX10_next_36 : decode cX10_next 36 = .ok (.invokevirtual 142, 3) := by decide +kernel
theorem dX10_next_39 : decode cX10_next 39 = .ok (.istore 5, 2) := by decide +kernel
theorem dX10_next_41 : decode cX10_next 41 = .ok (.iload_n 2, 1) := by decide +kernel
theorem dX10_next_42 : decode cX10_next 42 = .ok (.bipush (-9), 2) := by decide +kernel
theorem dX10_next_44 : decode cX10_next 44 = .ok (.if_icmp .eq 9, 3) := by decide +kernel
theorem dX10_next_47 : decode cX10_next 47 = .ok (.iload 5, 2) := by decide +kernel
theorem dX10_next_49 : decode cX10_next 49 = .ok (.iload_n 3, 1) := by decide +kernel
theorem dX10_next_50 : decode cX10_next 50 = .ok (.if_icmp .ge 9, 3) := by decide +kernel
theorem dX10_next_53 : decode cX10_next 53 = .ok (.iload 4, 2) := by decide +kernel
theorem dX10_next_55 : decode cX10_next 55 = .ok (.istore_n 2, 1) := by decide +kernel
theorem dX10_next_56 : decode cX10_next 56 = .ok (.iload 5, 2) := by decide +kernel
theorem dX10_next_58 : decode cX10_next 58 = .ok (.istore_n 3, 1) := by decide +kernel
theorem dX10_next_59 : decode cX10_next 59 = .ok (.iinc 4 1, 3) := by decide +kernel
theorem dX10_next_62 : decode cX10_next 62 = .ok (.goto (-42), 3) := by decide +kernel
theorem dX10_next_65 : decode cX10_next 65 = .ok (.iload_n 1, 1) := by decide +kernel
theorem dX10_next_66 : decode cX10_next 66 = .ok (.ifCond .ne 7, 3) := by decide +kernel
theorem dX10_next_69 : decode cX10_next 69 = .ok (.iload_n 2, 1) := by decide +kernel
theorem dX10_next_70 : decode cX10_next 70 = .ok (.goto 4, 3) := by decide +kernel
theorem dX10_next_73 : decode cX10_next 73 = .ok (.iload_n 3, 1) := by decide +kernel
theorem dX10_next_74 : decode cX10_next 74 = .ok (.ireturn, 1) := by decide +kernel
theorem dX10_part_0 : decode cX10_part 0 = .ok (.iconst 0, 1) := by decide +kernel
theorem dX10_part_1 : decode cX10_part 1 = .ok (.istore 4, 2) := by decide +kernel
theorem dX10_part_3 : decode cX10_part 3 = .ok (.iload 4, 2) := by decide +kernel
theorem dX10_part_5 : decode cX10_part 5 = .ok (.sipush 400, 3) := by decide +kernel
theorem dX10_part_8 : decode cX10_part 8 = .ok (.if_icmp .ge 17, 3) := by decide +kernel
theorem dX10_part_11 : decode cX10_part 11 = .ok (.aload_n 0, 1) := by decide +kernel
theorem dX10_part_12 : decode cX10_part 12 = .ok (.getfield 39, 3) := by decide +kernel
theorem dX10_part_15 : decode cX10_part 15 = .ok (.iload 4, 2) := by decide +kernel
theorem dX10_part_17 : decode cX10_part 17 = .ok (.iconst 0, 1) := by decide +kernel
theorem dX10_part_18 : decode cX10_part 18 = .ok (.iastore, 1) := by decide +kernel
theorem dX10_part_19 : decode cX10_part 19 = .ok (.iinc 4 1, 3) := by decide +kernel
theorem dX10_part_22 : decode cX10_part 22 = .ok (.goto (-19), 3) := by decide +kernel
theorem dX10_part_25 : decode cX10_part 25 = .ok (.iconst 0, 1) := by decide +kernel
theorem dX10_part_26 : decode cX10_part 26 = .ok (.istore 4, 2) := by decide +kernel
theorem dX10_part_28 : decode cX10_part 28 = .ok (.iload 4, 2) := by decide +kernel
theorem dX10_part_30 : decode cX10_part 30 = .ok (.bipush 20, 2) := by decide +kernel
theorem dX10_part_32 : decode cX10_part 32 = .ok (.if_icmp .ge 17, 3) := by decide +kernel
theorem dX10_part_35 : decode cX10_part 35 = .ok (.aload_n 0, 1) := by decide +kernel
theorem dX10_part_36 : decode cX10_part 36 = .ok (.getfield 42, 3) := by decide +kernel
theorem dX10_part_39 : decode cX10_part 39 = .ok (.iload 4, 2) := by decide +kernel
theorem dX10_part_41 : decode cX10_part 41 = .ok (.iconst 0, 1) := by decide +kernel
theorem dX10_part_42 : decode cX10_part 42 = .ok (.bastore, 1) := by decide +kernel
theorem dX10_part_43 : decode cX10_part 43 = .ok (.iinc 4 1, 3) := by decide +kernel
theorem dX10_part_46 : decode cX10_part 46 = .ok (.goto (-18), 3) := by decide +kernel
theorem dX10_part_49 : decode cX10_part 49 = .ok (.iconst 0, 1) := by decide +kernel
theorem dX10_part_50 : decode cX10_part 50 = .ok (.istore 4, 2) := by decide +kernel
theorem dX10_part_52 : decode cX10_part 52 = .ok (.iload 4, 2) := by decide +kernel
theorem dX10_part_54 : decode cX10_part 54 = .ok (.aload_n 0, 1) := by decide +kernel
theorem dX10_part_55 : decode cX10_part 55 = .ok (.invokevirtual 127, 3) := by decide +kernel
theorem dX10_part_58 : decode cX10_part 58 = .ok (.if_icmp .ge 101, 3) := by decide +kernel
theorem dX10_part_61 : decode cX10_part 61 = .ok (.aload_n 0, 1) := by decide +kernel
theorem dX10_part_62 : decode cX10_part 62 = .ok (.iload 4, 2) := by decide +kernel
theorem dX10_part_64 : decode cX10_part 64 = .ok (.invokevirtual 130, 3) := by decide +kernel
theorem dX10_part_67 : decode cX10_part 67 = .ok (.ifCond .eq 86, 3) := by decide +kernel
theorem dX10_part_70 : decode cX10_part 70 = .ok (.aload_n 0, 1) := by decide +kernel
theorem dX10_part_71 : decode cX10_part 71 = .ok (.iload_n 2, 1) := by decide +kernel
theorem dX10_part_72 : decode cX10_part 72 = .ok (.invokevirtual 114, 3) := by decide +kernel
theorem dX10_part_75 : decode cX10_part 75 = .ok (.istore 5, 2) := by decide +kernel
theorem dX10_part_77 : decode cX10_part 77 = .ok (.bipush 20, 2) := by decide +kernel
theorem dX10_part_79 : decode cX10_part 79 = .ok (.iload 5, 2) := by decide +kernel
theorem dX10_part_81 : decode cX10_part 81 = .ok (.imul, 1) := by decide +kernel
theorem dX10_part_82 : decode cX10_part 82 = .ok (.aload_n 0, 1) := by decide +kernel
theorem dX10_part_83 : decode cX10_part 83 = .ok (.iload_n 3, 1) := by decide +kernel
theorem dX10_part_84 : decode cX10_part 84 = .ok (.invokevirtual 114, 3) := by decide +kernel
theorem dX10_part_87 : decode cX10_part 87 = .ok (.iadd, 1) := by decide +kernel
theorem dX10_part_88 : decode cX10_part 88 = .ok (.istore 6, 2) := by decide +kernel
theorem dX10_part_90 : decode cX10_part 90 = .ok (.iconst 1, 1) := by decide +kernel
theorem dX10_part_91 : decode cX10_part 91 = .ok (.aload_n 0, 1) := by decide +kernel
theorem dX10_part_92 : decode cX10_part 92 = .ok (.getfield 33, 3) := by decide +kernel
theorem dX10_part_95 : decode cX10_part 95 = .ok (.iload_n 1, 1) := by decide +kernel
theorem dX10_part_96 : decode cX10_part 96 = .ok (.iaload, 1) := by decide +kernel
theorem dX10_part_97 : decode cX10_part 97 = .ok (.iadd, 1) := by decide +kernel
theorem dX10_part_98 : decode cX10_part 98 = .ok (.istore 7, 2) := by decide +kernel
theorem dX10_part_100 : decode cX10_part 100 = .ok (.aload_n 0, 1) := by decide +kernel
theorem dX10_part_101 : decode cX10_part 101 = .ok (.getfield 42, 3) := by decide +kernel
theorem dX10_part_104 : decode cX10_part 104 = .ok (.iload 5, 2) := by decide +kernel
theorem dX10_part_106 : decode cX10_part 106 = .ok (.aload_n 0, 1) := by decide +kernel
theorem dX10_part_107 : decode cX10_part 107 = .ok (.getfield 42, 3) := by decide +kernel
theorem dX10_part_110 : decode cX10_part 110 = .ok (.iload 5, 2) := by decide +kernel
theorem dX10_part_112 : decode cX10_part 112 = .ok (.baload, 1) := by decide +kernel
theorem dX10_part_113 : decode cX10_part 113 = .ok (.ifCond .ne 25, 3) := by decide +kernel
theorem dX10_part_116 : decode cX10_part 116 = .ok (.aload_n 0, 1) := by decide +kernel
theorem dX10_part_117 : decode cX10_part 117 = .ok (.getfield 39, 3) := by decide +kernel
theorem dX10_part_120 : decode cX10_part 120 = .ok (.iload 6, 2) := by decide +kernel
theorem dX10_part_122 : decode cX10_part 122 = .ok (.iaload, 1) := by decide +kernel
theorem dX10_part_123 : decode cX10_part 123 = .ok (.ifCond .eq 19, 3) := by decide +kernel
theorem dX10_part_126 : decode cX10_part 126 = .ok (.aload_n 0, 1) := by decide +kernel
theorem dX10_part_127 : decode cX10_part 127 = .ok (.getfield 39, 3) := by decide +kernel
theorem dX10_part_130 : decode cX10_part 130 = .ok (.iload 6, 2) := by decide +kernel
theorem dX10_part_132 : decode cX10_part 132 = .ok (.iaload, 1) := by decide +kernel
theorem dX10_part_133 : decode cX10_part 133 = .ok (.iload 7, 2) := by decide +kernel
theorem dX10_part_135 : decode cX10_part 135 = .ok (.if_icmp .eq 7, 3) := by decide +kernel
theorem dX10_part_138 : decode cX10_part 138 = .ok (.iconst 1, 1) := by decide +kernel
theorem dX10_part_139 : decode cX10_part 139 = .ok (.goto 4, 3) := by decide +kernel
theorem dX10_part_142 : decode cX10_part 142 = .ok (.iconst 0, 1) := by decide +kernel
theorem dX10_part_143 : decode cX10_part 143 = .ok (.bastore, 1) := by decide +kernel
theorem dX10_part_144 : decode cX10_part 144 = .ok (.aload_n 0, 1) := by decide +kernel
theorem dX10_part_145 : decode cX10_part 145 = .ok (.getfield 39, 3) := by decide +kernel
theorem dX10_part_148 : decode cX10_part 148 = .ok (.iload 6, 2) := by decide +kernel
theorem dX10_part_150 : decode cX10_part 150 = .ok (.iload 7, 2) := by decide +kernel
theorem dX10_part_152 : decode cX10_part 152 = .ok (.iastore, 1) := by decide +kernel
theorem dX10_part_153 : decode cX10_part 153 = .ok (.iinc 4 1, 3) := by decide +kernel
theorem dX10_part_156 : decode cX10_part 156 = .ok (.goto (-104), 3) := by decide +kernel
theorem dX10_part_159 : decode cX10_part 159 = .ok (.return_, 1) := by decide +kernel
theorem dX10_anyBad_0 : decode cX10_anyBad 0 = .ok (.iconst 0, 1) := by decide +kernel
theorem dX10_anyBad_1 : decode cX10_anyBad 1 = .ok (.istore_n 1, 1) := by decide +kernel
theorem dX10_anyBad_2 : decode cX10_anyBad 2 = .ok (.iconst 0, 1) := by decide +kernel
theorem dX10_anyBad_3 : decode cX10_anyBad 3 = .ok (.istore_n 2, 1) := by decide +kernel
theorem dX10_anyBad_4 : decode cX10_anyBad 4 = .ok (.iload_n 2, 1) := by decide +kernel
theorem dX10_anyBad_5 : decode cX10_anyBad 5 = .ok (.bipush 20, 2) := by decide +kernel
theorem dX10_anyBad_7 : decode cX10_anyBad 7 = .ok (.if_icmp .ge 28, 3) := by decide +kernel
theorem dX10_anyBad_10 : decode cX10_anyBad 10 = .ok (.iload_n 1, 1) := by decide +kernel
theorem dX10_anyBad_11 : decode cX10_anyBad 11 = .ok (.ifCond .ne 12, 3) := by decide +kernel
theorem dX10_anyBad_14 : decode cX10_anyBad 14 = .ok (.aload_n 0, 1) := by decide +kernel
theorem dX10_anyBad_15 : decode cX10_anyBad 15 = .ok (.getfield 42, 3) := by decide +kernel
theorem dX10_anyBad_18 : decode cX10_anyBad 18 = .ok (.iload_n 2, 1) := by decide +kernel
theorem dX10_anyBad_19 : decode cX10_anyBad 19 = .ok (.baload, 1) := by decide +kernel
theorem dX10_anyBad_20 : decode cX10_anyBad 20 = .ok (.ifCond .eq 7, 3) := by decide +kernel
theorem dX10_anyBad_23 : decode cX10_anyBad 23 = .ok (.iconst 1, 1) := by decide +kernel
theorem dX10_anyBad_24 : decode cX10_anyBad 24 = .ok (.goto 4, 3) := by decide +kernel
theorem dX10_anyBad_27 : decode cX10_anyBad 27 = .ok (.iconst 0, 1) := by decide +kernel
theorem dX10_anyBad_28 : decode cX10_anyBad 28 = .ok (.istore_n 1, 1) := by decide +kernel
theorem dX10_anyBad_29 : decode cX10_anyBad 29 = .ok (.iinc 2 1, 3) := by decide +kernel
theorem dX10_anyBad_32 : decode cX10_anyBad 32 = .ok (.goto (-28), 3) := by decide +kernel
theorem dX10_anyBad_35 : decode cX10_anyBad 35 = .ok (.iload_n 1, 1) := by decide +kernel
theorem dX10_anyBad_36 : decode cX10_anyBad 36 = .ok (.ireturn, 1) := by decide +kernel
theorem dX10_isEnough_0 : decode cX10_isEnough 0 = .ok (.ldc 145, 2) := by decide +kernel
theorem dX10_isEnough_2 : decode cX10_isEnough 2 = .ok (.istore_n 3, 1) := by decide +kernel
theorem dX10_isEnough_3 : decode cX10_isEnough 3 = .ok (.iconst 0, 1) := by decide +kernel
theorem dX10_isEnough_4 : decode cX10_isEnough 4 = .ok (.istore 4, 2) := by decide +kernel
theorem dX10_isEnough_6 : decode cX10_isEnough 6 = .ok (.iload 4, 2) := by decide +kernel
theorem dX10_isEnough_8 : decode cX10_isEnough 8 = .ok (.iconst 1, 1) := by decide +kernel
theorem dX10_isEnough_9 : decode cX10_isEnough 9 = .ok (.aload_n 0, 1) := by decide +kernel
theorem dX10_isEnough_10 : decode cX10_isEnough 10 = .ok (.getfield 13, 3) := by decide +kernel
theorem dX10_isEnough_13 : decode cX10_isEnough 13 = .ok (.iconst 0, 1) := by decide +kernel
theorem dX10_isEnough_14 : decode cX10_isEnough 14 = .ok (.iaload, 1) := by decide +kernel
theorem dX10_isEnough_15 : decode cX10_isEnough 15 = .ok (.ishl, 1) := by decide +kernel
theorem dX10_isEnough_16 : decode cX10_isEnough 16 = .ok (.if_icmp .ge 56, 3) := by decide +kernel
theorem dX10_isEnough_19 : decode cX10_isEnough 19 = .ok (.aload_n 0, 1) := by decide +kernel
theorem dX10_isEnough_20 : decode cX10_isEnough 20 = .ok (.iload_n 1, 1) := by decide +kernel
theorem dX10_isEnough_21 : decode cX10_isEnough 21 = .ok (.iload_n 2, 1) := by decide +kernel
theorem dX10_isEnough_22 : decode cX10_isEnough 22 = .ok (.iload 4, 2) := by decide +kernel
theorem dX10_isEnough_24 : decode cX10_isEnough 24 = .ok (.invokevirtual 146, 3) := by decide +kernel
theorem dX10_isEnough_27 : decode cX10_isEnough 27 = .ok (.iconst 0, 1) := by decide +kernel
theorem dX10_isEnough_28 : decode cX10_isEnough 28 = .ok (.istore 5, 2) := by decide +kernel
theorem dX10_isEnough_30 : decode cX10_isEnough 30 = .ok (.iload 5, 2) := by decide +kernel
theorem dX10_isEnough_32 : decode cX10_isEnough 32 = .ok (.bipush 20, 2) := by decide +kernel
theorem dX10_isEnough_34 : decode cX10_isEnough 34 = .ok (.if_icmp .ge 32, 3) := by decide +kernel
theorem dX10_isEnough_37 : decode cX10_isEnough 37 = .ok (.iload_n 3, 1) := by decide +kernel
theorem dX10_isEnough_38 : decode cX10_isEnough 38 = .ok (.aload_n 0, 1) := by decide +kernel
theorem dX10_isEnough_39 : decode cX10_isEnough 39 = .ok (.getfield 42, 3) := by decide +kernel
theorem dX10_isEnough_42 : decode cX10_isEnough 42 = .ok (.iload 5, 2) := by decide +kernel
theorem dX10_isEnough_44 : decode cX10_isEnough 44 = .ok (.baload, 1) := by decide +kernel
theorem dX10_isEnough_45 : decode cX10_isEnough 45 = .ok (.ifCond .eq 7, 3) := by decide +kernel
theorem dX10_isEnough_48 : decode cX10_isEnough 48 = .ok (.iconst (-1), 1) := by decide +kernel
theorem dX10_isEnough_49 : decode cX10_isEnough 49 = .ok (.goto 9, 3) := by decide +kernel
theorem dX10_isEnough_52 : decode cX10_isEnough 52 = .ok (.iconst 1, 1) := by decide +kernel
theorem dX10_isEnough_53 : decode cX10_isEnough 53 = .ok (.iload 5, 2) := by decide +kernel
theorem dX10_isEnough_55 : decode cX10_isEnough 55 = .ok (.ishl, 1) := by decide +kernel
theorem dX10_isEnough_56 : decode cX10_isEnough 56 = .ok (.iconst (-1), 1) := by decide +kernel
theorem dX10_isEnough_57 : decode cX10_isEnough 57 = .ok (.ixor, 1) := by decide +kernel
theorem dX10_isEnough_58 : decode cX10_isEnough 58 = .ok (.iand, 1) := by decide +kernel
theorem dX10_isEnough_59 : decode cX10_isEnough 59 = .ok (.istore_n 3, 1) := by decide +kernel
theorem dX10_isEnough_60 : decode cX10_isEnough 60 = .ok (.iinc 5 1, 3) := by decide +kernel
theorem dX10_isEnough_63 : decode cX10_isEnough 63 = .ok (.goto (-33), 3) := by decide +kernel
theorem dX10_isEnough_66 : decode cX10_isEnough 66 = .ok (.iinc 4 1, 3) := by decide +kernel
theorem dX10_isEnough_69 : decode cX10_isEnough 69 = .ok (.goto (-63), 3) := by decide +kernel
theorem dX10_isEnough_72 : decode cX10_isEnough 72 = .ok (.iload_n 3, 1) := by decide +kernel
theorem dX10_isEnough_73 : decode cX10_isEnough 73 = .ok (.ifCond .ne 7, 3) := by decide +kernel
theorem dX10_isEnough_76 : decode cX10_isEnough 76 = .ok (.iconst 1, 1) := by decide +kernel
theorem dX10_isEnough_77 : decode cX10_isEnough 77 = .ok (.goto 4, 3) := by decide +kernel
theorem dX10_isEnough_80 : decode cX10_isEnough 80 = .ok (.iconst 0, 1) := by decide +kernel
theorem dX10_isEnough_81 : decode cX10_isEnough 81 = .ok (.ireturn, 1) := by decide +kernel
theorem dX10_isKnown_0 : decode cX10_isKnown 0 = .ok (.iconst 0, 1) := by decide +kernel
theorem dX10_isKnown_1 : decode cX10_isKnown 1 = .ok (.istore_n 2, 1) := by decide +kernel
theorem dX10_isKnown_2 : decode cX10_isKnown 2 = .ok (.iconst 0, 1) := by decide +kernel
theorem dX10_isKnown_3 : decode cX10_isKnown 3 = .ok (.istore_n 3, 1) := by decide +kernel
theorem dX10_isKnown_4 : decode cX10_isKnown 4 = .ok (.iload_n 3, 1) := by decide +kernel
theorem dX10_isKnown_5 : decode cX10_isKnown 5 = .ok (.aload_n 0, 1) := by decide +kernel
theorem dX10_isKnown_6 : decode cX10_isKnown 6 = .ok (.invokevirtual 127, 3) := by decide +kernel
theorem dX10_isKnown_9 : decode cX10_isKnown 9 = .ok (.if_icmp .ge 32, 3) := by decide +kernel
theorem dX10_isKnown_12 : decode cX10_isKnown 12 = .ok (.iload_n 2, 1) := by decide +kernel
theorem dX10_isKnown_13 : decode cX10_isKnown 13 = .ok (.aload_n 0, 1) := by decide +kernel
theorem dX10_isKnown_14 : decode cX10_isKnown 14 = .ok (.iload_n 3, 1) := by decide +kernel
theorem dX10_isKnown_15 : decode cX10_isKnown 15 = .ok (.invokevirtual 130, 3) := by decide +kernel
theorem dX10_isKnown_18 : decode cX10_isKnown 18 = .ok (.ifCond .eq 14, 3) := by decide +kernel
theorem dX10_isKnown_21 : decode cX10_isKnown 21 = .ok (.iconst 1, 1) := by decide +kernel
theorem dX10_isKnown_22 : decode cX10_isKnown 22 = .ok (.aload_n 0, 1) := by decide +kernel
theorem dX10_isKnown_23 : decode cX10_isKnown 23 = .ok (.getfield 33, 3) := by decide +kernel
theorem dX10_isKnown_26 : decode cX10_isKnown 26 = .ok (.iload_n 1, 1) := by decide +kernel
theorem dX10_isKnown_27 : decode cX10_isKnown 27 = .ok (.iaload, 1) := by decide +kernel
theorem dX10_isKnown_28 : decode cX10_isKnown 28 = .ok (.ishl, 1) := by decide +kernel
theorem dX10_isKnown_29 : decode cX10_isKnown 29 = .ok (.goto 4, 3) := by decide +kernel
theorem dX10_isKnown_32 : decode cX10_isKnown 32 = .ok (.iconst 0, 1) := by decide +kernel
theorem dX10_isKnown_33 : decode cX10_isKnown 33 = .ok (.ior, 1) := by decide +kernel
theorem dX10_isKnown_34 : decode cX10_isKnown 34 = .ok (.istore_n 2, 1) := by decide +kernel
theorem dX10_isKnown_35 : decode cX10_isKnown 35 = .ok (.iinc 3 1, 3) := by decide +kernel
theorem dX10_isKnown_38 : decode cX10_isKnown 38 = .ok (.goto (-34), 3) := by decide +kernel
theorem dX10_isKnown_41 : decode cX10_isKnown 41 = .ok (.iload_n 2, 1) := by decide +kernel
theorem dX10_isKnown_42 : decode cX10_isKnown 42 = .ok (.iload_n 2, 1) := by decide +kernel
theorem dX10_isKnown_43 : decode cX10_isKnown 43 = .ok (.iconst 1, 1) := by decide +kernel
theorem dX10_isKnown_44 : decode cX10_isKnown 44 = .ok (.isub, 1) := by decide +kernel
theorem dX10_isKnown_45 : decode cX10_isKnown 45 = .ok (.iand, 1) := by decide +kernel
theorem dX10_isKnown_46 : decode cX10_isKnown 46 = .ok (.ifCond .ne 7, 3) := by decide +kernel
theorem dX10_isKnown_49 : decode cX10_isKnown 49 = .ok (.iconst 1, 1) := by decide +kernel
theorem dX10_isKnown_50 : decode cX10_isKnown 50 = .ok (.goto 4, 3) := by decide +kernel
theorem dX10_isKnown_53 : decode cX10_isKnown 53 = .ok (.iconst 0, 1) := by decide +kernel
theorem dX10_isKnown_54 : decode cX10_isKnown 54 = .ok (.ireturn, 1) := by decide +kernel
theorem dX10_fewest_0 : decode cX10_fewest 0 = .ok (.aload_n 0, 1) := by decide +kernel
theorem dX10_fewest_1 : decode cX10_fewest 1 = .ok (.iload_n 1, 1) := by decide +kernel
theorem dX10_fewest_2 : decode cX10_fewest 2 = .ok (.invokevirtual 133, 3) := by decide +kernel
theorem dX10_fewest_5 : decode cX10_fewest 5 = .ok (.ifCond .ne 5, 3) := by decide +kernel
theorem dX10_fewest_8 : decode cX10_fewest 8 = .ok (.iconst (-1), 1) := by decide +kernel
theorem dX10_fewest_9 : decode cX10_fewest 9 = .ok (.ireturn, 1) := by decide +kernel
theorem dX10_fewest_10 : decode cX10_fewest 10 = .ok (.aload_n 0, 1) := by decide +kernel
theorem dX10_fewest_11 : decode cX10_fewest 11 = .ok (.iload_n 1, 1) := by decide +kernel
theorem dX10_fewest_12 : decode cX10_fewest 12 = .ok (.invokevirtual 149, 3) := by decide +kernel
theorem dX10_fewest_15 : decode cX10_fewest 15 = .ok (.ifCond .eq 5, 3) := by decide +kernel
theorem dX10_fewest_18 : decode cX10_fewest 18 = .ok (.iconst 0, 1) := by decide +kernel
theorem dX10_fewest_19 : decode cX10_fewest 19 = .ok (.ireturn, 1) := by decide +kernel
theorem dX10_fewest_20 : decode cX10_fewest 20 = .ok (.iconst 0, 1) := by decide +kernel
theorem dX10_fewest_21 : decode cX10_fewest 21 = .ok (.istore_n 2, 1) := by decide +kernel
theorem dX10_fewest_22 : decode cX10_fewest 22 = .ok (.iload_n 2, 1) := by decide +kernel
theorem dX10_fewest_23 : decode cX10_fewest 23 = .ok (.iconst 1, 1) := by decide +kernel
theorem dX10_fewest_24 : decode cX10_fewest 24 = .ok (.aload_n 0, 1) := by decide +kernel
theorem dX10_fewest_25 : decode cX10_fewest 25 = .ok (.getfield 13, 3) := by decide +kernel
theorem dX10_fewest_28 : decode cX10_fewest 28 = .ok (.iconst 0, 1) := by decide +kernel
theorem dX10_fewest_29 : decode cX10_fewest 29 = .ok (.iaload, 1) := by decide +kernel
theorem dX10_fewest_30 : decode cX10_fewest 30 = .ok (.ishl, 1) := by decide +kernel
theorem dX10_fewest_31 : decode cX10_fewest 31 = .ok (.if_icmp .ge 25, 3) := by decide +kernel
theorem dX10_fewest_34 : decode cX10_fewest 34 = .ok (.aload_n 0, 1) := by decide +kernel
theorem dX10_fewest_35 : decode cX10_fewest 35 = .ok (.iload_n 1, 1) := by decide +kernel
theorem dX10_fewest_36 : decode cX10_fewest 36 = .ok (.iload_n 2, 1) := by decide +kernel
theorem dX10_fewest_37 : decode cX10_fewest 37 = .ok (.iload_n 2, 1) := by decide +kernel
theorem dX10_fewest_38 : decode cX10_fewest 38 = .ok (.invokevirtual 146, 3) := by decide +kernel
theorem dX10_fewest_41 : decode cX10_fewest 41 = .ok (.aload_n 0, 1) := by decide +kernel
theorem dX10_fewest_42 : decode cX10_fewest 42 = .ok (.invokevirtual 152, 3) := by decide +kernel
theorem dX10_fewest_45 : decode cX10_fewest 45 = .ok (.ifCond .ne 5, 3) := by decide +kernel
theorem dX10_fewest_48 : decode cX10_fewest 48 = .ok (.iconst 1, 1) := by decide +kernel
theorem dX10_fewest_49 : decode cX10_fewest 49 = .ok (.ireturn, 1) := by decide +kernel
theorem dX10_fewest_50 : decode cX10_fewest 50 = .ok (.iinc 2 1, 3) := by decide +kernel
theorem dX10_fewest_53 : decode cX10_fewest 53 = .ok (.goto (-31), 3) := by decide +kernel
theorem dX10_fewest_56 : decode cX10_fewest 56 = .ok (.iconst 0, 1) := by decide +kernel
theorem dX10_fewest_57 : decode cX10_fewest 57 = .ok (.istore_n 2, 1) := by decide +kernel
theorem dX10_fewest_58 : decode cX10_fewest 58 = .ok (.iload_n 2, 1) := by decide +kernel
theorem dX10_fewest_59 : decode cX10_fewest 59 = .ok (.iconst 1, 1) := by decide +kernel
theorem dX10_fewest_60 : decode cX10_fewest 60 = .ok (.aload_n 0, 1) := by decide +kernel
theorem dX10_fewest_61 : decode cX10_fewest 61 = .ok (.getfield 13, 3) := by decide +kernel
theorem dX10_fewest_64 : decode cX10_fewest 64 = .ok (.iconst 0, 1) := by decide +kernel
theorem dX10_fewest_65 : decode cX10_fewest 65 = .ok (.iaload, 1) := by decide +kernel
theorem dX10_fewest_66 : decode cX10_fewest 66 = .ok (.ishl, 1) := by decide +kernel
theorem dX10_fewest_67 : decode cX10_fewest 67 = .ok (.if_icmp .ge 20, 3) := by decide +kernel
theorem dX10_fewest_70 : decode cX10_fewest 70 = .ok (.aload_n 0, 1) := by decide +kernel
theorem dX10_fewest_71 : decode cX10_fewest 71 = .ok (.iload_n 1, 1) := by decide +kernel
theorem dX10_fewest_72 : decode cX10_fewest 72 = .ok (.iload_n 2, 1) := by decide +kernel
theorem dX10_fewest_73 : decode cX10_fewest 73 = .ok (.invokevirtual 156, 3) := by decide +kernel
theorem dX10_fewest_76 : decode cX10_fewest 76 = .ok (.ifCond .eq 5, 3) := by decide +kernel
theorem dX10_fewest_79 : decode cX10_fewest 79 = .ok (.iconst 2, 1) := by decide +kernel
theorem dX10_fewest_80 : decode cX10_fewest 80 = .ok (.ireturn, 1) := by decide +kernel
theorem dX10_fewest_81 : decode cX10_fewest 81 = .ok (.iinc 2 1, 3) := by decide +kernel
theorem dX10_fewest_84 : decode cX10_fewest 84 = .ok (.goto (-26), 3) := by decide +kernel
theorem dX10_fewest_87 : decode cX10_fewest 87 = .ok (.bipush (-9), 2) := by decide +kernel
theorem dX10_fewest_89 : decode cX10_fewest 89 = .ok (.ireturn, 1) := by decide +kernel
theorem dX10_laugh_0 : decode cX10_laugh 0 = .ok (.aload_n 0, 1) := by decide +kernel
theorem dX10_laugh_1 : decode cX10_laugh 1 = .ok (.iload_n 1, 1) := by decide +kernel
theorem dX10_laugh_2 : decode cX10_laugh 2 = .ok (.invokevirtual 111, 3) := by decide +kernel
theorem dX10_laugh_5 : decode cX10_laugh 5 = .ok (.ifCond .ne 5, 3) := by decide +kernel
theorem dX10_laugh_8 : decode cX10_laugh 8 = .ok (.iconst (-1), 1) := by decide +kernel
theorem dX10_laugh_9 : decode cX10_laugh 9 = .ok (.ireturn, 1) := by decide +kernel
theorem dX10_laugh_10 : decode cX10_laugh 10 = .ok (.iconst 0, 1) := by decide +kernel
theorem dX10_laugh_11 : decode cX10_laugh 11 = .ok (.istore_n 2, 1) := by decide +kernel
theorem dX10_laugh_12 : decode cX10_laugh 12 = .ok (.iconst 0, 1) := by decide +kernel
theorem dX10_laugh_13 : decode cX10_laugh 13 = .ok (.istore_n 3, 1) := by decide +kernel
theorem dX10_laugh_14 : decode cX10_laugh 14 = .ok (.iload_n 3, 1) := by decide +kernel
theorem dX10_laugh_15 : decode cX10_laugh 15 = .ok (.aload_n 0, 1) := by decide +kernel
theorem dX10_laugh_16 : decode cX10_laugh 16 = .ok (.invokevirtual 127, 3) := by decide +kernel
theorem dX10_laugh_19 : decode cX10_laugh 19 = .ok (.if_icmp .ge 27, 3) := by decide +kernel
theorem dX10_laugh_22 : decode cX10_laugh 22 = .ok (.aload_n 0, 1) := by decide +kernel
theorem dX10_laugh_23 : decode cX10_laugh 23 = .ok (.iload_n 3, 1) := by decide +kernel
theorem dX10_laugh_24 : decode cX10_laugh 24 = .ok (.invokevirtual 130, 3) := by decide +kernel
theorem dX10_laugh_27 : decode cX10_laugh 27 = .ok (.ifCond .eq 13, 3) := by decide +kernel
theorem dX10_laugh_30 : decode cX10_laugh 30 = .ok (.iload_n 2, 1) := by decide +kernel
theorem dX10_laugh_31 : decode cX10_laugh 31 = .ok (.iconst 1, 1) := by decide +kernel
theorem dX10_laugh_32 : decode cX10_laugh 32 = .ok (.aload_n 0, 1) := by decide +kernel
theorem dX10_laugh_33 : decode cX10_laugh 33 = .ok (.iload_n 1, 1) := by decide +kernel
theorem dX10_laugh_34 : decode cX10_laugh 34 = .ok (.invokevirtual 117, 3) := by decide +kernel
theorem dX10_laugh_37 : decode cX10_laugh 37 = .ok (.ishl, 1) := by decide +kernel
theorem dX10_laugh_38 : decode cX10_laugh 38 = .ok (.ior, 1) := by decide +kernel
theorem dX10_laugh_39 : decode cX10_laugh 39 = .ok (.istore_n 2, 1) := by decide +kernel
theorem dX10_laugh_40 : decode cX10_laugh 40 = .ok (.iinc 3 1, 3) := by decide +kernel
theorem dX10_laugh_43 : decode cX10_laugh 43 = .ok (.goto (-29), 3) := by decide +kernel
theorem dX10_laugh_46 : decode cX10_laugh 46 = .ok (.iload_n 2, 1) := by decide +kernel
theorem dX10_laugh_47 : decode cX10_laugh 47 = .ok (.iconst 1, 1) := by decide +kernel
theorem dX10_laugh_48 : decode cX10_laugh 48 = .ok (.if_icmp .ne 7, 3) := by decide +kernel
theorem dX10_laugh_51 : decode cX10_laugh 51 = .ok (.iconst 0, 1) := by decide +kernel
theorem dX10_laugh_52 : decode cX10_laugh 52 = .ok (.goto 14, 3) := by decide +kernel
theorem dX10_laugh_55 : decode cX10_laugh 55 = .ok (.iload_n 2, 1) := by decide +kernel
theorem dX10_laugh_56 : decode cX10_laugh 56 = .ok (.iconst 2, 1) := by decide +kernel
theorem dX10_laugh_57 : decode cX10_laugh 57 = .ok (.if_icmp .ne 7, 3) := by decide +kernel
theorem dX10_laugh_60 : decode cX10_laugh 60 = .ok (.iconst 1, 1) := by decide +kernel
theorem dX10_laugh_61 : decode cX10_laugh 61 = .ok (.goto 5, 3) := by decide +kernel
theorem dX10_laugh_64 : decode cX10_laugh 64 = .ok (.bipush (-9), 2) := by decide +kernel
theorem dX10_laugh_66 : decode cX10_laugh 66 = .ok (.ireturn, 1) := by decide +kernel
theorem dX10_common_0 : decode cX10_common 0 = .ok (.lload_n 0, 1) := by decide +kernel
theorem dX10_common_1 : decode cX10_common 1 = .ok (.lstore 4, 2) := by decide +kernel
theorem dX10_common_3 : decode cX10_common 3 = .ok (.lload_n 2, 1) := by decide +kernel
theorem dX10_common_4 : decode cX10_common 4 = .ok (.lstore 6, 2) := by decide +kernel
theorem dX10_common_6 : decode cX10_common 6 = .ok (.lload 6, 2) := by decide +kernel
theorem dX10_common_8 : decode cX10_common 8 = .ok (.lconst 0, 1) := by decide +kernel
theorem dX10_common_9 : decode cX10_common 9 = .ok (.lcmp, 1) := by decide +kernel
theorem dX10_common_10 : decode cX10_common 10 = .ok (.ifCond .eq 21, 3) := by decide +kernel
theorem dX10_common_13 : decode cX10_common 13 = .ok (.lload 4, 2) := by decide +kernel
theorem dX10_common_15 : decode cX10_common 15 = .ok (.lload 6, 2) := by decide +kernel
theorem dX10_common_17 : decode cX10_common 17 = .ok (.lrem, 1) := by decide +kernel
theorem dX10_common_18 : decode cX10_common 18 = .ok (.lstore 8, 2) := by decide +kernel
theorem dX10_common_20 : decode cX10_common 20 = .ok (.lload 6, 2) := by decide +kernel
theorem dX10_common_22 : decode cX10_common 22 = .ok (.lstore 4, 2) := by decide +kernel
theorem dX10_common_24 : decode cX10_common 24 = .ok (.lload 8, 2) := by decide +kernel
theorem dX10_common_26 : decode cX10_common 26 = .ok (.lstore 6, 2) := by decide +kernel
theorem dX10_common_28 : decode cX10_common 28 = .ok (.goto (-22), 3) := by decide +kernel
theorem dX10_common_31 : decode cX10_common 31 = .ok (.lload 4, 2) := by decide +kernel
theorem dX10_common_33 : decode cX10_common 33 = .ok (.lreturn, 1) := by decide +kernel
theorem dX10_odds_0 : decode cX10_odds 0 = .ok (.aload_n 0, 1) := by decide +kernel
theorem dX10_odds_1 : decode cX10_odds 1 = .ok (.iload_n 1, 1) := by decide +kernel
theorem dX10_odds_2 : decode cX10_odds 2 = .ok (.invokevirtual 111, 3) := by decide +kernel
theorem dX10_odds_5 : decode cX10_odds 5 = .ok (.ifCond .eq 34, 3) := by decide +kernel
theorem dX10_odds_8 : decode cX10_odds 8 = .ok (.iload_n 3, 1) := by decide +kernel
theorem dX10_odds_9 : decode cX10_odds 9 = .ok (.iconst 1, 1) := by decide +kernel
theorem dX10_odds_10 : decode cX10_odds 10 = .ok (.bipush 9, 2) := by decide +kernel
theorem dX10_odds_12 : decode cX10_odds 12 = .ok (.invokestatic 48, 3) := by decide +kernel
theorem dX10_odds_15 : decode cX10_odds 15 = .ok (.ifCond .eq 24, 3) := by decide +kernel
theorem dX10_odds_18 : decode cX10_odds 18 = .ok (.iload_n 2, 1) := by decide +kernel
theorem dX10_odds_19 : decode cX10_odds 19 = .ok (.iconst 1, 1) := by decide +kernel
theorem dX10_odds_20 : decode cX10_odds 20 = .ok (.iload_n 3, 1) := by decide +kernel
theorem dX10_odds_21 : decode cX10_odds 21 = .ok (.iconst 1, 1) := by decide +kernel
theorem dX10_odds_22 : decode cX10_odds 22 = .ok (.isub, 1) := by decide +kernel
theorem dX10_odds_23 : decode cX10_odds 23 = .ok (.invokestatic 48, 3) := by decide +kernel
theorem dX10_odds_26 : decode cX10_odds 26 = .ok (.ifCond .eq 13, 3) := by decide +kernel
theorem dX10_odds_29 : decode cX10_odds 29 = .ok (.iload 4, 2) := by decide +kernel
theorem dX10_odds_31 : decode cX10_odds 31 = .ok (.iconst 0, 1) := by decide +kernel
theorem dX10_odds_32 : decode cX10_odds 32 = .ok (.iconst 1, 1) := by decide +kernel
theorem dX10_odds_33 : decode cX10_odds 33 = .ok (.invokestatic 48, 3) := by decide +kernel
theorem dX10_odds_36 : decode cX10_odds 36 = .ok (.ifCond .ne 7, 3) := by decide +kernel
theorem dX10_odds_39 : decode cX10_odds 39 = .ok (.ldc2_w 160, 3) := by decide +kernel
theorem dX10_odds_42 : decode cX10_odds 42 = .ok (.lreturn, 1) := by decide +kernel
theorem dX10_odds_43 : decode cX10_odds 43 = .ok (.lconst 0, 1) := by decide +kernel
theorem dX10_odds_44 : decode cX10_odds 44 = .ok (.lstore 5, 2) := by decide +kernel
theorem dX10_odds_46 : decode cX10_odds 46 = .ok (.lconst 0, 1) := by decide +kernel
theorem dX10_odds_47 : decode cX10_odds 47 = .ok (.lstore 7, 2) := by decide +kernel
theorem dX10_odds_49 : decode cX10_odds 49 = .ok (.iconst 0, 1) := by decide +kernel
theorem dX10_odds_50 : decode cX10_odds 50 = .ok (.istore 9, 2) := by decide +kernel
theorem dX10_odds_52 : decode cX10_odds 52 = .ok (.iload 9, 2) := by decide +kernel
theorem dX10_odds_54 : decode cX10_odds 54 = .ok (.aload_n 0, 1) := by decide +kernel
theorem dX10_odds_55 : decode cX10_odds 55 = .ok (.invokevirtual 127, 3) := by decide +kernel
theorem dX10_odds_58 : decode cX10_odds 58 = .ok (.if_icmp .ge 111, 3) := by decide +kernel
theorem dX10_odds_61 : decode cX10_odds 61 = .ok (.aload_n 0, 1) := by decide +kernel
theorem dX10_odds_62 : decode cX10_odds 62 = .ok (.iload 9, 2) := by decide +kernel
theorem dX10_odds_64 : decode cX10_odds 64 = .ok (.invokevirtual 130, 3) := by decide +kernel
theorem dX10_odds_67 : decode cX10_odds 67 = .ok (.ifCond .eq 96, 3) := by decide +kernel
theorem dX10_odds_70 : decode cX10_odds 70 = .ok (.lconst 1, 1) := by decide +kernel
theorem dX10_odds_71 : decode cX10_odds 71 = .ok (.lstore 10, 2) := by decide +kernel
theorem dX10_odds_73 : decode cX10_odds 73 = .ok (.iconst 0, 1) := by decide +kernel
theorem dX10_odds_74 : decode cX10_odds 74 = .ok (.istore 12, 2) := by decide +kernel
theorem dX10_odds_76 : decode cX10_odds 76 = .ok (.iload 12, 2) := by decide +kernel
theorem dX10_odds_78 : decode cX10_odds 78 = .ok (.aload_n 0, 1) := by decide +kernel
theorem dX10_odds_79 : decode cX10_odds 79 = .ok (.getfield 23, 3) := by decide +kernel
theorem dX10_odds_82 : decode cX10_odds 82 = .ok (.iconst 0, 1) := by decide +kernel
theorem dX10_odds_83 : decode cX10_odds 83 = .ok (.iaload, 1) := by decide +kernel
theorem dX10_odds_84 : decode cX10_odds 84 = .ok (.if_icmp .ge 52, 3) := by decide +kernel
theorem dX10_odds_87 : decode cX10_odds 87 = .ok (.lload 10, 2) := by decide +kernel
theorem dX10_odds_89 : decode cX10_odds 89 = .ok (.aload_n 0, 1) := by decide +kernel
theorem dX10_odds_90 : decode cX10_odds 90 = .ok (.getfield 26, 3) := by decide +kernel
theorem dX10_odds_93 : decode cX10_odds 93 = .ok (.iconst 3, 1) := by decide +kernel
theorem dX10_odds_94 : decode cX10_odds 94 = .ok (.iload 12, 2) := by decide +kernel
theorem dX10_odds_96 : decode cX10_odds 96 = .ok (.imul, 1) := by decide +kernel
theorem dX10_odds_97 : decode cX10_odds 97 = .ok (.iconst 2, 1) := by decide +kernel
theorem dX10_odds_98 : decode cX10_odds 98 = .ok (.iadd, 1) := by decide +kernel
theorem dX10_odds_99 : decode cX10_odds 99 = .ok (.iaload, 1) := by decide +kernel
theorem dX10_odds_100 : decode cX10_odds 100 = .ok (.iconst 2, 1) := by decide +kernel
theorem dX10_odds_101 : decode cX10_odds 101 = .ok (.if_icmp .ge 7, 3) := by decide +kernel
theorem dX10_odds_104 : decode cX10_odds 104 = .ok (.lconst 1, 1) := by decide +kernel
theorem dX10_odds_105 : decode cX10_odds 105 = .ok (.goto 22, 3) := by decide +kernel
theorem dX10_odds_108 : decode cX10_odds 108 = .ok (.aload_n 0, 1) := by decide +kernel
theorem dX10_odds_109 : decode cX10_odds 109 = .ok (.iload 12, 2) := by decide +kernel
theorem dX10_odds_111 : decode cX10_odds 111 = .ok (.invokevirtual 117, 3) := by decide +kernel
theorem dX10_odds_114 : decode cX10_odds 114 = .ok (.iconst 1, 1) := by decide +kernel
theorem dX10_odds_115 : decode cX10_odds 115 = .ok (.if_icmp .ne 8, 3) := by decide +kernel
theorem dX10_odds_118 : decode cX10_odds 118 = .ok (.iload_n 2, 1) := by decide +kernel
theorem dX10_odds_119 : decode cX10_odds 119 = .ok (.i2l, 1) := by decide +kernel
theorem dX10_odds_120 : decode cX10_odds 120 = .ok (.goto 7, 3) := by decide +kernel
theorem dX10_odds_123 : decode cX10_odds 123 = .ok (.iload_n 3, 1) := by decide +kernel
theorem dX10_odds_124 : decode cX10_odds 124 = .ok (.iload_n 2, 1) := by decide +kernel
theorem dX10_odds_125 : decode cX10_odds 125 = .ok (.isub, 1) := by decide +kernel
theorem dX10_odds_126 : decode cX10_odds 126 = .ok (.i2l, 1) := by decide +kernel
theorem dX10_odds_127 : decode cX10_odds 127 = .ok (.lmul, 1) := by decide +kernel
theorem dX10_odds_128 : decode cX10_odds 128 = .ok (.lstore 10, 2) := by decide +kernel
theorem dX10_odds_130 : decode cX10_odds 130 = .ok (.iinc 12 1, 3) := by decide +kernel
theorem dX10_odds_133 : decode cX10_odds 133 = .ok (.goto (-57), 3) := by decide +kernel
theorem dX10_odds_136 : decode cX10_odds 136 = .ok (.lload 5, 2) := by decide +kernel
theorem dX10_odds_138 : decode cX10_odds 138 = .ok (.aload_n 0, 1) := by decide +kernel
theorem dX10_odds_139 : decode cX10_odds 139 = .ok (.iload_n 1, 1) := by decide +kernel
theorem dX10_odds_140 : decode cX10_odds 140 = .ok (.invokevirtual 117, 3) := by decide +kernel
theorem dX10_odds_143 : decode cX10_odds 143 = .ok (.iconst 1, 1) := by decide +kernel
theorem dX10_odds_144 : decode cX10_odds 144 = .ok (.if_icmp .ne 8, 3) := by decide +kernel
theorem dX10_odds_147 : decode cX10_odds 147 = .ok (.lload 10, 2) := by decide +kernel
theorem dX10_odds_149 : decode cX10_odds 149 = .ok (.goto 4, 3) := by decide +kernel
theorem dX10_odds_152 : decode cX10_odds 152 = .ok (.lconst 0, 1) := by decide +kernel
theorem dX10_odds_153 : decode cX10_odds 153 = .ok (.ladd, 1) := by decide +kernel
theorem dX10_odds_154 : decode cX10_odds 154 = .ok (.lstore 5, 2) := by decide +kernel
theorem dX10_odds_156 : decode cX10_odds 156 = .ok (.lload 7, 2) := by decide +kernel
theorem dX10_odds_158 : decode cX10_odds 158 = .ok (.lload 10, 2) := by decide +kernel
theorem dX10_odds_160 : decode cX10_odds 160 = .ok (.ladd, 1) := by decide +kernel
theorem dX10_odds_161 : decode cX10_odds 161 = .ok (.lstore 7, 2) := by decide +kernel
theorem dX10_odds_163 : decode cX10_odds 163 = .ok (.iinc 9 1, 3) := by decide +kernel
theorem dX10_odds_166 : decode cX10_odds 166 = .ok (.goto (-114), 3) := by decide +kernel
theorem dX10_odds_169 : decode cX10_odds 169 = .ok (.lload 7, 2) := by decide +kernel
theorem dX10_odds_171 : decode cX10_odds 171 = .ok (.lconst 0, 1) := by decide +kernel
theorem dX10_odds_172 : decode cX10_odds 172 = .ok (.lcmp, 1) := by decide +kernel
theorem dX10_odds_173 : decode cX10_odds 173 = .ok (.ifCond .ne 7, 3) := by decide +kernel
theorem dX10_odds_176 : decode cX10_odds 176 = .ok (.ldc2_w 162, 3) := by decide +kernel
theorem dX10_odds_179 : decode cX10_odds 179 = .ok (.lreturn, 1) := by decide +kernel
theorem dX10_odds_180 : decode cX10_odds 180 = .ok (.lload 5, 2) := by decide +kernel
theorem dX10_odds_182 : decode cX10_odds 182 = .ok (.lload 7, 2) := by decide +kernel
theorem dX10_odds_184 : decode cX10_odds 184 = .ok (.invokestatic 164, 3) := by decide +kernel
theorem dX10_odds_187 : decode cX10_odds 187 = .ok (.lstore 9, 2) := by decide +kernel
theorem dX10_odds_189 : decode cX10_odds 189 = .ok (.iload 4, 2) := by decide +kernel
theorem dX10_odds_191 : decode cX10_odds 191 = .ok (.ifCond .ne 11, 3) := by decide +kernel
theorem dX10_odds_194 : decode cX10_odds 194 = .ok (.lload 5, 2) := by decide +kernel
theorem dX10_odds_196 : decode cX10_odds 196 = .ok (.lload 9, 2) := by decide +kernel
theorem dX10_odds_198 : decode cX10_odds 198 = .ok (.ldiv, 1) := by decide +kernel
theorem dX10_odds_199 : decode cX10_odds 199 = .ok (.goto 8, 3) := by decide +kernel
theorem dX10_odds_202 : decode cX10_odds 202 = .ok (.lload 7, 2) := by decide +kernel
theorem dX10_odds_204 : decode cX10_odds 204 = .ok (.lload 9, 2) := by decide +kernel
theorem dX10_odds_206 : decode cX10_odds 206 = .ok (.ldiv, 1) := by decide +kernel
theorem dX10_odds_207 : decode cX10_odds 207 = .ok (.lreturn, 1) := by decide +kernel
theorem dX10_sack_0 : decode cX10_sack 0 = .ok (.iload_n 1, 1) := by decide +kernel
theorem dX10_sack_1 : decode cX10_sack 1 = .ok (.iconst 0, 1) := by decide +kernel
theorem dX10_sack_2 : decode cX10_sack 2 = .ok (.bipush 27, 2) := by decide +kernel
theorem dX10_sack_4 : decode cX10_sack 4 = .ok (.invokestatic 48, 3) := by decide +kernel
theorem dX10_sack_7 : decode cX10_sack 7 = .ok (.ifCond .eq 12, 3) := by decide +kernel
theorem dX10_sack_10 : decode cX10_sack 10 = .ok (.iload_n 2, 1) := by decide +kernel
theorem dX10_sack_11 : decode cX10_sack 11 = .ok (.iconst 0, 1) := by decide +kernel
theorem dX10_sack_12 : decode cX10_sack 12 = .ok (.iconst 2, 1) := by decide +kernel
theorem dX10_sack_13 : decode cX10_sack 13 = .ok (.invokestatic 48, 3) := by decide +kernel
theorem dX10_sack_16 : decode cX10_sack 16 = .ok (.ifCond .ne 5, 3) := by decide +kernel
theorem dX10_sack_19 : decode cX10_sack 19 = .ok (.iconst (-1), 1) := by decide +kernel
theorem dX10_sack_20 : decode cX10_sack 20 = .ok (.ireturn, 1) := by decide +kernel
theorem dX10_sack_21 : decode cX10_sack 21 = .ok (.bipush (-9), 2) := by decide +kernel
theorem dX10_sack_23 : decode cX10_sack 23 = .ok (.istore_n 3, 1) := by decide +kernel
theorem dX10_sack_24 : decode cX10_sack 24 = .ok (.bipush (-9), 2) := by decide +kernel
theorem dX10_sack_26 : decode cX10_sack 26 = .ok (.istore 4, 2) := by decide +kernel
theorem dX10_sack_28 : decode cX10_sack 28 = .ok (.iconst 0, 1) := by decide +kernel
theorem dX10_sack_29 : decode cX10_sack 29 = .ok (.istore 5, 2) := by decide +kernel
theorem dX10_sack_31 : decode cX10_sack 31 = .ok (.iload 5, 2) := by decide +kernel
theorem dX10_sack_33 : decode cX10_sack 33 = .ok (.iconst 1, 1) := by decide +kernel
theorem dX10_sack_34 : decode cX10_sack 34 = .ok (.aload_n 0, 1) := by decide +kernel
theorem dX10_sack_35 : decode cX10_sack 35 = .ok (.getfield 13, 3) := by decide +kernel
theorem dX10_sack_38 : decode cX10_sack 38 = .ok (.iconst 0, 1) := by decide +kernel
theorem dX10_sack_39 : decode cX10_sack 39 = .ok (.iaload, 1) := by decide +kernel
theorem dX10_sack_40 : decode cX10_sack 40 = .ok (.ishl, 1) := by decide +kernel
theorem dX10_sack_41 : decode cX10_sack 41 = .ok (.if_icmp .ge 99, 3) := by decide +kernel
theorem dX10_sack_44 : decode cX10_sack 44 = .ok (.iconst 0, 1) := by decide +kernel
theorem dX10_sack_45 : decode cX10_sack 45 = .ok (.istore 6, 2) := by decide +kernel
theorem dX10_sack_47 : decode cX10_sack 47 = .ok (.iload 6, 2) := by decide +kernel
theorem dX10_sack_49 : decode cX10_sack 49 = .ok (.iconst 1, 1) := by decide +kernel
theorem dX10_sack_50 : decode cX10_sack 50 = .ok (.aload_n 0, 1) := by decide +kernel
theorem dX10_sack_51 : decode cX10_sack 51 = .ok (.getfield 13, 3) := by decide +kernel
theorem dX10_sack_54 : decode cX10_sack 54 = .ok (.iconst 0, 1) := by decide +kernel
theorem dX10_sack_55 : decode cX10_sack 55 = .ok (.iaload, 1) := by decide +kernel
theorem dX10_sack_56 : decode cX10_sack 56 = .ok (.ishl, 1) := by decide +kernel
theorem dX10_sack_57 : decode cX10_sack 57 = .ok (.if_icmp .ge 77, 3) := by decide +kernel
theorem dX10_sack_60 : decode cX10_sack 60 = .ok (.iload 5, 2) := by decide +kernel
theorem dX10_sack_62 : decode cX10_sack 62 = .ok (.iload 6, 2) := by decide +kernel
theorem dX10_sack_64 : decode cX10_sack 64 = .ok (.iand, 1) := by decide +kernel
theorem dX10_sack_65 : decode cX10_sack 65 = .ok (.ifCond .ne 24, 3) := by decide +kernel
theorem dX10_sack_68 : decode cX10_sack 68 = .ok (.aload_n 0, 1) := by decide +kernel
theorem dX10_sack_69 : decode cX10_sack 69 = .ok (.iload 5, 2) := by decide +kernel
theorem dX10_sack_71 : decode cX10_sack 71 = .ok (.invokevirtual 103, 3) := by decide +kernel
theorem dX10_sack_74 : decode cX10_sack 74 = .ok (.aload_n 0, 1) := by decide +kernel
theorem dX10_sack_75 : decode cX10_sack 75 = .ok (.iload 6, 2) := by decide +kernel
theorem dX10_sack_77 : decode cX10_sack 77 = .ok (.invokevirtual 103, 3) := by decide +kernel
theorem dX10_sack_80 : decode cX10_sack 80 = .ok (.isub, 1) := by decide +kernel
theorem dX10_sack_81 : decode cX10_sack 81 = .ok (.iload_n 1, 1) := by decide +kernel
theorem dX10_sack_82 : decode cX10_sack 82 = .ok (.if_icmp .ne 7, 3) := by decide +kernel
theorem dX10_sack_85 : decode cX10_sack 85 = .ok (.iconst 1, 1) := by decide +kernel
theorem dX10_sack_86 : decode cX10_sack 86 = .ok (.goto 4, 3) := by decide +kernel
theorem dX10_sack_89 : decode cX10_sack 89 = .ok (.iconst 0, 1) := by decide +kernel
theorem dX10_sack_90 : decode cX10_sack 90 = .ok (.istore 7, 2) := by decide +kernel
theorem dX10_sack_92 : decode cX10_sack 92 = .ok (.iload 7, 2) := by decide +kernel
theorem dX10_sack_94 : decode cX10_sack 94 = .ok (.ifCond .eq 34, 3) := by decide +kernel
theorem dX10_sack_97 : decode cX10_sack 97 = .ok (.iload_n 3, 1) := by decide +kernel
theorem dX10_sack_98 : decode cX10_sack 98 = .ok (.bipush (-9), 2) := by decide +kernel
theorem dX10_sack_100 : decode cX10_sack 100 = .ok (.if_icmp .eq 21, 3) := by decide +kernel
theorem dX10_sack_103 : decode cX10_sack 103 = .ok (.iload 5, 2) := by decide +kernel
theorem dX10_sack_105 : decode cX10_sack 105 = .ok (.iload 6, 2) := by decide +kernel
theorem dX10_sack_107 : decode cX10_sack 107 = .ok (.ior, 1) := by decide +kernel
theorem dX10_sack_108 : decode cX10_sack 108 = .ok (.invokestatic 139, 3) := by decide +kernel
theorem dX10_sack_111 : decode cX10_sack 111 = .ok (.iload_n 3, 1) := by decide +kernel
theorem dX10_sack_112 : decode cX10_sack 112 = .ok (.iload 4, 2) := by decide +kernel
theorem dX10_sack_114 : decode cX10_sack 114 = .ok (.ior, 1) := by decide +kernel
theorem dX10_sack_115 : decode cX10_sack 115 = .ok (.invokestatic 139, 3) := by decide +kernel
theorem dX10_sack_118 : decode cX10_sack 118 = .ok (.if_icmp .ge 10, 3) := by decide +kernel
theorem dX10_sack_121 : decode cX10_sack 121 = .ok (.iload 5, 2) := by decide +kernel
theorem dX10_sack_123 : decode cX10_sack 123 = .ok (.istore_n 3, 1) := by decide +kernel
theorem dX10_sack_124 : decode cX10_sack 124 = .ok (.iload 6, 2) := by decide +kernel
theorem dX10_sack_126 : decode cX10_sack 126 = .ok (.istore 4, 2) := by decide +kernel
theorem dX10_sack_128 : decode cX10_sack 128 = .ok (.iinc 6 1, 3) := by decide +kernel
theorem dX10_sack_131 : decode cX10_sack 131 = .ok (.goto (-84), 3) := by decide +kernel
theorem dX10_sack_134 : decode cX10_sack 134 = .ok (.iinc 5 1, 3) := by decide +kernel
theorem dX10_sack_137 : decode cX10_sack 137 = .ok (.goto (-106), 3) := by decide +kernel
theorem dX10_sack_140 : decode cX10_sack 140 = .ok (.iload_n 2, 1) := by decide +kernel
theorem dX10_sack_141 : decode cX10_sack 141 = .ok (.ifCond .ne 19, 3) := by decide +kernel
theorem dX10_sack_144 : decode cX10_sack 144 = .ok (.iload_n 3, 1) := by decide +kernel
theorem dX10_sack_145 : decode cX10_sack 145 = .ok (.bipush (-9), 2) := by decide +kernel
theorem dX10_sack_147 : decode cX10_sack 147 = .ok (.if_icmp .eq 13, 3) := by decide +kernel
theorem dX10_sack_150 : decode cX10_sack 150 = .ok (.iload_n 3, 1) := by decide +kernel
theorem dX10_sack_151 : decode cX10_sack 151 = .ok (.iload 4, 2) := by decide +kernel
theorem dX10_sack_153 : decode cX10_sack 153 = .ok (.ior, 1) := by decide +kernel
theorem dX10_sack_154 : decode cX10_sack 154 = .ok (.invokestatic 139, 3) := by decide +kernel
theorem dX10_sack_157 : decode cX10_sack 157 = .ok (.goto 14, 3) := by decide +kernel
theorem dX10_sack_160 : decode cX10_sack 160 = .ok (.iload_n 2, 1) := by decide +kernel
theorem dX10_sack_161 : decode cX10_sack 161 = .ok (.iconst 2, 1) := by decide +kernel
theorem dX10_sack_162 : decode cX10_sack 162 = .ok (.if_icmp .ne 8, 3) := by decide +kernel
theorem dX10_sack_165 : decode cX10_sack 165 = .ok (.iload 4, 2) := by decide +kernel
theorem dX10_sack_167 : decode cX10_sack 167 = .ok (.goto 4, 3) := by decide +kernel
theorem dX10_sack_170 : decode cX10_sack 170 = .ok (.iload_n 3, 1) := by decide +kernel
theorem dX10_sack_171 : decode cX10_sack 171 = .ok (.ireturn, 1) := by decide +kernel
theorem dX10_byTurns_0 : decode cX10_byTurns 0 = .ok (.iconst 1, 1) := by decide +kernel
theorem dX10_byTurns_1 : decode cX10_byTurns 1 = .ok (.aload_n 0, 1) := by decide +kernel
theorem dX10_byTurns_2 : decode cX10_byTurns 2 = .ok (.getfield 13, 3) := by decide +kernel
theorem dX10_byTurns_5 : decode cX10_byTurns 5 = .ok (.iconst 0, 1) := by decide +kernel
theorem dX10_byTurns_6 : decode cX10_byTurns 6 = .ok (.iaload, 1) := by decide +kernel
theorem dX10_byTurns_7 : decode cX10_byTurns 7 = .ok (.ishl, 1) := by decide +kernel
theorem dX10_byTurns_8 : decode cX10_byTurns 8 = .ok (.iconst 1, 1) := by decide +kernel
theorem dX10_byTurns_9 : decode cX10_byTurns 9 = .ok (.isub, 1) := by decide +kernel
theorem dX10_byTurns_10 : decode cX10_byTurns 10 = .ok (.istore_n 1, 1) := by decide +kernel
theorem dX10_byTurns_11 : decode cX10_byTurns 11 = .ok (.iload_n 1, 1) := by decide +kernel
theorem dX10_byTurns_12 : decode cX10_byTurns 12 = .ok (.istore_n 2, 1) := by decide +kernel
theorem dX10_byTurns_13 : decode cX10_byTurns 13 = .ok (.iload_n 2, 1) := by decide +kernel
theorem dX10_byTurns_14 : decode cX10_byTurns 14 = .ok (.ifCond .lt 125, 3) := by decide +kernel
theorem dX10_byTurns_17 : decode cX10_byTurns 17 = .ok (.iload_n 2, 1) := by decide +kernel
theorem dX10_byTurns_18 : decode cX10_byTurns 18 = .ok (.invokestatic 139, 3) := by decide +kernel
theorem dX10_byTurns_21 : decode cX10_byTurns 21 = .ok (.iconst 2, 1) := by decide +kernel
theorem dX10_byTurns_22 : decode cX10_byTurns 22 = .ok (.irem, 1) := by decide +kernel
theorem dX10_byTurns_23 : decode cX10_byTurns 23 = .ok (.ifCond .ne 7, 3) := by decide +kernel
theorem dX10_byTurns_26 : decode cX10_byTurns 26 = .ok (.iconst 1, 1) := by decide +kernel
theorem dX10_byTurns_27 : decode cX10_byTurns 27 = .ok (.goto 4, 3) := by decide +kernel
theorem dX10_byTurns_30 : decode cX10_byTurns 30 = .ok (.iconst 0, 1) := by decide +kernel
theorem dX10_byTurns_31 : decode cX10_byTurns 31 = .ok (.istore_n 3, 1) := by decide +kernel
theorem dX10_byTurns_32 : decode cX10_byTurns 32 = .ok (.aload_n 0, 1) := by decide +kernel
theorem dX10_byTurns_33 : decode cX10_byTurns 33 = .ok (.iload_n 2, 1) := by decide +kernel
theorem dX10_byTurns_34 : decode cX10_byTurns 34 = .ok (.invokevirtual 103, 3) := by decide +kernel
theorem dX10_byTurns_37 : decode cX10_byTurns 37 = .ok (.aload_n 0, 1) := by decide +kernel
theorem dX10_byTurns_38 : decode cX10_byTurns 38 = .ok (.getfield 20, 3) := by decide +kernel
theorem dX10_byTurns_41 : decode cX10_byTurns 41 = .ok (.iconst 0, 1) := by decide +kernel
theorem dX10_byTurns_42 : decode cX10_byTurns 42 = .ok (.iaload, 1) := by decide +kernel
theorem dX10_byTurns_43 : decode cX10_byTurns 43 = .ok (.irem, 1) := by decide +kernel
theorem dX10_byTurns_44 : decode cX10_byTurns 44 = .ok (.istore 4, 2) := by decide +kernel
theorem dX10_byTurns_46 : decode cX10_byTurns 46 = .ok (.iconst 0, 1) := by decide +kernel
theorem dX10_byTurns_47 : decode cX10_byTurns 47 = .ok (.istore 5, 2) := by decide +kernel
theorem dX10_byTurns_49 : decode cX10_byTurns 49 = .ok (.iload 5, 2) := by decide +kernel
theorem dX10_byTurns_51 : decode cX10_byTurns 51 = .ok (.aload_n 0, 1) := by decide +kernel
theorem dX10_byTurns_52 : decode cX10_byTurns 52 = .ok (.getfield 13, 3) := by decide +kernel
theorem dX10_byTurns_55 : decode cX10_byTurns 55 = .ok (.iconst 0, 1) := by decide +kernel
theorem dX10_byTurns_56 : decode cX10_byTurns 56 = .ok (.iaload, 1) := by decide +kernel
theorem dX10_byTurns_57 : decode cX10_byTurns 57 = .ok (.if_icmp .ge 68, 3) := by decide +kernel
theorem dX10_byTurns_60 : decode cX10_byTurns 60 = .ok (.iload_n 2, 1) := by decide +kernel
theorem dX10_byTurns_61 : decode cX10_byTurns 61 = .ok (.iload 5, 2) := by decide +kernel
theorem dX10_byTurns_63 : decode cX10_byTurns 63 = .ok (.ishr, 1) := by decide +kernel
theorem dX10_byTurns_64 : decode cX10_byTurns 64 = .ok (.iconst 1, 1) := by decide +kernel
theorem dX10_byTurns_65 : decode cX10_byTurns 65 = .ok (.iand, 1) := by decide +kernel
theorem dX10_byTurns_66 : decode cX10_byTurns 66 = .ok (.ifCond .ne 53, 3) := by decide +kernel
theorem dX10_byTurns_69 : decode cX10_byTurns 69 = .ok (.aload_n 0, 1) := by decide +kernel
theorem dX10_byTurns_70 : decode cX10_byTurns 70 = .ok (.getfield 45, 3) := by decide +kernel
theorem dX10_byTurns_73 : decode cX10_byTurns 73 = .ok (.iload_n 2, 1) := by decide +kernel
theorem dX10_byTurns_74 : decode cX10_byTurns 74 = .ok (.iconst 1, 1) := by decide +kernel
theorem dX10_byTurns_75 : decode cX10_byTurns 75 = .ok (.iload 5, 2) := by decide +kernel
theorem dX10_byTurns_77 : decode cX10_byTurns 77 = .ok (.ishl, 1) := by decide +kernel
theorem dX10_byTurns_78 : decode cX10_byTurns 78 = .ok (.ior, 1) := by decide +kernel
theorem dX10_byTurns_79 : decode cX10_byTurns 79 = .ok (.iaload, 1) := by decide +kernel
theorem dX10_byTurns_80 : decode cX10_byTurns 80 = .ok (.istore 6, 2) := by decide +kernel
theorem dX10_byTurns_82 : decode cX10_byTurns 82 = .ok (.iload_n 3, 1) := by decide +kernel
theorem dX10_byTurns_83 : decode cX10_byTurns 83 = .ok (.ifCond .eq 20, 3) := by decide +kernel
theorem dX10_byTurns_86 : decode cX10_byTurns 86 = .ok (.iload 6, 2) := by decide +kernel
theorem dX10_byTurns_88 : decode cX10_byTurns 88 = .ok (.iload 4, 2) := by decide +kernel
theorem dX10_byTurns_90 : decode cX10_byTurns 90 = .ok (.if_icmp .le 8, 3) := by decide +kernel
theorem dX10_byTurns_93 : decode cX10_byTurns 93 = .ok (.iload 6, 2) := by decide +kernel
theorem dX10_byTurns_95 : decode cX10_byTurns 95 = .ok (.goto 22, 3) := by decide +kernel
theorem dX10_byTurns_98 : decode cX10_byTurns 98 = .ok (.iload 4, 2) := by decide +kernel
theorem dX10_byTurns_100 : decode cX10_byTurns 100 = .ok (.goto 17, 3) := by decide +kernel
theorem dX10_byTurns_103 : decode cX10_byTurns 103 = .ok (.iload 6, 2) := by decide +kernel
theorem dX10_byTurns_105 : decode cX10_byTurns 105 = .ok (.iload 4, 2) := by decide +kernel
theorem dX10_byTurns_107 : decode cX10_byTurns 107 = .ok (.if_icmp .ge 8, 3) := by decide +kernel
theorem dX10_byTurns_110 : decode cX10_byTurns 110 = .ok (.iload 6, 2) := by decide +kernel
theorem dX10_byTurns_112 : decode cX10_byTurns 112 = .ok (.goto 5, 3) := by decide +kernel
theorem dX10_byTurns_115 : decode cX10_byTurns 115 = .ok (.iload 4, 2) := by decide +kernel
theorem dX10_byTurns_117 : decode cX10_byTurns 117 = .ok (.istore 4, 2) := by decide +kernel
theorem dX10_byTurns_119 : decode cX10_byTurns 119 = .ok (.iinc 5 1, 3) := by decide +kernel
theorem dX10_byTurns_122 : decode cX10_byTurns 122 = .ok (.goto (-73), 3) := by decide +kernel
theorem dX10_byTurns_125 : decode cX10_byTurns 125 = .ok (.aload_n 0, 1) := by decide +kernel
theorem dX10_byTurns_126 : decode cX10_byTurns 126 = .ok (.getfield 45, 3) := by decide +kernel
theorem dX10_byTurns_129 : decode cX10_byTurns 129 = .ok (.iload_n 2, 1) := by decide +kernel
theorem dX10_byTurns_130 : decode cX10_byTurns 130 = .ok (.iload 4, 2) := by decide +kernel
theorem dX10_byTurns_132 : decode cX10_byTurns 132 = .ok (.iastore, 1) := by decide +kernel
theorem dX10_byTurns_133 : decode cX10_byTurns 133 = .ok (.iinc 2 (-1), 3) := by decide +kernel
theorem dX10_byTurns_136 : decode cX10_byTurns 136 = .ok (.goto (-123), 3) := by decide +kernel
theorem dX10_byTurns_139 : decode cX10_byTurns 139 = .ok (.aload_n 0, 1) := by decide +kernel
theorem dX10_byTurns_140 : decode cX10_byTurns 140 = .ok (.getfield 45, 3) := by decide +kernel
theorem dX10_byTurns_143 : decode cX10_byTurns 143 = .ok (.iconst 0, 1) := by decide +kernel
theorem dX10_byTurns_144 : decode cX10_byTurns 144 = .ok (.iaload, 1) := by decide +kernel
theorem dX10_byTurns_145 : decode cX10_byTurns 145 = .ok (.ireturn, 1) := by decide +kernel
theorem dX10_mark_0 : decode cX10_mark 0 = .ok (.iload_n 1, 1) := by decide +kernel
theorem dX10_mark_1 : decode cX10_mark 1 = .ok (.iconst 0, 1) := by decide +kernel
theorem dX10_mark_2 : decode cX10_mark 2 = .ok (.iconst 5, 1) := by decide +kernel
theorem dX10_mark_3 : decode cX10_mark 3 = .ok (.invokestatic 48, 3) := by decide +kernel
theorem dX10_mark_6 : decode cX10_mark 6 = .ok (.ifCond .eq 11, 3) := by decide +kernel
theorem dX10_mark_9 : decode cX10_mark 9 = .ok (.aload_n 0, 1) := by decide +kernel
theorem dX10_mark_10 : decode cX10_mark 10 = .ok (.iload_n 2, 1) := by decide +kernel
theorem dX10_mark_11 : decode cX10_mark 11 = .ok (.invokevirtual 96, 3) := by decide +kernel
theorem dX10_mark_14 : decode cX10_mark 14 = .ok (.ifCond .ne 6, 3) := by decide +kernel
theorem dX10_mark_17 : decode cX10_mark 17 = .ok (.ldc 168, 2) := by decide +kernel
theorem dX10_mark_19 : decode cX10_mark 19 = .ok (.ireturn, 1) := by decide +kernel
theorem dX10_mark_20 : decode cX10_mark 20 = .ok (.aload_n 0, 1) := by decide +kernel
theorem dX10_mark_21 : decode cX10_mark 21 = .ok (.getfield 17, 3) := by decide +kernel
theorem dX10_mark_24 : decode cX10_mark 24 = .ok (.iload_n 2, 1) := by decide +kernel
theorem dX10_mark_25 : decode cX10_mark 25 = .ok (.iaload, 1) := by decide +kernel
theorem dX10_mark_26 : decode cX10_mark 26 = .ok (.istore_n 3, 1) := by decide +kernel
theorem dX10_mark_27 : decode cX10_mark 27 = .ok (.iconst 0, 1) := by decide +kernel
theorem dX10_mark_28 : decode cX10_mark 28 = .ok (.istore 4, 2) := by decide +kernel
theorem dX10_mark_30 : decode cX10_mark 30 = .ok (.iconst 0, 1) := by decide +kernel
theorem dX10_mark_31 : decode cX10_mark 31 = .ok (.istore 5, 2) := by decide +kernel
theorem dX10_mark_33 : decode cX10_mark 33 = .ok (.iload 5, 2) := by decide +kernel
theorem dX10_mark_35 : decode cX10_mark 35 = .ok (.aload_n 0, 1) := by decide +kernel
theorem dX10_mark_36 : decode cX10_mark 36 = .ok (.getfield 23, 3) := by decide +kernel
theorem dX10_mark_39 : decode cX10_mark 39 = .ok (.iconst 0, 1) := by decide +kernel
theorem dX10_mark_40 : decode cX10_mark 40 = .ok (.iaload, 1) := by decide +kernel
theorem dX10_mark_41 : decode cX10_mark 41 = .ok (.if_icmp .ge 27, 3) := by decide +kernel
theorem dX10_mark_44 : decode cX10_mark 44 = .ok (.iload 4, 2) := by decide +kernel
theorem dX10_mark_46 : decode cX10_mark 46 = .ok (.aload_n 0, 1) := by decide +kernel
theorem dX10_mark_47 : decode cX10_mark 47 = .ok (.getfield 26, 3) := by decide +kernel
theorem dX10_mark_50 : decode cX10_mark 50 = .ok (.iconst 3, 1) := by decide +kernel
theorem dX10_mark_51 : decode cX10_mark 51 = .ok (.iload 5, 2) := by decide +kernel
theorem dX10_mark_53 : decode cX10_mark 53 = .ok (.imul, 1) := by decide +kernel
theorem dX10_mark_54 : decode cX10_mark 54 = .ok (.iaload, 1) := by decide +kernel
theorem dX10_mark_55 : decode cX10_mark 55 = .ok (.iload_n 2, 1) := by decide +kernel
theorem dX10_mark_56 : decode cX10_mark 56 = .ok (.ishr, 1) := by decide +kernel
theorem dX10_mark_57 : decode cX10_mark 57 = .ok (.iconst 1, 1) := by decide +kernel
theorem dX10_mark_58 : decode cX10_mark 58 = .ok (.iand, 1) := by decide +kernel
theorem dX10_mark_59 : decode cX10_mark 59 = .ok (.iadd, 1) := by decide +kernel
theorem dX10_mark_60 : decode cX10_mark 60 = .ok (.istore 4, 2) := by decide +kernel
theorem dX10_mark_62 : decode cX10_mark 62 = .ok (.iinc 5 1, 3) := by decide +kernel
theorem dX10_mark_65 : decode cX10_mark 65 = .ok (.goto (-32), 3) := by decide +kernel
theorem dX10_mark_68 : decode cX10_mark 68 = .ok (.iload_n 1, 1) := by decide +kernel
theorem dX10_mark_69 : decode cX10_mark 69 = .ok (.tableswitch 130 0 4 #[35, 47, 68, 84, 112], 35) := by decide +kernel
theorem dX10_mark_104 : decode cX10_mark 104 = .ok (.aload_n 0, 1) := by decide +kernel
theorem dX10_mark_105 : decode cX10_mark 105 = .ok (.dup, 1) := by decide +kernel
theorem dX10_mark_106 : decode cX10_mark 106 = .ok (.getfield 169, 3) := by decide +kernel
theorem dX10_mark_109 : decode cX10_mark 109 = .ok (.lconst 1, 1) := by decide +kernel
theorem dX10_mark_110 : decode cX10_mark 110 = .ok (.ladd, 1) := by decide +kernel
theorem dX10_mark_111 : decode cX10_mark 111 = .ok (.putfield 169, 3) := by decide +kernel
theorem dX10_mark_114 : decode cX10_mark 114 = .ok (.iload_n 3, 1) := by decide +kernel
theorem dX10_mark_115 : decode cX10_mark 115 = .ok (.ireturn, 1) := by decide +kernel
theorem dX10_mark_116 : decode cX10_mark 116 = .ok (.aload_n 0, 1) := by decide +kernel
theorem dX10_mark_117 : decode cX10_mark 117 = .ok (.dup, 1) := by decide +kernel
theorem dX10_mark_118 : decode cX10_mark 118 = .ok (.getfield 169, 3) := by decide +kernel
theorem dX10_mark_121 : decode cX10_mark 121 = .ok (.ldc2_w 173, 3) := by decide +kernel
theorem dX10_mark_124 : decode cX10_mark 124 = .ok (.ladd, 1) := by decide +kernel
theorem dX10_mark_125 : decode cX10_mark 125 = .ok (.putfield 169, 3) := by decide +kernel
theorem dX10_mark_128 : decode cX10_mark 128 = .ok (.iload_n 3, 1) := by decide +kernel
theorem dX10_mark_129 : decode cX10_mark 129 = .ok (.aload_n 0, 1) := by decide +kernel
theorem dX10_mark_130 : decode cX10_mark 130 = .ok (.getfield 17, 3) := by decide +kernel
theorem dX10_mark_133 : decode cX10_mark 133 = .ok (.iconst 3, 1) := by decide +kernel
theorem dX10_mark_134 : decode cX10_mark 134 = .ok (.iaload, 1) := by decide +kernel
theorem dX10_mark_135 : decode cX10_mark 135 = .ok (.iadd, 1) := by decide +kernel
theorem dX10_mark_136 : decode cX10_mark 136 = .ok (.ireturn, 1) := by decide +kernel
theorem dX10_mark_137 : decode cX10_mark 137 = .ok (.aload_n 0, 1) := by decide +kernel
theorem dX10_mark_138 : decode cX10_mark 138 = .ok (.dup, 1) := by decide +kernel
theorem dX10_mark_139 : decode cX10_mark 139 = .ok (.getfield 169, 3) := by decide +kernel
theorem dX10_mark_142 : decode cX10_mark 142 = .ok (.ldc2_w 175, 3) := by decide +kernel
theorem dX10_mark_145 : decode cX10_mark 145 = .ok (.ladd, 1) := by decide +kernel
theorem dX10_mark_146 : decode cX10_mark 146 = .ok (.putfield 169, 3) := by decide +kernel
theorem dX10_mark_149 : decode cX10_mark 149 = .ok (.iconst 2, 1) := by decide +kernel
theorem dX10_mark_150 : decode cX10_mark 150 = .ok (.iload_n 3, 1) := by decide +kernel
theorem dX10_mark_151 : decode cX10_mark 151 = .ok (.imul, 1) := by decide +kernel
theorem dX10_mark_152 : decode cX10_mark 152 = .ok (.ireturn, 1) := by decide +kernel
theorem dX10_mark_153 : decode cX10_mark 153 = .ok (.aload_n 0, 1) := by decide +kernel
theorem dX10_mark_154 : decode cX10_mark 154 = .ok (.dup, 1) := by decide +kernel
theorem dX10_mark_155 : decode cX10_mark 155 = .ok (.getfield 169, 3) := by decide +kernel
theorem dX10_mark_158 : decode cX10_mark 158 = .ok (.ldc2_w 177, 3) := by decide +kernel
theorem dX10_mark_161 : decode cX10_mark 161 = .ok (.ladd, 1) := by decide +kernel
theorem dX10_mark_162 : decode cX10_mark 162 = .ok (.putfield 169, 3) := by decide +kernel
theorem dX10_mark_165 : decode cX10_mark 165 = .ok (.iload_n 3, 1) := by decide +kernel
theorem dX10_mark_166 : decode cX10_mark 166 = .ok (.aload_n 0, 1) := by decide +kernel
theorem dX10_mark_167 : decode cX10_mark 167 = .ok (.getfield 17, 3) := by decide +kernel
theorem dX10_mark_170 : decode cX10_mark 170 = .ok (.iconst 3, 1) := by decide +kernel
theorem dX10_mark_171 : decode cX10_mark 171 = .ok (.iaload, 1) := by decide +kernel
theorem dX10_mark_172 : decode cX10_mark 172 = .ok (.iadd, 1) := by decide +kernel
theorem dX10_mark_173 : decode cX10_mark 173 = .ok (.aload_n 0, 1) := by decide +kernel
theorem dX10_mark_174 : decode cX10_mark 174 = .ok (.getfield 23, 3) := by decide +kernel
theorem dX10_mark_177 : decode cX10_mark 177 = .ok (.iconst 0, 1) := by decide +kernel
theorem dX10_mark_178 : decode cX10_mark 178 = .ok (.iaload, 1) := by decide +kernel
theorem dX10_mark_179 : decode cX10_mark 179 = .ok (.isub, 1) := by decide +kernel
theorem dX10_mark_180 : decode cX10_mark 180 = .ok (.ireturn, 1) := by decide +kernel
theorem dX10_mark_181 : decode cX10_mark 181 = .ok (.aload_n 0, 1) := by decide +kernel
theorem dX10_mark_182 : decode cX10_mark 182 = .ok (.dup, 1) := by decide +kernel
theorem dX10_mark_183 : decode cX10_mark 183 = .ok (.getfield 169, 3) := by decide +kernel
theorem dX10_mark_186 : decode cX10_mark 186 = .ok (.ldc2_w 179, 3) := by decide +kernel
theorem dX10_mark_189 : decode cX10_mark 189 = .ok (.ladd, 1) := by decide +kernel
theorem dX10_mark_190 : decode cX10_mark 190 = .ok (.putfield 169, 3) := by decide +kernel
theorem dX10_mark_193 : decode cX10_mark 193 = .ok (.iconst 2, 1) := by decide +kernel
theorem dX10_mark_194 : decode cX10_mark 194 = .ok (.iload_n 3, 1) := by decide +kernel
theorem dX10_mark_195 : decode cX10_mark 195 = .ok (.imul, 1) := by decide +kernel
theorem dX10_mark_196 : decode cX10_mark 196 = .ok (.iload_n 2, 1) := by decide +kernel
theorem dX10_mark_197 : decode cX10_mark 197 = .ok (.iadd, 1) := by decide +kernel
theorem dX10_mark_198 : decode cX10_mark 198 = .ok (.ireturn, 1) := by decide +kernel
theorem dX10_mark_199 : decode cX10_mark 199 = .ok (.aload_n 0, 1) := by decide +kernel
theorem dX10_mark_200 : decode cX10_mark 200 = .ok (.dup, 1) := by decide +kernel
theorem dX10_mark_201 : decode cX10_mark 201 = .ok (.getfield 169, 3) := by decide +kernel
theorem dX10_mark_204 : decode cX10_mark 204 = .ok (.ldc2_w 181, 3) := by decide +kernel
theorem dX10_mark_207 : decode cX10_mark 207 = .ok (.ladd, 1) := by decide +kernel
theorem dX10_mark_208 : decode cX10_mark 208 = .ok (.putfield 169, 3) := by decide +kernel
theorem dX10_mark_211 : decode cX10_mark 211 = .ok (.iload_n 3, 1) := by decide +kernel
theorem dX10_mark_212 : decode cX10_mark 212 = .ok (.iload 4, 2) := by decide +kernel
theorem dX10_mark_214 : decode cX10_mark 214 = .ok (.iadd, 1) := by decide +kernel
theorem dX10_mark_215 : decode cX10_mark 215 = .ok (.ireturn, 1) := by decide +kernel
theorem dX10_copy_0 : decode cX10_copy 0 = .ok (.aload_n 0, 1) := by decide +kernel
theorem dX10_copy_1 : decode cX10_copy 1 = .ok (.getfield 23, 3) := by decide +kernel
theorem dX10_copy_4 : decode cX10_copy 4 = .ok (.iload_n 2, 1) := by decide +kernel
theorem dX10_copy_5 : decode cX10_copy 5 = .ok (.aload_n 0, 1) := by decide +kernel
theorem dX10_copy_6 : decode cX10_copy 6 = .ok (.getfield 23, 3) := by decide +kernel
theorem dX10_copy_9 : decode cX10_copy 9 = .ok (.iload_n 1, 1) := by decide +kernel
theorem dX10_copy_10 : decode cX10_copy 10 = .ok (.iaload, 1) := by decide +kernel
theorem dX10_copy_11 : decode cX10_copy 11 = .ok (.iastore, 1) := by decide +kernel
theorem dX10_copy_12 : decode cX10_copy 12 = .ok (.iconst 0, 1) := by decide +kernel
theorem dX10_copy_13 : decode cX10_copy 13 = .ok (.istore_n 3, 1) := by decide +kernel
theorem dX10_copy_14 : decode cX10_copy 14 = .ok (.iload_n 3, 1) := by decide +kernel
theorem dX10_copy_15 : decode cX10_copy 15 = .ok (.bipush 36, 2) := by decide +kernel
theorem dX10_copy_17 : decode cX10_copy 17 = .ok (.if_icmp .ge 31, 3) := by decide +kernel
theorem dX10_copy_20 : decode cX10_copy 20 = .ok (.aload_n 0, 1) := by decide +kernel
theorem dX10_copy_21 : decode cX10_copy 21 = .ok (.getfield 26, 3) := by decide +kernel
theorem dX10_copy_24 : decode cX10_copy 24 = .ok (.bipush 36, 2) := by decide +kernel
theorem dX10_copy_26 : decode cX10_copy 26 = .ok (.iload_n 2, 1) := by decide +kernel
theorem dX10_copy_27 : decode cX10_copy 27 = .ok (.imul, 1) := by decide +kernel
theorem dX10_copy_28 : decode cX10_copy 28 = .ok (.iload_n 3, 1) := by decide +kernel
theorem dX10_copy_29 : decode cX10_copy 29 = .ok (.iadd, 1) := by decide +kernel
theorem dX10_copy_30 : decode cX10_copy 30 = .ok (.aload_n 0, 1) := by decide +kernel
theorem dX10_copy_31 : decode cX10_copy 31 = .ok (.getfield 26, 3) := by decide +kernel
theorem dX10_copy_34 : decode cX10_copy 34 = .ok (.bipush 36, 2) := by decide +kernel
theorem dX10_copy_36 : decode cX10_copy 36 = .ok (.iload_n 1, 1) := by decide +kernel
theorem dX10_copy_37 : decode cX10_copy 37 = .ok (.imul, 1) := by decide +kernel
theorem dX10_copy_38 : decode cX10_copy 38 = .ok (.iload_n 3, 1) := by decide +kernel
theorem dX10_copy_39 : decode cX10_copy 39 = .ok (.iadd, 1) := by decide +kernel
theorem dX10_copy_40 : decode cX10_copy 40 = .ok (.iaload, 1) := by decide +kernel
theorem dX10_copy_41 : decode cX10_copy 41 = .ok (.iastore, 1) := by decide +kernel
theorem dX10_copy_42 : decode cX10_copy 42 = .ok (.iinc 3 1, 3) := by decide +kernel
theorem dX10_copy_45 : decode cX10_copy 45 = .ok (.goto (-31), 3) := by decide +kernel
theorem dX10_copy_48 : decode cX10_copy 48 = .ok (.return_, 1) := by decide +kernel
theorem dX10_keep_0 : decode cX10_keep 0 = .ok (.iload_n 1, 1) := by decide +kernel
theorem dX10_keep_1 : decode cX10_keep 1 = .ok (.iconst 0, 1) := by decide +kernel
theorem dX10_keep_2 : decode cX10_keep 2 = .ok (.iconst 1, 1) := by decide +kernel
theorem dX10_keep_3 : decode cX10_keep 3 = .ok (.invokestatic 48, 3) := by decide +kernel
theorem dX10_keep_6 : decode cX10_keep 6 = .ok (.ifCond .ne 5, 3) := by decide +kernel
theorem dX10_keep_9 : decode cX10_keep 9 = .ok (.iconst (-1), 1) := by decide +kernel
theorem dX10_keep_10 : decode cX10_keep 10 = .ok (.ireturn, 1) := by decide +kernel
theorem dX10_keep_11 : decode cX10_keep 11 = .ok (.aload_n 0, 1) := by decide +kernel
theorem dX10_keep_12 : decode cX10_keep 12 = .ok (.iconst 0, 1) := by decide +kernel
theorem dX10_keep_13 : decode cX10_keep 13 = .ok (.iconst 1, 1) := by decide +kernel
theorem dX10_keep_14 : decode cX10_keep 14 = .ok (.iload_n 1, 1) := by decide +kernel
theorem dX10_keep_15 : decode cX10_keep 15 = .ok (.iadd, 1) := by decide +kernel
theorem dX10_keep_16 : decode cX10_keep 16 = .ok (.invokevirtual 183, 3) := by decide +kernel
theorem dX10_keep_19 : decode cX10_keep 19 = .ok (.aload_n 0, 1) := by decide +kernel
theorem dX10_keep_20 : decode cX10_keep 20 = .ok (.getfield 29, 3) := by decide +kernel
theorem dX10_keep_23 : decode cX10_keep 23 = .ok (.iload_n 1, 1) := by decide +kernel
theorem dX10_keep_24 : decode cX10_keep 24 = .ok (.iconst 1, 1) := by decide +kernel
theorem dX10_keep_25 : decode cX10_keep 25 = .ok (.bastore, 1) := by decide +kernel
theorem dX10_keep_26 : decode cX10_keep 26 = .ok (.aload_n 0, 1) := by decide +kernel
theorem dX10_keep_27 : decode cX10_keep 27 = .ok (.getfield 23, 3) := by decide +kernel
theorem dX10_keep_30 : decode cX10_keep 30 = .ok (.iconst 0, 1) := by decide +kernel
theorem dX10_keep_31 : decode cX10_keep 31 = .ok (.iaload, 1) := by decide +kernel
theorem dX10_keep_32 : decode cX10_keep 32 = .ok (.ireturn, 1) := by decide +kernel
theorem dX10_back_0 : decode cX10_back 0 = .ok (.iload_n 1, 1) := by decide +kernel
theorem dX10_back_1 : decode cX10_back 1 = .ok (.iconst 0, 1) := by decide +kernel
theorem dX10_back_2 : decode cX10_back 2 = .ok (.iconst 1, 1) := by decide +kernel
theorem dX10_back_3 : decode cX10_back 3 = .ok (.invokestatic 48, 3) := by decide +kernel
theorem dX10_back_6 : decode cX10_back 6 = .ok (.ifCond .ne 5, 3) := by decide +kernel
theorem dX10_back_9 : decode cX10_back 9 = .ok (.iconst (-1), 1) := by decide +kernel
theorem dX10_back_10 : decode cX10_back 10 = .ok (.ireturn, 1) := by decide +kernel
theorem dX10_back_11 : decode cX10_back 11 = .ok (.aload_n 0, 1) := by decide +kernel
theorem dX10_back_12 : decode cX10_back 12 = .ok (.getfield 29, 3) := by decide +kernel
theorem dX10_back_15 : decode cX10_back 15 = .ok (.iload_n 1, 1) := by decide +kernel
theorem dX10_back_16 : decode cX10_back 16 = .ok (.baload, 1) := by decide +kernel
theorem dX10_back_17 : decode cX10_back 17 = .ok (.ifCond .ne 6, 3) := by decide +kernel
theorem dX10_back_20 : decode cX10_back 20 = .ok (.bipush (-2), 2) := by decide +kernel
theorem dX10_back_22 : decode cX10_back 22 = .ok (.ireturn, 1) := by decide +kernel
theorem dX10_back_23 : decode cX10_back 23 = .ok (.aload_n 0, 1) := by decide +kernel
theorem dX10_back_24 : decode cX10_back 24 = .ok (.iconst 1, 1) := by decide +kernel
theorem dX10_back_25 : decode cX10_back 25 = .ok (.iload_n 1, 1) := by decide +kernel
theorem dX10_back_26 : decode cX10_back 26 = .ok (.iadd, 1) := by decide +kernel
theorem dX10_back_27 : decode cX10_back 27 = .ok (.iconst 0, 1) := by decide +kernel
theorem dX10_back_28 : decode cX10_back 28 = .ok (.invokevirtual 183, 3) := by decide +kernel
theorem dX10_back_31 : decode cX10_back 31 = .ok (.aload_n 0, 1) := by decide +kernel
theorem dX10_back_32 : decode cX10_back 32 = .ok (.getfield 23, 3) := by decide +kernel
theorem dX10_back_35 : decode cX10_back 35 = .ok (.iconst 0, 1) := by decide +kernel
theorem dX10_back_36 : decode cX10_back 36 = .ok (.iaload, 1) := by decide +kernel
theorem dX10_back_37 : decode cX10_back 37 = .ok (.ireturn, 1) := by decide +kernel
theorem dX10_count_0 : decode cX10_count 0 = .ok (.iload_n 1, 1) := by decide +kernel
theorem dX10_count_1 : decode cX10_count 1 = .ok (.ifCond .ne 12, 3) := by decide +kernel
theorem dX10_count_4 : decode cX10_count 4 = .ok (.aload_n 0, 1) := by decide +kernel
theorem dX10_count_5 : decode cX10_count 5 = .ok (.getfield 13, 3) := by decide +kernel
theorem dX10_count_8 : decode cX10_count 8 = .ok (.iconst 0, 1) := by decide +kernel
theorem dX10_count_9 : decode cX10_count 9 = .ok (.iaload, 1) := by decide +kernel
theorem dX10_count_10 : decode cX10_count 10 = .ok (.goto 44, 3) := by decide +kernel
theorem dX10_count_13 : decode cX10_count 13 = .ok (.iload_n 1, 1) := by decide +kernel
theorem dX10_count_14 : decode cX10_count 14 = .ok (.iconst 1, 1) := by decide +kernel
theorem dX10_count_15 : decode cX10_count 15 = .ok (.if_icmp .ne 12, 3) := by decide +kernel
theorem dX10_count_18 : decode cX10_count 18 = .ok (.aload_n 0, 1) := by decide +kernel
theorem dX10_count_19 : decode cX10_count 19 = .ok (.getfield 20, 3) := by decide +kernel
theorem dX10_count_22 : decode cX10_count 22 = .ok (.iconst 0, 1) := by decide +kernel
theorem dX10_count_23 : decode cX10_count 23 = .ok (.iaload, 1) := by decide +kernel
theorem dX10_count_24 : decode cX10_count 24 = .ok (.goto 30, 3) := by decide +kernel
theorem dX10_count_27 : decode cX10_count 27 = .ok (.iload_n 1, 1) := by decide +kernel
theorem dX10_count_28 : decode cX10_count 28 = .ok (.iconst 2, 1) := by decide +kernel
theorem dX10_count_29 : decode cX10_count 29 = .ok (.if_icmp .ne 12, 3) := by decide +kernel
theorem dX10_count_32 : decode cX10_count 32 = .ok (.aload_n 0, 1) := by decide +kernel
theorem dX10_count_33 : decode cX10_count 33 = .ok (.getfield 23, 3) := by decide +kernel
theorem dX10_count_36 : decode cX10_count 36 = .ok (.iconst 0, 1) := by decide +kernel
theorem dX10_count_37 : decode cX10_count 37 = .ok (.iaload, 1) := by decide +kernel
theorem dX10_count_38 : decode cX10_count 38 = .ok (.goto 16, 3) := by decide +kernel
theorem dX10_count_41 : decode cX10_count 41 = .ok (.iload_n 1, 1) := by decide +kernel
theorem dX10_count_42 : decode cX10_count 42 = .ok (.iconst 3, 1) := by decide +kernel
theorem dX10_count_43 : decode cX10_count 43 = .ok (.if_icmp .ne 10, 3) := by decide +kernel
theorem dX10_count_46 : decode cX10_count 46 = .ok (.aload_n 0, 1) := by decide +kernel
theorem dX10_count_47 : decode cX10_count 47 = .ok (.getfield 52, 3) := by decide +kernel
theorem dX10_count_50 : decode cX10_count 50 = .ok (.goto 4, 3) := by decide +kernel
theorem dX10_count_53 : decode cX10_count 53 = .ok (.iconst (-1), 1) := by decide +kernel
theorem dX10_count_54 : decode cX10_count 54 = .ok (.ireturn, 1) := by decide +kernel
theorem dX10_trace_0 : decode cX10_trace 0 = .ok (.aload_n 0, 1) := by decide +kernel
theorem dX10_trace_1 : decode cX10_trace 1 = .ok (.getfield 169, 3) := by decide +kernel
theorem dX10_trace_4 : decode cX10_trace 4 = .ok (.lreturn, 1) := by decide +kernel
theorem dJ6_bitCount_0f7a4_0 : decode cJ6_bitCount_0f7a4 0 = .ok (.iload_n 0, 1) := by decide +kernel
theorem dJ6_bitCount_0f7a4_1 : decode cJ6_bitCount_0f7a4 1 = .ok (.iload_n 0, 1) := by decide +kernel
theorem dJ6_bitCount_0f7a4_2 : decode cJ6_bitCount_0f7a4 2 = .ok (.iconst 1, 1) := by decide +kernel
theorem dJ6_bitCount_0f7a4_3 : decode cJ6_bitCount_0f7a4 3 = .ok (.iushr, 1) := by decide +kernel
theorem dJ6_bitCount_0f7a4_4 : decode cJ6_bitCount_0f7a4 4 = .ok (.ldc_w 265, 3) := by decide +kernel
theorem dJ6_bitCount_0f7a4_7 : decode cJ6_bitCount_0f7a4 7 = .ok (.iand, 1) := by decide +kernel
theorem dJ6_bitCount_0f7a4_8 : decode cJ6_bitCount_0f7a4 8 = .ok (.isub, 1) := by decide +kernel
theorem dJ6_bitCount_0f7a4_9 : decode cJ6_bitCount_0f7a4 9 = .ok (.istore_n 0, 1) := by decide +kernel
theorem dJ6_bitCount_0f7a4_10 : decode cJ6_bitCount_0f7a4 10 = .ok (.iload_n 0, 1) := by decide +kernel
theorem dJ6_bitCount_0f7a4_11 : decode cJ6_bitCount_0f7a4 11 = .ok (.ldc_w 266, 3) := by decide +kernel
theorem dJ6_bitCount_0f7a4_14 : decode cJ6_bitCount_0f7a4 14 = .ok (.iand, 1) := by decide +kernel
theorem dJ6_bitCount_0f7a4_15 : decode cJ6_bitCount_0f7a4 15 = .ok (.iload_n 0, 1) := by decide +kernel
theorem dJ6_bitCount_0f7a4_16 : decode cJ6_bitCount_0f7a4 16 = .ok (.iconst 2, 1) := by decide +kernel
theorem dJ6_bitCount_0f7a4_17 : decode cJ6_bitCount_0f7a4 17 = .ok (.iushr, 1) := by decide +kernel
theorem dJ6_bitCount_0f7a4_18 : decode cJ6_bitCount_0f7a4 18 = .ok (.ldc_w 266, 3) := by decide +kernel
theorem dJ6_bitCount_0f7a4_21 : decode cJ6_bitCount_0f7a4 21 = .ok (.iand, 1) := by decide +kernel
theorem dJ6_bitCount_0f7a4_22 : decode cJ6_bitCount_0f7a4 22 = .ok (.iadd, 1) := by decide +kernel
theorem dJ6_bitCount_0f7a4_23 : decode cJ6_bitCount_0f7a4 23 = .ok (.istore_n 0, 1) := by decide +kernel
theorem dJ6_bitCount_0f7a4_24 : decode cJ6_bitCount_0f7a4 24 = .ok (.iload_n 0, 1) := by decide +kernel
theorem dJ6_bitCount_0f7a4_25 : decode cJ6_bitCount_0f7a4 25 = .ok (.iload_n 0, 1) := by decide +kernel
theorem dJ6_bitCount_0f7a4_26 : decode cJ6_bitCount_0f7a4 26 = .ok (.iconst 4, 1) := by decide +kernel
theorem dJ6_bitCount_0f7a4_27 : decode cJ6_bitCount_0f7a4 27 = .ok (.iushr, 1) := by decide +kernel
theorem dJ6_bitCount_0f7a4_28 : decode cJ6_bitCount_0f7a4 28 = .ok (.iadd, 1) := by decide +kernel
theorem dJ6_bitCount_0f7a4_29 : decode cJ6_bitCount_0f7a4 29 = .ok (.ldc_w 267, 3) := by decide +kernel
theorem dJ6_bitCount_0f7a4_32 : decode cJ6_bitCount_0f7a4 32 = .ok (.iand, 1) := by decide +kernel
theorem dJ6_bitCount_0f7a4_33 : decode cJ6_bitCount_0f7a4 33 = .ok (.istore_n 0, 1) := by decide +kernel
theorem dJ6_bitCount_0f7a4_34 : decode cJ6_bitCount_0f7a4 34 = .ok (.iload_n 0, 1) := by decide +kernel
theorem dJ6_bitCount_0f7a4_35 : decode cJ6_bitCount_0f7a4 35 = .ok (.iload_n 0, 1) := by decide +kernel
theorem dJ6_bitCount_0f7a4_36 : decode cJ6_bitCount_0f7a4 36 = .ok (.bipush 8, 2) := by decide +kernel
theorem dJ6_bitCount_0f7a4_38 : decode cJ6_bitCount_0f7a4 38 = .ok (.iushr, 1) := by decide +kernel
theorem dJ6_bitCount_0f7a4_39 : decode cJ6_bitCount_0f7a4 39 = .ok (.iadd, 1) := by decide +kernel
theorem dJ6_bitCount_0f7a4_40 : decode cJ6_bitCount_0f7a4 40 = .ok (.istore_n 0, 1) := by decide +kernel
theorem dJ6_bitCount_0f7a4_41 : decode cJ6_bitCount_0f7a4 41 = .ok (.iload_n 0, 1) := by decide +kernel
theorem dJ6_bitCount_0f7a4_42 : decode cJ6_bitCount_0f7a4 42 = .ok (.iload_n 0, 1) := by decide +kernel
theorem dJ6_bitCount_0f7a4_43 : decode cJ6_bitCount_0f7a4 43 = .ok (.bipush 16, 2) := by decide +kernel
theorem dJ6_bitCount_0f7a4_45 : decode cJ6_bitCount_0f7a4 45 = .ok (.iushr, 1) := by decide +kernel
theorem dJ6_bitCount_0f7a4_46 : decode cJ6_bitCount_0f7a4 46 = .ok (.iadd, 1) := by decide +kernel
theorem dJ6_bitCount_0f7a4_47 : decode cJ6_bitCount_0f7a4 47 = .ok (.istore_n 0, 1) := by decide +kernel
theorem dJ6_bitCount_0f7a4_48 : decode cJ6_bitCount_0f7a4 48 = .ok (.iload_n 0, 1) := by decide +kernel
theorem dJ6_bitCount_0f7a4_49 : decode cJ6_bitCount_0f7a4 49 = .ok (.bipush 63, 2) := by decide +kernel
theorem dJ6_bitCount_0f7a4_51 : decode cJ6_bitCount_0f7a4 51 = .ok (.iand, 1) := by decide +kernel
theorem dJ6_bitCount_0f7a4_52 : decode cJ6_bitCount_0f7a4 52 = .ok (.ireturn, 1) := by decide +kernel
theorem dJ9_max_7cf53_0 : decode cJ9_max_7cf53 0 = .ok (.iload_n 0, 1) := by decide +kernel
theorem dJ9_max_7cf53_1 : decode cJ9_max_7cf53 1 = .ok (.iload_n 1, 1) := by decide +kernel
theorem dJ9_max_7cf53_2 : decode cJ9_max_7cf53 2 = .ok (.if_icmp .lt 7, 3) := by decide +kernel
theorem dJ9_max_7cf53_5 : decode cJ9_max_7cf53 5 = .ok (.iload_n 0, 1) := by decide +kernel
theorem dJ9_max_7cf53_6 : decode cJ9_max_7cf53 6 = .ok (.goto 4, 3) := by decide +kernel
theorem dJ9_max_7cf53_9 : decode cJ9_max_7cf53 9 = .ok (.iload_n 1, 1) := by decide +kernel
theorem dJ9_max_7cf53_10 : decode cJ9_max_7cf53 10 = .ok (.ireturn, 1) := by decide +kernel
theorem dJ9_min_7cf53_0 : decode cJ9_min_7cf53 0 = .ok (.iload_n 0, 1) := by decide +kernel
theorem dJ9_min_7cf53_1 : decode cJ9_min_7cf53 1 = .ok (.iload_n 1, 1) := by decide +kernel
theorem dJ9_min_7cf53_2 : decode cJ9_min_7cf53 2 = .ok (.if_icmp .gt 7, 3) := by decide +kernel
theorem dJ9_min_7cf53_5 : decode cJ9_min_7cf53 5 = .ok (.iload_n 0, 1) := by decide +kernel
theorem dJ9_min_7cf53_6 : decode cJ9_min_7cf53 6 = .ok (.goto 4, 3) := by decide +kernel
theorem dJ9_min_7cf53_9 : decode cJ9_min_7cf53 9 = .ok (.iload_n 1, 1) := by decide +kernel
theorem dJ9_min_7cf53_10 : decode cJ9_min_7cf53 10 = .ok (.ireturn, 1) := by decide +kernel
theorem dJ0_length_8abf5_0 : decode cJ0_length_8abf5 0 = .ok (.aload_n 0, 1) := by decide +kernel
theorem dJ0_length_8abf5_1 : decode cJ0_length_8abf5 1 = .ok (.getfield 9, 3) := by decide +kernel
theorem dJ0_length_8abf5_4 : decode cJ0_length_8abf5 4 = .ok (.arraylength, 1) := by decide +kernel
theorem dJ0_length_8abf5_5 : decode cJ0_length_8abf5 5 = .ok (.aload_n 0, 1) := by decide +kernel
theorem dJ0_length_8abf5_6 : decode cJ0_length_8abf5 6 = .ok (.invokevirtual 335, 3) := by decide +kernel
theorem dJ0_length_8abf5_9 : decode cJ0_length_8abf5 9 = .ok (.ishr, 1) := by decide +kernel
theorem dJ0_length_8abf5_10 : decode cJ0_length_8abf5 10 = .ok (.ireturn, 1) := by decide +kernel
theorem dJ0_charAt_5068e_0 : decode cJ0_charAt_5068e 0 = .ok (.aload_n 0, 1) := by decide +kernel
theorem dJ0_charAt_5068e_1 : decode cJ0_charAt_5068e 1 = .ok (.invokevirtual 492, 3) := by decide +kernel
theorem dJ0_charAt_5068e_4 : decode cJ0_charAt_5068e 4 = .ok (.ifCond .eq 12, 3) := by decide +kernel
theorem dJ0_charAt_5068e_7 : decode cJ0_charAt_5068e 7 = .ok (.aload_n 0, 1) := by decide +kernel
theorem dJ0_charAt_5068e_8 : decode cJ0_charAt_5068e 8 = .ok (.getfield 9, 3) := by decide +kernel
theorem dJ0_charAt_5068e_11 : decode cJ0_charAt_5068e 11 = .ok (.iload_n 1, 1) := by decide +kernel
theorem dJ0_charAt_5068e_12 : decode cJ0_charAt_5068e 12 = .ok (.invokestatic 495, 3) := by decide +kernel
theorem dJ0_charAt_5068e_15 : decode cJ0_charAt_5068e 15 = .ok (.ireturn, 1) := by decide +kernel
theorem dJ0_charAt_5068e_16 : decode cJ0_charAt_5068e 16 = .ok (.aload_n 0, 1) := by decide +kernel
theorem dJ0_charAt_5068e_17 : decode cJ0_charAt_5068e 17 = .ok (.getfield 9, 3) := by decide +kernel
theorem dJ0_charAt_5068e_20 : decode cJ0_charAt_5068e 20 = .ok (.iload_n 1, 1) := by decide +kernel
theorem dJ0_charAt_5068e_21 : decode cJ0_charAt_5068e 21 = .ok (.invokestatic 498, 3) := by decide +kernel
theorem dJ0_charAt_5068e_24 : decode cJ0_charAt_5068e 24 = .ok (.ireturn, 1) := by decide +kernel
theorem dJ0_coder_7d493_0 : decode cJ0_coder_7d493 0 = .ok (.getstatic 38, 3) := by decide +kernel
theorem dJ0_coder_7d493_3 : decode cJ0_coder_7d493 3 = .ok (.ifCond .eq 10, 3) := by decide +kernel
theorem dJ0_coder_7d493_6 : decode cJ0_coder_7d493 6 = .ok (.aload_n 0, 1) := by decide +kernel
theorem dJ0_coder_7d493_7 : decode cJ0_coder_7d493 7 = .ok (.getfield 15, 3) := by decide +kernel
theorem dJ0_coder_7d493_10 : decode cJ0_coder_7d493 10 = .ok (.goto 4, 3) := by decide +kernel
theorem dJ0_coder_7d493_13 : decode cJ0_coder_7d493 13 = .ok (.iconst 1, 1) := by decide +kernel
theorem dJ0_coder_7d493_14 : decode cJ0_coder_7d493 14 = .ok (.ireturn, 1) := by decide +kernel
theorem dJ0_isLatin1_aae02_0 : decode cJ0_isLatin1_aae02 0 = .ok (.getstatic 38, 3) := by decide +kernel
theorem dJ0_isLatin1_aae02_3 : decode cJ0_isLatin1_aae02 3 = .ok (.ifCond .eq 14, 3) := by decide +kernel
theorem dJ0_isLatin1_aae02_6 : decode cJ0_isLatin1_aae02 6 = .ok (.aload_n 0, 1) := by decide +kernel
theorem dJ0_isLatin1_aae02_7 : decode cJ0_isLatin1_aae02 7 = .ok (.getfield 15, 3) := by decide +kernel
theorem dJ0_isLatin1_aae02_10 : decode cJ0_isLatin1_aae02 10 = .ok (.ifCond .ne 7, 3) := by decide +kernel
theorem dJ0_isLatin1_aae02_13 : decode cJ0_isLatin1_aae02 13 = .ok (.iconst 1, 1) := by decide +kernel
theorem dJ0_isLatin1_aae02_14 : decode cJ0_isLatin1_aae02 14 = .ok (.goto 4, 3) := by decide +kernel
theorem dJ0_isLatin1_aae02_17 : decode cJ0_isLatin1_aae02 17 = .ok (.iconst 0, 1) := by decide +kernel
theorem dJ0_isLatin1_aae02_18 : decode cJ0_isLatin1_aae02 18 = .ok (.ireturn, 1) := by decide +kernel
theorem dJ0_checkIndex_df160_0 : decode cJ0_checkIndex_df160 0 = .ok (.iload_n 0, 1) := by decide +kernel
theorem dJ0_checkIndex_df160_1 : decode cJ0_checkIndex_df160 1 = .ok (.iload_n 1, 1) := by decide +kernel
theorem dJ0_checkIndex_df160_2 : decode cJ0_checkIndex_df160 2 = .ok (.getstatic 1053, 3) := by decide +kernel
theorem dJ0_checkIndex_df160_5 : decode cJ0_checkIndex_df160 5 = .ok (.invokestatic 1059, 3) := by decide +kernel
theorem dJ0_checkIndex_df160_8 : decode cJ0_checkIndex_df160 8 = .ok (.pop, 1) := by decide +kernel
theorem dJ0_checkIndex_df160_9 : decode cJ0_checkIndex_df160 9 = .ok (.return_, 1) := by decide +kernel
theorem dJ1_charAt_3b067_0 : decode cJ1_charAt_3b067 0 = .ok (.iload_n 1, 1) := by decide +kernel
theorem dJ1_charAt_3b067_1 : decode cJ1_charAt_3b067 1 = .ok (.aload_n 0, 1) := by decide +kernel
theorem dJ1_charAt_3b067_2 : decode cJ1_charAt_3b067 2 = .ok (.arraylength, 1) := by decide +kernel
theorem dJ1_charAt_3b067_3 : decode cJ1_charAt_3b067 3 = .ok (.invokestatic 9, 3) := by decide +kernel
theorem dJ1_charAt_3b067_6 : decode cJ1_charAt_3b067 6 = .ok (.aload_n 0, 1) := by decide +kernel
theorem dJ1_charAt_3b067_7 : decode cJ1_charAt_3b067 7 = .ok (.iload_n 1, 1) := by decide +kernel
theorem dJ1_charAt_3b067_8 : decode cJ1_charAt_3b067 8 = .ok (.baload, 1) := by decide +kernel
theorem dJ1_charAt_3b067_9 : decode cJ1_charAt_3b067 9 = .ok (.sipush 255, 3) := by decide +kernel
theorem dJ1_charAt_3b067_12 : decode cJ1_charAt_3b067 12 = .ok (.iand, 1) := by decide +kernel
theorem dJ1_charAt_3b067_13 : decode cJ1_charAt_3b067 13 = .ok (.i2c, 1) := by decide +kernel
theorem dJ1_charAt_3b067_14 : decode cJ1_charAt_3b067 14 = .ok (.ireturn, 1) := by decide +kernel
theorem dJ2_getChar_3b067_0 : decode cJ2_getChar_3b067 0 = .ok (.getstatic 44, 3) := by decide +kernel
theorem dJ2_getChar_3b067_3 : decode cJ2_getChar_3b067 3 = .ok (.ifCond .ne 25, 3) := by decide +kernel
theorem dJ2_getChar_3b067_6 : decode cJ2_getChar_3b067 6 = .ok (.iload_n 1, 1) := by decide +kernel
theorem dJ2_getChar_3b067_7 : decode cJ2_getChar_3b067 7 = .ok (.ifCond .lt 11, 3) := by decide +kernel
theorem dJ2_getChar_3b067_10 : decode cJ2_getChar_3b067 10 = .ok (.iload_n 1, 1) := by decide +kernel
theorem dJ2_getChar_3b067_11 : decode cJ2_getChar_3b067 11 = .ok (.aload_n 0, 1) := by decide +kernel
theorem dJ2_getChar_3b067_12 : decode cJ2_getChar_3b067 12 = .ok (.invokestatic 48, 3) := by decide +kernel
theorem dJ2_getChar_3b067_15 : decode cJ2_getChar_3b067 15 = .ok (.if_icmp .lt 13, 3) := by decide +kernel
theorem dJ2_getChar_3b067_18 : decode cJ2_getChar_3b067 18 = .ok (.new 52, 3) := by decide +kernel
theorem dJ2_getChar_3b067_21 : decode cJ2_getChar_3b067 21 = .ok (.dup, 1) := by decide +kernel
theorem dJ2_getChar_3b067_22 : decode cJ2_getChar_3b067 22 = .ok (.ldc 54, 2) := by decide +kernel
theorem dJ2_getChar_3b067_24 : decode cJ2_getChar_3b067 24 = .ok (.invokespecial 56, 3) := by decide +kernel
theorem dJ2_getChar_3b067_27 : decode cJ2_getChar_3b067 27 = .ok (.athrow, 1) := by decide +kernel
theorem dJ2_getChar_3b067_28 : decode cJ2_getChar_3b067 28 = .ok (.iload_n 1, 1) := by decide +kernel
theorem dJ2_getChar_3b067_29 : decode cJ2_getChar_3b067 29 = .ok (.iconst 1, 1) := by decide +kernel
theorem dJ2_getChar_3b067_30 : decode cJ2_getChar_3b067 30 = .ok (.ishl, 1) := by decide +kernel
theorem dJ2_getChar_3b067_31 : decode cJ2_getChar_3b067 31 = .ok (.istore_n 1, 1) := by decide +kernel
theorem dJ2_getChar_3b067_32 : decode cJ2_getChar_3b067 32 = .ok (.aload_n 0, 1) := by decide +kernel
theorem dJ2_getChar_3b067_33 : decode cJ2_getChar_3b067 33 = .ok (.iload_n 1, 1) := by decide +kernel
theorem dJ2_getChar_3b067_34 : decode cJ2_getChar_3b067 34 = .ok (.iinc 1 1, 3) := by decide +kernel
theorem dJ2_getChar_3b067_37 : decode cJ2_getChar_3b067 37 = .ok (.baload, 1) := by decide +kernel
theorem dJ2_getChar_3b067_38 : decode cJ2_getChar_3b067 38 = .ok (.sipush 255, 3) := by decide +kernel
theorem dJ2_getChar_3b067_41 : decode cJ2_getChar_3b067 41 = .ok (.iand, 1) := by decide +kernel
theorem dJ2_getChar_3b067_42 : decode cJ2_getChar_3b067 42 = .ok (.getstatic 59, 3) := by decide +kernel
theorem dJ2_getChar_3b067_45 : decode cJ2_getChar_3b067 45 = .ok (.ishl, 1) := by decide +kernel
theorem dJ2_getChar_3b067_46 : decode cJ2_getChar_3b067 46 = .ok (.aload_n 0, 1) := by decide +kernel
theorem dJ2_getChar_3b067_47 : decode cJ2_getChar_3b067 47 = .ok (.iload_n 1, 1) := by decide +kernel
theorem dJ2_getChar_3b067_48 : decode cJ2_getChar_3b067 48 = .ok (.baload, 1) := by decide +kernel
theorem dJ2_getChar_3b067_49 : decode cJ2_getChar_3b067 49 = .ok (.sipush 255, 3) := by decide +kernel
theorem dJ2_getChar_3b067_52 : decode cJ2_getChar_3b067 52 = .ok (.iand, 1) := by decide +kernel
theorem dJ2_getChar_3b067_53 : decode cJ2_getChar_3b067 53 = .ok (.getstatic 63, 3) := by decide +kernel
theorem dJ2_getChar_3b067_56 : decode cJ2_getChar_3b067 56 = .ok (.ishl, 1) := by decide +kernel
theorem dJ2_getChar_3b067_57 : decode cJ2_getChar_3b067 57 = .ok (.ior, 1) := by decide +kernel
theorem dJ2_getChar_3b067_58 : decode cJ2_getChar_3b067 58 = .ok (.i2c, 1) := by decide +kernel
theorem dJ2_getChar_3b067_59 : decode cJ2_getChar_3b067 59 = .ok (.ireturn, 1) := by decide +kernel
theorem dJ2_length_9d52b_0 : decode cJ2_length_9d52b 0 = .ok (.aload_n 0, 1) := by decide +kernel
theorem dJ2_length_9d52b_1 : decode cJ2_length_9d52b 1 = .ok (.arraylength, 1) := by decide +kernel
theorem dJ2_length_9d52b_2 : decode cJ2_length_9d52b 2 = .ok (.iconst 1, 1) := by decide +kernel
theorem dJ2_length_9d52b_3 : decode cJ2_length_9d52b 3 = .ok (.ishr, 1) := by decide +kernel
theorem dJ2_length_9d52b_4 : decode cJ2_length_9d52b 4 = .ok (.ireturn, 1) := by decide +kernel
theorem dJ2_charAt_3b067_0 : decode cJ2_charAt_3b067 0 = .ok (.iload_n 1, 1) := by decide +kernel
theorem dJ2_charAt_3b067_1 : decode cJ2_charAt_3b067 1 = .ok (.aload_n 0, 1) := by decide +kernel
theorem dJ2_charAt_3b067_2 : decode cJ2_charAt_3b067 2 = .ok (.invokestatic 67, 3) := by decide +kernel
theorem dJ2_charAt_3b067_5 : decode cJ2_charAt_3b067 5 = .ok (.aload_n 0, 1) := by decide +kernel
theorem dJ2_charAt_3b067_6 : decode cJ2_charAt_3b067 6 = .ok (.iload_n 1, 1) := by decide +kernel
theorem dJ2_charAt_3b067_7 : decode cJ2_charAt_3b067 7 = .ok (.invokestatic 71, 3) := by decide +kernel
theorem dJ2_charAt_3b067_10 : decode cJ2_charAt_3b067 10 = .ok (.ireturn, 1) := by decide +kernel
theorem dJ2_checkIndex_2214a_0 : decode cJ2_checkIndex_2214a 0 = .ok (.iload_n 0, 1) := by decide +kernel
theorem dJ2_checkIndex_2214a_1 : decode cJ2_checkIndex_2214a 1 = .ok (.aload_n 1, 1) := by decide +kernel
theorem dJ2_checkIndex_2214a_2 : decode cJ2_checkIndex_2214a 2 = .ok (.invokestatic 48, 3) := by decide +kernel
theorem dJ2_checkIndex_2214a_5 : decode cJ2_checkIndex_2214a 5 = .ok (.invokestatic 414, 3) := by decide +kernel
theorem dJ2_checkIndex_2214a_8 : decode cJ2_checkIndex_2214a 8 = .ok (.return_, 1) := by decide +kernel
theorem dJ3_checkIndex_8e157_0 : decode cJ3_checkIndex_8e157 0 = .ok (.iload_n 0, 1) := by decide +kernel
theorem dJ3_checkIndex_8e157_1 : decode cJ3_checkIndex_8e157 1 = .ok (.ifCond .lt 8, 3) := by decide +kernel
theorem dJ3_checkIndex_8e157_4 : decode cJ3_checkIndex_8e157 4 = .ok (.iload_n 0, 1) := by decide +kernel
theorem dJ3_checkIndex_8e157_5 : decode cJ3_checkIndex_8e157 5 = .ok (.iload_n 1, 1) := by decide +kernel
theorem dJ3_checkIndex_8e157_6 : decode cJ3_checkIndex_8e157 6 = .ok (.if_icmp .lt 10, 3) := by decide +kernel
theorem dJ3_checkIndex_8e157_9 : decode cJ3_checkIndex_8e157 9 = .ok (.aload_n 2, 1) := by decide +kernel
theorem dJ3_checkIndex_8e157_10 : decode cJ3_checkIndex_8e157 10 = .ok (.iload_n 0, 1) := by decide +kernel
theorem dJ3_checkIndex_8e157_11 : decode cJ3_checkIndex_8e157 11 = .ok (.iload_n 1, 1) := by decide +kernel
theorem dJ3_checkIndex_8e157_12 : decode cJ3_checkIndex_8e157 12 = .ok (.invokestatic 95, 3) := by decide +kernel
theorem dJ3_checkIndex_8e157_15 : decode cJ3_checkIndex_8e157 15 = .ok (.athrow, 1) := by decide +kernel
theorem dJ3_checkIndex_8e157_16 : decode cJ3_checkIndex_8e157 16 = .ok (.iload_n 0, 1) := by decide +kernel
theorem dJ3_checkIndex_8e157_17 : decode cJ3_checkIndex_8e157 17 = .ok (.ireturn, 1) := by decide +kernel
theorem dL_law_0 : decode cL_law 0 = .ok (.new 7, 3) := by decide +kernel
theorem dL_law_3 : decode cL_law 3 = .ok (.dup, 1) := by decide +kernel
theorem dL_law_4 : decode cL_law 4 = .ok (.invokespecial 9, 3) := by decide +kernel
theorem dL_law_7 : decode cL_law 7 = .ok (.astore_n 1, 1) := by decide +kernel
theorem dL_law_8 : decode cL_law 8 = .ok (.new 10, 3) := by decide +kernel
theorem dL_law_11 : decode cL_law 11 = .ok (.dup, 1) := by decide +kernel
theorem dL_law_12 : decode cL_law 12 = .ok (.invokespecial 12, 3) := by decide +kernel
theorem dL_law_15 : decode cL_law 15 = .ok (.astore_n 2, 1) := by decide +kernel
theorem dL_law_16 : decode cL_law 16 = .ok (.iconst 0, 1) := by decide +kernel
theorem dL_law_17 : decode cL_law 17 = .ok (.istore_n 3, 1) := by decide +kernel
theorem dL_law_18 : decode cL_law 18 = .ok (.iload_n 3, 1) := by decide +kernel
theorem dL_law_19 : decode cL_law 19 = .ok (.aload_n 0, 1) := by decide +kernel
theorem dL_law_20 : decode cL_law 20 = .ok (.arraylength, 1) := by decide +kernel
theorem dL_law_21 : decode cL_law 21 = .ok (.iconst 5, 1) := by decide +kernel
theorem dL_law_22 : decode cL_law 22 = .ok (.isub, 1) := by decide +kernel
theorem dL_law_23 : decode cL_law 23 = .ok (.if_icmp .gt 727, 3) := by decide +kernel
theorem dL_law_26 : decode cL_law 26 = .ok (.aload_n 0, 1) := by decide +kernel
theorem dL_law_27 : decode cL_law 27 = .ok (.iload_n 3, 1) := by decide +kernel
theorem dL_law_28 : decode cL_law 28 = .ok (.iaload, 1) := by decide +kernel
theorem dL_law_29 : decode cL_law 29 = .ok (.bipush 31, 2) := by decide +kernel
theorem dL_law_31 : decode cL_law 31 = .ok (.iand, 1) := by decide +kernel
theorem dL_law_32 : decode cL_law 32 = .ok (.tableswitch 712 0 21 #[104, 167, 180, 193, 216, 259, 302, 335, 348, 381, 404, 427, 450, 473, 496, 550, 583, 596, 629, 652, 675, 698], 104) := by decide +kernel
theorem dL_law_136 : decode cL_law 136 = .ok (.aload_n 1, 1) := by decide +kernel
theorem dL_law_137 : decode cL_law 137 = .ok (.aload_n 0, 1) := by decide +kernel
theorem dL_law_138 : decode cL_law 138 = .ok (.iload_n 3, 1) := by decide +kernel
theorem dL_law_139 : decode cL_law 139 = .ok (.iconst 1, 1) := by decide +kernel
theorem dL_law_140 : decode cL_law 140 = .ok (.iadd, 1) := by decide +kernel
theorem dL_law_141 : decode cL_law 141 = .ok (.iaload, 1) := by decide +kernel
theorem dL_law_142 : decode cL_law 142 = .ok (.i2l, 1) := by decide +kernel
theorem dL_law_143 : decode cL_law 143 = .ok (.bipush 32, 2) := by decide +kernel
theorem dL_law_145 : decode cL_law 145 = .ok (.lshl, 1) := by decide +kernel
theorem dL_law_146 : decode cL_law 146 = .ok (.aload_n 0, 1) := by decide +kernel
theorem dL_law_147 : decode cL_law 147 = .ok (.iload_n 3, 1) := by decide +kernel
theorem dL_law_148 : decode cL_law 148 = .ok (.iconst 2, 1) := by decide +kernel
theorem dL_law_149 : decode cL_law 149 = .ok (.iadd, 1) := by decide +kernel
theorem dL_law_150 : decode cL_law 150 = .ok (.iaload, 1) := by decide +kernel
theorem dL_law_151 : decode cL_law 151 = .ok (.i2l, 1) := by decide +kernel
theorem dL_law_152 : decode cL_law 152 = .ok (.ldc2_w 13, 3) := by decide +kernel
theorem dL_law_155 : decode cL_law 155 = .ok (.land, 1) := by decide +kernel
theorem dL_law_156 : decode cL_law 156 = .ok (.lor, 1) := by decide +kernel
theorem dL_law_157 : decode cL_law 157 = .ok (.aload_n 0, 1) := by decide +kernel
theorem dL_law_158 : decode cL_law 158 = .ok (.iload_n 3, 1) := by decide +kernel
theorem dL_law_159 : decode cL_law 159 = .ok (.iconst 3, 1) := by decide +kernel
theorem dL_law_160 : decode cL_law 160 = .ok (.iadd, 1) := by decide +kernel
theorem dL_law_161 : decode cL_law 161 = .ok (.iaload, 1) := by decide +kernel
theorem dL_law_162 : decode cL_law 162 = .ok (.invokevirtual 15, 3) := by decide +kernel
theorem dL_law_165 : decode cL_law 165 = .ok (.aload_n 2, 1) := by decide +kernel
theorem dL_law_166 : decode cL_law 166 = .ok (.aload_n 0, 1) := by decide +kernel
theorem dL_law_167 : decode cL_law 167 = .ok (.iload_n 3, 1) := by decide +kernel
theorem dL_law_168 : decode cL_law 168 = .ok (.iconst 1, 1) := by decide +kernel
theorem dL_law_169 : decode cL_law 169 = .ok (.iadd, 1) := by decide +kernel
theorem dL_law_170 : decode cL_law 170 = .ok (.iaload, 1) := by decide +kernel
theorem dL_law_171 : decode cL_law 171 = .ok (.i2l, 1) := by decide +kernel
theorem dL_law_172 : decode cL_law 172 = .ok (.bipush 32, 2) := by decide +kernel
theorem dL_law_174 : decode cL_law 174 = .ok (.lshl, 1) := by decide +kernel
theorem dL_law_175 : decode cL_law 175 = .ok (.aload_n 0, 1) := by decide +kernel
theorem dL_law_176 : decode cL_law 176 = .ok (.iload_n 3, 1) := by decide +kernel
theorem dL_law_177 : decode cL_law 177 = .ok (.iconst 2, 1) := by decide +kernel
theorem dL_law_178 : decode cL_law 178 = .ok (.iadd, 1) := by decide +kernel
theorem dL_law_179 : decode cL_law 179 = .ok (.iaload, 1) := by decide +kernel
theorem dL_law_180 : decode cL_law 180 = .ok (.i2l, 1) := by decide +kernel
theorem dL_law_181 : decode cL_law 181 = .ok (.ldc2_w 13, 3) := by decide +kernel
theorem dL_law_184 : decode cL_law 184 = .ok (.land, 1) := by decide +kernel
theorem dL_law_185 : decode cL_law 185 = .ok (.lor, 1) := by decide +kernel
theorem dL_law_186 : decode cL_law 186 = .ok (.aload_n 0, 1) := by decide +kernel
theorem dL_law_187 : decode cL_law 187 = .ok (.iload_n 3, 1) := by decide +kernel
theorem dL_law_188 : decode cL_law 188 = .ok (.iconst 3, 1) := by decide +kernel
theorem dL_law_189 : decode cL_law 189 = .ok (.iadd, 1) := by decide +kernel
theorem dL_law_190 : decode cL_law 190 = .ok (.iaload, 1) := by decide +kernel
theorem dL_law_191 : decode cL_law 191 = .ok (.invokevirtual 19, 3) := by decide +kernel
theorem dL_law_194 : decode cL_law 194 = .ok (.if_icmp .eq 550, 3) := by decide +kernel
theorem dL_law_197 : decode cL_law 197 = .ok (.iconst 0, 1) := by decide +kernel
theorem dL_law_198 : decode cL_law 198 = .ok (.ireturn, 1) := by decide +kernel
theorem dL_law_199 : decode cL_law 199 = .ok (.aload_n 1, 1) := by decide +kernel
theorem dL_law_200 : decode cL_law 200 = .ok (.invokevirtual 20, 3) := by decide +kernel
theorem dL_law_203 : decode cL_law 203 = .ok (.aload_n 2, 1) := by decide +kernel
theorem dL_law_204 : decode cL_law 204 = .ok (.invokevirtual 24, 3) := by decide +kernel
theorem dL_law_207 : decode cL_law 207 = .ok (.if_icmp .eq 537, 3) := by decide +kernel
theorem dL_law_210 : decode cL_law 210 = .ok (.iconst 0, 1) := by decide +kernel
theorem dL_law_211 : decode cL_law 211 = .ok (.ireturn, 1) := by decide +kernel
theorem dL_law_212 : decode cL_law 212 = .ok (.aload_n 1, 1) := by decide +kernel
theorem dL_law_213 : decode cL_law 213 = .ok (.invokevirtual 25, 3) := by decide +kernel
theorem dL_law_216 : decode cL_law 216 = .ok (.aload_n 2, 1) := by decide +kernel
theorem dL_law_217 : decode cL_law 217 = .ok (.invokevirtual 28, 3) := by decide +kernel
theorem dL_law_220 : decode cL_law 220 = .ok (.if_icmp .eq 524, 3) := by decide +kernel
theorem dL_law_223 : decode cL_law 223 = .ok (.iconst 0, 1) := by decide +kernel
theorem dL_law_224 : decode cL_law 224 = .ok (.ireturn, 1) := by decide +kernel
theorem dL_law_225 : decode cL_law 225 = .ok (.aload_n 1, 1) := by decide +kernel
theorem dL_law_226 : decode cL_law 226 = .ok (.aload_n 0, 1) := by decide +kernel
theorem dL_law_227 : decode cL_law 227 = .ok (.iload_n 3, 1) := by decide +kernel
theorem dL_law_228 : decode cL_law 228 = .ok (.iconst 1, 1) := by decide +kernel
theorem dL_law_229 : decode cL_law 229 = .ok (.iadd, 1) := by decide +kernel
theorem dL_law_230 : decode cL_law 230 = .ok (.iaload, 1) := by decide +kernel
theorem dL_law_231 : decode cL_law 231 = .ok (.invokevirtual 29, 3) := by decide +kernel
theorem dL_law_234 : decode cL_law 234 = .ok (.aload_n 2, 1) := by decide +kernel
theorem dL_law_235 : decode cL_law 235 = .ok (.aload_n 0, 1) := by decide +kernel
theorem dL_law_236 : decode cL_law 236 = .ok (.iload_n 3, 1) := by decide +kernel
theorem dL_law_237 : decode cL_law 237 = .ok (.iconst 1, 1) := by decide +kernel
theorem dL_law_238 : decode cL_law 238 = .ok (.iadd, 1) := by decide +kernel
theorem dL_law_239 : decode cL_law 239 = .ok (.iaload, 1) := by decide +kernel
theorem dL_law_240 : decode cL_law 240 = .ok (.invokevirtual 33, 3) := by decide +kernel
theorem dL_law_243 : decode cL_law 243 = .ok (.if_icmp .eq 501, 3) := by decide +kernel
theorem dL_law_246 : decode cL_law 246 = .ok (.iconst 0, 1) := by decide +kernel
theorem dL_law_247 : decode cL_law 247 = .ok (.ireturn, 1) := by decide +kernel
theorem dL_law_248 : decode cL_law 248 = .ok (.aload_n 1, 1) := by decide +kernel
theorem dL_law_249 : decode cL_law 249 = .ok (.aload_n 0, 1) := by decide +kernel
theorem dL_law_250 : decode cL_law 250 = .ok (.iload_n 3, 1) := by decide +kernel
theorem dL_law_251 : decode cL_law 251 = .ok (.iconst 1, 1) := by decide +kernel
theorem dL_law_252 : decode cL_law 252 = .ok (.iadd, 1) := by decide +kernel
theorem dL_law_253 : decode cL_law 253 = .ok (.iaload, 1) := by decide +kernel
theorem dL_law_254 : decode cL_law 254 = .ok (.aload_n 0, 1) := by decide +kernel
theorem dL_law_255 : decode cL_law 255 = .ok (.iload_n 3, 1) := by decide +kernel
theorem dL_law_256 : decode cL_law 256 = .ok (.iconst 2, 1) := by decide +kernel
theorem dL_law_257 : decode cL_law 257 = .ok (.iadd, 1) := by decide +kernel
theorem dL_law_258 : decode cL_law 258 = .ok (.iaload, 1) := by decide +kernel
theorem dL_law_259 : decode cL_law 259 = .ok (.aload_n 0, 1) := by decide +kernel
theorem dL_law_260 : decode cL_law 260 = .ok (.iload_n 3, 1) := by decide +kernel
theorem dL_law_261 : decode cL_law 261 = .ok (.iconst 3, 1) := by decide +kernel
theorem dL_law_262 : decode cL_law 262 = .ok (.iadd, 1) := by decide +kernel
theorem dL_law_263 : decode cL_law 263 = .ok (.iaload, 1) := by decide +kernel
theorem dL_law_264 : decode cL_law 264 = .ok (.invokevirtual 34, 3) := by decide +kernel
theorem dL_law_267 : decode cL_law 267 = .ok (.aload_n 2, 1) := by decide +kernel
theorem dL_law_268 : decode cL_law 268 = .ok (.aload_n 0, 1) := by decide +kernel
theorem dL_law_269 : decode cL_law 269 = .ok (.iload_n 3, 1) := by decide +kernel
theorem dL_law_270 : decode cL_law 270 = .ok (.iconst 1, 1) := by decide +kernel
theorem dL_law_271 : decode cL_law 271 = .ok (.iadd, 1) := by decide +kernel
theorem dL_law_272 : decode cL_law 272 = .ok (.iaload, 1) := by decide +kernel
theorem dL_law_273 : decode cL_law 273 = .ok (.aload_n 0, 1) := by decide +kernel
theorem dL_law_274 : decode cL_law 274 = .ok (.iload_n 3, 1) := by decide +kernel
theorem dL_law_275 : decode cL_law 275 = .ok (.iconst 2, 1) := by decide +kernel
theorem dL_law_276 : decode cL_law 276 = .ok (.iadd, 1) := by decide +kernel
theorem dL_law_277 : decode cL_law 277 = .ok (.iaload, 1) := by decide +kernel
theorem dL_law_278 : decode cL_law 278 = .ok (.aload_n 0, 1) := by decide +kernel
theorem dL_law_279 : decode cL_law 279 = .ok (.iload_n 3, 1) := by decide +kernel
theorem dL_law_280 : decode cL_law 280 = .ok (.iconst 3, 1) := by decide +kernel
theorem dL_law_281 : decode cL_law 281 = .ok (.iadd, 1) := by decide +kernel
theorem dL_law_282 : decode cL_law 282 = .ok (.iaload, 1) := by decide +kernel
theorem dL_law_283 : decode cL_law 283 = .ok (.invokevirtual 38, 3) := by decide +kernel
theorem dL_law_286 : decode cL_law 286 = .ok (.if_icmp .eq 458, 3) := by decide +kernel
theorem dL_law_289 : decode cL_law 289 = .ok (.iconst 0, 1) := by decide +kernel
theorem dL_law_290 : decode cL_law 290 = .ok (.ireturn, 1) := by decide +kernel
theorem dL_law_291 : decode cL_law 291 = .ok (.aload_n 1, 1) := by decide +kernel
theorem dL_law_292 : decode cL_law 292 = .ok (.aload_n 0, 1) := by decide +kernel
theorem dL_law_293 : decode cL_law 293 = .ok (.iload_n 3, 1) := by decide +kernel
theorem dL_law_294 : decode cL_law 294 = .ok (.iconst 1, 1) := by decide +kernel
theorem dL_law_295 : decode cL_law 295 = .ok (.iadd, 1) := by decide +kernel
theorem dL_law_296 : decode cL_law 296 = .ok (.iaload, 1) := by decide +kernel
theorem dL_law_297 : decode cL_law 297 = .ok (.aload_n 0, 1) := by decide +kernel
theorem dL_law_298 : decode cL_law 298 = .ok (.iload_n 3, 1) := by decide +kernel
theorem dL_law_299 : decode cL_law 299 = .ok (.iconst 2, 1) := by decide +kernel
theorem dL_law_300 : decode cL_law 300 = .ok (.iadd, 1) := by decide +kernel
theorem dL_law_301 : decode cL_law 301 = .ok (.iaload, 1) := by decide +kernel
theorem dL_law_302 : decode cL_law 302 = .ok (.aload_n 0, 1) := by decide +kernel
theorem dL_law_303 : decode cL_law 303 = .ok (.iload_n 3, 1) := by decide +kernel
theorem dL_law_304 : decode cL_law 304 = .ok (.iconst 3, 1) := by decide +kernel
theorem dL_law_305 : decode cL_law 305 = .ok (.iadd, 1) := by decide +kernel
theorem dL_law_306 : decode cL_law 306 = .ok (.iaload, 1) := by decide +kernel
theorem dL_law_307 : decode cL_law 307 = .ok (.invokevirtual 39, 3) := by decide +kernel
theorem dL_law_310 : decode cL_law 310 = .ok (.aload_n 2, 1) := by decide +kernel
theorem dL_law_311 : decode cL_law 311 = .ok (.aload_n 0, 1) := by decide +kernel
theorem dL_law_312 : decode cL_law 312 = .ok (.iload_n 3, 1) := by decide +kernel
theorem dL_law_313 : decode cL_law 313 = .ok (.iconst 1, 1) := by decide +kernel
theorem dL_law_314 : decode cL_law 314 = .ok (.iadd, 1) := by decide +kernel
theorem dL_law_315 : decode cL_law 315 = .ok (.iaload, 1) := by decide +kernel
theorem dL_law_316 : decode cL_law 316 = .ok (.aload_n 0, 1) := by decide +kernel
theorem dL_law_317 : decode cL_law 317 = .ok (.iload_n 3, 1) := by decide +kernel
theorem dL_law_318 : decode cL_law 318 = .ok (.iconst 2, 1) := by decide +kernel
theorem dL_law_319 : decode cL_law 319 = .ok (.iadd, 1) := by decide +kernel
theorem dL_law_320 : decode cL_law 320 = .ok (.iaload, 1) := by decide +kernel
theorem dL_law_321 : decode cL_law 321 = .ok (.aload_n 0, 1) := by decide +kernel
theorem dL_law_322 : decode cL_law 322 = .ok (.iload_n 3, 1) := by decide +kernel
theorem dL_law_323 : decode cL_law 323 = .ok (.iconst 3, 1) := by decide +kernel
theorem dL_law_324 : decode cL_law 324 = .ok (.iadd, 1) := by decide +kernel
theorem dL_law_325 : decode cL_law 325 = .ok (.iaload, 1) := by decide +kernel
theorem dL_law_326 : decode cL_law 326 = .ok (.invokevirtual 42, 3) := by decide +kernel
theorem dL_law_329 : decode cL_law 329 = .ok (.if_icmp .eq 415, 3) := by decide +kernel
theorem dL_law_332 : decode cL_law 332 = .ok (.iconst 0, 1) := by decide +kernel
theorem dL_law_333 : decode cL_law 333 = .ok (.ireturn, 1) := by decide +kernel
theorem dL_law_334 : decode cL_law 334 = .ok (.aload_n 1, 1) := by decide +kernel
theorem dL_law_335 : decode cL_law 335 = .ok (.aload_n 0, 1) := by decide +kernel
theorem dL_law_336 : decode cL_law 336 = .ok (.iload_n 3, 1) := by decide +kernel
theorem dL_law_337 : decode cL_law 337 = .ok (.iconst 1, 1) := by decide +kernel
theorem dL_law_338 : decode cL_law 338 = .ok (.iadd, 1) := by decide +kernel
theorem dL_law_339 : decode cL_law 339 = .ok (.iaload, 1) := by decide +kernel
theorem dL_law_340 : decode cL_law 340 = .ok (.aload_n 0, 1) := by decide +kernel
theorem dL_law_341 : decode cL_law 341 = .ok (.iload_n 3, 1) := by decide +kernel
theorem dL_law_342 : decode cL_law 342 = .ok (.iconst 2, 1) := by decide +kernel
theorem dL_law_343 : decode cL_law 343 = .ok (.iadd, 1) := by decide +kernel
theorem dL_law_344 : decode cL_law 344 = .ok (.iaload, 1) := by decide +kernel
theorem dL_law_345 : decode cL_law 345 = .ok (.invokevirtual 43, 3) := by decide +kernel
theorem dL_law_348 : decode cL_law 348 = .ok (.aload_n 2, 1) := by decide +kernel
theorem dL_law_349 : decode cL_law 349 = .ok (.aload_n 0, 1) := by decide +kernel
theorem dL_law_350 : decode cL_law 350 = .ok (.iload_n 3, 1) := by decide +kernel
theorem dL_law_351 : decode cL_law 351 = .ok (.iconst 1, 1) := by decide +kernel
theorem dL_law_352 : decode cL_law 352 = .ok (.iadd, 1) := by decide +kernel
theorem dL_law_353 : decode cL_law 353 = .ok (.iaload, 1) := by decide +kernel
theorem dL_law_354 : decode cL_law 354 = .ok (.aload_n 0, 1) := by decide +kernel
theorem dL_law_355 : decode cL_law 355 = .ok (.iload_n 3, 1) := by decide +kernel
theorem dL_law_356 : decode cL_law 356 = .ok (.iconst 2, 1) := by decide +kernel
theorem dL_law_357 : decode cL_law 357 = .ok (.iadd, 1) := by decide +kernel
theorem dL_law_358 : decode cL_law 358 = .ok (.iaload, 1) := by decide +kernel
theorem dL_law_359 : decode cL_law 359 = .ok (.invokevirtual 47, 3) := by decide +kernel
theorem dL_law_362 : decode cL_law 362 = .ok (.if_icmp .eq 382, 3) := by decide +kernel
theorem dL_law_365 : decode cL_law 365 = .ok (.iconst 0, 1) := by decide +kernel
theorem dL_law_366 : decode cL_law 366 = .ok (.ireturn, 1) := by decide +kernel
theorem dL_law_367 : decode cL_law 367 = .ok (.aload_n 1, 1) := by decide +kernel
theorem dL_law_368 : decode cL_law 368 = .ok (.invokevirtual 48, 3) := by decide +kernel
theorem dL_law_371 : decode cL_law 371 = .ok (.aload_n 2, 1) := by decide +kernel
theorem dL_law_372 : decode cL_law 372 = .ok (.invokevirtual 51, 3) := by decide +kernel
theorem dL_law_375 : decode cL_law 375 = .ok (.if_icmp .eq 369, 3) := by decide +kernel
theorem dL_law_378 : decode cL_law 378 = .ok (.iconst 0, 1) := by decide +kernel
theorem dL_law_379 : decode cL_law 379 = .ok (.ireturn, 1) := by decide +kernel
theorem dL_law_380 : decode cL_law 380 = .ok (.aload_n 1, 1) := by decide +kernel
theorem dL_law_381 : decode cL_law 381 = .ok (.aload_n 0, 1) := by decide +kernel
theorem dL_law_382 : decode cL_law 382 = .ok (.iload_n 3, 1) := by decide +kernel
theorem dL_law_383 : decode cL_law 383 = .ok (.iconst 1, 1) := by decide +kernel
theorem dL_law_384 : decode cL_law 384 = .ok (.iadd, 1) := by decide +kernel
theorem dL_law_385 : decode cL_law 385 = .ok (.iaload, 1) := by decide +kernel
theorem dL_law_386 : decode cL_law 386 = .ok (.aload_n 0, 1) := by decide +kernel
theorem dL_law_387 : decode cL_law 387 = .ok (.iload_n 3, 1) := by decide +kernel
theorem dL_law_388 : decode cL_law 388 = .ok (.iconst 2, 1) := by decide +kernel
theorem dL_law_389 : decode cL_law 389 = .ok (.iadd, 1) := by decide +kernel
theorem dL_law_390 : decode cL_law 390 = .ok (.iaload, 1) := by decide +kernel
theorem dL_law_391 : decode cL_law 391 = .ok (.invokevirtual 52, 3) := by decide +kernel
theorem dL_law_394 : decode cL_law 394 = .ok (.aload_n 2, 1) := by decide +kernel
theorem dL_law_395 : decode cL_law 395 = .ok (.aload_n 0, 1) := by decide +kernel
theorem dL_law_396 : decode cL_law 396 = .ok (.iload_n 3, 1) := by decide +kernel
theorem dL_law_397 : decode cL_law 397 = .ok (.iconst 1, 1) := by decide +kernel
theorem dL_law_398 : decode cL_law 398 = .ok (.iadd, 1) := by decide +kernel
theorem dL_law_399 : decode cL_law 399 = .ok (.iaload, 1) := by decide +kernel
theorem dL_law_400 : decode cL_law 400 = .ok (.aload_n 0, 1) := by decide +kernel
theorem dL_law_401 : decode cL_law 401 = .ok (.iload_n 3, 1) := by decide +kernel
theorem dL_law_402 : decode cL_law 402 = .ok (.iconst 2, 1) := by decide +kernel
theorem dL_law_403 : decode cL_law 403 = .ok (.iadd, 1) := by decide +kernel
theorem dL_law_404 : decode cL_law 404 = .ok (.iaload, 1) := by decide +kernel
theorem dL_law_405 : decode cL_law 405 = .ok (.invokevirtual 55, 3) := by decide +kernel
theorem dL_law_408 : decode cL_law 408 = .ok (.if_icmp .eq 336, 3) := by decide +kernel
theorem dL_law_411 : decode cL_law 411 = .ok (.iconst 0, 1) := by decide +kernel
theorem dL_law_412 : decode cL_law 412 = .ok (.ireturn, 1) := by decide +kernel
theorem dL_law_413 : decode cL_law 413 = .ok (.aload_n 1, 1) := by decide +kernel
theorem dL_law_414 : decode cL_law 414 = .ok (.aload_n 0, 1) := by decide +kernel
theorem dL_law_415 : decode cL_law 415 = .ok (.iload_n 3, 1) := by decide +kernel
theorem dL_law_416 : decode cL_law 416 = .ok (.iconst 1, 1) := by decide +kernel
theorem dL_law_417 : decode cL_law 417 = .ok (.iadd, 1) := by decide +kernel
theorem dL_law_418 : decode cL_law 418 = .ok (.iaload, 1) := by decide +kernel
theorem dL_law_419 : decode cL_law 419 = .ok (.invokevirtual 56, 3) := by decide +kernel
theorem dL_law_422 : decode cL_law 422 = .ok (.aload_n 2, 1) := by decide +kernel
theorem dL_law_423 : decode cL_law 423 = .ok (.aload_n 0, 1) := by decide +kernel
theorem dL_law_424 : decode cL_law 424 = .ok (.iload_n 3, 1) := by decide +kernel
theorem dL_law_425 : decode cL_law 425 = .ok (.iconst 1, 1) := by decide +kernel
theorem dL_law_426 : decode cL_law 426 = .ok (.iadd, 1) := by decide +kernel
theorem dL_law_427 : decode cL_law 427 = .ok (.iaload, 1) := by decide +kernel
theorem dL_law_428 : decode cL_law 428 = .ok (.invokevirtual 59, 3) := by decide +kernel
theorem dL_law_431 : decode cL_law 431 = .ok (.if_icmp .eq 313, 3) := by decide +kernel
theorem dL_law_434 : decode cL_law 434 = .ok (.iconst 0, 1) := by decide +kernel
theorem dL_law_435 : decode cL_law 435 = .ok (.ireturn, 1) := by decide +kernel
theorem dL_law_436 : decode cL_law 436 = .ok (.aload_n 1, 1) := by decide +kernel
theorem dL_law_437 : decode cL_law 437 = .ok (.aload_n 0, 1) := by decide +kernel
theorem dL_law_438 : decode cL_law 438 = .ok (.iload_n 3, 1) := by decide +kernel
theorem dL_law_439 : decode cL_law 439 = .ok (.iconst 1, 1) := by decide +kernel
theorem dL_law_440 : decode cL_law 440 = .ok (.iadd, 1) := by decide +kernel
theorem dL_law_441 : decode cL_law 441 = .ok (.iaload, 1) := by decide +kernel
theorem dL_law_442 : decode cL_law 442 = .ok (.invokevirtual 60, 3) := by decide +kernel
theorem dL_law_445 : decode cL_law 445 = .ok (.aload_n 2, 1) := by decide +kernel
theorem dL_law_446 : decode cL_law 446 = .ok (.aload_n 0, 1) := by decide +kernel
theorem dL_law_447 : decode cL_law 447 = .ok (.iload_n 3, 1) := by decide +kernel
theorem dL_law_448 : decode cL_law 448 = .ok (.iconst 1, 1) := by decide +kernel
theorem dL_law_449 : decode cL_law 449 = .ok (.iadd, 1) := by decide +kernel
theorem dL_law_450 : decode cL_law 450 = .ok (.iaload, 1) := by decide +kernel
theorem dL_law_451 : decode cL_law 451 = .ok (.invokevirtual 63, 3) := by decide +kernel
theorem dL_law_454 : decode cL_law 454 = .ok (.if_icmp .eq 290, 3) := by decide +kernel
theorem dL_law_457 : decode cL_law 457 = .ok (.iconst 0, 1) := by decide +kernel
theorem dL_law_458 : decode cL_law 458 = .ok (.ireturn, 1) := by decide +kernel
theorem dL_law_459 : decode cL_law 459 = .ok (.aload_n 1, 1) := by decide +kernel
theorem dL_law_460 : decode cL_law 460 = .ok (.aload_n 0, 1) := by decide +kernel
theorem dL_law_461 : decode cL_law 461 = .ok (.iload_n 3, 1) := by decide +kernel
theorem dL_law_462 : decode cL_law 462 = .ok (.iconst 1, 1) := by decide +kernel
theorem dL_law_463 : decode cL_law 463 = .ok (.iadd, 1) := by decide +kernel
theorem dL_law_464 : decode cL_law 464 = .ok (.iaload, 1) := by decide +kernel
theorem dL_law_465 : decode cL_law 465 = .ok (.invokevirtual 64, 3) := by decide +kernel
theorem dL_law_468 : decode cL_law 468 = .ok (.aload_n 2, 1) := by decide +kernel
theorem dL_law_469 : decode cL_law 469 = .ok (.aload_n 0, 1) := by decide +kernel
theorem dL_law_470 : decode cL_law 470 = .ok (.iload_n 3, 1) := by decide +kernel
theorem dL_law_471 : decode cL_law 471 = .ok (.iconst 1, 1) := by decide +kernel
theorem dL_law_472 : decode cL_law 472 = .ok (.iadd, 1) := by decide +kernel
theorem dL_law_473 : decode cL_law 473 = .ok (.iaload, 1) := by decide +kernel
theorem dL_law_474 : decode cL_law 474 = .ok (.invokevirtual 67, 3) := by decide +kernel
theorem dL_law_477 : decode cL_law 477 = .ok (.if_icmp .eq 267, 3) := by decide +kernel
theorem dL_law_480 : decode cL_law 480 = .ok (.iconst 0, 1) := by decide +kernel
theorem dL_law_481 : decode cL_law 481 = .ok (.ireturn, 1) := by decide +kernel
theorem dL_law_482 : decode cL_law 482 = .ok (.aload_n 1, 1) := by decide +kernel
theorem dL_law_483 : decode cL_law 483 = .ok (.aload_n 0, 1) := by decide +kernel
theorem dL_law_484 : decode cL_law 484 = .ok (.iload_n 3, 1) := by decide +kernel
theorem dL_law_485 : decode cL_law 485 = .ok (.iconst 1, 1) := by decide +kernel
theorem dL_law_486 : decode cL_law 486 = .ok (.iadd, 1) := by decide +kernel
theorem dL_law_487 : decode cL_law 487 = .ok (.iaload, 1) := by decide +kernel
theorem dL_law_488 : decode cL_law 488 = .ok (.invokevirtual 68, 3) := by decide +kernel
theorem dL_law_491 : decode cL_law 491 = .ok (.aload_n 2, 1) := by decide +kernel
theorem dL_law_492 : decode cL_law 492 = .ok (.aload_n 0, 1) := by decide +kernel
theorem dL_law_493 : decode cL_law 493 = .ok (.iload_n 3, 1) := by decide +kernel
theorem dL_law_494 : decode cL_law 494 = .ok (.iconst 1, 1) := by decide +kernel
theorem dL_law_495 : decode cL_law 495 = .ok (.iadd, 1) := by decide +kernel
theorem dL_law_496 : decode cL_law 496 = .ok (.iaload, 1) := by decide +kernel
theorem dL_law_497 : decode cL_law 497 = .ok (.invokevirtual 71, 3) := by decide +kernel
theorem dL_law_500 : decode cL_law 500 = .ok (.if_icmp .eq 244, 3) := by decide +kernel
theorem dL_law_503 : decode cL_law 503 = .ok (.iconst 0, 1) := by decide +kernel
theorem dL_law_504 : decode cL_law 504 = .ok (.ireturn, 1) := by decide +kernel
theorem dL_law_505 : decode cL_law 505 = .ok (.aload_n 1, 1) := by decide +kernel
theorem dL_law_506 : decode cL_law 506 = .ok (.aload_n 0, 1) := by decide +kernel
theorem dL_law_507 : decode cL_law 507 = .ok (.iload_n 3, 1) := by decide +kernel
theorem dL_law_508 : decode cL_law 508 = .ok (.iconst 1, 1) := by decide +kernel
theorem dL_law_509 : decode cL_law 509 = .ok (.iadd, 1) := by decide +kernel
theorem dL_law_510 : decode cL_law 510 = .ok (.iaload, 1) := by decide +kernel
theorem dL_law_511 : decode cL_law 511 = .ok (.invokevirtual 72, 3) := by decide +kernel
theorem dL_law_514 : decode cL_law 514 = .ok (.aload_n 2, 1) := by decide +kernel
theorem dL_law_515 : decode cL_law 515 = .ok (.aload_n 0, 1) := by decide +kernel
theorem dL_law_516 : decode cL_law 516 = .ok (.iload_n 3, 1) := by decide +kernel
theorem dL_law_517 : decode cL_law 517 = .ok (.iconst 1, 1) := by decide +kernel
theorem dL_law_518 : decode cL_law 518 = .ok (.iadd, 1) := by decide +kernel
theorem dL_law_519 : decode cL_law 519 = .ok (.iaload, 1) := by decide +kernel
theorem dL_law_520 : decode cL_law 520 = .ok (.invokevirtual 75, 3) := by decide +kernel
theorem dL_law_523 : decode cL_law 523 = .ok (.if_icmp .eq 221, 3) := by decide +kernel
theorem dL_law_526 : decode cL_law 526 = .ok (.iconst 0, 1) := by decide +kernel
theorem dL_law_527 : decode cL_law 527 = .ok (.ireturn, 1) := by decide +kernel
theorem dL_law_528 : decode cL_law 528 = .ok (.aload_n 1, 1) := by decide +kernel
theorem dL_law_529 : decode cL_law 529 = .ok (.aload_n 0, 1) := by decide +kernel
theorem dL_law_530 : decode cL_law 530 = .ok (.iload_n 3, 1) := by decide +kernel
theorem dL_law_531 : decode cL_law 531 = .ok (.iconst 1, 1) := by decide +kernel
theorem dL_law_532 : decode cL_law 532 = .ok (.iadd, 1) := by decide +kernel
theorem dL_law_533 : decode cL_law 533 = .ok (.iaload, 1) := by decide +kernel
theorem dL_law_534 : decode cL_law 534 = .ok (.aload_n 0, 1) := by decide +kernel
theorem dL_law_535 : decode cL_law 535 = .ok (.iload_n 3, 1) := by decide +kernel
theorem dL_law_536 : decode cL_law 536 = .ok (.iconst 2, 1) := by decide +kernel
theorem dL_law_537 : decode cL_law 537 = .ok (.iadd, 1) := by decide +kernel
theorem dL_law_538 : decode cL_law 538 = .ok (.iaload, 1) := by decide +kernel
theorem dL_law_539 : decode cL_law 539 = .ok (.aload_n 0, 1) := by decide +kernel
theorem dL_law_540 : decode cL_law 540 = .ok (.iload_n 3, 1) := by decide +kernel
theorem dL_law_541 : decode cL_law 541 = .ok (.iconst 3, 1) := by decide +kernel
theorem dL_law_542 : decode cL_law 542 = .ok (.iadd, 1) := by decide +kernel
theorem dL_law_543 : decode cL_law 543 = .ok (.iaload, 1) := by decide +kernel
theorem dL_law_544 : decode cL_law 544 = .ok (.aload_n 0, 1) := by decide +kernel
theorem dL_law_545 : decode cL_law 545 = .ok (.iload_n 3, 1) := by decide +kernel
theorem dL_law_546 : decode cL_law 546 = .ok (.iconst 4, 1) := by decide +kernel
theorem dL_law_547 : decode cL_law 547 = .ok (.iadd, 1) := by decide +kernel
theorem dL_law_548 : decode cL_law 548 = .ok (.iaload, 1) := by decide +kernel
theorem dL_law_549 : decode cL_law 549 = .ok (.invokevirtual 76, 3) := by decide +kernel
theorem dL_law_552 : decode cL_law 552 = .ok (.aload_n 2, 1) := by decide +kernel
theorem dL_law_553 : decode cL_law 553 = .ok (.aload_n 0, 1) := by decide +kernel
theorem dL_law_554 : decode cL_law 554 = .ok (.iload_n 3, 1) := by decide +kernel
theorem dL_law_555 : decode cL_law 555 = .ok (.iconst 1, 1) := by decide +kernel
theorem dL_law_556 : decode cL_law 556 = .ok (.iadd, 1) := by decide +kernel
theorem dL_law_557 : decode cL_law 557 = .ok (.iaload, 1) := by decide +kernel
theorem dL_law_558 : decode cL_law 558 = .ok (.aload_n 0, 1) := by decide +kernel
theorem dL_law_559 : decode cL_law 559 = .ok (.iload_n 3, 1) := by decide +kernel
theorem dL_law_560 : decode cL_law 560 = .ok (.iconst 2, 1) := by decide +kernel
theorem dL_law_561 : decode cL_law 561 = .ok (.iadd, 1) := by decide +kernel
theorem dL_law_562 : decode cL_law 562 = .ok (.iaload, 1) := by decide +kernel
theorem dL_law_563 : decode cL_law 563 = .ok (.aload_n 0, 1) := by decide +kernel
theorem dL_law_564 : decode cL_law 564 = .ok (.iload_n 3, 1) := by decide +kernel
theorem dL_law_565 : decode cL_law 565 = .ok (.iconst 3, 1) := by decide +kernel
theorem dL_law_566 : decode cL_law 566 = .ok (.iadd, 1) := by decide +kernel
theorem dL_law_567 : decode cL_law 567 = .ok (.iaload, 1) := by decide +kernel
theorem dL_law_568 : decode cL_law 568 = .ok (.aload_n 0, 1) := by decide +kernel
theorem dL_law_569 : decode cL_law 569 = .ok (.iload_n 3, 1) := by decide +kernel
theorem dL_law_570 : decode cL_law 570 = .ok (.iconst 4, 1) := by decide +kernel
theorem dL_law_571 : decode cL_law 571 = .ok (.iadd, 1) := by decide +kernel
theorem dL_law_572 : decode cL_law 572 = .ok (.iaload, 1) := by decide +kernel
theorem dL_law_573 : decode cL_law 573 = .ok (.invokevirtual 80, 3) := by decide +kernel
theorem dL_law_576 : decode cL_law 576 = .ok (.lcmp, 1) := by decide +kernel
theorem dL_law_577 : decode cL_law 577 = .ok (.ifCond .eq 167, 3) := by decide +kernel
theorem dL_law_580 : decode cL_law 580 = .ok (.iconst 0, 1) := by decide +kernel
theorem dL_law_581 : decode cL_law 581 = .ok (.ireturn, 1) := by decide +kernel
theorem dL_law_582 : decode cL_law 582 = .ok (.aload_n 1, 1) := by decide +kernel
theorem dL_law_583 : decode cL_law 583 = .ok (.aload_n 0, 1) := by decide +kernel
theorem dL_law_584 : decode cL_law 584 = .ok (.iload_n 3, 1) := by decide +kernel
theorem dL_law_585 : decode cL_law 585 = .ok (.iconst 1, 1) := by decide +kernel
theorem dL_law_586 : decode cL_law 586 = .ok (.iadd, 1) := by decide +kernel
theorem dL_law_587 : decode cL_law 587 = .ok (.iaload, 1) := by decide +kernel
theorem dL_law_588 : decode cL_law 588 = .ok (.aload_n 0, 1) := by decide +kernel
theorem dL_law_589 : decode cL_law 589 = .ok (.iload_n 3, 1) := by decide +kernel
theorem dL_law_590 : decode cL_law 590 = .ok (.iconst 2, 1) := by decide +kernel
theorem dL_law_591 : decode cL_law 591 = .ok (.iadd, 1) := by decide +kernel
theorem dL_law_592 : decode cL_law 592 = .ok (.iaload, 1) := by decide +kernel
theorem dL_law_593 : decode cL_law 593 = .ok (.invokevirtual 81, 3) := by decide +kernel
theorem dL_law_596 : decode cL_law 596 = .ok (.aload_n 2, 1) := by decide +kernel
theorem dL_law_597 : decode cL_law 597 = .ok (.aload_n 0, 1) := by decide +kernel
theorem dL_law_598 : decode cL_law 598 = .ok (.iload_n 3, 1) := by decide +kernel
theorem dL_law_599 : decode cL_law 599 = .ok (.iconst 1, 1) := by decide +kernel
theorem dL_law_600 : decode cL_law 600 = .ok (.iadd, 1) := by decide +kernel
theorem dL_law_601 : decode cL_law 601 = .ok (.iaload, 1) := by decide +kernel
theorem dL_law_602 : decode cL_law 602 = .ok (.aload_n 0, 1) := by decide +kernel
theorem dL_law_603 : decode cL_law 603 = .ok (.iload_n 3, 1) := by decide +kernel
theorem dL_law_604 : decode cL_law 604 = .ok (.iconst 2, 1) := by decide +kernel
theorem dL_law_605 : decode cL_law 605 = .ok (.iadd, 1) := by decide +kernel
theorem dL_law_606 : decode cL_law 606 = .ok (.iaload, 1) := by decide +kernel
theorem dL_law_607 : decode cL_law 607 = .ok (.invokevirtual 84, 3) := by decide +kernel
theorem dL_law_610 : decode cL_law 610 = .ok (.if_icmp .eq 134, 3) := by decide +kernel
theorem dL_law_613 : decode cL_law 613 = .ok (.iconst 0, 1) := by decide +kernel
theorem dL_law_614 : decode cL_law 614 = .ok (.ireturn, 1) := by decide +kernel
theorem dL_law_615 : decode cL_law 615 = .ok (.aload_n 1, 1) := by decide +kernel
theorem dL_law_616 : decode cL_law 616 = .ok (.invokevirtual 85, 3) := by decide +kernel
theorem dL_law_619 : decode cL_law 619 = .ok (.aload_n 2, 1) := by decide +kernel
theorem dL_law_620 : decode cL_law 620 = .ok (.invokevirtual 88, 3) := by decide +kernel
theorem dL_law_623 : decode cL_law 623 = .ok (.if_icmp .eq 121, 3) := by decide +kernel
theorem dL_law_626 : decode cL_law 626 = .ok (.iconst 0, 1) := by decide +kernel
theorem dL_law_627 : decode cL_law 627 = .ok (.ireturn, 1) := by decide +kernel
theorem dL_law_628 : decode cL_law 628 = .ok (.aload_n 1, 1) := by decide +kernel
theorem dL_law_629 : decode cL_law 629 = .ok (.aload_n 0, 1) := by decide +kernel
theorem dL_law_630 : decode cL_law 630 = .ok (.iload_n 3, 1) := by decide +kernel
theorem dL_law_631 : decode cL_law 631 = .ok (.iconst 1, 1) := by decide +kernel
theorem dL_law_632 : decode cL_law 632 = .ok (.iadd, 1) := by decide +kernel
theorem dL_law_633 : decode cL_law 633 = .ok (.iaload, 1) := by decide +kernel
theorem dL_law_634 : decode cL_law 634 = .ok (.aload_n 0, 1) := by decide +kernel
theorem dL_law_635 : decode cL_law 635 = .ok (.iload_n 3, 1) := by decide +kernel
theorem dL_law_636 : decode cL_law 636 = .ok (.iconst 2, 1) := by decide +kernel
theorem dL_law_637 : decode cL_law 637 = .ok (.iadd, 1) := by decide +kernel
theorem dL_law_638 : decode cL_law 638 = .ok (.iaload, 1) := by decide +kernel
theorem dL_law_639 : decode cL_law 639 = .ok (.invokevirtual 89, 3) := by decide +kernel
theorem dL_law_642 : decode cL_law 642 = .ok (.aload_n 2, 1) := by decide +kernel
theorem dL_law_643 : decode cL_law 643 = .ok (.aload_n 0, 1) := by decide +kernel
theorem dL_law_644 : decode cL_law 644 = .ok (.iload_n 3, 1) := by decide +kernel
theorem dL_law_645 : decode cL_law 645 = .ok (.iconst 1, 1) := by decide +kernel
theorem dL_law_646 : decode cL_law 646 = .ok (.iadd, 1) := by decide +kernel
theorem dL_law_647 : decode cL_law 647 = .ok (.iaload, 1) := by decide +kernel
theorem dL_law_648 : decode cL_law 648 = .ok (.aload_n 0, 1) := by decide +kernel
theorem dL_law_649 : decode cL_law 649 = .ok (.iload_n 3, 1) := by decide +kernel
theorem dL_law_650 : decode cL_law 650 = .ok (.iconst 2, 1) := by decide +kernel
theorem dL_law_651 : decode cL_law 651 = .ok (.iadd, 1) := by decide +kernel
theorem dL_law_652 : decode cL_law 652 = .ok (.iaload, 1) := by decide +kernel
theorem dL_law_653 : decode cL_law 653 = .ok (.invokevirtual 92, 3) := by decide +kernel
theorem dL_law_656 : decode cL_law 656 = .ok (.if_icmp .eq 88, 3) := by decide +kernel
theorem dL_law_659 : decode cL_law 659 = .ok (.iconst 0, 1) := by decide +kernel
theorem dL_law_660 : decode cL_law 660 = .ok (.ireturn, 1) := by decide +kernel
theorem dL_law_661 : decode cL_law 661 = .ok (.aload_n 1, 1) := by decide +kernel
theorem dL_law_662 : decode cL_law 662 = .ok (.aload_n 0, 1) := by decide +kernel
theorem dL_law_663 : decode cL_law 663 = .ok (.iload_n 3, 1) := by decide +kernel
theorem dL_law_664 : decode cL_law 664 = .ok (.iconst 1, 1) := by decide +kernel
theorem dL_law_665 : decode cL_law 665 = .ok (.iadd, 1) := by decide +kernel
theorem dL_law_666 : decode cL_law 666 = .ok (.iaload, 1) := by decide +kernel
theorem dL_law_667 : decode cL_law 667 = .ok (.invokevirtual 93, 3) := by decide +kernel
theorem dL_law_670 : decode cL_law 670 = .ok (.aload_n 2, 1) := by decide +kernel
theorem dL_law_671 : decode cL_law 671 = .ok (.aload_n 0, 1) := by decide +kernel
theorem dL_law_672 : decode cL_law 672 = .ok (.iload_n 3, 1) := by decide +kernel
theorem dL_law_673 : decode cL_law 673 = .ok (.iconst 1, 1) := by decide +kernel
theorem dL_law_674 : decode cL_law 674 = .ok (.iadd, 1) := by decide +kernel
theorem dL_law_675 : decode cL_law 675 = .ok (.iaload, 1) := by decide +kernel
theorem dL_law_676 : decode cL_law 676 = .ok (.invokevirtual 96, 3) := by decide +kernel
theorem dL_law_679 : decode cL_law 679 = .ok (.if_icmp .eq 65, 3) := by decide +kernel
theorem dL_law_682 : decode cL_law 682 = .ok (.iconst 0, 1) := by decide +kernel
theorem dL_law_683 : decode cL_law 683 = .ok (.ireturn, 1) := by decide +kernel
theorem dL_law_684 : decode cL_law 684 = .ok (.aload_n 1, 1) := by decide +kernel
theorem dL_law_685 : decode cL_law 685 = .ok (.aload_n 0, 1) := by decide +kernel
theorem dL_law_686 : decode cL_law 686 = .ok (.iload_n 3, 1) := by decide +kernel
theorem dL_law_687 : decode cL_law 687 = .ok (.iconst 1, 1) := by decide +kernel
theorem dL_law_688 : decode cL_law 688 = .ok (.iadd, 1) := by decide +kernel
theorem dL_law_689 : decode cL_law 689 = .ok (.iaload, 1) := by decide +kernel
theorem dL_law_690 : decode cL_law 690 = .ok (.invokevirtual 97, 3) := by decide +kernel
theorem dL_law_693 : decode cL_law 693 = .ok (.aload_n 2, 1) := by decide +kernel
theorem dL_law_694 : decode cL_law 694 = .ok (.aload_n 0, 1) := by decide +kernel
theorem dL_law_695 : decode cL_law 695 = .ok (.iload_n 3, 1) := by decide +kernel
theorem dL_law_696 : decode cL_law 696 = .ok (.iconst 1, 1) := by decide +kernel
theorem dL_law_697 : decode cL_law 697 = .ok (.iadd, 1) := by decide +kernel
theorem dL_law_698 : decode cL_law 698 = .ok (.iaload, 1) := by decide +kernel
theorem dL_law_699 : decode cL_law 699 = .ok (.invokevirtual 100, 3) := by decide +kernel
theorem dL_law_702 : decode cL_law 702 = .ok (.if_icmp .eq 42, 3) := by decide +kernel
theorem dL_law_705 : decode cL_law 705 = .ok (.iconst 0, 1) := by decide +kernel
theorem dL_law_706 : decode cL_law 706 = .ok (.ireturn, 1) := by decide +kernel
theorem dL_law_707 : decode cL_law 707 = .ok (.aload_n 1, 1) := by decide +kernel
theorem dL_law_708 : decode cL_law 708 = .ok (.aload_n 0, 1) := by decide +kernel
theorem dL_law_709 : decode cL_law 709 = .ok (.iload_n 3, 1) := by decide +kernel
theorem dL_law_710 : decode cL_law 710 = .ok (.iconst 1, 1) := by decide +kernel
theorem dL_law_711 : decode cL_law 711 = .ok (.iadd, 1) := by decide +kernel
theorem dL_law_712 : decode cL_law 712 = .ok (.iaload, 1) := by decide +kernel
theorem dL_law_713 : decode cL_law 713 = .ok (.invokevirtual 101, 3) := by decide +kernel
theorem dL_law_716 : decode cL_law 716 = .ok (.aload_n 2, 1) := by decide +kernel
theorem dL_law_717 : decode cL_law 717 = .ok (.aload_n 0, 1) := by decide +kernel
theorem dL_law_718 : decode cL_law 718 = .ok (.iload_n 3, 1) := by decide +kernel
theorem dL_law_719 : decode cL_law 719 = .ok (.iconst 1, 1) := by decide +kernel
theorem dL_law_720 : decode cL_law 720 = .ok (.iadd, 1) := by decide +kernel
theorem dL_law_721 : decode cL_law 721 = .ok (.iaload, 1) := by decide +kernel
theorem dL_law_722 : decode cL_law 722 = .ok (.invokevirtual 104, 3) := by decide +kernel
theorem dL_law_725 : decode cL_law 725 = .ok (.if_icmp .eq 19, 3) := by decide +kernel
theorem dL_law_728 : decode cL_law 728 = .ok (.iconst 0, 1) := by decide +kernel
theorem dL_law_729 : decode cL_law 729 = .ok (.ireturn, 1) := by decide +kernel
theorem dL_law_730 : decode cL_law 730 = .ok (.aload_n 1, 1) := by decide +kernel
theorem dL_law_731 : decode cL_law 731 = .ok (.invokevirtual 105, 3) := by decide +kernel
theorem dL_law_734 : decode cL_law 734 = .ok (.aload_n 2, 1) := by decide +kernel
theorem dL_law_735 : decode cL_law 735 = .ok (.invokevirtual 109, 3) := by decide +kernel
theorem dL_law_738 : decode cL_law 738 = .ok (.lcmp, 1) := by decide +kernel
theorem dL_law_739 : decode cL_law 739 = .ok (.ifCond .eq 5, 3) := by decide +kernel
theorem dL_law_742 : decode cL_law 742 = .ok (.iconst 0, 1) := by decide +kernel
theorem dL_law_743 : decode cL_law 743 = .ok (.ireturn, 1) := by decide +kernel
theorem dL_law_744 : decode cL_law 744 = .ok (.iinc 3 5, 3) := by decide +kernel
theorem dL_law_747 : decode cL_law 747 = .ok (.goto (-729), 3) := by decide +kernel
theorem dL_law_750 : decode cL_law 750 = .ok (.iconst 1, 1) := by decide +kernel
theorem dL_law_751 : decode cL_law 751 = .ok (.ireturn, 1) := by decide +kernel
