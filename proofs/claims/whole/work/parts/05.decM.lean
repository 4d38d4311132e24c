theorem dM_init_0 : decode cM_init 0 = .ok (.aload_n 0, 1) := by decide +kernel
theorem dM_init_1 : decode cM_init 1 = .ok (.invokespecial 1, 3) := by decide +kernel
theorem dM_init_4 : decode cM_init 4 = .ok (.aload_n 0, 1) := by decide +kernel
theorem dM_init_5 : decode cM_init 5 = .ok (.sipush 520, 3) := by decide +kernel
theorem dM_init_8 : decode cM_init 8 = .ok (.newarray .short, 2) := by decide +kernel
theorem dM_init_10 : decode cM_init 10 = .ok (.putfield 7, 3) := by decide +kernel
theorem dM_init_13 : decode cM_init 13 = .ok (.aload_n 0, 1) := by decide +kernel
theorem dM_init_14 : decode cM_init 14 = .ok (.sipush 520, 3) := by decide +kernel
theorem dM_init_17 : decode cM_init 17 = .ok (.newarray .short, 2) := by decide +kernel
theorem dM_init_19 : decode cM_init 19 = .ok (.putfield 13, 3) := by decide +kernel
theorem dM_init_22 : decode cM_init 22 = .ok (.aload_n 0, 1) := by decide +kernel
theorem dM_init_23 : decode cM_init 23 = .ok (.sipush 520, 3) := by decide +kernel
theorem dM_init_26 : decode cM_init 26 = .ok (.newarray .short, 2) := by decide +kernel
theorem dM_init_28 : decode cM_init 28 = .ok (.putfield 16, 3) := by decide +kernel
theorem dM_init_31 : decode cM_init 31 = .ok (.aload_n 0, 1) := by decide +kernel
theorem dM_init_32 : decode cM_init 32 = .ok (.sipush 520, 3) := by decide +kernel
theorem dM_init_35 : decode cM_init 35 = .ok (.newarray .int, 2) := by decide +kernel
theorem dM_init_37 : decode cM_init 37 = .ok (.putfield 19, 3) := by decide +kernel
theorem dM_init_40 : decode cM_init 40 = .ok (.aload_n 0, 1) := by decide +kernel
theorem dM_init_41 : decode cM_init 41 = .ok (.sipush 520, 3) := by decide +kernel
theorem dM_init_44 : decode cM_init 44 = .ok (.newarray .boolean, 2) := by decide +kernel
theorem dM_init_46 : decode cM_init 46 = .ok (.putfield 23, 3) := by decide +kernel
theorem dM_init_49 : decode cM_init 49 = .ok (.aload_n 0, 1) := by decide +kernel
theorem dM_init_50 : decode cM_init 50 = .ok (.sipush 520, 3) := by decide +kernel
theorem dM_init_53 : decode cM_init 53 = .ok (.newarray .boolean, 2) := by decide +kernel
theorem dM_init_55 : decode cM_init 55 = .ok (.putfield 27, 3) := by decide +kernel
theorem dM_init_58 : decode cM_init 58 = .ok (.aload_n 0, 1) := by decide +kernel
theorem dM_init_59 : decode cM_init 59 = .ok (.sipush 1536, 3) := by decide +kernel
theorem dM_init_62 : decode cM_init 62 = .ok (.newarray .short, 2) := by decide +kernel
theorem dM_init_64 : decode cM_init 64 = .ok (.putfield 30, 3) := by decide +kernel
theorem dM_init_67 : decode cM_init 67 = .ok (.aload_n 0, 1) := by decide +kernel
theorem dM_init_68 : decode cM_init 68 = .ok (.sipush 1536, 3) := by decide +kernel
theorem dM_init_71 : decode cM_init 71 = .ok (.newarray .short, 2) := by decide +kernel
theorem dM_init_73 : decode cM_init 73 = .ok (.putfield 33, 3) := by decide +kernel
theorem dM_init_76 : decode cM_init 76 = .ok (.aload_n 0, 1) := by decide +kernel
theorem dM_init_77 : decode cM_init 77 = .ok (.sipush 192, 3) := by decide +kernel
theorem dM_init_80 : decode cM_init 80 = .ok (.newarray .int, 2) := by decide +kernel
theorem dM_init_82 : decode cM_init 82 = .ok (.putfield 36, 3) := by decide +kernel
theorem dM_init_85 : decode cM_init 85 = .ok (.aload_n 0, 1) := by decide +kernel
theorem dM_init_86 : decode cM_init 86 = .ok (.sipush 192, 3) := by decide +kernel
theorem dM_init_89 : decode cM_init 89 = .ok (.newarray .int, 2) := by decide +kernel
theorem dM_init_91 : decode cM_init 91 = .ok (.putfield 39, 3) := by decide +kernel
theorem dM_init_94 : decode cM_init 94 = .ok (.aload_n 0, 1) := by decide +kernel
theorem dM_init_95 : decode cM_init 95 = .ok (.bipush 12, 2) := by decide +kernel
theorem dM_init_97 : decode cM_init 97 = .ok (.newarray .int, 2) := by decide +kernel
theorem dM_init_99 : decode cM_init 99 = .ok (.putfield 42, 3) := by decide +kernel
theorem dM_init_102 : decode cM_init 102 = .ok (.aload_n 0, 1) := by decide +kernel
theorem dM_init_103 : decode cM_init 103 = .ok (.bipush 12, 2) := by decide +kernel
theorem dM_init_105 : decode cM_init 105 = .ok (.newarray .int, 2) := by decide +kernel
theorem dM_init_107 : decode cM_init 107 = .ok (.putfield 45, 3) := by decide +kernel
theorem dM_init_110 : decode cM_init 110 = .ok (.aload_n 0, 1) := by decide +kernel
theorem dM_init_111 : decode cM_init 111 = .ok (.bipush 12, 2) := by decide +kernel
theorem dM_init_113 : decode cM_init 113 = .ok (.newarray .int, 2) := by decide +kernel
theorem dM_init_115 : decode cM_init 115 = .ok (.putfield 48, 3) := by decide +kernel
theorem dM_init_118 : decode cM_init 118 = .ok (.aload_n 0, 1) := by decide +kernel
theorem dM_init_119 : decode cM_init 119 = .ok (.bipush 12, 2) := by decide +kernel
theorem dM_init_121 : decode cM_init 121 = .ok (.newarray .boolean, 2) := by decide +kernel
theorem dM_init_123 : decode cM_init 123 = .ok (.putfield 51, 3) := by decide +kernel
theorem dM_init_126 : decode cM_init 126 = .ok (.aload_n 0, 1) := by decide +kernel
theorem dM_init_127 : decode cM_init 127 = .ok (.bipush 12, 2) := by decide +kernel
theorem dM_init_129 : decode cM_init 129 = .ok (.newarray .int, 2) := by decide +kernel
theorem dM_init_131 : decode cM_init 131 = .ok (.putfield 54, 3) := by decide +kernel
theorem dM_init_134 : decode cM_init 134 = .ok (.aload_n 0, 1) := by decide +kernel
theorem dM_init_135 : decode cM_init 135 = .ok (.bipush 12, 2) := by decide +kernel
theorem dM_init_137 : decode cM_init 137 = .ok (.newarray .int, 2) := by decide +kernel
theorem dM_init_139 : decode cM_init 139 = .ok (.putfield 57, 3) := by decide +kernel
theorem dM_init_142 : decode cM_init 142 = .ok (.aload_n 0, 1) := by decide +kernel
theorem dM_init_143 : decode cM_init 143 = .ok (.iconst (-1), 1) := by decide +kernel
theorem dM_init_144 : decode cM_init 144 = .ok (.putfield 60, 3) := by decide +kernel
theorem dM_init_147 : decode cM_init 147 = .ok (.aload_n 0, 1) := by decide +kernel
theorem dM_init_148 : decode cM_init 148 = .ok (.invokevirtual 64, 3) := by decide +kernel
theorem dM_init_151 : decode cM_init 151 = .ok (.return_, 1) := by decide +kernel
theorem dM_thrown_0 : decode cM_thrown 0 = .ok (.aload_n 0, 1) := by decide +kernel
theorem dM_thrown_1 : decode cM_thrown 1 = .ok (.getfield 67, 3) := by decide +kernel
theorem dM_thrown_4 : decode cM_thrown 4 = .ok (.ireturn, 1) := by decide +kernel
theorem dM_fails_0 : decode cM_fails 0 = .ok (.aload_n 0, 1) := by decide +kernel
theorem dM_fails_1 : decode cM_fails 1 = .ok (.iload_n 1, 1) := by decide +kernel
theorem dM_fails_2 : decode cM_fails 2 = .ok (.putfield 67, 3) := by decide +kernel
theorem dM_fails_5 : decode cM_fails 5 = .ok (.iconst 0, 1) := by decide +kernel
theorem dM_fails_6 : decode cM_fails 6 = .ok (.ireturn, 1) := by decide +kernel
theorem dM_empty_0 : decode cM_empty 0 = .ok (.iconst 0, 1) := by decide +kernel
theorem dM_empty_1 : decode cM_empty 1 = .ok (.istore_n 1, 1) := by decide +kernel
theorem dM_empty_2 : decode cM_empty 2 = .ok (.iload_n 1, 1) := by decide +kernel
theorem dM_empty_3 : decode cM_empty 3 = .ok (.bipush 12, 2) := by decide +kernel
theorem dM_empty_5 : decode cM_empty 5 = .ok (.if_icmp .ge 16, 3) := by decide +kernel
theorem dM_empty_8 : decode cM_empty 8 = .ok (.aload_n 0, 1) := by decide +kernel
theorem dM_empty_9 : decode cM_empty 9 = .ok (.getfield 42, 3) := by decide +kernel
theorem dM_empty_12 : decode cM_empty 12 = .ok (.iload_n 1, 1) := by decide +kernel
theorem dM_empty_13 : decode cM_empty 13 = .ok (.iconst (-1), 1) := by decide +kernel
theorem dM_empty_14 : decode cM_empty 14 = .ok (.iastore, 1) := by decide +kernel
theorem dM_empty_15 : decode cM_empty 15 = .ok (.iinc 1 1, 3) := by decide +kernel
theorem dM_empty_18 : decode cM_empty 18 = .ok (.goto (-16), 3) := by decide +kernel
theorem dM_empty_21 : decode cM_empty 21 = .ok (.aload_n 0, 1) := by decide +kernel
theorem dM_empty_22 : decode cM_empty 22 = .ok (.iconst 0, 1) := by decide +kernel
theorem dM_empty_23 : decode cM_empty 23 = .ok (.putfield 70, 3) := by decide +kernel
theorem dM_empty_26 : decode cM_empty 26 = .ok (.aload_n 0, 1) := by decide +kernel
theorem dM_empty_27 : decode cM_empty 27 = .ok (.iconst (-1), 1) := by decide +kernel
theorem dM_empty_28 : decode cM_empty 28 = .ok (.putfield 60, 3) := by decide +kernel
theorem dM_empty_31 : decode cM_empty 31 = .ok (.return_, 1) := by decide +kernel
theorem dM_isPage_0 : decode cM_isPage 0 = .ok (.iload_n 0, 1) := by decide +kernel
theorem dM_isPage_1 : decode cM_isPage 1 = .ok (.ifCond .lt 14, 3) := by decide +kernel
theorem dM_isPage_4 : decode cM_isPage 4 = .ok (.iload_n 0, 1) := by decide +kernel
theorem dM_isPage_5 : decode cM_isPage 5 = .ok (.sipush 192, 3) := by decide +kernel
theorem dM_isPage_8 : decode cM_isPage 8 = .ok (.if_icmp .ge 7, 3) := by decide +kernel
theorem dM_isPage_11 : decode cM_isPage 11 = .ok (.iconst 1, 1) := by decide +kernel
theorem dM_isPage_12 : decode cM_isPage 12 = .ok (.goto 4, 3) := by decide +kernel
theorem dM_isPage_15 : decode cM_isPage 15 = .ok (.iconst 0, 1) := by decide +kernel
theorem dM_isPage_16 : decode cM_isPage 16 = .ok (.ireturn, 1) := by decide +kernel
theorem dM_isTorn_0 : decode cM_isTorn 0 = .ok (.aload_n 0, 1) := by decide +kernel
theorem dM_isTorn_1 : decode cM_isTorn 1 = .ok (.getfield 36, 3) := by decide +kernel
theorem dM_isTorn_4 : decode cM_isTorn 4 = .ok (.iload_n 1, 1) := by decide +kernel
theorem dM_isTorn_5 : decode cM_isTorn 5 = .ok (.iaload, 1) := by decide +kernel
theorem dM_isTorn_6 : decode cM_isTorn 6 = .ok (.aload_n 0, 1) := by decide +kernel
theorem dM_isTorn_7 : decode cM_isTorn 7 = .ok (.getfield 39, 3) := by decide +kernel
theorem dM_isTorn_10 : decode cM_isTorn 10 = .ok (.iload_n 1, 1) := by decide +kernel
theorem dM_isTorn_11 : decode cM_isTorn 11 = .ok (.iaload, 1) := by decide +kernel
theorem dM_isTorn_12 : decode cM_isTorn 12 = .ok (.if_icmp .eq 7, 3) := by decide +kernel
theorem dM_isTorn_15 : decode cM_isTorn 15 = .ok (.iconst 1, 1) := by decide +kernel
theorem dM_isTorn_16 : decode cM_isTorn 16 = .ok (.goto 4, 3) := by decide +kernel
theorem dM_isTorn_19 : decode cM_isTorn 19 = .ok (.iconst 0, 1) := by decide +kernel
theorem dM_isTorn_20 : decode cM_isTorn 20 = .ok (.ireturn, 1) := by decide +kernel
theorem dM_valueOf_0 : decode cM_valueOf 0 = .ok (.iconst 0, 1) := by decide +kernel
theorem dM_valueOf_1 : decode cM_valueOf 1 = .ok (.istore 5, 2) := by decide +kernel
theorem dM_valueOf_3 : decode cM_valueOf 3 = .ok (.iload_n 3, 1) := by decide +kernel
theorem dM_valueOf_4 : decode cM_valueOf 4 = .ok (.iconst 1, 1) := by decide +kernel
theorem dM_valueOf_5 : decode cM_valueOf 5 = .ok (.iadd, 1) := by decide +kernel
theorem dM_valueOf_6 : decode cM_valueOf 6 = .ok (.istore 6, 2) := by decide +kernel
theorem dM_valueOf_8 : decode cM_valueOf 8 = .ok (.iload 6, 2) := by decide +kernel
theorem dM_valueOf_10 : decode cM_valueOf 10 = .ok (.iload 4, 2) := by decide +kernel
theorem dM_valueOf_12 : decode cM_valueOf 12 = .ok (.if_icmp .gt 55, 3) := by decide +kernel
theorem dM_valueOf_15 : decode cM_valueOf 15 = .ok (.aload_n 0, 1) := by decide +kernel
theorem dM_valueOf_16 : decode cM_valueOf 16 = .ok (.getfield 7, 3) := by decide +kernel
theorem dM_valueOf_19 : decode cM_valueOf 19 = .ok (.iload 6, 2) := by decide +kernel
theorem dM_valueOf_21 : decode cM_valueOf 21 = .ok (.saload, 1) := by decide +kernel
theorem dM_valueOf_22 : decode cM_valueOf 22 = .ok (.iload_n 1, 1) := by decide +kernel
theorem dM_valueOf_23 : decode cM_valueOf 23 = .ok (.if_icmp .ne 34, 3) := by decide +kernel
theorem dM_valueOf_26 : decode cM_valueOf 26 = .ok (.aload_n 0, 1) := by decide +kernel
theorem dM_valueOf_27 : decode cM_valueOf 27 = .ok (.getfield 13, 3) := by decide +kernel
theorem dM_valueOf_30 : decode cM_valueOf 30 = .ok (.iload 6, 2) := by decide +kernel
theorem dM_valueOf_32 : decode cM_valueOf 32 = .ok (.saload, 1) := by decide +kernel
theorem dM_valueOf_33 : decode cM_valueOf 33 = .ok (.iload_n 2, 1) := by decide +kernel
theorem dM_valueOf_34 : decode cM_valueOf 34 = .ok (.if_icmp .ne 23, 3) := by decide +kernel
theorem dM_valueOf_37 : decode cM_valueOf 37 = .ok (.aload_n 0, 1) := by decide +kernel
theorem dM_valueOf_38 : decode cM_valueOf 38 = .ok (.getfield 23, 3) := by decide +kernel
theorem dM_valueOf_41 : decode cM_valueOf 41 = .ok (.iload 6, 2) := by decide +kernel
theorem dM_valueOf_43 : decode cM_valueOf 43 = .ok (.baload, 1) := by decide +kernel
theorem dM_valueOf_44 : decode cM_valueOf 44 = .ok (.ifCond .ne 13, 3) := by decide +kernel
theorem dM_valueOf_47 : decode cM_valueOf 47 = .ok (.aload_n 0, 1) := by decide +kernel
theorem dM_valueOf_48 : decode cM_valueOf 48 = .ok (.getfield 16, 3) := by decide +kernel
theorem dM_valueOf_51 : decode cM_valueOf 51 = .ok (.iload 6, 2) := by decide +kernel
theorem dM_valueOf_53 : decode cM_valueOf 53 = .ok (.saload, 1) := by decide +kernel
theorem dM_valueOf_54 : decode cM_valueOf 54 = .ok (.goto 5, 3) := by decide +kernel
theorem dM_valueOf_57 : decode cM_valueOf 57 = .ok (.iload 5, 2) := by decide +kernel
theorem dM_valueOf_59 : decode cM_valueOf 59 = .ok (.istore 5, 2) := by decide +kernel
theorem dM_valueOf_61 : decode cM_valueOf 61 = .ok (.iinc 6 1, 3) := by decide +kernel
theorem dM_valueOf_64 : decode cM_valueOf 64 = .ok (.goto (-56), 3) := by decide +kernel
theorem dM_valueOf_67 : decode cM_valueOf 67 = .ok (.iload 5, 2) := by decide +kernel
theorem dM_valueOf_69 : decode cM_valueOf 69 = .ok (.ireturn, 1) := by decide +kernel
theorem dM_placeOf_0 : decode cM_placeOf 0 = .ok (.iconst 0, 1) := by decide +kernel
theorem dM_placeOf_1 : decode cM_placeOf 1 = .ok (.istore 4, 2) := by decide +kernel
theorem dM_placeOf_3 : decode cM_placeOf 3 = .ok (.iload_n 2, 1) := by decide +kernel
theorem dM_placeOf_4 : decode cM_placeOf 4 = .ok (.iconst 1, 1) := by decide +kernel
theorem dM_placeOf_5 : decode cM_placeOf 5 = .ok (.iadd, 1) := by decide +kernel
theorem dM_placeOf_6 : decode cM_placeOf 6 = .ok (.istore 5, 2) := by decide +kernel
theorem dM_placeOf_8 : decode cM_placeOf 8 = .ok (.iload 5, 2) := by decide +kernel
theorem dM_placeOf_10 : decode cM_placeOf 10 = .ok (.iload_n 3, 1) := by decide +kernel
theorem dM_placeOf_11 : decode cM_placeOf 11 = .ok (.if_icmp .gt 44, 3) := by decide +kernel
theorem dM_placeOf_14 : decode cM_placeOf 14 = .ok (.aload_n 0, 1) := by decide +kernel
theorem dM_placeOf_15 : decode cM_placeOf 15 = .ok (.getfield 7, 3) := by decide +kernel
theorem dM_placeOf_18 : decode cM_placeOf 18 = .ok (.iload 5, 2) := by decide +kernel
theorem dM_placeOf_20 : decode cM_placeOf 20 = .ok (.saload, 1) := by decide +kernel
theorem dM_placeOf_21 : decode cM_placeOf 21 = .ok (.iload_n 1, 1) := by decide +kernel
theorem dM_placeOf_22 : decode cM_placeOf 22 = .ok (.if_icmp .ne 23, 3) := by decide +kernel
theorem dM_placeOf_25 : decode cM_placeOf 25 = .ok (.aload_n 0, 1) := by decide +kernel
theorem dM_placeOf_26 : decode cM_placeOf 26 = .ok (.getfield 27, 3) := by decide +kernel
theorem dM_placeOf_29 : decode cM_placeOf 29 = .ok (.iload 5, 2) := by decide +kernel
theorem dM_placeOf_31 : decode cM_placeOf 31 = .ok (.baload, 1) := by decide +kernel
theorem dM_placeOf_32 : decode cM_placeOf 32 = .ok (.ifCond .ne 13, 3) := by decide +kernel
theorem dM_placeOf_35 : decode cM_placeOf 35 = .ok (.aload_n 0, 1) := by decide +kernel
theorem dM_placeOf_36 : decode cM_placeOf 36 = .ok (.getfield 19, 3) := by decide +kernel
theorem dM_placeOf_39 : decode cM_placeOf 39 = .ok (.iload 5, 2) := by decide +kernel
theorem dM_placeOf_41 : decode cM_placeOf 41 = .ok (.iaload, 1) := by decide +kernel
theorem dM_placeOf_42 : decode cM_placeOf 42 = .ok (.goto 5, 3) := by decide +kernel
theorem dM_placeOf_45 : decode cM_placeOf 45 = .ok (.iload 4, 2) := by decide +kernel
theorem dM_placeOf_47 : decode cM_placeOf 47 = .ok (.istore 4, 2) := by decide +kernel
theorem dM_placeOf_49 : decode cM_placeOf 49 = .ok (.iinc 5 1, 3) := by decide +kernel
theorem dM_placeOf_52 : decode cM_placeOf 52 = .ok (.goto (-44), 3) := by decide +kernel
theorem dM_placeOf_55 : decode cM_placeOf 55 = .ok (.iload 4, 2) := by decide +kernel
theorem dM_placeOf_57 : decode cM_placeOf 57 = .ok (.ireturn, 1) := by decide +kernel
theorem dM_framePlace_0 : decode cM_framePlace 0 = .ok (.aload_n 0, 1) := by decide +kernel
theorem dM_framePlace_1 : decode cM_framePlace 1 = .ok (.aload_n 0, 1) := by decide +kernel
theorem dM_framePlace_2 : decode cM_framePlace 2 = .ok (.getfield 42, 3) := by decide +kernel
theorem dM_framePlace_5 : decode cM_framePlace 5 = .ok (.iload_n 1, 1) := by decide +kernel
theorem dM_framePlace_6 : decode cM_framePlace 6 = .ok (.iaload, 1) := by decide +kernel
theorem dM_framePlace_7 : decode cM_framePlace 7 = .ok (.aload_n 0, 1) := by decide +kernel
theorem dM_framePlace_8 : decode cM_framePlace 8 = .ok (.getfield 57, 3) := by decide +kernel
theorem dM_framePlace_11 : decode cM_framePlace 11 = .ok (.iload_n 1, 1) := by decide +kernel
theorem dM_framePlace_12 : decode cM_framePlace 12 = .ok (.iaload, 1) := by decide +kernel
theorem dM_framePlace_13 : decode cM_framePlace 13 = .ok (.aload_n 0, 1) := by decide +kernel
theorem dM_framePlace_14 : decode cM_framePlace 14 = .ok (.getfield 73, 3) := by decide +kernel
theorem dM_framePlace_17 : decode cM_framePlace 17 = .ok (.invokevirtual 76, 3) := by decide +kernel
theorem dM_framePlace_20 : decode cM_framePlace 20 = .ok (.ireturn, 1) := by decide +kernel
theorem dM_part_0 : decode cM_part 0 = .ok (.iload_n 0, 1) := by decide +kernel
theorem dM_part_1 : decode cM_part 1 = .ok (.bipush 8, 2) := by decide +kernel
theorem dM_part_3 : decode cM_part 3 = .ok (.iload_n 1, 1) := by decide +kernel
theorem dM_part_4 : decode cM_part 4 = .ok (.iconst 1, 1) := by decide +kernel
theorem dM_part_5 : decode cM_part 5 = .ok (.isub, 1) := by decide +kernel
theorem dM_part_6 : decode cM_part 6 = .ok (.iload_n 2, 1) := by decide +kernel
theorem dM_part_7 : decode cM_part 7 = .ok (.isub, 1) := by decide +kernel
theorem dM_part_8 : decode cM_part 8 = .ok (.imul, 1) := by decide +kernel
theorem dM_part_9 : decode cM_part 9 = .ok (.ishr, 1) := by decide +kernel
theorem dM_part_10 : decode cM_part 10 = .ok (.sipush 255, 3) := by decide +kernel
theorem dM_part_13 : decode cM_part 13 = .ok (.iand, 1) := by decide +kernel
theorem dM_part_14 : decode cM_part 14 = .ok (.ireturn, 1) := by decide +kernel
theorem dM_get_0 : decode cM_get 0 = .ok (.aload_n 0, 1) := by decide +kernel
theorem dM_get_1 : decode cM_get 1 = .ok (.iconst 0, 1) := by decide +kernel
theorem dM_get_2 : decode cM_get 2 = .ok (.putfield 67, 3) := by decide +kernel
theorem dM_get_5 : decode cM_get 5 = .ok (.iload_n 1, 1) := by decide +kernel
theorem dM_get_6 : decode cM_get 6 = .ok (.ifCond .lt 29, 3) := by decide +kernel
theorem dM_get_9 : decode cM_get 9 = .ok (.iload_n 1, 1) := by decide +kernel
theorem dM_get_10 : decode cM_get 10 = .ok (.bipush 12, 2) := by decide +kernel
theorem dM_get_12 : decode cM_get 12 = .ok (.if_icmp .ge 23, 3) := by decide +kernel
theorem dM_get_15 : decode cM_get 15 = .ok (.aload_n 0, 1) := by decide +kernel
theorem dM_get_16 : decode cM_get 16 = .ok (.getfield 42, 3) := by decide +kernel
theorem dM_get_19 : decode cM_get 19 = .ok (.iload_n 1, 1) := by decide +kernel
theorem dM_get_20 : decode cM_get 20 = .ok (.iaload, 1) := by decide +kernel
theorem dM_get_21 : decode cM_get 21 = .ok (.ifCond .lt 14, 3) := by decide +kernel
theorem dM_get_24 : decode cM_get 24 = .ok (.iload_n 2, 1) := by decide +kernel
theorem dM_get_25 : decode cM_get 25 = .ok (.ifCond .lt 10, 3) := by decide +kernel
theorem dM_get_28 : decode cM_get 28 = .ok (.iload_n 2, 1) := by decide +kernel
theorem dM_get_29 : decode cM_get 29 = .ok (.sipush 511, 3) := by decide +kernel
theorem dM_get_32 : decode cM_get 32 = .ok (.if_icmp .le 5, 3) := by decide +kernel
theorem dM_get_35 : decode cM_get 35 = .ok (.iconst (-1), 1) := by decide +kernel
theorem dM_get_36 : decode cM_get 36 = .ok (.ireturn, 1) := by decide +kernel
theorem dM_get_37 : decode cM_get 37 = .ok (.iload_n 2, 1) := by decide +kernel
theorem dM_get_38 : decode cM_get 38 = .ok (.iconst 2, 1) := by decide +kernel
theorem dM_get_39 : decode cM_get 39 = .ok (.if_icmp .ge 17, 3) := by decide +kernel
theorem dM_get_42 : decode cM_get 42 = .ok (.aload_n 0, 1) := by decide +kernel
theorem dM_get_43 : decode cM_get 43 = .ok (.getfield 54, 3) := by decide +kernel
theorem dM_get_46 : decode cM_get 46 = .ok (.iload_n 1, 1) := by decide +kernel
theorem dM_get_47 : decode cM_get 47 = .ok (.iaload, 1) := by decide +kernel
theorem dM_get_48 : decode cM_get 48 = .ok (.iconst 2, 1) := by decide +kernel
theorem dM_get_49 : decode cM_get 49 = .ok (.iload_n 2, 1) := by decide +kernel
theorem dM_get_50 : decode cM_get 50 = .ok (.invokestatic 80, 3) := by decide +kernel
theorem dM_get_53 : decode cM_get 53 = .ok (.goto 70, 3) := by decide +kernel
theorem dM_get_56 : decode cM_get 56 = .ok (.iload_n 2, 1) := by decide +kernel
theorem dM_get_57 : decode cM_get 57 = .ok (.sipush 509, 3) := by decide +kernel
theorem dM_get_60 : decode cM_get 60 = .ok (.if_icmp .le 21, 3) := by decide +kernel
theorem dM_get_63 : decode cM_get 63 = .ok (.aload_n 0, 1) := by decide +kernel
theorem dM_get_64 : decode cM_get 64 = .ok (.getfield 54, 3) := by decide +kernel
theorem dM_get_67 : decode cM_get 67 = .ok (.iload_n 1, 1) := by decide +kernel
theorem dM_get_68 : decode cM_get 68 = .ok (.iaload, 1) := by decide +kernel
theorem dM_get_69 : decode cM_get 69 = .ok (.iconst 2, 1) := by decide +kernel
theorem dM_get_70 : decode cM_get 70 = .ok (.iload_n 2, 1) := by decide +kernel
theorem dM_get_71 : decode cM_get 71 = .ok (.sipush 510, 3) := by decide +kernel
theorem dM_get_74 : decode cM_get 74 = .ok (.isub, 1) := by decide +kernel
theorem dM_get_75 : decode cM_get 75 = .ok (.invokestatic 80, 3) := by decide +kernel
theorem dM_get_78 : decode cM_get 78 = .ok (.goto 45, 3) := by decide +kernel
theorem dM_get_81 : decode cM_get 81 = .ok (.iload_n 2, 1) := by decide +kernel
theorem dM_get_82 : decode cM_get 82 = .ok (.bipush 6, 2) := by decide +kernel
theorem dM_get_84 : decode cM_get 84 = .ok (.if_icmp .ge 18, 3) := by decide +kernel
theorem dM_get_87 : decode cM_get 87 = .ok (.aload_n 0, 1) := by decide +kernel
theorem dM_get_88 : decode cM_get 88 = .ok (.iload_n 1, 1) := by decide +kernel
theorem dM_get_89 : decode cM_get 89 = .ok (.invokevirtual 83, 3) := by decide +kernel
theorem dM_get_92 : decode cM_get 92 = .ok (.iconst 4, 1) := by decide +kernel
theorem dM_get_93 : decode cM_get 93 = .ok (.iload_n 2, 1) := by decide +kernel
theorem dM_get_94 : decode cM_get 94 = .ok (.iconst 2, 1) := by decide +kernel
theorem dM_get_95 : decode cM_get 95 = .ok (.isub, 1) := by decide +kernel
theorem dM_get_96 : decode cM_get 96 = .ok (.invokestatic 80, 3) := by decide +kernel
theorem dM_get_99 : decode cM_get 99 = .ok (.goto 24, 3) := by decide +kernel
theorem dM_get_102 : decode cM_get 102 = .ok (.aload_n 0, 1) := by decide +kernel
theorem dM_get_103 : decode cM_get 103 = .ok (.aload_n 0, 1) := by decide +kernel
theorem dM_get_104 : decode cM_get 104 = .ok (.getfield 42, 3) := by decide +kernel
theorem dM_get_107 : decode cM_get 107 = .ok (.iload_n 1, 1) := by decide +kernel
theorem dM_get_108 : decode cM_get 108 = .ok (.iaload, 1) := by decide +kernel
theorem dM_get_109 : decode cM_get 109 = .ok (.iload_n 2, 1) := by decide +kernel
theorem dM_get_110 : decode cM_get 110 = .ok (.aload_n 0, 1) := by decide +kernel
theorem dM_get_111 : decode cM_get 111 = .ok (.getfield 57, 3) := by decide +kernel
theorem dM_get_114 : decode cM_get 114 = .ok (.iload_n 1, 1) := by decide +kernel
theorem dM_get_115 : decode cM_get 115 = .ok (.iaload, 1) := by decide +kernel
theorem dM_get_116 : decode cM_get 116 = .ok (.aload_n 0, 1) := by decide +kernel
theorem dM_get_117 : decode cM_get 117 = .ok (.getfield 73, 3) := by decide +kernel
theorem dM_get_120 : decode cM_get 120 = .ok (.invokevirtual 87, 3) := by decide +kernel
theorem dM_get_123 : decode cM_get 123 = .ok (.ireturn, 1) := by decide +kernel
theorem dM_disk_0 : decode cM_disk 0 = .ok (.aload_n 0, 1) := by decide +kernel
theorem dM_disk_1 : decode cM_disk 1 = .ok (.iconst 0, 1) := by decide +kernel
theorem dM_disk_2 : decode cM_disk 2 = .ok (.putfield 67, 3) := by decide +kernel
theorem dM_disk_5 : decode cM_disk 5 = .ok (.iload_n 1, 1) := by decide +kernel
theorem dM_disk_6 : decode cM_disk 6 = .ok (.invokestatic 91, 3) := by decide +kernel
theorem dM_disk_9 : decode cM_disk 9 = .ok (.ifCond .eq 14, 3) := by decide +kernel
theorem dM_disk_12 : decode cM_disk 12 = .ok (.iload_n 2, 1) := by decide +kernel
theorem dM_disk_13 : decode cM_disk 13 = .ok (.ifCond .lt 10, 3) := by decide +kernel
theorem dM_disk_16 : decode cM_disk 16 = .ok (.iload_n 2, 1) := by decide +kernel
theorem dM_disk_17 : decode cM_disk 17 = .ok (.sipush 511, 3) := by decide +kernel
theorem dM_disk_20 : decode cM_disk 20 = .ok (.if_icmp .le 5, 3) := by decide +kernel
theorem dM_disk_23 : decode cM_disk 23 = .ok (.iconst (-1), 1) := by decide +kernel
theorem dM_disk_24 : decode cM_disk 24 = .ok (.ireturn, 1) := by decide +kernel
theorem dM_disk_25 : decode cM_disk 25 = .ok (.bipush 8, 2) := by decide +kernel
theorem dM_disk_27 : decode cM_disk 27 = .ok (.iload_n 1, 1) := by decide +kernel
theorem dM_disk_28 : decode cM_disk 28 = .ok (.imul, 1) := by decide +kernel
theorem dM_disk_29 : decode cM_disk 29 = .ok (.iload_n 2, 1) := by decide +kernel
theorem dM_disk_30 : decode cM_disk 30 = .ok (.bipush 64, 2) := by decide +kernel
theorem dM_disk_32 : decode cM_disk 32 = .ok (.idiv, 1) := by decide +kernel
theorem dM_disk_33 : decode cM_disk 33 = .ok (.iadd, 1) := by decide +kernel
theorem dM_disk_34 : decode cM_disk 34 = .ok (.istore_n 3, 1) := by decide +kernel
theorem dM_disk_35 : decode cM_disk 35 = .ok (.iload_n 2, 1) := by decide +kernel
theorem dM_disk_36 : decode cM_disk 36 = .ok (.iconst 2, 1) := by decide +kernel
theorem dM_disk_37 : decode cM_disk 37 = .ok (.if_icmp .ge 17, 3) := by decide +kernel
theorem dM_disk_40 : decode cM_disk 40 = .ok (.aload_n 0, 1) := by decide +kernel
theorem dM_disk_41 : decode cM_disk 41 = .ok (.getfield 36, 3) := by decide +kernel
theorem dM_disk_44 : decode cM_disk 44 = .ok (.iload_n 1, 1) := by decide +kernel
theorem dM_disk_45 : decode cM_disk 45 = .ok (.iaload, 1) := by decide +kernel
theorem dM_disk_46 : decode cM_disk 46 = .ok (.iconst 2, 1) := by decide +kernel
theorem dM_disk_47 : decode cM_disk 47 = .ok (.iload_n 2, 1) := by decide +kernel
theorem dM_disk_48 : decode cM_disk 48 = .ok (.invokestatic 80, 3) := by decide +kernel
theorem dM_disk_51 : decode cM_disk 51 = .ok (.goto 79, 3) := by decide +kernel
theorem dM_disk_54 : decode cM_disk 54 = .ok (.iload_n 2, 1) := by decide +kernel
theorem dM_disk_55 : decode cM_disk 55 = .ok (.sipush 509, 3) := by decide +kernel
theorem dM_disk_58 : decode cM_disk 58 = .ok (.if_icmp .le 21, 3) := by decide +kernel
theorem dM_disk_61 : decode cM_disk 61 = .ok (.aload_n 0, 1) := by decide +kernel
theorem dM_disk_62 : decode cM_disk 62 = .ok (.getfield 39, 3) := by decide +kernel
theorem dM_disk_65 : decode cM_disk 65 = .ok (.iload_n 1, 1) := by decide +kernel
theorem dM_disk_66 : decode cM_disk 66 = .ok (.iaload, 1) := by decide +kernel
theorem dM_disk_67 : decode cM_disk 67 = .ok (.iconst 2, 1) := by decide +kernel
theorem dM_disk_68 : decode cM_disk 68 = .ok (.iload_n 2, 1) := by decide +kernel
theorem dM_disk_69 : decode cM_disk 69 = .ok (.sipush 510, 3) := by decide +kernel
theorem dM_disk_72 : decode cM_disk 72 = .ok (.isub, 1) := by decide +kernel
theorem dM_disk_73 : decode cM_disk 73 = .ok (.invokestatic 80, 3) := by decide +kernel
theorem dM_disk_76 : decode cM_disk 76 = .ok (.goto 54, 3) := by decide +kernel
theorem dM_disk_79 : decode cM_disk 79 = .ok (.iload_n 2, 1) := by decide +kernel
theorem dM_disk_80 : decode cM_disk 80 = .ok (.bipush 6, 2) := by decide +kernel
theorem dM_disk_82 : decode cM_disk 82 = .ok (.if_icmp .ge 30, 3) := by decide +kernel
theorem dM_disk_85 : decode cM_disk 85 = .ok (.aload_n 0, 1) := by decide +kernel
theorem dM_disk_86 : decode cM_disk 86 = .ok (.iload_n 1, 1) := by decide +kernel
theorem dM_disk_87 : decode cM_disk 87 = .ok (.aload_n 0, 1) := by decide +kernel
theorem dM_disk_88 : decode cM_disk 88 = .ok (.getfield 30, 3) := by decide +kernel
theorem dM_disk_91 : decode cM_disk 91 = .ok (.iload_n 3, 1) := by decide +kernel
theorem dM_disk_92 : decode cM_disk 92 = .ok (.saload, 1) := by decide +kernel
theorem dM_disk_93 : decode cM_disk 93 = .ok (.aload_n 0, 1) := by decide +kernel
theorem dM_disk_94 : decode cM_disk 94 = .ok (.getfield 33, 3) := by decide +kernel
theorem dM_disk_97 : decode cM_disk 97 = .ok (.iload_n 3, 1) := by decide +kernel
theorem dM_disk_98 : decode cM_disk 98 = .ok (.saload, 1) := by decide +kernel
theorem dM_disk_99 : decode cM_disk 99 = .ok (.invokevirtual 76, 3) := by decide +kernel
theorem dM_disk_102 : decode cM_disk 102 = .ok (.iconst 4, 1) := by decide +kernel
theorem dM_disk_103 : decode cM_disk 103 = .ok (.iload_n 2, 1) := by decide +kernel
theorem dM_disk_104 : decode cM_disk 104 = .ok (.iconst 2, 1) := by decide +kernel
theorem dM_disk_105 : decode cM_disk 105 = .ok (.isub, 1) := by decide +kernel
theorem dM_disk_106 : decode cM_disk 106 = .ok (.invokestatic 80, 3) := by decide +kernel
theorem dM_disk_109 : decode cM_disk 109 = .ok (.goto 21, 3) := by decide +kernel
theorem dM_disk_112 : decode cM_disk 112 = .ok (.aload_n 0, 1) := by decide +kernel
theorem dM_disk_113 : decode cM_disk 113 = .ok (.iload_n 1, 1) := by decide +kernel
theorem dM_disk_114 : decode cM_disk 114 = .ok (.iload_n 2, 1) := by decide +kernel
theorem dM_disk_115 : decode cM_disk 115 = .ok (.aload_n 0, 1) := by decide +kernel
theorem dM_disk_116 : decode cM_disk 116 = .ok (.getfield 30, 3) := by decide +kernel
theorem dM_disk_119 : decode cM_disk 119 = .ok (.iload_n 3, 1) := by decide +kernel
theorem dM_disk_120 : decode cM_disk 120 = .ok (.saload, 1) := by decide +kernel
theorem dM_disk_121 : decode cM_disk 121 = .ok (.aload_n 0, 1) := by decide +kernel
theorem dM_disk_122 : decode cM_disk 122 = .ok (.getfield 33, 3) := by decide +kernel
theorem dM_disk_125 : decode cM_disk 125 = .ok (.iload_n 3, 1) := by decide +kernel
theorem dM_disk_126 : decode cM_disk 126 = .ok (.saload, 1) := by decide +kernel
theorem dM_disk_127 : decode cM_disk 127 = .ok (.invokevirtual 87, 3) := by decide +kernel
theorem dM_disk_130 : decode cM_disk 130 = .ok (.ireturn, 1) := by decide +kernel
theorem dM_torn_0 : decode cM_torn 0 = .ok (.aload_n 0, 1) := by decide +kernel
theorem dM_torn_1 : decode cM_torn 1 = .ok (.iconst 0, 1) := by decide +kernel
theorem dM_torn_2 : decode cM_torn 2 = .ok (.putfield 67, 3) := by decide +kernel
theorem dM_torn_5 : decode cM_torn 5 = .ok (.iload_n 1, 1) := by decide +kernel
theorem dM_torn_6 : decode cM_torn 6 = .ok (.invokestatic 91, 3) := by decide +kernel
theorem dM_torn_9 : decode cM_torn 9 = .ok (.ifCond .eq 15, 3) := by decide +kernel
theorem dM_torn_12 : decode cM_torn 12 = .ok (.aload_n 0, 1) := by decide +kernel
theorem dM_torn_13 : decode cM_torn 13 = .ok (.iload_n 1, 1) := by decide +kernel
theorem dM_torn_14 : decode cM_torn 14 = .ok (.invokevirtual 95, 3) := by decide +kernel
theorem dM_torn_17 : decode cM_torn 17 = .ok (.ifCond .eq 7, 3) := by decide +kernel
theorem dM_torn_20 : decode cM_torn 20 = .ok (.iconst 1, 1) := by decide +kernel
theorem dM_torn_21 : decode cM_torn 21 = .ok (.goto 4, 3) := by decide +kernel
theorem dM_torn_24 : decode cM_torn 24 = .ok (.iconst 0, 1) := by decide +kernel
theorem dM_torn_25 : decode cM_torn 25 = .ok (.ireturn, 1) := by decide +kernel
theorem dM_cut_0 : decode cM_cut 0 = .ok (.iconst 1, 1) := by decide +kernel
theorem dM_cut_1 : decode cM_cut 1 = .ok (.istore_n 1, 1) := by decide +kernel
theorem dM_cut_2 : decode cM_cut 2 = .ok (.iload_n 1, 1) := by decide +kernel
theorem dM_cut_3 : decode cM_cut 3 = .ok (.aload_n 0, 1) := by decide +kernel
theorem dM_cut_4 : decode cM_cut 4 = .ok (.getfield 73, 3) := by decide +kernel
theorem dM_cut_7 : decode cM_cut 7 = .ok (.if_icmp .gt 89, 3) := by decide +kernel
theorem dM_cut_10 : decode cM_cut 10 = .ok (.bipush 8, 2) := by decide +kernel
theorem dM_cut_12 : decode cM_cut 12 = .ok (.aload_n 0, 1) := by decide +kernel
theorem dM_cut_13 : decode cM_cut 13 = .ok (.getfield 7, 3) := by decide +kernel
theorem dM_cut_16 : decode cM_cut 16 = .ok (.iload_n 1, 1) := by decide +kernel
theorem dM_cut_17 : decode cM_cut 17 = .ok (.saload, 1) := by decide +kernel
theorem dM_cut_18 : decode cM_cut 18 = .ok (.imul, 1) := by decide +kernel
theorem dM_cut_19 : decode cM_cut 19 = .ok (.istore_n 2, 1) := by decide +kernel
theorem dM_cut_20 : decode cM_cut 20 = .ok (.aload_n 0, 1) := by decide +kernel
theorem dM_cut_21 : decode cM_cut 21 = .ok (.getfield 23, 3) := by decide +kernel
theorem dM_cut_24 : decode cM_cut 24 = .ok (.iload_n 1, 1) := by decide +kernel
theorem dM_cut_25 : decode cM_cut 25 = .ok (.aload_n 0, 1) := by decide +kernel
theorem dM_cut_26 : decode cM_cut 26 = .ok (.getfield 23, 3) := by decide +kernel
theorem dM_cut_29 : decode cM_cut 29 = .ok (.iload_n 1, 1) := by decide +kernel
theorem dM_cut_30 : decode cM_cut 30 = .ok (.baload, 1) := by decide +kernel
theorem dM_cut_31 : decode cM_cut 31 = .ok (.ifCond .ne 23, 3) := by decide +kernel
theorem dM_cut_34 : decode cM_cut 34 = .ok (.iload_n 1, 1) := by decide +kernel
theorem dM_cut_35 : decode cM_cut 35 = .ok (.aload_n 0, 1) := by decide +kernel
theorem dM_cut_36 : decode cM_cut 36 = .ok (.getfield 33, 3) := by decide +kernel
theorem dM_cut_39 : decode cM_cut 39 = .ok (.iload_n 2, 1) := by decide +kernel
theorem dM_cut_40 : decode cM_cut 40 = .ok (.aload_n 0, 1) := by decide +kernel
theorem dM_cut_41 : decode cM_cut 41 = .ok (.getfield 13, 3) := by decide +kernel
theorem dM_cut_44 : decode cM_cut 44 = .ok (.iload_n 1, 1) := by decide +kernel
theorem dM_cut_45 : decode cM_cut 45 = .ok (.saload, 1) := by decide +kernel
theorem dM_cut_46 : decode cM_cut 46 = .ok (.bipush 64, 2) := by decide +kernel
theorem dM_cut_48 : decode cM_cut 48 = .ok (.idiv, 1) := by decide +kernel
theorem dM_cut_49 : decode cM_cut 49 = .ok (.iadd, 1) := by decide +kernel
theorem dM_cut_50 : decode cM_cut 50 = .ok (.saload, 1) := by decide +kernel
theorem dM_cut_51 : decode cM_cut 51 = .ok (.if_icmp .le 7, 3) := by decide +kernel
theorem dM_cut_54 : decode cM_cut 54 = .ok (.iconst 1, 1) := by decide +kernel
theorem dM_cut_55 : decode cM_cut 55 = .ok (.goto 4, 3) := by decide +kernel
theorem dM_cut_58 : decode cM_cut 58 = .ok (.iconst 0, 1) := by decide +kernel
theorem dM_cut_59 : decode cM_cut 59 = .ok (.bastore, 1) := by decide +kernel
theorem dM_cut_60 : decode cM_cut 60 = .ok (.aload_n 0, 1) := by decide +kernel
theorem dM_cut_61 : decode cM_cut 61 = .ok (.getfield 27, 3) := by decide +kernel
theorem dM_cut_64 : decode cM_cut 64 = .ok (.iload_n 1, 1) := by decide +kernel
theorem dM_cut_65 : decode cM_cut 65 = .ok (.aload_n 0, 1) := by decide +kernel
theorem dM_cut_66 : decode cM_cut 66 = .ok (.getfield 27, 3) := by decide +kernel
theorem dM_cut_69 : decode cM_cut 69 = .ok (.iload_n 1, 1) := by decide +kernel
theorem dM_cut_70 : decode cM_cut 70 = .ok (.baload, 1) := by decide +kernel
theorem dM_cut_71 : decode cM_cut 71 = .ok (.ifCond .ne 13, 3) := by decide +kernel
theorem dM_cut_74 : decode cM_cut 74 = .ok (.iload_n 1, 1) := by decide +kernel
theorem dM_cut_75 : decode cM_cut 75 = .ok (.aload_n 0, 1) := by decide +kernel
theorem dM_cut_76 : decode cM_cut 76 = .ok (.getfield 33, 3) := by decide +kernel
theorem dM_cut_79 : decode cM_cut 79 = .ok (.iload_n 2, 1) := by decide +kernel
theorem dM_cut_80 : decode cM_cut 80 = .ok (.saload, 1) := by decide +kernel
theorem dM_cut_81 : decode cM_cut 81 = .ok (.if_icmp .le 7, 3) := by decide +kernel
theorem dM_cut_84 : decode cM_cut 84 = .ok (.iconst 1, 1) := by decide +kernel
theorem dM_cut_85 : decode cM_cut 85 = .ok (.goto 4, 3) := by decide +kernel
theorem dM_cut_88 : decode cM_cut 88 = .ok (.iconst 0, 1) := by decide +kernel
theorem dM_cut_89 : decode cM_cut 89 = .ok (.bastore, 1) := by decide +kernel
theorem dM_cut_90 : decode cM_cut 90 = .ok (.iinc 1 1, 3) := by decide +kernel
theorem dM_cut_93 : decode cM_cut 93 = .ok (.goto (-91), 3) := by decide +kernel
theorem dM_cut_96 : decode cM_cut 96 = .ok (.aload_n 0, 1) := by decide +kernel
theorem dM_cut_97 : decode cM_cut 97 = .ok (.invokevirtual 64, 3) := by decide +kernel
theorem dM_cut_100 : decode cM_cut 100 = .ok (.return_, 1) := by decide +kernel
theorem dM_write_0 : decode cM_write 0 = .ok (.aload_n 0, 1) := by decide +kernel
theorem dM_write_1 : decode cM_write 1 = .ok (.iload_n 1, 1) := by decide +kernel
theorem dM_write_2 : decode cM_write 2 = .ok (.invokevirtual 83, 3) := by decide +kernel
theorem dM_write_5 : decode cM_write 5 = .ok (.istore_n 2, 1) := by decide +kernel
theorem dM_write_6 : decode cM_write 6 = .ok (.aload_n 0, 1) := by decide +kernel
theorem dM_write_7 : decode cM_write 7 = .ok (.getfield 42, 3) := by decide +kernel
theorem dM_write_10 : decode cM_write 10 = .ok (.iload_n 1, 1) := by decide +kernel
theorem dM_write_11 : decode cM_write 11 = .ok (.iaload, 1) := by decide +kernel
theorem dM_write_12 : decode cM_write 12 = .ok (.istore_n 3, 1) := by decide +kernel
theorem dM_write_13 : decode cM_write 13 = .ok (.aload_n 0, 1) := by decide +kernel
theorem dM_write_14 : decode cM_write 14 = .ok (.iload_n 2, 1) := by decide +kernel
theorem dM_write_15 : decode cM_write 15 = .ok (.aload_n 0, 1) := by decide +kernel
theorem dM_write_16 : decode cM_write 16 = .ok (.getfield 98, 3) := by decide +kernel
theorem dM_write_19 : decode cM_write 19 = .ok (.if_icmp .le 12, 3) := by decide +kernel
theorem dM_write_22 : decode cM_write 22 = .ok (.aload_n 0, 1) := by decide +kernel
theorem dM_write_23 : decode cM_write 23 = .ok (.getfield 101, 3) := by decide +kernel
theorem dM_write_26 : decode cM_write 26 = .ok (.iconst 1, 1) := by decide +kernel
theorem dM_write_27 : decode cM_write 27 = .ok (.iadd, 1) := by decide +kernel
theorem dM_write_28 : decode cM_write 28 = .ok (.goto 7, 3) := by decide +kernel
theorem dM_write_31 : decode cM_write 31 = .ok (.aload_n 0, 1) := by decide +kernel
theorem dM_write_32 : decode cM_write 32 = .ok (.getfield 101, 3) := by decide +kernel
theorem dM_write_35 : decode cM_write 35 = .ok (.putfield 101, 3) := by decide +kernel
theorem dM_write_38 : decode cM_write 38 = .ok (.aload_n 0, 1) := by decide +kernel
theorem dM_write_39 : decode cM_write 39 = .ok (.iload_n 2, 1) := by decide +kernel
theorem dM_write_40 : decode cM_write 40 = .ok (.aload_n 0, 1) := by decide +kernel
theorem dM_write_41 : decode cM_write 41 = .ok (.getfield 98, 3) := by decide +kernel
theorem dM_write_44 : decode cM_write 44 = .ok (.if_icmp .le 7, 3) := by decide +kernel
theorem dM_write_47 : decode cM_write 47 = .ok (.iload_n 2, 1) := by decide +kernel
theorem dM_write_48 : decode cM_write 48 = .ok (.goto 7, 3) := by decide +kernel
theorem dM_write_51 : decode cM_write 51 = .ok (.aload_n 0, 1) := by decide +kernel
theorem dM_write_52 : decode cM_write 52 = .ok (.getfield 98, 3) := by decide +kernel
theorem dM_write_55 : decode cM_write 55 = .ok (.putfield 98, 3) := by decide +kernel
theorem dM_write_58 : decode cM_write 58 = .ok (.aload_n 0, 1) := by decide +kernel
theorem dM_write_59 : decode cM_write 59 = .ok (.getfield 54, 3) := by decide +kernel
theorem dM_write_62 : decode cM_write 62 = .ok (.iload_n 1, 1) := by decide +kernel
theorem dM_write_63 : decode cM_write 63 = .ok (.aload_n 0, 1) := by decide +kernel
theorem dM_write_64 : decode cM_write 64 = .ok (.getfield 54, 3) := by decide +kernel
theorem dM_write_67 : decode cM_write 67 = .ok (.iload_n 1, 1) := by decide +kernel
theorem dM_write_68 : decode cM_write 68 = .ok (.iaload, 1) := by decide +kernel
theorem dM_write_69 : decode cM_write 69 = .ok (.iconst 1, 1) := by decide +kernel
theorem dM_write_70 : decode cM_write 70 = .ok (.iadd, 1) := by decide +kernel
theorem dM_write_71 : decode cM_write 71 = .ok (.ldc 104, 2) := by decide +kernel
theorem dM_write_73 : decode cM_write 73 = .ok (.irem, 1) := by decide +kernel
theorem dM_write_74 : decode cM_write 74 = .ok (.iastore, 1) := by decide +kernel
theorem dM_write_75 : decode cM_write 75 = .ok (.iconst 0, 1) := by decide +kernel
theorem dM_write_76 : decode cM_write 76 = .ok (.istore 4, 2) := by decide +kernel
theorem dM_write_78 : decode cM_write 78 = .ok (.iload 4, 2) := by decide +kernel
theorem dM_write_80 : decode cM_write 80 = .ok (.bipush 8, 2) := by decide +kernel
theorem dM_write_82 : decode cM_write 82 = .ok (.if_icmp .ge 146, 3) := by decide +kernel
theorem dM_write_85 : decode cM_write 85 = .ok (.aload_n 0, 1) := by decide +kernel
theorem dM_write_86 : decode cM_write 86 = .ok (.getfield 60, 3) := by decide +kernel
theorem dM_write_89 : decode cM_write 89 = .ok (.ifCond .ne 9, 3) := by decide +kernel
theorem dM_write_92 : decode cM_write 92 = .ok (.aload_n 0, 1) := by decide +kernel
theorem dM_write_93 : decode cM_write 93 = .ok (.invokevirtual 105, 3) := by decide +kernel
theorem dM_write_96 : decode cM_write 96 = .ok (.iconst 0, 1) := by decide +kernel
theorem dM_write_97 : decode cM_write 97 = .ok (.ireturn, 1) := by decide +kernel
theorem dM_write_98 : decode cM_write 98 = .ok (.aload_n 0, 1) := by decide +kernel
theorem dM_write_99 : decode cM_write 99 = .ok (.aload_n 0, 1) := by decide +kernel
theorem dM_write_100 : decode cM_write 100 = .ok (.getfield 60, 3) := by decide +kernel
theorem dM_write_103 : decode cM_write 103 = .ok (.ifCond .le 12, 3) := by decide +kernel
theorem dM_write_106 : decode cM_write 106 = .ok (.aload_n 0, 1) := by decide +kernel
theorem dM_write_107 : decode cM_write 107 = .ok (.getfield 60, 3) := by decide +kernel
theorem dM_write_110 : decode cM_write 110 = .ok (.iconst 1, 1) := by decide +kernel
theorem dM_write_111 : decode cM_write 111 = .ok (.isub, 1) := by decide +kernel
theorem dM_write_112 : decode cM_write 112 = .ok (.goto 7, 3) := by decide +kernel
theorem dM_write_115 : decode cM_write 115 = .ok (.aload_n 0, 1) := by decide +kernel
theorem dM_write_116 : decode cM_write 116 = .ok (.getfield 60, 3) := by decide +kernel
theorem dM_write_119 : decode cM_write 119 = .ok (.putfield 60, 3) := by decide +kernel
theorem dM_write_122 : decode cM_write 122 = .ok (.aload_n 0, 1) := by decide +kernel
theorem dM_write_123 : decode cM_write 123 = .ok (.dup, 1) := by decide +kernel
theorem dM_write_124 : decode cM_write 124 = .ok (.getfield 108, 3) := by decide +kernel
theorem dM_write_127 : decode cM_write 127 = .ok (.iconst 1, 1) := by decide +kernel
theorem dM_write_128 : decode cM_write 128 = .ok (.iadd, 1) := by decide +kernel
theorem dM_write_129 : decode cM_write 129 = .ok (.putfield 108, 3) := by decide +kernel
theorem dM_write_132 : decode cM_write 132 = .ok (.aload_n 0, 1) := by decide +kernel
theorem dM_write_133 : decode cM_write 133 = .ok (.getfield 30, 3) := by decide +kernel
theorem dM_write_136 : decode cM_write 136 = .ok (.bipush 8, 2) := by decide +kernel
theorem dM_write_138 : decode cM_write 138 = .ok (.iload_n 3, 1) := by decide +kernel
theorem dM_write_139 : decode cM_write 139 = .ok (.imul, 1) := by decide +kernel
theorem dM_write_140 : decode cM_write 140 = .ok (.iload 4, 2) := by decide +kernel
theorem dM_write_142 : decode cM_write 142 = .ok (.iadd, 1) := by decide +kernel
theorem dM_write_143 : decode cM_write 143 = .ok (.aload_n 0, 1) := by decide +kernel
theorem dM_write_144 : decode cM_write 144 = .ok (.getfield 57, 3) := by decide +kernel
theorem dM_write_147 : decode cM_write 147 = .ok (.iload_n 1, 1) := by decide +kernel
theorem dM_write_148 : decode cM_write 148 = .ok (.iaload, 1) := by decide +kernel
theorem dM_write_149 : decode cM_write 149 = .ok (.i2s, 1) := by decide +kernel
theorem dM_write_150 : decode cM_write 150 = .ok (.sastore, 1) := by decide +kernel
theorem dM_write_151 : decode cM_write 151 = .ok (.aload_n 0, 1) := by decide +kernel
theorem dM_write_152 : decode cM_write 152 = .ok (.getfield 33, 3) := by decide +kernel
theorem dM_write_155 : decode cM_write 155 = .ok (.bipush 8, 2) := by decide +kernel
theorem dM_write_157 : decode cM_write 157 = .ok (.iload_n 3, 1) := by decide +kernel
theorem dM_write_158 : decode cM_write 158 = .ok (.imul, 1) := by decide +kernel
theorem dM_write_159 : decode cM_write 159 = .ok (.iload 4, 2) := by decide +kernel
theorem dM_write_161 : decode cM_write 161 = .ok (.iadd, 1) := by decide +kernel
theorem dM_write_162 : decode cM_write 162 = .ok (.aload_n 0, 1) := by decide +kernel
theorem dM_write_163 : decode cM_write 163 = .ok (.getfield 73, 3) := by decide +kernel
theorem dM_write_166 : decode cM_write 166 = .ok (.i2s, 1) := by decide +kernel
theorem dM_write_167 : decode cM_write 167 = .ok (.sastore, 1) := by decide +kernel
theorem dM_write_168 : decode cM_write 168 = .ok (.aload_n 0, 1) := by decide +kernel
theorem dM_write_169 : decode cM_write 169 = .ok (.getfield 36, 3) := by decide +kernel
theorem dM_write_172 : decode cM_write 172 = .ok (.iload_n 3, 1) := by decide +kernel
theorem dM_write_173 : decode cM_write 173 = .ok (.iload 4, 2) := by decide +kernel
theorem dM_write_175 : decode cM_write 175 = .ok (.ifCond .ne 12, 3) := by decide +kernel
theorem dM_write_178 : decode cM_write 178 = .ok (.aload_n 0, 1) := by decide +kernel
theorem dM_write_179 : decode cM_write 179 = .ok (.getfield 54, 3) := by decide +kernel
theorem dM_write_182 : decode cM_write 182 = .ok (.iload_n 1, 1) := by decide +kernel
theorem dM_write_183 : decode cM_write 183 = .ok (.iaload, 1) := by decide +kernel
theorem dM_write_184 : decode cM_write 184 = .ok (.goto 9, 3) := by decide +kernel
theorem dM_write_187 : decode cM_write 187 = .ok (.aload_n 0, 1) := by decide +kernel
theorem dM_write_188 : decode cM_write 188 = .ok (.getfield 36, 3) := by decide +kernel
theorem dM_write_191 : decode cM_write 191 = .ok (.iload_n 3, 1) := by decide +kernel
theorem dM_write_192 : decode cM_write 192 = .ok (.iaload, 1) := by decide +kernel
theorem dM_write_193 : decode cM_write 193 = .ok (.iastore, 1) := by decide +kernel
theorem dM_write_194 : decode cM_write 194 = .ok (.aload_n 0, 1) := by decide +kernel
theorem dM_write_195 : decode cM_write 195 = .ok (.getfield 39, 3) := by decide +kernel
theorem dM_write_198 : decode cM_write 198 = .ok (.iload_n 3, 1) := by decide +kernel
theorem dM_write_199 : decode cM_write 199 = .ok (.iload 4, 2) := by decide +kernel
theorem dM_write_201 : decode cM_write 201 = .ok (.bipush 7, 2) := by decide +kernel
theorem dM_write_203 : decode cM_write 203 = .ok (.if_icmp .ne 12, 3) := by decide +kernel
theorem dM_write_206 : decode cM_write 206 = .ok (.aload_n 0, 1) := by decide +kernel
theorem dM_write_207 : decode cM_write 207 = .ok (.getfield 54, 3) := by decide +kernel
theorem dM_write_210 : decode cM_write 210 = .ok (.iload_n 1, 1) := by decide +kernel
theorem dM_write_211 : decode cM_write 211 = .ok (.iaload, 1) := by decide +kernel
theorem dM_write_212 : decode cM_write 212 = .ok (.goto 9, 3) := by decide +kernel
theorem dM_write_215 : decode cM_write 215 = .ok (.aload_n 0, 1) := by decide +kernel
theorem dM_write_216 : decode cM_write 216 = .ok (.getfield 39, 3) := by decide +kernel
theorem dM_write_219 : decode cM_write 219 = .ok (.iload_n 3, 1) := by decide +kernel
theorem dM_write_220 : decode cM_write 220 = .ok (.iaload, 1) := by decide +kernel
theorem dM_write_221 : decode cM_write 221 = .ok (.iastore, 1) := by decide +kernel
theorem dM_write_222 : decode cM_write 222 = .ok (.iinc 4 1, 3) := by decide +kernel
theorem dM_write_225 : decode cM_write 225 = .ok (.goto (-147), 3) := by decide +kernel
theorem dM_write_228 : decode cM_write 228 = .ok (.aload_n 0, 1) := by decide +kernel
theorem dM_write_229 : decode cM_write 229 = .ok (.getfield 51, 3) := by decide +kernel
theorem dM_write_232 : decode cM_write 232 = .ok (.iload_n 1, 1) := by decide +kernel
theorem dM_write_233 : decode cM_write 233 = .ok (.iconst 0, 1) := by decide +kernel
theorem dM_write_234 : decode cM_write 234 = .ok (.bastore, 1) := by decide +kernel
theorem dM_write_235 : decode cM_write 235 = .ok (.iconst 1, 1) := by decide +kernel
theorem dM_write_236 : decode cM_write 236 = .ok (.ireturn, 1) := by decide +kernel
theorem dM_frameOf_0 : decode cM_frameOf 0 = .ok (.iconst (-1), 1) := by decide +kernel
theorem dM_frameOf_1 : decode cM_frameOf 1 = .ok (.istore_n 2, 1) := by decide +kernel
theorem dM_frameOf_2 : decode cM_frameOf 2 = .ok (.iconst 0, 1) := by decide +kernel
theorem dM_frameOf_3 : decode cM_frameOf 3 = .ok (.istore_n 3, 1) := by decide +kernel
theorem dM_frameOf_4 : decode cM_frameOf 4 = .ok (.iload_n 3, 1) := by decide +kernel
theorem dM_frameOf_5 : decode cM_frameOf 5 = .ok (.bipush 12, 2) := by decide +kernel
theorem dM_frameOf_7 : decode cM_frameOf 7 = .ok (.if_icmp .ge 25, 3) := by decide +kernel
theorem dM_frameOf_10 : decode cM_frameOf 10 = .ok (.aload_n 0, 1) := by decide +kernel
theorem dM_frameOf_11 : decode cM_frameOf 11 = .ok (.getfield 42, 3) := by decide +kernel
theorem dM_frameOf_14 : decode cM_frameOf 14 = .ok (.iload_n 3, 1) := by decide +kernel
theorem dM_frameOf_15 : decode cM_frameOf 15 = .ok (.iaload, 1) := by decide +kernel
theorem dM_frameOf_16 : decode cM_frameOf 16 = .ok (.iload_n 1, 1) := by decide +kernel
theorem dM_frameOf_17 : decode cM_frameOf 17 = .ok (.if_icmp .ne 7, 3) := by decide +kernel
theorem dM_frameOf_20 : decode cM_frameOf 20 = .ok (.iload_n 3, 1) := by decide +kernel
theorem dM_frameOf_21 : decode cM_frameOf 21 = .ok (.goto 4, 3) := by decide +kernel
theorem dM_frameOf_24 : decode cM_frameOf 24 = .ok (.iload_n 2, 1) := by decide +kernel
theorem dM_frameOf_25 : decode cM_frameOf 25 = .ok (.istore_n 2, 1) := by decide +kernel
theorem dM_frameOf_26 : decode cM_frameOf 26 = .ok (.iinc 3 1, 3) := by decide +kernel
theorem dM_frameOf_29 : decode cM_frameOf 29 = .ok (.goto (-25), 3) := by decide +kernel
theorem dM_frameOf_32 : decode cM_frameOf 32 = .ok (.iload_n 2, 1) := by decide +kernel
theorem dM_frameOf_33 : decode cM_frameOf 33 = .ok (.ireturn, 1) := by decide +kernel
theorem dM_allPinned_0 : decode cM_allPinned 0 = .ok (.iconst 1, 1) := by decide +kernel
theorem dM_allPinned_1 : decode cM_allPinned 1 = .ok (.istore_n 1, 1) := by decide +kernel
theorem dM_allPinned_2 : decode cM_allPinned 2 = .ok (.iconst 0, 1) := by decide +kernel
theorem dM_allPinned_3 : decode cM_allPinned 3 = .ok (.istore_n 2, 1) := by decide +kernel
theorem dM_allPinned_4 : decode cM_allPinned 4 = .ok (.iload_n 2, 1) := by decide +kernel
theorem dM_allPinned_5 : decode cM_allPinned 5 = .ok (.bipush 12, 2) := by decide +kernel
theorem dM_allPinned_7 : decode cM_allPinned 7 = .ok (.if_icmp .ge 37, 3) := by decide +kernel
theorem dM_allPinned_10 : decode cM_allPinned 10 = .ok (.iload_n 1, 1) := by decide +kernel
theorem dM_allPinned_11 : decode cM_allPinned 11 = .ok (.ifCond .eq 25, 3) := by decide +kernel
theorem dM_allPinned_14 : decode cM_allPinned 14 = .ok (.aload_n 0, 1) := by decide +kernel
theorem dM_allPinned_15 : decode cM_allPinned 15 = .ok (.getfield 42, 3) := by decide +kernel
theorem dM_allPinned_18 : decode cM_allPinned 18 = .ok (.iload_n 2, 1) := by decide +kernel
theorem dM_allPinned_19 : decode cM_allPinned 19 = .ok (.iaload, 1) := by decide +kernel
theorem dM_allPinned_20 : decode cM_allPinned 20 = .ok (.ifCond .lt 16, 3) := by decide +kernel
theorem dM_allPinned_23 : decode cM_allPinned 23 = .ok (.aload_n 0, 1) := by decide +kernel
theorem dM_allPinned_24 : decode cM_allPinned 24 = .ok (.getfield 45, 3) := by decide +kernel
theorem dM_allPinned_27 : decode cM_allPinned 27 = .ok (.iload_n 2, 1) := by decide +kernel
theorem dM_allPinned_28 : decode cM_allPinned 28 = .ok (.iaload, 1) := by decide +kernel
theorem dM_allPinned_29 : decode cM_allPinned 29 = .ok (.ifCond .le 7, 3) := by decide +kernel
theorem dM_allPinned_32 : decode cM_allPinned 32 = .ok (.iconst 1, 1) := by decide +kernel
theorem dM_allPinned_33 : decode cM_allPinned 33 = .ok (.goto 4, 3) := by decide +kernel
theorem dM_allPinned_36 : decode cM_allPinned 36 = .ok (.iconst 0, 1) := by decide +kernel
theorem dM_allPinned_37 : decode cM_allPinned 37 = .ok (.istore_n 1, 1) := by decide +kernel
theorem dM_allPinned_38 : decode cM_allPinned 38 = .ok (.iinc 2 1, 3) := by decide +kernel
theorem dM_allPinned_41 : decode cM_allPinned 41 = .ok (.goto (-37), 3) := by decide +kernel
theorem dM_allPinned_44 : decode cM_allPinned 44 = .ok (.iload_n 1, 1) := by decide +kernel
theorem dM_allPinned_45 : decode cM_allPinned 45 = .ok (.ireturn, 1) := by decide +kernel
theorem dM_found_0 : decode cM_found 0 = .ok (.iconst 0, 1) := by decide +kernel
theorem dM_found_1 : decode cM_found 1 = .ok (.istore_n 1, 1) := by decide +kernel
theorem dM_found_2 : decode cM_found 2 = .ok (.iload_n 1, 1) := by decide +kernel
theorem dM_found_3 : decode cM_found 3 = .ok (.bipush 12, 2) := by decide +kernel
theorem dM_found_5 : decode cM_found 5 = .ok (.if_icmp .ge 20, 3) := by decide +kernel
theorem dM_found_8 : decode cM_found 8 = .ok (.aload_n 0, 1) := by decide +kernel
theorem dM_found_9 : decode cM_found 9 = .ok (.getfield 42, 3) := by decide +kernel
theorem dM_found_12 : decode cM_found 12 = .ok (.iload_n 1, 1) := by decide +kernel
theorem dM_found_13 : decode cM_found 13 = .ok (.iaload, 1) := by decide +kernel
theorem dM_found_14 : decode cM_found 14 = .ok (.ifCond .ge 5, 3) := by decide +kernel
theorem dM_found_17 : decode cM_found 17 = .ok (.iload_n 1, 1) := by decide +kernel
theorem dM_found_18 : decode cM_found 18 = .ok (.ireturn, 1) := by decide +kernel
theorem dM_found_19 : decode cM_found 19 = .ok (.iinc 1 1, 3) := by decide +kernel
theorem dM_found_22 : decode cM_found 22 = .ok (.goto (-20), 3) := by decide +kernel
theorem dM_found_25 : decode cM_found 25 = .ok (.iconst (-1), 1) := by decide +kernel
theorem dM_found_26 : decode cM_found 26 = .ok (.istore_n 1, 1) := by decide +kernel
theorem dM_found_27 : decode cM_found 27 = .ok (.iconst 0, 1) := by decide +kernel
theorem dM_found_28 : decode cM_found 28 = .ok (.istore_n 2, 1) := by decide +kernel
theorem dM_found_29 : decode cM_found 29 = .ok (.iload_n 2, 1) := by decide +kernel
theorem dM_found_30 : decode cM_found 30 = .ok (.bipush 60, 2) := by decide +kernel
theorem dM_found_32 : decode cM_found 32 = .ok (.if_icmp .ge 83, 3) := by decide +kernel
theorem dM_found_35 : decode cM_found 35 = .ok (.iload_n 1, 1) := by decide +kernel
theorem dM_found_36 : decode cM_found 36 = .ok (.ifCond .ge 79, 3) := by decide +kernel
theorem dM_found_39 : decode cM_found 39 = .ok (.aload_n 0, 1) := by decide +kernel
theorem dM_found_40 : decode cM_found 40 = .ok (.getfield 45, 3) := by decide +kernel
theorem dM_found_43 : decode cM_found 43 = .ok (.aload_n 0, 1) := by decide +kernel
theorem dM_found_44 : decode cM_found 44 = .ok (.getfield 70, 3) := by decide +kernel
theorem dM_found_47 : decode cM_found 47 = .ok (.iaload, 1) := by decide +kernel
theorem dM_found_48 : decode cM_found 48 = .ok (.ifCond .ne 23, 3) := by decide +kernel
theorem dM_found_51 : decode cM_found 51 = .ok (.aload_n 0, 1) := by decide +kernel
theorem dM_found_52 : decode cM_found 52 = .ok (.getfield 48, 3) := by decide +kernel
theorem dM_found_55 : decode cM_found 55 = .ok (.aload_n 0, 1) := by decide +kernel
theorem dM_found_56 : decode cM_found 56 = .ok (.getfield 70, 3) := by decide +kernel
theorem dM_found_59 : decode cM_found 59 = .ok (.iaload, 1) := by decide +kernel
theorem dM_found_60 : decode cM_found 60 = .ok (.ifCond .ne 11, 3) := by decide +kernel
theorem dM_found_63 : decode cM_found 63 = .ok (.aload_n 0, 1) := by decide +kernel
theorem dM_found_64 : decode cM_found 64 = .ok (.getfield 70, 3) := by decide +kernel
theorem dM_found_67 : decode cM_found 67 = .ok (.istore_n 1, 1) := by decide +kernel
theorem dM_found_68 : decode cM_found 68 = .ok (.goto 28, 3) := by decide +kernel
theorem dM_found_71 : decode cM_found 71 = .ok (.aload_n 0, 1) := by decide +kernel
theorem dM_found_72 : decode cM_found 72 = .ok (.getfield 45, 3) := by decide +kernel
theorem dM_found_75 : decode cM_found 75 = .ok (.aload_n 0, 1) := by decide +kernel
theorem dM_found_76 : decode cM_found 76 = .ok (.getfield 70, 3) := by decide +kernel
theorem dM_found_79 : decode cM_found 79 = .ok (.iaload, 1) := by decide +kernel
theorem dM_found_80 : decode cM_found 80 = .ok (.ifCond .ne 16, 3) := by decide +kernel
theorem dM_found_83 : decode cM_found 83 = .ok (.aload_n 0, 1) := by decide +kernel
theorem dM_found_84 : decode cM_found 84 = .ok (.getfield 48, 3) := by decide +kernel
theorem dM_found_87 : decode cM_found 87 = .ok (.aload_n 0, 1) := by decide +kernel
theorem dM_found_88 : decode cM_found 88 = .ok (.getfield 70, 3) := by decide +kernel
theorem dM_found_91 : decode cM_found 91 = .ok (.dup2, 1) := by decide +kernel
theorem dM_found_92 : decode cM_found 92 = .ok (.iaload, 1) := by decide +kernel
theorem dM_found_93 : decode cM_found 93 = .ok (.iconst 1, 1) := by decide +kernel
theorem dM_found_94 : decode cM_found 94 = .ok (.isub, 1) := by decide +kernel
theorem dM_found_95 : decode cM_found 95 = .ok (.iastore, 1) := by decide +kernel
theorem dM_found_96 : decode cM_found 96 = .ok (.aload_n 0, 1) := by decide +kernel
theorem dM_found_97 : decode cM_found 97 = .ok (.aload_n 0, 1) := by decide +kernel
theorem dM_found_98 : decode cM_found 98 = .ok (.getfield 70, 3) := by decide +kernel
theorem dM_found_101 : decode cM_found 101 = .ok (.iconst 1, 1) := by decide +kernel
theorem dM_found_102 : decode cM_found 102 = .ok (.iadd, 1) := by decide +kernel
theorem dM_found_103 : decode cM_found 103 = .ok (.bipush 12, 2) := by decide +kernel
theorem dM_found_105 : decode cM_found 105 = .ok (.irem, 1) := by decide +kernel
theorem dM_found_106 : decode cM_found 106 = .ok (.putfield 70, 3) := by decide +kernel
theorem dM_found_109 : decode cM_found 109 = .ok (.iinc 2 1, 3) := by decide +kernel
theorem dM_found_112 : decode cM_found 112 = .ok (.goto (-83), 3) := by decide +kernel
theorem dM_found_115 : decode cM_found 115 = .ok (.aload_n 0, 1) := by decide +kernel
theorem dM_found_116 : decode cM_found 116 = .ok (.getfield 51, 3) := by decide +kernel
theorem dM_found_119 : decode cM_found 119 = .ok (.iload_n 1, 1) := by decide +kernel
theorem dM_found_120 : decode cM_found 120 = .ok (.baload, 1) := by decide +kernel
theorem dM_found_121 : decode cM_found 121 = .ok (.ifCond .eq 15, 3) := by decide +kernel
theorem dM_found_124 : decode cM_found 124 = .ok (.aload_n 0, 1) := by decide +kernel
theorem dM_found_125 : decode cM_found 125 = .ok (.iload_n 1, 1) := by decide +kernel
theorem dM_found_126 : decode cM_found 126 = .ok (.invokevirtual 111, 3) := by decide +kernel
theorem dM_found_129 : decode cM_found 129 = .ok (.ifCond .ne 7, 3) := by decide +kernel
theorem dM_found_132 : decode cM_found 132 = .ok (.iconst (-1), 1) := by decide +kernel
theorem dM_found_133 : decode cM_found 133 = .ok (.goto 4, 3) := by decide +kernel
theorem dM_found_136 : decode cM_found 136 = .ok (.iload_n 1, 1) := by decide +kernel
theorem dM_found_137 : decode cM_found 137 = .ok (.ireturn, 1) := by decide +kernel
theorem dM_fill_0 : decode cM_fill 0 = .ok (.aload_n 0, 1) := by decide +kernel
theorem dM_fill_1 : decode cM_fill 1 = .ok (.getfield 42, 3) := by decide +kernel
theorem dM_fill_4 : decode cM_fill 4 = .ok (.iload_n 1, 1) := by decide +kernel
theorem dM_fill_5 : decode cM_fill 5 = .ok (.iload_n 2, 1) := by decide +kernel
theorem dM_fill_6 : decode cM_fill 6 = .ok (.iastore, 1) := by decide +kernel
theorem dM_fill_7 : decode cM_fill 7 = .ok (.aload_n 0, 1) := by decide +kernel
theorem dM_fill_8 : decode cM_fill 8 = .ok (.getfield 45, 3) := by decide +kernel
theorem dM_fill_11 : decode cM_fill 11 = .ok (.iload_n 1, 1) := by decide +kernel
theorem dM_fill_12 : decode cM_fill 12 = .ok (.iconst 1, 1) := by decide +kernel
theorem dM_fill_13 : decode cM_fill 13 = .ok (.iastore, 1) := by decide +kernel
theorem dM_fill_14 : decode cM_fill 14 = .ok (.aload_n 0, 1) := by decide +kernel
theorem dM_fill_15 : decode cM_fill 15 = .ok (.getfield 48, 3) := by decide +kernel
theorem dM_fill_18 : decode cM_fill 18 = .ok (.iload_n 1, 1) := by decide +kernel
theorem dM_fill_19 : decode cM_fill 19 = .ok (.iconst 1, 1) := by decide +kernel
theorem dM_fill_20 : decode cM_fill 20 = .ok (.iastore, 1) := by decide +kernel
theorem dM_fill_21 : decode cM_fill 21 = .ok (.aload_n 0, 1) := by decide +kernel
theorem dM_fill_22 : decode cM_fill 22 = .ok (.getfield 51, 3) := by decide +kernel
theorem dM_fill_25 : decode cM_fill 25 = .ok (.iload_n 1, 1) := by decide +kernel
theorem dM_fill_26 : decode cM_fill 26 = .ok (.iconst 0, 1) := by decide +kernel
theorem dM_fill_27 : decode cM_fill 27 = .ok (.bastore, 1) := by decide +kernel
theorem dM_fill_28 : decode cM_fill 28 = .ok (.aload_n 0, 1) := by decide +kernel
theorem dM_fill_29 : decode cM_fill 29 = .ok (.getfield 54, 3) := by decide +kernel
theorem dM_fill_32 : decode cM_fill 32 = .ok (.iload_n 1, 1) := by decide +kernel
theorem dM_fill_33 : decode cM_fill 33 = .ok (.aload_n 0, 1) := by decide +kernel
theorem dM_fill_34 : decode cM_fill 34 = .ok (.getfield 36, 3) := by decide +kernel
theorem dM_fill_37 : decode cM_fill 37 = .ok (.iload_n 2, 1) := by decide +kernel
theorem dM_fill_38 : decode cM_fill 38 = .ok (.iaload, 1) := by decide +kernel
theorem dM_fill_39 : decode cM_fill 39 = .ok (.iastore, 1) := by decide +kernel
theorem dM_fill_40 : decode cM_fill 40 = .ok (.aload_n 0, 1) := by decide +kernel
theorem dM_fill_41 : decode cM_fill 41 = .ok (.getfield 57, 3) := by decide +kernel
theorem dM_fill_44 : decode cM_fill 44 = .ok (.iload_n 1, 1) := by decide +kernel
theorem dM_fill_45 : decode cM_fill 45 = .ok (.iload_n 3, 1) := by decide +kernel
theorem dM_fill_46 : decode cM_fill 46 = .ok (.iastore, 1) := by decide +kernel
theorem dM_fill_47 : decode cM_fill 47 = .ok (.return_, 1) := by decide +kernel
theorem dM_pin_0 : decode cM_pin 0 = .ok (.aload_n 0, 1) := by decide +kernel
theorem dM_pin_1 : decode cM_pin 1 = .ok (.iconst 0, 1) := by decide +kernel
theorem dM_pin_2 : decode cM_pin 2 = .ok (.putfield 67, 3) := by decide +kernel
theorem dM_pin_5 : decode cM_pin 5 = .ok (.iload_n 1, 1) := by decide +kernel
theorem dM_pin_6 : decode cM_pin 6 = .ok (.invokestatic 91, 3) := by decide +kernel
theorem dM_pin_9 : decode cM_pin 9 = .ok (.ifCond .ne 9, 3) := by decide +kernel
theorem dM_pin_12 : decode cM_pin 12 = .ok (.aload_n 0, 1) := by decide +kernel
theorem dM_pin_13 : decode cM_pin 13 = .ok (.iconst 1, 1) := by decide +kernel
theorem dM_pin_14 : decode cM_pin 14 = .ok (.invokevirtual 114, 3) := by decide +kernel
theorem dM_pin_17 : decode cM_pin 17 = .ok (.ireturn, 1) := by decide +kernel
theorem dM_pin_18 : decode cM_pin 18 = .ok (.aload_n 0, 1) := by decide +kernel
theorem dM_pin_19 : decode cM_pin 19 = .ok (.iload_n 1, 1) := by decide +kernel
theorem dM_pin_20 : decode cM_pin 20 = .ok (.invokevirtual 117, 3) := by decide +kernel
theorem dM_pin_23 : decode cM_pin 23 = .ok (.istore_n 2, 1) := by decide +kernel
theorem dM_pin_24 : decode cM_pin 24 = .ok (.iload_n 2, 1) := by decide +kernel
theorem dM_pin_25 : decode cM_pin 25 = .ok (.ifCond .lt 43, 3) := by decide +kernel
theorem dM_pin_28 : decode cM_pin 28 = .ok (.aload_n 0, 1) := by decide +kernel
theorem dM_pin_29 : decode cM_pin 29 = .ok (.getfield 45, 3) := by decide +kernel
theorem dM_pin_32 : decode cM_pin 32 = .ok (.iload_n 2, 1) := by decide +kernel
theorem dM_pin_33 : decode cM_pin 33 = .ok (.dup2, 1) := by decide +kernel
theorem dM_pin_34 : decode cM_pin 34 = .ok (.iaload, 1) := by decide +kernel
theorem dM_pin_35 : decode cM_pin 35 = .ok (.iconst 1, 1) := by decide +kernel
theorem dM_pin_36 : decode cM_pin 36 = .ok (.iadd, 1) := by decide +kernel
theorem dM_pin_37 : decode cM_pin 37 = .ok (.iastore, 1) := by decide +kernel
theorem dM_pin_38 : decode cM_pin 38 = .ok (.aload_n 0, 1) := by decide +kernel
theorem dM_pin_39 : decode cM_pin 39 = .ok (.getfield 48, 3) := by decide +kernel
theorem dM_pin_42 : decode cM_pin 42 = .ok (.iload_n 2, 1) := by decide +kernel
theorem dM_pin_43 : decode cM_pin 43 = .ok (.aload_n 0, 1) := by decide +kernel
theorem dM_pin_44 : decode cM_pin 44 = .ok (.getfield 48, 3) := by decide +kernel
theorem dM_pin_47 : decode cM_pin 47 = .ok (.iload_n 2, 1) := by decide +kernel
theorem dM_pin_48 : decode cM_pin 48 = .ok (.iaload, 1) := by decide +kernel
theorem dM_pin_49 : decode cM_pin 49 = .ok (.iconst 3, 1) := by decide +kernel
theorem dM_pin_50 : decode cM_pin 50 = .ok (.if_icmp .ge 14, 3) := by decide +kernel
theorem dM_pin_53 : decode cM_pin 53 = .ok (.aload_n 0, 1) := by decide +kernel
theorem dM_pin_54 : decode cM_pin 54 = .ok (.getfield 48, 3) := by decide +kernel
theorem dM_pin_57 : decode cM_pin 57 = .ok (.iload_n 2, 1) := by decide +kernel
theorem dM_pin_58 : decode cM_pin 58 = .ok (.iaload, 1) := by decide +kernel
theorem dM_pin_59 : decode cM_pin 59 = .ok (.iconst 1, 1) := by decide +kernel
theorem dM_pin_60 : decode cM_pin 60 = .ok (.iadd, 1) := by decide +kernel
theorem dM_pin_61 : decode cM_pin 61 = .ok (.goto 4, 3) := by decide +kernel
theorem dM_pin_64 : decode cM_pin 64 = .ok (.iconst 3, 1) := by decide +kernel
theorem dM_pin_65 : decode cM_pin 65 = .ok (.iastore, 1) := by decide +kernel
theorem dM_pin_66 : decode cM_pin 66 = .ok (.iload_n 2, 1) := by decide +kernel
theorem dM_pin_67 : decode cM_pin 67 = .ok (.ireturn, 1) := by decide +kernel
theorem dM_pin_68 : decode cM_pin 68 = .ok (.aload_n 0, 1) := by decide +kernel
theorem dM_pin_69 : decode cM_pin 69 = .ok (.invokevirtual 120, 3) := by decide +kernel
theorem dM_pin_72 : decode cM_pin 72 = .ok (.ifCond .ne 11, 3) := by decide +kernel
theorem dM_pin_75 : decode cM_pin 75 = .ok (.aload_n 0, 1) := by decide +kernel
theorem dM_pin_76 : decode cM_pin 76 = .ok (.iload_n 1, 1) := by decide +kernel
theorem dM_pin_77 : decode cM_pin 77 = .ok (.invokevirtual 95, 3) := by decide +kernel
theorem dM_pin_80 : decode cM_pin 80 = .ok (.ifCond .eq 20, 3) := by decide +kernel
theorem dM_pin_83 : decode cM_pin 83 = .ok (.aload_n 0, 1) := by decide +kernel
theorem dM_pin_84 : decode cM_pin 84 = .ok (.aload_n 0, 1) := by decide +kernel
theorem dM_pin_85 : decode cM_pin 85 = .ok (.invokevirtual 120, 3) := by decide +kernel
theorem dM_pin_88 : decode cM_pin 88 = .ok (.ifCond .eq 7, 3) := by decide +kernel
theorem dM_pin_91 : decode cM_pin 91 = .ok (.iconst 2, 1) := by decide +kernel
theorem dM_pin_92 : decode cM_pin 92 = .ok (.goto 4, 3) := by decide +kernel
theorem dM_pin_95 : decode cM_pin 95 = .ok (.iconst 3, 1) := by decide +kernel
theorem dM_pin_96 : decode cM_pin 96 = .ok (.invokevirtual 114, 3) := by decide +kernel
theorem dM_pin_99 : decode cM_pin 99 = .ok (.ireturn, 1) := by decide +kernel
theorem dM_pin_100 : decode cM_pin 100 = .ok (.aload_n 0, 1) := by decide +kernel
theorem dM_pin_101 : decode cM_pin 101 = .ok (.invokevirtual 124, 3) := by decide +kernel
theorem dM_pin_104 : decode cM_pin 104 = .ok (.istore_n 2, 1) := by decide +kernel
theorem dM_pin_105 : decode cM_pin 105 = .ok (.iload_n 2, 1) := by decide +kernel
theorem dM_pin_106 : decode cM_pin 106 = .ok (.ifCond .ge 9, 3) := by decide +kernel
theorem dM_pin_109 : decode cM_pin 109 = .ok (.aload_n 0, 1) := by decide +kernel
theorem dM_pin_110 : decode cM_pin 110 = .ok (.iconst 4, 1) := by decide +kernel
theorem dM_pin_111 : decode cM_pin 111 = .ok (.invokevirtual 114, 3) := by decide +kernel
theorem dM_pin_114 : decode cM_pin 114 = .ok (.ireturn, 1) := by decide +kernel
theorem dM_pin_115 : decode cM_pin 115 = .ok (.aload_n 0, 1) := by decide +kernel
theorem dM_pin_116 : decode cM_pin 116 = .ok (.dup, 1) := by decide +kernel
theorem dM_pin_117 : decode cM_pin 117 = .ok (.getfield 128, 3) := by decide +kernel
theorem dM_pin_120 : decode cM_pin 120 = .ok (.iconst 1, 1) := by decide +kernel
theorem dM_pin_121 : decode cM_pin 121 = .ok (.iadd, 1) := by decide +kernel
theorem dM_pin_122 : decode cM_pin 122 = .ok (.putfield 128, 3) := by decide +kernel
theorem dM_pin_125 : decode cM_pin 125 = .ok (.aload_n 0, 1) := by decide +kernel
theorem dM_pin_126 : decode cM_pin 126 = .ok (.iload_n 2, 1) := by decide +kernel
theorem dM_pin_127 : decode cM_pin 127 = .ok (.iload_n 1, 1) := by decide +kernel
theorem dM_pin_128 : decode cM_pin 128 = .ok (.aload_n 0, 1) := by decide +kernel
theorem dM_pin_129 : decode cM_pin 129 = .ok (.getfield 30, 3) := by decide +kernel
theorem dM_pin_132 : decode cM_pin 132 = .ok (.bipush 8, 2) := by decide +kernel
theorem dM_pin_134 : decode cM_pin 134 = .ok (.iload_n 1, 1) := by decide +kernel
theorem dM_pin_135 : decode cM_pin 135 = .ok (.imul, 1) := by decide +kernel
theorem dM_pin_136 : decode cM_pin 136 = .ok (.saload, 1) := by decide +kernel
theorem dM_pin_137 : decode cM_pin 137 = .ok (.invokevirtual 131, 3) := by decide +kernel
theorem dM_pin_140 : decode cM_pin 140 = .ok (.iload_n 2, 1) := by decide +kernel
theorem dM_pin_141 : decode cM_pin 141 = .ok (.ireturn, 1) := by decide +kernel
theorem dM_remake_0 : decode cM_remake 0 = .ok (.aload_n 0, 1) := by decide +kernel
theorem dM_remake_1 : decode cM_remake 1 = .ok (.iconst 0, 1) := by decide +kernel
theorem dM_remake_2 : decode cM_remake 2 = .ok (.putfield 67, 3) := by decide +kernel
theorem dM_remake_5 : decode cM_remake 5 = .ok (.iload_n 1, 1) := by decide +kernel
theorem dM_remake_6 : decode cM_remake 6 = .ok (.invokestatic 91, 3) := by decide +kernel
theorem dM_remake_9 : decode cM_remake 9 = .ok (.ifCond .ne 9, 3) := by decide +kernel
theorem dM_remake_12 : decode cM_remake 12 = .ok (.aload_n 0, 1) := by decide +kernel
theorem dM_remake_13 : decode cM_remake 13 = .ok (.iconst 1, 1) := by decide +kernel
theorem dM_remake_14 : decode cM_remake 14 = .ok (.invokevirtual 114, 3) := by decide +kernel
theorem dM_remake_17 : decode cM_remake 17 = .ok (.ireturn, 1) := by decide +kernel
theorem dM_remake_18 : decode cM_remake 18 = .ok (.aload_n 0, 1) := by decide +kernel
theorem dM_remake_19 : decode cM_remake 19 = .ok (.iload_n 1, 1) := by decide +kernel
theorem dM_remake_20 : decode cM_remake 20 = .ok (.invokevirtual 117, 3) := by decide +kernel
theorem dM_remake_23 : decode cM_remake 23 = .ok (.ifCond .ge 10, 3) := by decide +kernel
theorem dM_remake_26 : decode cM_remake 26 = .ok (.aload_n 0, 1) := by decide +kernel
theorem dM_remake_27 : decode cM_remake 27 = .ok (.invokevirtual 120, 3) := by decide +kernel
theorem dM_remake_30 : decode cM_remake 30 = .ok (.ifCond .eq 9, 3) := by decide +kernel
theorem dM_remake_33 : decode cM_remake 33 = .ok (.aload_n 0, 1) := by decide +kernel
theorem dM_remake_34 : decode cM_remake 34 = .ok (.iconst 2, 1) := by decide +kernel
theorem dM_remake_35 : decode cM_remake 35 = .ok (.invokevirtual 114, 3) := by decide +kernel
theorem dM_remake_38 : decode cM_remake 38 = .ok (.ireturn, 1) := by decide +kernel
theorem dM_remake_39 : decode cM_remake 39 = .ok (.aload_n 0, 1) := by decide +kernel
theorem dM_remake_40 : decode cM_remake 40 = .ok (.invokevirtual 124, 3) := by decide +kernel
theorem dM_remake_43 : decode cM_remake 43 = .ok (.istore_n 2, 1) := by decide +kernel
theorem dM_remake_44 : decode cM_remake 44 = .ok (.iload_n 2, 1) := by decide +kernel
theorem dM_remake_45 : decode cM_remake 45 = .ok (.ifCond .ge 9, 3) := by decide +kernel
theorem dM_remake_48 : decode cM_remake 48 = .ok (.aload_n 0, 1) := by decide +kernel
theorem dM_remake_49 : decode cM_remake 49 = .ok (.iconst 3, 1) := by decide +kernel
theorem dM_remake_50 : decode cM_remake 50 = .ok (.invokevirtual 114, 3) := by decide +kernel
theorem dM_remake_53 : decode cM_remake 53 = .ok (.ireturn, 1) := by decide +kernel
theorem dM_remake_54 : decode cM_remake 54 = .ok (.aload_n 0, 1) := by decide +kernel
theorem dM_remake_55 : decode cM_remake 55 = .ok (.iload_n 2, 1) := by decide +kernel
theorem dM_remake_56 : decode cM_remake 56 = .ok (.iload_n 1, 1) := by decide +kernel
theorem dM_remake_57 : decode cM_remake 57 = .ok (.aload_n 0, 1) := by decide +kernel
theorem dM_remake_58 : decode cM_remake 58 = .ok (.getfield 73, 3) := by decide +kernel
theorem dM_remake_61 : decode cM_remake 61 = .ok (.invokevirtual 131, 3) := by decide +kernel
theorem dM_remake_64 : decode cM_remake 64 = .ok (.iload_n 2, 1) := by decide +kernel
theorem dM_remake_65 : decode cM_remake 65 = .ok (.ireturn, 1) := by decide +kernel
theorem dM_isPinned_0 : decode cM_isPinned 0 = .ok (.iload_n 1, 1) := by decide +kernel
theorem dM_isPinned_1 : decode cM_isPinned 1 = .ok (.ifCond .lt 31, 3) := by decide +kernel
theorem dM_isPinned_4 : decode cM_isPinned 4 = .ok (.iload_n 1, 1) := by decide +kernel
theorem dM_isPinned_5 : decode cM_isPinned 5 = .ok (.bipush 12, 2) := by decide +kernel
theorem dM_isPinned_7 : decode cM_isPinned 7 = .ok (.if_icmp .ge 25, 3) := by decide +kernel
theorem dM_isPinned_10 : decode cM_isPinned 10 = .ok (.aload_n 0, 1) := by decide +kernel
theorem dM_isPinned_11 : decode cM_isPinned 11 = .ok (.getfield 42, 3) := by decide +kernel
theorem dM_isPinned_14 : decode cM_isPinned 14 = .ok (.iload_n 1, 1) := by decide +kernel
theorem dM_isPinned_15 : decode cM_isPinned 15 = .ok (.iaload, 1) := by decide +kernel
theorem dM_isPinned_16 : decode cM_isPinned 16 = .ok (.ifCond .lt 16, 3) := by decide +kernel
theorem dM_isPinned_19 : decode cM_isPinned 19 = .ok (.aload_n 0, 1) := by decide +kernel
theorem dM_isPinned_20 : decode cM_isPinned 20 = .ok (.getfield 45, 3) := by decide +kernel
theorem dM_isPinned_23 : decode cM_isPinned 23 = .ok (.iload_n 1, 1) := by decide +kernel
theorem dM_isPinned_24 : decode cM_isPinned 24 = .ok (.iaload, 1) := by decide +kernel
theorem dM_isPinned_25 : decode cM_isPinned 25 = .ok (.ifCond .le 7, 3) := by decide +kernel
theorem dM_isPinned_28 : decode cM_isPinned 28 = .ok (.iconst 1, 1) := by decide +kernel
theorem dM_isPinned_29 : decode cM_isPinned 29 = .ok (.goto 4, 3) := by decide +kernel
theorem dM_isPinned_32 : decode cM_isPinned 32 = .ok (.iconst 0, 1) := by decide +kernel
theorem dM_isPinned_33 : decode cM_isPinned 33 = .ok (.ireturn, 1) := by decide +kernel
theorem dM_unpin_0 : decode cM_unpin 0 = .ok (.aload_n 0, 1) := by decide +kernel
theorem dM_unpin_1 : decode cM_unpin 1 = .ok (.iconst 0, 1) := by decide +kernel
theorem dM_unpin_2 : decode cM_unpin 2 = .ok (.putfield 67, 3) := by decide +kernel
theorem dM_unpin_5 : decode cM_unpin 5 = .ok (.aload_n 0, 1) := by decide +kernel
theorem dM_unpin_6 : decode cM_unpin 6 = .ok (.iload_n 1, 1) := by decide +kernel
theorem dM_unpin_7 : decode cM_unpin 7 = .ok (.invokevirtual 135, 3) := by decide +kernel
theorem dM_unpin_10 : decode cM_unpin 10 = .ok (.ifCond .ne 5, 3) := by decide +kernel
theorem dM_unpin_13 : decode cM_unpin 13 = .ok (.iconst 0, 1) := by decide +kernel
theorem dM_unpin_14 : decode cM_unpin 14 = .ok (.ireturn, 1) := by decide +kernel
theorem dM_unpin_15 : decode cM_unpin 15 = .ok (.aload_n 0, 1) := by decide +kernel
theorem dM_unpin_16 : decode cM_unpin 16 = .ok (.getfield 45, 3) := by decide +kernel
theorem dM_unpin_19 : decode cM_unpin 19 = .ok (.iload_n 1, 1) := by decide +kernel
theorem dM_unpin_20 : decode cM_unpin 20 = .ok (.dup2, 1) := by decide +kernel
theorem dM_unpin_21 : decode cM_unpin 21 = .ok (.iaload, 1) := by decide +kernel
theorem dM_unpin_22 : decode cM_unpin 22 = .ok (.iconst 1, 1) := by decide +kernel
theorem dM_unpin_23 : decode cM_unpin 23 = .ok (.isub, 1) := by decide +kernel
theorem dM_unpin_24 : decode cM_unpin 24 = .ok (.iastore, 1) := by decide +kernel
theorem dM_unpin_25 : decode cM_unpin 25 = .ok (.iconst 1, 1) := by decide +kernel
theorem dM_unpin_26 : decode cM_unpin 26 = .ok (.ireturn, 1) := by decide +kernel
theorem dM_set_0 : decode cM_set 0 = .ok (.aload_n 0, 1) := by decide +kernel
theorem dM_set_1 : decode cM_set 1 = .ok (.iconst 0, 1) := by decide +kernel
theorem dM_set_2 : decode cM_set 2 = .ok (.putfield 67, 3) := by decide +kernel
theorem dM_set_5 : decode cM_set 5 = .ok (.aload_n 0, 1) := by decide +kernel
theorem dM_set_6 : decode cM_set 6 = .ok (.iload_n 1, 1) := by decide +kernel
theorem dM_set_7 : decode cM_set 7 = .ok (.invokevirtual 135, 3) := by decide +kernel
theorem dM_set_10 : decode cM_set 10 = .ok (.ifCond .eq 26, 3) := by decide +kernel
theorem dM_set_13 : decode cM_set 13 = .ok (.iload_n 2, 1) := by decide +kernel
theorem dM_set_14 : decode cM_set 14 = .ok (.bipush 6, 2) := by decide +kernel
theorem dM_set_16 : decode cM_set 16 = .ok (.if_icmp .lt 20, 3) := by decide +kernel
theorem dM_set_19 : decode cM_set 19 = .ok (.iload_n 2, 1) := by decide +kernel
theorem dM_set_20 : decode cM_set 20 = .ok (.sipush 509, 3) := by decide +kernel
theorem dM_set_23 : decode cM_set 23 = .ok (.if_icmp .gt 13, 3) := by decide +kernel
theorem dM_set_26 : decode cM_set 26 = .ok (.iload 4, 2) := by decide +kernel
theorem dM_set_28 : decode cM_set 28 = .ok (.aload_n 0, 1) := by decide +kernel
theorem dM_set_29 : decode cM_set 29 = .ok (.iload_n 1, 1) := by decide +kernel
theorem dM_set_30 : decode cM_set 30 = .ok (.invokevirtual 83, 3) := by decide +kernel
theorem dM_set_33 : decode cM_set 33 = .ok (.if_icmp .ge 5, 3) := by decide +kernel
theorem dM_set_36 : decode cM_set 36 = .ok (.iconst 0, 1) := by decide +kernel
theorem dM_set_37 : decode cM_set 37 = .ok (.ireturn, 1) := by decide +kernel
theorem dM_set_38 : decode cM_set 38 = .ok (.aload_n 0, 1) := by decide +kernel
theorem dM_set_39 : decode cM_set 39 = .ok (.dup, 1) := by decide +kernel
theorem dM_set_40 : decode cM_set 40 = .ok (.getfield 73, 3) := by decide +kernel
theorem dM_set_43 : decode cM_set 43 = .ok (.iconst 1, 1) := by decide +kernel
theorem dM_set_44 : decode cM_set 44 = .ok (.iadd, 1) := by decide +kernel
theorem dM_set_45 : decode cM_set 45 = .ok (.putfield 73, 3) := by decide +kernel
theorem dM_set_48 : decode cM_set 48 = .ok (.aload_n 0, 1) := by decide +kernel
theorem dM_set_49 : decode cM_set 49 = .ok (.getfield 7, 3) := by decide +kernel
theorem dM_set_52 : decode cM_set 52 = .ok (.aload_n 0, 1) := by decide +kernel
theorem dM_set_53 : decode cM_set 53 = .ok (.getfield 73, 3) := by decide +kernel
theorem dM_set_56 : decode cM_set 56 = .ok (.aload_n 0, 1) := by decide +kernel
theorem dM_set_57 : decode cM_set 57 = .ok (.getfield 42, 3) := by decide +kernel
theorem dM_set_60 : decode cM_set 60 = .ok (.iload_n 1, 1) := by decide +kernel
theorem dM_set_61 : decode cM_set 61 = .ok (.iaload, 1) := by decide +kernel
theorem dM_set_62 : decode cM_set 62 = .ok (.i2s, 1) := by decide +kernel
theorem dM_set_63 : decode cM_set 63 = .ok (.sastore, 1) := by decide +kernel
theorem dM_set_64 : decode cM_set 64 = .ok (.aload_n 0, 1) := by decide +kernel
theorem dM_set_65 : decode cM_set 65 = .ok (.getfield 13, 3) := by decide +kernel
theorem dM_set_68 : decode cM_set 68 = .ok (.aload_n 0, 1) := by decide +kernel
theorem dM_set_69 : decode cM_set 69 = .ok (.getfield 73, 3) := by decide +kernel
theorem dM_set_72 : decode cM_set 72 = .ok (.iload_n 2, 1) := by decide +kernel
theorem dM_set_73 : decode cM_set 73 = .ok (.i2s, 1) := by decide +kernel
theorem dM_set_74 : decode cM_set 74 = .ok (.sastore, 1) := by decide +kernel
theorem dM_set_75 : decode cM_set 75 = .ok (.aload_n 0, 1) := by decide +kernel
theorem dM_set_76 : decode cM_set 76 = .ok (.getfield 16, 3) := by decide +kernel
theorem dM_set_79 : decode cM_set 79 = .ok (.aload_n 0, 1) := by decide +kernel
theorem dM_set_80 : decode cM_set 80 = .ok (.getfield 73, 3) := by decide +kernel
theorem dM_set_83 : decode cM_set 83 = .ok (.iload_n 3, 1) := by decide +kernel
theorem dM_set_84 : decode cM_set 84 = .ok (.sipush 255, 3) := by decide +kernel
theorem dM_set_87 : decode cM_set 87 = .ok (.iand, 1) := by decide +kernel
theorem dM_set_88 : decode cM_set 88 = .ok (.i2s, 1) := by decide +kernel
theorem dM_set_89 : decode cM_set 89 = .ok (.sastore, 1) := by decide +kernel
theorem dM_set_90 : decode cM_set 90 = .ok (.aload_n 0, 1) := by decide +kernel
theorem dM_set_91 : decode cM_set 91 = .ok (.getfield 19, 3) := by decide +kernel
theorem dM_set_94 : decode cM_set 94 = .ok (.aload_n 0, 1) := by decide +kernel
theorem dM_set_95 : decode cM_set 95 = .ok (.getfield 73, 3) := by decide +kernel
theorem dM_set_98 : decode cM_set 98 = .ok (.iload 4, 2) := by decide +kernel
theorem dM_set_100 : decode cM_set 100 = .ok (.iastore, 1) := by decide +kernel
theorem dM_set_101 : decode cM_set 101 = .ok (.aload_n 0, 1) := by decide +kernel
theorem dM_set_102 : decode cM_set 102 = .ok (.getfield 23, 3) := by decide +kernel
theorem dM_set_105 : decode cM_set 105 = .ok (.aload_n 0, 1) := by decide +kernel
theorem dM_set_106 : decode cM_set 106 = .ok (.getfield 73, 3) := by decide +kernel
theorem dM_set_109 : decode cM_set 109 = .ok (.iconst 0, 1) := by decide +kernel
theorem dM_set_110 : decode cM_set 110 = .ok (.bastore, 1) := by decide +kernel
theorem dM_set_111 : decode cM_set 111 = .ok (.aload_n 0, 1) := by decide +kernel
theorem dM_set_112 : decode cM_set 112 = .ok (.getfield 27, 3) := by decide +kernel
theorem dM_set_115 : decode cM_set 115 = .ok (.aload_n 0, 1) := by decide +kernel
theorem dM_set_116 : decode cM_set 116 = .ok (.getfield 73, 3) := by decide +kernel
theorem dM_set_119 : decode cM_set 119 = .ok (.iconst 0, 1) := by decide +kernel
theorem dM_set_120 : decode cM_set 120 = .ok (.bastore, 1) := by decide +kernel
theorem dM_set_121 : decode cM_set 121 = .ok (.aload_n 0, 1) := by decide +kernel
theorem dM_set_122 : decode cM_set 122 = .ok (.getfield 51, 3) := by decide +kernel
theorem dM_set_125 : decode cM_set 125 = .ok (.iload_n 1, 1) := by decide +kernel
theorem dM_set_126 : decode cM_set 126 = .ok (.iconst 1, 1) := by decide +kernel
theorem dM_set_127 : decode cM_set 127 = .ok (.bastore, 1) := by decide +kernel
theorem dM_set_128 : decode cM_set 128 = .ok (.iconst 1, 1) := by decide +kernel
theorem dM_set_129 : decode cM_set 129 = .ok (.ireturn, 1) := by decide +kernel
theorem dM_clean_0 : decode cM_clean 0 = .ok (.aload_n 0, 1) := by decide +kernel
theorem dM_clean_1 : decode cM_clean 1 = .ok (.iconst 0, 1) := by decide +kernel
theorem dM_clean_2 : decode cM_clean 2 = .ok (.putfield 67, 3) := by decide +kernel
theorem dM_clean_5 : decode cM_clean 5 = .ok (.iload_n 1, 1) := by decide +kernel
theorem dM_clean_6 : decode cM_clean 6 = .ok (.iconst 1, 1) := by decide +kernel
theorem dM_clean_7 : decode cM_clean 7 = .ok (.if_icmp .lt 9, 3) := by decide +kernel
theorem dM_clean_10 : decode cM_clean 10 = .ok (.iload_n 1, 1) := by decide +kernel
theorem dM_clean_11 : decode cM_clean 11 = .ok (.bipush 12, 2) := by decide +kernel
theorem dM_clean_13 : decode cM_clean 13 = .ok (.if_icmp .le 9, 3) := by decide +kernel
theorem dM_clean_16 : decode cM_clean 16 = .ok (.aload_n 0, 1) := by decide +kernel
theorem dM_clean_17 : decode cM_clean 17 = .ok (.iconst 1, 1) := by decide +kernel
theorem dM_clean_18 : decode cM_clean 18 = .ok (.invokevirtual 114, 3) := by decide +kernel
theorem dM_clean_21 : decode cM_clean 21 = .ok (.ireturn, 1) := by decide +kernel
theorem dM_clean_22 : decode cM_clean 22 = .ok (.iconst 0, 1) := by decide +kernel
theorem dM_clean_23 : decode cM_clean 23 = .ok (.istore_n 2, 1) := by decide +kernel
theorem dM_clean_24 : decode cM_clean 24 = .ok (.aload_n 0, 1) := by decide +kernel
theorem dM_clean_25 : decode cM_clean 25 = .ok (.getfield 70, 3) := by decide +kernel
theorem dM_clean_28 : decode cM_clean 28 = .ok (.istore_n 3, 1) := by decide +kernel
theorem dM_clean_29 : decode cM_clean 29 = .ok (.iconst 0, 1) := by decide +kernel
theorem dM_clean_30 : decode cM_clean 30 = .ok (.istore 4, 2) := by decide +kernel
theorem dM_clean_32 : decode cM_clean 32 = .ok (.iload 4, 2) := by decide +kernel
theorem dM_clean_34 : decode cM_clean 34 = .ok (.bipush 12, 2) := by decide +kernel
theorem dM_clean_36 : decode cM_clean 36 = .ok (.if_icmp .ge 71, 3) := by decide +kernel
theorem dM_clean_39 : decode cM_clean 39 = .ok (.iload_n 2, 1) := by decide +kernel
theorem dM_clean_40 : decode cM_clean 40 = .ok (.iload_n 1, 1) := by decide +kernel
theorem dM_clean_41 : decode cM_clean 41 = .ok (.if_icmp .ge 66, 3) := by decide +kernel
theorem dM_clean_44 : decode cM_clean 44 = .ok (.iload_n 3, 1) := by decide +kernel
theorem dM_clean_45 : decode cM_clean 45 = .ok (.iload 4, 2) := by decide +kernel
theorem dM_clean_47 : decode cM_clean 47 = .ok (.iadd, 1) := by decide +kernel
theorem dM_clean_48 : decode cM_clean 48 = .ok (.bipush 12, 2) := by decide +kernel
theorem dM_clean_50 : decode cM_clean 50 = .ok (.irem, 1) := by decide +kernel
theorem dM_clean_51 : decode cM_clean 51 = .ok (.istore 5, 2) := by decide +kernel
theorem dM_clean_53 : decode cM_clean 53 = .ok (.aload_n 0, 1) := by decide +kernel
theorem dM_clean_54 : decode cM_clean 54 = .ok (.getfield 42, 3) := by decide +kernel
theorem dM_clean_57 : decode cM_clean 57 = .ok (.iload 5, 2) := by decide +kernel
theorem dM_clean_59 : decode cM_clean 59 = .ok (.iaload, 1) := by decide +kernel
theorem dM_clean_60 : decode cM_clean 60 = .ok (.ifCond .lt 41, 3) := by decide +kernel
theorem dM_clean_63 : decode cM_clean 63 = .ok (.aload_n 0, 1) := by decide +kernel
theorem dM_clean_64 : decode cM_clean 64 = .ok (.getfield 45, 3) := by decide +kernel
theorem dM_clean_67 : decode cM_clean 67 = .ok (.iload 5, 2) := by decide +kernel
theorem dM_clean_69 : decode cM_clean 69 = .ok (.iaload, 1) := by decide +kernel
theorem dM_clean_70 : decode cM_clean 70 = .ok (.ifCond .ne 31, 3) := by decide +kernel
theorem dM_clean_73 : decode cM_clean 73 = .ok (.aload_n 0, 1) := by decide +kernel
theorem dM_clean_74 : decode cM_clean 74 = .ok (.getfield 51, 3) := by decide +kernel
theorem dM_clean_77 : decode cM_clean 77 = .ok (.iload 5, 2) := by decide +kernel
theorem dM_clean_79 : decode cM_clean 79 = .ok (.baload, 1) := by decide +kernel
theorem dM_clean_80 : decode cM_clean 80 = .ok (.ifCond .eq 21, 3) := by decide +kernel
theorem dM_clean_83 : decode cM_clean 83 = .ok (.aload_n 0, 1) := by decide +kernel
theorem dM_clean_84 : decode cM_clean 84 = .ok (.iload 5, 2) := by decide +kernel
theorem dM_clean_86 : decode cM_clean 86 = .ok (.invokevirtual 111, 3) := by decide +kernel
theorem dM_clean_89 : decode cM_clean 89 = .ok (.ifCond .ne 9, 3) := by decide +kernel
theorem dM_clean_92 : decode cM_clean 92 = .ok (.aload_n 0, 1) := by decide +kernel
theorem dM_clean_93 : decode cM_clean 93 = .ok (.iconst 2, 1) := by decide +kernel
theorem dM_clean_94 : decode cM_clean 94 = .ok (.invokevirtual 114, 3) := by decide +kernel
theorem dM_clean_97 : decode cM_clean 97 = .ok (.ireturn, 1) := by decide +kernel
theorem dM_clean_98 : decode cM_clean 98 = .ok (.iinc 2 1, 3) := by decide +kernel
theorem dM_clean_101 : decode cM_clean 101 = .ok (.iinc 4 1, 3) := by decide +kernel
theorem dM_clean_104 : decode cM_clean 104 = .ok (.goto (-72), 3) := by decide +kernel
theorem dM_clean_107 : decode cM_clean 107 = .ok (.iload_n 2, 1) := by decide +kernel
theorem dM_clean_108 : decode cM_clean 108 = .ok (.ireturn, 1) := by decide +kernel
theorem dM_sweep_0 : decode cM_sweep 0 = .ok (.aload_n 0, 1) := by decide +kernel
theorem dM_sweep_1 : decode cM_sweep 1 = .ok (.iconst 0, 1) := by decide +kernel
theorem dM_sweep_2 : decode cM_sweep 2 = .ok (.putfield 67, 3) := by decide +kernel
theorem dM_sweep_5 : decode cM_sweep 5 = .ok (.iconst 0, 1) := by decide +kernel
theorem dM_sweep_6 : decode cM_sweep 6 = .ok (.istore_n 1, 1) := by decide +kernel
theorem dM_sweep_7 : decode cM_sweep 7 = .ok (.iconst 0, 1) := by decide +kernel
theorem dM_sweep_8 : decode cM_sweep 8 = .ok (.istore_n 2, 1) := by decide +kernel
theorem dM_sweep_9 : decode cM_sweep 9 = .ok (.iload_n 2, 1) := by decide +kernel
theorem dM_sweep_10 : decode cM_sweep 10 = .ok (.sipush 192, 3) := by decide +kernel
theorem dM_sweep_13 : decode cM_sweep 13 = .ok (.if_icmp .ge 45, 3) := by decide +kernel
theorem dM_sweep_16 : decode cM_sweep 16 = .ok (.aload_n 0, 1) := by decide +kernel
theorem dM_sweep_17 : decode cM_sweep 17 = .ok (.iload_n 2, 1) := by decide +kernel
theorem dM_sweep_18 : decode cM_sweep 18 = .ok (.invokevirtual 117, 3) := by decide +kernel
theorem dM_sweep_21 : decode cM_sweep 21 = .ok (.istore_n 3, 1) := by decide +kernel
theorem dM_sweep_22 : decode cM_sweep 22 = .ok (.iload_n 3, 1) := by decide +kernel
theorem dM_sweep_23 : decode cM_sweep 23 = .ok (.ifCond .lt 29, 3) := by decide +kernel
theorem dM_sweep_26 : decode cM_sweep 26 = .ok (.aload_n 0, 1) := by decide +kernel
theorem dM_sweep_27 : decode cM_sweep 27 = .ok (.getfield 51, 3) := by decide +kernel
theorem dM_sweep_30 : decode cM_sweep 30 = .ok (.iload_n 3, 1) := by decide +kernel
theorem dM_sweep_31 : decode cM_sweep 31 = .ok (.baload, 1) := by decide +kernel
theorem dM_sweep_32 : decode cM_sweep 32 = .ok (.ifCond .eq 20, 3) := by decide +kernel
theorem dM_sweep_35 : decode cM_sweep 35 = .ok (.aload_n 0, 1) := by decide +kernel
theorem dM_sweep_36 : decode cM_sweep 36 = .ok (.iload_n 3, 1) := by decide +kernel
theorem dM_sweep_37 : decode cM_sweep 37 = .ok (.invokevirtual 111, 3) := by decide +kernel
theorem dM_sweep_40 : decode cM_sweep 40 = .ok (.ifCond .ne 9, 3) := by decide +kernel
theorem dM_sweep_43 : decode cM_sweep 43 = .ok (.aload_n 0, 1) := by decide +kernel
theorem dM_sweep_44 : decode cM_sweep 44 = .ok (.iconst 1, 1) := by decide +kernel
theorem dM_sweep_45 : decode cM_sweep 45 = .ok (.invokevirtual 114, 3) := by decide +kernel
theorem dM_sweep_48 : decode cM_sweep 48 = .ok (.ireturn, 1) := by decide +kernel
theorem dM_sweep_49 : decode cM_sweep 49 = .ok (.iinc 1 1, 3) := by decide +kernel
theorem dM_sweep_52 : decode cM_sweep 52 = .ok (.iinc 2 1, 3) := by decide +kernel
theorem dM_sweep_55 : decode cM_sweep 55 = .ok (.goto (-46), 3) := by decide +kernel
theorem dM_sweep_58 : decode cM_sweep 58 = .ok (.iload_n 1, 1) := by decide +kernel
theorem dM_sweep_59 : decode cM_sweep 59 = .ok (.ireturn, 1) := by decide +kernel
theorem dM_charge_0 : decode cM_charge 0 = .ok (.aload_n 0, 1) := by decide +kernel
theorem dM_charge_1 : decode cM_charge 1 = .ok (.iload_n 1, 1) := by decide +kernel
theorem dM_charge_2 : decode cM_charge 2 = .ok (.ifCond .lt 10, 3) := by decide +kernel
theorem dM_charge_5 : decode cM_charge 5 = .ok (.iload_n 1, 1) := by decide +kernel
theorem dM_charge_6 : decode cM_charge 6 = .ok (.sipush 999, 3) := by decide +kernel
theorem dM_charge_9 : decode cM_charge 9 = .ok (.if_icmp .le 7, 3) := by decide +kernel
theorem dM_charge_12 : decode cM_charge 12 = .ok (.iconst 1, 1) := by decide +kernel
theorem dM_charge_13 : decode cM_charge 13 = .ok (.goto 4, 3) := by decide +kernel
theorem dM_charge_16 : decode cM_charge 16 = .ok (.iconst 0, 1) := by decide +kernel
theorem dM_charge_17 : decode cM_charge 17 = .ok (.putfield 67, 3) := by decide +kernel
theorem dM_charge_20 : decode cM_charge 20 = .ok (.aload_n 0, 1) := by decide +kernel
theorem dM_charge_21 : decode cM_charge 21 = .ok (.aload_n 0, 1) := by decide +kernel
theorem dM_charge_22 : decode cM_charge 22 = .ok (.getfield 67, 3) := by decide +kernel
theorem dM_charge_25 : decode cM_charge 25 = .ok (.ifCond .ne 7, 3) := by decide +kernel
theorem dM_charge_28 : decode cM_charge 28 = .ok (.iload_n 1, 1) := by decide +kernel
theorem dM_charge_29 : decode cM_charge 29 = .ok (.goto 7, 3) := by decide +kernel
theorem dM_charge_32 : decode cM_charge 32 = .ok (.aload_n 0, 1) := by decide +kernel
theorem dM_charge_33 : decode cM_charge 33 = .ok (.getfield 60, 3) := by decide +kernel
theorem dM_charge_36 : decode cM_charge 36 = .ok (.putfield 60, 3) := by decide +kernel
theorem dM_charge_39 : decode cM_charge 39 = .ok (.return_, 1) := by decide +kernel
theorem dM_flushed_0 : decode cM_flushed 0 = .ok (.aload_n 0, 1) := by decide +kernel
theorem dM_flushed_1 : decode cM_flushed 1 = .ok (.iconst 0, 1) := by decide +kernel
theorem dM_flushed_2 : decode cM_flushed 2 = .ok (.putfield 67, 3) := by decide +kernel
theorem dM_flushed_5 : decode cM_flushed 5 = .ok (.iload_n 1, 1) := by decide +kernel
theorem dM_flushed_6 : decode cM_flushed 6 = .ok (.aload_n 0, 1) := by decide +kernel
theorem dM_flushed_7 : decode cM_flushed 7 = .ok (.getfield 98, 3) := by decide +kernel
theorem dM_flushed_10 : decode cM_flushed 10 = .ok (.if_icmp .le 7, 3) := by decide +kernel
theorem dM_flushed_13 : decode cM_flushed 13 = .ok (.iconst 1, 1) := by decide +kernel
theorem dM_flushed_14 : decode cM_flushed 14 = .ok (.goto 4, 3) := by decide +kernel
theorem dM_flushed_17 : decode cM_flushed 17 = .ok (.iconst 0, 1) := by decide +kernel
theorem dM_flushed_18 : decode cM_flushed 18 = .ok (.istore_n 2, 1) := by decide +kernel
theorem dM_flushed_19 : decode cM_flushed 19 = .ok (.aload_n 0, 1) := by decide +kernel
theorem dM_flushed_20 : decode cM_flushed 20 = .ok (.iload_n 2, 1) := by decide +kernel
theorem dM_flushed_21 : decode cM_flushed 21 = .ok (.ifCond .eq 7, 3) := by decide +kernel
theorem dM_flushed_24 : decode cM_flushed 24 = .ok (.iload_n 1, 1) := by decide +kernel
theorem dM_flushed_25 : decode cM_flushed 25 = .ok (.goto 7, 3) := by decide +kernel
theorem dM_flushed_28 : decode cM_flushed 28 = .ok (.aload_n 0, 1) := by decide +kernel
theorem dM_flushed_29 : decode cM_flushed 29 = .ok (.getfield 98, 3) := by decide +kernel
theorem dM_flushed_32 : decode cM_flushed 32 = .ok (.putfield 98, 3) := by decide +kernel
theorem dM_flushed_35 : decode cM_flushed 35 = .ok (.iload_n 2, 1) := by decide +kernel
theorem dM_flushed_36 : decode cM_flushed 36 = .ok (.ireturn, 1) := by decide +kernel
theorem dM_look_0 : decode cM_look 0 = .ok (.aload_n 0, 1) := by decide +kernel
theorem dM_look_1 : decode cM_look 1 = .ok (.iconst 0, 1) := by decide +kernel
theorem dM_look_2 : decode cM_look 2 = .ok (.putfield 67, 3) := by decide +kernel
theorem dM_look_5 : decode cM_look 5 = .ok (.iload_n 1, 1) := by decide +kernel
theorem dM_look_6 : decode cM_look 6 = .ok (.ifCond .lt 27, 3) := by decide +kernel
theorem dM_look_9 : decode cM_look 9 = .ok (.iload_n 1, 1) := by decide +kernel
theorem dM_look_10 : decode cM_look 10 = .ok (.bipush 12, 2) := by decide +kernel
theorem dM_look_12 : decode cM_look 12 = .ok (.if_icmp .ge 21, 3) := by decide +kernel
theorem dM_look_15 : decode cM_look 15 = .ok (.aload_n 0, 1) := by decide +kernel
theorem dM_look_16 : decode cM_look 16 = .ok (.getfield 42, 3) := by decide +kernel
theorem dM_look_19 : decode cM_look 19 = .ok (.iload_n 1, 1) := by decide +kernel
theorem dM_look_20 : decode cM_look 20 = .ok (.iaload, 1) := by decide +kernel
theorem dM_look_21 : decode cM_look 21 = .ok (.ifCond .lt 12, 3) := by decide +kernel
theorem dM_look_24 : decode cM_look 24 = .ok (.iload_n 2, 1) := by decide +kernel
theorem dM_look_25 : decode cM_look 25 = .ok (.ifCond .lt 8, 3) := by decide +kernel
theorem dM_look_28 : decode cM_look 28 = .ok (.iload_n 2, 1) := by decide +kernel
theorem dM_look_29 : decode cM_look 29 = .ok (.iconst 4, 1) := by decide +kernel
theorem dM_look_30 : decode cM_look 30 = .ok (.if_icmp .le 5, 3) := by decide +kernel
theorem dM_look_33 : decode cM_look 33 = .ok (.iconst (-1), 1) := by decide +kernel
theorem dM_look_34 : decode cM_look 34 = .ok (.ireturn, 1) := by decide +kernel
theorem dM_look_35 : decode cM_look 35 = .ok (.iload_n 2, 1) := by decide +kernel
theorem dM_look_36 : decode cM_look 36 = .ok (.ifCond .ne 12, 3) := by decide +kernel
theorem dM_look_39 : decode cM_look 39 = .ok (.aload_n 0, 1) := by decide +kernel
theorem dM_look_40 : decode cM_look 40 = .ok (.getfield 42, 3) := by decide +kernel
theorem dM_look_43 : decode cM_look 43 = .ok (.iload_n 1, 1) := by decide +kernel
theorem dM_look_44 : decode cM_look 44 = .ok (.iaload, 1) := by decide +kernel
theorem dM_look_45 : decode cM_look 45 = .ok (.goto 58, 3) := by decide +kernel
theorem dM_look_48 : decode cM_look 48 = .ok (.iload_n 2, 1) := by decide +kernel
theorem dM_look_49 : decode cM_look 49 = .ok (.iconst 1, 1) := by decide +kernel
theorem dM_look_50 : decode cM_look 50 = .ok (.if_icmp .ne 12, 3) := by decide +kernel
theorem dM_look_53 : decode cM_look 53 = .ok (.aload_n 0, 1) := by decide +kernel
theorem dM_look_54 : decode cM_look 54 = .ok (.getfield 45, 3) := by decide +kernel
theorem dM_look_57 : decode cM_look 57 = .ok (.iload_n 1, 1) := by decide +kernel
theorem dM_look_58 : decode cM_look 58 = .ok (.iaload, 1) := by decide +kernel
theorem dM_look_59 : decode cM_look 59 = .ok (.goto 44, 3) := by decide +kernel
theorem dM_look_62 : decode cM_look 62 = .ok (.iload_n 2, 1) := by decide +kernel
theorem dM_look_63 : decode cM_look 63 = .ok (.iconst 2, 1) := by decide +kernel
theorem dM_look_64 : decode cM_look 64 = .ok (.if_icmp .ne 12, 3) := by decide +kernel
theorem dM_look_67 : decode cM_look 67 = .ok (.aload_n 0, 1) := by decide +kernel
theorem dM_look_68 : decode cM_look 68 = .ok (.getfield 48, 3) := by decide +kernel
theorem dM_look_71 : decode cM_look 71 = .ok (.iload_n 1, 1) := by decide +kernel
theorem dM_look_72 : decode cM_look 72 = .ok (.iaload, 1) := by decide +kernel
theorem dM_look_73 : decode cM_look 73 = .ok (.goto 30, 3) := by decide +kernel
theorem dM_look_76 : decode cM_look 76 = .ok (.iload_n 2, 1) := by decide +kernel
theorem dM_look_77 : decode cM_look 77 = .ok (.iconst 3, 1) := by decide +kernel
theorem dM_look_78 : decode cM_look 78 = .ok (.if_icmp .ne 20, 3) := by decide +kernel
theorem dM_look_81 : decode cM_look 81 = .ok (.aload_n 0, 1) := by decide +kernel
theorem dM_look_82 : decode cM_look 82 = .ok (.getfield 51, 3) := by decide +kernel
theorem dM_look_85 : decode cM_look 85 = .ok (.iload_n 1, 1) := by decide +kernel
theorem dM_look_86 : decode cM_look 86 = .ok (.baload, 1) := by decide +kernel
theorem dM_look_87 : decode cM_look 87 = .ok (.ifCond .eq 7, 3) := by decide +kernel
theorem dM_look_90 : decode cM_look 90 = .ok (.iconst 1, 1) := by decide +kernel
theorem dM_look_91 : decode cM_look 91 = .ok (.goto 12, 3) := by decide +kernel
theorem dM_look_94 : decode cM_look 94 = .ok (.iconst 0, 1) := by decide +kernel
theorem dM_look_95 : decode cM_look 95 = .ok (.goto 8, 3) := by decide +kernel
theorem dM_look_98 : decode cM_look 98 = .ok (.aload_n 0, 1) := by decide +kernel
theorem dM_look_99 : decode cM_look 99 = .ok (.iload_n 1, 1) := by decide +kernel
theorem dM_look_100 : decode cM_look 100 = .ok (.invokevirtual 83, 3) := by decide +kernel
theorem dM_look_103 : decode cM_look 103 = .ok (.ireturn, 1) := by decide +kernel
theorem dM_count_0 : decode cM_count 0 = .ok (.aload_n 0, 1) := by decide +kernel
theorem dM_count_1 : decode cM_count 1 = .ok (.iconst 0, 1) := by decide +kernel
theorem dM_count_2 : decode cM_count 2 = .ok (.putfield 67, 3) := by decide +kernel
theorem dM_count_5 : decode cM_count 5 = .ok (.iconst 0, 1) := by decide +kernel
theorem dM_count_6 : decode cM_count 6 = .ok (.istore_n 2, 1) := by decide +kernel
theorem dM_count_7 : decode cM_count 7 = .ok (.iconst 0, 1) := by decide +kernel
theorem dM_count_8 : decode cM_count 8 = .ok (.istore_n 3, 1) := by decide +kernel
theorem dM_count_9 : decode cM_count 9 = .ok (.iload_n 3, 1) := by decide +kernel
theorem dM_count_10 : decode cM_count 10 = .ok (.bipush 12, 2) := by decide +kernel
theorem dM_count_12 : decode cM_count 12 = .ok (.if_icmp .ge 26, 3) := by decide +kernel
theorem dM_count_15 : decode cM_count 15 = .ok (.aload_n 0, 1) := by decide +kernel
theorem dM_count_16 : decode cM_count 16 = .ok (.getfield 42, 3) := by decide +kernel
theorem dM_count_19 : decode cM_count 19 = .ok (.iload_n 3, 1) := by decide +kernel
theorem dM_count_20 : decode cM_count 20 = .ok (.iaload, 1) := by decide +kernel
theorem dM_count_21 : decode cM_count 21 = .ok (.ifCond .lt 9, 3) := by decide +kernel
theorem dM_count_24 : decode cM_count 24 = .ok (.iload_n 2, 1) := by decide +kernel
theorem dM_count_25 : decode cM_count 25 = .ok (.iconst 1, 1) := by decide +kernel
theorem dM_count_26 : decode cM_count 26 = .ok (.iadd, 1) := by decide +kernel
theorem dM_count_27 : decode cM_count 27 = .ok (.goto 4, 3) := by decide +kernel
theorem dM_count_30 : decode cM_count 30 = .ok (.iload_n 2, 1) := by decide +kernel
theorem dM_count_31 : decode cM_count 31 = .ok (.istore_n 2, 1) := by decide +kernel
theorem dM_count_32 : decode cM_count 32 = .ok (.iinc 3 1, 3) := by decide +kernel
theorem dM_count_35 : decode cM_count 35 = .ok (.goto (-26), 3) := by decide +kernel
theorem dM_count_38 : decode cM_count 38 = .ok (.iload_n 1, 1) := by decide +kernel
theorem dM_count_39 : decode cM_count 39 = .ok (.ifCond .ne 10, 3) := by decide +kernel
theorem dM_count_42 : decode cM_count 42 = .ok (.aload_n 0, 1) := by decide +kernel
theorem dM_count_43 : decode cM_count 43 = .ok (.getfield 70, 3) := by decide +kernel
theorem dM_count_46 : decode cM_count 46 = .ok (.goto 61, 3) := by decide +kernel
theorem dM_count_49 : decode cM_count 49 = .ok (.iload_n 1, 1) := by decide +kernel
theorem dM_count_50 : decode cM_count 50 = .ok (.iconst 1, 1) := by decide +kernel
theorem dM_count_51 : decode cM_count 51 = .ok (.if_icmp .ne 10, 3) := by decide +kernel
theorem dM_count_54 : decode cM_count 54 = .ok (.aload_n 0, 1) := by decide +kernel
theorem dM_count_55 : decode cM_count 55 = .ok (.getfield 128, 3) := by decide +kernel
theorem dM_count_58 : decode cM_count 58 = .ok (.goto 49, 3) := by decide +kernel
theorem dM_count_61 : decode cM_count 61 = .ok (.iload_n 1, 1) := by decide +kernel
theorem dM_count_62 : decode cM_count 62 = .ok (.iconst 2, 1) := by decide +kernel
theorem dM_count_63 : decode cM_count 63 = .ok (.if_icmp .ne 10, 3) := by decide +kernel
theorem dM_count_66 : decode cM_count 66 = .ok (.aload_n 0, 1) := by decide +kernel
theorem dM_count_67 : decode cM_count 67 = .ok (.getfield 108, 3) := by decide +kernel
theorem dM_count_70 : decode cM_count 70 = .ok (.goto 37, 3) := by decide +kernel
theorem dM_count_73 : decode cM_count 73 = .ok (.iload_n 1, 1) := by decide +kernel
theorem dM_count_74 : decode cM_count 74 = .ok (.iconst 3, 1) := by decide +kernel
theorem dM_count_75 : decode cM_count 75 = .ok (.if_icmp .ne 10, 3) := by decide +kernel
theorem dM_count_78 : decode cM_count 78 = .ok (.aload_n 0, 1) := by decide +kernel
theorem dM_count_79 : decode cM_count 79 = .ok (.getfield 98, 3) := by decide +kernel
theorem dM_count_82 : decode cM_count 82 = .ok (.goto 25, 3) := by decide +kernel
theorem dM_count_85 : decode cM_count 85 = .ok (.iload_n 1, 1) := by decide +kernel
theorem dM_count_86 : decode cM_count 86 = .ok (.iconst 4, 1) := by decide +kernel
theorem dM_count_87 : decode cM_count 87 = .ok (.if_icmp .ne 10, 3) := by decide +kernel
theorem dM_count_90 : decode cM_count 90 = .ok (.aload_n 0, 1) := by decide +kernel
theorem dM_count_91 : decode cM_count 91 = .ok (.getfield 101, 3) := by decide +kernel
theorem dM_count_94 : decode cM_count 94 = .ok (.goto 13, 3) := by decide +kernel
theorem dM_count_97 : decode cM_count 97 = .ok (.iload_n 1, 1) := by decide +kernel
theorem dM_count_98 : decode cM_count 98 = .ok (.iconst 5, 1) := by decide +kernel
theorem dM_count_99 : decode cM_count 99 = .ok (.if_icmp .ne 7, 3) := by decide +kernel
theorem dM_count_102 : decode cM_count 102 = .ok (.iload_n 2, 1) := by decide +kernel
theorem dM_count_103 : decode cM_count 103 = .ok (.goto 4, 3) := by decide +kernel
theorem dM_count_106 : decode cM_count 106 = .ok (.iconst (-1), 1) := by decide +kernel
theorem dM_count_107 : decode cM_count 107 = .ok (.ireturn, 1) := by decide +kernel
