theorem dB_init_0 : decode cB_init 0 = .ok (.aload_n 0, 1) := by decide +kernel
theorem dB_init_1 : decode cB_init 1 = .ok (.invokespecial 3, 3) := by decide +kernel
theorem dB_init_4 : decode cB_init 4 = .ok (.aload_n 0, 1) := by decide +kernel
theorem dB_init_5 : decode cB_init 5 = .ok (.new 9, 3) := by decide +kernel
theorem dB_init_8 : decode cB_init 8 = .ok (.dup, 1) := by decide +kernel
theorem dB_init_9 : decode cB_init 9 = .ok (.invokespecial 11, 3) := by decide +kernel
theorem dB_init_12 : decode cB_init 12 = .ok (.putfield 12, 3) := by decide +kernel
theorem dB_init_15 : decode cB_init 15 = .ok (.aload_n 0, 1) := by decide +kernel
theorem dB_init_16 : decode cB_init 16 = .ok (.new 16, 3) := by decide +kernel
theorem dB_init_19 : decode cB_init 19 = .ok (.dup, 1) := by decide +kernel
theorem dB_init_20 : decode cB_init 20 = .ok (.invokespecial 18, 3) := by decide +kernel
theorem dB_init_23 : decode cB_init 23 = .ok (.putfield 19, 3) := by decide +kernel
theorem dB_init_26 : decode cB_init 26 = .ok (.aload_n 0, 1) := by decide +kernel
theorem dB_init_27 : decode cB_init 27 = .ok (.bipush 12, 2) := by decide +kernel
theorem dB_init_29 : decode cB_init 29 = .ok (.anewarray 23, 3) := by decide +kernel
theorem dB_init_32 : decode cB_init 32 = .ok (.putfield 25, 3) := by decide +kernel
theorem dB_init_35 : decode cB_init 35 = .ok (.iconst 0, 1) := by decide +kernel
theorem dB_init_36 : decode cB_init 36 = .ok (.istore_n 1, 1) := by decide +kernel
theorem dB_init_37 : decode cB_init 37 = .ok (.iload_n 1, 1) := by decide +kernel
theorem dB_init_38 : decode cB_init 38 = .ok (.bipush 12, 2) := by decide +kernel
theorem dB_init_40 : decode cB_init 40 = .ok (.if_icmp .ge 22, 3) := by decide +kernel
theorem dB_init_43 : decode cB_init 43 = .ok (.aload_n 0, 1) := by decide +kernel
theorem dB_init_44 : decode cB_init 44 = .ok (.getfield 25, 3) := by decide +kernel
theorem dB_init_47 : decode cB_init 47 = .ok (.iload_n 1, 1) := by decide +kernel
theorem dB_init_48 : decode cB_init 48 = .ok (.new 23, 3) := by decide +kernel
theorem dB_init_51 : decode cB_init 51 = .ok (.dup, 1) := by decide +kernel
theorem dB_init_52 : decode cB_init 52 = .ok (.invokespecial 29, 3) := by decide +kernel
theorem dB_init_55 : decode cB_init 55 = .ok (.aastore, 1) := by decide +kernel
theorem dB_init_56 : decode cB_init 56 = .ok (.iinc 1 1, 3) := by decide +kernel
theorem dB_init_59 : decode cB_init 59 = .ok (.goto (-22), 3) := by decide +kernel
theorem dB_init_62 : decode cB_init 62 = .ok (.aload_n 0, 1) := by decide +kernel
theorem dB_init_63 : decode cB_init 63 = .ok (.iconst 0, 1) := by decide +kernel
theorem dB_init_64 : decode cB_init 64 = .ok (.putfield 30, 3) := by decide +kernel
theorem dB_init_67 : decode cB_init 67 = .ok (.return_, 1) := by decide +kernel
theorem dB_pin_0 : decode cB_pin 0 = .ok (.iload_n 1, 1) := by decide +kernel
theorem dB_pin_1 : decode cB_pin 1 = .ok (.invokestatic 34, 3) := by decide +kernel
theorem dB_pin_4 : decode cB_pin 4 = .ok (.ifCond .ne 13, 3) := by decide +kernel
theorem dB_pin_7 : decode cB_pin 7 = .ok (.new 38, 3) := by decide +kernel
theorem dB_pin_10 : decode cB_pin 10 = .ok (.dup, 1) := by decide +kernel
theorem dB_pin_11 : decode cB_pin 11 = .ok (.ldc 40, 2) := by decide +kernel
theorem dB_pin_13 : decode cB_pin 13 = .ok (.invokespecial 42, 3) := by decide +kernel
theorem dB_pin_16 : decode cB_pin 16 = .ok (.athrow, 1) := by decide +kernel
theorem dB_pin_17 : decode cB_pin 17 = .ok (.aload_n 0, 1) := by decide +kernel
theorem dB_pin_18 : decode cB_pin 18 = .ok (.iload_n 1, 1) := by decide +kernel
theorem dB_pin_19 : decode cB_pin 19 = .ok (.invokevirtual 45, 3) := by decide +kernel
theorem dB_pin_22 : decode cB_pin 22 = .ok (.istore_n 2, 1) := by decide +kernel
theorem dB_pin_23 : decode cB_pin 23 = .ok (.iload_n 2, 1) := by decide +kernel
theorem dB_pin_24 : decode cB_pin 24 = .ok (.iconst (-1), 1) := by decide +kernel
theorem dB_pin_25 : decode cB_pin 25 = .ok (.if_icmp .eq 14, 3) := by decide +kernel
theorem dB_pin_28 : decode cB_pin 28 = .ok (.aload_n 0, 1) := by decide +kernel
theorem dB_pin_29 : decode cB_pin 29 = .ok (.getfield 25, 3) := by decide +kernel
theorem dB_pin_32 : decode cB_pin 32 = .ok (.iload_n 2, 1) := by decide +kernel
theorem dB_pin_33 : decode cB_pin 33 = .ok (.aaload, 1) := by decide +kernel
theorem dB_pin_34 : decode cB_pin 34 = .ok (.invokevirtual 49, 3) := by decide +kernel
theorem dB_pin_37 : decode cB_pin 37 = .ok (.iload_n 2, 1) := by decide +kernel
theorem dB_pin_38 : decode cB_pin 38 = .ok (.ireturn, 1) := by decide +kernel
theorem dB_pin_39 : decode cB_pin 39 = .ok (.aload_n 0, 1) := by decide +kernel
theorem dB_pin_40 : decode cB_pin 40 = .ok (.invokevirtual 52, 3) := by decide +kernel
theorem dB_pin_43 : decode cB_pin 43 = .ok (.ifCond .eq 13, 3) := by decide +kernel
theorem dB_pin_46 : decode cB_pin 46 = .ok (.new 56, 3) := by decide +kernel
theorem dB_pin_49 : decode cB_pin 49 = .ok (.dup, 1) := by decide +kernel
theorem dB_pin_50 : decode cB_pin 50 = .ok (.ldc 58, 2) := by decide +kernel
theorem dB_pin_52 : decode cB_pin 52 = .ok (.invokespecial 60, 3) := by decide +kernel
theorem dB_pin_55 : decode cB_pin 55 = .ok (.athrow, 1) := by decide +kernel
theorem dB_pin_56 : decode cB_pin 56 = .ok (.aload_n 0, 1) := by decide +kernel
theorem dB_pin_57 : decode cB_pin 57 = .ok (.getfield 12, 3) := by decide +kernel
theorem dB_pin_60 : decode cB_pin 60 = .ok (.iload_n 1, 1) := by decide +kernel
theorem dB_pin_61 : decode cB_pin 61 = .ok (.invokevirtual 61, 3) := by decide +kernel
theorem dB_pin_64 : decode cB_pin 64 = .ok (.ifCond .eq 13, 3) := by decide +kernel
theorem dB_pin_67 : decode cB_pin 67 = .ok (.new 64, 3) := by decide +kernel
theorem dB_pin_70 : decode cB_pin 70 = .ok (.dup, 1) := by decide +kernel
theorem dB_pin_71 : decode cB_pin 71 = .ok (.ldc 66, 2) := by decide +kernel
theorem dB_pin_73 : decode cB_pin 73 = .ok (.invokespecial 68, 3) := by decide +kernel
theorem dB_pin_76 : decode cB_pin 76 = .ok (.athrow, 1) := by decide +kernel
theorem dB_pin_77 : decode cB_pin 77 = .ok (.aload_n 0, 1) := by decide +kernel
theorem dB_pin_78 : decode cB_pin 78 = .ok (.invokevirtual 69, 3) := by decide +kernel
theorem dB_pin_81 : decode cB_pin 81 = .ok (.istore_n 3, 1) := by decide +kernel
theorem dB_pin_82 : decode cB_pin 82 = .ok (.aload_n 0, 1) := by decide +kernel
theorem dB_pin_83 : decode cB_pin 83 = .ok (.getfield 25, 3) := by decide +kernel
theorem dB_pin_86 : decode cB_pin 86 = .ok (.iload_n 3, 1) := by decide +kernel
theorem dB_pin_87 : decode cB_pin 87 = .ok (.aaload, 1) := by decide +kernel
theorem dB_pin_88 : decode cB_pin 88 = .ok (.iload_n 1, 1) := by decide +kernel
theorem dB_pin_89 : decode cB_pin 89 = .ok (.invokevirtual 73, 3) := by decide +kernel
theorem dB_pin_92 : decode cB_pin 92 = .ok (.aload_n 0, 1) := by decide +kernel
theorem dB_pin_93 : decode cB_pin 93 = .ok (.getfield 12, 3) := by decide +kernel
theorem dB_pin_96 : decode cB_pin 96 = .ok (.iload_n 1, 1) := by decide +kernel
theorem dB_pin_97 : decode cB_pin 97 = .ok (.aload_n 0, 1) := by decide +kernel
theorem dB_pin_98 : decode cB_pin 98 = .ok (.getfield 25, 3) := by decide +kernel
theorem dB_pin_101 : decode cB_pin 101 = .ok (.iload_n 3, 1) := by decide +kernel
theorem dB_pin_102 : decode cB_pin 102 = .ok (.aaload, 1) := by decide +kernel
theorem dB_pin_103 : decode cB_pin 103 = .ok (.getfield 77, 3) := by decide +kernel
theorem dB_pin_106 : decode cB_pin 106 = .ok (.invokevirtual 81, 3) := by decide +kernel
theorem dB_pin_109 : decode cB_pin 109 = .ok (.iload_n 3, 1) := by decide +kernel
theorem dB_pin_110 : decode cB_pin 110 = .ok (.ireturn, 1) := by decide +kernel
theorem dB_remake_0 : decode cB_remake 0 = .ok (.iload_n 1, 1) := by decide +kernel
theorem dB_remake_1 : decode cB_remake 1 = .ok (.invokestatic 34, 3) := by decide +kernel
theorem dB_remake_4 : decode cB_remake 4 = .ok (.ifCond .ne 13, 3) := by decide +kernel
theorem dB_remake_7 : decode cB_remake 7 = .ok (.new 38, 3) := by decide +kernel
theorem dB_remake_10 : decode cB_remake 10 = .ok (.dup, 1) := by decide +kernel
theorem dB_remake_11 : decode cB_remake 11 = .ok (.ldc 40, 2) := by decide +kernel
theorem dB_remake_13 : decode cB_remake 13 = .ok (.invokespecial 42, 3) := by decide +kernel
theorem dB_remake_16 : decode cB_remake 16 = .ok (.athrow, 1) := by decide +kernel
theorem dB_remake_17 : decode cB_remake 17 = .ok (.aload_n 0, 1) := by decide +kernel
theorem dB_remake_18 : decode cB_remake 18 = .ok (.iload_n 1, 1) := by decide +kernel
theorem dB_remake_19 : decode cB_remake 19 = .ok (.invokevirtual 45, 3) := by decide +kernel
theorem dB_remake_22 : decode cB_remake 22 = .ok (.iconst (-1), 1) := by decide +kernel
theorem dB_remake_23 : decode cB_remake 23 = .ok (.if_icmp .eq 13, 3) := by decide +kernel
theorem dB_remake_26 : decode cB_remake 26 = .ok (.new 56, 3) := by decide +kernel
theorem dB_remake_29 : decode cB_remake 29 = .ok (.dup, 1) := by decide +kernel
theorem dB_remake_30 : decode cB_remake 30 = .ok (.ldc 85, 2) := by decide +kernel
theorem dB_remake_32 : decode cB_remake 32 = .ok (.invokespecial 60, 3) := by decide +kernel
theorem dB_remake_35 : decode cB_remake 35 = .ok (.athrow, 1) := by decide +kernel
theorem dB_remake_36 : decode cB_remake 36 = .ok (.aload_n 0, 1) := by decide +kernel
theorem dB_remake_37 : decode cB_remake 37 = .ok (.invokevirtual 52, 3) := by decide +kernel
theorem dB_remake_40 : decode cB_remake 40 = .ok (.ifCond .eq 13, 3) := by decide +kernel
theorem dB_remake_43 : decode cB_remake 43 = .ok (.new 56, 3) := by decide +kernel
theorem dB_remake_46 : decode cB_remake 46 = .ok (.dup, 1) := by decide +kernel
theorem dB_remake_47 : decode cB_remake 47 = .ok (.ldc 58, 2) := by decide +kernel
theorem dB_remake_49 : decode cB_remake 49 = .ok (.invokespecial 60, 3) := by decide +kernel
theorem dB_remake_52 : decode cB_remake 52 = .ok (.athrow, 1) := by decide +kernel
theorem dB_remake_53 : decode cB_remake 53 = .ok (.aload_n 0, 1) := by decide +kernel
theorem dB_remake_54 : decode cB_remake 54 = .ok (.invokevirtual 69, 3) := by decide +kernel
theorem dB_remake_57 : decode cB_remake 57 = .ok (.istore_n 2, 1) := by decide +kernel
theorem dB_remake_58 : decode cB_remake 58 = .ok (.aload_n 0, 1) := by decide +kernel
theorem dB_remake_59 : decode cB_remake 59 = .ok (.getfield 25, 3) := by decide +kernel
theorem dB_remake_62 : decode cB_remake 62 = .ok (.iload_n 2, 1) := by decide +kernel
theorem dB_remake_63 : decode cB_remake 63 = .ok (.aaload, 1) := by decide +kernel
theorem dB_remake_64 : decode cB_remake 64 = .ok (.iload_n 1, 1) := by decide +kernel
theorem dB_remake_65 : decode cB_remake 65 = .ok (.invokevirtual 73, 3) := by decide +kernel
theorem dB_remake_68 : decode cB_remake 68 = .ok (.aload_n 0, 1) := by decide +kernel
theorem dB_remake_69 : decode cB_remake 69 = .ok (.getfield 25, 3) := by decide +kernel
theorem dB_remake_72 : decode cB_remake 72 = .ok (.iload_n 2, 1) := by decide +kernel
theorem dB_remake_73 : decode cB_remake 73 = .ok (.aaload, 1) := by decide +kernel
theorem dB_remake_74 : decode cB_remake 74 = .ok (.aload_n 0, 1) := by decide +kernel
theorem dB_remake_75 : decode cB_remake 75 = .ok (.getfield 12, 3) := by decide +kernel
theorem dB_remake_78 : decode cB_remake 78 = .ok (.iload_n 1, 1) := by decide +kernel
theorem dB_remake_79 : decode cB_remake 79 = .ok (.invokevirtual 87, 3) := by decide +kernel
theorem dB_remake_82 : decode cB_remake 82 = .ok (.invokevirtual 90, 3) := by decide +kernel
theorem dB_remake_85 : decode cB_remake 85 = .ok (.iload_n 2, 1) := by decide +kernel
theorem dB_remake_86 : decode cB_remake 86 = .ok (.ireturn, 1) := by decide +kernel
theorem dB_unpin_0 : decode cB_unpin 0 = .ok (.iload_n 1, 1) := by decide +kernel
theorem dB_unpin_1 : decode cB_unpin 1 = .ok (.invokestatic 93, 3) := by decide +kernel
theorem dB_unpin_4 : decode cB_unpin 4 = .ok (.ifCond .eq 15, 3) := by decide +kernel
theorem dB_unpin_7 : decode cB_unpin 7 = .ok (.aload_n 0, 1) := by decide +kernel
theorem dB_unpin_8 : decode cB_unpin 8 = .ok (.getfield 25, 3) := by decide +kernel
theorem dB_unpin_11 : decode cB_unpin 11 = .ok (.iload_n 1, 1) := by decide +kernel
theorem dB_unpin_12 : decode cB_unpin 12 = .ok (.aaload, 1) := by decide +kernel
theorem dB_unpin_13 : decode cB_unpin 13 = .ok (.invokevirtual 96, 3) := by decide +kernel
theorem dB_unpin_16 : decode cB_unpin 16 = .ok (.ifCond .ne 5, 3) := by decide +kernel
theorem dB_unpin_19 : decode cB_unpin 19 = .ok (.iconst 0, 1) := by decide +kernel
theorem dB_unpin_20 : decode cB_unpin 20 = .ok (.ireturn, 1) := by decide +kernel
theorem dB_unpin_21 : decode cB_unpin 21 = .ok (.aload_n 0, 1) := by decide +kernel
theorem dB_unpin_22 : decode cB_unpin 22 = .ok (.getfield 25, 3) := by decide +kernel
theorem dB_unpin_25 : decode cB_unpin 25 = .ok (.iload_n 1, 1) := by decide +kernel
theorem dB_unpin_26 : decode cB_unpin 26 = .ok (.aaload, 1) := by decide +kernel
theorem dB_unpin_27 : decode cB_unpin 27 = .ok (.invokevirtual 99, 3) := by decide +kernel
theorem dB_unpin_30 : decode cB_unpin 30 = .ok (.iconst 1, 1) := by decide +kernel
theorem dB_unpin_31 : decode cB_unpin 31 = .ok (.ireturn, 1) := by decide +kernel
theorem dB_get_0 : decode cB_get 0 = .ok (.iload_n 1, 1) := by decide +kernel
theorem dB_get_1 : decode cB_get 1 = .ok (.invokestatic 93, 3) := by decide +kernel
theorem dB_get_4 : decode cB_get 4 = .ok (.ifCond .eq 22, 3) := by decide +kernel
theorem dB_get_7 : decode cB_get 7 = .ok (.iload_n 2, 1) := by decide +kernel
theorem dB_get_8 : decode cB_get 8 = .ok (.invokestatic 102, 3) := by decide +kernel
theorem dB_get_11 : decode cB_get 11 = .ok (.ifCond .eq 15, 3) := by decide +kernel
theorem dB_get_14 : decode cB_get 14 = .ok (.aload_n 0, 1) := by decide +kernel
theorem dB_get_15 : decode cB_get 15 = .ok (.getfield 25, 3) := by decide +kernel
theorem dB_get_18 : decode cB_get 18 = .ok (.iload_n 1, 1) := by decide +kernel
theorem dB_get_19 : decode cB_get 19 = .ok (.aaload, 1) := by decide +kernel
theorem dB_get_20 : decode cB_get 20 = .ok (.invokevirtual 105, 3) := by decide +kernel
theorem dB_get_23 : decode cB_get 23 = .ok (.ifCond .eq 5, 3) := by decide +kernel
theorem dB_get_26 : decode cB_get 26 = .ok (.iconst (-1), 1) := by decide +kernel
theorem dB_get_27 : decode cB_get 27 = .ok (.ireturn, 1) := by decide +kernel
theorem dB_get_28 : decode cB_get 28 = .ok (.aload_n 0, 1) := by decide +kernel
theorem dB_get_29 : decode cB_get 29 = .ok (.getfield 25, 3) := by decide +kernel
theorem dB_get_32 : decode cB_get 32 = .ok (.iload_n 1, 1) := by decide +kernel
theorem dB_get_33 : decode cB_get 33 = .ok (.aaload, 1) := by decide +kernel
theorem dB_get_34 : decode cB_get 34 = .ok (.getfield 77, 3) := by decide +kernel
theorem dB_get_37 : decode cB_get 37 = .ok (.iload_n 2, 1) := by decide +kernel
theorem dB_get_38 : decode cB_get 38 = .ok (.baload, 1) := by decide +kernel
theorem dB_get_39 : decode cB_get 39 = .ok (.sipush 255, 3) := by decide +kernel
theorem dB_get_42 : decode cB_get 42 = .ok (.iand, 1) := by decide +kernel
theorem dB_get_43 : decode cB_get 43 = .ok (.ireturn, 1) := by decide +kernel
theorem dB_set_0 : decode cB_set 0 = .ok (.iload_n 1, 1) := by decide +kernel
theorem dB_set_1 : decode cB_set 1 = .ok (.invokestatic 93, 3) := by decide +kernel
theorem dB_set_4 : decode cB_set 4 = .ok (.ifCond .eq 16, 3) := by decide +kernel
theorem dB_set_7 : decode cB_set 7 = .ok (.iload_n 2, 1) := by decide +kernel
theorem dB_set_8 : decode cB_set 8 = .ok (.bipush 6, 2) := by decide +kernel
theorem dB_set_10 : decode cB_set 10 = .ok (.if_icmp .lt 10, 3) := by decide +kernel
theorem dB_set_13 : decode cB_set 13 = .ok (.iload_n 2, 1) := by decide +kernel
theorem dB_set_14 : decode cB_set 14 = .ok (.sipush 509, 3) := by decide +kernel
theorem dB_set_17 : decode cB_set 17 = .ok (.if_icmp .le 5, 3) := by decide +kernel
theorem dB_set_20 : decode cB_set 20 = .ok (.iconst 0, 1) := by decide +kernel
theorem dB_set_21 : decode cB_set 21 = .ok (.ireturn, 1) := by decide +kernel
theorem dB_set_22 : decode cB_set 22 = .ok (.aload_n 0, 1) := by decide +kernel
theorem dB_set_23 : decode cB_set 23 = .ok (.getfield 25, 3) := by decide +kernel
theorem dB_set_26 : decode cB_set 26 = .ok (.iload_n 1, 1) := by decide +kernel
theorem dB_set_27 : decode cB_set 27 = .ok (.aaload, 1) := by decide +kernel
theorem dB_set_28 : decode cB_set 28 = .ok (.invokevirtual 96, 3) := by decide +kernel
theorem dB_set_31 : decode cB_set 31 = .ok (.ifCond .eq 17, 3) := by decide +kernel
theorem dB_set_34 : decode cB_set 34 = .ok (.iload 4, 2) := by decide +kernel
theorem dB_set_36 : decode cB_set 36 = .ok (.aload_n 0, 1) := by decide +kernel
theorem dB_set_37 : decode cB_set 37 = .ok (.getfield 25, 3) := by decide +kernel
theorem dB_set_40 : decode cB_set 40 = .ok (.iload_n 1, 1) := by decide +kernel
theorem dB_set_41 : decode cB_set 41 = .ok (.aaload, 1) := by decide +kernel
theorem dB_set_42 : decode cB_set 42 = .ok (.invokevirtual 108, 3) := by decide +kernel
theorem dB_set_45 : decode cB_set 45 = .ok (.if_icmp .ge 5, 3) := by decide +kernel
theorem dB_set_48 : decode cB_set 48 = .ok (.iconst 0, 1) := by decide +kernel
theorem dB_set_49 : decode cB_set 49 = .ok (.ireturn, 1) := by decide +kernel
theorem dB_set_50 : decode cB_set 50 = .ok (.aload_n 0, 1) := by decide +kernel
theorem dB_set_51 : decode cB_set 51 = .ok (.getfield 25, 3) := by decide +kernel
theorem dB_set_54 : decode cB_set 54 = .ok (.iload_n 1, 1) := by decide +kernel
theorem dB_set_55 : decode cB_set 55 = .ok (.aaload, 1) := by decide +kernel
theorem dB_set_56 : decode cB_set 56 = .ok (.iload_n 2, 1) := by decide +kernel
theorem dB_set_57 : decode cB_set 57 = .ok (.iload_n 3, 1) := by decide +kernel
theorem dB_set_58 : decode cB_set 58 = .ok (.iload 4, 2) := by decide +kernel
theorem dB_set_60 : decode cB_set 60 = .ok (.invokevirtual 111, 3) := by decide +kernel
theorem dB_set_63 : decode cB_set 63 = .ok (.iconst 1, 1) := by decide +kernel
theorem dB_set_64 : decode cB_set 64 = .ok (.ireturn, 1) := by decide +kernel
theorem dB_clean_0 : decode cB_clean 0 = .ok (.iload_n 1, 1) := by decide +kernel
theorem dB_clean_1 : decode cB_clean 1 = .ok (.iconst 1, 1) := by decide +kernel
theorem dB_clean_2 : decode cB_clean 2 = .ok (.if_icmp .lt 9, 3) := by decide +kernel
theorem dB_clean_5 : decode cB_clean 5 = .ok (.iload_n 1, 1) := by decide +kernel
theorem dB_clean_6 : decode cB_clean 6 = .ok (.bipush 12, 2) := by decide +kernel
theorem dB_clean_8 : decode cB_clean 8 = .ok (.if_icmp .le 13, 3) := by decide +kernel
theorem dB_clean_11 : decode cB_clean 11 = .ok (.new 38, 3) := by decide +kernel
theorem dB_clean_14 : decode cB_clean 14 = .ok (.dup, 1) := by decide +kernel
theorem dB_clean_15 : decode cB_clean 15 = .ok (.ldc 115, 2) := by decide +kernel
theorem dB_clean_17 : decode cB_clean 17 = .ok (.invokespecial 42, 3) := by decide +kernel
theorem dB_clean_20 : decode cB_clean 20 = .ok (.athrow, 1) := by decide +kernel
theorem dB_clean_21 : decode cB_clean 21 = .ok (.iconst 0, 1) := by decide +kernel
theorem dB_clean_22 : decode cB_clean 22 = .ok (.istore_n 2, 1) := by decide +kernel
theorem dB_clean_23 : decode cB_clean 23 = .ok (.aload_n 0, 1) := by decide +kernel
theorem dB_clean_24 : decode cB_clean 24 = .ok (.getfield 30, 3) := by decide +kernel
theorem dB_clean_27 : decode cB_clean 27 = .ok (.istore_n 3, 1) := by decide +kernel
theorem dB_clean_28 : decode cB_clean 28 = .ok (.iconst 0, 1) := by decide +kernel
theorem dB_clean_29 : decode cB_clean 29 = .ok (.istore 4, 2) := by decide +kernel
theorem dB_clean_31 : decode cB_clean 31 = .ok (.iload 4, 2) := by decide +kernel
theorem dB_clean_33 : decode cB_clean 33 = .ok (.bipush 12, 2) := by decide +kernel
theorem dB_clean_35 : decode cB_clean 35 = .ok (.if_icmp .ge 56, 3) := by decide +kernel
theorem dB_clean_38 : decode cB_clean 38 = .ok (.iload_n 2, 1) := by decide +kernel
theorem dB_clean_39 : decode cB_clean 39 = .ok (.iload_n 1, 1) := by decide +kernel
theorem dB_clean_40 : decode cB_clean 40 = .ok (.if_icmp .ge 51, 3) := by decide +kernel
theorem dB_clean_43 : decode cB_clean 43 = .ok (.aload_n 0, 1) := by decide +kernel
theorem dB_clean_44 : decode cB_clean 44 = .ok (.getfield 25, 3) := by decide +kernel
theorem dB_clean_47 : decode cB_clean 47 = .ok (.iload_n 3, 1) := by decide +kernel
theorem dB_clean_48 : decode cB_clean 48 = .ok (.aaload, 1) := by decide +kernel
theorem dB_clean_49 : decode cB_clean 49 = .ok (.getfield 117, 3) := by decide +kernel
theorem dB_clean_52 : decode cB_clean 52 = .ok (.ifCond .eq 28, 3) := by decide +kernel
theorem dB_clean_55 : decode cB_clean 55 = .ok (.aload_n 0, 1) := by decide +kernel
theorem dB_clean_56 : decode cB_clean 56 = .ok (.getfield 25, 3) := by decide +kernel
theorem dB_clean_59 : decode cB_clean 59 = .ok (.iload_n 3, 1) := by decide +kernel
theorem dB_clean_60 : decode cB_clean 60 = .ok (.aaload, 1) := by decide +kernel
theorem dB_clean_61 : decode cB_clean 61 = .ok (.invokevirtual 96, 3) := by decide +kernel
theorem dB_clean_64 : decode cB_clean 64 = .ok (.ifCond .ne 16, 3) := by decide +kernel
theorem dB_clean_67 : decode cB_clean 67 = .ok (.aload_n 0, 1) := by decide +kernel
theorem dB_clean_68 : decode cB_clean 68 = .ok (.aload_n 0, 1) := by decide +kernel
theorem dB_clean_69 : decode cB_clean 69 = .ok (.getfield 25, 3) := by decide +kernel
theorem dB_clean_72 : decode cB_clean 72 = .ok (.iload_n 3, 1) := by decide +kernel
theorem dB_clean_73 : decode cB_clean 73 = .ok (.aaload, 1) := by decide +kernel
theorem dB_clean_74 : decode cB_clean 74 = .ok (.invokevirtual 121, 3) := by decide +kernel
theorem dB_clean_77 : decode cB_clean 77 = .ok (.iinc 2 1, 3) := by decide +kernel
theorem dB_clean_80 : decode cB_clean 80 = .ok (.iload_n 3, 1) := by decide +kernel
theorem dB_clean_81 : decode cB_clean 81 = .ok (.invokestatic 125, 3) := by decide +kernel
theorem dB_clean_84 : decode cB_clean 84 = .ok (.istore_n 3, 1) := by decide +kernel
theorem dB_clean_85 : decode cB_clean 85 = .ok (.iinc 4 1, 3) := by decide +kernel
theorem dB_clean_88 : decode cB_clean 88 = .ok (.goto (-57), 3) := by decide +kernel
theorem dB_clean_91 : decode cB_clean 91 = .ok (.iload_n 2, 1) := by decide +kernel
theorem dB_clean_92 : decode cB_clean 92 = .ok (.ireturn, 1) := by decide +kernel
theorem dB_sweep_0 : decode cB_sweep 0 = .ok (.iconst 0, 1) := by decide +kernel
theorem dB_sweep_1 : decode cB_sweep 1 = .ok (.istore_n 1, 1) := by decide +kernel
theorem dB_sweep_2 : decode cB_sweep 2 = .ok (.aload_n 0, 1) := by decide +kernel
theorem dB_sweep_3 : decode cB_sweep 3 = .ok (.invokevirtual 128, 3) := by decide +kernel
theorem dB_sweep_6 : decode cB_sweep 6 = .ok (.istore_n 2, 1) := by decide +kernel
theorem dB_sweep_7 : decode cB_sweep 7 = .ok (.iload_n 2, 1) := by decide +kernel
theorem dB_sweep_8 : decode cB_sweep 8 = .ok (.iconst (-1), 1) := by decide +kernel
theorem dB_sweep_9 : decode cB_sweep 9 = .ok (.if_icmp .eq 30, 3) := by decide +kernel
theorem dB_sweep_12 : decode cB_sweep 12 = .ok (.iload_n 1, 1) := by decide +kernel
theorem dB_sweep_13 : decode cB_sweep 13 = .ok (.bipush 12, 2) := by decide +kernel
theorem dB_sweep_15 : decode cB_sweep 15 = .ok (.if_icmp .ge 24, 3) := by decide +kernel
theorem dB_sweep_18 : decode cB_sweep 18 = .ok (.aload_n 0, 1) := by decide +kernel
theorem dB_sweep_19 : decode cB_sweep 19 = .ok (.aload_n 0, 1) := by decide +kernel
theorem dB_sweep_20 : decode cB_sweep 20 = .ok (.getfield 25, 3) := by decide +kernel
theorem dB_sweep_23 : decode cB_sweep 23 = .ok (.iload_n 2, 1) := by decide +kernel
theorem dB_sweep_24 : decode cB_sweep 24 = .ok (.aaload, 1) := by decide +kernel
theorem dB_sweep_25 : decode cB_sweep 25 = .ok (.invokevirtual 121, 3) := by decide +kernel
theorem dB_sweep_28 : decode cB_sweep 28 = .ok (.iinc 1 1, 3) := by decide +kernel
theorem dB_sweep_31 : decode cB_sweep 31 = .ok (.aload_n 0, 1) := by decide +kernel
theorem dB_sweep_32 : decode cB_sweep 32 = .ok (.invokevirtual 128, 3) := by decide +kernel
theorem dB_sweep_35 : decode cB_sweep 35 = .ok (.istore_n 2, 1) := by decide +kernel
theorem dB_sweep_36 : decode cB_sweep 36 = .ok (.goto (-29), 3) := by decide +kernel
theorem dB_sweep_39 : decode cB_sweep 39 = .ok (.iload_n 1, 1) := by decide +kernel
theorem dB_sweep_40 : decode cB_sweep 40 = .ok (.ireturn, 1) := by decide +kernel
theorem dB_charge_0 : decode cB_charge 0 = .ok (.iload_n 1, 1) := by decide +kernel
theorem dB_charge_1 : decode cB_charge 1 = .ok (.ifCond .lt 10, 3) := by decide +kernel
theorem dB_charge_4 : decode cB_charge 4 = .ok (.iload_n 1, 1) := by decide +kernel
theorem dB_charge_5 : decode cB_charge 5 = .ok (.sipush 999, 3) := by decide +kernel
theorem dB_charge_8 : decode cB_charge 8 = .ok (.if_icmp .le 13, 3) := by decide +kernel
theorem dB_charge_11 : decode cB_charge 11 = .ok (.new 38, 3) := by decide +kernel
theorem dB_charge_14 : decode cB_charge 14 = .ok (.dup, 1) := by decide +kernel
theorem dB_charge_15 : decode cB_charge 15 = .ok (.ldc 131, 2) := by decide +kernel
theorem dB_charge_17 : decode cB_charge 17 = .ok (.invokespecial 42, 3) := by decide +kernel
theorem dB_charge_20 : decode cB_charge 20 = .ok (.athrow, 1) := by decide +kernel
theorem dB_charge_21 : decode cB_charge 21 = .ok (.aload_n 0, 1) := by decide +kernel
theorem dB_charge_22 : decode cB_charge 22 = .ok (.getfield 12, 3) := by decide +kernel
theorem dB_charge_25 : decode cB_charge 25 = .ok (.iload_n 1, 1) := by decide +kernel
theorem dB_charge_26 : decode cB_charge 26 = .ok (.putfield 133, 3) := by decide +kernel
theorem dB_charge_29 : decode cB_charge 29 = .ok (.return_, 1) := by decide +kernel
theorem dB_flushed_0 : decode cB_flushed 0 = .ok (.aload_n 0, 1) := by decide +kernel
theorem dB_flushed_1 : decode cB_flushed 1 = .ok (.getfield 19, 3) := by decide +kernel
theorem dB_flushed_4 : decode cB_flushed 4 = .ok (.iload_n 1, 1) := by decide +kernel
theorem dB_flushed_5 : decode cB_flushed 5 = .ok (.invokevirtual 136, 3) := by decide +kernel
theorem dB_flushed_8 : decode cB_flushed 8 = .ok (.ireturn, 1) := by decide +kernel
theorem dB_look_0 : decode cB_look 0 = .ok (.iload_n 1, 1) := by decide +kernel
theorem dB_look_1 : decode cB_look 1 = .ok (.invokestatic 93, 3) := by decide +kernel
theorem dB_look_4 : decode cB_look 4 = .ok (.ifCond .eq 15, 3) := by decide +kernel
theorem dB_look_7 : decode cB_look 7 = .ok (.aload_n 0, 1) := by decide +kernel
theorem dB_look_8 : decode cB_look 8 = .ok (.getfield 25, 3) := by decide +kernel
theorem dB_look_11 : decode cB_look 11 = .ok (.iload_n 1, 1) := by decide +kernel
theorem dB_look_12 : decode cB_look 12 = .ok (.aaload, 1) := by decide +kernel
theorem dB_look_13 : decode cB_look 13 = .ok (.invokevirtual 105, 3) := by decide +kernel
theorem dB_look_16 : decode cB_look 16 = .ok (.ifCond .eq 5, 3) := by decide +kernel
theorem dB_look_19 : decode cB_look 19 = .ok (.iconst (-1), 1) := by decide +kernel
theorem dB_look_20 : decode cB_look 20 = .ok (.ireturn, 1) := by decide +kernel
theorem dB_look_21 : decode cB_look 21 = .ok (.iload_n 2, 1) := by decide +kernel
theorem dB_look_22 : decode cB_look 22 = .ok (.tableswitch 92 0 4 #[34, 44, 54, 64, 82], 34) := by decide +kernel
theorem dB_look_56 : decode cB_look 56 = .ok (.aload_n 0, 1) := by decide +kernel
theorem dB_look_57 : decode cB_look 57 = .ok (.getfield 25, 3) := by decide +kernel
theorem dB_look_60 : decode cB_look 60 = .ok (.iload_n 1, 1) := by decide +kernel
theorem dB_look_61 : decode cB_look 61 = .ok (.aaload, 1) := by decide +kernel
theorem dB_look_62 : decode cB_look 62 = .ok (.getfield 139, 3) := by decide +kernel
theorem dB_look_65 : decode cB_look 65 = .ok (.ireturn, 1) := by decide +kernel
theorem dB_look_66 : decode cB_look 66 = .ok (.aload_n 0, 1) := by decide +kernel
theorem dB_look_67 : decode cB_look 67 = .ok (.getfield 25, 3) := by decide +kernel
theorem dB_look_70 : decode cB_look 70 = .ok (.iload_n 1, 1) := by decide +kernel
theorem dB_look_71 : decode cB_look 71 = .ok (.aaload, 1) := by decide +kernel
theorem dB_look_72 : decode cB_look 72 = .ok (.getfield 142, 3) := by decide +kernel
theorem dB_look_75 : decode cB_look 75 = .ok (.ireturn, 1) := by decide +kernel
theorem dB_look_76 : decode cB_look 76 = .ok (.aload_n 0, 1) := by decide +kernel
theorem dB_look_77 : decode cB_look 77 = .ok (.getfield 25, 3) := by decide +kernel
theorem dB_look_80 : decode cB_look 80 = .ok (.iload_n 1, 1) := by decide +kernel
theorem dB_look_81 : decode cB_look 81 = .ok (.aaload, 1) := by decide +kernel
theorem dB_look_82 : decode cB_look 82 = .ok (.getfield 145, 3) := by decide +kernel
theorem dB_look_85 : decode cB_look 85 = .ok (.ireturn, 1) := by decide +kernel
theorem dB_look_86 : decode cB_look 86 = .ok (.aload_n 0, 1) := by decide +kernel
theorem dB_look_87 : decode cB_look 87 = .ok (.getfield 25, 3) := by decide +kernel
theorem dB_look_90 : decode cB_look 90 = .ok (.iload_n 1, 1) := by decide +kernel
theorem dB_look_91 : decode cB_look 91 = .ok (.aaload, 1) := by decide +kernel
theorem dB_look_92 : decode cB_look 92 = .ok (.getfield 117, 3) := by decide +kernel
theorem dB_look_95 : decode cB_look 95 = .ok (.ifCond .eq 7, 3) := by decide +kernel
theorem dB_look_98 : decode cB_look 98 = .ok (.iconst 1, 1) := by decide +kernel
theorem dB_look_99 : decode cB_look 99 = .ok (.goto 4, 3) := by decide +kernel
theorem dB_look_102 : decode cB_look 102 = .ok (.iconst 0, 1) := by decide +kernel
theorem dB_look_103 : decode cB_look 103 = .ok (.ireturn, 1) := by decide +kernel
theorem dB_look_104 : decode cB_look 104 = .ok (.aload_n 0, 1) := by decide +kernel
theorem dB_look_105 : decode cB_look 105 = .ok (.getfield 25, 3) := by decide +kernel
theorem dB_look_108 : decode cB_look 108 = .ok (.iload_n 1, 1) := by decide +kernel
theorem dB_look_109 : decode cB_look 109 = .ok (.aaload, 1) := by decide +kernel
theorem dB_look_110 : decode cB_look 110 = .ok (.invokevirtual 108, 3) := by decide +kernel
theorem dB_look_113 : decode cB_look 113 = .ok (.ireturn, 1) := by decide +kernel
theorem dB_look_114 : decode cB_look 114 = .ok (.iconst (-1), 1) := by decide +kernel
theorem dB_look_115 : decode cB_look 115 = .ok (.ireturn, 1) := by decide +kernel
theorem dB_disk_0 : decode cB_disk 0 = .ok (.iload_n 1, 1) := by decide +kernel
theorem dB_disk_1 : decode cB_disk 1 = .ok (.invokestatic 34, 3) := by decide +kernel
theorem dB_disk_4 : decode cB_disk 4 = .ok (.ifCond .eq 10, 3) := by decide +kernel
theorem dB_disk_7 : decode cB_disk 7 = .ok (.iload_n 2, 1) := by decide +kernel
theorem dB_disk_8 : decode cB_disk 8 = .ok (.invokestatic 102, 3) := by decide +kernel
theorem dB_disk_11 : decode cB_disk 11 = .ok (.ifCond .ne 5, 3) := by decide +kernel
theorem dB_disk_14 : decode cB_disk 14 = .ok (.iconst (-1), 1) := by decide +kernel
theorem dB_disk_15 : decode cB_disk 15 = .ok (.ireturn, 1) := by decide +kernel
theorem dB_disk_16 : decode cB_disk 16 = .ok (.aload_n 0, 1) := by decide +kernel
theorem dB_disk_17 : decode cB_disk 17 = .ok (.getfield 12, 3) := by decide +kernel
theorem dB_disk_20 : decode cB_disk 20 = .ok (.iload_n 1, 1) := by decide +kernel
theorem dB_disk_21 : decode cB_disk 21 = .ok (.iload_n 2, 1) := by decide +kernel
theorem dB_disk_22 : decode cB_disk 22 = .ok (.invokevirtual 148, 3) := by decide +kernel
theorem dB_disk_25 : decode cB_disk 25 = .ok (.ireturn, 1) := by decide +kernel
theorem dB_torn_0 : decode cB_torn 0 = .ok (.iload_n 1, 1) := by decide +kernel
theorem dB_torn_1 : decode cB_torn 1 = .ok (.invokestatic 34, 3) := by decide +kernel
theorem dB_torn_4 : decode cB_torn 4 = .ok (.ifCond .eq 18, 3) := by decide +kernel
theorem dB_torn_7 : decode cB_torn 7 = .ok (.aload_n 0, 1) := by decide +kernel
theorem dB_torn_8 : decode cB_torn 8 = .ok (.getfield 12, 3) := by decide +kernel
theorem dB_torn_11 : decode cB_torn 11 = .ok (.iload_n 1, 1) := by decide +kernel
theorem dB_torn_12 : decode cB_torn 12 = .ok (.invokevirtual 61, 3) := by decide +kernel
theorem dB_torn_15 : decode cB_torn 15 = .ok (.ifCond .eq 7, 3) := by decide +kernel
theorem dB_torn_18 : decode cB_torn 18 = .ok (.iconst 1, 1) := by decide +kernel
theorem dB_torn_19 : decode cB_torn 19 = .ok (.goto 4, 3) := by decide +kernel
theorem dB_torn_22 : decode cB_torn 22 = .ok (.iconst 0, 1) := by decide +kernel
theorem dB_torn_23 : decode cB_torn 23 = .ok (.ireturn, 1) := by decide +kernel
theorem dB_count_0 : decode cB_count 0 = .ok (.iload_n 1, 1) := by decide +kernel
theorem dB_count_1 : decode cB_count 1 = .ok (.tableswitch 81 0 5 #[39, 44, 52, 60, 68, 76], 39) := by decide +kernel
theorem dB_count_40 : decode cB_count 40 = .ok (.aload_n 0, 1) := by decide +kernel
theorem dB_count_41 : decode cB_count 41 = .ok (.getfield 30, 3) := by decide +kernel
theorem dB_count_44 : decode cB_count 44 = .ok (.ireturn, 1) := by decide +kernel
theorem dB_count_45 : decode cB_count 45 = .ok (.aload_n 0, 1) := by decide +kernel
theorem dB_count_46 : decode cB_count 46 = .ok (.getfield 12, 3) := by decide +kernel
theorem dB_count_49 : decode cB_count 49 = .ok (.getfield 152, 3) := by decide +kernel
theorem dB_count_52 : decode cB_count 52 = .ok (.ireturn, 1) := by decide +kernel
theorem dB_count_53 : decode cB_count 53 = .ok (.aload_n 0, 1) := by decide +kernel
theorem dB_count_54 : decode cB_count 54 = .ok (.getfield 12, 3) := by decide +kernel
theorem dB_count_57 : decode cB_count 57 = .ok (.getfield 155, 3) := by decide +kernel
theorem dB_count_60 : decode cB_count 60 = .ok (.ireturn, 1) := by decide +kernel
theorem dB_count_61 : decode cB_count 61 = .ok (.aload_n 0, 1) := by decide +kernel
theorem dB_count_62 : decode cB_count 62 = .ok (.getfield 19, 3) := by decide +kernel
theorem dB_count_65 : decode cB_count 65 = .ok (.getfield 158, 3) := by decide +kernel
theorem dB_count_68 : decode cB_count 68 = .ok (.ireturn, 1) := by decide +kernel
theorem dB_count_69 : decode cB_count 69 = .ok (.aload_n 0, 1) := by decide +kernel
theorem dB_count_70 : decode cB_count 70 = .ok (.getfield 19, 3) := by decide +kernel
theorem dB_count_73 : decode cB_count 73 = .ok (.getfield 161, 3) := by decide +kernel
theorem dB_count_76 : decode cB_count 76 = .ok (.ireturn, 1) := by decide +kernel
theorem dB_count_77 : decode cB_count 77 = .ok (.aload_n 0, 1) := by decide +kernel
theorem dB_count_78 : decode cB_count 78 = .ok (.invokevirtual 164, 3) := by decide +kernel
theorem dB_count_81 : decode cB_count 81 = .ok (.ireturn, 1) := by decide +kernel
theorem dB_count_82 : decode cB_count 82 = .ok (.iconst (-1), 1) := by decide +kernel
theorem dB_count_83 : decode cB_count 83 = .ok (.ireturn, 1) := by decide +kernel
theorem dB_isPage_0 : decode cB_isPage 0 = .ok (.iload_n 0, 1) := by decide +kernel
theorem dB_isPage_1 : decode cB_isPage 1 = .ok (.ifCond .lt 14, 3) := by decide +kernel
theorem dB_isPage_4 : decode cB_isPage 4 = .ok (.iload_n 0, 1) := by decide +kernel
theorem dB_isPage_5 : decode cB_isPage 5 = .ok (.sipush 192, 3) := by decide +kernel
theorem dB_isPage_8 : decode cB_isPage 8 = .ok (.if_icmp .ge 7, 3) := by decide +kernel
theorem dB_isPage_11 : decode cB_isPage 11 = .ok (.iconst 1, 1) := by decide +kernel
theorem dB_isPage_12 : decode cB_isPage 12 = .ok (.goto 4, 3) := by decide +kernel
theorem dB_isPage_15 : decode cB_isPage 15 = .ok (.iconst 0, 1) := by decide +kernel
theorem dB_isPage_16 : decode cB_isPage 16 = .ok (.ireturn, 1) := by decide +kernel
theorem dB_isFrame_0 : decode cB_isFrame 0 = .ok (.iload_n 0, 1) := by decide +kernel
theorem dB_isFrame_1 : decode cB_isFrame 1 = .ok (.ifCond .lt 13, 3) := by decide +kernel
theorem dB_isFrame_4 : decode cB_isFrame 4 = .ok (.iload_n 0, 1) := by decide +kernel
theorem dB_isFrame_5 : decode cB_isFrame 5 = .ok (.bipush 12, 2) := by decide +kernel
theorem dB_isFrame_7 : decode cB_isFrame 7 = .ok (.if_icmp .ge 7, 3) := by decide +kernel
theorem dB_isFrame_10 : decode cB_isFrame 10 = .ok (.iconst 1, 1) := by decide +kernel
theorem dB_isFrame_11 : decode cB_isFrame 11 = .ok (.goto 4, 3) := by decide +kernel
theorem dB_isFrame_14 : decode cB_isFrame 14 = .ok (.iconst 0, 1) := by decide +kernel
theorem dB_isFrame_15 : decode cB_isFrame 15 = .ok (.ireturn, 1) := by decide +kernel
theorem dB_isByte_0 : decode cB_isByte 0 = .ok (.iload_n 0, 1) := by decide +kernel
theorem dB_isByte_1 : decode cB_isByte 1 = .ok (.ifCond .lt 14, 3) := by decide +kernel
theorem dB_isByte_4 : decode cB_isByte 4 = .ok (.iload_n 0, 1) := by decide +kernel
theorem dB_isByte_5 : decode cB_isByte 5 = .ok (.sipush 512, 3) := by decide +kernel
theorem dB_isByte_8 : decode cB_isByte 8 = .ok (.if_icmp .ge 7, 3) := by decide +kernel
theorem dB_isByte_11 : decode cB_isByte 11 = .ok (.iconst 1, 1) := by decide +kernel
theorem dB_isByte_12 : decode cB_isByte 12 = .ok (.goto 4, 3) := by decide +kernel
theorem dB_isByte_15 : decode cB_isByte 15 = .ok (.iconst 0, 1) := by decide +kernel
theorem dB_isByte_16 : decode cB_isByte 16 = .ok (.ireturn, 1) := by decide +kernel
theorem dB_frameBehind_0 : decode cB_frameBehind 0 = .ok (.iload_n 0, 1) := by decide +kernel
theorem dB_frameBehind_1 : decode cB_frameBehind 1 = .ok (.iconst 1, 1) := by decide +kernel
theorem dB_frameBehind_2 : decode cB_frameBehind 2 = .ok (.iadd, 1) := by decide +kernel
theorem dB_frameBehind_3 : decode cB_frameBehind 3 = .ok (.bipush 12, 2) := by decide +kernel
theorem dB_frameBehind_5 : decode cB_frameBehind 5 = .ok (.if_icmp .ge 9, 3) := by decide +kernel
theorem dB_frameBehind_8 : decode cB_frameBehind 8 = .ok (.iload_n 0, 1) := by decide +kernel
theorem dB_frameBehind_9 : decode cB_frameBehind 9 = .ok (.iconst 1, 1) := by decide +kernel
theorem dB_frameBehind_10 : decode cB_frameBehind 10 = .ok (.iadd, 1) := by decide +kernel
theorem dB_frameBehind_11 : decode cB_frameBehind 11 = .ok (.goto 4, 3) := by decide +kernel
theorem dB_frameBehind_14 : decode cB_frameBehind 14 = .ok (.iconst 0, 1) := by decide +kernel
theorem dB_frameBehind_15 : decode cB_frameBehind 15 = .ok (.ireturn, 1) := by decide +kernel
theorem dB_twoBytes_0 : decode cB_twoBytes 0 = .ok (.aload_n 0, 1) := by decide +kernel
theorem dB_twoBytes_1 : decode cB_twoBytes 1 = .ok (.iload_n 1, 1) := by decide +kernel
theorem dB_twoBytes_2 : decode cB_twoBytes 2 = .ok (.baload, 1) := by decide +kernel
theorem dB_twoBytes_3 : decode cB_twoBytes 3 = .ok (.sipush 255, 3) := by decide +kernel
theorem dB_twoBytes_6 : decode cB_twoBytes 6 = .ok (.iand, 1) := by decide +kernel
theorem dB_twoBytes_7 : decode cB_twoBytes 7 = .ok (.bipush 8, 2) := by decide +kernel
theorem dB_twoBytes_9 : decode cB_twoBytes 9 = .ok (.ishl, 1) := by decide +kernel
theorem dB_twoBytes_10 : decode cB_twoBytes 10 = .ok (.aload_n 0, 1) := by decide +kernel
theorem dB_twoBytes_11 : decode cB_twoBytes 11 = .ok (.iload_n 1, 1) := by decide +kernel
theorem dB_twoBytes_12 : decode cB_twoBytes 12 = .ok (.iconst 1, 1) := by decide +kernel
theorem dB_twoBytes_13 : decode cB_twoBytes 13 = .ok (.iadd, 1) := by decide +kernel
theorem dB_twoBytes_14 : decode cB_twoBytes 14 = .ok (.baload, 1) := by decide +kernel
theorem dB_twoBytes_15 : decode cB_twoBytes 15 = .ok (.sipush 255, 3) := by decide +kernel
theorem dB_twoBytes_18 : decode cB_twoBytes 18 = .ok (.iand, 1) := by decide +kernel
theorem dB_twoBytes_19 : decode cB_twoBytes 19 = .ok (.ior, 1) := by decide +kernel
theorem dB_twoBytes_20 : decode cB_twoBytes 20 = .ok (.ireturn, 1) := by decide +kernel
theorem dB_frameWith_0 : decode cB_frameWith 0 = .ok (.iconst 0, 1) := by decide +kernel
theorem dB_frameWith_1 : decode cB_frameWith 1 = .ok (.istore_n 2, 1) := by decide +kernel
theorem dB_frameWith_2 : decode cB_frameWith 2 = .ok (.iload_n 2, 1) := by decide +kernel
theorem dB_frameWith_3 : decode cB_frameWith 3 = .ok (.bipush 12, 2) := by decide +kernel
theorem dB_frameWith_5 : decode cB_frameWith 5 = .ok (.if_icmp .ge 24, 3) := by decide +kernel
theorem dB_frameWith_8 : decode cB_frameWith 8 = .ok (.aload_n 0, 1) := by decide +kernel
theorem dB_frameWith_9 : decode cB_frameWith 9 = .ok (.getfield 25, 3) := by decide +kernel
theorem dB_frameWith_12 : decode cB_frameWith 12 = .ok (.iload_n 2, 1) := by decide +kernel
theorem dB_frameWith_13 : decode cB_frameWith 13 = .ok (.aaload, 1) := by decide +kernel
theorem dB_frameWith_14 : decode cB_frameWith 14 = .ok (.getfield 139, 3) := by decide +kernel
theorem dB_frameWith_17 : decode cB_frameWith 17 = .ok (.iload_n 1, 1) := by decide +kernel
theorem dB_frameWith_18 : decode cB_frameWith 18 = .ok (.if_icmp .ne 5, 3) := by decide +kernel
theorem dB_frameWith_21 : decode cB_frameWith 21 = .ok (.iload_n 2, 1) := by decide +kernel
theorem dB_frameWith_22 : decode cB_frameWith 22 = .ok (.ireturn, 1) := by decide +kernel
theorem dB_frameWith_23 : decode cB_frameWith 23 = .ok (.iinc 2 1, 3) := by decide +kernel
theorem dB_frameWith_26 : decode cB_frameWith 26 = .ok (.goto (-24), 3) := by decide +kernel
theorem dB_frameWith_29 : decode cB_frameWith 29 = .ok (.iconst (-1), 1) := by decide +kernel
theorem dB_frameWith_30 : decode cB_frameWith 30 = .ok (.ireturn, 1) := by decide +kernel
theorem dB_allHavePins_0 : decode cB_allHavePins 0 = .ok (.iconst 0, 1) := by decide +kernel
theorem dB_allHavePins_1 : decode cB_allHavePins 1 = .ok (.istore_n 1, 1) := by decide +kernel
theorem dB_allHavePins_2 : decode cB_allHavePins 2 = .ok (.iload_n 1, 1) := by decide +kernel
theorem dB_allHavePins_3 : decode cB_allHavePins 3 = .ok (.bipush 12, 2) := by decide +kernel
theorem dB_allHavePins_5 : decode cB_allHavePins 5 = .ok (.if_icmp .ge 23, 3) := by decide +kernel
theorem dB_allHavePins_8 : decode cB_allHavePins 8 = .ok (.aload_n 0, 1) := by decide +kernel
theorem dB_allHavePins_9 : decode cB_allHavePins 9 = .ok (.getfield 25, 3) := by decide +kernel
theorem dB_allHavePins_12 : decode cB_allHavePins 12 = .ok (.iload_n 1, 1) := by decide +kernel
theorem dB_allHavePins_13 : decode cB_allHavePins 13 = .ok (.aaload, 1) := by decide +kernel
theorem dB_allHavePins_14 : decode cB_allHavePins 14 = .ok (.invokevirtual 96, 3) := by decide +kernel
theorem dB_allHavePins_17 : decode cB_allHavePins 17 = .ok (.ifCond .ne 5, 3) := by decide +kernel
theorem dB_allHavePins_20 : decode cB_allHavePins 20 = .ok (.iconst 0, 1) := by decide +kernel
theorem dB_allHavePins_21 : decode cB_allHavePins 21 = .ok (.ireturn, 1) := by decide +kernel
theorem dB_allHavePins_22 : decode cB_allHavePins 22 = .ok (.iinc 1 1, 3) := by decide +kernel
theorem dB_allHavePins_25 : decode cB_allHavePins 25 = .ok (.goto (-23), 3) := by decide +kernel
theorem dB_allHavePins_28 : decode cB_allHavePins 28 = .ok (.iconst 1, 1) := by decide +kernel
theorem dB_allHavePins_29 : decode cB_allHavePins 29 = .ok (.ireturn, 1) := by decide +kernel
theorem dB_framesWithPages_0 : decode cB_framesWithPages 0 = .ok (.iconst 0, 1) := by decide +kernel
theorem dB_framesWithPages_1 : decode cB_framesWithPages 1 = .ok (.istore_n 1, 1) := by decide +kernel
theorem dB_framesWithPages_2 : decode cB_framesWithPages 2 = .ok (.iconst 0, 1) := by decide +kernel
theorem dB_framesWithPages_3 : decode cB_framesWithPages 3 = .ok (.istore_n 2, 1) := by decide +kernel
theorem dB_framesWithPages_4 : decode cB_framesWithPages 4 = .ok (.iload_n 2, 1) := by decide +kernel
theorem dB_framesWithPages_5 : decode cB_framesWithPages 5 = .ok (.bipush 12, 2) := by decide +kernel
theorem dB_framesWithPages_7 : decode cB_framesWithPages 7 = .ok (.if_icmp .ge 24, 3) := by decide +kernel
theorem dB_framesWithPages_10 : decode cB_framesWithPages 10 = .ok (.aload_n 0, 1) := by decide +kernel
theorem dB_framesWithPages_11 : decode cB_framesWithPages 11 = .ok (.getfield 25, 3) := by decide +kernel
theorem dB_framesWithPages_14 : decode cB_framesWithPages 14 = .ok (.iload_n 2, 1) := by decide +kernel
theorem dB_framesWithPages_15 : decode cB_framesWithPages 15 = .ok (.aaload, 1) := by decide +kernel
theorem dB_framesWithPages_16 : decode cB_framesWithPages 16 = .ok (.invokevirtual 105, 3) := by decide +kernel
theorem dB_framesWithPages_19 : decode cB_framesWithPages 19 = .ok (.ifCond .ne 6, 3) := by decide +kernel
theorem dB_framesWithPages_22 : decode cB_framesWithPages 22 = .ok (.iinc 1 1, 3) := by decide +kernel
theorem dB_framesWithPages_25 : decode cB_framesWithPages 25 = .ok (.iinc 2 1, 3) := by decide +kernel
theorem dB_framesWithPages_28 : decode cB_framesWithPages 28 = .ok (.goto (-24), 3) := by decide +kernel
theorem dB_framesWithPages_31 : decode cB_framesWithPages 31 = .ok (.iload_n 1, 1) := by decide +kernel
theorem dB_framesWithPages_32 : decode cB_framesWithPages 32 = .ok (.ireturn, 1) := by decide +kernel
theorem dB_dirtyFrameOfLowestPage_0 : decode cB_dirtyFrameOfLowestPage 0 = .ok (.iconst (-1), 1) := by decide +kernel
theorem dB_dirtyFrameOfLowestPage_1 : decode cB_dirtyFrameOfLowestPage 1 = .ok (.istore_n 1, 1) := by decide +kernel
theorem dB_dirtyFrameOfLowestPage_2 : decode cB_dirtyFrameOfLowestPage 2 = .ok (.iconst 0, 1) := by decide +kernel
theorem dB_dirtyFrameOfLowestPage_3 : decode cB_dirtyFrameOfLowestPage 3 = .ok (.istore_n 2, 1) := by decide +kernel
theorem dB_dirtyFrameOfLowestPage_4 : decode cB_dirtyFrameOfLowestPage 4 = .ok (.iload_n 2, 1) := by decide +kernel
theorem dB_dirtyFrameOfLowestPage_5 : decode cB_dirtyFrameOfLowestPage 5 = .ok (.bipush 12, 2) := by decide +kernel
theorem dB_dirtyFrameOfLowestPage_7 : decode cB_dirtyFrameOfLowestPage 7 = .ok (.if_icmp .ge 49, 3) := by decide +kernel
theorem dB_dirtyFrameOfLowestPage_10 : decode cB_dirtyFrameOfLowestPage 10 = .ok (.aload_n 0, 1) := by decide +kernel
theorem dB_dirtyFrameOfLowestPage_11 : decode cB_dirtyFrameOfLowestPage 11 = .ok (.getfield 25, 3) := by decide +kernel
theorem dB_dirtyFrameOfLowestPage_14 : decode cB_dirtyFrameOfLowestPage 14 = .ok (.iload_n 2, 1) := by decide +kernel
theorem dB_dirtyFrameOfLowestPage_15 : decode cB_dirtyFrameOfLowestPage 15 = .ok (.aaload, 1) := by decide +kernel
theorem dB_dirtyFrameOfLowestPage_16 : decode cB_dirtyFrameOfLowestPage 16 = .ok (.getfield 117, 3) := by decide +kernel
theorem dB_dirtyFrameOfLowestPage_19 : decode cB_dirtyFrameOfLowestPage 19 = .ok (.ifCond .eq 31, 3) := by decide +kernel
theorem dB_dirtyFrameOfLowestPage_22 : decode cB_dirtyFrameOfLowestPage 22 = .ok (.iload_n 1, 1) := by decide +kernel
theorem dB_dirtyFrameOfLowestPage_23 : decode cB_dirtyFrameOfLowestPage 23 = .ok (.iconst (-1), 1) := by decide +kernel
theorem dB_dirtyFrameOfLowestPage_24 : decode cB_dirtyFrameOfLowestPage 24 = .ok (.if_icmp .eq 24, 3) := by decide +kernel
theorem dB_dirtyFrameOfLowestPage_27 : decode cB_dirtyFrameOfLowestPage 27 = .ok (.aload_n 0, 1) := by decide +kernel
theorem dB_dirtyFrameOfLowestPage_28 : decode cB_dirtyFrameOfLowestPage 28 = .ok (.getfield 25, 3) := by decide +kernel
theorem dB_dirtyFrameOfLowestPage_31 : decode cB_dirtyFrameOfLowestPage 31 = .ok (.iload_n 2, 1) := by decide +kernel
theorem dB_dirtyFrameOfLowestPage_32 : decode cB_dirtyFrameOfLowestPage 32 = .ok (.aaload, 1) := by decide +kernel
theorem dB_dirtyFrameOfLowestPage_33 : decode cB_dirtyFrameOfLowestPage 33 = .ok (.getfield 139, 3) := by decide +kernel
theorem dB_dirtyFrameOfLowestPage_36 : decode cB_dirtyFrameOfLowestPage 36 = .ok (.aload_n 0, 1) := by decide +kernel
theorem dB_dirtyFrameOfLowestPage_37 : decode cB_dirtyFrameOfLowestPage 37 = .ok (.getfield 25, 3) := by decide +kernel
theorem dB_dirtyFrameOfLowestPage_40 : decode cB_dirtyFrameOfLowestPage 40 = .ok (.iload_n 1, 1) := by decide +kernel
theorem dB_dirtyFrameOfLowestPage_41 : decode cB_dirtyFrameOfLowestPage 41 = .ok (.aaload, 1) := by decide +kernel
theorem dB_dirtyFrameOfLowestPage_42 : decode cB_dirtyFrameOfLowestPage 42 = .ok (.getfield 139, 3) := by decide +kernel
theorem dB_dirtyFrameOfLowestPage_45 : decode cB_dirtyFrameOfLowestPage 45 = .ok (.if_icmp .ge 5, 3) := by decide +kernel
theorem dB_dirtyFrameOfLowestPage_48 : decode cB_dirtyFrameOfLowestPage 48 = .ok (.iload_n 2, 1) := by decide +kernel
theorem dB_dirtyFrameOfLowestPage_49 : decode cB_dirtyFrameOfLowestPage 49 = .ok (.istore_n 1, 1) := by decide +kernel
theorem dB_dirtyFrameOfLowestPage_50 : decode cB_dirtyFrameOfLowestPage 50 = .ok (.iinc 2 1, 3) := by decide +kernel
theorem dB_dirtyFrameOfLowestPage_53 : decode cB_dirtyFrameOfLowestPage 53 = .ok (.goto (-49), 3) := by decide +kernel
theorem dB_dirtyFrameOfLowestPage_56 : decode cB_dirtyFrameOfLowestPage 56 = .ok (.iload_n 1, 1) := by decide +kernel
theorem dB_dirtyFrameOfLowestPage_57 : decode cB_dirtyFrameOfLowestPage 57 = .ok (.ireturn, 1) := by decide +kernel
theorem dB_findFrame_0 : decode cB_findFrame 0 = .ok (.aload_n 0, 1) := by decide +kernel
theorem dB_findFrame_1 : decode cB_findFrame 1 = .ok (.iconst (-1), 1) := by decide +kernel
theorem dB_findFrame_2 : decode cB_findFrame 2 = .ok (.invokevirtual 45, 3) := by decide +kernel
theorem dB_findFrame_5 : decode cB_findFrame 5 = .ok (.istore_n 1, 1) := by decide +kernel
theorem dB_findFrame_6 : decode cB_findFrame 6 = .ok (.iload_n 1, 1) := by decide +kernel
theorem dB_findFrame_7 : decode cB_findFrame 7 = .ok (.iconst (-1), 1) := by decide +kernel
theorem dB_findFrame_8 : decode cB_findFrame 8 = .ok (.if_icmp .eq 5, 3) := by decide +kernel
theorem dB_findFrame_11 : decode cB_findFrame 11 = .ok (.iload_n 1, 1) := by decide +kernel
theorem dB_findFrame_12 : decode cB_findFrame 12 = .ok (.ireturn, 1) := by decide +kernel
theorem dB_findFrame_13 : decode cB_findFrame 13 = .ok (.aload_n 0, 1) := by decide +kernel
theorem dB_findFrame_14 : decode cB_findFrame 14 = .ok (.invokevirtual 167, 3) := by decide +kernel
theorem dB_findFrame_17 : decode cB_findFrame 17 = .ok (.istore_n 1, 1) := by decide +kernel
theorem dB_findFrame_18 : decode cB_findFrame 18 = .ok (.aload_n 0, 1) := by decide +kernel
theorem dB_findFrame_19 : decode cB_findFrame 19 = .ok (.getfield 25, 3) := by decide +kernel
theorem dB_findFrame_22 : decode cB_findFrame 22 = .ok (.iload_n 1, 1) := by decide +kernel
theorem dB_findFrame_23 : decode cB_findFrame 23 = .ok (.aaload, 1) := by decide +kernel
theorem dB_findFrame_24 : decode cB_findFrame 24 = .ok (.getfield 117, 3) := by decide +kernel
theorem dB_findFrame_27 : decode cB_findFrame 27 = .ok (.ifCond .eq 13, 3) := by decide +kernel
theorem dB_findFrame_30 : decode cB_findFrame 30 = .ok (.aload_n 0, 1) := by decide +kernel
theorem dB_findFrame_31 : decode cB_findFrame 31 = .ok (.aload_n 0, 1) := by decide +kernel
theorem dB_findFrame_32 : decode cB_findFrame 32 = .ok (.getfield 25, 3) := by decide +kernel
theorem dB_findFrame_35 : decode cB_findFrame 35 = .ok (.iload_n 1, 1) := by decide +kernel
theorem dB_findFrame_36 : decode cB_findFrame 36 = .ok (.aaload, 1) := by decide +kernel
theorem dB_findFrame_37 : decode cB_findFrame 37 = .ok (.invokevirtual 121, 3) := by decide +kernel
theorem dB_findFrame_40 : decode cB_findFrame 40 = .ok (.iload_n 1, 1) := by decide +kernel
theorem dB_findFrame_41 : decode cB_findFrame 41 = .ok (.ireturn, 1) := by decide +kernel
theorem dB_frameByHand_0 : decode cB_frameByHand 0 = .ok (.iconst 0, 1) := by decide +kernel
theorem dB_frameByHand_1 : decode cB_frameByHand 1 = .ok (.istore_n 1, 1) := by decide +kernel
theorem dB_frameByHand_2 : decode cB_frameByHand 2 = .ok (.iload_n 1, 1) := by decide +kernel
theorem dB_frameByHand_3 : decode cB_frameByHand 3 = .ok (.bipush 48, 2) := by decide +kernel
theorem dB_frameByHand_5 : decode cB_frameByHand 5 = .ok (.if_icmp .ge 47, 3) := by decide +kernel
theorem dB_frameByHand_8 : decode cB_frameByHand 8 = .ok (.aload_n 0, 1) := by decide +kernel
theorem dB_frameByHand_9 : decode cB_frameByHand 9 = .ok (.getfield 25, 3) := by decide +kernel
theorem dB_frameByHand_12 : decode cB_frameByHand 12 = .ok (.aload_n 0, 1) := by decide +kernel
theorem dB_frameByHand_13 : decode cB_frameByHand 13 = .ok (.getfield 30, 3) := by decide +kernel
theorem dB_frameByHand_16 : decode cB_frameByHand 16 = .ok (.aaload, 1) := by decide +kernel
theorem dB_frameByHand_17 : decode cB_frameByHand 17 = .ok (.invokevirtual 170, 3) := by decide +kernel
theorem dB_frameByHand_20 : decode cB_frameByHand 20 = .ok (.ifCond .ne 32, 3) := by decide +kernel
theorem dB_frameByHand_23 : decode cB_frameByHand 23 = .ok (.aload_n 0, 1) := by decide +kernel
theorem dB_frameByHand_24 : decode cB_frameByHand 24 = .ok (.getfield 25, 3) := by decide +kernel
theorem dB_frameByHand_27 : decode cB_frameByHand 27 = .ok (.aload_n 0, 1) := by decide +kernel
theorem dB_frameByHand_28 : decode cB_frameByHand 28 = .ok (.getfield 30, 3) := by decide +kernel
theorem dB_frameByHand_31 : decode cB_frameByHand 31 = .ok (.aaload, 1) := by decide +kernel
theorem dB_frameByHand_32 : decode cB_frameByHand 32 = .ok (.invokevirtual 173, 3) := by decide +kernel
theorem dB_frameByHand_35 : decode cB_frameByHand 35 = .ok (.aload_n 0, 1) := by decide +kernel
theorem dB_frameByHand_36 : decode cB_frameByHand 36 = .ok (.aload_n 0, 1) := by decide +kernel
theorem dB_frameByHand_37 : decode cB_frameByHand 37 = .ok (.getfield 30, 3) := by decide +kernel
theorem dB_frameByHand_40 : decode cB_frameByHand 40 = .ok (.invokestatic 125, 3) := by decide +kernel
theorem dB_frameByHand_43 : decode cB_frameByHand 43 = .ok (.putfield 30, 3) := by decide +kernel
theorem dB_frameByHand_46 : decode cB_frameByHand 46 = .ok (.iinc 1 1, 3) := by decide +kernel
theorem dB_frameByHand_49 : decode cB_frameByHand 49 = .ok (.goto (-47), 3) := by decide +kernel
theorem dB_frameByHand_52 : decode cB_frameByHand 52 = .ok (.aload_n 0, 1) := by decide +kernel
theorem dB_frameByHand_53 : decode cB_frameByHand 53 = .ok (.getfield 30, 3) := by decide +kernel
theorem dB_frameByHand_56 : decode cB_frameByHand 56 = .ok (.istore_n 1, 1) := by decide +kernel
theorem dB_frameByHand_57 : decode cB_frameByHand 57 = .ok (.aload_n 0, 1) := by decide +kernel
theorem dB_frameByHand_58 : decode cB_frameByHand 58 = .ok (.iload_n 1, 1) := by decide +kernel
theorem dB_frameByHand_59 : decode cB_frameByHand 59 = .ok (.invokestatic 125, 3) := by decide +kernel
theorem dB_frameByHand_62 : decode cB_frameByHand 62 = .ok (.putfield 30, 3) := by decide +kernel
theorem dB_frameByHand_65 : decode cB_frameByHand 65 = .ok (.iload_n 1, 1) := by decide +kernel
theorem dB_frameByHand_66 : decode cB_frameByHand 66 = .ok (.ireturn, 1) := by decide +kernel
theorem dB_writePageOf_0 : decode cB_writePageOf 0 = .ok (.aload_n 0, 1) := by decide +kernel
theorem dB_writePageOf_1 : decode cB_writePageOf 1 = .ok (.getfield 19, 3) := by decide +kernel
theorem dB_writePageOf_4 : decode cB_writePageOf 4 = .ok (.aload_n 1, 1) := by decide +kernel
theorem dB_writePageOf_5 : decode cB_writePageOf 5 = .ok (.invokevirtual 108, 3) := by decide +kernel
theorem dB_writePageOf_8 : decode cB_writePageOf 8 = .ok (.invokevirtual 176, 3) := by decide +kernel
theorem dB_writePageOf_11 : decode cB_writePageOf 11 = .ok (.aload_n 1, 1) := by decide +kernel
theorem dB_writePageOf_12 : decode cB_writePageOf 12 = .ok (.invokevirtual 179, 3) := by decide +kernel
theorem dB_writePageOf_15 : decode cB_writePageOf 15 = .ok (.iconst 0, 1) := by decide +kernel
theorem dB_writePageOf_16 : decode cB_writePageOf 16 = .ok (.istore_n 2, 1) := by decide +kernel
theorem dB_writePageOf_17 : decode cB_writePageOf 17 = .ok (.iload_n 2, 1) := by decide +kernel
theorem dB_writePageOf_18 : decode cB_writePageOf 18 = .ok (.bipush 8, 2) := by decide +kernel
theorem dB_writePageOf_20 : decode cB_writePageOf 20 = .ok (.if_icmp .ge 42, 3) := by decide +kernel
theorem dB_writePageOf_23 : decode cB_writePageOf 23 = .ok (.aload_n 0, 1) := by decide +kernel
theorem dB_writePageOf_24 : decode cB_writePageOf 24 = .ok (.getfield 12, 3) := by decide +kernel
theorem dB_writePageOf_27 : decode cB_writePageOf 27 = .ok (.aload_n 1, 1) := by decide +kernel
theorem dB_writePageOf_28 : decode cB_writePageOf 28 = .ok (.getfield 139, 3) := by decide +kernel
theorem dB_writePageOf_31 : decode cB_writePageOf 31 = .ok (.iload_n 2, 1) := by decide +kernel
theorem dB_writePageOf_32 : decode cB_writePageOf 32 = .ok (.aload_n 1, 1) := by decide +kernel
theorem dB_writePageOf_33 : decode cB_writePageOf 33 = .ok (.getfield 77, 3) := by decide +kernel
theorem dB_writePageOf_36 : decode cB_writePageOf 36 = .ok (.invokevirtual 182, 3) := by decide +kernel
theorem dB_writePageOf_39 : decode cB_writePageOf 39 = .ok (.ifCond .ne 17, 3) := by decide +kernel
theorem dB_writePageOf_42 : decode cB_writePageOf 42 = .ok (.aload_n 0, 1) := by decide +kernel
theorem dB_writePageOf_43 : decode cB_writePageOf 43 = .ok (.invokevirtual 186, 3) := by decide +kernel
theorem dB_writePageOf_46 : decode cB_writePageOf 46 = .ok (.new 189, 3) := by decide +kernel
theorem dB_writePageOf_49 : decode cB_writePageOf 49 = .ok (.dup, 1) := by decide +kernel
theorem dB_writePageOf_50 : decode cB_writePageOf 50 = .ok (.ldc 191, 2) := by decide +kernel
theorem dB_writePageOf_52 : decode cB_writePageOf 52 = .ok (.invokespecial 193, 3) := by decide +kernel
theorem dB_writePageOf_55 : decode cB_writePageOf 55 = .ok (.athrow, 1) := by decide +kernel
theorem dB_writePageOf_56 : decode cB_writePageOf 56 = .ok (.iinc 2 1, 3) := by decide +kernel
theorem dB_writePageOf_59 : decode cB_writePageOf 59 = .ok (.goto (-42), 3) := by decide +kernel
theorem dB_writePageOf_62 : decode cB_writePageOf 62 = .ok (.aload_n 1, 1) := by decide +kernel
theorem dB_writePageOf_63 : decode cB_writePageOf 63 = .ok (.iconst 0, 1) := by decide +kernel
theorem dB_writePageOf_64 : decode cB_writePageOf 64 = .ok (.putfield 117, 3) := by decide +kernel
theorem dB_writePageOf_67 : decode cB_writePageOf 67 = .ok (.return_, 1) := by decide +kernel
theorem dB_losePower_0 : decode cB_losePower 0 = .ok (.iconst 0, 1) := by decide +kernel
theorem dB_losePower_1 : decode cB_losePower 1 = .ok (.istore_n 1, 1) := by decide +kernel
theorem dB_losePower_2 : decode cB_losePower 2 = .ok (.iload_n 1, 1) := by decide +kernel
theorem dB_losePower_3 : decode cB_losePower 3 = .ok (.bipush 12, 2) := by decide +kernel
theorem dB_losePower_5 : decode cB_losePower 5 = .ok (.if_icmp .ge 18, 3) := by decide +kernel
theorem dB_losePower_8 : decode cB_losePower 8 = .ok (.aload_n 0, 1) := by decide +kernel
theorem dB_losePower_9 : decode cB_losePower 9 = .ok (.getfield 25, 3) := by decide +kernel
theorem dB_losePower_12 : decode cB_losePower 12 = .ok (.iload_n 1, 1) := by decide +kernel
theorem dB_losePower_13 : decode cB_losePower 13 = .ok (.aaload, 1) := by decide +kernel
theorem dB_losePower_14 : decode cB_losePower 14 = .ok (.invokevirtual 194, 3) := by decide +kernel
theorem dB_losePower_17 : decode cB_losePower 17 = .ok (.iinc 1 1, 3) := by decide +kernel
theorem dB_losePower_20 : decode cB_losePower 20 = .ok (.goto (-18), 3) := by decide +kernel
theorem dB_losePower_23 : decode cB_losePower 23 = .ok (.aload_n 0, 1) := by decide +kernel
theorem dB_losePower_24 : decode cB_losePower 24 = .ok (.iconst 0, 1) := by decide +kernel
theorem dB_losePower_25 : decode cB_losePower 25 = .ok (.putfield 30, 3) := by decide +kernel
theorem dB_losePower_28 : decode cB_losePower 28 = .ok (.aload_n 0, 1) := by decide +kernel
theorem dB_losePower_29 : decode cB_losePower 29 = .ok (.getfield 12, 3) := by decide +kernel
theorem dB_losePower_32 : decode cB_losePower 32 = .ok (.iconst (-1), 1) := by decide +kernel
theorem dB_losePower_33 : decode cB_losePower 33 = .ok (.putfield 133, 3) := by decide +kernel
theorem dB_losePower_36 : decode cB_losePower 36 = .ok (.return_, 1) := by decide +kernel
