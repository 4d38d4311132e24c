theorem dD_init_0 : decode cD_init 0 = .ok (.aload_n 0, 1) := by decide +kernel
theorem dD_init_1 : decode cD_init 1 = .ok (.invokespecial 3, 3) := by decide +kernel
theorem dD_init_4 : decode cD_init 4 = .ok (.aload_n 0, 1) := by decide +kernel
theorem dD_init_5 : decode cD_init 5 = .ok (.ldc 9, 2) := by decide +kernel
theorem dD_init_7 : decode cD_init 7 = .ok (.newarray .byte, 2) := by decide +kernel
theorem dD_init_9 : decode cD_init 9 = .ok (.putfield 10, 3) := by decide +kernel
theorem dD_init_12 : decode cD_init 12 = .ok (.aload_n 0, 1) := by decide +kernel
theorem dD_init_13 : decode cD_init 13 = .ok (.iconst (-1), 1) := by decide +kernel
theorem dD_init_14 : decode cD_init 14 = .ok (.putfield 16, 3) := by decide +kernel
theorem dD_init_17 : decode cD_init 17 = .ok (.return_, 1) := by decide +kernel
theorem dD_byteAt_0 : decode cD_byteAt 0 = .ok (.aload_n 0, 1) := by decide +kernel
theorem dD_byteAt_1 : decode cD_byteAt 1 = .ok (.getfield 10, 3) := by decide +kernel
theorem dD_byteAt_4 : decode cD_byteAt 4 = .ok (.iload_n 1, 1) := by decide +kernel
theorem dD_byteAt_5 : decode cD_byteAt 5 = .ok (.sipush 512, 3) := by decide +kernel
theorem dD_byteAt_8 : decode cD_byteAt 8 = .ok (.imul, 1) := by decide +kernel
theorem dD_byteAt_9 : decode cD_byteAt 9 = .ok (.iload_n 2, 1) := by decide +kernel
theorem dD_byteAt_10 : decode cD_byteAt 10 = .ok (.iadd, 1) := by decide +kernel
theorem dD_byteAt_11 : decode cD_byteAt 11 = .ok (.baload, 1) := by decide +kernel
theorem dD_byteAt_12 : decode cD_byteAt 12 = .ok (.sipush 255, 3) := by decide +kernel
theorem dD_byteAt_15 : decode cD_byteAt 15 = .ok (.iand, 1) := by decide +kernel
theorem dD_byteAt_16 : decode cD_byteAt 16 = .ok (.ireturn, 1) := by decide +kernel
theorem dD_firstStamp_0 : decode cD_firstStamp 0 = .ok (.aload_n 0, 1) := by decide +kernel
theorem dD_firstStamp_1 : decode cD_firstStamp 1 = .ok (.getfield 10, 3) := by decide +kernel
theorem dD_firstStamp_4 : decode cD_firstStamp 4 = .ok (.iload_n 1, 1) := by decide +kernel
theorem dD_firstStamp_5 : decode cD_firstStamp 5 = .ok (.sipush 512, 3) := by decide +kernel
theorem dD_firstStamp_8 : decode cD_firstStamp 8 = .ok (.imul, 1) := by decide +kernel
theorem dD_firstStamp_9 : decode cD_firstStamp 9 = .ok (.iconst 0, 1) := by decide +kernel
theorem dD_firstStamp_10 : decode cD_firstStamp 10 = .ok (.iadd, 1) := by decide +kernel
theorem dD_firstStamp_11 : decode cD_firstStamp 11 = .ok (.invokestatic 20, 3) := by decide +kernel
theorem dD_firstStamp_14 : decode cD_firstStamp 14 = .ok (.ireturn, 1) := by decide +kernel
theorem dD_isTorn_0 : decode cD_isTorn 0 = .ok (.aload_n 0, 1) := by decide +kernel
theorem dD_isTorn_1 : decode cD_isTorn 1 = .ok (.iload_n 1, 1) := by decide +kernel
theorem dD_isTorn_2 : decode cD_isTorn 2 = .ok (.invokevirtual 24, 3) := by decide +kernel
theorem dD_isTorn_5 : decode cD_isTorn 5 = .ok (.aload_n 0, 1) := by decide +kernel
theorem dD_isTorn_6 : decode cD_isTorn 6 = .ok (.getfield 10, 3) := by decide +kernel
theorem dD_isTorn_9 : decode cD_isTorn 9 = .ok (.iload_n 1, 1) := by decide +kernel
theorem dD_isTorn_10 : decode cD_isTorn 10 = .ok (.sipush 512, 3) := by decide +kernel
theorem dD_isTorn_13 : decode cD_isTorn 13 = .ok (.imul, 1) := by decide +kernel
theorem dD_isTorn_14 : decode cD_isTorn 14 = .ok (.sipush 510, 3) := by decide +kernel
theorem dD_isTorn_17 : decode cD_isTorn 17 = .ok (.iadd, 1) := by decide +kernel
theorem dD_isTorn_18 : decode cD_isTorn 18 = .ok (.invokestatic 20, 3) := by decide +kernel
theorem dD_isTorn_21 : decode cD_isTorn 21 = .ok (.if_icmp .eq 7, 3) := by decide +kernel
theorem dD_isTorn_24 : decode cD_isTorn 24 = .ok (.iconst 1, 1) := by decide +kernel
theorem dD_isTorn_25 : decode cD_isTorn 25 = .ok (.goto 4, 3) := by decide +kernel
theorem dD_isTorn_28 : decode cD_isTorn 28 = .ok (.iconst 0, 1) := by decide +kernel
theorem dD_isTorn_29 : decode cD_isTorn 29 = .ok (.ireturn, 1) := by decide +kernel
theorem dD_readPage_0 : decode cD_readPage 0 = .ok (.aload_n 0, 1) := by decide +kernel
theorem dD_readPage_1 : decode cD_readPage 1 = .ok (.getfield 10, 3) := by decide +kernel
theorem dD_readPage_4 : decode cD_readPage 4 = .ok (.iload_n 1, 1) := by decide +kernel
theorem dD_readPage_5 : decode cD_readPage 5 = .ok (.sipush 512, 3) := by decide +kernel
theorem dD_readPage_8 : decode cD_readPage 8 = .ok (.imul, 1) := by decide +kernel
theorem dD_readPage_9 : decode cD_readPage 9 = .ok (.aload_n 2, 1) := by decide +kernel
theorem dD_readPage_10 : decode cD_readPage 10 = .ok (.iconst 0, 1) := by decide +kernel
theorem dD_readPage_11 : decode cD_readPage 11 = .ok (.sipush 512, 3) := by decide +kernel
theorem dD_readPage_14 : decode cD_readPage 14 = .ok (.invokestatic 28, 3) := by decide +kernel
theorem dD_readPage_17 : decode cD_readPage 17 = .ok (.aload_n 0, 1) := by decide +kernel
theorem dD_readPage_18 : decode cD_readPage 18 = .ok (.dup, 1) := by decide +kernel
theorem dD_readPage_19 : decode cD_readPage 19 = .ok (.getfield 34, 3) := by decide +kernel
theorem dD_readPage_22 : decode cD_readPage 22 = .ok (.iconst 1, 1) := by decide +kernel
theorem dD_readPage_23 : decode cD_readPage 23 = .ok (.iadd, 1) := by decide +kernel
theorem dD_readPage_24 : decode cD_readPage 24 = .ok (.putfield 34, 3) := by decide +kernel
theorem dD_readPage_27 : decode cD_readPage 27 = .ok (.return_, 1) := by decide +kernel
theorem dD_writeSector_0 : decode cD_writeSector 0 = .ok (.aload_n 0, 1) := by decide +kernel
theorem dD_writeSector_1 : decode cD_writeSector 1 = .ok (.getfield 16, 3) := by decide +kernel
theorem dD_writeSector_4 : decode cD_writeSector 4 = .ok (.ifCond .ne 5, 3) := by decide +kernel
theorem dD_writeSector_7 : decode cD_writeSector 7 = .ok (.iconst 0, 1) := by decide +kernel
theorem dD_writeSector_8 : decode cD_writeSector 8 = .ok (.ireturn, 1) := by decide +kernel
theorem dD_writeSector_9 : decode cD_writeSector 9 = .ok (.aload_n 0, 1) := by decide +kernel
theorem dD_writeSector_10 : decode cD_writeSector 10 = .ok (.getfield 16, 3) := by decide +kernel
theorem dD_writeSector_13 : decode cD_writeSector 13 = .ok (.iconst (-1), 1) := by decide +kernel
theorem dD_writeSector_14 : decode cD_writeSector 14 = .ok (.if_icmp .eq 13, 3) := by decide +kernel
theorem dD_writeSector_17 : decode cD_writeSector 17 = .ok (.aload_n 0, 1) := by decide +kernel
theorem dD_writeSector_18 : decode cD_writeSector 18 = .ok (.dup, 1) := by decide +kernel
theorem dD_writeSector_19 : decode cD_writeSector 19 = .ok (.getfield 16, 3) := by decide +kernel
theorem dD_writeSector_22 : decode cD_writeSector 22 = .ok (.iconst 1, 1) := by decide +kernel
theorem dD_writeSector_23 : decode cD_writeSector 23 = .ok (.isub, 1) := by decide +kernel
theorem dD_writeSector_24 : decode cD_writeSector 24 = .ok (.putfield 16, 3) := by decide +kernel
theorem dD_writeSector_27 : decode cD_writeSector 27 = .ok (.iload_n 2, 1) := by decide +kernel
theorem dD_writeSector_28 : decode cD_writeSector 28 = .ok (.bipush 64, 2) := by decide +kernel
theorem dD_writeSector_30 : decode cD_writeSector 30 = .ok (.imul, 1) := by decide +kernel
theorem dD_writeSector_31 : decode cD_writeSector 31 = .ok (.istore 4, 2) := by decide +kernel
theorem dD_writeSector_33 : decode cD_writeSector 33 = .ok (.aload_n 3, 1) := by decide +kernel
theorem dD_writeSector_34 : decode cD_writeSector 34 = .ok (.iload 4, 2) := by decide +kernel
theorem dD_writeSector_36 : decode cD_writeSector 36 = .ok (.aload_n 0, 1) := by decide +kernel
theorem dD_writeSector_37 : decode cD_writeSector 37 = .ok (.getfield 10, 3) := by decide +kernel
theorem dD_writeSector_40 : decode cD_writeSector 40 = .ok (.iload_n 1, 1) := by decide +kernel
theorem dD_writeSector_41 : decode cD_writeSector 41 = .ok (.sipush 512, 3) := by decide +kernel
theorem dD_writeSector_44 : decode cD_writeSector 44 = .ok (.imul, 1) := by decide +kernel
theorem dD_writeSector_45 : decode cD_writeSector 45 = .ok (.iload 4, 2) := by decide +kernel
theorem dD_writeSector_47 : decode cD_writeSector 47 = .ok (.iadd, 1) := by decide +kernel
theorem dD_writeSector_48 : decode cD_writeSector 48 = .ok (.bipush 64, 2) := by decide +kernel
theorem dD_writeSector_50 : decode cD_writeSector 50 = .ok (.invokestatic 28, 3) := by decide +kernel
theorem dD_writeSector_53 : decode cD_writeSector 53 = .ok (.aload_n 0, 1) := by decide +kernel
theorem dD_writeSector_54 : decode cD_writeSector 54 = .ok (.dup, 1) := by decide +kernel
theorem dD_writeSector_55 : decode cD_writeSector 55 = .ok (.getfield 37, 3) := by decide +kernel
theorem dD_writeSector_58 : decode cD_writeSector 58 = .ok (.iconst 1, 1) := by decide +kernel
theorem dD_writeSector_59 : decode cD_writeSector 59 = .ok (.iadd, 1) := by decide +kernel
theorem dD_writeSector_60 : decode cD_writeSector 60 = .ok (.putfield 37, 3) := by decide +kernel
theorem dD_writeSector_63 : decode cD_writeSector 63 = .ok (.iconst 1, 1) := by decide +kernel
theorem dD_writeSector_64 : decode cD_writeSector 64 = .ok (.ireturn, 1) := by decide +kernel
theorem dF_init_0 : decode cF_init 0 = .ok (.aload_n 0, 1) := by decide +kernel
theorem dF_init_1 : decode cF_init 1 = .ok (.invokespecial 3, 3) := by decide +kernel
theorem dF_init_4 : decode cF_init 4 = .ok (.aload_n 0, 1) := by decide +kernel
theorem dF_init_5 : decode cF_init 5 = .ok (.sipush 512, 3) := by decide +kernel
theorem dF_init_8 : decode cF_init 8 = .ok (.newarray .byte, 2) := by decide +kernel
theorem dF_init_10 : decode cF_init 10 = .ok (.putfield 9, 3) := by decide +kernel
theorem dF_init_13 : decode cF_init 13 = .ok (.aload_n 0, 1) := by decide +kernel
theorem dF_init_14 : decode cF_init 14 = .ok (.iconst (-1), 1) := by decide +kernel
theorem dF_init_15 : decode cF_init 15 = .ok (.putfield 15, 3) := by decide +kernel
theorem dF_init_18 : decode cF_init 18 = .ok (.return_, 1) := by decide +kernel
theorem dF_isEmpty_0 : decode cF_isEmpty 0 = .ok (.aload_n 0, 1) := by decide +kernel
theorem dF_isEmpty_1 : decode cF_isEmpty 1 = .ok (.getfield 15, 3) := by decide +kernel
theorem dF_isEmpty_4 : decode cF_isEmpty 4 = .ok (.iconst (-1), 1) := by decide +kernel
theorem dF_isEmpty_5 : decode cF_isEmpty 5 = .ok (.if_icmp .ne 7, 3) := by decide +kernel
theorem dF_isEmpty_8 : decode cF_isEmpty 8 = .ok (.iconst 1, 1) := by decide +kernel
theorem dF_isEmpty_9 : decode cF_isEmpty 9 = .ok (.goto 4, 3) := by decide +kernel
theorem dF_isEmpty_12 : decode cF_isEmpty 12 = .ok (.iconst 0, 1) := by decide +kernel
theorem dF_isEmpty_13 : decode cF_isEmpty 13 = .ok (.ireturn, 1) := by decide +kernel
theorem dF_hasPins_0 : decode cF_hasPins 0 = .ok (.aload_n 0, 1) := by decide +kernel
theorem dF_hasPins_1 : decode cF_hasPins 1 = .ok (.getfield 19, 3) := by decide +kernel
theorem dF_hasPins_4 : decode cF_hasPins 4 = .ok (.ifCond .le 7, 3) := by decide +kernel
theorem dF_hasPins_7 : decode cF_hasPins 7 = .ok (.iconst 1, 1) := by decide +kernel
theorem dF_hasPins_8 : decode cF_hasPins 8 = .ok (.goto 4, 3) := by decide +kernel
theorem dF_hasPins_11 : decode cF_hasPins 11 = .ok (.iconst 0, 1) := by decide +kernel
theorem dF_hasPins_12 : decode cF_hasPins 12 = .ok (.ireturn, 1) := by decide +kernel
theorem dF_canBeTaken_0 : decode cF_canBeTaken 0 = .ok (.aload_n 0, 1) := by decide +kernel
theorem dF_canBeTaken_1 : decode cF_canBeTaken 1 = .ok (.getfield 19, 3) := by decide +kernel
theorem dF_canBeTaken_4 : decode cF_canBeTaken 4 = .ok (.ifCond .ne 14, 3) := by decide +kernel
theorem dF_canBeTaken_7 : decode cF_canBeTaken 7 = .ok (.aload_n 0, 1) := by decide +kernel
theorem dF_canBeTaken_8 : decode cF_canBeTaken 8 = .ok (.getfield 22, 3) := by decide +kernel
theorem dF_canBeTaken_11 : decode cF_canBeTaken 11 = .ok (.ifCond .ne 7, 3) := by decide +kernel
theorem dF_canBeTaken_14 : decode cF_canBeTaken 14 = .ok (.iconst 1, 1) := by decide +kernel
theorem dF_canBeTaken_15 : decode cF_canBeTaken 15 = .ok (.goto 4, 3) := by decide +kernel
theorem dF_canBeTaken_18 : decode cF_canBeTaken 18 = .ok (.iconst 0, 1) := by decide +kernel
theorem dF_canBeTaken_19 : decode cF_canBeTaken 19 = .ok (.ireturn, 1) := by decide +kernel
theorem dF_addPin_0 : decode cF_addPin 0 = .ok (.aload_n 0, 1) := by decide +kernel
theorem dF_addPin_1 : decode cF_addPin 1 = .ok (.dup, 1) := by decide +kernel
theorem dF_addPin_2 : decode cF_addPin 2 = .ok (.getfield 19, 3) := by decide +kernel
theorem dF_addPin_5 : decode cF_addPin 5 = .ok (.iconst 1, 1) := by decide +kernel
theorem dF_addPin_6 : decode cF_addPin 6 = .ok (.iadd, 1) := by decide +kernel
theorem dF_addPin_7 : decode cF_addPin 7 = .ok (.putfield 19, 3) := by decide +kernel
theorem dF_addPin_10 : decode cF_addPin 10 = .ok (.aload_n 0, 1) := by decide +kernel
theorem dF_addPin_11 : decode cF_addPin 11 = .ok (.aload_n 0, 1) := by decide +kernel
theorem dF_addPin_12 : decode cF_addPin 12 = .ok (.getfield 22, 3) := by decide +kernel
theorem dF_addPin_15 : decode cF_addPin 15 = .ok (.iconst 1, 1) := by decide +kernel
theorem dF_addPin_16 : decode cF_addPin 16 = .ok (.iadd, 1) := by decide +kernel
theorem dF_addPin_17 : decode cF_addPin 17 = .ok (.iconst 3, 1) := by decide +kernel
theorem dF_addPin_18 : decode cF_addPin 18 = .ok (.invokestatic 25, 3) := by decide +kernel
theorem dF_addPin_21 : decode cF_addPin 21 = .ok (.putfield 22, 3) := by decide +kernel
theorem dF_addPin_24 : decode cF_addPin 24 = .ok (.return_, 1) := by decide +kernel
theorem dF_dropPin_0 : decode cF_dropPin 0 = .ok (.aload_n 0, 1) := by decide +kernel
theorem dF_dropPin_1 : decode cF_dropPin 1 = .ok (.dup, 1) := by decide +kernel
theorem dF_dropPin_2 : decode cF_dropPin 2 = .ok (.getfield 19, 3) := by decide +kernel
theorem dF_dropPin_5 : decode cF_dropPin 5 = .ok (.iconst 1, 1) := by decide +kernel
theorem dF_dropPin_6 : decode cF_dropPin 6 = .ok (.isub, 1) := by decide +kernel
theorem dF_dropPin_7 : decode cF_dropPin 7 = .ok (.putfield 19, 3) := by decide +kernel
theorem dF_dropPin_10 : decode cF_dropPin 10 = .ok (.return_, 1) := by decide +kernel
theorem dF_passBy_0 : decode cF_passBy 0 = .ok (.aload_n 0, 1) := by decide +kernel
theorem dF_passBy_1 : decode cF_passBy 1 = .ok (.getfield 19, 3) := by decide +kernel
theorem dF_passBy_4 : decode cF_passBy 4 = .ok (.ifCond .ne 20, 3) := by decide +kernel
theorem dF_passBy_7 : decode cF_passBy 7 = .ok (.aload_n 0, 1) := by decide +kernel
theorem dF_passBy_8 : decode cF_passBy 8 = .ok (.getfield 22, 3) := by decide +kernel
theorem dF_passBy_11 : decode cF_passBy 11 = .ok (.ifCond .le 13, 3) := by decide +kernel
theorem dF_passBy_14 : decode cF_passBy 14 = .ok (.aload_n 0, 1) := by decide +kernel
theorem dF_passBy_15 : decode cF_passBy 15 = .ok (.dup, 1) := by decide +kernel
theorem dF_passBy_16 : decode cF_passBy 16 = .ok (.getfield 22, 3) := by decide +kernel
theorem dF_passBy_19 : decode cF_passBy 19 = .ok (.iconst 1, 1) := by decide +kernel
theorem dF_passBy_20 : decode cF_passBy 20 = .ok (.isub, 1) := by decide +kernel
theorem dF_passBy_21 : decode cF_passBy 21 = .ok (.putfield 22, 3) := by decide +kernel
theorem dF_passBy_24 : decode cF_passBy 24 = .ok (.return_, 1) := by decide +kernel
theorem dF_takePage_0 : decode cF_takePage 0 = .ok (.aload_n 0, 1) := by decide +kernel
theorem dF_takePage_1 : decode cF_takePage 1 = .ok (.iload_n 1, 1) := by decide +kernel
theorem dF_takePage_2 : decode cF_takePage 2 = .ok (.putfield 15, 3) := by decide +kernel
theorem dF_takePage_5 : decode cF_takePage 5 = .ok (.aload_n 0, 1) := by decide +kernel
theorem dF_takePage_6 : decode cF_takePage 6 = .ok (.iconst 1, 1) := by decide +kernel
theorem dF_takePage_7 : decode cF_takePage 7 = .ok (.putfield 19, 3) := by decide +kernel
theorem dF_takePage_10 : decode cF_takePage 10 = .ok (.aload_n 0, 1) := by decide +kernel
theorem dF_takePage_11 : decode cF_takePage 11 = .ok (.iconst 1, 1) := by decide +kernel
theorem dF_takePage_12 : decode cF_takePage 12 = .ok (.putfield 22, 3) := by decide +kernel
theorem dF_takePage_15 : decode cF_takePage 15 = .ok (.aload_n 0, 1) := by decide +kernel
theorem dF_takePage_16 : decode cF_takePage 16 = .ok (.iconst 0, 1) := by decide +kernel
theorem dF_takePage_17 : decode cF_takePage 17 = .ok (.putfield 31, 3) := by decide +kernel
theorem dF_takePage_20 : decode cF_takePage 20 = .ok (.return_, 1) := by decide +kernel
theorem dF_dropPage_0 : decode cF_dropPage 0 = .ok (.aload_n 0, 1) := by decide +kernel
theorem dF_dropPage_1 : decode cF_dropPage 1 = .ok (.iconst (-1), 1) := by decide +kernel
theorem dF_dropPage_2 : decode cF_dropPage 2 = .ok (.putfield 15, 3) := by decide +kernel
theorem dF_dropPage_5 : decode cF_dropPage 5 = .ok (.aload_n 0, 1) := by decide +kernel
theorem dF_dropPage_6 : decode cF_dropPage 6 = .ok (.iconst 0, 1) := by decide +kernel
theorem dF_dropPage_7 : decode cF_dropPage 7 = .ok (.putfield 19, 3) := by decide +kernel
theorem dF_dropPage_10 : decode cF_dropPage 10 = .ok (.aload_n 0, 1) := by decide +kernel
theorem dF_dropPage_11 : decode cF_dropPage 11 = .ok (.iconst 0, 1) := by decide +kernel
theorem dF_dropPage_12 : decode cF_dropPage 12 = .ok (.putfield 22, 3) := by decide +kernel
theorem dF_dropPage_15 : decode cF_dropPage 15 = .ok (.aload_n 0, 1) := by decide +kernel
theorem dF_dropPage_16 : decode cF_dropPage 16 = .ok (.iconst 0, 1) := by decide +kernel
theorem dF_dropPage_17 : decode cF_dropPage 17 = .ok (.putfield 31, 3) := by decide +kernel
theorem dF_dropPage_20 : decode cF_dropPage 20 = .ok (.return_, 1) := by decide +kernel
theorem dF_place_0 : decode cF_place 0 = .ok (.aload_n 0, 1) := by decide +kernel
theorem dF_place_1 : decode cF_place 1 = .ok (.getfield 9, 3) := by decide +kernel
theorem dF_place_4 : decode cF_place 4 = .ok (.iconst 2, 1) := by decide +kernel
theorem dF_place_5 : decode cF_place 5 = .ok (.invokestatic 35, 3) := by decide +kernel
theorem dF_place_8 : decode cF_place 8 = .ok (.bipush 16, 2) := by decide +kernel
theorem dF_place_10 : decode cF_place 10 = .ok (.ishl, 1) := by decide +kernel
theorem dF_place_11 : decode cF_place 11 = .ok (.aload_n 0, 1) := by decide +kernel
theorem dF_place_12 : decode cF_place 12 = .ok (.getfield 9, 3) := by decide +kernel
theorem dF_place_15 : decode cF_place 15 = .ok (.iconst 4, 1) := by decide +kernel
theorem dF_place_16 : decode cF_place 16 = .ok (.invokestatic 35, 3) := by decide +kernel
theorem dF_place_19 : decode cF_place 19 = .ok (.ior, 1) := by decide +kernel
theorem dF_place_20 : decode cF_place 20 = .ok (.ireturn, 1) := by decide +kernel
theorem dF_change_0 : decode cF_change 0 = .ok (.aload_n 0, 1) := by decide +kernel
theorem dF_change_1 : decode cF_change 1 = .ok (.getfield 9, 3) := by decide +kernel
theorem dF_change_4 : decode cF_change 4 = .ok (.iload_n 1, 1) := by decide +kernel
theorem dF_change_5 : decode cF_change 5 = .ok (.iload_n 2, 1) := by decide +kernel
theorem dF_change_6 : decode cF_change 6 = .ok (.i2b, 1) := by decide +kernel
theorem dF_change_7 : decode cF_change 7 = .ok (.bastore, 1) := by decide +kernel
theorem dF_change_8 : decode cF_change 8 = .ok (.aload_n 0, 1) := by decide +kernel
theorem dF_change_9 : decode cF_change 9 = .ok (.getfield 9, 3) := by decide +kernel
theorem dF_change_12 : decode cF_change 12 = .ok (.iconst 2, 1) := by decide +kernel
theorem dF_change_13 : decode cF_change 13 = .ok (.iload_n 3, 1) := by decide +kernel
theorem dF_change_14 : decode cF_change 14 = .ok (.bipush 24, 2) := by decide +kernel
theorem dF_change_16 : decode cF_change 16 = .ok (.iushr, 1) := by decide +kernel
theorem dF_change_17 : decode cF_change 17 = .ok (.i2b, 1) := by decide +kernel
theorem dF_change_18 : decode cF_change 18 = .ok (.bastore, 1) := by decide +kernel
theorem dF_change_19 : decode cF_change 19 = .ok (.aload_n 0, 1) := by decide +kernel
theorem dF_change_20 : decode cF_change 20 = .ok (.getfield 9, 3) := by decide +kernel
theorem dF_change_23 : decode cF_change 23 = .ok (.iconst 3, 1) := by decide +kernel
theorem dF_change_24 : decode cF_change 24 = .ok (.iload_n 3, 1) := by decide +kernel
theorem dF_change_25 : decode cF_change 25 = .ok (.bipush 16, 2) := by decide +kernel
theorem dF_change_27 : decode cF_change 27 = .ok (.iushr, 1) := by decide +kernel
theorem dF_change_28 : decode cF_change 28 = .ok (.i2b, 1) := by decide +kernel
theorem dF_change_29 : decode cF_change 29 = .ok (.bastore, 1) := by decide +kernel
theorem dF_change_30 : decode cF_change 30 = .ok (.aload_n 0, 1) := by decide +kernel
theorem dF_change_31 : decode cF_change 31 = .ok (.getfield 9, 3) := by decide +kernel
theorem dF_change_34 : decode cF_change 34 = .ok (.iconst 4, 1) := by decide +kernel
theorem dF_change_35 : decode cF_change 35 = .ok (.iload_n 3, 1) := by decide +kernel
theorem dF_change_36 : decode cF_change 36 = .ok (.bipush 8, 2) := by decide +kernel
theorem dF_change_38 : decode cF_change 38 = .ok (.iushr, 1) := by decide +kernel
theorem dF_change_39 : decode cF_change 39 = .ok (.i2b, 1) := by decide +kernel
theorem dF_change_40 : decode cF_change 40 = .ok (.bastore, 1) := by decide +kernel
theorem dF_change_41 : decode cF_change 41 = .ok (.aload_n 0, 1) := by decide +kernel
theorem dF_change_42 : decode cF_change 42 = .ok (.getfield 9, 3) := by decide +kernel
theorem dF_change_45 : decode cF_change 45 = .ok (.iconst 5, 1) := by decide +kernel
theorem dF_change_46 : decode cF_change 46 = .ok (.iload_n 3, 1) := by decide +kernel
theorem dF_change_47 : decode cF_change 47 = .ok (.i2b, 1) := by decide +kernel
theorem dF_change_48 : decode cF_change 48 = .ok (.bastore, 1) := by decide +kernel
theorem dF_change_49 : decode cF_change 49 = .ok (.aload_n 0, 1) := by decide +kernel
theorem dF_change_50 : decode cF_change 50 = .ok (.iconst 1, 1) := by decide +kernel
theorem dF_change_51 : decode cF_change 51 = .ok (.putfield 31, 3) := by decide +kernel
theorem dF_change_54 : decode cF_change 54 = .ok (.return_, 1) := by decide +kernel
theorem dF_blank_0 : decode cF_blank 0 = .ok (.aload_n 0, 1) := by decide +kernel
theorem dF_blank_1 : decode cF_blank 1 = .ok (.getfield 9, 3) := by decide +kernel
theorem dF_blank_4 : decode cF_blank 4 = .ok (.iconst 0, 1) := by decide +kernel
theorem dF_blank_5 : decode cF_blank 5 = .ok (.invokestatic 39, 3) := by decide +kernel
theorem dF_blank_8 : decode cF_blank 8 = .ok (.aload_n 0, 1) := by decide +kernel
theorem dF_blank_9 : decode cF_blank 9 = .ok (.iload_n 1, 1) := by decide +kernel
theorem dF_blank_10 : decode cF_blank 10 = .ok (.invokevirtual 45, 3) := by decide +kernel
theorem dF_blank_13 : decode cF_blank 13 = .ok (.return_, 1) := by decide +kernel
theorem dF_raiseStamps_0 : decode cF_raiseStamps 0 = .ok (.aload_n 0, 1) := by decide +kernel
theorem dF_raiseStamps_1 : decode cF_raiseStamps 1 = .ok (.aload_n 0, 1) := by decide +kernel
theorem dF_raiseStamps_2 : decode cF_raiseStamps 2 = .ok (.getfield 9, 3) := by decide +kernel
theorem dF_raiseStamps_5 : decode cF_raiseStamps 5 = .ok (.iconst 0, 1) := by decide +kernel
theorem dF_raiseStamps_6 : decode cF_raiseStamps 6 = .ok (.invokestatic 35, 3) := by decide +kernel
theorem dF_raiseStamps_9 : decode cF_raiseStamps 9 = .ok (.iconst 1, 1) := by decide +kernel
theorem dF_raiseStamps_10 : decode cF_raiseStamps 10 = .ok (.iadd, 1) := by decide +kernel
theorem dF_raiseStamps_11 : decode cF_raiseStamps 11 = .ok (.invokevirtual 45, 3) := by decide +kernel
theorem dF_raiseStamps_14 : decode cF_raiseStamps 14 = .ok (.return_, 1) := by decide +kernel
theorem dF_putStamps_0 : decode cF_putStamps 0 = .ok (.aload_n 0, 1) := by decide +kernel
theorem dF_putStamps_1 : decode cF_putStamps 1 = .ok (.getfield 9, 3) := by decide +kernel
theorem dF_putStamps_4 : decode cF_putStamps 4 = .ok (.iconst 0, 1) := by decide +kernel
theorem dF_putStamps_5 : decode cF_putStamps 5 = .ok (.iload_n 1, 1) := by decide +kernel
theorem dF_putStamps_6 : decode cF_putStamps 6 = .ok (.bipush 8, 2) := by decide +kernel
theorem dF_putStamps_8 : decode cF_putStamps 8 = .ok (.iushr, 1) := by decide +kernel
theorem dF_putStamps_9 : decode cF_putStamps 9 = .ok (.i2b, 1) := by decide +kernel
theorem dF_putStamps_10 : decode cF_putStamps 10 = .ok (.bastore, 1) := by decide +kernel
theorem dF_putStamps_11 : decode cF_putStamps 11 = .ok (.aload_n 0, 1) := by decide +kernel
theorem dF_putStamps_12 : decode cF_putStamps 12 = .ok (.getfield 9, 3) := by decide +kernel
theorem dF_putStamps_15 : decode cF_putStamps 15 = .ok (.iconst 1, 1) := by decide +kernel
theorem dF_putStamps_16 : decode cF_putStamps 16 = .ok (.iload_n 1, 1) := by decide +kernel
theorem dF_putStamps_17 : decode cF_putStamps 17 = .ok (.i2b, 1) := by decide +kernel
theorem dF_putStamps_18 : decode cF_putStamps 18 = .ok (.bastore, 1) := by decide +kernel
theorem dF_putStamps_19 : decode cF_putStamps 19 = .ok (.aload_n 0, 1) := by decide +kernel
theorem dF_putStamps_20 : decode cF_putStamps 20 = .ok (.getfield 9, 3) := by decide +kernel
theorem dF_putStamps_23 : decode cF_putStamps 23 = .ok (.sipush 510, 3) := by decide +kernel
theorem dF_putStamps_26 : decode cF_putStamps 26 = .ok (.aload_n 0, 1) := by decide +kernel
theorem dF_putStamps_27 : decode cF_putStamps 27 = .ok (.getfield 9, 3) := by decide +kernel
theorem dF_putStamps_30 : decode cF_putStamps 30 = .ok (.iconst 0, 1) := by decide +kernel
theorem dF_putStamps_31 : decode cF_putStamps 31 = .ok (.baload, 1) := by decide +kernel
theorem dF_putStamps_32 : decode cF_putStamps 32 = .ok (.bastore, 1) := by decide +kernel
theorem dF_putStamps_33 : decode cF_putStamps 33 = .ok (.aload_n 0, 1) := by decide +kernel
theorem dF_putStamps_34 : decode cF_putStamps 34 = .ok (.getfield 9, 3) := by decide +kernel
theorem dF_putStamps_37 : decode cF_putStamps 37 = .ok (.sipush 511, 3) := by decide +kernel
theorem dF_putStamps_40 : decode cF_putStamps 40 = .ok (.aload_n 0, 1) := by decide +kernel
theorem dF_putStamps_41 : decode cF_putStamps 41 = .ok (.getfield 9, 3) := by decide +kernel
theorem dF_putStamps_44 : decode cF_putStamps 44 = .ok (.iconst 1, 1) := by decide +kernel
theorem dF_putStamps_45 : decode cF_putStamps 45 = .ok (.baload, 1) := by decide +kernel
theorem dF_putStamps_46 : decode cF_putStamps 46 = .ok (.bastore, 1) := by decide +kernel
theorem dF_putStamps_47 : decode cF_putStamps 47 = .ok (.return_, 1) := by decide +kernel
theorem dG_init_0 : decode cG_init 0 = .ok (.aload_n 0, 1) := by decide +kernel
theorem dG_init_1 : decode cG_init 1 = .ok (.invokespecial 1, 3) := by decide +kernel
theorem dG_init_4 : decode cG_init 4 = .ok (.return_, 1) := by decide +kernel
theorem dG_advance_0 : decode cG_advance 0 = .ok (.iload_n 1, 1) := by decide +kernel
theorem dG_advance_1 : decode cG_advance 1 = .ok (.aload_n 0, 1) := by decide +kernel
theorem dG_advance_2 : decode cG_advance 2 = .ok (.getfield 7, 3) := by decide +kernel
theorem dG_advance_5 : decode cG_advance 5 = .ok (.if_icmp .gt 5, 3) := by decide +kernel
theorem dG_advance_8 : decode cG_advance 8 = .ok (.iconst 0, 1) := by decide +kernel
theorem dG_advance_9 : decode cG_advance 9 = .ok (.ireturn, 1) := by decide +kernel
theorem dG_advance_10 : decode cG_advance 10 = .ok (.aload_n 0, 1) := by decide +kernel
theorem dG_advance_11 : decode cG_advance 11 = .ok (.iload_n 1, 1) := by decide +kernel
theorem dG_advance_12 : decode cG_advance 12 = .ok (.putfield 7, 3) := by decide +kernel
theorem dG_advance_15 : decode cG_advance 15 = .ok (.iconst 1, 1) := by decide +kernel
theorem dG_advance_16 : decode cG_advance 16 = .ok (.ireturn, 1) := by decide +kernel
theorem dG_reach_0 : decode cG_reach 0 = .ok (.aload_n 0, 1) := by decide +kernel
theorem dG_reach_1 : decode cG_reach 1 = .ok (.iload_n 1, 1) := by decide +kernel
theorem dG_reach_2 : decode cG_reach 2 = .ok (.invokevirtual 13, 3) := by decide +kernel
theorem dG_reach_5 : decode cG_reach 5 = .ok (.ifCond .eq 13, 3) := by decide +kernel
theorem dG_reach_8 : decode cG_reach 8 = .ok (.aload_n 0, 1) := by decide +kernel
theorem dG_reach_9 : decode cG_reach 9 = .ok (.dup, 1) := by decide +kernel
theorem dG_reach_10 : decode cG_reach 10 = .ok (.getfield 17, 3) := by decide +kernel
theorem dG_reach_13 : decode cG_reach 13 = .ok (.iconst 1, 1) := by decide +kernel
theorem dG_reach_14 : decode cG_reach 14 = .ok (.iadd, 1) := by decide +kernel
theorem dG_reach_15 : decode cG_reach 15 = .ok (.putfield 17, 3) := by decide +kernel
theorem dG_reach_18 : decode cG_reach 18 = .ok (.return_, 1) := by decide +kernel
theorem dJM_min_0 : decode cJM_min 0 = .ok (.iload_n 0, 1) := by decide +kernel
theorem dJM_min_1 : decode cJM_min 1 = .ok (.iload_n 1, 1) := by decide +kernel
theorem dJM_min_2 : decode cJM_min 2 = .ok (.if_icmp .gt 7, 3) := by decide +kernel
theorem dJM_min_5 : decode cJM_min 5 = .ok (.iload_n 0, 1) := by decide +kernel
theorem dJM_min_6 : decode cJM_min 6 = .ok (.goto 4, 3) := by decide +kernel
theorem dJM_min_9 : decode cJM_min 9 = .ok (.iload_n 1, 1) := by decide +kernel
theorem dJM_min_10 : decode cJM_min 10 = .ok (.ireturn, 1) := by decide +kernel
theorem dJA_fill_0 : decode cJA_fill 0 = .ok (.iconst 0, 1) := by decide +kernel
theorem dJA_fill_1 : decode cJA_fill 1 = .ok (.istore_n 2, 1) := by decide +kernel
theorem dJA_fill_2 : decode cJA_fill 2 = .ok (.aload_n 0, 1) := by decide +kernel
theorem dJA_fill_3 : decode cJA_fill 3 = .ok (.arraylength, 1) := by decide +kernel
theorem dJA_fill_4 : decode cJA_fill 4 = .ok (.istore_n 3, 1) := by decide +kernel
theorem dJA_fill_5 : decode cJA_fill 5 = .ok (.iload_n 2, 1) := by decide +kernel
theorem dJA_fill_6 : decode cJA_fill 6 = .ok (.iload_n 3, 1) := by decide +kernel
theorem dJA_fill_7 : decode cJA_fill 7 = .ok (.if_icmp .ge 13, 3) := by decide +kernel
theorem dJA_fill_10 : decode cJA_fill 10 = .ok (.aload_n 0, 1) := by decide +kernel
theorem dJA_fill_11 : decode cJA_fill 11 = .ok (.iload_n 2, 1) := by decide +kernel
theorem dJA_fill_12 : decode cJA_fill 12 = .ok (.iload_n 1, 1) := by decide +kernel
theorem dJA_fill_13 : decode cJA_fill 13 = .ok (.bastore, 1) := by decide +kernel
theorem dJA_fill_14 : decode cJA_fill 14 = .ok (.iinc 2 1, 3) := by decide +kernel
theorem dJA_fill_17 : decode cJA_fill 17 = .ok (.goto (-12), 3) := by decide +kernel
theorem dJA_fill_20 : decode cJA_fill 20 = .ok (.return_, 1) := by decide +kernel
