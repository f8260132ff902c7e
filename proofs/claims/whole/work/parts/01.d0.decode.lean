theorem dX0_init_0 : decode cX0_init 0 = .ok (.aload_n 0, 1) := by decide +kernel
theorem dX0_init_1 : decode cX0_init 1 = .ok (.invokespecial 3, 3) := by decide +kernel
theorem dX0_init_4 : decode cX0_init 4 = .ok (.aload_n 0, 1) := by decide +kernel
theorem dX0_init_5 : decode cX0_init 5 = .ok (.sipush 200, 3) := by decide +kernel
theorem dX0_init_8 : decode cX0_init 8 = .ok (.newarray .byte, 2) := by decide +kernel
theorem dX0_init_10 : decode cX0_init 10 = .ok (.putfield 9, 3) := by decide +kernel
theorem dX0_init_13 : decode cX0_init 13 = .ok (.return_, 1) := by decide +kernel
theorem dX1_init_0 : decode cX1_init 0 = .ok (.aload_n 0, 1) := by decide +kernel
theorem dX1_init_1 : decode cX1_init 1 = .ok (.invokespecial 3, 3) := by decide +kernel
theorem dX1_init_4 : decode cX1_init 4 = .ok (.aload_n 0, 1) := by decide +kernel
theorem dX1_init_5 : decode cX1_init 5 = .ok (.bipush 64, 2) := by decide +kernel
theorem dX1_init_7 : decode cX1_init 7 = .ok (.newarray .byte, 2) := by decide +kernel
theorem dX1_init_9 : decode cX1_init 9 = .ok (.putfield 9, 3) := by decide +kernel
theorem dX1_init_12 : decode cX1_init 12 = .ok (.aload_n 0, 1) := by decide +kernel
theorem dX1_init_13 : decode cX1_init 13 = .ok (.bipush 32, 2) := by decide +kernel
theorem dX1_init_15 : decode cX1_init 15 = .ok (.newarray .byte, 2) := by decide +kernel
theorem dX1_init_17 : decode cX1_init 17 = .ok (.putfield 15, 3) := by decide +kernel
theorem dX1_init_20 : decode cX1_init 20 = .ok (.aload_n 0, 1) := by decide +kernel
theorem dX1_init_21 : decode cX1_init 21 = .ok (.aload_n 1, 1) := by decide +kernel
theorem dX1_init_22 : decode cX1_init 22 = .ok (.putfield 18, 3) := by decide +kernel
theorem dX1_init_25 : decode cX1_init 25 = .ok (.return_, 1) := by decide +kernel
theorem dX1_begin_0 : decode cX1_begin 0 = .ok (.aload_n 0, 1) := by decide +kernel
theorem dX1_begin_1 : decode cX1_begin 1 = .ok (.iload_n 1, 1) := by decide +kernel
theorem dX1_begin_2 : decode cX1_begin 2 = .ok (.putfield 22, 3) := by decide +kernel
theorem dX1_begin_5 : decode cX1_begin 5 = .ok (.aload_n 0, 1) := by decide +kernel
theorem dX1_begin_6 : decode cX1_begin 6 = .ok (.iconst 0, 1) := by decide +kernel
theorem dX1_begin_7 : decode cX1_begin 7 = .ok (.putfield 26, 3) := by decide +kernel
theorem dX1_begin_10 : decode cX1_begin 10 = .ok (.aload_n 0, 1) := by decide +kernel
theorem dX1_begin_11 : decode cX1_begin 11 = .ok (.iconst 0, 1) := by decide +kernel
theorem dX1_begin_12 : decode cX1_begin 12 = .ok (.putfield 29, 3) := by decide +kernel
theorem dX1_begin_15 : decode cX1_begin 15 = .ok (.aload_n 0, 1) := by decide +kernel
theorem dX1_begin_16 : decode cX1_begin 16 = .ok (.getfield 22, 3) := by decide +kernel
theorem dX1_begin_19 : decode cX1_begin 19 = .ok (.iconst 2, 1) := by decide +kernel
theorem dX1_begin_20 : decode cX1_begin 20 = .ok (.if_icmp .ne 17, 3) := by decide +kernel
theorem dX1_begin_23 : decode cX1_begin 23 = .ok (.aload_n 0, 1) := by decide +kernel
theorem dX1_begin_24 : decode cX1_begin 24 = .ok (.aload_n 2, 1) := by decide +kernel
theorem dX1_begin_25 : decode cX1_begin 25 = .ok (.invokevirtual 32, 3) := by decide +kernel
theorem dX1_begin_28 : decode cX1_begin 28 = .ok (.aload_n 0, 1) := by decide +kernel
theorem dX1_begin_29 : decode cX1_begin 29 = .ok (.bipush 54, 2) := by decide +kernel
theorem dX1_begin_31 : decode cX1_begin 31 = .ok (.invokevirtual 36, 3) := by decide +kernel
theorem dX1_begin_34 : decode cX1_begin 34 = .ok (.goto 27, 3) := by decide +kernel
theorem dX1_begin_37 : decode cX1_begin 37 = .ok (.aload_n 0, 1) := by decide +kernel
theorem dX1_begin_38 : decode cX1_begin 38 = .ok (.getfield 18, 3) := by decide +kernel
theorem dX1_begin_41 : decode cX1_begin 41 = .ok (.aload_n 0, 1) := by decide +kernel
theorem dX1_begin_42 : decode cX1_begin 42 = .ok (.getfield 22, 3) := by decide +kernel
theorem dX1_begin_45 : decode cX1_begin 45 = .ok (.iconst 1, 1) := by decide +kernel
theorem dX1_begin_46 : decode cX1_begin 46 = .ok (.if_icmp .ne 9, 3) := by decide +kernel
theorem dX1_begin_49 : decode cX1_begin 49 = .ok (.getstatic 40, 3) := by decide +kernel
theorem dX1_begin_52 : decode cX1_begin 52 = .ok (.goto 6, 3) := by decide +kernel
theorem dX1_begin_55 : decode cX1_begin 55 = .ok (.getstatic 44, 3) := by decide +kernel
theorem dX1_begin_58 : decode cX1_begin 58 = .ok (.invokevirtual 47, 3) := by decide +kernel
theorem dX1_begin_61 : decode cX1_begin 61 = .ok (.return_, 1) := by decide +kernel
theorem dX1_take_0 : decode cX1_take 0 = .ok (.aload_n 0, 1) := by decide +kernel
theorem dX1_take_1 : decode cX1_take 1 = .ok (.getfield 18, 3) := by decide +kernel
theorem dX1_take_4 : decode cX1_take 4 = .ok (.aload_n 1, 1) := by decide +kernel
theorem dX1_take_5 : decode cX1_take 5 = .ok (.getfield 53, 3) := by decide +kernel
theorem dX1_take_8 : decode cX1_take 8 = .ok (.aload_n 1, 1) := by decide +kernel
theorem dX1_take_9 : decode cX1_take 9 = .ok (.getfield 58, 3) := by decide +kernel
theorem dX1_take_12 : decode cX1_take 12 = .ok (.invokevirtual 61, 3) := by decide +kernel
theorem dX1_take_15 : decode cX1_take 15 = .ok (.aload_n 0, 1) := by decide +kernel
theorem dX1_take_16 : decode cX1_take 16 = .ok (.dup, 1) := by decide +kernel
theorem dX1_take_17 : decode cX1_take 17 = .ok (.getfield 26, 3) := by decide +kernel
theorem dX1_take_20 : decode cX1_take 20 = .ok (.aload_n 1, 1) := by decide +kernel
theorem dX1_take_21 : decode cX1_take 21 = .ok (.getfield 58, 3) := by decide +kernel
theorem dX1_take_24 : decode cX1_take 24 = .ok (.iadd, 1) := by decide +kernel
theorem dX1_take_25 : decode cX1_take 25 = .ok (.putfield 26, 3) := by decide +kernel
theorem dX1_take_28 : decode cX1_take 28 = .ok (.return_, 1) := by decide +kernel
theorem dX1_finish_0 : decode cX1_finish 0 = .ok (.aload_n 0, 1) := by decide +kernel
theorem dX1_finish_1 : decode cX1_finish 1 = .ok (.getfield 18, 3) := by decide +kernel
theorem dX1_finish_4 : decode cX1_finish 4 = .ok (.invokevirtual 65, 3) := by decide +kernel
theorem dX1_finish_7 : decode cX1_finish 7 = .ok (.aload_n 0, 1) := by decide +kernel
theorem dX1_finish_8 : decode cX1_finish 8 = .ok (.dup, 1) := by decide +kernel
theorem dX1_finish_9 : decode cX1_finish 9 = .ok (.getfield 29, 3) := by decide +kernel
theorem dX1_finish_12 : decode cX1_finish 12 = .ok (.aload_n 0, 1) := by decide +kernel
theorem dX1_finish_13 : decode cX1_finish 13 = .ok (.getfield 18, 3) := by decide +kernel
theorem dX1_finish_16 : decode cX1_finish 16 = .ok (.getfield 68, 3) := by decide +kernel
theorem dX1_finish_19 : decode cX1_finish 19 = .ok (.iadd, 1) := by decide +kernel
theorem dX1_finish_20 : decode cX1_finish 20 = .ok (.putfield 29, 3) := by decide +kernel
theorem dX1_finish_23 : decode cX1_finish 23 = .ok (.aload_n 0, 1) := by decide +kernel
theorem dX1_finish_24 : decode cX1_finish 24 = .ok (.getfield 22, 3) := by decide +kernel
theorem dX1_finish_27 : decode cX1_finish 27 = .ok (.iconst 2, 1) := by decide +kernel
theorem dX1_finish_28 : decode cX1_finish 28 = .ok (.if_icmp .ne 58, 3) := by decide +kernel
theorem dX1_finish_31 : decode cX1_finish 31 = .ok (.aload_n 0, 1) := by decide +kernel
theorem dX1_finish_32 : decode cX1_finish 32 = .ok (.getfield 18, 3) := by decide +kernel
theorem dX1_finish_35 : decode cX1_finish 35 = .ok (.aload_n 0, 1) := by decide +kernel
theorem dX1_finish_36 : decode cX1_finish 36 = .ok (.getfield 15, 3) := by decide +kernel
theorem dX1_finish_39 : decode cX1_finish 39 = .ok (.bipush 32, 2) := by decide +kernel
theorem dX1_finish_41 : decode cX1_finish 41 = .ok (.invokevirtual 69, 3) := by decide +kernel
theorem dX1_finish_44 : decode cX1_finish 44 = .ok (.aload_n 0, 1) := by decide +kernel
theorem dX1_finish_45 : decode cX1_finish 45 = .ok (.bipush 92, 2) := by decide +kernel
theorem dX1_finish_47 : decode cX1_finish 47 = .ok (.invokevirtual 36, 3) := by decide +kernel
theorem dX1_finish_50 : decode cX1_finish 50 = .ok (.aload_n 0, 1) := by decide +kernel
theorem dX1_finish_51 : decode cX1_finish 51 = .ok (.getfield 18, 3) := by decide +kernel
theorem dX1_finish_54 : decode cX1_finish 54 = .ok (.aload_n 0, 1) := by decide +kernel
theorem dX1_finish_55 : decode cX1_finish 55 = .ok (.getfield 15, 3) := by decide +kernel
theorem dX1_finish_58 : decode cX1_finish 58 = .ok (.bipush 32, 2) := by decide +kernel
theorem dX1_finish_60 : decode cX1_finish 60 = .ok (.invokevirtual 61, 3) := by decide +kernel
theorem dX1_finish_63 : decode cX1_finish 63 = .ok (.aload_n 0, 1) := by decide +kernel
theorem dX1_finish_64 : decode cX1_finish 64 = .ok (.getfield 18, 3) := by decide +kernel
theorem dX1_finish_67 : decode cX1_finish 67 = .ok (.invokevirtual 65, 3) := by decide +kernel
theorem dX1_finish_70 : decode cX1_finish 70 = .ok (.aload_n 0, 1) := by decide +kernel
theorem dX1_finish_71 : decode cX1_finish 71 = .ok (.dup, 1) := by decide +kernel
theorem dX1_finish_72 : decode cX1_finish 72 = .ok (.getfield 29, 3) := by decide +kernel
theorem dX1_finish_75 : decode cX1_finish 75 = .ok (.aload_n 0, 1) := by decide +kernel
theorem dX1_finish_76 : decode cX1_finish 76 = .ok (.getfield 18, 3) := by decide +kernel
theorem dX1_finish_79 : decode cX1_finish 79 = .ok (.getfield 68, 3) := by decide +kernel
theorem dX1_finish_82 : decode cX1_finish 82 = .ok (.iadd, 1) := by decide +kernel
theorem dX1_finish_83 : decode cX1_finish 83 = .ok (.putfield 29, 3) := by decide +kernel
theorem dX1_finish_86 : decode cX1_finish 86 = .ok (.aload_n 1, 1) := by decide +kernel
theorem dX1_finish_87 : decode cX1_finish 87 = .ok (.aload_n 0, 1) := by decide +kernel
theorem dX1_finish_88 : decode cX1_finish 88 = .ok (.getfield 22, 3) := by decide +kernel
theorem dX1_finish_91 : decode cX1_finish 91 = .ok (.aload_n 0, 1) := by decide +kernel
theorem dX1_finish_92 : decode cX1_finish 92 = .ok (.getfield 29, 3) := by decide +kernel
theorem dX1_finish_95 : decode cX1_finish 95 = .ok (.aload_n 0, 1) := by decide +kernel
theorem dX1_finish_96 : decode cX1_finish 96 = .ok (.getfield 18, 3) := by decide +kernel
theorem dX1_finish_99 : decode cX1_finish 99 = .ok (.invokevirtual 72, 3) := by decide +kernel
theorem dX1_finish_102 : decode cX1_finish 102 = .ok (.ireturn, 1) := by decide +kernel
theorem dX1_makeLock_0 : decode cX1_makeLock 0 = .ok (.aload_n 0, 1) := by decide +kernel
theorem dX1_makeLock_1 : decode cX1_makeLock 1 = .ok (.getfield 9, 3) := by decide +kernel
theorem dX1_makeLock_4 : decode cX1_makeLock 4 = .ok (.iconst 0, 1) := by decide +kernel
theorem dX1_makeLock_5 : decode cX1_makeLock 5 = .ok (.invokestatic 78, 3) := by decide +kernel
theorem dX1_makeLock_8 : decode cX1_makeLock 8 = .ok (.aload_n 1, 1) := by decide +kernel
theorem dX1_makeLock_9 : decode cX1_makeLock 9 = .ok (.getfield 58, 3) := by decide +kernel
theorem dX1_makeLock_12 : decode cX1_makeLock 12 = .ok (.bipush 64, 2) := by decide +kernel
theorem dX1_makeLock_14 : decode cX1_makeLock 14 = .ok (.if_icmp .gt 21, 3) := by decide +kernel
theorem dX1_makeLock_17 : decode cX1_makeLock 17 = .ok (.aload_n 1, 1) := by decide +kernel
theorem dX1_makeLock_18 : decode cX1_makeLock 18 = .ok (.getfield 53, 3) := by decide +kernel
theorem dX1_makeLock_21 : decode cX1_makeLock 21 = .ok (.iconst 0, 1) := by decide +kernel
theorem dX1_makeLock_22 : decode cX1_makeLock 22 = .ok (.aload_n 0, 1) := by decide +kernel
theorem dX1_makeLock_23 : decode cX1_makeLock 23 = .ok (.getfield 9, 3) := by decide +kernel
theorem dX1_makeLock_26 : decode cX1_makeLock 26 = .ok (.iconst 0, 1) := by decide +kernel
theorem dX1_makeLock_27 : decode cX1_makeLock 27 = .ok (.aload_n 1, 1) := by decide +kernel
theorem dX1_makeLock_28 : decode cX1_makeLock 28 = .ok (.getfield 58, 3) := by decide +kernel
theorem dX1_makeLock_31 : decode cX1_makeLock 31 = .ok (.invokestatic 84, 3) := by decide +kernel
theorem dX1_makeLock_34 : decode cX1_makeLock 34 = .ok (.return_, 1) := by decide +kernel
theorem dX1_makeLock_35 : decode cX1_makeLock 35 = .ok (.aload_n 0, 1) := by decide +kernel
theorem dX1_makeLock_36 : decode cX1_makeLock 36 = .ok (.getfield 18, 3) := by decide +kernel
theorem dX1_makeLock_39 : decode cX1_makeLock 39 = .ok (.getstatic 44, 3) := by decide +kernel
theorem dX1_makeLock_42 : decode cX1_makeLock 42 = .ok (.invokevirtual 47, 3) := by decide +kernel
theorem dX1_makeLock_45 : decode cX1_makeLock 45 = .ok (.aload_n 0, 1) := by decide +kernel
theorem dX1_makeLock_46 : decode cX1_makeLock 46 = .ok (.getfield 18, 3) := by decide +kernel
theorem dX1_makeLock_49 : decode cX1_makeLock 49 = .ok (.aload_n 1, 1) := by decide +kernel
theorem dX1_makeLock_50 : decode cX1_makeLock 50 = .ok (.getfield 53, 3) := by decide +kernel
theorem dX1_makeLock_53 : decode cX1_makeLock 53 = .ok (.aload_n 1, 1) := by decide +kernel
theorem dX1_makeLock_54 : decode cX1_makeLock 54 = .ok (.getfield 58, 3) := by decide +kernel
theorem dX1_makeLock_57 : decode cX1_makeLock 57 = .ok (.invokevirtual 61, 3) := by decide +kernel
theorem dX1_makeLock_60 : decode cX1_makeLock 60 = .ok (.aload_n 0, 1) := by decide +kernel
theorem dX1_makeLock_61 : decode cX1_makeLock 61 = .ok (.getfield 18, 3) := by decide +kernel
theorem dX1_makeLock_64 : decode cX1_makeLock 64 = .ok (.invokevirtual 65, 3) := by decide +kernel
theorem dX1_makeLock_67 : decode cX1_makeLock 67 = .ok (.aload_n 0, 1) := by decide +kernel
theorem dX1_makeLock_68 : decode cX1_makeLock 68 = .ok (.getfield 18, 3) := by decide +kernel
theorem dX1_makeLock_71 : decode cX1_makeLock 71 = .ok (.aload_n 0, 1) := by decide +kernel
theorem dX1_makeLock_72 : decode cX1_makeLock 72 = .ok (.getfield 9, 3) := by decide +kernel
theorem dX1_makeLock_75 : decode cX1_makeLock 75 = .ok (.bipush 32, 2) := by decide +kernel
theorem dX1_makeLock_77 : decode cX1_makeLock 77 = .ok (.invokevirtual 69, 3) := by decide +kernel
theorem dX1_makeLock_80 : decode cX1_makeLock 80 = .ok (.aload_n 0, 1) := by decide +kernel
theorem dX1_makeLock_81 : decode cX1_makeLock 81 = .ok (.dup, 1) := by decide +kernel
theorem dX1_makeLock_82 : decode cX1_makeLock 82 = .ok (.getfield 29, 3) := by decide +kernel
theorem dX1_makeLock_85 : decode cX1_makeLock 85 = .ok (.aload_n 0, 1) := by decide +kernel
theorem dX1_makeLock_86 : decode cX1_makeLock 86 = .ok (.getfield 18, 3) := by decide +kernel
theorem dX1_makeLock_89 : decode cX1_makeLock 89 = .ok (.getfield 68, 3) := by decide +kernel
theorem dX1_makeLock_92 : decode cX1_makeLock 92 = .ok (.iadd, 1) := by decide +kernel
theorem dX1_makeLock_93 : decode cX1_makeLock 93 = .ok (.putfield 29, 3) := by decide +kernel
theorem dX1_makeLock_96 : decode cX1_makeLock 96 = .ok (.return_, 1) := by decide +kernel
theorem dX1_beginLocked_0 : decode cX1_beginLocked 0 = .ok (.aload_n 0, 1) := by decide +kernel
theorem dX1_beginLocked_1 : decode cX1_beginLocked 1 = .ok (.getfield 18, 3) := by decide +kernel
theorem dX1_beginLocked_4 : decode cX1_beginLocked 4 = .ok (.getstatic 44, 3) := by decide +kernel
theorem dX1_beginLocked_7 : decode cX1_beginLocked 7 = .ok (.invokevirtual 47, 3) := by decide +kernel
theorem dX1_beginLocked_10 : decode cX1_beginLocked 10 = .ok (.iconst 0, 1) := by decide +kernel
theorem dX1_beginLocked_11 : decode cX1_beginLocked 11 = .ok (.istore_n 2, 1) := by decide +kernel
theorem dX1_beginLocked_12 : decode cX1_beginLocked 12 = .ok (.iload_n 2, 1) := by decide +kernel
theorem dX1_beginLocked_13 : decode cX1_beginLocked 13 = .ok (.bipush 64, 2) := by decide +kernel
theorem dX1_beginLocked_15 : decode cX1_beginLocked 15 = .ok (.if_icmp .ge 24, 3) := by decide +kernel
theorem dX1_beginLocked_18 : decode cX1_beginLocked 18 = .ok (.aload_n 0, 1) := by decide +kernel
theorem dX1_beginLocked_19 : decode cX1_beginLocked 19 = .ok (.getfield 18, 3) := by decide +kernel
theorem dX1_beginLocked_22 : decode cX1_beginLocked 22 = .ok (.aload_n 0, 1) := by decide +kernel
theorem dX1_beginLocked_23 : decode cX1_beginLocked 23 = .ok (.getfield 9, 3) := by decide +kernel
theorem dX1_beginLocked_26 : decode cX1_beginLocked 26 = .ok (.iload_n 2, 1) := by decide +kernel
theorem dX1_beginLocked_27 : decode cX1_beginLocked 27 = .ok (.baload, 1) := by decide +kernel
theorem dX1_beginLocked_28 : decode cX1_beginLocked 28 = .ok (.iload_n 1, 1) := by decide +kernel
theorem dX1_beginLocked_29 : decode cX1_beginLocked 29 = .ok (.ixor, 1) := by decide +kernel
theorem dX1_beginLocked_30 : decode cX1_beginLocked 30 = .ok (.invokevirtual 90, 3) := by decide +kernel
theorem dX1_beginLocked_33 : decode cX1_beginLocked 33 = .ok (.iinc 2 1, 3) := by decide +kernel
theorem dX1_beginLocked_36 : decode cX1_beginLocked 36 = .ok (.goto (-24), 3) := by decide +kernel
theorem dX1_beginLocked_39 : decode cX1_beginLocked 39 = .ok (.return_, 1) := by decide +kernel
theorem dX2_init_0 : decode cX2_init 0 = .ok (.aload_n 0, 1) := by decide +kernel
theorem dX2_init_1 : decode cX2_init 1 = .ok (.invokespecial 3, 3) := by decide +kernel
theorem dX2_init_4 : decode cX2_init 4 = .ok (.aload_n 0, 1) := by decide +kernel
theorem dX2_init_5 : decode cX2_init 5 = .ok (.bipush 8, 2) := by decide +kernel
theorem dX2_init_7 : decode cX2_init 7 = .ok (.newarray .int, 2) := by decide +kernel
theorem dX2_init_9 : decode cX2_init 9 = .ok (.putfield 9, 3) := by decide +kernel
theorem dX2_init_12 : decode cX2_init 12 = .ok (.aload_n 0, 1) := by decide +kernel
theorem dX2_init_13 : decode cX2_init 13 = .ok (.bipush 64, 2) := by decide +kernel
theorem dX2_init_15 : decode cX2_init 15 = .ok (.newarray .int, 2) := by decide +kernel
theorem dX2_init_17 : decode cX2_init 17 = .ok (.putfield 15, 3) := by decide +kernel
theorem dX2_init_20 : decode cX2_init 20 = .ok (.return_, 1) := by decide +kernel
theorem dX2_begin_0 : decode cX2_begin 0 = .ok (.aload_n 1, 1) := by decide +kernel
theorem dX2_begin_1 : decode cX2_begin 1 = .ok (.iconst 0, 1) := by decide +kernel
theorem dX2_begin_2 : decode cX2_begin 2 = .ok (.aload_n 0, 1) := by decide +kernel
theorem dX2_begin_3 : decode cX2_begin 3 = .ok (.getfield 9, 3) := by decide +kernel
theorem dX2_begin_6 : decode cX2_begin 6 = .ok (.iconst 0, 1) := by decide +kernel
theorem dX2_begin_7 : decode cX2_begin 7 = .ok (.aload_n 0, 1) := by decide +kernel
theorem dX2_begin_8 : decode cX2_begin 8 = .ok (.getfield 9, 3) := by decide +kernel
theorem dX2_begin_11 : decode cX2_begin 11 = .ok (.arraylength, 1) := by decide +kernel
theorem dX2_begin_12 : decode cX2_begin 12 = .ok (.invokestatic 18, 3) := by decide +kernel
theorem dX2_begin_15 : decode cX2_begin 15 = .ok (.aload_n 0, 1) := by decide +kernel
theorem dX2_begin_16 : decode cX2_begin 16 = .ok (.iconst 0, 1) := by decide +kernel
theorem dX2_begin_17 : decode cX2_begin 17 = .ok (.putfield 24, 3) := by decide +kernel
theorem dX2_begin_20 : decode cX2_begin 20 = .ok (.aload_n 0, 1) := by decide +kernel
theorem dX2_begin_21 : decode cX2_begin 21 = .ok (.iconst 0, 1) := by decide +kernel
theorem dX2_begin_22 : decode cX2_begin 22 = .ok (.putfield 28, 3) := by decide +kernel
theorem dX2_begin_25 : decode cX2_begin 25 = .ok (.aload_n 0, 1) := by decide +kernel
theorem dX2_begin_26 : decode cX2_begin 26 = .ok (.iconst 0, 1) := by decide +kernel
theorem dX2_begin_27 : decode cX2_begin 27 = .ok (.putfield 31, 3) := by decide +kernel
theorem dX2_begin_30 : decode cX2_begin 30 = .ok (.return_, 1) := by decide +kernel
theorem dX2_take_0 : decode cX2_take 0 = .ok (.iconst 0, 1) := by decide +kernel
theorem dX2_take_1 : decode cX2_take 1 = .ok (.istore_n 3, 1) := by decide +kernel
theorem dX2_take_2 : decode cX2_take 2 = .ok (.iload_n 3, 1) := by decide +kernel
theorem dX2_take_3 : decode cX2_take 3 = .ok (.iload_n 2, 1) := by decide +kernel
theorem dX2_take_4 : decode cX2_take 4 = .ok (.if_icmp .ge 16, 3) := by decide +kernel
theorem dX2_take_7 : decode cX2_take 7 = .ok (.aload_n 0, 1) := by decide +kernel
theorem dX2_take_8 : decode cX2_take 8 = .ok (.aload_n 1, 1) := by decide +kernel
theorem dX2_take_9 : decode cX2_take 9 = .ok (.iload_n 3, 1) := by decide +kernel
theorem dX2_take_10 : decode cX2_take 10 = .ok (.baload, 1) := by decide +kernel
theorem dX2_take_11 : decode cX2_take 11 = .ok (.invokevirtual 34, 3) := by decide +kernel
theorem dX2_take_14 : decode cX2_take 14 = .ok (.iinc 3 1, 3) := by decide +kernel
theorem dX2_take_17 : decode cX2_take 17 = .ok (.goto (-15), 3) := by decide +kernel
theorem dX2_take_20 : decode cX2_take 20 = .ok (.aload_n 0, 1) := by decide +kernel
theorem dX2_take_21 : decode cX2_take 21 = .ok (.dup, 1) := by decide +kernel
theorem dX2_take_22 : decode cX2_take 22 = .ok (.getfield 28, 3) := by decide +kernel
theorem dX2_take_25 : decode cX2_take 25 = .ok (.iload_n 2, 1) := by decide +kernel
theorem dX2_take_26 : decode cX2_take 26 = .ok (.iadd, 1) := by decide +kernel
theorem dX2_take_27 : decode cX2_take 27 = .ok (.putfield 28, 3) := by decide +kernel
theorem dX2_take_30 : decode cX2_take 30 = .ok (.return_, 1) := by decide +kernel
theorem dX2_takeByte_0 : decode cX2_takeByte 0 = .ok (.aload_n 0, 1) := by decide +kernel
theorem dX2_takeByte_1 : decode cX2_takeByte 1 = .ok (.iload_n 1, 1) := by decide +kernel
theorem dX2_takeByte_2 : decode cX2_takeByte 2 = .ok (.invokevirtual 34, 3) := by decide +kernel
theorem dX2_takeByte_5 : decode cX2_takeByte 5 = .ok (.aload_n 0, 1) := by decide +kernel
theorem dX2_takeByte_6 : decode cX2_takeByte 6 = .ok (.dup, 1) := by decide +kernel
theorem dX2_takeByte_7 : decode cX2_takeByte 7 = .ok (.getfield 28, 3) := by decide +kernel
theorem dX2_takeByte_10 : decode cX2_takeByte 10 = .ok (.iconst 1, 1) := by decide +kernel
theorem dX2_takeByte_11 : decode cX2_takeByte 11 = .ok (.iadd, 1) := by decide +kernel
theorem dX2_takeByte_12 : decode cX2_takeByte 12 = .ok (.putfield 28, 3) := by decide +kernel
theorem dX2_takeByte_15 : decode cX2_takeByte 15 = .ok (.return_, 1) := by decide +kernel
theorem dX2_finish_0 : decode cX2_finish 0 = .ok (.ldc2_w 38, 3) := by decide +kernel
theorem dX2_finish_3 : decode cX2_finish 3 = .ok (.aload_n 0, 1) := by decide +kernel
theorem dX2_finish_4 : decode cX2_finish 4 = .ok (.getfield 28, 3) := by decide +kernel
theorem dX2_finish_7 : decode cX2_finish 7 = .ok (.i2l, 1) := by decide +kernel
theorem dX2_finish_8 : decode cX2_finish 8 = .ok (.lmul, 1) := by decide +kernel
theorem dX2_finish_9 : decode cX2_finish 9 = .ok (.lstore_n 1, 1) := by decide +kernel
theorem dX2_finish_10 : decode cX2_finish 10 = .ok (.aload_n 0, 1) := by decide +kernel
theorem dX2_finish_11 : decode cX2_finish 11 = .ok (.sipush 128, 3) := by decide +kernel
theorem dX2_finish_14 : decode cX2_finish 14 = .ok (.invokevirtual 34, 3) := by decide +kernel
theorem dX2_finish_17 : decode cX2_finish 17 = .ok (.bipush 120, 2) := by decide +kernel
theorem dX2_finish_19 : decode cX2_finish 19 = .ok (.aload_n 0, 1) := by decide +kernel
theorem dX2_finish_20 : decode cX2_finish 20 = .ok (.getfield 24, 3) := by decide +kernel
theorem dX2_finish_23 : decode cX2_finish 23 = .ok (.isub, 1) := by decide +kernel
theorem dX2_finish_24 : decode cX2_finish 24 = .ok (.bipush 64, 2) := by decide +kernel
theorem dX2_finish_26 : decode cX2_finish 26 = .ok (.irem, 1) := by decide +kernel
theorem dX2_finish_27 : decode cX2_finish 27 = .ok (.istore_n 3, 1) := by decide +kernel
theorem dX2_finish_28 : decode cX2_finish 28 = .ok (.iconst 0, 1) := by decide +kernel
theorem dX2_finish_29 : decode cX2_finish 29 = .ok (.istore 4, 2) := by decide +kernel
theorem dX2_finish_31 : decode cX2_finish 31 = .ok (.iload 4, 2) := by decide +kernel
theorem dX2_finish_33 : decode cX2_finish 33 = .ok (.iload_n 3, 1) := by decide +kernel
theorem dX2_finish_34 : decode cX2_finish 34 = .ok (.if_icmp .ge 14, 3) := by decide +kernel
theorem dX2_finish_37 : decode cX2_finish 37 = .ok (.aload_n 0, 1) := by decide +kernel
theorem dX2_finish_38 : decode cX2_finish 38 = .ok (.iconst 0, 1) := by decide +kernel
theorem dX2_finish_39 : decode cX2_finish 39 = .ok (.invokevirtual 34, 3) := by decide +kernel
theorem dX2_finish_42 : decode cX2_finish 42 = .ok (.iinc 4 1, 3) := by decide +kernel
theorem dX2_finish_45 : decode cX2_finish 45 = .ok (.goto (-14), 3) := by decide +kernel
theorem dX2_finish_48 : decode cX2_finish 48 = .ok (.bipush 56, 2) := by decide +kernel
theorem dX2_finish_50 : decode cX2_finish 50 = .ok (.istore 4, 2) := by decide +kernel
theorem dX2_finish_52 : decode cX2_finish 52 = .ok (.iload 4, 2) := by decide +kernel
theorem dX2_finish_54 : decode cX2_finish 54 = .ok (.ifCond .lt 18, 3) := by decide +kernel
theorem dX2_finish_57 : decode cX2_finish 57 = .ok (.aload_n 0, 1) := by decide +kernel
theorem dX2_finish_58 : decode cX2_finish 58 = .ok (.lload_n 1, 1) := by decide +kernel
theorem dX2_finish_59 : decode cX2_finish 59 = .ok (.iload 4, 2) := by decide +kernel
theorem dX2_finish_61 : decode cX2_finish 61 = .ok (.lushr, 1) := by decide +kernel
theorem dX2_finish_62 : decode cX2_finish 62 = .ok (.l2i, 1) := by decide +kernel
theorem dX2_finish_63 : decode cX2_finish 63 = .ok (.invokevirtual 34, 3) := by decide +kernel
theorem dX2_finish_66 : decode cX2_finish 66 = .ok (.iinc 4 (-8), 3) := by decide +kernel
theorem dX2_finish_69 : decode cX2_finish 69 = .ok (.goto (-17), 3) := by decide +kernel
theorem dX2_finish_72 : decode cX2_finish 72 = .ok (.return_, 1) := by decide +kernel
theorem dX2_write_0 : decode cX2_write 0 = .ok (.iconst 0, 1) := by decide +kernel
theorem dX2_write_1 : decode cX2_write 1 = .ok (.istore_n 3, 1) := by decide +kernel
theorem dX2_write_2 : decode cX2_write 2 = .ok (.iload_n 3, 1) := by decide +kernel
theorem dX2_write_3 : decode cX2_write 3 = .ok (.iload_n 2, 1) := by decide +kernel
theorem dX2_write_4 : decode cX2_write 4 = .ok (.if_icmp .ge 31, 3) := by decide +kernel
theorem dX2_write_7 : decode cX2_write 7 = .ok (.aload_n 1, 1) := by decide +kernel
theorem dX2_write_8 : decode cX2_write 8 = .ok (.iload_n 3, 1) := by decide +kernel
theorem dX2_write_9 : decode cX2_write 9 = .ok (.aload_n 0, 1) := by decide +kernel
theorem dX2_write_10 : decode cX2_write 10 = .ok (.getfield 9, 3) := by decide +kernel
theorem dX2_write_13 : decode cX2_write 13 = .ok (.iload_n 3, 1) := by decide +kernel
theorem dX2_write_14 : decode cX2_write 14 = .ok (.iconst 4, 1) := by decide +kernel
theorem dX2_write_15 : decode cX2_write 15 = .ok (.idiv, 1) := by decide +kernel
theorem dX2_write_16 : decode cX2_write 16 = .ok (.iaload, 1) := by decide +kernel
theorem dX2_write_17 : decode cX2_write 17 = .ok (.bipush 24, 2) := by decide +kernel
theorem dX2_write_19 : decode cX2_write 19 = .ok (.bipush 8, 2) := by decide +kernel
theorem dX2_write_21 : decode cX2_write 21 = .ok (.iload_n 3, 1) := by decide +kernel
theorem dX2_write_22 : decode cX2_write 22 = .ok (.iconst 4, 1) := by decide +kernel
theorem dX2_write_23 : decode cX2_write 23 = .ok (.irem, 1) := by decide +kernel
theorem dX2_write_24 : decode cX2_write 24 = .ok (.imul, 1) := by decide +kernel
theorem dX2_write_25 : decode cX2_write 25 = .ok (.isub, 1) := by decide +kernel
theorem dX2_write_26 : decode cX2_write 26 = .ok (.iushr, 1) := by decide +kernel
theorem dX2_write_27 : decode cX2_write 27 = .ok (.i2b, 1) := by decide +kernel
theorem dX2_write_28 : decode cX2_write 28 = .ok (.bastore, 1) := by decide +kernel
theorem dX2_write_29 : decode cX2_write 29 = .ok (.iinc 3 1, 3) := by decide +kernel
theorem dX2_write_32 : decode cX2_write 32 = .ok (.goto (-30), 3) := by decide +kernel
theorem dX2_write_35 : decode cX2_write 35 = .ok (.return_, 1) := by decide +kernel
theorem dX2_put_0 : decode cX2_put 0 = .ok (.aload_n 0, 1) := by decide +kernel
theorem dX2_put_1 : decode cX2_put 1 = .ok (.getfield 15, 3) := by decide +kernel
theorem dX2_put_4 : decode cX2_put 4 = .ok (.aload_n 0, 1) := by decide +kernel
theorem dX2_put_5 : decode cX2_put 5 = .ok (.getfield 24, 3) := by decide +kernel
theorem dX2_put_8 : decode cX2_put 8 = .ok (.iconst 4, 1) := by decide +kernel
theorem dX2_put_9 : decode cX2_put 9 = .ok (.idiv, 1) := by decide +kernel
theorem dX2_put_10 : decode cX2_put 10 = .ok (.aload_n 0, 1) := by decide +kernel
theorem dX2_put_11 : decode cX2_put 11 = .ok (.getfield 15, 3) := by decide +kernel
theorem dX2_put_14 : decode cX2_put 14 = .ok (.aload_n 0, 1) := by decide +kernel
theorem dX2_put_15 : decode cX2_put 15 = .ok (.getfield 24, 3) := by decide +kernel
theorem dX2_put_18 : decode cX2_put 18 = .ok (.iconst 4, 1) := by decide +kernel
theorem dX2_put_19 : decode cX2_put 19 = .ok (.idiv, 1) := by decide +kernel
theorem dX2_put_20 : decode cX2_put 20 = .ok (.iaload, 1) := by decide +kernel
theorem dX2_put_21 : decode cX2_put 21 = .ok (.bipush 8, 2) := by decide +kernel
theorem dX2_put_23 : decode cX2_put 23 = .ok (.ishl, 1) := by decide +kernel
theorem dX2_put_24 : decode cX2_put 24 = .ok (.iload_n 1, 1) := by decide +kernel
theorem dX2_put_25 : decode cX2_put 25 = .ok (.sipush 255, 3) := by decide +kernel
theorem dX2_put_28 : decode cX2_put 28 = .ok (.iand, 1) := by decide +kernel
theorem dX2_put_29 : decode cX2_put 29 = .ok (.ior, 1) := by decide +kernel
theorem dX2_put_30 : decode cX2_put 30 = .ok (.iastore, 1) := by decide +kernel
theorem dX2_put_31 : decode cX2_put 31 = .ok (.aload_n 0, 1) := by decide +kernel
theorem dX2_put_32 : decode cX2_put 32 = .ok (.dup, 1) := by decide +kernel
theorem dX2_put_33 : decode cX2_put 33 = .ok (.getfield 24, 3) := by decide +kernel
theorem dX2_put_36 : decode cX2_put 36 = .ok (.iconst 1, 1) := by decide +kernel
theorem dX2_put_37 : decode cX2_put 37 = .ok (.iadd, 1) := by decide +kernel
theorem dX2_put_38 : decode cX2_put 38 = .ok (.putfield 24, 3) := by decide +kernel
theorem dX2_put_41 : decode cX2_put 41 = .ok (.aload_n 0, 1) := by decide +kernel
theorem dX2_put_42 : decode cX2_put 42 = .ok (.getfield 24, 3) := by decide +kernel
theorem dX2_put_45 : decode cX2_put 45 = .ok (.bipush 64, 2) := by decide +kernel
theorem dX2_put_47 : decode cX2_put 47 = .ok (.if_icmp .ne 22, 3) := by decide +kernel
theorem dX2_put_50 : decode cX2_put 50 = .ok (.aload_n 0, 1) := by decide +kernel
theorem dX2_put_51 : decode cX2_put 51 = .ok (.iconst 0, 1) := by decide +kernel
theorem dX2_put_52 : decode cX2_put 52 = .ok (.putfield 24, 3) := by decide +kernel
theorem dX2_put_55 : decode cX2_put 55 = .ok (.aload_n 0, 1) := by decide +kernel
theorem dX2_put_56 : decode cX2_put 56 = .ok (.dup, 1) := by decide +kernel
theorem dX2_put_57 : decode cX2_put 57 = .ok (.getfield 31, 3) := by decide +kernel
theorem dX2_put_60 : decode cX2_put 60 = .ok (.iconst 1, 1) := by decide +kernel
theorem dX2_put_61 : decode cX2_put 61 = .ok (.iadd, 1) := by decide +kernel
theorem dX2_put_62 : decode cX2_put 62 = .ok (.putfield 31, 3) := by decide +kernel
theorem dX2_put_65 : decode cX2_put 65 = .ok (.aload_n 0, 1) := by decide +kernel
theorem dX2_put_66 : decode cX2_put 66 = .ok (.invokevirtual 40, 3) := by decide +kernel
theorem dX2_put_69 : decode cX2_put 69 = .ok (.return_, 1) := by decide +kernel
theorem dX2_work_0 : decode cX2_work 0 = .ok (.aload_n 0, 1) := by decide +kernel
theorem dX2_work_1 : decode cX2_work 1 = .ok (.getfield 15, 3) := by decide +kernel
theorem dX2_work_4 : decode cX2_work 4 = .ok (.invokestatic 43, 3) := by decide +kernel
theorem dX2_work_7 : decode cX2_work 7 = .ok (.aload_n 0, 1) := by decide +kernel
theorem dX2_work_8 : decode cX2_work 8 = .ok (.getfield 9, 3) := by decide +kernel
theorem dX2_work_11 : decode cX2_work 11 = .ok (.iconst 0, 1) := by decide +kernel
theorem dX2_work_12 : decode cX2_work 12 = .ok (.iaload, 1) := by decide +kernel
theorem dX2_work_13 : decode cX2_work 13 = .ok (.istore_n 1, 1) := by decide +kernel
theorem dX2_work_14 : decode cX2_work 14 = .ok (.aload_n 0, 1) := by decide +kernel
theorem dX2_work_15 : decode cX2_work 15 = .ok (.getfield 9, 3) := by decide +kernel
theorem dX2_work_18 : decode cX2_work 18 = .ok (.iconst 1, 1) := by decide +kernel
theorem dX2_work_19 : decode cX2_work 19 = .ok (.iaload, 1) := by decide +kernel
theorem dX2_work_20 : decode cX2_work 20 = .ok (.istore_n 2, 1) := by decide +kernel
theorem dX2_work_21 : decode cX2_work 21 = .ok (.aload_n 0, 1) := by decide +kernel
theorem dX2_work_22 : decode cX2_work 22 = .ok (.getfield 9, 3) := by decide +kernel
theorem dX2_work_25 : decode cX2_work 25 = .ok (.iconst 2, 1) := by decide +kernel
theorem dX2_work_26 : decode cX2_work 26 = .ok (.iaload, 1) := by decide +kernel
theorem dX2_work_27 : decode cX2_work 27 = .ok (.istore_n 3, 1) := by decide +kernel
theorem dX2_work_28 : decode cX2_work 28 = .ok (.aload_n 0, 1) := by decide +kernel
theorem dX2_work_29 : decode cX2_work 29 = .ok (.getfield 9, 3) := by decide +kernel
theorem dX2_work_32 : decode cX2_work 32 = .ok (.iconst 3, 1) := by decide +kernel
theorem dX2_work_33 : decode cX2_work 33 = .ok (.iaload, 1) := by decide +kernel
theorem dX2_work_34 : decode cX2_work 34 = .ok (.istore 4, 2) := by decide +kernel
theorem dX2_work_36 : decode cX2_work 36 = .ok (.aload_n 0, 1) := by decide +kernel
theorem dX2_work_37 : decode cX2_work 37 = .ok (.getfield 9, 3) := by decide +kernel
theorem dX2_work_40 : decode cX2_work 40 = .ok (.iconst 4, 1) := by decide +kernel
theorem dX2_work_41 : decode cX2_work 41 = .ok (.iaload, 1) := by decide +kernel
theorem dX2_work_42 : decode cX2_work 42 = .ok (.istore 5, 2) := by decide +kernel
theorem dX2_work_44 : decode cX2_work 44 = .ok (.aload_n 0, 1) := by decide +kernel
theorem dX2_work_45 : decode cX2_work 45 = .ok (.getfield 9, 3) := by decide +kernel
theorem dX2_work_48 : decode cX2_work 48 = .ok (.iconst 5, 1) := by decide +kernel
theorem dX2_work_49 : decode cX2_work 49 = .ok (.iaload, 1) := by decide +kernel
theorem dX2_work_50 : decode cX2_work 50 = .ok (.istore 6, 2) := by decide +kernel
theorem dX2_work_52 : decode cX2_work 52 = .ok (.aload_n 0, 1) := by decide +kernel
theorem dX2_work_53 : decode cX2_work 53 = .ok (.getfield 9, 3) := by decide +kernel
theorem dX2_work_56 : decode cX2_work 56 = .ok (.bipush 6, 2) := by decide +kernel
theorem dX2_work_58 : decode cX2_work 58 = .ok (.iaload, 1) := by decide +kernel
theorem dX2_work_59 : decode cX2_work 59 = .ok (.istore 7, 2) := by decide +kernel
theorem dX2_work_61 : decode cX2_work 61 = .ok (.aload_n 0, 1) := by decide +kernel
theorem dX2_work_62 : decode cX2_work 62 = .ok (.getfield 9, 3) := by decide +kernel
theorem dX2_work_65 : decode cX2_work 65 = .ok (.bipush 7, 2) := by decide +kernel
theorem dX2_work_67 : decode cX2_work 67 = .ok (.iaload, 1) := by decide +kernel
theorem dX2_work_68 : decode cX2_work 68 = .ok (.istore 8, 2) := by decide +kernel
theorem dX2_work_70 : decode cX2_work 70 = .ok (.iconst 0, 1) := by decide +kernel
theorem dX2_work_71 : decode cX2_work 71 = .ok (.istore 9, 2) := by decide +kernel
theorem dX2_work_73 : decode cX2_work 73 = .ok (.iload 9, 2) := by decide +kernel
theorem dX2_work_75 : decode cX2_work 75 = .ok (.bipush 64, 2) := by decide +kernel
theorem dX2_work_77 : decode cX2_work 77 = .ok (.if_icmp .ge 131, 3) := by decide +kernel
theorem dX2_work_80 : decode cX2_work 80 = .ok (.iload 8, 2) := by decide +kernel
theorem dX2_work_82 : decode cX2_work 82 = .ok (.iload 5, 2) := by decide +kernel
theorem dX2_work_84 : decode cX2_work 84 = .ok (.bipush 6, 2) := by decide +kernel
theorem dX2_work_86 : decode cX2_work 86 = .ok (.invokestatic 47, 3) := by decide +kernel
theorem dX2_work_89 : decode cX2_work 89 = .ok (.iload 5, 2) := by decide +kernel
theorem dX2_work_91 : decode cX2_work 91 = .ok (.bipush 11, 2) := by decide +kernel
theorem dX2_work_93 : decode cX2_work 93 = .ok (.invokestatic 47, 3) := by decide +kernel
theorem dX2_work_96 : decode cX2_work 96 = .ok (.ixor, 1) := by decide +kernel
theorem dX2_work_97 : decode cX2_work 97 = .ok (.iload 5, 2) := by decide +kernel
theorem dX2_work_99 : decode cX2_work 99 = .ok (.bipush 25, 2) := by decide +kernel
theorem dX2_work_101 : decode cX2_work 101 = .ok (.invokestatic 47, 3) := by decide +kernel
theorem dX2_work_104 : decode cX2_work 104 = .ok (.ixor, 1) := by decide +kernel
theorem dX2_work_105 : decode cX2_work 105 = .ok (.iadd, 1) := by decide +kernel
theorem dX2_work_106 : decode cX2_work 106 = .ok (.iload 5, 2) := by decide +kernel
theorem dX2_work_108 : decode cX2_work 108 = .ok (.iload 6, 2) := by decide +kernel
theorem dX2_work_110 : decode cX2_work 110 = .ok (.iand, 1) := by decide +kernel
theorem dX2_work_111 : decode cX2_work 111 = .ok (.iload 5, 2) := by decide +kernel
theorem dX2_work_113 : decode cX2_work 113 = .ok (.iconst (-1), 1) := by decide +kernel
theorem dX2_work_114 : decode cX2_work 114 = .ok (.ixor, 1) := by decide +kernel
theorem dX2_work_115 : decode cX2_work 115 = .ok (.iload 7, 2) := by decide +kernel
theorem dX2_work_117 : decode cX2_work 117 = .ok (.iand, 1) := by decide +kernel
theorem dX2_work_118 : decode cX2_work 118 = .ok (.ixor, 1) := by decide +kernel
theorem dX2_work_119 : decode cX2_work 119 = .ok (.iadd, 1) := by decide +kernel
theorem dX2_work_120 : decode cX2_work 120 = .ok (.getstatic 53, 3) := by decide +kernel
theorem dX2_work_123 : decode cX2_work 123 = .ok (.iload 9, 2) := by decide +kernel
theorem dX2_work_125 : decode cX2_work 125 = .ok (.iaload, 1) := by decide +kernel
theorem dX2_work_126 : decode cX2_work 126 = .ok (.iadd, 1) := by decide +kernel
theorem dX2_work_127 : decode cX2_work 127 = .ok (.aload_n 0, 1) := by decide +kernel
theorem dX2_work_128 : decode cX2_work 128 = .ok (.getfield 15, 3) := by decide +kernel
theorem dX2_work_131 : decode cX2_work 131 = .ok (.iload 9, 2) := by decide +kernel
theorem dX2_work_133 : decode cX2_work 133 = .ok (.iaload, 1) := by decide +kernel
theorem dX2_work_134 : decode cX2_work 134 = .ok (.iadd, 1) := by decide +kernel
theorem dX2_work_135 : decode cX2_work 135 = .ok (.istore 10, 2) := by decide +kernel
theorem dX2_work_137 : decode cX2_work 137 = .ok (.iload_n 1, 1) := by decide +kernel
theorem dX2_work_138 : decode cX2_work 138 = .ok (.iconst 2, 1) := by decide +kernel
theorem dX2_work_139 : decode cX2_work 139 = .ok (.invokestatic 47, 3) := by decide +kernel
theorem dX2_work_142 : decode cX2_work 142 = .ok (.iload_n 1, 1) := by decide +kernel
theorem dX2_work_143 : decode cX2_work 143 = .ok (.bipush 13, 2) := by decide +kernel
theorem dX2_work_145 : decode cX2_work 145 = .ok (.invokestatic 47, 3) := by decide +kernel
theorem dX2_work_148 : decode cX2_work 148 = .ok (.ixor, 1) := by decide +kernel
theorem dX2_work_149 : decode cX2_work 149 = .ok (.iload_n 1, 1) := by decide +kernel
theorem dX2_work_150 : decode cX2_work 150 = .ok (.bipush 22, 2) := by decide +kernel
theorem dX2_work_152 : decode cX2_work 152 = .ok (.invokestatic 47, 3) := by decide +kernel
theorem dX2_work_155 : decode cX2_work 155 = .ok (.ixor, 1) := by decide +kernel
theorem dX2_work_156 : decode cX2_work 156 = .ok (.iload_n 1, 1) := by decide +kernel
theorem dX2_work_157 : decode cX2_work 157 = .ok (.iload_n 2, 1) := by decide +kernel
theorem dX2_work_158 : decode cX2_work 158 = .ok (.iand, 1) := by decide +kernel
theorem dX2_work_159 : decode cX2_work 159 = .ok (.iload_n 1, 1) := by decide +kernel
theorem dX2_work_160 : decode cX2_work 160 = .ok (.iload_n 3, 1) := by decide +kernel
theorem dX2_work_161 : decode cX2_work 161 = .ok (.iand, 1) := by decide +kernel
theorem dX2_work_162 : decode cX2_work 162 = .ok (.ixor, 1) := by decide +kernel
theorem dX2_work_163 : decode cX2_work 163 = .ok (.iload_n 2, 1) := by decide +kernel
theorem dX2_work_164 : decode cX2_work 164 = .ok (.iload_n 3, 1) := by decide +kernel
theorem dX2_work_165 : decode cX2_work 165 = .ok (.iand, 1) := by decide +kernel
theorem dX2_work_166 : decode cX2_work 166 = .ok (.ixor, 1) := by decide +kernel
theorem dX2_work_167 : decode cX2_work 167 = .ok (.iadd, 1) := by decide +kernel
theorem dX2_work_168 : decode cX2_work 168 = .ok (.istore 11, 2) := by decide +kernel
theorem dX2_work_170 : decode cX2_work 170 = .ok (.iload 7, 2) := by decide +kernel
theorem dX2_work_172 : decode cX2_work 172 = .ok (.istore 8, 2) := by decide +kernel
theorem dX2_work_174 : decode cX2_work 174 = .ok (.iload 6, 2) := by decide +kernel
theorem dX2_work_176 : decode cX2_work 176 = .ok (.istore 7, 2) := by decide +kernel
theorem dX2_work_178 : decode cX2_work 178 = .ok (.iload 5, 2) := by decide +kernel
theorem dX2_work_180 : decode cX2_work 180 = .ok (.istore 6, 2) := by decide +kernel
theorem dX2_work_182 : decode cX2_work 182 = .ok (.iload 4, 2) := by decide +kernel
theorem dX2_work_184 : decode cX2_work 184 = .ok (.iload 10, 2) := by decide +kernel
theorem dX2_work_186 : decode cX2_work 186 = .ok (.iadd, 1) := by decide +kernel
theorem dX2_work_187 : decode cX2_work 187 = .ok (.istore 5, 2) := by decide +kernel
theorem dX2_work_189 : decode cX2_work 189 = .ok (.iload_n 3, 1) := by decide +kernel
theorem dX2_work_190 : decode cX2_work 190 = .ok (.istore 4, 2) := by decide +kernel
theorem dX2_work_192 : decode cX2_work 192 = .ok (.iload_n 2, 1) := by decide +kernel
theorem dX2_work_193 : decode cX2_work 193 = .ok (.istore_n 3, 1) := by decide +kernel
theorem dX2_work_194 : decode cX2_work 194 = .ok (.iload_n 1, 1) := by decide +kernel
theorem dX2_work_195 : decode cX2_work 195 = .ok (.istore_n 2, 1) := by decide +kernel
theorem dX2_work_196 : decode cX2_work 196 = .ok (.iload 10, 2) := by decide +kernel
theorem dX2_work_198 : decode cX2_work 198 = .ok (.iload 11, 2) := by decide +kernel
theorem dX2_work_200 : decode cX2_work 200 = .ok (.iadd, 1) := by decide +kernel
theorem dX2_work_201 : decode cX2_work 201 = .ok (.istore_n 1, 1) := by decide +kernel
theorem dX2_work_202 : decode cX2_work 202 = .ok (.iinc 9 1, 3) := by decide +kernel
theorem dX2_work_205 : decode cX2_work 205 = .ok (.goto (-132), 3) := by decide +kernel
theorem dX2_work_208 : decode cX2_work 208 = .ok (.aload_n 0, 1) := by decide +kernel
theorem dX2_work_209 : decode cX2_work 209 = .ok (.getfield 9, 3) := by decide +kernel
theorem dX2_work_212 : decode cX2_work 212 = .ok (.iconst 0, 1) := by decide +kernel
theorem dX2_work_213 : decode cX2_work 213 = .ok (.dup2, 1) := by decide +kernel
theorem dX2_work_214 : decode cX2_work 214 = .ok (.iaload, 1) := by decide +kernel
theorem dX2_work_215 : decode cX2_work 215 = .ok (.iload_n 1, 1) := by decide +kernel
theorem dX2_work_216 : decode cX2_work 216 = .ok (.iadd, 1) := by decide +kernel
theorem dX2_work_217 : decode cX2_work 217 = .ok (.iastore, 1) := by decide +kernel
theorem dX2_work_218 : decode cX2_work 218 = .ok (.aload_n 0, 1) := by decide +kernel
theorem dX2_work_219 : decode cX2_work 219 = .ok (.getfield 9, 3) := by decide +kernel
theorem dX2_work_222 : decode cX2_work 222 = .ok (.iconst 1, 1) := by decide +kernel
theorem dX2_work_223 : decode cX2_work 223 = .ok (.dup2, 1) := by decide +kernel
theorem dX2_work_224 : decode cX2_work 224 = .ok (.iaload, 1) := by decide +kernel
theorem dX2_work_225 : decode cX2_work 225 = .ok (.iload_n 2, 1) := by decide +kernel
theorem dX2_work_226 : decode cX2_work 226 = .ok (.iadd, 1) := by decide +kernel
theorem dX2_work_227 : decode cX2_work 227 = .ok (.iastore, 1) := by decide +kernel
theorem dX2_work_228 : decode cX2_work 228 = .ok (.aload_n 0, 1) := by decide +kernel
theorem dX2_work_229 : decode cX2_work 229 = .ok (.getfield 9, 3) := by decide +kernel
theorem dX2_work_232 : decode cX2_work 232 = .ok (.iconst 2, 1) := by decide +kernel
theorem dX2_work_233 : decode cX2_work 233 = .ok (.dup2, 1) := by decide +kernel
theorem dX2_work_234 : decode cX2_work 234 = .ok (.iaload, 1) := by decide +kernel
theorem dX2_work_235 : decode cX2_work 235 = .ok (.iload_n 3, 1) := by decide +kernel
theorem dX2_work_236 : decode cX2_work 236 = .ok (.iadd, 1) := by decide +kernel
theorem dX2_work_237 : decode cX2_work 237 = .ok (.iastore, 1) := by decide +kernel
theorem dX2_work_238 : decode cX2_work 238 = .ok (.aload_n 0, 1) := by decide +kernel
theorem dX2_work_239 : decode cX2_work 239 = .ok (.getfield 9, 3) := by decide +kernel
theorem dX2_work_242 : decode cX2_work 242 = .ok (.iconst 3, 1) := by decide +kernel
theorem dX2_work_243 : decode cX2_work 243 = .ok (.dup2, 1) := by decide +kernel
theorem dX2_work_244 : decode cX2_work 244 = .ok (.iaload, 1) := by decide +kernel
theorem dX2_work_245 : decode cX2_work 245 = .ok (.iload 4, 2) := by decide +kernel
theorem dX2_work_247 : decode cX2_work 247 = .ok (.iadd, 1) := by decide +kernel
theorem dX2_work_248 : decode cX2_work 248 = .ok (.iastore, 1) := by decide +kernel
theorem dX2_work_249 : decode cX2_work 249 = .ok (.aload_n 0, 1) := by decide +kernel
theorem dX2_work_250 : decode cX2_work 250 = .ok (.getfield 9, 3) := by decide +kernel
theorem dX2_work_253 : decode cX2_work 253 = .ok (.iconst 4, 1) := by decide +kernel
theorem dX2_work_254 : decode cX2_work 254 = .ok (.dup2, 1) := by decide +kernel
theorem dX2_work_255 : decode cX2_work 255 = .ok (.iaload, 1) := by decide +kernel
theorem dX2_work_256 : decode cX2_work 256 = .ok (.iload 5, 2) := by decide +kernel
theorem dX2_work_258 : decode cX2_work 258 = .ok (.iadd, 1) := by decide +kernel
theorem dX2_work_259 : decode cX2_work 259 = .ok (.iastore, 1) := by decide +kernel
theorem dX2_work_260 : decode cX2_work 260 = .ok (.aload_n 0, 1) := by decide +kernel
theorem dX2_work_261 : decode cX2_work 261 = .ok (.getfield 9, 3) := by decide +kernel
theorem dX2_work_264 : decode cX2_work 264 = .ok (.iconst 5, 1) := by decide +kernel
theorem dX2_work_265 : decode cX2_work 265 = .ok (.dup2, 1) := by decide +kernel
theorem dX2_work_266 : decode cX2_work 266 = .ok (.iaload, 1) := by decide +kernel
theorem dX2_work_267 : decode cX2_work 267 = .ok (.iload 6, 2) := by decide +kernel
theorem dX2_work_269 : decode cX2_work 269 = .ok (.iadd, 1) := by decide +kernel
theorem dX2_work_270 : decode cX2_work 270 = .ok (.iastore, 1) := by decide +kernel
theorem dX2_work_271 : decode cX2_work 271 = .ok (.aload_n 0, 1) := by decide +kernel
theorem dX2_work_272 : decode cX2_work 272 = .ok (.getfield 9, 3) := by decide +kernel
theorem dX2_work_275 : decode cX2_work 275 = .ok (.bipush 6, 2) := by decide +kernel
theorem dX2_work_277 : decode cX2_work 277 = .ok (.dup2, 1) := by decide +kernel
theorem dX2_work_278 : decode cX2_work 278 = .ok (.iaload, 1) := by decide +kernel
theorem dX2_work_279 : decode cX2_work 279 = .ok (.iload 7, 2) := by decide +kernel
theorem dX2_work_281 : decode cX2_work 281 = .ok (.iadd, 1) := by decide +kernel
theorem dX2_work_282 : decode cX2_work 282 = .ok (.iastore, 1) := by decide +kernel
theorem dX2_work_283 : decode cX2_work 283 = .ok (.aload_n 0, 1) := by decide +kernel
theorem dX2_work_284 : decode cX2_work 284 = .ok (.getfield 9, 3) := by decide +kernel
theorem dX2_work_287 : decode cX2_work 287 = .ok (.bipush 7, 2) := by decide +kernel
theorem dX2_work_289 : decode cX2_work 289 = .ok (.dup2, 1) := by decide +kernel
theorem dX2_work_290 : decode cX2_work 290 = .ok (.iaload, 1) := by decide +kernel
theorem dX2_work_291 : decode cX2_work 291 = .ok (.iload 8, 2) := by decide +kernel
theorem dX2_work_293 : decode cX2_work 293 = .ok (.iadd, 1) := by decide +kernel
theorem dX2_work_294 : decode cX2_work 294 = .ok (.iastore, 1) := by decide +kernel
theorem dX2_work_295 : decode cX2_work 295 = .ok (.return_, 1) := by decide +kernel
theorem dX3_init_0 : decode cX3_init 0 = .ok (.aload_n 0, 1) := by decide +kernel
theorem dX3_init_1 : decode cX3_init 1 = .ok (.invokespecial 3, 3) := by decide +kernel
theorem dX3_init_4 : decode cX3_init 4 = .ok (.aload_n 0, 1) := by decide +kernel
theorem dX3_init_5 : decode cX3_init 5 = .ok (.iconst 4, 1) := by decide +kernel
theorem dX3_init_6 : decode cX3_init 6 = .ok (.bipush 32, 2) := by decide +kernel
theorem dX3_init_8 : decode cX3_init 8 = .ok (.multianewarray 9 2, 4) := by decide +kernel
theorem dX3_init_12 : decode cX3_init 12 = .ok (.putfield 11, 3) := by decide +kernel
theorem dX3_init_15 : decode cX3_init 15 = .ok (.return_, 1) := by decide +kernel
theorem dX3_due_0 : decode cX3_due 0 = .ok (.iconst 0, 1) := by decide +kernel
theorem dX3_due_1 : decode cX3_due 1 = .ok (.istore_n 2, 1) := by decide +kernel
theorem dX3_due_2 : decode cX3_due 2 = .ok (.iload_n 1, 1) := by decide +kernel
theorem dX3_due_3 : decode cX3_due 3 = .ok (.istore_n 3, 1) := by decide +kernel
theorem dX3_due_4 : decode cX3_due 4 = .ok (.iload_n 0, 1) := by decide +kernel
theorem dX3_due_5 : decode cX3_due 5 = .ok (.istore 4, 2) := by decide +kernel
theorem dX3_due_7 : decode cX3_due 7 = .ok (.iload 4, 2) := by decide +kernel
theorem dX3_due_9 : decode cX3_due 9 = .ok (.iconst 1, 1) := by decide +kernel
theorem dX3_due_10 : decode cX3_due 10 = .ok (.if_icmp .le 29, 3) := by decide +kernel
theorem dX3_due_13 : decode cX3_due 13 = .ok (.iload_n 3, 1) := by decide +kernel
theorem dX3_due_14 : decode cX3_due 14 = .ok (.iconst 1, 1) := by decide +kernel
theorem dX3_due_15 : decode cX3_due 15 = .ok (.ixor, 1) := by decide +kernel
theorem dX3_due_16 : decode cX3_due 16 = .ok (.iload 4, 2) := by decide +kernel
theorem dX3_due_18 : decode cX3_due 18 = .ok (.if_icmp .ge 6, 3) := by decide +kernel
theorem dX3_due_21 : decode cX3_due 21 = .ok (.iinc 2 1, 3) := by decide +kernel
theorem dX3_due_24 : decode cX3_due 24 = .ok (.iload_n 3, 1) := by decide +kernel
theorem dX3_due_25 : decode cX3_due 25 = .ok (.iconst 2, 1) := by decide +kernel
theorem dX3_due_26 : decode cX3_due 26 = .ok (.idiv, 1) := by decide +kernel
theorem dX3_due_27 : decode cX3_due 27 = .ok (.istore_n 3, 1) := by decide +kernel
theorem dX3_due_28 : decode cX3_due 28 = .ok (.iload 4, 2) := by decide +kernel
theorem dX3_due_30 : decode cX3_due 30 = .ok (.iconst 1, 1) := by decide +kernel
theorem dX3_due_31 : decode cX3_due 31 = .ok (.iadd, 1) := by decide +kernel
theorem dX3_due_32 : decode cX3_due 32 = .ok (.iconst 2, 1) := by decide +kernel
theorem dX3_due_33 : decode cX3_due 33 = .ok (.idiv, 1) := by decide +kernel
theorem dX3_due_34 : decode cX3_due 34 = .ok (.istore 4, 2) := by decide +kernel
theorem dX3_due_36 : decode cX3_due 36 = .ok (.goto (-29), 3) := by decide +kernel
theorem dX3_due_39 : decode cX3_due 39 = .ok (.iload_n 2, 1) := by decide +kernel
theorem dX3_due_40 : decode cX3_due 40 = .ok (.ireturn, 1) := by decide +kernel
theorem dX3_gather_0 : decode cX3_gather 0 = .ok (.aload_n 0, 1) := by decide +kernel
theorem dX3_gather_1 : decode cX3_gather 1 = .ok (.iconst 0, 1) := by decide +kernel
theorem dX3_gather_2 : decode cX3_gather 2 = .ok (.putfield 16, 3) := by decide +kernel
theorem dX3_gather_5 : decode cX3_gather 5 = .ok (.iconst 0, 1) := by decide +kernel
theorem dX3_gather_6 : decode cX3_gather 6 = .ok (.istore_n 3, 1) := by decide +kernel
theorem dX3_gather_7 : decode cX3_gather 7 = .ok (.iload_n 2, 1) := by decide +kernel
theorem dX3_gather_8 : decode cX3_gather 8 = .ok (.istore 4, 2) := by decide +kernel
theorem dX3_gather_10 : decode cX3_gather 10 = .ok (.aload_n 1, 1) := by decide +kernel
theorem dX3_gather_11 : decode cX3_gather 11 = .ok (.getfield 20, 3) := by decide +kernel
theorem dX3_gather_14 : decode cX3_gather 14 = .ok (.istore 5, 2) := by decide +kernel
theorem dX3_gather_16 : decode cX3_gather 16 = .ok (.iload 5, 2) := by decide +kernel
theorem dX3_gather_18 : decode cX3_gather 18 = .ok (.iconst 1, 1) := by decide +kernel
theorem dX3_gather_19 : decode cX3_gather 19 = .ok (.if_icmp .le 73, 3) := by decide +kernel
theorem dX3_gather_22 : decode cX3_gather 22 = .ok (.iload 4, 2) := by decide +kernel
theorem dX3_gather_24 : decode cX3_gather 24 = .ok (.iconst 1, 1) := by decide +kernel
theorem dX3_gather_25 : decode cX3_gather 25 = .ok (.ixor, 1) := by decide +kernel
theorem dX3_gather_26 : decode cX3_gather 26 = .ok (.istore 6, 2) := by decide +kernel
theorem dX3_gather_28 : decode cX3_gather 28 = .ok (.iload 6, 2) := by decide +kernel
theorem dX3_gather_30 : decode cX3_gather 30 = .ok (.iload 5, 2) := by decide +kernel
theorem dX3_gather_32 : decode cX3_gather 32 = .ok (.if_icmp .ge 38, 3) := by decide +kernel
theorem dX3_gather_35 : decode cX3_gather 35 = .ok (.aload_n 1, 1) := by decide +kernel
theorem dX3_gather_36 : decode cX3_gather 36 = .ok (.getfield 23, 3) := by decide +kernel
theorem dX3_gather_39 : decode cX3_gather 39 = .ok (.iload_n 3, 1) := by decide +kernel
theorem dX3_gather_40 : decode cX3_gather 40 = .ok (.iload 6, 2) := by decide +kernel
theorem dX3_gather_42 : decode cX3_gather 42 = .ok (.iadd, 1) := by decide +kernel
theorem dX3_gather_43 : decode cX3_gather 43 = .ok (.aaload, 1) := by decide +kernel
theorem dX3_gather_44 : decode cX3_gather 44 = .ok (.iconst 0, 1) := by decide +kernel
theorem dX3_gather_45 : decode cX3_gather 45 = .ok (.aload_n 0, 1) := by decide +kernel
theorem dX3_gather_46 : decode cX3_gather 46 = .ok (.getfield 11, 3) := by decide +kernel
theorem dX3_gather_49 : decode cX3_gather 49 = .ok (.aload_n 0, 1) := by decide +kernel
theorem dX3_gather_50 : decode cX3_gather 50 = .ok (.getfield 16, 3) := by decide +kernel
theorem dX3_gather_53 : decode cX3_gather 53 = .ok (.aaload, 1) := by decide +kernel
theorem dX3_gather_54 : decode cX3_gather 54 = .ok (.iconst 0, 1) := by decide +kernel
theorem dX3_gather_55 : decode cX3_gather 55 = .ok (.bipush 32, 2) := by decide +kernel
theorem dX3_gather_57 : decode cX3_gather 57 = .ok (.invokestatic 26, 3) := by decide +kernel
theorem dX3_gather_60 : decode cX3_gather 60 = .ok (.aload_n 0, 1) := by decide +kernel
theorem dX3_gather_61 : decode cX3_gather 61 = .ok (.dup, 1) := by decide +kernel
theorem dX3_gather_62 : decode cX3_gather 62 = .ok (.getfield 16, 3) := by decide +kernel
theorem dX3_gather_65 : decode cX3_gather 65 = .ok (.iconst 1, 1) := by decide +kernel
theorem dX3_gather_66 : decode cX3_gather 66 = .ok (.iadd, 1) := by decide +kernel
theorem dX3_gather_67 : decode cX3_gather 67 = .ok (.putfield 16, 3) := by decide +kernel
theorem dX3_gather_70 : decode cX3_gather 70 = .ok (.iload_n 3, 1) := by decide +kernel
theorem dX3_gather_71 : decode cX3_gather 71 = .ok (.iload 5, 2) := by decide +kernel
theorem dX3_gather_73 : decode cX3_gather 73 = .ok (.iadd, 1) := by decide +kernel
theorem dX3_gather_74 : decode cX3_gather 74 = .ok (.istore_n 3, 1) := by decide +kernel
theorem dX3_gather_75 : decode cX3_gather 75 = .ok (.iload 4, 2) := by decide +kernel
theorem dX3_gather_77 : decode cX3_gather 77 = .ok (.iconst 2, 1) := by decide +kernel
theorem dX3_gather_78 : decode cX3_gather 78 = .ok (.idiv, 1) := by decide +kernel
theorem dX3_gather_79 : decode cX3_gather 79 = .ok (.istore 4, 2) := by decide +kernel
theorem dX3_gather_81 : decode cX3_gather 81 = .ok (.iload 5, 2) := by decide +kernel
theorem dX3_gather_83 : decode cX3_gather 83 = .ok (.iconst 1, 1) := by decide +kernel
theorem dX3_gather_84 : decode cX3_gather 84 = .ok (.iadd, 1) := by decide +kernel
theorem dX3_gather_85 : decode cX3_gather 85 = .ok (.iconst 2, 1) := by decide +kernel
theorem dX3_gather_86 : decode cX3_gather 86 = .ok (.idiv, 1) := by decide +kernel
theorem dX3_gather_87 : decode cX3_gather 87 = .ok (.istore 5, 2) := by decide +kernel
theorem dX3_gather_89 : decode cX3_gather 89 = .ok (.goto (-73), 3) := by decide +kernel
theorem dX3_gather_92 : decode cX3_gather 92 = .ok (.return_, 1) := by decide +kernel
theorem dX3_follow_0 : decode cX3_follow 0 = .ok (.iconst 0, 1) := by decide +kernel
theorem dX3_follow_1 : decode cX3_follow 1 = .ok (.istore 5, 2) := by decide +kernel
theorem dX3_follow_3 : decode cX3_follow 3 = .ok (.iload_n 3, 1) := by decide +kernel
theorem dX3_follow_4 : decode cX3_follow 4 = .ok (.istore 6, 2) := by decide +kernel
theorem dX3_follow_6 : decode cX3_follow 6 = .ok (.iload_n 2, 1) := by decide +kernel
theorem dX3_follow_7 : decode cX3_follow 7 = .ok (.istore 7, 2) := by decide +kernel
theorem dX3_follow_9 : decode cX3_follow 9 = .ok (.iload 7, 2) := by decide +kernel
theorem dX3_follow_11 : decode cX3_follow 11 = .ok (.iconst 1, 1) := by decide +kernel
theorem dX3_follow_12 : decode cX3_follow 12 = .ok (.if_icmp .le 87, 3) := by decide +kernel
theorem dX3_follow_15 : decode cX3_follow 15 = .ok (.iload 6, 2) := by decide +kernel
theorem dX3_follow_17 : decode cX3_follow 17 = .ok (.iconst 1, 1) := by decide +kernel
theorem dX3_follow_18 : decode cX3_follow 18 = .ok (.ixor, 1) := by decide +kernel
theorem dX3_follow_19 : decode cX3_follow 19 = .ok (.iload 7, 2) := by decide +kernel
theorem dX3_follow_21 : decode cX3_follow 21 = .ok (.if_icmp .ge 61, 3) := by decide +kernel
theorem dX3_follow_24 : decode cX3_follow 24 = .ok (.iload 6, 2) := by decide +kernel
theorem dX3_follow_26 : decode cX3_follow 26 = .ok (.iconst 2, 1) := by decide +kernel
theorem dX3_follow_27 : decode cX3_follow 27 = .ok (.irem, 1) := by decide +kernel
theorem dX3_follow_28 : decode cX3_follow 28 = .ok (.iconst 1, 1) := by decide +kernel
theorem dX3_follow_29 : decode cX3_follow 29 = .ok (.if_icmp .ne 7, 3) := by decide +kernel
theorem dX3_follow_32 : decode cX3_follow 32 = .ok (.iconst 1, 1) := by decide +kernel
theorem dX3_follow_33 : decode cX3_follow 33 = .ok (.goto 4, 3) := by decide +kernel
theorem dX3_follow_36 : decode cX3_follow 36 = .ok (.iconst 0, 1) := by decide +kernel
theorem dX3_follow_37 : decode cX3_follow 37 = .ok (.istore 8, 2) := by decide +kernel
theorem dX3_follow_39 : decode cX3_follow 39 = .ok (.aload_n 1, 1) := by decide +kernel
theorem dX3_follow_40 : decode cX3_follow 40 = .ok (.iload 8, 2) := by decide +kernel
theorem dX3_follow_42 : decode cX3_follow 42 = .ok (.ifCond .eq 13, 3) := by decide +kernel
theorem dX3_follow_45 : decode cX3_follow 45 = .ok (.aload_n 0, 1) := by decide +kernel
theorem dX3_follow_46 : decode cX3_follow 46 = .ok (.getfield 11, 3) := by decide +kernel
theorem dX3_follow_49 : decode cX3_follow 49 = .ok (.iload 5, 2) := by decide +kernel
theorem dX3_follow_51 : decode cX3_follow 51 = .ok (.aaload, 1) := by decide +kernel
theorem dX3_follow_52 : decode cX3_follow 52 = .ok (.goto 5, 3) := by decide +kernel
theorem dX3_follow_55 : decode cX3_follow 55 = .ok (.aload 4, 2) := by decide +kernel
theorem dX3_follow_57 : decode cX3_follow 57 = .ok (.iload 8, 2) := by decide +kernel
theorem dX3_follow_59 : decode cX3_follow 59 = .ok (.ifCond .eq 8, 3) := by decide +kernel
theorem dX3_follow_62 : decode cX3_follow 62 = .ok (.aload 4, 2) := by decide +kernel
theorem dX3_follow_64 : decode cX3_follow 64 = .ok (.goto 10, 3) := by decide +kernel
theorem dX3_follow_67 : decode cX3_follow 67 = .ok (.aload_n 0, 1) := by decide +kernel
theorem dX3_follow_68 : decode cX3_follow 68 = .ok (.getfield 11, 3) := by decide +kernel
theorem dX3_follow_71 : decode cX3_follow 71 = .ok (.iload 5, 2) := by decide +kernel
theorem dX3_follow_73 : decode cX3_follow 73 = .ok (.aaload, 1) := by decide +kernel
theorem dX3_follow_74 : decode cX3_follow 74 = .ok (.aload 4, 2) := by decide +kernel
theorem dX3_follow_76 : decode cX3_follow 76 = .ok (.invokestatic 32, 3) := by decide +kernel
theorem dX3_follow_79 : decode cX3_follow 79 = .ok (.iinc 5 1, 3) := by decide +kernel
theorem dX3_follow_82 : decode cX3_follow 82 = .ok (.iload 6, 2) := by decide +kernel
theorem dX3_follow_84 : decode cX3_follow 84 = .ok (.iconst 2, 1) := by decide +kernel
theorem dX3_follow_85 : decode cX3_follow 85 = .ok (.idiv, 1) := by decide +kernel
theorem dX3_follow_86 : decode cX3_follow 86 = .ok (.istore 6, 2) := by decide +kernel
theorem dX3_follow_88 : decode cX3_follow 88 = .ok (.iload 7, 2) := by decide +kernel
theorem dX3_follow_90 : decode cX3_follow 90 = .ok (.iconst 1, 1) := by decide +kernel
theorem dX3_follow_91 : decode cX3_follow 91 = .ok (.iadd, 1) := by decide +kernel
theorem dX3_follow_92 : decode cX3_follow 92 = .ok (.iconst 2, 1) := by decide +kernel
theorem dX3_follow_93 : decode cX3_follow 93 = .ok (.idiv, 1) := by decide +kernel
theorem dX3_follow_94 : decode cX3_follow 94 = .ok (.istore 7, 2) := by decide +kernel
theorem dX3_follow_96 : decode cX3_follow 96 = .ok (.goto (-87), 3) := by decide +kernel
theorem dX3_follow_99 : decode cX3_follow 99 = .ok (.return_, 1) := by decide +kernel
theorem dX4_init_0 : decode cX4_init 0 = .ok (.aload_n 0, 1) := by decide +kernel
theorem dX4_init_1 : decode cX4_init 1 = .ok (.invokespecial 3, 3) := by decide +kernel
theorem dX4_init_4 : decode cX4_init 4 = .ok (.aload_n 0, 1) := by decide +kernel
theorem dX4_init_5 : decode cX4_init 5 = .ok (.bipush 60, 2) := by decide +kernel
theorem dX4_init_7 : decode cX4_init 7 = .ok (.bipush 32, 2) := by decide +kernel
theorem dX4_init_9 : decode cX4_init 9 = .ok (.multianewarray 9 2, 4) := by decide +kernel
theorem dX4_init_13 : decode cX4_init 13 = .ok (.putfield 11, 3) := by decide +kernel
theorem dX4_init_16 : decode cX4_init 16 = .ok (.aload_n 0, 1) := by decide +kernel
theorem dX4_init_17 : decode cX4_init 17 = .ok (.bipush 60, 2) := by decide +kernel
theorem dX4_init_19 : decode cX4_init 19 = .ok (.bipush 16, 2) := by decide +kernel
theorem dX4_init_21 : decode cX4_init 21 = .ok (.multianewarray 16 2, 4) := by decide +kernel
theorem dX4_init_25 : decode cX4_init 25 = .ok (.putfield 18, 3) := by decide +kernel
theorem dX4_init_28 : decode cX4_init 28 = .ok (.aload_n 0, 1) := by decide +kernel
theorem dX4_init_29 : decode cX4_init 29 = .ok (.bipush 60, 2) := by decide +kernel
theorem dX4_init_31 : decode cX4_init 31 = .ok (.newarray .int, 2) := by decide +kernel
theorem dX4_init_33 : decode cX4_init 33 = .ok (.putfield 21, 3) := by decide +kernel
theorem dX4_init_36 : decode cX4_init 36 = .ok (.aload_n 0, 1) := by decide +kernel
theorem dX4_init_37 : decode cX4_init 37 = .ok (.bipush 60, 2) := by decide +kernel
theorem dX4_init_39 : decode cX4_init 39 = .ok (.newarray .int, 2) := by decide +kernel
theorem dX4_init_41 : decode cX4_init 41 = .ok (.putfield 25, 3) := by decide +kernel
theorem dX4_init_44 : decode cX4_init 44 = .ok (.aload_n 0, 1) := by decide +kernel
theorem dX4_init_45 : decode cX4_init 45 = .ok (.bipush 64, 2) := by decide +kernel
theorem dX4_init_47 : decode cX4_init 47 = .ok (.newarray .int, 2) := by decide +kernel
theorem dX4_init_49 : decode cX4_init 49 = .ok (.putfield 28, 3) := by decide +kernel
theorem dX4_init_52 : decode cX4_init 52 = .ok (.return_, 1) := by decide +kernel
theorem dX4_has_0 : decode cX4_has 0 = .ok (.iload_n 1, 1) := by decide +kernel
theorem dX4_has_1 : decode cX4_has 1 = .ok (.ifCond .lt 15, 3) := by decide +kernel
theorem dX4_has_4 : decode cX4_has 4 = .ok (.iload_n 1, 1) := by decide +kernel
theorem dX4_has_5 : decode cX4_has 5 = .ok (.aload_n 0, 1) := by decide +kernel
theorem dX4_has_6 : decode cX4_has 6 = .ok (.getfield 31, 3) := by decide +kernel
theorem dX4_has_9 : decode cX4_has 9 = .ok (.if_icmp .ge 7, 3) := by decide +kernel
theorem dX4_has_12 : decode cX4_has 12 = .ok (.iconst 1, 1) := by decide +kernel
theorem dX4_has_13 : decode cX4_has 13 = .ok (.goto 4, 3) := by decide +kernel
theorem dX4_has_16 : decode cX4_has 16 = .ok (.iconst 0, 1) := by decide +kernel
theorem dX4_has_17 : decode cX4_has 17 = .ok (.ireturn, 1) := by decide +kernel
theorem dX4_isFull_0 : decode cX4_isFull 0 = .ok (.aload_n 0, 1) := by decide +kernel
theorem dX4_isFull_1 : decode cX4_isFull 1 = .ok (.getfield 31, 3) := by decide +kernel
theorem dX4_isFull_4 : decode cX4_isFull 4 = .ok (.bipush 60, 2) := by decide +kernel
theorem dX4_isFull_6 : decode cX4_isFull 6 = .ok (.if_icmp .lt 7, 3) := by decide +kernel
theorem dX4_isFull_9 : decode cX4_isFull 9 = .ok (.iconst 1, 1) := by decide +kernel
theorem dX4_isFull_10 : decode cX4_isFull 10 = .ok (.goto 4, 3) := by decide +kernel
theorem dX4_isFull_13 : decode cX4_isFull 13 = .ok (.iconst 0, 1) := by decide +kernel
theorem dX4_isFull_14 : decode cX4_isFull 14 = .ok (.ireturn, 1) := by decide +kernel
theorem dX4_add_0 : decode cX4_add 0 = .ok (.aload_n 0, 1) := by decide +kernel
theorem dX4_add_1 : decode cX4_add 1 = .ok (.getfield 31, 3) := by decide +kernel
theorem dX4_add_4 : decode cX4_add 4 = .ok (.istore 4, 2) := by decide +kernel
theorem dX4_add_6 : decode cX4_add 6 = .ok (.aload_n 0, 1) := by decide +kernel
theorem dX4_add_7 : decode cX4_add 7 = .ok (.getfield 21, 3) := by decide +kernel
theorem dX4_add_10 : decode cX4_add 10 = .ok (.iload 4, 2) := by decide +kernel
theorem dX4_add_12 : decode cX4_add 12 = .ok (.iload_n 1, 1) := by decide +kernel
theorem dX4_add_13 : decode cX4_add 13 = .ok (.iastore, 1) := by decide +kernel
theorem dX4_add_14 : decode cX4_add 14 = .ok (.aload_n 0, 1) := by decide +kernel
theorem dX4_add_15 : decode cX4_add 15 = .ok (.getfield 25, 3) := by decide +kernel
theorem dX4_add_18 : decode cX4_add 18 = .ok (.iload 4, 2) := by decide +kernel
theorem dX4_add_20 : decode cX4_add 20 = .ok (.iload_n 2, 1) := by decide +kernel
theorem dX4_add_21 : decode cX4_add 21 = .ok (.iastore, 1) := by decide +kernel
theorem dX4_add_22 : decode cX4_add 22 = .ok (.aload_n 3, 1) := by decide +kernel
theorem dX4_add_23 : decode cX4_add 23 = .ok (.aload_n 0, 1) := by decide +kernel
theorem dX4_add_24 : decode cX4_add 24 = .ok (.getfield 11, 3) := by decide +kernel
theorem dX4_add_27 : decode cX4_add 27 = .ok (.iload 4, 2) := by decide +kernel
theorem dX4_add_29 : decode cX4_add 29 = .ok (.aaload, 1) := by decide +kernel
theorem dX4_add_30 : decode cX4_add 30 = .ok (.iload_n 1, 1) := by decide +kernel
theorem dX4_add_31 : decode cX4_add 31 = .ok (.invokestatic 35, 3) := by decide +kernel
theorem dX4_add_34 : decode cX4_add 34 = .ok (.invokevirtual 39, 3) := by decide +kernel
theorem dX4_add_37 : decode cX4_add 37 = .ok (.aload_n 3, 1) := by decide +kernel
theorem dX4_add_38 : decode cX4_add 38 = .ok (.getfield 45, 3) := by decide +kernel
theorem dX4_add_41 : decode cX4_add 41 = .ok (.iconst 0, 1) := by decide +kernel
theorem dX4_add_42 : decode cX4_add 42 = .ok (.aload_n 0, 1) := by decide +kernel
theorem dX4_add_43 : decode cX4_add 43 = .ok (.getfield 18, 3) := by decide +kernel
theorem dX4_add_46 : decode cX4_add 46 = .ok (.iload 4, 2) := by decide +kernel
theorem dX4_add_48 : decode cX4_add 48 = .ok (.aaload, 1) := by decide +kernel
theorem dX4_add_49 : decode cX4_add 49 = .ok (.iconst 0, 1) := by decide +kernel
theorem dX4_add_50 : decode cX4_add 50 = .ok (.bipush 16, 2) := by decide +kernel
theorem dX4_add_52 : decode cX4_add 52 = .ok (.invokestatic 48, 3) := by decide +kernel
theorem dX4_add_55 : decode cX4_add 55 = .ok (.aload_n 0, 1) := by decide +kernel
theorem dX4_add_56 : decode cX4_add 56 = .ok (.dup, 1) := by decide +kernel
theorem dX4_add_57 : decode cX4_add 57 = .ok (.getfield 31, 3) := by decide +kernel
theorem dX4_add_60 : decode cX4_add 60 = .ok (.iconst 1, 1) := by decide +kernel
theorem dX4_add_61 : decode cX4_add 61 = .ok (.iadd, 1) := by decide +kernel
theorem dX4_add_62 : decode cX4_add 62 = .ok (.putfield 31, 3) := by decide +kernel
theorem dX4_add_65 : decode cX4_add 65 = .ok (.iload 4, 2) := by decide +kernel
theorem dX4_add_67 : decode cX4_add 67 = .ok (.ireturn, 1) := by decide +kernel
theorem dX4_wordOfLast_0 : decode cX4_wordOfLast 0 = .ok (.aload_n 0, 1) := by decide +kernel
theorem dX4_wordOfLast_1 : decode cX4_wordOfLast 1 = .ok (.getfield 18, 3) := by decide +kernel
theorem dX4_wordOfLast_4 : decode cX4_wordOfLast 4 = .ok (.iload_n 1, 1) := by decide +kernel
theorem dX4_wordOfLast_5 : decode cX4_wordOfLast 5 = .ok (.aaload, 1) := by decide +kernel
theorem dX4_wordOfLast_6 : decode cX4_wordOfLast 6 = .ok (.iconst 0, 1) := by decide +kernel
theorem dX4_wordOfLast_7 : decode cX4_wordOfLast 7 = .ok (.aload_n 0, 1) := by decide +kernel
theorem dX4_wordOfLast_8 : decode cX4_wordOfLast 8 = .ok (.getfield 28, 3) := by decide +kernel
theorem dX4_wordOfLast_11 : decode cX4_wordOfLast 11 = .ok (.iconst 0, 1) := by decide +kernel
theorem dX4_wordOfLast_12 : decode cX4_wordOfLast 12 = .ok (.bipush 16, 2) := by decide +kernel
theorem dX4_wordOfLast_14 : decode cX4_wordOfLast 14 = .ok (.invokestatic 48, 3) := by decide +kernel
theorem dX4_wordOfLast_17 : decode cX4_wordOfLast 17 = .ok (.aload_n 0, 1) := by decide +kernel
theorem dX4_wordOfLast_18 : decode cX4_wordOfLast 18 = .ok (.getfield 28, 3) := by decide +kernel
theorem dX4_wordOfLast_21 : decode cX4_wordOfLast 21 = .ok (.invokestatic 54, 3) := by decide +kernel
theorem dX4_wordOfLast_24 : decode cX4_wordOfLast 24 = .ok (.aload_n 0, 1) := by decide +kernel
theorem dX4_wordOfLast_25 : decode cX4_wordOfLast 25 = .ok (.getfield 28, 3) := by decide +kernel
theorem dX4_wordOfLast_28 : decode cX4_wordOfLast 28 = .ok (.iload_n 2, 1) := by decide +kernel
theorem dX4_wordOfLast_29 : decode cX4_wordOfLast 29 = .ok (.iaload, 1) := by decide +kernel
theorem dX4_wordOfLast_30 : decode cX4_wordOfLast 30 = .ok (.ireturn, 1) := by decide +kernel
theorem dX5_init_0 : decode cX5_init 0 = .ok (.aload_n 0, 1) := by decide +kernel
theorem dX5_init_1 : decode cX5_init 1 = .ok (.invokespecial 3, 3) := by decide +kernel
theorem dX5_init_4 : decode cX5_init 4 = .ok (.aload_n 0, 1) := by decide +kernel
theorem dX5_init_5 : decode cX5_init 5 = .ok (.bipush 40, 2) := by decide +kernel
theorem dX5_init_7 : decode cX5_init 7 = .ok (.bipush 40, 2) := by decide +kernel
theorem dX5_init_9 : decode cX5_init 9 = .ok (.multianewarray 9 2, 4) := by decide +kernel
theorem dX5_init_13 : decode cX5_init 13 = .ok (.putfield 11, 3) := by decide +kernel
theorem dX5_init_16 : decode cX5_init 16 = .ok (.aload_n 0, 1) := by decide +kernel
theorem dX5_init_17 : decode cX5_init 17 = .ok (.bipush 40, 2) := by decide +kernel
theorem dX5_init_19 : decode cX5_init 19 = .ok (.newarray .int, 2) := by decide +kernel
theorem dX5_init_21 : decode cX5_init 21 = .ok (.putfield 16, 3) := by decide +kernel
theorem dX5_init_24 : decode cX5_init 24 = .ok (.aload_n 0, 1) := by decide +kernel
theorem dX5_init_25 : decode cX5_init 25 = .ok (.bipush 40, 2) := by decide +kernel
theorem dX5_init_27 : decode cX5_init 27 = .ok (.newarray .int, 2) := by decide +kernel
theorem dX5_init_29 : decode cX5_init 29 = .ok (.putfield 20, 3) := by decide +kernel
theorem dX5_init_32 : decode cX5_init 32 = .ok (.return_, 1) := by decide +kernel
theorem dX5_seek_0 : decode cX5_seek 0 = .ok (.aload_n 0, 1) := by decide +kernel
theorem dX5_seek_1 : decode cX5_seek 1 = .ok (.iconst 0, 1) := by decide +kernel
theorem dX5_seek_2 : decode cX5_seek 2 = .ok (.putfield 23, 3) := by decide +kernel
theorem dX5_seek_5 : decode cX5_seek 5 = .ok (.iconst 0, 1) := by decide +kernel
theorem dX5_seek_6 : decode cX5_seek 6 = .ok (.istore_n 3, 1) := by decide +kernel
theorem dX5_seek_7 : decode cX5_seek 7 = .ok (.iload_n 3, 1) := by decide +kernel
theorem dX5_seek_8 : decode cX5_seek 8 = .ok (.aload_n 0, 1) := by decide +kernel
theorem dX5_seek_9 : decode cX5_seek 9 = .ok (.getfield 27, 3) := by decide +kernel
theorem dX5_seek_12 : decode cX5_seek 12 = .ok (.if_icmp .ge 64, 3) := by decide +kernel
theorem dX5_seek_15 : decode cX5_seek 15 = .ok (.aload_n 0, 1) := by decide +kernel
theorem dX5_seek_16 : decode cX5_seek 16 = .ok (.getfield 20, 3) := by decide +kernel
theorem dX5_seek_19 : decode cX5_seek 19 = .ok (.iload_n 3, 1) := by decide +kernel
theorem dX5_seek_20 : decode cX5_seek 20 = .ok (.iaload, 1) := by decide +kernel
theorem dX5_seek_21 : decode cX5_seek 21 = .ok (.iload_n 2, 1) := by decide +kernel
theorem dX5_seek_22 : decode cX5_seek 22 = .ok (.if_icmp .ne 48, 3) := by decide +kernel
theorem dX5_seek_25 : decode cX5_seek 25 = .ok (.aload_n 0, 1) := by decide +kernel
theorem dX5_seek_26 : decode cX5_seek 26 = .ok (.dup, 1) := by decide +kernel
theorem dX5_seek_27 : decode cX5_seek 27 = .ok (.getfield 23, 3) := by decide +kernel
theorem dX5_seek_30 : decode cX5_seek 30 = .ok (.iconst 1, 1) := by decide +kernel
theorem dX5_seek_31 : decode cX5_seek 31 = .ok (.iadd, 1) := by decide +kernel
theorem dX5_seek_32 : decode cX5_seek 32 = .ok (.putfield 23, 3) := by decide +kernel
theorem dX5_seek_35 : decode cX5_seek 35 = .ok (.aload_n 0, 1) := by decide +kernel
theorem dX5_seek_36 : decode cX5_seek 36 = .ok (.getfield 16, 3) := by decide +kernel
theorem dX5_seek_39 : decode cX5_seek 39 = .ok (.iload_n 3, 1) := by decide +kernel
theorem dX5_seek_40 : decode cX5_seek 40 = .ok (.iaload, 1) := by decide +kernel
theorem dX5_seek_41 : decode cX5_seek 41 = .ok (.aload_n 1, 1) := by decide +kernel
theorem dX5_seek_42 : decode cX5_seek 42 = .ok (.getfield 30, 3) := by decide +kernel
theorem dX5_seek_45 : decode cX5_seek 45 = .ok (.if_icmp .ne 25, 3) := by decide +kernel
theorem dX5_seek_48 : decode cX5_seek 48 = .ok (.aload_n 0, 1) := by decide +kernel
theorem dX5_seek_49 : decode cX5_seek 49 = .ok (.getfield 11, 3) := by decide +kernel
theorem dX5_seek_52 : decode cX5_seek 52 = .ok (.iload_n 3, 1) := by decide +kernel
theorem dX5_seek_53 : decode cX5_seek 53 = .ok (.aaload, 1) := by decide +kernel
theorem dX5_seek_54 : decode cX5_seek 54 = .ok (.aload_n 1, 1) := by decide +kernel
theorem dX5_seek_55 : decode cX5_seek 55 = .ok (.getfield 35, 3) := by decide +kernel
theorem dX5_seek_58 : decode cX5_seek 58 = .ok (.aload_n 1, 1) := by decide +kernel
theorem dX5_seek_59 : decode cX5_seek 59 = .ok (.getfield 30, 3) := by decide +kernel
theorem dX5_seek_62 : decode cX5_seek 62 = .ok (.invokestatic 39, 3) := by decide +kernel
theorem dX5_seek_65 : decode cX5_seek 65 = .ok (.ifCond .eq 5, 3) := by decide +kernel
theorem dX5_seek_68 : decode cX5_seek 68 = .ok (.iload_n 3, 1) := by decide +kernel
theorem dX5_seek_69 : decode cX5_seek 69 = .ok (.ireturn, 1) := by decide +kernel
theorem dX5_seek_70 : decode cX5_seek 70 = .ok (.iinc 3 1, 3) := by decide +kernel
theorem dX5_seek_73 : decode cX5_seek 73 = .ok (.goto (-66), 3) := by decide +kernel
theorem dX5_seek_76 : decode cX5_seek 76 = .ok (.iconst (-1), 1) := by decide +kernel
theorem dX5_seek_77 : decode cX5_seek 77 = .ok (.ireturn, 1) := by decide +kernel
theorem dX5_add_0 : decode cX5_add 0 = .ok (.aload_n 0, 1) := by decide +kernel
theorem dX5_add_1 : decode cX5_add 1 = .ok (.getfield 27, 3) := by decide +kernel
theorem dX5_add_4 : decode cX5_add 4 = .ok (.istore_n 3, 1) := by decide +kernel
theorem dX5_add_5 : decode cX5_add 5 = .ok (.aload_n 1, 1) := by decide +kernel
theorem dX5_add_6 : decode cX5_add 6 = .ok (.getfield 35, 3) := by decide +kernel
theorem dX5_add_9 : decode cX5_add 9 = .ok (.iconst 0, 1) := by decide +kernel
theorem dX5_add_10 : decode cX5_add 10 = .ok (.aload_n 0, 1) := by decide +kernel
theorem dX5_add_11 : decode cX5_add 11 = .ok (.getfield 11, 3) := by decide +kernel
theorem dX5_add_14 : decode cX5_add 14 = .ok (.iload_n 3, 1) := by decide +kernel
theorem dX5_add_15 : decode cX5_add 15 = .ok (.aaload, 1) := by decide +kernel
theorem dX5_add_16 : decode cX5_add 16 = .ok (.iconst 0, 1) := by decide +kernel
theorem dX5_add_17 : decode cX5_add 17 = .ok (.aload_n 1, 1) := by decide +kernel
theorem dX5_add_18 : decode cX5_add 18 = .ok (.getfield 30, 3) := by decide +kernel
theorem dX5_add_21 : decode cX5_add 21 = .ok (.invokestatic 43, 3) := by decide +kernel
theorem dX5_add_24 : decode cX5_add 24 = .ok (.aload_n 0, 1) := by decide +kernel
theorem dX5_add_25 : decode cX5_add 25 = .ok (.getfield 16, 3) := by decide +kernel
theorem dX5_add_28 : decode cX5_add 28 = .ok (.iload_n 3, 1) := by decide +kernel
theorem dX5_add_29 : decode cX5_add 29 = .ok (.aload_n 1, 1) := by decide +kernel
theorem dX5_add_30 : decode cX5_add 30 = .ok (.getfield 30, 3) := by decide +kernel
theorem dX5_add_33 : decode cX5_add 33 = .ok (.iastore, 1) := by decide +kernel
theorem dX5_add_34 : decode cX5_add 34 = .ok (.aload_n 0, 1) := by decide +kernel
theorem dX5_add_35 : decode cX5_add 35 = .ok (.getfield 20, 3) := by decide +kernel
theorem dX5_add_38 : decode cX5_add 38 = .ok (.iload_n 3, 1) := by decide +kernel
theorem dX5_add_39 : decode cX5_add 39 = .ok (.iload_n 2, 1) := by decide +kernel
theorem dX5_add_40 : decode cX5_add 40 = .ok (.iastore, 1) := by decide +kernel
theorem dX5_add_41 : decode cX5_add 41 = .ok (.aload_n 0, 1) := by decide +kernel
theorem dX5_add_42 : decode cX5_add 42 = .ok (.dup, 1) := by decide +kernel
theorem dX5_add_43 : decode cX5_add 43 = .ok (.getfield 27, 3) := by decide +kernel
theorem dX5_add_46 : decode cX5_add 46 = .ok (.iconst 1, 1) := by decide +kernel
theorem dX5_add_47 : decode cX5_add 47 = .ok (.iadd, 1) := by decide +kernel
theorem dX5_add_48 : decode cX5_add 48 = .ok (.putfield 27, 3) := by decide +kernel
theorem dX5_add_51 : decode cX5_add 51 = .ok (.iload_n 3, 1) := by decide +kernel
theorem dX5_add_52 : decode cX5_add 52 = .ok (.ireturn, 1) := by decide +kernel
theorem dX5_pairsThatMeet_0 : decode cX5_pairsThatMeet 0 = .ok (.iconst 0, 1) := by decide +kernel
theorem dX5_pairsThatMeet_1 : decode cX5_pairsThatMeet 1 = .ok (.istore_n 1, 1) := by decide +kernel
theorem dX5_pairsThatMeet_2 : decode cX5_pairsThatMeet 2 = .ok (.iconst 0, 1) := by decide +kernel
theorem dX5_pairsThatMeet_3 : decode cX5_pairsThatMeet 3 = .ok (.istore_n 2, 1) := by decide +kernel
theorem dX5_pairsThatMeet_4 : decode cX5_pairsThatMeet 4 = .ok (.iload_n 2, 1) := by decide +kernel
theorem dX5_pairsThatMeet_5 : decode cX5_pairsThatMeet 5 = .ok (.aload_n 0, 1) := by decide +kernel
theorem dX5_pairsThatMeet_6 : decode cX5_pairsThatMeet 6 = .ok (.getfield 27, 3) := by decide +kernel
theorem dX5_pairsThatMeet_9 : decode cX5_pairsThatMeet 9 = .ok (.if_icmp .ge 45, 3) := by decide +kernel
theorem dX5_pairsThatMeet_12 : decode cX5_pairsThatMeet 12 = .ok (.iload_n 2, 1) := by decide +kernel
theorem dX5_pairsThatMeet_13 : decode cX5_pairsThatMeet 13 = .ok (.iconst 1, 1) := by decide +kernel
theorem dX5_pairsThatMeet_14 : decode cX5_pairsThatMeet 14 = .ok (.iadd, 1) := by decide +kernel
theorem dX5_pairsThatMeet_15 : decode cX5_pairsThatMeet 15 = .ok (.istore_n 3, 1) := by decide +kernel
theorem dX5_pairsThatMeet_16 : decode cX5_pairsThatMeet 16 = .ok (.iload_n 3, 1) := by decide +kernel
theorem dX5_pairsThatMeet_17 : decode cX5_pairsThatMeet 17 = .ok (.aload_n 0, 1) := by decide +kernel
theorem dX5_pairsThatMeet_18 : decode cX5_pairsThatMeet 18 = .ok (.getfield 27, 3) := by decide +kernel
theorem dX5_pairsThatMeet_21 : decode cX5_pairsThatMeet 21 = .ok (.if_icmp .ge 27, 3) := by decide +kernel
theorem dX5_pairsThatMeet_24 : decode cX5_pairsThatMeet 24 = .ok (.aload_n 0, 1) := by decide +kernel
theorem dX5_pairsThatMeet_25 : decode cX5_pairsThatMeet 25 = .ok (.getfield 20, 3) := by decide +kernel
theorem dX5_pairsThatMeet_28 : decode cX5_pairsThatMeet 28 = .ok (.iload_n 2, 1) := by decide +kernel
theorem dX5_pairsThatMeet_29 : decode cX5_pairsThatMeet 29 = .ok (.iaload, 1) := by decide +kernel
theorem dX5_pairsThatMeet_30 : decode cX5_pairsThatMeet 30 = .ok (.aload_n 0, 1) := by decide +kernel
theorem dX5_pairsThatMeet_31 : decode cX5_pairsThatMeet 31 = .ok (.getfield 20, 3) := by decide +kernel
theorem dX5_pairsThatMeet_34 : decode cX5_pairsThatMeet 34 = .ok (.iload_n 3, 1) := by decide +kernel
theorem dX5_pairsThatMeet_35 : decode cX5_pairsThatMeet 35 = .ok (.iaload, 1) := by decide +kernel
theorem dX5_pairsThatMeet_36 : decode cX5_pairsThatMeet 36 = .ok (.if_icmp .ne 6, 3) := by decide +kernel
theorem dX5_pairsThatMeet_39 : decode cX5_pairsThatMeet 39 = .ok (.iinc 1 1, 3) := by decide +kernel
theorem dX5_pairsThatMeet_42 : decode cX5_pairsThatMeet 42 = .ok (.iinc 3 1, 3) := by decide +kernel
theorem dX5_pairsThatMeet_45 : decode cX5_pairsThatMeet 45 = .ok (.goto (-29), 3) := by decide +kernel
theorem dX5_pairsThatMeet_48 : decode cX5_pairsThatMeet 48 = .ok (.iinc 2 1, 3) := by decide +kernel
theorem dX5_pairsThatMeet_51 : decode cX5_pairsThatMeet 51 = .ok (.goto (-47), 3) := by decide +kernel
theorem dX5_pairsThatMeet_54 : decode cX5_pairsThatMeet 54 = .ok (.iload_n 1, 1) := by decide +kernel
theorem dX5_pairsThatMeet_55 : decode cX5_pairsThatMeet 55 = .ok (.ireturn, 1) := by decide +kernel
theorem dX6_init_0 : decode cX6_init 0 = .ok (.aload_n 0, 1) := by decide +kernel
theorem dX6_init_1 : decode cX6_init 1 = .ok (.invokespecial 3, 3) := by decide +kernel
theorem dX6_init_4 : decode cX6_init 4 = .ok (.aload_n 0, 1) := by decide +kernel
theorem dX6_init_5 : decode cX6_init 5 = .ok (.bipush 12, 2) := by decide +kernel
theorem dX6_init_7 : decode cX6_init 7 = .ok (.newarray .int, 2) := by decide +kernel
theorem dX6_init_9 : decode cX6_init 9 = .ok (.putfield 9, 3) := by decide +kernel
theorem dX6_init_12 : decode cX6_init 12 = .ok (.aload_n 0, 1) := by decide +kernel
theorem dX6_init_13 : decode cX6_init 13 = .ok (.bipush 24, 2) := by decide +kernel
theorem dX6_init_15 : decode cX6_init 15 = .ok (.bipush 32, 2) := by decide +kernel
theorem dX6_init_17 : decode cX6_init 17 = .ok (.multianewarray 15 2, 4) := by decide +kernel
theorem dX6_init_21 : decode cX6_init 21 = .ok (.putfield 17, 3) := by decide +kernel
theorem dX6_init_24 : decode cX6_init 24 = .ok (.return_, 1) := by decide +kernel
theorem dX6_has_0 : decode cX6_has 0 = .ok (.iload_n 1, 1) := by decide +kernel
theorem dX6_has_1 : decode cX6_has 1 = .ok (.ifCond .lt 15, 3) := by decide +kernel
theorem dX6_has_4 : decode cX6_has 4 = .ok (.iload_n 1, 1) := by decide +kernel
theorem dX6_has_5 : decode cX6_has 5 = .ok (.aload_n 0, 1) := by decide +kernel
theorem dX6_has_6 : decode cX6_has 6 = .ok (.getfield 20, 3) := by decide +kernel
theorem dX6_has_9 : decode cX6_has 9 = .ok (.if_icmp .ge 7, 3) := by decide +kernel
theorem dX6_has_12 : decode cX6_has 12 = .ok (.iconst 1, 1) := by decide +kernel
theorem dX6_has_13 : decode cX6_has 13 = .ok (.goto 4, 3) := by decide +kernel
theorem dX6_has_16 : decode cX6_has 16 = .ok (.iconst 0, 1) := by decide +kernel
theorem dX6_has_17 : decode cX6_has 17 = .ok (.ireturn, 1) := by decide +kernel
theorem dX6_climb_0 : decode cX6_climb 0 = .ok (.aload_n 0, 1) := by decide +kernel
theorem dX6_climb_1 : decode cX6_climb 1 = .ok (.getfield 20, 3) := by decide +kernel
theorem dX6_climb_4 : decode cX6_climb 4 = .ok (.ifCond .ne 20, 3) := by decide +kernel
theorem dX6_climb_7 : decode cX6_climb 7 = .ok (.aload_n 0, 1) := by decide +kernel
theorem dX6_climb_8 : decode cX6_climb 8 = .ok (.getfield 17, 3) := by decide +kernel
theorem dX6_climb_11 : decode cX6_climb 11 = .ok (.iconst 0, 1) := by decide +kernel
theorem dX6_climb_12 : decode cX6_climb 12 = .ok (.aaload, 1) := by decide +kernel
theorem dX6_climb_13 : decode cX6_climb 13 = .ok (.iconst 0, 1) := by decide +kernel
theorem dX6_climb_14 : decode cX6_climb 14 = .ok (.invokestatic 24, 3) := by decide +kernel
theorem dX6_climb_17 : decode cX6_climb 17 = .ok (.aload_n 0, 1) := by decide +kernel
theorem dX6_climb_18 : decode cX6_climb 18 = .ok (.getfield 17, 3) := by decide +kernel
theorem dX6_climb_21 : decode cX6_climb 21 = .ok (.iconst 0, 1) := by decide +kernel
theorem dX6_climb_22 : decode cX6_climb 22 = .ok (.aaload, 1) := by decide +kernel
theorem dX6_climb_23 : decode cX6_climb 23 = .ok (.areturn, 1) := by decide +kernel
theorem dX6_climb_24 : decode cX6_climb 24 = .ok (.iconst 0, 1) := by decide +kernel
theorem dX6_climb_25 : decode cX6_climb 25 = .ok (.istore_n 2, 1) := by decide +kernel
theorem dX6_climb_26 : decode cX6_climb 26 = .ok (.aload_n 0, 1) := by decide +kernel
theorem dX6_climb_27 : decode cX6_climb 27 = .ok (.getfield 20, 3) := by decide +kernel
theorem dX6_climb_30 : decode cX6_climb 30 = .ok (.istore_n 3, 1) := by decide +kernel
theorem dX6_climb_31 : decode cX6_climb 31 = .ok (.iload_n 3, 1) := by decide +kernel
theorem dX6_climb_32 : decode cX6_climb 32 = .ok (.iconst 1, 1) := by decide +kernel
theorem dX6_climb_33 : decode cX6_climb 33 = .ok (.if_icmp .le 107, 3) := by decide +kernel
theorem dX6_climb_36 : decode cX6_climb 36 = .ok (.iload_n 2, 1) := by decide +kernel
theorem dX6_climb_37 : decode cX6_climb 37 = .ok (.iload_n 3, 1) := by decide +kernel
theorem dX6_climb_38 : decode cX6_climb 38 = .ok (.iadd, 1) := by decide +kernel
theorem dX6_climb_39 : decode cX6_climb 39 = .ok (.istore 4, 2) := by decide +kernel
theorem dX6_climb_41 : decode cX6_climb 41 = .ok (.iconst 0, 1) := by decide +kernel
theorem dX6_climb_42 : decode cX6_climb 42 = .ok (.istore 5, 2) := by decide +kernel
theorem dX6_climb_44 : decode cX6_climb 44 = .ok (.iload 5, 2) := by decide +kernel
theorem dX6_climb_46 : decode cX6_climb 46 = .ok (.iconst 1, 1) := by decide +kernel
theorem dX6_climb_47 : decode cX6_climb 47 = .ok (.iadd, 1) := by decide +kernel
theorem dX6_climb_48 : decode cX6_climb 48 = .ok (.iload_n 3, 1) := by decide +kernel
theorem dX6_climb_49 : decode cX6_climb 49 = .ok (.if_icmp .ge 45, 3) := by decide +kernel
theorem dX6_climb_52 : decode cX6_climb 52 = .ok (.aload_n 1, 1) := by decide +kernel
theorem dX6_climb_53 : decode cX6_climb 53 = .ok (.aload_n 0, 1) := by decide +kernel
theorem dX6_climb_54 : decode cX6_climb 54 = .ok (.getfield 17, 3) := by decide +kernel
theorem dX6_climb_57 : decode cX6_climb 57 = .ok (.iload_n 2, 1) := by decide +kernel
theorem dX6_climb_58 : decode cX6_climb 58 = .ok (.iload 5, 2) := by decide +kernel
theorem dX6_climb_60 : decode cX6_climb 60 = .ok (.iadd, 1) := by decide +kernel
theorem dX6_climb_61 : decode cX6_climb 61 = .ok (.aaload, 1) := by decide +kernel
theorem dX6_climb_62 : decode cX6_climb 62 = .ok (.aload_n 0, 1) := by decide +kernel
theorem dX6_climb_63 : decode cX6_climb 63 = .ok (.getfield 17, 3) := by decide +kernel
theorem dX6_climb_66 : decode cX6_climb 66 = .ok (.iload_n 2, 1) := by decide +kernel
theorem dX6_climb_67 : decode cX6_climb 67 = .ok (.iload 5, 2) := by decide +kernel
theorem dX6_climb_69 : decode cX6_climb 69 = .ok (.iadd, 1) := by decide +kernel
theorem dX6_climb_70 : decode cX6_climb 70 = .ok (.iconst 1, 1) := by decide +kernel
theorem dX6_climb_71 : decode cX6_climb 71 = .ok (.iadd, 1) := by decide +kernel
theorem dX6_climb_72 : decode cX6_climb 72 = .ok (.aaload, 1) := by decide +kernel
theorem dX6_climb_73 : decode cX6_climb 73 = .ok (.aload_n 0, 1) := by decide +kernel
theorem dX6_climb_74 : decode cX6_climb 74 = .ok (.getfield 17, 3) := by decide +kernel
theorem dX6_climb_77 : decode cX6_climb 77 = .ok (.iload 4, 2) := by decide +kernel
theorem dX6_climb_79 : decode cX6_climb 79 = .ok (.iload 5, 2) := by decide +kernel
theorem dX6_climb_81 : decode cX6_climb 81 = .ok (.iconst 2, 1) := by decide +kernel
theorem dX6_climb_82 : decode cX6_climb 82 = .ok (.idiv, 1) := by decide +kernel
theorem dX6_climb_83 : decode cX6_climb 83 = .ok (.iadd, 1) := by decide +kernel
theorem dX6_climb_84 : decode cX6_climb 84 = .ok (.aaload, 1) := by decide +kernel
theorem dX6_climb_85 : decode cX6_climb 85 = .ok (.invokestatic 30, 3) := by decide +kernel
theorem dX6_climb_88 : decode cX6_climb 88 = .ok (.iinc 5 2, 3) := by decide +kernel
theorem dX6_climb_91 : decode cX6_climb 91 = .ok (.goto (-47), 3) := by decide +kernel
theorem dX6_climb_94 : decode cX6_climb 94 = .ok (.iload_n 3, 1) := by decide +kernel
theorem dX6_climb_95 : decode cX6_climb 95 = .ok (.iconst 2, 1) := by decide +kernel
theorem dX6_climb_96 : decode cX6_climb 96 = .ok (.irem, 1) := by decide +kernel
