theorem dX8_table_0 : decode cX8_table 0 = .ok (.aload_n 0, 1) := by decide +kernel
theorem dX8_table_1 : decode cX8_table 1 = .ok (.iload_n 1, 1) := by decide +kernel
theorem dX8_table_2 : decode cX8_table 2 = .ok (.iconst 0, 1) := by decide +kernel
theorem dX8_table_3 : decode cX8_table 3 = .ok (.bipush 63, 2) := by decide +kernel
theorem dX8_table_5 : decode cX8_table 5 = .ok (.invokestatic 146, 3) := by decide +kernel
theorem dX8_table_8 : decode cX8_table 8 = .ok (.ifCond .eq 7, 3) := by decide +kernel
theorem dX8_table_11 : decode cX8_table 11 = .ok (.iconst 0, 1) := by decide +kernel
theorem dX8_table_12 : decode cX8_table 12 = .ok (.goto 4, 3) := by decide +kernel
theorem dX8_table_15 : decode cX8_table 15 = .ok (.iconst 1, 1) := by decide +kernel
theorem dX8_table_16 : decode cX8_table 16 = .ok (.putfield 143, 3) := by decide +kernel
theorem dX8_table_19 : decode cX8_table 19 = .ok (.aload_n 0, 1) := by decide +kernel
theorem dX8_table_20 : decode cX8_table 20 = .ok (.getfield 143, 3) := by decide +kernel
theorem dX8_table_23 : decode cX8_table 23 = .ok (.iconst 1, 1) := by decide +kernel
theorem dX8_table_24 : decode cX8_table 24 = .ok (.if_icmp .ne 7, 3) := by decide +kernel
theorem dX8_table_27 : decode cX8_table 27 = .ok (.iconst 0, 1) := by decide +kernel
theorem dX8_table_28 : decode cX8_table 28 = .ok (.goto 9, 3) := by decide +kernel
theorem dX8_table_31 : decode cX8_table 31 = .ok (.aload_n 0, 1) := by decide +kernel
theorem dX8_table_32 : decode cX8_table 32 = .ok (.getfield 7, 3) := by decide +kernel
theorem dX8_table_35 : decode cX8_table 35 = .ok (.iload_n 1, 1) := by decide +kernel
theorem dX8_table_36 : decode cX8_table 36 = .ok (.iaload, 1) := by decide +kernel
theorem dX8_table_37 : decode cX8_table 37 = .ok (.ireturn, 1) := by decide +kernel
theorem dX8_isTree_0 : decode cX8_isTree 0 = .ok (.iload_n 0, 1) := by decide +kernel
theorem dX8_isTree_1 : decode cX8_isTree 1 = .ok (.iconst 0, 1) := by decide +kernel
theorem dX8_isTree_2 : decode cX8_isTree 2 = .ok (.iconst 3, 1) := by decide +kernel
theorem dX8_isTree_3 : decode cX8_isTree 3 = .ok (.invokestatic 146, 3) := by decide +kernel
theorem dX8_isTree_6 : decode cX8_isTree 6 = .ok (.ireturn, 1) := by decide +kernel
theorem dX8_layLeaf_0 : decode cX8_layLeaf 0 = .ok (.bipush 12, 2) := by decide +kernel
theorem dX8_layLeaf_2 : decode cX8_layLeaf 2 = .ok (.iload_n 1, 1) := by decide +kernel
theorem dX8_layLeaf_3 : decode cX8_layLeaf 3 = .ok (.imul, 1) := by decide +kernel
theorem dX8_layLeaf_4 : decode cX8_layLeaf 4 = .ok (.iload_n 2, 1) := by decide +kernel
theorem dX8_layLeaf_5 : decode cX8_layLeaf 5 = .ok (.iadd, 1) := by decide +kernel
theorem dX8_layLeaf_6 : decode cX8_layLeaf 6 = .ok (.istore 4, 2) := by decide +kernel
theorem dX8_layLeaf_8 : decode cX8_layLeaf 8 = .ok (.aload_n 0, 1) := by decide +kernel
theorem dX8_layLeaf_9 : decode cX8_layLeaf 9 = .ok (.getfield 77, 3) := by decide +kernel
theorem dX8_layLeaf_12 : decode cX8_layLeaf 12 = .ok (.iload 4, 2) := by decide +kernel
theorem dX8_layLeaf_14 : decode cX8_layLeaf 14 = .ok (.iload_n 3, 1) := by decide +kernel
theorem dX8_layLeaf_15 : decode cX8_layLeaf 15 = .ok (.iastore, 1) := by decide +kernel
theorem dX8_layLeaf_16 : decode cX8_layLeaf 16 = .ok (.aload_n 0, 1) := by decide +kernel
theorem dX8_layLeaf_17 : decode cX8_layLeaf 17 = .ok (.getfield 80, 3) := by decide +kernel
theorem dX8_layLeaf_20 : decode cX8_layLeaf 20 = .ok (.iload 4, 2) := by decide +kernel
theorem dX8_layLeaf_22 : decode cX8_layLeaf 22 = .ok (.aload_n 0, 1) := by decide +kernel
theorem dX8_layLeaf_23 : decode cX8_layLeaf 23 = .ok (.getfield 150, 3) := by decide +kernel
theorem dX8_layLeaf_26 : decode cX8_layLeaf 26 = .ok (.iastore, 1) := by decide +kernel
theorem dX8_layLeaf_27 : decode cX8_layLeaf 27 = .ok (.iconst 0, 1) := by decide +kernel
theorem dX8_layLeaf_28 : decode cX8_layLeaf 28 = .ok (.istore 5, 2) := by decide +kernel
theorem dX8_layLeaf_30 : decode cX8_layLeaf 30 = .ok (.iload 5, 2) := by decide +kernel
theorem dX8_layLeaf_32 : decode cX8_layLeaf 32 = .ok (.aload_n 0, 1) := by decide +kernel
theorem dX8_layLeaf_33 : decode cX8_layLeaf 33 = .ok (.getfield 150, 3) := by decide +kernel
theorem dX8_layLeaf_36 : decode cX8_layLeaf 36 = .ok (.if_icmp .ge 29, 3) := by decide +kernel
theorem dX8_layLeaf_39 : decode cX8_layLeaf 39 = .ok (.aload_n 0, 1) := by decide +kernel
theorem dX8_layLeaf_40 : decode cX8_layLeaf 40 = .ok (.getfield 83, 3) := by decide +kernel
theorem dX8_layLeaf_43 : decode cX8_layLeaf 43 = .ok (.bipush 40, 2) := by decide +kernel
theorem dX8_layLeaf_45 : decode cX8_layLeaf 45 = .ok (.iload 4, 2) := by decide +kernel
theorem dX8_layLeaf_47 : decode cX8_layLeaf 47 = .ok (.imul, 1) := by decide +kernel
theorem dX8_layLeaf_48 : decode cX8_layLeaf 48 = .ok (.iload 5, 2) := by decide +kernel
theorem dX8_layLeaf_50 : decode cX8_layLeaf 50 = .ok (.iadd, 1) := by decide +kernel
theorem dX8_layLeaf_51 : decode cX8_layLeaf 51 = .ok (.aload_n 0, 1) := by decide +kernel
theorem dX8_layLeaf_52 : decode cX8_layLeaf 52 = .ok (.getfield 38, 3) := by decide +kernel
theorem dX8_layLeaf_55 : decode cX8_layLeaf 55 = .ok (.iload 5, 2) := by decide +kernel
theorem dX8_layLeaf_57 : decode cX8_layLeaf 57 = .ok (.iaload, 1) := by decide +kernel
theorem dX8_layLeaf_58 : decode cX8_layLeaf 58 = .ok (.iastore, 1) := by decide +kernel
theorem dX8_layLeaf_59 : decode cX8_layLeaf 59 = .ok (.iinc 5 1, 3) := by decide +kernel
theorem dX8_layLeaf_62 : decode cX8_layLeaf 62 = .ok (.goto (-32), 3) := by decide +kernel
theorem dX8_layLeaf_65 : decode cX8_layLeaf 65 = .ok (.aload_n 0, 1) := by decide +kernel
theorem dX8_layLeaf_66 : decode cX8_layLeaf 66 = .ok (.iconst 0, 1) := by decide +kernel
theorem dX8_layLeaf_67 : decode cX8_layLeaf 67 = .ok (.putfield 150, 3) := by decide +kernel
theorem dX8_layLeaf_70 : decode cX8_layLeaf 70 = .ok (.return_, 1) := by decide +kernel
theorem dX8_leaf_0 : decode cX8_leaf 0 = .ok (.aload_n 0, 1) := by decide +kernel
theorem dX8_leaf_1 : decode cX8_leaf 1 = .ok (.iconst 0, 1) := by decide +kernel
theorem dX8_leaf_2 : decode cX8_leaf 2 = .ok (.putfield 143, 3) := by decide +kernel
theorem dX8_leaf_5 : decode cX8_leaf 5 = .ok (.iload_n 1, 1) := by decide +kernel
theorem dX8_leaf_6 : decode cX8_leaf 6 = .ok (.invokestatic 186, 3) := by decide +kernel
theorem dX8_leaf_9 : decode cX8_leaf 9 = .ok (.ifCond .eq 22, 3) := by decide +kernel
theorem dX8_leaf_12 : decode cX8_leaf 12 = .ok (.iload_n 2, 1) := by decide +kernel
theorem dX8_leaf_13 : decode cX8_leaf 13 = .ok (.iconst 0, 1) := by decide +kernel
theorem dX8_leaf_14 : decode cX8_leaf 14 = .ok (.bipush 7, 2) := by decide +kernel
theorem dX8_leaf_16 : decode cX8_leaf 16 = .ok (.invokestatic 146, 3) := by decide +kernel
theorem dX8_leaf_19 : decode cX8_leaf 19 = .ok (.ifCond .eq 12, 3) := by decide +kernel
theorem dX8_leaf_22 : decode cX8_leaf 22 = .ok (.aload_n 0, 1) := by decide +kernel
theorem dX8_leaf_23 : decode cX8_leaf 23 = .ok (.getfield 150, 3) := by decide +kernel
theorem dX8_leaf_26 : decode cX8_leaf 26 = .ok (.bipush 40, 2) := by decide +kernel
theorem dX8_leaf_28 : decode cX8_leaf 28 = .ok (.if_icmp .le 6, 3) := by decide +kernel
theorem dX8_leaf_31 : decode cX8_leaf 31 = .ok (.bipush (-102), 2) := by decide +kernel
theorem dX8_leaf_33 : decode cX8_leaf 33 = .ok (.ireturn, 1) := by decide +kernel
theorem dX8_leaf_34 : decode cX8_leaf 34 = .ok (.aload_n 0, 1) := by decide +kernel
theorem dX8_leaf_35 : decode cX8_leaf 35 = .ok (.getfield 74, 3) := by decide +kernel
theorem dX8_leaf_38 : decode cX8_leaf 38 = .ok (.iload_n 1, 1) := by decide +kernel
theorem dX8_leaf_39 : decode cX8_leaf 39 = .ok (.iaload, 1) := by decide +kernel
theorem dX8_leaf_40 : decode cX8_leaf 40 = .ok (.bipush 12, 2) := by decide +kernel
theorem dX8_leaf_42 : decode cX8_leaf 42 = .ok (.if_icmp .ne 6, 3) := by decide +kernel
theorem dX8_leaf_45 : decode cX8_leaf 45 = .ok (.bipush (-103), 2) := by decide +kernel
theorem dX8_leaf_47 : decode cX8_leaf 47 = .ok (.ireturn, 1) := by decide +kernel
theorem dX8_leaf_48 : decode cX8_leaf 48 = .ok (.aload_n 0, 1) := by decide +kernel
theorem dX8_leaf_49 : decode cX8_leaf 49 = .ok (.iload_n 1, 1) := by decide +kernel
theorem dX8_leaf_50 : decode cX8_leaf 50 = .ok (.aload_n 0, 1) := by decide +kernel
theorem dX8_leaf_51 : decode cX8_leaf 51 = .ok (.getfield 74, 3) := by decide +kernel
theorem dX8_leaf_54 : decode cX8_leaf 54 = .ok (.iload_n 1, 1) := by decide +kernel
theorem dX8_leaf_55 : decode cX8_leaf 55 = .ok (.iaload, 1) := by decide +kernel
theorem dX8_leaf_56 : decode cX8_leaf 56 = .ok (.iload_n 2, 1) := by decide +kernel
theorem dX8_leaf_57 : decode cX8_leaf 57 = .ok (.invokevirtual 189, 3) := by decide +kernel
theorem dX8_leaf_60 : decode cX8_leaf 60 = .ok (.aload_n 0, 1) := by decide +kernel
theorem dX8_leaf_61 : decode cX8_leaf 61 = .ok (.getfield 74, 3) := by decide +kernel
theorem dX8_leaf_64 : decode cX8_leaf 64 = .ok (.iload_n 1, 1) := by decide +kernel
theorem dX8_leaf_65 : decode cX8_leaf 65 = .ok (.dup2, 1) := by decide +kernel
theorem dX8_leaf_66 : decode cX8_leaf 66 = .ok (.iaload, 1) := by decide +kernel
theorem dX8_leaf_67 : decode cX8_leaf 67 = .ok (.iconst 1, 1) := by decide +kernel
theorem dX8_leaf_68 : decode cX8_leaf 68 = .ok (.iadd, 1) := by decide +kernel
theorem dX8_leaf_69 : decode cX8_leaf 69 = .ok (.iastore, 1) := by decide +kernel
theorem dX8_leaf_70 : decode cX8_leaf 70 = .ok (.aload_n 0, 1) := by decide +kernel
theorem dX8_leaf_71 : decode cX8_leaf 71 = .ok (.getfield 74, 3) := by decide +kernel
theorem dX8_leaf_74 : decode cX8_leaf 74 = .ok (.iload_n 1, 1) := by decide +kernel
theorem dX8_leaf_75 : decode cX8_leaf 75 = .ok (.iaload, 1) := by decide +kernel
theorem dX8_leaf_76 : decode cX8_leaf 76 = .ok (.ireturn, 1) := by decide +kernel
theorem dX8_change_0 : decode cX8_change 0 = .ok (.aload_n 0, 1) := by decide +kernel
theorem dX8_change_1 : decode cX8_change 1 = .ok (.iconst 0, 1) := by decide +kernel
theorem dX8_change_2 : decode cX8_change 2 = .ok (.putfield 143, 3) := by decide +kernel
theorem dX8_change_5 : decode cX8_change 5 = .ok (.iload_n 1, 1) := by decide +kernel
theorem dX8_change_6 : decode cX8_change 6 = .ok (.invokestatic 186, 3) := by decide +kernel
theorem dX8_change_9 : decode cX8_change 9 = .ok (.ifCond .ne 6, 3) := by decide +kernel
theorem dX8_change_12 : decode cX8_change 12 = .ok (.bipush (-102), 2) := by decide +kernel
theorem dX8_change_14 : decode cX8_change 14 = .ok (.ireturn, 1) := by decide +kernel
theorem dX8_change_15 : decode cX8_change 15 = .ok (.iload_n 2, 1) := by decide +kernel
theorem dX8_change_16 : decode cX8_change 16 = .ok (.iconst 0, 1) := by decide +kernel
theorem dX8_change_17 : decode cX8_change 17 = .ok (.aload_n 0, 1) := by decide +kernel
theorem dX8_change_18 : decode cX8_change 18 = .ok (.getfield 74, 3) := by decide +kernel
theorem dX8_change_21 : decode cX8_change 21 = .ok (.iload_n 1, 1) := by decide +kernel
theorem dX8_change_22 : decode cX8_change 22 = .ok (.iaload, 1) := by decide +kernel
theorem dX8_change_23 : decode cX8_change 23 = .ok (.iconst 1, 1) := by decide +kernel
theorem dX8_change_24 : decode cX8_change 24 = .ok (.isub, 1) := by decide +kernel
theorem dX8_change_25 : decode cX8_change 25 = .ok (.invokestatic 146, 3) := by decide +kernel
theorem dX8_change_28 : decode cX8_change 28 = .ok (.ifCond .ne 6, 3) := by decide +kernel
theorem dX8_change_31 : decode cX8_change 31 = .ok (.bipush (-101), 2) := by decide +kernel
theorem dX8_change_33 : decode cX8_change 33 = .ok (.ireturn, 1) := by decide +kernel
theorem dX8_change_34 : decode cX8_change 34 = .ok (.iload_n 3, 1) := by decide +kernel
theorem dX8_change_35 : decode cX8_change 35 = .ok (.iconst 0, 1) := by decide +kernel
theorem dX8_change_36 : decode cX8_change 36 = .ok (.bipush 7, 2) := by decide +kernel
theorem dX8_change_38 : decode cX8_change 38 = .ok (.invokestatic 146, 3) := by decide +kernel
theorem dX8_change_41 : decode cX8_change 41 = .ok (.ifCond .eq 12, 3) := by decide +kernel
theorem dX8_change_44 : decode cX8_change 44 = .ok (.aload_n 0, 1) := by decide +kernel
theorem dX8_change_45 : decode cX8_change 45 = .ok (.getfield 150, 3) := by decide +kernel
theorem dX8_change_48 : decode cX8_change 48 = .ok (.bipush 40, 2) := by decide +kernel
theorem dX8_change_50 : decode cX8_change 50 = .ok (.if_icmp .le 6, 3) := by decide +kernel
theorem dX8_change_53 : decode cX8_change 53 = .ok (.bipush (-102), 2) := by decide +kernel
theorem dX8_change_55 : decode cX8_change 55 = .ok (.ireturn, 1) := by decide +kernel
theorem dX8_change_56 : decode cX8_change 56 = .ok (.aload_n 0, 1) := by decide +kernel
theorem dX8_change_57 : decode cX8_change 57 = .ok (.getfield 77, 3) := by decide +kernel
theorem dX8_change_60 : decode cX8_change 60 = .ok (.bipush 12, 2) := by decide +kernel
theorem dX8_change_62 : decode cX8_change 62 = .ok (.iload_n 1, 1) := by decide +kernel
theorem dX8_change_63 : decode cX8_change 63 = .ok (.imul, 1) := by decide +kernel
theorem dX8_change_64 : decode cX8_change 64 = .ok (.iload_n 2, 1) := by decide +kernel
theorem dX8_change_65 : decode cX8_change 65 = .ok (.iadd, 1) := by decide +kernel
theorem dX8_change_66 : decode cX8_change 66 = .ok (.iaload, 1) := by decide +kernel
theorem dX8_change_67 : decode cX8_change 67 = .ok (.istore 4, 2) := by decide +kernel
theorem dX8_change_69 : decode cX8_change 69 = .ok (.aload_n 0, 1) := by decide +kernel
theorem dX8_change_70 : decode cX8_change 70 = .ok (.iload_n 1, 1) := by decide +kernel
theorem dX8_change_71 : decode cX8_change 71 = .ok (.iload_n 2, 1) := by decide +kernel
theorem dX8_change_72 : decode cX8_change 72 = .ok (.iload_n 3, 1) := by decide +kernel
theorem dX8_change_73 : decode cX8_change 73 = .ok (.invokevirtual 189, 3) := by decide +kernel
theorem dX8_change_76 : decode cX8_change 76 = .ok (.iload 4, 2) := by decide +kernel
theorem dX8_change_78 : decode cX8_change 78 = .ok (.ireturn, 1) := by decide +kernel
theorem dX8_putWord_0 : decode cX8_putWord 0 = .ok (.aload_n 0, 1) := by decide +kernel
theorem dX8_putWord_1 : decode cX8_putWord 1 = .ok (.iload_n 1, 1) := by decide +kernel
theorem dX8_putWord_2 : decode cX8_putWord 2 = .ok (.bipush 24, 2) := by decide +kernel
theorem dX8_putWord_4 : decode cX8_putWord 4 = .ok (.iushr, 1) := by decide +kernel
theorem dX8_putWord_5 : decode cX8_putWord 5 = .ok (.invokevirtual 128, 3) := by decide +kernel
theorem dX8_putWord_8 : decode cX8_putWord 8 = .ok (.aload_n 0, 1) := by decide +kernel
theorem dX8_putWord_9 : decode cX8_putWord 9 = .ok (.iload_n 1, 1) := by decide +kernel
theorem dX8_putWord_10 : decode cX8_putWord 10 = .ok (.bipush 16, 2) := by decide +kernel
theorem dX8_putWord_12 : decode cX8_putWord 12 = .ok (.iushr, 1) := by decide +kernel
theorem dX8_putWord_13 : decode cX8_putWord 13 = .ok (.sipush 255, 3) := by decide +kernel
theorem dX8_putWord_16 : decode cX8_putWord 16 = .ok (.iand, 1) := by decide +kernel
theorem dX8_putWord_17 : decode cX8_putWord 17 = .ok (.invokevirtual 128, 3) := by decide +kernel
theorem dX8_putWord_20 : decode cX8_putWord 20 = .ok (.aload_n 0, 1) := by decide +kernel
theorem dX8_putWord_21 : decode cX8_putWord 21 = .ok (.iload_n 1, 1) := by decide +kernel
theorem dX8_putWord_22 : decode cX8_putWord 22 = .ok (.bipush 8, 2) := by decide +kernel
theorem dX8_putWord_24 : decode cX8_putWord 24 = .ok (.iushr, 1) := by decide +kernel
theorem dX8_putWord_25 : decode cX8_putWord 25 = .ok (.sipush 255, 3) := by decide +kernel
theorem dX8_putWord_28 : decode cX8_putWord 28 = .ok (.iand, 1) := by decide +kernel
theorem dX8_putWord_29 : decode cX8_putWord 29 = .ok (.invokevirtual 128, 3) := by decide +kernel
theorem dX8_putWord_32 : decode cX8_putWord 32 = .ok (.aload_n 0, 1) := by decide +kernel
theorem dX8_putWord_33 : decode cX8_putWord 33 = .ok (.iload_n 1, 1) := by decide +kernel
theorem dX8_putWord_34 : decode cX8_putWord 34 = .ok (.sipush 255, 3) := by decide +kernel
theorem dX8_putWord_37 : decode cX8_putWord 37 = .ok (.iand, 1) := by decide +kernel
theorem dX8_putWord_38 : decode cX8_putWord 38 = .ok (.invokevirtual 128, 3) := by decide +kernel
theorem dX8_putWord_41 : decode cX8_putWord 41 = .ok (.return_, 1) := by decide +kernel
theorem dX8_toLevel_0 : decode cX8_toLevel 0 = .ok (.iconst 0, 1) := by decide +kernel
theorem dX8_toLevel_1 : decode cX8_toLevel 1 = .ok (.istore_n 2, 1) := by decide +kernel
theorem dX8_toLevel_2 : decode cX8_toLevel 2 = .ok (.iload_n 2, 1) := by decide +kernel
theorem dX8_toLevel_3 : decode cX8_toLevel 3 = .ok (.bipush 8, 2) := by decide +kernel
theorem dX8_toLevel_5 : decode cX8_toLevel 5 = .ok (.if_icmp .ge 26, 3) := by decide +kernel
theorem dX8_toLevel_8 : decode cX8_toLevel 8 = .ok (.aload_n 0, 1) := by decide +kernel
theorem dX8_toLevel_9 : decode cX8_toLevel 9 = .ok (.getfield 86, 3) := by decide +kernel
theorem dX8_toLevel_12 : decode cX8_toLevel 12 = .ok (.bipush 8, 2) := by decide +kernel
theorem dX8_toLevel_14 : decode cX8_toLevel 14 = .ok (.iload_n 1, 1) := by decide +kernel
theorem dX8_toLevel_15 : decode cX8_toLevel 15 = .ok (.imul, 1) := by decide +kernel
theorem dX8_toLevel_16 : decode cX8_toLevel 16 = .ok (.iload_n 2, 1) := by decide +kernel
theorem dX8_toLevel_17 : decode cX8_toLevel 17 = .ok (.iadd, 1) := by decide +kernel
theorem dX8_toLevel_18 : decode cX8_toLevel 18 = .ok (.aload_n 0, 1) := by decide +kernel
theorem dX8_toLevel_19 : decode cX8_toLevel 19 = .ok (.getfield 32, 3) := by decide +kernel
theorem dX8_toLevel_22 : decode cX8_toLevel 22 = .ok (.iload_n 2, 1) := by decide +kernel
theorem dX8_toLevel_23 : decode cX8_toLevel 23 = .ok (.iaload, 1) := by decide +kernel
theorem dX8_toLevel_24 : decode cX8_toLevel 24 = .ok (.iastore, 1) := by decide +kernel
theorem dX8_toLevel_25 : decode cX8_toLevel 25 = .ok (.iinc 2 1, 3) := by decide +kernel
theorem dX8_toLevel_28 : decode cX8_toLevel 28 = .ok (.goto (-26), 3) := by decide +kernel
theorem dX8_toLevel_31 : decode cX8_toLevel 31 = .ok (.return_, 1) := by decide +kernel
theorem dX8_layLevel_0 : decode cX8_layLevel 0 = .ok (.iconst 0, 1) := by decide +kernel
theorem dX8_layLevel_1 : decode cX8_layLevel 1 = .ok (.istore_n 2, 1) := by decide +kernel
theorem dX8_layLevel_2 : decode cX8_layLevel 2 = .ok (.iload_n 2, 1) := by decide +kernel
theorem dX8_layLevel_3 : decode cX8_layLevel 3 = .ok (.aload_n 0, 1) := by decide +kernel
theorem dX8_layLevel_4 : decode cX8_layLevel 4 = .ok (.getfield 74, 3) := by decide +kernel
theorem dX8_layLevel_7 : decode cX8_layLevel 7 = .ok (.iload_n 1, 1) := by decide +kernel
theorem dX8_layLevel_8 : decode cX8_layLevel 8 = .ok (.iaload, 1) := by decide +kernel
theorem dX8_layLevel_9 : decode cX8_layLevel 9 = .ok (.if_icmp .ge 92, 3) := by decide +kernel
theorem dX8_layLevel_12 : decode cX8_layLevel 12 = .ok (.bipush 12, 2) := by decide +kernel
theorem dX8_layLevel_14 : decode cX8_layLevel 14 = .ok (.iload_n 1, 1) := by decide +kernel
theorem dX8_layLevel_15 : decode cX8_layLevel 15 = .ok (.imul, 1) := by decide +kernel
theorem dX8_layLevel_16 : decode cX8_layLevel 16 = .ok (.iload_n 2, 1) := by decide +kernel
theorem dX8_layLevel_17 : decode cX8_layLevel 17 = .ok (.iadd, 1) := by decide +kernel
theorem dX8_layLevel_18 : decode cX8_layLevel 18 = .ok (.istore_n 3, 1) := by decide +kernel
theorem dX8_layLevel_19 : decode cX8_layLevel 19 = .ok (.aload_n 0, 1) := by decide +kernel
theorem dX8_layLevel_20 : decode cX8_layLevel 20 = .ok (.iconst 0, 1) := by decide +kernel
theorem dX8_layLevel_21 : decode cX8_layLevel 21 = .ok (.putfield 122, 3) := by decide +kernel
theorem dX8_layLevel_24 : decode cX8_layLevel 24 = .ok (.aload_n 0, 1) := by decide +kernel
theorem dX8_layLevel_25 : decode cX8_layLevel 25 = .ok (.iconst 0, 1) := by decide +kernel
theorem dX8_layLevel_26 : decode cX8_layLevel 26 = .ok (.invokevirtual 128, 3) := by decide +kernel
theorem dX8_layLevel_29 : decode cX8_layLevel 29 = .ok (.aload_n 0, 1) := by decide +kernel
theorem dX8_layLevel_30 : decode cX8_layLevel 30 = .ok (.aload_n 0, 1) := by decide +kernel
theorem dX8_layLevel_31 : decode cX8_layLevel 31 = .ok (.getfield 77, 3) := by decide +kernel
theorem dX8_layLevel_34 : decode cX8_layLevel 34 = .ok (.iload_n 3, 1) := by decide +kernel
theorem dX8_layLevel_35 : decode cX8_layLevel 35 = .ok (.iaload, 1) := by decide +kernel
theorem dX8_layLevel_36 : decode cX8_layLevel 36 = .ok (.invokevirtual 128, 3) := by decide +kernel
theorem dX8_layLevel_39 : decode cX8_layLevel 39 = .ok (.aload_n 0, 1) := by decide +kernel
theorem dX8_layLevel_40 : decode cX8_layLevel 40 = .ok (.aload_n 0, 1) := by decide +kernel
theorem dX8_layLevel_41 : decode cX8_layLevel 41 = .ok (.getfield 80, 3) := by decide +kernel
theorem dX8_layLevel_44 : decode cX8_layLevel 44 = .ok (.iload_n 3, 1) := by decide +kernel
theorem dX8_layLevel_45 : decode cX8_layLevel 45 = .ok (.iaload, 1) := by decide +kernel
theorem dX8_layLevel_46 : decode cX8_layLevel 46 = .ok (.invokevirtual 128, 3) := by decide +kernel
theorem dX8_layLevel_49 : decode cX8_layLevel 49 = .ok (.iconst 0, 1) := by decide +kernel
theorem dX8_layLevel_50 : decode cX8_layLevel 50 = .ok (.istore 4, 2) := by decide +kernel
theorem dX8_layLevel_52 : decode cX8_layLevel 52 = .ok (.iload 4, 2) := by decide +kernel
theorem dX8_layLevel_54 : decode cX8_layLevel 54 = .ok (.aload_n 0, 1) := by decide +kernel
theorem dX8_layLevel_55 : decode cX8_layLevel 55 = .ok (.getfield 80, 3) := by decide +kernel
theorem dX8_layLevel_58 : decode cX8_layLevel 58 = .ok (.iload_n 3, 1) := by decide +kernel
theorem dX8_layLevel_59 : decode cX8_layLevel 59 = .ok (.iaload, 1) := by decide +kernel
theorem dX8_layLevel_60 : decode cX8_layLevel 60 = .ok (.if_icmp .ge 25, 3) := by decide +kernel
theorem dX8_layLevel_63 : decode cX8_layLevel 63 = .ok (.aload_n 0, 1) := by decide +kernel
theorem dX8_layLevel_64 : decode cX8_layLevel 64 = .ok (.aload_n 0, 1) := by decide +kernel
theorem dX8_layLevel_65 : decode cX8_layLevel 65 = .ok (.getfield 83, 3) := by decide +kernel
theorem dX8_layLevel_68 : decode cX8_layLevel 68 = .ok (.bipush 40, 2) := by decide +kernel
theorem dX8_layLevel_70 : decode cX8_layLevel 70 = .ok (.iload_n 3, 1) := by decide +kernel
theorem dX8_layLevel_71 : decode cX8_layLevel 71 = .ok (.imul, 1) := by decide +kernel
theorem dX8_layLevel_72 : decode cX8_layLevel 72 = .ok (.iload 4, 2) := by decide +kernel
theorem dX8_layLevel_74 : decode cX8_layLevel 74 = .ok (.iadd, 1) := by decide +kernel
theorem dX8_layLevel_75 : decode cX8_layLevel 75 = .ok (.iaload, 1) := by decide +kernel
theorem dX8_layLevel_76 : decode cX8_layLevel 76 = .ok (.invokevirtual 128, 3) := by decide +kernel
theorem dX8_layLevel_79 : decode cX8_layLevel 79 = .ok (.iinc 4 1, 3) := by decide +kernel
theorem dX8_layLevel_82 : decode cX8_layLevel 82 = .ok (.goto (-30), 3) := by decide +kernel
theorem dX8_layLevel_85 : decode cX8_layLevel 85 = .ok (.aload_n 0, 1) := by decide +kernel
theorem dX8_layLevel_86 : decode cX8_layLevel 86 = .ok (.iconst 0, 1) := by decide +kernel
theorem dX8_layLevel_87 : decode cX8_layLevel 87 = .ok (.invokevirtual 162, 3) := by decide +kernel
theorem dX8_layLevel_90 : decode cX8_layLevel 90 = .ok (.aload_n 0, 1) := by decide +kernel
theorem dX8_layLevel_91 : decode cX8_layLevel 91 = .ok (.iload_n 2, 1) := by decide +kernel
theorem dX8_layLevel_92 : decode cX8_layLevel 92 = .ok (.invokevirtual 193, 3) := by decide +kernel
theorem dX8_layLevel_95 : decode cX8_layLevel 95 = .ok (.iinc 2 1, 3) := by decide +kernel
theorem dX8_layLevel_98 : decode cX8_layLevel 98 = .ok (.goto (-96), 3) := by decide +kernel
theorem dX8_layLevel_101 : decode cX8_layLevel 101 = .ok (.return_, 1) := by decide +kernel
theorem dX8_rise_0 : decode cX8_rise 0 = .ok (.iconst 0, 1) := by decide +kernel
theorem dX8_rise_1 : decode cX8_rise 1 = .ok (.istore_n 2, 1) := by decide +kernel
theorem dX8_rise_2 : decode cX8_rise 2 = .ok (.iload_n 2, 1) := by decide +kernel
theorem dX8_rise_3 : decode cX8_rise 3 = .ok (.iconst 1, 1) := by decide +kernel
theorem dX8_rise_4 : decode cX8_rise 4 = .ok (.iadd, 1) := by decide +kernel
theorem dX8_rise_5 : decode cX8_rise 5 = .ok (.iload_n 1, 1) := by decide +kernel
theorem dX8_rise_6 : decode cX8_rise 6 = .ok (.if_icmp .ge 60, 3) := by decide +kernel
theorem dX8_rise_9 : decode cX8_rise 9 = .ok (.aload_n 0, 1) := by decide +kernel
theorem dX8_rise_10 : decode cX8_rise 10 = .ok (.iconst 0, 1) := by decide +kernel
theorem dX8_rise_11 : decode cX8_rise 11 = .ok (.putfield 122, 3) := by decide +kernel
theorem dX8_rise_14 : decode cX8_rise 14 = .ok (.aload_n 0, 1) := by decide +kernel
theorem dX8_rise_15 : decode cX8_rise 15 = .ok (.iconst 1, 1) := by decide +kernel
theorem dX8_rise_16 : decode cX8_rise 16 = .ok (.invokevirtual 128, 3) := by decide +kernel
theorem dX8_rise_19 : decode cX8_rise 19 = .ok (.iconst 0, 1) := by decide +kernel
theorem dX8_rise_20 : decode cX8_rise 20 = .ok (.istore_n 3, 1) := by decide +kernel
theorem dX8_rise_21 : decode cX8_rise 21 = .ok (.iload_n 3, 1) := by decide +kernel
theorem dX8_rise_22 : decode cX8_rise 22 = .ok (.bipush 16, 2) := by decide +kernel
theorem dX8_rise_24 : decode cX8_rise 24 = .ok (.if_icmp .ge 24, 3) := by decide +kernel
theorem dX8_rise_27 : decode cX8_rise 27 = .ok (.aload_n 0, 1) := by decide +kernel
theorem dX8_rise_28 : decode cX8_rise 28 = .ok (.aload_n 0, 1) := by decide +kernel
theorem dX8_rise_29 : decode cX8_rise 29 = .ok (.getfield 86, 3) := by decide +kernel
theorem dX8_rise_32 : decode cX8_rise 32 = .ok (.bipush 8, 2) := by decide +kernel
theorem dX8_rise_34 : decode cX8_rise 34 = .ok (.iload_n 2, 1) := by decide +kernel
theorem dX8_rise_35 : decode cX8_rise 35 = .ok (.imul, 1) := by decide +kernel
theorem dX8_rise_36 : decode cX8_rise 36 = .ok (.iload_n 3, 1) := by decide +kernel
theorem dX8_rise_37 : decode cX8_rise 37 = .ok (.iadd, 1) := by decide +kernel
theorem dX8_rise_38 : decode cX8_rise 38 = .ok (.iaload, 1) := by decide +kernel
theorem dX8_rise_39 : decode cX8_rise 39 = .ok (.invokevirtual 196, 3) := by decide +kernel
theorem dX8_rise_42 : decode cX8_rise 42 = .ok (.iinc 3 1, 3) := by decide +kernel
theorem dX8_rise_45 : decode cX8_rise 45 = .ok (.goto (-24), 3) := by decide +kernel
theorem dX8_rise_48 : decode cX8_rise 48 = .ok (.aload_n 0, 1) := by decide +kernel
theorem dX8_rise_49 : decode cX8_rise 49 = .ok (.iconst 0, 1) := by decide +kernel
theorem dX8_rise_50 : decode cX8_rise 50 = .ok (.invokevirtual 162, 3) := by decide +kernel
theorem dX8_rise_53 : decode cX8_rise 53 = .ok (.aload_n 0, 1) := by decide +kernel
theorem dX8_rise_54 : decode cX8_rise 54 = .ok (.iload_n 2, 1) := by decide +kernel
theorem dX8_rise_55 : decode cX8_rise 55 = .ok (.iconst 2, 1) := by decide +kernel
theorem dX8_rise_56 : decode cX8_rise 56 = .ok (.idiv, 1) := by decide +kernel
theorem dX8_rise_57 : decode cX8_rise 57 = .ok (.invokevirtual 193, 3) := by decide +kernel
theorem dX8_rise_60 : decode cX8_rise 60 = .ok (.iinc 2 2, 3) := by decide +kernel
theorem dX8_rise_63 : decode cX8_rise 63 = .ok (.goto (-61), 3) := by decide +kernel
theorem dX8_rise_66 : decode cX8_rise 66 = .ok (.iconst 0, 1) := by decide +kernel
theorem dX8_rise_67 : decode cX8_rise 67 = .ok (.istore_n 2, 1) := by decide +kernel
theorem dX8_rise_68 : decode cX8_rise 68 = .ok (.iload_n 1, 1) := by decide +kernel
theorem dX8_rise_69 : decode cX8_rise 69 = .ok (.iconst 2, 1) := by decide +kernel
theorem dX8_rise_70 : decode cX8_rise 70 = .ok (.irem, 1) := by decide +kernel
theorem dX8_rise_71 : decode cX8_rise 71 = .ok (.iconst 1, 1) := by decide +kernel
theorem dX8_rise_72 : decode cX8_rise 72 = .ok (.if_icmp .ne 41, 3) := by decide +kernel
theorem dX8_rise_75 : decode cX8_rise 75 = .ok (.iload_n 2, 1) := by decide +kernel
theorem dX8_rise_76 : decode cX8_rise 76 = .ok (.bipush 8, 2) := by decide +kernel
theorem dX8_rise_78 : decode cX8_rise 78 = .ok (.if_icmp .ge 35, 3) := by decide +kernel
theorem dX8_rise_81 : decode cX8_rise 81 = .ok (.aload_n 0, 1) := by decide +kernel
theorem dX8_rise_82 : decode cX8_rise 82 = .ok (.getfield 86, 3) := by decide +kernel
theorem dX8_rise_85 : decode cX8_rise 85 = .ok (.bipush 8, 2) := by decide +kernel
theorem dX8_rise_87 : decode cX8_rise 87 = .ok (.iload_n 1, 1) := by decide +kernel
theorem dX8_rise_88 : decode cX8_rise 88 = .ok (.iconst 2, 1) := by decide +kernel
theorem dX8_rise_89 : decode cX8_rise 89 = .ok (.idiv, 1) := by decide +kernel
theorem dX8_rise_90 : decode cX8_rise 90 = .ok (.imul, 1) := by decide +kernel
theorem dX8_rise_91 : decode cX8_rise 91 = .ok (.iload_n 2, 1) := by decide +kernel
theorem dX8_rise_92 : decode cX8_rise 92 = .ok (.iadd, 1) := by decide +kernel
theorem dX8_rise_93 : decode cX8_rise 93 = .ok (.aload_n 0, 1) := by decide +kernel
theorem dX8_rise_94 : decode cX8_rise 94 = .ok (.getfield 86, 3) := by decide +kernel
theorem dX8_rise_97 : decode cX8_rise 97 = .ok (.bipush 8, 2) := by decide +kernel
theorem dX8_rise_99 : decode cX8_rise 99 = .ok (.iload_n 1, 1) := by decide +kernel
theorem dX8_rise_100 : decode cX8_rise 100 = .ok (.iconst 1, 1) := by decide +kernel
theorem dX8_rise_101 : decode cX8_rise 101 = .ok (.isub, 1) := by decide +kernel
theorem dX8_rise_102 : decode cX8_rise 102 = .ok (.imul, 1) := by decide +kernel
theorem dX8_rise_103 : decode cX8_rise 103 = .ok (.iload_n 2, 1) := by decide +kernel
theorem dX8_rise_104 : decode cX8_rise 104 = .ok (.iadd, 1) := by decide +kernel
theorem dX8_rise_105 : decode cX8_rise 105 = .ok (.iaload, 1) := by decide +kernel
theorem dX8_rise_106 : decode cX8_rise 106 = .ok (.iastore, 1) := by decide +kernel
theorem dX8_rise_107 : decode cX8_rise 107 = .ok (.iinc 2 1, 3) := by decide +kernel
theorem dX8_rise_110 : decode cX8_rise 110 = .ok (.goto (-42), 3) := by decide +kernel
theorem dX8_rise_113 : decode cX8_rise 113 = .ok (.iload_n 1, 1) := by decide +kernel
theorem dX8_rise_114 : decode cX8_rise 114 = .ok (.iconst 1, 1) := by decide +kernel
theorem dX8_rise_115 : decode cX8_rise 115 = .ok (.iadd, 1) := by decide +kernel
theorem dX8_rise_116 : decode cX8_rise 116 = .ok (.iconst 2, 1) := by decide +kernel
theorem dX8_rise_117 : decode cX8_rise 117 = .ok (.idiv, 1) := by decide +kernel
theorem dX8_rise_118 : decode cX8_rise 118 = .ok (.ireturn, 1) := by decide +kernel
theorem dX8_workRoot_0 : decode cX8_workRoot 0 = .ok (.aload_n 0, 1) := by decide +kernel
theorem dX8_workRoot_1 : decode cX8_workRoot 1 = .ok (.iconst 0, 1) := by decide +kernel
theorem dX8_workRoot_2 : decode cX8_workRoot 2 = .ok (.putfield 122, 3) := by decide +kernel
theorem dX8_workRoot_5 : decode cX8_workRoot 5 = .ok (.aload_n 0, 1) := by decide +kernel
theorem dX8_workRoot_6 : decode cX8_workRoot 6 = .ok (.iconst 0, 1) := by decide +kernel
theorem dX8_workRoot_7 : decode cX8_workRoot 7 = .ok (.putfield 137, 3) := by decide +kernel
theorem dX8_workRoot_10 : decode cX8_workRoot 10 = .ok (.aload_n 0, 1) := by decide +kernel
theorem dX8_workRoot_11 : decode cX8_workRoot 11 = .ok (.iconst 2, 1) := by decide +kernel
theorem dX8_workRoot_12 : decode cX8_workRoot 12 = .ok (.invokevirtual 128, 3) := by decide +kernel
theorem dX8_workRoot_15 : decode cX8_workRoot 15 = .ok (.aload_n 0, 1) := by decide +kernel
theorem dX8_workRoot_16 : decode cX8_workRoot 16 = .ok (.iload_n 1, 1) := by decide +kernel
theorem dX8_workRoot_17 : decode cX8_workRoot 17 = .ok (.invokevirtual 128, 3) := by decide +kernel
theorem dX8_workRoot_20 : decode cX8_workRoot 20 = .ok (.iconst 0, 1) := by decide +kernel
theorem dX8_workRoot_21 : decode cX8_workRoot 21 = .ok (.istore_n 2, 1) := by decide +kernel
theorem dX8_workRoot_22 : decode cX8_workRoot 22 = .ok (.iload_n 2, 1) := by decide +kernel
theorem dX8_workRoot_23 : decode cX8_workRoot 23 = .ok (.bipush 8, 2) := by decide +kernel
theorem dX8_workRoot_25 : decode cX8_workRoot 25 = .ok (.if_icmp .ge 27, 3) := by decide +kernel
theorem dX8_workRoot_28 : decode cX8_workRoot 28 = .ok (.aload_n 0, 1) := by decide +kernel
theorem dX8_workRoot_29 : decode cX8_workRoot 29 = .ok (.iload_n 1, 1) := by decide +kernel
theorem dX8_workRoot_30 : decode cX8_workRoot 30 = .ok (.ifCond .ne 7, 3) := by decide +kernel
theorem dX8_workRoot_33 : decode cX8_workRoot 33 = .ok (.iconst 0, 1) := by decide +kernel
theorem dX8_workRoot_34 : decode cX8_workRoot 34 = .ok (.goto 9, 3) := by decide +kernel
theorem dX8_workRoot_37 : decode cX8_workRoot 37 = .ok (.aload_n 0, 1) := by decide +kernel
theorem dX8_workRoot_38 : decode cX8_workRoot 38 = .ok (.getfield 86, 3) := by decide +kernel
theorem dX8_workRoot_41 : decode cX8_workRoot 41 = .ok (.iload_n 2, 1) := by decide +kernel
theorem dX8_workRoot_42 : decode cX8_workRoot 42 = .ok (.iaload, 1) := by decide +kernel
theorem dX8_workRoot_43 : decode cX8_workRoot 43 = .ok (.invokevirtual 196, 3) := by decide +kernel
theorem dX8_workRoot_46 : decode cX8_workRoot 46 = .ok (.iinc 2 1, 3) := by decide +kernel
theorem dX8_workRoot_49 : decode cX8_workRoot 49 = .ok (.goto (-27), 3) := by decide +kernel
theorem dX8_workRoot_52 : decode cX8_workRoot 52 = .ok (.aload_n 0, 1) := by decide +kernel
theorem dX8_workRoot_53 : decode cX8_workRoot 53 = .ok (.iconst 0, 1) := by decide +kernel
theorem dX8_workRoot_54 : decode cX8_workRoot 54 = .ok (.invokevirtual 162, 3) := by decide +kernel
theorem dX8_workRoot_57 : decode cX8_workRoot 57 = .ok (.return_, 1) := by decide +kernel
theorem dX8_root_0 : decode cX8_root 0 = .ok (.aload_n 0, 1) := by decide +kernel
theorem dX8_root_1 : decode cX8_root 1 = .ok (.iconst 0, 1) := by decide +kernel
theorem dX8_root_2 : decode cX8_root 2 = .ok (.putfield 143, 3) := by decide +kernel
theorem dX8_root_5 : decode cX8_root 5 = .ok (.iload_n 1, 1) := by decide +kernel
theorem dX8_root_6 : decode cX8_root 6 = .ok (.invokestatic 186, 3) := by decide +kernel
theorem dX8_root_9 : decode cX8_root 9 = .ok (.ifCond .ne 6, 3) := by decide +kernel
theorem dX8_root_12 : decode cX8_root 12 = .ok (.bipush (-102), 2) := by decide +kernel
theorem dX8_root_14 : decode cX8_root 14 = .ok (.ireturn, 1) := by decide +kernel
theorem dX8_root_15 : decode cX8_root 15 = .ok (.aload_n 0, 1) := by decide +kernel
theorem dX8_root_16 : decode cX8_root 16 = .ok (.getfield 156, 3) := by decide +kernel
theorem dX8_root_19 : decode cX8_root 19 = .ok (.bipush 60, 2) := by decide +kernel
theorem dX8_root_21 : decode cX8_root 21 = .ok (.if_icmp .ne 6, 3) := by decide +kernel
theorem dX8_root_24 : decode cX8_root 24 = .ok (.bipush (-103), 2) := by decide +kernel
theorem dX8_root_26 : decode cX8_root 26 = .ok (.ireturn, 1) := by decide +kernel
theorem dX8_root_27 : decode cX8_root 27 = .ok (.aload_n 0, 1) := by decide +kernel
theorem dX8_root_28 : decode cX8_root 28 = .ok (.iload_n 1, 1) := by decide +kernel
theorem dX8_root_29 : decode cX8_root 29 = .ok (.invokevirtual 199, 3) := by decide +kernel
theorem dX8_root_32 : decode cX8_root 32 = .ok (.aload_n 0, 1) := by decide +kernel
theorem dX8_root_33 : decode cX8_root 33 = .ok (.getfield 74, 3) := by decide +kernel
theorem dX8_root_36 : decode cX8_root 36 = .ok (.iload_n 1, 1) := by decide +kernel
theorem dX8_root_37 : decode cX8_root 37 = .ok (.iaload, 1) := by decide +kernel
theorem dX8_root_38 : decode cX8_root 38 = .ok (.istore_n 2, 1) := by decide +kernel
theorem dX8_root_39 : decode cX8_root 39 = .ok (.iload_n 2, 1) := by decide +kernel
theorem dX8_root_40 : decode cX8_root 40 = .ok (.iconst 1, 1) := by decide +kernel
theorem dX8_root_41 : decode cX8_root 41 = .ok (.if_icmp .le 12, 3) := by decide +kernel
theorem dX8_root_44 : decode cX8_root 44 = .ok (.aload_n 0, 1) := by decide +kernel
theorem dX8_root_45 : decode cX8_root 45 = .ok (.iload_n 2, 1) := by decide +kernel
theorem dX8_root_46 : decode cX8_root 46 = .ok (.invokevirtual 202, 3) := by decide +kernel
theorem dX8_root_49 : decode cX8_root 49 = .ok (.istore_n 2, 1) := by decide +kernel
theorem dX8_root_50 : decode cX8_root 50 = .ok (.goto (-11), 3) := by decide +kernel
theorem dX8_root_53 : decode cX8_root 53 = .ok (.aload_n 0, 1) := by decide +kernel
theorem dX8_root_54 : decode cX8_root 54 = .ok (.aload_n 0, 1) := by decide +kernel
theorem dX8_root_55 : decode cX8_root 55 = .ok (.getfield 74, 3) := by decide +kernel
theorem dX8_root_58 : decode cX8_root 58 = .ok (.iload_n 1, 1) := by decide +kernel
theorem dX8_root_59 : decode cX8_root 59 = .ok (.iaload, 1) := by decide +kernel
theorem dX8_root_60 : decode cX8_root 60 = .ok (.invokevirtual 205, 3) := by decide +kernel
theorem dX8_root_63 : decode cX8_root 63 = .ok (.aload_n 0, 1) := by decide +kernel
theorem dX8_root_64 : decode cX8_root 64 = .ok (.iconst 0, 1) := by decide +kernel
theorem dX8_root_65 : decode cX8_root 65 = .ok (.invokevirtual 166, 3) := by decide +kernel
theorem dX8_root_68 : decode cX8_root 68 = .ok (.ireturn, 1) := by decide +kernel
theorem dX8_drop_0 : decode cX8_drop 0 = .ok (.aload_n 0, 1) := by decide +kernel
theorem dX8_drop_1 : decode cX8_drop 1 = .ok (.iconst 0, 1) := by decide +kernel
theorem dX8_drop_2 : decode cX8_drop 2 = .ok (.putfield 143, 3) := by decide +kernel
theorem dX8_drop_5 : decode cX8_drop 5 = .ok (.iload_n 1, 1) := by decide +kernel
theorem dX8_drop_6 : decode cX8_drop 6 = .ok (.invokestatic 186, 3) := by decide +kernel
theorem dX8_drop_9 : decode cX8_drop 9 = .ok (.ifCond .ne 6, 3) := by decide +kernel
theorem dX8_drop_12 : decode cX8_drop 12 = .ok (.bipush (-102), 2) := by decide +kernel
theorem dX8_drop_14 : decode cX8_drop 14 = .ok (.ireturn, 1) := by decide +kernel
theorem dX8_drop_15 : decode cX8_drop 15 = .ok (.aload_n 0, 1) := by decide +kernel
theorem dX8_drop_16 : decode cX8_drop 16 = .ok (.getfield 74, 3) := by decide +kernel
theorem dX8_drop_19 : decode cX8_drop 19 = .ok (.iload_n 1, 1) := by decide +kernel
theorem dX8_drop_20 : decode cX8_drop 20 = .ok (.iaload, 1) := by decide +kernel
theorem dX8_drop_21 : decode cX8_drop 21 = .ok (.istore_n 2, 1) := by decide +kernel
theorem dX8_drop_22 : decode cX8_drop 22 = .ok (.aload_n 0, 1) := by decide +kernel
theorem dX8_drop_23 : decode cX8_drop 23 = .ok (.getfield 74, 3) := by decide +kernel
theorem dX8_drop_26 : decode cX8_drop 26 = .ok (.iload_n 1, 1) := by decide +kernel
theorem dX8_drop_27 : decode cX8_drop 27 = .ok (.iconst 0, 1) := by decide +kernel
theorem dX8_drop_28 : decode cX8_drop 28 = .ok (.iastore, 1) := by decide +kernel
theorem dX8_drop_29 : decode cX8_drop 29 = .ok (.iload_n 2, 1) := by decide +kernel
theorem dX8_drop_30 : decode cX8_drop 30 = .ok (.ireturn, 1) := by decide +kernel
theorem dX8_prove_0 : decode cX8_prove 0 = .ok (.aload_n 0, 1) := by decide +kernel
theorem dX8_prove_1 : decode cX8_prove 1 = .ok (.iconst 0, 1) := by decide +kernel
theorem dX8_prove_2 : decode cX8_prove 2 = .ok (.putfield 143, 3) := by decide +kernel
theorem dX8_prove_5 : decode cX8_prove 5 = .ok (.iload_n 1, 1) := by decide +kernel
theorem dX8_prove_6 : decode cX8_prove 6 = .ok (.invokestatic 186, 3) := by decide +kernel
theorem dX8_prove_9 : decode cX8_prove 9 = .ok (.ifCond .ne 6, 3) := by decide +kernel
theorem dX8_prove_12 : decode cX8_prove 12 = .ok (.bipush (-102), 2) := by decide +kernel
theorem dX8_prove_14 : decode cX8_prove 14 = .ok (.ireturn, 1) := by decide +kernel
theorem dX8_prove_15 : decode cX8_prove 15 = .ok (.iload_n 2, 1) := by decide +kernel
theorem dX8_prove_16 : decode cX8_prove 16 = .ok (.iconst 0, 1) := by decide +kernel
theorem dX8_prove_17 : decode cX8_prove 17 = .ok (.aload_n 0, 1) := by decide +kernel
theorem dX8_prove_18 : decode cX8_prove 18 = .ok (.getfield 74, 3) := by decide +kernel
theorem dX8_prove_21 : decode cX8_prove 21 = .ok (.iload_n 1, 1) := by decide +kernel
theorem dX8_prove_22 : decode cX8_prove 22 = .ok (.iaload, 1) := by decide +kernel
theorem dX8_prove_23 : decode cX8_prove 23 = .ok (.iconst 1, 1) := by decide +kernel
theorem dX8_prove_24 : decode cX8_prove 24 = .ok (.isub, 1) := by decide +kernel
theorem dX8_prove_25 : decode cX8_prove 25 = .ok (.invokestatic 146, 3) := by decide +kernel
theorem dX8_prove_28 : decode cX8_prove 28 = .ok (.ifCond .ne 6, 3) := by decide +kernel
theorem dX8_prove_31 : decode cX8_prove 31 = .ok (.bipush (-101), 2) := by decide +kernel
theorem dX8_prove_33 : decode cX8_prove 33 = .ok (.ireturn, 1) := by decide +kernel
theorem dX8_prove_34 : decode cX8_prove 34 = .ok (.aload_n 0, 1) := by decide +kernel
theorem dX8_prove_35 : decode cX8_prove 35 = .ok (.iload_n 1, 1) := by decide +kernel
theorem dX8_prove_36 : decode cX8_prove 36 = .ok (.invokevirtual 199, 3) := by decide +kernel
theorem dX8_prove_39 : decode cX8_prove 39 = .ok (.aload_n 0, 1) := by decide +kernel
theorem dX8_prove_40 : decode cX8_prove 40 = .ok (.iconst 0, 1) := by decide +kernel
theorem dX8_prove_41 : decode cX8_prove 41 = .ok (.putfield 208, 3) := by decide +kernel
theorem dX8_prove_44 : decode cX8_prove 44 = .ok (.aload_n 0, 1) := by decide +kernel
theorem dX8_prove_45 : decode cX8_prove 45 = .ok (.getfield 74, 3) := by decide +kernel
theorem dX8_prove_48 : decode cX8_prove 48 = .ok (.iload_n 1, 1) := by decide +kernel
theorem dX8_prove_49 : decode cX8_prove 49 = .ok (.iaload, 1) := by decide +kernel
theorem dX8_prove_50 : decode cX8_prove 50 = .ok (.istore_n 3, 1) := by decide +kernel
theorem dX8_prove_51 : decode cX8_prove 51 = .ok (.iload_n 2, 1) := by decide +kernel
theorem dX8_prove_52 : decode cX8_prove 52 = .ok (.istore 4, 2) := by decide +kernel
theorem dX8_prove_54 : decode cX8_prove 54 = .ok (.iload_n 3, 1) := by decide +kernel
theorem dX8_prove_55 : decode cX8_prove 55 = .ok (.iconst 1, 1) := by decide +kernel
theorem dX8_prove_56 : decode cX8_prove 56 = .ok (.if_icmp .le 98, 3) := by decide +kernel
theorem dX8_prove_59 : decode cX8_prove 59 = .ok (.iload 4, 2) := by decide +kernel
theorem dX8_prove_61 : decode cX8_prove 61 = .ok (.iconst 2, 1) := by decide +kernel
theorem dX8_prove_62 : decode cX8_prove 62 = .ok (.irem, 1) := by decide +kernel
theorem dX8_prove_63 : decode cX8_prove 63 = .ok (.ifCond .ne 10, 3) := by decide +kernel
theorem dX8_prove_66 : decode cX8_prove 66 = .ok (.iload 4, 2) := by decide +kernel
theorem dX8_prove_68 : decode cX8_prove 68 = .ok (.iconst 1, 1) := by decide +kernel
theorem dX8_prove_69 : decode cX8_prove 69 = .ok (.iadd, 1) := by decide +kernel
theorem dX8_prove_70 : decode cX8_prove 70 = .ok (.goto 7, 3) := by decide +kernel
theorem dX8_prove_73 : decode cX8_prove 73 = .ok (.iload 4, 2) := by decide +kernel
theorem dX8_prove_75 : decode cX8_prove 75 = .ok (.iconst 1, 1) := by decide +kernel
theorem dX8_prove_76 : decode cX8_prove 76 = .ok (.isub, 1) := by decide +kernel
theorem dX8_prove_77 : decode cX8_prove 77 = .ok (.istore 5, 2) := by decide +kernel
theorem dX8_prove_79 : decode cX8_prove 79 = .ok (.iload 5, 2) := by decide +kernel
theorem dX8_prove_81 : decode cX8_prove 81 = .ok (.iload_n 3, 1) := by decide +kernel
theorem dX8_prove_82 : decode cX8_prove 82 = .ok (.if_icmp .ge 57, 3) := by decide +kernel
theorem dX8_prove_85 : decode cX8_prove 85 = .ok (.iconst 0, 1) := by decide +kernel
theorem dX8_prove_86 : decode cX8_prove 86 = .ok (.istore 6, 2) := by decide +kernel
theorem dX8_prove_88 : decode cX8_prove 88 = .ok (.iload 6, 2) := by decide +kernel
theorem dX8_prove_90 : decode cX8_prove 90 = .ok (.bipush 8, 2) := by decide +kernel
theorem dX8_prove_92 : decode cX8_prove 92 = .ok (.if_icmp .ge 37, 3) := by decide +kernel
theorem dX8_prove_95 : decode cX8_prove 95 = .ok (.aload_n 0, 1) := by decide +kernel
theorem dX8_prove_96 : decode cX8_prove 96 = .ok (.getfield 89, 3) := by decide +kernel
theorem dX8_prove_99 : decode cX8_prove 99 = .ok (.bipush 8, 2) := by decide +kernel
theorem dX8_prove_101 : decode cX8_prove 101 = .ok (.aload_n 0, 1) := by decide +kernel
theorem dX8_prove_102 : decode cX8_prove 102 = .ok (.getfield 208, 3) := by decide +kernel
theorem dX8_prove_105 : decode cX8_prove 105 = .ok (.imul, 1) := by decide +kernel
theorem dX8_prove_106 : decode cX8_prove 106 = .ok (.iload 6, 2) := by decide +kernel
theorem dX8_prove_108 : decode cX8_prove 108 = .ok (.iadd, 1) := by decide +kernel
theorem dX8_prove_109 : decode cX8_prove 109 = .ok (.aload_n 0, 1) := by decide +kernel
theorem dX8_prove_110 : decode cX8_prove 110 = .ok (.getfield 86, 3) := by decide +kernel
theorem dX8_prove_113 : decode cX8_prove 113 = .ok (.bipush 8, 2) := by decide +kernel
theorem dX8_prove_115 : decode cX8_prove 115 = .ok (.iload 5, 2) := by decide +kernel
theorem dX8_prove_117 : decode cX8_prove 117 = .ok (.imul, 1) := by decide +kernel
theorem dX8_prove_118 : decode cX8_prove 118 = .ok (.iload 6, 2) := by decide +kernel
theorem dX8_prove_120 : decode cX8_prove 120 = .ok (.iadd, 1) := by decide +kernel
theorem dX8_prove_121 : decode cX8_prove 121 = .ok (.iaload, 1) := by decide +kernel
theorem dX8_prove_122 : decode cX8_prove 122 = .ok (.iastore, 1) := by decide +kernel
theorem dX8_prove_123 : decode cX8_prove 123 = .ok (.iinc 6 1, 3) := by decide +kernel
theorem dX8_prove_126 : decode cX8_prove 126 = .ok (.goto (-38), 3) := by decide +kernel
theorem dX8_prove_129 : decode cX8_prove 129 = .ok (.aload_n 0, 1) := by decide +kernel
theorem dX8_prove_130 : decode cX8_prove 130 = .ok (.dup, 1) := by decide +kernel
theorem dX8_prove_131 : decode cX8_prove 131 = .ok (.getfield 208, 3) := by decide +kernel
theorem dX8_prove_134 : decode cX8_prove 134 = .ok (.iconst 1, 1) := by decide +kernel
theorem dX8_prove_135 : decode cX8_prove 135 = .ok (.iadd, 1) := by decide +kernel
theorem dX8_prove_136 : decode cX8_prove 136 = .ok (.putfield 208, 3) := by decide +kernel
theorem dX8_prove_139 : decode cX8_prove 139 = .ok (.aload_n 0, 1) := by decide +kernel
theorem dX8_prove_140 : decode cX8_prove 140 = .ok (.iload_n 3, 1) := by decide +kernel
theorem dX8_prove_141 : decode cX8_prove 141 = .ok (.invokevirtual 202, 3) := by decide +kernel
theorem dX8_prove_144 : decode cX8_prove 144 = .ok (.istore_n 3, 1) := by decide +kernel
theorem dX8_prove_145 : decode cX8_prove 145 = .ok (.iload 4, 2) := by decide +kernel
theorem dX8_prove_147 : decode cX8_prove 147 = .ok (.iconst 2, 1) := by decide +kernel
theorem dX8_prove_148 : decode cX8_prove 148 = .ok (.idiv, 1) := by decide +kernel
theorem dX8_prove_149 : decode cX8_prove 149 = .ok (.istore 4, 2) := by decide +kernel
theorem dX8_prove_151 : decode cX8_prove 151 = .ok (.goto (-97), 3) := by decide +kernel
theorem dX8_prove_154 : decode cX8_prove 154 = .ok (.aload_n 0, 1) := by decide +kernel
theorem dX8_prove_155 : decode cX8_prove 155 = .ok (.getfield 208, 3) := by decide +kernel
theorem dX8_prove_158 : decode cX8_prove 158 = .ok (.ireturn, 1) := by decide +kernel
theorem dX8_alter_0 : decode cX8_alter 0 = .ok (.aload_n 0, 1) := by decide +kernel
theorem dX8_alter_1 : decode cX8_alter 1 = .ok (.iconst 0, 1) := by decide +kernel
theorem dX8_alter_2 : decode cX8_alter 2 = .ok (.putfield 143, 3) := by decide +kernel
theorem dX8_alter_5 : decode cX8_alter 5 = .ok (.iload_n 1, 1) := by decide +kernel
theorem dX8_alter_6 : decode cX8_alter 6 = .ok (.iconst 0, 1) := by decide +kernel
theorem dX8_alter_7 : decode cX8_alter 7 = .ok (.aload_n 0, 1) := by decide +kernel
theorem dX8_alter_8 : decode cX8_alter 8 = .ok (.getfield 208, 3) := by decide +kernel
theorem dX8_alter_11 : decode cX8_alter 11 = .ok (.iconst 1, 1) := by decide +kernel
theorem dX8_alter_12 : decode cX8_alter 12 = .ok (.isub, 1) := by decide +kernel
theorem dX8_alter_13 : decode cX8_alter 13 = .ok (.invokestatic 146, 3) := by decide +kernel
theorem dX8_alter_16 : decode cX8_alter 16 = .ok (.ifCond .ne 6, 3) := by decide +kernel
theorem dX8_alter_19 : decode cX8_alter 19 = .ok (.bipush (-101), 2) := by decide +kernel
theorem dX8_alter_21 : decode cX8_alter 21 = .ok (.ireturn, 1) := by decide +kernel
theorem dX8_alter_22 : decode cX8_alter 22 = .ok (.iload_n 2, 1) := by decide +kernel
theorem dX8_alter_23 : decode cX8_alter 23 = .ok (.iconst 0, 1) := by decide +kernel
theorem dX8_alter_24 : decode cX8_alter 24 = .ok (.bipush 31, 2) := by decide +kernel
theorem dX8_alter_26 : decode cX8_alter 26 = .ok (.invokestatic 146, 3) := by decide +kernel
theorem dX8_alter_29 : decode cX8_alter 29 = .ok (.ifCond .eq 14, 3) := by decide +kernel
theorem dX8_alter_32 : decode cX8_alter 32 = .ok (.iload_n 3, 1) := by decide +kernel
theorem dX8_alter_33 : decode cX8_alter 33 = .ok (.iconst 0, 1) := by decide +kernel
theorem dX8_alter_34 : decode cX8_alter 34 = .ok (.sipush 255, 3) := by decide +kernel
theorem dX8_alter_37 : decode cX8_alter 37 = .ok (.invokestatic 146, 3) := by decide +kernel
theorem dX8_alter_40 : decode cX8_alter 40 = .ok (.ifCond .ne 6, 3) := by decide +kernel
theorem dX8_alter_43 : decode cX8_alter 43 = .ok (.bipush (-102), 2) := by decide +kernel
theorem dX8_alter_45 : decode cX8_alter 45 = .ok (.ireturn, 1) := by decide +kernel
theorem dX8_alter_46 : decode cX8_alter 46 = .ok (.bipush 8, 2) := by decide +kernel
theorem dX8_alter_48 : decode cX8_alter 48 = .ok (.iload_n 1, 1) := by decide +kernel
theorem dX8_alter_49 : decode cX8_alter 49 = .ok (.imul, 1) := by decide +kernel
theorem dX8_alter_50 : decode cX8_alter 50 = .ok (.iload_n 2, 1) := by decide +kernel
theorem dX8_alter_51 : decode cX8_alter 51 = .ok (.iconst 4, 1) := by decide +kernel
theorem dX8_alter_52 : decode cX8_alter 52 = .ok (.idiv, 1) := by decide +kernel
theorem dX8_alter_53 : decode cX8_alter 53 = .ok (.iadd, 1) := by decide +kernel
theorem dX8_alter_54 : decode cX8_alter 54 = .ok (.istore 4, 2) := by decide +kernel
theorem dX8_alter_56 : decode cX8_alter 56 = .ok (.bipush 24, 2) := by decide +kernel
theorem dX8_alter_58 : decode cX8_alter 58 = .ok (.bipush 8, 2) := by decide +kernel
theorem dX8_alter_60 : decode cX8_alter 60 = .ok (.iload_n 2, 1) := by decide +kernel
theorem dX8_alter_61 : decode cX8_alter 61 = .ok (.iconst 4, 1) := by decide +kernel
theorem dX8_alter_62 : decode cX8_alter 62 = .ok (.irem, 1) := by decide +kernel
theorem dX8_alter_63 : decode cX8_alter 63 = .ok (.imul, 1) := by decide +kernel
theorem dX8_alter_64 : decode cX8_alter 64 = .ok (.isub, 1) := by decide +kernel
theorem dX8_alter_65 : decode cX8_alter 65 = .ok (.istore 5, 2) := by decide +kernel
theorem dX8_alter_67 : decode cX8_alter 67 = .ok (.aload_n 0, 1) := by decide +kernel
theorem dX8_alter_68 : decode cX8_alter 68 = .ok (.getfield 89, 3) := by decide +kernel
theorem dX8_alter_71 : decode cX8_alter 71 = .ok (.iload 4, 2) := by decide +kernel
theorem dX8_alter_73 : decode cX8_alter 73 = .ok (.dup2, 1) := by decide +kernel
theorem dX8_alter_74 : decode cX8_alter 74 = .ok (.iaload, 1) := by decide +kernel
theorem dX8_alter_75 : decode cX8_alter 75 = .ok (.iload_n 3, 1) := by decide +kernel
theorem dX8_alter_76 : decode cX8_alter 76 = .ok (.iload 5, 2) := by decide +kernel
theorem dX8_alter_78 : decode cX8_alter 78 = .ok (.ishl, 1) := by decide +kernel
theorem dX8_alter_79 : decode cX8_alter 79 = .ok (.ixor, 1) := by decide +kernel
theorem dX8_alter_80 : decode cX8_alter 80 = .ok (.iastore, 1) := by decide +kernel
theorem dX8_alter_81 : decode cX8_alter 81 = .ok (.aload_n 0, 1) := by decide +kernel
theorem dX8_alter_82 : decode cX8_alter 82 = .ok (.getfield 89, 3) := by decide +kernel
theorem dX8_alter_85 : decode cX8_alter 85 = .ok (.iload 4, 2) := by decide +kernel
theorem dX8_alter_87 : decode cX8_alter 87 = .ok (.iaload, 1) := by decide +kernel
theorem dX8_alter_88 : decode cX8_alter 88 = .ok (.iload 5, 2) := by decide +kernel
theorem dX8_alter_90 : decode cX8_alter 90 = .ok (.iushr, 1) := by decide +kernel
theorem dX8_alter_91 : decode cX8_alter 91 = .ok (.sipush 255, 3) := by decide +kernel
theorem dX8_alter_94 : decode cX8_alter 94 = .ok (.iand, 1) := by decide +kernel
theorem dX8_alter_95 : decode cX8_alter 95 = .ok (.ireturn, 1) := by decide +kernel
theorem dX8_check_0 : decode cX8_check 0 = .ok (.aload_n 0, 1) := by decide +kernel
theorem dX8_check_1 : decode cX8_check 1 = .ok (.iconst 0, 1) := by decide +kernel
theorem dX8_check_2 : decode cX8_check 2 = .ok (.putfield 143, 3) := by decide +kernel
theorem dX8_check_5 : decode cX8_check 5 = .ok (.aload_n 0, 1) := by decide +kernel
theorem dX8_check_6 : decode cX8_check 6 = .ok (.iload_n 1, 1) := by decide +kernel
theorem dX8_check_7 : decode cX8_check 7 = .ok (.invokevirtual 175, 3) := by decide +kernel
theorem dX8_check_10 : decode cX8_check 10 = .ok (.ifCond .ne 6, 3) := by decide +kernel
theorem dX8_check_13 : decode cX8_check 13 = .ok (.bipush (-101), 2) := by decide +kernel
theorem dX8_check_15 : decode cX8_check 15 = .ok (.ireturn, 1) := by decide +kernel
theorem dX8_check_16 : decode cX8_check 16 = .ok (.iload_n 2, 1) := by decide +kernel
theorem dX8_check_17 : decode cX8_check 17 = .ok (.iconst 1, 1) := by decide +kernel
theorem dX8_check_18 : decode cX8_check 18 = .ok (.bipush 12, 2) := by decide +kernel
theorem dX8_check_20 : decode cX8_check 20 = .ok (.invokestatic 146, 3) := by decide +kernel
theorem dX8_check_23 : decode cX8_check 23 = .ok (.ifCond .eq 34, 3) := by decide +kernel
theorem dX8_check_26 : decode cX8_check 26 = .ok (.iload_n 3, 1) := by decide +kernel
theorem dX8_check_27 : decode cX8_check 27 = .ok (.iconst 0, 1) := by decide +kernel
theorem dX8_check_28 : decode cX8_check 28 = .ok (.iload_n 2, 1) := by decide +kernel
theorem dX8_check_29 : decode cX8_check 29 = .ok (.iconst 1, 1) := by decide +kernel
theorem dX8_check_30 : decode cX8_check 30 = .ok (.isub, 1) := by decide +kernel
theorem dX8_check_31 : decode cX8_check 31 = .ok (.invokestatic 146, 3) := by decide +kernel
theorem dX8_check_34 : decode cX8_check 34 = .ok (.ifCond .eq 23, 3) := by decide +kernel
theorem dX8_check_37 : decode cX8_check 37 = .ok (.iload 4, 2) := by decide +kernel
theorem dX8_check_39 : decode cX8_check 39 = .ok (.iconst 0, 1) := by decide +kernel
theorem dX8_check_40 : decode cX8_check 40 = .ok (.bipush 7, 2) := by decide +kernel
theorem dX8_check_42 : decode cX8_check 42 = .ok (.invokestatic 146, 3) := by decide +kernel
theorem dX8_check_45 : decode cX8_check 45 = .ok (.ifCond .eq 12, 3) := by decide +kernel
theorem dX8_check_48 : decode cX8_check 48 = .ok (.aload_n 0, 1) := by decide +kernel
theorem dX8_check_49 : decode cX8_check 49 = .ok (.getfield 150, 3) := by decide +kernel
theorem dX8_check_52 : decode cX8_check 52 = .ok (.bipush 40, 2) := by decide +kernel
theorem dX8_check_54 : decode cX8_check 54 = .ok (.if_icmp .le 6, 3) := by decide +kernel
theorem dX8_check_57 : decode cX8_check 57 = .ok (.bipush (-102), 2) := by decide +kernel
theorem dX8_check_59 : decode cX8_check 59 = .ok (.ireturn, 1) := by decide +kernel
theorem dX8_check_60 : decode cX8_check 60 = .ok (.aload_n 0, 1) := by decide +kernel
theorem dX8_check_61 : decode cX8_check 61 = .ok (.iconst 0, 1) := by decide +kernel
theorem dX8_check_62 : decode cX8_check 62 = .ok (.putfield 122, 3) := by decide +kernel
theorem dX8_check_65 : decode cX8_check 65 = .ok (.aload_n 0, 1) := by decide +kernel
theorem dX8_check_66 : decode cX8_check 66 = .ok (.iconst 0, 1) := by decide +kernel
theorem dX8_check_67 : decode cX8_check 67 = .ok (.invokevirtual 128, 3) := by decide +kernel
theorem dX8_check_70 : decode cX8_check 70 = .ok (.aload_n 0, 1) := by decide +kernel
theorem dX8_check_71 : decode cX8_check 71 = .ok (.iload 4, 2) := by decide +kernel
theorem dX8_check_73 : decode cX8_check 73 = .ok (.invokevirtual 128, 3) := by decide +kernel
theorem dX8_check_76 : decode cX8_check 76 = .ok (.aload_n 0, 1) := by decide +kernel
theorem dX8_check_77 : decode cX8_check 77 = .ok (.aload_n 0, 1) := by decide +kernel
theorem dX8_check_78 : decode cX8_check 78 = .ok (.getfield 150, 3) := by decide +kernel
theorem dX8_check_81 : decode cX8_check 81 = .ok (.invokevirtual 128, 3) := by decide +kernel
theorem dX8_check_84 : decode cX8_check 84 = .ok (.iconst 0, 1) := by decide +kernel
theorem dX8_check_85 : decode cX8_check 85 = .ok (.istore 5, 2) := by decide +kernel
theorem dX8_check_87 : decode cX8_check 87 = .ok (.iload 5, 2) := by decide +kernel
theorem dX8_check_89 : decode cX8_check 89 = .ok (.aload_n 0, 1) := by decide +kernel
theorem dX8_check_90 : decode cX8_check 90 = .ok (.getfield 150, 3) := by decide +kernel
theorem dX8_check_93 : decode cX8_check 93 = .ok (.if_icmp .ge 20, 3) := by decide +kernel
theorem dX8_check_96 : decode cX8_check 96 = .ok (.aload_n 0, 1) := by decide +kernel
theorem dX8_check_97 : decode cX8_check 97 = .ok (.aload_n 0, 1) := by decide +kernel
theorem dX8_check_98 : decode cX8_check 98 = .ok (.getfield 38, 3) := by decide +kernel
theorem dX8_check_101 : decode cX8_check 101 = .ok (.iload 5, 2) := by decide +kernel
theorem dX8_check_103 : decode cX8_check 103 = .ok (.iaload, 1) := by decide +kernel
theorem dX8_check_104 : decode cX8_check 104 = .ok (.invokevirtual 128, 3) := by decide +kernel
theorem dX8_check_107 : decode cX8_check 107 = .ok (.iinc 5 1, 3) := by decide +kernel
theorem dX8_check_110 : decode cX8_check 110 = .ok (.goto (-23), 3) := by decide +kernel
theorem dX8_check_113 : decode cX8_check 113 = .ok (.aload_n 0, 1) := by decide +kernel
theorem dX8_check_114 : decode cX8_check 114 = .ok (.iconst 0, 1) := by decide +kernel
theorem dX8_check_115 : decode cX8_check 115 = .ok (.invokevirtual 162, 3) := by decide +kernel
theorem dX8_check_118 : decode cX8_check 118 = .ok (.iconst 0, 1) := by decide +kernel
theorem dX8_check_119 : decode cX8_check 119 = .ok (.istore 5, 2) := by decide +kernel
theorem dX8_check_121 : decode cX8_check 121 = .ok (.iload_n 2, 1) := by decide +kernel
theorem dX8_check_122 : decode cX8_check 122 = .ok (.istore 6, 2) := by decide +kernel
theorem dX8_check_124 : decode cX8_check 124 = .ok (.iload_n 3, 1) := by decide +kernel
theorem dX8_check_125 : decode cX8_check 125 = .ok (.istore 7, 2) := by decide +kernel
theorem dX8_check_127 : decode cX8_check 127 = .ok (.iload 6, 2) := by decide +kernel
theorem dX8_check_129 : decode cX8_check 129 = .ok (.iconst 1, 1) := by decide +kernel
theorem dX8_check_130 : decode cX8_check 130 = .ok (.if_icmp .le 79, 3) := by decide +kernel
theorem dX8_check_133 : decode cX8_check 133 = .ok (.iload 7, 2) := by decide +kernel
theorem dX8_check_135 : decode cX8_check 135 = .ok (.iconst 2, 1) := by decide +kernel
theorem dX8_check_136 : decode cX8_check 136 = .ok (.irem, 1) := by decide +kernel
theorem dX8_check_137 : decode cX8_check 137 = .ok (.ifCond .ne 10, 3) := by decide +kernel
theorem dX8_check_140 : decode cX8_check 140 = .ok (.iload 7, 2) := by decide +kernel
theorem dX8_check_142 : decode cX8_check 142 = .ok (.iconst 1, 1) := by decide +kernel
theorem dX8_check_143 : decode cX8_check 143 = .ok (.iadd, 1) := by decide +kernel
theorem dX8_check_144 : decode cX8_check 144 = .ok (.goto 7, 3) := by decide +kernel
theorem dX8_check_147 : decode cX8_check 147 = .ok (.iload 7, 2) := by decide +kernel
theorem dX8_check_149 : decode cX8_check 149 = .ok (.iconst 1, 1) := by decide +kernel
theorem dX8_check_150 : decode cX8_check 150 = .ok (.isub, 1) := by decide +kernel
theorem dX8_check_151 : decode cX8_check 151 = .ok (.istore 8, 2) := by decide +kernel
theorem dX8_check_153 : decode cX8_check 153 = .ok (.iload 8, 2) := by decide +kernel
theorem dX8_check_155 : decode cX8_check 155 = .ok (.iload 6, 2) := by decide +kernel
theorem dX8_check_157 : decode cX8_check 157 = .ok (.if_icmp .ge 35, 3) := by decide +kernel
theorem dX8_check_160 : decode cX8_check 160 = .ok (.iload 5, 2) := by decide +kernel
theorem dX8_check_162 : decode cX8_check 162 = .ok (.aload_n 0, 1) := by decide +kernel
theorem dX8_check_163 : decode cX8_check 163 = .ok (.getfield 208, 3) := by decide +kernel
theorem dX8_check_166 : decode cX8_check 166 = .ok (.if_icmp .ne 5, 3) := by decide +kernel
theorem dX8_check_169 : decode cX8_check 169 = .ok (.iconst 0, 1) := by decide +kernel
theorem dX8_check_170 : decode cX8_check 170 = .ok (.ireturn, 1) := by decide +kernel
theorem dX8_check_171 : decode cX8_check 171 = .ok (.aload_n 0, 1) := by decide +kernel
theorem dX8_check_172 : decode cX8_check 172 = .ok (.iload 5, 2) := by decide +kernel
theorem dX8_check_174 : decode cX8_check 174 = .ok (.iload 7, 2) := by decide +kernel
theorem dX8_check_176 : decode cX8_check 176 = .ok (.iconst 2, 1) := by decide +kernel
theorem dX8_check_177 : decode cX8_check 177 = .ok (.irem, 1) := by decide +kernel
theorem dX8_check_178 : decode cX8_check 178 = .ok (.ifCond .ne 7, 3) := by decide +kernel
theorem dX8_check_181 : decode cX8_check 181 = .ok (.iconst 1, 1) := by decide +kernel
theorem dX8_check_182 : decode cX8_check 182 = .ok (.goto 4, 3) := by decide +kernel
theorem dX8_check_185 : decode cX8_check 185 = .ok (.iconst 0, 1) := by decide +kernel
theorem dX8_check_186 : decode cX8_check 186 = .ok (.invokevirtual 211, 3) := by decide +kernel
theorem dX8_check_189 : decode cX8_check 189 = .ok (.iinc 5 1, 3) := by decide +kernel
theorem dX8_check_192 : decode cX8_check 192 = .ok (.iload 6, 2) := by decide +kernel
theorem dX8_check_194 : decode cX8_check 194 = .ok (.iconst 1, 1) := by decide +kernel
theorem dX8_check_195 : decode cX8_check 195 = .ok (.iadd, 1) := by decide +kernel
theorem dX8_check_196 : decode cX8_check 196 = .ok (.iconst 2, 1) := by decide +kernel
theorem dX8_check_197 : decode cX8_check 197 = .ok (.idiv, 1) := by decide +kernel
theorem dX8_check_198 : decode cX8_check 198 = .ok (.istore 6, 2) := by decide +kernel
theorem dX8_check_200 : decode cX8_check 200 = .ok (.iload 7, 2) := by decide +kernel
theorem dX8_check_202 : decode cX8_check 202 = .ok (.iconst 2, 1) := by decide +kernel
theorem dX8_check_203 : decode cX8_check 203 = .ok (.idiv, 1) := by decide +kernel
theorem dX8_check_204 : decode cX8_check 204 = .ok (.istore 7, 2) := by decide +kernel
theorem dX8_check_206 : decode cX8_check 206 = .ok (.goto (-79), 3) := by decide +kernel
theorem dX8_check_209 : decode cX8_check 209 = .ok (.aload_n 0, 1) := by decide +kernel
theorem dX8_check_210 : decode cX8_check 210 = .ok (.iconst 0, 1) := by decide +kernel
theorem dX8_check_211 : decode cX8_check 211 = .ok (.invokevirtual 193, 3) := by decide +kernel
theorem dX8_check_214 : decode cX8_check 214 = .ok (.aload_n 0, 1) := by decide +kernel
theorem dX8_check_215 : decode cX8_check 215 = .ok (.iload_n 2, 1) := by decide +kernel
theorem dX8_check_216 : decode cX8_check 216 = .ok (.invokevirtual 205, 3) := by decide +kernel
theorem dX8_check_219 : decode cX8_check 219 = .ok (.iload 5, 2) := by decide +kernel
theorem dX8_check_221 : decode cX8_check 221 = .ok (.aload_n 0, 1) := by decide +kernel
theorem dX8_check_222 : decode cX8_check 222 = .ok (.getfield 208, 3) := by decide +kernel
theorem dX8_check_225 : decode cX8_check 225 = .ok (.if_icmp .ne 17, 3) := by decide +kernel
theorem dX8_check_228 : decode cX8_check 228 = .ok (.aload_n 0, 1) := by decide +kernel
theorem dX8_check_229 : decode cX8_check 229 = .ok (.getfield 44, 3) := by decide +kernel
theorem dX8_check_232 : decode cX8_check 232 = .ok (.iload_n 1, 1) := by decide +kernel
theorem dX8_check_233 : decode cX8_check 233 = .ok (.iaload, 1) := by decide +kernel
theorem dX8_check_234 : decode cX8_check 234 = .ok (.iconst 1, 1) := by decide +kernel
theorem dX8_check_235 : decode cX8_check 235 = .ok (.if_icmp .eq 7, 3) := by decide +kernel
theorem dX8_check_238 : decode cX8_check 238 = .ok (.iconst 1, 1) := by decide +kernel
theorem dX8_check_239 : decode cX8_check 239 = .ok (.goto 4, 3) := by decide +kernel
theorem dX8_check_242 : decode cX8_check 242 = .ok (.iconst 0, 1) := by decide +kernel
theorem dX8_check_243 : decode cX8_check 243 = .ok (.istore 8, 2) := by decide +kernel
theorem dX8_check_245 : decode cX8_check 245 = .ok (.iconst 0, 1) := by decide +kernel
theorem dX8_check_246 : decode cX8_check 246 = .ok (.istore 9, 2) := by decide +kernel
theorem dX8_check_248 : decode cX8_check 248 = .ok (.iload 9, 2) := by decide +kernel
theorem dX8_check_250 : decode cX8_check 250 = .ok (.bipush 32, 2) := by decide +kernel
theorem dX8_check_252 : decode cX8_check 252 = .ok (.if_icmp .ge 42, 3) := by decide +kernel
theorem dX8_check_255 : decode cX8_check 255 = .ok (.iload 8, 2) := by decide +kernel
theorem dX8_check_257 : decode cX8_check 257 = .ok (.ifCond .eq 37, 3) := by decide +kernel
theorem dX8_check_260 : decode cX8_check 260 = .ok (.aload_n 0, 1) := by decide +kernel
theorem dX8_check_261 : decode cX8_check 261 = .ok (.iload 9, 2) := by decide +kernel
theorem dX8_check_263 : decode cX8_check 263 = .ok (.invokevirtual 159, 3) := by decide +kernel
theorem dX8_check_266 : decode cX8_check 266 = .ok (.aload_n 0, 1) := by decide +kernel
theorem dX8_check_267 : decode cX8_check 267 = .ok (.getfield 50, 3) := by decide +kernel
theorem dX8_check_270 : decode cX8_check 270 = .ok (.bipush 32, 2) := by decide +kernel
theorem dX8_check_272 : decode cX8_check 272 = .ok (.iload_n 1, 1) := by decide +kernel
theorem dX8_check_273 : decode cX8_check 273 = .ok (.imul, 1) := by decide +kernel
theorem dX8_check_274 : decode cX8_check 274 = .ok (.iload 9, 2) := by decide +kernel
theorem dX8_check_276 : decode cX8_check 276 = .ok (.iadd, 1) := by decide +kernel
theorem dX8_check_277 : decode cX8_check 277 = .ok (.iaload, 1) := by decide +kernel
theorem dX8_check_278 : decode cX8_check 278 = .ok (.if_icmp .ne 7, 3) := by decide +kernel
theorem dX8_check_281 : decode cX8_check 281 = .ok (.iconst 1, 1) := by decide +kernel
theorem dX8_check_282 : decode cX8_check 282 = .ok (.goto 4, 3) := by decide +kernel
theorem dX8_check_285 : decode cX8_check 285 = .ok (.iconst 0, 1) := by decide +kernel
theorem dX8_check_286 : decode cX8_check 286 = .ok (.istore 8, 2) := by decide +kernel
theorem dX8_check_288 : decode cX8_check 288 = .ok (.iinc 9 1, 3) := by decide +kernel
theorem dX8_check_291 : decode cX8_check 291 = .ok (.goto (-43), 3) := by decide +kernel
theorem dX8_check_294 : decode cX8_check 294 = .ok (.iload 8, 2) := by decide +kernel
theorem dX8_check_296 : decode cX8_check 296 = .ok (.ifCond .eq 7, 3) := by decide +kernel
theorem dX8_check_299 : decode cX8_check 299 = .ok (.iconst 1, 1) := by decide +kernel
theorem dX8_check_300 : decode cX8_check 300 = .ok (.goto 4, 3) := by decide +kernel
theorem dX8_check_303 : decode cX8_check 303 = .ok (.iconst 0, 1) := by decide +kernel
theorem dX8_check_304 : decode cX8_check 304 = .ok (.ireturn, 1) := by decide +kernel
theorem dX8_join_0 : decode cX8_join 0 = .ok (.aload_n 0, 1) := by decide +kernel
theorem dX8_join_1 : decode cX8_join 1 = .ok (.iconst 0, 1) := by decide +kernel
theorem dX8_join_2 : decode cX8_join 2 = .ok (.putfield 122, 3) := by decide +kernel
theorem dX8_join_5 : decode cX8_join 5 = .ok (.aload_n 0, 1) := by decide +kernel
theorem dX8_join_6 : decode cX8_join 6 = .ok (.iconst 1, 1) := by decide +kernel
theorem dX8_join_7 : decode cX8_join 7 = .ok (.invokevirtual 128, 3) := by decide +kernel
theorem dX8_join_10 : decode cX8_join 10 = .ok (.iconst 0, 1) := by decide +kernel
theorem dX8_join_11 : decode cX8_join 11 = .ok (.istore_n 3, 1) := by decide +kernel
theorem dX8_join_12 : decode cX8_join 12 = .ok (.iload_n 3, 1) := by decide +kernel
theorem dX8_join_13 : decode cX8_join 13 = .ok (.bipush 16, 2) := by decide +kernel
theorem dX8_join_15 : decode cX8_join 15 = .ok (.if_icmp .ge 66, 3) := by decide +kernel
theorem dX8_join_18 : decode cX8_join 18 = .ok (.iload_n 3, 1) := by decide +kernel
theorem dX8_join_19 : decode cX8_join 19 = .ok (.bipush 8, 2) := by decide +kernel
theorem dX8_join_21 : decode cX8_join 21 = .ok (.if_icmp .ge 7, 3) := by decide +kernel
theorem dX8_join_24 : decode cX8_join 24 = .ok (.iconst 1, 1) := by decide +kernel
theorem dX8_join_25 : decode cX8_join 25 = .ok (.goto 4, 3) := by decide +kernel
theorem dX8_join_28 : decode cX8_join 28 = .ok (.iconst 0, 1) := by decide +kernel
theorem dX8_join_29 : decode cX8_join 29 = .ok (.iload_n 2, 1) := by decide +kernel
theorem dX8_join_30 : decode cX8_join 30 = .ok (.if_icmp .ne 7, 3) := by decide +kernel
theorem dX8_join_33 : decode cX8_join 33 = .ok (.iconst 1, 1) := by decide +kernel
theorem dX8_join_34 : decode cX8_join 34 = .ok (.goto 4, 3) := by decide +kernel
theorem dX8_join_37 : decode cX8_join 37 = .ok (.iconst 0, 1) := by decide +kernel
theorem dX8_join_38 : decode cX8_join 38 = .ok (.istore 4, 2) := by decide +kernel
theorem dX8_join_40 : decode cX8_join 40 = .ok (.aload_n 0, 1) := by decide +kernel
theorem dX8_join_41 : decode cX8_join 41 = .ok (.iload 4, 2) := by decide +kernel
theorem dX8_join_43 : decode cX8_join 43 = .ok (.ifCond .eq 15, 3) := by decide +kernel
theorem dX8_join_46 : decode cX8_join 46 = .ok (.aload_n 0, 1) := by decide +kernel
theorem dX8_join_47 : decode cX8_join 47 = .ok (.getfield 32, 3) := by decide +kernel
theorem dX8_join_50 : decode cX8_join 50 = .ok (.iload_n 3, 1) := by decide +kernel
theorem dX8_join_51 : decode cX8_join 51 = .ok (.bipush 8, 2) := by decide +kernel
theorem dX8_join_53 : decode cX8_join 53 = .ok (.irem, 1) := by decide +kernel
theorem dX8_join_54 : decode cX8_join 54 = .ok (.iaload, 1) := by decide +kernel
theorem dX8_join_55 : decode cX8_join 55 = .ok (.goto 17, 3) := by decide +kernel
theorem dX8_join_58 : decode cX8_join 58 = .ok (.aload_n 0, 1) := by decide +kernel
theorem dX8_join_59 : decode cX8_join 59 = .ok (.getfield 89, 3) := by decide +kernel
theorem dX8_join_62 : decode cX8_join 62 = .ok (.bipush 8, 2) := by decide +kernel
theorem dX8_join_64 : decode cX8_join 64 = .ok (.iload_n 1, 1) := by decide +kernel
theorem dX8_join_65 : decode cX8_join 65 = .ok (.imul, 1) := by decide +kernel
theorem dX8_join_66 : decode cX8_join 66 = .ok (.iload_n 3, 1) := by decide +kernel
theorem dX8_join_67 : decode cX8_join 67 = .ok (.bipush 8, 2) := by decide +kernel
theorem dX8_join_69 : decode cX8_join 69 = .ok (.irem, 1) := by decide +kernel
theorem dX8_join_70 : decode cX8_join 70 = .ok (.iadd, 1) := by decide +kernel
theorem dX8_join_71 : decode cX8_join 71 = .ok (.iaload, 1) := by decide +kernel
theorem dX8_join_72 : decode cX8_join 72 = .ok (.invokevirtual 196, 3) := by decide +kernel
theorem dX8_join_75 : decode cX8_join 75 = .ok (.iinc 3 1, 3) := by decide +kernel
theorem dX8_join_78 : decode cX8_join 78 = .ok (.goto (-66), 3) := by decide +kernel
theorem dX8_join_81 : decode cX8_join 81 = .ok (.aload_n 0, 1) := by decide +kernel
theorem dX8_join_82 : decode cX8_join 82 = .ok (.iconst 0, 1) := by decide +kernel
theorem dX8_join_83 : decode cX8_join 83 = .ok (.invokevirtual 162, 3) := by decide +kernel
theorem dX8_join_86 : decode cX8_join 86 = .ok (.return_, 1) := by decide +kernel
theorem dX8_rowsBegin_0 : decode cX8_rowsBegin 0 = .ok (.iconst 0, 1) := by decide +kernel
theorem dX8_rowsBegin_1 : decode cX8_rowsBegin 1 = .ok (.istore_n 1, 1) := by decide +kernel
theorem dX8_rowsBegin_2 : decode cX8_rowsBegin 2 = .ok (.iload_n 1, 1) := by decide +kernel
theorem dX8_rowsBegin_3 : decode cX8_rowsBegin 3 = .ok (.iconst 4, 1) := by decide +kernel
theorem dX8_rowsBegin_4 : decode cX8_rowsBegin 4 = .ok (.if_icmp .ge 16, 3) := by decide +kernel
theorem dX8_rowsBegin_7 : decode cX8_rowsBegin 7 = .ok (.aload_n 0, 1) := by decide +kernel
theorem dX8_rowsBegin_8 : decode cX8_rowsBegin 8 = .ok (.getfield 68, 3) := by decide +kernel
theorem dX8_rowsBegin_11 : decode cX8_rowsBegin 11 = .ok (.iload_n 1, 1) := by decide +kernel
theorem dX8_rowsBegin_12 : decode cX8_rowsBegin 12 = .ok (.iconst (-1), 1) := by decide +kernel
theorem dX8_rowsBegin_13 : decode cX8_rowsBegin 13 = .ok (.iastore, 1) := by decide +kernel
theorem dX8_rowsBegin_14 : decode cX8_rowsBegin 14 = .ok (.iinc 1 1, 3) := by decide +kernel
theorem dX8_rowsBegin_17 : decode cX8_rowsBegin 17 = .ok (.goto (-15), 3) := by decide +kernel
theorem dX8_rowsBegin_20 : decode cX8_rowsBegin 20 = .ok (.return_, 1) := by decide +kernel
theorem dX8_isRow_0 : decode cX8_isRow 0 = .ok (.aload_n 0, 1) := by decide +kernel
theorem dX8_isRow_1 : decode cX8_isRow 1 = .ok (.getfield 92, 3) := by decide +kernel
theorem dX8_isRow_4 : decode cX8_isRow 4 = .ok (.iload_n 1, 1) := by decide +kernel
theorem dX8_isRow_5 : decode cX8_isRow 5 = .ok (.iaload, 1) := by decide +kernel
theorem dX8_isRow_6 : decode cX8_isRow 6 = .ok (.aload_n 0, 1) := by decide +kernel
theorem dX8_isRow_7 : decode cX8_isRow 7 = .ok (.getfield 150, 3) := by decide +kernel
theorem dX8_isRow_10 : decode cX8_isRow 10 = .ok (.if_icmp .ne 7, 3) := by decide +kernel
theorem dX8_isRow_13 : decode cX8_isRow 13 = .ok (.iconst 1, 1) := by decide +kernel
theorem dX8_isRow_14 : decode cX8_isRow 14 = .ok (.goto 4, 3) := by decide +kernel
theorem dX8_isRow_17 : decode cX8_isRow 17 = .ok (.iconst 0, 1) := by decide +kernel
theorem dX8_isRow_18 : decode cX8_isRow 18 = .ok (.istore_n 2, 1) := by decide +kernel
theorem dX8_isRow_19 : decode cX8_isRow 19 = .ok (.iconst 0, 1) := by decide +kernel
theorem dX8_isRow_20 : decode cX8_isRow 20 = .ok (.istore_n 3, 1) := by decide +kernel
theorem dX8_isRow_21 : decode cX8_isRow 21 = .ok (.iload_n 3, 1) := by decide +kernel
theorem dX8_isRow_22 : decode cX8_isRow 22 = .ok (.aload_n 0, 1) := by decide +kernel
theorem dX8_isRow_23 : decode cX8_isRow 23 = .ok (.getfield 150, 3) := by decide +kernel
theorem dX8_isRow_26 : decode cX8_isRow 26 = .ok (.if_icmp .ge 39, 3) := by decide +kernel
theorem dX8_isRow_29 : decode cX8_isRow 29 = .ok (.iload_n 2, 1) := by decide +kernel
theorem dX8_isRow_30 : decode cX8_isRow 30 = .ok (.ifCond .eq 35, 3) := by decide +kernel
theorem dX8_isRow_33 : decode cX8_isRow 33 = .ok (.aload_n 0, 1) := by decide +kernel
theorem dX8_isRow_34 : decode cX8_isRow 34 = .ok (.getfield 95, 3) := by decide +kernel
theorem dX8_isRow_37 : decode cX8_isRow 37 = .ok (.bipush 40, 2) := by decide +kernel
theorem dX8_isRow_39 : decode cX8_isRow 39 = .ok (.iload_n 1, 1) := by decide +kernel
theorem dX8_isRow_40 : decode cX8_isRow 40 = .ok (.imul, 1) := by decide +kernel
theorem dX8_isRow_41 : decode cX8_isRow 41 = .ok (.iload_n 3, 1) := by decide +kernel
theorem dX8_isRow_42 : decode cX8_isRow 42 = .ok (.iadd, 1) := by decide +kernel
theorem dX8_isRow_43 : decode cX8_isRow 43 = .ok (.iaload, 1) := by decide +kernel
theorem dX8_isRow_44 : decode cX8_isRow 44 = .ok (.aload_n 0, 1) := by decide +kernel
theorem dX8_isRow_45 : decode cX8_isRow 45 = .ok (.getfield 38, 3) := by decide +kernel
theorem dX8_isRow_48 : decode cX8_isRow 48 = .ok (.iload_n 3, 1) := by decide +kernel
theorem dX8_isRow_49 : decode cX8_isRow 49 = .ok (.iaload, 1) := by decide +kernel
theorem dX8_isRow_50 : decode cX8_isRow 50 = .ok (.if_icmp .ne 7, 3) := by decide +kernel
theorem dX8_isRow_53 : decode cX8_isRow 53 = .ok (.iconst 1, 1) := by decide +kernel
theorem dX8_isRow_54 : decode cX8_isRow 54 = .ok (.goto 4, 3) := by decide +kernel
theorem dX8_isRow_57 : decode cX8_isRow 57 = .ok (.iconst 0, 1) := by decide +kernel
theorem dX8_isRow_58 : decode cX8_isRow 58 = .ok (.istore_n 2, 1) := by decide +kernel
theorem dX8_isRow_59 : decode cX8_isRow 59 = .ok (.iinc 3 1, 3) := by decide +kernel
theorem dX8_isRow_62 : decode cX8_isRow 62 = .ok (.goto (-41), 3) := by decide +kernel
theorem dX8_isRow_65 : decode cX8_isRow 65 = .ok (.iload_n 2, 1) := by decide +kernel
theorem dX8_isRow_66 : decode cX8_isRow 66 = .ok (.ireturn, 1) := by decide +kernel
theorem dX8_spotOfTape_0 : decode cX8_spotOfTape 0 = .ok (.aload_n 0, 1) := by decide +kernel
theorem dX8_spotOfTape_1 : decode cX8_spotOfTape 1 = .ok (.iconst 0, 1) := by decide +kernel
theorem dX8_spotOfTape_2 : decode cX8_spotOfTape 2 = .ok (.putfield 122, 3) := by decide +kernel
theorem dX8_spotOfTape_5 : decode cX8_spotOfTape 5 = .ok (.iconst 0, 1) := by decide +kernel
theorem dX8_spotOfTape_6 : decode cX8_spotOfTape 6 = .ok (.istore_n 1, 1) := by decide +kernel
theorem dX8_spotOfTape_7 : decode cX8_spotOfTape 7 = .ok (.iload_n 1, 1) := by decide +kernel
theorem dX8_spotOfTape_8 : decode cX8_spotOfTape 8 = .ok (.aload_n 0, 1) := by decide +kernel
theorem dX8_spotOfTape_9 : decode cX8_spotOfTape 9 = .ok (.getfield 150, 3) := by decide +kernel
theorem dX8_spotOfTape_12 : decode cX8_spotOfTape 12 = .ok (.if_icmp .ge 19, 3) := by decide +kernel
theorem dX8_spotOfTape_15 : decode cX8_spotOfTape 15 = .ok (.aload_n 0, 1) := by decide +kernel
theorem dX8_spotOfTape_16 : decode cX8_spotOfTape 16 = .ok (.aload_n 0, 1) := by decide +kernel
theorem dX8_spotOfTape_17 : decode cX8_spotOfTape 17 = .ok (.getfield 38, 3) := by decide +kernel
theorem dX8_spotOfTape_20 : decode cX8_spotOfTape 20 = .ok (.iload_n 1, 1) := by decide +kernel
theorem dX8_spotOfTape_21 : decode cX8_spotOfTape 21 = .ok (.iaload, 1) := by decide +kernel
theorem dX8_spotOfTape_22 : decode cX8_spotOfTape 22 = .ok (.invokevirtual 128, 3) := by decide +kernel
theorem dX8_spotOfTape_25 : decode cX8_spotOfTape 25 = .ok (.iinc 1 1, 3) := by decide +kernel
theorem dX8_spotOfTape_28 : decode cX8_spotOfTape 28 = .ok (.goto (-21), 3) := by decide +kernel
theorem dX8_spotOfTape_31 : decode cX8_spotOfTape 31 = .ok (.aload_n 0, 1) := by decide +kernel
theorem dX8_spotOfTape_32 : decode cX8_spotOfTape 32 = .ok (.iconst 0, 1) := by decide +kernel
theorem dX8_spotOfTape_33 : decode cX8_spotOfTape 33 = .ok (.invokevirtual 162, 3) := by decide +kernel
theorem dX8_spotOfTape_36 : decode cX8_spotOfTape 36 = .ok (.aload_n 0, 1) := by decide +kernel
theorem dX8_spotOfTape_37 : decode cX8_spotOfTape 37 = .ok (.bipush 31, 2) := by decide +kernel
theorem dX8_spotOfTape_39 : decode cX8_spotOfTape 39 = .ok (.invokevirtual 159, 3) := by decide +kernel
theorem dX8_spotOfTape_42 : decode cX8_spotOfTape 42 = .ok (.bipush 15, 2) := by decide +kernel
theorem dX8_spotOfTape_44 : decode cX8_spotOfTape 44 = .ok (.iand, 1) := by decide +kernel
theorem dX8_spotOfTape_45 : decode cX8_spotOfTape 45 = .ok (.ireturn, 1) := by decide +kernel
theorem dX8_look_0 : decode cX8_look 0 = .ok (.aload_n 0, 1) := by decide +kernel
theorem dX8_look_1 : decode cX8_look 1 = .ok (.iconst 0, 1) := by decide +kernel
theorem dX8_look_2 : decode cX8_look 2 = .ok (.putfield 215, 3) := by decide +kernel
theorem dX8_look_5 : decode cX8_look 5 = .ok (.iconst 0, 1) := by decide +kernel
theorem dX8_look_6 : decode cX8_look 6 = .ok (.istore_n 2, 1) := by decide +kernel
theorem dX8_look_7 : decode cX8_look 7 = .ok (.iload_n 2, 1) := by decide +kernel
theorem dX8_look_8 : decode cX8_look 8 = .ok (.aload_n 0, 1) := by decide +kernel
theorem dX8_look_9 : decode cX8_look 9 = .ok (.getfield 218, 3) := by decide +kernel
theorem dX8_look_12 : decode cX8_look 12 = .ok (.if_icmp .ge 39, 3) := by decide +kernel
theorem dX8_look_15 : decode cX8_look 15 = .ok (.aload_n 0, 1) := by decide +kernel
theorem dX8_look_16 : decode cX8_look 16 = .ok (.getfield 98, 3) := by decide +kernel
theorem dX8_look_19 : decode cX8_look 19 = .ok (.iload_n 2, 1) := by decide +kernel
theorem dX8_look_20 : decode cX8_look 20 = .ok (.iaload, 1) := by decide +kernel
theorem dX8_look_21 : decode cX8_look 21 = .ok (.iload_n 1, 1) := by decide +kernel
theorem dX8_look_22 : decode cX8_look 22 = .ok (.if_icmp .ne 23, 3) := by decide +kernel
theorem dX8_look_25 : decode cX8_look 25 = .ok (.aload_n 0, 1) := by decide +kernel
theorem dX8_look_26 : decode cX8_look 26 = .ok (.dup, 1) := by decide +kernel
theorem dX8_look_27 : decode cX8_look 27 = .ok (.getfield 215, 3) := by decide +kernel
theorem dX8_look_30 : decode cX8_look 30 = .ok (.iconst 1, 1) := by decide +kernel
theorem dX8_look_31 : decode cX8_look 31 = .ok (.iadd, 1) := by decide +kernel
theorem dX8_look_32 : decode cX8_look 32 = .ok (.putfield 215, 3) := by decide +kernel
theorem dX8_look_35 : decode cX8_look 35 = .ok (.aload_n 0, 1) := by decide +kernel
theorem dX8_look_36 : decode cX8_look 36 = .ok (.iload_n 2, 1) := by decide +kernel
theorem dX8_look_37 : decode cX8_look 37 = .ok (.invokevirtual 221, 3) := by decide +kernel
theorem dX8_look_40 : decode cX8_look 40 = .ok (.ifCond .eq 5, 3) := by decide +kernel
theorem dX8_look_43 : decode cX8_look 43 = .ok (.iload_n 2, 1) := by decide +kernel
theorem dX8_look_44 : decode cX8_look 44 = .ok (.ireturn, 1) := by decide +kernel
theorem dX8_look_45 : decode cX8_look 45 = .ok (.iinc 2 1, 3) := by decide +kernel
theorem dX8_look_48 : decode cX8_look 48 = .ok (.goto (-41), 3) := by decide +kernel
theorem dX8_look_51 : decode cX8_look 51 = .ok (.iconst (-1), 1) := by decide +kernel
theorem dX8_look_52 : decode cX8_look 52 = .ok (.ireturn, 1) := by decide +kernel
theorem dX8_keep_0 : decode cX8_keep 0 = .ok (.aload_n 0, 1) := by decide +kernel
theorem dX8_keep_1 : decode cX8_keep 1 = .ok (.iconst 0, 1) := by decide +kernel
theorem dX8_keep_2 : decode cX8_keep 2 = .ok (.putfield 143, 3) := by decide +kernel
theorem dX8_keep_5 : decode cX8_keep 5 = .ok (.aload_n 0, 1) := by decide +kernel
theorem dX8_keep_6 : decode cX8_keep 6 = .ok (.getfield 150, 3) := by decide +kernel
theorem dX8_keep_9 : decode cX8_keep 9 = .ok (.bipush 40, 2) := by decide +kernel
theorem dX8_keep_11 : decode cX8_keep 11 = .ok (.if_icmp .le 6, 3) := by decide +kernel
theorem dX8_keep_14 : decode cX8_keep 14 = .ok (.bipush (-102), 2) := by decide +kernel
theorem dX8_keep_16 : decode cX8_keep 16 = .ok (.ireturn, 1) := by decide +kernel
theorem dX8_keep_17 : decode cX8_keep 17 = .ok (.aload_n 0, 1) := by decide +kernel
theorem dX8_keep_18 : decode cX8_keep 18 = .ok (.invokevirtual 224, 3) := by decide +kernel
theorem dX8_keep_21 : decode cX8_keep 21 = .ok (.istore_n 1, 1) := by decide +kernel
theorem dX8_keep_22 : decode cX8_keep 22 = .ok (.aload_n 0, 1) := by decide +kernel
theorem dX8_keep_23 : decode cX8_keep 23 = .ok (.iload_n 1, 1) := by decide +kernel
theorem dX8_keep_24 : decode cX8_keep 24 = .ok (.invokevirtual 228, 3) := by decide +kernel
theorem dX8_keep_27 : decode cX8_keep 27 = .ok (.istore_n 2, 1) := by decide +kernel
theorem dX8_keep_28 : decode cX8_keep 28 = .ok (.iload_n 2, 1) := by decide +kernel
theorem dX8_keep_29 : decode cX8_keep 29 = .ok (.ifCond .ge 15, 3) := by decide +kernel
theorem dX8_keep_32 : decode cX8_keep 32 = .ok (.aload_n 0, 1) := by decide +kernel
theorem dX8_keep_33 : decode cX8_keep 33 = .ok (.getfield 218, 3) := by decide +kernel
theorem dX8_keep_36 : decode cX8_keep 36 = .ok (.bipush 40, 2) := by decide +kernel
theorem dX8_keep_38 : decode cX8_keep 38 = .ok (.if_icmp .ne 6, 3) := by decide +kernel
theorem dX8_keep_41 : decode cX8_keep 41 = .ok (.bipush (-103), 2) := by decide +kernel
theorem dX8_keep_43 : decode cX8_keep 43 = .ok (.ireturn, 1) := by decide +kernel
theorem dX8_keep_44 : decode cX8_keep 44 = .ok (.aload_n 0, 1) := by decide +kernel
theorem dX8_keep_45 : decode cX8_keep 45 = .ok (.aload_n 0, 1) := by decide +kernel
theorem dX8_keep_46 : decode cX8_keep 46 = .ok (.getfield 215, 3) := by decide +kernel
theorem dX8_keep_49 : decode cX8_keep 49 = .ok (.putfield 231, 3) := by decide +kernel
theorem dX8_keep_52 : decode cX8_keep 52 = .ok (.iload_n 2, 1) := by decide +kernel
theorem dX8_keep_53 : decode cX8_keep 53 = .ok (.ifCond .ge 68, 3) := by decide +kernel
theorem dX8_keep_56 : decode cX8_keep 56 = .ok (.aload_n 0, 1) := by decide +kernel
theorem dX8_keep_57 : decode cX8_keep 57 = .ok (.getfield 218, 3) := by decide +kernel
theorem dX8_keep_60 : decode cX8_keep 60 = .ok (.istore_n 2, 1) := by decide +kernel
theorem dX8_keep_61 : decode cX8_keep 61 = .ok (.aload_n 0, 1) := by decide +kernel
theorem dX8_keep_62 : decode cX8_keep 62 = .ok (.getfield 92, 3) := by decide +kernel
theorem dX8_keep_65 : decode cX8_keep 65 = .ok (.iload_n 2, 1) := by decide +kernel
theorem dX8_keep_66 : decode cX8_keep 66 = .ok (.aload_n 0, 1) := by decide +kernel
theorem dX8_keep_67 : decode cX8_keep 67 = .ok (.getfield 150, 3) := by decide +kernel
theorem dX8_keep_70 : decode cX8_keep 70 = .ok (.iastore, 1) := by decide +kernel
theorem dX8_keep_71 : decode cX8_keep 71 = .ok (.aload_n 0, 1) := by decide +kernel
theorem dX8_keep_72 : decode cX8_keep 72 = .ok (.getfield 98, 3) := by decide +kernel
theorem dX8_keep_75 : decode cX8_keep 75 = .ok (.iload_n 2, 1) := by decide +kernel
theorem dX8_keep_76 : decode cX8_keep 76 = .ok (.iload_n 1, 1) := by decide +kernel
theorem dX8_keep_77 : decode cX8_keep 77 = .ok (.iastore, 1) := by decide +kernel
theorem dX8_keep_78 : decode cX8_keep 78 = .ok (.iconst 0, 1) := by decide +kernel
theorem dX8_keep_79 : decode cX8_keep 79 = .ok (.istore_n 3, 1) := by decide +kernel
theorem dX8_keep_80 : decode cX8_keep 80 = .ok (.iload_n 3, 1) := by decide +kernel
theorem dX8_keep_81 : decode cX8_keep 81 = .ok (.aload_n 0, 1) := by decide +kernel
theorem dX8_keep_82 : decode cX8_keep 82 = .ok (.getfield 150, 3) := by decide +kernel
theorem dX8_keep_85 : decode cX8_keep 85 = .ok (.if_icmp .ge 26, 3) := by decide +kernel
theorem dX8_keep_88 : decode cX8_keep 88 = .ok (.aload_n 0, 1) := by decide +kernel
theorem dX8_keep_89 : decode cX8_keep 89 = .ok (.getfield 95, 3) := by decide +kernel
theorem dX8_keep_92 : decode cX8_keep 92 = .ok (.bipush 40, 2) := by decide +kernel
theorem dX8_keep_94 : decode cX8_keep 94 = .ok (.iload_n 2, 1) := by decide +kernel
theorem dX8_keep_95 : decode cX8_keep 95 = .ok (.imul, 1) := by decide +kernel
theorem dX8_keep_96 : decode cX8_keep 96 = .ok (.iload_n 3, 1) := by decide +kernel
theorem dX8_keep_97 : decode cX8_keep 97 = .ok (.iadd, 1) := by decide +kernel
theorem dX8_keep_98 : decode cX8_keep 98 = .ok (.aload_n 0, 1) := by decide +kernel
theorem dX8_keep_99 : decode cX8_keep 99 = .ok (.getfield 38, 3) := by decide +kernel
theorem dX8_keep_102 : decode cX8_keep 102 = .ok (.iload_n 3, 1) := by decide +kernel
theorem dX8_keep_103 : decode cX8_keep 103 = .ok (.iaload, 1) := by decide +kernel
theorem dX8_keep_104 : decode cX8_keep 104 = .ok (.iastore, 1) := by decide +kernel
theorem dX8_keep_105 : decode cX8_keep 105 = .ok (.iinc 3 1, 3) := by decide +kernel
theorem dX8_keep_108 : decode cX8_keep 108 = .ok (.goto (-28), 3) := by decide +kernel
theorem dX8_keep_111 : decode cX8_keep 111 = .ok (.aload_n 0, 1) := by decide +kernel
theorem dX8_keep_112 : decode cX8_keep 112 = .ok (.dup, 1) := by decide +kernel
theorem dX8_keep_113 : decode cX8_keep 113 = .ok (.getfield 218, 3) := by decide +kernel
theorem dX8_keep_116 : decode cX8_keep 116 = .ok (.iconst 1, 1) := by decide +kernel
theorem dX8_keep_117 : decode cX8_keep 117 = .ok (.iadd, 1) := by decide +kernel
theorem dX8_keep_118 : decode cX8_keep 118 = .ok (.putfield 218, 3) := by decide +kernel
theorem dX8_keep_121 : decode cX8_keep 121 = .ok (.aload_n 0, 1) := by decide +kernel
theorem dX8_keep_122 : decode cX8_keep 122 = .ok (.iconst 0, 1) := by decide +kernel
theorem dX8_keep_123 : decode cX8_keep 123 = .ok (.putfield 150, 3) := by decide +kernel
theorem dX8_keep_126 : decode cX8_keep 126 = .ok (.iload_n 2, 1) := by decide +kernel
theorem dX8_keep_127 : decode cX8_keep 127 = .ok (.ireturn, 1) := by decide +kernel
theorem dX8_find_0 : decode cX8_find 0 = .ok (.aload_n 0, 1) := by decide +kernel
theorem dX8_find_1 : decode cX8_find 1 = .ok (.iconst 0, 1) := by decide +kernel
theorem dX8_find_2 : decode cX8_find 2 = .ok (.putfield 143, 3) := by decide +kernel
theorem dX8_find_5 : decode cX8_find 5 = .ok (.aload_n 0, 1) := by decide +kernel
theorem dX8_find_6 : decode cX8_find 6 = .ok (.getfield 150, 3) := by decide +kernel
theorem dX8_find_9 : decode cX8_find 9 = .ok (.bipush 40, 2) := by decide +kernel
theorem dX8_find_11 : decode cX8_find 11 = .ok (.if_icmp .le 6, 3) := by decide +kernel
theorem dX8_find_14 : decode cX8_find 14 = .ok (.bipush (-102), 2) := by decide +kernel
theorem dX8_find_16 : decode cX8_find 16 = .ok (.ireturn, 1) := by decide +kernel
theorem dX8_find_17 : decode cX8_find 17 = .ok (.aload_n 0, 1) := by decide +kernel
