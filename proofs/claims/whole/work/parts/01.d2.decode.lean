theorem dX7_isSort_0 : decode cX7_isSort 0 = .ok (.iload_n 0, 1) := by decide +kernel
theorem dX7_isSort_1 : decode cX7_isSort 1 = .ok (.ifCond .lt 12, 3) := by decide +kernel
theorem dX7_isSort_4 : decode cX7_isSort 4 = .ok (.iload_n 0, 1) := by decide +kernel
theorem dX7_isSort_5 : decode cX7_isSort 5 = .ok (.iconst 2, 1) := by decide +kernel
theorem dX7_isSort_6 : decode cX7_isSort 6 = .ok (.if_icmp .gt 7, 3) := by decide +kernel
theorem dX7_isSort_9 : decode cX7_isSort 9 = .ok (.iconst 1, 1) := by decide +kernel
theorem dX7_isSort_10 : decode cX7_isSort 10 = .ok (.goto 4, 3) := by decide +kernel
theorem dX7_isSort_13 : decode cX7_isSort 13 = .ok (.iconst 0, 1) := by decide +kernel
theorem dX7_isSort_14 : decode cX7_isSort 14 = .ok (.ireturn, 1) := by decide +kernel
theorem dX7_isStream_0 : decode cX7_isStream 0 = .ok (.iload_n 0, 1) := by decide +kernel
theorem dX7_isStream_1 : decode cX7_isStream 1 = .ok (.ifCond .lt 12, 3) := by decide +kernel
theorem dX7_isStream_4 : decode cX7_isStream 4 = .ok (.iload_n 0, 1) := by decide +kernel
theorem dX7_isStream_5 : decode cX7_isStream 5 = .ok (.iconst 4, 1) := by decide +kernel
theorem dX7_isStream_6 : decode cX7_isStream 6 = .ok (.if_icmp .ge 7, 3) := by decide +kernel
theorem dX7_isStream_9 : decode cX7_isStream 9 = .ok (.iconst 1, 1) := by decide +kernel
theorem dX7_isStream_10 : decode cX7_isStream 10 = .ok (.goto 4, 3) := by decide +kernel
theorem dX7_isStream_13 : decode cX7_isStream 13 = .ok (.iconst 0, 1) := by decide +kernel
theorem dX7_isStream_14 : decode cX7_isStream 14 = .ok (.ireturn, 1) := by decide +kernel
theorem dX7_isTree_0 : decode cX7_isTree 0 = .ok (.iload_n 0, 1) := by decide +kernel
theorem dX7_isTree_1 : decode cX7_isTree 1 = .ok (.ifCond .lt 12, 3) := by decide +kernel
theorem dX7_isTree_4 : decode cX7_isTree 4 = .ok (.iload_n 0, 1) := by decide +kernel
theorem dX7_isTree_5 : decode cX7_isTree 5 = .ok (.iconst 4, 1) := by decide +kernel
theorem dX7_isTree_6 : decode cX7_isTree 6 = .ok (.if_icmp .ge 7, 3) := by decide +kernel
theorem dX7_isTree_9 : decode cX7_isTree 9 = .ok (.iconst 1, 1) := by decide +kernel
theorem dX7_isTree_10 : decode cX7_isTree 10 = .ok (.goto 4, 3) := by decide +kernel
theorem dX7_isTree_13 : decode cX7_isTree 13 = .ok (.iconst 0, 1) := by decide +kernel
theorem dX7_isTree_14 : decode cX7_isTree 14 = .ok (.ireturn, 1) := by decide +kernel
theorem dX7_isLeaf_0 : decode cX7_isLeaf 0 = .ok (.iload_n 1, 1) := by decide +kernel
theorem dX7_isLeaf_1 : decode cX7_isLeaf 1 = .ok (.ifCond .lt 25, 3) := by decide +kernel
theorem dX7_isLeaf_4 : decode cX7_isLeaf 4 = .ok (.iload_n 1, 1) := by decide +kernel
theorem dX7_isLeaf_5 : decode cX7_isLeaf 5 = .ok (.bipush 8, 2) := by decide +kernel
theorem dX7_isLeaf_7 : decode cX7_isLeaf 7 = .ok (.if_icmp .ge 19, 3) := by decide +kernel
theorem dX7_isLeaf_10 : decode cX7_isLeaf 10 = .ok (.aload_n 0, 1) := by decide +kernel
theorem dX7_isLeaf_11 : decode cX7_isLeaf 11 = .ok (.getfield 10, 3) := by decide +kernel
theorem dX7_isLeaf_14 : decode cX7_isLeaf 14 = .ok (.getfield 71, 3) := by decide +kernel
theorem dX7_isLeaf_17 : decode cX7_isLeaf 17 = .ok (.bipush 40, 2) := by decide +kernel
theorem dX7_isLeaf_19 : decode cX7_isLeaf 19 = .ok (.if_icmp .gt 7, 3) := by decide +kernel
theorem dX7_isLeaf_22 : decode cX7_isLeaf 22 = .ok (.iconst 1, 1) := by decide +kernel
theorem dX7_isLeaf_23 : decode cX7_isLeaf 23 = .ok (.goto 4, 3) := by decide +kernel
theorem dX7_isLeaf_26 : decode cX7_isLeaf 26 = .ok (.iconst 0, 1) := by decide +kernel
theorem dX7_isLeaf_27 : decode cX7_isLeaf 27 = .ok (.ireturn, 1) := by decide +kernel
theorem dX7_bytesOf_0 : decode cX7_bytesOf 0 = .ok (.iload_n 0, 1) := by decide +kernel
theorem dX7_bytesOf_1 : decode cX7_bytesOf 1 = .ok (.iconst 1, 1) := by decide +kernel
theorem dX7_bytesOf_2 : decode cX7_bytesOf 2 = .ok (.if_icmp .ne 8, 3) := by decide +kernel
theorem dX7_bytesOf_5 : decode cX7_bytesOf 5 = .ok (.bipush 28, 2) := by decide +kernel
theorem dX7_bytesOf_7 : decode cX7_bytesOf 7 = .ok (.goto 5, 3) := by decide +kernel
theorem dX7_bytesOf_10 : decode cX7_bytesOf 10 = .ok (.bipush 32, 2) := by decide +kernel
theorem dX7_bytesOf_12 : decode cX7_bytesOf 12 = .ok (.ireturn, 1) := by decide +kernel
theorem dX7_ofWidth_0 : decode cX7_ofWidth 0 = .ok (.iload_n 0, 1) := by decide +kernel
theorem dX7_ofWidth_1 : decode cX7_ofWidth 1 = .ok (.tableswitch 50 0 3 #[31, 36, 41, 46], 31) := by decide +kernel
theorem dX7_ofWidth_32 : decode cX7_ofWidth 32 = .ok (.lload_n 1, 1) := by decide +kernel
theorem dX7_ofWidth_33 : decode cX7_ofWidth 33 = .ok (.l2i, 1) := by decide +kernel
theorem dX7_ofWidth_34 : decode cX7_ofWidth 34 = .ok (.i2b, 1) := by decide +kernel
theorem dX7_ofWidth_35 : decode cX7_ofWidth 35 = .ok (.i2l, 1) := by decide +kernel
theorem dX7_ofWidth_36 : decode cX7_ofWidth 36 = .ok (.lreturn, 1) := by decide +kernel
theorem dX7_ofWidth_37 : decode cX7_ofWidth 37 = .ok (.lload_n 1, 1) := by decide +kernel
theorem dX7_ofWidth_38 : decode cX7_ofWidth 38 = .ok (.l2i, 1) := by decide +kernel
theorem dX7_ofWidth_39 : decode cX7_ofWidth 39 = .ok (.i2s, 1) := by decide +kernel
theorem dX7_ofWidth_40 : decode cX7_ofWidth 40 = .ok (.i2l, 1) := by decide +kernel
theorem dX7_ofWidth_41 : decode cX7_ofWidth 41 = .ok (.lreturn, 1) := by decide +kernel
theorem dX7_ofWidth_42 : decode cX7_ofWidth 42 = .ok (.lload_n 1, 1) := by decide +kernel
theorem dX7_ofWidth_43 : decode cX7_ofWidth 43 = .ok (.l2i, 1) := by decide +kernel
theorem dX7_ofWidth_44 : decode cX7_ofWidth 44 = .ok (.i2c, 1) := by decide +kernel
theorem dX7_ofWidth_45 : decode cX7_ofWidth 45 = .ok (.i2l, 1) := by decide +kernel
theorem dX7_ofWidth_46 : decode cX7_ofWidth 46 = .ok (.lreturn, 1) := by decide +kernel
theorem dX7_ofWidth_47 : decode cX7_ofWidth 47 = .ok (.lload_n 1, 1) := by decide +kernel
theorem dX7_ofWidth_48 : decode cX7_ofWidth 48 = .ok (.l2i, 1) := by decide +kernel
theorem dX7_ofWidth_49 : decode cX7_ofWidth 49 = .ok (.i2l, 1) := by decide +kernel
theorem dX7_ofWidth_50 : decode cX7_ofWidth 50 = .ok (.lreturn, 1) := by decide +kernel
theorem dX7_ofWidth_51 : decode cX7_ofWidth 51 = .ok (.lload_n 1, 1) := by decide +kernel
theorem dX7_ofWidth_52 : decode cX7_ofWidth 52 = .ok (.lreturn, 1) := by decide +kernel
theorem dX7_alike_0 : decode cX7_alike 0 = .ok (.iconst 0, 1) := by decide +kernel
theorem dX7_alike_1 : decode cX7_alike 1 = .ok (.istore_n 3, 1) := by decide +kernel
theorem dX7_alike_2 : decode cX7_alike 2 = .ok (.iload_n 3, 1) := by decide +kernel
theorem dX7_alike_3 : decode cX7_alike 3 = .ok (.iload_n 2, 1) := by decide +kernel
theorem dX7_alike_4 : decode cX7_alike 4 = .ok (.if_icmp .ge 20, 3) := by decide +kernel
theorem dX7_alike_7 : decode cX7_alike 7 = .ok (.aload_n 0, 1) := by decide +kernel
theorem dX7_alike_8 : decode cX7_alike 8 = .ok (.iload_n 3, 1) := by decide +kernel
theorem dX7_alike_9 : decode cX7_alike 9 = .ok (.baload, 1) := by decide +kernel
theorem dX7_alike_10 : decode cX7_alike 10 = .ok (.aload_n 1, 1) := by decide +kernel
theorem dX7_alike_11 : decode cX7_alike 11 = .ok (.iload_n 3, 1) := by decide +kernel
theorem dX7_alike_12 : decode cX7_alike 12 = .ok (.baload, 1) := by decide +kernel
theorem dX7_alike_13 : decode cX7_alike 13 = .ok (.if_icmp .eq 5, 3) := by decide +kernel
theorem dX7_alike_16 : decode cX7_alike 16 = .ok (.iconst 0, 1) := by decide +kernel
theorem dX7_alike_17 : decode cX7_alike 17 = .ok (.ireturn, 1) := by decide +kernel
theorem dX7_alike_18 : decode cX7_alike 18 = .ok (.iinc 3 1, 3) := by decide +kernel
theorem dX7_alike_21 : decode cX7_alike 21 = .ok (.goto (-19), 3) := by decide +kernel
theorem dX7_alike_24 : decode cX7_alike 24 = .ok (.iconst 1, 1) := by decide +kernel
theorem dX7_alike_25 : decode cX7_alike 25 = .ok (.ireturn, 1) := by decide +kernel
theorem dX7_setLeaf_0 : decode cX7_setLeaf 0 = .ok (.aload_n 1, 1) := by decide +kernel
theorem dX7_setLeaf_1 : decode cX7_setLeaf 1 = .ok (.getfield 179, 3) := by decide +kernel
theorem dX7_setLeaf_4 : decode cX7_setLeaf 4 = .ok (.iload_n 2, 1) := by decide +kernel
theorem dX7_setLeaf_5 : decode cX7_setLeaf 5 = .ok (.iload_n 3, 1) := by decide +kernel
theorem dX7_setLeaf_6 : decode cX7_setLeaf 6 = .ok (.iastore, 1) := by decide +kernel
theorem dX7_setLeaf_7 : decode cX7_setLeaf 7 = .ok (.aload_n 0, 1) := by decide +kernel
theorem dX7_setLeaf_8 : decode cX7_setLeaf 8 = .ok (.getfield 22, 3) := by decide +kernel
theorem dX7_setLeaf_11 : decode cX7_setLeaf 11 = .ok (.iload_n 3, 1) := by decide +kernel
theorem dX7_setLeaf_12 : decode cX7_setLeaf 12 = .ok (.aload_n 0, 1) := by decide +kernel
theorem dX7_setLeaf_13 : decode cX7_setLeaf 13 = .ok (.getfield 10, 3) := by decide +kernel
theorem dX7_setLeaf_16 : decode cX7_setLeaf 16 = .ok (.aload_n 1, 1) := by decide +kernel
theorem dX7_setLeaf_17 : decode cX7_setLeaf 17 = .ok (.getfield 256, 3) := by decide +kernel
theorem dX7_setLeaf_20 : decode cX7_setLeaf 20 = .ok (.iload_n 2, 1) := by decide +kernel
theorem dX7_setLeaf_21 : decode cX7_setLeaf 21 = .ok (.aaload, 1) := by decide +kernel
theorem dX7_setLeaf_22 : decode cX7_setLeaf 22 = .ok (.invokestatic 207, 3) := by decide +kernel
theorem dX7_setLeaf_25 : decode cX7_setLeaf 25 = .ok (.aload_n 0, 1) := by decide +kernel
theorem dX7_setLeaf_26 : decode cX7_setLeaf 26 = .ok (.getfield 10, 3) := by decide +kernel
theorem dX7_setLeaf_29 : decode cX7_setLeaf 29 = .ok (.iconst 0, 1) := by decide +kernel
theorem dX7_setLeaf_30 : decode cX7_setLeaf 30 = .ok (.putfield 71, 3) := by decide +kernel
theorem dX7_setLeaf_33 : decode cX7_setLeaf 33 = .ok (.return_, 1) := by decide +kernel
theorem dX7_spotOf_0 : decode cX7_spotOf 0 = .ok (.aload_n 0, 1) := by decide +kernel
theorem dX7_spotOf_1 : decode cX7_spotOf 1 = .ok (.getfield 22, 3) := by decide +kernel
theorem dX7_spotOf_4 : decode cX7_spotOf 4 = .ok (.getstatic 259, 3) := by decide +kernel
theorem dX7_spotOf_7 : decode cX7_spotOf 7 = .ok (.invokevirtual 262, 3) := by decide +kernel
theorem dX7_spotOf_10 : decode cX7_spotOf 10 = .ok (.aload_n 0, 1) := by decide +kernel
theorem dX7_spotOf_11 : decode cX7_spotOf 11 = .ok (.getfield 22, 3) := by decide +kernel
theorem dX7_spotOf_14 : decode cX7_spotOf 14 = .ok (.aload_n 1, 1) := by decide +kernel
theorem dX7_spotOf_15 : decode cX7_spotOf 15 = .ok (.getfield 75, 3) := by decide +kernel
theorem dX7_spotOf_18 : decode cX7_spotOf 18 = .ok (.aload_n 1, 1) := by decide +kernel
theorem dX7_spotOf_19 : decode cX7_spotOf 19 = .ok (.getfield 71, 3) := by decide +kernel
theorem dX7_spotOf_22 : decode cX7_spotOf 22 = .ok (.invokevirtual 265, 3) := by decide +kernel
theorem dX7_spotOf_25 : decode cX7_spotOf 25 = .ok (.aload_n 0, 1) := by decide +kernel
theorem dX7_spotOf_26 : decode cX7_spotOf 26 = .ok (.getfield 22, 3) := by decide +kernel
theorem dX7_spotOf_29 : decode cX7_spotOf 29 = .ok (.invokevirtual 267, 3) := by decide +kernel
theorem dX7_spotOf_32 : decode cX7_spotOf 32 = .ok (.aload_n 0, 1) := by decide +kernel
theorem dX7_spotOf_33 : decode cX7_spotOf 33 = .ok (.getfield 22, 3) := by decide +kernel
theorem dX7_spotOf_36 : decode cX7_spotOf 36 = .ok (.aload_n 0, 1) := by decide +kernel
theorem dX7_spotOf_37 : decode cX7_spotOf 37 = .ok (.getfield 66, 3) := by decide +kernel
theorem dX7_spotOf_40 : decode cX7_spotOf 40 = .ok (.bipush 32, 2) := by decide +kernel
theorem dX7_spotOf_42 : decode cX7_spotOf 42 = .ok (.invokevirtual 215, 3) := by decide +kernel
theorem dX7_spotOf_45 : decode cX7_spotOf 45 = .ok (.aload_n 0, 1) := by decide +kernel
theorem dX7_spotOf_46 : decode cX7_spotOf 46 = .ok (.getfield 66, 3) := by decide +kernel
theorem dX7_spotOf_49 : decode cX7_spotOf 49 = .ok (.bipush 31, 2) := by decide +kernel
theorem dX7_spotOf_51 : decode cX7_spotOf 51 = .ok (.baload, 1) := by decide +kernel
theorem dX7_spotOf_52 : decode cX7_spotOf 52 = .ok (.bipush 15, 2) := by decide +kernel
theorem dX7_spotOf_54 : decode cX7_spotOf 54 = .ok (.iand, 1) := by decide +kernel
theorem dX7_spotOf_55 : decode cX7_spotOf 55 = .ok (.ireturn, 1) := by decide +kernel
theorem dX7_digestLeaf_0 : decode cX7_digestLeaf 0 = .ok (.aload_n 0, 1) := by decide +kernel
theorem dX7_digestLeaf_1 : decode cX7_digestLeaf 1 = .ok (.getstatic 259, 3) := by decide +kernel
theorem dX7_digestLeaf_4 : decode cX7_digestLeaf 4 = .ok (.invokevirtual 262, 3) := by decide +kernel
theorem dX7_digestLeaf_7 : decode cX7_digestLeaf 7 = .ok (.aload_n 0, 1) := by decide +kernel
theorem dX7_digestLeaf_8 : decode cX7_digestLeaf 8 = .ok (.iconst 0, 1) := by decide +kernel
theorem dX7_digestLeaf_9 : decode cX7_digestLeaf 9 = .ok (.invokevirtual 269, 3) := by decide +kernel
theorem dX7_digestLeaf_12 : decode cX7_digestLeaf 12 = .ok (.aload_n 0, 1) := by decide +kernel
theorem dX7_digestLeaf_13 : decode cX7_digestLeaf 13 = .ok (.iload_n 1, 1) := by decide +kernel
theorem dX7_digestLeaf_14 : decode cX7_digestLeaf 14 = .ok (.invokevirtual 269, 3) := by decide +kernel
theorem dX7_digestLeaf_17 : decode cX7_digestLeaf 17 = .ok (.aload_n 0, 1) := by decide +kernel
theorem dX7_digestLeaf_18 : decode cX7_digestLeaf 18 = .ok (.aload_n 2, 1) := by decide +kernel
theorem dX7_digestLeaf_19 : decode cX7_digestLeaf 19 = .ok (.getfield 71, 3) := by decide +kernel
theorem dX7_digestLeaf_22 : decode cX7_digestLeaf 22 = .ok (.invokevirtual 269, 3) := by decide +kernel
theorem dX7_digestLeaf_25 : decode cX7_digestLeaf 25 = .ok (.aload_n 0, 1) := by decide +kernel
theorem dX7_digestLeaf_26 : decode cX7_digestLeaf 26 = .ok (.aload_n 2, 1) := by decide +kernel
theorem dX7_digestLeaf_27 : decode cX7_digestLeaf 27 = .ok (.getfield 75, 3) := by decide +kernel
theorem dX7_digestLeaf_30 : decode cX7_digestLeaf 30 = .ok (.aload_n 2, 1) := by decide +kernel
theorem dX7_digestLeaf_31 : decode cX7_digestLeaf 31 = .ok (.getfield 71, 3) := by decide +kernel
theorem dX7_digestLeaf_34 : decode cX7_digestLeaf 34 = .ok (.invokevirtual 265, 3) := by decide +kernel
theorem dX7_digestLeaf_37 : decode cX7_digestLeaf 37 = .ok (.aload_n 0, 1) := by decide +kernel
theorem dX7_digestLeaf_38 : decode cX7_digestLeaf 38 = .ok (.invokevirtual 267, 3) := by decide +kernel
theorem dX7_digestLeaf_41 : decode cX7_digestLeaf 41 = .ok (.aload_n 0, 1) := by decide +kernel
theorem dX7_digestLeaf_42 : decode cX7_digestLeaf 42 = .ok (.aload_n 3, 1) := by decide +kernel
theorem dX7_digestLeaf_43 : decode cX7_digestLeaf 43 = .ok (.bipush 32, 2) := by decide +kernel
theorem dX7_digestLeaf_45 : decode cX7_digestLeaf 45 = .ok (.invokevirtual 215, 3) := by decide +kernel
theorem dX7_digestLeaf_48 : decode cX7_digestLeaf 48 = .ok (.return_, 1) := by decide +kernel
theorem dX7_digestPair_0 : decode cX7_digestPair 0 = .ok (.aload_n 0, 1) := by decide +kernel
theorem dX7_digestPair_1 : decode cX7_digestPair 1 = .ok (.getstatic 259, 3) := by decide +kernel
theorem dX7_digestPair_4 : decode cX7_digestPair 4 = .ok (.invokevirtual 262, 3) := by decide +kernel
theorem dX7_digestPair_7 : decode cX7_digestPair 7 = .ok (.aload_n 0, 1) := by decide +kernel
theorem dX7_digestPair_8 : decode cX7_digestPair 8 = .ok (.iconst 1, 1) := by decide +kernel
theorem dX7_digestPair_9 : decode cX7_digestPair 9 = .ok (.invokevirtual 269, 3) := by decide +kernel
theorem dX7_digestPair_12 : decode cX7_digestPair 12 = .ok (.aload_n 0, 1) := by decide +kernel
theorem dX7_digestPair_13 : decode cX7_digestPair 13 = .ok (.aload_n 1, 1) := by decide +kernel
theorem dX7_digestPair_14 : decode cX7_digestPair 14 = .ok (.bipush 32, 2) := by decide +kernel
theorem dX7_digestPair_16 : decode cX7_digestPair 16 = .ok (.invokevirtual 265, 3) := by decide +kernel
theorem dX7_digestPair_19 : decode cX7_digestPair 19 = .ok (.aload_n 0, 1) := by decide +kernel
theorem dX7_digestPair_20 : decode cX7_digestPair 20 = .ok (.aload_n 2, 1) := by decide +kernel
theorem dX7_digestPair_21 : decode cX7_digestPair 21 = .ok (.bipush 32, 2) := by decide +kernel
theorem dX7_digestPair_23 : decode cX7_digestPair 23 = .ok (.invokevirtual 265, 3) := by decide +kernel
theorem dX7_digestPair_26 : decode cX7_digestPair 26 = .ok (.aload_n 0, 1) := by decide +kernel
theorem dX7_digestPair_27 : decode cX7_digestPair 27 = .ok (.invokevirtual 267, 3) := by decide +kernel
theorem dX7_digestPair_30 : decode cX7_digestPair 30 = .ok (.aload_n 0, 1) := by decide +kernel
theorem dX7_digestPair_31 : decode cX7_digestPair 31 = .ok (.aload_n 3, 1) := by decide +kernel
theorem dX7_digestPair_32 : decode cX7_digestPair 32 = .ok (.bipush 32, 2) := by decide +kernel
theorem dX7_digestPair_34 : decode cX7_digestPair 34 = .ok (.invokevirtual 215, 3) := by decide +kernel
theorem dX7_digestPair_37 : decode cX7_digestPair 37 = .ok (.return_, 1) := by decide +kernel
theorem dX7_digestRoot_0 : decode cX7_digestRoot 0 = .ok (.aload_n 0, 1) := by decide +kernel
theorem dX7_digestRoot_1 : decode cX7_digestRoot 1 = .ok (.getstatic 259, 3) := by decide +kernel
theorem dX7_digestRoot_4 : decode cX7_digestRoot 4 = .ok (.invokevirtual 262, 3) := by decide +kernel
theorem dX7_digestRoot_7 : decode cX7_digestRoot 7 = .ok (.aload_n 0, 1) := by decide +kernel
theorem dX7_digestRoot_8 : decode cX7_digestRoot 8 = .ok (.iconst 2, 1) := by decide +kernel
theorem dX7_digestRoot_9 : decode cX7_digestRoot 9 = .ok (.invokevirtual 269, 3) := by decide +kernel
theorem dX7_digestRoot_12 : decode cX7_digestRoot 12 = .ok (.aload_n 0, 1) := by decide +kernel
theorem dX7_digestRoot_13 : decode cX7_digestRoot 13 = .ok (.iload_n 1, 1) := by decide +kernel
theorem dX7_digestRoot_14 : decode cX7_digestRoot 14 = .ok (.invokevirtual 269, 3) := by decide +kernel
theorem dX7_digestRoot_17 : decode cX7_digestRoot 17 = .ok (.aload_n 0, 1) := by decide +kernel
theorem dX7_digestRoot_18 : decode cX7_digestRoot 18 = .ok (.aload_n 2, 1) := by decide +kernel
theorem dX7_digestRoot_19 : decode cX7_digestRoot 19 = .ok (.bipush 32, 2) := by decide +kernel
theorem dX7_digestRoot_21 : decode cX7_digestRoot 21 = .ok (.invokevirtual 265, 3) := by decide +kernel
theorem dX7_digestRoot_24 : decode cX7_digestRoot 24 = .ok (.aload_n 0, 1) := by decide +kernel
theorem dX7_digestRoot_25 : decode cX7_digestRoot 25 = .ok (.invokevirtual 267, 3) := by decide +kernel
theorem dX7_digestRoot_28 : decode cX7_digestRoot 28 = .ok (.return_, 1) := by decide +kernel
theorem dX7_spread_0 : decode cX7_spread 0 = .ok (.bipush 16, 2) := by decide +kernel
theorem dX7_spread_2 : decode cX7_spread 2 = .ok (.istore_n 1, 1) := by decide +kernel
theorem dX7_spread_3 : decode cX7_spread 3 = .ok (.iload_n 1, 1) := by decide +kernel
theorem dX7_spread_4 : decode cX7_spread 4 = .ok (.bipush 64, 2) := by decide +kernel
theorem dX7_spread_6 : decode cX7_spread 6 = .ok (.if_icmp .ge 83, 3) := by decide +kernel
theorem dX7_spread_9 : decode cX7_spread 9 = .ok (.aload_n 0, 1) := by decide +kernel
theorem dX7_spread_10 : decode cX7_spread 10 = .ok (.iload_n 1, 1) := by decide +kernel
theorem dX7_spread_11 : decode cX7_spread 11 = .ok (.bipush 15, 2) := by decide +kernel
theorem dX7_spread_13 : decode cX7_spread 13 = .ok (.isub, 1) := by decide +kernel
theorem dX7_spread_14 : decode cX7_spread 14 = .ok (.iaload, 1) := by decide +kernel
theorem dX7_spread_15 : decode cX7_spread 15 = .ok (.istore_n 2, 1) := by decide +kernel
theorem dX7_spread_16 : decode cX7_spread 16 = .ok (.aload_n 0, 1) := by decide +kernel
theorem dX7_spread_17 : decode cX7_spread 17 = .ok (.iload_n 1, 1) := by decide +kernel
theorem dX7_spread_18 : decode cX7_spread 18 = .ok (.iconst 2, 1) := by decide +kernel
theorem dX7_spread_19 : decode cX7_spread 19 = .ok (.isub, 1) := by decide +kernel
theorem dX7_spread_20 : decode cX7_spread 20 = .ok (.iaload, 1) := by decide +kernel
theorem dX7_spread_21 : decode cX7_spread 21 = .ok (.istore_n 3, 1) := by decide +kernel
theorem dX7_spread_22 : decode cX7_spread 22 = .ok (.iload_n 2, 1) := by decide +kernel
theorem dX7_spread_23 : decode cX7_spread 23 = .ok (.bipush 7, 2) := by decide +kernel
theorem dX7_spread_25 : decode cX7_spread 25 = .ok (.invokestatic 273, 3) := by decide +kernel
theorem dX7_spread_28 : decode cX7_spread 28 = .ok (.iload_n 2, 1) := by decide +kernel
theorem dX7_spread_29 : decode cX7_spread 29 = .ok (.bipush 18, 2) := by decide +kernel
theorem dX7_spread_31 : decode cX7_spread 31 = .ok (.invokestatic 273, 3) := by decide +kernel
theorem dX7_spread_34 : decode cX7_spread 34 = .ok (.ixor, 1) := by decide +kernel
theorem dX7_spread_35 : decode cX7_spread 35 = .ok (.iload_n 2, 1) := by decide +kernel
theorem dX7_spread_36 : decode cX7_spread 36 = .ok (.iconst 3, 1) := by decide +kernel
theorem dX7_spread_37 : decode cX7_spread 37 = .ok (.iushr, 1) := by decide +kernel
theorem dX7_spread_38 : decode cX7_spread 38 = .ok (.ixor, 1) := by decide +kernel
theorem dX7_spread_39 : decode cX7_spread 39 = .ok (.istore 4, 2) := by decide +kernel
theorem dX7_spread_41 : decode cX7_spread 41 = .ok (.iload_n 3, 1) := by decide +kernel
theorem dX7_spread_42 : decode cX7_spread 42 = .ok (.bipush 17, 2) := by decide +kernel
theorem dX7_spread_44 : decode cX7_spread 44 = .ok (.invokestatic 273, 3) := by decide +kernel
theorem dX7_spread_47 : decode cX7_spread 47 = .ok (.iload_n 3, 1) := by decide +kernel
theorem dX7_spread_48 : decode cX7_spread 48 = .ok (.bipush 19, 2) := by decide +kernel
theorem dX7_spread_50 : decode cX7_spread 50 = .ok (.invokestatic 273, 3) := by decide +kernel
theorem dX7_spread_53 : decode cX7_spread 53 = .ok (.ixor, 1) := by decide +kernel
theorem dX7_spread_54 : decode cX7_spread 54 = .ok (.iload_n 3, 1) := by decide +kernel
theorem dX7_spread_55 : decode cX7_spread 55 = .ok (.bipush 10, 2) := by decide +kernel
theorem dX7_spread_57 : decode cX7_spread 57 = .ok (.iushr, 1) := by decide +kernel
theorem dX7_spread_58 : decode cX7_spread 58 = .ok (.ixor, 1) := by decide +kernel
theorem dX7_spread_59 : decode cX7_spread 59 = .ok (.istore 5, 2) := by decide +kernel
theorem dX7_spread_61 : decode cX7_spread 61 = .ok (.aload_n 0, 1) := by decide +kernel
theorem dX7_spread_62 : decode cX7_spread 62 = .ok (.iload_n 1, 1) := by decide +kernel
theorem dX7_spread_63 : decode cX7_spread 63 = .ok (.iload 5, 2) := by decide +kernel
theorem dX7_spread_65 : decode cX7_spread 65 = .ok (.aload_n 0, 1) := by decide +kernel
theorem dX7_spread_66 : decode cX7_spread 66 = .ok (.iload_n 1, 1) := by decide +kernel
theorem dX7_spread_67 : decode cX7_spread 67 = .ok (.bipush 7, 2) := by decide +kernel
theorem dX7_spread_69 : decode cX7_spread 69 = .ok (.isub, 1) := by decide +kernel
theorem dX7_spread_70 : decode cX7_spread 70 = .ok (.iaload, 1) := by decide +kernel
theorem dX7_spread_71 : decode cX7_spread 71 = .ok (.iadd, 1) := by decide +kernel
theorem dX7_spread_72 : decode cX7_spread 72 = .ok (.iload 4, 2) := by decide +kernel
theorem dX7_spread_74 : decode cX7_spread 74 = .ok (.iadd, 1) := by decide +kernel
theorem dX7_spread_75 : decode cX7_spread 75 = .ok (.aload_n 0, 1) := by decide +kernel
theorem dX7_spread_76 : decode cX7_spread 76 = .ok (.iload_n 1, 1) := by decide +kernel
theorem dX7_spread_77 : decode cX7_spread 77 = .ok (.bipush 16, 2) := by decide +kernel
theorem dX7_spread_79 : decode cX7_spread 79 = .ok (.isub, 1) := by decide +kernel
theorem dX7_spread_80 : decode cX7_spread 80 = .ok (.iaload, 1) := by decide +kernel
theorem dX7_spread_81 : decode cX7_spread 81 = .ok (.iadd, 1) := by decide +kernel
theorem dX7_spread_82 : decode cX7_spread 82 = .ok (.iastore, 1) := by decide +kernel
theorem dX7_spread_83 : decode cX7_spread 83 = .ok (.iinc 1 1, 3) := by decide +kernel
theorem dX7_spread_86 : decode cX7_spread 86 = .ok (.goto (-83), 3) := by decide +kernel
theorem dX7_spread_89 : decode cX7_spread 89 = .ok (.return_, 1) := by decide +kernel
theorem dX8_init_0 : decode cX8_init 0 = .ok (.aload_n 0, 1) := by decide +kernel
theorem dX8_init_1 : decode cX8_init 1 = .ok (.invokespecial 1, 3) := by decide +kernel
theorem dX8_init_4 : decode cX8_init 4 = .ok (.aload_n 0, 1) := by decide +kernel
theorem dX8_init_5 : decode cX8_init 5 = .ok (.bipush 64, 2) := by decide +kernel
theorem dX8_init_7 : decode cX8_init 7 = .ok (.newarray .int, 2) := by decide +kernel
theorem dX8_init_9 : decode cX8_init 9 = .ok (.putfield 7, 3) := by decide +kernel
theorem dX8_init_12 : decode cX8_init 12 = .ok (.aload_n 0, 1) := by decide +kernel
theorem dX8_init_13 : decode cX8_init 13 = .ok (.bipush 8, 2) := by decide +kernel
theorem dX8_init_15 : decode cX8_init 15 = .ok (.newarray .int, 2) := by decide +kernel
theorem dX8_init_17 : decode cX8_init 17 = .ok (.putfield 13, 3) := by decide +kernel
theorem dX8_init_20 : decode cX8_init 20 = .ok (.aload_n 0, 1) := by decide +kernel
theorem dX8_init_21 : decode cX8_init 21 = .ok (.bipush 8, 2) := by decide +kernel
theorem dX8_init_23 : decode cX8_init 23 = .ok (.newarray .int, 2) := by decide +kernel
theorem dX8_init_25 : decode cX8_init 25 = .ok (.putfield 16, 3) := by decide +kernel
theorem dX8_init_28 : decode cX8_init 28 = .ok (.aload_n 0, 1) := by decide +kernel
theorem dX8_init_29 : decode cX8_init 29 = .ok (.bipush 16, 2) := by decide +kernel
theorem dX8_init_31 : decode cX8_init 31 = .ok (.newarray .long, 2) := by decide +kernel
theorem dX8_init_33 : decode cX8_init 33 = .ok (.putfield 19, 3) := by decide +kernel
theorem dX8_init_36 : decode cX8_init 36 = .ok (.aload_n 0, 1) := by decide +kernel
theorem dX8_init_37 : decode cX8_init 37 = .ok (.bipush 16, 2) := by decide +kernel
theorem dX8_init_39 : decode cX8_init 39 = .ok (.newarray .long, 2) := by decide +kernel
theorem dX8_init_41 : decode cX8_init 41 = .ok (.putfield 23, 3) := by decide +kernel
theorem dX8_init_44 : decode cX8_init 44 = .ok (.aload_n 0, 1) := by decide +kernel
theorem dX8_init_45 : decode cX8_init 45 = .ok (.bipush 16, 2) := by decide +kernel
theorem dX8_init_47 : decode cX8_init 47 = .ok (.newarray .long, 2) := by decide +kernel
theorem dX8_init_49 : decode cX8_init 49 = .ok (.putfield 26, 3) := by decide +kernel
theorem dX8_init_52 : decode cX8_init 52 = .ok (.aload_n 0, 1) := by decide +kernel
theorem dX8_init_53 : decode cX8_init 53 = .ok (.sipush 2400, 3) := by decide +kernel
theorem dX8_init_56 : decode cX8_init 56 = .ok (.newarray .int, 2) := by decide +kernel
theorem dX8_init_58 : decode cX8_init 58 = .ok (.putfield 29, 3) := by decide +kernel
theorem dX8_init_61 : decode cX8_init 61 = .ok (.aload_n 0, 1) := by decide +kernel
theorem dX8_init_62 : decode cX8_init 62 = .ok (.bipush 8, 2) := by decide +kernel
theorem dX8_init_64 : decode cX8_init 64 = .ok (.newarray .int, 2) := by decide +kernel
theorem dX8_init_66 : decode cX8_init 66 = .ok (.putfield 32, 3) := by decide +kernel
theorem dX8_init_69 : decode cX8_init 69 = .ok (.aload_n 0, 1) := by decide +kernel
theorem dX8_init_70 : decode cX8_init 70 = .ok (.bipush 64, 2) := by decide +kernel
theorem dX8_init_72 : decode cX8_init 72 = .ok (.newarray .int, 2) := by decide +kernel
theorem dX8_init_74 : decode cX8_init 74 = .ok (.putfield 35, 3) := by decide +kernel
theorem dX8_init_77 : decode cX8_init 77 = .ok (.aload_n 0, 1) := by decide +kernel
theorem dX8_init_78 : decode cX8_init 78 = .ok (.sipush 200, 3) := by decide +kernel
theorem dX8_init_81 : decode cX8_init 81 = .ok (.newarray .int, 2) := by decide +kernel
theorem dX8_init_83 : decode cX8_init 83 = .ok (.putfield 38, 3) := by decide +kernel
theorem dX8_init_86 : decode cX8_init 86 = .ok (.aload_n 0, 1) := by decide +kernel
theorem dX8_init_87 : decode cX8_init 87 = .ok (.sipush 200, 3) := by decide +kernel
theorem dX8_init_90 : decode cX8_init 90 = .ok (.newarray .int, 2) := by decide +kernel
theorem dX8_init_92 : decode cX8_init 92 = .ok (.putfield 41, 3) := by decide +kernel
theorem dX8_init_95 : decode cX8_init 95 = .ok (.aload_n 0, 1) := by decide +kernel
theorem dX8_init_96 : decode cX8_init 96 = .ok (.bipush 60, 2) := by decide +kernel
theorem dX8_init_98 : decode cX8_init 98 = .ok (.newarray .int, 2) := by decide +kernel
theorem dX8_init_100 : decode cX8_init 100 = .ok (.putfield 44, 3) := by decide +kernel
theorem dX8_init_103 : decode cX8_init 103 = .ok (.aload_n 0, 1) := by decide +kernel
theorem dX8_init_104 : decode cX8_init 104 = .ok (.bipush 60, 2) := by decide +kernel
theorem dX8_init_106 : decode cX8_init 106 = .ok (.newarray .int, 2) := by decide +kernel
theorem dX8_init_108 : decode cX8_init 108 = .ok (.putfield 47, 3) := by decide +kernel
theorem dX8_init_111 : decode cX8_init 111 = .ok (.aload_n 0, 1) := by decide +kernel
theorem dX8_init_112 : decode cX8_init 112 = .ok (.sipush 1920, 3) := by decide +kernel
theorem dX8_init_115 : decode cX8_init 115 = .ok (.newarray .int, 2) := by decide +kernel
theorem dX8_init_117 : decode cX8_init 117 = .ok (.putfield 50, 3) := by decide +kernel
theorem dX8_init_120 : decode cX8_init 120 = .ok (.aload_n 0, 1) := by decide +kernel
theorem dX8_init_121 : decode cX8_init 121 = .ok (.sipush 3840, 3) := by decide +kernel
theorem dX8_init_124 : decode cX8_init 124 = .ok (.newarray .int, 2) := by decide +kernel
theorem dX8_init_126 : decode cX8_init 126 = .ok (.putfield 53, 3) := by decide +kernel
theorem dX8_init_129 : decode cX8_init 129 = .ok (.aload_n 0, 1) := by decide +kernel
theorem dX8_init_130 : decode cX8_init 130 = .ok (.sipush 320, 3) := by decide +kernel
theorem dX8_init_133 : decode cX8_init 133 = .ok (.newarray .int, 2) := by decide +kernel
theorem dX8_init_135 : decode cX8_init 135 = .ok (.putfield 56, 3) := by decide +kernel
theorem dX8_init_138 : decode cX8_init 138 = .ok (.aload_n 0, 1) := by decide +kernel
theorem dX8_init_139 : decode cX8_init 139 = .ok (.iconst 5, 1) := by decide +kernel
theorem dX8_init_140 : decode cX8_init 140 = .ok (.newarray .int, 2) := by decide +kernel
theorem dX8_init_142 : decode cX8_init 142 = .ok (.putfield 59, 3) := by decide +kernel
theorem dX8_init_145 : decode cX8_init 145 = .ok (.aload_n 0, 1) := by decide +kernel
theorem dX8_init_146 : decode cX8_init 146 = .ok (.sipush 8000, 3) := by decide +kernel
theorem dX8_init_149 : decode cX8_init 149 = .ok (.newarray .int, 2) := by decide +kernel
theorem dX8_init_151 : decode cX8_init 151 = .ok (.putfield 62, 3) := by decide +kernel
theorem dX8_init_154 : decode cX8_init 154 = .ok (.aload_n 0, 1) := by decide +kernel
theorem dX8_init_155 : decode cX8_init 155 = .ok (.iconst 4, 1) := by decide +kernel
theorem dX8_init_156 : decode cX8_init 156 = .ok (.newarray .int, 2) := by decide +kernel
theorem dX8_init_158 : decode cX8_init 158 = .ok (.putfield 65, 3) := by decide +kernel
theorem dX8_init_161 : decode cX8_init 161 = .ok (.aload_n 0, 1) := by decide +kernel
theorem dX8_init_162 : decode cX8_init 162 = .ok (.iconst 4, 1) := by decide +kernel
theorem dX8_init_163 : decode cX8_init 163 = .ok (.newarray .int, 2) := by decide +kernel
theorem dX8_init_165 : decode cX8_init 165 = .ok (.putfield 68, 3) := by decide +kernel
theorem dX8_init_168 : decode cX8_init 168 = .ok (.aload_n 0, 1) := by decide +kernel
theorem dX8_init_169 : decode cX8_init 169 = .ok (.bipush 8, 2) := by decide +kernel
theorem dX8_init_171 : decode cX8_init 171 = .ok (.newarray .int, 2) := by decide +kernel
theorem dX8_init_173 : decode cX8_init 173 = .ok (.putfield 71, 3) := by decide +kernel
theorem dX8_init_176 : decode cX8_init 176 = .ok (.aload_n 0, 1) := by decide +kernel
theorem dX8_init_177 : decode cX8_init 177 = .ok (.iconst 4, 1) := by decide +kernel
theorem dX8_init_178 : decode cX8_init 178 = .ok (.newarray .int, 2) := by decide +kernel
theorem dX8_init_180 : decode cX8_init 180 = .ok (.putfield 74, 3) := by decide +kernel
theorem dX8_init_183 : decode cX8_init 183 = .ok (.aload_n 0, 1) := by decide +kernel
theorem dX8_init_184 : decode cX8_init 184 = .ok (.bipush 48, 2) := by decide +kernel
theorem dX8_init_186 : decode cX8_init 186 = .ok (.newarray .int, 2) := by decide +kernel
theorem dX8_init_188 : decode cX8_init 188 = .ok (.putfield 77, 3) := by decide +kernel
theorem dX8_init_191 : decode cX8_init 191 = .ok (.aload_n 0, 1) := by decide +kernel
theorem dX8_init_192 : decode cX8_init 192 = .ok (.bipush 48, 2) := by decide +kernel
theorem dX8_init_194 : decode cX8_init 194 = .ok (.newarray .int, 2) := by decide +kernel
theorem dX8_init_196 : decode cX8_init 196 = .ok (.putfield 80, 3) := by decide +kernel
theorem dX8_init_199 : decode cX8_init 199 = .ok (.aload_n 0, 1) := by decide +kernel
theorem dX8_init_200 : decode cX8_init 200 = .ok (.sipush 1920, 3) := by decide +kernel
theorem dX8_init_203 : decode cX8_init 203 = .ok (.newarray .int, 2) := by decide +kernel
theorem dX8_init_205 : decode cX8_init 205 = .ok (.putfield 83, 3) := by decide +kernel
theorem dX8_init_208 : decode cX8_init 208 = .ok (.aload_n 0, 1) := by decide +kernel
theorem dX8_init_209 : decode cX8_init 209 = .ok (.bipush 96, 2) := by decide +kernel
theorem dX8_init_211 : decode cX8_init 211 = .ok (.newarray .int, 2) := by decide +kernel
theorem dX8_init_213 : decode cX8_init 213 = .ok (.putfield 86, 3) := by decide +kernel
theorem dX8_init_216 : decode cX8_init 216 = .ok (.aload_n 0, 1) := by decide +kernel
theorem dX8_init_217 : decode cX8_init 217 = .ok (.bipush 32, 2) := by decide +kernel
theorem dX8_init_219 : decode cX8_init 219 = .ok (.newarray .int, 2) := by decide +kernel
theorem dX8_init_221 : decode cX8_init 221 = .ok (.putfield 89, 3) := by decide +kernel
theorem dX8_init_224 : decode cX8_init 224 = .ok (.aload_n 0, 1) := by decide +kernel
theorem dX8_init_225 : decode cX8_init 225 = .ok (.bipush 40, 2) := by decide +kernel
theorem dX8_init_227 : decode cX8_init 227 = .ok (.newarray .int, 2) := by decide +kernel
theorem dX8_init_229 : decode cX8_init 229 = .ok (.putfield 92, 3) := by decide +kernel
theorem dX8_init_232 : decode cX8_init 232 = .ok (.aload_n 0, 1) := by decide +kernel
theorem dX8_init_233 : decode cX8_init 233 = .ok (.sipush 1600, 3) := by decide +kernel
theorem dX8_init_236 : decode cX8_init 236 = .ok (.newarray .int, 2) := by decide +kernel
theorem dX8_init_238 : decode cX8_init 238 = .ok (.putfield 95, 3) := by decide +kernel
theorem dX8_init_241 : decode cX8_init 241 = .ok (.aload_n 0, 1) := by decide +kernel
theorem dX8_init_242 : decode cX8_init 242 = .ok (.bipush 40, 2) := by decide +kernel
theorem dX8_init_244 : decode cX8_init 244 = .ok (.newarray .int, 2) := by decide +kernel
theorem dX8_init_246 : decode cX8_init 246 = .ok (.putfield 98, 3) := by decide +kernel
theorem dX8_init_249 : decode cX8_init 249 = .ok (.iconst 2, 1) := by decide +kernel
theorem dX8_init_250 : decode cX8_init 250 = .ok (.istore_n 1, 1) := by decide +kernel
theorem dX8_init_251 : decode cX8_init 251 = .ok (.iconst 0, 1) := by decide +kernel
theorem dX8_init_252 : decode cX8_init 252 = .ok (.istore_n 2, 1) := by decide +kernel
theorem dX8_init_253 : decode cX8_init 253 = .ok (.iload_n 2, 1) := by decide +kernel
theorem dX8_init_254 : decode cX8_init 254 = .ok (.bipush 64, 2) := by decide +kernel
theorem dX8_init_256 : decode cX8_init 256 = .ok (.if_icmp .ge 108, 3) := by decide +kernel
theorem dX8_init_259 : decode cX8_init 259 = .ok (.iconst 1, 1) := by decide +kernel
theorem dX8_init_260 : decode cX8_init 260 = .ok (.istore_n 3, 1) := by decide +kernel
theorem dX8_init_261 : decode cX8_init 261 = .ok (.iconst 2, 1) := by decide +kernel
theorem dX8_init_262 : decode cX8_init 262 = .ok (.istore 4, 2) := by decide +kernel
theorem dX8_init_264 : decode cX8_init 264 = .ok (.iload 4, 2) := by decide +kernel
theorem dX8_init_266 : decode cX8_init 266 = .ok (.iload 4, 2) := by decide +kernel
theorem dX8_init_268 : decode cX8_init 268 = .ok (.imul, 1) := by decide +kernel
theorem dX8_init_269 : decode cX8_init 269 = .ok (.iload_n 1, 1) := by decide +kernel
theorem dX8_init_270 : decode cX8_init 270 = .ok (.if_icmp .gt 26, 3) := by decide +kernel
theorem dX8_init_273 : decode cX8_init 273 = .ok (.iload_n 3, 1) := by decide +kernel
theorem dX8_init_274 : decode cX8_init 274 = .ok (.ifCond .eq 14, 3) := by decide +kernel
theorem dX8_init_277 : decode cX8_init 277 = .ok (.iload_n 1, 1) := by decide +kernel
theorem dX8_init_278 : decode cX8_init 278 = .ok (.iload 4, 2) := by decide +kernel
theorem dX8_init_280 : decode cX8_init 280 = .ok (.irem, 1) := by decide +kernel
theorem dX8_init_281 : decode cX8_init 281 = .ok (.ifCond .eq 7, 3) := by decide +kernel
theorem dX8_init_284 : decode cX8_init 284 = .ok (.iconst 1, 1) := by decide +kernel
theorem dX8_init_285 : decode cX8_init 285 = .ok (.goto 4, 3) := by decide +kernel
theorem dX8_init_288 : decode cX8_init 288 = .ok (.iconst 0, 1) := by decide +kernel
theorem dX8_init_289 : decode cX8_init 289 = .ok (.istore_n 3, 1) := by decide +kernel
theorem dX8_init_290 : decode cX8_init 290 = .ok (.iinc 4 1, 3) := by decide +kernel
theorem dX8_init_293 : decode cX8_init 293 = .ok (.goto (-29), 3) := by decide +kernel
theorem dX8_init_296 : decode cX8_init 296 = .ok (.iload_n 3, 1) := by decide +kernel
theorem dX8_init_297 : decode cX8_init 297 = .ok (.ifCond .eq 61, 3) := by decide +kernel
theorem dX8_init_300 : decode cX8_init 300 = .ok (.aload_n 0, 1) := by decide +kernel
theorem dX8_init_301 : decode cX8_init 301 = .ok (.getfield 7, 3) := by decide +kernel
theorem dX8_init_304 : decode cX8_init 304 = .ok (.iload_n 2, 1) := by decide +kernel
theorem dX8_init_305 : decode cX8_init 305 = .ok (.aload_n 0, 1) := by decide +kernel
theorem dX8_init_306 : decode cX8_init 306 = .ok (.iload_n 1, 1) := by decide +kernel
theorem dX8_init_307 : decode cX8_init 307 = .ok (.invokevirtual 101, 3) := by decide +kernel
theorem dX8_init_310 : decode cX8_init 310 = .ok (.iastore, 1) := by decide +kernel
theorem dX8_init_311 : decode cX8_init 311 = .ok (.iload_n 2, 1) := by decide +kernel
theorem dX8_init_312 : decode cX8_init 312 = .ok (.bipush 8, 2) := by decide +kernel
theorem dX8_init_314 : decode cX8_init 314 = .ok (.if_icmp .ge 19, 3) := by decide +kernel
theorem dX8_init_317 : decode cX8_init 317 = .ok (.aload_n 0, 1) := by decide +kernel
theorem dX8_init_318 : decode cX8_init 318 = .ok (.getfield 13, 3) := by decide +kernel
theorem dX8_init_321 : decode cX8_init 321 = .ok (.iload_n 2, 1) := by decide +kernel
theorem dX8_init_322 : decode cX8_init 322 = .ok (.aload_n 0, 1) := by decide +kernel
theorem dX8_init_323 : decode cX8_init 323 = .ok (.iload_n 1, 1) := by decide +kernel
theorem dX8_init_324 : decode cX8_init 324 = .ok (.bipush 32, 2) := by decide +kernel
theorem dX8_init_326 : decode cX8_init 326 = .ok (.invokevirtual 105, 3) := by decide +kernel
theorem dX8_init_329 : decode cX8_init 329 = .ok (.iastore, 1) := by decide +kernel
theorem dX8_init_330 : decode cX8_init 330 = .ok (.goto 25, 3) := by decide +kernel
theorem dX8_init_333 : decode cX8_init 333 = .ok (.iload_n 2, 1) := by decide +kernel
theorem dX8_init_334 : decode cX8_init 334 = .ok (.bipush 16, 2) := by decide +kernel
theorem dX8_init_336 : decode cX8_init 336 = .ok (.if_icmp .ge 19, 3) := by decide +kernel
theorem dX8_init_339 : decode cX8_init 339 = .ok (.aload_n 0, 1) := by decide +kernel
theorem dX8_init_340 : decode cX8_init 340 = .ok (.getfield 16, 3) := by decide +kernel
theorem dX8_init_343 : decode cX8_init 343 = .ok (.iload_n 2, 1) := by decide +kernel
theorem dX8_init_344 : decode cX8_init 344 = .ok (.bipush 8, 2) := by decide +kernel
theorem dX8_init_346 : decode cX8_init 346 = .ok (.isub, 1) := by decide +kernel
theorem dX8_init_347 : decode cX8_init 347 = .ok (.aload_n 0, 1) := by decide +kernel
theorem dX8_init_348 : decode cX8_init 348 = .ok (.iload_n 1, 1) := by decide +kernel
theorem dX8_init_349 : decode cX8_init 349 = .ok (.bipush 64, 2) := by decide +kernel
theorem dX8_init_351 : decode cX8_init 351 = .ok (.invokevirtual 105, 3) := by decide +kernel
theorem dX8_init_354 : decode cX8_init 354 = .ok (.iastore, 1) := by decide +kernel
theorem dX8_init_355 : decode cX8_init 355 = .ok (.iinc 2 1, 3) := by decide +kernel
theorem dX8_init_358 : decode cX8_init 358 = .ok (.iinc 1 1, 3) := by decide +kernel
theorem dX8_init_361 : decode cX8_init 361 = .ok (.goto (-108), 3) := by decide +kernel
theorem dX8_init_364 : decode cX8_init 364 = .ok (.aload_n 0, 1) := by decide +kernel
theorem dX8_init_365 : decode cX8_init 365 = .ok (.invokevirtual 109, 3) := by decide +kernel
theorem dX8_init_368 : decode cX8_init 368 = .ok (.return_, 1) := by decide +kernel
theorem dX8_multiply_0 : decode cX8_multiply 0 = .ok (.iconst 0, 1) := by decide +kernel
theorem dX8_multiply_1 : decode cX8_multiply 1 = .ok (.istore 5, 2) := by decide +kernel
theorem dX8_multiply_3 : decode cX8_multiply 3 = .ok (.iload 5, 2) := by decide +kernel
theorem dX8_multiply_5 : decode cX8_multiply 5 = .ok (.bipush 16, 2) := by decide +kernel
theorem dX8_multiply_7 : decode cX8_multiply 7 = .ok (.if_icmp .ge 17, 3) := by decide +kernel
theorem dX8_multiply_10 : decode cX8_multiply 10 = .ok (.aload_n 0, 1) := by decide +kernel
theorem dX8_multiply_11 : decode cX8_multiply 11 = .ok (.getfield 23, 3) := by decide +kernel
theorem dX8_multiply_14 : decode cX8_multiply 14 = .ok (.iload 5, 2) := by decide +kernel
theorem dX8_multiply_16 : decode cX8_multiply 16 = .ok (.lconst 0, 1) := by decide +kernel
theorem dX8_multiply_17 : decode cX8_multiply 17 = .ok (.lastore, 1) := by decide +kernel
theorem dX8_multiply_18 : decode cX8_multiply 18 = .ok (.iinc 5 1, 3) := by decide +kernel
theorem dX8_multiply_21 : decode cX8_multiply 21 = .ok (.goto (-18), 3) := by decide +kernel
theorem dX8_multiply_24 : decode cX8_multiply 24 = .ok (.iconst 0, 1) := by decide +kernel
theorem dX8_multiply_25 : decode cX8_multiply 25 = .ok (.istore 5, 2) := by decide +kernel
theorem dX8_multiply_27 : decode cX8_multiply 27 = .ok (.iload 5, 2) := by decide +kernel
theorem dX8_multiply_29 : decode cX8_multiply 29 = .ok (.iload_n 3, 1) := by decide +kernel
theorem dX8_multiply_30 : decode cX8_multiply 30 = .ok (.if_icmp .ge 47, 3) := by decide +kernel
theorem dX8_multiply_33 : decode cX8_multiply 33 = .ok (.iconst 0, 1) := by decide +kernel
theorem dX8_multiply_34 : decode cX8_multiply 34 = .ok (.istore 6, 2) := by decide +kernel
theorem dX8_multiply_36 : decode cX8_multiply 36 = .ok (.iload 6, 2) := by decide +kernel
theorem dX8_multiply_38 : decode cX8_multiply 38 = .ok (.iload 4, 2) := by decide +kernel
theorem dX8_multiply_40 : decode cX8_multiply 40 = .ok (.if_icmp .ge 31, 3) := by decide +kernel
theorem dX8_multiply_43 : decode cX8_multiply 43 = .ok (.aload_n 0, 1) := by decide +kernel
theorem dX8_multiply_44 : decode cX8_multiply 44 = .ok (.getfield 23, 3) := by decide +kernel
theorem dX8_multiply_47 : decode cX8_multiply 47 = .ok (.iload 5, 2) := by decide +kernel
theorem dX8_multiply_49 : decode cX8_multiply 49 = .ok (.iload 6, 2) := by decide +kernel
theorem dX8_multiply_51 : decode cX8_multiply 51 = .ok (.iadd, 1) := by decide +kernel
theorem dX8_multiply_52 : decode cX8_multiply 52 = .ok (.dup2, 1) := by decide +kernel
theorem dX8_multiply_53 : decode cX8_multiply 53 = .ok (.laload, 1) := by decide +kernel
theorem dX8_multiply_54 : decode cX8_multiply 54 = .ok (.aload_n 1, 1) := by decide +kernel
theorem dX8_multiply_55 : decode cX8_multiply 55 = .ok (.iload 5, 2) := by decide +kernel
theorem dX8_multiply_57 : decode cX8_multiply 57 = .ok (.laload, 1) := by decide +kernel
theorem dX8_multiply_58 : decode cX8_multiply 58 = .ok (.aload_n 2, 1) := by decide +kernel
theorem dX8_multiply_59 : decode cX8_multiply 59 = .ok (.iload 6, 2) := by decide +kernel
theorem dX8_multiply_61 : decode cX8_multiply 61 = .ok (.laload, 1) := by decide +kernel
theorem dX8_multiply_62 : decode cX8_multiply 62 = .ok (.lmul, 1) := by decide +kernel
theorem dX8_multiply_63 : decode cX8_multiply 63 = .ok (.ladd, 1) := by decide +kernel
theorem dX8_multiply_64 : decode cX8_multiply 64 = .ok (.lastore, 1) := by decide +kernel
theorem dX8_multiply_65 : decode cX8_multiply 65 = .ok (.iinc 6 1, 3) := by decide +kernel
theorem dX8_multiply_68 : decode cX8_multiply 68 = .ok (.goto (-32), 3) := by decide +kernel
theorem dX8_multiply_71 : decode cX8_multiply 71 = .ok (.iinc 5 1, 3) := by decide +kernel
theorem dX8_multiply_74 : decode cX8_multiply 74 = .ok (.goto (-47), 3) := by decide +kernel
theorem dX8_multiply_77 : decode cX8_multiply 77 = .ok (.iconst 0, 1) := by decide +kernel
theorem dX8_multiply_78 : decode cX8_multiply 78 = .ok (.istore 5, 2) := by decide +kernel
theorem dX8_multiply_80 : decode cX8_multiply 80 = .ok (.iload 5, 2) := by decide +kernel
theorem dX8_multiply_82 : decode cX8_multiply 82 = .ok (.bipush 15, 2) := by decide +kernel
theorem dX8_multiply_84 : decode cX8_multiply 84 = .ok (.if_icmp .ge 44, 3) := by decide +kernel
theorem dX8_multiply_87 : decode cX8_multiply 87 = .ok (.aload_n 0, 1) := by decide +kernel
theorem dX8_multiply_88 : decode cX8_multiply 88 = .ok (.getfield 23, 3) := by decide +kernel
theorem dX8_multiply_91 : decode cX8_multiply 91 = .ok (.iload 5, 2) := by decide +kernel
theorem dX8_multiply_93 : decode cX8_multiply 93 = .ok (.iconst 1, 1) := by decide +kernel
theorem dX8_multiply_94 : decode cX8_multiply 94 = .ok (.iadd, 1) := by decide +kernel
theorem dX8_multiply_95 : decode cX8_multiply 95 = .ok (.dup2, 1) := by decide +kernel
theorem dX8_multiply_96 : decode cX8_multiply 96 = .ok (.laload, 1) := by decide +kernel
theorem dX8_multiply_97 : decode cX8_multiply 97 = .ok (.aload_n 0, 1) := by decide +kernel
theorem dX8_multiply_98 : decode cX8_multiply 98 = .ok (.getfield 23, 3) := by decide +kernel
theorem dX8_multiply_101 : decode cX8_multiply 101 = .ok (.iload 5, 2) := by decide +kernel
theorem dX8_multiply_103 : decode cX8_multiply 103 = .ok (.laload, 1) := by decide +kernel
theorem dX8_multiply_104 : decode cX8_multiply 104 = .ok (.bipush 16, 2) := by decide +kernel
theorem dX8_multiply_106 : decode cX8_multiply 106 = .ok (.lushr, 1) := by decide +kernel
theorem dX8_multiply_107 : decode cX8_multiply 107 = .ok (.ladd, 1) := by decide +kernel
theorem dX8_multiply_108 : decode cX8_multiply 108 = .ok (.lastore, 1) := by decide +kernel
theorem dX8_multiply_109 : decode cX8_multiply 109 = .ok (.aload_n 0, 1) := by decide +kernel
theorem dX8_multiply_110 : decode cX8_multiply 110 = .ok (.getfield 23, 3) := by decide +kernel
theorem dX8_multiply_113 : decode cX8_multiply 113 = .ok (.iload 5, 2) := by decide +kernel
theorem dX8_multiply_115 : decode cX8_multiply 115 = .ok (.dup2, 1) := by decide +kernel
theorem dX8_multiply_116 : decode cX8_multiply 116 = .ok (.laload, 1) := by decide +kernel
theorem dX8_multiply_117 : decode cX8_multiply 117 = .ok (.ldc2_w 112, 3) := by decide +kernel
theorem dX8_multiply_120 : decode cX8_multiply 120 = .ok (.land, 1) := by decide +kernel
theorem dX8_multiply_121 : decode cX8_multiply 121 = .ok (.lastore, 1) := by decide +kernel
theorem dX8_multiply_122 : decode cX8_multiply 122 = .ok (.iinc 5 1, 3) := by decide +kernel
theorem dX8_multiply_125 : decode cX8_multiply 125 = .ok (.goto (-45), 3) := by decide +kernel
theorem dX8_multiply_128 : decode cX8_multiply 128 = .ok (.return_, 1) := by decide +kernel
theorem dX8_squareBits_0 : decode cX8_squareBits 0 = .ok (.iconst 0, 1) := by decide +kernel
theorem dX8_squareBits_1 : decode cX8_squareBits 1 = .ok (.istore_n 3, 1) := by decide +kernel
theorem dX8_squareBits_2 : decode cX8_squareBits 2 = .ok (.iload_n 3, 1) := by decide +kernel
theorem dX8_squareBits_3 : decode cX8_squareBits 3 = .ok (.bipush 16, 2) := by decide +kernel
theorem dX8_squareBits_5 : decode cX8_squareBits 5 = .ok (.if_icmp .ge 16, 3) := by decide +kernel
theorem dX8_squareBits_8 : decode cX8_squareBits 8 = .ok (.aload_n 0, 1) := by decide +kernel
theorem dX8_squareBits_9 : decode cX8_squareBits 9 = .ok (.getfield 19, 3) := by decide +kernel
theorem dX8_squareBits_12 : decode cX8_squareBits 12 = .ok (.iload_n 3, 1) := by decide +kernel
theorem dX8_squareBits_13 : decode cX8_squareBits 13 = .ok (.lconst 0, 1) := by decide +kernel
theorem dX8_squareBits_14 : decode cX8_squareBits 14 = .ok (.lastore, 1) := by decide +kernel
theorem dX8_squareBits_15 : decode cX8_squareBits 15 = .ok (.iinc 3 1, 3) := by decide +kernel
theorem dX8_squareBits_18 : decode cX8_squareBits 18 = .ok (.goto (-16), 3) := by decide +kernel
theorem dX8_squareBits_21 : decode cX8_squareBits 21 = .ok (.iload_n 2, 1) := by decide +kernel
theorem dX8_squareBits_22 : decode cX8_squareBits 22 = .ok (.iconst 3, 1) := by decide +kernel
theorem dX8_squareBits_23 : decode cX8_squareBits 23 = .ok (.iadd, 1) := by decide +kernel
theorem dX8_squareBits_24 : decode cX8_squareBits 24 = .ok (.istore_n 3, 1) := by decide +kernel
theorem dX8_squareBits_25 : decode cX8_squareBits 25 = .ok (.iload_n 3, 1) := by decide +kernel
theorem dX8_squareBits_26 : decode cX8_squareBits 26 = .ok (.ifCond .lt 73, 3) := by decide +kernel
theorem dX8_squareBits_29 : decode cX8_squareBits 29 = .ok (.aload_n 0, 1) := by decide +kernel
theorem dX8_squareBits_30 : decode cX8_squareBits 30 = .ok (.getfield 19, 3) := by decide +kernel
theorem dX8_squareBits_33 : decode cX8_squareBits 33 = .ok (.iload_n 3, 1) := by decide +kernel
theorem dX8_squareBits_34 : decode cX8_squareBits 34 = .ok (.bipush 16, 2) := by decide +kernel
theorem dX8_squareBits_36 : decode cX8_squareBits 36 = .ok (.idiv, 1) := by decide +kernel
theorem dX8_squareBits_37 : decode cX8_squareBits 37 = .ok (.dup2, 1) := by decide +kernel
theorem dX8_squareBits_38 : decode cX8_squareBits 38 = .ok (.laload, 1) := by decide +kernel
theorem dX8_squareBits_39 : decode cX8_squareBits 39 = .ok (.lconst 1, 1) := by decide +kernel
theorem dX8_squareBits_40 : decode cX8_squareBits 40 = .ok (.iload_n 3, 1) := by decide +kernel
theorem dX8_squareBits_41 : decode cX8_squareBits 41 = .ok (.bipush 16, 2) := by decide +kernel
theorem dX8_squareBits_43 : decode cX8_squareBits 43 = .ok (.irem, 1) := by decide +kernel
theorem dX8_squareBits_44 : decode cX8_squareBits 44 = .ok (.lshl, 1) := by decide +kernel
theorem dX8_squareBits_45 : decode cX8_squareBits 45 = .ok (.ladd, 1) := by decide +kernel
theorem dX8_squareBits_46 : decode cX8_squareBits 46 = .ok (.lastore, 1) := by decide +kernel
theorem dX8_squareBits_47 : decode cX8_squareBits 47 = .ok (.aload_n 0, 1) := by decide +kernel
theorem dX8_squareBits_48 : decode cX8_squareBits 48 = .ok (.aload_n 0, 1) := by decide +kernel
theorem dX8_squareBits_49 : decode cX8_squareBits 49 = .ok (.getfield 19, 3) := by decide +kernel
theorem dX8_squareBits_52 : decode cX8_squareBits 52 = .ok (.aload_n 0, 1) := by decide +kernel
theorem dX8_squareBits_53 : decode cX8_squareBits 53 = .ok (.getfield 19, 3) := by decide +kernel
theorem dX8_squareBits_56 : decode cX8_squareBits 56 = .ok (.iconst 5, 1) := by decide +kernel
theorem dX8_squareBits_57 : decode cX8_squareBits 57 = .ok (.iconst 5, 1) := by decide +kernel
theorem dX8_squareBits_58 : decode cX8_squareBits 58 = .ok (.invokevirtual 114, 3) := by decide +kernel
theorem dX8_squareBits_61 : decode cX8_squareBits 61 = .ok (.aload_n 0, 1) := by decide +kernel
theorem dX8_squareBits_62 : decode cX8_squareBits 62 = .ok (.getfield 23, 3) := by decide +kernel
theorem dX8_squareBits_65 : decode cX8_squareBits 65 = .ok (.iload_n 1, 1) := by decide +kernel
theorem dX8_squareBits_66 : decode cX8_squareBits 66 = .ok (.iconst 2, 1) := by decide +kernel
theorem dX8_squareBits_67 : decode cX8_squareBits 67 = .ok (.iload_n 2, 1) := by decide +kernel
theorem dX8_squareBits_68 : decode cX8_squareBits 68 = .ok (.imul, 1) := by decide +kernel
theorem dX8_squareBits_69 : decode cX8_squareBits 69 = .ok (.invokestatic 118, 3) := by decide +kernel
theorem dX8_squareBits_72 : decode cX8_squareBits 72 = .ok (.ifCond .ne 21, 3) := by decide +kernel
theorem dX8_squareBits_75 : decode cX8_squareBits 75 = .ok (.aload_n 0, 1) := by decide +kernel
theorem dX8_squareBits_76 : decode cX8_squareBits 76 = .ok (.getfield 19, 3) := by decide +kernel
theorem dX8_squareBits_79 : decode cX8_squareBits 79 = .ok (.iload_n 3, 1) := by decide +kernel
theorem dX8_squareBits_80 : decode cX8_squareBits 80 = .ok (.bipush 16, 2) := by decide +kernel
theorem dX8_squareBits_82 : decode cX8_squareBits 82 = .ok (.idiv, 1) := by decide +kernel
theorem dX8_squareBits_83 : decode cX8_squareBits 83 = .ok (.dup2, 1) := by decide +kernel
theorem dX8_squareBits_84 : decode cX8_squareBits 84 = .ok (.laload, 1) := by decide +kernel
theorem dX8_squareBits_85 : decode cX8_squareBits 85 = .ok (.lconst 1, 1) := by decide +kernel
theorem dX8_squareBits_86 : decode cX8_squareBits 86 = .ok (.iload_n 3, 1) := by decide +kernel
theorem dX8_squareBits_87 : decode cX8_squareBits 87 = .ok (.bipush 16, 2) := by decide +kernel
theorem dX8_squareBits_89 : decode cX8_squareBits 89 = .ok (.irem, 1) := by decide +kernel
theorem dX8_squareBits_90 : decode cX8_squareBits 90 = .ok (.lshl, 1) := by decide +kernel
theorem dX8_squareBits_91 : decode cX8_squareBits 91 = .ok (.lsub, 1) := by decide +kernel
theorem dX8_squareBits_92 : decode cX8_squareBits 92 = .ok (.lastore, 1) := by decide +kernel
theorem dX8_squareBits_93 : decode cX8_squareBits 93 = .ok (.iinc 3 (-1), 3) := by decide +kernel
theorem dX8_squareBits_96 : decode cX8_squareBits 96 = .ok (.goto (-71), 3) := by decide +kernel
theorem dX8_squareBits_99 : decode cX8_squareBits 99 = .ok (.aload_n 0, 1) := by decide +kernel
theorem dX8_squareBits_100 : decode cX8_squareBits 100 = .ok (.getfield 19, 3) := by decide +kernel
theorem dX8_squareBits_103 : decode cX8_squareBits 103 = .ok (.iconst 1, 1) := by decide +kernel
theorem dX8_squareBits_104 : decode cX8_squareBits 104 = .ok (.laload, 1) := by decide +kernel
theorem dX8_squareBits_105 : decode cX8_squareBits 105 = .ok (.bipush 16, 2) := by decide +kernel
theorem dX8_squareBits_107 : decode cX8_squareBits 107 = .ok (.lshl, 1) := by decide +kernel
theorem dX8_squareBits_108 : decode cX8_squareBits 108 = .ok (.aload_n 0, 1) := by decide +kernel
theorem dX8_squareBits_109 : decode cX8_squareBits 109 = .ok (.getfield 19, 3) := by decide +kernel
theorem dX8_squareBits_112 : decode cX8_squareBits 112 = .ok (.iconst 0, 1) := by decide +kernel
theorem dX8_squareBits_113 : decode cX8_squareBits 113 = .ok (.laload, 1) := by decide +kernel
theorem dX8_squareBits_114 : decode cX8_squareBits 114 = .ok (.lor, 1) := by decide +kernel
theorem dX8_squareBits_115 : decode cX8_squareBits 115 = .ok (.l2i, 1) := by decide +kernel
theorem dX8_squareBits_116 : decode cX8_squareBits 116 = .ok (.ireturn, 1) := by decide +kernel
theorem dX8_cubeBits_0 : decode cX8_cubeBits 0 = .ok (.iconst 0, 1) := by decide +kernel
theorem dX8_cubeBits_1 : decode cX8_cubeBits 1 = .ok (.istore_n 2, 1) := by decide +kernel
theorem dX8_cubeBits_2 : decode cX8_cubeBits 2 = .ok (.iload_n 2, 1) := by decide +kernel
theorem dX8_cubeBits_3 : decode cX8_cubeBits 3 = .ok (.bipush 16, 2) := by decide +kernel
theorem dX8_cubeBits_5 : decode cX8_cubeBits 5 = .ok (.if_icmp .ge 16, 3) := by decide +kernel
theorem dX8_cubeBits_8 : decode cX8_cubeBits 8 = .ok (.aload_n 0, 1) := by decide +kernel
theorem dX8_cubeBits_9 : decode cX8_cubeBits 9 = .ok (.getfield 19, 3) := by decide +kernel
theorem dX8_cubeBits_12 : decode cX8_cubeBits 12 = .ok (.iload_n 2, 1) := by decide +kernel
theorem dX8_cubeBits_13 : decode cX8_cubeBits 13 = .ok (.lconst 0, 1) := by decide +kernel
theorem dX8_cubeBits_14 : decode cX8_cubeBits 14 = .ok (.lastore, 1) := by decide +kernel
theorem dX8_cubeBits_15 : decode cX8_cubeBits 15 = .ok (.iinc 2 1, 3) := by decide +kernel
theorem dX8_cubeBits_18 : decode cX8_cubeBits 18 = .ok (.goto (-16), 3) := by decide +kernel
theorem dX8_cubeBits_21 : decode cX8_cubeBits 21 = .ok (.bipush 35, 2) := by decide +kernel
theorem dX8_cubeBits_23 : decode cX8_cubeBits 23 = .ok (.istore_n 2, 1) := by decide +kernel
theorem dX8_cubeBits_24 : decode cX8_cubeBits 24 = .ok (.iload_n 2, 1) := by decide +kernel
theorem dX8_cubeBits_25 : decode cX8_cubeBits 25 = .ok (.ifCond .lt 113, 3) := by decide +kernel
theorem dX8_cubeBits_28 : decode cX8_cubeBits 28 = .ok (.aload_n 0, 1) := by decide +kernel
theorem dX8_cubeBits_29 : decode cX8_cubeBits 29 = .ok (.getfield 19, 3) := by decide +kernel
theorem dX8_cubeBits_32 : decode cX8_cubeBits 32 = .ok (.iload_n 2, 1) := by decide +kernel
theorem dX8_cubeBits_33 : decode cX8_cubeBits 33 = .ok (.bipush 16, 2) := by decide +kernel
theorem dX8_cubeBits_35 : decode cX8_cubeBits 35 = .ok (.idiv, 1) := by decide +kernel
theorem dX8_cubeBits_36 : decode cX8_cubeBits 36 = .ok (.dup2, 1) := by decide +kernel
theorem dX8_cubeBits_37 : decode cX8_cubeBits 37 = .ok (.laload, 1) := by decide +kernel
theorem dX8_cubeBits_38 : decode cX8_cubeBits 38 = .ok (.lconst 1, 1) := by decide +kernel
theorem dX8_cubeBits_39 : decode cX8_cubeBits 39 = .ok (.iload_n 2, 1) := by decide +kernel
theorem dX8_cubeBits_40 : decode cX8_cubeBits 40 = .ok (.bipush 16, 2) := by decide +kernel
theorem dX8_cubeBits_42 : decode cX8_cubeBits 42 = .ok (.irem, 1) := by decide +kernel
theorem dX8_cubeBits_43 : decode cX8_cubeBits 43 = .ok (.lshl, 1) := by decide +kernel
theorem dX8_cubeBits_44 : decode cX8_cubeBits 44 = .ok (.ladd, 1) := by decide +kernel
theorem dX8_cubeBits_45 : decode cX8_cubeBits 45 = .ok (.lastore, 1) := by decide +kernel
theorem dX8_cubeBits_46 : decode cX8_cubeBits 46 = .ok (.aload_n 0, 1) := by decide +kernel
theorem dX8_cubeBits_47 : decode cX8_cubeBits 47 = .ok (.aload_n 0, 1) := by decide +kernel
theorem dX8_cubeBits_48 : decode cX8_cubeBits 48 = .ok (.getfield 19, 3) := by decide +kernel
theorem dX8_cubeBits_51 : decode cX8_cubeBits 51 = .ok (.aload_n 0, 1) := by decide +kernel
theorem dX8_cubeBits_52 : decode cX8_cubeBits 52 = .ok (.getfield 19, 3) := by decide +kernel
theorem dX8_cubeBits_55 : decode cX8_cubeBits 55 = .ok (.iconst 3, 1) := by decide +kernel
theorem dX8_cubeBits_56 : decode cX8_cubeBits 56 = .ok (.iconst 3, 1) := by decide +kernel
theorem dX8_cubeBits_57 : decode cX8_cubeBits 57 = .ok (.invokevirtual 114, 3) := by decide +kernel
theorem dX8_cubeBits_60 : decode cX8_cubeBits 60 = .ok (.iconst 0, 1) := by decide +kernel
theorem dX8_cubeBits_61 : decode cX8_cubeBits 61 = .ok (.istore_n 3, 1) := by decide +kernel
theorem dX8_cubeBits_62 : decode cX8_cubeBits 62 = .ok (.iload_n 3, 1) := by decide +kernel
theorem dX8_cubeBits_63 : decode cX8_cubeBits 63 = .ok (.bipush 16, 2) := by decide +kernel
theorem dX8_cubeBits_65 : decode cX8_cubeBits 65 = .ok (.if_icmp .ge 21, 3) := by decide +kernel
theorem dX8_cubeBits_68 : decode cX8_cubeBits 68 = .ok (.aload_n 0, 1) := by decide +kernel
theorem dX8_cubeBits_69 : decode cX8_cubeBits 69 = .ok (.getfield 26, 3) := by decide +kernel
theorem dX8_cubeBits_72 : decode cX8_cubeBits 72 = .ok (.iload_n 3, 1) := by decide +kernel
theorem dX8_cubeBits_73 : decode cX8_cubeBits 73 = .ok (.aload_n 0, 1) := by decide +kernel
theorem dX8_cubeBits_74 : decode cX8_cubeBits 74 = .ok (.getfield 23, 3) := by decide +kernel
theorem dX8_cubeBits_77 : decode cX8_cubeBits 77 = .ok (.iload_n 3, 1) := by decide +kernel
theorem dX8_cubeBits_78 : decode cX8_cubeBits 78 = .ok (.laload, 1) := by decide +kernel
theorem dX8_cubeBits_79 : decode cX8_cubeBits 79 = .ok (.lastore, 1) := by decide +kernel
theorem dX8_cubeBits_80 : decode cX8_cubeBits 80 = .ok (.iinc 3 1, 3) := by decide +kernel
theorem dX8_cubeBits_83 : decode cX8_cubeBits 83 = .ok (.goto (-21), 3) := by decide +kernel
theorem dX8_cubeBits_86 : decode cX8_cubeBits 86 = .ok (.aload_n 0, 1) := by decide +kernel
theorem dX8_cubeBits_87 : decode cX8_cubeBits 87 = .ok (.aload_n 0, 1) := by decide +kernel
theorem dX8_cubeBits_88 : decode cX8_cubeBits 88 = .ok (.getfield 26, 3) := by decide +kernel
theorem dX8_cubeBits_91 : decode cX8_cubeBits 91 = .ok (.aload_n 0, 1) := by decide +kernel
theorem dX8_cubeBits_92 : decode cX8_cubeBits 92 = .ok (.getfield 19, 3) := by decide +kernel
theorem dX8_cubeBits_95 : decode cX8_cubeBits 95 = .ok (.bipush 6, 2) := by decide +kernel
theorem dX8_cubeBits_97 : decode cX8_cubeBits 97 = .ok (.iconst 3, 1) := by decide +kernel
theorem dX8_cubeBits_98 : decode cX8_cubeBits 98 = .ok (.invokevirtual 114, 3) := by decide +kernel
theorem dX8_cubeBits_101 : decode cX8_cubeBits 101 = .ok (.aload_n 0, 1) := by decide +kernel
theorem dX8_cubeBits_102 : decode cX8_cubeBits 102 = .ok (.getfield 23, 3) := by decide +kernel
theorem dX8_cubeBits_105 : decode cX8_cubeBits 105 = .ok (.iload_n 1, 1) := by decide +kernel
theorem dX8_cubeBits_106 : decode cX8_cubeBits 106 = .ok (.bipush 96, 2) := by decide +kernel
theorem dX8_cubeBits_108 : decode cX8_cubeBits 108 = .ok (.invokestatic 118, 3) := by decide +kernel
theorem dX8_cubeBits_111 : decode cX8_cubeBits 111 = .ok (.ifCond .ne 21, 3) := by decide +kernel
theorem dX8_cubeBits_114 : decode cX8_cubeBits 114 = .ok (.aload_n 0, 1) := by decide +kernel
theorem dX8_cubeBits_115 : decode cX8_cubeBits 115 = .ok (.getfield 19, 3) := by decide +kernel
theorem dX8_cubeBits_118 : decode cX8_cubeBits 118 = .ok (.iload_n 2, 1) := by decide +kernel
theorem dX8_cubeBits_119 : decode cX8_cubeBits 119 = .ok (.bipush 16, 2) := by decide +kernel
theorem dX8_cubeBits_121 : decode cX8_cubeBits 121 = .ok (.idiv, 1) := by decide +kernel
theorem dX8_cubeBits_122 : decode cX8_cubeBits 122 = .ok (.dup2, 1) := by decide +kernel
theorem dX8_cubeBits_123 : decode cX8_cubeBits 123 = .ok (.laload, 1) := by decide +kernel
theorem dX8_cubeBits_124 : decode cX8_cubeBits 124 = .ok (.lconst 1, 1) := by decide +kernel
theorem dX8_cubeBits_125 : decode cX8_cubeBits 125 = .ok (.iload_n 2, 1) := by decide +kernel
theorem dX8_cubeBits_126 : decode cX8_cubeBits 126 = .ok (.bipush 16, 2) := by decide +kernel
theorem dX8_cubeBits_128 : decode cX8_cubeBits 128 = .ok (.irem, 1) := by decide +kernel
theorem dX8_cubeBits_129 : decode cX8_cubeBits 129 = .ok (.lshl, 1) := by decide +kernel
theorem dX8_cubeBits_130 : decode cX8_cubeBits 130 = .ok (.lsub, 1) := by decide +kernel
theorem dX8_cubeBits_131 : decode cX8_cubeBits 131 = .ok (.lastore, 1) := by decide +kernel
theorem dX8_cubeBits_132 : decode cX8_cubeBits 132 = .ok (.iinc 2 (-1), 3) := by decide +kernel
theorem dX8_cubeBits_135 : decode cX8_cubeBits 135 = .ok (.goto (-111), 3) := by decide +kernel
theorem dX8_cubeBits_138 : decode cX8_cubeBits 138 = .ok (.aload_n 0, 1) := by decide +kernel
theorem dX8_cubeBits_139 : decode cX8_cubeBits 139 = .ok (.getfield 19, 3) := by decide +kernel
theorem dX8_cubeBits_142 : decode cX8_cubeBits 142 = .ok (.iconst 1, 1) := by decide +kernel
theorem dX8_cubeBits_143 : decode cX8_cubeBits 143 = .ok (.laload, 1) := by decide +kernel
theorem dX8_cubeBits_144 : decode cX8_cubeBits 144 = .ok (.bipush 16, 2) := by decide +kernel
theorem dX8_cubeBits_146 : decode cX8_cubeBits 146 = .ok (.lshl, 1) := by decide +kernel
theorem dX8_cubeBits_147 : decode cX8_cubeBits 147 = .ok (.aload_n 0, 1) := by decide +kernel
theorem dX8_cubeBits_148 : decode cX8_cubeBits 148 = .ok (.getfield 19, 3) := by decide +kernel
theorem dX8_cubeBits_151 : decode cX8_cubeBits 151 = .ok (.iconst 0, 1) := by decide +kernel
theorem dX8_cubeBits_152 : decode cX8_cubeBits 152 = .ok (.laload, 1) := by decide +kernel
theorem dX8_cubeBits_153 : decode cX8_cubeBits 153 = .ok (.lor, 1) := by decide +kernel
theorem dX8_cubeBits_154 : decode cX8_cubeBits 154 = .ok (.l2i, 1) := by decide +kernel
theorem dX8_cubeBits_155 : decode cX8_cubeBits 155 = .ok (.ireturn, 1) := by decide +kernel
theorem dX8_isUpTo_0 : decode cX8_isUpTo 0 = .ok (.iload_n 2, 1) := by decide +kernel
theorem dX8_isUpTo_1 : decode cX8_isUpTo 1 = .ok (.bipush 16, 2) := by decide +kernel
theorem dX8_isUpTo_3 : decode cX8_isUpTo 3 = .ok (.idiv, 1) := by decide +kernel
theorem dX8_isUpTo_4 : decode cX8_isUpTo 4 = .ok (.istore_n 3, 1) := by decide +kernel
theorem dX8_isUpTo_5 : decode cX8_isUpTo 5 = .ok (.iconst 0, 1) := by decide +kernel
theorem dX8_isUpTo_6 : decode cX8_isUpTo 6 = .ok (.istore 4, 2) := by decide +kernel
theorem dX8_isUpTo_8 : decode cX8_isUpTo 8 = .ok (.iconst 0, 1) := by decide +kernel
theorem dX8_isUpTo_9 : decode cX8_isUpTo 9 = .ok (.istore 5, 2) := by decide +kernel
theorem dX8_isUpTo_11 : decode cX8_isUpTo 11 = .ok (.iload 5, 2) := by decide +kernel
theorem dX8_isUpTo_13 : decode cX8_isUpTo 13 = .ok (.iload_n 3, 1) := by decide +kernel
theorem dX8_isUpTo_14 : decode cX8_isUpTo 14 = .ok (.if_icmp .ge 30, 3) := by decide +kernel
theorem dX8_isUpTo_17 : decode cX8_isUpTo 17 = .ok (.iload 4, 2) := by decide +kernel
theorem dX8_isUpTo_19 : decode cX8_isUpTo 19 = .ok (.ifCond .ne 12, 3) := by decide +kernel
theorem dX8_isUpTo_22 : decode cX8_isUpTo 22 = .ok (.aload_n 0, 1) := by decide +kernel
theorem dX8_isUpTo_23 : decode cX8_isUpTo 23 = .ok (.iload 5, 2) := by decide +kernel
theorem dX8_isUpTo_25 : decode cX8_isUpTo 25 = .ok (.laload, 1) := by decide +kernel
theorem dX8_isUpTo_26 : decode cX8_isUpTo 26 = .ok (.lconst 0, 1) := by decide +kernel
theorem dX8_isUpTo_27 : decode cX8_isUpTo 27 = .ok (.lcmp, 1) := by decide +kernel
theorem dX8_isUpTo_28 : decode cX8_isUpTo 28 = .ok (.ifCond .eq 7, 3) := by decide +kernel
theorem dX8_isUpTo_31 : decode cX8_isUpTo 31 = .ok (.iconst 1, 1) := by decide +kernel
theorem dX8_isUpTo_32 : decode cX8_isUpTo 32 = .ok (.goto 4, 3) := by decide +kernel
theorem dX8_isUpTo_35 : decode cX8_isUpTo 35 = .ok (.iconst 0, 1) := by decide +kernel
theorem dX8_isUpTo_36 : decode cX8_isUpTo 36 = .ok (.istore 4, 2) := by decide +kernel
theorem dX8_isUpTo_38 : decode cX8_isUpTo 38 = .ok (.iinc 5 1, 3) := by decide +kernel
theorem dX8_isUpTo_41 : decode cX8_isUpTo 41 = .ok (.goto (-30), 3) := by decide +kernel
theorem dX8_isUpTo_44 : decode cX8_isUpTo 44 = .ok (.iconst 0, 1) := by decide +kernel
theorem dX8_isUpTo_45 : decode cX8_isUpTo 45 = .ok (.istore 5, 2) := by decide +kernel
theorem dX8_isUpTo_47 : decode cX8_isUpTo 47 = .ok (.iload_n 3, 1) := by decide +kernel
theorem dX8_isUpTo_48 : decode cX8_isUpTo 48 = .ok (.iconst 1, 1) := by decide +kernel
theorem dX8_isUpTo_49 : decode cX8_isUpTo 49 = .ok (.iadd, 1) := by decide +kernel
theorem dX8_isUpTo_50 : decode cX8_isUpTo 50 = .ok (.istore 6, 2) := by decide +kernel
theorem dX8_isUpTo_52 : decode cX8_isUpTo 52 = .ok (.iload 6, 2) := by decide +kernel
theorem dX8_isUpTo_54 : decode cX8_isUpTo 54 = .ok (.bipush 16, 2) := by decide +kernel
theorem dX8_isUpTo_56 : decode cX8_isUpTo 56 = .ok (.if_icmp .ge 30, 3) := by decide +kernel
theorem dX8_isUpTo_59 : decode cX8_isUpTo 59 = .ok (.iload 5, 2) := by decide +kernel
theorem dX8_isUpTo_61 : decode cX8_isUpTo 61 = .ok (.ifCond .ne 12, 3) := by decide +kernel
theorem dX8_isUpTo_64 : decode cX8_isUpTo 64 = .ok (.aload_n 0, 1) := by decide +kernel
theorem dX8_isUpTo_65 : decode cX8_isUpTo 65 = .ok (.iload 6, 2) := by decide +kernel
theorem dX8_isUpTo_67 : decode cX8_isUpTo 67 = .ok (.laload, 1) := by decide +kernel
theorem dX8_isUpTo_68 : decode cX8_isUpTo 68 = .ok (.lconst 0, 1) := by decide +kernel
theorem dX8_isUpTo_69 : decode cX8_isUpTo 69 = .ok (.lcmp, 1) := by decide +kernel
theorem dX8_isUpTo_70 : decode cX8_isUpTo 70 = .ok (.ifCond .eq 7, 3) := by decide +kernel
theorem dX8_isUpTo_73 : decode cX8_isUpTo 73 = .ok (.iconst 1, 1) := by decide +kernel
theorem dX8_isUpTo_74 : decode cX8_isUpTo 74 = .ok (.goto 4, 3) := by decide +kernel
theorem dX8_isUpTo_77 : decode cX8_isUpTo 77 = .ok (.iconst 0, 1) := by decide +kernel
theorem dX8_isUpTo_78 : decode cX8_isUpTo 78 = .ok (.istore 5, 2) := by decide +kernel
theorem dX8_isUpTo_80 : decode cX8_isUpTo 80 = .ok (.iinc 6 1, 3) := by decide +kernel
theorem dX8_isUpTo_83 : decode cX8_isUpTo 83 = .ok (.goto (-31), 3) := by decide +kernel
theorem dX8_isUpTo_86 : decode cX8_isUpTo 86 = .ok (.iload 5, 2) := by decide +kernel
theorem dX8_isUpTo_88 : decode cX8_isUpTo 88 = .ok (.ifCond .ne 30, 3) := by decide +kernel
theorem dX8_isUpTo_91 : decode cX8_isUpTo 91 = .ok (.aload_n 0, 1) := by decide +kernel
theorem dX8_isUpTo_92 : decode cX8_isUpTo 92 = .ok (.iload_n 3, 1) := by decide +kernel
theorem dX8_isUpTo_93 : decode cX8_isUpTo 93 = .ok (.laload, 1) := by decide +kernel
theorem dX8_isUpTo_94 : decode cX8_isUpTo 94 = .ok (.iload_n 1, 1) := by decide +kernel
theorem dX8_isUpTo_95 : decode cX8_isUpTo 95 = .ok (.i2l, 1) := by decide +kernel
theorem dX8_isUpTo_96 : decode cX8_isUpTo 96 = .ok (.lcmp, 1) := by decide +kernel
theorem dX8_isUpTo_97 : decode cX8_isUpTo 97 = .ok (.ifCond .lt 17, 3) := by decide +kernel
theorem dX8_isUpTo_100 : decode cX8_isUpTo 100 = .ok (.aload_n 0, 1) := by decide +kernel
theorem dX8_isUpTo_101 : decode cX8_isUpTo 101 = .ok (.iload_n 3, 1) := by decide +kernel
theorem dX8_isUpTo_102 : decode cX8_isUpTo 102 = .ok (.laload, 1) := by decide +kernel
theorem dX8_isUpTo_103 : decode cX8_isUpTo 103 = .ok (.iload_n 1, 1) := by decide +kernel
theorem dX8_isUpTo_104 : decode cX8_isUpTo 104 = .ok (.i2l, 1) := by decide +kernel
theorem dX8_isUpTo_105 : decode cX8_isUpTo 105 = .ok (.lcmp, 1) := by decide +kernel
theorem dX8_isUpTo_106 : decode cX8_isUpTo 106 = .ok (.ifCond .ne 12, 3) := by decide +kernel
theorem dX8_isUpTo_109 : decode cX8_isUpTo 109 = .ok (.iload 4, 2) := by decide +kernel
theorem dX8_isUpTo_111 : decode cX8_isUpTo 111 = .ok (.ifCond .ne 7, 3) := by decide +kernel
theorem dX8_isUpTo_114 : decode cX8_isUpTo 114 = .ok (.iconst 1, 1) := by decide +kernel
theorem dX8_isUpTo_115 : decode cX8_isUpTo 115 = .ok (.goto 4, 3) := by decide +kernel
theorem dX8_isUpTo_118 : decode cX8_isUpTo 118 = .ok (.iconst 0, 1) := by decide +kernel
theorem dX8_isUpTo_119 : decode cX8_isUpTo 119 = .ok (.ireturn, 1) := by decide +kernel
theorem dX8_right_0 : decode cX8_right 0 = .ok (.iload_n 0, 1) := by decide +kernel
theorem dX8_right_1 : decode cX8_right 1 = .ok (.iload_n 1, 1) := by decide +kernel
theorem dX8_right_2 : decode cX8_right 2 = .ok (.iushr, 1) := by decide +kernel
theorem dX8_right_3 : decode cX8_right 3 = .ok (.iload_n 0, 1) := by decide +kernel
theorem dX8_right_4 : decode cX8_right 4 = .ok (.bipush 32, 2) := by decide +kernel
theorem dX8_right_6 : decode cX8_right 6 = .ok (.iload_n 1, 1) := by decide +kernel
theorem dX8_right_7 : decode cX8_right 7 = .ok (.isub, 1) := by decide +kernel
theorem dX8_right_8 : decode cX8_right 8 = .ok (.ishl, 1) := by decide +kernel
theorem dX8_right_9 : decode cX8_right 9 = .ok (.ior, 1) := by decide +kernel
theorem dX8_right_10 : decode cX8_right 10 = .ok (.ireturn, 1) := by decide +kernel
theorem dX8_put_0 : decode cX8_put 0 = .ok (.aload_n 0, 1) := by decide +kernel
theorem dX8_put_1 : decode cX8_put 1 = .ok (.getfield 29, 3) := by decide +kernel
theorem dX8_put_4 : decode cX8_put 4 = .ok (.aload_n 0, 1) := by decide +kernel
theorem dX8_put_5 : decode cX8_put 5 = .ok (.getfield 122, 3) := by decide +kernel
theorem dX8_put_8 : decode cX8_put 8 = .ok (.iload_n 1, 1) := by decide +kernel
theorem dX8_put_9 : decode cX8_put 9 = .ok (.iastore, 1) := by decide +kernel
theorem dX8_put_10 : decode cX8_put 10 = .ok (.aload_n 0, 1) := by decide +kernel
theorem dX8_put_11 : decode cX8_put 11 = .ok (.dup, 1) := by decide +kernel
theorem dX8_put_12 : decode cX8_put 12 = .ok (.getfield 122, 3) := by decide +kernel
theorem dX8_put_15 : decode cX8_put 15 = .ok (.iconst 1, 1) := by decide +kernel
theorem dX8_put_16 : decode cX8_put 16 = .ok (.iadd, 1) := by decide +kernel
theorem dX8_put_17 : decode cX8_put 17 = .ok (.putfield 122, 3) := by decide +kernel
theorem dX8_put_20 : decode cX8_put 20 = .ok (.return_, 1) := by decide +kernel
theorem dX8_work_0 : decode cX8_work 0 = .ok (.ldc2_w 126, 3) := by decide +kernel
theorem dX8_work_3 : decode cX8_work 3 = .ok (.aload_n 0, 1) := by decide +kernel
theorem dX8_work_4 : decode cX8_work 4 = .ok (.getfield 122, 3) := by decide +kernel
theorem dX8_work_7 : decode cX8_work 7 = .ok (.i2l, 1) := by decide +kernel
theorem dX8_work_8 : decode cX8_work 8 = .ok (.lmul, 1) := by decide +kernel
theorem dX8_work_9 : decode cX8_work 9 = .ok (.lstore_n 2, 1) := by decide +kernel
theorem dX8_work_10 : decode cX8_work 10 = .ok (.aload_n 0, 1) := by decide +kernel
theorem dX8_work_11 : decode cX8_work 11 = .ok (.sipush 128, 3) := by decide +kernel
theorem dX8_work_14 : decode cX8_work 14 = .ok (.invokevirtual 128, 3) := by decide +kernel
theorem dX8_work_17 : decode cX8_work 17 = .ok (.aload_n 0, 1) := by decide +kernel
theorem dX8_work_18 : decode cX8_work 18 = .ok (.getfield 122, 3) := by decide +kernel
theorem dX8_work_21 : decode cX8_work 21 = .ok (.bipush 64, 2) := by decide +kernel
theorem dX8_work_23 : decode cX8_work 23 = .ok (.irem, 1) := by decide +kernel
theorem dX8_work_24 : decode cX8_work 24 = .ok (.bipush 56, 2) := by decide +kernel
theorem dX8_work_26 : decode cX8_work 26 = .ok (.if_icmp .eq 11, 3) := by decide +kernel
theorem dX8_work_29 : decode cX8_work 29 = .ok (.aload_n 0, 1) := by decide +kernel
theorem dX8_work_30 : decode cX8_work 30 = .ok (.iconst 0, 1) := by decide +kernel
theorem dX8_work_31 : decode cX8_work 31 = .ok (.invokevirtual 128, 3) := by decide +kernel
theorem dX8_work_34 : decode cX8_work 34 = .ok (.goto (-17), 3) := by decide +kernel
theorem dX8_work_37 : decode cX8_work 37 = .ok (.bipush 56, 2) := by decide +kernel
theorem dX8_work_39 : decode cX8_work 39 = .ok (.istore 4, 2) := by decide +kernel
theorem dX8_work_41 : decode cX8_work 41 = .ok (.iload 4, 2) := by decide +kernel
theorem dX8_work_43 : decode cX8_work 43 = .ok (.ifCond .lt 22, 3) := by decide +kernel
theorem dX8_work_46 : decode cX8_work 46 = .ok (.aload_n 0, 1) := by decide +kernel
theorem dX8_work_47 : decode cX8_work 47 = .ok (.lload_n 2, 1) := by decide +kernel
theorem dX8_work_48 : decode cX8_work 48 = .ok (.iload 4, 2) := by decide +kernel
theorem dX8_work_50 : decode cX8_work 50 = .ok (.lushr, 1) := by decide +kernel
theorem dX8_work_51 : decode cX8_work 51 = .ok (.ldc2_w 132, 3) := by decide +kernel
theorem dX8_work_54 : decode cX8_work 54 = .ok (.land, 1) := by decide +kernel
theorem dX8_work_55 : decode cX8_work 55 = .ok (.l2i, 1) := by decide +kernel
theorem dX8_work_56 : decode cX8_work 56 = .ok (.invokevirtual 128, 3) := by decide +kernel
theorem dX8_work_59 : decode cX8_work 59 = .ok (.iinc 4 (-8), 3) := by decide +kernel
theorem dX8_work_62 : decode cX8_work 62 = .ok (.goto (-21), 3) := by decide +kernel
theorem dX8_work_65 : decode cX8_work 65 = .ok (.iconst 0, 1) := by decide +kernel
theorem dX8_work_66 : decode cX8_work 66 = .ok (.istore 4, 2) := by decide +kernel
theorem dX8_work_68 : decode cX8_work 68 = .ok (.iload 4, 2) := by decide +kernel
theorem dX8_work_70 : decode cX8_work 70 = .ok (.bipush 8, 2) := by decide +kernel
theorem dX8_work_72 : decode cX8_work 72 = .ok (.if_icmp .ge 37, 3) := by decide +kernel
theorem dX8_work_75 : decode cX8_work 75 = .ok (.aload_n 0, 1) := by decide +kernel
theorem dX8_work_76 : decode cX8_work 76 = .ok (.getfield 32, 3) := by decide +kernel
theorem dX8_work_79 : decode cX8_work 79 = .ok (.iload 4, 2) := by decide +kernel
theorem dX8_work_81 : decode cX8_work 81 = .ok (.iload_n 1, 1) := by decide +kernel
theorem dX8_work_82 : decode cX8_work 82 = .ok (.ifCond .eq 13, 3) := by decide +kernel
theorem dX8_work_85 : decode cX8_work 85 = .ok (.aload_n 0, 1) := by decide +kernel
theorem dX8_work_86 : decode cX8_work 86 = .ok (.getfield 16, 3) := by decide +kernel
theorem dX8_work_89 : decode cX8_work 89 = .ok (.iload 4, 2) := by decide +kernel
theorem dX8_work_91 : decode cX8_work 91 = .ok (.iaload, 1) := by decide +kernel
theorem dX8_work_92 : decode cX8_work 92 = .ok (.goto 10, 3) := by decide +kernel
theorem dX8_work_95 : decode cX8_work 95 = .ok (.aload_n 0, 1) := by decide +kernel
theorem dX8_work_96 : decode cX8_work 96 = .ok (.getfield 13, 3) := by decide +kernel
theorem dX8_work_99 : decode cX8_work 99 = .ok (.iload 4, 2) := by decide +kernel
theorem dX8_work_101 : decode cX8_work 101 = .ok (.iaload, 1) := by decide +kernel
theorem dX8_work_102 : decode cX8_work 102 = .ok (.iastore, 1) := by decide +kernel
theorem dX8_work_103 : decode cX8_work 103 = .ok (.iinc 4 1, 3) := by decide +kernel
theorem dX8_work_106 : decode cX8_work 106 = .ok (.goto (-38), 3) := by decide +kernel
theorem dX8_work_109 : decode cX8_work 109 = .ok (.iconst 0, 1) := by decide +kernel
theorem dX8_work_110 : decode cX8_work 110 = .ok (.istore 4, 2) := by decide +kernel
theorem dX8_work_112 : decode cX8_work 112 = .ok (.iload 4, 2) := by decide +kernel
theorem dX8_work_114 : decode cX8_work 114 = .ok (.aload_n 0, 1) := by decide +kernel
theorem dX8_work_115 : decode cX8_work 115 = .ok (.getfield 122, 3) := by decide +kernel
theorem dX8_work_118 : decode cX8_work 118 = .ok (.if_icmp .ge 25, 3) := by decide +kernel
theorem dX8_work_121 : decode cX8_work 121 = .ok (.aload_n 0, 1) := by decide +kernel
theorem dX8_work_122 : decode cX8_work 122 = .ok (.iload 4, 2) := by decide +kernel
theorem dX8_work_124 : decode cX8_work 124 = .ok (.invokevirtual 134, 3) := by decide +kernel
theorem dX8_work_127 : decode cX8_work 127 = .ok (.aload_n 0, 1) := by decide +kernel
theorem dX8_work_128 : decode cX8_work 128 = .ok (.dup, 1) := by decide +kernel
theorem dX8_work_129 : decode cX8_work 129 = .ok (.getfield 137, 3) := by decide +kernel
theorem dX8_work_132 : decode cX8_work 132 = .ok (.iconst 1, 1) := by decide +kernel
theorem dX8_work_133 : decode cX8_work 133 = .ok (.iadd, 1) := by decide +kernel
theorem dX8_work_134 : decode cX8_work 134 = .ok (.putfield 137, 3) := by decide +kernel
theorem dX8_work_137 : decode cX8_work 137 = .ok (.iinc 4 64, 3) := by decide +kernel
theorem dX8_work_140 : decode cX8_work 140 = .ok (.goto (-28), 3) := by decide +kernel
theorem dX8_work_143 : decode cX8_work 143 = .ok (.aload_n 0, 1) := by decide +kernel
theorem dX8_work_144 : decode cX8_work 144 = .ok (.iconst 0, 1) := by decide +kernel
theorem dX8_work_145 : decode cX8_work 145 = .ok (.putfield 122, 3) := by decide +kernel
theorem dX8_work_148 : decode cX8_work 148 = .ok (.return_, 1) := by decide +kernel
theorem dX8_block_0 : decode cX8_block 0 = .ok (.iconst 0, 1) := by decide +kernel
theorem dX8_block_1 : decode cX8_block 1 = .ok (.istore_n 2, 1) := by decide +kernel
theorem dX8_block_2 : decode cX8_block 2 = .ok (.iload_n 2, 1) := by decide +kernel
theorem dX8_block_3 : decode cX8_block 3 = .ok (.bipush 16, 2) := by decide +kernel
theorem dX8_block_5 : decode cX8_block 5 = .ok (.if_icmp .ge 63, 3) := by decide +kernel
theorem dX8_block_8 : decode cX8_block 8 = .ok (.iload_n 1, 1) := by decide +kernel
theorem dX8_block_9 : decode cX8_block 9 = .ok (.iconst 4, 1) := by decide +kernel
theorem dX8_block_10 : decode cX8_block 10 = .ok (.iload_n 2, 1) := by decide +kernel
theorem dX8_block_11 : decode cX8_block 11 = .ok (.imul, 1) := by decide +kernel
theorem dX8_block_12 : decode cX8_block 12 = .ok (.iadd, 1) := by decide +kernel
theorem dX8_block_13 : decode cX8_block 13 = .ok (.istore_n 3, 1) := by decide +kernel
theorem dX8_block_14 : decode cX8_block 14 = .ok (.aload_n 0, 1) := by decide +kernel
theorem dX8_block_15 : decode cX8_block 15 = .ok (.getfield 35, 3) := by decide +kernel
theorem dX8_block_18 : decode cX8_block 18 = .ok (.iload_n 2, 1) := by decide +kernel
theorem dX8_block_19 : decode cX8_block 19 = .ok (.aload_n 0, 1) := by decide +kernel
theorem dX8_block_20 : decode cX8_block 20 = .ok (.getfield 29, 3) := by decide +kernel
theorem dX8_block_23 : decode cX8_block 23 = .ok (.iload_n 3, 1) := by decide +kernel
theorem dX8_block_24 : decode cX8_block 24 = .ok (.iaload, 1) := by decide +kernel
theorem dX8_block_25 : decode cX8_block 25 = .ok (.bipush 24, 2) := by decide +kernel
theorem dX8_block_27 : decode cX8_block 27 = .ok (.ishl, 1) := by decide +kernel
theorem dX8_block_28 : decode cX8_block 28 = .ok (.aload_n 0, 1) := by decide +kernel
theorem dX8_block_29 : decode cX8_block 29 = .ok (.getfield 29, 3) := by decide +kernel
theorem dX8_block_32 : decode cX8_block 32 = .ok (.iload_n 3, 1) := by decide +kernel
theorem dX8_block_33 : decode cX8_block 33 = .ok (.iconst 1, 1) := by decide +kernel
theorem dX8_block_34 : decode cX8_block 34 = .ok (.iadd, 1) := by decide +kernel
theorem dX8_block_35 : decode cX8_block 35 = .ok (.iaload, 1) := by decide +kernel
theorem dX8_block_36 : decode cX8_block 36 = .ok (.bipush 16, 2) := by decide +kernel
theorem dX8_block_38 : decode cX8_block 38 = .ok (.ishl, 1) := by decide +kernel
theorem dX8_block_39 : decode cX8_block 39 = .ok (.ior, 1) := by decide +kernel
theorem dX8_block_40 : decode cX8_block 40 = .ok (.aload_n 0, 1) := by decide +kernel
theorem dX8_block_41 : decode cX8_block 41 = .ok (.getfield 29, 3) := by decide +kernel
theorem dX8_block_44 : decode cX8_block 44 = .ok (.iload_n 3, 1) := by decide +kernel
theorem dX8_block_45 : decode cX8_block 45 = .ok (.iconst 2, 1) := by decide +kernel
theorem dX8_block_46 : decode cX8_block 46 = .ok (.iadd, 1) := by decide +kernel
theorem dX8_block_47 : decode cX8_block 47 = .ok (.iaload, 1) := by decide +kernel
theorem dX8_block_48 : decode cX8_block 48 = .ok (.bipush 8, 2) := by decide +kernel
theorem dX8_block_50 : decode cX8_block 50 = .ok (.ishl, 1) := by decide +kernel
theorem dX8_block_51 : decode cX8_block 51 = .ok (.ior, 1) := by decide +kernel
theorem dX8_block_52 : decode cX8_block 52 = .ok (.aload_n 0, 1) := by decide +kernel
theorem dX8_block_53 : decode cX8_block 53 = .ok (.getfield 29, 3) := by decide +kernel
theorem dX8_block_56 : decode cX8_block 56 = .ok (.iload_n 3, 1) := by decide +kernel
theorem dX8_block_57 : decode cX8_block 57 = .ok (.iconst 3, 1) := by decide +kernel
theorem dX8_block_58 : decode cX8_block 58 = .ok (.iadd, 1) := by decide +kernel
theorem dX8_block_59 : decode cX8_block 59 = .ok (.iaload, 1) := by decide +kernel
theorem dX8_block_60 : decode cX8_block 60 = .ok (.ior, 1) := by decide +kernel
theorem dX8_block_61 : decode cX8_block 61 = .ok (.iastore, 1) := by decide +kernel
theorem dX8_block_62 : decode cX8_block 62 = .ok (.iinc 2 1, 3) := by decide +kernel
theorem dX8_block_65 : decode cX8_block 65 = .ok (.goto (-63), 3) := by decide +kernel
theorem dX8_block_68 : decode cX8_block 68 = .ok (.bipush 16, 2) := by decide +kernel
theorem dX8_block_70 : decode cX8_block 70 = .ok (.istore_n 2, 1) := by decide +kernel
theorem dX8_block_71 : decode cX8_block 71 = .ok (.iload_n 2, 1) := by decide +kernel
theorem dX8_block_72 : decode cX8_block 72 = .ok (.bipush 64, 2) := by decide +kernel
theorem dX8_block_74 : decode cX8_block 74 = .ok (.if_icmp .ge 94, 3) := by decide +kernel
theorem dX8_block_77 : decode cX8_block 77 = .ok (.aload_n 0, 1) := by decide +kernel
theorem dX8_block_78 : decode cX8_block 78 = .ok (.getfield 35, 3) := by decide +kernel
theorem dX8_block_81 : decode cX8_block 81 = .ok (.iload_n 2, 1) := by decide +kernel
theorem dX8_block_82 : decode cX8_block 82 = .ok (.bipush 15, 2) := by decide +kernel
theorem dX8_block_84 : decode cX8_block 84 = .ok (.isub, 1) := by decide +kernel
theorem dX8_block_85 : decode cX8_block 85 = .ok (.iaload, 1) := by decide +kernel
theorem dX8_block_86 : decode cX8_block 86 = .ok (.istore_n 3, 1) := by decide +kernel
theorem dX8_block_87 : decode cX8_block 87 = .ok (.aload_n 0, 1) := by decide +kernel
theorem dX8_block_88 : decode cX8_block 88 = .ok (.getfield 35, 3) := by decide +kernel
theorem dX8_block_91 : decode cX8_block 91 = .ok (.iload_n 2, 1) := by decide +kernel
theorem dX8_block_92 : decode cX8_block 92 = .ok (.iconst 2, 1) := by decide +kernel
theorem dX8_block_93 : decode cX8_block 93 = .ok (.isub, 1) := by decide +kernel
theorem dX8_block_94 : decode cX8_block 94 = .ok (.iaload, 1) := by decide +kernel
theorem dX8_block_95 : decode cX8_block 95 = .ok (.istore 4, 2) := by decide +kernel
theorem dX8_block_97 : decode cX8_block 97 = .ok (.aload_n 0, 1) := by decide +kernel
theorem dX8_block_98 : decode cX8_block 98 = .ok (.getfield 35, 3) := by decide +kernel
theorem dX8_block_101 : decode cX8_block 101 = .ok (.iload_n 2, 1) := by decide +kernel
theorem dX8_block_102 : decode cX8_block 102 = .ok (.iload 4, 2) := by decide +kernel
theorem dX8_block_104 : decode cX8_block 104 = .ok (.bipush 17, 2) := by decide +kernel
theorem dX8_block_106 : decode cX8_block 106 = .ok (.invokestatic 140, 3) := by decide +kernel
theorem dX8_block_109 : decode cX8_block 109 = .ok (.iload 4, 2) := by decide +kernel
theorem dX8_block_111 : decode cX8_block 111 = .ok (.bipush 19, 2) := by decide +kernel
theorem dX8_block_113 : decode cX8_block 113 = .ok (.invokestatic 140, 3) := by decide +kernel
theorem dX8_block_116 : decode cX8_block 116 = .ok (.ixor, 1) := by decide +kernel
theorem dX8_block_117 : decode cX8_block 117 = .ok (.iload 4, 2) := by decide +kernel
theorem dX8_block_119 : decode cX8_block 119 = .ok (.bipush 10, 2) := by decide +kernel
theorem dX8_block_121 : decode cX8_block 121 = .ok (.iushr, 1) := by decide +kernel
theorem dX8_block_122 : decode cX8_block 122 = .ok (.ixor, 1) := by decide +kernel
theorem dX8_block_123 : decode cX8_block 123 = .ok (.aload_n 0, 1) := by decide +kernel
theorem dX8_block_124 : decode cX8_block 124 = .ok (.getfield 35, 3) := by decide +kernel
theorem dX8_block_127 : decode cX8_block 127 = .ok (.iload_n 2, 1) := by decide +kernel
theorem dX8_block_128 : decode cX8_block 128 = .ok (.bipush 7, 2) := by decide +kernel
theorem dX8_block_130 : decode cX8_block 130 = .ok (.isub, 1) := by decide +kernel
theorem dX8_block_131 : decode cX8_block 131 = .ok (.iaload, 1) := by decide +kernel
theorem dX8_block_132 : decode cX8_block 132 = .ok (.iadd, 1) := by decide +kernel
theorem dX8_block_133 : decode cX8_block 133 = .ok (.iload_n 3, 1) := by decide +kernel
theorem dX8_block_134 : decode cX8_block 134 = .ok (.bipush 7, 2) := by decide +kernel
theorem dX8_block_136 : decode cX8_block 136 = .ok (.invokestatic 140, 3) := by decide +kernel
theorem dX8_block_139 : decode cX8_block 139 = .ok (.iload_n 3, 1) := by decide +kernel
theorem dX8_block_140 : decode cX8_block 140 = .ok (.bipush 18, 2) := by decide +kernel
theorem dX8_block_142 : decode cX8_block 142 = .ok (.invokestatic 140, 3) := by decide +kernel
theorem dX8_block_145 : decode cX8_block 145 = .ok (.ixor, 1) := by decide +kernel
theorem dX8_block_146 : decode cX8_block 146 = .ok (.iload_n 3, 1) := by decide +kernel
theorem dX8_block_147 : decode cX8_block 147 = .ok (.iconst 3, 1) := by decide +kernel
theorem dX8_block_148 : decode cX8_block 148 = .ok (.iushr, 1) := by decide +kernel
theorem dX8_block_149 : decode cX8_block 149 = .ok (.ixor, 1) := by decide +kernel
theorem dX8_block_150 : decode cX8_block 150 = .ok (.iadd, 1) := by decide +kernel
theorem dX8_block_151 : decode cX8_block 151 = .ok (.aload_n 0, 1) := by decide +kernel
theorem dX8_block_152 : decode cX8_block 152 = .ok (.getfield 35, 3) := by decide +kernel
theorem dX8_block_155 : decode cX8_block 155 = .ok (.iload_n 2, 1) := by decide +kernel
theorem dX8_block_156 : decode cX8_block 156 = .ok (.bipush 16, 2) := by decide +kernel
theorem dX8_block_158 : decode cX8_block 158 = .ok (.isub, 1) := by decide +kernel
theorem dX8_block_159 : decode cX8_block 159 = .ok (.iaload, 1) := by decide +kernel
theorem dX8_block_160 : decode cX8_block 160 = .ok (.iadd, 1) := by decide +kernel
theorem dX8_block_161 : decode cX8_block 161 = .ok (.iastore, 1) := by decide +kernel
theorem dX8_block_162 : decode cX8_block 162 = .ok (.iinc 2 1, 3) := by decide +kernel
theorem dX8_block_165 : decode cX8_block 165 = .ok (.goto (-94), 3) := by decide +kernel
theorem dX8_block_168 : decode cX8_block 168 = .ok (.aload_n 0, 1) := by decide +kernel
theorem dX8_block_169 : decode cX8_block 169 = .ok (.getfield 32, 3) := by decide +kernel
theorem dX8_block_172 : decode cX8_block 172 = .ok (.iconst 0, 1) := by decide +kernel
theorem dX8_block_173 : decode cX8_block 173 = .ok (.iaload, 1) := by decide +kernel
theorem dX8_block_174 : decode cX8_block 174 = .ok (.istore_n 2, 1) := by decide +kernel
theorem dX8_block_175 : decode cX8_block 175 = .ok (.aload_n 0, 1) := by decide +kernel
theorem dX8_block_176 : decode cX8_block 176 = .ok (.getfield 32, 3) := by decide +kernel
theorem dX8_block_179 : decode cX8_block 179 = .ok (.iconst 1, 1) := by decide +kernel
theorem dX8_block_180 : decode cX8_block 180 = .ok (.iaload, 1) := by decide +kernel
theorem dX8_block_181 : decode cX8_block 181 = .ok (.istore_n 3, 1) := by decide +kernel
theorem dX8_block_182 : decode cX8_block 182 = .ok (.aload_n 0, 1) := by decide +kernel
theorem dX8_block_183 : decode cX8_block 183 = .ok (.getfield 32, 3) := by decide +kernel
theorem dX8_block_186 : decode cX8_block 186 = .ok (.iconst 2, 1) := by decide +kernel
theorem dX8_block_187 : decode cX8_block 187 = .ok (.iaload, 1) := by decide +kernel
theorem dX8_block_188 : decode cX8_block 188 = .ok (.istore 4, 2) := by decide +kernel
theorem dX8_block_190 : decode cX8_block 190 = .ok (.aload_n 0, 1) := by decide +kernel
theorem dX8_block_191 : decode cX8_block 191 = .ok (.getfield 32, 3) := by decide +kernel
theorem dX8_block_194 : decode cX8_block 194 = .ok (.iconst 3, 1) := by decide +kernel
theorem dX8_block_195 : decode cX8_block 195 = .ok (.iaload, 1) := by decide +kernel
theorem dX8_block_196 : decode cX8_block 196 = .ok (.istore 5, 2) := by decide +kernel
theorem dX8_block_198 : decode cX8_block 198 = .ok (.aload_n 0, 1) := by decide +kernel
theorem dX8_block_199 : decode cX8_block 199 = .ok (.getfield 32, 3) := by decide +kernel
theorem dX8_block_202 : decode cX8_block 202 = .ok (.iconst 4, 1) := by decide +kernel
theorem dX8_block_203 : decode cX8_block 203 = .ok (.iaload, 1) := by decide +kernel
