theorem dX6_climb_97 : decode cX6_climb 97 = .ok (.iconst 1, 1) := by decide +kernel
theorem dX6_climb_98 : decode cX6_climb 98 = .ok (.if_icmp .ne 30, 3) := by decide +kernel
theorem dX6_climb_101 : decode cX6_climb 101 = .ok (.aload_n 0, 1) := by decide +kernel
theorem dX6_climb_102 : decode cX6_climb 102 = .ok (.getfield 17, 3) := by decide +kernel
theorem dX6_climb_105 : decode cX6_climb 105 = .ok (.iload 4, 2) := by decide +kernel
theorem dX6_climb_107 : decode cX6_climb 107 = .ok (.iconst 1, 1) := by decide +kernel
theorem dX6_climb_108 : decode cX6_climb 108 = .ok (.isub, 1) := by decide +kernel
theorem dX6_climb_109 : decode cX6_climb 109 = .ok (.aaload, 1) := by decide +kernel
theorem dX6_climb_110 : decode cX6_climb 110 = .ok (.iconst 0, 1) := by decide +kernel
theorem dX6_climb_111 : decode cX6_climb 111 = .ok (.aload_n 0, 1) := by decide +kernel
theorem dX6_climb_112 : decode cX6_climb 112 = .ok (.getfield 17, 3) := by decide +kernel
theorem dX6_climb_115 : decode cX6_climb 115 = .ok (.iload 4, 2) := by decide +kernel
theorem dX6_climb_117 : decode cX6_climb 117 = .ok (.iload_n 3, 1) := by decide +kernel
theorem dX6_climb_118 : decode cX6_climb 118 = .ok (.iconst 2, 1) := by decide +kernel
theorem dX6_climb_119 : decode cX6_climb 119 = .ok (.idiv, 1) := by decide +kernel
theorem dX6_climb_120 : decode cX6_climb 120 = .ok (.iadd, 1) := by decide +kernel
theorem dX6_climb_121 : decode cX6_climb 121 = .ok (.aaload, 1) := by decide +kernel
theorem dX6_climb_122 : decode cX6_climb 122 = .ok (.iconst 0, 1) := by decide +kernel
theorem dX6_climb_123 : decode cX6_climb 123 = .ok (.bipush 32, 2) := by decide +kernel
theorem dX6_climb_125 : decode cX6_climb 125 = .ok (.invokestatic 34, 3) := by decide +kernel
theorem dX6_climb_128 : decode cX6_climb 128 = .ok (.iload 4, 2) := by decide +kernel
theorem dX6_climb_130 : decode cX6_climb 130 = .ok (.istore_n 2, 1) := by decide +kernel
theorem dX6_climb_131 : decode cX6_climb 131 = .ok (.iload_n 3, 1) := by decide +kernel
theorem dX6_climb_132 : decode cX6_climb 132 = .ok (.iconst 1, 1) := by decide +kernel
theorem dX6_climb_133 : decode cX6_climb 133 = .ok (.iadd, 1) := by decide +kernel
theorem dX6_climb_134 : decode cX6_climb 134 = .ok (.iconst 2, 1) := by decide +kernel
theorem dX6_climb_135 : decode cX6_climb 135 = .ok (.idiv, 1) := by decide +kernel
theorem dX6_climb_136 : decode cX6_climb 136 = .ok (.istore_n 3, 1) := by decide +kernel
theorem dX6_climb_137 : decode cX6_climb 137 = .ok (.goto (-106), 3) := by decide +kernel
theorem dX6_climb_140 : decode cX6_climb 140 = .ok (.aload_n 0, 1) := by decide +kernel
theorem dX6_climb_141 : decode cX6_climb 141 = .ok (.getfield 17, 3) := by decide +kernel
theorem dX6_climb_144 : decode cX6_climb 144 = .ok (.iload_n 2, 1) := by decide +kernel
theorem dX6_climb_145 : decode cX6_climb 145 = .ok (.aaload, 1) := by decide +kernel
theorem dX6_climb_146 : decode cX6_climb 146 = .ok (.areturn, 1) := by decide +kernel
theorem dX7_init_0 : decode cX7_init 0 = .ok (.aload_n 0, 1) := by decide +kernel
theorem dX7_init_1 : decode cX7_init 1 = .ok (.invokespecial 1, 3) := by decide +kernel
theorem dX7_init_4 : decode cX7_init 4 = .ok (.aload_n 0, 1) := by decide +kernel
theorem dX7_init_5 : decode cX7_init 5 = .ok (.new 7, 3) := by decide +kernel
theorem dX7_init_8 : decode cX7_init 8 = .ok (.dup, 1) := by decide +kernel
theorem dX7_init_9 : decode cX7_init 9 = .ok (.invokespecial 9, 3) := by decide +kernel
theorem dX7_init_12 : decode cX7_init 12 = .ok (.putfield 10, 3) := by decide +kernel
theorem dX7_init_15 : decode cX7_init 15 = .ok (.aload_n 0, 1) := by decide +kernel
theorem dX7_init_16 : decode cX7_init 16 = .ok (.new 7, 3) := by decide +kernel
theorem dX7_init_19 : decode cX7_init 19 = .ok (.dup, 1) := by decide +kernel
theorem dX7_init_20 : decode cX7_init 20 = .ok (.invokespecial 9, 3) := by decide +kernel
theorem dX7_init_23 : decode cX7_init 23 = .ok (.putfield 16, 3) := by decide +kernel
theorem dX7_init_26 : decode cX7_init 26 = .ok (.aload_n 0, 1) := by decide +kernel
theorem dX7_init_27 : decode cX7_init 27 = .ok (.new 19, 3) := by decide +kernel
theorem dX7_init_30 : decode cX7_init 30 = .ok (.dup, 1) := by decide +kernel
theorem dX7_init_31 : decode cX7_init 31 = .ok (.invokespecial 21, 3) := by decide +kernel
theorem dX7_init_34 : decode cX7_init 34 = .ok (.putfield 22, 3) := by decide +kernel
theorem dX7_init_37 : decode cX7_init 37 = .ok (.aload_n 0, 1) := by decide +kernel
theorem dX7_init_38 : decode cX7_init 38 = .ok (.new 26, 3) := by decide +kernel
theorem dX7_init_41 : decode cX7_init 41 = .ok (.dup, 1) := by decide +kernel
theorem dX7_init_42 : decode cX7_init 42 = .ok (.aload_n 0, 1) := by decide +kernel
theorem dX7_init_43 : decode cX7_init 43 = .ok (.getfield 22, 3) := by decide +kernel
theorem dX7_init_46 : decode cX7_init 46 = .ok (.invokespecial 28, 3) := by decide +kernel
theorem dX7_init_49 : decode cX7_init 49 = .ok (.putfield 31, 3) := by decide +kernel
theorem dX7_init_52 : decode cX7_init 52 = .ok (.aload_n 0, 1) := by decide +kernel
theorem dX7_init_53 : decode cX7_init 53 = .ok (.iconst 4, 1) := by decide +kernel
theorem dX7_init_54 : decode cX7_init 54 = .ok (.anewarray 26, 3) := by decide +kernel
theorem dX7_init_57 : decode cX7_init 57 = .ok (.putfield 35, 3) := by decide +kernel
theorem dX7_init_60 : decode cX7_init 60 = .ok (.aload_n 0, 1) := by decide +kernel
theorem dX7_init_61 : decode cX7_init 61 = .ok (.new 39, 3) := by decide +kernel
theorem dX7_init_64 : decode cX7_init 64 = .ok (.dup, 1) := by decide +kernel
theorem dX7_init_65 : decode cX7_init 65 = .ok (.invokespecial 41, 3) := by decide +kernel
theorem dX7_init_68 : decode cX7_init 68 = .ok (.putfield 42, 3) := by decide +kernel
theorem dX7_init_71 : decode cX7_init 71 = .ok (.aload_n 0, 1) := by decide +kernel
theorem dX7_init_72 : decode cX7_init 72 = .ok (.iconst 4, 1) := by decide +kernel
theorem dX7_init_73 : decode cX7_init 73 = .ok (.anewarray 46, 3) := by decide +kernel
theorem dX7_init_76 : decode cX7_init 76 = .ok (.putfield 48, 3) := by decide +kernel
theorem dX7_init_79 : decode cX7_init 79 = .ok (.aload_n 0, 1) := by decide +kernel
theorem dX7_init_80 : decode cX7_init 80 = .ok (.new 52, 3) := by decide +kernel
theorem dX7_init_83 : decode cX7_init 83 = .ok (.dup, 1) := by decide +kernel
theorem dX7_init_84 : decode cX7_init 84 = .ok (.invokespecial 54, 3) := by decide +kernel
theorem dX7_init_87 : decode cX7_init 87 = .ok (.putfield 55, 3) := by decide +kernel
theorem dX7_init_90 : decode cX7_init 90 = .ok (.aload_n 0, 1) := by decide +kernel
theorem dX7_init_91 : decode cX7_init 91 = .ok (.new 59, 3) := by decide +kernel
theorem dX7_init_94 : decode cX7_init 94 = .ok (.dup, 1) := by decide +kernel
theorem dX7_init_95 : decode cX7_init 95 = .ok (.invokespecial 61, 3) := by decide +kernel
theorem dX7_init_98 : decode cX7_init 98 = .ok (.putfield 62, 3) := by decide +kernel
theorem dX7_init_101 : decode cX7_init 101 = .ok (.aload_n 0, 1) := by decide +kernel
theorem dX7_init_102 : decode cX7_init 102 = .ok (.bipush 32, 2) := by decide +kernel
theorem dX7_init_104 : decode cX7_init 104 = .ok (.newarray .byte, 2) := by decide +kernel
theorem dX7_init_106 : decode cX7_init 106 = .ok (.putfield 66, 3) := by decide +kernel
theorem dX7_init_109 : decode cX7_init 109 = .ok (.iconst 0, 1) := by decide +kernel
theorem dX7_init_110 : decode cX7_init 110 = .ok (.istore_n 1, 1) := by decide +kernel
theorem dX7_init_111 : decode cX7_init 111 = .ok (.iload_n 1, 1) := by decide +kernel
theorem dX7_init_112 : decode cX7_init 112 = .ok (.iconst 4, 1) := by decide +kernel
theorem dX7_init_113 : decode cX7_init 113 = .ok (.if_icmp .ge 29, 3) := by decide +kernel
theorem dX7_init_116 : decode cX7_init 116 = .ok (.aload_n 0, 1) := by decide +kernel
theorem dX7_init_117 : decode cX7_init 117 = .ok (.getfield 35, 3) := by decide +kernel
theorem dX7_init_120 : decode cX7_init 120 = .ok (.iload_n 1, 1) := by decide +kernel
theorem dX7_init_121 : decode cX7_init 121 = .ok (.new 26, 3) := by decide +kernel
theorem dX7_init_124 : decode cX7_init 124 = .ok (.dup, 1) := by decide +kernel
theorem dX7_init_125 : decode cX7_init 125 = .ok (.new 19, 3) := by decide +kernel
theorem dX7_init_128 : decode cX7_init 128 = .ok (.dup, 1) := by decide +kernel
theorem dX7_init_129 : decode cX7_init 129 = .ok (.invokespecial 21, 3) := by decide +kernel
theorem dX7_init_132 : decode cX7_init 132 = .ok (.invokespecial 28, 3) := by decide +kernel
theorem dX7_init_135 : decode cX7_init 135 = .ok (.aastore, 1) := by decide +kernel
theorem dX7_init_136 : decode cX7_init 136 = .ok (.iinc 1 1, 3) := by decide +kernel
theorem dX7_init_139 : decode cX7_init 139 = .ok (.goto (-28), 3) := by decide +kernel
theorem dX7_init_142 : decode cX7_init 142 = .ok (.iconst 0, 1) := by decide +kernel
theorem dX7_init_143 : decode cX7_init 143 = .ok (.istore_n 1, 1) := by decide +kernel
theorem dX7_init_144 : decode cX7_init 144 = .ok (.iload_n 1, 1) := by decide +kernel
theorem dX7_init_145 : decode cX7_init 145 = .ok (.iconst 4, 1) := by decide +kernel
theorem dX7_init_146 : decode cX7_init 146 = .ok (.if_icmp .ge 22, 3) := by decide +kernel
theorem dX7_init_149 : decode cX7_init 149 = .ok (.aload_n 0, 1) := by decide +kernel
theorem dX7_init_150 : decode cX7_init 150 = .ok (.getfield 48, 3) := by decide +kernel
theorem dX7_init_153 : decode cX7_init 153 = .ok (.iload_n 1, 1) := by decide +kernel
theorem dX7_init_154 : decode cX7_init 154 = .ok (.new 46, 3) := by decide +kernel
theorem dX7_init_157 : decode cX7_init 157 = .ok (.dup, 1) := by decide +kernel
theorem dX7_init_158 : decode cX7_init 158 = .ok (.invokespecial 70, 3) := by decide +kernel
theorem dX7_init_161 : decode cX7_init 161 = .ok (.aastore, 1) := by decide +kernel
theorem dX7_init_162 : decode cX7_init 162 = .ok (.iinc 1 1, 3) := by decide +kernel
theorem dX7_init_165 : decode cX7_init 165 = .ok (.goto (-21), 3) := by decide +kernel
theorem dX7_init_168 : decode cX7_init 168 = .ok (.return_, 1) := by decide +kernel
theorem dX7_feed_0 : decode cX7_feed 0 = .ok (.iload_n 1, 1) := by decide +kernel
theorem dX7_feed_1 : decode cX7_feed 1 = .ok (.iconst 1, 1) := by decide +kernel
theorem dX7_feed_2 : decode cX7_feed 2 = .ok (.if_icmp .lt 9, 3) := by decide +kernel
theorem dX7_feed_5 : decode cX7_feed 5 = .ok (.iload_n 1, 1) := by decide +kernel
theorem dX7_feed_6 : decode cX7_feed 6 = .ok (.bipush 8, 2) := by decide +kernel
theorem dX7_feed_8 : decode cX7_feed 8 = .ok (.if_icmp .le 6, 3) := by decide +kernel
theorem dX7_feed_11 : decode cX7_feed 11 = .ok (.bipush (-102), 2) := by decide +kernel
theorem dX7_feed_13 : decode cX7_feed 13 = .ok (.ireturn, 1) := by decide +kernel
theorem dX7_feed_14 : decode cX7_feed 14 = .ok (.iload_n 1, 1) := by decide +kernel
theorem dX7_feed_15 : decode cX7_feed 15 = .ok (.sipush 200, 3) := by decide +kernel
theorem dX7_feed_18 : decode cX7_feed 18 = .ok (.aload_n 0, 1) := by decide +kernel
theorem dX7_feed_19 : decode cX7_feed 19 = .ok (.getfield 10, 3) := by decide +kernel
theorem dX7_feed_22 : decode cX7_feed 22 = .ok (.getfield 71, 3) := by decide +kernel
theorem dX7_feed_25 : decode cX7_feed 25 = .ok (.isub, 1) := by decide +kernel
theorem dX7_feed_26 : decode cX7_feed 26 = .ok (.if_icmp .le 6, 3) := by decide +kernel
theorem dX7_feed_29 : decode cX7_feed 29 = .ok (.bipush (-103), 2) := by decide +kernel
theorem dX7_feed_31 : decode cX7_feed 31 = .ok (.ireturn, 1) := by decide +kernel
theorem dX7_feed_32 : decode cX7_feed 32 = .ok (.iload_n 1, 1) := by decide +kernel
theorem dX7_feed_33 : decode cX7_feed 33 = .ok (.iconst 1, 1) := by decide +kernel
theorem dX7_feed_34 : decode cX7_feed 34 = .ok (.isub, 1) := by decide +kernel
theorem dX7_feed_35 : decode cX7_feed 35 = .ok (.istore 4, 2) := by decide +kernel
theorem dX7_feed_37 : decode cX7_feed 37 = .ok (.iload 4, 2) := by decide +kernel
theorem dX7_feed_39 : decode cX7_feed 39 = .ok (.ifCond .lt 46, 3) := by decide +kernel
theorem dX7_feed_42 : decode cX7_feed 42 = .ok (.aload_n 0, 1) := by decide +kernel
theorem dX7_feed_43 : decode cX7_feed 43 = .ok (.getfield 10, 3) := by decide +kernel
theorem dX7_feed_46 : decode cX7_feed 46 = .ok (.getfield 75, 3) := by decide +kernel
theorem dX7_feed_49 : decode cX7_feed 49 = .ok (.aload_n 0, 1) := by decide +kernel
theorem dX7_feed_50 : decode cX7_feed 50 = .ok (.getfield 10, 3) := by decide +kernel
theorem dX7_feed_53 : decode cX7_feed 53 = .ok (.getfield 71, 3) := by decide +kernel
theorem dX7_feed_56 : decode cX7_feed 56 = .ok (.lload_n 2, 1) := by decide +kernel
theorem dX7_feed_57 : decode cX7_feed 57 = .ok (.bipush 8, 2) := by decide +kernel
theorem dX7_feed_59 : decode cX7_feed 59 = .ok (.iload 4, 2) := by decide +kernel
theorem dX7_feed_61 : decode cX7_feed 61 = .ok (.imul, 1) := by decide +kernel
theorem dX7_feed_62 : decode cX7_feed 62 = .ok (.lushr, 1) := by decide +kernel
theorem dX7_feed_63 : decode cX7_feed 63 = .ok (.l2i, 1) := by decide +kernel
theorem dX7_feed_64 : decode cX7_feed 64 = .ok (.i2b, 1) := by decide +kernel
theorem dX7_feed_65 : decode cX7_feed 65 = .ok (.bastore, 1) := by decide +kernel
theorem dX7_feed_66 : decode cX7_feed 66 = .ok (.aload_n 0, 1) := by decide +kernel
theorem dX7_feed_67 : decode cX7_feed 67 = .ok (.getfield 10, 3) := by decide +kernel
theorem dX7_feed_70 : decode cX7_feed 70 = .ok (.dup, 1) := by decide +kernel
theorem dX7_feed_71 : decode cX7_feed 71 = .ok (.getfield 71, 3) := by decide +kernel
theorem dX7_feed_74 : decode cX7_feed 74 = .ok (.iconst 1, 1) := by decide +kernel
theorem dX7_feed_75 : decode cX7_feed 75 = .ok (.iadd, 1) := by decide +kernel
theorem dX7_feed_76 : decode cX7_feed 76 = .ok (.putfield 71, 3) := by decide +kernel
theorem dX7_feed_79 : decode cX7_feed 79 = .ok (.iinc 4 (-1), 3) := by decide +kernel
theorem dX7_feed_82 : decode cX7_feed 82 = .ok (.goto (-45), 3) := by decide +kernel
theorem dX7_feed_85 : decode cX7_feed 85 = .ok (.aload_n 0, 1) := by decide +kernel
theorem dX7_feed_86 : decode cX7_feed 86 = .ok (.getfield 10, 3) := by decide +kernel
theorem dX7_feed_89 : decode cX7_feed 89 = .ok (.getfield 71, 3) := by decide +kernel
theorem dX7_feed_92 : decode cX7_feed 92 = .ok (.ireturn, 1) := by decide +kernel
theorem dX7_key_0 : decode cX7_key 0 = .ok (.aload_n 0, 1) := by decide +kernel
theorem dX7_key_1 : decode cX7_key 1 = .ok (.getfield 10, 3) := by decide +kernel
theorem dX7_key_4 : decode cX7_key 4 = .ok (.getfield 75, 3) := by decide +kernel
theorem dX7_key_7 : decode cX7_key 7 = .ok (.iconst 0, 1) := by decide +kernel
theorem dX7_key_8 : decode cX7_key 8 = .ok (.aload_n 0, 1) := by decide +kernel
theorem dX7_key_9 : decode cX7_key 9 = .ok (.getfield 16, 3) := by decide +kernel
theorem dX7_key_12 : decode cX7_key 12 = .ok (.getfield 75, 3) := by decide +kernel
theorem dX7_key_15 : decode cX7_key 15 = .ok (.iconst 0, 1) := by decide +kernel
theorem dX7_key_16 : decode cX7_key 16 = .ok (.aload_n 0, 1) := by decide +kernel
theorem dX7_key_17 : decode cX7_key 17 = .ok (.getfield 10, 3) := by decide +kernel
theorem dX7_key_20 : decode cX7_key 20 = .ok (.getfield 71, 3) := by decide +kernel
theorem dX7_key_23 : decode cX7_key 23 = .ok (.invokestatic 78, 3) := by decide +kernel
theorem dX7_key_26 : decode cX7_key 26 = .ok (.aload_n 0, 1) := by decide +kernel
theorem dX7_key_27 : decode cX7_key 27 = .ok (.getfield 16, 3) := by decide +kernel
theorem dX7_key_30 : decode cX7_key 30 = .ok (.aload_n 0, 1) := by decide +kernel
theorem dX7_key_31 : decode cX7_key 31 = .ok (.getfield 10, 3) := by decide +kernel
theorem dX7_key_34 : decode cX7_key 34 = .ok (.getfield 71, 3) := by decide +kernel
theorem dX7_key_37 : decode cX7_key 37 = .ok (.putfield 71, 3) := by decide +kernel
theorem dX7_key_40 : decode cX7_key 40 = .ok (.aload_n 0, 1) := by decide +kernel
theorem dX7_key_41 : decode cX7_key 41 = .ok (.getfield 10, 3) := by decide +kernel
theorem dX7_key_44 : decode cX7_key 44 = .ok (.iconst 0, 1) := by decide +kernel
theorem dX7_key_45 : decode cX7_key 45 = .ok (.putfield 71, 3) := by decide +kernel
theorem dX7_key_48 : decode cX7_key 48 = .ok (.aload_n 0, 1) := by decide +kernel
theorem dX7_key_49 : decode cX7_key 49 = .ok (.getfield 16, 3) := by decide +kernel
theorem dX7_key_52 : decode cX7_key 52 = .ok (.getfield 71, 3) := by decide +kernel
theorem dX7_key_55 : decode cX7_key 55 = .ok (.ireturn, 1) := by decide +kernel
theorem dX7_digest_0 : decode cX7_digest 0 = .ok (.iload_n 1, 1) := by decide +kernel
theorem dX7_digest_1 : decode cX7_digest 1 = .ok (.invokestatic 84, 3) := by decide +kernel
theorem dX7_digest_4 : decode cX7_digest 4 = .ok (.ifCond .ne 6, 3) := by decide +kernel
theorem dX7_digest_7 : decode cX7_digest 7 = .ok (.bipush (-102), 2) := by decide +kernel
theorem dX7_digest_9 : decode cX7_digest 9 = .ok (.ireturn, 1) := by decide +kernel
theorem dX7_digest_10 : decode cX7_digest 10 = .ok (.aload_n 0, 1) := by decide +kernel
theorem dX7_digest_11 : decode cX7_digest 11 = .ok (.getfield 42, 3) := by decide +kernel
theorem dX7_digest_14 : decode cX7_digest 14 = .ok (.invokevirtual 88, 3) := by decide +kernel
theorem dX7_digest_17 : decode cX7_digest 17 = .ok (.ifCond .eq 6, 3) := by decide +kernel
theorem dX7_digest_20 : decode cX7_digest 20 = .ok (.bipush (-103), 2) := by decide +kernel
theorem dX7_digest_22 : decode cX7_digest 22 = .ok (.ireturn, 1) := by decide +kernel
theorem dX7_digest_23 : decode cX7_digest 23 = .ok (.aload_n 0, 1) := by decide +kernel
theorem dX7_digest_24 : decode cX7_digest 24 = .ok (.getfield 31, 3) := by decide +kernel
theorem dX7_digest_27 : decode cX7_digest 27 = .ok (.iload_n 1, 1) := by decide +kernel
theorem dX7_digest_28 : decode cX7_digest 28 = .ok (.aload_n 0, 1) := by decide +kernel
theorem dX7_digest_29 : decode cX7_digest 29 = .ok (.getfield 16, 3) := by decide +kernel
theorem dX7_digest_32 : decode cX7_digest 32 = .ok (.invokevirtual 92, 3) := by decide +kernel
theorem dX7_digest_35 : decode cX7_digest 35 = .ok (.aload_n 0, 1) := by decide +kernel
theorem dX7_digest_36 : decode cX7_digest 36 = .ok (.getfield 31, 3) := by decide +kernel
theorem dX7_digest_39 : decode cX7_digest 39 = .ok (.aload_n 0, 1) := by decide +kernel
theorem dX7_digest_40 : decode cX7_digest 40 = .ok (.getfield 10, 3) := by decide +kernel
theorem dX7_digest_43 : decode cX7_digest 43 = .ok (.invokevirtual 96, 3) := by decide +kernel
theorem dX7_digest_46 : decode cX7_digest 46 = .ok (.aload_n 0, 1) := by decide +kernel
theorem dX7_digest_47 : decode cX7_digest 47 = .ok (.getfield 10, 3) := by decide +kernel
theorem dX7_digest_50 : decode cX7_digest 50 = .ok (.iconst 0, 1) := by decide +kernel
theorem dX7_digest_51 : decode cX7_digest 51 = .ok (.putfield 71, 3) := by decide +kernel
theorem dX7_digest_54 : decode cX7_digest 54 = .ok (.aload_n 0, 1) := by decide +kernel
theorem dX7_digest_55 : decode cX7_digest 55 = .ok (.getfield 31, 3) := by decide +kernel
theorem dX7_digest_58 : decode cX7_digest 58 = .ok (.aload_n 0, 1) := by decide +kernel
theorem dX7_digest_59 : decode cX7_digest 59 = .ok (.getfield 42, 3) := by decide +kernel
theorem dX7_digest_62 : decode cX7_digest 62 = .ok (.invokevirtual 100, 3) := by decide +kernel
theorem dX7_digest_65 : decode cX7_digest 65 = .ok (.ireturn, 1) := by decide +kernel
theorem dX7_open_0 : decode cX7_open 0 = .ok (.iload_n 1, 1) := by decide +kernel
theorem dX7_open_1 : decode cX7_open 1 = .ok (.invokestatic 104, 3) := by decide +kernel
theorem dX7_open_4 : decode cX7_open 4 = .ok (.ifCond .eq 10, 3) := by decide +kernel
theorem dX7_open_7 : decode cX7_open 7 = .ok (.iload_n 2, 1) := by decide +kernel
theorem dX7_open_8 : decode cX7_open 8 = .ok (.invokestatic 84, 3) := by decide +kernel
theorem dX7_open_11 : decode cX7_open 11 = .ok (.ifCond .ne 6, 3) := by decide +kernel
theorem dX7_open_14 : decode cX7_open 14 = .ok (.bipush (-102), 2) := by decide +kernel
theorem dX7_open_16 : decode cX7_open 16 = .ok (.ireturn, 1) := by decide +kernel
theorem dX7_open_17 : decode cX7_open 17 = .ok (.aload_n 0, 1) := by decide +kernel
theorem dX7_open_18 : decode cX7_open 18 = .ok (.getfield 35, 3) := by decide +kernel
theorem dX7_open_21 : decode cX7_open 21 = .ok (.iload_n 1, 1) := by decide +kernel
theorem dX7_open_22 : decode cX7_open 22 = .ok (.aaload, 1) := by decide +kernel
theorem dX7_open_23 : decode cX7_open 23 = .ok (.getfield 107, 3) := by decide +kernel
theorem dX7_open_26 : decode cX7_open 26 = .ok (.ifCond .eq 6, 3) := by decide +kernel
theorem dX7_open_29 : decode cX7_open 29 = .ok (.bipush (-104), 2) := by decide +kernel
theorem dX7_open_31 : decode cX7_open 31 = .ok (.ireturn, 1) := by decide +kernel
theorem dX7_open_32 : decode cX7_open 32 = .ok (.aload_n 0, 1) := by decide +kernel
theorem dX7_open_33 : decode cX7_open 33 = .ok (.getfield 35, 3) := by decide +kernel
theorem dX7_open_36 : decode cX7_open 36 = .ok (.iload_n 1, 1) := by decide +kernel
theorem dX7_open_37 : decode cX7_open 37 = .ok (.aaload, 1) := by decide +kernel
theorem dX7_open_38 : decode cX7_open 38 = .ok (.iload_n 2, 1) := by decide +kernel
theorem dX7_open_39 : decode cX7_open 39 = .ok (.aload_n 0, 1) := by decide +kernel
theorem dX7_open_40 : decode cX7_open 40 = .ok (.getfield 16, 3) := by decide +kernel
theorem dX7_open_43 : decode cX7_open 43 = .ok (.invokevirtual 92, 3) := by decide +kernel
theorem dX7_open_46 : decode cX7_open 46 = .ok (.aload_n 0, 1) := by decide +kernel
theorem dX7_open_47 : decode cX7_open 47 = .ok (.getfield 35, 3) := by decide +kernel
theorem dX7_open_50 : decode cX7_open 50 = .ok (.iload_n 1, 1) := by decide +kernel
theorem dX7_open_51 : decode cX7_open 51 = .ok (.aaload, 1) := by decide +kernel
theorem dX7_open_52 : decode cX7_open 52 = .ok (.iconst 1, 1) := by decide +kernel
theorem dX7_open_53 : decode cX7_open 53 = .ok (.putfield 107, 3) := by decide +kernel
theorem dX7_open_56 : decode cX7_open 56 = .ok (.iconst 1, 1) := by decide +kernel
theorem dX7_open_57 : decode cX7_open 57 = .ok (.ireturn, 1) := by decide +kernel
theorem dX7_more_0 : decode cX7_more 0 = .ok (.iload_n 1, 1) := by decide +kernel
theorem dX7_more_1 : decode cX7_more 1 = .ok (.invokestatic 104, 3) := by decide +kernel
theorem dX7_more_4 : decode cX7_more 4 = .ok (.ifCond .ne 6, 3) := by decide +kernel
theorem dX7_more_7 : decode cX7_more 7 = .ok (.bipush (-102), 2) := by decide +kernel
theorem dX7_more_9 : decode cX7_more 9 = .ok (.ireturn, 1) := by decide +kernel
theorem dX7_more_10 : decode cX7_more 10 = .ok (.aload_n 0, 1) := by decide +kernel
theorem dX7_more_11 : decode cX7_more 11 = .ok (.getfield 35, 3) := by decide +kernel
theorem dX7_more_14 : decode cX7_more 14 = .ok (.iload_n 1, 1) := by decide +kernel
theorem dX7_more_15 : decode cX7_more 15 = .ok (.aaload, 1) := by decide +kernel
theorem dX7_more_16 : decode cX7_more 16 = .ok (.astore_n 2, 1) := by decide +kernel
theorem dX7_more_17 : decode cX7_more 17 = .ok (.aload_n 2, 1) := by decide +kernel
theorem dX7_more_18 : decode cX7_more 18 = .ok (.getfield 107, 3) := by decide +kernel
theorem dX7_more_21 : decode cX7_more 21 = .ok (.ifCond .ne 6, 3) := by decide +kernel
theorem dX7_more_24 : decode cX7_more 24 = .ok (.bipush (-104), 2) := by decide +kernel
theorem dX7_more_26 : decode cX7_more 26 = .ok (.ireturn, 1) := by decide +kernel
theorem dX7_more_27 : decode cX7_more 27 = .ok (.aload_n 0, 1) := by decide +kernel
theorem dX7_more_28 : decode cX7_more 28 = .ok (.getfield 10, 3) := by decide +kernel
theorem dX7_more_31 : decode cX7_more 31 = .ok (.getfield 71, 3) := by decide +kernel
theorem dX7_more_34 : decode cX7_more 34 = .ok (.sipush 2000, 3) := by decide +kernel
theorem dX7_more_37 : decode cX7_more 37 = .ok (.aload_n 2, 1) := by decide +kernel
theorem dX7_more_38 : decode cX7_more 38 = .ok (.getfield 111, 3) := by decide +kernel
theorem dX7_more_41 : decode cX7_more 41 = .ok (.isub, 1) := by decide +kernel
theorem dX7_more_42 : decode cX7_more 42 = .ok (.if_icmp .le 6, 3) := by decide +kernel
theorem dX7_more_45 : decode cX7_more 45 = .ok (.bipush (-103), 2) := by decide +kernel
theorem dX7_more_47 : decode cX7_more 47 = .ok (.ireturn, 1) := by decide +kernel
theorem dX7_more_48 : decode cX7_more 48 = .ok (.aload_n 2, 1) := by decide +kernel
theorem dX7_more_49 : decode cX7_more 49 = .ok (.aload_n 0, 1) := by decide +kernel
theorem dX7_more_50 : decode cX7_more 50 = .ok (.getfield 10, 3) := by decide +kernel
theorem dX7_more_53 : decode cX7_more 53 = .ok (.invokevirtual 96, 3) := by decide +kernel
theorem dX7_more_56 : decode cX7_more 56 = .ok (.aload_n 0, 1) := by decide +kernel
theorem dX7_more_57 : decode cX7_more 57 = .ok (.getfield 10, 3) := by decide +kernel
theorem dX7_more_60 : decode cX7_more 60 = .ok (.iconst 0, 1) := by decide +kernel
theorem dX7_more_61 : decode cX7_more 61 = .ok (.putfield 71, 3) := by decide +kernel
theorem dX7_more_64 : decode cX7_more 64 = .ok (.aload_n 2, 1) := by decide +kernel
theorem dX7_more_65 : decode cX7_more 65 = .ok (.getfield 111, 3) := by decide +kernel
theorem dX7_more_68 : decode cX7_more 68 = .ok (.ireturn, 1) := by decide +kernel
theorem dX7_end_0 : decode cX7_end 0 = .ok (.iload_n 1, 1) := by decide +kernel
theorem dX7_end_1 : decode cX7_end 1 = .ok (.invokestatic 104, 3) := by decide +kernel
theorem dX7_end_4 : decode cX7_end 4 = .ok (.ifCond .ne 6, 3) := by decide +kernel
theorem dX7_end_7 : decode cX7_end 7 = .ok (.bipush (-102), 2) := by decide +kernel
theorem dX7_end_9 : decode cX7_end 9 = .ok (.ireturn, 1) := by decide +kernel
theorem dX7_end_10 : decode cX7_end 10 = .ok (.aload_n 0, 1) := by decide +kernel
theorem dX7_end_11 : decode cX7_end 11 = .ok (.getfield 35, 3) := by decide +kernel
theorem dX7_end_14 : decode cX7_end 14 = .ok (.iload_n 1, 1) := by decide +kernel
theorem dX7_end_15 : decode cX7_end 15 = .ok (.aaload, 1) := by decide +kernel
theorem dX7_end_16 : decode cX7_end 16 = .ok (.getfield 107, 3) := by decide +kernel
theorem dX7_end_19 : decode cX7_end 19 = .ok (.ifCond .ne 6, 3) := by decide +kernel
theorem dX7_end_22 : decode cX7_end 22 = .ok (.bipush (-104), 2) := by decide +kernel
theorem dX7_end_24 : decode cX7_end 24 = .ok (.ireturn, 1) := by decide +kernel
theorem dX7_end_25 : decode cX7_end 25 = .ok (.aload_n 0, 1) := by decide +kernel
theorem dX7_end_26 : decode cX7_end 26 = .ok (.getfield 42, 3) := by decide +kernel
theorem dX7_end_29 : decode cX7_end 29 = .ok (.invokevirtual 88, 3) := by decide +kernel
theorem dX7_end_32 : decode cX7_end 32 = .ok (.ifCond .eq 6, 3) := by decide +kernel
theorem dX7_end_35 : decode cX7_end 35 = .ok (.bipush (-103), 2) := by decide +kernel
theorem dX7_end_37 : decode cX7_end 37 = .ok (.ireturn, 1) := by decide +kernel
theorem dX7_end_38 : decode cX7_end 38 = .ok (.aload_n 0, 1) := by decide +kernel
theorem dX7_end_39 : decode cX7_end 39 = .ok (.getfield 35, 3) := by decide +kernel
theorem dX7_end_42 : decode cX7_end 42 = .ok (.iload_n 1, 1) := by decide +kernel
theorem dX7_end_43 : decode cX7_end 43 = .ok (.aaload, 1) := by decide +kernel
theorem dX7_end_44 : decode cX7_end 44 = .ok (.iconst 0, 1) := by decide +kernel
theorem dX7_end_45 : decode cX7_end 45 = .ok (.putfield 107, 3) := by decide +kernel
theorem dX7_end_48 : decode cX7_end 48 = .ok (.aload_n 0, 1) := by decide +kernel
theorem dX7_end_49 : decode cX7_end 49 = .ok (.getfield 35, 3) := by decide +kernel
theorem dX7_end_52 : decode cX7_end 52 = .ok (.iload_n 1, 1) := by decide +kernel
theorem dX7_end_53 : decode cX7_end 53 = .ok (.aaload, 1) := by decide +kernel
theorem dX7_end_54 : decode cX7_end 54 = .ok (.aload_n 0, 1) := by decide +kernel
theorem dX7_end_55 : decode cX7_end 55 = .ok (.getfield 42, 3) := by decide +kernel
theorem dX7_end_58 : decode cX7_end 58 = .ok (.invokevirtual 100, 3) := by decide +kernel
theorem dX7_end_61 : decode cX7_end 61 = .ok (.ireturn, 1) := by decide +kernel
theorem dX7_told_0 : decode cX7_told 0 = .ok (.aload_n 0, 1) := by decide +kernel
theorem dX7_told_1 : decode cX7_told 1 = .ok (.getfield 42, 3) := by decide +kernel
theorem dX7_told_4 : decode cX7_told 4 = .ok (.iload_n 1, 1) := by decide +kernel
theorem dX7_told_5 : decode cX7_told 5 = .ok (.invokevirtual 114, 3) := by decide +kernel
theorem dX7_told_8 : decode cX7_told 8 = .ok (.ifCond .ne 6, 3) := by decide +kernel
theorem dX7_told_11 : decode cX7_told 11 = .ok (.bipush (-101), 2) := by decide +kernel
theorem dX7_told_13 : decode cX7_told 13 = .ok (.ireturn, 1) := by decide +kernel
theorem dX7_told_14 : decode cX7_told 14 = .ok (.iload_n 2, 1) := by decide +kernel
theorem dX7_told_15 : decode cX7_told 15 = .ok (.tableswitch 58 0 2 #[25, 35, 48], 25) := by decide +kernel
theorem dX7_told_40 : decode cX7_told 40 = .ok (.aload_n 0, 1) := by decide +kernel
theorem dX7_told_41 : decode cX7_told 41 = .ok (.getfield 42, 3) := by decide +kernel
theorem dX7_told_44 : decode cX7_told 44 = .ok (.getfield 117, 3) := by decide +kernel
theorem dX7_told_47 : decode cX7_told 47 = .ok (.iload_n 1, 1) := by decide +kernel
theorem dX7_told_48 : decode cX7_told 48 = .ok (.iaload, 1) := by decide +kernel
theorem dX7_told_49 : decode cX7_told 49 = .ok (.ireturn, 1) := by decide +kernel
theorem dX7_told_50 : decode cX7_told 50 = .ok (.aload_n 0, 1) := by decide +kernel
theorem dX7_told_51 : decode cX7_told 51 = .ok (.getfield 42, 3) := by decide +kernel
theorem dX7_told_54 : decode cX7_told 54 = .ok (.getfield 117, 3) := by decide +kernel
theorem dX7_told_57 : decode cX7_told 57 = .ok (.iload_n 1, 1) := by decide +kernel
theorem dX7_told_58 : decode cX7_told 58 = .ok (.iaload, 1) := by decide +kernel
theorem dX7_told_59 : decode cX7_told 59 = .ok (.invokestatic 121, 3) := by decide +kernel
theorem dX7_told_62 : decode cX7_told 62 = .ok (.ireturn, 1) := by decide +kernel
theorem dX7_told_63 : decode cX7_told 63 = .ok (.aload_n 0, 1) := by decide +kernel
theorem dX7_told_64 : decode cX7_told 64 = .ok (.getfield 42, 3) := by decide +kernel
theorem dX7_told_67 : decode cX7_told 67 = .ok (.getfield 125, 3) := by decide +kernel
theorem dX7_told_70 : decode cX7_told 70 = .ok (.iload_n 1, 1) := by decide +kernel
theorem dX7_told_71 : decode cX7_told 71 = .ok (.iaload, 1) := by decide +kernel
theorem dX7_told_72 : decode cX7_told 72 = .ok (.ireturn, 1) := by decide +kernel
theorem dX7_told_73 : decode cX7_told 73 = .ok (.bipush (-102), 2) := by decide +kernel
theorem dX7_told_75 : decode cX7_told 75 = .ok (.ireturn, 1) := by decide +kernel
theorem dX7_read_0 : decode cX7_read 0 = .ok (.aload_n 0, 1) := by decide +kernel
theorem dX7_read_1 : decode cX7_read 1 = .ok (.getfield 42, 3) := by decide +kernel
theorem dX7_read_4 : decode cX7_read 4 = .ok (.iload_n 1, 1) := by decide +kernel
theorem dX7_read_5 : decode cX7_read 5 = .ok (.invokevirtual 114, 3) := by decide +kernel
theorem dX7_read_8 : decode cX7_read 8 = .ok (.ifCond .ne 7, 3) := by decide +kernel
theorem dX7_read_11 : decode cX7_read 11 = .ok (.ldc2_w 128, 3) := by decide +kernel
theorem dX7_read_14 : decode cX7_read 14 = .ok (.lreturn, 1) := by decide +kernel
theorem dX7_read_15 : decode cX7_read 15 = .ok (.iload_n 2, 1) := by decide +kernel
theorem dX7_read_16 : decode cX7_read 16 = .ok (.ifCond .lt 11, 3) := by decide +kernel
theorem dX7_read_19 : decode cX7_read 19 = .ok (.iload_n 2, 1) := by decide +kernel
theorem dX7_read_20 : decode cX7_read 20 = .ok (.getstatic 130, 3) := by decide +kernel
theorem dX7_read_23 : decode cX7_read 23 = .ok (.arraylength, 1) := by decide +kernel
theorem dX7_read_24 : decode cX7_read 24 = .ok (.if_icmp .lt 7, 3) := by decide +kernel
theorem dX7_read_27 : decode cX7_read 27 = .ok (.ldc2_w 133, 3) := by decide +kernel
theorem dX7_read_30 : decode cX7_read 30 = .ok (.lreturn, 1) := by decide +kernel
theorem dX7_read_31 : decode cX7_read 31 = .ok (.getstatic 130, 3) := by decide +kernel
theorem dX7_read_34 : decode cX7_read 34 = .ok (.iload_n 2, 1) := by decide +kernel
theorem dX7_read_35 : decode cX7_read 35 = .ok (.iaload, 1) := by decide +kernel
theorem dX7_read_36 : decode cX7_read 36 = .ok (.istore 4, 2) := by decide +kernel
theorem dX7_read_38 : decode cX7_read 38 = .ok (.iload_n 3, 1) := by decide +kernel
theorem dX7_read_39 : decode cX7_read 39 = .ok (.ifCond .lt 22, 3) := by decide +kernel
theorem dX7_read_42 : decode cX7_read 42 = .ok (.iload_n 3, 1) := by decide +kernel
theorem dX7_read_43 : decode cX7_read 43 = .ok (.aload_n 0, 1) := by decide +kernel
theorem dX7_read_44 : decode cX7_read 44 = .ok (.getfield 42, 3) := by decide +kernel
theorem dX7_read_47 : decode cX7_read 47 = .ok (.getfield 117, 3) := by decide +kernel
theorem dX7_read_50 : decode cX7_read 50 = .ok (.iload_n 1, 1) := by decide +kernel
theorem dX7_read_51 : decode cX7_read 51 = .ok (.iaload, 1) := by decide +kernel
theorem dX7_read_52 : decode cX7_read 52 = .ok (.invokestatic 121, 3) := by decide +kernel
theorem dX7_read_55 : decode cX7_read 55 = .ok (.iload 4, 2) := by decide +kernel
theorem dX7_read_57 : decode cX7_read 57 = .ok (.isub, 1) := by decide +kernel
theorem dX7_read_58 : decode cX7_read 58 = .ok (.if_icmp .le 13, 3) := by decide +kernel
theorem dX7_read_61 : decode cX7_read 61 = .ok (.new 135, 3) := by decide +kernel
theorem dX7_read_64 : decode cX7_read 64 = .ok (.dup, 1) := by decide +kernel
theorem dX7_read_65 : decode cX7_read 65 = .ok (.ldc 137, 2) := by decide +kernel
theorem dX7_read_67 : decode cX7_read 67 = .ok (.invokespecial 139, 3) := by decide +kernel
theorem dX7_read_70 : decode cX7_read 70 = .ok (.athrow, 1) := by decide +kernel
theorem dX7_read_71 : decode cX7_read 71 = .ok (.lconst 0, 1) := by decide +kernel
theorem dX7_read_72 : decode cX7_read 72 = .ok (.lstore 5, 2) := by decide +kernel
theorem dX7_read_74 : decode cX7_read 74 = .ok (.iconst 0, 1) := by decide +kernel
theorem dX7_read_75 : decode cX7_read 75 = .ok (.istore 7, 2) := by decide +kernel
theorem dX7_read_77 : decode cX7_read 77 = .ok (.iload 7, 2) := by decide +kernel
theorem dX7_read_79 : decode cX7_read 79 = .ok (.iload 4, 2) := by decide +kernel
theorem dX7_read_81 : decode cX7_read 81 = .ok (.if_icmp .ge 36, 3) := by decide +kernel
theorem dX7_read_84 : decode cX7_read 84 = .ok (.lload 5, 2) := by decide +kernel
theorem dX7_read_86 : decode cX7_read 86 = .ok (.bipush 8, 2) := by decide +kernel
theorem dX7_read_88 : decode cX7_read 88 = .ok (.lshl, 1) := by decide +kernel
theorem dX7_read_89 : decode cX7_read 89 = .ok (.aload_n 0, 1) := by decide +kernel
theorem dX7_read_90 : decode cX7_read 90 = .ok (.getfield 42, 3) := by decide +kernel
theorem dX7_read_93 : decode cX7_read 93 = .ok (.getfield 142, 3) := by decide +kernel
theorem dX7_read_96 : decode cX7_read 96 = .ok (.iload_n 1, 1) := by decide +kernel
theorem dX7_read_97 : decode cX7_read 97 = .ok (.aaload, 1) := by decide +kernel
theorem dX7_read_98 : decode cX7_read 98 = .ok (.iload_n 3, 1) := by decide +kernel
theorem dX7_read_99 : decode cX7_read 99 = .ok (.iload 7, 2) := by decide +kernel
theorem dX7_read_101 : decode cX7_read 101 = .ok (.iadd, 1) := by decide +kernel
theorem dX7_read_102 : decode cX7_read 102 = .ok (.baload, 1) := by decide +kernel
theorem dX7_read_103 : decode cX7_read 103 = .ok (.sipush 255, 3) := by decide +kernel
theorem dX7_read_106 : decode cX7_read 106 = .ok (.iand, 1) := by decide +kernel
theorem dX7_read_107 : decode cX7_read 107 = .ok (.i2l, 1) := by decide +kernel
theorem dX7_read_108 : decode cX7_read 108 = .ok (.lor, 1) := by decide +kernel
theorem dX7_read_109 : decode cX7_read 109 = .ok (.lstore 5, 2) := by decide +kernel
theorem dX7_read_111 : decode cX7_read 111 = .ok (.iinc 7 1, 3) := by decide +kernel
theorem dX7_read_114 : decode cX7_read 114 = .ok (.goto (-37), 3) := by decide +kernel
theorem dX7_read_117 : decode cX7_read 117 = .ok (.iload_n 2, 1) := by decide +kernel
theorem dX7_read_118 : decode cX7_read 118 = .ok (.lload 5, 2) := by decide +kernel
theorem dX7_read_120 : decode cX7_read 120 = .ok (.invokestatic 146, 3) := by decide +kernel
theorem dX7_read_123 : decode cX7_read 123 = .ok (.lreturn, 1) := by decide +kernel
theorem dX7_plan_0 : decode cX7_plan 0 = .ok (.aload_n 0, 1) := by decide +kernel
theorem dX7_plan_1 : decode cX7_plan 1 = .ok (.getfield 42, 3) := by decide +kernel
theorem dX7_plan_4 : decode cX7_plan 4 = .ok (.iload_n 1, 1) := by decide +kernel
theorem dX7_plan_5 : decode cX7_plan 5 = .ok (.invokevirtual 114, 3) := by decide +kernel
theorem dX7_plan_8 : decode cX7_plan 8 = .ok (.ifCond .ne 7, 3) := by decide +kernel
theorem dX7_plan_11 : decode cX7_plan 11 = .ok (.ldc2_w 128, 3) := by decide +kernel
theorem dX7_plan_14 : decode cX7_plan 14 = .ok (.lreturn, 1) := by decide +kernel
theorem dX7_plan_15 : decode cX7_plan 15 = .ok (.iload_n 2, 1) := by decide +kernel
theorem dX7_plan_16 : decode cX7_plan 16 = .ok (.ifCond .lt 9, 3) := by decide +kernel
theorem dX7_plan_19 : decode cX7_plan 19 = .ok (.iload_n 2, 1) := by decide +kernel
theorem dX7_plan_20 : decode cX7_plan 20 = .ok (.bipush 64, 2) := by decide +kernel
theorem dX7_plan_22 : decode cX7_plan 22 = .ok (.if_icmp .lt 13, 3) := by decide +kernel
theorem dX7_plan_25 : decode cX7_plan 25 = .ok (.new 135, 3) := by decide +kernel
theorem dX7_plan_28 : decode cX7_plan 28 = .ok (.dup, 1) := by decide +kernel
theorem dX7_plan_29 : decode cX7_plan 29 = .ok (.ldc 150, 2) := by decide +kernel
theorem dX7_plan_31 : decode cX7_plan 31 = .ok (.invokespecial 139, 3) := by decide +kernel
theorem dX7_plan_34 : decode cX7_plan 34 = .ok (.athrow, 1) := by decide +kernel
theorem dX7_plan_35 : decode cX7_plan 35 = .ok (.aload_n 0, 1) := by decide +kernel
theorem dX7_plan_36 : decode cX7_plan 36 = .ok (.getfield 42, 3) := by decide +kernel
theorem dX7_plan_39 : decode cX7_plan 39 = .ok (.iload_n 1, 1) := by decide +kernel
theorem dX7_plan_40 : decode cX7_plan 40 = .ok (.iload_n 2, 1) := by decide +kernel
theorem dX7_plan_41 : decode cX7_plan 41 = .ok (.invokevirtual 152, 3) := by decide +kernel
theorem dX7_plan_44 : decode cX7_plan 44 = .ok (.i2l, 1) := by decide +kernel
theorem dX7_plan_45 : decode cX7_plan 45 = .ok (.lreturn, 1) := by decide +kernel
theorem dX7_same_0 : decode cX7_same 0 = .ok (.aload_n 0, 1) := by decide +kernel
theorem dX7_same_1 : decode cX7_same 1 = .ok (.getfield 42, 3) := by decide +kernel
theorem dX7_same_4 : decode cX7_same 4 = .ok (.iload_n 1, 1) := by decide +kernel
theorem dX7_same_5 : decode cX7_same 5 = .ok (.invokevirtual 114, 3) := by decide +kernel
theorem dX7_same_8 : decode cX7_same 8 = .ok (.ifCond .eq 14, 3) := by decide +kernel
theorem dX7_same_11 : decode cX7_same 11 = .ok (.aload_n 0, 1) := by decide +kernel
theorem dX7_same_12 : decode cX7_same 12 = .ok (.getfield 42, 3) := by decide +kernel
theorem dX7_same_15 : decode cX7_same 15 = .ok (.iload_n 2, 1) := by decide +kernel
theorem dX7_same_16 : decode cX7_same 16 = .ok (.invokevirtual 114, 3) := by decide +kernel
theorem dX7_same_19 : decode cX7_same 19 = .ok (.ifCond .ne 6, 3) := by decide +kernel
theorem dX7_same_22 : decode cX7_same 22 = .ok (.bipush (-101), 2) := by decide +kernel
theorem dX7_same_24 : decode cX7_same 24 = .ok (.ireturn, 1) := by decide +kernel
theorem dX7_same_25 : decode cX7_same 25 = .ok (.aload_n 0, 1) := by decide +kernel
theorem dX7_same_26 : decode cX7_same 26 = .ok (.getfield 42, 3) := by decide +kernel
theorem dX7_same_29 : decode cX7_same 29 = .ok (.getfield 117, 3) := by decide +kernel
theorem dX7_same_32 : decode cX7_same 32 = .ok (.iload_n 1, 1) := by decide +kernel
theorem dX7_same_33 : decode cX7_same 33 = .ok (.iaload, 1) := by decide +kernel
theorem dX7_same_34 : decode cX7_same 34 = .ok (.invokestatic 121, 3) := by decide +kernel
theorem dX7_same_37 : decode cX7_same 37 = .ok (.istore_n 3, 1) := by decide +kernel
theorem dX7_same_38 : decode cX7_same 38 = .ok (.iload_n 3, 1) := by decide +kernel
theorem dX7_same_39 : decode cX7_same 39 = .ok (.aload_n 0, 1) := by decide +kernel
theorem dX7_same_40 : decode cX7_same 40 = .ok (.getfield 42, 3) := by decide +kernel
theorem dX7_same_43 : decode cX7_same 43 = .ok (.getfield 117, 3) := by decide +kernel
theorem dX7_same_46 : decode cX7_same 46 = .ok (.iload_n 2, 1) := by decide +kernel
theorem dX7_same_47 : decode cX7_same 47 = .ok (.iaload, 1) := by decide +kernel
theorem dX7_same_48 : decode cX7_same 48 = .ok (.invokestatic 121, 3) := by decide +kernel
theorem dX7_same_51 : decode cX7_same 51 = .ok (.if_icmp .eq 5, 3) := by decide +kernel
theorem dX7_same_54 : decode cX7_same 54 = .ok (.iconst 0, 1) := by decide +kernel
theorem dX7_same_55 : decode cX7_same 55 = .ok (.ireturn, 1) := by decide +kernel
theorem dX7_same_56 : decode cX7_same 56 = .ok (.aload_n 0, 1) := by decide +kernel
theorem dX7_same_57 : decode cX7_same 57 = .ok (.getfield 42, 3) := by decide +kernel
theorem dX7_same_60 : decode cX7_same 60 = .ok (.getfield 142, 3) := by decide +kernel
theorem dX7_same_63 : decode cX7_same 63 = .ok (.iload_n 1, 1) := by decide +kernel
theorem dX7_same_64 : decode cX7_same 64 = .ok (.aaload, 1) := by decide +kernel
theorem dX7_same_65 : decode cX7_same 65 = .ok (.aload_n 0, 1) := by decide +kernel
theorem dX7_same_66 : decode cX7_same 66 = .ok (.getfield 42, 3) := by decide +kernel
theorem dX7_same_69 : decode cX7_same 69 = .ok (.getfield 142, 3) := by decide +kernel
theorem dX7_same_72 : decode cX7_same 72 = .ok (.iload_n 2, 1) := by decide +kernel
theorem dX7_same_73 : decode cX7_same 73 = .ok (.aaload, 1) := by decide +kernel
theorem dX7_same_74 : decode cX7_same 74 = .ok (.iload_n 3, 1) := by decide +kernel
theorem dX7_same_75 : decode cX7_same 75 = .ok (.invokestatic 156, 3) := by decide +kernel
theorem dX7_same_78 : decode cX7_same 78 = .ok (.ifCond .eq 7, 3) := by decide +kernel
theorem dX7_same_81 : decode cX7_same 81 = .ok (.iconst 1, 1) := by decide +kernel
theorem dX7_same_82 : decode cX7_same 82 = .ok (.goto 4, 3) := by decide +kernel
theorem dX7_same_85 : decode cX7_same 85 = .ok (.iconst 0, 1) := by decide +kernel
theorem dX7_same_86 : decode cX7_same 86 = .ok (.ireturn, 1) := by decide +kernel
theorem dX7_table_0 : decode cX7_table 0 = .ok (.iload_n 1, 1) := by decide +kernel
theorem dX7_table_1 : decode cX7_table 1 = .ok (.ifCond .lt 9, 3) := by decide +kernel
theorem dX7_table_4 : decode cX7_table 4 = .ok (.iload_n 1, 1) := by decide +kernel
theorem dX7_table_5 : decode cX7_table 5 = .ok (.bipush 64, 2) := by decide +kernel
theorem dX7_table_7 : decode cX7_table 7 = .ok (.if_icmp .lt 13, 3) := by decide +kernel
theorem dX7_table_10 : decode cX7_table 10 = .ok (.new 135, 3) := by decide +kernel
theorem dX7_table_13 : decode cX7_table 13 = .ok (.dup, 1) := by decide +kernel
theorem dX7_table_14 : decode cX7_table 14 = .ok (.ldc 160, 2) := by decide +kernel
theorem dX7_table_16 : decode cX7_table 16 = .ok (.invokespecial 139, 3) := by decide +kernel
theorem dX7_table_19 : decode cX7_table 19 = .ok (.athrow, 1) := by decide +kernel
theorem dX7_table_20 : decode cX7_table 20 = .ok (.getstatic 162, 3) := by decide +kernel
theorem dX7_table_23 : decode cX7_table 23 = .ok (.iload_n 1, 1) := by decide +kernel
theorem dX7_table_24 : decode cX7_table 24 = .ok (.iaload, 1) := by decide +kernel
theorem dX7_table_25 : decode cX7_table 25 = .ok (.ireturn, 1) := by decide +kernel
theorem dX7_leaf_0 : decode cX7_leaf 0 = .ok (.iload_n 1, 1) := by decide +kernel
theorem dX7_leaf_1 : decode cX7_leaf 1 = .ok (.invokestatic 165, 3) := by decide +kernel
theorem dX7_leaf_4 : decode cX7_leaf 4 = .ok (.ifCond .eq 11, 3) := by decide +kernel
theorem dX7_leaf_7 : decode cX7_leaf 7 = .ok (.aload_n 0, 1) := by decide +kernel
theorem dX7_leaf_8 : decode cX7_leaf 8 = .ok (.iload_n 2, 1) := by decide +kernel
theorem dX7_leaf_9 : decode cX7_leaf 9 = .ok (.invokevirtual 168, 3) := by decide +kernel
theorem dX7_leaf_12 : decode cX7_leaf 12 = .ok (.ifCond .ne 6, 3) := by decide +kernel
theorem dX7_leaf_15 : decode cX7_leaf 15 = .ok (.bipush (-102), 2) := by decide +kernel
theorem dX7_leaf_17 : decode cX7_leaf 17 = .ok (.ireturn, 1) := by decide +kernel
theorem dX7_leaf_18 : decode cX7_leaf 18 = .ok (.aload_n 0, 1) := by decide +kernel
theorem dX7_leaf_19 : decode cX7_leaf 19 = .ok (.getfield 48, 3) := by decide +kernel
theorem dX7_leaf_22 : decode cX7_leaf 22 = .ok (.iload_n 1, 1) := by decide +kernel
theorem dX7_leaf_23 : decode cX7_leaf 23 = .ok (.aaload, 1) := by decide +kernel
theorem dX7_leaf_24 : decode cX7_leaf 24 = .ok (.astore_n 3, 1) := by decide +kernel
theorem dX7_leaf_25 : decode cX7_leaf 25 = .ok (.aload_n 3, 1) := by decide +kernel
theorem dX7_leaf_26 : decode cX7_leaf 26 = .ok (.getfield 171, 3) := by decide +kernel
theorem dX7_leaf_29 : decode cX7_leaf 29 = .ok (.bipush 12, 2) := by decide +kernel
theorem dX7_leaf_31 : decode cX7_leaf 31 = .ok (.if_icmp .lt 6, 3) := by decide +kernel
theorem dX7_leaf_34 : decode cX7_leaf 34 = .ok (.bipush (-103), 2) := by decide +kernel
theorem dX7_leaf_36 : decode cX7_leaf 36 = .ok (.ireturn, 1) := by decide +kernel
theorem dX7_leaf_37 : decode cX7_leaf 37 = .ok (.aload_n 0, 1) := by decide +kernel
theorem dX7_leaf_38 : decode cX7_leaf 38 = .ok (.aload_n 3, 1) := by decide +kernel
theorem dX7_leaf_39 : decode cX7_leaf 39 = .ok (.aload_n 3, 1) := by decide +kernel
theorem dX7_leaf_40 : decode cX7_leaf 40 = .ok (.getfield 171, 3) := by decide +kernel
theorem dX7_leaf_43 : decode cX7_leaf 43 = .ok (.iload_n 2, 1) := by decide +kernel
theorem dX7_leaf_44 : decode cX7_leaf 44 = .ok (.invokevirtual 174, 3) := by decide +kernel
theorem dX7_leaf_47 : decode cX7_leaf 47 = .ok (.aload_n 3, 1) := by decide +kernel
theorem dX7_leaf_48 : decode cX7_leaf 48 = .ok (.dup, 1) := by decide +kernel
theorem dX7_leaf_49 : decode cX7_leaf 49 = .ok (.getfield 171, 3) := by decide +kernel
theorem dX7_leaf_52 : decode cX7_leaf 52 = .ok (.iconst 1, 1) := by decide +kernel
theorem dX7_leaf_53 : decode cX7_leaf 53 = .ok (.iadd, 1) := by decide +kernel
theorem dX7_leaf_54 : decode cX7_leaf 54 = .ok (.putfield 171, 3) := by decide +kernel
theorem dX7_leaf_57 : decode cX7_leaf 57 = .ok (.aload_n 3, 1) := by decide +kernel
theorem dX7_leaf_58 : decode cX7_leaf 58 = .ok (.getfield 171, 3) := by decide +kernel
theorem dX7_leaf_61 : decode cX7_leaf 61 = .ok (.ireturn, 1) := by decide +kernel
theorem dX7_change_0 : decode cX7_change 0 = .ok (.iload_n 1, 1) := by decide +kernel
theorem dX7_change_1 : decode cX7_change 1 = .ok (.invokestatic 165, 3) := by decide +kernel
theorem dX7_change_4 : decode cX7_change 4 = .ok (.ifCond .ne 6, 3) := by decide +kernel
theorem dX7_change_7 : decode cX7_change 7 = .ok (.bipush (-102), 2) := by decide +kernel
theorem dX7_change_9 : decode cX7_change 9 = .ok (.ireturn, 1) := by decide +kernel
theorem dX7_change_10 : decode cX7_change 10 = .ok (.aload_n 0, 1) := by decide +kernel
theorem dX7_change_11 : decode cX7_change 11 = .ok (.getfield 48, 3) := by decide +kernel
theorem dX7_change_14 : decode cX7_change 14 = .ok (.iload_n 1, 1) := by decide +kernel
theorem dX7_change_15 : decode cX7_change 15 = .ok (.aaload, 1) := by decide +kernel
theorem dX7_change_16 : decode cX7_change 16 = .ok (.iload_n 2, 1) := by decide +kernel
theorem dX7_change_17 : decode cX7_change 17 = .ok (.invokevirtual 178, 3) := by decide +kernel
theorem dX7_change_20 : decode cX7_change 20 = .ok (.ifCond .ne 6, 3) := by decide +kernel
theorem dX7_change_23 : decode cX7_change 23 = .ok (.bipush (-101), 2) := by decide +kernel
theorem dX7_change_25 : decode cX7_change 25 = .ok (.ireturn, 1) := by decide +kernel
theorem dX7_change_26 : decode cX7_change 26 = .ok (.aload_n 0, 1) := by decide +kernel
theorem dX7_change_27 : decode cX7_change 27 = .ok (.iload_n 3, 1) := by decide +kernel
theorem dX7_change_28 : decode cX7_change 28 = .ok (.invokevirtual 168, 3) := by decide +kernel
theorem dX7_change_31 : decode cX7_change 31 = .ok (.ifCond .ne 6, 3) := by decide +kernel
theorem dX7_change_34 : decode cX7_change 34 = .ok (.bipush (-102), 2) := by decide +kernel
theorem dX7_change_36 : decode cX7_change 36 = .ok (.ireturn, 1) := by decide +kernel
theorem dX7_change_37 : decode cX7_change 37 = .ok (.aload_n 0, 1) := by decide +kernel
theorem dX7_change_38 : decode cX7_change 38 = .ok (.getfield 48, 3) := by decide +kernel
theorem dX7_change_41 : decode cX7_change 41 = .ok (.iload_n 1, 1) := by decide +kernel
theorem dX7_change_42 : decode cX7_change 42 = .ok (.aaload, 1) := by decide +kernel
theorem dX7_change_43 : decode cX7_change 43 = .ok (.getfield 179, 3) := by decide +kernel
theorem dX7_change_46 : decode cX7_change 46 = .ok (.iload_n 2, 1) := by decide +kernel
theorem dX7_change_47 : decode cX7_change 47 = .ok (.iaload, 1) := by decide +kernel
theorem dX7_change_48 : decode cX7_change 48 = .ok (.istore 4, 2) := by decide +kernel
theorem dX7_change_50 : decode cX7_change 50 = .ok (.aload_n 0, 1) := by decide +kernel
theorem dX7_change_51 : decode cX7_change 51 = .ok (.aload_n 0, 1) := by decide +kernel
theorem dX7_change_52 : decode cX7_change 52 = .ok (.getfield 48, 3) := by decide +kernel
theorem dX7_change_55 : decode cX7_change 55 = .ok (.iload_n 1, 1) := by decide +kernel
theorem dX7_change_56 : decode cX7_change 56 = .ok (.aaload, 1) := by decide +kernel
theorem dX7_change_57 : decode cX7_change 57 = .ok (.iload_n 2, 1) := by decide +kernel
theorem dX7_change_58 : decode cX7_change 58 = .ok (.iload_n 3, 1) := by decide +kernel
theorem dX7_change_59 : decode cX7_change 59 = .ok (.invokevirtual 174, 3) := by decide +kernel
theorem dX7_change_62 : decode cX7_change 62 = .ok (.iload 4, 2) := by decide +kernel
theorem dX7_change_64 : decode cX7_change 64 = .ok (.ireturn, 1) := by decide +kernel
theorem dX7_root_0 : decode cX7_root 0 = .ok (.iload_n 1, 1) := by decide +kernel
theorem dX7_root_1 : decode cX7_root 1 = .ok (.invokestatic 165, 3) := by decide +kernel
theorem dX7_root_4 : decode cX7_root 4 = .ok (.ifCond .ne 6, 3) := by decide +kernel
theorem dX7_root_7 : decode cX7_root 7 = .ok (.bipush (-102), 2) := by decide +kernel
theorem dX7_root_9 : decode cX7_root 9 = .ok (.ireturn, 1) := by decide +kernel
theorem dX7_root_10 : decode cX7_root 10 = .ok (.aload_n 0, 1) := by decide +kernel
theorem dX7_root_11 : decode cX7_root 11 = .ok (.getfield 42, 3) := by decide +kernel
theorem dX7_root_14 : decode cX7_root 14 = .ok (.invokevirtual 88, 3) := by decide +kernel
theorem dX7_root_17 : decode cX7_root 17 = .ok (.ifCond .eq 6, 3) := by decide +kernel
theorem dX7_root_20 : decode cX7_root 20 = .ok (.bipush (-103), 2) := by decide +kernel
theorem dX7_root_22 : decode cX7_root 22 = .ok (.ireturn, 1) := by decide +kernel
theorem dX7_root_23 : decode cX7_root 23 = .ok (.aload_n 0, 1) := by decide +kernel
theorem dX7_root_24 : decode cX7_root 24 = .ok (.getfield 48, 3) := by decide +kernel
theorem dX7_root_27 : decode cX7_root 27 = .ok (.iload_n 1, 1) := by decide +kernel
theorem dX7_root_28 : decode cX7_root 28 = .ok (.aaload, 1) := by decide +kernel
theorem dX7_root_29 : decode cX7_root 29 = .ok (.aload_n 0, 1) := by decide +kernel
theorem dX7_root_30 : decode cX7_root 30 = .ok (.getfield 22, 3) := by decide +kernel
theorem dX7_root_33 : decode cX7_root 33 = .ok (.invokevirtual 182, 3) := by decide +kernel
theorem dX7_root_36 : decode cX7_root 36 = .ok (.astore_n 2, 1) := by decide +kernel
theorem dX7_root_37 : decode cX7_root 37 = .ok (.aload_n 0, 1) := by decide +kernel
theorem dX7_root_38 : decode cX7_root 38 = .ok (.getfield 22, 3) := by decide +kernel
theorem dX7_root_41 : decode cX7_root 41 = .ok (.aload_n 0, 1) := by decide +kernel
theorem dX7_root_42 : decode cX7_root 42 = .ok (.getfield 48, 3) := by decide +kernel
theorem dX7_root_45 : decode cX7_root 45 = .ok (.iload_n 1, 1) := by decide +kernel
theorem dX7_root_46 : decode cX7_root 46 = .ok (.aaload, 1) := by decide +kernel
theorem dX7_root_47 : decode cX7_root 47 = .ok (.getfield 171, 3) := by decide +kernel
theorem dX7_root_50 : decode cX7_root 50 = .ok (.aload_n 2, 1) := by decide +kernel
theorem dX7_root_51 : decode cX7_root 51 = .ok (.invokestatic 186, 3) := by decide +kernel
theorem dX7_root_54 : decode cX7_root 54 = .ok (.aload_n 0, 1) := by decide +kernel
theorem dX7_root_55 : decode cX7_root 55 = .ok (.getfield 42, 3) := by decide +kernel
theorem dX7_root_58 : decode cX7_root 58 = .ok (.iconst 0, 1) := by decide +kernel
theorem dX7_root_59 : decode cX7_root 59 = .ok (.aload_n 0, 1) := by decide +kernel
theorem dX7_root_60 : decode cX7_root 60 = .ok (.getfield 22, 3) := by decide +kernel
theorem dX7_root_63 : decode cX7_root 63 = .ok (.getfield 190, 3) := by decide +kernel
theorem dX7_root_66 : decode cX7_root 66 = .ok (.aload_n 0, 1) := by decide +kernel
theorem dX7_root_67 : decode cX7_root 67 = .ok (.getfield 22, 3) := by decide +kernel
theorem dX7_root_70 : decode cX7_root 70 = .ok (.invokevirtual 192, 3) := by decide +kernel
theorem dX7_root_73 : decode cX7_root 73 = .ok (.ireturn, 1) := by decide +kernel
theorem dX7_drop_0 : decode cX7_drop 0 = .ok (.iload_n 1, 1) := by decide +kernel
theorem dX7_drop_1 : decode cX7_drop 1 = .ok (.invokestatic 165, 3) := by decide +kernel
theorem dX7_drop_4 : decode cX7_drop 4 = .ok (.ifCond .ne 6, 3) := by decide +kernel
theorem dX7_drop_7 : decode cX7_drop 7 = .ok (.bipush (-102), 2) := by decide +kernel
theorem dX7_drop_9 : decode cX7_drop 9 = .ok (.ireturn, 1) := by decide +kernel
theorem dX7_drop_10 : decode cX7_drop 10 = .ok (.aload_n 0, 1) := by decide +kernel
theorem dX7_drop_11 : decode cX7_drop 11 = .ok (.getfield 48, 3) := by decide +kernel
theorem dX7_drop_14 : decode cX7_drop 14 = .ok (.iload_n 1, 1) := by decide +kernel
theorem dX7_drop_15 : decode cX7_drop 15 = .ok (.aaload, 1) := by decide +kernel
theorem dX7_drop_16 : decode cX7_drop 16 = .ok (.getfield 171, 3) := by decide +kernel
theorem dX7_drop_19 : decode cX7_drop 19 = .ok (.istore_n 2, 1) := by decide +kernel
theorem dX7_drop_20 : decode cX7_drop 20 = .ok (.aload_n 0, 1) := by decide +kernel
theorem dX7_drop_21 : decode cX7_drop 21 = .ok (.getfield 48, 3) := by decide +kernel
theorem dX7_drop_24 : decode cX7_drop 24 = .ok (.iload_n 1, 1) := by decide +kernel
theorem dX7_drop_25 : decode cX7_drop 25 = .ok (.aaload, 1) := by decide +kernel
theorem dX7_drop_26 : decode cX7_drop 26 = .ok (.iconst 0, 1) := by decide +kernel
theorem dX7_drop_27 : decode cX7_drop 27 = .ok (.putfield 171, 3) := by decide +kernel
theorem dX7_drop_30 : decode cX7_drop 30 = .ok (.iload_n 2, 1) := by decide +kernel
theorem dX7_drop_31 : decode cX7_drop 31 = .ok (.ireturn, 1) := by decide +kernel
theorem dX7_prove_0 : decode cX7_prove 0 = .ok (.iload_n 1, 1) := by decide +kernel
theorem dX7_prove_1 : decode cX7_prove 1 = .ok (.invokestatic 165, 3) := by decide +kernel
theorem dX7_prove_4 : decode cX7_prove 4 = .ok (.ifCond .ne 6, 3) := by decide +kernel
theorem dX7_prove_7 : decode cX7_prove 7 = .ok (.bipush (-102), 2) := by decide +kernel
theorem dX7_prove_9 : decode cX7_prove 9 = .ok (.ireturn, 1) := by decide +kernel
theorem dX7_prove_10 : decode cX7_prove 10 = .ok (.aload_n 0, 1) := by decide +kernel
theorem dX7_prove_11 : decode cX7_prove 11 = .ok (.getfield 48, 3) := by decide +kernel
theorem dX7_prove_14 : decode cX7_prove 14 = .ok (.iload_n 1, 1) := by decide +kernel
theorem dX7_prove_15 : decode cX7_prove 15 = .ok (.aaload, 1) := by decide +kernel
theorem dX7_prove_16 : decode cX7_prove 16 = .ok (.iload_n 2, 1) := by decide +kernel
theorem dX7_prove_17 : decode cX7_prove 17 = .ok (.invokevirtual 178, 3) := by decide +kernel
theorem dX7_prove_20 : decode cX7_prove 20 = .ok (.ifCond .ne 6, 3) := by decide +kernel
theorem dX7_prove_23 : decode cX7_prove 23 = .ok (.bipush (-101), 2) := by decide +kernel
theorem dX7_prove_25 : decode cX7_prove 25 = .ok (.ireturn, 1) := by decide +kernel
theorem dX7_prove_26 : decode cX7_prove 26 = .ok (.aload_n 0, 1) := by decide +kernel
theorem dX7_prove_27 : decode cX7_prove 27 = .ok (.getfield 48, 3) := by decide +kernel
theorem dX7_prove_30 : decode cX7_prove 30 = .ok (.iload_n 1, 1) := by decide +kernel
theorem dX7_prove_31 : decode cX7_prove 31 = .ok (.aaload, 1) := by decide +kernel
theorem dX7_prove_32 : decode cX7_prove 32 = .ok (.aload_n 0, 1) := by decide +kernel
theorem dX7_prove_33 : decode cX7_prove 33 = .ok (.getfield 22, 3) := by decide +kernel
theorem dX7_prove_36 : decode cX7_prove 36 = .ok (.invokevirtual 182, 3) := by decide +kernel
theorem dX7_prove_39 : decode cX7_prove 39 = .ok (.pop, 1) := by decide +kernel
theorem dX7_prove_40 : decode cX7_prove 40 = .ok (.aload_n 0, 1) := by decide +kernel
theorem dX7_prove_41 : decode cX7_prove 41 = .ok (.getfield 55, 3) := by decide +kernel
theorem dX7_prove_44 : decode cX7_prove 44 = .ok (.aload_n 0, 1) := by decide +kernel
theorem dX7_prove_45 : decode cX7_prove 45 = .ok (.getfield 48, 3) := by decide +kernel
theorem dX7_prove_48 : decode cX7_prove 48 = .ok (.iload_n 1, 1) := by decide +kernel
theorem dX7_prove_49 : decode cX7_prove 49 = .ok (.aaload, 1) := by decide +kernel
theorem dX7_prove_50 : decode cX7_prove 50 = .ok (.iload_n 2, 1) := by decide +kernel
theorem dX7_prove_51 : decode cX7_prove 51 = .ok (.invokevirtual 196, 3) := by decide +kernel
theorem dX7_prove_54 : decode cX7_prove 54 = .ok (.aload_n 0, 1) := by decide +kernel
theorem dX7_prove_55 : decode cX7_prove 55 = .ok (.getfield 55, 3) := by decide +kernel
theorem dX7_prove_58 : decode cX7_prove 58 = .ok (.getfield 200, 3) := by decide +kernel
theorem dX7_prove_61 : decode cX7_prove 61 = .ok (.ireturn, 1) := by decide +kernel
theorem dX7_alter_0 : decode cX7_alter 0 = .ok (.iload_n 1, 1) := by decide +kernel
theorem dX7_alter_1 : decode cX7_alter 1 = .ok (.ifCond .lt 14, 3) := by decide +kernel
theorem dX7_alter_4 : decode cX7_alter 4 = .ok (.iload_n 1, 1) := by decide +kernel
theorem dX7_alter_5 : decode cX7_alter 5 = .ok (.aload_n 0, 1) := by decide +kernel
theorem dX7_alter_6 : decode cX7_alter 6 = .ok (.getfield 55, 3) := by decide +kernel
theorem dX7_alter_9 : decode cX7_alter 9 = .ok (.getfield 200, 3) := by decide +kernel
theorem dX7_alter_12 : decode cX7_alter 12 = .ok (.if_icmp .lt 6, 3) := by decide +kernel
theorem dX7_alter_15 : decode cX7_alter 15 = .ok (.bipush (-101), 2) := by decide +kernel
theorem dX7_alter_17 : decode cX7_alter 17 = .ok (.ireturn, 1) := by decide +kernel
theorem dX7_alter_18 : decode cX7_alter 18 = .ok (.iload_n 2, 1) := by decide +kernel
theorem dX7_alter_19 : decode cX7_alter 19 = .ok (.ifCond .lt 20, 3) := by decide +kernel
theorem dX7_alter_22 : decode cX7_alter 22 = .ok (.iload_n 2, 1) := by decide +kernel
theorem dX7_alter_23 : decode cX7_alter 23 = .ok (.bipush 32, 2) := by decide +kernel
theorem dX7_alter_25 : decode cX7_alter 25 = .ok (.if_icmp .ge 14, 3) := by decide +kernel
theorem dX7_alter_28 : decode cX7_alter 28 = .ok (.iload_n 3, 1) := by decide +kernel
theorem dX7_alter_29 : decode cX7_alter 29 = .ok (.ifCond .lt 10, 3) := by decide +kernel
theorem dX7_alter_32 : decode cX7_alter 32 = .ok (.iload_n 3, 1) := by decide +kernel
theorem dX7_alter_33 : decode cX7_alter 33 = .ok (.sipush 255, 3) := by decide +kernel
theorem dX7_alter_36 : decode cX7_alter 36 = .ok (.if_icmp .le 6, 3) := by decide +kernel
theorem dX7_alter_39 : decode cX7_alter 39 = .ok (.bipush (-102), 2) := by decide +kernel
theorem dX7_alter_41 : decode cX7_alter 41 = .ok (.ireturn, 1) := by decide +kernel
theorem dX7_alter_42 : decode cX7_alter 42 = .ok (.aload_n 0, 1) := by decide +kernel
theorem dX7_alter_43 : decode cX7_alter 43 = .ok (.getfield 55, 3) := by decide +kernel
theorem dX7_alter_46 : decode cX7_alter 46 = .ok (.getfield 201, 3) := by decide +kernel
theorem dX7_alter_49 : decode cX7_alter 49 = .ok (.iload_n 1, 1) := by decide +kernel
theorem dX7_alter_50 : decode cX7_alter 50 = .ok (.aaload, 1) := by decide +kernel
theorem dX7_alter_51 : decode cX7_alter 51 = .ok (.astore 4, 2) := by decide +kernel
theorem dX7_alter_53 : decode cX7_alter 53 = .ok (.aload 4, 2) := by decide +kernel
theorem dX7_alter_55 : decode cX7_alter 55 = .ok (.iload_n 2, 1) := by decide +kernel
theorem dX7_alter_56 : decode cX7_alter 56 = .ok (.aload 4, 2) := by decide +kernel
theorem dX7_alter_58 : decode cX7_alter 58 = .ok (.iload_n 2, 1) := by decide +kernel
theorem dX7_alter_59 : decode cX7_alter 59 = .ok (.baload, 1) := by decide +kernel
theorem dX7_alter_60 : decode cX7_alter 60 = .ok (.iload_n 3, 1) := by decide +kernel
theorem dX7_alter_61 : decode cX7_alter 61 = .ok (.ixor, 1) := by decide +kernel
theorem dX7_alter_62 : decode cX7_alter 62 = .ok (.i2b, 1) := by decide +kernel
theorem dX7_alter_63 : decode cX7_alter 63 = .ok (.bastore, 1) := by decide +kernel
theorem dX7_alter_64 : decode cX7_alter 64 = .ok (.aload 4, 2) := by decide +kernel
theorem dX7_alter_66 : decode cX7_alter 66 = .ok (.iload_n 2, 1) := by decide +kernel
theorem dX7_alter_67 : decode cX7_alter 67 = .ok (.baload, 1) := by decide +kernel
theorem dX7_alter_68 : decode cX7_alter 68 = .ok (.sipush 255, 3) := by decide +kernel
theorem dX7_alter_71 : decode cX7_alter 71 = .ok (.iand, 1) := by decide +kernel
theorem dX7_alter_72 : decode cX7_alter 72 = .ok (.ireturn, 1) := by decide +kernel
theorem dX7_check_0 : decode cX7_check 0 = .ok (.aload_n 0, 1) := by decide +kernel
theorem dX7_check_1 : decode cX7_check 1 = .ok (.getfield 42, 3) := by decide +kernel
theorem dX7_check_4 : decode cX7_check 4 = .ok (.iload_n 1, 1) := by decide +kernel
theorem dX7_check_5 : decode cX7_check 5 = .ok (.invokevirtual 114, 3) := by decide +kernel
theorem dX7_check_8 : decode cX7_check 8 = .ok (.ifCond .ne 6, 3) := by decide +kernel
theorem dX7_check_11 : decode cX7_check 11 = .ok (.bipush (-101), 2) := by decide +kernel
theorem dX7_check_13 : decode cX7_check 13 = .ok (.ireturn, 1) := by decide +kernel
theorem dX7_check_14 : decode cX7_check 14 = .ok (.iload_n 2, 1) := by decide +kernel
theorem dX7_check_15 : decode cX7_check 15 = .ok (.iconst 1, 1) := by decide +kernel
theorem dX7_check_16 : decode cX7_check 16 = .ok (.if_icmp .lt 27, 3) := by decide +kernel
theorem dX7_check_19 : decode cX7_check 19 = .ok (.iload_n 2, 1) := by decide +kernel
theorem dX7_check_20 : decode cX7_check 20 = .ok (.bipush 12, 2) := by decide +kernel
theorem dX7_check_22 : decode cX7_check 22 = .ok (.if_icmp .gt 21, 3) := by decide +kernel
theorem dX7_check_25 : decode cX7_check 25 = .ok (.iload_n 3, 1) := by decide +kernel
theorem dX7_check_26 : decode cX7_check 26 = .ok (.ifCond .lt 17, 3) := by decide +kernel
theorem dX7_check_29 : decode cX7_check 29 = .ok (.iload_n 3, 1) := by decide +kernel
theorem dX7_check_30 : decode cX7_check 30 = .ok (.iload_n 2, 1) := by decide +kernel
theorem dX7_check_31 : decode cX7_check 31 = .ok (.if_icmp .ge 12, 3) := by decide +kernel
theorem dX7_check_34 : decode cX7_check 34 = .ok (.aload_n 0, 1) := by decide +kernel
theorem dX7_check_35 : decode cX7_check 35 = .ok (.iload 4, 2) := by decide +kernel
theorem dX7_check_37 : decode cX7_check 37 = .ok (.invokevirtual 168, 3) := by decide +kernel
theorem dX7_check_40 : decode cX7_check 40 = .ok (.ifCond .ne 6, 3) := by decide +kernel
theorem dX7_check_43 : decode cX7_check 43 = .ok (.bipush (-102), 2) := by decide +kernel
theorem dX7_check_45 : decode cX7_check 45 = .ok (.ireturn, 1) := by decide +kernel
theorem dX7_check_46 : decode cX7_check 46 = .ok (.aload_n 0, 1) := by decide +kernel
theorem dX7_check_47 : decode cX7_check 47 = .ok (.getfield 55, 3) := by decide +kernel
theorem dX7_check_50 : decode cX7_check 50 = .ok (.getfield 200, 3) := by decide +kernel
theorem dX7_check_53 : decode cX7_check 53 = .ok (.iload_n 2, 1) := by decide +kernel
theorem dX7_check_54 : decode cX7_check 54 = .ok (.iload_n 3, 1) := by decide +kernel
theorem dX7_check_55 : decode cX7_check 55 = .ok (.invokestatic 204, 3) := by decide +kernel
theorem dX7_check_58 : decode cX7_check 58 = .ok (.if_icmp .ne 20, 3) := by decide +kernel
theorem dX7_check_61 : decode cX7_check 61 = .ok (.aload_n 0, 1) := by decide +kernel
theorem dX7_check_62 : decode cX7_check 62 = .ok (.getfield 42, 3) := by decide +kernel
theorem dX7_check_65 : decode cX7_check 65 = .ok (.getfield 117, 3) := by decide +kernel
theorem dX7_check_68 : decode cX7_check 68 = .ok (.iload_n 1, 1) := by decide +kernel
theorem dX7_check_69 : decode cX7_check 69 = .ok (.iaload, 1) := by decide +kernel
theorem dX7_check_70 : decode cX7_check 70 = .ok (.invokestatic 121, 3) := by decide +kernel
theorem dX7_check_73 : decode cX7_check 73 = .ok (.bipush 32, 2) := by decide +kernel
theorem dX7_check_75 : decode cX7_check 75 = .ok (.if_icmp .eq 5, 3) := by decide +kernel
theorem dX7_check_78 : decode cX7_check 78 = .ok (.iconst 0, 1) := by decide +kernel
theorem dX7_check_79 : decode cX7_check 79 = .ok (.ireturn, 1) := by decide +kernel
theorem dX7_check_80 : decode cX7_check 80 = .ok (.aload_n 0, 1) := by decide +kernel
theorem dX7_check_81 : decode cX7_check 81 = .ok (.getfield 22, 3) := by decide +kernel
theorem dX7_check_84 : decode cX7_check 84 = .ok (.iload 4, 2) := by decide +kernel
theorem dX7_check_86 : decode cX7_check 86 = .ok (.aload_n 0, 1) := by decide +kernel
theorem dX7_check_87 : decode cX7_check 87 = .ok (.getfield 10, 3) := by decide +kernel
theorem dX7_check_90 : decode cX7_check 90 = .ok (.aload_n 0, 1) := by decide +kernel
theorem dX7_check_91 : decode cX7_check 91 = .ok (.getfield 66, 3) := by decide +kernel
theorem dX7_check_94 : decode cX7_check 94 = .ok (.invokestatic 207, 3) := by decide +kernel
theorem dX7_check_97 : decode cX7_check 97 = .ok (.aload_n 0, 1) := by decide +kernel
theorem dX7_check_98 : decode cX7_check 98 = .ok (.getfield 55, 3) := by decide +kernel
theorem dX7_check_101 : decode cX7_check 101 = .ok (.aload_n 0, 1) := by decide +kernel
theorem dX7_check_102 : decode cX7_check 102 = .ok (.getfield 22, 3) := by decide +kernel
theorem dX7_check_105 : decode cX7_check 105 = .ok (.iload_n 2, 1) := by decide +kernel
theorem dX7_check_106 : decode cX7_check 106 = .ok (.iload_n 3, 1) := by decide +kernel
theorem dX7_check_107 : decode cX7_check 107 = .ok (.aload_n 0, 1) := by decide +kernel
theorem dX7_check_108 : decode cX7_check 108 = .ok (.getfield 66, 3) := by decide +kernel
theorem dX7_check_111 : decode cX7_check 111 = .ok (.invokevirtual 211, 3) := by decide +kernel
theorem dX7_check_114 : decode cX7_check 114 = .ok (.aload_n 0, 1) := by decide +kernel
theorem dX7_check_115 : decode cX7_check 115 = .ok (.getfield 22, 3) := by decide +kernel
theorem dX7_check_118 : decode cX7_check 118 = .ok (.iload_n 2, 1) := by decide +kernel
theorem dX7_check_119 : decode cX7_check 119 = .ok (.aload_n 0, 1) := by decide +kernel
theorem dX7_check_120 : decode cX7_check 120 = .ok (.getfield 66, 3) := by decide +kernel
theorem dX7_check_123 : decode cX7_check 123 = .ok (.invokestatic 186, 3) := by decide +kernel
theorem dX7_check_126 : decode cX7_check 126 = .ok (.aload_n 0, 1) := by decide +kernel
theorem dX7_check_127 : decode cX7_check 127 = .ok (.getfield 22, 3) := by decide +kernel
theorem dX7_check_130 : decode cX7_check 130 = .ok (.aload_n 0, 1) := by decide +kernel
theorem dX7_check_131 : decode cX7_check 131 = .ok (.getfield 66, 3) := by decide +kernel
theorem dX7_check_134 : decode cX7_check 134 = .ok (.bipush 32, 2) := by decide +kernel
theorem dX7_check_136 : decode cX7_check 136 = .ok (.invokevirtual 215, 3) := by decide +kernel
theorem dX7_check_139 : decode cX7_check 139 = .ok (.aload_n 0, 1) := by decide +kernel
theorem dX7_check_140 : decode cX7_check 140 = .ok (.getfield 66, 3) := by decide +kernel
theorem dX7_check_143 : decode cX7_check 143 = .ok (.aload_n 0, 1) := by decide +kernel
theorem dX7_check_144 : decode cX7_check 144 = .ok (.getfield 42, 3) := by decide +kernel
theorem dX7_check_147 : decode cX7_check 147 = .ok (.getfield 142, 3) := by decide +kernel
theorem dX7_check_150 : decode cX7_check 150 = .ok (.iload_n 1, 1) := by decide +kernel
theorem dX7_check_151 : decode cX7_check 151 = .ok (.aaload, 1) := by decide +kernel
theorem dX7_check_152 : decode cX7_check 152 = .ok (.bipush 32, 2) := by decide +kernel
theorem dX7_check_154 : decode cX7_check 154 = .ok (.invokestatic 156, 3) := by decide +kernel
theorem dX7_check_157 : decode cX7_check 157 = .ok (.ifCond .eq 7, 3) := by decide +kernel
theorem dX7_check_160 : decode cX7_check 160 = .ok (.iconst 1, 1) := by decide +kernel
theorem dX7_check_161 : decode cX7_check 161 = .ok (.goto 4, 3) := by decide +kernel
theorem dX7_check_164 : decode cX7_check 164 = .ok (.iconst 0, 1) := by decide +kernel
theorem dX7_check_165 : decode cX7_check 165 = .ok (.ireturn, 1) := by decide +kernel
theorem dX7_keep_0 : decode cX7_keep 0 = .ok (.aload_n 0, 1) := by decide +kernel
theorem dX7_keep_1 : decode cX7_keep 1 = .ok (.getfield 10, 3) := by decide +kernel
theorem dX7_keep_4 : decode cX7_keep 4 = .ok (.getfield 71, 3) := by decide +kernel
theorem dX7_keep_7 : decode cX7_keep 7 = .ok (.bipush 40, 2) := by decide +kernel
theorem dX7_keep_9 : decode cX7_keep 9 = .ok (.if_icmp .le 6, 3) := by decide +kernel
theorem dX7_keep_12 : decode cX7_keep 12 = .ok (.bipush (-102), 2) := by decide +kernel
theorem dX7_keep_14 : decode cX7_keep 14 = .ok (.ireturn, 1) := by decide +kernel
theorem dX7_keep_15 : decode cX7_keep 15 = .ok (.aload_n 0, 1) := by decide +kernel
theorem dX7_keep_16 : decode cX7_keep 16 = .ok (.aload_n 0, 1) := by decide +kernel
theorem dX7_keep_17 : decode cX7_keep 17 = .ok (.getfield 10, 3) := by decide +kernel
theorem dX7_keep_20 : decode cX7_keep 20 = .ok (.invokevirtual 219, 3) := by decide +kernel
theorem dX7_keep_23 : decode cX7_keep 23 = .ok (.istore_n 1, 1) := by decide +kernel
theorem dX7_keep_24 : decode cX7_keep 24 = .ok (.aload_n 0, 1) := by decide +kernel
theorem dX7_keep_25 : decode cX7_keep 25 = .ok (.getfield 62, 3) := by decide +kernel
theorem dX7_keep_28 : decode cX7_keep 28 = .ok (.aload_n 0, 1) := by decide +kernel
theorem dX7_keep_29 : decode cX7_keep 29 = .ok (.getfield 10, 3) := by decide +kernel
theorem dX7_keep_32 : decode cX7_keep 32 = .ok (.iload_n 1, 1) := by decide +kernel
theorem dX7_keep_33 : decode cX7_keep 33 = .ok (.invokevirtual 223, 3) := by decide +kernel
theorem dX7_keep_36 : decode cX7_keep 36 = .ok (.istore_n 2, 1) := by decide +kernel
theorem dX7_keep_37 : decode cX7_keep 37 = .ok (.iload_n 2, 1) := by decide +kernel
theorem dX7_keep_38 : decode cX7_keep 38 = .ok (.iconst (-1), 1) := by decide +kernel
theorem dX7_keep_39 : decode cX7_keep 39 = .ok (.if_icmp .ne 18, 3) := by decide +kernel
theorem dX7_keep_42 : decode cX7_keep 42 = .ok (.aload_n 0, 1) := by decide +kernel
theorem dX7_keep_43 : decode cX7_keep 43 = .ok (.getfield 62, 3) := by decide +kernel
theorem dX7_keep_46 : decode cX7_keep 46 = .ok (.getfield 227, 3) := by decide +kernel
theorem dX7_keep_49 : decode cX7_keep 49 = .ok (.bipush 40, 2) := by decide +kernel
theorem dX7_keep_51 : decode cX7_keep 51 = .ok (.if_icmp .lt 6, 3) := by decide +kernel
theorem dX7_keep_54 : decode cX7_keep 54 = .ok (.bipush (-103), 2) := by decide +kernel
theorem dX7_keep_56 : decode cX7_keep 56 = .ok (.ireturn, 1) := by decide +kernel
theorem dX7_keep_57 : decode cX7_keep 57 = .ok (.aload_n 0, 1) := by decide +kernel
theorem dX7_keep_58 : decode cX7_keep 58 = .ok (.getfield 62, 3) := by decide +kernel
theorem dX7_keep_61 : decode cX7_keep 61 = .ok (.aload_n 0, 1) := by decide +kernel
theorem dX7_keep_62 : decode cX7_keep 62 = .ok (.getfield 62, 3) := by decide +kernel
theorem dX7_keep_65 : decode cX7_keep 65 = .ok (.getfield 228, 3) := by decide +kernel
theorem dX7_keep_68 : decode cX7_keep 68 = .ok (.putfield 231, 3) := by decide +kernel
theorem dX7_keep_71 : decode cX7_keep 71 = .ok (.iload_n 2, 1) := by decide +kernel
theorem dX7_keep_72 : decode cX7_keep 72 = .ok (.iconst (-1), 1) := by decide +kernel
theorem dX7_keep_73 : decode cX7_keep 73 = .ok (.if_icmp .ne 16, 3) := by decide +kernel
theorem dX7_keep_76 : decode cX7_keep 76 = .ok (.aload_n 0, 1) := by decide +kernel
theorem dX7_keep_77 : decode cX7_keep 77 = .ok (.getfield 62, 3) := by decide +kernel
theorem dX7_keep_80 : decode cX7_keep 80 = .ok (.aload_n 0, 1) := by decide +kernel
theorem dX7_keep_81 : decode cX7_keep 81 = .ok (.getfield 10, 3) := by decide +kernel
theorem dX7_keep_84 : decode cX7_keep 84 = .ok (.iload_n 1, 1) := by decide +kernel
theorem dX7_keep_85 : decode cX7_keep 85 = .ok (.invokevirtual 234, 3) := by decide +kernel
theorem dX7_keep_88 : decode cX7_keep 88 = .ok (.istore_n 2, 1) := by decide +kernel
theorem dX7_keep_89 : decode cX7_keep 89 = .ok (.aload_n 0, 1) := by decide +kernel
theorem dX7_keep_90 : decode cX7_keep 90 = .ok (.getfield 10, 3) := by decide +kernel
theorem dX7_keep_93 : decode cX7_keep 93 = .ok (.iconst 0, 1) := by decide +kernel
theorem dX7_keep_94 : decode cX7_keep 94 = .ok (.putfield 71, 3) := by decide +kernel
theorem dX7_keep_97 : decode cX7_keep 97 = .ok (.iload_n 2, 1) := by decide +kernel
theorem dX7_keep_98 : decode cX7_keep 98 = .ok (.ireturn, 1) := by decide +kernel
theorem dX7_find_0 : decode cX7_find 0 = .ok (.aload_n 0, 1) := by decide +kernel
theorem dX7_find_1 : decode cX7_find 1 = .ok (.getfield 10, 3) := by decide +kernel
theorem dX7_find_4 : decode cX7_find 4 = .ok (.getfield 71, 3) := by decide +kernel
theorem dX7_find_7 : decode cX7_find 7 = .ok (.bipush 40, 2) := by decide +kernel
theorem dX7_find_9 : decode cX7_find 9 = .ok (.if_icmp .le 6, 3) := by decide +kernel
theorem dX7_find_12 : decode cX7_find 12 = .ok (.bipush (-102), 2) := by decide +kernel
theorem dX7_find_14 : decode cX7_find 14 = .ok (.ireturn, 1) := by decide +kernel
theorem dX7_find_15 : decode cX7_find 15 = .ok (.aload_n 0, 1) := by decide +kernel
theorem dX7_find_16 : decode cX7_find 16 = .ok (.getfield 62, 3) := by decide +kernel
theorem dX7_find_19 : decode cX7_find 19 = .ok (.aload_n 0, 1) := by decide +kernel
theorem dX7_find_20 : decode cX7_find 20 = .ok (.getfield 10, 3) := by decide +kernel
theorem dX7_find_23 : decode cX7_find 23 = .ok (.aload_n 0, 1) := by decide +kernel
theorem dX7_find_24 : decode cX7_find 24 = .ok (.aload_n 0, 1) := by decide +kernel
theorem dX7_find_25 : decode cX7_find 25 = .ok (.getfield 10, 3) := by decide +kernel
theorem dX7_find_28 : decode cX7_find 28 = .ok (.invokevirtual 219, 3) := by decide +kernel
theorem dX7_find_31 : decode cX7_find 31 = .ok (.invokevirtual 223, 3) := by decide +kernel
theorem dX7_find_34 : decode cX7_find 34 = .ok (.istore_n 1, 1) := by decide +kernel
theorem dX7_find_35 : decode cX7_find 35 = .ok (.aload_n 0, 1) := by decide +kernel
theorem dX7_find_36 : decode cX7_find 36 = .ok (.getfield 62, 3) := by decide +kernel
theorem dX7_find_39 : decode cX7_find 39 = .ok (.aload_n 0, 1) := by decide +kernel
theorem dX7_find_40 : decode cX7_find 40 = .ok (.getfield 62, 3) := by decide +kernel
theorem dX7_find_43 : decode cX7_find 43 = .ok (.getfield 228, 3) := by decide +kernel
theorem dX7_find_46 : decode cX7_find 46 = .ok (.putfield 231, 3) := by decide +kernel
theorem dX7_find_49 : decode cX7_find 49 = .ok (.aload_n 0, 1) := by decide +kernel
theorem dX7_find_50 : decode cX7_find 50 = .ok (.getfield 10, 3) := by decide +kernel
theorem dX7_find_53 : decode cX7_find 53 = .ok (.iconst 0, 1) := by decide +kernel
theorem dX7_find_54 : decode cX7_find 54 = .ok (.putfield 71, 3) := by decide +kernel
theorem dX7_find_57 : decode cX7_find 57 = .ok (.iload_n 1, 1) := by decide +kernel
theorem dX7_find_58 : decode cX7_find 58 = .ok (.ireturn, 1) := by decide +kernel
theorem dX7_row_0 : decode cX7_row 0 = .ok (.iload_n 1, 1) := by decide +kernel
theorem dX7_row_1 : decode cX7_row 1 = .ok (.ifCond .lt 9, 3) := by decide +kernel
theorem dX7_row_4 : decode cX7_row 4 = .ok (.iload_n 1, 1) := by decide +kernel
theorem dX7_row_5 : decode cX7_row 5 = .ok (.bipush 40, 2) := by decide +kernel
theorem dX7_row_7 : decode cX7_row 7 = .ok (.if_icmp .lt 13, 3) := by decide +kernel
theorem dX7_row_10 : decode cX7_row 10 = .ok (.new 135, 3) := by decide +kernel
theorem dX7_row_13 : decode cX7_row 13 = .ok (.dup, 1) := by decide +kernel
theorem dX7_row_14 : decode cX7_row 14 = .ok (.ldc 236, 2) := by decide +kernel
theorem dX7_row_16 : decode cX7_row 16 = .ok (.invokespecial 139, 3) := by decide +kernel
theorem dX7_row_19 : decode cX7_row 19 = .ok (.athrow, 1) := by decide +kernel
theorem dX7_row_20 : decode cX7_row 20 = .ok (.iload_n 1, 1) := by decide +kernel
theorem dX7_row_21 : decode cX7_row 21 = .ok (.aload_n 0, 1) := by decide +kernel
theorem dX7_row_22 : decode cX7_row 22 = .ok (.getfield 62, 3) := by decide +kernel
theorem dX7_row_25 : decode cX7_row 25 = .ok (.getfield 227, 3) := by decide +kernel
theorem dX7_row_28 : decode cX7_row 28 = .ok (.if_icmp .lt 13, 3) := by decide +kernel
theorem dX7_row_31 : decode cX7_row 31 = .ok (.new 238, 3) := by decide +kernel
theorem dX7_row_34 : decode cX7_row 34 = .ok (.dup, 1) := by decide +kernel
theorem dX7_row_35 : decode cX7_row 35 = .ok (.ldc 240, 2) := by decide +kernel
theorem dX7_row_37 : decode cX7_row 37 = .ok (.invokespecial 242, 3) := by decide +kernel
theorem dX7_row_40 : decode cX7_row 40 = .ok (.athrow, 1) := by decide +kernel
theorem dX7_row_41 : decode cX7_row 41 = .ok (.iload_n 2, 1) := by decide +kernel
theorem dX7_row_42 : decode cX7_row 42 = .ok (.ifCond .lt 16, 3) := by decide +kernel
theorem dX7_row_45 : decode cX7_row 45 = .ok (.iload_n 2, 1) := by decide +kernel
theorem dX7_row_46 : decode cX7_row 46 = .ok (.aload_n 0, 1) := by decide +kernel
theorem dX7_row_47 : decode cX7_row 47 = .ok (.getfield 62, 3) := by decide +kernel
theorem dX7_row_50 : decode cX7_row 50 = .ok (.getfield 243, 3) := by decide +kernel
theorem dX7_row_53 : decode cX7_row 53 = .ok (.iload_n 1, 1) := by decide +kernel
theorem dX7_row_54 : decode cX7_row 54 = .ok (.iaload, 1) := by decide +kernel
theorem dX7_row_55 : decode cX7_row 55 = .ok (.if_icmp .lt 13, 3) := by decide +kernel
theorem dX7_row_58 : decode cX7_row 58 = .ok (.new 135, 3) := by decide +kernel
theorem dX7_row_61 : decode cX7_row 61 = .ok (.dup, 1) := by decide +kernel
theorem dX7_row_62 : decode cX7_row 62 = .ok (.ldc 246, 2) := by decide +kernel
theorem dX7_row_64 : decode cX7_row 64 = .ok (.invokespecial 139, 3) := by decide +kernel
theorem dX7_row_67 : decode cX7_row 67 = .ok (.athrow, 1) := by decide +kernel
theorem dX7_row_68 : decode cX7_row 68 = .ok (.aload_n 0, 1) := by decide +kernel
theorem dX7_row_69 : decode cX7_row 69 = .ok (.getfield 62, 3) := by decide +kernel
theorem dX7_row_72 : decode cX7_row 72 = .ok (.getfield 248, 3) := by decide +kernel
theorem dX7_row_75 : decode cX7_row 75 = .ok (.iload_n 1, 1) := by decide +kernel
theorem dX7_row_76 : decode cX7_row 76 = .ok (.aaload, 1) := by decide +kernel
theorem dX7_row_77 : decode cX7_row 77 = .ok (.iload_n 2, 1) := by decide +kernel
theorem dX7_row_78 : decode cX7_row 78 = .ok (.baload, 1) := by decide +kernel
theorem dX7_row_79 : decode cX7_row 79 = .ok (.ireturn, 1) := by decide +kernel
theorem dX7_about_0 : decode cX7_about 0 = .ok (.iload_n 1, 1) := by decide +kernel
theorem dX7_about_1 : decode cX7_about 1 = .ok (.tableswitch 81 0 5 #[39, 47, 55, 63, 71, 79], 39) := by decide +kernel
theorem dX7_about_40 : decode cX7_about 40 = .ok (.aload_n 0, 1) := by decide +kernel
theorem dX7_about_41 : decode cX7_about 41 = .ok (.getfield 10, 3) := by decide +kernel
theorem dX7_about_44 : decode cX7_about 44 = .ok (.getfield 71, 3) := by decide +kernel
theorem dX7_about_47 : decode cX7_about 47 = .ok (.ireturn, 1) := by decide +kernel
theorem dX7_about_48 : decode cX7_about 48 = .ok (.aload_n 0, 1) := by decide +kernel
theorem dX7_about_49 : decode cX7_about 49 = .ok (.getfield 42, 3) := by decide +kernel
theorem dX7_about_52 : decode cX7_about 52 = .ok (.getfield 251, 3) := by decide +kernel
theorem dX7_about_55 : decode cX7_about 55 = .ok (.ireturn, 1) := by decide +kernel
theorem dX7_about_56 : decode cX7_about 56 = .ok (.aload_n 0, 1) := by decide +kernel
theorem dX7_about_57 : decode cX7_about 57 = .ok (.getfield 62, 3) := by decide +kernel
theorem dX7_about_60 : decode cX7_about 60 = .ok (.getfield 227, 3) := by decide +kernel
theorem dX7_about_63 : decode cX7_about 63 = .ok (.ireturn, 1) := by decide +kernel
theorem dX7_about_64 : decode cX7_about 64 = .ok (.aload_n 0, 1) := by decide +kernel
theorem dX7_about_65 : decode cX7_about 65 = .ok (.getfield 62, 3) := by decide +kernel
theorem dX7_about_68 : decode cX7_about 68 = .ok (.invokevirtual 252, 3) := by decide +kernel
theorem dX7_about_71 : decode cX7_about 71 = .ok (.ireturn, 1) := by decide +kernel
theorem dX7_about_72 : decode cX7_about 72 = .ok (.aload_n 0, 1) := by decide +kernel
theorem dX7_about_73 : decode cX7_about 73 = .ok (.getfield 62, 3) := by decide +kernel
theorem dX7_about_76 : decode cX7_about 76 = .ok (.getfield 231, 3) := by decide +kernel
theorem dX7_about_79 : decode cX7_about 79 = .ok (.ireturn, 1) := by decide +kernel
theorem dX7_about_80 : decode cX7_about 80 = .ok (.iconst 1, 1) := by decide +kernel
theorem dX7_about_81 : decode cX7_about 81 = .ok (.ireturn, 1) := by decide +kernel
theorem dX7_about_82 : decode cX7_about 82 = .ok (.bipush (-102), 2) := by decide +kernel
theorem dX7_about_84 : decode cX7_about 84 = .ok (.ireturn, 1) := by decide +kernel
theorem dX7_clear_0 : decode cX7_clear 0 = .ok (.aload_n 0, 1) := by decide +kernel
theorem dX7_clear_1 : decode cX7_clear 1 = .ok (.getfield 42, 3) := by decide +kernel
theorem dX7_clear_4 : decode cX7_clear 4 = .ok (.getfield 251, 3) := by decide +kernel
theorem dX7_clear_7 : decode cX7_clear 7 = .ok (.istore_n 1, 1) := by decide +kernel
theorem dX7_clear_8 : decode cX7_clear 8 = .ok (.aload_n 0, 1) := by decide +kernel
theorem dX7_clear_9 : decode cX7_clear 9 = .ok (.getfield 10, 3) := by decide +kernel
theorem dX7_clear_12 : decode cX7_clear 12 = .ok (.iconst 0, 1) := by decide +kernel
theorem dX7_clear_13 : decode cX7_clear 13 = .ok (.putfield 71, 3) := by decide +kernel
theorem dX7_clear_16 : decode cX7_clear 16 = .ok (.aload_n 0, 1) := by decide +kernel
theorem dX7_clear_17 : decode cX7_clear 17 = .ok (.getfield 16, 3) := by decide +kernel
theorem dX7_clear_20 : decode cX7_clear 20 = .ok (.iconst 0, 1) := by decide +kernel
theorem dX7_clear_21 : decode cX7_clear 21 = .ok (.putfield 71, 3) := by decide +kernel
theorem dX7_clear_24 : decode cX7_clear 24 = .ok (.aload_n 0, 1) := by decide +kernel
theorem dX7_clear_25 : decode cX7_clear 25 = .ok (.getfield 42, 3) := by decide +kernel
theorem dX7_clear_28 : decode cX7_clear 28 = .ok (.iconst 0, 1) := by decide +kernel
theorem dX7_clear_29 : decode cX7_clear 29 = .ok (.putfield 251, 3) := by decide +kernel
theorem dX7_clear_32 : decode cX7_clear 32 = .ok (.iconst 0, 1) := by decide +kernel
theorem dX7_clear_33 : decode cX7_clear 33 = .ok (.istore_n 2, 1) := by decide +kernel
theorem dX7_clear_34 : decode cX7_clear 34 = .ok (.iload_n 2, 1) := by decide +kernel
theorem dX7_clear_35 : decode cX7_clear 35 = .ok (.iconst 4, 1) := by decide +kernel
theorem dX7_clear_36 : decode cX7_clear 36 = .ok (.if_icmp .ge 19, 3) := by decide +kernel
theorem dX7_clear_39 : decode cX7_clear 39 = .ok (.aload_n 0, 1) := by decide +kernel
theorem dX7_clear_40 : decode cX7_clear 40 = .ok (.getfield 35, 3) := by decide +kernel
theorem dX7_clear_43 : decode cX7_clear 43 = .ok (.iload_n 2, 1) := by decide +kernel
theorem dX7_clear_44 : decode cX7_clear 44 = .ok (.aaload, 1) := by decide +kernel
theorem dX7_clear_45 : decode cX7_clear 45 = .ok (.iconst 0, 1) := by decide +kernel
theorem dX7_clear_46 : decode cX7_clear 46 = .ok (.putfield 107, 3) := by decide +kernel
theorem dX7_clear_49 : decode cX7_clear 49 = .ok (.iinc 2 1, 3) := by decide +kernel
theorem dX7_clear_52 : decode cX7_clear 52 = .ok (.goto (-18), 3) := by decide +kernel
theorem dX7_clear_55 : decode cX7_clear 55 = .ok (.iconst 0, 1) := by decide +kernel
theorem dX7_clear_56 : decode cX7_clear 56 = .ok (.istore_n 2, 1) := by decide +kernel
theorem dX7_clear_57 : decode cX7_clear 57 = .ok (.iload_n 2, 1) := by decide +kernel
theorem dX7_clear_58 : decode cX7_clear 58 = .ok (.iconst 4, 1) := by decide +kernel
theorem dX7_clear_59 : decode cX7_clear 59 = .ok (.if_icmp .ge 19, 3) := by decide +kernel
theorem dX7_clear_62 : decode cX7_clear 62 = .ok (.aload_n 0, 1) := by decide +kernel
theorem dX7_clear_63 : decode cX7_clear 63 = .ok (.getfield 48, 3) := by decide +kernel
theorem dX7_clear_66 : decode cX7_clear 66 = .ok (.iload_n 2, 1) := by decide +kernel
theorem dX7_clear_67 : decode cX7_clear 67 = .ok (.aaload, 1) := by decide +kernel
theorem dX7_clear_68 : decode cX7_clear 68 = .ok (.iconst 0, 1) := by decide +kernel
theorem dX7_clear_69 : decode cX7_clear 69 = .ok (.putfield 171, 3) := by decide +kernel
theorem dX7_clear_72 : decode cX7_clear 72 = .ok (.iinc 2 1, 3) := by decide +kernel
theorem dX7_clear_75 : decode cX7_clear 75 = .ok (.goto (-18), 3) := by decide +kernel
theorem dX7_clear_78 : decode cX7_clear 78 = .ok (.aload_n 0, 1) := by decide +kernel
theorem dX7_clear_79 : decode cX7_clear 79 = .ok (.getfield 55, 3) := by decide +kernel
theorem dX7_clear_82 : decode cX7_clear 82 = .ok (.iconst 0, 1) := by decide +kernel
theorem dX7_clear_83 : decode cX7_clear 83 = .ok (.putfield 200, 3) := by decide +kernel
theorem dX7_clear_86 : decode cX7_clear 86 = .ok (.aload_n 0, 1) := by decide +kernel
theorem dX7_clear_87 : decode cX7_clear 87 = .ok (.getfield 62, 3) := by decide +kernel
theorem dX7_clear_90 : decode cX7_clear 90 = .ok (.iconst 0, 1) := by decide +kernel
theorem dX7_clear_91 : decode cX7_clear 91 = .ok (.putfield 227, 3) := by decide +kernel
theorem dX7_clear_94 : decode cX7_clear 94 = .ok (.aload_n 0, 1) := by decide +kernel
theorem dX7_clear_95 : decode cX7_clear 95 = .ok (.getfield 62, 3) := by decide +kernel
theorem dX7_clear_98 : decode cX7_clear 98 = .ok (.iconst 0, 1) := by decide +kernel
theorem dX7_clear_99 : decode cX7_clear 99 = .ok (.putfield 231, 3) := by decide +kernel
theorem dX7_clear_102 : decode cX7_clear 102 = .ok (.iload_n 1, 1) := by decide +kernel
theorem dX7_clear_103 : decode cX7_clear 103 = .ok (.ireturn, 1) := by decide +kernel
