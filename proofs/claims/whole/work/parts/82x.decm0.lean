/-! The reference: its instructions. -/
theorem dX10_in_0 : decode cX10_in 0 = .ok (.lload_n 0, 1) := by decide +kernel
theorem dX10_in_1 : decode cX10_in 1 = .ok (.lload_n 2, 1) := by decide +kernel
theorem dX10_in_2 : decode cX10_in 2 = .ok (.lcmp, 1) := by decide +kernel
theorem dX10_in_3 : decode cX10_in 3 = .ok (.ifCond .lt 14, 3) := by decide +kernel
theorem dX10_in_6 : decode cX10_in 6 = .ok (.lload_n 0, 1) := by decide +kernel
theorem dX10_in_7 : decode cX10_in 7 = .ok (.lload 4, 2) := by decide +kernel
theorem dX10_in_9 : decode cX10_in 9 = .ok (.lcmp, 1) := by decide +kernel
theorem dX10_in_10 : decode cX10_in 10 = .ok (.ifCond .gt 7, 3) := by decide +kernel
theorem dX10_in_13 : decode cX10_in 13 = .ok (.iconst 1, 1) := by decide +kernel
theorem dX10_in_14 : decode cX10_in 14 = .ok (.goto 4, 3) := by decide +kernel
theorem dX10_in_17 : decode cX10_in 17 = .ok (.iconst 0, 1) := by decide +kernel
theorem dX10_in_18 : decode cX10_in 18 = .ok (.ireturn, 1) := by decide +kernel
theorem dX10_min_0 : decode cX10_min 0 = .ok (.iload_n 0, 1) := by decide +kernel
theorem dX10_min_1 : decode cX10_min 1 = .ok (.iload_n 1, 1) := by decide +kernel
theorem dX10_min_2 : decode cX10_min 2 = .ok (.if_icmp .ge 7, 3) := by decide +kernel
theorem dX10_min_5 : decode cX10_min 5 = .ok (.iload_n 0, 1) := by decide +kernel
theorem dX10_min_6 : decode cX10_min 6 = .ok (.goto 4, 3) := by decide +kernel
theorem dX10_min_9 : decode cX10_min 9 = .ok (.iload_n 1, 1) := by decide +kernel
theorem dX10_min_10 : decode cX10_min 10 = .ok (.ireturn, 1) := by decide +kernel
theorem dX10_max_0 : decode cX10_max 0 = .ok (.iload_n 0, 1) := by decide +kernel
theorem dX10_max_1 : decode cX10_max 1 = .ok (.iload_n 1, 1) := by decide +kernel
theorem dX10_max_2 : decode cX10_max 2 = .ok (.if_icmp .le 7, 3) := by decide +kernel
theorem dX10_max_5 : decode cX10_max 5 = .ok (.iload_n 0, 1) := by decide +kernel
theorem dX10_max_6 : decode cX10_max 6 = .ok (.goto 4, 3) := by decide +kernel
theorem dX10_max_9 : decode cX10_max 9 = .ok (.iload_n 1, 1) := by decide +kernel
theorem dX10_max_10 : decode cX10_max 10 = .ok (.ireturn, 1) := by decide +kernel
theorem dX10_has_0 : decode cX10_has 0 = .ok (.iload_n 0, 1) := by decide +kernel
theorem dX10_has_1 : decode cX10_has 1 = .ok (.iload_n 1, 1) := by decide +kernel
theorem dX10_has_2 : decode cX10_has 2 = .ok (.ishr, 1) := by decide +kernel
theorem dX10_has_3 : decode cX10_has 3 = .ok (.iconst 1, 1) := by decide +kernel
theorem dX10_has_4 : decode cX10_has 4 = .ok (.iand, 1) := by decide +kernel
theorem dX10_has_5 : decode cX10_has 5 = .ok (.iconst 1, 1) := by decide +kernel
theorem dX10_has_6 : decode cX10_has 6 = .ok (.if_icmp .ne 7, 3) := by decide +kernel
theorem dX10_has_9 : decode cX10_has 9 = .ok (.iconst 1, 1) := by decide +kernel
theorem dX10_has_10 : decode cX10_has 10 = .ok (.goto 4, 3) := by decide +kernel
theorem dX10_has_13 : decode cX10_has 13 = .ok (.iconst 0, 1) := by decide +kernel
theorem dX10_has_14 : decode cX10_has 14 = .ok (.ireturn, 1) := by decide +kernel
theorem dX10_copies_0 : decode cX10_copies 0 = .ok (.iconst 0, 1) := by decide +kernel
theorem dX10_copies_1 : decode cX10_copies 1 = .ok (.istore_n 3, 1) := by decide +kernel
theorem dX10_copies_2 : decode cX10_copies 2 = .ok (.iload_n 3, 1) := by decide +kernel
theorem dX10_copies_3 : decode cX10_copies 3 = .ok (.sipush 708, 3) := by decide +kernel
theorem dX10_copies_6 : decode cX10_copies 6 = .ok (.if_icmp .ge 33, 3) := by decide +kernel
theorem dX10_copies_9 : decode cX10_copies 9 = .ok (.aload_n 0, 1) := by decide +kernel
theorem dX10_copies_10 : decode cX10_copies 10 = .ok (.getfield 7, 3) := by decide +kernel
theorem dX10_copies_13 : decode cX10_copies 13 = .ok (.sipush 708, 3) := by decide +kernel
theorem dX10_copies_16 : decode cX10_copies 16 = .ok (.iload_n 2, 1) := by decide +kernel
theorem dX10_copies_17 : decode cX10_copies 17 = .ok (.imul, 1) := by decide +kernel
theorem dX10_copies_18 : decode cX10_copies 18 = .ok (.iload_n 3, 1) := by decide +kernel
theorem dX10_copies_19 : decode cX10_copies 19 = .ok (.iadd, 1) := by decide +kernel
theorem dX10_copies_20 : decode cX10_copies 20 = .ok (.aload_n 0, 1) := by decide +kernel
theorem dX10_copies_21 : decode cX10_copies 21 = .ok (.getfield 7, 3) := by decide +kernel
theorem dX10_copies_24 : decode cX10_copies 24 = .ok (.sipush 708, 3) := by decide +kernel
theorem dX10_copies_27 : decode cX10_copies 27 = .ok (.iload_n 1, 1) := by decide +kernel
theorem dX10_copies_28 : decode cX10_copies 28 = .ok (.imul, 1) := by decide +kernel
theorem dX10_copies_29 : decode cX10_copies 29 = .ok (.iload_n 3, 1) := by decide +kernel
theorem dX10_copies_30 : decode cX10_copies 30 = .ok (.iadd, 1) := by decide +kernel
theorem dX10_copies_31 : decode cX10_copies 31 = .ok (.iaload, 1) := by decide +kernel
theorem dX10_copies_32 : decode cX10_copies 32 = .ok (.iastore, 1) := by decide +kernel
theorem dX10_copies_33 : decode cX10_copies 33 = .ok (.iinc 3 1, 3) := by decide +kernel
theorem dX10_copies_36 : decode cX10_copies 36 = .ok (.goto (-34), 3) := by decide +kernel
theorem dX10_copies_39 : decode cX10_copies 39 = .ok (.return_, 1) := by decide +kernel
theorem dX10_towns_0 : decode cX10_towns 0 = .ok (.aload_n 0, 1) := by decide +kernel
theorem dX10_towns_1 : decode cX10_towns 1 = .ok (.getfield 7, 3) := by decide +kernel
theorem dX10_towns_4 : decode cX10_towns 4 = .ok (.iconst 0, 1) := by decide +kernel
theorem dX10_towns_5 : decode cX10_towns 5 = .ok (.iaload, 1) := by decide +kernel
theorem dX10_towns_6 : decode cX10_towns 6 = .ok (.ireturn, 1) := by decide +kernel
theorem dX10_of_0 : decode cX10_of 0 = .ok (.aload_n 0, 1) := by decide +kernel
theorem dX10_of_1 : decode cX10_of 1 = .ok (.getfield 7, 3) := by decide +kernel
theorem dX10_of_4 : decode cX10_of 4 = .ok (.bipush 28, 2) := by decide +kernel
theorem dX10_of_6 : decode cX10_of 6 = .ok (.iconst 4, 1) := by decide +kernel
theorem dX10_of_7 : decode cX10_of 7 = .ok (.iload_n 1, 1) := by decide +kernel
theorem dX10_of_8 : decode cX10_of 8 = .ok (.imul, 1) := by decide +kernel
theorem dX10_of_9 : decode cX10_of 9 = .ok (.iadd, 1) := by decide +kernel
theorem dX10_of_10 : decode cX10_of 10 = .ok (.iload_n 2, 1) := by decide +kernel
theorem dX10_of_11 : decode cX10_of 11 = .ok (.iadd, 1) := by decide +kernel
theorem dX10_of_12 : decode cX10_of 12 = .ok (.iaload, 1) := by decide +kernel
theorem dX10_of_13 : decode cX10_of 13 = .ok (.ireturn, 1) := by decide +kernel
theorem dX10_sets_0 : decode cX10_sets 0 = .ok (.aload_n 0, 1) := by decide +kernel
theorem dX10_sets_1 : decode cX10_sets 1 = .ok (.getfield 7, 3) := by decide +kernel
theorem dX10_sets_4 : decode cX10_sets 4 = .ok (.bipush 28, 2) := by decide +kernel
theorem dX10_sets_6 : decode cX10_sets 6 = .ok (.iconst 4, 1) := by decide +kernel
theorem dX10_sets_7 : decode cX10_sets 7 = .ok (.iload_n 1, 1) := by decide +kernel
theorem dX10_sets_8 : decode cX10_sets 8 = .ok (.imul, 1) := by decide +kernel
theorem dX10_sets_9 : decode cX10_sets 9 = .ok (.iadd, 1) := by decide +kernel
theorem dX10_sets_10 : decode cX10_sets 10 = .ok (.iload_n 2, 1) := by decide +kernel
theorem dX10_sets_11 : decode cX10_sets 11 = .ok (.iadd, 1) := by decide +kernel
theorem dX10_sets_12 : decode cX10_sets 12 = .ok (.iload_n 3, 1) := by decide +kernel
theorem dX10_sets_13 : decode cX10_sets 13 = .ok (.iastore, 1) := by decide +kernel
theorem dX10_sets_14 : decode cX10_sets 14 = .ok (.return_, 1) := by decide +kernel
theorem dX10_isOpen_0 : decode cX10_isOpen 0 = .ok (.aload_n 0, 1) := by decide +kernel
theorem dX10_isOpen_1 : decode cX10_isOpen 1 = .ok (.iload_n 1, 1) := by decide +kernel
theorem dX10_isOpen_2 : decode cX10_isOpen 2 = .ok (.iconst 3, 1) := by decide +kernel
theorem dX10_isOpen_3 : decode cX10_isOpen 3 = .ok (.invokevirtual 73, 3) := by decide +kernel
theorem dX10_isOpen_6 : decode cX10_isOpen 6 = .ok (.iconst 1, 1) := by decide +kernel
theorem dX10_isOpen_7 : decode cX10_isOpen 7 = .ok (.if_icmp .ne 7, 3) := by decide +kernel
theorem dX10_isOpen_10 : decode cX10_isOpen 10 = .ok (.iconst 1, 1) := by decide +kernel
theorem dX10_isOpen_11 : decode cX10_isOpen 11 = .ok (.goto 4, 3) := by decide +kernel
theorem dX10_isOpen_14 : decode cX10_isOpen 14 = .ok (.iconst 0, 1) := by decide +kernel
theorem dX10_isOpen_15 : decode cX10_isOpen 15 = .ok (.ireturn, 1) := by decide +kernel
theorem dX10_isTown_0 : decode cX10_isTown 0 = .ok (.iload_n 1, 1) := by decide +kernel
theorem dX10_isTown_1 : decode cX10_isTown 1 = .ok (.i2l, 1) := by decide +kernel
theorem dX10_isTown_2 : decode cX10_isTown 2 = .ok (.lconst 0, 1) := by decide +kernel
theorem dX10_isTown_3 : decode cX10_isTown 3 = .ok (.aload_n 0, 1) := by decide +kernel
theorem dX10_isTown_4 : decode cX10_isTown 4 = .ok (.invokevirtual 77, 3) := by decide +kernel
theorem dX10_isTown_7 : decode cX10_isTown 7 = .ok (.iconst 1, 1) := by decide +kernel
theorem dX10_isTown_8 : decode cX10_isTown 8 = .ok (.isub, 1) := by decide +kernel
theorem dX10_isTown_9 : decode cX10_isTown 9 = .ok (.i2l, 1) := by decide +kernel
theorem dX10_isTown_10 : decode cX10_isTown 10 = .ok (.invokestatic 81, 3) := by decide +kernel
theorem dX10_isTown_13 : decode cX10_isTown 13 = .ok (.ireturn, 1) := by decide +kernel
theorem dX10_isRoad_0 : decode cX10_isRoad 0 = .ok (.iload_n 1, 1) := by decide +kernel
theorem dX10_isRoad_1 : decode cX10_isRoad 1 = .ok (.i2l, 1) := by decide +kernel
theorem dX10_isRoad_2 : decode cX10_isRoad 2 = .ok (.lconst 0, 1) := by decide +kernel
theorem dX10_isRoad_3 : decode cX10_isRoad 3 = .ok (.aload_n 0, 1) := by decide +kernel
theorem dX10_isRoad_4 : decode cX10_isRoad 4 = .ok (.getfield 7, 3) := by decide +kernel
theorem dX10_isRoad_7 : decode cX10_isRoad 7 = .ok (.iconst 1, 1) := by decide +kernel
theorem dX10_isRoad_8 : decode cX10_isRoad 8 = .ok (.iaload, 1) := by decide +kernel
theorem dX10_isRoad_9 : decode cX10_isRoad 9 = .ok (.iconst 1, 1) := by decide +kernel
theorem dX10_isRoad_10 : decode cX10_isRoad 10 = .ok (.isub, 1) := by decide +kernel
theorem dX10_isRoad_11 : decode cX10_isRoad 11 = .ok (.i2l, 1) := by decide +kernel
theorem dX10_isRoad_12 : decode cX10_isRoad 12 = .ok (.invokestatic 81, 3) := by decide +kernel
theorem dX10_isRoad_15 : decode cX10_isRoad 15 = .ok (.ireturn, 1) := by decide +kernel
theorem dX10_isLength_0 : decode cX10_isLength 0 = .ok (.lload_n 0, 1) := by decide +kernel
theorem dX10_isLength_1 : decode cX10_isLength 1 = .ok (.ldc2_w 85, 3) := by decide +kernel
theorem dX10_isLength_4 : decode cX10_isLength 4 = .ok (.ldc2_w 87, 3) := by decide +kernel
theorem dX10_isLength_7 : decode cX10_isLength 7 = .ok (.invokestatic 81, 3) := by decide +kernel
theorem dX10_isLength_10 : decode cX10_isLength 10 = .ok (.ireturn, 1) := by decide +kernel
theorem dX10_finds_0 : decode cX10_finds 0 = .ok (.iconst 0, 1) := by decide +kernel
theorem dX10_finds_1 : decode cX10_finds 1 = .ok (.istore_n 3, 1) := by decide +kernel
theorem dX10_finds_2 : decode cX10_finds 2 = .ok (.iload_n 3, 1) := by decide +kernel
theorem dX10_finds_3 : decode cX10_finds 3 = .ok (.bipush 12, 2) := by decide +kernel
theorem dX10_finds_5 : decode cX10_finds 5 = .ok (.if_icmp .ge 27, 3) := by decide +kernel
theorem dX10_finds_8 : decode cX10_finds 8 = .ok (.aload_n 0, 1) := by decide +kernel
theorem dX10_finds_9 : decode cX10_finds 9 = .ok (.getfield 13, 3) := by decide +kernel
theorem dX10_finds_12 : decode cX10_finds 12 = .ok (.iload_n 3, 1) := by decide +kernel
theorem dX10_finds_13 : decode cX10_finds 13 = .ok (.iload_n 3, 1) := by decide +kernel
theorem dX10_finds_14 : decode cX10_finds 14 = .ok (.iload_n 1, 1) := by decide +kernel
theorem dX10_finds_15 : decode cX10_finds 15 = .ok (.if_icmp .ne 7, 3) := by decide +kernel
theorem dX10_finds_18 : decode cX10_finds 18 = .ok (.lconst 0, 1) := by decide +kernel
theorem dX10_finds_19 : decode cX10_finds 19 = .ok (.goto 6, 3) := by decide +kernel
theorem dX10_finds_22 : decode cX10_finds 22 = .ok (.ldc2_w 89, 3) := by decide +kernel
theorem dX10_finds_25 : decode cX10_finds 25 = .ok (.lastore, 1) := by decide +kernel
theorem dX10_finds_26 : decode cX10_finds 26 = .ok (.iinc 3 1, 3) := by decide +kernel
theorem dX10_finds_29 : decode cX10_finds 29 = .ok (.goto (-27), 3) := by decide +kernel
theorem dX10_finds_32 : decode cX10_finds 32 = .ok (.iconst 1, 1) := by decide +kernel
theorem dX10_finds_33 : decode cX10_finds 33 = .ok (.istore_n 3, 1) := by decide +kernel
theorem dX10_finds_34 : decode cX10_finds 34 = .ok (.iload_n 3, 1) := by decide +kernel
theorem dX10_finds_35 : decode cX10_finds 35 = .ok (.aload_n 0, 1) := by decide +kernel
theorem dX10_finds_36 : decode cX10_finds 36 = .ok (.invokevirtual 77, 3) := by decide +kernel
theorem dX10_finds_39 : decode cX10_finds 39 = .ok (.if_icmp .ge 121, 3) := by decide +kernel
theorem dX10_finds_42 : decode cX10_finds 42 = .ok (.iconst 0, 1) := by decide +kernel
theorem dX10_finds_43 : decode cX10_finds 43 = .ok (.istore 4, 2) := by decide +kernel
theorem dX10_finds_45 : decode cX10_finds 45 = .ok (.iload 4, 2) := by decide +kernel
theorem dX10_finds_47 : decode cX10_finds 47 = .ok (.aload_n 0, 1) := by decide +kernel
theorem dX10_finds_48 : decode cX10_finds 48 = .ok (.getfield 7, 3) := by decide +kernel
theorem dX10_finds_51 : decode cX10_finds 51 = .ok (.iconst 1, 1) := by decide +kernel
theorem dX10_finds_52 : decode cX10_finds 52 = .ok (.iaload, 1) := by decide +kernel
theorem dX10_finds_53 : decode cX10_finds 53 = .ok (.if_icmp .ge 101, 3) := by decide +kernel
theorem dX10_finds_56 : decode cX10_finds 56 = .ok (.iload 4, 2) := by decide +kernel
theorem dX10_finds_58 : decode cX10_finds 58 = .ok (.iload_n 2, 1) := by decide +kernel
theorem dX10_finds_59 : decode cX10_finds 59 = .ok (.if_icmp .eq 89, 3) := by decide +kernel
theorem dX10_finds_62 : decode cX10_finds 62 = .ok (.aload_n 0, 1) := by decide +kernel
theorem dX10_finds_63 : decode cX10_finds 63 = .ok (.iload 4, 2) := by decide +kernel
theorem dX10_finds_65 : decode cX10_finds 65 = .ok (.invokevirtual 91, 3) := by decide +kernel
theorem dX10_finds_68 : decode cX10_finds 68 = .ok (.ifCond .eq 80, 3) := by decide +kernel
theorem dX10_finds_71 : decode cX10_finds 71 = .ok (.aload_n 0, 1) := by decide +kernel
theorem dX10_finds_72 : decode cX10_finds 72 = .ok (.getfield 13, 3) := by decide +kernel
theorem dX10_finds_75 : decode cX10_finds 75 = .ok (.aload_n 0, 1) := by decide +kernel
theorem dX10_finds_76 : decode cX10_finds 76 = .ok (.iload 4, 2) := by decide +kernel
theorem dX10_finds_78 : decode cX10_finds 78 = .ok (.iconst 0, 1) := by decide +kernel
theorem dX10_finds_79 : decode cX10_finds 79 = .ok (.invokevirtual 73, 3) := by decide +kernel
theorem dX10_finds_82 : decode cX10_finds 82 = .ok (.laload, 1) := by decide +kernel
theorem dX10_finds_83 : decode cX10_finds 83 = .ok (.ldc2_w 89, 3) := by decide +kernel
theorem dX10_finds_86 : decode cX10_finds 86 = .ok (.lcmp, 1) := by decide +kernel
theorem dX10_finds_87 : decode cX10_finds 87 = .ok (.ifCond .ne 6, 3) := by decide +kernel
theorem dX10_finds_90 : decode cX10_finds 90 = .ok (.goto 58, 3) := by decide +kernel
theorem dX10_finds_93 : decode cX10_finds 93 = .ok (.aload_n 0, 1) := by decide +kernel
theorem dX10_finds_94 : decode cX10_finds 94 = .ok (.getfield 13, 3) := by decide +kernel
theorem dX10_finds_97 : decode cX10_finds 97 = .ok (.aload_n 0, 1) := by decide +kernel
theorem dX10_finds_98 : decode cX10_finds 98 = .ok (.iload 4, 2) := by decide +kernel
theorem dX10_finds_100 : decode cX10_finds 100 = .ok (.iconst 0, 1) := by decide +kernel
theorem dX10_finds_101 : decode cX10_finds 101 = .ok (.invokevirtual 73, 3) := by decide +kernel
theorem dX10_finds_104 : decode cX10_finds 104 = .ok (.laload, 1) := by decide +kernel
theorem dX10_finds_105 : decode cX10_finds 105 = .ok (.aload_n 0, 1) := by decide +kernel
theorem dX10_finds_106 : decode cX10_finds 106 = .ok (.iload 4, 2) := by decide +kernel
theorem dX10_finds_108 : decode cX10_finds 108 = .ok (.iconst 2, 1) := by decide +kernel
theorem dX10_finds_109 : decode cX10_finds 109 = .ok (.invokevirtual 73, 3) := by decide +kernel
theorem dX10_finds_112 : decode cX10_finds 112 = .ok (.i2l, 1) := by decide +kernel
theorem dX10_finds_113 : decode cX10_finds 113 = .ok (.ladd, 1) := by decide +kernel
theorem dX10_finds_114 : decode cX10_finds 114 = .ok (.lstore 5, 2) := by decide +kernel
theorem dX10_finds_116 : decode cX10_finds 116 = .ok (.lload 5, 2) := by decide +kernel
theorem dX10_finds_118 : decode cX10_finds 118 = .ok (.aload_n 0, 1) := by decide +kernel
theorem dX10_finds_119 : decode cX10_finds 119 = .ok (.getfield 13, 3) := by decide +kernel
theorem dX10_finds_122 : decode cX10_finds 122 = .ok (.aload_n 0, 1) := by decide +kernel
theorem dX10_finds_123 : decode cX10_finds 123 = .ok (.iload 4, 2) := by decide +kernel
theorem dX10_finds_125 : decode cX10_finds 125 = .ok (.iconst 1, 1) := by decide +kernel
theorem dX10_finds_126 : decode cX10_finds 126 = .ok (.invokevirtual 73, 3) := by decide +kernel
theorem dX10_finds_129 : decode cX10_finds 129 = .ok (.laload, 1) := by decide +kernel
theorem dX10_finds_130 : decode cX10_finds 130 = .ok (.lcmp, 1) := by decide +kernel
theorem dX10_finds_131 : decode cX10_finds 131 = .ok (.ifCond .ge 17, 3) := by decide +kernel
theorem dX10_finds_134 : decode cX10_finds 134 = .ok (.aload_n 0, 1) := by decide +kernel
theorem dX10_finds_135 : decode cX10_finds 135 = .ok (.getfield 13, 3) := by decide +kernel
theorem dX10_finds_138 : decode cX10_finds 138 = .ok (.aload_n 0, 1) := by decide +kernel
theorem dX10_finds_139 : decode cX10_finds 139 = .ok (.iload 4, 2) := by decide +kernel
theorem dX10_finds_141 : decode cX10_finds 141 = .ok (.iconst 1, 1) := by decide +kernel
theorem dX10_finds_142 : decode cX10_finds 142 = .ok (.invokevirtual 73, 3) := by decide +kernel
theorem dX10_finds_145 : decode cX10_finds 145 = .ok (.lload 5, 2) := by decide +kernel
theorem dX10_finds_147 : decode cX10_finds 147 = .ok (.lastore, 1) := by decide +kernel
theorem dX10_finds_148 : decode cX10_finds 148 = .ok (.iinc 4 1, 3) := by decide +kernel
theorem dX10_finds_151 : decode cX10_finds 151 = .ok (.goto (-106), 3) := by decide +kernel
theorem dX10_finds_154 : decode cX10_finds 154 = .ok (.iinc 3 1, 3) := by decide +kernel
theorem dX10_finds_157 : decode cX10_finds 157 = .ok (.goto (-123), 3) := by decide +kernel
theorem dX10_finds_160 : decode cX10_finds 160 = .ok (.return_, 1) := by decide +kernel
theorem dX10_settles_0 : decode cX10_settles 0 = .ok (.aload_n 0, 1) := by decide +kernel
theorem dX10_settles_1 : decode cX10_settles 1 = .ok (.aload_n 0, 1) := by decide +kernel
theorem dX10_settles_2 : decode cX10_settles 2 = .ok (.getfield 7, 3) := by decide +kernel
theorem dX10_settles_5 : decode cX10_settles 5 = .ok (.iconst 2, 1) := by decide +kernel
theorem dX10_settles_6 : decode cX10_settles 6 = .ok (.iaload, 1) := by decide +kernel
theorem dX10_settles_7 : decode cX10_settles 7 = .ok (.iconst (-1), 1) := by decide +kernel
theorem dX10_settles_8 : decode cX10_settles 8 = .ok (.invokevirtual 95, 3) := by decide +kernel
theorem dX10_settles_11 : decode cX10_settles 11 = .ok (.iconst 0, 1) := by decide +kernel
theorem dX10_settles_12 : decode cX10_settles 12 = .ok (.istore_n 1, 1) := by decide +kernel
theorem dX10_settles_13 : decode cX10_settles 13 = .ok (.iload_n 1, 1) := by decide +kernel
theorem dX10_settles_14 : decode cX10_settles 14 = .ok (.bipush 12, 2) := by decide +kernel
theorem dX10_settles_16 : decode cX10_settles 16 = .ok (.if_icmp .ge 21, 3) := by decide +kernel
theorem dX10_settles_19 : decode cX10_settles 19 = .ok (.aload_n 0, 1) := by decide +kernel
theorem dX10_settles_20 : decode cX10_settles 20 = .ok (.getfield 17, 3) := by decide +kernel
theorem dX10_settles_23 : decode cX10_settles 23 = .ok (.iload_n 1, 1) := by decide +kernel
theorem dX10_settles_24 : decode cX10_settles 24 = .ok (.aload_n 0, 1) := by decide +kernel
theorem dX10_settles_25 : decode cX10_settles 25 = .ok (.getfield 13, 3) := by decide +kernel
theorem dX10_settles_28 : decode cX10_settles 28 = .ok (.iload_n 1, 1) := by decide +kernel
theorem dX10_settles_29 : decode cX10_settles 29 = .ok (.laload, 1) := by decide +kernel
theorem dX10_settles_30 : decode cX10_settles 30 = .ok (.lastore, 1) := by decide +kernel
theorem dX10_settles_31 : decode cX10_settles 31 = .ok (.iinc 1 1, 3) := by decide +kernel
theorem dX10_settles_34 : decode cX10_settles 34 = .ok (.goto (-21), 3) := by decide +kernel
theorem dX10_settles_37 : decode cX10_settles 37 = .ok (.return_, 1) := by decide +kernel
theorem dX10_told_0 : decode cX10_told 0 = .ok (.lload_n 0, 1) := by decide +kernel
theorem dX10_told_1 : decode cX10_told 1 = .ok (.ldc2_w 89, 3) := by decide +kernel
theorem dX10_told_4 : decode cX10_told 4 = .ok (.lcmp, 1) := by decide +kernel
theorem dX10_told_5 : decode cX10_told 5 = .ok (.ifCond .lt 9, 3) := by decide +kernel
theorem dX10_told_8 : decode cX10_told 8 = .ok (.ldc2_w 99, 3) := by decide +kernel
theorem dX10_told_11 : decode cX10_told 11 = .ok (.goto 4, 3) := by decide +kernel
theorem dX10_told_14 : decode cX10_told 14 = .ok (.lload_n 0, 1) := by decide +kernel
theorem dX10_told_15 : decode cX10_told 15 = .ok (.lreturn, 1) := by decide +kernel
theorem dX10_isRing_0 : decode cX10_isRing 0 = .ok (.aload_n 0, 1) := by decide +kernel
theorem dX10_isRing_1 : decode cX10_isRing 1 = .ok (.aload_n 0, 1) := by decide +kernel
theorem dX10_isRing_2 : decode cX10_isRing 2 = .ok (.iload_n 1, 1) := by decide +kernel
theorem dX10_isRing_3 : decode cX10_isRing 3 = .ok (.iconst 1, 1) := by decide +kernel
theorem dX10_isRing_4 : decode cX10_isRing 4 = .ok (.invokevirtual 73, 3) := by decide +kernel
theorem dX10_isRing_7 : decode cX10_isRing 7 = .ok (.iload_n 1, 1) := by decide +kernel
theorem dX10_isRing_8 : decode cX10_isRing 8 = .ok (.invokevirtual 95, 3) := by decide +kernel
theorem dX10_isRing_11 : decode cX10_isRing 11 = .ok (.aload_n 0, 1) := by decide +kernel
theorem dX10_isRing_12 : decode cX10_isRing 12 = .ok (.getfield 13, 3) := by decide +kernel
theorem dX10_isRing_15 : decode cX10_isRing 15 = .ok (.aload_n 0, 1) := by decide +kernel
theorem dX10_isRing_16 : decode cX10_isRing 16 = .ok (.iload_n 1, 1) := by decide +kernel
theorem dX10_isRing_17 : decode cX10_isRing 17 = .ok (.iconst 0, 1) := by decide +kernel
theorem dX10_isRing_18 : decode cX10_isRing 18 = .ok (.invokevirtual 73, 3) := by decide +kernel
theorem dX10_isRing_21 : decode cX10_isRing 21 = .ok (.laload, 1) := by decide +kernel
theorem dX10_isRing_22 : decode cX10_isRing 22 = .ok (.ldc2_w 89, 3) := by decide +kernel
theorem dX10_isRing_25 : decode cX10_isRing 25 = .ok (.lcmp, 1) := by decide +kernel
theorem dX10_isRing_26 : decode cX10_isRing 26 = .ok (.ifCond .ge 31, 3) := by decide +kernel
theorem dX10_isRing_29 : decode cX10_isRing 29 = .ok (.aload_n 0, 1) := by decide +kernel
theorem dX10_isRing_30 : decode cX10_isRing 30 = .ok (.getfield 13, 3) := by decide +kernel
theorem dX10_isRing_33 : decode cX10_isRing 33 = .ok (.aload_n 0, 1) := by decide +kernel
theorem dX10_isRing_34 : decode cX10_isRing 34 = .ok (.iload_n 1, 1) := by decide +kernel
theorem dX10_isRing_35 : decode cX10_isRing 35 = .ok (.iconst 0, 1) := by decide +kernel
theorem dX10_isRing_36 : decode cX10_isRing 36 = .ok (.invokevirtual 73, 3) := by decide +kernel
theorem dX10_isRing_39 : decode cX10_isRing 39 = .ok (.laload, 1) := by decide +kernel
theorem dX10_isRing_40 : decode cX10_isRing 40 = .ok (.aload_n 0, 1) := by decide +kernel
theorem dX10_isRing_41 : decode cX10_isRing 41 = .ok (.iload_n 1, 1) := by decide +kernel
theorem dX10_isRing_42 : decode cX10_isRing 42 = .ok (.iconst 2, 1) := by decide +kernel
theorem dX10_isRing_43 : decode cX10_isRing 43 = .ok (.invokevirtual 73, 3) := by decide +kernel
theorem dX10_isRing_46 : decode cX10_isRing 46 = .ok (.i2l, 1) := by decide +kernel
theorem dX10_isRing_47 : decode cX10_isRing 47 = .ok (.ladd, 1) := by decide +kernel
theorem dX10_isRing_48 : decode cX10_isRing 48 = .ok (.lconst 0, 1) := by decide +kernel
theorem dX10_isRing_49 : decode cX10_isRing 49 = .ok (.lcmp, 1) := by decide +kernel
theorem dX10_isRing_50 : decode cX10_isRing 50 = .ok (.ifCond .gt 7, 3) := by decide +kernel
theorem dX10_isRing_53 : decode cX10_isRing 53 = .ok (.iconst 1, 1) := by decide +kernel
theorem dX10_isRing_54 : decode cX10_isRing 54 = .ok (.goto 4, 3) := by decide +kernel
theorem dX10_isRing_57 : decode cX10_isRing 57 = .ok (.iconst 0, 1) := by decide +kernel
theorem dX10_isRing_58 : decode cX10_isRing 58 = .ok (.ireturn, 1) := by decide +kernel
theorem dX10_isTooFar_0 : decode cX10_isTooFar 0 = .ok (.iconst 0, 1) := by decide +kernel
theorem dX10_isTooFar_1 : decode cX10_isTooFar 1 = .ok (.istore_n 1, 1) := by decide +kernel
theorem dX10_isTooFar_2 : decode cX10_isTooFar 2 = .ok (.iload_n 1, 1) := by decide +kernel
theorem dX10_isTooFar_3 : decode cX10_isTooFar 3 = .ok (.aload_n 0, 1) := by decide +kernel
theorem dX10_isTooFar_4 : decode cX10_isTooFar 4 = .ok (.invokevirtual 77, 3) := by decide +kernel
theorem dX10_isTooFar_7 : decode cX10_isTooFar 7 = .ok (.if_icmp .ge 42, 3) := by decide +kernel
theorem dX10_isTooFar_10 : decode cX10_isTooFar 10 = .ok (.aload_n 0, 1) := by decide +kernel
theorem dX10_isTooFar_11 : decode cX10_isTooFar 11 = .ok (.getfield 17, 3) := by decide +kernel
theorem dX10_isTooFar_14 : decode cX10_isTooFar 14 = .ok (.iload_n 1, 1) := by decide +kernel
theorem dX10_isTooFar_15 : decode cX10_isTooFar 15 = .ok (.laload, 1) := by decide +kernel
theorem dX10_isTooFar_16 : decode cX10_isTooFar 16 = .ok (.ldc2_w 89, 3) := by decide +kernel
theorem dX10_isTooFar_19 : decode cX10_isTooFar 19 = .ok (.lcmp, 1) := by decide +kernel
theorem dX10_isTooFar_20 : decode cX10_isTooFar 20 = .ok (.ifCond .ge 23, 3) := by decide +kernel
theorem dX10_isTooFar_23 : decode cX10_isTooFar 23 = .ok (.aload_n 0, 1) := by decide +kernel
theorem dX10_isTooFar_24 : decode cX10_isTooFar 24 = .ok (.getfield 17, 3) := by decide +kernel
theorem dX10_isTooFar_27 : decode cX10_isTooFar 27 = .ok (.iload_n 1, 1) := by decide +kernel
theorem dX10_isTooFar_28 : decode cX10_isTooFar 28 = .ok (.laload, 1) := by decide +kernel
theorem dX10_isTooFar_29 : decode cX10_isTooFar 29 = .ok (.aload_n 0, 1) := by decide +kernel
theorem dX10_isTooFar_30 : decode cX10_isTooFar 30 = .ok (.getfield 17, 3) := by decide +kernel
theorem dX10_isTooFar_33 : decode cX10_isTooFar 33 = .ok (.iload_n 1, 1) := by decide +kernel
theorem dX10_isTooFar_34 : decode cX10_isTooFar 34 = .ok (.laload, 1) := by decide +kernel
theorem dX10_isTooFar_35 : decode cX10_isTooFar 35 = .ok (.l2i, 1) := by decide +kernel
theorem dX10_isTooFar_36 : decode cX10_isTooFar 36 = .ok (.i2l, 1) := by decide +kernel
theorem dX10_isTooFar_37 : decode cX10_isTooFar 37 = .ok (.lcmp, 1) := by decide +kernel
theorem dX10_isTooFar_38 : decode cX10_isTooFar 38 = .ok (.ifCond .eq 5, 3) := by decide +kernel
theorem dX10_isTooFar_41 : decode cX10_isTooFar 41 = .ok (.iconst 1, 1) := by decide +kernel
theorem dX10_isTooFar_42 : decode cX10_isTooFar 42 = .ok (.ireturn, 1) := by decide +kernel
theorem dX10_isTooFar_43 : decode cX10_isTooFar 43 = .ok (.iinc 1 1, 3) := by decide +kernel
theorem dX10_isTooFar_46 : decode cX10_isTooFar 46 = .ok (.goto (-44), 3) := by decide +kernel
theorem dX10_isTooFar_49 : decode cX10_isTooFar 49 = .ok (.iconst 0, 1) := by decide +kernel
theorem dX10_isTooFar_50 : decode cX10_isTooFar 50 = .ok (.ireturn, 1) := by decide +kernel
theorem dX10_isBeyond_0 : decode cX10_isBeyond 0 = .ok (.aload_n 0, 1) := by decide +kernel
theorem dX10_isBeyond_1 : decode cX10_isBeyond 1 = .ok (.getfield 17, 3) := by decide +kernel
theorem dX10_isBeyond_4 : decode cX10_isBeyond 4 = .ok (.iload_n 1, 1) := by decide +kernel
theorem dX10_isBeyond_5 : decode cX10_isBeyond 5 = .ok (.laload, 1) := by decide +kernel
theorem dX10_isBeyond_6 : decode cX10_isBeyond 6 = .ok (.aload_n 0, 1) := by decide +kernel
theorem dX10_isBeyond_7 : decode cX10_isBeyond 7 = .ok (.getfield 7, 3) := by decide +kernel
theorem dX10_isBeyond_10 : decode cX10_isBeyond 10 = .ok (.sipush 172, 3) := by decide +kernel
theorem dX10_isBeyond_13 : decode cX10_isBeyond 13 = .ok (.iconst 3, 1) := by decide +kernel
theorem dX10_isBeyond_14 : decode cX10_isBeyond 14 = .ok (.iload_n 1, 1) := by decide +kernel
theorem dX10_isBeyond_15 : decode cX10_isBeyond 15 = .ok (.imul, 1) := by decide +kernel
theorem dX10_isBeyond_16 : decode cX10_isBeyond 16 = .ok (.iadd, 1) := by decide +kernel
theorem dX10_isBeyond_17 : decode cX10_isBeyond 17 = .ok (.iconst 1, 1) := by decide +kernel
theorem dX10_isBeyond_18 : decode cX10_isBeyond 18 = .ok (.iadd, 1) := by decide +kernel
theorem dX10_isBeyond_19 : decode cX10_isBeyond 19 = .ok (.iaload, 1) := by decide +kernel
theorem dX10_isBeyond_20 : decode cX10_isBeyond 20 = .ok (.i2l, 1) := by decide +kernel
theorem dX10_isBeyond_21 : decode cX10_isBeyond 21 = .ok (.lcmp, 1) := by decide +kernel
theorem dX10_isBeyond_22 : decode cX10_isBeyond 22 = .ok (.ifCond .le 7, 3) := by decide +kernel
theorem dX10_isBeyond_25 : decode cX10_isBeyond 25 = .ok (.iconst 1, 1) := by decide +kernel
theorem dX10_isBeyond_26 : decode cX10_isBeyond 26 = .ok (.goto 4, 3) := by decide +kernel
theorem dX10_isBeyond_29 : decode cX10_isBeyond 29 = .ok (.iconst 0, 1) := by decide +kernel
theorem dX10_isBeyond_30 : decode cX10_isBeyond 30 = .ok (.ireturn, 1) := by decide +kernel
theorem dX10_notesEvent_0 : decode cX10_notesEvent 0 = .ok (.aload_n 0, 1) := by decide +kernel
theorem dX10_notesEvent_1 : decode cX10_notesEvent 1 = .ok (.getfield 7, 3) := by decide +kernel
theorem dX10_notesEvent_4 : decode cX10_notesEvent 4 = .ok (.sipush 172, 3) := by decide +kernel
theorem dX10_notesEvent_7 : decode cX10_notesEvent 7 = .ok (.iconst 3, 1) := by decide +kernel
theorem dX10_notesEvent_8 : decode cX10_notesEvent 8 = .ok (.iload_n 1, 1) := by decide +kernel
theorem dX10_notesEvent_9 : decode cX10_notesEvent 9 = .ok (.imul, 1) := by decide +kernel
theorem dX10_notesEvent_10 : decode cX10_notesEvent 10 = .ok (.iadd, 1) := by decide +kernel
theorem dX10_notesEvent_11 : decode cX10_notesEvent 11 = .ok (.iconst 2, 1) := by decide +kernel
theorem dX10_notesEvent_12 : decode cX10_notesEvent 12 = .ok (.iadd, 1) := by decide +kernel
theorem dX10_notesEvent_13 : decode cX10_notesEvent 13 = .ok (.aload_n 0, 1) := by decide +kernel
theorem dX10_notesEvent_14 : decode cX10_notesEvent 14 = .ok (.iload_n 1, 1) := by decide +kernel
theorem dX10_notesEvent_15 : decode cX10_notesEvent 15 = .ok (.invokevirtual 101, 3) := by decide +kernel
theorem dX10_notesEvent_18 : decode cX10_notesEvent 18 = .ok (.ifCond .eq 7, 3) := by decide +kernel
theorem dX10_notesEvent_21 : decode cX10_notesEvent 21 = .ok (.iconst 1, 1) := by decide +kernel
theorem dX10_notesEvent_22 : decode cX10_notesEvent 22 = .ok (.goto 4, 3) := by decide +kernel
theorem dX10_notesEvent_25 : decode cX10_notesEvent 25 = .ok (.iconst 0, 1) := by decide +kernel
theorem dX10_notesEvent_26 : decode cX10_notesEvent 26 = .ok (.iastore, 1) := by decide +kernel
theorem dX10_notesEvent_27 : decode cX10_notesEvent 27 = .ok (.aload_n 0, 1) := by decide +kernel
theorem dX10_notesEvent_28 : decode cX10_notesEvent 28 = .ok (.getfield 7, 3) := by decide +kernel
theorem dX10_notesEvent_31 : decode cX10_notesEvent 31 = .ok (.iconst 4, 1) := by decide +kernel
theorem dX10_notesEvent_32 : decode cX10_notesEvent 32 = .ok (.iaload, 1) := by decide +kernel
theorem dX10_notesEvent_33 : decode cX10_notesEvent 33 = .ok (.bipush 100, 2) := by decide +kernel
theorem dX10_notesEvent_35 : decode cX10_notesEvent 35 = .ok (.if_icmp .ne 4, 3) := by decide +kernel
theorem dX10_notesEvent_38 : decode cX10_notesEvent 38 = .ok (.return_, 1) := by decide +kernel
theorem dX10_notesEvent_39 : decode cX10_notesEvent 39 = .ok (.sipush 208, 3) := by decide +kernel
theorem dX10_notesEvent_42 : decode cX10_notesEvent 42 = .ok (.iconst 5, 1) := by decide +kernel
theorem dX10_notesEvent_43 : decode cX10_notesEvent 43 = .ok (.aload_n 0, 1) := by decide +kernel
theorem dX10_notesEvent_44 : decode cX10_notesEvent 44 = .ok (.getfield 7, 3) := by decide +kernel
theorem dX10_notesEvent_47 : decode cX10_notesEvent 47 = .ok (.iconst 4, 1) := by decide +kernel
theorem dX10_notesEvent_48 : decode cX10_notesEvent 48 = .ok (.iaload, 1) := by decide +kernel
theorem dX10_notesEvent_49 : decode cX10_notesEvent 49 = .ok (.imul, 1) := by decide +kernel
theorem dX10_notesEvent_50 : decode cX10_notesEvent 50 = .ok (.iadd, 1) := by decide +kernel
theorem dX10_notesEvent_51 : decode cX10_notesEvent 51 = .ok (.istore_n 2, 1) := by decide +kernel
theorem dX10_notesEvent_52 : decode cX10_notesEvent 52 = .ok (.aload_n 0, 1) := by decide +kernel
theorem dX10_notesEvent_53 : decode cX10_notesEvent 53 = .ok (.getfield 7, 3) := by decide +kernel
theorem dX10_notesEvent_56 : decode cX10_notesEvent 56 = .ok (.iload_n 2, 1) := by decide +kernel
theorem dX10_notesEvent_57 : decode cX10_notesEvent 57 = .ok (.aload_n 0, 1) := by decide +kernel
theorem dX10_notesEvent_58 : decode cX10_notesEvent 58 = .ok (.getfield 7, 3) := by decide +kernel
theorem dX10_notesEvent_61 : decode cX10_notesEvent 61 = .ok (.iconst 3, 1) := by decide +kernel
theorem dX10_notesEvent_62 : decode cX10_notesEvent 62 = .ok (.iaload, 1) := by decide +kernel
theorem dX10_notesEvent_63 : decode cX10_notesEvent 63 = .ok (.iastore, 1) := by decide +kernel
theorem dX10_notesEvent_64 : decode cX10_notesEvent 64 = .ok (.aload_n 0, 1) := by decide +kernel
theorem dX10_notesEvent_65 : decode cX10_notesEvent 65 = .ok (.getfield 7, 3) := by decide +kernel
theorem dX10_notesEvent_68 : decode cX10_notesEvent 68 = .ok (.iload_n 2, 1) := by decide +kernel
theorem dX10_notesEvent_69 : decode cX10_notesEvent 69 = .ok (.iconst 1, 1) := by decide +kernel
theorem dX10_notesEvent_70 : decode cX10_notesEvent 70 = .ok (.iadd, 1) := by decide +kernel
theorem dX10_notesEvent_71 : decode cX10_notesEvent 71 = .ok (.iload_n 1, 1) := by decide +kernel
theorem dX10_notesEvent_72 : decode cX10_notesEvent 72 = .ok (.iastore, 1) := by decide +kernel
theorem dX10_notesEvent_73 : decode cX10_notesEvent 73 = .ok (.aload_n 0, 1) := by decide +kernel
theorem dX10_notesEvent_74 : decode cX10_notesEvent 74 = .ok (.getfield 7, 3) := by decide +kernel
theorem dX10_notesEvent_77 : decode cX10_notesEvent 77 = .ok (.iload_n 2, 1) := by decide +kernel
theorem dX10_notesEvent_78 : decode cX10_notesEvent 78 = .ok (.iconst 2, 1) := by decide +kernel
theorem dX10_notesEvent_79 : decode cX10_notesEvent 79 = .ok (.iadd, 1) := by decide +kernel
theorem dX10_notesEvent_80 : decode cX10_notesEvent 80 = .ok (.aload_n 0, 1) := by decide +kernel
theorem dX10_notesEvent_81 : decode cX10_notesEvent 81 = .ok (.iload_n 1, 1) := by decide +kernel
theorem dX10_notesEvent_82 : decode cX10_notesEvent 82 = .ok (.invokevirtual 101, 3) := by decide +kernel
theorem dX10_notesEvent_85 : decode cX10_notesEvent 85 = .ok (.ifCond .eq 7, 3) := by decide +kernel
theorem dX10_notesEvent_88 : decode cX10_notesEvent 88 = .ok (.iconst 1, 1) := by decide +kernel
theorem dX10_notesEvent_89 : decode cX10_notesEvent 89 = .ok (.goto 4, 3) := by decide +kernel
theorem dX10_notesEvent_92 : decode cX10_notesEvent 92 = .ok (.iconst 0, 1) := by decide +kernel
theorem dX10_notesEvent_93 : decode cX10_notesEvent 93 = .ok (.iastore, 1) := by decide +kernel
theorem dX10_notesEvent_94 : decode cX10_notesEvent 94 = .ok (.aload_n 0, 1) := by decide +kernel
theorem dX10_notesEvent_95 : decode cX10_notesEvent 95 = .ok (.getfield 7, 3) := by decide +kernel
theorem dX10_notesEvent_98 : decode cX10_notesEvent 98 = .ok (.iload_n 2, 1) := by decide +kernel
theorem dX10_notesEvent_99 : decode cX10_notesEvent 99 = .ok (.iconst 3, 1) := by decide +kernel
theorem dX10_notesEvent_100 : decode cX10_notesEvent 100 = .ok (.iadd, 1) := by decide +kernel
theorem dX10_notesEvent_101 : decode cX10_notesEvent 101 = .ok (.aload_n 0, 1) := by decide +kernel
theorem dX10_notesEvent_102 : decode cX10_notesEvent 102 = .ok (.getfield 17, 3) := by decide +kernel
theorem dX10_notesEvent_105 : decode cX10_notesEvent 105 = .ok (.iload_n 1, 1) := by decide +kernel
theorem dX10_notesEvent_106 : decode cX10_notesEvent 106 = .ok (.laload, 1) := by decide +kernel
theorem dX10_notesEvent_107 : decode cX10_notesEvent 107 = .ok (.ldc2_w 89, 3) := by decide +kernel
theorem dX10_notesEvent_110 : decode cX10_notesEvent 110 = .ok (.lcmp, 1) := by decide +kernel
theorem dX10_notesEvent_111 : decode cX10_notesEvent 111 = .ok (.ifCond .ne 7, 3) := by decide +kernel
theorem dX10_notesEvent_114 : decode cX10_notesEvent 114 = .ok (.iconst 0, 1) := by decide +kernel
theorem dX10_notesEvent_115 : decode cX10_notesEvent 115 = .ok (.goto 10, 3) := by decide +kernel
theorem dX10_notesEvent_118 : decode cX10_notesEvent 118 = .ok (.aload_n 0, 1) := by decide +kernel
theorem dX10_notesEvent_119 : decode cX10_notesEvent 119 = .ok (.getfield 17, 3) := by decide +kernel
theorem dX10_notesEvent_122 : decode cX10_notesEvent 122 = .ok (.iload_n 1, 1) := by decide +kernel
theorem dX10_notesEvent_123 : decode cX10_notesEvent 123 = .ok (.laload, 1) := by decide +kernel
theorem dX10_notesEvent_124 : decode cX10_notesEvent 124 = .ok (.l2i, 1) := by decide +kernel
theorem dX10_notesEvent_125 : decode cX10_notesEvent 125 = .ok (.iastore, 1) := by decide +kernel
theorem dX10_notesEvent_126 : decode cX10_notesEvent 126 = .ok (.aload_n 0, 1) := by decide +kernel
theorem dX10_notesEvent_127 : decode cX10_notesEvent 127 = .ok (.getfield 7, 3) := by decide +kernel
theorem dX10_notesEvent_130 : decode cX10_notesEvent 130 = .ok (.iload_n 2, 1) := by decide +kernel
theorem dX10_notesEvent_131 : decode cX10_notesEvent 131 = .ok (.iconst 4, 1) := by decide +kernel
theorem dX10_notesEvent_132 : decode cX10_notesEvent 132 = .ok (.iadd, 1) := by decide +kernel
theorem dX10_notesEvent_133 : decode cX10_notesEvent 133 = .ok (.aload_n 0, 1) := by decide +kernel
theorem dX10_notesEvent_134 : decode cX10_notesEvent 134 = .ok (.getfield 17, 3) := by decide +kernel
theorem dX10_notesEvent_137 : decode cX10_notesEvent 137 = .ok (.iload_n 1, 1) := by decide +kernel
theorem dX10_notesEvent_138 : decode cX10_notesEvent 138 = .ok (.laload, 1) := by decide +kernel
theorem dX10_notesEvent_139 : decode cX10_notesEvent 139 = .ok (.ldc2_w 89, 3) := by decide +kernel
theorem dX10_notesEvent_142 : decode cX10_notesEvent 142 = .ok (.lcmp, 1) := by decide +kernel
theorem dX10_notesEvent_143 : decode cX10_notesEvent 143 = .ok (.ifCond .ne 7, 3) := by decide +kernel
theorem dX10_notesEvent_146 : decode cX10_notesEvent 146 = .ok (.iconst 0, 1) := by decide +kernel
theorem dX10_notesEvent_147 : decode cX10_notesEvent 147 = .ok (.goto 4, 3) := by decide +kernel
theorem dX10_notesEvent_150 : decode cX10_notesEvent 150 = .ok (.iconst 1, 1) := by decide +kernel
theorem dX10_notesEvent_151 : decode cX10_notesEvent 151 = .ok (.iastore, 1) := by decide +kernel
theorem dX10_notesEvent_152 : decode cX10_notesEvent 152 = .ok (.aload_n 0, 1) := by decide +kernel
theorem dX10_notesEvent_153 : decode cX10_notesEvent 153 = .ok (.getfield 7, 3) := by decide +kernel
theorem dX10_notesEvent_156 : decode cX10_notesEvent 156 = .ok (.iconst 4, 1) := by decide +kernel
theorem dX10_notesEvent_157 : decode cX10_notesEvent 157 = .ok (.aload_n 0, 1) := by decide +kernel
theorem dX10_notesEvent_158 : decode cX10_notesEvent 158 = .ok (.getfield 7, 3) := by decide +kernel
theorem dX10_notesEvent_161 : decode cX10_notesEvent 161 = .ok (.iconst 4, 1) := by decide +kernel
theorem dX10_notesEvent_162 : decode cX10_notesEvent 162 = .ok (.iaload, 1) := by decide +kernel
theorem dX10_notesEvent_163 : decode cX10_notesEvent 163 = .ok (.iconst 1, 1) := by decide +kernel
theorem dX10_notesEvent_164 : decode cX10_notesEvent 164 = .ok (.iadd, 1) := by decide +kernel
theorem dX10_notesEvent_165 : decode cX10_notesEvent 165 = .ok (.iastore, 1) := by decide +kernel
theorem dX10_notesEvent_166 : decode cX10_notesEvent 166 = .ok (.return_, 1) := by decide +kernel
theorem dX10_touches_0 : decode cX10_touches 0 = .ok (.iconst 0, 1) := by decide +kernel
theorem dX10_touches_1 : decode cX10_touches 1 = .ok (.istore_n 1, 1) := by decide +kernel
theorem dX10_touches_2 : decode cX10_touches 2 = .ok (.iconst 0, 1) := by decide +kernel
theorem dX10_touches_3 : decode cX10_touches 3 = .ok (.istore_n 2, 1) := by decide +kernel
theorem dX10_touches_4 : decode cX10_touches 4 = .ok (.iload_n 2, 1) := by decide +kernel
theorem dX10_touches_5 : decode cX10_touches 5 = .ok (.aload_n 0, 1) := by decide +kernel
theorem dX10_touches_6 : decode cX10_touches 6 = .ok (.invokevirtual 77, 3) := by decide +kernel
theorem dX10_touches_9 : decode cX10_touches 9 = .ok (.if_icmp .ge 101, 3) := by decide +kernel
theorem dX10_touches_12 : decode cX10_touches 12 = .ok (.aload_n 0, 1) := by decide +kernel
theorem dX10_touches_13 : decode cX10_touches 13 = .ok (.getfield 17, 3) := by decide +kernel
theorem dX10_touches_16 : decode cX10_touches 16 = .ok (.iload_n 2, 1) := by decide +kernel
theorem dX10_touches_17 : decode cX10_touches 17 = .ok (.laload, 1) := by decide +kernel
theorem dX10_touches_18 : decode cX10_touches 18 = .ok (.aload_n 0, 1) := by decide +kernel
theorem dX10_touches_19 : decode cX10_touches 19 = .ok (.getfield 20, 3) := by decide +kernel
theorem dX10_touches_22 : decode cX10_touches 22 = .ok (.iload_n 2, 1) := by decide +kernel
theorem dX10_touches_23 : decode cX10_touches 23 = .ok (.laload, 1) := by decide +kernel
theorem dX10_touches_24 : decode cX10_touches 24 = .ok (.lcmp, 1) := by decide +kernel
theorem dX10_touches_25 : decode cX10_touches 25 = .ok (.ifCond .ne 6, 3) := by decide +kernel
theorem dX10_touches_28 : decode cX10_touches 28 = .ok (.goto 76, 3) := by decide +kernel
theorem dX10_touches_31 : decode cX10_touches 31 = .ok (.iload_n 1, 1) := by decide +kernel
theorem dX10_touches_32 : decode cX10_touches 32 = .ok (.istore_n 3, 1) := by decide +kernel
theorem dX10_touches_33 : decode cX10_touches 33 = .ok (.iload_n 3, 1) := by decide +kernel
theorem dX10_touches_34 : decode cX10_touches 34 = .ok (.ifCond .le 56, 3) := by decide +kernel
theorem dX10_touches_37 : decode cX10_touches 37 = .ok (.aload_n 0, 1) := by decide +kernel
theorem dX10_touches_38 : decode cX10_touches 38 = .ok (.getfield 17, 3) := by decide +kernel
theorem dX10_touches_41 : decode cX10_touches 41 = .ok (.aload_n 0, 1) := by decide +kernel
theorem dX10_touches_42 : decode cX10_touches 42 = .ok (.getfield 7, 3) := by decide +kernel
theorem dX10_touches_45 : decode cX10_touches 45 = .ok (.bipush 16, 2) := by decide +kernel
theorem dX10_touches_47 : decode cX10_touches 47 = .ok (.iload_n 3, 1) := by decide +kernel
theorem dX10_touches_48 : decode cX10_touches 48 = .ok (.iadd, 1) := by decide +kernel
theorem dX10_touches_49 : decode cX10_touches 49 = .ok (.iconst 1, 1) := by decide +kernel
theorem dX10_touches_50 : decode cX10_touches 50 = .ok (.isub, 1) := by decide +kernel
theorem dX10_touches_51 : decode cX10_touches 51 = .ok (.iaload, 1) := by decide +kernel
theorem dX10_touches_52 : decode cX10_touches 52 = .ok (.laload, 1) := by decide +kernel
theorem dX10_touches_53 : decode cX10_touches 53 = .ok (.aload_n 0, 1) := by decide +kernel
theorem dX10_touches_54 : decode cX10_touches 54 = .ok (.getfield 17, 3) := by decide +kernel
theorem dX10_touches_57 : decode cX10_touches 57 = .ok (.iload_n 2, 1) := by decide +kernel
theorem dX10_touches_58 : decode cX10_touches 58 = .ok (.laload, 1) := by decide +kernel
theorem dX10_touches_59 : decode cX10_touches 59 = .ok (.lcmp, 1) := by decide +kernel
theorem dX10_touches_60 : decode cX10_touches 60 = .ok (.ifCond .le 30, 3) := by decide +kernel
theorem dX10_touches_63 : decode cX10_touches 63 = .ok (.aload_n 0, 1) := by decide +kernel
theorem dX10_touches_64 : decode cX10_touches 64 = .ok (.getfield 7, 3) := by decide +kernel
theorem dX10_touches_67 : decode cX10_touches 67 = .ok (.bipush 16, 2) := by decide +kernel
theorem dX10_touches_69 : decode cX10_touches 69 = .ok (.iload_n 3, 1) := by decide +kernel
theorem dX10_touches_70 : decode cX10_touches 70 = .ok (.iadd, 1) := by decide +kernel
theorem dX10_touches_71 : decode cX10_touches 71 = .ok (.aload_n 0, 1) := by decide +kernel
theorem dX10_touches_72 : decode cX10_touches 72 = .ok (.getfield 7, 3) := by decide +kernel
theorem dX10_touches_75 : decode cX10_touches 75 = .ok (.bipush 16, 2) := by decide +kernel
theorem dX10_touches_77 : decode cX10_touches 77 = .ok (.iload_n 3, 1) := by decide +kernel
theorem dX10_touches_78 : decode cX10_touches 78 = .ok (.iadd, 1) := by decide +kernel
theorem dX10_touches_79 : decode cX10_touches 79 = .ok (.iconst 1, 1) := by decide +kernel
theorem dX10_touches_80 : decode cX10_touches 80 = .ok (.isub, 1) := by decide +kernel
theorem dX10_touches_81 : decode cX10_touches 81 = .ok (.iaload, 1) := by decide +kernel
theorem dX10_touches_82 : decode cX10_touches 82 = .ok (.iastore, 1) := by decide +kernel
theorem dX10_touches_83 : decode cX10_touches 83 = .ok (.iload_n 3, 1) := by decide +kernel
theorem dX10_touches_84 : decode cX10_touches 84 = .ok (.iconst 1, 1) := by decide +kernel
theorem dX10_touches_85 : decode cX10_touches 85 = .ok (.isub, 1) := by decide +kernel
theorem dX10_touches_86 : decode cX10_touches 86 = .ok (.istore_n 3, 1) := by decide +kernel
theorem dX10_touches_87 : decode cX10_touches 87 = .ok (.goto (-54), 3) := by decide +kernel
theorem dX10_touches_90 : decode cX10_touches 90 = .ok (.aload_n 0, 1) := by decide +kernel
theorem dX10_touches_91 : decode cX10_touches 91 = .ok (.getfield 7, 3) := by decide +kernel
theorem dX10_touches_94 : decode cX10_touches 94 = .ok (.bipush 16, 2) := by decide +kernel
theorem dX10_touches_96 : decode cX10_touches 96 = .ok (.iload_n 3, 1) := by decide +kernel
theorem dX10_touches_97 : decode cX10_touches 97 = .ok (.iadd, 1) := by decide +kernel
theorem dX10_touches_98 : decode cX10_touches 98 = .ok (.iload_n 2, 1) := by decide +kernel
theorem dX10_touches_99 : decode cX10_touches 99 = .ok (.iastore, 1) := by decide +kernel
theorem dX10_touches_100 : decode cX10_touches 100 = .ok (.iload_n 1, 1) := by decide +kernel
theorem dX10_touches_101 : decode cX10_touches 101 = .ok (.iconst 1, 1) := by decide +kernel
theorem dX10_touches_102 : decode cX10_touches 102 = .ok (.iadd, 1) := by decide +kernel
theorem dX10_touches_103 : decode cX10_touches 103 = .ok (.istore_n 1, 1) := by decide +kernel
theorem dX10_touches_104 : decode cX10_touches 104 = .ok (.iinc 2 1, 3) := by decide +kernel
theorem dX10_touches_107 : decode cX10_touches 107 = .ok (.goto (-103), 3) := by decide +kernel
theorem dX10_touches_110 : decode cX10_touches 110 = .ok (.aload_n 0, 1) := by decide +kernel
theorem dX10_touches_111 : decode cX10_touches 111 = .ok (.getfield 7, 3) := by decide +kernel
theorem dX10_touches_114 : decode cX10_touches 114 = .ok (.bipush 6, 2) := by decide +kernel
theorem dX10_touches_116 : decode cX10_touches 116 = .ok (.iload_n 1, 1) := by decide +kernel
theorem dX10_touches_117 : decode cX10_touches 117 = .ok (.iastore, 1) := by decide +kernel
theorem dX10_touches_118 : decode cX10_touches 118 = .ok (.iload_n 1, 1) := by decide +kernel
theorem dX10_touches_119 : decode cX10_touches 119 = .ok (.ireturn, 1) := by decide +kernel
theorem dX10_begins_0 : decode cX10_begins 0 = .ok (.aload_n 0, 1) := by decide +kernel
theorem dX10_begins_1 : decode cX10_begins 1 = .ok (.invokevirtual 104, 3) := by decide +kernel
theorem dX10_begins_4 : decode cX10_begins 4 = .ok (.iconst 0, 1) := by decide +kernel
theorem dX10_begins_5 : decode cX10_begins 5 = .ok (.istore_n 1, 1) := by decide +kernel
theorem dX10_begins_6 : decode cX10_begins 6 = .ok (.iload_n 1, 1) := by decide +kernel
theorem dX10_begins_7 : decode cX10_begins 7 = .ok (.bipush 12, 2) := by decide +kernel
theorem dX10_begins_9 : decode cX10_begins 9 = .ok (.if_icmp .ge 21, 3) := by decide +kernel
theorem dX10_begins_12 : decode cX10_begins 12 = .ok (.aload_n 0, 1) := by decide +kernel
theorem dX10_begins_13 : decode cX10_begins 13 = .ok (.getfield 20, 3) := by decide +kernel
theorem dX10_begins_16 : decode cX10_begins 16 = .ok (.iload_n 1, 1) := by decide +kernel
theorem dX10_begins_17 : decode cX10_begins 17 = .ok (.aload_n 0, 1) := by decide +kernel
theorem dX10_begins_18 : decode cX10_begins 18 = .ok (.getfield 17, 3) := by decide +kernel
theorem dX10_begins_21 : decode cX10_begins 21 = .ok (.iload_n 1, 1) := by decide +kernel
theorem dX10_begins_22 : decode cX10_begins 22 = .ok (.laload, 1) := by decide +kernel
theorem dX10_begins_23 : decode cX10_begins 23 = .ok (.lastore, 1) := by decide +kernel
theorem dX10_begins_24 : decode cX10_begins 24 = .ok (.iinc 1 1, 3) := by decide +kernel
theorem dX10_begins_27 : decode cX10_begins 27 = .ok (.goto (-21), 3) := by decide +kernel
theorem dX10_begins_30 : decode cX10_begins 30 = .ok (.aload_n 0, 1) := by decide +kernel
theorem dX10_begins_31 : decode cX10_begins 31 = .ok (.iconst 0, 1) := by decide +kernel
theorem dX10_begins_32 : decode cX10_begins 32 = .ok (.iconst 2, 1) := by decide +kernel
theorem dX10_begins_33 : decode cX10_begins 33 = .ok (.invokevirtual 107, 3) := by decide +kernel
theorem dX10_begins_36 : decode cX10_begins 36 = .ok (.return_, 1) := by decide +kernel
theorem dX10_ends_0 : decode cX10_ends 0 = .ok (.iload_n 1, 1) := by decide +kernel
theorem dX10_ends_1 : decode cX10_ends 1 = .ok (.ifCond .eq 8, 3) := by decide +kernel
theorem dX10_ends_4 : decode cX10_ends 4 = .ok (.bipush (-3), 2) := by decide +kernel
theorem dX10_ends_6 : decode cX10_ends 6 = .ok (.goto 4, 3) := by decide +kernel
theorem dX10_ends_9 : decode cX10_ends 9 = .ok (.iconst 0, 1) := by decide +kernel
theorem dX10_ends_10 : decode cX10_ends 10 = .ok (.istore_n 2, 1) := by decide +kernel
theorem dX10_ends_11 : decode cX10_ends 11 = .ok (.iload_n 2, 1) := by decide +kernel
theorem dX10_ends_12 : decode cX10_ends 12 = .ok (.ifCond .ne 17, 3) := by decide +kernel
theorem dX10_ends_15 : decode cX10_ends 15 = .ok (.aload_n 0, 1) := by decide +kernel
theorem dX10_ends_16 : decode cX10_ends 16 = .ok (.invokevirtual 104, 3) := by decide +kernel
theorem dX10_ends_19 : decode cX10_ends 19 = .ok (.aload_n 0, 1) := by decide +kernel
theorem dX10_ends_20 : decode cX10_ends 20 = .ok (.invokevirtual 110, 3) := by decide +kernel
theorem dX10_ends_23 : decode cX10_ends 23 = .ok (.ifCond .eq 6, 3) := by decide +kernel
theorem dX10_ends_26 : decode cX10_ends 26 = .ok (.bipush (-4), 2) := by decide +kernel
theorem dX10_ends_28 : decode cX10_ends 28 = .ok (.istore_n 2, 1) := by decide +kernel
theorem dX10_ends_29 : decode cX10_ends 29 = .ok (.iload_n 2, 1) := by decide +kernel
theorem dX10_ends_30 : decode cX10_ends 30 = .ok (.ifCond .ge 11, 3) := by decide +kernel
theorem dX10_ends_33 : decode cX10_ends 33 = .ok (.aload_n 0, 1) := by decide +kernel
theorem dX10_ends_34 : decode cX10_ends 34 = .ok (.iconst 2, 1) := by decide +kernel
theorem dX10_ends_35 : decode cX10_ends 35 = .ok (.iconst 0, 1) := by decide +kernel
theorem dX10_ends_36 : decode cX10_ends 36 = .ok (.invokevirtual 107, 3) := by decide +kernel
theorem dX10_ends_39 : decode cX10_ends 39 = .ok (.iload_n 2, 1) := by decide +kernel
theorem dX10_ends_40 : decode cX10_ends 40 = .ok (.ireturn, 1) := by decide +kernel
theorem dX10_ends_41 : decode cX10_ends 41 = .ok (.aload_n 0, 1) := by decide +kernel
theorem dX10_ends_42 : decode cX10_ends 42 = .ok (.getfield 7, 3) := by decide +kernel
theorem dX10_ends_45 : decode cX10_ends 45 = .ok (.iconst 3, 1) := by decide +kernel
theorem dX10_ends_46 : decode cX10_ends 46 = .ok (.aload_n 0, 1) := by decide +kernel
theorem dX10_ends_47 : decode cX10_ends 47 = .ok (.getfield 7, 3) := by decide +kernel
theorem dX10_ends_50 : decode cX10_ends 50 = .ok (.iconst 3, 1) := by decide +kernel
theorem dX10_ends_51 : decode cX10_ends 51 = .ok (.iaload, 1) := by decide +kernel
theorem dX10_ends_52 : decode cX10_ends 52 = .ok (.iconst 1, 1) := by decide +kernel
theorem dX10_ends_53 : decode cX10_ends 53 = .ok (.iadd, 1) := by decide +kernel
theorem dX10_ends_54 : decode cX10_ends 54 = .ok (.iastore, 1) := by decide +kernel
theorem dX10_ends_55 : decode cX10_ends 55 = .ok (.iconst 0, 1) := by decide +kernel
theorem dX10_ends_56 : decode cX10_ends 56 = .ok (.istore_n 3, 1) := by decide +kernel
theorem dX10_ends_57 : decode cX10_ends 57 = .ok (.iload_n 3, 1) := by decide +kernel
theorem dX10_ends_58 : decode cX10_ends 58 = .ok (.aload_n 0, 1) := by decide +kernel
theorem dX10_ends_59 : decode cX10_ends 59 = .ok (.invokevirtual 77, 3) := by decide +kernel
theorem dX10_ends_62 : decode cX10_ends 62 = .ok (.if_icmp .ge 61, 3) := by decide +kernel
theorem dX10_ends_65 : decode cX10_ends 65 = .ok (.aload_n 0, 1) := by decide +kernel
theorem dX10_ends_66 : decode cX10_ends 66 = .ok (.getfield 7, 3) := by decide +kernel
theorem dX10_ends_69 : decode cX10_ends 69 = .ok (.sipush 172, 3) := by decide +kernel
theorem dX10_ends_72 : decode cX10_ends 72 = .ok (.iconst 3, 1) := by decide +kernel
theorem dX10_ends_73 : decode cX10_ends 73 = .ok (.iload_n 3, 1) := by decide +kernel
theorem dX10_ends_74 : decode cX10_ends 74 = .ok (.imul, 1) := by decide +kernel
theorem dX10_ends_75 : decode cX10_ends 75 = .ok (.iadd, 1) := by decide +kernel
theorem dX10_ends_76 : decode cX10_ends 76 = .ok (.iaload, 1) := by decide +kernel
theorem dX10_ends_77 : decode cX10_ends 77 = .ok (.iconst 1, 1) := by decide +kernel
theorem dX10_ends_78 : decode cX10_ends 78 = .ok (.if_icmp .ne 39, 3) := by decide +kernel
theorem dX10_ends_81 : decode cX10_ends 81 = .ok (.aload_n 0, 1) := by decide +kernel
theorem dX10_ends_82 : decode cX10_ends 82 = .ok (.iload_n 3, 1) := by decide +kernel
theorem dX10_ends_83 : decode cX10_ends 83 = .ok (.invokevirtual 101, 3) := by decide +kernel
theorem dX10_ends_86 : decode cX10_ends 86 = .ok (.aload_n 0, 1) := by decide +kernel
theorem dX10_ends_87 : decode cX10_ends 87 = .ok (.getfield 7, 3) := by decide +kernel
theorem dX10_ends_90 : decode cX10_ends 90 = .ok (.sipush 172, 3) := by decide +kernel
theorem dX10_ends_93 : decode cX10_ends 93 = .ok (.iconst 3, 1) := by decide +kernel
theorem dX10_ends_94 : decode cX10_ends 94 = .ok (.iload_n 3, 1) := by decide +kernel
theorem dX10_ends_95 : decode cX10_ends 95 = .ok (.imul, 1) := by decide +kernel
theorem dX10_ends_96 : decode cX10_ends 96 = .ok (.iadd, 1) := by decide +kernel
theorem dX10_ends_97 : decode cX10_ends 97 = .ok (.iconst 2, 1) := by decide +kernel
theorem dX10_ends_98 : decode cX10_ends 98 = .ok (.iadd, 1) := by decide +kernel
theorem dX10_ends_99 : decode cX10_ends 99 = .ok (.iaload, 1) := by decide +kernel
theorem dX10_ends_100 : decode cX10_ends 100 = .ok (.iconst 1, 1) := by decide +kernel
theorem dX10_ends_101 : decode cX10_ends 101 = .ok (.if_icmp .ne 7, 3) := by decide +kernel
theorem dX10_ends_104 : decode cX10_ends 104 = .ok (.iconst 1, 1) := by decide +kernel
theorem dX10_ends_105 : decode cX10_ends 105 = .ok (.goto 4, 3) := by decide +kernel
theorem dX10_ends_108 : decode cX10_ends 108 = .ok (.iconst 0, 1) := by decide +kernel
theorem dX10_ends_109 : decode cX10_ends 109 = .ok (.if_icmp .eq 8, 3) := by decide +kernel
theorem dX10_ends_112 : decode cX10_ends 112 = .ok (.aload_n 0, 1) := by decide +kernel
theorem dX10_ends_113 : decode cX10_ends 113 = .ok (.iload_n 3, 1) := by decide +kernel
theorem dX10_ends_114 : decode cX10_ends 114 = .ok (.invokevirtual 114, 3) := by decide +kernel
theorem dX10_ends_117 : decode cX10_ends 117 = .ok (.iinc 3 1, 3) := by decide +kernel
theorem dX10_ends_120 : decode cX10_ends 120 = .ok (.goto (-63), 3) := by decide +kernel
theorem dX10_ends_123 : decode cX10_ends 123 = .ok (.aload_n 0, 1) := by decide +kernel
theorem dX10_ends_124 : decode cX10_ends 124 = .ok (.invokevirtual 118, 3) := by decide +kernel
theorem dX10_ends_127 : decode cX10_ends 127 = .ok (.ireturn, 1) := by decide +kernel
theorem dX10_lay_0 : decode cX10_lay 0 = .ok (.aload_n 0, 1) := by decide +kernel
theorem dX10_lay_1 : decode cX10_lay 1 = .ok (.iload_n 1, 1) := by decide +kernel
theorem dX10_lay_2 : decode cX10_lay 2 = .ok (.invokevirtual 121, 3) := by decide +kernel
theorem dX10_lay_5 : decode cX10_lay 5 = .ok (.ifCond .eq 24, 3) := by decide +kernel
theorem dX10_lay_8 : decode cX10_lay 8 = .ok (.aload_n 0, 1) := by decide +kernel
theorem dX10_lay_9 : decode cX10_lay 9 = .ok (.iload_n 2, 1) := by decide +kernel
theorem dX10_lay_10 : decode cX10_lay 10 = .ok (.invokevirtual 121, 3) := by decide +kernel
theorem dX10_lay_13 : decode cX10_lay 13 = .ok (.ifCond .eq 16, 3) := by decide +kernel
theorem dX10_lay_16 : decode cX10_lay 16 = .ok (.iload_n 1, 1) := by decide +kernel
theorem dX10_lay_17 : decode cX10_lay 17 = .ok (.iload_n 2, 1) := by decide +kernel
theorem dX10_lay_18 : decode cX10_lay 18 = .ok (.if_icmp .eq 11, 3) := by decide +kernel
theorem dX10_lay_21 : decode cX10_lay 21 = .ok (.iload_n 3, 1) := by decide +kernel
theorem dX10_lay_22 : decode cX10_lay 22 = .ok (.i2l, 1) := by decide +kernel
theorem dX10_lay_23 : decode cX10_lay 23 = .ok (.invokestatic 124, 3) := by decide +kernel
theorem dX10_lay_26 : decode cX10_lay 26 = .ok (.ifCond .ne 5, 3) := by decide +kernel
theorem dX10_lay_29 : decode cX10_lay 29 = .ok (.iconst (-1), 1) := by decide +kernel
theorem dX10_lay_30 : decode cX10_lay 30 = .ok (.ireturn, 1) := by decide +kernel
theorem dX10_lay_31 : decode cX10_lay 31 = .ok (.aload_n 0, 1) := by decide +kernel
theorem dX10_lay_32 : decode cX10_lay 32 = .ok (.getfield 7, 3) := by decide +kernel
theorem dX10_lay_35 : decode cX10_lay 35 = .ok (.iconst 1, 1) := by decide +kernel
theorem dX10_lay_36 : decode cX10_lay 36 = .ok (.iaload, 1) := by decide +kernel
theorem dX10_lay_37 : decode cX10_lay 37 = .ok (.bipush 36, 2) := by decide +kernel
theorem dX10_lay_39 : decode cX10_lay 39 = .ok (.if_icmp .ne 6, 3) := by decide +kernel
theorem dX10_lay_42 : decode cX10_lay 42 = .ok (.bipush (-5), 2) := by decide +kernel
theorem dX10_lay_44 : decode cX10_lay 44 = .ok (.ireturn, 1) := by decide +kernel
theorem dX10_lay_45 : decode cX10_lay 45 = .ok (.aload_n 0, 1) := by decide +kernel
theorem dX10_lay_46 : decode cX10_lay 46 = .ok (.invokevirtual 128, 3) := by decide +kernel
theorem dX10_lay_49 : decode cX10_lay 49 = .ok (.aload_n 0, 1) := by decide +kernel
theorem dX10_lay_50 : decode cX10_lay 50 = .ok (.iload_n 1, 1) := by decide +kernel
theorem dX10_lay_51 : decode cX10_lay 51 = .ok (.iload_n 2, 1) := by decide +kernel
theorem dX10_lay_52 : decode cX10_lay 52 = .ok (.iload_n 3, 1) := by decide +kernel
theorem dX10_lay_53 : decode cX10_lay 53 = .ok (.invokevirtual 131, 3) := by decide +kernel
theorem dX10_lay_56 : decode cX10_lay 56 = .ok (.istore 4, 2) := by decide +kernel
theorem dX10_lay_58 : decode cX10_lay 58 = .ok (.aload_n 0, 1) := by decide +kernel
theorem dX10_lay_59 : decode cX10_lay 59 = .ok (.aload_n 0, 1) := by decide +kernel
theorem dX10_lay_60 : decode cX10_lay 60 = .ok (.iload 4, 2) := by decide +kernel
theorem dX10_lay_62 : decode cX10_lay 62 = .ok (.invokevirtual 135, 3) := by decide +kernel
theorem dX10_lay_65 : decode cX10_lay 65 = .ok (.invokevirtual 138, 3) := by decide +kernel
theorem dX10_lay_68 : decode cX10_lay 68 = .ok (.istore 5, 2) := by decide +kernel
theorem dX10_lay_70 : decode cX10_lay 70 = .ok (.iload 5, 2) := by decide +kernel
theorem dX10_lay_72 : decode cX10_lay 72 = .ok (.ifCond .ge 8, 3) := by decide +kernel
theorem dX10_lay_75 : decode cX10_lay 75 = .ok (.iload 5, 2) := by decide +kernel
theorem dX10_lay_77 : decode cX10_lay 77 = .ok (.goto 5, 3) := by decide +kernel
theorem dX10_lay_80 : decode cX10_lay 80 = .ok (.iload 4, 2) := by decide +kernel
theorem dX10_lay_82 : decode cX10_lay 82 = .ok (.ireturn, 1) := by decide +kernel
theorem dX10_comes_0 : decode cX10_comes 0 = .ok (.aload_n 0, 1) := by decide +kernel
theorem dX10_comes_1 : decode cX10_comes 1 = .ok (.getfield 7, 3) := by decide +kernel
theorem dX10_comes_4 : decode cX10_comes 4 = .ok (.iconst 1, 1) := by decide +kernel
theorem dX10_comes_5 : decode cX10_comes 5 = .ok (.iaload, 1) := by decide +kernel
theorem dX10_comes_6 : decode cX10_comes 6 = .ok (.istore 4, 2) := by decide +kernel
theorem dX10_comes_8 : decode cX10_comes 8 = .ok (.aload_n 0, 1) := by decide +kernel
theorem dX10_comes_9 : decode cX10_comes 9 = .ok (.getfield 7, 3) := by decide +kernel
theorem dX10_comes_12 : decode cX10_comes 12 = .ok (.iconst 1, 1) := by decide +kernel
theorem dX10_comes_13 : decode cX10_comes 13 = .ok (.iload 4, 2) := by decide +kernel
theorem dX10_comes_15 : decode cX10_comes 15 = .ok (.iconst 1, 1) := by decide +kernel
theorem dX10_comes_16 : decode cX10_comes 16 = .ok (.iadd, 1) := by decide +kernel
theorem dX10_comes_17 : decode cX10_comes 17 = .ok (.iastore, 1) := by decide +kernel
theorem dX10_comes_18 : decode cX10_comes 18 = .ok (.aload_n 0, 1) := by decide +kernel
theorem dX10_comes_19 : decode cX10_comes 19 = .ok (.iload 4, 2) := by decide +kernel
theorem dX10_comes_21 : decode cX10_comes 21 = .ok (.iconst 0, 1) := by decide +kernel
theorem dX10_comes_22 : decode cX10_comes 22 = .ok (.iload_n 1, 1) := by decide +kernel
theorem dX10_comes_23 : decode cX10_comes 23 = .ok (.invokevirtual 142, 3) := by decide +kernel
theorem dX10_comes_26 : decode cX10_comes 26 = .ok (.aload_n 0, 1) := by decide +kernel
theorem dX10_comes_27 : decode cX10_comes 27 = .ok (.iload 4, 2) := by decide +kernel
theorem dX10_comes_29 : decode cX10_comes 29 = .ok (.iconst 1, 1) := by decide +kernel
theorem dX10_comes_30 : decode cX10_comes 30 = .ok (.iload_n 2, 1) := by decide +kernel
theorem dX10_comes_31 : decode cX10_comes 31 = .ok (.invokevirtual 142, 3) := by decide +kernel
theorem dX10_comes_34 : decode cX10_comes 34 = .ok (.aload_n 0, 1) := by decide +kernel
theorem dX10_comes_35 : decode cX10_comes 35 = .ok (.iload 4, 2) := by decide +kernel
theorem dX10_comes_37 : decode cX10_comes 37 = .ok (.iconst 2, 1) := by decide +kernel
theorem dX10_comes_38 : decode cX10_comes 38 = .ok (.iload_n 3, 1) := by decide +kernel
theorem dX10_comes_39 : decode cX10_comes 39 = .ok (.invokevirtual 142, 3) := by decide +kernel
theorem dX10_comes_42 : decode cX10_comes 42 = .ok (.aload_n 0, 1) := by decide +kernel
theorem dX10_comes_43 : decode cX10_comes 43 = .ok (.iload 4, 2) := by decide +kernel
theorem dX10_comes_45 : decode cX10_comes 45 = .ok (.iconst 3, 1) := by decide +kernel
theorem dX10_comes_46 : decode cX10_comes 46 = .ok (.iconst 1, 1) := by decide +kernel
theorem dX10_comes_47 : decode cX10_comes 47 = .ok (.invokevirtual 142, 3) := by decide +kernel
theorem dX10_comes_50 : decode cX10_comes 50 = .ok (.iload 4, 2) := by decide +kernel
theorem dX10_comes_52 : decode cX10_comes 52 = .ok (.ireturn, 1) := by decide +kernel
theorem dX10_length_0 : decode cX10_length 0 = .ok (.aload_n 0, 1) := by decide +kernel
theorem dX10_length_1 : decode cX10_length 1 = .ok (.iload_n 1, 1) := by decide +kernel
theorem dX10_length_2 : decode cX10_length 2 = .ok (.invokevirtual 146, 3) := by decide +kernel
theorem dX10_length_5 : decode cX10_length 5 = .ok (.ifCond .eq 11, 3) := by decide +kernel
theorem dX10_length_8 : decode cX10_length 8 = .ok (.iload_n 2, 1) := by decide +kernel
theorem dX10_length_9 : decode cX10_length 9 = .ok (.i2l, 1) := by decide +kernel
theorem dX10_length_10 : decode cX10_length 10 = .ok (.invokestatic 124, 3) := by decide +kernel
theorem dX10_length_13 : decode cX10_length 13 = .ok (.ifCond .ne 5, 3) := by decide +kernel
theorem dX10_length_16 : decode cX10_length 16 = .ok (.iconst (-1), 1) := by decide +kernel
theorem dX10_length_17 : decode cX10_length 17 = .ok (.ireturn, 1) := by decide +kernel
theorem dX10_length_18 : decode cX10_length 18 = .ok (.aload_n 0, 1) := by decide +kernel
theorem dX10_length_19 : decode cX10_length 19 = .ok (.iload_n 1, 1) := by decide +kernel
theorem dX10_length_20 : decode cX10_length 20 = .ok (.iconst 2, 1) := by decide +kernel
theorem dX10_length_21 : decode cX10_length 21 = .ok (.invokevirtual 73, 3) := by decide +kernel
theorem dX10_length_24 : decode cX10_length 24 = .ok (.iload_n 2, 1) := by decide +kernel
theorem dX10_length_25 : decode cX10_length 25 = .ok (.if_icmp .ne 6, 3) := by decide +kernel
theorem dX10_length_28 : decode cX10_length 28 = .ok (.bipush (-2), 2) := by decide +kernel
theorem dX10_length_30 : decode cX10_length 30 = .ok (.ireturn, 1) := by decide +kernel
theorem dX10_length_31 : decode cX10_length 31 = .ok (.aload_n 0, 1) := by decide +kernel
theorem dX10_length_32 : decode cX10_length 32 = .ok (.invokevirtual 128, 3) := by decide +kernel
theorem dX10_length_35 : decode cX10_length 35 = .ok (.aload_n 0, 1) := by decide +kernel
theorem dX10_length_36 : decode cX10_length 36 = .ok (.iload_n 1, 1) := by decide +kernel
theorem dX10_length_37 : decode cX10_length 37 = .ok (.iconst 2, 1) := by decide +kernel
theorem dX10_length_38 : decode cX10_length 38 = .ok (.iload_n 2, 1) := by decide +kernel
theorem dX10_length_39 : decode cX10_length 39 = .ok (.invokevirtual 142, 3) := by decide +kernel
theorem dX10_length_42 : decode cX10_length 42 = .ok (.aload_n 0, 1) := by decide +kernel
theorem dX10_length_43 : decode cX10_length 43 = .ok (.aload_n 0, 1) := by decide +kernel
theorem dX10_length_44 : decode cX10_length 44 = .ok (.iload_n 1, 1) := by decide +kernel
theorem dX10_length_45 : decode cX10_length 45 = .ok (.invokevirtual 91, 3) := by decide +kernel
theorem dX10_length_48 : decode cX10_length 48 = .ok (.ifCond .eq 15, 3) := by decide +kernel
theorem dX10_length_51 : decode cX10_length 51 = .ok (.aload_n 0, 1) := by decide +kernel
theorem dX10_length_52 : decode cX10_length 52 = .ok (.iload_n 1, 1) := by decide +kernel
theorem dX10_length_53 : decode cX10_length 53 = .ok (.invokevirtual 135, 3) := by decide +kernel
theorem dX10_length_56 : decode cX10_length 56 = .ok (.ifCond .eq 7, 3) := by decide +kernel
theorem dX10_length_59 : decode cX10_length 59 = .ok (.iconst 1, 1) := by decide +kernel
theorem dX10_length_60 : decode cX10_length 60 = .ok (.goto 4, 3) := by decide +kernel
theorem dX10_length_63 : decode cX10_length 63 = .ok (.iconst 0, 1) := by decide +kernel
theorem dX10_length_64 : decode cX10_length 64 = .ok (.invokevirtual 138, 3) := by decide +kernel
theorem dX10_length_67 : decode cX10_length 67 = .ok (.ireturn, 1) := by decide +kernel
theorem dX10_turns_0 : decode cX10_turns 0 = .ok (.aload_n 0, 1) := by decide +kernel
theorem dX10_turns_1 : decode cX10_turns 1 = .ok (.iload_n 1, 1) := by decide +kernel
theorem dX10_turns_2 : decode cX10_turns 2 = .ok (.invokevirtual 146, 3) := by decide +kernel
theorem dX10_turns_5 : decode cX10_turns 5 = .ok (.ifCond .ne 5, 3) := by decide +kernel
theorem dX10_turns_8 : decode cX10_turns 8 = .ok (.iconst (-1), 1) := by decide +kernel
theorem dX10_turns_9 : decode cX10_turns 9 = .ok (.ireturn, 1) := by decide +kernel
theorem dX10_turns_10 : decode cX10_turns 10 = .ok (.aload_n 0, 1) := by decide +kernel
theorem dX10_turns_11 : decode cX10_turns 11 = .ok (.iload_n 1, 1) := by decide +kernel
theorem dX10_turns_12 : decode cX10_turns 12 = .ok (.iconst 3, 1) := by decide +kernel
theorem dX10_turns_13 : decode cX10_turns 13 = .ok (.invokevirtual 73, 3) := by decide +kernel
theorem dX10_turns_16 : decode cX10_turns 16 = .ok (.iload_n 2, 1) := by decide +kernel
theorem dX10_turns_17 : decode cX10_turns 17 = .ok (.if_icmp .ne 6, 3) := by decide +kernel
theorem dX10_turns_20 : decode cX10_turns 20 = .ok (.bipush (-2), 2) := by decide +kernel
theorem dX10_turns_22 : decode cX10_turns 22 = .ok (.ireturn, 1) := by decide +kernel
theorem dX10_turns_23 : decode cX10_turns 23 = .ok (.aload_n 0, 1) := by decide +kernel
theorem dX10_turns_24 : decode cX10_turns 24 = .ok (.invokevirtual 128, 3) := by decide +kernel
theorem dX10_turns_27 : decode cX10_turns 27 = .ok (.aload_n 0, 1) := by decide +kernel
theorem dX10_turns_28 : decode cX10_turns 28 = .ok (.iload_n 1, 1) := by decide +kernel
theorem dX10_turns_29 : decode cX10_turns 29 = .ok (.iconst 3, 1) := by decide +kernel
theorem dX10_turns_30 : decode cX10_turns 30 = .ok (.iload_n 2, 1) := by decide +kernel
theorem dX10_turns_31 : decode cX10_turns 31 = .ok (.invokevirtual 142, 3) := by decide +kernel
theorem dX10_turns_34 : decode cX10_turns 34 = .ok (.aload_n 0, 1) := by decide +kernel
theorem dX10_turns_35 : decode cX10_turns 35 = .ok (.iload_n 2, 1) := by decide +kernel
theorem dX10_turns_36 : decode cX10_turns 36 = .ok (.iconst 1, 1) := by decide +kernel
theorem dX10_turns_37 : decode cX10_turns 37 = .ok (.if_icmp .ne 15, 3) := by decide +kernel
theorem dX10_turns_40 : decode cX10_turns 40 = .ok (.aload_n 0, 1) := by decide +kernel
theorem dX10_turns_41 : decode cX10_turns 41 = .ok (.iload_n 1, 1) := by decide +kernel
theorem dX10_turns_42 : decode cX10_turns 42 = .ok (.invokevirtual 135, 3) := by decide +kernel
theorem dX10_turns_45 : decode cX10_turns 45 = .ok (.ifCond .eq 7, 3) := by decide +kernel
theorem dX10_turns_48 : decode cX10_turns 48 = .ok (.iconst 1, 1) := by decide +kernel
theorem dX10_turns_49 : decode cX10_turns 49 = .ok (.goto 4, 3) := by decide +kernel
theorem dX10_turns_52 : decode cX10_turns 52 = .ok (.iconst 0, 1) := by decide +kernel
theorem dX10_turns_53 : decode cX10_turns 53 = .ok (.invokevirtual 138, 3) := by decide +kernel
theorem dX10_turns_56 : decode cX10_turns 56 = .ok (.ireturn, 1) := by decide +kernel
theorem dX10_close_0 : decode cX10_close 0 = .ok (.aload_n 0, 1) := by decide +kernel
theorem dX10_close_1 : decode cX10_close 1 = .ok (.iload_n 1, 1) := by decide +kernel
theorem dX10_close_2 : decode cX10_close 2 = .ok (.iconst 0, 1) := by decide +kernel
theorem dX10_close_3 : decode cX10_close 3 = .ok (.invokevirtual 149, 3) := by decide +kernel
theorem dX10_close_6 : decode cX10_close 6 = .ok (.ireturn, 1) := by decide +kernel
theorem dX10_open_0 : decode cX10_open 0 = .ok (.aload_n 0, 1) := by decide +kernel
theorem dX10_open_1 : decode cX10_open 1 = .ok (.iload_n 1, 1) := by decide +kernel
theorem dX10_open_2 : decode cX10_open 2 = .ok (.iconst 1, 1) := by decide +kernel
theorem dX10_open_3 : decode cX10_open 3 = .ok (.invokevirtual 149, 3) := by decide +kernel
theorem dX10_open_6 : decode cX10_open 6 = .ok (.ireturn, 1) := by decide +kernel
theorem dX10_origin_0 : decode cX10_origin 0 = .ok (.aload_n 0, 1) := by decide +kernel
theorem dX10_origin_1 : decode cX10_origin 1 = .ok (.iload_n 1, 1) := by decide +kernel
theorem dX10_origin_2 : decode cX10_origin 2 = .ok (.invokevirtual 121, 3) := by decide +kernel
theorem dX10_origin_5 : decode cX10_origin 5 = .ok (.ifCond .ne 5, 3) := by decide +kernel
theorem dX10_origin_8 : decode cX10_origin 8 = .ok (.iconst (-1), 1) := by decide +kernel
theorem dX10_origin_9 : decode cX10_origin 9 = .ok (.ireturn, 1) := by decide +kernel
theorem dX10_origin_10 : decode cX10_origin 10 = .ok (.iload_n 1, 1) := by decide +kernel
theorem dX10_origin_11 : decode cX10_origin 11 = .ok (.aload_n 0, 1) := by decide +kernel
theorem dX10_origin_12 : decode cX10_origin 12 = .ok (.getfield 7, 3) := by decide +kernel
theorem dX10_origin_15 : decode cX10_origin 15 = .ok (.iconst 2, 1) := by decide +kernel
theorem dX10_origin_16 : decode cX10_origin 16 = .ok (.iaload, 1) := by decide +kernel
theorem dX10_origin_17 : decode cX10_origin 17 = .ok (.if_icmp .ne 6, 3) := by decide +kernel
theorem dX10_origin_20 : decode cX10_origin 20 = .ok (.bipush (-2), 2) := by decide +kernel
theorem dX10_origin_22 : decode cX10_origin 22 = .ok (.ireturn, 1) := by decide +kernel
theorem dX10_origin_23 : decode cX10_origin 23 = .ok (.aload_n 0, 1) := by decide +kernel
theorem dX10_origin_24 : decode cX10_origin 24 = .ok (.invokevirtual 128, 3) := by decide +kernel
theorem dX10_origin_27 : decode cX10_origin 27 = .ok (.aload_n 0, 1) := by decide +kernel
theorem dX10_origin_28 : decode cX10_origin 28 = .ok (.getfield 7, 3) := by decide +kernel
theorem dX10_origin_31 : decode cX10_origin 31 = .ok (.iconst 2, 1) := by decide +kernel
theorem dX10_origin_32 : decode cX10_origin 32 = .ok (.iload_n 1, 1) := by decide +kernel
theorem dX10_origin_33 : decode cX10_origin 33 = .ok (.iastore, 1) := by decide +kernel
theorem dX10_origin_34 : decode cX10_origin 34 = .ok (.aload_n 0, 1) := by decide +kernel
theorem dX10_origin_35 : decode cX10_origin 35 = .ok (.iconst 0, 1) := by decide +kernel
theorem dX10_origin_36 : decode cX10_origin 36 = .ok (.invokevirtual 138, 3) := by decide +kernel
theorem dX10_origin_39 : decode cX10_origin 39 = .ok (.ireturn, 1) := by decide +kernel
theorem dX10_touched_0 : decode cX10_touched 0 = .ok (.iload_n 1, 1) := by decide +kernel
theorem dX10_touched_1 : decode cX10_touched 1 = .ok (.ifCond .ge 7, 3) := by decide +kernel
theorem dX10_touched_4 : decode cX10_touched 4 = .ok (.iconst (-1), 1) := by decide +kernel
theorem dX10_touched_5 : decode cX10_touched 5 = .ok (.goto 28, 3) := by decide +kernel
theorem dX10_touched_8 : decode cX10_touched 8 = .ok (.iload_n 1, 1) := by decide +kernel
theorem dX10_touched_9 : decode cX10_touched 9 = .ok (.aload_n 0, 1) := by decide +kernel
theorem dX10_touched_10 : decode cX10_touched 10 = .ok (.getfield 7, 3) := by decide +kernel
theorem dX10_touched_13 : decode cX10_touched 13 = .ok (.bipush 6, 2) := by decide +kernel
theorem dX10_touched_15 : decode cX10_touched 15 = .ok (.iaload, 1) := by decide +kernel
theorem dX10_touched_16 : decode cX10_touched 16 = .ok (.if_icmp .ge 15, 3) := by decide +kernel
theorem dX10_touched_19 : decode cX10_touched 19 = .ok (.aload_n 0, 1) := by decide +kernel
theorem dX10_touched_20 : decode cX10_touched 20 = .ok (.getfield 7, 3) := by decide +kernel
theorem dX10_touched_23 : decode cX10_touched 23 = .ok (.bipush 16, 2) := by decide +kernel
theorem dX10_touched_25 : decode cX10_touched 25 = .ok (.iload_n 1, 1) := by decide +kernel
theorem dX10_touched_26 : decode cX10_touched 26 = .ok (.iadd, 1) := by decide +kernel
theorem dX10_touched_27 : decode cX10_touched 27 = .ok (.iaload, 1) := by decide +kernel
theorem dX10_touched_28 : decode cX10_touched 28 = .ok (.goto 5, 3) := by decide +kernel
theorem dX10_touched_31 : decode cX10_touched 31 = .ok (.bipush (-4), 2) := by decide +kernel
theorem dX10_touched_33 : decode cX10_touched 33 = .ok (.ireturn, 1) := by decide +kernel
theorem dX10_types_0 : decode cX10_types 0 = .ok (.iconst 3, 1) := by decide +kernel
theorem dX10_types_1 : decode cX10_types 1 = .ok (.istore_n 2, 1) := by decide +kernel
theorem dX10_types_2 : decode cX10_types 2 = .ok (.iload_n 2, 1) := by decide +kernel
theorem dX10_types_3 : decode cX10_types 3 = .ok (.ifCond .lt 35, 3) := by decide +kernel
theorem dX10_types_6 : decode cX10_types 6 = .ok (.aload_n 0, 1) := by decide +kernel
theorem dX10_types_7 : decode cX10_types 7 = .ok (.getfield 23, 3) := by decide +kernel
theorem dX10_types_10 : decode cX10_types 10 = .ok (.aload_n 0, 1) := by decide +kernel
theorem dX10_types_11 : decode cX10_types 11 = .ok (.getfield 152, 3) := by decide +kernel
theorem dX10_types_14 : decode cX10_types 14 = .ok (.iload_n 1, 1) := by decide +kernel
theorem dX10_types_15 : decode cX10_types 15 = .ok (.bipush 8, 2) := by decide +kernel
theorem dX10_types_17 : decode cX10_types 17 = .ok (.iload_n 2, 1) := by decide +kernel
theorem dX10_types_18 : decode cX10_types 18 = .ok (.imul, 1) := by decide +kernel
theorem dX10_types_19 : decode cX10_types 19 = .ok (.ishr, 1) := by decide +kernel
theorem dX10_types_20 : decode cX10_types 20 = .ok (.i2b, 1) := by decide +kernel
theorem dX10_types_21 : decode cX10_types 21 = .ok (.bastore, 1) := by decide +kernel
theorem dX10_types_22 : decode cX10_types 22 = .ok (.aload_n 0, 1) := by decide +kernel
theorem dX10_types_23 : decode cX10_types 23 = .ok (.aload_n 0, 1) := by decide +kernel
theorem dX10_types_24 : decode cX10_types 24 = .ok (.getfield 152, 3) := by decide +kernel
theorem dX10_types_27 : decode cX10_types 27 = .ok (.iconst 1, 1) := by decide +kernel
theorem dX10_types_28 : decode cX10_types 28 = .ok (.iadd, 1) := by decide +kernel
theorem dX10_types_29 : decode cX10_types 29 = .ok (.putfield 152, 3) := by decide +kernel
theorem dX10_types_32 : decode cX10_types 32 = .ok (.iinc 2 (-1), 3) := by decide +kernel
theorem dX10_types_35 : decode cX10_types 35 = .ok (.goto (-33), 3) := by decide +kernel
theorem dX10_types_38 : decode cX10_types 38 = .ok (.return_, 1) := by decide +kernel
theorem dX10_feed_0 : decode cX10_feed 0 = .ok (.aload_n 0, 1) := by decide +kernel
theorem dX10_feed_1 : decode cX10_feed 1 = .ok (.getfield 152, 3) := by decide +kernel
theorem dX10_feed_4 : decode cX10_feed 4 = .ok (.bipush 20, 2) := by decide +kernel
theorem dX10_feed_6 : decode cX10_feed 6 = .ok (.iadd, 1) := by decide +kernel
theorem dX10_feed_7 : decode cX10_feed 7 = .ok (.sipush 240, 3) := by decide +kernel
theorem dX10_feed_10 : decode cX10_feed 10 = .ok (.if_icmp .le 5, 3) := by decide +kernel
theorem dX10_feed_13 : decode cX10_feed 13 = .ok (.iconst (-1), 1) := by decide +kernel
theorem dX10_feed_14 : decode cX10_feed 14 = .ok (.ireturn, 1) := by decide +kernel
theorem dX10_feed_15 : decode cX10_feed 15 = .ok (.aload_n 0, 1) := by decide +kernel
theorem dX10_feed_16 : decode cX10_feed 16 = .ok (.iload_n 1, 1) := by decide +kernel
theorem dX10_feed_17 : decode cX10_feed 17 = .ok (.invokevirtual 156, 3) := by decide +kernel
theorem dX10_feed_20 : decode cX10_feed 20 = .ok (.aload_n 0, 1) := by decide +kernel
theorem dX10_feed_21 : decode cX10_feed 21 = .ok (.iload_n 2, 1) := by decide +kernel
theorem dX10_feed_22 : decode cX10_feed 22 = .ok (.invokevirtual 156, 3) := by decide +kernel
theorem dX10_feed_25 : decode cX10_feed 25 = .ok (.aload_n 0, 1) := by decide +kernel
theorem dX10_feed_26 : decode cX10_feed 26 = .ok (.iload_n 3, 1) := by decide +kernel
theorem dX10_feed_27 : decode cX10_feed 27 = .ok (.invokevirtual 156, 3) := by decide +kernel
theorem dX10_feed_30 : decode cX10_feed 30 = .ok (.aload_n 0, 1) := by decide +kernel
theorem dX10_feed_31 : decode cX10_feed 31 = .ok (.iload 4, 2) := by decide +kernel
theorem dX10_feed_33 : decode cX10_feed 33 = .ok (.invokevirtual 156, 3) := by decide +kernel
theorem dX10_feed_36 : decode cX10_feed 36 = .ok (.aload_n 0, 1) := by decide +kernel
theorem dX10_feed_37 : decode cX10_feed 37 = .ok (.iload 5, 2) := by decide +kernel
theorem dX10_feed_39 : decode cX10_feed 39 = .ok (.invokevirtual 156, 3) := by decide +kernel
theorem dX10_feed_42 : decode cX10_feed 42 = .ok (.aload_n 0, 1) := by decide +kernel
theorem dX10_feed_43 : decode cX10_feed 43 = .ok (.getfield 152, 3) := by decide +kernel
theorem dX10_feed_46 : decode cX10_feed 46 = .ok (.ireturn, 1) := by decide +kernel
theorem dX10_here_0 : decode cX10_here 0 = .ok (.aload_n 0, 1) := by decide +kernel
theorem dX10_here_1 : decode cX10_here 1 = .ok (.getfield 159, 3) := by decide +kernel
theorem dX10_here_4 : decode cX10_here 4 = .ok (.aload_n 0, 1) := by decide +kernel
theorem dX10_here_5 : decode cX10_here 5 = .ok (.getfield 162, 3) := by decide +kernel
theorem dX10_here_8 : decode cX10_here 8 = .ok (.if_icmp .ge 19, 3) := by decide +kernel
theorem dX10_here_11 : decode cX10_here 11 = .ok (.aload_n 0, 1) := by decide +kernel
theorem dX10_here_12 : decode cX10_here 12 = .ok (.getfield 23, 3) := by decide +kernel
theorem dX10_here_15 : decode cX10_here 15 = .ok (.aload_n 0, 1) := by decide +kernel
theorem dX10_here_16 : decode cX10_here 16 = .ok (.getfield 159, 3) := by decide +kernel
theorem dX10_here_19 : decode cX10_here 19 = .ok (.baload, 1) := by decide +kernel
theorem dX10_here_20 : decode cX10_here 20 = .ok (.sipush 255, 3) := by decide +kernel
theorem dX10_here_23 : decode cX10_here 23 = .ok (.iand, 1) := by decide +kernel
theorem dX10_here_24 : decode cX10_here 24 = .ok (.goto 4, 3) := by decide +kernel
theorem dX10_here_27 : decode cX10_here 27 = .ok (.iconst (-1), 1) := by decide +kernel
theorem dX10_here_28 : decode cX10_here 28 = .ok (.ireturn, 1) := by decide +kernel
theorem dX10_wrongAt_0 : decode cX10_wrongAt 0 = .ok (.aload_n 0, 1) := by decide +kernel
theorem dX10_wrongAt_1 : decode cX10_wrongAt 1 = .ok (.sipush (-1000), 3) := by decide +kernel
theorem dX10_wrongAt_4 : decode cX10_wrongAt 4 = .ok (.iload_n 1, 1) := by decide +kernel
theorem dX10_wrongAt_5 : decode cX10_wrongAt 5 = .ok (.imul, 1) := by decide +kernel
theorem dX10_wrongAt_6 : decode cX10_wrongAt 6 = .ok (.iload_n 2, 1) := by decide +kernel
theorem dX10_wrongAt_7 : decode cX10_wrongAt 7 = .ok (.isub, 1) := by decide +kernel
theorem dX10_wrongAt_8 : decode cX10_wrongAt 8 = .ok (.putfield 165, 3) := by decide +kernel
theorem dX10_wrongAt_11 : decode cX10_wrongAt 11 = .ok (.iconst 0, 1) := by decide +kernel
theorem dX10_wrongAt_12 : decode cX10_wrongAt 12 = .ok (.ireturn, 1) := by decide +kernel
theorem dX10_takesSign_0 : decode cX10_takesSign 0 = .ok (.aload_n 0, 1) := by decide +kernel
theorem dX10_takesSign_1 : decode cX10_takesSign 1 = .ok (.invokevirtual 168, 3) := by decide +kernel
theorem dX10_takesSign_4 : decode cX10_takesSign 4 = .ok (.iload_n 1, 1) := by decide +kernel
theorem dX10_takesSign_5 : decode cX10_takesSign 5 = .ok (.if_icmp .eq 13, 3) := by decide +kernel
theorem dX10_takesSign_8 : decode cX10_takesSign 8 = .ok (.aload_n 0, 1) := by decide +kernel
theorem dX10_takesSign_9 : decode cX10_takesSign 9 = .ok (.iconst 1, 1) := by decide +kernel
theorem dX10_takesSign_10 : decode cX10_takesSign 10 = .ok (.aload_n 0, 1) := by decide +kernel
theorem dX10_takesSign_11 : decode cX10_takesSign 11 = .ok (.getfield 159, 3) := by decide +kernel
theorem dX10_takesSign_14 : decode cX10_takesSign 14 = .ok (.invokevirtual 171, 3) := by decide +kernel
theorem dX10_takesSign_17 : decode cX10_takesSign 17 = .ok (.ireturn, 1) := by decide +kernel
theorem dX10_takesSign_18 : decode cX10_takesSign 18 = .ok (.aload_n 0, 1) := by decide +kernel
theorem dX10_takesSign_19 : decode cX10_takesSign 19 = .ok (.aload_n 0, 1) := by decide +kernel
theorem dX10_takesSign_20 : decode cX10_takesSign 20 = .ok (.getfield 159, 3) := by decide +kernel
theorem dX10_takesSign_23 : decode cX10_takesSign 23 = .ok (.iconst 1, 1) := by decide +kernel
theorem dX10_takesSign_24 : decode cX10_takesSign 24 = .ok (.iadd, 1) := by decide +kernel
theorem dX10_takesSign_25 : decode cX10_takesSign 25 = .ok (.putfield 159, 3) := by decide +kernel
theorem dX10_takesSign_28 : decode cX10_takesSign 28 = .ok (.iconst 1, 1) := by decide +kernel
theorem dX10_takesSign_29 : decode cX10_takesSign 29 = .ok (.ireturn, 1) := by decide +kernel
theorem dX10_readsWord_0 : decode cX10_readsWord 0 = .ok (.aload_n 0, 1) := by decide +kernel
theorem dX10_readsWord_1 : decode cX10_readsWord 1 = .ok (.aload_n 0, 1) := by decide +kernel
theorem dX10_readsWord_2 : decode cX10_readsWord 2 = .ok (.getfield 159, 3) := by decide +kernel
theorem dX10_readsWord_5 : decode cX10_readsWord 5 = .ok (.putfield 175, 3) := by decide +kernel
theorem dX10_readsWord_8 : decode cX10_readsWord 8 = .ok (.aload_n 0, 1) := by decide +kernel
theorem dX10_readsWord_9 : decode cX10_readsWord 9 = .ok (.lconst 0, 1) := by decide +kernel
theorem dX10_readsWord_10 : decode cX10_readsWord 10 = .ok (.putfield 178, 3) := by decide +kernel
theorem dX10_readsWord_13 : decode cX10_readsWord 13 = .ok (.aload_n 0, 1) := by decide +kernel
theorem dX10_readsWord_14 : decode cX10_readsWord 14 = .ok (.invokevirtual 168, 3) := by decide +kernel
theorem dX10_readsWord_17 : decode cX10_readsWord 17 = .ok (.i2l, 1) := by decide +kernel
theorem dX10_readsWord_18 : decode cX10_readsWord 18 = .ok (.ldc2_w 182, 3) := by decide +kernel
theorem dX10_readsWord_21 : decode cX10_readsWord 21 = .ok (.ldc2_w 184, 3) := by decide +kernel
theorem dX10_readsWord_24 : decode cX10_readsWord 24 = .ok (.invokestatic 81, 3) := by decide +kernel
theorem dX10_readsWord_27 : decode cX10_readsWord 27 = .ok (.ifCond .eq 54, 3) := by decide +kernel
theorem dX10_readsWord_30 : decode cX10_readsWord 30 = .ok (.aload_n 0, 1) := by decide +kernel
theorem dX10_readsWord_31 : decode cX10_readsWord 31 = .ok (.getfield 159, 3) := by decide +kernel
theorem dX10_readsWord_34 : decode cX10_readsWord 34 = .ok (.aload_n 0, 1) := by decide +kernel
theorem dX10_readsWord_35 : decode cX10_readsWord 35 = .ok (.getfield 175, 3) := by decide +kernel
theorem dX10_readsWord_38 : decode cX10_readsWord 38 = .ok (.isub, 1) := by decide +kernel
theorem dX10_readsWord_39 : decode cX10_readsWord 39 = .ok (.bipush 8, 2) := by decide +kernel
theorem dX10_readsWord_41 : decode cX10_readsWord 41 = .ok (.if_icmp .ge 27, 3) := by decide +kernel
theorem dX10_readsWord_44 : decode cX10_readsWord 44 = .ok (.aload_n 0, 1) := by decide +kernel
theorem dX10_readsWord_45 : decode cX10_readsWord 45 = .ok (.ldc2_w 186, 3) := by decide +kernel
theorem dX10_readsWord_48 : decode cX10_readsWord 48 = .ok (.aload_n 0, 1) := by decide +kernel
theorem dX10_readsWord_49 : decode cX10_readsWord 49 = .ok (.getfield 178, 3) := by decide +kernel
theorem dX10_readsWord_52 : decode cX10_readsWord 52 = .ok (.lmul, 1) := by decide +kernel
theorem dX10_readsWord_53 : decode cX10_readsWord 53 = .ok (.aload_n 0, 1) := by decide +kernel
theorem dX10_readsWord_54 : decode cX10_readsWord 54 = .ok (.invokevirtual 168, 3) := by decide +kernel
theorem dX10_readsWord_57 : decode cX10_readsWord 57 = .ok (.i2l, 1) := by decide +kernel
theorem dX10_readsWord_58 : decode cX10_readsWord 58 = .ok (.ladd, 1) := by decide +kernel
theorem dX10_readsWord_59 : decode cX10_readsWord 59 = .ok (.ldc2_w 182, 3) := by decide +kernel
theorem dX10_readsWord_62 : decode cX10_readsWord 62 = .ok (.lsub, 1) := by decide +kernel
theorem dX10_readsWord_63 : decode cX10_readsWord 63 = .ok (.lconst 1, 1) := by decide +kernel
theorem dX10_readsWord_64 : decode cX10_readsWord 64 = .ok (.ladd, 1) := by decide +kernel
theorem dX10_readsWord_65 : decode cX10_readsWord 65 = .ok (.putfield 178, 3) := by decide +kernel
theorem dX10_readsWord_68 : decode cX10_readsWord 68 = .ok (.aload_n 0, 1) := by decide +kernel
theorem dX10_readsWord_69 : decode cX10_readsWord 69 = .ok (.aload_n 0, 1) := by decide +kernel
theorem dX10_readsWord_70 : decode cX10_readsWord 70 = .ok (.getfield 159, 3) := by decide +kernel
theorem dX10_readsWord_73 : decode cX10_readsWord 73 = .ok (.iconst 1, 1) := by decide +kernel
theorem dX10_readsWord_74 : decode cX10_readsWord 74 = .ok (.iadd, 1) := by decide +kernel
theorem dX10_readsWord_75 : decode cX10_readsWord 75 = .ok (.putfield 159, 3) := by decide +kernel
theorem dX10_readsWord_78 : decode cX10_readsWord 78 = .ok (.goto (-65), 3) := by decide +kernel
theorem dX10_readsWord_81 : decode cX10_readsWord 81 = .ok (.aload_n 0, 1) := by decide +kernel
theorem dX10_readsWord_82 : decode cX10_readsWord 82 = .ok (.getfield 159, 3) := by decide +kernel
theorem dX10_readsWord_85 : decode cX10_readsWord 85 = .ok (.aload_n 0, 1) := by decide +kernel
theorem dX10_readsWord_86 : decode cX10_readsWord 86 = .ok (.getfield 175, 3) := by decide +kernel
theorem dX10_readsWord_89 : decode cX10_readsWord 89 = .ok (.isub, 1) := by decide +kernel
theorem dX10_readsWord_90 : decode cX10_readsWord 90 = .ok (.bipush 8, 2) := by decide +kernel
theorem dX10_readsWord_92 : decode cX10_readsWord 92 = .ok (.if_icmp .le 10, 3) := by decide +kernel
theorem dX10_readsWord_95 : decode cX10_readsWord 95 = .ok (.aload_n 0, 1) := by decide +kernel
theorem dX10_readsWord_96 : decode cX10_readsWord 96 = .ok (.ldc2_w 188, 3) := by decide +kernel
theorem dX10_readsWord_99 : decode cX10_readsWord 99 = .ok (.putfield 178, 3) := by decide +kernel
theorem dX10_readsWord_102 : decode cX10_readsWord 102 = .ok (.return_, 1) := by decide +kernel
theorem dX10_readsNumber_0 : decode cX10_readsNumber 0 = .ok (.aload_n 0, 1) := by decide +kernel
theorem dX10_readsNumber_1 : decode cX10_readsNumber 1 = .ok (.bipush 32, 2) := by decide +kernel
theorem dX10_readsNumber_3 : decode cX10_readsNumber 3 = .ok (.invokevirtual 190, 3) := by decide +kernel
theorem dX10_readsNumber_6 : decode cX10_readsNumber 6 = .ok (.ifCond .ne 5, 3) := by decide +kernel
theorem dX10_readsNumber_9 : decode cX10_readsNumber 9 = .ok (.iconst 0, 1) := by decide +kernel
theorem dX10_readsNumber_10 : decode cX10_readsNumber 10 = .ok (.ireturn, 1) := by decide +kernel
theorem dX10_readsNumber_11 : decode cX10_readsNumber 11 = .ok (.aload_n 0, 1) := by decide +kernel
theorem dX10_readsNumber_12 : decode cX10_readsNumber 12 = .ok (.aload_n 0, 1) := by decide +kernel
theorem dX10_readsNumber_13 : decode cX10_readsNumber 13 = .ok (.getfield 159, 3) := by decide +kernel
theorem dX10_readsNumber_16 : decode cX10_readsNumber 16 = .ok (.putfield 193, 3) := by decide +kernel
theorem dX10_readsNumber_19 : decode cX10_readsNumber 19 = .ok (.aload_n 0, 1) := by decide +kernel
theorem dX10_readsNumber_20 : decode cX10_readsNumber 20 = .ok (.invokevirtual 168, 3) := by decide +kernel
theorem dX10_readsNumber_23 : decode cX10_readsNumber 23 = .ok (.bipush 45, 2) := by decide +kernel
theorem dX10_readsNumber_25 : decode cX10_readsNumber 25 = .ok (.if_icmp .ne 7, 3) := by decide +kernel
theorem dX10_readsNumber_28 : decode cX10_readsNumber 28 = .ok (.iconst 1, 1) := by decide +kernel
theorem dX10_readsNumber_29 : decode cX10_readsNumber 29 = .ok (.goto 4, 3) := by decide +kernel
theorem dX10_readsNumber_32 : decode cX10_readsNumber 32 = .ok (.iconst 0, 1) := by decide +kernel
theorem dX10_readsNumber_33 : decode cX10_readsNumber 33 = .ok (.istore 5, 2) := by decide +kernel
theorem dX10_readsNumber_35 : decode cX10_readsNumber 35 = .ok (.iload 5, 2) := by decide +kernel
theorem dX10_readsNumber_37 : decode cX10_readsNumber 37 = .ok (.ifCond .eq 13, 3) := by decide +kernel
theorem dX10_readsNumber_40 : decode cX10_readsNumber 40 = .ok (.aload_n 0, 1) := by decide +kernel
theorem dX10_readsNumber_41 : decode cX10_readsNumber 41 = .ok (.aload_n 0, 1) := by decide +kernel
theorem dX10_readsNumber_42 : decode cX10_readsNumber 42 = .ok (.getfield 159, 3) := by decide +kernel
theorem dX10_readsNumber_45 : decode cX10_readsNumber 45 = .ok (.iconst 1, 1) := by decide +kernel
theorem dX10_readsNumber_46 : decode cX10_readsNumber 46 = .ok (.iadd, 1) := by decide +kernel
theorem dX10_readsNumber_47 : decode cX10_readsNumber 47 = .ok (.putfield 159, 3) := by decide +kernel
theorem dX10_readsNumber_50 : decode cX10_readsNumber 50 = .ok (.aload_n 0, 1) := by decide +kernel
theorem dX10_readsNumber_51 : decode cX10_readsNumber 51 = .ok (.getfield 159, 3) := by decide +kernel
theorem dX10_readsNumber_54 : decode cX10_readsNumber 54 = .ok (.istore 6, 2) := by decide +kernel
theorem dX10_readsNumber_56 : decode cX10_readsNumber 56 = .ok (.aload_n 0, 1) := by decide +kernel
theorem dX10_readsNumber_57 : decode cX10_readsNumber 57 = .ok (.invokevirtual 168, 3) := by decide +kernel
theorem dX10_readsNumber_60 : decode cX10_readsNumber 60 = .ok (.i2l, 1) := by decide +kernel
theorem dX10_readsNumber_61 : decode cX10_readsNumber 61 = .ok (.ldc2_w 196, 3) := by decide +kernel
theorem dX10_readsNumber_64 : decode cX10_readsNumber 64 = .ok (.ldc2_w 198, 3) := by decide +kernel
theorem dX10_readsNumber_67 : decode cX10_readsNumber 67 = .ok (.invokestatic 81, 3) := by decide +kernel
theorem dX10_readsNumber_70 : decode cX10_readsNumber 70 = .ok (.ifCond .ne 13, 3) := by decide +kernel
theorem dX10_readsNumber_73 : decode cX10_readsNumber 73 = .ok (.aload_n 0, 1) := by decide +kernel
theorem dX10_readsNumber_74 : decode cX10_readsNumber 74 = .ok (.iconst 1, 1) := by decide +kernel
theorem dX10_readsNumber_75 : decode cX10_readsNumber 75 = .ok (.aload_n 0, 1) := by decide +kernel
theorem dX10_readsNumber_76 : decode cX10_readsNumber 76 = .ok (.getfield 159, 3) := by decide +kernel
theorem dX10_readsNumber_79 : decode cX10_readsNumber 79 = .ok (.invokevirtual 171, 3) := by decide +kernel
theorem dX10_readsNumber_82 : decode cX10_readsNumber 82 = .ok (.ireturn, 1) := by decide +kernel
theorem dX10_readsNumber_83 : decode cX10_readsNumber 83 = .ok (.aload_n 0, 1) := by decide +kernel
theorem dX10_readsNumber_84 : decode cX10_readsNumber 84 = .ok (.lconst 0, 1) := by decide +kernel
theorem dX10_readsNumber_85 : decode cX10_readsNumber 85 = .ok (.putfield 200, 3) := by decide +kernel
theorem dX10_readsNumber_88 : decode cX10_readsNumber 88 = .ok (.aload_n 0, 1) := by decide +kernel
theorem dX10_readsNumber_89 : decode cX10_readsNumber 89 = .ok (.invokevirtual 168, 3) := by decide +kernel
theorem dX10_readsNumber_92 : decode cX10_readsNumber 92 = .ok (.i2l, 1) := by decide +kernel
theorem dX10_readsNumber_93 : decode cX10_readsNumber 93 = .ok (.ldc2_w 196, 3) := by decide +kernel
theorem dX10_readsNumber_96 : decode cX10_readsNumber 96 = .ok (.ldc2_w 198, 3) := by decide +kernel
theorem dX10_readsNumber_99 : decode cX10_readsNumber 99 = .ok (.invokestatic 81, 3) := by decide +kernel
theorem dX10_readsNumber_102 : decode cX10_readsNumber 102 = .ok (.ifCond .eq 60, 3) := by decide +kernel
theorem dX10_readsNumber_105 : decode cX10_readsNumber 105 = .ok (.aload_n 0, 1) := by decide +kernel
theorem dX10_readsNumber_106 : decode cX10_readsNumber 106 = .ok (.getfield 159, 3) := by decide +kernel
theorem dX10_readsNumber_109 : decode cX10_readsNumber 109 = .ok (.iload 6, 2) := by decide +kernel
theorem dX10_readsNumber_111 : decode cX10_readsNumber 111 = .ok (.bipush 10, 2) := by decide +kernel
theorem dX10_readsNumber_113 : decode cX10_readsNumber 113 = .ok (.iadd, 1) := by decide +kernel
theorem dX10_readsNumber_114 : decode cX10_readsNumber 114 = .ok (.if_icmp .ne 13, 3) := by decide +kernel
theorem dX10_readsNumber_117 : decode cX10_readsNumber 117 = .ok (.aload_n 0, 1) := by decide +kernel
theorem dX10_readsNumber_118 : decode cX10_readsNumber 118 = .ok (.iconst 2, 1) := by decide +kernel
theorem dX10_readsNumber_119 : decode cX10_readsNumber 119 = .ok (.aload_n 0, 1) := by decide +kernel
theorem dX10_readsNumber_120 : decode cX10_readsNumber 120 = .ok (.getfield 159, 3) := by decide +kernel
theorem dX10_readsNumber_123 : decode cX10_readsNumber 123 = .ok (.invokevirtual 171, 3) := by decide +kernel
theorem dX10_readsNumber_126 : decode cX10_readsNumber 126 = .ok (.ireturn, 1) := by decide +kernel
theorem dX10_readsNumber_127 : decode cX10_readsNumber 127 = .ok (.aload_n 0, 1) := by decide +kernel
theorem dX10_readsNumber_128 : decode cX10_readsNumber 128 = .ok (.ldc2_w 203, 3) := by decide +kernel
theorem dX10_readsNumber_131 : decode cX10_readsNumber 131 = .ok (.aload_n 0, 1) := by decide +kernel
theorem dX10_readsNumber_132 : decode cX10_readsNumber 132 = .ok (.getfield 200, 3) := by decide +kernel
theorem dX10_readsNumber_135 : decode cX10_readsNumber 135 = .ok (.lmul, 1) := by decide +kernel
theorem dX10_readsNumber_136 : decode cX10_readsNumber 136 = .ok (.aload_n 0, 1) := by decide +kernel
theorem dX10_readsNumber_137 : decode cX10_readsNumber 137 = .ok (.invokevirtual 168, 3) := by decide +kernel
theorem dX10_readsNumber_140 : decode cX10_readsNumber 140 = .ok (.i2l, 1) := by decide +kernel
theorem dX10_readsNumber_141 : decode cX10_readsNumber 141 = .ok (.ladd, 1) := by decide +kernel
theorem dX10_readsNumber_142 : decode cX10_readsNumber 142 = .ok (.ldc2_w 196, 3) := by decide +kernel
theorem dX10_readsNumber_145 : decode cX10_readsNumber 145 = .ok (.lsub, 1) := by decide +kernel
theorem dX10_readsNumber_146 : decode cX10_readsNumber 146 = .ok (.putfield 200, 3) := by decide +kernel
theorem dX10_readsNumber_149 : decode cX10_readsNumber 149 = .ok (.aload_n 0, 1) := by decide +kernel
theorem dX10_readsNumber_150 : decode cX10_readsNumber 150 = .ok (.aload_n 0, 1) := by decide +kernel
theorem dX10_readsNumber_151 : decode cX10_readsNumber 151 = .ok (.getfield 159, 3) := by decide +kernel
theorem dX10_readsNumber_154 : decode cX10_readsNumber 154 = .ok (.iconst 1, 1) := by decide +kernel
theorem dX10_readsNumber_155 : decode cX10_readsNumber 155 = .ok (.iadd, 1) := by decide +kernel
theorem dX10_readsNumber_156 : decode cX10_readsNumber 156 = .ok (.putfield 159, 3) := by decide +kernel
theorem dX10_readsNumber_159 : decode cX10_readsNumber 159 = .ok (.goto (-71), 3) := by decide +kernel
theorem dX10_readsNumber_162 : decode cX10_readsNumber 162 = .ok (.iload 5, 2) := by decide +kernel
theorem dX10_readsNumber_164 : decode cX10_readsNumber 164 = .ok (.ifCond .eq 12, 3) := by decide +kernel
theorem dX10_readsNumber_167 : decode cX10_readsNumber 167 = .ok (.aload_n 0, 1) := by decide +kernel
theorem dX10_readsNumber_168 : decode cX10_readsNumber 168 = .ok (.aload_n 0, 1) := by decide +kernel
theorem dX10_readsNumber_169 : decode cX10_readsNumber 169 = .ok (.getfield 200, 3) := by decide +kernel
theorem dX10_readsNumber_172 : decode cX10_readsNumber 172 = .ok (.lneg, 1) := by decide +kernel
theorem dX10_readsNumber_173 : decode cX10_readsNumber 173 = .ok (.putfield 200, 3) := by decide +kernel
theorem dX10_readsNumber_176 : decode cX10_readsNumber 176 = .ok (.aload_n 0, 1) := by decide +kernel
theorem dX10_readsNumber_177 : decode cX10_readsNumber 177 = .ok (.getfield 200, 3) := by decide +kernel
theorem dX10_readsNumber_180 : decode cX10_readsNumber 180 = .ok (.lload_n 1, 1) := by decide +kernel
theorem dX10_readsNumber_181 : decode cX10_readsNumber 181 = .ok (.lload_n 3, 1) := by decide +kernel
theorem dX10_readsNumber_182 : decode cX10_readsNumber 182 = .ok (.invokestatic 81, 3) := by decide +kernel
theorem dX10_readsNumber_185 : decode cX10_readsNumber 185 = .ok (.ifCond .ne 15, 3) := by decide +kernel
theorem dX10_readsNumber_188 : decode cX10_readsNumber 188 = .ok (.aload_n 0, 1) := by decide +kernel
theorem dX10_readsNumber_189 : decode cX10_readsNumber 189 = .ok (.iconst 3, 1) := by decide +kernel
theorem dX10_readsNumber_190 : decode cX10_readsNumber 190 = .ok (.aload_n 0, 1) := by decide +kernel
theorem dX10_readsNumber_191 : decode cX10_readsNumber 191 = .ok (.getfield 193, 3) := by decide +kernel
theorem dX10_readsNumber_194 : decode cX10_readsNumber 194 = .ok (.invokevirtual 171, 3) := by decide +kernel
theorem dX10_readsNumber_197 : decode cX10_readsNumber 197 = .ok (.ifCond .eq 7, 3) := by decide +kernel
theorem dX10_readsNumber_200 : decode cX10_readsNumber 200 = .ok (.iconst 1, 1) := by decide +kernel
theorem dX10_readsNumber_201 : decode cX10_readsNumber 201 = .ok (.goto 4, 3) := by decide +kernel
theorem dX10_readsNumber_204 : decode cX10_readsNumber 204 = .ok (.iconst 0, 1) := by decide +kernel
theorem dX10_readsNumber_205 : decode cX10_readsNumber 205 = .ok (.ireturn, 1) := by decide +kernel
theorem dX10_keepsNumber_0 : decode cX10_keepsNumber 0 = .ok (.aload_n 0, 1) := by decide +kernel
theorem dX10_keepsNumber_1 : decode cX10_keepsNumber 1 = .ok (.getfield 30, 3) := by decide +kernel
theorem dX10_keepsNumber_4 : decode cX10_keepsNumber 4 = .ok (.iconst 3, 1) := by decide +kernel
theorem dX10_keepsNumber_5 : decode cX10_keepsNumber 5 = .ok (.aload_n 0, 1) := by decide +kernel
theorem dX10_keepsNumber_6 : decode cX10_keepsNumber 6 = .ok (.getfield 205, 3) := by decide +kernel
theorem dX10_keepsNumber_9 : decode cX10_keepsNumber 9 = .ok (.imul, 1) := by decide +kernel
theorem dX10_keepsNumber_10 : decode cX10_keepsNumber 10 = .ok (.iload_n 1, 1) := by decide +kernel
theorem dX10_keepsNumber_11 : decode cX10_keepsNumber 11 = .ok (.iadd, 1) := by decide +kernel
theorem dX10_keepsNumber_12 : decode cX10_keepsNumber 12 = .ok (.aload_n 0, 1) := by decide +kernel
theorem dX10_keepsNumber_13 : decode cX10_keepsNumber 13 = .ok (.getfield 200, 3) := by decide +kernel
theorem dX10_keepsNumber_16 : decode cX10_keepsNumber 16 = .ok (.l2i, 1) := by decide +kernel
theorem dX10_keepsNumber_17 : decode cX10_keepsNumber 17 = .ok (.iastore, 1) := by decide +kernel
theorem dX10_keepsNumber_18 : decode cX10_keepsNumber 18 = .ok (.iconst 1, 1) := by decide +kernel
theorem dX10_keepsNumber_19 : decode cX10_keepsNumber 19 = .ok (.ireturn, 1) := by decide +kernel
theorem dX10_readsRoad_0 : decode cX10_readsRoad 0 = .ok (.aload_n 0, 1) := by decide +kernel
theorem dX10_readsRoad_1 : decode cX10_readsRoad 1 = .ok (.lconst 0, 1) := by decide +kernel
theorem dX10_readsRoad_2 : decode cX10_readsRoad 2 = .ok (.iload_n 1, 1) := by decide +kernel
theorem dX10_readsRoad_3 : decode cX10_readsRoad 3 = .ok (.iconst 1, 1) := by decide +kernel
theorem dX10_readsRoad_4 : decode cX10_readsRoad 4 = .ok (.isub, 1) := by decide +kernel
theorem dX10_readsRoad_5 : decode cX10_readsRoad 5 = .ok (.i2l, 1) := by decide +kernel
theorem dX10_readsRoad_6 : decode cX10_readsRoad 6 = .ok (.invokevirtual 208, 3) := by decide +kernel
theorem dX10_readsRoad_9 : decode cX10_readsRoad 9 = .ok (.ifCond .ne 5, 3) := by decide +kernel
theorem dX10_readsRoad_12 : decode cX10_readsRoad 12 = .ok (.iconst 0, 1) := by decide +kernel
theorem dX10_readsRoad_13 : decode cX10_readsRoad 13 = .ok (.ireturn, 1) := by decide +kernel
theorem dX10_readsRoad_14 : decode cX10_readsRoad 14 = .ok (.aload_n 0, 1) := by decide +kernel
theorem dX10_readsRoad_15 : decode cX10_readsRoad 15 = .ok (.getfield 200, 3) := by decide +kernel
theorem dX10_readsRoad_18 : decode cX10_readsRoad 18 = .ok (.lstore_n 2, 1) := by decide +kernel
theorem dX10_readsRoad_19 : decode cX10_readsRoad 19 = .ok (.aload_n 0, 1) := by decide +kernel
theorem dX10_readsRoad_20 : decode cX10_readsRoad 20 = .ok (.iconst 0, 1) := by decide +kernel
theorem dX10_readsRoad_21 : decode cX10_readsRoad 21 = .ok (.invokevirtual 212, 3) := by decide +kernel
theorem dX10_readsRoad_24 : decode cX10_readsRoad 24 = .ok (.ifCond .eq 15, 3) := by decide +kernel
theorem dX10_readsRoad_27 : decode cX10_readsRoad 27 = .ok (.aload_n 0, 1) := by decide +kernel
theorem dX10_readsRoad_28 : decode cX10_readsRoad 28 = .ok (.lconst 0, 1) := by decide +kernel
theorem dX10_readsRoad_29 : decode cX10_readsRoad 29 = .ok (.iload_n 1, 1) := by decide +kernel
theorem dX10_readsRoad_30 : decode cX10_readsRoad 30 = .ok (.iconst 1, 1) := by decide +kernel
theorem dX10_readsRoad_31 : decode cX10_readsRoad 31 = .ok (.isub, 1) := by decide +kernel
theorem dX10_readsRoad_32 : decode cX10_readsRoad 32 = .ok (.i2l, 1) := by decide +kernel
theorem dX10_readsRoad_33 : decode cX10_readsRoad 33 = .ok (.invokevirtual 208, 3) := by decide +kernel
theorem dX10_readsRoad_36 : decode cX10_readsRoad 36 = .ok (.ifCond .ne 5, 3) := by decide +kernel
theorem dX10_readsRoad_39 : decode cX10_readsRoad 39 = .ok (.iconst 0, 1) := by decide +kernel
theorem dX10_readsRoad_40 : decode cX10_readsRoad 40 = .ok (.ireturn, 1) := by decide +kernel
theorem dX10_readsRoad_41 : decode cX10_readsRoad 41 = .ok (.aload_n 0, 1) := by decide +kernel
theorem dX10_readsRoad_42 : decode cX10_readsRoad 42 = .ok (.getfield 200, 3) := by decide +kernel
theorem dX10_readsRoad_45 : decode cX10_readsRoad 45 = .ok (.lload_n 2, 1) := by decide +kernel
theorem dX10_readsRoad_46 : decode cX10_readsRoad 46 = .ok (.lcmp, 1) := by decide +kernel
theorem dX10_readsRoad_47 : decode cX10_readsRoad 47 = .ok (.ifCond .ne 14, 3) := by decide +kernel
theorem dX10_readsRoad_50 : decode cX10_readsRoad 50 = .ok (.aload_n 0, 1) := by decide +kernel
theorem dX10_readsRoad_51 : decode cX10_readsRoad 51 = .ok (.bipush 6, 2) := by decide +kernel
theorem dX10_readsRoad_53 : decode cX10_readsRoad 53 = .ok (.aload_n 0, 1) := by decide +kernel
theorem dX10_readsRoad_54 : decode cX10_readsRoad 54 = .ok (.getfield 193, 3) := by decide +kernel
theorem dX10_readsRoad_57 : decode cX10_readsRoad 57 = .ok (.invokevirtual 171, 3) := by decide +kernel
theorem dX10_readsRoad_60 : decode cX10_readsRoad 60 = .ok (.ireturn, 1) := by decide +kernel
theorem dX10_readsRoad_61 : decode cX10_readsRoad 61 = .ok (.aload_n 0, 1) := by decide +kernel
theorem dX10_readsRoad_62 : decode cX10_readsRoad 62 = .ok (.iconst 1, 1) := by decide +kernel
theorem dX10_readsRoad_63 : decode cX10_readsRoad 63 = .ok (.invokevirtual 212, 3) := by decide +kernel
theorem dX10_readsRoad_66 : decode cX10_readsRoad 66 = .ok (.ifCond .eq 28, 3) := by decide +kernel
theorem dX10_readsRoad_69 : decode cX10_readsRoad 69 = .ok (.aload_n 0, 1) := by decide +kernel
theorem dX10_readsRoad_70 : decode cX10_readsRoad 70 = .ok (.ldc2_w 85, 3) := by decide +kernel
theorem dX10_readsRoad_73 : decode cX10_readsRoad 73 = .ok (.ldc2_w 87, 3) := by decide +kernel
theorem dX10_readsRoad_76 : decode cX10_readsRoad 76 = .ok (.invokevirtual 208, 3) := by decide +kernel
theorem dX10_readsRoad_79 : decode cX10_readsRoad 79 = .ok (.ifCond .eq 15, 3) := by decide +kernel
theorem dX10_readsRoad_82 : decode cX10_readsRoad 82 = .ok (.aload_n 0, 1) := by decide +kernel
theorem dX10_readsRoad_83 : decode cX10_readsRoad 83 = .ok (.iconst 2, 1) := by decide +kernel
theorem dX10_readsRoad_84 : decode cX10_readsRoad 84 = .ok (.invokevirtual 212, 3) := by decide +kernel
theorem dX10_readsRoad_87 : decode cX10_readsRoad 87 = .ok (.ifCond .eq 7, 3) := by decide +kernel
theorem dX10_readsRoad_90 : decode cX10_readsRoad 90 = .ok (.iconst 1, 1) := by decide +kernel
theorem dX10_readsRoad_91 : decode cX10_readsRoad 91 = .ok (.goto 4, 3) := by decide +kernel
theorem dX10_readsRoad_94 : decode cX10_readsRoad 94 = .ok (.iconst 0, 1) := by decide +kernel
theorem dX10_readsRoad_95 : decode cX10_readsRoad 95 = .ok (.ireturn, 1) := by decide +kernel
theorem dX10_readsNet_0 : decode cX10_readsNet 0 = .ok (.aload_n 0, 1) := by decide +kernel
theorem dX10_readsNet_1 : decode cX10_readsNet 1 = .ok (.invokevirtual 215, 3) := by decide +kernel
theorem dX10_readsNet_4 : decode cX10_readsNet 4 = .ok (.aload_n 0, 1) := by decide +kernel
theorem dX10_readsNet_5 : decode cX10_readsNet 5 = .ok (.getfield 27, 3) := by decide +kernel
theorem dX10_readsNet_8 : decode cX10_readsNet 8 = .ok (.aload_n 0, 1) := by decide +kernel
theorem dX10_readsNet_9 : decode cX10_readsNet 9 = .ok (.getfield 205, 3) := by decide +kernel
theorem dX10_readsNet_12 : decode cX10_readsNet 12 = .ok (.aload_n 0, 1) := by decide +kernel
theorem dX10_readsNet_13 : decode cX10_readsNet 13 = .ok (.getfield 178, 3) := by decide +kernel
theorem dX10_readsNet_16 : decode cX10_readsNet 16 = .ok (.lastore, 1) := by decide +kernel
theorem dX10_readsNet_17 : decode cX10_readsNet 17 = .ok (.aload_n 0, 1) := by decide +kernel
theorem dX10_readsNet_18 : decode cX10_readsNet 18 = .ok (.getfield 178, 3) := by decide +kernel
theorem dX10_readsNet_21 : decode cX10_readsNet 21 = .ok (.ldc2_w 218, 3) := by decide +kernel
theorem dX10_readsNet_24 : decode cX10_readsNet 24 = .ok (.lcmp, 1) := by decide +kernel
theorem dX10_readsNet_25 : decode cX10_readsNet 25 = .ok (.ifCond .ne 36, 3) := by decide +kernel
theorem dX10_readsNet_28 : decode cX10_readsNet 28 = .ok (.aload_n 0, 1) := by decide +kernel
theorem dX10_readsNet_29 : decode cX10_readsNet 29 = .ok (.getfield 205, 3) := by decide +kernel
theorem dX10_readsNet_32 : decode cX10_readsNet 32 = .ok (.ifCond .ne 29, 3) := by decide +kernel
theorem dX10_readsNet_35 : decode cX10_readsNet 35 = .ok (.aload_n 0, 1) := by decide +kernel
theorem dX10_readsNet_36 : decode cX10_readsNet 36 = .ok (.ldc2_w 220, 3) := by decide +kernel
theorem dX10_readsNet_39 : decode cX10_readsNet 39 = .ok (.ldc2_w 222, 3) := by decide +kernel
theorem dX10_readsNet_42 : decode cX10_readsNet 42 = .ok (.invokevirtual 208, 3) := by decide +kernel
theorem dX10_readsNet_45 : decode cX10_readsNet 45 = .ok (.ifCond .ne 5, 3) := by decide +kernel
theorem dX10_readsNet_48 : decode cX10_readsNet 48 = .ok (.iconst 0, 1) := by decide +kernel
theorem dX10_readsNet_49 : decode cX10_readsNet 49 = .ok (.ireturn, 1) := by decide +kernel
theorem dX10_readsNet_50 : decode cX10_readsNet 50 = .ok (.aload_n 0, 1) := by decide +kernel
theorem dX10_readsNet_51 : decode cX10_readsNet 51 = .ok (.aload_n 0, 1) := by decide +kernel
theorem dX10_readsNet_52 : decode cX10_readsNet 52 = .ok (.getfield 200, 3) := by decide +kernel
theorem dX10_readsNet_55 : decode cX10_readsNet 55 = .ok (.l2i, 1) := by decide +kernel
theorem dX10_readsNet_56 : decode cX10_readsNet 56 = .ok (.putfield 224, 3) := by decide +kernel
theorem dX10_readsNet_59 : decode cX10_readsNet 59 = .ok (.iconst 1, 1) := by decide +kernel
theorem dX10_readsNet_60 : decode cX10_readsNet 60 = .ok (.ireturn, 1) := by decide +kernel
theorem dX10_readsNet_61 : decode cX10_readsNet 61 = .ok (.aload_n 0, 1) := by decide +kernel
theorem dX10_readsNet_62 : decode cX10_readsNet 62 = .ok (.getfield 178, 3) := by decide +kernel
theorem dX10_readsNet_65 : decode cX10_readsNet 65 = .ok (.ldc2_w 227, 3) := by decide +kernel
theorem dX10_readsNet_68 : decode cX10_readsNet 68 = .ok (.lcmp, 1) := by decide +kernel
theorem dX10_readsNet_69 : decode cX10_readsNet 69 = .ok (.ifCond .ne 14, 3) := by decide +kernel
theorem dX10_readsNet_72 : decode cX10_readsNet 72 = .ok (.aload_n 0, 1) := by decide +kernel
theorem dX10_readsNet_73 : decode cX10_readsNet 73 = .ok (.aload_n 0, 1) := by decide +kernel
theorem dX10_readsNet_74 : decode cX10_readsNet 74 = .ok (.getfield 224, 3) := by decide +kernel
theorem dX10_readsNet_77 : decode cX10_readsNet 77 = .ok (.invokevirtual 229, 3) := by decide +kernel
theorem dX10_readsNet_80 : decode cX10_readsNet 80 = .ok (.goto 12, 3) := by decide +kernel
theorem dX10_readsNet_83 : decode cX10_readsNet 83 = .ok (.aload_n 0, 1) := by decide +kernel
theorem dX10_readsNet_84 : decode cX10_readsNet 84 = .ok (.iconst 1, 1) := by decide +kernel
theorem dX10_readsNet_85 : decode cX10_readsNet 85 = .ok (.aload_n 0, 1) := by decide +kernel
theorem dX10_readsNet_86 : decode cX10_readsNet 86 = .ok (.getfield 175, 3) := by decide +kernel
theorem dX10_readsNet_89 : decode cX10_readsNet 89 = .ok (.invokevirtual 171, 3) := by decide +kernel
theorem dX10_readsNet_92 : decode cX10_readsNet 92 = .ok (.ireturn, 1) := by decide +kernel
theorem dX10_readsOrder_0 : decode cX10_readsOrder 0 = .ok (.aload_n 0, 1) := by decide +kernel
theorem dX10_readsOrder_1 : decode cX10_readsOrder 1 = .ok (.invokevirtual 215, 3) := by decide +kernel
theorem dX10_readsOrder_4 : decode cX10_readsOrder 4 = .ok (.aload_n 0, 1) := by decide +kernel
theorem dX10_readsOrder_5 : decode cX10_readsOrder 5 = .ok (.getfield 178, 3) := by decide +kernel
theorem dX10_readsOrder_8 : decode cX10_readsOrder 8 = .ok (.lstore_n 1, 1) := by decide +kernel
theorem dX10_readsOrder_9 : decode cX10_readsOrder 9 = .ok (.aload_n 0, 1) := by decide +kernel
theorem dX10_readsOrder_10 : decode cX10_readsOrder 10 = .ok (.getfield 27, 3) := by decide +kernel
theorem dX10_readsOrder_13 : decode cX10_readsOrder 13 = .ok (.aload_n 0, 1) := by decide +kernel
theorem dX10_readsOrder_14 : decode cX10_readsOrder 14 = .ok (.getfield 205, 3) := by decide +kernel
theorem dX10_readsOrder_17 : decode cX10_readsOrder 17 = .ok (.lload_n 1, 1) := by decide +kernel
theorem dX10_readsOrder_18 : decode cX10_readsOrder 18 = .ok (.lastore, 1) := by decide +kernel
theorem dX10_readsOrder_19 : decode cX10_readsOrder 19 = .ok (.aload_n 0, 1) := by decide +kernel
theorem dX10_readsOrder_20 : decode cX10_readsOrder 20 = .ok (.invokevirtual 77, 3) := by decide +kernel
theorem dX10_readsOrder_23 : decode cX10_readsOrder 23 = .ok (.istore_n 3, 1) := by decide +kernel
theorem dX10_readsOrder_24 : decode cX10_readsOrder 24 = .ok (.lload_n 1, 1) := by decide +kernel
theorem dX10_readsOrder_25 : decode cX10_readsOrder 25 = .ok (.ldc2_w 232, 3) := by decide +kernel
theorem dX10_readsOrder_28 : decode cX10_readsOrder 28 = .ok (.lcmp, 1) := by decide +kernel
theorem dX10_readsOrder_29 : decode cX10_readsOrder 29 = .ok (.ifCond .ne 9, 3) := by decide +kernel
theorem dX10_readsOrder_32 : decode cX10_readsOrder 32 = .ok (.aload_n 0, 1) := by decide +kernel
theorem dX10_readsOrder_33 : decode cX10_readsOrder 33 = .ok (.iload_n 3, 1) := by decide +kernel
theorem dX10_readsOrder_34 : decode cX10_readsOrder 34 = .ok (.invokevirtual 229, 3) := by decide +kernel
theorem dX10_readsOrder_37 : decode cX10_readsOrder 37 = .ok (.ireturn, 1) := by decide +kernel
theorem dX10_readsOrder_38 : decode cX10_readsOrder 38 = .ok (.lload_n 1, 1) := by decide +kernel
theorem dX10_readsOrder_39 : decode cX10_readsOrder 39 = .ok (.ldc2_w 234, 3) := by decide +kernel
theorem dX10_readsOrder_42 : decode cX10_readsOrder 42 = .ok (.lcmp, 1) := by decide +kernel
theorem dX10_readsOrder_43 : decode cX10_readsOrder 43 = .ok (.ifCond .ne 49, 3) := by decide +kernel
theorem dX10_readsOrder_46 : decode cX10_readsOrder 46 = .ok (.aload_n 0, 1) := by decide +kernel
theorem dX10_readsOrder_47 : decode cX10_readsOrder 47 = .ok (.lconst 0, 1) := by decide +kernel
theorem dX10_readsOrder_48 : decode cX10_readsOrder 48 = .ok (.ldc2_w 236, 3) := by decide +kernel
theorem dX10_readsOrder_51 : decode cX10_readsOrder 51 = .ok (.invokevirtual 208, 3) := by decide +kernel
theorem dX10_readsOrder_54 : decode cX10_readsOrder 54 = .ok (.ifCond .eq 36, 3) := by decide +kernel
theorem dX10_readsOrder_57 : decode cX10_readsOrder 57 = .ok (.aload_n 0, 1) := by decide +kernel
theorem dX10_readsOrder_58 : decode cX10_readsOrder 58 = .ok (.iconst 0, 1) := by decide +kernel
theorem dX10_readsOrder_59 : decode cX10_readsOrder 59 = .ok (.invokevirtual 212, 3) := by decide +kernel
theorem dX10_readsOrder_62 : decode cX10_readsOrder 62 = .ok (.ifCond .eq 28, 3) := by decide +kernel
theorem dX10_readsOrder_65 : decode cX10_readsOrder 65 = .ok (.aload_n 0, 1) := by decide +kernel
theorem dX10_readsOrder_66 : decode cX10_readsOrder 66 = .ok (.ldc2_w 85, 3) := by decide +kernel
theorem dX10_readsOrder_69 : decode cX10_readsOrder 69 = .ok (.ldc2_w 87, 3) := by decide +kernel
theorem dX10_readsOrder_72 : decode cX10_readsOrder 72 = .ok (.invokevirtual 208, 3) := by decide +kernel
theorem dX10_readsOrder_75 : decode cX10_readsOrder 75 = .ok (.ifCond .eq 15, 3) := by decide +kernel
theorem dX10_readsOrder_78 : decode cX10_readsOrder 78 = .ok (.aload_n 0, 1) := by decide +kernel
theorem dX10_readsOrder_79 : decode cX10_readsOrder 79 = .ok (.iconst 1, 1) := by decide +kernel
theorem dX10_readsOrder_80 : decode cX10_readsOrder 80 = .ok (.invokevirtual 212, 3) := by decide +kernel
theorem dX10_readsOrder_83 : decode cX10_readsOrder 83 = .ok (.ifCond .eq 7, 3) := by decide +kernel
theorem dX10_readsOrder_86 : decode cX10_readsOrder 86 = .ok (.iconst 1, 1) := by decide +kernel
theorem dX10_readsOrder_87 : decode cX10_readsOrder 87 = .ok (.goto 4, 3) := by decide +kernel
theorem dX10_readsOrder_90 : decode cX10_readsOrder 90 = .ok (.iconst 0, 1) := by decide +kernel
theorem dX10_readsOrder_91 : decode cX10_readsOrder 91 = .ok (.ireturn, 1) := by decide +kernel
theorem dX10_readsOrder_92 : decode cX10_readsOrder 92 = .ok (.lload_n 1, 1) := by decide +kernel
theorem dX10_readsOrder_93 : decode cX10_readsOrder 93 = .ok (.ldc2_w 238, 3) := by decide +kernel
theorem dX10_readsOrder_96 : decode cX10_readsOrder 96 = .ok (.lcmp, 1) := by decide +kernel
theorem dX10_readsOrder_97 : decode cX10_readsOrder 97 = .ok (.ifCond .eq 11, 3) := by decide +kernel
theorem dX10_readsOrder_100 : decode cX10_readsOrder 100 = .ok (.lload_n 1, 1) := by decide +kernel
theorem dX10_readsOrder_101 : decode cX10_readsOrder 101 = .ok (.ldc2_w 240, 3) := by decide +kernel
theorem dX10_readsOrder_104 : decode cX10_readsOrder 104 = .ok (.lcmp, 1) := by decide +kernel
theorem dX10_readsOrder_105 : decode cX10_readsOrder 105 = .ok (.ifCond .ne 28, 3) := by decide +kernel
theorem dX10_readsOrder_108 : decode cX10_readsOrder 108 = .ok (.aload_n 0, 1) := by decide +kernel
theorem dX10_readsOrder_109 : decode cX10_readsOrder 109 = .ok (.lconst 0, 1) := by decide +kernel
theorem dX10_readsOrder_110 : decode cX10_readsOrder 110 = .ok (.ldc2_w 236, 3) := by decide +kernel
theorem dX10_readsOrder_113 : decode cX10_readsOrder 113 = .ok (.invokevirtual 208, 3) := by decide +kernel
theorem dX10_readsOrder_116 : decode cX10_readsOrder 116 = .ok (.ifCond .eq 15, 3) := by decide +kernel
theorem dX10_readsOrder_119 : decode cX10_readsOrder 119 = .ok (.aload_n 0, 1) := by decide +kernel
theorem dX10_readsOrder_120 : decode cX10_readsOrder 120 = .ok (.iconst 0, 1) := by decide +kernel
theorem dX10_readsOrder_121 : decode cX10_readsOrder 121 = .ok (.invokevirtual 212, 3) := by decide +kernel
theorem dX10_readsOrder_124 : decode cX10_readsOrder 124 = .ok (.ifCond .eq 7, 3) := by decide +kernel
theorem dX10_readsOrder_127 : decode cX10_readsOrder 127 = .ok (.iconst 1, 1) := by decide +kernel
theorem dX10_readsOrder_128 : decode cX10_readsOrder 128 = .ok (.goto 4, 3) := by decide +kernel
theorem dX10_readsOrder_131 : decode cX10_readsOrder 131 = .ok (.iconst 0, 1) := by decide +kernel
theorem dX10_readsOrder_132 : decode cX10_readsOrder 132 = .ok (.ireturn, 1) := by decide +kernel
theorem dX10_readsOrder_133 : decode cX10_readsOrder 133 = .ok (.lload_n 1, 1) := by decide +kernel
theorem dX10_readsOrder_134 : decode cX10_readsOrder 134 = .ok (.ldc2_w 242, 3) := by decide +kernel
theorem dX10_readsOrder_137 : decode cX10_readsOrder 137 = .ok (.lcmp, 1) := by decide +kernel
theorem dX10_readsOrder_138 : decode cX10_readsOrder 138 = .ok (.ifCond .eq 11, 3) := by decide +kernel
theorem dX10_readsOrder_141 : decode cX10_readsOrder 141 = .ok (.lload_n 1, 1) := by decide +kernel
theorem dX10_readsOrder_142 : decode cX10_readsOrder 142 = .ok (.ldc2_w 244, 3) := by decide +kernel
theorem dX10_readsOrder_145 : decode cX10_readsOrder 145 = .ok (.lcmp, 1) := by decide +kernel
theorem dX10_readsOrder_146 : decode cX10_readsOrder 146 = .ok (.ifCond .ne 29, 3) := by decide +kernel
theorem dX10_readsOrder_149 : decode cX10_readsOrder 149 = .ok (.aload_n 0, 1) := by decide +kernel
theorem dX10_readsOrder_150 : decode cX10_readsOrder 150 = .ok (.lconst 0, 1) := by decide +kernel
theorem dX10_readsOrder_151 : decode cX10_readsOrder 151 = .ok (.iload_n 3, 1) := by decide +kernel
theorem dX10_readsOrder_152 : decode cX10_readsOrder 152 = .ok (.iconst 1, 1) := by decide +kernel
theorem dX10_readsOrder_153 : decode cX10_readsOrder 153 = .ok (.isub, 1) := by decide +kernel
theorem dX10_readsOrder_154 : decode cX10_readsOrder 154 = .ok (.i2l, 1) := by decide +kernel
theorem dX10_readsOrder_155 : decode cX10_readsOrder 155 = .ok (.invokevirtual 208, 3) := by decide +kernel
theorem dX10_readsOrder_158 : decode cX10_readsOrder 158 = .ok (.ifCond .eq 15, 3) := by decide +kernel
theorem dX10_readsOrder_161 : decode cX10_readsOrder 161 = .ok (.aload_n 0, 1) := by decide +kernel
theorem dX10_readsOrder_162 : decode cX10_readsOrder 162 = .ok (.iconst 0, 1) := by decide +kernel
theorem dX10_readsOrder_163 : decode cX10_readsOrder 163 = .ok (.invokevirtual 212, 3) := by decide +kernel
theorem dX10_readsOrder_166 : decode cX10_readsOrder 166 = .ok (.ifCond .eq 7, 3) := by decide +kernel
theorem dX10_readsOrder_169 : decode cX10_readsOrder 169 = .ok (.iconst 1, 1) := by decide +kernel
theorem dX10_readsOrder_170 : decode cX10_readsOrder 170 = .ok (.goto 4, 3) := by decide +kernel
theorem dX10_readsOrder_173 : decode cX10_readsOrder 173 = .ok (.iconst 0, 1) := by decide +kernel
theorem dX10_readsOrder_174 : decode cX10_readsOrder 174 = .ok (.ireturn, 1) := by decide +kernel
theorem dX10_readsOrder_175 : decode cX10_readsOrder 175 = .ok (.lload_n 1, 1) := by decide +kernel
theorem dX10_readsOrder_176 : decode cX10_readsOrder 176 = .ok (.ldc2_w 246, 3) := by decide +kernel
theorem dX10_readsOrder_179 : decode cX10_readsOrder 179 = .ok (.lcmp, 1) := by decide +kernel
theorem dX10_readsOrder_180 : decode cX10_readsOrder 180 = .ok (.ifCond .ne 50, 3) := by decide +kernel
theorem dX10_readsOrder_183 : decode cX10_readsOrder 183 = .ok (.aload_n 0, 1) := by decide +kernel
theorem dX10_readsOrder_184 : decode cX10_readsOrder 184 = .ok (.lconst 0, 1) := by decide +kernel
theorem dX10_readsOrder_185 : decode cX10_readsOrder 185 = .ok (.iload_n 3, 1) := by decide +kernel
theorem dX10_readsOrder_186 : decode cX10_readsOrder 186 = .ok (.iconst 1, 1) := by decide +kernel
theorem dX10_readsOrder_187 : decode cX10_readsOrder 187 = .ok (.isub, 1) := by decide +kernel
theorem dX10_readsOrder_188 : decode cX10_readsOrder 188 = .ok (.i2l, 1) := by decide +kernel
theorem dX10_readsOrder_189 : decode cX10_readsOrder 189 = .ok (.invokevirtual 208, 3) := by decide +kernel
theorem dX10_readsOrder_192 : decode cX10_readsOrder 192 = .ok (.ifCond .eq 36, 3) := by decide +kernel
theorem dX10_readsOrder_195 : decode cX10_readsOrder 195 = .ok (.aload_n 0, 1) := by decide +kernel
theorem dX10_readsOrder_196 : decode cX10_readsOrder 196 = .ok (.iconst 0, 1) := by decide +kernel
theorem dX10_readsOrder_197 : decode cX10_readsOrder 197 = .ok (.invokevirtual 212, 3) := by decide +kernel
theorem dX10_readsOrder_200 : decode cX10_readsOrder 200 = .ok (.ifCond .eq 28, 3) := by decide +kernel
theorem dX10_readsOrder_203 : decode cX10_readsOrder 203 = .ok (.aload_n 0, 1) := by decide +kernel
