/-! The reference: its instructions. -/
theorem dX10_changesPlaces_4 : decode cX10_changesPlaces 4 = .ok (.iload_n 1, 1) := by decide +kernel
theorem dX10_changesPlaces_5 : decode cX10_changesPlaces 5 = .ok (.iaload, 1) := by decide +kernel
theorem dX10_changesPlaces_6 : decode cX10_changesPlaces 6 = .ok (.istore_n 3, 1) := by decide +kernel
theorem dX10_changesPlaces_7 : decode cX10_changesPlaces 7 = .ok (.aload_n 0, 1) := by decide +kernel
theorem dX10_changesPlaces_8 : decode cX10_changesPlaces 8 = .ok (.getfield 67, 3) := by decide +kernel
theorem dX10_changesPlaces_11 : decode cX10_changesPlaces 11 = .ok (.iload_n 1, 1) := by decide +kernel
theorem dX10_changesPlaces_12 : decode cX10_changesPlaces 12 = .ok (.aload_n 0, 1) := by decide +kernel
theorem dX10_changesPlaces_13 : decode cX10_changesPlaces 13 = .ok (.getfield 67, 3) := by decide +kernel
theorem dX10_changesPlaces_16 : decode cX10_changesPlaces 16 = .ok (.iload_n 2, 1) := by decide +kernel
theorem dX10_changesPlaces_17 : decode cX10_changesPlaces 17 = .ok (.iaload, 1) := by decide +kernel
theorem dX10_changesPlaces_18 : decode cX10_changesPlaces 18 = .ok (.iastore, 1) := by decide +kernel
theorem dX10_changesPlaces_19 : decode cX10_changesPlaces 19 = .ok (.aload_n 0, 1) := by decide +kernel
theorem dX10_changesPlaces_20 : decode cX10_changesPlaces 20 = .ok (.getfield 67, 3) := by decide +kernel
theorem dX10_changesPlaces_23 : decode cX10_changesPlaces 23 = .ok (.iload_n 2, 1) := by decide +kernel
theorem dX10_changesPlaces_24 : decode cX10_changesPlaces 24 = .ok (.iload_n 3, 1) := by decide +kernel
theorem dX10_changesPlaces_25 : decode cX10_changesPlaces 25 = .ok (.iastore, 1) := by decide +kernel
theorem dX10_changesPlaces_26 : decode cX10_changesPlaces 26 = .ok (.return_, 1) := by decide +kernel
theorem dX10_nextOrder_0 : decode cX10_nextOrder 0 = .ok (.aload_n 0, 1) := by decide +kernel
theorem dX10_nextOrder_1 : decode cX10_nextOrder 1 = .ok (.getfield 407, 3) := by decide +kernel
theorem dX10_nextOrder_4 : decode cX10_nextOrder 4 = .ok (.iconst 2, 1) := by decide +kernel
theorem dX10_nextOrder_5 : decode cX10_nextOrder 5 = .ok (.isub, 1) := by decide +kernel
theorem dX10_nextOrder_6 : decode cX10_nextOrder 6 = .ok (.istore_n 1, 1) := by decide +kernel
theorem dX10_nextOrder_7 : decode cX10_nextOrder 7 = .ok (.iload_n 1, 1) := by decide +kernel
theorem dX10_nextOrder_8 : decode cX10_nextOrder 8 = .ok (.ifCond .lt 27, 3) := by decide +kernel
theorem dX10_nextOrder_11 : decode cX10_nextOrder 11 = .ok (.aload_n 0, 1) := by decide +kernel
theorem dX10_nextOrder_12 : decode cX10_nextOrder 12 = .ok (.getfield 67, 3) := by decide +kernel
theorem dX10_nextOrder_15 : decode cX10_nextOrder 15 = .ok (.iload_n 1, 1) := by decide +kernel
theorem dX10_nextOrder_16 : decode cX10_nextOrder 16 = .ok (.iaload, 1) := by decide +kernel
theorem dX10_nextOrder_17 : decode cX10_nextOrder 17 = .ok (.aload_n 0, 1) := by decide +kernel
theorem dX10_nextOrder_18 : decode cX10_nextOrder 18 = .ok (.getfield 67, 3) := by decide +kernel
theorem dX10_nextOrder_21 : decode cX10_nextOrder 21 = .ok (.iload_n 1, 1) := by decide +kernel
theorem dX10_nextOrder_22 : decode cX10_nextOrder 22 = .ok (.iconst 1, 1) := by decide +kernel
theorem dX10_nextOrder_23 : decode cX10_nextOrder 23 = .ok (.iadd, 1) := by decide +kernel
theorem dX10_nextOrder_24 : decode cX10_nextOrder 24 = .ok (.iaload, 1) := by decide +kernel
theorem dX10_nextOrder_25 : decode cX10_nextOrder 25 = .ok (.if_icmp .le 10, 3) := by decide +kernel
theorem dX10_nextOrder_28 : decode cX10_nextOrder 28 = .ok (.iload_n 1, 1) := by decide +kernel
theorem dX10_nextOrder_29 : decode cX10_nextOrder 29 = .ok (.iconst 1, 1) := by decide +kernel
theorem dX10_nextOrder_30 : decode cX10_nextOrder 30 = .ok (.isub, 1) := by decide +kernel
theorem dX10_nextOrder_31 : decode cX10_nextOrder 31 = .ok (.istore_n 1, 1) := by decide +kernel
theorem dX10_nextOrder_32 : decode cX10_nextOrder 32 = .ok (.goto (-25), 3) := by decide +kernel
theorem dX10_nextOrder_35 : decode cX10_nextOrder 35 = .ok (.iload_n 1, 1) := by decide +kernel
theorem dX10_nextOrder_36 : decode cX10_nextOrder 36 = .ok (.ifCond .ge 5, 3) := by decide +kernel
theorem dX10_nextOrder_39 : decode cX10_nextOrder 39 = .ok (.iconst 0, 1) := by decide +kernel
theorem dX10_nextOrder_40 : decode cX10_nextOrder 40 = .ok (.ireturn, 1) := by decide +kernel
theorem dX10_nextOrder_41 : decode cX10_nextOrder 41 = .ok (.aload_n 0, 1) := by decide +kernel
theorem dX10_nextOrder_42 : decode cX10_nextOrder 42 = .ok (.getfield 407, 3) := by decide +kernel
theorem dX10_nextOrder_45 : decode cX10_nextOrder 45 = .ok (.iconst 1, 1) := by decide +kernel
theorem dX10_nextOrder_46 : decode cX10_nextOrder 46 = .ok (.isub, 1) := by decide +kernel
theorem dX10_nextOrder_47 : decode cX10_nextOrder 47 = .ok (.istore_n 2, 1) := by decide +kernel
theorem dX10_nextOrder_48 : decode cX10_nextOrder 48 = .ok (.aload_n 0, 1) := by decide +kernel
theorem dX10_nextOrder_49 : decode cX10_nextOrder 49 = .ok (.getfield 67, 3) := by decide +kernel
theorem dX10_nextOrder_52 : decode cX10_nextOrder 52 = .ok (.iload_n 2, 1) := by decide +kernel
theorem dX10_nextOrder_53 : decode cX10_nextOrder 53 = .ok (.iaload, 1) := by decide +kernel
theorem dX10_nextOrder_54 : decode cX10_nextOrder 54 = .ok (.aload_n 0, 1) := by decide +kernel
theorem dX10_nextOrder_55 : decode cX10_nextOrder 55 = .ok (.getfield 67, 3) := by decide +kernel
theorem dX10_nextOrder_58 : decode cX10_nextOrder 58 = .ok (.iload_n 1, 1) := by decide +kernel
theorem dX10_nextOrder_59 : decode cX10_nextOrder 59 = .ok (.iaload, 1) := by decide +kernel
theorem dX10_nextOrder_60 : decode cX10_nextOrder 60 = .ok (.if_icmp .ge 10, 3) := by decide +kernel
theorem dX10_nextOrder_63 : decode cX10_nextOrder 63 = .ok (.iload_n 2, 1) := by decide +kernel
theorem dX10_nextOrder_64 : decode cX10_nextOrder 64 = .ok (.iconst 1, 1) := by decide +kernel
theorem dX10_nextOrder_65 : decode cX10_nextOrder 65 = .ok (.isub, 1) := by decide +kernel
theorem dX10_nextOrder_66 : decode cX10_nextOrder 66 = .ok (.istore_n 2, 1) := by decide +kernel
theorem dX10_nextOrder_67 : decode cX10_nextOrder 67 = .ok (.goto (-19), 3) := by decide +kernel
theorem dX10_nextOrder_70 : decode cX10_nextOrder 70 = .ok (.aload_n 0, 1) := by decide +kernel
theorem dX10_nextOrder_71 : decode cX10_nextOrder 71 = .ok (.iload_n 1, 1) := by decide +kernel
theorem dX10_nextOrder_72 : decode cX10_nextOrder 72 = .ok (.iload_n 2, 1) := by decide +kernel
theorem dX10_nextOrder_73 : decode cX10_nextOrder 73 = .ok (.invokevirtual 410, 3) := by decide +kernel
theorem dX10_nextOrder_76 : decode cX10_nextOrder 76 = .ok (.iload_n 1, 1) := by decide +kernel
theorem dX10_nextOrder_77 : decode cX10_nextOrder 77 = .ok (.iconst 1, 1) := by decide +kernel
theorem dX10_nextOrder_78 : decode cX10_nextOrder 78 = .ok (.iadd, 1) := by decide +kernel
theorem dX10_nextOrder_79 : decode cX10_nextOrder 79 = .ok (.istore_n 3, 1) := by decide +kernel
theorem dX10_nextOrder_80 : decode cX10_nextOrder 80 = .ok (.aload_n 0, 1) := by decide +kernel
theorem dX10_nextOrder_81 : decode cX10_nextOrder 81 = .ok (.getfield 407, 3) := by decide +kernel
theorem dX10_nextOrder_84 : decode cX10_nextOrder 84 = .ok (.iconst 1, 1) := by decide +kernel
theorem dX10_nextOrder_85 : decode cX10_nextOrder 85 = .ok (.isub, 1) := by decide +kernel
theorem dX10_nextOrder_86 : decode cX10_nextOrder 86 = .ok (.istore 4, 2) := by decide +kernel
theorem dX10_nextOrder_88 : decode cX10_nextOrder 88 = .ok (.iload_n 3, 1) := by decide +kernel
theorem dX10_nextOrder_89 : decode cX10_nextOrder 89 = .ok (.iload 4, 2) := by decide +kernel
theorem dX10_nextOrder_91 : decode cX10_nextOrder 91 = .ok (.if_icmp .ge 23, 3) := by decide +kernel
theorem dX10_nextOrder_94 : decode cX10_nextOrder 94 = .ok (.aload_n 0, 1) := by decide +kernel
theorem dX10_nextOrder_95 : decode cX10_nextOrder 95 = .ok (.iload_n 3, 1) := by decide +kernel
theorem dX10_nextOrder_96 : decode cX10_nextOrder 96 = .ok (.iload 4, 2) := by decide +kernel
theorem dX10_nextOrder_98 : decode cX10_nextOrder 98 = .ok (.invokevirtual 410, 3) := by decide +kernel
theorem dX10_nextOrder_101 : decode cX10_nextOrder 101 = .ok (.iload_n 3, 1) := by decide +kernel
theorem dX10_nextOrder_102 : decode cX10_nextOrder 102 = .ok (.iconst 1, 1) := by decide +kernel
theorem dX10_nextOrder_103 : decode cX10_nextOrder 103 = .ok (.iadd, 1) := by decide +kernel
theorem dX10_nextOrder_104 : decode cX10_nextOrder 104 = .ok (.istore_n 3, 1) := by decide +kernel
theorem dX10_nextOrder_105 : decode cX10_nextOrder 105 = .ok (.iload 4, 2) := by decide +kernel
theorem dX10_nextOrder_107 : decode cX10_nextOrder 107 = .ok (.iconst 1, 1) := by decide +kernel
theorem dX10_nextOrder_108 : decode cX10_nextOrder 108 = .ok (.isub, 1) := by decide +kernel
theorem dX10_nextOrder_109 : decode cX10_nextOrder 109 = .ok (.istore 4, 2) := by decide +kernel
theorem dX10_nextOrder_111 : decode cX10_nextOrder 111 = .ok (.goto (-23), 3) := by decide +kernel
theorem dX10_nextOrder_114 : decode cX10_nextOrder 114 = .ok (.iconst 1, 1) := by decide +kernel
theorem dX10_nextOrder_115 : decode cX10_nextOrder 115 = .ok (.ireturn, 1) := by decide +kernel
theorem dX10_round_0 : decode cX10_round 0 = .ok (.iload_n 1, 1) := by decide +kernel
theorem dX10_round_1 : decode cX10_round 1 = .ok (.i2l, 1) := by decide +kernel
theorem dX10_round_2 : decode cX10_round 2 = .ok (.lconst 0, 1) := by decide +kernel
theorem dX10_round_3 : decode cX10_round 3 = .ok (.iconst 1, 1) := by decide +kernel
theorem dX10_round_4 : decode cX10_round 4 = .ok (.aload_n 0, 1) := by decide +kernel
theorem dX10_round_5 : decode cX10_round 5 = .ok (.invokevirtual 77, 3) := by decide +kernel
theorem dX10_round_8 : decode cX10_round 8 = .ok (.ishl, 1) := by decide +kernel
theorem dX10_round_9 : decode cX10_round 9 = .ok (.iconst 1, 1) := by decide +kernel
theorem dX10_round_10 : decode cX10_round 10 = .ok (.isub, 1) := by decide +kernel
theorem dX10_round_11 : decode cX10_round 11 = .ok (.i2l, 1) := by decide +kernel
theorem dX10_round_12 : decode cX10_round 12 = .ok (.invokestatic 81, 3) := by decide +kernel
theorem dX10_round_15 : decode cX10_round 15 = .ok (.ifCond .eq 15, 3) := by decide +kernel
theorem dX10_round_18 : decode cX10_round 18 = .ok (.iload_n 2, 1) := by decide +kernel
theorem dX10_round_19 : decode cX10_round 19 = .ok (.i2l, 1) := by decide +kernel
theorem dX10_round_20 : decode cX10_round 20 = .ok (.lconst 0, 1) := by decide +kernel
theorem dX10_round_21 : decode cX10_round 21 = .ok (.ldc2_w 413, 3) := by decide +kernel
theorem dX10_round_24 : decode cX10_round 24 = .ok (.invokestatic 81, 3) := by decide +kernel
theorem dX10_round_27 : decode cX10_round 27 = .ok (.ifCond .ne 7, 3) := by decide +kernel
theorem dX10_round_30 : decode cX10_round 30 = .ok (.ldc2_w 99, 3) := by decide +kernel
theorem dX10_round_33 : decode cX10_round 33 = .ok (.lreturn, 1) := by decide +kernel
theorem dX10_round_34 : decode cX10_round 34 = .ok (.aload_n 0, 1) := by decide +kernel
theorem dX10_round_35 : decode cX10_round 35 = .ok (.iconst 0, 1) := by decide +kernel
theorem dX10_round_36 : decode cX10_round 36 = .ok (.putfield 407, 3) := by decide +kernel
theorem dX10_round_39 : decode cX10_round 39 = .ok (.iconst 0, 1) := by decide +kernel
theorem dX10_round_40 : decode cX10_round 40 = .ok (.istore_n 3, 1) := by decide +kernel
theorem dX10_round_41 : decode cX10_round 41 = .ok (.iload_n 3, 1) := by decide +kernel
theorem dX10_round_42 : decode cX10_round 42 = .ok (.aload_n 0, 1) := by decide +kernel
theorem dX10_round_43 : decode cX10_round 43 = .ok (.invokevirtual 77, 3) := by decide +kernel
theorem dX10_round_46 : decode cX10_round 46 = .ok (.if_icmp .ge 63, 3) := by decide +kernel
theorem dX10_round_49 : decode cX10_round 49 = .ok (.iload_n 1, 1) := by decide +kernel
theorem dX10_round_50 : decode cX10_round 50 = .ok (.iload_n 3, 1) := by decide +kernel
theorem dX10_round_51 : decode cX10_round 51 = .ok (.invokestatic 321, 3) := by decide +kernel
theorem dX10_round_54 : decode cX10_round 54 = .ok (.ifCond .eq 49, 3) := by decide +kernel
theorem dX10_round_57 : decode cX10_round 57 = .ok (.iload_n 3, 1) := by decide +kernel
theorem dX10_round_58 : decode cX10_round 58 = .ok (.aload_n 0, 1) := by decide +kernel
theorem dX10_round_59 : decode cX10_round 59 = .ok (.getfield 7, 3) := by decide +kernel
theorem dX10_round_62 : decode cX10_round 62 = .ok (.iconst 2, 1) := by decide +kernel
theorem dX10_round_63 : decode cX10_round 63 = .ok (.iaload, 1) := by decide +kernel
theorem dX10_round_64 : decode cX10_round 64 = .ok (.if_icmp .ne 6, 3) := by decide +kernel
theorem dX10_round_67 : decode cX10_round 67 = .ok (.goto 36, 3) := by decide +kernel
theorem dX10_round_70 : decode cX10_round 70 = .ok (.aload_n 0, 1) := by decide +kernel
theorem dX10_round_71 : decode cX10_round 71 = .ok (.getfield 407, 3) := by decide +kernel
theorem dX10_round_74 : decode cX10_round 74 = .ok (.bipush 6, 2) := by decide +kernel
theorem dX10_round_76 : decode cX10_round 76 = .ok (.if_icmp .ne 7, 3) := by decide +kernel
theorem dX10_round_79 : decode cX10_round 79 = .ok (.ldc2_w 99, 3) := by decide +kernel
theorem dX10_round_82 : decode cX10_round 82 = .ok (.lreturn, 1) := by decide +kernel
theorem dX10_round_83 : decode cX10_round 83 = .ok (.aload_n 0, 1) := by decide +kernel
theorem dX10_round_84 : decode cX10_round 84 = .ok (.getfield 67, 3) := by decide +kernel
theorem dX10_round_87 : decode cX10_round 87 = .ok (.aload_n 0, 1) := by decide +kernel
theorem dX10_round_88 : decode cX10_round 88 = .ok (.getfield 407, 3) := by decide +kernel
theorem dX10_round_91 : decode cX10_round 91 = .ok (.iload_n 3, 1) := by decide +kernel
theorem dX10_round_92 : decode cX10_round 92 = .ok (.iastore, 1) := by decide +kernel
theorem dX10_round_93 : decode cX10_round 93 = .ok (.aload_n 0, 1) := by decide +kernel
theorem dX10_round_94 : decode cX10_round 94 = .ok (.aload_n 0, 1) := by decide +kernel
theorem dX10_round_95 : decode cX10_round 95 = .ok (.getfield 407, 3) := by decide +kernel
theorem dX10_round_98 : decode cX10_round 98 = .ok (.iconst 1, 1) := by decide +kernel
theorem dX10_round_99 : decode cX10_round 99 = .ok (.iadd, 1) := by decide +kernel
theorem dX10_round_100 : decode cX10_round 100 = .ok (.putfield 407, 3) := by decide +kernel
theorem dX10_round_103 : decode cX10_round 103 = .ok (.iinc 3 1, 3) := by decide +kernel
theorem dX10_round_106 : decode cX10_round 106 = .ok (.goto (-65), 3) := by decide +kernel
theorem dX10_round_109 : decode cX10_round 109 = .ok (.aload_n 0, 1) := by decide +kernel
theorem dX10_round_110 : decode cX10_round 110 = .ok (.invokevirtual 324, 3) := by decide +kernel
theorem dX10_round_113 : decode cX10_round 113 = .ok (.ldc2_w 89, 3) := by decide +kernel
theorem dX10_round_116 : decode cX10_round 116 = .ok (.lstore_n 3, 1) := by decide +kernel
theorem dX10_round_117 : decode cX10_round 117 = .ok (.iconst 1, 1) := by decide +kernel
theorem dX10_round_118 : decode cX10_round 118 = .ok (.istore 5, 2) := by decide +kernel
theorem dX10_round_120 : decode cX10_round 120 = .ok (.iload 5, 2) := by decide +kernel
theorem dX10_round_122 : decode cX10_round 122 = .ok (.ifCond .eq 60, 3) := by decide +kernel
theorem dX10_round_125 : decode cX10_round 125 = .ok (.aload_n 0, 1) := by decide +kernel
theorem dX10_round_126 : decode cX10_round 126 = .ok (.invokevirtual 415, 3) := by decide +kernel
theorem dX10_round_129 : decode cX10_round 129 = .ok (.lstore 6, 2) := by decide +kernel
theorem dX10_round_131 : decode cX10_round 131 = .ok (.lload 6, 2) := by decide +kernel
theorem dX10_round_133 : decode cX10_round 133 = .ok (.lload_n 3, 1) := by decide +kernel
theorem dX10_round_134 : decode cX10_round 134 = .ok (.lcmp, 1) := by decide +kernel
theorem dX10_round_135 : decode cX10_round 135 = .ok (.ifCond .ge 38, 3) := by decide +kernel
theorem dX10_round_138 : decode cX10_round 138 = .ok (.lload 6, 2) := by decide +kernel
theorem dX10_round_140 : decode cX10_round 140 = .ok (.lstore_n 3, 1) := by decide +kernel
theorem dX10_round_141 : decode cX10_round 141 = .ok (.iconst 0, 1) := by decide +kernel
theorem dX10_round_142 : decode cX10_round 142 = .ok (.istore 8, 2) := by decide +kernel
theorem dX10_round_144 : decode cX10_round 144 = .ok (.iload 8, 2) := by decide +kernel
theorem dX10_round_146 : decode cX10_round 146 = .ok (.aload_n 0, 1) := by decide +kernel
theorem dX10_round_147 : decode cX10_round 147 = .ok (.getfield 407, 3) := by decide +kernel
theorem dX10_round_150 : decode cX10_round 150 = .ok (.if_icmp .ge 23, 3) := by decide +kernel
theorem dX10_round_153 : decode cX10_round 153 = .ok (.aload_n 0, 1) := by decide +kernel
theorem dX10_round_154 : decode cX10_round 154 = .ok (.getfield 70, 3) := by decide +kernel
theorem dX10_round_157 : decode cX10_round 157 = .ok (.iload 8, 2) := by decide +kernel
theorem dX10_round_159 : decode cX10_round 159 = .ok (.aload_n 0, 1) := by decide +kernel
theorem dX10_round_160 : decode cX10_round 160 = .ok (.getfield 67, 3) := by decide +kernel
theorem dX10_round_163 : decode cX10_round 163 = .ok (.iload 8, 2) := by decide +kernel
theorem dX10_round_165 : decode cX10_round 165 = .ok (.iaload, 1) := by decide +kernel
theorem dX10_round_166 : decode cX10_round 166 = .ok (.iastore, 1) := by decide +kernel
theorem dX10_round_167 : decode cX10_round 167 = .ok (.iinc 8 1, 3) := by decide +kernel
theorem dX10_round_170 : decode cX10_round 170 = .ok (.goto (-26), 3) := by decide +kernel
theorem dX10_round_173 : decode cX10_round 173 = .ok (.aload_n 0, 1) := by decide +kernel
theorem dX10_round_174 : decode cX10_round 174 = .ok (.invokevirtual 419, 3) := by decide +kernel
theorem dX10_round_177 : decode cX10_round 177 = .ok (.istore 5, 2) := by decide +kernel
theorem dX10_round_179 : decode cX10_round 179 = .ok (.goto (-59), 3) := by decide +kernel
theorem dX10_round_182 : decode cX10_round 182 = .ok (.lload_n 3, 1) := by decide +kernel
theorem dX10_round_183 : decode cX10_round 183 = .ok (.ldc2_w 89, 3) := by decide +kernel
theorem dX10_round_186 : decode cX10_round 186 = .ok (.lcmp, 1) := by decide +kernel
theorem dX10_round_187 : decode cX10_round 187 = .ok (.ifCond .eq 7, 3) := by decide +kernel
theorem dX10_round_190 : decode cX10_round 190 = .ok (.iload_n 2, 1) := by decide +kernel
theorem dX10_round_191 : decode cX10_round 191 = .ok (.ifCond .ne 8, 3) := by decide +kernel
theorem dX10_round_194 : decode cX10_round 194 = .ok (.lload_n 3, 1) := by decide +kernel
theorem dX10_round_195 : decode cX10_round 195 = .ok (.invokestatic 336, 3) := by decide +kernel
theorem dX10_round_198 : decode cX10_round 198 = .ok (.lreturn, 1) := by decide +kernel
theorem dX10_round_199 : decode cX10_round 199 = .ok (.iload_n 2, 1) := by decide +kernel
theorem dX10_round_200 : decode cX10_round 200 = .ok (.aload_n 0, 1) := by decide +kernel
theorem dX10_round_201 : decode cX10_round 201 = .ok (.getfield 407, 3) := by decide +kernel
theorem dX10_round_204 : decode cX10_round 204 = .ok (.if_icmp .gt 15, 3) := by decide +kernel
theorem dX10_round_207 : decode cX10_round 207 = .ok (.aload_n 0, 1) := by decide +kernel
theorem dX10_round_208 : decode cX10_round 208 = .ok (.getfield 70, 3) := by decide +kernel
theorem dX10_round_211 : decode cX10_round 211 = .ok (.iload_n 2, 1) := by decide +kernel
theorem dX10_round_212 : decode cX10_round 212 = .ok (.iconst 1, 1) := by decide +kernel
theorem dX10_round_213 : decode cX10_round 213 = .ok (.isub, 1) := by decide +kernel
theorem dX10_round_214 : decode cX10_round 214 = .ok (.iaload, 1) := by decide +kernel
theorem dX10_round_215 : decode cX10_round 215 = .ok (.i2l, 1) := by decide +kernel
theorem dX10_round_216 : decode cX10_round 216 = .ok (.goto 6, 3) := by decide +kernel
theorem dX10_round_219 : decode cX10_round 219 = .ok (.ldc2_w 422, 3) := by decide +kernel
theorem dX10_round_222 : decode cX10_round 222 = .ok (.lreturn, 1) := by decide +kernel
theorem dX10_gather_0 : decode cX10_gather 0 = .ok (.lconst 0, 1) := by decide +kernel
theorem dX10_gather_1 : decode cX10_gather 1 = .ok (.lstore 4, 2) := by decide +kernel
theorem dX10_gather_3 : decode cX10_gather 3 = .ok (.iconst 0, 1) := by decide +kernel
theorem dX10_gather_4 : decode cX10_gather 4 = .ok (.istore 6, 2) := by decide +kernel
theorem dX10_gather_6 : decode cX10_gather 6 = .ok (.iconst 0, 1) := by decide +kernel
theorem dX10_gather_7 : decode cX10_gather 7 = .ok (.istore 7, 2) := by decide +kernel
theorem dX10_gather_9 : decode cX10_gather 9 = .ok (.iload 7, 2) := by decide +kernel
theorem dX10_gather_11 : decode cX10_gather 11 = .ok (.aload_n 0, 1) := by decide +kernel
theorem dX10_gather_12 : decode cX10_gather 12 = .ok (.invokevirtual 77, 3) := by decide +kernel
theorem dX10_gather_15 : decode cX10_gather 15 = .ok (.if_icmp .ge 85, 3) := by decide +kernel
theorem dX10_gather_18 : decode cX10_gather 18 = .ok (.iload_n 1, 1) := by decide +kernel
theorem dX10_gather_19 : decode cX10_gather 19 = .ok (.iload 7, 2) := by decide +kernel
theorem dX10_gather_21 : decode cX10_gather 21 = .ok (.invokestatic 321, 3) := by decide +kernel
theorem dX10_gather_24 : decode cX10_gather 24 = .ok (.ifCond .ne 6, 3) := by decide +kernel
theorem dX10_gather_27 : decode cX10_gather 27 = .ok (.goto 67, 3) := by decide +kernel
theorem dX10_gather_30 : decode cX10_gather 30 = .ok (.aload_n 0, 1) := by decide +kernel
theorem dX10_gather_31 : decode cX10_gather 31 = .ok (.getfield 54, 3) := by decide +kernel
theorem dX10_gather_34 : decode cX10_gather 34 = .ok (.bipush 12, 2) := by decide +kernel
theorem dX10_gather_36 : decode cX10_gather 36 = .ok (.iload 7, 2) := by decide +kernel
theorem dX10_gather_38 : decode cX10_gather 38 = .ok (.imul, 1) := by decide +kernel
theorem dX10_gather_39 : decode cX10_gather 39 = .ok (.iload_n 2, 1) := by decide +kernel
theorem dX10_gather_40 : decode cX10_gather 40 = .ok (.iadd, 1) := by decide +kernel
theorem dX10_gather_41 : decode cX10_gather 41 = .ok (.laload, 1) := by decide +kernel
theorem dX10_gather_42 : decode cX10_gather 42 = .ok (.lstore 8, 2) := by decide +kernel
theorem dX10_gather_44 : decode cX10_gather 44 = .ok (.lload 8, 2) := by decide +kernel
theorem dX10_gather_46 : decode cX10_gather 46 = .ok (.ldc2_w 89, 3) := by decide +kernel
theorem dX10_gather_49 : decode cX10_gather 49 = .ok (.lcmp, 1) := by decide +kernel
theorem dX10_gather_50 : decode cX10_gather 50 = .ok (.ifCond .ne 7, 3) := by decide +kernel
theorem dX10_gather_53 : decode cX10_gather 53 = .ok (.ldc2_w 89, 3) := by decide +kernel
theorem dX10_gather_56 : decode cX10_gather 56 = .ok (.lreturn, 1) := by decide +kernel
theorem dX10_gather_57 : decode cX10_gather 57 = .ok (.iload_n 3, 1) := by decide +kernel
theorem dX10_gather_58 : decode cX10_gather 58 = .ok (.ifCond .eq 26, 3) := by decide +kernel
theorem dX10_gather_61 : decode cX10_gather 61 = .ok (.iload 6, 2) := by decide +kernel
theorem dX10_gather_63 : decode cX10_gather 63 = .ok (.ifCond .eq 16, 3) := by decide +kernel
theorem dX10_gather_66 : decode cX10_gather 66 = .ok (.lload 4, 2) := by decide +kernel
theorem dX10_gather_68 : decode cX10_gather 68 = .ok (.lload 8, 2) := by decide +kernel
theorem dX10_gather_70 : decode cX10_gather 70 = .ok (.lcmp, 1) := by decide +kernel
theorem dX10_gather_71 : decode cX10_gather 71 = .ok (.ifCond .le 8, 3) := by decide +kernel
theorem dX10_gather_74 : decode cX10_gather 74 = .ok (.lload 4, 2) := by decide +kernel
theorem dX10_gather_76 : decode cX10_gather 76 = .ok (.goto 13, 3) := by decide +kernel
theorem dX10_gather_79 : decode cX10_gather 79 = .ok (.lload 8, 2) := by decide +kernel
theorem dX10_gather_81 : decode cX10_gather 81 = .ok (.goto 8, 3) := by decide +kernel
theorem dX10_gather_84 : decode cX10_gather 84 = .ok (.lload 4, 2) := by decide +kernel
theorem dX10_gather_86 : decode cX10_gather 86 = .ok (.lload 8, 2) := by decide +kernel
theorem dX10_gather_88 : decode cX10_gather 88 = .ok (.ladd, 1) := by decide +kernel
theorem dX10_gather_89 : decode cX10_gather 89 = .ok (.lstore 4, 2) := by decide +kernel
theorem dX10_gather_91 : decode cX10_gather 91 = .ok (.iconst 1, 1) := by decide +kernel
theorem dX10_gather_92 : decode cX10_gather 92 = .ok (.istore 6, 2) := by decide +kernel
theorem dX10_gather_94 : decode cX10_gather 94 = .ok (.iinc 7 1, 3) := by decide +kernel
theorem dX10_gather_97 : decode cX10_gather 97 = .ok (.goto (-88), 3) := by decide +kernel
theorem dX10_gather_100 : decode cX10_gather 100 = .ok (.lload 4, 2) := by decide +kernel
theorem dX10_gather_102 : decode cX10_gather 102 = .ok (.lreturn, 1) := by decide +kernel
theorem dX10_meet_0 : decode cX10_meet 0 = .ok (.iload_n 1, 1) := by decide +kernel
theorem dX10_meet_1 : decode cX10_meet 1 = .ok (.i2l, 1) := by decide +kernel
theorem dX10_meet_2 : decode cX10_meet 2 = .ok (.lconst 1, 1) := by decide +kernel
theorem dX10_meet_3 : decode cX10_meet 3 = .ok (.iconst 1, 1) := by decide +kernel
theorem dX10_meet_4 : decode cX10_meet 4 = .ok (.aload_n 0, 1) := by decide +kernel
theorem dX10_meet_5 : decode cX10_meet 5 = .ok (.invokevirtual 77, 3) := by decide +kernel
theorem dX10_meet_8 : decode cX10_meet 8 = .ok (.ishl, 1) := by decide +kernel
theorem dX10_meet_9 : decode cX10_meet 9 = .ok (.iconst 1, 1) := by decide +kernel
theorem dX10_meet_10 : decode cX10_meet 10 = .ok (.isub, 1) := by decide +kernel
theorem dX10_meet_11 : decode cX10_meet 11 = .ok (.i2l, 1) := by decide +kernel
theorem dX10_meet_12 : decode cX10_meet 12 = .ok (.invokestatic 81, 3) := by decide +kernel
theorem dX10_meet_15 : decode cX10_meet 15 = .ok (.ifCond .eq 15, 3) := by decide +kernel
theorem dX10_meet_18 : decode cX10_meet 18 = .ok (.iload_n 2, 1) := by decide +kernel
theorem dX10_meet_19 : decode cX10_meet 19 = .ok (.i2l, 1) := by decide +kernel
theorem dX10_meet_20 : decode cX10_meet 20 = .ok (.lconst 0, 1) := by decide +kernel
theorem dX10_meet_21 : decode cX10_meet 21 = .ok (.ldc2_w 389, 3) := by decide +kernel
theorem dX10_meet_24 : decode cX10_meet 24 = .ok (.invokestatic 81, 3) := by decide +kernel
theorem dX10_meet_27 : decode cX10_meet 27 = .ok (.ifCond .ne 7, 3) := by decide +kernel
theorem dX10_meet_30 : decode cX10_meet 30 = .ok (.ldc2_w 99, 3) := by decide +kernel
theorem dX10_meet_33 : decode cX10_meet 33 = .ok (.lreturn, 1) := by decide +kernel
theorem dX10_meet_34 : decode cX10_meet 34 = .ok (.aload_n 0, 1) := by decide +kernel
theorem dX10_meet_35 : decode cX10_meet 35 = .ok (.invokevirtual 324, 3) := by decide +kernel
theorem dX10_meet_38 : decode cX10_meet 38 = .ok (.iconst (-1), 1) := by decide +kernel
theorem dX10_meet_39 : decode cX10_meet 39 = .ok (.istore_n 3, 1) := by decide +kernel
theorem dX10_meet_40 : decode cX10_meet 40 = .ok (.ldc2_w 89, 3) := by decide +kernel
theorem dX10_meet_43 : decode cX10_meet 43 = .ok (.lstore 4, 2) := by decide +kernel
theorem dX10_meet_45 : decode cX10_meet 45 = .ok (.iconst 0, 1) := by decide +kernel
theorem dX10_meet_46 : decode cX10_meet 46 = .ok (.istore 6, 2) := by decide +kernel
theorem dX10_meet_48 : decode cX10_meet 48 = .ok (.iload 6, 2) := by decide +kernel
theorem dX10_meet_50 : decode cX10_meet 50 = .ok (.aload_n 0, 1) := by decide +kernel
theorem dX10_meet_51 : decode cX10_meet 51 = .ok (.invokevirtual 77, 3) := by decide +kernel
theorem dX10_meet_54 : decode cX10_meet 54 = .ok (.if_icmp .ge 46, 3) := by decide +kernel
theorem dX10_meet_57 : decode cX10_meet 57 = .ok (.aload_n 0, 1) := by decide +kernel
theorem dX10_meet_58 : decode cX10_meet 58 = .ok (.iload_n 1, 1) := by decide +kernel
theorem dX10_meet_59 : decode cX10_meet 59 = .ok (.iload 6, 2) := by decide +kernel
theorem dX10_meet_61 : decode cX10_meet 61 = .ok (.iload_n 2, 1) := by decide +kernel
theorem dX10_meet_62 : decode cX10_meet 62 = .ok (.iconst 1, 1) := by decide +kernel
theorem dX10_meet_63 : decode cX10_meet 63 = .ok (.if_icmp .le 7, 3) := by decide +kernel
theorem dX10_meet_66 : decode cX10_meet 66 = .ok (.iconst 1, 1) := by decide +kernel
theorem dX10_meet_67 : decode cX10_meet 67 = .ok (.goto 4, 3) := by decide +kernel
theorem dX10_meet_70 : decode cX10_meet 70 = .ok (.iconst 0, 1) := by decide +kernel
theorem dX10_meet_71 : decode cX10_meet 71 = .ok (.invokevirtual 424, 3) := by decide +kernel
theorem dX10_meet_74 : decode cX10_meet 74 = .ok (.lstore 7, 2) := by decide +kernel
theorem dX10_meet_76 : decode cX10_meet 76 = .ok (.lload 7, 2) := by decide +kernel
theorem dX10_meet_78 : decode cX10_meet 78 = .ok (.lload 4, 2) := by decide +kernel
theorem dX10_meet_80 : decode cX10_meet 80 = .ok (.lcmp, 1) := by decide +kernel
theorem dX10_meet_81 : decode cX10_meet 81 = .ok (.ifCond .lt 6, 3) := by decide +kernel
theorem dX10_meet_84 : decode cX10_meet 84 = .ok (.goto 10, 3) := by decide +kernel
theorem dX10_meet_87 : decode cX10_meet 87 = .ok (.iload 6, 2) := by decide +kernel
theorem dX10_meet_89 : decode cX10_meet 89 = .ok (.istore_n 3, 1) := by decide +kernel
theorem dX10_meet_90 : decode cX10_meet 90 = .ok (.lload 7, 2) := by decide +kernel
theorem dX10_meet_92 : decode cX10_meet 92 = .ok (.lstore 4, 2) := by decide +kernel
theorem dX10_meet_94 : decode cX10_meet 94 = .ok (.iinc 6 1, 3) := by decide +kernel
theorem dX10_meet_97 : decode cX10_meet 97 = .ok (.goto (-49), 3) := by decide +kernel
theorem dX10_meet_100 : decode cX10_meet 100 = .ok (.iload_n 3, 1) := by decide +kernel
theorem dX10_meet_101 : decode cX10_meet 101 = .ok (.iconst (-1), 1) := by decide +kernel
theorem dX10_meet_102 : decode cX10_meet 102 = .ok (.if_icmp .ne 9, 3) := by decide +kernel
theorem dX10_meet_105 : decode cX10_meet 105 = .ok (.ldc2_w 99, 3) := by decide +kernel
theorem dX10_meet_108 : decode cX10_meet 108 = .ok (.goto 16, 3) := by decide +kernel
theorem dX10_meet_111 : decode cX10_meet 111 = .ok (.iload_n 2, 1) := by decide +kernel
theorem dX10_meet_112 : decode cX10_meet 112 = .ok (.iconst 2, 1) := by decide +kernel
theorem dX10_meet_113 : decode cX10_meet 113 = .ok (.irem, 1) := by decide +kernel
theorem dX10_meet_114 : decode cX10_meet 114 = .ok (.ifCond .ne 8, 3) := by decide +kernel
theorem dX10_meet_117 : decode cX10_meet 117 = .ok (.iload_n 3, 1) := by decide +kernel
theorem dX10_meet_118 : decode cX10_meet 118 = .ok (.i2l, 1) := by decide +kernel
theorem dX10_meet_119 : decode cX10_meet 119 = .ok (.goto 5, 3) := by decide +kernel
theorem dX10_meet_122 : decode cX10_meet 122 = .ok (.lload 4, 2) := by decide +kernel
theorem dX10_meet_124 : decode cX10_meet 124 = .ok (.lreturn, 1) := by decide +kernel
theorem dX10_through_0 : decode cX10_through 0 = .ok (.aload_n 0, 1) := by decide +kernel
theorem dX10_through_1 : decode cX10_through 1 = .ok (.iload_n 1, 1) := by decide +kernel
theorem dX10_through_2 : decode cX10_through 2 = .ok (.invokevirtual 121, 3) := by decide +kernel
theorem dX10_through_5 : decode cX10_through 5 = .ok (.ifCond .eq 11, 3) := by decide +kernel
theorem dX10_through_8 : decode cX10_through 8 = .ok (.aload_n 0, 1) := by decide +kernel
theorem dX10_through_9 : decode cX10_through 9 = .ok (.iload_n 2, 1) := by decide +kernel
theorem dX10_through_10 : decode cX10_through 10 = .ok (.invokevirtual 121, 3) := by decide +kernel
theorem dX10_through_13 : decode cX10_through 13 = .ok (.ifCond .ne 7, 3) := by decide +kernel
theorem dX10_through_16 : decode cX10_through 16 = .ok (.ldc2_w 99, 3) := by decide +kernel
theorem dX10_through_19 : decode cX10_through 19 = .ok (.lreturn, 1) := by decide +kernel
theorem dX10_through_20 : decode cX10_through 20 = .ok (.aload_n 0, 1) := by decide +kernel
theorem dX10_through_21 : decode cX10_through 21 = .ok (.invokevirtual 104, 3) := by decide +kernel
theorem dX10_through_24 : decode cX10_through 24 = .ok (.aload_n 0, 1) := by decide +kernel
theorem dX10_through_25 : decode cX10_through 25 = .ok (.iload_n 2, 1) := by decide +kernel
theorem dX10_through_26 : decode cX10_through 26 = .ok (.iconst (-1), 1) := by decide +kernel
theorem dX10_through_27 : decode cX10_through 27 = .ok (.invokevirtual 95, 3) := by decide +kernel
theorem dX10_through_30 : decode cX10_through 30 = .ok (.aload_n 0, 1) := by decide +kernel
theorem dX10_through_31 : decode cX10_through 31 = .ok (.getfield 17, 3) := by decide +kernel
theorem dX10_through_34 : decode cX10_through 34 = .ok (.iload_n 2, 1) := by decide +kernel
theorem dX10_through_35 : decode cX10_through 35 = .ok (.laload, 1) := by decide +kernel
theorem dX10_through_36 : decode cX10_through 36 = .ok (.ldc2_w 89, 3) := by decide +kernel
theorem dX10_through_39 : decode cX10_through 39 = .ok (.lcmp, 1) := by decide +kernel
theorem dX10_through_40 : decode cX10_through 40 = .ok (.ifCond .eq 16, 3) := by decide +kernel
theorem dX10_through_43 : decode cX10_through 43 = .ok (.aload_n 0, 1) := by decide +kernel
theorem dX10_through_44 : decode cX10_through 44 = .ok (.getfield 13, 3) := by decide +kernel
theorem dX10_through_47 : decode cX10_through 47 = .ok (.iload_n 1, 1) := by decide +kernel
theorem dX10_through_48 : decode cX10_through 48 = .ok (.laload, 1) := by decide +kernel
theorem dX10_through_49 : decode cX10_through 49 = .ok (.ldc2_w 89, 3) := by decide +kernel
theorem dX10_through_52 : decode cX10_through 52 = .ok (.lcmp, 1) := by decide +kernel
theorem dX10_through_53 : decode cX10_through 53 = .ok (.ifCond .ne 9, 3) := by decide +kernel
theorem dX10_through_56 : decode cX10_through 56 = .ok (.ldc2_w 99, 3) := by decide +kernel
theorem dX10_through_59 : decode cX10_through 59 = .ok (.goto 16, 3) := by decide +kernel
theorem dX10_through_62 : decode cX10_through 62 = .ok (.aload_n 0, 1) := by decide +kernel
theorem dX10_through_63 : decode cX10_through 63 = .ok (.getfield 17, 3) := by decide +kernel
theorem dX10_through_66 : decode cX10_through 66 = .ok (.iload_n 2, 1) := by decide +kernel
theorem dX10_through_67 : decode cX10_through 67 = .ok (.laload, 1) := by decide +kernel
theorem dX10_through_68 : decode cX10_through 68 = .ok (.aload_n 0, 1) := by decide +kernel
theorem dX10_through_69 : decode cX10_through 69 = .ok (.getfield 13, 3) := by decide +kernel
theorem dX10_through_72 : decode cX10_through 72 = .ok (.iload_n 1, 1) := by decide +kernel
theorem dX10_through_73 : decode cX10_through 73 = .ok (.laload, 1) := by decide +kernel
theorem dX10_through_74 : decode cX10_through 74 = .ok (.ladd, 1) := by decide +kernel
theorem dX10_through_75 : decode cX10_through 75 = .ok (.lreturn, 1) := by decide +kernel
theorem dX10_savedBy_0 : decode cX10_savedBy 0 = .ok (.aload_n 0, 1) := by decide +kernel
theorem dX10_savedBy_1 : decode cX10_savedBy 1 = .ok (.getfield 54, 3) := by decide +kernel
theorem dX10_savedBy_4 : decode cX10_savedBy 4 = .ok (.bipush 12, 2) := by decide +kernel
theorem dX10_savedBy_6 : decode cX10_savedBy 6 = .ok (.iload_n 2, 1) := by decide +kernel
theorem dX10_savedBy_7 : decode cX10_savedBy 7 = .ok (.imul, 1) := by decide +kernel
theorem dX10_savedBy_8 : decode cX10_savedBy 8 = .ok (.iload_n 1, 1) := by decide +kernel
theorem dX10_savedBy_9 : decode cX10_savedBy 9 = .ok (.iadd, 1) := by decide +kernel
theorem dX10_savedBy_10 : decode cX10_savedBy 10 = .ok (.laload, 1) := by decide +kernel
theorem dX10_savedBy_11 : decode cX10_savedBy 11 = .ok (.ldc2_w 89, 3) := by decide +kernel
theorem dX10_savedBy_14 : decode cX10_savedBy 14 = .ok (.lcmp, 1) := by decide +kernel
theorem dX10_savedBy_15 : decode cX10_savedBy 15 = .ok (.ifCond .ge 24, 3) := by decide +kernel
theorem dX10_savedBy_18 : decode cX10_savedBy 18 = .ok (.aload_n 0, 1) := by decide +kernel
theorem dX10_savedBy_19 : decode cX10_savedBy 19 = .ok (.getfield 54, 3) := by decide +kernel
theorem dX10_savedBy_22 : decode cX10_savedBy 22 = .ok (.bipush 12, 2) := by decide +kernel
theorem dX10_savedBy_24 : decode cX10_savedBy 24 = .ok (.iload_n 2, 1) := by decide +kernel
theorem dX10_savedBy_25 : decode cX10_savedBy 25 = .ok (.imul, 1) := by decide +kernel
theorem dX10_savedBy_26 : decode cX10_savedBy 26 = .ok (.iload_n 1, 1) := by decide +kernel
theorem dX10_savedBy_27 : decode cX10_savedBy 27 = .ok (.iadd, 1) := by decide +kernel
theorem dX10_savedBy_28 : decode cX10_savedBy 28 = .ok (.laload, 1) := by decide +kernel
theorem dX10_savedBy_29 : decode cX10_savedBy 29 = .ok (.iload_n 3, 1) := by decide +kernel
theorem dX10_savedBy_30 : decode cX10_savedBy 30 = .ok (.i2l, 1) := by decide +kernel
theorem dX10_savedBy_31 : decode cX10_savedBy 31 = .ok (.ladd, 1) := by decide +kernel
theorem dX10_savedBy_32 : decode cX10_savedBy 32 = .ok (.lconst 0, 1) := by decide +kernel
theorem dX10_savedBy_33 : decode cX10_savedBy 33 = .ok (.lcmp, 1) := by decide +kernel
theorem dX10_savedBy_34 : decode cX10_savedBy 34 = .ok (.ifCond .gt 5, 3) := by decide +kernel
theorem dX10_savedBy_37 : decode cX10_savedBy 37 = .ok (.lconst 0, 1) := by decide +kernel
theorem dX10_savedBy_38 : decode cX10_savedBy 38 = .ok (.lreturn, 1) := by decide +kernel
theorem dX10_savedBy_39 : decode cX10_savedBy 39 = .ok (.lconst 0, 1) := by decide +kernel
theorem dX10_savedBy_40 : decode cX10_savedBy 40 = .ok (.lstore 4, 2) := by decide +kernel
theorem dX10_savedBy_42 : decode cX10_savedBy 42 = .ok (.iconst 0, 1) := by decide +kernel
theorem dX10_savedBy_43 : decode cX10_savedBy 43 = .ok (.istore 6, 2) := by decide +kernel
theorem dX10_savedBy_45 : decode cX10_savedBy 45 = .ok (.iload 6, 2) := by decide +kernel
theorem dX10_savedBy_47 : decode cX10_savedBy 47 = .ok (.aload_n 0, 1) := by decide +kernel
theorem dX10_savedBy_48 : decode cX10_savedBy 48 = .ok (.invokevirtual 77, 3) := by decide +kernel
theorem dX10_savedBy_51 : decode cX10_savedBy 51 = .ok (.if_icmp .ge 97, 3) := by decide +kernel
theorem dX10_savedBy_54 : decode cX10_savedBy 54 = .ok (.aload_n 0, 1) := by decide +kernel
theorem dX10_savedBy_55 : decode cX10_savedBy 55 = .ok (.getfield 17, 3) := by decide +kernel
theorem dX10_savedBy_58 : decode cX10_savedBy 58 = .ok (.iload 6, 2) := by decide +kernel
theorem dX10_savedBy_60 : decode cX10_savedBy 60 = .ok (.laload, 1) := by decide +kernel
theorem dX10_savedBy_61 : decode cX10_savedBy 61 = .ok (.ldc2_w 89, 3) := by decide +kernel
theorem dX10_savedBy_64 : decode cX10_savedBy 64 = .ok (.lcmp, 1) := by decide +kernel
theorem dX10_savedBy_65 : decode cX10_savedBy 65 = .ok (.ifCond .eq 77, 3) := by decide +kernel
theorem dX10_savedBy_68 : decode cX10_savedBy 68 = .ok (.aload_n 0, 1) := by decide +kernel
theorem dX10_savedBy_69 : decode cX10_savedBy 69 = .ok (.getfield 54, 3) := by decide +kernel
theorem dX10_savedBy_72 : decode cX10_savedBy 72 = .ok (.bipush 12, 2) := by decide +kernel
theorem dX10_savedBy_74 : decode cX10_savedBy 74 = .ok (.iload_n 2, 1) := by decide +kernel
theorem dX10_savedBy_75 : decode cX10_savedBy 75 = .ok (.imul, 1) := by decide +kernel
theorem dX10_savedBy_76 : decode cX10_savedBy 76 = .ok (.iload 6, 2) := by decide +kernel
theorem dX10_savedBy_78 : decode cX10_savedBy 78 = .ok (.iadd, 1) := by decide +kernel
theorem dX10_savedBy_79 : decode cX10_savedBy 79 = .ok (.laload, 1) := by decide +kernel
theorem dX10_savedBy_80 : decode cX10_savedBy 80 = .ok (.ldc2_w 89, 3) := by decide +kernel
theorem dX10_savedBy_83 : decode cX10_savedBy 83 = .ok (.lcmp, 1) := by decide +kernel
theorem dX10_savedBy_84 : decode cX10_savedBy 84 = .ok (.ifCond .ne 6, 3) := by decide +kernel
theorem dX10_savedBy_87 : decode cX10_savedBy 87 = .ok (.goto 55, 3) := by decide +kernel
theorem dX10_savedBy_90 : decode cX10_savedBy 90 = .ok (.aload_n 0, 1) := by decide +kernel
theorem dX10_savedBy_91 : decode cX10_savedBy 91 = .ok (.getfield 17, 3) := by decide +kernel
theorem dX10_savedBy_94 : decode cX10_savedBy 94 = .ok (.iload_n 1, 1) := by decide +kernel
theorem dX10_savedBy_95 : decode cX10_savedBy 95 = .ok (.laload, 1) := by decide +kernel
theorem dX10_savedBy_96 : decode cX10_savedBy 96 = .ok (.iload_n 3, 1) := by decide +kernel
theorem dX10_savedBy_97 : decode cX10_savedBy 97 = .ok (.i2l, 1) := by decide +kernel
theorem dX10_savedBy_98 : decode cX10_savedBy 98 = .ok (.ladd, 1) := by decide +kernel
theorem dX10_savedBy_99 : decode cX10_savedBy 99 = .ok (.aload_n 0, 1) := by decide +kernel
theorem dX10_savedBy_100 : decode cX10_savedBy 100 = .ok (.getfield 54, 3) := by decide +kernel
theorem dX10_savedBy_103 : decode cX10_savedBy 103 = .ok (.bipush 12, 2) := by decide +kernel
theorem dX10_savedBy_105 : decode cX10_savedBy 105 = .ok (.iload_n 2, 1) := by decide +kernel
theorem dX10_savedBy_106 : decode cX10_savedBy 106 = .ok (.imul, 1) := by decide +kernel
theorem dX10_savedBy_107 : decode cX10_savedBy 107 = .ok (.iload 6, 2) := by decide +kernel
theorem dX10_savedBy_109 : decode cX10_savedBy 109 = .ok (.iadd, 1) := by decide +kernel
theorem dX10_savedBy_110 : decode cX10_savedBy 110 = .ok (.laload, 1) := by decide +kernel
theorem dX10_savedBy_111 : decode cX10_savedBy 111 = .ok (.ladd, 1) := by decide +kernel
theorem dX10_savedBy_112 : decode cX10_savedBy 112 = .ok (.lstore 7, 2) := by decide +kernel
theorem dX10_savedBy_114 : decode cX10_savedBy 114 = .ok (.lload 7, 2) := by decide +kernel
theorem dX10_savedBy_116 : decode cX10_savedBy 116 = .ok (.aload_n 0, 1) := by decide +kernel
theorem dX10_savedBy_117 : decode cX10_savedBy 117 = .ok (.getfield 17, 3) := by decide +kernel
theorem dX10_savedBy_120 : decode cX10_savedBy 120 = .ok (.iload 6, 2) := by decide +kernel
theorem dX10_savedBy_122 : decode cX10_savedBy 122 = .ok (.laload, 1) := by decide +kernel
theorem dX10_savedBy_123 : decode cX10_savedBy 123 = .ok (.lcmp, 1) := by decide +kernel
theorem dX10_savedBy_124 : decode cX10_savedBy 124 = .ok (.ifCond .ge 18, 3) := by decide +kernel
theorem dX10_savedBy_127 : decode cX10_savedBy 127 = .ok (.lload 4, 2) := by decide +kernel
theorem dX10_savedBy_129 : decode cX10_savedBy 129 = .ok (.aload_n 0, 1) := by decide +kernel
theorem dX10_savedBy_130 : decode cX10_savedBy 130 = .ok (.getfield 17, 3) := by decide +kernel
theorem dX10_savedBy_133 : decode cX10_savedBy 133 = .ok (.iload 6, 2) := by decide +kernel
theorem dX10_savedBy_135 : decode cX10_savedBy 135 = .ok (.laload, 1) := by decide +kernel
theorem dX10_savedBy_136 : decode cX10_savedBy 136 = .ok (.ladd, 1) := by decide +kernel
theorem dX10_savedBy_137 : decode cX10_savedBy 137 = .ok (.lload 7, 2) := by decide +kernel
theorem dX10_savedBy_139 : decode cX10_savedBy 139 = .ok (.lsub, 1) := by decide +kernel
theorem dX10_savedBy_140 : decode cX10_savedBy 140 = .ok (.lstore 4, 2) := by decide +kernel
theorem dX10_savedBy_142 : decode cX10_savedBy 142 = .ok (.iinc 6 1, 3) := by decide +kernel
theorem dX10_savedBy_145 : decode cX10_savedBy 145 = .ok (.goto (-100), 3) := by decide +kernel
theorem dX10_savedBy_148 : decode cX10_savedBy 148 = .ok (.lload 4, 2) := by decide +kernel
theorem dX10_savedBy_150 : decode cX10_savedBy 150 = .ok (.lreturn, 1) := by decide +kernel
theorem dX10_shortcut_0 : decode cX10_shortcut 0 = .ok (.iload_n 1, 1) := by decide +kernel
theorem dX10_shortcut_1 : decode cX10_shortcut 1 = .ok (.i2l, 1) := by decide +kernel
theorem dX10_shortcut_2 : decode cX10_shortcut 2 = .ok (.invokestatic 124, 3) := by decide +kernel
theorem dX10_shortcut_5 : decode cX10_shortcut 5 = .ok (.ifCond .eq 15, 3) := by decide +kernel
theorem dX10_shortcut_8 : decode cX10_shortcut 8 = .ok (.iload_n 2, 1) := by decide +kernel
theorem dX10_shortcut_9 : decode cX10_shortcut 9 = .ok (.i2l, 1) := by decide +kernel
theorem dX10_shortcut_10 : decode cX10_shortcut 10 = .ok (.lconst 0, 1) := by decide +kernel
theorem dX10_shortcut_11 : decode cX10_shortcut 11 = .ok (.ldc2_w 220, 3) := by decide +kernel
theorem dX10_shortcut_14 : decode cX10_shortcut 14 = .ok (.invokestatic 81, 3) := by decide +kernel
theorem dX10_shortcut_17 : decode cX10_shortcut 17 = .ok (.ifCond .ne 7, 3) := by decide +kernel
theorem dX10_shortcut_20 : decode cX10_shortcut 20 = .ok (.ldc2_w 99, 3) := by decide +kernel
theorem dX10_shortcut_23 : decode cX10_shortcut 23 = .ok (.lreturn, 1) := by decide +kernel
theorem dX10_shortcut_24 : decode cX10_shortcut 24 = .ok (.aload_n 0, 1) := by decide +kernel
theorem dX10_shortcut_25 : decode cX10_shortcut 25 = .ok (.invokevirtual 104, 3) := by decide +kernel
theorem dX10_shortcut_28 : decode cX10_shortcut 28 = .ok (.aload_n 0, 1) := by decide +kernel
theorem dX10_shortcut_29 : decode cX10_shortcut 29 = .ok (.invokevirtual 324, 3) := by decide +kernel
theorem dX10_shortcut_32 : decode cX10_shortcut 32 = .ok (.bipush (-2), 2) := by decide +kernel
theorem dX10_shortcut_34 : decode cX10_shortcut 34 = .ok (.istore_n 3, 1) := by decide +kernel
theorem dX10_shortcut_35 : decode cX10_shortcut 35 = .ok (.bipush (-2), 2) := by decide +kernel
theorem dX10_shortcut_37 : decode cX10_shortcut 37 = .ok (.istore 4, 2) := by decide +kernel
theorem dX10_shortcut_39 : decode cX10_shortcut 39 = .ok (.lconst 0, 1) := by decide +kernel
theorem dX10_shortcut_40 : decode cX10_shortcut 40 = .ok (.lstore 5, 2) := by decide +kernel
theorem dX10_shortcut_42 : decode cX10_shortcut 42 = .ok (.iconst 0, 1) := by decide +kernel
theorem dX10_shortcut_43 : decode cX10_shortcut 43 = .ok (.istore 7, 2) := by decide +kernel
theorem dX10_shortcut_45 : decode cX10_shortcut 45 = .ok (.iload 7, 2) := by decide +kernel
theorem dX10_shortcut_47 : decode cX10_shortcut 47 = .ok (.aload_n 0, 1) := by decide +kernel
theorem dX10_shortcut_48 : decode cX10_shortcut 48 = .ok (.invokevirtual 77, 3) := by decide +kernel
theorem dX10_shortcut_51 : decode cX10_shortcut 51 = .ok (.if_icmp .ge 85, 3) := by decide +kernel
theorem dX10_shortcut_54 : decode cX10_shortcut 54 = .ok (.iconst 0, 1) := by decide +kernel
theorem dX10_shortcut_55 : decode cX10_shortcut 55 = .ok (.istore 8, 2) := by decide +kernel
theorem dX10_shortcut_57 : decode cX10_shortcut 57 = .ok (.iload 8, 2) := by decide +kernel
theorem dX10_shortcut_59 : decode cX10_shortcut 59 = .ok (.aload_n 0, 1) := by decide +kernel
theorem dX10_shortcut_60 : decode cX10_shortcut 60 = .ok (.invokevirtual 77, 3) := by decide +kernel
theorem dX10_shortcut_63 : decode cX10_shortcut 63 = .ok (.if_icmp .ge 67, 3) := by decide +kernel
theorem dX10_shortcut_66 : decode cX10_shortcut 66 = .ok (.aload_n 0, 1) := by decide +kernel
theorem dX10_shortcut_67 : decode cX10_shortcut 67 = .ok (.getfield 17, 3) := by decide +kernel
theorem dX10_shortcut_70 : decode cX10_shortcut 70 = .ok (.iload 7, 2) := by decide +kernel
theorem dX10_shortcut_72 : decode cX10_shortcut 72 = .ok (.laload, 1) := by decide +kernel
theorem dX10_shortcut_73 : decode cX10_shortcut 73 = .ok (.ldc2_w 89, 3) := by decide +kernel
theorem dX10_shortcut_76 : decode cX10_shortcut 76 = .ok (.lcmp, 1) := by decide +kernel
theorem dX10_shortcut_77 : decode cX10_shortcut 77 = .ok (.ifCond .ge 53, 3) := by decide +kernel
theorem dX10_shortcut_80 : decode cX10_shortcut 80 = .ok (.iload 7, 2) := by decide +kernel
theorem dX10_shortcut_82 : decode cX10_shortcut 82 = .ok (.iload 8, 2) := by decide +kernel
theorem dX10_shortcut_84 : decode cX10_shortcut 84 = .ok (.if_icmp .ne 7, 3) := by decide +kernel
theorem dX10_shortcut_87 : decode cX10_shortcut 87 = .ok (.lconst 0, 1) := by decide +kernel
theorem dX10_shortcut_88 : decode cX10_shortcut 88 = .ok (.goto 12, 3) := by decide +kernel
theorem dX10_shortcut_91 : decode cX10_shortcut 91 = .ok (.aload_n 0, 1) := by decide +kernel
theorem dX10_shortcut_92 : decode cX10_shortcut 92 = .ok (.iload 7, 2) := by decide +kernel
theorem dX10_shortcut_94 : decode cX10_shortcut 94 = .ok (.iload 8, 2) := by decide +kernel
theorem dX10_shortcut_96 : decode cX10_shortcut 96 = .ok (.iload_n 1, 1) := by decide +kernel
theorem dX10_shortcut_97 : decode cX10_shortcut 97 = .ok (.invokevirtual 428, 3) := by decide +kernel
theorem dX10_shortcut_100 : decode cX10_shortcut 100 = .ok (.lstore 9, 2) := by decide +kernel
theorem dX10_shortcut_102 : decode cX10_shortcut 102 = .ok (.lload 9, 2) := by decide +kernel
theorem dX10_shortcut_104 : decode cX10_shortcut 104 = .ok (.lload 5, 2) := by decide +kernel
theorem dX10_shortcut_106 : decode cX10_shortcut 106 = .ok (.lcmp, 1) := by decide +kernel
theorem dX10_shortcut_107 : decode cX10_shortcut 107 = .ok (.ifCond .gt 6, 3) := by decide +kernel
theorem dX10_shortcut_110 : decode cX10_shortcut 110 = .ok (.goto 14, 3) := by decide +kernel
theorem dX10_shortcut_113 : decode cX10_shortcut 113 = .ok (.iload 7, 2) := by decide +kernel
theorem dX10_shortcut_115 : decode cX10_shortcut 115 = .ok (.istore_n 3, 1) := by decide +kernel
theorem dX10_shortcut_116 : decode cX10_shortcut 116 = .ok (.iload 8, 2) := by decide +kernel
theorem dX10_shortcut_118 : decode cX10_shortcut 118 = .ok (.istore 4, 2) := by decide +kernel
theorem dX10_shortcut_120 : decode cX10_shortcut 120 = .ok (.lload 9, 2) := by decide +kernel
theorem dX10_shortcut_122 : decode cX10_shortcut 122 = .ok (.lstore 5, 2) := by decide +kernel
theorem dX10_shortcut_124 : decode cX10_shortcut 124 = .ok (.iinc 8 1, 3) := by decide +kernel
theorem dX10_shortcut_127 : decode cX10_shortcut 127 = .ok (.goto (-70), 3) := by decide +kernel
theorem dX10_shortcut_130 : decode cX10_shortcut 130 = .ok (.iinc 7 1, 3) := by decide +kernel
theorem dX10_shortcut_133 : decode cX10_shortcut 133 = .ok (.goto (-88), 3) := by decide +kernel
theorem dX10_shortcut_136 : decode cX10_shortcut 136 = .ok (.iload_n 2, 1) := by decide +kernel
theorem dX10_shortcut_137 : decode cX10_shortcut 137 = .ok (.ifCond .ne 8, 3) := by decide +kernel
theorem dX10_shortcut_140 : decode cX10_shortcut 140 = .ok (.iload_n 3, 1) := by decide +kernel
theorem dX10_shortcut_141 : decode cX10_shortcut 141 = .ok (.i2l, 1) := by decide +kernel
theorem dX10_shortcut_142 : decode cX10_shortcut 142 = .ok (.goto 26, 3) := by decide +kernel
theorem dX10_shortcut_145 : decode cX10_shortcut 145 = .ok (.iload_n 2, 1) := by decide +kernel
theorem dX10_shortcut_146 : decode cX10_shortcut 146 = .ok (.iconst 1, 1) := by decide +kernel
theorem dX10_shortcut_147 : decode cX10_shortcut 147 = .ok (.if_icmp .ne 9, 3) := by decide +kernel
theorem dX10_shortcut_150 : decode cX10_shortcut 150 = .ok (.iload 4, 2) := by decide +kernel
theorem dX10_shortcut_152 : decode cX10_shortcut 152 = .ok (.i2l, 1) := by decide +kernel
theorem dX10_shortcut_153 : decode cX10_shortcut 153 = .ok (.goto 15, 3) := by decide +kernel
theorem dX10_shortcut_156 : decode cX10_shortcut 156 = .ok (.iload_n 3, 1) := by decide +kernel
theorem dX10_shortcut_157 : decode cX10_shortcut 157 = .ok (.ifCond .ge 9, 3) := by decide +kernel
theorem dX10_shortcut_160 : decode cX10_shortcut 160 = .ok (.ldc2_w 340, 3) := by decide +kernel
theorem dX10_shortcut_163 : decode cX10_shortcut 163 = .ok (.goto 5, 3) := by decide +kernel
theorem dX10_shortcut_166 : decode cX10_shortcut 166 = .ok (.lload 5, 2) := by decide +kernel
theorem dX10_shortcut_168 : decode cX10_shortcut 168 = .ok (.lreturn, 1) := by decide +kernel
theorem dX10_watch_0 : decode cX10_watch 0 = .ok (.aload_n 0, 1) := by decide +kernel
theorem dX10_watch_1 : decode cX10_watch 1 = .ok (.iload_n 1, 1) := by decide +kernel
theorem dX10_watch_2 : decode cX10_watch 2 = .ok (.invokevirtual 121, 3) := by decide +kernel
theorem dX10_watch_5 : decode cX10_watch 5 = .ok (.ifCond .eq 11, 3) := by decide +kernel
theorem dX10_watch_8 : decode cX10_watch 8 = .ok (.iload_n 2, 1) := by decide +kernel
theorem dX10_watch_9 : decode cX10_watch 9 = .ok (.i2l, 1) := by decide +kernel
theorem dX10_watch_10 : decode cX10_watch 10 = .ok (.invokestatic 124, 3) := by decide +kernel
theorem dX10_watch_13 : decode cX10_watch 13 = .ok (.ifCond .ne 5, 3) := by decide +kernel
theorem dX10_watch_16 : decode cX10_watch 16 = .ok (.iconst (-1), 1) := by decide +kernel
theorem dX10_watch_17 : decode cX10_watch 17 = .ok (.ireturn, 1) := by decide +kernel
theorem dX10_watch_18 : decode cX10_watch 18 = .ok (.aload_n 0, 1) := by decide +kernel
theorem dX10_watch_19 : decode cX10_watch 19 = .ok (.invokevirtual 104, 3) := by decide +kernel
theorem dX10_watch_22 : decode cX10_watch 22 = .ok (.sipush 172, 3) := by decide +kernel
theorem dX10_watch_25 : decode cX10_watch 25 = .ok (.iconst 3, 1) := by decide +kernel
theorem dX10_watch_26 : decode cX10_watch 26 = .ok (.iload_n 1, 1) := by decide +kernel
theorem dX10_watch_27 : decode cX10_watch 27 = .ok (.imul, 1) := by decide +kernel
theorem dX10_watch_28 : decode cX10_watch 28 = .ok (.iadd, 1) := by decide +kernel
theorem dX10_watch_29 : decode cX10_watch 29 = .ok (.istore_n 3, 1) := by decide +kernel
theorem dX10_watch_30 : decode cX10_watch 30 = .ok (.aload_n 0, 1) := by decide +kernel
theorem dX10_watch_31 : decode cX10_watch 31 = .ok (.getfield 7, 3) := by decide +kernel
theorem dX10_watch_34 : decode cX10_watch 34 = .ok (.iload_n 3, 1) := by decide +kernel
theorem dX10_watch_35 : decode cX10_watch 35 = .ok (.iconst 1, 1) := by decide +kernel
theorem dX10_watch_36 : decode cX10_watch 36 = .ok (.iastore, 1) := by decide +kernel
theorem dX10_watch_37 : decode cX10_watch 37 = .ok (.aload_n 0, 1) := by decide +kernel
theorem dX10_watch_38 : decode cX10_watch 38 = .ok (.getfield 7, 3) := by decide +kernel
theorem dX10_watch_41 : decode cX10_watch 41 = .ok (.iload_n 3, 1) := by decide +kernel
theorem dX10_watch_42 : decode cX10_watch 42 = .ok (.iconst 1, 1) := by decide +kernel
theorem dX10_watch_43 : decode cX10_watch 43 = .ok (.iadd, 1) := by decide +kernel
theorem dX10_watch_44 : decode cX10_watch 44 = .ok (.iload_n 2, 1) := by decide +kernel
theorem dX10_watch_45 : decode cX10_watch 45 = .ok (.iastore, 1) := by decide +kernel
theorem dX10_watch_46 : decode cX10_watch 46 = .ok (.aload_n 0, 1) := by decide +kernel
theorem dX10_watch_47 : decode cX10_watch 47 = .ok (.getfield 7, 3) := by decide +kernel
theorem dX10_watch_50 : decode cX10_watch 50 = .ok (.iload_n 3, 1) := by decide +kernel
theorem dX10_watch_51 : decode cX10_watch 51 = .ok (.iconst 2, 1) := by decide +kernel
theorem dX10_watch_52 : decode cX10_watch 52 = .ok (.iadd, 1) := by decide +kernel
theorem dX10_watch_53 : decode cX10_watch 53 = .ok (.aload_n 0, 1) := by decide +kernel
theorem dX10_watch_54 : decode cX10_watch 54 = .ok (.iload_n 1, 1) := by decide +kernel
theorem dX10_watch_55 : decode cX10_watch 55 = .ok (.invokevirtual 101, 3) := by decide +kernel
theorem dX10_watch_58 : decode cX10_watch 58 = .ok (.ifCond .eq 7, 3) := by decide +kernel
theorem dX10_watch_61 : decode cX10_watch 61 = .ok (.iconst 1, 1) := by decide +kernel
theorem dX10_watch_62 : decode cX10_watch 62 = .ok (.goto 4, 3) := by decide +kernel
theorem dX10_watch_65 : decode cX10_watch 65 = .ok (.iconst 0, 1) := by decide +kernel
theorem dX10_watch_66 : decode cX10_watch 66 = .ok (.iastore, 1) := by decide +kernel
theorem dX10_watch_67 : decode cX10_watch 67 = .ok (.aload_n 0, 1) := by decide +kernel
theorem dX10_watch_68 : decode cX10_watch 68 = .ok (.getfield 7, 3) := by decide +kernel
theorem dX10_watch_71 : decode cX10_watch 71 = .ok (.iload_n 3, 1) := by decide +kernel
theorem dX10_watch_72 : decode cX10_watch 72 = .ok (.iconst 2, 1) := by decide +kernel
theorem dX10_watch_73 : decode cX10_watch 73 = .ok (.iadd, 1) := by decide +kernel
theorem dX10_watch_74 : decode cX10_watch 74 = .ok (.iaload, 1) := by decide +kernel
theorem dX10_watch_75 : decode cX10_watch 75 = .ok (.ireturn, 1) := by decide +kernel
theorem dX10_forget_0 : decode cX10_forget 0 = .ok (.aload_n 0, 1) := by decide +kernel
theorem dX10_forget_1 : decode cX10_forget 1 = .ok (.iload_n 1, 1) := by decide +kernel
theorem dX10_forget_2 : decode cX10_forget 2 = .ok (.invokevirtual 121, 3) := by decide +kernel
theorem dX10_forget_5 : decode cX10_forget 5 = .ok (.ifCond .eq 18, 3) := by decide +kernel
theorem dX10_forget_8 : decode cX10_forget 8 = .ok (.aload_n 0, 1) := by decide +kernel
theorem dX10_forget_9 : decode cX10_forget 9 = .ok (.getfield 7, 3) := by decide +kernel
theorem dX10_forget_12 : decode cX10_forget 12 = .ok (.sipush 172, 3) := by decide +kernel
theorem dX10_forget_15 : decode cX10_forget 15 = .ok (.iconst 3, 1) := by decide +kernel
theorem dX10_forget_16 : decode cX10_forget 16 = .ok (.iload_n 1, 1) := by decide +kernel
theorem dX10_forget_17 : decode cX10_forget 17 = .ok (.imul, 1) := by decide +kernel
theorem dX10_forget_18 : decode cX10_forget 18 = .ok (.iadd, 1) := by decide +kernel
theorem dX10_forget_19 : decode cX10_forget 19 = .ok (.iaload, 1) := by decide +kernel
theorem dX10_forget_20 : decode cX10_forget 20 = .ok (.ifCond .ne 5, 3) := by decide +kernel
theorem dX10_forget_23 : decode cX10_forget 23 = .ok (.iconst 0, 1) := by decide +kernel
theorem dX10_forget_24 : decode cX10_forget 24 = .ok (.ireturn, 1) := by decide +kernel
theorem dX10_forget_25 : decode cX10_forget 25 = .ok (.iconst 0, 1) := by decide +kernel
theorem dX10_forget_26 : decode cX10_forget 26 = .ok (.istore_n 2, 1) := by decide +kernel
theorem dX10_forget_27 : decode cX10_forget 27 = .ok (.iload_n 2, 1) := by decide +kernel
theorem dX10_forget_28 : decode cX10_forget 28 = .ok (.iconst 3, 1) := by decide +kernel
theorem dX10_forget_29 : decode cX10_forget 29 = .ok (.if_icmp .ge 24, 3) := by decide +kernel
theorem dX10_forget_32 : decode cX10_forget 32 = .ok (.aload_n 0, 1) := by decide +kernel
theorem dX10_forget_33 : decode cX10_forget 33 = .ok (.getfield 7, 3) := by decide +kernel
theorem dX10_forget_36 : decode cX10_forget 36 = .ok (.sipush 172, 3) := by decide +kernel
theorem dX10_forget_39 : decode cX10_forget 39 = .ok (.iconst 3, 1) := by decide +kernel
theorem dX10_forget_40 : decode cX10_forget 40 = .ok (.iload_n 1, 1) := by decide +kernel
theorem dX10_forget_41 : decode cX10_forget 41 = .ok (.imul, 1) := by decide +kernel
theorem dX10_forget_42 : decode cX10_forget 42 = .ok (.iadd, 1) := by decide +kernel
theorem dX10_forget_43 : decode cX10_forget 43 = .ok (.iload_n 2, 1) := by decide +kernel
theorem dX10_forget_44 : decode cX10_forget 44 = .ok (.iadd, 1) := by decide +kernel
theorem dX10_forget_45 : decode cX10_forget 45 = .ok (.iconst 0, 1) := by decide +kernel
theorem dX10_forget_46 : decode cX10_forget 46 = .ok (.iastore, 1) := by decide +kernel
theorem dX10_forget_47 : decode cX10_forget 47 = .ok (.iinc 2 1, 3) := by decide +kernel
theorem dX10_forget_50 : decode cX10_forget 50 = .ok (.goto (-23), 3) := by decide +kernel
theorem dX10_forget_53 : decode cX10_forget 53 = .ok (.iconst 1, 1) := by decide +kernel
theorem dX10_forget_54 : decode cX10_forget 54 = .ok (.ireturn, 1) := by decide +kernel
theorem dX10_event_0 : decode cX10_event 0 = .ok (.iload_n 1, 1) := by decide +kernel
theorem dX10_event_1 : decode cX10_event 1 = .ok (.i2l, 1) := by decide +kernel
theorem dX10_event_2 : decode cX10_event 2 = .ok (.lconst 0, 1) := by decide +kernel
theorem dX10_event_3 : decode cX10_event 3 = .ok (.aload_n 0, 1) := by decide +kernel
theorem dX10_event_4 : decode cX10_event 4 = .ok (.getfield 7, 3) := by decide +kernel
theorem dX10_event_7 : decode cX10_event 7 = .ok (.iconst 4, 1) := by decide +kernel
theorem dX10_event_8 : decode cX10_event 8 = .ok (.iaload, 1) := by decide +kernel
theorem dX10_event_9 : decode cX10_event 9 = .ok (.iconst 1, 1) := by decide +kernel
theorem dX10_event_10 : decode cX10_event 10 = .ok (.isub, 1) := by decide +kernel
theorem dX10_event_11 : decode cX10_event 11 = .ok (.i2l, 1) := by decide +kernel
theorem dX10_event_12 : decode cX10_event 12 = .ok (.invokestatic 81, 3) := by decide +kernel
theorem dX10_event_15 : decode cX10_event 15 = .ok (.ifCond .eq 15, 3) := by decide +kernel
theorem dX10_event_18 : decode cX10_event 18 = .ok (.iload_n 2, 1) := by decide +kernel
theorem dX10_event_19 : decode cX10_event 19 = .ok (.i2l, 1) := by decide +kernel
theorem dX10_event_20 : decode cX10_event 20 = .ok (.lconst 0, 1) := by decide +kernel
theorem dX10_event_21 : decode cX10_event 21 = .ok (.ldc2_w 389, 3) := by decide +kernel
theorem dX10_event_24 : decode cX10_event 24 = .ok (.invokestatic 81, 3) := by decide +kernel
theorem dX10_event_27 : decode cX10_event 27 = .ok (.ifCond .ne 7, 3) := by decide +kernel
theorem dX10_event_30 : decode cX10_event 30 = .ok (.ldc2_w 99, 3) := by decide +kernel
theorem dX10_event_33 : decode cX10_event 33 = .ok (.lreturn, 1) := by decide +kernel
theorem dX10_event_34 : decode cX10_event 34 = .ok (.sipush 208, 3) := by decide +kernel
theorem dX10_event_37 : decode cX10_event 37 = .ok (.iconst 5, 1) := by decide +kernel
theorem dX10_event_38 : decode cX10_event 38 = .ok (.iload_n 1, 1) := by decide +kernel
theorem dX10_event_39 : decode cX10_event 39 = .ok (.imul, 1) := by decide +kernel
theorem dX10_event_40 : decode cX10_event 40 = .ok (.iadd, 1) := by decide +kernel
theorem dX10_event_41 : decode cX10_event 41 = .ok (.istore_n 3, 1) := by decide +kernel
theorem dX10_event_42 : decode cX10_event 42 = .ok (.iload_n 2, 1) := by decide +kernel
theorem dX10_event_43 : decode cX10_event 43 = .ok (.iconst 3, 1) := by decide +kernel
theorem dX10_event_44 : decode cX10_event 44 = .ok (.if_icmp .ne 20, 3) := by decide +kernel
theorem dX10_event_47 : decode cX10_event 47 = .ok (.aload_n 0, 1) := by decide +kernel
theorem dX10_event_48 : decode cX10_event 48 = .ok (.getfield 7, 3) := by decide +kernel
theorem dX10_event_51 : decode cX10_event 51 = .ok (.iload_n 3, 1) := by decide +kernel
theorem dX10_event_52 : decode cX10_event 52 = .ok (.iconst 4, 1) := by decide +kernel
theorem dX10_event_53 : decode cX10_event 53 = .ok (.iadd, 1) := by decide +kernel
theorem dX10_event_54 : decode cX10_event 54 = .ok (.iaload, 1) := by decide +kernel
theorem dX10_event_55 : decode cX10_event 55 = .ok (.ifCond .ne 9, 3) := by decide +kernel
theorem dX10_event_58 : decode cX10_event 58 = .ok (.ldc2_w 99, 3) := by decide +kernel
theorem dX10_event_61 : decode cX10_event 61 = .ok (.goto 12, 3) := by decide +kernel
theorem dX10_event_64 : decode cX10_event 64 = .ok (.aload_n 0, 1) := by decide +kernel
theorem dX10_event_65 : decode cX10_event 65 = .ok (.getfield 7, 3) := by decide +kernel
theorem dX10_event_68 : decode cX10_event 68 = .ok (.iload_n 3, 1) := by decide +kernel
theorem dX10_event_69 : decode cX10_event 69 = .ok (.iload_n 2, 1) := by decide +kernel
theorem dX10_event_70 : decode cX10_event 70 = .ok (.iadd, 1) := by decide +kernel
theorem dX10_event_71 : decode cX10_event 71 = .ok (.iaload, 1) := by decide +kernel
theorem dX10_event_72 : decode cX10_event 72 = .ok (.i2l, 1) := by decide +kernel
theorem dX10_event_73 : decode cX10_event 73 = .ok (.lreturn, 1) := by decide +kernel
theorem dX10_ifLength_0 : decode cX10_ifLength 0 = .ok (.aload_n 0, 1) := by decide +kernel
theorem dX10_ifLength_1 : decode cX10_ifLength 1 = .ok (.iload_n 1, 1) := by decide +kernel
theorem dX10_ifLength_2 : decode cX10_ifLength 2 = .ok (.invokevirtual 146, 3) := by decide +kernel
theorem dX10_ifLength_5 : decode cX10_ifLength 5 = .ok (.ifCond .eq 11, 3) := by decide +kernel
theorem dX10_ifLength_8 : decode cX10_ifLength 8 = .ok (.iload_n 2, 1) := by decide +kernel
theorem dX10_ifLength_9 : decode cX10_ifLength 9 = .ok (.i2l, 1) := by decide +kernel
theorem dX10_ifLength_10 : decode cX10_ifLength 10 = .ok (.invokestatic 124, 3) := by decide +kernel
theorem dX10_ifLength_13 : decode cX10_ifLength 13 = .ok (.ifCond .ne 5, 3) := by decide +kernel
theorem dX10_ifLength_16 : decode cX10_ifLength 16 = .ok (.iconst (-1), 1) := by decide +kernel
theorem dX10_ifLength_17 : decode cX10_ifLength 17 = .ok (.ireturn, 1) := by decide +kernel
theorem dX10_ifLength_18 : decode cX10_ifLength 18 = .ok (.aload_n 0, 1) := by decide +kernel
theorem dX10_ifLength_19 : decode cX10_ifLength 19 = .ok (.iload_n 1, 1) := by decide +kernel
theorem dX10_ifLength_20 : decode cX10_ifLength 20 = .ok (.invokevirtual 91, 3) := by decide +kernel
theorem dX10_ifLength_23 : decode cX10_ifLength 23 = .ok (.ifCond .ne 6, 3) := by decide +kernel
theorem dX10_ifLength_26 : decode cX10_ifLength 26 = .ok (.bipush (-6), 2) := by decide +kernel
theorem dX10_ifLength_28 : decode cX10_ifLength 28 = .ok (.ireturn, 1) := by decide +kernel
theorem dX10_ifLength_29 : decode cX10_ifLength 29 = .ok (.aload_n 0, 1) := by decide +kernel
theorem dX10_ifLength_30 : decode cX10_ifLength 30 = .ok (.iconst 0, 1) := by decide +kernel
theorem dX10_ifLength_31 : decode cX10_ifLength 31 = .ok (.iconst 3, 1) := by decide +kernel
theorem dX10_ifLength_32 : decode cX10_ifLength 32 = .ok (.invokevirtual 107, 3) := by decide +kernel
theorem dX10_ifLength_35 : decode cX10_ifLength 35 = .ok (.aload_n 0, 1) := by decide +kernel
theorem dX10_ifLength_36 : decode cX10_ifLength 36 = .ok (.iload_n 1, 1) := by decide +kernel
theorem dX10_ifLength_37 : decode cX10_ifLength 37 = .ok (.iload_n 2, 1) := by decide +kernel
theorem dX10_ifLength_38 : decode cX10_ifLength 38 = .ok (.invokevirtual 277, 3) := by decide +kernel
theorem dX10_ifLength_41 : decode cX10_ifLength 41 = .ok (.istore_n 3, 1) := by decide +kernel
theorem dX10_ifLength_42 : decode cX10_ifLength 42 = .ok (.aload_n 0, 1) := by decide +kernel
theorem dX10_ifLength_43 : decode cX10_ifLength 43 = .ok (.iconst 3, 1) := by decide +kernel
theorem dX10_ifLength_44 : decode cX10_ifLength 44 = .ok (.iconst 0, 1) := by decide +kernel
theorem dX10_ifLength_45 : decode cX10_ifLength 45 = .ok (.invokevirtual 107, 3) := by decide +kernel
theorem dX10_ifLength_48 : decode cX10_ifLength 48 = .ok (.iload_n 3, 1) := by decide +kernel
theorem dX10_ifLength_49 : decode cX10_ifLength 49 = .ok (.ireturn, 1) := by decide +kernel
theorem dX10_nextLot_0 : decode cX10_nextLot 0 = .ok (.aload_n 0, 1) := by decide +kernel
theorem dX10_nextLot_1 : decode cX10_nextLot 1 = .ok (.getfield 7, 3) := by decide +kernel
theorem dX10_nextLot_4 : decode cX10_nextLot 4 = .ok (.iconst 5, 1) := by decide +kernel
theorem dX10_nextLot_5 : decode cX10_nextLot 5 = .ok (.sipush 25173, 3) := by decide +kernel
theorem dX10_nextLot_8 : decode cX10_nextLot 8 = .ok (.aload_n 0, 1) := by decide +kernel
theorem dX10_nextLot_9 : decode cX10_nextLot 9 = .ok (.getfield 7, 3) := by decide +kernel
theorem dX10_nextLot_12 : decode cX10_nextLot 12 = .ok (.iconst 5, 1) := by decide +kernel
theorem dX10_nextLot_13 : decode cX10_nextLot 13 = .ok (.iaload, 1) := by decide +kernel
theorem dX10_nextLot_14 : decode cX10_nextLot 14 = .ok (.imul, 1) := by decide +kernel
theorem dX10_nextLot_15 : decode cX10_nextLot 15 = .ok (.sipush 13849, 3) := by decide +kernel
theorem dX10_nextLot_18 : decode cX10_nextLot 18 = .ok (.iadd, 1) := by decide +kernel
theorem dX10_nextLot_19 : decode cX10_nextLot 19 = .ok (.ldc_w 432, 3) := by decide +kernel
theorem dX10_nextLot_22 : decode cX10_nextLot 22 = .ok (.irem, 1) := by decide +kernel
theorem dX10_nextLot_23 : decode cX10_nextLot 23 = .ok (.iastore, 1) := by decide +kernel
theorem dX10_nextLot_24 : decode cX10_nextLot 24 = .ok (.aload_n 0, 1) := by decide +kernel
theorem dX10_nextLot_25 : decode cX10_nextLot 25 = .ok (.getfield 7, 3) := by decide +kernel
theorem dX10_nextLot_28 : decode cX10_nextLot 28 = .ok (.iconst 5, 1) := by decide +kernel
theorem dX10_nextLot_29 : decode cX10_nextLot 29 = .ok (.iaload, 1) := by decide +kernel
theorem dX10_nextLot_30 : decode cX10_nextLot 30 = .ok (.ireturn, 1) := by decide +kernel
theorem dX10_draws_0 : decode cX10_draws 0 = .ok (.aload_n 0, 1) := by decide +kernel
theorem dX10_draws_1 : decode cX10_draws 1 = .ok (.invokevirtual 433, 3) := by decide +kernel
theorem dX10_draws_4 : decode cX10_draws 4 = .ok (.aload_n 0, 1) := by decide +kernel
theorem dX10_draws_5 : decode cX10_draws 5 = .ok (.getfield 7, 3) := by decide +kernel
theorem dX10_draws_8 : decode cX10_draws 8 = .ok (.iconst 1, 1) := by decide +kernel
theorem dX10_draws_9 : decode cX10_draws 9 = .ok (.iaload, 1) := by decide +kernel
theorem dX10_draws_10 : decode cX10_draws 10 = .ok (.irem, 1) := by decide +kernel
theorem dX10_draws_11 : decode cX10_draws 11 = .ok (.istore_n 1, 1) := by decide +kernel
theorem dX10_draws_12 : decode cX10_draws 12 = .ok (.aload_n 0, 1) := by decide +kernel
theorem dX10_draws_13 : decode cX10_draws 13 = .ok (.invokevirtual 433, 3) := by decide +kernel
theorem dX10_draws_16 : decode cX10_draws 16 = .ok (.istore_n 2, 1) := by decide +kernel
theorem dX10_draws_17 : decode cX10_draws 17 = .ok (.iload_n 2, 1) := by decide +kernel
theorem dX10_draws_18 : decode cX10_draws 18 = .ok (.bipush 8, 2) := by decide +kernel
theorem dX10_draws_20 : decode cX10_draws 20 = .ok (.irem, 1) := by decide +kernel
theorem dX10_draws_21 : decode cX10_draws 21 = .ok (.ifCond .ne 17, 3) := by decide +kernel
theorem dX10_draws_24 : decode cX10_draws 24 = .ok (.aload_n 0, 1) := by decide +kernel
theorem dX10_draws_25 : decode cX10_draws 25 = .ok (.iload_n 1, 1) := by decide +kernel
theorem dX10_draws_26 : decode cX10_draws 26 = .ok (.iconst 1, 1) := by decide +kernel
theorem dX10_draws_27 : decode cX10_draws 27 = .ok (.aload_n 0, 1) := by decide +kernel
theorem dX10_draws_28 : decode cX10_draws 28 = .ok (.iload_n 1, 1) := by decide +kernel
theorem dX10_draws_29 : decode cX10_draws 29 = .ok (.iconst 3, 1) := by decide +kernel
theorem dX10_draws_30 : decode cX10_draws 30 = .ok (.invokevirtual 73, 3) := by decide +kernel
theorem dX10_draws_33 : decode cX10_draws 33 = .ok (.isub, 1) := by decide +kernel
theorem dX10_draws_34 : decode cX10_draws 34 = .ok (.invokevirtual 149, 3) := by decide +kernel
theorem dX10_draws_37 : decode cX10_draws 37 = .ok (.ireturn, 1) := by decide +kernel
theorem dX10_draws_38 : decode cX10_draws 38 = .ok (.aload_n 0, 1) := by decide +kernel
theorem dX10_draws_39 : decode cX10_draws 39 = .ok (.iload_n 1, 1) := by decide +kernel
theorem dX10_draws_40 : decode cX10_draws 40 = .ok (.bipush (-100), 2) := by decide +kernel
theorem dX10_draws_42 : decode cX10_draws 42 = .ok (.sipush 10000, 3) := by decide +kernel
theorem dX10_draws_45 : decode cX10_draws 45 = .ok (.aload_n 0, 1) := by decide +kernel
theorem dX10_draws_46 : decode cX10_draws 46 = .ok (.iload_n 1, 1) := by decide +kernel
theorem dX10_draws_47 : decode cX10_draws 47 = .ok (.iconst 2, 1) := by decide +kernel
theorem dX10_draws_48 : decode cX10_draws 48 = .ok (.invokevirtual 73, 3) := by decide +kernel
theorem dX10_draws_51 : decode cX10_draws 51 = .ok (.iload_n 2, 1) := by decide +kernel
theorem dX10_draws_52 : decode cX10_draws 52 = .ok (.bipush 41, 2) := by decide +kernel
theorem dX10_draws_54 : decode cX10_draws 54 = .ok (.irem, 1) := by decide +kernel
theorem dX10_draws_55 : decode cX10_draws 55 = .ok (.iadd, 1) := by decide +kernel
theorem dX10_draws_56 : decode cX10_draws 56 = .ok (.bipush 10, 2) := by decide +kernel
theorem dX10_draws_58 : decode cX10_draws 58 = .ok (.isub, 1) := by decide +kernel
theorem dX10_draws_59 : decode cX10_draws 59 = .ok (.invokestatic 436, 3) := by decide +kernel
theorem dX10_draws_62 : decode cX10_draws 62 = .ok (.invokestatic 439, 3) := by decide +kernel
theorem dX10_draws_65 : decode cX10_draws 65 = .ok (.invokevirtual 277, 3) := by decide +kernel
theorem dX10_draws_68 : decode cX10_draws 68 = .ok (.ireturn, 1) := by decide +kernel
theorem dX10_drawn_0 : decode cX10_drawn 0 = .ok (.iload_n 1, 1) := by decide +kernel
theorem dX10_drawn_1 : decode cX10_drawn 1 = .ok (.i2l, 1) := by decide +kernel
theorem dX10_drawn_2 : decode cX10_drawn 2 = .ok (.lconst 1, 1) := by decide +kernel
theorem dX10_drawn_3 : decode cX10_drawn 3 = .ok (.ldc2_w 442, 3) := by decide +kernel
theorem dX10_drawn_6 : decode cX10_drawn 6 = .ok (.invokestatic 81, 3) := by decide +kernel
theorem dX10_drawn_9 : decode cX10_drawn 9 = .ok (.ifCond .eq 20, 3) := by decide +kernel
theorem dX10_drawn_12 : decode cX10_drawn 12 = .ok (.aload_n 0, 1) := by decide +kernel
theorem dX10_drawn_13 : decode cX10_drawn 13 = .ok (.iload_n 2, 1) := by decide +kernel
theorem dX10_drawn_14 : decode cX10_drawn 14 = .ok (.invokevirtual 121, 3) := by decide +kernel
theorem dX10_drawn_17 : decode cX10_drawn 17 = .ok (.ifCond .eq 12, 3) := by decide +kernel
theorem dX10_drawn_20 : decode cX10_drawn 20 = .ok (.aload_n 0, 1) := by decide +kernel
theorem dX10_drawn_21 : decode cX10_drawn 21 = .ok (.getfield 7, 3) := by decide +kernel
theorem dX10_drawn_24 : decode cX10_drawn 24 = .ok (.iconst 1, 1) := by decide +kernel
theorem dX10_drawn_25 : decode cX10_drawn 25 = .ok (.iaload, 1) := by decide +kernel
theorem dX10_drawn_26 : decode cX10_drawn 26 = .ok (.ifCond .ne 7, 3) := by decide +kernel
theorem dX10_drawn_29 : decode cX10_drawn 29 = .ok (.ldc2_w 99, 3) := by decide +kernel
theorem dX10_drawn_32 : decode cX10_drawn 32 = .ok (.lreturn, 1) := by decide +kernel
theorem dX10_drawn_33 : decode cX10_drawn 33 = .ok (.aload_n 0, 1) := by decide +kernel
theorem dX10_drawn_34 : decode cX10_drawn 34 = .ok (.iconst 0, 1) := by decide +kernel
theorem dX10_drawn_35 : decode cX10_drawn 35 = .ok (.iconst 3, 1) := by decide +kernel
theorem dX10_drawn_36 : decode cX10_drawn 36 = .ok (.invokevirtual 107, 3) := by decide +kernel
theorem dX10_drawn_39 : decode cX10_drawn 39 = .ok (.iconst 0, 1) := by decide +kernel
theorem dX10_drawn_40 : decode cX10_drawn 40 = .ok (.istore_n 3, 1) := by decide +kernel
theorem dX10_drawn_41 : decode cX10_drawn 41 = .ok (.iconst 0, 1) := by decide +kernel
theorem dX10_drawn_42 : decode cX10_drawn 42 = .ok (.istore 4, 2) := by decide +kernel
theorem dX10_drawn_44 : decode cX10_drawn 44 = .ok (.iload 4, 2) := by decide +kernel
theorem dX10_drawn_46 : decode cX10_drawn 46 = .ok (.iload_n 1, 1) := by decide +kernel
theorem dX10_drawn_47 : decode cX10_drawn 47 = .ok (.if_icmp .ge 20, 3) := by decide +kernel
theorem dX10_drawn_50 : decode cX10_drawn 50 = .ok (.aload_n 0, 1) := by decide +kernel
theorem dX10_drawn_51 : decode cX10_drawn 51 = .ok (.invokevirtual 444, 3) := by decide +kernel
theorem dX10_drawn_54 : decode cX10_drawn 54 = .ok (.ifCond .lt 7, 3) := by decide +kernel
theorem dX10_drawn_57 : decode cX10_drawn 57 = .ok (.iload_n 3, 1) := by decide +kernel
theorem dX10_drawn_58 : decode cX10_drawn 58 = .ok (.iconst 1, 1) := by decide +kernel
theorem dX10_drawn_59 : decode cX10_drawn 59 = .ok (.iadd, 1) := by decide +kernel
theorem dX10_drawn_60 : decode cX10_drawn 60 = .ok (.istore_n 3, 1) := by decide +kernel
theorem dX10_drawn_61 : decode cX10_drawn 61 = .ok (.iinc 4 1, 3) := by decide +kernel
theorem dX10_drawn_64 : decode cX10_drawn 64 = .ok (.goto (-20), 3) := by decide +kernel
theorem dX10_drawn_67 : decode cX10_drawn 67 = .ok (.aload_n 0, 1) := by decide +kernel
theorem dX10_drawn_68 : decode cX10_drawn 68 = .ok (.invokevirtual 104, 3) := by decide +kernel
theorem dX10_drawn_71 : decode cX10_drawn 71 = .ok (.aload_n 0, 1) := by decide +kernel
theorem dX10_drawn_72 : decode cX10_drawn 72 = .ok (.iconst 3, 1) := by decide +kernel
theorem dX10_drawn_73 : decode cX10_drawn 73 = .ok (.iconst 0, 1) := by decide +kernel
theorem dX10_drawn_74 : decode cX10_drawn 74 = .ok (.invokevirtual 107, 3) := by decide +kernel
theorem dX10_drawn_77 : decode cX10_drawn 77 = .ok (.aload_n 0, 1) := by decide +kernel
theorem dX10_drawn_78 : decode cX10_drawn 78 = .ok (.getfield 17, 3) := by decide +kernel
theorem dX10_drawn_81 : decode cX10_drawn 81 = .ok (.iload_n 2, 1) := by decide +kernel
theorem dX10_drawn_82 : decode cX10_drawn 82 = .ok (.laload, 1) := by decide +kernel
theorem dX10_drawn_83 : decode cX10_drawn 83 = .ok (.invokestatic 336, 3) := by decide +kernel
theorem dX10_drawn_86 : decode cX10_drawn 86 = .ok (.lreturn, 1) := by decide +kernel
theorem dX10_seed_0 : decode cX10_seed 0 = .ok (.iload_n 1, 1) := by decide +kernel
theorem dX10_seed_1 : decode cX10_seed 1 = .ok (.i2l, 1) := by decide +kernel
theorem dX10_seed_2 : decode cX10_seed 2 = .ok (.lconst 0, 1) := by decide +kernel
theorem dX10_seed_3 : decode cX10_seed 3 = .ok (.ldc2_w 447, 3) := by decide +kernel
theorem dX10_seed_6 : decode cX10_seed 6 = .ok (.invokestatic 81, 3) := by decide +kernel
theorem dX10_seed_9 : decode cX10_seed 9 = .ok (.ifCond .ne 5, 3) := by decide +kernel
theorem dX10_seed_12 : decode cX10_seed 12 = .ok (.iconst 0, 1) := by decide +kernel
theorem dX10_seed_13 : decode cX10_seed 13 = .ok (.ireturn, 1) := by decide +kernel
theorem dX10_seed_14 : decode cX10_seed 14 = .ok (.aload_n 0, 1) := by decide +kernel
theorem dX10_seed_15 : decode cX10_seed 15 = .ok (.getfield 7, 3) := by decide +kernel
theorem dX10_seed_18 : decode cX10_seed 18 = .ok (.iconst 5, 1) := by decide +kernel
theorem dX10_seed_19 : decode cX10_seed 19 = .ok (.iload_n 1, 1) := by decide +kernel
theorem dX10_seed_20 : decode cX10_seed 20 = .ok (.iastore, 1) := by decide +kernel
theorem dX10_seed_21 : decode cX10_seed 21 = .ok (.iconst 1, 1) := by decide +kernel
theorem dX10_seed_22 : decode cX10_seed 22 = .ok (.ireturn, 1) := by decide +kernel
theorem dX10_keep_0 : decode cX10_keep 0 = .ok (.aload_n 0, 1) := by decide +kernel
theorem dX10_keep_1 : decode cX10_keep 1 = .ok (.iconst 1, 1) := by decide +kernel
theorem dX10_keep_2 : decode cX10_keep 2 = .ok (.putfield 270, 3) := by decide +kernel
theorem dX10_keep_5 : decode cX10_keep 5 = .ok (.aload_n 0, 1) := by decide +kernel
theorem dX10_keep_6 : decode cX10_keep 6 = .ok (.iconst 0, 1) := by decide +kernel
theorem dX10_keep_7 : decode cX10_keep 7 = .ok (.iconst 1, 1) := by decide +kernel
theorem dX10_keep_8 : decode cX10_keep 8 = .ok (.invokevirtual 107, 3) := by decide +kernel
theorem dX10_keep_11 : decode cX10_keep 11 = .ok (.aload_n 0, 1) := by decide +kernel
theorem dX10_keep_12 : decode cX10_keep 12 = .ok (.getfield 7, 3) := by decide +kernel
theorem dX10_keep_15 : decode cX10_keep 15 = .ok (.iconst 3, 1) := by decide +kernel
theorem dX10_keep_16 : decode cX10_keep 16 = .ok (.iaload, 1) := by decide +kernel
theorem dX10_keep_17 : decode cX10_keep 17 = .ok (.ireturn, 1) := by decide +kernel
theorem dX10_undo_0 : decode cX10_undo 0 = .ok (.aload_n 0, 1) := by decide +kernel
theorem dX10_undo_1 : decode cX10_undo 1 = .ok (.getfield 270, 3) := by decide +kernel
theorem dX10_undo_4 : decode cX10_undo 4 = .ok (.ifCond .ne 5, 3) := by decide +kernel
theorem dX10_undo_7 : decode cX10_undo 7 = .ok (.iconst 0, 1) := by decide +kernel
theorem dX10_undo_8 : decode cX10_undo 8 = .ok (.ireturn, 1) := by decide +kernel
theorem dX10_undo_9 : decode cX10_undo 9 = .ok (.aload_n 0, 1) := by decide +kernel
theorem dX10_undo_10 : decode cX10_undo 10 = .ok (.iconst 1, 1) := by decide +kernel
theorem dX10_undo_11 : decode cX10_undo 11 = .ok (.iconst 0, 1) := by decide +kernel
theorem dX10_undo_12 : decode cX10_undo 12 = .ok (.invokevirtual 107, 3) := by decide +kernel
theorem dX10_undo_15 : decode cX10_undo 15 = .ok (.iconst 1, 1) := by decide +kernel
theorem dX10_undo_16 : decode cX10_undo 16 = .ok (.ireturn, 1) := by decide +kernel
theorem dX10_check_0 : decode cX10_check 0 = .ok (.iload_n 1, 1) := by decide +kernel
theorem dX10_check_1 : decode cX10_check 1 = .ok (.i2l, 1) := by decide +kernel
theorem dX10_check_2 : decode cX10_check 2 = .ok (.lconst 0, 1) := by decide +kernel
theorem dX10_check_3 : decode cX10_check 3 = .ok (.ldc2_w 222, 3) := by decide +kernel
theorem dX10_check_6 : decode cX10_check 6 = .ok (.invokestatic 81, 3) := by decide +kernel
theorem dX10_check_9 : decode cX10_check 9 = .ok (.ifCond .eq 11, 3) := by decide +kernel
theorem dX10_check_12 : decode cX10_check 12 = .ok (.iload_n 1, 1) := by decide +kernel
theorem dX10_check_13 : decode cX10_check 13 = .ok (.aload_n 0, 1) := by decide +kernel
theorem dX10_check_14 : decode cX10_check 14 = .ok (.getfield 152, 3) := by decide +kernel
theorem dX10_check_17 : decode cX10_check 17 = .ok (.if_icmp .le 6, 3) := by decide +kernel
theorem dX10_check_20 : decode cX10_check 20 = .ok (.bipush (-2), 2) := by decide +kernel
theorem dX10_check_22 : decode cX10_check 22 = .ok (.ireturn, 1) := by decide +kernel
theorem dX10_check_23 : decode cX10_check 23 = .ok (.aload_n 0, 1) := by decide +kernel
theorem dX10_check_24 : decode cX10_check 24 = .ok (.invokevirtual 104, 3) := by decide +kernel
theorem dX10_check_27 : decode cX10_check 27 = .ok (.iconst (-1), 1) := by decide +kernel
theorem dX10_check_28 : decode cX10_check 28 = .ok (.istore_n 2, 1) := by decide +kernel
theorem dX10_check_29 : decode cX10_check 29 = .ok (.iload_n 1, 1) := by decide +kernel
theorem dX10_check_30 : decode cX10_check 30 = .ok (.iconst 1, 1) := by decide +kernel
theorem dX10_check_31 : decode cX10_check 31 = .ok (.isub, 1) := by decide +kernel
theorem dX10_check_32 : decode cX10_check 32 = .ok (.istore_n 3, 1) := by decide +kernel
theorem dX10_check_33 : decode cX10_check 33 = .ok (.iload_n 3, 1) := by decide +kernel
theorem dX10_check_34 : decode cX10_check 34 = .ok (.ifCond .lt 52, 3) := by decide +kernel
theorem dX10_check_37 : decode cX10_check 37 = .ok (.iload_n 3, 1) := by decide +kernel
theorem dX10_check_38 : decode cX10_check 38 = .ok (.aload_n 0, 1) := by decide +kernel
theorem dX10_check_39 : decode cX10_check 39 = .ok (.invokevirtual 77, 3) := by decide +kernel
theorem dX10_check_42 : decode cX10_check 42 = .ok (.if_icmp .ge 36, 3) := by decide +kernel
theorem dX10_check_45 : decode cX10_check 45 = .ok (.aload_n 0, 1) := by decide +kernel
theorem dX10_check_46 : decode cX10_check 46 = .ok (.getfield 23, 3) := by decide +kernel
theorem dX10_check_49 : decode cX10_check 49 = .ok (.iload_n 3, 1) := by decide +kernel
theorem dX10_check_50 : decode cX10_check 50 = .ok (.baload, 1) := by decide +kernel
theorem dX10_check_51 : decode cX10_check 51 = .ok (.sipush 255, 3) := by decide +kernel
theorem dX10_check_54 : decode cX10_check 54 = .ok (.iand, 1) := by decide +kernel
theorem dX10_check_55 : decode cX10_check 55 = .ok (.aload_n 0, 1) := by decide +kernel
theorem dX10_check_56 : decode cX10_check 56 = .ok (.iload_n 3, 1) := by decide +kernel
theorem dX10_check_57 : decode cX10_check 57 = .ok (.invokevirtual 306, 3) := by decide +kernel
theorem dX10_check_60 : decode cX10_check 60 = .ok (.iconst (-1), 1) := by decide +kernel
theorem dX10_check_61 : decode cX10_check 61 = .ok (.if_icmp .ne 9, 3) := by decide +kernel
theorem dX10_check_64 : decode cX10_check 64 = .ok (.sipush 255, 3) := by decide +kernel
theorem dX10_check_67 : decode cX10_check 67 = .ok (.goto 8, 3) := by decide +kernel
theorem dX10_check_70 : decode cX10_check 70 = .ok (.aload_n 0, 1) := by decide +kernel
theorem dX10_check_71 : decode cX10_check 71 = .ok (.iload_n 3, 1) := by decide +kernel
theorem dX10_check_72 : decode cX10_check 72 = .ok (.invokevirtual 306, 3) := by decide +kernel
theorem dX10_check_75 : decode cX10_check 75 = .ok (.if_icmp .eq 5, 3) := by decide +kernel
theorem dX10_check_78 : decode cX10_check 78 = .ok (.iload_n 3, 1) := by decide +kernel
theorem dX10_check_79 : decode cX10_check 79 = .ok (.istore_n 2, 1) := by decide +kernel
theorem dX10_check_80 : decode cX10_check 80 = .ok (.iinc 3 (-1), 3) := by decide +kernel
theorem dX10_check_83 : decode cX10_check 83 = .ok (.goto (-50), 3) := by decide +kernel
theorem dX10_check_86 : decode cX10_check 86 = .ok (.aload_n 0, 1) := by decide +kernel
theorem dX10_check_87 : decode cX10_check 87 = .ok (.iconst 0, 1) := by decide +kernel
theorem dX10_check_88 : decode cX10_check 88 = .ok (.putfield 152, 3) := by decide +kernel
theorem dX10_check_91 : decode cX10_check 91 = .ok (.iload_n 2, 1) := by decide +kernel
theorem dX10_check_92 : decode cX10_check 92 = .ok (.ireturn, 1) := by decide +kernel
