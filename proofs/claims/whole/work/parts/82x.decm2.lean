/-! The reference: its instructions. -/
theorem dX10_narrowOf_45 : decode cX10_narrowOf 45 = .ok (.aload_n 0, 1) := by decide +kernel
theorem dX10_narrowOf_46 : decode cX10_narrowOf 46 = .ok (.iload 4, 2) := by decide +kernel
theorem dX10_narrowOf_48 : decode cX10_narrowOf 48 = .ok (.invokevirtual 91, 3) := by decide +kernel
theorem dX10_narrowOf_51 : decode cX10_narrowOf 51 = .ok (.ifCond .eq 43, 3) := by decide +kernel
theorem dX10_narrowOf_54 : decode cX10_narrowOf 54 = .ok (.aload_n 0, 1) := by decide +kernel
theorem dX10_narrowOf_55 : decode cX10_narrowOf 55 = .ok (.iload 4, 2) := by decide +kernel
theorem dX10_narrowOf_57 : decode cX10_narrowOf 57 = .ok (.iconst 2, 1) := by decide +kernel
theorem dX10_narrowOf_58 : decode cX10_narrowOf 58 = .ok (.invokevirtual 73, 3) := by decide +kernel
theorem dX10_narrowOf_61 : decode cX10_narrowOf 61 = .ok (.i2l, 1) := by decide +kernel
theorem dX10_narrowOf_62 : decode cX10_narrowOf 62 = .ok (.lload_n 2, 1) := by decide +kernel
theorem dX10_narrowOf_63 : decode cX10_narrowOf 63 = .ok (.lcmp, 1) := by decide +kernel
theorem dX10_narrowOf_64 : decode cX10_narrowOf 64 = .ok (.ifCond .ge 30, 3) := by decide +kernel
theorem dX10_narrowOf_67 : decode cX10_narrowOf 67 = .ok (.aload_n 0, 1) := by decide +kernel
theorem dX10_narrowOf_68 : decode cX10_narrowOf 68 = .ok (.aload_n 0, 1) := by decide +kernel
theorem dX10_narrowOf_69 : decode cX10_narrowOf 69 = .ok (.iload 4, 2) := by decide +kernel
theorem dX10_narrowOf_71 : decode cX10_narrowOf 71 = .ok (.iconst 2, 1) := by decide +kernel
theorem dX10_narrowOf_72 : decode cX10_narrowOf 72 = .ok (.invokevirtual 73, 3) := by decide +kernel
theorem dX10_narrowOf_75 : decode cX10_narrowOf 75 = .ok (.invokevirtual 333, 3) := by decide +kernel
theorem dX10_narrowOf_78 : decode cX10_narrowOf 78 = .ok (.iload_n 1, 1) := by decide +kernel
theorem dX10_narrowOf_79 : decode cX10_narrowOf 79 = .ok (.invokestatic 321, 3) := by decide +kernel
theorem dX10_narrowOf_82 : decode cX10_narrowOf 82 = .ok (.ifCond .eq 12, 3) := by decide +kernel
theorem dX10_narrowOf_85 : decode cX10_narrowOf 85 = .ok (.aload_n 0, 1) := by decide +kernel
theorem dX10_narrowOf_86 : decode cX10_narrowOf 86 = .ok (.iload 4, 2) := by decide +kernel
theorem dX10_narrowOf_88 : decode cX10_narrowOf 88 = .ok (.iconst 2, 1) := by decide +kernel
theorem dX10_narrowOf_89 : decode cX10_narrowOf 89 = .ok (.invokevirtual 73, 3) := by decide +kernel
theorem dX10_narrowOf_92 : decode cX10_narrowOf 92 = .ok (.i2l, 1) := by decide +kernel
theorem dX10_narrowOf_93 : decode cX10_narrowOf 93 = .ok (.lstore_n 2, 1) := by decide +kernel
theorem dX10_narrowOf_94 : decode cX10_narrowOf 94 = .ok (.iinc 4 1, 3) := by decide +kernel
theorem dX10_narrowOf_97 : decode cX10_narrowOf 97 = .ok (.goto (-63), 3) := by decide +kernel
theorem dX10_narrowOf_100 : decode cX10_narrowOf 100 = .ok (.lload_n 2, 1) := by decide +kernel
theorem dX10_narrowOf_101 : decode cX10_narrowOf 101 = .ok (.lreturn, 1) := by decide +kernel
theorem dX10_comesBy_0 : decode cX10_comesBy 0 = .ok (.iconst 1, 1) := by decide +kernel
theorem dX10_comesBy_1 : decode cX10_comesBy 1 = .ok (.aload_n 0, 1) := by decide +kernel
theorem dX10_comesBy_2 : decode cX10_comesBy 2 = .ok (.getfield 7, 3) := by decide +kernel
theorem dX10_comesBy_5 : decode cX10_comesBy 5 = .ok (.iconst 2, 1) := by decide +kernel
theorem dX10_comesBy_6 : decode cX10_comesBy 6 = .ok (.iaload, 1) := by decide +kernel
theorem dX10_comesBy_7 : decode cX10_comesBy 7 = .ok (.ishl, 1) := by decide +kernel
theorem dX10_comesBy_8 : decode cX10_comesBy 8 = .ok (.istore_n 2, 1) := by decide +kernel
theorem dX10_comesBy_9 : decode cX10_comesBy 9 = .ok (.iconst 1, 1) := by decide +kernel
theorem dX10_comesBy_10 : decode cX10_comesBy 10 = .ok (.istore_n 3, 1) := by decide +kernel
theorem dX10_comesBy_11 : decode cX10_comesBy 11 = .ok (.iload_n 3, 1) := by decide +kernel
theorem dX10_comesBy_12 : decode cX10_comesBy 12 = .ok (.aload_n 0, 1) := by decide +kernel
theorem dX10_comesBy_13 : decode cX10_comesBy 13 = .ok (.invokevirtual 77, 3) := by decide +kernel
theorem dX10_comesBy_16 : decode cX10_comesBy 16 = .ok (.if_icmp .ge 75, 3) := by decide +kernel
theorem dX10_comesBy_19 : decode cX10_comesBy 19 = .ok (.iconst 0, 1) := by decide +kernel
theorem dX10_comesBy_20 : decode cX10_comesBy 20 = .ok (.istore 4, 2) := by decide +kernel
theorem dX10_comesBy_22 : decode cX10_comesBy 22 = .ok (.iload 4, 2) := by decide +kernel
theorem dX10_comesBy_24 : decode cX10_comesBy 24 = .ok (.aload_n 0, 1) := by decide +kernel
theorem dX10_comesBy_25 : decode cX10_comesBy 25 = .ok (.getfield 7, 3) := by decide +kernel
theorem dX10_comesBy_28 : decode cX10_comesBy 28 = .ok (.iconst 1, 1) := by decide +kernel
theorem dX10_comesBy_29 : decode cX10_comesBy 29 = .ok (.iaload, 1) := by decide +kernel
theorem dX10_comesBy_30 : decode cX10_comesBy 30 = .ok (.if_icmp .ge 55, 3) := by decide +kernel
theorem dX10_comesBy_33 : decode cX10_comesBy 33 = .ok (.aload_n 0, 1) := by decide +kernel
theorem dX10_comesBy_34 : decode cX10_comesBy 34 = .ok (.iload 4, 2) := by decide +kernel
theorem dX10_comesBy_36 : decode cX10_comesBy 36 = .ok (.invokevirtual 91, 3) := by decide +kernel
theorem dX10_comesBy_39 : decode cX10_comesBy 39 = .ok (.ifCond .eq 40, 3) := by decide +kernel
theorem dX10_comesBy_42 : decode cX10_comesBy 42 = .ok (.aload_n 0, 1) := by decide +kernel
theorem dX10_comesBy_43 : decode cX10_comesBy 43 = .ok (.iload 4, 2) := by decide +kernel
theorem dX10_comesBy_45 : decode cX10_comesBy 45 = .ok (.iconst 2, 1) := by decide +kernel
theorem dX10_comesBy_46 : decode cX10_comesBy 46 = .ok (.invokevirtual 73, 3) := by decide +kernel
theorem dX10_comesBy_49 : decode cX10_comesBy 49 = .ok (.iload_n 1, 1) := by decide +kernel
theorem dX10_comesBy_50 : decode cX10_comesBy 50 = .ok (.if_icmp .gt 29, 3) := by decide +kernel
theorem dX10_comesBy_53 : decode cX10_comesBy 53 = .ok (.iload_n 2, 1) := by decide +kernel
theorem dX10_comesBy_54 : decode cX10_comesBy 54 = .ok (.aload_n 0, 1) := by decide +kernel
theorem dX10_comesBy_55 : decode cX10_comesBy 55 = .ok (.iload 4, 2) := by decide +kernel
theorem dX10_comesBy_57 : decode cX10_comesBy 57 = .ok (.iconst 0, 1) := by decide +kernel
theorem dX10_comesBy_58 : decode cX10_comesBy 58 = .ok (.invokevirtual 73, 3) := by decide +kernel
theorem dX10_comesBy_61 : decode cX10_comesBy 61 = .ok (.invokestatic 321, 3) := by decide +kernel
theorem dX10_comesBy_64 : decode cX10_comesBy 64 = .ok (.ifCond .eq 15, 3) := by decide +kernel
theorem dX10_comesBy_67 : decode cX10_comesBy 67 = .ok (.iload_n 2, 1) := by decide +kernel
theorem dX10_comesBy_68 : decode cX10_comesBy 68 = .ok (.iconst 1, 1) := by decide +kernel
theorem dX10_comesBy_69 : decode cX10_comesBy 69 = .ok (.aload_n 0, 1) := by decide +kernel
theorem dX10_comesBy_70 : decode cX10_comesBy 70 = .ok (.iload 4, 2) := by decide +kernel
theorem dX10_comesBy_72 : decode cX10_comesBy 72 = .ok (.iconst 1, 1) := by decide +kernel
theorem dX10_comesBy_73 : decode cX10_comesBy 73 = .ok (.invokevirtual 73, 3) := by decide +kernel
theorem dX10_comesBy_76 : decode cX10_comesBy 76 = .ok (.ishl, 1) := by decide +kernel
theorem dX10_comesBy_77 : decode cX10_comesBy 77 = .ok (.ior, 1) := by decide +kernel
theorem dX10_comesBy_78 : decode cX10_comesBy 78 = .ok (.istore_n 2, 1) := by decide +kernel
theorem dX10_comesBy_79 : decode cX10_comesBy 79 = .ok (.iinc 4 1, 3) := by decide +kernel
theorem dX10_comesBy_82 : decode cX10_comesBy 82 = .ok (.goto (-60), 3) := by decide +kernel
theorem dX10_comesBy_85 : decode cX10_comesBy 85 = .ok (.iinc 3 1, 3) := by decide +kernel
theorem dX10_comesBy_88 : decode cX10_comesBy 88 = .ok (.goto (-77), 3) := by decide +kernel
theorem dX10_comesBy_91 : decode cX10_comesBy 91 = .ok (.iload_n 2, 1) := by decide +kernel
theorem dX10_comesBy_92 : decode cX10_comesBy 92 = .ok (.ireturn, 1) := by decide +kernel
theorem dX10_apartOf_0 : decode cX10_apartOf 0 = .ok (.aload_n 0, 1) := by decide +kernel
theorem dX10_apartOf_1 : decode cX10_apartOf 1 = .ok (.iload_n 1, 1) := by decide +kernel
theorem dX10_apartOf_2 : decode cX10_apartOf 2 = .ok (.invokevirtual 315, 3) := by decide +kernel
theorem dX10_apartOf_5 : decode cX10_apartOf 5 = .ok (.istore_n 2, 1) := by decide +kernel
theorem dX10_apartOf_6 : decode cX10_apartOf 6 = .ok (.iload_n 2, 1) := by decide +kernel
theorem dX10_apartOf_7 : decode cX10_apartOf 7 = .ok (.iconst (-1), 1) := by decide +kernel
theorem dX10_apartOf_8 : decode cX10_apartOf 8 = .ok (.if_icmp .ne 7, 3) := by decide +kernel
theorem dX10_apartOf_11 : decode cX10_apartOf 11 = .ok (.ldc2_w 89, 3) := by decide +kernel
theorem dX10_apartOf_14 : decode cX10_apartOf 14 = .ok (.lreturn, 1) := by decide +kernel
theorem dX10_apartOf_15 : decode cX10_apartOf 15 = .ok (.iload_n 2, 1) := by decide +kernel
theorem dX10_apartOf_16 : decode cX10_apartOf 16 = .ok (.ifCond .ne 5, 3) := by decide +kernel
theorem dX10_apartOf_19 : decode cX10_apartOf 19 = .ok (.lconst 0, 1) := by decide +kernel
theorem dX10_apartOf_20 : decode cX10_apartOf 20 = .ok (.lreturn, 1) := by decide +kernel
theorem dX10_apartOf_21 : decode cX10_apartOf 21 = .ok (.iconst 0, 1) := by decide +kernel
theorem dX10_apartOf_22 : decode cX10_apartOf 22 = .ok (.istore_n 3, 1) := by decide +kernel
theorem dX10_apartOf_23 : decode cX10_apartOf 23 = .ok (.iload_n 3, 1) := by decide +kernel
theorem dX10_apartOf_24 : decode cX10_apartOf 24 = .ok (.bipush 36, 2) := by decide +kernel
theorem dX10_apartOf_26 : decode cX10_apartOf 26 = .ok (.if_icmp .ge 16, 3) := by decide +kernel
theorem dX10_apartOf_29 : decode cX10_apartOf 29 = .ok (.aload_n 0, 1) := by decide +kernel
theorem dX10_apartOf_30 : decode cX10_apartOf 30 = .ok (.getfield 57, 3) := by decide +kernel
theorem dX10_apartOf_33 : decode cX10_apartOf 33 = .ok (.iload_n 3, 1) := by decide +kernel
theorem dX10_apartOf_34 : decode cX10_apartOf 34 = .ok (.iconst 0, 1) := by decide +kernel
theorem dX10_apartOf_35 : decode cX10_apartOf 35 = .ok (.bastore, 1) := by decide +kernel
theorem dX10_apartOf_36 : decode cX10_apartOf 36 = .ok (.iinc 3 1, 3) := by decide +kernel
theorem dX10_apartOf_39 : decode cX10_apartOf 39 = .ok (.goto (-16), 3) := by decide +kernel
theorem dX10_apartOf_42 : decode cX10_apartOf 42 = .ok (.iconst 0, 1) := by decide +kernel
theorem dX10_apartOf_43 : decode cX10_apartOf 43 = .ok (.istore_n 3, 1) := by decide +kernel
theorem dX10_apartOf_44 : decode cX10_apartOf 44 = .ok (.iload_n 3, 1) := by decide +kernel
theorem dX10_apartOf_45 : decode cX10_apartOf 45 = .ok (.iload_n 2, 1) := by decide +kernel
theorem dX10_apartOf_46 : decode cX10_apartOf 46 = .ok (.if_icmp .ge 21, 3) := by decide +kernel
theorem dX10_apartOf_49 : decode cX10_apartOf 49 = .ok (.aload_n 0, 1) := by decide +kernel
theorem dX10_apartOf_50 : decode cX10_apartOf 50 = .ok (.getfield 57, 3) := by decide +kernel
theorem dX10_apartOf_53 : decode cX10_apartOf 53 = .ok (.aload_n 0, 1) := by decide +kernel
theorem dX10_apartOf_54 : decode cX10_apartOf 54 = .ok (.getfield 33, 3) := by decide +kernel
theorem dX10_apartOf_57 : decode cX10_apartOf 57 = .ok (.iload_n 3, 1) := by decide +kernel
theorem dX10_apartOf_58 : decode cX10_apartOf 58 = .ok (.iaload, 1) := by decide +kernel
theorem dX10_apartOf_59 : decode cX10_apartOf 59 = .ok (.iconst 1, 1) := by decide +kernel
theorem dX10_apartOf_60 : decode cX10_apartOf 60 = .ok (.bastore, 1) := by decide +kernel
theorem dX10_apartOf_61 : decode cX10_apartOf 61 = .ok (.iinc 3 1, 3) := by decide +kernel
theorem dX10_apartOf_64 : decode cX10_apartOf 64 = .ok (.goto (-20), 3) := by decide +kernel
theorem dX10_apartOf_67 : decode cX10_apartOf 67 = .ok (.iconst 0, 1) := by decide +kernel
theorem dX10_apartOf_68 : decode cX10_apartOf 68 = .ok (.istore_n 3, 1) := by decide +kernel
theorem dX10_apartOf_69 : decode cX10_apartOf 69 = .ok (.iload_n 3, 1) := by decide +kernel
theorem dX10_apartOf_70 : decode cX10_apartOf 70 = .ok (.bipush 12, 2) := by decide +kernel
theorem dX10_apartOf_72 : decode cX10_apartOf 72 = .ok (.if_icmp .ge 32, 3) := by decide +kernel
theorem dX10_apartOf_75 : decode cX10_apartOf 75 = .ok (.aload_n 0, 1) := by decide +kernel
theorem dX10_apartOf_76 : decode cX10_apartOf 76 = .ok (.getfield 13, 3) := by decide +kernel
theorem dX10_apartOf_79 : decode cX10_apartOf 79 = .ok (.iload_n 3, 1) := by decide +kernel
theorem dX10_apartOf_80 : decode cX10_apartOf 80 = .ok (.iload_n 3, 1) := by decide +kernel
theorem dX10_apartOf_81 : decode cX10_apartOf 81 = .ok (.aload_n 0, 1) := by decide +kernel
theorem dX10_apartOf_82 : decode cX10_apartOf 82 = .ok (.getfield 7, 3) := by decide +kernel
theorem dX10_apartOf_85 : decode cX10_apartOf 85 = .ok (.iconst 2, 1) := by decide +kernel
theorem dX10_apartOf_86 : decode cX10_apartOf 86 = .ok (.iaload, 1) := by decide +kernel
theorem dX10_apartOf_87 : decode cX10_apartOf 87 = .ok (.if_icmp .ne 7, 3) := by decide +kernel
theorem dX10_apartOf_90 : decode cX10_apartOf 90 = .ok (.lconst 0, 1) := by decide +kernel
theorem dX10_apartOf_91 : decode cX10_apartOf 91 = .ok (.goto 6, 3) := by decide +kernel
theorem dX10_apartOf_94 : decode cX10_apartOf 94 = .ok (.ldc2_w 89, 3) := by decide +kernel
theorem dX10_apartOf_97 : decode cX10_apartOf 97 = .ok (.lastore, 1) := by decide +kernel
theorem dX10_apartOf_98 : decode cX10_apartOf 98 = .ok (.iinc 3 1, 3) := by decide +kernel
theorem dX10_apartOf_101 : decode cX10_apartOf 101 = .ok (.goto (-32), 3) := by decide +kernel
theorem dX10_apartOf_104 : decode cX10_apartOf 104 = .ok (.iconst 1, 1) := by decide +kernel
theorem dX10_apartOf_105 : decode cX10_apartOf 105 = .ok (.istore_n 3, 1) := by decide +kernel
theorem dX10_apartOf_106 : decode cX10_apartOf 106 = .ok (.iload_n 3, 1) := by decide +kernel
theorem dX10_apartOf_107 : decode cX10_apartOf 107 = .ok (.iconst 2, 1) := by decide +kernel
theorem dX10_apartOf_108 : decode cX10_apartOf 108 = .ok (.aload_n 0, 1) := by decide +kernel
theorem dX10_apartOf_109 : decode cX10_apartOf 109 = .ok (.invokevirtual 77, 3) := by decide +kernel
theorem dX10_apartOf_112 : decode cX10_apartOf 112 = .ok (.imul, 1) := by decide +kernel
theorem dX10_apartOf_113 : decode cX10_apartOf 113 = .ok (.if_icmp .ge 177, 3) := by decide +kernel
theorem dX10_apartOf_116 : decode cX10_apartOf 116 = .ok (.iconst 0, 1) := by decide +kernel
theorem dX10_apartOf_117 : decode cX10_apartOf 117 = .ok (.istore 4, 2) := by decide +kernel
theorem dX10_apartOf_119 : decode cX10_apartOf 119 = .ok (.iload 4, 2) := by decide +kernel
theorem dX10_apartOf_121 : decode cX10_apartOf 121 = .ok (.aload_n 0, 1) := by decide +kernel
theorem dX10_apartOf_122 : decode cX10_apartOf 122 = .ok (.getfield 7, 3) := by decide +kernel
theorem dX10_apartOf_125 : decode cX10_apartOf 125 = .ok (.iconst 1, 1) := by decide +kernel
theorem dX10_apartOf_126 : decode cX10_apartOf 126 = .ok (.iaload, 1) := by decide +kernel
theorem dX10_apartOf_127 : decode cX10_apartOf 127 = .ok (.if_icmp .ge 157, 3) := by decide +kernel
theorem dX10_apartOf_130 : decode cX10_apartOf 130 = .ok (.aload_n 0, 1) := by decide +kernel
theorem dX10_apartOf_131 : decode cX10_apartOf 131 = .ok (.iload 4, 2) := by decide +kernel
theorem dX10_apartOf_133 : decode cX10_apartOf 133 = .ok (.invokevirtual 91, 3) := by decide +kernel
theorem dX10_apartOf_136 : decode cX10_apartOf 136 = .ok (.ifCond .ne 6, 3) := by decide +kernel
theorem dX10_apartOf_139 : decode cX10_apartOf 139 = .ok (.goto 139, 3) := by decide +kernel
theorem dX10_apartOf_142 : decode cX10_apartOf 142 = .ok (.aload_n 0, 1) := by decide +kernel
theorem dX10_apartOf_143 : decode cX10_apartOf 143 = .ok (.getfield 57, 3) := by decide +kernel
theorem dX10_apartOf_146 : decode cX10_apartOf 146 = .ok (.iload 4, 2) := by decide +kernel
theorem dX10_apartOf_148 : decode cX10_apartOf 148 = .ok (.baload, 1) := by decide +kernel
theorem dX10_apartOf_149 : decode cX10_apartOf 149 = .ok (.ifCond .eq 13, 3) := by decide +kernel
theorem dX10_apartOf_152 : decode cX10_apartOf 152 = .ok (.aload_n 0, 1) := by decide +kernel
theorem dX10_apartOf_153 : decode cX10_apartOf 153 = .ok (.iload 4, 2) := by decide +kernel
theorem dX10_apartOf_155 : decode cX10_apartOf 155 = .ok (.iconst 1, 1) := by decide +kernel
theorem dX10_apartOf_156 : decode cX10_apartOf 156 = .ok (.invokevirtual 73, 3) := by decide +kernel
theorem dX10_apartOf_159 : decode cX10_apartOf 159 = .ok (.goto 10, 3) := by decide +kernel
theorem dX10_apartOf_162 : decode cX10_apartOf 162 = .ok (.aload_n 0, 1) := by decide +kernel
theorem dX10_apartOf_163 : decode cX10_apartOf 163 = .ok (.iload 4, 2) := by decide +kernel
theorem dX10_apartOf_165 : decode cX10_apartOf 165 = .ok (.iconst 0, 1) := by decide +kernel
theorem dX10_apartOf_166 : decode cX10_apartOf 166 = .ok (.invokevirtual 73, 3) := by decide +kernel
theorem dX10_apartOf_169 : decode cX10_apartOf 169 = .ok (.istore 5, 2) := by decide +kernel
theorem dX10_apartOf_171 : decode cX10_apartOf 171 = .ok (.aload_n 0, 1) := by decide +kernel
theorem dX10_apartOf_172 : decode cX10_apartOf 172 = .ok (.getfield 57, 3) := by decide +kernel
theorem dX10_apartOf_175 : decode cX10_apartOf 175 = .ok (.iload 4, 2) := by decide +kernel
theorem dX10_apartOf_177 : decode cX10_apartOf 177 = .ok (.baload, 1) := by decide +kernel
theorem dX10_apartOf_178 : decode cX10_apartOf 178 = .ok (.ifCond .eq 13, 3) := by decide +kernel
theorem dX10_apartOf_181 : decode cX10_apartOf 181 = .ok (.aload_n 0, 1) := by decide +kernel
theorem dX10_apartOf_182 : decode cX10_apartOf 182 = .ok (.iload 4, 2) := by decide +kernel
theorem dX10_apartOf_184 : decode cX10_apartOf 184 = .ok (.iconst 0, 1) := by decide +kernel
theorem dX10_apartOf_185 : decode cX10_apartOf 185 = .ok (.invokevirtual 73, 3) := by decide +kernel
theorem dX10_apartOf_188 : decode cX10_apartOf 188 = .ok (.goto 10, 3) := by decide +kernel
theorem dX10_apartOf_191 : decode cX10_apartOf 191 = .ok (.aload_n 0, 1) := by decide +kernel
theorem dX10_apartOf_192 : decode cX10_apartOf 192 = .ok (.iload 4, 2) := by decide +kernel
theorem dX10_apartOf_194 : decode cX10_apartOf 194 = .ok (.iconst 1, 1) := by decide +kernel
theorem dX10_apartOf_195 : decode cX10_apartOf 195 = .ok (.invokevirtual 73, 3) := by decide +kernel
theorem dX10_apartOf_198 : decode cX10_apartOf 198 = .ok (.istore 6, 2) := by decide +kernel
theorem dX10_apartOf_200 : decode cX10_apartOf 200 = .ok (.aload_n 0, 1) := by decide +kernel
theorem dX10_apartOf_201 : decode cX10_apartOf 201 = .ok (.getfield 13, 3) := by decide +kernel
theorem dX10_apartOf_204 : decode cX10_apartOf 204 = .ok (.iload 5, 2) := by decide +kernel
theorem dX10_apartOf_206 : decode cX10_apartOf 206 = .ok (.laload, 1) := by decide +kernel
theorem dX10_apartOf_207 : decode cX10_apartOf 207 = .ok (.ldc2_w 89, 3) := by decide +kernel
theorem dX10_apartOf_210 : decode cX10_apartOf 210 = .ok (.lcmp, 1) := by decide +kernel
theorem dX10_apartOf_211 : decode cX10_apartOf 211 = .ok (.ifCond .ne 6, 3) := by decide +kernel
theorem dX10_apartOf_214 : decode cX10_apartOf 214 = .ok (.goto 64, 3) := by decide +kernel
theorem dX10_apartOf_217 : decode cX10_apartOf 217 = .ok (.aload_n 0, 1) := by decide +kernel
theorem dX10_apartOf_218 : decode cX10_apartOf 218 = .ok (.getfield 13, 3) := by decide +kernel
theorem dX10_apartOf_221 : decode cX10_apartOf 221 = .ok (.iload 5, 2) := by decide +kernel
theorem dX10_apartOf_223 : decode cX10_apartOf 223 = .ok (.laload, 1) := by decide +kernel
theorem dX10_apartOf_224 : decode cX10_apartOf 224 = .ok (.aload_n 0, 1) := by decide +kernel
theorem dX10_apartOf_225 : decode cX10_apartOf 225 = .ok (.getfield 57, 3) := by decide +kernel
theorem dX10_apartOf_228 : decode cX10_apartOf 228 = .ok (.iload 4, 2) := by decide +kernel
theorem dX10_apartOf_230 : decode cX10_apartOf 230 = .ok (.baload, 1) := by decide +kernel
theorem dX10_apartOf_231 : decode cX10_apartOf 231 = .ok (.ifCond .eq 14, 3) := by decide +kernel
theorem dX10_apartOf_234 : decode cX10_apartOf 234 = .ok (.aload_n 0, 1) := by decide +kernel
theorem dX10_apartOf_235 : decode cX10_apartOf 235 = .ok (.iload 4, 2) := by decide +kernel
theorem dX10_apartOf_237 : decode cX10_apartOf 237 = .ok (.iconst 2, 1) := by decide +kernel
theorem dX10_apartOf_238 : decode cX10_apartOf 238 = .ok (.invokevirtual 73, 3) := by decide +kernel
theorem dX10_apartOf_241 : decode cX10_apartOf 241 = .ok (.ineg, 1) := by decide +kernel
theorem dX10_apartOf_242 : decode cX10_apartOf 242 = .ok (.goto 10, 3) := by decide +kernel
theorem dX10_apartOf_245 : decode cX10_apartOf 245 = .ok (.aload_n 0, 1) := by decide +kernel
theorem dX10_apartOf_246 : decode cX10_apartOf 246 = .ok (.iload 4, 2) := by decide +kernel
theorem dX10_apartOf_248 : decode cX10_apartOf 248 = .ok (.iconst 2, 1) := by decide +kernel
theorem dX10_apartOf_249 : decode cX10_apartOf 249 = .ok (.invokevirtual 73, 3) := by decide +kernel
theorem dX10_apartOf_252 : decode cX10_apartOf 252 = .ok (.i2l, 1) := by decide +kernel
theorem dX10_apartOf_253 : decode cX10_apartOf 253 = .ok (.ladd, 1) := by decide +kernel
theorem dX10_apartOf_254 : decode cX10_apartOf 254 = .ok (.lstore 7, 2) := by decide +kernel
theorem dX10_apartOf_256 : decode cX10_apartOf 256 = .ok (.lload 7, 2) := by decide +kernel
theorem dX10_apartOf_258 : decode cX10_apartOf 258 = .ok (.aload_n 0, 1) := by decide +kernel
theorem dX10_apartOf_259 : decode cX10_apartOf 259 = .ok (.getfield 13, 3) := by decide +kernel
theorem dX10_apartOf_262 : decode cX10_apartOf 262 = .ok (.iload 6, 2) := by decide +kernel
theorem dX10_apartOf_264 : decode cX10_apartOf 264 = .ok (.laload, 1) := by decide +kernel
theorem dX10_apartOf_265 : decode cX10_apartOf 265 = .ok (.lcmp, 1) := by decide +kernel
theorem dX10_apartOf_266 : decode cX10_apartOf 266 = .ok (.ifCond .ge 12, 3) := by decide +kernel
theorem dX10_apartOf_269 : decode cX10_apartOf 269 = .ok (.aload_n 0, 1) := by decide +kernel
theorem dX10_apartOf_270 : decode cX10_apartOf 270 = .ok (.getfield 13, 3) := by decide +kernel
theorem dX10_apartOf_273 : decode cX10_apartOf 273 = .ok (.iload 6, 2) := by decide +kernel
theorem dX10_apartOf_275 : decode cX10_apartOf 275 = .ok (.lload 7, 2) := by decide +kernel
theorem dX10_apartOf_277 : decode cX10_apartOf 277 = .ok (.lastore, 1) := by decide +kernel
theorem dX10_apartOf_278 : decode cX10_apartOf 278 = .ok (.iinc 4 1, 3) := by decide +kernel
theorem dX10_apartOf_281 : decode cX10_apartOf 281 = .ok (.goto (-162), 3) := by decide +kernel
theorem dX10_apartOf_284 : decode cX10_apartOf 284 = .ok (.iinc 3 1, 3) := by decide +kernel
theorem dX10_apartOf_287 : decode cX10_apartOf 287 = .ok (.goto (-181), 3) := by decide +kernel
theorem dX10_apartOf_290 : decode cX10_apartOf 290 = .ok (.aload_n 0, 1) := by decide +kernel
theorem dX10_apartOf_291 : decode cX10_apartOf 291 = .ok (.getfield 13, 3) := by decide +kernel
theorem dX10_apartOf_294 : decode cX10_apartOf 294 = .ok (.iload_n 1, 1) := by decide +kernel
theorem dX10_apartOf_295 : decode cX10_apartOf 295 = .ok (.laload, 1) := by decide +kernel
theorem dX10_apartOf_296 : decode cX10_apartOf 296 = .ok (.ldc2_w 89, 3) := by decide +kernel
theorem dX10_apartOf_299 : decode cX10_apartOf 299 = .ok (.lcmp, 1) := by decide +kernel
theorem dX10_apartOf_300 : decode cX10_apartOf 300 = .ok (.ifCond .ne 9, 3) := by decide +kernel
theorem dX10_apartOf_303 : decode cX10_apartOf 303 = .ok (.ldc2_w 89, 3) := by decide +kernel
theorem dX10_apartOf_306 : decode cX10_apartOf 306 = .ok (.goto 16, 3) := by decide +kernel
theorem dX10_apartOf_309 : decode cX10_apartOf 309 = .ok (.aload_n 0, 1) := by decide +kernel
theorem dX10_apartOf_310 : decode cX10_apartOf 310 = .ok (.getfield 17, 3) := by decide +kernel
theorem dX10_apartOf_313 : decode cX10_apartOf 313 = .ok (.iload_n 1, 1) := by decide +kernel
theorem dX10_apartOf_314 : decode cX10_apartOf 314 = .ok (.laload, 1) := by decide +kernel
theorem dX10_apartOf_315 : decode cX10_apartOf 315 = .ok (.aload_n 0, 1) := by decide +kernel
theorem dX10_apartOf_316 : decode cX10_apartOf 316 = .ok (.getfield 13, 3) := by decide +kernel
theorem dX10_apartOf_319 : decode cX10_apartOf 319 = .ok (.iload_n 1, 1) := by decide +kernel
theorem dX10_apartOf_320 : decode cX10_apartOf 320 = .ok (.laload, 1) := by decide +kernel
theorem dX10_apartOf_321 : decode cX10_apartOf 321 = .ok (.ladd, 1) := by decide +kernel
theorem dX10_apartOf_322 : decode cX10_apartOf 322 = .ok (.lreturn, 1) := by decide +kernel
theorem dX10_town_0 : decode cX10_town 0 = .ok (.aload_n 0, 1) := by decide +kernel
theorem dX10_town_1 : decode cX10_town 1 = .ok (.iload_n 1, 1) := by decide +kernel
theorem dX10_town_2 : decode cX10_town 2 = .ok (.invokevirtual 121, 3) := by decide +kernel
theorem dX10_town_5 : decode cX10_town 5 = .ok (.ifCond .ne 7, 3) := by decide +kernel
theorem dX10_town_8 : decode cX10_town 8 = .ok (.ldc2_w 99, 3) := by decide +kernel
theorem dX10_town_11 : decode cX10_town 11 = .ok (.lreturn, 1) := by decide +kernel
theorem dX10_town_12 : decode cX10_town 12 = .ok (.aload_n 0, 1) := by decide +kernel
theorem dX10_town_13 : decode cX10_town 13 = .ok (.invokevirtual 104, 3) := by decide +kernel
theorem dX10_town_16 : decode cX10_town 16 = .ok (.iload_n 2, 1) := by decide +kernel
theorem dX10_town_17 : decode cX10_town 17 = .ok (.tableswitch 270 0 14 #[75, 85, 107, 129, 136, 167, 174, 181, 270, 270, 190, 228, 270, 252, 261], 75) := by decide +kernel
theorem dX10_town_92 : decode cX10_town 92 = .ok (.aload_n 0, 1) := by decide +kernel
theorem dX10_town_93 : decode cX10_town 93 = .ok (.getfield 17, 3) := by decide +kernel
theorem dX10_town_96 : decode cX10_town 96 = .ok (.iload_n 1, 1) := by decide +kernel
theorem dX10_town_97 : decode cX10_town 97 = .ok (.laload, 1) := by decide +kernel
theorem dX10_town_98 : decode cX10_town 98 = .ok (.invokestatic 336, 3) := by decide +kernel
theorem dX10_town_101 : decode cX10_town 101 = .ok (.lreturn, 1) := by decide +kernel
theorem dX10_town_102 : decode cX10_town 102 = .ok (.aload_n 0, 1) := by decide +kernel
theorem dX10_town_103 : decode cX10_town 103 = .ok (.iload_n 1, 1) := by decide +kernel
theorem dX10_town_104 : decode cX10_town 104 = .ok (.invokevirtual 306, 3) := by decide +kernel
theorem dX10_town_107 : decode cX10_town 107 = .ok (.iconst (-1), 1) := by decide +kernel
theorem dX10_town_108 : decode cX10_town 108 = .ok (.if_icmp .ne 9, 3) := by decide +kernel
theorem dX10_town_111 : decode cX10_town 111 = .ok (.ldc2_w 340, 3) := by decide +kernel
theorem dX10_town_114 : decode cX10_town 114 = .ok (.goto 9, 3) := by decide +kernel
theorem dX10_town_117 : decode cX10_town 117 = .ok (.aload_n 0, 1) := by decide +kernel
theorem dX10_town_118 : decode cX10_town 118 = .ok (.iload_n 1, 1) := by decide +kernel
theorem dX10_town_119 : decode cX10_town 119 = .ok (.invokevirtual 306, 3) := by decide +kernel
theorem dX10_town_122 : decode cX10_town 122 = .ok (.i2l, 1) := by decide +kernel
theorem dX10_town_123 : decode cX10_town 123 = .ok (.lreturn, 1) := by decide +kernel
theorem dX10_town_124 : decode cX10_town 124 = .ok (.aload_n 0, 1) := by decide +kernel
theorem dX10_town_125 : decode cX10_town 125 = .ok (.iload_n 1, 1) := by decide +kernel
theorem dX10_town_126 : decode cX10_town 126 = .ok (.invokevirtual 315, 3) := by decide +kernel
theorem dX10_town_129 : decode cX10_town 129 = .ok (.iconst (-1), 1) := by decide +kernel
theorem dX10_town_130 : decode cX10_town 130 = .ok (.if_icmp .ne 9, 3) := by decide +kernel
theorem dX10_town_133 : decode cX10_town 133 = .ok (.ldc2_w 340, 3) := by decide +kernel
theorem dX10_town_136 : decode cX10_town 136 = .ok (.goto 9, 3) := by decide +kernel
theorem dX10_town_139 : decode cX10_town 139 = .ok (.aload_n 0, 1) := by decide +kernel
theorem dX10_town_140 : decode cX10_town 140 = .ok (.iload_n 1, 1) := by decide +kernel
theorem dX10_town_141 : decode cX10_town 141 = .ok (.invokevirtual 315, 3) := by decide +kernel
theorem dX10_town_144 : decode cX10_town 144 = .ok (.i2l, 1) := by decide +kernel
theorem dX10_town_145 : decode cX10_town 145 = .ok (.lreturn, 1) := by decide +kernel
theorem dX10_town_146 : decode cX10_town 146 = .ok (.aload_n 0, 1) := by decide +kernel
theorem dX10_town_147 : decode cX10_town 147 = .ok (.iload_n 1, 1) := by decide +kernel
theorem dX10_town_148 : decode cX10_town 148 = .ok (.invokevirtual 342, 3) := by decide +kernel
theorem dX10_town_151 : decode cX10_town 151 = .ok (.i2l, 1) := by decide +kernel
theorem dX10_town_152 : decode cX10_town 152 = .ok (.lreturn, 1) := by decide +kernel
theorem dX10_town_153 : decode cX10_town 153 = .ok (.aload_n 0, 1) := by decide +kernel
theorem dX10_town_154 : decode cX10_town 154 = .ok (.iconst (-1), 1) := by decide +kernel
theorem dX10_town_155 : decode cX10_town 155 = .ok (.invokevirtual 309, 3) := by decide +kernel
theorem dX10_town_158 : decode cX10_town 158 = .ok (.aload_n 0, 1) := by decide +kernel
theorem dX10_town_159 : decode cX10_town 159 = .ok (.getfield 42, 3) := by decide +kernel
theorem dX10_town_162 : decode cX10_town 162 = .ok (.iload_n 1, 1) := by decide +kernel
theorem dX10_town_163 : decode cX10_town 163 = .ok (.laload, 1) := by decide +kernel
theorem dX10_town_164 : decode cX10_town 164 = .ok (.ldc2_w 87, 3) := by decide +kernel
theorem dX10_town_167 : decode cX10_town 167 = .ok (.lcmp, 1) := by decide +kernel
theorem dX10_town_168 : decode cX10_town 168 = .ok (.ifCond .le 9, 3) := by decide +kernel
theorem dX10_town_171 : decode cX10_town 171 = .ok (.ldc2_w 87, 3) := by decide +kernel
theorem dX10_town_174 : decode cX10_town 174 = .ok (.goto 9, 3) := by decide +kernel
theorem dX10_town_177 : decode cX10_town 177 = .ok (.aload_n 0, 1) := by decide +kernel
theorem dX10_town_178 : decode cX10_town 178 = .ok (.getfield 42, 3) := by decide +kernel
theorem dX10_town_181 : decode cX10_town 181 = .ok (.iload_n 1, 1) := by decide +kernel
theorem dX10_town_182 : decode cX10_town 182 = .ok (.laload, 1) := by decide +kernel
theorem dX10_town_183 : decode cX10_town 183 = .ok (.lreturn, 1) := by decide +kernel
theorem dX10_town_184 : decode cX10_town 184 = .ok (.aload_n 0, 1) := by decide +kernel
theorem dX10_town_185 : decode cX10_town 185 = .ok (.iload_n 1, 1) := by decide +kernel
theorem dX10_town_186 : decode cX10_town 186 = .ok (.invokevirtual 345, 3) := by decide +kernel
theorem dX10_town_189 : decode cX10_town 189 = .ok (.i2l, 1) := by decide +kernel
theorem dX10_town_190 : decode cX10_town 190 = .ok (.lreturn, 1) := by decide +kernel
theorem dX10_town_191 : decode cX10_town 191 = .ok (.aload_n 0, 1) := by decide +kernel
theorem dX10_town_192 : decode cX10_town 192 = .ok (.iload_n 1, 1) := by decide +kernel
theorem dX10_town_193 : decode cX10_town 193 = .ok (.invokevirtual 348, 3) := by decide +kernel
theorem dX10_town_196 : decode cX10_town 196 = .ok (.i2l, 1) := by decide +kernel
theorem dX10_town_197 : decode cX10_town 197 = .ok (.lreturn, 1) := by decide +kernel
theorem dX10_town_198 : decode cX10_town 198 = .ok (.aload_n 0, 1) := by decide +kernel
theorem dX10_town_199 : decode cX10_town 199 = .ok (.iload_n 1, 1) := by decide +kernel
theorem dX10_town_200 : decode cX10_town 200 = .ok (.invokevirtual 351, 3) := by decide +kernel
theorem dX10_town_203 : decode cX10_town 203 = .ok (.invokestatic 336, 3) := by decide +kernel
theorem dX10_town_206 : decode cX10_town 206 = .ok (.lreturn, 1) := by decide +kernel
theorem dX10_town_207 : decode cX10_town 207 = .ok (.aload_n 0, 1) := by decide +kernel
theorem dX10_town_208 : decode cX10_town 208 = .ok (.getfield 7, 3) := by decide +kernel
theorem dX10_town_211 : decode cX10_town 211 = .ok (.sipush 172, 3) := by decide +kernel
theorem dX10_town_214 : decode cX10_town 214 = .ok (.iconst 3, 1) := by decide +kernel
theorem dX10_town_215 : decode cX10_town 215 = .ok (.iload_n 1, 1) := by decide +kernel
theorem dX10_town_216 : decode cX10_town 216 = .ok (.imul, 1) := by decide +kernel
theorem dX10_town_217 : decode cX10_town 217 = .ok (.iadd, 1) := by decide +kernel
theorem dX10_town_218 : decode cX10_town 218 = .ok (.iaload, 1) := by decide +kernel
theorem dX10_town_219 : decode cX10_town 219 = .ok (.iconst 1, 1) := by decide +kernel
theorem dX10_town_220 : decode cX10_town 220 = .ok (.if_icmp .ne 21, 3) := by decide +kernel
theorem dX10_town_223 : decode cX10_town 223 = .ok (.aload_n 0, 1) := by decide +kernel
theorem dX10_town_224 : decode cX10_town 224 = .ok (.getfield 7, 3) := by decide +kernel
theorem dX10_town_227 : decode cX10_town 227 = .ok (.sipush 172, 3) := by decide +kernel
theorem dX10_town_230 : decode cX10_town 230 = .ok (.iconst 3, 1) := by decide +kernel
theorem dX10_town_231 : decode cX10_town 231 = .ok (.iload_n 1, 1) := by decide +kernel
theorem dX10_town_232 : decode cX10_town 232 = .ok (.imul, 1) := by decide +kernel
theorem dX10_town_233 : decode cX10_town 233 = .ok (.iadd, 1) := by decide +kernel
theorem dX10_town_234 : decode cX10_town 234 = .ok (.iconst 1, 1) := by decide +kernel
theorem dX10_town_235 : decode cX10_town 235 = .ok (.iadd, 1) := by decide +kernel
theorem dX10_town_236 : decode cX10_town 236 = .ok (.iaload, 1) := by decide +kernel
theorem dX10_town_237 : decode cX10_town 237 = .ok (.i2l, 1) := by decide +kernel
theorem dX10_town_238 : decode cX10_town 238 = .ok (.goto 6, 3) := by decide +kernel
theorem dX10_town_241 : decode cX10_town 241 = .ok (.ldc2_w 99, 3) := by decide +kernel
theorem dX10_town_244 : decode cX10_town 244 = .ok (.lreturn, 1) := by decide +kernel
theorem dX10_town_245 : decode cX10_town 245 = .ok (.aload_n 0, 1) := by decide +kernel
theorem dX10_town_246 : decode cX10_town 246 = .ok (.getfield 17, 3) := by decide +kernel
theorem dX10_town_249 : decode cX10_town 249 = .ok (.iload_n 1, 1) := by decide +kernel
theorem dX10_town_250 : decode cX10_town 250 = .ok (.laload, 1) := by decide +kernel
theorem dX10_town_251 : decode cX10_town 251 = .ok (.ldc2_w 89, 3) := by decide +kernel
theorem dX10_town_254 : decode cX10_town 254 = .ok (.lcmp, 1) := by decide +kernel
theorem dX10_town_255 : decode cX10_town 255 = .ok (.ifCond .ne 7, 3) := by decide +kernel
theorem dX10_town_258 : decode cX10_town 258 = .ok (.lconst 0, 1) := by decide +kernel
theorem dX10_town_259 : decode cX10_town 259 = .ok (.goto 9, 3) := by decide +kernel
theorem dX10_town_262 : decode cX10_town 262 = .ok (.aload_n 0, 1) := by decide +kernel
theorem dX10_town_263 : decode cX10_town 263 = .ok (.iload_n 1, 1) := by decide +kernel
theorem dX10_town_264 : decode cX10_town 264 = .ok (.invokevirtual 354, 3) := by decide +kernel
theorem dX10_town_267 : decode cX10_town 267 = .ok (.i2l, 1) := by decide +kernel
theorem dX10_town_268 : decode cX10_town 268 = .ok (.lreturn, 1) := by decide +kernel
theorem dX10_town_269 : decode cX10_town 269 = .ok (.aload_n 0, 1) := by decide +kernel
theorem dX10_town_270 : decode cX10_town 270 = .ok (.iload_n 1, 1) := by decide +kernel
theorem dX10_town_271 : decode cX10_town 271 = .ok (.invokevirtual 357, 3) := by decide +kernel
theorem dX10_town_274 : decode cX10_town 274 = .ok (.invokestatic 336, 3) := by decide +kernel
theorem dX10_town_277 : decode cX10_town 277 = .ok (.lreturn, 1) := by decide +kernel
theorem dX10_town_278 : decode cX10_town 278 = .ok (.aload_n 0, 1) := by decide +kernel
theorem dX10_town_279 : decode cX10_town 279 = .ok (.iload_n 1, 1) := by decide +kernel
theorem dX10_town_280 : decode cX10_town 280 = .ok (.invokevirtual 360, 3) := by decide +kernel
theorem dX10_town_283 : decode cX10_town 283 = .ok (.invokestatic 336, 3) := by decide +kernel
theorem dX10_town_286 : decode cX10_town 286 = .ok (.lreturn, 1) := by decide +kernel
theorem dX10_town_287 : decode cX10_town 287 = .ok (.aload_n 0, 1) := by decide +kernel
theorem dX10_town_288 : decode cX10_town 288 = .ok (.invokevirtual 324, 3) := by decide +kernel
theorem dX10_town_291 : decode cX10_town 291 = .ok (.iload_n 2, 1) := by decide +kernel
theorem dX10_town_292 : decode cX10_town 292 = .ok (.tableswitch 80 8 15 #[48, 57, 80, 80, 66, 80, 80, 73], 48) := by decide +kernel
theorem dX10_town_340 : decode cX10_town 340 = .ok (.aload_n 0, 1) := by decide +kernel
theorem dX10_town_341 : decode cX10_town 341 = .ok (.iload_n 1, 1) := by decide +kernel
theorem dX10_town_342 : decode cX10_town 342 = .ok (.invokevirtual 330, 3) := by decide +kernel
theorem dX10_town_345 : decode cX10_town 345 = .ok (.invokestatic 336, 3) := by decide +kernel
theorem dX10_town_348 : decode cX10_town 348 = .ok (.lreturn, 1) := by decide +kernel
theorem dX10_town_349 : decode cX10_town 349 = .ok (.aload_n 0, 1) := by decide +kernel
theorem dX10_town_350 : decode cX10_town 350 = .ok (.iload_n 1, 1) := by decide +kernel
theorem dX10_town_351 : decode cX10_town 351 = .ok (.invokevirtual 363, 3) := by decide +kernel
theorem dX10_town_354 : decode cX10_town 354 = .ok (.invokestatic 336, 3) := by decide +kernel
theorem dX10_town_357 : decode cX10_town 357 = .ok (.lreturn, 1) := by decide +kernel
theorem dX10_town_358 : decode cX10_town 358 = .ok (.aload_n 0, 1) := by decide +kernel
theorem dX10_town_359 : decode cX10_town 359 = .ok (.iload_n 1, 1) := by decide +kernel
theorem dX10_town_360 : decode cX10_town 360 = .ok (.invokevirtual 366, 3) := by decide +kernel
theorem dX10_town_363 : decode cX10_town 363 = .ok (.i2l, 1) := by decide +kernel
theorem dX10_town_364 : decode cX10_town 364 = .ok (.lreturn, 1) := by decide +kernel
theorem dX10_town_365 : decode cX10_town 365 = .ok (.aload_n 0, 1) := by decide +kernel
theorem dX10_town_366 : decode cX10_town 366 = .ok (.iload_n 1, 1) := by decide +kernel
theorem dX10_town_367 : decode cX10_town 367 = .ok (.invokevirtual 369, 3) := by decide +kernel
theorem dX10_town_370 : decode cX10_town 370 = .ok (.i2l, 1) := by decide +kernel
theorem dX10_town_371 : decode cX10_town 371 = .ok (.lreturn, 1) := by decide +kernel
theorem dX10_town_372 : decode cX10_town 372 = .ok (.ldc2_w 99, 3) := by decide +kernel
theorem dX10_town_375 : decode cX10_town 375 = .ok (.lreturn, 1) := by decide +kernel
theorem dX10_openMany_0 : decode cX10_openMany 0 = .ok (.iconst 0, 1) := by decide +kernel
theorem dX10_openMany_1 : decode cX10_openMany 1 = .ok (.istore_n 1, 1) := by decide +kernel
theorem dX10_openMany_2 : decode cX10_openMany 2 = .ok (.iconst 0, 1) := by decide +kernel
theorem dX10_openMany_3 : decode cX10_openMany 3 = .ok (.istore_n 2, 1) := by decide +kernel
theorem dX10_openMany_4 : decode cX10_openMany 4 = .ok (.iload_n 2, 1) := by decide +kernel
theorem dX10_openMany_5 : decode cX10_openMany 5 = .ok (.aload_n 0, 1) := by decide +kernel
theorem dX10_openMany_6 : decode cX10_openMany 6 = .ok (.getfield 7, 3) := by decide +kernel
theorem dX10_openMany_9 : decode cX10_openMany 9 = .ok (.iconst 1, 1) := by decide +kernel
theorem dX10_openMany_10 : decode cX10_openMany 10 = .ok (.iaload, 1) := by decide +kernel
theorem dX10_openMany_11 : decode cX10_openMany 11 = .ok (.if_icmp .ge 18, 3) := by decide +kernel
theorem dX10_openMany_14 : decode cX10_openMany 14 = .ok (.iload_n 1, 1) := by decide +kernel
theorem dX10_openMany_15 : decode cX10_openMany 15 = .ok (.aload_n 0, 1) := by decide +kernel
theorem dX10_openMany_16 : decode cX10_openMany 16 = .ok (.iload_n 2, 1) := by decide +kernel
theorem dX10_openMany_17 : decode cX10_openMany 17 = .ok (.iconst 3, 1) := by decide +kernel
theorem dX10_openMany_18 : decode cX10_openMany 18 = .ok (.invokevirtual 73, 3) := by decide +kernel
theorem dX10_openMany_21 : decode cX10_openMany 21 = .ok (.iadd, 1) := by decide +kernel
theorem dX10_openMany_22 : decode cX10_openMany 22 = .ok (.istore_n 1, 1) := by decide +kernel
theorem dX10_openMany_23 : decode cX10_openMany 23 = .ok (.iinc 2 1, 3) := by decide +kernel
theorem dX10_openMany_26 : decode cX10_openMany 26 = .ok (.goto (-22), 3) := by decide +kernel
theorem dX10_openMany_29 : decode cX10_openMany 29 = .ok (.iload_n 1, 1) := by decide +kernel
theorem dX10_openMany_30 : decode cX10_openMany 30 = .ok (.ireturn, 1) := by decide +kernel
theorem dX10_reached_0 : decode cX10_reached 0 = .ok (.iconst 0, 1) := by decide +kernel
theorem dX10_reached_1 : decode cX10_reached 1 = .ok (.istore_n 1, 1) := by decide +kernel
theorem dX10_reached_2 : decode cX10_reached 2 = .ok (.iconst 0, 1) := by decide +kernel
theorem dX10_reached_3 : decode cX10_reached 3 = .ok (.istore_n 2, 1) := by decide +kernel
theorem dX10_reached_4 : decode cX10_reached 4 = .ok (.iload_n 2, 1) := by decide +kernel
theorem dX10_reached_5 : decode cX10_reached 5 = .ok (.aload_n 0, 1) := by decide +kernel
theorem dX10_reached_6 : decode cX10_reached 6 = .ok (.invokevirtual 77, 3) := by decide +kernel
theorem dX10_reached_9 : decode cX10_reached 9 = .ok (.if_icmp .ge 26, 3) := by decide +kernel
theorem dX10_reached_12 : decode cX10_reached 12 = .ok (.aload_n 0, 1) := by decide +kernel
theorem dX10_reached_13 : decode cX10_reached 13 = .ok (.getfield 17, 3) := by decide +kernel
theorem dX10_reached_16 : decode cX10_reached 16 = .ok (.iload_n 2, 1) := by decide +kernel
theorem dX10_reached_17 : decode cX10_reached 17 = .ok (.laload, 1) := by decide +kernel
theorem dX10_reached_18 : decode cX10_reached 18 = .ok (.ldc2_w 89, 3) := by decide +kernel
theorem dX10_reached_21 : decode cX10_reached 21 = .ok (.lcmp, 1) := by decide +kernel
theorem dX10_reached_22 : decode cX10_reached 22 = .ok (.ifCond .ge 7, 3) := by decide +kernel
theorem dX10_reached_25 : decode cX10_reached 25 = .ok (.iload_n 1, 1) := by decide +kernel
theorem dX10_reached_26 : decode cX10_reached 26 = .ok (.iconst 1, 1) := by decide +kernel
theorem dX10_reached_27 : decode cX10_reached 27 = .ok (.iadd, 1) := by decide +kernel
theorem dX10_reached_28 : decode cX10_reached 28 = .ok (.istore_n 1, 1) := by decide +kernel
theorem dX10_reached_29 : decode cX10_reached 29 = .ok (.iinc 2 1, 3) := by decide +kernel
theorem dX10_reached_32 : decode cX10_reached 32 = .ok (.goto (-28), 3) := by decide +kernel
theorem dX10_reached_35 : decode cX10_reached 35 = .ok (.iload_n 1, 1) := by decide +kernel
theorem dX10_reached_36 : decode cX10_reached 36 = .ok (.ireturn, 1) := by decide +kernel
theorem dX10_tightMany_0 : decode cX10_tightMany 0 = .ok (.iconst 0, 1) := by decide +kernel
theorem dX10_tightMany_1 : decode cX10_tightMany 1 = .ok (.istore_n 1, 1) := by decide +kernel
theorem dX10_tightMany_2 : decode cX10_tightMany 2 = .ok (.iconst 0, 1) := by decide +kernel
theorem dX10_tightMany_3 : decode cX10_tightMany 3 = .ok (.istore_n 2, 1) := by decide +kernel
theorem dX10_tightMany_4 : decode cX10_tightMany 4 = .ok (.iload_n 2, 1) := by decide +kernel
theorem dX10_tightMany_5 : decode cX10_tightMany 5 = .ok (.aload_n 0, 1) := by decide +kernel
theorem dX10_tightMany_6 : decode cX10_tightMany 6 = .ok (.getfield 7, 3) := by decide +kernel
theorem dX10_tightMany_9 : decode cX10_tightMany 9 = .ok (.iconst 1, 1) := by decide +kernel
theorem dX10_tightMany_10 : decode cX10_tightMany 10 = .ok (.iaload, 1) := by decide +kernel
theorem dX10_tightMany_11 : decode cX10_tightMany 11 = .ok (.if_icmp .ge 21, 3) := by decide +kernel
theorem dX10_tightMany_14 : decode cX10_tightMany 14 = .ok (.aload_n 0, 1) := by decide +kernel
theorem dX10_tightMany_15 : decode cX10_tightMany 15 = .ok (.iload_n 2, 1) := by decide +kernel
theorem dX10_tightMany_16 : decode cX10_tightMany 16 = .ok (.invokevirtual 303, 3) := by decide +kernel
theorem dX10_tightMany_19 : decode cX10_tightMany 19 = .ok (.ifCond .eq 7, 3) := by decide +kernel
theorem dX10_tightMany_22 : decode cX10_tightMany 22 = .ok (.iload_n 1, 1) := by decide +kernel
theorem dX10_tightMany_23 : decode cX10_tightMany 23 = .ok (.iconst 1, 1) := by decide +kernel
theorem dX10_tightMany_24 : decode cX10_tightMany 24 = .ok (.iadd, 1) := by decide +kernel
theorem dX10_tightMany_25 : decode cX10_tightMany 25 = .ok (.istore_n 1, 1) := by decide +kernel
theorem dX10_tightMany_26 : decode cX10_tightMany 26 = .ok (.iinc 2 1, 3) := by decide +kernel
theorem dX10_tightMany_29 : decode cX10_tightMany 29 = .ok (.goto (-25), 3) := by decide +kernel
theorem dX10_tightMany_32 : decode cX10_tightMany 32 = .ok (.iload_n 1, 1) := by decide +kernel
theorem dX10_tightMany_33 : decode cX10_tightMany 33 = .ok (.ireturn, 1) := by decide +kernel
theorem dX10_watches_0 : decode cX10_watches 0 = .ok (.iconst 0, 1) := by decide +kernel
theorem dX10_watches_1 : decode cX10_watches 1 = .ok (.istore_n 2, 1) := by decide +kernel
theorem dX10_watches_2 : decode cX10_watches 2 = .ok (.iconst 0, 1) := by decide +kernel
theorem dX10_watches_3 : decode cX10_watches 3 = .ok (.istore_n 3, 1) := by decide +kernel
theorem dX10_watches_4 : decode cX10_watches 4 = .ok (.iload_n 3, 1) := by decide +kernel
theorem dX10_watches_5 : decode cX10_watches 5 = .ok (.aload_n 0, 1) := by decide +kernel
theorem dX10_watches_6 : decode cX10_watches 6 = .ok (.invokevirtual 77, 3) := by decide +kernel
theorem dX10_watches_9 : decode cX10_watches 9 = .ok (.if_icmp .ge 53, 3) := by decide +kernel
theorem dX10_watches_12 : decode cX10_watches 12 = .ok (.aload_n 0, 1) := by decide +kernel
theorem dX10_watches_13 : decode cX10_watches 13 = .ok (.getfield 7, 3) := by decide +kernel
theorem dX10_watches_16 : decode cX10_watches 16 = .ok (.sipush 172, 3) := by decide +kernel
theorem dX10_watches_19 : decode cX10_watches 19 = .ok (.iconst 3, 1) := by decide +kernel
theorem dX10_watches_20 : decode cX10_watches 20 = .ok (.iload_n 3, 1) := by decide +kernel
theorem dX10_watches_21 : decode cX10_watches 21 = .ok (.imul, 1) := by decide +kernel
theorem dX10_watches_22 : decode cX10_watches 22 = .ok (.iadd, 1) := by decide +kernel
theorem dX10_watches_23 : decode cX10_watches 23 = .ok (.iaload, 1) := by decide +kernel
theorem dX10_watches_24 : decode cX10_watches 24 = .ok (.iconst 1, 1) := by decide +kernel
theorem dX10_watches_25 : decode cX10_watches 25 = .ok (.if_icmp .ne 31, 3) := by decide +kernel
theorem dX10_watches_28 : decode cX10_watches 28 = .ok (.iload_n 1, 1) := by decide +kernel
theorem dX10_watches_29 : decode cX10_watches 29 = .ok (.ifCond .eq 21, 3) := by decide +kernel
theorem dX10_watches_32 : decode cX10_watches 32 = .ok (.aload_n 0, 1) := by decide +kernel
theorem dX10_watches_33 : decode cX10_watches 33 = .ok (.getfield 7, 3) := by decide +kernel
theorem dX10_watches_36 : decode cX10_watches 36 = .ok (.sipush 172, 3) := by decide +kernel
theorem dX10_watches_39 : decode cX10_watches 39 = .ok (.iconst 3, 1) := by decide +kernel
theorem dX10_watches_40 : decode cX10_watches 40 = .ok (.iload_n 3, 1) := by decide +kernel
theorem dX10_watches_41 : decode cX10_watches 41 = .ok (.imul, 1) := by decide +kernel
theorem dX10_watches_42 : decode cX10_watches 42 = .ok (.iadd, 1) := by decide +kernel
theorem dX10_watches_43 : decode cX10_watches 43 = .ok (.iconst 2, 1) := by decide +kernel
theorem dX10_watches_44 : decode cX10_watches 44 = .ok (.iadd, 1) := by decide +kernel
theorem dX10_watches_45 : decode cX10_watches 45 = .ok (.iaload, 1) := by decide +kernel
theorem dX10_watches_46 : decode cX10_watches 46 = .ok (.iconst 1, 1) := by decide +kernel
theorem dX10_watches_47 : decode cX10_watches 47 = .ok (.if_icmp .ne 9, 3) := by decide +kernel
theorem dX10_watches_50 : decode cX10_watches 50 = .ok (.iload_n 2, 1) := by decide +kernel
theorem dX10_watches_51 : decode cX10_watches 51 = .ok (.iconst 1, 1) := by decide +kernel
theorem dX10_watches_52 : decode cX10_watches 52 = .ok (.iload_n 3, 1) := by decide +kernel
theorem dX10_watches_53 : decode cX10_watches 53 = .ok (.ishl, 1) := by decide +kernel
theorem dX10_watches_54 : decode cX10_watches 54 = .ok (.ior, 1) := by decide +kernel
theorem dX10_watches_55 : decode cX10_watches 55 = .ok (.istore_n 2, 1) := by decide +kernel
theorem dX10_watches_56 : decode cX10_watches 56 = .ok (.iinc 3 1, 3) := by decide +kernel
theorem dX10_watches_59 : decode cX10_watches 59 = .ok (.goto (-55), 3) := by decide +kernel
theorem dX10_watches_62 : decode cX10_watches 62 = .ok (.iload_n 2, 1) := by decide +kernel
theorem dX10_watches_63 : decode cX10_watches 63 = .ok (.ireturn, 1) := by decide +kernel
theorem dX10_count_0 : decode cX10_count 0 = .ok (.aload_n 0, 1) := by decide +kernel
theorem dX10_count_1 : decode cX10_count 1 = .ok (.invokevirtual 104, 3) := by decide +kernel
theorem dX10_count_4 : decode cX10_count 4 = .ok (.iload_n 1, 1) := by decide +kernel
theorem dX10_count_5 : decode cX10_count 5 = .ok (.tableswitch 156 0 13 #[71, 76, 83, 88, 95, 103, 110, 115, 120, 127, 133, 139, 144, 149], 71) := by decide +kernel
theorem dX10_count_76 : decode cX10_count 76 = .ok (.aload_n 0, 1) := by decide +kernel
theorem dX10_count_77 : decode cX10_count 77 = .ok (.invokevirtual 77, 3) := by decide +kernel
theorem dX10_count_80 : decode cX10_count 80 = .ok (.ireturn, 1) := by decide +kernel
theorem dX10_count_81 : decode cX10_count 81 = .ok (.aload_n 0, 1) := by decide +kernel
theorem dX10_count_82 : decode cX10_count 82 = .ok (.getfield 7, 3) := by decide +kernel
theorem dX10_count_85 : decode cX10_count 85 = .ok (.iconst 1, 1) := by decide +kernel
theorem dX10_count_86 : decode cX10_count 86 = .ok (.iaload, 1) := by decide +kernel
theorem dX10_count_87 : decode cX10_count 87 = .ok (.ireturn, 1) := by decide +kernel
theorem dX10_count_88 : decode cX10_count 88 = .ok (.aload_n 0, 1) := by decide +kernel
theorem dX10_count_89 : decode cX10_count 89 = .ok (.invokevirtual 372, 3) := by decide +kernel
theorem dX10_count_92 : decode cX10_count 92 = .ok (.ireturn, 1) := by decide +kernel
theorem dX10_count_93 : decode cX10_count 93 = .ok (.aload_n 0, 1) := by decide +kernel
theorem dX10_count_94 : decode cX10_count 94 = .ok (.getfield 7, 3) := by decide +kernel
theorem dX10_count_97 : decode cX10_count 97 = .ok (.iconst 2, 1) := by decide +kernel
theorem dX10_count_98 : decode cX10_count 98 = .ok (.iaload, 1) := by decide +kernel
theorem dX10_count_99 : decode cX10_count 99 = .ok (.ireturn, 1) := by decide +kernel
theorem dX10_count_100 : decode cX10_count 100 = .ok (.aload_n 0, 1) := by decide +kernel
theorem dX10_count_101 : decode cX10_count 101 = .ok (.getfield 7, 3) := by decide +kernel
theorem dX10_count_104 : decode cX10_count 104 = .ok (.bipush 6, 2) := by decide +kernel
theorem dX10_count_106 : decode cX10_count 106 = .ok (.iaload, 1) := by decide +kernel
theorem dX10_count_107 : decode cX10_count 107 = .ok (.ireturn, 1) := by decide +kernel
theorem dX10_count_108 : decode cX10_count 108 = .ok (.aload_n 0, 1) := by decide +kernel
theorem dX10_count_109 : decode cX10_count 109 = .ok (.getfield 7, 3) := by decide +kernel
theorem dX10_count_112 : decode cX10_count 112 = .ok (.iconst 3, 1) := by decide +kernel
theorem dX10_count_113 : decode cX10_count 113 = .ok (.iaload, 1) := by decide +kernel
theorem dX10_count_114 : decode cX10_count 114 = .ok (.ireturn, 1) := by decide +kernel
theorem dX10_count_115 : decode cX10_count 115 = .ok (.aload_n 0, 1) := by decide +kernel
theorem dX10_count_116 : decode cX10_count 116 = .ok (.invokevirtual 375, 3) := by decide +kernel
theorem dX10_count_119 : decode cX10_count 119 = .ok (.ireturn, 1) := by decide +kernel
theorem dX10_count_120 : decode cX10_count 120 = .ok (.aload_n 0, 1) := by decide +kernel
theorem dX10_count_121 : decode cX10_count 121 = .ok (.invokevirtual 378, 3) := by decide +kernel
theorem dX10_count_124 : decode cX10_count 124 = .ok (.ireturn, 1) := by decide +kernel
theorem dX10_count_125 : decode cX10_count 125 = .ok (.aload_n 0, 1) := by decide +kernel
theorem dX10_count_126 : decode cX10_count 126 = .ok (.getfield 7, 3) := by decide +kernel
theorem dX10_count_129 : decode cX10_count 129 = .ok (.iconst 4, 1) := by decide +kernel
theorem dX10_count_130 : decode cX10_count 130 = .ok (.iaload, 1) := by decide +kernel
theorem dX10_count_131 : decode cX10_count 131 = .ok (.ireturn, 1) := by decide +kernel
theorem dX10_count_132 : decode cX10_count 132 = .ok (.aload_n 0, 1) := by decide +kernel
theorem dX10_count_133 : decode cX10_count 133 = .ok (.iconst 0, 1) := by decide +kernel
theorem dX10_count_134 : decode cX10_count 134 = .ok (.invokevirtual 381, 3) := by decide +kernel
theorem dX10_count_137 : decode cX10_count 137 = .ok (.ireturn, 1) := by decide +kernel
theorem dX10_count_138 : decode cX10_count 138 = .ok (.aload_n 0, 1) := by decide +kernel
theorem dX10_count_139 : decode cX10_count 139 = .ok (.iconst 1, 1) := by decide +kernel
theorem dX10_count_140 : decode cX10_count 140 = .ok (.invokevirtual 381, 3) := by decide +kernel
theorem dX10_count_143 : decode cX10_count 143 = .ok (.ireturn, 1) := by decide +kernel
theorem dX10_count_144 : decode cX10_count 144 = .ok (.aload_n 0, 1) := by decide +kernel
theorem dX10_count_145 : decode cX10_count 145 = .ok (.invokevirtual 384, 3) := by decide +kernel
theorem dX10_count_148 : decode cX10_count 148 = .ok (.ireturn, 1) := by decide +kernel
theorem dX10_count_149 : decode cX10_count 149 = .ok (.aload_n 0, 1) := by decide +kernel
theorem dX10_count_150 : decode cX10_count 150 = .ok (.getfield 152, 3) := by decide +kernel
theorem dX10_count_153 : decode cX10_count 153 = .ok (.ireturn, 1) := by decide +kernel
theorem dX10_count_154 : decode cX10_count 154 = .ok (.aload_n 0, 1) := by decide +kernel
theorem dX10_count_155 : decode cX10_count 155 = .ok (.getfield 7, 3) := by decide +kernel
theorem dX10_count_158 : decode cX10_count 158 = .ok (.iconst 5, 1) := by decide +kernel
theorem dX10_count_159 : decode cX10_count 159 = .ok (.iaload, 1) := by decide +kernel
theorem dX10_count_160 : decode cX10_count 160 = .ok (.ireturn, 1) := by decide +kernel
theorem dX10_count_161 : decode cX10_count 161 = .ok (.iconst (-1), 1) := by decide +kernel
theorem dX10_count_162 : decode cX10_count 162 = .ok (.ireturn, 1) := by decide +kernel
theorem dX10_road_0 : decode cX10_road 0 = .ok (.aload_n 0, 1) := by decide +kernel
theorem dX10_road_1 : decode cX10_road 1 = .ok (.iload_n 1, 1) := by decide +kernel
theorem dX10_road_2 : decode cX10_road 2 = .ok (.invokevirtual 146, 3) := by decide +kernel
theorem dX10_road_5 : decode cX10_road 5 = .ok (.ifCond .eq 15, 3) := by decide +kernel
theorem dX10_road_8 : decode cX10_road 8 = .ok (.iload_n 2, 1) := by decide +kernel
theorem dX10_road_9 : decode cX10_road 9 = .ok (.i2l, 1) := by decide +kernel
theorem dX10_road_10 : decode cX10_road 10 = .ok (.lconst 0, 1) := by decide +kernel
theorem dX10_road_11 : decode cX10_road 11 = .ok (.ldc2_w 387, 3) := by decide +kernel
theorem dX10_road_14 : decode cX10_road 14 = .ok (.invokestatic 81, 3) := by decide +kernel
theorem dX10_road_17 : decode cX10_road 17 = .ok (.ifCond .ne 7, 3) := by decide +kernel
theorem dX10_road_20 : decode cX10_road 20 = .ok (.ldc2_w 99, 3) := by decide +kernel
theorem dX10_road_23 : decode cX10_road 23 = .ok (.lreturn, 1) := by decide +kernel
theorem dX10_road_24 : decode cX10_road 24 = .ok (.iload_n 2, 1) := by decide +kernel
theorem dX10_road_25 : decode cX10_road 25 = .ok (.iconst 4, 1) := by decide +kernel
theorem dX10_road_26 : decode cX10_road 26 = .ok (.if_icmp .ge 11, 3) := by decide +kernel
theorem dX10_road_29 : decode cX10_road 29 = .ok (.aload_n 0, 1) := by decide +kernel
theorem dX10_road_30 : decode cX10_road 30 = .ok (.iload_n 1, 1) := by decide +kernel
theorem dX10_road_31 : decode cX10_road 31 = .ok (.iload_n 2, 1) := by decide +kernel
theorem dX10_road_32 : decode cX10_road 32 = .ok (.invokevirtual 73, 3) := by decide +kernel
theorem dX10_road_35 : decode cX10_road 35 = .ok (.i2l, 1) := by decide +kernel
theorem dX10_road_36 : decode cX10_road 36 = .ok (.lreturn, 1) := by decide +kernel
theorem dX10_road_37 : decode cX10_road 37 = .ok (.aload_n 0, 1) := by decide +kernel
theorem dX10_road_38 : decode cX10_road 38 = .ok (.invokevirtual 104, 3) := by decide +kernel
theorem dX10_road_41 : decode cX10_road 41 = .ok (.iload_n 2, 1) := by decide +kernel
theorem dX10_road_42 : decode cX10_road 42 = .ok (.iconst 4, 1) := by decide +kernel
theorem dX10_road_43 : decode cX10_road 43 = .ok (.if_icmp .ne 17, 3) := by decide +kernel
theorem dX10_road_46 : decode cX10_road 46 = .ok (.aload_n 0, 1) := by decide +kernel
theorem dX10_road_47 : decode cX10_road 47 = .ok (.iload_n 1, 1) := by decide +kernel
theorem dX10_road_48 : decode cX10_road 48 = .ok (.invokevirtual 303, 3) := by decide +kernel
theorem dX10_road_51 : decode cX10_road 51 = .ok (.ifCond .eq 7, 3) := by decide +kernel
theorem dX10_road_54 : decode cX10_road 54 = .ok (.lconst 1, 1) := by decide +kernel
theorem dX10_road_55 : decode cX10_road 55 = .ok (.goto 4, 3) := by decide +kernel
theorem dX10_road_58 : decode cX10_road 58 = .ok (.lconst 0, 1) := by decide +kernel
theorem dX10_road_59 : decode cX10_road 59 = .ok (.lreturn, 1) := by decide +kernel
theorem dX10_road_60 : decode cX10_road 60 = .ok (.aload_n 0, 1) := by decide +kernel
theorem dX10_road_61 : decode cX10_road 61 = .ok (.aload_n 0, 1) := by decide +kernel
theorem dX10_road_62 : decode cX10_road 62 = .ok (.iload_n 1, 1) := by decide +kernel
theorem dX10_road_63 : decode cX10_road 63 = .ok (.iconst 1, 1) := by decide +kernel
theorem dX10_road_64 : decode cX10_road 64 = .ok (.invokevirtual 73, 3) := by decide +kernel
theorem dX10_road_67 : decode cX10_road 67 = .ok (.invokevirtual 306, 3) := by decide +kernel
theorem dX10_road_70 : decode cX10_road 70 = .ok (.iload_n 1, 1) := by decide +kernel
theorem dX10_road_71 : decode cX10_road 71 = .ok (.if_icmp .ne 7, 3) := by decide +kernel
theorem dX10_road_74 : decode cX10_road 74 = .ok (.lconst 1, 1) := by decide +kernel
theorem dX10_road_75 : decode cX10_road 75 = .ok (.goto 4, 3) := by decide +kernel
theorem dX10_road_78 : decode cX10_road 78 = .ok (.lconst 0, 1) := by decide +kernel
theorem dX10_road_79 : decode cX10_road 79 = .ok (.lreturn, 1) := by decide +kernel
theorem dX10_change_0 : decode cX10_change 0 = .ok (.aload_n 0, 1) := by decide +kernel
theorem dX10_change_1 : decode cX10_change 1 = .ok (.iload_n 1, 1) := by decide +kernel
theorem dX10_change_2 : decode cX10_change 2 = .ok (.invokevirtual 146, 3) := by decide +kernel
theorem dX10_change_5 : decode cX10_change 5 = .ok (.ifCond .eq 23, 3) := by decide +kernel
theorem dX10_change_8 : decode cX10_change 8 = .ok (.iload_n 2, 1) := by decide +kernel
theorem dX10_change_9 : decode cX10_change 9 = .ok (.i2l, 1) := by decide +kernel
theorem dX10_change_10 : decode cX10_change 10 = .ok (.lconst 0, 1) := by decide +kernel
theorem dX10_change_11 : decode cX10_change 11 = .ok (.ldc2_w 220, 3) := by decide +kernel
theorem dX10_change_14 : decode cX10_change 14 = .ok (.invokestatic 81, 3) := by decide +kernel
theorem dX10_change_17 : decode cX10_change 17 = .ok (.ifCond .eq 11, 3) := by decide +kernel
theorem dX10_change_20 : decode cX10_change 20 = .ok (.aload_n 0, 1) := by decide +kernel
theorem dX10_change_21 : decode cX10_change 21 = .ok (.iload_n 1, 1) := by decide +kernel
theorem dX10_change_22 : decode cX10_change 22 = .ok (.invokevirtual 91, 3) := by decide +kernel
theorem dX10_change_25 : decode cX10_change 25 = .ok (.ifCond .ne 7, 3) := by decide +kernel
theorem dX10_change_28 : decode cX10_change 28 = .ok (.ldc2_w 99, 3) := by decide +kernel
theorem dX10_change_31 : decode cX10_change 31 = .ok (.lreturn, 1) := by decide +kernel
theorem dX10_change_32 : decode cX10_change 32 = .ok (.aload_n 0, 1) := by decide +kernel
theorem dX10_change_33 : decode cX10_change 33 = .ok (.invokevirtual 104, 3) := by decide +kernel
theorem dX10_change_36 : decode cX10_change 36 = .ok (.aload_n 0, 1) := by decide +kernel
theorem dX10_change_37 : decode cX10_change 37 = .ok (.iload_n 1, 1) := by decide +kernel
theorem dX10_change_38 : decode cX10_change 38 = .ok (.invokevirtual 299, 3) := by decide +kernel
theorem dX10_change_41 : decode cX10_change 41 = .ok (.lstore_n 3, 1) := by decide +kernel
theorem dX10_change_42 : decode cX10_change 42 = .ok (.iload_n 2, 1) := by decide +kernel
theorem dX10_change_43 : decode cX10_change 43 = .ok (.ifCond .ne 8, 3) := by decide +kernel
theorem dX10_change_46 : decode cX10_change 46 = .ok (.lload_n 3, 1) := by decide +kernel
theorem dX10_change_47 : decode cX10_change 47 = .ok (.invokestatic 336, 3) := by decide +kernel
theorem dX10_change_50 : decode cX10_change 50 = .ok (.lreturn, 1) := by decide +kernel
theorem dX10_change_51 : decode cX10_change 51 = .ok (.iload_n 2, 1) := by decide +kernel
theorem dX10_change_52 : decode cX10_change 52 = .ok (.iconst 2, 1) := by decide +kernel
theorem dX10_change_53 : decode cX10_change 53 = .ok (.if_icmp .ne 19, 3) := by decide +kernel
theorem dX10_change_56 : decode cX10_change 56 = .ok (.lload_n 3, 1) := by decide +kernel
theorem dX10_change_57 : decode cX10_change 57 = .ok (.ldc2_w 89, 3) := by decide +kernel
theorem dX10_change_60 : decode cX10_change 60 = .ok (.lcmp, 1) := by decide +kernel
theorem dX10_change_61 : decode cX10_change 61 = .ok (.ifCond .ne 9, 3) := by decide +kernel
theorem dX10_change_64 : decode cX10_change 64 = .ok (.ldc2_w 188, 3) := by decide +kernel
theorem dX10_change_67 : decode cX10_change 67 = .ok (.goto 4, 3) := by decide +kernel
theorem dX10_change_70 : decode cX10_change 70 = .ok (.lload_n 3, 1) := by decide +kernel
theorem dX10_change_71 : decode cX10_change 71 = .ok (.lreturn, 1) := by decide +kernel
theorem dX10_change_72 : decode cX10_change 72 = .ok (.lload_n 3, 1) := by decide +kernel
theorem dX10_change_73 : decode cX10_change 73 = .ok (.lconst 0, 1) := by decide +kernel
theorem dX10_change_74 : decode cX10_change 74 = .ok (.lcmp, 1) := by decide +kernel
theorem dX10_change_75 : decode cX10_change 75 = .ok (.ifCond .ne 21, 3) := by decide +kernel
theorem dX10_change_78 : decode cX10_change 78 = .ok (.aload_n 0, 1) := by decide +kernel
theorem dX10_change_79 : decode cX10_change 79 = .ok (.aload_n 0, 1) := by decide +kernel
theorem dX10_change_80 : decode cX10_change 80 = .ok (.iload_n 1, 1) := by decide +kernel
theorem dX10_change_81 : decode cX10_change 81 = .ok (.iconst 1, 1) := by decide +kernel
theorem dX10_change_82 : decode cX10_change 82 = .ok (.invokevirtual 73, 3) := by decide +kernel
theorem dX10_change_85 : decode cX10_change 85 = .ok (.invokevirtual 342, 3) := by decide +kernel
theorem dX10_change_88 : decode cX10_change 88 = .ok (.iconst 1, 1) := by decide +kernel
theorem dX10_change_89 : decode cX10_change 89 = .ok (.if_icmp .ne 7, 3) := by decide +kernel
theorem dX10_change_92 : decode cX10_change 92 = .ok (.lconst 0, 1) := by decide +kernel
theorem dX10_change_93 : decode cX10_change 93 = .ok (.goto 6, 3) := by decide +kernel
theorem dX10_change_96 : decode cX10_change 96 = .ok (.ldc2_w 188, 3) := by decide +kernel
theorem dX10_change_99 : decode cX10_change 99 = .ok (.lreturn, 1) := by decide +kernel
theorem dX10_way_0 : decode cX10_way 0 = .ok (.aload_n 0, 1) := by decide +kernel
theorem dX10_way_1 : decode cX10_way 1 = .ok (.iload_n 1, 1) := by decide +kernel
theorem dX10_way_2 : decode cX10_way 2 = .ok (.invokevirtual 121, 3) := by decide +kernel
theorem dX10_way_5 : decode cX10_way 5 = .ok (.ifCond .eq 7, 3) := by decide +kernel
theorem dX10_way_8 : decode cX10_way 8 = .ok (.iload_n 2, 1) := by decide +kernel
theorem dX10_way_9 : decode cX10_way 9 = .ok (.ifCond .ge 5, 3) := by decide +kernel
theorem dX10_way_12 : decode cX10_way 12 = .ok (.iconst (-1), 1) := by decide +kernel
theorem dX10_way_13 : decode cX10_way 13 = .ok (.ireturn, 1) := by decide +kernel
theorem dX10_way_14 : decode cX10_way 14 = .ok (.aload_n 0, 1) := by decide +kernel
theorem dX10_way_15 : decode cX10_way 15 = .ok (.invokevirtual 104, 3) := by decide +kernel
theorem dX10_way_18 : decode cX10_way 18 = .ok (.aload_n 0, 1) := by decide +kernel
theorem dX10_way_19 : decode cX10_way 19 = .ok (.iload_n 1, 1) := by decide +kernel
theorem dX10_way_20 : decode cX10_way 20 = .ok (.invokevirtual 315, 3) := by decide +kernel
theorem dX10_way_23 : decode cX10_way 23 = .ok (.istore_n 3, 1) := by decide +kernel
theorem dX10_way_24 : decode cX10_way 24 = .ok (.iload_n 3, 1) := by decide +kernel
theorem dX10_way_25 : decode cX10_way 25 = .ok (.iconst (-1), 1) := by decide +kernel
theorem dX10_way_26 : decode cX10_way 26 = .ok (.if_icmp .ne 7, 3) := by decide +kernel
theorem dX10_way_29 : decode cX10_way 29 = .ok (.iconst (-1), 1) := by decide +kernel
theorem dX10_way_30 : decode cX10_way 30 = .ok (.goto 23, 3) := by decide +kernel
theorem dX10_way_33 : decode cX10_way 33 = .ok (.iload_n 2, 1) := by decide +kernel
theorem dX10_way_34 : decode cX10_way 34 = .ok (.iload_n 3, 1) := by decide +kernel
theorem dX10_way_35 : decode cX10_way 35 = .ok (.if_icmp .ge 16, 3) := by decide +kernel
theorem dX10_way_38 : decode cX10_way 38 = .ok (.aload_n 0, 1) := by decide +kernel
theorem dX10_way_39 : decode cX10_way 39 = .ok (.getfield 33, 3) := by decide +kernel
theorem dX10_way_42 : decode cX10_way 42 = .ok (.iload_n 3, 1) := by decide +kernel
theorem dX10_way_43 : decode cX10_way 43 = .ok (.iconst 1, 1) := by decide +kernel
theorem dX10_way_44 : decode cX10_way 44 = .ok (.isub, 1) := by decide +kernel
theorem dX10_way_45 : decode cX10_way 45 = .ok (.iload_n 2, 1) := by decide +kernel
theorem dX10_way_46 : decode cX10_way 46 = .ok (.isub, 1) := by decide +kernel
theorem dX10_way_47 : decode cX10_way 47 = .ok (.iaload, 1) := by decide +kernel
theorem dX10_way_48 : decode cX10_way 48 = .ok (.goto 5, 3) := by decide +kernel
theorem dX10_way_51 : decode cX10_way 51 = .ok (.bipush (-4), 2) := by decide +kernel
theorem dX10_way_53 : decode cX10_way 53 = .ok (.ireturn, 1) := by decide +kernel
theorem dX10_needed_0 : decode cX10_needed 0 = .ok (.aload_n 0, 1) := by decide +kernel
theorem dX10_needed_1 : decode cX10_needed 1 = .ok (.iload_n 1, 1) := by decide +kernel
theorem dX10_needed_2 : decode cX10_needed 2 = .ok (.invokevirtual 146, 3) := by decide +kernel
theorem dX10_needed_5 : decode cX10_needed 5 = .ok (.ifCond .eq 19, 3) := by decide +kernel
theorem dX10_needed_8 : decode cX10_needed 8 = .ok (.aload_n 0, 1) := by decide +kernel
theorem dX10_needed_9 : decode cX10_needed 9 = .ok (.iload_n 2, 1) := by decide +kernel
theorem dX10_needed_10 : decode cX10_needed 10 = .ok (.invokevirtual 121, 3) := by decide +kernel
theorem dX10_needed_13 : decode cX10_needed 13 = .ok (.ifCond .eq 11, 3) := by decide +kernel
theorem dX10_needed_16 : decode cX10_needed 16 = .ok (.aload_n 0, 1) := by decide +kernel
theorem dX10_needed_17 : decode cX10_needed 17 = .ok (.iload_n 1, 1) := by decide +kernel
theorem dX10_needed_18 : decode cX10_needed 18 = .ok (.invokevirtual 91, 3) := by decide +kernel
theorem dX10_needed_21 : decode cX10_needed 21 = .ok (.ifCond .ne 5, 3) := by decide +kernel
theorem dX10_needed_24 : decode cX10_needed 24 = .ok (.iconst (-1), 1) := by decide +kernel
theorem dX10_needed_25 : decode cX10_needed 25 = .ok (.ireturn, 1) := by decide +kernel
theorem dX10_needed_26 : decode cX10_needed 26 = .ok (.aload_n 0, 1) := by decide +kernel
theorem dX10_needed_27 : decode cX10_needed 27 = .ok (.invokevirtual 104, 3) := by decide +kernel
theorem dX10_needed_30 : decode cX10_needed 30 = .ok (.aload_n 0, 1) := by decide +kernel
theorem dX10_needed_31 : decode cX10_needed 31 = .ok (.getfield 17, 3) := by decide +kernel
theorem dX10_needed_34 : decode cX10_needed 34 = .ok (.iload_n 2, 1) := by decide +kernel
theorem dX10_needed_35 : decode cX10_needed 35 = .ok (.laload, 1) := by decide +kernel
theorem dX10_needed_36 : decode cX10_needed 36 = .ok (.ldc2_w 89, 3) := by decide +kernel
theorem dX10_needed_39 : decode cX10_needed 39 = .ok (.lcmp, 1) := by decide +kernel
theorem dX10_needed_40 : decode cX10_needed 40 = .ok (.ifCond .ne 5, 3) := by decide +kernel
theorem dX10_needed_43 : decode cX10_needed 43 = .ok (.iconst (-1), 1) := by decide +kernel
theorem dX10_needed_44 : decode cX10_needed 44 = .ok (.ireturn, 1) := by decide +kernel
theorem dX10_needed_45 : decode cX10_needed 45 = .ok (.aload_n 0, 1) := by decide +kernel
theorem dX10_needed_46 : decode cX10_needed 46 = .ok (.iload_n 1, 1) := by decide +kernel
theorem dX10_needed_47 : decode cX10_needed 47 = .ok (.invokevirtual 303, 3) := by decide +kernel
theorem dX10_needed_50 : decode cX10_needed 50 = .ok (.ifCond .eq 16, 3) := by decide +kernel
theorem dX10_needed_53 : decode cX10_needed 53 = .ok (.aload_n 0, 1) := by decide +kernel
theorem dX10_needed_54 : decode cX10_needed 54 = .ok (.iload_n 1, 1) := by decide +kernel
theorem dX10_needed_55 : decode cX10_needed 55 = .ok (.iload_n 2, 1) := by decide +kernel
theorem dX10_needed_56 : decode cX10_needed 56 = .ok (.invokevirtual 312, 3) := by decide +kernel
theorem dX10_needed_59 : decode cX10_needed 59 = .ok (.ifCond .eq 7, 3) := by decide +kernel
theorem dX10_needed_62 : decode cX10_needed 62 = .ok (.iconst 1, 1) := by decide +kernel
theorem dX10_needed_63 : decode cX10_needed 63 = .ok (.goto 4, 3) := by decide +kernel
theorem dX10_needed_66 : decode cX10_needed 66 = .ok (.iconst 0, 1) := by decide +kernel
theorem dX10_needed_67 : decode cX10_needed 67 = .ok (.ireturn, 1) := by decide +kernel
theorem dX10_without_0 : decode cX10_without 0 = .ok (.aload_n 0, 1) := by decide +kernel
theorem dX10_without_1 : decode cX10_without 1 = .ok (.iload_n 1, 1) := by decide +kernel
theorem dX10_without_2 : decode cX10_without 2 = .ok (.invokevirtual 146, 3) := by decide +kernel
theorem dX10_without_5 : decode cX10_without 5 = .ok (.ifCond .eq 19, 3) := by decide +kernel
theorem dX10_without_8 : decode cX10_without 8 = .ok (.aload_n 0, 1) := by decide +kernel
theorem dX10_without_9 : decode cX10_without 9 = .ok (.iload_n 2, 1) := by decide +kernel
theorem dX10_without_10 : decode cX10_without 10 = .ok (.invokevirtual 121, 3) := by decide +kernel
theorem dX10_without_13 : decode cX10_without 13 = .ok (.ifCond .eq 11, 3) := by decide +kernel
theorem dX10_without_16 : decode cX10_without 16 = .ok (.aload_n 0, 1) := by decide +kernel
theorem dX10_without_17 : decode cX10_without 17 = .ok (.iload_n 1, 1) := by decide +kernel
theorem dX10_without_18 : decode cX10_without 18 = .ok (.invokevirtual 91, 3) := by decide +kernel
theorem dX10_without_21 : decode cX10_without 21 = .ok (.ifCond .ne 7, 3) := by decide +kernel
theorem dX10_without_24 : decode cX10_without 24 = .ok (.ldc2_w 99, 3) := by decide +kernel
theorem dX10_without_27 : decode cX10_without 27 = .ok (.lreturn, 1) := by decide +kernel
theorem dX10_without_28 : decode cX10_without 28 = .ok (.aload_n 0, 1) := by decide +kernel
theorem dX10_without_29 : decode cX10_without 29 = .ok (.aload_n 0, 1) := by decide +kernel
theorem dX10_without_30 : decode cX10_without 30 = .ok (.getfield 7, 3) := by decide +kernel
theorem dX10_without_33 : decode cX10_without 33 = .ok (.iconst 2, 1) := by decide +kernel
theorem dX10_without_34 : decode cX10_without 34 = .ok (.iaload, 1) := by decide +kernel
theorem dX10_without_35 : decode cX10_without 35 = .ok (.iload_n 1, 1) := by decide +kernel
theorem dX10_without_36 : decode cX10_without 36 = .ok (.invokevirtual 95, 3) := by decide +kernel
theorem dX10_without_39 : decode cX10_without 39 = .ok (.aload_n 0, 1) := by decide +kernel
theorem dX10_without_40 : decode cX10_without 40 = .ok (.getfield 13, 3) := by decide +kernel
theorem dX10_without_43 : decode cX10_without 43 = .ok (.iload_n 2, 1) := by decide +kernel
theorem dX10_without_44 : decode cX10_without 44 = .ok (.laload, 1) := by decide +kernel
theorem dX10_without_45 : decode cX10_without 45 = .ok (.invokestatic 336, 3) := by decide +kernel
theorem dX10_without_48 : decode cX10_without 48 = .ok (.lreturn, 1) := by decide +kernel
theorem dX10_between_0 : decode cX10_between 0 = .ok (.aload_n 0, 1) := by decide +kernel
theorem dX10_between_1 : decode cX10_between 1 = .ok (.iload_n 1, 1) := by decide +kernel
theorem dX10_between_2 : decode cX10_between 2 = .ok (.invokevirtual 121, 3) := by decide +kernel
theorem dX10_between_5 : decode cX10_between 5 = .ok (.ifCond .eq 11, 3) := by decide +kernel
theorem dX10_between_8 : decode cX10_between 8 = .ok (.aload_n 0, 1) := by decide +kernel
theorem dX10_between_9 : decode cX10_between 9 = .ok (.iload_n 2, 1) := by decide +kernel
theorem dX10_between_10 : decode cX10_between 10 = .ok (.invokevirtual 121, 3) := by decide +kernel
theorem dX10_between_13 : decode cX10_between 13 = .ok (.ifCond .ne 7, 3) := by decide +kernel
theorem dX10_between_16 : decode cX10_between 16 = .ok (.ldc2_w 99, 3) := by decide +kernel
theorem dX10_between_19 : decode cX10_between 19 = .ok (.lreturn, 1) := by decide +kernel
theorem dX10_between_20 : decode cX10_between 20 = .ok (.aload_n 0, 1) := by decide +kernel
theorem dX10_between_21 : decode cX10_between 21 = .ok (.iload_n 1, 1) := by decide +kernel
theorem dX10_between_22 : decode cX10_between 22 = .ok (.iconst (-1), 1) := by decide +kernel
theorem dX10_between_23 : decode cX10_between 23 = .ok (.invokevirtual 95, 3) := by decide +kernel
theorem dX10_between_26 : decode cX10_between 26 = .ok (.aload_n 0, 1) := by decide +kernel
theorem dX10_between_27 : decode cX10_between 27 = .ok (.getfield 13, 3) := by decide +kernel
theorem dX10_between_30 : decode cX10_between 30 = .ok (.iload_n 2, 1) := by decide +kernel
theorem dX10_between_31 : decode cX10_between 31 = .ok (.laload, 1) := by decide +kernel
theorem dX10_between_32 : decode cX10_between 32 = .ok (.invokestatic 336, 3) := by decide +kernel
theorem dX10_between_35 : decode cX10_between 35 = .ok (.lreturn, 1) := by decide +kernel
theorem dX10_offers_0 : decode cX10_offers 0 = .ok (.lload_n 2, 1) := by decide +kernel
theorem dX10_offers_1 : decode cX10_offers 1 = .ok (.aload_n 0, 1) := by decide +kernel
theorem dX10_offers_2 : decode cX10_offers 2 = .ok (.getfield 61, 3) := by decide +kernel
theorem dX10_offers_5 : decode cX10_offers 5 = .ok (.iload_n 1, 1) := by decide +kernel
theorem dX10_offers_6 : decode cX10_offers 6 = .ok (.laload, 1) := by decide +kernel
theorem dX10_offers_7 : decode cX10_offers 7 = .ok (.lcmp, 1) := by decide +kernel
theorem dX10_offers_8 : decode cX10_offers 8 = .ok (.ifCond .ge 10, 3) := by decide +kernel
theorem dX10_offers_11 : decode cX10_offers 11 = .ok (.aload_n 0, 1) := by decide +kernel
theorem dX10_offers_12 : decode cX10_offers 12 = .ok (.getfield 61, 3) := by decide +kernel
theorem dX10_offers_15 : decode cX10_offers 15 = .ok (.iload_n 1, 1) := by decide +kernel
theorem dX10_offers_16 : decode cX10_offers 16 = .ok (.lload_n 2, 1) := by decide +kernel
theorem dX10_offers_17 : decode cX10_offers 17 = .ok (.lastore, 1) := by decide +kernel
theorem dX10_offers_18 : decode cX10_offers 18 = .ok (.return_, 1) := by decide +kernel
theorem dX10_free_0 : decode cX10_free 0 = .ok (.aload_n 0, 1) := by decide +kernel
theorem dX10_free_1 : decode cX10_free 1 = .ok (.iload_n 1, 1) := by decide +kernel
theorem dX10_free_2 : decode cX10_free 2 = .ok (.invokevirtual 121, 3) := by decide +kernel
theorem dX10_free_5 : decode cX10_free 5 = .ok (.ifCond .eq 15, 3) := by decide +kernel
theorem dX10_free_8 : decode cX10_free 8 = .ok (.iload_n 2, 1) := by decide +kernel
theorem dX10_free_9 : decode cX10_free 9 = .ok (.i2l, 1) := by decide +kernel
theorem dX10_free_10 : decode cX10_free 10 = .ok (.lconst 0, 1) := by decide +kernel
theorem dX10_free_11 : decode cX10_free 11 = .ok (.ldc2_w 389, 3) := by decide +kernel
theorem dX10_free_14 : decode cX10_free 14 = .ok (.invokestatic 81, 3) := by decide +kernel
theorem dX10_free_17 : decode cX10_free 17 = .ok (.ifCond .ne 7, 3) := by decide +kernel
theorem dX10_free_20 : decode cX10_free 20 = .ok (.ldc2_w 99, 3) := by decide +kernel
theorem dX10_free_23 : decode cX10_free 23 = .ok (.lreturn, 1) := by decide +kernel
theorem dX10_free_24 : decode cX10_free 24 = .ok (.iconst 0, 1) := by decide +kernel
theorem dX10_free_25 : decode cX10_free 25 = .ok (.istore_n 3, 1) := by decide +kernel
theorem dX10_free_26 : decode cX10_free 26 = .ok (.iload_n 3, 1) := by decide +kernel
theorem dX10_free_27 : decode cX10_free 27 = .ok (.bipush 48, 2) := by decide +kernel
theorem dX10_free_29 : decode cX10_free 29 = .ok (.if_icmp .ge 34, 3) := by decide +kernel
theorem dX10_free_32 : decode cX10_free 32 = .ok (.aload_n 0, 1) := by decide +kernel
theorem dX10_free_33 : decode cX10_free 33 = .ok (.getfield 61, 3) := by decide +kernel
theorem dX10_free_36 : decode cX10_free 36 = .ok (.iload_n 3, 1) := by decide +kernel
theorem dX10_free_37 : decode cX10_free 37 = .ok (.iload_n 3, 1) := by decide +kernel
theorem dX10_free_38 : decode cX10_free 38 = .ok (.iconst 4, 1) := by decide +kernel
theorem dX10_free_39 : decode cX10_free 39 = .ok (.aload_n 0, 1) := by decide +kernel
theorem dX10_free_40 : decode cX10_free 40 = .ok (.getfield 7, 3) := by decide +kernel
theorem dX10_free_43 : decode cX10_free 43 = .ok (.iconst 2, 1) := by decide +kernel
theorem dX10_free_44 : decode cX10_free 44 = .ok (.iaload, 1) := by decide +kernel
theorem dX10_free_45 : decode cX10_free 45 = .ok (.imul, 1) := by decide +kernel
theorem dX10_free_46 : decode cX10_free 46 = .ok (.if_icmp .ne 7, 3) := by decide +kernel
theorem dX10_free_49 : decode cX10_free 49 = .ok (.lconst 0, 1) := by decide +kernel
theorem dX10_free_50 : decode cX10_free 50 = .ok (.goto 6, 3) := by decide +kernel
theorem dX10_free_53 : decode cX10_free 53 = .ok (.ldc2_w 89, 3) := by decide +kernel
theorem dX10_free_56 : decode cX10_free 56 = .ok (.lastore, 1) := by decide +kernel
theorem dX10_free_57 : decode cX10_free 57 = .ok (.iinc 3 1, 3) := by decide +kernel
theorem dX10_free_60 : decode cX10_free 60 = .ok (.goto (-34), 3) := by decide +kernel
theorem dX10_free_63 : decode cX10_free 63 = .ok (.iconst 0, 1) := by decide +kernel
theorem dX10_free_64 : decode cX10_free 64 = .ok (.istore_n 3, 1) := by decide +kernel
theorem dX10_free_65 : decode cX10_free 65 = .ok (.iload_n 3, 1) := by decide +kernel
theorem dX10_free_66 : decode cX10_free 66 = .ok (.iconst 4, 1) := by decide +kernel
theorem dX10_free_67 : decode cX10_free 67 = .ok (.aload_n 0, 1) := by decide +kernel
theorem dX10_free_68 : decode cX10_free 68 = .ok (.invokevirtual 77, 3) := by decide +kernel
theorem dX10_free_71 : decode cX10_free 71 = .ok (.imul, 1) := by decide +kernel
theorem dX10_free_72 : decode cX10_free 72 = .ok (.if_icmp .ge 147, 3) := by decide +kernel
theorem dX10_free_75 : decode cX10_free 75 = .ok (.iconst 0, 1) := by decide +kernel
theorem dX10_free_76 : decode cX10_free 76 = .ok (.istore 4, 2) := by decide +kernel
theorem dX10_free_78 : decode cX10_free 78 = .ok (.iload 4, 2) := by decide +kernel
theorem dX10_free_80 : decode cX10_free 80 = .ok (.aload_n 0, 1) := by decide +kernel
theorem dX10_free_81 : decode cX10_free 81 = .ok (.getfield 7, 3) := by decide +kernel
theorem dX10_free_84 : decode cX10_free 84 = .ok (.iconst 1, 1) := by decide +kernel
theorem dX10_free_85 : decode cX10_free 85 = .ok (.iaload, 1) := by decide +kernel
theorem dX10_free_86 : decode cX10_free 86 = .ok (.if_icmp .ge 127, 3) := by decide +kernel
theorem dX10_free_89 : decode cX10_free 89 = .ok (.iconst 0, 1) := by decide +kernel
theorem dX10_free_90 : decode cX10_free 90 = .ok (.istore 5, 2) := by decide +kernel
theorem dX10_free_92 : decode cX10_free 92 = .ok (.iload 5, 2) := by decide +kernel
theorem dX10_free_94 : decode cX10_free 94 = .ok (.iload_n 2, 1) := by decide +kernel
theorem dX10_free_95 : decode cX10_free 95 = .ok (.if_icmp .gt 112, 3) := by decide +kernel
theorem dX10_free_98 : decode cX10_free 98 = .ok (.aload_n 0, 1) := by decide +kernel
theorem dX10_free_99 : decode cX10_free 99 = .ok (.iload 4, 2) := by decide +kernel
theorem dX10_free_101 : decode cX10_free 101 = .ok (.invokevirtual 91, 3) := by decide +kernel
theorem dX10_free_104 : decode cX10_free 104 = .ok (.ifCond .eq 103, 3) := by decide +kernel
theorem dX10_free_107 : decode cX10_free 107 = .ok (.aload_n 0, 1) := by decide +kernel
theorem dX10_free_108 : decode cX10_free 108 = .ok (.getfield 61, 3) := by decide +kernel
theorem dX10_free_111 : decode cX10_free 111 = .ok (.iconst 4, 1) := by decide +kernel
theorem dX10_free_112 : decode cX10_free 112 = .ok (.aload_n 0, 1) := by decide +kernel
theorem dX10_free_113 : decode cX10_free 113 = .ok (.iload 4, 2) := by decide +kernel
theorem dX10_free_115 : decode cX10_free 115 = .ok (.iconst 0, 1) := by decide +kernel
theorem dX10_free_116 : decode cX10_free 116 = .ok (.invokevirtual 73, 3) := by decide +kernel
theorem dX10_free_119 : decode cX10_free 119 = .ok (.imul, 1) := by decide +kernel
theorem dX10_free_120 : decode cX10_free 120 = .ok (.iload 5, 2) := by decide +kernel
theorem dX10_free_122 : decode cX10_free 122 = .ok (.iadd, 1) := by decide +kernel
theorem dX10_free_123 : decode cX10_free 123 = .ok (.laload, 1) := by decide +kernel
theorem dX10_free_124 : decode cX10_free 124 = .ok (.lstore 6, 2) := by decide +kernel
theorem dX10_free_126 : decode cX10_free 126 = .ok (.lload 6, 2) := by decide +kernel
theorem dX10_free_128 : decode cX10_free 128 = .ok (.ldc2_w 89, 3) := by decide +kernel
theorem dX10_free_131 : decode cX10_free 131 = .ok (.lcmp, 1) := by decide +kernel
theorem dX10_free_132 : decode cX10_free 132 = .ok (.ifCond .ne 6, 3) := by decide +kernel
theorem dX10_free_135 : decode cX10_free 135 = .ok (.goto 66, 3) := by decide +kernel
theorem dX10_free_138 : decode cX10_free 138 = .ok (.aload_n 0, 1) := by decide +kernel
theorem dX10_free_139 : decode cX10_free 139 = .ok (.iconst 4, 1) := by decide +kernel
theorem dX10_free_140 : decode cX10_free 140 = .ok (.aload_n 0, 1) := by decide +kernel
theorem dX10_free_141 : decode cX10_free 141 = .ok (.iload 4, 2) := by decide +kernel
theorem dX10_free_143 : decode cX10_free 143 = .ok (.iconst 1, 1) := by decide +kernel
theorem dX10_free_144 : decode cX10_free 144 = .ok (.invokevirtual 73, 3) := by decide +kernel
theorem dX10_free_147 : decode cX10_free 147 = .ok (.imul, 1) := by decide +kernel
theorem dX10_free_148 : decode cX10_free 148 = .ok (.iload 5, 2) := by decide +kernel
theorem dX10_free_150 : decode cX10_free 150 = .ok (.iadd, 1) := by decide +kernel
theorem dX10_free_151 : decode cX10_free 151 = .ok (.lload 6, 2) := by decide +kernel
theorem dX10_free_153 : decode cX10_free 153 = .ok (.aload_n 0, 1) := by decide +kernel
theorem dX10_free_154 : decode cX10_free 154 = .ok (.iload 4, 2) := by decide +kernel
theorem dX10_free_156 : decode cX10_free 156 = .ok (.iconst 2, 1) := by decide +kernel
theorem dX10_free_157 : decode cX10_free 157 = .ok (.invokevirtual 73, 3) := by decide +kernel
theorem dX10_free_160 : decode cX10_free 160 = .ok (.i2l, 1) := by decide +kernel
theorem dX10_free_161 : decode cX10_free 161 = .ok (.ladd, 1) := by decide +kernel
theorem dX10_free_162 : decode cX10_free 162 = .ok (.invokevirtual 391, 3) := by decide +kernel
theorem dX10_free_165 : decode cX10_free 165 = .ok (.iload 5, 2) := by decide +kernel
theorem dX10_free_167 : decode cX10_free 167 = .ok (.iload_n 2, 1) := by decide +kernel
theorem dX10_free_168 : decode cX10_free 168 = .ok (.if_icmp .ge 33, 3) := by decide +kernel
theorem dX10_free_171 : decode cX10_free 171 = .ok (.aload_n 0, 1) := by decide +kernel
theorem dX10_free_172 : decode cX10_free 172 = .ok (.iload 4, 2) := by decide +kernel
theorem dX10_free_174 : decode cX10_free 174 = .ok (.iconst 2, 1) := by decide +kernel
theorem dX10_free_175 : decode cX10_free 175 = .ok (.invokevirtual 73, 3) := by decide +kernel
theorem dX10_free_178 : decode cX10_free 178 = .ok (.ifCond .le 23, 3) := by decide +kernel
theorem dX10_free_181 : decode cX10_free 181 = .ok (.aload_n 0, 1) := by decide +kernel
theorem dX10_free_182 : decode cX10_free 182 = .ok (.iconst 4, 1) := by decide +kernel
theorem dX10_free_183 : decode cX10_free 183 = .ok (.aload_n 0, 1) := by decide +kernel
theorem dX10_free_184 : decode cX10_free 184 = .ok (.iload 4, 2) := by decide +kernel
theorem dX10_free_186 : decode cX10_free 186 = .ok (.iconst 1, 1) := by decide +kernel
theorem dX10_free_187 : decode cX10_free 187 = .ok (.invokevirtual 73, 3) := by decide +kernel
theorem dX10_free_190 : decode cX10_free 190 = .ok (.imul, 1) := by decide +kernel
theorem dX10_free_191 : decode cX10_free 191 = .ok (.iload 5, 2) := by decide +kernel
theorem dX10_free_193 : decode cX10_free 193 = .ok (.iadd, 1) := by decide +kernel
theorem dX10_free_194 : decode cX10_free 194 = .ok (.iconst 1, 1) := by decide +kernel
theorem dX10_free_195 : decode cX10_free 195 = .ok (.iadd, 1) := by decide +kernel
theorem dX10_free_196 : decode cX10_free 196 = .ok (.lload 6, 2) := by decide +kernel
theorem dX10_free_198 : decode cX10_free 198 = .ok (.invokevirtual 391, 3) := by decide +kernel
theorem dX10_free_201 : decode cX10_free 201 = .ok (.iinc 5 1, 3) := by decide +kernel
theorem dX10_free_204 : decode cX10_free 204 = .ok (.goto (-112), 3) := by decide +kernel
theorem dX10_free_207 : decode cX10_free 207 = .ok (.iinc 4 1, 3) := by decide +kernel
theorem dX10_free_210 : decode cX10_free 210 = .ok (.goto (-132), 3) := by decide +kernel
theorem dX10_free_213 : decode cX10_free 213 = .ok (.iinc 3 1, 3) := by decide +kernel
theorem dX10_free_216 : decode cX10_free 216 = .ok (.goto (-151), 3) := by decide +kernel
theorem dX10_free_219 : decode cX10_free 219 = .ok (.ldc2_w 89, 3) := by decide +kernel
theorem dX10_free_222 : decode cX10_free 222 = .ok (.lstore_n 3, 1) := by decide +kernel
theorem dX10_free_223 : decode cX10_free 223 = .ok (.iconst 0, 1) := by decide +kernel
theorem dX10_free_224 : decode cX10_free 224 = .ok (.istore 5, 2) := by decide +kernel
theorem dX10_free_226 : decode cX10_free 226 = .ok (.iload 5, 2) := by decide +kernel
theorem dX10_free_228 : decode cX10_free 228 = .ok (.iload_n 2, 1) := by decide +kernel
theorem dX10_free_229 : decode cX10_free 229 = .ok (.if_icmp .gt 37, 3) := by decide +kernel
theorem dX10_free_232 : decode cX10_free 232 = .ok (.aload_n 0, 1) := by decide +kernel
theorem dX10_free_233 : decode cX10_free 233 = .ok (.getfield 61, 3) := by decide +kernel
theorem dX10_free_236 : decode cX10_free 236 = .ok (.iconst 4, 1) := by decide +kernel
theorem dX10_free_237 : decode cX10_free 237 = .ok (.iload_n 1, 1) := by decide +kernel
theorem dX10_free_238 : decode cX10_free 238 = .ok (.imul, 1) := by decide +kernel
theorem dX10_free_239 : decode cX10_free 239 = .ok (.iload 5, 2) := by decide +kernel
theorem dX10_free_241 : decode cX10_free 241 = .ok (.iadd, 1) := by decide +kernel
theorem dX10_free_242 : decode cX10_free 242 = .ok (.laload, 1) := by decide +kernel
theorem dX10_free_243 : decode cX10_free 243 = .ok (.lload_n 3, 1) := by decide +kernel
theorem dX10_free_244 : decode cX10_free 244 = .ok (.lcmp, 1) := by decide +kernel
theorem dX10_free_245 : decode cX10_free 245 = .ok (.ifCond .ge 15, 3) := by decide +kernel
theorem dX10_free_248 : decode cX10_free 248 = .ok (.aload_n 0, 1) := by decide +kernel
theorem dX10_free_249 : decode cX10_free 249 = .ok (.getfield 61, 3) := by decide +kernel
theorem dX10_free_252 : decode cX10_free 252 = .ok (.iconst 4, 1) := by decide +kernel
theorem dX10_free_253 : decode cX10_free 253 = .ok (.iload_n 1, 1) := by decide +kernel
theorem dX10_free_254 : decode cX10_free 254 = .ok (.imul, 1) := by decide +kernel
theorem dX10_free_255 : decode cX10_free 255 = .ok (.iload 5, 2) := by decide +kernel
theorem dX10_free_257 : decode cX10_free 257 = .ok (.iadd, 1) := by decide +kernel
theorem dX10_free_258 : decode cX10_free 258 = .ok (.laload, 1) := by decide +kernel
theorem dX10_free_259 : decode cX10_free 259 = .ok (.lstore_n 3, 1) := by decide +kernel
theorem dX10_free_260 : decode cX10_free 260 = .ok (.iinc 5 1, 3) := by decide +kernel
theorem dX10_free_263 : decode cX10_free 263 = .ok (.goto (-37), 3) := by decide +kernel
theorem dX10_free_266 : decode cX10_free 266 = .ok (.lload_n 3, 1) := by decide +kernel
theorem dX10_free_267 : decode cX10_free 267 = .ok (.invokestatic 336, 3) := by decide +kernel
theorem dX10_free_270 : decode cX10_free 270 = .ok (.lreturn, 1) := by decide +kernel
theorem dX10_goesOn_0 : decode cX10_goesOn 0 = .ok (.iconst 0, 1) := by decide +kernel
theorem dX10_goesOn_1 : decode cX10_goesOn 1 = .ok (.istore_n 1, 1) := by decide +kernel
theorem dX10_goesOn_2 : decode cX10_goesOn 2 = .ok (.iload_n 1, 1) := by decide +kernel
theorem dX10_goesOn_3 : decode cX10_goesOn 3 = .ok (.bipush 12, 2) := by decide +kernel
theorem dX10_goesOn_5 : decode cX10_goesOn 5 = .ok (.if_icmp .ge 18, 3) := by decide +kernel
theorem dX10_goesOn_8 : decode cX10_goesOn 8 = .ok (.aload_n 0, 1) := by decide +kernel
theorem dX10_goesOn_9 : decode cX10_goesOn 9 = .ok (.getfield 64, 3) := by decide +kernel
theorem dX10_goesOn_12 : decode cX10_goesOn 12 = .ok (.iload_n 1, 1) := by decide +kernel
theorem dX10_goesOn_13 : decode cX10_goesOn 13 = .ok (.ldc2_w 89, 3) := by decide +kernel
theorem dX10_goesOn_16 : decode cX10_goesOn 16 = .ok (.lastore, 1) := by decide +kernel
theorem dX10_goesOn_17 : decode cX10_goesOn 17 = .ok (.iinc 1 1, 3) := by decide +kernel
theorem dX10_goesOn_20 : decode cX10_goesOn 20 = .ok (.goto (-18), 3) := by decide +kernel
theorem dX10_goesOn_23 : decode cX10_goesOn 23 = .ok (.iconst 0, 1) := by decide +kernel
theorem dX10_goesOn_24 : decode cX10_goesOn 24 = .ok (.istore_n 1, 1) := by decide +kernel
theorem dX10_goesOn_25 : decode cX10_goesOn 25 = .ok (.iload_n 1, 1) := by decide +kernel
theorem dX10_goesOn_26 : decode cX10_goesOn 26 = .ok (.aload_n 0, 1) := by decide +kernel
theorem dX10_goesOn_27 : decode cX10_goesOn 27 = .ok (.getfield 7, 3) := by decide +kernel
theorem dX10_goesOn_30 : decode cX10_goesOn 30 = .ok (.iconst 1, 1) := by decide +kernel
theorem dX10_goesOn_31 : decode cX10_goesOn 31 = .ok (.iaload, 1) := by decide +kernel
theorem dX10_goesOn_32 : decode cX10_goesOn 32 = .ok (.if_icmp .ge 86, 3) := by decide +kernel
theorem dX10_goesOn_35 : decode cX10_goesOn 35 = .ok (.aload_n 0, 1) := by decide +kernel
theorem dX10_goesOn_36 : decode cX10_goesOn 36 = .ok (.iload_n 1, 1) := by decide +kernel
theorem dX10_goesOn_37 : decode cX10_goesOn 37 = .ok (.invokevirtual 91, 3) := by decide +kernel
theorem dX10_goesOn_40 : decode cX10_goesOn 40 = .ok (.ifCond .eq 72, 3) := by decide +kernel
theorem dX10_goesOn_43 : decode cX10_goesOn 43 = .ok (.aload_n 0, 1) := by decide +kernel
theorem dX10_goesOn_44 : decode cX10_goesOn 44 = .ok (.getfield 13, 3) := by decide +kernel
theorem dX10_goesOn_47 : decode cX10_goesOn 47 = .ok (.aload_n 0, 1) := by decide +kernel
theorem dX10_goesOn_48 : decode cX10_goesOn 48 = .ok (.iload_n 1, 1) := by decide +kernel
theorem dX10_goesOn_49 : decode cX10_goesOn 49 = .ok (.iconst 0, 1) := by decide +kernel
theorem dX10_goesOn_50 : decode cX10_goesOn 50 = .ok (.invokevirtual 73, 3) := by decide +kernel
theorem dX10_goesOn_53 : decode cX10_goesOn 53 = .ok (.laload, 1) := by decide +kernel
theorem dX10_goesOn_54 : decode cX10_goesOn 54 = .ok (.ldc2_w 89, 3) := by decide +kernel
theorem dX10_goesOn_57 : decode cX10_goesOn 57 = .ok (.lcmp, 1) := by decide +kernel
theorem dX10_goesOn_58 : decode cX10_goesOn 58 = .ok (.ifCond .ne 6, 3) := by decide +kernel
theorem dX10_goesOn_61 : decode cX10_goesOn 61 = .ok (.goto 51, 3) := by decide +kernel
theorem dX10_goesOn_64 : decode cX10_goesOn 64 = .ok (.aload_n 0, 1) := by decide +kernel
theorem dX10_goesOn_65 : decode cX10_goesOn 65 = .ok (.getfield 13, 3) := by decide +kernel
theorem dX10_goesOn_68 : decode cX10_goesOn 68 = .ok (.aload_n 0, 1) := by decide +kernel
theorem dX10_goesOn_69 : decode cX10_goesOn 69 = .ok (.iload_n 1, 1) := by decide +kernel
theorem dX10_goesOn_70 : decode cX10_goesOn 70 = .ok (.iconst 0, 1) := by decide +kernel
theorem dX10_goesOn_71 : decode cX10_goesOn 71 = .ok (.invokevirtual 73, 3) := by decide +kernel
theorem dX10_goesOn_74 : decode cX10_goesOn 74 = .ok (.laload, 1) := by decide +kernel
theorem dX10_goesOn_75 : decode cX10_goesOn 75 = .ok (.aload_n 0, 1) := by decide +kernel
theorem dX10_goesOn_76 : decode cX10_goesOn 76 = .ok (.iload_n 1, 1) := by decide +kernel
theorem dX10_goesOn_77 : decode cX10_goesOn 77 = .ok (.iconst 2, 1) := by decide +kernel
theorem dX10_goesOn_78 : decode cX10_goesOn 78 = .ok (.invokevirtual 73, 3) := by decide +kernel
theorem dX10_goesOn_81 : decode cX10_goesOn 81 = .ok (.i2l, 1) := by decide +kernel
theorem dX10_goesOn_82 : decode cX10_goesOn 82 = .ok (.ladd, 1) := by decide +kernel
theorem dX10_goesOn_83 : decode cX10_goesOn 83 = .ok (.lstore_n 2, 1) := by decide +kernel
theorem dX10_goesOn_84 : decode cX10_goesOn 84 = .ok (.lload_n 2, 1) := by decide +kernel
theorem dX10_goesOn_85 : decode cX10_goesOn 85 = .ok (.aload_n 0, 1) := by decide +kernel
theorem dX10_goesOn_86 : decode cX10_goesOn 86 = .ok (.getfield 64, 3) := by decide +kernel
theorem dX10_goesOn_89 : decode cX10_goesOn 89 = .ok (.aload_n 0, 1) := by decide +kernel
theorem dX10_goesOn_90 : decode cX10_goesOn 90 = .ok (.iload_n 1, 1) := by decide +kernel
theorem dX10_goesOn_91 : decode cX10_goesOn 91 = .ok (.iconst 1, 1) := by decide +kernel
theorem dX10_goesOn_92 : decode cX10_goesOn 92 = .ok (.invokevirtual 73, 3) := by decide +kernel
theorem dX10_goesOn_95 : decode cX10_goesOn 95 = .ok (.laload, 1) := by decide +kernel
theorem dX10_goesOn_96 : decode cX10_goesOn 96 = .ok (.lcmp, 1) := by decide +kernel
theorem dX10_goesOn_97 : decode cX10_goesOn 97 = .ok (.ifCond .ge 15, 3) := by decide +kernel
theorem dX10_goesOn_100 : decode cX10_goesOn 100 = .ok (.aload_n 0, 1) := by decide +kernel
theorem dX10_goesOn_101 : decode cX10_goesOn 101 = .ok (.getfield 64, 3) := by decide +kernel
theorem dX10_goesOn_104 : decode cX10_goesOn 104 = .ok (.aload_n 0, 1) := by decide +kernel
theorem dX10_goesOn_105 : decode cX10_goesOn 105 = .ok (.iload_n 1, 1) := by decide +kernel
theorem dX10_goesOn_106 : decode cX10_goesOn 106 = .ok (.iconst 1, 1) := by decide +kernel
theorem dX10_goesOn_107 : decode cX10_goesOn 107 = .ok (.invokevirtual 73, 3) := by decide +kernel
theorem dX10_goesOn_110 : decode cX10_goesOn 110 = .ok (.lload_n 2, 1) := by decide +kernel
theorem dX10_goesOn_111 : decode cX10_goesOn 111 = .ok (.lastore, 1) := by decide +kernel
theorem dX10_goesOn_112 : decode cX10_goesOn 112 = .ok (.iinc 1 1, 3) := by decide +kernel
theorem dX10_goesOn_115 : decode cX10_goesOn 115 = .ok (.goto (-90), 3) := by decide +kernel
theorem dX10_goesOn_118 : decode cX10_goesOn 118 = .ok (.iconst 0, 1) := by decide +kernel
theorem dX10_goesOn_119 : decode cX10_goesOn 119 = .ok (.istore_n 1, 1) := by decide +kernel
theorem dX10_goesOn_120 : decode cX10_goesOn 120 = .ok (.iload_n 1, 1) := by decide +kernel
theorem dX10_goesOn_121 : decode cX10_goesOn 121 = .ok (.bipush 12, 2) := by decide +kernel
theorem dX10_goesOn_123 : decode cX10_goesOn 123 = .ok (.if_icmp .ge 21, 3) := by decide +kernel
theorem dX10_goesOn_126 : decode cX10_goesOn 126 = .ok (.aload_n 0, 1) := by decide +kernel
theorem dX10_goesOn_127 : decode cX10_goesOn 127 = .ok (.getfield 13, 3) := by decide +kernel
theorem dX10_goesOn_130 : decode cX10_goesOn 130 = .ok (.iload_n 1, 1) := by decide +kernel
theorem dX10_goesOn_131 : decode cX10_goesOn 131 = .ok (.aload_n 0, 1) := by decide +kernel
theorem dX10_goesOn_132 : decode cX10_goesOn 132 = .ok (.getfield 64, 3) := by decide +kernel
theorem dX10_goesOn_135 : decode cX10_goesOn 135 = .ok (.iload_n 1, 1) := by decide +kernel
theorem dX10_goesOn_136 : decode cX10_goesOn 136 = .ok (.laload, 1) := by decide +kernel
theorem dX10_goesOn_137 : decode cX10_goesOn 137 = .ok (.lastore, 1) := by decide +kernel
theorem dX10_goesOn_138 : decode cX10_goesOn 138 = .ok (.iinc 1 1, 3) := by decide +kernel
theorem dX10_goesOn_141 : decode cX10_goesOn 141 = .ok (.goto (-21), 3) := by decide +kernel
theorem dX10_goesOn_144 : decode cX10_goesOn 144 = .ok (.return_, 1) := by decide +kernel
theorem dX10_stands_0 : decode cX10_stands 0 = .ok (.iconst 0, 1) := by decide +kernel
theorem dX10_stands_1 : decode cX10_stands 1 = .ok (.istore_n 2, 1) := by decide +kernel
theorem dX10_stands_2 : decode cX10_stands 2 = .ok (.iload_n 2, 1) := by decide +kernel
theorem dX10_stands_3 : decode cX10_stands 3 = .ok (.bipush 12, 2) := by decide +kernel
theorem dX10_stands_5 : decode cX10_stands 5 = .ok (.if_icmp .ge 27, 3) := by decide +kernel
theorem dX10_stands_8 : decode cX10_stands 8 = .ok (.aload_n 0, 1) := by decide +kernel
theorem dX10_stands_9 : decode cX10_stands 9 = .ok (.getfield 13, 3) := by decide +kernel
theorem dX10_stands_12 : decode cX10_stands 12 = .ok (.iload_n 2, 1) := by decide +kernel
theorem dX10_stands_13 : decode cX10_stands 13 = .ok (.iload_n 2, 1) := by decide +kernel
theorem dX10_stands_14 : decode cX10_stands 14 = .ok (.iload_n 1, 1) := by decide +kernel
theorem dX10_stands_15 : decode cX10_stands 15 = .ok (.if_icmp .ne 7, 3) := by decide +kernel
theorem dX10_stands_18 : decode cX10_stands 18 = .ok (.lconst 0, 1) := by decide +kernel
theorem dX10_stands_19 : decode cX10_stands 19 = .ok (.goto 6, 3) := by decide +kernel
theorem dX10_stands_22 : decode cX10_stands 22 = .ok (.ldc2_w 89, 3) := by decide +kernel
theorem dX10_stands_25 : decode cX10_stands 25 = .ok (.lastore, 1) := by decide +kernel
theorem dX10_stands_26 : decode cX10_stands 26 = .ok (.iinc 2 1, 3) := by decide +kernel
theorem dX10_stands_29 : decode cX10_stands 29 = .ok (.goto (-27), 3) := by decide +kernel
theorem dX10_stands_32 : decode cX10_stands 32 = .ok (.return_, 1) := by decide +kernel
theorem dX10_hops_0 : decode cX10_hops 0 = .ok (.aload_n 0, 1) := by decide +kernel
theorem dX10_hops_1 : decode cX10_hops 1 = .ok (.iload_n 1, 1) := by decide +kernel
theorem dX10_hops_2 : decode cX10_hops 2 = .ok (.invokevirtual 121, 3) := by decide +kernel
theorem dX10_hops_5 : decode cX10_hops 5 = .ok (.ifCond .eq 15, 3) := by decide +kernel
theorem dX10_hops_8 : decode cX10_hops 8 = .ok (.iload_n 2, 1) := by decide +kernel
theorem dX10_hops_9 : decode cX10_hops 9 = .ok (.i2l, 1) := by decide +kernel
theorem dX10_hops_10 : decode cX10_hops 10 = .ok (.lconst 0, 1) := by decide +kernel
theorem dX10_hops_11 : decode cX10_hops 11 = .ok (.ldc2_w 395, 3) := by decide +kernel
theorem dX10_hops_14 : decode cX10_hops 14 = .ok (.invokestatic 81, 3) := by decide +kernel
theorem dX10_hops_17 : decode cX10_hops 17 = .ok (.ifCond .ne 7, 3) := by decide +kernel
theorem dX10_hops_20 : decode cX10_hops 20 = .ok (.ldc2_w 99, 3) := by decide +kernel
theorem dX10_hops_23 : decode cX10_hops 23 = .ok (.lreturn, 1) := by decide +kernel
theorem dX10_hops_24 : decode cX10_hops 24 = .ok (.aload_n 0, 1) := by decide +kernel
theorem dX10_hops_25 : decode cX10_hops 25 = .ok (.aload_n 0, 1) := by decide +kernel
theorem dX10_hops_26 : decode cX10_hops 26 = .ok (.getfield 7, 3) := by decide +kernel
theorem dX10_hops_29 : decode cX10_hops 29 = .ok (.iconst 2, 1) := by decide +kernel
theorem dX10_hops_30 : decode cX10_hops 30 = .ok (.iaload, 1) := by decide +kernel
theorem dX10_hops_31 : decode cX10_hops 31 = .ok (.invokevirtual 397, 3) := by decide +kernel
theorem dX10_hops_34 : decode cX10_hops 34 = .ok (.aload_n 0, 1) := by decide +kernel
theorem dX10_hops_35 : decode cX10_hops 35 = .ok (.getfield 13, 3) := by decide +kernel
theorem dX10_hops_38 : decode cX10_hops 38 = .ok (.iload_n 1, 1) := by decide +kernel
theorem dX10_hops_39 : decode cX10_hops 39 = .ok (.laload, 1) := by decide +kernel
theorem dX10_hops_40 : decode cX10_hops 40 = .ok (.lstore_n 3, 1) := by decide +kernel
theorem dX10_hops_41 : decode cX10_hops 41 = .ok (.iconst 0, 1) := by decide +kernel
theorem dX10_hops_42 : decode cX10_hops 42 = .ok (.istore 5, 2) := by decide +kernel
theorem dX10_hops_44 : decode cX10_hops 44 = .ok (.iload 5, 2) := by decide +kernel
theorem dX10_hops_46 : decode cX10_hops 46 = .ok (.iload_n 2, 1) := by decide +kernel
theorem dX10_hops_47 : decode cX10_hops 47 = .ok (.if_icmp .ge 31, 3) := by decide +kernel
theorem dX10_hops_50 : decode cX10_hops 50 = .ok (.aload_n 0, 1) := by decide +kernel
theorem dX10_hops_51 : decode cX10_hops 51 = .ok (.invokevirtual 400, 3) := by decide +kernel
theorem dX10_hops_54 : decode cX10_hops 54 = .ok (.aload_n 0, 1) := by decide +kernel
theorem dX10_hops_55 : decode cX10_hops 55 = .ok (.getfield 13, 3) := by decide +kernel
theorem dX10_hops_58 : decode cX10_hops 58 = .ok (.iload_n 1, 1) := by decide +kernel
theorem dX10_hops_59 : decode cX10_hops 59 = .ok (.laload, 1) := by decide +kernel
theorem dX10_hops_60 : decode cX10_hops 60 = .ok (.lload_n 3, 1) := by decide +kernel
theorem dX10_hops_61 : decode cX10_hops 61 = .ok (.lcmp, 1) := by decide +kernel
theorem dX10_hops_62 : decode cX10_hops 62 = .ok (.ifCond .ge 10, 3) := by decide +kernel
theorem dX10_hops_65 : decode cX10_hops 65 = .ok (.aload_n 0, 1) := by decide +kernel
theorem dX10_hops_66 : decode cX10_hops 66 = .ok (.getfield 13, 3) := by decide +kernel
theorem dX10_hops_69 : decode cX10_hops 69 = .ok (.iload_n 1, 1) := by decide +kernel
theorem dX10_hops_70 : decode cX10_hops 70 = .ok (.laload, 1) := by decide +kernel
theorem dX10_hops_71 : decode cX10_hops 71 = .ok (.lstore_n 3, 1) := by decide +kernel
theorem dX10_hops_72 : decode cX10_hops 72 = .ok (.iinc 5 1, 3) := by decide +kernel
theorem dX10_hops_75 : decode cX10_hops 75 = .ok (.goto (-31), 3) := by decide +kernel
theorem dX10_hops_78 : decode cX10_hops 78 = .ok (.lload_n 3, 1) := by decide +kernel
theorem dX10_hops_79 : decode cX10_hops 79 = .ok (.invokestatic 336, 3) := by decide +kernel
theorem dX10_hops_82 : decode cX10_hops 82 = .ok (.lreturn, 1) := by decide +kernel
theorem dX10_common_0 : decode cX10_common 0 = .ok (.lload_n 0, 1) := by decide +kernel
theorem dX10_common_1 : decode cX10_common 1 = .ok (.lstore 4, 2) := by decide +kernel
theorem dX10_common_3 : decode cX10_common 3 = .ok (.lload_n 2, 1) := by decide +kernel
theorem dX10_common_4 : decode cX10_common 4 = .ok (.lstore 6, 2) := by decide +kernel
theorem dX10_common_6 : decode cX10_common 6 = .ok (.lload 6, 2) := by decide +kernel
theorem dX10_common_8 : decode cX10_common 8 = .ok (.lconst 0, 1) := by decide +kernel
theorem dX10_common_9 : decode cX10_common 9 = .ok (.lcmp, 1) := by decide +kernel
theorem dX10_common_10 : decode cX10_common 10 = .ok (.ifCond .eq 21, 3) := by decide +kernel
theorem dX10_common_13 : decode cX10_common 13 = .ok (.lload 4, 2) := by decide +kernel
theorem dX10_common_15 : decode cX10_common 15 = .ok (.lload 6, 2) := by decide +kernel
theorem dX10_common_17 : decode cX10_common 17 = .ok (.lrem, 1) := by decide +kernel
theorem dX10_common_18 : decode cX10_common 18 = .ok (.lstore 8, 2) := by decide +kernel
theorem dX10_common_20 : decode cX10_common 20 = .ok (.lload 6, 2) := by decide +kernel
theorem dX10_common_22 : decode cX10_common 22 = .ok (.lstore 4, 2) := by decide +kernel
theorem dX10_common_24 : decode cX10_common 24 = .ok (.lload 8, 2) := by decide +kernel
theorem dX10_common_26 : decode cX10_common 26 = .ok (.lstore 6, 2) := by decide +kernel
theorem dX10_common_28 : decode cX10_common 28 = .ok (.goto (-22), 3) := by decide +kernel
theorem dX10_common_31 : decode cX10_common 31 = .ok (.lload 4, 2) := by decide +kernel
theorem dX10_common_33 : decode cX10_common 33 = .ok (.lreturn, 1) := by decide +kernel
theorem dX10_mean_0 : decode cX10_mean 0 = .ok (.iload_n 1, 1) := by decide +kernel
theorem dX10_mean_1 : decode cX10_mean 1 = .ok (.i2l, 1) := by decide +kernel
theorem dX10_mean_2 : decode cX10_mean 2 = .ok (.lconst 0, 1) := by decide +kernel
theorem dX10_mean_3 : decode cX10_mean 3 = .ok (.lconst 1, 1) := by decide +kernel
theorem dX10_mean_4 : decode cX10_mean 4 = .ok (.invokestatic 81, 3) := by decide +kernel
theorem dX10_mean_7 : decode cX10_mean 7 = .ok (.ifCond .ne 7, 3) := by decide +kernel
theorem dX10_mean_10 : decode cX10_mean 10 = .ok (.ldc2_w 99, 3) := by decide +kernel
theorem dX10_mean_13 : decode cX10_mean 13 = .ok (.lreturn, 1) := by decide +kernel
theorem dX10_mean_14 : decode cX10_mean 14 = .ok (.ldc2_w 89, 3) := by decide +kernel
theorem dX10_mean_17 : decode cX10_mean 17 = .ok (.lstore_n 2, 1) := by decide +kernel
theorem dX10_mean_18 : decode cX10_mean 18 = .ok (.lconst 1, 1) := by decide +kernel
theorem dX10_mean_19 : decode cX10_mean 19 = .ok (.lstore 4, 2) := by decide +kernel
theorem dX10_mean_21 : decode cX10_mean 21 = .ok (.iconst 0, 1) := by decide +kernel
theorem dX10_mean_22 : decode cX10_mean 22 = .ok (.istore 6, 2) := by decide +kernel
theorem dX10_mean_24 : decode cX10_mean 24 = .ok (.iload 6, 2) := by decide +kernel
theorem dX10_mean_26 : decode cX10_mean 26 = .ok (.aload_n 0, 1) := by decide +kernel
theorem dX10_mean_27 : decode cX10_mean 27 = .ok (.invokevirtual 77, 3) := by decide +kernel
theorem dX10_mean_30 : decode cX10_mean 30 = .ok (.if_icmp .ge 94, 3) := by decide +kernel
theorem dX10_mean_33 : decode cX10_mean 33 = .ok (.aload_n 0, 1) := by decide +kernel
theorem dX10_mean_34 : decode cX10_mean 34 = .ok (.iload 6, 2) := by decide +kernel
theorem dX10_mean_36 : decode cX10_mean 36 = .ok (.invokevirtual 397, 3) := by decide +kernel
theorem dX10_mean_39 : decode cX10_mean 39 = .ok (.iconst 1, 1) := by decide +kernel
theorem dX10_mean_40 : decode cX10_mean 40 = .ok (.istore 7, 2) := by decide +kernel
theorem dX10_mean_42 : decode cX10_mean 42 = .ok (.iload 7, 2) := by decide +kernel
theorem dX10_mean_44 : decode cX10_mean 44 = .ok (.aload_n 0, 1) := by decide +kernel
theorem dX10_mean_45 : decode cX10_mean 45 = .ok (.invokevirtual 77, 3) := by decide +kernel
theorem dX10_mean_48 : decode cX10_mean 48 = .ok (.if_icmp .gt 70, 3) := by decide +kernel
theorem dX10_mean_51 : decode cX10_mean 51 = .ok (.aload_n 0, 1) := by decide +kernel
theorem dX10_mean_52 : decode cX10_mean 52 = .ok (.invokevirtual 400, 3) := by decide +kernel
theorem dX10_mean_55 : decode cX10_mean 55 = .ok (.aload_n 0, 1) := by decide +kernel
theorem dX10_mean_56 : decode cX10_mean 56 = .ok (.getfield 13, 3) := by decide +kernel
theorem dX10_mean_59 : decode cX10_mean 59 = .ok (.iload 6, 2) := by decide +kernel
theorem dX10_mean_61 : decode cX10_mean 61 = .ok (.laload, 1) := by decide +kernel
theorem dX10_mean_62 : decode cX10_mean 62 = .ok (.ldc2_w 89, 3) := by decide +kernel
theorem dX10_mean_65 : decode cX10_mean 65 = .ok (.lcmp, 1) := by decide +kernel
theorem dX10_mean_66 : decode cX10_mean 66 = .ok (.ifCond .eq 46, 3) := by decide +kernel
theorem dX10_mean_69 : decode cX10_mean 69 = .ok (.lload_n 2, 1) := by decide +kernel
theorem dX10_mean_70 : decode cX10_mean 70 = .ok (.ldc2_w 89, 3) := by decide +kernel
theorem dX10_mean_73 : decode cX10_mean 73 = .ok (.lcmp, 1) := by decide +kernel
theorem dX10_mean_74 : decode cX10_mean 74 = .ok (.ifCond .eq 25, 3) := by decide +kernel
theorem dX10_mean_77 : decode cX10_mean 77 = .ok (.aload_n 0, 1) := by decide +kernel
theorem dX10_mean_78 : decode cX10_mean 78 = .ok (.getfield 13, 3) := by decide +kernel
theorem dX10_mean_81 : decode cX10_mean 81 = .ok (.iload 6, 2) := by decide +kernel
theorem dX10_mean_83 : decode cX10_mean 83 = .ok (.laload, 1) := by decide +kernel
theorem dX10_mean_84 : decode cX10_mean 84 = .ok (.lload 4, 2) := by decide +kernel
theorem dX10_mean_86 : decode cX10_mean 86 = .ok (.lmul, 1) := by decide +kernel
theorem dX10_mean_87 : decode cX10_mean 87 = .ok (.lload_n 2, 1) := by decide +kernel
theorem dX10_mean_88 : decode cX10_mean 88 = .ok (.iload 7, 2) := by decide +kernel
theorem dX10_mean_90 : decode cX10_mean 90 = .ok (.i2l, 1) := by decide +kernel
theorem dX10_mean_91 : decode cX10_mean 91 = .ok (.lmul, 1) := by decide +kernel
theorem dX10_mean_92 : decode cX10_mean 92 = .ok (.lcmp, 1) := by decide +kernel
theorem dX10_mean_93 : decode cX10_mean 93 = .ok (.ifCond .lt 6, 3) := by decide +kernel
theorem dX10_mean_96 : decode cX10_mean 96 = .ok (.goto 16, 3) := by decide +kernel
theorem dX10_mean_99 : decode cX10_mean 99 = .ok (.aload_n 0, 1) := by decide +kernel
theorem dX10_mean_100 : decode cX10_mean 100 = .ok (.getfield 13, 3) := by decide +kernel
theorem dX10_mean_103 : decode cX10_mean 103 = .ok (.iload 6, 2) := by decide +kernel
theorem dX10_mean_105 : decode cX10_mean 105 = .ok (.laload, 1) := by decide +kernel
theorem dX10_mean_106 : decode cX10_mean 106 = .ok (.lstore_n 2, 1) := by decide +kernel
theorem dX10_mean_107 : decode cX10_mean 107 = .ok (.iload 7, 2) := by decide +kernel
theorem dX10_mean_109 : decode cX10_mean 109 = .ok (.i2l, 1) := by decide +kernel
theorem dX10_mean_110 : decode cX10_mean 110 = .ok (.lstore 4, 2) := by decide +kernel
theorem dX10_mean_112 : decode cX10_mean 112 = .ok (.iinc 7 1, 3) := by decide +kernel
theorem dX10_mean_115 : decode cX10_mean 115 = .ok (.goto (-73), 3) := by decide +kernel
theorem dX10_mean_118 : decode cX10_mean 118 = .ok (.iinc 6 1, 3) := by decide +kernel
theorem dX10_mean_121 : decode cX10_mean 121 = .ok (.goto (-97), 3) := by decide +kernel
theorem dX10_mean_124 : decode cX10_mean 124 = .ok (.lload_n 2, 1) := by decide +kernel
theorem dX10_mean_125 : decode cX10_mean 125 = .ok (.ldc2_w 89, 3) := by decide +kernel
theorem dX10_mean_128 : decode cX10_mean 128 = .ok (.lcmp, 1) := by decide +kernel
theorem dX10_mean_129 : decode cX10_mean 129 = .ok (.ifCond .ne 7, 3) := by decide +kernel
theorem dX10_mean_132 : decode cX10_mean 132 = .ok (.ldc2_w 99, 3) := by decide +kernel
theorem dX10_mean_135 : decode cX10_mean 135 = .ok (.lreturn, 1) := by decide +kernel
theorem dX10_mean_136 : decode cX10_mean 136 = .ok (.lload_n 2, 1) := by decide +kernel
theorem dX10_mean_137 : decode cX10_mean 137 = .ok (.lload 4, 2) := by decide +kernel
theorem dX10_mean_139 : decode cX10_mean 139 = .ok (.invokestatic 403, 3) := by decide +kernel
theorem dX10_mean_142 : decode cX10_mean 142 = .ok (.lstore 6, 2) := by decide +kernel
theorem dX10_mean_144 : decode cX10_mean 144 = .ok (.iload_n 1, 1) := by decide +kernel
theorem dX10_mean_145 : decode cX10_mean 145 = .ok (.ifCond .ne 10, 3) := by decide +kernel
theorem dX10_mean_148 : decode cX10_mean 148 = .ok (.lload_n 2, 1) := by decide +kernel
theorem dX10_mean_149 : decode cX10_mean 149 = .ok (.lload 6, 2) := by decide +kernel
theorem dX10_mean_151 : decode cX10_mean 151 = .ok (.ldiv, 1) := by decide +kernel
theorem dX10_mean_152 : decode cX10_mean 152 = .ok (.goto 8, 3) := by decide +kernel
theorem dX10_mean_155 : decode cX10_mean 155 = .ok (.lload 4, 2) := by decide +kernel
theorem dX10_mean_157 : decode cX10_mean 157 = .ok (.lload 6, 2) := by decide +kernel
theorem dX10_mean_159 : decode cX10_mean 159 = .ok (.ldiv, 1) := by decide +kernel
theorem dX10_mean_160 : decode cX10_mean 160 = .ok (.lreturn, 1) := by decide +kernel
theorem dX10_roundLong_0 : decode cX10_roundLong 0 = .ok (.lconst 0, 1) := by decide +kernel
theorem dX10_roundLong_1 : decode cX10_roundLong 1 = .ok (.lstore_n 1, 1) := by decide +kernel
theorem dX10_roundLong_2 : decode cX10_roundLong 2 = .ok (.aload_n 0, 1) := by decide +kernel
theorem dX10_roundLong_3 : decode cX10_roundLong 3 = .ok (.getfield 7, 3) := by decide +kernel
theorem dX10_roundLong_6 : decode cX10_roundLong 6 = .ok (.iconst 2, 1) := by decide +kernel
theorem dX10_roundLong_7 : decode cX10_roundLong 7 = .ok (.iaload, 1) := by decide +kernel
theorem dX10_roundLong_8 : decode cX10_roundLong 8 = .ok (.istore_n 3, 1) := by decide +kernel
theorem dX10_roundLong_9 : decode cX10_roundLong 9 = .ok (.iconst 0, 1) := by decide +kernel
theorem dX10_roundLong_10 : decode cX10_roundLong 10 = .ok (.istore 4, 2) := by decide +kernel
theorem dX10_roundLong_12 : decode cX10_roundLong 12 = .ok (.iload 4, 2) := by decide +kernel
theorem dX10_roundLong_14 : decode cX10_roundLong 14 = .ok (.aload_n 0, 1) := by decide +kernel
theorem dX10_roundLong_15 : decode cX10_roundLong 15 = .ok (.getfield 407, 3) := by decide +kernel
theorem dX10_roundLong_18 : decode cX10_roundLong 18 = .ok (.if_icmp .ge 65, 3) := by decide +kernel
theorem dX10_roundLong_21 : decode cX10_roundLong 21 = .ok (.aload_n 0, 1) := by decide +kernel
theorem dX10_roundLong_22 : decode cX10_roundLong 22 = .ok (.getfield 54, 3) := by decide +kernel
theorem dX10_roundLong_25 : decode cX10_roundLong 25 = .ok (.bipush 12, 2) := by decide +kernel
theorem dX10_roundLong_27 : decode cX10_roundLong 27 = .ok (.iload_n 3, 1) := by decide +kernel
theorem dX10_roundLong_28 : decode cX10_roundLong 28 = .ok (.imul, 1) := by decide +kernel
theorem dX10_roundLong_29 : decode cX10_roundLong 29 = .ok (.aload_n 0, 1) := by decide +kernel
theorem dX10_roundLong_30 : decode cX10_roundLong 30 = .ok (.getfield 67, 3) := by decide +kernel
theorem dX10_roundLong_33 : decode cX10_roundLong 33 = .ok (.iload 4, 2) := by decide +kernel
theorem dX10_roundLong_35 : decode cX10_roundLong 35 = .ok (.iaload, 1) := by decide +kernel
theorem dX10_roundLong_36 : decode cX10_roundLong 36 = .ok (.iadd, 1) := by decide +kernel
theorem dX10_roundLong_37 : decode cX10_roundLong 37 = .ok (.laload, 1) := by decide +kernel
theorem dX10_roundLong_38 : decode cX10_roundLong 38 = .ok (.ldc2_w 89, 3) := by decide +kernel
theorem dX10_roundLong_41 : decode cX10_roundLong 41 = .ok (.lcmp, 1) := by decide +kernel
theorem dX10_roundLong_42 : decode cX10_roundLong 42 = .ok (.ifCond .ne 7, 3) := by decide +kernel
theorem dX10_roundLong_45 : decode cX10_roundLong 45 = .ok (.ldc2_w 89, 3) := by decide +kernel
theorem dX10_roundLong_48 : decode cX10_roundLong 48 = .ok (.lreturn, 1) := by decide +kernel
theorem dX10_roundLong_49 : decode cX10_roundLong 49 = .ok (.lload_n 1, 1) := by decide +kernel
theorem dX10_roundLong_50 : decode cX10_roundLong 50 = .ok (.aload_n 0, 1) := by decide +kernel
theorem dX10_roundLong_51 : decode cX10_roundLong 51 = .ok (.getfield 54, 3) := by decide +kernel
theorem dX10_roundLong_54 : decode cX10_roundLong 54 = .ok (.bipush 12, 2) := by decide +kernel
theorem dX10_roundLong_56 : decode cX10_roundLong 56 = .ok (.iload_n 3, 1) := by decide +kernel
theorem dX10_roundLong_57 : decode cX10_roundLong 57 = .ok (.imul, 1) := by decide +kernel
theorem dX10_roundLong_58 : decode cX10_roundLong 58 = .ok (.aload_n 0, 1) := by decide +kernel
theorem dX10_roundLong_59 : decode cX10_roundLong 59 = .ok (.getfield 67, 3) := by decide +kernel
theorem dX10_roundLong_62 : decode cX10_roundLong 62 = .ok (.iload 4, 2) := by decide +kernel
theorem dX10_roundLong_64 : decode cX10_roundLong 64 = .ok (.iaload, 1) := by decide +kernel
theorem dX10_roundLong_65 : decode cX10_roundLong 65 = .ok (.iadd, 1) := by decide +kernel
theorem dX10_roundLong_66 : decode cX10_roundLong 66 = .ok (.laload, 1) := by decide +kernel
theorem dX10_roundLong_67 : decode cX10_roundLong 67 = .ok (.ladd, 1) := by decide +kernel
theorem dX10_roundLong_68 : decode cX10_roundLong 68 = .ok (.lstore_n 1, 1) := by decide +kernel
theorem dX10_roundLong_69 : decode cX10_roundLong 69 = .ok (.aload_n 0, 1) := by decide +kernel
theorem dX10_roundLong_70 : decode cX10_roundLong 70 = .ok (.getfield 67, 3) := by decide +kernel
theorem dX10_roundLong_73 : decode cX10_roundLong 73 = .ok (.iload 4, 2) := by decide +kernel
theorem dX10_roundLong_75 : decode cX10_roundLong 75 = .ok (.iaload, 1) := by decide +kernel
theorem dX10_roundLong_76 : decode cX10_roundLong 76 = .ok (.istore_n 3, 1) := by decide +kernel
theorem dX10_roundLong_77 : decode cX10_roundLong 77 = .ok (.iinc 4 1, 3) := by decide +kernel
theorem dX10_roundLong_80 : decode cX10_roundLong 80 = .ok (.goto (-68), 3) := by decide +kernel
theorem dX10_roundLong_83 : decode cX10_roundLong 83 = .ok (.aload_n 0, 1) := by decide +kernel
theorem dX10_roundLong_84 : decode cX10_roundLong 84 = .ok (.getfield 54, 3) := by decide +kernel
theorem dX10_roundLong_87 : decode cX10_roundLong 87 = .ok (.bipush 12, 2) := by decide +kernel
theorem dX10_roundLong_89 : decode cX10_roundLong 89 = .ok (.iload_n 3, 1) := by decide +kernel
theorem dX10_roundLong_90 : decode cX10_roundLong 90 = .ok (.imul, 1) := by decide +kernel
theorem dX10_roundLong_91 : decode cX10_roundLong 91 = .ok (.aload_n 0, 1) := by decide +kernel
theorem dX10_roundLong_92 : decode cX10_roundLong 92 = .ok (.getfield 7, 3) := by decide +kernel
theorem dX10_roundLong_95 : decode cX10_roundLong 95 = .ok (.iconst 2, 1) := by decide +kernel
theorem dX10_roundLong_96 : decode cX10_roundLong 96 = .ok (.iaload, 1) := by decide +kernel
theorem dX10_roundLong_97 : decode cX10_roundLong 97 = .ok (.iadd, 1) := by decide +kernel
theorem dX10_roundLong_98 : decode cX10_roundLong 98 = .ok (.laload, 1) := by decide +kernel
theorem dX10_roundLong_99 : decode cX10_roundLong 99 = .ok (.ldc2_w 89, 3) := by decide +kernel
theorem dX10_roundLong_102 : decode cX10_roundLong 102 = .ok (.lcmp, 1) := by decide +kernel
theorem dX10_roundLong_103 : decode cX10_roundLong 103 = .ok (.ifCond .ne 9, 3) := by decide +kernel
theorem dX10_roundLong_106 : decode cX10_roundLong 106 = .ok (.ldc2_w 89, 3) := by decide +kernel
theorem dX10_roundLong_109 : decode cX10_roundLong 109 = .ok (.goto 21, 3) := by decide +kernel
theorem dX10_roundLong_112 : decode cX10_roundLong 112 = .ok (.lload_n 1, 1) := by decide +kernel
theorem dX10_roundLong_113 : decode cX10_roundLong 113 = .ok (.aload_n 0, 1) := by decide +kernel
theorem dX10_roundLong_114 : decode cX10_roundLong 114 = .ok (.getfield 54, 3) := by decide +kernel
theorem dX10_roundLong_117 : decode cX10_roundLong 117 = .ok (.bipush 12, 2) := by decide +kernel
theorem dX10_roundLong_119 : decode cX10_roundLong 119 = .ok (.iload_n 3, 1) := by decide +kernel
theorem dX10_roundLong_120 : decode cX10_roundLong 120 = .ok (.imul, 1) := by decide +kernel
theorem dX10_roundLong_121 : decode cX10_roundLong 121 = .ok (.aload_n 0, 1) := by decide +kernel
theorem dX10_roundLong_122 : decode cX10_roundLong 122 = .ok (.getfield 7, 3) := by decide +kernel
theorem dX10_roundLong_125 : decode cX10_roundLong 125 = .ok (.iconst 2, 1) := by decide +kernel
theorem dX10_roundLong_126 : decode cX10_roundLong 126 = .ok (.iaload, 1) := by decide +kernel
theorem dX10_roundLong_127 : decode cX10_roundLong 127 = .ok (.iadd, 1) := by decide +kernel
theorem dX10_roundLong_128 : decode cX10_roundLong 128 = .ok (.laload, 1) := by decide +kernel
theorem dX10_roundLong_129 : decode cX10_roundLong 129 = .ok (.ladd, 1) := by decide +kernel
theorem dX10_roundLong_130 : decode cX10_roundLong 130 = .ok (.lreturn, 1) := by decide +kernel
theorem dX10_changesPlaces_0 : decode cX10_changesPlaces 0 = .ok (.aload_n 0, 1) := by decide +kernel
theorem dX10_changesPlaces_1 : decode cX10_changesPlaces 1 = .ok (.getfield 67, 3) := by decide +kernel
