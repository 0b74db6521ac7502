/-! The reference: its instructions. -/
theorem dX10_readsOrder_204 : decode cX10_readsOrder 204 = .ok (.ldc2_w 85, 3) := by decide +kernel
theorem dX10_readsOrder_207 : decode cX10_readsOrder 207 = .ok (.ldc2_w 87, 3) := by decide +kernel
theorem dX10_readsOrder_210 : decode cX10_readsOrder 210 = .ok (.invokevirtual 208, 3) := by decide +kernel
theorem dX10_readsOrder_213 : decode cX10_readsOrder 213 = .ok (.ifCond .eq 15, 3) := by decide +kernel
theorem dX10_readsOrder_216 : decode cX10_readsOrder 216 = .ok (.aload_n 0, 1) := by decide +kernel
theorem dX10_readsOrder_217 : decode cX10_readsOrder 217 = .ok (.iconst 1, 1) := by decide +kernel
theorem dX10_readsOrder_218 : decode cX10_readsOrder 218 = .ok (.invokevirtual 212, 3) := by decide +kernel
theorem dX10_readsOrder_221 : decode cX10_readsOrder 221 = .ok (.ifCond .eq 7, 3) := by decide +kernel
theorem dX10_readsOrder_224 : decode cX10_readsOrder 224 = .ok (.iconst 1, 1) := by decide +kernel
theorem dX10_readsOrder_225 : decode cX10_readsOrder 225 = .ok (.goto 4, 3) := by decide +kernel
theorem dX10_readsOrder_228 : decode cX10_readsOrder 228 = .ok (.iconst 0, 1) := by decide +kernel
theorem dX10_readsOrder_229 : decode cX10_readsOrder 229 = .ok (.ireturn, 1) := by decide +kernel
theorem dX10_readsOrder_230 : decode cX10_readsOrder 230 = .ok (.aload_n 0, 1) := by decide +kernel
theorem dX10_readsOrder_231 : decode cX10_readsOrder 231 = .ok (.iconst 1, 1) := by decide +kernel
theorem dX10_readsOrder_232 : decode cX10_readsOrder 232 = .ok (.aload_n 0, 1) := by decide +kernel
theorem dX10_readsOrder_233 : decode cX10_readsOrder 233 = .ok (.getfield 175, 3) := by decide +kernel
theorem dX10_readsOrder_236 : decode cX10_readsOrder 236 = .ok (.invokevirtual 171, 3) := by decide +kernel
theorem dX10_readsOrder_239 : decode cX10_readsOrder 239 = .ok (.ireturn, 1) := by decide +kernel
theorem dX10_readsClause_0 : decode cX10_readsClause 0 = .ok (.aload_n 0, 1) := by decide +kernel
theorem dX10_readsClause_1 : decode cX10_readsClause 1 = .ok (.getfield 205, 3) := by decide +kernel
theorem dX10_readsClause_4 : decode cX10_readsClause 4 = .ok (.bipush 24, 2) := by decide +kernel
theorem dX10_readsClause_6 : decode cX10_readsClause 6 = .ok (.if_icmp .ne 13, 3) := by decide +kernel
theorem dX10_readsClause_9 : decode cX10_readsClause 9 = .ok (.aload_n 0, 1) := by decide +kernel
theorem dX10_readsClause_10 : decode cX10_readsClause 10 = .ok (.iconst 4, 1) := by decide +kernel
theorem dX10_readsClause_11 : decode cX10_readsClause 11 = .ok (.aload_n 0, 1) := by decide +kernel
theorem dX10_readsClause_12 : decode cX10_readsClause 12 = .ok (.getfield 159, 3) := by decide +kernel
theorem dX10_readsClause_15 : decode cX10_readsClause 15 = .ok (.invokevirtual 171, 3) := by decide +kernel
theorem dX10_readsClause_18 : decode cX10_readsClause 18 = .ok (.ireturn, 1) := by decide +kernel
theorem dX10_readsClause_19 : decode cX10_readsClause 19 = .ok (.iload_n 1, 1) := by decide +kernel
theorem dX10_readsClause_20 : decode cX10_readsClause 20 = .ok (.ifCond .eq 13, 3) := by decide +kernel
theorem dX10_readsClause_23 : decode cX10_readsClause 23 = .ok (.aload_n 0, 1) := by decide +kernel
theorem dX10_readsClause_24 : decode cX10_readsClause 24 = .ok (.invokevirtual 248, 3) := by decide +kernel
theorem dX10_readsClause_27 : decode cX10_readsClause 27 = .ok (.ifCond .eq 13, 3) := by decide +kernel
theorem dX10_readsClause_30 : decode cX10_readsClause 30 = .ok (.goto 12, 3) := by decide +kernel
theorem dX10_readsClause_33 : decode cX10_readsClause 33 = .ok (.aload_n 0, 1) := by decide +kernel
theorem dX10_readsClause_34 : decode cX10_readsClause 34 = .ok (.invokevirtual 251, 3) := by decide +kernel
theorem dX10_readsClause_37 : decode cX10_readsClause 37 = .ok (.ifCond .ne 5, 3) := by decide +kernel
theorem dX10_readsClause_40 : decode cX10_readsClause 40 = .ok (.iconst 0, 1) := by decide +kernel
theorem dX10_readsClause_41 : decode cX10_readsClause 41 = .ok (.ireturn, 1) := by decide +kernel
theorem dX10_readsClause_42 : decode cX10_readsClause 42 = .ok (.aload_n 0, 1) := by decide +kernel
theorem dX10_readsClause_43 : decode cX10_readsClause 43 = .ok (.aload_n 0, 1) := by decide +kernel
theorem dX10_readsClause_44 : decode cX10_readsClause 44 = .ok (.getfield 205, 3) := by decide +kernel
theorem dX10_readsClause_47 : decode cX10_readsClause 47 = .ok (.iconst 1, 1) := by decide +kernel
theorem dX10_readsClause_48 : decode cX10_readsClause 48 = .ok (.iadd, 1) := by decide +kernel
theorem dX10_readsClause_49 : decode cX10_readsClause 49 = .ok (.putfield 205, 3) := by decide +kernel
theorem dX10_readsClause_52 : decode cX10_readsClause 52 = .ok (.iconst 1, 1) := by decide +kernel
theorem dX10_readsClause_53 : decode cX10_readsClause 53 = .ok (.ireturn, 1) := by decide +kernel
theorem dX10_readsText_0 : decode cX10_readsText 0 = .ok (.aload_n 0, 1) := by decide +kernel
theorem dX10_readsText_1 : decode cX10_readsText 1 = .ok (.iconst 0, 1) := by decide +kernel
theorem dX10_readsText_2 : decode cX10_readsText 2 = .ok (.putfield 159, 3) := by decide +kernel
theorem dX10_readsText_5 : decode cX10_readsText 5 = .ok (.aload_n 0, 1) := by decide +kernel
theorem dX10_readsText_6 : decode cX10_readsText 6 = .ok (.iload_n 1, 1) := by decide +kernel
theorem dX10_readsText_7 : decode cX10_readsText 7 = .ok (.putfield 162, 3) := by decide +kernel
theorem dX10_readsText_10 : decode cX10_readsText 10 = .ok (.aload_n 0, 1) := by decide +kernel
theorem dX10_readsText_11 : decode cX10_readsText 11 = .ok (.iconst 0, 1) := by decide +kernel
theorem dX10_readsText_12 : decode cX10_readsText 12 = .ok (.putfield 152, 3) := by decide +kernel
theorem dX10_readsText_15 : decode cX10_readsText 15 = .ok (.aload_n 0, 1) := by decide +kernel
theorem dX10_readsText_16 : decode cX10_readsText 16 = .ok (.iconst 0, 1) := by decide +kernel
theorem dX10_readsText_17 : decode cX10_readsText 17 = .ok (.putfield 205, 3) := by decide +kernel
theorem dX10_readsText_20 : decode cX10_readsText 20 = .ok (.aload_n 0, 1) := by decide +kernel
theorem dX10_readsText_21 : decode cX10_readsText 21 = .ok (.iconst 2, 1) := by decide +kernel
theorem dX10_readsText_22 : decode cX10_readsText 22 = .ok (.putfield 224, 3) := by decide +kernel
theorem dX10_readsText_25 : decode cX10_readsText 25 = .ok (.aload_n 0, 1) := by decide +kernel
theorem dX10_readsText_26 : decode cX10_readsText 26 = .ok (.iload_n 2, 1) := by decide +kernel
theorem dX10_readsText_27 : decode cX10_readsText 27 = .ok (.invokevirtual 254, 3) := by decide +kernel
theorem dX10_readsText_30 : decode cX10_readsText 30 = .ok (.istore_n 3, 1) := by decide +kernel
theorem dX10_readsText_31 : decode cX10_readsText 31 = .ok (.iload_n 3, 1) := by decide +kernel
theorem dX10_readsText_32 : decode cX10_readsText 32 = .ok (.ifCond .eq 40, 3) := by decide +kernel
theorem dX10_readsText_35 : decode cX10_readsText 35 = .ok (.aload_n 0, 1) := by decide +kernel
theorem dX10_readsText_36 : decode cX10_readsText 36 = .ok (.getfield 159, 3) := by decide +kernel
theorem dX10_readsText_39 : decode cX10_readsText 39 = .ok (.aload_n 0, 1) := by decide +kernel
theorem dX10_readsText_40 : decode cX10_readsText 40 = .ok (.getfield 162, 3) := by decide +kernel
theorem dX10_readsText_43 : decode cX10_readsText 43 = .ok (.if_icmp .ge 29, 3) := by decide +kernel
theorem dX10_readsText_46 : decode cX10_readsText 46 = .ok (.aload_n 0, 1) := by decide +kernel
theorem dX10_readsText_47 : decode cX10_readsText 47 = .ok (.bipush 59, 2) := by decide +kernel
theorem dX10_readsText_49 : decode cX10_readsText 49 = .ok (.invokevirtual 190, 3) := by decide +kernel
theorem dX10_readsText_52 : decode cX10_readsText 52 = .ok (.ifCond .eq 15, 3) := by decide +kernel
theorem dX10_readsText_55 : decode cX10_readsText 55 = .ok (.aload_n 0, 1) := by decide +kernel
theorem dX10_readsText_56 : decode cX10_readsText 56 = .ok (.iload_n 2, 1) := by decide +kernel
theorem dX10_readsText_57 : decode cX10_readsText 57 = .ok (.invokevirtual 254, 3) := by decide +kernel
theorem dX10_readsText_60 : decode cX10_readsText 60 = .ok (.ifCond .eq 7, 3) := by decide +kernel
theorem dX10_readsText_63 : decode cX10_readsText 63 = .ok (.iconst 1, 1) := by decide +kernel
theorem dX10_readsText_64 : decode cX10_readsText 64 = .ok (.goto 4, 3) := by decide +kernel
theorem dX10_readsText_67 : decode cX10_readsText 67 = .ok (.iconst 0, 1) := by decide +kernel
theorem dX10_readsText_68 : decode cX10_readsText 68 = .ok (.istore_n 3, 1) := by decide +kernel
theorem dX10_readsText_69 : decode cX10_readsText 69 = .ok (.goto (-38), 3) := by decide +kernel
theorem dX10_readsText_72 : decode cX10_readsText 72 = .ok (.iload_n 3, 1) := by decide +kernel
theorem dX10_readsText_73 : decode cX10_readsText 73 = .ok (.ireturn, 1) := by decide +kernel
theorem dX10_isText_0 : decode cX10_isText 0 = .ok (.iload_n 1, 1) := by decide +kernel
theorem dX10_isText_1 : decode cX10_isText 1 = .ok (.i2l, 1) := by decide +kernel
theorem dX10_isText_2 : decode cX10_isText 2 = .ok (.lconst 1, 1) := by decide +kernel
theorem dX10_isText_3 : decode cX10_isText 3 = .ok (.ldc2_w 258, 3) := by decide +kernel
theorem dX10_isText_6 : decode cX10_isText 6 = .ok (.invokestatic 81, 3) := by decide +kernel
theorem dX10_isText_9 : decode cX10_isText 9 = .ok (.ifCond .eq 15, 3) := by decide +kernel
theorem dX10_isText_12 : decode cX10_isText 12 = .ok (.iload_n 1, 1) := by decide +kernel
theorem dX10_isText_13 : decode cX10_isText 13 = .ok (.aload_n 0, 1) := by decide +kernel
theorem dX10_isText_14 : decode cX10_isText 14 = .ok (.getfield 152, 3) := by decide +kernel
theorem dX10_isText_17 : decode cX10_isText 17 = .ok (.if_icmp .gt 7, 3) := by decide +kernel
theorem dX10_isText_20 : decode cX10_isText 20 = .ok (.iconst 1, 1) := by decide +kernel
theorem dX10_isText_21 : decode cX10_isText 21 = .ok (.goto 4, 3) := by decide +kernel
theorem dX10_isText_24 : decode cX10_isText 24 = .ok (.iconst 0, 1) := by decide +kernel
theorem dX10_isText_25 : decode cX10_isText 25 = .ok (.ireturn, 1) := by decide +kernel
theorem dX10_empties_0 : decode cX10_empties 0 = .ok (.aload_n 0, 1) := by decide +kernel
theorem dX10_empties_1 : decode cX10_empties 1 = .ok (.getfield 7, 3) := by decide +kernel
theorem dX10_empties_4 : decode cX10_empties 4 = .ok (.iconst 5, 1) := by decide +kernel
theorem dX10_empties_5 : decode cX10_empties 5 = .ok (.iaload, 1) := by decide +kernel
theorem dX10_empties_6 : decode cX10_empties 6 = .ok (.istore_n 1, 1) := by decide +kernel
theorem dX10_empties_7 : decode cX10_empties 7 = .ok (.iconst 0, 1) := by decide +kernel
theorem dX10_empties_8 : decode cX10_empties 8 = .ok (.istore_n 2, 1) := by decide +kernel
theorem dX10_empties_9 : decode cX10_empties 9 = .ok (.iload_n 2, 1) := by decide +kernel
theorem dX10_empties_10 : decode cX10_empties 10 = .ok (.sipush 708, 3) := by decide +kernel
theorem dX10_empties_13 : decode cX10_empties 13 = .ok (.if_icmp .ge 16, 3) := by decide +kernel
theorem dX10_empties_16 : decode cX10_empties 16 = .ok (.aload_n 0, 1) := by decide +kernel
theorem dX10_empties_17 : decode cX10_empties 17 = .ok (.getfield 7, 3) := by decide +kernel
theorem dX10_empties_20 : decode cX10_empties 20 = .ok (.iload_n 2, 1) := by decide +kernel
theorem dX10_empties_21 : decode cX10_empties 21 = .ok (.iconst 0, 1) := by decide +kernel
theorem dX10_empties_22 : decode cX10_empties 22 = .ok (.iastore, 1) := by decide +kernel
theorem dX10_empties_23 : decode cX10_empties 23 = .ok (.iinc 2 1, 3) := by decide +kernel
theorem dX10_empties_26 : decode cX10_empties 26 = .ok (.goto (-17), 3) := by decide +kernel
theorem dX10_empties_29 : decode cX10_empties 29 = .ok (.aload_n 0, 1) := by decide +kernel
theorem dX10_empties_30 : decode cX10_empties 30 = .ok (.getfield 7, 3) := by decide +kernel
theorem dX10_empties_33 : decode cX10_empties 33 = .ok (.iconst 5, 1) := by decide +kernel
theorem dX10_empties_34 : decode cX10_empties 34 = .ok (.iload_n 1, 1) := by decide +kernel
theorem dX10_empties_35 : decode cX10_empties 35 = .ok (.iastore, 1) := by decide +kernel
theorem dX10_empties_36 : decode cX10_empties 36 = .ok (.aload_n 0, 1) := by decide +kernel
theorem dX10_empties_37 : decode cX10_empties 37 = .ok (.getfield 7, 3) := by decide +kernel
theorem dX10_empties_40 : decode cX10_empties 40 = .ok (.iconst 0, 1) := by decide +kernel
theorem dX10_empties_41 : decode cX10_empties 41 = .ok (.aload_n 0, 1) := by decide +kernel
theorem dX10_empties_42 : decode cX10_empties 42 = .ok (.getfield 224, 3) := by decide +kernel
theorem dX10_empties_45 : decode cX10_empties 45 = .ok (.iastore, 1) := by decide +kernel
theorem dX10_empties_46 : decode cX10_empties 46 = .ok (.return_, 1) := by decide +kernel
theorem dX10_net_0 : decode cX10_net 0 = .ok (.aload_n 0, 1) := by decide +kernel
theorem dX10_net_1 : decode cX10_net 1 = .ok (.iload_n 1, 1) := by decide +kernel
theorem dX10_net_2 : decode cX10_net 2 = .ok (.invokevirtual 260, 3) := by decide +kernel
theorem dX10_net_5 : decode cX10_net 5 = .ok (.ifCond .ne 5, 3) := by decide +kernel
theorem dX10_net_8 : decode cX10_net 8 = .ok (.iconst (-1), 1) := by decide +kernel
theorem dX10_net_9 : decode cX10_net 9 = .ok (.ireturn, 1) := by decide +kernel
theorem dX10_net_10 : decode cX10_net 10 = .ok (.aload_n 0, 1) := by decide +kernel
theorem dX10_net_11 : decode cX10_net 11 = .ok (.iload_n 1, 1) := by decide +kernel
theorem dX10_net_12 : decode cX10_net 12 = .ok (.iconst 1, 1) := by decide +kernel
theorem dX10_net_13 : decode cX10_net 13 = .ok (.invokevirtual 263, 3) := by decide +kernel
theorem dX10_net_16 : decode cX10_net 16 = .ok (.ifCond .ne 8, 3) := by decide +kernel
theorem dX10_net_19 : decode cX10_net 19 = .ok (.aload_n 0, 1) := by decide +kernel
theorem dX10_net_20 : decode cX10_net 20 = .ok (.getfield 165, 3) := by decide +kernel
theorem dX10_net_23 : decode cX10_net 23 = .ok (.ireturn, 1) := by decide +kernel
theorem dX10_net_24 : decode cX10_net 24 = .ok (.aload_n 0, 1) := by decide +kernel
theorem dX10_net_25 : decode cX10_net 25 = .ok (.iconst 0, 1) := by decide +kernel
theorem dX10_net_26 : decode cX10_net 26 = .ok (.iconst 2, 1) := by decide +kernel
theorem dX10_net_27 : decode cX10_net 27 = .ok (.invokevirtual 107, 3) := by decide +kernel
theorem dX10_net_30 : decode cX10_net 30 = .ok (.aload_n 0, 1) := by decide +kernel
theorem dX10_net_31 : decode cX10_net 31 = .ok (.invokevirtual 267, 3) := by decide +kernel
theorem dX10_net_34 : decode cX10_net 34 = .ok (.iconst 0, 1) := by decide +kernel
theorem dX10_net_35 : decode cX10_net 35 = .ok (.istore_n 2, 1) := by decide +kernel
theorem dX10_net_36 : decode cX10_net 36 = .ok (.iconst 0, 1) := by decide +kernel
theorem dX10_net_37 : decode cX10_net 37 = .ok (.istore_n 3, 1) := by decide +kernel
theorem dX10_net_38 : decode cX10_net 38 = .ok (.iload_n 3, 1) := by decide +kernel
theorem dX10_net_39 : decode cX10_net 39 = .ok (.aload_n 0, 1) := by decide +kernel
theorem dX10_net_40 : decode cX10_net 40 = .ok (.getfield 205, 3) := by decide +kernel
theorem dX10_net_43 : decode cX10_net 43 = .ok (.if_icmp .ge 63, 3) := by decide +kernel
theorem dX10_net_46 : decode cX10_net 46 = .ok (.iload_n 2, 1) := by decide +kernel
theorem dX10_net_47 : decode cX10_net 47 = .ok (.ifCond .ne 59, 3) := by decide +kernel
theorem dX10_net_50 : decode cX10_net 50 = .ok (.aload_n 0, 1) := by decide +kernel
theorem dX10_net_51 : decode cX10_net 51 = .ok (.getfield 27, 3) := by decide +kernel
theorem dX10_net_54 : decode cX10_net 54 = .ok (.iload_n 3, 1) := by decide +kernel
theorem dX10_net_55 : decode cX10_net 55 = .ok (.laload, 1) := by decide +kernel
theorem dX10_net_56 : decode cX10_net 56 = .ok (.ldc2_w 227, 3) := by decide +kernel
theorem dX10_net_59 : decode cX10_net 59 = .ok (.lcmp, 1) := by decide +kernel
theorem dX10_net_60 : decode cX10_net 60 = .ok (.ifCond .ne 40, 3) := by decide +kernel
theorem dX10_net_63 : decode cX10_net 63 = .ok (.aload_n 0, 1) := by decide +kernel
theorem dX10_net_64 : decode cX10_net 64 = .ok (.aload_n 0, 1) := by decide +kernel
theorem dX10_net_65 : decode cX10_net 65 = .ok (.aload_n 0, 1) := by decide +kernel
theorem dX10_net_66 : decode cX10_net 66 = .ok (.getfield 30, 3) := by decide +kernel
theorem dX10_net_69 : decode cX10_net 69 = .ok (.iconst 3, 1) := by decide +kernel
theorem dX10_net_70 : decode cX10_net 70 = .ok (.iload_n 3, 1) := by decide +kernel
theorem dX10_net_71 : decode cX10_net 71 = .ok (.imul, 1) := by decide +kernel
theorem dX10_net_72 : decode cX10_net 72 = .ok (.iaload, 1) := by decide +kernel
theorem dX10_net_73 : decode cX10_net 73 = .ok (.aload_n 0, 1) := by decide +kernel
theorem dX10_net_74 : decode cX10_net 74 = .ok (.getfield 30, 3) := by decide +kernel
theorem dX10_net_77 : decode cX10_net 77 = .ok (.iconst 3, 1) := by decide +kernel
theorem dX10_net_78 : decode cX10_net 78 = .ok (.iload_n 3, 1) := by decide +kernel
theorem dX10_net_79 : decode cX10_net 79 = .ok (.imul, 1) := by decide +kernel
theorem dX10_net_80 : decode cX10_net 80 = .ok (.iconst 1, 1) := by decide +kernel
theorem dX10_net_81 : decode cX10_net 81 = .ok (.iadd, 1) := by decide +kernel
theorem dX10_net_82 : decode cX10_net 82 = .ok (.iaload, 1) := by decide +kernel
theorem dX10_net_83 : decode cX10_net 83 = .ok (.aload_n 0, 1) := by decide +kernel
theorem dX10_net_84 : decode cX10_net 84 = .ok (.getfield 30, 3) := by decide +kernel
theorem dX10_net_87 : decode cX10_net 87 = .ok (.iconst 3, 1) := by decide +kernel
theorem dX10_net_88 : decode cX10_net 88 = .ok (.iload_n 3, 1) := by decide +kernel
theorem dX10_net_89 : decode cX10_net 89 = .ok (.imul, 1) := by decide +kernel
theorem dX10_net_90 : decode cX10_net 90 = .ok (.iconst 2, 1) := by decide +kernel
theorem dX10_net_91 : decode cX10_net 91 = .ok (.iadd, 1) := by decide +kernel
theorem dX10_net_92 : decode cX10_net 92 = .ok (.iaload, 1) := by decide +kernel
theorem dX10_net_93 : decode cX10_net 93 = .ok (.invokevirtual 131, 3) := by decide +kernel
theorem dX10_net_96 : decode cX10_net 96 = .ok (.invokevirtual 135, 3) := by decide +kernel
theorem dX10_net_99 : decode cX10_net 99 = .ok (.istore_n 2, 1) := by decide +kernel
theorem dX10_net_100 : decode cX10_net 100 = .ok (.iinc 3 1, 3) := by decide +kernel
theorem dX10_net_103 : decode cX10_net 103 = .ok (.goto (-65), 3) := by decide +kernel
theorem dX10_net_106 : decode cX10_net 106 = .ok (.iload_n 2, 1) := by decide +kernel
theorem dX10_net_107 : decode cX10_net 107 = .ok (.ifCond .eq 8, 3) := by decide +kernel
theorem dX10_net_110 : decode cX10_net 110 = .ok (.bipush (-3), 2) := by decide +kernel
theorem dX10_net_112 : decode cX10_net 112 = .ok (.goto 4, 3) := by decide +kernel
theorem dX10_net_115 : decode cX10_net 115 = .ok (.iconst 0, 1) := by decide +kernel
theorem dX10_net_116 : decode cX10_net 116 = .ok (.istore_n 3, 1) := by decide +kernel
theorem dX10_net_117 : decode cX10_net 117 = .ok (.iload_n 2, 1) := by decide +kernel
theorem dX10_net_118 : decode cX10_net 118 = .ok (.ifCond .ne 7, 3) := by decide +kernel
theorem dX10_net_121 : decode cX10_net 121 = .ok (.aload_n 0, 1) := by decide +kernel
theorem dX10_net_122 : decode cX10_net 122 = .ok (.invokevirtual 104, 3) := by decide +kernel
theorem dX10_net_125 : decode cX10_net 125 = .ok (.iload_n 2, 1) := by decide +kernel
theorem dX10_net_126 : decode cX10_net 126 = .ok (.ifCond .ne 13, 3) := by decide +kernel
theorem dX10_net_129 : decode cX10_net 129 = .ok (.aload_n 0, 1) := by decide +kernel
theorem dX10_net_130 : decode cX10_net 130 = .ok (.invokevirtual 110, 3) := by decide +kernel
theorem dX10_net_133 : decode cX10_net 133 = .ok (.ifCond .eq 6, 3) := by decide +kernel
theorem dX10_net_136 : decode cX10_net 136 = .ok (.bipush (-4), 2) := by decide +kernel
theorem dX10_net_138 : decode cX10_net 138 = .ok (.istore_n 3, 1) := by decide +kernel
theorem dX10_net_139 : decode cX10_net 139 = .ok (.iload_n 3, 1) := by decide +kernel
theorem dX10_net_140 : decode cX10_net 140 = .ok (.ifCond .ge 11, 3) := by decide +kernel
theorem dX10_net_143 : decode cX10_net 143 = .ok (.aload_n 0, 1) := by decide +kernel
theorem dX10_net_144 : decode cX10_net 144 = .ok (.iconst 2, 1) := by decide +kernel
theorem dX10_net_145 : decode cX10_net 145 = .ok (.iconst 0, 1) := by decide +kernel
theorem dX10_net_146 : decode cX10_net 146 = .ok (.invokevirtual 107, 3) := by decide +kernel
theorem dX10_net_149 : decode cX10_net 149 = .ok (.iload_n 3, 1) := by decide +kernel
theorem dX10_net_150 : decode cX10_net 150 = .ok (.ireturn, 1) := by decide +kernel
theorem dX10_net_151 : decode cX10_net 151 = .ok (.aload_n 0, 1) := by decide +kernel
theorem dX10_net_152 : decode cX10_net 152 = .ok (.iconst 0, 1) := by decide +kernel
theorem dX10_net_153 : decode cX10_net 153 = .ok (.putfield 270, 3) := by decide +kernel
theorem dX10_net_156 : decode cX10_net 156 = .ok (.aload_n 0, 1) := by decide +kernel
theorem dX10_net_157 : decode cX10_net 157 = .ok (.getfield 205, 3) := by decide +kernel
theorem dX10_net_160 : decode cX10_net 160 = .ok (.ireturn, 1) := by decide +kernel
theorem dX10_does_0 : decode cX10_does 0 = .ok (.aload_n 0, 1) := by decide +kernel
theorem dX10_does_1 : decode cX10_does 1 = .ok (.getfield 27, 3) := by decide +kernel
theorem dX10_does_4 : decode cX10_does 4 = .ok (.iload_n 1, 1) := by decide +kernel
theorem dX10_does_5 : decode cX10_does 5 = .ok (.laload, 1) := by decide +kernel
theorem dX10_does_6 : decode cX10_does 6 = .ok (.lstore_n 2, 1) := by decide +kernel
theorem dX10_does_7 : decode cX10_does 7 = .ok (.aload_n 0, 1) := by decide +kernel
theorem dX10_does_8 : decode cX10_does 8 = .ok (.getfield 30, 3) := by decide +kernel
theorem dX10_does_11 : decode cX10_does 11 = .ok (.iconst 3, 1) := by decide +kernel
theorem dX10_does_12 : decode cX10_does 12 = .ok (.iload_n 1, 1) := by decide +kernel
theorem dX10_does_13 : decode cX10_does 13 = .ok (.imul, 1) := by decide +kernel
theorem dX10_does_14 : decode cX10_does 14 = .ok (.iaload, 1) := by decide +kernel
theorem dX10_does_15 : decode cX10_does 15 = .ok (.istore 4, 2) := by decide +kernel
theorem dX10_does_17 : decode cX10_does 17 = .ok (.aload_n 0, 1) := by decide +kernel
theorem dX10_does_18 : decode cX10_does 18 = .ok (.getfield 30, 3) := by decide +kernel
theorem dX10_does_21 : decode cX10_does 21 = .ok (.iconst 3, 1) := by decide +kernel
theorem dX10_does_22 : decode cX10_does 22 = .ok (.iload_n 1, 1) := by decide +kernel
theorem dX10_does_23 : decode cX10_does 23 = .ok (.imul, 1) := by decide +kernel
theorem dX10_does_24 : decode cX10_does 24 = .ok (.iconst 1, 1) := by decide +kernel
theorem dX10_does_25 : decode cX10_does 25 = .ok (.iadd, 1) := by decide +kernel
theorem dX10_does_26 : decode cX10_does 26 = .ok (.iaload, 1) := by decide +kernel
theorem dX10_does_27 : decode cX10_does 27 = .ok (.istore 5, 2) := by decide +kernel
theorem dX10_does_29 : decode cX10_does 29 = .ok (.lload_n 2, 1) := by decide +kernel
theorem dX10_does_30 : decode cX10_does 30 = .ok (.ldc2_w 232, 3) := by decide +kernel
theorem dX10_does_33 : decode cX10_does 33 = .ok (.lcmp, 1) := by decide +kernel
theorem dX10_does_34 : decode cX10_does 34 = .ok (.ifCond .ne 30, 3) := by decide +kernel
theorem dX10_does_37 : decode cX10_does 37 = .ok (.aload_n 0, 1) := by decide +kernel
theorem dX10_does_38 : decode cX10_does 38 = .ok (.iload 4, 2) := by decide +kernel
theorem dX10_does_40 : decode cX10_does 40 = .ok (.iload 5, 2) := by decide +kernel
theorem dX10_does_42 : decode cX10_does 42 = .ok (.aload_n 0, 1) := by decide +kernel
theorem dX10_does_43 : decode cX10_does 43 = .ok (.getfield 30, 3) := by decide +kernel
theorem dX10_does_46 : decode cX10_does 46 = .ok (.iconst 3, 1) := by decide +kernel
theorem dX10_does_47 : decode cX10_does 47 = .ok (.iload_n 1, 1) := by decide +kernel
theorem dX10_does_48 : decode cX10_does 48 = .ok (.imul, 1) := by decide +kernel
theorem dX10_does_49 : decode cX10_does 49 = .ok (.iconst 2, 1) := by decide +kernel
theorem dX10_does_50 : decode cX10_does 50 = .ok (.iadd, 1) := by decide +kernel
theorem dX10_does_51 : decode cX10_does 51 = .ok (.iaload, 1) := by decide +kernel
theorem dX10_does_52 : decode cX10_does 52 = .ok (.invokevirtual 274, 3) := by decide +kernel
theorem dX10_does_55 : decode cX10_does 55 = .ok (.ifCond .lt 7, 3) := by decide +kernel
theorem dX10_does_58 : decode cX10_does 58 = .ok (.iconst 1, 1) := by decide +kernel
theorem dX10_does_59 : decode cX10_does 59 = .ok (.goto 4, 3) := by decide +kernel
theorem dX10_does_62 : decode cX10_does 62 = .ok (.iconst 0, 1) := by decide +kernel
theorem dX10_does_63 : decode cX10_does 63 = .ok (.ireturn, 1) := by decide +kernel
theorem dX10_does_64 : decode cX10_does 64 = .ok (.lload_n 2, 1) := by decide +kernel
theorem dX10_does_65 : decode cX10_does 65 = .ok (.ldc2_w 234, 3) := by decide +kernel
theorem dX10_does_68 : decode cX10_does 68 = .ok (.lcmp, 1) := by decide +kernel
theorem dX10_does_69 : decode cX10_does 69 = .ok (.ifCond .ne 20, 3) := by decide +kernel
theorem dX10_does_72 : decode cX10_does 72 = .ok (.aload_n 0, 1) := by decide +kernel
theorem dX10_does_73 : decode cX10_does 73 = .ok (.iload 4, 2) := by decide +kernel
theorem dX10_does_75 : decode cX10_does 75 = .ok (.iload 5, 2) := by decide +kernel
theorem dX10_does_77 : decode cX10_does 77 = .ok (.invokevirtual 277, 3) := by decide +kernel
theorem dX10_does_80 : decode cX10_does 80 = .ok (.ifCond .lt 7, 3) := by decide +kernel
theorem dX10_does_83 : decode cX10_does 83 = .ok (.iconst 1, 1) := by decide +kernel
theorem dX10_does_84 : decode cX10_does 84 = .ok (.goto 4, 3) := by decide +kernel
theorem dX10_does_87 : decode cX10_does 87 = .ok (.iconst 0, 1) := by decide +kernel
theorem dX10_does_88 : decode cX10_does 88 = .ok (.ireturn, 1) := by decide +kernel
theorem dX10_does_89 : decode cX10_does 89 = .ok (.lload_n 2, 1) := by decide +kernel
theorem dX10_does_90 : decode cX10_does 90 = .ok (.ldc2_w 238, 3) := by decide +kernel
theorem dX10_does_93 : decode cX10_does 93 = .ok (.lcmp, 1) := by decide +kernel
theorem dX10_does_94 : decode cX10_does 94 = .ok (.ifCond .ne 18, 3) := by decide +kernel
theorem dX10_does_97 : decode cX10_does 97 = .ok (.aload_n 0, 1) := by decide +kernel
theorem dX10_does_98 : decode cX10_does 98 = .ok (.iload 4, 2) := by decide +kernel
theorem dX10_does_100 : decode cX10_does 100 = .ok (.invokevirtual 280, 3) := by decide +kernel
theorem dX10_does_103 : decode cX10_does 103 = .ok (.ifCond .lt 7, 3) := by decide +kernel
theorem dX10_does_106 : decode cX10_does 106 = .ok (.iconst 1, 1) := by decide +kernel
theorem dX10_does_107 : decode cX10_does 107 = .ok (.goto 4, 3) := by decide +kernel
theorem dX10_does_110 : decode cX10_does 110 = .ok (.iconst 0, 1) := by decide +kernel
theorem dX10_does_111 : decode cX10_does 111 = .ok (.ireturn, 1) := by decide +kernel
theorem dX10_does_112 : decode cX10_does 112 = .ok (.lload_n 2, 1) := by decide +kernel
theorem dX10_does_113 : decode cX10_does 113 = .ok (.ldc2_w 240, 3) := by decide +kernel
theorem dX10_does_116 : decode cX10_does 116 = .ok (.lcmp, 1) := by decide +kernel
theorem dX10_does_117 : decode cX10_does 117 = .ok (.ifCond .ne 18, 3) := by decide +kernel
theorem dX10_does_120 : decode cX10_does 120 = .ok (.aload_n 0, 1) := by decide +kernel
theorem dX10_does_121 : decode cX10_does 121 = .ok (.iload 4, 2) := by decide +kernel
theorem dX10_does_123 : decode cX10_does 123 = .ok (.invokevirtual 284, 3) := by decide +kernel
theorem dX10_does_126 : decode cX10_does 126 = .ok (.ifCond .lt 7, 3) := by decide +kernel
theorem dX10_does_129 : decode cX10_does 129 = .ok (.iconst 1, 1) := by decide +kernel
theorem dX10_does_130 : decode cX10_does 130 = .ok (.goto 4, 3) := by decide +kernel
theorem dX10_does_133 : decode cX10_does 133 = .ok (.iconst 0, 1) := by decide +kernel
theorem dX10_does_134 : decode cX10_does 134 = .ok (.ireturn, 1) := by decide +kernel
theorem dX10_does_135 : decode cX10_does 135 = .ok (.lload_n 2, 1) := by decide +kernel
theorem dX10_does_136 : decode cX10_does 136 = .ok (.ldc2_w 242, 3) := by decide +kernel
theorem dX10_does_139 : decode cX10_does 139 = .ok (.lcmp, 1) := by decide +kernel
theorem dX10_does_140 : decode cX10_does 140 = .ok (.ifCond .ne 18, 3) := by decide +kernel
theorem dX10_does_143 : decode cX10_does 143 = .ok (.aload_n 0, 1) := by decide +kernel
theorem dX10_does_144 : decode cX10_does 144 = .ok (.iload 4, 2) := by decide +kernel
theorem dX10_does_146 : decode cX10_does 146 = .ok (.invokevirtual 287, 3) := by decide +kernel
theorem dX10_does_149 : decode cX10_does 149 = .ok (.ifCond .lt 7, 3) := by decide +kernel
theorem dX10_does_152 : decode cX10_does 152 = .ok (.iconst 1, 1) := by decide +kernel
theorem dX10_does_153 : decode cX10_does 153 = .ok (.goto 4, 3) := by decide +kernel
theorem dX10_does_156 : decode cX10_does 156 = .ok (.iconst 0, 1) := by decide +kernel
theorem dX10_does_157 : decode cX10_does 157 = .ok (.ireturn, 1) := by decide +kernel
theorem dX10_does_158 : decode cX10_does 158 = .ok (.lload_n 2, 1) := by decide +kernel
theorem dX10_does_159 : decode cX10_does 159 = .ok (.ldc2_w 246, 3) := by decide +kernel
theorem dX10_does_162 : decode cX10_does 162 = .ok (.lcmp, 1) := by decide +kernel
theorem dX10_does_163 : decode cX10_does 163 = .ok (.ifCond .ne 22, 3) := by decide +kernel
theorem dX10_does_166 : decode cX10_does 166 = .ok (.aload_n 0, 1) := by decide +kernel
theorem dX10_does_167 : decode cX10_does 167 = .ok (.iload 4, 2) := by decide +kernel
theorem dX10_does_169 : decode cX10_does 169 = .ok (.iload 5, 2) := by decide +kernel
theorem dX10_does_171 : decode cX10_does 171 = .ok (.invokevirtual 290, 3) := by decide +kernel
theorem dX10_does_174 : decode cX10_does 174 = .ok (.ifCond .lt 7, 3) := by decide +kernel
theorem dX10_does_177 : decode cX10_does 177 = .ok (.iconst 1, 1) := by decide +kernel
theorem dX10_does_178 : decode cX10_does 178 = .ok (.goto 13, 3) := by decide +kernel
theorem dX10_does_181 : decode cX10_does 181 = .ok (.iconst 0, 1) := by decide +kernel
theorem dX10_does_182 : decode cX10_does 182 = .ok (.goto 9, 3) := by decide +kernel
theorem dX10_does_185 : decode cX10_does 185 = .ok (.aload_n 0, 1) := by decide +kernel
theorem dX10_does_186 : decode cX10_does 186 = .ok (.iload 4, 2) := by decide +kernel
theorem dX10_does_188 : decode cX10_does 188 = .ok (.invokevirtual 293, 3) := by decide +kernel
theorem dX10_does_191 : decode cX10_does 191 = .ok (.ireturn, 1) := by decide +kernel
theorem dX10_orders_0 : decode cX10_orders 0 = .ok (.aload_n 0, 1) := by decide +kernel
theorem dX10_orders_1 : decode cX10_orders 1 = .ok (.iload_n 1, 1) := by decide +kernel
theorem dX10_orders_2 : decode cX10_orders 2 = .ok (.invokevirtual 260, 3) := by decide +kernel
theorem dX10_orders_5 : decode cX10_orders 5 = .ok (.ifCond .ne 5, 3) := by decide +kernel
theorem dX10_orders_8 : decode cX10_orders 8 = .ok (.iconst (-1), 1) := by decide +kernel
theorem dX10_orders_9 : decode cX10_orders 9 = .ok (.ireturn, 1) := by decide +kernel
theorem dX10_orders_10 : decode cX10_orders 10 = .ok (.aload_n 0, 1) := by decide +kernel
theorem dX10_orders_11 : decode cX10_orders 11 = .ok (.iload_n 1, 1) := by decide +kernel
theorem dX10_orders_12 : decode cX10_orders 12 = .ok (.iconst 0, 1) := by decide +kernel
theorem dX10_orders_13 : decode cX10_orders 13 = .ok (.invokevirtual 263, 3) := by decide +kernel
theorem dX10_orders_16 : decode cX10_orders 16 = .ok (.ifCond .ne 8, 3) := by decide +kernel
theorem dX10_orders_19 : decode cX10_orders 19 = .ok (.aload_n 0, 1) := by decide +kernel
theorem dX10_orders_20 : decode cX10_orders 20 = .ok (.getfield 165, 3) := by decide +kernel
theorem dX10_orders_23 : decode cX10_orders 23 = .ok (.ireturn, 1) := by decide +kernel
theorem dX10_orders_24 : decode cX10_orders 24 = .ok (.iconst 0, 1) := by decide +kernel
theorem dX10_orders_25 : decode cX10_orders 25 = .ok (.istore_n 2, 1) := by decide +kernel
theorem dX10_orders_26 : decode cX10_orders 26 = .ok (.iload_n 2, 1) := by decide +kernel
theorem dX10_orders_27 : decode cX10_orders 27 = .ok (.aload_n 0, 1) := by decide +kernel
theorem dX10_orders_28 : decode cX10_orders 28 = .ok (.getfield 205, 3) := by decide +kernel
theorem dX10_orders_31 : decode cX10_orders 31 = .ok (.if_icmp .ge 18, 3) := by decide +kernel
theorem dX10_orders_34 : decode cX10_orders 34 = .ok (.aload_n 0, 1) := by decide +kernel
theorem dX10_orders_35 : decode cX10_orders 35 = .ok (.iload_n 2, 1) := by decide +kernel
theorem dX10_orders_36 : decode cX10_orders 36 = .ok (.invokevirtual 296, 3) := by decide +kernel
theorem dX10_orders_39 : decode cX10_orders 39 = .ok (.ifCond .eq 10, 3) := by decide +kernel
theorem dX10_orders_42 : decode cX10_orders 42 = .ok (.iload_n 2, 1) := by decide +kernel
theorem dX10_orders_43 : decode cX10_orders 43 = .ok (.iconst 1, 1) := by decide +kernel
theorem dX10_orders_44 : decode cX10_orders 44 = .ok (.iadd, 1) := by decide +kernel
theorem dX10_orders_45 : decode cX10_orders 45 = .ok (.istore_n 2, 1) := by decide +kernel
theorem dX10_orders_46 : decode cX10_orders 46 = .ok (.goto (-20), 3) := by decide +kernel
theorem dX10_orders_49 : decode cX10_orders 49 = .ok (.iload_n 2, 1) := by decide +kernel
theorem dX10_orders_50 : decode cX10_orders 50 = .ok (.ireturn, 1) := by decide +kernel
theorem dX10_slackOf_0 : decode cX10_slackOf 0 = .ok (.aload_n 0, 1) := by decide +kernel
theorem dX10_slackOf_1 : decode cX10_slackOf 1 = .ok (.getfield 17, 3) := by decide +kernel
theorem dX10_slackOf_4 : decode cX10_slackOf 4 = .ok (.aload_n 0, 1) := by decide +kernel
theorem dX10_slackOf_5 : decode cX10_slackOf 5 = .ok (.iload_n 1, 1) := by decide +kernel
theorem dX10_slackOf_6 : decode cX10_slackOf 6 = .ok (.iconst 0, 1) := by decide +kernel
theorem dX10_slackOf_7 : decode cX10_slackOf 7 = .ok (.invokevirtual 73, 3) := by decide +kernel
theorem dX10_slackOf_10 : decode cX10_slackOf 10 = .ok (.laload, 1) := by decide +kernel
theorem dX10_slackOf_11 : decode cX10_slackOf 11 = .ok (.ldc2_w 89, 3) := by decide +kernel
theorem dX10_slackOf_14 : decode cX10_slackOf 14 = .ok (.lcmp, 1) := by decide +kernel
theorem dX10_slackOf_15 : decode cX10_slackOf 15 = .ok (.ifCond .eq 21, 3) := by decide +kernel
theorem dX10_slackOf_18 : decode cX10_slackOf 18 = .ok (.aload_n 0, 1) := by decide +kernel
theorem dX10_slackOf_19 : decode cX10_slackOf 19 = .ok (.getfield 17, 3) := by decide +kernel
theorem dX10_slackOf_22 : decode cX10_slackOf 22 = .ok (.aload_n 0, 1) := by decide +kernel
theorem dX10_slackOf_23 : decode cX10_slackOf 23 = .ok (.iload_n 1, 1) := by decide +kernel
theorem dX10_slackOf_24 : decode cX10_slackOf 24 = .ok (.iconst 1, 1) := by decide +kernel
theorem dX10_slackOf_25 : decode cX10_slackOf 25 = .ok (.invokevirtual 73, 3) := by decide +kernel
theorem dX10_slackOf_28 : decode cX10_slackOf 28 = .ok (.laload, 1) := by decide +kernel
theorem dX10_slackOf_29 : decode cX10_slackOf 29 = .ok (.ldc2_w 89, 3) := by decide +kernel
theorem dX10_slackOf_32 : decode cX10_slackOf 32 = .ok (.lcmp, 1) := by decide +kernel
theorem dX10_slackOf_33 : decode cX10_slackOf 33 = .ok (.ifCond .ne 7, 3) := by decide +kernel
theorem dX10_slackOf_36 : decode cX10_slackOf 36 = .ok (.ldc2_w 89, 3) := by decide +kernel
theorem dX10_slackOf_39 : decode cX10_slackOf 39 = .ok (.lreturn, 1) := by decide +kernel
theorem dX10_slackOf_40 : decode cX10_slackOf 40 = .ok (.aload_n 0, 1) := by decide +kernel
theorem dX10_slackOf_41 : decode cX10_slackOf 41 = .ok (.getfield 17, 3) := by decide +kernel
theorem dX10_slackOf_44 : decode cX10_slackOf 44 = .ok (.aload_n 0, 1) := by decide +kernel
theorem dX10_slackOf_45 : decode cX10_slackOf 45 = .ok (.iload_n 1, 1) := by decide +kernel
theorem dX10_slackOf_46 : decode cX10_slackOf 46 = .ok (.iconst 0, 1) := by decide +kernel
theorem dX10_slackOf_47 : decode cX10_slackOf 47 = .ok (.invokevirtual 73, 3) := by decide +kernel
theorem dX10_slackOf_50 : decode cX10_slackOf 50 = .ok (.laload, 1) := by decide +kernel
theorem dX10_slackOf_51 : decode cX10_slackOf 51 = .ok (.aload_n 0, 1) := by decide +kernel
theorem dX10_slackOf_52 : decode cX10_slackOf 52 = .ok (.iload_n 1, 1) := by decide +kernel
theorem dX10_slackOf_53 : decode cX10_slackOf 53 = .ok (.iconst 2, 1) := by decide +kernel
theorem dX10_slackOf_54 : decode cX10_slackOf 54 = .ok (.invokevirtual 73, 3) := by decide +kernel
theorem dX10_slackOf_57 : decode cX10_slackOf 57 = .ok (.i2l, 1) := by decide +kernel
theorem dX10_slackOf_58 : decode cX10_slackOf 58 = .ok (.ladd, 1) := by decide +kernel
theorem dX10_slackOf_59 : decode cX10_slackOf 59 = .ok (.aload_n 0, 1) := by decide +kernel
theorem dX10_slackOf_60 : decode cX10_slackOf 60 = .ok (.getfield 17, 3) := by decide +kernel
theorem dX10_slackOf_63 : decode cX10_slackOf 63 = .ok (.aload_n 0, 1) := by decide +kernel
theorem dX10_slackOf_64 : decode cX10_slackOf 64 = .ok (.iload_n 1, 1) := by decide +kernel
theorem dX10_slackOf_65 : decode cX10_slackOf 65 = .ok (.iconst 1, 1) := by decide +kernel
theorem dX10_slackOf_66 : decode cX10_slackOf 66 = .ok (.invokevirtual 73, 3) := by decide +kernel
theorem dX10_slackOf_69 : decode cX10_slackOf 69 = .ok (.laload, 1) := by decide +kernel
theorem dX10_slackOf_70 : decode cX10_slackOf 70 = .ok (.lsub, 1) := by decide +kernel
theorem dX10_slackOf_71 : decode cX10_slackOf 71 = .ok (.lreturn, 1) := by decide +kernel
theorem dX10_isTight_0 : decode cX10_isTight 0 = .ok (.aload_n 0, 1) := by decide +kernel
theorem dX10_isTight_1 : decode cX10_isTight 1 = .ok (.iload_n 1, 1) := by decide +kernel
theorem dX10_isTight_2 : decode cX10_isTight 2 = .ok (.invokevirtual 91, 3) := by decide +kernel
theorem dX10_isTight_5 : decode cX10_isTight 5 = .ok (.ifCond .eq 17, 3) := by decide +kernel
theorem dX10_isTight_8 : decode cX10_isTight 8 = .ok (.aload_n 0, 1) := by decide +kernel
theorem dX10_isTight_9 : decode cX10_isTight 9 = .ok (.iload_n 1, 1) := by decide +kernel
theorem dX10_isTight_10 : decode cX10_isTight 10 = .ok (.invokevirtual 299, 3) := by decide +kernel
theorem dX10_isTight_13 : decode cX10_isTight 13 = .ok (.lconst 0, 1) := by decide +kernel
theorem dX10_isTight_14 : decode cX10_isTight 14 = .ok (.lcmp, 1) := by decide +kernel
theorem dX10_isTight_15 : decode cX10_isTight 15 = .ok (.ifCond .ne 7, 3) := by decide +kernel
theorem dX10_isTight_18 : decode cX10_isTight 18 = .ok (.iconst 1, 1) := by decide +kernel
theorem dX10_isTight_19 : decode cX10_isTight 19 = .ok (.goto 4, 3) := by decide +kernel
theorem dX10_isTight_22 : decode cX10_isTight 22 = .ok (.iconst 0, 1) := by decide +kernel
theorem dX10_isTight_23 : decode cX10_isTight 23 = .ok (.ireturn, 1) := by decide +kernel
theorem dX10_tightTo_0 : decode cX10_tightTo 0 = .ok (.iconst 0, 1) := by decide +kernel
theorem dX10_tightTo_1 : decode cX10_tightTo 1 = .ok (.istore_n 2, 1) := by decide +kernel
theorem dX10_tightTo_2 : decode cX10_tightTo 2 = .ok (.iconst 0, 1) := by decide +kernel
theorem dX10_tightTo_3 : decode cX10_tightTo 3 = .ok (.istore_n 3, 1) := by decide +kernel
theorem dX10_tightTo_4 : decode cX10_tightTo 4 = .ok (.iload_n 3, 1) := by decide +kernel
theorem dX10_tightTo_5 : decode cX10_tightTo 5 = .ok (.aload_n 0, 1) := by decide +kernel
theorem dX10_tightTo_6 : decode cX10_tightTo 6 = .ok (.getfield 7, 3) := by decide +kernel
theorem dX10_tightTo_9 : decode cX10_tightTo 9 = .ok (.iconst 1, 1) := by decide +kernel
theorem dX10_tightTo_10 : decode cX10_tightTo 10 = .ok (.iaload, 1) := by decide +kernel
theorem dX10_tightTo_11 : decode cX10_tightTo 11 = .ok (.if_icmp .ge 31, 3) := by decide +kernel
theorem dX10_tightTo_14 : decode cX10_tightTo 14 = .ok (.aload_n 0, 1) := by decide +kernel
theorem dX10_tightTo_15 : decode cX10_tightTo 15 = .ok (.iload_n 3, 1) := by decide +kernel
theorem dX10_tightTo_16 : decode cX10_tightTo 16 = .ok (.invokevirtual 303, 3) := by decide +kernel
theorem dX10_tightTo_19 : decode cX10_tightTo 19 = .ok (.ifCond .eq 17, 3) := by decide +kernel
theorem dX10_tightTo_22 : decode cX10_tightTo 22 = .ok (.aload_n 0, 1) := by decide +kernel
theorem dX10_tightTo_23 : decode cX10_tightTo 23 = .ok (.iload_n 3, 1) := by decide +kernel
theorem dX10_tightTo_24 : decode cX10_tightTo 24 = .ok (.iconst 1, 1) := by decide +kernel
theorem dX10_tightTo_25 : decode cX10_tightTo 25 = .ok (.invokevirtual 73, 3) := by decide +kernel
theorem dX10_tightTo_28 : decode cX10_tightTo 28 = .ok (.iload_n 1, 1) := by decide +kernel
theorem dX10_tightTo_29 : decode cX10_tightTo 29 = .ok (.if_icmp .ne 7, 3) := by decide +kernel
theorem dX10_tightTo_32 : decode cX10_tightTo 32 = .ok (.iload_n 2, 1) := by decide +kernel
theorem dX10_tightTo_33 : decode cX10_tightTo 33 = .ok (.iconst 1, 1) := by decide +kernel
theorem dX10_tightTo_34 : decode cX10_tightTo 34 = .ok (.iadd, 1) := by decide +kernel
theorem dX10_tightTo_35 : decode cX10_tightTo 35 = .ok (.istore_n 2, 1) := by decide +kernel
theorem dX10_tightTo_36 : decode cX10_tightTo 36 = .ok (.iinc 3 1, 3) := by decide +kernel
theorem dX10_tightTo_39 : decode cX10_tightTo 39 = .ok (.goto (-35), 3) := by decide +kernel
theorem dX10_tightTo_42 : decode cX10_tightTo 42 = .ok (.iload_n 2, 1) := by decide +kernel
theorem dX10_tightTo_43 : decode cX10_tightTo 43 = .ok (.ireturn, 1) := by decide +kernel
theorem dX10_parentOf_0 : decode cX10_parentOf 0 = .ok (.iconst 0, 1) := by decide +kernel
theorem dX10_parentOf_1 : decode cX10_parentOf 1 = .ok (.istore_n 2, 1) := by decide +kernel
theorem dX10_parentOf_2 : decode cX10_parentOf 2 = .ok (.iload_n 2, 1) := by decide +kernel
theorem dX10_parentOf_3 : decode cX10_parentOf 3 = .ok (.aload_n 0, 1) := by decide +kernel
theorem dX10_parentOf_4 : decode cX10_parentOf 4 = .ok (.getfield 7, 3) := by decide +kernel
theorem dX10_parentOf_7 : decode cX10_parentOf 7 = .ok (.iconst 1, 1) := by decide +kernel
theorem dX10_parentOf_8 : decode cX10_parentOf 8 = .ok (.iaload, 1) := by decide +kernel
theorem dX10_parentOf_9 : decode cX10_parentOf 9 = .ok (.if_icmp .ge 29, 3) := by decide +kernel
theorem dX10_parentOf_12 : decode cX10_parentOf 12 = .ok (.aload_n 0, 1) := by decide +kernel
theorem dX10_parentOf_13 : decode cX10_parentOf 13 = .ok (.iload_n 2, 1) := by decide +kernel
theorem dX10_parentOf_14 : decode cX10_parentOf 14 = .ok (.invokevirtual 303, 3) := by decide +kernel
theorem dX10_parentOf_17 : decode cX10_parentOf 17 = .ok (.ifCond .eq 15, 3) := by decide +kernel
theorem dX10_parentOf_20 : decode cX10_parentOf 20 = .ok (.aload_n 0, 1) := by decide +kernel
theorem dX10_parentOf_21 : decode cX10_parentOf 21 = .ok (.iload_n 2, 1) := by decide +kernel
theorem dX10_parentOf_22 : decode cX10_parentOf 22 = .ok (.iconst 1, 1) := by decide +kernel
theorem dX10_parentOf_23 : decode cX10_parentOf 23 = .ok (.invokevirtual 73, 3) := by decide +kernel
theorem dX10_parentOf_26 : decode cX10_parentOf 26 = .ok (.iload_n 1, 1) := by decide +kernel
theorem dX10_parentOf_27 : decode cX10_parentOf 27 = .ok (.if_icmp .ne 5, 3) := by decide +kernel
theorem dX10_parentOf_30 : decode cX10_parentOf 30 = .ok (.iload_n 2, 1) := by decide +kernel
theorem dX10_parentOf_31 : decode cX10_parentOf 31 = .ok (.ireturn, 1) := by decide +kernel
theorem dX10_parentOf_32 : decode cX10_parentOf 32 = .ok (.iinc 2 1, 3) := by decide +kernel
theorem dX10_parentOf_35 : decode cX10_parentOf 35 = .ok (.goto (-33), 3) := by decide +kernel
theorem dX10_parentOf_38 : decode cX10_parentOf 38 = .ok (.iconst (-1), 1) := by decide +kernel
theorem dX10_parentOf_39 : decode cX10_parentOf 39 = .ok (.ireturn, 1) := by decide +kernel
theorem dX10_goesBack_0 : decode cX10_goesBack 0 = .ok (.aload_n 0, 1) := by decide +kernel
theorem dX10_goesBack_1 : decode cX10_goesBack 1 = .ok (.getfield 17, 3) := by decide +kernel
theorem dX10_goesBack_4 : decode cX10_goesBack 4 = .ok (.iload_n 1, 1) := by decide +kernel
theorem dX10_goesBack_5 : decode cX10_goesBack 5 = .ok (.laload, 1) := by decide +kernel
theorem dX10_goesBack_6 : decode cX10_goesBack 6 = .ok (.ldc2_w 89, 3) := by decide +kernel
theorem dX10_goesBack_9 : decode cX10_goesBack 9 = .ok (.lcmp, 1) := by decide +kernel
theorem dX10_goesBack_10 : decode cX10_goesBack 10 = .ok (.ifCond .ne 5, 3) := by decide +kernel
theorem dX10_goesBack_13 : decode cX10_goesBack 13 = .ok (.iconst (-1), 1) := by decide +kernel
theorem dX10_goesBack_14 : decode cX10_goesBack 14 = .ok (.ireturn, 1) := by decide +kernel
theorem dX10_goesBack_15 : decode cX10_goesBack 15 = .ok (.iconst 0, 1) := by decide +kernel
theorem dX10_goesBack_16 : decode cX10_goesBack 16 = .ok (.istore_n 2, 1) := by decide +kernel
theorem dX10_goesBack_17 : decode cX10_goesBack 17 = .ok (.iload_n 1, 1) := by decide +kernel
theorem dX10_goesBack_18 : decode cX10_goesBack 18 = .ok (.istore_n 3, 1) := by decide +kernel
theorem dX10_goesBack_19 : decode cX10_goesBack 19 = .ok (.iload_n 3, 1) := by decide +kernel
theorem dX10_goesBack_20 : decode cX10_goesBack 20 = .ok (.aload_n 0, 1) := by decide +kernel
theorem dX10_goesBack_21 : decode cX10_goesBack 21 = .ok (.getfield 7, 3) := by decide +kernel
theorem dX10_goesBack_24 : decode cX10_goesBack 24 = .ok (.iconst 2, 1) := by decide +kernel
theorem dX10_goesBack_25 : decode cX10_goesBack 25 = .ok (.iaload, 1) := by decide +kernel
theorem dX10_goesBack_26 : decode cX10_goesBack 26 = .ok (.if_icmp .eq 33, 3) := by decide +kernel
theorem dX10_goesBack_29 : decode cX10_goesBack 29 = .ok (.aload_n 0, 1) := by decide +kernel
theorem dX10_goesBack_30 : decode cX10_goesBack 30 = .ok (.getfield 33, 3) := by decide +kernel
theorem dX10_goesBack_33 : decode cX10_goesBack 33 = .ok (.iload_n 2, 1) := by decide +kernel
theorem dX10_goesBack_34 : decode cX10_goesBack 34 = .ok (.aload_n 0, 1) := by decide +kernel
theorem dX10_goesBack_35 : decode cX10_goesBack 35 = .ok (.iload_n 3, 1) := by decide +kernel
theorem dX10_goesBack_36 : decode cX10_goesBack 36 = .ok (.invokevirtual 306, 3) := by decide +kernel
theorem dX10_goesBack_39 : decode cX10_goesBack 39 = .ok (.iastore, 1) := by decide +kernel
theorem dX10_goesBack_40 : decode cX10_goesBack 40 = .ok (.aload_n 0, 1) := by decide +kernel
theorem dX10_goesBack_41 : decode cX10_goesBack 41 = .ok (.aload_n 0, 1) := by decide +kernel
theorem dX10_goesBack_42 : decode cX10_goesBack 42 = .ok (.getfield 33, 3) := by decide +kernel
theorem dX10_goesBack_45 : decode cX10_goesBack 45 = .ok (.iload_n 2, 1) := by decide +kernel
theorem dX10_goesBack_46 : decode cX10_goesBack 46 = .ok (.iaload, 1) := by decide +kernel
theorem dX10_goesBack_47 : decode cX10_goesBack 47 = .ok (.iconst 0, 1) := by decide +kernel
theorem dX10_goesBack_48 : decode cX10_goesBack 48 = .ok (.invokevirtual 73, 3) := by decide +kernel
theorem dX10_goesBack_51 : decode cX10_goesBack 51 = .ok (.istore_n 3, 1) := by decide +kernel
theorem dX10_goesBack_52 : decode cX10_goesBack 52 = .ok (.iload_n 2, 1) := by decide +kernel
theorem dX10_goesBack_53 : decode cX10_goesBack 53 = .ok (.iconst 1, 1) := by decide +kernel
theorem dX10_goesBack_54 : decode cX10_goesBack 54 = .ok (.iadd, 1) := by decide +kernel
theorem dX10_goesBack_55 : decode cX10_goesBack 55 = .ok (.istore_n 2, 1) := by decide +kernel
theorem dX10_goesBack_56 : decode cX10_goesBack 56 = .ok (.goto (-37), 3) := by decide +kernel
theorem dX10_goesBack_59 : decode cX10_goesBack 59 = .ok (.iload_n 2, 1) := by decide +kernel
theorem dX10_goesBack_60 : decode cX10_goesBack 60 = .ok (.ireturn, 1) := by decide +kernel
theorem dX10_countsWays_0 : decode cX10_countsWays 0 = .ok (.iconst 0, 1) := by decide +kernel
theorem dX10_countsWays_1 : decode cX10_countsWays 1 = .ok (.istore_n 2, 1) := by decide +kernel
theorem dX10_countsWays_2 : decode cX10_countsWays 2 = .ok (.iload_n 2, 1) := by decide +kernel
theorem dX10_countsWays_3 : decode cX10_countsWays 3 = .ok (.bipush 12, 2) := by decide +kernel
theorem dX10_countsWays_5 : decode cX10_countsWays 5 = .ok (.if_icmp .ge 42, 3) := by decide +kernel
theorem dX10_countsWays_8 : decode cX10_countsWays 8 = .ok (.aload_n 0, 1) := by decide +kernel
theorem dX10_countsWays_9 : decode cX10_countsWays 9 = .ok (.getfield 36, 3) := by decide +kernel
theorem dX10_countsWays_12 : decode cX10_countsWays 12 = .ok (.iload_n 2, 1) := by decide +kernel
theorem dX10_countsWays_13 : decode cX10_countsWays 13 = .ok (.iload_n 2, 1) := by decide +kernel
theorem dX10_countsWays_14 : decode cX10_countsWays 14 = .ok (.aload_n 0, 1) := by decide +kernel
theorem dX10_countsWays_15 : decode cX10_countsWays 15 = .ok (.getfield 7, 3) := by decide +kernel
theorem dX10_countsWays_18 : decode cX10_countsWays 18 = .ok (.iconst 2, 1) := by decide +kernel
theorem dX10_countsWays_19 : decode cX10_countsWays 19 = .ok (.iaload, 1) := by decide +kernel
theorem dX10_countsWays_20 : decode cX10_countsWays 20 = .ok (.if_icmp .ne 7, 3) := by decide +kernel
theorem dX10_countsWays_23 : decode cX10_countsWays 23 = .ok (.lconst 1, 1) := by decide +kernel
theorem dX10_countsWays_24 : decode cX10_countsWays 24 = .ok (.goto 4, 3) := by decide +kernel
theorem dX10_countsWays_27 : decode cX10_countsWays 27 = .ok (.lconst 0, 1) := by decide +kernel
theorem dX10_countsWays_28 : decode cX10_countsWays 28 = .ok (.lastore, 1) := by decide +kernel
theorem dX10_countsWays_29 : decode cX10_countsWays 29 = .ok (.aload_n 0, 1) := by decide +kernel
theorem dX10_countsWays_30 : decode cX10_countsWays 30 = .ok (.getfield 42, 3) := by decide +kernel
theorem dX10_countsWays_33 : decode cX10_countsWays 33 = .ok (.iload_n 2, 1) := by decide +kernel
theorem dX10_countsWays_34 : decode cX10_countsWays 34 = .ok (.aload_n 0, 1) := by decide +kernel
theorem dX10_countsWays_35 : decode cX10_countsWays 35 = .ok (.getfield 36, 3) := by decide +kernel
theorem dX10_countsWays_38 : decode cX10_countsWays 38 = .ok (.iload_n 2, 1) := by decide +kernel
theorem dX10_countsWays_39 : decode cX10_countsWays 39 = .ok (.laload, 1) := by decide +kernel
theorem dX10_countsWays_40 : decode cX10_countsWays 40 = .ok (.lastore, 1) := by decide +kernel
theorem dX10_countsWays_41 : decode cX10_countsWays 41 = .ok (.iinc 2 1, 3) := by decide +kernel
theorem dX10_countsWays_44 : decode cX10_countsWays 44 = .ok (.goto (-42), 3) := by decide +kernel
theorem dX10_countsWays_47 : decode cX10_countsWays 47 = .ok (.iconst 1, 1) := by decide +kernel
theorem dX10_countsWays_48 : decode cX10_countsWays 48 = .ok (.istore_n 2, 1) := by decide +kernel
theorem dX10_countsWays_49 : decode cX10_countsWays 49 = .ok (.iload_n 2, 1) := by decide +kernel
theorem dX10_countsWays_50 : decode cX10_countsWays 50 = .ok (.aload_n 0, 1) := by decide +kernel
theorem dX10_countsWays_51 : decode cX10_countsWays 51 = .ok (.invokevirtual 77, 3) := by decide +kernel
theorem dX10_countsWays_54 : decode cX10_countsWays 54 = .ok (.if_icmp .ge 140, 3) := by decide +kernel
theorem dX10_countsWays_57 : decode cX10_countsWays 57 = .ok (.iconst 0, 1) := by decide +kernel
theorem dX10_countsWays_58 : decode cX10_countsWays 58 = .ok (.istore_n 3, 1) := by decide +kernel
theorem dX10_countsWays_59 : decode cX10_countsWays 59 = .ok (.iload_n 3, 1) := by decide +kernel
theorem dX10_countsWays_60 : decode cX10_countsWays 60 = .ok (.bipush 12, 2) := by decide +kernel
theorem dX10_countsWays_62 : decode cX10_countsWays 62 = .ok (.if_icmp .ge 16, 3) := by decide +kernel
theorem dX10_countsWays_65 : decode cX10_countsWays 65 = .ok (.aload_n 0, 1) := by decide +kernel
theorem dX10_countsWays_66 : decode cX10_countsWays 66 = .ok (.getfield 39, 3) := by decide +kernel
theorem dX10_countsWays_69 : decode cX10_countsWays 69 = .ok (.iload_n 3, 1) := by decide +kernel
theorem dX10_countsWays_70 : decode cX10_countsWays 70 = .ok (.lconst 0, 1) := by decide +kernel
theorem dX10_countsWays_71 : decode cX10_countsWays 71 = .ok (.lastore, 1) := by decide +kernel
theorem dX10_countsWays_72 : decode cX10_countsWays 72 = .ok (.iinc 3 1, 3) := by decide +kernel
theorem dX10_countsWays_75 : decode cX10_countsWays 75 = .ok (.goto (-16), 3) := by decide +kernel
theorem dX10_countsWays_78 : decode cX10_countsWays 78 = .ok (.iconst 0, 1) := by decide +kernel
theorem dX10_countsWays_79 : decode cX10_countsWays 79 = .ok (.istore_n 3, 1) := by decide +kernel
theorem dX10_countsWays_80 : decode cX10_countsWays 80 = .ok (.iload_n 3, 1) := by decide +kernel
theorem dX10_countsWays_81 : decode cX10_countsWays 81 = .ok (.aload_n 0, 1) := by decide +kernel
theorem dX10_countsWays_82 : decode cX10_countsWays 82 = .ok (.getfield 7, 3) := by decide +kernel
theorem dX10_countsWays_85 : decode cX10_countsWays 85 = .ok (.iconst 1, 1) := by decide +kernel
theorem dX10_countsWays_86 : decode cX10_countsWays 86 = .ok (.iaload, 1) := by decide +kernel
theorem dX10_countsWays_87 : decode cX10_countsWays 87 = .ok (.if_icmp .ge 56, 3) := by decide +kernel
theorem dX10_countsWays_90 : decode cX10_countsWays 90 = .ok (.iload_n 3, 1) := by decide +kernel
theorem dX10_countsWays_91 : decode cX10_countsWays 91 = .ok (.iload_n 1, 1) := by decide +kernel
theorem dX10_countsWays_92 : decode cX10_countsWays 92 = .ok (.if_icmp .eq 45, 3) := by decide +kernel
theorem dX10_countsWays_95 : decode cX10_countsWays 95 = .ok (.aload_n 0, 1) := by decide +kernel
theorem dX10_countsWays_96 : decode cX10_countsWays 96 = .ok (.iload_n 3, 1) := by decide +kernel
theorem dX10_countsWays_97 : decode cX10_countsWays 97 = .ok (.invokevirtual 303, 3) := by decide +kernel
theorem dX10_countsWays_100 : decode cX10_countsWays 100 = .ok (.ifCond .eq 37, 3) := by decide +kernel
theorem dX10_countsWays_103 : decode cX10_countsWays 103 = .ok (.aload_n 0, 1) := by decide +kernel
theorem dX10_countsWays_104 : decode cX10_countsWays 104 = .ok (.getfield 39, 3) := by decide +kernel
theorem dX10_countsWays_107 : decode cX10_countsWays 107 = .ok (.aload_n 0, 1) := by decide +kernel
theorem dX10_countsWays_108 : decode cX10_countsWays 108 = .ok (.iload_n 3, 1) := by decide +kernel
theorem dX10_countsWays_109 : decode cX10_countsWays 109 = .ok (.iconst 1, 1) := by decide +kernel
theorem dX10_countsWays_110 : decode cX10_countsWays 110 = .ok (.invokevirtual 73, 3) := by decide +kernel
theorem dX10_countsWays_113 : decode cX10_countsWays 113 = .ok (.aload_n 0, 1) := by decide +kernel
theorem dX10_countsWays_114 : decode cX10_countsWays 114 = .ok (.getfield 39, 3) := by decide +kernel
theorem dX10_countsWays_117 : decode cX10_countsWays 117 = .ok (.aload_n 0, 1) := by decide +kernel
theorem dX10_countsWays_118 : decode cX10_countsWays 118 = .ok (.iload_n 3, 1) := by decide +kernel
theorem dX10_countsWays_119 : decode cX10_countsWays 119 = .ok (.iconst 1, 1) := by decide +kernel
theorem dX10_countsWays_120 : decode cX10_countsWays 120 = .ok (.invokevirtual 73, 3) := by decide +kernel
theorem dX10_countsWays_123 : decode cX10_countsWays 123 = .ok (.laload, 1) := by decide +kernel
theorem dX10_countsWays_124 : decode cX10_countsWays 124 = .ok (.aload_n 0, 1) := by decide +kernel
theorem dX10_countsWays_125 : decode cX10_countsWays 125 = .ok (.getfield 36, 3) := by decide +kernel
theorem dX10_countsWays_128 : decode cX10_countsWays 128 = .ok (.aload_n 0, 1) := by decide +kernel
theorem dX10_countsWays_129 : decode cX10_countsWays 129 = .ok (.iload_n 3, 1) := by decide +kernel
theorem dX10_countsWays_130 : decode cX10_countsWays 130 = .ok (.iconst 0, 1) := by decide +kernel
theorem dX10_countsWays_131 : decode cX10_countsWays 131 = .ok (.invokevirtual 73, 3) := by decide +kernel
theorem dX10_countsWays_134 : decode cX10_countsWays 134 = .ok (.laload, 1) := by decide +kernel
theorem dX10_countsWays_135 : decode cX10_countsWays 135 = .ok (.ladd, 1) := by decide +kernel
theorem dX10_countsWays_136 : decode cX10_countsWays 136 = .ok (.lastore, 1) := by decide +kernel
theorem dX10_countsWays_137 : decode cX10_countsWays 137 = .ok (.iinc 3 1, 3) := by decide +kernel
theorem dX10_countsWays_140 : decode cX10_countsWays 140 = .ok (.goto (-60), 3) := by decide +kernel
theorem dX10_countsWays_143 : decode cX10_countsWays 143 = .ok (.iconst 0, 1) := by decide +kernel
theorem dX10_countsWays_144 : decode cX10_countsWays 144 = .ok (.istore_n 3, 1) := by decide +kernel
theorem dX10_countsWays_145 : decode cX10_countsWays 145 = .ok (.iload_n 3, 1) := by decide +kernel
theorem dX10_countsWays_146 : decode cX10_countsWays 146 = .ok (.bipush 12, 2) := by decide +kernel
theorem dX10_countsWays_148 : decode cX10_countsWays 148 = .ok (.if_icmp .ge 40, 3) := by decide +kernel
theorem dX10_countsWays_151 : decode cX10_countsWays 151 = .ok (.aload_n 0, 1) := by decide +kernel
theorem dX10_countsWays_152 : decode cX10_countsWays 152 = .ok (.getfield 36, 3) := by decide +kernel
theorem dX10_countsWays_155 : decode cX10_countsWays 155 = .ok (.iload_n 3, 1) := by decide +kernel
theorem dX10_countsWays_156 : decode cX10_countsWays 156 = .ok (.aload_n 0, 1) := by decide +kernel
theorem dX10_countsWays_157 : decode cX10_countsWays 157 = .ok (.getfield 39, 3) := by decide +kernel
theorem dX10_countsWays_160 : decode cX10_countsWays 160 = .ok (.iload_n 3, 1) := by decide +kernel
theorem dX10_countsWays_161 : decode cX10_countsWays 161 = .ok (.laload, 1) := by decide +kernel
theorem dX10_countsWays_162 : decode cX10_countsWays 162 = .ok (.lastore, 1) := by decide +kernel
theorem dX10_countsWays_163 : decode cX10_countsWays 163 = .ok (.aload_n 0, 1) := by decide +kernel
theorem dX10_countsWays_164 : decode cX10_countsWays 164 = .ok (.getfield 42, 3) := by decide +kernel
theorem dX10_countsWays_167 : decode cX10_countsWays 167 = .ok (.iload_n 3, 1) := by decide +kernel
theorem dX10_countsWays_168 : decode cX10_countsWays 168 = .ok (.aload_n 0, 1) := by decide +kernel
theorem dX10_countsWays_169 : decode cX10_countsWays 169 = .ok (.getfield 42, 3) := by decide +kernel
theorem dX10_countsWays_172 : decode cX10_countsWays 172 = .ok (.iload_n 3, 1) := by decide +kernel
theorem dX10_countsWays_173 : decode cX10_countsWays 173 = .ok (.laload, 1) := by decide +kernel
theorem dX10_countsWays_174 : decode cX10_countsWays 174 = .ok (.aload_n 0, 1) := by decide +kernel
theorem dX10_countsWays_175 : decode cX10_countsWays 175 = .ok (.getfield 36, 3) := by decide +kernel
theorem dX10_countsWays_178 : decode cX10_countsWays 178 = .ok (.iload_n 3, 1) := by decide +kernel
theorem dX10_countsWays_179 : decode cX10_countsWays 179 = .ok (.laload, 1) := by decide +kernel
theorem dX10_countsWays_180 : decode cX10_countsWays 180 = .ok (.ladd, 1) := by decide +kernel
theorem dX10_countsWays_181 : decode cX10_countsWays 181 = .ok (.lastore, 1) := by decide +kernel
theorem dX10_countsWays_182 : decode cX10_countsWays 182 = .ok (.iinc 3 1, 3) := by decide +kernel
theorem dX10_countsWays_185 : decode cX10_countsWays 185 = .ok (.goto (-40), 3) := by decide +kernel
theorem dX10_countsWays_188 : decode cX10_countsWays 188 = .ok (.iinc 2 1, 3) := by decide +kernel
theorem dX10_countsWays_191 : decode cX10_countsWays 191 = .ok (.goto (-142), 3) := by decide +kernel
theorem dX10_countsWays_194 : decode cX10_countsWays 194 = .ok (.return_, 1) := by decide +kernel
theorem dX10_isNeeded_0 : decode cX10_isNeeded 0 = .ok (.aload_n 0, 1) := by decide +kernel
theorem dX10_isNeeded_1 : decode cX10_isNeeded 1 = .ok (.iload_n 1, 1) := by decide +kernel
theorem dX10_isNeeded_2 : decode cX10_isNeeded 2 = .ok (.invokevirtual 309, 3) := by decide +kernel
theorem dX10_isNeeded_5 : decode cX10_isNeeded 5 = .ok (.aload_n 0, 1) := by decide +kernel
theorem dX10_isNeeded_6 : decode cX10_isNeeded 6 = .ok (.getfield 42, 3) := by decide +kernel
theorem dX10_isNeeded_9 : decode cX10_isNeeded 9 = .ok (.iload_n 2, 1) := by decide +kernel
theorem dX10_isNeeded_10 : decode cX10_isNeeded 10 = .ok (.laload, 1) := by decide +kernel
theorem dX10_isNeeded_11 : decode cX10_isNeeded 11 = .ok (.lconst 0, 1) := by decide +kernel
theorem dX10_isNeeded_12 : decode cX10_isNeeded 12 = .ok (.lcmp, 1) := by decide +kernel
theorem dX10_isNeeded_13 : decode cX10_isNeeded 13 = .ok (.ifCond .ne 7, 3) := by decide +kernel
theorem dX10_isNeeded_16 : decode cX10_isNeeded 16 = .ok (.iconst 1, 1) := by decide +kernel
theorem dX10_isNeeded_17 : decode cX10_isNeeded 17 = .ok (.goto 4, 3) := by decide +kernel
theorem dX10_isNeeded_20 : decode cX10_isNeeded 20 = .ok (.iconst 0, 1) := by decide +kernel
theorem dX10_isNeeded_21 : decode cX10_isNeeded 21 = .ok (.ireturn, 1) := by decide +kernel
theorem dX10_neededMany_0 : decode cX10_neededMany 0 = .ok (.aload_n 0, 1) := by decide +kernel
theorem dX10_neededMany_1 : decode cX10_neededMany 1 = .ok (.getfield 17, 3) := by decide +kernel
theorem dX10_neededMany_4 : decode cX10_neededMany 4 = .ok (.iload_n 1, 1) := by decide +kernel
theorem dX10_neededMany_5 : decode cX10_neededMany 5 = .ok (.laload, 1) := by decide +kernel
theorem dX10_neededMany_6 : decode cX10_neededMany 6 = .ok (.ldc2_w 89, 3) := by decide +kernel
theorem dX10_neededMany_9 : decode cX10_neededMany 9 = .ok (.lcmp, 1) := by decide +kernel
theorem dX10_neededMany_10 : decode cX10_neededMany 10 = .ok (.ifCond .ne 6, 3) := by decide +kernel
theorem dX10_neededMany_13 : decode cX10_neededMany 13 = .ok (.bipush (-2), 2) := by decide +kernel
theorem dX10_neededMany_15 : decode cX10_neededMany 15 = .ok (.ireturn, 1) := by decide +kernel
theorem dX10_neededMany_16 : decode cX10_neededMany 16 = .ok (.iconst 0, 1) := by decide +kernel
theorem dX10_neededMany_17 : decode cX10_neededMany 17 = .ok (.istore_n 2, 1) := by decide +kernel
theorem dX10_neededMany_18 : decode cX10_neededMany 18 = .ok (.iconst 0, 1) := by decide +kernel
theorem dX10_neededMany_19 : decode cX10_neededMany 19 = .ok (.istore_n 3, 1) := by decide +kernel
theorem dX10_neededMany_20 : decode cX10_neededMany 20 = .ok (.iload_n 3, 1) := by decide +kernel
theorem dX10_neededMany_21 : decode cX10_neededMany 21 = .ok (.aload_n 0, 1) := by decide +kernel
theorem dX10_neededMany_22 : decode cX10_neededMany 22 = .ok (.getfield 7, 3) := by decide +kernel
theorem dX10_neededMany_25 : decode cX10_neededMany 25 = .ok (.iconst 1, 1) := by decide +kernel
theorem dX10_neededMany_26 : decode cX10_neededMany 26 = .ok (.iaload, 1) := by decide +kernel
theorem dX10_neededMany_27 : decode cX10_neededMany 27 = .ok (.if_icmp .ge 30, 3) := by decide +kernel
theorem dX10_neededMany_30 : decode cX10_neededMany 30 = .ok (.aload_n 0, 1) := by decide +kernel
theorem dX10_neededMany_31 : decode cX10_neededMany 31 = .ok (.iload_n 3, 1) := by decide +kernel
theorem dX10_neededMany_32 : decode cX10_neededMany 32 = .ok (.invokevirtual 303, 3) := by decide +kernel
theorem dX10_neededMany_35 : decode cX10_neededMany 35 = .ok (.ifCond .eq 16, 3) := by decide +kernel
theorem dX10_neededMany_38 : decode cX10_neededMany 38 = .ok (.aload_n 0, 1) := by decide +kernel
theorem dX10_neededMany_39 : decode cX10_neededMany 39 = .ok (.iload_n 3, 1) := by decide +kernel
theorem dX10_neededMany_40 : decode cX10_neededMany 40 = .ok (.iload_n 1, 1) := by decide +kernel
theorem dX10_neededMany_41 : decode cX10_neededMany 41 = .ok (.invokevirtual 312, 3) := by decide +kernel
theorem dX10_neededMany_44 : decode cX10_neededMany 44 = .ok (.ifCond .eq 7, 3) := by decide +kernel
theorem dX10_neededMany_47 : decode cX10_neededMany 47 = .ok (.iload_n 2, 1) := by decide +kernel
theorem dX10_neededMany_48 : decode cX10_neededMany 48 = .ok (.iconst 1, 1) := by decide +kernel
theorem dX10_neededMany_49 : decode cX10_neededMany 49 = .ok (.iadd, 1) := by decide +kernel
theorem dX10_neededMany_50 : decode cX10_neededMany 50 = .ok (.istore_n 2, 1) := by decide +kernel
theorem dX10_neededMany_51 : decode cX10_neededMany 51 = .ok (.iinc 3 1, 3) := by decide +kernel
theorem dX10_neededMany_54 : decode cX10_neededMany 54 = .ok (.goto (-34), 3) := by decide +kernel
theorem dX10_neededMany_57 : decode cX10_neededMany 57 = .ok (.iload_n 2, 1) := by decide +kernel
theorem dX10_neededMany_58 : decode cX10_neededMany 58 = .ok (.ireturn, 1) := by decide +kernel
theorem dX10_dearestOf_0 : decode cX10_dearestOf 0 = .ok (.aload_n 0, 1) := by decide +kernel
theorem dX10_dearestOf_1 : decode cX10_dearestOf 1 = .ok (.iload_n 1, 1) := by decide +kernel
theorem dX10_dearestOf_2 : decode cX10_dearestOf 2 = .ok (.invokevirtual 315, 3) := by decide +kernel
theorem dX10_dearestOf_5 : decode cX10_dearestOf 5 = .ok (.istore_n 2, 1) := by decide +kernel
theorem dX10_dearestOf_6 : decode cX10_dearestOf 6 = .ok (.iload_n 2, 1) := by decide +kernel
theorem dX10_dearestOf_7 : decode cX10_dearestOf 7 = .ok (.iconst 1, 1) := by decide +kernel
theorem dX10_dearestOf_8 : decode cX10_dearestOf 8 = .ok (.if_icmp .ge 6, 3) := by decide +kernel
theorem dX10_dearestOf_11 : decode cX10_dearestOf 11 = .ok (.bipush (-2), 2) := by decide +kernel
theorem dX10_dearestOf_13 : decode cX10_dearestOf 13 = .ok (.ireturn, 1) := by decide +kernel
theorem dX10_dearestOf_14 : decode cX10_dearestOf 14 = .ok (.iconst (-1), 1) := by decide +kernel
theorem dX10_dearestOf_15 : decode cX10_dearestOf 15 = .ok (.istore_n 3, 1) := by decide +kernel
theorem dX10_dearestOf_16 : decode cX10_dearestOf 16 = .ok (.lconst 0, 1) := by decide +kernel
theorem dX10_dearestOf_17 : decode cX10_dearestOf 17 = .ok (.lstore 4, 2) := by decide +kernel
theorem dX10_dearestOf_19 : decode cX10_dearestOf 19 = .ok (.iconst 0, 1) := by decide +kernel
theorem dX10_dearestOf_20 : decode cX10_dearestOf 20 = .ok (.istore 6, 2) := by decide +kernel
theorem dX10_dearestOf_22 : decode cX10_dearestOf 22 = .ok (.iload 6, 2) := by decide +kernel
theorem dX10_dearestOf_24 : decode cX10_dearestOf 24 = .ok (.iload_n 2, 1) := by decide +kernel
theorem dX10_dearestOf_25 : decode cX10_dearestOf 25 = .ok (.if_icmp .ge 85, 3) := by decide +kernel
theorem dX10_dearestOf_28 : decode cX10_dearestOf 28 = .ok (.aload_n 0, 1) := by decide +kernel
theorem dX10_dearestOf_29 : decode cX10_dearestOf 29 = .ok (.aload_n 0, 1) := by decide +kernel
theorem dX10_dearestOf_30 : decode cX10_dearestOf 30 = .ok (.getfield 7, 3) := by decide +kernel
theorem dX10_dearestOf_33 : decode cX10_dearestOf 33 = .ok (.iconst 2, 1) := by decide +kernel
theorem dX10_dearestOf_34 : decode cX10_dearestOf 34 = .ok (.iaload, 1) := by decide +kernel
theorem dX10_dearestOf_35 : decode cX10_dearestOf 35 = .ok (.aload_n 0, 1) := by decide +kernel
theorem dX10_dearestOf_36 : decode cX10_dearestOf 36 = .ok (.getfield 33, 3) := by decide +kernel
theorem dX10_dearestOf_39 : decode cX10_dearestOf 39 = .ok (.iload 6, 2) := by decide +kernel
theorem dX10_dearestOf_41 : decode cX10_dearestOf 41 = .ok (.iaload, 1) := by decide +kernel
theorem dX10_dearestOf_42 : decode cX10_dearestOf 42 = .ok (.invokevirtual 95, 3) := by decide +kernel
theorem dX10_dearestOf_45 : decode cX10_dearestOf 45 = .ok (.iload_n 3, 1) := by decide +kernel
theorem dX10_dearestOf_46 : decode cX10_dearestOf 46 = .ok (.iconst (-1), 1) := by decide +kernel
theorem dX10_dearestOf_47 : decode cX10_dearestOf 47 = .ok (.if_icmp .eq 41, 3) := by decide +kernel
theorem dX10_dearestOf_50 : decode cX10_dearestOf 50 = .ok (.aload_n 0, 1) := by decide +kernel
theorem dX10_dearestOf_51 : decode cX10_dearestOf 51 = .ok (.getfield 13, 3) := by decide +kernel
theorem dX10_dearestOf_54 : decode cX10_dearestOf 54 = .ok (.iload_n 1, 1) := by decide +kernel
theorem dX10_dearestOf_55 : decode cX10_dearestOf 55 = .ok (.laload, 1) := by decide +kernel
theorem dX10_dearestOf_56 : decode cX10_dearestOf 56 = .ok (.lload 4, 2) := by decide +kernel
theorem dX10_dearestOf_58 : decode cX10_dearestOf 58 = .ok (.lcmp, 1) := by decide +kernel
theorem dX10_dearestOf_59 : decode cX10_dearestOf 59 = .ok (.ifCond .lt 45, 3) := by decide +kernel
theorem dX10_dearestOf_62 : decode cX10_dearestOf 62 = .ok (.aload_n 0, 1) := by decide +kernel
theorem dX10_dearestOf_63 : decode cX10_dearestOf 63 = .ok (.getfield 13, 3) := by decide +kernel
theorem dX10_dearestOf_66 : decode cX10_dearestOf 66 = .ok (.iload_n 1, 1) := by decide +kernel
theorem dX10_dearestOf_67 : decode cX10_dearestOf 67 = .ok (.laload, 1) := by decide +kernel
theorem dX10_dearestOf_68 : decode cX10_dearestOf 68 = .ok (.lload 4, 2) := by decide +kernel
theorem dX10_dearestOf_70 : decode cX10_dearestOf 70 = .ok (.lcmp, 1) := by decide +kernel
theorem dX10_dearestOf_71 : decode cX10_dearestOf 71 = .ok (.ifCond .ne 17, 3) := by decide +kernel
theorem dX10_dearestOf_74 : decode cX10_dearestOf 74 = .ok (.aload_n 0, 1) := by decide +kernel
theorem dX10_dearestOf_75 : decode cX10_dearestOf 75 = .ok (.getfield 33, 3) := by decide +kernel
theorem dX10_dearestOf_78 : decode cX10_dearestOf 78 = .ok (.iload 6, 2) := by decide +kernel
theorem dX10_dearestOf_80 : decode cX10_dearestOf 80 = .ok (.iaload, 1) := by decide +kernel
theorem dX10_dearestOf_81 : decode cX10_dearestOf 81 = .ok (.iload_n 3, 1) := by decide +kernel
theorem dX10_dearestOf_82 : decode cX10_dearestOf 82 = .ok (.if_icmp .le 6, 3) := by decide +kernel
theorem dX10_dearestOf_85 : decode cX10_dearestOf 85 = .ok (.goto 19, 3) := by decide +kernel
theorem dX10_dearestOf_88 : decode cX10_dearestOf 88 = .ok (.aload_n 0, 1) := by decide +kernel
theorem dX10_dearestOf_89 : decode cX10_dearestOf 89 = .ok (.getfield 33, 3) := by decide +kernel
theorem dX10_dearestOf_92 : decode cX10_dearestOf 92 = .ok (.iload 6, 2) := by decide +kernel
theorem dX10_dearestOf_94 : decode cX10_dearestOf 94 = .ok (.iaload, 1) := by decide +kernel
theorem dX10_dearestOf_95 : decode cX10_dearestOf 95 = .ok (.istore_n 3, 1) := by decide +kernel
theorem dX10_dearestOf_96 : decode cX10_dearestOf 96 = .ok (.aload_n 0, 1) := by decide +kernel
theorem dX10_dearestOf_97 : decode cX10_dearestOf 97 = .ok (.getfield 13, 3) := by decide +kernel
theorem dX10_dearestOf_100 : decode cX10_dearestOf 100 = .ok (.iload_n 1, 1) := by decide +kernel
theorem dX10_dearestOf_101 : decode cX10_dearestOf 101 = .ok (.laload, 1) := by decide +kernel
theorem dX10_dearestOf_102 : decode cX10_dearestOf 102 = .ok (.lstore 4, 2) := by decide +kernel
theorem dX10_dearestOf_104 : decode cX10_dearestOf 104 = .ok (.iinc 6 1, 3) := by decide +kernel
theorem dX10_dearestOf_107 : decode cX10_dearestOf 107 = .ok (.goto (-85), 3) := by decide +kernel
theorem dX10_dearestOf_110 : decode cX10_dearestOf 110 = .ok (.iload_n 3, 1) := by decide +kernel
theorem dX10_dearestOf_111 : decode cX10_dearestOf 111 = .ok (.ireturn, 1) := by decide +kernel
theorem dX10_belowOf_0 : decode cX10_belowOf 0 = .ok (.iconst 0, 1) := by decide +kernel
theorem dX10_belowOf_1 : decode cX10_belowOf 1 = .ok (.istore_n 2, 1) := by decide +kernel
theorem dX10_belowOf_2 : decode cX10_belowOf 2 = .ok (.iconst 0, 1) := by decide +kernel
theorem dX10_belowOf_3 : decode cX10_belowOf 3 = .ok (.istore_n 3, 1) := by decide +kernel
theorem dX10_belowOf_4 : decode cX10_belowOf 4 = .ok (.iload_n 3, 1) := by decide +kernel
theorem dX10_belowOf_5 : decode cX10_belowOf 5 = .ok (.aload_n 0, 1) := by decide +kernel
theorem dX10_belowOf_6 : decode cX10_belowOf 6 = .ok (.invokevirtual 77, 3) := by decide +kernel
theorem dX10_belowOf_9 : decode cX10_belowOf 9 = .ok (.if_icmp .ge 76, 3) := by decide +kernel
theorem dX10_belowOf_12 : decode cX10_belowOf 12 = .ok (.iload_n 3, 1) := by decide +kernel
theorem dX10_belowOf_13 : decode cX10_belowOf 13 = .ok (.iload_n 1, 1) := by decide +kernel
theorem dX10_belowOf_14 : decode cX10_belowOf 14 = .ok (.if_icmp .eq 65, 3) := by decide +kernel
theorem dX10_belowOf_17 : decode cX10_belowOf 17 = .ok (.aload_n 0, 1) := by decide +kernel
theorem dX10_belowOf_18 : decode cX10_belowOf 18 = .ok (.getfield 17, 3) := by decide +kernel
theorem dX10_belowOf_21 : decode cX10_belowOf 21 = .ok (.iload_n 3, 1) := by decide +kernel
theorem dX10_belowOf_22 : decode cX10_belowOf 22 = .ok (.laload, 1) := by decide +kernel
theorem dX10_belowOf_23 : decode cX10_belowOf 23 = .ok (.ldc2_w 89, 3) := by decide +kernel
theorem dX10_belowOf_26 : decode cX10_belowOf 26 = .ok (.lcmp, 1) := by decide +kernel
theorem dX10_belowOf_27 : decode cX10_belowOf 27 = .ok (.ifCond .ne 6, 3) := by decide +kernel
theorem dX10_belowOf_30 : decode cX10_belowOf 30 = .ok (.goto 49, 3) := by decide +kernel
theorem dX10_belowOf_33 : decode cX10_belowOf 33 = .ok (.iload_n 3, 1) := by decide +kernel
theorem dX10_belowOf_34 : decode cX10_belowOf 34 = .ok (.istore 4, 2) := by decide +kernel
theorem dX10_belowOf_36 : decode cX10_belowOf 36 = .ok (.iload 4, 2) := by decide +kernel
theorem dX10_belowOf_38 : decode cX10_belowOf 38 = .ok (.iload_n 1, 1) := by decide +kernel
theorem dX10_belowOf_39 : decode cX10_belowOf 39 = .ok (.if_icmp .eq 30, 3) := by decide +kernel
theorem dX10_belowOf_42 : decode cX10_belowOf 42 = .ok (.iload 4, 2) := by decide +kernel
theorem dX10_belowOf_44 : decode cX10_belowOf 44 = .ok (.aload_n 0, 1) := by decide +kernel
theorem dX10_belowOf_45 : decode cX10_belowOf 45 = .ok (.getfield 7, 3) := by decide +kernel
theorem dX10_belowOf_48 : decode cX10_belowOf 48 = .ok (.iconst 2, 1) := by decide +kernel
theorem dX10_belowOf_49 : decode cX10_belowOf 49 = .ok (.iaload, 1) := by decide +kernel
theorem dX10_belowOf_50 : decode cX10_belowOf 50 = .ok (.if_icmp .eq 19, 3) := by decide +kernel
theorem dX10_belowOf_53 : decode cX10_belowOf 53 = .ok (.aload_n 0, 1) := by decide +kernel
theorem dX10_belowOf_54 : decode cX10_belowOf 54 = .ok (.aload_n 0, 1) := by decide +kernel
theorem dX10_belowOf_55 : decode cX10_belowOf 55 = .ok (.iload 4, 2) := by decide +kernel
theorem dX10_belowOf_57 : decode cX10_belowOf 57 = .ok (.invokevirtual 306, 3) := by decide +kernel
theorem dX10_belowOf_60 : decode cX10_belowOf 60 = .ok (.iconst 0, 1) := by decide +kernel
theorem dX10_belowOf_61 : decode cX10_belowOf 61 = .ok (.invokevirtual 73, 3) := by decide +kernel
theorem dX10_belowOf_64 : decode cX10_belowOf 64 = .ok (.istore 4, 2) := by decide +kernel
theorem dX10_belowOf_66 : decode cX10_belowOf 66 = .ok (.goto (-30), 3) := by decide +kernel
theorem dX10_belowOf_69 : decode cX10_belowOf 69 = .ok (.iload 4, 2) := by decide +kernel
theorem dX10_belowOf_71 : decode cX10_belowOf 71 = .ok (.iload_n 1, 1) := by decide +kernel
theorem dX10_belowOf_72 : decode cX10_belowOf 72 = .ok (.if_icmp .ne 7, 3) := by decide +kernel
theorem dX10_belowOf_75 : decode cX10_belowOf 75 = .ok (.iload_n 2, 1) := by decide +kernel
theorem dX10_belowOf_76 : decode cX10_belowOf 76 = .ok (.iconst 1, 1) := by decide +kernel
theorem dX10_belowOf_77 : decode cX10_belowOf 77 = .ok (.iadd, 1) := by decide +kernel
theorem dX10_belowOf_78 : decode cX10_belowOf 78 = .ok (.istore_n 2, 1) := by decide +kernel
theorem dX10_belowOf_79 : decode cX10_belowOf 79 = .ok (.iinc 3 1, 3) := by decide +kernel
theorem dX10_belowOf_82 : decode cX10_belowOf 82 = .ok (.goto (-78), 3) := by decide +kernel
theorem dX10_belowOf_85 : decode cX10_belowOf 85 = .ok (.iload_n 2, 1) := by decide +kernel
theorem dX10_belowOf_86 : decode cX10_belowOf 86 = .ok (.ireturn, 1) := by decide +kernel
theorem dX10_findsLeft_0 : decode cX10_findsLeft 0 = .ok (.iconst 0, 1) := by decide +kernel
theorem dX10_findsLeft_1 : decode cX10_findsLeft 1 = .ok (.istore_n 2, 1) := by decide +kernel
theorem dX10_findsLeft_2 : decode cX10_findsLeft 2 = .ok (.iload_n 2, 1) := by decide +kernel
theorem dX10_findsLeft_3 : decode cX10_findsLeft 3 = .ok (.aload_n 0, 1) := by decide +kernel
theorem dX10_findsLeft_4 : decode cX10_findsLeft 4 = .ok (.invokevirtual 77, 3) := by decide +kernel
theorem dX10_findsLeft_7 : decode cX10_findsLeft 7 = .ok (.if_icmp .ge 27, 3) := by decide +kernel
theorem dX10_findsLeft_10 : decode cX10_findsLeft 10 = .ok (.aload_n 0, 1) := by decide +kernel
theorem dX10_findsLeft_11 : decode cX10_findsLeft 11 = .ok (.iload_n 2, 1) := by decide +kernel
theorem dX10_findsLeft_12 : decode cX10_findsLeft 12 = .ok (.iconst (-1), 1) := by decide +kernel
theorem dX10_findsLeft_13 : decode cX10_findsLeft 13 = .ok (.invokevirtual 95, 3) := by decide +kernel
theorem dX10_findsLeft_16 : decode cX10_findsLeft 16 = .ok (.aload_n 0, 1) := by decide +kernel
theorem dX10_findsLeft_17 : decode cX10_findsLeft 17 = .ok (.getfield 45, 3) := by decide +kernel
theorem dX10_findsLeft_20 : decode cX10_findsLeft 20 = .ok (.iload_n 2, 1) := by decide +kernel
theorem dX10_findsLeft_21 : decode cX10_findsLeft 21 = .ok (.aload_n 0, 1) := by decide +kernel
theorem dX10_findsLeft_22 : decode cX10_findsLeft 22 = .ok (.getfield 13, 3) := by decide +kernel
theorem dX10_findsLeft_25 : decode cX10_findsLeft 25 = .ok (.iload_n 1, 1) := by decide +kernel
theorem dX10_findsLeft_26 : decode cX10_findsLeft 26 = .ok (.laload, 1) := by decide +kernel
theorem dX10_findsLeft_27 : decode cX10_findsLeft 27 = .ok (.lastore, 1) := by decide +kernel
theorem dX10_findsLeft_28 : decode cX10_findsLeft 28 = .ok (.iinc 2 1, 3) := by decide +kernel
theorem dX10_findsLeft_31 : decode cX10_findsLeft 31 = .ok (.goto (-29), 3) := by decide +kernel
theorem dX10_findsLeft_34 : decode cX10_findsLeft 34 = .ok (.return_, 1) := by decide +kernel
theorem dX10_nextOf_0 : decode cX10_nextOf 0 = .ok (.aload_n 0, 1) := by decide +kernel
theorem dX10_nextOf_1 : decode cX10_nextOf 1 = .ok (.getfield 17, 3) := by decide +kernel
theorem dX10_nextOf_4 : decode cX10_nextOf 4 = .ok (.iload_n 1, 1) := by decide +kernel
theorem dX10_nextOf_5 : decode cX10_nextOf 5 = .ok (.laload, 1) := by decide +kernel
theorem dX10_nextOf_6 : decode cX10_nextOf 6 = .ok (.ldc2_w 89, 3) := by decide +kernel
theorem dX10_nextOf_9 : decode cX10_nextOf 9 = .ok (.lcmp, 1) := by decide +kernel
theorem dX10_nextOf_10 : decode cX10_nextOf 10 = .ok (.ifCond .eq 13, 3) := by decide +kernel
theorem dX10_nextOf_13 : decode cX10_nextOf 13 = .ok (.iload_n 1, 1) := by decide +kernel
theorem dX10_nextOf_14 : decode cX10_nextOf 14 = .ok (.aload_n 0, 1) := by decide +kernel
theorem dX10_nextOf_15 : decode cX10_nextOf 15 = .ok (.getfield 7, 3) := by decide +kernel
theorem dX10_nextOf_18 : decode cX10_nextOf 18 = .ok (.iconst 2, 1) := by decide +kernel
theorem dX10_nextOf_19 : decode cX10_nextOf 19 = .ok (.iaload, 1) := by decide +kernel
theorem dX10_nextOf_20 : decode cX10_nextOf 20 = .ok (.if_icmp .ne 7, 3) := by decide +kernel
theorem dX10_nextOf_23 : decode cX10_nextOf 23 = .ok (.ldc2_w 89, 3) := by decide +kernel
theorem dX10_nextOf_26 : decode cX10_nextOf 26 = .ok (.lreturn, 1) := by decide +kernel
theorem dX10_nextOf_27 : decode cX10_nextOf 27 = .ok (.aload_n 0, 1) := by decide +kernel
theorem dX10_nextOf_28 : decode cX10_nextOf 28 = .ok (.iload_n 1, 1) := by decide +kernel
theorem dX10_nextOf_29 : decode cX10_nextOf 29 = .ok (.invokevirtual 318, 3) := by decide +kernel
theorem dX10_nextOf_32 : decode cX10_nextOf 32 = .ok (.ldc2_w 89, 3) := by decide +kernel
theorem dX10_nextOf_35 : decode cX10_nextOf 35 = .ok (.lstore_n 2, 1) := by decide +kernel
theorem dX10_nextOf_36 : decode cX10_nextOf 36 = .ok (.lconst 0, 1) := by decide +kernel
theorem dX10_nextOf_37 : decode cX10_nextOf 37 = .ok (.lstore 4, 2) := by decide +kernel
theorem dX10_nextOf_39 : decode cX10_nextOf 39 = .ok (.iconst 0, 1) := by decide +kernel
theorem dX10_nextOf_40 : decode cX10_nextOf 40 = .ok (.istore 6, 2) := by decide +kernel
theorem dX10_nextOf_42 : decode cX10_nextOf 42 = .ok (.iconst 1, 1) := by decide +kernel
theorem dX10_nextOf_43 : decode cX10_nextOf 43 = .ok (.aload_n 0, 1) := by decide +kernel
theorem dX10_nextOf_44 : decode cX10_nextOf 44 = .ok (.getfield 7, 3) := by decide +kernel
theorem dX10_nextOf_47 : decode cX10_nextOf 47 = .ok (.iconst 2, 1) := by decide +kernel
theorem dX10_nextOf_48 : decode cX10_nextOf 48 = .ok (.iaload, 1) := by decide +kernel
theorem dX10_nextOf_49 : decode cX10_nextOf 49 = .ok (.ishl, 1) := by decide +kernel
theorem dX10_nextOf_50 : decode cX10_nextOf 50 = .ok (.istore 7, 2) := by decide +kernel
theorem dX10_nextOf_52 : decode cX10_nextOf 52 = .ok (.aload_n 0, 1) := by decide +kernel
theorem dX10_nextOf_53 : decode cX10_nextOf 53 = .ok (.getfield 48, 3) := by decide +kernel
theorem dX10_nextOf_56 : decode cX10_nextOf 56 = .ok (.iconst 0, 1) := by decide +kernel
theorem dX10_nextOf_57 : decode cX10_nextOf 57 = .ok (.aload_n 0, 1) := by decide +kernel
theorem dX10_nextOf_58 : decode cX10_nextOf 58 = .ok (.getfield 7, 3) := by decide +kernel
theorem dX10_nextOf_61 : decode cX10_nextOf 61 = .ok (.iconst 2, 1) := by decide +kernel
theorem dX10_nextOf_62 : decode cX10_nextOf 62 = .ok (.iaload, 1) := by decide +kernel
theorem dX10_nextOf_63 : decode cX10_nextOf 63 = .ok (.iastore, 1) := by decide +kernel
theorem dX10_nextOf_64 : decode cX10_nextOf 64 = .ok (.aload_n 0, 1) := by decide +kernel
theorem dX10_nextOf_65 : decode cX10_nextOf 65 = .ok (.getfield 51, 3) := by decide +kernel
theorem dX10_nextOf_68 : decode cX10_nextOf 68 = .ok (.iconst 0, 1) := by decide +kernel
theorem dX10_nextOf_69 : decode cX10_nextOf 69 = .ok (.iconst 0, 1) := by decide +kernel
theorem dX10_nextOf_70 : decode cX10_nextOf 70 = .ok (.iastore, 1) := by decide +kernel
theorem dX10_nextOf_71 : decode cX10_nextOf 71 = .ok (.iload 6, 2) := by decide +kernel
theorem dX10_nextOf_73 : decode cX10_nextOf 73 = .ok (.ifCond .lt 260, 3) := by decide +kernel
theorem dX10_nextOf_76 : decode cX10_nextOf 76 = .ok (.aload_n 0, 1) := by decide +kernel
theorem dX10_nextOf_77 : decode cX10_nextOf 77 = .ok (.getfield 51, 3) := by decide +kernel
theorem dX10_nextOf_80 : decode cX10_nextOf 80 = .ok (.iload 6, 2) := by decide +kernel
theorem dX10_nextOf_82 : decode cX10_nextOf 82 = .ok (.iaload, 1) := by decide +kernel
theorem dX10_nextOf_83 : decode cX10_nextOf 83 = .ok (.istore 8, 2) := by decide +kernel
theorem dX10_nextOf_85 : decode cX10_nextOf 85 = .ok (.iload 8, 2) := by decide +kernel
theorem dX10_nextOf_87 : decode cX10_nextOf 87 = .ok (.aload_n 0, 1) := by decide +kernel
theorem dX10_nextOf_88 : decode cX10_nextOf 88 = .ok (.getfield 7, 3) := by decide +kernel
theorem dX10_nextOf_91 : decode cX10_nextOf 91 = .ok (.iconst 1, 1) := by decide +kernel
theorem dX10_nextOf_92 : decode cX10_nextOf 92 = .ok (.iaload, 1) := by decide +kernel
theorem dX10_nextOf_93 : decode cX10_nextOf 93 = .ok (.if_icmp .ne 58, 3) := by decide +kernel
theorem dX10_nextOf_96 : decode cX10_nextOf 96 = .ok (.iload 6, 2) := by decide +kernel
theorem dX10_nextOf_98 : decode cX10_nextOf 98 = .ok (.iconst 1, 1) := by decide +kernel
theorem dX10_nextOf_99 : decode cX10_nextOf 99 = .ok (.isub, 1) := by decide +kernel
theorem dX10_nextOf_100 : decode cX10_nextOf 100 = .ok (.istore 6, 2) := by decide +kernel
theorem dX10_nextOf_102 : decode cX10_nextOf 102 = .ok (.iload 6, 2) := by decide +kernel
theorem dX10_nextOf_104 : decode cX10_nextOf 104 = .ok (.ifCond .ge 6, 3) := by decide +kernel
theorem dX10_nextOf_107 : decode cX10_nextOf 107 = .ok (.goto (-36), 3) := by decide +kernel
theorem dX10_nextOf_110 : decode cX10_nextOf 110 = .ok (.iload 7, 2) := by decide +kernel
theorem dX10_nextOf_112 : decode cX10_nextOf 112 = .ok (.iconst 1, 1) := by decide +kernel
theorem dX10_nextOf_113 : decode cX10_nextOf 113 = .ok (.aload_n 0, 1) := by decide +kernel
theorem dX10_nextOf_114 : decode cX10_nextOf 114 = .ok (.getfield 48, 3) := by decide +kernel
theorem dX10_nextOf_117 : decode cX10_nextOf 117 = .ok (.iload 6, 2) := by decide +kernel
theorem dX10_nextOf_119 : decode cX10_nextOf 119 = .ok (.iconst 1, 1) := by decide +kernel
theorem dX10_nextOf_120 : decode cX10_nextOf 120 = .ok (.iadd, 1) := by decide +kernel
theorem dX10_nextOf_121 : decode cX10_nextOf 121 = .ok (.iaload, 1) := by decide +kernel
theorem dX10_nextOf_122 : decode cX10_nextOf 122 = .ok (.ishl, 1) := by decide +kernel
theorem dX10_nextOf_123 : decode cX10_nextOf 123 = .ok (.iconst (-1), 1) := by decide +kernel
theorem dX10_nextOf_124 : decode cX10_nextOf 124 = .ok (.ixor, 1) := by decide +kernel
theorem dX10_nextOf_125 : decode cX10_nextOf 125 = .ok (.iand, 1) := by decide +kernel
theorem dX10_nextOf_126 : decode cX10_nextOf 126 = .ok (.istore 7, 2) := by decide +kernel
theorem dX10_nextOf_128 : decode cX10_nextOf 128 = .ok (.lload 4, 2) := by decide +kernel
theorem dX10_nextOf_130 : decode cX10_nextOf 130 = .ok (.aload_n 0, 1) := by decide +kernel
theorem dX10_nextOf_131 : decode cX10_nextOf 131 = .ok (.aload_n 0, 1) := by decide +kernel
theorem dX10_nextOf_132 : decode cX10_nextOf 132 = .ok (.getfield 51, 3) := by decide +kernel
theorem dX10_nextOf_135 : decode cX10_nextOf 135 = .ok (.iload 6, 2) := by decide +kernel
theorem dX10_nextOf_137 : decode cX10_nextOf 137 = .ok (.iaload, 1) := by decide +kernel
theorem dX10_nextOf_138 : decode cX10_nextOf 138 = .ok (.iconst 1, 1) := by decide +kernel
theorem dX10_nextOf_139 : decode cX10_nextOf 139 = .ok (.isub, 1) := by decide +kernel
theorem dX10_nextOf_140 : decode cX10_nextOf 140 = .ok (.iconst 2, 1) := by decide +kernel
theorem dX10_nextOf_141 : decode cX10_nextOf 141 = .ok (.invokevirtual 73, 3) := by decide +kernel
theorem dX10_nextOf_144 : decode cX10_nextOf 144 = .ok (.i2l, 1) := by decide +kernel
theorem dX10_nextOf_145 : decode cX10_nextOf 145 = .ok (.lsub, 1) := by decide +kernel
theorem dX10_nextOf_146 : decode cX10_nextOf 146 = .ok (.lstore 4, 2) := by decide +kernel
theorem dX10_nextOf_148 : decode cX10_nextOf 148 = .ok (.goto (-77), 3) := by decide +kernel
theorem dX10_nextOf_151 : decode cX10_nextOf 151 = .ok (.aload_n 0, 1) := by decide +kernel
theorem dX10_nextOf_152 : decode cX10_nextOf 152 = .ok (.getfield 51, 3) := by decide +kernel
theorem dX10_nextOf_155 : decode cX10_nextOf 155 = .ok (.iload 6, 2) := by decide +kernel
theorem dX10_nextOf_157 : decode cX10_nextOf 157 = .ok (.iload 8, 2) := by decide +kernel
theorem dX10_nextOf_159 : decode cX10_nextOf 159 = .ok (.iconst 1, 1) := by decide +kernel
theorem dX10_nextOf_160 : decode cX10_nextOf 160 = .ok (.iadd, 1) := by decide +kernel
theorem dX10_nextOf_161 : decode cX10_nextOf 161 = .ok (.iastore, 1) := by decide +kernel
theorem dX10_nextOf_162 : decode cX10_nextOf 162 = .ok (.aload_n 0, 1) := by decide +kernel
theorem dX10_nextOf_163 : decode cX10_nextOf 163 = .ok (.iload 8, 2) := by decide +kernel
theorem dX10_nextOf_165 : decode cX10_nextOf 165 = .ok (.invokevirtual 91, 3) := by decide +kernel
theorem dX10_nextOf_168 : decode cX10_nextOf 168 = .ok (.ifCond .eq (-97), 3) := by decide +kernel
theorem dX10_nextOf_171 : decode cX10_nextOf 171 = .ok (.aload_n 0, 1) := by decide +kernel
theorem dX10_nextOf_172 : decode cX10_nextOf 172 = .ok (.iload 8, 2) := by decide +kernel
theorem dX10_nextOf_174 : decode cX10_nextOf 174 = .ok (.iconst 0, 1) := by decide +kernel
theorem dX10_nextOf_175 : decode cX10_nextOf 175 = .ok (.invokevirtual 73, 3) := by decide +kernel
theorem dX10_nextOf_178 : decode cX10_nextOf 178 = .ok (.aload_n 0, 1) := by decide +kernel
theorem dX10_nextOf_179 : decode cX10_nextOf 179 = .ok (.getfield 48, 3) := by decide +kernel
theorem dX10_nextOf_182 : decode cX10_nextOf 182 = .ok (.iload 6, 2) := by decide +kernel
theorem dX10_nextOf_184 : decode cX10_nextOf 184 = .ok (.iaload, 1) := by decide +kernel
theorem dX10_nextOf_185 : decode cX10_nextOf 185 = .ok (.if_icmp .ne (-114), 3) := by decide +kernel
theorem dX10_nextOf_188 : decode cX10_nextOf 188 = .ok (.iload 7, 2) := by decide +kernel
theorem dX10_nextOf_190 : decode cX10_nextOf 190 = .ok (.aload_n 0, 1) := by decide +kernel
theorem dX10_nextOf_191 : decode cX10_nextOf 191 = .ok (.iload 8, 2) := by decide +kernel
theorem dX10_nextOf_193 : decode cX10_nextOf 193 = .ok (.iconst 1, 1) := by decide +kernel
theorem dX10_nextOf_194 : decode cX10_nextOf 194 = .ok (.invokevirtual 73, 3) := by decide +kernel
theorem dX10_nextOf_197 : decode cX10_nextOf 197 = .ok (.invokestatic 321, 3) := by decide +kernel
theorem dX10_nextOf_200 : decode cX10_nextOf 200 = .ok (.ifCond .eq 6, 3) := by decide +kernel
theorem dX10_nextOf_203 : decode cX10_nextOf 203 = .ok (.goto (-132), 3) := by decide +kernel
theorem dX10_nextOf_206 : decode cX10_nextOf 206 = .ok (.lload 4, 2) := by decide +kernel
theorem dX10_nextOf_208 : decode cX10_nextOf 208 = .ok (.aload_n 0, 1) := by decide +kernel
theorem dX10_nextOf_209 : decode cX10_nextOf 209 = .ok (.iload 8, 2) := by decide +kernel
theorem dX10_nextOf_211 : decode cX10_nextOf 211 = .ok (.iconst 2, 1) := by decide +kernel
theorem dX10_nextOf_212 : decode cX10_nextOf 212 = .ok (.invokevirtual 73, 3) := by decide +kernel
theorem dX10_nextOf_215 : decode cX10_nextOf 215 = .ok (.i2l, 1) := by decide +kernel
theorem dX10_nextOf_216 : decode cX10_nextOf 216 = .ok (.ladd, 1) := by decide +kernel
theorem dX10_nextOf_217 : decode cX10_nextOf 217 = .ok (.lstore 9, 2) := by decide +kernel
theorem dX10_nextOf_219 : decode cX10_nextOf 219 = .ok (.aload_n 0, 1) := by decide +kernel
theorem dX10_nextOf_220 : decode cX10_nextOf 220 = .ok (.iload 8, 2) := by decide +kernel
theorem dX10_nextOf_222 : decode cX10_nextOf 222 = .ok (.iconst 1, 1) := by decide +kernel
theorem dX10_nextOf_223 : decode cX10_nextOf 223 = .ok (.invokevirtual 73, 3) := by decide +kernel
theorem dX10_nextOf_226 : decode cX10_nextOf 226 = .ok (.istore 11, 2) := by decide +kernel
theorem dX10_nextOf_228 : decode cX10_nextOf 228 = .ok (.iload 11, 2) := by decide +kernel
theorem dX10_nextOf_230 : decode cX10_nextOf 230 = .ok (.iload_n 1, 1) := by decide +kernel
theorem dX10_nextOf_231 : decode cX10_nextOf 231 = .ok (.if_icmp .ne 25, 3) := by decide +kernel
theorem dX10_nextOf_234 : decode cX10_nextOf 234 = .ok (.lload 9, 2) := by decide +kernel
theorem dX10_nextOf_236 : decode cX10_nextOf 236 = .ok (.aload_n 0, 1) := by decide +kernel
theorem dX10_nextOf_237 : decode cX10_nextOf 237 = .ok (.getfield 17, 3) := by decide +kernel
theorem dX10_nextOf_240 : decode cX10_nextOf 240 = .ok (.iload_n 1, 1) := by decide +kernel
theorem dX10_nextOf_241 : decode cX10_nextOf 241 = .ok (.laload, 1) := by decide +kernel
theorem dX10_nextOf_242 : decode cX10_nextOf 242 = .ok (.lcmp, 1) := by decide +kernel
theorem dX10_nextOf_243 : decode cX10_nextOf 243 = .ok (.ifCond .le 13, 3) := by decide +kernel
theorem dX10_nextOf_246 : decode cX10_nextOf 246 = .ok (.lload 9, 2) := by decide +kernel
theorem dX10_nextOf_248 : decode cX10_nextOf 248 = .ok (.lload_n 2, 1) := by decide +kernel
theorem dX10_nextOf_249 : decode cX10_nextOf 249 = .ok (.lcmp, 1) := by decide +kernel
theorem dX10_nextOf_250 : decode cX10_nextOf 250 = .ok (.ifCond .ge 6, 3) := by decide +kernel
theorem dX10_nextOf_253 : decode cX10_nextOf 253 = .ok (.lload 9, 2) := by decide +kernel
theorem dX10_nextOf_255 : decode cX10_nextOf 255 = .ok (.lstore_n 2, 1) := by decide +kernel
theorem dX10_nextOf_256 : decode cX10_nextOf 256 = .ok (.iload 11, 2) := by decide +kernel
theorem dX10_nextOf_258 : decode cX10_nextOf 258 = .ok (.iload_n 1, 1) := by decide +kernel
theorem dX10_nextOf_259 : decode cX10_nextOf 259 = .ok (.if_icmp .eq (-188), 3) := by decide +kernel
theorem dX10_nextOf_262 : decode cX10_nextOf 262 = .ok (.aload_n 0, 1) := by decide +kernel
theorem dX10_nextOf_263 : decode cX10_nextOf 263 = .ok (.getfield 45, 3) := by decide +kernel
theorem dX10_nextOf_266 : decode cX10_nextOf 266 = .ok (.iload 11, 2) := by decide +kernel
theorem dX10_nextOf_268 : decode cX10_nextOf 268 = .ok (.laload, 1) := by decide +kernel
theorem dX10_nextOf_269 : decode cX10_nextOf 269 = .ok (.ldc2_w 89, 3) := by decide +kernel
theorem dX10_nextOf_272 : decode cX10_nextOf 272 = .ok (.lcmp, 1) := by decide +kernel
theorem dX10_nextOf_273 : decode cX10_nextOf 273 = .ok (.ifCond .eq (-202), 3) := by decide +kernel
theorem dX10_nextOf_276 : decode cX10_nextOf 276 = .ok (.lload 9, 2) := by decide +kernel
theorem dX10_nextOf_278 : decode cX10_nextOf 278 = .ok (.aload_n 0, 1) := by decide +kernel
theorem dX10_nextOf_279 : decode cX10_nextOf 279 = .ok (.getfield 45, 3) := by decide +kernel
theorem dX10_nextOf_282 : decode cX10_nextOf 282 = .ok (.iload 11, 2) := by decide +kernel
theorem dX10_nextOf_284 : decode cX10_nextOf 284 = .ok (.laload, 1) := by decide +kernel
theorem dX10_nextOf_285 : decode cX10_nextOf 285 = .ok (.ladd, 1) := by decide +kernel
theorem dX10_nextOf_286 : decode cX10_nextOf 286 = .ok (.lload_n 2, 1) := by decide +kernel
theorem dX10_nextOf_287 : decode cX10_nextOf 287 = .ok (.lcmp, 1) := by decide +kernel
theorem dX10_nextOf_288 : decode cX10_nextOf 288 = .ok (.ifCond .lt 6, 3) := by decide +kernel
theorem dX10_nextOf_291 : decode cX10_nextOf 291 = .ok (.goto (-220), 3) := by decide +kernel
theorem dX10_nextOf_294 : decode cX10_nextOf 294 = .ok (.iload 6, 2) := by decide +kernel
theorem dX10_nextOf_296 : decode cX10_nextOf 296 = .ok (.iconst 1, 1) := by decide +kernel
theorem dX10_nextOf_297 : decode cX10_nextOf 297 = .ok (.iadd, 1) := by decide +kernel
theorem dX10_nextOf_298 : decode cX10_nextOf 298 = .ok (.istore 6, 2) := by decide +kernel
theorem dX10_nextOf_300 : decode cX10_nextOf 300 = .ok (.aload_n 0, 1) := by decide +kernel
theorem dX10_nextOf_301 : decode cX10_nextOf 301 = .ok (.getfield 48, 3) := by decide +kernel
theorem dX10_nextOf_304 : decode cX10_nextOf 304 = .ok (.iload 6, 2) := by decide +kernel
theorem dX10_nextOf_306 : decode cX10_nextOf 306 = .ok (.iload 11, 2) := by decide +kernel
theorem dX10_nextOf_308 : decode cX10_nextOf 308 = .ok (.iastore, 1) := by decide +kernel
theorem dX10_nextOf_309 : decode cX10_nextOf 309 = .ok (.aload_n 0, 1) := by decide +kernel
theorem dX10_nextOf_310 : decode cX10_nextOf 310 = .ok (.getfield 51, 3) := by decide +kernel
theorem dX10_nextOf_313 : decode cX10_nextOf 313 = .ok (.iload 6, 2) := by decide +kernel
theorem dX10_nextOf_315 : decode cX10_nextOf 315 = .ok (.iconst 0, 1) := by decide +kernel
theorem dX10_nextOf_316 : decode cX10_nextOf 316 = .ok (.iastore, 1) := by decide +kernel
theorem dX10_nextOf_317 : decode cX10_nextOf 317 = .ok (.iload 7, 2) := by decide +kernel
theorem dX10_nextOf_319 : decode cX10_nextOf 319 = .ok (.iconst 1, 1) := by decide +kernel
theorem dX10_nextOf_320 : decode cX10_nextOf 320 = .ok (.iload 11, 2) := by decide +kernel
theorem dX10_nextOf_322 : decode cX10_nextOf 322 = .ok (.ishl, 1) := by decide +kernel
theorem dX10_nextOf_323 : decode cX10_nextOf 323 = .ok (.ior, 1) := by decide +kernel
theorem dX10_nextOf_324 : decode cX10_nextOf 324 = .ok (.istore 7, 2) := by decide +kernel
theorem dX10_nextOf_326 : decode cX10_nextOf 326 = .ok (.lload 9, 2) := by decide +kernel
theorem dX10_nextOf_328 : decode cX10_nextOf 328 = .ok (.lstore 4, 2) := by decide +kernel
theorem dX10_nextOf_330 : decode cX10_nextOf 330 = .ok (.goto (-259), 3) := by decide +kernel
theorem dX10_nextOf_333 : decode cX10_nextOf 333 = .ok (.lload_n 2, 1) := by decide +kernel
theorem dX10_nextOf_334 : decode cX10_nextOf 334 = .ok (.lreturn, 1) := by decide +kernel
theorem dX10_findsPairs_0 : decode cX10_findsPairs 0 = .ok (.iconst 0, 1) := by decide +kernel
theorem dX10_findsPairs_1 : decode cX10_findsPairs 1 = .ok (.istore_n 1, 1) := by decide +kernel
theorem dX10_findsPairs_2 : decode cX10_findsPairs 2 = .ok (.iload_n 1, 1) := by decide +kernel
theorem dX10_findsPairs_3 : decode cX10_findsPairs 3 = .ok (.aload_n 0, 1) := by decide +kernel
theorem dX10_findsPairs_4 : decode cX10_findsPairs 4 = .ok (.invokevirtual 77, 3) := by decide +kernel
theorem dX10_findsPairs_7 : decode cX10_findsPairs 7 = .ok (.if_icmp .ge 46, 3) := by decide +kernel
theorem dX10_findsPairs_10 : decode cX10_findsPairs 10 = .ok (.aload_n 0, 1) := by decide +kernel
theorem dX10_findsPairs_11 : decode cX10_findsPairs 11 = .ok (.iload_n 1, 1) := by decide +kernel
theorem dX10_findsPairs_12 : decode cX10_findsPairs 12 = .ok (.iconst (-1), 1) := by decide +kernel
theorem dX10_findsPairs_13 : decode cX10_findsPairs 13 = .ok (.invokevirtual 95, 3) := by decide +kernel
theorem dX10_findsPairs_16 : decode cX10_findsPairs 16 = .ok (.iconst 0, 1) := by decide +kernel
theorem dX10_findsPairs_17 : decode cX10_findsPairs 17 = .ok (.istore_n 2, 1) := by decide +kernel
theorem dX10_findsPairs_18 : decode cX10_findsPairs 18 = .ok (.iload_n 2, 1) := by decide +kernel
theorem dX10_findsPairs_19 : decode cX10_findsPairs 19 = .ok (.bipush 12, 2) := by decide +kernel
theorem dX10_findsPairs_21 : decode cX10_findsPairs 21 = .ok (.if_icmp .ge 26, 3) := by decide +kernel
theorem dX10_findsPairs_24 : decode cX10_findsPairs 24 = .ok (.aload_n 0, 1) := by decide +kernel
theorem dX10_findsPairs_25 : decode cX10_findsPairs 25 = .ok (.getfield 54, 3) := by decide +kernel
theorem dX10_findsPairs_28 : decode cX10_findsPairs 28 = .ok (.bipush 12, 2) := by decide +kernel
theorem dX10_findsPairs_30 : decode cX10_findsPairs 30 = .ok (.iload_n 1, 1) := by decide +kernel
theorem dX10_findsPairs_31 : decode cX10_findsPairs 31 = .ok (.imul, 1) := by decide +kernel
theorem dX10_findsPairs_32 : decode cX10_findsPairs 32 = .ok (.iload_n 2, 1) := by decide +kernel
theorem dX10_findsPairs_33 : decode cX10_findsPairs 33 = .ok (.iadd, 1) := by decide +kernel
theorem dX10_findsPairs_34 : decode cX10_findsPairs 34 = .ok (.aload_n 0, 1) := by decide +kernel
theorem dX10_findsPairs_35 : decode cX10_findsPairs 35 = .ok (.getfield 13, 3) := by decide +kernel
theorem dX10_findsPairs_38 : decode cX10_findsPairs 38 = .ok (.iload_n 2, 1) := by decide +kernel
theorem dX10_findsPairs_39 : decode cX10_findsPairs 39 = .ok (.laload, 1) := by decide +kernel
theorem dX10_findsPairs_40 : decode cX10_findsPairs 40 = .ok (.lastore, 1) := by decide +kernel
theorem dX10_findsPairs_41 : decode cX10_findsPairs 41 = .ok (.iinc 2 1, 3) := by decide +kernel
theorem dX10_findsPairs_44 : decode cX10_findsPairs 44 = .ok (.goto (-26), 3) := by decide +kernel
theorem dX10_findsPairs_47 : decode cX10_findsPairs 47 = .ok (.iinc 1 1, 3) := by decide +kernel
theorem dX10_findsPairs_50 : decode cX10_findsPairs 50 = .ok (.goto (-48), 3) := by decide +kernel
theorem dX10_findsPairs_53 : decode cX10_findsPairs 53 = .ok (.return_, 1) := by decide +kernel
theorem dX10_reachOf_0 : decode cX10_reachOf 0 = .ok (.ldc2_w 89, 3) := by decide +kernel
theorem dX10_reachOf_3 : decode cX10_reachOf 3 = .ok (.lstore_n 2, 1) := by decide +kernel
theorem dX10_reachOf_4 : decode cX10_reachOf 4 = .ok (.iconst 0, 1) := by decide +kernel
theorem dX10_reachOf_5 : decode cX10_reachOf 5 = .ok (.istore 4, 2) := by decide +kernel
theorem dX10_reachOf_7 : decode cX10_reachOf 7 = .ok (.iload 4, 2) := by decide +kernel
theorem dX10_reachOf_9 : decode cX10_reachOf 9 = .ok (.aload_n 0, 1) := by decide +kernel
theorem dX10_reachOf_10 : decode cX10_reachOf 10 = .ok (.invokevirtual 77, 3) := by decide +kernel
theorem dX10_reachOf_13 : decode cX10_reachOf 13 = .ok (.if_icmp .ge 75, 3) := by decide +kernel
theorem dX10_reachOf_16 : decode cX10_reachOf 16 = .ok (.iload 4, 2) := by decide +kernel
theorem dX10_reachOf_18 : decode cX10_reachOf 18 = .ok (.iload_n 1, 1) := by decide +kernel
theorem dX10_reachOf_19 : decode cX10_reachOf 19 = .ok (.if_icmp .eq 63, 3) := by decide +kernel
theorem dX10_reachOf_22 : decode cX10_reachOf 22 = .ok (.aload_n 0, 1) := by decide +kernel
theorem dX10_reachOf_23 : decode cX10_reachOf 23 = .ok (.getfield 54, 3) := by decide +kernel
theorem dX10_reachOf_26 : decode cX10_reachOf 26 = .ok (.bipush 12, 2) := by decide +kernel
theorem dX10_reachOf_28 : decode cX10_reachOf 28 = .ok (.iload_n 1, 1) := by decide +kernel
theorem dX10_reachOf_29 : decode cX10_reachOf 29 = .ok (.imul, 1) := by decide +kernel
theorem dX10_reachOf_30 : decode cX10_reachOf 30 = .ok (.iload 4, 2) := by decide +kernel
theorem dX10_reachOf_32 : decode cX10_reachOf 32 = .ok (.iadd, 1) := by decide +kernel
theorem dX10_reachOf_33 : decode cX10_reachOf 33 = .ok (.laload, 1) := by decide +kernel
theorem dX10_reachOf_34 : decode cX10_reachOf 34 = .ok (.ldc2_w 89, 3) := by decide +kernel
theorem dX10_reachOf_37 : decode cX10_reachOf 37 = .ok (.lcmp, 1) := by decide +kernel
theorem dX10_reachOf_38 : decode cX10_reachOf 38 = .ok (.ifCond .ne 6, 3) := by decide +kernel
theorem dX10_reachOf_41 : decode cX10_reachOf 41 = .ok (.goto 41, 3) := by decide +kernel
theorem dX10_reachOf_44 : decode cX10_reachOf 44 = .ok (.lload_n 2, 1) := by decide +kernel
theorem dX10_reachOf_45 : decode cX10_reachOf 45 = .ok (.ldc2_w 89, 3) := by decide +kernel
theorem dX10_reachOf_48 : decode cX10_reachOf 48 = .ok (.lcmp, 1) := by decide +kernel
theorem dX10_reachOf_49 : decode cX10_reachOf 49 = .ok (.ifCond .eq 20, 3) := by decide +kernel
theorem dX10_reachOf_52 : decode cX10_reachOf 52 = .ok (.aload_n 0, 1) := by decide +kernel
theorem dX10_reachOf_53 : decode cX10_reachOf 53 = .ok (.getfield 54, 3) := by decide +kernel
theorem dX10_reachOf_56 : decode cX10_reachOf 56 = .ok (.bipush 12, 2) := by decide +kernel
theorem dX10_reachOf_58 : decode cX10_reachOf 58 = .ok (.iload_n 1, 1) := by decide +kernel
theorem dX10_reachOf_59 : decode cX10_reachOf 59 = .ok (.imul, 1) := by decide +kernel
theorem dX10_reachOf_60 : decode cX10_reachOf 60 = .ok (.iload 4, 2) := by decide +kernel
theorem dX10_reachOf_62 : decode cX10_reachOf 62 = .ok (.iadd, 1) := by decide +kernel
theorem dX10_reachOf_63 : decode cX10_reachOf 63 = .ok (.laload, 1) := by decide +kernel
theorem dX10_reachOf_64 : decode cX10_reachOf 64 = .ok (.lload_n 2, 1) := by decide +kernel
theorem dX10_reachOf_65 : decode cX10_reachOf 65 = .ok (.lcmp, 1) := by decide +kernel
theorem dX10_reachOf_66 : decode cX10_reachOf 66 = .ok (.ifCond .le 16, 3) := by decide +kernel
theorem dX10_reachOf_69 : decode cX10_reachOf 69 = .ok (.aload_n 0, 1) := by decide +kernel
theorem dX10_reachOf_70 : decode cX10_reachOf 70 = .ok (.getfield 54, 3) := by decide +kernel
theorem dX10_reachOf_73 : decode cX10_reachOf 73 = .ok (.bipush 12, 2) := by decide +kernel
theorem dX10_reachOf_75 : decode cX10_reachOf 75 = .ok (.iload_n 1, 1) := by decide +kernel
theorem dX10_reachOf_76 : decode cX10_reachOf 76 = .ok (.imul, 1) := by decide +kernel
theorem dX10_reachOf_77 : decode cX10_reachOf 77 = .ok (.iload 4, 2) := by decide +kernel
theorem dX10_reachOf_79 : decode cX10_reachOf 79 = .ok (.iadd, 1) := by decide +kernel
theorem dX10_reachOf_80 : decode cX10_reachOf 80 = .ok (.laload, 1) := by decide +kernel
theorem dX10_reachOf_81 : decode cX10_reachOf 81 = .ok (.lstore_n 2, 1) := by decide +kernel
theorem dX10_reachOf_82 : decode cX10_reachOf 82 = .ok (.iinc 4 1, 3) := by decide +kernel
theorem dX10_reachOf_85 : decode cX10_reachOf 85 = .ok (.goto (-78), 3) := by decide +kernel
theorem dX10_reachOf_88 : decode cX10_reachOf 88 = .ok (.lload_n 2, 1) := by decide +kernel
theorem dX10_reachOf_89 : decode cX10_reachOf 89 = .ok (.lreturn, 1) := by decide +kernel
theorem dX10_comesToAll_0 : decode cX10_comesToAll 0 = .ok (.iconst 0, 1) := by decide +kernel
theorem dX10_comesToAll_1 : decode cX10_comesToAll 1 = .ok (.istore_n 2, 1) := by decide +kernel
theorem dX10_comesToAll_2 : decode cX10_comesToAll 2 = .ok (.iload_n 2, 1) := by decide +kernel
theorem dX10_comesToAll_3 : decode cX10_comesToAll 3 = .ok (.aload_n 0, 1) := by decide +kernel
theorem dX10_comesToAll_4 : decode cX10_comesToAll 4 = .ok (.invokevirtual 77, 3) := by decide +kernel
theorem dX10_comesToAll_7 : decode cX10_comesToAll 7 = .ok (.if_icmp .ge 29, 3) := by decide +kernel
theorem dX10_comesToAll_10 : decode cX10_comesToAll 10 = .ok (.aload_n 0, 1) := by decide +kernel
theorem dX10_comesToAll_11 : decode cX10_comesToAll 11 = .ok (.getfield 54, 3) := by decide +kernel
theorem dX10_comesToAll_14 : decode cX10_comesToAll 14 = .ok (.bipush 12, 2) := by decide +kernel
theorem dX10_comesToAll_16 : decode cX10_comesToAll 16 = .ok (.iload_n 1, 1) := by decide +kernel
theorem dX10_comesToAll_17 : decode cX10_comesToAll 17 = .ok (.imul, 1) := by decide +kernel
theorem dX10_comesToAll_18 : decode cX10_comesToAll 18 = .ok (.iload_n 2, 1) := by decide +kernel
theorem dX10_comesToAll_19 : decode cX10_comesToAll 19 = .ok (.iadd, 1) := by decide +kernel
theorem dX10_comesToAll_20 : decode cX10_comesToAll 20 = .ok (.laload, 1) := by decide +kernel
theorem dX10_comesToAll_21 : decode cX10_comesToAll 21 = .ok (.ldc2_w 89, 3) := by decide +kernel
theorem dX10_comesToAll_24 : decode cX10_comesToAll 24 = .ok (.lcmp, 1) := by decide +kernel
theorem dX10_comesToAll_25 : decode cX10_comesToAll 25 = .ok (.ifCond .ne 5, 3) := by decide +kernel
theorem dX10_comesToAll_28 : decode cX10_comesToAll 28 = .ok (.iconst 0, 1) := by decide +kernel
theorem dX10_comesToAll_29 : decode cX10_comesToAll 29 = .ok (.ireturn, 1) := by decide +kernel
theorem dX10_comesToAll_30 : decode cX10_comesToAll 30 = .ok (.iinc 2 1, 3) := by decide +kernel
theorem dX10_comesToAll_33 : decode cX10_comesToAll 33 = .ok (.goto (-31), 3) := by decide +kernel
theorem dX10_comesToAll_36 : decode cX10_comesToAll 36 = .ok (.iconst 1, 1) := by decide +kernel
theorem dX10_comesToAll_37 : decode cX10_comesToAll 37 = .ok (.ireturn, 1) := by decide +kernel
theorem dX10_middle_0 : decode cX10_middle 0 = .ok (.aload_n 0, 1) := by decide +kernel
theorem dX10_middle_1 : decode cX10_middle 1 = .ok (.invokevirtual 324, 3) := by decide +kernel
theorem dX10_middle_4 : decode cX10_middle 4 = .ok (.bipush (-2), 2) := by decide +kernel
theorem dX10_middle_6 : decode cX10_middle 6 = .ok (.istore_n 1, 1) := by decide +kernel
theorem dX10_middle_7 : decode cX10_middle 7 = .ok (.iconst 0, 1) := by decide +kernel
theorem dX10_middle_8 : decode cX10_middle 8 = .ok (.istore_n 2, 1) := by decide +kernel
theorem dX10_middle_9 : decode cX10_middle 9 = .ok (.iload_n 2, 1) := by decide +kernel
theorem dX10_middle_10 : decode cX10_middle 10 = .ok (.aload_n 0, 1) := by decide +kernel
theorem dX10_middle_11 : decode cX10_middle 11 = .ok (.invokevirtual 77, 3) := by decide +kernel
theorem dX10_middle_14 : decode cX10_middle 14 = .ok (.if_icmp .ge 37, 3) := by decide +kernel
theorem dX10_middle_17 : decode cX10_middle 17 = .ok (.aload_n 0, 1) := by decide +kernel
theorem dX10_middle_18 : decode cX10_middle 18 = .ok (.iload_n 2, 1) := by decide +kernel
theorem dX10_middle_19 : decode cX10_middle 19 = .ok (.invokevirtual 327, 3) := by decide +kernel
theorem dX10_middle_22 : decode cX10_middle 22 = .ok (.ifCond .eq 23, 3) := by decide +kernel
theorem dX10_middle_25 : decode cX10_middle 25 = .ok (.iload_n 1, 1) := by decide +kernel
theorem dX10_middle_26 : decode cX10_middle 26 = .ok (.ifCond .lt 17, 3) := by decide +kernel
theorem dX10_middle_29 : decode cX10_middle 29 = .ok (.aload_n 0, 1) := by decide +kernel
theorem dX10_middle_30 : decode cX10_middle 30 = .ok (.iload_n 2, 1) := by decide +kernel
theorem dX10_middle_31 : decode cX10_middle 31 = .ok (.invokevirtual 330, 3) := by decide +kernel
theorem dX10_middle_34 : decode cX10_middle 34 = .ok (.aload_n 0, 1) := by decide +kernel
theorem dX10_middle_35 : decode cX10_middle 35 = .ok (.iload_n 1, 1) := by decide +kernel
theorem dX10_middle_36 : decode cX10_middle 36 = .ok (.invokevirtual 330, 3) := by decide +kernel
theorem dX10_middle_39 : decode cX10_middle 39 = .ok (.lcmp, 1) := by decide +kernel
theorem dX10_middle_40 : decode cX10_middle 40 = .ok (.ifCond .ge 5, 3) := by decide +kernel
theorem dX10_middle_43 : decode cX10_middle 43 = .ok (.iload_n 2, 1) := by decide +kernel
theorem dX10_middle_44 : decode cX10_middle 44 = .ok (.istore_n 1, 1) := by decide +kernel
theorem dX10_middle_45 : decode cX10_middle 45 = .ok (.iinc 2 1, 3) := by decide +kernel
theorem dX10_middle_48 : decode cX10_middle 48 = .ok (.goto (-39), 3) := by decide +kernel
theorem dX10_middle_51 : decode cX10_middle 51 = .ok (.iload_n 1, 1) := by decide +kernel
theorem dX10_middle_52 : decode cX10_middle 52 = .ok (.ireturn, 1) := by decide +kernel
theorem dX10_ringOf_0 : decode cX10_ringOf 0 = .ok (.ldc2_w 89, 3) := by decide +kernel
theorem dX10_ringOf_3 : decode cX10_ringOf 3 = .ok (.lstore_n 2, 1) := by decide +kernel
theorem dX10_ringOf_4 : decode cX10_ringOf 4 = .ok (.iconst 0, 1) := by decide +kernel
theorem dX10_ringOf_5 : decode cX10_ringOf 5 = .ok (.istore 4, 2) := by decide +kernel
theorem dX10_ringOf_7 : decode cX10_ringOf 7 = .ok (.iload 4, 2) := by decide +kernel
theorem dX10_ringOf_9 : decode cX10_ringOf 9 = .ok (.aload_n 0, 1) := by decide +kernel
theorem dX10_ringOf_10 : decode cX10_ringOf 10 = .ok (.getfield 7, 3) := by decide +kernel
theorem dX10_ringOf_13 : decode cX10_ringOf 13 = .ok (.iconst 1, 1) := by decide +kernel
theorem dX10_ringOf_14 : decode cX10_ringOf 14 = .ok (.iaload, 1) := by decide +kernel
theorem dX10_ringOf_15 : decode cX10_ringOf 15 = .ok (.if_icmp .ge 94, 3) := by decide +kernel
theorem dX10_ringOf_18 : decode cX10_ringOf 18 = .ok (.aload_n 0, 1) := by decide +kernel
theorem dX10_ringOf_19 : decode cX10_ringOf 19 = .ok (.iload 4, 2) := by decide +kernel
theorem dX10_ringOf_21 : decode cX10_ringOf 21 = .ok (.invokevirtual 91, 3) := by decide +kernel
theorem dX10_ringOf_24 : decode cX10_ringOf 24 = .ok (.ifCond .eq 79, 3) := by decide +kernel
theorem dX10_ringOf_27 : decode cX10_ringOf 27 = .ok (.aload_n 0, 1) := by decide +kernel
theorem dX10_ringOf_28 : decode cX10_ringOf 28 = .ok (.iload 4, 2) := by decide +kernel
theorem dX10_ringOf_30 : decode cX10_ringOf 30 = .ok (.iconst 0, 1) := by decide +kernel
theorem dX10_ringOf_31 : decode cX10_ringOf 31 = .ok (.invokevirtual 73, 3) := by decide +kernel
theorem dX10_ringOf_34 : decode cX10_ringOf 34 = .ok (.iload_n 1, 1) := by decide +kernel
theorem dX10_ringOf_35 : decode cX10_ringOf 35 = .ok (.if_icmp .ne 68, 3) := by decide +kernel
theorem dX10_ringOf_38 : decode cX10_ringOf 38 = .ok (.aload_n 0, 1) := by decide +kernel
theorem dX10_ringOf_39 : decode cX10_ringOf 39 = .ok (.getfield 54, 3) := by decide +kernel
theorem dX10_ringOf_42 : decode cX10_ringOf 42 = .ok (.bipush 12, 2) := by decide +kernel
theorem dX10_ringOf_44 : decode cX10_ringOf 44 = .ok (.aload_n 0, 1) := by decide +kernel
theorem dX10_ringOf_45 : decode cX10_ringOf 45 = .ok (.iload 4, 2) := by decide +kernel
theorem dX10_ringOf_47 : decode cX10_ringOf 47 = .ok (.iconst 1, 1) := by decide +kernel
theorem dX10_ringOf_48 : decode cX10_ringOf 48 = .ok (.invokevirtual 73, 3) := by decide +kernel
theorem dX10_ringOf_51 : decode cX10_ringOf 51 = .ok (.imul, 1) := by decide +kernel
theorem dX10_ringOf_52 : decode cX10_ringOf 52 = .ok (.iload_n 1, 1) := by decide +kernel
theorem dX10_ringOf_53 : decode cX10_ringOf 53 = .ok (.iadd, 1) := by decide +kernel
theorem dX10_ringOf_54 : decode cX10_ringOf 54 = .ok (.laload, 1) := by decide +kernel
theorem dX10_ringOf_55 : decode cX10_ringOf 55 = .ok (.ldc2_w 89, 3) := by decide +kernel
theorem dX10_ringOf_58 : decode cX10_ringOf 58 = .ok (.lcmp, 1) := by decide +kernel
theorem dX10_ringOf_59 : decode cX10_ringOf 59 = .ok (.ifCond .ne 6, 3) := by decide +kernel
theorem dX10_ringOf_62 : decode cX10_ringOf 62 = .ok (.goto 41, 3) := by decide +kernel
theorem dX10_ringOf_65 : decode cX10_ringOf 65 = .ok (.aload_n 0, 1) := by decide +kernel
theorem dX10_ringOf_66 : decode cX10_ringOf 66 = .ok (.iload 4, 2) := by decide +kernel
theorem dX10_ringOf_68 : decode cX10_ringOf 68 = .ok (.iconst 2, 1) := by decide +kernel
theorem dX10_ringOf_69 : decode cX10_ringOf 69 = .ok (.invokevirtual 73, 3) := by decide +kernel
theorem dX10_ringOf_72 : decode cX10_ringOf 72 = .ok (.i2l, 1) := by decide +kernel
theorem dX10_ringOf_73 : decode cX10_ringOf 73 = .ok (.aload_n 0, 1) := by decide +kernel
theorem dX10_ringOf_74 : decode cX10_ringOf 74 = .ok (.getfield 54, 3) := by decide +kernel
theorem dX10_ringOf_77 : decode cX10_ringOf 77 = .ok (.bipush 12, 2) := by decide +kernel
theorem dX10_ringOf_79 : decode cX10_ringOf 79 = .ok (.aload_n 0, 1) := by decide +kernel
theorem dX10_ringOf_80 : decode cX10_ringOf 80 = .ok (.iload 4, 2) := by decide +kernel
theorem dX10_ringOf_82 : decode cX10_ringOf 82 = .ok (.iconst 1, 1) := by decide +kernel
theorem dX10_ringOf_83 : decode cX10_ringOf 83 = .ok (.invokevirtual 73, 3) := by decide +kernel
theorem dX10_ringOf_86 : decode cX10_ringOf 86 = .ok (.imul, 1) := by decide +kernel
theorem dX10_ringOf_87 : decode cX10_ringOf 87 = .ok (.iload_n 1, 1) := by decide +kernel
theorem dX10_ringOf_88 : decode cX10_ringOf 88 = .ok (.iadd, 1) := by decide +kernel
theorem dX10_ringOf_89 : decode cX10_ringOf 89 = .ok (.laload, 1) := by decide +kernel
theorem dX10_ringOf_90 : decode cX10_ringOf 90 = .ok (.ladd, 1) := by decide +kernel
theorem dX10_ringOf_91 : decode cX10_ringOf 91 = .ok (.lstore 5, 2) := by decide +kernel
theorem dX10_ringOf_93 : decode cX10_ringOf 93 = .ok (.lload 5, 2) := by decide +kernel
theorem dX10_ringOf_95 : decode cX10_ringOf 95 = .ok (.lload_n 2, 1) := by decide +kernel
theorem dX10_ringOf_96 : decode cX10_ringOf 96 = .ok (.lcmp, 1) := by decide +kernel
theorem dX10_ringOf_97 : decode cX10_ringOf 97 = .ok (.ifCond .ge 6, 3) := by decide +kernel
theorem dX10_ringOf_100 : decode cX10_ringOf 100 = .ok (.lload 5, 2) := by decide +kernel
theorem dX10_ringOf_102 : decode cX10_ringOf 102 = .ok (.lstore_n 2, 1) := by decide +kernel
theorem dX10_ringOf_103 : decode cX10_ringOf 103 = .ok (.iinc 4 1, 3) := by decide +kernel
theorem dX10_ringOf_106 : decode cX10_ringOf 106 = .ok (.goto (-99), 3) := by decide +kernel
theorem dX10_ringOf_109 : decode cX10_ringOf 109 = .ok (.lload_n 2, 1) := by decide +kernel
theorem dX10_ringOf_110 : decode cX10_ringOf 110 = .ok (.lreturn, 1) := by decide +kernel
theorem dX10_groupOf_0 : decode cX10_groupOf 0 = .ok (.iconst 0, 1) := by decide +kernel
theorem dX10_groupOf_1 : decode cX10_groupOf 1 = .ok (.istore_n 2, 1) := by decide +kernel
theorem dX10_groupOf_2 : decode cX10_groupOf 2 = .ok (.iload_n 2, 1) := by decide +kernel
theorem dX10_groupOf_3 : decode cX10_groupOf 3 = .ok (.iload_n 1, 1) := by decide +kernel
theorem dX10_groupOf_4 : decode cX10_groupOf 4 = .ok (.if_icmp .ge 47, 3) := by decide +kernel
theorem dX10_groupOf_7 : decode cX10_groupOf 7 = .ok (.aload_n 0, 1) := by decide +kernel
theorem dX10_groupOf_8 : decode cX10_groupOf 8 = .ok (.getfield 54, 3) := by decide +kernel
theorem dX10_groupOf_11 : decode cX10_groupOf 11 = .ok (.bipush 12, 2) := by decide +kernel
theorem dX10_groupOf_13 : decode cX10_groupOf 13 = .ok (.iload_n 1, 1) := by decide +kernel
theorem dX10_groupOf_14 : decode cX10_groupOf 14 = .ok (.imul, 1) := by decide +kernel
theorem dX10_groupOf_15 : decode cX10_groupOf 15 = .ok (.iload_n 2, 1) := by decide +kernel
theorem dX10_groupOf_16 : decode cX10_groupOf 16 = .ok (.iadd, 1) := by decide +kernel
theorem dX10_groupOf_17 : decode cX10_groupOf 17 = .ok (.laload, 1) := by decide +kernel
theorem dX10_groupOf_18 : decode cX10_groupOf 18 = .ok (.ldc2_w 89, 3) := by decide +kernel
theorem dX10_groupOf_21 : decode cX10_groupOf 21 = .ok (.lcmp, 1) := by decide +kernel
theorem dX10_groupOf_22 : decode cX10_groupOf 22 = .ok (.ifCond .ge 23, 3) := by decide +kernel
theorem dX10_groupOf_25 : decode cX10_groupOf 25 = .ok (.aload_n 0, 1) := by decide +kernel
theorem dX10_groupOf_26 : decode cX10_groupOf 26 = .ok (.getfield 54, 3) := by decide +kernel
theorem dX10_groupOf_29 : decode cX10_groupOf 29 = .ok (.bipush 12, 2) := by decide +kernel
theorem dX10_groupOf_31 : decode cX10_groupOf 31 = .ok (.iload_n 2, 1) := by decide +kernel
theorem dX10_groupOf_32 : decode cX10_groupOf 32 = .ok (.imul, 1) := by decide +kernel
theorem dX10_groupOf_33 : decode cX10_groupOf 33 = .ok (.iload_n 1, 1) := by decide +kernel
theorem dX10_groupOf_34 : decode cX10_groupOf 34 = .ok (.iadd, 1) := by decide +kernel
theorem dX10_groupOf_35 : decode cX10_groupOf 35 = .ok (.laload, 1) := by decide +kernel
theorem dX10_groupOf_36 : decode cX10_groupOf 36 = .ok (.ldc2_w 89, 3) := by decide +kernel
theorem dX10_groupOf_39 : decode cX10_groupOf 39 = .ok (.lcmp, 1) := by decide +kernel
theorem dX10_groupOf_40 : decode cX10_groupOf 40 = .ok (.ifCond .ge 5, 3) := by decide +kernel
theorem dX10_groupOf_43 : decode cX10_groupOf 43 = .ok (.iload_n 2, 1) := by decide +kernel
theorem dX10_groupOf_44 : decode cX10_groupOf 44 = .ok (.ireturn, 1) := by decide +kernel
theorem dX10_groupOf_45 : decode cX10_groupOf 45 = .ok (.iinc 2 1, 3) := by decide +kernel
theorem dX10_groupOf_48 : decode cX10_groupOf 48 = .ok (.goto (-46), 3) := by decide +kernel
theorem dX10_groupOf_51 : decode cX10_groupOf 51 = .ok (.iload_n 1, 1) := by decide +kernel
theorem dX10_groupOf_52 : decode cX10_groupOf 52 = .ok (.ireturn, 1) := by decide +kernel
theorem dX10_comeTo_0 : decode cX10_comeTo 0 = .ok (.iconst 0, 1) := by decide +kernel
theorem dX10_comeTo_1 : decode cX10_comeTo 1 = .ok (.istore_n 2, 1) := by decide +kernel
theorem dX10_comeTo_2 : decode cX10_comeTo 2 = .ok (.iconst 0, 1) := by decide +kernel
theorem dX10_comeTo_3 : decode cX10_comeTo 3 = .ok (.istore_n 3, 1) := by decide +kernel
theorem dX10_comeTo_4 : decode cX10_comeTo 4 = .ok (.iload_n 3, 1) := by decide +kernel
theorem dX10_comeTo_5 : decode cX10_comeTo 5 = .ok (.aload_n 0, 1) := by decide +kernel
theorem dX10_comeTo_6 : decode cX10_comeTo 6 = .ok (.invokevirtual 77, 3) := by decide +kernel
theorem dX10_comeTo_9 : decode cX10_comeTo 9 = .ok (.if_icmp .ge 36, 3) := by decide +kernel
theorem dX10_comeTo_12 : decode cX10_comeTo 12 = .ok (.iload_n 3, 1) := by decide +kernel
theorem dX10_comeTo_13 : decode cX10_comeTo 13 = .ok (.iload_n 1, 1) := by decide +kernel
theorem dX10_comeTo_14 : decode cX10_comeTo 14 = .ok (.if_icmp .eq 25, 3) := by decide +kernel
theorem dX10_comeTo_17 : decode cX10_comeTo 17 = .ok (.aload_n 0, 1) := by decide +kernel
theorem dX10_comeTo_18 : decode cX10_comeTo 18 = .ok (.getfield 54, 3) := by decide +kernel
theorem dX10_comeTo_21 : decode cX10_comeTo 21 = .ok (.bipush 12, 2) := by decide +kernel
theorem dX10_comeTo_23 : decode cX10_comeTo 23 = .ok (.iload_n 3, 1) := by decide +kernel
theorem dX10_comeTo_24 : decode cX10_comeTo 24 = .ok (.imul, 1) := by decide +kernel
theorem dX10_comeTo_25 : decode cX10_comeTo 25 = .ok (.iload_n 1, 1) := by decide +kernel
theorem dX10_comeTo_26 : decode cX10_comeTo 26 = .ok (.iadd, 1) := by decide +kernel
theorem dX10_comeTo_27 : decode cX10_comeTo 27 = .ok (.laload, 1) := by decide +kernel
theorem dX10_comeTo_28 : decode cX10_comeTo 28 = .ok (.ldc2_w 89, 3) := by decide +kernel
theorem dX10_comeTo_31 : decode cX10_comeTo 31 = .ok (.lcmp, 1) := by decide +kernel
theorem dX10_comeTo_32 : decode cX10_comeTo 32 = .ok (.ifCond .ge 7, 3) := by decide +kernel
theorem dX10_comeTo_35 : decode cX10_comeTo 35 = .ok (.iload_n 2, 1) := by decide +kernel
theorem dX10_comeTo_36 : decode cX10_comeTo 36 = .ok (.iconst 1, 1) := by decide +kernel
theorem dX10_comeTo_37 : decode cX10_comeTo 37 = .ok (.iadd, 1) := by decide +kernel
theorem dX10_comeTo_38 : decode cX10_comeTo 38 = .ok (.istore_n 2, 1) := by decide +kernel
theorem dX10_comeTo_39 : decode cX10_comeTo 39 = .ok (.iinc 3 1, 3) := by decide +kernel
theorem dX10_comeTo_42 : decode cX10_comeTo 42 = .ok (.goto (-38), 3) := by decide +kernel
theorem dX10_comeTo_45 : decode cX10_comeTo 45 = .ok (.iload_n 2, 1) := by decide +kernel
theorem dX10_comeTo_46 : decode cX10_comeTo 46 = .ok (.ireturn, 1) := by decide +kernel
theorem dX10_narrowOf_0 : decode cX10_narrowOf 0 = .ok (.iload_n 1, 1) := by decide +kernel
theorem dX10_narrowOf_1 : decode cX10_narrowOf 1 = .ok (.aload_n 0, 1) := by decide +kernel
theorem dX10_narrowOf_2 : decode cX10_narrowOf 2 = .ok (.getfield 7, 3) := by decide +kernel
theorem dX10_narrowOf_5 : decode cX10_narrowOf 5 = .ok (.iconst 2, 1) := by decide +kernel
theorem dX10_narrowOf_6 : decode cX10_narrowOf 6 = .ok (.iaload, 1) := by decide +kernel
theorem dX10_narrowOf_7 : decode cX10_narrowOf 7 = .ok (.if_icmp .eq 16, 3) := by decide +kernel
theorem dX10_narrowOf_10 : decode cX10_narrowOf 10 = .ok (.aload_n 0, 1) := by decide +kernel
theorem dX10_narrowOf_11 : decode cX10_narrowOf 11 = .ok (.getfield 17, 3) := by decide +kernel
theorem dX10_narrowOf_14 : decode cX10_narrowOf 14 = .ok (.iload_n 1, 1) := by decide +kernel
theorem dX10_narrowOf_15 : decode cX10_narrowOf 15 = .ok (.laload, 1) := by decide +kernel
theorem dX10_narrowOf_16 : decode cX10_narrowOf 16 = .ok (.ldc2_w 89, 3) := by decide +kernel
theorem dX10_narrowOf_19 : decode cX10_narrowOf 19 = .ok (.lcmp, 1) := by decide +kernel
theorem dX10_narrowOf_20 : decode cX10_narrowOf 20 = .ok (.ifCond .ne 7, 3) := by decide +kernel
theorem dX10_narrowOf_23 : decode cX10_narrowOf 23 = .ok (.ldc2_w 89, 3) := by decide +kernel
theorem dX10_narrowOf_26 : decode cX10_narrowOf 26 = .ok (.lreturn, 1) := by decide +kernel
theorem dX10_narrowOf_27 : decode cX10_narrowOf 27 = .ok (.ldc2_w 89, 3) := by decide +kernel
theorem dX10_narrowOf_30 : decode cX10_narrowOf 30 = .ok (.lstore_n 2, 1) := by decide +kernel
theorem dX10_narrowOf_31 : decode cX10_narrowOf 31 = .ok (.iconst 0, 1) := by decide +kernel
theorem dX10_narrowOf_32 : decode cX10_narrowOf 32 = .ok (.istore 4, 2) := by decide +kernel
theorem dX10_narrowOf_34 : decode cX10_narrowOf 34 = .ok (.iload 4, 2) := by decide +kernel
theorem dX10_narrowOf_36 : decode cX10_narrowOf 36 = .ok (.aload_n 0, 1) := by decide +kernel
theorem dX10_narrowOf_37 : decode cX10_narrowOf 37 = .ok (.getfield 7, 3) := by decide +kernel
theorem dX10_narrowOf_40 : decode cX10_narrowOf 40 = .ok (.iconst 1, 1) := by decide +kernel
theorem dX10_narrowOf_41 : decode cX10_narrowOf 41 = .ok (.iaload, 1) := by decide +kernel
theorem dX10_narrowOf_42 : decode cX10_narrowOf 42 = .ok (.if_icmp .ge 58, 3) := by decide +kernel
