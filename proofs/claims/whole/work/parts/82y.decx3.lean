/-! The class: its instructions. -/
theorem dX9_rightPairs_15 : decode cX9_rightPairs 15 = .ok (.getfield 10, 3) := by decide +kernel
theorem dX9_rightPairs_18 : decode cX9_rightPairs 18 = .ok (.getfield 148, 3) := by decide +kernel
theorem dX9_rightPairs_21 : decode cX9_rightPairs 21 = .ok (.invokevirtual 336, 3) := by decide +kernel
theorem dX9_rightPairs_24 : decode cX9_rightPairs 24 = .ok (.aload_n 0, 1) := by decide +kernel
theorem dX9_rightPairs_25 : decode cX9_rightPairs 25 = .ok (.getfield 36, 3) := by decide +kernel
theorem dX9_rightPairs_28 : decode cX9_rightPairs 28 = .ok (.areturn, 1) := by decide +kernel
theorem dX9_way_0 : decode cX9_way 0 = .ok (.iload_n 2, 1) := by decide +kernel
theorem dX9_way_1 : decode cX9_way 1 = .ok (.ifCond .lt 28, 3) := by decide +kernel
theorem dX9_way_4 : decode cX9_way 4 = .ok (.aload_n 0, 1) := by decide +kernel
theorem dX9_way_5 : decode cX9_way 5 = .ok (.getfield 10, 3) := by decide +kernel
theorem dX9_way_8 : decode cX9_way 8 = .ok (.getfield 148, 3) := by decide +kernel
theorem dX9_way_11 : decode cX9_way 11 = .ok (.iload_n 1, 1) := by decide +kernel
theorem dX9_way_12 : decode cX9_way 12 = .ok (.invokevirtual 176, 3) := by decide +kernel
theorem dX9_way_15 : decode cX9_way 15 = .ok (.ifCond .eq 14, 3) := by decide +kernel
theorem dX9_way_18 : decode cX9_way 18 = .ok (.aload_n 0, 1) := by decide +kernel
theorem dX9_way_19 : decode cX9_way 19 = .ok (.getfield 10, 3) := by decide +kernel
theorem dX9_way_22 : decode cX9_way 22 = .ok (.iload_n 1, 1) := by decide +kernel
theorem dX9_way_23 : decode cX9_way 23 = .ok (.invokevirtual 289, 3) := by decide +kernel
theorem dX9_way_26 : decode cX9_way 26 = .ok (.ifCond .ne 5, 3) := by decide +kernel
theorem dX9_way_29 : decode cX9_way 29 = .ok (.iconst (-1), 1) := by decide +kernel
theorem dX9_way_30 : decode cX9_way 30 = .ok (.ireturn, 1) := by decide +kernel
theorem dX9_way_31 : decode cX9_way 31 = .ok (.iload_n 2, 1) := by decide +kernel
theorem dX9_way_32 : decode cX9_way 32 = .ok (.aload_n 0, 1) := by decide +kernel
theorem dX9_way_33 : decode cX9_way 33 = .ok (.iload_n 1, 1) := by decide +kernel
theorem dX9_way_34 : decode cX9_way 34 = .ok (.invokevirtual 292, 3) := by decide +kernel
theorem dX9_way_37 : decode cX9_way 37 = .ok (.if_icmp .ge 15, 3) := by decide +kernel
theorem dX9_way_40 : decode cX9_way 40 = .ok (.aload_n 0, 1) := by decide +kernel
theorem dX9_way_41 : decode cX9_way 41 = .ok (.getfield 43, 3) := by decide +kernel
theorem dX9_way_44 : decode cX9_way 44 = .ok (.getfield 339, 3) := by decide +kernel
theorem dX9_way_47 : decode cX9_way 47 = .ok (.iload_n 2, 1) := by decide +kernel
theorem dX9_way_48 : decode cX9_way 48 = .ok (.iaload, 1) := by decide +kernel
theorem dX9_way_49 : decode cX9_way 49 = .ok (.goto 5, 3) := by decide +kernel
theorem dX9_way_52 : decode cX9_way 52 = .ok (.bipush (-4), 2) := by decide +kernel
theorem dX9_way_54 : decode cX9_way 54 = .ok (.ireturn, 1) := by decide +kernel
theorem dX9_findWay_0 : decode cX9_findWay 0 = .ok (.aload_n 0, 1) := by decide +kernel
theorem dX9_findWay_1 : decode cX9_findWay 1 = .ok (.getfield 43, 3) := by decide +kernel
theorem dX9_findWay_4 : decode cX9_findWay 4 = .ok (.aload_n 0, 1) := by decide +kernel
theorem dX9_findWay_5 : decode cX9_findWay 5 = .ok (.getfield 10, 3) := by decide +kernel
theorem dX9_findWay_8 : decode cX9_findWay 8 = .ok (.iload_n 1, 1) := by decide +kernel
theorem dX9_findWay_9 : decode cX9_findWay 9 = .ok (.invokevirtual 342, 3) := by decide +kernel
theorem dX9_findWay_12 : decode cX9_findWay 12 = .ok (.ireturn, 1) := by decide +kernel
theorem dX9_needed_0 : decode cX9_needed 0 = .ok (.aload_n 0, 1) := by decide +kernel
theorem dX9_needed_1 : decode cX9_needed 1 = .ok (.getfield 10, 3) := by decide +kernel
theorem dX9_needed_4 : decode cX9_needed 4 = .ok (.getfield 148, 3) := by decide +kernel
theorem dX9_needed_7 : decode cX9_needed 7 = .ok (.iload_n 1, 1) := by decide +kernel
theorem dX9_needed_8 : decode cX9_needed 8 = .ok (.invokevirtual 201, 3) := by decide +kernel
theorem dX9_needed_11 : decode cX9_needed 11 = .ok (.ifCond .eq 28, 3) := by decide +kernel
theorem dX9_needed_14 : decode cX9_needed 14 = .ok (.aload_n 0, 1) := by decide +kernel
theorem dX9_needed_15 : decode cX9_needed 15 = .ok (.getfield 10, 3) := by decide +kernel
theorem dX9_needed_18 : decode cX9_needed 18 = .ok (.getfield 148, 3) := by decide +kernel
theorem dX9_needed_21 : decode cX9_needed 21 = .ok (.iload_n 2, 1) := by decide +kernel
theorem dX9_needed_22 : decode cX9_needed 22 = .ok (.invokevirtual 176, 3) := by decide +kernel
theorem dX9_needed_25 : decode cX9_needed 25 = .ok (.ifCond .eq 14, 3) := by decide +kernel
theorem dX9_needed_28 : decode cX9_needed 28 = .ok (.aload_n 0, 1) := by decide +kernel
theorem dX9_needed_29 : decode cX9_needed 29 = .ok (.getfield 10, 3) := by decide +kernel
theorem dX9_needed_32 : decode cX9_needed 32 = .ok (.iload_n 2, 1) := by decide +kernel
theorem dX9_needed_33 : decode cX9_needed 33 = .ok (.invokevirtual 289, 3) := by decide +kernel
theorem dX9_needed_36 : decode cX9_needed 36 = .ok (.ifCond .ne 5, 3) := by decide +kernel
theorem dX9_needed_39 : decode cX9_needed 39 = .ok (.iconst (-1), 1) := by decide +kernel
theorem dX9_needed_40 : decode cX9_needed 40 = .ok (.ireturn, 1) := by decide +kernel
theorem dX9_needed_41 : decode cX9_needed 41 = .ok (.aload_n 0, 1) := by decide +kernel
theorem dX9_needed_42 : decode cX9_needed 42 = .ok (.iload_n 1, 1) := by decide +kernel
theorem dX9_needed_43 : decode cX9_needed 43 = .ok (.iload_n 2, 1) := by decide +kernel
theorem dX9_needed_44 : decode cX9_needed 44 = .ok (.invokevirtual 345, 3) := by decide +kernel
theorem dX9_needed_47 : decode cX9_needed 47 = .ok (.ifCond .eq 7, 3) := by decide +kernel
theorem dX9_needed_50 : decode cX9_needed 50 = .ok (.iconst 1, 1) := by decide +kernel
theorem dX9_needed_51 : decode cX9_needed 51 = .ok (.goto 4, 3) := by decide +kernel
theorem dX9_needed_54 : decode cX9_needed 54 = .ok (.iconst 0, 1) := by decide +kernel
theorem dX9_needed_55 : decode cX9_needed 55 = .ok (.ireturn, 1) := by decide +kernel
theorem dX9_isNeeded_0 : decode cX9_isNeeded 0 = .ok (.aload_n 0, 1) := by decide +kernel
theorem dX9_isNeeded_1 : decode cX9_isNeeded 1 = .ok (.iload_n 1, 1) := by decide +kernel
theorem dX9_isNeeded_2 : decode cX9_isNeeded 2 = .ok (.iload_n 2, 1) := by decide +kernel
theorem dX9_isNeeded_3 : decode cX9_isNeeded 3 = .ok (.invokevirtual 349, 3) := by decide +kernel
theorem dX9_isNeeded_6 : decode cX9_isNeeded 6 = .ok (.aload_n 0, 1) := by decide +kernel
theorem dX9_isNeeded_7 : decode cX9_isNeeded 7 = .ok (.getfield 10, 3) := by decide +kernel
theorem dX9_isNeeded_10 : decode cX9_isNeeded 10 = .ok (.getfield 284, 3) := by decide +kernel
theorem dX9_isNeeded_13 : decode cX9_isNeeded 13 = .ok (.iload_n 2, 1) := by decide +kernel
theorem dX9_isNeeded_14 : decode cX9_isNeeded 14 = .ok (.laload, 1) := by decide +kernel
theorem dX9_isNeeded_15 : decode cX9_isNeeded 15 = .ok (.lcmp, 1) := by decide +kernel
theorem dX9_isNeeded_16 : decode cX9_isNeeded 16 = .ok (.ifCond .eq 7, 3) := by decide +kernel
theorem dX9_isNeeded_19 : decode cX9_isNeeded 19 = .ok (.iconst 1, 1) := by decide +kernel
theorem dX9_isNeeded_20 : decode cX9_isNeeded 20 = .ok (.goto 4, 3) := by decide +kernel
theorem dX9_isNeeded_23 : decode cX9_isNeeded 23 = .ok (.iconst 0, 1) := by decide +kernel
theorem dX9_isNeeded_24 : decode cX9_isNeeded 24 = .ok (.ireturn, 1) := by decide +kernel
theorem dX9_neededCount_0 : decode cX9_neededCount 0 = .ok (.aload_n 0, 1) := by decide +kernel
theorem dX9_neededCount_1 : decode cX9_neededCount 1 = .ok (.iload_n 1, 1) := by decide +kernel
theorem dX9_neededCount_2 : decode cX9_neededCount 2 = .ok (.invokevirtual 292, 3) := by decide +kernel
theorem dX9_neededCount_5 : decode cX9_neededCount 5 = .ok (.istore_n 2, 1) := by decide +kernel
theorem dX9_neededCount_6 : decode cX9_neededCount 6 = .ok (.iconst 0, 1) := by decide +kernel
theorem dX9_neededCount_7 : decode cX9_neededCount 7 = .ok (.istore_n 3, 1) := by decide +kernel
theorem dX9_neededCount_8 : decode cX9_neededCount 8 = .ok (.iconst 0, 1) := by decide +kernel
theorem dX9_neededCount_9 : decode cX9_neededCount 9 = .ok (.istore 4, 2) := by decide +kernel
theorem dX9_neededCount_11 : decode cX9_neededCount 11 = .ok (.iload 4, 2) := by decide +kernel
theorem dX9_neededCount_13 : decode cX9_neededCount 13 = .ok (.iload_n 2, 1) := by decide +kernel
theorem dX9_neededCount_14 : decode cX9_neededCount 14 = .ok (.if_icmp .ge 30, 3) := by decide +kernel
theorem dX9_neededCount_17 : decode cX9_neededCount 17 = .ok (.aload_n 0, 1) := by decide +kernel
theorem dX9_neededCount_18 : decode cX9_neededCount 18 = .ok (.aload_n 0, 1) := by decide +kernel
theorem dX9_neededCount_19 : decode cX9_neededCount 19 = .ok (.getfield 43, 3) := by decide +kernel
theorem dX9_neededCount_22 : decode cX9_neededCount 22 = .ok (.getfield 339, 3) := by decide +kernel
theorem dX9_neededCount_25 : decode cX9_neededCount 25 = .ok (.iload 4, 2) := by decide +kernel
theorem dX9_neededCount_27 : decode cX9_neededCount 27 = .ok (.iaload, 1) := by decide +kernel
theorem dX9_neededCount_28 : decode cX9_neededCount 28 = .ok (.iload_n 1, 1) := by decide +kernel
theorem dX9_neededCount_29 : decode cX9_neededCount 29 = .ok (.invokevirtual 345, 3) := by decide +kernel
theorem dX9_neededCount_32 : decode cX9_neededCount 32 = .ok (.ifCond .eq 6, 3) := by decide +kernel
theorem dX9_neededCount_35 : decode cX9_neededCount 35 = .ok (.iinc 3 1, 3) := by decide +kernel
theorem dX9_neededCount_38 : decode cX9_neededCount 38 = .ok (.iinc 4 1, 3) := by decide +kernel
theorem dX9_neededCount_41 : decode cX9_neededCount 41 = .ok (.goto (-30), 3) := by decide +kernel
theorem dX9_neededCount_44 : decode cX9_neededCount 44 = .ok (.iload_n 3, 1) := by decide +kernel
theorem dX9_neededCount_45 : decode cX9_neededCount 45 = .ok (.ireturn, 1) := by decide +kernel
theorem dX9_dearestRoad_0 : decode cX9_dearestRoad 0 = .ok (.aload_n 0, 1) := by decide +kernel
theorem dX9_dearestRoad_1 : decode cX9_dearestRoad 1 = .ok (.iload_n 1, 1) := by decide +kernel
theorem dX9_dearestRoad_2 : decode cX9_dearestRoad 2 = .ok (.invokevirtual 292, 3) := by decide +kernel
theorem dX9_dearestRoad_5 : decode cX9_dearestRoad 5 = .ok (.istore_n 2, 1) := by decide +kernel
theorem dX9_dearestRoad_6 : decode cX9_dearestRoad 6 = .ok (.bipush (-2), 2) := by decide +kernel
theorem dX9_dearestRoad_8 : decode cX9_dearestRoad 8 = .ok (.istore_n 3, 1) := by decide +kernel
theorem dX9_dearestRoad_9 : decode cX9_dearestRoad 9 = .ok (.lconst 0, 1) := by decide +kernel
theorem dX9_dearestRoad_10 : decode cX9_dearestRoad 10 = .ok (.lstore 4, 2) := by decide +kernel
theorem dX9_dearestRoad_12 : decode cX9_dearestRoad 12 = .ok (.iconst 0, 1) := by decide +kernel
theorem dX9_dearestRoad_13 : decode cX9_dearestRoad 13 = .ok (.istore 6, 2) := by decide +kernel
theorem dX9_dearestRoad_15 : decode cX9_dearestRoad 15 = .ok (.iload 6, 2) := by decide +kernel
theorem dX9_dearestRoad_17 : decode cX9_dearestRoad 17 = .ok (.iload_n 2, 1) := by decide +kernel
theorem dX9_dearestRoad_18 : decode cX9_dearestRoad 18 = .ok (.if_icmp .ge 79, 3) := by decide +kernel
theorem dX9_dearestRoad_21 : decode cX9_dearestRoad 21 = .ok (.aload_n 0, 1) := by decide +kernel
theorem dX9_dearestRoad_22 : decode cX9_dearestRoad 22 = .ok (.getfield 43, 3) := by decide +kernel
theorem dX9_dearestRoad_25 : decode cX9_dearestRoad 25 = .ok (.getfield 339, 3) := by decide +kernel
theorem dX9_dearestRoad_28 : decode cX9_dearestRoad 28 = .ok (.iload 6, 2) := by decide +kernel
theorem dX9_dearestRoad_30 : decode cX9_dearestRoad 30 = .ok (.iaload, 1) := by decide +kernel
theorem dX9_dearestRoad_31 : decode cX9_dearestRoad 31 = .ok (.istore 7, 2) := by decide +kernel
theorem dX9_dearestRoad_33 : decode cX9_dearestRoad 33 = .ok (.aload_n 0, 1) := by decide +kernel
theorem dX9_dearestRoad_34 : decode cX9_dearestRoad 34 = .ok (.iload 7, 2) := by decide +kernel
theorem dX9_dearestRoad_36 : decode cX9_dearestRoad 36 = .ok (.iload_n 1, 1) := by decide +kernel
theorem dX9_dearestRoad_37 : decode cX9_dearestRoad 37 = .ok (.invokevirtual 349, 3) := by decide +kernel
theorem dX9_dearestRoad_40 : decode cX9_dearestRoad 40 = .ok (.lstore 8, 2) := by decide +kernel
theorem dX9_dearestRoad_42 : decode cX9_dearestRoad 42 = .ok (.iload_n 3, 1) := by decide +kernel
theorem dX9_dearestRoad_43 : decode cX9_dearestRoad 43 = .ok (.bipush (-2), 2) := by decide +kernel
theorem dX9_dearestRoad_45 : decode cX9_dearestRoad 45 = .ok (.if_icmp .ne 7, 3) := by decide +kernel
theorem dX9_dearestRoad_48 : decode cX9_dearestRoad 48 = .ok (.iconst 1, 1) := by decide +kernel
theorem dX9_dearestRoad_49 : decode cX9_dearestRoad 49 = .ok (.goto 4, 3) := by decide +kernel
theorem dX9_dearestRoad_52 : decode cX9_dearestRoad 52 = .ok (.iconst 0, 1) := by decide +kernel
theorem dX9_dearestRoad_53 : decode cX9_dearestRoad 53 = .ok (.istore 10, 2) := by decide +kernel
theorem dX9_dearestRoad_55 : decode cX9_dearestRoad 55 = .ok (.iload 10, 2) := by decide +kernel
theorem dX9_dearestRoad_57 : decode cX9_dearestRoad 57 = .ok (.ifCond .ne 27, 3) := by decide +kernel
theorem dX9_dearestRoad_60 : decode cX9_dearestRoad 60 = .ok (.lload 4, 2) := by decide +kernel
theorem dX9_dearestRoad_62 : decode cX9_dearestRoad 62 = .ok (.lload 8, 2) := by decide +kernel
theorem dX9_dearestRoad_64 : decode cX9_dearestRoad 64 = .ok (.invokestatic 353, 3) := by decide +kernel
theorem dX9_dearestRoad_67 : decode cX9_dearestRoad 67 = .ok (.ifCond .ne 17, 3) := by decide +kernel
theorem dX9_dearestRoad_70 : decode cX9_dearestRoad 70 = .ok (.lload 8, 2) := by decide +kernel
theorem dX9_dearestRoad_72 : decode cX9_dearestRoad 72 = .ok (.lload 4, 2) := by decide +kernel
theorem dX9_dearestRoad_74 : decode cX9_dearestRoad 74 = .ok (.lcmp, 1) := by decide +kernel
theorem dX9_dearestRoad_75 : decode cX9_dearestRoad 75 = .ok (.ifCond .ne 16, 3) := by decide +kernel
theorem dX9_dearestRoad_78 : decode cX9_dearestRoad 78 = .ok (.iload 7, 2) := by decide +kernel
theorem dX9_dearestRoad_80 : decode cX9_dearestRoad 80 = .ok (.iload_n 3, 1) := by decide +kernel
theorem dX9_dearestRoad_81 : decode cX9_dearestRoad 81 = .ok (.if_icmp .ge 10, 3) := by decide +kernel
theorem dX9_dearestRoad_84 : decode cX9_dearestRoad 84 = .ok (.iload 7, 2) := by decide +kernel
theorem dX9_dearestRoad_86 : decode cX9_dearestRoad 86 = .ok (.istore_n 3, 1) := by decide +kernel
theorem dX9_dearestRoad_87 : decode cX9_dearestRoad 87 = .ok (.lload 8, 2) := by decide +kernel
theorem dX9_dearestRoad_89 : decode cX9_dearestRoad 89 = .ok (.lstore 4, 2) := by decide +kernel
theorem dX9_dearestRoad_91 : decode cX9_dearestRoad 91 = .ok (.iinc 6 1, 3) := by decide +kernel
theorem dX9_dearestRoad_94 : decode cX9_dearestRoad 94 = .ok (.goto (-79), 3) := by decide +kernel
theorem dX9_dearestRoad_97 : decode cX9_dearestRoad 97 = .ok (.iload_n 3, 1) := by decide +kernel
theorem dX9_dearestRoad_98 : decode cX9_dearestRoad 98 = .ok (.ireturn, 1) := by decide +kernel
theorem dX9_isLess_0 : decode cX9_isLess 0 = .ok (.lload_n 0, 1) := by decide +kernel
theorem dX9_isLess_1 : decode cX9_isLess 1 = .ok (.ldc2_w 261, 3) := by decide +kernel
theorem dX9_isLess_4 : decode cX9_isLess 4 = .ok (.lcmp, 1) := by decide +kernel
theorem dX9_isLess_5 : decode cX9_isLess 5 = .ok (.ifCond .eq 21, 3) := by decide +kernel
theorem dX9_isLess_8 : decode cX9_isLess 8 = .ok (.lload_n 2, 1) := by decide +kernel
theorem dX9_isLess_9 : decode cX9_isLess 9 = .ok (.ldc2_w 261, 3) := by decide +kernel
theorem dX9_isLess_12 : decode cX9_isLess 12 = .ok (.lcmp, 1) := by decide +kernel
theorem dX9_isLess_13 : decode cX9_isLess 13 = .ok (.ifCond .eq 9, 3) := by decide +kernel
theorem dX9_isLess_16 : decode cX9_isLess 16 = .ok (.lload_n 0, 1) := by decide +kernel
theorem dX9_isLess_17 : decode cX9_isLess 17 = .ok (.lload_n 2, 1) := by decide +kernel
theorem dX9_isLess_18 : decode cX9_isLess 18 = .ok (.lcmp, 1) := by decide +kernel
theorem dX9_isLess_19 : decode cX9_isLess 19 = .ok (.ifCond .ge 7, 3) := by decide +kernel
theorem dX9_isLess_22 : decode cX9_isLess 22 = .ok (.iconst 1, 1) := by decide +kernel
theorem dX9_isLess_23 : decode cX9_isLess 23 = .ok (.goto 4, 3) := by decide +kernel
theorem dX9_isLess_26 : decode cX9_isLess 26 = .ok (.iconst 0, 1) := by decide +kernel
theorem dX9_isLess_27 : decode cX9_isLess 27 = .ok (.ireturn, 1) := by decide +kernel
theorem dX9_distanceWithout_0 : decode cX9_distanceWithout 0 = .ok (.aload_n 0, 1) := by decide +kernel
theorem dX9_distanceWithout_1 : decode cX9_distanceWithout 1 = .ok (.getfield 10, 3) := by decide +kernel
theorem dX9_distanceWithout_4 : decode cX9_distanceWithout 4 = .ok (.getfield 148, 3) := by decide +kernel
theorem dX9_distanceWithout_7 : decode cX9_distanceWithout 7 = .ok (.aload_n 0, 1) := by decide +kernel
theorem dX9_distanceWithout_8 : decode cX9_distanceWithout 8 = .ok (.getfield 10, 3) := by decide +kernel
theorem dX9_distanceWithout_11 : decode cX9_distanceWithout 11 = .ok (.getfield 189, 3) := by decide +kernel
theorem dX9_distanceWithout_14 : decode cX9_distanceWithout 14 = .ok (.iload_n 1, 1) := by decide +kernel
theorem dX9_distanceWithout_15 : decode cX9_distanceWithout 15 = .ok (.aload_n 0, 1) := by decide +kernel
theorem dX9_distanceWithout_16 : decode cX9_distanceWithout 16 = .ok (.getfield 43, 3) := by decide +kernel
theorem dX9_distanceWithout_19 : decode cX9_distanceWithout 19 = .ok (.getfield 123, 3) := by decide +kernel
theorem dX9_distanceWithout_22 : decode cX9_distanceWithout 22 = .ok (.invokevirtual 130, 3) := by decide +kernel
theorem dX9_distanceWithout_25 : decode cX9_distanceWithout 25 = .ok (.aload_n 0, 1) := by decide +kernel
theorem dX9_distanceWithout_26 : decode cX9_distanceWithout 26 = .ok (.getfield 43, 3) := by decide +kernel
theorem dX9_distanceWithout_29 : decode cX9_distanceWithout 29 = .ok (.getfield 123, 3) := by decide +kernel
theorem dX9_distanceWithout_32 : decode cX9_distanceWithout 32 = .ok (.iload_n 2, 1) := by decide +kernel
theorem dX9_distanceWithout_33 : decode cX9_distanceWithout 33 = .ok (.laload, 1) := by decide +kernel
theorem dX9_distanceWithout_34 : decode cX9_distanceWithout 34 = .ok (.lreturn, 1) := by decide +kernel
theorem dX9_touched_0 : decode cX9_touched 0 = .ok (.iload_n 1, 1) := by decide +kernel
theorem dX9_touched_1 : decode cX9_touched 1 = .ok (.ifCond .ge 5, 3) := by decide +kernel
theorem dX9_touched_4 : decode cX9_touched 4 = .ok (.iconst (-1), 1) := by decide +kernel
theorem dX9_touched_5 : decode cX9_touched 5 = .ok (.ireturn, 1) := by decide +kernel
theorem dX9_touched_6 : decode cX9_touched 6 = .ok (.iload_n 1, 1) := by decide +kernel
theorem dX9_touched_7 : decode cX9_touched 7 = .ok (.aload_n 0, 1) := by decide +kernel
theorem dX9_touched_8 : decode cX9_touched 8 = .ok (.getfield 10, 3) := by decide +kernel
theorem dX9_touched_11 : decode cX9_touched 11 = .ok (.getfield 214, 3) := by decide +kernel
theorem dX9_touched_14 : decode cX9_touched 14 = .ok (.if_icmp .ge 15, 3) := by decide +kernel
theorem dX9_touched_17 : decode cX9_touched 17 = .ok (.aload_n 0, 1) := by decide +kernel
theorem dX9_touched_18 : decode cX9_touched 18 = .ok (.getfield 10, 3) := by decide +kernel
theorem dX9_touched_21 : decode cX9_touched 21 = .ok (.getfield 357, 3) := by decide +kernel
theorem dX9_touched_24 : decode cX9_touched 24 = .ok (.iload_n 1, 1) := by decide +kernel
theorem dX9_touched_25 : decode cX9_touched 25 = .ok (.iaload, 1) := by decide +kernel
theorem dX9_touched_26 : decode cX9_touched 26 = .ok (.goto 5, 3) := by decide +kernel
theorem dX9_touched_29 : decode cX9_touched 29 = .ok (.bipush (-4), 2) := by decide +kernel
theorem dX9_touched_31 : decode cX9_touched 31 = .ok (.ireturn, 1) := by decide +kernel
theorem dX9_without_0 : decode cX9_without 0 = .ok (.aload_n 0, 1) := by decide +kernel
theorem dX9_without_1 : decode cX9_without 1 = .ok (.getfield 10, 3) := by decide +kernel
theorem dX9_without_4 : decode cX9_without 4 = .ok (.getfield 148, 3) := by decide +kernel
theorem dX9_without_7 : decode cX9_without 7 = .ok (.iload_n 1, 1) := by decide +kernel
theorem dX9_without_8 : decode cX9_without 8 = .ok (.invokevirtual 201, 3) := by decide +kernel
theorem dX9_without_11 : decode cX9_without 11 = .ok (.ifCond .eq 17, 3) := by decide +kernel
theorem dX9_without_14 : decode cX9_without 14 = .ok (.aload_n 0, 1) := by decide +kernel
theorem dX9_without_15 : decode cX9_without 15 = .ok (.getfield 10, 3) := by decide +kernel
theorem dX9_without_18 : decode cX9_without 18 = .ok (.getfield 148, 3) := by decide +kernel
theorem dX9_without_21 : decode cX9_without 21 = .ok (.iload_n 2, 1) := by decide +kernel
theorem dX9_without_22 : decode cX9_without 22 = .ok (.invokevirtual 176, 3) := by decide +kernel
theorem dX9_without_25 : decode cX9_without 25 = .ok (.ifCond .ne 7, 3) := by decide +kernel
theorem dX9_without_28 : decode cX9_without 28 = .ok (.ldc2_w 261, 3) := by decide +kernel
theorem dX9_without_31 : decode cX9_without 31 = .ok (.lreturn, 1) := by decide +kernel
theorem dX9_without_32 : decode cX9_without 32 = .ok (.aload_n 0, 1) := by decide +kernel
theorem dX9_without_33 : decode cX9_without 33 = .ok (.iload_n 1, 1) := by decide +kernel
theorem dX9_without_34 : decode cX9_without 34 = .ok (.iload_n 2, 1) := by decide +kernel
theorem dX9_without_35 : decode cX9_without 35 = .ok (.invokevirtual 349, 3) := by decide +kernel
theorem dX9_without_38 : decode cX9_without 38 = .ok (.lreturn, 1) := by decide +kernel
theorem dX9_between_0 : decode cX9_between 0 = .ok (.aload_n 0, 1) := by decide +kernel
theorem dX9_between_1 : decode cX9_between 1 = .ok (.getfield 10, 3) := by decide +kernel
theorem dX9_between_4 : decode cX9_between 4 = .ok (.getfield 148, 3) := by decide +kernel
theorem dX9_between_7 : decode cX9_between 7 = .ok (.iload_n 1, 1) := by decide +kernel
theorem dX9_between_8 : decode cX9_between 8 = .ok (.invokevirtual 176, 3) := by decide +kernel
theorem dX9_between_11 : decode cX9_between 11 = .ok (.ifCond .eq 17, 3) := by decide +kernel
theorem dX9_between_14 : decode cX9_between 14 = .ok (.aload_n 0, 1) := by decide +kernel
theorem dX9_between_15 : decode cX9_between 15 = .ok (.getfield 10, 3) := by decide +kernel
theorem dX9_between_18 : decode cX9_between 18 = .ok (.getfield 148, 3) := by decide +kernel
theorem dX9_between_21 : decode cX9_between 21 = .ok (.iload_n 2, 1) := by decide +kernel
theorem dX9_between_22 : decode cX9_between 22 = .ok (.invokevirtual 176, 3) := by decide +kernel
theorem dX9_between_25 : decode cX9_between 25 = .ok (.ifCond .ne 7, 3) := by decide +kernel
theorem dX9_between_28 : decode cX9_between 28 = .ok (.ldc2_w 261, 3) := by decide +kernel
theorem dX9_between_31 : decode cX9_between 31 = .ok (.lreturn, 1) := by decide +kernel
theorem dX9_between_32 : decode cX9_between 32 = .ok (.aload_n 0, 1) := by decide +kernel
theorem dX9_between_33 : decode cX9_between 33 = .ok (.invokevirtual 251, 3) := by decide +kernel
theorem dX9_between_36 : decode cX9_between 36 = .ok (.iload_n 1, 1) := by decide +kernel
theorem dX9_between_37 : decode cX9_between 37 = .ok (.iload_n 2, 1) := by decide +kernel
theorem dX9_between_38 : decode cX9_between 38 = .ok (.invokevirtual 360, 3) := by decide +kernel
theorem dX9_between_41 : decode cX9_between 41 = .ok (.lreturn, 1) := by decide +kernel
theorem dX9_free_0 : decode cX9_free 0 = .ok (.aload_n 0, 1) := by decide +kernel
theorem dX9_free_1 : decode cX9_free 1 = .ok (.getfield 10, 3) := by decide +kernel
theorem dX9_free_4 : decode cX9_free 4 = .ok (.getfield 148, 3) := by decide +kernel
theorem dX9_free_7 : decode cX9_free 7 = .ok (.iload_n 1, 1) := by decide +kernel
theorem dX9_free_8 : decode cX9_free 8 = .ok (.invokevirtual 176, 3) := by decide +kernel
theorem dX9_free_11 : decode cX9_free 11 = .ok (.ifCond .eq 12, 3) := by decide +kernel
theorem dX9_free_14 : decode cX9_free 14 = .ok (.iload_n 2, 1) := by decide +kernel
theorem dX9_free_15 : decode cX9_free 15 = .ok (.ifCond .lt 8, 3) := by decide +kernel
theorem dX9_free_18 : decode cX9_free 18 = .ok (.iload_n 2, 1) := by decide +kernel
theorem dX9_free_19 : decode cX9_free 19 = .ok (.iconst 3, 1) := by decide +kernel
theorem dX9_free_20 : decode cX9_free 20 = .ok (.if_icmp .le 7, 3) := by decide +kernel
theorem dX9_free_23 : decode cX9_free 23 = .ok (.ldc2_w 261, 3) := by decide +kernel
theorem dX9_free_26 : decode cX9_free 26 = .ok (.lreturn, 1) := by decide +kernel
theorem dX9_free_27 : decode cX9_free 27 = .ok (.aload_n 0, 1) := by decide +kernel
theorem dX9_free_28 : decode cX9_free 28 = .ok (.getfield 43, 3) := by decide +kernel
theorem dX9_free_31 : decode cX9_free 31 = .ok (.aload_n 0, 1) := by decide +kernel
theorem dX9_free_32 : decode cX9_free 32 = .ok (.getfield 10, 3) := by decide +kernel
theorem dX9_free_35 : decode cX9_free 35 = .ok (.aload_n 0, 1) := by decide +kernel
theorem dX9_free_36 : decode cX9_free 36 = .ok (.invokevirtual 251, 3) := by decide +kernel
theorem dX9_free_39 : decode cX9_free 39 = .ok (.iload_n 1, 1) := by decide +kernel
theorem dX9_free_40 : decode cX9_free 40 = .ok (.iload_n 2, 1) := by decide +kernel
theorem dX9_free_41 : decode cX9_free 41 = .ok (.invokevirtual 363, 3) := by decide +kernel
theorem dX9_free_44 : decode cX9_free 44 = .ok (.lreturn, 1) := by decide +kernel
theorem dX9_hops_0 : decode cX9_hops 0 = .ok (.aload_n 0, 1) := by decide +kernel
theorem dX9_hops_1 : decode cX9_hops 1 = .ok (.getfield 10, 3) := by decide +kernel
theorem dX9_hops_4 : decode cX9_hops 4 = .ok (.getfield 148, 3) := by decide +kernel
theorem dX9_hops_7 : decode cX9_hops 7 = .ok (.iload_n 1, 1) := by decide +kernel
theorem dX9_hops_8 : decode cX9_hops 8 = .ok (.invokevirtual 176, 3) := by decide +kernel
theorem dX9_hops_11 : decode cX9_hops 11 = .ok (.ifCond .eq 13, 3) := by decide +kernel
theorem dX9_hops_14 : decode cX9_hops 14 = .ok (.iload_n 2, 1) := by decide +kernel
theorem dX9_hops_15 : decode cX9_hops 15 = .ok (.ifCond .lt 9, 3) := by decide +kernel
theorem dX9_hops_18 : decode cX9_hops 18 = .ok (.iload_n 2, 1) := by decide +kernel
theorem dX9_hops_19 : decode cX9_hops 19 = .ok (.bipush 36, 2) := by decide +kernel
theorem dX9_hops_21 : decode cX9_hops 21 = .ok (.if_icmp .le 7, 3) := by decide +kernel
theorem dX9_hops_24 : decode cX9_hops 24 = .ok (.ldc2_w 261, 3) := by decide +kernel
theorem dX9_hops_27 : decode cX9_hops 27 = .ok (.lreturn, 1) := by decide +kernel
theorem dX9_hops_28 : decode cX9_hops 28 = .ok (.aload_n 0, 1) := by decide +kernel
theorem dX9_hops_29 : decode cX9_hops 29 = .ok (.getfield 43, 3) := by decide +kernel
theorem dX9_hops_32 : decode cX9_hops 32 = .ok (.aload_n 0, 1) := by decide +kernel
theorem dX9_hops_33 : decode cX9_hops 33 = .ok (.getfield 10, 3) := by decide +kernel
theorem dX9_hops_36 : decode cX9_hops 36 = .ok (.iload_n 1, 1) := by decide +kernel
theorem dX9_hops_37 : decode cX9_hops 37 = .ok (.iload_n 2, 1) := by decide +kernel
theorem dX9_hops_38 : decode cX9_hops 38 = .ok (.invokevirtual 367, 3) := by decide +kernel
theorem dX9_hops_41 : decode cX9_hops 41 = .ok (.lreturn, 1) := by decide +kernel
theorem dX9_meet_0 : decode cX9_meet 0 = .ok (.iload_n 1, 1) := by decide +kernel
theorem dX9_meet_1 : decode cX9_meet 1 = .ok (.ifCond .eq 26, 3) := by decide +kernel
theorem dX9_meet_4 : decode cX9_meet 4 = .ok (.aload_n 0, 1) := by decide +kernel
theorem dX9_meet_5 : decode cX9_meet 5 = .ok (.getfield 10, 3) := by decide +kernel
theorem dX9_meet_8 : decode cX9_meet 8 = .ok (.getfield 148, 3) := by decide +kernel
theorem dX9_meet_11 : decode cX9_meet 11 = .ok (.iload_n 1, 1) := by decide +kernel
theorem dX9_meet_12 : decode cX9_meet 12 = .ok (.invokevirtual 371, 3) := by decide +kernel
theorem dX9_meet_15 : decode cX9_meet 15 = .ok (.ifCond .eq 12, 3) := by decide +kernel
theorem dX9_meet_18 : decode cX9_meet 18 = .ok (.iload_n 2, 1) := by decide +kernel
theorem dX9_meet_19 : decode cX9_meet 19 = .ok (.ifCond .lt 8, 3) := by decide +kernel
theorem dX9_meet_22 : decode cX9_meet 22 = .ok (.iload_n 2, 1) := by decide +kernel
theorem dX9_meet_23 : decode cX9_meet 23 = .ok (.iconst 3, 1) := by decide +kernel
theorem dX9_meet_24 : decode cX9_meet 24 = .ok (.if_icmp .le 7, 3) := by decide +kernel
theorem dX9_meet_27 : decode cX9_meet 27 = .ok (.ldc2_w 261, 3) := by decide +kernel
theorem dX9_meet_30 : decode cX9_meet 30 = .ok (.lreturn, 1) := by decide +kernel
theorem dX9_meet_31 : decode cX9_meet 31 = .ok (.iload_n 2, 1) := by decide +kernel
theorem dX9_meet_32 : decode cX9_meet 32 = .ok (.iconst 2, 1) := by decide +kernel
theorem dX9_meet_33 : decode cX9_meet 33 = .ok (.if_icmp .lt 7, 3) := by decide +kernel
theorem dX9_meet_36 : decode cX9_meet 36 = .ok (.iconst 1, 1) := by decide +kernel
theorem dX9_meet_37 : decode cX9_meet 37 = .ok (.goto 4, 3) := by decide +kernel
theorem dX9_meet_40 : decode cX9_meet 40 = .ok (.iconst 0, 1) := by decide +kernel
theorem dX9_meet_41 : decode cX9_meet 41 = .ok (.istore_n 3, 1) := by decide +kernel
theorem dX9_meet_42 : decode cX9_meet 42 = .ok (.aload_n 0, 1) := by decide +kernel
theorem dX9_meet_43 : decode cX9_meet 43 = .ok (.invokevirtual 251, 3) := by decide +kernel
theorem dX9_meet_46 : decode cX9_meet 46 = .ok (.iload_n 1, 1) := by decide +kernel
theorem dX9_meet_47 : decode cX9_meet 47 = .ok (.iload_n 3, 1) := by decide +kernel
theorem dX9_meet_48 : decode cX9_meet 48 = .ok (.invokevirtual 374, 3) := by decide +kernel
theorem dX9_meet_51 : decode cX9_meet 51 = .ok (.istore 4, 2) := by decide +kernel
theorem dX9_meet_53 : decode cX9_meet 53 = .ok (.iload 4, 2) := by decide +kernel
theorem dX9_meet_55 : decode cX9_meet 55 = .ok (.iconst (-1), 1) := by decide +kernel
theorem dX9_meet_56 : decode cX9_meet 56 = .ok (.if_icmp .ne 7, 3) := by decide +kernel
theorem dX9_meet_59 : decode cX9_meet 59 = .ok (.ldc2_w 261, 3) := by decide +kernel
theorem dX9_meet_62 : decode cX9_meet 62 = .ok (.lreturn, 1) := by decide +kernel
theorem dX9_meet_63 : decode cX9_meet 63 = .ok (.iload_n 2, 1) := by decide +kernel
theorem dX9_meet_64 : decode cX9_meet 64 = .ok (.iconst 2, 1) := by decide +kernel
theorem dX9_meet_65 : decode cX9_meet 65 = .ok (.irem, 1) := by decide +kernel
theorem dX9_meet_66 : decode cX9_meet 66 = .ok (.ifCond .ne 9, 3) := by decide +kernel
theorem dX9_meet_69 : decode cX9_meet 69 = .ok (.iload 4, 2) := by decide +kernel
theorem dX9_meet_71 : decode cX9_meet 71 = .ok (.i2l, 1) := by decide +kernel
theorem dX9_meet_72 : decode cX9_meet 72 = .ok (.goto 14, 3) := by decide +kernel
theorem dX9_meet_75 : decode cX9_meet 75 = .ok (.aload_n 0, 1) := by decide +kernel
theorem dX9_meet_76 : decode cX9_meet 76 = .ok (.getfield 36, 3) := by decide +kernel
theorem dX9_meet_79 : decode cX9_meet 79 = .ok (.iload_n 1, 1) := by decide +kernel
theorem dX9_meet_80 : decode cX9_meet 80 = .ok (.iload 4, 2) := by decide +kernel
theorem dX9_meet_82 : decode cX9_meet 82 = .ok (.iload_n 3, 1) := by decide +kernel
theorem dX9_meet_83 : decode cX9_meet 83 = .ok (.invokevirtual 377, 3) := by decide +kernel
theorem dX9_meet_86 : decode cX9_meet 86 = .ok (.lreturn, 1) := by decide +kernel
theorem dX9_through_0 : decode cX9_through 0 = .ok (.aload_n 0, 1) := by decide +kernel
theorem dX9_through_1 : decode cX9_through 1 = .ok (.getfield 10, 3) := by decide +kernel
theorem dX9_through_4 : decode cX9_through 4 = .ok (.getfield 148, 3) := by decide +kernel
theorem dX9_through_7 : decode cX9_through 7 = .ok (.iload_n 1, 1) := by decide +kernel
theorem dX9_through_8 : decode cX9_through 8 = .ok (.invokevirtual 176, 3) := by decide +kernel
theorem dX9_through_11 : decode cX9_through 11 = .ok (.ifCond .eq 17, 3) := by decide +kernel
theorem dX9_through_14 : decode cX9_through 14 = .ok (.aload_n 0, 1) := by decide +kernel
theorem dX9_through_15 : decode cX9_through 15 = .ok (.getfield 10, 3) := by decide +kernel
theorem dX9_through_18 : decode cX9_through 18 = .ok (.getfield 148, 3) := by decide +kernel
theorem dX9_through_21 : decode cX9_through 21 = .ok (.iload_n 2, 1) := by decide +kernel
theorem dX9_through_22 : decode cX9_through 22 = .ok (.invokevirtual 176, 3) := by decide +kernel
theorem dX9_through_25 : decode cX9_through 25 = .ok (.ifCond .ne 7, 3) := by decide +kernel
theorem dX9_through_28 : decode cX9_through 28 = .ok (.ldc2_w 261, 3) := by decide +kernel
theorem dX9_through_31 : decode cX9_through 31 = .ok (.lreturn, 1) := by decide +kernel
theorem dX9_through_32 : decode cX9_through 32 = .ok (.aload_n 0, 1) := by decide +kernel
theorem dX9_through_33 : decode cX9_through 33 = .ok (.getfield 10, 3) := by decide +kernel
theorem dX9_through_36 : decode cX9_through 36 = .ok (.getfield 284, 3) := by decide +kernel
theorem dX9_through_39 : decode cX9_through 39 = .ok (.iload_n 2, 1) := by decide +kernel
theorem dX9_through_40 : decode cX9_through 40 = .ok (.laload, 1) := by decide +kernel
theorem dX9_through_41 : decode cX9_through 41 = .ok (.aload_n 0, 1) := by decide +kernel
theorem dX9_through_42 : decode cX9_through 42 = .ok (.invokevirtual 251, 3) := by decide +kernel
theorem dX9_through_45 : decode cX9_through 45 = .ok (.iload_n 2, 1) := by decide +kernel
theorem dX9_through_46 : decode cX9_through 46 = .ok (.iload_n 1, 1) := by decide +kernel
theorem dX9_through_47 : decode cX9_through 47 = .ok (.invokevirtual 360, 3) := by decide +kernel
theorem dX9_through_50 : decode cX9_through 50 = .ok (.invokestatic 381, 3) := by decide +kernel
theorem dX9_through_53 : decode cX9_through 53 = .ok (.lreturn, 1) := by decide +kernel
theorem dX9_joined_0 : decode cX9_joined 0 = .ok (.lload_n 0, 1) := by decide +kernel
theorem dX9_joined_1 : decode cX9_joined 1 = .ok (.ldc2_w 261, 3) := by decide +kernel
theorem dX9_joined_4 : decode cX9_joined 4 = .ok (.lcmp, 1) := by decide +kernel
theorem dX9_joined_5 : decode cX9_joined 5 = .ok (.ifCond .eq 11, 3) := by decide +kernel
theorem dX9_joined_8 : decode cX9_joined 8 = .ok (.lload_n 2, 1) := by decide +kernel
theorem dX9_joined_9 : decode cX9_joined 9 = .ok (.ldc2_w 261, 3) := by decide +kernel
theorem dX9_joined_12 : decode cX9_joined 12 = .ok (.lcmp, 1) := by decide +kernel
theorem dX9_joined_13 : decode cX9_joined 13 = .ok (.ifCond .ne 9, 3) := by decide +kernel
theorem dX9_joined_16 : decode cX9_joined 16 = .ok (.ldc2_w 261, 3) := by decide +kernel
theorem dX9_joined_19 : decode cX9_joined 19 = .ok (.goto 6, 3) := by decide +kernel
theorem dX9_joined_22 : decode cX9_joined 22 = .ok (.lload_n 0, 1) := by decide +kernel
theorem dX9_joined_23 : decode cX9_joined 23 = .ok (.lload_n 2, 1) := by decide +kernel
theorem dX9_joined_24 : decode cX9_joined 24 = .ok (.ladd, 1) := by decide +kernel
theorem dX9_joined_25 : decode cX9_joined 25 = .ok (.lreturn, 1) := by decide +kernel
theorem dX9_apartLength_0 : decode cX9_apartLength 0 = .ok (.aload_n 0, 1) := by decide +kernel
theorem dX9_apartLength_1 : decode cX9_apartLength 1 = .ok (.getfield 10, 3) := by decide +kernel
theorem dX9_apartLength_4 : decode cX9_apartLength 4 = .ok (.iload_n 1, 1) := by decide +kernel
theorem dX9_apartLength_5 : decode cX9_apartLength 5 = .ok (.invokevirtual 289, 3) := by decide +kernel
theorem dX9_apartLength_8 : decode cX9_apartLength 8 = .ok (.ifCond .ne 7, 3) := by decide +kernel
theorem dX9_apartLength_11 : decode cX9_apartLength 11 = .ok (.ldc2_w 261, 3) := by decide +kernel
theorem dX9_apartLength_14 : decode cX9_apartLength 14 = .ok (.lreturn, 1) := by decide +kernel
theorem dX9_apartLength_15 : decode cX9_apartLength 15 = .ok (.iload_n 1, 1) := by decide +kernel
theorem dX9_apartLength_16 : decode cX9_apartLength 16 = .ok (.aload_n 0, 1) := by decide +kernel
theorem dX9_apartLength_17 : decode cX9_apartLength 17 = .ok (.getfield 10, 3) := by decide +kernel
theorem dX9_apartLength_20 : decode cX9_apartLength 20 = .ok (.getfield 189, 3) := by decide +kernel
theorem dX9_apartLength_23 : decode cX9_apartLength 23 = .ok (.if_icmp .ne 7, 3) := by decide +kernel
theorem dX9_apartLength_26 : decode cX9_apartLength 26 = .ok (.lconst 0, 1) := by decide +kernel
theorem dX9_apartLength_27 : decode cX9_apartLength 27 = .ok (.goto 15, 3) := by decide +kernel
theorem dX9_apartLength_30 : decode cX9_apartLength 30 = .ok (.aload_n 0, 1) := by decide +kernel
theorem dX9_apartLength_31 : decode cX9_apartLength 31 = .ok (.getfield 43, 3) := by decide +kernel
theorem dX9_apartLength_34 : decode cX9_apartLength 34 = .ok (.aload_n 0, 1) := by decide +kernel
theorem dX9_apartLength_35 : decode cX9_apartLength 35 = .ok (.getfield 10, 3) := by decide +kernel
theorem dX9_apartLength_38 : decode cX9_apartLength 38 = .ok (.iload_n 1, 1) := by decide +kernel
theorem dX9_apartLength_39 : decode cX9_apartLength 39 = .ok (.invokevirtual 385, 3) := by decide +kernel
theorem dX9_apartLength_42 : decode cX9_apartLength 42 = .ok (.lreturn, 1) := by decide +kernel
theorem dX9_shortcut_0 : decode cX9_shortcut 0 = .ok (.iload_n 1, 1) := by decide +kernel
theorem dX9_shortcut_1 : decode cX9_shortcut 1 = .ok (.invokestatic 179, 3) := by decide +kernel
theorem dX9_shortcut_4 : decode cX9_shortcut 4 = .ok (.ifCond .eq 12, 3) := by decide +kernel
theorem dX9_shortcut_7 : decode cX9_shortcut 7 = .ok (.iload_n 2, 1) := by decide +kernel
theorem dX9_shortcut_8 : decode cX9_shortcut 8 = .ok (.ifCond .lt 8, 3) := by decide +kernel
theorem dX9_shortcut_11 : decode cX9_shortcut 11 = .ok (.iload_n 2, 1) := by decide +kernel
theorem dX9_shortcut_12 : decode cX9_shortcut 12 = .ok (.iconst 2, 1) := by decide +kernel
theorem dX9_shortcut_13 : decode cX9_shortcut 13 = .ok (.if_icmp .le 7, 3) := by decide +kernel
theorem dX9_shortcut_16 : decode cX9_shortcut 16 = .ok (.ldc2_w 261, 3) := by decide +kernel
theorem dX9_shortcut_19 : decode cX9_shortcut 19 = .ok (.lreturn, 1) := by decide +kernel
theorem dX9_shortcut_20 : decode cX9_shortcut 20 = .ok (.aload_n 0, 1) := by decide +kernel
theorem dX9_shortcut_21 : decode cX9_shortcut 21 = .ok (.iload_n 1, 1) := by decide +kernel
theorem dX9_shortcut_22 : decode cX9_shortcut 22 = .ok (.invokevirtual 388, 3) := by decide +kernel
theorem dX9_shortcut_25 : decode cX9_shortcut 25 = .ok (.aload_n 0, 1) := by decide +kernel
theorem dX9_shortcut_26 : decode cX9_shortcut 26 = .ok (.getfield 65, 3) := by decide +kernel
theorem dX9_shortcut_29 : decode cX9_shortcut 29 = .ok (.iconst 2, 1) := by decide +kernel
theorem dX9_shortcut_30 : decode cX9_shortcut 30 = .ok (.laload, 1) := by decide +kernel
theorem dX9_shortcut_31 : decode cX9_shortcut 31 = .ok (.lconst 0, 1) := by decide +kernel
theorem dX9_shortcut_32 : decode cX9_shortcut 32 = .ok (.lcmp, 1) := by decide +kernel
theorem dX9_shortcut_33 : decode cX9_shortcut 33 = .ok (.ifCond .le 12, 3) := by decide +kernel
theorem dX9_shortcut_36 : decode cX9_shortcut 36 = .ok (.aload_n 0, 1) := by decide +kernel
theorem dX9_shortcut_37 : decode cX9_shortcut 37 = .ok (.getfield 65, 3) := by decide +kernel
theorem dX9_shortcut_40 : decode cX9_shortcut 40 = .ok (.iload_n 2, 1) := by decide +kernel
theorem dX9_shortcut_41 : decode cX9_shortcut 41 = .ok (.laload, 1) := by decide +kernel
theorem dX9_shortcut_42 : decode cX9_shortcut 42 = .ok (.goto 6, 3) := by decide +kernel
theorem dX9_shortcut_45 : decode cX9_shortcut 45 = .ok (.ldc2_w 287, 3) := by decide +kernel
theorem dX9_shortcut_48 : decode cX9_shortcut 48 = .ok (.lreturn, 1) := by decide +kernel
theorem dX9_findShortcut_0 : decode cX9_findShortcut 0 = .ok (.aload_n 0, 1) := by decide +kernel
theorem dX9_findShortcut_1 : decode cX9_findShortcut 1 = .ok (.invokevirtual 251, 3) := by decide +kernel
theorem dX9_findShortcut_4 : decode cX9_findShortcut 4 = .ok (.astore_n 2, 1) := by decide +kernel
theorem dX9_findShortcut_5 : decode cX9_findShortcut 5 = .ok (.aload_n 0, 1) := by decide +kernel
theorem dX9_findShortcut_6 : decode cX9_findShortcut 6 = .ok (.getfield 65, 3) := by decide +kernel
theorem dX9_findShortcut_9 : decode cX9_findShortcut 9 = .ok (.iconst 2, 1) := by decide +kernel
theorem dX9_findShortcut_10 : decode cX9_findShortcut 10 = .ok (.lconst 0, 1) := by decide +kernel
theorem dX9_findShortcut_11 : decode cX9_findShortcut 11 = .ok (.lastore, 1) := by decide +kernel
theorem dX9_findShortcut_12 : decode cX9_findShortcut 12 = .ok (.iconst 0, 1) := by decide +kernel
theorem dX9_findShortcut_13 : decode cX9_findShortcut 13 = .ok (.istore_n 3, 1) := by decide +kernel
theorem dX9_findShortcut_14 : decode cX9_findShortcut 14 = .ok (.iload_n 3, 1) := by decide +kernel
theorem dX9_findShortcut_15 : decode cX9_findShortcut 15 = .ok (.aload_n 0, 1) := by decide +kernel
theorem dX9_findShortcut_16 : decode cX9_findShortcut 16 = .ok (.getfield 10, 3) := by decide +kernel
theorem dX9_findShortcut_19 : decode cX9_findShortcut 19 = .ok (.getfield 148, 3) := by decide +kernel
theorem dX9_findShortcut_22 : decode cX9_findShortcut 22 = .ok (.getfield 151, 3) := by decide +kernel
theorem dX9_findShortcut_25 : decode cX9_findShortcut 25 = .ok (.if_icmp .ge 111, 3) := by decide +kernel
theorem dX9_findShortcut_28 : decode cX9_findShortcut 28 = .ok (.iconst 0, 1) := by decide +kernel
theorem dX9_findShortcut_29 : decode cX9_findShortcut 29 = .ok (.istore 4, 2) := by decide +kernel
theorem dX9_findShortcut_31 : decode cX9_findShortcut 31 = .ok (.iload 4, 2) := by decide +kernel
theorem dX9_findShortcut_33 : decode cX9_findShortcut 33 = .ok (.aload_n 0, 1) := by decide +kernel
theorem dX9_findShortcut_34 : decode cX9_findShortcut 34 = .ok (.getfield 10, 3) := by decide +kernel
theorem dX9_findShortcut_37 : decode cX9_findShortcut 37 = .ok (.getfield 148, 3) := by decide +kernel
theorem dX9_findShortcut_40 : decode cX9_findShortcut 40 = .ok (.getfield 151, 3) := by decide +kernel
theorem dX9_findShortcut_43 : decode cX9_findShortcut 43 = .ok (.if_icmp .ge 87, 3) := by decide +kernel
theorem dX9_findShortcut_46 : decode cX9_findShortcut 46 = .ok (.iload_n 3, 1) := by decide +kernel
theorem dX9_findShortcut_47 : decode cX9_findShortcut 47 = .ok (.iload 4, 2) := by decide +kernel
theorem dX9_findShortcut_49 : decode cX9_findShortcut 49 = .ok (.if_icmp .eq 75, 3) := by decide +kernel
theorem dX9_findShortcut_52 : decode cX9_findShortcut 52 = .ok (.aload_n 0, 1) := by decide +kernel
theorem dX9_findShortcut_53 : decode cX9_findShortcut 53 = .ok (.getfield 10, 3) := by decide +kernel
theorem dX9_findShortcut_56 : decode cX9_findShortcut 56 = .ok (.iload_n 3, 1) := by decide +kernel
theorem dX9_findShortcut_57 : decode cX9_findShortcut 57 = .ok (.invokevirtual 289, 3) := by decide +kernel
theorem dX9_findShortcut_60 : decode cX9_findShortcut 60 = .ok (.ifCond .eq 64, 3) := by decide +kernel
theorem dX9_findShortcut_63 : decode cX9_findShortcut 63 = .ok (.aload_n 2, 1) := by decide +kernel
theorem dX9_findShortcut_64 : decode cX9_findShortcut 64 = .ok (.iload_n 3, 1) := by decide +kernel
theorem dX9_findShortcut_65 : decode cX9_findShortcut 65 = .ok (.iload 4, 2) := by decide +kernel
theorem dX9_findShortcut_67 : decode cX9_findShortcut 67 = .ok (.iload_n 1, 1) := by decide +kernel
theorem dX9_findShortcut_68 : decode cX9_findShortcut 68 = .ok (.invokevirtual 391, 3) := by decide +kernel
theorem dX9_findShortcut_71 : decode cX9_findShortcut 71 = .ok (.ifCond .eq 6, 3) := by decide +kernel
theorem dX9_findShortcut_74 : decode cX9_findShortcut 74 = .ok (.goto 50, 3) := by decide +kernel
theorem dX9_findShortcut_77 : decode cX9_findShortcut 77 = .ok (.aload_n 0, 1) := by decide +kernel
theorem dX9_findShortcut_78 : decode cX9_findShortcut 78 = .ok (.iload_n 3, 1) := by decide +kernel
theorem dX9_findShortcut_79 : decode cX9_findShortcut 79 = .ok (.iload 4, 2) := by decide +kernel
theorem dX9_findShortcut_81 : decode cX9_findShortcut 81 = .ok (.iload_n 1, 1) := by decide +kernel
theorem dX9_findShortcut_82 : decode cX9_findShortcut 82 = .ok (.invokevirtual 394, 3) := by decide +kernel
theorem dX9_findShortcut_85 : decode cX9_findShortcut 85 = .ok (.lstore 5, 2) := by decide +kernel
theorem dX9_findShortcut_87 : decode cX9_findShortcut 87 = .ok (.lload 5, 2) := by decide +kernel
theorem dX9_findShortcut_89 : decode cX9_findShortcut 89 = .ok (.aload_n 0, 1) := by decide +kernel
theorem dX9_findShortcut_90 : decode cX9_findShortcut 90 = .ok (.getfield 65, 3) := by decide +kernel
theorem dX9_findShortcut_93 : decode cX9_findShortcut 93 = .ok (.iconst 2, 1) := by decide +kernel
theorem dX9_findShortcut_94 : decode cX9_findShortcut 94 = .ok (.laload, 1) := by decide +kernel
theorem dX9_findShortcut_95 : decode cX9_findShortcut 95 = .ok (.lcmp, 1) := by decide +kernel
theorem dX9_findShortcut_96 : decode cX9_findShortcut 96 = .ok (.ifCond .le 28, 3) := by decide +kernel
theorem dX9_findShortcut_99 : decode cX9_findShortcut 99 = .ok (.aload_n 0, 1) := by decide +kernel
theorem dX9_findShortcut_100 : decode cX9_findShortcut 100 = .ok (.getfield 65, 3) := by decide +kernel
theorem dX9_findShortcut_103 : decode cX9_findShortcut 103 = .ok (.iconst 0, 1) := by decide +kernel
theorem dX9_findShortcut_104 : decode cX9_findShortcut 104 = .ok (.iload_n 3, 1) := by decide +kernel
theorem dX9_findShortcut_105 : decode cX9_findShortcut 105 = .ok (.i2l, 1) := by decide +kernel
theorem dX9_findShortcut_106 : decode cX9_findShortcut 106 = .ok (.lastore, 1) := by decide +kernel
theorem dX9_findShortcut_107 : decode cX9_findShortcut 107 = .ok (.aload_n 0, 1) := by decide +kernel
theorem dX9_findShortcut_108 : decode cX9_findShortcut 108 = .ok (.getfield 65, 3) := by decide +kernel
theorem dX9_findShortcut_111 : decode cX9_findShortcut 111 = .ok (.iconst 1, 1) := by decide +kernel
theorem dX9_findShortcut_112 : decode cX9_findShortcut 112 = .ok (.iload 4, 2) := by decide +kernel
theorem dX9_findShortcut_114 : decode cX9_findShortcut 114 = .ok (.i2l, 1) := by decide +kernel
theorem dX9_findShortcut_115 : decode cX9_findShortcut 115 = .ok (.lastore, 1) := by decide +kernel
theorem dX9_findShortcut_116 : decode cX9_findShortcut 116 = .ok (.aload_n 0, 1) := by decide +kernel
theorem dX9_findShortcut_117 : decode cX9_findShortcut 117 = .ok (.getfield 65, 3) := by decide +kernel
theorem dX9_findShortcut_120 : decode cX9_findShortcut 120 = .ok (.iconst 2, 1) := by decide +kernel
theorem dX9_findShortcut_121 : decode cX9_findShortcut 121 = .ok (.lload 5, 2) := by decide +kernel
theorem dX9_findShortcut_123 : decode cX9_findShortcut 123 = .ok (.lastore, 1) := by decide +kernel
theorem dX9_findShortcut_124 : decode cX9_findShortcut 124 = .ok (.iinc 4 1, 3) := by decide +kernel
theorem dX9_findShortcut_127 : decode cX9_findShortcut 127 = .ok (.goto (-96), 3) := by decide +kernel
theorem dX9_findShortcut_130 : decode cX9_findShortcut 130 = .ok (.iinc 3 1, 3) := by decide +kernel
theorem dX9_findShortcut_133 : decode cX9_findShortcut 133 = .ok (.goto (-119), 3) := by decide +kernel
theorem dX9_findShortcut_136 : decode cX9_findShortcut 136 = .ok (.return_, 1) := by decide +kernel
theorem dX9_savedBy_0 : decode cX9_savedBy 0 = .ok (.lconst 0, 1) := by decide +kernel
theorem dX9_savedBy_1 : decode cX9_savedBy 1 = .ok (.lstore 4, 2) := by decide +kernel
theorem dX9_savedBy_3 : decode cX9_savedBy 3 = .ok (.iconst 0, 1) := by decide +kernel
theorem dX9_savedBy_4 : decode cX9_savedBy 4 = .ok (.istore 6, 2) := by decide +kernel
theorem dX9_savedBy_6 : decode cX9_savedBy 6 = .ok (.iload 6, 2) := by decide +kernel
theorem dX9_savedBy_8 : decode cX9_savedBy 8 = .ok (.aload_n 0, 1) := by decide +kernel
theorem dX9_savedBy_9 : decode cX9_savedBy 9 = .ok (.getfield 10, 3) := by decide +kernel
theorem dX9_savedBy_12 : decode cX9_savedBy 12 = .ok (.getfield 148, 3) := by decide +kernel
theorem dX9_savedBy_15 : decode cX9_savedBy 15 = .ok (.getfield 151, 3) := by decide +kernel
theorem dX9_savedBy_18 : decode cX9_savedBy 18 = .ok (.if_icmp .ge 77, 3) := by decide +kernel
theorem dX9_savedBy_21 : decode cX9_savedBy 21 = .ok (.aload_n 0, 1) := by decide +kernel
theorem dX9_savedBy_22 : decode cX9_savedBy 22 = .ok (.getfield 36, 3) := by decide +kernel
theorem dX9_savedBy_25 : decode cX9_savedBy 25 = .ok (.iload_n 2, 1) := by decide +kernel
theorem dX9_savedBy_26 : decode cX9_savedBy 26 = .ok (.iload 6, 2) := by decide +kernel
theorem dX9_savedBy_28 : decode cX9_savedBy 28 = .ok (.invokevirtual 360, 3) := by decide +kernel
theorem dX9_savedBy_31 : decode cX9_savedBy 31 = .ok (.lstore 7, 2) := by decide +kernel
theorem dX9_savedBy_33 : decode cX9_savedBy 33 = .ok (.lload 7, 2) := by decide +kernel
theorem dX9_savedBy_35 : decode cX9_savedBy 35 = .ok (.ldc2_w 261, 3) := by decide +kernel
theorem dX9_savedBy_38 : decode cX9_savedBy 38 = .ok (.lcmp, 1) := by decide +kernel
theorem dX9_savedBy_39 : decode cX9_savedBy 39 = .ok (.ifCond .eq 50, 3) := by decide +kernel
theorem dX9_savedBy_42 : decode cX9_savedBy 42 = .ok (.aload_n 0, 1) := by decide +kernel
theorem dX9_savedBy_43 : decode cX9_savedBy 43 = .ok (.getfield 10, 3) := by decide +kernel
theorem dX9_savedBy_46 : decode cX9_savedBy 46 = .ok (.iload 6, 2) := by decide +kernel
theorem dX9_savedBy_48 : decode cX9_savedBy 48 = .ok (.invokevirtual 289, 3) := by decide +kernel
theorem dX9_savedBy_51 : decode cX9_savedBy 51 = .ok (.ifCond .eq 38, 3) := by decide +kernel
theorem dX9_savedBy_54 : decode cX9_savedBy 54 = .ok (.lload 4, 2) := by decide +kernel
theorem dX9_savedBy_56 : decode cX9_savedBy 56 = .ok (.lconst 0, 1) := by decide +kernel
theorem dX9_savedBy_57 : decode cX9_savedBy 57 = .ok (.aload_n 0, 1) := by decide +kernel
theorem dX9_savedBy_58 : decode cX9_savedBy 58 = .ok (.getfield 10, 3) := by decide +kernel
theorem dX9_savedBy_61 : decode cX9_savedBy 61 = .ok (.getfield 284, 3) := by decide +kernel
theorem dX9_savedBy_64 : decode cX9_savedBy 64 = .ok (.iload 6, 2) := by decide +kernel
theorem dX9_savedBy_66 : decode cX9_savedBy 66 = .ok (.laload, 1) := by decide +kernel
theorem dX9_savedBy_67 : decode cX9_savedBy 67 = .ok (.aload_n 0, 1) := by decide +kernel
theorem dX9_savedBy_68 : decode cX9_savedBy 68 = .ok (.getfield 10, 3) := by decide +kernel
theorem dX9_savedBy_71 : decode cX9_savedBy 71 = .ok (.getfield 284, 3) := by decide +kernel
theorem dX9_savedBy_74 : decode cX9_savedBy 74 = .ok (.iload_n 1, 1) := by decide +kernel
theorem dX9_savedBy_75 : decode cX9_savedBy 75 = .ok (.laload, 1) := by decide +kernel
theorem dX9_savedBy_76 : decode cX9_savedBy 76 = .ok (.iload_n 3, 1) := by decide +kernel
theorem dX9_savedBy_77 : decode cX9_savedBy 77 = .ok (.i2l, 1) := by decide +kernel
theorem dX9_savedBy_78 : decode cX9_savedBy 78 = .ok (.ladd, 1) := by decide +kernel
theorem dX9_savedBy_79 : decode cX9_savedBy 79 = .ok (.lload 7, 2) := by decide +kernel
theorem dX9_savedBy_81 : decode cX9_savedBy 81 = .ok (.ladd, 1) := by decide +kernel
theorem dX9_savedBy_82 : decode cX9_savedBy 82 = .ok (.lsub, 1) := by decide +kernel
theorem dX9_savedBy_83 : decode cX9_savedBy 83 = .ok (.invokestatic 398, 3) := by decide +kernel
theorem dX9_savedBy_86 : decode cX9_savedBy 86 = .ok (.ladd, 1) := by decide +kernel
theorem dX9_savedBy_87 : decode cX9_savedBy 87 = .ok (.lstore 4, 2) := by decide +kernel
theorem dX9_savedBy_89 : decode cX9_savedBy 89 = .ok (.iinc 6 1, 3) := by decide +kernel
theorem dX9_savedBy_92 : decode cX9_savedBy 92 = .ok (.goto (-86), 3) := by decide +kernel
theorem dX9_savedBy_95 : decode cX9_savedBy 95 = .ok (.lload 4, 2) := by decide +kernel
theorem dX9_savedBy_97 : decode cX9_savedBy 97 = .ok (.lreturn, 1) := by decide +kernel
theorem dX9_mean_0 : decode cX9_mean 0 = .ok (.iload_n 1, 1) := by decide +kernel
theorem dX9_mean_1 : decode cX9_mean 1 = .ok (.ifCond .lt 25, 3) := by decide +kernel
theorem dX9_mean_4 : decode cX9_mean 4 = .ok (.iload_n 1, 1) := by decide +kernel
theorem dX9_mean_5 : decode cX9_mean 5 = .ok (.iconst 1, 1) := by decide +kernel
theorem dX9_mean_6 : decode cX9_mean 6 = .ok (.if_icmp .gt 20, 3) := by decide +kernel
theorem dX9_mean_9 : decode cX9_mean 9 = .ok (.aload_n 0, 1) := by decide +kernel
theorem dX9_mean_10 : decode cX9_mean 10 = .ok (.getfield 43, 3) := by decide +kernel
theorem dX9_mean_13 : decode cX9_mean 13 = .ok (.aload_n 0, 1) := by decide +kernel
theorem dX9_mean_14 : decode cX9_mean 14 = .ok (.getfield 10, 3) := by decide +kernel
theorem dX9_mean_17 : decode cX9_mean 17 = .ok (.getfield 148, 3) := by decide +kernel
theorem dX9_mean_20 : decode cX9_mean 20 = .ok (.invokevirtual 403, 3) := by decide +kernel
theorem dX9_mean_23 : decode cX9_mean 23 = .ok (.ifCond .ne 7, 3) := by decide +kernel
theorem dX9_mean_26 : decode cX9_mean 26 = .ok (.ldc2_w 261, 3) := by decide +kernel
theorem dX9_mean_29 : decode cX9_mean 29 = .ok (.lreturn, 1) := by decide +kernel
theorem dX9_mean_30 : decode cX9_mean 30 = .ok (.iload_n 1, 1) := by decide +kernel
theorem dX9_mean_31 : decode cX9_mean 31 = .ok (.ifCond .ne 13, 3) := by decide +kernel
theorem dX9_mean_34 : decode cX9_mean 34 = .ok (.aload_n 0, 1) := by decide +kernel
theorem dX9_mean_35 : decode cX9_mean 35 = .ok (.getfield 43, 3) := by decide +kernel
theorem dX9_mean_38 : decode cX9_mean 38 = .ok (.getfield 407, 3) := by decide +kernel
theorem dX9_mean_41 : decode cX9_mean 41 = .ok (.goto 10, 3) := by decide +kernel
theorem dX9_mean_44 : decode cX9_mean 44 = .ok (.aload_n 0, 1) := by decide +kernel
theorem dX9_mean_45 : decode cX9_mean 45 = .ok (.getfield 43, 3) := by decide +kernel
theorem dX9_mean_48 : decode cX9_mean 48 = .ok (.getfield 410, 3) := by decide +kernel
theorem dX9_mean_51 : decode cX9_mean 51 = .ok (.lreturn, 1) := by decide +kernel
theorem dX9_round_0 : decode cX9_round 0 = .ok (.aload_n 0, 1) := by decide +kernel
theorem dX9_round_1 : decode cX9_round 1 = .ok (.getfield 10, 3) := by decide +kernel
theorem dX9_round_4 : decode cX9_round 4 = .ok (.getfield 148, 3) := by decide +kernel
theorem dX9_round_7 : decode cX9_round 7 = .ok (.iload_n 1, 1) := by decide +kernel
theorem dX9_round_8 : decode cX9_round 8 = .ok (.invokevirtual 371, 3) := by decide +kernel
theorem dX9_round_11 : decode cX9_round 11 = .ok (.ifCond .eq 13, 3) := by decide +kernel
theorem dX9_round_14 : decode cX9_round 14 = .ok (.iload_n 2, 1) := by decide +kernel
theorem dX9_round_15 : decode cX9_round 15 = .ok (.ifCond .lt 9, 3) := by decide +kernel
theorem dX9_round_18 : decode cX9_round 18 = .ok (.iload_n 2, 1) := by decide +kernel
theorem dX9_round_19 : decode cX9_round 19 = .ok (.bipush 6, 2) := by decide +kernel
theorem dX9_round_21 : decode cX9_round 21 = .ok (.if_icmp .le 7, 3) := by decide +kernel
theorem dX9_round_24 : decode cX9_round 24 = .ok (.ldc2_w 261, 3) := by decide +kernel
theorem dX9_round_27 : decode cX9_round 27 = .ok (.lreturn, 1) := by decide +kernel
theorem dX9_round_28 : decode cX9_round 28 = .ok (.iload_n 1, 1) := by decide +kernel
theorem dX9_round_29 : decode cX9_round 29 = .ok (.iconst 1, 1) := by decide +kernel
theorem dX9_round_30 : decode cX9_round 30 = .ok (.aload_n 0, 1) := by decide +kernel
theorem dX9_round_31 : decode cX9_round 31 = .ok (.getfield 10, 3) := by decide +kernel
theorem dX9_round_34 : decode cX9_round 34 = .ok (.getfield 189, 3) := by decide +kernel
theorem dX9_round_37 : decode cX9_round 37 = .ok (.ishl, 1) := by decide +kernel
theorem dX9_round_38 : decode cX9_round 38 = .ok (.iconst (-1), 1) := by decide +kernel
theorem dX9_round_39 : decode cX9_round 39 = .ok (.ixor, 1) := by decide +kernel
theorem dX9_round_40 : decode cX9_round 40 = .ok (.iand, 1) := by decide +kernel
theorem dX9_round_41 : decode cX9_round 41 = .ok (.istore_n 3, 1) := by decide +kernel
theorem dX9_round_42 : decode cX9_round 42 = .ok (.iload_n 3, 1) := by decide +kernel
theorem dX9_round_43 : decode cX9_round 43 = .ok (.invokestatic 413, 3) := by decide +kernel
theorem dX9_round_46 : decode cX9_round 46 = .ok (.bipush 6, 2) := by decide +kernel
theorem dX9_round_48 : decode cX9_round 48 = .ok (.if_icmp .le 7, 3) := by decide +kernel
theorem dX9_round_51 : decode cX9_round 51 = .ok (.ldc2_w 261, 3) := by decide +kernel
theorem dX9_round_54 : decode cX9_round 54 = .ok (.lreturn, 1) := by decide +kernel
theorem dX9_round_55 : decode cX9_round 55 = .ok (.aload_n 0, 1) := by decide +kernel
theorem dX9_round_56 : decode cX9_round 56 = .ok (.invokevirtual 251, 3) := by decide +kernel
theorem dX9_round_59 : decode cX9_round 59 = .ok (.pop, 1) := by decide +kernel
theorem dX9_round_60 : decode cX9_round 60 = .ok (.aload_n 0, 1) := by decide +kernel
theorem dX9_round_61 : decode cX9_round 61 = .ok (.getfield 61, 3) := by decide +kernel
theorem dX9_round_64 : decode cX9_round 64 = .ok (.aload_n 0, 1) := by decide +kernel
theorem dX9_round_65 : decode cX9_round 65 = .ok (.getfield 10, 3) := by decide +kernel
theorem dX9_round_68 : decode cX9_round 68 = .ok (.getfield 189, 3) := by decide +kernel
theorem dX9_round_71 : decode cX9_round 71 = .ok (.iload_n 3, 1) := by decide +kernel
theorem dX9_round_72 : decode cX9_round 72 = .ok (.aload_n 0, 1) := by decide +kernel
theorem dX9_round_73 : decode cX9_round 73 = .ok (.getfield 10, 3) := by decide +kernel
theorem dX9_round_76 : decode cX9_round 76 = .ok (.getfield 148, 3) := by decide +kernel
theorem dX9_round_79 : decode cX9_round 79 = .ok (.getfield 151, 3) := by decide +kernel
theorem dX9_round_82 : decode cX9_round 82 = .ok (.invokevirtual 417, 3) := by decide +kernel
theorem dX9_round_85 : decode cX9_round 85 = .ok (.lstore 4, 2) := by decide +kernel
theorem dX9_round_87 : decode cX9_round 87 = .ok (.iload_n 2, 1) := by decide +kernel
theorem dX9_round_88 : decode cX9_round 88 = .ok (.ifCond .eq 12, 3) := by decide +kernel
theorem dX9_round_91 : decode cX9_round 91 = .ok (.lload 4, 2) := by decide +kernel
theorem dX9_round_93 : decode cX9_round 93 = .ok (.ldc2_w 261, 3) := by decide +kernel
theorem dX9_round_96 : decode cX9_round 96 = .ok (.lcmp, 1) := by decide +kernel
theorem dX9_round_97 : decode cX9_round 97 = .ok (.ifCond .ne 6, 3) := by decide +kernel
theorem dX9_round_100 : decode cX9_round 100 = .ok (.lload 4, 2) := by decide +kernel
theorem dX9_round_102 : decode cX9_round 102 = .ok (.lreturn, 1) := by decide +kernel
theorem dX9_round_103 : decode cX9_round 103 = .ok (.iload_n 2, 1) := by decide +kernel
theorem dX9_round_104 : decode cX9_round 104 = .ok (.iload_n 3, 1) := by decide +kernel
theorem dX9_round_105 : decode cX9_round 105 = .ok (.invokestatic 413, 3) := by decide +kernel
theorem dX9_round_108 : decode cX9_round 108 = .ok (.if_icmp .gt 18, 3) := by decide +kernel
theorem dX9_round_111 : decode cX9_round 111 = .ok (.aload_n 0, 1) := by decide +kernel
theorem dX9_round_112 : decode cX9_round 112 = .ok (.getfield 61, 3) := by decide +kernel
theorem dX9_round_115 : decode cX9_round 115 = .ok (.getfield 420, 3) := by decide +kernel
theorem dX9_round_118 : decode cX9_round 118 = .ok (.iload_n 2, 1) := by decide +kernel
theorem dX9_round_119 : decode cX9_round 119 = .ok (.iconst 1, 1) := by decide +kernel
theorem dX9_round_120 : decode cX9_round 120 = .ok (.isub, 1) := by decide +kernel
theorem dX9_round_121 : decode cX9_round 121 = .ok (.iaload, 1) := by decide +kernel
theorem dX9_round_122 : decode cX9_round 122 = .ok (.i2l, 1) := by decide +kernel
theorem dX9_round_123 : decode cX9_round 123 = .ok (.goto 6, 3) := by decide +kernel
theorem dX9_round_126 : decode cX9_round 126 = .ok (.ldc2_w 423, 3) := by decide +kernel
theorem dX9_round_129 : decode cX9_round 129 = .ok (.lreturn, 1) := by decide +kernel
theorem dX9_watch_0 : decode cX9_watch 0 = .ok (.aload_n 0, 1) := by decide +kernel
theorem dX9_watch_1 : decode cX9_watch 1 = .ok (.iload_n 1, 1) := by decide +kernel
theorem dX9_watch_2 : decode cX9_watch 2 = .ok (.iload_n 2, 1) := by decide +kernel
theorem dX9_watch_3 : decode cX9_watch 3 = .ok (.invokevirtual 170, 3) := by decide +kernel
theorem dX9_watch_6 : decode cX9_watch 6 = .ok (.ireturn, 1) := by decide +kernel
theorem dX9_watchTown_0 : decode cX9_watchTown 0 = .ok (.aload_n 0, 1) := by decide +kernel
theorem dX9_watchTown_1 : decode cX9_watchTown 1 = .ok (.getfield 10, 3) := by decide +kernel
theorem dX9_watchTown_4 : decode cX9_watchTown 4 = .ok (.getfield 148, 3) := by decide +kernel
theorem dX9_watchTown_7 : decode cX9_watchTown 7 = .ok (.iload_n 1, 1) := by decide +kernel
theorem dX9_watchTown_8 : decode cX9_watchTown 8 = .ok (.invokevirtual 176, 3) := by decide +kernel
theorem dX9_watchTown_11 : decode cX9_watchTown 11 = .ok (.ifCond .eq 10, 3) := by decide +kernel
theorem dX9_watchTown_14 : decode cX9_watchTown 14 = .ok (.iload_n 2, 1) := by decide +kernel
theorem dX9_watchTown_15 : decode cX9_watchTown 15 = .ok (.invokestatic 179, 3) := by decide +kernel
theorem dX9_watchTown_18 : decode cX9_watchTown 18 = .ok (.ifCond .ne 5, 3) := by decide +kernel
theorem dX9_watchTown_21 : decode cX9_watchTown 21 = .ok (.iconst (-1), 1) := by decide +kernel
theorem dX9_watchTown_22 : decode cX9_watchTown 22 = .ok (.ireturn, 1) := by decide +kernel
theorem dX9_watchTown_23 : decode cX9_watchTown 23 = .ok (.aload_n 0, 1) := by decide +kernel
theorem dX9_watchTown_24 : decode cX9_watchTown 24 = .ok (.getfield 10, 3) := by decide +kernel
theorem dX9_watchTown_27 : decode cX9_watchTown 27 = .ok (.dup, 1) := by decide +kernel
theorem dX9_watchTown_28 : decode cX9_watchTown 28 = .ok (.getfield 245, 3) := by decide +kernel
theorem dX9_watchTown_31 : decode cX9_watchTown 31 = .ok (.iconst 1, 1) := by decide +kernel
theorem dX9_watchTown_32 : decode cX9_watchTown 32 = .ok (.iload_n 1, 1) := by decide +kernel
theorem dX9_watchTown_33 : decode cX9_watchTown 33 = .ok (.ishl, 1) := by decide +kernel
theorem dX9_watchTown_34 : decode cX9_watchTown 34 = .ok (.ior, 1) := by decide +kernel
theorem dX9_watchTown_35 : decode cX9_watchTown 35 = .ok (.putfield 245, 3) := by decide +kernel
theorem dX9_watchTown_38 : decode cX9_watchTown 38 = .ok (.aload_n 0, 1) := by decide +kernel
theorem dX9_watchTown_39 : decode cX9_watchTown 39 = .ok (.getfield 10, 3) := by decide +kernel
theorem dX9_watchTown_42 : decode cX9_watchTown 42 = .ok (.getfield 318, 3) := by decide +kernel
theorem dX9_watchTown_45 : decode cX9_watchTown 45 = .ok (.iload_n 1, 1) := by decide +kernel
theorem dX9_watchTown_46 : decode cX9_watchTown 46 = .ok (.iload_n 2, 1) := by decide +kernel
theorem dX9_watchTown_47 : decode cX9_watchTown 47 = .ok (.iastore, 1) := by decide +kernel
theorem dX9_watchTown_48 : decode cX9_watchTown 48 = .ok (.aload_n 0, 1) := by decide +kernel
theorem dX9_watchTown_49 : decode cX9_watchTown 49 = .ok (.getfield 10, 3) := by decide +kernel
theorem dX9_watchTown_52 : decode cX9_watchTown 52 = .ok (.iload_n 1, 1) := by decide +kernel
theorem dX9_watchTown_53 : decode cX9_watchTown 53 = .ok (.invokevirtual 425, 3) := by decide +kernel
theorem dX9_watchTown_56 : decode cX9_watchTown 56 = .ok (.ifCond .eq 7, 3) := by decide +kernel
theorem dX9_watchTown_59 : decode cX9_watchTown 59 = .ok (.iconst 1, 1) := by decide +kernel
theorem dX9_watchTown_60 : decode cX9_watchTown 60 = .ok (.goto 4, 3) := by decide +kernel
theorem dX9_watchTown_63 : decode cX9_watchTown 63 = .ok (.iconst 0, 1) := by decide +kernel
theorem dX9_watchTown_64 : decode cX9_watchTown 64 = .ok (.ireturn, 1) := by decide +kernel
theorem dX9_forget_0 : decode cX9_forget 0 = .ok (.aload_n 0, 1) := by decide +kernel
theorem dX9_forget_1 : decode cX9_forget 1 = .ok (.iload_n 1, 1) := by decide +kernel
theorem dX9_forget_2 : decode cX9_forget 2 = .ok (.invokevirtual 173, 3) := by decide +kernel
theorem dX9_forget_5 : decode cX9_forget 5 = .ok (.ireturn, 1) := by decide +kernel
theorem dX9_forgetTown_0 : decode cX9_forgetTown 0 = .ok (.aload_n 0, 1) := by decide +kernel
theorem dX9_forgetTown_1 : decode cX9_forgetTown 1 = .ok (.getfield 10, 3) := by decide +kernel
theorem dX9_forgetTown_4 : decode cX9_forgetTown 4 = .ok (.getfield 148, 3) := by decide +kernel
theorem dX9_forgetTown_7 : decode cX9_forgetTown 7 = .ok (.iload_n 1, 1) := by decide +kernel
theorem dX9_forgetTown_8 : decode cX9_forgetTown 8 = .ok (.invokevirtual 176, 3) := by decide +kernel
theorem dX9_forgetTown_11 : decode cX9_forgetTown 11 = .ok (.ifCond .eq 14, 3) := by decide +kernel
theorem dX9_forgetTown_14 : decode cX9_forgetTown 14 = .ok (.aload_n 0, 1) := by decide +kernel
theorem dX9_forgetTown_15 : decode cX9_forgetTown 15 = .ok (.getfield 10, 3) := by decide +kernel
theorem dX9_forgetTown_18 : decode cX9_forgetTown 18 = .ok (.iload_n 1, 1) := by decide +kernel
theorem dX9_forgetTown_19 : decode cX9_forgetTown 19 = .ok (.invokevirtual 315, 3) := by decide +kernel
theorem dX9_forgetTown_22 : decode cX9_forgetTown 22 = .ok (.ifCond .ne 5, 3) := by decide +kernel
theorem dX9_forgetTown_25 : decode cX9_forgetTown 25 = .ok (.iconst 0, 1) := by decide +kernel
theorem dX9_forgetTown_26 : decode cX9_forgetTown 26 = .ok (.ireturn, 1) := by decide +kernel
theorem dX9_forgetTown_27 : decode cX9_forgetTown 27 = .ok (.aload_n 0, 1) := by decide +kernel
theorem dX9_forgetTown_28 : decode cX9_forgetTown 28 = .ok (.getfield 10, 3) := by decide +kernel
theorem dX9_forgetTown_31 : decode cX9_forgetTown 31 = .ok (.dup, 1) := by decide +kernel
theorem dX9_forgetTown_32 : decode cX9_forgetTown 32 = .ok (.getfield 245, 3) := by decide +kernel
theorem dX9_forgetTown_35 : decode cX9_forgetTown 35 = .ok (.iconst 1, 1) := by decide +kernel
theorem dX9_forgetTown_36 : decode cX9_forgetTown 36 = .ok (.iload_n 1, 1) := by decide +kernel
theorem dX9_forgetTown_37 : decode cX9_forgetTown 37 = .ok (.ishl, 1) := by decide +kernel
theorem dX9_forgetTown_38 : decode cX9_forgetTown 38 = .ok (.iconst (-1), 1) := by decide +kernel
theorem dX9_forgetTown_39 : decode cX9_forgetTown 39 = .ok (.ixor, 1) := by decide +kernel
theorem dX9_forgetTown_40 : decode cX9_forgetTown 40 = .ok (.iand, 1) := by decide +kernel
theorem dX9_forgetTown_41 : decode cX9_forgetTown 41 = .ok (.putfield 245, 3) := by decide +kernel
theorem dX9_forgetTown_44 : decode cX9_forgetTown 44 = .ok (.iconst 1, 1) := by decide +kernel
theorem dX9_forgetTown_45 : decode cX9_forgetTown 45 = .ok (.ireturn, 1) := by decide +kernel
theorem dX9_event_0 : decode cX9_event 0 = .ok (.iload_n 1, 1) := by decide +kernel
theorem dX9_event_1 : decode cX9_event 1 = .ok (.ifCond .lt 26, 3) := by decide +kernel
theorem dX9_event_4 : decode cX9_event 4 = .ok (.iload_n 1, 1) := by decide +kernel
theorem dX9_event_5 : decode cX9_event 5 = .ok (.aload_n 0, 1) := by decide +kernel
theorem dX9_event_6 : decode cX9_event 6 = .ok (.getfield 10, 3) := by decide +kernel
theorem dX9_event_9 : decode cX9_event 9 = .ok (.getfield 238, 3) := by decide +kernel
theorem dX9_event_12 : decode cX9_event 12 = .ok (.getfield 242, 3) := by decide +kernel
theorem dX9_event_15 : decode cX9_event 15 = .ok (.if_icmp .ge 12, 3) := by decide +kernel
theorem dX9_event_18 : decode cX9_event 18 = .ok (.iload_n 2, 1) := by decide +kernel
theorem dX9_event_19 : decode cX9_event 19 = .ok (.ifCond .lt 8, 3) := by decide +kernel
theorem dX9_event_22 : decode cX9_event 22 = .ok (.iload_n 2, 1) := by decide +kernel
theorem dX9_event_23 : decode cX9_event 23 = .ok (.iconst 4, 1) := by decide +kernel
theorem dX9_event_24 : decode cX9_event 24 = .ok (.if_icmp .lt 7, 3) := by decide +kernel
theorem dX9_event_27 : decode cX9_event 27 = .ok (.ldc2_w 261, 3) := by decide +kernel
theorem dX9_event_30 : decode cX9_event 30 = .ok (.lreturn, 1) := by decide +kernel
theorem dX9_event_31 : decode cX9_event 31 = .ok (.aload_n 0, 1) := by decide +kernel
theorem dX9_event_32 : decode cX9_event 32 = .ok (.getfield 10, 3) := by decide +kernel
theorem dX9_event_35 : decode cX9_event 35 = .ok (.getfield 238, 3) := by decide +kernel
theorem dX9_event_38 : decode cX9_event 38 = .ok (.getfield 428, 3) := by decide +kernel
theorem dX9_event_41 : decode cX9_event 41 = .ok (.iload_n 1, 1) := by decide +kernel
theorem dX9_event_42 : decode cX9_event 42 = .ok (.iconst 4, 1) := by decide +kernel
theorem dX9_event_43 : decode cX9_event 43 = .ok (.imul, 1) := by decide +kernel
theorem dX9_event_44 : decode cX9_event 44 = .ok (.iload_n 2, 1) := by decide +kernel
theorem dX9_event_45 : decode cX9_event 45 = .ok (.iadd, 1) := by decide +kernel
theorem dX9_event_46 : decode cX9_event 46 = .ok (.laload, 1) := by decide +kernel
theorem dX9_event_47 : decode cX9_event 47 = .ok (.lreturn, 1) := by decide +kernel
theorem dX9_ifLength_0 : decode cX9_ifLength 0 = .ok (.aload_n 0, 1) := by decide +kernel
theorem dX9_ifLength_1 : decode cX9_ifLength 1 = .ok (.getfield 10, 3) := by decide +kernel
theorem dX9_ifLength_4 : decode cX9_ifLength 4 = .ok (.getfield 148, 3) := by decide +kernel
theorem dX9_ifLength_7 : decode cX9_ifLength 7 = .ok (.iload_n 1, 1) := by decide +kernel
theorem dX9_ifLength_8 : decode cX9_ifLength 8 = .ok (.invokevirtual 195, 3) := by decide +kernel
theorem dX9_ifLength_11 : decode cX9_ifLength 11 = .ok (.ifCond .eq 10, 3) := by decide +kernel
theorem dX9_ifLength_14 : decode cX9_ifLength 14 = .ok (.iload_n 2, 1) := by decide +kernel
theorem dX9_ifLength_15 : decode cX9_ifLength 15 = .ok (.invokestatic 179, 3) := by decide +kernel
theorem dX9_ifLength_18 : decode cX9_ifLength 18 = .ok (.ifCond .ne 5, 3) := by decide +kernel
theorem dX9_ifLength_21 : decode cX9_ifLength 21 = .ok (.iconst (-1), 1) := by decide +kernel
theorem dX9_ifLength_22 : decode cX9_ifLength 22 = .ok (.ireturn, 1) := by decide +kernel
theorem dX9_ifLength_23 : decode cX9_ifLength 23 = .ok (.aload_n 0, 1) := by decide +kernel
theorem dX9_ifLength_24 : decode cX9_ifLength 24 = .ok (.getfield 10, 3) := by decide +kernel
theorem dX9_ifLength_27 : decode cX9_ifLength 27 = .ok (.getfield 148, 3) := by decide +kernel
theorem dX9_ifLength_30 : decode cX9_ifLength 30 = .ok (.iload_n 1, 1) := by decide +kernel
theorem dX9_ifLength_31 : decode cX9_ifLength 31 = .ok (.invokevirtual 201, 3) := by decide +kernel
theorem dX9_ifLength_34 : decode cX9_ifLength 34 = .ok (.ifCond .ne 6, 3) := by decide +kernel
theorem dX9_ifLength_37 : decode cX9_ifLength 37 = .ok (.bipush (-6), 2) := by decide +kernel
theorem dX9_ifLength_39 : decode cX9_ifLength 39 = .ok (.ireturn, 1) := by decide +kernel
theorem dX9_ifLength_40 : decode cX9_ifLength 40 = .ok (.aload_n 0, 1) := by decide +kernel
theorem dX9_ifLength_41 : decode cX9_ifLength 41 = .ok (.getfield 10, 3) := by decide +kernel
theorem dX9_ifLength_44 : decode cX9_ifLength 44 = .ok (.getfield 148, 3) := by decide +kernel
theorem dX9_ifLength_47 : decode cX9_ifLength 47 = .ok (.getfield 198, 3) := by decide +kernel
theorem dX9_ifLength_50 : decode cX9_ifLength 50 = .ok (.iload_n 1, 1) := by decide +kernel
theorem dX9_ifLength_51 : decode cX9_ifLength 51 = .ok (.iaload, 1) := by decide +kernel
theorem dX9_ifLength_52 : decode cX9_ifLength 52 = .ok (.iload_n 2, 1) := by decide +kernel
theorem dX9_ifLength_53 : decode cX9_ifLength 53 = .ok (.if_icmp .ne 6, 3) := by decide +kernel
theorem dX9_ifLength_56 : decode cX9_ifLength 56 = .ok (.bipush (-2), 2) := by decide +kernel
theorem dX9_ifLength_58 : decode cX9_ifLength 58 = .ok (.ireturn, 1) := by decide +kernel
theorem dX9_ifLength_59 : decode cX9_ifLength 59 = .ok (.aload_n 0, 1) := by decide +kernel
theorem dX9_ifLength_60 : decode cX9_ifLength 60 = .ok (.getfield 72, 3) := by decide +kernel
theorem dX9_ifLength_63 : decode cX9_ifLength 63 = .ok (.aload_n 0, 1) := by decide +kernel
theorem dX9_ifLength_64 : decode cX9_ifLength 64 = .ok (.getfield 10, 3) := by decide +kernel
theorem dX9_ifLength_67 : decode cX9_ifLength 67 = .ok (.getfield 148, 3) := by decide +kernel
theorem dX9_ifLength_70 : decode cX9_ifLength 70 = .ok (.invokevirtual 185, 3) := by decide +kernel
theorem dX9_ifLength_73 : decode cX9_ifLength 73 = .ok (.aload_n 0, 1) := by decide +kernel
theorem dX9_ifLength_74 : decode cX9_ifLength 74 = .ok (.getfield 72, 3) := by decide +kernel
theorem dX9_ifLength_77 : decode cX9_ifLength 77 = .ok (.getfield 198, 3) := by decide +kernel
theorem dX9_ifLength_80 : decode cX9_ifLength 80 = .ok (.iload_n 1, 1) := by decide +kernel
theorem dX9_ifLength_81 : decode cX9_ifLength 81 = .ok (.iload_n 2, 1) := by decide +kernel
theorem dX9_ifLength_82 : decode cX9_ifLength 82 = .ok (.iastore, 1) := by decide +kernel
theorem dX9_ifLength_83 : decode cX9_ifLength 83 = .ok (.aload_n 0, 1) := by decide +kernel
theorem dX9_ifLength_84 : decode cX9_ifLength 84 = .ok (.iload_n 1, 1) := by decide +kernel
theorem dX9_ifLength_85 : decode cX9_ifLength 85 = .ok (.aload_n 0, 1) := by decide +kernel
theorem dX9_ifLength_86 : decode cX9_ifLength 86 = .ok (.getfield 10, 3) := by decide +kernel
theorem dX9_ifLength_89 : decode cX9_ifLength 89 = .ok (.getfield 189, 3) := by decide +kernel
theorem dX9_ifLength_92 : decode cX9_ifLength 92 = .ok (.invokevirtual 207, 3) := by decide +kernel
theorem dX9_ifLength_95 : decode cX9_ifLength 95 = .ok (.istore_n 3, 1) := by decide +kernel
theorem dX9_ifLength_96 : decode cX9_ifLength 96 = .ok (.iload_n 3, 1) := by decide +kernel
theorem dX9_ifLength_97 : decode cX9_ifLength 97 = .ok (.ifCond .eq 7, 3) := by decide +kernel
theorem dX9_ifLength_100 : decode cX9_ifLength 100 = .ok (.iload_n 3, 1) := by decide +kernel
theorem dX9_ifLength_101 : decode cX9_ifLength 101 = .ok (.goto 14, 3) := by decide +kernel
theorem dX9_ifLength_104 : decode cX9_ifLength 104 = .ok (.aload_n 0, 1) := by decide +kernel
theorem dX9_ifLength_105 : decode cX9_ifLength 105 = .ok (.getfield 10, 3) := by decide +kernel
theorem dX9_ifLength_108 : decode cX9_ifLength 108 = .ok (.aload_n 0, 1) := by decide +kernel
theorem dX9_ifLength_109 : decode cX9_ifLength 109 = .ok (.getfield 76, 3) := by decide +kernel
theorem dX9_ifLength_112 : decode cX9_ifLength 112 = .ok (.invokevirtual 431, 3) := by decide +kernel
theorem dX9_ifLength_115 : decode cX9_ifLength 115 = .ok (.ireturn, 1) := by decide +kernel
theorem dX9_drawn_0 : decode cX9_drawn 0 = .ok (.iload_n 1, 1) := by decide +kernel
theorem dX9_drawn_1 : decode cX9_drawn 1 = .ok (.iconst 1, 1) := by decide +kernel
theorem dX9_drawn_2 : decode cX9_drawn 2 = .ok (.if_icmp .lt 36, 3) := by decide +kernel
theorem dX9_drawn_5 : decode cX9_drawn 5 = .ok (.iload_n 1, 1) := by decide +kernel
theorem dX9_drawn_6 : decode cX9_drawn 6 = .ok (.bipush 60, 2) := by decide +kernel
theorem dX9_drawn_8 : decode cX9_drawn 8 = .ok (.if_icmp .gt 30, 3) := by decide +kernel
theorem dX9_drawn_11 : decode cX9_drawn 11 = .ok (.aload_n 0, 1) := by decide +kernel
theorem dX9_drawn_12 : decode cX9_drawn 12 = .ok (.getfield 10, 3) := by decide +kernel
theorem dX9_drawn_15 : decode cX9_drawn 15 = .ok (.getfield 148, 3) := by decide +kernel
theorem dX9_drawn_18 : decode cX9_drawn 18 = .ok (.iload_n 2, 1) := by decide +kernel
theorem dX9_drawn_19 : decode cX9_drawn 19 = .ok (.invokevirtual 176, 3) := by decide +kernel
theorem dX9_drawn_22 : decode cX9_drawn 22 = .ok (.ifCond .eq 16, 3) := by decide +kernel
theorem dX9_drawn_25 : decode cX9_drawn 25 = .ok (.aload_n 0, 1) := by decide +kernel
theorem dX9_drawn_26 : decode cX9_drawn 26 = .ok (.getfield 10, 3) := by decide +kernel
theorem dX9_drawn_29 : decode cX9_drawn 29 = .ok (.getfield 148, 3) := by decide +kernel
theorem dX9_drawn_32 : decode cX9_drawn 32 = .ok (.getfield 182, 3) := by decide +kernel
theorem dX9_drawn_35 : decode cX9_drawn 35 = .ok (.ifCond .gt 7, 3) := by decide +kernel
theorem dX9_drawn_38 : decode cX9_drawn 38 = .ok (.ldc2_w 261, 3) := by decide +kernel
theorem dX9_drawn_41 : decode cX9_drawn 41 = .ok (.lreturn, 1) := by decide +kernel
theorem dX9_drawn_42 : decode cX9_drawn 42 = .ok (.aload_n 0, 1) := by decide +kernel
theorem dX9_drawn_43 : decode cX9_drawn 43 = .ok (.getfield 72, 3) := by decide +kernel
theorem dX9_drawn_46 : decode cX9_drawn 46 = .ok (.aload_n 0, 1) := by decide +kernel
theorem dX9_drawn_47 : decode cX9_drawn 47 = .ok (.getfield 10, 3) := by decide +kernel
theorem dX9_drawn_50 : decode cX9_drawn 50 = .ok (.getfield 148, 3) := by decide +kernel
theorem dX9_drawn_53 : decode cX9_drawn 53 = .ok (.invokevirtual 185, 3) := by decide +kernel
theorem dX9_drawn_56 : decode cX9_drawn 56 = .ok (.aload_n 0, 1) := by decide +kernel
theorem dX9_drawn_57 : decode cX9_drawn 57 = .ok (.getfield 10, 3) := by decide +kernel
theorem dX9_drawn_60 : decode cX9_drawn 60 = .ok (.getfield 258, 3) := by decide +kernel
theorem dX9_drawn_63 : decode cX9_drawn 63 = .ok (.istore_n 3, 1) := by decide +kernel
theorem dX9_drawn_64 : decode cX9_drawn 64 = .ok (.iconst 0, 1) := by decide +kernel
theorem dX9_drawn_65 : decode cX9_drawn 65 = .ok (.istore 4, 2) := by decide +kernel
theorem dX9_drawn_67 : decode cX9_drawn 67 = .ok (.iload 4, 2) := by decide +kernel
theorem dX9_drawn_69 : decode cX9_drawn 69 = .ok (.iload_n 1, 1) := by decide +kernel
theorem dX9_drawn_70 : decode cX9_drawn 70 = .ok (.if_icmp .ge 40, 3) := by decide +kernel
theorem dX9_drawn_73 : decode cX9_drawn 73 = .ok (.iload_n 3, 1) := by decide +kernel
theorem dX9_drawn_74 : decode cX9_drawn 74 = .ok (.invokestatic 435, 3) := by decide +kernel
theorem dX9_drawn_77 : decode cX9_drawn 77 = .ok (.istore_n 3, 1) := by decide +kernel
theorem dX9_drawn_78 : decode cX9_drawn 78 = .ok (.iload_n 3, 1) := by decide +kernel
theorem dX9_drawn_79 : decode cX9_drawn 79 = .ok (.aload_n 0, 1) := by decide +kernel
theorem dX9_drawn_80 : decode cX9_drawn 80 = .ok (.getfield 10, 3) := by decide +kernel
theorem dX9_drawn_83 : decode cX9_drawn 83 = .ok (.getfield 148, 3) := by decide +kernel
theorem dX9_drawn_86 : decode cX9_drawn 86 = .ok (.getfield 182, 3) := by decide +kernel
theorem dX9_drawn_89 : decode cX9_drawn 89 = .ok (.irem, 1) := by decide +kernel
theorem dX9_drawn_90 : decode cX9_drawn 90 = .ok (.istore 5, 2) := by decide +kernel
theorem dX9_drawn_92 : decode cX9_drawn 92 = .ok (.iload_n 3, 1) := by decide +kernel
theorem dX9_drawn_93 : decode cX9_drawn 93 = .ok (.invokestatic 435, 3) := by decide +kernel
theorem dX9_drawn_96 : decode cX9_drawn 96 = .ok (.istore_n 3, 1) := by decide +kernel
theorem dX9_drawn_97 : decode cX9_drawn 97 = .ok (.aload_n 0, 1) := by decide +kernel
theorem dX9_drawn_98 : decode cX9_drawn 98 = .ok (.iload 5, 2) := by decide +kernel
theorem dX9_drawn_100 : decode cX9_drawn 100 = .ok (.iload_n 3, 1) := by decide +kernel
theorem dX9_drawn_101 : decode cX9_drawn 101 = .ok (.invokevirtual 438, 3) := by decide +kernel
theorem dX9_drawn_104 : decode cX9_drawn 104 = .ok (.iinc 4 1, 3) := by decide +kernel
theorem dX9_drawn_107 : decode cX9_drawn 107 = .ok (.goto (-40), 3) := by decide +kernel
theorem dX9_drawn_110 : decode cX9_drawn 110 = .ok (.aload_n 0, 1) := by decide +kernel
theorem dX9_drawn_111 : decode cX9_drawn 111 = .ok (.getfield 72, 3) := by decide +kernel
theorem dX9_drawn_114 : decode cX9_drawn 114 = .ok (.aload_n 0, 1) := by decide +kernel
theorem dX9_drawn_115 : decode cX9_drawn 115 = .ok (.getfield 10, 3) := by decide +kernel
theorem dX9_drawn_118 : decode cX9_drawn 118 = .ok (.getfield 189, 3) := by decide +kernel
theorem dX9_drawn_121 : decode cX9_drawn 121 = .ok (.iconst (-1), 1) := by decide +kernel
theorem dX9_drawn_122 : decode cX9_drawn 122 = .ok (.aload_n 0, 1) := by decide +kernel
theorem dX9_drawn_123 : decode cX9_drawn 123 = .ok (.getfield 76, 3) := by decide +kernel
theorem dX9_drawn_126 : decode cX9_drawn 126 = .ok (.invokevirtual 130, 3) := by decide +kernel
theorem dX9_drawn_129 : decode cX9_drawn 129 = .ok (.aload_n 0, 1) := by decide +kernel
theorem dX9_drawn_130 : decode cX9_drawn 130 = .ok (.getfield 76, 3) := by decide +kernel
theorem dX9_drawn_133 : decode cX9_drawn 133 = .ok (.iload_n 2, 1) := by decide +kernel
theorem dX9_drawn_134 : decode cX9_drawn 134 = .ok (.laload, 1) := by decide +kernel
theorem dX9_drawn_135 : decode cX9_drawn 135 = .ok (.lreturn, 1) := by decide +kernel
theorem dX9_drawAfter_0 : decode cX9_drawAfter 0 = .ok (.sipush 25173, 3) := by decide +kernel
theorem dX9_drawAfter_3 : decode cX9_drawAfter 3 = .ok (.iload_n 0, 1) := by decide +kernel
theorem dX9_drawAfter_4 : decode cX9_drawAfter 4 = .ok (.imul, 1) := by decide +kernel
theorem dX9_drawAfter_5 : decode cX9_drawAfter 5 = .ok (.sipush 13849, 3) := by decide +kernel
theorem dX9_drawAfter_8 : decode cX9_drawAfter 8 = .ok (.iadd, 1) := by decide +kernel
theorem dX9_drawAfter_9 : decode cX9_drawAfter 9 = .ok (.ldc_w 442, 3) := by decide +kernel
theorem dX9_drawAfter_12 : decode cX9_drawAfter 12 = .ok (.irem, 1) := by decide +kernel
theorem dX9_drawAfter_13 : decode cX9_drawAfter 13 = .ok (.ireturn, 1) := by decide +kernel
theorem dX9_drawChange_0 : decode cX9_drawChange 0 = .ok (.aload_n 0, 1) := by decide +kernel
theorem dX9_drawChange_1 : decode cX9_drawChange 1 = .ok (.getfield 72, 3) := by decide +kernel
theorem dX9_drawChange_4 : decode cX9_drawChange 4 = .ok (.getfield 219, 3) := by decide +kernel
theorem dX9_drawChange_7 : decode cX9_drawChange 7 = .ok (.lstore_n 3, 1) := by decide +kernel
theorem dX9_drawChange_8 : decode cX9_drawChange 8 = .ok (.aload_n 0, 1) := by decide +kernel
theorem dX9_drawChange_9 : decode cX9_drawChange 9 = .ok (.getfield 72, 3) := by decide +kernel
theorem dX9_drawChange_12 : decode cX9_drawChange 12 = .ok (.getfield 198, 3) := by decide +kernel
theorem dX9_drawChange_15 : decode cX9_drawChange 15 = .ok (.iload_n 1, 1) := by decide +kernel
theorem dX9_drawChange_16 : decode cX9_drawChange 16 = .ok (.iaload, 1) := by decide +kernel
theorem dX9_drawChange_17 : decode cX9_drawChange 17 = .ok (.istore 5, 2) := by decide +kernel
theorem dX9_drawChange_19 : decode cX9_drawChange 19 = .ok (.iload_n 2, 1) := by decide +kernel
theorem dX9_drawChange_20 : decode cX9_drawChange 20 = .ok (.bipush 8, 2) := by decide +kernel
theorem dX9_drawChange_22 : decode cX9_drawChange 22 = .ok (.irem, 1) := by decide +kernel
theorem dX9_drawChange_23 : decode cX9_drawChange 23 = .ok (.ifCond .ne 14, 3) := by decide +kernel
theorem dX9_drawChange_26 : decode cX9_drawChange 26 = .ok (.aload_n 0, 1) := by decide +kernel
theorem dX9_drawChange_27 : decode cX9_drawChange 27 = .ok (.getfield 72, 3) := by decide +kernel
theorem dX9_drawChange_30 : decode cX9_drawChange 30 = .ok (.iload_n 1, 1) := by decide +kernel
theorem dX9_drawChange_31 : decode cX9_drawChange 31 = .ok (.invokevirtual 204, 3) := by decide +kernel
theorem dX9_drawChange_34 : decode cX9_drawChange 34 = .ok (.goto 33, 3) := by decide +kernel
theorem dX9_drawChange_37 : decode cX9_drawChange 37 = .ok (.aload_n 0, 1) := by decide +kernel
theorem dX9_drawChange_38 : decode cX9_drawChange 38 = .ok (.getfield 72, 3) := by decide +kernel
theorem dX9_drawChange_41 : decode cX9_drawChange 41 = .ok (.getfield 198, 3) := by decide +kernel
theorem dX9_drawChange_44 : decode cX9_drawChange 44 = .ok (.iload_n 1, 1) := by decide +kernel
theorem dX9_drawChange_45 : decode cX9_drawChange 45 = .ok (.bipush (-100), 2) := by decide +kernel
theorem dX9_drawChange_47 : decode cX9_drawChange 47 = .ok (.sipush 10000, 3) := by decide +kernel
theorem dX9_drawChange_50 : decode cX9_drawChange 50 = .ok (.iload 5, 2) := by decide +kernel
theorem dX9_drawChange_52 : decode cX9_drawChange 52 = .ok (.iload_n 2, 1) := by decide +kernel
theorem dX9_drawChange_53 : decode cX9_drawChange 53 = .ok (.bipush 41, 2) := by decide +kernel
theorem dX9_drawChange_55 : decode cX9_drawChange 55 = .ok (.irem, 1) := by decide +kernel
theorem dX9_drawChange_56 : decode cX9_drawChange 56 = .ok (.iadd, 1) := by decide +kernel
theorem dX9_drawChange_57 : decode cX9_drawChange 57 = .ok (.bipush 10, 2) := by decide +kernel
theorem dX9_drawChange_59 : decode cX9_drawChange 59 = .ok (.isub, 1) := by decide +kernel
theorem dX9_drawChange_60 : decode cX9_drawChange 60 = .ok (.invokestatic 443, 3) := by decide +kernel
theorem dX9_drawChange_63 : decode cX9_drawChange 63 = .ok (.invokestatic 446, 3) := by decide +kernel
theorem dX9_drawChange_66 : decode cX9_drawChange 66 = .ok (.iastore, 1) := by decide +kernel
theorem dX9_drawChange_67 : decode cX9_drawChange 67 = .ok (.aload_n 0, 1) := by decide +kernel
theorem dX9_drawChange_68 : decode cX9_drawChange 68 = .ok (.iload_n 1, 1) := by decide +kernel
theorem dX9_drawChange_69 : decode cX9_drawChange 69 = .ok (.aload_n 0, 1) := by decide +kernel
theorem dX9_drawChange_70 : decode cX9_drawChange 70 = .ok (.getfield 10, 3) := by decide +kernel
theorem dX9_drawChange_73 : decode cX9_drawChange 73 = .ok (.getfield 189, 3) := by decide +kernel
theorem dX9_drawChange_76 : decode cX9_drawChange 76 = .ok (.invokevirtual 207, 3) := by decide +kernel
theorem dX9_drawChange_79 : decode cX9_drawChange 79 = .ok (.ifCond .eq 22, 3) := by decide +kernel
theorem dX9_drawChange_82 : decode cX9_drawChange 82 = .ok (.aload_n 0, 1) := by decide +kernel
theorem dX9_drawChange_83 : decode cX9_drawChange 83 = .ok (.getfield 72, 3) := by decide +kernel
theorem dX9_drawChange_86 : decode cX9_drawChange 86 = .ok (.lload_n 3, 1) := by decide +kernel
theorem dX9_drawChange_87 : decode cX9_drawChange 87 = .ok (.putfield 219, 3) := by decide +kernel
theorem dX9_drawChange_90 : decode cX9_drawChange 90 = .ok (.aload_n 0, 1) := by decide +kernel
theorem dX9_drawChange_91 : decode cX9_drawChange 91 = .ok (.getfield 72, 3) := by decide +kernel
theorem dX9_drawChange_94 : decode cX9_drawChange 94 = .ok (.getfield 198, 3) := by decide +kernel
theorem dX9_drawChange_97 : decode cX9_drawChange 97 = .ok (.iload_n 1, 1) := by decide +kernel
theorem dX9_drawChange_98 : decode cX9_drawChange 98 = .ok (.iload 5, 2) := by decide +kernel
theorem dX9_drawChange_100 : decode cX9_drawChange 100 = .ok (.iastore, 1) := by decide +kernel
theorem dX9_drawChange_101 : decode cX9_drawChange 101 = .ok (.return_, 1) := by decide +kernel
theorem dX9_seed_0 : decode cX9_seed 0 = .ok (.iload_n 1, 1) := by decide +kernel
theorem dX9_seed_1 : decode cX9_seed 1 = .ok (.ifCond .lt 10, 3) := by decide +kernel
theorem dX9_seed_4 : decode cX9_seed 4 = .ok (.iload_n 1, 1) := by decide +kernel
theorem dX9_seed_5 : decode cX9_seed 5 = .ok (.ldc_w 442, 3) := by decide +kernel
theorem dX9_seed_8 : decode cX9_seed 8 = .ok (.if_icmp .lt 5, 3) := by decide +kernel
theorem dX9_seed_11 : decode cX9_seed 11 = .ok (.iconst 0, 1) := by decide +kernel
theorem dX9_seed_12 : decode cX9_seed 12 = .ok (.ireturn, 1) := by decide +kernel
theorem dX9_seed_13 : decode cX9_seed 13 = .ok (.aload_n 0, 1) := by decide +kernel
theorem dX9_seed_14 : decode cX9_seed 14 = .ok (.getfield 10, 3) := by decide +kernel
theorem dX9_seed_17 : decode cX9_seed 17 = .ok (.iload_n 1, 1) := by decide +kernel
theorem dX9_seed_18 : decode cX9_seed 18 = .ok (.putfield 258, 3) := by decide +kernel
theorem dX9_seed_21 : decode cX9_seed 21 = .ok (.iconst 1, 1) := by decide +kernel
theorem dX9_seed_22 : decode cX9_seed 22 = .ok (.ireturn, 1) := by decide +kernel
theorem dX9_keep_0 : decode cX9_keep 0 = .ok (.aload_n 0, 1) := by decide +kernel
theorem dX9_keep_1 : decode cX9_keep 1 = .ok (.getfield 16, 3) := by decide +kernel
theorem dX9_keep_4 : decode cX9_keep 4 = .ok (.aload_n 0, 1) := by decide +kernel
theorem dX9_keep_5 : decode cX9_keep 5 = .ok (.getfield 10, 3) := by decide +kernel
theorem dX9_keep_8 : decode cX9_keep 8 = .ok (.invokevirtual 448, 3) := by decide +kernel
theorem dX9_keep_11 : decode cX9_keep 11 = .ok (.aload_n 0, 1) := by decide +kernel
theorem dX9_keep_12 : decode cX9_keep 12 = .ok (.iconst 1, 1) := by decide +kernel
theorem dX9_keep_13 : decode cX9_keep 13 = .ok (.putfield 141, 3) := by decide +kernel
theorem dX9_keep_16 : decode cX9_keep 16 = .ok (.aload_n 0, 1) := by decide +kernel
theorem dX9_keep_17 : decode cX9_keep 17 = .ok (.getfield 10, 3) := by decide +kernel
theorem dX9_keep_20 : decode cX9_keep 20 = .ok (.getfield 229, 3) := by decide +kernel
theorem dX9_keep_23 : decode cX9_keep 23 = .ok (.ireturn, 1) := by decide +kernel
theorem dX9_undo_0 : decode cX9_undo 0 = .ok (.aload_n 0, 1) := by decide +kernel
theorem dX9_undo_1 : decode cX9_undo 1 = .ok (.getfield 141, 3) := by decide +kernel
theorem dX9_undo_4 : decode cX9_undo 4 = .ok (.ifCond .ne 5, 3) := by decide +kernel
theorem dX9_undo_7 : decode cX9_undo 7 = .ok (.iconst 0, 1) := by decide +kernel
theorem dX9_undo_8 : decode cX9_undo 8 = .ok (.ireturn, 1) := by decide +kernel
theorem dX9_undo_9 : decode cX9_undo 9 = .ok (.aload_n 0, 1) := by decide +kernel
theorem dX9_undo_10 : decode cX9_undo 10 = .ok (.getfield 10, 3) := by decide +kernel
theorem dX9_undo_13 : decode cX9_undo 13 = .ok (.aload_n 0, 1) := by decide +kernel
theorem dX9_undo_14 : decode cX9_undo 14 = .ok (.getfield 16, 3) := by decide +kernel
theorem dX9_undo_17 : decode cX9_undo 17 = .ok (.invokevirtual 448, 3) := by decide +kernel
theorem dX9_undo_20 : decode cX9_undo 20 = .ok (.aload_n 0, 1) := by decide +kernel
theorem dX9_undo_21 : decode cX9_undo 21 = .ok (.getfield 36, 3) := by decide +kernel
theorem dX9_undo_24 : decode cX9_undo 24 = .ok (.iconst 0, 1) := by decide +kernel
theorem dX9_undo_25 : decode cX9_undo 25 = .ok (.putfield 145, 3) := by decide +kernel
theorem dX9_undo_28 : decode cX9_undo 28 = .ok (.iconst 1, 1) := by decide +kernel
theorem dX9_undo_29 : decode cX9_undo 29 = .ok (.ireturn, 1) := by decide +kernel
theorem dX9_check_0 : decode cX9_check 0 = .ok (.aload_n 0, 1) := by decide +kernel
theorem dX9_check_1 : decode cX9_check 1 = .ok (.getfield 22, 3) := by decide +kernel
theorem dX9_check_4 : decode cX9_check 4 = .ok (.iload_n 1, 1) := by decide +kernel
theorem dX9_check_5 : decode cX9_check 5 = .ok (.iconst 0, 1) := by decide +kernel
theorem dX9_check_6 : decode cX9_check 6 = .ok (.bipush 12, 2) := by decide +kernel
theorem dX9_check_8 : decode cX9_check 8 = .ok (.invokevirtual 87, 3) := by decide +kernel
theorem dX9_check_11 : decode cX9_check 11 = .ok (.ifCond .ne 6, 3) := by decide +kernel
theorem dX9_check_14 : decode cX9_check 14 = .ok (.bipush (-2), 2) := by decide +kernel
theorem dX9_check_16 : decode cX9_check 16 = .ok (.ireturn, 1) := by decide +kernel
theorem dX9_check_17 : decode cX9_check 17 = .ok (.iconst 0, 1) := by decide +kernel
theorem dX9_check_18 : decode cX9_check 18 = .ok (.istore_n 2, 1) := by decide +kernel
theorem dX9_check_19 : decode cX9_check 19 = .ok (.iload_n 2, 1) := by decide +kernel
theorem dX9_check_20 : decode cX9_check 20 = .ok (.iload_n 1, 1) := by decide +kernel
theorem dX9_check_21 : decode cX9_check 21 = .ok (.if_icmp .ge 26, 3) := by decide +kernel
theorem dX9_check_24 : decode cX9_check 24 = .ok (.aload_n 0, 1) := by decide +kernel
theorem dX9_check_25 : decode cX9_check 25 = .ok (.iload_n 2, 1) := by decide +kernel
theorem dX9_check_26 : decode cX9_check 26 = .ok (.aload_n 0, 1) := by decide +kernel
theorem dX9_check_27 : decode cX9_check 27 = .ok (.getfield 22, 3) := by decide +kernel
theorem dX9_check_30 : decode cX9_check 30 = .ok (.getfield 91, 3) := by decide +kernel
theorem dX9_check_33 : decode cX9_check 33 = .ok (.iload_n 2, 1) := by decide +kernel
theorem dX9_check_34 : decode cX9_check 34 = .ok (.iaload, 1) := by decide +kernel
theorem dX9_check_35 : decode cX9_check 35 = .ok (.invokevirtual 450, 3) := by decide +kernel
theorem dX9_check_38 : decode cX9_check 38 = .ok (.ifCond .eq 9, 3) := by decide +kernel
theorem dX9_check_41 : decode cX9_check 41 = .ok (.iinc 2 1, 3) := by decide +kernel
theorem dX9_check_44 : decode cX9_check 44 = .ok (.goto (-25), 3) := by decide +kernel
theorem dX9_check_47 : decode cX9_check 47 = .ok (.aload_n 0, 1) := by decide +kernel
theorem dX9_check_48 : decode cX9_check 48 = .ok (.getfield 22, 3) := by decide +kernel
theorem dX9_check_51 : decode cX9_check 51 = .ok (.iconst 0, 1) := by decide +kernel
theorem dX9_check_52 : decode cX9_check 52 = .ok (.putfield 79, 3) := by decide +kernel
theorem dX9_check_55 : decode cX9_check 55 = .ok (.iload_n 2, 1) := by decide +kernel
theorem dX9_check_56 : decode cX9_check 56 = .ok (.iload_n 1, 1) := by decide +kernel
theorem dX9_check_57 : decode cX9_check 57 = .ok (.if_icmp .ne 7, 3) := by decide +kernel
theorem dX9_check_60 : decode cX9_check 60 = .ok (.iconst (-1), 1) := by decide +kernel
theorem dX9_check_61 : decode cX9_check 61 = .ok (.goto 4, 3) := by decide +kernel
theorem dX9_check_64 : decode cX9_check 64 = .ok (.iload_n 2, 1) := by decide +kernel
theorem dX9_check_65 : decode cX9_check 65 = .ok (.ireturn, 1) := by decide +kernel
theorem dX9_isParentByte_0 : decode cX9_isParentByte 0 = .ok (.aload_n 0, 1) := by decide +kernel
theorem dX9_isParentByte_1 : decode cX9_isParentByte 1 = .ok (.getfield 10, 3) := by decide +kernel
theorem dX9_isParentByte_4 : decode cX9_isParentByte 4 = .ok (.getfield 148, 3) := by decide +kernel
theorem dX9_isParentByte_7 : decode cX9_isParentByte 7 = .ok (.iload_n 1, 1) := by decide +kernel
theorem dX9_isParentByte_8 : decode cX9_isParentByte 8 = .ok (.invokevirtual 176, 3) := by decide +kernel
theorem dX9_isParentByte_11 : decode cX9_isParentByte 11 = .ok (.ifCond .ne 5, 3) := by decide +kernel
theorem dX9_isParentByte_14 : decode cX9_isParentByte 14 = .ok (.iconst 0, 1) := by decide +kernel
theorem dX9_isParentByte_15 : decode cX9_isParentByte 15 = .ok (.ireturn, 1) := by decide +kernel
theorem dX9_isParentByte_16 : decode cX9_isParentByte 16 = .ok (.iload_n 2, 1) := by decide +kernel
theorem dX9_isParentByte_17 : decode cX9_isParentByte 17 = .ok (.aload_n 0, 1) := by decide +kernel
theorem dX9_isParentByte_18 : decode cX9_isParentByte 18 = .ok (.getfield 10, 3) := by decide +kernel
theorem dX9_isParentByte_21 : decode cX9_isParentByte 21 = .ok (.getfield 272, 3) := by decide +kernel
theorem dX9_isParentByte_24 : decode cX9_isParentByte 24 = .ok (.iload_n 1, 1) := by decide +kernel
theorem dX9_isParentByte_25 : decode cX9_isParentByte 25 = .ok (.iaload, 1) := by decide +kernel
theorem dX9_isParentByte_26 : decode cX9_isParentByte 26 = .ok (.iconst (-1), 1) := by decide +kernel
theorem dX9_isParentByte_27 : decode cX9_isParentByte 27 = .ok (.if_icmp .ne 9, 3) := by decide +kernel
theorem dX9_isParentByte_30 : decode cX9_isParentByte 30 = .ok (.sipush 255, 3) := by decide +kernel
theorem dX9_isParentByte_33 : decode cX9_isParentByte 33 = .ok (.goto 12, 3) := by decide +kernel
theorem dX9_isParentByte_36 : decode cX9_isParentByte 36 = .ok (.aload_n 0, 1) := by decide +kernel
theorem dX9_isParentByte_37 : decode cX9_isParentByte 37 = .ok (.getfield 10, 3) := by decide +kernel
theorem dX9_isParentByte_40 : decode cX9_isParentByte 40 = .ok (.getfield 272, 3) := by decide +kernel
theorem dX9_isParentByte_43 : decode cX9_isParentByte 43 = .ok (.iload_n 1, 1) := by decide +kernel
theorem dX9_isParentByte_44 : decode cX9_isParentByte 44 = .ok (.iaload, 1) := by decide +kernel
theorem dX9_isParentByte_45 : decode cX9_isParentByte 45 = .ok (.if_icmp .ne 7, 3) := by decide +kernel
theorem dX9_isParentByte_48 : decode cX9_isParentByte 48 = .ok (.iconst 1, 1) := by decide +kernel
theorem dX9_isParentByte_49 : decode cX9_isParentByte 49 = .ok (.goto 4, 3) := by decide +kernel
theorem dX9_isParentByte_52 : decode cX9_isParentByte 52 = .ok (.iconst 0, 1) := by decide +kernel
theorem dX9_isParentByte_53 : decode cX9_isParentByte 53 = .ok (.ireturn, 1) := by decide +kernel
theorem dJ6_bitCount_0f7a4_0 : decode cJ6_bitCount_0f7a4 0 = .ok (.iload_n 0, 1) := by decide +kernel
theorem dJ6_bitCount_0f7a4_1 : decode cJ6_bitCount_0f7a4 1 = .ok (.iload_n 0, 1) := by decide +kernel
theorem dJ6_bitCount_0f7a4_2 : decode cJ6_bitCount_0f7a4 2 = .ok (.iconst 1, 1) := by decide +kernel
theorem dJ6_bitCount_0f7a4_3 : decode cJ6_bitCount_0f7a4 3 = .ok (.iushr, 1) := by decide +kernel
theorem dJ6_bitCount_0f7a4_4 : decode cJ6_bitCount_0f7a4 4 = .ok (.ldc_w 265, 3) := by decide +kernel
theorem dJ6_bitCount_0f7a4_7 : decode cJ6_bitCount_0f7a4 7 = .ok (.iand, 1) := by decide +kernel
theorem dJ6_bitCount_0f7a4_8 : decode cJ6_bitCount_0f7a4 8 = .ok (.isub, 1) := by decide +kernel
theorem dJ6_bitCount_0f7a4_9 : decode cJ6_bitCount_0f7a4 9 = .ok (.istore_n 0, 1) := by decide +kernel
theorem dJ6_bitCount_0f7a4_10 : decode cJ6_bitCount_0f7a4 10 = .ok (.iload_n 0, 1) := by decide +kernel
theorem dJ6_bitCount_0f7a4_11 : decode cJ6_bitCount_0f7a4 11 = .ok (.ldc_w 266, 3) := by decide +kernel
theorem dJ6_bitCount_0f7a4_14 : decode cJ6_bitCount_0f7a4 14 = .ok (.iand, 1) := by decide +kernel
theorem dJ6_bitCount_0f7a4_15 : decode cJ6_bitCount_0f7a4 15 = .ok (.iload_n 0, 1) := by decide +kernel
theorem dJ6_bitCount_0f7a4_16 : decode cJ6_bitCount_0f7a4 16 = .ok (.iconst 2, 1) := by decide +kernel
theorem dJ6_bitCount_0f7a4_17 : decode cJ6_bitCount_0f7a4 17 = .ok (.iushr, 1) := by decide +kernel
theorem dJ6_bitCount_0f7a4_18 : decode cJ6_bitCount_0f7a4 18 = .ok (.ldc_w 266, 3) := by decide +kernel
theorem dJ6_bitCount_0f7a4_21 : decode cJ6_bitCount_0f7a4 21 = .ok (.iand, 1) := by decide +kernel
theorem dJ6_bitCount_0f7a4_22 : decode cJ6_bitCount_0f7a4 22 = .ok (.iadd, 1) := by decide +kernel
theorem dJ6_bitCount_0f7a4_23 : decode cJ6_bitCount_0f7a4 23 = .ok (.istore_n 0, 1) := by decide +kernel
theorem dJ6_bitCount_0f7a4_24 : decode cJ6_bitCount_0f7a4 24 = .ok (.iload_n 0, 1) := by decide +kernel
theorem dJ6_bitCount_0f7a4_25 : decode cJ6_bitCount_0f7a4 25 = .ok (.iload_n 0, 1) := by decide +kernel
theorem dJ6_bitCount_0f7a4_26 : decode cJ6_bitCount_0f7a4 26 = .ok (.iconst 4, 1) := by decide +kernel
theorem dJ6_bitCount_0f7a4_27 : decode cJ6_bitCount_0f7a4 27 = .ok (.iushr, 1) := by decide +kernel
theorem dJ6_bitCount_0f7a4_28 : decode cJ6_bitCount_0f7a4 28 = .ok (.iadd, 1) := by decide +kernel
theorem dJ6_bitCount_0f7a4_29 : decode cJ6_bitCount_0f7a4 29 = .ok (.ldc_w 267, 3) := by decide +kernel
theorem dJ6_bitCount_0f7a4_32 : decode cJ6_bitCount_0f7a4 32 = .ok (.iand, 1) := by decide +kernel
theorem dJ6_bitCount_0f7a4_33 : decode cJ6_bitCount_0f7a4 33 = .ok (.istore_n 0, 1) := by decide +kernel
theorem dJ6_bitCount_0f7a4_34 : decode cJ6_bitCount_0f7a4 34 = .ok (.iload_n 0, 1) := by decide +kernel
theorem dJ6_bitCount_0f7a4_35 : decode cJ6_bitCount_0f7a4 35 = .ok (.iload_n 0, 1) := by decide +kernel
theorem dJ6_bitCount_0f7a4_36 : decode cJ6_bitCount_0f7a4 36 = .ok (.bipush 8, 2) := by decide +kernel
theorem dJ6_bitCount_0f7a4_38 : decode cJ6_bitCount_0f7a4 38 = .ok (.iushr, 1) := by decide +kernel
theorem dJ6_bitCount_0f7a4_39 : decode cJ6_bitCount_0f7a4 39 = .ok (.iadd, 1) := by decide +kernel
theorem dJ6_bitCount_0f7a4_40 : decode cJ6_bitCount_0f7a4 40 = .ok (.istore_n 0, 1) := by decide +kernel
theorem dJ6_bitCount_0f7a4_41 : decode cJ6_bitCount_0f7a4 41 = .ok (.iload_n 0, 1) := by decide +kernel
theorem dJ6_bitCount_0f7a4_42 : decode cJ6_bitCount_0f7a4 42 = .ok (.iload_n 0, 1) := by decide +kernel
theorem dJ6_bitCount_0f7a4_43 : decode cJ6_bitCount_0f7a4 43 = .ok (.bipush 16, 2) := by decide +kernel
theorem dJ6_bitCount_0f7a4_45 : decode cJ6_bitCount_0f7a4 45 = .ok (.iushr, 1) := by decide +kernel
theorem dJ6_bitCount_0f7a4_46 : decode cJ6_bitCount_0f7a4 46 = .ok (.iadd, 1) := by decide +kernel
theorem dJ6_bitCount_0f7a4_47 : decode cJ6_bitCount_0f7a4 47 = .ok (.istore_n 0, 1) := by decide +kernel
theorem dJ6_bitCount_0f7a4_48 : decode cJ6_bitCount_0f7a4 48 = .ok (.iload_n 0, 1) := by decide +kernel
theorem dJ6_bitCount_0f7a4_49 : decode cJ6_bitCount_0f7a4 49 = .ok (.bipush 63, 2) := by decide +kernel
theorem dJ6_bitCount_0f7a4_51 : decode cJ6_bitCount_0f7a4 51 = .ok (.iand, 1) := by decide +kernel
theorem dJ6_bitCount_0f7a4_52 : decode cJ6_bitCount_0f7a4 52 = .ok (.ireturn, 1) := by decide +kernel
theorem dJ13_bitCount_95d88_0 : decode cJ13_bitCount_95d88 0 = .ok (.lload_n 0, 1) := by decide +kernel
theorem dJ13_bitCount_95d88_1 : decode cJ13_bitCount_95d88 1 = .ok (.lload_n 0, 1) := by decide +kernel
theorem dJ13_bitCount_95d88_2 : decode cJ13_bitCount_95d88 2 = .ok (.iconst 1, 1) := by decide +kernel
theorem dJ13_bitCount_95d88_3 : decode cJ13_bitCount_95d88 3 = .ok (.lushr, 1) := by decide +kernel
theorem dJ13_bitCount_95d88_4 : decode cJ13_bitCount_95d88 4 = .ok (.ldc2_w 314, 3) := by decide +kernel
theorem dJ13_bitCount_95d88_7 : decode cJ13_bitCount_95d88 7 = .ok (.land, 1) := by decide +kernel
theorem dJ13_bitCount_95d88_8 : decode cJ13_bitCount_95d88 8 = .ok (.lsub, 1) := by decide +kernel
theorem dJ13_bitCount_95d88_9 : decode cJ13_bitCount_95d88 9 = .ok (.lstore_n 0, 1) := by decide +kernel
theorem dJ13_bitCount_95d88_10 : decode cJ13_bitCount_95d88 10 = .ok (.lload_n 0, 1) := by decide +kernel
theorem dJ13_bitCount_95d88_11 : decode cJ13_bitCount_95d88 11 = .ok (.ldc2_w 316, 3) := by decide +kernel
theorem dJ13_bitCount_95d88_14 : decode cJ13_bitCount_95d88 14 = .ok (.land, 1) := by decide +kernel
theorem dJ13_bitCount_95d88_15 : decode cJ13_bitCount_95d88 15 = .ok (.lload_n 0, 1) := by decide +kernel
theorem dJ13_bitCount_95d88_16 : decode cJ13_bitCount_95d88 16 = .ok (.iconst 2, 1) := by decide +kernel
theorem dJ13_bitCount_95d88_17 : decode cJ13_bitCount_95d88 17 = .ok (.lushr, 1) := by decide +kernel
theorem dJ13_bitCount_95d88_18 : decode cJ13_bitCount_95d88 18 = .ok (.ldc2_w 316, 3) := by decide +kernel
theorem dJ13_bitCount_95d88_21 : decode cJ13_bitCount_95d88 21 = .ok (.land, 1) := by decide +kernel
theorem dJ13_bitCount_95d88_22 : decode cJ13_bitCount_95d88 22 = .ok (.ladd, 1) := by decide +kernel
theorem dJ13_bitCount_95d88_23 : decode cJ13_bitCount_95d88 23 = .ok (.lstore_n 0, 1) := by decide +kernel
theorem dJ13_bitCount_95d88_24 : decode cJ13_bitCount_95d88 24 = .ok (.lload_n 0, 1) := by decide +kernel
theorem dJ13_bitCount_95d88_25 : decode cJ13_bitCount_95d88 25 = .ok (.lload_n 0, 1) := by decide +kernel
theorem dJ13_bitCount_95d88_26 : decode cJ13_bitCount_95d88 26 = .ok (.iconst 4, 1) := by decide +kernel
theorem dJ13_bitCount_95d88_27 : decode cJ13_bitCount_95d88 27 = .ok (.lushr, 1) := by decide +kernel
theorem dJ13_bitCount_95d88_28 : decode cJ13_bitCount_95d88 28 = .ok (.ladd, 1) := by decide +kernel
theorem dJ13_bitCount_95d88_29 : decode cJ13_bitCount_95d88 29 = .ok (.ldc2_w 318, 3) := by decide +kernel
theorem dJ13_bitCount_95d88_32 : decode cJ13_bitCount_95d88 32 = .ok (.land, 1) := by decide +kernel
theorem dJ13_bitCount_95d88_33 : decode cJ13_bitCount_95d88 33 = .ok (.lstore_n 0, 1) := by decide +kernel
theorem dJ13_bitCount_95d88_34 : decode cJ13_bitCount_95d88 34 = .ok (.lload_n 0, 1) := by decide +kernel
theorem dJ13_bitCount_95d88_35 : decode cJ13_bitCount_95d88 35 = .ok (.lload_n 0, 1) := by decide +kernel
theorem dJ13_bitCount_95d88_36 : decode cJ13_bitCount_95d88 36 = .ok (.bipush 8, 2) := by decide +kernel
theorem dJ13_bitCount_95d88_38 : decode cJ13_bitCount_95d88 38 = .ok (.lushr, 1) := by decide +kernel
theorem dJ13_bitCount_95d88_39 : decode cJ13_bitCount_95d88 39 = .ok (.ladd, 1) := by decide +kernel
theorem dJ13_bitCount_95d88_40 : decode cJ13_bitCount_95d88 40 = .ok (.lstore_n 0, 1) := by decide +kernel
theorem dJ13_bitCount_95d88_41 : decode cJ13_bitCount_95d88 41 = .ok (.lload_n 0, 1) := by decide +kernel
theorem dJ13_bitCount_95d88_42 : decode cJ13_bitCount_95d88 42 = .ok (.lload_n 0, 1) := by decide +kernel
theorem dJ13_bitCount_95d88_43 : decode cJ13_bitCount_95d88 43 = .ok (.bipush 16, 2) := by decide +kernel
theorem dJ13_bitCount_95d88_45 : decode cJ13_bitCount_95d88 45 = .ok (.lushr, 1) := by decide +kernel
theorem dJ13_bitCount_95d88_46 : decode cJ13_bitCount_95d88 46 = .ok (.ladd, 1) := by decide +kernel
theorem dJ13_bitCount_95d88_47 : decode cJ13_bitCount_95d88 47 = .ok (.lstore_n 0, 1) := by decide +kernel
theorem dJ13_bitCount_95d88_48 : decode cJ13_bitCount_95d88 48 = .ok (.lload_n 0, 1) := by decide +kernel
theorem dJ13_bitCount_95d88_49 : decode cJ13_bitCount_95d88 49 = .ok (.lload_n 0, 1) := by decide +kernel
theorem dJ13_bitCount_95d88_50 : decode cJ13_bitCount_95d88 50 = .ok (.bipush 32, 2) := by decide +kernel
theorem dJ13_bitCount_95d88_52 : decode cJ13_bitCount_95d88 52 = .ok (.lushr, 1) := by decide +kernel
theorem dJ13_bitCount_95d88_53 : decode cJ13_bitCount_95d88 53 = .ok (.ladd, 1) := by decide +kernel
theorem dJ13_bitCount_95d88_54 : decode cJ13_bitCount_95d88 54 = .ok (.lstore_n 0, 1) := by decide +kernel
theorem dJ13_bitCount_95d88_55 : decode cJ13_bitCount_95d88 55 = .ok (.lload_n 0, 1) := by decide +kernel
theorem dJ13_bitCount_95d88_56 : decode cJ13_bitCount_95d88 56 = .ok (.l2i, 1) := by decide +kernel
theorem dJ13_bitCount_95d88_57 : decode cJ13_bitCount_95d88 57 = .ok (.bipush 127, 2) := by decide +kernel
theorem dJ13_bitCount_95d88_59 : decode cJ13_bitCount_95d88 59 = .ok (.iand, 1) := by decide +kernel
theorem dJ13_bitCount_95d88_60 : decode cJ13_bitCount_95d88 60 = .ok (.ireturn, 1) := by decide +kernel
theorem dJ7_fill_d0a16_0 : decode cJ7_fill_d0a16 0 = .ok (.iconst 0, 1) := by decide +kernel
theorem dJ7_fill_d0a16_1 : decode cJ7_fill_d0a16 1 = .ok (.istore_n 3, 1) := by decide +kernel
theorem dJ7_fill_d0a16_2 : decode cJ7_fill_d0a16 2 = .ok (.aload_n 0, 1) := by decide +kernel
theorem dJ7_fill_d0a16_3 : decode cJ7_fill_d0a16 3 = .ok (.arraylength, 1) := by decide +kernel
theorem dJ7_fill_d0a16_4 : decode cJ7_fill_d0a16 4 = .ok (.istore 4, 2) := by decide +kernel
theorem dJ7_fill_d0a16_6 : decode cJ7_fill_d0a16 6 = .ok (.iload_n 3, 1) := by decide +kernel
theorem dJ7_fill_d0a16_7 : decode cJ7_fill_d0a16 7 = .ok (.iload 4, 2) := by decide +kernel
theorem dJ7_fill_d0a16_9 : decode cJ7_fill_d0a16 9 = .ok (.if_icmp .ge 13, 3) := by decide +kernel
theorem dJ7_fill_d0a16_12 : decode cJ7_fill_d0a16 12 = .ok (.aload_n 0, 1) := by decide +kernel
theorem dJ7_fill_d0a16_13 : decode cJ7_fill_d0a16 13 = .ok (.iload_n 3, 1) := by decide +kernel
theorem dJ7_fill_d0a16_14 : decode cJ7_fill_d0a16 14 = .ok (.lload_n 1, 1) := by decide +kernel
theorem dJ7_fill_d0a16_15 : decode cJ7_fill_d0a16 15 = .ok (.lastore, 1) := by decide +kernel
theorem dJ7_fill_d0a16_16 : decode cJ7_fill_d0a16 16 = .ok (.iinc 3 1, 3) := by decide +kernel
theorem dJ7_fill_d0a16_19 : decode cJ7_fill_d0a16 19 = .ok (.goto (-13), 3) := by decide +kernel
theorem dJ7_fill_d0a16_22 : decode cJ7_fill_d0a16 22 = .ok (.return_, 1) := by decide +kernel
theorem dJ7_fill_53178_0 : decode cJ7_fill_53178 0 = .ok (.iconst 0, 1) := by decide +kernel
theorem dJ7_fill_53178_1 : decode cJ7_fill_53178 1 = .ok (.istore_n 2, 1) := by decide +kernel
theorem dJ7_fill_53178_2 : decode cJ7_fill_53178 2 = .ok (.aload_n 0, 1) := by decide +kernel
theorem dJ7_fill_53178_3 : decode cJ7_fill_53178 3 = .ok (.arraylength, 1) := by decide +kernel
theorem dJ7_fill_53178_4 : decode cJ7_fill_53178 4 = .ok (.istore_n 3, 1) := by decide +kernel
theorem dJ7_fill_53178_5 : decode cJ7_fill_53178 5 = .ok (.iload_n 2, 1) := by decide +kernel
theorem dJ7_fill_53178_6 : decode cJ7_fill_53178 6 = .ok (.iload_n 3, 1) := by decide +kernel
theorem dJ7_fill_53178_7 : decode cJ7_fill_53178 7 = .ok (.if_icmp .ge 13, 3) := by decide +kernel
theorem dJ7_fill_53178_10 : decode cJ7_fill_53178 10 = .ok (.aload_n 0, 1) := by decide +kernel
theorem dJ7_fill_53178_11 : decode cJ7_fill_53178 11 = .ok (.iload_n 2, 1) := by decide +kernel
theorem dJ7_fill_53178_12 : decode cJ7_fill_53178 12 = .ok (.iload_n 1, 1) := by decide +kernel
theorem dJ7_fill_53178_13 : decode cJ7_fill_53178 13 = .ok (.iastore, 1) := by decide +kernel
theorem dJ7_fill_53178_14 : decode cJ7_fill_53178 14 = .ok (.iinc 2 1, 3) := by decide +kernel
theorem dJ7_fill_53178_17 : decode cJ7_fill_53178 17 = .ok (.goto (-12), 3) := by decide +kernel
theorem dJ7_fill_53178_20 : decode cJ7_fill_53178 20 = .ok (.return_, 1) := by decide +kernel
