/-! The class: its instructions. -/
theorem dX7_putTouched_21 : decode cX7_putTouched 21 = .ok (.laload, 1) := by decide +kernel
theorem dX7_putTouched_22 : decode cX7_putTouched 22 = .ok (.invokestatic 97, 3) := by decide +kernel
theorem dX7_putTouched_25 : decode cX7_putTouched 25 = .ok (.ifCond .eq 23, 3) := by decide +kernel
theorem dX7_putTouched_28 : decode cX7_putTouched 28 = .ok (.aload_n 0, 1) := by decide +kernel
theorem dX7_putTouched_29 : decode cX7_putTouched 29 = .ok (.getfield 33, 3) := by decide +kernel
theorem dX7_putTouched_32 : decode cX7_putTouched 32 = .ok (.iload_n 3, 1) := by decide +kernel
theorem dX7_putTouched_33 : decode cX7_putTouched 33 = .ok (.aload_n 0, 1) := by decide +kernel
theorem dX7_putTouched_34 : decode cX7_putTouched 34 = .ok (.getfield 33, 3) := by decide +kernel
theorem dX7_putTouched_37 : decode cX7_putTouched 37 = .ok (.iload_n 3, 1) := by decide +kernel
theorem dX7_putTouched_38 : decode cX7_putTouched 38 = .ok (.iconst 1, 1) := by decide +kernel
theorem dX7_putTouched_39 : decode cX7_putTouched 39 = .ok (.isub, 1) := by decide +kernel
theorem dX7_putTouched_40 : decode cX7_putTouched 40 = .ok (.iaload, 1) := by decide +kernel
theorem dX7_putTouched_41 : decode cX7_putTouched 41 = .ok (.iastore, 1) := by decide +kernel
theorem dX7_putTouched_42 : decode cX7_putTouched 42 = .ok (.iinc 3 (-1), 3) := by decide +kernel
theorem dX7_putTouched_45 : decode cX7_putTouched 45 = .ok (.goto (-40), 3) := by decide +kernel
theorem dX7_putTouched_48 : decode cX7_putTouched 48 = .ok (.aload_n 0, 1) := by decide +kernel
theorem dX7_putTouched_49 : decode cX7_putTouched 49 = .ok (.getfield 33, 3) := by decide +kernel
theorem dX7_putTouched_52 : decode cX7_putTouched 52 = .ok (.iload_n 3, 1) := by decide +kernel
theorem dX7_putTouched_53 : decode cX7_putTouched 53 = .ok (.iload_n 1, 1) := by decide +kernel
theorem dX7_putTouched_54 : decode cX7_putTouched 54 = .ok (.iastore, 1) := by decide +kernel
theorem dX7_putTouched_55 : decode cX7_putTouched 55 = .ok (.aload_n 0, 1) := by decide +kernel
theorem dX7_putTouched_56 : decode cX7_putTouched 56 = .ok (.dup, 1) := by decide +kernel
theorem dX7_putTouched_57 : decode cX7_putTouched 57 = .ok (.getfield 66, 3) := by decide +kernel
theorem dX7_putTouched_60 : decode cX7_putTouched 60 = .ok (.iconst 1, 1) := by decide +kernel
theorem dX7_putTouched_61 : decode cX7_putTouched 61 = .ok (.iadd, 1) := by decide +kernel
theorem dX7_putTouched_62 : decode cX7_putTouched 62 = .ok (.putfield 66, 3) := by decide +kernel
theorem dX7_putTouched_65 : decode cX7_putTouched 65 = .ok (.return_, 1) := by decide +kernel
theorem dX7_countOthers_0 : decode cX7_countOthers 0 = .ok (.iconst 0, 1) := by decide +kernel
theorem dX7_countOthers_1 : decode cX7_countOthers 1 = .ok (.istore_n 2, 1) := by decide +kernel
theorem dX7_countOthers_2 : decode cX7_countOthers 2 = .ok (.iconst 0, 1) := by decide +kernel
theorem dX7_countOthers_3 : decode cX7_countOthers 3 = .ok (.istore_n 3, 1) := by decide +kernel
theorem dX7_countOthers_4 : decode cX7_countOthers 4 = .ok (.iload_n 3, 1) := by decide +kernel
theorem dX7_countOthers_5 : decode cX7_countOthers 5 = .ok (.aload_n 0, 1) := by decide +kernel
theorem dX7_countOthers_6 : decode cX7_countOthers 6 = .ok (.getfield 12, 3) := by decide +kernel
theorem dX7_countOthers_9 : decode cX7_countOthers 9 = .ok (.getfield 90, 3) := by decide +kernel
theorem dX7_countOthers_12 : decode cX7_countOthers 12 = .ok (.if_icmp .ge 25, 3) := by decide +kernel
theorem dX7_countOthers_15 : decode cX7_countOthers 15 = .ok (.aload_n 0, 1) := by decide +kernel
theorem dX7_countOthers_16 : decode cX7_countOthers 16 = .ok (.getfield 36, 3) := by decide +kernel
theorem dX7_countOthers_19 : decode cX7_countOthers 19 = .ok (.iload_n 3, 1) := by decide +kernel
theorem dX7_countOthers_20 : decode cX7_countOthers 20 = .ok (.laload, 1) := by decide +kernel
theorem dX7_countOthers_21 : decode cX7_countOthers 21 = .ok (.aload_n 1, 1) := by decide +kernel
theorem dX7_countOthers_22 : decode cX7_countOthers 22 = .ok (.iload_n 3, 1) := by decide +kernel
theorem dX7_countOthers_23 : decode cX7_countOthers 23 = .ok (.laload, 1) := by decide +kernel
theorem dX7_countOthers_24 : decode cX7_countOthers 24 = .ok (.lcmp, 1) := by decide +kernel
theorem dX7_countOthers_25 : decode cX7_countOthers 25 = .ok (.ifCond .eq 6, 3) := by decide +kernel
theorem dX7_countOthers_28 : decode cX7_countOthers 28 = .ok (.iinc 2 1, 3) := by decide +kernel
theorem dX7_countOthers_31 : decode cX7_countOthers 31 = .ok (.iinc 3 1, 3) := by decide +kernel
theorem dX7_countOthers_34 : decode cX7_countOthers 34 = .ok (.goto (-30), 3) := by decide +kernel
theorem dX7_countOthers_37 : decode cX7_countOthers 37 = .ok (.iload_n 2, 1) := by decide +kernel
theorem dX7_countOthers_38 : decode cX7_countOthers 38 = .ok (.ireturn, 1) := by decide +kernel
theorem dX7_writeEvents_0 : decode cX7_writeEvents 0 = .ok (.iconst 0, 1) := by decide +kernel
theorem dX7_writeEvents_1 : decode cX7_writeEvents 1 = .ok (.istore_n 2, 1) := by decide +kernel
theorem dX7_writeEvents_2 : decode cX7_writeEvents 2 = .ok (.iload_n 2, 1) := by decide +kernel
theorem dX7_writeEvents_3 : decode cX7_writeEvents 3 = .ok (.aload_n 0, 1) := by decide +kernel
theorem dX7_writeEvents_4 : decode cX7_writeEvents 4 = .ok (.getfield 12, 3) := by decide +kernel
theorem dX7_writeEvents_7 : decode cX7_writeEvents 7 = .ok (.getfield 90, 3) := by decide +kernel
theorem dX7_writeEvents_10 : decode cX7_writeEvents 10 = .ok (.if_icmp .ge 40, 3) := by decide +kernel
theorem dX7_writeEvents_13 : decode cX7_writeEvents 13 = .ok (.iload_n 1, 1) := by decide +kernel
theorem dX7_writeEvents_14 : decode cX7_writeEvents 14 = .ok (.iload_n 2, 1) := by decide +kernel
theorem dX7_writeEvents_15 : decode cX7_writeEvents 15 = .ok (.ishr, 1) := by decide +kernel
theorem dX7_writeEvents_16 : decode cX7_writeEvents 16 = .ok (.iconst 1, 1) := by decide +kernel
theorem dX7_writeEvents_17 : decode cX7_writeEvents 17 = .ok (.iand, 1) := by decide +kernel
theorem dX7_writeEvents_18 : decode cX7_writeEvents 18 = .ok (.ifCond .eq 26, 3) := by decide +kernel
theorem dX7_writeEvents_21 : decode cX7_writeEvents 21 = .ok (.aload_n 0, 1) := by decide +kernel
theorem dX7_writeEvents_22 : decode cX7_writeEvents 22 = .ok (.getfield 21, 3) := by decide +kernel
theorem dX7_writeEvents_25 : decode cX7_writeEvents 25 = .ok (.aload_n 0, 1) := by decide +kernel
theorem dX7_writeEvents_26 : decode cX7_writeEvents 26 = .ok (.getfield 60, 3) := by decide +kernel
theorem dX7_writeEvents_29 : decode cX7_writeEvents 29 = .ok (.iload_n 2, 1) := by decide +kernel
theorem dX7_writeEvents_30 : decode cX7_writeEvents 30 = .ok (.aload_n 0, 1) := by decide +kernel
theorem dX7_writeEvents_31 : decode cX7_writeEvents 31 = .ok (.iload_n 2, 1) := by decide +kernel
theorem dX7_writeEvents_32 : decode cX7_writeEvents 32 = .ok (.invokevirtual 101, 3) := by decide +kernel
theorem dX7_writeEvents_35 : decode cX7_writeEvents 35 = .ok (.aload_n 0, 1) := by decide +kernel
theorem dX7_writeEvents_36 : decode cX7_writeEvents 36 = .ok (.getfield 36, 3) := by decide +kernel
theorem dX7_writeEvents_39 : decode cX7_writeEvents 39 = .ok (.iload_n 2, 1) := by decide +kernel
theorem dX7_writeEvents_40 : decode cX7_writeEvents 40 = .ok (.laload, 1) := by decide +kernel
theorem dX7_writeEvents_41 : decode cX7_writeEvents 41 = .ok (.invokevirtual 105, 3) := by decide +kernel
theorem dX7_writeEvents_44 : decode cX7_writeEvents 44 = .ok (.iinc 2 1, 3) := by decide +kernel
theorem dX7_writeEvents_47 : decode cX7_writeEvents 47 = .ok (.goto (-45), 3) := by decide +kernel
theorem dX7_writeEvents_50 : decode cX7_writeEvents 50 = .ok (.return_, 1) := by decide +kernel
theorem dX7_isWatched_0 : decode cX7_isWatched 0 = .ok (.aload_n 0, 1) := by decide +kernel
theorem dX7_isWatched_1 : decode cX7_isWatched 1 = .ok (.getfield 63, 3) := by decide +kernel
theorem dX7_isWatched_4 : decode cX7_isWatched 4 = .ok (.iload_n 1, 1) := by decide +kernel
theorem dX7_isWatched_5 : decode cX7_isWatched 5 = .ok (.ishr, 1) := by decide +kernel
theorem dX7_isWatched_6 : decode cX7_isWatched 6 = .ok (.iconst 1, 1) := by decide +kernel
theorem dX7_isWatched_7 : decode cX7_isWatched 7 = .ok (.iand, 1) := by decide +kernel
theorem dX7_isWatched_8 : decode cX7_isWatched 8 = .ok (.ifCond .eq 7, 3) := by decide +kernel
theorem dX7_isWatched_11 : decode cX7_isWatched 11 = .ok (.iconst 1, 1) := by decide +kernel
theorem dX7_isWatched_12 : decode cX7_isWatched 12 = .ok (.goto 4, 3) := by decide +kernel
theorem dX7_isWatched_15 : decode cX7_isWatched 15 = .ok (.iconst 0, 1) := by decide +kernel
theorem dX7_isWatched_16 : decode cX7_isWatched 16 = .ok (.ireturn, 1) := by decide +kernel
theorem dX7_isBeyond_0 : decode cX7_isBeyond 0 = .ok (.aload_n 0, 1) := by decide +kernel
theorem dX7_isBeyond_1 : decode cX7_isBeyond 1 = .ok (.getfield 36, 3) := by decide +kernel
theorem dX7_isBeyond_4 : decode cX7_isBeyond 4 = .ok (.iload_n 1, 1) := by decide +kernel
theorem dX7_isBeyond_5 : decode cX7_isBeyond 5 = .ok (.laload, 1) := by decide +kernel
theorem dX7_isBeyond_6 : decode cX7_isBeyond 6 = .ok (.ldc2_w 109, 3) := by decide +kernel
theorem dX7_isBeyond_9 : decode cX7_isBeyond 9 = .ok (.lcmp, 1) := by decide +kernel
theorem dX7_isBeyond_10 : decode cX7_isBeyond 10 = .ok (.ifCond .eq 20, 3) := by decide +kernel
theorem dX7_isBeyond_13 : decode cX7_isBeyond 13 = .ok (.aload_n 0, 1) := by decide +kernel
theorem dX7_isBeyond_14 : decode cX7_isBeyond 14 = .ok (.getfield 36, 3) := by decide +kernel
theorem dX7_isBeyond_17 : decode cX7_isBeyond 17 = .ok (.iload_n 1, 1) := by decide +kernel
theorem dX7_isBeyond_18 : decode cX7_isBeyond 18 = .ok (.laload, 1) := by decide +kernel
theorem dX7_isBeyond_19 : decode cX7_isBeyond 19 = .ok (.aload_n 0, 1) := by decide +kernel
theorem dX7_isBeyond_20 : decode cX7_isBeyond 20 = .ok (.getfield 29, 3) := by decide +kernel
theorem dX7_isBeyond_23 : decode cX7_isBeyond 23 = .ok (.iload_n 1, 1) := by decide +kernel
theorem dX7_isBeyond_24 : decode cX7_isBeyond 24 = .ok (.iaload, 1) := by decide +kernel
theorem dX7_isBeyond_25 : decode cX7_isBeyond 25 = .ok (.i2l, 1) := by decide +kernel
theorem dX7_isBeyond_26 : decode cX7_isBeyond 26 = .ok (.lcmp, 1) := by decide +kernel
theorem dX7_isBeyond_27 : decode cX7_isBeyond 27 = .ok (.ifCond .le 7, 3) := by decide +kernel
theorem dX7_isBeyond_30 : decode cX7_isBeyond 30 = .ok (.iconst 1, 1) := by decide +kernel
theorem dX7_isBeyond_31 : decode cX7_isBeyond 31 = .ok (.goto 4, 3) := by decide +kernel
theorem dX7_isBeyond_34 : decode cX7_isBeyond 34 = .ok (.iconst 0, 1) := by decide +kernel
theorem dX7_isBeyond_35 : decode cX7_isBeyond 35 = .ok (.ireturn, 1) := by decide +kernel
theorem dX7_beyondBits_0 : decode cX7_beyondBits 0 = .ok (.iconst 0, 1) := by decide +kernel
theorem dX7_beyondBits_1 : decode cX7_beyondBits 1 = .ok (.istore_n 1, 1) := by decide +kernel
theorem dX7_beyondBits_2 : decode cX7_beyondBits 2 = .ok (.iconst 0, 1) := by decide +kernel
theorem dX7_beyondBits_3 : decode cX7_beyondBits 3 = .ok (.istore_n 2, 1) := by decide +kernel
theorem dX7_beyondBits_4 : decode cX7_beyondBits 4 = .ok (.iload_n 2, 1) := by decide +kernel
theorem dX7_beyondBits_5 : decode cX7_beyondBits 5 = .ok (.aload_n 0, 1) := by decide +kernel
theorem dX7_beyondBits_6 : decode cX7_beyondBits 6 = .ok (.getfield 12, 3) := by decide +kernel
theorem dX7_beyondBits_9 : decode cX7_beyondBits 9 = .ok (.getfield 90, 3) := by decide +kernel
theorem dX7_beyondBits_12 : decode cX7_beyondBits 12 = .ok (.if_icmp .ge 31, 3) := by decide +kernel
theorem dX7_beyondBits_15 : decode cX7_beyondBits 15 = .ok (.aload_n 0, 1) := by decide +kernel
theorem dX7_beyondBits_16 : decode cX7_beyondBits 16 = .ok (.iload_n 2, 1) := by decide +kernel
theorem dX7_beyondBits_17 : decode cX7_beyondBits 17 = .ok (.invokevirtual 111, 3) := by decide +kernel
theorem dX7_beyondBits_20 : decode cX7_beyondBits 20 = .ok (.ifCond .eq 17, 3) := by decide +kernel
theorem dX7_beyondBits_23 : decode cX7_beyondBits 23 = .ok (.aload_n 0, 1) := by decide +kernel
theorem dX7_beyondBits_24 : decode cX7_beyondBits 24 = .ok (.iload_n 2, 1) := by decide +kernel
theorem dX7_beyondBits_25 : decode cX7_beyondBits 25 = .ok (.invokevirtual 101, 3) := by decide +kernel
theorem dX7_beyondBits_28 : decode cX7_beyondBits 28 = .ok (.ifCond .eq 9, 3) := by decide +kernel
theorem dX7_beyondBits_31 : decode cX7_beyondBits 31 = .ok (.iload_n 1, 1) := by decide +kernel
theorem dX7_beyondBits_32 : decode cX7_beyondBits 32 = .ok (.iconst 1, 1) := by decide +kernel
theorem dX7_beyondBits_33 : decode cX7_beyondBits 33 = .ok (.iload_n 2, 1) := by decide +kernel
theorem dX7_beyondBits_34 : decode cX7_beyondBits 34 = .ok (.ishl, 1) := by decide +kernel
theorem dX7_beyondBits_35 : decode cX7_beyondBits 35 = .ok (.ior, 1) := by decide +kernel
theorem dX7_beyondBits_36 : decode cX7_beyondBits 36 = .ok (.istore_n 1, 1) := by decide +kernel
theorem dX7_beyondBits_37 : decode cX7_beyondBits 37 = .ok (.iinc 2 1, 3) := by decide +kernel
theorem dX7_beyondBits_40 : decode cX7_beyondBits 40 = .ok (.goto (-36), 3) := by decide +kernel
theorem dX7_beyondBits_43 : decode cX7_beyondBits 43 = .ok (.iload_n 1, 1) := by decide +kernel
theorem dX7_beyondBits_44 : decode cX7_beyondBits 44 = .ok (.ireturn, 1) := by decide +kernel
theorem dX7_findParents_0 : decode cX7_findParents 0 = .ok (.aload_n 0, 1) := by decide +kernel
theorem dX7_findParents_1 : decode cX7_findParents 1 = .ok (.getfield 40, 3) := by decide +kernel
theorem dX7_findParents_4 : decode cX7_findParents 4 = .ok (.iconst (-1), 1) := by decide +kernel
theorem dX7_findParents_5 : decode cX7_findParents 5 = .ok (.invokestatic 114, 3) := by decide +kernel
theorem dX7_findParents_8 : decode cX7_findParents 8 = .ok (.aload_n 0, 1) := by decide +kernel
theorem dX7_findParents_9 : decode cX7_findParents 9 = .ok (.getfield 12, 3) := by decide +kernel
theorem dX7_findParents_12 : decode cX7_findParents 12 = .ok (.getfield 120, 3) := by decide +kernel
theorem dX7_findParents_15 : decode cX7_findParents 15 = .ok (.iconst 1, 1) := by decide +kernel
theorem dX7_findParents_16 : decode cX7_findParents 16 = .ok (.isub, 1) := by decide +kernel
theorem dX7_findParents_17 : decode cX7_findParents 17 = .ok (.istore_n 1, 1) := by decide +kernel
theorem dX7_findParents_18 : decode cX7_findParents 18 = .ok (.iload_n 1, 1) := by decide +kernel
theorem dX7_findParents_19 : decode cX7_findParents 19 = .ok (.ifCond .lt 32, 3) := by decide +kernel
theorem dX7_findParents_22 : decode cX7_findParents 22 = .ok (.aload_n 0, 1) := by decide +kernel
theorem dX7_findParents_23 : decode cX7_findParents 23 = .ok (.iload_n 1, 1) := by decide +kernel
theorem dX7_findParents_24 : decode cX7_findParents 24 = .ok (.invokevirtual 123, 3) := by decide +kernel
theorem dX7_findParents_27 : decode cX7_findParents 27 = .ok (.ifCond .eq 18, 3) := by decide +kernel
theorem dX7_findParents_30 : decode cX7_findParents 30 = .ok (.aload_n 0, 1) := by decide +kernel
theorem dX7_findParents_31 : decode cX7_findParents 31 = .ok (.getfield 40, 3) := by decide +kernel
theorem dX7_findParents_34 : decode cX7_findParents 34 = .ok (.aload_n 0, 1) := by decide +kernel
theorem dX7_findParents_35 : decode cX7_findParents 35 = .ok (.getfield 12, 3) := by decide +kernel
theorem dX7_findParents_38 : decode cX7_findParents 38 = .ok (.getfield 126, 3) := by decide +kernel
theorem dX7_findParents_41 : decode cX7_findParents 41 = .ok (.iload_n 1, 1) := by decide +kernel
theorem dX7_findParents_42 : decode cX7_findParents 42 = .ok (.iaload, 1) := by decide +kernel
theorem dX7_findParents_43 : decode cX7_findParents 43 = .ok (.iload_n 1, 1) := by decide +kernel
theorem dX7_findParents_44 : decode cX7_findParents 44 = .ok (.iastore, 1) := by decide +kernel
theorem dX7_findParents_45 : decode cX7_findParents 45 = .ok (.iinc 1 (-1), 3) := by decide +kernel
theorem dX7_findParents_48 : decode cX7_findParents 48 = .ok (.goto (-30), 3) := by decide +kernel
theorem dX7_findParents_51 : decode cX7_findParents 51 = .ok (.return_, 1) := by decide +kernel
theorem dX7_hasDistance_0 : decode cX7_hasDistance 0 = .ok (.aload_n 0, 1) := by decide +kernel
theorem dX7_hasDistance_1 : decode cX7_hasDistance 1 = .ok (.getfield 36, 3) := by decide +kernel
theorem dX7_hasDistance_4 : decode cX7_hasDistance 4 = .ok (.iload_n 1, 1) := by decide +kernel
theorem dX7_hasDistance_5 : decode cX7_hasDistance 5 = .ok (.laload, 1) := by decide +kernel
theorem dX7_hasDistance_6 : decode cX7_hasDistance 6 = .ok (.ldc2_w 109, 3) := by decide +kernel
theorem dX7_hasDistance_9 : decode cX7_hasDistance 9 = .ok (.lcmp, 1) := by decide +kernel
theorem dX7_hasDistance_10 : decode cX7_hasDistance 10 = .ok (.ifCond .eq 7, 3) := by decide +kernel
theorem dX7_hasDistance_13 : decode cX7_hasDistance 13 = .ok (.iconst 1, 1) := by decide +kernel
theorem dX7_hasDistance_14 : decode cX7_hasDistance 14 = .ok (.goto 4, 3) := by decide +kernel
theorem dX7_hasDistance_17 : decode cX7_hasDistance 17 = .ok (.iconst 0, 1) := by decide +kernel
theorem dX7_hasDistance_18 : decode cX7_hasDistance 18 = .ok (.ireturn, 1) := by decide +kernel
theorem dX7_isTight_0 : decode cX7_isTight 0 = .ok (.aload_n 0, 1) := by decide +kernel
theorem dX7_isTight_1 : decode cX7_isTight 1 = .ok (.getfield 12, 3) := by decide +kernel
theorem dX7_isTight_4 : decode cX7_isTight 4 = .ok (.iload_n 1, 1) := by decide +kernel
theorem dX7_isTight_5 : decode cX7_isTight 5 = .ok (.invokevirtual 129, 3) := by decide +kernel
theorem dX7_isTight_8 : decode cX7_isTight 8 = .ok (.ifCond .eq 17, 3) := by decide +kernel
theorem dX7_isTight_11 : decode cX7_isTight 11 = .ok (.aload_n 0, 1) := by decide +kernel
theorem dX7_isTight_12 : decode cX7_isTight 12 = .ok (.iload_n 1, 1) := by decide +kernel
theorem dX7_isTight_13 : decode cX7_isTight 13 = .ok (.invokevirtual 132, 3) := by decide +kernel
theorem dX7_isTight_16 : decode cX7_isTight 16 = .ok (.lconst 0, 1) := by decide +kernel
theorem dX7_isTight_17 : decode cX7_isTight 17 = .ok (.lcmp, 1) := by decide +kernel
theorem dX7_isTight_18 : decode cX7_isTight 18 = .ok (.ifCond .ne 7, 3) := by decide +kernel
theorem dX7_isTight_21 : decode cX7_isTight 21 = .ok (.iconst 1, 1) := by decide +kernel
theorem dX7_isTight_22 : decode cX7_isTight 22 = .ok (.goto 4, 3) := by decide +kernel
theorem dX7_isTight_25 : decode cX7_isTight 25 = .ok (.iconst 0, 1) := by decide +kernel
theorem dX7_isTight_26 : decode cX7_isTight 26 = .ok (.ireturn, 1) := by decide +kernel
theorem dX7_slackOf_0 : decode cX7_slackOf 0 = .ok (.aload_n 0, 1) := by decide +kernel
theorem dX7_slackOf_1 : decode cX7_slackOf 1 = .ok (.getfield 36, 3) := by decide +kernel
theorem dX7_slackOf_4 : decode cX7_slackOf 4 = .ok (.aload_n 0, 1) := by decide +kernel
theorem dX7_slackOf_5 : decode cX7_slackOf 5 = .ok (.getfield 12, 3) := by decide +kernel
theorem dX7_slackOf_8 : decode cX7_slackOf 8 = .ok (.getfield 136, 3) := by decide +kernel
theorem dX7_slackOf_11 : decode cX7_slackOf 11 = .ok (.iload_n 1, 1) := by decide +kernel
theorem dX7_slackOf_12 : decode cX7_slackOf 12 = .ok (.iaload, 1) := by decide +kernel
theorem dX7_slackOf_13 : decode cX7_slackOf 13 = .ok (.laload, 1) := by decide +kernel
theorem dX7_slackOf_14 : decode cX7_slackOf 14 = .ok (.lstore_n 2, 1) := by decide +kernel
theorem dX7_slackOf_15 : decode cX7_slackOf 15 = .ok (.aload_n 0, 1) := by decide +kernel
theorem dX7_slackOf_16 : decode cX7_slackOf 16 = .ok (.getfield 36, 3) := by decide +kernel
theorem dX7_slackOf_19 : decode cX7_slackOf 19 = .ok (.aload_n 0, 1) := by decide +kernel
theorem dX7_slackOf_20 : decode cX7_slackOf 20 = .ok (.getfield 12, 3) := by decide +kernel
theorem dX7_slackOf_23 : decode cX7_slackOf 23 = .ok (.getfield 126, 3) := by decide +kernel
theorem dX7_slackOf_26 : decode cX7_slackOf 26 = .ok (.iload_n 1, 1) := by decide +kernel
theorem dX7_slackOf_27 : decode cX7_slackOf 27 = .ok (.iaload, 1) := by decide +kernel
theorem dX7_slackOf_28 : decode cX7_slackOf 28 = .ok (.laload, 1) := by decide +kernel
theorem dX7_slackOf_29 : decode cX7_slackOf 29 = .ok (.lstore 4, 2) := by decide +kernel
theorem dX7_slackOf_31 : decode cX7_slackOf 31 = .ok (.lload_n 2, 1) := by decide +kernel
theorem dX7_slackOf_32 : decode cX7_slackOf 32 = .ok (.ldc2_w 109, 3) := by decide +kernel
theorem dX7_slackOf_35 : decode cX7_slackOf 35 = .ok (.lcmp, 1) := by decide +kernel
theorem dX7_slackOf_36 : decode cX7_slackOf 36 = .ok (.ifCond .eq 12, 3) := by decide +kernel
theorem dX7_slackOf_39 : decode cX7_slackOf 39 = .ok (.lload 4, 2) := by decide +kernel
theorem dX7_slackOf_41 : decode cX7_slackOf 41 = .ok (.ldc2_w 109, 3) := by decide +kernel
theorem dX7_slackOf_44 : decode cX7_slackOf 44 = .ok (.lcmp, 1) := by decide +kernel
theorem dX7_slackOf_45 : decode cX7_slackOf 45 = .ok (.ifCond .ne 9, 3) := by decide +kernel
theorem dX7_slackOf_48 : decode cX7_slackOf 48 = .ok (.ldc2_w 109, 3) := by decide +kernel
theorem dX7_slackOf_51 : decode cX7_slackOf 51 = .ok (.goto 18, 3) := by decide +kernel
theorem dX7_slackOf_54 : decode cX7_slackOf 54 = .ok (.lload_n 2, 1) := by decide +kernel
theorem dX7_slackOf_55 : decode cX7_slackOf 55 = .ok (.aload_n 0, 1) := by decide +kernel
theorem dX7_slackOf_56 : decode cX7_slackOf 56 = .ok (.getfield 12, 3) := by decide +kernel
theorem dX7_slackOf_59 : decode cX7_slackOf 59 = .ok (.getfield 139, 3) := by decide +kernel
theorem dX7_slackOf_62 : decode cX7_slackOf 62 = .ok (.iload_n 1, 1) := by decide +kernel
theorem dX7_slackOf_63 : decode cX7_slackOf 63 = .ok (.iaload, 1) := by decide +kernel
theorem dX7_slackOf_64 : decode cX7_slackOf 64 = .ok (.i2l, 1) := by decide +kernel
theorem dX7_slackOf_65 : decode cX7_slackOf 65 = .ok (.ladd, 1) := by decide +kernel
theorem dX7_slackOf_66 : decode cX7_slackOf 66 = .ok (.lload 4, 2) := by decide +kernel
theorem dX7_slackOf_68 : decode cX7_slackOf 68 = .ok (.lsub, 1) := by decide +kernel
theorem dX7_slackOf_69 : decode cX7_slackOf 69 = .ok (.lreturn, 1) := by decide +kernel
theorem dX7_tightTo_0 : decode cX7_tightTo 0 = .ok (.iconst 0, 1) := by decide +kernel
theorem dX7_tightTo_1 : decode cX7_tightTo 1 = .ok (.istore_n 2, 1) := by decide +kernel
theorem dX7_tightTo_2 : decode cX7_tightTo 2 = .ok (.iconst 0, 1) := by decide +kernel
theorem dX7_tightTo_3 : decode cX7_tightTo 3 = .ok (.istore_n 3, 1) := by decide +kernel
theorem dX7_tightTo_4 : decode cX7_tightTo 4 = .ok (.iload_n 3, 1) := by decide +kernel
theorem dX7_tightTo_5 : decode cX7_tightTo 5 = .ok (.aload_n 0, 1) := by decide +kernel
theorem dX7_tightTo_6 : decode cX7_tightTo 6 = .ok (.getfield 12, 3) := by decide +kernel
theorem dX7_tightTo_9 : decode cX7_tightTo 9 = .ok (.getfield 120, 3) := by decide +kernel
theorem dX7_tightTo_12 : decode cX7_tightTo 12 = .ok (.if_icmp .ge 33, 3) := by decide +kernel
theorem dX7_tightTo_15 : decode cX7_tightTo 15 = .ok (.aload_n 0, 1) := by decide +kernel
theorem dX7_tightTo_16 : decode cX7_tightTo 16 = .ok (.getfield 12, 3) := by decide +kernel
theorem dX7_tightTo_19 : decode cX7_tightTo 19 = .ok (.getfield 126, 3) := by decide +kernel
theorem dX7_tightTo_22 : decode cX7_tightTo 22 = .ok (.iload_n 3, 1) := by decide +kernel
theorem dX7_tightTo_23 : decode cX7_tightTo 23 = .ok (.iaload, 1) := by decide +kernel
theorem dX7_tightTo_24 : decode cX7_tightTo 24 = .ok (.iload_n 1, 1) := by decide +kernel
theorem dX7_tightTo_25 : decode cX7_tightTo 25 = .ok (.if_icmp .ne 14, 3) := by decide +kernel
theorem dX7_tightTo_28 : decode cX7_tightTo 28 = .ok (.aload_n 0, 1) := by decide +kernel
theorem dX7_tightTo_29 : decode cX7_tightTo 29 = .ok (.iload_n 3, 1) := by decide +kernel
theorem dX7_tightTo_30 : decode cX7_tightTo 30 = .ok (.invokevirtual 123, 3) := by decide +kernel
theorem dX7_tightTo_33 : decode cX7_tightTo 33 = .ok (.ifCond .eq 6, 3) := by decide +kernel
theorem dX7_tightTo_36 : decode cX7_tightTo 36 = .ok (.iinc 2 1, 3) := by decide +kernel
theorem dX7_tightTo_39 : decode cX7_tightTo 39 = .ok (.iinc 3 1, 3) := by decide +kernel
theorem dX7_tightTo_42 : decode cX7_tightTo 42 = .ok (.goto (-38), 3) := by decide +kernel
theorem dX7_tightTo_45 : decode cX7_tightTo 45 = .ok (.iload_n 2, 1) := by decide +kernel
theorem dX7_tightTo_46 : decode cX7_tightTo 46 = .ok (.ireturn, 1) := by decide +kernel
theorem dX7_tightCount_0 : decode cX7_tightCount 0 = .ok (.iconst 0, 1) := by decide +kernel
theorem dX7_tightCount_1 : decode cX7_tightCount 1 = .ok (.istore_n 1, 1) := by decide +kernel
theorem dX7_tightCount_2 : decode cX7_tightCount 2 = .ok (.iconst 0, 1) := by decide +kernel
theorem dX7_tightCount_3 : decode cX7_tightCount 3 = .ok (.istore_n 2, 1) := by decide +kernel
theorem dX7_tightCount_4 : decode cX7_tightCount 4 = .ok (.iload_n 2, 1) := by decide +kernel
theorem dX7_tightCount_5 : decode cX7_tightCount 5 = .ok (.aload_n 0, 1) := by decide +kernel
theorem dX7_tightCount_6 : decode cX7_tightCount 6 = .ok (.getfield 12, 3) := by decide +kernel
theorem dX7_tightCount_9 : decode cX7_tightCount 9 = .ok (.getfield 120, 3) := by decide +kernel
theorem dX7_tightCount_12 : decode cX7_tightCount 12 = .ok (.if_icmp .ge 20, 3) := by decide +kernel
theorem dX7_tightCount_15 : decode cX7_tightCount 15 = .ok (.aload_n 0, 1) := by decide +kernel
theorem dX7_tightCount_16 : decode cX7_tightCount 16 = .ok (.iload_n 2, 1) := by decide +kernel
theorem dX7_tightCount_17 : decode cX7_tightCount 17 = .ok (.invokevirtual 123, 3) := by decide +kernel
theorem dX7_tightCount_20 : decode cX7_tightCount 20 = .ok (.ifCond .eq 6, 3) := by decide +kernel
theorem dX7_tightCount_23 : decode cX7_tightCount 23 = .ok (.iinc 1 1, 3) := by decide +kernel
theorem dX7_tightCount_26 : decode cX7_tightCount 26 = .ok (.iinc 2 1, 3) := by decide +kernel
theorem dX7_tightCount_29 : decode cX7_tightCount 29 = .ok (.goto (-25), 3) := by decide +kernel
theorem dX7_tightCount_32 : decode cX7_tightCount 32 = .ok (.iload_n 1, 1) := by decide +kernel
theorem dX7_tightCount_33 : decode cX7_tightCount 33 = .ok (.ireturn, 1) := by decide +kernel
theorem dX7_settledCount_0 : decode cX7_settledCount 0 = .ok (.iconst 0, 1) := by decide +kernel
theorem dX7_settledCount_1 : decode cX7_settledCount 1 = .ok (.istore_n 1, 1) := by decide +kernel
theorem dX7_settledCount_2 : decode cX7_settledCount 2 = .ok (.iconst 0, 1) := by decide +kernel
theorem dX7_settledCount_3 : decode cX7_settledCount 3 = .ok (.istore_n 2, 1) := by decide +kernel
theorem dX7_settledCount_4 : decode cX7_settledCount 4 = .ok (.iload_n 2, 1) := by decide +kernel
theorem dX7_settledCount_5 : decode cX7_settledCount 5 = .ok (.aload_n 0, 1) := by decide +kernel
theorem dX7_settledCount_6 : decode cX7_settledCount 6 = .ok (.getfield 12, 3) := by decide +kernel
theorem dX7_settledCount_9 : decode cX7_settledCount 9 = .ok (.getfield 90, 3) := by decide +kernel
theorem dX7_settledCount_12 : decode cX7_settledCount 12 = .ok (.if_icmp .ge 20, 3) := by decide +kernel
theorem dX7_settledCount_15 : decode cX7_settledCount 15 = .ok (.aload_n 0, 1) := by decide +kernel
theorem dX7_settledCount_16 : decode cX7_settledCount 16 = .ok (.iload_n 2, 1) := by decide +kernel
theorem dX7_settledCount_17 : decode cX7_settledCount 17 = .ok (.invokevirtual 142, 3) := by decide +kernel
theorem dX7_settledCount_20 : decode cX7_settledCount 20 = .ok (.ifCond .eq 6, 3) := by decide +kernel
theorem dX7_settledCount_23 : decode cX7_settledCount 23 = .ok (.iinc 1 1, 3) := by decide +kernel
theorem dX7_settledCount_26 : decode cX7_settledCount 26 = .ok (.iinc 2 1, 3) := by decide +kernel
theorem dX7_settledCount_29 : decode cX7_settledCount 29 = .ok (.goto (-25), 3) := by decide +kernel
theorem dX7_settledCount_32 : decode cX7_settledCount 32 = .ok (.iload_n 1, 1) := by decide +kernel
theorem dX7_settledCount_33 : decode cX7_settledCount 33 = .ok (.ireturn, 1) := by decide +kernel
theorem dX7_belowCount_0 : decode cX7_belowCount 0 = .ok (.iconst 0, 1) := by decide +kernel
theorem dX7_belowCount_1 : decode cX7_belowCount 1 = .ok (.istore_n 2, 1) := by decide +kernel
theorem dX7_belowCount_2 : decode cX7_belowCount 2 = .ok (.iconst 0, 1) := by decide +kernel
theorem dX7_belowCount_3 : decode cX7_belowCount 3 = .ok (.istore_n 3, 1) := by decide +kernel
theorem dX7_belowCount_4 : decode cX7_belowCount 4 = .ok (.iload_n 3, 1) := by decide +kernel
theorem dX7_belowCount_5 : decode cX7_belowCount 5 = .ok (.aload_n 0, 1) := by decide +kernel
theorem dX7_belowCount_6 : decode cX7_belowCount 6 = .ok (.getfield 12, 3) := by decide +kernel
theorem dX7_belowCount_9 : decode cX7_belowCount 9 = .ok (.getfield 90, 3) := by decide +kernel
theorem dX7_belowCount_12 : decode cX7_belowCount 12 = .ok (.if_icmp .ge 26, 3) := by decide +kernel
theorem dX7_belowCount_15 : decode cX7_belowCount 15 = .ok (.iload_n 3, 1) := by decide +kernel
theorem dX7_belowCount_16 : decode cX7_belowCount 16 = .ok (.iload_n 1, 1) := by decide +kernel
theorem dX7_belowCount_17 : decode cX7_belowCount 17 = .ok (.if_icmp .eq 15, 3) := by decide +kernel
theorem dX7_belowCount_20 : decode cX7_belowCount 20 = .ok (.aload_n 0, 1) := by decide +kernel
theorem dX7_belowCount_21 : decode cX7_belowCount 21 = .ok (.iload_n 3, 1) := by decide +kernel
theorem dX7_belowCount_22 : decode cX7_belowCount 22 = .ok (.iload_n 1, 1) := by decide +kernel
theorem dX7_belowCount_23 : decode cX7_belowCount 23 = .ok (.invokevirtual 145, 3) := by decide +kernel
theorem dX7_belowCount_26 : decode cX7_belowCount 26 = .ok (.ifCond .eq 6, 3) := by decide +kernel
theorem dX7_belowCount_29 : decode cX7_belowCount 29 = .ok (.iinc 2 1, 3) := by decide +kernel
theorem dX7_belowCount_32 : decode cX7_belowCount 32 = .ok (.iinc 3 1, 3) := by decide +kernel
theorem dX7_belowCount_35 : decode cX7_belowCount 35 = .ok (.goto (-31), 3) := by decide +kernel
theorem dX7_belowCount_38 : decode cX7_belowCount 38 = .ok (.iload_n 2, 1) := by decide +kernel
theorem dX7_belowCount_39 : decode cX7_belowCount 39 = .ok (.ireturn, 1) := by decide +kernel
theorem dX7_comesBy_0 : decode cX7_comesBy 0 = .ok (.iload_n 1, 1) := by decide +kernel
theorem dX7_comesBy_1 : decode cX7_comesBy 1 = .ok (.istore_n 3, 1) := by decide +kernel
theorem dX7_comesBy_2 : decode cX7_comesBy 2 = .ok (.iconst 0, 1) := by decide +kernel
theorem dX7_comesBy_3 : decode cX7_comesBy 3 = .ok (.istore 4, 2) := by decide +kernel
theorem dX7_comesBy_5 : decode cX7_comesBy 5 = .ok (.iload 4, 2) := by decide +kernel
theorem dX7_comesBy_7 : decode cX7_comesBy 7 = .ok (.bipush 12, 2) := by decide +kernel
theorem dX7_comesBy_9 : decode cX7_comesBy 9 = .ok (.if_icmp .ge 39, 3) := by decide +kernel
theorem dX7_comesBy_12 : decode cX7_comesBy 12 = .ok (.iload_n 3, 1) := by decide +kernel
theorem dX7_comesBy_13 : decode cX7_comesBy 13 = .ok (.iload_n 2, 1) := by decide +kernel
theorem dX7_comesBy_14 : decode cX7_comesBy 14 = .ok (.if_icmp .eq 34, 3) := by decide +kernel
theorem dX7_comesBy_17 : decode cX7_comesBy 17 = .ok (.aload_n 0, 1) := by decide +kernel
theorem dX7_comesBy_18 : decode cX7_comesBy 18 = .ok (.getfield 40, 3) := by decide +kernel
theorem dX7_comesBy_21 : decode cX7_comesBy 21 = .ok (.iload_n 3, 1) := by decide +kernel
theorem dX7_comesBy_22 : decode cX7_comesBy 22 = .ok (.iaload, 1) := by decide +kernel
theorem dX7_comesBy_23 : decode cX7_comesBy 23 = .ok (.iconst (-1), 1) := by decide +kernel
theorem dX7_comesBy_24 : decode cX7_comesBy 24 = .ok (.if_icmp .eq 24, 3) := by decide +kernel
theorem dX7_comesBy_27 : decode cX7_comesBy 27 = .ok (.aload_n 0, 1) := by decide +kernel
theorem dX7_comesBy_28 : decode cX7_comesBy 28 = .ok (.getfield 12, 3) := by decide +kernel
theorem dX7_comesBy_31 : decode cX7_comesBy 31 = .ok (.getfield 136, 3) := by decide +kernel
theorem dX7_comesBy_34 : decode cX7_comesBy 34 = .ok (.aload_n 0, 1) := by decide +kernel
theorem dX7_comesBy_35 : decode cX7_comesBy 35 = .ok (.getfield 40, 3) := by decide +kernel
theorem dX7_comesBy_38 : decode cX7_comesBy 38 = .ok (.iload_n 3, 1) := by decide +kernel
theorem dX7_comesBy_39 : decode cX7_comesBy 39 = .ok (.iaload, 1) := by decide +kernel
theorem dX7_comesBy_40 : decode cX7_comesBy 40 = .ok (.iaload, 1) := by decide +kernel
theorem dX7_comesBy_41 : decode cX7_comesBy 41 = .ok (.istore_n 3, 1) := by decide +kernel
theorem dX7_comesBy_42 : decode cX7_comesBy 42 = .ok (.iinc 4 1, 3) := by decide +kernel
theorem dX7_comesBy_45 : decode cX7_comesBy 45 = .ok (.goto (-40), 3) := by decide +kernel
theorem dX7_comesBy_48 : decode cX7_comesBy 48 = .ok (.iload_n 3, 1) := by decide +kernel
theorem dX7_comesBy_49 : decode cX7_comesBy 49 = .ok (.iload_n 2, 1) := by decide +kernel
theorem dX7_comesBy_50 : decode cX7_comesBy 50 = .ok (.if_icmp .ne 7, 3) := by decide +kernel
theorem dX7_comesBy_53 : decode cX7_comesBy 53 = .ok (.iconst 1, 1) := by decide +kernel
theorem dX7_comesBy_54 : decode cX7_comesBy 54 = .ok (.goto 4, 3) := by decide +kernel
theorem dX7_comesBy_57 : decode cX7_comesBy 57 = .ok (.iconst 0, 1) := by decide +kernel
theorem dX7_comesBy_58 : decode cX7_comesBy 58 = .ok (.ireturn, 1) := by decide +kernel
theorem dX8_init_0 : decode cX8_init 0 = .ok (.aload_n 0, 1) := by decide +kernel
theorem dX8_init_1 : decode cX8_init 1 = .ok (.invokespecial 3, 3) := by decide +kernel
theorem dX8_init_4 : decode cX8_init 4 = .ok (.aload_n 0, 1) := by decide +kernel
theorem dX8_init_5 : decode cX8_init 5 = .ok (.sipush 240, 3) := by decide +kernel
theorem dX8_init_8 : decode cX8_init 8 = .ok (.newarray .int, 2) := by decide +kernel
theorem dX8_init_10 : decode cX8_init 10 = .ok (.putfield 9, 3) := by decide +kernel
theorem dX8_init_13 : decode cX8_init 13 = .ok (.return_, 1) := by decide +kernel
theorem dX8_addInt_0 : decode cX8_addInt 0 = .ok (.bipush 24, 2) := by decide +kernel
theorem dX8_addInt_2 : decode cX8_addInt 2 = .ok (.istore_n 2, 1) := by decide +kernel
theorem dX8_addInt_3 : decode cX8_addInt 3 = .ok (.iload_n 2, 1) := by decide +kernel
theorem dX8_addInt_4 : decode cX8_addInt 4 = .ok (.ifCond .lt 45, 3) := by decide +kernel
theorem dX8_addInt_7 : decode cX8_addInt 7 = .ok (.aload_n 0, 1) := by decide +kernel
theorem dX8_addInt_8 : decode cX8_addInt 8 = .ok (.getfield 15, 3) := by decide +kernel
theorem dX8_addInt_11 : decode cX8_addInt 11 = .ok (.sipush 240, 3) := by decide +kernel
theorem dX8_addInt_14 : decode cX8_addInt 14 = .ok (.if_icmp .ge 35, 3) := by decide +kernel
theorem dX8_addInt_17 : decode cX8_addInt 17 = .ok (.aload_n 0, 1) := by decide +kernel
theorem dX8_addInt_18 : decode cX8_addInt 18 = .ok (.getfield 9, 3) := by decide +kernel
theorem dX8_addInt_21 : decode cX8_addInt 21 = .ok (.aload_n 0, 1) := by decide +kernel
theorem dX8_addInt_22 : decode cX8_addInt 22 = .ok (.getfield 15, 3) := by decide +kernel
theorem dX8_addInt_25 : decode cX8_addInt 25 = .ok (.iload_n 1, 1) := by decide +kernel
theorem dX8_addInt_26 : decode cX8_addInt 26 = .ok (.iload_n 2, 1) := by decide +kernel
theorem dX8_addInt_27 : decode cX8_addInt 27 = .ok (.ishr, 1) := by decide +kernel
theorem dX8_addInt_28 : decode cX8_addInt 28 = .ok (.sipush 255, 3) := by decide +kernel
theorem dX8_addInt_31 : decode cX8_addInt 31 = .ok (.iand, 1) := by decide +kernel
theorem dX8_addInt_32 : decode cX8_addInt 32 = .ok (.iastore, 1) := by decide +kernel
theorem dX8_addInt_33 : decode cX8_addInt 33 = .ok (.aload_n 0, 1) := by decide +kernel
theorem dX8_addInt_34 : decode cX8_addInt 34 = .ok (.dup, 1) := by decide +kernel
theorem dX8_addInt_35 : decode cX8_addInt 35 = .ok (.getfield 15, 3) := by decide +kernel
theorem dX8_addInt_38 : decode cX8_addInt 38 = .ok (.iconst 1, 1) := by decide +kernel
theorem dX8_addInt_39 : decode cX8_addInt 39 = .ok (.iadd, 1) := by decide +kernel
theorem dX8_addInt_40 : decode cX8_addInt 40 = .ok (.putfield 15, 3) := by decide +kernel
theorem dX8_addInt_43 : decode cX8_addInt 43 = .ok (.iinc 2 (-8), 3) := by decide +kernel
theorem dX8_addInt_46 : decode cX8_addInt 46 = .ok (.goto (-43), 3) := by decide +kernel
theorem dX8_addInt_49 : decode cX8_addInt 49 = .ok (.return_, 1) := by decide +kernel
theorem dX8_canGive_0 : decode cX8_canGive 0 = .ok (.iload_n 1, 1) := by decide +kernel
theorem dX8_canGive_1 : decode cX8_canGive 1 = .ok (.iload_n 2, 1) := by decide +kernel
theorem dX8_canGive_2 : decode cX8_canGive 2 = .ok (.if_icmp .lt 20, 3) := by decide +kernel
theorem dX8_canGive_5 : decode cX8_canGive 5 = .ok (.iload_n 1, 1) := by decide +kernel
theorem dX8_canGive_6 : decode cX8_canGive 6 = .ok (.iload_n 3, 1) := by decide +kernel
theorem dX8_canGive_7 : decode cX8_canGive 7 = .ok (.if_icmp .gt 15, 3) := by decide +kernel
theorem dX8_canGive_10 : decode cX8_canGive 10 = .ok (.iload_n 1, 1) := by decide +kernel
theorem dX8_canGive_11 : decode cX8_canGive 11 = .ok (.aload_n 0, 1) := by decide +kernel
theorem dX8_canGive_12 : decode cX8_canGive 12 = .ok (.getfield 15, 3) := by decide +kernel
theorem dX8_canGive_15 : decode cX8_canGive 15 = .ok (.if_icmp .gt 7, 3) := by decide +kernel
theorem dX8_canGive_18 : decode cX8_canGive 18 = .ok (.iconst 1, 1) := by decide +kernel
theorem dX8_canGive_19 : decode cX8_canGive 19 = .ok (.goto 4, 3) := by decide +kernel
theorem dX8_canGive_22 : decode cX8_canGive 22 = .ok (.iconst 0, 1) := by decide +kernel
theorem dX8_canGive_23 : decode cX8_canGive 23 = .ok (.ireturn, 1) := by decide +kernel
theorem dX9_init_0 : decode cX9_init 0 = .ok (.aload_n 0, 1) := by decide +kernel
theorem dX9_init_1 : decode cX9_init 1 = .ok (.invokespecial 1, 3) := by decide +kernel
theorem dX9_init_4 : decode cX9_init 4 = .ok (.aload_n 0, 1) := by decide +kernel
theorem dX9_init_5 : decode cX9_init 5 = .ok (.new 7, 3) := by decide +kernel
theorem dX9_init_8 : decode cX9_init 8 = .ok (.dup, 1) := by decide +kernel
theorem dX9_init_9 : decode cX9_init 9 = .ok (.invokespecial 9, 3) := by decide +kernel
theorem dX9_init_12 : decode cX9_init 12 = .ok (.putfield 10, 3) := by decide +kernel
theorem dX9_init_15 : decode cX9_init 15 = .ok (.aload_n 0, 1) := by decide +kernel
theorem dX9_init_16 : decode cX9_init 16 = .ok (.new 7, 3) := by decide +kernel
theorem dX9_init_19 : decode cX9_init 19 = .ok (.dup, 1) := by decide +kernel
theorem dX9_init_20 : decode cX9_init 20 = .ok (.invokespecial 9, 3) := by decide +kernel
theorem dX9_init_23 : decode cX9_init 23 = .ok (.putfield 16, 3) := by decide +kernel
theorem dX9_init_26 : decode cX9_init 26 = .ok (.aload_n 0, 1) := by decide +kernel
theorem dX9_init_27 : decode cX9_init 27 = .ok (.new 19, 3) := by decide +kernel
theorem dX9_init_30 : decode cX9_init 30 = .ok (.dup, 1) := by decide +kernel
theorem dX9_init_31 : decode cX9_init 31 = .ok (.invokespecial 21, 3) := by decide +kernel
theorem dX9_init_34 : decode cX9_init 34 = .ok (.putfield 22, 3) := by decide +kernel
theorem dX9_init_37 : decode cX9_init 37 = .ok (.aload_n 0, 1) := by decide +kernel
theorem dX9_init_38 : decode cX9_init 38 = .ok (.new 26, 3) := by decide +kernel
theorem dX9_init_41 : decode cX9_init 41 = .ok (.dup, 1) := by decide +kernel
theorem dX9_init_42 : decode cX9_init 42 = .ok (.invokespecial 28, 3) := by decide +kernel
theorem dX9_init_45 : decode cX9_init 45 = .ok (.putfield 29, 3) := by decide +kernel
theorem dX9_init_48 : decode cX9_init 48 = .ok (.aload_n 0, 1) := by decide +kernel
theorem dX9_init_49 : decode cX9_init 49 = .ok (.new 33, 3) := by decide +kernel
theorem dX9_init_52 : decode cX9_init 52 = .ok (.dup, 1) := by decide +kernel
theorem dX9_init_53 : decode cX9_init 53 = .ok (.invokespecial 35, 3) := by decide +kernel
theorem dX9_init_56 : decode cX9_init 56 = .ok (.putfield 36, 3) := by decide +kernel
theorem dX9_init_59 : decode cX9_init 59 = .ok (.aload_n 0, 1) := by decide +kernel
theorem dX9_init_60 : decode cX9_init 60 = .ok (.new 40, 3) := by decide +kernel
theorem dX9_init_63 : decode cX9_init 63 = .ok (.dup, 1) := by decide +kernel
theorem dX9_init_64 : decode cX9_init 64 = .ok (.invokespecial 42, 3) := by decide +kernel
theorem dX9_init_67 : decode cX9_init 67 = .ok (.putfield 43, 3) := by decide +kernel
theorem dX9_init_70 : decode cX9_init 70 = .ok (.aload_n 0, 1) := by decide +kernel
theorem dX9_init_71 : decode cX9_init 71 = .ok (.new 47, 3) := by decide +kernel
theorem dX9_init_74 : decode cX9_init 74 = .ok (.dup, 1) := by decide +kernel
theorem dX9_init_75 : decode cX9_init 75 = .ok (.aload_n 0, 1) := by decide +kernel
theorem dX9_init_76 : decode cX9_init 76 = .ok (.getfield 10, 3) := by decide +kernel
theorem dX9_init_79 : decode cX9_init 79 = .ok (.invokespecial 49, 3) := by decide +kernel
theorem dX9_init_82 : decode cX9_init 82 = .ok (.putfield 52, 3) := by decide +kernel
theorem dX9_init_85 : decode cX9_init 85 = .ok (.aload_n 0, 1) := by decide +kernel
theorem dX9_init_86 : decode cX9_init 86 = .ok (.new 56, 3) := by decide +kernel
theorem dX9_init_89 : decode cX9_init 89 = .ok (.dup, 1) := by decide +kernel
theorem dX9_init_90 : decode cX9_init 90 = .ok (.aload_n 0, 1) := by decide +kernel
theorem dX9_init_91 : decode cX9_init 91 = .ok (.getfield 36, 3) := by decide +kernel
theorem dX9_init_94 : decode cX9_init 94 = .ok (.invokespecial 58, 3) := by decide +kernel
theorem dX9_init_97 : decode cX9_init 97 = .ok (.putfield 61, 3) := by decide +kernel
theorem dX9_init_100 : decode cX9_init 100 = .ok (.aload_n 0, 1) := by decide +kernel
theorem dX9_init_101 : decode cX9_init 101 = .ok (.iconst 3, 1) := by decide +kernel
theorem dX9_init_102 : decode cX9_init 102 = .ok (.newarray .long, 2) := by decide +kernel
theorem dX9_init_104 : decode cX9_init 104 = .ok (.putfield 65, 3) := by decide +kernel
theorem dX9_init_107 : decode cX9_init 107 = .ok (.aload_n 0, 1) := by decide +kernel
theorem dX9_init_108 : decode cX9_init 108 = .ok (.new 69, 3) := by decide +kernel
theorem dX9_init_111 : decode cX9_init 111 = .ok (.dup, 1) := by decide +kernel
theorem dX9_init_112 : decode cX9_init 112 = .ok (.invokespecial 71, 3) := by decide +kernel
theorem dX9_init_115 : decode cX9_init 115 = .ok (.putfield 72, 3) := by decide +kernel
theorem dX9_init_118 : decode cX9_init 118 = .ok (.aload_n 0, 1) := by decide +kernel
theorem dX9_init_119 : decode cX9_init 119 = .ok (.bipush 12, 2) := by decide +kernel
theorem dX9_init_121 : decode cX9_init 121 = .ok (.newarray .long, 2) := by decide +kernel
theorem dX9_init_123 : decode cX9_init 123 = .ok (.putfield 76, 3) := by decide +kernel
theorem dX9_init_126 : decode cX9_init 126 = .ok (.return_, 1) := by decide +kernel
theorem dX9_feed_0 : decode cX9_feed 0 = .ok (.aload_n 0, 1) := by decide +kernel
theorem dX9_feed_1 : decode cX9_feed 1 = .ok (.getfield 22, 3) := by decide +kernel
theorem dX9_feed_4 : decode cX9_feed 4 = .ok (.getfield 79, 3) := by decide +kernel
theorem dX9_feed_7 : decode cX9_feed 7 = .ok (.bipush 20, 2) := by decide +kernel
theorem dX9_feed_9 : decode cX9_feed 9 = .ok (.iadd, 1) := by decide +kernel
theorem dX9_feed_10 : decode cX9_feed 10 = .ok (.sipush 240, 3) := by decide +kernel
theorem dX9_feed_13 : decode cX9_feed 13 = .ok (.if_icmp .le 5, 3) := by decide +kernel
theorem dX9_feed_16 : decode cX9_feed 16 = .ok (.iconst (-1), 1) := by decide +kernel
theorem dX9_feed_17 : decode cX9_feed 17 = .ok (.ireturn, 1) := by decide +kernel
theorem dX9_feed_18 : decode cX9_feed 18 = .ok (.aload_n 0, 1) := by decide +kernel
theorem dX9_feed_19 : decode cX9_feed 19 = .ok (.getfield 22, 3) := by decide +kernel
theorem dX9_feed_22 : decode cX9_feed 22 = .ok (.iload_n 1, 1) := by decide +kernel
theorem dX9_feed_23 : decode cX9_feed 23 = .ok (.invokevirtual 83, 3) := by decide +kernel
theorem dX9_feed_26 : decode cX9_feed 26 = .ok (.aload_n 0, 1) := by decide +kernel
theorem dX9_feed_27 : decode cX9_feed 27 = .ok (.getfield 22, 3) := by decide +kernel
theorem dX9_feed_30 : decode cX9_feed 30 = .ok (.iload_n 2, 1) := by decide +kernel
theorem dX9_feed_31 : decode cX9_feed 31 = .ok (.invokevirtual 83, 3) := by decide +kernel
theorem dX9_feed_34 : decode cX9_feed 34 = .ok (.aload_n 0, 1) := by decide +kernel
theorem dX9_feed_35 : decode cX9_feed 35 = .ok (.getfield 22, 3) := by decide +kernel
theorem dX9_feed_38 : decode cX9_feed 38 = .ok (.iload_n 3, 1) := by decide +kernel
theorem dX9_feed_39 : decode cX9_feed 39 = .ok (.invokevirtual 83, 3) := by decide +kernel
theorem dX9_feed_42 : decode cX9_feed 42 = .ok (.aload_n 0, 1) := by decide +kernel
theorem dX9_feed_43 : decode cX9_feed 43 = .ok (.getfield 22, 3) := by decide +kernel
theorem dX9_feed_46 : decode cX9_feed 46 = .ok (.iload 4, 2) := by decide +kernel
theorem dX9_feed_48 : decode cX9_feed 48 = .ok (.invokevirtual 83, 3) := by decide +kernel
theorem dX9_feed_51 : decode cX9_feed 51 = .ok (.aload_n 0, 1) := by decide +kernel
theorem dX9_feed_52 : decode cX9_feed 52 = .ok (.getfield 22, 3) := by decide +kernel
theorem dX9_feed_55 : decode cX9_feed 55 = .ok (.iload 5, 2) := by decide +kernel
theorem dX9_feed_57 : decode cX9_feed 57 = .ok (.invokevirtual 83, 3) := by decide +kernel
theorem dX9_feed_60 : decode cX9_feed 60 = .ok (.aload_n 0, 1) := by decide +kernel
theorem dX9_feed_61 : decode cX9_feed 61 = .ok (.getfield 22, 3) := by decide +kernel
theorem dX9_feed_64 : decode cX9_feed 64 = .ok (.getfield 79, 3) := by decide +kernel
theorem dX9_feed_67 : decode cX9_feed 67 = .ok (.ireturn, 1) := by decide +kernel
theorem dX9_net_0 : decode cX9_net 0 = .ok (.aload_n 0, 1) := by decide +kernel
theorem dX9_net_1 : decode cX9_net 1 = .ok (.getfield 22, 3) := by decide +kernel
theorem dX9_net_4 : decode cX9_net 4 = .ok (.iload_n 1, 1) := by decide +kernel
theorem dX9_net_5 : decode cX9_net 5 = .ok (.iconst 1, 1) := by decide +kernel
theorem dX9_net_6 : decode cX9_net 6 = .ok (.sipush 200, 3) := by decide +kernel
theorem dX9_net_9 : decode cX9_net 9 = .ok (.invokevirtual 87, 3) := by decide +kernel
theorem dX9_net_12 : decode cX9_net 12 = .ok (.ifCond .ne 5, 3) := by decide +kernel
theorem dX9_net_15 : decode cX9_net 15 = .ok (.iconst (-1), 1) := by decide +kernel
theorem dX9_net_16 : decode cX9_net 16 = .ok (.ireturn, 1) := by decide +kernel
theorem dX9_net_17 : decode cX9_net 17 = .ok (.aload_n 0, 1) := by decide +kernel
theorem dX9_net_18 : decode cX9_net 18 = .ok (.getfield 29, 3) := by decide +kernel
theorem dX9_net_21 : decode cX9_net 21 = .ok (.aload_n 0, 1) := by decide +kernel
theorem dX9_net_22 : decode cX9_net 22 = .ok (.getfield 22, 3) := by decide +kernel
theorem dX9_net_25 : decode cX9_net 25 = .ok (.getfield 91, 3) := by decide +kernel
theorem dX9_net_28 : decode cX9_net 28 = .ok (.iload_n 1, 1) := by decide +kernel
theorem dX9_net_29 : decode cX9_net 29 = .ok (.iconst 1, 1) := by decide +kernel
theorem dX9_net_30 : decode cX9_net 30 = .ok (.iconst 2, 1) := by decide +kernel
theorem dX9_net_31 : decode cX9_net 31 = .ok (.invokevirtual 95, 3) := by decide +kernel
theorem dX9_net_34 : decode cX9_net 34 = .ok (.istore_n 2, 1) := by decide +kernel
theorem dX9_net_35 : decode cX9_net 35 = .ok (.aload_n 0, 1) := by decide +kernel
theorem dX9_net_36 : decode cX9_net 36 = .ok (.getfield 22, 3) := by decide +kernel
theorem dX9_net_39 : decode cX9_net 39 = .ok (.iconst 0, 1) := by decide +kernel
theorem dX9_net_40 : decode cX9_net 40 = .ok (.putfield 79, 3) := by decide +kernel
theorem dX9_net_43 : decode cX9_net 43 = .ok (.iload_n 2, 1) := by decide +kernel
theorem dX9_net_44 : decode cX9_net 44 = .ok (.ifCond .eq 7, 3) := by decide +kernel
theorem dX9_net_47 : decode cX9_net 47 = .ok (.iload_n 2, 1) := by decide +kernel
theorem dX9_net_48 : decode cX9_net 48 = .ok (.goto 7, 3) := by decide +kernel
theorem dX9_net_51 : decode cX9_net 51 = .ok (.aload_n 0, 1) := by decide +kernel
theorem dX9_net_52 : decode cX9_net 52 = .ok (.invokevirtual 99, 3) := by decide +kernel
theorem dX9_net_55 : decode cX9_net 55 = .ok (.ireturn, 1) := by decide +kernel
theorem dX9_buildNet_0 : decode cX9_buildNet 0 = .ok (.aload_n 0, 1) := by decide +kernel
theorem dX9_buildNet_1 : decode cX9_buildNet 1 = .ok (.getfield 72, 3) := by decide +kernel
theorem dX9_buildNet_4 : decode cX9_buildNet 4 = .ok (.aload_n 0, 1) := by decide +kernel
theorem dX9_buildNet_5 : decode cX9_buildNet 5 = .ok (.getfield 29, 3) := by decide +kernel
theorem dX9_buildNet_8 : decode cX9_buildNet 8 = .ok (.getfield 103, 3) := by decide +kernel
theorem dX9_buildNet_11 : decode cX9_buildNet 11 = .ok (.invokevirtual 106, 3) := by decide +kernel
theorem dX9_buildNet_14 : decode cX9_buildNet 14 = .ok (.iconst 0, 1) := by decide +kernel
theorem dX9_buildNet_15 : decode cX9_buildNet 15 = .ok (.istore_n 1, 1) := by decide +kernel
theorem dX9_buildNet_16 : decode cX9_buildNet 16 = .ok (.iload_n 1, 1) := by decide +kernel
theorem dX9_buildNet_17 : decode cX9_buildNet 17 = .ok (.aload_n 0, 1) := by decide +kernel
theorem dX9_buildNet_18 : decode cX9_buildNet 18 = .ok (.getfield 29, 3) := by decide +kernel
theorem dX9_buildNet_21 : decode cX9_buildNet 21 = .ok (.getfield 109, 3) := by decide +kernel
theorem dX9_buildNet_24 : decode cX9_buildNet 24 = .ok (.if_icmp .ge 85, 3) := by decide +kernel
theorem dX9_buildNet_27 : decode cX9_buildNet 27 = .ok (.aload_n 0, 1) := by decide +kernel
theorem dX9_buildNet_28 : decode cX9_buildNet 28 = .ok (.getfield 29, 3) := by decide +kernel
theorem dX9_buildNet_31 : decode cX9_buildNet 31 = .ok (.getfield 112, 3) := by decide +kernel
theorem dX9_buildNet_34 : decode cX9_buildNet 34 = .ok (.iload_n 1, 1) := by decide +kernel
theorem dX9_buildNet_35 : decode cX9_buildNet 35 = .ok (.iaload, 1) := by decide +kernel
theorem dX9_buildNet_36 : decode cX9_buildNet 36 = .ok (.iconst 1, 1) := by decide +kernel
theorem dX9_buildNet_37 : decode cX9_buildNet 37 = .ok (.if_icmp .eq 6, 3) := by decide +kernel
theorem dX9_buildNet_40 : decode cX9_buildNet 40 = .ok (.goto 63, 3) := by decide +kernel
theorem dX9_buildNet_43 : decode cX9_buildNet 43 = .ok (.aload_n 0, 1) := by decide +kernel
theorem dX9_buildNet_44 : decode cX9_buildNet 44 = .ok (.getfield 72, 3) := by decide +kernel
theorem dX9_buildNet_47 : decode cX9_buildNet 47 = .ok (.aload_n 0, 1) := by decide +kernel
theorem dX9_buildNet_48 : decode cX9_buildNet 48 = .ok (.getfield 29, 3) := by decide +kernel
theorem dX9_buildNet_51 : decode cX9_buildNet 51 = .ok (.iload_n 1, 1) := by decide +kernel
theorem dX9_buildNet_52 : decode cX9_buildNet 52 = .ok (.iconst 0, 1) := by decide +kernel
theorem dX9_buildNet_53 : decode cX9_buildNet 53 = .ok (.invokevirtual 115, 3) := by decide +kernel
theorem dX9_buildNet_56 : decode cX9_buildNet 56 = .ok (.aload_n 0, 1) := by decide +kernel
theorem dX9_buildNet_57 : decode cX9_buildNet 57 = .ok (.getfield 29, 3) := by decide +kernel
theorem dX9_buildNet_60 : decode cX9_buildNet 60 = .ok (.iload_n 1, 1) := by decide +kernel
theorem dX9_buildNet_61 : decode cX9_buildNet 61 = .ok (.iconst 1, 1) := by decide +kernel
theorem dX9_buildNet_62 : decode cX9_buildNet 62 = .ok (.invokevirtual 115, 3) := by decide +kernel
theorem dX9_buildNet_65 : decode cX9_buildNet 65 = .ok (.aload_n 0, 1) := by decide +kernel
theorem dX9_buildNet_66 : decode cX9_buildNet 66 = .ok (.getfield 29, 3) := by decide +kernel
theorem dX9_buildNet_69 : decode cX9_buildNet 69 = .ok (.iload_n 1, 1) := by decide +kernel
theorem dX9_buildNet_70 : decode cX9_buildNet 70 = .ok (.iconst 2, 1) := by decide +kernel
theorem dX9_buildNet_71 : decode cX9_buildNet 71 = .ok (.invokevirtual 115, 3) := by decide +kernel
theorem dX9_buildNet_74 : decode cX9_buildNet 74 = .ok (.invokevirtual 119, 3) := by decide +kernel
theorem dX9_buildNet_77 : decode cX9_buildNet 77 = .ok (.istore_n 2, 1) := by decide +kernel
theorem dX9_buildNet_78 : decode cX9_buildNet 78 = .ok (.iload_n 2, 1) := by decide +kernel
theorem dX9_buildNet_79 : decode cX9_buildNet 79 = .ok (.ifCond .lt 24, 3) := by decide +kernel
theorem dX9_buildNet_82 : decode cX9_buildNet 82 = .ok (.aload_n 0, 1) := by decide +kernel
theorem dX9_buildNet_83 : decode cX9_buildNet 83 = .ok (.getfield 72, 3) := by decide +kernel
theorem dX9_buildNet_86 : decode cX9_buildNet 86 = .ok (.iload_n 2, 1) := by decide +kernel
theorem dX9_buildNet_87 : decode cX9_buildNet 87 = .ok (.aload_n 0, 1) := by decide +kernel
theorem dX9_buildNet_88 : decode cX9_buildNet 88 = .ok (.getfield 43, 3) := by decide +kernel
theorem dX9_buildNet_91 : decode cX9_buildNet 91 = .ok (.getfield 123, 3) := by decide +kernel
theorem dX9_buildNet_94 : decode cX9_buildNet 94 = .ok (.invokevirtual 126, 3) := by decide +kernel
theorem dX9_buildNet_97 : decode cX9_buildNet 97 = .ok (.ifCond .eq 6, 3) := by decide +kernel
theorem dX9_buildNet_100 : decode cX9_buildNet 100 = .ok (.bipush (-3), 2) := by decide +kernel
theorem dX9_buildNet_102 : decode cX9_buildNet 102 = .ok (.ireturn, 1) := by decide +kernel
theorem dX9_buildNet_103 : decode cX9_buildNet 103 = .ok (.iinc 1 1, 3) := by decide +kernel
theorem dX9_buildNet_106 : decode cX9_buildNet 106 = .ok (.goto (-90), 3) := by decide +kernel
theorem dX9_buildNet_109 : decode cX9_buildNet 109 = .ok (.aload_n 0, 1) := by decide +kernel
theorem dX9_buildNet_110 : decode cX9_buildNet 110 = .ok (.getfield 72, 3) := by decide +kernel
theorem dX9_buildNet_113 : decode cX9_buildNet 113 = .ok (.iconst 0, 1) := by decide +kernel
theorem dX9_buildNet_114 : decode cX9_buildNet 114 = .ok (.iconst (-1), 1) := by decide +kernel
theorem dX9_buildNet_115 : decode cX9_buildNet 115 = .ok (.aload_n 0, 1) := by decide +kernel
theorem dX9_buildNet_116 : decode cX9_buildNet 116 = .ok (.getfield 76, 3) := by decide +kernel
theorem dX9_buildNet_119 : decode cX9_buildNet 119 = .ok (.invokevirtual 130, 3) := by decide +kernel
theorem dX9_buildNet_122 : decode cX9_buildNet 122 = .ok (.aload_n 0, 1) := by decide +kernel
theorem dX9_buildNet_123 : decode cX9_buildNet 123 = .ok (.getfield 72, 3) := by decide +kernel
theorem dX9_buildNet_126 : decode cX9_buildNet 126 = .ok (.aload_n 0, 1) := by decide +kernel
theorem dX9_buildNet_127 : decode cX9_buildNet 127 = .ok (.getfield 76, 3) := by decide +kernel
theorem dX9_buildNet_130 : decode cX9_buildNet 130 = .ok (.invokevirtual 134, 3) := by decide +kernel
theorem dX9_buildNet_133 : decode cX9_buildNet 133 = .ok (.ifCond .ne 6, 3) := by decide +kernel
theorem dX9_buildNet_136 : decode cX9_buildNet 136 = .ok (.bipush (-4), 2) := by decide +kernel
theorem dX9_buildNet_138 : decode cX9_buildNet 138 = .ok (.ireturn, 1) := by decide +kernel
theorem dX9_buildNet_139 : decode cX9_buildNet 139 = .ok (.aload_n 0, 1) := by decide +kernel
theorem dX9_buildNet_140 : decode cX9_buildNet 140 = .ok (.getfield 10, 3) := by decide +kernel
theorem dX9_buildNet_143 : decode cX9_buildNet 143 = .ok (.aload_n 0, 1) := by decide +kernel
theorem dX9_buildNet_144 : decode cX9_buildNet 144 = .ok (.getfield 72, 3) := by decide +kernel
theorem dX9_buildNet_147 : decode cX9_buildNet 147 = .ok (.aload_n 0, 1) := by decide +kernel
theorem dX9_buildNet_148 : decode cX9_buildNet 148 = .ok (.getfield 76, 3) := by decide +kernel
theorem dX9_buildNet_151 : decode cX9_buildNet 151 = .ok (.invokevirtual 138, 3) := by decide +kernel
theorem dX9_buildNet_154 : decode cX9_buildNet 154 = .ok (.aload_n 0, 1) := by decide +kernel
theorem dX9_buildNet_155 : decode cX9_buildNet 155 = .ok (.iconst 0, 1) := by decide +kernel
theorem dX9_buildNet_156 : decode cX9_buildNet 156 = .ok (.putfield 141, 3) := by decide +kernel
theorem dX9_buildNet_159 : decode cX9_buildNet 159 = .ok (.aload_n 0, 1) := by decide +kernel
theorem dX9_buildNet_160 : decode cX9_buildNet 160 = .ok (.getfield 36, 3) := by decide +kernel
theorem dX9_buildNet_163 : decode cX9_buildNet 163 = .ok (.iconst 0, 1) := by decide +kernel
theorem dX9_buildNet_164 : decode cX9_buildNet 164 = .ok (.putfield 145, 3) := by decide +kernel
theorem dX9_buildNet_167 : decode cX9_buildNet 167 = .ok (.aload_n 0, 1) := by decide +kernel
theorem dX9_buildNet_168 : decode cX9_buildNet 168 = .ok (.getfield 29, 3) := by decide +kernel
theorem dX9_buildNet_171 : decode cX9_buildNet 171 = .ok (.getfield 109, 3) := by decide +kernel
theorem dX9_buildNet_174 : decode cX9_buildNet 174 = .ok (.ireturn, 1) := by decide +kernel
theorem dX9_orders_0 : decode cX9_orders 0 = .ok (.aload_n 0, 1) := by decide +kernel
theorem dX9_orders_1 : decode cX9_orders 1 = .ok (.getfield 22, 3) := by decide +kernel
theorem dX9_orders_4 : decode cX9_orders 4 = .ok (.iload_n 1, 1) := by decide +kernel
theorem dX9_orders_5 : decode cX9_orders 5 = .ok (.iconst 1, 1) := by decide +kernel
theorem dX9_orders_6 : decode cX9_orders 6 = .ok (.sipush 200, 3) := by decide +kernel
theorem dX9_orders_9 : decode cX9_orders 9 = .ok (.invokevirtual 87, 3) := by decide +kernel
theorem dX9_orders_12 : decode cX9_orders 12 = .ok (.ifCond .ne 5, 3) := by decide +kernel
theorem dX9_orders_15 : decode cX9_orders 15 = .ok (.iconst (-1), 1) := by decide +kernel
theorem dX9_orders_16 : decode cX9_orders 16 = .ok (.ireturn, 1) := by decide +kernel
theorem dX9_orders_17 : decode cX9_orders 17 = .ok (.aload_n 0, 1) := by decide +kernel
theorem dX9_orders_18 : decode cX9_orders 18 = .ok (.getfield 29, 3) := by decide +kernel
theorem dX9_orders_21 : decode cX9_orders 21 = .ok (.aload_n 0, 1) := by decide +kernel
theorem dX9_orders_22 : decode cX9_orders 22 = .ok (.getfield 22, 3) := by decide +kernel
theorem dX9_orders_25 : decode cX9_orders 25 = .ok (.getfield 91, 3) := by decide +kernel
theorem dX9_orders_28 : decode cX9_orders 28 = .ok (.iload_n 1, 1) := by decide +kernel
theorem dX9_orders_29 : decode cX9_orders 29 = .ok (.iconst 0, 1) := by decide +kernel
theorem dX9_orders_30 : decode cX9_orders 30 = .ok (.aload_n 0, 1) := by decide +kernel
theorem dX9_orders_31 : decode cX9_orders 31 = .ok (.getfield 10, 3) := by decide +kernel
theorem dX9_orders_34 : decode cX9_orders 34 = .ok (.getfield 148, 3) := by decide +kernel
theorem dX9_orders_37 : decode cX9_orders 37 = .ok (.getfield 151, 3) := by decide +kernel
theorem dX9_orders_40 : decode cX9_orders 40 = .ok (.invokevirtual 95, 3) := by decide +kernel
theorem dX9_orders_43 : decode cX9_orders 43 = .ok (.istore_n 2, 1) := by decide +kernel
theorem dX9_orders_44 : decode cX9_orders 44 = .ok (.aload_n 0, 1) := by decide +kernel
theorem dX9_orders_45 : decode cX9_orders 45 = .ok (.getfield 22, 3) := by decide +kernel
theorem dX9_orders_48 : decode cX9_orders 48 = .ok (.iconst 0, 1) := by decide +kernel
theorem dX9_orders_49 : decode cX9_orders 49 = .ok (.putfield 79, 3) := by decide +kernel
theorem dX9_orders_52 : decode cX9_orders 52 = .ok (.iload_n 2, 1) := by decide +kernel
theorem dX9_orders_53 : decode cX9_orders 53 = .ok (.ifCond .eq 5, 3) := by decide +kernel
theorem dX9_orders_56 : decode cX9_orders 56 = .ok (.iload_n 2, 1) := by decide +kernel
theorem dX9_orders_57 : decode cX9_orders 57 = .ok (.ireturn, 1) := by decide +kernel
theorem dX9_orders_58 : decode cX9_orders 58 = .ok (.iconst 0, 1) := by decide +kernel
theorem dX9_orders_59 : decode cX9_orders 59 = .ok (.istore_n 3, 1) := by decide +kernel
theorem dX9_orders_60 : decode cX9_orders 60 = .ok (.iload_n 3, 1) := by decide +kernel
theorem dX9_orders_61 : decode cX9_orders 61 = .ok (.aload_n 0, 1) := by decide +kernel
theorem dX9_orders_62 : decode cX9_orders 62 = .ok (.getfield 29, 3) := by decide +kernel
theorem dX9_orders_65 : decode cX9_orders 65 = .ok (.getfield 109, 3) := by decide +kernel
theorem dX9_orders_68 : decode cX9_orders 68 = .ok (.if_icmp .ge 17, 3) := by decide +kernel
theorem dX9_orders_71 : decode cX9_orders 71 = .ok (.aload_n 0, 1) := by decide +kernel
theorem dX9_orders_72 : decode cX9_orders 72 = .ok (.iload_n 3, 1) := by decide +kernel
theorem dX9_orders_73 : decode cX9_orders 73 = .ok (.invokevirtual 152, 3) := by decide +kernel
theorem dX9_orders_76 : decode cX9_orders 76 = .ok (.ifCond .eq 9, 3) := by decide +kernel
theorem dX9_orders_79 : decode cX9_orders 79 = .ok (.iinc 3 1, 3) := by decide +kernel
theorem dX9_orders_82 : decode cX9_orders 82 = .ok (.goto (-22), 3) := by decide +kernel
theorem dX9_orders_85 : decode cX9_orders 85 = .ok (.iload_n 3, 1) := by decide +kernel
theorem dX9_orders_86 : decode cX9_orders 86 = .ok (.ireturn, 1) := by decide +kernel
theorem dX9_doOrder_0 : decode cX9_doOrder 0 = .ok (.aload_n 0, 1) := by decide +kernel
theorem dX9_doOrder_1 : decode cX9_doOrder 1 = .ok (.getfield 29, 3) := by decide +kernel
theorem dX9_doOrder_4 : decode cX9_doOrder 4 = .ok (.iload_n 1, 1) := by decide +kernel
theorem dX9_doOrder_5 : decode cX9_doOrder 5 = .ok (.iconst 0, 1) := by decide +kernel
theorem dX9_doOrder_6 : decode cX9_doOrder 6 = .ok (.invokevirtual 115, 3) := by decide +kernel
theorem dX9_doOrder_9 : decode cX9_doOrder 9 = .ok (.istore_n 2, 1) := by decide +kernel
theorem dX9_doOrder_10 : decode cX9_doOrder 10 = .ok (.aload_n 0, 1) := by decide +kernel
theorem dX9_doOrder_11 : decode cX9_doOrder 11 = .ok (.getfield 29, 3) := by decide +kernel
theorem dX9_doOrder_14 : decode cX9_doOrder 14 = .ok (.iload_n 1, 1) := by decide +kernel
theorem dX9_doOrder_15 : decode cX9_doOrder 15 = .ok (.iconst 1, 1) := by decide +kernel
theorem dX9_doOrder_16 : decode cX9_doOrder 16 = .ok (.invokevirtual 115, 3) := by decide +kernel
theorem dX9_doOrder_19 : decode cX9_doOrder 19 = .ok (.istore_n 3, 1) := by decide +kernel
theorem dX9_doOrder_20 : decode cX9_doOrder 20 = .ok (.aload_n 0, 1) := by decide +kernel
theorem dX9_doOrder_21 : decode cX9_doOrder 21 = .ok (.getfield 29, 3) := by decide +kernel
theorem dX9_doOrder_24 : decode cX9_doOrder 24 = .ok (.getfield 112, 3) := by decide +kernel
theorem dX9_doOrder_27 : decode cX9_doOrder 27 = .ok (.iload_n 1, 1) := by decide +kernel
theorem dX9_doOrder_28 : decode cX9_doOrder 28 = .ok (.iaload, 1) := by decide +kernel
theorem dX9_doOrder_29 : decode cX9_doOrder 29 = .ok (.tableswitch 147 2 8 #[43, 67, 82, 97, 112, 126, 141], 43) := by decide +kernel
theorem dX9_doOrder_72 : decode cX9_doOrder 72 = .ok (.aload_n 0, 1) := by decide +kernel
theorem dX9_doOrder_73 : decode cX9_doOrder 73 = .ok (.iload_n 2, 1) := by decide +kernel
theorem dX9_doOrder_74 : decode cX9_doOrder 74 = .ok (.iload_n 3, 1) := by decide +kernel
theorem dX9_doOrder_75 : decode cX9_doOrder 75 = .ok (.aload_n 0, 1) := by decide +kernel
theorem dX9_doOrder_76 : decode cX9_doOrder 76 = .ok (.getfield 29, 3) := by decide +kernel
theorem dX9_doOrder_79 : decode cX9_doOrder 79 = .ok (.iload_n 1, 1) := by decide +kernel
theorem dX9_doOrder_80 : decode cX9_doOrder 80 = .ok (.iconst 2, 1) := by decide +kernel
theorem dX9_doOrder_81 : decode cX9_doOrder 81 = .ok (.invokevirtual 115, 3) := by decide +kernel
theorem dX9_doOrder_84 : decode cX9_doOrder 84 = .ok (.invokevirtual 156, 3) := by decide +kernel
theorem dX9_doOrder_87 : decode cX9_doOrder 87 = .ok (.ifCond .lt 7, 3) := by decide +kernel
theorem dX9_doOrder_90 : decode cX9_doOrder 90 = .ok (.iconst 1, 1) := by decide +kernel
theorem dX9_doOrder_91 : decode cX9_doOrder 91 = .ok (.goto 4, 3) := by decide +kernel
theorem dX9_doOrder_94 : decode cX9_doOrder 94 = .ok (.iconst 0, 1) := by decide +kernel
theorem dX9_doOrder_95 : decode cX9_doOrder 95 = .ok (.ireturn, 1) := by decide +kernel
theorem dX9_doOrder_96 : decode cX9_doOrder 96 = .ok (.aload_n 0, 1) := by decide +kernel
theorem dX9_doOrder_97 : decode cX9_doOrder 97 = .ok (.iload_n 2, 1) := by decide +kernel
theorem dX9_doOrder_98 : decode cX9_doOrder 98 = .ok (.iload_n 3, 1) := by decide +kernel
theorem dX9_doOrder_99 : decode cX9_doOrder 99 = .ok (.invokevirtual 159, 3) := by decide +kernel
theorem dX9_doOrder_102 : decode cX9_doOrder 102 = .ok (.ifCond .lt 7, 3) := by decide +kernel
theorem dX9_doOrder_105 : decode cX9_doOrder 105 = .ok (.iconst 1, 1) := by decide +kernel
theorem dX9_doOrder_106 : decode cX9_doOrder 106 = .ok (.goto 4, 3) := by decide +kernel
theorem dX9_doOrder_109 : decode cX9_doOrder 109 = .ok (.iconst 0, 1) := by decide +kernel
theorem dX9_doOrder_110 : decode cX9_doOrder 110 = .ok (.ireturn, 1) := by decide +kernel
theorem dX9_doOrder_111 : decode cX9_doOrder 111 = .ok (.aload_n 0, 1) := by decide +kernel
theorem dX9_doOrder_112 : decode cX9_doOrder 112 = .ok (.iload_n 2, 1) := by decide +kernel
theorem dX9_doOrder_113 : decode cX9_doOrder 113 = .ok (.iconst 0, 1) := by decide +kernel
theorem dX9_doOrder_114 : decode cX9_doOrder 114 = .ok (.invokevirtual 162, 3) := by decide +kernel
theorem dX9_doOrder_117 : decode cX9_doOrder 117 = .ok (.ifCond .lt 7, 3) := by decide +kernel
theorem dX9_doOrder_120 : decode cX9_doOrder 120 = .ok (.iconst 1, 1) := by decide +kernel
theorem dX9_doOrder_121 : decode cX9_doOrder 121 = .ok (.goto 4, 3) := by decide +kernel
theorem dX9_doOrder_124 : decode cX9_doOrder 124 = .ok (.iconst 0, 1) := by decide +kernel
theorem dX9_doOrder_125 : decode cX9_doOrder 125 = .ok (.ireturn, 1) := by decide +kernel
theorem dX9_doOrder_126 : decode cX9_doOrder 126 = .ok (.aload_n 0, 1) := by decide +kernel
theorem dX9_doOrder_127 : decode cX9_doOrder 127 = .ok (.iload_n 2, 1) := by decide +kernel
theorem dX9_doOrder_128 : decode cX9_doOrder 128 = .ok (.iconst 1, 1) := by decide +kernel
theorem dX9_doOrder_129 : decode cX9_doOrder 129 = .ok (.invokevirtual 162, 3) := by decide +kernel
theorem dX9_doOrder_132 : decode cX9_doOrder 132 = .ok (.ifCond .lt 7, 3) := by decide +kernel
theorem dX9_doOrder_135 : decode cX9_doOrder 135 = .ok (.iconst 1, 1) := by decide +kernel
theorem dX9_doOrder_136 : decode cX9_doOrder 136 = .ok (.goto 4, 3) := by decide +kernel
theorem dX9_doOrder_139 : decode cX9_doOrder 139 = .ok (.iconst 0, 1) := by decide +kernel
theorem dX9_doOrder_140 : decode cX9_doOrder 140 = .ok (.ireturn, 1) := by decide +kernel
theorem dX9_doOrder_141 : decode cX9_doOrder 141 = .ok (.aload_n 0, 1) := by decide +kernel
theorem dX9_doOrder_142 : decode cX9_doOrder 142 = .ok (.iload_n 2, 1) := by decide +kernel
theorem dX9_doOrder_143 : decode cX9_doOrder 143 = .ok (.invokevirtual 166, 3) := by decide +kernel
theorem dX9_doOrder_146 : decode cX9_doOrder 146 = .ok (.ifCond .lt 7, 3) := by decide +kernel
theorem dX9_doOrder_149 : decode cX9_doOrder 149 = .ok (.iconst 1, 1) := by decide +kernel
theorem dX9_doOrder_150 : decode cX9_doOrder 150 = .ok (.goto 4, 3) := by decide +kernel
theorem dX9_doOrder_153 : decode cX9_doOrder 153 = .ok (.iconst 0, 1) := by decide +kernel
theorem dX9_doOrder_154 : decode cX9_doOrder 154 = .ok (.ireturn, 1) := by decide +kernel
theorem dX9_doOrder_155 : decode cX9_doOrder 155 = .ok (.aload_n 0, 1) := by decide +kernel
theorem dX9_doOrder_156 : decode cX9_doOrder 156 = .ok (.iload_n 2, 1) := by decide +kernel
theorem dX9_doOrder_157 : decode cX9_doOrder 157 = .ok (.iload_n 3, 1) := by decide +kernel
theorem dX9_doOrder_158 : decode cX9_doOrder 158 = .ok (.invokevirtual 170, 3) := by decide +kernel
theorem dX9_doOrder_161 : decode cX9_doOrder 161 = .ok (.ifCond .lt 7, 3) := by decide +kernel
theorem dX9_doOrder_164 : decode cX9_doOrder 164 = .ok (.iconst 1, 1) := by decide +kernel
theorem dX9_doOrder_165 : decode cX9_doOrder 165 = .ok (.goto 4, 3) := by decide +kernel
theorem dX9_doOrder_168 : decode cX9_doOrder 168 = .ok (.iconst 0, 1) := by decide +kernel
theorem dX9_doOrder_169 : decode cX9_doOrder 169 = .ok (.ireturn, 1) := by decide +kernel
theorem dX9_doOrder_170 : decode cX9_doOrder 170 = .ok (.aload_n 0, 1) := by decide +kernel
theorem dX9_doOrder_171 : decode cX9_doOrder 171 = .ok (.iload_n 2, 1) := by decide +kernel
theorem dX9_doOrder_172 : decode cX9_doOrder 172 = .ok (.invokevirtual 173, 3) := by decide +kernel
theorem dX9_doOrder_175 : decode cX9_doOrder 175 = .ok (.ireturn, 1) := by decide +kernel
theorem dX9_doOrder_176 : decode cX9_doOrder 176 = .ok (.iconst 0, 1) := by decide +kernel
theorem dX9_doOrder_177 : decode cX9_doOrder 177 = .ok (.ireturn, 1) := by decide +kernel
theorem dX9_lay_0 : decode cX9_lay 0 = .ok (.aload_n 0, 1) := by decide +kernel
theorem dX9_lay_1 : decode cX9_lay 1 = .ok (.iload_n 1, 1) := by decide +kernel
theorem dX9_lay_2 : decode cX9_lay 2 = .ok (.iload_n 2, 1) := by decide +kernel
theorem dX9_lay_3 : decode cX9_lay 3 = .ok (.iload_n 3, 1) := by decide +kernel
theorem dX9_lay_4 : decode cX9_lay 4 = .ok (.invokevirtual 156, 3) := by decide +kernel
theorem dX9_lay_7 : decode cX9_lay 7 = .ok (.ireturn, 1) := by decide +kernel
theorem dX9_layRoad_0 : decode cX9_layRoad 0 = .ok (.aload_n 0, 1) := by decide +kernel
theorem dX9_layRoad_1 : decode cX9_layRoad 1 = .ok (.getfield 10, 3) := by decide +kernel
theorem dX9_layRoad_4 : decode cX9_layRoad 4 = .ok (.getfield 148, 3) := by decide +kernel
theorem dX9_layRoad_7 : decode cX9_layRoad 7 = .ok (.iload_n 1, 1) := by decide +kernel
theorem dX9_layRoad_8 : decode cX9_layRoad 8 = .ok (.invokevirtual 176, 3) := by decide +kernel
theorem dX9_layRoad_11 : decode cX9_layRoad 11 = .ok (.ifCond .eq 29, 3) := by decide +kernel
theorem dX9_layRoad_14 : decode cX9_layRoad 14 = .ok (.aload_n 0, 1) := by decide +kernel
theorem dX9_layRoad_15 : decode cX9_layRoad 15 = .ok (.getfield 10, 3) := by decide +kernel
theorem dX9_layRoad_18 : decode cX9_layRoad 18 = .ok (.getfield 148, 3) := by decide +kernel
theorem dX9_layRoad_21 : decode cX9_layRoad 21 = .ok (.iload_n 2, 1) := by decide +kernel
theorem dX9_layRoad_22 : decode cX9_layRoad 22 = .ok (.invokevirtual 176, 3) := by decide +kernel
theorem dX9_layRoad_25 : decode cX9_layRoad 25 = .ok (.ifCond .eq 15, 3) := by decide +kernel
theorem dX9_layRoad_28 : decode cX9_layRoad 28 = .ok (.iload_n 1, 1) := by decide +kernel
theorem dX9_layRoad_29 : decode cX9_layRoad 29 = .ok (.iload_n 2, 1) := by decide +kernel
theorem dX9_layRoad_30 : decode cX9_layRoad 30 = .ok (.if_icmp .eq 10, 3) := by decide +kernel
theorem dX9_layRoad_33 : decode cX9_layRoad 33 = .ok (.iload_n 3, 1) := by decide +kernel
theorem dX9_layRoad_34 : decode cX9_layRoad 34 = .ok (.invokestatic 179, 3) := by decide +kernel
theorem dX9_layRoad_37 : decode cX9_layRoad 37 = .ok (.ifCond .ne 5, 3) := by decide +kernel
theorem dX9_layRoad_40 : decode cX9_layRoad 40 = .ok (.iconst (-1), 1) := by decide +kernel
theorem dX9_layRoad_41 : decode cX9_layRoad 41 = .ok (.ireturn, 1) := by decide +kernel
theorem dX9_layRoad_42 : decode cX9_layRoad 42 = .ok (.aload_n 0, 1) := by decide +kernel
theorem dX9_layRoad_43 : decode cX9_layRoad 43 = .ok (.getfield 10, 3) := by decide +kernel
theorem dX9_layRoad_46 : decode cX9_layRoad 46 = .ok (.getfield 148, 3) := by decide +kernel
theorem dX9_layRoad_49 : decode cX9_layRoad 49 = .ok (.getfield 182, 3) := by decide +kernel
theorem dX9_layRoad_52 : decode cX9_layRoad 52 = .ok (.bipush 36, 2) := by decide +kernel
theorem dX9_layRoad_54 : decode cX9_layRoad 54 = .ok (.if_icmp .lt 6, 3) := by decide +kernel
theorem dX9_layRoad_57 : decode cX9_layRoad 57 = .ok (.bipush (-5), 2) := by decide +kernel
theorem dX9_layRoad_59 : decode cX9_layRoad 59 = .ok (.ireturn, 1) := by decide +kernel
theorem dX9_layRoad_60 : decode cX9_layRoad 60 = .ok (.aload_n 0, 1) := by decide +kernel
theorem dX9_layRoad_61 : decode cX9_layRoad 61 = .ok (.getfield 72, 3) := by decide +kernel
theorem dX9_layRoad_64 : decode cX9_layRoad 64 = .ok (.aload_n 0, 1) := by decide +kernel
theorem dX9_layRoad_65 : decode cX9_layRoad 65 = .ok (.getfield 10, 3) := by decide +kernel
theorem dX9_layRoad_68 : decode cX9_layRoad 68 = .ok (.getfield 148, 3) := by decide +kernel
theorem dX9_layRoad_71 : decode cX9_layRoad 71 = .ok (.invokevirtual 185, 3) := by decide +kernel
theorem dX9_layRoad_74 : decode cX9_layRoad 74 = .ok (.aload_n 0, 1) := by decide +kernel
theorem dX9_layRoad_75 : decode cX9_layRoad 75 = .ok (.getfield 72, 3) := by decide +kernel
theorem dX9_layRoad_78 : decode cX9_layRoad 78 = .ok (.iload_n 1, 1) := by decide +kernel
theorem dX9_layRoad_79 : decode cX9_layRoad 79 = .ok (.iload_n 2, 1) := by decide +kernel
theorem dX9_layRoad_80 : decode cX9_layRoad 80 = .ok (.iload_n 3, 1) := by decide +kernel
theorem dX9_layRoad_81 : decode cX9_layRoad 81 = .ok (.invokevirtual 119, 3) := by decide +kernel
theorem dX9_layRoad_84 : decode cX9_layRoad 84 = .ok (.istore 4, 2) := by decide +kernel
theorem dX9_layRoad_86 : decode cX9_layRoad 86 = .ok (.aload_n 0, 1) := by decide +kernel
theorem dX9_layRoad_87 : decode cX9_layRoad 87 = .ok (.iload 4, 2) := by decide +kernel
theorem dX9_layRoad_89 : decode cX9_layRoad 89 = .ok (.aload_n 0, 1) := by decide +kernel
theorem dX9_layRoad_90 : decode cX9_layRoad 90 = .ok (.getfield 10, 3) := by decide +kernel
theorem dX9_layRoad_93 : decode cX9_layRoad 93 = .ok (.getfield 189, 3) := by decide +kernel
theorem dX9_layRoad_96 : decode cX9_layRoad 96 = .ok (.invokevirtual 192, 3) := by decide +kernel
theorem dX9_layRoad_99 : decode cX9_layRoad 99 = .ok (.istore 5, 2) := by decide +kernel
theorem dX9_layRoad_101 : decode cX9_layRoad 101 = .ok (.iload 5, 2) := by decide +kernel
theorem dX9_layRoad_103 : decode cX9_layRoad 103 = .ok (.ifCond .ge 8, 3) := by decide +kernel
theorem dX9_layRoad_106 : decode cX9_layRoad 106 = .ok (.iload 5, 2) := by decide +kernel
theorem dX9_layRoad_108 : decode cX9_layRoad 108 = .ok (.goto 5, 3) := by decide +kernel
theorem dX9_layRoad_111 : decode cX9_layRoad 111 = .ok (.iload 4, 2) := by decide +kernel
theorem dX9_layRoad_113 : decode cX9_layRoad 113 = .ok (.ireturn, 1) := by decide +kernel
theorem dX9_length_0 : decode cX9_length 0 = .ok (.aload_n 0, 1) := by decide +kernel
theorem dX9_length_1 : decode cX9_length 1 = .ok (.iload_n 1, 1) := by decide +kernel
theorem dX9_length_2 : decode cX9_length 2 = .ok (.iload_n 2, 1) := by decide +kernel
theorem dX9_length_3 : decode cX9_length 3 = .ok (.invokevirtual 159, 3) := by decide +kernel
theorem dX9_length_6 : decode cX9_length 6 = .ok (.ireturn, 1) := by decide +kernel
theorem dX9_changeLength_0 : decode cX9_changeLength 0 = .ok (.aload_n 0, 1) := by decide +kernel
theorem dX9_changeLength_1 : decode cX9_changeLength 1 = .ok (.getfield 10, 3) := by decide +kernel
theorem dX9_changeLength_4 : decode cX9_changeLength 4 = .ok (.getfield 148, 3) := by decide +kernel
theorem dX9_changeLength_7 : decode cX9_changeLength 7 = .ok (.iload_n 1, 1) := by decide +kernel
theorem dX9_changeLength_8 : decode cX9_changeLength 8 = .ok (.invokevirtual 195, 3) := by decide +kernel
theorem dX9_changeLength_11 : decode cX9_changeLength 11 = .ok (.ifCond .eq 10, 3) := by decide +kernel
theorem dX9_changeLength_14 : decode cX9_changeLength 14 = .ok (.iload_n 2, 1) := by decide +kernel
theorem dX9_changeLength_15 : decode cX9_changeLength 15 = .ok (.invokestatic 179, 3) := by decide +kernel
theorem dX9_changeLength_18 : decode cX9_changeLength 18 = .ok (.ifCond .ne 5, 3) := by decide +kernel
theorem dX9_changeLength_21 : decode cX9_changeLength 21 = .ok (.iconst (-1), 1) := by decide +kernel
theorem dX9_changeLength_22 : decode cX9_changeLength 22 = .ok (.ireturn, 1) := by decide +kernel
theorem dX9_changeLength_23 : decode cX9_changeLength 23 = .ok (.aload_n 0, 1) := by decide +kernel
theorem dX9_changeLength_24 : decode cX9_changeLength 24 = .ok (.getfield 10, 3) := by decide +kernel
theorem dX9_changeLength_27 : decode cX9_changeLength 27 = .ok (.getfield 148, 3) := by decide +kernel
theorem dX9_changeLength_30 : decode cX9_changeLength 30 = .ok (.getfield 198, 3) := by decide +kernel
theorem dX9_changeLength_33 : decode cX9_changeLength 33 = .ok (.iload_n 1, 1) := by decide +kernel
theorem dX9_changeLength_34 : decode cX9_changeLength 34 = .ok (.iaload, 1) := by decide +kernel
theorem dX9_changeLength_35 : decode cX9_changeLength 35 = .ok (.iload_n 2, 1) := by decide +kernel
theorem dX9_changeLength_36 : decode cX9_changeLength 36 = .ok (.if_icmp .ne 6, 3) := by decide +kernel
theorem dX9_changeLength_39 : decode cX9_changeLength 39 = .ok (.bipush (-2), 2) := by decide +kernel
theorem dX9_changeLength_41 : decode cX9_changeLength 41 = .ok (.ireturn, 1) := by decide +kernel
theorem dX9_changeLength_42 : decode cX9_changeLength 42 = .ok (.aload_n 0, 1) := by decide +kernel
theorem dX9_changeLength_43 : decode cX9_changeLength 43 = .ok (.getfield 72, 3) := by decide +kernel
theorem dX9_changeLength_46 : decode cX9_changeLength 46 = .ok (.aload_n 0, 1) := by decide +kernel
theorem dX9_changeLength_47 : decode cX9_changeLength 47 = .ok (.getfield 10, 3) := by decide +kernel
theorem dX9_changeLength_50 : decode cX9_changeLength 50 = .ok (.getfield 148, 3) := by decide +kernel
theorem dX9_changeLength_53 : decode cX9_changeLength 53 = .ok (.invokevirtual 185, 3) := by decide +kernel
theorem dX9_changeLength_56 : decode cX9_changeLength 56 = .ok (.aload_n 0, 1) := by decide +kernel
theorem dX9_changeLength_57 : decode cX9_changeLength 57 = .ok (.getfield 72, 3) := by decide +kernel
theorem dX9_changeLength_60 : decode cX9_changeLength 60 = .ok (.getfield 198, 3) := by decide +kernel
theorem dX9_changeLength_63 : decode cX9_changeLength 63 = .ok (.iload_n 1, 1) := by decide +kernel
theorem dX9_changeLength_64 : decode cX9_changeLength 64 = .ok (.iload_n 2, 1) := by decide +kernel
theorem dX9_changeLength_65 : decode cX9_changeLength 65 = .ok (.iastore, 1) := by decide +kernel
theorem dX9_changeLength_66 : decode cX9_changeLength 66 = .ok (.aload_n 0, 1) := by decide +kernel
theorem dX9_changeLength_67 : decode cX9_changeLength 67 = .ok (.iload_n 1, 1) := by decide +kernel
theorem dX9_changeLength_68 : decode cX9_changeLength 68 = .ok (.aload_n 0, 1) := by decide +kernel
theorem dX9_changeLength_69 : decode cX9_changeLength 69 = .ok (.getfield 10, 3) := by decide +kernel
theorem dX9_changeLength_72 : decode cX9_changeLength 72 = .ok (.getfield 189, 3) := by decide +kernel
theorem dX9_changeLength_75 : decode cX9_changeLength 75 = .ok (.invokevirtual 192, 3) := by decide +kernel
theorem dX9_changeLength_78 : decode cX9_changeLength 78 = .ok (.ireturn, 1) := by decide +kernel
theorem dX9_close_0 : decode cX9_close 0 = .ok (.aload_n 0, 1) := by decide +kernel
theorem dX9_close_1 : decode cX9_close 1 = .ok (.iload_n 1, 1) := by decide +kernel
theorem dX9_close_2 : decode cX9_close 2 = .ok (.iconst 0, 1) := by decide +kernel
theorem dX9_close_3 : decode cX9_close 3 = .ok (.invokevirtual 162, 3) := by decide +kernel
theorem dX9_close_6 : decode cX9_close 6 = .ok (.ireturn, 1) := by decide +kernel
theorem dX9_open_0 : decode cX9_open 0 = .ok (.aload_n 0, 1) := by decide +kernel
theorem dX9_open_1 : decode cX9_open 1 = .ok (.iload_n 1, 1) := by decide +kernel
theorem dX9_open_2 : decode cX9_open 2 = .ok (.iconst 1, 1) := by decide +kernel
theorem dX9_open_3 : decode cX9_open 3 = .ok (.invokevirtual 162, 3) := by decide +kernel
theorem dX9_open_6 : decode cX9_open 6 = .ok (.ireturn, 1) := by decide +kernel
theorem dX9_turnRoad_0 : decode cX9_turnRoad 0 = .ok (.aload_n 0, 1) := by decide +kernel
theorem dX9_turnRoad_1 : decode cX9_turnRoad 1 = .ok (.getfield 10, 3) := by decide +kernel
theorem dX9_turnRoad_4 : decode cX9_turnRoad 4 = .ok (.getfield 148, 3) := by decide +kernel
theorem dX9_turnRoad_7 : decode cX9_turnRoad 7 = .ok (.iload_n 1, 1) := by decide +kernel
theorem dX9_turnRoad_8 : decode cX9_turnRoad 8 = .ok (.invokevirtual 195, 3) := by decide +kernel
theorem dX9_turnRoad_11 : decode cX9_turnRoad 11 = .ok (.ifCond .ne 5, 3) := by decide +kernel
theorem dX9_turnRoad_14 : decode cX9_turnRoad 14 = .ok (.iconst (-1), 1) := by decide +kernel
theorem dX9_turnRoad_15 : decode cX9_turnRoad 15 = .ok (.ireturn, 1) := by decide +kernel
theorem dX9_turnRoad_16 : decode cX9_turnRoad 16 = .ok (.aload_n 0, 1) := by decide +kernel
theorem dX9_turnRoad_17 : decode cX9_turnRoad 17 = .ok (.getfield 10, 3) := by decide +kernel
theorem dX9_turnRoad_20 : decode cX9_turnRoad 20 = .ok (.getfield 148, 3) := by decide +kernel
theorem dX9_turnRoad_23 : decode cX9_turnRoad 23 = .ok (.iload_n 1, 1) := by decide +kernel
theorem dX9_turnRoad_24 : decode cX9_turnRoad 24 = .ok (.invokevirtual 201, 3) := by decide +kernel
theorem dX9_turnRoad_27 : decode cX9_turnRoad 27 = .ok (.iload_n 2, 1) := by decide +kernel
theorem dX9_turnRoad_28 : decode cX9_turnRoad 28 = .ok (.if_icmp .ne 6, 3) := by decide +kernel
theorem dX9_turnRoad_31 : decode cX9_turnRoad 31 = .ok (.bipush (-2), 2) := by decide +kernel
theorem dX9_turnRoad_33 : decode cX9_turnRoad 33 = .ok (.ireturn, 1) := by decide +kernel
theorem dX9_turnRoad_34 : decode cX9_turnRoad 34 = .ok (.aload_n 0, 1) := by decide +kernel
theorem dX9_turnRoad_35 : decode cX9_turnRoad 35 = .ok (.getfield 72, 3) := by decide +kernel
theorem dX9_turnRoad_38 : decode cX9_turnRoad 38 = .ok (.aload_n 0, 1) := by decide +kernel
theorem dX9_turnRoad_39 : decode cX9_turnRoad 39 = .ok (.getfield 10, 3) := by decide +kernel
theorem dX9_turnRoad_42 : decode cX9_turnRoad 42 = .ok (.getfield 148, 3) := by decide +kernel
theorem dX9_turnRoad_45 : decode cX9_turnRoad 45 = .ok (.invokevirtual 185, 3) := by decide +kernel
theorem dX9_turnRoad_48 : decode cX9_turnRoad 48 = .ok (.aload_n 0, 1) := by decide +kernel
theorem dX9_turnRoad_49 : decode cX9_turnRoad 49 = .ok (.getfield 72, 3) := by decide +kernel
theorem dX9_turnRoad_52 : decode cX9_turnRoad 52 = .ok (.iload_n 1, 1) := by decide +kernel
theorem dX9_turnRoad_53 : decode cX9_turnRoad 53 = .ok (.invokevirtual 204, 3) := by decide +kernel
theorem dX9_turnRoad_56 : decode cX9_turnRoad 56 = .ok (.aload_n 0, 1) := by decide +kernel
theorem dX9_turnRoad_57 : decode cX9_turnRoad 57 = .ok (.iload_n 1, 1) := by decide +kernel
theorem dX9_turnRoad_58 : decode cX9_turnRoad 58 = .ok (.aload_n 0, 1) := by decide +kernel
theorem dX9_turnRoad_59 : decode cX9_turnRoad 59 = .ok (.getfield 10, 3) := by decide +kernel
theorem dX9_turnRoad_62 : decode cX9_turnRoad 62 = .ok (.getfield 189, 3) := by decide +kernel
theorem dX9_turnRoad_65 : decode cX9_turnRoad 65 = .ok (.invokevirtual 192, 3) := by decide +kernel
theorem dX9_turnRoad_68 : decode cX9_turnRoad 68 = .ok (.ireturn, 1) := by decide +kernel
theorem dX9_origin_0 : decode cX9_origin 0 = .ok (.aload_n 0, 1) := by decide +kernel
theorem dX9_origin_1 : decode cX9_origin 1 = .ok (.iload_n 1, 1) := by decide +kernel
theorem dX9_origin_2 : decode cX9_origin 2 = .ok (.invokevirtual 166, 3) := by decide +kernel
theorem dX9_origin_5 : decode cX9_origin 5 = .ok (.ireturn, 1) := by decide +kernel
theorem dX9_moveOrigin_0 : decode cX9_moveOrigin 0 = .ok (.aload_n 0, 1) := by decide +kernel
theorem dX9_moveOrigin_1 : decode cX9_moveOrigin 1 = .ok (.getfield 10, 3) := by decide +kernel
theorem dX9_moveOrigin_4 : decode cX9_moveOrigin 4 = .ok (.getfield 148, 3) := by decide +kernel
theorem dX9_moveOrigin_7 : decode cX9_moveOrigin 7 = .ok (.iload_n 1, 1) := by decide +kernel
theorem dX9_moveOrigin_8 : decode cX9_moveOrigin 8 = .ok (.invokevirtual 176, 3) := by decide +kernel
theorem dX9_moveOrigin_11 : decode cX9_moveOrigin 11 = .ok (.ifCond .ne 5, 3) := by decide +kernel
theorem dX9_moveOrigin_14 : decode cX9_moveOrigin 14 = .ok (.iconst (-1), 1) := by decide +kernel
theorem dX9_moveOrigin_15 : decode cX9_moveOrigin 15 = .ok (.ireturn, 1) := by decide +kernel
theorem dX9_moveOrigin_16 : decode cX9_moveOrigin 16 = .ok (.aload_n 0, 1) := by decide +kernel
theorem dX9_moveOrigin_17 : decode cX9_moveOrigin 17 = .ok (.getfield 10, 3) := by decide +kernel
theorem dX9_moveOrigin_20 : decode cX9_moveOrigin 20 = .ok (.getfield 189, 3) := by decide +kernel
theorem dX9_moveOrigin_23 : decode cX9_moveOrigin 23 = .ok (.iload_n 1, 1) := by decide +kernel
theorem dX9_moveOrigin_24 : decode cX9_moveOrigin 24 = .ok (.if_icmp .ne 6, 3) := by decide +kernel
theorem dX9_moveOrigin_27 : decode cX9_moveOrigin 27 = .ok (.bipush (-2), 2) := by decide +kernel
theorem dX9_moveOrigin_29 : decode cX9_moveOrigin 29 = .ok (.ireturn, 1) := by decide +kernel
theorem dX9_moveOrigin_30 : decode cX9_moveOrigin 30 = .ok (.aload_n 0, 1) := by decide +kernel
theorem dX9_moveOrigin_31 : decode cX9_moveOrigin 31 = .ok (.getfield 72, 3) := by decide +kernel
theorem dX9_moveOrigin_34 : decode cX9_moveOrigin 34 = .ok (.aload_n 0, 1) := by decide +kernel
theorem dX9_moveOrigin_35 : decode cX9_moveOrigin 35 = .ok (.getfield 10, 3) := by decide +kernel
theorem dX9_moveOrigin_38 : decode cX9_moveOrigin 38 = .ok (.getfield 148, 3) := by decide +kernel
theorem dX9_moveOrigin_41 : decode cX9_moveOrigin 41 = .ok (.invokevirtual 185, 3) := by decide +kernel
theorem dX9_moveOrigin_44 : decode cX9_moveOrigin 44 = .ok (.aload_n 0, 1) := by decide +kernel
theorem dX9_moveOrigin_45 : decode cX9_moveOrigin 45 = .ok (.iconst (-1), 1) := by decide +kernel
theorem dX9_moveOrigin_46 : decode cX9_moveOrigin 46 = .ok (.iload_n 1, 1) := by decide +kernel
theorem dX9_moveOrigin_47 : decode cX9_moveOrigin 47 = .ok (.invokevirtual 192, 3) := by decide +kernel
theorem dX9_moveOrigin_50 : decode cX9_moveOrigin 50 = .ok (.ireturn, 1) := by decide +kernel
theorem dX9_doChange_0 : decode cX9_doChange 0 = .ok (.aload_n 0, 1) := by decide +kernel
theorem dX9_doChange_1 : decode cX9_doChange 1 = .ok (.iload_n 1, 1) := by decide +kernel
theorem dX9_doChange_2 : decode cX9_doChange 2 = .ok (.iload_n 2, 1) := by decide +kernel
theorem dX9_doChange_3 : decode cX9_doChange 3 = .ok (.invokevirtual 207, 3) := by decide +kernel
theorem dX9_doChange_6 : decode cX9_doChange 6 = .ok (.istore_n 3, 1) := by decide +kernel
theorem dX9_doChange_7 : decode cX9_doChange 7 = .ok (.iload_n 3, 1) := by decide +kernel
theorem dX9_doChange_8 : decode cX9_doChange 8 = .ok (.ifCond .eq 5, 3) := by decide +kernel
theorem dX9_doChange_11 : decode cX9_doChange 11 = .ok (.iload_n 3, 1) := by decide +kernel
theorem dX9_doChange_12 : decode cX9_doChange 12 = .ok (.ireturn, 1) := by decide +kernel
theorem dX9_doChange_13 : decode cX9_doChange 13 = .ok (.aload_n 0, 1) := by decide +kernel
theorem dX9_doChange_14 : decode cX9_doChange 14 = .ok (.getfield 10, 3) := by decide +kernel
theorem dX9_doChange_17 : decode cX9_doChange 17 = .ok (.aload_n 0, 1) := by decide +kernel
theorem dX9_doChange_18 : decode cX9_doChange 18 = .ok (.getfield 72, 3) := by decide +kernel
theorem dX9_doChange_21 : decode cX9_doChange 21 = .ok (.iload_n 2, 1) := by decide +kernel
theorem dX9_doChange_22 : decode cX9_doChange 22 = .ok (.aload_n 0, 1) := by decide +kernel
theorem dX9_doChange_23 : decode cX9_doChange 23 = .ok (.getfield 76, 3) := by decide +kernel
theorem dX9_doChange_26 : decode cX9_doChange 26 = .ok (.invokevirtual 210, 3) := by decide +kernel
theorem dX9_doChange_29 : decode cX9_doChange 29 = .ok (.aload_n 0, 1) := by decide +kernel
theorem dX9_doChange_30 : decode cX9_doChange 30 = .ok (.getfield 36, 3) := by decide +kernel
theorem dX9_doChange_33 : decode cX9_doChange 33 = .ok (.iconst 0, 1) := by decide +kernel
theorem dX9_doChange_34 : decode cX9_doChange 34 = .ok (.putfield 145, 3) := by decide +kernel
theorem dX9_doChange_37 : decode cX9_doChange 37 = .ok (.aload_n 0, 1) := by decide +kernel
theorem dX9_doChange_38 : decode cX9_doChange 38 = .ok (.getfield 10, 3) := by decide +kernel
theorem dX9_doChange_41 : decode cX9_doChange 41 = .ok (.getfield 214, 3) := by decide +kernel
theorem dX9_doChange_44 : decode cX9_doChange 44 = .ok (.ireturn, 1) := by decide +kernel
theorem dX9_judgeAside_0 : decode cX9_judgeAside 0 = .ok (.aload_n 0, 1) := by decide +kernel
theorem dX9_judgeAside_1 : decode cX9_judgeAside 1 = .ok (.getfield 72, 3) := by decide +kernel
theorem dX9_judgeAside_4 : decode cX9_judgeAside 4 = .ok (.iload_n 1, 1) := by decide +kernel
theorem dX9_judgeAside_5 : decode cX9_judgeAside 5 = .ok (.aload_n 0, 1) := by decide +kernel
theorem dX9_judgeAside_6 : decode cX9_judgeAside 6 = .ok (.getfield 43, 3) := by decide +kernel
theorem dX9_judgeAside_9 : decode cX9_judgeAside 9 = .ok (.getfield 123, 3) := by decide +kernel
theorem dX9_judgeAside_12 : decode cX9_judgeAside 12 = .ok (.invokevirtual 126, 3) := by decide +kernel
theorem dX9_judgeAside_15 : decode cX9_judgeAside 15 = .ok (.ifCond .eq 6, 3) := by decide +kernel
theorem dX9_judgeAside_18 : decode cX9_judgeAside 18 = .ok (.bipush (-3), 2) := by decide +kernel
theorem dX9_judgeAside_20 : decode cX9_judgeAside 20 = .ok (.ireturn, 1) := by decide +kernel
theorem dX9_judgeAside_21 : decode cX9_judgeAside 21 = .ok (.aload_n 0, 1) := by decide +kernel
theorem dX9_judgeAside_22 : decode cX9_judgeAside 22 = .ok (.getfield 72, 3) := by decide +kernel
theorem dX9_judgeAside_25 : decode cX9_judgeAside 25 = .ok (.iload_n 2, 1) := by decide +kernel
theorem dX9_judgeAside_26 : decode cX9_judgeAside 26 = .ok (.iconst (-1), 1) := by decide +kernel
theorem dX9_judgeAside_27 : decode cX9_judgeAside 27 = .ok (.aload_n 0, 1) := by decide +kernel
theorem dX9_judgeAside_28 : decode cX9_judgeAside 28 = .ok (.getfield 76, 3) := by decide +kernel
theorem dX9_judgeAside_31 : decode cX9_judgeAside 31 = .ok (.invokevirtual 130, 3) := by decide +kernel
theorem dX9_judgeAside_34 : decode cX9_judgeAside 34 = .ok (.aload_n 0, 1) := by decide +kernel
theorem dX9_judgeAside_35 : decode cX9_judgeAside 35 = .ok (.getfield 72, 3) := by decide +kernel
theorem dX9_judgeAside_38 : decode cX9_judgeAside 38 = .ok (.aload_n 0, 1) := by decide +kernel
theorem dX9_judgeAside_39 : decode cX9_judgeAside 39 = .ok (.getfield 76, 3) := by decide +kernel
theorem dX9_judgeAside_42 : decode cX9_judgeAside 42 = .ok (.invokevirtual 134, 3) := by decide +kernel
theorem dX9_judgeAside_45 : decode cX9_judgeAside 45 = .ok (.ifCond .eq 7, 3) := by decide +kernel
theorem dX9_judgeAside_48 : decode cX9_judgeAside 48 = .ok (.iconst 0, 1) := by decide +kernel
theorem dX9_judgeAside_49 : decode cX9_judgeAside 49 = .ok (.goto 5, 3) := by decide +kernel
theorem dX9_judgeAside_52 : decode cX9_judgeAside 52 = .ok (.bipush (-4), 2) := by decide +kernel
theorem dX9_judgeAside_54 : decode cX9_judgeAside 54 = .ok (.ireturn, 1) := by decide +kernel
theorem dX9_isLength_0 : decode cX9_isLength 0 = .ok (.iload_n 0, 1) := by decide +kernel
theorem dX9_isLength_1 : decode cX9_isLength 1 = .ok (.ldc 217, 2) := by decide +kernel
theorem dX9_isLength_3 : decode cX9_isLength 3 = .ok (.if_icmp .lt 13, 3) := by decide +kernel
theorem dX9_isLength_6 : decode cX9_isLength 6 = .ok (.iload_n 0, 1) := by decide +kernel
theorem dX9_isLength_7 : decode cX9_isLength 7 = .ok (.ldc 218, 2) := by decide +kernel
theorem dX9_isLength_9 : decode cX9_isLength 9 = .ok (.if_icmp .gt 7, 3) := by decide +kernel
theorem dX9_isLength_12 : decode cX9_isLength 12 = .ok (.iconst 1, 1) := by decide +kernel
theorem dX9_isLength_13 : decode cX9_isLength 13 = .ok (.goto 4, 3) := by decide +kernel
theorem dX9_isLength_16 : decode cX9_isLength 16 = .ok (.iconst 0, 1) := by decide +kernel
theorem dX9_isLength_17 : decode cX9_isLength 17 = .ok (.ireturn, 1) := by decide +kernel
theorem dX9_count_0 : decode cX9_count 0 = .ok (.iload_n 1, 1) := by decide +kernel
theorem dX9_count_1 : decode cX9_count 1 = .ok (.tableswitch 198 0 13 #[71, 82, 93, 107, 115, 123, 131, 139, 147, 158, 166, 174, 182, 190], 71) := by decide +kernel
theorem dX9_count_72 : decode cX9_count 72 = .ok (.aload_n 0, 1) := by decide +kernel
theorem dX9_count_73 : decode cX9_count 73 = .ok (.getfield 10, 3) := by decide +kernel
theorem dX9_count_76 : decode cX9_count 76 = .ok (.getfield 148, 3) := by decide +kernel
theorem dX9_count_79 : decode cX9_count 79 = .ok (.getfield 151, 3) := by decide +kernel
theorem dX9_count_82 : decode cX9_count 82 = .ok (.ireturn, 1) := by decide +kernel
theorem dX9_count_83 : decode cX9_count 83 = .ok (.aload_n 0, 1) := by decide +kernel
theorem dX9_count_84 : decode cX9_count 84 = .ok (.getfield 10, 3) := by decide +kernel
theorem dX9_count_87 : decode cX9_count 87 = .ok (.getfield 148, 3) := by decide +kernel
theorem dX9_count_90 : decode cX9_count 90 = .ok (.getfield 182, 3) := by decide +kernel
theorem dX9_count_93 : decode cX9_count 93 = .ok (.ireturn, 1) := by decide +kernel
theorem dX9_count_94 : decode cX9_count 94 = .ok (.aload_n 0, 1) := by decide +kernel
theorem dX9_count_95 : decode cX9_count 95 = .ok (.getfield 10, 3) := by decide +kernel
theorem dX9_count_98 : decode cX9_count 98 = .ok (.getfield 148, 3) := by decide +kernel
theorem dX9_count_101 : decode cX9_count 101 = .ok (.getfield 219, 3) := by decide +kernel
theorem dX9_count_104 : decode cX9_count 104 = .ok (.invokestatic 223, 3) := by decide +kernel
theorem dX9_count_107 : decode cX9_count 107 = .ok (.ireturn, 1) := by decide +kernel
theorem dX9_count_108 : decode cX9_count 108 = .ok (.aload_n 0, 1) := by decide +kernel
theorem dX9_count_109 : decode cX9_count 109 = .ok (.getfield 10, 3) := by decide +kernel
theorem dX9_count_112 : decode cX9_count 112 = .ok (.getfield 189, 3) := by decide +kernel
theorem dX9_count_115 : decode cX9_count 115 = .ok (.ireturn, 1) := by decide +kernel
theorem dX9_count_116 : decode cX9_count 116 = .ok (.aload_n 0, 1) := by decide +kernel
theorem dX9_count_117 : decode cX9_count 117 = .ok (.getfield 10, 3) := by decide +kernel
theorem dX9_count_120 : decode cX9_count 120 = .ok (.getfield 214, 3) := by decide +kernel
theorem dX9_count_123 : decode cX9_count 123 = .ok (.ireturn, 1) := by decide +kernel
theorem dX9_count_124 : decode cX9_count 124 = .ok (.aload_n 0, 1) := by decide +kernel
theorem dX9_count_125 : decode cX9_count 125 = .ok (.getfield 10, 3) := by decide +kernel
theorem dX9_count_128 : decode cX9_count 128 = .ok (.getfield 229, 3) := by decide +kernel
theorem dX9_count_131 : decode cX9_count 131 = .ok (.ireturn, 1) := by decide +kernel
theorem dX9_count_132 : decode cX9_count 132 = .ok (.aload_n 0, 1) := by decide +kernel
theorem dX9_count_133 : decode cX9_count 133 = .ok (.getfield 10, 3) := by decide +kernel
theorem dX9_count_136 : decode cX9_count 136 = .ok (.invokevirtual 232, 3) := by decide +kernel
theorem dX9_count_139 : decode cX9_count 139 = .ok (.ireturn, 1) := by decide +kernel
theorem dX9_count_140 : decode cX9_count 140 = .ok (.aload_n 0, 1) := by decide +kernel
theorem dX9_count_141 : decode cX9_count 141 = .ok (.getfield 10, 3) := by decide +kernel
theorem dX9_count_144 : decode cX9_count 144 = .ok (.invokevirtual 235, 3) := by decide +kernel
theorem dX9_count_147 : decode cX9_count 147 = .ok (.ireturn, 1) := by decide +kernel
theorem dX9_count_148 : decode cX9_count 148 = .ok (.aload_n 0, 1) := by decide +kernel
theorem dX9_count_149 : decode cX9_count 149 = .ok (.getfield 10, 3) := by decide +kernel
theorem dX9_count_152 : decode cX9_count 152 = .ok (.getfield 238, 3) := by decide +kernel
theorem dX9_count_155 : decode cX9_count 155 = .ok (.getfield 242, 3) := by decide +kernel
theorem dX9_count_158 : decode cX9_count 158 = .ok (.ireturn, 1) := by decide +kernel
theorem dX9_count_159 : decode cX9_count 159 = .ok (.aload_n 0, 1) := by decide +kernel
theorem dX9_count_160 : decode cX9_count 160 = .ok (.getfield 10, 3) := by decide +kernel
theorem dX9_count_163 : decode cX9_count 163 = .ok (.getfield 245, 3) := by decide +kernel
theorem dX9_count_166 : decode cX9_count 166 = .ok (.ireturn, 1) := by decide +kernel
theorem dX9_count_167 : decode cX9_count 167 = .ok (.aload_n 0, 1) := by decide +kernel
theorem dX9_count_168 : decode cX9_count 168 = .ok (.getfield 10, 3) := by decide +kernel
theorem dX9_count_171 : decode cX9_count 171 = .ok (.invokevirtual 248, 3) := by decide +kernel
theorem dX9_count_174 : decode cX9_count 174 = .ok (.ireturn, 1) := by decide +kernel
theorem dX9_count_175 : decode cX9_count 175 = .ok (.aload_n 0, 1) := by decide +kernel
theorem dX9_count_176 : decode cX9_count 176 = .ok (.invokevirtual 251, 3) := by decide +kernel
theorem dX9_count_179 : decode cX9_count 179 = .ok (.invokevirtual 255, 3) := by decide +kernel
theorem dX9_count_182 : decode cX9_count 182 = .ok (.ireturn, 1) := by decide +kernel
theorem dX9_count_183 : decode cX9_count 183 = .ok (.aload_n 0, 1) := by decide +kernel
theorem dX9_count_184 : decode cX9_count 184 = .ok (.getfield 22, 3) := by decide +kernel
theorem dX9_count_187 : decode cX9_count 187 = .ok (.getfield 79, 3) := by decide +kernel
theorem dX9_count_190 : decode cX9_count 190 = .ok (.ireturn, 1) := by decide +kernel
theorem dX9_count_191 : decode cX9_count 191 = .ok (.aload_n 0, 1) := by decide +kernel
theorem dX9_count_192 : decode cX9_count 192 = .ok (.getfield 10, 3) := by decide +kernel
theorem dX9_count_195 : decode cX9_count 195 = .ok (.getfield 258, 3) := by decide +kernel
theorem dX9_count_198 : decode cX9_count 198 = .ok (.ireturn, 1) := by decide +kernel
theorem dX9_count_199 : decode cX9_count 199 = .ok (.iconst (-1), 1) := by decide +kernel
theorem dX9_count_200 : decode cX9_count 200 = .ok (.ireturn, 1) := by decide +kernel
theorem dX9_road_0 : decode cX9_road 0 = .ok (.aload_n 0, 1) := by decide +kernel
theorem dX9_road_1 : decode cX9_road 1 = .ok (.getfield 10, 3) := by decide +kernel
theorem dX9_road_4 : decode cX9_road 4 = .ok (.getfield 148, 3) := by decide +kernel
theorem dX9_road_7 : decode cX9_road 7 = .ok (.astore_n 3, 1) := by decide +kernel
theorem dX9_road_8 : decode cX9_road 8 = .ok (.aload_n 3, 1) := by decide +kernel
theorem dX9_road_9 : decode cX9_road 9 = .ok (.iload_n 1, 1) := by decide +kernel
theorem dX9_road_10 : decode cX9_road 10 = .ok (.invokevirtual 195, 3) := by decide +kernel
theorem dX9_road_13 : decode cX9_road 13 = .ok (.ifCond .ne 7, 3) := by decide +kernel
theorem dX9_road_16 : decode cX9_road 16 = .ok (.ldc2_w 261, 3) := by decide +kernel
theorem dX9_road_19 : decode cX9_road 19 = .ok (.lreturn, 1) := by decide +kernel
theorem dX9_road_20 : decode cX9_road 20 = .ok (.iload_n 2, 1) := by decide +kernel
theorem dX9_road_21 : decode cX9_road 21 = .ok (.tableswitch 118 0 5 #[39, 47, 55, 63, 77, 94], 39) := by decide +kernel
theorem dX9_road_60 : decode cX9_road 60 = .ok (.aload_n 3, 1) := by decide +kernel
theorem dX9_road_61 : decode cX9_road 61 = .ok (.getfield 263, 3) := by decide +kernel
theorem dX9_road_64 : decode cX9_road 64 = .ok (.iload_n 1, 1) := by decide +kernel
theorem dX9_road_65 : decode cX9_road 65 = .ok (.iaload, 1) := by decide +kernel
theorem dX9_road_66 : decode cX9_road 66 = .ok (.i2l, 1) := by decide +kernel
theorem dX9_road_67 : decode cX9_road 67 = .ok (.lreturn, 1) := by decide +kernel
theorem dX9_road_68 : decode cX9_road 68 = .ok (.aload_n 3, 1) := by decide +kernel
theorem dX9_road_69 : decode cX9_road 69 = .ok (.getfield 266, 3) := by decide +kernel
theorem dX9_road_72 : decode cX9_road 72 = .ok (.iload_n 1, 1) := by decide +kernel
theorem dX9_road_73 : decode cX9_road 73 = .ok (.iaload, 1) := by decide +kernel
theorem dX9_road_74 : decode cX9_road 74 = .ok (.i2l, 1) := by decide +kernel
theorem dX9_road_75 : decode cX9_road 75 = .ok (.lreturn, 1) := by decide +kernel
theorem dX9_road_76 : decode cX9_road 76 = .ok (.aload_n 3, 1) := by decide +kernel
theorem dX9_road_77 : decode cX9_road 77 = .ok (.getfield 198, 3) := by decide +kernel
theorem dX9_road_80 : decode cX9_road 80 = .ok (.iload_n 1, 1) := by decide +kernel
theorem dX9_road_81 : decode cX9_road 81 = .ok (.iaload, 1) := by decide +kernel
theorem dX9_road_82 : decode cX9_road 82 = .ok (.i2l, 1) := by decide +kernel
theorem dX9_road_83 : decode cX9_road 83 = .ok (.lreturn, 1) := by decide +kernel
theorem dX9_road_84 : decode cX9_road 84 = .ok (.aload_n 3, 1) := by decide +kernel
theorem dX9_road_85 : decode cX9_road 85 = .ok (.iload_n 1, 1) := by decide +kernel
theorem dX9_road_86 : decode cX9_road 86 = .ok (.invokevirtual 201, 3) := by decide +kernel
theorem dX9_road_89 : decode cX9_road 89 = .ok (.ifCond .eq 7, 3) := by decide +kernel
theorem dX9_road_92 : decode cX9_road 92 = .ok (.lconst 1, 1) := by decide +kernel
theorem dX9_road_93 : decode cX9_road 93 = .ok (.goto 4, 3) := by decide +kernel
theorem dX9_road_96 : decode cX9_road 96 = .ok (.lconst 0, 1) := by decide +kernel
theorem dX9_road_97 : decode cX9_road 97 = .ok (.lreturn, 1) := by decide +kernel
theorem dX9_road_98 : decode cX9_road 98 = .ok (.aload_n 0, 1) := by decide +kernel
theorem dX9_road_99 : decode cX9_road 99 = .ok (.getfield 10, 3) := by decide +kernel
theorem dX9_road_102 : decode cX9_road 102 = .ok (.iload_n 1, 1) := by decide +kernel
theorem dX9_road_103 : decode cX9_road 103 = .ok (.invokevirtual 269, 3) := by decide +kernel
theorem dX9_road_106 : decode cX9_road 106 = .ok (.ifCond .eq 7, 3) := by decide +kernel
theorem dX9_road_109 : decode cX9_road 109 = .ok (.lconst 1, 1) := by decide +kernel
theorem dX9_road_110 : decode cX9_road 110 = .ok (.goto 4, 3) := by decide +kernel
theorem dX9_road_113 : decode cX9_road 113 = .ok (.lconst 0, 1) := by decide +kernel
theorem dX9_road_114 : decode cX9_road 114 = .ok (.lreturn, 1) := by decide +kernel
theorem dX9_road_115 : decode cX9_road 115 = .ok (.aload_n 0, 1) := by decide +kernel
theorem dX9_road_116 : decode cX9_road 116 = .ok (.getfield 10, 3) := by decide +kernel
theorem dX9_road_119 : decode cX9_road 119 = .ok (.getfield 272, 3) := by decide +kernel
theorem dX9_road_122 : decode cX9_road 122 = .ok (.aload_n 3, 1) := by decide +kernel
theorem dX9_road_123 : decode cX9_road 123 = .ok (.getfield 266, 3) := by decide +kernel
theorem dX9_road_126 : decode cX9_road 126 = .ok (.iload_n 1, 1) := by decide +kernel
theorem dX9_road_127 : decode cX9_road 127 = .ok (.iaload, 1) := by decide +kernel
theorem dX9_road_128 : decode cX9_road 128 = .ok (.iaload, 1) := by decide +kernel
theorem dX9_road_129 : decode cX9_road 129 = .ok (.iload_n 1, 1) := by decide +kernel
theorem dX9_road_130 : decode cX9_road 130 = .ok (.if_icmp .ne 7, 3) := by decide +kernel
theorem dX9_road_133 : decode cX9_road 133 = .ok (.lconst 1, 1) := by decide +kernel
theorem dX9_road_134 : decode cX9_road 134 = .ok (.goto 4, 3) := by decide +kernel
theorem dX9_road_137 : decode cX9_road 137 = .ok (.lconst 0, 1) := by decide +kernel
theorem dX9_road_138 : decode cX9_road 138 = .ok (.lreturn, 1) := by decide +kernel
theorem dX9_road_139 : decode cX9_road 139 = .ok (.ldc2_w 261, 3) := by decide +kernel
theorem dX9_road_142 : decode cX9_road 142 = .ok (.lreturn, 1) := by decide +kernel
theorem dX9_change_0 : decode cX9_change 0 = .ok (.aload_n 0, 1) := by decide +kernel
theorem dX9_change_1 : decode cX9_change 1 = .ok (.getfield 10, 3) := by decide +kernel
theorem dX9_change_4 : decode cX9_change 4 = .ok (.getfield 148, 3) := by decide +kernel
theorem dX9_change_7 : decode cX9_change 7 = .ok (.iload_n 1, 1) := by decide +kernel
theorem dX9_change_8 : decode cX9_change 8 = .ok (.invokevirtual 201, 3) := by decide +kernel
theorem dX9_change_11 : decode cX9_change 11 = .ok (.ifCond .ne 7, 3) := by decide +kernel
theorem dX9_change_14 : decode cX9_change 14 = .ok (.ldc2_w 261, 3) := by decide +kernel
theorem dX9_change_17 : decode cX9_change 17 = .ok (.lreturn, 1) := by decide +kernel
theorem dX9_change_18 : decode cX9_change 18 = .ok (.aload_n 0, 1) := by decide +kernel
theorem dX9_change_19 : decode cX9_change 19 = .ok (.getfield 10, 3) := by decide +kernel
theorem dX9_change_22 : decode cX9_change 22 = .ok (.iload_n 1, 1) := by decide +kernel
theorem dX9_change_23 : decode cX9_change 23 = .ok (.invokevirtual 275, 3) := by decide +kernel
theorem dX9_change_26 : decode cX9_change 26 = .ok (.lstore_n 3, 1) := by decide +kernel
theorem dX9_change_27 : decode cX9_change 27 = .ok (.iload_n 2, 1) := by decide +kernel
theorem dX9_change_28 : decode cX9_change 28 = .ok (.tableswitch 83 0 2 #[28, 30, 67], 28) := by decide +kernel
theorem dX9_change_56 : decode cX9_change 56 = .ok (.lload_n 3, 1) := by decide +kernel
theorem dX9_change_57 : decode cX9_change 57 = .ok (.lreturn, 1) := by decide +kernel
theorem dX9_change_58 : decode cX9_change 58 = .ok (.lload_n 3, 1) := by decide +kernel
theorem dX9_change_59 : decode cX9_change 59 = .ok (.lconst 0, 1) := by decide +kernel
theorem dX9_change_60 : decode cX9_change 60 = .ok (.lcmp, 1) := by decide +kernel
theorem dX9_change_61 : decode cX9_change 61 = .ok (.ifCond .ne 30, 3) := by decide +kernel
theorem dX9_change_64 : decode cX9_change 64 = .ok (.aload_n 0, 1) := by decide +kernel
theorem dX9_change_65 : decode cX9_change 65 = .ok (.getfield 10, 3) := by decide +kernel
theorem dX9_change_68 : decode cX9_change 68 = .ok (.aload_n 0, 1) := by decide +kernel
theorem dX9_change_69 : decode cX9_change 69 = .ok (.getfield 10, 3) := by decide +kernel
theorem dX9_change_72 : decode cX9_change 72 = .ok (.getfield 148, 3) := by decide +kernel
theorem dX9_change_75 : decode cX9_change 75 = .ok (.getfield 266, 3) := by decide +kernel
theorem dX9_change_78 : decode cX9_change 78 = .ok (.iload_n 1, 1) := by decide +kernel
theorem dX9_change_79 : decode cX9_change 79 = .ok (.iaload, 1) := by decide +kernel
theorem dX9_change_80 : decode cX9_change 80 = .ok (.invokevirtual 279, 3) := by decide +kernel
theorem dX9_change_83 : decode cX9_change 83 = .ok (.iconst 1, 1) := by decide +kernel
theorem dX9_change_84 : decode cX9_change 84 = .ok (.if_icmp .ne 7, 3) := by decide +kernel
theorem dX9_change_87 : decode cX9_change 87 = .ok (.lconst 0, 1) := by decide +kernel
theorem dX9_change_88 : decode cX9_change 88 = .ok (.goto 6, 3) := by decide +kernel
theorem dX9_change_91 : decode cX9_change 91 = .ok (.ldc2_w 282, 3) := by decide +kernel
theorem dX9_change_94 : decode cX9_change 94 = .ok (.lreturn, 1) := by decide +kernel
theorem dX9_change_95 : decode cX9_change 95 = .ok (.lload_n 3, 1) := by decide +kernel
theorem dX9_change_96 : decode cX9_change 96 = .ok (.ldc2_w 261, 3) := by decide +kernel
theorem dX9_change_99 : decode cX9_change 99 = .ok (.lcmp, 1) := by decide +kernel
theorem dX9_change_100 : decode cX9_change 100 = .ok (.ifCond .ne 9, 3) := by decide +kernel
theorem dX9_change_103 : decode cX9_change 103 = .ok (.ldc2_w 282, 3) := by decide +kernel
theorem dX9_change_106 : decode cX9_change 106 = .ok (.goto 4, 3) := by decide +kernel
theorem dX9_change_109 : decode cX9_change 109 = .ok (.lload_n 3, 1) := by decide +kernel
theorem dX9_change_110 : decode cX9_change 110 = .ok (.lreturn, 1) := by decide +kernel
theorem dX9_change_111 : decode cX9_change 111 = .ok (.ldc2_w 261, 3) := by decide +kernel
theorem dX9_change_114 : decode cX9_change 114 = .ok (.lreturn, 1) := by decide +kernel
theorem dX9_town_0 : decode cX9_town 0 = .ok (.aload_n 0, 1) := by decide +kernel
theorem dX9_town_1 : decode cX9_town 1 = .ok (.getfield 10, 3) := by decide +kernel
theorem dX9_town_4 : decode cX9_town 4 = .ok (.getfield 148, 3) := by decide +kernel
theorem dX9_town_7 : decode cX9_town 7 = .ok (.iload_n 1, 1) := by decide +kernel
theorem dX9_town_8 : decode cX9_town 8 = .ok (.invokevirtual 176, 3) := by decide +kernel
theorem dX9_town_11 : decode cX9_town 11 = .ok (.ifCond .ne 7, 3) := by decide +kernel
theorem dX9_town_14 : decode cX9_town 14 = .ok (.ldc2_w 261, 3) := by decide +kernel
theorem dX9_town_17 : decode cX9_town 17 = .ok (.lreturn, 1) := by decide +kernel
theorem dX9_town_18 : decode cX9_town 18 = .ok (.iload_n 2, 1) := by decide +kernel
theorem dX9_town_19 : decode cX9_town 19 = .ok (.tableswitch 323 0 15 #[77, 87, 117, 141, 151, 164, 188, 195, 221, 230, 246, 274, 284, 294, 307, 313], 77) := by decide +kernel
theorem dX9_town_96 : decode cX9_town 96 = .ok (.aload_n 0, 1) := by decide +kernel
theorem dX9_town_97 : decode cX9_town 97 = .ok (.getfield 10, 3) := by decide +kernel
theorem dX9_town_100 : decode cX9_town 100 = .ok (.getfield 284, 3) := by decide +kernel
theorem dX9_town_103 : decode cX9_town 103 = .ok (.iload_n 1, 1) := by decide +kernel
theorem dX9_town_104 : decode cX9_town 104 = .ok (.laload, 1) := by decide +kernel
theorem dX9_town_105 : decode cX9_town 105 = .ok (.lreturn, 1) := by decide +kernel
theorem dX9_town_106 : decode cX9_town 106 = .ok (.aload_n 0, 1) := by decide +kernel
theorem dX9_town_107 : decode cX9_town 107 = .ok (.getfield 10, 3) := by decide +kernel
theorem dX9_town_110 : decode cX9_town 110 = .ok (.getfield 272, 3) := by decide +kernel
theorem dX9_town_113 : decode cX9_town 113 = .ok (.iload_n 1, 1) := by decide +kernel
theorem dX9_town_114 : decode cX9_town 114 = .ok (.iaload, 1) := by decide +kernel
theorem dX9_town_115 : decode cX9_town 115 = .ok (.iconst (-1), 1) := by decide +kernel
theorem dX9_town_116 : decode cX9_town 116 = .ok (.if_icmp .ne 9, 3) := by decide +kernel
theorem dX9_town_119 : decode cX9_town 119 = .ok (.ldc2_w 287, 3) := by decide +kernel
theorem dX9_town_122 : decode cX9_town 122 = .ok (.goto 13, 3) := by decide +kernel
theorem dX9_town_125 : decode cX9_town 125 = .ok (.aload_n 0, 1) := by decide +kernel
theorem dX9_town_126 : decode cX9_town 126 = .ok (.getfield 10, 3) := by decide +kernel
theorem dX9_town_129 : decode cX9_town 129 = .ok (.getfield 272, 3) := by decide +kernel
theorem dX9_town_132 : decode cX9_town 132 = .ok (.iload_n 1, 1) := by decide +kernel
theorem dX9_town_133 : decode cX9_town 133 = .ok (.iaload, 1) := by decide +kernel
theorem dX9_town_134 : decode cX9_town 134 = .ok (.i2l, 1) := by decide +kernel
theorem dX9_town_135 : decode cX9_town 135 = .ok (.lreturn, 1) := by decide +kernel
theorem dX9_town_136 : decode cX9_town 136 = .ok (.aload_n 0, 1) := by decide +kernel
theorem dX9_town_137 : decode cX9_town 137 = .ok (.getfield 10, 3) := by decide +kernel
theorem dX9_town_140 : decode cX9_town 140 = .ok (.iload_n 1, 1) := by decide +kernel
theorem dX9_town_141 : decode cX9_town 141 = .ok (.invokevirtual 289, 3) := by decide +kernel
theorem dX9_town_144 : decode cX9_town 144 = .ok (.ifCond .eq 12, 3) := by decide +kernel
theorem dX9_town_147 : decode cX9_town 147 = .ok (.aload_n 0, 1) := by decide +kernel
theorem dX9_town_148 : decode cX9_town 148 = .ok (.iload_n 1, 1) := by decide +kernel
theorem dX9_town_149 : decode cX9_town 149 = .ok (.invokevirtual 292, 3) := by decide +kernel
theorem dX9_town_152 : decode cX9_town 152 = .ok (.i2l, 1) := by decide +kernel
theorem dX9_town_153 : decode cX9_town 153 = .ok (.goto 6, 3) := by decide +kernel
theorem dX9_town_156 : decode cX9_town 156 = .ok (.ldc2_w 287, 3) := by decide +kernel
theorem dX9_town_159 : decode cX9_town 159 = .ok (.lreturn, 1) := by decide +kernel
theorem dX9_town_160 : decode cX9_town 160 = .ok (.aload_n 0, 1) := by decide +kernel
theorem dX9_town_161 : decode cX9_town 161 = .ok (.getfield 10, 3) := by decide +kernel
theorem dX9_town_164 : decode cX9_town 164 = .ok (.iload_n 1, 1) := by decide +kernel
theorem dX9_town_165 : decode cX9_town 165 = .ok (.invokevirtual 279, 3) := by decide +kernel
theorem dX9_town_168 : decode cX9_town 168 = .ok (.i2l, 1) := by decide +kernel
theorem dX9_town_169 : decode cX9_town 169 = .ok (.lreturn, 1) := by decide +kernel
theorem dX9_town_170 : decode cX9_town 170 = .ok (.aload_n 0, 1) := by decide +kernel
theorem dX9_town_171 : decode cX9_town 171 = .ok (.getfield 43, 3) := by decide +kernel
theorem dX9_town_174 : decode cX9_town 174 = .ok (.aload_n 0, 1) := by decide +kernel
theorem dX9_town_175 : decode cX9_town 175 = .ok (.getfield 10, 3) := by decide +kernel
theorem dX9_town_178 : decode cX9_town 178 = .ok (.iload_n 1, 1) := by decide +kernel
theorem dX9_town_179 : decode cX9_town 179 = .ok (.invokevirtual 295, 3) := by decide +kernel
theorem dX9_town_182 : decode cX9_town 182 = .ok (.lreturn, 1) := by decide +kernel
theorem dX9_town_183 : decode cX9_town 183 = .ok (.aload_n 0, 1) := by decide +kernel
theorem dX9_town_184 : decode cX9_town 184 = .ok (.getfield 10, 3) := by decide +kernel
theorem dX9_town_187 : decode cX9_town 187 = .ok (.iload_n 1, 1) := by decide +kernel
theorem dX9_town_188 : decode cX9_town 188 = .ok (.invokevirtual 289, 3) := by decide +kernel
theorem dX9_town_191 : decode cX9_town 191 = .ok (.ifCond .eq 12, 3) := by decide +kernel
theorem dX9_town_194 : decode cX9_town 194 = .ok (.aload_n 0, 1) := by decide +kernel
theorem dX9_town_195 : decode cX9_town 195 = .ok (.iload_n 1, 1) := by decide +kernel
theorem dX9_town_196 : decode cX9_town 196 = .ok (.invokevirtual 299, 3) := by decide +kernel
theorem dX9_town_199 : decode cX9_town 199 = .ok (.i2l, 1) := by decide +kernel
theorem dX9_town_200 : decode cX9_town 200 = .ok (.goto 6, 3) := by decide +kernel
theorem dX9_town_203 : decode cX9_town 203 = .ok (.ldc2_w 287, 3) := by decide +kernel
theorem dX9_town_206 : decode cX9_town 206 = .ok (.lreturn, 1) := by decide +kernel
theorem dX9_town_207 : decode cX9_town 207 = .ok (.aload_n 0, 1) := by decide +kernel
theorem dX9_town_208 : decode cX9_town 208 = .ok (.iload_n 1, 1) := by decide +kernel
theorem dX9_town_209 : decode cX9_town 209 = .ok (.invokevirtual 302, 3) := by decide +kernel
theorem dX9_town_212 : decode cX9_town 212 = .ok (.i2l, 1) := by decide +kernel
theorem dX9_town_213 : decode cX9_town 213 = .ok (.lreturn, 1) := by decide +kernel
theorem dX9_town_214 : decode cX9_town 214 = .ok (.aload_n 0, 1) := by decide +kernel
theorem dX9_town_215 : decode cX9_town 215 = .ok (.getfield 10, 3) := by decide +kernel
theorem dX9_town_218 : decode cX9_town 218 = .ok (.iload_n 1, 1) := by decide +kernel
theorem dX9_town_219 : decode cX9_town 219 = .ok (.invokevirtual 289, 3) := by decide +kernel
theorem dX9_town_222 : decode cX9_town 222 = .ok (.ifCond .eq 14, 3) := by decide +kernel
theorem dX9_town_225 : decode cX9_town 225 = .ok (.aload_n 0, 1) := by decide +kernel
theorem dX9_town_226 : decode cX9_town 226 = .ok (.getfield 52, 3) := by decide +kernel
theorem dX9_town_229 : decode cX9_town 229 = .ok (.iload_n 1, 1) := by decide +kernel
theorem dX9_town_230 : decode cX9_town 230 = .ok (.invokevirtual 305, 3) := by decide +kernel
theorem dX9_town_233 : decode cX9_town 233 = .ok (.goto 6, 3) := by decide +kernel
theorem dX9_town_236 : decode cX9_town 236 = .ok (.ldc2_w 261, 3) := by decide +kernel
theorem dX9_town_239 : decode cX9_town 239 = .ok (.lreturn, 1) := by decide +kernel
theorem dX9_town_240 : decode cX9_town 240 = .ok (.aload_n 0, 1) := by decide +kernel
theorem dX9_town_241 : decode cX9_town 241 = .ok (.invokevirtual 251, 3) := by decide +kernel
theorem dX9_town_244 : decode cX9_town 244 = .ok (.iload_n 1, 1) := by decide +kernel
theorem dX9_town_245 : decode cX9_town 245 = .ok (.invokevirtual 308, 3) := by decide +kernel
theorem dX9_town_248 : decode cX9_town 248 = .ok (.lreturn, 1) := by decide +kernel
theorem dX9_town_249 : decode cX9_town 249 = .ok (.aload_n 0, 1) := by decide +kernel
theorem dX9_town_250 : decode cX9_town 250 = .ok (.invokevirtual 251, 3) := by decide +kernel
theorem dX9_town_253 : decode cX9_town 253 = .ok (.aload_n 0, 1) := by decide +kernel
theorem dX9_town_254 : decode cX9_town 254 = .ok (.getfield 10, 3) := by decide +kernel
theorem dX9_town_257 : decode cX9_town 257 = .ok (.getfield 148, 3) := by decide +kernel
theorem dX9_town_260 : decode cX9_town 260 = .ok (.iload_n 1, 1) := by decide +kernel
theorem dX9_town_261 : decode cX9_town 261 = .ok (.invokevirtual 311, 3) := by decide +kernel
theorem dX9_town_264 : decode cX9_town 264 = .ok (.lreturn, 1) := by decide +kernel
theorem dX9_town_265 : decode cX9_town 265 = .ok (.aload_n 0, 1) := by decide +kernel
theorem dX9_town_266 : decode cX9_town 266 = .ok (.getfield 10, 3) := by decide +kernel
theorem dX9_town_269 : decode cX9_town 269 = .ok (.iload_n 1, 1) := by decide +kernel
theorem dX9_town_270 : decode cX9_town 270 = .ok (.invokevirtual 315, 3) := by decide +kernel
theorem dX9_town_273 : decode cX9_town 273 = .ok (.ifCond .eq 16, 3) := by decide +kernel
theorem dX9_town_276 : decode cX9_town 276 = .ok (.aload_n 0, 1) := by decide +kernel
theorem dX9_town_277 : decode cX9_town 277 = .ok (.getfield 10, 3) := by decide +kernel
theorem dX9_town_280 : decode cX9_town 280 = .ok (.getfield 318, 3) := by decide +kernel
theorem dX9_town_283 : decode cX9_town 283 = .ok (.iload_n 1, 1) := by decide +kernel
theorem dX9_town_284 : decode cX9_town 284 = .ok (.iaload, 1) := by decide +kernel
theorem dX9_town_285 : decode cX9_town 285 = .ok (.i2l, 1) := by decide +kernel
theorem dX9_town_286 : decode cX9_town 286 = .ok (.goto 6, 3) := by decide +kernel
theorem dX9_town_289 : decode cX9_town 289 = .ok (.ldc2_w 261, 3) := by decide +kernel
theorem dX9_town_292 : decode cX9_town 292 = .ok (.lreturn, 1) := by decide +kernel
theorem dX9_town_293 : decode cX9_town 293 = .ok (.aload_n 0, 1) := by decide +kernel
theorem dX9_town_294 : decode cX9_town 294 = .ok (.getfield 10, 3) := by decide +kernel
theorem dX9_town_297 : decode cX9_town 297 = .ok (.iload_n 1, 1) := by decide +kernel
theorem dX9_town_298 : decode cX9_town 298 = .ok (.invokevirtual 321, 3) := by decide +kernel
theorem dX9_town_301 : decode cX9_town 301 = .ok (.i2l, 1) := by decide +kernel
theorem dX9_town_302 : decode cX9_town 302 = .ok (.lreturn, 1) := by decide +kernel
theorem dX9_town_303 : decode cX9_town 303 = .ok (.aload_n 0, 1) := by decide +kernel
theorem dX9_town_304 : decode cX9_town 304 = .ok (.invokevirtual 251, 3) := by decide +kernel
theorem dX9_town_307 : decode cX9_town 307 = .ok (.iload_n 1, 1) := by decide +kernel
theorem dX9_town_308 : decode cX9_town 308 = .ok (.invokevirtual 324, 3) := by decide +kernel
theorem dX9_town_311 : decode cX9_town 311 = .ok (.i2l, 1) := by decide +kernel
theorem dX9_town_312 : decode cX9_town 312 = .ok (.lreturn, 1) := by decide +kernel
theorem dX9_town_313 : decode cX9_town 313 = .ok (.aload_n 0, 1) := by decide +kernel
theorem dX9_town_314 : decode cX9_town 314 = .ok (.getfield 43, 3) := by decide +kernel
theorem dX9_town_317 : decode cX9_town 317 = .ok (.aload_n 0, 1) := by decide +kernel
theorem dX9_town_318 : decode cX9_town 318 = .ok (.getfield 10, 3) := by decide +kernel
theorem dX9_town_321 : decode cX9_town 321 = .ok (.iload_n 1, 1) := by decide +kernel
theorem dX9_town_322 : decode cX9_town 322 = .ok (.invokevirtual 327, 3) := by decide +kernel
theorem dX9_town_325 : decode cX9_town 325 = .ok (.lreturn, 1) := by decide +kernel
theorem dX9_town_326 : decode cX9_town 326 = .ok (.aload_n 0, 1) := by decide +kernel
theorem dX9_town_327 : decode cX9_town 327 = .ok (.iload_n 1, 1) := by decide +kernel
theorem dX9_town_328 : decode cX9_town 328 = .ok (.invokevirtual 330, 3) := by decide +kernel
theorem dX9_town_331 : decode cX9_town 331 = .ok (.lreturn, 1) := by decide +kernel
theorem dX9_town_332 : decode cX9_town 332 = .ok (.aload_n 0, 1) := by decide +kernel
theorem dX9_town_333 : decode cX9_town 333 = .ok (.invokevirtual 251, 3) := by decide +kernel
theorem dX9_town_336 : decode cX9_town 336 = .ok (.iload_n 1, 1) := by decide +kernel
theorem dX9_town_337 : decode cX9_town 337 = .ok (.invokevirtual 333, 3) := by decide +kernel
theorem dX9_town_340 : decode cX9_town 340 = .ok (.i2l, 1) := by decide +kernel
theorem dX9_town_341 : decode cX9_town 341 = .ok (.lreturn, 1) := by decide +kernel
theorem dX9_town_342 : decode cX9_town 342 = .ok (.ldc2_w 261, 3) := by decide +kernel
theorem dX9_town_345 : decode cX9_town 345 = .ok (.lreturn, 1) := by decide +kernel
theorem dX9_rightPairs_0 : decode cX9_rightPairs 0 = .ok (.aload_n 0, 1) := by decide +kernel
theorem dX9_rightPairs_1 : decode cX9_rightPairs 1 = .ok (.getfield 36, 3) := by decide +kernel
theorem dX9_rightPairs_4 : decode cX9_rightPairs 4 = .ok (.getfield 145, 3) := by decide +kernel
theorem dX9_rightPairs_7 : decode cX9_rightPairs 7 = .ok (.ifCond .ne 17, 3) := by decide +kernel
theorem dX9_rightPairs_10 : decode cX9_rightPairs 10 = .ok (.aload_n 0, 1) := by decide +kernel
theorem dX9_rightPairs_11 : decode cX9_rightPairs 11 = .ok (.getfield 36, 3) := by decide +kernel
theorem dX9_rightPairs_14 : decode cX9_rightPairs 14 = .ok (.aload_n 0, 1) := by decide +kernel
