/-! The class: its instructions. -/
theorem dX0_init_0 : decode cX0_init 0 = .ok (.aload_n 0, 1) := by decide +kernel
theorem dX0_init_1 : decode cX0_init 1 = .ok (.invokespecial 3, 3) := by decide +kernel
theorem dX0_init_4 : decode cX0_init 4 = .ok (.aload_n 0, 1) := by decide +kernel
theorem dX0_init_5 : decode cX0_init 5 = .ok (.sipush 400, 3) := by decide +kernel
theorem dX0_init_8 : decode cX0_init 8 = .ok (.newarray .long, 2) := by decide +kernel
theorem dX0_init_10 : decode cX0_init 10 = .ok (.putfield 9, 3) := by decide +kernel
theorem dX0_init_13 : decode cX0_init 13 = .ok (.return_, 1) := by decide +kernel
theorem dX0_copyFrom_0 : decode cX0_copyFrom 0 = .ok (.aload_n 0, 1) := by decide +kernel
theorem dX0_copyFrom_1 : decode cX0_copyFrom 1 = .ok (.aload_n 1, 1) := by decide +kernel
theorem dX0_copyFrom_2 : decode cX0_copyFrom 2 = .ok (.getfield 15, 3) := by decide +kernel
theorem dX0_copyFrom_5 : decode cX0_copyFrom 5 = .ok (.putfield 15, 3) := by decide +kernel
theorem dX0_copyFrom_8 : decode cX0_copyFrom 8 = .ok (.aload_n 1, 1) := by decide +kernel
theorem dX0_copyFrom_9 : decode cX0_copyFrom 9 = .ok (.getfield 9, 3) := by decide +kernel
theorem dX0_copyFrom_12 : decode cX0_copyFrom 12 = .ok (.iconst 0, 1) := by decide +kernel
theorem dX0_copyFrom_13 : decode cX0_copyFrom 13 = .ok (.aload_n 0, 1) := by decide +kernel
theorem dX0_copyFrom_14 : decode cX0_copyFrom 14 = .ok (.getfield 9, 3) := by decide +kernel
theorem dX0_copyFrom_17 : decode cX0_copyFrom 17 = .ok (.iconst 0, 1) := by decide +kernel
theorem dX0_copyFrom_18 : decode cX0_copyFrom 18 = .ok (.aload_n 0, 1) := by decide +kernel
theorem dX0_copyFrom_19 : decode cX0_copyFrom 19 = .ok (.getfield 15, 3) := by decide +kernel
theorem dX0_copyFrom_22 : decode cX0_copyFrom 22 = .ok (.iconst 4, 1) := by decide +kernel
theorem dX0_copyFrom_23 : decode cX0_copyFrom 23 = .ok (.imul, 1) := by decide +kernel
theorem dX0_copyFrom_24 : decode cX0_copyFrom 24 = .ok (.invokestatic 19, 3) := by decide +kernel
theorem dX0_copyFrom_27 : decode cX0_copyFrom 27 = .ok (.return_, 1) := by decide +kernel
theorem dX0_write_0 : decode cX0_write 0 = .ok (.aload_n 0, 1) := by decide +kernel
theorem dX0_write_1 : decode cX0_write 1 = .ok (.getfield 15, 3) := by decide +kernel
theorem dX0_write_4 : decode cX0_write 4 = .ok (.bipush 100, 2) := by decide +kernel
theorem dX0_write_6 : decode cX0_write 6 = .ok (.if_icmp .lt 4, 3) := by decide +kernel
theorem dX0_write_9 : decode cX0_write 9 = .ok (.return_, 1) := by decide +kernel
theorem dX0_write_10 : decode cX0_write 10 = .ok (.aload_n 0, 1) := by decide +kernel
theorem dX0_write_11 : decode cX0_write 11 = .ok (.getfield 15, 3) := by decide +kernel
theorem dX0_write_14 : decode cX0_write 14 = .ok (.iconst 4, 1) := by decide +kernel
theorem dX0_write_15 : decode cX0_write 15 = .ok (.imul, 1) := by decide +kernel
theorem dX0_write_16 : decode cX0_write 16 = .ok (.istore 6, 2) := by decide +kernel
theorem dX0_write_18 : decode cX0_write 18 = .ok (.aload_n 0, 1) := by decide +kernel
theorem dX0_write_19 : decode cX0_write 19 = .ok (.getfield 9, 3) := by decide +kernel
theorem dX0_write_22 : decode cX0_write 22 = .ok (.iload 6, 2) := by decide +kernel
theorem dX0_write_24 : decode cX0_write 24 = .ok (.iload_n 1, 1) := by decide +kernel
theorem dX0_write_25 : decode cX0_write 25 = .ok (.i2l, 1) := by decide +kernel
theorem dX0_write_26 : decode cX0_write 26 = .ok (.lastore, 1) := by decide +kernel
theorem dX0_write_27 : decode cX0_write 27 = .ok (.aload_n 0, 1) := by decide +kernel
theorem dX0_write_28 : decode cX0_write 28 = .ok (.getfield 9, 3) := by decide +kernel
theorem dX0_write_31 : decode cX0_write 31 = .ok (.iload 6, 2) := by decide +kernel
theorem dX0_write_33 : decode cX0_write 33 = .ok (.iconst 1, 1) := by decide +kernel
theorem dX0_write_34 : decode cX0_write 34 = .ok (.iadd, 1) := by decide +kernel
theorem dX0_write_35 : decode cX0_write 35 = .ok (.iload_n 2, 1) := by decide +kernel
theorem dX0_write_36 : decode cX0_write 36 = .ok (.i2l, 1) := by decide +kernel
theorem dX0_write_37 : decode cX0_write 37 = .ok (.lastore, 1) := by decide +kernel
theorem dX0_write_38 : decode cX0_write 38 = .ok (.aload_n 0, 1) := by decide +kernel
theorem dX0_write_39 : decode cX0_write 39 = .ok (.getfield 9, 3) := by decide +kernel
theorem dX0_write_42 : decode cX0_write 42 = .ok (.iload 6, 2) := by decide +kernel
theorem dX0_write_44 : decode cX0_write 44 = .ok (.iconst 2, 1) := by decide +kernel
theorem dX0_write_45 : decode cX0_write 45 = .ok (.iadd, 1) := by decide +kernel
theorem dX0_write_46 : decode cX0_write 46 = .ok (.iload_n 3, 1) := by decide +kernel
theorem dX0_write_47 : decode cX0_write 47 = .ok (.ifCond .eq 7, 3) := by decide +kernel
theorem dX0_write_50 : decode cX0_write 50 = .ok (.lconst 1, 1) := by decide +kernel
theorem dX0_write_51 : decode cX0_write 51 = .ok (.goto 4, 3) := by decide +kernel
theorem dX0_write_54 : decode cX0_write 54 = .ok (.lconst 0, 1) := by decide +kernel
theorem dX0_write_55 : decode cX0_write 55 = .ok (.lastore, 1) := by decide +kernel
theorem dX0_write_56 : decode cX0_write 56 = .ok (.aload_n 0, 1) := by decide +kernel
theorem dX0_write_57 : decode cX0_write 57 = .ok (.getfield 9, 3) := by decide +kernel
theorem dX0_write_60 : decode cX0_write 60 = .ok (.iload 6, 2) := by decide +kernel
theorem dX0_write_62 : decode cX0_write 62 = .ok (.iconst 3, 1) := by decide +kernel
theorem dX0_write_63 : decode cX0_write 63 = .ok (.iadd, 1) := by decide +kernel
theorem dX0_write_64 : decode cX0_write 64 = .ok (.lload 4, 2) := by decide +kernel
theorem dX0_write_66 : decode cX0_write 66 = .ok (.lastore, 1) := by decide +kernel
theorem dX0_write_67 : decode cX0_write 67 = .ok (.aload_n 0, 1) := by decide +kernel
theorem dX0_write_68 : decode cX0_write 68 = .ok (.dup, 1) := by decide +kernel
theorem dX0_write_69 : decode cX0_write 69 = .ok (.getfield 15, 3) := by decide +kernel
theorem dX0_write_72 : decode cX0_write 72 = .ok (.iconst 1, 1) := by decide +kernel
theorem dX0_write_73 : decode cX0_write 73 = .ok (.iadd, 1) := by decide +kernel
theorem dX0_write_74 : decode cX0_write 74 = .ok (.putfield 15, 3) := by decide +kernel
theorem dX0_write_77 : decode cX0_write 77 = .ok (.return_, 1) := by decide +kernel
theorem dX1_init_0 : decode cX1_init 0 = .ok (.aload_n 0, 1) := by decide +kernel
theorem dX1_init_1 : decode cX1_init 1 = .ok (.invokespecial 3, 3) := by decide +kernel
theorem dX1_init_4 : decode cX1_init 4 = .ok (.aload_n 0, 1) := by decide +kernel
theorem dX1_init_5 : decode cX1_init 5 = .ok (.bipush 12, 2) := by decide +kernel
theorem dX1_init_7 : decode cX1_init 7 = .ok (.newarray .long, 2) := by decide +kernel
theorem dX1_init_9 : decode cX1_init 9 = .ok (.putfield 9, 3) := by decide +kernel
theorem dX1_init_12 : decode cX1_init 12 = .ok (.aload_n 0, 1) := by decide +kernel
theorem dX1_init_13 : decode cX1_init 13 = .ok (.aload_n 1, 1) := by decide +kernel
theorem dX1_init_14 : decode cX1_init 14 = .ok (.putfield 15, 3) := by decide +kernel
theorem dX1_init_17 : decode cX1_init 17 = .ok (.return_, 1) := by decide +kernel
theorem dX1_findNext_0 : decode cX1_findNext 0 = .ok (.aload_n 0, 1) := by decide +kernel
theorem dX1_findNext_1 : decode cX1_findNext 1 = .ok (.iload_n 1, 1) := by decide +kernel
theorem dX1_findNext_2 : decode cX1_findNext 2 = .ok (.putfield 19, 3) := by decide +kernel
theorem dX1_findNext_5 : decode cX1_findNext 5 = .ok (.aload_n 0, 1) := by decide +kernel
theorem dX1_findNext_6 : decode cX1_findNext 6 = .ok (.ldc2_w 23, 3) := by decide +kernel
theorem dX1_findNext_9 : decode cX1_findNext 9 = .ok (.putfield 25, 3) := by decide +kernel
theorem dX1_findNext_12 : decode cX1_findNext 12 = .ok (.aload_n 0, 1) := by decide +kernel
theorem dX1_findNext_13 : decode cX1_findNext 13 = .ok (.invokevirtual 29, 3) := by decide +kernel
theorem dX1_findNext_16 : decode cX1_findNext 16 = .ok (.aload_n 0, 1) := by decide +kernel
theorem dX1_findNext_17 : decode cX1_findNext 17 = .ok (.aload_n 0, 1) := by decide +kernel
theorem dX1_findNext_18 : decode cX1_findNext 18 = .ok (.getfield 15, 3) := by decide +kernel
theorem dX1_findNext_21 : decode cX1_findNext 21 = .ok (.getfield 32, 3) := by decide +kernel
theorem dX1_findNext_24 : decode cX1_findNext 24 = .ok (.iconst 1, 1) := by decide +kernel
theorem dX1_findNext_25 : decode cX1_findNext 25 = .ok (.aload_n 0, 1) := by decide +kernel
theorem dX1_findNext_26 : decode cX1_findNext 26 = .ok (.getfield 15, 3) := by decide +kernel
theorem dX1_findNext_29 : decode cX1_findNext 29 = .ok (.getfield 32, 3) := by decide +kernel
theorem dX1_findNext_32 : decode cX1_findNext 32 = .ok (.ishl, 1) := by decide +kernel
theorem dX1_findNext_33 : decode cX1_findNext 33 = .ok (.iconst 0, 1) := by decide +kernel
theorem dX1_findNext_34 : decode cX1_findNext 34 = .ok (.invokevirtual 37, 3) := by decide +kernel
theorem dX1_findNext_37 : decode cX1_findNext 37 = .ok (.aload_n 0, 1) := by decide +kernel
theorem dX1_findNext_38 : decode cX1_findNext 38 = .ok (.getfield 25, 3) := by decide +kernel
theorem dX1_findNext_41 : decode cX1_findNext 41 = .ok (.lreturn, 1) := by decide +kernel
theorem dX1_findUseful_0 : decode cX1_findUseful 0 = .ok (.aload_n 0, 1) := by decide +kernel
theorem dX1_findUseful_1 : decode cX1_findUseful 1 = .ok (.lconst 0, 1) := by decide +kernel
theorem dX1_findUseful_2 : decode cX1_findUseful 2 = .ok (.putfield 41, 3) := by decide +kernel
theorem dX1_findUseful_5 : decode cX1_findUseful 5 = .ok (.iconst 0, 1) := by decide +kernel
theorem dX1_findUseful_6 : decode cX1_findUseful 6 = .ok (.istore_n 1, 1) := by decide +kernel
theorem dX1_findUseful_7 : decode cX1_findUseful 7 = .ok (.iload_n 1, 1) := by decide +kernel
theorem dX1_findUseful_8 : decode cX1_findUseful 8 = .ok (.aload_n 0, 1) := by decide +kernel
theorem dX1_findUseful_9 : decode cX1_findUseful 9 = .ok (.getfield 15, 3) := by decide +kernel
theorem dX1_findUseful_12 : decode cX1_findUseful 12 = .ok (.getfield 44, 3) := by decide +kernel
theorem dX1_findUseful_15 : decode cX1_findUseful 15 = .ok (.getfield 48, 3) := by decide +kernel
theorem dX1_findUseful_18 : decode cX1_findUseful 18 = .ok (.if_icmp .ge 43, 3) := by decide +kernel
theorem dX1_findUseful_21 : decode cX1_findUseful 21 = .ok (.aload_n 0, 1) := by decide +kernel
theorem dX1_findUseful_22 : decode cX1_findUseful 22 = .ok (.getfield 15, 3) := by decide +kernel
theorem dX1_findUseful_25 : decode cX1_findUseful 25 = .ok (.getfield 44, 3) := by decide +kernel
theorem dX1_findUseful_28 : decode cX1_findUseful 28 = .ok (.iload_n 1, 1) := by decide +kernel
theorem dX1_findUseful_29 : decode cX1_findUseful 29 = .ok (.invokevirtual 53, 3) := by decide +kernel
theorem dX1_findUseful_32 : decode cX1_findUseful 32 = .ok (.ifCond .eq 23, 3) := by decide +kernel
theorem dX1_findUseful_35 : decode cX1_findUseful 35 = .ok (.aload_n 0, 1) := by decide +kernel
theorem dX1_findUseful_36 : decode cX1_findUseful 36 = .ok (.iload_n 1, 1) := by decide +kernel
theorem dX1_findUseful_37 : decode cX1_findUseful 37 = .ok (.invokevirtual 57, 3) := by decide +kernel
theorem dX1_findUseful_40 : decode cX1_findUseful 40 = .ok (.ifCond .ne 15, 3) := by decide +kernel
theorem dX1_findUseful_43 : decode cX1_findUseful 43 = .ok (.aload_n 0, 1) := by decide +kernel
theorem dX1_findUseful_44 : decode cX1_findUseful 44 = .ok (.dup, 1) := by decide +kernel
theorem dX1_findUseful_45 : decode cX1_findUseful 45 = .ok (.getfield 41, 3) := by decide +kernel
theorem dX1_findUseful_48 : decode cX1_findUseful 48 = .ok (.lconst 1, 1) := by decide +kernel
theorem dX1_findUseful_49 : decode cX1_findUseful 49 = .ok (.iload_n 1, 1) := by decide +kernel
theorem dX1_findUseful_50 : decode cX1_findUseful 50 = .ok (.lshl, 1) := by decide +kernel
theorem dX1_findUseful_51 : decode cX1_findUseful 51 = .ok (.lor, 1) := by decide +kernel
theorem dX1_findUseful_52 : decode cX1_findUseful 52 = .ok (.putfield 41, 3) := by decide +kernel
theorem dX1_findUseful_55 : decode cX1_findUseful 55 = .ok (.iinc 1 1, 3) := by decide +kernel
theorem dX1_findUseful_58 : decode cX1_findUseful 58 = .ok (.goto (-51), 3) := by decide +kernel
theorem dX1_findUseful_61 : decode cX1_findUseful 61 = .ok (.return_, 1) := by decide +kernel
theorem dX1_hasTwinBefore_0 : decode cX1_hasTwinBefore 0 = .ok (.aload_n 0, 1) := by decide +kernel
theorem dX1_hasTwinBefore_1 : decode cX1_hasTwinBefore 1 = .ok (.getfield 15, 3) := by decide +kernel
theorem dX1_hasTwinBefore_4 : decode cX1_hasTwinBefore 4 = .ok (.getfield 44, 3) := by decide +kernel
theorem dX1_hasTwinBefore_7 : decode cX1_hasTwinBefore 7 = .ok (.astore_n 2, 1) := by decide +kernel
theorem dX1_hasTwinBefore_8 : decode cX1_hasTwinBefore 8 = .ok (.iconst 0, 1) := by decide +kernel
theorem dX1_hasTwinBefore_9 : decode cX1_hasTwinBefore 9 = .ok (.istore_n 3, 1) := by decide +kernel
theorem dX1_hasTwinBefore_10 : decode cX1_hasTwinBefore 10 = .ok (.iload_n 3, 1) := by decide +kernel
theorem dX1_hasTwinBefore_11 : decode cX1_hasTwinBefore 11 = .ok (.iload_n 1, 1) := by decide +kernel
theorem dX1_hasTwinBefore_12 : decode cX1_hasTwinBefore 12 = .ok (.if_icmp .ge 76, 3) := by decide +kernel
theorem dX1_hasTwinBefore_15 : decode cX1_hasTwinBefore 15 = .ok (.aload_n 2, 1) := by decide +kernel
theorem dX1_hasTwinBefore_16 : decode cX1_hasTwinBefore 16 = .ok (.getfield 60, 3) := by decide +kernel
theorem dX1_hasTwinBefore_19 : decode cX1_hasTwinBefore 19 = .ok (.iload_n 3, 1) := by decide +kernel
theorem dX1_hasTwinBefore_20 : decode cX1_hasTwinBefore 20 = .ok (.iaload, 1) := by decide +kernel
theorem dX1_hasTwinBefore_21 : decode cX1_hasTwinBefore 21 = .ok (.aload_n 2, 1) := by decide +kernel
theorem dX1_hasTwinBefore_22 : decode cX1_hasTwinBefore 22 = .ok (.getfield 60, 3) := by decide +kernel
theorem dX1_hasTwinBefore_25 : decode cX1_hasTwinBefore 25 = .ok (.iload_n 1, 1) := by decide +kernel
theorem dX1_hasTwinBefore_26 : decode cX1_hasTwinBefore 26 = .ok (.iaload, 1) := by decide +kernel
theorem dX1_hasTwinBefore_27 : decode cX1_hasTwinBefore 27 = .ok (.if_icmp .ne 22, 3) := by decide +kernel
theorem dX1_hasTwinBefore_30 : decode cX1_hasTwinBefore 30 = .ok (.aload_n 2, 1) := by decide +kernel
theorem dX1_hasTwinBefore_31 : decode cX1_hasTwinBefore 31 = .ok (.getfield 64, 3) := by decide +kernel
theorem dX1_hasTwinBefore_34 : decode cX1_hasTwinBefore 34 = .ok (.iload_n 3, 1) := by decide +kernel
theorem dX1_hasTwinBefore_35 : decode cX1_hasTwinBefore 35 = .ok (.iaload, 1) := by decide +kernel
theorem dX1_hasTwinBefore_36 : decode cX1_hasTwinBefore 36 = .ok (.aload_n 2, 1) := by decide +kernel
theorem dX1_hasTwinBefore_37 : decode cX1_hasTwinBefore 37 = .ok (.getfield 64, 3) := by decide +kernel
theorem dX1_hasTwinBefore_40 : decode cX1_hasTwinBefore 40 = .ok (.iload_n 1, 1) := by decide +kernel
theorem dX1_hasTwinBefore_41 : decode cX1_hasTwinBefore 41 = .ok (.iaload, 1) := by decide +kernel
theorem dX1_hasTwinBefore_42 : decode cX1_hasTwinBefore 42 = .ok (.if_icmp .ne 7, 3) := by decide +kernel
theorem dX1_hasTwinBefore_45 : decode cX1_hasTwinBefore 45 = .ok (.iconst 1, 1) := by decide +kernel
theorem dX1_hasTwinBefore_46 : decode cX1_hasTwinBefore 46 = .ok (.goto 4, 3) := by decide +kernel
theorem dX1_hasTwinBefore_49 : decode cX1_hasTwinBefore 49 = .ok (.iconst 0, 1) := by decide +kernel
theorem dX1_hasTwinBefore_50 : decode cX1_hasTwinBefore 50 = .ok (.istore 4, 2) := by decide +kernel
theorem dX1_hasTwinBefore_52 : decode cX1_hasTwinBefore 52 = .ok (.iload 4, 2) := by decide +kernel
theorem dX1_hasTwinBefore_54 : decode cX1_hasTwinBefore 54 = .ok (.ifCond .eq 28, 3) := by decide +kernel
theorem dX1_hasTwinBefore_57 : decode cX1_hasTwinBefore 57 = .ok (.aload_n 2, 1) := by decide +kernel
theorem dX1_hasTwinBefore_58 : decode cX1_hasTwinBefore 58 = .ok (.getfield 67, 3) := by decide +kernel
theorem dX1_hasTwinBefore_61 : decode cX1_hasTwinBefore 61 = .ok (.iload_n 3, 1) := by decide +kernel
theorem dX1_hasTwinBefore_62 : decode cX1_hasTwinBefore 62 = .ok (.iaload, 1) := by decide +kernel
theorem dX1_hasTwinBefore_63 : decode cX1_hasTwinBefore 63 = .ok (.aload_n 2, 1) := by decide +kernel
theorem dX1_hasTwinBefore_64 : decode cX1_hasTwinBefore 64 = .ok (.getfield 67, 3) := by decide +kernel
theorem dX1_hasTwinBefore_67 : decode cX1_hasTwinBefore 67 = .ok (.iload_n 1, 1) := by decide +kernel
theorem dX1_hasTwinBefore_68 : decode cX1_hasTwinBefore 68 = .ok (.iaload, 1) := by decide +kernel
theorem dX1_hasTwinBefore_69 : decode cX1_hasTwinBefore 69 = .ok (.if_icmp .ne 13, 3) := by decide +kernel
theorem dX1_hasTwinBefore_72 : decode cX1_hasTwinBefore 72 = .ok (.aload_n 2, 1) := by decide +kernel
theorem dX1_hasTwinBefore_73 : decode cX1_hasTwinBefore 73 = .ok (.iload_n 3, 1) := by decide +kernel
theorem dX1_hasTwinBefore_74 : decode cX1_hasTwinBefore 74 = .ok (.invokevirtual 53, 3) := by decide +kernel
theorem dX1_hasTwinBefore_77 : decode cX1_hasTwinBefore 77 = .ok (.ifCond .eq 5, 3) := by decide +kernel
theorem dX1_hasTwinBefore_80 : decode cX1_hasTwinBefore 80 = .ok (.iconst 1, 1) := by decide +kernel
theorem dX1_hasTwinBefore_81 : decode cX1_hasTwinBefore 81 = .ok (.ireturn, 1) := by decide +kernel
theorem dX1_hasTwinBefore_82 : decode cX1_hasTwinBefore 82 = .ok (.iinc 3 1, 3) := by decide +kernel
theorem dX1_hasTwinBefore_85 : decode cX1_hasTwinBefore 85 = .ok (.goto (-75), 3) := by decide +kernel
theorem dX1_hasTwinBefore_88 : decode cX1_hasTwinBefore 88 = .ok (.iconst 0, 1) := by decide +kernel
theorem dX1_hasTwinBefore_89 : decode cX1_hasTwinBefore 89 = .ok (.ireturn, 1) := by decide +kernel
theorem dX1_isUseful_0 : decode cX1_isUseful 0 = .ok (.aload_n 0, 1) := by decide +kernel
theorem dX1_isUseful_1 : decode cX1_isUseful 1 = .ok (.getfield 41, 3) := by decide +kernel
theorem dX1_isUseful_4 : decode cX1_isUseful 4 = .ok (.iload_n 1, 1) := by decide +kernel
theorem dX1_isUseful_5 : decode cX1_isUseful 5 = .ok (.lshr, 1) := by decide +kernel
theorem dX1_isUseful_6 : decode cX1_isUseful 6 = .ok (.lconst 1, 1) := by decide +kernel
theorem dX1_isUseful_7 : decode cX1_isUseful 7 = .ok (.land, 1) := by decide +kernel
theorem dX1_isUseful_8 : decode cX1_isUseful 8 = .ok (.lconst 0, 1) := by decide +kernel
theorem dX1_isUseful_9 : decode cX1_isUseful 9 = .ok (.lcmp, 1) := by decide +kernel
theorem dX1_isUseful_10 : decode cX1_isUseful 10 = .ok (.ifCond .eq 7, 3) := by decide +kernel
theorem dX1_isUseful_13 : decode cX1_isUseful 13 = .ok (.iconst 1, 1) := by decide +kernel
theorem dX1_isUseful_14 : decode cX1_isUseful 14 = .ok (.goto 4, 3) := by decide +kernel
theorem dX1_isUseful_17 : decode cX1_isUseful 17 = .ok (.iconst 0, 1) := by decide +kernel
theorem dX1_isUseful_18 : decode cX1_isUseful 18 = .ok (.ireturn, 1) := by decide +kernel
theorem dX1_dive_0 : decode cX1_dive 0 = .ok (.iload_n 1, 1) := by decide +kernel
theorem dX1_dive_1 : decode cX1_dive 1 = .ok (.aload_n 0, 1) := by decide +kernel
theorem dX1_dive_2 : decode cX1_dive 2 = .ok (.getfield 19, 3) := by decide +kernel
theorem dX1_dive_5 : decode cX1_dive 5 = .ok (.if_icmp .eq 9, 3) := by decide +kernel
theorem dX1_dive_8 : decode cX1_dive 8 = .ok (.iload_n 3, 1) := by decide +kernel
theorem dX1_dive_9 : decode cX1_dive 9 = .ok (.bipush 12, 2) := by decide +kernel
theorem dX1_dive_11 : decode cX1_dive 11 = .ok (.if_icmp .lt 4, 3) := by decide +kernel
theorem dX1_dive_14 : decode cX1_dive 14 = .ok (.return_, 1) := by decide +kernel
theorem dX1_dive_15 : decode cX1_dive 15 = .ok (.aload_n 0, 1) := by decide +kernel
theorem dX1_dive_16 : decode cX1_dive 16 = .ok (.iload_n 2, 1) := by decide +kernel
theorem dX1_dive_17 : decode cX1_dive 17 = .ok (.invokevirtual 70, 3) := by decide +kernel
theorem dX1_dive_20 : decode cX1_dive 20 = .ok (.aload_n 0, 1) := by decide +kernel
theorem dX1_dive_21 : decode cX1_dive 21 = .ok (.getfield 15, 3) := by decide +kernel
theorem dX1_dive_24 : decode cX1_dive 24 = .ok (.getfield 44, 3) := by decide +kernel
theorem dX1_dive_27 : decode cX1_dive 27 = .ok (.astore 4, 2) := by decide +kernel
theorem dX1_dive_29 : decode cX1_dive 29 = .ok (.lconst 0, 1) := by decide +kernel
theorem dX1_dive_30 : decode cX1_dive 30 = .ok (.lstore 5, 2) := by decide +kernel
theorem dX1_dive_32 : decode cX1_dive 32 = .ok (.iconst 0, 1) := by decide +kernel
theorem dX1_dive_33 : decode cX1_dive 33 = .ok (.istore 7, 2) := by decide +kernel
theorem dX1_dive_35 : decode cX1_dive 35 = .ok (.iload 7, 2) := by decide +kernel
theorem dX1_dive_37 : decode cX1_dive 37 = .ok (.aload 4, 2) := by decide +kernel
theorem dX1_dive_39 : decode cX1_dive 39 = .ok (.getfield 48, 3) := by decide +kernel
theorem dX1_dive_42 : decode cX1_dive 42 = .ok (.if_icmp .ge 118, 3) := by decide +kernel
theorem dX1_dive_45 : decode cX1_dive 45 = .ok (.aload 4, 2) := by decide +kernel
theorem dX1_dive_47 : decode cX1_dive 47 = .ok (.getfield 60, 3) := by decide +kernel
theorem dX1_dive_50 : decode cX1_dive 50 = .ok (.iload 7, 2) := by decide +kernel
theorem dX1_dive_52 : decode cX1_dive 52 = .ok (.iaload, 1) := by decide +kernel
theorem dX1_dive_53 : decode cX1_dive 53 = .ok (.iload_n 1, 1) := by decide +kernel
theorem dX1_dive_54 : decode cX1_dive 54 = .ok (.if_icmp .ne 100, 3) := by decide +kernel
theorem dX1_dive_57 : decode cX1_dive 57 = .ok (.aload_n 0, 1) := by decide +kernel
theorem dX1_dive_58 : decode cX1_dive 58 = .ok (.iload 7, 2) := by decide +kernel
theorem dX1_dive_60 : decode cX1_dive 60 = .ok (.invokevirtual 74, 3) := by decide +kernel
theorem dX1_dive_63 : decode cX1_dive 63 = .ok (.ifCond .ne 6, 3) := by decide +kernel
theorem dX1_dive_66 : decode cX1_dive 66 = .ok (.goto 88, 3) := by decide +kernel
theorem dX1_dive_69 : decode cX1_dive 69 = .ok (.aload_n 0, 1) := by decide +kernel
theorem dX1_dive_70 : decode cX1_dive 70 = .ok (.getfield 15, 3) := by decide +kernel
theorem dX1_dive_73 : decode cX1_dive 73 = .ok (.getfield 77, 3) := by decide +kernel
theorem dX1_dive_76 : decode cX1_dive 76 = .ok (.iload_n 1, 1) := by decide +kernel
theorem dX1_dive_77 : decode cX1_dive 77 = .ok (.laload, 1) := by decide +kernel
theorem dX1_dive_78 : decode cX1_dive 78 = .ok (.aload 4, 2) := by decide +kernel
theorem dX1_dive_80 : decode cX1_dive 80 = .ok (.getfield 67, 3) := by decide +kernel
theorem dX1_dive_83 : decode cX1_dive 83 = .ok (.iload 7, 2) := by decide +kernel
theorem dX1_dive_85 : decode cX1_dive 85 = .ok (.iaload, 1) := by decide +kernel
theorem dX1_dive_86 : decode cX1_dive 86 = .ok (.i2l, 1) := by decide +kernel
theorem dX1_dive_87 : decode cX1_dive 87 = .ok (.ladd, 1) := by decide +kernel
theorem dX1_dive_88 : decode cX1_dive 88 = .ok (.aload_n 0, 1) := by decide +kernel
theorem dX1_dive_89 : decode cX1_dive 89 = .ok (.getfield 9, 3) := by decide +kernel
theorem dX1_dive_92 : decode cX1_dive 92 = .ok (.aload 4, 2) := by decide +kernel
theorem dX1_dive_94 : decode cX1_dive 94 = .ok (.getfield 64, 3) := by decide +kernel
theorem dX1_dive_97 : decode cX1_dive 97 = .ok (.iload 7, 2) := by decide +kernel
theorem dX1_dive_99 : decode cX1_dive 99 = .ok (.iaload, 1) := by decide +kernel
theorem dX1_dive_100 : decode cX1_dive 100 = .ok (.laload, 1) := by decide +kernel
theorem dX1_dive_101 : decode cX1_dive 101 = .ok (.invokestatic 80, 3) := by decide +kernel
theorem dX1_dive_104 : decode cX1_dive 104 = .ok (.lstore 8, 2) := by decide +kernel
theorem dX1_dive_106 : decode cX1_dive 106 = .ok (.lload 8, 2) := by decide +kernel
theorem dX1_dive_108 : decode cX1_dive 108 = .ok (.aload_n 0, 1) := by decide +kernel
theorem dX1_dive_109 : decode cX1_dive 109 = .ok (.getfield 15, 3) := by decide +kernel
theorem dX1_dive_112 : decode cX1_dive 112 = .ok (.getfield 77, 3) := by decide +kernel
theorem dX1_dive_115 : decode cX1_dive 115 = .ok (.aload_n 0, 1) := by decide +kernel
theorem dX1_dive_116 : decode cX1_dive 116 = .ok (.getfield 19, 3) := by decide +kernel
theorem dX1_dive_119 : decode cX1_dive 119 = .ok (.laload, 1) := by decide +kernel
theorem dX1_dive_120 : decode cX1_dive 120 = .ok (.lcmp, 1) := by decide +kernel
theorem dX1_dive_121 : decode cX1_dive 121 = .ok (.ifCond .ne 15, 3) := by decide +kernel
theorem dX1_dive_124 : decode cX1_dive 124 = .ok (.lload 5, 2) := by decide +kernel
theorem dX1_dive_126 : decode cX1_dive 126 = .ok (.lconst 1, 1) := by decide +kernel
theorem dX1_dive_127 : decode cX1_dive 127 = .ok (.iload 7, 2) := by decide +kernel
theorem dX1_dive_129 : decode cX1_dive 129 = .ok (.lshl, 1) := by decide +kernel
theorem dX1_dive_130 : decode cX1_dive 130 = .ok (.lor, 1) := by decide +kernel
theorem dX1_dive_131 : decode cX1_dive 131 = .ok (.lstore 5, 2) := by decide +kernel
theorem dX1_dive_133 : decode cX1_dive 133 = .ok (.goto 21, 3) := by decide +kernel
theorem dX1_dive_136 : decode cX1_dive 136 = .ok (.lload 8, 2) := by decide +kernel
theorem dX1_dive_138 : decode cX1_dive 138 = .ok (.aload_n 0, 1) := by decide +kernel
theorem dX1_dive_139 : decode cX1_dive 139 = .ok (.getfield 25, 3) := by decide +kernel
theorem dX1_dive_142 : decode cX1_dive 142 = .ok (.invokestatic 84, 3) := by decide +kernel
theorem dX1_dive_145 : decode cX1_dive 145 = .ok (.ifCond .eq 9, 3) := by decide +kernel
theorem dX1_dive_148 : decode cX1_dive 148 = .ok (.aload_n 0, 1) := by decide +kernel
theorem dX1_dive_149 : decode cX1_dive 149 = .ok (.lload 8, 2) := by decide +kernel
theorem dX1_dive_151 : decode cX1_dive 151 = .ok (.putfield 25, 3) := by decide +kernel
theorem dX1_dive_154 : decode cX1_dive 154 = .ok (.iinc 7 1, 3) := by decide +kernel
theorem dX1_dive_157 : decode cX1_dive 157 = .ok (.goto (-122), 3) := by decide +kernel
theorem dX1_dive_160 : decode cX1_dive 160 = .ok (.iconst 0, 1) := by decide +kernel
theorem dX1_dive_161 : decode cX1_dive 161 = .ok (.istore 7, 2) := by decide +kernel
theorem dX1_dive_163 : decode cX1_dive 163 = .ok (.iload 7, 2) := by decide +kernel
theorem dX1_dive_165 : decode cX1_dive 165 = .ok (.aload 4, 2) := by decide +kernel
theorem dX1_dive_167 : decode cX1_dive 167 = .ok (.getfield 48, 3) := by decide +kernel
theorem dX1_dive_170 : decode cX1_dive 170 = .ok (.if_icmp .ge 48, 3) := by decide +kernel
theorem dX1_dive_173 : decode cX1_dive 173 = .ok (.lload 5, 2) := by decide +kernel
theorem dX1_dive_175 : decode cX1_dive 175 = .ok (.iload 7, 2) := by decide +kernel
theorem dX1_dive_177 : decode cX1_dive 177 = .ok (.lshr, 1) := by decide +kernel
theorem dX1_dive_178 : decode cX1_dive 178 = .ok (.lconst 1, 1) := by decide +kernel
theorem dX1_dive_179 : decode cX1_dive 179 = .ok (.land, 1) := by decide +kernel
theorem dX1_dive_180 : decode cX1_dive 180 = .ok (.lconst 0, 1) := by decide +kernel
theorem dX1_dive_181 : decode cX1_dive 181 = .ok (.lcmp, 1) := by decide +kernel
theorem dX1_dive_182 : decode cX1_dive 182 = .ok (.ifCond .eq 30, 3) := by decide +kernel
theorem dX1_dive_185 : decode cX1_dive 185 = .ok (.aload_n 0, 1) := by decide +kernel
theorem dX1_dive_186 : decode cX1_dive 186 = .ok (.aload 4, 2) := by decide +kernel
theorem dX1_dive_188 : decode cX1_dive 188 = .ok (.getfield 64, 3) := by decide +kernel
theorem dX1_dive_191 : decode cX1_dive 191 = .ok (.iload 7, 2) := by decide +kernel
theorem dX1_dive_193 : decode cX1_dive 193 = .ok (.iaload, 1) := by decide +kernel
theorem dX1_dive_194 : decode cX1_dive 194 = .ok (.iload_n 2, 1) := by decide +kernel
theorem dX1_dive_195 : decode cX1_dive 195 = .ok (.iconst 1, 1) := by decide +kernel
theorem dX1_dive_196 : decode cX1_dive 196 = .ok (.aload 4, 2) := by decide +kernel
theorem dX1_dive_198 : decode cX1_dive 198 = .ok (.getfield 64, 3) := by decide +kernel
theorem dX1_dive_201 : decode cX1_dive 201 = .ok (.iload 7, 2) := by decide +kernel
theorem dX1_dive_203 : decode cX1_dive 203 = .ok (.iaload, 1) := by decide +kernel
theorem dX1_dive_204 : decode cX1_dive 204 = .ok (.ishl, 1) := by decide +kernel
theorem dX1_dive_205 : decode cX1_dive 205 = .ok (.ior, 1) := by decide +kernel
theorem dX1_dive_206 : decode cX1_dive 206 = .ok (.iload_n 3, 1) := by decide +kernel
theorem dX1_dive_207 : decode cX1_dive 207 = .ok (.iconst 1, 1) := by decide +kernel
theorem dX1_dive_208 : decode cX1_dive 208 = .ok (.iadd, 1) := by decide +kernel
theorem dX1_dive_209 : decode cX1_dive 209 = .ok (.invokevirtual 37, 3) := by decide +kernel
theorem dX1_dive_212 : decode cX1_dive 212 = .ok (.iinc 7 1, 3) := by decide +kernel
theorem dX1_dive_215 : decode cX1_dive 215 = .ok (.goto (-52), 3) := by decide +kernel
theorem dX1_dive_218 : decode cX1_dive 218 = .ok (.return_, 1) := by decide +kernel
theorem dX1_settleRest_0 : decode cX1_settleRest 0 = .ok (.aload_n 0, 1) := by decide +kernel
theorem dX1_settleRest_1 : decode cX1_settleRest 1 = .ok (.getfield 15, 3) := by decide +kernel
theorem dX1_settleRest_4 : decode cX1_settleRest 4 = .ok (.getfield 44, 3) := by decide +kernel
theorem dX1_settleRest_7 : decode cX1_settleRest 7 = .ok (.astore_n 2, 1) := by decide +kernel
theorem dX1_settleRest_8 : decode cX1_settleRest 8 = .ok (.aload_n 2, 1) := by decide +kernel
theorem dX1_settleRest_9 : decode cX1_settleRest 9 = .ok (.aload_n 0, 1) := by decide +kernel
theorem dX1_settleRest_10 : decode cX1_settleRest 10 = .ok (.getfield 19, 3) := by decide +kernel
theorem dX1_settleRest_13 : decode cX1_settleRest 13 = .ok (.aload_n 0, 1) := by decide +kernel
theorem dX1_settleRest_14 : decode cX1_settleRest 14 = .ok (.getfield 9, 3) := by decide +kernel
theorem dX1_settleRest_17 : decode cX1_settleRest 17 = .ok (.invokevirtual 88, 3) := by decide +kernel
theorem dX1_settleRest_20 : decode cX1_settleRest 20 = .ok (.iconst 1, 1) := by decide +kernel
theorem dX1_settleRest_21 : decode cX1_settleRest 21 = .ok (.istore_n 3, 1) := by decide +kernel
theorem dX1_settleRest_22 : decode cX1_settleRest 22 = .ok (.iconst 0, 1) := by decide +kernel
theorem dX1_settleRest_23 : decode cX1_settleRest 23 = .ok (.istore 4, 2) := by decide +kernel
theorem dX1_settleRest_25 : decode cX1_settleRest 25 = .ok (.iload 4, 2) := by decide +kernel
theorem dX1_settleRest_27 : decode cX1_settleRest 27 = .ok (.aload_n 2, 1) := by decide +kernel
theorem dX1_settleRest_28 : decode cX1_settleRest 28 = .ok (.getfield 92, 3) := by decide +kernel
theorem dX1_settleRest_31 : decode cX1_settleRest 31 = .ok (.if_icmp .ge 95, 3) := by decide +kernel
theorem dX1_settleRest_34 : decode cX1_settleRest 34 = .ok (.iload_n 3, 1) := by decide +kernel
theorem dX1_settleRest_35 : decode cX1_settleRest 35 = .ok (.ifCond .eq 91, 3) := by decide +kernel
theorem dX1_settleRest_38 : decode cX1_settleRest 38 = .ok (.iconst 0, 1) := by decide +kernel
theorem dX1_settleRest_39 : decode cX1_settleRest 39 = .ok (.istore_n 3, 1) := by decide +kernel
theorem dX1_settleRest_40 : decode cX1_settleRest 40 = .ok (.iconst 0, 1) := by decide +kernel
theorem dX1_settleRest_41 : decode cX1_settleRest 41 = .ok (.istore 5, 2) := by decide +kernel
theorem dX1_settleRest_43 : decode cX1_settleRest 43 = .ok (.iload 5, 2) := by decide +kernel
theorem dX1_settleRest_45 : decode cX1_settleRest 45 = .ok (.aload_n 2, 1) := by decide +kernel
theorem dX1_settleRest_46 : decode cX1_settleRest 46 = .ok (.getfield 48, 3) := by decide +kernel
theorem dX1_settleRest_49 : decode cX1_settleRest 49 = .ok (.if_icmp .ge 71, 3) := by decide +kernel
theorem dX1_settleRest_52 : decode cX1_settleRest 52 = .ok (.aload_n 2, 1) := by decide +kernel
theorem dX1_settleRest_53 : decode cX1_settleRest 53 = .ok (.getfield 60, 3) := by decide +kernel
theorem dX1_settleRest_56 : decode cX1_settleRest 56 = .ok (.iload 5, 2) := by decide +kernel
theorem dX1_settleRest_58 : decode cX1_settleRest 58 = .ok (.iaload, 1) := by decide +kernel
theorem dX1_settleRest_59 : decode cX1_settleRest 59 = .ok (.istore 6, 2) := by decide +kernel
theorem dX1_settleRest_61 : decode cX1_settleRest 61 = .ok (.iload_n 1, 1) := by decide +kernel
theorem dX1_settleRest_62 : decode cX1_settleRest 62 = .ok (.iload 6, 2) := by decide +kernel
theorem dX1_settleRest_64 : decode cX1_settleRest 64 = .ok (.ishr, 1) := by decide +kernel
theorem dX1_settleRest_65 : decode cX1_settleRest 65 = .ok (.iconst 1, 1) := by decide +kernel
theorem dX1_settleRest_66 : decode cX1_settleRest 66 = .ok (.iand, 1) := by decide +kernel
theorem dX1_settleRest_67 : decode cX1_settleRest 67 = .ok (.ifCond .ne 47, 3) := by decide +kernel
theorem dX1_settleRest_70 : decode cX1_settleRest 70 = .ok (.aload_n 0, 1) := by decide +kernel
theorem dX1_settleRest_71 : decode cX1_settleRest 71 = .ok (.iload 5, 2) := by decide +kernel
theorem dX1_settleRest_73 : decode cX1_settleRest 73 = .ok (.invokevirtual 74, 3) := by decide +kernel
theorem dX1_settleRest_76 : decode cX1_settleRest 76 = .ok (.ifCond .eq 38, 3) := by decide +kernel
theorem dX1_settleRest_79 : decode cX1_settleRest 79 = .ok (.iload_n 3, 1) := by decide +kernel
theorem dX1_settleRest_80 : decode cX1_settleRest 80 = .ok (.aload_n 0, 1) := by decide +kernel
theorem dX1_settleRest_81 : decode cX1_settleRest 81 = .ok (.getfield 9, 3) := by decide +kernel
theorem dX1_settleRest_84 : decode cX1_settleRest 84 = .ok (.iload 6, 2) := by decide +kernel
theorem dX1_settleRest_86 : decode cX1_settleRest 86 = .ok (.aload_n 0, 1) := by decide +kernel
theorem dX1_settleRest_87 : decode cX1_settleRest 87 = .ok (.getfield 9, 3) := by decide +kernel
theorem dX1_settleRest_90 : decode cX1_settleRest 90 = .ok (.aload_n 2, 1) := by decide +kernel
theorem dX1_settleRest_91 : decode cX1_settleRest 91 = .ok (.getfield 64, 3) := by decide +kernel
theorem dX1_settleRest_94 : decode cX1_settleRest 94 = .ok (.iload 5, 2) := by decide +kernel
theorem dX1_settleRest_96 : decode cX1_settleRest 96 = .ok (.iaload, 1) := by decide +kernel
theorem dX1_settleRest_97 : decode cX1_settleRest 97 = .ok (.laload, 1) := by decide +kernel
theorem dX1_settleRest_98 : decode cX1_settleRest 98 = .ok (.aload_n 2, 1) := by decide +kernel
theorem dX1_settleRest_99 : decode cX1_settleRest 99 = .ok (.getfield 67, 3) := by decide +kernel
theorem dX1_settleRest_102 : decode cX1_settleRest 102 = .ok (.iload 5, 2) := by decide +kernel
theorem dX1_settleRest_104 : decode cX1_settleRest 104 = .ok (.iaload, 1) := by decide +kernel
theorem dX1_settleRest_105 : decode cX1_settleRest 105 = .ok (.i2l, 1) := by decide +kernel
theorem dX1_settleRest_106 : decode cX1_settleRest 106 = .ok (.invokestatic 80, 3) := by decide +kernel
theorem dX1_settleRest_109 : decode cX1_settleRest 109 = .ok (.invokestatic 95, 3) := by decide +kernel
theorem dX1_settleRest_112 : decode cX1_settleRest 112 = .ok (.ior, 1) := by decide +kernel
theorem dX1_settleRest_113 : decode cX1_settleRest 113 = .ok (.istore_n 3, 1) := by decide +kernel
theorem dX1_settleRest_114 : decode cX1_settleRest 114 = .ok (.iinc 5 1, 3) := by decide +kernel
theorem dX1_settleRest_117 : decode cX1_settleRest 117 = .ok (.goto (-74), 3) := by decide +kernel
theorem dX1_settleRest_120 : decode cX1_settleRest 120 = .ok (.iinc 4 1, 3) := by decide +kernel
theorem dX1_settleRest_123 : decode cX1_settleRest 123 = .ok (.goto (-98), 3) := by decide +kernel
theorem dX1_settleRest_126 : decode cX1_settleRest 126 = .ok (.return_, 1) := by decide +kernel
theorem dX2_init_0 : decode cX2_init 0 = .ok (.aload_n 0, 1) := by decide +kernel
theorem dX2_init_1 : decode cX2_init 1 = .ok (.invokespecial 3, 3) := by decide +kernel
theorem dX2_init_4 : decode cX2_init 4 = .ok (.aload_n 0, 1) := by decide +kernel
theorem dX2_init_5 : decode cX2_init 5 = .ok (.sipush 144, 3) := by decide +kernel
theorem dX2_init_8 : decode cX2_init 8 = .ok (.newarray .long, 2) := by decide +kernel
theorem dX2_init_10 : decode cX2_init 10 = .ok (.putfield 9, 3) := by decide +kernel
theorem dX2_init_13 : decode cX2_init 13 = .ok (.aload_n 0, 1) := by decide +kernel
theorem dX2_init_14 : decode cX2_init 14 = .ok (.bipush 12, 2) := by decide +kernel
theorem dX2_init_16 : decode cX2_init 16 = .ok (.newarray .long, 2) := by decide +kernel
theorem dX2_init_18 : decode cX2_init 18 = .ok (.putfield 15, 3) := by decide +kernel
theorem dX2_init_21 : decode cX2_init 21 = .ok (.return_, 1) := by decide +kernel
theorem dX2_fillFrom_0 : decode cX2_fillFrom 0 = .ok (.aload_n 0, 1) := by decide +kernel
theorem dX2_fillFrom_1 : decode cX2_fillFrom 1 = .ok (.aload_n 1, 1) := by decide +kernel
theorem dX2_fillFrom_2 : decode cX2_fillFrom 2 = .ok (.getfield 18, 3) := by decide +kernel
theorem dX2_fillFrom_5 : decode cX2_fillFrom 5 = .ok (.putfield 24, 3) := by decide +kernel
theorem dX2_fillFrom_8 : decode cX2_fillFrom 8 = .ok (.iconst 0, 1) := by decide +kernel
theorem dX2_fillFrom_9 : decode cX2_fillFrom 9 = .ok (.istore_n 2, 1) := by decide +kernel
theorem dX2_fillFrom_10 : decode cX2_fillFrom 10 = .ok (.iload_n 2, 1) := by decide +kernel
theorem dX2_fillFrom_11 : decode cX2_fillFrom 11 = .ok (.aload_n 0, 1) := by decide +kernel
theorem dX2_fillFrom_12 : decode cX2_fillFrom 12 = .ok (.getfield 24, 3) := by decide +kernel
theorem dX2_fillFrom_15 : decode cX2_fillFrom 15 = .ok (.if_icmp .ge 37, 3) := by decide +kernel
theorem dX2_fillFrom_18 : decode cX2_fillFrom 18 = .ok (.aload_n 1, 1) := by decide +kernel
theorem dX2_fillFrom_19 : decode cX2_fillFrom 19 = .ok (.iload_n 2, 1) := by decide +kernel
theorem dX2_fillFrom_20 : decode cX2_fillFrom 20 = .ok (.iconst (-1), 1) := by decide +kernel
theorem dX2_fillFrom_21 : decode cX2_fillFrom 21 = .ok (.aload_n 0, 1) := by decide +kernel
theorem dX2_fillFrom_22 : decode cX2_fillFrom 22 = .ok (.getfield 15, 3) := by decide +kernel
theorem dX2_fillFrom_25 : decode cX2_fillFrom 25 = .ok (.invokevirtual 25, 3) := by decide +kernel
theorem dX2_fillFrom_28 : decode cX2_fillFrom 28 = .ok (.aload_n 0, 1) := by decide +kernel
theorem dX2_fillFrom_29 : decode cX2_fillFrom 29 = .ok (.getfield 15, 3) := by decide +kernel
theorem dX2_fillFrom_32 : decode cX2_fillFrom 32 = .ok (.iconst 0, 1) := by decide +kernel
theorem dX2_fillFrom_33 : decode cX2_fillFrom 33 = .ok (.aload_n 0, 1) := by decide +kernel
theorem dX2_fillFrom_34 : decode cX2_fillFrom 34 = .ok (.getfield 9, 3) := by decide +kernel
theorem dX2_fillFrom_37 : decode cX2_fillFrom 37 = .ok (.iload_n 2, 1) := by decide +kernel
theorem dX2_fillFrom_38 : decode cX2_fillFrom 38 = .ok (.bipush 12, 2) := by decide +kernel
theorem dX2_fillFrom_40 : decode cX2_fillFrom 40 = .ok (.imul, 1) := by decide +kernel
theorem dX2_fillFrom_41 : decode cX2_fillFrom 41 = .ok (.bipush 12, 2) := by decide +kernel
theorem dX2_fillFrom_43 : decode cX2_fillFrom 43 = .ok (.invokestatic 29, 3) := by decide +kernel
theorem dX2_fillFrom_46 : decode cX2_fillFrom 46 = .ok (.iinc 2 1, 3) := by decide +kernel
theorem dX2_fillFrom_49 : decode cX2_fillFrom 49 = .ok (.goto (-39), 3) := by decide +kernel
theorem dX2_fillFrom_52 : decode cX2_fillFrom 52 = .ok (.aload_n 0, 1) := by decide +kernel
theorem dX2_fillFrom_53 : decode cX2_fillFrom 53 = .ok (.iconst 1, 1) := by decide +kernel
theorem dX2_fillFrom_54 : decode cX2_fillFrom 54 = .ok (.putfield 35, 3) := by decide +kernel
theorem dX2_fillFrom_57 : decode cX2_fillFrom 57 = .ok (.return_, 1) := by decide +kernel
theorem dX2_span_0 : decode cX2_span 0 = .ok (.aload_n 0, 1) := by decide +kernel
theorem dX2_span_1 : decode cX2_span 1 = .ok (.getfield 9, 3) := by decide +kernel
theorem dX2_span_4 : decode cX2_span 4 = .ok (.iload_n 1, 1) := by decide +kernel
theorem dX2_span_5 : decode cX2_span 5 = .ok (.bipush 12, 2) := by decide +kernel
theorem dX2_span_7 : decode cX2_span 7 = .ok (.imul, 1) := by decide +kernel
theorem dX2_span_8 : decode cX2_span 8 = .ok (.iload_n 2, 1) := by decide +kernel
theorem dX2_span_9 : decode cX2_span 9 = .ok (.iadd, 1) := by decide +kernel
theorem dX2_span_10 : decode cX2_span 10 = .ok (.laload, 1) := by decide +kernel
theorem dX2_span_11 : decode cX2_span 11 = .ok (.lreturn, 1) := by decide +kernel
theorem dX2_comesTo_0 : decode cX2_comesTo 0 = .ok (.aload_n 0, 1) := by decide +kernel
theorem dX2_comesTo_1 : decode cX2_comesTo 1 = .ok (.iload_n 1, 1) := by decide +kernel
theorem dX2_comesTo_2 : decode cX2_comesTo 2 = .ok (.iload_n 2, 1) := by decide +kernel
theorem dX2_comesTo_3 : decode cX2_comesTo 3 = .ok (.invokevirtual 39, 3) := by decide +kernel
theorem dX2_comesTo_6 : decode cX2_comesTo 6 = .ok (.ldc2_w 43, 3) := by decide +kernel
theorem dX2_comesTo_9 : decode cX2_comesTo 9 = .ok (.lcmp, 1) := by decide +kernel
theorem dX2_comesTo_10 : decode cX2_comesTo 10 = .ok (.ifCond .eq 7, 3) := by decide +kernel
theorem dX2_comesTo_13 : decode cX2_comesTo 13 = .ok (.iconst 1, 1) := by decide +kernel
theorem dX2_comesTo_14 : decode cX2_comesTo 14 = .ok (.goto 4, 3) := by decide +kernel
theorem dX2_comesTo_17 : decode cX2_comesTo 17 = .ok (.iconst 0, 1) := by decide +kernel
theorem dX2_comesTo_18 : decode cX2_comesTo 18 = .ok (.ireturn, 1) := by decide +kernel
theorem dX2_reachOf_0 : decode cX2_reachOf 0 = .ok (.ldc2_w 43, 3) := by decide +kernel
theorem dX2_reachOf_3 : decode cX2_reachOf 3 = .ok (.lstore_n 2, 1) := by decide +kernel
theorem dX2_reachOf_4 : decode cX2_reachOf 4 = .ok (.iconst 0, 1) := by decide +kernel
theorem dX2_reachOf_5 : decode cX2_reachOf 5 = .ok (.istore 4, 2) := by decide +kernel
theorem dX2_reachOf_7 : decode cX2_reachOf 7 = .ok (.iload 4, 2) := by decide +kernel
theorem dX2_reachOf_9 : decode cX2_reachOf 9 = .ok (.aload_n 0, 1) := by decide +kernel
theorem dX2_reachOf_10 : decode cX2_reachOf 10 = .ok (.getfield 24, 3) := by decide +kernel
theorem dX2_reachOf_13 : decode cX2_reachOf 13 = .ok (.if_icmp .ge 53, 3) := by decide +kernel
theorem dX2_reachOf_16 : decode cX2_reachOf 16 = .ok (.iload 4, 2) := by decide +kernel
theorem dX2_reachOf_18 : decode cX2_reachOf 18 = .ok (.iload_n 1, 1) := by decide +kernel
theorem dX2_reachOf_19 : decode cX2_reachOf 19 = .ok (.if_icmp .eq 41, 3) := by decide +kernel
theorem dX2_reachOf_22 : decode cX2_reachOf 22 = .ok (.aload_n 0, 1) := by decide +kernel
theorem dX2_reachOf_23 : decode cX2_reachOf 23 = .ok (.iload_n 1, 1) := by decide +kernel
theorem dX2_reachOf_24 : decode cX2_reachOf 24 = .ok (.iload 4, 2) := by decide +kernel
theorem dX2_reachOf_26 : decode cX2_reachOf 26 = .ok (.invokevirtual 45, 3) := by decide +kernel
theorem dX2_reachOf_29 : decode cX2_reachOf 29 = .ok (.ifCond .eq 31, 3) := by decide +kernel
theorem dX2_reachOf_32 : decode cX2_reachOf 32 = .ok (.lload_n 2, 1) := by decide +kernel
theorem dX2_reachOf_33 : decode cX2_reachOf 33 = .ok (.ldc2_w 43, 3) := by decide +kernel
theorem dX2_reachOf_36 : decode cX2_reachOf 36 = .ok (.lcmp, 1) := by decide +kernel
theorem dX2_reachOf_37 : decode cX2_reachOf 37 = .ok (.ifCond .eq 15, 3) := by decide +kernel
theorem dX2_reachOf_40 : decode cX2_reachOf 40 = .ok (.aload_n 0, 1) := by decide +kernel
theorem dX2_reachOf_41 : decode cX2_reachOf 41 = .ok (.iload_n 1, 1) := by decide +kernel
theorem dX2_reachOf_42 : decode cX2_reachOf 42 = .ok (.iload 4, 2) := by decide +kernel
theorem dX2_reachOf_44 : decode cX2_reachOf 44 = .ok (.invokevirtual 39, 3) := by decide +kernel
theorem dX2_reachOf_47 : decode cX2_reachOf 47 = .ok (.lload_n 2, 1) := by decide +kernel
theorem dX2_reachOf_48 : decode cX2_reachOf 48 = .ok (.lcmp, 1) := by decide +kernel
theorem dX2_reachOf_49 : decode cX2_reachOf 49 = .ok (.ifCond .le 11, 3) := by decide +kernel
theorem dX2_reachOf_52 : decode cX2_reachOf 52 = .ok (.aload_n 0, 1) := by decide +kernel
theorem dX2_reachOf_53 : decode cX2_reachOf 53 = .ok (.iload_n 1, 1) := by decide +kernel
theorem dX2_reachOf_54 : decode cX2_reachOf 54 = .ok (.iload 4, 2) := by decide +kernel
theorem dX2_reachOf_56 : decode cX2_reachOf 56 = .ok (.invokevirtual 39, 3) := by decide +kernel
theorem dX2_reachOf_59 : decode cX2_reachOf 59 = .ok (.lstore_n 2, 1) := by decide +kernel
theorem dX2_reachOf_60 : decode cX2_reachOf 60 = .ok (.iinc 4 1, 3) := by decide +kernel
theorem dX2_reachOf_63 : decode cX2_reachOf 63 = .ok (.goto (-56), 3) := by decide +kernel
theorem dX2_reachOf_66 : decode cX2_reachOf 66 = .ok (.lload_n 2, 1) := by decide +kernel
theorem dX2_reachOf_67 : decode cX2_reachOf 67 = .ok (.lreturn, 1) := by decide +kernel
theorem dX2_middleTown_0 : decode cX2_middleTown 0 = .ok (.bipush (-2), 2) := by decide +kernel
theorem dX2_middleTown_2 : decode cX2_middleTown 2 = .ok (.istore_n 1, 1) := by decide +kernel
theorem dX2_middleTown_3 : decode cX2_middleTown 3 = .ok (.ldc2_w 43, 3) := by decide +kernel
theorem dX2_middleTown_6 : decode cX2_middleTown 6 = .ok (.lstore_n 2, 1) := by decide +kernel
theorem dX2_middleTown_7 : decode cX2_middleTown 7 = .ok (.iconst 0, 1) := by decide +kernel
theorem dX2_middleTown_8 : decode cX2_middleTown 8 = .ok (.istore 4, 2) := by decide +kernel
theorem dX2_middleTown_10 : decode cX2_middleTown 10 = .ok (.iload 4, 2) := by decide +kernel
theorem dX2_middleTown_12 : decode cX2_middleTown 12 = .ok (.aload_n 0, 1) := by decide +kernel
theorem dX2_middleTown_13 : decode cX2_middleTown 13 = .ok (.getfield 24, 3) := by decide +kernel
theorem dX2_middleTown_16 : decode cX2_middleTown 16 = .ok (.if_icmp .ge 41, 3) := by decide +kernel
theorem dX2_middleTown_19 : decode cX2_middleTown 19 = .ok (.aload_n 0, 1) := by decide +kernel
theorem dX2_middleTown_20 : decode cX2_middleTown 20 = .ok (.iload 4, 2) := by decide +kernel
theorem dX2_middleTown_22 : decode cX2_middleTown 22 = .ok (.invokevirtual 49, 3) := by decide +kernel
theorem dX2_middleTown_25 : decode cX2_middleTown 25 = .ok (.ifCond .eq 26, 3) := by decide +kernel
theorem dX2_middleTown_28 : decode cX2_middleTown 28 = .ok (.aload_n 0, 1) := by decide +kernel
theorem dX2_middleTown_29 : decode cX2_middleTown 29 = .ok (.iload 4, 2) := by decide +kernel
theorem dX2_middleTown_31 : decode cX2_middleTown 31 = .ok (.invokevirtual 53, 3) := by decide +kernel
theorem dX2_middleTown_34 : decode cX2_middleTown 34 = .ok (.lload_n 2, 1) := by decide +kernel
theorem dX2_middleTown_35 : decode cX2_middleTown 35 = .ok (.invokestatic 57, 3) := by decide +kernel
theorem dX2_middleTown_38 : decode cX2_middleTown 38 = .ok (.ifCond .eq 13, 3) := by decide +kernel
theorem dX2_middleTown_41 : decode cX2_middleTown 41 = .ok (.iload 4, 2) := by decide +kernel
theorem dX2_middleTown_43 : decode cX2_middleTown 43 = .ok (.istore_n 1, 1) := by decide +kernel
theorem dX2_middleTown_44 : decode cX2_middleTown 44 = .ok (.aload_n 0, 1) := by decide +kernel
theorem dX2_middleTown_45 : decode cX2_middleTown 45 = .ok (.iload 4, 2) := by decide +kernel
theorem dX2_middleTown_47 : decode cX2_middleTown 47 = .ok (.invokevirtual 53, 3) := by decide +kernel
theorem dX2_middleTown_50 : decode cX2_middleTown 50 = .ok (.lstore_n 2, 1) := by decide +kernel
theorem dX2_middleTown_51 : decode cX2_middleTown 51 = .ok (.iinc 4 1, 3) := by decide +kernel
theorem dX2_middleTown_54 : decode cX2_middleTown 54 = .ok (.goto (-44), 3) := by decide +kernel
theorem dX2_middleTown_57 : decode cX2_middleTown 57 = .ok (.iload_n 1, 1) := by decide +kernel
theorem dX2_middleTown_58 : decode cX2_middleTown 58 = .ok (.ireturn, 1) := by decide +kernel
theorem dX2_comesToAll_0 : decode cX2_comesToAll 0 = .ok (.iconst 0, 1) := by decide +kernel
theorem dX2_comesToAll_1 : decode cX2_comesToAll 1 = .ok (.istore_n 2, 1) := by decide +kernel
theorem dX2_comesToAll_2 : decode cX2_comesToAll 2 = .ok (.iload_n 2, 1) := by decide +kernel
theorem dX2_comesToAll_3 : decode cX2_comesToAll 3 = .ok (.aload_n 0, 1) := by decide +kernel
theorem dX2_comesToAll_4 : decode cX2_comesToAll 4 = .ok (.getfield 24, 3) := by decide +kernel
theorem dX2_comesToAll_7 : decode cX2_comesToAll 7 = .ok (.if_icmp .ge 20, 3) := by decide +kernel
theorem dX2_comesToAll_10 : decode cX2_comesToAll 10 = .ok (.aload_n 0, 1) := by decide +kernel
theorem dX2_comesToAll_11 : decode cX2_comesToAll 11 = .ok (.iload_n 1, 1) := by decide +kernel
theorem dX2_comesToAll_12 : decode cX2_comesToAll 12 = .ok (.iload_n 2, 1) := by decide +kernel
theorem dX2_comesToAll_13 : decode cX2_comesToAll 13 = .ok (.invokevirtual 45, 3) := by decide +kernel
theorem dX2_comesToAll_16 : decode cX2_comesToAll 16 = .ok (.ifCond .ne 5, 3) := by decide +kernel
theorem dX2_comesToAll_19 : decode cX2_comesToAll 19 = .ok (.iconst 0, 1) := by decide +kernel
theorem dX2_comesToAll_20 : decode cX2_comesToAll 20 = .ok (.ireturn, 1) := by decide +kernel
theorem dX2_comesToAll_21 : decode cX2_comesToAll 21 = .ok (.iinc 2 1, 3) := by decide +kernel
theorem dX2_comesToAll_24 : decode cX2_comesToAll 24 = .ok (.goto (-22), 3) := by decide +kernel
theorem dX2_comesToAll_27 : decode cX2_comesToAll 27 = .ok (.iconst 1, 1) := by decide +kernel
theorem dX2_comesToAll_28 : decode cX2_comesToAll 28 = .ok (.ireturn, 1) := by decide +kernel
theorem dX2_groupOf_0 : decode cX2_groupOf 0 = .ok (.iconst 0, 1) := by decide +kernel
theorem dX2_groupOf_1 : decode cX2_groupOf 1 = .ok (.istore_n 2, 1) := by decide +kernel
theorem dX2_groupOf_2 : decode cX2_groupOf 2 = .ok (.iload_n 2, 1) := by decide +kernel
theorem dX2_groupOf_3 : decode cX2_groupOf 3 = .ok (.iload_n 1, 1) := by decide +kernel
theorem dX2_groupOf_4 : decode cX2_groupOf 4 = .ok (.if_icmp .ge 29, 3) := by decide +kernel
theorem dX2_groupOf_7 : decode cX2_groupOf 7 = .ok (.aload_n 0, 1) := by decide +kernel
theorem dX2_groupOf_8 : decode cX2_groupOf 8 = .ok (.iload_n 2, 1) := by decide +kernel
theorem dX2_groupOf_9 : decode cX2_groupOf 9 = .ok (.iload_n 1, 1) := by decide +kernel
theorem dX2_groupOf_10 : decode cX2_groupOf 10 = .ok (.invokevirtual 45, 3) := by decide +kernel
theorem dX2_groupOf_13 : decode cX2_groupOf 13 = .ok (.ifCond .eq 14, 3) := by decide +kernel
theorem dX2_groupOf_16 : decode cX2_groupOf 16 = .ok (.aload_n 0, 1) := by decide +kernel
theorem dX2_groupOf_17 : decode cX2_groupOf 17 = .ok (.iload_n 1, 1) := by decide +kernel
theorem dX2_groupOf_18 : decode cX2_groupOf 18 = .ok (.iload_n 2, 1) := by decide +kernel
theorem dX2_groupOf_19 : decode cX2_groupOf 19 = .ok (.invokevirtual 45, 3) := by decide +kernel
theorem dX2_groupOf_22 : decode cX2_groupOf 22 = .ok (.ifCond .eq 5, 3) := by decide +kernel
theorem dX2_groupOf_25 : decode cX2_groupOf 25 = .ok (.iload_n 2, 1) := by decide +kernel
theorem dX2_groupOf_26 : decode cX2_groupOf 26 = .ok (.ireturn, 1) := by decide +kernel
theorem dX2_groupOf_27 : decode cX2_groupOf 27 = .ok (.iinc 2 1, 3) := by decide +kernel
theorem dX2_groupOf_30 : decode cX2_groupOf 30 = .ok (.goto (-28), 3) := by decide +kernel
theorem dX2_groupOf_33 : decode cX2_groupOf 33 = .ok (.iload_n 1, 1) := by decide +kernel
theorem dX2_groupOf_34 : decode cX2_groupOf 34 = .ok (.ireturn, 1) := by decide +kernel
theorem dX2_comersTo_0 : decode cX2_comersTo 0 = .ok (.iconst 0, 1) := by decide +kernel
theorem dX2_comersTo_1 : decode cX2_comersTo 1 = .ok (.istore_n 2, 1) := by decide +kernel
theorem dX2_comersTo_2 : decode cX2_comersTo 2 = .ok (.iconst 0, 1) := by decide +kernel
theorem dX2_comersTo_3 : decode cX2_comersTo 3 = .ok (.istore_n 3, 1) := by decide +kernel
theorem dX2_comersTo_4 : decode cX2_comersTo 4 = .ok (.iload_n 3, 1) := by decide +kernel
theorem dX2_comersTo_5 : decode cX2_comersTo 5 = .ok (.aload_n 0, 1) := by decide +kernel
theorem dX2_comersTo_6 : decode cX2_comersTo 6 = .ok (.getfield 24, 3) := by decide +kernel
theorem dX2_comersTo_9 : decode cX2_comersTo 9 = .ok (.if_icmp .ge 26, 3) := by decide +kernel
theorem dX2_comersTo_12 : decode cX2_comersTo 12 = .ok (.iload_n 3, 1) := by decide +kernel
theorem dX2_comersTo_13 : decode cX2_comersTo 13 = .ok (.iload_n 1, 1) := by decide +kernel
theorem dX2_comersTo_14 : decode cX2_comersTo 14 = .ok (.if_icmp .eq 15, 3) := by decide +kernel
theorem dX2_comersTo_17 : decode cX2_comersTo 17 = .ok (.aload_n 0, 1) := by decide +kernel
theorem dX2_comersTo_18 : decode cX2_comersTo 18 = .ok (.iload_n 3, 1) := by decide +kernel
theorem dX2_comersTo_19 : decode cX2_comersTo 19 = .ok (.iload_n 1, 1) := by decide +kernel
theorem dX2_comersTo_20 : decode cX2_comersTo 20 = .ok (.invokevirtual 45, 3) := by decide +kernel
theorem dX2_comersTo_23 : decode cX2_comersTo 23 = .ok (.ifCond .eq 6, 3) := by decide +kernel
theorem dX2_comersTo_26 : decode cX2_comersTo 26 = .ok (.iinc 2 1, 3) := by decide +kernel
theorem dX2_comersTo_29 : decode cX2_comersTo 29 = .ok (.iinc 3 1, 3) := by decide +kernel
theorem dX2_comersTo_32 : decode cX2_comersTo 32 = .ok (.goto (-28), 3) := by decide +kernel
theorem dX2_comersTo_35 : decode cX2_comersTo 35 = .ok (.iload_n 2, 1) := by decide +kernel
theorem dX2_comersTo_36 : decode cX2_comersTo 36 = .ok (.ireturn, 1) := by decide +kernel
theorem dX2_ringOf_0 : decode cX2_ringOf 0 = .ok (.ldc2_w 43, 3) := by decide +kernel
theorem dX2_ringOf_3 : decode cX2_ringOf 3 = .ok (.lstore_n 3, 1) := by decide +kernel
theorem dX2_ringOf_4 : decode cX2_ringOf 4 = .ok (.iconst 0, 1) := by decide +kernel
theorem dX2_ringOf_5 : decode cX2_ringOf 5 = .ok (.istore 5, 2) := by decide +kernel
theorem dX2_ringOf_7 : decode cX2_ringOf 7 = .ok (.iload 5, 2) := by decide +kernel
theorem dX2_ringOf_9 : decode cX2_ringOf 9 = .ok (.aload_n 1, 1) := by decide +kernel
theorem dX2_ringOf_10 : decode cX2_ringOf 10 = .ok (.getfield 61, 3) := by decide +kernel
theorem dX2_ringOf_13 : decode cX2_ringOf 13 = .ok (.if_icmp .ge 70, 3) := by decide +kernel
theorem dX2_ringOf_16 : decode cX2_ringOf 16 = .ok (.aload_n 1, 1) := by decide +kernel
theorem dX2_ringOf_17 : decode cX2_ringOf 17 = .ok (.iload 5, 2) := by decide +kernel
theorem dX2_ringOf_19 : decode cX2_ringOf 19 = .ok (.invokevirtual 64, 3) := by decide +kernel
theorem dX2_ringOf_22 : decode cX2_ringOf 22 = .ok (.ifCond .eq 55, 3) := by decide +kernel
theorem dX2_ringOf_25 : decode cX2_ringOf 25 = .ok (.aload_n 1, 1) := by decide +kernel
theorem dX2_ringOf_26 : decode cX2_ringOf 26 = .ok (.getfield 67, 3) := by decide +kernel
theorem dX2_ringOf_29 : decode cX2_ringOf 29 = .ok (.iload 5, 2) := by decide +kernel
theorem dX2_ringOf_31 : decode cX2_ringOf 31 = .ok (.iaload, 1) := by decide +kernel
theorem dX2_ringOf_32 : decode cX2_ringOf 32 = .ok (.iload_n 2, 1) := by decide +kernel
theorem dX2_ringOf_33 : decode cX2_ringOf 33 = .ok (.if_icmp .ne 44, 3) := by decide +kernel
theorem dX2_ringOf_36 : decode cX2_ringOf 36 = .ok (.aload_n 1, 1) := by decide +kernel
theorem dX2_ringOf_37 : decode cX2_ringOf 37 = .ok (.getfield 71, 3) := by decide +kernel
theorem dX2_ringOf_40 : decode cX2_ringOf 40 = .ok (.iload 5, 2) := by decide +kernel
theorem dX2_ringOf_42 : decode cX2_ringOf 42 = .ok (.iaload, 1) := by decide +kernel
theorem dX2_ringOf_43 : decode cX2_ringOf 43 = .ok (.i2l, 1) := by decide +kernel
theorem dX2_ringOf_44 : decode cX2_ringOf 44 = .ok (.aload_n 0, 1) := by decide +kernel
theorem dX2_ringOf_45 : decode cX2_ringOf 45 = .ok (.aload_n 1, 1) := by decide +kernel
theorem dX2_ringOf_46 : decode cX2_ringOf 46 = .ok (.getfield 74, 3) := by decide +kernel
theorem dX2_ringOf_49 : decode cX2_ringOf 49 = .ok (.iload 5, 2) := by decide +kernel
theorem dX2_ringOf_51 : decode cX2_ringOf 51 = .ok (.iaload, 1) := by decide +kernel
theorem dX2_ringOf_52 : decode cX2_ringOf 52 = .ok (.iload_n 2, 1) := by decide +kernel
theorem dX2_ringOf_53 : decode cX2_ringOf 53 = .ok (.invokevirtual 39, 3) := by decide +kernel
theorem dX2_ringOf_56 : decode cX2_ringOf 56 = .ok (.invokestatic 77, 3) := by decide +kernel
theorem dX2_ringOf_59 : decode cX2_ringOf 59 = .ok (.lstore 6, 2) := by decide +kernel
theorem dX2_ringOf_61 : decode cX2_ringOf 61 = .ok (.lload 6, 2) := by decide +kernel
theorem dX2_ringOf_63 : decode cX2_ringOf 63 = .ok (.lload_n 3, 1) := by decide +kernel
theorem dX2_ringOf_64 : decode cX2_ringOf 64 = .ok (.invokestatic 57, 3) := by decide +kernel
theorem dX2_ringOf_67 : decode cX2_ringOf 67 = .ok (.ifCond .eq 8, 3) := by decide +kernel
theorem dX2_ringOf_70 : decode cX2_ringOf 70 = .ok (.lload 6, 2) := by decide +kernel
theorem dX2_ringOf_72 : decode cX2_ringOf 72 = .ok (.goto 4, 3) := by decide +kernel
theorem dX2_ringOf_75 : decode cX2_ringOf 75 = .ok (.lload_n 3, 1) := by decide +kernel
theorem dX2_ringOf_76 : decode cX2_ringOf 76 = .ok (.lstore_n 3, 1) := by decide +kernel
theorem dX2_ringOf_77 : decode cX2_ringOf 77 = .ok (.iinc 5 1, 3) := by decide +kernel
theorem dX2_ringOf_80 : decode cX2_ringOf 80 = .ok (.goto (-73), 3) := by decide +kernel
theorem dX2_ringOf_83 : decode cX2_ringOf 83 = .ok (.lload_n 3, 1) := by decide +kernel
theorem dX2_ringOf_84 : decode cX2_ringOf 84 = .ok (.lreturn, 1) := by decide +kernel
theorem dX2_wouldMakeBadRing_0 : decode cX2_wouldMakeBadRing 0 = .ok (.aload_n 0, 1) := by decide +kernel
theorem dX2_wouldMakeBadRing_1 : decode cX2_wouldMakeBadRing 1 = .ok (.iload_n 2, 1) := by decide +kernel
theorem dX2_wouldMakeBadRing_2 : decode cX2_wouldMakeBadRing 2 = .ok (.iload_n 1, 1) := by decide +kernel
theorem dX2_wouldMakeBadRing_3 : decode cX2_wouldMakeBadRing 3 = .ok (.invokevirtual 45, 3) := by decide +kernel
theorem dX2_wouldMakeBadRing_6 : decode cX2_wouldMakeBadRing 6 = .ok (.ifCond .eq 21, 3) := by decide +kernel
theorem dX2_wouldMakeBadRing_9 : decode cX2_wouldMakeBadRing 9 = .ok (.aload_n 0, 1) := by decide +kernel
theorem dX2_wouldMakeBadRing_10 : decode cX2_wouldMakeBadRing 10 = .ok (.iload_n 2, 1) := by decide +kernel
theorem dX2_wouldMakeBadRing_11 : decode cX2_wouldMakeBadRing 11 = .ok (.iload_n 1, 1) := by decide +kernel
theorem dX2_wouldMakeBadRing_12 : decode cX2_wouldMakeBadRing 12 = .ok (.invokevirtual 39, 3) := by decide +kernel
theorem dX2_wouldMakeBadRing_15 : decode cX2_wouldMakeBadRing 15 = .ok (.iload_n 3, 1) := by decide +kernel
theorem dX2_wouldMakeBadRing_16 : decode cX2_wouldMakeBadRing 16 = .ok (.i2l, 1) := by decide +kernel
theorem dX2_wouldMakeBadRing_17 : decode cX2_wouldMakeBadRing 17 = .ok (.ladd, 1) := by decide +kernel
theorem dX2_wouldMakeBadRing_18 : decode cX2_wouldMakeBadRing 18 = .ok (.lconst 0, 1) := by decide +kernel
theorem dX2_wouldMakeBadRing_19 : decode cX2_wouldMakeBadRing 19 = .ok (.lcmp, 1) := by decide +kernel
theorem dX2_wouldMakeBadRing_20 : decode cX2_wouldMakeBadRing 20 = .ok (.ifCond .gt 7, 3) := by decide +kernel
theorem dX2_wouldMakeBadRing_23 : decode cX2_wouldMakeBadRing 23 = .ok (.iconst 1, 1) := by decide +kernel
theorem dX2_wouldMakeBadRing_24 : decode cX2_wouldMakeBadRing 24 = .ok (.goto 4, 3) := by decide +kernel
theorem dX2_wouldMakeBadRing_27 : decode cX2_wouldMakeBadRing 27 = .ok (.iconst 0, 1) := by decide +kernel
theorem dX2_wouldMakeBadRing_28 : decode cX2_wouldMakeBadRing 28 = .ok (.ireturn, 1) := by decide +kernel
theorem dX2_meetingOf_0 : decode cX2_meetingOf 0 = .ok (.iconst (-1), 1) := by decide +kernel
theorem dX2_meetingOf_1 : decode cX2_meetingOf 1 = .ok (.istore_n 3, 1) := by decide +kernel
theorem dX2_meetingOf_2 : decode cX2_meetingOf 2 = .ok (.ldc2_w 43, 3) := by decide +kernel
theorem dX2_meetingOf_5 : decode cX2_meetingOf 5 = .ok (.lstore 4, 2) := by decide +kernel
theorem dX2_meetingOf_7 : decode cX2_meetingOf 7 = .ok (.iconst 0, 1) := by decide +kernel
theorem dX2_meetingOf_8 : decode cX2_meetingOf 8 = .ok (.istore 6, 2) := by decide +kernel
theorem dX2_meetingOf_10 : decode cX2_meetingOf 10 = .ok (.iload 6, 2) := by decide +kernel
theorem dX2_meetingOf_12 : decode cX2_meetingOf 12 = .ok (.aload_n 0, 1) := by decide +kernel
theorem dX2_meetingOf_13 : decode cX2_meetingOf 13 = .ok (.getfield 24, 3) := by decide +kernel
theorem dX2_meetingOf_16 : decode cX2_meetingOf 16 = .ok (.if_icmp .ge 36, 3) := by decide +kernel
theorem dX2_meetingOf_19 : decode cX2_meetingOf 19 = .ok (.aload_n 0, 1) := by decide +kernel
theorem dX2_meetingOf_20 : decode cX2_meetingOf 20 = .ok (.iload_n 1, 1) := by decide +kernel
theorem dX2_meetingOf_21 : decode cX2_meetingOf 21 = .ok (.iload 6, 2) := by decide +kernel
theorem dX2_meetingOf_23 : decode cX2_meetingOf 23 = .ok (.iload_n 2, 1) := by decide +kernel
theorem dX2_meetingOf_24 : decode cX2_meetingOf 24 = .ok (.invokevirtual 81, 3) := by decide +kernel
theorem dX2_meetingOf_27 : decode cX2_meetingOf 27 = .ok (.lstore 7, 2) := by decide +kernel
theorem dX2_meetingOf_29 : decode cX2_meetingOf 29 = .ok (.lload 7, 2) := by decide +kernel
theorem dX2_meetingOf_31 : decode cX2_meetingOf 31 = .ok (.lload 4, 2) := by decide +kernel
theorem dX2_meetingOf_33 : decode cX2_meetingOf 33 = .ok (.invokestatic 57, 3) := by decide +kernel
theorem dX2_meetingOf_36 : decode cX2_meetingOf 36 = .ok (.ifCond .eq 10, 3) := by decide +kernel
theorem dX2_meetingOf_39 : decode cX2_meetingOf 39 = .ok (.iload 6, 2) := by decide +kernel
theorem dX2_meetingOf_41 : decode cX2_meetingOf 41 = .ok (.istore_n 3, 1) := by decide +kernel
theorem dX2_meetingOf_42 : decode cX2_meetingOf 42 = .ok (.lload 7, 2) := by decide +kernel
theorem dX2_meetingOf_44 : decode cX2_meetingOf 44 = .ok (.lstore 4, 2) := by decide +kernel
theorem dX2_meetingOf_46 : decode cX2_meetingOf 46 = .ok (.iinc 6 1, 3) := by decide +kernel
theorem dX2_meetingOf_49 : decode cX2_meetingOf 49 = .ok (.goto (-39), 3) := by decide +kernel
theorem dX2_meetingOf_52 : decode cX2_meetingOf 52 = .ok (.iload_n 3, 1) := by decide +kernel
theorem dX2_meetingOf_53 : decode cX2_meetingOf 53 = .ok (.ireturn, 1) := by decide +kernel
theorem dX2_comeTogether_0 : decode cX2_comeTogether 0 = .ok (.iload_n 3, 1) := by decide +kernel
theorem dX2_comeTogether_1 : decode cX2_comeTogether 1 = .ok (.ifCond .eq 9, 3) := by decide +kernel
theorem dX2_comeTogether_4 : decode cX2_comeTogether 4 = .ok (.ldc2_w 43, 3) := by decide +kernel
theorem dX2_comeTogether_7 : decode cX2_comeTogether 7 = .ok (.goto 4, 3) := by decide +kernel
theorem dX2_comeTogether_10 : decode cX2_comeTogether 10 = .ok (.lconst 0, 1) := by decide +kernel
theorem dX2_comeTogether_11 : decode cX2_comeTogether 11 = .ok (.lstore 4, 2) := by decide +kernel
theorem dX2_comeTogether_13 : decode cX2_comeTogether 13 = .ok (.iconst 0, 1) := by decide +kernel
theorem dX2_comeTogether_14 : decode cX2_comeTogether 14 = .ok (.istore 6, 2) := by decide +kernel
theorem dX2_comeTogether_16 : decode cX2_comeTogether 16 = .ok (.iload 6, 2) := by decide +kernel
theorem dX2_comeTogether_18 : decode cX2_comeTogether 18 = .ok (.aload_n 0, 1) := by decide +kernel
theorem dX2_comeTogether_19 : decode cX2_comeTogether 19 = .ok (.getfield 24, 3) := by decide +kernel
theorem dX2_comeTogether_22 : decode cX2_comeTogether 22 = .ok (.if_icmp .ge 66, 3) := by decide +kernel
theorem dX2_comeTogether_25 : decode cX2_comeTogether 25 = .ok (.iload_n 1, 1) := by decide +kernel
theorem dX2_comeTogether_26 : decode cX2_comeTogether 26 = .ok (.iload 6, 2) := by decide +kernel
theorem dX2_comeTogether_28 : decode cX2_comeTogether 28 = .ok (.ishr, 1) := by decide +kernel
theorem dX2_comeTogether_29 : decode cX2_comeTogether 29 = .ok (.iconst 1, 1) := by decide +kernel
theorem dX2_comeTogether_30 : decode cX2_comeTogether 30 = .ok (.iand, 1) := by decide +kernel
theorem dX2_comeTogether_31 : decode cX2_comeTogether 31 = .ok (.ifCond .ne 6, 3) := by decide +kernel
theorem dX2_comeTogether_34 : decode cX2_comeTogether 34 = .ok (.goto 48, 3) := by decide +kernel
theorem dX2_comeTogether_37 : decode cX2_comeTogether 37 = .ok (.aload_n 0, 1) := by decide +kernel
theorem dX2_comeTogether_38 : decode cX2_comeTogether 38 = .ok (.iload 6, 2) := by decide +kernel
theorem dX2_comeTogether_40 : decode cX2_comeTogether 40 = .ok (.iload_n 2, 1) := by decide +kernel
theorem dX2_comeTogether_41 : decode cX2_comeTogether 41 = .ok (.invokevirtual 45, 3) := by decide +kernel
theorem dX2_comeTogether_44 : decode cX2_comeTogether 44 = .ok (.ifCond .ne 7, 3) := by decide +kernel
theorem dX2_comeTogether_47 : decode cX2_comeTogether 47 = .ok (.ldc2_w 43, 3) := by decide +kernel
theorem dX2_comeTogether_50 : decode cX2_comeTogether 50 = .ok (.lreturn, 1) := by decide +kernel
theorem dX2_comeTogether_51 : decode cX2_comeTogether 51 = .ok (.iload_n 3, 1) := by decide +kernel
theorem dX2_comeTogether_52 : decode cX2_comeTogether 52 = .ok (.ifCond .eq 18, 3) := by decide +kernel
theorem dX2_comeTogether_55 : decode cX2_comeTogether 55 = .ok (.lload 4, 2) := by decide +kernel
theorem dX2_comeTogether_57 : decode cX2_comeTogether 57 = .ok (.aload_n 0, 1) := by decide +kernel
theorem dX2_comeTogether_58 : decode cX2_comeTogether 58 = .ok (.iload 6, 2) := by decide +kernel
theorem dX2_comeTogether_60 : decode cX2_comeTogether 60 = .ok (.iload_n 2, 1) := by decide +kernel
theorem dX2_comeTogether_61 : decode cX2_comeTogether 61 = .ok (.invokevirtual 39, 3) := by decide +kernel
theorem dX2_comeTogether_64 : decode cX2_comeTogether 64 = .ok (.invokestatic 85, 3) := by decide +kernel
theorem dX2_comeTogether_67 : decode cX2_comeTogether 67 = .ok (.goto 13, 3) := by decide +kernel
theorem dX2_comeTogether_70 : decode cX2_comeTogether 70 = .ok (.lload 4, 2) := by decide +kernel
theorem dX2_comeTogether_72 : decode cX2_comeTogether 72 = .ok (.aload_n 0, 1) := by decide +kernel
theorem dX2_comeTogether_73 : decode cX2_comeTogether 73 = .ok (.iload 6, 2) := by decide +kernel
theorem dX2_comeTogether_75 : decode cX2_comeTogether 75 = .ok (.iload_n 2, 1) := by decide +kernel
theorem dX2_comeTogether_76 : decode cX2_comeTogether 76 = .ok (.invokevirtual 39, 3) := by decide +kernel
theorem dX2_comeTogether_79 : decode cX2_comeTogether 79 = .ok (.ladd, 1) := by decide +kernel
theorem dX2_comeTogether_80 : decode cX2_comeTogether 80 = .ok (.lstore 4, 2) := by decide +kernel
theorem dX2_comeTogether_82 : decode cX2_comeTogether 82 = .ok (.iinc 6 1, 3) := by decide +kernel
theorem dX2_comeTogether_85 : decode cX2_comeTogether 85 = .ok (.goto (-69), 3) := by decide +kernel
theorem dX2_comeTogether_88 : decode cX2_comeTogether 88 = .ok (.lload 4, 2) := by decide +kernel
theorem dX2_comeTogether_90 : decode cX2_comeTogether 90 = .ok (.lreturn, 1) := by decide +kernel
theorem dX3_init_0 : decode cX3_init 0 = .ok (.aload_n 0, 1) := by decide +kernel
theorem dX3_init_1 : decode cX3_init 1 = .ok (.invokespecial 3, 3) := by decide +kernel
theorem dX3_init_4 : decode cX3_init 4 = .ok (.aload_n 0, 1) := by decide +kernel
theorem dX3_init_5 : decode cX3_init 5 = .ok (.bipush 24, 2) := by decide +kernel
theorem dX3_init_7 : decode cX3_init 7 = .ok (.newarray .int, 2) := by decide +kernel
theorem dX3_init_9 : decode cX3_init 9 = .ok (.putfield 9, 3) := by decide +kernel
theorem dX3_init_12 : decode cX3_init 12 = .ok (.aload_n 0, 1) := by decide +kernel
theorem dX3_init_13 : decode cX3_init 13 = .ok (.bipush 72, 2) := by decide +kernel
theorem dX3_init_15 : decode cX3_init 15 = .ok (.newarray .int, 2) := by decide +kernel
theorem dX3_init_17 : decode cX3_init 17 = .ok (.putfield 15, 3) := by decide +kernel
theorem dX3_init_20 : decode cX3_init 20 = .ok (.aload_n 0, 1) := by decide +kernel
theorem dX3_init_21 : decode cX3_init 21 = .ok (.iconst 0, 1) := by decide +kernel
theorem dX3_init_22 : decode cX3_init 22 = .ok (.newarray .int, 2) := by decide +kernel
theorem dX3_init_24 : decode cX3_init 24 = .ok (.putfield 18, 3) := by decide +kernel
theorem dX3_init_27 : decode cX3_init 27 = .ok (.return_, 1) := by decide +kernel
theorem dX3_number_0 : decode cX3_number 0 = .ok (.aload_n 0, 1) := by decide +kernel
theorem dX3_number_1 : decode cX3_number 1 = .ok (.getfield 15, 3) := by decide +kernel
theorem dX3_number_4 : decode cX3_number 4 = .ok (.iload_n 1, 1) := by decide +kernel
theorem dX3_number_5 : decode cX3_number 5 = .ok (.iconst 3, 1) := by decide +kernel
theorem dX3_number_6 : decode cX3_number 6 = .ok (.imul, 1) := by decide +kernel
theorem dX3_number_7 : decode cX3_number 7 = .ok (.iload_n 2, 1) := by decide +kernel
theorem dX3_number_8 : decode cX3_number 8 = .ok (.iadd, 1) := by decide +kernel
theorem dX3_number_9 : decode cX3_number 9 = .ok (.iaload, 1) := by decide +kernel
theorem dX3_number_10 : decode cX3_number 10 = .ok (.ireturn, 1) := by decide +kernel
theorem dX3_readText_0 : decode cX3_readText 0 = .ok (.aload_n 0, 1) := by decide +kernel
theorem dX3_readText_1 : decode cX3_readText 1 = .ok (.aload_n 1, 1) := by decide +kernel
theorem dX3_readText_2 : decode cX3_readText 2 = .ok (.putfield 18, 3) := by decide +kernel
theorem dX3_readText_5 : decode cX3_readText 5 = .ok (.aload_n 0, 1) := by decide +kernel
theorem dX3_readText_6 : decode cX3_readText 6 = .ok (.iload_n 2, 1) := by decide +kernel
theorem dX3_readText_7 : decode cX3_readText 7 = .ok (.putfield 21, 3) := by decide +kernel
theorem dX3_readText_10 : decode cX3_readText 10 = .ok (.aload_n 0, 1) := by decide +kernel
theorem dX3_readText_11 : decode cX3_readText 11 = .ok (.iconst 0, 1) := by decide +kernel
theorem dX3_readText_12 : decode cX3_readText 12 = .ok (.putfield 25, 3) := by decide +kernel
theorem dX3_readText_15 : decode cX3_readText 15 = .ok (.aload_n 0, 1) := by decide +kernel
theorem dX3_readText_16 : decode cX3_readText 16 = .ok (.iconst 0, 1) := by decide +kernel
theorem dX3_readText_17 : decode cX3_readText 17 = .ok (.putfield 28, 3) := by decide +kernel
theorem dX3_readText_20 : decode cX3_readText 20 = .ok (.aload_n 0, 1) := by decide +kernel
theorem dX3_readText_21 : decode cX3_readText 21 = .ok (.iload_n 3, 1) := by decide +kernel
theorem dX3_readText_22 : decode cX3_readText 22 = .ok (.putfield 31, 3) := by decide +kernel
theorem dX3_readText_25 : decode cX3_readText 25 = .ok (.aload_n 0, 1) := by decide +kernel
theorem dX3_readText_26 : decode cX3_readText 26 = .ok (.iload 4, 2) := by decide +kernel
theorem dX3_readText_28 : decode cX3_readText 28 = .ok (.putfield 35, 3) := by decide +kernel
theorem dX3_readText_31 : decode cX3_readText 31 = .ok (.aload_n 0, 1) := by decide +kernel
theorem dX3_readText_32 : decode cX3_readText 32 = .ok (.iconst 0, 1) := by decide +kernel
theorem dX3_readText_33 : decode cX3_readText 33 = .ok (.putfield 38, 3) := by decide +kernel
theorem dX3_readText_36 : decode cX3_readText 36 = .ok (.iconst 1, 1) := by decide +kernel
theorem dX3_readText_37 : decode cX3_readText 37 = .ok (.istore 5, 2) := by decide +kernel
theorem dX3_readText_39 : decode cX3_readText 39 = .ok (.iconst 0, 1) := by decide +kernel
theorem dX3_readText_40 : decode cX3_readText 40 = .ok (.istore 6, 2) := by decide +kernel
theorem dX3_readText_42 : decode cX3_readText 42 = .ok (.iload 6, 2) := by decide +kernel
theorem dX3_readText_44 : decode cX3_readText 44 = .ok (.bipush 24, 2) := by decide +kernel
theorem dX3_readText_46 : decode cX3_readText 46 = .ok (.if_icmp .ge 22, 3) := by decide +kernel
theorem dX3_readText_49 : decode cX3_readText 49 = .ok (.iload 5, 2) := by decide +kernel
theorem dX3_readText_51 : decode cX3_readText 51 = .ok (.ifCond .eq 17, 3) := by decide +kernel
theorem dX3_readText_54 : decode cX3_readText 54 = .ok (.aload_n 0, 1) := by decide +kernel
theorem dX3_readText_55 : decode cX3_readText 55 = .ok (.iload 6, 2) := by decide +kernel
theorem dX3_readText_57 : decode cX3_readText 57 = .ok (.invokevirtual 41, 3) := by decide +kernel
theorem dX3_readText_60 : decode cX3_readText 60 = .ok (.istore 5, 2) := by decide +kernel
theorem dX3_readText_62 : decode cX3_readText 62 = .ok (.iinc 6 1, 3) := by decide +kernel
theorem dX3_readText_65 : decode cX3_readText 65 = .ok (.goto (-23), 3) := by decide +kernel
theorem dX3_readText_68 : decode cX3_readText 68 = .ok (.iload 5, 2) := by decide +kernel
theorem dX3_readText_70 : decode cX3_readText 70 = .ok (.ifCond .eq 12, 3) := by decide +kernel
theorem dX3_readText_73 : decode cX3_readText 73 = .ok (.aload_n 0, 1) := by decide +kernel
theorem dX3_readText_74 : decode cX3_readText 74 = .ok (.iconst 4, 1) := by decide +kernel
theorem dX3_readText_75 : decode cX3_readText 75 = .ok (.aload_n 0, 1) := by decide +kernel
theorem dX3_readText_76 : decode cX3_readText 76 = .ok (.getfield 25, 3) := by decide +kernel
theorem dX3_readText_79 : decode cX3_readText 79 = .ok (.invokevirtual 45, 3) := by decide +kernel
theorem dX3_readText_82 : decode cX3_readText 82 = .ok (.aload_n 0, 1) := by decide +kernel
theorem dX3_readText_83 : decode cX3_readText 83 = .ok (.getfield 28, 3) := by decide +kernel
theorem dX3_readText_86 : decode cX3_readText 86 = .ok (.ireturn, 1) := by decide +kernel
theorem dX3_tellFault_0 : decode cX3_tellFault 0 = .ok (.aload_n 0, 1) := by decide +kernel
theorem dX3_tellFault_1 : decode cX3_tellFault 1 = .ok (.sipush (-1000), 3) := by decide +kernel
theorem dX3_tellFault_4 : decode cX3_tellFault 4 = .ok (.iload_n 1, 1) := by decide +kernel
theorem dX3_tellFault_5 : decode cX3_tellFault 5 = .ok (.imul, 1) := by decide +kernel
theorem dX3_tellFault_6 : decode cX3_tellFault 6 = .ok (.iload_n 2, 1) := by decide +kernel
theorem dX3_tellFault_7 : decode cX3_tellFault 7 = .ok (.isub, 1) := by decide +kernel
theorem dX3_tellFault_8 : decode cX3_tellFault 8 = .ok (.putfield 28, 3) := by decide +kernel
theorem dX3_tellFault_11 : decode cX3_tellFault 11 = .ok (.return_, 1) := by decide +kernel
theorem dX3_readClause_0 : decode cX3_readClause 0 = .ok (.aload_n 0, 1) := by decide +kernel
theorem dX3_readClause_1 : decode cX3_readClause 1 = .ok (.iload_n 1, 1) := by decide +kernel
theorem dX3_readClause_2 : decode cX3_readClause 2 = .ok (.invokevirtual 49, 3) := by decide +kernel
theorem dX3_readClause_5 : decode cX3_readClause 5 = .ok (.aload_n 0, 1) := by decide +kernel
theorem dX3_readClause_6 : decode cX3_readClause 6 = .ok (.getfield 28, 3) := by decide +kernel
theorem dX3_readClause_9 : decode cX3_readClause 9 = .ok (.ifCond .eq 5, 3) := by decide +kernel
theorem dX3_readClause_12 : decode cX3_readClause 12 = .ok (.iconst 0, 1) := by decide +kernel
theorem dX3_readClause_13 : decode cX3_readClause 13 = .ok (.ireturn, 1) := by decide +kernel
theorem dX3_readClause_14 : decode cX3_readClause 14 = .ok (.aload_n 0, 1) := by decide +kernel
theorem dX3_readClause_15 : decode cX3_readClause 15 = .ok (.getfield 9, 3) := by decide +kernel
theorem dX3_readClause_18 : decode cX3_readClause 18 = .ok (.iload_n 1, 1) := by decide +kernel
theorem dX3_readClause_19 : decode cX3_readClause 19 = .ok (.iaload, 1) := by decide +kernel
theorem dX3_readClause_20 : decode cX3_readClause 20 = .ok (.invokestatic 53, 3) := by decide +kernel
theorem dX3_readClause_23 : decode cX3_readClause 23 = .ok (.astore_n 2, 1) := by decide +kernel
theorem dX3_readClause_24 : decode cX3_readClause 24 = .ok (.iconst 0, 1) := by decide +kernel
theorem dX3_readClause_25 : decode cX3_readClause 25 = .ok (.istore_n 3, 1) := by decide +kernel
theorem dX3_readClause_26 : decode cX3_readClause 26 = .ok (.iload_n 3, 1) := by decide +kernel
theorem dX3_readClause_27 : decode cX3_readClause 27 = .ok (.aload_n 2, 1) := by decide +kernel
theorem dX3_readClause_28 : decode cX3_readClause 28 = .ok (.invokevirtual 57, 3) := by decide +kernel
theorem dX3_readClause_31 : decode cX3_readClause 31 = .ok (.if_icmp .ge 27, 3) := by decide +kernel
theorem dX3_readClause_34 : decode cX3_readClause 34 = .ok (.aload_n 0, 1) := by decide +kernel
theorem dX3_readClause_35 : decode cX3_readClause 35 = .ok (.getfield 28, 3) := by decide +kernel
theorem dX3_readClause_38 : decode cX3_readClause 38 = .ok (.ifCond .ne 20, 3) := by decide +kernel
theorem dX3_readClause_41 : decode cX3_readClause 41 = .ok (.aload_n 0, 1) := by decide +kernel
theorem dX3_readClause_42 : decode cX3_readClause 42 = .ok (.iload_n 1, 1) := by decide +kernel
theorem dX3_readClause_43 : decode cX3_readClause 43 = .ok (.iload_n 3, 1) := by decide +kernel
theorem dX3_readClause_44 : decode cX3_readClause 44 = .ok (.aload_n 2, 1) := by decide +kernel
theorem dX3_readClause_45 : decode cX3_readClause 45 = .ok (.iload_n 3, 1) := by decide +kernel
theorem dX3_readClause_46 : decode cX3_readClause 46 = .ok (.invokevirtual 63, 3) := by decide +kernel
theorem dX3_readClause_49 : decode cX3_readClause 49 = .ok (.invokevirtual 67, 3) := by decide +kernel
theorem dX3_readClause_52 : decode cX3_readClause 52 = .ok (.iinc 3 1, 3) := by decide +kernel
theorem dX3_readClause_55 : decode cX3_readClause 55 = .ok (.goto (-29), 3) := by decide +kernel
theorem dX3_readClause_58 : decode cX3_readClause 58 = .ok (.aload_n 0, 1) := by decide +kernel
theorem dX3_readClause_59 : decode cX3_readClause 59 = .ok (.getfield 28, 3) := by decide +kernel
theorem dX3_readClause_62 : decode cX3_readClause 62 = .ok (.ifCond .eq 5, 3) := by decide +kernel
theorem dX3_readClause_65 : decode cX3_readClause 65 = .ok (.iconst 0, 1) := by decide +kernel
theorem dX3_readClause_66 : decode cX3_readClause 66 = .ok (.ireturn, 1) := by decide +kernel
theorem dX3_readClause_67 : decode cX3_readClause 67 = .ok (.aload_n 0, 1) := by decide +kernel
theorem dX3_readClause_68 : decode cX3_readClause 68 = .ok (.iload_n 1, 1) := by decide +kernel
theorem dX3_readClause_69 : decode cX3_readClause 69 = .ok (.iconst 1, 1) := by decide +kernel
theorem dX3_readClause_70 : decode cX3_readClause 70 = .ok (.iadd, 1) := by decide +kernel
theorem dX3_readClause_71 : decode cX3_readClause 71 = .ok (.putfield 38, 3) := by decide +kernel
theorem dX3_readClause_74 : decode cX3_readClause 74 = .ok (.aload_n 0, 1) := by decide +kernel
theorem dX3_readClause_75 : decode cX3_readClause 75 = .ok (.getfield 25, 3) := by decide +kernel
theorem dX3_readClause_78 : decode cX3_readClause 78 = .ok (.aload_n 0, 1) := by decide +kernel
theorem dX3_readClause_79 : decode cX3_readClause 79 = .ok (.getfield 21, 3) := by decide +kernel
theorem dX3_readClause_82 : decode cX3_readClause 82 = .ok (.if_icmp .lt 5, 3) := by decide +kernel
theorem dX3_readClause_85 : decode cX3_readClause 85 = .ok (.iconst 0, 1) := by decide +kernel
theorem dX3_readClause_86 : decode cX3_readClause 86 = .ok (.ireturn, 1) := by decide +kernel
theorem dX3_readClause_87 : decode cX3_readClause 87 = .ok (.aload_n 0, 1) := by decide +kernel
theorem dX3_readClause_88 : decode cX3_readClause 88 = .ok (.getfield 18, 3) := by decide +kernel
theorem dX3_readClause_91 : decode cX3_readClause 91 = .ok (.aload_n 0, 1) := by decide +kernel
theorem dX3_readClause_92 : decode cX3_readClause 92 = .ok (.getfield 25, 3) := by decide +kernel
theorem dX3_readClause_95 : decode cX3_readClause 95 = .ok (.iaload, 1) := by decide +kernel
theorem dX3_readClause_96 : decode cX3_readClause 96 = .ok (.bipush 59, 2) := by decide +kernel
theorem dX3_readClause_98 : decode cX3_readClause 98 = .ok (.if_icmp .eq 14, 3) := by decide +kernel
theorem dX3_readClause_101 : decode cX3_readClause 101 = .ok (.aload_n 0, 1) := by decide +kernel
theorem dX3_readClause_102 : decode cX3_readClause 102 = .ok (.iconst 1, 1) := by decide +kernel
theorem dX3_readClause_103 : decode cX3_readClause 103 = .ok (.aload_n 0, 1) := by decide +kernel
theorem dX3_readClause_104 : decode cX3_readClause 104 = .ok (.getfield 25, 3) := by decide +kernel
theorem dX3_readClause_107 : decode cX3_readClause 107 = .ok (.invokevirtual 45, 3) := by decide +kernel
theorem dX3_readClause_110 : decode cX3_readClause 110 = .ok (.iconst 0, 1) := by decide +kernel
theorem dX3_readClause_111 : decode cX3_readClause 111 = .ok (.ireturn, 1) := by decide +kernel
theorem dX3_readClause_112 : decode cX3_readClause 112 = .ok (.aload_n 0, 1) := by decide +kernel
theorem dX3_readClause_113 : decode cX3_readClause 113 = .ok (.dup, 1) := by decide +kernel
theorem dX3_readClause_114 : decode cX3_readClause 114 = .ok (.getfield 25, 3) := by decide +kernel
theorem dX3_readClause_117 : decode cX3_readClause 117 = .ok (.iconst 1, 1) := by decide +kernel
theorem dX3_readClause_118 : decode cX3_readClause 118 = .ok (.iadd, 1) := by decide +kernel
theorem dX3_readClause_119 : decode cX3_readClause 119 = .ok (.putfield 25, 3) := by decide +kernel
theorem dX3_readClause_122 : decode cX3_readClause 122 = .ok (.iconst 1, 1) := by decide +kernel
theorem dX3_readClause_123 : decode cX3_readClause 123 = .ok (.ireturn, 1) := by decide +kernel
theorem dX3_readWord_0 : decode cX3_readWord 0 = .ok (.aload_n 0, 1) := by decide +kernel
theorem dX3_readWord_1 : decode cX3_readWord 1 = .ok (.getfield 25, 3) := by decide +kernel
theorem dX3_readWord_4 : decode cX3_readWord 4 = .ok (.istore_n 2, 1) := by decide +kernel
theorem dX3_readWord_5 : decode cX3_readWord 5 = .ok (.aload_n 0, 1) := by decide +kernel
theorem dX3_readWord_6 : decode cX3_readWord 6 = .ok (.getfield 25, 3) := by decide +kernel
theorem dX3_readWord_9 : decode cX3_readWord 9 = .ok (.aload_n 0, 1) := by decide +kernel
theorem dX3_readWord_10 : decode cX3_readWord 10 = .ok (.getfield 21, 3) := by decide +kernel
theorem dX3_readWord_13 : decode cX3_readWord 13 = .ok (.if_icmp .ge 44, 3) := by decide +kernel
theorem dX3_readWord_16 : decode cX3_readWord 16 = .ok (.aload_n 0, 1) := by decide +kernel
theorem dX3_readWord_17 : decode cX3_readWord 17 = .ok (.getfield 18, 3) := by decide +kernel
theorem dX3_readWord_20 : decode cX3_readWord 20 = .ok (.aload_n 0, 1) := by decide +kernel
theorem dX3_readWord_21 : decode cX3_readWord 21 = .ok (.getfield 25, 3) := by decide +kernel
theorem dX3_readWord_24 : decode cX3_readWord 24 = .ok (.iaload, 1) := by decide +kernel
theorem dX3_readWord_25 : decode cX3_readWord 25 = .ok (.bipush 97, 2) := by decide +kernel
theorem dX3_readWord_27 : decode cX3_readWord 27 = .ok (.if_icmp .lt 30, 3) := by decide +kernel
theorem dX3_readWord_30 : decode cX3_readWord 30 = .ok (.aload_n 0, 1) := by decide +kernel
theorem dX3_readWord_31 : decode cX3_readWord 31 = .ok (.getfield 18, 3) := by decide +kernel
theorem dX3_readWord_34 : decode cX3_readWord 34 = .ok (.aload_n 0, 1) := by decide +kernel
theorem dX3_readWord_35 : decode cX3_readWord 35 = .ok (.getfield 25, 3) := by decide +kernel
theorem dX3_readWord_38 : decode cX3_readWord 38 = .ok (.iaload, 1) := by decide +kernel
theorem dX3_readWord_39 : decode cX3_readWord 39 = .ok (.bipush 122, 2) := by decide +kernel
theorem dX3_readWord_41 : decode cX3_readWord 41 = .ok (.if_icmp .gt 16, 3) := by decide +kernel
theorem dX3_readWord_44 : decode cX3_readWord 44 = .ok (.aload_n 0, 1) := by decide +kernel
theorem dX3_readWord_45 : decode cX3_readWord 45 = .ok (.dup, 1) := by decide +kernel
theorem dX3_readWord_46 : decode cX3_readWord 46 = .ok (.getfield 25, 3) := by decide +kernel
theorem dX3_readWord_49 : decode cX3_readWord 49 = .ok (.iconst 1, 1) := by decide +kernel
theorem dX3_readWord_50 : decode cX3_readWord 50 = .ok (.iadd, 1) := by decide +kernel
theorem dX3_readWord_51 : decode cX3_readWord 51 = .ok (.putfield 25, 3) := by decide +kernel
theorem dX3_readWord_54 : decode cX3_readWord 54 = .ok (.goto (-49), 3) := by decide +kernel
theorem dX3_readWord_57 : decode cX3_readWord 57 = .ok (.aload_n 0, 1) := by decide +kernel
theorem dX3_readWord_58 : decode cX3_readWord 58 = .ok (.getfield 31, 3) := by decide +kernel
theorem dX3_readWord_61 : decode cX3_readWord 61 = .ok (.ifCond .eq 12, 3) := by decide +kernel
theorem dX3_readWord_64 : decode cX3_readWord 64 = .ok (.aload_n 0, 1) := by decide +kernel
theorem dX3_readWord_65 : decode cX3_readWord 65 = .ok (.iload_n 2, 1) := by decide +kernel
theorem dX3_readWord_66 : decode cX3_readWord 66 = .ok (.iload_n 1, 1) := by decide +kernel
theorem dX3_readWord_67 : decode cX3_readWord 67 = .ok (.invokevirtual 71, 3) := by decide +kernel
theorem dX3_readWord_70 : decode cX3_readWord 70 = .ok (.goto 8, 3) := by decide +kernel
theorem dX3_readWord_73 : decode cX3_readWord 73 = .ok (.aload_n 0, 1) := by decide +kernel
theorem dX3_readWord_74 : decode cX3_readWord 74 = .ok (.iload_n 2, 1) := by decide +kernel
theorem dX3_readWord_75 : decode cX3_readWord 75 = .ok (.invokevirtual 75, 3) := by decide +kernel
theorem dX3_readWord_78 : decode cX3_readWord 78 = .ok (.istore_n 3, 1) := by decide +kernel
theorem dX3_readWord_79 : decode cX3_readWord 79 = .ok (.iload_n 3, 1) := by decide +kernel
theorem dX3_readWord_80 : decode cX3_readWord 80 = .ok (.iconst (-1), 1) := by decide +kernel
theorem dX3_readWord_81 : decode cX3_readWord 81 = .ok (.if_icmp .ne 12, 3) := by decide +kernel
theorem dX3_readWord_84 : decode cX3_readWord 84 = .ok (.aload_n 0, 1) := by decide +kernel
theorem dX3_readWord_85 : decode cX3_readWord 85 = .ok (.iconst 1, 1) := by decide +kernel
theorem dX3_readWord_86 : decode cX3_readWord 86 = .ok (.iload_n 2, 1) := by decide +kernel
theorem dX3_readWord_87 : decode cX3_readWord 87 = .ok (.invokevirtual 45, 3) := by decide +kernel
theorem dX3_readWord_90 : decode cX3_readWord 90 = .ok (.goto 10, 3) := by decide +kernel
theorem dX3_readWord_93 : decode cX3_readWord 93 = .ok (.aload_n 0, 1) := by decide +kernel
theorem dX3_readWord_94 : decode cX3_readWord 94 = .ok (.getfield 9, 3) := by decide +kernel
theorem dX3_readWord_97 : decode cX3_readWord 97 = .ok (.iload_n 1, 1) := by decide +kernel
theorem dX3_readWord_98 : decode cX3_readWord 98 = .ok (.iload_n 3, 1) := by decide +kernel
theorem dX3_readWord_99 : decode cX3_readWord 99 = .ok (.iastore, 1) := by decide +kernel
theorem dX3_readWord_100 : decode cX3_readWord 100 = .ok (.return_, 1) := by decide +kernel
theorem dX3_netWord_0 : decode cX3_netWord 0 = .ok (.iload_n 2, 1) := by decide +kernel
theorem dX3_netWord_1 : decode cX3_netWord 1 = .ok (.ifCond .ne 15, 3) := by decide +kernel
theorem dX3_netWord_4 : decode cX3_netWord 4 = .ok (.aload_n 0, 1) := by decide +kernel
theorem dX3_netWord_5 : decode cX3_netWord 5 = .ok (.iload_n 1, 1) := by decide +kernel
theorem dX3_netWord_6 : decode cX3_netWord 6 = .ok (.ldc 79, 2) := by decide +kernel
theorem dX3_netWord_8 : decode cX3_netWord 8 = .ok (.invokevirtual 80, 3) := by decide +kernel
theorem dX3_netWord_11 : decode cX3_netWord 11 = .ok (.ifCond .eq 5, 3) := by decide +kernel
theorem dX3_netWord_14 : decode cX3_netWord 14 = .ok (.iconst 0, 1) := by decide +kernel
theorem dX3_netWord_15 : decode cX3_netWord 15 = .ok (.ireturn, 1) := by decide +kernel
theorem dX3_netWord_16 : decode cX3_netWord 16 = .ok (.aload_n 0, 1) := by decide +kernel
theorem dX3_netWord_17 : decode cX3_netWord 17 = .ok (.iload_n 1, 1) := by decide +kernel
theorem dX3_netWord_18 : decode cX3_netWord 18 = .ok (.ldc 84, 2) := by decide +kernel
theorem dX3_netWord_20 : decode cX3_netWord 20 = .ok (.invokevirtual 80, 3) := by decide +kernel
theorem dX3_netWord_23 : decode cX3_netWord 23 = .ok (.ifCond .eq 7, 3) := by decide +kernel
theorem dX3_netWord_26 : decode cX3_netWord 26 = .ok (.iconst 1, 1) := by decide +kernel
theorem dX3_netWord_27 : decode cX3_netWord 27 = .ok (.goto 4, 3) := by decide +kernel
theorem dX3_netWord_30 : decode cX3_netWord 30 = .ok (.iconst (-1), 1) := by decide +kernel
theorem dX3_netWord_31 : decode cX3_netWord 31 = .ok (.ireturn, 1) := by decide +kernel
theorem dX3_orderWord_0 : decode cX3_orderWord 0 = .ok (.iconst 2, 1) := by decide +kernel
theorem dX3_orderWord_1 : decode cX3_orderWord 1 = .ok (.istore_n 2, 1) := by decide +kernel
theorem dX3_orderWord_2 : decode cX3_orderWord 2 = .ok (.iload_n 2, 1) := by decide +kernel
theorem dX3_orderWord_3 : decode cX3_orderWord 3 = .ok (.bipush 8, 2) := by decide +kernel
theorem dX3_orderWord_5 : decode cX3_orderWord 5 = .ok (.if_icmp .gt 23, 3) := by decide +kernel
theorem dX3_orderWord_8 : decode cX3_orderWord 8 = .ok (.aload_n 0, 1) := by decide +kernel
theorem dX3_orderWord_9 : decode cX3_orderWord 9 = .ok (.iload_n 1, 1) := by decide +kernel
theorem dX3_orderWord_10 : decode cX3_orderWord 10 = .ok (.iload_n 2, 1) := by decide +kernel
theorem dX3_orderWord_11 : decode cX3_orderWord 11 = .ok (.invokestatic 86, 3) := by decide +kernel
theorem dX3_orderWord_14 : decode cX3_orderWord 14 = .ok (.invokevirtual 80, 3) := by decide +kernel
theorem dX3_orderWord_17 : decode cX3_orderWord 17 = .ok (.ifCond .eq 5, 3) := by decide +kernel
theorem dX3_orderWord_20 : decode cX3_orderWord 20 = .ok (.iload_n 2, 1) := by decide +kernel
theorem dX3_orderWord_21 : decode cX3_orderWord 21 = .ok (.ireturn, 1) := by decide +kernel
theorem dX3_orderWord_22 : decode cX3_orderWord 22 = .ok (.iinc 2 1, 3) := by decide +kernel
theorem dX3_orderWord_25 : decode cX3_orderWord 25 = .ok (.goto (-23), 3) := by decide +kernel
theorem dX3_orderWord_28 : decode cX3_orderWord 28 = .ok (.iconst (-1), 1) := by decide +kernel
theorem dX3_orderWord_29 : decode cX3_orderWord 29 = .ok (.ireturn, 1) := by decide +kernel
theorem dX3_orderText_0 : decode cX3_orderText 0 = .ok (.iload_n 0, 1) := by decide +kernel
theorem dX3_orderText_1 : decode cX3_orderText 1 = .ok (.tableswitch 57 2 7 #[39, 42, 45, 48, 51, 54], 39) := by decide +kernel
theorem dX3_orderText_40 : decode cX3_orderText 40 = .ok (.ldc 89, 2) := by decide +kernel
theorem dX3_orderText_42 : decode cX3_orderText 42 = .ok (.areturn, 1) := by decide +kernel
theorem dX3_orderText_43 : decode cX3_orderText 43 = .ok (.ldc 91, 2) := by decide +kernel
theorem dX3_orderText_45 : decode cX3_orderText 45 = .ok (.areturn, 1) := by decide +kernel
theorem dX3_orderText_46 : decode cX3_orderText 46 = .ok (.ldc 92, 2) := by decide +kernel
theorem dX3_orderText_48 : decode cX3_orderText 48 = .ok (.areturn, 1) := by decide +kernel
theorem dX3_orderText_49 : decode cX3_orderText 49 = .ok (.ldc 94, 2) := by decide +kernel
theorem dX3_orderText_51 : decode cX3_orderText 51 = .ok (.areturn, 1) := by decide +kernel
theorem dX3_orderText_52 : decode cX3_orderText 52 = .ok (.ldc 96, 2) := by decide +kernel
theorem dX3_orderText_54 : decode cX3_orderText 54 = .ok (.areturn, 1) := by decide +kernel
theorem dX3_orderText_55 : decode cX3_orderText 55 = .ok (.ldc 98, 2) := by decide +kernel
theorem dX3_orderText_57 : decode cX3_orderText 57 = .ok (.areturn, 1) := by decide +kernel
theorem dX3_orderText_58 : decode cX3_orderText 58 = .ok (.ldc 100, 2) := by decide +kernel
theorem dX3_orderText_60 : decode cX3_orderText 60 = .ok (.areturn, 1) := by decide +kernel
theorem dX3_isWord_0 : decode cX3_isWord 0 = .ok (.aload_n 0, 1) := by decide +kernel
theorem dX3_isWord_1 : decode cX3_isWord 1 = .ok (.getfield 25, 3) := by decide +kernel
theorem dX3_isWord_4 : decode cX3_isWord 4 = .ok (.iload_n 1, 1) := by decide +kernel
theorem dX3_isWord_5 : decode cX3_isWord 5 = .ok (.isub, 1) := by decide +kernel
theorem dX3_isWord_6 : decode cX3_isWord 6 = .ok (.aload_n 2, 1) := by decide +kernel
theorem dX3_isWord_7 : decode cX3_isWord 7 = .ok (.invokevirtual 57, 3) := by decide +kernel
theorem dX3_isWord_10 : decode cX3_isWord 10 = .ok (.if_icmp .eq 5, 3) := by decide +kernel
theorem dX3_isWord_13 : decode cX3_isWord 13 = .ok (.iconst 0, 1) := by decide +kernel
theorem dX3_isWord_14 : decode cX3_isWord 14 = .ok (.ireturn, 1) := by decide +kernel
theorem dX3_isWord_15 : decode cX3_isWord 15 = .ok (.iconst 0, 1) := by decide +kernel
theorem dX3_isWord_16 : decode cX3_isWord 16 = .ok (.istore_n 3, 1) := by decide +kernel
theorem dX3_isWord_17 : decode cX3_isWord 17 = .ok (.iload_n 3, 1) := by decide +kernel
theorem dX3_isWord_18 : decode cX3_isWord 18 = .ok (.aload_n 2, 1) := by decide +kernel
theorem dX3_isWord_19 : decode cX3_isWord 19 = .ok (.invokevirtual 57, 3) := by decide +kernel
theorem dX3_isWord_22 : decode cX3_isWord 22 = .ok (.if_icmp .ge 27, 3) := by decide +kernel
theorem dX3_isWord_25 : decode cX3_isWord 25 = .ok (.aload_n 0, 1) := by decide +kernel
theorem dX3_isWord_26 : decode cX3_isWord 26 = .ok (.getfield 18, 3) := by decide +kernel
theorem dX3_isWord_29 : decode cX3_isWord 29 = .ok (.iload_n 1, 1) := by decide +kernel
theorem dX3_isWord_30 : decode cX3_isWord 30 = .ok (.iload_n 3, 1) := by decide +kernel
theorem dX3_isWord_31 : decode cX3_isWord 31 = .ok (.iadd, 1) := by decide +kernel
theorem dX3_isWord_32 : decode cX3_isWord 32 = .ok (.iaload, 1) := by decide +kernel
theorem dX3_isWord_33 : decode cX3_isWord 33 = .ok (.aload_n 2, 1) := by decide +kernel
theorem dX3_isWord_34 : decode cX3_isWord 34 = .ok (.iload_n 3, 1) := by decide +kernel
theorem dX3_isWord_35 : decode cX3_isWord 35 = .ok (.invokevirtual 63, 3) := by decide +kernel
theorem dX3_isWord_38 : decode cX3_isWord 38 = .ok (.if_icmp .eq 5, 3) := by decide +kernel
theorem dX3_isWord_41 : decode cX3_isWord 41 = .ok (.iconst 0, 1) := by decide +kernel
theorem dX3_isWord_42 : decode cX3_isWord 42 = .ok (.ireturn, 1) := by decide +kernel
theorem dX3_isWord_43 : decode cX3_isWord 43 = .ok (.iinc 3 1, 3) := by decide +kernel
theorem dX3_isWord_46 : decode cX3_isWord 46 = .ok (.goto (-29), 3) := by decide +kernel
theorem dX3_isWord_49 : decode cX3_isWord 49 = .ok (.iconst 1, 1) := by decide +kernel
theorem dX3_isWord_50 : decode cX3_isWord 50 = .ok (.ireturn, 1) := by decide +kernel
theorem dX3_shapeOf_0 : decode cX3_shapeOf 0 = .ok (.iload_n 0, 1) := by decide +kernel
theorem dX3_shapeOf_1 : decode cX3_shapeOf 1 = .ok (.tableswitch 68 0 7 #[47, 50, 53, 56, 62, 65, 68, 59], 47) := by decide +kernel
theorem dX3_shapeOf_48 : decode cX3_shapeOf 48 = .ok (.ldc 102, 2) := by decide +kernel
theorem dX3_shapeOf_50 : decode cX3_shapeOf 50 = .ok (.areturn, 1) := by decide +kernel
theorem dX3_shapeOf_51 : decode cX3_shapeOf 51 = .ok (.ldc 104, 2) := by decide +kernel
theorem dX3_shapeOf_53 : decode cX3_shapeOf 53 = .ok (.areturn, 1) := by decide +kernel
theorem dX3_shapeOf_54 : decode cX3_shapeOf 54 = .ok (.ldc 104, 2) := by decide +kernel
theorem dX3_shapeOf_56 : decode cX3_shapeOf 56 = .ok (.areturn, 1) := by decide +kernel
theorem dX3_shapeOf_57 : decode cX3_shapeOf 57 = .ok (.ldc 106, 2) := by decide +kernel
theorem dX3_shapeOf_59 : decode cX3_shapeOf 59 = .ok (.areturn, 1) := by decide +kernel
theorem dX3_shapeOf_60 : decode cX3_shapeOf 60 = .ok (.ldc 108, 2) := by decide +kernel
theorem dX3_shapeOf_62 : decode cX3_shapeOf 62 = .ok (.areturn, 1) := by decide +kernel
theorem dX3_shapeOf_63 : decode cX3_shapeOf 63 = .ok (.ldc 110, 2) := by decide +kernel
theorem dX3_shapeOf_65 : decode cX3_shapeOf 65 = .ok (.areturn, 1) := by decide +kernel
theorem dX3_shapeOf_66 : decode cX3_shapeOf 66 = .ok (.ldc 110, 2) := by decide +kernel
theorem dX3_shapeOf_68 : decode cX3_shapeOf 68 = .ok (.areturn, 1) := by decide +kernel
theorem dX3_shapeOf_69 : decode cX3_shapeOf 69 = .ok (.ldc 112, 2) := by decide +kernel
theorem dX3_shapeOf_71 : decode cX3_shapeOf 71 = .ok (.areturn, 1) := by decide +kernel
theorem dX3_readNumber_0 : decode cX3_readNumber 0 = .ok (.aload_n 0, 1) := by decide +kernel
theorem dX3_readNumber_1 : decode cX3_readNumber 1 = .ok (.getfield 25, 3) := by decide +kernel
theorem dX3_readNumber_4 : decode cX3_readNumber 4 = .ok (.aload_n 0, 1) := by decide +kernel
theorem dX3_readNumber_5 : decode cX3_readNumber 5 = .ok (.getfield 21, 3) := by decide +kernel
theorem dX3_readNumber_8 : decode cX3_readNumber 8 = .ok (.if_icmp .ge 17, 3) := by decide +kernel
theorem dX3_readNumber_11 : decode cX3_readNumber 11 = .ok (.aload_n 0, 1) := by decide +kernel
theorem dX3_readNumber_12 : decode cX3_readNumber 12 = .ok (.getfield 18, 3) := by decide +kernel
theorem dX3_readNumber_15 : decode cX3_readNumber 15 = .ok (.aload_n 0, 1) := by decide +kernel
theorem dX3_readNumber_16 : decode cX3_readNumber 16 = .ok (.getfield 25, 3) := by decide +kernel
theorem dX3_readNumber_19 : decode cX3_readNumber 19 = .ok (.iaload, 1) := by decide +kernel
theorem dX3_readNumber_20 : decode cX3_readNumber 20 = .ok (.bipush 32, 2) := by decide +kernel
theorem dX3_readNumber_22 : decode cX3_readNumber 22 = .ok (.if_icmp .eq 13, 3) := by decide +kernel
theorem dX3_readNumber_25 : decode cX3_readNumber 25 = .ok (.aload_n 0, 1) := by decide +kernel
theorem dX3_readNumber_26 : decode cX3_readNumber 26 = .ok (.iconst 1, 1) := by decide +kernel
theorem dX3_readNumber_27 : decode cX3_readNumber 27 = .ok (.aload_n 0, 1) := by decide +kernel
theorem dX3_readNumber_28 : decode cX3_readNumber 28 = .ok (.getfield 25, 3) := by decide +kernel
theorem dX3_readNumber_31 : decode cX3_readNumber 31 = .ok (.invokevirtual 45, 3) := by decide +kernel
theorem dX3_readNumber_34 : decode cX3_readNumber 34 = .ok (.return_, 1) := by decide +kernel
theorem dX3_readNumber_35 : decode cX3_readNumber 35 = .ok (.aload_n 0, 1) := by decide +kernel
theorem dX3_readNumber_36 : decode cX3_readNumber 36 = .ok (.dup, 1) := by decide +kernel
theorem dX3_readNumber_37 : decode cX3_readNumber 37 = .ok (.getfield 25, 3) := by decide +kernel
theorem dX3_readNumber_40 : decode cX3_readNumber 40 = .ok (.iconst 1, 1) := by decide +kernel
theorem dX3_readNumber_41 : decode cX3_readNumber 41 = .ok (.iadd, 1) := by decide +kernel
theorem dX3_readNumber_42 : decode cX3_readNumber 42 = .ok (.putfield 25, 3) := by decide +kernel
theorem dX3_readNumber_45 : decode cX3_readNumber 45 = .ok (.aload_n 0, 1) := by decide +kernel
theorem dX3_readNumber_46 : decode cX3_readNumber 46 = .ok (.getfield 25, 3) := by decide +kernel
theorem dX3_readNumber_49 : decode cX3_readNumber 49 = .ok (.istore 4, 2) := by decide +kernel
theorem dX3_readNumber_51 : decode cX3_readNumber 51 = .ok (.aload_n 0, 1) := by decide +kernel
theorem dX3_readNumber_52 : decode cX3_readNumber 52 = .ok (.invokevirtual 114, 3) := by decide +kernel
theorem dX3_readNumber_55 : decode cX3_readNumber 55 = .ok (.lstore 5, 2) := by decide +kernel
theorem dX3_readNumber_57 : decode cX3_readNumber 57 = .ok (.aload_n 0, 1) := by decide +kernel
theorem dX3_readNumber_58 : decode cX3_readNumber 58 = .ok (.getfield 28, 3) := by decide +kernel
theorem dX3_readNumber_61 : decode cX3_readNumber 61 = .ok (.ifCond .eq 4, 3) := by decide +kernel
theorem dX3_readNumber_64 : decode cX3_readNumber 64 = .ok (.return_, 1) := by decide +kernel
theorem dX3_readNumber_65 : decode cX3_readNumber 65 = .ok (.aload_n 0, 1) := by decide +kernel
theorem dX3_readNumber_66 : decode cX3_readNumber 66 = .ok (.iload_n 3, 1) := by decide +kernel
theorem dX3_readNumber_67 : decode cX3_readNumber 67 = .ok (.lload 5, 2) := by decide +kernel
theorem dX3_readNumber_69 : decode cX3_readNumber 69 = .ok (.invokevirtual 118, 3) := by decide +kernel
theorem dX3_readNumber_72 : decode cX3_readNumber 72 = .ok (.ifCond .ne 11, 3) := by decide +kernel
theorem dX3_readNumber_75 : decode cX3_readNumber 75 = .ok (.aload_n 0, 1) := by decide +kernel
theorem dX3_readNumber_76 : decode cX3_readNumber 76 = .ok (.iconst 3, 1) := by decide +kernel
theorem dX3_readNumber_77 : decode cX3_readNumber 77 = .ok (.iload 4, 2) := by decide +kernel
theorem dX3_readNumber_79 : decode cX3_readNumber 79 = .ok (.invokevirtual 45, 3) := by decide +kernel
theorem dX3_readNumber_82 : decode cX3_readNumber 82 = .ok (.return_, 1) := by decide +kernel
theorem dX3_readNumber_83 : decode cX3_readNumber 83 = .ok (.iload_n 1, 1) := by decide +kernel
theorem dX3_readNumber_84 : decode cX3_readNumber 84 = .ok (.iconst 3, 1) := by decide +kernel
theorem dX3_readNumber_85 : decode cX3_readNumber 85 = .ok (.imul, 1) := by decide +kernel
theorem dX3_readNumber_86 : decode cX3_readNumber 86 = .ok (.iload_n 2, 1) := by decide +kernel
theorem dX3_readNumber_87 : decode cX3_readNumber 87 = .ok (.iadd, 1) := by decide +kernel
theorem dX3_readNumber_88 : decode cX3_readNumber 88 = .ok (.istore 7, 2) := by decide +kernel
theorem dX3_readNumber_90 : decode cX3_readNumber 90 = .ok (.aload_n 0, 1) := by decide +kernel
theorem dX3_readNumber_91 : decode cX3_readNumber 91 = .ok (.getfield 15, 3) := by decide +kernel
theorem dX3_readNumber_94 : decode cX3_readNumber 94 = .ok (.iload 7, 2) := by decide +kernel
theorem dX3_readNumber_96 : decode cX3_readNumber 96 = .ok (.lload 5, 2) := by decide +kernel
theorem dX3_readNumber_98 : decode cX3_readNumber 98 = .ok (.l2i, 1) := by decide +kernel
theorem dX3_readNumber_99 : decode cX3_readNumber 99 = .ok (.iastore, 1) := by decide +kernel
theorem dX3_readNumber_100 : decode cX3_readNumber 100 = .ok (.iload_n 3, 1) := by decide +kernel
theorem dX3_readNumber_101 : decode cX3_readNumber 101 = .ok (.bipush 110, 2) := by decide +kernel
theorem dX3_readNumber_103 : decode cX3_readNumber 103 = .ok (.if_icmp .ne 10, 3) := by decide +kernel
theorem dX3_readNumber_106 : decode cX3_readNumber 106 = .ok (.aload_n 0, 1) := by decide +kernel
theorem dX3_readNumber_107 : decode cX3_readNumber 107 = .ok (.lload 5, 2) := by decide +kernel
theorem dX3_readNumber_109 : decode cX3_readNumber 109 = .ok (.l2i, 1) := by decide +kernel
theorem dX3_readNumber_110 : decode cX3_readNumber 110 = .ok (.putfield 35, 3) := by decide +kernel
theorem dX3_readNumber_113 : decode cX3_readNumber 113 = .ok (.iload_n 3, 1) := by decide +kernel
theorem dX3_readNumber_114 : decode cX3_readNumber 114 = .ok (.bipush 116, 2) := by decide +kernel
theorem dX3_readNumber_116 : decode cX3_readNumber 116 = .ok (.if_icmp .ne 35, 3) := by decide +kernel
theorem dX3_readNumber_119 : decode cX3_readNumber 119 = .ok (.iload_n 2, 1) := by decide +kernel
theorem dX3_readNumber_120 : decode cX3_readNumber 120 = .ok (.iconst 1, 1) := by decide +kernel
theorem dX3_readNumber_121 : decode cX3_readNumber 121 = .ok (.if_icmp .ne 30, 3) := by decide +kernel
theorem dX3_readNumber_124 : decode cX3_readNumber 124 = .ok (.aload_n 0, 1) := by decide +kernel
theorem dX3_readNumber_125 : decode cX3_readNumber 125 = .ok (.getfield 15, 3) := by decide +kernel
theorem dX3_readNumber_128 : decode cX3_readNumber 128 = .ok (.iload 7, 2) := by decide +kernel
theorem dX3_readNumber_130 : decode cX3_readNumber 130 = .ok (.iconst 1, 1) := by decide +kernel
theorem dX3_readNumber_131 : decode cX3_readNumber 131 = .ok (.isub, 1) := by decide +kernel
theorem dX3_readNumber_132 : decode cX3_readNumber 132 = .ok (.iaload, 1) := by decide +kernel
theorem dX3_readNumber_133 : decode cX3_readNumber 133 = .ok (.aload_n 0, 1) := by decide +kernel
theorem dX3_readNumber_134 : decode cX3_readNumber 134 = .ok (.getfield 15, 3) := by decide +kernel
theorem dX3_readNumber_137 : decode cX3_readNumber 137 = .ok (.iload 7, 2) := by decide +kernel
theorem dX3_readNumber_139 : decode cX3_readNumber 139 = .ok (.iaload, 1) := by decide +kernel
theorem dX3_readNumber_140 : decode cX3_readNumber 140 = .ok (.if_icmp .ne 11, 3) := by decide +kernel
theorem dX3_readNumber_143 : decode cX3_readNumber 143 = .ok (.aload_n 0, 1) := by decide +kernel
theorem dX3_readNumber_144 : decode cX3_readNumber 144 = .ok (.bipush 6, 2) := by decide +kernel
theorem dX3_readNumber_146 : decode cX3_readNumber 146 = .ok (.iload 4, 2) := by decide +kernel
theorem dX3_readNumber_148 : decode cX3_readNumber 148 = .ok (.invokevirtual 45, 3) := by decide +kernel
theorem dX3_readNumber_151 : decode cX3_readNumber 151 = .ok (.return_, 1) := by decide +kernel
theorem dX3_readValue_0 : decode cX3_readValue 0 = .ok (.aload_n 0, 1) := by decide +kernel
theorem dX3_readValue_1 : decode cX3_readValue 1 = .ok (.getfield 25, 3) := by decide +kernel
theorem dX3_readValue_4 : decode cX3_readValue 4 = .ok (.aload_n 0, 1) := by decide +kernel
theorem dX3_readValue_5 : decode cX3_readValue 5 = .ok (.getfield 21, 3) := by decide +kernel
theorem dX3_readValue_8 : decode cX3_readValue 8 = .ok (.if_icmp .ge 21, 3) := by decide +kernel
theorem dX3_readValue_11 : decode cX3_readValue 11 = .ok (.aload_n 0, 1) := by decide +kernel
theorem dX3_readValue_12 : decode cX3_readValue 12 = .ok (.getfield 18, 3) := by decide +kernel
theorem dX3_readValue_15 : decode cX3_readValue 15 = .ok (.aload_n 0, 1) := by decide +kernel
theorem dX3_readValue_16 : decode cX3_readValue 16 = .ok (.getfield 25, 3) := by decide +kernel
theorem dX3_readValue_19 : decode cX3_readValue 19 = .ok (.iaload, 1) := by decide +kernel
theorem dX3_readValue_20 : decode cX3_readValue 20 = .ok (.bipush 45, 2) := by decide +kernel
theorem dX3_readValue_22 : decode cX3_readValue 22 = .ok (.if_icmp .ne 7, 3) := by decide +kernel
theorem dX3_readValue_25 : decode cX3_readValue 25 = .ok (.iconst 1, 1) := by decide +kernel
theorem dX3_readValue_26 : decode cX3_readValue 26 = .ok (.goto 4, 3) := by decide +kernel
theorem dX3_readValue_29 : decode cX3_readValue 29 = .ok (.iconst 0, 1) := by decide +kernel
theorem dX3_readValue_30 : decode cX3_readValue 30 = .ok (.istore_n 1, 1) := by decide +kernel
theorem dX3_readValue_31 : decode cX3_readValue 31 = .ok (.iload_n 1, 1) := by decide +kernel
theorem dX3_readValue_32 : decode cX3_readValue 32 = .ok (.ifCond .eq 13, 3) := by decide +kernel
theorem dX3_readValue_35 : decode cX3_readValue 35 = .ok (.aload_n 0, 1) := by decide +kernel
theorem dX3_readValue_36 : decode cX3_readValue 36 = .ok (.dup, 1) := by decide +kernel
theorem dX3_readValue_37 : decode cX3_readValue 37 = .ok (.getfield 25, 3) := by decide +kernel
theorem dX3_readValue_40 : decode cX3_readValue 40 = .ok (.iconst 1, 1) := by decide +kernel
theorem dX3_readValue_41 : decode cX3_readValue 41 = .ok (.iadd, 1) := by decide +kernel
theorem dX3_readValue_42 : decode cX3_readValue 42 = .ok (.putfield 25, 3) := by decide +kernel
theorem dX3_readValue_45 : decode cX3_readValue 45 = .ok (.aload_n 0, 1) := by decide +kernel
theorem dX3_readValue_46 : decode cX3_readValue 46 = .ok (.getfield 25, 3) := by decide +kernel
theorem dX3_readValue_49 : decode cX3_readValue 49 = .ok (.istore_n 2, 1) := by decide +kernel
theorem dX3_readValue_50 : decode cX3_readValue 50 = .ok (.lconst 0, 1) := by decide +kernel
theorem dX3_readValue_51 : decode cX3_readValue 51 = .ok (.lstore_n 3, 1) := by decide +kernel
theorem dX3_readValue_52 : decode cX3_readValue 52 = .ok (.aload_n 0, 1) := by decide +kernel
theorem dX3_readValue_53 : decode cX3_readValue 53 = .ok (.getfield 25, 3) := by decide +kernel
theorem dX3_readValue_56 : decode cX3_readValue 56 = .ok (.aload_n 0, 1) := by decide +kernel
theorem dX3_readValue_57 : decode cX3_readValue 57 = .ok (.getfield 21, 3) := by decide +kernel
theorem dX3_readValue_60 : decode cX3_readValue 60 = .ok (.if_icmp .ge 86, 3) := by decide +kernel
theorem dX3_readValue_63 : decode cX3_readValue 63 = .ok (.aload_n 0, 1) := by decide +kernel
theorem dX3_readValue_64 : decode cX3_readValue 64 = .ok (.getfield 18, 3) := by decide +kernel
theorem dX3_readValue_67 : decode cX3_readValue 67 = .ok (.aload_n 0, 1) := by decide +kernel
theorem dX3_readValue_68 : decode cX3_readValue 68 = .ok (.getfield 25, 3) := by decide +kernel
theorem dX3_readValue_71 : decode cX3_readValue 71 = .ok (.iaload, 1) := by decide +kernel
theorem dX3_readValue_72 : decode cX3_readValue 72 = .ok (.bipush 48, 2) := by decide +kernel
theorem dX3_readValue_74 : decode cX3_readValue 74 = .ok (.if_icmp .lt 72, 3) := by decide +kernel
theorem dX3_readValue_77 : decode cX3_readValue 77 = .ok (.aload_n 0, 1) := by decide +kernel
theorem dX3_readValue_78 : decode cX3_readValue 78 = .ok (.getfield 18, 3) := by decide +kernel
theorem dX3_readValue_81 : decode cX3_readValue 81 = .ok (.aload_n 0, 1) := by decide +kernel
theorem dX3_readValue_82 : decode cX3_readValue 82 = .ok (.getfield 25, 3) := by decide +kernel
theorem dX3_readValue_85 : decode cX3_readValue 85 = .ok (.iaload, 1) := by decide +kernel
theorem dX3_readValue_86 : decode cX3_readValue 86 = .ok (.bipush 57, 2) := by decide +kernel
theorem dX3_readValue_88 : decode cX3_readValue 88 = .ok (.if_icmp .gt 58, 3) := by decide +kernel
theorem dX3_readValue_91 : decode cX3_readValue 91 = .ok (.aload_n 0, 1) := by decide +kernel
theorem dX3_readValue_92 : decode cX3_readValue 92 = .ok (.getfield 25, 3) := by decide +kernel
theorem dX3_readValue_95 : decode cX3_readValue 95 = .ok (.iload_n 2, 1) := by decide +kernel
theorem dX3_readValue_96 : decode cX3_readValue 96 = .ok (.isub, 1) := by decide +kernel
theorem dX3_readValue_97 : decode cX3_readValue 97 = .ok (.bipush 10, 2) := by decide +kernel
theorem dX3_readValue_99 : decode cX3_readValue 99 = .ok (.if_icmp .ne 14, 3) := by decide +kernel
theorem dX3_readValue_102 : decode cX3_readValue 102 = .ok (.aload_n 0, 1) := by decide +kernel
theorem dX3_readValue_103 : decode cX3_readValue 103 = .ok (.iconst 2, 1) := by decide +kernel
theorem dX3_readValue_104 : decode cX3_readValue 104 = .ok (.aload_n 0, 1) := by decide +kernel
theorem dX3_readValue_105 : decode cX3_readValue 105 = .ok (.getfield 25, 3) := by decide +kernel
theorem dX3_readValue_108 : decode cX3_readValue 108 = .ok (.invokevirtual 45, 3) := by decide +kernel
theorem dX3_readValue_111 : decode cX3_readValue 111 = .ok (.lconst 0, 1) := by decide +kernel
theorem dX3_readValue_112 : decode cX3_readValue 112 = .ok (.lreturn, 1) := by decide +kernel
theorem dX3_readValue_113 : decode cX3_readValue 113 = .ok (.lload_n 3, 1) := by decide +kernel
theorem dX3_readValue_114 : decode cX3_readValue 114 = .ok (.ldc2_w 122, 3) := by decide +kernel
theorem dX3_readValue_117 : decode cX3_readValue 117 = .ok (.lmul, 1) := by decide +kernel
theorem dX3_readValue_118 : decode cX3_readValue 118 = .ok (.aload_n 0, 1) := by decide +kernel
theorem dX3_readValue_119 : decode cX3_readValue 119 = .ok (.getfield 18, 3) := by decide +kernel
theorem dX3_readValue_122 : decode cX3_readValue 122 = .ok (.aload_n 0, 1) := by decide +kernel
theorem dX3_readValue_123 : decode cX3_readValue 123 = .ok (.getfield 25, 3) := by decide +kernel
theorem dX3_readValue_126 : decode cX3_readValue 126 = .ok (.iaload, 1) := by decide +kernel
theorem dX3_readValue_127 : decode cX3_readValue 127 = .ok (.bipush 48, 2) := by decide +kernel
theorem dX3_readValue_129 : decode cX3_readValue 129 = .ok (.isub, 1) := by decide +kernel
theorem dX3_readValue_130 : decode cX3_readValue 130 = .ok (.i2l, 1) := by decide +kernel
theorem dX3_readValue_131 : decode cX3_readValue 131 = .ok (.ladd, 1) := by decide +kernel
theorem dX3_readValue_132 : decode cX3_readValue 132 = .ok (.lstore_n 3, 1) := by decide +kernel
theorem dX3_readValue_133 : decode cX3_readValue 133 = .ok (.aload_n 0, 1) := by decide +kernel
theorem dX3_readValue_134 : decode cX3_readValue 134 = .ok (.dup, 1) := by decide +kernel
theorem dX3_readValue_135 : decode cX3_readValue 135 = .ok (.getfield 25, 3) := by decide +kernel
theorem dX3_readValue_138 : decode cX3_readValue 138 = .ok (.iconst 1, 1) := by decide +kernel
theorem dX3_readValue_139 : decode cX3_readValue 139 = .ok (.iadd, 1) := by decide +kernel
theorem dX3_readValue_140 : decode cX3_readValue 140 = .ok (.putfield 25, 3) := by decide +kernel
theorem dX3_readValue_143 : decode cX3_readValue 143 = .ok (.goto (-91), 3) := by decide +kernel
theorem dX3_readValue_146 : decode cX3_readValue 146 = .ok (.aload_n 0, 1) := by decide +kernel
theorem dX3_readValue_147 : decode cX3_readValue 147 = .ok (.getfield 25, 3) := by decide +kernel
theorem dX3_readValue_150 : decode cX3_readValue 150 = .ok (.iload_n 2, 1) := by decide +kernel
theorem dX3_readValue_151 : decode cX3_readValue 151 = .ok (.if_icmp .ne 12, 3) := by decide +kernel
theorem dX3_readValue_154 : decode cX3_readValue 154 = .ok (.aload_n 0, 1) := by decide +kernel
theorem dX3_readValue_155 : decode cX3_readValue 155 = .ok (.iconst 1, 1) := by decide +kernel
theorem dX3_readValue_156 : decode cX3_readValue 156 = .ok (.aload_n 0, 1) := by decide +kernel
theorem dX3_readValue_157 : decode cX3_readValue 157 = .ok (.getfield 25, 3) := by decide +kernel
theorem dX3_readValue_160 : decode cX3_readValue 160 = .ok (.invokevirtual 45, 3) := by decide +kernel
theorem dX3_readValue_163 : decode cX3_readValue 163 = .ok (.iload_n 1, 1) := by decide +kernel
theorem dX3_readValue_164 : decode cX3_readValue 164 = .ok (.ifCond .eq 8, 3) := by decide +kernel
theorem dX3_readValue_167 : decode cX3_readValue 167 = .ok (.lload_n 3, 1) := by decide +kernel
theorem dX3_readValue_168 : decode cX3_readValue 168 = .ok (.lneg, 1) := by decide +kernel
theorem dX3_readValue_169 : decode cX3_readValue 169 = .ok (.goto 4, 3) := by decide +kernel
theorem dX3_readValue_172 : decode cX3_readValue 172 = .ok (.lload_n 3, 1) := by decide +kernel
theorem dX3_readValue_173 : decode cX3_readValue 173 = .ok (.lreturn, 1) := by decide +kernel
theorem dX3_isTold_0 : decode cX3_isTold 0 = .ok (.iload_n 1, 1) := by decide +kernel
theorem dX3_isTold_1 : decode cX3_isTold 1 = .ok (.lookupswitch 99 #[(110, 35), (114, 79), (116, 57)], 35) := by decide +kernel
theorem dX3_isTold_36 : decode cX3_isTold 36 = .ok (.lload_n 2, 1) := by decide +kernel
theorem dX3_isTold_37 : decode cX3_isTold 37 = .ok (.ldc2_w 124, 3) := by decide +kernel
theorem dX3_isTold_40 : decode cX3_isTold 40 = .ok (.lcmp, 1) := by decide +kernel
theorem dX3_isTold_41 : decode cX3_isTold 41 = .ok (.ifCond .lt 15, 3) := by decide +kernel
theorem dX3_isTold_44 : decode cX3_isTold 44 = .ok (.lload_n 2, 1) := by decide +kernel
theorem dX3_isTold_45 : decode cX3_isTold 45 = .ok (.ldc2_w 126, 3) := by decide +kernel
theorem dX3_isTold_48 : decode cX3_isTold 48 = .ok (.lcmp, 1) := by decide +kernel
theorem dX3_isTold_49 : decode cX3_isTold 49 = .ok (.ifCond .gt 7, 3) := by decide +kernel
theorem dX3_isTold_52 : decode cX3_isTold 52 = .ok (.iconst 1, 1) := by decide +kernel
theorem dX3_isTold_53 : decode cX3_isTold 53 = .ok (.goto 4, 3) := by decide +kernel
theorem dX3_isTold_56 : decode cX3_isTold 56 = .ok (.iconst 0, 1) := by decide +kernel
theorem dX3_isTold_57 : decode cX3_isTold 57 = .ok (.ireturn, 1) := by decide +kernel
theorem dX3_isTold_58 : decode cX3_isTold 58 = .ok (.lload_n 2, 1) := by decide +kernel
theorem dX3_isTold_59 : decode cX3_isTold 59 = .ok (.lconst 0, 1) := by decide +kernel
theorem dX3_isTold_60 : decode cX3_isTold 60 = .ok (.lcmp, 1) := by decide +kernel
theorem dX3_isTold_61 : decode cX3_isTold 61 = .ok (.ifCond .lt 17, 3) := by decide +kernel
theorem dX3_isTold_64 : decode cX3_isTold 64 = .ok (.lload_n 2, 1) := by decide +kernel
theorem dX3_isTold_65 : decode cX3_isTold 65 = .ok (.aload_n 0, 1) := by decide +kernel
theorem dX3_isTold_66 : decode cX3_isTold 66 = .ok (.getfield 35, 3) := by decide +kernel
theorem dX3_isTold_69 : decode cX3_isTold 69 = .ok (.i2l, 1) := by decide +kernel
theorem dX3_isTold_70 : decode cX3_isTold 70 = .ok (.lcmp, 1) := by decide +kernel
theorem dX3_isTold_71 : decode cX3_isTold 71 = .ok (.ifCond .ge 7, 3) := by decide +kernel
theorem dX3_isTold_74 : decode cX3_isTold 74 = .ok (.iconst 1, 1) := by decide +kernel
theorem dX3_isTold_75 : decode cX3_isTold 75 = .ok (.goto 4, 3) := by decide +kernel
theorem dX3_isTold_78 : decode cX3_isTold 78 = .ok (.iconst 0, 1) := by decide +kernel
theorem dX3_isTold_79 : decode cX3_isTold 79 = .ok (.ireturn, 1) := by decide +kernel
theorem dX3_isTold_80 : decode cX3_isTold 80 = .ok (.lload_n 2, 1) := by decide +kernel
theorem dX3_isTold_81 : decode cX3_isTold 81 = .ok (.lconst 0, 1) := by decide +kernel
theorem dX3_isTold_82 : decode cX3_isTold 82 = .ok (.lcmp, 1) := by decide +kernel
theorem dX3_isTold_83 : decode cX3_isTold 83 = .ok (.ifCond .lt 15, 3) := by decide +kernel
theorem dX3_isTold_86 : decode cX3_isTold 86 = .ok (.lload_n 2, 1) := by decide +kernel
theorem dX3_isTold_87 : decode cX3_isTold 87 = .ok (.ldc2_w 128, 3) := by decide +kernel
theorem dX3_isTold_90 : decode cX3_isTold 90 = .ok (.lcmp, 1) := by decide +kernel
theorem dX3_isTold_91 : decode cX3_isTold 91 = .ok (.ifCond .ge 7, 3) := by decide +kernel
theorem dX3_isTold_94 : decode cX3_isTold 94 = .ok (.iconst 1, 1) := by decide +kernel
theorem dX3_isTold_95 : decode cX3_isTold 95 = .ok (.goto 4, 3) := by decide +kernel
theorem dX3_isTold_98 : decode cX3_isTold 98 = .ok (.iconst 0, 1) := by decide +kernel
theorem dX3_isTold_99 : decode cX3_isTold 99 = .ok (.ireturn, 1) := by decide +kernel
theorem dX3_isTold_100 : decode cX3_isTold 100 = .ok (.lload_n 2, 1) := by decide +kernel
theorem dX3_isTold_101 : decode cX3_isTold 101 = .ok (.ldc2_w 130, 3) := by decide +kernel
theorem dX3_isTold_104 : decode cX3_isTold 104 = .ok (.lcmp, 1) := by decide +kernel
theorem dX3_isTold_105 : decode cX3_isTold 105 = .ok (.ifCond .lt 15, 3) := by decide +kernel
theorem dX3_isTold_108 : decode cX3_isTold 108 = .ok (.lload_n 2, 1) := by decide +kernel
theorem dX3_isTold_109 : decode cX3_isTold 109 = .ok (.ldc2_w 132, 3) := by decide +kernel
theorem dX3_isTold_112 : decode cX3_isTold 112 = .ok (.lcmp, 1) := by decide +kernel
theorem dX3_isTold_113 : decode cX3_isTold 113 = .ok (.ifCond .gt 7, 3) := by decide +kernel
theorem dX3_isTold_116 : decode cX3_isTold 116 = .ok (.iconst 1, 1) := by decide +kernel
theorem dX3_isTold_117 : decode cX3_isTold 117 = .ok (.goto 4, 3) := by decide +kernel
theorem dX3_isTold_120 : decode cX3_isTold 120 = .ok (.iconst 0, 1) := by decide +kernel
theorem dX3_isTold_121 : decode cX3_isTold 121 = .ok (.ireturn, 1) := by decide +kernel
theorem dX4_init_0 : decode cX4_init 0 = .ok (.aload_n 0, 1) := by decide +kernel
theorem dX4_init_1 : decode cX4_init 1 = .ok (.invokespecial 3, 3) := by decide +kernel
theorem dX4_init_4 : decode cX4_init 4 = .ok (.aload_n 0, 1) := by decide +kernel
theorem dX4_init_5 : decode cX4_init 5 = .ok (.iconst 2, 1) := by decide +kernel
theorem dX4_init_6 : decode cX4_init 6 = .ok (.putfield 9, 3) := by decide +kernel
theorem dX4_init_9 : decode cX4_init 9 = .ok (.aload_n 0, 1) := by decide +kernel
theorem dX4_init_10 : decode cX4_init 10 = .ok (.bipush 36, 2) := by decide +kernel
theorem dX4_init_12 : decode cX4_init 12 = .ok (.newarray .int, 2) := by decide +kernel
theorem dX4_init_14 : decode cX4_init 14 = .ok (.putfield 15, 3) := by decide +kernel
theorem dX4_init_17 : decode cX4_init 17 = .ok (.aload_n 0, 1) := by decide +kernel
theorem dX4_init_18 : decode cX4_init 18 = .ok (.bipush 36, 2) := by decide +kernel
theorem dX4_init_20 : decode cX4_init 20 = .ok (.newarray .int, 2) := by decide +kernel
theorem dX4_init_22 : decode cX4_init 22 = .ok (.putfield 19, 3) := by decide +kernel
theorem dX4_init_25 : decode cX4_init 25 = .ok (.aload_n 0, 1) := by decide +kernel
theorem dX4_init_26 : decode cX4_init 26 = .ok (.bipush 36, 2) := by decide +kernel
theorem dX4_init_28 : decode cX4_init 28 = .ok (.newarray .int, 2) := by decide +kernel
theorem dX4_init_30 : decode cX4_init 30 = .ok (.putfield 22, 3) := by decide +kernel
theorem dX4_init_33 : decode cX4_init 33 = .ok (.return_, 1) := by decide +kernel
theorem dX4_beginWith_0 : decode cX4_beginWith 0 = .ok (.aload_n 0, 1) := by decide +kernel
theorem dX4_beginWith_1 : decode cX4_beginWith 1 = .ok (.iload_n 1, 1) := by decide +kernel
theorem dX4_beginWith_2 : decode cX4_beginWith 2 = .ok (.putfield 9, 3) := by decide +kernel
theorem dX4_beginWith_5 : decode cX4_beginWith 5 = .ok (.aload_n 0, 1) := by decide +kernel
theorem dX4_beginWith_6 : decode cX4_beginWith 6 = .ok (.iconst 0, 1) := by decide +kernel
theorem dX4_beginWith_7 : decode cX4_beginWith 7 = .ok (.putfield 25, 3) := by decide +kernel
theorem dX4_beginWith_10 : decode cX4_beginWith 10 = .ok (.aload_n 0, 1) := by decide +kernel
theorem dX4_beginWith_11 : decode cX4_beginWith 11 = .ok (.lconst 0, 1) := by decide +kernel
theorem dX4_beginWith_12 : decode cX4_beginWith 12 = .ok (.putfield 28, 3) := by decide +kernel
theorem dX4_beginWith_15 : decode cX4_beginWith 15 = .ok (.return_, 1) := by decide +kernel
theorem dX4_copyFrom_0 : decode cX4_copyFrom 0 = .ok (.aload_n 0, 1) := by decide +kernel
theorem dX4_copyFrom_1 : decode cX4_copyFrom 1 = .ok (.aload_n 1, 1) := by decide +kernel
theorem dX4_copyFrom_2 : decode cX4_copyFrom 2 = .ok (.getfield 9, 3) := by decide +kernel
theorem dX4_copyFrom_5 : decode cX4_copyFrom 5 = .ok (.putfield 9, 3) := by decide +kernel
theorem dX4_copyFrom_8 : decode cX4_copyFrom 8 = .ok (.aload_n 0, 1) := by decide +kernel
theorem dX4_copyFrom_9 : decode cX4_copyFrom 9 = .ok (.aload_n 1, 1) := by decide +kernel
theorem dX4_copyFrom_10 : decode cX4_copyFrom 10 = .ok (.getfield 25, 3) := by decide +kernel
theorem dX4_copyFrom_13 : decode cX4_copyFrom 13 = .ok (.putfield 25, 3) := by decide +kernel
theorem dX4_copyFrom_16 : decode cX4_copyFrom 16 = .ok (.aload_n 0, 1) := by decide +kernel
theorem dX4_copyFrom_17 : decode cX4_copyFrom 17 = .ok (.aload_n 1, 1) := by decide +kernel
theorem dX4_copyFrom_18 : decode cX4_copyFrom 18 = .ok (.getfield 28, 3) := by decide +kernel
theorem dX4_copyFrom_21 : decode cX4_copyFrom 21 = .ok (.putfield 28, 3) := by decide +kernel
theorem dX4_copyFrom_24 : decode cX4_copyFrom 24 = .ok (.aload_n 1, 1) := by decide +kernel
theorem dX4_copyFrom_25 : decode cX4_copyFrom 25 = .ok (.getfield 15, 3) := by decide +kernel
theorem dX4_copyFrom_28 : decode cX4_copyFrom 28 = .ok (.iconst 0, 1) := by decide +kernel
theorem dX4_copyFrom_29 : decode cX4_copyFrom 29 = .ok (.aload_n 0, 1) := by decide +kernel
theorem dX4_copyFrom_30 : decode cX4_copyFrom 30 = .ok (.getfield 15, 3) := by decide +kernel
theorem dX4_copyFrom_33 : decode cX4_copyFrom 33 = .ok (.iconst 0, 1) := by decide +kernel
theorem dX4_copyFrom_34 : decode cX4_copyFrom 34 = .ok (.aload_n 0, 1) := by decide +kernel
theorem dX4_copyFrom_35 : decode cX4_copyFrom 35 = .ok (.getfield 25, 3) := by decide +kernel
theorem dX4_copyFrom_38 : decode cX4_copyFrom 38 = .ok (.invokestatic 32, 3) := by decide +kernel
theorem dX4_copyFrom_41 : decode cX4_copyFrom 41 = .ok (.aload_n 1, 1) := by decide +kernel
theorem dX4_copyFrom_42 : decode cX4_copyFrom 42 = .ok (.getfield 19, 3) := by decide +kernel
theorem dX4_copyFrom_45 : decode cX4_copyFrom 45 = .ok (.iconst 0, 1) := by decide +kernel
theorem dX4_copyFrom_46 : decode cX4_copyFrom 46 = .ok (.aload_n 0, 1) := by decide +kernel
theorem dX4_copyFrom_47 : decode cX4_copyFrom 47 = .ok (.getfield 19, 3) := by decide +kernel
