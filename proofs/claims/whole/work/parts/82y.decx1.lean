/-! The class: its instructions. -/
theorem dX4_copyFrom_50 : decode cX4_copyFrom 50 = .ok (.iconst 0, 1) := by decide +kernel
theorem dX4_copyFrom_51 : decode cX4_copyFrom 51 = .ok (.aload_n 0, 1) := by decide +kernel
theorem dX4_copyFrom_52 : decode cX4_copyFrom 52 = .ok (.getfield 25, 3) := by decide +kernel
theorem dX4_copyFrom_55 : decode cX4_copyFrom 55 = .ok (.invokestatic 32, 3) := by decide +kernel
theorem dX4_copyFrom_58 : decode cX4_copyFrom 58 = .ok (.aload_n 1, 1) := by decide +kernel
theorem dX4_copyFrom_59 : decode cX4_copyFrom 59 = .ok (.getfield 22, 3) := by decide +kernel
theorem dX4_copyFrom_62 : decode cX4_copyFrom 62 = .ok (.iconst 0, 1) := by decide +kernel
theorem dX4_copyFrom_63 : decode cX4_copyFrom 63 = .ok (.aload_n 0, 1) := by decide +kernel
theorem dX4_copyFrom_64 : decode cX4_copyFrom 64 = .ok (.getfield 22, 3) := by decide +kernel
theorem dX4_copyFrom_67 : decode cX4_copyFrom 67 = .ok (.iconst 0, 1) := by decide +kernel
theorem dX4_copyFrom_68 : decode cX4_copyFrom 68 = .ok (.aload_n 0, 1) := by decide +kernel
theorem dX4_copyFrom_69 : decode cX4_copyFrom 69 = .ok (.getfield 25, 3) := by decide +kernel
theorem dX4_copyFrom_72 : decode cX4_copyFrom 72 = .ok (.invokestatic 32, 3) := by decide +kernel
theorem dX4_copyFrom_75 : decode cX4_copyFrom 75 = .ok (.return_, 1) := by decide +kernel
theorem dX4_addRoad_0 : decode cX4_addRoad 0 = .ok (.aload_n 0, 1) := by decide +kernel
theorem dX4_addRoad_1 : decode cX4_addRoad 1 = .ok (.getfield 25, 3) := by decide +kernel
theorem dX4_addRoad_4 : decode cX4_addRoad 4 = .ok (.bipush 36, 2) := by decide +kernel
theorem dX4_addRoad_6 : decode cX4_addRoad 6 = .ok (.if_icmp .lt 5, 3) := by decide +kernel
theorem dX4_addRoad_9 : decode cX4_addRoad 9 = .ok (.iconst (-1), 1) := by decide +kernel
theorem dX4_addRoad_10 : decode cX4_addRoad 10 = .ok (.ireturn, 1) := by decide +kernel
theorem dX4_addRoad_11 : decode cX4_addRoad 11 = .ok (.aload_n 0, 1) := by decide +kernel
theorem dX4_addRoad_12 : decode cX4_addRoad 12 = .ok (.getfield 15, 3) := by decide +kernel
theorem dX4_addRoad_15 : decode cX4_addRoad 15 = .ok (.aload_n 0, 1) := by decide +kernel
theorem dX4_addRoad_16 : decode cX4_addRoad 16 = .ok (.getfield 25, 3) := by decide +kernel
theorem dX4_addRoad_19 : decode cX4_addRoad 19 = .ok (.iload_n 1, 1) := by decide +kernel
theorem dX4_addRoad_20 : decode cX4_addRoad 20 = .ok (.iastore, 1) := by decide +kernel
theorem dX4_addRoad_21 : decode cX4_addRoad 21 = .ok (.aload_n 0, 1) := by decide +kernel
theorem dX4_addRoad_22 : decode cX4_addRoad 22 = .ok (.getfield 19, 3) := by decide +kernel
theorem dX4_addRoad_25 : decode cX4_addRoad 25 = .ok (.aload_n 0, 1) := by decide +kernel
theorem dX4_addRoad_26 : decode cX4_addRoad 26 = .ok (.getfield 25, 3) := by decide +kernel
theorem dX4_addRoad_29 : decode cX4_addRoad 29 = .ok (.iload_n 2, 1) := by decide +kernel
theorem dX4_addRoad_30 : decode cX4_addRoad 30 = .ok (.iastore, 1) := by decide +kernel
theorem dX4_addRoad_31 : decode cX4_addRoad 31 = .ok (.aload_n 0, 1) := by decide +kernel
theorem dX4_addRoad_32 : decode cX4_addRoad 32 = .ok (.getfield 22, 3) := by decide +kernel
theorem dX4_addRoad_35 : decode cX4_addRoad 35 = .ok (.aload_n 0, 1) := by decide +kernel
theorem dX4_addRoad_36 : decode cX4_addRoad 36 = .ok (.getfield 25, 3) := by decide +kernel
theorem dX4_addRoad_39 : decode cX4_addRoad 39 = .ok (.iload_n 3, 1) := by decide +kernel
theorem dX4_addRoad_40 : decode cX4_addRoad 40 = .ok (.iastore, 1) := by decide +kernel
theorem dX4_addRoad_41 : decode cX4_addRoad 41 = .ok (.aload_n 0, 1) := by decide +kernel
theorem dX4_addRoad_42 : decode cX4_addRoad 42 = .ok (.dup, 1) := by decide +kernel
theorem dX4_addRoad_43 : decode cX4_addRoad 43 = .ok (.getfield 28, 3) := by decide +kernel
theorem dX4_addRoad_46 : decode cX4_addRoad 46 = .ok (.lconst 1, 1) := by decide +kernel
theorem dX4_addRoad_47 : decode cX4_addRoad 47 = .ok (.aload_n 0, 1) := by decide +kernel
theorem dX4_addRoad_48 : decode cX4_addRoad 48 = .ok (.getfield 25, 3) := by decide +kernel
theorem dX4_addRoad_51 : decode cX4_addRoad 51 = .ok (.lshl, 1) := by decide +kernel
theorem dX4_addRoad_52 : decode cX4_addRoad 52 = .ok (.lor, 1) := by decide +kernel
theorem dX4_addRoad_53 : decode cX4_addRoad 53 = .ok (.putfield 28, 3) := by decide +kernel
theorem dX4_addRoad_56 : decode cX4_addRoad 56 = .ok (.aload_n 0, 1) := by decide +kernel
theorem dX4_addRoad_57 : decode cX4_addRoad 57 = .ok (.dup, 1) := by decide +kernel
theorem dX4_addRoad_58 : decode cX4_addRoad 58 = .ok (.getfield 25, 3) := by decide +kernel
theorem dX4_addRoad_61 : decode cX4_addRoad 61 = .ok (.iconst 1, 1) := by decide +kernel
theorem dX4_addRoad_62 : decode cX4_addRoad 62 = .ok (.iadd, 1) := by decide +kernel
theorem dX4_addRoad_63 : decode cX4_addRoad 63 = .ok (.putfield 25, 3) := by decide +kernel
theorem dX4_addRoad_66 : decode cX4_addRoad 66 = .ok (.aload_n 0, 1) := by decide +kernel
theorem dX4_addRoad_67 : decode cX4_addRoad 67 = .ok (.getfield 25, 3) := by decide +kernel
theorem dX4_addRoad_70 : decode cX4_addRoad 70 = .ok (.iconst 1, 1) := by decide +kernel
theorem dX4_addRoad_71 : decode cX4_addRoad 71 = .ok (.isub, 1) := by decide +kernel
theorem dX4_addRoad_72 : decode cX4_addRoad 72 = .ok (.ireturn, 1) := by decide +kernel
theorem dX4_flip_0 : decode cX4_flip 0 = .ok (.aload_n 0, 1) := by decide +kernel
theorem dX4_flip_1 : decode cX4_flip 1 = .ok (.dup, 1) := by decide +kernel
theorem dX4_flip_2 : decode cX4_flip 2 = .ok (.getfield 28, 3) := by decide +kernel
theorem dX4_flip_5 : decode cX4_flip 5 = .ok (.lconst 1, 1) := by decide +kernel
theorem dX4_flip_6 : decode cX4_flip 6 = .ok (.iload_n 1, 1) := by decide +kernel
theorem dX4_flip_7 : decode cX4_flip 7 = .ok (.lshl, 1) := by decide +kernel
theorem dX4_flip_8 : decode cX4_flip 8 = .ok (.lxor, 1) := by decide +kernel
theorem dX4_flip_9 : decode cX4_flip 9 = .ok (.putfield 28, 3) := by decide +kernel
theorem dX4_flip_12 : decode cX4_flip 12 = .ok (.return_, 1) := by decide +kernel
theorem dX4_hasTown_0 : decode cX4_hasTown 0 = .ok (.iload_n 1, 1) := by decide +kernel
theorem dX4_hasTown_1 : decode cX4_hasTown 1 = .ok (.ifCond .lt 15, 3) := by decide +kernel
theorem dX4_hasTown_4 : decode cX4_hasTown 4 = .ok (.iload_n 1, 1) := by decide +kernel
theorem dX4_hasTown_5 : decode cX4_hasTown 5 = .ok (.aload_n 0, 1) := by decide +kernel
theorem dX4_hasTown_6 : decode cX4_hasTown 6 = .ok (.getfield 9, 3) := by decide +kernel
theorem dX4_hasTown_9 : decode cX4_hasTown 9 = .ok (.if_icmp .ge 7, 3) := by decide +kernel
theorem dX4_hasTown_12 : decode cX4_hasTown 12 = .ok (.iconst 1, 1) := by decide +kernel
theorem dX4_hasTown_13 : decode cX4_hasTown 13 = .ok (.goto 4, 3) := by decide +kernel
theorem dX4_hasTown_16 : decode cX4_hasTown 16 = .ok (.iconst 0, 1) := by decide +kernel
theorem dX4_hasTown_17 : decode cX4_hasTown 17 = .ok (.ireturn, 1) := by decide +kernel
theorem dX4_hasAll_0 : decode cX4_hasAll 0 = .ok (.iload_n 1, 1) := by decide +kernel
theorem dX4_hasAll_1 : decode cX4_hasAll 1 = .ok (.iconst 1, 1) := by decide +kernel
theorem dX4_hasAll_2 : decode cX4_hasAll 2 = .ok (.aload_n 0, 1) := by decide +kernel
theorem dX4_hasAll_3 : decode cX4_hasAll 3 = .ok (.getfield 9, 3) := by decide +kernel
theorem dX4_hasAll_6 : decode cX4_hasAll 6 = .ok (.ishl, 1) := by decide +kernel
theorem dX4_hasAll_7 : decode cX4_hasAll 7 = .ok (.ineg, 1) := by decide +kernel
theorem dX4_hasAll_8 : decode cX4_hasAll 8 = .ok (.iand, 1) := by decide +kernel
theorem dX4_hasAll_9 : decode cX4_hasAll 9 = .ok (.ifCond .ne 7, 3) := by decide +kernel
theorem dX4_hasAll_12 : decode cX4_hasAll 12 = .ok (.iconst 1, 1) := by decide +kernel
theorem dX4_hasAll_13 : decode cX4_hasAll 13 = .ok (.goto 4, 3) := by decide +kernel
theorem dX4_hasAll_16 : decode cX4_hasAll 16 = .ok (.iconst 0, 1) := by decide +kernel
theorem dX4_hasAll_17 : decode cX4_hasAll 17 = .ok (.ireturn, 1) := by decide +kernel
theorem dX4_hasRoad_0 : decode cX4_hasRoad 0 = .ok (.iload_n 1, 1) := by decide +kernel
theorem dX4_hasRoad_1 : decode cX4_hasRoad 1 = .ok (.ifCond .lt 15, 3) := by decide +kernel
theorem dX4_hasRoad_4 : decode cX4_hasRoad 4 = .ok (.iload_n 1, 1) := by decide +kernel
theorem dX4_hasRoad_5 : decode cX4_hasRoad 5 = .ok (.aload_n 0, 1) := by decide +kernel
theorem dX4_hasRoad_6 : decode cX4_hasRoad 6 = .ok (.getfield 25, 3) := by decide +kernel
theorem dX4_hasRoad_9 : decode cX4_hasRoad 9 = .ok (.if_icmp .ge 7, 3) := by decide +kernel
theorem dX4_hasRoad_12 : decode cX4_hasRoad 12 = .ok (.iconst 1, 1) := by decide +kernel
theorem dX4_hasRoad_13 : decode cX4_hasRoad 13 = .ok (.goto 4, 3) := by decide +kernel
theorem dX4_hasRoad_16 : decode cX4_hasRoad 16 = .ok (.iconst 0, 1) := by decide +kernel
theorem dX4_hasRoad_17 : decode cX4_hasRoad 17 = .ok (.ireturn, 1) := by decide +kernel
theorem dX4_isOpen_0 : decode cX4_isOpen 0 = .ok (.iload_n 1, 1) := by decide +kernel
theorem dX4_isOpen_1 : decode cX4_isOpen 1 = .ok (.ifCond .lt 28, 3) := by decide +kernel
theorem dX4_isOpen_4 : decode cX4_isOpen 4 = .ok (.iload_n 1, 1) := by decide +kernel
theorem dX4_isOpen_5 : decode cX4_isOpen 5 = .ok (.aload_n 0, 1) := by decide +kernel
theorem dX4_isOpen_6 : decode cX4_isOpen 6 = .ok (.getfield 25, 3) := by decide +kernel
theorem dX4_isOpen_9 : decode cX4_isOpen 9 = .ok (.if_icmp .ge 20, 3) := by decide +kernel
theorem dX4_isOpen_12 : decode cX4_isOpen 12 = .ok (.aload_n 0, 1) := by decide +kernel
theorem dX4_isOpen_13 : decode cX4_isOpen 13 = .ok (.getfield 28, 3) := by decide +kernel
theorem dX4_isOpen_16 : decode cX4_isOpen 16 = .ok (.iload_n 1, 1) := by decide +kernel
theorem dX4_isOpen_17 : decode cX4_isOpen 17 = .ok (.lshr, 1) := by decide +kernel
theorem dX4_isOpen_18 : decode cX4_isOpen 18 = .ok (.lconst 1, 1) := by decide +kernel
theorem dX4_isOpen_19 : decode cX4_isOpen 19 = .ok (.land, 1) := by decide +kernel
theorem dX4_isOpen_20 : decode cX4_isOpen 20 = .ok (.lconst 0, 1) := by decide +kernel
theorem dX4_isOpen_21 : decode cX4_isOpen 21 = .ok (.lcmp, 1) := by decide +kernel
theorem dX4_isOpen_22 : decode cX4_isOpen 22 = .ok (.ifCond .eq 7, 3) := by decide +kernel
theorem dX4_isOpen_25 : decode cX4_isOpen 25 = .ok (.iconst 1, 1) := by decide +kernel
theorem dX4_isOpen_26 : decode cX4_isOpen 26 = .ok (.goto 4, 3) := by decide +kernel
theorem dX4_isOpen_29 : decode cX4_isOpen 29 = .ok (.iconst 0, 1) := by decide +kernel
theorem dX4_isOpen_30 : decode cX4_isOpen 30 = .ok (.ireturn, 1) := by decide +kernel
theorem dX4_beginRow_0 : decode cX4_beginRow 0 = .ok (.aload_n 2, 1) := by decide +kernel
theorem dX4_beginRow_1 : decode cX4_beginRow 1 = .ok (.ldc2_w 38, 3) := by decide +kernel
theorem dX4_beginRow_4 : decode cX4_beginRow 4 = .ok (.invokestatic 40, 3) := by decide +kernel
theorem dX4_beginRow_7 : decode cX4_beginRow 7 = .ok (.aload_n 2, 1) := by decide +kernel
theorem dX4_beginRow_8 : decode cX4_beginRow 8 = .ok (.iload_n 1, 1) := by decide +kernel
theorem dX4_beginRow_9 : decode cX4_beginRow 9 = .ok (.lconst 0, 1) := by decide +kernel
theorem dX4_beginRow_10 : decode cX4_beginRow 10 = .ok (.lastore, 1) := by decide +kernel
theorem dX4_beginRow_11 : decode cX4_beginRow 11 = .ok (.return_, 1) := by decide +kernel
theorem dX4_settle_0 : decode cX4_settle 0 = .ok (.aload_n 3, 1) := by decide +kernel
theorem dX4_settle_1 : decode cX4_settle 1 = .ok (.ldc2_w 38, 3) := by decide +kernel
theorem dX4_settle_4 : decode cX4_settle 4 = .ok (.invokestatic 40, 3) := by decide +kernel
theorem dX4_settle_7 : decode cX4_settle 7 = .ok (.aload_n 3, 1) := by decide +kernel
theorem dX4_settle_8 : decode cX4_settle 8 = .ok (.iload_n 1, 1) := by decide +kernel
theorem dX4_settle_9 : decode cX4_settle 9 = .ok (.lconst 0, 1) := by decide +kernel
theorem dX4_settle_10 : decode cX4_settle 10 = .ok (.lastore, 1) := by decide +kernel
theorem dX4_settle_11 : decode cX4_settle 11 = .ok (.iconst 1, 1) := by decide +kernel
theorem dX4_settle_12 : decode cX4_settle 12 = .ok (.istore 4, 2) := by decide +kernel
theorem dX4_settle_14 : decode cX4_settle 14 = .ok (.iconst 0, 1) := by decide +kernel
theorem dX4_settle_15 : decode cX4_settle 15 = .ok (.istore 5, 2) := by decide +kernel
theorem dX4_settle_17 : decode cX4_settle 17 = .ok (.iload 5, 2) := by decide +kernel
theorem dX4_settle_19 : decode cX4_settle 19 = .ok (.aload_n 0, 1) := by decide +kernel
theorem dX4_settle_20 : decode cX4_settle 20 = .ok (.getfield 9, 3) := by decide +kernel
theorem dX4_settle_23 : decode cX4_settle 23 = .ok (.if_icmp .ge 138, 3) := by decide +kernel
theorem dX4_settle_26 : decode cX4_settle 26 = .ok (.iload 4, 2) := by decide +kernel
theorem dX4_settle_28 : decode cX4_settle 28 = .ok (.ifCond .eq 133, 3) := by decide +kernel
theorem dX4_settle_31 : decode cX4_settle 31 = .ok (.iconst 0, 1) := by decide +kernel
theorem dX4_settle_32 : decode cX4_settle 32 = .ok (.istore 4, 2) := by decide +kernel
theorem dX4_settle_34 : decode cX4_settle 34 = .ok (.iconst 0, 1) := by decide +kernel
theorem dX4_settle_35 : decode cX4_settle 35 = .ok (.istore 6, 2) := by decide +kernel
theorem dX4_settle_37 : decode cX4_settle 37 = .ok (.iload 6, 2) := by decide +kernel
theorem dX4_settle_39 : decode cX4_settle 39 = .ok (.aload_n 0, 1) := by decide +kernel
theorem dX4_settle_40 : decode cX4_settle 40 = .ok (.getfield 25, 3) := by decide +kernel
theorem dX4_settle_43 : decode cX4_settle 43 = .ok (.if_icmp .ge 112, 3) := by decide +kernel
theorem dX4_settle_46 : decode cX4_settle 46 = .ok (.aload_n 3, 1) := by decide +kernel
theorem dX4_settle_47 : decode cX4_settle 47 = .ok (.aload_n 0, 1) := by decide +kernel
theorem dX4_settle_48 : decode cX4_settle 48 = .ok (.getfield 15, 3) := by decide +kernel
theorem dX4_settle_51 : decode cX4_settle 51 = .ok (.iload 6, 2) := by decide +kernel
theorem dX4_settle_53 : decode cX4_settle 53 = .ok (.iaload, 1) := by decide +kernel
theorem dX4_settle_54 : decode cX4_settle 54 = .ok (.laload, 1) := by decide +kernel
theorem dX4_settle_55 : decode cX4_settle 55 = .ok (.lstore 7, 2) := by decide +kernel
theorem dX4_settle_57 : decode cX4_settle 57 = .ok (.lload 7, 2) := by decide +kernel
theorem dX4_settle_59 : decode cX4_settle 59 = .ok (.ldc2_w 38, 3) := by decide +kernel
theorem dX4_settle_62 : decode cX4_settle 62 = .ok (.lcmp, 1) := by decide +kernel
theorem dX4_settle_63 : decode cX4_settle 63 = .ok (.ifCond .eq 86, 3) := by decide +kernel
theorem dX4_settle_66 : decode cX4_settle 66 = .ok (.iload 6, 2) := by decide +kernel
theorem dX4_settle_68 : decode cX4_settle 68 = .ok (.iload_n 2, 1) := by decide +kernel
theorem dX4_settle_69 : decode cX4_settle 69 = .ok (.if_icmp .eq 80, 3) := by decide +kernel
theorem dX4_settle_72 : decode cX4_settle 72 = .ok (.aload_n 0, 1) := by decide +kernel
theorem dX4_settle_73 : decode cX4_settle 73 = .ok (.getfield 28, 3) := by decide +kernel
theorem dX4_settle_76 : decode cX4_settle 76 = .ok (.iload 6, 2) := by decide +kernel
theorem dX4_settle_78 : decode cX4_settle 78 = .ok (.lshr, 1) := by decide +kernel
theorem dX4_settle_79 : decode cX4_settle 79 = .ok (.lconst 1, 1) := by decide +kernel
theorem dX4_settle_80 : decode cX4_settle 80 = .ok (.land, 1) := by decide +kernel
theorem dX4_settle_81 : decode cX4_settle 81 = .ok (.lconst 0, 1) := by decide +kernel
theorem dX4_settle_82 : decode cX4_settle 82 = .ok (.lcmp, 1) := by decide +kernel
theorem dX4_settle_83 : decode cX4_settle 83 = .ok (.ifCond .ne 6, 3) := by decide +kernel
theorem dX4_settle_86 : decode cX4_settle 86 = .ok (.goto 63, 3) := by decide +kernel
theorem dX4_settle_89 : decode cX4_settle 89 = .ok (.aload_n 3, 1) := by decide +kernel
theorem dX4_settle_90 : decode cX4_settle 90 = .ok (.aload_n 0, 1) := by decide +kernel
theorem dX4_settle_91 : decode cX4_settle 91 = .ok (.getfield 19, 3) := by decide +kernel
theorem dX4_settle_94 : decode cX4_settle 94 = .ok (.iload 6, 2) := by decide +kernel
theorem dX4_settle_96 : decode cX4_settle 96 = .ok (.iaload, 1) := by decide +kernel
theorem dX4_settle_97 : decode cX4_settle 97 = .ok (.laload, 1) := by decide +kernel
theorem dX4_settle_98 : decode cX4_settle 98 = .ok (.lstore 9, 2) := by decide +kernel
theorem dX4_settle_100 : decode cX4_settle 100 = .ok (.lload 9, 2) := by decide +kernel
theorem dX4_settle_102 : decode cX4_settle 102 = .ok (.ldc2_w 38, 3) := by decide +kernel
theorem dX4_settle_105 : decode cX4_settle 105 = .ok (.lcmp, 1) := by decide +kernel
theorem dX4_settle_106 : decode cX4_settle 106 = .ok (.ifCond .eq 20, 3) := by decide +kernel
theorem dX4_settle_109 : decode cX4_settle 109 = .ok (.lload 7, 2) := by decide +kernel
theorem dX4_settle_111 : decode cX4_settle 111 = .ok (.aload_n 0, 1) := by decide +kernel
theorem dX4_settle_112 : decode cX4_settle 112 = .ok (.getfield 22, 3) := by decide +kernel
theorem dX4_settle_115 : decode cX4_settle 115 = .ok (.iload 6, 2) := by decide +kernel
theorem dX4_settle_117 : decode cX4_settle 117 = .ok (.iaload, 1) := by decide +kernel
theorem dX4_settle_118 : decode cX4_settle 118 = .ok (.i2l, 1) := by decide +kernel
theorem dX4_settle_119 : decode cX4_settle 119 = .ok (.ladd, 1) := by decide +kernel
theorem dX4_settle_120 : decode cX4_settle 120 = .ok (.lload 9, 2) := by decide +kernel
theorem dX4_settle_122 : decode cX4_settle 122 = .ok (.lcmp, 1) := by decide +kernel
theorem dX4_settle_123 : decode cX4_settle 123 = .ok (.ifCond .ge 26, 3) := by decide +kernel
theorem dX4_settle_126 : decode cX4_settle 126 = .ok (.aload_n 3, 1) := by decide +kernel
theorem dX4_settle_127 : decode cX4_settle 127 = .ok (.aload_n 0, 1) := by decide +kernel
theorem dX4_settle_128 : decode cX4_settle 128 = .ok (.getfield 19, 3) := by decide +kernel
theorem dX4_settle_131 : decode cX4_settle 131 = .ok (.iload 6, 2) := by decide +kernel
theorem dX4_settle_133 : decode cX4_settle 133 = .ok (.iaload, 1) := by decide +kernel
theorem dX4_settle_134 : decode cX4_settle 134 = .ok (.lload 7, 2) := by decide +kernel
theorem dX4_settle_136 : decode cX4_settle 136 = .ok (.aload_n 0, 1) := by decide +kernel
theorem dX4_settle_137 : decode cX4_settle 137 = .ok (.getfield 22, 3) := by decide +kernel
theorem dX4_settle_140 : decode cX4_settle 140 = .ok (.iload 6, 2) := by decide +kernel
theorem dX4_settle_142 : decode cX4_settle 142 = .ok (.iaload, 1) := by decide +kernel
theorem dX4_settle_143 : decode cX4_settle 143 = .ok (.i2l, 1) := by decide +kernel
theorem dX4_settle_144 : decode cX4_settle 144 = .ok (.ladd, 1) := by decide +kernel
theorem dX4_settle_145 : decode cX4_settle 145 = .ok (.lastore, 1) := by decide +kernel
theorem dX4_settle_146 : decode cX4_settle 146 = .ok (.iconst 1, 1) := by decide +kernel
theorem dX4_settle_147 : decode cX4_settle 147 = .ok (.istore 4, 2) := by decide +kernel
theorem dX4_settle_149 : decode cX4_settle 149 = .ok (.iinc 6 1, 3) := by decide +kernel
theorem dX4_settle_152 : decode cX4_settle 152 = .ok (.goto (-115), 3) := by decide +kernel
theorem dX4_settle_155 : decode cX4_settle 155 = .ok (.iinc 5 1, 3) := by decide +kernel
theorem dX4_settle_158 : decode cX4_settle 158 = .ok (.goto (-141), 3) := by decide +kernel
theorem dX4_settle_161 : decode cX4_settle 161 = .ok (.return_, 1) := by decide +kernel
theorem dX4_stepAll_0 : decode cX4_stepAll 0 = .ok (.iconst 0, 1) := by decide +kernel
theorem dX4_stepAll_1 : decode cX4_stepAll 1 = .ok (.istore_n 3, 1) := by decide +kernel
theorem dX4_stepAll_2 : decode cX4_stepAll 2 = .ok (.iconst 0, 1) := by decide +kernel
theorem dX4_stepAll_3 : decode cX4_stepAll 3 = .ok (.istore 4, 2) := by decide +kernel
theorem dX4_stepAll_5 : decode cX4_stepAll 5 = .ok (.iload 4, 2) := by decide +kernel
theorem dX4_stepAll_7 : decode cX4_stepAll 7 = .ok (.aload_n 0, 1) := by decide +kernel
theorem dX4_stepAll_8 : decode cX4_stepAll 8 = .ok (.getfield 25, 3) := by decide +kernel
theorem dX4_stepAll_11 : decode cX4_stepAll 11 = .ok (.if_icmp .ge 52, 3) := by decide +kernel
theorem dX4_stepAll_14 : decode cX4_stepAll 14 = .ok (.aload_n 0, 1) := by decide +kernel
theorem dX4_stepAll_15 : decode cX4_stepAll 15 = .ok (.iload 4, 2) := by decide +kernel
theorem dX4_stepAll_17 : decode cX4_stepAll 17 = .ok (.invokevirtual 46, 3) := by decide +kernel
theorem dX4_stepAll_20 : decode cX4_stepAll 20 = .ok (.ifCond .eq 37, 3) := by decide +kernel
theorem dX4_stepAll_23 : decode cX4_stepAll 23 = .ok (.iload_n 3, 1) := by decide +kernel
theorem dX4_stepAll_24 : decode cX4_stepAll 24 = .ok (.aload_n 2, 1) := by decide +kernel
theorem dX4_stepAll_25 : decode cX4_stepAll 25 = .ok (.aload_n 0, 1) := by decide +kernel
theorem dX4_stepAll_26 : decode cX4_stepAll 26 = .ok (.getfield 19, 3) := by decide +kernel
theorem dX4_stepAll_29 : decode cX4_stepAll 29 = .ok (.iload 4, 2) := by decide +kernel
theorem dX4_stepAll_31 : decode cX4_stepAll 31 = .ok (.iaload, 1) := by decide +kernel
theorem dX4_stepAll_32 : decode cX4_stepAll 32 = .ok (.aload_n 1, 1) := by decide +kernel
theorem dX4_stepAll_33 : decode cX4_stepAll 33 = .ok (.aload_n 0, 1) := by decide +kernel
theorem dX4_stepAll_34 : decode cX4_stepAll 34 = .ok (.getfield 15, 3) := by decide +kernel
theorem dX4_stepAll_37 : decode cX4_stepAll 37 = .ok (.iload 4, 2) := by decide +kernel
theorem dX4_stepAll_39 : decode cX4_stepAll 39 = .ok (.iaload, 1) := by decide +kernel
theorem dX4_stepAll_40 : decode cX4_stepAll 40 = .ok (.laload, 1) := by decide +kernel
theorem dX4_stepAll_41 : decode cX4_stepAll 41 = .ok (.aload_n 0, 1) := by decide +kernel
theorem dX4_stepAll_42 : decode cX4_stepAll 42 = .ok (.getfield 22, 3) := by decide +kernel
theorem dX4_stepAll_45 : decode cX4_stepAll 45 = .ok (.iload 4, 2) := by decide +kernel
theorem dX4_stepAll_47 : decode cX4_stepAll 47 = .ok (.iaload, 1) := by decide +kernel
theorem dX4_stepAll_48 : decode cX4_stepAll 48 = .ok (.i2l, 1) := by decide +kernel
theorem dX4_stepAll_49 : decode cX4_stepAll 49 = .ok (.invokestatic 50, 3) := by decide +kernel
theorem dX4_stepAll_52 : decode cX4_stepAll 52 = .ok (.invokestatic 54, 3) := by decide +kernel
theorem dX4_stepAll_55 : decode cX4_stepAll 55 = .ok (.ior, 1) := by decide +kernel
theorem dX4_stepAll_56 : decode cX4_stepAll 56 = .ok (.istore_n 3, 1) := by decide +kernel
theorem dX4_stepAll_57 : decode cX4_stepAll 57 = .ok (.iinc 4 1, 3) := by decide +kernel
theorem dX4_stepAll_60 : decode cX4_stepAll 60 = .ok (.goto (-55), 3) := by decide +kernel
theorem dX4_stepAll_63 : decode cX4_stepAll 63 = .ok (.iload_n 3, 1) := by decide +kernel
theorem dX4_stepAll_64 : decode cX4_stepAll 64 = .ok (.ireturn, 1) := by decide +kernel
theorem dX4_lower_0 : decode cX4_lower 0 = .ok (.lload_n 2, 1) := by decide +kernel
theorem dX4_lower_1 : decode cX4_lower 1 = .ok (.aload_n 0, 1) := by decide +kernel
theorem dX4_lower_2 : decode cX4_lower 2 = .ok (.iload_n 1, 1) := by decide +kernel
theorem dX4_lower_3 : decode cX4_lower 3 = .ok (.laload, 1) := by decide +kernel
theorem dX4_lower_4 : decode cX4_lower 4 = .ok (.invokestatic 58, 3) := by decide +kernel
theorem dX4_lower_7 : decode cX4_lower 7 = .ok (.ifCond .ne 5, 3) := by decide +kernel
theorem dX4_lower_10 : decode cX4_lower 10 = .ok (.iconst 0, 1) := by decide +kernel
theorem dX4_lower_11 : decode cX4_lower 11 = .ok (.ireturn, 1) := by decide +kernel
theorem dX4_lower_12 : decode cX4_lower 12 = .ok (.aload_n 0, 1) := by decide +kernel
theorem dX4_lower_13 : decode cX4_lower 13 = .ok (.iload_n 1, 1) := by decide +kernel
theorem dX4_lower_14 : decode cX4_lower 14 = .ok (.lload_n 2, 1) := by decide +kernel
theorem dX4_lower_15 : decode cX4_lower 15 = .ok (.lastore, 1) := by decide +kernel
theorem dX4_lower_16 : decode cX4_lower 16 = .ok (.iconst 1, 1) := by decide +kernel
theorem dX4_lower_17 : decode cX4_lower 17 = .ok (.ireturn, 1) := by decide +kernel
theorem dX4_makesBadRing_0 : decode cX4_makesBadRing 0 = .ok (.aload_n 0, 1) := by decide +kernel
theorem dX4_makesBadRing_1 : decode cX4_makesBadRing 1 = .ok (.iload_n 1, 1) := by decide +kernel
theorem dX4_makesBadRing_2 : decode cX4_makesBadRing 2 = .ok (.invokevirtual 46, 3) := by decide +kernel
theorem dX4_makesBadRing_5 : decode cX4_makesBadRing 5 = .ok (.ifCond .ne 5, 3) := by decide +kernel
theorem dX4_makesBadRing_8 : decode cX4_makesBadRing 8 = .ok (.iconst 0, 1) := by decide +kernel
theorem dX4_makesBadRing_9 : decode cX4_makesBadRing 9 = .ok (.ireturn, 1) := by decide +kernel
theorem dX4_makesBadRing_10 : decode cX4_makesBadRing 10 = .ok (.aload_n 0, 1) := by decide +kernel
theorem dX4_makesBadRing_11 : decode cX4_makesBadRing 11 = .ok (.aload_n 0, 1) := by decide +kernel
theorem dX4_makesBadRing_12 : decode cX4_makesBadRing 12 = .ok (.getfield 19, 3) := by decide +kernel
theorem dX4_makesBadRing_15 : decode cX4_makesBadRing 15 = .ok (.iload_n 1, 1) := by decide +kernel
theorem dX4_makesBadRing_16 : decode cX4_makesBadRing 16 = .ok (.iaload, 1) := by decide +kernel
theorem dX4_makesBadRing_17 : decode cX4_makesBadRing 17 = .ok (.iload_n 1, 1) := by decide +kernel
theorem dX4_makesBadRing_18 : decode cX4_makesBadRing 18 = .ok (.aload_n 2, 1) := by decide +kernel
theorem dX4_makesBadRing_19 : decode cX4_makesBadRing 19 = .ok (.invokevirtual 62, 3) := by decide +kernel
theorem dX4_makesBadRing_22 : decode cX4_makesBadRing 22 = .ok (.aload_n 2, 1) := by decide +kernel
theorem dX4_makesBadRing_23 : decode cX4_makesBadRing 23 = .ok (.aload_n 0, 1) := by decide +kernel
theorem dX4_makesBadRing_24 : decode cX4_makesBadRing 24 = .ok (.getfield 15, 3) := by decide +kernel
theorem dX4_makesBadRing_27 : decode cX4_makesBadRing 27 = .ok (.iload_n 1, 1) := by decide +kernel
theorem dX4_makesBadRing_28 : decode cX4_makesBadRing 28 = .ok (.iaload, 1) := by decide +kernel
theorem dX4_makesBadRing_29 : decode cX4_makesBadRing 29 = .ok (.laload, 1) := by decide +kernel
theorem dX4_makesBadRing_30 : decode cX4_makesBadRing 30 = .ok (.lstore_n 3, 1) := by decide +kernel
theorem dX4_makesBadRing_31 : decode cX4_makesBadRing 31 = .ok (.lload_n 3, 1) := by decide +kernel
theorem dX4_makesBadRing_32 : decode cX4_makesBadRing 32 = .ok (.ldc2_w 38, 3) := by decide +kernel
theorem dX4_makesBadRing_35 : decode cX4_makesBadRing 35 = .ok (.lcmp, 1) := by decide +kernel
theorem dX4_makesBadRing_36 : decode cX4_makesBadRing 36 = .ok (.ifCond .eq 21, 3) := by decide +kernel
theorem dX4_makesBadRing_39 : decode cX4_makesBadRing 39 = .ok (.lload_n 3, 1) := by decide +kernel
theorem dX4_makesBadRing_40 : decode cX4_makesBadRing 40 = .ok (.aload_n 0, 1) := by decide +kernel
theorem dX4_makesBadRing_41 : decode cX4_makesBadRing 41 = .ok (.getfield 22, 3) := by decide +kernel
theorem dX4_makesBadRing_44 : decode cX4_makesBadRing 44 = .ok (.iload_n 1, 1) := by decide +kernel
theorem dX4_makesBadRing_45 : decode cX4_makesBadRing 45 = .ok (.iaload, 1) := by decide +kernel
theorem dX4_makesBadRing_46 : decode cX4_makesBadRing 46 = .ok (.i2l, 1) := by decide +kernel
theorem dX4_makesBadRing_47 : decode cX4_makesBadRing 47 = .ok (.ladd, 1) := by decide +kernel
theorem dX4_makesBadRing_48 : decode cX4_makesBadRing 48 = .ok (.lconst 0, 1) := by decide +kernel
theorem dX4_makesBadRing_49 : decode cX4_makesBadRing 49 = .ok (.lcmp, 1) := by decide +kernel
theorem dX4_makesBadRing_50 : decode cX4_makesBadRing 50 = .ok (.ifCond .gt 7, 3) := by decide +kernel
theorem dX4_makesBadRing_53 : decode cX4_makesBadRing 53 = .ok (.iconst 1, 1) := by decide +kernel
theorem dX4_makesBadRing_54 : decode cX4_makesBadRing 54 = .ok (.goto 4, 3) := by decide +kernel
theorem dX4_makesBadRing_57 : decode cX4_makesBadRing 57 = .ok (.iconst 0, 1) := by decide +kernel
theorem dX4_makesBadRing_58 : decode cX4_makesBadRing 58 = .ok (.ireturn, 1) := by decide +kernel
theorem dX4_allInts_0 : decode cX4_allInts 0 = .ok (.iconst 0, 1) := by decide +kernel
theorem dX4_allInts_1 : decode cX4_allInts 1 = .ok (.istore_n 2, 1) := by decide +kernel
theorem dX4_allInts_2 : decode cX4_allInts 2 = .ok (.iload_n 2, 1) := by decide +kernel
theorem dX4_allInts_3 : decode cX4_allInts 3 = .ok (.aload_n 0, 1) := by decide +kernel
theorem dX4_allInts_4 : decode cX4_allInts 4 = .ok (.getfield 9, 3) := by decide +kernel
theorem dX4_allInts_7 : decode cX4_allInts 7 = .ok (.if_icmp .ge 41, 3) := by decide +kernel
theorem dX4_allInts_10 : decode cX4_allInts 10 = .ok (.aload_n 1, 1) := by decide +kernel
theorem dX4_allInts_11 : decode cX4_allInts 11 = .ok (.iload_n 2, 1) := by decide +kernel
theorem dX4_allInts_12 : decode cX4_allInts 12 = .ok (.laload, 1) := by decide +kernel
theorem dX4_allInts_13 : decode cX4_allInts 13 = .ok (.ldc2_w 38, 3) := by decide +kernel
theorem dX4_allInts_16 : decode cX4_allInts 16 = .ok (.lcmp, 1) := by decide +kernel
theorem dX4_allInts_17 : decode cX4_allInts 17 = .ok (.ifCond .eq 25, 3) := by decide +kernel
theorem dX4_allInts_20 : decode cX4_allInts 20 = .ok (.aload_n 1, 1) := by decide +kernel
theorem dX4_allInts_21 : decode cX4_allInts 21 = .ok (.iload_n 2, 1) := by decide +kernel
theorem dX4_allInts_22 : decode cX4_allInts 22 = .ok (.laload, 1) := by decide +kernel
theorem dX4_allInts_23 : decode cX4_allInts 23 = .ok (.ldc2_w 66, 3) := by decide +kernel
theorem dX4_allInts_26 : decode cX4_allInts 26 = .ok (.lcmp, 1) := by decide +kernel
theorem dX4_allInts_27 : decode cX4_allInts 27 = .ok (.ifCond .lt 13, 3) := by decide +kernel
theorem dX4_allInts_30 : decode cX4_allInts 30 = .ok (.aload_n 1, 1) := by decide +kernel
theorem dX4_allInts_31 : decode cX4_allInts 31 = .ok (.iload_n 2, 1) := by decide +kernel
theorem dX4_allInts_32 : decode cX4_allInts 32 = .ok (.laload, 1) := by decide +kernel
theorem dX4_allInts_33 : decode cX4_allInts 33 = .ok (.ldc2_w 68, 3) := by decide +kernel
theorem dX4_allInts_36 : decode cX4_allInts 36 = .ok (.lcmp, 1) := by decide +kernel
theorem dX4_allInts_37 : decode cX4_allInts 37 = .ok (.ifCond .le 5, 3) := by decide +kernel
theorem dX4_allInts_40 : decode cX4_allInts 40 = .ok (.iconst 0, 1) := by decide +kernel
theorem dX4_allInts_41 : decode cX4_allInts 41 = .ok (.ireturn, 1) := by decide +kernel
theorem dX4_allInts_42 : decode cX4_allInts 42 = .ok (.iinc 2 1, 3) := by decide +kernel
theorem dX4_allInts_45 : decode cX4_allInts 45 = .ok (.goto (-43), 3) := by decide +kernel
theorem dX4_allInts_48 : decode cX4_allInts 48 = .ok (.iconst 1, 1) := by decide +kernel
theorem dX4_allInts_49 : decode cX4_allInts 49 = .ok (.ireturn, 1) := by decide +kernel
theorem dX5_init_0 : decode cX5_init 0 = .ok (.aload_n 0, 1) := by decide +kernel
theorem dX5_init_1 : decode cX5_init 1 = .ok (.invokespecial 3, 3) := by decide +kernel
theorem dX5_init_4 : decode cX5_init 4 = .ok (.aload_n 0, 1) := by decide +kernel
theorem dX5_init_5 : decode cX5_init 5 = .ok (.bipush 6, 2) := by decide +kernel
theorem dX5_init_7 : decode cX5_init 7 = .ok (.newarray .int, 2) := by decide +kernel
theorem dX5_init_9 : decode cX5_init 9 = .ok (.putfield 9, 3) := by decide +kernel
theorem dX5_init_12 : decode cX5_init 12 = .ok (.aload_n 0, 1) := by decide +kernel
theorem dX5_init_13 : decode cX5_init 13 = .ok (.bipush 6, 2) := by decide +kernel
theorem dX5_init_15 : decode cX5_init 15 = .ok (.newarray .int, 2) := by decide +kernel
theorem dX5_init_17 : decode cX5_init 17 = .ok (.putfield 15, 3) := by decide +kernel
theorem dX5_init_20 : decode cX5_init 20 = .ok (.aload_n 0, 1) := by decide +kernel
theorem dX5_init_21 : decode cX5_init 21 = .ok (.aload_n 1, 1) := by decide +kernel
theorem dX5_init_22 : decode cX5_init 22 = .ok (.putfield 18, 3) := by decide +kernel
theorem dX5_init_25 : decode cX5_init 25 = .ok (.return_, 1) := by decide +kernel
theorem dX5_findRound_0 : decode cX5_findRound 0 = .ok (.aload_n 0, 1) := by decide +kernel
theorem dX5_findRound_1 : decode cX5_findRound 1 = .ok (.iload_n 1, 1) := by decide +kernel
theorem dX5_findRound_2 : decode cX5_findRound 2 = .ok (.putfield 22, 3) := by decide +kernel
theorem dX5_findRound_5 : decode cX5_findRound 5 = .ok (.aload_n 0, 1) := by decide +kernel
theorem dX5_findRound_6 : decode cX5_findRound 6 = .ok (.iload_n 3, 1) := by decide +kernel
theorem dX5_findRound_7 : decode cX5_findRound 7 = .ok (.putfield 26, 3) := by decide +kernel
theorem dX5_findRound_10 : decode cX5_findRound 10 = .ok (.aload_n 0, 1) := by decide +kernel
theorem dX5_findRound_11 : decode cX5_findRound 11 = .ok (.ldc2_w 29, 3) := by decide +kernel
theorem dX5_findRound_14 : decode cX5_findRound 14 = .ok (.putfield 31, 3) := by decide +kernel
theorem dX5_findRound_17 : decode cX5_findRound 17 = .ok (.aload_n 0, 1) := by decide +kernel
theorem dX5_findRound_18 : decode cX5_findRound 18 = .ok (.iload_n 1, 1) := by decide +kernel
theorem dX5_findRound_19 : decode cX5_findRound 19 = .ok (.iload_n 2, 1) := by decide +kernel
theorem dX5_findRound_20 : decode cX5_findRound 20 = .ok (.lconst 0, 1) := by decide +kernel
theorem dX5_findRound_21 : decode cX5_findRound 21 = .ok (.iconst 0, 1) := by decide +kernel
theorem dX5_findRound_22 : decode cX5_findRound 22 = .ok (.invokevirtual 35, 3) := by decide +kernel
theorem dX5_findRound_25 : decode cX5_findRound 25 = .ok (.aload_n 0, 1) := by decide +kernel
theorem dX5_findRound_26 : decode cX5_findRound 26 = .ok (.getfield 31, 3) := by decide +kernel
theorem dX5_findRound_29 : decode cX5_findRound 29 = .ok (.lreturn, 1) := by decide +kernel
theorem dX5_dive_0 : decode cX5_dive 0 = .ok (.lload_n 3, 1) := by decide +kernel
theorem dX5_dive_1 : decode cX5_dive 1 = .ok (.aload_n 0, 1) := by decide +kernel
theorem dX5_dive_2 : decode cX5_dive 2 = .ok (.getfield 18, 3) := by decide +kernel
theorem dX5_dive_5 : decode cX5_dive 5 = .ok (.iload_n 1, 1) := by decide +kernel
theorem dX5_dive_6 : decode cX5_dive 6 = .ok (.aload_n 0, 1) := by decide +kernel
theorem dX5_dive_7 : decode cX5_dive 7 = .ok (.getfield 22, 3) := by decide +kernel
theorem dX5_dive_10 : decode cX5_dive 10 = .ok (.invokevirtual 39, 3) := by decide +kernel
theorem dX5_dive_13 : decode cX5_dive 13 = .ok (.invokestatic 45, 3) := by decide +kernel
theorem dX5_dive_16 : decode cX5_dive 16 = .ok (.lstore 6, 2) := by decide +kernel
theorem dX5_dive_18 : decode cX5_dive 18 = .ok (.lload 6, 2) := by decide +kernel
theorem dX5_dive_20 : decode cX5_dive 20 = .ok (.aload_n 0, 1) := by decide +kernel
theorem dX5_dive_21 : decode cX5_dive 21 = .ok (.getfield 31, 3) := by decide +kernel
theorem dX5_dive_24 : decode cX5_dive 24 = .ok (.invokestatic 49, 3) := by decide +kernel
theorem dX5_dive_27 : decode cX5_dive 27 = .ok (.ifCond .ne 4, 3) := by decide +kernel
theorem dX5_dive_30 : decode cX5_dive 30 = .ok (.return_, 1) := by decide +kernel
theorem dX5_dive_31 : decode cX5_dive 31 = .ok (.iload_n 2, 1) := by decide +kernel
theorem dX5_dive_32 : decode cX5_dive 32 = .ok (.ifCond .ne 25, 3) := by decide +kernel
theorem dX5_dive_35 : decode cX5_dive 35 = .ok (.aload_n 0, 1) := by decide +kernel
theorem dX5_dive_36 : decode cX5_dive 36 = .ok (.lload 6, 2) := by decide +kernel
theorem dX5_dive_38 : decode cX5_dive 38 = .ok (.putfield 31, 3) := by decide +kernel
theorem dX5_dive_41 : decode cX5_dive 41 = .ok (.aload_n 0, 1) := by decide +kernel
theorem dX5_dive_42 : decode cX5_dive 42 = .ok (.getfield 15, 3) := by decide +kernel
theorem dX5_dive_45 : decode cX5_dive 45 = .ok (.iconst 0, 1) := by decide +kernel
theorem dX5_dive_46 : decode cX5_dive 46 = .ok (.aload_n 0, 1) := by decide +kernel
theorem dX5_dive_47 : decode cX5_dive 47 = .ok (.getfield 9, 3) := by decide +kernel
theorem dX5_dive_50 : decode cX5_dive 50 = .ok (.iconst 0, 1) := by decide +kernel
theorem dX5_dive_51 : decode cX5_dive 51 = .ok (.bipush 6, 2) := by decide +kernel
theorem dX5_dive_53 : decode cX5_dive 53 = .ok (.invokestatic 53, 3) := by decide +kernel
theorem dX5_dive_56 : decode cX5_dive 56 = .ok (.return_, 1) := by decide +kernel
theorem dX5_dive_57 : decode cX5_dive 57 = .ok (.iload 5, 2) := by decide +kernel
theorem dX5_dive_59 : decode cX5_dive 59 = .ok (.bipush 6, 2) := by decide +kernel
theorem dX5_dive_61 : decode cX5_dive 61 = .ok (.if_icmp .lt 4, 3) := by decide +kernel
theorem dX5_dive_64 : decode cX5_dive 64 = .ok (.return_, 1) := by decide +kernel
theorem dX5_dive_65 : decode cX5_dive 65 = .ok (.iconst 0, 1) := by decide +kernel
theorem dX5_dive_66 : decode cX5_dive 66 = .ok (.istore 8, 2) := by decide +kernel
theorem dX5_dive_68 : decode cX5_dive 68 = .ok (.iload 8, 2) := by decide +kernel
theorem dX5_dive_70 : decode cX5_dive 70 = .ok (.aload_n 0, 1) := by decide +kernel
theorem dX5_dive_71 : decode cX5_dive 71 = .ok (.getfield 26, 3) := by decide +kernel
theorem dX5_dive_74 : decode cX5_dive 74 = .ok (.if_icmp .ge 70, 3) := by decide +kernel
theorem dX5_dive_77 : decode cX5_dive 77 = .ok (.iload_n 2, 1) := by decide +kernel
theorem dX5_dive_78 : decode cX5_dive 78 = .ok (.iload 8, 2) := by decide +kernel
theorem dX5_dive_80 : decode cX5_dive 80 = .ok (.ishr, 1) := by decide +kernel
theorem dX5_dive_81 : decode cX5_dive 81 = .ok (.iconst 1, 1) := by decide +kernel
theorem dX5_dive_82 : decode cX5_dive 82 = .ok (.iand, 1) := by decide +kernel
theorem dX5_dive_83 : decode cX5_dive 83 = .ok (.ifCond .eq 55, 3) := by decide +kernel
theorem dX5_dive_86 : decode cX5_dive 86 = .ok (.aload_n 0, 1) := by decide +kernel
theorem dX5_dive_87 : decode cX5_dive 87 = .ok (.getfield 18, 3) := by decide +kernel
theorem dX5_dive_90 : decode cX5_dive 90 = .ok (.iload_n 1, 1) := by decide +kernel
theorem dX5_dive_91 : decode cX5_dive 91 = .ok (.iload 8, 2) := by decide +kernel
theorem dX5_dive_93 : decode cX5_dive 93 = .ok (.invokevirtual 59, 3) := by decide +kernel
theorem dX5_dive_96 : decode cX5_dive 96 = .ok (.ifCond .eq 42, 3) := by decide +kernel
theorem dX5_dive_99 : decode cX5_dive 99 = .ok (.aload_n 0, 1) := by decide +kernel
theorem dX5_dive_100 : decode cX5_dive 100 = .ok (.getfield 15, 3) := by decide +kernel
theorem dX5_dive_103 : decode cX5_dive 103 = .ok (.iload 5, 2) := by decide +kernel
theorem dX5_dive_105 : decode cX5_dive 105 = .ok (.iload 8, 2) := by decide +kernel
theorem dX5_dive_107 : decode cX5_dive 107 = .ok (.iastore, 1) := by decide +kernel
theorem dX5_dive_108 : decode cX5_dive 108 = .ok (.aload_n 0, 1) := by decide +kernel
theorem dX5_dive_109 : decode cX5_dive 109 = .ok (.iload 8, 2) := by decide +kernel
theorem dX5_dive_111 : decode cX5_dive 111 = .ok (.iload_n 2, 1) := by decide +kernel
theorem dX5_dive_112 : decode cX5_dive 112 = .ok (.iconst 1, 1) := by decide +kernel
theorem dX5_dive_113 : decode cX5_dive 113 = .ok (.iload 8, 2) := by decide +kernel
theorem dX5_dive_115 : decode cX5_dive 115 = .ok (.ishl, 1) := by decide +kernel
theorem dX5_dive_116 : decode cX5_dive 116 = .ok (.iconst (-1), 1) := by decide +kernel
theorem dX5_dive_117 : decode cX5_dive 117 = .ok (.ixor, 1) := by decide +kernel
theorem dX5_dive_118 : decode cX5_dive 118 = .ok (.iand, 1) := by decide +kernel
theorem dX5_dive_119 : decode cX5_dive 119 = .ok (.lload_n 3, 1) := by decide +kernel
theorem dX5_dive_120 : decode cX5_dive 120 = .ok (.aload_n 0, 1) := by decide +kernel
theorem dX5_dive_121 : decode cX5_dive 121 = .ok (.getfield 18, 3) := by decide +kernel
theorem dX5_dive_124 : decode cX5_dive 124 = .ok (.iload_n 1, 1) := by decide +kernel
theorem dX5_dive_125 : decode cX5_dive 125 = .ok (.iload 8, 2) := by decide +kernel
theorem dX5_dive_127 : decode cX5_dive 127 = .ok (.invokevirtual 39, 3) := by decide +kernel
theorem dX5_dive_130 : decode cX5_dive 130 = .ok (.ladd, 1) := by decide +kernel
theorem dX5_dive_131 : decode cX5_dive 131 = .ok (.iload 5, 2) := by decide +kernel
theorem dX5_dive_133 : decode cX5_dive 133 = .ok (.iconst 1, 1) := by decide +kernel
theorem dX5_dive_134 : decode cX5_dive 134 = .ok (.iadd, 1) := by decide +kernel
theorem dX5_dive_135 : decode cX5_dive 135 = .ok (.invokevirtual 35, 3) := by decide +kernel
theorem dX5_dive_138 : decode cX5_dive 138 = .ok (.iinc 8 1, 3) := by decide +kernel
theorem dX5_dive_141 : decode cX5_dive 141 = .ok (.goto (-73), 3) := by decide +kernel
theorem dX5_dive_144 : decode cX5_dive 144 = .ok (.return_, 1) := by decide +kernel
theorem dX6_init_0 : decode cX6_init 0 = .ok (.aload_n 0, 1) := by decide +kernel
theorem dX6_init_1 : decode cX6_init 1 = .ok (.invokespecial 3, 3) := by decide +kernel
theorem dX6_init_4 : decode cX6_init 4 = .ok (.aload_n 0, 1) := by decide +kernel
theorem dX6_init_5 : decode cX6_init 5 = .ok (.bipush 12, 2) := by decide +kernel
theorem dX6_init_7 : decode cX6_init 7 = .ok (.newarray .long, 2) := by decide +kernel
theorem dX6_init_9 : decode cX6_init 9 = .ok (.putfield 9, 3) := by decide +kernel
theorem dX6_init_12 : decode cX6_init 12 = .ok (.aload_n 0, 1) := by decide +kernel
theorem dX6_init_13 : decode cX6_init 13 = .ok (.bipush 12, 2) := by decide +kernel
theorem dX6_init_15 : decode cX6_init 15 = .ok (.newarray .int, 2) := by decide +kernel
theorem dX6_init_17 : decode cX6_init 17 = .ok (.putfield 15, 3) := by decide +kernel
theorem dX6_init_20 : decode cX6_init 20 = .ok (.aload_n 0, 1) := by decide +kernel
theorem dX6_init_21 : decode cX6_init 21 = .ok (.bipush 12, 2) := by decide +kernel
theorem dX6_init_23 : decode cX6_init 23 = .ok (.newarray .long, 2) := by decide +kernel
theorem dX6_init_25 : decode cX6_init 25 = .ok (.putfield 19, 3) := by decide +kernel
theorem dX6_init_28 : decode cX6_init 28 = .ok (.aload_n 0, 1) := by decide +kernel
theorem dX6_init_29 : decode cX6_init 29 = .ok (.bipush 12, 2) := by decide +kernel
theorem dX6_init_31 : decode cX6_init 31 = .ok (.newarray .long, 2) := by decide +kernel
theorem dX6_init_33 : decode cX6_init 33 = .ok (.putfield 22, 3) := by decide +kernel
theorem dX6_init_36 : decode cX6_init 36 = .ok (.return_, 1) := by decide +kernel
theorem dX6_findWay_0 : decode cX6_findWay 0 = .ok (.iconst 0, 1) := by decide +kernel
theorem dX6_findWay_1 : decode cX6_findWay 1 = .ok (.istore_n 3, 1) := by decide +kernel
theorem dX6_findWay_2 : decode cX6_findWay 2 = .ok (.iload_n 2, 1) := by decide +kernel
theorem dX6_findWay_3 : decode cX6_findWay 3 = .ok (.istore 4, 2) := by decide +kernel
theorem dX6_findWay_5 : decode cX6_findWay 5 = .ok (.iload_n 3, 1) := by decide +kernel
theorem dX6_findWay_6 : decode cX6_findWay 6 = .ok (.bipush 12, 2) := by decide +kernel
theorem dX6_findWay_8 : decode cX6_findWay 8 = .ok (.if_icmp .ge 50, 3) := by decide +kernel
theorem dX6_findWay_11 : decode cX6_findWay 11 = .ok (.aload_n 1, 1) := by decide +kernel
theorem dX6_findWay_12 : decode cX6_findWay 12 = .ok (.getfield 25, 3) := by decide +kernel
theorem dX6_findWay_15 : decode cX6_findWay 15 = .ok (.iload 4, 2) := by decide +kernel
theorem dX6_findWay_17 : decode cX6_findWay 17 = .ok (.iaload, 1) := by decide +kernel
theorem dX6_findWay_18 : decode cX6_findWay 18 = .ok (.iconst (-1), 1) := by decide +kernel
theorem dX6_findWay_19 : decode cX6_findWay 19 = .ok (.if_icmp .eq 39, 3) := by decide +kernel
theorem dX6_findWay_22 : decode cX6_findWay 22 = .ok (.aload_n 0, 1) := by decide +kernel
theorem dX6_findWay_23 : decode cX6_findWay 23 = .ok (.getfield 15, 3) := by decide +kernel
theorem dX6_findWay_26 : decode cX6_findWay 26 = .ok (.iload_n 3, 1) := by decide +kernel
theorem dX6_findWay_27 : decode cX6_findWay 27 = .ok (.aload_n 1, 1) := by decide +kernel
theorem dX6_findWay_28 : decode cX6_findWay 28 = .ok (.getfield 25, 3) := by decide +kernel
theorem dX6_findWay_31 : decode cX6_findWay 31 = .ok (.iload 4, 2) := by decide +kernel
theorem dX6_findWay_33 : decode cX6_findWay 33 = .ok (.iaload, 1) := by decide +kernel
theorem dX6_findWay_34 : decode cX6_findWay 34 = .ok (.iastore, 1) := by decide +kernel
theorem dX6_findWay_35 : decode cX6_findWay 35 = .ok (.aload_n 1, 1) := by decide +kernel
theorem dX6_findWay_36 : decode cX6_findWay 36 = .ok (.getfield 30, 3) := by decide +kernel
theorem dX6_findWay_39 : decode cX6_findWay 39 = .ok (.getfield 34, 3) := by decide +kernel
theorem dX6_findWay_42 : decode cX6_findWay 42 = .ok (.aload_n 1, 1) := by decide +kernel
theorem dX6_findWay_43 : decode cX6_findWay 43 = .ok (.getfield 25, 3) := by decide +kernel
theorem dX6_findWay_46 : decode cX6_findWay 46 = .ok (.iload 4, 2) := by decide +kernel
theorem dX6_findWay_48 : decode cX6_findWay 48 = .ok (.iaload, 1) := by decide +kernel
theorem dX6_findWay_49 : decode cX6_findWay 49 = .ok (.iaload, 1) := by decide +kernel
theorem dX6_findWay_50 : decode cX6_findWay 50 = .ok (.istore 4, 2) := by decide +kernel
theorem dX6_findWay_52 : decode cX6_findWay 52 = .ok (.iinc 3 1, 3) := by decide +kernel
theorem dX6_findWay_55 : decode cX6_findWay 55 = .ok (.goto (-50), 3) := by decide +kernel
theorem dX6_findWay_58 : decode cX6_findWay 58 = .ok (.iconst 0, 1) := by decide +kernel
theorem dX6_findWay_59 : decode cX6_findWay 59 = .ok (.istore 4, 2) := by decide +kernel
theorem dX6_findWay_61 : decode cX6_findWay 61 = .ok (.iload 4, 2) := by decide +kernel
theorem dX6_findWay_63 : decode cX6_findWay 63 = .ok (.iload_n 3, 1) := by decide +kernel
theorem dX6_findWay_64 : decode cX6_findWay 64 = .ok (.iconst 2, 1) := by decide +kernel
theorem dX6_findWay_65 : decode cX6_findWay 65 = .ok (.idiv, 1) := by decide +kernel
theorem dX6_findWay_66 : decode cX6_findWay 66 = .ok (.if_icmp .ge 49, 3) := by decide +kernel
theorem dX6_findWay_69 : decode cX6_findWay 69 = .ok (.aload_n 0, 1) := by decide +kernel
theorem dX6_findWay_70 : decode cX6_findWay 70 = .ok (.getfield 15, 3) := by decide +kernel
theorem dX6_findWay_73 : decode cX6_findWay 73 = .ok (.iload_n 3, 1) := by decide +kernel
theorem dX6_findWay_74 : decode cX6_findWay 74 = .ok (.iconst 1, 1) := by decide +kernel
theorem dX6_findWay_75 : decode cX6_findWay 75 = .ok (.isub, 1) := by decide +kernel
theorem dX6_findWay_76 : decode cX6_findWay 76 = .ok (.iload 4, 2) := by decide +kernel
theorem dX6_findWay_78 : decode cX6_findWay 78 = .ok (.isub, 1) := by decide +kernel
theorem dX6_findWay_79 : decode cX6_findWay 79 = .ok (.iaload, 1) := by decide +kernel
theorem dX6_findWay_80 : decode cX6_findWay 80 = .ok (.istore 5, 2) := by decide +kernel
theorem dX6_findWay_82 : decode cX6_findWay 82 = .ok (.aload_n 0, 1) := by decide +kernel
theorem dX6_findWay_83 : decode cX6_findWay 83 = .ok (.getfield 15, 3) := by decide +kernel
theorem dX6_findWay_86 : decode cX6_findWay 86 = .ok (.iload_n 3, 1) := by decide +kernel
theorem dX6_findWay_87 : decode cX6_findWay 87 = .ok (.iconst 1, 1) := by decide +kernel
theorem dX6_findWay_88 : decode cX6_findWay 88 = .ok (.isub, 1) := by decide +kernel
theorem dX6_findWay_89 : decode cX6_findWay 89 = .ok (.iload 4, 2) := by decide +kernel
theorem dX6_findWay_91 : decode cX6_findWay 91 = .ok (.isub, 1) := by decide +kernel
theorem dX6_findWay_92 : decode cX6_findWay 92 = .ok (.aload_n 0, 1) := by decide +kernel
theorem dX6_findWay_93 : decode cX6_findWay 93 = .ok (.getfield 15, 3) := by decide +kernel
theorem dX6_findWay_96 : decode cX6_findWay 96 = .ok (.iload 4, 2) := by decide +kernel
theorem dX6_findWay_98 : decode cX6_findWay 98 = .ok (.iaload, 1) := by decide +kernel
theorem dX6_findWay_99 : decode cX6_findWay 99 = .ok (.iastore, 1) := by decide +kernel
theorem dX6_findWay_100 : decode cX6_findWay 100 = .ok (.aload_n 0, 1) := by decide +kernel
theorem dX6_findWay_101 : decode cX6_findWay 101 = .ok (.getfield 15, 3) := by decide +kernel
theorem dX6_findWay_104 : decode cX6_findWay 104 = .ok (.iload 4, 2) := by decide +kernel
theorem dX6_findWay_106 : decode cX6_findWay 106 = .ok (.iload 5, 2) := by decide +kernel
theorem dX6_findWay_108 : decode cX6_findWay 108 = .ok (.iastore, 1) := by decide +kernel
theorem dX6_findWay_109 : decode cX6_findWay 109 = .ok (.iinc 4 1, 3) := by decide +kernel
theorem dX6_findWay_112 : decode cX6_findWay 112 = .ok (.goto (-51), 3) := by decide +kernel
theorem dX6_findWay_115 : decode cX6_findWay 115 = .ok (.iload_n 3, 1) := by decide +kernel
theorem dX6_findWay_116 : decode cX6_findWay 116 = .ok (.ireturn, 1) := by decide +kernel
theorem dX6_foundIsKnown_0 : decode cX6_foundIsKnown 0 = .ok (.aload_n 0, 1) := by decide +kernel
theorem dX6_foundIsKnown_1 : decode cX6_foundIsKnown 1 = .ok (.getfield 22, 3) := by decide +kernel
theorem dX6_foundIsKnown_4 : decode cX6_foundIsKnown 4 = .ok (.iconst 0, 1) := by decide +kernel
theorem dX6_foundIsKnown_5 : decode cX6_foundIsKnown 5 = .ok (.aload_n 0, 1) := by decide +kernel
theorem dX6_foundIsKnown_6 : decode cX6_foundIsKnown 6 = .ok (.getfield 19, 3) := by decide +kernel
theorem dX6_foundIsKnown_9 : decode cX6_foundIsKnown 9 = .ok (.iconst 0, 1) := by decide +kernel
theorem dX6_foundIsKnown_10 : decode cX6_foundIsKnown 10 = .ok (.bipush 12, 2) := by decide +kernel
theorem dX6_foundIsKnown_12 : decode cX6_foundIsKnown 12 = .ok (.invokestatic 39, 3) := by decide +kernel
theorem dX6_foundIsKnown_15 : decode cX6_foundIsKnown 15 = .ok (.return_, 1) := by decide +kernel
theorem dX6_waysAsShort_0 : decode cX6_waysAsShort 0 = .ok (.aload_n 0, 1) := by decide +kernel
theorem dX6_waysAsShort_1 : decode cX6_waysAsShort 1 = .ok (.getfield 19, 3) := by decide +kernel
theorem dX6_waysAsShort_4 : decode cX6_waysAsShort 4 = .ok (.lconst 0, 1) := by decide +kernel
theorem dX6_waysAsShort_5 : decode cX6_waysAsShort 5 = .ok (.invokestatic 45, 3) := by decide +kernel
theorem dX6_waysAsShort_8 : decode cX6_waysAsShort 8 = .ok (.aload_n 0, 1) := by decide +kernel
theorem dX6_waysAsShort_9 : decode cX6_waysAsShort 9 = .ok (.getfield 19, 3) := by decide +kernel
theorem dX6_waysAsShort_12 : decode cX6_waysAsShort 12 = .ok (.aload_n 1, 1) := by decide +kernel
theorem dX6_waysAsShort_13 : decode cX6_waysAsShort 13 = .ok (.getfield 51, 3) := by decide +kernel
theorem dX6_waysAsShort_16 : decode cX6_waysAsShort 16 = .ok (.lconst 1, 1) := by decide +kernel
theorem dX6_waysAsShort_17 : decode cX6_waysAsShort 17 = .ok (.lastore, 1) := by decide +kernel
theorem dX6_waysAsShort_18 : decode cX6_waysAsShort 18 = .ok (.aload_n 0, 1) := by decide +kernel
theorem dX6_waysAsShort_19 : decode cX6_waysAsShort 19 = .ok (.getfield 19, 3) := by decide +kernel
theorem dX6_waysAsShort_22 : decode cX6_waysAsShort 22 = .ok (.iload_n 2, 1) := by decide +kernel
theorem dX6_waysAsShort_23 : decode cX6_waysAsShort 23 = .ok (.laload, 1) := by decide +kernel
theorem dX6_waysAsShort_24 : decode cX6_waysAsShort 24 = .ok (.lstore_n 3, 1) := by decide +kernel
theorem dX6_waysAsShort_25 : decode cX6_waysAsShort 25 = .ok (.iconst 1, 1) := by decide +kernel
theorem dX6_waysAsShort_26 : decode cX6_waysAsShort 26 = .ok (.istore 5, 2) := by decide +kernel
theorem dX6_waysAsShort_28 : decode cX6_waysAsShort 28 = .ok (.iload 5, 2) := by decide +kernel
theorem dX6_waysAsShort_30 : decode cX6_waysAsShort 30 = .ok (.aload_n 1, 1) := by decide +kernel
theorem dX6_waysAsShort_31 : decode cX6_waysAsShort 31 = .ok (.getfield 30, 3) := by decide +kernel
theorem dX6_waysAsShort_34 : decode cX6_waysAsShort 34 = .ok (.getfield 55, 3) := by decide +kernel
theorem dX6_waysAsShort_37 : decode cX6_waysAsShort 37 = .ok (.if_icmp .ge 114, 3) := by decide +kernel
theorem dX6_waysAsShort_40 : decode cX6_waysAsShort 40 = .ok (.aload_n 0, 1) := by decide +kernel
theorem dX6_waysAsShort_41 : decode cX6_waysAsShort 41 = .ok (.getfield 22, 3) := by decide +kernel
theorem dX6_waysAsShort_44 : decode cX6_waysAsShort 44 = .ok (.lconst 0, 1) := by decide +kernel
theorem dX6_waysAsShort_45 : decode cX6_waysAsShort 45 = .ok (.invokestatic 45, 3) := by decide +kernel
theorem dX6_waysAsShort_48 : decode cX6_waysAsShort 48 = .ok (.iconst 0, 1) := by decide +kernel
theorem dX6_waysAsShort_49 : decode cX6_waysAsShort 49 = .ok (.istore 6, 2) := by decide +kernel
theorem dX6_waysAsShort_51 : decode cX6_waysAsShort 51 = .ok (.iload 6, 2) := by decide +kernel
theorem dX6_waysAsShort_53 : decode cX6_waysAsShort 53 = .ok (.aload_n 1, 1) := by decide +kernel
theorem dX6_waysAsShort_54 : decode cX6_waysAsShort 54 = .ok (.getfield 30, 3) := by decide +kernel
theorem dX6_waysAsShort_57 : decode cX6_waysAsShort 57 = .ok (.getfield 58, 3) := by decide +kernel
theorem dX6_waysAsShort_60 : decode cX6_waysAsShort 60 = .ok (.if_icmp .ge 66, 3) := by decide +kernel
theorem dX6_waysAsShort_63 : decode cX6_waysAsShort 63 = .ok (.aload_n 1, 1) := by decide +kernel
theorem dX6_waysAsShort_64 : decode cX6_waysAsShort 64 = .ok (.iload 6, 2) := by decide +kernel
theorem dX6_waysAsShort_66 : decode cX6_waysAsShort 66 = .ok (.invokevirtual 61, 3) := by decide +kernel
theorem dX6_waysAsShort_69 : decode cX6_waysAsShort 69 = .ok (.ifCond .eq 51, 3) := by decide +kernel
theorem dX6_waysAsShort_72 : decode cX6_waysAsShort 72 = .ok (.aload_n 1, 1) := by decide +kernel
theorem dX6_waysAsShort_73 : decode cX6_waysAsShort 73 = .ok (.getfield 30, 3) := by decide +kernel
theorem dX6_waysAsShort_76 : decode cX6_waysAsShort 76 = .ok (.getfield 65, 3) := by decide +kernel
theorem dX6_waysAsShort_79 : decode cX6_waysAsShort 79 = .ok (.iload 6, 2) := by decide +kernel
theorem dX6_waysAsShort_81 : decode cX6_waysAsShort 81 = .ok (.iaload, 1) := by decide +kernel
theorem dX6_waysAsShort_82 : decode cX6_waysAsShort 82 = .ok (.istore 7, 2) := by decide +kernel
theorem dX6_waysAsShort_84 : decode cX6_waysAsShort 84 = .ok (.aload_n 0, 1) := by decide +kernel
theorem dX6_waysAsShort_85 : decode cX6_waysAsShort 85 = .ok (.getfield 22, 3) := by decide +kernel
theorem dX6_waysAsShort_88 : decode cX6_waysAsShort 88 = .ok (.iload 7, 2) := by decide +kernel
theorem dX6_waysAsShort_90 : decode cX6_waysAsShort 90 = .ok (.ldc2_w 68, 3) := by decide +kernel
theorem dX6_waysAsShort_93 : decode cX6_waysAsShort 93 = .ok (.aload_n 0, 1) := by decide +kernel
theorem dX6_waysAsShort_94 : decode cX6_waysAsShort 94 = .ok (.getfield 22, 3) := by decide +kernel
theorem dX6_waysAsShort_97 : decode cX6_waysAsShort 97 = .ok (.iload 7, 2) := by decide +kernel
theorem dX6_waysAsShort_99 : decode cX6_waysAsShort 99 = .ok (.laload, 1) := by decide +kernel
theorem dX6_waysAsShort_100 : decode cX6_waysAsShort 100 = .ok (.aload_n 0, 1) := by decide +kernel
theorem dX6_waysAsShort_101 : decode cX6_waysAsShort 101 = .ok (.getfield 19, 3) := by decide +kernel
theorem dX6_waysAsShort_104 : decode cX6_waysAsShort 104 = .ok (.aload_n 1, 1) := by decide +kernel
theorem dX6_waysAsShort_105 : decode cX6_waysAsShort 105 = .ok (.getfield 30, 3) := by decide +kernel
theorem dX6_waysAsShort_108 : decode cX6_waysAsShort 108 = .ok (.getfield 34, 3) := by decide +kernel
theorem dX6_waysAsShort_111 : decode cX6_waysAsShort 111 = .ok (.iload 6, 2) := by decide +kernel
theorem dX6_waysAsShort_113 : decode cX6_waysAsShort 113 = .ok (.iaload, 1) := by decide +kernel
theorem dX6_waysAsShort_114 : decode cX6_waysAsShort 114 = .ok (.laload, 1) := by decide +kernel
theorem dX6_waysAsShort_115 : decode cX6_waysAsShort 115 = .ok (.ladd, 1) := by decide +kernel
theorem dX6_waysAsShort_116 : decode cX6_waysAsShort 116 = .ok (.invokestatic 70, 3) := by decide +kernel
theorem dX6_waysAsShort_119 : decode cX6_waysAsShort 119 = .ok (.lastore, 1) := by decide +kernel
theorem dX6_waysAsShort_120 : decode cX6_waysAsShort 120 = .ok (.iinc 6 1, 3) := by decide +kernel
theorem dX6_waysAsShort_123 : decode cX6_waysAsShort 123 = .ok (.goto (-72), 3) := by decide +kernel
theorem dX6_waysAsShort_126 : decode cX6_waysAsShort 126 = .ok (.aload_n 0, 1) := by decide +kernel
theorem dX6_waysAsShort_127 : decode cX6_waysAsShort 127 = .ok (.invokevirtual 76, 3) := by decide +kernel
theorem dX6_waysAsShort_130 : decode cX6_waysAsShort 130 = .ok (.ldc2_w 68, 3) := by decide +kernel
theorem dX6_waysAsShort_133 : decode cX6_waysAsShort 133 = .ok (.lload_n 3, 1) := by decide +kernel
theorem dX6_waysAsShort_134 : decode cX6_waysAsShort 134 = .ok (.aload_n 0, 1) := by decide +kernel
theorem dX6_waysAsShort_135 : decode cX6_waysAsShort 135 = .ok (.getfield 19, 3) := by decide +kernel
theorem dX6_waysAsShort_138 : decode cX6_waysAsShort 138 = .ok (.iload_n 2, 1) := by decide +kernel
theorem dX6_waysAsShort_139 : decode cX6_waysAsShort 139 = .ok (.laload, 1) := by decide +kernel
theorem dX6_waysAsShort_140 : decode cX6_waysAsShort 140 = .ok (.ladd, 1) := by decide +kernel
theorem dX6_waysAsShort_141 : decode cX6_waysAsShort 141 = .ok (.invokestatic 70, 3) := by decide +kernel
theorem dX6_waysAsShort_144 : decode cX6_waysAsShort 144 = .ok (.lstore_n 3, 1) := by decide +kernel
theorem dX6_waysAsShort_145 : decode cX6_waysAsShort 145 = .ok (.iinc 5 1, 3) := by decide +kernel
theorem dX6_waysAsShort_148 : decode cX6_waysAsShort 148 = .ok (.goto (-120), 3) := by decide +kernel
theorem dX6_waysAsShort_151 : decode cX6_waysAsShort 151 = .ok (.lload_n 3, 1) := by decide +kernel
theorem dX6_waysAsShort_152 : decode cX6_waysAsShort 152 = .ok (.lreturn, 1) := by decide +kernel
theorem dX6_withFewRoads_0 : decode cX6_withFewRoads 0 = .ok (.aload_n 1, 1) := by decide +kernel
theorem dX6_withFewRoads_1 : decode cX6_withFewRoads 1 = .ok (.getfield 30, 3) := by decide +kernel
theorem dX6_withFewRoads_4 : decode cX6_withFewRoads 4 = .ok (.aload_n 1, 1) := by decide +kernel
theorem dX6_withFewRoads_5 : decode cX6_withFewRoads 5 = .ok (.getfield 51, 3) := by decide +kernel
theorem dX6_withFewRoads_8 : decode cX6_withFewRoads 8 = .ok (.aload_n 0, 1) := by decide +kernel
theorem dX6_withFewRoads_9 : decode cX6_withFewRoads 9 = .ok (.getfield 19, 3) := by decide +kernel
theorem dX6_withFewRoads_12 : decode cX6_withFewRoads 12 = .ok (.invokevirtual 79, 3) := by decide +kernel
theorem dX6_withFewRoads_15 : decode cX6_withFewRoads 15 = .ok (.iconst 1, 1) := by decide +kernel
theorem dX6_withFewRoads_16 : decode cX6_withFewRoads 16 = .ok (.istore 4, 2) := by decide +kernel
theorem dX6_withFewRoads_18 : decode cX6_withFewRoads 18 = .ok (.iconst 0, 1) := by decide +kernel
theorem dX6_withFewRoads_19 : decode cX6_withFewRoads 19 = .ok (.istore 5, 2) := by decide +kernel
theorem dX6_withFewRoads_21 : decode cX6_withFewRoads 21 = .ok (.iload 5, 2) := by decide +kernel
theorem dX6_withFewRoads_23 : decode cX6_withFewRoads 23 = .ok (.iload_n 3, 1) := by decide +kernel
theorem dX6_withFewRoads_24 : decode cX6_withFewRoads 24 = .ok (.if_icmp .ge 50, 3) := by decide +kernel
theorem dX6_withFewRoads_27 : decode cX6_withFewRoads 27 = .ok (.iload 4, 2) := by decide +kernel
theorem dX6_withFewRoads_29 : decode cX6_withFewRoads 29 = .ok (.ifCond .eq 45, 3) := by decide +kernel
theorem dX6_withFewRoads_32 : decode cX6_withFewRoads 32 = .ok (.aload_n 0, 1) := by decide +kernel
theorem dX6_withFewRoads_33 : decode cX6_withFewRoads 33 = .ok (.getfield 19, 3) := by decide +kernel
theorem dX6_withFewRoads_36 : decode cX6_withFewRoads 36 = .ok (.iconst 0, 1) := by decide +kernel
theorem dX6_withFewRoads_37 : decode cX6_withFewRoads 37 = .ok (.aload_n 0, 1) := by decide +kernel
theorem dX6_withFewRoads_38 : decode cX6_withFewRoads 38 = .ok (.getfield 22, 3) := by decide +kernel
theorem dX6_withFewRoads_41 : decode cX6_withFewRoads 41 = .ok (.iconst 0, 1) := by decide +kernel
theorem dX6_withFewRoads_42 : decode cX6_withFewRoads 42 = .ok (.bipush 12, 2) := by decide +kernel
theorem dX6_withFewRoads_44 : decode cX6_withFewRoads 44 = .ok (.invokestatic 39, 3) := by decide +kernel
theorem dX6_withFewRoads_47 : decode cX6_withFewRoads 47 = .ok (.aload_n 1, 1) := by decide +kernel
theorem dX6_withFewRoads_48 : decode cX6_withFewRoads 48 = .ok (.getfield 30, 3) := by decide +kernel
theorem dX6_withFewRoads_51 : decode cX6_withFewRoads 51 = .ok (.aload_n 0, 1) := by decide +kernel
theorem dX6_withFewRoads_52 : decode cX6_withFewRoads 52 = .ok (.getfield 19, 3) := by decide +kernel
theorem dX6_withFewRoads_55 : decode cX6_withFewRoads 55 = .ok (.aload_n 0, 1) := by decide +kernel
theorem dX6_withFewRoads_56 : decode cX6_withFewRoads 56 = .ok (.getfield 22, 3) := by decide +kernel
theorem dX6_withFewRoads_59 : decode cX6_withFewRoads 59 = .ok (.invokevirtual 83, 3) := by decide +kernel
theorem dX6_withFewRoads_62 : decode cX6_withFewRoads 62 = .ok (.istore 4, 2) := by decide +kernel
theorem dX6_withFewRoads_64 : decode cX6_withFewRoads 64 = .ok (.aload_n 0, 1) := by decide +kernel
theorem dX6_withFewRoads_65 : decode cX6_withFewRoads 65 = .ok (.invokevirtual 76, 3) := by decide +kernel
theorem dX6_withFewRoads_68 : decode cX6_withFewRoads 68 = .ok (.iinc 5 1, 3) := by decide +kernel
theorem dX6_withFewRoads_71 : decode cX6_withFewRoads 71 = .ok (.goto (-50), 3) := by decide +kernel
theorem dX6_withFewRoads_74 : decode cX6_withFewRoads 74 = .ok (.aload_n 0, 1) := by decide +kernel
theorem dX6_withFewRoads_75 : decode cX6_withFewRoads 75 = .ok (.getfield 19, 3) := by decide +kernel
theorem dX6_withFewRoads_78 : decode cX6_withFewRoads 78 = .ok (.iload_n 2, 1) := by decide +kernel
theorem dX6_withFewRoads_79 : decode cX6_withFewRoads 79 = .ok (.laload, 1) := by decide +kernel
theorem dX6_withFewRoads_80 : decode cX6_withFewRoads 80 = .ok (.lreturn, 1) := by decide +kernel
theorem dX6_withFreeRoads_0 : decode cX6_withFreeRoads 0 = .ok (.aload_n 1, 1) := by decide +kernel
theorem dX6_withFreeRoads_1 : decode cX6_withFreeRoads 1 = .ok (.getfield 30, 3) := by decide +kernel
theorem dX6_withFreeRoads_4 : decode cX6_withFreeRoads 4 = .ok (.astore 5, 2) := by decide +kernel
theorem dX6_withFreeRoads_6 : decode cX6_withFreeRoads 6 = .ok (.aload_n 1, 1) := by decide +kernel
theorem dX6_withFreeRoads_7 : decode cX6_withFreeRoads 7 = .ok (.getfield 87, 3) := by decide +kernel
theorem dX6_withFreeRoads_10 : decode cX6_withFreeRoads 10 = .ok (.iconst 0, 1) := by decide +kernel
theorem dX6_withFreeRoads_11 : decode cX6_withFreeRoads 11 = .ok (.aload_n 0, 1) := by decide +kernel
theorem dX6_withFreeRoads_12 : decode cX6_withFreeRoads 12 = .ok (.getfield 19, 3) := by decide +kernel
theorem dX6_withFreeRoads_15 : decode cX6_withFreeRoads 15 = .ok (.iconst 0, 1) := by decide +kernel
theorem dX6_withFreeRoads_16 : decode cX6_withFreeRoads 16 = .ok (.bipush 12, 2) := by decide +kernel
theorem dX6_withFreeRoads_18 : decode cX6_withFreeRoads 18 = .ok (.invokestatic 39, 3) := by decide +kernel
theorem dX6_withFreeRoads_21 : decode cX6_withFreeRoads 21 = .ok (.iconst 0, 1) := by decide +kernel
theorem dX6_withFreeRoads_22 : decode cX6_withFreeRoads 22 = .ok (.istore 6, 2) := by decide +kernel
theorem dX6_withFreeRoads_24 : decode cX6_withFreeRoads 24 = .ok (.iload 6, 2) := by decide +kernel
theorem dX6_withFreeRoads_26 : decode cX6_withFreeRoads 26 = .ok (.iload 4, 2) := by decide +kernel
theorem dX6_withFreeRoads_28 : decode cX6_withFreeRoads 28 = .ok (.if_icmp .ge 99, 3) := by decide +kernel
theorem dX6_withFreeRoads_31 : decode cX6_withFreeRoads 31 = .ok (.aload_n 0, 1) := by decide +kernel
theorem dX6_withFreeRoads_32 : decode cX6_withFreeRoads 32 = .ok (.getfield 19, 3) := by decide +kernel
theorem dX6_withFreeRoads_35 : decode cX6_withFreeRoads 35 = .ok (.iconst 0, 1) := by decide +kernel
theorem dX6_withFreeRoads_36 : decode cX6_withFreeRoads 36 = .ok (.aload_n 0, 1) := by decide +kernel
theorem dX6_withFreeRoads_37 : decode cX6_withFreeRoads 37 = .ok (.getfield 22, 3) := by decide +kernel
theorem dX6_withFreeRoads_40 : decode cX6_withFreeRoads 40 = .ok (.iconst 0, 1) := by decide +kernel
theorem dX6_withFreeRoads_41 : decode cX6_withFreeRoads 41 = .ok (.bipush 12, 2) := by decide +kernel
theorem dX6_withFreeRoads_43 : decode cX6_withFreeRoads 43 = .ok (.invokestatic 39, 3) := by decide +kernel
theorem dX6_withFreeRoads_46 : decode cX6_withFreeRoads 46 = .ok (.iconst 0, 1) := by decide +kernel
theorem dX6_withFreeRoads_47 : decode cX6_withFreeRoads 47 = .ok (.istore 7, 2) := by decide +kernel
theorem dX6_withFreeRoads_49 : decode cX6_withFreeRoads 49 = .ok (.iload 7, 2) := by decide +kernel
theorem dX6_withFreeRoads_51 : decode cX6_withFreeRoads 51 = .ok (.aload 5, 2) := by decide +kernel
theorem dX6_withFreeRoads_53 : decode cX6_withFreeRoads 53 = .ok (.getfield 58, 3) := by decide +kernel
theorem dX6_withFreeRoads_56 : decode cX6_withFreeRoads 56 = .ok (.if_icmp .ge 61, 3) := by decide +kernel
theorem dX6_withFreeRoads_59 : decode cX6_withFreeRoads 59 = .ok (.aload 5, 2) := by decide +kernel
theorem dX6_withFreeRoads_61 : decode cX6_withFreeRoads 61 = .ok (.iload 7, 2) := by decide +kernel
theorem dX6_withFreeRoads_63 : decode cX6_withFreeRoads 63 = .ok (.invokevirtual 90, 3) := by decide +kernel
theorem dX6_withFreeRoads_66 : decode cX6_withFreeRoads 66 = .ok (.ifCond .eq 45, 3) := by decide +kernel
theorem dX6_withFreeRoads_69 : decode cX6_withFreeRoads 69 = .ok (.aload 5, 2) := by decide +kernel
theorem dX6_withFreeRoads_71 : decode cX6_withFreeRoads 71 = .ok (.getfield 93, 3) := by decide +kernel
theorem dX6_withFreeRoads_74 : decode cX6_withFreeRoads 74 = .ok (.iload 7, 2) := by decide +kernel
theorem dX6_withFreeRoads_76 : decode cX6_withFreeRoads 76 = .ok (.iaload, 1) := by decide +kernel
theorem dX6_withFreeRoads_77 : decode cX6_withFreeRoads 77 = .ok (.ifCond .le 34, 3) := by decide +kernel
theorem dX6_withFreeRoads_80 : decode cX6_withFreeRoads 80 = .ok (.aload_n 0, 1) := by decide +kernel
theorem dX6_withFreeRoads_81 : decode cX6_withFreeRoads 81 = .ok (.aload_n 2, 1) := by decide +kernel
theorem dX6_withFreeRoads_82 : decode cX6_withFreeRoads 82 = .ok (.aload 5, 2) := by decide +kernel
theorem dX6_withFreeRoads_84 : decode cX6_withFreeRoads 84 = .ok (.getfield 65, 3) := by decide +kernel
theorem dX6_withFreeRoads_87 : decode cX6_withFreeRoads 87 = .ok (.iload 7, 2) := by decide +kernel
theorem dX6_withFreeRoads_89 : decode cX6_withFreeRoads 89 = .ok (.iaload, 1) := by decide +kernel
theorem dX6_withFreeRoads_90 : decode cX6_withFreeRoads 90 = .ok (.aload_n 0, 1) := by decide +kernel
theorem dX6_withFreeRoads_91 : decode cX6_withFreeRoads 91 = .ok (.getfield 19, 3) := by decide +kernel
theorem dX6_withFreeRoads_94 : decode cX6_withFreeRoads 94 = .ok (.aload 5, 2) := by decide +kernel
theorem dX6_withFreeRoads_96 : decode cX6_withFreeRoads 96 = .ok (.getfield 34, 3) := by decide +kernel
theorem dX6_withFreeRoads_99 : decode cX6_withFreeRoads 99 = .ok (.iload 7, 2) := by decide +kernel
theorem dX6_withFreeRoads_101 : decode cX6_withFreeRoads 101 = .ok (.iaload, 1) := by decide +kernel
theorem dX6_withFreeRoads_102 : decode cX6_withFreeRoads 102 = .ok (.laload, 1) := by decide +kernel
theorem dX6_withFreeRoads_103 : decode cX6_withFreeRoads 103 = .ok (.aload 5, 2) := by decide +kernel
theorem dX6_withFreeRoads_105 : decode cX6_withFreeRoads 105 = .ok (.getfield 55, 3) := by decide +kernel
theorem dX6_withFreeRoads_108 : decode cX6_withFreeRoads 108 = .ok (.invokevirtual 96, 3) := by decide +kernel
theorem dX6_withFreeRoads_111 : decode cX6_withFreeRoads 111 = .ok (.iinc 7 1, 3) := by decide +kernel
theorem dX6_withFreeRoads_114 : decode cX6_withFreeRoads 114 = .ok (.goto (-65), 3) := by decide +kernel
theorem dX6_withFreeRoads_117 : decode cX6_withFreeRoads 117 = .ok (.aload_n 0, 1) := by decide +kernel
theorem dX6_withFreeRoads_118 : decode cX6_withFreeRoads 118 = .ok (.invokevirtual 76, 3) := by decide +kernel
theorem dX6_withFreeRoads_121 : decode cX6_withFreeRoads 121 = .ok (.iinc 6 1, 3) := by decide +kernel
theorem dX6_withFreeRoads_124 : decode cX6_withFreeRoads 124 = .ok (.goto (-100), 3) := by decide +kernel
theorem dX6_withFreeRoads_127 : decode cX6_withFreeRoads 127 = .ok (.aload_n 0, 1) := by decide +kernel
theorem dX6_withFreeRoads_128 : decode cX6_withFreeRoads 128 = .ok (.getfield 19, 3) := by decide +kernel
theorem dX6_withFreeRoads_131 : decode cX6_withFreeRoads 131 = .ok (.iload_n 3, 1) := by decide +kernel
theorem dX6_withFreeRoads_132 : decode cX6_withFreeRoads 132 = .ok (.laload, 1) := by decide +kernel
theorem dX6_withFreeRoads_133 : decode cX6_withFreeRoads 133 = .ok (.lreturn, 1) := by decide +kernel
theorem dX6_goOn_0 : decode cX6_goOn 0 = .ok (.iconst 0, 1) := by decide +kernel
theorem dX6_goOn_1 : decode cX6_goOn 1 = .ok (.istore 6, 2) := by decide +kernel
theorem dX6_goOn_3 : decode cX6_goOn 3 = .ok (.iload 6, 2) := by decide +kernel
theorem dX6_goOn_5 : decode cX6_goOn 5 = .ok (.iload 5, 2) := by decide +kernel
theorem dX6_goOn_7 : decode cX6_goOn 7 = .ok (.if_icmp .ge 30, 3) := by decide +kernel
theorem dX6_goOn_10 : decode cX6_goOn 10 = .ok (.aload_n 0, 1) := by decide +kernel
theorem dX6_goOn_11 : decode cX6_goOn 11 = .ok (.getfield 22, 3) := by decide +kernel
theorem dX6_goOn_14 : decode cX6_goOn 14 = .ok (.iload 6, 2) := by decide +kernel
theorem dX6_goOn_16 : decode cX6_goOn 16 = .ok (.lload_n 3, 1) := by decide +kernel
theorem dX6_goOn_17 : decode cX6_goOn 17 = .ok (.aload_n 1, 1) := by decide +kernel
theorem dX6_goOn_18 : decode cX6_goOn 18 = .ok (.iload_n 2, 1) := by decide +kernel
theorem dX6_goOn_19 : decode cX6_goOn 19 = .ok (.iload 6, 2) := by decide +kernel
theorem dX6_goOn_21 : decode cX6_goOn 21 = .ok (.invokevirtual 100, 3) := by decide +kernel
theorem dX6_goOn_24 : decode cX6_goOn 24 = .ok (.invokestatic 106, 3) := by decide +kernel
theorem dX6_goOn_27 : decode cX6_goOn 27 = .ok (.invokestatic 109, 3) := by decide +kernel
theorem dX6_goOn_30 : decode cX6_goOn 30 = .ok (.pop, 1) := by decide +kernel
theorem dX6_goOn_31 : decode cX6_goOn 31 = .ok (.iinc 6 1, 3) := by decide +kernel
theorem dX6_goOn_34 : decode cX6_goOn 34 = .ok (.goto (-31), 3) := by decide +kernel
theorem dX6_goOn_37 : decode cX6_goOn 37 = .ok (.return_, 1) := by decide +kernel
theorem dX6_narrowest_0 : decode cX6_narrowest 0 = .ok (.aload_n 1, 1) := by decide +kernel
theorem dX6_narrowest_1 : decode cX6_narrowest 1 = .ok (.getfield 30, 3) := by decide +kernel
theorem dX6_narrowest_4 : decode cX6_narrowest 4 = .ok (.astore_n 3, 1) := by decide +kernel
theorem dX6_narrowest_5 : decode cX6_narrowest 5 = .ok (.aload_n 3, 1) := by decide +kernel
theorem dX6_narrowest_6 : decode cX6_narrowest 6 = .ok (.aload_n 1, 1) := by decide +kernel
theorem dX6_narrowest_7 : decode cX6_narrowest 7 = .ok (.getfield 51, 3) := by decide +kernel
theorem dX6_narrowest_10 : decode cX6_narrowest 10 = .ok (.aload_n 0, 1) := by decide +kernel
theorem dX6_narrowest_11 : decode cX6_narrowest 11 = .ok (.getfield 19, 3) := by decide +kernel
theorem dX6_narrowest_14 : decode cX6_narrowest 14 = .ok (.invokevirtual 79, 3) := by decide +kernel
theorem dX6_narrowest_17 : decode cX6_narrowest 17 = .ok (.aload_n 0, 1) := by decide +kernel
theorem dX6_narrowest_18 : decode cX6_narrowest 18 = .ok (.getfield 19, 3) := by decide +kernel
theorem dX6_narrowest_21 : decode cX6_narrowest 21 = .ok (.aload_n 1, 1) := by decide +kernel
theorem dX6_narrowest_22 : decode cX6_narrowest 22 = .ok (.getfield 51, 3) := by decide +kernel
theorem dX6_narrowest_25 : decode cX6_narrowest 25 = .ok (.ldc2_w 113, 3) := by decide +kernel
theorem dX6_narrowest_28 : decode cX6_narrowest 28 = .ok (.lastore, 1) := by decide +kernel
theorem dX6_narrowest_29 : decode cX6_narrowest 29 = .ok (.iconst 1, 1) := by decide +kernel
theorem dX6_narrowest_30 : decode cX6_narrowest 30 = .ok (.istore 4, 2) := by decide +kernel
theorem dX6_narrowest_32 : decode cX6_narrowest 32 = .ok (.iconst 0, 1) := by decide +kernel
theorem dX6_narrowest_33 : decode cX6_narrowest 33 = .ok (.istore 5, 2) := by decide +kernel
theorem dX6_narrowest_35 : decode cX6_narrowest 35 = .ok (.iload 5, 2) := by decide +kernel
theorem dX6_narrowest_37 : decode cX6_narrowest 37 = .ok (.aload_n 3, 1) := by decide +kernel
theorem dX6_narrowest_38 : decode cX6_narrowest 38 = .ok (.getfield 55, 3) := by decide +kernel
theorem dX6_narrowest_41 : decode cX6_narrowest 41 = .ok (.if_icmp .ge 99, 3) := by decide +kernel
theorem dX6_narrowest_44 : decode cX6_narrowest 44 = .ok (.iload 4, 2) := by decide +kernel
theorem dX6_narrowest_46 : decode cX6_narrowest 46 = .ok (.ifCond .eq 94, 3) := by decide +kernel
theorem dX6_narrowest_49 : decode cX6_narrowest 49 = .ok (.iconst 0, 1) := by decide +kernel
theorem dX6_narrowest_50 : decode cX6_narrowest 50 = .ok (.istore 4, 2) := by decide +kernel
theorem dX6_narrowest_52 : decode cX6_narrowest 52 = .ok (.iconst 0, 1) := by decide +kernel
theorem dX6_narrowest_53 : decode cX6_narrowest 53 = .ok (.istore 6, 2) := by decide +kernel
theorem dX6_narrowest_55 : decode cX6_narrowest 55 = .ok (.iload 6, 2) := by decide +kernel
theorem dX6_narrowest_57 : decode cX6_narrowest 57 = .ok (.aload_n 3, 1) := by decide +kernel
theorem dX6_narrowest_58 : decode cX6_narrowest 58 = .ok (.getfield 58, 3) := by decide +kernel
theorem dX6_narrowest_61 : decode cX6_narrowest 61 = .ok (.if_icmp .ge 73, 3) := by decide +kernel
theorem dX6_narrowest_64 : decode cX6_narrowest 64 = .ok (.aload_n 0, 1) := by decide +kernel
theorem dX6_narrowest_65 : decode cX6_narrowest 65 = .ok (.getfield 19, 3) := by decide +kernel
theorem dX6_narrowest_68 : decode cX6_narrowest 68 = .ok (.aload_n 3, 1) := by decide +kernel
theorem dX6_narrowest_69 : decode cX6_narrowest 69 = .ok (.getfield 34, 3) := by decide +kernel
theorem dX6_narrowest_72 : decode cX6_narrowest 72 = .ok (.iload 6, 2) := by decide +kernel
theorem dX6_narrowest_74 : decode cX6_narrowest 74 = .ok (.iaload, 1) := by decide +kernel
theorem dX6_narrowest_75 : decode cX6_narrowest 75 = .ok (.laload, 1) := by decide +kernel
theorem dX6_narrowest_76 : decode cX6_narrowest 76 = .ok (.lstore 7, 2) := by decide +kernel
theorem dX6_narrowest_78 : decode cX6_narrowest 78 = .ok (.aload_n 3, 1) := by decide +kernel
theorem dX6_narrowest_79 : decode cX6_narrowest 79 = .ok (.iload 6, 2) := by decide +kernel
theorem dX6_narrowest_81 : decode cX6_narrowest 81 = .ok (.invokevirtual 90, 3) := by decide +kernel
theorem dX6_narrowest_84 : decode cX6_narrowest 84 = .ok (.ifCond .eq 44, 3) := by decide +kernel
theorem dX6_narrowest_87 : decode cX6_narrowest 87 = .ok (.lload 7, 2) := by decide +kernel
theorem dX6_narrowest_89 : decode cX6_narrowest 89 = .ok (.ldc2_w 115, 3) := by decide +kernel
theorem dX6_narrowest_92 : decode cX6_narrowest 92 = .ok (.lcmp, 1) := by decide +kernel
theorem dX6_narrowest_93 : decode cX6_narrowest 93 = .ok (.ifCond .eq 35, 3) := by decide +kernel
theorem dX6_narrowest_96 : decode cX6_narrowest 96 = .ok (.iload 4, 2) := by decide +kernel
theorem dX6_narrowest_98 : decode cX6_narrowest 98 = .ok (.aload_n 0, 1) := by decide +kernel
theorem dX6_narrowest_99 : decode cX6_narrowest 99 = .ok (.getfield 19, 3) := by decide +kernel
theorem dX6_narrowest_102 : decode cX6_narrowest 102 = .ok (.aload_n 3, 1) := by decide +kernel
theorem dX6_narrowest_103 : decode cX6_narrowest 103 = .ok (.getfield 65, 3) := by decide +kernel
theorem dX6_narrowest_106 : decode cX6_narrowest 106 = .ok (.iload 6, 2) := by decide +kernel
theorem dX6_narrowest_108 : decode cX6_narrowest 108 = .ok (.iaload, 1) := by decide +kernel
theorem dX6_narrowest_109 : decode cX6_narrowest 109 = .ok (.lload 7, 2) := by decide +kernel
theorem dX6_narrowest_111 : decode cX6_narrowest 111 = .ok (.aload_n 3, 1) := by decide +kernel
theorem dX6_narrowest_112 : decode cX6_narrowest 112 = .ok (.getfield 93, 3) := by decide +kernel
theorem dX6_narrowest_115 : decode cX6_narrowest 115 = .ok (.iload 6, 2) := by decide +kernel
theorem dX6_narrowest_117 : decode cX6_narrowest 117 = .ok (.iaload, 1) := by decide +kernel
theorem dX6_narrowest_118 : decode cX6_narrowest 118 = .ok (.i2l, 1) := by decide +kernel
theorem dX6_narrowest_119 : decode cX6_narrowest 119 = .ok (.invokestatic 117, 3) := by decide +kernel
theorem dX6_narrowest_122 : decode cX6_narrowest 122 = .ok (.invokestatic 109, 3) := by decide +kernel
theorem dX6_narrowest_125 : decode cX6_narrowest 125 = .ok (.ior, 1) := by decide +kernel
theorem dX6_narrowest_126 : decode cX6_narrowest 126 = .ok (.istore 4, 2) := by decide +kernel
theorem dX6_narrowest_128 : decode cX6_narrowest 128 = .ok (.iinc 6 1, 3) := by decide +kernel
theorem dX6_narrowest_131 : decode cX6_narrowest 131 = .ok (.goto (-76), 3) := by decide +kernel
theorem dX6_narrowest_134 : decode cX6_narrowest 134 = .ok (.iinc 5 1, 3) := by decide +kernel
theorem dX6_narrowest_137 : decode cX6_narrowest 137 = .ok (.goto (-102), 3) := by decide +kernel
theorem dX6_narrowest_140 : decode cX6_narrowest 140 = .ok (.iload_n 2, 1) := by decide +kernel
theorem dX6_narrowest_141 : decode cX6_narrowest 141 = .ok (.aload_n 1, 1) := by decide +kernel
theorem dX6_narrowest_142 : decode cX6_narrowest 142 = .ok (.getfield 51, 3) := by decide +kernel
theorem dX6_narrowest_145 : decode cX6_narrowest 145 = .ok (.if_icmp .ne 9, 3) := by decide +kernel
theorem dX6_narrowest_148 : decode cX6_narrowest 148 = .ok (.ldc2_w 115, 3) := by decide +kernel
theorem dX6_narrowest_151 : decode cX6_narrowest 151 = .ok (.goto 9, 3) := by decide +kernel
theorem dX6_narrowest_154 : decode cX6_narrowest 154 = .ok (.aload_n 0, 1) := by decide +kernel
theorem dX6_narrowest_155 : decode cX6_narrowest 155 = .ok (.getfield 19, 3) := by decide +kernel
theorem dX6_narrowest_158 : decode cX6_narrowest 158 = .ok (.iload_n 2, 1) := by decide +kernel
theorem dX6_narrowest_159 : decode cX6_narrowest 159 = .ok (.laload, 1) := by decide +kernel
theorem dX6_narrowest_160 : decode cX6_narrowest 160 = .ok (.lreturn, 1) := by decide +kernel
theorem dX6_twoApart_0 : decode cX6_twoApart 0 = .ok (.aload_n 1, 1) := by decide +kernel
theorem dX6_twoApart_1 : decode cX6_twoApart 1 = .ok (.getfield 30, 3) := by decide +kernel
theorem dX6_twoApart_4 : decode cX6_twoApart 4 = .ok (.astore_n 3, 1) := by decide +kernel
theorem dX6_twoApart_5 : decode cX6_twoApart 5 = .ok (.lconst 0, 1) := by decide +kernel
theorem dX6_twoApart_6 : decode cX6_twoApart 6 = .ok (.lstore 4, 2) := by decide +kernel
theorem dX6_twoApart_8 : decode cX6_twoApart 8 = .ok (.aload_n 0, 1) := by decide +kernel
theorem dX6_twoApart_9 : decode cX6_twoApart 9 = .ok (.aload_n 1, 1) := by decide +kernel
theorem dX6_twoApart_10 : decode cX6_twoApart 10 = .ok (.iload_n 2, 1) := by decide +kernel
theorem dX6_twoApart_11 : decode cX6_twoApart 11 = .ok (.invokevirtual 120, 3) := by decide +kernel
theorem dX6_twoApart_14 : decode cX6_twoApart 14 = .ok (.istore 6, 2) := by decide +kernel
theorem dX6_twoApart_16 : decode cX6_twoApart 16 = .ok (.iconst 0, 1) := by decide +kernel
theorem dX6_twoApart_17 : decode cX6_twoApart 17 = .ok (.istore 7, 2) := by decide +kernel
theorem dX6_twoApart_19 : decode cX6_twoApart 19 = .ok (.iload 7, 2) := by decide +kernel
theorem dX6_twoApart_21 : decode cX6_twoApart 21 = .ok (.iload 6, 2) := by decide +kernel
theorem dX6_twoApart_23 : decode cX6_twoApart 23 = .ok (.if_icmp .ge 23, 3) := by decide +kernel
theorem dX6_twoApart_26 : decode cX6_twoApart 26 = .ok (.lload 4, 2) := by decide +kernel
theorem dX6_twoApart_28 : decode cX6_twoApart 28 = .ok (.lconst 1, 1) := by decide +kernel
theorem dX6_twoApart_29 : decode cX6_twoApart 29 = .ok (.aload_n 0, 1) := by decide +kernel
theorem dX6_twoApart_30 : decode cX6_twoApart 30 = .ok (.getfield 15, 3) := by decide +kernel
theorem dX6_twoApart_33 : decode cX6_twoApart 33 = .ok (.iload 7, 2) := by decide +kernel
theorem dX6_twoApart_35 : decode cX6_twoApart 35 = .ok (.iaload, 1) := by decide +kernel
theorem dX6_twoApart_36 : decode cX6_twoApart 36 = .ok (.lshl, 1) := by decide +kernel
theorem dX6_twoApart_37 : decode cX6_twoApart 37 = .ok (.lor, 1) := by decide +kernel
theorem dX6_twoApart_38 : decode cX6_twoApart 38 = .ok (.lstore 4, 2) := by decide +kernel
theorem dX6_twoApart_40 : decode cX6_twoApart 40 = .ok (.iinc 7 1, 3) := by decide +kernel
theorem dX6_twoApart_43 : decode cX6_twoApart 43 = .ok (.goto (-24), 3) := by decide +kernel
theorem dX6_twoApart_46 : decode cX6_twoApart 46 = .ok (.aload_n 3, 1) := by decide +kernel
theorem dX6_twoApart_47 : decode cX6_twoApart 47 = .ok (.aload_n 1, 1) := by decide +kernel
theorem dX6_twoApart_48 : decode cX6_twoApart 48 = .ok (.getfield 51, 3) := by decide +kernel
theorem dX6_twoApart_51 : decode cX6_twoApart 51 = .ok (.aload_n 0, 1) := by decide +kernel
theorem dX6_twoApart_52 : decode cX6_twoApart 52 = .ok (.getfield 19, 3) := by decide +kernel
theorem dX6_twoApart_55 : decode cX6_twoApart 55 = .ok (.invokevirtual 79, 3) := by decide +kernel
theorem dX6_twoApart_58 : decode cX6_twoApart 58 = .ok (.iconst 1, 1) := by decide +kernel
theorem dX6_twoApart_59 : decode cX6_twoApart 59 = .ok (.istore 7, 2) := by decide +kernel
theorem dX6_twoApart_61 : decode cX6_twoApart 61 = .ok (.iconst 0, 1) := by decide +kernel
theorem dX6_twoApart_62 : decode cX6_twoApart 62 = .ok (.istore 8, 2) := by decide +kernel
theorem dX6_twoApart_64 : decode cX6_twoApart 64 = .ok (.iload 8, 2) := by decide +kernel
theorem dX6_twoApart_66 : decode cX6_twoApart 66 = .ok (.aload_n 3, 1) := by decide +kernel
theorem dX6_twoApart_67 : decode cX6_twoApart 67 = .ok (.getfield 55, 3) := by decide +kernel
theorem dX6_twoApart_70 : decode cX6_twoApart 70 = .ok (.if_icmp .ge 23, 3) := by decide +kernel
theorem dX6_twoApart_73 : decode cX6_twoApart 73 = .ok (.iload 7, 2) := by decide +kernel
theorem dX6_twoApart_75 : decode cX6_twoApart 75 = .ok (.ifCond .eq 18, 3) := by decide +kernel
theorem dX6_twoApart_78 : decode cX6_twoApart 78 = .ok (.aload_n 0, 1) := by decide +kernel
theorem dX6_twoApart_79 : decode cX6_twoApart 79 = .ok (.aload_n 3, 1) := by decide +kernel
theorem dX6_twoApart_80 : decode cX6_twoApart 80 = .ok (.lload 4, 2) := by decide +kernel
theorem dX6_twoApart_82 : decode cX6_twoApart 82 = .ok (.invokevirtual 124, 3) := by decide +kernel
theorem dX6_twoApart_85 : decode cX6_twoApart 85 = .ok (.istore 7, 2) := by decide +kernel
theorem dX6_twoApart_87 : decode cX6_twoApart 87 = .ok (.iinc 8 1, 3) := by decide +kernel
theorem dX6_twoApart_90 : decode cX6_twoApart 90 = .ok (.goto (-26), 3) := by decide +kernel
theorem dX6_twoApart_93 : decode cX6_twoApart 93 = .ok (.aload_n 1, 1) := by decide +kernel
theorem dX6_twoApart_94 : decode cX6_twoApart 94 = .ok (.getfield 87, 3) := by decide +kernel
theorem dX6_twoApart_97 : decode cX6_twoApart 97 = .ok (.iload_n 2, 1) := by decide +kernel
theorem dX6_twoApart_98 : decode cX6_twoApart 98 = .ok (.laload, 1) := by decide +kernel
theorem dX6_twoApart_99 : decode cX6_twoApart 99 = .ok (.aload_n 0, 1) := by decide +kernel
theorem dX6_twoApart_100 : decode cX6_twoApart 100 = .ok (.getfield 19, 3) := by decide +kernel
theorem dX6_twoApart_103 : decode cX6_twoApart 103 = .ok (.iload_n 2, 1) := by decide +kernel
theorem dX6_twoApart_104 : decode cX6_twoApart 104 = .ok (.laload, 1) := by decide +kernel
theorem dX6_twoApart_105 : decode cX6_twoApart 105 = .ok (.invokestatic 106, 3) := by decide +kernel
theorem dX6_twoApart_108 : decode cX6_twoApart 108 = .ok (.lreturn, 1) := by decide +kernel
theorem dX6_stepApart_0 : decode cX6_stepApart 0 = .ok (.iconst 0, 1) := by decide +kernel
theorem dX6_stepApart_1 : decode cX6_stepApart 1 = .ok (.istore 4, 2) := by decide +kernel
theorem dX6_stepApart_3 : decode cX6_stepApart 3 = .ok (.iconst 0, 1) := by decide +kernel
theorem dX6_stepApart_4 : decode cX6_stepApart 4 = .ok (.istore 5, 2) := by decide +kernel
theorem dX6_stepApart_6 : decode cX6_stepApart 6 = .ok (.iload 5, 2) := by decide +kernel
theorem dX6_stepApart_8 : decode cX6_stepApart 8 = .ok (.aload_n 1, 1) := by decide +kernel
theorem dX6_stepApart_9 : decode cX6_stepApart 9 = .ok (.getfield 58, 3) := by decide +kernel
theorem dX6_stepApart_12 : decode cX6_stepApart 12 = .ok (.if_icmp .ge 120, 3) := by decide +kernel
theorem dX6_stepApart_15 : decode cX6_stepApart 15 = .ok (.aload_n 1, 1) := by decide +kernel
theorem dX6_stepApart_16 : decode cX6_stepApart 16 = .ok (.iload 5, 2) := by decide +kernel
theorem dX6_stepApart_18 : decode cX6_stepApart 18 = .ok (.invokevirtual 90, 3) := by decide +kernel
theorem dX6_stepApart_21 : decode cX6_stepApart 21 = .ok (.ifCond .ne 6, 3) := by decide +kernel
theorem dX6_stepApart_24 : decode cX6_stepApart 24 = .ok (.goto 102, 3) := by decide +kernel
theorem dX6_stepApart_27 : decode cX6_stepApart 27 = .ok (.lload_n 2, 1) := by decide +kernel
theorem dX6_stepApart_28 : decode cX6_stepApart 28 = .ok (.iload 5, 2) := by decide +kernel
theorem dX6_stepApart_30 : decode cX6_stepApart 30 = .ok (.lshr, 1) := by decide +kernel
theorem dX6_stepApart_31 : decode cX6_stepApart 31 = .ok (.lconst 1, 1) := by decide +kernel
theorem dX6_stepApart_32 : decode cX6_stepApart 32 = .ok (.land, 1) := by decide +kernel
theorem dX6_stepApart_33 : decode cX6_stepApart 33 = .ok (.lconst 0, 1) := by decide +kernel
theorem dX6_stepApart_34 : decode cX6_stepApart 34 = .ok (.lcmp, 1) := by decide +kernel
theorem dX6_stepApart_35 : decode cX6_stepApart 35 = .ok (.ifCond .eq 49, 3) := by decide +kernel
theorem dX6_stepApart_38 : decode cX6_stepApart 38 = .ok (.iload 4, 2) := by decide +kernel
theorem dX6_stepApart_40 : decode cX6_stepApart 40 = .ok (.aload_n 0, 1) := by decide +kernel
theorem dX6_stepApart_41 : decode cX6_stepApart 41 = .ok (.getfield 19, 3) := by decide +kernel
theorem dX6_stepApart_44 : decode cX6_stepApart 44 = .ok (.aload_n 1, 1) := by decide +kernel
theorem dX6_stepApart_45 : decode cX6_stepApart 45 = .ok (.getfield 34, 3) := by decide +kernel
theorem dX6_stepApart_48 : decode cX6_stepApart 48 = .ok (.iload 5, 2) := by decide +kernel
theorem dX6_stepApart_50 : decode cX6_stepApart 50 = .ok (.iaload, 1) := by decide +kernel
theorem dX6_stepApart_51 : decode cX6_stepApart 51 = .ok (.aload_n 0, 1) := by decide +kernel
theorem dX6_stepApart_52 : decode cX6_stepApart 52 = .ok (.getfield 19, 3) := by decide +kernel
theorem dX6_stepApart_55 : decode cX6_stepApart 55 = .ok (.aload_n 1, 1) := by decide +kernel
theorem dX6_stepApart_56 : decode cX6_stepApart 56 = .ok (.getfield 65, 3) := by decide +kernel
theorem dX6_stepApart_59 : decode cX6_stepApart 59 = .ok (.iload 5, 2) := by decide +kernel
theorem dX6_stepApart_61 : decode cX6_stepApart 61 = .ok (.iaload, 1) := by decide +kernel
theorem dX6_stepApart_62 : decode cX6_stepApart 62 = .ok (.laload, 1) := by decide +kernel
theorem dX6_stepApart_63 : decode cX6_stepApart 63 = .ok (.aload_n 1, 1) := by decide +kernel
theorem dX6_stepApart_64 : decode cX6_stepApart 64 = .ok (.getfield 93, 3) := by decide +kernel
theorem dX6_stepApart_67 : decode cX6_stepApart 67 = .ok (.iload 5, 2) := by decide +kernel
theorem dX6_stepApart_69 : decode cX6_stepApart 69 = .ok (.iaload, 1) := by decide +kernel
theorem dX6_stepApart_70 : decode cX6_stepApart 70 = .ok (.ineg, 1) := by decide +kernel
theorem dX6_stepApart_71 : decode cX6_stepApart 71 = .ok (.i2l, 1) := by decide +kernel
theorem dX6_stepApart_72 : decode cX6_stepApart 72 = .ok (.invokestatic 106, 3) := by decide +kernel
theorem dX6_stepApart_75 : decode cX6_stepApart 75 = .ok (.invokestatic 109, 3) := by decide +kernel
theorem dX6_stepApart_78 : decode cX6_stepApart 78 = .ok (.ior, 1) := by decide +kernel
theorem dX6_stepApart_79 : decode cX6_stepApart 79 = .ok (.istore 4, 2) := by decide +kernel
theorem dX6_stepApart_81 : decode cX6_stepApart 81 = .ok (.goto 45, 3) := by decide +kernel
theorem dX6_stepApart_84 : decode cX6_stepApart 84 = .ok (.iload 4, 2) := by decide +kernel
theorem dX6_stepApart_86 : decode cX6_stepApart 86 = .ok (.aload_n 0, 1) := by decide +kernel
theorem dX6_stepApart_87 : decode cX6_stepApart 87 = .ok (.getfield 19, 3) := by decide +kernel
theorem dX6_stepApart_90 : decode cX6_stepApart 90 = .ok (.aload_n 1, 1) := by decide +kernel
theorem dX6_stepApart_91 : decode cX6_stepApart 91 = .ok (.getfield 65, 3) := by decide +kernel
theorem dX6_stepApart_94 : decode cX6_stepApart 94 = .ok (.iload 5, 2) := by decide +kernel
theorem dX6_stepApart_96 : decode cX6_stepApart 96 = .ok (.iaload, 1) := by decide +kernel
theorem dX6_stepApart_97 : decode cX6_stepApart 97 = .ok (.aload_n 0, 1) := by decide +kernel
theorem dX6_stepApart_98 : decode cX6_stepApart 98 = .ok (.getfield 19, 3) := by decide +kernel
theorem dX6_stepApart_101 : decode cX6_stepApart 101 = .ok (.aload_n 1, 1) := by decide +kernel
theorem dX6_stepApart_102 : decode cX6_stepApart 102 = .ok (.getfield 34, 3) := by decide +kernel
theorem dX6_stepApart_105 : decode cX6_stepApart 105 = .ok (.iload 5, 2) := by decide +kernel
theorem dX6_stepApart_107 : decode cX6_stepApart 107 = .ok (.iaload, 1) := by decide +kernel
theorem dX6_stepApart_108 : decode cX6_stepApart 108 = .ok (.laload, 1) := by decide +kernel
theorem dX6_stepApart_109 : decode cX6_stepApart 109 = .ok (.aload_n 1, 1) := by decide +kernel
theorem dX6_stepApart_110 : decode cX6_stepApart 110 = .ok (.getfield 93, 3) := by decide +kernel
theorem dX6_stepApart_113 : decode cX6_stepApart 113 = .ok (.iload 5, 2) := by decide +kernel
theorem dX6_stepApart_115 : decode cX6_stepApart 115 = .ok (.iaload, 1) := by decide +kernel
theorem dX6_stepApart_116 : decode cX6_stepApart 116 = .ok (.i2l, 1) := by decide +kernel
theorem dX6_stepApart_117 : decode cX6_stepApart 117 = .ok (.invokestatic 106, 3) := by decide +kernel
theorem dX6_stepApart_120 : decode cX6_stepApart 120 = .ok (.invokestatic 109, 3) := by decide +kernel
theorem dX6_stepApart_123 : decode cX6_stepApart 123 = .ok (.ior, 1) := by decide +kernel
theorem dX6_stepApart_124 : decode cX6_stepApart 124 = .ok (.istore 4, 2) := by decide +kernel
theorem dX6_stepApart_126 : decode cX6_stepApart 126 = .ok (.iinc 5 1, 3) := by decide +kernel
theorem dX6_stepApart_129 : decode cX6_stepApart 129 = .ok (.goto (-123), 3) := by decide +kernel
theorem dX6_stepApart_132 : decode cX6_stepApart 132 = .ok (.iload 4, 2) := by decide +kernel
theorem dX6_stepApart_134 : decode cX6_stepApart 134 = .ok (.ireturn, 1) := by decide +kernel
theorem dX6_findLeastMean_0 : decode cX6_findLeastMean 0 = .ok (.aload_n 0, 1) := by decide +kernel
theorem dX6_findLeastMean_1 : decode cX6_findLeastMean 1 = .ok (.lconst 0, 1) := by decide +kernel
theorem dX6_findLeastMean_2 : decode cX6_findLeastMean 2 = .ok (.putfield 128, 3) := by decide +kernel
theorem dX6_findLeastMean_5 : decode cX6_findLeastMean 5 = .ok (.iconst 0, 1) := by decide +kernel
theorem dX6_findLeastMean_6 : decode cX6_findLeastMean 6 = .ok (.istore_n 2, 1) := by decide +kernel
theorem dX6_findLeastMean_7 : decode cX6_findLeastMean 7 = .ok (.iload_n 2, 1) := by decide +kernel
theorem dX6_findLeastMean_8 : decode cX6_findLeastMean 8 = .ok (.aload_n 1, 1) := by decide +kernel
theorem dX6_findLeastMean_9 : decode cX6_findLeastMean 9 = .ok (.getfield 55, 3) := by decide +kernel
theorem dX6_findLeastMean_12 : decode cX6_findLeastMean 12 = .ok (.if_icmp .ge 72, 3) := by decide +kernel
theorem dX6_findLeastMean_15 : decode cX6_findLeastMean 15 = .ok (.aload_n 1, 1) := by decide +kernel
theorem dX6_findLeastMean_16 : decode cX6_findLeastMean 16 = .ok (.iload_n 2, 1) := by decide +kernel
theorem dX6_findLeastMean_17 : decode cX6_findLeastMean 17 = .ok (.aload_n 0, 1) := by decide +kernel
theorem dX6_findLeastMean_18 : decode cX6_findLeastMean 18 = .ok (.getfield 19, 3) := by decide +kernel
theorem dX6_findLeastMean_21 : decode cX6_findLeastMean 21 = .ok (.invokevirtual 79, 3) := by decide +kernel
theorem dX6_findLeastMean_24 : decode cX6_findLeastMean 24 = .ok (.iconst 1, 1) := by decide +kernel
theorem dX6_findLeastMean_25 : decode cX6_findLeastMean 25 = .ok (.istore_n 3, 1) := by decide +kernel
theorem dX6_findLeastMean_26 : decode cX6_findLeastMean 26 = .ok (.iload_n 3, 1) := by decide +kernel
theorem dX6_findLeastMean_27 : decode cX6_findLeastMean 27 = .ok (.aload_n 1, 1) := by decide +kernel
theorem dX6_findLeastMean_28 : decode cX6_findLeastMean 28 = .ok (.getfield 55, 3) := by decide +kernel
theorem dX6_findLeastMean_31 : decode cX6_findLeastMean 31 = .ok (.if_icmp .gt 47, 3) := by decide +kernel
theorem dX6_findLeastMean_34 : decode cX6_findLeastMean 34 = .ok (.aload_n 0, 1) := by decide +kernel
theorem dX6_findLeastMean_35 : decode cX6_findLeastMean 35 = .ok (.getfield 22, 3) := by decide +kernel
theorem dX6_findLeastMean_38 : decode cX6_findLeastMean 38 = .ok (.ldc2_w 115, 3) := by decide +kernel
theorem dX6_findLeastMean_41 : decode cX6_findLeastMean 41 = .ok (.invokestatic 45, 3) := by decide +kernel
theorem dX6_findLeastMean_44 : decode cX6_findLeastMean 44 = .ok (.aload_n 1, 1) := by decide +kernel
theorem dX6_findLeastMean_45 : decode cX6_findLeastMean 45 = .ok (.aload_n 0, 1) := by decide +kernel
theorem dX6_findLeastMean_46 : decode cX6_findLeastMean 46 = .ok (.getfield 19, 3) := by decide +kernel
theorem dX6_findLeastMean_49 : decode cX6_findLeastMean 49 = .ok (.aload_n 0, 1) := by decide +kernel
theorem dX6_findLeastMean_50 : decode cX6_findLeastMean 50 = .ok (.getfield 22, 3) := by decide +kernel
theorem dX6_findLeastMean_53 : decode cX6_findLeastMean 53 = .ok (.invokevirtual 83, 3) := by decide +kernel
theorem dX6_findLeastMean_56 : decode cX6_findLeastMean 56 = .ok (.pop, 1) := by decide +kernel
theorem dX6_findLeastMean_57 : decode cX6_findLeastMean 57 = .ok (.aload_n 0, 1) := by decide +kernel
theorem dX6_findLeastMean_58 : decode cX6_findLeastMean 58 = .ok (.invokevirtual 76, 3) := by decide +kernel
theorem dX6_findLeastMean_61 : decode cX6_findLeastMean 61 = .ok (.aload_n 0, 1) := by decide +kernel
theorem dX6_findLeastMean_62 : decode cX6_findLeastMean 62 = .ok (.aload_n 0, 1) := by decide +kernel
theorem dX6_findLeastMean_63 : decode cX6_findLeastMean 63 = .ok (.getfield 19, 3) := by decide +kernel
theorem dX6_findLeastMean_66 : decode cX6_findLeastMean 66 = .ok (.iload_n 2, 1) := by decide +kernel
theorem dX6_findLeastMean_67 : decode cX6_findLeastMean 67 = .ok (.laload, 1) := by decide +kernel
theorem dX6_findLeastMean_68 : decode cX6_findLeastMean 68 = .ok (.iload_n 3, 1) := by decide +kernel
theorem dX6_findLeastMean_69 : decode cX6_findLeastMean 69 = .ok (.invokevirtual 132, 3) := by decide +kernel
theorem dX6_findLeastMean_72 : decode cX6_findLeastMean 72 = .ok (.iinc 3 1, 3) := by decide +kernel
theorem dX6_findLeastMean_75 : decode cX6_findLeastMean 75 = .ok (.goto (-49), 3) := by decide +kernel
theorem dX6_findLeastMean_78 : decode cX6_findLeastMean 78 = .ok (.iinc 2 1, 3) := by decide +kernel
theorem dX6_findLeastMean_81 : decode cX6_findLeastMean 81 = .ok (.goto (-74), 3) := by decide +kernel
theorem dX6_findLeastMean_84 : decode cX6_findLeastMean 84 = .ok (.aload_n 0, 1) := by decide +kernel
theorem dX6_findLeastMean_85 : decode cX6_findLeastMean 85 = .ok (.getfield 128, 3) := by decide +kernel
theorem dX6_findLeastMean_88 : decode cX6_findLeastMean 88 = .ok (.lconst 0, 1) := by decide +kernel
theorem dX6_findLeastMean_89 : decode cX6_findLeastMean 89 = .ok (.lcmp, 1) := by decide +kernel
theorem dX6_findLeastMean_90 : decode cX6_findLeastMean 90 = .ok (.ifCond .ne 5, 3) := by decide +kernel
theorem dX6_findLeastMean_93 : decode cX6_findLeastMean 93 = .ok (.iconst 0, 1) := by decide +kernel
theorem dX6_findLeastMean_94 : decode cX6_findLeastMean 94 = .ok (.ireturn, 1) := by decide +kernel
theorem dX6_findLeastMean_95 : decode cX6_findLeastMean 95 = .ok (.aload_n 0, 1) := by decide +kernel
theorem dX6_findLeastMean_96 : decode cX6_findLeastMean 96 = .ok (.getfield 136, 3) := by decide +kernel
theorem dX6_findLeastMean_99 : decode cX6_findLeastMean 99 = .ok (.aload_n 0, 1) := by decide +kernel
theorem dX6_findLeastMean_100 : decode cX6_findLeastMean 100 = .ok (.getfield 128, 3) := by decide +kernel
theorem dX6_findLeastMean_103 : decode cX6_findLeastMean 103 = .ok (.invokestatic 139, 3) := by decide +kernel
theorem dX6_findLeastMean_106 : decode cX6_findLeastMean 106 = .ok (.lstore_n 2, 1) := by decide +kernel
theorem dX6_findLeastMean_107 : decode cX6_findLeastMean 107 = .ok (.aload_n 0, 1) := by decide +kernel
theorem dX6_findLeastMean_108 : decode cX6_findLeastMean 108 = .ok (.dup, 1) := by decide +kernel
theorem dX6_findLeastMean_109 : decode cX6_findLeastMean 109 = .ok (.getfield 136, 3) := by decide +kernel
theorem dX6_findLeastMean_112 : decode cX6_findLeastMean 112 = .ok (.lload_n 2, 1) := by decide +kernel
theorem dX6_findLeastMean_113 : decode cX6_findLeastMean 113 = .ok (.ldiv, 1) := by decide +kernel
theorem dX6_findLeastMean_114 : decode cX6_findLeastMean 114 = .ok (.putfield 136, 3) := by decide +kernel
theorem dX6_findLeastMean_117 : decode cX6_findLeastMean 117 = .ok (.aload_n 0, 1) := by decide +kernel
theorem dX6_findLeastMean_118 : decode cX6_findLeastMean 118 = .ok (.dup, 1) := by decide +kernel
theorem dX6_findLeastMean_119 : decode cX6_findLeastMean 119 = .ok (.getfield 128, 3) := by decide +kernel
theorem dX6_findLeastMean_122 : decode cX6_findLeastMean 122 = .ok (.lload_n 2, 1) := by decide +kernel
theorem dX6_findLeastMean_123 : decode cX6_findLeastMean 123 = .ok (.ldiv, 1) := by decide +kernel
theorem dX6_findLeastMean_124 : decode cX6_findLeastMean 124 = .ok (.putfield 128, 3) := by decide +kernel
theorem dX6_findLeastMean_127 : decode cX6_findLeastMean 127 = .ok (.iconst 1, 1) := by decide +kernel
theorem dX6_findLeastMean_128 : decode cX6_findLeastMean 128 = .ok (.ireturn, 1) := by decide +kernel
theorem dX6_takeMean_0 : decode cX6_takeMean 0 = .ok (.lload_n 1, 1) := by decide +kernel
theorem dX6_takeMean_1 : decode cX6_takeMean 1 = .ok (.ldc2_w 115, 3) := by decide +kernel
theorem dX6_takeMean_4 : decode cX6_takeMean 4 = .ok (.lcmp, 1) := by decide +kernel
theorem dX6_takeMean_5 : decode cX6_takeMean 5 = .ok (.ifCond .eq 40, 3) := by decide +kernel
theorem dX6_takeMean_8 : decode cX6_takeMean 8 = .ok (.aload_n 0, 1) := by decide +kernel
theorem dX6_takeMean_9 : decode cX6_takeMean 9 = .ok (.getfield 128, 3) := by decide +kernel
theorem dX6_takeMean_12 : decode cX6_takeMean 12 = .ok (.lconst 0, 1) := by decide +kernel
theorem dX6_takeMean_13 : decode cX6_takeMean 13 = .ok (.lcmp, 1) := by decide +kernel
theorem dX6_takeMean_14 : decode cX6_takeMean 14 = .ok (.ifCond .eq 20, 3) := by decide +kernel
theorem dX6_takeMean_17 : decode cX6_takeMean 17 = .ok (.lload_n 1, 1) := by decide +kernel
theorem dX6_takeMean_18 : decode cX6_takeMean 18 = .ok (.aload_n 0, 1) := by decide +kernel
theorem dX6_takeMean_19 : decode cX6_takeMean 19 = .ok (.getfield 128, 3) := by decide +kernel
theorem dX6_takeMean_22 : decode cX6_takeMean 22 = .ok (.lmul, 1) := by decide +kernel
theorem dX6_takeMean_23 : decode cX6_takeMean 23 = .ok (.aload_n 0, 1) := by decide +kernel
theorem dX6_takeMean_24 : decode cX6_takeMean 24 = .ok (.getfield 136, 3) := by decide +kernel
theorem dX6_takeMean_27 : decode cX6_takeMean 27 = .ok (.iload_n 3, 1) := by decide +kernel
theorem dX6_takeMean_28 : decode cX6_takeMean 28 = .ok (.i2l, 1) := by decide +kernel
theorem dX6_takeMean_29 : decode cX6_takeMean 29 = .ok (.lmul, 1) := by decide +kernel
theorem dX6_takeMean_30 : decode cX6_takeMean 30 = .ok (.lcmp, 1) := by decide +kernel
theorem dX6_takeMean_31 : decode cX6_takeMean 31 = .ok (.ifCond .ge 14, 3) := by decide +kernel
theorem dX6_takeMean_34 : decode cX6_takeMean 34 = .ok (.aload_n 0, 1) := by decide +kernel
theorem dX6_takeMean_35 : decode cX6_takeMean 35 = .ok (.lload_n 1, 1) := by decide +kernel
theorem dX6_takeMean_36 : decode cX6_takeMean 36 = .ok (.putfield 136, 3) := by decide +kernel
theorem dX6_takeMean_39 : decode cX6_takeMean 39 = .ok (.aload_n 0, 1) := by decide +kernel
theorem dX6_takeMean_40 : decode cX6_takeMean 40 = .ok (.iload_n 3, 1) := by decide +kernel
theorem dX6_takeMean_41 : decode cX6_takeMean 41 = .ok (.i2l, 1) := by decide +kernel
theorem dX6_takeMean_42 : decode cX6_takeMean 42 = .ok (.putfield 128, 3) := by decide +kernel
theorem dX6_takeMean_45 : decode cX6_takeMean 45 = .ok (.return_, 1) := by decide +kernel
theorem dX6_commonDivisor_0 : decode cX6_commonDivisor 0 = .ok (.lload_n 0, 1) := by decide +kernel
theorem dX6_commonDivisor_1 : decode cX6_commonDivisor 1 = .ok (.invokestatic 142, 3) := by decide +kernel
theorem dX6_commonDivisor_4 : decode cX6_commonDivisor 4 = .ok (.lstore 4, 2) := by decide +kernel
theorem dX6_commonDivisor_6 : decode cX6_commonDivisor 6 = .ok (.lload_n 2, 1) := by decide +kernel
theorem dX6_commonDivisor_7 : decode cX6_commonDivisor 7 = .ok (.invokestatic 142, 3) := by decide +kernel
theorem dX6_commonDivisor_10 : decode cX6_commonDivisor 10 = .ok (.lstore 6, 2) := by decide +kernel
theorem dX6_commonDivisor_12 : decode cX6_commonDivisor 12 = .ok (.iconst 0, 1) := by decide +kernel
theorem dX6_commonDivisor_13 : decode cX6_commonDivisor 13 = .ok (.istore 8, 2) := by decide +kernel
theorem dX6_commonDivisor_15 : decode cX6_commonDivisor 15 = .ok (.iload 8, 2) := by decide +kernel
theorem dX6_commonDivisor_17 : decode cX6_commonDivisor 17 = .ok (.sipush 200, 3) := by decide +kernel
theorem dX6_commonDivisor_20 : decode cX6_commonDivisor 20 = .ok (.if_icmp .ge 31, 3) := by decide +kernel
theorem dX6_commonDivisor_23 : decode cX6_commonDivisor 23 = .ok (.lload 6, 2) := by decide +kernel
theorem dX6_commonDivisor_25 : decode cX6_commonDivisor 25 = .ok (.lconst 0, 1) := by decide +kernel
theorem dX6_commonDivisor_26 : decode cX6_commonDivisor 26 = .ok (.lcmp, 1) := by decide +kernel
theorem dX6_commonDivisor_27 : decode cX6_commonDivisor 27 = .ok (.ifCond .eq 24, 3) := by decide +kernel
theorem dX6_commonDivisor_30 : decode cX6_commonDivisor 30 = .ok (.lload 4, 2) := by decide +kernel
theorem dX6_commonDivisor_32 : decode cX6_commonDivisor 32 = .ok (.lload 6, 2) := by decide +kernel
theorem dX6_commonDivisor_34 : decode cX6_commonDivisor 34 = .ok (.lrem, 1) := by decide +kernel
theorem dX6_commonDivisor_35 : decode cX6_commonDivisor 35 = .ok (.lstore 9, 2) := by decide +kernel
theorem dX6_commonDivisor_37 : decode cX6_commonDivisor 37 = .ok (.lload 6, 2) := by decide +kernel
theorem dX6_commonDivisor_39 : decode cX6_commonDivisor 39 = .ok (.lstore 4, 2) := by decide +kernel
theorem dX6_commonDivisor_41 : decode cX6_commonDivisor 41 = .ok (.lload 9, 2) := by decide +kernel
theorem dX6_commonDivisor_43 : decode cX6_commonDivisor 43 = .ok (.lstore 6, 2) := by decide +kernel
theorem dX6_commonDivisor_45 : decode cX6_commonDivisor 45 = .ok (.iinc 8 1, 3) := by decide +kernel
theorem dX6_commonDivisor_48 : decode cX6_commonDivisor 48 = .ok (.goto (-33), 3) := by decide +kernel
theorem dX6_commonDivisor_51 : decode cX6_commonDivisor 51 = .ok (.lconst 1, 1) := by decide +kernel
theorem dX6_commonDivisor_52 : decode cX6_commonDivisor 52 = .ok (.lload 4, 2) := by decide +kernel
theorem dX6_commonDivisor_54 : decode cX6_commonDivisor 54 = .ok (.invokestatic 117, 3) := by decide +kernel
theorem dX6_commonDivisor_57 : decode cX6_commonDivisor 57 = .ok (.lreturn, 1) := by decide +kernel
theorem dX7_init_0 : decode cX7_init 0 = .ok (.aload_n 0, 1) := by decide +kernel
theorem dX7_init_1 : decode cX7_init 1 = .ok (.invokespecial 3, 3) := by decide +kernel
theorem dX7_init_4 : decode cX7_init 4 = .ok (.aload_n 0, 1) := by decide +kernel
theorem dX7_init_5 : decode cX7_init 5 = .ok (.new 9, 3) := by decide +kernel
theorem dX7_init_8 : decode cX7_init 8 = .ok (.dup, 1) := by decide +kernel
theorem dX7_init_9 : decode cX7_init 9 = .ok (.invokespecial 11, 3) := by decide +kernel
theorem dX7_init_12 : decode cX7_init 12 = .ok (.putfield 12, 3) := by decide +kernel
theorem dX7_init_15 : decode cX7_init 15 = .ok (.aload_n 0, 1) := by decide +kernel
theorem dX7_init_16 : decode cX7_init 16 = .ok (.new 18, 3) := by decide +kernel
theorem dX7_init_19 : decode cX7_init 19 = .ok (.dup, 1) := by decide +kernel
theorem dX7_init_20 : decode cX7_init 20 = .ok (.invokespecial 20, 3) := by decide +kernel
theorem dX7_init_23 : decode cX7_init 23 = .ok (.putfield 21, 3) := by decide +kernel
theorem dX7_init_26 : decode cX7_init 26 = .ok (.aload_n 0, 1) := by decide +kernel
theorem dX7_init_27 : decode cX7_init 27 = .ok (.iconst 1, 1) := by decide +kernel
theorem dX7_init_28 : decode cX7_init 28 = .ok (.putfield 25, 3) := by decide +kernel
theorem dX7_init_31 : decode cX7_init 31 = .ok (.aload_n 0, 1) := by decide +kernel
theorem dX7_init_32 : decode cX7_init 32 = .ok (.bipush 12, 2) := by decide +kernel
theorem dX7_init_34 : decode cX7_init 34 = .ok (.newarray .int, 2) := by decide +kernel
theorem dX7_init_36 : decode cX7_init 36 = .ok (.putfield 29, 3) := by decide +kernel
theorem dX7_init_39 : decode cX7_init 39 = .ok (.aload_n 0, 1) := by decide +kernel
theorem dX7_init_40 : decode cX7_init 40 = .ok (.bipush 12, 2) := by decide +kernel
theorem dX7_init_42 : decode cX7_init 42 = .ok (.newarray .int, 2) := by decide +kernel
theorem dX7_init_44 : decode cX7_init 44 = .ok (.putfield 33, 3) := by decide +kernel
theorem dX7_init_47 : decode cX7_init 47 = .ok (.aload_n 0, 1) := by decide +kernel
theorem dX7_init_48 : decode cX7_init 48 = .ok (.bipush 12, 2) := by decide +kernel
theorem dX7_init_50 : decode cX7_init 50 = .ok (.newarray .long, 2) := by decide +kernel
theorem dX7_init_52 : decode cX7_init 52 = .ok (.putfield 36, 3) := by decide +kernel
theorem dX7_init_55 : decode cX7_init 55 = .ok (.aload_n 0, 1) := by decide +kernel
theorem dX7_init_56 : decode cX7_init 56 = .ok (.bipush 12, 2) := by decide +kernel
theorem dX7_init_58 : decode cX7_init 58 = .ok (.newarray .int, 2) := by decide +kernel
theorem dX7_init_60 : decode cX7_init 60 = .ok (.putfield 40, 3) := by decide +kernel
theorem dX7_init_63 : decode cX7_init 63 = .ok (.aload_n 0, 1) := by decide +kernel
theorem dX7_init_64 : decode cX7_init 64 = .ok (.getfield 12, 3) := by decide +kernel
theorem dX7_init_67 : decode cX7_init 67 = .ok (.iconst 0, 1) := by decide +kernel
theorem dX7_init_68 : decode cX7_init 68 = .ok (.iconst (-1), 1) := by decide +kernel
theorem dX7_init_69 : decode cX7_init 69 = .ok (.aload_n 0, 1) := by decide +kernel
theorem dX7_init_70 : decode cX7_init 70 = .ok (.getfield 36, 3) := by decide +kernel
theorem dX7_init_73 : decode cX7_init 73 = .ok (.invokevirtual 43, 3) := by decide +kernel
theorem dX7_init_76 : decode cX7_init 76 = .ok (.aload_n 0, 1) := by decide +kernel
theorem dX7_init_77 : decode cX7_init 77 = .ok (.invokevirtual 47, 3) := by decide +kernel
theorem dX7_init_80 : decode cX7_init 80 = .ok (.return_, 1) := by decide +kernel
theorem dX7_copyFrom_0 : decode cX7_copyFrom 0 = .ok (.aload_n 0, 1) := by decide +kernel
theorem dX7_copyFrom_1 : decode cX7_copyFrom 1 = .ok (.getfield 12, 3) := by decide +kernel
theorem dX7_copyFrom_4 : decode cX7_copyFrom 4 = .ok (.aload_n 1, 1) := by decide +kernel
theorem dX7_copyFrom_5 : decode cX7_copyFrom 5 = .ok (.getfield 12, 3) := by decide +kernel
theorem dX7_copyFrom_8 : decode cX7_copyFrom 8 = .ok (.invokevirtual 50, 3) := by decide +kernel
theorem dX7_copyFrom_11 : decode cX7_copyFrom 11 = .ok (.aload_n 0, 1) := by decide +kernel
theorem dX7_copyFrom_12 : decode cX7_copyFrom 12 = .ok (.getfield 21, 3) := by decide +kernel
theorem dX7_copyFrom_15 : decode cX7_copyFrom 15 = .ok (.aload_n 1, 1) := by decide +kernel
theorem dX7_copyFrom_16 : decode cX7_copyFrom 16 = .ok (.getfield 21, 3) := by decide +kernel
theorem dX7_copyFrom_19 : decode cX7_copyFrom 19 = .ok (.invokevirtual 54, 3) := by decide +kernel
theorem dX7_copyFrom_22 : decode cX7_copyFrom 22 = .ok (.aload_n 0, 1) := by decide +kernel
theorem dX7_copyFrom_23 : decode cX7_copyFrom 23 = .ok (.aload_n 1, 1) := by decide +kernel
theorem dX7_copyFrom_24 : decode cX7_copyFrom 24 = .ok (.getfield 57, 3) := by decide +kernel
theorem dX7_copyFrom_27 : decode cX7_copyFrom 27 = .ok (.putfield 57, 3) := by decide +kernel
theorem dX7_copyFrom_30 : decode cX7_copyFrom 30 = .ok (.aload_n 0, 1) := by decide +kernel
theorem dX7_copyFrom_31 : decode cX7_copyFrom 31 = .ok (.aload_n 1, 1) := by decide +kernel
theorem dX7_copyFrom_32 : decode cX7_copyFrom 32 = .ok (.getfield 60, 3) := by decide +kernel
theorem dX7_copyFrom_35 : decode cX7_copyFrom 35 = .ok (.putfield 60, 3) := by decide +kernel
theorem dX7_copyFrom_38 : decode cX7_copyFrom 38 = .ok (.aload_n 0, 1) := by decide +kernel
theorem dX7_copyFrom_39 : decode cX7_copyFrom 39 = .ok (.aload_n 1, 1) := by decide +kernel
theorem dX7_copyFrom_40 : decode cX7_copyFrom 40 = .ok (.getfield 25, 3) := by decide +kernel
theorem dX7_copyFrom_43 : decode cX7_copyFrom 43 = .ok (.putfield 25, 3) := by decide +kernel
theorem dX7_copyFrom_46 : decode cX7_copyFrom 46 = .ok (.aload_n 0, 1) := by decide +kernel
theorem dX7_copyFrom_47 : decode cX7_copyFrom 47 = .ok (.aload_n 1, 1) := by decide +kernel
theorem dX7_copyFrom_48 : decode cX7_copyFrom 48 = .ok (.getfield 63, 3) := by decide +kernel
theorem dX7_copyFrom_51 : decode cX7_copyFrom 51 = .ok (.putfield 63, 3) := by decide +kernel
theorem dX7_copyFrom_54 : decode cX7_copyFrom 54 = .ok (.aload_n 0, 1) := by decide +kernel
theorem dX7_copyFrom_55 : decode cX7_copyFrom 55 = .ok (.aload_n 1, 1) := by decide +kernel
theorem dX7_copyFrom_56 : decode cX7_copyFrom 56 = .ok (.getfield 66, 3) := by decide +kernel
theorem dX7_copyFrom_59 : decode cX7_copyFrom 59 = .ok (.putfield 66, 3) := by decide +kernel
theorem dX7_copyFrom_62 : decode cX7_copyFrom 62 = .ok (.aload_n 1, 1) := by decide +kernel
theorem dX7_copyFrom_63 : decode cX7_copyFrom 63 = .ok (.getfield 29, 3) := by decide +kernel
theorem dX7_copyFrom_66 : decode cX7_copyFrom 66 = .ok (.iconst 0, 1) := by decide +kernel
theorem dX7_copyFrom_67 : decode cX7_copyFrom 67 = .ok (.aload_n 0, 1) := by decide +kernel
theorem dX7_copyFrom_68 : decode cX7_copyFrom 68 = .ok (.getfield 29, 3) := by decide +kernel
theorem dX7_copyFrom_71 : decode cX7_copyFrom 71 = .ok (.iconst 0, 1) := by decide +kernel
theorem dX7_copyFrom_72 : decode cX7_copyFrom 72 = .ok (.bipush 12, 2) := by decide +kernel
theorem dX7_copyFrom_74 : decode cX7_copyFrom 74 = .ok (.invokestatic 69, 3) := by decide +kernel
theorem dX7_copyFrom_77 : decode cX7_copyFrom 77 = .ok (.aload_n 1, 1) := by decide +kernel
theorem dX7_copyFrom_78 : decode cX7_copyFrom 78 = .ok (.getfield 33, 3) := by decide +kernel
theorem dX7_copyFrom_81 : decode cX7_copyFrom 81 = .ok (.iconst 0, 1) := by decide +kernel
theorem dX7_copyFrom_82 : decode cX7_copyFrom 82 = .ok (.aload_n 0, 1) := by decide +kernel
theorem dX7_copyFrom_83 : decode cX7_copyFrom 83 = .ok (.getfield 33, 3) := by decide +kernel
theorem dX7_copyFrom_86 : decode cX7_copyFrom 86 = .ok (.iconst 0, 1) := by decide +kernel
theorem dX7_copyFrom_87 : decode cX7_copyFrom 87 = .ok (.bipush 12, 2) := by decide +kernel
theorem dX7_copyFrom_89 : decode cX7_copyFrom 89 = .ok (.invokestatic 69, 3) := by decide +kernel
theorem dX7_copyFrom_92 : decode cX7_copyFrom 92 = .ok (.aload_n 1, 1) := by decide +kernel
theorem dX7_copyFrom_93 : decode cX7_copyFrom 93 = .ok (.getfield 36, 3) := by decide +kernel
theorem dX7_copyFrom_96 : decode cX7_copyFrom 96 = .ok (.iconst 0, 1) := by decide +kernel
theorem dX7_copyFrom_97 : decode cX7_copyFrom 97 = .ok (.aload_n 0, 1) := by decide +kernel
theorem dX7_copyFrom_98 : decode cX7_copyFrom 98 = .ok (.getfield 36, 3) := by decide +kernel
theorem dX7_copyFrom_101 : decode cX7_copyFrom 101 = .ok (.iconst 0, 1) := by decide +kernel
theorem dX7_copyFrom_102 : decode cX7_copyFrom 102 = .ok (.bipush 12, 2) := by decide +kernel
theorem dX7_copyFrom_104 : decode cX7_copyFrom 104 = .ok (.invokestatic 69, 3) := by decide +kernel
theorem dX7_copyFrom_107 : decode cX7_copyFrom 107 = .ok (.aload_n 1, 1) := by decide +kernel
theorem dX7_copyFrom_108 : decode cX7_copyFrom 108 = .ok (.getfield 40, 3) := by decide +kernel
theorem dX7_copyFrom_111 : decode cX7_copyFrom 111 = .ok (.iconst 0, 1) := by decide +kernel
theorem dX7_copyFrom_112 : decode cX7_copyFrom 112 = .ok (.aload_n 0, 1) := by decide +kernel
theorem dX7_copyFrom_113 : decode cX7_copyFrom 113 = .ok (.getfield 40, 3) := by decide +kernel
theorem dX7_copyFrom_116 : decode cX7_copyFrom 116 = .ok (.iconst 0, 1) := by decide +kernel
theorem dX7_copyFrom_117 : decode cX7_copyFrom 117 = .ok (.bipush 12, 2) := by decide +kernel
theorem dX7_copyFrom_119 : decode cX7_copyFrom 119 = .ok (.invokestatic 69, 3) := by decide +kernel
theorem dX7_copyFrom_122 : decode cX7_copyFrom 122 = .ok (.return_, 1) := by decide +kernel
theorem dX7_beginWith_0 : decode cX7_beginWith 0 = .ok (.aload_n 0, 1) := by decide +kernel
theorem dX7_beginWith_1 : decode cX7_beginWith 1 = .ok (.getfield 12, 3) := by decide +kernel
theorem dX7_beginWith_4 : decode cX7_beginWith 4 = .ok (.aload_n 1, 1) := by decide +kernel
theorem dX7_beginWith_5 : decode cX7_beginWith 5 = .ok (.invokevirtual 50, 3) := by decide +kernel
theorem dX7_beginWith_8 : decode cX7_beginWith 8 = .ok (.aload_n 0, 1) := by decide +kernel
theorem dX7_beginWith_9 : decode cX7_beginWith 9 = .ok (.getfield 21, 3) := by decide +kernel
theorem dX7_beginWith_12 : decode cX7_beginWith 12 = .ok (.iconst 0, 1) := by decide +kernel
theorem dX7_beginWith_13 : decode cX7_beginWith 13 = .ok (.putfield 75, 3) := by decide +kernel
theorem dX7_beginWith_16 : decode cX7_beginWith 16 = .ok (.aload_n 0, 1) := by decide +kernel
theorem dX7_beginWith_17 : decode cX7_beginWith 17 = .ok (.iconst 0, 1) := by decide +kernel
theorem dX7_beginWith_18 : decode cX7_beginWith 18 = .ok (.putfield 57, 3) := by decide +kernel
theorem dX7_beginWith_21 : decode cX7_beginWith 21 = .ok (.aload_n 0, 1) := by decide +kernel
theorem dX7_beginWith_22 : decode cX7_beginWith 22 = .ok (.iconst 0, 1) := by decide +kernel
theorem dX7_beginWith_23 : decode cX7_beginWith 23 = .ok (.putfield 60, 3) := by decide +kernel
theorem dX7_beginWith_26 : decode cX7_beginWith 26 = .ok (.aload_n 0, 1) := by decide +kernel
theorem dX7_beginWith_27 : decode cX7_beginWith 27 = .ok (.iconst 0, 1) := by decide +kernel
theorem dX7_beginWith_28 : decode cX7_beginWith 28 = .ok (.putfield 63, 3) := by decide +kernel
theorem dX7_beginWith_31 : decode cX7_beginWith 31 = .ok (.aload_n 0, 1) := by decide +kernel
theorem dX7_beginWith_32 : decode cX7_beginWith 32 = .ok (.iconst 0, 1) := by decide +kernel
theorem dX7_beginWith_33 : decode cX7_beginWith 33 = .ok (.putfield 66, 3) := by decide +kernel
theorem dX7_beginWith_36 : decode cX7_beginWith 36 = .ok (.aload_n 2, 1) := by decide +kernel
theorem dX7_beginWith_37 : decode cX7_beginWith 37 = .ok (.iconst 0, 1) := by decide +kernel
theorem dX7_beginWith_38 : decode cX7_beginWith 38 = .ok (.aload_n 0, 1) := by decide +kernel
theorem dX7_beginWith_39 : decode cX7_beginWith 39 = .ok (.getfield 36, 3) := by decide +kernel
theorem dX7_beginWith_42 : decode cX7_beginWith 42 = .ok (.iconst 0, 1) := by decide +kernel
theorem dX7_beginWith_43 : decode cX7_beginWith 43 = .ok (.bipush 12, 2) := by decide +kernel
theorem dX7_beginWith_45 : decode cX7_beginWith 45 = .ok (.invokestatic 69, 3) := by decide +kernel
theorem dX7_beginWith_48 : decode cX7_beginWith 48 = .ok (.aload_n 0, 1) := by decide +kernel
theorem dX7_beginWith_49 : decode cX7_beginWith 49 = .ok (.invokevirtual 47, 3) := by decide +kernel
theorem dX7_beginWith_52 : decode cX7_beginWith 52 = .ok (.return_, 1) := by decide +kernel
theorem dX7_takeOver_0 : decode cX7_takeOver 0 = .ok (.aload_n 0, 1) := by decide +kernel
theorem dX7_takeOver_1 : decode cX7_takeOver 1 = .ok (.invokevirtual 78, 3) := by decide +kernel
theorem dX7_takeOver_4 : decode cX7_takeOver 4 = .ok (.istore 4, 2) := by decide +kernel
theorem dX7_takeOver_6 : decode cX7_takeOver 6 = .ok (.aload_n 0, 1) := by decide +kernel
theorem dX7_takeOver_7 : decode cX7_takeOver 7 = .ok (.aload_n 3, 1) := by decide +kernel
theorem dX7_takeOver_8 : decode cX7_takeOver 8 = .ok (.invokevirtual 82, 3) := by decide +kernel
theorem dX7_takeOver_11 : decode cX7_takeOver 11 = .ok (.aload_n 0, 1) := by decide +kernel
theorem dX7_takeOver_12 : decode cX7_takeOver 12 = .ok (.getfield 12, 3) := by decide +kernel
theorem dX7_takeOver_15 : decode cX7_takeOver 15 = .ok (.aload_n 1, 1) := by decide +kernel
theorem dX7_takeOver_16 : decode cX7_takeOver 16 = .ok (.invokevirtual 50, 3) := by decide +kernel
theorem dX7_takeOver_19 : decode cX7_takeOver 19 = .ok (.aload_n 0, 1) := by decide +kernel
theorem dX7_takeOver_20 : decode cX7_takeOver 20 = .ok (.iload_n 2, 1) := by decide +kernel
theorem dX7_takeOver_21 : decode cX7_takeOver 21 = .ok (.putfield 57, 3) := by decide +kernel
theorem dX7_takeOver_24 : decode cX7_takeOver 24 = .ok (.aload_n 3, 1) := by decide +kernel
theorem dX7_takeOver_25 : decode cX7_takeOver 25 = .ok (.iconst 0, 1) := by decide +kernel
theorem dX7_takeOver_26 : decode cX7_takeOver 26 = .ok (.aload_n 0, 1) := by decide +kernel
theorem dX7_takeOver_27 : decode cX7_takeOver 27 = .ok (.getfield 36, 3) := by decide +kernel
theorem dX7_takeOver_30 : decode cX7_takeOver 30 = .ok (.iconst 0, 1) := by decide +kernel
theorem dX7_takeOver_31 : decode cX7_takeOver 31 = .ok (.bipush 12, 2) := by decide +kernel
theorem dX7_takeOver_33 : decode cX7_takeOver 33 = .ok (.invokestatic 69, 3) := by decide +kernel
theorem dX7_takeOver_36 : decode cX7_takeOver 36 = .ok (.aload_n 0, 1) := by decide +kernel
theorem dX7_takeOver_37 : decode cX7_takeOver 37 = .ok (.invokevirtual 47, 3) := by decide +kernel
theorem dX7_takeOver_40 : decode cX7_takeOver 40 = .ok (.aload_n 0, 1) := by decide +kernel
theorem dX7_takeOver_41 : decode cX7_takeOver 41 = .ok (.dup, 1) := by decide +kernel
theorem dX7_takeOver_42 : decode cX7_takeOver 42 = .ok (.getfield 60, 3) := by decide +kernel
theorem dX7_takeOver_45 : decode cX7_takeOver 45 = .ok (.iconst 1, 1) := by decide +kernel
theorem dX7_takeOver_46 : decode cX7_takeOver 46 = .ok (.iadd, 1) := by decide +kernel
theorem dX7_takeOver_47 : decode cX7_takeOver 47 = .ok (.putfield 60, 3) := by decide +kernel
theorem dX7_takeOver_50 : decode cX7_takeOver 50 = .ok (.aload_n 0, 1) := by decide +kernel
theorem dX7_takeOver_51 : decode cX7_takeOver 51 = .ok (.iload 4, 2) := by decide +kernel
theorem dX7_takeOver_53 : decode cX7_takeOver 53 = .ok (.aload_n 0, 1) := by decide +kernel
theorem dX7_takeOver_54 : decode cX7_takeOver 54 = .ok (.invokevirtual 78, 3) := by decide +kernel
theorem dX7_takeOver_57 : decode cX7_takeOver 57 = .ok (.ixor, 1) := by decide +kernel
theorem dX7_takeOver_58 : decode cX7_takeOver 58 = .ok (.invokevirtual 86, 3) := by decide +kernel
theorem dX7_takeOver_61 : decode cX7_takeOver 61 = .ok (.return_, 1) := by decide +kernel
theorem dX7_markTouched_0 : decode cX7_markTouched 0 = .ok (.aload_n 0, 1) := by decide +kernel
theorem dX7_markTouched_1 : decode cX7_markTouched 1 = .ok (.iconst 0, 1) := by decide +kernel
theorem dX7_markTouched_2 : decode cX7_markTouched 2 = .ok (.putfield 66, 3) := by decide +kernel
theorem dX7_markTouched_5 : decode cX7_markTouched 5 = .ok (.iconst 0, 1) := by decide +kernel
theorem dX7_markTouched_6 : decode cX7_markTouched 6 = .ok (.istore_n 2, 1) := by decide +kernel
theorem dX7_markTouched_7 : decode cX7_markTouched 7 = .ok (.iload_n 2, 1) := by decide +kernel
theorem dX7_markTouched_8 : decode cX7_markTouched 8 = .ok (.aload_n 0, 1) := by decide +kernel
theorem dX7_markTouched_9 : decode cX7_markTouched 9 = .ok (.getfield 12, 3) := by decide +kernel
theorem dX7_markTouched_12 : decode cX7_markTouched 12 = .ok (.getfield 90, 3) := by decide +kernel
theorem dX7_markTouched_15 : decode cX7_markTouched 15 = .ok (.if_icmp .ge 28, 3) := by decide +kernel
theorem dX7_markTouched_18 : decode cX7_markTouched 18 = .ok (.aload_n 0, 1) := by decide +kernel
theorem dX7_markTouched_19 : decode cX7_markTouched 19 = .ok (.getfield 36, 3) := by decide +kernel
theorem dX7_markTouched_22 : decode cX7_markTouched 22 = .ok (.iload_n 2, 1) := by decide +kernel
theorem dX7_markTouched_23 : decode cX7_markTouched 23 = .ok (.laload, 1) := by decide +kernel
theorem dX7_markTouched_24 : decode cX7_markTouched 24 = .ok (.aload_n 1, 1) := by decide +kernel
theorem dX7_markTouched_25 : decode cX7_markTouched 25 = .ok (.iload_n 2, 1) := by decide +kernel
theorem dX7_markTouched_26 : decode cX7_markTouched 26 = .ok (.laload, 1) := by decide +kernel
theorem dX7_markTouched_27 : decode cX7_markTouched 27 = .ok (.lcmp, 1) := by decide +kernel
theorem dX7_markTouched_28 : decode cX7_markTouched 28 = .ok (.ifCond .eq 9, 3) := by decide +kernel
theorem dX7_markTouched_31 : decode cX7_markTouched 31 = .ok (.aload_n 0, 1) := by decide +kernel
theorem dX7_markTouched_32 : decode cX7_markTouched 32 = .ok (.iload_n 2, 1) := by decide +kernel
theorem dX7_markTouched_33 : decode cX7_markTouched 33 = .ok (.aload_n 1, 1) := by decide +kernel
theorem dX7_markTouched_34 : decode cX7_markTouched 34 = .ok (.invokevirtual 93, 3) := by decide +kernel
theorem dX7_markTouched_37 : decode cX7_markTouched 37 = .ok (.iinc 2 1, 3) := by decide +kernel
theorem dX7_markTouched_40 : decode cX7_markTouched 40 = .ok (.goto (-33), 3) := by decide +kernel
theorem dX7_markTouched_43 : decode cX7_markTouched 43 = .ok (.return_, 1) := by decide +kernel
theorem dX7_putTouched_0 : decode cX7_putTouched 0 = .ok (.aload_n 0, 1) := by decide +kernel
theorem dX7_putTouched_1 : decode cX7_putTouched 1 = .ok (.getfield 66, 3) := by decide +kernel
theorem dX7_putTouched_4 : decode cX7_putTouched 4 = .ok (.istore_n 3, 1) := by decide +kernel
theorem dX7_putTouched_5 : decode cX7_putTouched 5 = .ok (.iload_n 3, 1) := by decide +kernel
theorem dX7_putTouched_6 : decode cX7_putTouched 6 = .ok (.ifCond .le 42, 3) := by decide +kernel
theorem dX7_putTouched_9 : decode cX7_putTouched 9 = .ok (.aload_n 2, 1) := by decide +kernel
theorem dX7_putTouched_10 : decode cX7_putTouched 10 = .ok (.iload_n 1, 1) := by decide +kernel
theorem dX7_putTouched_11 : decode cX7_putTouched 11 = .ok (.laload, 1) := by decide +kernel
theorem dX7_putTouched_12 : decode cX7_putTouched 12 = .ok (.aload_n 2, 1) := by decide +kernel
theorem dX7_putTouched_13 : decode cX7_putTouched 13 = .ok (.aload_n 0, 1) := by decide +kernel
theorem dX7_putTouched_14 : decode cX7_putTouched 14 = .ok (.getfield 33, 3) := by decide +kernel
theorem dX7_putTouched_17 : decode cX7_putTouched 17 = .ok (.iload_n 3, 1) := by decide +kernel
theorem dX7_putTouched_18 : decode cX7_putTouched 18 = .ok (.iconst 1, 1) := by decide +kernel
theorem dX7_putTouched_19 : decode cX7_putTouched 19 = .ok (.isub, 1) := by decide +kernel
theorem dX7_putTouched_20 : decode cX7_putTouched 20 = .ok (.iaload, 1) := by decide +kernel
