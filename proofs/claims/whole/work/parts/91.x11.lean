/-! The class, method by method: the machine does what f says (g). -/
set_option maxHeartbeats 4000000 in
set_option maxRecDepth 100000 in
theorem lX6_findLeastMean_7 {E : kw_E} {d : Nat} (v2 : Int32) (σ : kw_M) {v : Option Value} {σ2 : kw_M} {o : (Int32 × kw_M) ⊕ (kw_M)} (h : bX6_findLeastMean_7 v2 σ = some o) (hk : Sum.elim (fun s => kw_G E kwTX 48 (d + 3) μX6_findLeastMean 7 [(0, .ref 6), (1, .ref 12), (2, .int s.1)] [] s.2 v σ2) (fun y => kw_G E kwTX 48 (d + 3) μX6_findLeastMean 84 [(0, .ref 6)] [] y v σ2) o) : kw_G E kwTX 48 (d + 3) μX6_findLeastMean 7 [(0, .ref 6), (1, .ref 12), (2, .int v2)] [] σ v σ2 := by
  unfold bX6_findLeastMean_7 at h
  refine kg_iload_n 2 dX6_findLeastMean_7 rfl (pc2 := 8) rfl ?_
  refine kg_aload_n 1 dX6_findLeastMean_8 rfl (pc2 := 9) rfl ?_
  refine kg_geti clX4 rfl 0 (Nat.le_of_ble_eq_true rfl) lfRX6_55 tX_12 eX_12 rfl dX6_findLeastMean_9 (pc2 := 12) rfl ?_
  refine kg_icmp_ge 84 dX6_findLeastMean_12 rfl (pc2 := 15) rfl (fun q2 => ?_) (fun q2 => ?_)
  · replace h := (if_pos q2).symm.trans h
    refine kg_sub [0] (lv2 := [(0, .ref 6)]) rfl ?_
    cases h
    exact hk
  · replace h := (if_neg q2).symm.trans h
    refine kg_aload_n 1 dX6_findLeastMean_15 rfl (pc2 := 16) rfl ?_
    refine kg_iload_n 2 dX6_findLeastMean_16 rfl (pc2 := 17) rfl ?_
    refine kg_aload_n 0 dX6_findLeastMean_17 rfl (pc2 := 18) rfl ?_
    refine kg_getr clX6 rfl 4 (Nat.le_of_ble_eq_true rfl) lfRX6_19 tX_6 eX_6 rfl dX6_findLeastMean_18 (pc2 := 21) rfl ?_
    obtain ⟨r3, r3h, h⟩ := kw_bind_e h
    refine kg_callV (μ := μX6_findLeastMean) (d := (d + 2)) rfl mVX4_beginRow [.int v2, .ref 43] [] (gX4_beginRow (E := E) (d := (d + 1)) 43 ⟨tX_43, eX_43⟩ v2 σ r3h) rfl lmRX6_79 (ci := 4) rfl tX_12 eX_12 rfl (Nat.le_of_ble_eq_true rfl) dX6_findLeastMean_21 rfl (st2 := []) rfl (pc2 := 24) rfl ?_
    refine kg_iconst dX6_findLeastMean_24 ki_1 (pc2 := 25) rfl ?_
    refine kg_istore_n dX6_findLeastMean_25 rfl (Nat.le_of_ble_eq_true rfl) rfl (lv2 := [(3, .int (1 : Int32)), (0, .ref 6), (1, .ref 12), (2, .int v2)]) rfl (pc2 := 26) rfl ?_
    refine kg_sub [1, 2, 3, 0] (lv2 := [(0, .ref 6), (1, .ref 12), (2, .int v2), (3, .int (1 : Int32))]) rfl ?_
    obtain ⟨x11, x11h, h⟩ := kw_bind_e h
    refine kw_loop_e (P := fun s => kw_G E kwTX 48 (d + 3) μX6_findLeastMean 26 [(0, .ref 6), (1, .ref 12), (2, .int v2), (3, .int s.1)] [] s.2 v σ2) (K := fun y => kw_G E kwTX 48 (d + 3) μX6_findLeastMean 78 [(0, .ref 6), (1, .ref 12), (2, .int v2)] [] y v σ2) (fun s o h0 hk => lX6_findLeastMean_26 v2 s.1 s.2 h0 hk) kw_F _ _ x11h ?_
    show kw_G E kwTX 48 (d + 3) μX6_findLeastMean 78 [(0, .ref 6), (1, .ref 12), (2, .int v2)] [] x11 v σ2
    obtain ⟨x12, x12e, h⟩ := kw_let_e h
    refine kg_iinc 2 dX6_findLeastMean_78 rfl (Nat.le_of_ble_eq_true rfl) x12e (lv2 := [(2, .int x12), (0, .ref 6), (1, .ref 12)]) rfl (pc2 := 81) rfl ?_
    refine kg_goto 7 dX6_findLeastMean_81 rfl ?_
    refine kg_sub [1, 2, 0] (lv2 := [(0, .ref 6), (1, .ref 12), (2, .int x12)]) rfl ?_
    cases h
    exact hk
set_option maxHeartbeats 4000000 in
set_option maxRecDepth 100000 in
theorem gX6_findLeastMean {E : kw_E} {d : Nat} (σ : kw_M) {r : Int32 × kw_M} (h : fX6_findLeastMean σ = some r) : kw_Met E kwTX 48 (d + 3) μX6_findLeastMean [.ref 6, .ref 12] σ (some (Value.int r.1)) r.2 := by
  refine kw_enter plRX6 (Nat.le_of_ble_eq_true rfl) ?_
  show kw_G E kwTX 48 (d + 3) μX6_findLeastMean 0 [(0, .ref 6), (1, .ref 12)] [] σ (some (Value.int r.1)) r.2
  unfold fX6_findLeastMean at h
  refine kg_aload_n 0 dX6_findLeastMean_0 rfl (pc2 := 1) rfl ?_
  refine kg_lconst dX6_findLeastMean_1 kl_0 (pc2 := 2) rfl ?_
  obtain ⟨s1, s1e, h⟩ := kw_let_e h
  refine kg_putl clX6 rfl 3 (Nat.le_of_ble_eq_true rfl) lfRX6_128 rfl tX_6 eX_6 rfl (ty := .long) (by decide +kernel) rfl rfl s1e dX6_findLeastMean_2 (pc2 := 5) rfl ?_
  refine kg_iconst dX6_findLeastMean_5 ki_0 (pc2 := 6) rfl ?_
  refine kg_istore_n dX6_findLeastMean_6 rfl (Nat.le_of_ble_eq_true rfl) rfl (lv2 := [(2, .int (0 : Int32)), (0, .ref 6), (1, .ref 12)]) rfl (pc2 := 7) rfl ?_
  refine kg_sub [1, 2, 0] (lv2 := [(0, .ref 6), (1, .ref 12), (2, .int (0 : Int32))]) rfl ?_
  obtain ⟨x13, x13h, h⟩ := kw_bind_e h
  refine kw_loop_e (P := fun s => kw_G E kwTX 48 (d + 3) μX6_findLeastMean 7 [(0, .ref 6), (1, .ref 12), (2, .int s.1)] [] s.2 (some (Value.int r.1)) r.2) (K := fun y => kw_G E kwTX 48 (d + 3) μX6_findLeastMean 84 [(0, .ref 6)] [] y (some (Value.int r.1)) r.2) (fun s o h0 hk => lX6_findLeastMean_7 s.1 s.2 h0 hk) kw_F _ _ x13h ?_
  show kw_G E kwTX 48 (d + 3) μX6_findLeastMean 84 [(0, .ref 6)] [] x13 (some (Value.int r.1)) r.2
  refine kg_aload_n 0 dX6_findLeastMean_84 rfl (pc2 := 85) rfl ?_
  refine kg_getl clX6 rfl 3 (Nat.le_of_ble_eq_true rfl) lfRX6_128 tX_6 eX_6 rfl dX6_findLeastMean_85 (pc2 := 88) rfl ?_
  refine kg_lconst dX6_findLeastMean_88 kl_0 (pc2 := 89) rfl ?_
  refine kg_lcmp_ne 95 dX6_findLeastMean_89 dX6_findLeastMean_90 rfl (pc2 := 93) rfl (fun q14 => ?_) (fun q14 => ?_)
  · replace h := (if_neg q14).symm.trans h
    refine kg_aload_n 0 dX6_findLeastMean_95 rfl (pc2 := 96) rfl ?_
    refine kg_getl clX6 rfl 2 (Nat.le_of_ble_eq_true rfl) lfRX6_136 tX_6 eX_6 rfl dX6_findLeastMean_96 (pc2 := 99) rfl ?_
    refine kg_aload_n 0 dX6_findLeastMean_99 rfl (pc2 := 100) rfl ?_
    refine kg_getl clX6 rfl 3 (Nat.le_of_ble_eq_true rfl) lfRX6_128 tX_6 eX_6 rfl dX6_findLeastMean_100 (pc2 := 103) rfl ?_
    obtain ⟨r15, r15h, h⟩ := kw_bind_e h
    refine kg_callS (μ := μX6_findLeastMean) (d := (d + 2)) rfl mSX6_commonDivisor [.long (x13.2 6 2), .long (x13.2 6 3)] [] (gX6_commonDivisor (E := E) (d := (d + 1)) (x13.2 6 2) (x13.2 6 3) x13 r15h) rfl lmRX6_139 rfl (Nat.le_of_ble_eq_true rfl) dX6_findLeastMean_103 rfl (st2 := [.long r15]) rfl (pc2 := 106) rfl ?_
    refine kg_lstore_n dX6_findLeastMean_106 rfl (Nat.le_of_ble_eq_true rfl) rfl (lv2 := [(2, .long r15), (0, .ref 6)]) rfl (pc2 := 107) rfl ?_
    refine kg_aload_n 1 dX6_findLeastMean_107 rfl (pc2 := 108) rfl ?_
    refine kg_dup dX6_findLeastMean_108 rfl (pc2 := 109) rfl ?_
    refine kg_getl clX6 rfl 2 (Nat.le_of_ble_eq_true rfl) lfRX6_136 tX_6 eX_6 rfl dX6_findLeastMean_109 (pc2 := 112) rfl ?_
    refine kg_lload_n 0 dX6_findLeastMean_112 rfl (pc2 := 113) rfl ?_
    obtain ⟨q16, h⟩ := kw_chk_e h
    refine kg_ldiv dX6_findLeastMean_113 q16 (pc2 := 114) rfl ?_
    obtain ⟨s17, s17e, h⟩ := kw_let_e h
    refine kg_putl clX6 rfl 2 (Nat.le_of_ble_eq_true rfl) lfRX6_136 rfl tX_6 eX_6 rfl (ty := .long) (by decide +kernel) rfl rfl s17e dX6_findLeastMean_114 (pc2 := 117) rfl ?_
    refine kg_aload_n 1 dX6_findLeastMean_117 rfl (pc2 := 118) rfl ?_
    refine kg_dup dX6_findLeastMean_118 rfl (pc2 := 119) rfl ?_
    refine kg_getl clX6 rfl 3 (Nat.le_of_ble_eq_true rfl) lfRX6_128 tX_6 eX_6 rfl dX6_findLeastMean_119 (pc2 := 122) rfl ?_
    refine kg_lload_n 0 dX6_findLeastMean_122 rfl (pc2 := 123) rfl ?_
    obtain ⟨q18, h⟩ := kw_chk_e h
    refine kg_ldiv dX6_findLeastMean_123 q18 (pc2 := 124) rfl ?_
    obtain ⟨s19, s19e, h⟩ := kw_let_e h
    refine kg_putl clX6 rfl 3 (Nat.le_of_ble_eq_true rfl) lfRX6_128 rfl tX_6 eX_6 rfl (ty := .long) (by decide +kernel) rfl rfl s19e dX6_findLeastMean_124 (pc2 := 127) rfl ?_
    refine kg_iconst dX6_findLeastMean_127 ki_1 (pc2 := 128) rfl ?_
    cases h
    exact kg_iret (ty := .boolean) dX6_findLeastMean_128 rfl rfl
  · replace h := (if_pos q14).symm.trans h
    refine kg_iconst dX6_findLeastMean_93 ki_0 (pc2 := 94) rfl ?_
    cases h
    exact kg_iret (ty := .boolean) dX6_findLeastMean_94 rfl rfl
set_option maxHeartbeats 4000000 in
set_option maxRecDepth 100000 in
theorem gX9_mean {E : kw_E} {d : Nat} (a1 : Int32) (σ : kw_M) {r : Int64 × kw_M} (h : fX9_mean a1 σ = some r) : kw_Met E kwTX 48 (d + 4) μX9_mean [.ref 0, .int a1] σ (some (Value.long r.1)) r.2 := by
  refine kw_enter plRX9 (Nat.le_of_ble_eq_true rfl) ?_
  show kw_G E kwTX 48 (d + 4) μX9_mean 0 [(0, .ref 0), (1, .int a1)] [] σ (some (Value.long r.1)) r.2
  unfold fX9_mean at h
  refine kg_iload_n 1 dX9_mean_0 rfl (pc2 := 1) rfl ?_
  refine kg_if_lt 26 dX9_mean_1 rfl (pc2 := 4) rfl (fun q1 => ?_) (fun q1 => ?_)
  · replace h := (if_pos q1).symm.trans h
    refine kg_ldc2 rfl lcRX9_261 dX9_mean_26 (pc2 := 29) rfl ?_
    cases h
    exact kg_lret dX9_mean_29 rfl
  · replace h := (if_neg q1).symm.trans h
    refine kg_iload_n 1 dX9_mean_4 rfl (pc2 := 5) rfl ?_
    refine kg_iconst dX9_mean_5 ki_1 (pc2 := 6) rfl ?_
    refine kg_icmp_gt 26 dX9_mean_6 rfl (pc2 := 9) rfl (fun q2 => ?_) (fun q2 => ?_)
    · replace h := (if_pos q2).symm.trans h
      refine kg_ldc2 rfl lcRX9_261 dX9_mean_26 (pc2 := 29) rfl ?_
      cases h
      exact kg_lret dX9_mean_29 rfl
    · replace h := (if_neg q2).symm.trans h
      refine kg_aload_n 0 dX9_mean_9 rfl (pc2 := 10) rfl ?_
      refine kg_getr clX9 rfl 6 (Nat.le_of_ble_eq_true rfl) lfRX9_43 tX_0 eX_0 rfl dX9_mean_10 (pc2 := 13) rfl ?_
      refine kg_aload_n 0 dX9_mean_13 rfl (pc2 := 14) rfl ?_
      refine kg_getr clX9 rfl 0 (Nat.le_of_ble_eq_true rfl) lfRX9_10 tX_0 eX_0 rfl dX9_mean_14 (pc2 := 17) rfl ?_
      refine kg_getr clX7 rfl 0 (Nat.le_of_ble_eq_true rfl) lfRX9_148 tX_1 eX_1 rfl dX9_mean_17 (pc2 := 20) rfl ?_
      obtain ⟨r3, r3h, h⟩ := kw_bind_e h
      refine kg_callV (μ := μX9_mean) (d := (d + 3)) rfl mVX6_findLeastMean [.ref 12] [] (gX6_findLeastMean (E := E) (d := d) σ r3h) rfl lmRX9_403 (ci := 6) rfl tX_6 eX_6 rfl (Nat.le_of_ble_eq_true rfl) dX9_mean_20 rfl (st2 := [.int r3.1]) rfl (pc2 := 23) rfl ?_
      refine kg_if_ne 30 dX9_mean_23 rfl (pc2 := 26) rfl (fun q4 => ?_) (fun q4 => ?_)
      · replace h := (if_neg q4).symm.trans h
        refine kg_iload_n 1 dX9_mean_30 rfl (pc2 := 31) rfl ?_
        refine kg_if_ne 44 dX9_mean_31 rfl (pc2 := 34) rfl (fun q5 => ?_) (fun q5 => ?_)
        · replace h := (if_neg q5).symm.trans h
          refine kg_aload_n 0 dX9_mean_44 rfl (pc2 := 45) rfl ?_
          refine kg_getr clX9 rfl 6 (Nat.le_of_ble_eq_true rfl) lfRX9_43 tX_0 eX_0 rfl dX9_mean_45 (pc2 := 48) rfl ?_
          refine kg_getl clX6 rfl 3 (Nat.le_of_ble_eq_true rfl) lfRX9_410 tX_6 eX_6 rfl dX9_mean_48 (pc2 := 51) rfl ?_
          cases h
          exact kg_lret dX9_mean_51 rfl
        · replace h := (if_pos q5).symm.trans h
          refine kg_aload_n 0 dX9_mean_34 rfl (pc2 := 35) rfl ?_
          refine kg_getr clX9 rfl 6 (Nat.le_of_ble_eq_true rfl) lfRX9_43 tX_0 eX_0 rfl dX9_mean_35 (pc2 := 38) rfl ?_
          refine kg_getl clX6 rfl 2 (Nat.le_of_ble_eq_true rfl) lfRX9_407 tX_6 eX_6 rfl dX9_mean_38 (pc2 := 41) rfl ?_
          refine kg_goto 51 dX9_mean_41 rfl ?_
          cases h
          exact kg_lret dX9_mean_51 rfl
      · replace h := (if_pos q4).symm.trans h
        refine kg_ldc2 rfl lcRX9_261 dX9_mean_26 (pc2 := 29) rfl ?_
        cases h
        exact kg_lret dX9_mean_29 rfl
set_option maxHeartbeats 4000000 in
set_option maxRecDepth 100000 in
theorem gXJ6_bitCount_0f7a4 {E : kw_E} {d : Nat} (a0 : Int32) (σ : kw_M) {r : Int32} (h : fXJ6_bitCount_0f7a4 a0 σ = some r) : kw_Met E kwTX 48 d μJ6_bitCount_0f7a4 [.int a0] σ (some (Value.int r)) σ := by
  refine kw_enter plRJ6 (Nat.le_of_ble_eq_true rfl) ?_
  show kw_G E kwTX 48 d μJ6_bitCount_0f7a4 0 [(0, .int a0)] [] σ (some (Value.int r)) σ
  unfold fXJ6_bitCount_0f7a4 at h
  refine kg_iload_n 0 dJ6_bitCount_0f7a4_0 rfl (pc2 := 1) rfl ?_
  refine kg_iload_n 0 dJ6_bitCount_0f7a4_1 rfl (pc2 := 2) rfl ?_
  refine kg_iconst dJ6_bitCount_0f7a4_2 ki_1 (pc2 := 3) rfl ?_
  obtain ⟨x1, x1e, h⟩ := kw_let_e h
  refine kg_iushr dJ6_bitCount_0f7a4_3 x1e (pc2 := 4) rfl ?_
  refine kg_ldcw rfl lcRJ6_265 dJ6_bitCount_0f7a4_4 (pc2 := 7) rfl ?_
  refine kg_iand dJ6_bitCount_0f7a4_7 (pc2 := 8) rfl ?_
  refine kg_isub dJ6_bitCount_0f7a4_8 (pc2 := 9) rfl ?_
  obtain ⟨x2, x2e, h⟩ := kw_let_e h
  refine kg_istore_n dJ6_bitCount_0f7a4_9 rfl (Nat.le_of_ble_eq_true rfl) x2e (lv2 := [(0, .int x2)]) rfl (pc2 := 10) rfl ?_
  refine kg_iload_n 0 dJ6_bitCount_0f7a4_10 rfl (pc2 := 11) rfl ?_
  refine kg_ldcw rfl lcRJ6_266 dJ6_bitCount_0f7a4_11 (pc2 := 14) rfl ?_
  refine kg_iand dJ6_bitCount_0f7a4_14 (pc2 := 15) rfl ?_
  refine kg_iload_n 0 dJ6_bitCount_0f7a4_15 rfl (pc2 := 16) rfl ?_
  refine kg_iconst dJ6_bitCount_0f7a4_16 ki_2 (pc2 := 17) rfl ?_
  obtain ⟨x3, x3e, h⟩ := kw_let_e h
  refine kg_iushr dJ6_bitCount_0f7a4_17 x3e (pc2 := 18) rfl ?_
  refine kg_ldcw rfl lcRJ6_266 dJ6_bitCount_0f7a4_18 (pc2 := 21) rfl ?_
  refine kg_iand dJ6_bitCount_0f7a4_21 (pc2 := 22) rfl ?_
  refine kg_iadd dJ6_bitCount_0f7a4_22 (pc2 := 23) rfl ?_
  obtain ⟨x4, x4e, h⟩ := kw_let_e h
  refine kg_istore_n dJ6_bitCount_0f7a4_23 rfl (Nat.le_of_ble_eq_true rfl) x4e (lv2 := [(0, .int x4)]) rfl (pc2 := 24) rfl ?_
  refine kg_iload_n 0 dJ6_bitCount_0f7a4_24 rfl (pc2 := 25) rfl ?_
  refine kg_iload_n 0 dJ6_bitCount_0f7a4_25 rfl (pc2 := 26) rfl ?_
  refine kg_iconst dJ6_bitCount_0f7a4_26 ki_4 (pc2 := 27) rfl ?_
  obtain ⟨x5, x5e, h⟩ := kw_let_e h
  refine kg_iushr dJ6_bitCount_0f7a4_27 x5e (pc2 := 28) rfl ?_
  refine kg_iadd dJ6_bitCount_0f7a4_28 (pc2 := 29) rfl ?_
  refine kg_ldcw rfl lcRJ6_267 dJ6_bitCount_0f7a4_29 (pc2 := 32) rfl ?_
  refine kg_iand dJ6_bitCount_0f7a4_32 (pc2 := 33) rfl ?_
  obtain ⟨x6, x6e, h⟩ := kw_let_e h
  refine kg_istore_n dJ6_bitCount_0f7a4_33 rfl (Nat.le_of_ble_eq_true rfl) x6e (lv2 := [(0, .int x6)]) rfl (pc2 := 34) rfl ?_
  refine kg_iload_n 0 dJ6_bitCount_0f7a4_34 rfl (pc2 := 35) rfl ?_
  refine kg_iload_n 0 dJ6_bitCount_0f7a4_35 rfl (pc2 := 36) rfl ?_
  refine kg_bipush dJ6_bitCount_0f7a4_36 kb_8 (pc2 := 38) rfl ?_
  obtain ⟨x7, x7e, h⟩ := kw_let_e h
  refine kg_iushr dJ6_bitCount_0f7a4_38 x7e (pc2 := 39) rfl ?_
  refine kg_iadd dJ6_bitCount_0f7a4_39 (pc2 := 40) rfl ?_
  obtain ⟨x8, x8e, h⟩ := kw_let_e h
  refine kg_istore_n dJ6_bitCount_0f7a4_40 rfl (Nat.le_of_ble_eq_true rfl) x8e (lv2 := [(0, .int x8)]) rfl (pc2 := 41) rfl ?_
  refine kg_iload_n 0 dJ6_bitCount_0f7a4_41 rfl (pc2 := 42) rfl ?_
  refine kg_iload_n 0 dJ6_bitCount_0f7a4_42 rfl (pc2 := 43) rfl ?_
  refine kg_bipush dJ6_bitCount_0f7a4_43 kb_16 (pc2 := 45) rfl ?_
  obtain ⟨x9, x9e, h⟩ := kw_let_e h
  refine kg_iushr dJ6_bitCount_0f7a4_45 x9e (pc2 := 46) rfl ?_
  refine kg_iadd dJ6_bitCount_0f7a4_46 (pc2 := 47) rfl ?_
  obtain ⟨x10, x10e, h⟩ := kw_let_e h
  refine kg_istore_n dJ6_bitCount_0f7a4_47 rfl (Nat.le_of_ble_eq_true rfl) x10e (lv2 := [(0, .int x10)]) rfl (pc2 := 48) rfl ?_
  refine kg_iload_n 0 dJ6_bitCount_0f7a4_48 rfl (pc2 := 49) rfl ?_
  refine kg_bipush dJ6_bitCount_0f7a4_49 kb_63 (pc2 := 51) rfl ?_
  refine kg_iand dJ6_bitCount_0f7a4_51 (pc2 := 52) rfl ?_
  cases h
  exact kg_iret (ty := .int) dJ6_bitCount_0f7a4_52 rfl rfl
set_option maxHeartbeats 4000000 in
set_option maxRecDepth 100000 in
theorem lX5_dive_68 {E : kw_E} {d : Nat} (rec : Int32 → Int32 → Int64 → Int32 → kw_M → Option kw_M) (hrec : ∀ (z0 : Int32) (z1 : Int32) (z2 : Int64) (z3 : Int32) (w r : kw_M), rec z0 z1 z2 z3 w = some r → kw_Met E kwTX 48 (d + 1) μX5_dive [.ref 8, .int z0, .int z1, .long z2, .int z3] w none r) (v1 : Int32) (v2 : Int32) (v3 : Int64) (v5 : Int32) (v8 : Int32) (σ : kw_M) {v : Option Value} {σ2 : kw_M} {o : (Int32 × kw_M) ⊕ (kw_M)} (h : bX5_dive_68 rec v1 v2 v3 v5 v8 σ = some o) (hk : Sum.elim (fun s => kw_G E kwTX 48 (d + 2) μX5_dive 68 [(0, .ref 8), (1, .int v1), (2, .int v2), (3, .long v3), (5, .int v5), (8, .int s.1)] [] s.2 v σ2) (fun y => kw_G E kwTX 48 (d + 2) μX5_dive 144 [] [] y v σ2) o) : kw_G E kwTX 48 (d + 2) μX5_dive 68 [(0, .ref 8), (1, .int v1), (2, .int v2), (3, .long v3), (5, .int v5), (8, .int v8)] [] σ v σ2 := by
  unfold bX5_dive_68 at h
  refine kg_iload 5 dX5_dive_68 rfl (pc2 := 70) rfl ?_
  refine kg_aload_n 0 dX5_dive_70 rfl (pc2 := 71) rfl ?_
  refine kg_geti clX5 rfl 4 (Nat.le_of_ble_eq_true rfl) lfRX5_26 tX_8 eX_8 rfl dX5_dive_71 (pc2 := 74) rfl ?_
  refine kg_icmp_ge 144 dX5_dive_74 rfl (pc2 := 77) rfl (fun q7 => ?_) (fun q7 => ?_)
  · replace h := (if_pos q7).symm.trans h
    refine kg_sub [] (lv2 := []) rfl ?_
    cases h
    exact hk
  · replace h := (if_neg q7).symm.trans h
    refine kg_iload_n 2 dX5_dive_77 rfl (pc2 := 78) rfl ?_
    refine kg_iload 5 dX5_dive_78 rfl (pc2 := 80) rfl ?_
    refine kg_ishr dX5_dive_80 (pc2 := 81) rfl ?_
    refine kg_iconst dX5_dive_81 ki_1 (pc2 := 82) rfl ?_
    refine kg_iand dX5_dive_82 (pc2 := 83) rfl ?_
    refine kg_if_eq 138 dX5_dive_83 rfl (pc2 := 86) rfl (fun q8 => ?_) (fun q8 => ?_)
    · replace h := (if_pos q8).symm.trans h
      obtain ⟨x9, x9e, h⟩ := kw_let_e h
      refine kg_iinc 5 dX5_dive_138 rfl (Nat.le_of_ble_eq_true rfl) x9e (lv2 := [(8, .int x9), (0, .ref 8), (1, .int v1), (2, .int v2), (3, .long v3), (5, .int v5)]) rfl (pc2 := 141) rfl ?_
      refine kg_goto 68 dX5_dive_141 rfl ?_
      refine kg_sub [1, 2, 3, 4, 5, 0] (lv2 := [(0, .ref 8), (1, .int v1), (2, .int v2), (3, .long v3), (5, .int v5), (8, .int x9)]) rfl ?_
      cases h
      exact hk
    · replace h := (if_neg q8).symm.trans h
      refine kg_aload_n 0 dX5_dive_86 rfl (pc2 := 87) rfl ?_
      refine kg_getr clX5 rfl 2 (Nat.le_of_ble_eq_true rfl) lfRX5_18 tX_8 eX_8 rfl dX5_dive_87 (pc2 := 90) rfl ?_
      refine kg_iload_n 1 dX5_dive_90 rfl (pc2 := 91) rfl ?_
      refine kg_iload 5 dX5_dive_91 rfl (pc2 := 93) rfl ?_
      obtain ⟨r10, r10h, h⟩ := kw_bind_e h
      refine kg_callV (μ := μX5_dive) (d := (d + 1)) rfl mVX2_comesTo [.int v1, .int v8] [] (gX2_comesTo (E := E) (d := d) v1 v8 σ r10h) rfl lmRX5_59 (ci := 2) rfl tX_5 eX_5 rfl (Nat.le_of_ble_eq_true rfl) dX5_dive_93 rfl (st2 := [.int r10]) rfl (pc2 := 96) rfl ?_
      refine kg_if_eq 138 dX5_dive_96 rfl (pc2 := 99) rfl (fun q11 => ?_) (fun q11 => ?_)
      · replace h := (if_pos q11).symm.trans h
        obtain ⟨x12, x12e, h⟩ := kw_let_e h
        refine kg_iinc 5 dX5_dive_138 rfl (Nat.le_of_ble_eq_true rfl) x12e (lv2 := [(8, .int x12), (0, .ref 8), (1, .int v1), (2, .int v2), (3, .long v3), (5, .int v5)]) rfl (pc2 := 141) rfl ?_
        refine kg_goto 68 dX5_dive_141 rfl ?_
        refine kg_sub [1, 2, 3, 4, 5, 0] (lv2 := [(0, .ref 8), (1, .int v1), (2, .int v2), (3, .long v3), (5, .int v5), (8, .int x12)]) rfl ?_
        cases h
        exact hk
      · replace h := (if_neg q11).symm.trans h
        refine kg_aload_n 0 dX5_dive_99 rfl (pc2 := 100) rfl ?_
        refine kg_getr clX5 rfl 1 (Nat.le_of_ble_eq_true rfl) lfRX5_15 tX_8 eX_8 rfl dX5_dive_100 (pc2 := 103) rfl ?_
        refine kg_iload 4 dX5_dive_103 rfl (pc2 := 105) rfl ?_
        refine kg_iload 5 dX5_dive_105 rfl (pc2 := 107) rfl ?_
        obtain ⟨q13, h⟩ := kw_chk_e h
        obtain ⟨s14, s14e, h⟩ := kw_let_e h
        refine kg_iast tX_46 eX_46 q13 (j := v5.toNatClampNeg) rfl s14e dX5_dive_107 (pc2 := 108) rfl ?_
        refine kg_aload_n 0 dX5_dive_108 rfl (pc2 := 109) rfl ?_
        refine kg_iload 5 dX5_dive_109 rfl (pc2 := 111) rfl ?_
        refine kg_iload_n 2 dX5_dive_111 rfl (pc2 := 112) rfl ?_
        refine kg_iconst dX5_dive_112 ki_1 (pc2 := 113) rfl ?_
        refine kg_iload 5 dX5_dive_113 rfl (pc2 := 115) rfl ?_
        refine kg_ishl dX5_dive_115 (pc2 := 116) rfl ?_
        refine kg_iconst dX5_dive_116 ki_m1 (pc2 := 117) rfl ?_
        refine kg_ixor dX5_dive_117 (pc2 := 118) rfl ?_
        refine kg_iand dX5_dive_118 (pc2 := 119) rfl ?_
        refine kg_lload_n 3 dX5_dive_119 rfl (pc2 := 120) rfl ?_
        refine kg_aload_n 0 dX5_dive_120 rfl (pc2 := 121) rfl ?_
        refine kg_getr clX5 rfl 2 (Nat.le_of_ble_eq_true rfl) lfRX5_18 tX_8 eX_8 rfl dX5_dive_121 (pc2 := 124) rfl ?_
        refine kg_iload_n 1 dX5_dive_124 rfl (pc2 := 125) rfl ?_
        refine kg_iload 5 dX5_dive_125 rfl (pc2 := 127) rfl ?_
        obtain ⟨r15, r15h, h⟩ := kw_bind_e h
        refine kg_callV (μ := μX5_dive) (d := (d + 1)) rfl mVX2_span [.int v1, .int v8] [.long v3, .int (v2 &&& (((1 : Int32) <<< (v8 &&& 31)) ^^^ (-1 : Int32))), .int v8, .ref 8] (gX2_span (E := E) (d := (d + 1)) v1 v8 s14 r15h) rfl lmRX5_39 (ci := 2) rfl tX_5 eX_5 rfl (Nat.le_of_ble_eq_true rfl) dX5_dive_127 rfl (st2 := [.long r15, .long v3, .int (v2 &&& (((1 : Int32) <<< (v8 &&& 31)) ^^^ (-1 : Int32))), .int v8, .ref 8]) rfl (pc2 := 130) rfl ?_
        refine kg_ladd dX5_dive_130 (pc2 := 131) rfl ?_
        refine kg_iload 4 dX5_dive_131 rfl (pc2 := 133) rfl ?_
        refine kg_iconst dX5_dive_133 ki_1 (pc2 := 134) rfl ?_
        refine kg_iadd dX5_dive_134 (pc2 := 135) rfl ?_
        obtain ⟨r16, r16h, h⟩ := kw_bind_e h
        refine kg_callV (μ := μX5_dive) (d := (d + 1)) rfl mVX5_dive [.int v8, .int (v2 &&& (((1 : Int32) <<< (v8 &&& 31)) ^^^ (-1 : Int32))), .long (v3 + r15), .int (v5 + (1 : Int32))] [] (hrec _ _ _ _ _ _ r16h) rfl lmRX5_35 (ci := 5) rfl tX_8 eX_8 rfl (Nat.le_of_ble_eq_true rfl) dX5_dive_135 rfl (st2 := []) rfl (pc2 := 138) rfl ?_
        obtain ⟨x17, x17e, h⟩ := kw_let_e h
        refine kg_iinc 5 dX5_dive_138 rfl (Nat.le_of_ble_eq_true rfl) x17e (lv2 := [(8, .int x17), (0, .ref 8), (1, .int v1), (2, .int v2), (3, .long v3), (5, .int v5)]) rfl (pc2 := 141) rfl ?_
        refine kg_goto 68 dX5_dive_141 rfl ?_
        refine kg_sub [1, 2, 3, 4, 5, 0] (lv2 := [(0, .ref 8), (1, .int v1), (2, .int v2), (3, .long v3), (5, .int v5), (8, .int x17)]) rfl ?_
        cases h
        exact hk
set_option maxHeartbeats 4000000 in
set_option maxRecDepth 100000 in
theorem gFX5_dive {E : kw_E} {d : Nat} (rec : Int32 → Int32 → Int64 → Int32 → kw_M → Option kw_M) (hrec : ∀ (z0 : Int32) (z1 : Int32) (z2 : Int64) (z3 : Int32) (w r : kw_M), rec z0 z1 z2 z3 w = some r → kw_Met E kwTX 48 (d + 1) μX5_dive [.ref 8, .int z0, .int z1, .long z2, .int z3] w none r) (a1 : Int32) (a2 : Int32) (a3 : Int64) (a4 : Int32) (σ : kw_M) {r : kw_M} (h : fFX5_dive rec a1 a2 a3 a4 σ = some r) : kw_Met E kwTX 48 (d + 2) μX5_dive [.ref 8, .int a1, .int a2, .long a3, .int a4] σ none r := by
  refine kw_enter plRX5 (Nat.le_of_ble_eq_true rfl) ?_
  show kw_G E kwTX 48 (d + 2) μX5_dive 0 [(0, .ref 8), (1, .int a1), (2, .int a2), (3, .long a3), (5, .int a4)] [] σ none r
  unfold fFX5_dive at h
  refine kg_lload_n 3 dX5_dive_0 rfl (pc2 := 1) rfl ?_
  refine kg_aload_n 0 dX5_dive_1 rfl (pc2 := 2) rfl ?_
  refine kg_getr clX5 rfl 2 (Nat.le_of_ble_eq_true rfl) lfRX5_18 tX_8 eX_8 rfl dX5_dive_2 (pc2 := 5) rfl ?_
  refine kg_iload_n 1 dX5_dive_5 rfl (pc2 := 6) rfl ?_
  refine kg_aload_n 0 dX5_dive_6 rfl (pc2 := 7) rfl ?_
  refine kg_geti clX5 rfl 3 (Nat.le_of_ble_eq_true rfl) lfRX5_22 tX_8 eX_8 rfl dX5_dive_7 (pc2 := 10) rfl ?_
  obtain ⟨r1, r1h, h⟩ := kw_bind_e h
  refine kg_callV (μ := μX5_dive) (d := (d + 1)) rfl mVX2_span [.int a1, .int (σ.1 8 3)] [.long a3] (gX2_span (E := E) (d := (d + 1)) a1 (σ.1 8 3) σ r1h) rfl lmRX5_39 (ci := 2) rfl tX_5 eX_5 rfl (Nat.le_of_ble_eq_true rfl) dX5_dive_10 rfl (st2 := [.long r1, .long a3]) rfl (pc2 := 13) rfl ?_
  obtain ⟨r2, r2h, h⟩ := kw_bind_e h
  refine kg_callN (μ := μX5_dive) (d := (d + 1)) rfl mSX9_joined [.long a3, .long r1] [] (gX9_joined (E := E) (d := (d + 1)) a3 r1 σ r2h) rfl lnRX5_45 rfl (Nat.le_of_ble_eq_true rfl) dX5_dive_13 rfl (st2 := [.long r2]) rfl (pc2 := 16) rfl ?_
  refine kg_lstore dX5_dive_16 (Nat.le_of_ble_eq_true rfl) rfl (lv2 := [(6, .long r2), (0, .ref 8), (1, .int a1), (2, .int a2), (3, .long a3), (5, .int a4)]) rfl (pc2 := 18) rfl ?_
  refine kg_lload 0 dX5_dive_18 rfl (pc2 := 20) rfl ?_
  refine kg_aload_n 1 dX5_dive_20 rfl (pc2 := 21) rfl ?_
  refine kg_getl clX5 rfl 5 (Nat.le_of_ble_eq_true rfl) lfRX5_31 tX_8 eX_8 rfl dX5_dive_21 (pc2 := 24) rfl ?_
  obtain ⟨r3, r3h, h⟩ := kw_bind_e h
  refine kg_callN (μ := μX5_dive) (d := (d + 1)) rfl mSX9_isLess [.long r2, .long (σ.2 8 5)] [] (gX9_isLess (E := E) (d := (d + 1)) r2 (σ.2 8 5) σ r3h) rfl lnRX5_49 rfl (Nat.le_of_ble_eq_true rfl) dX5_dive_24 rfl (st2 := [.int r3]) rfl (pc2 := 27) rfl ?_
  refine kg_if_ne 31 dX5_dive_27 rfl (pc2 := 30) rfl (fun q4 => ?_) (fun q4 => ?_)
  · replace h := (if_neg q4).symm.trans h
    refine kg_iload_n 3 dX5_dive_31 rfl (pc2 := 32) rfl ?_
    refine kg_if_ne 57 dX5_dive_32 rfl (pc2 := 35) rfl (fun q5 => ?_) (fun q5 => ?_)
    · replace h := (if_neg q5).symm.trans h
      refine kg_iload 5 dX5_dive_57 rfl (pc2 := 59) rfl ?_
      refine kg_bipush dX5_dive_59 kb_6 (pc2 := 61) rfl ?_
      refine kg_icmp_lt 65 dX5_dive_61 rfl (pc2 := 64) rfl (fun q6 => ?_) (fun q6 => ?_)
      · replace h := (if_pos q6).symm.trans h
        refine kg_iconst dX5_dive_65 ki_0 (pc2 := 66) rfl ?_
        refine kg_istore dX5_dive_66 (Nat.le_of_ble_eq_true rfl) rfl (lv2 := [(8, .int (0 : Int32)), (6, .long r2), (0, .ref 8), (1, .int a1), (2, .int a2), (3, .long a3), (5, .int a4)]) rfl (pc2 := 68) rfl ?_
        refine kg_sub [2, 3, 4, 5, 6, 0] (lv2 := [(0, .ref 8), (1, .int a1), (2, .int a2), (3, .long a3), (5, .int a4), (8, .int (0 : Int32))]) rfl ?_
        obtain ⟨x18, x18h, h⟩ := kw_bind_e h
        refine kw_loop_e (P := fun s => kw_G E kwTX 48 (d + 2) μX5_dive 68 [(0, .ref 8), (1, .int a1), (2, .int a2), (3, .long a3), (5, .int a4), (8, .int s.1)] [] s.2 none r) (K := fun y => kw_G E kwTX 48 (d + 2) μX5_dive 144 [] [] y none r) (fun s o h0 hk => lX5_dive_68 rec hrec a1 a2 a3 a4 s.1 s.2 h0 hk) kw_F _ _ x18h ?_
        show kw_G E kwTX 48 (d + 2) μX5_dive 144 [] [] x18 none r
        cases h
        exact kg_vret dX5_dive_144 rfl
      · replace h := (if_neg q6).symm.trans h
        cases h
        exact kg_vret dX5_dive_64 rfl
    · replace h := (if_pos q5).symm.trans h
      refine kg_aload_n 1 dX5_dive_35 rfl (pc2 := 36) rfl ?_
      refine kg_lload 0 dX5_dive_36 rfl (pc2 := 38) rfl ?_
      obtain ⟨s19, s19e, h⟩ := kw_let_e h
      refine kg_putl clX5 rfl 5 (Nat.le_of_ble_eq_true rfl) lfRX5_31 rfl tX_8 eX_8 rfl (ty := .long) (by decide +kernel) rfl rfl s19e dX5_dive_38 (pc2 := 41) rfl ?_
      refine kg_aload_n 1 dX5_dive_41 rfl (pc2 := 42) rfl ?_
      refine kg_getr clX5 rfl 1 (Nat.le_of_ble_eq_true rfl) lfRX5_15 tX_8 eX_8 rfl dX5_dive_42 (pc2 := 45) rfl ?_
      refine kg_iconst dX5_dive_45 ki_0 (pc2 := 46) rfl ?_
      refine kg_aload_n 1 dX5_dive_46 rfl (pc2 := 47) rfl ?_
      refine kg_getr clX5 rfl 0 (Nat.le_of_ble_eq_true rfl) lfRX5_9 tX_8 eX_8 rfl dX5_dive_47 (pc2 := 50) rfl ?_
      refine kg_iconst dX5_dive_50 ki_0 (pc2 := 51) rfl ?_
      refine kg_bipush dX5_dive_51 kb_6 (pc2 := 53) rfl ?_
      obtain ⟨s20, s20e, h⟩ := kw_let_e h
      refine kg_copyi (μ := μX5_dive) (d := (d + 1)) rfl rfl cpRX5_53 tX_46 eX_46 tX_45 eX_45 (by decide) (by decide) (by decide) (by decide) (by decide) (Nat.le_of_ble_eq_true rfl) (by decide) (by decide) (by decide) s20e dX5_dive_53 (pc2 := 56) rfl ?_
      cases h
      exact kg_vret dX5_dive_56 rfl
  · replace h := (if_pos q4).symm.trans h
    cases h
    exact kg_vret dX5_dive_30 rfl
theorem gRX5_dive {E : kw_E} {d : Nat} : ∀ (n : Nat) (a1 : Int32) (a2 : Int32) (a3 : Int64) (a4 : Int32) (σ : kw_M) (r : kw_M), fRX5_dive n a1 a2 a3 a4 σ = some r → kw_Met E kwTX 48 (d + n + 2) μX5_dive [.ref 8, .int a1, .int a2, .long a3, .int a4] σ none r
  | 0, _, _, _, _, _, _, h => by cases h
  | n + 1, a1, a2, a3, a4, σ, r, h => gFX5_dive (E := E) (d := d + n + 1) (fRX5_dive n) (fun z0 z1 z2 z3 w r2 h2 => gRX5_dive n z0 z1 z2 z3 w r2 h2) a1 a2 a3 a4 σ h
theorem gX5_dive {E : kw_E} {d : Nat} (a1 : Int32) (a2 : Int32) (a3 : Int64) (a4 : Int32) (σ : kw_M) {r : kw_M} (h : fX5_dive a1 a2 a3 a4 σ = some r) : kw_Met E kwTX 48 (d + 22) μX5_dive [.ref 8, .int a1, .int a2, .long a3, .int a4] σ none r := by
  have h1 := gRX5_dive (E := E) (d := d) 20 a1 a2 a3 a4 σ r h
  rw [show d + 22 = d + 20 + 2 by omega]
  exact h1
set_option maxHeartbeats 4000000 in
set_option maxRecDepth 100000 in
theorem gX5_findRound {E : kw_E} {d : Nat} (a1 : Int32) (a2 : Int32) (a3 : Int32) (σ : kw_M) {r : Int64 × kw_M} (h : fX5_findRound a1 a2 a3 σ = some r) : kw_Met E kwTX 48 (d + 23) μX5_findRound [.ref 8, .int a1, .int a2, .int a3] σ (some (Value.long r.1)) r.2 := by
  refine kw_enter plRX5 (Nat.le_of_ble_eq_true rfl) ?_
  show kw_G E kwTX 48 (d + 23) μX5_findRound 0 [(0, .ref 8), (1, .int a1), (2, .int a2), (3, .int a3)] [] σ (some (Value.long r.1)) r.2
  unfold fX5_findRound at h
  refine kg_aload_n 0 dX5_findRound_0 rfl (pc2 := 1) rfl ?_
  refine kg_iload_n 1 dX5_findRound_1 rfl (pc2 := 2) rfl ?_
  obtain ⟨s1, s1e, h⟩ := kw_let_e h
  refine kg_puti clX5 rfl 3 (Nat.le_of_ble_eq_true rfl) lfRX5_22 rfl tX_8 eX_8 rfl (ty := .int) (by decide +kernel) rfl rfl s1e dX5_findRound_2 (pc2 := 5) rfl ?_
  refine kg_aload_n 0 dX5_findRound_5 rfl (pc2 := 6) rfl ?_
  refine kg_iload_n 3 dX5_findRound_6 rfl (pc2 := 7) rfl ?_
  obtain ⟨s2, s2e, h⟩ := kw_let_e h
  refine kg_puti clX5 rfl 4 (Nat.le_of_ble_eq_true rfl) lfRX5_26 rfl tX_8 eX_8 rfl (ty := .int) (by decide +kernel) rfl rfl s2e dX5_findRound_7 (pc2 := 10) rfl ?_
  refine kg_aload_n 0 dX5_findRound_10 rfl (pc2 := 11) rfl ?_
  refine kg_ldc2 rfl lcRX5_29 dX5_findRound_11 (pc2 := 14) rfl ?_
  obtain ⟨s3, s3e, h⟩ := kw_let_e h
  refine kg_putl clX5 rfl 5 (Nat.le_of_ble_eq_true rfl) lfRX5_31 rfl tX_8 eX_8 rfl (ty := .long) (by decide +kernel) rfl rfl s3e dX5_findRound_14 (pc2 := 17) rfl ?_
  refine kg_aload_n 0 dX5_findRound_17 rfl (pc2 := 18) rfl ?_
  refine kg_iload_n 1 dX5_findRound_18 rfl (pc2 := 19) rfl ?_
  refine kg_iload_n 2 dX5_findRound_19 rfl (pc2 := 20) rfl ?_
  refine kg_lconst dX5_findRound_20 kl_0 (pc2 := 21) rfl ?_
  refine kg_iconst dX5_findRound_21 ki_0 (pc2 := 22) rfl ?_
  obtain ⟨r4, r4h, h⟩ := kw_bind_e h
  refine kg_callV (μ := μX5_findRound) (d := (d + 22)) rfl mVX5_dive [.int a1, .int a2, .long (0 : Int64), .int (0 : Int32)] [] (gX5_dive (E := E) (d := d) a1 a2 (0 : Int64) (0 : Int32) s3 r4h) rfl lmRX5_35 (ci := 5) rfl tX_8 eX_8 rfl (Nat.le_of_ble_eq_true rfl) dX5_findRound_22 rfl (st2 := []) rfl (pc2 := 25) rfl ?_
  refine kg_aload_n 0 dX5_findRound_25 rfl (pc2 := 26) rfl ?_
  refine kg_getl clX5 rfl 5 (Nat.le_of_ble_eq_true rfl) lfRX5_31 tX_8 eX_8 rfl dX5_findRound_26 (pc2 := 29) rfl ?_
  cases h
  exact kg_lret dX5_findRound_29 rfl
set_option maxHeartbeats 4000000 in
set_option maxRecDepth 100000 in
theorem gX9_round {E : kw_E} {d : Nat} (a1 : Int32) (a2 : Int32) (σ : kw_M) {r : Int64 × kw_M} (h : fX9_round a1 a2 σ = some r) : kw_Met E kwTX 48 (d + 24) μX9_round [.ref 0, .int a1, .int a2] σ (some (Value.long r.1)) r.2 := by
  refine kw_enter plRX9 (Nat.le_of_ble_eq_true rfl) ?_
  show kw_G E kwTX 48 (d + 24) μX9_round 0 [(0, .ref 0), (1, .int a1), (2, .int a2)] [] σ (some (Value.long r.1)) r.2
  unfold fX9_round at h
  refine kg_aload_n 0 dX9_round_0 rfl (pc2 := 1) rfl ?_
  refine kg_getr clX9 rfl 0 (Nat.le_of_ble_eq_true rfl) lfRX9_10 tX_0 eX_0 rfl dX9_round_1 (pc2 := 4) rfl ?_
  refine kg_getr clX7 rfl 0 (Nat.le_of_ble_eq_true rfl) lfRX9_148 tX_1 eX_1 rfl dX9_round_4 (pc2 := 7) rfl ?_
  refine kg_iload_n 1 dX9_round_7 rfl (pc2 := 8) rfl ?_
  obtain ⟨r1, r1h, h⟩ := kw_bind_e h
  refine kg_callV (μ := μX9_round) (d := (d + 23)) rfl mVX4_hasAll [.int a1] [] (gX4_hasAll (E := E) (d := (d + 23)) a1 σ r1h) rfl lmRX9_371 (ci := 4) rfl tX_12 eX_12 rfl (Nat.le_of_ble_eq_true rfl) dX9_round_8 rfl (st2 := [.int r1]) rfl (pc2 := 11) rfl ?_
  refine kg_if_eq 24 dX9_round_11 rfl (pc2 := 14) rfl (fun q2 => ?_) (fun q2 => ?_)
  · replace h := (if_pos q2).symm.trans h
    refine kg_ldc2 rfl lcRX9_261 dX9_round_24 (pc2 := 27) rfl ?_
    cases h
    exact kg_lret dX9_round_27 rfl
  · replace h := (if_neg q2).symm.trans h
    refine kg_iload_n 2 dX9_round_14 rfl (pc2 := 15) rfl ?_
    refine kg_if_lt 24 dX9_round_15 rfl (pc2 := 18) rfl (fun q3 => ?_) (fun q3 => ?_)
    · replace h := (if_pos q3).symm.trans h
      refine kg_ldc2 rfl lcRX9_261 dX9_round_24 (pc2 := 27) rfl ?_
      cases h
      exact kg_lret dX9_round_27 rfl
    · replace h := (if_neg q3).symm.trans h
      refine kg_iload_n 2 dX9_round_18 rfl (pc2 := 19) rfl ?_
      refine kg_bipush dX9_round_19 kb_6 (pc2 := 21) rfl ?_
      refine kg_icmp_le 28 dX9_round_21 rfl (pc2 := 24) rfl (fun q4 => ?_) (fun q4 => ?_)
      · replace h := (if_pos q4).symm.trans h
        refine kg_iload_n 1 dX9_round_28 rfl (pc2 := 29) rfl ?_
        refine kg_iconst dX9_round_29 ki_1 (pc2 := 30) rfl ?_
        refine kg_aload_n 0 dX9_round_30 rfl (pc2 := 31) rfl ?_
        refine kg_getr clX9 rfl 0 (Nat.le_of_ble_eq_true rfl) lfRX9_10 tX_0 eX_0 rfl dX9_round_31 (pc2 := 34) rfl ?_
        refine kg_geti clX7 rfl 2 (Nat.le_of_ble_eq_true rfl) lfRX9_189 tX_1 eX_1 rfl dX9_round_34 (pc2 := 37) rfl ?_
        refine kg_ishl dX9_round_37 (pc2 := 38) rfl ?_
        refine kg_iconst dX9_round_38 ki_m1 (pc2 := 39) rfl ?_
        refine kg_ixor dX9_round_39 (pc2 := 40) rfl ?_
        refine kg_iand dX9_round_40 (pc2 := 41) rfl ?_
        obtain ⟨x5, x5e, h⟩ := kw_let_e h
        refine kg_istore_n dX9_round_41 rfl (Nat.le_of_ble_eq_true rfl) x5e (lv2 := [(3, .int x5), (0, .ref 0), (1, .int a1), (2, .int a2)]) rfl (pc2 := 42) rfl ?_
        refine kg_iload_n 0 dX9_round_42 rfl (pc2 := 43) rfl ?_
        obtain ⟨r6, r6h, h⟩ := kw_bind_e h
        refine kg_callS (μ := μX9_round) (d := (d + 23)) rfl mSJ6_bitCount_0f7a4 [.int x5] [] (gXJ6_bitCount_0f7a4 (E := E) (d := (d + 23)) x5 σ r6h) rfl lmRX9_413 rfl (Nat.le_of_ble_eq_true rfl) dX9_round_43 rfl (st2 := [.int r6]) rfl (pc2 := 46) rfl ?_
        refine kg_bipush dX9_round_46 kb_6 (pc2 := 48) rfl ?_
        refine kg_icmp_le 55 dX9_round_48 rfl (pc2 := 51) rfl (fun q7 => ?_) (fun q7 => ?_)
        · replace h := (if_pos q7).symm.trans h
          refine kg_aload_n 1 dX9_round_55 rfl (pc2 := 56) rfl ?_
          obtain ⟨r8, r8h, h⟩ := kw_bind_e h
          refine kg_callV (μ := μX9_round) (d := (d + 23)) rfl mVX9_rightPairs [] [] (gX9_rightPairs (E := E) (d := (d + 20)) σ r8h) rfl lmRX9_251 (ci := 9) rfl tX_0 eX_0 rfl (Nat.le_of_ble_eq_true rfl) dX9_round_56 rfl (st2 := [.ref 5]) rfl (pc2 := 59) rfl ?_
          refine kg_pop dX9_round_59 rfl (pc2 := 60) rfl ?_
          refine kg_aload_n 1 dX9_round_60 rfl (pc2 := 61) rfl ?_
          refine kg_getr clX9 rfl 8 (Nat.le_of_ble_eq_true rfl) lfRX9_61 tX_0 eX_0 rfl dX9_round_61 (pc2 := 64) rfl ?_
          refine kg_aload_n 1 dX9_round_64 rfl (pc2 := 65) rfl ?_
          refine kg_getr clX9 rfl 0 (Nat.le_of_ble_eq_true rfl) lfRX9_10 tX_0 eX_0 rfl dX9_round_65 (pc2 := 68) rfl ?_
          refine kg_geti clX7 rfl 2 (Nat.le_of_ble_eq_true rfl) lfRX9_189 tX_1 eX_1 rfl dX9_round_68 (pc2 := 71) rfl ?_
          refine kg_iload_n 0 dX9_round_71 rfl (pc2 := 72) rfl ?_
          refine kg_aload_n 1 dX9_round_72 rfl (pc2 := 73) rfl ?_
          refine kg_getr clX9 rfl 0 (Nat.le_of_ble_eq_true rfl) lfRX9_10 tX_0 eX_0 rfl dX9_round_73 (pc2 := 76) rfl ?_
          refine kg_getr clX7 rfl 0 (Nat.le_of_ble_eq_true rfl) lfRX9_148 tX_1 eX_1 rfl dX9_round_76 (pc2 := 79) rfl ?_
          refine kg_geti clX4 rfl 0 (Nat.le_of_ble_eq_true rfl) lfRX9_151 tX_12 eX_12 rfl dX9_round_79 (pc2 := 82) rfl ?_
          obtain ⟨r9, r9h, h⟩ := kw_bind_e h
          refine kg_callV (μ := μX9_round) (d := (d + 23)) rfl mVX5_findRound [.int (r8.1 1 2), .int x5, .int (r8.1 12 0)] [] (gX5_findRound (E := E) (d := d) (r8.1 1 2) x5 (r8.1 12 0) r8 r9h) rfl lmRX9_417 (ci := 5) rfl tX_8 eX_8 rfl (Nat.le_of_ble_eq_true rfl) dX9_round_82 rfl (st2 := [.long r9.1]) rfl (pc2 := 85) rfl ?_
          refine kg_lstore dX9_round_85 (Nat.le_of_ble_eq_true rfl) rfl (lv2 := [(4, .long r9.1), (3, .int x5), (0, .ref 0), (1, .int a1), (2, .int a2)]) rfl (pc2 := 87) rfl ?_
          refine kg_iload_n 4 dX9_round_87 rfl (pc2 := 88) rfl ?_
          refine kg_if_eq 100 dX9_round_88 rfl (pc2 := 91) rfl (fun q10 => ?_) (fun q10 => ?_)
          · replace h := (if_pos q10).symm.trans h
            refine kg_lload 0 dX9_round_100 rfl (pc2 := 102) rfl ?_
            cases h
            exact kg_lret dX9_round_102 rfl
          · replace h := (if_neg q10).symm.trans h
            refine kg_lload 0 dX9_round_91 rfl (pc2 := 93) rfl ?_
            refine kg_ldc2 rfl lcRX9_261 dX9_round_93 (pc2 := 96) rfl ?_
            refine kg_lcmp_ne 103 dX9_round_96 dX9_round_97 rfl (pc2 := 100) rfl (fun q11 => ?_) (fun q11 => ?_)
            · replace h := (if_neg q11).symm.trans h
              refine kg_iload_n 4 dX9_round_103 rfl (pc2 := 104) rfl ?_
              refine kg_iload_n 1 dX9_round_104 rfl (pc2 := 105) rfl ?_
              obtain ⟨r12, r12h, h⟩ := kw_bind_e h
              refine kg_callS (μ := μX9_round) (d := (d + 23)) rfl mSJ6_bitCount_0f7a4 [.int x5] [.int a2] (gXJ6_bitCount_0f7a4 (E := E) (d := (d + 23)) x5 r9.2 r12h) rfl lmRX9_413 rfl (Nat.le_of_ble_eq_true rfl) dX9_round_105 rfl (st2 := [.int r12, .int a2]) rfl (pc2 := 108) rfl ?_
              refine kg_icmp_gt 126 dX9_round_108 rfl (pc2 := 111) rfl (fun q13 => ?_) (fun q13 => ?_)
              · replace h := (if_pos q13).symm.trans h
                refine kg_ldc2 rfl lcRX9_423 dX9_round_126 (pc2 := 129) rfl ?_
                cases h
                exact kg_lret dX9_round_129 rfl
              · replace h := (if_neg q13).symm.trans h
                refine kg_aload_n 2 dX9_round_111 rfl (pc2 := 112) rfl ?_
                refine kg_getr clX9 rfl 8 (Nat.le_of_ble_eq_true rfl) lfRX9_61 tX_0 eX_0 rfl dX9_round_112 (pc2 := 115) rfl ?_
                refine kg_getr clX5 rfl 0 (Nat.le_of_ble_eq_true rfl) lfRX9_420 tX_8 eX_8 rfl dX9_round_115 (pc2 := 118) rfl ?_
                refine kg_iload_n 4 dX9_round_118 rfl (pc2 := 119) rfl ?_
                refine kg_iconst dX9_round_119 ki_1 (pc2 := 120) rfl ?_
                refine kg_isub dX9_round_120 (pc2 := 121) rfl ?_
                obtain ⟨q14, h⟩ := kw_chk_e h
                refine kg_iald tX_45 eX_45 q14 (j := (a2 - (1 : Int32)).toNatClampNeg) rfl dX9_round_121 (pc2 := 122) rfl ?_
                refine kg_i2l dX9_round_122 (pc2 := 123) rfl ?_
                refine kg_goto 129 dX9_round_123 rfl ?_
                cases h
                exact kg_lret dX9_round_129 rfl
            · replace h := (if_pos q11).symm.trans h
              refine kg_lload 0 dX9_round_100 rfl (pc2 := 102) rfl ?_
              cases h
              exact kg_lret dX9_round_102 rfl
        · replace h := (if_neg q7).symm.trans h
          refine kg_ldc2 rfl lcRX9_261 dX9_round_51 (pc2 := 54) rfl ?_
          cases h
          exact kg_lret dX9_round_54 rfl
      · replace h := (if_neg q4).symm.trans h
        refine kg_ldc2 rfl lcRX9_261 dX9_round_24 (pc2 := 27) rfl ?_
        cases h
        exact kg_lret dX9_round_27 rfl
set_option maxHeartbeats 4000000 in
set_option maxRecDepth 100000 in
theorem gX9_watch {E : kw_E} {d : Nat} (a1 : Int32) (a2 : Int32) (σ : kw_M) {r : Int32 × kw_M} (h : fX9_watch a1 a2 σ = some r) : kw_Met E kwTX 48 (d + 2) μX9_watch [.ref 0, .int a1, .int a2] σ (some (Value.int r.1)) r.2 := by
  refine kw_enter plRX9 (Nat.le_of_ble_eq_true rfl) ?_
  show kw_G E kwTX 48 (d + 2) μX9_watch 0 [(0, .ref 0), (1, .int a1), (2, .int a2)] [] σ (some (Value.int r.1)) r.2
  unfold fX9_watch at h
  refine kg_aload_n 0 dX9_watch_0 rfl (pc2 := 1) rfl ?_
  refine kg_iload_n 1 dX9_watch_1 rfl (pc2 := 2) rfl ?_
  refine kg_iload_n 2 dX9_watch_2 rfl (pc2 := 3) rfl ?_
  obtain ⟨r1, r1h, h⟩ := kw_bind_e h
  refine kg_callV (μ := μX9_watch) (d := (d + 1)) rfl mVX9_watchTown [.int a1, .int a2] [] (gX9_watchTown (E := E) (d := d) a1 a2 σ r1h) rfl lmRX9_170 (ci := 9) rfl tX_0 eX_0 rfl (Nat.le_of_ble_eq_true rfl) dX9_watch_3 rfl (st2 := [.int r1.1]) rfl (pc2 := 6) rfl ?_
  cases h
  exact kg_iret (ty := .int) dX9_watch_6 rfl rfl
set_option maxHeartbeats 4000000 in
set_option maxRecDepth 100000 in
theorem gX9_forget {E : kw_E} {d : Nat} (a1 : Int32) (σ : kw_M) {r : Int32 × kw_M} (h : fX9_forget a1 σ = some r) : kw_Met E kwTX 48 (d + 2) μX9_forget [.ref 0, .int a1] σ (some (Value.int r.1)) r.2 := by
  refine kw_enter plRX9 (Nat.le_of_ble_eq_true rfl) ?_
  show kw_G E kwTX 48 (d + 2) μX9_forget 0 [(0, .ref 0), (1, .int a1)] [] σ (some (Value.int r.1)) r.2
  unfold fX9_forget at h
  refine kg_aload_n 0 dX9_forget_0 rfl (pc2 := 1) rfl ?_
  refine kg_iload_n 1 dX9_forget_1 rfl (pc2 := 2) rfl ?_
  obtain ⟨r1, r1h, h⟩ := kw_bind_e h
  refine kg_callV (μ := μX9_forget) (d := (d + 1)) rfl mVX9_forgetTown [.int a1] [] (gX9_forgetTown (E := E) (d := d) a1 σ r1h) rfl lmRX9_173 (ci := 9) rfl tX_0 eX_0 rfl (Nat.le_of_ble_eq_true rfl) dX9_forget_2 rfl (st2 := [.int r1.1]) rfl (pc2 := 5) rfl ?_
  obtain ⟨q2, h⟩ := kw_chk_e h
  cases h
  exact kg_iret (ty := .boolean) dX9_forget_5 rfl (kw_isB_n q2)
set_option maxHeartbeats 4000000 in
set_option maxRecDepth 100000 in
theorem gX9_event {E : kw_E} {d : Nat} (a1 : Int32) (a2 : Int32) (σ : kw_M) {r : Int64} (h : fX9_event a1 a2 σ = some r) : kw_Met E kwTX 48 d μX9_event [.ref 0, .int a1, .int a2] σ (some (Value.long r)) σ := by
  refine kw_enter plRX9 (Nat.le_of_ble_eq_true rfl) ?_
  show kw_G E kwTX 48 d μX9_event 0 [(0, .ref 0), (1, .int a1), (2, .int a2)] [] σ (some (Value.long r)) σ
  unfold fX9_event at h
  refine kg_iload_n 1 dX9_event_0 rfl (pc2 := 1) rfl ?_
  refine kg_if_lt 27 dX9_event_1 rfl (pc2 := 4) rfl (fun q1 => ?_) (fun q1 => ?_)
  · replace h := (if_pos q1).symm.trans h
    refine kg_ldc2 rfl lcRX9_261 dX9_event_27 (pc2 := 30) rfl ?_
    cases h
    exact kg_lret dX9_event_30 rfl
  · replace h := (if_neg q1).symm.trans h
    refine kg_iload_n 1 dX9_event_4 rfl (pc2 := 5) rfl ?_
    refine kg_aload_n 0 dX9_event_5 rfl (pc2 := 6) rfl ?_
    refine kg_getr clX9 rfl 0 (Nat.le_of_ble_eq_true rfl) lfRX9_10 tX_0 eX_0 rfl dX9_event_6 (pc2 := 9) rfl ?_
    refine kg_getr clX7 rfl 1 (Nat.le_of_ble_eq_true rfl) lfRX9_238 tX_1 eX_1 rfl dX9_event_9 (pc2 := 12) rfl ?_
    refine kg_geti clX0 rfl 0 (Nat.le_of_ble_eq_true rfl) lfRX9_242 tX_13 eX_13 rfl dX9_event_12 (pc2 := 15) rfl ?_
    refine kg_icmp_ge 27 dX9_event_15 rfl (pc2 := 18) rfl (fun q2 => ?_) (fun q2 => ?_)
    · replace h := (if_pos q2).symm.trans h
      refine kg_ldc2 rfl lcRX9_261 dX9_event_27 (pc2 := 30) rfl ?_
      cases h
      exact kg_lret dX9_event_30 rfl
    · replace h := (if_neg q2).symm.trans h
      refine kg_iload_n 2 dX9_event_18 rfl (pc2 := 19) rfl ?_
      refine kg_if_lt 27 dX9_event_19 rfl (pc2 := 22) rfl (fun q3 => ?_) (fun q3 => ?_)
      · replace h := (if_pos q3).symm.trans h
        refine kg_ldc2 rfl lcRX9_261 dX9_event_27 (pc2 := 30) rfl ?_
        cases h
        exact kg_lret dX9_event_30 rfl
      · replace h := (if_neg q3).symm.trans h
        refine kg_iload_n 2 dX9_event_22 rfl (pc2 := 23) rfl ?_
        refine kg_iconst dX9_event_23 ki_4 (pc2 := 24) rfl ?_
        refine kg_icmp_lt 31 dX9_event_24 rfl (pc2 := 27) rfl (fun q4 => ?_) (fun q4 => ?_)
        · replace h := (if_pos q4).symm.trans h
          refine kg_aload_n 0 dX9_event_31 rfl (pc2 := 32) rfl ?_
          refine kg_getr clX9 rfl 0 (Nat.le_of_ble_eq_true rfl) lfRX9_10 tX_0 eX_0 rfl dX9_event_32 (pc2 := 35) rfl ?_
          refine kg_getr clX7 rfl 1 (Nat.le_of_ble_eq_true rfl) lfRX9_238 tX_1 eX_1 rfl dX9_event_35 (pc2 := 38) rfl ?_
          refine kg_getr clX0 rfl 1 (Nat.le_of_ble_eq_true rfl) lfRX9_428 tX_13 eX_13 rfl dX9_event_38 (pc2 := 41) rfl ?_
          refine kg_iload_n 1 dX9_event_41 rfl (pc2 := 42) rfl ?_
          refine kg_iconst dX9_event_42 ki_4 (pc2 := 43) rfl ?_
          refine kg_imul dX9_event_43 (pc2 := 44) rfl ?_
          refine kg_iload_n 2 dX9_event_44 rfl (pc2 := 45) rfl ?_
          refine kg_iadd dX9_event_45 (pc2 := 46) rfl ?_
          obtain ⟨q5, h⟩ := kw_chk_e h
          refine kg_lald tX_21 eX_21 q5 (j := ((a1 * (4 : Int32)) + a2).toNatClampNeg) rfl dX9_event_46 (pc2 := 47) rfl ?_
          cases h
          exact kg_lret dX9_event_47 rfl
        · replace h := (if_neg q4).symm.trans h
          refine kg_ldc2 rfl lcRX9_261 dX9_event_27 (pc2 := 30) rfl ?_
          cases h
          exact kg_lret dX9_event_30 rfl
set_option maxHeartbeats 4000000 in
set_option maxRecDepth 100000 in
theorem lX7_countOthers_4 {E : kw_E} {d : Nat} (σ : kw_M) (v2 : Int32) (v3 : Int32) {v : Option Value} {σ2 : kw_M} {o : (Int32 × Int32) ⊕ (Int32)} (h : bX7_countOthers_4 σ v2 v3 = some o) (hk : Sum.elim (fun s => kw_G E kwTX 48 d μX7_countOthers 4 [(0, .ref 1), (1, .ref 11), (2, .int s.1), (3, .int s.2)] [] σ v σ2) (fun y => kw_G E kwTX 48 d μX7_countOthers 37 [(2, .int y)] [] σ v σ2) o) : kw_G E kwTX 48 d μX7_countOthers 4 [(0, .ref 1), (1, .ref 11), (2, .int v2), (3, .int v3)] [] σ v σ2 := by
  unfold bX7_countOthers_4 at h
  refine kg_iload_n 3 dX7_countOthers_4 rfl (pc2 := 5) rfl ?_
  refine kg_aload_n 0 dX7_countOthers_5 rfl (pc2 := 6) rfl ?_
  refine kg_getr clX7 rfl 0 (Nat.le_of_ble_eq_true rfl) lfRX7_12 tX_1 eX_1 rfl dX7_countOthers_6 (pc2 := 9) rfl ?_
  refine kg_geti clX4 rfl 0 (Nat.le_of_ble_eq_true rfl) lfRX7_90 tX_12 eX_12 rfl dX7_countOthers_9 (pc2 := 12) rfl ?_
  refine kg_icmp_ge 37 dX7_countOthers_12 rfl (pc2 := 15) rfl (fun q1 => ?_) (fun q1 => ?_)
  · replace h := (if_pos q1).symm.trans h
    refine kg_sub [2] (lv2 := [(2, .int v2)]) rfl ?_
    cases h
    exact hk
  · replace h := (if_neg q1).symm.trans h
    refine kg_aload_n 0 dX7_countOthers_15 rfl (pc2 := 16) rfl ?_
    refine kg_getr clX7 rfl 9 (Nat.le_of_ble_eq_true rfl) lfRX7_36 tX_1 eX_1 rfl dX7_countOthers_16 (pc2 := 19) rfl ?_
    refine kg_iload_n 3 dX7_countOthers_19 rfl (pc2 := 20) rfl ?_
    obtain ⟨q2, h⟩ := kw_chk_e h
    refine kg_lald tX_16 eX_16 q2 (j := v3.toNatClampNeg) rfl dX7_countOthers_20 (pc2 := 21) rfl ?_
    refine kg_aload_n 1 dX7_countOthers_21 rfl (pc2 := 22) rfl ?_
    refine kg_iload_n 3 dX7_countOthers_22 rfl (pc2 := 23) rfl ?_
    refine kg_lald tX_11 eX_11 q2 (j := v3.toNatClampNeg) rfl dX7_countOthers_23 (pc2 := 24) rfl ?_
    refine kg_lcmp_eq 31 dX7_countOthers_24 dX7_countOthers_25 rfl (pc2 := 28) rfl (fun q3 => ?_) (fun q3 => ?_)
    · replace h := (if_pos q3).symm.trans h
      obtain ⟨x4, x4e, h⟩ := kw_let_e h
      refine kg_iinc 3 dX7_countOthers_31 rfl (Nat.le_of_ble_eq_true rfl) x4e (lv2 := [(3, .int x4), (0, .ref 1), (1, .ref 11), (2, .int v2)]) rfl (pc2 := 34) rfl ?_
      refine kg_goto 4 dX7_countOthers_34 rfl ?_
      refine kg_sub [1, 2, 3, 0] (lv2 := [(0, .ref 1), (1, .ref 11), (2, .int v2), (3, .int x4)]) rfl ?_
      cases h
      exact hk
    · replace h := (if_neg q3).symm.trans h
      obtain ⟨x5, x5e, h⟩ := kw_let_e h
      refine kg_iinc 2 dX7_countOthers_28 rfl (Nat.le_of_ble_eq_true rfl) x5e (lv2 := [(2, .int x5), (0, .ref 1), (1, .ref 11), (3, .int v3)]) rfl (pc2 := 31) rfl ?_
      obtain ⟨x6, x6e, h⟩ := kw_let_e h
      refine kg_iinc 3 dX7_countOthers_31 rfl (Nat.le_of_ble_eq_true rfl) x6e (lv2 := [(3, .int x6), (2, .int x5), (0, .ref 1), (1, .ref 11)]) rfl (pc2 := 34) rfl ?_
      refine kg_goto 4 dX7_countOthers_34 rfl ?_
      refine kg_sub [2, 3, 1, 0] (lv2 := [(0, .ref 1), (1, .ref 11), (2, .int x5), (3, .int x6)]) rfl ?_
      cases h
      exact hk
set_option maxHeartbeats 4000000 in
set_option maxRecDepth 100000 in
theorem gX7_countOthers {E : kw_E} {d : Nat} (σ : kw_M) {r : Int32} (h : fX7_countOthers σ = some r) : kw_Met E kwTX 48 d μX7_countOthers [.ref 1, .ref 11] σ (some (Value.int r)) σ := by
  refine kw_enter plRX7 (Nat.le_of_ble_eq_true rfl) ?_
  show kw_G E kwTX 48 d μX7_countOthers 0 [(0, .ref 1), (1, .ref 11)] [] σ (some (Value.int r)) σ
  unfold fX7_countOthers at h
  refine kg_iconst dX7_countOthers_0 ki_0 (pc2 := 1) rfl ?_
  refine kg_istore_n dX7_countOthers_1 rfl (Nat.le_of_ble_eq_true rfl) rfl (lv2 := [(2, .int (0 : Int32)), (0, .ref 1), (1, .ref 11)]) rfl (pc2 := 2) rfl ?_
  refine kg_iconst dX7_countOthers_2 ki_0 (pc2 := 3) rfl ?_
  refine kg_istore_n dX7_countOthers_3 rfl (Nat.le_of_ble_eq_true rfl) rfl (lv2 := [(3, .int (0 : Int32)), (2, .int (0 : Int32)), (0, .ref 1), (1, .ref 11)]) rfl (pc2 := 4) rfl ?_
  refine kg_sub [2, 3, 1, 0] (lv2 := [(0, .ref 1), (1, .ref 11), (2, .int (0 : Int32)), (3, .int (0 : Int32))]) rfl ?_
  obtain ⟨x7, x7h, h⟩ := kw_bind_e h
  refine kw_loop_e (P := fun s => kw_G E kwTX 48 d μX7_countOthers 4 [(0, .ref 1), (1, .ref 11), (2, .int s.1), (3, .int s.2)] [] σ (some (Value.int r)) σ) (K := fun y => kw_G E kwTX 48 d μX7_countOthers 37 [(2, .int y)] [] σ (some (Value.int r)) σ) (fun s o h0 hk => lX7_countOthers_4 σ s.1 s.2 h0 hk) kw_F _ _ x7h ?_
  show kw_G E kwTX 48 d μX7_countOthers 37 [(2, .int x7)] [] σ (some (Value.int r)) σ
  refine kg_iload_n 0 dX7_countOthers_37 rfl (pc2 := 38) rfl ?_
  cases h
  exact kg_iret (ty := .int) dX7_countOthers_38 rfl rfl
set_option maxHeartbeats 4000000 in
set_option maxRecDepth 100000 in
theorem gX9_ifLength {E : kw_E} {d : Nat} (a1 : Int32) (a2 : Int32) (σ : kw_M) {r : Int32 × kw_M} (h : fX9_ifLength a1 a2 σ = some r) : kw_Met E kwTX 48 (d + 4) μX9_ifLength [.ref 0, .int a1, .int a2] σ (some (Value.int r.1)) r.2 := by
  refine kw_enter plRX9 (Nat.le_of_ble_eq_true rfl) ?_
  show kw_G E kwTX 48 (d + 4) μX9_ifLength 0 [(0, .ref 0), (1, .int a1), (2, .int a2)] [] σ (some (Value.int r.1)) r.2
  unfold fX9_ifLength at h
  refine kg_aload_n 0 dX9_ifLength_0 rfl (pc2 := 1) rfl ?_
  refine kg_getr clX9 rfl 0 (Nat.le_of_ble_eq_true rfl) lfRX9_10 tX_0 eX_0 rfl dX9_ifLength_1 (pc2 := 4) rfl ?_
  refine kg_getr clX7 rfl 0 (Nat.le_of_ble_eq_true rfl) lfRX9_148 tX_1 eX_1 rfl dX9_ifLength_4 (pc2 := 7) rfl ?_
  refine kg_iload_n 1 dX9_ifLength_7 rfl (pc2 := 8) rfl ?_
  obtain ⟨r1, r1h, h⟩ := kw_bind_e h
  refine kg_callV (μ := μX9_ifLength) (d := (d + 3)) rfl mVX4_hasRoad [.int a1] [] (gX4_hasRoad (E := E) (d := (d + 3)) a1 σ r1h) rfl lmRX9_195 (ci := 4) rfl tX_12 eX_12 rfl (Nat.le_of_ble_eq_true rfl) dX9_ifLength_8 rfl (st2 := [.int r1]) rfl (pc2 := 11) rfl ?_
  refine kg_if_eq 21 dX9_ifLength_11 rfl (pc2 := 14) rfl (fun q2 => ?_) (fun q2 => ?_)
  · replace h := (if_pos q2).symm.trans h
    refine kg_iconst dX9_ifLength_21 ki_m1 (pc2 := 22) rfl ?_
    cases h
    exact kg_iret (ty := .int) dX9_ifLength_22 rfl rfl
  · replace h := (if_neg q2).symm.trans h
    refine kg_iload_n 2 dX9_ifLength_14 rfl (pc2 := 15) rfl ?_
    obtain ⟨r3, r3h, h⟩ := kw_bind_e h
    refine kg_callS (μ := μX9_ifLength) (d := (d + 3)) rfl mSX9_isLength [.int a2] [] (gX9_isLength (E := E) (d := (d + 3)) a2 σ r3h) rfl lmRX9_179 rfl (Nat.le_of_ble_eq_true rfl) dX9_ifLength_15 rfl (st2 := [.int r3]) rfl (pc2 := 18) rfl ?_
    refine kg_if_ne 23 dX9_ifLength_18 rfl (pc2 := 21) rfl (fun q4 => ?_) (fun q4 => ?_)
    · replace h := (if_neg q4).symm.trans h
      refine kg_aload_n 0 dX9_ifLength_23 rfl (pc2 := 24) rfl ?_
      refine kg_getr clX9 rfl 0 (Nat.le_of_ble_eq_true rfl) lfRX9_10 tX_0 eX_0 rfl dX9_ifLength_24 (pc2 := 27) rfl ?_
      refine kg_getr clX7 rfl 0 (Nat.le_of_ble_eq_true rfl) lfRX9_148 tX_1 eX_1 rfl dX9_ifLength_27 (pc2 := 30) rfl ?_
      refine kg_iload_n 1 dX9_ifLength_30 rfl (pc2 := 31) rfl ?_
      obtain ⟨r5, r5h, h⟩ := kw_bind_e h
      refine kg_callV (μ := μX9_ifLength) (d := (d + 3)) rfl mVX4_isOpen [.int a1] [] (gX4_isOpen (E := E) (d := (d + 3)) 12 kx_4_12 a1 σ r5h) rfl lmRX9_201 (ci := 4) rfl tX_12 eX_12 rfl (Nat.le_of_ble_eq_true rfl) dX9_ifLength_31 rfl (st2 := [.int r5]) rfl (pc2 := 34) rfl ?_
      refine kg_if_ne 40 dX9_ifLength_34 rfl (pc2 := 37) rfl (fun q6 => ?_) (fun q6 => ?_)
      · replace h := (if_neg q6).symm.trans h
        refine kg_aload_n 0 dX9_ifLength_40 rfl (pc2 := 41) rfl ?_
        refine kg_getr clX9 rfl 0 (Nat.le_of_ble_eq_true rfl) lfRX9_10 tX_0 eX_0 rfl dX9_ifLength_41 (pc2 := 44) rfl ?_
        refine kg_getr clX7 rfl 0 (Nat.le_of_ble_eq_true rfl) lfRX9_148 tX_1 eX_1 rfl dX9_ifLength_44 (pc2 := 47) rfl ?_
        refine kg_getr clX4 rfl 5 (Nat.le_of_ble_eq_true rfl) lfRX9_198 tX_12 eX_12 rfl dX9_ifLength_47 (pc2 := 50) rfl ?_
        refine kg_iload_n 1 dX9_ifLength_50 rfl (pc2 := 51) rfl ?_
        obtain ⟨q7, h⟩ := kw_chk_e h
        refine kg_iald tX_20 eX_20 q7 (j := a1.toNatClampNeg) rfl dX9_ifLength_51 (pc2 := 52) rfl ?_
        refine kg_iload_n 2 dX9_ifLength_52 rfl (pc2 := 53) rfl ?_
        refine kg_icmp_ne 59 dX9_ifLength_53 rfl (pc2 := 56) rfl (fun q8 => ?_) (fun q8 => ?_)
        · replace h := (if_neg q8).symm.trans h
          refine kg_aload_n 0 dX9_ifLength_59 rfl (pc2 := 60) rfl ?_
          refine kg_getr clX9 rfl 10 (Nat.le_of_ble_eq_true rfl) lfRX9_72 tX_0 eX_0 rfl dX9_ifLength_60 (pc2 := 63) rfl ?_
          refine kg_aload_n 0 dX9_ifLength_63 rfl (pc2 := 64) rfl ?_
          refine kg_getr clX9 rfl 0 (Nat.le_of_ble_eq_true rfl) lfRX9_10 tX_0 eX_0 rfl dX9_ifLength_64 (pc2 := 67) rfl ?_
          refine kg_getr clX7 rfl 0 (Nat.le_of_ble_eq_true rfl) lfRX9_148 tX_1 eX_1 rfl dX9_ifLength_67 (pc2 := 70) rfl ?_
          obtain ⟨r9, r9h, h⟩ := kw_bind_e h
          refine kg_callV (μ := μX9_ifLength) (d := (d + 3)) rfl mVX4_copyFrom [.ref 12] [] (gX4_copyFrom (E := E) (d := (d + 2)) 10 12 kx_4_10 kx_4_12 σ r9h) rfl lmRX9_185 (ci := 4) rfl tX_10 eX_10 rfl (Nat.le_of_ble_eq_true rfl) dX9_ifLength_70 rfl (st2 := []) rfl (pc2 := 73) rfl ?_
          refine kg_aload_n 0 dX9_ifLength_73 rfl (pc2 := 74) rfl ?_
          refine kg_getr clX9 rfl 10 (Nat.le_of_ble_eq_true rfl) lfRX9_72 tX_0 eX_0 rfl dX9_ifLength_74 (pc2 := 77) rfl ?_
          refine kg_getr clX4 rfl 5 (Nat.le_of_ble_eq_true rfl) lfRX9_198 tX_10 eX_10 rfl dX9_ifLength_77 (pc2 := 80) rfl ?_
          refine kg_iload_n 1 dX9_ifLength_80 rfl (pc2 := 81) rfl ?_
          refine kg_iload_n 2 dX9_ifLength_81 rfl (pc2 := 82) rfl ?_
          obtain ⟨s10, s10e, h⟩ := kw_let_e h
          refine kg_iast tX_34 eX_34 q7 (j := a1.toNatClampNeg) rfl s10e dX9_ifLength_82 (pc2 := 83) rfl ?_
          refine kg_aload_n 0 dX9_ifLength_83 rfl (pc2 := 84) rfl ?_
          refine kg_iload_n 1 dX9_ifLength_84 rfl (pc2 := 85) rfl ?_
          refine kg_aload_n 0 dX9_ifLength_85 rfl (pc2 := 86) rfl ?_
          refine kg_getr clX9 rfl 0 (Nat.le_of_ble_eq_true rfl) lfRX9_10 tX_0 eX_0 rfl dX9_ifLength_86 (pc2 := 89) rfl ?_
          refine kg_geti clX7 rfl 2 (Nat.le_of_ble_eq_true rfl) lfRX9_189 tX_1 eX_1 rfl dX9_ifLength_89 (pc2 := 92) rfl ?_
          obtain ⟨r11, r11h, h⟩ := kw_bind_e h
          refine kg_callV (μ := μX9_ifLength) (d := (d + 3)) rfl mVX9_judgeAside [.int a1, .int (s10.1 1 2)] [] (gX9_judgeAside (E := E) (d := d) a1 (s10.1 1 2) s10 r11h) rfl lmRX9_207 (ci := 9) rfl tX_0 eX_0 rfl (Nat.le_of_ble_eq_true rfl) dX9_ifLength_92 rfl (st2 := [.int r11.1]) rfl (pc2 := 95) rfl ?_
          refine kg_istore_n dX9_ifLength_95 rfl (Nat.le_of_ble_eq_true rfl) rfl (lv2 := [(3, .int r11.1), (0, .ref 0), (1, .int a1), (2, .int a2)]) rfl (pc2 := 96) rfl ?_
          refine kg_iload_n 0 dX9_ifLength_96 rfl (pc2 := 97) rfl ?_
          refine kg_if_eq 104 dX9_ifLength_97 rfl (pc2 := 100) rfl (fun q12 => ?_) (fun q12 => ?_)
          · replace h := (if_pos q12).symm.trans h
            refine kg_aload_n 1 dX9_ifLength_104 rfl (pc2 := 105) rfl ?_
            refine kg_getr clX9 rfl 0 (Nat.le_of_ble_eq_true rfl) lfRX9_10 tX_0 eX_0 rfl dX9_ifLength_105 (pc2 := 108) rfl ?_
            refine kg_aload_n 1 dX9_ifLength_108 rfl (pc2 := 109) rfl ?_
            refine kg_getr clX9 rfl 11 (Nat.le_of_ble_eq_true rfl) lfRX9_76 tX_0 eX_0 rfl dX9_ifLength_109 (pc2 := 112) rfl ?_
            obtain ⟨r13, r13h, h⟩ := kw_bind_e h
            refine kg_callV (μ := μX9_ifLength) (d := (d + 3)) rfl mVX7_countOthers [.ref 11] [] (gX7_countOthers (E := E) (d := (d + 3)) r11.2 r13h) rfl lmRX9_431 (ci := 7) rfl tX_1 eX_1 rfl (Nat.le_of_ble_eq_true rfl) dX9_ifLength_112 rfl (st2 := [.int r13]) rfl (pc2 := 115) rfl ?_
            cases h
            exact kg_iret (ty := .int) dX9_ifLength_115 rfl rfl
          · replace h := (if_neg q12).symm.trans h
            refine kg_iload_n 0 dX9_ifLength_100 rfl (pc2 := 101) rfl ?_
            refine kg_goto 115 dX9_ifLength_101 rfl ?_
            cases h
            exact kg_iret (ty := .int) dX9_ifLength_115 rfl rfl
        · replace h := (if_pos q8).symm.trans h
          refine kg_bipush dX9_ifLength_56 kb_m2 (pc2 := 58) rfl ?_
          cases h
          exact kg_iret (ty := .int) dX9_ifLength_58 rfl rfl
      · replace h := (if_pos q6).symm.trans h
        refine kg_bipush dX9_ifLength_37 kb_m6 (pc2 := 39) rfl ?_
        cases h
        exact kg_iret (ty := .int) dX9_ifLength_39 rfl rfl
    · replace h := (if_pos q4).symm.trans h
      refine kg_iconst dX9_ifLength_21 ki_m1 (pc2 := 22) rfl ?_
      cases h
      exact kg_iret (ty := .int) dX9_ifLength_22 rfl rfl
set_option maxHeartbeats 4000000 in
set_option maxRecDepth 100000 in
theorem gX9_drawAfter {E : kw_E} {d : Nat} (a0 : Int32) (σ : kw_M) {r : Int32} (h : fX9_drawAfter a0 σ = some r) : kw_Met E kwTX 48 d μX9_drawAfter [.int a0] σ (some (Value.int r)) σ := by
  refine kw_enter plRX9 (Nat.le_of_ble_eq_true rfl) ?_
  show kw_G E kwTX 48 d μX9_drawAfter 0 [(0, .int a0)] [] σ (some (Value.int r)) σ
  unfold fX9_drawAfter at h
  refine kg_sipush dX9_drawAfter_0 ks_25173 (pc2 := 3) rfl ?_
  refine kg_iload_n 0 dX9_drawAfter_3 rfl (pc2 := 4) rfl ?_
  refine kg_imul dX9_drawAfter_4 (pc2 := 5) rfl ?_
  refine kg_sipush dX9_drawAfter_5 ks_13849 (pc2 := 8) rfl ?_
  refine kg_iadd dX9_drawAfter_8 (pc2 := 9) rfl ?_
  refine kg_ldcw rfl lcRX9_442 dX9_drawAfter_9 (pc2 := 12) rfl ?_
  refine kg_irem dX9_drawAfter_12 (by decide) (pc2 := 13) rfl ?_
  cases h
  exact kg_iret (ty := .int) dX9_drawAfter_13 rfl rfl
set_option maxHeartbeats 4000000 in
set_option maxRecDepth 100000 in
theorem gjX9_drawChange_67 {E : kw_E} {d : Nat} (v1 : Int32) (v3 : Int64) (v5 : Int32) (σ : kw_M) {r : kw_M} (h : jX9_drawChange_67 v1 v3 v5 σ = some r) : kw_G E kwTX 48 (d + 4) μX9_drawChange 67 [(0, .ref 0), (1, .int v1), (3, .long v3), (5, .int v5)] [] σ none r := by
  unfold jX9_drawChange_67 at h
  refine kg_aload_n 0 dX9_drawChange_67 rfl (pc2 := 68) rfl ?_
  refine kg_iload_n 1 dX9_drawChange_68 rfl (pc2 := 69) rfl ?_
  refine kg_aload_n 0 dX9_drawChange_69 rfl (pc2 := 70) rfl ?_
  refine kg_getr clX9 rfl 0 (Nat.le_of_ble_eq_true rfl) lfRX9_10 tX_0 eX_0 rfl dX9_drawChange_70 (pc2 := 73) rfl ?_
  refine kg_geti clX7 rfl 2 (Nat.le_of_ble_eq_true rfl) lfRX9_189 tX_1 eX_1 rfl dX9_drawChange_73 (pc2 := 76) rfl ?_
  obtain ⟨r8, r8h, h⟩ := kw_bind_e h
  refine kg_callV (μ := μX9_drawChange) (d := (d + 3)) rfl mVX9_judgeAside [.int v1, .int (σ.1 1 2)] [] (gX9_judgeAside (E := E) (d := d) v1 (σ.1 1 2) σ r8h) rfl lmRX9_207 (ci := 9) rfl tX_0 eX_0 rfl (Nat.le_of_ble_eq_true rfl) dX9_drawChange_76 rfl (st2 := [.int r8.1]) rfl (pc2 := 79) rfl ?_
  refine kg_if_eq 101 dX9_drawChange_79 rfl (pc2 := 82) rfl (fun q9 => ?_) (fun q9 => ?_)
  · replace h := (if_pos q9).symm.trans h
    cases h
    exact kg_vret dX9_drawChange_101 rfl
  · replace h := (if_neg q9).symm.trans h
    refine kg_aload_n 0 dX9_drawChange_82 rfl (pc2 := 83) rfl ?_
    refine kg_getr clX9 rfl 10 (Nat.le_of_ble_eq_true rfl) lfRX9_72 tX_0 eX_0 rfl dX9_drawChange_83 (pc2 := 86) rfl ?_
    refine kg_lload_n 2 dX9_drawChange_86 rfl (pc2 := 87) rfl ?_
    obtain ⟨s10, s10e, h⟩ := kw_let_e h
    refine kg_putl clX4 rfl 2 (Nat.le_of_ble_eq_true rfl) lfRX9_219 rfl tX_10 eX_10 rfl (ty := .long) (by decide +kernel) rfl rfl s10e dX9_drawChange_87 (pc2 := 90) rfl ?_
    refine kg_aload_n 0 dX9_drawChange_90 rfl (pc2 := 91) rfl ?_
    refine kg_getr clX9 rfl 10 (Nat.le_of_ble_eq_true rfl) lfRX9_72 tX_0 eX_0 rfl dX9_drawChange_91 (pc2 := 94) rfl ?_
    refine kg_getr clX4 rfl 5 (Nat.le_of_ble_eq_true rfl) lfRX9_198 tX_10 eX_10 rfl dX9_drawChange_94 (pc2 := 97) rfl ?_
    refine kg_iload_n 1 dX9_drawChange_97 rfl (pc2 := 98) rfl ?_
    refine kg_iload 3 dX9_drawChange_98 rfl (pc2 := 100) rfl ?_
    obtain ⟨q11, h⟩ := kw_chk_e h
    obtain ⟨s12, s12e, h⟩ := kw_let_e h
    refine kg_iast tX_34 eX_34 q11 (j := v1.toNatClampNeg) rfl s12e dX9_drawChange_100 (pc2 := 101) rfl ?_
    cases h
    exact kg_vret dX9_drawChange_101 rfl
set_option maxHeartbeats 4000000 in
set_option maxRecDepth 100000 in
theorem gX9_drawChange {E : kw_E} {d : Nat} (a1 : Int32) (a2 : Int32) (σ : kw_M) {r : kw_M} (h : fX9_drawChange a1 a2 σ = some r) : kw_Met E kwTX 48 (d + 4) μX9_drawChange [.ref 0, .int a1, .int a2] σ none r := by
  refine kw_enter plRX9 (Nat.le_of_ble_eq_true rfl) ?_
  show kw_G E kwTX 48 (d + 4) μX9_drawChange 0 [(0, .ref 0), (1, .int a1), (2, .int a2)] [] σ none r
  unfold fX9_drawChange at h
  refine kg_aload_n 0 dX9_drawChange_0 rfl (pc2 := 1) rfl ?_
  refine kg_getr clX9 rfl 10 (Nat.le_of_ble_eq_true rfl) lfRX9_72 tX_0 eX_0 rfl dX9_drawChange_1 (pc2 := 4) rfl ?_
  refine kg_getl clX4 rfl 2 (Nat.le_of_ble_eq_true rfl) lfRX9_219 tX_10 eX_10 rfl dX9_drawChange_4 (pc2 := 7) rfl ?_
  obtain ⟨x1, x1e, h⟩ := kw_let_e h
  refine kg_lstore_n dX9_drawChange_7 rfl (Nat.le_of_ble_eq_true rfl) x1e (lv2 := [(3, .long x1), (0, .ref 0), (1, .int a1), (2, .int a2)]) rfl (pc2 := 8) rfl ?_
  refine kg_aload_n 1 dX9_drawChange_8 rfl (pc2 := 9) rfl ?_
  refine kg_getr clX9 rfl 10 (Nat.le_of_ble_eq_true rfl) lfRX9_72 tX_0 eX_0 rfl dX9_drawChange_9 (pc2 := 12) rfl ?_
  refine kg_getr clX4 rfl 5 (Nat.le_of_ble_eq_true rfl) lfRX9_198 tX_10 eX_10 rfl dX9_drawChange_12 (pc2 := 15) rfl ?_
  refine kg_iload_n 2 dX9_drawChange_15 rfl (pc2 := 16) rfl ?_
  obtain ⟨q2, h⟩ := kw_chk_e h
  refine kg_iald tX_34 eX_34 q2 (j := a1.toNatClampNeg) rfl dX9_drawChange_16 (pc2 := 17) rfl ?_
  obtain ⟨x3, x3e, h⟩ := kw_let_e h
  refine kg_istore dX9_drawChange_17 (Nat.le_of_ble_eq_true rfl) x3e (lv2 := [(5, .int x3), (3, .long x1), (0, .ref 0), (1, .int a1), (2, .int a2)]) rfl (pc2 := 19) rfl ?_
  refine kg_iload_n 4 dX9_drawChange_19 rfl (pc2 := 20) rfl ?_
  refine kg_bipush dX9_drawChange_20 kb_8 (pc2 := 22) rfl ?_
  refine kg_irem dX9_drawChange_22 (by decide) (pc2 := 23) rfl ?_
  refine kg_if_ne 37 dX9_drawChange_23 rfl (pc2 := 26) rfl (fun q4 => ?_) (fun q4 => ?_)
  · replace h := (if_neg q4).symm.trans h
    refine kg_aload_n 2 dX9_drawChange_37 rfl (pc2 := 38) rfl ?_
    refine kg_getr clX9 rfl 10 (Nat.le_of_ble_eq_true rfl) lfRX9_72 tX_0 eX_0 rfl dX9_drawChange_38 (pc2 := 41) rfl ?_
    refine kg_getr clX4 rfl 5 (Nat.le_of_ble_eq_true rfl) lfRX9_198 tX_10 eX_10 rfl dX9_drawChange_41 (pc2 := 44) rfl ?_
    refine kg_iload_n 3 dX9_drawChange_44 rfl (pc2 := 45) rfl ?_
    refine kg_bipush dX9_drawChange_45 kb_m100 (pc2 := 47) rfl ?_
    refine kg_sipush dX9_drawChange_47 ks_10000 (pc2 := 50) rfl ?_
    refine kg_iload 0 dX9_drawChange_50 rfl (pc2 := 52) rfl ?_
    refine kg_iload_n 4 dX9_drawChange_52 rfl (pc2 := 53) rfl ?_
    refine kg_bipush dX9_drawChange_53 kb_41 (pc2 := 55) rfl ?_
    refine kg_irem dX9_drawChange_55 (by decide) (pc2 := 56) rfl ?_
    refine kg_iadd dX9_drawChange_56 (pc2 := 57) rfl ?_
    refine kg_bipush dX9_drawChange_57 kb_10 (pc2 := 59) rfl ?_
    refine kg_isub dX9_drawChange_59 (pc2 := 60) rfl ?_
    obtain ⟨x5, x5e, h⟩ := kw_let_e h
    refine kg_mmin (μ := μX9_drawChange) (d := (d + 3)) rfl rfl mmRX9_443 (Nat.le_of_ble_eq_true rfl) x5e dX9_drawChange_60 (pc2 := 63) rfl ?_
    obtain ⟨x6, x6e, h⟩ := kw_let_e h
    refine kg_mmax (μ := μX9_drawChange) (d := (d + 3)) rfl rfl mmRX9_446 (Nat.le_of_ble_eq_true rfl) x6e dX9_drawChange_63 (pc2 := 66) rfl ?_
    obtain ⟨s7, s7e, h⟩ := kw_let_e h
    refine kg_iast tX_34 eX_34 q2 (j := a1.toNatClampNeg) rfl s7e dX9_drawChange_66 (pc2 := 67) rfl ?_
    refine kg_sub [2, 3, 1, 0] (lv2 := [(0, .ref 0), (1, .int a1), (3, .long x1), (5, .int x3)]) rfl ?_
    exact gjX9_drawChange_67 a1 x1 x3 s7 h
  · replace h := (if_pos q4).symm.trans h
    refine kg_aload_n 2 dX9_drawChange_26 rfl (pc2 := 27) rfl ?_
    refine kg_getr clX9 rfl 10 (Nat.le_of_ble_eq_true rfl) lfRX9_72 tX_0 eX_0 rfl dX9_drawChange_27 (pc2 := 30) rfl ?_
    refine kg_iload_n 3 dX9_drawChange_30 rfl (pc2 := 31) rfl ?_
    obtain ⟨r13, r13h, h⟩ := kw_bind_e h
    refine kg_callV (μ := μX9_drawChange) (d := (d + 3)) rfl mVX4_flip [.int a1] [] (gX4_flip (E := E) (d := (d + 3)) a1 σ r13h) rfl lmRX9_204 (ci := 4) rfl tX_10 eX_10 rfl (Nat.le_of_ble_eq_true rfl) dX9_drawChange_31 rfl (st2 := []) rfl (pc2 := 34) rfl ?_
    refine kg_goto 67 dX9_drawChange_34 rfl ?_
    refine kg_sub [2, 3, 1, 0] (lv2 := [(0, .ref 0), (1, .int a1), (3, .long x1), (5, .int x3)]) rfl ?_
    exact gjX9_drawChange_67 a1 x1 x3 r13 h
