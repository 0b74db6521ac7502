/-! The class, method by method: the machine does what f says (g). -/
set_option maxHeartbeats 4000000 in
set_option maxRecDepth 100000 in
theorem gX9_through {E : kw_E} {d : Nat} (a1 : Int32) (a2 : Int32) (σ : kw_M) {r : Int64 × kw_M} (h : fX9_through a1 a2 σ = some r) : kw_Met E kwTX 47 (d + 4) μX9_through [.ref 0, .int a1, .int a2] σ (some (Value.long r.1)) r.2 := by
  refine kw_enter plRX9 (Nat.le_of_ble_eq_true rfl) ?_
  show kw_G E kwTX 47 (d + 4) μX9_through 0 [(0, .ref 0), (1, .int a1), (2, .int a2)] [] σ (some (Value.long r.1)) r.2
  unfold fX9_through at h
  refine kg_aload_n 0 dX9_through_0 rfl (pc2 := 1) rfl ?_
  refine kg_getr clX9 rfl 0 (Nat.le_of_ble_eq_true rfl) lfRX9_10 tX_0 eX_0 rfl dX9_through_1 (pc2 := 4) rfl ?_
  refine kg_getr clX7 rfl 0 (Nat.le_of_ble_eq_true rfl) lfRX9_148 tX_1 eX_1 rfl dX9_through_4 (pc2 := 7) rfl ?_
  refine kg_iload_n 1 dX9_through_7 rfl (pc2 := 8) rfl ?_
  obtain ⟨r1, r1h, h⟩ := kw_bind_e h
  refine kg_callV (μ := μX9_through) (d := (d + 3)) rfl mVX4_hasTown [.int a1] [] (gX4_hasTown (E := E) (d := (d + 3)) a1 σ r1h) rfl lmRX9_176 (ci := 4) rfl tX_12 eX_12 rfl (Nat.le_of_ble_eq_true rfl) dX9_through_8 rfl (st2 := [.int r1]) rfl (pc2 := 11) rfl ?_
  refine kg_if_eq 28 dX9_through_11 rfl (pc2 := 14) rfl (fun q2 => ?_) (fun q2 => ?_)
  · replace h := (if_pos q2).symm.trans h
    refine kg_ldc2 rfl lcRX9_261 dX9_through_28 (pc2 := 31) rfl ?_
    cases h
    exact kg_lret dX9_through_31 rfl
  · replace h := (if_neg q2).symm.trans h
    refine kg_aload_n 0 dX9_through_14 rfl (pc2 := 15) rfl ?_
    refine kg_getr clX9 rfl 0 (Nat.le_of_ble_eq_true rfl) lfRX9_10 tX_0 eX_0 rfl dX9_through_15 (pc2 := 18) rfl ?_
    refine kg_getr clX7 rfl 0 (Nat.le_of_ble_eq_true rfl) lfRX9_148 tX_1 eX_1 rfl dX9_through_18 (pc2 := 21) rfl ?_
    refine kg_iload_n 2 dX9_through_21 rfl (pc2 := 22) rfl ?_
    obtain ⟨r3, r3h, h⟩ := kw_bind_e h
    refine kg_callV (μ := μX9_through) (d := (d + 3)) rfl mVX4_hasTown [.int a2] [] (gX4_hasTown (E := E) (d := (d + 3)) a2 σ r3h) rfl lmRX9_176 (ci := 4) rfl tX_12 eX_12 rfl (Nat.le_of_ble_eq_true rfl) dX9_through_22 rfl (st2 := [.int r3]) rfl (pc2 := 25) rfl ?_
    refine kg_if_ne 32 dX9_through_25 rfl (pc2 := 28) rfl (fun q4 => ?_) (fun q4 => ?_)
    · replace h := (if_neg q4).symm.trans h
      refine kg_aload_n 0 dX9_through_32 rfl (pc2 := 33) rfl ?_
      refine kg_getr clX9 rfl 0 (Nat.le_of_ble_eq_true rfl) lfRX9_10 tX_0 eX_0 rfl dX9_through_33 (pc2 := 36) rfl ?_
      refine kg_getr clX7 rfl 9 (Nat.le_of_ble_eq_true rfl) lfRX9_284 tX_1 eX_1 rfl dX9_through_36 (pc2 := 39) rfl ?_
      refine kg_iload_n 2 dX9_through_39 rfl (pc2 := 40) rfl ?_
      obtain ⟨q5, h⟩ := kw_chk_e h
      refine kg_lald tX_16 eX_16 q5 (j := a2.toNatClampNeg) rfl dX9_through_40 (pc2 := 41) rfl ?_
      refine kg_aload_n 0 dX9_through_41 rfl (pc2 := 42) rfl ?_
      obtain ⟨r6, r6h, h⟩ := kw_bind_e h
      refine kg_callV (μ := μX9_through) (d := (d + 3)) rfl mVX9_rightPairs [] [.long (σ.2 16 a2.toNatClampNeg)] (gX9_rightPairs (E := E) (d := d) σ r6h) rfl lmRX9_251 (ci := 9) rfl tX_0 eX_0 rfl (Nat.le_of_ble_eq_true rfl) dX9_through_42 rfl (st2 := [.ref 5, .long (σ.2 16 a2.toNatClampNeg)]) rfl (pc2 := 45) rfl ?_
      refine kg_iload_n 2 dX9_through_45 rfl (pc2 := 46) rfl ?_
      refine kg_iload_n 1 dX9_through_46 rfl (pc2 := 47) rfl ?_
      obtain ⟨r7, r7h, h⟩ := kw_bind_e h
      refine kg_callV (μ := μX9_through) (d := (d + 3)) rfl mVX2_span [.int a2, .int a1] [.long (σ.2 16 a2.toNatClampNeg)] (gX2_span (E := E) (d := (d + 3)) a2 a1 r6 r7h) rfl lmRX9_360 (ci := 2) rfl tX_5 eX_5 rfl (Nat.le_of_ble_eq_true rfl) dX9_through_47 rfl (st2 := [.long r7, .long (σ.2 16 a2.toNatClampNeg)]) rfl (pc2 := 50) rfl ?_
      obtain ⟨r8, r8h, h⟩ := kw_bind_e h
      refine kg_callS (μ := μX9_through) (d := (d + 3)) rfl mSX9_joined [.long (σ.2 16 a2.toNatClampNeg), .long r7] [] (gX9_joined (E := E) (d := (d + 3)) (σ.2 16 a2.toNatClampNeg) r7 r6 r8h) rfl lmRX9_381 rfl (Nat.le_of_ble_eq_true rfl) dX9_through_50 rfl (st2 := [.long r8]) rfl (pc2 := 53) rfl ?_
      cases h
      exact kg_lret dX9_through_53 rfl
    · replace h := (if_pos q4).symm.trans h
      refine kg_ldc2 rfl lcRX9_261 dX9_through_28 (pc2 := 31) rfl ?_
      cases h
      exact kg_lret dX9_through_31 rfl
set_option maxHeartbeats 4000000 in
set_option maxRecDepth 100000 in
theorem gX2_wouldMakeBadRing {E : kw_E} {d : Nat} (a1 : Int32) (a2 : Int32) (a3 : Int32) (σ : kw_M) {r : Int32} (h : fX2_wouldMakeBadRing a1 a2 a3 σ = some r) : kw_Met E kwTX 47 (d + 2) μX2_wouldMakeBadRing [.ref 5, .int a1, .int a2, .int a3] σ (some (Value.int r)) σ := by
  refine kw_enter plRX2 (Nat.le_of_ble_eq_true rfl) ?_
  show kw_G E kwTX 47 (d + 2) μX2_wouldMakeBadRing 0 [(0, .ref 5), (1, .int a1), (2, .int a2), (3, .int a3)] [] σ (some (Value.int r)) σ
  unfold fX2_wouldMakeBadRing at h
  refine kg_aload_n 0 dX2_wouldMakeBadRing_0 rfl (pc2 := 1) rfl ?_
  refine kg_iload_n 2 dX2_wouldMakeBadRing_1 rfl (pc2 := 2) rfl ?_
  refine kg_iload_n 1 dX2_wouldMakeBadRing_2 rfl (pc2 := 3) rfl ?_
  obtain ⟨r1, r1h, h⟩ := kw_bind_e h
  refine kg_callV (μ := μX2_wouldMakeBadRing) (d := (d + 1)) rfl mVX2_comesTo [.int a2, .int a1] [] (gX2_comesTo (E := E) (d := d) a2 a1 σ r1h) rfl lmRX2_45 (ci := 2) rfl tX_5 eX_5 rfl (Nat.le_of_ble_eq_true rfl) dX2_wouldMakeBadRing_3 rfl (st2 := [.int r1]) rfl (pc2 := 6) rfl ?_
  refine kg_if_eq 27 dX2_wouldMakeBadRing_6 rfl (pc2 := 9) rfl (fun q2 => ?_) (fun q2 => ?_)
  · replace h := (if_pos q2).symm.trans h
    refine kg_iconst dX2_wouldMakeBadRing_27 ki_0 (pc2 := 28) rfl ?_
    cases h
    exact kg_iret (ty := .boolean) dX2_wouldMakeBadRing_28 rfl rfl
  · replace h := (if_neg q2).symm.trans h
    refine kg_aload_n 0 dX2_wouldMakeBadRing_9 rfl (pc2 := 10) rfl ?_
    refine kg_iload_n 2 dX2_wouldMakeBadRing_10 rfl (pc2 := 11) rfl ?_
    refine kg_iload_n 1 dX2_wouldMakeBadRing_11 rfl (pc2 := 12) rfl ?_
    obtain ⟨r3, r3h, h⟩ := kw_bind_e h
    refine kg_callV (μ := μX2_wouldMakeBadRing) (d := (d + 1)) rfl mVX2_span [.int a2, .int a1] [] (gX2_span (E := E) (d := (d + 1)) a2 a1 σ r3h) rfl lmRX2_39 (ci := 2) rfl tX_5 eX_5 rfl (Nat.le_of_ble_eq_true rfl) dX2_wouldMakeBadRing_12 rfl (st2 := [.long r3]) rfl (pc2 := 15) rfl ?_
    refine kg_iload_n 3 dX2_wouldMakeBadRing_15 rfl (pc2 := 16) rfl ?_
    refine kg_i2l dX2_wouldMakeBadRing_16 (pc2 := 17) rfl ?_
    refine kg_ladd dX2_wouldMakeBadRing_17 (pc2 := 18) rfl ?_
    refine kg_lconst dX2_wouldMakeBadRing_18 kl_0 (pc2 := 19) rfl ?_
    refine kg_lcmp_gt 27 dX2_wouldMakeBadRing_19 dX2_wouldMakeBadRing_20 rfl (pc2 := 23) rfl (fun q4 => ?_) (fun q4 => ?_)
    · replace h := (if_pos q4).symm.trans h
      refine kg_iconst dX2_wouldMakeBadRing_27 ki_0 (pc2 := 28) rfl ?_
      cases h
      exact kg_iret (ty := .boolean) dX2_wouldMakeBadRing_28 rfl rfl
    · replace h := (if_neg q4).symm.trans h
      refine kg_iconst dX2_wouldMakeBadRing_23 ki_1 (pc2 := 24) rfl ?_
      refine kg_goto 28 dX2_wouldMakeBadRing_24 rfl ?_
      cases h
      exact kg_iret (ty := .boolean) dX2_wouldMakeBadRing_28 rfl rfl
set_option maxHeartbeats 4000000 in
set_option maxRecDepth 100000 in
theorem lX9_savedBy_6 {E : kw_E} {d : Nat} (v1 : Int32) (v2 : Int32) (v3 : Int32) (σ : kw_M) (v4 : Int64) (v6 : Int32) {v : Option Value} {σ2 : kw_M} {o : (Int64 × Int32) ⊕ (Int64)} (h : bX9_savedBy_6 v1 v2 v3 σ v4 v6 = some o) (hk : Sum.elim (fun s => kw_G E kwTX 47 (d + 1) μX9_savedBy 6 [(0, .ref 0), (1, .int v1), (2, .int v2), (3, .int v3), (4, .long s.1), (6, .int s.2)] [] σ v σ2) (fun y => kw_G E kwTX 47 (d + 1) μX9_savedBy 95 [(4, .long y)] [] σ v σ2) o) : kw_G E kwTX 47 (d + 1) μX9_savedBy 6 [(0, .ref 0), (1, .int v1), (2, .int v2), (3, .int v3), (4, .long v4), (6, .int v6)] [] σ v σ2 := by
  unfold bX9_savedBy_6 at h
  refine kg_iload 5 dX9_savedBy_6 rfl (pc2 := 8) rfl ?_
  refine kg_aload_n 0 dX9_savedBy_8 rfl (pc2 := 9) rfl ?_
  refine kg_getr clX9 rfl 0 (Nat.le_of_ble_eq_true rfl) lfRX9_10 tX_0 eX_0 rfl dX9_savedBy_9 (pc2 := 12) rfl ?_
  refine kg_getr clX7 rfl 0 (Nat.le_of_ble_eq_true rfl) lfRX9_148 tX_1 eX_1 rfl dX9_savedBy_12 (pc2 := 15) rfl ?_
  refine kg_geti clX4 rfl 0 (Nat.le_of_ble_eq_true rfl) lfRX9_151 tX_12 eX_12 rfl dX9_savedBy_15 (pc2 := 18) rfl ?_
  refine kg_icmp_ge 95 dX9_savedBy_18 rfl (pc2 := 21) rfl (fun q1 => ?_) (fun q1 => ?_)
  · replace h := (if_pos q1).symm.trans h
    refine kg_sub [4] (lv2 := [(4, .long v4)]) rfl ?_
    cases h
    exact hk
  · replace h := (if_neg q1).symm.trans h
    refine kg_aload_n 0 dX9_savedBy_21 rfl (pc2 := 22) rfl ?_
    refine kg_getr clX9 rfl 5 (Nat.le_of_ble_eq_true rfl) lfRX9_36 tX_0 eX_0 rfl dX9_savedBy_22 (pc2 := 25) rfl ?_
    refine kg_iload_n 2 dX9_savedBy_25 rfl (pc2 := 26) rfl ?_
    refine kg_iload 5 dX9_savedBy_26 rfl (pc2 := 28) rfl ?_
    obtain ⟨r2, r2h, h⟩ := kw_bind_e h
    refine kg_callV (μ := μX9_savedBy) (d := d) rfl mVX2_span [.int v2, .int v6] [] (gX2_span (E := E) (d := d) v2 v6 σ r2h) rfl lmRX9_360 (ci := 2) rfl tX_5 eX_5 rfl (Nat.le_of_ble_eq_true rfl) dX9_savedBy_28 rfl (st2 := [.long r2]) rfl (pc2 := 31) rfl ?_
    refine kg_lstore dX9_savedBy_31 (Nat.le_of_ble_eq_true rfl) rfl (lv2 := [(7, .long r2), (0, .ref 0), (1, .int v1), (2, .int v2), (3, .int v3), (4, .long v4), (6, .int v6)]) rfl (pc2 := 33) rfl ?_
    refine kg_lload 0 dX9_savedBy_33 rfl (pc2 := 35) rfl ?_
    refine kg_ldc2 rfl lcRX9_261 dX9_savedBy_35 (pc2 := 38) rfl ?_
    refine kg_lcmp_eq 89 dX9_savedBy_38 dX9_savedBy_39 rfl (pc2 := 42) rfl (fun q3 => ?_) (fun q3 => ?_)
    · replace h := (if_pos q3).symm.trans h
      obtain ⟨x4, x4e, h⟩ := kw_let_e h
      refine kg_iinc 6 dX9_savedBy_89 rfl (Nat.le_of_ble_eq_true rfl) x4e (lv2 := [(6, .int x4), (7, .long r2), (0, .ref 0), (1, .int v1), (2, .int v2), (3, .int v3), (4, .long v4)]) rfl (pc2 := 92) rfl ?_
      refine kg_goto 6 dX9_savedBy_92 rfl ?_
      refine kg_sub [2, 3, 4, 5, 6, 0] (lv2 := [(0, .ref 0), (1, .int v1), (2, .int v2), (3, .int v3), (4, .long v4), (6, .int x4)]) rfl ?_
      cases h
      exact hk
    · replace h := (if_neg q3).symm.trans h
      refine kg_aload_n 1 dX9_savedBy_42 rfl (pc2 := 43) rfl ?_
      refine kg_getr clX9 rfl 0 (Nat.le_of_ble_eq_true rfl) lfRX9_10 tX_0 eX_0 rfl dX9_savedBy_43 (pc2 := 46) rfl ?_
      refine kg_iload 6 dX9_savedBy_46 rfl (pc2 := 48) rfl ?_
      obtain ⟨r5, r5h, h⟩ := kw_bind_e h
      refine kg_callV (μ := μX9_savedBy) (d := d) rfl mVX7_hasDistance [.int v6] [] (gX7_hasDistance (E := E) (d := d) v6 σ r5h) rfl lmRX9_289 (ci := 7) rfl tX_1 eX_1 rfl (Nat.le_of_ble_eq_true rfl) dX9_savedBy_48 rfl (st2 := [.int r5]) rfl (pc2 := 51) rfl ?_
      refine kg_if_eq 89 dX9_savedBy_51 rfl (pc2 := 54) rfl (fun q6 => ?_) (fun q6 => ?_)
      · replace h := (if_pos q6).symm.trans h
        obtain ⟨x7, x7e, h⟩ := kw_let_e h
        refine kg_iinc 6 dX9_savedBy_89 rfl (Nat.le_of_ble_eq_true rfl) x7e (lv2 := [(6, .int x7), (7, .long r2), (0, .ref 0), (1, .int v1), (2, .int v2), (3, .int v3), (4, .long v4)]) rfl (pc2 := 92) rfl ?_
        refine kg_goto 6 dX9_savedBy_92 rfl ?_
        refine kg_sub [2, 3, 4, 5, 6, 0] (lv2 := [(0, .ref 0), (1, .int v1), (2, .int v2), (3, .int v3), (4, .long v4), (6, .int x7)]) rfl ?_
        cases h
        exact hk
      · replace h := (if_neg q6).symm.trans h
        refine kg_lload 5 dX9_savedBy_54 rfl (pc2 := 56) rfl ?_
        refine kg_lconst dX9_savedBy_56 kl_0 (pc2 := 57) rfl ?_
        refine kg_aload_n 1 dX9_savedBy_57 rfl (pc2 := 58) rfl ?_
        refine kg_getr clX9 rfl 0 (Nat.le_of_ble_eq_true rfl) lfRX9_10 tX_0 eX_0 rfl dX9_savedBy_58 (pc2 := 61) rfl ?_
        refine kg_getr clX7 rfl 9 (Nat.le_of_ble_eq_true rfl) lfRX9_284 tX_1 eX_1 rfl dX9_savedBy_61 (pc2 := 64) rfl ?_
        refine kg_iload 6 dX9_savedBy_64 rfl (pc2 := 66) rfl ?_
        obtain ⟨q8, h⟩ := kw_chk_e h
        refine kg_lald tX_16 eX_16 q8 (j := v6.toNatClampNeg) rfl dX9_savedBy_66 (pc2 := 67) rfl ?_
        refine kg_aload_n 1 dX9_savedBy_67 rfl (pc2 := 68) rfl ?_
        refine kg_getr clX9 rfl 0 (Nat.le_of_ble_eq_true rfl) lfRX9_10 tX_0 eX_0 rfl dX9_savedBy_68 (pc2 := 71) rfl ?_
        refine kg_getr clX7 rfl 9 (Nat.le_of_ble_eq_true rfl) lfRX9_284 tX_1 eX_1 rfl dX9_savedBy_71 (pc2 := 74) rfl ?_
        refine kg_iload_n 2 dX9_savedBy_74 rfl (pc2 := 75) rfl ?_
        obtain ⟨q9, h⟩ := kw_chk_e h
        refine kg_lald tX_16 eX_16 q9 (j := v1.toNatClampNeg) rfl dX9_savedBy_75 (pc2 := 76) rfl ?_
        refine kg_iload_n 4 dX9_savedBy_76 rfl (pc2 := 77) rfl ?_
        refine kg_i2l dX9_savedBy_77 (pc2 := 78) rfl ?_
        refine kg_ladd dX9_savedBy_78 (pc2 := 79) rfl ?_
        refine kg_lload 0 dX9_savedBy_79 rfl (pc2 := 81) rfl ?_
        refine kg_ladd dX9_savedBy_81 (pc2 := 82) rfl ?_
        refine kg_lsub dX9_savedBy_82 (pc2 := 83) rfl ?_
        obtain ⟨x10, x10e, h⟩ := kw_let_e h
        refine kg_mmax_long (μ := μX9_savedBy) (d := d) rfl rfl mmRX9_401 (Nat.le_of_ble_eq_true rfl) x10e dX9_savedBy_83 (pc2 := 86) rfl ?_
        refine kg_ladd dX9_savedBy_86 (pc2 := 87) rfl ?_
        obtain ⟨x11, x11e, h⟩ := kw_let_e h
        refine kg_lstore dX9_savedBy_87 (Nat.le_of_ble_eq_true rfl) x11e (lv2 := [(4, .long x11), (7, .long r2), (0, .ref 0), (1, .int v1), (2, .int v2), (3, .int v3), (6, .int v6)]) rfl (pc2 := 89) rfl ?_
        obtain ⟨x12, x12e, h⟩ := kw_let_e h
        refine kg_iinc 6 dX9_savedBy_89 rfl (Nat.le_of_ble_eq_true rfl) x12e (lv2 := [(6, .int x12), (4, .long x11), (7, .long r2), (0, .ref 0), (1, .int v1), (2, .int v2), (3, .int v3)]) rfl (pc2 := 92) rfl ?_
        refine kg_goto 6 dX9_savedBy_92 rfl ?_
        refine kg_sub [3, 4, 5, 6, 1, 0] (lv2 := [(0, .ref 0), (1, .int v1), (2, .int v2), (3, .int v3), (4, .long x11), (6, .int x12)]) rfl ?_
        cases h
        exact hk
set_option maxHeartbeats 4000000 in
set_option maxRecDepth 100000 in
theorem gX9_savedBy {E : kw_E} {d : Nat} (a1 : Int32) (a2 : Int32) (a3 : Int32) (σ : kw_M) {r : Int64} (h : fX9_savedBy a1 a2 a3 σ = some r) : kw_Met E kwTX 47 (d + 1) μX9_savedBy [.ref 0, .int a1, .int a2, .int a3] σ (some (Value.long r)) σ := by
  refine kw_enter plRX9 (Nat.le_of_ble_eq_true rfl) ?_
  show kw_G E kwTX 47 (d + 1) μX9_savedBy 0 [(0, .ref 0), (1, .int a1), (2, .int a2), (3, .int a3)] [] σ (some (Value.long r)) σ
  unfold fX9_savedBy at h
  refine kg_lconst dX9_savedBy_0 kl_0 (pc2 := 1) rfl ?_
  refine kg_lstore dX9_savedBy_1 (Nat.le_of_ble_eq_true rfl) rfl (lv2 := [(4, .long (0 : Int64)), (0, .ref 0), (1, .int a1), (2, .int a2), (3, .int a3)]) rfl (pc2 := 3) rfl ?_
  refine kg_iconst dX9_savedBy_3 ki_0 (pc2 := 4) rfl ?_
  refine kg_istore dX9_savedBy_4 (Nat.le_of_ble_eq_true rfl) rfl (lv2 := [(6, .int (0 : Int32)), (4, .long (0 : Int64)), (0, .ref 0), (1, .int a1), (2, .int a2), (3, .int a3)]) rfl (pc2 := 6) rfl ?_
  refine kg_sub [2, 3, 4, 5, 1, 0] (lv2 := [(0, .ref 0), (1, .int a1), (2, .int a2), (3, .int a3), (4, .long (0 : Int64)), (6, .int (0 : Int32))]) rfl ?_
  obtain ⟨x13, x13h, h⟩ := kw_bind_e h
  refine kw_loop_e (P := fun s => kw_G E kwTX 47 (d + 1) μX9_savedBy 6 [(0, .ref 0), (1, .int a1), (2, .int a2), (3, .int a3), (4, .long s.1), (6, .int s.2)] [] σ (some (Value.long r)) σ) (K := fun y => kw_G E kwTX 47 (d + 1) μX9_savedBy 95 [(4, .long y)] [] σ (some (Value.long r)) σ) (fun s o h0 hk => lX9_savedBy_6 a1 a2 a3 σ s.1 s.2 h0 hk) kw_F _ _ x13h ?_
  show kw_G E kwTX 47 (d + 1) μX9_savedBy 95 [(4, .long x13)] [] σ (some (Value.long r)) σ
  refine kg_lload 0 dX9_savedBy_95 rfl (pc2 := 97) rfl ?_
  cases h
  exact kg_lret dX9_savedBy_97 rfl
set_option maxHeartbeats 4000000 in
set_option maxRecDepth 100000 in
theorem lX9_findShortcut_31 {E : kw_E} {d : Nat} (v1 : Int32) (v3 : Int32) (v4 : Int32) (σ : kw_M) {v : Option Value} {σ2 : kw_M} {o : (Int32 × kw_M) ⊕ (kw_M)} (h : bX9_findShortcut_31 v1 v3 v4 σ = some o) (hk : Sum.elim (fun s => kw_G E kwTX 47 (d + 4) μX9_findShortcut 31 [(0, .ref 0), (1, .int v1), (2, .ref 5), (3, .int v3), (4, .int s.1)] [] s.2 v σ2) (fun y => kw_G E kwTX 47 (d + 4) μX9_findShortcut 130 [(0, .ref 0), (1, .int v1), (2, .ref 5), (3, .int v3)] [] y v σ2) o) : kw_G E kwTX 47 (d + 4) μX9_findShortcut 31 [(0, .ref 0), (1, .int v1), (2, .ref 5), (3, .int v3), (4, .int v4)] [] σ v σ2 := by
  unfold bX9_findShortcut_31 at h
  refine kg_iload 4 dX9_findShortcut_31 rfl (pc2 := 33) rfl ?_
  refine kg_aload_n 0 dX9_findShortcut_33 rfl (pc2 := 34) rfl ?_
  refine kg_getr clX9 rfl 0 (Nat.le_of_ble_eq_true rfl) lfRX9_10 tX_0 eX_0 rfl dX9_findShortcut_34 (pc2 := 37) rfl ?_
  refine kg_getr clX7 rfl 0 (Nat.le_of_ble_eq_true rfl) lfRX9_148 tX_1 eX_1 rfl dX9_findShortcut_37 (pc2 := 40) rfl ?_
  refine kg_geti clX4 rfl 0 (Nat.le_of_ble_eq_true rfl) lfRX9_151 tX_12 eX_12 rfl dX9_findShortcut_40 (pc2 := 43) rfl ?_
  refine kg_icmp_ge 130 dX9_findShortcut_43 rfl (pc2 := 46) rfl (fun q4 => ?_) (fun q4 => ?_)
  · replace h := (if_pos q4).symm.trans h
    refine kg_sub [0, 1, 2, 3] (lv2 := [(0, .ref 0), (1, .int v1), (2, .ref 5), (3, .int v3)]) rfl ?_
    cases h
    exact hk
  · replace h := (if_neg q4).symm.trans h
    refine kg_iload_n 3 dX9_findShortcut_46 rfl (pc2 := 47) rfl ?_
    refine kg_iload 4 dX9_findShortcut_47 rfl (pc2 := 49) rfl ?_
    refine kg_icmp_eq 124 dX9_findShortcut_49 rfl (pc2 := 52) rfl (fun q5 => ?_) (fun q5 => ?_)
    · replace h := (if_pos q5).symm.trans h
      obtain ⟨x6, x6e, h⟩ := kw_let_e h
      refine kg_iinc 4 dX9_findShortcut_124 rfl (Nat.le_of_ble_eq_true rfl) x6e (lv2 := [(4, .int x6), (0, .ref 0), (1, .int v1), (2, .ref 5), (3, .int v3)]) rfl (pc2 := 127) rfl ?_
      refine kg_goto 31 dX9_findShortcut_127 rfl ?_
      refine kg_sub [1, 2, 3, 4, 0] (lv2 := [(0, .ref 0), (1, .int v1), (2, .ref 5), (3, .int v3), (4, .int x6)]) rfl ?_
      cases h
      exact hk
    · replace h := (if_neg q5).symm.trans h
      refine kg_aload_n 0 dX9_findShortcut_52 rfl (pc2 := 53) rfl ?_
      refine kg_getr clX9 rfl 0 (Nat.le_of_ble_eq_true rfl) lfRX9_10 tX_0 eX_0 rfl dX9_findShortcut_53 (pc2 := 56) rfl ?_
      refine kg_iload_n 3 dX9_findShortcut_56 rfl (pc2 := 57) rfl ?_
      obtain ⟨r7, r7h, h⟩ := kw_bind_e h
      refine kg_callV (μ := μX9_findShortcut) (d := (d + 3)) rfl mVX7_hasDistance [.int v3] [] (gX7_hasDistance (E := E) (d := (d + 3)) v3 σ r7h) rfl lmRX9_289 (ci := 7) rfl tX_1 eX_1 rfl (Nat.le_of_ble_eq_true rfl) dX9_findShortcut_57 rfl (st2 := [.int r7]) rfl (pc2 := 60) rfl ?_
      refine kg_if_eq 124 dX9_findShortcut_60 rfl (pc2 := 63) rfl (fun q8 => ?_) (fun q8 => ?_)
      · replace h := (if_pos q8).symm.trans h
        obtain ⟨x9, x9e, h⟩ := kw_let_e h
        refine kg_iinc 4 dX9_findShortcut_124 rfl (Nat.le_of_ble_eq_true rfl) x9e (lv2 := [(4, .int x9), (0, .ref 0), (1, .int v1), (2, .ref 5), (3, .int v3)]) rfl (pc2 := 127) rfl ?_
        refine kg_goto 31 dX9_findShortcut_127 rfl ?_
        refine kg_sub [1, 2, 3, 4, 0] (lv2 := [(0, .ref 0), (1, .int v1), (2, .ref 5), (3, .int v3), (4, .int x9)]) rfl ?_
        cases h
        exact hk
      · replace h := (if_neg q8).symm.trans h
        refine kg_aload_n 2 dX9_findShortcut_63 rfl (pc2 := 64) rfl ?_
        refine kg_iload_n 3 dX9_findShortcut_64 rfl (pc2 := 65) rfl ?_
        refine kg_iload 4 dX9_findShortcut_65 rfl (pc2 := 67) rfl ?_
        refine kg_iload_n 1 dX9_findShortcut_67 rfl (pc2 := 68) rfl ?_
        obtain ⟨r10, r10h, h⟩ := kw_bind_e h
        refine kg_callV (μ := μX9_findShortcut) (d := (d + 3)) rfl mVX2_wouldMakeBadRing [.int v3, .int v4, .int v1] [] (gX2_wouldMakeBadRing (E := E) (d := (d + 1)) v3 v4 v1 σ r10h) rfl lmRX9_394 (ci := 2) rfl tX_5 eX_5 rfl (Nat.le_of_ble_eq_true rfl) dX9_findShortcut_68 rfl (st2 := [.int r10]) rfl (pc2 := 71) rfl ?_
        refine kg_if_eq 77 dX9_findShortcut_71 rfl (pc2 := 74) rfl (fun q11 => ?_) (fun q11 => ?_)
        · replace h := (if_pos q11).symm.trans h
          refine kg_aload_n 0 dX9_findShortcut_77 rfl (pc2 := 78) rfl ?_
          refine kg_iload_n 3 dX9_findShortcut_78 rfl (pc2 := 79) rfl ?_
          refine kg_iload 4 dX9_findShortcut_79 rfl (pc2 := 81) rfl ?_
          refine kg_iload_n 1 dX9_findShortcut_81 rfl (pc2 := 82) rfl ?_
          obtain ⟨r12, r12h, h⟩ := kw_bind_e h
          refine kg_callV (μ := μX9_findShortcut) (d := (d + 3)) rfl mVX9_savedBy [.int v3, .int v4, .int v1] [] (gX9_savedBy (E := E) (d := (d + 2)) v3 v4 v1 σ r12h) rfl lmRX9_397 (ci := 9) rfl tX_0 eX_0 rfl (Nat.le_of_ble_eq_true rfl) dX9_findShortcut_82 rfl (st2 := [.long r12]) rfl (pc2 := 85) rfl ?_
          refine kg_lstore dX9_findShortcut_85 (Nat.le_of_ble_eq_true rfl) rfl (lv2 := [(5, .long r12), (0, .ref 0), (1, .int v1), (2, .ref 5), (3, .int v3), (4, .int v4)]) rfl (pc2 := 87) rfl ?_
          refine kg_lload 0 dX9_findShortcut_87 rfl (pc2 := 89) rfl ?_
          refine kg_aload_n 1 dX9_findShortcut_89 rfl (pc2 := 90) rfl ?_
          refine kg_getr clX9 rfl 9 (Nat.le_of_ble_eq_true rfl) lfRX9_65 tX_0 eX_0 rfl dX9_findShortcut_90 (pc2 := 93) rfl ?_
          refine kg_iconst dX9_findShortcut_93 ki_2 (pc2 := 94) rfl ?_
          refine kg_lald tX_9 eX_9 (show kw_in (2 : Int32) 3 by decide) (j := 2) (by decide) dX9_findShortcut_94 (pc2 := 95) rfl ?_
          refine kg_lcmp_le 124 dX9_findShortcut_95 dX9_findShortcut_96 rfl (pc2 := 99) rfl (fun q13 => ?_) (fun q13 => ?_)
          · replace h := (if_pos q13).symm.trans h
            obtain ⟨x14, x14e, h⟩ := kw_let_e h
            refine kg_iinc 5 dX9_findShortcut_124 rfl (Nat.le_of_ble_eq_true rfl) x14e (lv2 := [(4, .int x14), (5, .long r12), (0, .ref 0), (1, .int v1), (2, .ref 5), (3, .int v3)]) rfl (pc2 := 127) rfl ?_
            refine kg_goto 31 dX9_findShortcut_127 rfl ?_
            refine kg_sub [2, 3, 4, 5, 0] (lv2 := [(0, .ref 0), (1, .int v1), (2, .ref 5), (3, .int v3), (4, .int x14)]) rfl ?_
            cases h
            exact hk
          · replace h := (if_neg q13).symm.trans h
            refine kg_aload_n 1 dX9_findShortcut_99 rfl (pc2 := 100) rfl ?_
            refine kg_getr clX9 rfl 9 (Nat.le_of_ble_eq_true rfl) lfRX9_65 tX_0 eX_0 rfl dX9_findShortcut_100 (pc2 := 103) rfl ?_
            refine kg_iconst dX9_findShortcut_103 ki_0 (pc2 := 104) rfl ?_
            refine kg_iload_n 4 dX9_findShortcut_104 rfl (pc2 := 105) rfl ?_
            refine kg_i2l dX9_findShortcut_105 (pc2 := 106) rfl ?_
            obtain ⟨s15, s15e, h⟩ := kw_let_e h
            refine kg_last tX_9 eX_9 (show kw_in (0 : Int32) 3 by decide) (j := 0) (by decide) s15e dX9_findShortcut_106 (pc2 := 107) rfl ?_
            refine kg_aload_n 1 dX9_findShortcut_107 rfl (pc2 := 108) rfl ?_
            refine kg_getr clX9 rfl 9 (Nat.le_of_ble_eq_true rfl) lfRX9_65 tX_0 eX_0 rfl dX9_findShortcut_108 (pc2 := 111) rfl ?_
            refine kg_iconst dX9_findShortcut_111 ki_1 (pc2 := 112) rfl ?_
            refine kg_iload 5 dX9_findShortcut_112 rfl (pc2 := 114) rfl ?_
            refine kg_i2l dX9_findShortcut_114 (pc2 := 115) rfl ?_
            obtain ⟨s16, s16e, h⟩ := kw_let_e h
            refine kg_last tX_9 eX_9 (show kw_in (1 : Int32) 3 by decide) (j := 1) (by decide) s16e dX9_findShortcut_115 (pc2 := 116) rfl ?_
            refine kg_aload_n 1 dX9_findShortcut_116 rfl (pc2 := 117) rfl ?_
            refine kg_getr clX9 rfl 9 (Nat.le_of_ble_eq_true rfl) lfRX9_65 tX_0 eX_0 rfl dX9_findShortcut_117 (pc2 := 120) rfl ?_
            refine kg_iconst dX9_findShortcut_120 ki_2 (pc2 := 121) rfl ?_
            refine kg_lload 0 dX9_findShortcut_121 rfl (pc2 := 123) rfl ?_
            obtain ⟨s17, s17e, h⟩ := kw_let_e h
            refine kg_last tX_9 eX_9 (show kw_in (2 : Int32) 3 by decide) (j := 2) (by decide) s17e dX9_findShortcut_123 (pc2 := 124) rfl ?_
            obtain ⟨x18, x18e, h⟩ := kw_let_e h
            refine kg_iinc 5 dX9_findShortcut_124 rfl (Nat.le_of_ble_eq_true rfl) x18e (lv2 := [(4, .int x18), (5, .long r12), (0, .ref 0), (1, .int v1), (2, .ref 5), (3, .int v3)]) rfl (pc2 := 127) rfl ?_
            refine kg_goto 31 dX9_findShortcut_127 rfl ?_
            refine kg_sub [2, 3, 4, 5, 0] (lv2 := [(0, .ref 0), (1, .int v1), (2, .ref 5), (3, .int v3), (4, .int x18)]) rfl ?_
            cases h
            exact hk
        · replace h := (if_neg q11).symm.trans h
          refine kg_goto 124 dX9_findShortcut_74 rfl ?_
          obtain ⟨x19, x19e, h⟩ := kw_let_e h
          refine kg_iinc 4 dX9_findShortcut_124 rfl (Nat.le_of_ble_eq_true rfl) x19e (lv2 := [(4, .int x19), (0, .ref 0), (1, .int v1), (2, .ref 5), (3, .int v3)]) rfl (pc2 := 127) rfl ?_
          refine kg_goto 31 dX9_findShortcut_127 rfl ?_
          refine kg_sub [1, 2, 3, 4, 0] (lv2 := [(0, .ref 0), (1, .int v1), (2, .ref 5), (3, .int v3), (4, .int x19)]) rfl ?_
          cases h
          exact hk
set_option maxHeartbeats 4000000 in
set_option maxRecDepth 100000 in
theorem lX9_findShortcut_14 {E : kw_E} {d : Nat} (v1 : Int32) (v3 : Int32) (σ : kw_M) {v : Option Value} {σ2 : kw_M} {o : (Int32 × kw_M) ⊕ (kw_M)} (h : bX9_findShortcut_14 v1 v3 σ = some o) (hk : Sum.elim (fun s => kw_G E kwTX 47 (d + 4) μX9_findShortcut 14 [(0, .ref 0), (1, .int v1), (2, .ref 5), (3, .int s.1)] [] s.2 v σ2) (fun y => kw_G E kwTX 47 (d + 4) μX9_findShortcut 136 [] [] y v σ2) o) : kw_G E kwTX 47 (d + 4) μX9_findShortcut 14 [(0, .ref 0), (1, .int v1), (2, .ref 5), (3, .int v3)] [] σ v σ2 := by
  unfold bX9_findShortcut_14 at h
  refine kg_iload_n 3 dX9_findShortcut_14 rfl (pc2 := 15) rfl ?_
  refine kg_aload_n 0 dX9_findShortcut_15 rfl (pc2 := 16) rfl ?_
  refine kg_getr clX9 rfl 0 (Nat.le_of_ble_eq_true rfl) lfRX9_10 tX_0 eX_0 rfl dX9_findShortcut_16 (pc2 := 19) rfl ?_
  refine kg_getr clX7 rfl 0 (Nat.le_of_ble_eq_true rfl) lfRX9_148 tX_1 eX_1 rfl dX9_findShortcut_19 (pc2 := 22) rfl ?_
  refine kg_geti clX4 rfl 0 (Nat.le_of_ble_eq_true rfl) lfRX9_151 tX_12 eX_12 rfl dX9_findShortcut_22 (pc2 := 25) rfl ?_
  refine kg_icmp_ge 136 dX9_findShortcut_25 rfl (pc2 := 28) rfl (fun q3 => ?_) (fun q3 => ?_)
  · replace h := (if_pos q3).symm.trans h
    refine kg_sub [] (lv2 := []) rfl ?_
    cases h
    exact hk
  · replace h := (if_neg q3).symm.trans h
    refine kg_iconst dX9_findShortcut_28 ki_0 (pc2 := 29) rfl ?_
    refine kg_istore dX9_findShortcut_29 (Nat.le_of_ble_eq_true rfl) rfl (lv2 := [(4, .int (0 : Int32)), (0, .ref 0), (1, .int v1), (2, .ref 5), (3, .int v3)]) rfl (pc2 := 31) rfl ?_
    refine kg_sub [1, 2, 3, 4, 0] (lv2 := [(0, .ref 0), (1, .int v1), (2, .ref 5), (3, .int v3), (4, .int (0 : Int32))]) rfl ?_
    obtain ⟨x20, x20h, h⟩ := kw_bind_e h
    refine kw_loop_e (P := fun s => kw_G E kwTX 47 (d + 4) μX9_findShortcut 31 [(0, .ref 0), (1, .int v1), (2, .ref 5), (3, .int v3), (4, .int s.1)] [] s.2 v σ2) (K := fun y => kw_G E kwTX 47 (d + 4) μX9_findShortcut 130 [(0, .ref 0), (1, .int v1), (2, .ref 5), (3, .int v3)] [] y v σ2) (fun s o h0 hk => lX9_findShortcut_31 v1 v3 s.1 s.2 h0 hk) kw_F _ _ x20h ?_
    show kw_G E kwTX 47 (d + 4) μX9_findShortcut 130 [(0, .ref 0), (1, .int v1), (2, .ref 5), (3, .int v3)] [] x20 v σ2
    obtain ⟨x21, x21e, h⟩ := kw_let_e h
    refine kg_iinc 3 dX9_findShortcut_130 rfl (Nat.le_of_ble_eq_true rfl) x21e (lv2 := [(3, .int x21), (0, .ref 0), (1, .int v1), (2, .ref 5)]) rfl (pc2 := 133) rfl ?_
    refine kg_goto 14 dX9_findShortcut_133 rfl ?_
    refine kg_sub [1, 2, 3, 0] (lv2 := [(0, .ref 0), (1, .int v1), (2, .ref 5), (3, .int x21)]) rfl ?_
    cases h
    exact hk
set_option maxHeartbeats 4000000 in
set_option maxRecDepth 100000 in
theorem gX9_findShortcut {E : kw_E} {d : Nat} (a1 : Int32) (σ : kw_M) {r : kw_M} (h : fX9_findShortcut a1 σ = some r) : kw_Met E kwTX 47 (d + 4) μX9_findShortcut [.ref 0, .int a1] σ none r := by
  refine kw_enter plRX9 (Nat.le_of_ble_eq_true rfl) ?_
  show kw_G E kwTX 47 (d + 4) μX9_findShortcut 0 [(0, .ref 0), (1, .int a1)] [] σ none r
  unfold fX9_findShortcut at h
  refine kg_aload_n 0 dX9_findShortcut_0 rfl (pc2 := 1) rfl ?_
  obtain ⟨r1, r1h, h⟩ := kw_bind_e h
  refine kg_callV (μ := μX9_findShortcut) (d := (d + 3)) rfl mVX9_rightPairs [] [] (gX9_rightPairs (E := E) (d := d) σ r1h) rfl lmRX9_251 (ci := 9) rfl tX_0 eX_0 rfl (Nat.le_of_ble_eq_true rfl) dX9_findShortcut_1 rfl (st2 := [.ref 5]) rfl (pc2 := 4) rfl ?_
  refine kg_astore_n dX9_findShortcut_4 rfl (Nat.le_of_ble_eq_true rfl) rfl (lv2 := [(2, .ref 5), (0, .ref 0), (1, .int a1)]) rfl (pc2 := 5) rfl ?_
  refine kg_aload_n 1 dX9_findShortcut_5 rfl (pc2 := 6) rfl ?_
  refine kg_getr clX9 rfl 9 (Nat.le_of_ble_eq_true rfl) lfRX9_65 tX_0 eX_0 rfl dX9_findShortcut_6 (pc2 := 9) rfl ?_
  refine kg_iconst dX9_findShortcut_9 ki_2 (pc2 := 10) rfl ?_
  refine kg_lconst dX9_findShortcut_10 kl_0 (pc2 := 11) rfl ?_
  obtain ⟨s2, s2e, h⟩ := kw_let_e h
  refine kg_last tX_9 eX_9 (show kw_in (2 : Int32) 3 by decide) (j := 2) (by decide) s2e dX9_findShortcut_11 (pc2 := 12) rfl ?_
  refine kg_iconst dX9_findShortcut_12 ki_0 (pc2 := 13) rfl ?_
  refine kg_istore_n dX9_findShortcut_13 rfl (Nat.le_of_ble_eq_true rfl) rfl (lv2 := [(3, .int (0 : Int32)), (2, .ref 5), (0, .ref 0), (1, .int a1)]) rfl (pc2 := 14) rfl ?_
  refine kg_sub [2, 3, 1, 0] (lv2 := [(0, .ref 0), (1, .int a1), (2, .ref 5), (3, .int (0 : Int32))]) rfl ?_
  obtain ⟨x22, x22h, h⟩ := kw_bind_e h
  refine kw_loop_e (P := fun s => kw_G E kwTX 47 (d + 4) μX9_findShortcut 14 [(0, .ref 0), (1, .int a1), (2, .ref 5), (3, .int s.1)] [] s.2 none r) (K := fun y => kw_G E kwTX 47 (d + 4) μX9_findShortcut 136 [] [] y none r) (fun s o h0 hk => lX9_findShortcut_14 a1 s.1 s.2 h0 hk) kw_F _ _ x22h ?_
  show kw_G E kwTX 47 (d + 4) μX9_findShortcut 136 [] [] x22 none r
  cases h
  exact kg_vret dX9_findShortcut_136 rfl
set_option maxHeartbeats 4000000 in
set_option maxRecDepth 100000 in
theorem gX9_shortcut {E : kw_E} {d : Nat} (a1 : Int32) (a2 : Int32) (σ : kw_M) {r : Int64 × kw_M} (h : fX9_shortcut a1 a2 σ = some r) : kw_Met E kwTX 47 (d + 5) μX9_shortcut [.ref 0, .int a1, .int a2] σ (some (Value.long r.1)) r.2 := by
  refine kw_enter plRX9 (Nat.le_of_ble_eq_true rfl) ?_
  show kw_G E kwTX 47 (d + 5) μX9_shortcut 0 [(0, .ref 0), (1, .int a1), (2, .int a2)] [] σ (some (Value.long r.1)) r.2
  unfold fX9_shortcut at h
  refine kg_iload_n 1 dX9_shortcut_0 rfl (pc2 := 1) rfl ?_
  obtain ⟨r1, r1h, h⟩ := kw_bind_e h
  refine kg_callS (μ := μX9_shortcut) (d := (d + 4)) rfl mSX9_isLength [.int a1] [] (gX9_isLength (E := E) (d := (d + 4)) a1 σ r1h) rfl lmRX9_179 rfl (Nat.le_of_ble_eq_true rfl) dX9_shortcut_1 rfl (st2 := [.int r1]) rfl (pc2 := 4) rfl ?_
  refine kg_if_eq 16 dX9_shortcut_4 rfl (pc2 := 7) rfl (fun q2 => ?_) (fun q2 => ?_)
  · replace h := (if_pos q2).symm.trans h
    refine kg_ldc2 rfl lcRX9_261 dX9_shortcut_16 (pc2 := 19) rfl ?_
    cases h
    exact kg_lret dX9_shortcut_19 rfl
  · replace h := (if_neg q2).symm.trans h
    refine kg_iload_n 2 dX9_shortcut_7 rfl (pc2 := 8) rfl ?_
    refine kg_if_lt 16 dX9_shortcut_8 rfl (pc2 := 11) rfl (fun q3 => ?_) (fun q3 => ?_)
    · replace h := (if_pos q3).symm.trans h
      refine kg_ldc2 rfl lcRX9_261 dX9_shortcut_16 (pc2 := 19) rfl ?_
      cases h
      exact kg_lret dX9_shortcut_19 rfl
    · replace h := (if_neg q3).symm.trans h
      refine kg_iload_n 2 dX9_shortcut_11 rfl (pc2 := 12) rfl ?_
      refine kg_iconst dX9_shortcut_12 ki_2 (pc2 := 13) rfl ?_
      refine kg_icmp_le 20 dX9_shortcut_13 rfl (pc2 := 16) rfl (fun q4 => ?_) (fun q4 => ?_)
      · replace h := (if_pos q4).symm.trans h
        refine kg_aload_n 0 dX9_shortcut_20 rfl (pc2 := 21) rfl ?_
        refine kg_iload_n 1 dX9_shortcut_21 rfl (pc2 := 22) rfl ?_
        obtain ⟨r5, r5h, h⟩ := kw_bind_e h
        refine kg_callV (μ := μX9_shortcut) (d := (d + 4)) rfl mVX9_findShortcut [.int a1] [] (gX9_findShortcut (E := E) (d := d) a1 σ r5h) rfl lmRX9_391 (ci := 9) rfl tX_0 eX_0 rfl (Nat.le_of_ble_eq_true rfl) dX9_shortcut_22 rfl (st2 := []) rfl (pc2 := 25) rfl ?_
        refine kg_aload_n 0 dX9_shortcut_25 rfl (pc2 := 26) rfl ?_
        refine kg_getr clX9 rfl 9 (Nat.le_of_ble_eq_true rfl) lfRX9_65 tX_0 eX_0 rfl dX9_shortcut_26 (pc2 := 29) rfl ?_
        refine kg_iconst dX9_shortcut_29 ki_2 (pc2 := 30) rfl ?_
        refine kg_lald tX_9 eX_9 (show kw_in (2 : Int32) 3 by decide) (j := 2) (by decide) dX9_shortcut_30 (pc2 := 31) rfl ?_
        refine kg_lconst dX9_shortcut_31 kl_0 (pc2 := 32) rfl ?_
        refine kg_lcmp_le 45 dX9_shortcut_32 dX9_shortcut_33 rfl (pc2 := 36) rfl (fun q6 => ?_) (fun q6 => ?_)
        · replace h := (if_pos q6).symm.trans h
          refine kg_ldc2 rfl lcRX9_287 dX9_shortcut_45 (pc2 := 48) rfl ?_
          cases h
          exact kg_lret dX9_shortcut_48 rfl
        · replace h := (if_neg q6).symm.trans h
          refine kg_aload_n 0 dX9_shortcut_36 rfl (pc2 := 37) rfl ?_
          refine kg_getr clX9 rfl 9 (Nat.le_of_ble_eq_true rfl) lfRX9_65 tX_0 eX_0 rfl dX9_shortcut_37 (pc2 := 40) rfl ?_
          refine kg_iload_n 2 dX9_shortcut_40 rfl (pc2 := 41) rfl ?_
          obtain ⟨q7, h⟩ := kw_chk_e h
          refine kg_lald tX_9 eX_9 q7 (j := a2.toNatClampNeg) rfl dX9_shortcut_41 (pc2 := 42) rfl ?_
          refine kg_goto 48 dX9_shortcut_42 rfl ?_
          cases h
          exact kg_lret dX9_shortcut_48 rfl
      · replace h := (if_neg q4).symm.trans h
        refine kg_ldc2 rfl lcRX9_261 dX9_shortcut_16 (pc2 := 19) rfl ?_
        cases h
        exact kg_lret dX9_shortcut_19 rfl
set_option maxHeartbeats 4000000 in
set_option maxRecDepth 100000 in
theorem gX6_takeMean {E : kw_E} {d : Nat} (a1 : Int64) (a2 : Int32) (σ : kw_M) {r : kw_M} (h : fX6_takeMean a1 a2 σ = some r) : kw_Met E kwTX 47 d μX6_takeMean [.ref 6, .long a1, .int a2] σ none r := by
  refine kw_enter plRX6 (Nat.le_of_ble_eq_true rfl) ?_
  show kw_G E kwTX 47 d μX6_takeMean 0 [(0, .ref 6), (1, .long a1), (3, .int a2)] [] σ none r
  unfold fX6_takeMean at h
  refine kg_lload_n 1 dX6_takeMean_0 rfl (pc2 := 1) rfl ?_
  refine kg_ldc2 rfl lcRX6_115 dX6_takeMean_1 (pc2 := 4) rfl ?_
  refine kg_lcmp_eq 45 dX6_takeMean_4 dX6_takeMean_5 rfl (pc2 := 8) rfl (fun q1 => ?_) (fun q1 => ?_)
  · replace h := (if_pos q1).symm.trans h
    cases h
    exact kg_vret dX6_takeMean_45 rfl
  · replace h := (if_neg q1).symm.trans h
    refine kg_aload_n 0 dX6_takeMean_8 rfl (pc2 := 9) rfl ?_
    refine kg_getl clX6 rfl 3 (Nat.le_of_ble_eq_true rfl) lfRX6_128 tX_6 eX_6 rfl dX6_takeMean_9 (pc2 := 12) rfl ?_
    refine kg_lconst dX6_takeMean_12 kl_0 (pc2 := 13) rfl ?_
    refine kg_lcmp_eq 34 dX6_takeMean_13 dX6_takeMean_14 rfl (pc2 := 17) rfl (fun q2 => ?_) (fun q2 => ?_)
    · replace h := (if_pos q2).symm.trans h
      refine kg_aload_n 0 dX6_takeMean_34 rfl (pc2 := 35) rfl ?_
      refine kg_lload_n 1 dX6_takeMean_35 rfl (pc2 := 36) rfl ?_
      obtain ⟨s3, s3e, h⟩ := kw_let_e h
      refine kg_putl clX6 rfl 2 (Nat.le_of_ble_eq_true rfl) lfRX6_136 rfl tX_6 eX_6 rfl (ty := .long) (by decide +kernel) rfl rfl s3e dX6_takeMean_36 (pc2 := 39) rfl ?_
      refine kg_aload_n 0 dX6_takeMean_39 rfl (pc2 := 40) rfl ?_
      refine kg_iload_n 2 dX6_takeMean_40 rfl (pc2 := 41) rfl ?_
      refine kg_i2l dX6_takeMean_41 (pc2 := 42) rfl ?_
      obtain ⟨s4, s4e, h⟩ := kw_let_e h
      refine kg_putl clX6 rfl 3 (Nat.le_of_ble_eq_true rfl) lfRX6_128 rfl tX_6 eX_6 rfl (ty := .long) (by decide +kernel) rfl rfl s4e dX6_takeMean_42 (pc2 := 45) rfl ?_
      cases h
      exact kg_vret dX6_takeMean_45 rfl
    · replace h := (if_neg q2).symm.trans h
      refine kg_lload_n 1 dX6_takeMean_17 rfl (pc2 := 18) rfl ?_
      refine kg_aload_n 0 dX6_takeMean_18 rfl (pc2 := 19) rfl ?_
      refine kg_getl clX6 rfl 3 (Nat.le_of_ble_eq_true rfl) lfRX6_128 tX_6 eX_6 rfl dX6_takeMean_19 (pc2 := 22) rfl ?_
      refine kg_lmul dX6_takeMean_22 (pc2 := 23) rfl ?_
      refine kg_aload_n 0 dX6_takeMean_23 rfl (pc2 := 24) rfl ?_
      refine kg_getl clX6 rfl 2 (Nat.le_of_ble_eq_true rfl) lfRX6_136 tX_6 eX_6 rfl dX6_takeMean_24 (pc2 := 27) rfl ?_
      refine kg_iload_n 2 dX6_takeMean_27 rfl (pc2 := 28) rfl ?_
      refine kg_i2l dX6_takeMean_28 (pc2 := 29) rfl ?_
      refine kg_lmul dX6_takeMean_29 (pc2 := 30) rfl ?_
      refine kg_lcmp_ge 45 dX6_takeMean_30 dX6_takeMean_31 rfl (pc2 := 34) rfl (fun q5 => ?_) (fun q5 => ?_)
      · replace h := (if_pos q5).symm.trans h
        cases h
        exact kg_vret dX6_takeMean_45 rfl
      · replace h := (if_neg q5).symm.trans h
        refine kg_aload_n 0 dX6_takeMean_34 rfl (pc2 := 35) rfl ?_
        refine kg_lload_n 1 dX6_takeMean_35 rfl (pc2 := 36) rfl ?_
        obtain ⟨s6, s6e, h⟩ := kw_let_e h
        refine kg_putl clX6 rfl 2 (Nat.le_of_ble_eq_true rfl) lfRX6_136 rfl tX_6 eX_6 rfl (ty := .long) (by decide +kernel) rfl rfl s6e dX6_takeMean_36 (pc2 := 39) rfl ?_
        refine kg_aload_n 0 dX6_takeMean_39 rfl (pc2 := 40) rfl ?_
        refine kg_iload_n 2 dX6_takeMean_40 rfl (pc2 := 41) rfl ?_
        refine kg_i2l dX6_takeMean_41 (pc2 := 42) rfl ?_
        obtain ⟨s7, s7e, h⟩ := kw_let_e h
        refine kg_putl clX6 rfl 3 (Nat.le_of_ble_eq_true rfl) lfRX6_128 rfl tX_6 eX_6 rfl (ty := .long) (by decide +kernel) rfl rfl s7e dX6_takeMean_42 (pc2 := 45) rfl ?_
        cases h
        exact kg_vret dX6_takeMean_45 rfl
set_option maxHeartbeats 4000000 in
set_option maxRecDepth 100000 in
theorem lX6_commonDivisor_15 {E : kw_E} {d : Nat} (σ : kw_M) (v4 : Int64) (v6 : Int64) (v8 : Int32) {v : Option Value} {σ2 : kw_M} {o : (Int64 × Int64 × Int32) ⊕ (Int64)} (h : bX6_commonDivisor_15 σ v4 v6 v8 = some o) (hk : Sum.elim (fun s => kw_G E kwTX 47 (d + 1) μX6_commonDivisor 15 [(4, .long s.1), (6, .long s.2.1), (8, .int s.2.2)] [] σ v σ2) (fun y => kw_G E kwTX 47 (d + 1) μX6_commonDivisor 51 [(4, .long y)] [] σ v σ2) o) : kw_G E kwTX 47 (d + 1) μX6_commonDivisor 15 [(4, .long v4), (6, .long v6), (8, .int v8)] [] σ v σ2 := by
  unfold bX6_commonDivisor_15 at h
  refine kg_iload 2 dX6_commonDivisor_15 rfl (pc2 := 17) rfl ?_
  refine kg_sipush dX6_commonDivisor_17 ks_200 (pc2 := 20) rfl ?_
  refine kg_icmp_ge 51 dX6_commonDivisor_20 rfl (pc2 := 23) rfl (fun q3 => ?_) (fun q3 => ?_)
  · replace h := (if_pos q3).symm.trans h
    refine kg_sub [0] (lv2 := [(4, .long v4)]) rfl ?_
    cases h
    exact hk
  · replace h := (if_neg q3).symm.trans h
    refine kg_lload 1 dX6_commonDivisor_23 rfl (pc2 := 25) rfl ?_
    refine kg_lconst dX6_commonDivisor_25 kl_0 (pc2 := 26) rfl ?_
    refine kg_lcmp_eq 51 dX6_commonDivisor_26 dX6_commonDivisor_27 rfl (pc2 := 30) rfl (fun q4 => ?_) (fun q4 => ?_)
    · replace h := (if_pos q4).symm.trans h
      refine kg_sub [0] (lv2 := [(4, .long v4)]) rfl ?_
      cases h
      exact hk
    · replace h := (if_neg q4).symm.trans h
      refine kg_lload 0 dX6_commonDivisor_30 rfl (pc2 := 32) rfl ?_
      refine kg_lload 1 dX6_commonDivisor_32 rfl (pc2 := 34) rfl ?_
      obtain ⟨q5, h⟩ := kw_chk_e h
      refine kg_lrem dX6_commonDivisor_34 q5 (pc2 := 35) rfl ?_
      obtain ⟨x6, x6e, h⟩ := kw_let_e h
      refine kg_lstore dX6_commonDivisor_35 (Nat.le_of_ble_eq_true rfl) x6e (lv2 := [(9, .long x6), (4, .long v4), (6, .long v6), (8, .int v8)]) rfl (pc2 := 37) rfl ?_
      refine kg_lload 2 dX6_commonDivisor_37 rfl (pc2 := 39) rfl ?_
      refine kg_lstore dX6_commonDivisor_39 (Nat.le_of_ble_eq_true rfl) rfl (lv2 := [(4, .long v6), (9, .long x6), (6, .long v6), (8, .int v8)]) rfl (pc2 := 41) rfl ?_
      refine kg_lload 1 dX6_commonDivisor_41 rfl (pc2 := 43) rfl ?_
      refine kg_lstore dX6_commonDivisor_43 (Nat.le_of_ble_eq_true rfl) rfl (lv2 := [(6, .long x6), (4, .long v6), (9, .long x6), (8, .int v8)]) rfl (pc2 := 45) rfl ?_
      obtain ⟨x7, x7e, h⟩ := kw_let_e h
      refine kg_iinc 3 dX6_commonDivisor_45 rfl (Nat.le_of_ble_eq_true rfl) x7e (lv2 := [(8, .int x7), (6, .long x6), (4, .long v6), (9, .long x6)]) rfl (pc2 := 48) rfl ?_
      refine kg_goto 15 dX6_commonDivisor_48 rfl ?_
      refine kg_sub [2, 1, 0] (lv2 := [(4, .long v6), (6, .long x6), (8, .int x7)]) rfl ?_
      cases h
      exact hk
set_option maxHeartbeats 4000000 in
set_option maxRecDepth 100000 in
theorem gjX6_commonDivisor_51 {E : kw_E} {d : Nat} (v4 : Int64) (σ : kw_M) {r : Int64} (h : jX6_commonDivisor_51 v4 σ = some r) : kw_G E kwTX 47 (d + 1) μX6_commonDivisor 51 [(4, .long v4)] [] σ (some (Value.long r)) σ := by
  unfold jX6_commonDivisor_51 at h
  refine kg_lconst dX6_commonDivisor_51 kl_1 (pc2 := 52) rfl ?_
  refine kg_lload 0 dX6_commonDivisor_52 rfl (pc2 := 54) rfl ?_
  obtain ⟨x9, x9e, h⟩ := kw_let_e h
  refine kg_mmax_long (μ := μX6_commonDivisor) (d := d) rfl rfl mmRX6_117 (Nat.le_of_ble_eq_true rfl) x9e dX6_commonDivisor_54 (pc2 := 57) rfl ?_
  cases h
  exact kg_lret dX6_commonDivisor_57 rfl
set_option maxHeartbeats 4000000 in
set_option maxRecDepth 100000 in
theorem gX6_commonDivisor {E : kw_E} {d : Nat} (a0 : Int64) (a1 : Int64) (σ : kw_M) {r : Int64} (h : fX6_commonDivisor a0 a1 σ = some r) : kw_Met E kwTX 47 (d + 1) μX6_commonDivisor [.long a0, .long a1] σ (some (Value.long r)) σ := by
  refine kw_enter plRX6 (Nat.le_of_ble_eq_true rfl) ?_
  show kw_G E kwTX 47 (d + 1) μX6_commonDivisor 0 [(0, .long a0), (2, .long a1)] [] σ (some (Value.long r)) σ
  unfold fX6_commonDivisor at h
  refine kg_lload_n 0 dX6_commonDivisor_0 rfl (pc2 := 1) rfl ?_
  obtain ⟨x1, x1e, h⟩ := kw_let_e h
  refine kg_mabs_long (μ := μX6_commonDivisor) (d := d) rfl rfl mmRX6_142 (Nat.le_of_ble_eq_true rfl) x1e dX6_commonDivisor_1 (pc2 := 4) rfl ?_
  refine kg_lstore dX6_commonDivisor_4 (Nat.le_of_ble_eq_true rfl) rfl (lv2 := [(4, .long x1), (0, .long a0), (2, .long a1)]) rfl (pc2 := 6) rfl ?_
  refine kg_lload_n 2 dX6_commonDivisor_6 rfl (pc2 := 7) rfl ?_
  obtain ⟨x2, x2e, h⟩ := kw_let_e h
  refine kg_mabs_long (μ := μX6_commonDivisor) (d := d) rfl rfl mmRX6_142 (Nat.le_of_ble_eq_true rfl) x2e dX6_commonDivisor_7 (pc2 := 10) rfl ?_
  refine kg_lstore dX6_commonDivisor_10 (Nat.le_of_ble_eq_true rfl) rfl (lv2 := [(6, .long x2), (4, .long x1), (0, .long a0), (2, .long a1)]) rfl (pc2 := 12) rfl ?_
  refine kg_iconst dX6_commonDivisor_12 ki_0 (pc2 := 13) rfl ?_
  refine kg_istore dX6_commonDivisor_13 (Nat.le_of_ble_eq_true rfl) rfl (lv2 := [(8, .int (0 : Int32)), (6, .long x2), (4, .long x1), (0, .long a0), (2, .long a1)]) rfl (pc2 := 15) rfl ?_
  refine kg_sub [2, 1, 0] (lv2 := [(4, .long x1), (6, .long x2), (8, .int (0 : Int32))]) rfl ?_
  obtain ⟨x8, x8h, h⟩ := kw_bind_e h
  refine kw_loop_e (P := fun s => kw_G E kwTX 47 (d + 1) μX6_commonDivisor 15 [(4, .long s.1), (6, .long s.2.1), (8, .int s.2.2)] [] σ (some (Value.long r)) σ) (K := fun y => kw_G E kwTX 47 (d + 1) μX6_commonDivisor 51 [(4, .long y)] [] σ (some (Value.long r)) σ) (fun s o h0 hk => lX6_commonDivisor_15 σ s.1 s.2.1 s.2.2 h0 hk) kw_F _ _ x8h ?_
  show kw_G E kwTX 47 (d + 1) μX6_commonDivisor 51 [(4, .long x8)] [] σ (some (Value.long r)) σ
  exact gjX6_commonDivisor_51 x8 σ h
set_option maxHeartbeats 4000000 in
set_option maxRecDepth 100000 in
theorem lX6_findLeastMean_26 {E : kw_E} {d : Nat} (v2 : Int32) (v3 : Int32) (σ : kw_M) {v : Option Value} {σ2 : kw_M} {o : (Int32 × kw_M) ⊕ (kw_M)} (h : bX6_findLeastMean_26 v2 v3 σ = some o) (hk : Sum.elim (fun s => kw_G E kwTX 47 (d + 3) μX6_findLeastMean 26 [(0, .ref 6), (1, .ref 12), (2, .int v2), (3, .int s.1)] [] s.2 v σ2) (fun y => kw_G E kwTX 47 (d + 3) μX6_findLeastMean 78 [(0, .ref 6), (1, .ref 12), (2, .int v2)] [] y v σ2) o) : kw_G E kwTX 47 (d + 3) μX6_findLeastMean 26 [(0, .ref 6), (1, .ref 12), (2, .int v2), (3, .int v3)] [] σ v σ2 := by
  unfold bX6_findLeastMean_26 at h
  refine kg_iload_n 3 dX6_findLeastMean_26 rfl (pc2 := 27) rfl ?_
  refine kg_aload_n 1 dX6_findLeastMean_27 rfl (pc2 := 28) rfl ?_
  refine kg_geti clX4 rfl 0 (Nat.le_of_ble_eq_true rfl) lfRX6_55 tX_12 eX_12 rfl dX6_findLeastMean_28 (pc2 := 31) rfl ?_
  refine kg_icmp_gt 78 dX6_findLeastMean_31 rfl (pc2 := 34) rfl (fun q4 => ?_) (fun q4 => ?_)
  · replace h := (if_pos q4).symm.trans h
    refine kg_sub [0, 1, 2] (lv2 := [(0, .ref 6), (1, .ref 12), (2, .int v2)]) rfl ?_
    cases h
    exact hk
  · replace h := (if_neg q4).symm.trans h
    refine kg_aload_n 0 dX6_findLeastMean_34 rfl (pc2 := 35) rfl ?_
    refine kg_getr clX6 rfl 5 (Nat.le_of_ble_eq_true rfl) lfRX6_22 tX_6 eX_6 rfl dX6_findLeastMean_35 (pc2 := 38) rfl ?_
    refine kg_ldc2 rfl lcRX6_115 dX6_findLeastMean_38 (pc2 := 41) rfl ?_
    obtain ⟨r5, r5h, h⟩ := kw_bind_e h
    refine kg_callS (μ := μX6_findLeastMean) (d := (d + 2)) rfl mSJ7_fill_d0a16 [.ref 44, .long (-9000000000000000000 : Int64)] [] (gXJ7_fill_d0a16 (E := E) (d := (d + 2)) 44 ⟨tX_44, eX_44⟩ (-9000000000000000000 : Int64) σ r5h) rfl lmRX6_45 rfl (Nat.le_of_ble_eq_true rfl) dX6_findLeastMean_41 rfl (st2 := []) rfl (pc2 := 44) rfl ?_
    refine kg_aload_n 1 dX6_findLeastMean_44 rfl (pc2 := 45) rfl ?_
    refine kg_aload_n 0 dX6_findLeastMean_45 rfl (pc2 := 46) rfl ?_
    refine kg_getr clX6 rfl 4 (Nat.le_of_ble_eq_true rfl) lfRX6_19 tX_6 eX_6 rfl dX6_findLeastMean_46 (pc2 := 49) rfl ?_
    refine kg_aload_n 0 dX6_findLeastMean_49 rfl (pc2 := 50) rfl ?_
    refine kg_getr clX6 rfl 5 (Nat.le_of_ble_eq_true rfl) lfRX6_22 tX_6 eX_6 rfl dX6_findLeastMean_50 (pc2 := 53) rfl ?_
    obtain ⟨r6, r6h, h⟩ := kw_bind_e h
    refine kg_callV (μ := μX6_findLeastMean) (d := (d + 2)) rfl mVX4_stepAll [.ref 43, .ref 44] [] (gX4_stepAll (E := E) (d := d) r5 r6h) rfl lmRX6_83 (ci := 4) rfl tX_12 eX_12 rfl (Nat.le_of_ble_eq_true rfl) dX6_findLeastMean_53 rfl (st2 := [.int r6.1]) rfl (pc2 := 56) rfl ?_
    refine kg_pop dX6_findLeastMean_56 rfl (pc2 := 57) rfl ?_
    refine kg_aload_n 0 dX6_findLeastMean_57 rfl (pc2 := 58) rfl ?_
    obtain ⟨r7, r7h, h⟩ := kw_bind_e h
    refine kg_callV (μ := μX6_findLeastMean) (d := (d + 2)) rfl mVX6_foundIsKnown [] [] (gX6_foundIsKnown (E := E) (d := (d + 1)) r6.2 r7h) rfl lmRX6_76 (ci := 6) rfl tX_6 eX_6 rfl (Nat.le_of_ble_eq_true rfl) dX6_findLeastMean_58 rfl (st2 := []) rfl (pc2 := 61) rfl ?_
    refine kg_aload_n 0 dX6_findLeastMean_61 rfl (pc2 := 62) rfl ?_
    refine kg_aload_n 0 dX6_findLeastMean_62 rfl (pc2 := 63) rfl ?_
    refine kg_getr clX6 rfl 4 (Nat.le_of_ble_eq_true rfl) lfRX6_19 tX_6 eX_6 rfl dX6_findLeastMean_63 (pc2 := 66) rfl ?_
    refine kg_iload_n 2 dX6_findLeastMean_66 rfl (pc2 := 67) rfl ?_
    obtain ⟨q8, h⟩ := kw_chk_e h
    refine kg_lald tX_43 eX_43 q8 (j := v2.toNatClampNeg) rfl dX6_findLeastMean_67 (pc2 := 68) rfl ?_
    refine kg_iload_n 3 dX6_findLeastMean_68 rfl (pc2 := 69) rfl ?_
    obtain ⟨r9, r9h, h⟩ := kw_bind_e h
    refine kg_callV (μ := μX6_findLeastMean) (d := (d + 2)) rfl mVX6_takeMean [.long (r7.2 43 v2.toNatClampNeg), .int v3] [] (gX6_takeMean (E := E) (d := (d + 2)) (r7.2 43 v2.toNatClampNeg) v3 r7 r9h) rfl lmRX6_132 (ci := 6) rfl tX_6 eX_6 rfl (Nat.le_of_ble_eq_true rfl) dX6_findLeastMean_69 rfl (st2 := []) rfl (pc2 := 72) rfl ?_
    obtain ⟨x10, x10e, h⟩ := kw_let_e h
    refine kg_iinc 3 dX6_findLeastMean_72 rfl (Nat.le_of_ble_eq_true rfl) x10e (lv2 := [(3, .int x10), (0, .ref 6), (1, .ref 12), (2, .int v2)]) rfl (pc2 := 75) rfl ?_
    refine kg_goto 26 dX6_findLeastMean_75 rfl ?_
    refine kg_sub [1, 2, 3, 0] (lv2 := [(0, .ref 6), (1, .ref 12), (2, .int v2), (3, .int x10)]) rfl ?_
    cases h
    exact hk
set_option maxHeartbeats 4000000 in
set_option maxRecDepth 100000 in
theorem lX6_findLeastMean_7 {E : kw_E} {d : Nat} (v2 : Int32) (σ : kw_M) {v : Option Value} {σ2 : kw_M} {o : (Int32 × kw_M) ⊕ (kw_M)} (h : bX6_findLeastMean_7 v2 σ = some o) (hk : Sum.elim (fun s => kw_G E kwTX 47 (d + 3) μX6_findLeastMean 7 [(0, .ref 6), (1, .ref 12), (2, .int s.1)] [] s.2 v σ2) (fun y => kw_G E kwTX 47 (d + 3) μX6_findLeastMean 84 [(0, .ref 6)] [] y v σ2) o) : kw_G E kwTX 47 (d + 3) μX6_findLeastMean 7 [(0, .ref 6), (1, .ref 12), (2, .int v2)] [] σ v σ2 := by
  unfold bX6_findLeastMean_7 at h
  refine kg_iload_n 2 dX6_findLeastMean_7 rfl (pc2 := 8) rfl ?_
  refine kg_aload_n 1 dX6_findLeastMean_8 rfl (pc2 := 9) rfl ?_
  refine kg_geti clX4 rfl 0 (Nat.le_of_ble_eq_true rfl) lfRX6_55 tX_12 eX_12 rfl dX6_findLeastMean_9 (pc2 := 12) rfl ?_
  refine kg_icmp_ge 84 dX6_findLeastMean_12 rfl (pc2 := 15) rfl (fun q2 => ?_) (fun q2 => ?_)
  · replace h := (if_pos q2).symm.trans h
    refine kg_sub [0] (lv2 := [(0, .ref 6)]) rfl ?_
    cases h
    exact hk
  · replace h := (if_neg q2).symm.trans h
    refine kg_aload_n 1 dX6_findLeastMean_15 rfl (pc2 := 16) rfl ?_
    refine kg_iload_n 2 dX6_findLeastMean_16 rfl (pc2 := 17) rfl ?_
    refine kg_aload_n 0 dX6_findLeastMean_17 rfl (pc2 := 18) rfl ?_
    refine kg_getr clX6 rfl 4 (Nat.le_of_ble_eq_true rfl) lfRX6_19 tX_6 eX_6 rfl dX6_findLeastMean_18 (pc2 := 21) rfl ?_
    obtain ⟨r3, r3h, h⟩ := kw_bind_e h
    refine kg_callV (μ := μX6_findLeastMean) (d := (d + 2)) rfl mVX4_beginRow [.int v2, .ref 43] [] (gX4_beginRow (E := E) (d := (d + 1)) v2 σ r3h) rfl lmRX6_79 (ci := 4) rfl tX_12 eX_12 rfl (Nat.le_of_ble_eq_true rfl) dX6_findLeastMean_21 rfl (st2 := []) rfl (pc2 := 24) rfl ?_
    refine kg_iconst dX6_findLeastMean_24 ki_1 (pc2 := 25) rfl ?_
    refine kg_istore_n dX6_findLeastMean_25 rfl (Nat.le_of_ble_eq_true rfl) rfl (lv2 := [(3, .int (1 : Int32)), (0, .ref 6), (1, .ref 12), (2, .int v2)]) rfl (pc2 := 26) rfl ?_
    refine kg_sub [1, 2, 3, 0] (lv2 := [(0, .ref 6), (1, .ref 12), (2, .int v2), (3, .int (1 : Int32))]) rfl ?_
    obtain ⟨x11, x11h, h⟩ := kw_bind_e h
    refine kw_loop_e (P := fun s => kw_G E kwTX 47 (d + 3) μX6_findLeastMean 26 [(0, .ref 6), (1, .ref 12), (2, .int v2), (3, .int s.1)] [] s.2 v σ2) (K := fun y => kw_G E kwTX 47 (d + 3) μX6_findLeastMean 78 [(0, .ref 6), (1, .ref 12), (2, .int v2)] [] y v σ2) (fun s o h0 hk => lX6_findLeastMean_26 v2 s.1 s.2 h0 hk) kw_F _ _ x11h ?_
    show kw_G E kwTX 47 (d + 3) μX6_findLeastMean 78 [(0, .ref 6), (1, .ref 12), (2, .int v2)] [] x11 v σ2
    obtain ⟨x12, x12e, h⟩ := kw_let_e h
    refine kg_iinc 2 dX6_findLeastMean_78 rfl (Nat.le_of_ble_eq_true rfl) x12e (lv2 := [(2, .int x12), (0, .ref 6), (1, .ref 12)]) rfl (pc2 := 81) rfl ?_
    refine kg_goto 7 dX6_findLeastMean_81 rfl ?_
    refine kg_sub [1, 2, 0] (lv2 := [(0, .ref 6), (1, .ref 12), (2, .int x12)]) rfl ?_
    cases h
    exact hk
set_option maxHeartbeats 4000000 in
set_option maxRecDepth 100000 in
theorem gX6_findLeastMean {E : kw_E} {d : Nat} (σ : kw_M) {r : Int32 × kw_M} (h : fX6_findLeastMean σ = some r) : kw_Met E kwTX 47 (d + 3) μX6_findLeastMean [.ref 6, .ref 12] σ (some (Value.int r.1)) r.2 := by
  refine kw_enter plRX6 (Nat.le_of_ble_eq_true rfl) ?_
  show kw_G E kwTX 47 (d + 3) μX6_findLeastMean 0 [(0, .ref 6), (1, .ref 12)] [] σ (some (Value.int r.1)) r.2
  unfold fX6_findLeastMean at h
  refine kg_aload_n 0 dX6_findLeastMean_0 rfl (pc2 := 1) rfl ?_
  refine kg_lconst dX6_findLeastMean_1 kl_0 (pc2 := 2) rfl ?_
  obtain ⟨s1, s1e, h⟩ := kw_let_e h
  refine kg_putl clX6 rfl 3 (Nat.le_of_ble_eq_true rfl) lfRX6_128 rfl tX_6 eX_6 rfl (ty := .long) (by decide +kernel) rfl rfl s1e dX6_findLeastMean_2 (pc2 := 5) rfl ?_
  refine kg_iconst dX6_findLeastMean_5 ki_0 (pc2 := 6) rfl ?_
  refine kg_istore_n dX6_findLeastMean_6 rfl (Nat.le_of_ble_eq_true rfl) rfl (lv2 := [(2, .int (0 : Int32)), (0, .ref 6), (1, .ref 12)]) rfl (pc2 := 7) rfl ?_
  refine kg_sub [1, 2, 0] (lv2 := [(0, .ref 6), (1, .ref 12), (2, .int (0 : Int32))]) rfl ?_
  obtain ⟨x13, x13h, h⟩ := kw_bind_e h
  refine kw_loop_e (P := fun s => kw_G E kwTX 47 (d + 3) μX6_findLeastMean 7 [(0, .ref 6), (1, .ref 12), (2, .int s.1)] [] s.2 (some (Value.int r.1)) r.2) (K := fun y => kw_G E kwTX 47 (d + 3) μX6_findLeastMean 84 [(0, .ref 6)] [] y (some (Value.int r.1)) r.2) (fun s o h0 hk => lX6_findLeastMean_7 s.1 s.2 h0 hk) kw_F _ _ x13h ?_
  show kw_G E kwTX 47 (d + 3) μX6_findLeastMean 84 [(0, .ref 6)] [] x13 (some (Value.int r.1)) r.2
  refine kg_aload_n 0 dX6_findLeastMean_84 rfl (pc2 := 85) rfl ?_
  refine kg_getl clX6 rfl 3 (Nat.le_of_ble_eq_true rfl) lfRX6_128 tX_6 eX_6 rfl dX6_findLeastMean_85 (pc2 := 88) rfl ?_
  refine kg_lconst dX6_findLeastMean_88 kl_0 (pc2 := 89) rfl ?_
  refine kg_lcmp_ne 95 dX6_findLeastMean_89 dX6_findLeastMean_90 rfl (pc2 := 93) rfl (fun q14 => ?_) (fun q14 => ?_)
  · replace h := (if_neg q14).symm.trans h
    refine kg_aload_n 0 dX6_findLeastMean_95 rfl (pc2 := 96) rfl ?_
    refine kg_getl clX6 rfl 2 (Nat.le_of_ble_eq_true rfl) lfRX6_136 tX_6 eX_6 rfl dX6_findLeastMean_96 (pc2 := 99) rfl ?_
    refine kg_aload_n 0 dX6_findLeastMean_99 rfl (pc2 := 100) rfl ?_
    refine kg_getl clX6 rfl 3 (Nat.le_of_ble_eq_true rfl) lfRX6_128 tX_6 eX_6 rfl dX6_findLeastMean_100 (pc2 := 103) rfl ?_
    obtain ⟨r15, r15h, h⟩ := kw_bind_e h
    refine kg_callS (μ := μX6_findLeastMean) (d := (d + 2)) rfl mSX6_commonDivisor [.long (x13.2 6 2), .long (x13.2 6 3)] [] (gX6_commonDivisor (E := E) (d := (d + 1)) (x13.2 6 2) (x13.2 6 3) x13 r15h) rfl lmRX6_139 rfl (Nat.le_of_ble_eq_true rfl) dX6_findLeastMean_103 rfl (st2 := [.long r15]) rfl (pc2 := 106) rfl ?_
    refine kg_lstore_n dX6_findLeastMean_106 rfl (Nat.le_of_ble_eq_true rfl) rfl (lv2 := [(2, .long r15), (0, .ref 6)]) rfl (pc2 := 107) rfl ?_
    refine kg_aload_n 1 dX6_findLeastMean_107 rfl (pc2 := 108) rfl ?_
    refine kg_dup dX6_findLeastMean_108 rfl (pc2 := 109) rfl ?_
    refine kg_getl clX6 rfl 2 (Nat.le_of_ble_eq_true rfl) lfRX6_136 tX_6 eX_6 rfl dX6_findLeastMean_109 (pc2 := 112) rfl ?_
    refine kg_lload_n 0 dX6_findLeastMean_112 rfl (pc2 := 113) rfl ?_
    obtain ⟨q16, h⟩ := kw_chk_e h
    refine kg_ldiv dX6_findLeastMean_113 q16 (pc2 := 114) rfl ?_
    obtain ⟨s17, s17e, h⟩ := kw_let_e h
    refine kg_putl clX6 rfl 2 (Nat.le_of_ble_eq_true rfl) lfRX6_136 rfl tX_6 eX_6 rfl (ty := .long) (by decide +kernel) rfl rfl s17e dX6_findLeastMean_114 (pc2 := 117) rfl ?_
    refine kg_aload_n 1 dX6_findLeastMean_117 rfl (pc2 := 118) rfl ?_
    refine kg_dup dX6_findLeastMean_118 rfl (pc2 := 119) rfl ?_
    refine kg_getl clX6 rfl 3 (Nat.le_of_ble_eq_true rfl) lfRX6_128 tX_6 eX_6 rfl dX6_findLeastMean_119 (pc2 := 122) rfl ?_
    refine kg_lload_n 0 dX6_findLeastMean_122 rfl (pc2 := 123) rfl ?_
    obtain ⟨q18, h⟩ := kw_chk_e h
    refine kg_ldiv dX6_findLeastMean_123 q18 (pc2 := 124) rfl ?_
    obtain ⟨s19, s19e, h⟩ := kw_let_e h
    refine kg_putl clX6 rfl 3 (Nat.le_of_ble_eq_true rfl) lfRX6_128 rfl tX_6 eX_6 rfl (ty := .long) (by decide +kernel) rfl rfl s19e dX6_findLeastMean_124 (pc2 := 127) rfl ?_
    refine kg_iconst dX6_findLeastMean_127 ki_1 (pc2 := 128) rfl ?_
    cases h
    exact kg_iret (ty := .boolean) dX6_findLeastMean_128 rfl rfl
  · replace h := (if_pos q14).symm.trans h
    refine kg_iconst dX6_findLeastMean_93 ki_0 (pc2 := 94) rfl ?_
    cases h
    exact kg_iret (ty := .boolean) dX6_findLeastMean_94 rfl rfl
set_option maxHeartbeats 4000000 in
set_option maxRecDepth 100000 in
theorem gX9_mean {E : kw_E} {d : Nat} (a1 : Int32) (σ : kw_M) {r : Int64 × kw_M} (h : fX9_mean a1 σ = some r) : kw_Met E kwTX 47 (d + 4) μX9_mean [.ref 0, .int a1] σ (some (Value.long r.1)) r.2 := by
  refine kw_enter plRX9 (Nat.le_of_ble_eq_true rfl) ?_
  show kw_G E kwTX 47 (d + 4) μX9_mean 0 [(0, .ref 0), (1, .int a1)] [] σ (some (Value.long r.1)) r.2
  unfold fX9_mean at h
  refine kg_iload_n 1 dX9_mean_0 rfl (pc2 := 1) rfl ?_
  refine kg_if_lt 26 dX9_mean_1 rfl (pc2 := 4) rfl (fun q1 => ?_) (fun q1 => ?_)
  · replace h := (if_pos q1).symm.trans h
    refine kg_ldc2 rfl lcRX9_261 dX9_mean_26 (pc2 := 29) rfl ?_
    cases h
    exact kg_lret dX9_mean_29 rfl
  · replace h := (if_neg q1).symm.trans h
    refine kg_iload_n 1 dX9_mean_4 rfl (pc2 := 5) rfl ?_
    refine kg_iconst dX9_mean_5 ki_1 (pc2 := 6) rfl ?_
    refine kg_icmp_gt 26 dX9_mean_6 rfl (pc2 := 9) rfl (fun q2 => ?_) (fun q2 => ?_)
    · replace h := (if_pos q2).symm.trans h
      refine kg_ldc2 rfl lcRX9_261 dX9_mean_26 (pc2 := 29) rfl ?_
      cases h
      exact kg_lret dX9_mean_29 rfl
    · replace h := (if_neg q2).symm.trans h
      refine kg_aload_n 0 dX9_mean_9 rfl (pc2 := 10) rfl ?_
      refine kg_getr clX9 rfl 6 (Nat.le_of_ble_eq_true rfl) lfRX9_43 tX_0 eX_0 rfl dX9_mean_10 (pc2 := 13) rfl ?_
      refine kg_aload_n 0 dX9_mean_13 rfl (pc2 := 14) rfl ?_
      refine kg_getr clX9 rfl 0 (Nat.le_of_ble_eq_true rfl) lfRX9_10 tX_0 eX_0 rfl dX9_mean_14 (pc2 := 17) rfl ?_
      refine kg_getr clX7 rfl 0 (Nat.le_of_ble_eq_true rfl) lfRX9_148 tX_1 eX_1 rfl dX9_mean_17 (pc2 := 20) rfl ?_
      obtain ⟨r3, r3h, h⟩ := kw_bind_e h
      refine kg_callV (μ := μX9_mean) (d := (d + 3)) rfl mVX6_findLeastMean [.ref 12] [] (gX6_findLeastMean (E := E) (d := d) σ r3h) rfl lmRX9_406 (ci := 6) rfl tX_6 eX_6 rfl (Nat.le_of_ble_eq_true rfl) dX9_mean_20 rfl (st2 := [.int r3.1]) rfl (pc2 := 23) rfl ?_
      refine kg_if_ne 30 dX9_mean_23 rfl (pc2 := 26) rfl (fun q4 => ?_) (fun q4 => ?_)
      · replace h := (if_neg q4).symm.trans h
        refine kg_iload_n 1 dX9_mean_30 rfl (pc2 := 31) rfl ?_
        refine kg_if_ne 44 dX9_mean_31 rfl (pc2 := 34) rfl (fun q5 => ?_) (fun q5 => ?_)
        · replace h := (if_neg q5).symm.trans h
          refine kg_aload_n 0 dX9_mean_44 rfl (pc2 := 45) rfl ?_
          refine kg_getr clX9 rfl 6 (Nat.le_of_ble_eq_true rfl) lfRX9_43 tX_0 eX_0 rfl dX9_mean_45 (pc2 := 48) rfl ?_
          refine kg_getl clX6 rfl 3 (Nat.le_of_ble_eq_true rfl) lfRX9_413 tX_6 eX_6 rfl dX9_mean_48 (pc2 := 51) rfl ?_
          cases h
          exact kg_lret dX9_mean_51 rfl
        · replace h := (if_pos q5).symm.trans h
          refine kg_aload_n 0 dX9_mean_34 rfl (pc2 := 35) rfl ?_
          refine kg_getr clX9 rfl 6 (Nat.le_of_ble_eq_true rfl) lfRX9_43 tX_0 eX_0 rfl dX9_mean_35 (pc2 := 38) rfl ?_
          refine kg_getl clX6 rfl 2 (Nat.le_of_ble_eq_true rfl) lfRX9_410 tX_6 eX_6 rfl dX9_mean_38 (pc2 := 41) rfl ?_
          refine kg_goto 51 dX9_mean_41 rfl ?_
          cases h
          exact kg_lret dX9_mean_51 rfl
      · replace h := (if_pos q4).symm.trans h
        refine kg_ldc2 rfl lcRX9_261 dX9_mean_26 (pc2 := 29) rfl ?_
        cases h
        exact kg_lret dX9_mean_29 rfl
set_option maxHeartbeats 4000000 in
set_option maxRecDepth 100000 in
theorem gXJ6_bitCount_0f7a4 {E : kw_E} {d : Nat} (a0 : Int32) (σ : kw_M) {r : Int32} (h : fXJ6_bitCount_0f7a4 a0 σ = some r) : kw_Met E kwTX 47 d μJ6_bitCount_0f7a4 [.int a0] σ (some (Value.int r)) σ := by
  refine kw_enter plRJ6 (Nat.le_of_ble_eq_true rfl) ?_
  show kw_G E kwTX 47 d μJ6_bitCount_0f7a4 0 [(0, .int a0)] [] σ (some (Value.int r)) σ
  unfold fXJ6_bitCount_0f7a4 at h
  refine kg_iload_n 0 dJ6_bitCount_0f7a4_0 rfl (pc2 := 1) rfl ?_
  refine kg_iload_n 0 dJ6_bitCount_0f7a4_1 rfl (pc2 := 2) rfl ?_
  refine kg_iconst dJ6_bitCount_0f7a4_2 ki_1 (pc2 := 3) rfl ?_
  obtain ⟨x1, x1e, h⟩ := kw_let_e h
  refine kg_iushr dJ6_bitCount_0f7a4_3 x1e (pc2 := 4) rfl ?_
  refine kg_ldcw rfl lcRJ6_265 dJ6_bitCount_0f7a4_4 (pc2 := 7) rfl ?_
  refine kg_iand dJ6_bitCount_0f7a4_7 (pc2 := 8) rfl ?_
  refine kg_isub dJ6_bitCount_0f7a4_8 (pc2 := 9) rfl ?_
  obtain ⟨x2, x2e, h⟩ := kw_let_e h
  refine kg_istore_n dJ6_bitCount_0f7a4_9 rfl (Nat.le_of_ble_eq_true rfl) x2e (lv2 := [(0, .int x2)]) rfl (pc2 := 10) rfl ?_
  refine kg_iload_n 0 dJ6_bitCount_0f7a4_10 rfl (pc2 := 11) rfl ?_
  refine kg_ldcw rfl lcRJ6_266 dJ6_bitCount_0f7a4_11 (pc2 := 14) rfl ?_
  refine kg_iand dJ6_bitCount_0f7a4_14 (pc2 := 15) rfl ?_
  refine kg_iload_n 0 dJ6_bitCount_0f7a4_15 rfl (pc2 := 16) rfl ?_
  refine kg_iconst dJ6_bitCount_0f7a4_16 ki_2 (pc2 := 17) rfl ?_
  obtain ⟨x3, x3e, h⟩ := kw_let_e h
  refine kg_iushr dJ6_bitCount_0f7a4_17 x3e (pc2 := 18) rfl ?_
  refine kg_ldcw rfl lcRJ6_266 dJ6_bitCount_0f7a4_18 (pc2 := 21) rfl ?_
  refine kg_iand dJ6_bitCount_0f7a4_21 (pc2 := 22) rfl ?_
  refine kg_iadd dJ6_bitCount_0f7a4_22 (pc2 := 23) rfl ?_
  obtain ⟨x4, x4e, h⟩ := kw_let_e h
  refine kg_istore_n dJ6_bitCount_0f7a4_23 rfl (Nat.le_of_ble_eq_true rfl) x4e (lv2 := [(0, .int x4)]) rfl (pc2 := 24) rfl ?_
  refine kg_iload_n 0 dJ6_bitCount_0f7a4_24 rfl (pc2 := 25) rfl ?_
  refine kg_iload_n 0 dJ6_bitCount_0f7a4_25 rfl (pc2 := 26) rfl ?_
  refine kg_iconst dJ6_bitCount_0f7a4_26 ki_4 (pc2 := 27) rfl ?_
  obtain ⟨x5, x5e, h⟩ := kw_let_e h
  refine kg_iushr dJ6_bitCount_0f7a4_27 x5e (pc2 := 28) rfl ?_
  refine kg_iadd dJ6_bitCount_0f7a4_28 (pc2 := 29) rfl ?_
  refine kg_ldcw rfl lcRJ6_267 dJ6_bitCount_0f7a4_29 (pc2 := 32) rfl ?_
  refine kg_iand dJ6_bitCount_0f7a4_32 (pc2 := 33) rfl ?_
  obtain ⟨x6, x6e, h⟩ := kw_let_e h
  refine kg_istore_n dJ6_bitCount_0f7a4_33 rfl (Nat.le_of_ble_eq_true rfl) x6e (lv2 := [(0, .int x6)]) rfl (pc2 := 34) rfl ?_
  refine kg_iload_n 0 dJ6_bitCount_0f7a4_34 rfl (pc2 := 35) rfl ?_
  refine kg_iload_n 0 dJ6_bitCount_0f7a4_35 rfl (pc2 := 36) rfl ?_
  refine kg_bipush dJ6_bitCount_0f7a4_36 kb_8 (pc2 := 38) rfl ?_
  obtain ⟨x7, x7e, h⟩ := kw_let_e h
  refine kg_iushr dJ6_bitCount_0f7a4_38 x7e (pc2 := 39) rfl ?_
  refine kg_iadd dJ6_bitCount_0f7a4_39 (pc2 := 40) rfl ?_
  obtain ⟨x8, x8e, h⟩ := kw_let_e h
  refine kg_istore_n dJ6_bitCount_0f7a4_40 rfl (Nat.le_of_ble_eq_true rfl) x8e (lv2 := [(0, .int x8)]) rfl (pc2 := 41) rfl ?_
  refine kg_iload_n 0 dJ6_bitCount_0f7a4_41 rfl (pc2 := 42) rfl ?_
  refine kg_iload_n 0 dJ6_bitCount_0f7a4_42 rfl (pc2 := 43) rfl ?_
  refine kg_bipush dJ6_bitCount_0f7a4_43 kb_16 (pc2 := 45) rfl ?_
  obtain ⟨x9, x9e, h⟩ := kw_let_e h
  refine kg_iushr dJ6_bitCount_0f7a4_45 x9e (pc2 := 46) rfl ?_
  refine kg_iadd dJ6_bitCount_0f7a4_46 (pc2 := 47) rfl ?_
  obtain ⟨x10, x10e, h⟩ := kw_let_e h
  refine kg_istore_n dJ6_bitCount_0f7a4_47 rfl (Nat.le_of_ble_eq_true rfl) x10e (lv2 := [(0, .int x10)]) rfl (pc2 := 48) rfl ?_
  refine kg_iload_n 0 dJ6_bitCount_0f7a4_48 rfl (pc2 := 49) rfl ?_
  refine kg_bipush dJ6_bitCount_0f7a4_49 kb_63 (pc2 := 51) rfl ?_
  refine kg_iand dJ6_bitCount_0f7a4_51 (pc2 := 52) rfl ?_
  cases h
  exact kg_iret (ty := .int) dJ6_bitCount_0f7a4_52 rfl rfl
