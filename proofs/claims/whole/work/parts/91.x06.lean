/-! The class, method by method: the machine does what f says (g). -/
set_option maxHeartbeats 4000000 in
set_option maxRecDepth 100000 in
theorem gX9_distanceWithout {E : kw_E} {d : Nat} (a1 : Int32) (a2 : Int32) (σ : kw_M) {r : Int64 × kw_M} (h : fX9_distanceWithout a1 a2 σ = some r) : kw_Met E kwTX 47 (d + 2) μX9_distanceWithout [.ref 0, .int a1, .int a2] σ (some (Value.long r.1)) r.2 := by
  refine kw_enter plRX9 (Nat.le_of_ble_eq_true rfl) ?_
  show kw_G E kwTX 47 (d + 2) μX9_distanceWithout 0 [(0, .ref 0), (1, .int a1), (2, .int a2)] [] σ (some (Value.long r.1)) r.2
  unfold fX9_distanceWithout at h
  refine kg_aload_n 0 dX9_distanceWithout_0 rfl (pc2 := 1) rfl ?_
  refine kg_getr clX9 rfl 0 (Nat.le_of_ble_eq_true rfl) lfRX9_10 tX_0 eX_0 rfl dX9_distanceWithout_1 (pc2 := 4) rfl ?_
  refine kg_getr clX7 rfl 0 (Nat.le_of_ble_eq_true rfl) lfRX9_148 tX_1 eX_1 rfl dX9_distanceWithout_4 (pc2 := 7) rfl ?_
  refine kg_aload_n 0 dX9_distanceWithout_7 rfl (pc2 := 8) rfl ?_
  refine kg_getr clX9 rfl 0 (Nat.le_of_ble_eq_true rfl) lfRX9_10 tX_0 eX_0 rfl dX9_distanceWithout_8 (pc2 := 11) rfl ?_
  refine kg_geti clX7 rfl 2 (Nat.le_of_ble_eq_true rfl) lfRX9_189 tX_1 eX_1 rfl dX9_distanceWithout_11 (pc2 := 14) rfl ?_
  refine kg_iload_n 1 dX9_distanceWithout_14 rfl (pc2 := 15) rfl ?_
  refine kg_aload_n 0 dX9_distanceWithout_15 rfl (pc2 := 16) rfl ?_
  refine kg_getr clX9 rfl 6 (Nat.le_of_ble_eq_true rfl) lfRX9_43 tX_0 eX_0 rfl dX9_distanceWithout_16 (pc2 := 19) rfl ?_
  refine kg_getr clX6 rfl 0 (Nat.le_of_ble_eq_true rfl) lfRX9_123 tX_6 eX_6 rfl dX9_distanceWithout_19 (pc2 := 22) rfl ?_
  obtain ⟨r1, r1h, h⟩ := kw_bind_e h
  refine kg_callV (μ := μX9_distanceWithout) (d := (d + 1)) rfl mVX4_settle [.int (σ.1 1 2), .int a1, .ref 41] [] (gX4_settle (E := E) (d := d) 12 41 kx_4_12 ⟨tX_41, eX_41⟩ (σ.1 1 2) a1 σ r1h) rfl lmRX9_130 (ci := 4) rfl tX_12 eX_12 rfl (Nat.le_of_ble_eq_true rfl) dX9_distanceWithout_22 rfl (st2 := []) rfl (pc2 := 25) rfl ?_
  refine kg_aload_n 0 dX9_distanceWithout_25 rfl (pc2 := 26) rfl ?_
  refine kg_getr clX9 rfl 6 (Nat.le_of_ble_eq_true rfl) lfRX9_43 tX_0 eX_0 rfl dX9_distanceWithout_26 (pc2 := 29) rfl ?_
  refine kg_getr clX6 rfl 0 (Nat.le_of_ble_eq_true rfl) lfRX9_123 tX_6 eX_6 rfl dX9_distanceWithout_29 (pc2 := 32) rfl ?_
  refine kg_iload_n 2 dX9_distanceWithout_32 rfl (pc2 := 33) rfl ?_
  obtain ⟨q2, h⟩ := kw_chk_e h
  refine kg_lald tX_41 eX_41 q2 (j := a2.toNatClampNeg) rfl dX9_distanceWithout_33 (pc2 := 34) rfl ?_
  cases h
  exact kg_lret dX9_distanceWithout_34 rfl
set_option maxHeartbeats 4000000 in
set_option maxRecDepth 100000 in
theorem gX9_isNeeded {E : kw_E} {d : Nat} (a1 : Int32) (a2 : Int32) (σ : kw_M) {r : Int32 × kw_M} (h : fX9_isNeeded a1 a2 σ = some r) : kw_Met E kwTX 47 (d + 3) μX9_isNeeded [.ref 0, .int a1, .int a2] σ (some (Value.int r.1)) r.2 := by
  refine kw_enter plRX9 (Nat.le_of_ble_eq_true rfl) ?_
  show kw_G E kwTX 47 (d + 3) μX9_isNeeded 0 [(0, .ref 0), (1, .int a1), (2, .int a2)] [] σ (some (Value.int r.1)) r.2
  unfold fX9_isNeeded at h
  refine kg_aload_n 0 dX9_isNeeded_0 rfl (pc2 := 1) rfl ?_
  refine kg_iload_n 1 dX9_isNeeded_1 rfl (pc2 := 2) rfl ?_
  refine kg_iload_n 2 dX9_isNeeded_2 rfl (pc2 := 3) rfl ?_
  obtain ⟨r1, r1h, h⟩ := kw_bind_e h
  refine kg_callV (μ := μX9_isNeeded) (d := (d + 2)) rfl mVX9_distanceWithout [.int a1, .int a2] [] (gX9_distanceWithout (E := E) (d := d) a1 a2 σ r1h) rfl lmRX9_349 (ci := 9) rfl tX_0 eX_0 rfl (Nat.le_of_ble_eq_true rfl) dX9_isNeeded_3 rfl (st2 := [.long r1.1]) rfl (pc2 := 6) rfl ?_
  refine kg_aload_n 0 dX9_isNeeded_6 rfl (pc2 := 7) rfl ?_
  refine kg_getr clX9 rfl 0 (Nat.le_of_ble_eq_true rfl) lfRX9_10 tX_0 eX_0 rfl dX9_isNeeded_7 (pc2 := 10) rfl ?_
  refine kg_getr clX7 rfl 9 (Nat.le_of_ble_eq_true rfl) lfRX9_284 tX_1 eX_1 rfl dX9_isNeeded_10 (pc2 := 13) rfl ?_
  refine kg_iload_n 2 dX9_isNeeded_13 rfl (pc2 := 14) rfl ?_
  obtain ⟨q2, h⟩ := kw_chk_e h
  refine kg_lald tX_16 eX_16 q2 (j := a2.toNatClampNeg) rfl dX9_isNeeded_14 (pc2 := 15) rfl ?_
  refine kg_lcmp_eq 23 dX9_isNeeded_15 dX9_isNeeded_16 rfl (pc2 := 19) rfl (fun q3 => ?_) (fun q3 => ?_)
  · replace h := (if_pos q3).symm.trans h
    refine kg_iconst dX9_isNeeded_23 ki_0 (pc2 := 24) rfl ?_
    cases h
    exact kg_iret (ty := .boolean) dX9_isNeeded_24 rfl rfl
  · replace h := (if_neg q3).symm.trans h
    refine kg_iconst dX9_isNeeded_19 ki_1 (pc2 := 20) rfl ?_
    refine kg_goto 24 dX9_isNeeded_20 rfl ?_
    cases h
    exact kg_iret (ty := .boolean) dX9_isNeeded_24 rfl rfl
set_option maxHeartbeats 4000000 in
set_option maxRecDepth 100000 in
theorem lX9_neededCount_11 {E : kw_E} {d : Nat} (v1 : Int32) (v2 : Int32) (v3 : Int32) (v4 : Int32) (σ : kw_M) {v : Option Value} {σ2 : kw_M} {o : (Int32 × Int32 × kw_M) ⊕ (Int32 × kw_M)} (h : bX9_neededCount_11 v1 v2 v3 v4 σ = some o) (hk : Sum.elim (fun s => kw_G E kwTX 47 (d + 4) μX9_neededCount 11 [(0, .ref 0), (1, .int v1), (2, .int v2), (3, .int s.1), (4, .int s.2.1)] [] s.2.2 v σ2) (fun y => kw_G E kwTX 47 (d + 4) μX9_neededCount 44 [(3, .int y.1)] [] y.2 v σ2) o) : kw_G E kwTX 47 (d + 4) μX9_neededCount 11 [(0, .ref 0), (1, .int v1), (2, .int v2), (3, .int v3), (4, .int v4)] [] σ v σ2 := by
  unfold bX9_neededCount_11 at h
  refine kg_iload 4 dX9_neededCount_11 rfl (pc2 := 13) rfl ?_
  refine kg_iload_n 2 dX9_neededCount_13 rfl (pc2 := 14) rfl ?_
  refine kg_icmp_ge 44 dX9_neededCount_14 rfl (pc2 := 17) rfl (fun q2 => ?_) (fun q2 => ?_)
  · replace h := (if_pos q2).symm.trans h
    refine kg_sub [3] (lv2 := [(3, .int v3)]) rfl ?_
    cases h
    exact hk
  · replace h := (if_neg q2).symm.trans h
    refine kg_aload_n 0 dX9_neededCount_17 rfl (pc2 := 18) rfl ?_
    refine kg_aload_n 0 dX9_neededCount_18 rfl (pc2 := 19) rfl ?_
    refine kg_getr clX9 rfl 6 (Nat.le_of_ble_eq_true rfl) lfRX9_43 tX_0 eX_0 rfl dX9_neededCount_19 (pc2 := 22) rfl ?_
    refine kg_getr clX6 rfl 1 (Nat.le_of_ble_eq_true rfl) lfRX9_339 tX_6 eX_6 rfl dX9_neededCount_22 (pc2 := 25) rfl ?_
    refine kg_iload 4 dX9_neededCount_25 rfl (pc2 := 27) rfl ?_
    obtain ⟨q3, h⟩ := kw_chk_e h
    refine kg_iald tX_42 eX_42 q3 (j := v4.toNatClampNeg) rfl dX9_neededCount_27 (pc2 := 28) rfl ?_
    refine kg_iload_n 1 dX9_neededCount_28 rfl (pc2 := 29) rfl ?_
    obtain ⟨r4, r4h, h⟩ := kw_bind_e h
    refine kg_callV (μ := μX9_neededCount) (d := (d + 3)) rfl mVX9_isNeeded [.int (σ.1 42 v4.toNatClampNeg), .int v1] [] (gX9_isNeeded (E := E) (d := d) (σ.1 42 v4.toNatClampNeg) v1 σ r4h) rfl lmRX9_345 (ci := 9) rfl tX_0 eX_0 rfl (Nat.le_of_ble_eq_true rfl) dX9_neededCount_29 rfl (st2 := [.int r4.1]) rfl (pc2 := 32) rfl ?_
    refine kg_if_eq 38 dX9_neededCount_32 rfl (pc2 := 35) rfl (fun q5 => ?_) (fun q5 => ?_)
    · replace h := (if_pos q5).symm.trans h
      obtain ⟨x6, x6e, h⟩ := kw_let_e h
      refine kg_iinc 4 dX9_neededCount_38 rfl (Nat.le_of_ble_eq_true rfl) x6e (lv2 := [(4, .int x6), (0, .ref 0), (1, .int v1), (2, .int v2), (3, .int v3)]) rfl (pc2 := 41) rfl ?_
      refine kg_goto 11 dX9_neededCount_41 rfl ?_
      refine kg_sub [1, 2, 3, 4, 0] (lv2 := [(0, .ref 0), (1, .int v1), (2, .int v2), (3, .int v3), (4, .int x6)]) rfl ?_
      cases h
      exact hk
    · replace h := (if_neg q5).symm.trans h
      obtain ⟨x7, x7e, h⟩ := kw_let_e h
      refine kg_iinc 3 dX9_neededCount_35 rfl (Nat.le_of_ble_eq_true rfl) x7e (lv2 := [(3, .int x7), (0, .ref 0), (1, .int v1), (2, .int v2), (4, .int v4)]) rfl (pc2 := 38) rfl ?_
      obtain ⟨x8, x8e, h⟩ := kw_let_e h
      refine kg_iinc 4 dX9_neededCount_38 rfl (Nat.le_of_ble_eq_true rfl) x8e (lv2 := [(4, .int x8), (3, .int x7), (0, .ref 0), (1, .int v1), (2, .int v2)]) rfl (pc2 := 41) rfl ?_
      refine kg_goto 11 dX9_neededCount_41 rfl ?_
      refine kg_sub [2, 3, 4, 1, 0] (lv2 := [(0, .ref 0), (1, .int v1), (2, .int v2), (3, .int x7), (4, .int x8)]) rfl ?_
      cases h
      exact hk
set_option maxHeartbeats 4000000 in
set_option maxRecDepth 100000 in
theorem gX9_neededCount {E : kw_E} {d : Nat} (a1 : Int32) (σ : kw_M) {r : Int32 × kw_M} (h : fX9_neededCount a1 σ = some r) : kw_Met E kwTX 47 (d + 4) μX9_neededCount [.ref 0, .int a1] σ (some (Value.int r.1)) r.2 := by
  refine kw_enter plRX9 (Nat.le_of_ble_eq_true rfl) ?_
  show kw_G E kwTX 47 (d + 4) μX9_neededCount 0 [(0, .ref 0), (1, .int a1)] [] σ (some (Value.int r.1)) r.2
  unfold fX9_neededCount at h
  refine kg_aload_n 0 dX9_neededCount_0 rfl (pc2 := 1) rfl ?_
  refine kg_iload_n 1 dX9_neededCount_1 rfl (pc2 := 2) rfl ?_
  obtain ⟨r1, r1h, h⟩ := kw_bind_e h
  refine kg_callV (μ := μX9_neededCount) (d := (d + 3)) rfl mVX9_findWay [.int a1] [] (gX9_findWay (E := E) (d := (d + 2)) a1 σ r1h) rfl lmRX9_292 (ci := 9) rfl tX_0 eX_0 rfl (Nat.le_of_ble_eq_true rfl) dX9_neededCount_2 rfl (st2 := [.int r1.1]) rfl (pc2 := 5) rfl ?_
  refine kg_istore_n dX9_neededCount_5 rfl (Nat.le_of_ble_eq_true rfl) rfl (lv2 := [(2, .int r1.1), (0, .ref 0), (1, .int a1)]) rfl (pc2 := 6) rfl ?_
  refine kg_iconst dX9_neededCount_6 ki_0 (pc2 := 7) rfl ?_
  refine kg_istore_n dX9_neededCount_7 rfl (Nat.le_of_ble_eq_true rfl) rfl (lv2 := [(3, .int (0 : Int32)), (2, .int r1.1), (0, .ref 0), (1, .int a1)]) rfl (pc2 := 8) rfl ?_
  refine kg_iconst dX9_neededCount_8 ki_0 (pc2 := 9) rfl ?_
  refine kg_istore dX9_neededCount_9 (Nat.le_of_ble_eq_true rfl) rfl (lv2 := [(4, .int (0 : Int32)), (3, .int (0 : Int32)), (2, .int r1.1), (0, .ref 0), (1, .int a1)]) rfl (pc2 := 11) rfl ?_
  refine kg_sub [3, 4, 2, 1, 0] (lv2 := [(0, .ref 0), (1, .int a1), (2, .int r1.1), (3, .int (0 : Int32)), (4, .int (0 : Int32))]) rfl ?_
  obtain ⟨x9, x9h, h⟩ := kw_bind_e h
  refine kw_loop_e (P := fun s => kw_G E kwTX 47 (d + 4) μX9_neededCount 11 [(0, .ref 0), (1, .int a1), (2, .int r1.1), (3, .int s.1), (4, .int s.2.1)] [] s.2.2 (some (Value.int r.1)) r.2) (K := fun y => kw_G E kwTX 47 (d + 4) μX9_neededCount 44 [(3, .int y.1)] [] y.2 (some (Value.int r.1)) r.2) (fun s o h0 hk => lX9_neededCount_11 a1 r1.1 s.1 s.2.1 s.2.2 h0 hk) kw_F _ _ x9h ?_
  show kw_G E kwTX 47 (d + 4) μX9_neededCount 44 [(3, .int x9.1)] [] x9.2 (some (Value.int r.1)) r.2
  refine kg_iload_n 0 dX9_neededCount_44 rfl (pc2 := 45) rfl ?_
  cases h
  exact kg_iret (ty := .int) dX9_neededCount_45 rfl rfl
set_option maxHeartbeats 4000000 in
set_option maxRecDepth 100000 in
theorem gjX9_dearestRoad_53_L15 {E : kw_E} {d : Nat} (v1 : Int32) (v2 : Int32) (v3 : Int32) (v4 : Int64) (v6 : Int32) (v7 : Int32) (v8 : Int64) (t0 : Int32) (σ : kw_M) {v : Option Value} {σ2 : kw_M} {o : (Int32 × Int64 × Int32 × kw_M) ⊕ (Int32 × kw_M)} (h : jX9_dearestRoad_53_L15 v1 v2 v3 v4 v6 v7 v8 t0 σ = some o) (hk : Sum.elim (fun s => kw_G E kwTX 47 (d + 3) μX9_dearestRoad 15 [(0, .ref 0), (1, .int v1), (2, .int v2), (3, .int s.1), (4, .long s.2.1), (6, .int s.2.2.1)] [] s.2.2.2 v σ2) (fun y => kw_G E kwTX 47 (d + 3) μX9_dearestRoad 97 [(3, .int y.1)] [] y.2 v σ2) o) : kw_G E kwTX 47 (d + 3) μX9_dearestRoad 53 [(0, .ref 0), (1, .int v1), (2, .int v2), (3, .int v3), (4, .long v4), (6, .int v6), (7, .int v7), (8, .long v8)] [.int t0] σ v σ2 := by
  unfold jX9_dearestRoad_53_L15 at h
  refine kg_istore dX9_dearestRoad_53 (Nat.le_of_ble_eq_true rfl) rfl (lv2 := [(10, .int t0), (0, .ref 0), (1, .int v1), (2, .int v2), (3, .int v3), (4, .long v4), (6, .int v6), (7, .int v7), (8, .long v8)]) rfl (pc2 := 55) rfl ?_
  refine kg_iload 0 dX9_dearestRoad_55 rfl (pc2 := 57) rfl ?_
  refine kg_if_ne 84 dX9_dearestRoad_57 rfl (pc2 := 60) rfl (fun q7 => ?_) (fun q7 => ?_)
  · replace h := (if_neg q7).symm.trans h
    refine kg_iload 7 dX9_dearestRoad_84 rfl (pc2 := 86) rfl ?_
    refine kg_istore_n dX9_dearestRoad_86 rfl (Nat.le_of_ble_eq_true rfl) rfl (lv2 := [(3, .int v7), (10, .int t0), (0, .ref 0), (1, .int v1), (2, .int v2), (4, .long v4), (6, .int v6), (7, .int v7), (8, .long v8)]) rfl (pc2 := 87) rfl ?_
    refine kg_lload 8 dX9_dearestRoad_87 rfl (pc2 := 89) rfl ?_
    refine kg_lstore dX9_dearestRoad_89 (Nat.le_of_ble_eq_true rfl) rfl (lv2 := [(4, .long v8), (3, .int v7), (10, .int t0), (0, .ref 0), (1, .int v1), (2, .int v2), (6, .int v6), (7, .int v7), (8, .long v8)]) rfl (pc2 := 91) rfl ?_
    obtain ⟨x8, x8e, h⟩ := kw_let_e h
    refine kg_iinc 6 dX9_dearestRoad_91 rfl (Nat.le_of_ble_eq_true rfl) x8e (lv2 := [(6, .int x8), (4, .long v8), (3, .int v7), (10, .int t0), (0, .ref 0), (1, .int v1), (2, .int v2), (7, .int v7), (8, .long v8)]) rfl (pc2 := 94) rfl ?_
    refine kg_goto 15 dX9_dearestRoad_94 rfl ?_
    refine kg_sub [4, 5, 6, 2, 1, 0] (lv2 := [(0, .ref 0), (1, .int v1), (2, .int v2), (3, .int v7), (4, .long v8), (6, .int x8)]) rfl ?_
    cases h
    exact hk
  · replace h := (if_pos q7).symm.trans h
    refine kg_lload 5 dX9_dearestRoad_60 rfl (pc2 := 62) rfl ?_
    refine kg_lload 8 dX9_dearestRoad_62 rfl (pc2 := 64) rfl ?_
    obtain ⟨r9, r9h, h⟩ := kw_bind_e h
    refine kg_callS (μ := μX9_dearestRoad) (d := (d + 2)) rfl mSX9_isLess [.long v4, .long v8] [] (gX9_isLess (E := E) (d := (d + 2)) v4 v8 σ r9h) rfl lmRX9_353 rfl (Nat.le_of_ble_eq_true rfl) dX9_dearestRoad_64 rfl (st2 := [.int r9]) rfl (pc2 := 67) rfl ?_
    refine kg_if_ne 84 dX9_dearestRoad_67 rfl (pc2 := 70) rfl (fun q10 => ?_) (fun q10 => ?_)
    · replace h := (if_neg q10).symm.trans h
      refine kg_iload 7 dX9_dearestRoad_84 rfl (pc2 := 86) rfl ?_
      refine kg_istore_n dX9_dearestRoad_86 rfl (Nat.le_of_ble_eq_true rfl) rfl (lv2 := [(3, .int v7), (10, .int t0), (0, .ref 0), (1, .int v1), (2, .int v2), (4, .long v4), (6, .int v6), (7, .int v7), (8, .long v8)]) rfl (pc2 := 87) rfl ?_
      refine kg_lload 8 dX9_dearestRoad_87 rfl (pc2 := 89) rfl ?_
      refine kg_lstore dX9_dearestRoad_89 (Nat.le_of_ble_eq_true rfl) rfl (lv2 := [(4, .long v8), (3, .int v7), (10, .int t0), (0, .ref 0), (1, .int v1), (2, .int v2), (6, .int v6), (7, .int v7), (8, .long v8)]) rfl (pc2 := 91) rfl ?_
      obtain ⟨x11, x11e, h⟩ := kw_let_e h
      refine kg_iinc 6 dX9_dearestRoad_91 rfl (Nat.le_of_ble_eq_true rfl) x11e (lv2 := [(6, .int x11), (4, .long v8), (3, .int v7), (10, .int t0), (0, .ref 0), (1, .int v1), (2, .int v2), (7, .int v7), (8, .long v8)]) rfl (pc2 := 94) rfl ?_
      refine kg_goto 15 dX9_dearestRoad_94 rfl ?_
      refine kg_sub [4, 5, 6, 2, 1, 0] (lv2 := [(0, .ref 0), (1, .int v1), (2, .int v2), (3, .int v7), (4, .long v8), (6, .int x11)]) rfl ?_
      cases h
      exact hk
    · replace h := (if_pos q10).symm.trans h
      refine kg_lload 8 dX9_dearestRoad_70 rfl (pc2 := 72) rfl ?_
      refine kg_lload 5 dX9_dearestRoad_72 rfl (pc2 := 74) rfl ?_
      refine kg_lcmp_ne 91 dX9_dearestRoad_74 dX9_dearestRoad_75 rfl (pc2 := 78) rfl (fun q12 => ?_) (fun q12 => ?_)
      · replace h := (if_neg q12).symm.trans h
        obtain ⟨x13, x13e, h⟩ := kw_let_e h
        refine kg_iinc 6 dX9_dearestRoad_91 rfl (Nat.le_of_ble_eq_true rfl) x13e (lv2 := [(6, .int x13), (10, .int t0), (0, .ref 0), (1, .int v1), (2, .int v2), (3, .int v3), (4, .long v4), (7, .int v7), (8, .long v8)]) rfl (pc2 := 94) rfl ?_
        refine kg_goto 15 dX9_dearestRoad_94 rfl ?_
        refine kg_sub [2, 3, 4, 5, 6, 0] (lv2 := [(0, .ref 0), (1, .int v1), (2, .int v2), (3, .int v3), (4, .long v4), (6, .int x13)]) rfl ?_
        cases h
        exact hk
      · replace h := (if_pos q12).symm.trans h
        refine kg_iload 7 dX9_dearestRoad_78 rfl (pc2 := 80) rfl ?_
        refine kg_iload_n 4 dX9_dearestRoad_80 rfl (pc2 := 81) rfl ?_
        refine kg_icmp_ge 91 dX9_dearestRoad_81 rfl (pc2 := 84) rfl (fun q14 => ?_) (fun q14 => ?_)
        · replace h := (if_pos q14).symm.trans h
          obtain ⟨x15, x15e, h⟩ := kw_let_e h
          refine kg_iinc 6 dX9_dearestRoad_91 rfl (Nat.le_of_ble_eq_true rfl) x15e (lv2 := [(6, .int x15), (10, .int t0), (0, .ref 0), (1, .int v1), (2, .int v2), (3, .int v3), (4, .long v4), (7, .int v7), (8, .long v8)]) rfl (pc2 := 94) rfl ?_
          refine kg_goto 15 dX9_dearestRoad_94 rfl ?_
          refine kg_sub [2, 3, 4, 5, 6, 0] (lv2 := [(0, .ref 0), (1, .int v1), (2, .int v2), (3, .int v3), (4, .long v4), (6, .int x15)]) rfl ?_
          cases h
          exact hk
        · replace h := (if_neg q14).symm.trans h
          refine kg_iload 7 dX9_dearestRoad_84 rfl (pc2 := 86) rfl ?_
          refine kg_istore_n dX9_dearestRoad_86 rfl (Nat.le_of_ble_eq_true rfl) rfl (lv2 := [(3, .int v7), (10, .int t0), (0, .ref 0), (1, .int v1), (2, .int v2), (4, .long v4), (6, .int v6), (7, .int v7), (8, .long v8)]) rfl (pc2 := 87) rfl ?_
          refine kg_lload 8 dX9_dearestRoad_87 rfl (pc2 := 89) rfl ?_
          refine kg_lstore dX9_dearestRoad_89 (Nat.le_of_ble_eq_true rfl) rfl (lv2 := [(4, .long v8), (3, .int v7), (10, .int t0), (0, .ref 0), (1, .int v1), (2, .int v2), (6, .int v6), (7, .int v7), (8, .long v8)]) rfl (pc2 := 91) rfl ?_
          obtain ⟨x16, x16e, h⟩ := kw_let_e h
          refine kg_iinc 6 dX9_dearestRoad_91 rfl (Nat.le_of_ble_eq_true rfl) x16e (lv2 := [(6, .int x16), (4, .long v8), (3, .int v7), (10, .int t0), (0, .ref 0), (1, .int v1), (2, .int v2), (7, .int v7), (8, .long v8)]) rfl (pc2 := 94) rfl ?_
          refine kg_goto 15 dX9_dearestRoad_94 rfl ?_
          refine kg_sub [4, 5, 6, 2, 1, 0] (lv2 := [(0, .ref 0), (1, .int v1), (2, .int v2), (3, .int v7), (4, .long v8), (6, .int x16)]) rfl ?_
          cases h
          exact hk
set_option maxHeartbeats 4000000 in
set_option maxRecDepth 100000 in
theorem lX9_dearestRoad_15 {E : kw_E} {d : Nat} (v1 : Int32) (v2 : Int32) (v3 : Int32) (v4 : Int64) (v6 : Int32) (σ : kw_M) {v : Option Value} {σ2 : kw_M} {o : (Int32 × Int64 × Int32 × kw_M) ⊕ (Int32 × kw_M)} (h : bX9_dearestRoad_15 v1 v2 v3 v4 v6 σ = some o) (hk : Sum.elim (fun s => kw_G E kwTX 47 (d + 3) μX9_dearestRoad 15 [(0, .ref 0), (1, .int v1), (2, .int v2), (3, .int s.1), (4, .long s.2.1), (6, .int s.2.2.1)] [] s.2.2.2 v σ2) (fun y => kw_G E kwTX 47 (d + 3) μX9_dearestRoad 97 [(3, .int y.1)] [] y.2 v σ2) o) : kw_G E kwTX 47 (d + 3) μX9_dearestRoad 15 [(0, .ref 0), (1, .int v1), (2, .int v2), (3, .int v3), (4, .long v4), (6, .int v6)] [] σ v σ2 := by
  unfold bX9_dearestRoad_15 at h
  refine kg_iload 5 dX9_dearestRoad_15 rfl (pc2 := 17) rfl ?_
  refine kg_iload_n 2 dX9_dearestRoad_17 rfl (pc2 := 18) rfl ?_
  refine kg_icmp_ge 97 dX9_dearestRoad_18 rfl (pc2 := 21) rfl (fun q2 => ?_) (fun q2 => ?_)
  · replace h := (if_pos q2).symm.trans h
    refine kg_sub [3] (lv2 := [(3, .int v3)]) rfl ?_
    cases h
    exact hk
  · replace h := (if_neg q2).symm.trans h
    refine kg_aload_n 0 dX9_dearestRoad_21 rfl (pc2 := 22) rfl ?_
    refine kg_getr clX9 rfl 6 (Nat.le_of_ble_eq_true rfl) lfRX9_43 tX_0 eX_0 rfl dX9_dearestRoad_22 (pc2 := 25) rfl ?_
    refine kg_getr clX6 rfl 1 (Nat.le_of_ble_eq_true rfl) lfRX9_339 tX_6 eX_6 rfl dX9_dearestRoad_25 (pc2 := 28) rfl ?_
    refine kg_iload 5 dX9_dearestRoad_28 rfl (pc2 := 30) rfl ?_
    obtain ⟨q3, h⟩ := kw_chk_e h
    refine kg_iald tX_42 eX_42 q3 (j := v6.toNatClampNeg) rfl dX9_dearestRoad_30 (pc2 := 31) rfl ?_
    obtain ⟨x4, x4e, h⟩ := kw_let_e h
    refine kg_istore dX9_dearestRoad_31 (Nat.le_of_ble_eq_true rfl) x4e (lv2 := [(7, .int x4), (0, .ref 0), (1, .int v1), (2, .int v2), (3, .int v3), (4, .long v4), (6, .int v6)]) rfl (pc2 := 33) rfl ?_
    refine kg_aload_n 1 dX9_dearestRoad_33 rfl (pc2 := 34) rfl ?_
    refine kg_iload 0 dX9_dearestRoad_34 rfl (pc2 := 36) rfl ?_
    refine kg_iload_n 2 dX9_dearestRoad_36 rfl (pc2 := 37) rfl ?_
    obtain ⟨r5, r5h, h⟩ := kw_bind_e h
    refine kg_callV (μ := μX9_dearestRoad) (d := (d + 2)) rfl mVX9_distanceWithout [.int x4, .int v1] [] (gX9_distanceWithout (E := E) (d := d) x4 v1 σ r5h) rfl lmRX9_349 (ci := 9) rfl tX_0 eX_0 rfl (Nat.le_of_ble_eq_true rfl) dX9_dearestRoad_37 rfl (st2 := [.long r5.1]) rfl (pc2 := 40) rfl ?_
    refine kg_lstore dX9_dearestRoad_40 (Nat.le_of_ble_eq_true rfl) rfl (lv2 := [(8, .long r5.1), (7, .int x4), (0, .ref 0), (1, .int v1), (2, .int v2), (3, .int v3), (4, .long v4), (6, .int v6)]) rfl (pc2 := 42) rfl ?_
    refine kg_iload_n 5 dX9_dearestRoad_42 rfl (pc2 := 43) rfl ?_
    refine kg_bipush dX9_dearestRoad_43 kb_m2 (pc2 := 45) rfl ?_
    refine kg_icmp_ne 52 dX9_dearestRoad_45 rfl (pc2 := 48) rfl (fun q6 => ?_) (fun q6 => ?_)
    · replace h := (if_neg q6).symm.trans h
      refine kg_iconst dX9_dearestRoad_52 ki_0 (pc2 := 53) rfl ?_
      refine kg_sub [2, 3, 4, 5, 6, 7, 1, 0] (lv2 := [(0, .ref 0), (1, .int v1), (2, .int v2), (3, .int v3), (4, .long v4), (6, .int v6), (7, .int x4), (8, .long r5.1)]) rfl ?_
      exact gjX9_dearestRoad_53_L15 v1 v2 v3 v4 v6 x4 r5.1 (0 : Int32) r5.2 h hk
    · replace h := (if_pos q6).symm.trans h
      refine kg_iconst dX9_dearestRoad_48 ki_1 (pc2 := 49) rfl ?_
      refine kg_goto 53 dX9_dearestRoad_49 rfl ?_
      refine kg_sub [2, 3, 4, 5, 6, 7, 1, 0] (lv2 := [(0, .ref 0), (1, .int v1), (2, .int v2), (3, .int v3), (4, .long v4), (6, .int v6), (7, .int x4), (8, .long r5.1)]) rfl ?_
      exact gjX9_dearestRoad_53_L15 v1 v2 v3 v4 v6 x4 r5.1 (1 : Int32) r5.2 h hk
set_option maxHeartbeats 4000000 in
set_option maxRecDepth 100000 in
theorem gX9_dearestRoad {E : kw_E} {d : Nat} (a1 : Int32) (σ : kw_M) {r : Int32 × kw_M} (h : fX9_dearestRoad a1 σ = some r) : kw_Met E kwTX 47 (d + 3) μX9_dearestRoad [.ref 0, .int a1] σ (some (Value.int r.1)) r.2 := by
  refine kw_enter plRX9 (Nat.le_of_ble_eq_true rfl) ?_
  show kw_G E kwTX 47 (d + 3) μX9_dearestRoad 0 [(0, .ref 0), (1, .int a1)] [] σ (some (Value.int r.1)) r.2
  unfold fX9_dearestRoad at h
  refine kg_aload_n 0 dX9_dearestRoad_0 rfl (pc2 := 1) rfl ?_
  refine kg_iload_n 1 dX9_dearestRoad_1 rfl (pc2 := 2) rfl ?_
  obtain ⟨r1, r1h, h⟩ := kw_bind_e h
  refine kg_callV (μ := μX9_dearestRoad) (d := (d + 2)) rfl mVX9_findWay [.int a1] [] (gX9_findWay (E := E) (d := (d + 1)) a1 σ r1h) rfl lmRX9_292 (ci := 9) rfl tX_0 eX_0 rfl (Nat.le_of_ble_eq_true rfl) dX9_dearestRoad_2 rfl (st2 := [.int r1.1]) rfl (pc2 := 5) rfl ?_
  refine kg_istore_n dX9_dearestRoad_5 rfl (Nat.le_of_ble_eq_true rfl) rfl (lv2 := [(2, .int r1.1), (0, .ref 0), (1, .int a1)]) rfl (pc2 := 6) rfl ?_
  refine kg_bipush dX9_dearestRoad_6 kb_m2 (pc2 := 8) rfl ?_
  refine kg_istore_n dX9_dearestRoad_8 rfl (Nat.le_of_ble_eq_true rfl) rfl (lv2 := [(3, .int (-2 : Int32)), (2, .int r1.1), (0, .ref 0), (1, .int a1)]) rfl (pc2 := 9) rfl ?_
  refine kg_lconst dX9_dearestRoad_9 kl_0 (pc2 := 10) rfl ?_
  refine kg_lstore dX9_dearestRoad_10 (Nat.le_of_ble_eq_true rfl) rfl (lv2 := [(4, .long (0 : Int64)), (3, .int (-2 : Int32)), (2, .int r1.1), (0, .ref 0), (1, .int a1)]) rfl (pc2 := 12) rfl ?_
  refine kg_iconst dX9_dearestRoad_12 ki_0 (pc2 := 13) rfl ?_
  refine kg_istore dX9_dearestRoad_13 (Nat.le_of_ble_eq_true rfl) rfl (lv2 := [(6, .int (0 : Int32)), (4, .long (0 : Int64)), (3, .int (-2 : Int32)), (2, .int r1.1), (0, .ref 0), (1, .int a1)]) rfl (pc2 := 15) rfl ?_
  refine kg_sub [4, 5, 3, 2, 1, 0] (lv2 := [(0, .ref 0), (1, .int a1), (2, .int r1.1), (3, .int (-2 : Int32)), (4, .long (0 : Int64)), (6, .int (0 : Int32))]) rfl ?_
  obtain ⟨x17, x17h, h⟩ := kw_bind_e h
  refine kw_loop_e (P := fun s => kw_G E kwTX 47 (d + 3) μX9_dearestRoad 15 [(0, .ref 0), (1, .int a1), (2, .int r1.1), (3, .int s.1), (4, .long s.2.1), (6, .int s.2.2.1)] [] s.2.2.2 (some (Value.int r.1)) r.2) (K := fun y => kw_G E kwTX 47 (d + 3) μX9_dearestRoad 97 [(3, .int y.1)] [] y.2 (some (Value.int r.1)) r.2) (fun s o h0 hk => lX9_dearestRoad_15 a1 r1.1 s.1 s.2.1 s.2.2.1 s.2.2.2 h0 hk) kw_F _ _ x17h ?_
  show kw_G E kwTX 47 (d + 3) μX9_dearestRoad 97 [(3, .int x17.1)] [] x17.2 (some (Value.int r.1)) r.2
  refine kg_iload_n 0 dX9_dearestRoad_97 rfl (pc2 := 98) rfl ?_
  cases h
  exact kg_iret (ty := .int) dX9_dearestRoad_98 rfl rfl
set_option maxHeartbeats 4000000 in
set_option maxRecDepth 100000 in
theorem gjX1_hasTwinBefore_50_L10 {E : kw_E} {d : Nat} (v1 : Int32) (v3 : Int32) (t0 : Int32) (σ : kw_M) {v : Option Value} {σ2 : kw_M} {o : (Int32) ⊕ ((Int32) ⊕ (Unit))} (h : jX1_hasTwinBefore_50_L10 v1 v3 t0 σ = some o) (hk : Sum.elim (fun s => kw_G E kwTX 47 (d + 1) μX1_hasTwinBefore 10 [(1, .int v1), (2, .ref 12), (3, .int s)] [] σ v σ2) (Sum.elim (fun rr => v = some (Value.int rr) ∧ σ2 = σ) (fun y => kw_G E kwTX 47 (d + 1) μX1_hasTwinBefore 88 [] [] σ v σ2)) o) : kw_G E kwTX 47 (d + 1) μX1_hasTwinBefore 50 [(1, .int v1), (2, .ref 12), (3, .int v3)] [.int t0] σ v σ2 := by
  unfold jX1_hasTwinBefore_50_L10 at h
  refine kg_istore dX1_hasTwinBefore_50 (Nat.le_of_ble_eq_true rfl) rfl (lv2 := [(4, .int t0), (1, .int v1), (2, .ref 12), (3, .int v3)]) rfl (pc2 := 52) rfl ?_
  refine kg_iload 0 dX1_hasTwinBefore_52 rfl (pc2 := 54) rfl ?_
  refine kg_if_eq 82 dX1_hasTwinBefore_54 rfl (pc2 := 57) rfl (fun q5 => ?_) (fun q5 => ?_)
  · replace h := (if_pos q5).symm.trans h
    obtain ⟨x6, x6e, h⟩ := kw_let_e h
    refine kg_iinc 3 dX1_hasTwinBefore_82 rfl (Nat.le_of_ble_eq_true rfl) x6e (lv2 := [(3, .int x6), (4, .int t0), (1, .int v1), (2, .ref 12)]) rfl (pc2 := 85) rfl ?_
    refine kg_goto 10 dX1_hasTwinBefore_85 rfl ?_
    refine kg_sub [2, 3, 0] (lv2 := [(1, .int v1), (2, .ref 12), (3, .int x6)]) rfl ?_
    cases h
    exact hk
  · replace h := (if_neg q5).symm.trans h
    refine kg_aload_n 2 dX1_hasTwinBefore_57 rfl (pc2 := 58) rfl ?_
    refine kg_getr clX4 rfl 5 (Nat.le_of_ble_eq_true rfl) lfRX1_75 tX_12 eX_12 rfl dX1_hasTwinBefore_58 (pc2 := 61) rfl ?_
    refine kg_iload_n 3 dX1_hasTwinBefore_61 rfl (pc2 := 62) rfl ?_
    obtain ⟨q7, h⟩ := kw_chk_e h
    refine kg_iald tX_20 eX_20 q7 (j := v3.toNatClampNeg) rfl dX1_hasTwinBefore_62 (pc2 := 63) rfl ?_
    refine kg_aload_n 2 dX1_hasTwinBefore_63 rfl (pc2 := 64) rfl ?_
    refine kg_getr clX4 rfl 5 (Nat.le_of_ble_eq_true rfl) lfRX1_75 tX_12 eX_12 rfl dX1_hasTwinBefore_64 (pc2 := 67) rfl ?_
    refine kg_iload_n 1 dX1_hasTwinBefore_67 rfl (pc2 := 68) rfl ?_
    obtain ⟨q8, h⟩ := kw_chk_e h
    refine kg_iald tX_20 eX_20 q8 (j := v1.toNatClampNeg) rfl dX1_hasTwinBefore_68 (pc2 := 69) rfl ?_
    refine kg_icmp_ne 82 dX1_hasTwinBefore_69 rfl (pc2 := 72) rfl (fun q9 => ?_) (fun q9 => ?_)
    · replace h := (if_neg q9).symm.trans h
      obtain ⟨x10, x10e, h⟩ := kw_let_e h
      refine kg_iinc 3 dX1_hasTwinBefore_82 rfl (Nat.le_of_ble_eq_true rfl) x10e (lv2 := [(3, .int x10), (4, .int t0), (1, .int v1), (2, .ref 12)]) rfl (pc2 := 85) rfl ?_
      refine kg_goto 10 dX1_hasTwinBefore_85 rfl ?_
      refine kg_sub [2, 3, 0] (lv2 := [(1, .int v1), (2, .ref 12), (3, .int x10)]) rfl ?_
      cases h
      exact hk
    · replace h := (if_pos q9).symm.trans h
      refine kg_aload_n 2 dX1_hasTwinBefore_72 rfl (pc2 := 73) rfl ?_
      refine kg_iload_n 3 dX1_hasTwinBefore_73 rfl (pc2 := 74) rfl ?_
      obtain ⟨r11, r11h, h⟩ := kw_bind_e h
      refine kg_callV (μ := μX1_hasTwinBefore) (d := d) rfl mVX4_isOpen [.int v3] [] (gX4_isOpen (E := E) (d := d) 12 kx_4_12 v3 σ r11h) rfl lmRX1_61 (ci := 4) rfl tX_12 eX_12 rfl (Nat.le_of_ble_eq_true rfl) dX1_hasTwinBefore_74 rfl (st2 := [.int r11]) rfl (pc2 := 77) rfl ?_
      refine kg_if_eq 82 dX1_hasTwinBefore_77 rfl (pc2 := 80) rfl (fun q12 => ?_) (fun q12 => ?_)
      · replace h := (if_pos q12).symm.trans h
        obtain ⟨x13, x13e, h⟩ := kw_let_e h
        refine kg_iinc 3 dX1_hasTwinBefore_82 rfl (Nat.le_of_ble_eq_true rfl) x13e (lv2 := [(3, .int x13), (4, .int t0), (1, .int v1), (2, .ref 12)]) rfl (pc2 := 85) rfl ?_
        refine kg_goto 10 dX1_hasTwinBefore_85 rfl ?_
        refine kg_sub [2, 3, 0] (lv2 := [(1, .int v1), (2, .ref 12), (3, .int x13)]) rfl ?_
        cases h
        exact hk
      · replace h := (if_neg q12).symm.trans h
        refine kg_iconst dX1_hasTwinBefore_80 ki_1 (pc2 := 81) rfl ?_
        cases h
        obtain ⟨rfl, rfl⟩ := hk
        exact kg_iret (ty := .boolean) dX1_hasTwinBefore_81 rfl rfl
set_option maxHeartbeats 4000000 in
set_option maxRecDepth 100000 in
theorem gjX1_hasTwinBefore_49_L10 {E : kw_E} {d : Nat} (v1 : Int32) (v3 : Int32) (σ : kw_M) {v : Option Value} {σ2 : kw_M} {o : (Int32) ⊕ ((Int32) ⊕ (Unit))} (h : jX1_hasTwinBefore_49_L10 v1 v3 σ = some o) (hk : Sum.elim (fun s => kw_G E kwTX 47 (d + 1) μX1_hasTwinBefore 10 [(1, .int v1), (2, .ref 12), (3, .int s)] [] σ v σ2) (Sum.elim (fun rr => v = some (Value.int rr) ∧ σ2 = σ) (fun y => kw_G E kwTX 47 (d + 1) μX1_hasTwinBefore 88 [] [] σ v σ2)) o) : kw_G E kwTX 47 (d + 1) μX1_hasTwinBefore 49 [(1, .int v1), (2, .ref 12), (3, .int v3)] [] σ v σ2 := by
  unfold jX1_hasTwinBefore_49_L10 at h
  refine kg_iconst dX1_hasTwinBefore_49 ki_0 (pc2 := 50) rfl ?_
  exact gjX1_hasTwinBefore_50_L10 v1 v3 (0 : Int32) σ h hk
set_option maxHeartbeats 4000000 in
set_option maxRecDepth 100000 in
theorem lX1_hasTwinBefore_10 {E : kw_E} {d : Nat} (v1 : Int32) (σ : kw_M) (v3 : Int32) {v : Option Value} {σ2 : kw_M} {o : (Int32) ⊕ ((Int32) ⊕ (Unit))} (h : bX1_hasTwinBefore_10 v1 σ v3 = some o) (hk : Sum.elim (fun s => kw_G E kwTX 47 (d + 1) μX1_hasTwinBefore 10 [(1, .int v1), (2, .ref 12), (3, .int s)] [] σ v σ2) (Sum.elim (fun rr => v = some (Value.int rr) ∧ σ2 = σ) (fun y => kw_G E kwTX 47 (d + 1) μX1_hasTwinBefore 88 [] [] σ v σ2)) o) : kw_G E kwTX 47 (d + 1) μX1_hasTwinBefore 10 [(1, .int v1), (2, .ref 12), (3, .int v3)] [] σ v σ2 := by
  unfold bX1_hasTwinBefore_10 at h
  refine kg_iload_n 2 dX1_hasTwinBefore_10 rfl (pc2 := 11) rfl ?_
  refine kg_iload_n 0 dX1_hasTwinBefore_11 rfl (pc2 := 12) rfl ?_
  refine kg_icmp_ge 88 dX1_hasTwinBefore_12 rfl (pc2 := 15) rfl (fun q1 => ?_) (fun q1 => ?_)
  · replace h := (if_pos q1).symm.trans h
    refine kg_sub [] (lv2 := []) rfl ?_
    cases h
    exact hk
  · replace h := (if_neg q1).symm.trans h
    refine kg_aload_n 1 dX1_hasTwinBefore_15 rfl (pc2 := 16) rfl ?_
    refine kg_getr clX4 rfl 3 (Nat.le_of_ble_eq_true rfl) lfRX1_68 tX_12 eX_12 rfl dX1_hasTwinBefore_16 (pc2 := 19) rfl ?_
    refine kg_iload_n 2 dX1_hasTwinBefore_19 rfl (pc2 := 20) rfl ?_
    obtain ⟨q2, h⟩ := kw_chk_e h
    refine kg_iald tX_18 eX_18 q2 (j := v3.toNatClampNeg) rfl dX1_hasTwinBefore_20 (pc2 := 21) rfl ?_
    refine kg_aload_n 1 dX1_hasTwinBefore_21 rfl (pc2 := 22) rfl ?_
    refine kg_getr clX4 rfl 3 (Nat.le_of_ble_eq_true rfl) lfRX1_68 tX_12 eX_12 rfl dX1_hasTwinBefore_22 (pc2 := 25) rfl ?_
    refine kg_iload_n 0 dX1_hasTwinBefore_25 rfl (pc2 := 26) rfl ?_
    obtain ⟨q3, h⟩ := kw_chk_e h
    refine kg_iald tX_18 eX_18 q3 (j := v1.toNatClampNeg) rfl dX1_hasTwinBefore_26 (pc2 := 27) rfl ?_
    refine kg_icmp_ne 49 dX1_hasTwinBefore_27 rfl (pc2 := 30) rfl (fun q4 => ?_) (fun q4 => ?_)
    · replace h := (if_neg q4).symm.trans h
      exact gjX1_hasTwinBefore_49_L10 v1 v3 σ h hk
    · replace h := (if_pos q4).symm.trans h
      refine kg_aload_n 1 dX1_hasTwinBefore_30 rfl (pc2 := 31) rfl ?_
      refine kg_getr clX4 rfl 4 (Nat.le_of_ble_eq_true rfl) lfRX1_72 tX_12 eX_12 rfl dX1_hasTwinBefore_31 (pc2 := 34) rfl ?_
      refine kg_iload_n 2 dX1_hasTwinBefore_34 rfl (pc2 := 35) rfl ?_
      refine kg_iald tX_19 eX_19 q2 (j := v3.toNatClampNeg) rfl dX1_hasTwinBefore_35 (pc2 := 36) rfl ?_
      refine kg_aload_n 1 dX1_hasTwinBefore_36 rfl (pc2 := 37) rfl ?_
      refine kg_getr clX4 rfl 4 (Nat.le_of_ble_eq_true rfl) lfRX1_72 tX_12 eX_12 rfl dX1_hasTwinBefore_37 (pc2 := 40) rfl ?_
      refine kg_iload_n 0 dX1_hasTwinBefore_40 rfl (pc2 := 41) rfl ?_
      refine kg_iald tX_19 eX_19 q3 (j := v1.toNatClampNeg) rfl dX1_hasTwinBefore_41 (pc2 := 42) rfl ?_
      refine kg_icmp_ne 49 dX1_hasTwinBefore_42 rfl (pc2 := 45) rfl (fun q14 => ?_) (fun q14 => ?_)
      · replace h := (if_neg q14).symm.trans h
        exact gjX1_hasTwinBefore_49_L10 v1 v3 σ h hk
      · replace h := (if_pos q14).symm.trans h
        refine kg_iconst dX1_hasTwinBefore_45 ki_1 (pc2 := 46) rfl ?_
        refine kg_goto 50 dX1_hasTwinBefore_46 rfl ?_
        exact gjX1_hasTwinBefore_50_L10 v1 v3 (1 : Int32) σ h hk
set_option maxHeartbeats 4000000 in
set_option maxRecDepth 100000 in
theorem gX1_hasTwinBefore {E : kw_E} {d : Nat} (a1 : Int32) (σ : kw_M) {r : Int32} (h : fX1_hasTwinBefore a1 σ = some r) : kw_Met E kwTX 47 (d + 1) μX1_hasTwinBefore [.ref 7, .int a1] σ (some (Value.int r)) σ := by
  refine kw_enter plRX1 (Nat.le_of_ble_eq_true rfl) ?_
  show kw_G E kwTX 47 (d + 1) μX1_hasTwinBefore 0 [(0, .ref 7), (1, .int a1)] [] σ (some (Value.int r)) σ
  unfold fX1_hasTwinBefore at h
  refine kg_aload_n 0 dX1_hasTwinBefore_0 rfl (pc2 := 1) rfl ?_
  refine kg_getr clX1 rfl 0 (Nat.le_of_ble_eq_true rfl) lfRX1_9 tX_7 eX_7 rfl dX1_hasTwinBefore_1 (pc2 := 4) rfl ?_
  refine kg_getr clX7 rfl 0 (Nat.le_of_ble_eq_true rfl) lfRX1_52 tX_1 eX_1 rfl dX1_hasTwinBefore_4 (pc2 := 7) rfl ?_
  refine kg_astore_n dX1_hasTwinBefore_7 rfl (Nat.le_of_ble_eq_true rfl) rfl (lv2 := [(2, .ref 12), (0, .ref 7), (1, .int a1)]) rfl (pc2 := 8) rfl ?_
  refine kg_iconst dX1_hasTwinBefore_8 ki_0 (pc2 := 9) rfl ?_
  refine kg_istore_n dX1_hasTwinBefore_9 rfl (Nat.le_of_ble_eq_true rfl) rfl (lv2 := [(3, .int (0 : Int32)), (2, .ref 12), (0, .ref 7), (1, .int a1)]) rfl (pc2 := 10) rfl ?_
  refine kg_sub [3, 1, 0] (lv2 := [(1, .int a1), (2, .ref 12), (3, .int (0 : Int32))]) rfl ?_
  obtain ⟨x15, x15h, h⟩ := kw_bind_e h
  refine kw_loop_e (P := fun s => kw_G E kwTX 47 (d + 1) μX1_hasTwinBefore 10 [(1, .int a1), (2, .ref 12), (3, .int s)] [] σ (some (Value.int r)) σ) (K := Sum.elim (fun rr => (some (Value.int r)) = some (Value.int rr) ∧ σ = σ) (fun y => kw_G E kwTX 47 (d + 1) μX1_hasTwinBefore 88 [] [] σ (some (Value.int r)) σ)) (fun s o h0 hk => lX1_hasTwinBefore_10 a1 σ s h0 hk) kw_F _ _ x15h ?_
  rcases x15 with x15r | x15
  · replace h := kw_se_l h
    cases h
    exact ⟨rfl, rfl⟩
  · replace h := kw_se_r h
    show kw_G E kwTX 47 (d + 1) μX1_hasTwinBefore 88 [] [] σ (some (Value.int r)) σ
    refine kg_iconst dX1_hasTwinBefore_88 ki_0 (pc2 := 89) rfl ?_
    cases h
    exact kg_iret (ty := .boolean) dX1_hasTwinBefore_89 rfl rfl
set_option maxHeartbeats 4000000 in
set_option maxRecDepth 100000 in
theorem lX1_findUseful_7 {E : kw_E} {d : Nat} (v1 : Int32) (σ : kw_M) {v : Option Value} {σ2 : kw_M} {o : (Int32 × kw_M) ⊕ (kw_M)} (h : bX1_findUseful_7 v1 σ = some o) (hk : Sum.elim (fun s => kw_G E kwTX 47 (d + 2) μX1_findUseful 7 [(0, .ref 7), (1, .int s.1)] [] s.2 v σ2) (fun y => kw_G E kwTX 47 (d + 2) μX1_findUseful 61 [] [] y v σ2) o) : kw_G E kwTX 47 (d + 2) μX1_findUseful 7 [(0, .ref 7), (1, .int v1)] [] σ v σ2 := by
  unfold bX1_findUseful_7 at h
  refine kg_iload_n 1 dX1_findUseful_7 rfl (pc2 := 8) rfl ?_
  refine kg_aload_n 0 dX1_findUseful_8 rfl (pc2 := 9) rfl ?_
  refine kg_getr clX1 rfl 0 (Nat.le_of_ble_eq_true rfl) lfRX1_9 tX_7 eX_7 rfl dX1_findUseful_9 (pc2 := 12) rfl ?_
  refine kg_getr clX7 rfl 0 (Nat.le_of_ble_eq_true rfl) lfRX1_52 tX_1 eX_1 rfl dX1_findUseful_12 (pc2 := 15) rfl ?_
  refine kg_geti clX4 rfl 1 (Nat.le_of_ble_eq_true rfl) lfRX1_56 tX_12 eX_12 rfl dX1_findUseful_15 (pc2 := 18) rfl ?_
  refine kg_icmp_ge 61 dX1_findUseful_18 rfl (pc2 := 21) rfl (fun q2 => ?_) (fun q2 => ?_)
  · replace h := (if_pos q2).symm.trans h
    refine kg_sub [] (lv2 := []) rfl ?_
    cases h
    exact hk
  · replace h := (if_neg q2).symm.trans h
    refine kg_aload_n 0 dX1_findUseful_21 rfl (pc2 := 22) rfl ?_
    refine kg_getr clX1 rfl 0 (Nat.le_of_ble_eq_true rfl) lfRX1_9 tX_7 eX_7 rfl dX1_findUseful_22 (pc2 := 25) rfl ?_
    refine kg_getr clX7 rfl 0 (Nat.le_of_ble_eq_true rfl) lfRX1_52 tX_1 eX_1 rfl dX1_findUseful_25 (pc2 := 28) rfl ?_
    refine kg_iload_n 1 dX1_findUseful_28 rfl (pc2 := 29) rfl ?_
    obtain ⟨r3, r3h, h⟩ := kw_bind_e h
    refine kg_callV (μ := μX1_findUseful) (d := (d + 1)) rfl mVX4_isOpen [.int v1] [] (gX4_isOpen (E := E) (d := (d + 1)) 12 kx_4_12 v1 σ r3h) rfl lmRX1_61 (ci := 4) rfl tX_12 eX_12 rfl (Nat.le_of_ble_eq_true rfl) dX1_findUseful_29 rfl (st2 := [.int r3]) rfl (pc2 := 32) rfl ?_
    refine kg_if_eq 55 dX1_findUseful_32 rfl (pc2 := 35) rfl (fun q4 => ?_) (fun q4 => ?_)
    · replace h := (if_pos q4).symm.trans h
      obtain ⟨x5, x5e, h⟩ := kw_let_e h
      refine kg_iinc 1 dX1_findUseful_55 rfl (Nat.le_of_ble_eq_true rfl) x5e (lv2 := [(1, .int x5), (0, .ref 7)]) rfl (pc2 := 58) rfl ?_
      refine kg_goto 7 dX1_findUseful_58 rfl ?_
      refine kg_sub [1, 0] (lv2 := [(0, .ref 7), (1, .int x5)]) rfl ?_
      cases h
      exact hk
    · replace h := (if_neg q4).symm.trans h
      refine kg_aload_n 0 dX1_findUseful_35 rfl (pc2 := 36) rfl ?_
      refine kg_iload_n 1 dX1_findUseful_36 rfl (pc2 := 37) rfl ?_
      obtain ⟨r6, r6h, h⟩ := kw_bind_e h
      refine kg_callV (μ := μX1_findUseful) (d := (d + 1)) rfl mVX1_hasTwinBefore [.int v1] [] (gX1_hasTwinBefore (E := E) (d := d) v1 σ r6h) rfl lmRX1_65 (ci := 1) rfl tX_7 eX_7 rfl (Nat.le_of_ble_eq_true rfl) dX1_findUseful_37 rfl (st2 := [.int r6]) rfl (pc2 := 40) rfl ?_
      refine kg_if_ne 55 dX1_findUseful_40 rfl (pc2 := 43) rfl (fun q7 => ?_) (fun q7 => ?_)
      · replace h := (if_neg q7).symm.trans h
        obtain ⟨x8, x8e, h⟩ := kw_let_e h
        refine kg_iinc 1 dX1_findUseful_55 rfl (Nat.le_of_ble_eq_true rfl) x8e (lv2 := [(1, .int x8), (0, .ref 7)]) rfl (pc2 := 58) rfl ?_
        refine kg_goto 7 dX1_findUseful_58 rfl ?_
        refine kg_sub [1, 0] (lv2 := [(0, .ref 7), (1, .int x8)]) rfl ?_
        cases h
        exact hk
      · replace h := (if_pos q7).symm.trans h
        refine kg_aload_n 0 dX1_findUseful_43 rfl (pc2 := 44) rfl ?_
        refine kg_dup dX1_findUseful_44 rfl (pc2 := 45) rfl ?_
        refine kg_getl clX1 rfl 4 (Nat.le_of_ble_eq_true rfl) lfRX1_49 tX_7 eX_7 rfl dX1_findUseful_45 (pc2 := 48) rfl ?_
        refine kg_lconst dX1_findUseful_48 kl_1 (pc2 := 49) rfl ?_
        refine kg_iload_n 1 dX1_findUseful_49 rfl (pc2 := 50) rfl ?_
        refine kg_lshl dX1_findUseful_50 (pc2 := 51) rfl ?_
        refine kg_lor dX1_findUseful_51 (pc2 := 52) rfl ?_
        obtain ⟨s9, s9e, h⟩ := kw_let_e h
        refine kg_putl clX1 rfl 4 (Nat.le_of_ble_eq_true rfl) lfRX1_49 rfl tX_7 eX_7 rfl (ty := .long) (by decide +kernel) rfl rfl s9e dX1_findUseful_52 (pc2 := 55) rfl ?_
        obtain ⟨x10, x10e, h⟩ := kw_let_e h
        refine kg_iinc 1 dX1_findUseful_55 rfl (Nat.le_of_ble_eq_true rfl) x10e (lv2 := [(1, .int x10), (0, .ref 7)]) rfl (pc2 := 58) rfl ?_
        refine kg_goto 7 dX1_findUseful_58 rfl ?_
        refine kg_sub [1, 0] (lv2 := [(0, .ref 7), (1, .int x10)]) rfl ?_
        cases h
        exact hk
set_option maxHeartbeats 4000000 in
set_option maxRecDepth 100000 in
theorem gX1_findUseful {E : kw_E} {d : Nat} (σ : kw_M) {r : kw_M} (h : fX1_findUseful σ = some r) : kw_Met E kwTX 47 (d + 2) μX1_findUseful [.ref 7] σ none r := by
  refine kw_enter plRX1 (Nat.le_of_ble_eq_true rfl) ?_
  show kw_G E kwTX 47 (d + 2) μX1_findUseful 0 [(0, .ref 7)] [] σ none r
  unfold fX1_findUseful at h
  refine kg_aload_n 0 dX1_findUseful_0 rfl (pc2 := 1) rfl ?_
  refine kg_lconst dX1_findUseful_1 kl_0 (pc2 := 2) rfl ?_
  obtain ⟨s1, s1e, h⟩ := kw_let_e h
  refine kg_putl clX1 rfl 4 (Nat.le_of_ble_eq_true rfl) lfRX1_49 rfl tX_7 eX_7 rfl (ty := .long) (by decide +kernel) rfl rfl s1e dX1_findUseful_2 (pc2 := 5) rfl ?_
  refine kg_iconst dX1_findUseful_5 ki_0 (pc2 := 6) rfl ?_
  refine kg_istore_n dX1_findUseful_6 rfl (Nat.le_of_ble_eq_true rfl) rfl (lv2 := [(1, .int (0 : Int32)), (0, .ref 7)]) rfl (pc2 := 7) rfl ?_
  refine kg_sub [1, 0] (lv2 := [(0, .ref 7), (1, .int (0 : Int32))]) rfl ?_
  obtain ⟨x11, x11h, h⟩ := kw_bind_e h
  refine kw_loop_e (P := fun s => kw_G E kwTX 47 (d + 2) μX1_findUseful 7 [(0, .ref 7), (1, .int s.1)] [] s.2 none r) (K := fun y => kw_G E kwTX 47 (d + 2) μX1_findUseful 61 [] [] y none r) (fun s o h0 hk => lX1_findUseful_7 s.1 s.2 h0 hk) kw_F _ _ x11h ?_
  show kw_G E kwTX 47 (d + 2) μX1_findUseful 61 [] [] x11 none r
  cases h
  exact kg_vret dX1_findUseful_61 rfl
set_option maxHeartbeats 4000000 in
set_option maxRecDepth 100000 in
theorem gX1_mayHelp {E : kw_E} {d : Nat} (a1 : Int32) (a2 : Int64) (σ : kw_M) {r : Int32} (h : fX1_mayHelp a1 a2 σ = some r) : kw_Met E kwTX 47 (d + 1) μX1_mayHelp [.ref 7, .int a1, .long a2] σ (some (Value.int r)) σ := by
  refine kw_enter plRX1 (Nat.le_of_ble_eq_true rfl) ?_
  show kw_G E kwTX 47 (d + 1) μX1_mayHelp 0 [(0, .ref 7), (1, .int a1), (2, .long a2)] [] σ (some (Value.int r)) σ
  unfold fX1_mayHelp at h
  refine kg_aload_n 0 dX1_mayHelp_0 rfl (pc2 := 1) rfl ?_
  refine kg_getr clX1 rfl 1 (Nat.le_of_ble_eq_true rfl) lfRX1_15 tX_7 eX_7 rfl dX1_mayHelp_1 (pc2 := 4) rfl ?_
  refine kg_iload_n 1 dX1_mayHelp_4 rfl (pc2 := 5) rfl ?_
  refine kg_aload_n 0 dX1_mayHelp_5 rfl (pc2 := 6) rfl ?_
  refine kg_geti clX1 rfl 2 (Nat.le_of_ble_eq_true rfl) lfRX1_19 tX_7 eX_7 rfl dX1_mayHelp_6 (pc2 := 9) rfl ?_
  obtain ⟨r1, r1h, h⟩ := kw_bind_e h
  refine kg_callV (μ := μX1_mayHelp) (d := d) rfl mVX2_span [.int a1, .int (σ.1 7 2)] [] (gX2_span (E := E) (d := d) a1 (σ.1 7 2) σ r1h) rfl lmRX1_90 (ci := 2) rfl tX_5 eX_5 rfl (Nat.le_of_ble_eq_true rfl) dX1_mayHelp_9 rfl (st2 := [.long r1]) rfl (pc2 := 12) rfl ?_
  refine kg_lstore dX1_mayHelp_12 (Nat.le_of_ble_eq_true rfl) rfl (lv2 := [(4, .long r1), (0, .ref 7), (1, .int a1), (2, .long a2)]) rfl (pc2 := 14) rfl ?_
  refine kg_lload 0 dX1_mayHelp_14 rfl (pc2 := 16) rfl ?_
  refine kg_ldc2 rfl lcRX1_23 dX1_mayHelp_16 (pc2 := 19) rfl ?_
  refine kg_lcmp_eq 64 dX1_mayHelp_19 dX1_mayHelp_20 rfl (pc2 := 23) rfl (fun q2 => ?_) (fun q2 => ?_)
  · replace h := (if_pos q2).symm.trans h
    refine kg_iconst dX1_mayHelp_64 ki_0 (pc2 := 65) rfl ?_
    cases h
    exact kg_iret (ty := .boolean) dX1_mayHelp_65 rfl rfl
  · replace h := (if_neg q2).symm.trans h
    refine kg_lload_n 3 dX1_mayHelp_23 rfl (pc2 := 24) rfl ?_
    refine kg_aload_n 1 dX1_mayHelp_24 rfl (pc2 := 25) rfl ?_
    refine kg_getr clX1 rfl 0 (Nat.le_of_ble_eq_true rfl) lfRX1_9 tX_7 eX_7 rfl dX1_mayHelp_25 (pc2 := 28) rfl ?_
    refine kg_getr clX7 rfl 9 (Nat.le_of_ble_eq_true rfl) lfRX1_41 tX_1 eX_1 rfl dX1_mayHelp_28 (pc2 := 31) rfl ?_
    refine kg_iload_n 2 dX1_mayHelp_31 rfl (pc2 := 32) rfl ?_
    obtain ⟨q3, h⟩ := kw_chk_e h
    refine kg_lald tX_16 eX_16 q3 (j := a1.toNatClampNeg) rfl dX1_mayHelp_32 (pc2 := 33) rfl ?_
    refine kg_ladd dX1_mayHelp_33 (pc2 := 34) rfl ?_
    refine kg_lload 0 dX1_mayHelp_34 rfl (pc2 := 36) rfl ?_
    refine kg_ladd dX1_mayHelp_36 (pc2 := 37) rfl ?_
    refine kg_aload_n 1 dX1_mayHelp_37 rfl (pc2 := 38) rfl ?_
    refine kg_getr clX1 rfl 0 (Nat.le_of_ble_eq_true rfl) lfRX1_9 tX_7 eX_7 rfl dX1_mayHelp_38 (pc2 := 41) rfl ?_
    refine kg_getr clX7 rfl 9 (Nat.le_of_ble_eq_true rfl) lfRX1_41 tX_1 eX_1 rfl dX1_mayHelp_41 (pc2 := 44) rfl ?_
    refine kg_aload_n 1 dX1_mayHelp_44 rfl (pc2 := 45) rfl ?_
    refine kg_geti clX1 rfl 2 (Nat.le_of_ble_eq_true rfl) lfRX1_19 tX_7 eX_7 rfl dX1_mayHelp_45 (pc2 := 48) rfl ?_
    obtain ⟨q4, h⟩ := kw_chk_e h
    refine kg_lald tX_16 eX_16 q4 (j := (σ.1 7 2).toNatClampNeg) rfl dX1_mayHelp_48 (pc2 := 49) rfl ?_
    refine kg_lsub dX1_mayHelp_49 (pc2 := 50) rfl ?_
    refine kg_aload_n 1 dX1_mayHelp_50 rfl (pc2 := 51) rfl ?_
    refine kg_getl clX1 rfl 3 (Nat.le_of_ble_eq_true rfl) lfRX1_25 tX_7 eX_7 rfl dX1_mayHelp_51 (pc2 := 54) rfl ?_
    obtain ⟨r5, r5h, h⟩ := kw_bind_e h
    refine kg_callN (μ := μX1_mayHelp) (d := d) rfl mSX9_isLess [.long (((a2 + (σ.2 16 a1.toNatClampNeg)) + r1) - (σ.2 16 (σ.1 7 2).toNatClampNeg)), .long (σ.2 7 3)] [] (gX9_isLess (E := E) (d := d) (((a2 + (σ.2 16 a1.toNatClampNeg)) + r1) - (σ.2 16 (σ.1 7 2).toNatClampNeg)) (σ.2 7 3) σ r5h) rfl lnRX1_78 rfl (Nat.le_of_ble_eq_true rfl) dX1_mayHelp_54 rfl (st2 := [.int r5]) rfl (pc2 := 57) rfl ?_
    refine kg_if_eq 64 dX1_mayHelp_57 rfl (pc2 := 60) rfl (fun q6 => ?_) (fun q6 => ?_)
    · replace h := (if_pos q6).symm.trans h
      refine kg_iconst dX1_mayHelp_64 ki_0 (pc2 := 65) rfl ?_
      cases h
      exact kg_iret (ty := .boolean) dX1_mayHelp_65 rfl rfl
    · replace h := (if_neg q6).symm.trans h
      refine kg_iconst dX1_mayHelp_60 ki_1 (pc2 := 61) rfl ?_
      refine kg_goto 65 dX1_mayHelp_61 rfl ?_
      cases h
      exact kg_iret (ty := .boolean) dX1_mayHelp_65 rfl rfl
set_option maxHeartbeats 4000000 in
set_option maxRecDepth 100000 in
theorem gjX1_dive_97_L51 {E : kw_E} {d : Nat} (rec : Int32 → Int32 → Int64 → Int32 → kw_M → Option kw_M) (hrec : ∀ (z0 : Int32) (z1 : Int32) (z2 : Int64) (z3 : Int32) (w r : kw_M), rec z0 z1 z2 z3 w = some r → kw_Met E kwTX 47 (d + 1) μX1_dive [.ref 7, .int z0, .int z1, .long z2, .int z3] w none r) (v1 : Int32) (v2 : Int32) (v3 : Int64) (v5 : Int32) (v7 : Int32) (v8 : Int32) (t0 : Int32) (σ : kw_M) {v : Option Value} {σ2 : kw_M} {o : (Int32 × kw_M) ⊕ (kw_M)} (h : jX1_dive_97_L51 rec v1 v2 v3 v5 v7 v8 t0 σ = some o) (hk : Sum.elim (fun s => kw_G E kwTX 47 (d + 2) μX1_dive 51 [(0, .ref 7), (1, .int v1), (2, .int v2), (3, .long v3), (5, .int v5), (6, .ref 12), (7, .int s.1)] [] s.2 v σ2) (fun y => kw_G E kwTX 47 (d + 2) μX1_dive 171 [] [] y v σ2) o) : kw_G E kwTX 47 (d + 2) μX1_dive 97 [(0, .ref 7), (1, .int v1), (2, .int v2), (3, .long v3), (5, .int v5), (6, .ref 12), (7, .int v7), (8, .int v8)] [.int t0] σ v σ2 := by
  unfold jX1_dive_97_L51 at h
  refine kg_istore dX1_dive_97 (Nat.le_of_ble_eq_true rfl) rfl (lv2 := [(9, .int t0), (0, .ref 7), (1, .int v1), (2, .int v2), (3, .long v3), (5, .int v5), (6, .ref 12), (7, .int v7), (8, .int v8)]) rfl (pc2 := 99) rfl ?_
  refine kg_iload 0 dX1_dive_99 rfl (pc2 := 101) rfl ?_
  refine kg_if_eq 165 dX1_dive_101 rfl (pc2 := 104) rfl (fun q7 => ?_) (fun q7 => ?_)
  · replace h := (if_pos q7).symm.trans h
    obtain ⟨x8, x8e, h⟩ := kw_let_e h
    refine kg_iinc 7 dX1_dive_165 rfl (Nat.le_of_ble_eq_true rfl) x8e (lv2 := [(7, .int x8), (9, .int t0), (0, .ref 7), (1, .int v1), (2, .int v2), (3, .long v3), (5, .int v5), (6, .ref 12), (8, .int v8)]) rfl (pc2 := 168) rfl ?_
    refine kg_goto 51 dX1_dive_168 rfl ?_
    refine kg_sub [2, 3, 4, 5, 6, 7, 0] (lv2 := [(0, .ref 7), (1, .int v1), (2, .int v2), (3, .long v3), (5, .int v5), (6, .ref 12), (7, .int x8)]) rfl ?_
    cases h
    exact hk
  · replace h := (if_neg q7).symm.trans h
    refine kg_aload_n 1 dX1_dive_104 rfl (pc2 := 105) rfl ?_
    refine kg_getl clX1 rfl 4 (Nat.le_of_ble_eq_true rfl) lfRX1_49 tX_7 eX_7 rfl dX1_dive_105 (pc2 := 108) rfl ?_
    refine kg_iload 7 dX1_dive_108 rfl (pc2 := 110) rfl ?_
    refine kg_lshr dX1_dive_110 (pc2 := 111) rfl ?_
    refine kg_lconst dX1_dive_111 kl_1 (pc2 := 112) rfl ?_
    refine kg_land dX1_dive_112 (pc2 := 113) rfl ?_
    refine kg_lconst dX1_dive_113 kl_0 (pc2 := 114) rfl ?_
    refine kg_lcmp_eq 165 dX1_dive_114 dX1_dive_115 rfl (pc2 := 118) rfl (fun q9 => ?_) (fun q9 => ?_)
    · replace h := (if_pos q9).symm.trans h
      obtain ⟨x10, x10e, h⟩ := kw_let_e h
      refine kg_iinc 7 dX1_dive_165 rfl (Nat.le_of_ble_eq_true rfl) x10e (lv2 := [(7, .int x10), (9, .int t0), (0, .ref 7), (1, .int v1), (2, .int v2), (3, .long v3), (5, .int v5), (6, .ref 12), (8, .int v8)]) rfl (pc2 := 168) rfl ?_
      refine kg_goto 51 dX1_dive_168 rfl ?_
      refine kg_sub [2, 3, 4, 5, 6, 7, 0] (lv2 := [(0, .ref 7), (1, .int v1), (2, .int v2), (3, .long v3), (5, .int v5), (6, .ref 12), (7, .int x10)]) rfl ?_
      cases h
      exact hk
    · replace h := (if_neg q9).symm.trans h
      refine kg_aload_n 1 dX1_dive_118 rfl (pc2 := 119) rfl ?_
      refine kg_iload 8 dX1_dive_119 rfl (pc2 := 121) rfl ?_
      refine kg_lload_n 4 dX1_dive_121 rfl (pc2 := 122) rfl ?_
      refine kg_aload_n 1 dX1_dive_122 rfl (pc2 := 123) rfl ?_
      refine kg_getr clX1 rfl 0 (Nat.le_of_ble_eq_true rfl) lfRX1_9 tX_7 eX_7 rfl dX1_dive_123 (pc2 := 126) rfl ?_
      refine kg_iload 7 dX1_dive_126 rfl (pc2 := 128) rfl ?_
      obtain ⟨r11, r11h, h⟩ := kw_bind_e h
      refine kg_callV (μ := μX1_dive) (d := (d + 1)) rfl mVX7_slackOf [.int v7] [.long v3, .int v8, .ref 7] (gX7_slackOf (E := E) (d := (d + 1)) v7 σ r11h) rfl lmRX1_82 (ci := 7) rfl tX_1 eX_1 rfl (Nat.le_of_ble_eq_true rfl) dX1_dive_128 rfl (st2 := [.long r11, .long v3, .int v8, .ref 7]) rfl (pc2 := 131) rfl ?_
      refine kg_ladd dX1_dive_131 (pc2 := 132) rfl ?_
      obtain ⟨r12, r12h, h⟩ := kw_bind_e h
      refine kg_callV (μ := μX1_dive) (d := (d + 1)) rfl mVX1_mayHelp [.int v8, .long (v3 + r11)] [] (gX1_mayHelp (E := E) (d := d) v8 (v3 + r11) σ r12h) rfl lmRX1_86 (ci := 1) rfl tX_7 eX_7 rfl (Nat.le_of_ble_eq_true rfl) dX1_dive_132 rfl (st2 := [.int r12]) rfl (pc2 := 135) rfl ?_
      refine kg_if_eq 165 dX1_dive_135 rfl (pc2 := 138) rfl (fun q13 => ?_) (fun q13 => ?_)
      · replace h := (if_pos q13).symm.trans h
        obtain ⟨x14, x14e, h⟩ := kw_let_e h
        refine kg_iinc 7 dX1_dive_165 rfl (Nat.le_of_ble_eq_true rfl) x14e (lv2 := [(7, .int x14), (9, .int t0), (0, .ref 7), (1, .int v1), (2, .int v2), (3, .long v3), (5, .int v5), (6, .ref 12), (8, .int v8)]) rfl (pc2 := 168) rfl ?_
        refine kg_goto 51 dX1_dive_168 rfl ?_
        refine kg_sub [2, 3, 4, 5, 6, 7, 0] (lv2 := [(0, .ref 7), (1, .int v1), (2, .int v2), (3, .long v3), (5, .int v5), (6, .ref 12), (7, .int x14)]) rfl ?_
        cases h
        exact hk
      · replace h := (if_neg q13).symm.trans h
        refine kg_aload_n 1 dX1_dive_138 rfl (pc2 := 139) rfl ?_
        refine kg_iload 8 dX1_dive_139 rfl (pc2 := 141) rfl ?_
        refine kg_iload_n 3 dX1_dive_141 rfl (pc2 := 142) rfl ?_
        refine kg_iconst dX1_dive_142 ki_1 (pc2 := 143) rfl ?_
        refine kg_iload 8 dX1_dive_143 rfl (pc2 := 145) rfl ?_
        refine kg_ishl dX1_dive_145 (pc2 := 146) rfl ?_
        refine kg_ior dX1_dive_146 (pc2 := 147) rfl ?_
        refine kg_lload_n 4 dX1_dive_147 rfl (pc2 := 148) rfl ?_
        refine kg_aload_n 1 dX1_dive_148 rfl (pc2 := 149) rfl ?_
        refine kg_getr clX1 rfl 0 (Nat.le_of_ble_eq_true rfl) lfRX1_9 tX_7 eX_7 rfl dX1_dive_149 (pc2 := 152) rfl ?_
        refine kg_iload 7 dX1_dive_152 rfl (pc2 := 154) rfl ?_
        obtain ⟨r15, r15h, h⟩ := kw_bind_e h
        refine kg_callV (μ := μX1_dive) (d := (d + 1)) rfl mVX7_slackOf [.int v7] [.long v3, .int (v2 ||| ((1 : Int32) <<< (v8 &&& 31))), .int v8, .ref 7] (gX7_slackOf (E := E) (d := (d + 1)) v7 σ r15h) rfl lmRX1_82 (ci := 7) rfl tX_1 eX_1 rfl (Nat.le_of_ble_eq_true rfl) dX1_dive_154 rfl (st2 := [.long r15, .long v3, .int (v2 ||| ((1 : Int32) <<< (v8 &&& 31))), .int v8, .ref 7]) rfl (pc2 := 157) rfl ?_
        refine kg_ladd dX1_dive_157 (pc2 := 158) rfl ?_
        refine kg_iload 5 dX1_dive_158 rfl (pc2 := 160) rfl ?_
        refine kg_iconst dX1_dive_160 ki_1 (pc2 := 161) rfl ?_
        refine kg_iadd dX1_dive_161 (pc2 := 162) rfl ?_
        obtain ⟨r16, r16h, h⟩ := kw_bind_e h
        refine kg_callV (μ := μX1_dive) (d := (d + 1)) rfl mVX1_dive [.int v8, .int (v2 ||| ((1 : Int32) <<< (v8 &&& 31))), .long (v3 + r15), .int (v5 + (1 : Int32))] [] (hrec _ _ _ _ _ _ r16h) rfl lmRX1_37 (ci := 1) rfl tX_7 eX_7 rfl (Nat.le_of_ble_eq_true rfl) dX1_dive_162 rfl (st2 := []) rfl (pc2 := 165) rfl ?_
        obtain ⟨x17, x17e, h⟩ := kw_let_e h
        refine kg_iinc 7 dX1_dive_165 rfl (Nat.le_of_ble_eq_true rfl) x17e (lv2 := [(7, .int x17), (9, .int t0), (0, .ref 7), (1, .int v1), (2, .int v2), (3, .long v3), (5, .int v5), (6, .ref 12), (8, .int v8)]) rfl (pc2 := 168) rfl ?_
        refine kg_goto 51 dX1_dive_168 rfl ?_
        refine kg_sub [2, 3, 4, 5, 6, 7, 0] (lv2 := [(0, .ref 7), (1, .int v1), (2, .int v2), (3, .long v3), (5, .int v5), (6, .ref 12), (7, .int x17)]) rfl ?_
        cases h
        exact hk
set_option maxHeartbeats 4000000 in
set_option maxRecDepth 100000 in
theorem gjX1_dive_96_L51 {E : kw_E} {d : Nat} (rec : Int32 → Int32 → Int64 → Int32 → kw_M → Option kw_M) (hrec : ∀ (z0 : Int32) (z1 : Int32) (z2 : Int64) (z3 : Int32) (w r : kw_M), rec z0 z1 z2 z3 w = some r → kw_Met E kwTX 47 (d + 1) μX1_dive [.ref 7, .int z0, .int z1, .long z2, .int z3] w none r) (v1 : Int32) (v2 : Int32) (v3 : Int64) (v5 : Int32) (v7 : Int32) (v8 : Int32) (σ : kw_M) {v : Option Value} {σ2 : kw_M} {o : (Int32 × kw_M) ⊕ (kw_M)} (h : jX1_dive_96_L51 rec v1 v2 v3 v5 v7 v8 σ = some o) (hk : Sum.elim (fun s => kw_G E kwTX 47 (d + 2) μX1_dive 51 [(0, .ref 7), (1, .int v1), (2, .int v2), (3, .long v3), (5, .int v5), (6, .ref 12), (7, .int s.1)] [] s.2 v σ2) (fun y => kw_G E kwTX 47 (d + 2) μX1_dive 171 [] [] y v σ2) o) : kw_G E kwTX 47 (d + 2) μX1_dive 96 [(0, .ref 7), (1, .int v1), (2, .int v2), (3, .long v3), (5, .int v5), (6, .ref 12), (7, .int v7), (8, .int v8)] [] σ v σ2 := by
  unfold jX1_dive_96_L51 at h
  refine kg_iconst dX1_dive_96 ki_0 (pc2 := 97) rfl ?_
  exact gjX1_dive_97_L51 rec hrec v1 v2 v3 v5 v7 v8 (0 : Int32) σ h hk
set_option maxHeartbeats 4000000 in
set_option maxRecDepth 100000 in
theorem lX1_dive_51 {E : kw_E} {d : Nat} (rec : Int32 → Int32 → Int64 → Int32 → kw_M → Option kw_M) (hrec : ∀ (z0 : Int32) (z1 : Int32) (z2 : Int64) (z3 : Int32) (w r : kw_M), rec z0 z1 z2 z3 w = some r → kw_Met E kwTX 47 (d + 1) μX1_dive [.ref 7, .int z0, .int z1, .long z2, .int z3] w none r) (v1 : Int32) (v2 : Int32) (v3 : Int64) (v5 : Int32) (v7 : Int32) (σ : kw_M) {v : Option Value} {σ2 : kw_M} {o : (Int32 × kw_M) ⊕ (kw_M)} (h : bX1_dive_51 rec v1 v2 v3 v5 v7 σ = some o) (hk : Sum.elim (fun s => kw_G E kwTX 47 (d + 2) μX1_dive 51 [(0, .ref 7), (1, .int v1), (2, .int v2), (3, .long v3), (5, .int v5), (6, .ref 12), (7, .int s.1)] [] s.2 v σ2) (fun y => kw_G E kwTX 47 (d + 2) μX1_dive 171 [] [] y v σ2) o) : kw_G E kwTX 47 (d + 2) μX1_dive 51 [(0, .ref 7), (1, .int v1), (2, .int v2), (3, .long v3), (5, .int v5), (6, .ref 12), (7, .int v7)] [] σ v σ2 := by
  unfold bX1_dive_51 at h
  refine kg_iload 6 dX1_dive_51 rfl (pc2 := 53) rfl ?_
  refine kg_aload 5 dX1_dive_53 rfl (pc2 := 55) rfl ?_
  refine kg_geti clX4 rfl 1 (Nat.le_of_ble_eq_true rfl) lfRX1_56 tX_12 eX_12 rfl dX1_dive_55 (pc2 := 58) rfl ?_
  refine kg_icmp_ge 171 dX1_dive_58 rfl (pc2 := 61) rfl (fun q3 => ?_) (fun q3 => ?_)
  · replace h := (if_pos q3).symm.trans h
    refine kg_sub [] (lv2 := []) rfl ?_
    cases h
    exact hk
  · replace h := (if_neg q3).symm.trans h
    refine kg_aload 5 dX1_dive_61 rfl (pc2 := 63) rfl ?_
    refine kg_getr clX4 rfl 4 (Nat.le_of_ble_eq_true rfl) lfRX1_72 tX_12 eX_12 rfl dX1_dive_63 (pc2 := 66) rfl ?_
    refine kg_iload 6 dX1_dive_66 rfl (pc2 := 68) rfl ?_
    obtain ⟨q4, h⟩ := kw_chk_e h
    refine kg_iald tX_19 eX_19 q4 (j := v7.toNatClampNeg) rfl dX1_dive_68 (pc2 := 69) rfl ?_
    obtain ⟨x5, x5e, h⟩ := kw_let_e h
    refine kg_istore dX1_dive_69 (Nat.le_of_ble_eq_true rfl) x5e (lv2 := [(8, .int x5), (0, .ref 7), (1, .int v1), (2, .int v2), (3, .long v3), (5, .int v5), (6, .ref 12), (7, .int v7)]) rfl (pc2 := 71) rfl ?_
    refine kg_aload 6 dX1_dive_71 rfl (pc2 := 73) rfl ?_
    refine kg_getr clX4 rfl 3 (Nat.le_of_ble_eq_true rfl) lfRX1_68 tX_12 eX_12 rfl dX1_dive_73 (pc2 := 76) rfl ?_
    refine kg_iload 7 dX1_dive_76 rfl (pc2 := 78) rfl ?_
    refine kg_iald tX_18 eX_18 q4 (j := v7.toNatClampNeg) rfl dX1_dive_78 (pc2 := 79) rfl ?_
    refine kg_iload_n 2 dX1_dive_79 rfl (pc2 := 80) rfl ?_
    refine kg_icmp_ne 96 dX1_dive_80 rfl (pc2 := 83) rfl (fun q6 => ?_) (fun q6 => ?_)
    · replace h := (if_neg q6).symm.trans h
      refine kg_sub [1, 2, 3, 4, 5, 6, 7, 0] (lv2 := [(0, .ref 7), (1, .int v1), (2, .int v2), (3, .long v3), (5, .int v5), (6, .ref 12), (7, .int v7), (8, .int x5)]) rfl ?_
      exact gjX1_dive_96_L51 rec hrec v1 v2 v3 v5 v7 x5 σ h hk
    · replace h := (if_pos q6).symm.trans h
      refine kg_iload_n 3 dX1_dive_83 rfl (pc2 := 84) rfl ?_
      refine kg_iload 0 dX1_dive_84 rfl (pc2 := 86) rfl ?_
      refine kg_ishr dX1_dive_86 (pc2 := 87) rfl ?_
      refine kg_iconst dX1_dive_87 ki_1 (pc2 := 88) rfl ?_
      refine kg_iand dX1_dive_88 (pc2 := 89) rfl ?_
      refine kg_if_ne 96 dX1_dive_89 rfl (pc2 := 92) rfl (fun q18 => ?_) (fun q18 => ?_)
      · replace h := (if_neg q18).symm.trans h
        refine kg_sub [1, 2, 3, 4, 5, 6, 7, 0] (lv2 := [(0, .ref 7), (1, .int v1), (2, .int v2), (3, .long v3), (5, .int v5), (6, .ref 12), (7, .int v7), (8, .int x5)]) rfl ?_
        exact gjX1_dive_96_L51 rec hrec v1 v2 v3 v5 v7 x5 σ h hk
      · replace h := (if_pos q18).symm.trans h
        refine kg_iconst dX1_dive_92 ki_1 (pc2 := 93) rfl ?_
        refine kg_goto 97 dX1_dive_93 rfl ?_
        refine kg_sub [1, 2, 3, 4, 5, 6, 7, 0] (lv2 := [(0, .ref 7), (1, .int v1), (2, .int v2), (3, .long v3), (5, .int v5), (6, .ref 12), (7, .int v7), (8, .int x5)]) rfl ?_
        exact gjX1_dive_97_L51 rec hrec v1 v2 v3 v5 v7 x5 (1 : Int32) σ h hk
set_option maxHeartbeats 4000000 in
set_option maxRecDepth 100000 in
theorem gFX1_dive {E : kw_E} {d : Nat} (rec : Int32 → Int32 → Int64 → Int32 → kw_M → Option kw_M) (hrec : ∀ (z0 : Int32) (z1 : Int32) (z2 : Int64) (z3 : Int32) (w r : kw_M), rec z0 z1 z2 z3 w = some r → kw_Met E kwTX 47 (d + 1) μX1_dive [.ref 7, .int z0, .int z1, .long z2, .int z3] w none r) (a1 : Int32) (a2 : Int32) (a3 : Int64) (a4 : Int32) (σ : kw_M) {r : kw_M} (h : fFX1_dive rec a1 a2 a3 a4 σ = some r) : kw_Met E kwTX 47 (d + 2) μX1_dive [.ref 7, .int a1, .int a2, .long a3, .int a4] σ none r := by
  refine kw_enter plRX1 (Nat.le_of_ble_eq_true rfl) ?_
  show kw_G E kwTX 47 (d + 2) μX1_dive 0 [(0, .ref 7), (1, .int a1), (2, .int a2), (3, .long a3), (5, .int a4)] [] σ none r
  unfold fFX1_dive at h
  refine kg_iload_n 1 dX1_dive_0 rfl (pc2 := 1) rfl ?_
  refine kg_aload_n 0 dX1_dive_1 rfl (pc2 := 2) rfl ?_
  refine kg_geti clX1 rfl 2 (Nat.le_of_ble_eq_true rfl) lfRX1_19 tX_7 eX_7 rfl dX1_dive_2 (pc2 := 5) rfl ?_
  refine kg_icmp_ne 31 dX1_dive_5 rfl (pc2 := 8) rfl (fun q1 => ?_) (fun q1 => ?_)
  · replace h := (if_neg q1).symm.trans h
    refine kg_iload 4 dX1_dive_31 rfl (pc2 := 33) rfl ?_
    refine kg_bipush dX1_dive_33 kb_12 (pc2 := 35) rfl ?_
    refine kg_icmp_lt 39 dX1_dive_35 rfl (pc2 := 38) rfl (fun q2 => ?_) (fun q2 => ?_)
    · replace h := (if_pos q2).symm.trans h
      refine kg_aload_n 0 dX1_dive_39 rfl (pc2 := 40) rfl ?_
      refine kg_getr clX1 rfl 0 (Nat.le_of_ble_eq_true rfl) lfRX1_9 tX_7 eX_7 rfl dX1_dive_40 (pc2 := 43) rfl ?_
      refine kg_getr clX7 rfl 0 (Nat.le_of_ble_eq_true rfl) lfRX1_52 tX_1 eX_1 rfl dX1_dive_43 (pc2 := 46) rfl ?_
      refine kg_astore dX1_dive_46 (Nat.le_of_ble_eq_true rfl) rfl (lv2 := [(6, .ref 12), (0, .ref 7), (1, .int a1), (2, .int a2), (3, .long a3), (5, .int a4)]) rfl (pc2 := 48) rfl ?_
      refine kg_iconst dX1_dive_48 ki_0 (pc2 := 49) rfl ?_
      refine kg_istore dX1_dive_49 (Nat.le_of_ble_eq_true rfl) rfl (lv2 := [(7, .int (0 : Int32)), (6, .ref 12), (0, .ref 7), (1, .int a1), (2, .int a2), (3, .long a3), (5, .int a4)]) rfl (pc2 := 51) rfl ?_
      refine kg_sub [2, 3, 4, 5, 6, 1, 0] (lv2 := [(0, .ref 7), (1, .int a1), (2, .int a2), (3, .long a3), (5, .int a4), (6, .ref 12), (7, .int (0 : Int32))]) rfl ?_
      obtain ⟨x19, x19h, h⟩ := kw_bind_e h
      refine kw_loop_e (P := fun s => kw_G E kwTX 47 (d + 2) μX1_dive 51 [(0, .ref 7), (1, .int a1), (2, .int a2), (3, .long a3), (5, .int a4), (6, .ref 12), (7, .int s.1)] [] s.2 none r) (K := fun y => kw_G E kwTX 47 (d + 2) μX1_dive 171 [] [] y none r) (fun s o h0 hk => lX1_dive_51 rec hrec a1 a2 a3 a4 s.1 s.2 h0 hk) kw_F _ _ x19h ?_
      show kw_G E kwTX 47 (d + 2) μX1_dive 171 [] [] x19 none r
      cases h
      exact kg_vret dX1_dive_171 rfl
    · replace h := (if_neg q2).symm.trans h
      cases h
      exact kg_vret dX1_dive_38 rfl
  · replace h := (if_pos q1).symm.trans h
    refine kg_lload_n 3 dX1_dive_8 rfl (pc2 := 9) rfl ?_
    refine kg_lconst dX1_dive_9 kl_0 (pc2 := 10) rfl ?_
    refine kg_lcmp_le 30 dX1_dive_10 dX1_dive_11 rfl (pc2 := 14) rfl (fun q20 => ?_) (fun q20 => ?_)
    · replace h := (if_pos q20).symm.trans h
      cases h
      exact kg_vret dX1_dive_30 rfl
    · replace h := (if_neg q20).symm.trans h
      refine kg_lload_n 3 dX1_dive_14 rfl (pc2 := 15) rfl ?_
      refine kg_aload_n 0 dX1_dive_15 rfl (pc2 := 16) rfl ?_
      refine kg_getl clX1 rfl 3 (Nat.le_of_ble_eq_true rfl) lfRX1_25 tX_7 eX_7 rfl dX1_dive_16 (pc2 := 19) rfl ?_
      obtain ⟨r21, r21h, h⟩ := kw_bind_e h
      refine kg_callN (μ := μX1_dive) (d := (d + 1)) rfl mSX9_isLess [.long a3, .long (σ.2 7 3)] [] (gX9_isLess (E := E) (d := (d + 1)) a3 (σ.2 7 3) σ r21h) rfl lnRX1_78 rfl (Nat.le_of_ble_eq_true rfl) dX1_dive_19 rfl (st2 := [.int r21]) rfl (pc2 := 22) rfl ?_
      refine kg_if_eq 30 dX1_dive_22 rfl (pc2 := 25) rfl (fun q22 => ?_) (fun q22 => ?_)
      · replace h := (if_pos q22).symm.trans h
        cases h
        exact kg_vret dX1_dive_30 rfl
      · replace h := (if_neg q22).symm.trans h
        refine kg_aload_n 0 dX1_dive_25 rfl (pc2 := 26) rfl ?_
        refine kg_lload_n 3 dX1_dive_26 rfl (pc2 := 27) rfl ?_
        obtain ⟨s23, s23e, h⟩ := kw_let_e h
        refine kg_putl clX1 rfl 3 (Nat.le_of_ble_eq_true rfl) lfRX1_25 rfl tX_7 eX_7 rfl (ty := .long) (by decide +kernel) rfl rfl s23e dX1_dive_27 (pc2 := 30) rfl ?_
        cases h
        exact kg_vret dX1_dive_30 rfl
theorem gRX1_dive {E : kw_E} {d : Nat} : ∀ (n : Nat) (a1 : Int32) (a2 : Int32) (a3 : Int64) (a4 : Int32) (σ : kw_M) (r : kw_M), fRX1_dive n a1 a2 a3 a4 σ = some r → kw_Met E kwTX 47 (d + n + 2) μX1_dive [.ref 7, .int a1, .int a2, .long a3, .int a4] σ none r
  | 0, _, _, _, _, _, _, h => by cases h
  | n + 1, a1, a2, a3, a4, σ, r, h => gFX1_dive (E := E) (d := d + n + 1) (fRX1_dive n) (fun z0 z1 z2 z3 w r2 h2 => gRX1_dive n z0 z1 z2 z3 w r2 h2) a1 a2 a3 a4 σ h
theorem gX1_dive {E : kw_E} {d : Nat} (a1 : Int32) (a2 : Int32) (a3 : Int64) (a4 : Int32) (σ : kw_M) {r : kw_M} (h : fX1_dive a1 a2 a3 a4 σ = some r) : kw_Met E kwTX 47 (d + 22) μX1_dive [.ref 7, .int a1, .int a2, .long a3, .int a4] σ none r := by
  have h1 := gRX1_dive (E := E) (d := d) 20 a1 a2 a3 a4 σ r h
  rw [show d + 22 = d + 20 + 2 by omega]
  exact h1
