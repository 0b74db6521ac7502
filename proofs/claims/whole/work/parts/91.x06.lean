/-! The class, method by method: the machine does what f says (g). -/
set_option maxHeartbeats 4000000 in
set_option maxRecDepth 100000 in
theorem lX6_waysAsShort_28 {E : kw_E} {d : Nat} (v2 : Int32) (v3 : Int64) (v5 : Int32) (σ : kw_M) {v : Option Value} {σ2 : kw_M} {o : (Int64 × Int32 × kw_M) ⊕ (Int64 × kw_M)} (h : bX6_waysAsShort_28 v2 v3 v5 σ = some o) (hk : Sum.elim (fun s => kw_G E kwTX 48 (d + 2) μX6_waysAsShort 28 [(0, .ref 6), (1, .ref 1), (2, .int v2), (3, .long s.1), (5, .int s.2.1)] [] s.2.2 v σ2) (fun y => kw_G E kwTX 48 (d + 2) μX6_waysAsShort 151 [(3, .long y.1)] [] y.2 v σ2) o) : kw_G E kwTX 48 (d + 2) μX6_waysAsShort 28 [(0, .ref 6), (1, .ref 1), (2, .int v2), (3, .long v3), (5, .int v5)] [] σ v σ2 := by
  unfold bX6_waysAsShort_28 at h
  refine kg_iload 4 dX6_waysAsShort_28 rfl (pc2 := 30) rfl ?_
  refine kg_aload_n 1 dX6_waysAsShort_30 rfl (pc2 := 31) rfl ?_
  refine kg_getr clX7 rfl 0 (Nat.le_of_ble_eq_true rfl) lfRX6_30 tX_1 eX_1 rfl dX6_waysAsShort_31 (pc2 := 34) rfl ?_
  refine kg_geti clX4 rfl 0 (Nat.le_of_ble_eq_true rfl) lfRX6_55 tX_12 eX_12 rfl dX6_waysAsShort_34 (pc2 := 37) rfl ?_
  refine kg_icmp_ge 151 dX6_waysAsShort_37 rfl (pc2 := 40) rfl (fun q6 => ?_) (fun q6 => ?_)
  · replace h := (if_pos q6).symm.trans h
    refine kg_sub [3] (lv2 := [(3, .long v3)]) rfl ?_
    cases h
    exact hk
  · replace h := (if_neg q6).symm.trans h
    refine kg_aload_n 0 dX6_waysAsShort_40 rfl (pc2 := 41) rfl ?_
    refine kg_getr clX6 rfl 5 (Nat.le_of_ble_eq_true rfl) lfRX6_22 tX_6 eX_6 rfl dX6_waysAsShort_41 (pc2 := 44) rfl ?_
    refine kg_lconst dX6_waysAsShort_44 kl_0 (pc2 := 45) rfl ?_
    obtain ⟨r7, r7h, h⟩ := kw_bind_e h
    refine kg_callS (μ := μX6_waysAsShort) (d := (d + 1)) rfl mSJ7_fill_d0a16 [.ref 44, .long (0 : Int64)] [] (gXJ7_fill_d0a16 (E := E) (d := (d + 1)) 44 ⟨tX_44, eX_44⟩ (0 : Int64) σ r7h) rfl lmRX6_45 rfl (Nat.le_of_ble_eq_true rfl) dX6_waysAsShort_45 rfl (st2 := []) rfl (pc2 := 48) rfl ?_
    refine kg_iconst dX6_waysAsShort_48 ki_0 (pc2 := 49) rfl ?_
    refine kg_istore dX6_waysAsShort_49 (Nat.le_of_ble_eq_true rfl) rfl (lv2 := [(6, .int (0 : Int32)), (0, .ref 6), (1, .ref 1), (2, .int v2), (3, .long v3), (5, .int v5)]) rfl (pc2 := 51) rfl ?_
    refine kg_sub [1, 2, 3, 4, 5, 0] (lv2 := [(0, .ref 6), (1, .ref 1), (2, .int v2), (3, .long v3), (5, .int v5), (6, .int (0 : Int32))]) rfl ?_
    obtain ⟨x19, x19h, h⟩ := kw_bind_e h
    refine kw_loop_e (P := fun s => kw_G E kwTX 48 (d + 2) μX6_waysAsShort 51 [(0, .ref 6), (1, .ref 1), (2, .int v2), (3, .long v3), (5, .int v5), (6, .int s.1)] [] s.2 v σ2) (K := fun y => kw_G E kwTX 48 (d + 2) μX6_waysAsShort 126 [(0, .ref 6), (1, .ref 1), (2, .int v2), (3, .long v3), (5, .int v5)] [] y v σ2) (fun s o h0 hk => lX6_waysAsShort_51 v2 v3 v5 s.1 s.2 h0 hk) kw_F _ _ x19h ?_
    show kw_G E kwTX 48 (d + 2) μX6_waysAsShort 126 [(0, .ref 6), (1, .ref 1), (2, .int v2), (3, .long v3), (5, .int v5)] [] x19 v σ2
    refine kg_aload_n 0 dX6_waysAsShort_126 rfl (pc2 := 127) rfl ?_
    obtain ⟨r20, r20h, h⟩ := kw_bind_e h
    refine kg_callV (μ := μX6_waysAsShort) (d := (d + 1)) rfl mVX6_foundIsKnown [] [] (gX6_foundIsKnown (E := E) (d := d) x19 r20h) rfl lmRX6_76 (ci := 6) rfl tX_6 eX_6 rfl (Nat.le_of_ble_eq_true rfl) dX6_waysAsShort_127 rfl (st2 := []) rfl (pc2 := 130) rfl ?_
    refine kg_ldc2 rfl lcRX6_68 dX6_waysAsShort_130 (pc2 := 133) rfl ?_
    refine kg_lload_n 3 dX6_waysAsShort_133 rfl (pc2 := 134) rfl ?_
    refine kg_aload_n 0 dX6_waysAsShort_134 rfl (pc2 := 135) rfl ?_
    refine kg_getr clX6 rfl 4 (Nat.le_of_ble_eq_true rfl) lfRX6_19 tX_6 eX_6 rfl dX6_waysAsShort_135 (pc2 := 138) rfl ?_
    refine kg_iload_n 2 dX6_waysAsShort_138 rfl (pc2 := 139) rfl ?_
    obtain ⟨q21, h⟩ := kw_chk_e h
    refine kg_lald tX_43 eX_43 q21 (j := v2.toNatClampNeg) rfl dX6_waysAsShort_139 (pc2 := 140) rfl ?_
    refine kg_ladd dX6_waysAsShort_140 (pc2 := 141) rfl ?_
    obtain ⟨x22, x22e, h⟩ := kw_let_e h
    refine kg_mmin_long (μ := μX6_waysAsShort) (d := (d + 1)) rfl rfl mmRX6_70 (Nat.le_of_ble_eq_true rfl) x22e dX6_waysAsShort_141 (pc2 := 144) rfl ?_
    refine kg_lstore_n dX6_waysAsShort_144 rfl (Nat.le_of_ble_eq_true rfl) rfl (lv2 := [(3, .long x22), (0, .ref 6), (1, .ref 1), (2, .int v2), (5, .int v5)]) rfl (pc2 := 145) rfl ?_
    obtain ⟨x23, x23e, h⟩ := kw_let_e h
    refine kg_iinc 4 dX6_waysAsShort_145 rfl (Nat.le_of_ble_eq_true rfl) x23e (lv2 := [(5, .int x23), (3, .long x22), (0, .ref 6), (1, .ref 1), (2, .int v2)]) rfl (pc2 := 148) rfl ?_
    refine kg_goto 28 dX6_waysAsShort_148 rfl ?_
    refine kg_sub [2, 3, 4, 1, 0] (lv2 := [(0, .ref 6), (1, .ref 1), (2, .int v2), (3, .long x22), (5, .int x23)]) rfl ?_
    cases h
    exact hk
set_option maxHeartbeats 4000000 in
set_option maxRecDepth 100000 in
theorem gX6_waysAsShort {E : kw_E} {d : Nat} (a2 : Int32) (σ : kw_M) {r : Int64 × kw_M} (h : fX6_waysAsShort a2 σ = some r) : kw_Met E kwTX 48 (d + 2) μX6_waysAsShort [.ref 6, .ref 1, .int a2] σ (some (Value.long r.1)) r.2 := by
  refine kw_enter plRX6 (Nat.le_of_ble_eq_true rfl) ?_
  show kw_G E kwTX 48 (d + 2) μX6_waysAsShort 0 [(0, .ref 6), (1, .ref 1), (2, .int a2)] [] σ (some (Value.long r.1)) r.2
  unfold fX6_waysAsShort at h
  refine kg_aload_n 0 dX6_waysAsShort_0 rfl (pc2 := 1) rfl ?_
  refine kg_getr clX6 rfl 4 (Nat.le_of_ble_eq_true rfl) lfRX6_19 tX_6 eX_6 rfl dX6_waysAsShort_1 (pc2 := 4) rfl ?_
  refine kg_lconst dX6_waysAsShort_4 kl_0 (pc2 := 5) rfl ?_
  obtain ⟨r1, r1h, h⟩ := kw_bind_e h
  refine kg_callS (μ := μX6_waysAsShort) (d := (d + 1)) rfl mSJ7_fill_d0a16 [.ref 43, .long (0 : Int64)] [] (gXJ7_fill_d0a16 (E := E) (d := (d + 1)) 43 ⟨tX_43, eX_43⟩ (0 : Int64) σ r1h) rfl lmRX6_45 rfl (Nat.le_of_ble_eq_true rfl) dX6_waysAsShort_5 rfl (st2 := []) rfl (pc2 := 8) rfl ?_
  refine kg_aload_n 0 dX6_waysAsShort_8 rfl (pc2 := 9) rfl ?_
  refine kg_getr clX6 rfl 4 (Nat.le_of_ble_eq_true rfl) lfRX6_19 tX_6 eX_6 rfl dX6_waysAsShort_9 (pc2 := 12) rfl ?_
  refine kg_aload_n 1 dX6_waysAsShort_12 rfl (pc2 := 13) rfl ?_
  refine kg_geti clX7 rfl 2 (Nat.le_of_ble_eq_true rfl) lfRX6_51 tX_1 eX_1 rfl dX6_waysAsShort_13 (pc2 := 16) rfl ?_
  refine kg_lconst dX6_waysAsShort_16 kl_1 (pc2 := 17) rfl ?_
  obtain ⟨q2, h⟩ := kw_chk_e h
  obtain ⟨s3, s3e, h⟩ := kw_let_e h
  refine kg_last tX_43 eX_43 q2 (j := (r1.1 1 2).toNatClampNeg) rfl s3e dX6_waysAsShort_17 (pc2 := 18) rfl ?_
  refine kg_aload_n 0 dX6_waysAsShort_18 rfl (pc2 := 19) rfl ?_
  refine kg_getr clX6 rfl 4 (Nat.le_of_ble_eq_true rfl) lfRX6_19 tX_6 eX_6 rfl dX6_waysAsShort_19 (pc2 := 22) rfl ?_
  refine kg_iload_n 2 dX6_waysAsShort_22 rfl (pc2 := 23) rfl ?_
  obtain ⟨q4, h⟩ := kw_chk_e h
  refine kg_lald tX_43 eX_43 q4 (j := a2.toNatClampNeg) rfl dX6_waysAsShort_23 (pc2 := 24) rfl ?_
  obtain ⟨x5, x5e, h⟩ := kw_let_e h
  refine kg_lstore_n dX6_waysAsShort_24 rfl (Nat.le_of_ble_eq_true rfl) x5e (lv2 := [(3, .long x5), (0, .ref 6), (1, .ref 1), (2, .int a2)]) rfl (pc2 := 25) rfl ?_
  refine kg_iconst dX6_waysAsShort_25 ki_1 (pc2 := 26) rfl ?_
  refine kg_istore dX6_waysAsShort_26 (Nat.le_of_ble_eq_true rfl) rfl (lv2 := [(5, .int (1 : Int32)), (3, .long x5), (0, .ref 6), (1, .ref 1), (2, .int a2)]) rfl (pc2 := 28) rfl ?_
  refine kg_sub [2, 3, 4, 1, 0] (lv2 := [(0, .ref 6), (1, .ref 1), (2, .int a2), (3, .long x5), (5, .int (1 : Int32))]) rfl ?_
  obtain ⟨x24, x24h, h⟩ := kw_bind_e h
  refine kw_loop_e (P := fun s => kw_G E kwTX 48 (d + 2) μX6_waysAsShort 28 [(0, .ref 6), (1, .ref 1), (2, .int a2), (3, .long s.1), (5, .int s.2.1)] [] s.2.2 (some (Value.long r.1)) r.2) (K := fun y => kw_G E kwTX 48 (d + 2) μX6_waysAsShort 151 [(3, .long y.1)] [] y.2 (some (Value.long r.1)) r.2) (fun s o h0 hk => lX6_waysAsShort_28 a2 s.1 s.2.1 s.2.2 h0 hk) kw_F _ _ x24h ?_
  show kw_G E kwTX 48 (d + 2) μX6_waysAsShort 151 [(3, .long x24.1)] [] x24.2 (some (Value.long r.1)) r.2
  refine kg_lload_n 0 dX6_waysAsShort_151 rfl (pc2 := 152) rfl ?_
  cases h
  exact kg_lret dX6_waysAsShort_152 rfl
set_option maxHeartbeats 4000000 in
set_option maxRecDepth 100000 in
theorem gX9_distanceWithout {E : kw_E} {d : Nat} (a1 : Int32) (a2 : Int32) (σ : kw_M) {r : Int64 × kw_M} (h : fX9_distanceWithout a1 a2 σ = some r) : kw_Met E kwTX 48 (d + 2) μX9_distanceWithout [.ref 0, .int a1, .int a2] σ (some (Value.long r.1)) r.2 := by
  refine kw_enter plRX9 (Nat.le_of_ble_eq_true rfl) ?_
  show kw_G E kwTX 48 (d + 2) μX9_distanceWithout 0 [(0, .ref 0), (1, .int a1), (2, .int a2)] [] σ (some (Value.long r.1)) r.2
  unfold fX9_distanceWithout at h
  refine kg_aload_n 0 dX9_distanceWithout_0 rfl (pc2 := 1) rfl ?_
  refine kg_getr clX9 rfl 0 (Nat.le_of_ble_eq_true rfl) lfRX9_10 tX_0 eX_0 rfl dX9_distanceWithout_1 (pc2 := 4) rfl ?_
  refine kg_getr clX7 rfl 0 (Nat.le_of_ble_eq_true rfl) lfRX9_148 tX_1 eX_1 rfl dX9_distanceWithout_4 (pc2 := 7) rfl ?_
  refine kg_aload_n 0 dX9_distanceWithout_7 rfl (pc2 := 8) rfl ?_
  refine kg_getr clX9 rfl 0 (Nat.le_of_ble_eq_true rfl) lfRX9_10 tX_0 eX_0 rfl dX9_distanceWithout_8 (pc2 := 11) rfl ?_
  refine kg_geti clX7 rfl 2 (Nat.le_of_ble_eq_true rfl) lfRX9_189 tX_1 eX_1 rfl dX9_distanceWithout_11 (pc2 := 14) rfl ?_
  refine kg_iload_n 1 dX9_distanceWithout_14 rfl (pc2 := 15) rfl ?_
  refine kg_aload_n 0 dX9_distanceWithout_15 rfl (pc2 := 16) rfl ?_
  refine kg_getr clX9 rfl 6 (Nat.le_of_ble_eq_true rfl) lfRX9_43 tX_0 eX_0 rfl dX9_distanceWithout_16 (pc2 := 19) rfl ?_
  refine kg_getr clX6 rfl 0 (Nat.le_of_ble_eq_true rfl) lfRX9_123 tX_6 eX_6 rfl dX9_distanceWithout_19 (pc2 := 22) rfl ?_
  obtain ⟨r1, r1h, h⟩ := kw_bind_e h
  refine kg_callV (μ := μX9_distanceWithout) (d := (d + 1)) rfl mVX4_settle [.int (σ.1 1 2), .int a1, .ref 41] [] (gX4_settle (E := E) (d := d) 12 41 kx_4_12 ⟨tX_41, eX_41⟩ (σ.1 1 2) a1 σ r1h) rfl lmRX9_130 (ci := 4) rfl tX_12 eX_12 rfl (Nat.le_of_ble_eq_true rfl) dX9_distanceWithout_22 rfl (st2 := []) rfl (pc2 := 25) rfl ?_
  refine kg_aload_n 0 dX9_distanceWithout_25 rfl (pc2 := 26) rfl ?_
  refine kg_getr clX9 rfl 6 (Nat.le_of_ble_eq_true rfl) lfRX9_43 tX_0 eX_0 rfl dX9_distanceWithout_26 (pc2 := 29) rfl ?_
  refine kg_getr clX6 rfl 0 (Nat.le_of_ble_eq_true rfl) lfRX9_123 tX_6 eX_6 rfl dX9_distanceWithout_29 (pc2 := 32) rfl ?_
  refine kg_iload_n 2 dX9_distanceWithout_32 rfl (pc2 := 33) rfl ?_
  obtain ⟨q2, h⟩ := kw_chk_e h
  refine kg_lald tX_41 eX_41 q2 (j := a2.toNatClampNeg) rfl dX9_distanceWithout_33 (pc2 := 34) rfl ?_
  cases h
  exact kg_lret dX9_distanceWithout_34 rfl
set_option maxHeartbeats 4000000 in
set_option maxRecDepth 100000 in
theorem gX9_isNeeded {E : kw_E} {d : Nat} (a1 : Int32) (a2 : Int32) (σ : kw_M) {r : Int32 × kw_M} (h : fX9_isNeeded a1 a2 σ = some r) : kw_Met E kwTX 48 (d + 3) μX9_isNeeded [.ref 0, .int a1, .int a2] σ (some (Value.int r.1)) r.2 := by
  refine kw_enter plRX9 (Nat.le_of_ble_eq_true rfl) ?_
  show kw_G E kwTX 48 (d + 3) μX9_isNeeded 0 [(0, .ref 0), (1, .int a1), (2, .int a2)] [] σ (some (Value.int r.1)) r.2
  unfold fX9_isNeeded at h
  refine kg_aload_n 0 dX9_isNeeded_0 rfl (pc2 := 1) rfl ?_
  refine kg_iload_n 1 dX9_isNeeded_1 rfl (pc2 := 2) rfl ?_
  refine kg_iload_n 2 dX9_isNeeded_2 rfl (pc2 := 3) rfl ?_
  obtain ⟨r1, r1h, h⟩ := kw_bind_e h
  refine kg_callV (μ := μX9_isNeeded) (d := (d + 2)) rfl mVX9_distanceWithout [.int a1, .int a2] [] (gX9_distanceWithout (E := E) (d := d) a1 a2 σ r1h) rfl lmRX9_349 (ci := 9) rfl tX_0 eX_0 rfl (Nat.le_of_ble_eq_true rfl) dX9_isNeeded_3 rfl (st2 := [.long r1.1]) rfl (pc2 := 6) rfl ?_
  refine kg_aload_n 0 dX9_isNeeded_6 rfl (pc2 := 7) rfl ?_
  refine kg_getr clX9 rfl 0 (Nat.le_of_ble_eq_true rfl) lfRX9_10 tX_0 eX_0 rfl dX9_isNeeded_7 (pc2 := 10) rfl ?_
  refine kg_getr clX7 rfl 9 (Nat.le_of_ble_eq_true rfl) lfRX9_284 tX_1 eX_1 rfl dX9_isNeeded_10 (pc2 := 13) rfl ?_
  refine kg_iload_n 2 dX9_isNeeded_13 rfl (pc2 := 14) rfl ?_
  obtain ⟨q2, h⟩ := kw_chk_e h
  refine kg_lald tX_16 eX_16 q2 (j := a2.toNatClampNeg) rfl dX9_isNeeded_14 (pc2 := 15) rfl ?_
  refine kg_lcmp_eq 23 dX9_isNeeded_15 dX9_isNeeded_16 rfl (pc2 := 19) rfl (fun q3 => ?_) (fun q3 => ?_)
  · replace h := (if_pos q3).symm.trans h
    refine kg_iconst dX9_isNeeded_23 ki_0 (pc2 := 24) rfl ?_
    cases h
    exact kg_iret (ty := .boolean) dX9_isNeeded_24 rfl rfl
  · replace h := (if_neg q3).symm.trans h
    refine kg_iconst dX9_isNeeded_19 ki_1 (pc2 := 20) rfl ?_
    refine kg_goto 24 dX9_isNeeded_20 rfl ?_
    cases h
    exact kg_iret (ty := .boolean) dX9_isNeeded_24 rfl rfl
set_option maxHeartbeats 4000000 in
set_option maxRecDepth 100000 in
theorem lX9_neededCount_11 {E : kw_E} {d : Nat} (v1 : Int32) (v2 : Int32) (v3 : Int32) (v4 : Int32) (σ : kw_M) {v : Option Value} {σ2 : kw_M} {o : (Int32 × Int32 × kw_M) ⊕ (Int32 × kw_M)} (h : bX9_neededCount_11 v1 v2 v3 v4 σ = some o) (hk : Sum.elim (fun s => kw_G E kwTX 48 (d + 4) μX9_neededCount 11 [(0, .ref 0), (1, .int v1), (2, .int v2), (3, .int s.1), (4, .int s.2.1)] [] s.2.2 v σ2) (fun y => kw_G E kwTX 48 (d + 4) μX9_neededCount 44 [(3, .int y.1)] [] y.2 v σ2) o) : kw_G E kwTX 48 (d + 4) μX9_neededCount 11 [(0, .ref 0), (1, .int v1), (2, .int v2), (3, .int v3), (4, .int v4)] [] σ v σ2 := by
  unfold bX9_neededCount_11 at h
  refine kg_iload 4 dX9_neededCount_11 rfl (pc2 := 13) rfl ?_
  refine kg_iload_n 2 dX9_neededCount_13 rfl (pc2 := 14) rfl ?_
  refine kg_icmp_ge 44 dX9_neededCount_14 rfl (pc2 := 17) rfl (fun q2 => ?_) (fun q2 => ?_)
  · replace h := (if_pos q2).symm.trans h
    refine kg_sub [3] (lv2 := [(3, .int v3)]) rfl ?_
    cases h
    exact hk
  · replace h := (if_neg q2).symm.trans h
    refine kg_aload_n 0 dX9_neededCount_17 rfl (pc2 := 18) rfl ?_
    refine kg_aload_n 0 dX9_neededCount_18 rfl (pc2 := 19) rfl ?_
    refine kg_getr clX9 rfl 6 (Nat.le_of_ble_eq_true rfl) lfRX9_43 tX_0 eX_0 rfl dX9_neededCount_19 (pc2 := 22) rfl ?_
    refine kg_getr clX6 rfl 1 (Nat.le_of_ble_eq_true rfl) lfRX9_339 tX_6 eX_6 rfl dX9_neededCount_22 (pc2 := 25) rfl ?_
    refine kg_iload 4 dX9_neededCount_25 rfl (pc2 := 27) rfl ?_
    obtain ⟨q3, h⟩ := kw_chk_e h
    refine kg_iald tX_42 eX_42 q3 (j := v4.toNatClampNeg) rfl dX9_neededCount_27 (pc2 := 28) rfl ?_
    refine kg_iload_n 1 dX9_neededCount_28 rfl (pc2 := 29) rfl ?_
    obtain ⟨r4, r4h, h⟩ := kw_bind_e h
    refine kg_callV (μ := μX9_neededCount) (d := (d + 3)) rfl mVX9_isNeeded [.int (σ.1 42 v4.toNatClampNeg), .int v1] [] (gX9_isNeeded (E := E) (d := d) (σ.1 42 v4.toNatClampNeg) v1 σ r4h) rfl lmRX9_345 (ci := 9) rfl tX_0 eX_0 rfl (Nat.le_of_ble_eq_true rfl) dX9_neededCount_29 rfl (st2 := [.int r4.1]) rfl (pc2 := 32) rfl ?_
    refine kg_if_eq 38 dX9_neededCount_32 rfl (pc2 := 35) rfl (fun q5 => ?_) (fun q5 => ?_)
    · replace h := (if_pos q5).symm.trans h
      obtain ⟨x6, x6e, h⟩ := kw_let_e h
      refine kg_iinc 4 dX9_neededCount_38 rfl (Nat.le_of_ble_eq_true rfl) x6e (lv2 := [(4, .int x6), (0, .ref 0), (1, .int v1), (2, .int v2), (3, .int v3)]) rfl (pc2 := 41) rfl ?_
      refine kg_goto 11 dX9_neededCount_41 rfl ?_
      refine kg_sub [1, 2, 3, 4, 0] (lv2 := [(0, .ref 0), (1, .int v1), (2, .int v2), (3, .int v3), (4, .int x6)]) rfl ?_
      cases h
      exact hk
    · replace h := (if_neg q5).symm.trans h
      obtain ⟨x7, x7e, h⟩ := kw_let_e h
      refine kg_iinc 3 dX9_neededCount_35 rfl (Nat.le_of_ble_eq_true rfl) x7e (lv2 := [(3, .int x7), (0, .ref 0), (1, .int v1), (2, .int v2), (4, .int v4)]) rfl (pc2 := 38) rfl ?_
      obtain ⟨x8, x8e, h⟩ := kw_let_e h
      refine kg_iinc 4 dX9_neededCount_38 rfl (Nat.le_of_ble_eq_true rfl) x8e (lv2 := [(4, .int x8), (3, .int x7), (0, .ref 0), (1, .int v1), (2, .int v2)]) rfl (pc2 := 41) rfl ?_
      refine kg_goto 11 dX9_neededCount_41 rfl ?_
      refine kg_sub [2, 3, 4, 1, 0] (lv2 := [(0, .ref 0), (1, .int v1), (2, .int v2), (3, .int x7), (4, .int x8)]) rfl ?_
      cases h
      exact hk
set_option maxHeartbeats 4000000 in
set_option maxRecDepth 100000 in
theorem gX9_neededCount {E : kw_E} {d : Nat} (a1 : Int32) (σ : kw_M) {r : Int32 × kw_M} (h : fX9_neededCount a1 σ = some r) : kw_Met E kwTX 48 (d + 4) μX9_neededCount [.ref 0, .int a1] σ (some (Value.int r.1)) r.2 := by
  refine kw_enter plRX9 (Nat.le_of_ble_eq_true rfl) ?_
  show kw_G E kwTX 48 (d + 4) μX9_neededCount 0 [(0, .ref 0), (1, .int a1)] [] σ (some (Value.int r.1)) r.2
  unfold fX9_neededCount at h
  refine kg_aload_n 0 dX9_neededCount_0 rfl (pc2 := 1) rfl ?_
  refine kg_iload_n 1 dX9_neededCount_1 rfl (pc2 := 2) rfl ?_
  obtain ⟨r1, r1h, h⟩ := kw_bind_e h
  refine kg_callV (μ := μX9_neededCount) (d := (d + 3)) rfl mVX9_findWay [.int a1] [] (gX9_findWay (E := E) (d := (d + 2)) a1 σ r1h) rfl lmRX9_292 (ci := 9) rfl tX_0 eX_0 rfl (Nat.le_of_ble_eq_true rfl) dX9_neededCount_2 rfl (st2 := [.int r1.1]) rfl (pc2 := 5) rfl ?_
  refine kg_istore_n dX9_neededCount_5 rfl (Nat.le_of_ble_eq_true rfl) rfl (lv2 := [(2, .int r1.1), (0, .ref 0), (1, .int a1)]) rfl (pc2 := 6) rfl ?_
  refine kg_iconst dX9_neededCount_6 ki_0 (pc2 := 7) rfl ?_
  refine kg_istore_n dX9_neededCount_7 rfl (Nat.le_of_ble_eq_true rfl) rfl (lv2 := [(3, .int (0 : Int32)), (2, .int r1.1), (0, .ref 0), (1, .int a1)]) rfl (pc2 := 8) rfl ?_
  refine kg_iconst dX9_neededCount_8 ki_0 (pc2 := 9) rfl ?_
  refine kg_istore dX9_neededCount_9 (Nat.le_of_ble_eq_true rfl) rfl (lv2 := [(4, .int (0 : Int32)), (3, .int (0 : Int32)), (2, .int r1.1), (0, .ref 0), (1, .int a1)]) rfl (pc2 := 11) rfl ?_
  refine kg_sub [3, 4, 2, 1, 0] (lv2 := [(0, .ref 0), (1, .int a1), (2, .int r1.1), (3, .int (0 : Int32)), (4, .int (0 : Int32))]) rfl ?_
  obtain ⟨x9, x9h, h⟩ := kw_bind_e h
  refine kw_loop_e (P := fun s => kw_G E kwTX 48 (d + 4) μX9_neededCount 11 [(0, .ref 0), (1, .int a1), (2, .int r1.1), (3, .int s.1), (4, .int s.2.1)] [] s.2.2 (some (Value.int r.1)) r.2) (K := fun y => kw_G E kwTX 48 (d + 4) μX9_neededCount 44 [(3, .int y.1)] [] y.2 (some (Value.int r.1)) r.2) (fun s o h0 hk => lX9_neededCount_11 a1 r1.1 s.1 s.2.1 s.2.2 h0 hk) kw_F _ _ x9h ?_
  show kw_G E kwTX 48 (d + 4) μX9_neededCount 44 [(3, .int x9.1)] [] x9.2 (some (Value.int r.1)) r.2
  refine kg_iload_n 0 dX9_neededCount_44 rfl (pc2 := 45) rfl ?_
  cases h
  exact kg_iret (ty := .int) dX9_neededCount_45 rfl rfl
set_option maxHeartbeats 4000000 in
set_option maxRecDepth 100000 in
theorem gjX9_dearestRoad_53_L15 {E : kw_E} {d : Nat} (v1 : Int32) (v2 : Int32) (v3 : Int32) (v4 : Int64) (v6 : Int32) (v7 : Int32) (v8 : Int64) (t0 : Int32) (σ : kw_M) {v : Option Value} {σ2 : kw_M} {o : (Int32 × Int64 × Int32 × kw_M) ⊕ (Int32 × kw_M)} (h : jX9_dearestRoad_53_L15 v1 v2 v3 v4 v6 v7 v8 t0 σ = some o) (hk : Sum.elim (fun s => kw_G E kwTX 48 (d + 3) μX9_dearestRoad 15 [(0, .ref 0), (1, .int v1), (2, .int v2), (3, .int s.1), (4, .long s.2.1), (6, .int s.2.2.1)] [] s.2.2.2 v σ2) (fun y => kw_G E kwTX 48 (d + 3) μX9_dearestRoad 97 [(3, .int y.1)] [] y.2 v σ2) o) : kw_G E kwTX 48 (d + 3) μX9_dearestRoad 53 [(0, .ref 0), (1, .int v1), (2, .int v2), (3, .int v3), (4, .long v4), (6, .int v6), (7, .int v7), (8, .long v8)] [.int t0] σ v σ2 := by
  unfold jX9_dearestRoad_53_L15 at h
  refine kg_istore dX9_dearestRoad_53 (Nat.le_of_ble_eq_true rfl) rfl (lv2 := [(10, .int t0), (0, .ref 0), (1, .int v1), (2, .int v2), (3, .int v3), (4, .long v4), (6, .int v6), (7, .int v7), (8, .long v8)]) rfl (pc2 := 55) rfl ?_
  refine kg_iload 0 dX9_dearestRoad_55 rfl (pc2 := 57) rfl ?_
  refine kg_if_ne 84 dX9_dearestRoad_57 rfl (pc2 := 60) rfl (fun q7 => ?_) (fun q7 => ?_)
  · replace h := (if_neg q7).symm.trans h
    refine kg_iload 7 dX9_dearestRoad_84 rfl (pc2 := 86) rfl ?_
    refine kg_istore_n dX9_dearestRoad_86 rfl (Nat.le_of_ble_eq_true rfl) rfl (lv2 := [(3, .int v7), (10, .int t0), (0, .ref 0), (1, .int v1), (2, .int v2), (4, .long v4), (6, .int v6), (7, .int v7), (8, .long v8)]) rfl (pc2 := 87) rfl ?_
    refine kg_lload 8 dX9_dearestRoad_87 rfl (pc2 := 89) rfl ?_
    refine kg_lstore dX9_dearestRoad_89 (Nat.le_of_ble_eq_true rfl) rfl (lv2 := [(4, .long v8), (3, .int v7), (10, .int t0), (0, .ref 0), (1, .int v1), (2, .int v2), (6, .int v6), (7, .int v7), (8, .long v8)]) rfl (pc2 := 91) rfl ?_
    obtain ⟨x8, x8e, h⟩ := kw_let_e h
    refine kg_iinc 6 dX9_dearestRoad_91 rfl (Nat.le_of_ble_eq_true rfl) x8e (lv2 := [(6, .int x8), (4, .long v8), (3, .int v7), (10, .int t0), (0, .ref 0), (1, .int v1), (2, .int v2), (7, .int v7), (8, .long v8)]) rfl (pc2 := 94) rfl ?_
    refine kg_goto 15 dX9_dearestRoad_94 rfl ?_
    refine kg_sub [4, 5, 6, 2, 1, 0] (lv2 := [(0, .ref 0), (1, .int v1), (2, .int v2), (3, .int v7), (4, .long v8), (6, .int x8)]) rfl ?_
    cases h
    exact hk
  · replace h := (if_pos q7).symm.trans h
    refine kg_lload 5 dX9_dearestRoad_60 rfl (pc2 := 62) rfl ?_
    refine kg_lload 8 dX9_dearestRoad_62 rfl (pc2 := 64) rfl ?_
    obtain ⟨r9, r9h, h⟩ := kw_bind_e h
    refine kg_callS (μ := μX9_dearestRoad) (d := (d + 2)) rfl mSX9_isLess [.long v4, .long v8] [] (gX9_isLess (E := E) (d := (d + 2)) v4 v8 σ r9h) rfl lmRX9_353 rfl (Nat.le_of_ble_eq_true rfl) dX9_dearestRoad_64 rfl (st2 := [.int r9]) rfl (pc2 := 67) rfl ?_
    refine kg_if_ne 84 dX9_dearestRoad_67 rfl (pc2 := 70) rfl (fun q10 => ?_) (fun q10 => ?_)
    · replace h := (if_neg q10).symm.trans h
      refine kg_iload 7 dX9_dearestRoad_84 rfl (pc2 := 86) rfl ?_
      refine kg_istore_n dX9_dearestRoad_86 rfl (Nat.le_of_ble_eq_true rfl) rfl (lv2 := [(3, .int v7), (10, .int t0), (0, .ref 0), (1, .int v1), (2, .int v2), (4, .long v4), (6, .int v6), (7, .int v7), (8, .long v8)]) rfl (pc2 := 87) rfl ?_
      refine kg_lload 8 dX9_dearestRoad_87 rfl (pc2 := 89) rfl ?_
      refine kg_lstore dX9_dearestRoad_89 (Nat.le_of_ble_eq_true rfl) rfl (lv2 := [(4, .long v8), (3, .int v7), (10, .int t0), (0, .ref 0), (1, .int v1), (2, .int v2), (6, .int v6), (7, .int v7), (8, .long v8)]) rfl (pc2 := 91) rfl ?_
      obtain ⟨x11, x11e, h⟩ := kw_let_e h
      refine kg_iinc 6 dX9_dearestRoad_91 rfl (Nat.le_of_ble_eq_true rfl) x11e (lv2 := [(6, .int x11), (4, .long v8), (3, .int v7), (10, .int t0), (0, .ref 0), (1, .int v1), (2, .int v2), (7, .int v7), (8, .long v8)]) rfl (pc2 := 94) rfl ?_
      refine kg_goto 15 dX9_dearestRoad_94 rfl ?_
      refine kg_sub [4, 5, 6, 2, 1, 0] (lv2 := [(0, .ref 0), (1, .int v1), (2, .int v2), (3, .int v7), (4, .long v8), (6, .int x11)]) rfl ?_
      cases h
      exact hk
    · replace h := (if_pos q10).symm.trans h
      refine kg_lload 8 dX9_dearestRoad_70 rfl (pc2 := 72) rfl ?_
      refine kg_lload 5 dX9_dearestRoad_72 rfl (pc2 := 74) rfl ?_
      refine kg_lcmp_ne 91 dX9_dearestRoad_74 dX9_dearestRoad_75 rfl (pc2 := 78) rfl (fun q12 => ?_) (fun q12 => ?_)
      · replace h := (if_neg q12).symm.trans h
        obtain ⟨x13, x13e, h⟩ := kw_let_e h
        refine kg_iinc 6 dX9_dearestRoad_91 rfl (Nat.le_of_ble_eq_true rfl) x13e (lv2 := [(6, .int x13), (10, .int t0), (0, .ref 0), (1, .int v1), (2, .int v2), (3, .int v3), (4, .long v4), (7, .int v7), (8, .long v8)]) rfl (pc2 := 94) rfl ?_
        refine kg_goto 15 dX9_dearestRoad_94 rfl ?_
        refine kg_sub [2, 3, 4, 5, 6, 0] (lv2 := [(0, .ref 0), (1, .int v1), (2, .int v2), (3, .int v3), (4, .long v4), (6, .int x13)]) rfl ?_
        cases h
        exact hk
      · replace h := (if_pos q12).symm.trans h
        refine kg_iload 7 dX9_dearestRoad_78 rfl (pc2 := 80) rfl ?_
        refine kg_iload_n 4 dX9_dearestRoad_80 rfl (pc2 := 81) rfl ?_
        refine kg_icmp_ge 91 dX9_dearestRoad_81 rfl (pc2 := 84) rfl (fun q14 => ?_) (fun q14 => ?_)
        · replace h := (if_pos q14).symm.trans h
          obtain ⟨x15, x15e, h⟩ := kw_let_e h
          refine kg_iinc 6 dX9_dearestRoad_91 rfl (Nat.le_of_ble_eq_true rfl) x15e (lv2 := [(6, .int x15), (10, .int t0), (0, .ref 0), (1, .int v1), (2, .int v2), (3, .int v3), (4, .long v4), (7, .int v7), (8, .long v8)]) rfl (pc2 := 94) rfl ?_
          refine kg_goto 15 dX9_dearestRoad_94 rfl ?_
          refine kg_sub [2, 3, 4, 5, 6, 0] (lv2 := [(0, .ref 0), (1, .int v1), (2, .int v2), (3, .int v3), (4, .long v4), (6, .int x15)]) rfl ?_
          cases h
          exact hk
        · replace h := (if_neg q14).symm.trans h
          refine kg_iload 7 dX9_dearestRoad_84 rfl (pc2 := 86) rfl ?_
          refine kg_istore_n dX9_dearestRoad_86 rfl (Nat.le_of_ble_eq_true rfl) rfl (lv2 := [(3, .int v7), (10, .int t0), (0, .ref 0), (1, .int v1), (2, .int v2), (4, .long v4), (6, .int v6), (7, .int v7), (8, .long v8)]) rfl (pc2 := 87) rfl ?_
          refine kg_lload 8 dX9_dearestRoad_87 rfl (pc2 := 89) rfl ?_
          refine kg_lstore dX9_dearestRoad_89 (Nat.le_of_ble_eq_true rfl) rfl (lv2 := [(4, .long v8), (3, .int v7), (10, .int t0), (0, .ref 0), (1, .int v1), (2, .int v2), (6, .int v6), (7, .int v7), (8, .long v8)]) rfl (pc2 := 91) rfl ?_
          obtain ⟨x16, x16e, h⟩ := kw_let_e h
          refine kg_iinc 6 dX9_dearestRoad_91 rfl (Nat.le_of_ble_eq_true rfl) x16e (lv2 := [(6, .int x16), (4, .long v8), (3, .int v7), (10, .int t0), (0, .ref 0), (1, .int v1), (2, .int v2), (7, .int v7), (8, .long v8)]) rfl (pc2 := 94) rfl ?_
          refine kg_goto 15 dX9_dearestRoad_94 rfl ?_
          refine kg_sub [4, 5, 6, 2, 1, 0] (lv2 := [(0, .ref 0), (1, .int v1), (2, .int v2), (3, .int v7), (4, .long v8), (6, .int x16)]) rfl ?_
          cases h
          exact hk
set_option maxHeartbeats 4000000 in
set_option maxRecDepth 100000 in
theorem lX9_dearestRoad_15 {E : kw_E} {d : Nat} (v1 : Int32) (v2 : Int32) (v3 : Int32) (v4 : Int64) (v6 : Int32) (σ : kw_M) {v : Option Value} {σ2 : kw_M} {o : (Int32 × Int64 × Int32 × kw_M) ⊕ (Int32 × kw_M)} (h : bX9_dearestRoad_15 v1 v2 v3 v4 v6 σ = some o) (hk : Sum.elim (fun s => kw_G E kwTX 48 (d + 3) μX9_dearestRoad 15 [(0, .ref 0), (1, .int v1), (2, .int v2), (3, .int s.1), (4, .long s.2.1), (6, .int s.2.2.1)] [] s.2.2.2 v σ2) (fun y => kw_G E kwTX 48 (d + 3) μX9_dearestRoad 97 [(3, .int y.1)] [] y.2 v σ2) o) : kw_G E kwTX 48 (d + 3) μX9_dearestRoad 15 [(0, .ref 0), (1, .int v1), (2, .int v2), (3, .int v3), (4, .long v4), (6, .int v6)] [] σ v σ2 := by
  unfold bX9_dearestRoad_15 at h
  refine kg_iload 5 dX9_dearestRoad_15 rfl (pc2 := 17) rfl ?_
  refine kg_iload_n 2 dX9_dearestRoad_17 rfl (pc2 := 18) rfl ?_
  refine kg_icmp_ge 97 dX9_dearestRoad_18 rfl (pc2 := 21) rfl (fun q2 => ?_) (fun q2 => ?_)
  · replace h := (if_pos q2).symm.trans h
    refine kg_sub [3] (lv2 := [(3, .int v3)]) rfl ?_
    cases h
    exact hk
  · replace h := (if_neg q2).symm.trans h
    refine kg_aload_n 0 dX9_dearestRoad_21 rfl (pc2 := 22) rfl ?_
    refine kg_getr clX9 rfl 6 (Nat.le_of_ble_eq_true rfl) lfRX9_43 tX_0 eX_0 rfl dX9_dearestRoad_22 (pc2 := 25) rfl ?_
    refine kg_getr clX6 rfl 1 (Nat.le_of_ble_eq_true rfl) lfRX9_339 tX_6 eX_6 rfl dX9_dearestRoad_25 (pc2 := 28) rfl ?_
    refine kg_iload 5 dX9_dearestRoad_28 rfl (pc2 := 30) rfl ?_
    obtain ⟨q3, h⟩ := kw_chk_e h
    refine kg_iald tX_42 eX_42 q3 (j := v6.toNatClampNeg) rfl dX9_dearestRoad_30 (pc2 := 31) rfl ?_
    obtain ⟨x4, x4e, h⟩ := kw_let_e h
    refine kg_istore dX9_dearestRoad_31 (Nat.le_of_ble_eq_true rfl) x4e (lv2 := [(7, .int x4), (0, .ref 0), (1, .int v1), (2, .int v2), (3, .int v3), (4, .long v4), (6, .int v6)]) rfl (pc2 := 33) rfl ?_
    refine kg_aload_n 1 dX9_dearestRoad_33 rfl (pc2 := 34) rfl ?_
    refine kg_iload 0 dX9_dearestRoad_34 rfl (pc2 := 36) rfl ?_
    refine kg_iload_n 2 dX9_dearestRoad_36 rfl (pc2 := 37) rfl ?_
    obtain ⟨r5, r5h, h⟩ := kw_bind_e h
    refine kg_callV (μ := μX9_dearestRoad) (d := (d + 2)) rfl mVX9_distanceWithout [.int x4, .int v1] [] (gX9_distanceWithout (E := E) (d := d) x4 v1 σ r5h) rfl lmRX9_349 (ci := 9) rfl tX_0 eX_0 rfl (Nat.le_of_ble_eq_true rfl) dX9_dearestRoad_37 rfl (st2 := [.long r5.1]) rfl (pc2 := 40) rfl ?_
    refine kg_lstore dX9_dearestRoad_40 (Nat.le_of_ble_eq_true rfl) rfl (lv2 := [(8, .long r5.1), (7, .int x4), (0, .ref 0), (1, .int v1), (2, .int v2), (3, .int v3), (4, .long v4), (6, .int v6)]) rfl (pc2 := 42) rfl ?_
    refine kg_iload_n 5 dX9_dearestRoad_42 rfl (pc2 := 43) rfl ?_
    refine kg_bipush dX9_dearestRoad_43 kb_m2 (pc2 := 45) rfl ?_
    refine kg_icmp_ne 52 dX9_dearestRoad_45 rfl (pc2 := 48) rfl (fun q6 => ?_) (fun q6 => ?_)
    · replace h := (if_neg q6).symm.trans h
      refine kg_iconst dX9_dearestRoad_52 ki_0 (pc2 := 53) rfl ?_
      refine kg_sub [2, 3, 4, 5, 6, 7, 1, 0] (lv2 := [(0, .ref 0), (1, .int v1), (2, .int v2), (3, .int v3), (4, .long v4), (6, .int v6), (7, .int x4), (8, .long r5.1)]) rfl ?_
      exact gjX9_dearestRoad_53_L15 v1 v2 v3 v4 v6 x4 r5.1 (0 : Int32) r5.2 h hk
    · replace h := (if_pos q6).symm.trans h
      refine kg_iconst dX9_dearestRoad_48 ki_1 (pc2 := 49) rfl ?_
      refine kg_goto 53 dX9_dearestRoad_49 rfl ?_
      refine kg_sub [2, 3, 4, 5, 6, 7, 1, 0] (lv2 := [(0, .ref 0), (1, .int v1), (2, .int v2), (3, .int v3), (4, .long v4), (6, .int v6), (7, .int x4), (8, .long r5.1)]) rfl ?_
      exact gjX9_dearestRoad_53_L15 v1 v2 v3 v4 v6 x4 r5.1 (1 : Int32) r5.2 h hk
set_option maxHeartbeats 4000000 in
set_option maxRecDepth 100000 in
theorem gX9_dearestRoad {E : kw_E} {d : Nat} (a1 : Int32) (σ : kw_M) {r : Int32 × kw_M} (h : fX9_dearestRoad a1 σ = some r) : kw_Met E kwTX 48 (d + 3) μX9_dearestRoad [.ref 0, .int a1] σ (some (Value.int r.1)) r.2 := by
  refine kw_enter plRX9 (Nat.le_of_ble_eq_true rfl) ?_
  show kw_G E kwTX 48 (d + 3) μX9_dearestRoad 0 [(0, .ref 0), (1, .int a1)] [] σ (some (Value.int r.1)) r.2
  unfold fX9_dearestRoad at h
  refine kg_aload_n 0 dX9_dearestRoad_0 rfl (pc2 := 1) rfl ?_
  refine kg_iload_n 1 dX9_dearestRoad_1 rfl (pc2 := 2) rfl ?_
  obtain ⟨r1, r1h, h⟩ := kw_bind_e h
  refine kg_callV (μ := μX9_dearestRoad) (d := (d + 2)) rfl mVX9_findWay [.int a1] [] (gX9_findWay (E := E) (d := (d + 1)) a1 σ r1h) rfl lmRX9_292 (ci := 9) rfl tX_0 eX_0 rfl (Nat.le_of_ble_eq_true rfl) dX9_dearestRoad_2 rfl (st2 := [.int r1.1]) rfl (pc2 := 5) rfl ?_
  refine kg_istore_n dX9_dearestRoad_5 rfl (Nat.le_of_ble_eq_true rfl) rfl (lv2 := [(2, .int r1.1), (0, .ref 0), (1, .int a1)]) rfl (pc2 := 6) rfl ?_
  refine kg_bipush dX9_dearestRoad_6 kb_m2 (pc2 := 8) rfl ?_
  refine kg_istore_n dX9_dearestRoad_8 rfl (Nat.le_of_ble_eq_true rfl) rfl (lv2 := [(3, .int (-2 : Int32)), (2, .int r1.1), (0, .ref 0), (1, .int a1)]) rfl (pc2 := 9) rfl ?_
  refine kg_lconst dX9_dearestRoad_9 kl_0 (pc2 := 10) rfl ?_
  refine kg_lstore dX9_dearestRoad_10 (Nat.le_of_ble_eq_true rfl) rfl (lv2 := [(4, .long (0 : Int64)), (3, .int (-2 : Int32)), (2, .int r1.1), (0, .ref 0), (1, .int a1)]) rfl (pc2 := 12) rfl ?_
  refine kg_iconst dX9_dearestRoad_12 ki_0 (pc2 := 13) rfl ?_
  refine kg_istore dX9_dearestRoad_13 (Nat.le_of_ble_eq_true rfl) rfl (lv2 := [(6, .int (0 : Int32)), (4, .long (0 : Int64)), (3, .int (-2 : Int32)), (2, .int r1.1), (0, .ref 0), (1, .int a1)]) rfl (pc2 := 15) rfl ?_
  refine kg_sub [4, 5, 3, 2, 1, 0] (lv2 := [(0, .ref 0), (1, .int a1), (2, .int r1.1), (3, .int (-2 : Int32)), (4, .long (0 : Int64)), (6, .int (0 : Int32))]) rfl ?_
  obtain ⟨x17, x17h, h⟩ := kw_bind_e h
  refine kw_loop_e (P := fun s => kw_G E kwTX 48 (d + 3) μX9_dearestRoad 15 [(0, .ref 0), (1, .int a1), (2, .int r1.1), (3, .int s.1), (4, .long s.2.1), (6, .int s.2.2.1)] [] s.2.2.2 (some (Value.int r.1)) r.2) (K := fun y => kw_G E kwTX 48 (d + 3) μX9_dearestRoad 97 [(3, .int y.1)] [] y.2 (some (Value.int r.1)) r.2) (fun s o h0 hk => lX9_dearestRoad_15 a1 r1.1 s.1 s.2.1 s.2.2.1 s.2.2.2 h0 hk) kw_F _ _ x17h ?_
  show kw_G E kwTX 48 (d + 3) μX9_dearestRoad 97 [(3, .int x17.1)] [] x17.2 (some (Value.int r.1)) r.2
  refine kg_iload_n 0 dX9_dearestRoad_97 rfl (pc2 := 98) rfl ?_
  cases h
  exact kg_iret (ty := .int) dX9_dearestRoad_98 rfl rfl
set_option maxHeartbeats 4000000 in
set_option maxRecDepth 100000 in
theorem gjX1_hasTwinBefore_50_L10 {E : kw_E} {d : Nat} (v1 : Int32) (v3 : Int32) (t0 : Int32) (σ : kw_M) {v : Option Value} {σ2 : kw_M} {o : (Int32) ⊕ ((Int32) ⊕ (Unit))} (h : jX1_hasTwinBefore_50_L10 v1 v3 t0 σ = some o) (hk : Sum.elim (fun s => kw_G E kwTX 48 (d + 1) μX1_hasTwinBefore 10 [(1, .int v1), (2, .ref 12), (3, .int s)] [] σ v σ2) (Sum.elim (fun rr => v = some (Value.int rr) ∧ σ2 = σ) (fun y => kw_G E kwTX 48 (d + 1) μX1_hasTwinBefore 88 [] [] σ v σ2)) o) : kw_G E kwTX 48 (d + 1) μX1_hasTwinBefore 50 [(1, .int v1), (2, .ref 12), (3, .int v3)] [.int t0] σ v σ2 := by
  unfold jX1_hasTwinBefore_50_L10 at h
  refine kg_istore dX1_hasTwinBefore_50 (Nat.le_of_ble_eq_true rfl) rfl (lv2 := [(4, .int t0), (1, .int v1), (2, .ref 12), (3, .int v3)]) rfl (pc2 := 52) rfl ?_
  refine kg_iload 0 dX1_hasTwinBefore_52 rfl (pc2 := 54) rfl ?_
  refine kg_if_eq 82 dX1_hasTwinBefore_54 rfl (pc2 := 57) rfl (fun q5 => ?_) (fun q5 => ?_)
  · replace h := (if_pos q5).symm.trans h
    obtain ⟨x6, x6e, h⟩ := kw_let_e h
    refine kg_iinc 3 dX1_hasTwinBefore_82 rfl (Nat.le_of_ble_eq_true rfl) x6e (lv2 := [(3, .int x6), (4, .int t0), (1, .int v1), (2, .ref 12)]) rfl (pc2 := 85) rfl ?_
    refine kg_goto 10 dX1_hasTwinBefore_85 rfl ?_
    refine kg_sub [2, 3, 0] (lv2 := [(1, .int v1), (2, .ref 12), (3, .int x6)]) rfl ?_
    cases h
    exact hk
  · replace h := (if_neg q5).symm.trans h
    refine kg_aload_n 2 dX1_hasTwinBefore_57 rfl (pc2 := 58) rfl ?_
    refine kg_getr clX4 rfl 5 (Nat.le_of_ble_eq_true rfl) lfRX1_67 tX_12 eX_12 rfl dX1_hasTwinBefore_58 (pc2 := 61) rfl ?_
    refine kg_iload_n 3 dX1_hasTwinBefore_61 rfl (pc2 := 62) rfl ?_
    obtain ⟨q7, h⟩ := kw_chk_e h
    refine kg_iald tX_20 eX_20 q7 (j := v3.toNatClampNeg) rfl dX1_hasTwinBefore_62 (pc2 := 63) rfl ?_
    refine kg_aload_n 2 dX1_hasTwinBefore_63 rfl (pc2 := 64) rfl ?_
    refine kg_getr clX4 rfl 5 (Nat.le_of_ble_eq_true rfl) lfRX1_67 tX_12 eX_12 rfl dX1_hasTwinBefore_64 (pc2 := 67) rfl ?_
    refine kg_iload_n 1 dX1_hasTwinBefore_67 rfl (pc2 := 68) rfl ?_
    obtain ⟨q8, h⟩ := kw_chk_e h
    refine kg_iald tX_20 eX_20 q8 (j := v1.toNatClampNeg) rfl dX1_hasTwinBefore_68 (pc2 := 69) rfl ?_
    refine kg_icmp_ne 82 dX1_hasTwinBefore_69 rfl (pc2 := 72) rfl (fun q9 => ?_) (fun q9 => ?_)
    · replace h := (if_neg q9).symm.trans h
      obtain ⟨x10, x10e, h⟩ := kw_let_e h
      refine kg_iinc 3 dX1_hasTwinBefore_82 rfl (Nat.le_of_ble_eq_true rfl) x10e (lv2 := [(3, .int x10), (4, .int t0), (1, .int v1), (2, .ref 12)]) rfl (pc2 := 85) rfl ?_
      refine kg_goto 10 dX1_hasTwinBefore_85 rfl ?_
      refine kg_sub [2, 3, 0] (lv2 := [(1, .int v1), (2, .ref 12), (3, .int x10)]) rfl ?_
      cases h
      exact hk
    · replace h := (if_pos q9).symm.trans h
      refine kg_aload_n 2 dX1_hasTwinBefore_72 rfl (pc2 := 73) rfl ?_
      refine kg_iload_n 3 dX1_hasTwinBefore_73 rfl (pc2 := 74) rfl ?_
      obtain ⟨r11, r11h, h⟩ := kw_bind_e h
      refine kg_callV (μ := μX1_hasTwinBefore) (d := d) rfl mVX4_isOpen [.int v3] [] (gX4_isOpen (E := E) (d := d) 12 kx_4_12 v3 σ r11h) rfl lmRX1_53 (ci := 4) rfl tX_12 eX_12 rfl (Nat.le_of_ble_eq_true rfl) dX1_hasTwinBefore_74 rfl (st2 := [.int r11]) rfl (pc2 := 77) rfl ?_
      refine kg_if_eq 82 dX1_hasTwinBefore_77 rfl (pc2 := 80) rfl (fun q12 => ?_) (fun q12 => ?_)
      · replace h := (if_pos q12).symm.trans h
        obtain ⟨x13, x13e, h⟩ := kw_let_e h
        refine kg_iinc 3 dX1_hasTwinBefore_82 rfl (Nat.le_of_ble_eq_true rfl) x13e (lv2 := [(3, .int x13), (4, .int t0), (1, .int v1), (2, .ref 12)]) rfl (pc2 := 85) rfl ?_
        refine kg_goto 10 dX1_hasTwinBefore_85 rfl ?_
        refine kg_sub [2, 3, 0] (lv2 := [(1, .int v1), (2, .ref 12), (3, .int x13)]) rfl ?_
        cases h
        exact hk
      · replace h := (if_neg q12).symm.trans h
        refine kg_iconst dX1_hasTwinBefore_80 ki_1 (pc2 := 81) rfl ?_
        cases h
        obtain ⟨rfl, rfl⟩ := hk
        exact kg_iret (ty := .boolean) dX1_hasTwinBefore_81 rfl rfl
set_option maxHeartbeats 4000000 in
set_option maxRecDepth 100000 in
theorem gjX1_hasTwinBefore_49_L10 {E : kw_E} {d : Nat} (v1 : Int32) (v3 : Int32) (σ : kw_M) {v : Option Value} {σ2 : kw_M} {o : (Int32) ⊕ ((Int32) ⊕ (Unit))} (h : jX1_hasTwinBefore_49_L10 v1 v3 σ = some o) (hk : Sum.elim (fun s => kw_G E kwTX 48 (d + 1) μX1_hasTwinBefore 10 [(1, .int v1), (2, .ref 12), (3, .int s)] [] σ v σ2) (Sum.elim (fun rr => v = some (Value.int rr) ∧ σ2 = σ) (fun y => kw_G E kwTX 48 (d + 1) μX1_hasTwinBefore 88 [] [] σ v σ2)) o) : kw_G E kwTX 48 (d + 1) μX1_hasTwinBefore 49 [(1, .int v1), (2, .ref 12), (3, .int v3)] [] σ v σ2 := by
  unfold jX1_hasTwinBefore_49_L10 at h
  refine kg_iconst dX1_hasTwinBefore_49 ki_0 (pc2 := 50) rfl ?_
  exact gjX1_hasTwinBefore_50_L10 v1 v3 (0 : Int32) σ h hk
set_option maxHeartbeats 4000000 in
set_option maxRecDepth 100000 in
theorem lX1_hasTwinBefore_10 {E : kw_E} {d : Nat} (v1 : Int32) (σ : kw_M) (v3 : Int32) {v : Option Value} {σ2 : kw_M} {o : (Int32) ⊕ ((Int32) ⊕ (Unit))} (h : bX1_hasTwinBefore_10 v1 σ v3 = some o) (hk : Sum.elim (fun s => kw_G E kwTX 48 (d + 1) μX1_hasTwinBefore 10 [(1, .int v1), (2, .ref 12), (3, .int s)] [] σ v σ2) (Sum.elim (fun rr => v = some (Value.int rr) ∧ σ2 = σ) (fun y => kw_G E kwTX 48 (d + 1) μX1_hasTwinBefore 88 [] [] σ v σ2)) o) : kw_G E kwTX 48 (d + 1) μX1_hasTwinBefore 10 [(1, .int v1), (2, .ref 12), (3, .int v3)] [] σ v σ2 := by
  unfold bX1_hasTwinBefore_10 at h
  refine kg_iload_n 2 dX1_hasTwinBefore_10 rfl (pc2 := 11) rfl ?_
  refine kg_iload_n 0 dX1_hasTwinBefore_11 rfl (pc2 := 12) rfl ?_
  refine kg_icmp_ge 88 dX1_hasTwinBefore_12 rfl (pc2 := 15) rfl (fun q1 => ?_) (fun q1 => ?_)
  · replace h := (if_pos q1).symm.trans h
    refine kg_sub [] (lv2 := []) rfl ?_
    cases h
    exact hk
  · replace h := (if_neg q1).symm.trans h
    refine kg_aload_n 1 dX1_hasTwinBefore_15 rfl (pc2 := 16) rfl ?_
    refine kg_getr clX4 rfl 3 (Nat.le_of_ble_eq_true rfl) lfRX1_60 tX_12 eX_12 rfl dX1_hasTwinBefore_16 (pc2 := 19) rfl ?_
    refine kg_iload_n 2 dX1_hasTwinBefore_19 rfl (pc2 := 20) rfl ?_
    obtain ⟨q2, h⟩ := kw_chk_e h
    refine kg_iald tX_18 eX_18 q2 (j := v3.toNatClampNeg) rfl dX1_hasTwinBefore_20 (pc2 := 21) rfl ?_
    refine kg_aload_n 1 dX1_hasTwinBefore_21 rfl (pc2 := 22) rfl ?_
    refine kg_getr clX4 rfl 3 (Nat.le_of_ble_eq_true rfl) lfRX1_60 tX_12 eX_12 rfl dX1_hasTwinBefore_22 (pc2 := 25) rfl ?_
    refine kg_iload_n 0 dX1_hasTwinBefore_25 rfl (pc2 := 26) rfl ?_
    obtain ⟨q3, h⟩ := kw_chk_e h
    refine kg_iald tX_18 eX_18 q3 (j := v1.toNatClampNeg) rfl dX1_hasTwinBefore_26 (pc2 := 27) rfl ?_
    refine kg_icmp_ne 49 dX1_hasTwinBefore_27 rfl (pc2 := 30) rfl (fun q4 => ?_) (fun q4 => ?_)
    · replace h := (if_neg q4).symm.trans h
      exact gjX1_hasTwinBefore_49_L10 v1 v3 σ h hk
    · replace h := (if_pos q4).symm.trans h
      refine kg_aload_n 1 dX1_hasTwinBefore_30 rfl (pc2 := 31) rfl ?_
      refine kg_getr clX4 rfl 4 (Nat.le_of_ble_eq_true rfl) lfRX1_64 tX_12 eX_12 rfl dX1_hasTwinBefore_31 (pc2 := 34) rfl ?_
      refine kg_iload_n 2 dX1_hasTwinBefore_34 rfl (pc2 := 35) rfl ?_
      refine kg_iald tX_19 eX_19 q2 (j := v3.toNatClampNeg) rfl dX1_hasTwinBefore_35 (pc2 := 36) rfl ?_
      refine kg_aload_n 1 dX1_hasTwinBefore_36 rfl (pc2 := 37) rfl ?_
      refine kg_getr clX4 rfl 4 (Nat.le_of_ble_eq_true rfl) lfRX1_64 tX_12 eX_12 rfl dX1_hasTwinBefore_37 (pc2 := 40) rfl ?_
      refine kg_iload_n 0 dX1_hasTwinBefore_40 rfl (pc2 := 41) rfl ?_
      refine kg_iald tX_19 eX_19 q3 (j := v1.toNatClampNeg) rfl dX1_hasTwinBefore_41 (pc2 := 42) rfl ?_
      refine kg_icmp_ne 49 dX1_hasTwinBefore_42 rfl (pc2 := 45) rfl (fun q14 => ?_) (fun q14 => ?_)
      · replace h := (if_neg q14).symm.trans h
        exact gjX1_hasTwinBefore_49_L10 v1 v3 σ h hk
      · replace h := (if_pos q14).symm.trans h
        refine kg_iconst dX1_hasTwinBefore_45 ki_1 (pc2 := 46) rfl ?_
        refine kg_goto 50 dX1_hasTwinBefore_46 rfl ?_
        exact gjX1_hasTwinBefore_50_L10 v1 v3 (1 : Int32) σ h hk
set_option maxHeartbeats 4000000 in
set_option maxRecDepth 100000 in
theorem gX1_hasTwinBefore {E : kw_E} {d : Nat} (a1 : Int32) (σ : kw_M) {r : Int32} (h : fX1_hasTwinBefore a1 σ = some r) : kw_Met E kwTX 48 (d + 1) μX1_hasTwinBefore [.ref 7, .int a1] σ (some (Value.int r)) σ := by
  refine kw_enter plRX1 (Nat.le_of_ble_eq_true rfl) ?_
  show kw_G E kwTX 48 (d + 1) μX1_hasTwinBefore 0 [(0, .ref 7), (1, .int a1)] [] σ (some (Value.int r)) σ
  unfold fX1_hasTwinBefore at h
  refine kg_aload_n 0 dX1_hasTwinBefore_0 rfl (pc2 := 1) rfl ?_
  refine kg_getr clX1 rfl 0 (Nat.le_of_ble_eq_true rfl) lfRX1_15 tX_7 eX_7 rfl dX1_hasTwinBefore_1 (pc2 := 4) rfl ?_
  refine kg_getr clX7 rfl 0 (Nat.le_of_ble_eq_true rfl) lfRX1_44 tX_1 eX_1 rfl dX1_hasTwinBefore_4 (pc2 := 7) rfl ?_
  refine kg_astore_n dX1_hasTwinBefore_7 rfl (Nat.le_of_ble_eq_true rfl) rfl (lv2 := [(2, .ref 12), (0, .ref 7), (1, .int a1)]) rfl (pc2 := 8) rfl ?_
  refine kg_iconst dX1_hasTwinBefore_8 ki_0 (pc2 := 9) rfl ?_
  refine kg_istore_n dX1_hasTwinBefore_9 rfl (Nat.le_of_ble_eq_true rfl) rfl (lv2 := [(3, .int (0 : Int32)), (2, .ref 12), (0, .ref 7), (1, .int a1)]) rfl (pc2 := 10) rfl ?_
  refine kg_sub [3, 1, 0] (lv2 := [(1, .int a1), (2, .ref 12), (3, .int (0 : Int32))]) rfl ?_
  obtain ⟨x15, x15h, h⟩ := kw_bind_e h
  refine kw_loop_e (P := fun s => kw_G E kwTX 48 (d + 1) μX1_hasTwinBefore 10 [(1, .int a1), (2, .ref 12), (3, .int s)] [] σ (some (Value.int r)) σ) (K := Sum.elim (fun rr => (some (Value.int r)) = some (Value.int rr) ∧ σ = σ) (fun y => kw_G E kwTX 48 (d + 1) μX1_hasTwinBefore 88 [] [] σ (some (Value.int r)) σ)) (fun s o h0 hk => lX1_hasTwinBefore_10 a1 σ s h0 hk) kw_F _ _ x15h ?_
  rcases x15 with x15r | x15
  · replace h := kw_se_l h
    cases h
    exact ⟨rfl, rfl⟩
  · replace h := kw_se_r h
    show kw_G E kwTX 48 (d + 1) μX1_hasTwinBefore 88 [] [] σ (some (Value.int r)) σ
    refine kg_iconst dX1_hasTwinBefore_88 ki_0 (pc2 := 89) rfl ?_
    cases h
    exact kg_iret (ty := .boolean) dX1_hasTwinBefore_89 rfl rfl
set_option maxHeartbeats 4000000 in
set_option maxRecDepth 100000 in
theorem lX1_findUseful_7 {E : kw_E} {d : Nat} (v1 : Int32) (σ : kw_M) {v : Option Value} {σ2 : kw_M} {o : (Int32 × kw_M) ⊕ (kw_M)} (h : bX1_findUseful_7 v1 σ = some o) (hk : Sum.elim (fun s => kw_G E kwTX 48 (d + 2) μX1_findUseful 7 [(0, .ref 7), (1, .int s.1)] [] s.2 v σ2) (fun y => kw_G E kwTX 48 (d + 2) μX1_findUseful 61 [] [] y v σ2) o) : kw_G E kwTX 48 (d + 2) μX1_findUseful 7 [(0, .ref 7), (1, .int v1)] [] σ v σ2 := by
  unfold bX1_findUseful_7 at h
  refine kg_iload_n 1 dX1_findUseful_7 rfl (pc2 := 8) rfl ?_
  refine kg_aload_n 0 dX1_findUseful_8 rfl (pc2 := 9) rfl ?_
  refine kg_getr clX1 rfl 0 (Nat.le_of_ble_eq_true rfl) lfRX1_15 tX_7 eX_7 rfl dX1_findUseful_9 (pc2 := 12) rfl ?_
  refine kg_getr clX7 rfl 0 (Nat.le_of_ble_eq_true rfl) lfRX1_44 tX_1 eX_1 rfl dX1_findUseful_12 (pc2 := 15) rfl ?_
  refine kg_geti clX4 rfl 1 (Nat.le_of_ble_eq_true rfl) lfRX1_48 tX_12 eX_12 rfl dX1_findUseful_15 (pc2 := 18) rfl ?_
  refine kg_icmp_ge 61 dX1_findUseful_18 rfl (pc2 := 21) rfl (fun q2 => ?_) (fun q2 => ?_)
  · replace h := (if_pos q2).symm.trans h
    refine kg_sub [] (lv2 := []) rfl ?_
    cases h
    exact hk
  · replace h := (if_neg q2).symm.trans h
    refine kg_aload_n 0 dX1_findUseful_21 rfl (pc2 := 22) rfl ?_
    refine kg_getr clX1 rfl 0 (Nat.le_of_ble_eq_true rfl) lfRX1_15 tX_7 eX_7 rfl dX1_findUseful_22 (pc2 := 25) rfl ?_
    refine kg_getr clX7 rfl 0 (Nat.le_of_ble_eq_true rfl) lfRX1_44 tX_1 eX_1 rfl dX1_findUseful_25 (pc2 := 28) rfl ?_
    refine kg_iload_n 1 dX1_findUseful_28 rfl (pc2 := 29) rfl ?_
    obtain ⟨r3, r3h, h⟩ := kw_bind_e h
    refine kg_callV (μ := μX1_findUseful) (d := (d + 1)) rfl mVX4_isOpen [.int v1] [] (gX4_isOpen (E := E) (d := (d + 1)) 12 kx_4_12 v1 σ r3h) rfl lmRX1_53 (ci := 4) rfl tX_12 eX_12 rfl (Nat.le_of_ble_eq_true rfl) dX1_findUseful_29 rfl (st2 := [.int r3]) rfl (pc2 := 32) rfl ?_
    refine kg_if_eq 55 dX1_findUseful_32 rfl (pc2 := 35) rfl (fun q4 => ?_) (fun q4 => ?_)
    · replace h := (if_pos q4).symm.trans h
      obtain ⟨x5, x5e, h⟩ := kw_let_e h
      refine kg_iinc 1 dX1_findUseful_55 rfl (Nat.le_of_ble_eq_true rfl) x5e (lv2 := [(1, .int x5), (0, .ref 7)]) rfl (pc2 := 58) rfl ?_
      refine kg_goto 7 dX1_findUseful_58 rfl ?_
      refine kg_sub [1, 0] (lv2 := [(0, .ref 7), (1, .int x5)]) rfl ?_
      cases h
      exact hk
    · replace h := (if_neg q4).symm.trans h
      refine kg_aload_n 0 dX1_findUseful_35 rfl (pc2 := 36) rfl ?_
      refine kg_iload_n 1 dX1_findUseful_36 rfl (pc2 := 37) rfl ?_
      obtain ⟨r6, r6h, h⟩ := kw_bind_e h
      refine kg_callV (μ := μX1_findUseful) (d := (d + 1)) rfl mVX1_hasTwinBefore [.int v1] [] (gX1_hasTwinBefore (E := E) (d := d) v1 σ r6h) rfl lmRX1_57 (ci := 1) rfl tX_7 eX_7 rfl (Nat.le_of_ble_eq_true rfl) dX1_findUseful_37 rfl (st2 := [.int r6]) rfl (pc2 := 40) rfl ?_
      refine kg_if_ne 55 dX1_findUseful_40 rfl (pc2 := 43) rfl (fun q7 => ?_) (fun q7 => ?_)
      · replace h := (if_neg q7).symm.trans h
        obtain ⟨x8, x8e, h⟩ := kw_let_e h
        refine kg_iinc 1 dX1_findUseful_55 rfl (Nat.le_of_ble_eq_true rfl) x8e (lv2 := [(1, .int x8), (0, .ref 7)]) rfl (pc2 := 58) rfl ?_
        refine kg_goto 7 dX1_findUseful_58 rfl ?_
        refine kg_sub [1, 0] (lv2 := [(0, .ref 7), (1, .int x8)]) rfl ?_
        cases h
        exact hk
      · replace h := (if_pos q7).symm.trans h
        refine kg_aload_n 0 dX1_findUseful_43 rfl (pc2 := 44) rfl ?_
        refine kg_dup dX1_findUseful_44 rfl (pc2 := 45) rfl ?_
        refine kg_getl clX1 rfl 4 (Nat.le_of_ble_eq_true rfl) lfRX1_41 tX_7 eX_7 rfl dX1_findUseful_45 (pc2 := 48) rfl ?_
        refine kg_lconst dX1_findUseful_48 kl_1 (pc2 := 49) rfl ?_
        refine kg_iload_n 1 dX1_findUseful_49 rfl (pc2 := 50) rfl ?_
        refine kg_lshl dX1_findUseful_50 (pc2 := 51) rfl ?_
        refine kg_lor dX1_findUseful_51 (pc2 := 52) rfl ?_
        obtain ⟨s9, s9e, h⟩ := kw_let_e h
        refine kg_putl clX1 rfl 4 (Nat.le_of_ble_eq_true rfl) lfRX1_41 rfl tX_7 eX_7 rfl (ty := .long) (by decide +kernel) rfl rfl s9e dX1_findUseful_52 (pc2 := 55) rfl ?_
        obtain ⟨x10, x10e, h⟩ := kw_let_e h
        refine kg_iinc 1 dX1_findUseful_55 rfl (Nat.le_of_ble_eq_true rfl) x10e (lv2 := [(1, .int x10), (0, .ref 7)]) rfl (pc2 := 58) rfl ?_
        refine kg_goto 7 dX1_findUseful_58 rfl ?_
        refine kg_sub [1, 0] (lv2 := [(0, .ref 7), (1, .int x10)]) rfl ?_
        cases h
        exact hk
set_option maxHeartbeats 4000000 in
set_option maxRecDepth 100000 in
theorem gX1_findUseful {E : kw_E} {d : Nat} (σ : kw_M) {r : kw_M} (h : fX1_findUseful σ = some r) : kw_Met E kwTX 48 (d + 2) μX1_findUseful [.ref 7] σ none r := by
  refine kw_enter plRX1 (Nat.le_of_ble_eq_true rfl) ?_
  show kw_G E kwTX 48 (d + 2) μX1_findUseful 0 [(0, .ref 7)] [] σ none r
  unfold fX1_findUseful at h
  refine kg_aload_n 0 dX1_findUseful_0 rfl (pc2 := 1) rfl ?_
  refine kg_lconst dX1_findUseful_1 kl_0 (pc2 := 2) rfl ?_
  obtain ⟨s1, s1e, h⟩ := kw_let_e h
  refine kg_putl clX1 rfl 4 (Nat.le_of_ble_eq_true rfl) lfRX1_41 rfl tX_7 eX_7 rfl (ty := .long) (by decide +kernel) rfl rfl s1e dX1_findUseful_2 (pc2 := 5) rfl ?_
  refine kg_iconst dX1_findUseful_5 ki_0 (pc2 := 6) rfl ?_
  refine kg_istore_n dX1_findUseful_6 rfl (Nat.le_of_ble_eq_true rfl) rfl (lv2 := [(1, .int (0 : Int32)), (0, .ref 7)]) rfl (pc2 := 7) rfl ?_
  refine kg_sub [1, 0] (lv2 := [(0, .ref 7), (1, .int (0 : Int32))]) rfl ?_
  obtain ⟨x11, x11h, h⟩ := kw_bind_e h
  refine kw_loop_e (P := fun s => kw_G E kwTX 48 (d + 2) μX1_findUseful 7 [(0, .ref 7), (1, .int s.1)] [] s.2 none r) (K := fun y => kw_G E kwTX 48 (d + 2) μX1_findUseful 61 [] [] y none r) (fun s o h0 hk => lX1_findUseful_7 s.1 s.2 h0 hk) kw_F _ _ x11h ?_
  show kw_G E kwTX 48 (d + 2) μX1_findUseful 61 [] [] x11 none r
  cases h
  exact kg_vret dX1_findUseful_61 rfl
set_option maxHeartbeats 4000000 in
set_option maxRecDepth 100000 in
theorem gX4_beginRow {E : kw_E} {d : Nat} (c2 : Nat) (hc2 : kx_a 1 12 c2) (a1 : Int32) (σ : kw_M) {r : kw_M} (h : fX4_beginRow c2 a1 σ = some r) : kw_Met E kwTX 48 (d + 1) μX4_beginRow [.ref 12, .int a1, .ref c2] σ none r := by
  refine kw_enter plRX4 (Nat.le_of_ble_eq_true rfl) ?_
  show kw_G E kwTX 48 (d + 1) μX4_beginRow 0 [(0, .ref 12), (1, .int a1), (2, .ref c2)] [] σ none r
  unfold fX4_beginRow at h
  refine kg_aload_n 2 dX4_beginRow_0 rfl (pc2 := 1) rfl ?_
  refine kg_ldc2 rfl lcRX4_38 dX4_beginRow_1 (pc2 := 4) rfl ?_
  obtain ⟨r1, r1h, h⟩ := kw_bind_e h
  refine kg_callS (μ := μX4_beginRow) (d := d) rfl mSJ7_fill_d0a16 [.ref c2, .long (-9000000000000000000 : Int64)] [] (gXJ7_fill_d0a16 (E := E) (d := d) c2 hc2 (-9000000000000000000 : Int64) σ r1h) rfl lmRX4_40 rfl (Nat.le_of_ble_eq_true rfl) dX4_beginRow_4 rfl (st2 := []) rfl (pc2 := 7) rfl ?_
  refine kg_aload_n 2 dX4_beginRow_7 rfl (pc2 := 8) rfl ?_
  refine kg_iload_n 1 dX4_beginRow_8 rfl (pc2 := 9) rfl ?_
  refine kg_lconst dX4_beginRow_9 kl_0 (pc2 := 10) rfl ?_
  obtain ⟨q2, h⟩ := kw_chk_e h
  obtain ⟨s3, s3e, h⟩ := kw_let_e h
  refine kg_last hc2.1 hc2.2 q2 (j := a1.toNatClampNeg) rfl s3e dX4_beginRow_10 (pc2 := 11) rfl ?_
  cases h
  exact kg_vret dX4_beginRow_11 rfl
set_option maxHeartbeats 4000000 in
set_option maxRecDepth 100000 in
theorem gX1_isUseful {E : kw_E} {d : Nat} (a1 : Int32) (σ : kw_M) {r : Int32} (h : fX1_isUseful a1 σ = some r) : kw_Met E kwTX 48 d μX1_isUseful [.ref 7, .int a1] σ (some (Value.int r)) σ := by
  refine kw_enter plRX1 (Nat.le_of_ble_eq_true rfl) ?_
  show kw_G E kwTX 48 d μX1_isUseful 0 [(0, .ref 7), (1, .int a1)] [] σ (some (Value.int r)) σ
  unfold fX1_isUseful at h
  refine kg_aload_n 0 dX1_isUseful_0 rfl (pc2 := 1) rfl ?_
  refine kg_getl clX1 rfl 4 (Nat.le_of_ble_eq_true rfl) lfRX1_41 tX_7 eX_7 rfl dX1_isUseful_1 (pc2 := 4) rfl ?_
  refine kg_iload_n 1 dX1_isUseful_4 rfl (pc2 := 5) rfl ?_
  refine kg_lshr dX1_isUseful_5 (pc2 := 6) rfl ?_
  refine kg_lconst dX1_isUseful_6 kl_1 (pc2 := 7) rfl ?_
  refine kg_land dX1_isUseful_7 (pc2 := 8) rfl ?_
  refine kg_lconst dX1_isUseful_8 kl_0 (pc2 := 9) rfl ?_
  refine kg_lcmp_eq 17 dX1_isUseful_9 dX1_isUseful_10 rfl (pc2 := 13) rfl (fun q1 => ?_) (fun q1 => ?_)
  · replace h := (if_pos q1).symm.trans h
    refine kg_iconst dX1_isUseful_17 ki_0 (pc2 := 18) rfl ?_
    cases h
    exact kg_iret (ty := .boolean) dX1_isUseful_18 rfl rfl
  · replace h := (if_neg q1).symm.trans h
    refine kg_iconst dX1_isUseful_13 ki_1 (pc2 := 14) rfl ?_
    refine kg_goto 18 dX1_isUseful_14 rfl ?_
    cases h
    exact kg_iret (ty := .boolean) dX1_isUseful_18 rfl rfl
set_option maxHeartbeats 4000000 in
set_option maxRecDepth 100000 in
theorem gX9_joined {E : kw_E} {d : Nat} (a0 : Int64) (a1 : Int64) (σ : kw_M) {r : Int64} (h : fX9_joined a0 a1 σ = some r) : kw_Met E kwTX 48 d μX9_joined [.long a0, .long a1] σ (some (Value.long r)) σ := by
  refine kw_enter plRX9 (Nat.le_of_ble_eq_true rfl) ?_
  show kw_G E kwTX 48 d μX9_joined 0 [(0, .long a0), (2, .long a1)] [] σ (some (Value.long r)) σ
  unfold fX9_joined at h
  refine kg_lload_n 0 dX9_joined_0 rfl (pc2 := 1) rfl ?_
  refine kg_ldc2 rfl lcRX9_261 dX9_joined_1 (pc2 := 4) rfl ?_
  refine kg_lcmp_eq 16 dX9_joined_4 dX9_joined_5 rfl (pc2 := 8) rfl (fun q1 => ?_) (fun q1 => ?_)
  · replace h := (if_pos q1).symm.trans h
    refine kg_ldc2 rfl lcRX9_261 dX9_joined_16 (pc2 := 19) rfl ?_
    refine kg_goto 25 dX9_joined_19 rfl ?_
    cases h
    exact kg_lret dX9_joined_25 rfl
  · replace h := (if_neg q1).symm.trans h
    refine kg_lload_n 1 dX9_joined_8 rfl (pc2 := 9) rfl ?_
    refine kg_ldc2 rfl lcRX9_261 dX9_joined_9 (pc2 := 12) rfl ?_
    refine kg_lcmp_ne 22 dX9_joined_12 dX9_joined_13 rfl (pc2 := 16) rfl (fun q2 => ?_) (fun q2 => ?_)
    · replace h := (if_neg q2).symm.trans h
      refine kg_lload_n 0 dX9_joined_22 rfl (pc2 := 23) rfl ?_
      refine kg_lload_n 1 dX9_joined_23 rfl (pc2 := 24) rfl ?_
      refine kg_ladd dX9_joined_24 (pc2 := 25) rfl ?_
      cases h
      exact kg_lret dX9_joined_25 rfl
    · replace h := (if_pos q2).symm.trans h
      refine kg_ldc2 rfl lcRX9_261 dX9_joined_16 (pc2 := 19) rfl ?_
      refine kg_goto 25 dX9_joined_19 rfl ?_
      cases h
      exact kg_lret dX9_joined_25 rfl
set_option maxHeartbeats 4000000 in
set_option maxRecDepth 100000 in
theorem gX4_lower {E : kw_E} {d : Nat} (c0 : Nat) (hc0 : kx_a 1 12 c0) (a1 : Int32) (a2 : Int64) (σ : kw_M) {r : Int32 × kw_M} (h : fX4_lower c0 a1 a2 σ = some r) : kw_Met E kwTX 48 (d + 1) μX4_lower [.ref c0, .int a1, .long a2] σ (some (Value.int r.1)) r.2 := by
  refine kw_enter plRX4 (Nat.le_of_ble_eq_true rfl) ?_
  show kw_G E kwTX 48 (d + 1) μX4_lower 0 [(0, .ref c0), (1, .int a1), (2, .long a2)] [] σ (some (Value.int r.1)) r.2
  unfold fX4_lower at h
  refine kg_lload_n 2 dX4_lower_0 rfl (pc2 := 1) rfl ?_
  refine kg_aload_n 0 dX4_lower_1 rfl (pc2 := 2) rfl ?_
  refine kg_iload_n 1 dX4_lower_2 rfl (pc2 := 3) rfl ?_
  obtain ⟨q1, h⟩ := kw_chk_e h
  refine kg_lald hc0.1 hc0.2 q1 (j := a1.toNatClampNeg) rfl dX4_lower_3 (pc2 := 4) rfl ?_
  obtain ⟨r2, r2h, h⟩ := kw_bind_e h
  refine kg_callN (μ := μX4_lower) (d := d) rfl mSX9_isLess [.long a2, .long (σ.2 c0 a1.toNatClampNeg)] [] (gX9_isLess (E := E) (d := d) a2 (σ.2 c0 a1.toNatClampNeg) σ r2h) rfl lnRX4_58 rfl (Nat.le_of_ble_eq_true rfl) dX4_lower_4 rfl (st2 := [.int r2]) rfl (pc2 := 7) rfl ?_
  refine kg_if_ne 12 dX4_lower_7 rfl (pc2 := 10) rfl (fun q3 => ?_) (fun q3 => ?_)
  · replace h := (if_neg q3).symm.trans h
    refine kg_aload_n 0 dX4_lower_12 rfl (pc2 := 13) rfl ?_
    refine kg_iload_n 1 dX4_lower_13 rfl (pc2 := 14) rfl ?_
    refine kg_lload_n 2 dX4_lower_14 rfl (pc2 := 15) rfl ?_
    obtain ⟨s4, s4e, h⟩ := kw_let_e h
    refine kg_last hc0.1 hc0.2 q1 (j := a1.toNatClampNeg) rfl s4e dX4_lower_15 (pc2 := 16) rfl ?_
    refine kg_iconst dX4_lower_16 ki_1 (pc2 := 17) rfl ?_
    cases h
    exact kg_iret (ty := .boolean) dX4_lower_17 rfl rfl
  · replace h := (if_pos q3).symm.trans h
    refine kg_iconst dX4_lower_10 ki_0 (pc2 := 11) rfl ?_
    cases h
    exact kg_iret (ty := .boolean) dX4_lower_11 rfl rfl
set_option maxHeartbeats 4000000 in
set_option maxRecDepth 100000 in
theorem lX1_settleRest_43 {E : kw_E} {d : Nat} (v1 : Int32) (v4 : Int32) (v3 : Int32) (v5 : Int32) (σ : kw_M) {v : Option Value} {σ2 : kw_M} {o : (Int32 × Int32 × kw_M) ⊕ (Int32 × kw_M)} (h : bX1_settleRest_43 v1 v4 v3 v5 σ = some o) (hk : Sum.elim (fun s => kw_G E kwTX 48 (d + 2) μX1_settleRest 43 [(0, .ref 7), (1, .int v1), (2, .ref 12), (3, .int s.1), (4, .int v4), (5, .int s.2.1)] [] s.2.2 v σ2) (fun y => kw_G E kwTX 48 (d + 2) μX1_settleRest 120 [(0, .ref 7), (1, .int v1), (2, .ref 12), (3, .int y.1), (4, .int v4)] [] y.2 v σ2) o) : kw_G E kwTX 48 (d + 2) μX1_settleRest 43 [(0, .ref 7), (1, .int v1), (2, .ref 12), (3, .int v3), (4, .int v4), (5, .int v5)] [] σ v σ2 := by
  unfold bX1_settleRest_43 at h
  refine kg_iload 5 dX1_settleRest_43 rfl (pc2 := 45) rfl ?_
  refine kg_aload_n 2 dX1_settleRest_45 rfl (pc2 := 46) rfl ?_
  refine kg_geti clX4 rfl 1 (Nat.le_of_ble_eq_true rfl) lfRX1_48 tX_12 eX_12 rfl dX1_settleRest_46 (pc2 := 49) rfl ?_
  refine kg_icmp_ge 120 dX1_settleRest_49 rfl (pc2 := 52) rfl (fun q4 => ?_) (fun q4 => ?_)
  · replace h := (if_pos q4).symm.trans h
    refine kg_sub [0, 1, 2, 3, 4] (lv2 := [(0, .ref 7), (1, .int v1), (2, .ref 12), (3, .int v3), (4, .int v4)]) rfl ?_
    cases h
    exact hk
  · replace h := (if_neg q4).symm.trans h
    refine kg_aload_n 2 dX1_settleRest_52 rfl (pc2 := 53) rfl ?_
    refine kg_getr clX4 rfl 3 (Nat.le_of_ble_eq_true rfl) lfRX1_60 tX_12 eX_12 rfl dX1_settleRest_53 (pc2 := 56) rfl ?_
    refine kg_iload 5 dX1_settleRest_56 rfl (pc2 := 58) rfl ?_
    obtain ⟨q5, h⟩ := kw_chk_e h
    refine kg_iald tX_18 eX_18 q5 (j := v5.toNatClampNeg) rfl dX1_settleRest_58 (pc2 := 59) rfl ?_
    obtain ⟨x6, x6e, h⟩ := kw_let_e h
    refine kg_istore dX1_settleRest_59 (Nat.le_of_ble_eq_true rfl) x6e (lv2 := [(6, .int x6), (0, .ref 7), (1, .int v1), (2, .ref 12), (3, .int v3), (4, .int v4), (5, .int v5)]) rfl (pc2 := 61) rfl ?_
    refine kg_iload_n 2 dX1_settleRest_61 rfl (pc2 := 62) rfl ?_
    refine kg_iload 0 dX1_settleRest_62 rfl (pc2 := 64) rfl ?_
    refine kg_ishr dX1_settleRest_64 (pc2 := 65) rfl ?_
    refine kg_iconst dX1_settleRest_65 ki_1 (pc2 := 66) rfl ?_
    refine kg_iand dX1_settleRest_66 (pc2 := 67) rfl ?_
    refine kg_if_ne 114 dX1_settleRest_67 rfl (pc2 := 70) rfl (fun q7 => ?_) (fun q7 => ?_)
    · replace h := (if_neg q7).symm.trans h
      obtain ⟨x8, x8e, h⟩ := kw_let_e h
      refine kg_iinc 6 dX1_settleRest_114 rfl (Nat.le_of_ble_eq_true rfl) x8e (lv2 := [(5, .int x8), (6, .int x6), (0, .ref 7), (1, .int v1), (2, .ref 12), (3, .int v3), (4, .int v4)]) rfl (pc2 := 117) rfl ?_
      refine kg_goto 43 dX1_settleRest_117 rfl ?_
      refine kg_sub [2, 3, 4, 5, 6, 0] (lv2 := [(0, .ref 7), (1, .int v1), (2, .ref 12), (3, .int v3), (4, .int v4), (5, .int x8)]) rfl ?_
      cases h
      exact hk
    · replace h := (if_pos q7).symm.trans h
      refine kg_aload_n 1 dX1_settleRest_70 rfl (pc2 := 71) rfl ?_
      refine kg_iload 6 dX1_settleRest_71 rfl (pc2 := 73) rfl ?_
      obtain ⟨r9, r9h, h⟩ := kw_bind_e h
      refine kg_callV (μ := μX1_settleRest) (d := (d + 1)) rfl mVX1_isUseful [.int v5] [] (gX1_isUseful (E := E) (d := (d + 1)) v5 σ r9h) rfl lmRX1_74 (ci := 1) rfl tX_7 eX_7 rfl (Nat.le_of_ble_eq_true rfl) dX1_settleRest_73 rfl (st2 := [.int r9]) rfl (pc2 := 76) rfl ?_
      refine kg_if_eq 114 dX1_settleRest_76 rfl (pc2 := 79) rfl (fun q10 => ?_) (fun q10 => ?_)
      · replace h := (if_pos q10).symm.trans h
        obtain ⟨x11, x11e, h⟩ := kw_let_e h
        refine kg_iinc 6 dX1_settleRest_114 rfl (Nat.le_of_ble_eq_true rfl) x11e (lv2 := [(5, .int x11), (6, .int x6), (0, .ref 7), (1, .int v1), (2, .ref 12), (3, .int v3), (4, .int v4)]) rfl (pc2 := 117) rfl ?_
        refine kg_goto 43 dX1_settleRest_117 rfl ?_
        refine kg_sub [2, 3, 4, 5, 6, 0] (lv2 := [(0, .ref 7), (1, .int v1), (2, .ref 12), (3, .int v3), (4, .int v4), (5, .int x11)]) rfl ?_
        cases h
        exact hk
      · replace h := (if_neg q10).symm.trans h
        refine kg_iload_n 4 dX1_settleRest_79 rfl (pc2 := 80) rfl ?_
        refine kg_aload_n 1 dX1_settleRest_80 rfl (pc2 := 81) rfl ?_
        refine kg_getr clX1 rfl 1 (Nat.le_of_ble_eq_true rfl) lfRX1_9 tX_7 eX_7 rfl dX1_settleRest_81 (pc2 := 84) rfl ?_
        refine kg_iload 0 dX1_settleRest_84 rfl (pc2 := 86) rfl ?_
        refine kg_aload_n 1 dX1_settleRest_86 rfl (pc2 := 87) rfl ?_
        refine kg_getr clX1 rfl 1 (Nat.le_of_ble_eq_true rfl) lfRX1_9 tX_7 eX_7 rfl dX1_settleRest_87 (pc2 := 90) rfl ?_
        refine kg_aload_n 3 dX1_settleRest_90 rfl (pc2 := 91) rfl ?_
        refine kg_getr clX4 rfl 4 (Nat.le_of_ble_eq_true rfl) lfRX1_64 tX_12 eX_12 rfl dX1_settleRest_91 (pc2 := 94) rfl ?_
        refine kg_iload 6 dX1_settleRest_94 rfl (pc2 := 96) rfl ?_
        refine kg_iald tX_19 eX_19 q5 (j := v5.toNatClampNeg) rfl dX1_settleRest_96 (pc2 := 97) rfl ?_
        obtain ⟨q12, h⟩ := kw_chk_e h
        refine kg_lald tX_47 eX_47 q12 (j := (σ.1 19 v5.toNatClampNeg).toNatClampNeg) rfl dX1_settleRest_97 (pc2 := 98) rfl ?_
        refine kg_aload_n 3 dX1_settleRest_98 rfl (pc2 := 99) rfl ?_
        refine kg_getr clX4 rfl 5 (Nat.le_of_ble_eq_true rfl) lfRX1_67 tX_12 eX_12 rfl dX1_settleRest_99 (pc2 := 102) rfl ?_
        refine kg_iload 6 dX1_settleRest_102 rfl (pc2 := 104) rfl ?_
        refine kg_iald tX_20 eX_20 q5 (j := v5.toNatClampNeg) rfl dX1_settleRest_104 (pc2 := 105) rfl ?_
        refine kg_i2l dX1_settleRest_105 (pc2 := 106) rfl ?_
        obtain ⟨r13, r13h, h⟩ := kw_bind_e h
        refine kg_callN (μ := μX1_settleRest) (d := (d + 1)) rfl mSX9_joined [.long (σ.2 47 (σ.1 19 v5.toNatClampNeg).toNatClampNeg), .long ((σ.1 20 v5.toNatClampNeg).toInt64)] [.int x6, .ref 47, .int v3] (gX9_joined (E := E) (d := (d + 1)) (σ.2 47 (σ.1 19 v5.toNatClampNeg).toNatClampNeg) ((σ.1 20 v5.toNatClampNeg).toInt64) σ r13h) rfl lnRX1_80 rfl (Nat.le_of_ble_eq_true rfl) dX1_settleRest_106 rfl (st2 := [.long r13, .int x6, .ref 47, .int v3]) rfl (pc2 := 109) rfl ?_
        obtain ⟨r14, r14h, h⟩ := kw_bind_e h
        refine kg_callS (μ := μX1_settleRest) (d := (d + 1)) rfl mSX4_lower [.ref 47, .int x6, .long r13] [.int v3] (gX4_lower (E := E) (d := d) 47 ⟨tX_47, eX_47⟩ x6 r13 σ r14h) rfl lmRX1_95 rfl (Nat.le_of_ble_eq_true rfl) dX1_settleRest_109 rfl (st2 := [.int r14.1, .int v3]) rfl (pc2 := 112) rfl ?_
        refine kg_ior dX1_settleRest_112 (pc2 := 113) rfl ?_
        obtain ⟨x15, x15e, h⟩ := kw_let_e h
        refine kg_istore_n dX1_settleRest_113 rfl (Nat.le_of_ble_eq_true rfl) x15e (lv2 := [(3, .int x15), (6, .int x6), (0, .ref 7), (1, .int v1), (2, .ref 12), (4, .int v4), (5, .int v5)]) rfl (pc2 := 114) rfl ?_
        obtain ⟨x16, x16e, h⟩ := kw_let_e h
        refine kg_iinc 6 dX1_settleRest_114 rfl (Nat.le_of_ble_eq_true rfl) x16e (lv2 := [(5, .int x16), (3, .int x15), (6, .int x6), (0, .ref 7), (1, .int v1), (2, .ref 12), (4, .int v4)]) rfl (pc2 := 117) rfl ?_
        refine kg_goto 43 dX1_settleRest_117 rfl ?_
        refine kg_sub [3, 4, 5, 1, 6, 0] (lv2 := [(0, .ref 7), (1, .int v1), (2, .ref 12), (3, .int x15), (4, .int v4), (5, .int x16)]) rfl ?_
        cases h
        exact hk
