/-! The class, method by method: the machine does what f says (g). -/
set_option maxHeartbeats 4000000 in
set_option maxRecDepth 100000 in
theorem gX9_joined {E : kw_E} {d : Nat} (a0 : Int64) (a1 : Int64) (σ : kw_M) {r : Int64} (h : fX9_joined a0 a1 σ = some r) : kw_Met E kwTX 47 d μX9_joined [.long a0, .long a1] σ (some (Value.long r)) σ := by
  refine kw_enter plRX9 (Nat.le_of_ble_eq_true rfl) ?_
  show kw_G E kwTX 47 d μX9_joined 0 [(0, .long a0), (2, .long a1)] [] σ (some (Value.long r)) σ
  unfold fX9_joined at h
  refine kg_lload_n 0 dX9_joined_0 rfl (pc2 := 1) rfl ?_
  refine kg_ldc2 rfl lcRX9_261 dX9_joined_1 (pc2 := 4) rfl ?_
  refine kg_lcmp_eq 16 dX9_joined_4 dX9_joined_5 rfl (pc2 := 8) rfl (fun q1 => ?_) (fun q1 => ?_)
  · replace h := (if_pos q1).symm.trans h
    refine kg_ldc2 rfl lcRX9_261 dX9_joined_16 (pc2 := 19) rfl ?_
    refine kg_goto 25 dX9_joined_19 rfl ?_
    cases h
    exact kg_lret dX9_joined_25 rfl
  · replace h := (if_neg q1).symm.trans h
    refine kg_lload_n 1 dX9_joined_8 rfl (pc2 := 9) rfl ?_
    refine kg_ldc2 rfl lcRX9_261 dX9_joined_9 (pc2 := 12) rfl ?_
    refine kg_lcmp_ne 22 dX9_joined_12 dX9_joined_13 rfl (pc2 := 16) rfl (fun q2 => ?_) (fun q2 => ?_)
    · replace h := (if_neg q2).symm.trans h
      refine kg_lload_n 0 dX9_joined_22 rfl (pc2 := 23) rfl ?_
      refine kg_lload_n 1 dX9_joined_23 rfl (pc2 := 24) rfl ?_
      refine kg_ladd dX9_joined_24 (pc2 := 25) rfl ?_
      cases h
      exact kg_lret dX9_joined_25 rfl
    · replace h := (if_pos q2).symm.trans h
      refine kg_ldc2 rfl lcRX9_261 dX9_joined_16 (pc2 := 19) rfl ?_
      refine kg_goto 25 dX9_joined_19 rfl ?_
      cases h
      exact kg_lret dX9_joined_25 rfl
set_option maxHeartbeats 4000000 in
set_option maxRecDepth 100000 in
theorem gX1_findNext {E : kw_E} {d : Nat} (a1 : Int32) (σ : kw_M) {r : Int64 × kw_M} (h : fX1_findNext a1 σ = some r) : kw_Met E kwTX 47 (d + 23) μX1_findNext [.ref 7, .int a1] σ (some (Value.long r.1)) r.2 := by
  refine kw_enter plRX1 (Nat.le_of_ble_eq_true rfl) ?_
  show kw_G E kwTX 47 (d + 23) μX1_findNext 0 [(0, .ref 7), (1, .int a1)] [] σ (some (Value.long r.1)) r.2
  unfold fX1_findNext at h
  refine kg_aload_n 0 dX1_findNext_0 rfl (pc2 := 1) rfl ?_
  refine kg_iload_n 1 dX1_findNext_1 rfl (pc2 := 2) rfl ?_
  obtain ⟨s1, s1e, h⟩ := kw_let_e h
  refine kg_puti clX1 rfl 2 (Nat.le_of_ble_eq_true rfl) lfRX1_19 rfl tX_7 eX_7 rfl (ty := .int) (by decide +kernel) rfl rfl s1e dX1_findNext_2 (pc2 := 5) rfl ?_
  refine kg_aload_n 0 dX1_findNext_5 rfl (pc2 := 6) rfl ?_
  refine kg_ldc2 rfl lcRX1_23 dX1_findNext_6 (pc2 := 9) rfl ?_
  obtain ⟨s2, s2e, h⟩ := kw_let_e h
  refine kg_putl clX1 rfl 3 (Nat.le_of_ble_eq_true rfl) lfRX1_25 rfl tX_7 eX_7 rfl (ty := .long) (by decide +kernel) rfl rfl s2e dX1_findNext_9 (pc2 := 12) rfl ?_
  refine kg_aload_n 0 dX1_findNext_12 rfl (pc2 := 13) rfl ?_
  obtain ⟨r3, r3h, h⟩ := kw_bind_e h
  refine kg_callV (μ := μX1_findNext) (d := (d + 22)) rfl mVX1_findUseful [] [] (gX1_findUseful (E := E) (d := (d + 20)) s2 r3h) rfl lmRX1_29 (ci := 1) rfl tX_7 eX_7 rfl (Nat.le_of_ble_eq_true rfl) dX1_findNext_13 rfl (st2 := []) rfl (pc2 := 16) rfl ?_
  refine kg_aload_n 0 dX1_findNext_16 rfl (pc2 := 17) rfl ?_
  refine kg_aload_n 0 dX1_findNext_17 rfl (pc2 := 18) rfl ?_
  refine kg_getr clX1 rfl 0 (Nat.le_of_ble_eq_true rfl) lfRX1_9 tX_7 eX_7 rfl dX1_findNext_18 (pc2 := 21) rfl ?_
  refine kg_geti clX7 rfl 2 (Nat.le_of_ble_eq_true rfl) lfRX1_32 tX_1 eX_1 rfl dX1_findNext_21 (pc2 := 24) rfl ?_
  refine kg_iconst dX1_findNext_24 ki_1 (pc2 := 25) rfl ?_
  refine kg_aload_n 0 dX1_findNext_25 rfl (pc2 := 26) rfl ?_
  refine kg_getr clX1 rfl 0 (Nat.le_of_ble_eq_true rfl) lfRX1_9 tX_7 eX_7 rfl dX1_findNext_26 (pc2 := 29) rfl ?_
  refine kg_geti clX7 rfl 2 (Nat.le_of_ble_eq_true rfl) lfRX1_32 tX_1 eX_1 rfl dX1_findNext_29 (pc2 := 32) rfl ?_
  refine kg_ishl dX1_findNext_32 (pc2 := 33) rfl ?_
  refine kg_lconst dX1_findNext_33 kl_0 (pc2 := 34) rfl ?_
  refine kg_iconst dX1_findNext_34 ki_0 (pc2 := 35) rfl ?_
  obtain ⟨r4, r4h, h⟩ := kw_bind_e h
  refine kg_callV (μ := μX1_findNext) (d := (d + 22)) rfl mVX1_dive [.int (r3.1 1 2), .int ((1 : Int32) <<< ((r3.1 1 2) &&& 31)), .long (0 : Int64), .int (0 : Int32)] [] (gX1_dive (E := E) (d := d) (r3.1 1 2) ((1 : Int32) <<< ((r3.1 1 2) &&& 31)) (0 : Int64) (0 : Int32) r3 r4h) rfl lmRX1_37 (ci := 1) rfl tX_7 eX_7 rfl (Nat.le_of_ble_eq_true rfl) dX1_findNext_35 rfl (st2 := []) rfl (pc2 := 38) rfl ?_
  refine kg_aload_n 0 dX1_findNext_38 rfl (pc2 := 39) rfl ?_
  refine kg_getr clX1 rfl 0 (Nat.le_of_ble_eq_true rfl) lfRX1_9 tX_7 eX_7 rfl dX1_findNext_39 (pc2 := 42) rfl ?_
  refine kg_getr clX7 rfl 9 (Nat.le_of_ble_eq_true rfl) lfRX1_41 tX_1 eX_1 rfl dX1_findNext_42 (pc2 := 45) rfl ?_
  refine kg_iload_n 1 dX1_findNext_45 rfl (pc2 := 46) rfl ?_
  obtain ⟨q5, h⟩ := kw_chk_e h
  refine kg_lald tX_16 eX_16 q5 (j := a1.toNatClampNeg) rfl dX1_findNext_46 (pc2 := 47) rfl ?_
  refine kg_aload_n 0 dX1_findNext_47 rfl (pc2 := 48) rfl ?_
  refine kg_getl clX1 rfl 3 (Nat.le_of_ble_eq_true rfl) lfRX1_25 tX_7 eX_7 rfl dX1_findNext_48 (pc2 := 51) rfl ?_
  obtain ⟨r6, r6h, h⟩ := kw_bind_e h
  refine kg_callN (μ := μX1_findNext) (d := (d + 22)) rfl mSX9_joined [.long (r4.2 16 a1.toNatClampNeg), .long (r4.2 7 3)] [] (gX9_joined (E := E) (d := (d + 22)) (r4.2 16 a1.toNatClampNeg) (r4.2 7 3) r4 r6h) rfl lnRX1_45 rfl (Nat.le_of_ble_eq_true rfl) dX1_findNext_51 rfl (st2 := [.long r6]) rfl (pc2 := 54) rfl ?_
  cases h
  exact kg_lret dX1_findNext_54 rfl
set_option maxHeartbeats 4000000 in
set_option maxRecDepth 100000 in
theorem gX9_nextLonger {E : kw_E} {d : Nat} (a1 : Int32) (σ : kw_M) {r : Int64 × kw_M} (h : fX9_nextLonger a1 σ = some r) : kw_Met E kwTX 47 (d + 24) μX9_nextLonger [.ref 0, .int a1] σ (some (Value.long r.1)) r.2 := by
  refine kw_enter plRX9 (Nat.le_of_ble_eq_true rfl) ?_
  show kw_G E kwTX 47 (d + 24) μX9_nextLonger 0 [(0, .ref 0), (1, .int a1)] [] σ (some (Value.long r.1)) r.2
  unfold fX9_nextLonger at h
  refine kg_aload_n 0 dX9_nextLonger_0 rfl (pc2 := 1) rfl ?_
  obtain ⟨r1, r1h, h⟩ := kw_bind_e h
  refine kg_callV (μ := μX9_nextLonger) (d := (d + 23)) rfl mVX9_rightPairs [] [] (gX9_rightPairs (E := E) (d := (d + 20)) σ r1h) rfl lmRX9_251 (ci := 9) rfl tX_0 eX_0 rfl (Nat.le_of_ble_eq_true rfl) dX9_nextLonger_1 rfl (st2 := [.ref 5]) rfl (pc2 := 4) rfl ?_
  refine kg_pop dX9_nextLonger_4 rfl (pc2 := 5) rfl ?_
  refine kg_aload_n 0 dX9_nextLonger_5 rfl (pc2 := 6) rfl ?_
  refine kg_getr clX9 rfl 7 (Nat.le_of_ble_eq_true rfl) lfRX9_52 tX_0 eX_0 rfl dX9_nextLonger_6 (pc2 := 9) rfl ?_
  refine kg_iload_n 1 dX9_nextLonger_9 rfl (pc2 := 10) rfl ?_
  obtain ⟨r2, r2h, h⟩ := kw_bind_e h
  refine kg_callV (μ := μX9_nextLonger) (d := (d + 23)) rfl mVX1_findNext [.int a1] [] (gX1_findNext (E := E) (d := d) a1 r1 r2h) rfl lmRX9_388 (ci := 1) rfl tX_7 eX_7 rfl (Nat.le_of_ble_eq_true rfl) dX9_nextLonger_10 rfl (st2 := [.long r2.1]) rfl (pc2 := 13) rfl ?_
  cases h
  exact kg_lret dX9_nextLonger_13 rfl
set_option maxHeartbeats 4000000 in
set_option maxRecDepth 100000 in
theorem lX2_ringOf_7 {E : kw_E} {d : Nat} (v2 : Int32) (σ : kw_M) (v3 : Int64) (v5 : Int32) {v : Option Value} {σ2 : kw_M} {o : (Int64 × Int32) ⊕ (Int64)} (h : bX2_ringOf_7 v2 σ v3 v5 = some o) (hk : Sum.elim (fun s => kw_G E kwTX 47 (d + 1) μX2_ringOf 7 [(0, .ref 5), (1, .ref 12), (2, .int v2), (3, .long s.1), (5, .int s.2)] [] σ v σ2) (fun y => kw_G E kwTX 47 (d + 1) μX2_ringOf 83 [(3, .long y)] [] σ v σ2) o) : kw_G E kwTX 47 (d + 1) μX2_ringOf 7 [(0, .ref 5), (1, .ref 12), (2, .int v2), (3, .long v3), (5, .int v5)] [] σ v σ2 := by
  unfold bX2_ringOf_7 at h
  refine kg_iload 4 dX2_ringOf_7 rfl (pc2 := 9) rfl ?_
  refine kg_aload_n 1 dX2_ringOf_9 rfl (pc2 := 10) rfl ?_
  refine kg_geti clX4 rfl 1 (Nat.le_of_ble_eq_true rfl) lfRX2_61 tX_12 eX_12 rfl dX2_ringOf_10 (pc2 := 13) rfl ?_
  refine kg_icmp_ge 83 dX2_ringOf_13 rfl (pc2 := 16) rfl (fun q1 => ?_) (fun q1 => ?_)
  · replace h := (if_pos q1).symm.trans h
    refine kg_sub [3] (lv2 := [(3, .long v3)]) rfl ?_
    cases h
    exact hk
  · replace h := (if_neg q1).symm.trans h
    refine kg_aload_n 1 dX2_ringOf_16 rfl (pc2 := 17) rfl ?_
    refine kg_iload 4 dX2_ringOf_17 rfl (pc2 := 19) rfl ?_
    obtain ⟨r2, r2h, h⟩ := kw_bind_e h
    refine kg_callV (μ := μX2_ringOf) (d := d) rfl mVX4_isOpen [.int v5] [] (gX4_isOpen (E := E) (d := d) 12 kx_4_12 v5 σ r2h) rfl lmRX2_64 (ci := 4) rfl tX_12 eX_12 rfl (Nat.le_of_ble_eq_true rfl) dX2_ringOf_19 rfl (st2 := [.int r2]) rfl (pc2 := 22) rfl ?_
    refine kg_if_eq 77 dX2_ringOf_22 rfl (pc2 := 25) rfl (fun q3 => ?_) (fun q3 => ?_)
    · replace h := (if_pos q3).symm.trans h
      obtain ⟨x4, x4e, h⟩ := kw_let_e h
      refine kg_iinc 4 dX2_ringOf_77 rfl (Nat.le_of_ble_eq_true rfl) x4e (lv2 := [(5, .int x4), (0, .ref 5), (1, .ref 12), (2, .int v2), (3, .long v3)]) rfl (pc2 := 80) rfl ?_
      refine kg_goto 7 dX2_ringOf_80 rfl ?_
      refine kg_sub [1, 2, 3, 4, 0] (lv2 := [(0, .ref 5), (1, .ref 12), (2, .int v2), (3, .long v3), (5, .int x4)]) rfl ?_
      cases h
      exact hk
    · replace h := (if_neg q3).symm.trans h
      refine kg_aload_n 1 dX2_ringOf_25 rfl (pc2 := 26) rfl ?_
      refine kg_getr clX4 rfl 3 (Nat.le_of_ble_eq_true rfl) lfRX2_67 tX_12 eX_12 rfl dX2_ringOf_26 (pc2 := 29) rfl ?_
      refine kg_iload 4 dX2_ringOf_29 rfl (pc2 := 31) rfl ?_
      obtain ⟨q5, h⟩ := kw_chk_e h
      refine kg_iald tX_18 eX_18 q5 (j := v5.toNatClampNeg) rfl dX2_ringOf_31 (pc2 := 32) rfl ?_
      refine kg_iload_n 2 dX2_ringOf_32 rfl (pc2 := 33) rfl ?_
      refine kg_icmp_ne 77 dX2_ringOf_33 rfl (pc2 := 36) rfl (fun q6 => ?_) (fun q6 => ?_)
      · replace h := (if_neg q6).symm.trans h
        obtain ⟨x7, x7e, h⟩ := kw_let_e h
        refine kg_iinc 4 dX2_ringOf_77 rfl (Nat.le_of_ble_eq_true rfl) x7e (lv2 := [(5, .int x7), (0, .ref 5), (1, .ref 12), (2, .int v2), (3, .long v3)]) rfl (pc2 := 80) rfl ?_
        refine kg_goto 7 dX2_ringOf_80 rfl ?_
        refine kg_sub [1, 2, 3, 4, 0] (lv2 := [(0, .ref 5), (1, .ref 12), (2, .int v2), (3, .long v3), (5, .int x7)]) rfl ?_
        cases h
        exact hk
      · replace h := (if_pos q6).symm.trans h
        refine kg_aload_n 1 dX2_ringOf_36 rfl (pc2 := 37) rfl ?_
        refine kg_getr clX4 rfl 5 (Nat.le_of_ble_eq_true rfl) lfRX2_71 tX_12 eX_12 rfl dX2_ringOf_37 (pc2 := 40) rfl ?_
        refine kg_iload 4 dX2_ringOf_40 rfl (pc2 := 42) rfl ?_
        refine kg_iald tX_20 eX_20 q5 (j := v5.toNatClampNeg) rfl dX2_ringOf_42 (pc2 := 43) rfl ?_
        refine kg_i2l dX2_ringOf_43 (pc2 := 44) rfl ?_
        refine kg_aload_n 0 dX2_ringOf_44 rfl (pc2 := 45) rfl ?_
        refine kg_aload_n 1 dX2_ringOf_45 rfl (pc2 := 46) rfl ?_
        refine kg_getr clX4 rfl 4 (Nat.le_of_ble_eq_true rfl) lfRX2_74 tX_12 eX_12 rfl dX2_ringOf_46 (pc2 := 49) rfl ?_
        refine kg_iload 4 dX2_ringOf_49 rfl (pc2 := 51) rfl ?_
        refine kg_iald tX_19 eX_19 q5 (j := v5.toNatClampNeg) rfl dX2_ringOf_51 (pc2 := 52) rfl ?_
        refine kg_iload_n 2 dX2_ringOf_52 rfl (pc2 := 53) rfl ?_
        obtain ⟨r8, r8h, h⟩ := kw_bind_e h
        refine kg_callV (μ := μX2_ringOf) (d := d) rfl mVX2_span [.int (σ.1 19 v5.toNatClampNeg), .int v2] [.long ((σ.1 20 v5.toNatClampNeg).toInt64)] (gX2_span (E := E) (d := d) (σ.1 19 v5.toNatClampNeg) v2 σ r8h) rfl lmRX2_39 (ci := 2) rfl tX_5 eX_5 rfl (Nat.le_of_ble_eq_true rfl) dX2_ringOf_53 rfl (st2 := [.long r8, .long ((σ.1 20 v5.toNatClampNeg).toInt64)]) rfl (pc2 := 56) rfl ?_
        obtain ⟨r9, r9h, h⟩ := kw_bind_e h
        refine kg_callN (μ := μX2_ringOf) (d := d) rfl mSX9_joined [.long ((σ.1 20 v5.toNatClampNeg).toInt64), .long r8] [] (gX9_joined (E := E) (d := d) ((σ.1 20 v5.toNatClampNeg).toInt64) r8 σ r9h) rfl lnRX2_77 rfl (Nat.le_of_ble_eq_true rfl) dX2_ringOf_56 rfl (st2 := [.long r9]) rfl (pc2 := 59) rfl ?_
        refine kg_lstore dX2_ringOf_59 (Nat.le_of_ble_eq_true rfl) rfl (lv2 := [(6, .long r9), (0, .ref 5), (1, .ref 12), (2, .int v2), (3, .long v3), (5, .int v5)]) rfl (pc2 := 61) rfl ?_
        refine kg_lload 0 dX2_ringOf_61 rfl (pc2 := 63) rfl ?_
        refine kg_lload_n 4 dX2_ringOf_63 rfl (pc2 := 64) rfl ?_
        obtain ⟨r10, r10h, h⟩ := kw_bind_e h
        refine kg_callN (μ := μX2_ringOf) (d := d) rfl mSX9_isLess [.long r9, .long v3] [] (gX9_isLess (E := E) (d := d) r9 v3 σ r10h) rfl lnRX2_57 rfl (Nat.le_of_ble_eq_true rfl) dX2_ringOf_64 rfl (st2 := [.int r10]) rfl (pc2 := 67) rfl ?_
        refine kg_if_eq 75 dX2_ringOf_67 rfl (pc2 := 70) rfl (fun q11 => ?_) (fun q11 => ?_)
        · replace h := (if_pos q11).symm.trans h
          refine kg_lload_n 4 dX2_ringOf_75 rfl (pc2 := 76) rfl ?_
          refine kg_lstore_n dX2_ringOf_76 rfl (Nat.le_of_ble_eq_true rfl) rfl (lv2 := [(3, .long v3), (6, .long r9), (0, .ref 5), (1, .ref 12), (2, .int v2), (5, .int v5)]) rfl (pc2 := 77) rfl ?_
          obtain ⟨x12, x12e, h⟩ := kw_let_e h
          refine kg_iinc 5 dX2_ringOf_77 rfl (Nat.le_of_ble_eq_true rfl) x12e (lv2 := [(5, .int x12), (3, .long v3), (6, .long r9), (0, .ref 5), (1, .ref 12), (2, .int v2)]) rfl (pc2 := 80) rfl ?_
          refine kg_goto 7 dX2_ringOf_80 rfl ?_
          refine kg_sub [3, 4, 5, 1, 0] (lv2 := [(0, .ref 5), (1, .ref 12), (2, .int v2), (3, .long v3), (5, .int x12)]) rfl ?_
          cases h
          exact hk
        · replace h := (if_neg q11).symm.trans h
          refine kg_lload 0 dX2_ringOf_70 rfl (pc2 := 72) rfl ?_
          refine kg_goto 76 dX2_ringOf_72 rfl ?_
          refine kg_lstore_n dX2_ringOf_76 rfl (Nat.le_of_ble_eq_true rfl) rfl (lv2 := [(3, .long r9), (6, .long r9), (0, .ref 5), (1, .ref 12), (2, .int v2), (5, .int v5)]) rfl (pc2 := 77) rfl ?_
          obtain ⟨x13, x13e, h⟩ := kw_let_e h
          refine kg_iinc 5 dX2_ringOf_77 rfl (Nat.le_of_ble_eq_true rfl) x13e (lv2 := [(5, .int x13), (3, .long r9), (6, .long r9), (0, .ref 5), (1, .ref 12), (2, .int v2)]) rfl (pc2 := 80) rfl ?_
          refine kg_goto 7 dX2_ringOf_80 rfl ?_
          refine kg_sub [3, 4, 5, 1, 0] (lv2 := [(0, .ref 5), (1, .ref 12), (2, .int v2), (3, .long r9), (5, .int x13)]) rfl ?_
          cases h
          exact hk
set_option maxHeartbeats 4000000 in
set_option maxRecDepth 100000 in
theorem gX2_ringOf {E : kw_E} {d : Nat} (a2 : Int32) (σ : kw_M) {r : Int64} (h : fX2_ringOf a2 σ = some r) : kw_Met E kwTX 47 (d + 1) μX2_ringOf [.ref 5, .ref 12, .int a2] σ (some (Value.long r)) σ := by
  refine kw_enter plRX2 (Nat.le_of_ble_eq_true rfl) ?_
  show kw_G E kwTX 47 (d + 1) μX2_ringOf 0 [(0, .ref 5), (1, .ref 12), (2, .int a2)] [] σ (some (Value.long r)) σ
  unfold fX2_ringOf at h
  refine kg_ldc2 rfl lcRX2_43 dX2_ringOf_0 (pc2 := 3) rfl ?_
  refine kg_lstore_n dX2_ringOf_3 rfl (Nat.le_of_ble_eq_true rfl) rfl (lv2 := [(3, .long (-9000000000000000000 : Int64)), (0, .ref 5), (1, .ref 12), (2, .int a2)]) rfl (pc2 := 4) rfl ?_
  refine kg_iconst dX2_ringOf_4 ki_0 (pc2 := 5) rfl ?_
  refine kg_istore dX2_ringOf_5 (Nat.le_of_ble_eq_true rfl) rfl (lv2 := [(5, .int (0 : Int32)), (3, .long (-9000000000000000000 : Int64)), (0, .ref 5), (1, .ref 12), (2, .int a2)]) rfl (pc2 := 7) rfl ?_
  refine kg_sub [2, 3, 4, 1, 0] (lv2 := [(0, .ref 5), (1, .ref 12), (2, .int a2), (3, .long (-9000000000000000000 : Int64)), (5, .int (0 : Int32))]) rfl ?_
  obtain ⟨x14, x14h, h⟩ := kw_bind_e h
  refine kw_loop_e (P := fun s => kw_G E kwTX 47 (d + 1) μX2_ringOf 7 [(0, .ref 5), (1, .ref 12), (2, .int a2), (3, .long s.1), (5, .int s.2)] [] σ (some (Value.long r)) σ) (K := fun y => kw_G E kwTX 47 (d + 1) μX2_ringOf 83 [(3, .long y)] [] σ (some (Value.long r)) σ) (fun s o h0 hk => lX2_ringOf_7 a2 σ s.1 s.2 h0 hk) kw_F _ _ x14h ?_
  show kw_G E kwTX 47 (d + 1) μX2_ringOf 83 [(3, .long x14)] [] σ (some (Value.long r)) σ
  refine kg_lload_n 0 dX2_ringOf_83 rfl (pc2 := 84) rfl ?_
  cases h
  exact kg_lret dX2_ringOf_84 rfl
set_option maxHeartbeats 4000000 in
set_option maxRecDepth 100000 in
theorem lX7_comesBy_5 {E : kw_E} {d : Nat} (v2 : Int32) (σ : kw_M) (v3 : Int32) (v4 : Int32) {v : Option Value} {σ2 : kw_M} {o : (Int32 × Int32) ⊕ (Int32)} (h : bX7_comesBy_5 v2 σ v3 v4 = some o) (hk : Sum.elim (fun s => kw_G E kwTX 47 d μX7_comesBy 5 [(0, .ref 1), (2, .int v2), (3, .int s.1), (4, .int s.2)] [] σ v σ2) (fun y => kw_G E kwTX 47 d μX7_comesBy 48 [(2, .int v2), (3, .int y)] [] σ v σ2) o) : kw_G E kwTX 47 d μX7_comesBy 5 [(0, .ref 1), (2, .int v2), (3, .int v3), (4, .int v4)] [] σ v σ2 := by
  unfold bX7_comesBy_5 at h
  refine kg_iload 3 dX7_comesBy_5 rfl (pc2 := 7) rfl ?_
  refine kg_bipush dX7_comesBy_7 kb_12 (pc2 := 9) rfl ?_
  refine kg_icmp_ge 48 dX7_comesBy_9 rfl (pc2 := 12) rfl (fun q1 => ?_) (fun q1 => ?_)
  · replace h := (if_pos q1).symm.trans h
    refine kg_sub [1, 2] (lv2 := [(2, .int v2), (3, .int v3)]) rfl ?_
    cases h
    exact hk
  · replace h := (if_neg q1).symm.trans h
    refine kg_iload_n 2 dX7_comesBy_12 rfl (pc2 := 13) rfl ?_
    refine kg_iload_n 1 dX7_comesBy_13 rfl (pc2 := 14) rfl ?_
    refine kg_icmp_eq 48 dX7_comesBy_14 rfl (pc2 := 17) rfl (fun q2 => ?_) (fun q2 => ?_)
    · replace h := (if_pos q2).symm.trans h
      refine kg_sub [1, 2] (lv2 := [(2, .int v2), (3, .int v3)]) rfl ?_
      cases h
      exact hk
    · replace h := (if_neg q2).symm.trans h
      refine kg_aload_n 0 dX7_comesBy_17 rfl (pc2 := 18) rfl ?_
      refine kg_getr clX7 rfl 10 (Nat.le_of_ble_eq_true rfl) lfRX7_40 tX_1 eX_1 rfl dX7_comesBy_18 (pc2 := 21) rfl ?_
      refine kg_iload_n 2 dX7_comesBy_21 rfl (pc2 := 22) rfl ?_
      obtain ⟨q3, h⟩ := kw_chk_e h
      refine kg_iald tX_17 eX_17 q3 (j := v3.toNatClampNeg) rfl dX7_comesBy_22 (pc2 := 23) rfl ?_
      refine kg_iconst dX7_comesBy_23 ki_m1 (pc2 := 24) rfl ?_
      refine kg_icmp_eq 48 dX7_comesBy_24 rfl (pc2 := 27) rfl (fun q4 => ?_) (fun q4 => ?_)
      · replace h := (if_pos q4).symm.trans h
        refine kg_sub [1, 2] (lv2 := [(2, .int v2), (3, .int v3)]) rfl ?_
        cases h
        exact hk
      · replace h := (if_neg q4).symm.trans h
        refine kg_aload_n 0 dX7_comesBy_27 rfl (pc2 := 28) rfl ?_
        refine kg_getr clX7 rfl 0 (Nat.le_of_ble_eq_true rfl) lfRX7_12 tX_1 eX_1 rfl dX7_comesBy_28 (pc2 := 31) rfl ?_
        refine kg_getr clX4 rfl 3 (Nat.le_of_ble_eq_true rfl) lfRX7_136 tX_12 eX_12 rfl dX7_comesBy_31 (pc2 := 34) rfl ?_
        refine kg_aload_n 0 dX7_comesBy_34 rfl (pc2 := 35) rfl ?_
        refine kg_getr clX7 rfl 10 (Nat.le_of_ble_eq_true rfl) lfRX7_40 tX_1 eX_1 rfl dX7_comesBy_35 (pc2 := 38) rfl ?_
        refine kg_iload_n 2 dX7_comesBy_38 rfl (pc2 := 39) rfl ?_
        refine kg_iald tX_17 eX_17 q3 (j := v3.toNatClampNeg) rfl dX7_comesBy_39 (pc2 := 40) rfl ?_
        obtain ⟨q5, h⟩ := kw_chk_e h
        refine kg_iald tX_18 eX_18 q5 (j := (σ.1 17 v3.toNatClampNeg).toNatClampNeg) rfl dX7_comesBy_40 (pc2 := 41) rfl ?_
        obtain ⟨x6, x6e, h⟩ := kw_let_e h
        refine kg_istore_n dX7_comesBy_41 rfl (Nat.le_of_ble_eq_true rfl) x6e (lv2 := [(3, .int x6), (0, .ref 1), (2, .int v2), (4, .int v4)]) rfl (pc2 := 42) rfl ?_
        obtain ⟨x7, x7e, h⟩ := kw_let_e h
        refine kg_iinc 3 dX7_comesBy_42 rfl (Nat.le_of_ble_eq_true rfl) x7e (lv2 := [(4, .int x7), (3, .int x6), (0, .ref 1), (2, .int v2)]) rfl (pc2 := 45) rfl ?_
        refine kg_goto 5 dX7_comesBy_45 rfl ?_
        refine kg_sub [2, 3, 1, 0] (lv2 := [(0, .ref 1), (2, .int v2), (3, .int x6), (4, .int x7)]) rfl ?_
        cases h
        exact hk
set_option maxHeartbeats 4000000 in
set_option maxRecDepth 100000 in
theorem gjX7_comesBy_48 {E : kw_E} {d : Nat} (v2 : Int32) (v3 : Int32) (σ : kw_M) {r : Int32} (h : jX7_comesBy_48 v2 v3 σ = some r) : kw_G E kwTX 47 d μX7_comesBy 48 [(2, .int v2), (3, .int v3)] [] σ (some (Value.int r)) σ := by
  unfold jX7_comesBy_48 at h
  refine kg_iload_n 1 dX7_comesBy_48 rfl (pc2 := 49) rfl ?_
  refine kg_iload_n 0 dX7_comesBy_49 rfl (pc2 := 50) rfl ?_
  refine kg_icmp_ne 57 dX7_comesBy_50 rfl (pc2 := 53) rfl (fun q9 => ?_) (fun q9 => ?_)
  · replace h := (if_neg q9).symm.trans h
    refine kg_iconst dX7_comesBy_57 ki_0 (pc2 := 58) rfl ?_
    cases h
    exact kg_iret (ty := .boolean) dX7_comesBy_58 rfl rfl
  · replace h := (if_pos q9).symm.trans h
    refine kg_iconst dX7_comesBy_53 ki_1 (pc2 := 54) rfl ?_
    refine kg_goto 58 dX7_comesBy_54 rfl ?_
    cases h
    exact kg_iret (ty := .boolean) dX7_comesBy_58 rfl rfl
set_option maxHeartbeats 4000000 in
set_option maxRecDepth 100000 in
theorem gX7_comesBy {E : kw_E} {d : Nat} (a1 : Int32) (a2 : Int32) (σ : kw_M) {r : Int32} (h : fX7_comesBy a1 a2 σ = some r) : kw_Met E kwTX 47 d μX7_comesBy [.ref 1, .int a1, .int a2] σ (some (Value.int r)) σ := by
  refine kw_enter plRX7 (Nat.le_of_ble_eq_true rfl) ?_
  show kw_G E kwTX 47 d μX7_comesBy 0 [(0, .ref 1), (1, .int a1), (2, .int a2)] [] σ (some (Value.int r)) σ
  unfold fX7_comesBy at h
  refine kg_iload_n 1 dX7_comesBy_0 rfl (pc2 := 1) rfl ?_
  refine kg_istore_n dX7_comesBy_1 rfl (Nat.le_of_ble_eq_true rfl) rfl (lv2 := [(3, .int a1), (0, .ref 1), (1, .int a1), (2, .int a2)]) rfl (pc2 := 2) rfl ?_
  refine kg_iconst dX7_comesBy_2 ki_0 (pc2 := 3) rfl ?_
  refine kg_istore dX7_comesBy_3 (Nat.le_of_ble_eq_true rfl) rfl (lv2 := [(4, .int (0 : Int32)), (3, .int a1), (0, .ref 1), (1, .int a1), (2, .int a2)]) rfl (pc2 := 5) rfl ?_
  refine kg_sub [2, 4, 1, 0] (lv2 := [(0, .ref 1), (2, .int a2), (3, .int a1), (4, .int (0 : Int32))]) rfl ?_
  obtain ⟨x8, x8h, h⟩ := kw_bind_e h
  refine kw_loop_e (P := fun s => kw_G E kwTX 47 d μX7_comesBy 5 [(0, .ref 1), (2, .int a2), (3, .int s.1), (4, .int s.2)] [] σ (some (Value.int r)) σ) (K := fun y => kw_G E kwTX 47 d μX7_comesBy 48 [(2, .int a2), (3, .int y)] [] σ (some (Value.int r)) σ) (fun s o h0 hk => lX7_comesBy_5 a2 σ s.1 s.2 h0 hk) kw_F _ _ x8h ?_
  show kw_G E kwTX 47 d μX7_comesBy 48 [(2, .int a2), (3, .int x8)] [] σ (some (Value.int r)) σ
  exact gjX7_comesBy_48 a2 x8 σ h
set_option maxHeartbeats 4000000 in
set_option maxRecDepth 100000 in
theorem lX7_belowCount_4 {E : kw_E} {d : Nat} (v1 : Int32) (σ : kw_M) (v2 : Int32) (v3 : Int32) {v : Option Value} {σ2 : kw_M} {o : (Int32 × Int32) ⊕ (Int32)} (h : bX7_belowCount_4 v1 σ v2 v3 = some o) (hk : Sum.elim (fun s => kw_G E kwTX 47 (d + 1) μX7_belowCount 4 [(0, .ref 1), (1, .int v1), (2, .int s.1), (3, .int s.2)] [] σ v σ2) (fun y => kw_G E kwTX 47 (d + 1) μX7_belowCount 38 [(2, .int y)] [] σ v σ2) o) : kw_G E kwTX 47 (d + 1) μX7_belowCount 4 [(0, .ref 1), (1, .int v1), (2, .int v2), (3, .int v3)] [] σ v σ2 := by
  unfold bX7_belowCount_4 at h
  refine kg_iload_n 3 dX7_belowCount_4 rfl (pc2 := 5) rfl ?_
  refine kg_aload_n 0 dX7_belowCount_5 rfl (pc2 := 6) rfl ?_
  refine kg_getr clX7 rfl 0 (Nat.le_of_ble_eq_true rfl) lfRX7_12 tX_1 eX_1 rfl dX7_belowCount_6 (pc2 := 9) rfl ?_
  refine kg_geti clX4 rfl 0 (Nat.le_of_ble_eq_true rfl) lfRX7_90 tX_12 eX_12 rfl dX7_belowCount_9 (pc2 := 12) rfl ?_
  refine kg_icmp_ge 38 dX7_belowCount_12 rfl (pc2 := 15) rfl (fun q1 => ?_) (fun q1 => ?_)
  · replace h := (if_pos q1).symm.trans h
    refine kg_sub [2] (lv2 := [(2, .int v2)]) rfl ?_
    cases h
    exact hk
  · replace h := (if_neg q1).symm.trans h
    refine kg_iload_n 3 dX7_belowCount_15 rfl (pc2 := 16) rfl ?_
    refine kg_iload_n 1 dX7_belowCount_16 rfl (pc2 := 17) rfl ?_
    refine kg_icmp_eq 32 dX7_belowCount_17 rfl (pc2 := 20) rfl (fun q2 => ?_) (fun q2 => ?_)
    · replace h := (if_pos q2).symm.trans h
      obtain ⟨x3, x3e, h⟩ := kw_let_e h
      refine kg_iinc 3 dX7_belowCount_32 rfl (Nat.le_of_ble_eq_true rfl) x3e (lv2 := [(3, .int x3), (0, .ref 1), (1, .int v1), (2, .int v2)]) rfl (pc2 := 35) rfl ?_
      refine kg_goto 4 dX7_belowCount_35 rfl ?_
      refine kg_sub [1, 2, 3, 0] (lv2 := [(0, .ref 1), (1, .int v1), (2, .int v2), (3, .int x3)]) rfl ?_
      cases h
      exact hk
    · replace h := (if_neg q2).symm.trans h
      refine kg_aload_n 0 dX7_belowCount_20 rfl (pc2 := 21) rfl ?_
      refine kg_iload_n 3 dX7_belowCount_21 rfl (pc2 := 22) rfl ?_
      refine kg_iload_n 1 dX7_belowCount_22 rfl (pc2 := 23) rfl ?_
      obtain ⟨r4, r4h, h⟩ := kw_bind_e h
      refine kg_callV (μ := μX7_belowCount) (d := d) rfl mVX7_comesBy [.int v3, .int v1] [] (gX7_comesBy (E := E) (d := d) v3 v1 σ r4h) rfl lmRX7_145 (ci := 7) rfl tX_1 eX_1 rfl (Nat.le_of_ble_eq_true rfl) dX7_belowCount_23 rfl (st2 := [.int r4]) rfl (pc2 := 26) rfl ?_
      refine kg_if_eq 32 dX7_belowCount_26 rfl (pc2 := 29) rfl (fun q5 => ?_) (fun q5 => ?_)
      · replace h := (if_pos q5).symm.trans h
        obtain ⟨x6, x6e, h⟩ := kw_let_e h
        refine kg_iinc 3 dX7_belowCount_32 rfl (Nat.le_of_ble_eq_true rfl) x6e (lv2 := [(3, .int x6), (0, .ref 1), (1, .int v1), (2, .int v2)]) rfl (pc2 := 35) rfl ?_
        refine kg_goto 4 dX7_belowCount_35 rfl ?_
        refine kg_sub [1, 2, 3, 0] (lv2 := [(0, .ref 1), (1, .int v1), (2, .int v2), (3, .int x6)]) rfl ?_
        cases h
        exact hk
      · replace h := (if_neg q5).symm.trans h
        obtain ⟨x7, x7e, h⟩ := kw_let_e h
        refine kg_iinc 2 dX7_belowCount_29 rfl (Nat.le_of_ble_eq_true rfl) x7e (lv2 := [(2, .int x7), (0, .ref 1), (1, .int v1), (3, .int v3)]) rfl (pc2 := 32) rfl ?_
        obtain ⟨x8, x8e, h⟩ := kw_let_e h
        refine kg_iinc 3 dX7_belowCount_32 rfl (Nat.le_of_ble_eq_true rfl) x8e (lv2 := [(3, .int x8), (2, .int x7), (0, .ref 1), (1, .int v1)]) rfl (pc2 := 35) rfl ?_
        refine kg_goto 4 dX7_belowCount_35 rfl ?_
        refine kg_sub [2, 3, 1, 0] (lv2 := [(0, .ref 1), (1, .int v1), (2, .int x7), (3, .int x8)]) rfl ?_
        cases h
        exact hk
set_option maxHeartbeats 4000000 in
set_option maxRecDepth 100000 in
theorem gX7_belowCount {E : kw_E} {d : Nat} (a1 : Int32) (σ : kw_M) {r : Int32} (h : fX7_belowCount a1 σ = some r) : kw_Met E kwTX 47 (d + 1) μX7_belowCount [.ref 1, .int a1] σ (some (Value.int r)) σ := by
  refine kw_enter plRX7 (Nat.le_of_ble_eq_true rfl) ?_
  show kw_G E kwTX 47 (d + 1) μX7_belowCount 0 [(0, .ref 1), (1, .int a1)] [] σ (some (Value.int r)) σ
  unfold fX7_belowCount at h
  refine kg_iconst dX7_belowCount_0 ki_0 (pc2 := 1) rfl ?_
  refine kg_istore_n dX7_belowCount_1 rfl (Nat.le_of_ble_eq_true rfl) rfl (lv2 := [(2, .int (0 : Int32)), (0, .ref 1), (1, .int a1)]) rfl (pc2 := 2) rfl ?_
  refine kg_iconst dX7_belowCount_2 ki_0 (pc2 := 3) rfl ?_
  refine kg_istore_n dX7_belowCount_3 rfl (Nat.le_of_ble_eq_true rfl) rfl (lv2 := [(3, .int (0 : Int32)), (2, .int (0 : Int32)), (0, .ref 1), (1, .int a1)]) rfl (pc2 := 4) rfl ?_
  refine kg_sub [2, 3, 1, 0] (lv2 := [(0, .ref 1), (1, .int a1), (2, .int (0 : Int32)), (3, .int (0 : Int32))]) rfl ?_
  obtain ⟨x9, x9h, h⟩ := kw_bind_e h
  refine kw_loop_e (P := fun s => kw_G E kwTX 47 (d + 1) μX7_belowCount 4 [(0, .ref 1), (1, .int a1), (2, .int s.1), (3, .int s.2)] [] σ (some (Value.int r)) σ) (K := fun y => kw_G E kwTX 47 (d + 1) μX7_belowCount 38 [(2, .int y)] [] σ (some (Value.int r)) σ) (fun s o h0 hk => lX7_belowCount_4 a1 σ s.1 s.2 h0 hk) kw_F _ _ x9h ?_
  show kw_G E kwTX 47 (d + 1) μX7_belowCount 38 [(2, .int x9)] [] σ (some (Value.int r)) σ
  refine kg_iload_n 0 dX7_belowCount_38 rfl (pc2 := 39) rfl ?_
  cases h
  exact kg_iret (ty := .int) dX7_belowCount_39 rfl rfl
set_option maxHeartbeats 4000000 in
set_option maxRecDepth 100000 in
theorem lX2_groupOf_2 {E : kw_E} {d : Nat} (v1 : Int32) (σ : kw_M) (v2 : Int32) {v : Option Value} {σ2 : kw_M} {o : (Int32) ⊕ ((Int32) ⊕ (Unit))} (h : bX2_groupOf_2 v1 σ v2 = some o) (hk : Sum.elim (fun s => kw_G E kwTX 47 (d + 2) μX2_groupOf 2 [(0, .ref 5), (1, .int v1), (2, .int s)] [] σ v σ2) (Sum.elim (fun rr => v = some (Value.int rr) ∧ σ2 = σ) (fun y => kw_G E kwTX 47 (d + 2) μX2_groupOf 33 [(1, .int v1)] [] σ v σ2)) o) : kw_G E kwTX 47 (d + 2) μX2_groupOf 2 [(0, .ref 5), (1, .int v1), (2, .int v2)] [] σ v σ2 := by
  unfold bX2_groupOf_2 at h
  refine kg_iload_n 2 dX2_groupOf_2 rfl (pc2 := 3) rfl ?_
  refine kg_iload_n 1 dX2_groupOf_3 rfl (pc2 := 4) rfl ?_
  refine kg_icmp_ge 33 dX2_groupOf_4 rfl (pc2 := 7) rfl (fun q1 => ?_) (fun q1 => ?_)
  · replace h := (if_pos q1).symm.trans h
    refine kg_sub [1] (lv2 := [(1, .int v1)]) rfl ?_
    cases h
    exact hk
  · replace h := (if_neg q1).symm.trans h
    refine kg_aload_n 0 dX2_groupOf_7 rfl (pc2 := 8) rfl ?_
    refine kg_iload_n 2 dX2_groupOf_8 rfl (pc2 := 9) rfl ?_
    refine kg_iload_n 1 dX2_groupOf_9 rfl (pc2 := 10) rfl ?_
    obtain ⟨r2, r2h, h⟩ := kw_bind_e h
    refine kg_callV (μ := μX2_groupOf) (d := (d + 1)) rfl mVX2_comesTo [.int v2, .int v1] [] (gX2_comesTo (E := E) (d := d) v2 v1 σ r2h) rfl lmRX2_45 (ci := 2) rfl tX_5 eX_5 rfl (Nat.le_of_ble_eq_true rfl) dX2_groupOf_10 rfl (st2 := [.int r2]) rfl (pc2 := 13) rfl ?_
    refine kg_if_eq 27 dX2_groupOf_13 rfl (pc2 := 16) rfl (fun q3 => ?_) (fun q3 => ?_)
    · replace h := (if_pos q3).symm.trans h
      obtain ⟨x4, x4e, h⟩ := kw_let_e h
      refine kg_iinc 2 dX2_groupOf_27 rfl (Nat.le_of_ble_eq_true rfl) x4e (lv2 := [(2, .int x4), (0, .ref 5), (1, .int v1)]) rfl (pc2 := 30) rfl ?_
      refine kg_goto 2 dX2_groupOf_30 rfl ?_
      refine kg_sub [1, 2, 0] (lv2 := [(0, .ref 5), (1, .int v1), (2, .int x4)]) rfl ?_
      cases h
      exact hk
    · replace h := (if_neg q3).symm.trans h
      refine kg_aload_n 0 dX2_groupOf_16 rfl (pc2 := 17) rfl ?_
      refine kg_iload_n 1 dX2_groupOf_17 rfl (pc2 := 18) rfl ?_
      refine kg_iload_n 2 dX2_groupOf_18 rfl (pc2 := 19) rfl ?_
      obtain ⟨r5, r5h, h⟩ := kw_bind_e h
      refine kg_callV (μ := μX2_groupOf) (d := (d + 1)) rfl mVX2_comesTo [.int v1, .int v2] [] (gX2_comesTo (E := E) (d := d) v1 v2 σ r5h) rfl lmRX2_45 (ci := 2) rfl tX_5 eX_5 rfl (Nat.le_of_ble_eq_true rfl) dX2_groupOf_19 rfl (st2 := [.int r5]) rfl (pc2 := 22) rfl ?_
      refine kg_if_eq 27 dX2_groupOf_22 rfl (pc2 := 25) rfl (fun q6 => ?_) (fun q6 => ?_)
      · replace h := (if_pos q6).symm.trans h
        obtain ⟨x7, x7e, h⟩ := kw_let_e h
        refine kg_iinc 2 dX2_groupOf_27 rfl (Nat.le_of_ble_eq_true rfl) x7e (lv2 := [(2, .int x7), (0, .ref 5), (1, .int v1)]) rfl (pc2 := 30) rfl ?_
        refine kg_goto 2 dX2_groupOf_30 rfl ?_
        refine kg_sub [1, 2, 0] (lv2 := [(0, .ref 5), (1, .int v1), (2, .int x7)]) rfl ?_
        cases h
        exact hk
      · replace h := (if_neg q6).symm.trans h
        refine kg_iload_n 2 dX2_groupOf_25 rfl (pc2 := 26) rfl ?_
        cases h
        obtain ⟨rfl, rfl⟩ := hk
        exact kg_iret (ty := .int) dX2_groupOf_26 rfl rfl
set_option maxHeartbeats 4000000 in
set_option maxRecDepth 100000 in
theorem gX2_groupOf {E : kw_E} {d : Nat} (a1 : Int32) (σ : kw_M) {r : Int32} (h : fX2_groupOf a1 σ = some r) : kw_Met E kwTX 47 (d + 2) μX2_groupOf [.ref 5, .int a1] σ (some (Value.int r)) σ := by
  refine kw_enter plRX2 (Nat.le_of_ble_eq_true rfl) ?_
  show kw_G E kwTX 47 (d + 2) μX2_groupOf 0 [(0, .ref 5), (1, .int a1)] [] σ (some (Value.int r)) σ
  unfold fX2_groupOf at h
  refine kg_iconst dX2_groupOf_0 ki_0 (pc2 := 1) rfl ?_
  refine kg_istore_n dX2_groupOf_1 rfl (Nat.le_of_ble_eq_true rfl) rfl (lv2 := [(2, .int (0 : Int32)), (0, .ref 5), (1, .int a1)]) rfl (pc2 := 2) rfl ?_
  refine kg_sub [1, 2, 0] (lv2 := [(0, .ref 5), (1, .int a1), (2, .int (0 : Int32))]) rfl ?_
  obtain ⟨x8, x8h, h⟩ := kw_bind_e h
  refine kw_loop_e (P := fun s => kw_G E kwTX 47 (d + 2) μX2_groupOf 2 [(0, .ref 5), (1, .int a1), (2, .int s)] [] σ (some (Value.int r)) σ) (K := Sum.elim (fun rr => (some (Value.int r)) = some (Value.int rr) ∧ σ = σ) (fun y => kw_G E kwTX 47 (d + 2) μX2_groupOf 33 [(1, .int a1)] [] σ (some (Value.int r)) σ)) (fun s o h0 hk => lX2_groupOf_2 a1 σ s h0 hk) kw_F _ _ x8h ?_
  rcases x8 with x8r | x8
  · replace h := kw_se_l h
    cases h
    exact ⟨rfl, rfl⟩
  · replace h := kw_se_r h
    show kw_G E kwTX 47 (d + 2) μX2_groupOf 33 [(1, .int a1)] [] σ (some (Value.int r)) σ
    refine kg_iload_n 0 dX2_groupOf_33 rfl (pc2 := 34) rfl ?_
    cases h
    exact kg_iret (ty := .int) dX2_groupOf_34 rfl rfl
set_option maxHeartbeats 4000000 in
set_option maxRecDepth 100000 in
theorem gX4_beginRow {E : kw_E} {d : Nat} (a1 : Int32) (σ : kw_M) {r : kw_M} (h : fX4_beginRow a1 σ = some r) : kw_Met E kwTX 47 (d + 1) μX4_beginRow [.ref 12, .int a1, .ref 43] σ none r := by
  refine kw_enter plRX4 (Nat.le_of_ble_eq_true rfl) ?_
  show kw_G E kwTX 47 (d + 1) μX4_beginRow 0 [(0, .ref 12), (1, .int a1), (2, .ref 43)] [] σ none r
  unfold fX4_beginRow at h
  refine kg_aload_n 2 dX4_beginRow_0 rfl (pc2 := 1) rfl ?_
  refine kg_ldc2 rfl lcRX4_38 dX4_beginRow_1 (pc2 := 4) rfl ?_
  obtain ⟨r1, r1h, h⟩ := kw_bind_e h
  refine kg_callS (μ := μX4_beginRow) (d := d) rfl mSJ7_fill_d0a16 [.ref 43, .long (-9000000000000000000 : Int64)] [] (gXJ7_fill_d0a16 (E := E) (d := d) 43 ⟨tX_43, eX_43⟩ (-9000000000000000000 : Int64) σ r1h) rfl lmRX4_40 rfl (Nat.le_of_ble_eq_true rfl) dX4_beginRow_4 rfl (st2 := []) rfl (pc2 := 7) rfl ?_
  refine kg_aload_n 2 dX4_beginRow_7 rfl (pc2 := 8) rfl ?_
  refine kg_iload_n 1 dX4_beginRow_8 rfl (pc2 := 9) rfl ?_
  refine kg_lconst dX4_beginRow_9 kl_0 (pc2 := 10) rfl ?_
  obtain ⟨q2, h⟩ := kw_chk_e h
  obtain ⟨s3, s3e, h⟩ := kw_let_e h
  refine kg_last tX_43 eX_43 q2 (j := a1.toNatClampNeg) rfl s3e dX4_beginRow_10 (pc2 := 11) rfl ?_
  cases h
  exact kg_vret dX4_beginRow_11 rfl
set_option maxHeartbeats 4000000 in
set_option maxRecDepth 100000 in
theorem gX4_lower {E : kw_E} {d : Nat} (c0 : Nat) (hc0 : kx_a 1 12 c0) (a1 : Int32) (a2 : Int64) (σ : kw_M) {r : Int32 × kw_M} (h : fX4_lower c0 a1 a2 σ = some r) : kw_Met E kwTX 47 (d + 1) μX4_lower [.ref c0, .int a1, .long a2] σ (some (Value.int r.1)) r.2 := by
  refine kw_enter plRX4 (Nat.le_of_ble_eq_true rfl) ?_
  show kw_G E kwTX 47 (d + 1) μX4_lower 0 [(0, .ref c0), (1, .int a1), (2, .long a2)] [] σ (some (Value.int r.1)) r.2
  unfold fX4_lower at h
  refine kg_lload_n 2 dX4_lower_0 rfl (pc2 := 1) rfl ?_
  refine kg_aload_n 0 dX4_lower_1 rfl (pc2 := 2) rfl ?_
  refine kg_iload_n 1 dX4_lower_2 rfl (pc2 := 3) rfl ?_
  obtain ⟨q1, h⟩ := kw_chk_e h
  refine kg_lald hc0.1 hc0.2 q1 (j := a1.toNatClampNeg) rfl dX4_lower_3 (pc2 := 4) rfl ?_
  obtain ⟨r2, r2h, h⟩ := kw_bind_e h
  refine kg_callN (μ := μX4_lower) (d := d) rfl mSX9_isLess [.long a2, .long (σ.2 c0 a1.toNatClampNeg)] [] (gX9_isLess (E := E) (d := d) a2 (σ.2 c0 a1.toNatClampNeg) σ r2h) rfl lnRX4_58 rfl (Nat.le_of_ble_eq_true rfl) dX4_lower_4 rfl (st2 := [.int r2]) rfl (pc2 := 7) rfl ?_
  refine kg_if_ne 12 dX4_lower_7 rfl (pc2 := 10) rfl (fun q3 => ?_) (fun q3 => ?_)
  · replace h := (if_neg q3).symm.trans h
    refine kg_aload_n 0 dX4_lower_12 rfl (pc2 := 13) rfl ?_
    refine kg_iload_n 1 dX4_lower_13 rfl (pc2 := 14) rfl ?_
    refine kg_lload_n 2 dX4_lower_14 rfl (pc2 := 15) rfl ?_
    obtain ⟨s4, s4e, h⟩ := kw_let_e h
    refine kg_last hc0.1 hc0.2 q1 (j := a1.toNatClampNeg) rfl s4e dX4_lower_15 (pc2 := 16) rfl ?_
    refine kg_iconst dX4_lower_16 ki_1 (pc2 := 17) rfl ?_
    cases h
    exact kg_iret (ty := .boolean) dX4_lower_17 rfl rfl
  · replace h := (if_pos q3).symm.trans h
    refine kg_iconst dX4_lower_10 ki_0 (pc2 := 11) rfl ?_
    cases h
    exact kg_iret (ty := .boolean) dX4_lower_11 rfl rfl
set_option maxHeartbeats 4000000 in
set_option maxRecDepth 100000 in
theorem lX6_narrowest_55 {E : kw_E} {d : Nat} (v2 : Int32) (v5 : Int32) (v4 : Int32) (v6 : Int32) (σ : kw_M) {v : Option Value} {σ2 : kw_M} {o : (Int32 × Int32 × kw_M) ⊕ (Int32 × kw_M)} (h : bX6_narrowest_55 v2 v5 v4 v6 σ = some o) (hk : Sum.elim (fun s => kw_G E kwTX 47 (d + 2) μX6_narrowest 55 [(0, .ref 6), (1, .ref 1), (2, .int v2), (3, .ref 12), (4, .int s.1), (5, .int v5), (6, .int s.2.1)] [] s.2.2 v σ2) (fun y => kw_G E kwTX 47 (d + 2) μX6_narrowest 134 [(0, .ref 6), (1, .ref 1), (2, .int v2), (3, .ref 12), (4, .int y.1), (5, .int v5)] [] y.2 v σ2) o) : kw_G E kwTX 47 (d + 2) μX6_narrowest 55 [(0, .ref 6), (1, .ref 1), (2, .int v2), (3, .ref 12), (4, .int v4), (5, .int v5), (6, .int v6)] [] σ v σ2 := by
  unfold bX6_narrowest_55 at h
  refine kg_iload 6 dX6_narrowest_55 rfl (pc2 := 57) rfl ?_
  refine kg_aload_n 3 dX6_narrowest_57 rfl (pc2 := 58) rfl ?_
  refine kg_geti clX4 rfl 1 (Nat.le_of_ble_eq_true rfl) lfRX6_58 tX_12 eX_12 rfl dX6_narrowest_58 (pc2 := 61) rfl ?_
  refine kg_icmp_ge 134 dX6_narrowest_61 rfl (pc2 := 64) rfl (fun q6 => ?_) (fun q6 => ?_)
  · replace h := (if_pos q6).symm.trans h
    refine kg_sub [0, 1, 2, 3, 4, 5] (lv2 := [(0, .ref 6), (1, .ref 1), (2, .int v2), (3, .ref 12), (4, .int v4), (5, .int v5)]) rfl ?_
    cases h
    exact hk
  · replace h := (if_neg q6).symm.trans h
    refine kg_aload_n 0 dX6_narrowest_64 rfl (pc2 := 65) rfl ?_
    refine kg_getr clX6 rfl 4 (Nat.le_of_ble_eq_true rfl) lfRX6_19 tX_6 eX_6 rfl dX6_narrowest_65 (pc2 := 68) rfl ?_
    refine kg_aload_n 3 dX6_narrowest_68 rfl (pc2 := 69) rfl ?_
    refine kg_getr clX4 rfl 3 (Nat.le_of_ble_eq_true rfl) lfRX6_34 tX_12 eX_12 rfl dX6_narrowest_69 (pc2 := 72) rfl ?_
    refine kg_iload 6 dX6_narrowest_72 rfl (pc2 := 74) rfl ?_
    obtain ⟨q7, h⟩ := kw_chk_e h
    refine kg_iald tX_18 eX_18 q7 (j := v6.toNatClampNeg) rfl dX6_narrowest_74 (pc2 := 75) rfl ?_
    obtain ⟨q8, h⟩ := kw_chk_e h
    refine kg_lald tX_43 eX_43 q8 (j := (σ.1 18 v6.toNatClampNeg).toNatClampNeg) rfl dX6_narrowest_75 (pc2 := 76) rfl ?_
    obtain ⟨x9, x9e, h⟩ := kw_let_e h
    refine kg_lstore dX6_narrowest_76 (Nat.le_of_ble_eq_true rfl) x9e (lv2 := [(7, .long x9), (0, .ref 6), (1, .ref 1), (2, .int v2), (3, .ref 12), (4, .int v4), (5, .int v5), (6, .int v6)]) rfl (pc2 := 78) rfl ?_
    refine kg_aload_n 4 dX6_narrowest_78 rfl (pc2 := 79) rfl ?_
    refine kg_iload 7 dX6_narrowest_79 rfl (pc2 := 81) rfl ?_
    obtain ⟨r10, r10h, h⟩ := kw_bind_e h
    refine kg_callV (μ := μX6_narrowest) (d := (d + 1)) rfl mVX4_isOpen [.int v6] [] (gX4_isOpen (E := E) (d := (d + 1)) 12 kx_4_12 v6 σ r10h) rfl lmRX6_90 (ci := 4) rfl tX_12 eX_12 rfl (Nat.le_of_ble_eq_true rfl) dX6_narrowest_81 rfl (st2 := [.int r10]) rfl (pc2 := 84) rfl ?_
    refine kg_if_eq 128 dX6_narrowest_84 rfl (pc2 := 87) rfl (fun q11 => ?_) (fun q11 => ?_)
    · replace h := (if_pos q11).symm.trans h
      obtain ⟨x12, x12e, h⟩ := kw_let_e h
      refine kg_iinc 7 dX6_narrowest_128 rfl (Nat.le_of_ble_eq_true rfl) x12e (lv2 := [(6, .int x12), (7, .long x9), (0, .ref 6), (1, .ref 1), (2, .int v2), (3, .ref 12), (4, .int v4), (5, .int v5)]) rfl (pc2 := 131) rfl ?_
      refine kg_goto 55 dX6_narrowest_131 rfl ?_
      refine kg_sub [2, 3, 4, 5, 6, 7, 0] (lv2 := [(0, .ref 6), (1, .ref 1), (2, .int v2), (3, .ref 12), (4, .int v4), (5, .int v5), (6, .int x12)]) rfl ?_
      cases h
      exact hk
    · replace h := (if_neg q11).symm.trans h
      refine kg_lload 0 dX6_narrowest_87 rfl (pc2 := 89) rfl ?_
      refine kg_ldc2 rfl lcRX6_115 dX6_narrowest_89 (pc2 := 92) rfl ?_
      refine kg_lcmp_eq 128 dX6_narrowest_92 dX6_narrowest_93 rfl (pc2 := 96) rfl (fun q13 => ?_) (fun q13 => ?_)
      · replace h := (if_pos q13).symm.trans h
        obtain ⟨x14, x14e, h⟩ := kw_let_e h
        refine kg_iinc 7 dX6_narrowest_128 rfl (Nat.le_of_ble_eq_true rfl) x14e (lv2 := [(6, .int x14), (7, .long x9), (0, .ref 6), (1, .ref 1), (2, .int v2), (3, .ref 12), (4, .int v4), (5, .int v5)]) rfl (pc2 := 131) rfl ?_
        refine kg_goto 55 dX6_narrowest_131 rfl ?_
        refine kg_sub [2, 3, 4, 5, 6, 7, 0] (lv2 := [(0, .ref 6), (1, .ref 1), (2, .int v2), (3, .ref 12), (4, .int v4), (5, .int v5), (6, .int x14)]) rfl ?_
        cases h
        exact hk
      · replace h := (if_neg q13).symm.trans h
        refine kg_iload 5 dX6_narrowest_96 rfl (pc2 := 98) rfl ?_
        refine kg_aload_n 1 dX6_narrowest_98 rfl (pc2 := 99) rfl ?_
        refine kg_getr clX6 rfl 4 (Nat.le_of_ble_eq_true rfl) lfRX6_19 tX_6 eX_6 rfl dX6_narrowest_99 (pc2 := 102) rfl ?_
        refine kg_aload_n 4 dX6_narrowest_102 rfl (pc2 := 103) rfl ?_
        refine kg_getr clX4 rfl 4 (Nat.le_of_ble_eq_true rfl) lfRX6_65 tX_12 eX_12 rfl dX6_narrowest_103 (pc2 := 106) rfl ?_
        refine kg_iload 7 dX6_narrowest_106 rfl (pc2 := 108) rfl ?_
        refine kg_iald tX_19 eX_19 q7 (j := v6.toNatClampNeg) rfl dX6_narrowest_108 (pc2 := 109) rfl ?_
        refine kg_lload 0 dX6_narrowest_109 rfl (pc2 := 111) rfl ?_
        refine kg_aload_n 4 dX6_narrowest_111 rfl (pc2 := 112) rfl ?_
        refine kg_getr clX4 rfl 5 (Nat.le_of_ble_eq_true rfl) lfRX6_93 tX_12 eX_12 rfl dX6_narrowest_112 (pc2 := 115) rfl ?_
        refine kg_iload 7 dX6_narrowest_115 rfl (pc2 := 117) rfl ?_
        refine kg_iald tX_20 eX_20 q7 (j := v6.toNatClampNeg) rfl dX6_narrowest_117 (pc2 := 118) rfl ?_
        refine kg_i2l dX6_narrowest_118 (pc2 := 119) rfl ?_
        obtain ⟨x15, x15e, h⟩ := kw_let_e h
        refine kg_mmax_long (μ := μX6_narrowest) (d := (d + 1)) rfl rfl mmRX6_117 (Nat.le_of_ble_eq_true rfl) x15e dX6_narrowest_119 (pc2 := 122) rfl ?_
        obtain ⟨r16, r16h, h⟩ := kw_bind_e h
        refine kg_callS (μ := μX6_narrowest) (d := (d + 1)) rfl mSX4_lower [.ref 43, .int (σ.1 19 v6.toNatClampNeg), .long x15] [.int v4] (gX4_lower (E := E) (d := d) 43 ⟨tX_43, eX_43⟩ (σ.1 19 v6.toNatClampNeg) x15 σ r16h) rfl lmRX6_109 rfl (Nat.le_of_ble_eq_true rfl) dX6_narrowest_122 rfl (st2 := [.int r16.1, .int v4]) rfl (pc2 := 125) rfl ?_
        refine kg_ior dX6_narrowest_125 (pc2 := 126) rfl ?_
        obtain ⟨x17, x17e, h⟩ := kw_let_e h
        refine kg_istore dX6_narrowest_126 (Nat.le_of_ble_eq_true rfl) x17e (lv2 := [(4, .int x17), (7, .long x9), (0, .ref 6), (1, .ref 1), (2, .int v2), (3, .ref 12), (5, .int v5), (6, .int v6)]) rfl (pc2 := 128) rfl ?_
        obtain ⟨x18, x18e, h⟩ := kw_let_e h
        refine kg_iinc 7 dX6_narrowest_128 rfl (Nat.le_of_ble_eq_true rfl) x18e (lv2 := [(6, .int x18), (4, .int x17), (7, .long x9), (0, .ref 6), (1, .ref 1), (2, .int v2), (3, .ref 12), (5, .int v5)]) rfl (pc2 := 131) rfl ?_
        refine kg_goto 55 dX6_narrowest_131 rfl ?_
        refine kg_sub [3, 4, 5, 6, 1, 7, 0] (lv2 := [(0, .ref 6), (1, .ref 1), (2, .int v2), (3, .ref 12), (4, .int x17), (5, .int v5), (6, .int x18)]) rfl ?_
        cases h
        exact hk
set_option maxHeartbeats 4000000 in
set_option maxRecDepth 100000 in
theorem lX6_narrowest_35 {E : kw_E} {d : Nat} (v2 : Int32) (v4 : Int32) (v5 : Int32) (σ : kw_M) {v : Option Value} {σ2 : kw_M} {o : (Int32 × Int32 × kw_M) ⊕ (kw_M)} (h : bX6_narrowest_35 v2 v4 v5 σ = some o) (hk : Sum.elim (fun s => kw_G E kwTX 47 (d + 2) μX6_narrowest 35 [(0, .ref 6), (1, .ref 1), (2, .int v2), (3, .ref 12), (4, .int s.1), (5, .int s.2.1)] [] s.2.2 v σ2) (fun y => kw_G E kwTX 47 (d + 2) μX6_narrowest 140 [(0, .ref 6), (1, .ref 1), (2, .int v2)] [] y v σ2) o) : kw_G E kwTX 47 (d + 2) μX6_narrowest 35 [(0, .ref 6), (1, .ref 1), (2, .int v2), (3, .ref 12), (4, .int v4), (5, .int v5)] [] σ v σ2 := by
  unfold bX6_narrowest_35 at h
  refine kg_iload 5 dX6_narrowest_35 rfl (pc2 := 37) rfl ?_
  refine kg_aload_n 3 dX6_narrowest_37 rfl (pc2 := 38) rfl ?_
  refine kg_geti clX4 rfl 0 (Nat.le_of_ble_eq_true rfl) lfRX6_55 tX_12 eX_12 rfl dX6_narrowest_38 (pc2 := 41) rfl ?_
  refine kg_icmp_ge 140 dX6_narrowest_41 rfl (pc2 := 44) rfl (fun q4 => ?_) (fun q4 => ?_)
  · replace h := (if_pos q4).symm.trans h
    refine kg_sub [0, 1, 2] (lv2 := [(0, .ref 6), (1, .ref 1), (2, .int v2)]) rfl ?_
    cases h
    exact hk
  · replace h := (if_neg q4).symm.trans h
    refine kg_iload 4 dX6_narrowest_44 rfl (pc2 := 46) rfl ?_
    refine kg_if_eq 140 dX6_narrowest_46 rfl (pc2 := 49) rfl (fun q5 => ?_) (fun q5 => ?_)
    · replace h := (if_pos q5).symm.trans h
      refine kg_sub [0, 1, 2] (lv2 := [(0, .ref 6), (1, .ref 1), (2, .int v2)]) rfl ?_
      cases h
      exact hk
    · replace h := (if_neg q5).symm.trans h
      refine kg_iconst dX6_narrowest_49 ki_0 (pc2 := 50) rfl ?_
      refine kg_istore dX6_narrowest_50 (Nat.le_of_ble_eq_true rfl) rfl (lv2 := [(4, .int (0 : Int32)), (0, .ref 6), (1, .ref 1), (2, .int v2), (3, .ref 12), (5, .int v5)]) rfl (pc2 := 52) rfl ?_
      refine kg_iconst dX6_narrowest_52 ki_0 (pc2 := 53) rfl ?_
      refine kg_istore dX6_narrowest_53 (Nat.le_of_ble_eq_true rfl) rfl (lv2 := [(6, .int (0 : Int32)), (4, .int (0 : Int32)), (0, .ref 6), (1, .ref 1), (2, .int v2), (3, .ref 12), (5, .int v5)]) rfl (pc2 := 55) rfl ?_
      refine kg_sub [2, 3, 4, 5, 1, 6, 0] (lv2 := [(0, .ref 6), (1, .ref 1), (2, .int v2), (3, .ref 12), (4, .int (0 : Int32)), (5, .int v5), (6, .int (0 : Int32))]) rfl ?_
      obtain ⟨x19, x19h, h⟩ := kw_bind_e h
      refine kw_loop_e (P := fun s => kw_G E kwTX 47 (d + 2) μX6_narrowest 55 [(0, .ref 6), (1, .ref 1), (2, .int v2), (3, .ref 12), (4, .int s.1), (5, .int v5), (6, .int s.2.1)] [] s.2.2 v σ2) (K := fun y => kw_G E kwTX 47 (d + 2) μX6_narrowest 134 [(0, .ref 6), (1, .ref 1), (2, .int v2), (3, .ref 12), (4, .int y.1), (5, .int v5)] [] y.2 v σ2) (fun s o h0 hk => lX6_narrowest_55 v2 v5 s.1 s.2.1 s.2.2 h0 hk) kw_F _ _ x19h ?_
      show kw_G E kwTX 47 (d + 2) μX6_narrowest 134 [(0, .ref 6), (1, .ref 1), (2, .int v2), (3, .ref 12), (4, .int x19.1), (5, .int v5)] [] x19.2 v σ2
      obtain ⟨x20, x20e, h⟩ := kw_let_e h
      refine kg_iinc 5 dX6_narrowest_134 rfl (Nat.le_of_ble_eq_true rfl) x20e (lv2 := [(5, .int x20), (0, .ref 6), (1, .ref 1), (2, .int v2), (3, .ref 12), (4, .int x19.1)]) rfl (pc2 := 137) rfl ?_
      refine kg_goto 35 dX6_narrowest_137 rfl ?_
      refine kg_sub [1, 2, 3, 4, 5, 0] (lv2 := [(0, .ref 6), (1, .ref 1), (2, .int v2), (3, .ref 12), (4, .int x19.1), (5, .int x20)]) rfl ?_
      cases h
      exact hk
set_option maxHeartbeats 4000000 in
set_option maxRecDepth 100000 in
theorem gjX6_narrowest_140 {E : kw_E} {d : Nat} (v2 : Int32) (σ : kw_M) {r : Int64 × kw_M} (h : jX6_narrowest_140 v2 σ = some r) : kw_G E kwTX 47 (d + 2) μX6_narrowest 140 [(0, .ref 6), (1, .ref 1), (2, .int v2)] [] σ (some (Value.long r.1)) r.2 := by
  unfold jX6_narrowest_140 at h
  refine kg_iload_n 2 dX6_narrowest_140 rfl (pc2 := 141) rfl ?_
  refine kg_aload_n 1 dX6_narrowest_141 rfl (pc2 := 142) rfl ?_
  refine kg_geti clX7 rfl 2 (Nat.le_of_ble_eq_true rfl) lfRX6_51 tX_1 eX_1 rfl dX6_narrowest_142 (pc2 := 145) rfl ?_
  refine kg_icmp_ne 154 dX6_narrowest_145 rfl (pc2 := 148) rfl (fun q22 => ?_) (fun q22 => ?_)
  · replace h := (if_neg q22).symm.trans h
    refine kg_aload_n 0 dX6_narrowest_154 rfl (pc2 := 155) rfl ?_
    refine kg_getr clX6 rfl 4 (Nat.le_of_ble_eq_true rfl) lfRX6_19 tX_6 eX_6 rfl dX6_narrowest_155 (pc2 := 158) rfl ?_
    refine kg_iload_n 2 dX6_narrowest_158 rfl (pc2 := 159) rfl ?_
    obtain ⟨q23, h⟩ := kw_chk_e h
    refine kg_lald tX_43 eX_43 q23 (j := v2.toNatClampNeg) rfl dX6_narrowest_159 (pc2 := 160) rfl ?_
    cases h
    exact kg_lret dX6_narrowest_160 rfl
  · replace h := (if_pos q22).symm.trans h
    refine kg_ldc2 rfl lcRX6_115 dX6_narrowest_148 (pc2 := 151) rfl ?_
    refine kg_goto 160 dX6_narrowest_151 rfl ?_
    cases h
    exact kg_lret dX6_narrowest_160 rfl
set_option maxHeartbeats 4000000 in
set_option maxRecDepth 100000 in
theorem gX6_narrowest {E : kw_E} {d : Nat} (a2 : Int32) (σ : kw_M) {r : Int64 × kw_M} (h : fX6_narrowest a2 σ = some r) : kw_Met E kwTX 47 (d + 2) μX6_narrowest [.ref 6, .ref 1, .int a2] σ (some (Value.long r.1)) r.2 := by
  refine kw_enter plRX6 (Nat.le_of_ble_eq_true rfl) ?_
  show kw_G E kwTX 47 (d + 2) μX6_narrowest 0 [(0, .ref 6), (1, .ref 1), (2, .int a2)] [] σ (some (Value.long r.1)) r.2
  unfold fX6_narrowest at h
  refine kg_aload_n 1 dX6_narrowest_0 rfl (pc2 := 1) rfl ?_
  refine kg_getr clX7 rfl 0 (Nat.le_of_ble_eq_true rfl) lfRX6_30 tX_1 eX_1 rfl dX6_narrowest_1 (pc2 := 4) rfl ?_
  refine kg_astore_n dX6_narrowest_4 rfl (Nat.le_of_ble_eq_true rfl) rfl (lv2 := [(3, .ref 12), (0, .ref 6), (1, .ref 1), (2, .int a2)]) rfl (pc2 := 5) rfl ?_
  refine kg_aload_n 0 dX6_narrowest_5 rfl (pc2 := 6) rfl ?_
  refine kg_aload_n 2 dX6_narrowest_6 rfl (pc2 := 7) rfl ?_
  refine kg_geti clX7 rfl 2 (Nat.le_of_ble_eq_true rfl) lfRX6_51 tX_1 eX_1 rfl dX6_narrowest_7 (pc2 := 10) rfl ?_
  refine kg_aload_n 1 dX6_narrowest_10 rfl (pc2 := 11) rfl ?_
  refine kg_getr clX6 rfl 4 (Nat.le_of_ble_eq_true rfl) lfRX6_19 tX_6 eX_6 rfl dX6_narrowest_11 (pc2 := 14) rfl ?_
  obtain ⟨r1, r1h, h⟩ := kw_bind_e h
  refine kg_callV (μ := μX6_narrowest) (d := (d + 1)) rfl mVX4_beginRow [.int (σ.1 1 2), .ref 43] [] (gX4_beginRow (E := E) (d := d) (σ.1 1 2) σ r1h) rfl lmRX6_79 (ci := 4) rfl tX_12 eX_12 rfl (Nat.le_of_ble_eq_true rfl) dX6_narrowest_14 rfl (st2 := []) rfl (pc2 := 17) rfl ?_
  refine kg_aload_n 1 dX6_narrowest_17 rfl (pc2 := 18) rfl ?_
  refine kg_getr clX6 rfl 4 (Nat.le_of_ble_eq_true rfl) lfRX6_19 tX_6 eX_6 rfl dX6_narrowest_18 (pc2 := 21) rfl ?_
  refine kg_aload_n 2 dX6_narrowest_21 rfl (pc2 := 22) rfl ?_
  refine kg_geti clX7 rfl 2 (Nat.le_of_ble_eq_true rfl) lfRX6_51 tX_1 eX_1 rfl dX6_narrowest_22 (pc2 := 25) rfl ?_
  refine kg_ldc2 rfl lcRX6_113 dX6_narrowest_25 (pc2 := 28) rfl ?_
  obtain ⟨q2, h⟩ := kw_chk_e h
  obtain ⟨s3, s3e, h⟩ := kw_let_e h
  refine kg_last tX_43 eX_43 q2 (j := (r1.1 1 2).toNatClampNeg) rfl s3e dX6_narrowest_28 (pc2 := 29) rfl ?_
  refine kg_iconst dX6_narrowest_29 ki_1 (pc2 := 30) rfl ?_
  refine kg_istore dX6_narrowest_30 (Nat.le_of_ble_eq_true rfl) rfl (lv2 := [(4, .int (1 : Int32)), (3, .ref 12), (0, .ref 6), (1, .ref 1), (2, .int a2)]) rfl (pc2 := 32) rfl ?_
  refine kg_iconst dX6_narrowest_32 ki_0 (pc2 := 33) rfl ?_
  refine kg_istore dX6_narrowest_33 (Nat.le_of_ble_eq_true rfl) rfl (lv2 := [(5, .int (0 : Int32)), (4, .int (1 : Int32)), (3, .ref 12), (0, .ref 6), (1, .ref 1), (2, .int a2)]) rfl (pc2 := 35) rfl ?_
  refine kg_sub [3, 4, 5, 2, 1, 0] (lv2 := [(0, .ref 6), (1, .ref 1), (2, .int a2), (3, .ref 12), (4, .int (1 : Int32)), (5, .int (0 : Int32))]) rfl ?_
  obtain ⟨x21, x21h, h⟩ := kw_bind_e h
  refine kw_loop_e (P := fun s => kw_G E kwTX 47 (d + 2) μX6_narrowest 35 [(0, .ref 6), (1, .ref 1), (2, .int a2), (3, .ref 12), (4, .int s.1), (5, .int s.2.1)] [] s.2.2 (some (Value.long r.1)) r.2) (K := fun y => kw_G E kwTX 47 (d + 2) μX6_narrowest 140 [(0, .ref 6), (1, .ref 1), (2, .int a2)] [] y (some (Value.long r.1)) r.2) (fun s o h0 hk => lX6_narrowest_35 a2 s.1 s.2.1 s.2.2 h0 hk) kw_F _ _ x21h ?_
  show kw_G E kwTX 47 (d + 2) μX6_narrowest 140 [(0, .ref 6), (1, .ref 1), (2, .int a2)] [] x21 (some (Value.long r.1)) r.2
  exact gjX6_narrowest_140 a2 x21 h
set_option maxHeartbeats 4000000 in
set_option maxRecDepth 100000 in
theorem lX6_stepApart_6 {E : kw_E} {d : Nat} (v2 : Int64) (v4 : Int32) (v5 : Int32) (σ : kw_M) {v : Option Value} {σ2 : kw_M} {o : (Int32 × Int32 × kw_M) ⊕ (Int32 × kw_M)} (h : bX6_stepApart_6 v2 v4 v5 σ = some o) (hk : Sum.elim (fun s => kw_G E kwTX 47 (d + 2) μX6_stepApart 6 [(0, .ref 6), (1, .ref 12), (2, .long v2), (4, .int s.1), (5, .int s.2.1)] [] s.2.2 v σ2) (fun y => kw_G E kwTX 47 (d + 2) μX6_stepApart 132 [(4, .int y.1)] [] y.2 v σ2) o) : kw_G E kwTX 47 (d + 2) μX6_stepApart 6 [(0, .ref 6), (1, .ref 12), (2, .long v2), (4, .int v4), (5, .int v5)] [] σ v σ2 := by
  unfold bX6_stepApart_6 at h
  refine kg_iload 4 dX6_stepApart_6 rfl (pc2 := 8) rfl ?_
  refine kg_aload_n 1 dX6_stepApart_8 rfl (pc2 := 9) rfl ?_
  refine kg_geti clX4 rfl 1 (Nat.le_of_ble_eq_true rfl) lfRX6_58 tX_12 eX_12 rfl dX6_stepApart_9 (pc2 := 12) rfl ?_
  refine kg_icmp_ge 132 dX6_stepApart_12 rfl (pc2 := 15) rfl (fun q1 => ?_) (fun q1 => ?_)
  · replace h := (if_pos q1).symm.trans h
    refine kg_sub [3] (lv2 := [(4, .int v4)]) rfl ?_
    cases h
    exact hk
  · replace h := (if_neg q1).symm.trans h
    refine kg_aload_n 1 dX6_stepApart_15 rfl (pc2 := 16) rfl ?_
    refine kg_iload 4 dX6_stepApart_16 rfl (pc2 := 18) rfl ?_
    obtain ⟨r2, r2h, h⟩ := kw_bind_e h
    refine kg_callV (μ := μX6_stepApart) (d := (d + 1)) rfl mVX4_isOpen [.int v5] [] (gX4_isOpen (E := E) (d := (d + 1)) 12 kx_4_12 v5 σ r2h) rfl lmRX6_90 (ci := 4) rfl tX_12 eX_12 rfl (Nat.le_of_ble_eq_true rfl) dX6_stepApart_18 rfl (st2 := [.int r2]) rfl (pc2 := 21) rfl ?_
    refine kg_if_ne 27 dX6_stepApart_21 rfl (pc2 := 24) rfl (fun q3 => ?_) (fun q3 => ?_)
    · replace h := (if_neg q3).symm.trans h
      refine kg_lload_n 2 dX6_stepApart_27 rfl (pc2 := 28) rfl ?_
      refine kg_iload 4 dX6_stepApart_28 rfl (pc2 := 30) rfl ?_
      refine kg_lshr dX6_stepApart_30 (pc2 := 31) rfl ?_
      refine kg_lconst dX6_stepApart_31 kl_1 (pc2 := 32) rfl ?_
      refine kg_land dX6_stepApart_32 (pc2 := 33) rfl ?_
      refine kg_lconst dX6_stepApart_33 kl_0 (pc2 := 34) rfl ?_
      refine kg_lcmp_eq 84 dX6_stepApart_34 dX6_stepApart_35 rfl (pc2 := 38) rfl (fun q4 => ?_) (fun q4 => ?_)
      · replace h := (if_pos q4).symm.trans h
        refine kg_iload 3 dX6_stepApart_84 rfl (pc2 := 86) rfl ?_
        refine kg_aload_n 0 dX6_stepApart_86 rfl (pc2 := 87) rfl ?_
        refine kg_getr clX6 rfl 4 (Nat.le_of_ble_eq_true rfl) lfRX6_19 tX_6 eX_6 rfl dX6_stepApart_87 (pc2 := 90) rfl ?_
        refine kg_aload_n 1 dX6_stepApart_90 rfl (pc2 := 91) rfl ?_
        refine kg_getr clX4 rfl 4 (Nat.le_of_ble_eq_true rfl) lfRX6_65 tX_12 eX_12 rfl dX6_stepApart_91 (pc2 := 94) rfl ?_
        refine kg_iload 4 dX6_stepApart_94 rfl (pc2 := 96) rfl ?_
        obtain ⟨q5, h⟩ := kw_chk_e h
        refine kg_iald tX_19 eX_19 q5 (j := v5.toNatClampNeg) rfl dX6_stepApart_96 (pc2 := 97) rfl ?_
        refine kg_aload_n 0 dX6_stepApart_97 rfl (pc2 := 98) rfl ?_
        refine kg_getr clX6 rfl 4 (Nat.le_of_ble_eq_true rfl) lfRX6_19 tX_6 eX_6 rfl dX6_stepApart_98 (pc2 := 101) rfl ?_
        refine kg_aload_n 1 dX6_stepApart_101 rfl (pc2 := 102) rfl ?_
        refine kg_getr clX4 rfl 3 (Nat.le_of_ble_eq_true rfl) lfRX6_34 tX_12 eX_12 rfl dX6_stepApart_102 (pc2 := 105) rfl ?_
        refine kg_iload 4 dX6_stepApart_105 rfl (pc2 := 107) rfl ?_
        refine kg_iald tX_18 eX_18 q5 (j := v5.toNatClampNeg) rfl dX6_stepApart_107 (pc2 := 108) rfl ?_
        obtain ⟨q6, h⟩ := kw_chk_e h
        refine kg_lald tX_43 eX_43 q6 (j := (σ.1 18 v5.toNatClampNeg).toNatClampNeg) rfl dX6_stepApart_108 (pc2 := 109) rfl ?_
        refine kg_aload_n 1 dX6_stepApart_109 rfl (pc2 := 110) rfl ?_
        refine kg_getr clX4 rfl 5 (Nat.le_of_ble_eq_true rfl) lfRX6_93 tX_12 eX_12 rfl dX6_stepApart_110 (pc2 := 113) rfl ?_
        refine kg_iload 4 dX6_stepApart_113 rfl (pc2 := 115) rfl ?_
        refine kg_iald tX_20 eX_20 q5 (j := v5.toNatClampNeg) rfl dX6_stepApart_115 (pc2 := 116) rfl ?_
        refine kg_i2l dX6_stepApart_116 (pc2 := 117) rfl ?_
        obtain ⟨r7, r7h, h⟩ := kw_bind_e h
        refine kg_callN (μ := μX6_stepApart) (d := (d + 1)) rfl mSX9_joined [.long (σ.2 43 (σ.1 18 v5.toNatClampNeg).toNatClampNeg), .long ((σ.1 20 v5.toNatClampNeg).toInt64)] [.int (σ.1 19 v5.toNatClampNeg), .ref 43, .int v4] (gX9_joined (E := E) (d := (d + 1)) (σ.2 43 (σ.1 18 v5.toNatClampNeg).toNatClampNeg) ((σ.1 20 v5.toNatClampNeg).toInt64) σ r7h) rfl lnRX6_106 rfl (Nat.le_of_ble_eq_true rfl) dX6_stepApart_117 rfl (st2 := [.long r7, .int (σ.1 19 v5.toNatClampNeg), .ref 43, .int v4]) rfl (pc2 := 120) rfl ?_
        obtain ⟨r8, r8h, h⟩ := kw_bind_e h
        refine kg_callS (μ := μX6_stepApart) (d := (d + 1)) rfl mSX4_lower [.ref 43, .int (σ.1 19 v5.toNatClampNeg), .long r7] [.int v4] (gX4_lower (E := E) (d := d) 43 ⟨tX_43, eX_43⟩ (σ.1 19 v5.toNatClampNeg) r7 σ r8h) rfl lmRX6_109 rfl (Nat.le_of_ble_eq_true rfl) dX6_stepApart_120 rfl (st2 := [.int r8.1, .int v4]) rfl (pc2 := 123) rfl ?_
        refine kg_ior dX6_stepApart_123 (pc2 := 124) rfl ?_
        obtain ⟨x9, x9e, h⟩ := kw_let_e h
        refine kg_istore dX6_stepApart_124 (Nat.le_of_ble_eq_true rfl) x9e (lv2 := [(4, .int x9), (0, .ref 6), (1, .ref 12), (2, .long v2), (5, .int v5)]) rfl (pc2 := 126) rfl ?_
        obtain ⟨x10, x10e, h⟩ := kw_let_e h
        refine kg_iinc 4 dX6_stepApart_126 rfl (Nat.le_of_ble_eq_true rfl) x10e (lv2 := [(5, .int x10), (4, .int x9), (0, .ref 6), (1, .ref 12), (2, .long v2)]) rfl (pc2 := 129) rfl ?_
        refine kg_goto 6 dX6_stepApart_129 rfl ?_
        refine kg_sub [2, 3, 4, 1, 0] (lv2 := [(0, .ref 6), (1, .ref 12), (2, .long v2), (4, .int x9), (5, .int x10)]) rfl ?_
        cases h
        exact hk
      · replace h := (if_neg q4).symm.trans h
        refine kg_iload 3 dX6_stepApart_38 rfl (pc2 := 40) rfl ?_
        refine kg_aload_n 0 dX6_stepApart_40 rfl (pc2 := 41) rfl ?_
        refine kg_getr clX6 rfl 4 (Nat.le_of_ble_eq_true rfl) lfRX6_19 tX_6 eX_6 rfl dX6_stepApart_41 (pc2 := 44) rfl ?_
        refine kg_aload_n 1 dX6_stepApart_44 rfl (pc2 := 45) rfl ?_
        refine kg_getr clX4 rfl 3 (Nat.le_of_ble_eq_true rfl) lfRX6_34 tX_12 eX_12 rfl dX6_stepApart_45 (pc2 := 48) rfl ?_
        refine kg_iload 4 dX6_stepApart_48 rfl (pc2 := 50) rfl ?_
        obtain ⟨q11, h⟩ := kw_chk_e h
        refine kg_iald tX_18 eX_18 q11 (j := v5.toNatClampNeg) rfl dX6_stepApart_50 (pc2 := 51) rfl ?_
        refine kg_aload_n 0 dX6_stepApart_51 rfl (pc2 := 52) rfl ?_
        refine kg_getr clX6 rfl 4 (Nat.le_of_ble_eq_true rfl) lfRX6_19 tX_6 eX_6 rfl dX6_stepApart_52 (pc2 := 55) rfl ?_
        refine kg_aload_n 1 dX6_stepApart_55 rfl (pc2 := 56) rfl ?_
        refine kg_getr clX4 rfl 4 (Nat.le_of_ble_eq_true rfl) lfRX6_65 tX_12 eX_12 rfl dX6_stepApart_56 (pc2 := 59) rfl ?_
        refine kg_iload 4 dX6_stepApart_59 rfl (pc2 := 61) rfl ?_
        refine kg_iald tX_19 eX_19 q11 (j := v5.toNatClampNeg) rfl dX6_stepApart_61 (pc2 := 62) rfl ?_
        obtain ⟨q12, h⟩ := kw_chk_e h
        refine kg_lald tX_43 eX_43 q12 (j := (σ.1 19 v5.toNatClampNeg).toNatClampNeg) rfl dX6_stepApart_62 (pc2 := 63) rfl ?_
        refine kg_aload_n 1 dX6_stepApart_63 rfl (pc2 := 64) rfl ?_
        refine kg_getr clX4 rfl 5 (Nat.le_of_ble_eq_true rfl) lfRX6_93 tX_12 eX_12 rfl dX6_stepApart_64 (pc2 := 67) rfl ?_
        refine kg_iload 4 dX6_stepApart_67 rfl (pc2 := 69) rfl ?_
        refine kg_iald tX_20 eX_20 q11 (j := v5.toNatClampNeg) rfl dX6_stepApart_69 (pc2 := 70) rfl ?_
        refine kg_ineg dX6_stepApart_70 (pc2 := 71) rfl ?_
        refine kg_i2l dX6_stepApart_71 (pc2 := 72) rfl ?_
        obtain ⟨r13, r13h, h⟩ := kw_bind_e h
        refine kg_callN (μ := μX6_stepApart) (d := (d + 1)) rfl mSX9_joined [.long (σ.2 43 (σ.1 19 v5.toNatClampNeg).toNatClampNeg), .long ((-(σ.1 20 v5.toNatClampNeg)).toInt64)] [.int (σ.1 18 v5.toNatClampNeg), .ref 43, .int v4] (gX9_joined (E := E) (d := (d + 1)) (σ.2 43 (σ.1 19 v5.toNatClampNeg).toNatClampNeg) ((-(σ.1 20 v5.toNatClampNeg)).toInt64) σ r13h) rfl lnRX6_106 rfl (Nat.le_of_ble_eq_true rfl) dX6_stepApart_72 rfl (st2 := [.long r13, .int (σ.1 18 v5.toNatClampNeg), .ref 43, .int v4]) rfl (pc2 := 75) rfl ?_
        obtain ⟨r14, r14h, h⟩ := kw_bind_e h
        refine kg_callS (μ := μX6_stepApart) (d := (d + 1)) rfl mSX4_lower [.ref 43, .int (σ.1 18 v5.toNatClampNeg), .long r13] [.int v4] (gX4_lower (E := E) (d := d) 43 ⟨tX_43, eX_43⟩ (σ.1 18 v5.toNatClampNeg) r13 σ r14h) rfl lmRX6_109 rfl (Nat.le_of_ble_eq_true rfl) dX6_stepApart_75 rfl (st2 := [.int r14.1, .int v4]) rfl (pc2 := 78) rfl ?_
        refine kg_ior dX6_stepApart_78 (pc2 := 79) rfl ?_
        obtain ⟨x15, x15e, h⟩ := kw_let_e h
        refine kg_istore dX6_stepApart_79 (Nat.le_of_ble_eq_true rfl) x15e (lv2 := [(4, .int x15), (0, .ref 6), (1, .ref 12), (2, .long v2), (5, .int v5)]) rfl (pc2 := 81) rfl ?_
        refine kg_goto 126 dX6_stepApart_81 rfl ?_
        obtain ⟨x16, x16e, h⟩ := kw_let_e h
        refine kg_iinc 4 dX6_stepApart_126 rfl (Nat.le_of_ble_eq_true rfl) x16e (lv2 := [(5, .int x16), (4, .int x15), (0, .ref 6), (1, .ref 12), (2, .long v2)]) rfl (pc2 := 129) rfl ?_
        refine kg_goto 6 dX6_stepApart_129 rfl ?_
        refine kg_sub [2, 3, 4, 1, 0] (lv2 := [(0, .ref 6), (1, .ref 12), (2, .long v2), (4, .int x15), (5, .int x16)]) rfl ?_
        cases h
        exact hk
    · replace h := (if_pos q3).symm.trans h
      refine kg_goto 126 dX6_stepApart_24 rfl ?_
      obtain ⟨x17, x17e, h⟩ := kw_let_e h
      refine kg_iinc 4 dX6_stepApart_126 rfl (Nat.le_of_ble_eq_true rfl) x17e (lv2 := [(5, .int x17), (0, .ref 6), (1, .ref 12), (2, .long v2), (4, .int v4)]) rfl (pc2 := 129) rfl ?_
      refine kg_goto 6 dX6_stepApart_129 rfl ?_
      refine kg_sub [1, 2, 3, 4, 0] (lv2 := [(0, .ref 6), (1, .ref 12), (2, .long v2), (4, .int v4), (5, .int x17)]) rfl ?_
      cases h
      exact hk
set_option maxHeartbeats 4000000 in
set_option maxRecDepth 100000 in
theorem gX6_stepApart {E : kw_E} {d : Nat} (a2 : Int64) (σ : kw_M) {r : Int32 × kw_M} (h : fX6_stepApart a2 σ = some r) : kw_Met E kwTX 47 (d + 2) μX6_stepApart [.ref 6, .ref 12, .long a2] σ (some (Value.int r.1)) r.2 := by
  refine kw_enter plRX6 (Nat.le_of_ble_eq_true rfl) ?_
  show kw_G E kwTX 47 (d + 2) μX6_stepApart 0 [(0, .ref 6), (1, .ref 12), (2, .long a2)] [] σ (some (Value.int r.1)) r.2
  unfold fX6_stepApart at h
  refine kg_iconst dX6_stepApart_0 ki_0 (pc2 := 1) rfl ?_
  refine kg_istore dX6_stepApart_1 (Nat.le_of_ble_eq_true rfl) rfl (lv2 := [(4, .int (0 : Int32)), (0, .ref 6), (1, .ref 12), (2, .long a2)]) rfl (pc2 := 3) rfl ?_
  refine kg_iconst dX6_stepApart_3 ki_0 (pc2 := 4) rfl ?_
  refine kg_istore dX6_stepApart_4 (Nat.le_of_ble_eq_true rfl) rfl (lv2 := [(5, .int (0 : Int32)), (4, .int (0 : Int32)), (0, .ref 6), (1, .ref 12), (2, .long a2)]) rfl (pc2 := 6) rfl ?_
  refine kg_sub [2, 3, 4, 1, 0] (lv2 := [(0, .ref 6), (1, .ref 12), (2, .long a2), (4, .int (0 : Int32)), (5, .int (0 : Int32))]) rfl ?_
  obtain ⟨x18, x18h, h⟩ := kw_bind_e h
  refine kw_loop_e (P := fun s => kw_G E kwTX 47 (d + 2) μX6_stepApart 6 [(0, .ref 6), (1, .ref 12), (2, .long a2), (4, .int s.1), (5, .int s.2.1)] [] s.2.2 (some (Value.int r.1)) r.2) (K := fun y => kw_G E kwTX 47 (d + 2) μX6_stepApart 132 [(4, .int y.1)] [] y.2 (some (Value.int r.1)) r.2) (fun s o h0 hk => lX6_stepApart_6 a2 s.1 s.2.1 s.2.2 h0 hk) kw_F _ _ x18h ?_
  show kw_G E kwTX 47 (d + 2) μX6_stepApart 132 [(4, .int x18.1)] [] x18.2 (some (Value.int r.1)) r.2
  refine kg_iload 0 dX6_stepApart_132 rfl (pc2 := 134) rfl ?_
  obtain ⟨q19, h⟩ := kw_chk_e h
  cases h
  exact kg_iret (ty := .boolean) dX6_stepApart_134 rfl (kw_isB_n q19)
