/-! The class, method by method: the machine does what f says (g). -/
set_option maxHeartbeats 4000000 in
set_option maxRecDepth 100000 in
theorem gX7_beyondBits {E : kw_E} {d : Nat} (σ : kw_M) {r : Int32} (h : fX7_beyondBits σ = some r) : kw_Met E kwTX 48 (d + 1) μX7_beyondBits [.ref 1] σ (some (Value.int r)) σ := by
  refine kw_enter plRX7 (Nat.le_of_ble_eq_true rfl) ?_
  show kw_G E kwTX 48 (d + 1) μX7_beyondBits 0 [(0, .ref 1)] [] σ (some (Value.int r)) σ
  unfold fX7_beyondBits at h
  refine kg_iconst dX7_beyondBits_0 ki_0 (pc2 := 1) rfl ?_
  refine kg_istore_n dX7_beyondBits_1 rfl (Nat.le_of_ble_eq_true rfl) rfl (lv2 := [(1, .int (0 : Int32)), (0, .ref 1)]) rfl (pc2 := 2) rfl ?_
  refine kg_iconst dX7_beyondBits_2 ki_0 (pc2 := 3) rfl ?_
  refine kg_istore_n dX7_beyondBits_3 rfl (Nat.le_of_ble_eq_true rfl) rfl (lv2 := [(2, .int (0 : Int32)), (1, .int (0 : Int32)), (0, .ref 1)]) rfl (pc2 := 4) rfl ?_
  refine kg_sub [2, 1, 0] (lv2 := [(0, .ref 1), (1, .int (0 : Int32)), (2, .int (0 : Int32))]) rfl ?_
  obtain ⟨x10, x10h, h⟩ := kw_bind_e h
  refine kw_loop_e (P := fun s => kw_G E kwTX 48 (d + 1) μX7_beyondBits 4 [(0, .ref 1), (1, .int s.1), (2, .int s.2)] [] σ (some (Value.int r)) σ) (K := fun y => kw_G E kwTX 48 (d + 1) μX7_beyondBits 43 [(1, .int y)] [] σ (some (Value.int r)) σ) (fun s o h0 hk => lX7_beyondBits_4 σ s.1 s.2 h0 hk) kw_F _ _ x10h ?_
  show kw_G E kwTX 48 (d + 1) μX7_beyondBits 43 [(1, .int x10)] [] σ (some (Value.int r)) σ
  refine kg_iload_n 0 dX7_beyondBits_43 rfl (pc2 := 44) rfl ?_
  cases h
  exact kg_iret (ty := .int) dX7_beyondBits_44 rfl rfl
set_option maxHeartbeats 4000000 in
set_option maxRecDepth 100000 in
theorem gX9_isLess {E : kw_E} {d : Nat} (a0 : Int64) (a1 : Int64) (σ : kw_M) {r : Int32} (h : fX9_isLess a0 a1 σ = some r) : kw_Met E kwTX 48 d μX9_isLess [.long a0, .long a1] σ (some (Value.int r)) σ := by
  refine kw_enter plRX9 (Nat.le_of_ble_eq_true rfl) ?_
  show kw_G E kwTX 48 d μX9_isLess 0 [(0, .long a0), (2, .long a1)] [] σ (some (Value.int r)) σ
  unfold fX9_isLess at h
  refine kg_lload_n 0 dX9_isLess_0 rfl (pc2 := 1) rfl ?_
  refine kg_ldc2 rfl lcRX9_261 dX9_isLess_1 (pc2 := 4) rfl ?_
  refine kg_lcmp_eq 26 dX9_isLess_4 dX9_isLess_5 rfl (pc2 := 8) rfl (fun q1 => ?_) (fun q1 => ?_)
  · replace h := (if_pos q1).symm.trans h
    refine kg_iconst dX9_isLess_26 ki_0 (pc2 := 27) rfl ?_
    cases h
    exact kg_iret (ty := .boolean) dX9_isLess_27 rfl rfl
  · replace h := (if_neg q1).symm.trans h
    refine kg_lload_n 1 dX9_isLess_8 rfl (pc2 := 9) rfl ?_
    refine kg_ldc2 rfl lcRX9_261 dX9_isLess_9 (pc2 := 12) rfl ?_
    refine kg_lcmp_eq 22 dX9_isLess_12 dX9_isLess_13 rfl (pc2 := 16) rfl (fun q2 => ?_) (fun q2 => ?_)
    · replace h := (if_pos q2).symm.trans h
      refine kg_iconst dX9_isLess_22 ki_1 (pc2 := 23) rfl ?_
      refine kg_goto 27 dX9_isLess_23 rfl ?_
      cases h
      exact kg_iret (ty := .boolean) dX9_isLess_27 rfl rfl
    · replace h := (if_neg q2).symm.trans h
      refine kg_lload_n 0 dX9_isLess_16 rfl (pc2 := 17) rfl ?_
      refine kg_lload_n 1 dX9_isLess_17 rfl (pc2 := 18) rfl ?_
      refine kg_lcmp_ge 26 dX9_isLess_18 dX9_isLess_19 rfl (pc2 := 22) rfl (fun q3 => ?_) (fun q3 => ?_)
      · replace h := (if_pos q3).symm.trans h
        refine kg_iconst dX9_isLess_26 ki_0 (pc2 := 27) rfl ?_
        cases h
        exact kg_iret (ty := .boolean) dX9_isLess_27 rfl rfl
      · replace h := (if_neg q3).symm.trans h
        refine kg_iconst dX9_isLess_22 ki_1 (pc2 := 23) rfl ?_
        refine kg_goto 27 dX9_isLess_23 rfl ?_
        cases h
        exact kg_iret (ty := .boolean) dX9_isLess_27 rfl rfl
set_option maxHeartbeats 4000000 in
set_option maxRecDepth 100000 in
theorem lX7_putTouched_5 {E : kw_E} {d : Nat} (v1 : Int32) (v3 : Int32) (σ : kw_M) {v : Option Value} {σ2 : kw_M} {o : (Int32 × kw_M) ⊕ (Int32 × kw_M)} (h : bX7_putTouched_5 v1 v3 σ = some o) (hk : Sum.elim (fun s => kw_G E kwTX 48 (d + 1) μX7_putTouched 5 [(0, .ref 1), (1, .int v1), (2, .ref 11), (3, .int s.1)] [] s.2 v σ2) (fun y => kw_G E kwTX 48 (d + 1) μX7_putTouched 48 [(0, .ref 1), (1, .int v1), (3, .int y.1)] [] y.2 v σ2) o) : kw_G E kwTX 48 (d + 1) μX7_putTouched 5 [(0, .ref 1), (1, .int v1), (2, .ref 11), (3, .int v3)] [] σ v σ2 := by
  unfold bX7_putTouched_5 at h
  refine kg_iload_n 3 dX7_putTouched_5 rfl (pc2 := 6) rfl ?_
  refine kg_if_le 48 dX7_putTouched_6 rfl (pc2 := 9) rfl (fun q2 => ?_) (fun q2 => ?_)
  · replace h := (if_pos q2).symm.trans h
    refine kg_sub [0, 1, 3] (lv2 := [(0, .ref 1), (1, .int v1), (3, .int v3)]) rfl ?_
    cases h
    exact hk
  · replace h := (if_neg q2).symm.trans h
    refine kg_aload_n 2 dX7_putTouched_9 rfl (pc2 := 10) rfl ?_
    refine kg_iload_n 1 dX7_putTouched_10 rfl (pc2 := 11) rfl ?_
    obtain ⟨q3, h⟩ := kw_chk_e h
    refine kg_lald tX_11 eX_11 q3 (j := v1.toNatClampNeg) rfl dX7_putTouched_11 (pc2 := 12) rfl ?_
    refine kg_aload_n 2 dX7_putTouched_12 rfl (pc2 := 13) rfl ?_
    refine kg_aload_n 0 dX7_putTouched_13 rfl (pc2 := 14) rfl ?_
    refine kg_getr clX7 rfl 8 (Nat.le_of_ble_eq_true rfl) lfRX7_33 tX_1 eX_1 rfl dX7_putTouched_14 (pc2 := 17) rfl ?_
    refine kg_iload_n 3 dX7_putTouched_17 rfl (pc2 := 18) rfl ?_
    refine kg_iconst dX7_putTouched_18 ki_1 (pc2 := 19) rfl ?_
    refine kg_isub dX7_putTouched_19 (pc2 := 20) rfl ?_
    obtain ⟨q4, h⟩ := kw_chk_e h
    refine kg_iald tX_15 eX_15 q4 (j := (v3 - (1 : Int32)).toNatClampNeg) rfl dX7_putTouched_20 (pc2 := 21) rfl ?_
    obtain ⟨q5, h⟩ := kw_chk_e h
    refine kg_lald tX_11 eX_11 q5 (j := (σ.1 15 (v3 - (1 : Int32)).toNatClampNeg).toNatClampNeg) rfl dX7_putTouched_21 (pc2 := 22) rfl ?_
    obtain ⟨r6, r6h, h⟩ := kw_bind_e h
    refine kg_callN (μ := μX7_putTouched) (d := d) rfl mSX9_isLess [.long (σ.2 11 v1.toNatClampNeg), .long (σ.2 11 (σ.1 15 (v3 - (1 : Int32)).toNatClampNeg).toNatClampNeg)] [] (gX9_isLess (E := E) (d := d) (σ.2 11 v1.toNatClampNeg) (σ.2 11 (σ.1 15 (v3 - (1 : Int32)).toNatClampNeg).toNatClampNeg) σ r6h) rfl lnRX7_97 rfl (Nat.le_of_ble_eq_true rfl) dX7_putTouched_22 rfl (st2 := [.int r6]) rfl (pc2 := 25) rfl ?_
    refine kg_if_eq 48 dX7_putTouched_25 rfl (pc2 := 28) rfl (fun q7 => ?_) (fun q7 => ?_)
    · replace h := (if_pos q7).symm.trans h
      refine kg_sub [0, 1, 3] (lv2 := [(0, .ref 1), (1, .int v1), (3, .int v3)]) rfl ?_
      cases h
      exact hk
    · replace h := (if_neg q7).symm.trans h
      refine kg_aload_n 0 dX7_putTouched_28 rfl (pc2 := 29) rfl ?_
      refine kg_getr clX7 rfl 8 (Nat.le_of_ble_eq_true rfl) lfRX7_33 tX_1 eX_1 rfl dX7_putTouched_29 (pc2 := 32) rfl ?_
      refine kg_iload_n 3 dX7_putTouched_32 rfl (pc2 := 33) rfl ?_
      refine kg_aload_n 0 dX7_putTouched_33 rfl (pc2 := 34) rfl ?_
      refine kg_getr clX7 rfl 8 (Nat.le_of_ble_eq_true rfl) lfRX7_33 tX_1 eX_1 rfl dX7_putTouched_34 (pc2 := 37) rfl ?_
      refine kg_iload_n 3 dX7_putTouched_37 rfl (pc2 := 38) rfl ?_
      refine kg_iconst dX7_putTouched_38 ki_1 (pc2 := 39) rfl ?_
      refine kg_isub dX7_putTouched_39 (pc2 := 40) rfl ?_
      refine kg_iald tX_15 eX_15 q4 (j := (v3 - (1 : Int32)).toNatClampNeg) rfl dX7_putTouched_40 (pc2 := 41) rfl ?_
      obtain ⟨q8, h⟩ := kw_chk_e h
      obtain ⟨s9, s9e, h⟩ := kw_let_e h
      refine kg_iast tX_15 eX_15 q8 (j := v3.toNatClampNeg) rfl s9e dX7_putTouched_41 (pc2 := 42) rfl ?_
      obtain ⟨x10, x10e, h⟩ := kw_let_e h
      refine kg_iinc 3 dX7_putTouched_42 rfl (Nat.le_of_ble_eq_true rfl) x10e (lv2 := [(3, .int x10), (0, .ref 1), (1, .int v1), (2, .ref 11)]) rfl (pc2 := 45) rfl ?_
      refine kg_goto 5 dX7_putTouched_45 rfl ?_
      refine kg_sub [1, 2, 3, 0] (lv2 := [(0, .ref 1), (1, .int v1), (2, .ref 11), (3, .int x10)]) rfl ?_
      cases h
      exact hk
set_option maxHeartbeats 4000000 in
set_option maxRecDepth 100000 in
theorem gjX7_putTouched_48 {E : kw_E} {d : Nat} (v1 : Int32) (v3 : Int32) (σ : kw_M) {r : kw_M} (h : jX7_putTouched_48 v1 v3 σ = some r) : kw_G E kwTX 48 (d + 1) μX7_putTouched 48 [(0, .ref 1), (1, .int v1), (3, .int v3)] [] σ none r := by
  unfold jX7_putTouched_48 at h
  refine kg_aload_n 0 dX7_putTouched_48 rfl (pc2 := 49) rfl ?_
  refine kg_getr clX7 rfl 8 (Nat.le_of_ble_eq_true rfl) lfRX7_33 tX_1 eX_1 rfl dX7_putTouched_49 (pc2 := 52) rfl ?_
  refine kg_iload_n 2 dX7_putTouched_52 rfl (pc2 := 53) rfl ?_
  refine kg_iload_n 1 dX7_putTouched_53 rfl (pc2 := 54) rfl ?_
  obtain ⟨q12, h⟩ := kw_chk_e h
  obtain ⟨s13, s13e, h⟩ := kw_let_e h
  refine kg_iast tX_15 eX_15 q12 (j := v3.toNatClampNeg) rfl s13e dX7_putTouched_54 (pc2 := 55) rfl ?_
  refine kg_aload_n 0 dX7_putTouched_55 rfl (pc2 := 56) rfl ?_
  refine kg_dup dX7_putTouched_56 rfl (pc2 := 57) rfl ?_
  refine kg_geti clX7 rfl 7 (Nat.le_of_ble_eq_true rfl) lfRX7_66 tX_1 eX_1 rfl dX7_putTouched_57 (pc2 := 60) rfl ?_
  refine kg_iconst dX7_putTouched_60 ki_1 (pc2 := 61) rfl ?_
  refine kg_iadd dX7_putTouched_61 (pc2 := 62) rfl ?_
  obtain ⟨s14, s14e, h⟩ := kw_let_e h
  refine kg_puti clX7 rfl 7 (Nat.le_of_ble_eq_true rfl) lfRX7_66 rfl tX_1 eX_1 rfl (ty := .int) (by decide +kernel) rfl rfl s14e dX7_putTouched_62 (pc2 := 65) rfl ?_
  cases h
  exact kg_vret dX7_putTouched_65 rfl
set_option maxHeartbeats 4000000 in
set_option maxRecDepth 100000 in
theorem gX7_putTouched {E : kw_E} {d : Nat} (a1 : Int32) (σ : kw_M) {r : kw_M} (h : fX7_putTouched a1 σ = some r) : kw_Met E kwTX 48 (d + 1) μX7_putTouched [.ref 1, .int a1, .ref 11] σ none r := by
  refine kw_enter plRX7 (Nat.le_of_ble_eq_true rfl) ?_
  show kw_G E kwTX 48 (d + 1) μX7_putTouched 0 [(0, .ref 1), (1, .int a1), (2, .ref 11)] [] σ none r
  unfold fX7_putTouched at h
  refine kg_aload_n 0 dX7_putTouched_0 rfl (pc2 := 1) rfl ?_
  refine kg_geti clX7 rfl 7 (Nat.le_of_ble_eq_true rfl) lfRX7_66 tX_1 eX_1 rfl dX7_putTouched_1 (pc2 := 4) rfl ?_
  obtain ⟨x1, x1e, h⟩ := kw_let_e h
  refine kg_istore_n dX7_putTouched_4 rfl (Nat.le_of_ble_eq_true rfl) x1e (lv2 := [(3, .int x1), (0, .ref 1), (1, .int a1), (2, .ref 11)]) rfl (pc2 := 5) rfl ?_
  refine kg_sub [1, 2, 3, 0] (lv2 := [(0, .ref 1), (1, .int a1), (2, .ref 11), (3, .int x1)]) rfl ?_
  obtain ⟨x11, x11h, h⟩ := kw_bind_e h
  refine kw_loop_e (P := fun s => kw_G E kwTX 48 (d + 1) μX7_putTouched 5 [(0, .ref 1), (1, .int a1), (2, .ref 11), (3, .int s.1)] [] s.2 none r) (K := fun y => kw_G E kwTX 48 (d + 1) μX7_putTouched 48 [(0, .ref 1), (1, .int a1), (3, .int y.1)] [] y.2 none r) (fun s o h0 hk => lX7_putTouched_5 a1 s.1 s.2 h0 hk) kw_F _ _ x11h ?_
  show kw_G E kwTX 48 (d + 1) μX7_putTouched 48 [(0, .ref 1), (1, .int a1), (3, .int x11.1)] [] x11.2 none r
  exact gjX7_putTouched_48 a1 x11.1 x11.2 h
set_option maxHeartbeats 4000000 in
set_option maxRecDepth 100000 in
theorem lX7_markTouched_7 {E : kw_E} {d : Nat} (v2 : Int32) (σ : kw_M) {v : Option Value} {σ2 : kw_M} {o : (Int32 × kw_M) ⊕ (kw_M)} (h : bX7_markTouched_7 v2 σ = some o) (hk : Sum.elim (fun s => kw_G E kwTX 48 (d + 2) μX7_markTouched 7 [(0, .ref 1), (1, .ref 11), (2, .int s.1)] [] s.2 v σ2) (fun y => kw_G E kwTX 48 (d + 2) μX7_markTouched 43 [] [] y v σ2) o) : kw_G E kwTX 48 (d + 2) μX7_markTouched 7 [(0, .ref 1), (1, .ref 11), (2, .int v2)] [] σ v σ2 := by
  unfold bX7_markTouched_7 at h
  refine kg_iload_n 2 dX7_markTouched_7 rfl (pc2 := 8) rfl ?_
  refine kg_aload_n 0 dX7_markTouched_8 rfl (pc2 := 9) rfl ?_
  refine kg_getr clX7 rfl 0 (Nat.le_of_ble_eq_true rfl) lfRX7_12 tX_1 eX_1 rfl dX7_markTouched_9 (pc2 := 12) rfl ?_
  refine kg_geti clX4 rfl 0 (Nat.le_of_ble_eq_true rfl) lfRX7_90 tX_12 eX_12 rfl dX7_markTouched_12 (pc2 := 15) rfl ?_
  refine kg_icmp_ge 43 dX7_markTouched_15 rfl (pc2 := 18) rfl (fun q2 => ?_) (fun q2 => ?_)
  · replace h := (if_pos q2).symm.trans h
    refine kg_sub [] (lv2 := []) rfl ?_
    cases h
    exact hk
  · replace h := (if_neg q2).symm.trans h
    refine kg_aload_n 0 dX7_markTouched_18 rfl (pc2 := 19) rfl ?_
    refine kg_getr clX7 rfl 9 (Nat.le_of_ble_eq_true rfl) lfRX7_36 tX_1 eX_1 rfl dX7_markTouched_19 (pc2 := 22) rfl ?_
    refine kg_iload_n 2 dX7_markTouched_22 rfl (pc2 := 23) rfl ?_
    obtain ⟨q3, h⟩ := kw_chk_e h
    refine kg_lald tX_16 eX_16 q3 (j := v2.toNatClampNeg) rfl dX7_markTouched_23 (pc2 := 24) rfl ?_
    refine kg_aload_n 1 dX7_markTouched_24 rfl (pc2 := 25) rfl ?_
    refine kg_iload_n 2 dX7_markTouched_25 rfl (pc2 := 26) rfl ?_
    refine kg_lald tX_11 eX_11 q3 (j := v2.toNatClampNeg) rfl dX7_markTouched_26 (pc2 := 27) rfl ?_
    refine kg_lcmp_eq 37 dX7_markTouched_27 dX7_markTouched_28 rfl (pc2 := 31) rfl (fun q4 => ?_) (fun q4 => ?_)
    · replace h := (if_pos q4).symm.trans h
      obtain ⟨x5, x5e, h⟩ := kw_let_e h
      refine kg_iinc 2 dX7_markTouched_37 rfl (Nat.le_of_ble_eq_true rfl) x5e (lv2 := [(2, .int x5), (0, .ref 1), (1, .ref 11)]) rfl (pc2 := 40) rfl ?_
      refine kg_goto 7 dX7_markTouched_40 rfl ?_
      refine kg_sub [1, 2, 0] (lv2 := [(0, .ref 1), (1, .ref 11), (2, .int x5)]) rfl ?_
      cases h
      exact hk
    · replace h := (if_neg q4).symm.trans h
      refine kg_aload_n 0 dX7_markTouched_31 rfl (pc2 := 32) rfl ?_
      refine kg_iload_n 2 dX7_markTouched_32 rfl (pc2 := 33) rfl ?_
      refine kg_aload_n 1 dX7_markTouched_33 rfl (pc2 := 34) rfl ?_
      obtain ⟨r6, r6h, h⟩ := kw_bind_e h
      refine kg_callV (μ := μX7_markTouched) (d := (d + 1)) rfl mVX7_putTouched [.int v2, .ref 11] [] (gX7_putTouched (E := E) (d := d) v2 σ r6h) rfl lmRX7_93 (ci := 7) rfl tX_1 eX_1 rfl (Nat.le_of_ble_eq_true rfl) dX7_markTouched_34 rfl (st2 := []) rfl (pc2 := 37) rfl ?_
      obtain ⟨x7, x7e, h⟩ := kw_let_e h
      refine kg_iinc 2 dX7_markTouched_37 rfl (Nat.le_of_ble_eq_true rfl) x7e (lv2 := [(2, .int x7), (0, .ref 1), (1, .ref 11)]) rfl (pc2 := 40) rfl ?_
      refine kg_goto 7 dX7_markTouched_40 rfl ?_
      refine kg_sub [1, 2, 0] (lv2 := [(0, .ref 1), (1, .ref 11), (2, .int x7)]) rfl ?_
      cases h
      exact hk
set_option maxHeartbeats 4000000 in
set_option maxRecDepth 100000 in
theorem gX7_markTouched {E : kw_E} {d : Nat} (σ : kw_M) {r : kw_M} (h : fX7_markTouched σ = some r) : kw_Met E kwTX 48 (d + 2) μX7_markTouched [.ref 1, .ref 11] σ none r := by
  refine kw_enter plRX7 (Nat.le_of_ble_eq_true rfl) ?_
  show kw_G E kwTX 48 (d + 2) μX7_markTouched 0 [(0, .ref 1), (1, .ref 11)] [] σ none r
  unfold fX7_markTouched at h
  refine kg_aload_n 0 dX7_markTouched_0 rfl (pc2 := 1) rfl ?_
  refine kg_iconst dX7_markTouched_1 ki_0 (pc2 := 2) rfl ?_
  obtain ⟨s1, s1e, h⟩ := kw_let_e h
  refine kg_puti clX7 rfl 7 (Nat.le_of_ble_eq_true rfl) lfRX7_66 rfl tX_1 eX_1 rfl (ty := .int) (by decide +kernel) rfl rfl s1e dX7_markTouched_2 (pc2 := 5) rfl ?_
  refine kg_iconst dX7_markTouched_5 ki_0 (pc2 := 6) rfl ?_
  refine kg_istore_n dX7_markTouched_6 rfl (Nat.le_of_ble_eq_true rfl) rfl (lv2 := [(2, .int (0 : Int32)), (0, .ref 1), (1, .ref 11)]) rfl (pc2 := 7) rfl ?_
  refine kg_sub [1, 2, 0] (lv2 := [(0, .ref 1), (1, .ref 11), (2, .int (0 : Int32))]) rfl ?_
  obtain ⟨x8, x8h, h⟩ := kw_bind_e h
  refine kw_loop_e (P := fun s => kw_G E kwTX 48 (d + 2) μX7_markTouched 7 [(0, .ref 1), (1, .ref 11), (2, .int s.1)] [] s.2 none r) (K := fun y => kw_G E kwTX 48 (d + 2) μX7_markTouched 43 [] [] y none r) (fun s o h0 hk => lX7_markTouched_7 s.1 s.2 h0 hk) kw_F _ _ x8h ?_
  show kw_G E kwTX 48 (d + 2) μX7_markTouched 43 [] [] x8 none r
  cases h
  exact kg_vret dX7_markTouched_43 rfl
set_option maxHeartbeats 4000000 in
set_option maxRecDepth 100000 in
theorem gjX0_write_55 {E : kw_E} {d : Nat} (v4 : Int64) (v6 : Int32) (t0 : Int64) (t1 : Int32) (σ : kw_M) {r : kw_M} (h : jX0_write_55 v4 v6 t0 t1 σ = some r) : kw_G E kwTX 48 d μX0_write 55 [(0, .ref 13), (4, .long v4), (6, .int v6)] [.long t0, .int t1, .ref 21] σ none r := by
  unfold jX0_write_55 at h
  obtain ⟨q8, h⟩ := kw_chk_e h
  obtain ⟨s9, s9e, h⟩ := kw_let_e h
  refine kg_last tX_21 eX_21 q8 (j := t1.toNatClampNeg) rfl s9e dX0_write_55 (pc2 := 56) rfl ?_
  refine kg_aload_n 0 dX0_write_56 rfl (pc2 := 57) rfl ?_
  refine kg_getr clX0 rfl 1 (Nat.le_of_ble_eq_true rfl) lfRX0_9 tX_13 eX_13 rfl dX0_write_57 (pc2 := 60) rfl ?_
  refine kg_iload 2 dX0_write_60 rfl (pc2 := 62) rfl ?_
  refine kg_iconst dX0_write_62 ki_3 (pc2 := 63) rfl ?_
  refine kg_iadd dX0_write_63 (pc2 := 64) rfl ?_
  refine kg_lload 1 dX0_write_64 rfl (pc2 := 66) rfl ?_
  obtain ⟨q10, h⟩ := kw_chk_e h
  obtain ⟨s11, s11e, h⟩ := kw_let_e h
  refine kg_last tX_21 eX_21 q10 (j := (v6 + (3 : Int32)).toNatClampNeg) rfl s11e dX0_write_66 (pc2 := 67) rfl ?_
  refine kg_aload_n 0 dX0_write_67 rfl (pc2 := 68) rfl ?_
  refine kg_dup dX0_write_68 rfl (pc2 := 69) rfl ?_
  refine kg_geti clX0 rfl 0 (Nat.le_of_ble_eq_true rfl) lfRX0_15 tX_13 eX_13 rfl dX0_write_69 (pc2 := 72) rfl ?_
  refine kg_iconst dX0_write_72 ki_1 (pc2 := 73) rfl ?_
  refine kg_iadd dX0_write_73 (pc2 := 74) rfl ?_
  obtain ⟨s12, s12e, h⟩ := kw_let_e h
  refine kg_puti clX0 rfl 0 (Nat.le_of_ble_eq_true rfl) lfRX0_15 rfl tX_13 eX_13 rfl (ty := .int) (by decide +kernel) rfl rfl s12e dX0_write_74 (pc2 := 77) rfl ?_
  cases h
  exact kg_vret dX0_write_77 rfl
set_option maxHeartbeats 4000000 in
set_option maxRecDepth 100000 in
theorem gX0_write {E : kw_E} {d : Nat} (a1 : Int32) (a2 : Int32) (a3 : Int32) (a4 : Int64) (σ : kw_M) {r : kw_M} (h : fX0_write a1 a2 a3 a4 σ = some r) : kw_Met E kwTX 48 d μX0_write [.ref 13, .int a1, .int a2, .int a3, .long a4] σ none r := by
  refine kw_enter plRX0 (Nat.le_of_ble_eq_true rfl) ?_
  show kw_G E kwTX 48 d μX0_write 0 [(0, .ref 13), (1, .int a1), (2, .int a2), (3, .int a3), (4, .long a4)] [] σ none r
  unfold fX0_write at h
  refine kg_aload_n 0 dX0_write_0 rfl (pc2 := 1) rfl ?_
  refine kg_geti clX0 rfl 0 (Nat.le_of_ble_eq_true rfl) lfRX0_15 tX_13 eX_13 rfl dX0_write_1 (pc2 := 4) rfl ?_
  refine kg_bipush dX0_write_4 kb_100 (pc2 := 6) rfl ?_
  refine kg_icmp_lt 10 dX0_write_6 rfl (pc2 := 9) rfl (fun q1 => ?_) (fun q1 => ?_)
  · replace h := (if_pos q1).symm.trans h
    refine kg_aload_n 0 dX0_write_10 rfl (pc2 := 11) rfl ?_
    refine kg_geti clX0 rfl 0 (Nat.le_of_ble_eq_true rfl) lfRX0_15 tX_13 eX_13 rfl dX0_write_11 (pc2 := 14) rfl ?_
    refine kg_iconst dX0_write_14 ki_4 (pc2 := 15) rfl ?_
    refine kg_imul dX0_write_15 (pc2 := 16) rfl ?_
    obtain ⟨x2, x2e, h⟩ := kw_let_e h
    refine kg_istore dX0_write_16 (Nat.le_of_ble_eq_true rfl) x2e (lv2 := [(6, .int x2), (0, .ref 13), (1, .int a1), (2, .int a2), (3, .int a3), (4, .long a4)]) rfl (pc2 := 18) rfl ?_
    refine kg_aload_n 1 dX0_write_18 rfl (pc2 := 19) rfl ?_
    refine kg_getr clX0 rfl 1 (Nat.le_of_ble_eq_true rfl) lfRX0_9 tX_13 eX_13 rfl dX0_write_19 (pc2 := 22) rfl ?_
    refine kg_iload 0 dX0_write_22 rfl (pc2 := 24) rfl ?_
    refine kg_iload_n 2 dX0_write_24 rfl (pc2 := 25) rfl ?_
    refine kg_i2l dX0_write_25 (pc2 := 26) rfl ?_
    obtain ⟨q3, h⟩ := kw_chk_e h
    obtain ⟨s4, s4e, h⟩ := kw_let_e h
    refine kg_last tX_21 eX_21 q3 (j := x2.toNatClampNeg) rfl s4e dX0_write_26 (pc2 := 27) rfl ?_
    refine kg_aload_n 1 dX0_write_27 rfl (pc2 := 28) rfl ?_
    refine kg_getr clX0 rfl 1 (Nat.le_of_ble_eq_true rfl) lfRX0_9 tX_13 eX_13 rfl dX0_write_28 (pc2 := 31) rfl ?_
    refine kg_iload 0 dX0_write_31 rfl (pc2 := 33) rfl ?_
    refine kg_iconst dX0_write_33 ki_1 (pc2 := 34) rfl ?_
    refine kg_iadd dX0_write_34 (pc2 := 35) rfl ?_
    refine kg_iload_n 3 dX0_write_35 rfl (pc2 := 36) rfl ?_
    refine kg_i2l dX0_write_36 (pc2 := 37) rfl ?_
    obtain ⟨q5, h⟩ := kw_chk_e h
    obtain ⟨s6, s6e, h⟩ := kw_let_e h
    refine kg_last tX_21 eX_21 q5 (j := (x2 + (1 : Int32)).toNatClampNeg) rfl s6e dX0_write_37 (pc2 := 38) rfl ?_
    refine kg_aload_n 1 dX0_write_38 rfl (pc2 := 39) rfl ?_
    refine kg_getr clX0 rfl 1 (Nat.le_of_ble_eq_true rfl) lfRX0_9 tX_13 eX_13 rfl dX0_write_39 (pc2 := 42) rfl ?_
    refine kg_iload 0 dX0_write_42 rfl (pc2 := 44) rfl ?_
    refine kg_iconst dX0_write_44 ki_2 (pc2 := 45) rfl ?_
    refine kg_iadd dX0_write_45 (pc2 := 46) rfl ?_
    refine kg_iload_n 4 dX0_write_46 rfl (pc2 := 47) rfl ?_
    refine kg_if_eq 54 dX0_write_47 rfl (pc2 := 50) rfl (fun q7 => ?_) (fun q7 => ?_)
    · replace h := (if_pos q7).symm.trans h
      refine kg_lconst dX0_write_54 kl_0 (pc2 := 55) rfl ?_
      refine kg_sub [1, 5, 0] (lv2 := [(0, .ref 13), (4, .long a4), (6, .int x2)]) rfl ?_
      exact gjX0_write_55 a4 x2 (0 : Int64) (x2 + (2 : Int32)) s6 h
    · replace h := (if_neg q7).symm.trans h
      refine kg_lconst dX0_write_50 kl_1 (pc2 := 51) rfl ?_
      refine kg_goto 55 dX0_write_51 rfl ?_
      refine kg_sub [1, 5, 0] (lv2 := [(0, .ref 13), (4, .long a4), (6, .int x2)]) rfl ?_
      exact gjX0_write_55 a4 x2 (1 : Int64) (x2 + (2 : Int32)) s6 h
  · replace h := (if_neg q1).symm.trans h
    cases h
    exact kg_vret dX0_write_9 rfl
set_option maxHeartbeats 4000000 in
set_option maxRecDepth 100000 in
theorem lX7_writeEvents_2 {E : kw_E} {d : Nat} (v1 : Int32) (v2 : Int32) (σ : kw_M) {v : Option Value} {σ2 : kw_M} {o : (Int32 × kw_M) ⊕ (kw_M)} (h : bX7_writeEvents_2 v1 v2 σ = some o) (hk : Sum.elim (fun s => kw_G E kwTX 48 (d + 1) μX7_writeEvents 2 [(0, .ref 1), (1, .int v1), (2, .int s.1)] [] s.2 v σ2) (fun y => kw_G E kwTX 48 (d + 1) μX7_writeEvents 50 [] [] y v σ2) o) : kw_G E kwTX 48 (d + 1) μX7_writeEvents 2 [(0, .ref 1), (1, .int v1), (2, .int v2)] [] σ v σ2 := by
  unfold bX7_writeEvents_2 at h
  refine kg_iload_n 2 dX7_writeEvents_2 rfl (pc2 := 3) rfl ?_
  refine kg_aload_n 0 dX7_writeEvents_3 rfl (pc2 := 4) rfl ?_
  refine kg_getr clX7 rfl 0 (Nat.le_of_ble_eq_true rfl) lfRX7_12 tX_1 eX_1 rfl dX7_writeEvents_4 (pc2 := 7) rfl ?_
  refine kg_geti clX4 rfl 0 (Nat.le_of_ble_eq_true rfl) lfRX7_90 tX_12 eX_12 rfl dX7_writeEvents_7 (pc2 := 10) rfl ?_
  refine kg_icmp_ge 50 dX7_writeEvents_10 rfl (pc2 := 13) rfl (fun q1 => ?_) (fun q1 => ?_)
  · replace h := (if_pos q1).symm.trans h
    refine kg_sub [] (lv2 := []) rfl ?_
    cases h
    exact hk
  · replace h := (if_neg q1).symm.trans h
    refine kg_iload_n 1 dX7_writeEvents_13 rfl (pc2 := 14) rfl ?_
    refine kg_iload_n 2 dX7_writeEvents_14 rfl (pc2 := 15) rfl ?_
    refine kg_ishr dX7_writeEvents_15 (pc2 := 16) rfl ?_
    refine kg_iconst dX7_writeEvents_16 ki_1 (pc2 := 17) rfl ?_
    refine kg_iand dX7_writeEvents_17 (pc2 := 18) rfl ?_
    refine kg_if_eq 44 dX7_writeEvents_18 rfl (pc2 := 21) rfl (fun q2 => ?_) (fun q2 => ?_)
    · replace h := (if_pos q2).symm.trans h
      obtain ⟨x3, x3e, h⟩ := kw_let_e h
      refine kg_iinc 2 dX7_writeEvents_44 rfl (Nat.le_of_ble_eq_true rfl) x3e (lv2 := [(2, .int x3), (0, .ref 1), (1, .int v1)]) rfl (pc2 := 47) rfl ?_
      refine kg_goto 2 dX7_writeEvents_47 rfl ?_
      refine kg_sub [1, 2, 0] (lv2 := [(0, .ref 1), (1, .int v1), (2, .int x3)]) rfl ?_
      cases h
      exact hk
    · replace h := (if_neg q2).symm.trans h
      refine kg_aload_n 0 dX7_writeEvents_21 rfl (pc2 := 22) rfl ?_
      refine kg_getr clX7 rfl 1 (Nat.le_of_ble_eq_true rfl) lfRX7_21 tX_1 eX_1 rfl dX7_writeEvents_22 (pc2 := 25) rfl ?_
      refine kg_aload_n 0 dX7_writeEvents_25 rfl (pc2 := 26) rfl ?_
      refine kg_geti clX7 rfl 3 (Nat.le_of_ble_eq_true rfl) lfRX7_60 tX_1 eX_1 rfl dX7_writeEvents_26 (pc2 := 29) rfl ?_
      refine kg_iload_n 2 dX7_writeEvents_29 rfl (pc2 := 30) rfl ?_
      refine kg_aload_n 0 dX7_writeEvents_30 rfl (pc2 := 31) rfl ?_
      refine kg_iload_n 2 dX7_writeEvents_31 rfl (pc2 := 32) rfl ?_
      obtain ⟨r4, r4h, h⟩ := kw_bind_e h
      refine kg_callV (μ := μX7_writeEvents) (d := d) rfl mVX7_isBeyond [.int v2] [.int v2, .int (σ.1 1 3), .ref 13] (gX7_isBeyond (E := E) (d := d) v2 σ r4h) rfl lmRX7_101 (ci := 7) rfl tX_1 eX_1 rfl (Nat.le_of_ble_eq_true rfl) dX7_writeEvents_32 rfl (st2 := [.int r4, .int v2, .int (σ.1 1 3), .ref 13]) rfl (pc2 := 35) rfl ?_
      refine kg_aload_n 0 dX7_writeEvents_35 rfl (pc2 := 36) rfl ?_
      refine kg_getr clX7 rfl 9 (Nat.le_of_ble_eq_true rfl) lfRX7_36 tX_1 eX_1 rfl dX7_writeEvents_36 (pc2 := 39) rfl ?_
      refine kg_iload_n 2 dX7_writeEvents_39 rfl (pc2 := 40) rfl ?_
      obtain ⟨q5, h⟩ := kw_chk_e h
      refine kg_lald tX_16 eX_16 q5 (j := v2.toNatClampNeg) rfl dX7_writeEvents_40 (pc2 := 41) rfl ?_
      obtain ⟨r6, r6h, h⟩ := kw_bind_e h
      refine kg_callV (μ := μX7_writeEvents) (d := d) rfl mVX0_write [.int (σ.1 1 3), .int v2, .int r4, .long (σ.2 16 v2.toNatClampNeg)] [] (gX0_write (E := E) (d := d) (σ.1 1 3) v2 r4 (σ.2 16 v2.toNatClampNeg) σ r6h) rfl lmRX7_105 (ci := 0) rfl tX_13 eX_13 rfl (Nat.le_of_ble_eq_true rfl) dX7_writeEvents_41 rfl (st2 := []) rfl (pc2 := 44) rfl ?_
      obtain ⟨x7, x7e, h⟩ := kw_let_e h
      refine kg_iinc 2 dX7_writeEvents_44 rfl (Nat.le_of_ble_eq_true rfl) x7e (lv2 := [(2, .int x7), (0, .ref 1), (1, .int v1)]) rfl (pc2 := 47) rfl ?_
      refine kg_goto 2 dX7_writeEvents_47 rfl ?_
      refine kg_sub [1, 2, 0] (lv2 := [(0, .ref 1), (1, .int v1), (2, .int x7)]) rfl ?_
      cases h
      exact hk
set_option maxHeartbeats 4000000 in
set_option maxRecDepth 100000 in
theorem gX7_writeEvents {E : kw_E} {d : Nat} (a1 : Int32) (σ : kw_M) {r : kw_M} (h : fX7_writeEvents a1 σ = some r) : kw_Met E kwTX 48 (d + 1) μX7_writeEvents [.ref 1, .int a1] σ none r := by
  refine kw_enter plRX7 (Nat.le_of_ble_eq_true rfl) ?_
  show kw_G E kwTX 48 (d + 1) μX7_writeEvents 0 [(0, .ref 1), (1, .int a1)] [] σ none r
  unfold fX7_writeEvents at h
  refine kg_iconst dX7_writeEvents_0 ki_0 (pc2 := 1) rfl ?_
  refine kg_istore_n dX7_writeEvents_1 rfl (Nat.le_of_ble_eq_true rfl) rfl (lv2 := [(2, .int (0 : Int32)), (0, .ref 1), (1, .int a1)]) rfl (pc2 := 2) rfl ?_
  refine kg_sub [1, 2, 0] (lv2 := [(0, .ref 1), (1, .int a1), (2, .int (0 : Int32))]) rfl ?_
  obtain ⟨x8, x8h, h⟩ := kw_bind_e h
  refine kw_loop_e (P := fun s => kw_G E kwTX 48 (d + 1) μX7_writeEvents 2 [(0, .ref 1), (1, .int a1), (2, .int s.1)] [] s.2 none r) (K := fun y => kw_G E kwTX 48 (d + 1) μX7_writeEvents 50 [] [] y none r) (fun s o h0 hk => lX7_writeEvents_2 a1 s.1 s.2 h0 hk) kw_F _ _ x8h ?_
  show kw_G E kwTX 48 (d + 1) μX7_writeEvents 50 [] [] x8 none r
  cases h
  exact kg_vret dX7_writeEvents_50 rfl
set_option maxHeartbeats 4000000 in
set_option maxRecDepth 100000 in
theorem gX7_takeOver {E : kw_E} {d : Nat} (a2 : Int32) (σ : kw_M) {r : kw_M} (h : fX7_takeOver a2 σ = some r) : kw_Met E kwTX 48 (d + 3) μX7_takeOver [.ref 1, .ref 10, .int a2, .ref 11] σ none r := by
  refine kw_enter plRX7 (Nat.le_of_ble_eq_true rfl) ?_
  show kw_G E kwTX 48 (d + 3) μX7_takeOver 0 [(0, .ref 1), (1, .ref 10), (2, .int a2), (3, .ref 11)] [] σ none r
  unfold fX7_takeOver at h
  refine kg_aload_n 0 dX7_takeOver_0 rfl (pc2 := 1) rfl ?_
  obtain ⟨r1, r1h, h⟩ := kw_bind_e h
  refine kg_callV (μ := μX7_takeOver) (d := (d + 2)) rfl mVX7_beyondBits [] [] (gX7_beyondBits (E := E) (d := (d + 1)) σ r1h) rfl lmRX7_78 (ci := 7) rfl tX_1 eX_1 rfl (Nat.le_of_ble_eq_true rfl) dX7_takeOver_1 rfl (st2 := [.int r1]) rfl (pc2 := 4) rfl ?_
  refine kg_istore dX7_takeOver_4 (Nat.le_of_ble_eq_true rfl) rfl (lv2 := [(4, .int r1), (0, .ref 1), (1, .ref 10), (2, .int a2), (3, .ref 11)]) rfl (pc2 := 6) rfl ?_
  refine kg_aload_n 1 dX7_takeOver_6 rfl (pc2 := 7) rfl ?_
  refine kg_aload_n 4 dX7_takeOver_7 rfl (pc2 := 8) rfl ?_
  obtain ⟨r2, r2h, h⟩ := kw_bind_e h
  refine kg_callV (μ := μX7_takeOver) (d := (d + 2)) rfl mVX7_markTouched [.ref 11] [] (gX7_markTouched (E := E) (d := d) σ r2h) rfl lmRX7_82 (ci := 7) rfl tX_1 eX_1 rfl (Nat.le_of_ble_eq_true rfl) dX7_takeOver_8 rfl (st2 := []) rfl (pc2 := 11) rfl ?_
  refine kg_aload_n 1 dX7_takeOver_11 rfl (pc2 := 12) rfl ?_
  refine kg_getr clX7 rfl 0 (Nat.le_of_ble_eq_true rfl) lfRX7_12 tX_1 eX_1 rfl dX7_takeOver_12 (pc2 := 15) rfl ?_
  refine kg_aload_n 2 dX7_takeOver_15 rfl (pc2 := 16) rfl ?_
  obtain ⟨r3, r3h, h⟩ := kw_bind_e h
  refine kg_callV (μ := μX7_takeOver) (d := (d + 2)) rfl mVX4_copyFrom [.ref 10] [] (gX4_copyFrom (E := E) (d := (d + 1)) 12 10 kx_4_12 kx_4_10 r2 r3h) rfl lmRX7_50 (ci := 4) rfl tX_12 eX_12 rfl (Nat.le_of_ble_eq_true rfl) dX7_takeOver_16 rfl (st2 := []) rfl (pc2 := 19) rfl ?_
  refine kg_aload_n 1 dX7_takeOver_19 rfl (pc2 := 20) rfl ?_
  refine kg_iload_n 3 dX7_takeOver_20 rfl (pc2 := 21) rfl ?_
  obtain ⟨s4, s4e, h⟩ := kw_let_e h
  refine kg_puti clX7 rfl 2 (Nat.le_of_ble_eq_true rfl) lfRX7_57 rfl tX_1 eX_1 rfl (ty := .int) (by decide +kernel) rfl rfl s4e dX7_takeOver_21 (pc2 := 24) rfl ?_
  refine kg_aload_n 4 dX7_takeOver_24 rfl (pc2 := 25) rfl ?_
  refine kg_iconst dX7_takeOver_25 ki_0 (pc2 := 26) rfl ?_
  refine kg_aload_n 1 dX7_takeOver_26 rfl (pc2 := 27) rfl ?_
  refine kg_getr clX7 rfl 9 (Nat.le_of_ble_eq_true rfl) lfRX7_36 tX_1 eX_1 rfl dX7_takeOver_27 (pc2 := 30) rfl ?_
  refine kg_iconst dX7_takeOver_30 ki_0 (pc2 := 31) rfl ?_
  refine kg_bipush dX7_takeOver_31 kb_12 (pc2 := 33) rfl ?_
  obtain ⟨s5, s5e, h⟩ := kw_let_e h
  refine kg_copyl (μ := μX7_takeOver) (d := (d + 2)) rfl rfl cpRX7_69 tX_11 eX_11 tX_16 eX_16 (by decide) (by decide) (by decide) (by decide) (by decide) (Nat.le_of_ble_eq_true rfl) (by decide) (by decide) (by decide) s5e dX7_takeOver_33 (pc2 := 36) rfl ?_
  refine kg_aload_n 1 dX7_takeOver_36 rfl (pc2 := 37) rfl ?_
  obtain ⟨r6, r6h, h⟩ := kw_bind_e h
  refine kg_callV (μ := μX7_takeOver) (d := (d + 2)) rfl mVX7_findParents [] [] (gX7_findParents (E := E) (d := d) s5 r6h) rfl lmRX7_47 (ci := 7) rfl tX_1 eX_1 rfl (Nat.le_of_ble_eq_true rfl) dX7_takeOver_37 rfl (st2 := []) rfl (pc2 := 40) rfl ?_
  refine kg_aload_n 1 dX7_takeOver_40 rfl (pc2 := 41) rfl ?_
  refine kg_dup dX7_takeOver_41 rfl (pc2 := 42) rfl ?_
  refine kg_geti clX7 rfl 3 (Nat.le_of_ble_eq_true rfl) lfRX7_60 tX_1 eX_1 rfl dX7_takeOver_42 (pc2 := 45) rfl ?_
  refine kg_iconst dX7_takeOver_45 ki_1 (pc2 := 46) rfl ?_
  refine kg_iadd dX7_takeOver_46 (pc2 := 47) rfl ?_
  obtain ⟨s7, s7e, h⟩ := kw_let_e h
  refine kg_puti clX7 rfl 3 (Nat.le_of_ble_eq_true rfl) lfRX7_60 rfl tX_1 eX_1 rfl (ty := .int) (by decide +kernel) rfl rfl s7e dX7_takeOver_47 (pc2 := 50) rfl ?_
  refine kg_aload_n 1 dX7_takeOver_50 rfl (pc2 := 51) rfl ?_
  refine kg_iload 0 dX7_takeOver_51 rfl (pc2 := 53) rfl ?_
  refine kg_aload_n 1 dX7_takeOver_53 rfl (pc2 := 54) rfl ?_
  obtain ⟨r8, r8h, h⟩ := kw_bind_e h
  refine kg_callV (μ := μX7_takeOver) (d := (d + 2)) rfl mVX7_beyondBits [] [.int r1, .ref 1] (gX7_beyondBits (E := E) (d := (d + 1)) s7 r8h) rfl lmRX7_78 (ci := 7) rfl tX_1 eX_1 rfl (Nat.le_of_ble_eq_true rfl) dX7_takeOver_54 rfl (st2 := [.int r8, .int r1, .ref 1]) rfl (pc2 := 57) rfl ?_
  refine kg_ixor dX7_takeOver_57 (pc2 := 58) rfl ?_
  obtain ⟨r9, r9h, h⟩ := kw_bind_e h
  refine kg_callV (μ := μX7_takeOver) (d := (d + 2)) rfl mVX7_writeEvents [.int (r1 ^^^ r8)] [] (gX7_writeEvents (E := E) (d := (d + 1)) (r1 ^^^ r8) s7 r9h) rfl lmRX7_86 (ci := 7) rfl tX_1 eX_1 rfl (Nat.le_of_ble_eq_true rfl) dX7_takeOver_58 rfl (st2 := []) rfl (pc2 := 61) rfl ?_
  cases h
  exact kg_vret dX7_takeOver_61 rfl
set_option maxHeartbeats 4000000 in
set_option maxRecDepth 100000 in
theorem gX9_doChange {E : kw_E} {d : Nat} (a1 : Int32) (a2 : Int32) (σ : kw_M) {r : Int32 × kw_M} (h : fX9_doChange a1 a2 σ = some r) : kw_Met E kwTX 48 (d + 4) μX9_doChange [.ref 0, .int a1, .int a2] σ (some (Value.int r.1)) r.2 := by
  refine kw_enter plRX9 (Nat.le_of_ble_eq_true rfl) ?_
  show kw_G E kwTX 48 (d + 4) μX9_doChange 0 [(0, .ref 0), (1, .int a1), (2, .int a2)] [] σ (some (Value.int r.1)) r.2
  unfold fX9_doChange at h
  refine kg_aload_n 0 dX9_doChange_0 rfl (pc2 := 1) rfl ?_
  refine kg_iload_n 1 dX9_doChange_1 rfl (pc2 := 2) rfl ?_
  refine kg_iload_n 2 dX9_doChange_2 rfl (pc2 := 3) rfl ?_
  obtain ⟨r1, r1h, h⟩ := kw_bind_e h
  refine kg_callV (μ := μX9_doChange) (d := (d + 3)) rfl mVX9_judgeAside [.int a1, .int a2] [] (gX9_judgeAside (E := E) (d := d) a1 a2 σ r1h) rfl lmRX9_207 (ci := 9) rfl tX_0 eX_0 rfl (Nat.le_of_ble_eq_true rfl) dX9_doChange_3 rfl (st2 := [.int r1.1]) rfl (pc2 := 6) rfl ?_
  refine kg_istore_n dX9_doChange_6 rfl (Nat.le_of_ble_eq_true rfl) rfl (lv2 := [(3, .int r1.1), (0, .ref 0), (1, .int a1), (2, .int a2)]) rfl (pc2 := 7) rfl ?_
  refine kg_iload_n 0 dX9_doChange_7 rfl (pc2 := 8) rfl ?_
  refine kg_if_eq 13 dX9_doChange_8 rfl (pc2 := 11) rfl (fun q2 => ?_) (fun q2 => ?_)
  · replace h := (if_pos q2).symm.trans h
    refine kg_aload_n 1 dX9_doChange_13 rfl (pc2 := 14) rfl ?_
    refine kg_getr clX9 rfl 0 (Nat.le_of_ble_eq_true rfl) lfRX9_10 tX_0 eX_0 rfl dX9_doChange_14 (pc2 := 17) rfl ?_
    refine kg_aload_n 1 dX9_doChange_17 rfl (pc2 := 18) rfl ?_
    refine kg_getr clX9 rfl 10 (Nat.le_of_ble_eq_true rfl) lfRX9_72 tX_0 eX_0 rfl dX9_doChange_18 (pc2 := 21) rfl ?_
    refine kg_iload_n 3 dX9_doChange_21 rfl (pc2 := 22) rfl ?_
    refine kg_aload_n 1 dX9_doChange_22 rfl (pc2 := 23) rfl ?_
    refine kg_getr clX9 rfl 11 (Nat.le_of_ble_eq_true rfl) lfRX9_76 tX_0 eX_0 rfl dX9_doChange_23 (pc2 := 26) rfl ?_
    obtain ⟨r3, r3h, h⟩ := kw_bind_e h
    refine kg_callV (μ := μX9_doChange) (d := (d + 3)) rfl mVX7_takeOver [.ref 10, .int a2, .ref 11] [] (gX7_takeOver (E := E) (d := d) a2 r1.2 r3h) rfl lmRX9_210 (ci := 7) rfl tX_1 eX_1 rfl (Nat.le_of_ble_eq_true rfl) dX9_doChange_26 rfl (st2 := []) rfl (pc2 := 29) rfl ?_
    refine kg_aload_n 1 dX9_doChange_29 rfl (pc2 := 30) rfl ?_
    refine kg_getr clX9 rfl 5 (Nat.le_of_ble_eq_true rfl) lfRX9_36 tX_0 eX_0 rfl dX9_doChange_30 (pc2 := 33) rfl ?_
    refine kg_iconst dX9_doChange_33 ki_0 (pc2 := 34) rfl ?_
    obtain ⟨s4, s4e, h⟩ := kw_let_e h
    refine kg_puti clX2 rfl 0 (Nat.le_of_ble_eq_true rfl) lfRX9_145 rfl tX_5 eX_5 rfl (ty := .boolean) (by decide +kernel) rfl rfl s4e dX9_doChange_34 (pc2 := 37) rfl ?_
    refine kg_aload_n 1 dX9_doChange_37 rfl (pc2 := 38) rfl ?_
    refine kg_getr clX9 rfl 0 (Nat.le_of_ble_eq_true rfl) lfRX9_10 tX_0 eX_0 rfl dX9_doChange_38 (pc2 := 41) rfl ?_
    refine kg_geti clX7 rfl 7 (Nat.le_of_ble_eq_true rfl) lfRX9_214 tX_1 eX_1 rfl dX9_doChange_41 (pc2 := 44) rfl ?_
    cases h
    exact kg_iret (ty := .int) dX9_doChange_44 rfl rfl
  · replace h := (if_neg q2).symm.trans h
    refine kg_iload_n 0 dX9_doChange_11 rfl (pc2 := 12) rfl ?_
    cases h
    exact kg_iret (ty := .int) dX9_doChange_12 rfl rfl
set_option maxHeartbeats 4000000 in
set_option maxRecDepth 100000 in
theorem gX9_layRoad {E : kw_E} {d : Nat} (a1 : Int32) (a2 : Int32) (a3 : Int32) (σ : kw_M) {r : Int32 × kw_M} (h : fX9_layRoad a1 a2 a3 σ = some r) : kw_Met E kwTX 48 (d + 5) μX9_layRoad [.ref 0, .int a1, .int a2, .int a3] σ (some (Value.int r.1)) r.2 := by
  refine kw_enter plRX9 (Nat.le_of_ble_eq_true rfl) ?_
  show kw_G E kwTX 48 (d + 5) μX9_layRoad 0 [(0, .ref 0), (1, .int a1), (2, .int a2), (3, .int a3)] [] σ (some (Value.int r.1)) r.2
  unfold fX9_layRoad at h
  refine kg_aload_n 0 dX9_layRoad_0 rfl (pc2 := 1) rfl ?_
  refine kg_getr clX9 rfl 0 (Nat.le_of_ble_eq_true rfl) lfRX9_10 tX_0 eX_0 rfl dX9_layRoad_1 (pc2 := 4) rfl ?_
  refine kg_getr clX7 rfl 0 (Nat.le_of_ble_eq_true rfl) lfRX9_148 tX_1 eX_1 rfl dX9_layRoad_4 (pc2 := 7) rfl ?_
  refine kg_iload_n 1 dX9_layRoad_7 rfl (pc2 := 8) rfl ?_
  obtain ⟨r1, r1h, h⟩ := kw_bind_e h
  refine kg_callV (μ := μX9_layRoad) (d := (d + 4)) rfl mVX4_hasTown [.int a1] [] (gX4_hasTown (E := E) (d := (d + 4)) a1 σ r1h) rfl lmRX9_176 (ci := 4) rfl tX_12 eX_12 rfl (Nat.le_of_ble_eq_true rfl) dX9_layRoad_8 rfl (st2 := [.int r1]) rfl (pc2 := 11) rfl ?_
  refine kg_if_eq 40 dX9_layRoad_11 rfl (pc2 := 14) rfl (fun q2 => ?_) (fun q2 => ?_)
  · replace h := (if_pos q2).symm.trans h
    refine kg_iconst dX9_layRoad_40 ki_m1 (pc2 := 41) rfl ?_
    cases h
    exact kg_iret (ty := .int) dX9_layRoad_41 rfl rfl
  · replace h := (if_neg q2).symm.trans h
    refine kg_aload_n 0 dX9_layRoad_14 rfl (pc2 := 15) rfl ?_
    refine kg_getr clX9 rfl 0 (Nat.le_of_ble_eq_true rfl) lfRX9_10 tX_0 eX_0 rfl dX9_layRoad_15 (pc2 := 18) rfl ?_
    refine kg_getr clX7 rfl 0 (Nat.le_of_ble_eq_true rfl) lfRX9_148 tX_1 eX_1 rfl dX9_layRoad_18 (pc2 := 21) rfl ?_
    refine kg_iload_n 2 dX9_layRoad_21 rfl (pc2 := 22) rfl ?_
    obtain ⟨r3, r3h, h⟩ := kw_bind_e h
    refine kg_callV (μ := μX9_layRoad) (d := (d + 4)) rfl mVX4_hasTown [.int a2] [] (gX4_hasTown (E := E) (d := (d + 4)) a2 σ r3h) rfl lmRX9_176 (ci := 4) rfl tX_12 eX_12 rfl (Nat.le_of_ble_eq_true rfl) dX9_layRoad_22 rfl (st2 := [.int r3]) rfl (pc2 := 25) rfl ?_
    refine kg_if_eq 40 dX9_layRoad_25 rfl (pc2 := 28) rfl (fun q4 => ?_) (fun q4 => ?_)
    · replace h := (if_pos q4).symm.trans h
      refine kg_iconst dX9_layRoad_40 ki_m1 (pc2 := 41) rfl ?_
      cases h
      exact kg_iret (ty := .int) dX9_layRoad_41 rfl rfl
    · replace h := (if_neg q4).symm.trans h
      refine kg_iload_n 1 dX9_layRoad_28 rfl (pc2 := 29) rfl ?_
      refine kg_iload_n 2 dX9_layRoad_29 rfl (pc2 := 30) rfl ?_
      refine kg_icmp_eq 40 dX9_layRoad_30 rfl (pc2 := 33) rfl (fun q5 => ?_) (fun q5 => ?_)
      · replace h := (if_pos q5).symm.trans h
        refine kg_iconst dX9_layRoad_40 ki_m1 (pc2 := 41) rfl ?_
        cases h
        exact kg_iret (ty := .int) dX9_layRoad_41 rfl rfl
      · replace h := (if_neg q5).symm.trans h
        refine kg_iload_n 3 dX9_layRoad_33 rfl (pc2 := 34) rfl ?_
        obtain ⟨r6, r6h, h⟩ := kw_bind_e h
        refine kg_callS (μ := μX9_layRoad) (d := (d + 4)) rfl mSX9_isLength [.int a3] [] (gX9_isLength (E := E) (d := (d + 4)) a3 σ r6h) rfl lmRX9_179 rfl (Nat.le_of_ble_eq_true rfl) dX9_layRoad_34 rfl (st2 := [.int r6]) rfl (pc2 := 37) rfl ?_
        refine kg_if_ne 42 dX9_layRoad_37 rfl (pc2 := 40) rfl (fun q7 => ?_) (fun q7 => ?_)
        · replace h := (if_neg q7).symm.trans h
          refine kg_aload_n 0 dX9_layRoad_42 rfl (pc2 := 43) rfl ?_
          refine kg_getr clX9 rfl 0 (Nat.le_of_ble_eq_true rfl) lfRX9_10 tX_0 eX_0 rfl dX9_layRoad_43 (pc2 := 46) rfl ?_
          refine kg_getr clX7 rfl 0 (Nat.le_of_ble_eq_true rfl) lfRX9_148 tX_1 eX_1 rfl dX9_layRoad_46 (pc2 := 49) rfl ?_
          refine kg_geti clX4 rfl 1 (Nat.le_of_ble_eq_true rfl) lfRX9_182 tX_12 eX_12 rfl dX9_layRoad_49 (pc2 := 52) rfl ?_
          refine kg_bipush dX9_layRoad_52 kb_36 (pc2 := 54) rfl ?_
          refine kg_icmp_lt 60 dX9_layRoad_54 rfl (pc2 := 57) rfl (fun q8 => ?_) (fun q8 => ?_)
          · replace h := (if_pos q8).symm.trans h
            refine kg_aload_n 0 dX9_layRoad_60 rfl (pc2 := 61) rfl ?_
            refine kg_getr clX9 rfl 10 (Nat.le_of_ble_eq_true rfl) lfRX9_72 tX_0 eX_0 rfl dX9_layRoad_61 (pc2 := 64) rfl ?_
            refine kg_aload_n 0 dX9_layRoad_64 rfl (pc2 := 65) rfl ?_
            refine kg_getr clX9 rfl 0 (Nat.le_of_ble_eq_true rfl) lfRX9_10 tX_0 eX_0 rfl dX9_layRoad_65 (pc2 := 68) rfl ?_
            refine kg_getr clX7 rfl 0 (Nat.le_of_ble_eq_true rfl) lfRX9_148 tX_1 eX_1 rfl dX9_layRoad_68 (pc2 := 71) rfl ?_
            obtain ⟨r9, r9h, h⟩ := kw_bind_e h
            refine kg_callV (μ := μX9_layRoad) (d := (d + 4)) rfl mVX4_copyFrom [.ref 12] [] (gX4_copyFrom (E := E) (d := (d + 3)) 10 12 kx_4_10 kx_4_12 σ r9h) rfl lmRX9_185 (ci := 4) rfl tX_10 eX_10 rfl (Nat.le_of_ble_eq_true rfl) dX9_layRoad_71 rfl (st2 := []) rfl (pc2 := 74) rfl ?_
            refine kg_aload_n 0 dX9_layRoad_74 rfl (pc2 := 75) rfl ?_
            refine kg_getr clX9 rfl 10 (Nat.le_of_ble_eq_true rfl) lfRX9_72 tX_0 eX_0 rfl dX9_layRoad_75 (pc2 := 78) rfl ?_
            refine kg_iload_n 1 dX9_layRoad_78 rfl (pc2 := 79) rfl ?_
            refine kg_iload_n 2 dX9_layRoad_79 rfl (pc2 := 80) rfl ?_
            refine kg_iload_n 3 dX9_layRoad_80 rfl (pc2 := 81) rfl ?_
            obtain ⟨r10, r10h, h⟩ := kw_bind_e h
            refine kg_callV (μ := μX9_layRoad) (d := (d + 4)) rfl mVX4_addRoad [.int a1, .int a2, .int a3] [] (gX4_addRoad (E := E) (d := (d + 4)) a1 a2 a3 r9 r10h) rfl lmRX9_119 (ci := 4) rfl tX_10 eX_10 rfl (Nat.le_of_ble_eq_true rfl) dX9_layRoad_81 rfl (st2 := [.int r10.1]) rfl (pc2 := 84) rfl ?_
            refine kg_istore dX9_layRoad_84 (Nat.le_of_ble_eq_true rfl) rfl (lv2 := [(4, .int r10.1), (0, .ref 0), (1, .int a1), (2, .int a2), (3, .int a3)]) rfl (pc2 := 86) rfl ?_
            refine kg_aload_n 1 dX9_layRoad_86 rfl (pc2 := 87) rfl ?_
            refine kg_iload 0 dX9_layRoad_87 rfl (pc2 := 89) rfl ?_
            refine kg_aload_n 1 dX9_layRoad_89 rfl (pc2 := 90) rfl ?_
            refine kg_getr clX9 rfl 0 (Nat.le_of_ble_eq_true rfl) lfRX9_10 tX_0 eX_0 rfl dX9_layRoad_90 (pc2 := 93) rfl ?_
            refine kg_geti clX7 rfl 2 (Nat.le_of_ble_eq_true rfl) lfRX9_189 tX_1 eX_1 rfl dX9_layRoad_93 (pc2 := 96) rfl ?_
            obtain ⟨r11, r11h, h⟩ := kw_bind_e h
            refine kg_callV (μ := μX9_layRoad) (d := (d + 4)) rfl mVX9_doChange [.int r10.1, .int (r10.2.1 1 2)] [] (gX9_doChange (E := E) (d := d) r10.1 (r10.2.1 1 2) r10.2 r11h) rfl lmRX9_192 (ci := 9) rfl tX_0 eX_0 rfl (Nat.le_of_ble_eq_true rfl) dX9_layRoad_96 rfl (st2 := [.int r11.1]) rfl (pc2 := 99) rfl ?_
            refine kg_istore dX9_layRoad_99 (Nat.le_of_ble_eq_true rfl) rfl (lv2 := [(5, .int r11.1), (4, .int r10.1), (0, .ref 0), (1, .int a1), (2, .int a2), (3, .int a3)]) rfl (pc2 := 101) rfl ?_
            refine kg_iload 0 dX9_layRoad_101 rfl (pc2 := 103) rfl ?_
            refine kg_if_ge 111 dX9_layRoad_103 rfl (pc2 := 106) rfl (fun q12 => ?_) (fun q12 => ?_)
            · replace h := (if_pos q12).symm.trans h
              refine kg_iload 1 dX9_layRoad_111 rfl (pc2 := 113) rfl ?_
              cases h
              exact kg_iret (ty := .int) dX9_layRoad_113 rfl rfl
            · replace h := (if_neg q12).symm.trans h
              refine kg_iload 0 dX9_layRoad_106 rfl (pc2 := 108) rfl ?_
              refine kg_goto 113 dX9_layRoad_108 rfl ?_
              cases h
              exact kg_iret (ty := .int) dX9_layRoad_113 rfl rfl
          · replace h := (if_neg q8).symm.trans h
            refine kg_bipush dX9_layRoad_57 kb_m5 (pc2 := 59) rfl ?_
            cases h
            exact kg_iret (ty := .int) dX9_layRoad_59 rfl rfl
        · replace h := (if_pos q7).symm.trans h
          refine kg_iconst dX9_layRoad_40 ki_m1 (pc2 := 41) rfl ?_
          cases h
          exact kg_iret (ty := .int) dX9_layRoad_41 rfl rfl
set_option maxHeartbeats 4000000 in
set_option maxRecDepth 100000 in
theorem gX4_hasRoad {E : kw_E} {d : Nat} (a1 : Int32) (σ : kw_M) {r : Int32} (h : fX4_hasRoad a1 σ = some r) : kw_Met E kwTX 48 d μX4_hasRoad [.ref 12, .int a1] σ (some (Value.int r)) σ := by
  refine kw_enter plRX4 (Nat.le_of_ble_eq_true rfl) ?_
  show kw_G E kwTX 48 d μX4_hasRoad 0 [(0, .ref 12), (1, .int a1)] [] σ (some (Value.int r)) σ
  unfold fX4_hasRoad at h
  refine kg_iload_n 1 dX4_hasRoad_0 rfl (pc2 := 1) rfl ?_
  refine kg_if_lt 16 dX4_hasRoad_1 rfl (pc2 := 4) rfl (fun q1 => ?_) (fun q1 => ?_)
  · replace h := (if_pos q1).symm.trans h
    refine kg_iconst dX4_hasRoad_16 ki_0 (pc2 := 17) rfl ?_
    cases h
    exact kg_iret (ty := .boolean) dX4_hasRoad_17 rfl rfl
  · replace h := (if_neg q1).symm.trans h
    refine kg_iload_n 1 dX4_hasRoad_4 rfl (pc2 := 5) rfl ?_
    refine kg_aload_n 0 dX4_hasRoad_5 rfl (pc2 := 6) rfl ?_
    refine kg_geti clX4 rfl 1 (Nat.le_of_ble_eq_true rfl) lfRX4_25 tX_12 eX_12 rfl dX4_hasRoad_6 (pc2 := 9) rfl ?_
    refine kg_icmp_ge 16 dX4_hasRoad_9 rfl (pc2 := 12) rfl (fun q2 => ?_) (fun q2 => ?_)
    · replace h := (if_pos q2).symm.trans h
      refine kg_iconst dX4_hasRoad_16 ki_0 (pc2 := 17) rfl ?_
      cases h
      exact kg_iret (ty := .boolean) dX4_hasRoad_17 rfl rfl
    · replace h := (if_neg q2).symm.trans h
      refine kg_iconst dX4_hasRoad_12 ki_1 (pc2 := 13) rfl ?_
      refine kg_goto 17 dX4_hasRoad_13 rfl ?_
      cases h
      exact kg_iret (ty := .boolean) dX4_hasRoad_17 rfl rfl
set_option maxHeartbeats 4000000 in
set_option maxRecDepth 100000 in
theorem gX9_changeLength {E : kw_E} {d : Nat} (a1 : Int32) (a2 : Int32) (σ : kw_M) {r : Int32 × kw_M} (h : fX9_changeLength a1 a2 σ = some r) : kw_Met E kwTX 48 (d + 5) μX9_changeLength [.ref 0, .int a1, .int a2] σ (some (Value.int r.1)) r.2 := by
  refine kw_enter plRX9 (Nat.le_of_ble_eq_true rfl) ?_
  show kw_G E kwTX 48 (d + 5) μX9_changeLength 0 [(0, .ref 0), (1, .int a1), (2, .int a2)] [] σ (some (Value.int r.1)) r.2
  unfold fX9_changeLength at h
  refine kg_aload_n 0 dX9_changeLength_0 rfl (pc2 := 1) rfl ?_
  refine kg_getr clX9 rfl 0 (Nat.le_of_ble_eq_true rfl) lfRX9_10 tX_0 eX_0 rfl dX9_changeLength_1 (pc2 := 4) rfl ?_
  refine kg_getr clX7 rfl 0 (Nat.le_of_ble_eq_true rfl) lfRX9_148 tX_1 eX_1 rfl dX9_changeLength_4 (pc2 := 7) rfl ?_
  refine kg_iload_n 1 dX9_changeLength_7 rfl (pc2 := 8) rfl ?_
  obtain ⟨r1, r1h, h⟩ := kw_bind_e h
  refine kg_callV (μ := μX9_changeLength) (d := (d + 4)) rfl mVX4_hasRoad [.int a1] [] (gX4_hasRoad (E := E) (d := (d + 4)) a1 σ r1h) rfl lmRX9_195 (ci := 4) rfl tX_12 eX_12 rfl (Nat.le_of_ble_eq_true rfl) dX9_changeLength_8 rfl (st2 := [.int r1]) rfl (pc2 := 11) rfl ?_
  refine kg_if_eq 21 dX9_changeLength_11 rfl (pc2 := 14) rfl (fun q2 => ?_) (fun q2 => ?_)
  · replace h := (if_pos q2).symm.trans h
    refine kg_iconst dX9_changeLength_21 ki_m1 (pc2 := 22) rfl ?_
    cases h
    exact kg_iret (ty := .int) dX9_changeLength_22 rfl rfl
  · replace h := (if_neg q2).symm.trans h
    refine kg_iload_n 2 dX9_changeLength_14 rfl (pc2 := 15) rfl ?_
    obtain ⟨r3, r3h, h⟩ := kw_bind_e h
    refine kg_callS (μ := μX9_changeLength) (d := (d + 4)) rfl mSX9_isLength [.int a2] [] (gX9_isLength (E := E) (d := (d + 4)) a2 σ r3h) rfl lmRX9_179 rfl (Nat.le_of_ble_eq_true rfl) dX9_changeLength_15 rfl (st2 := [.int r3]) rfl (pc2 := 18) rfl ?_
    refine kg_if_ne 23 dX9_changeLength_18 rfl (pc2 := 21) rfl (fun q4 => ?_) (fun q4 => ?_)
    · replace h := (if_neg q4).symm.trans h
      refine kg_aload_n 0 dX9_changeLength_23 rfl (pc2 := 24) rfl ?_
      refine kg_getr clX9 rfl 0 (Nat.le_of_ble_eq_true rfl) lfRX9_10 tX_0 eX_0 rfl dX9_changeLength_24 (pc2 := 27) rfl ?_
      refine kg_getr clX7 rfl 0 (Nat.le_of_ble_eq_true rfl) lfRX9_148 tX_1 eX_1 rfl dX9_changeLength_27 (pc2 := 30) rfl ?_
      refine kg_getr clX4 rfl 5 (Nat.le_of_ble_eq_true rfl) lfRX9_198 tX_12 eX_12 rfl dX9_changeLength_30 (pc2 := 33) rfl ?_
      refine kg_iload_n 1 dX9_changeLength_33 rfl (pc2 := 34) rfl ?_
      obtain ⟨q5, h⟩ := kw_chk_e h
      refine kg_iald tX_20 eX_20 q5 (j := a1.toNatClampNeg) rfl dX9_changeLength_34 (pc2 := 35) rfl ?_
      refine kg_iload_n 2 dX9_changeLength_35 rfl (pc2 := 36) rfl ?_
      refine kg_icmp_ne 42 dX9_changeLength_36 rfl (pc2 := 39) rfl (fun q6 => ?_) (fun q6 => ?_)
      · replace h := (if_neg q6).symm.trans h
        refine kg_aload_n 0 dX9_changeLength_42 rfl (pc2 := 43) rfl ?_
        refine kg_getr clX9 rfl 10 (Nat.le_of_ble_eq_true rfl) lfRX9_72 tX_0 eX_0 rfl dX9_changeLength_43 (pc2 := 46) rfl ?_
        refine kg_aload_n 0 dX9_changeLength_46 rfl (pc2 := 47) rfl ?_
        refine kg_getr clX9 rfl 0 (Nat.le_of_ble_eq_true rfl) lfRX9_10 tX_0 eX_0 rfl dX9_changeLength_47 (pc2 := 50) rfl ?_
        refine kg_getr clX7 rfl 0 (Nat.le_of_ble_eq_true rfl) lfRX9_148 tX_1 eX_1 rfl dX9_changeLength_50 (pc2 := 53) rfl ?_
        obtain ⟨r7, r7h, h⟩ := kw_bind_e h
        refine kg_callV (μ := μX9_changeLength) (d := (d + 4)) rfl mVX4_copyFrom [.ref 12] [] (gX4_copyFrom (E := E) (d := (d + 3)) 10 12 kx_4_10 kx_4_12 σ r7h) rfl lmRX9_185 (ci := 4) rfl tX_10 eX_10 rfl (Nat.le_of_ble_eq_true rfl) dX9_changeLength_53 rfl (st2 := []) rfl (pc2 := 56) rfl ?_
        refine kg_aload_n 0 dX9_changeLength_56 rfl (pc2 := 57) rfl ?_
        refine kg_getr clX9 rfl 10 (Nat.le_of_ble_eq_true rfl) lfRX9_72 tX_0 eX_0 rfl dX9_changeLength_57 (pc2 := 60) rfl ?_
        refine kg_getr clX4 rfl 5 (Nat.le_of_ble_eq_true rfl) lfRX9_198 tX_10 eX_10 rfl dX9_changeLength_60 (pc2 := 63) rfl ?_
        refine kg_iload_n 1 dX9_changeLength_63 rfl (pc2 := 64) rfl ?_
        refine kg_iload_n 2 dX9_changeLength_64 rfl (pc2 := 65) rfl ?_
        obtain ⟨s8, s8e, h⟩ := kw_let_e h
        refine kg_iast tX_34 eX_34 q5 (j := a1.toNatClampNeg) rfl s8e dX9_changeLength_65 (pc2 := 66) rfl ?_
        refine kg_aload_n 0 dX9_changeLength_66 rfl (pc2 := 67) rfl ?_
        refine kg_iload_n 1 dX9_changeLength_67 rfl (pc2 := 68) rfl ?_
        refine kg_aload_n 0 dX9_changeLength_68 rfl (pc2 := 69) rfl ?_
        refine kg_getr clX9 rfl 0 (Nat.le_of_ble_eq_true rfl) lfRX9_10 tX_0 eX_0 rfl dX9_changeLength_69 (pc2 := 72) rfl ?_
        refine kg_geti clX7 rfl 2 (Nat.le_of_ble_eq_true rfl) lfRX9_189 tX_1 eX_1 rfl dX9_changeLength_72 (pc2 := 75) rfl ?_
        obtain ⟨r9, r9h, h⟩ := kw_bind_e h
        refine kg_callV (μ := μX9_changeLength) (d := (d + 4)) rfl mVX9_doChange [.int a1, .int (s8.1 1 2)] [] (gX9_doChange (E := E) (d := d) a1 (s8.1 1 2) s8 r9h) rfl lmRX9_192 (ci := 9) rfl tX_0 eX_0 rfl (Nat.le_of_ble_eq_true rfl) dX9_changeLength_75 rfl (st2 := [.int r9.1]) rfl (pc2 := 78) rfl ?_
        cases h
        exact kg_iret (ty := .int) dX9_changeLength_78 rfl rfl
      · replace h := (if_pos q6).symm.trans h
        refine kg_bipush dX9_changeLength_39 kb_m2 (pc2 := 41) rfl ?_
        cases h
        exact kg_iret (ty := .int) dX9_changeLength_41 rfl rfl
    · replace h := (if_pos q4).symm.trans h
      refine kg_iconst dX9_changeLength_21 ki_m1 (pc2 := 22) rfl ?_
      cases h
      exact kg_iret (ty := .int) dX9_changeLength_22 rfl rfl
set_option maxHeartbeats 4000000 in
set_option maxRecDepth 100000 in
theorem gX4_flip {E : kw_E} {d : Nat} (a1 : Int32) (σ : kw_M) {r : kw_M} (h : fX4_flip a1 σ = some r) : kw_Met E kwTX 48 d μX4_flip [.ref 10, .int a1] σ none r := by
  refine kw_enter plRX4 (Nat.le_of_ble_eq_true rfl) ?_
  show kw_G E kwTX 48 d μX4_flip 0 [(0, .ref 10), (1, .int a1)] [] σ none r
  unfold fX4_flip at h
  refine kg_aload_n 0 dX4_flip_0 rfl (pc2 := 1) rfl ?_
  refine kg_dup dX4_flip_1 rfl (pc2 := 2) rfl ?_
  refine kg_getl clX4 rfl 2 (Nat.le_of_ble_eq_true rfl) lfRX4_28 tX_10 eX_10 rfl dX4_flip_2 (pc2 := 5) rfl ?_
  refine kg_lconst dX4_flip_5 kl_1 (pc2 := 6) rfl ?_
  refine kg_iload_n 1 dX4_flip_6 rfl (pc2 := 7) rfl ?_
  refine kg_lshl dX4_flip_7 (pc2 := 8) rfl ?_
  refine kg_lxor dX4_flip_8 (pc2 := 9) rfl ?_
  obtain ⟨s1, s1e, h⟩ := kw_let_e h
  refine kg_putl clX4 rfl 2 (Nat.le_of_ble_eq_true rfl) lfRX4_28 rfl tX_10 eX_10 rfl (ty := .long) (by decide +kernel) rfl rfl s1e dX4_flip_9 (pc2 := 12) rfl ?_
  cases h
  exact kg_vret dX4_flip_12 rfl
set_option maxHeartbeats 4000000 in
set_option maxRecDepth 100000 in
theorem gX9_turnRoad {E : kw_E} {d : Nat} (a1 : Int32) (a2 : Int32) (σ : kw_M) {r : Int32 × kw_M} (h : fX9_turnRoad a1 a2 σ = some r) : kw_Met E kwTX 48 (d + 5) μX9_turnRoad [.ref 0, .int a1, .int a2] σ (some (Value.int r.1)) r.2 := by
  refine kw_enter plRX9 (Nat.le_of_ble_eq_true rfl) ?_
  show kw_G E kwTX 48 (d + 5) μX9_turnRoad 0 [(0, .ref 0), (1, .int a1), (2, .int a2)] [] σ (some (Value.int r.1)) r.2
  unfold fX9_turnRoad at h
  refine kg_aload_n 0 dX9_turnRoad_0 rfl (pc2 := 1) rfl ?_
  refine kg_getr clX9 rfl 0 (Nat.le_of_ble_eq_true rfl) lfRX9_10 tX_0 eX_0 rfl dX9_turnRoad_1 (pc2 := 4) rfl ?_
  refine kg_getr clX7 rfl 0 (Nat.le_of_ble_eq_true rfl) lfRX9_148 tX_1 eX_1 rfl dX9_turnRoad_4 (pc2 := 7) rfl ?_
  refine kg_iload_n 1 dX9_turnRoad_7 rfl (pc2 := 8) rfl ?_
  obtain ⟨r1, r1h, h⟩ := kw_bind_e h
  refine kg_callV (μ := μX9_turnRoad) (d := (d + 4)) rfl mVX4_hasRoad [.int a1] [] (gX4_hasRoad (E := E) (d := (d + 4)) a1 σ r1h) rfl lmRX9_195 (ci := 4) rfl tX_12 eX_12 rfl (Nat.le_of_ble_eq_true rfl) dX9_turnRoad_8 rfl (st2 := [.int r1]) rfl (pc2 := 11) rfl ?_
  refine kg_if_ne 16 dX9_turnRoad_11 rfl (pc2 := 14) rfl (fun q2 => ?_) (fun q2 => ?_)
  · replace h := (if_neg q2).symm.trans h
    refine kg_aload_n 0 dX9_turnRoad_16 rfl (pc2 := 17) rfl ?_
    refine kg_getr clX9 rfl 0 (Nat.le_of_ble_eq_true rfl) lfRX9_10 tX_0 eX_0 rfl dX9_turnRoad_17 (pc2 := 20) rfl ?_
    refine kg_getr clX7 rfl 0 (Nat.le_of_ble_eq_true rfl) lfRX9_148 tX_1 eX_1 rfl dX9_turnRoad_20 (pc2 := 23) rfl ?_
    refine kg_iload_n 1 dX9_turnRoad_23 rfl (pc2 := 24) rfl ?_
    obtain ⟨r3, r3h, h⟩ := kw_bind_e h
    refine kg_callV (μ := μX9_turnRoad) (d := (d + 4)) rfl mVX4_isOpen [.int a1] [] (gX4_isOpen (E := E) (d := (d + 4)) 12 kx_4_12 a1 σ r3h) rfl lmRX9_201 (ci := 4) rfl tX_12 eX_12 rfl (Nat.le_of_ble_eq_true rfl) dX9_turnRoad_24 rfl (st2 := [.int r3]) rfl (pc2 := 27) rfl ?_
    refine kg_iload_n 2 dX9_turnRoad_27 rfl (pc2 := 28) rfl ?_
    refine kg_icmp_ne 34 dX9_turnRoad_28 rfl (pc2 := 31) rfl (fun q4 => ?_) (fun q4 => ?_)
    · replace h := (if_neg q4).symm.trans h
      refine kg_aload_n 0 dX9_turnRoad_34 rfl (pc2 := 35) rfl ?_
      refine kg_getr clX9 rfl 10 (Nat.le_of_ble_eq_true rfl) lfRX9_72 tX_0 eX_0 rfl dX9_turnRoad_35 (pc2 := 38) rfl ?_
      refine kg_aload_n 0 dX9_turnRoad_38 rfl (pc2 := 39) rfl ?_
      refine kg_getr clX9 rfl 0 (Nat.le_of_ble_eq_true rfl) lfRX9_10 tX_0 eX_0 rfl dX9_turnRoad_39 (pc2 := 42) rfl ?_
      refine kg_getr clX7 rfl 0 (Nat.le_of_ble_eq_true rfl) lfRX9_148 tX_1 eX_1 rfl dX9_turnRoad_42 (pc2 := 45) rfl ?_
      obtain ⟨r5, r5h, h⟩ := kw_bind_e h
      refine kg_callV (μ := μX9_turnRoad) (d := (d + 4)) rfl mVX4_copyFrom [.ref 12] [] (gX4_copyFrom (E := E) (d := (d + 3)) 10 12 kx_4_10 kx_4_12 σ r5h) rfl lmRX9_185 (ci := 4) rfl tX_10 eX_10 rfl (Nat.le_of_ble_eq_true rfl) dX9_turnRoad_45 rfl (st2 := []) rfl (pc2 := 48) rfl ?_
      refine kg_aload_n 0 dX9_turnRoad_48 rfl (pc2 := 49) rfl ?_
      refine kg_getr clX9 rfl 10 (Nat.le_of_ble_eq_true rfl) lfRX9_72 tX_0 eX_0 rfl dX9_turnRoad_49 (pc2 := 52) rfl ?_
      refine kg_iload_n 1 dX9_turnRoad_52 rfl (pc2 := 53) rfl ?_
      obtain ⟨r6, r6h, h⟩ := kw_bind_e h
      refine kg_callV (μ := μX9_turnRoad) (d := (d + 4)) rfl mVX4_flip [.int a1] [] (gX4_flip (E := E) (d := (d + 4)) a1 r5 r6h) rfl lmRX9_204 (ci := 4) rfl tX_10 eX_10 rfl (Nat.le_of_ble_eq_true rfl) dX9_turnRoad_53 rfl (st2 := []) rfl (pc2 := 56) rfl ?_
      refine kg_aload_n 0 dX9_turnRoad_56 rfl (pc2 := 57) rfl ?_
      refine kg_iload_n 1 dX9_turnRoad_57 rfl (pc2 := 58) rfl ?_
      refine kg_aload_n 0 dX9_turnRoad_58 rfl (pc2 := 59) rfl ?_
      refine kg_getr clX9 rfl 0 (Nat.le_of_ble_eq_true rfl) lfRX9_10 tX_0 eX_0 rfl dX9_turnRoad_59 (pc2 := 62) rfl ?_
      refine kg_geti clX7 rfl 2 (Nat.le_of_ble_eq_true rfl) lfRX9_189 tX_1 eX_1 rfl dX9_turnRoad_62 (pc2 := 65) rfl ?_
      obtain ⟨r7, r7h, h⟩ := kw_bind_e h
      refine kg_callV (μ := μX9_turnRoad) (d := (d + 4)) rfl mVX9_doChange [.int a1, .int (r6.1 1 2)] [] (gX9_doChange (E := E) (d := d) a1 (r6.1 1 2) r6 r7h) rfl lmRX9_192 (ci := 9) rfl tX_0 eX_0 rfl (Nat.le_of_ble_eq_true rfl) dX9_turnRoad_65 rfl (st2 := [.int r7.1]) rfl (pc2 := 68) rfl ?_
      cases h
      exact kg_iret (ty := .int) dX9_turnRoad_68 rfl rfl
    · replace h := (if_pos q4).symm.trans h
      refine kg_bipush dX9_turnRoad_31 kb_m2 (pc2 := 33) rfl ?_
      cases h
      exact kg_iret (ty := .int) dX9_turnRoad_33 rfl rfl
  · replace h := (if_pos q2).symm.trans h
    refine kg_iconst dX9_turnRoad_14 ki_m1 (pc2 := 15) rfl ?_
    cases h
    exact kg_iret (ty := .int) dX9_turnRoad_15 rfl rfl
set_option maxHeartbeats 4000000 in
set_option maxRecDepth 100000 in
theorem gX9_moveOrigin {E : kw_E} {d : Nat} (a1 : Int32) (σ : kw_M) {r : Int32 × kw_M} (h : fX9_moveOrigin a1 σ = some r) : kw_Met E kwTX 48 (d + 5) μX9_moveOrigin [.ref 0, .int a1] σ (some (Value.int r.1)) r.2 := by
  refine kw_enter plRX9 (Nat.le_of_ble_eq_true rfl) ?_
  show kw_G E kwTX 48 (d + 5) μX9_moveOrigin 0 [(0, .ref 0), (1, .int a1)] [] σ (some (Value.int r.1)) r.2
  unfold fX9_moveOrigin at h
  refine kg_aload_n 0 dX9_moveOrigin_0 rfl (pc2 := 1) rfl ?_
  refine kg_getr clX9 rfl 0 (Nat.le_of_ble_eq_true rfl) lfRX9_10 tX_0 eX_0 rfl dX9_moveOrigin_1 (pc2 := 4) rfl ?_
  refine kg_getr clX7 rfl 0 (Nat.le_of_ble_eq_true rfl) lfRX9_148 tX_1 eX_1 rfl dX9_moveOrigin_4 (pc2 := 7) rfl ?_
  refine kg_iload_n 1 dX9_moveOrigin_7 rfl (pc2 := 8) rfl ?_
  obtain ⟨r1, r1h, h⟩ := kw_bind_e h
  refine kg_callV (μ := μX9_moveOrigin) (d := (d + 4)) rfl mVX4_hasTown [.int a1] [] (gX4_hasTown (E := E) (d := (d + 4)) a1 σ r1h) rfl lmRX9_176 (ci := 4) rfl tX_12 eX_12 rfl (Nat.le_of_ble_eq_true rfl) dX9_moveOrigin_8 rfl (st2 := [.int r1]) rfl (pc2 := 11) rfl ?_
  refine kg_if_ne 16 dX9_moveOrigin_11 rfl (pc2 := 14) rfl (fun q2 => ?_) (fun q2 => ?_)
  · replace h := (if_neg q2).symm.trans h
    refine kg_aload_n 0 dX9_moveOrigin_16 rfl (pc2 := 17) rfl ?_
    refine kg_getr clX9 rfl 0 (Nat.le_of_ble_eq_true rfl) lfRX9_10 tX_0 eX_0 rfl dX9_moveOrigin_17 (pc2 := 20) rfl ?_
    refine kg_geti clX7 rfl 2 (Nat.le_of_ble_eq_true rfl) lfRX9_189 tX_1 eX_1 rfl dX9_moveOrigin_20 (pc2 := 23) rfl ?_
    refine kg_iload_n 1 dX9_moveOrigin_23 rfl (pc2 := 24) rfl ?_
    refine kg_icmp_ne 30 dX9_moveOrigin_24 rfl (pc2 := 27) rfl (fun q3 => ?_) (fun q3 => ?_)
    · replace h := (if_neg q3).symm.trans h
      refine kg_aload_n 0 dX9_moveOrigin_30 rfl (pc2 := 31) rfl ?_
      refine kg_getr clX9 rfl 10 (Nat.le_of_ble_eq_true rfl) lfRX9_72 tX_0 eX_0 rfl dX9_moveOrigin_31 (pc2 := 34) rfl ?_
      refine kg_aload_n 0 dX9_moveOrigin_34 rfl (pc2 := 35) rfl ?_
      refine kg_getr clX9 rfl 0 (Nat.le_of_ble_eq_true rfl) lfRX9_10 tX_0 eX_0 rfl dX9_moveOrigin_35 (pc2 := 38) rfl ?_
      refine kg_getr clX7 rfl 0 (Nat.le_of_ble_eq_true rfl) lfRX9_148 tX_1 eX_1 rfl dX9_moveOrigin_38 (pc2 := 41) rfl ?_
      obtain ⟨r4, r4h, h⟩ := kw_bind_e h
      refine kg_callV (μ := μX9_moveOrigin) (d := (d + 4)) rfl mVX4_copyFrom [.ref 12] [] (gX4_copyFrom (E := E) (d := (d + 3)) 10 12 kx_4_10 kx_4_12 σ r4h) rfl lmRX9_185 (ci := 4) rfl tX_10 eX_10 rfl (Nat.le_of_ble_eq_true rfl) dX9_moveOrigin_41 rfl (st2 := []) rfl (pc2 := 44) rfl ?_
      refine kg_aload_n 0 dX9_moveOrigin_44 rfl (pc2 := 45) rfl ?_
      refine kg_iconst dX9_moveOrigin_45 ki_m1 (pc2 := 46) rfl ?_
      refine kg_iload_n 1 dX9_moveOrigin_46 rfl (pc2 := 47) rfl ?_
      obtain ⟨r5, r5h, h⟩ := kw_bind_e h
      refine kg_callV (μ := μX9_moveOrigin) (d := (d + 4)) rfl mVX9_doChange [.int (-1 : Int32), .int a1] [] (gX9_doChange (E := E) (d := d) (-1 : Int32) a1 r4 r5h) rfl lmRX9_192 (ci := 9) rfl tX_0 eX_0 rfl (Nat.le_of_ble_eq_true rfl) dX9_moveOrigin_47 rfl (st2 := [.int r5.1]) rfl (pc2 := 50) rfl ?_
      cases h
      exact kg_iret (ty := .int) dX9_moveOrigin_50 rfl rfl
    · replace h := (if_pos q3).symm.trans h
      refine kg_bipush dX9_moveOrigin_27 kb_m2 (pc2 := 29) rfl ?_
      cases h
      exact kg_iret (ty := .int) dX9_moveOrigin_29 rfl rfl
  · replace h := (if_pos q2).symm.trans h
    refine kg_iconst dX9_moveOrigin_14 ki_m1 (pc2 := 15) rfl ?_
    cases h
    exact kg_iret (ty := .int) dX9_moveOrigin_15 rfl rfl
set_option maxHeartbeats 4000000 in
set_option maxRecDepth 100000 in
theorem gX9_watchTown {E : kw_E} {d : Nat} (a1 : Int32) (a2 : Int32) (σ : kw_M) {r : Int32 × kw_M} (h : fX9_watchTown a1 a2 σ = some r) : kw_Met E kwTX 48 (d + 1) μX9_watchTown [.ref 0, .int a1, .int a2] σ (some (Value.int r.1)) r.2 := by
  refine kw_enter plRX9 (Nat.le_of_ble_eq_true rfl) ?_
  show kw_G E kwTX 48 (d + 1) μX9_watchTown 0 [(0, .ref 0), (1, .int a1), (2, .int a2)] [] σ (some (Value.int r.1)) r.2
  unfold fX9_watchTown at h
  refine kg_aload_n 0 dX9_watchTown_0 rfl (pc2 := 1) rfl ?_
  refine kg_getr clX9 rfl 0 (Nat.le_of_ble_eq_true rfl) lfRX9_10 tX_0 eX_0 rfl dX9_watchTown_1 (pc2 := 4) rfl ?_
  refine kg_getr clX7 rfl 0 (Nat.le_of_ble_eq_true rfl) lfRX9_148 tX_1 eX_1 rfl dX9_watchTown_4 (pc2 := 7) rfl ?_
  refine kg_iload_n 1 dX9_watchTown_7 rfl (pc2 := 8) rfl ?_
  obtain ⟨r1, r1h, h⟩ := kw_bind_e h
  refine kg_callV (μ := μX9_watchTown) (d := d) rfl mVX4_hasTown [.int a1] [] (gX4_hasTown (E := E) (d := d) a1 σ r1h) rfl lmRX9_176 (ci := 4) rfl tX_12 eX_12 rfl (Nat.le_of_ble_eq_true rfl) dX9_watchTown_8 rfl (st2 := [.int r1]) rfl (pc2 := 11) rfl ?_
  refine kg_if_eq 21 dX9_watchTown_11 rfl (pc2 := 14) rfl (fun q2 => ?_) (fun q2 => ?_)
  · replace h := (if_pos q2).symm.trans h
    refine kg_iconst dX9_watchTown_21 ki_m1 (pc2 := 22) rfl ?_
    cases h
    exact kg_iret (ty := .int) dX9_watchTown_22 rfl rfl
  · replace h := (if_neg q2).symm.trans h
    refine kg_iload_n 2 dX9_watchTown_14 rfl (pc2 := 15) rfl ?_
    obtain ⟨r3, r3h, h⟩ := kw_bind_e h
    refine kg_callS (μ := μX9_watchTown) (d := d) rfl mSX9_isLength [.int a2] [] (gX9_isLength (E := E) (d := d) a2 σ r3h) rfl lmRX9_179 rfl (Nat.le_of_ble_eq_true rfl) dX9_watchTown_15 rfl (st2 := [.int r3]) rfl (pc2 := 18) rfl ?_
    refine kg_if_ne 23 dX9_watchTown_18 rfl (pc2 := 21) rfl (fun q4 => ?_) (fun q4 => ?_)
    · replace h := (if_neg q4).symm.trans h
      refine kg_aload_n 0 dX9_watchTown_23 rfl (pc2 := 24) rfl ?_
      refine kg_getr clX9 rfl 0 (Nat.le_of_ble_eq_true rfl) lfRX9_10 tX_0 eX_0 rfl dX9_watchTown_24 (pc2 := 27) rfl ?_
      refine kg_dup dX9_watchTown_27 rfl (pc2 := 28) rfl ?_
      refine kg_geti clX7 rfl 5 (Nat.le_of_ble_eq_true rfl) lfRX9_245 tX_1 eX_1 rfl dX9_watchTown_28 (pc2 := 31) rfl ?_
      refine kg_iconst dX9_watchTown_31 ki_1 (pc2 := 32) rfl ?_
      refine kg_iload_n 1 dX9_watchTown_32 rfl (pc2 := 33) rfl ?_
      refine kg_ishl dX9_watchTown_33 (pc2 := 34) rfl ?_
      refine kg_ior dX9_watchTown_34 (pc2 := 35) rfl ?_
      obtain ⟨s5, s5e, h⟩ := kw_let_e h
      refine kg_puti clX7 rfl 5 (Nat.le_of_ble_eq_true rfl) lfRX9_245 rfl tX_1 eX_1 rfl (ty := .int) (by decide +kernel) rfl rfl s5e dX9_watchTown_35 (pc2 := 38) rfl ?_
      refine kg_aload_n 0 dX9_watchTown_38 rfl (pc2 := 39) rfl ?_
      refine kg_getr clX9 rfl 0 (Nat.le_of_ble_eq_true rfl) lfRX9_10 tX_0 eX_0 rfl dX9_watchTown_39 (pc2 := 42) rfl ?_
      refine kg_getr clX7 rfl 6 (Nat.le_of_ble_eq_true rfl) lfRX9_318 tX_1 eX_1 rfl dX9_watchTown_42 (pc2 := 45) rfl ?_
      refine kg_iload_n 1 dX9_watchTown_45 rfl (pc2 := 46) rfl ?_
      refine kg_iload_n 2 dX9_watchTown_46 rfl (pc2 := 47) rfl ?_
      obtain ⟨q6, h⟩ := kw_chk_e h
      obtain ⟨s7, s7e, h⟩ := kw_let_e h
      refine kg_iast tX_14 eX_14 q6 (j := a1.toNatClampNeg) rfl s7e dX9_watchTown_47 (pc2 := 48) rfl ?_
      refine kg_aload_n 0 dX9_watchTown_48 rfl (pc2 := 49) rfl ?_
      refine kg_getr clX9 rfl 0 (Nat.le_of_ble_eq_true rfl) lfRX9_10 tX_0 eX_0 rfl dX9_watchTown_49 (pc2 := 52) rfl ?_
      refine kg_iload_n 1 dX9_watchTown_52 rfl (pc2 := 53) rfl ?_
      obtain ⟨r8, r8h, h⟩ := kw_bind_e h
      refine kg_callV (μ := μX9_watchTown) (d := d) rfl mVX7_isBeyond [.int a1] [] (gX7_isBeyond (E := E) (d := d) a1 s7 r8h) rfl lmRX9_425 (ci := 7) rfl tX_1 eX_1 rfl (Nat.le_of_ble_eq_true rfl) dX9_watchTown_53 rfl (st2 := [.int r8]) rfl (pc2 := 56) rfl ?_
      refine kg_if_eq 63 dX9_watchTown_56 rfl (pc2 := 59) rfl (fun q9 => ?_) (fun q9 => ?_)
      · replace h := (if_pos q9).symm.trans h
        refine kg_iconst dX9_watchTown_63 ki_0 (pc2 := 64) rfl ?_
        cases h
        exact kg_iret (ty := .int) dX9_watchTown_64 rfl rfl
      · replace h := (if_neg q9).symm.trans h
        refine kg_iconst dX9_watchTown_59 ki_1 (pc2 := 60) rfl ?_
        refine kg_goto 64 dX9_watchTown_60 rfl ?_
        cases h
        exact kg_iret (ty := .int) dX9_watchTown_64 rfl rfl
    · replace h := (if_pos q4).symm.trans h
      refine kg_iconst dX9_watchTown_21 ki_m1 (pc2 := 22) rfl ?_
      cases h
      exact kg_iret (ty := .int) dX9_watchTown_22 rfl rfl
