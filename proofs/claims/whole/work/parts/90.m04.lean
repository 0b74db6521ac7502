/-! The reference, method by method: the machine does what f says (g). -/
set_option maxHeartbeats 4000000 in
set_option maxRecDepth 100000 in
theorem gX10_slackOf {E : kw_E} {d : Nat} (a1 : Int32) (σ : kw_M) {r : Int64} (h : fX10_slackOf a1 σ = some r) : kw_Met E kwTM 21 (d + 1) μX10_slackOf [.ref 0, .int a1] σ (some (Value.long r)) σ := by
  refine kw_enter plRX10 (Nat.le_of_ble_eq_true rfl) ?_
  show kw_G E kwTM 21 (d + 1) μX10_slackOf 0 [(0, .ref 0), (1, .int a1)] [] σ (some (Value.long r)) σ
  unfold fX10_slackOf at h
  refine kg_aload_n 0 dX10_slackOf_0 rfl (pc2 := 1) rfl ?_
  refine kg_getr clX10 rfl 3 (Nat.le_of_ble_eq_true rfl) lfRX10_17 tM_0 eM_0 rfl dX10_slackOf_1 (pc2 := 4) rfl ?_
  refine kg_aload_n 0 dX10_slackOf_4 rfl (pc2 := 5) rfl ?_
  refine kg_iload_n 1 dX10_slackOf_5 rfl (pc2 := 6) rfl ?_
  refine kg_iconst dX10_slackOf_6 ki_0 (pc2 := 7) rfl ?_
  obtain ⟨r1, r1h, h⟩ := kw_bind_e h
  refine kg_callV (μ := μX10_slackOf) (d := d) rfl mVX10_of [.int a1, .int (0 : Int32)] [.ref 3] (gX10_of (E := E) (d := d) a1 (0 : Int32) σ r1h) rfl lmRX10_73 (ci := 10) rfl tM_0 eM_0 rfl (Nat.le_of_ble_eq_true rfl) dX10_slackOf_7 rfl (st2 := [.int r1, .ref 3]) rfl (pc2 := 10) rfl ?_
  obtain ⟨q2, h⟩ := kw_chk_e h
  refine kg_lald tM_3 eM_3 q2 (j := r1.toNatClampNeg) rfl dX10_slackOf_10 (pc2 := 11) rfl ?_
  refine kg_ldc2 rfl lcRX10_89 dX10_slackOf_11 (pc2 := 14) rfl ?_
  refine kg_lcmp_eq 36 dX10_slackOf_14 dX10_slackOf_15 rfl (pc2 := 18) rfl (fun q3 => ?_) (fun q3 => ?_)
  · replace h := (if_pos q3).symm.trans h
    refine kg_ldc2 rfl lcRX10_89 dX10_slackOf_36 (pc2 := 39) rfl ?_
    cases h
    exact kg_lret dX10_slackOf_39 rfl
  · replace h := (if_neg q3).symm.trans h
    refine kg_aload_n 0 dX10_slackOf_18 rfl (pc2 := 19) rfl ?_
    refine kg_getr clX10 rfl 3 (Nat.le_of_ble_eq_true rfl) lfRX10_17 tM_0 eM_0 rfl dX10_slackOf_19 (pc2 := 22) rfl ?_
    refine kg_aload_n 0 dX10_slackOf_22 rfl (pc2 := 23) rfl ?_
    refine kg_iload_n 1 dX10_slackOf_23 rfl (pc2 := 24) rfl ?_
    refine kg_iconst dX10_slackOf_24 ki_1 (pc2 := 25) rfl ?_
    obtain ⟨r4, r4h, h⟩ := kw_bind_e h
    refine kg_callV (μ := μX10_slackOf) (d := d) rfl mVX10_of [.int a1, .int (1 : Int32)] [.ref 3] (gX10_of (E := E) (d := d) a1 (1 : Int32) σ r4h) rfl lmRX10_73 (ci := 10) rfl tM_0 eM_0 rfl (Nat.le_of_ble_eq_true rfl) dX10_slackOf_25 rfl (st2 := [.int r4, .ref 3]) rfl (pc2 := 28) rfl ?_
    obtain ⟨q5, h⟩ := kw_chk_e h
    refine kg_lald tM_3 eM_3 q5 (j := r4.toNatClampNeg) rfl dX10_slackOf_28 (pc2 := 29) rfl ?_
    refine kg_ldc2 rfl lcRX10_89 dX10_slackOf_29 (pc2 := 32) rfl ?_
    refine kg_lcmp_ne 40 dX10_slackOf_32 dX10_slackOf_33 rfl (pc2 := 36) rfl (fun q6 => ?_) (fun q6 => ?_)
    · replace h := (if_neg q6).symm.trans h
      refine kg_aload_n 0 dX10_slackOf_40 rfl (pc2 := 41) rfl ?_
      refine kg_getr clX10 rfl 3 (Nat.le_of_ble_eq_true rfl) lfRX10_17 tM_0 eM_0 rfl dX10_slackOf_41 (pc2 := 44) rfl ?_
      refine kg_aload_n 0 dX10_slackOf_44 rfl (pc2 := 45) rfl ?_
      refine kg_iload_n 1 dX10_slackOf_45 rfl (pc2 := 46) rfl ?_
      refine kg_iconst dX10_slackOf_46 ki_0 (pc2 := 47) rfl ?_
      obtain ⟨r7, r7h, h⟩ := kw_bind_e h
      refine kg_callV (μ := μX10_slackOf) (d := d) rfl mVX10_of [.int a1, .int (0 : Int32)] [.ref 3] (gX10_of (E := E) (d := d) a1 (0 : Int32) σ r7h) rfl lmRX10_73 (ci := 10) rfl tM_0 eM_0 rfl (Nat.le_of_ble_eq_true rfl) dX10_slackOf_47 rfl (st2 := [.int r7, .ref 3]) rfl (pc2 := 50) rfl ?_
      obtain ⟨q8, h⟩ := kw_chk_e h
      refine kg_lald tM_3 eM_3 q8 (j := r7.toNatClampNeg) rfl dX10_slackOf_50 (pc2 := 51) rfl ?_
      refine kg_aload_n 0 dX10_slackOf_51 rfl (pc2 := 52) rfl ?_
      refine kg_iload_n 1 dX10_slackOf_52 rfl (pc2 := 53) rfl ?_
      refine kg_iconst dX10_slackOf_53 ki_2 (pc2 := 54) rfl ?_
      obtain ⟨r9, r9h, h⟩ := kw_bind_e h
      refine kg_callV (μ := μX10_slackOf) (d := d) rfl mVX10_of [.int a1, .int (2 : Int32)] [.long (σ.2 3 r7.toNatClampNeg)] (gX10_of (E := E) (d := d) a1 (2 : Int32) σ r9h) rfl lmRX10_73 (ci := 10) rfl tM_0 eM_0 rfl (Nat.le_of_ble_eq_true rfl) dX10_slackOf_54 rfl (st2 := [.int r9, .long (σ.2 3 r7.toNatClampNeg)]) rfl (pc2 := 57) rfl ?_
      refine kg_i2l dX10_slackOf_57 (pc2 := 58) rfl ?_
      refine kg_ladd dX10_slackOf_58 (pc2 := 59) rfl ?_
      refine kg_aload_n 0 dX10_slackOf_59 rfl (pc2 := 60) rfl ?_
      refine kg_getr clX10 rfl 3 (Nat.le_of_ble_eq_true rfl) lfRX10_17 tM_0 eM_0 rfl dX10_slackOf_60 (pc2 := 63) rfl ?_
      refine kg_aload_n 0 dX10_slackOf_63 rfl (pc2 := 64) rfl ?_
      refine kg_iload_n 1 dX10_slackOf_64 rfl (pc2 := 65) rfl ?_
      refine kg_iconst dX10_slackOf_65 ki_1 (pc2 := 66) rfl ?_
      obtain ⟨r10, r10h, h⟩ := kw_bind_e h
      refine kg_callV (μ := μX10_slackOf) (d := d) rfl mVX10_of [.int a1, .int (1 : Int32)] [.ref 3, .long ((σ.2 3 r7.toNatClampNeg) + r9.toInt64)] (gX10_of (E := E) (d := d) a1 (1 : Int32) σ r10h) rfl lmRX10_73 (ci := 10) rfl tM_0 eM_0 rfl (Nat.le_of_ble_eq_true rfl) dX10_slackOf_66 rfl (st2 := [.int r10, .ref 3, .long ((σ.2 3 r7.toNatClampNeg) + r9.toInt64)]) rfl (pc2 := 69) rfl ?_
      obtain ⟨q11, h⟩ := kw_chk_e h
      refine kg_lald tM_3 eM_3 q11 (j := r10.toNatClampNeg) rfl dX10_slackOf_69 (pc2 := 70) rfl ?_
      refine kg_lsub dX10_slackOf_70 (pc2 := 71) rfl ?_
      cases h
      exact kg_lret dX10_slackOf_71 rfl
    · replace h := (if_pos q6).symm.trans h
      refine kg_ldc2 rfl lcRX10_89 dX10_slackOf_36 (pc2 := 39) rfl ?_
      cases h
      exact kg_lret dX10_slackOf_39 rfl
set_option maxHeartbeats 4000000 in
set_option maxRecDepth 100000 in
theorem gX10_isTight {E : kw_E} {d : Nat} (a1 : Int32) (σ : kw_M) {r : Int32} (h : fX10_isTight a1 σ = some r) : kw_Met E kwTM 21 (d + 2) μX10_isTight [.ref 0, .int a1] σ (some (Value.int r)) σ := by
  refine kw_enter plRX10 (Nat.le_of_ble_eq_true rfl) ?_
  show kw_G E kwTM 21 (d + 2) μX10_isTight 0 [(0, .ref 0), (1, .int a1)] [] σ (some (Value.int r)) σ
  unfold fX10_isTight at h
  refine kg_aload_n 0 dX10_isTight_0 rfl (pc2 := 1) rfl ?_
  refine kg_iload_n 1 dX10_isTight_1 rfl (pc2 := 2) rfl ?_
  obtain ⟨r1, r1h, h⟩ := kw_bind_e h
  refine kg_callV (μ := μX10_isTight) (d := (d + 1)) rfl mVX10_isOpen [.int a1] [] (gX10_isOpen (E := E) (d := d) a1 σ r1h) rfl lmRX10_91 (ci := 10) rfl tM_0 eM_0 rfl (Nat.le_of_ble_eq_true rfl) dX10_isTight_2 rfl (st2 := [.int r1]) rfl (pc2 := 5) rfl ?_
  refine kg_if_eq 22 dX10_isTight_5 rfl (pc2 := 8) rfl (fun q2 => ?_) (fun q2 => ?_)
  · replace h := (if_pos q2).symm.trans h
    refine kg_iconst dX10_isTight_22 ki_0 (pc2 := 23) rfl ?_
    cases h
    exact kg_iret (ty := .boolean) dX10_isTight_23 rfl rfl
  · replace h := (if_neg q2).symm.trans h
    refine kg_aload_n 0 dX10_isTight_8 rfl (pc2 := 9) rfl ?_
    refine kg_iload_n 1 dX10_isTight_9 rfl (pc2 := 10) rfl ?_
    obtain ⟨r3, r3h, h⟩ := kw_bind_e h
    refine kg_callV (μ := μX10_isTight) (d := (d + 1)) rfl mVX10_slackOf [.int a1] [] (gX10_slackOf (E := E) (d := d) a1 σ r3h) rfl lmRX10_299 (ci := 10) rfl tM_0 eM_0 rfl (Nat.le_of_ble_eq_true rfl) dX10_isTight_10 rfl (st2 := [.long r3]) rfl (pc2 := 13) rfl ?_
    refine kg_lconst dX10_isTight_13 kl_0 (pc2 := 14) rfl ?_
    refine kg_lcmp_ne 22 dX10_isTight_14 dX10_isTight_15 rfl (pc2 := 18) rfl (fun q4 => ?_) (fun q4 => ?_)
    · replace h := (if_neg q4).symm.trans h
      refine kg_iconst dX10_isTight_22 ki_0 (pc2 := 23) rfl ?_
      cases h
      exact kg_iret (ty := .boolean) dX10_isTight_23 rfl rfl
    · replace h := (if_pos q4).symm.trans h
      refine kg_iconst dX10_isTight_18 ki_1 (pc2 := 19) rfl ?_
      refine kg_goto 23 dX10_isTight_19 rfl ?_
      cases h
      exact kg_iret (ty := .boolean) dX10_isTight_23 rfl rfl
set_option maxHeartbeats 4000000 in
set_option maxRecDepth 100000 in
theorem lX10_tightTo_4 {E : kw_E} {d : Nat} (v1 : Int32) (σ : kw_M) (v2 : Int32) (v3 : Int32) {v : Option Value} {σ2 : kw_M} {o : (Int32 × Int32) ⊕ (Int32)} (h : bX10_tightTo_4 v1 σ v2 v3 = some o) (hk : Sum.elim (fun s => kw_G E kwTM 21 (d + 3) μX10_tightTo 4 [(0, .ref 0), (1, .int v1), (2, .int s.1), (3, .int s.2)] [] σ v σ2) (fun y => kw_G E kwTM 21 (d + 3) μX10_tightTo 42 [(2, .int y)] [] σ v σ2) o) : kw_G E kwTM 21 (d + 3) μX10_tightTo 4 [(0, .ref 0), (1, .int v1), (2, .int v2), (3, .int v3)] [] σ v σ2 := by
  unfold bX10_tightTo_4 at h
  refine kg_iload_n 3 dX10_tightTo_4 rfl (pc2 := 5) rfl ?_
  refine kg_aload_n 0 dX10_tightTo_5 rfl (pc2 := 6) rfl ?_
  refine kg_getr clX10 rfl 0 (Nat.le_of_ble_eq_true rfl) lfRX10_7 tM_0 eM_0 rfl dX10_tightTo_6 (pc2 := 9) rfl ?_
  refine kg_iconst dX10_tightTo_9 ki_1 (pc2 := 10) rfl ?_
  refine kg_iald tM_1 eM_1 (show kw_in (1 : Int32) 2832 by decide) (j := 1) (by decide) dX10_tightTo_10 (pc2 := 11) rfl ?_
  refine kg_icmp_ge 42 dX10_tightTo_11 rfl (pc2 := 14) rfl (fun q1 => ?_) (fun q1 => ?_)
  · replace h := (if_pos q1).symm.trans h
    refine kg_sub [2] (lv2 := [(2, .int v2)]) rfl ?_
    cases h
    exact hk
  · replace h := (if_neg q1).symm.trans h
    refine kg_aload_n 0 dX10_tightTo_14 rfl (pc2 := 15) rfl ?_
    refine kg_iload_n 3 dX10_tightTo_15 rfl (pc2 := 16) rfl ?_
    obtain ⟨r2, r2h, h⟩ := kw_bind_e h
    refine kg_callV (μ := μX10_tightTo) (d := (d + 2)) rfl mVX10_isTight [.int v3] [] (gX10_isTight (E := E) (d := d) v3 σ r2h) rfl lmRX10_303 (ci := 10) rfl tM_0 eM_0 rfl (Nat.le_of_ble_eq_true rfl) dX10_tightTo_16 rfl (st2 := [.int r2]) rfl (pc2 := 19) rfl ?_
    refine kg_if_eq 36 dX10_tightTo_19 rfl (pc2 := 22) rfl (fun q3 => ?_) (fun q3 => ?_)
    · replace h := (if_pos q3).symm.trans h
      obtain ⟨x4, x4e, h⟩ := kw_let_e h
      refine kg_iinc 3 dX10_tightTo_36 rfl (Nat.le_of_ble_eq_true rfl) x4e (lv2 := [(3, .int x4), (0, .ref 0), (1, .int v1), (2, .int v2)]) rfl (pc2 := 39) rfl ?_
      refine kg_goto 4 dX10_tightTo_39 rfl ?_
      refine kg_sub [1, 2, 3, 0] (lv2 := [(0, .ref 0), (1, .int v1), (2, .int v2), (3, .int x4)]) rfl ?_
      cases h
      exact hk
    · replace h := (if_neg q3).symm.trans h
      refine kg_aload_n 0 dX10_tightTo_22 rfl (pc2 := 23) rfl ?_
      refine kg_iload_n 3 dX10_tightTo_23 rfl (pc2 := 24) rfl ?_
      refine kg_iconst dX10_tightTo_24 ki_1 (pc2 := 25) rfl ?_
      obtain ⟨r5, r5h, h⟩ := kw_bind_e h
      refine kg_callV (μ := μX10_tightTo) (d := (d + 2)) rfl mVX10_of [.int v3, .int (1 : Int32)] [] (gX10_of (E := E) (d := (d + 2)) v3 (1 : Int32) σ r5h) rfl lmRX10_73 (ci := 10) rfl tM_0 eM_0 rfl (Nat.le_of_ble_eq_true rfl) dX10_tightTo_25 rfl (st2 := [.int r5]) rfl (pc2 := 28) rfl ?_
      refine kg_iload_n 1 dX10_tightTo_28 rfl (pc2 := 29) rfl ?_
      refine kg_icmp_ne 36 dX10_tightTo_29 rfl (pc2 := 32) rfl (fun q6 => ?_) (fun q6 => ?_)
      · replace h := (if_neg q6).symm.trans h
        obtain ⟨x7, x7e, h⟩ := kw_let_e h
        refine kg_iinc 3 dX10_tightTo_36 rfl (Nat.le_of_ble_eq_true rfl) x7e (lv2 := [(3, .int x7), (0, .ref 0), (1, .int v1), (2, .int v2)]) rfl (pc2 := 39) rfl ?_
        refine kg_goto 4 dX10_tightTo_39 rfl ?_
        refine kg_sub [1, 2, 3, 0] (lv2 := [(0, .ref 0), (1, .int v1), (2, .int v2), (3, .int x7)]) rfl ?_
        cases h
        exact hk
      · replace h := (if_pos q6).symm.trans h
        refine kg_iload_n 2 dX10_tightTo_32 rfl (pc2 := 33) rfl ?_
        refine kg_iconst dX10_tightTo_33 ki_1 (pc2 := 34) rfl ?_
        refine kg_iadd dX10_tightTo_34 (pc2 := 35) rfl ?_
        obtain ⟨x8, x8e, h⟩ := kw_let_e h
        refine kg_istore_n dX10_tightTo_35 rfl (Nat.le_of_ble_eq_true rfl) x8e (lv2 := [(2, .int x8), (0, .ref 0), (1, .int v1), (3, .int v3)]) rfl (pc2 := 36) rfl ?_
        obtain ⟨x9, x9e, h⟩ := kw_let_e h
        refine kg_iinc 3 dX10_tightTo_36 rfl (Nat.le_of_ble_eq_true rfl) x9e (lv2 := [(3, .int x9), (2, .int x8), (0, .ref 0), (1, .int v1)]) rfl (pc2 := 39) rfl ?_
        refine kg_goto 4 dX10_tightTo_39 rfl ?_
        refine kg_sub [2, 3, 1, 0] (lv2 := [(0, .ref 0), (1, .int v1), (2, .int x8), (3, .int x9)]) rfl ?_
        cases h
        exact hk
set_option maxHeartbeats 4000000 in
set_option maxRecDepth 100000 in
theorem gX10_tightTo {E : kw_E} {d : Nat} (a1 : Int32) (σ : kw_M) {r : Int32} (h : fX10_tightTo a1 σ = some r) : kw_Met E kwTM 21 (d + 3) μX10_tightTo [.ref 0, .int a1] σ (some (Value.int r)) σ := by
  refine kw_enter plRX10 (Nat.le_of_ble_eq_true rfl) ?_
  show kw_G E kwTM 21 (d + 3) μX10_tightTo 0 [(0, .ref 0), (1, .int a1)] [] σ (some (Value.int r)) σ
  unfold fX10_tightTo at h
  refine kg_iconst dX10_tightTo_0 ki_0 (pc2 := 1) rfl ?_
  refine kg_istore_n dX10_tightTo_1 rfl (Nat.le_of_ble_eq_true rfl) rfl (lv2 := [(2, .int (0 : Int32)), (0, .ref 0), (1, .int a1)]) rfl (pc2 := 2) rfl ?_
  refine kg_iconst dX10_tightTo_2 ki_0 (pc2 := 3) rfl ?_
  refine kg_istore_n dX10_tightTo_3 rfl (Nat.le_of_ble_eq_true rfl) rfl (lv2 := [(3, .int (0 : Int32)), (2, .int (0 : Int32)), (0, .ref 0), (1, .int a1)]) rfl (pc2 := 4) rfl ?_
  refine kg_sub [2, 3, 1, 0] (lv2 := [(0, .ref 0), (1, .int a1), (2, .int (0 : Int32)), (3, .int (0 : Int32))]) rfl ?_
  obtain ⟨x10, x10h, h⟩ := kw_bind_e h
  refine kw_loop_e (P := fun s => kw_G E kwTM 21 (d + 3) μX10_tightTo 4 [(0, .ref 0), (1, .int a1), (2, .int s.1), (3, .int s.2)] [] σ (some (Value.int r)) σ) (K := fun y => kw_G E kwTM 21 (d + 3) μX10_tightTo 42 [(2, .int y)] [] σ (some (Value.int r)) σ) (fun s o h0 hk => lX10_tightTo_4 a1 σ s.1 s.2 h0 hk) kw_F _ _ x10h ?_
  show kw_G E kwTM 21 (d + 3) μX10_tightTo 42 [(2, .int x10)] [] σ (some (Value.int r)) σ
  refine kg_iload_n 0 dX10_tightTo_42 rfl (pc2 := 43) rfl ?_
  cases h
  exact kg_iret (ty := .int) dX10_tightTo_43 rfl rfl
set_option maxHeartbeats 4000000 in
set_option maxRecDepth 100000 in
theorem lX10_parentOf_2 {E : kw_E} {d : Nat} (v1 : Int32) (σ : kw_M) (v2 : Int32) {v : Option Value} {σ2 : kw_M} {o : (Int32) ⊕ ((Int32) ⊕ (Unit))} (h : bX10_parentOf_2 v1 σ v2 = some o) (hk : Sum.elim (fun s => kw_G E kwTM 21 (d + 3) μX10_parentOf 2 [(0, .ref 0), (1, .int v1), (2, .int s)] [] σ v σ2) (Sum.elim (fun rr => v = some (Value.int rr) ∧ σ2 = σ) (fun y => kw_G E kwTM 21 (d + 3) μX10_parentOf 38 [] [] σ v σ2)) o) : kw_G E kwTM 21 (d + 3) μX10_parentOf 2 [(0, .ref 0), (1, .int v1), (2, .int v2)] [] σ v σ2 := by
  unfold bX10_parentOf_2 at h
  refine kg_iload_n 2 dX10_parentOf_2 rfl (pc2 := 3) rfl ?_
  refine kg_aload_n 0 dX10_parentOf_3 rfl (pc2 := 4) rfl ?_
  refine kg_getr clX10 rfl 0 (Nat.le_of_ble_eq_true rfl) lfRX10_7 tM_0 eM_0 rfl dX10_parentOf_4 (pc2 := 7) rfl ?_
  refine kg_iconst dX10_parentOf_7 ki_1 (pc2 := 8) rfl ?_
  refine kg_iald tM_1 eM_1 (show kw_in (1 : Int32) 2832 by decide) (j := 1) (by decide) dX10_parentOf_8 (pc2 := 9) rfl ?_
  refine kg_icmp_ge 38 dX10_parentOf_9 rfl (pc2 := 12) rfl (fun q1 => ?_) (fun q1 => ?_)
  · replace h := (if_pos q1).symm.trans h
    refine kg_sub [] (lv2 := []) rfl ?_
    cases h
    exact hk
  · replace h := (if_neg q1).symm.trans h
    refine kg_aload_n 0 dX10_parentOf_12 rfl (pc2 := 13) rfl ?_
    refine kg_iload_n 2 dX10_parentOf_13 rfl (pc2 := 14) rfl ?_
    obtain ⟨r2, r2h, h⟩ := kw_bind_e h
    refine kg_callV (μ := μX10_parentOf) (d := (d + 2)) rfl mVX10_isTight [.int v2] [] (gX10_isTight (E := E) (d := d) v2 σ r2h) rfl lmRX10_303 (ci := 10) rfl tM_0 eM_0 rfl (Nat.le_of_ble_eq_true rfl) dX10_parentOf_14 rfl (st2 := [.int r2]) rfl (pc2 := 17) rfl ?_
    refine kg_if_eq 32 dX10_parentOf_17 rfl (pc2 := 20) rfl (fun q3 => ?_) (fun q3 => ?_)
    · replace h := (if_pos q3).symm.trans h
      obtain ⟨x4, x4e, h⟩ := kw_let_e h
      refine kg_iinc 2 dX10_parentOf_32 rfl (Nat.le_of_ble_eq_true rfl) x4e (lv2 := [(2, .int x4), (0, .ref 0), (1, .int v1)]) rfl (pc2 := 35) rfl ?_
      refine kg_goto 2 dX10_parentOf_35 rfl ?_
      refine kg_sub [1, 2, 0] (lv2 := [(0, .ref 0), (1, .int v1), (2, .int x4)]) rfl ?_
      cases h
      exact hk
    · replace h := (if_neg q3).symm.trans h
      refine kg_aload_n 0 dX10_parentOf_20 rfl (pc2 := 21) rfl ?_
      refine kg_iload_n 2 dX10_parentOf_21 rfl (pc2 := 22) rfl ?_
      refine kg_iconst dX10_parentOf_22 ki_1 (pc2 := 23) rfl ?_
      obtain ⟨r5, r5h, h⟩ := kw_bind_e h
      refine kg_callV (μ := μX10_parentOf) (d := (d + 2)) rfl mVX10_of [.int v2, .int (1 : Int32)] [] (gX10_of (E := E) (d := (d + 2)) v2 (1 : Int32) σ r5h) rfl lmRX10_73 (ci := 10) rfl tM_0 eM_0 rfl (Nat.le_of_ble_eq_true rfl) dX10_parentOf_23 rfl (st2 := [.int r5]) rfl (pc2 := 26) rfl ?_
      refine kg_iload_n 1 dX10_parentOf_26 rfl (pc2 := 27) rfl ?_
      refine kg_icmp_ne 32 dX10_parentOf_27 rfl (pc2 := 30) rfl (fun q6 => ?_) (fun q6 => ?_)
      · replace h := (if_neg q6).symm.trans h
        obtain ⟨x7, x7e, h⟩ := kw_let_e h
        refine kg_iinc 2 dX10_parentOf_32 rfl (Nat.le_of_ble_eq_true rfl) x7e (lv2 := [(2, .int x7), (0, .ref 0), (1, .int v1)]) rfl (pc2 := 35) rfl ?_
        refine kg_goto 2 dX10_parentOf_35 rfl ?_
        refine kg_sub [1, 2, 0] (lv2 := [(0, .ref 0), (1, .int v1), (2, .int x7)]) rfl ?_
        cases h
        exact hk
      · replace h := (if_pos q6).symm.trans h
        refine kg_iload_n 2 dX10_parentOf_30 rfl (pc2 := 31) rfl ?_
        cases h
        obtain ⟨rfl, rfl⟩ := hk
        exact kg_iret (ty := .int) dX10_parentOf_31 rfl rfl
set_option maxHeartbeats 4000000 in
set_option maxRecDepth 100000 in
theorem gX10_parentOf {E : kw_E} {d : Nat} (a1 : Int32) (σ : kw_M) {r : Int32} (h : fX10_parentOf a1 σ = some r) : kw_Met E kwTM 21 (d + 3) μX10_parentOf [.ref 0, .int a1] σ (some (Value.int r)) σ := by
  refine kw_enter plRX10 (Nat.le_of_ble_eq_true rfl) ?_
  show kw_G E kwTM 21 (d + 3) μX10_parentOf 0 [(0, .ref 0), (1, .int a1)] [] σ (some (Value.int r)) σ
  unfold fX10_parentOf at h
  refine kg_iconst dX10_parentOf_0 ki_0 (pc2 := 1) rfl ?_
  refine kg_istore_n dX10_parentOf_1 rfl (Nat.le_of_ble_eq_true rfl) rfl (lv2 := [(2, .int (0 : Int32)), (0, .ref 0), (1, .int a1)]) rfl (pc2 := 2) rfl ?_
  refine kg_sub [1, 2, 0] (lv2 := [(0, .ref 0), (1, .int a1), (2, .int (0 : Int32))]) rfl ?_
  obtain ⟨x8, x8h, h⟩ := kw_bind_e h
  refine kw_loop_e (P := fun s => kw_G E kwTM 21 (d + 3) μX10_parentOf 2 [(0, .ref 0), (1, .int a1), (2, .int s)] [] σ (some (Value.int r)) σ) (K := Sum.elim (fun rr => (some (Value.int r)) = some (Value.int rr) ∧ σ = σ) (fun y => kw_G E kwTM 21 (d + 3) μX10_parentOf 38 [] [] σ (some (Value.int r)) σ)) (fun s o h0 hk => lX10_parentOf_2 a1 σ s h0 hk) kw_F _ _ x8h ?_
  rcases x8 with x8r | x8
  · replace h := kw_se_l h
    cases h
    exact ⟨rfl, rfl⟩
  · replace h := kw_se_r h
    show kw_G E kwTM 21 (d + 3) μX10_parentOf 38 [] [] σ (some (Value.int r)) σ
    refine kg_iconst dX10_parentOf_38 ki_m1 (pc2 := 39) rfl ?_
    cases h
    exact kg_iret (ty := .int) dX10_parentOf_39 rfl rfl
set_option maxHeartbeats 4000000 in
set_option maxRecDepth 100000 in
theorem lX10_goesBack_19 {E : kw_E} {d : Nat} (v2 : Int32) (v3 : Int32) (σ : kw_M) {v : Option Value} {σ2 : kw_M} {o : (Int32 × Int32 × kw_M) ⊕ (Int32 × kw_M)} (h : bX10_goesBack_19 v2 v3 σ = some o) (hk : Sum.elim (fun s => kw_G E kwTM 21 (d + 4) μX10_goesBack 19 [(0, .ref 0), (2, .int s.1), (3, .int s.2.1)] [] s.2.2 v σ2) (fun y => kw_G E kwTM 21 (d + 4) μX10_goesBack 59 [(2, .int y.1)] [] y.2 v σ2) o) : kw_G E kwTM 21 (d + 4) μX10_goesBack 19 [(0, .ref 0), (2, .int v2), (3, .int v3)] [] σ v σ2 := by
  unfold bX10_goesBack_19 at h
  refine kg_iload_n 2 dX10_goesBack_19 rfl (pc2 := 20) rfl ?_
  refine kg_aload_n 0 dX10_goesBack_20 rfl (pc2 := 21) rfl ?_
  refine kg_getr clX10 rfl 0 (Nat.le_of_ble_eq_true rfl) lfRX10_7 tM_0 eM_0 rfl dX10_goesBack_21 (pc2 := 24) rfl ?_
  refine kg_iconst dX10_goesBack_24 ki_2 (pc2 := 25) rfl ?_
  refine kg_iald tM_1 eM_1 (show kw_in (2 : Int32) 2832 by decide) (j := 2) (by decide) dX10_goesBack_25 (pc2 := 26) rfl ?_
  refine kg_icmp_eq 59 dX10_goesBack_26 rfl (pc2 := 29) rfl (fun q3 => ?_) (fun q3 => ?_)
  · replace h := (if_pos q3).symm.trans h
    refine kg_sub [1] (lv2 := [(2, .int v2)]) rfl ?_
    cases h
    exact hk
  · replace h := (if_neg q3).symm.trans h
    refine kg_aload_n 0 dX10_goesBack_29 rfl (pc2 := 30) rfl ?_
    refine kg_getr clX10 rfl 18 (Nat.le_of_ble_eq_true rfl) lfRX10_33 tM_0 eM_0 rfl dX10_goesBack_30 (pc2 := 33) rfl ?_
    refine kg_iload_n 1 dX10_goesBack_33 rfl (pc2 := 34) rfl ?_
    refine kg_aload_n 0 dX10_goesBack_34 rfl (pc2 := 35) rfl ?_
    refine kg_iload_n 2 dX10_goesBack_35 rfl (pc2 := 36) rfl ?_
    obtain ⟨r4, r4h, h⟩ := kw_bind_e h
    refine kg_callV (μ := μX10_goesBack) (d := (d + 3)) rfl mVX10_parentOf [.int v3] [.int v2, .ref 8] (gX10_parentOf (E := E) (d := d) v3 σ r4h) rfl lmRX10_306 (ci := 10) rfl tM_0 eM_0 rfl (Nat.le_of_ble_eq_true rfl) dX10_goesBack_36 rfl (st2 := [.int r4, .int v2, .ref 8]) rfl (pc2 := 39) rfl ?_
    obtain ⟨q5, h⟩ := kw_chk_e h
    obtain ⟨s6, s6e, h⟩ := kw_let_e h
    refine kg_iast tM_8 eM_8 q5 (j := v2.toNatClampNeg) rfl s6e dX10_goesBack_39 (pc2 := 40) rfl ?_
    refine kg_aload_n 0 dX10_goesBack_40 rfl (pc2 := 41) rfl ?_
    refine kg_aload_n 0 dX10_goesBack_41 rfl (pc2 := 42) rfl ?_
    refine kg_getr clX10 rfl 18 (Nat.le_of_ble_eq_true rfl) lfRX10_33 tM_0 eM_0 rfl dX10_goesBack_42 (pc2 := 45) rfl ?_
    refine kg_iload_n 1 dX10_goesBack_45 rfl (pc2 := 46) rfl ?_
    refine kg_iald tM_8 eM_8 q5 (j := v2.toNatClampNeg) rfl dX10_goesBack_46 (pc2 := 47) rfl ?_
    refine kg_iconst dX10_goesBack_47 ki_0 (pc2 := 48) rfl ?_
    obtain ⟨r7, r7h, h⟩ := kw_bind_e h
    refine kg_callV (μ := μX10_goesBack) (d := (d + 3)) rfl mVX10_of [.int (s6.1 8 v2.toNatClampNeg), .int (0 : Int32)] [] (gX10_of (E := E) (d := (d + 3)) (s6.1 8 v2.toNatClampNeg) (0 : Int32) s6 r7h) rfl lmRX10_73 (ci := 10) rfl tM_0 eM_0 rfl (Nat.le_of_ble_eq_true rfl) dX10_goesBack_48 rfl (st2 := [.int r7]) rfl (pc2 := 51) rfl ?_
    refine kg_istore_n dX10_goesBack_51 rfl (Nat.le_of_ble_eq_true rfl) rfl (lv2 := [(3, .int r7), (0, .ref 0), (2, .int v2)]) rfl (pc2 := 52) rfl ?_
    refine kg_iload_n 2 dX10_goesBack_52 rfl (pc2 := 53) rfl ?_
    refine kg_iconst dX10_goesBack_53 ki_1 (pc2 := 54) rfl ?_
    refine kg_iadd dX10_goesBack_54 (pc2 := 55) rfl ?_
    obtain ⟨x8, x8e, h⟩ := kw_let_e h
    refine kg_istore_n dX10_goesBack_55 rfl (Nat.le_of_ble_eq_true rfl) x8e (lv2 := [(2, .int x8), (3, .int r7), (0, .ref 0)]) rfl (pc2 := 56) rfl ?_
    refine kg_goto 19 dX10_goesBack_56 rfl ?_
    refine kg_sub [2, 0, 1] (lv2 := [(0, .ref 0), (2, .int x8), (3, .int r7)]) rfl ?_
    cases h
    exact hk
set_option maxHeartbeats 4000000 in
set_option maxRecDepth 100000 in
theorem gX10_goesBack {E : kw_E} {d : Nat} (a1 : Int32) (σ : kw_M) {r : Int32 × kw_M} (h : fX10_goesBack a1 σ = some r) : kw_Met E kwTM 21 (d + 4) μX10_goesBack [.ref 0, .int a1] σ (some (Value.int r.1)) r.2 := by
  refine kw_enter plRX10 (Nat.le_of_ble_eq_true rfl) ?_
  show kw_G E kwTM 21 (d + 4) μX10_goesBack 0 [(0, .ref 0), (1, .int a1)] [] σ (some (Value.int r.1)) r.2
  unfold fX10_goesBack at h
  refine kg_aload_n 0 dX10_goesBack_0 rfl (pc2 := 1) rfl ?_
  refine kg_getr clX10 rfl 3 (Nat.le_of_ble_eq_true rfl) lfRX10_17 tM_0 eM_0 rfl dX10_goesBack_1 (pc2 := 4) rfl ?_
  refine kg_iload_n 1 dX10_goesBack_4 rfl (pc2 := 5) rfl ?_
  obtain ⟨q1, h⟩ := kw_chk_e h
  refine kg_lald tM_3 eM_3 q1 (j := a1.toNatClampNeg) rfl dX10_goesBack_5 (pc2 := 6) rfl ?_
  refine kg_ldc2 rfl lcRX10_89 dX10_goesBack_6 (pc2 := 9) rfl ?_
  refine kg_lcmp_ne 15 dX10_goesBack_9 dX10_goesBack_10 rfl (pc2 := 13) rfl (fun q2 => ?_) (fun q2 => ?_)
  · replace h := (if_neg q2).symm.trans h
    refine kg_iconst dX10_goesBack_15 ki_0 (pc2 := 16) rfl ?_
    refine kg_istore_n dX10_goesBack_16 rfl (Nat.le_of_ble_eq_true rfl) rfl (lv2 := [(2, .int (0 : Int32)), (0, .ref 0), (1, .int a1)]) rfl (pc2 := 17) rfl ?_
    refine kg_iload_n 2 dX10_goesBack_17 rfl (pc2 := 18) rfl ?_
    refine kg_istore_n dX10_goesBack_18 rfl (Nat.le_of_ble_eq_true rfl) rfl (lv2 := [(3, .int a1), (2, .int (0 : Int32)), (0, .ref 0), (1, .int a1)]) rfl (pc2 := 19) rfl ?_
    refine kg_sub [2, 1, 0] (lv2 := [(0, .ref 0), (2, .int (0 : Int32)), (3, .int a1)]) rfl ?_
    obtain ⟨x9, x9h, h⟩ := kw_bind_e h
    refine kw_loop_e (P := fun s => kw_G E kwTM 21 (d + 4) μX10_goesBack 19 [(0, .ref 0), (2, .int s.1), (3, .int s.2.1)] [] s.2.2 (some (Value.int r.1)) r.2) (K := fun y => kw_G E kwTM 21 (d + 4) μX10_goesBack 59 [(2, .int y.1)] [] y.2 (some (Value.int r.1)) r.2) (fun s o h0 hk => lX10_goesBack_19 s.1 s.2.1 s.2.2 h0 hk) kw_F _ _ x9h ?_
    show kw_G E kwTM 21 (d + 4) μX10_goesBack 59 [(2, .int x9.1)] [] x9.2 (some (Value.int r.1)) r.2
    refine kg_iload_n 0 dX10_goesBack_59 rfl (pc2 := 60) rfl ?_
    cases h
    exact kg_iret (ty := .int) dX10_goesBack_60 rfl rfl
  · replace h := (if_pos q2).symm.trans h
    refine kg_iconst dX10_goesBack_13 ki_m1 (pc2 := 14) rfl ?_
    cases h
    exact kg_iret (ty := .int) dX10_goesBack_14 rfl rfl
set_option maxHeartbeats 4000000 in
set_option maxRecDepth 100000 in
theorem gjX10_countsWays_28_L2 {E : kw_E} {d : Nat} (v1 : Int32) (v2 : Int32) (t0 : Int64) (t1 : Int32) (σ : kw_M) {v : Option Value} {σ2 : kw_M} {o : (Int32 × kw_M) ⊕ (kw_M)} (h : jX10_countsWays_28_L2 v1 v2 t0 t1 σ = some o) (hk : Sum.elim (fun s => kw_G E kwTM 21 (d + 3) μX10_countsWays 2 [(0, .ref 0), (1, .int v1), (2, .int s.1)] [] s.2 v σ2) (fun y => kw_G E kwTM 21 (d + 3) μX10_countsWays 47 [(0, .ref 0), (1, .int v1)] [] y v σ2) o) : kw_G E kwTM 21 (d + 3) μX10_countsWays 28 [(0, .ref 0), (1, .int v1), (2, .int v2)] [.long t0, .int t1, .ref 9] σ v σ2 := by
  unfold jX10_countsWays_28_L2 at h
  obtain ⟨q3, h⟩ := kw_chk_e h
  obtain ⟨s4, s4e, h⟩ := kw_let_e h
  refine kg_last tM_9 eM_9 q3 (j := t1.toNatClampNeg) rfl s4e dX10_countsWays_28 (pc2 := 29) rfl ?_
  refine kg_aload_n 0 dX10_countsWays_29 rfl (pc2 := 30) rfl ?_
  refine kg_getr clX10 rfl 21 (Nat.le_of_ble_eq_true rfl) lfRX10_42 tM_0 eM_0 rfl dX10_countsWays_30 (pc2 := 33) rfl ?_
  refine kg_iload_n 2 dX10_countsWays_33 rfl (pc2 := 34) rfl ?_
  refine kg_aload_n 0 dX10_countsWays_34 rfl (pc2 := 35) rfl ?_
  refine kg_getr clX10 rfl 19 (Nat.le_of_ble_eq_true rfl) lfRX10_36 tM_0 eM_0 rfl dX10_countsWays_35 (pc2 := 38) rfl ?_
  refine kg_iload_n 2 dX10_countsWays_38 rfl (pc2 := 39) rfl ?_
  obtain ⟨q5, h⟩ := kw_chk_e h
  refine kg_lald tM_9 eM_9 q5 (j := v2.toNatClampNeg) rfl dX10_countsWays_39 (pc2 := 40) rfl ?_
  obtain ⟨s6, s6e, h⟩ := kw_let_e h
  refine kg_last tM_11 eM_11 q5 (j := v2.toNatClampNeg) rfl s6e dX10_countsWays_40 (pc2 := 41) rfl ?_
  obtain ⟨x7, x7e, h⟩ := kw_let_e h
  refine kg_iinc 2 dX10_countsWays_41 rfl (Nat.le_of_ble_eq_true rfl) x7e (lv2 := [(2, .int x7), (0, .ref 0), (1, .int v1)]) rfl (pc2 := 44) rfl ?_
  refine kg_goto 2 dX10_countsWays_44 rfl ?_
  refine kg_sub [1, 2, 0] (lv2 := [(0, .ref 0), (1, .int v1), (2, .int x7)]) rfl ?_
  cases h
  exact hk
set_option maxHeartbeats 4000000 in
set_option maxRecDepth 100000 in
theorem lX10_countsWays_2 {E : kw_E} {d : Nat} (v1 : Int32) (v2 : Int32) (σ : kw_M) {v : Option Value} {σ2 : kw_M} {o : (Int32 × kw_M) ⊕ (kw_M)} (h : bX10_countsWays_2 v1 v2 σ = some o) (hk : Sum.elim (fun s => kw_G E kwTM 21 (d + 3) μX10_countsWays 2 [(0, .ref 0), (1, .int v1), (2, .int s.1)] [] s.2 v σ2) (fun y => kw_G E kwTM 21 (d + 3) μX10_countsWays 47 [(0, .ref 0), (1, .int v1)] [] y v σ2) o) : kw_G E kwTM 21 (d + 3) μX10_countsWays 2 [(0, .ref 0), (1, .int v1), (2, .int v2)] [] σ v σ2 := by
  unfold bX10_countsWays_2 at h
  refine kg_iload_n 2 dX10_countsWays_2 rfl (pc2 := 3) rfl ?_
  refine kg_bipush dX10_countsWays_3 kb_12 (pc2 := 5) rfl ?_
  refine kg_icmp_ge 47 dX10_countsWays_5 rfl (pc2 := 8) rfl (fun q1 => ?_) (fun q1 => ?_)
  · replace h := (if_pos q1).symm.trans h
    refine kg_sub [0, 1] (lv2 := [(0, .ref 0), (1, .int v1)]) rfl ?_
    cases h
    exact hk
  · replace h := (if_neg q1).symm.trans h
    refine kg_aload_n 0 dX10_countsWays_8 rfl (pc2 := 9) rfl ?_
    refine kg_getr clX10 rfl 19 (Nat.le_of_ble_eq_true rfl) lfRX10_36 tM_0 eM_0 rfl dX10_countsWays_9 (pc2 := 12) rfl ?_
    refine kg_iload_n 2 dX10_countsWays_12 rfl (pc2 := 13) rfl ?_
    refine kg_iload_n 2 dX10_countsWays_13 rfl (pc2 := 14) rfl ?_
    refine kg_aload_n 0 dX10_countsWays_14 rfl (pc2 := 15) rfl ?_
    refine kg_getr clX10 rfl 0 (Nat.le_of_ble_eq_true rfl) lfRX10_7 tM_0 eM_0 rfl dX10_countsWays_15 (pc2 := 18) rfl ?_
    refine kg_iconst dX10_countsWays_18 ki_2 (pc2 := 19) rfl ?_
    refine kg_iald tM_1 eM_1 (show kw_in (2 : Int32) 2832 by decide) (j := 2) (by decide) dX10_countsWays_19 (pc2 := 20) rfl ?_
    refine kg_icmp_ne 27 dX10_countsWays_20 rfl (pc2 := 23) rfl (fun q2 => ?_) (fun q2 => ?_)
    · replace h := (if_neg q2).symm.trans h
      refine kg_lconst dX10_countsWays_27 kl_0 (pc2 := 28) rfl ?_
      exact gjX10_countsWays_28_L2 v1 v2 (0 : Int64) v2 σ h hk
    · replace h := (if_pos q2).symm.trans h
      refine kg_lconst dX10_countsWays_23 kl_1 (pc2 := 24) rfl ?_
      refine kg_goto 28 dX10_countsWays_24 rfl ?_
      exact gjX10_countsWays_28_L2 v1 v2 (1 : Int64) v2 σ h hk
set_option maxHeartbeats 4000000 in
set_option maxRecDepth 100000 in
theorem lX10_countsWays_59 {E : kw_E} {d : Nat} (v1 : Int32) (v2 : Int32) (v3 : Int32) (σ : kw_M) {v : Option Value} {σ2 : kw_M} {o : (Int32 × kw_M) ⊕ (kw_M)} (h : bX10_countsWays_59 v1 v2 v3 σ = some o) (hk : Sum.elim (fun s => kw_G E kwTM 21 (d + 3) μX10_countsWays 59 [(0, .ref 0), (1, .int v1), (2, .int v2), (3, .int s.1)] [] s.2 v σ2) (fun y => kw_G E kwTM 21 (d + 3) μX10_countsWays 78 [(0, .ref 0), (1, .int v1), (2, .int v2)] [] y v σ2) o) : kw_G E kwTM 21 (d + 3) μX10_countsWays 59 [(0, .ref 0), (1, .int v1), (2, .int v2), (3, .int v3)] [] σ v σ2 := by
  unfold bX10_countsWays_59 at h
  refine kg_iload_n 3 dX10_countsWays_59 rfl (pc2 := 60) rfl ?_
  refine kg_bipush dX10_countsWays_60 kb_12 (pc2 := 62) rfl ?_
  refine kg_icmp_ge 78 dX10_countsWays_62 rfl (pc2 := 65) rfl (fun q11 => ?_) (fun q11 => ?_)
  · replace h := (if_pos q11).symm.trans h
    refine kg_sub [0, 1, 2] (lv2 := [(0, .ref 0), (1, .int v1), (2, .int v2)]) rfl ?_
    cases h
    exact hk
  · replace h := (if_neg q11).symm.trans h
    refine kg_aload_n 0 dX10_countsWays_65 rfl (pc2 := 66) rfl ?_
    refine kg_getr clX10 rfl 20 (Nat.le_of_ble_eq_true rfl) lfRX10_39 tM_0 eM_0 rfl dX10_countsWays_66 (pc2 := 69) rfl ?_
    refine kg_iload_n 3 dX10_countsWays_69 rfl (pc2 := 70) rfl ?_
    refine kg_lconst dX10_countsWays_70 kl_0 (pc2 := 71) rfl ?_
    obtain ⟨q12, h⟩ := kw_chk_e h
    obtain ⟨s13, s13e, h⟩ := kw_let_e h
    refine kg_last tM_10 eM_10 q12 (j := v3.toNatClampNeg) rfl s13e dX10_countsWays_71 (pc2 := 72) rfl ?_
    obtain ⟨x14, x14e, h⟩ := kw_let_e h
    refine kg_iinc 3 dX10_countsWays_72 rfl (Nat.le_of_ble_eq_true rfl) x14e (lv2 := [(3, .int x14), (0, .ref 0), (1, .int v1), (2, .int v2)]) rfl (pc2 := 75) rfl ?_
    refine kg_goto 59 dX10_countsWays_75 rfl ?_
    refine kg_sub [1, 2, 3, 0] (lv2 := [(0, .ref 0), (1, .int v1), (2, .int v2), (3, .int x14)]) rfl ?_
    cases h
    exact hk
set_option maxHeartbeats 4000000 in
set_option maxRecDepth 100000 in
theorem lX10_countsWays_80 {E : kw_E} {d : Nat} (v1 : Int32) (v2 : Int32) (v3 : Int32) (σ : kw_M) {v : Option Value} {σ2 : kw_M} {o : (Int32 × kw_M) ⊕ (kw_M)} (h : bX10_countsWays_80 v1 v2 v3 σ = some o) (hk : Sum.elim (fun s => kw_G E kwTM 21 (d + 3) μX10_countsWays 80 [(0, .ref 0), (1, .int v1), (2, .int v2), (3, .int s.1)] [] s.2 v σ2) (fun y => kw_G E kwTM 21 (d + 3) μX10_countsWays 143 [(0, .ref 0), (1, .int v1), (2, .int v2)] [] y v σ2) o) : kw_G E kwTM 21 (d + 3) μX10_countsWays 80 [(0, .ref 0), (1, .int v1), (2, .int v2), (3, .int v3)] [] σ v σ2 := by
  unfold bX10_countsWays_80 at h
  refine kg_iload_n 3 dX10_countsWays_80 rfl (pc2 := 81) rfl ?_
  refine kg_aload_n 0 dX10_countsWays_81 rfl (pc2 := 82) rfl ?_
  refine kg_getr clX10 rfl 0 (Nat.le_of_ble_eq_true rfl) lfRX10_7 tM_0 eM_0 rfl dX10_countsWays_82 (pc2 := 85) rfl ?_
  refine kg_iconst dX10_countsWays_85 ki_1 (pc2 := 86) rfl ?_
  refine kg_iald tM_1 eM_1 (show kw_in (1 : Int32) 2832 by decide) (j := 1) (by decide) dX10_countsWays_86 (pc2 := 87) rfl ?_
  refine kg_icmp_ge 143 dX10_countsWays_87 rfl (pc2 := 90) rfl (fun q16 => ?_) (fun q16 => ?_)
  · replace h := (if_pos q16).symm.trans h
    refine kg_sub [0, 1, 2] (lv2 := [(0, .ref 0), (1, .int v1), (2, .int v2)]) rfl ?_
    cases h
    exact hk
  · replace h := (if_neg q16).symm.trans h
    refine kg_iload_n 3 dX10_countsWays_90 rfl (pc2 := 91) rfl ?_
    refine kg_iload_n 1 dX10_countsWays_91 rfl (pc2 := 92) rfl ?_
    refine kg_icmp_eq 137 dX10_countsWays_92 rfl (pc2 := 95) rfl (fun q17 => ?_) (fun q17 => ?_)
    · replace h := (if_pos q17).symm.trans h
      obtain ⟨x18, x18e, h⟩ := kw_let_e h
      refine kg_iinc 3 dX10_countsWays_137 rfl (Nat.le_of_ble_eq_true rfl) x18e (lv2 := [(3, .int x18), (0, .ref 0), (1, .int v1), (2, .int v2)]) rfl (pc2 := 140) rfl ?_
      refine kg_goto 80 dX10_countsWays_140 rfl ?_
      refine kg_sub [1, 2, 3, 0] (lv2 := [(0, .ref 0), (1, .int v1), (2, .int v2), (3, .int x18)]) rfl ?_
      cases h
      exact hk
    · replace h := (if_neg q17).symm.trans h
      refine kg_aload_n 0 dX10_countsWays_95 rfl (pc2 := 96) rfl ?_
      refine kg_iload_n 3 dX10_countsWays_96 rfl (pc2 := 97) rfl ?_
      obtain ⟨r19, r19h, h⟩ := kw_bind_e h
      refine kg_callV (μ := μX10_countsWays) (d := (d + 2)) rfl mVX10_isTight [.int v3] [] (gX10_isTight (E := E) (d := d) v3 σ r19h) rfl lmRX10_303 (ci := 10) rfl tM_0 eM_0 rfl (Nat.le_of_ble_eq_true rfl) dX10_countsWays_97 rfl (st2 := [.int r19]) rfl (pc2 := 100) rfl ?_
      refine kg_if_eq 137 dX10_countsWays_100 rfl (pc2 := 103) rfl (fun q20 => ?_) (fun q20 => ?_)
      · replace h := (if_pos q20).symm.trans h
        obtain ⟨x21, x21e, h⟩ := kw_let_e h
        refine kg_iinc 3 dX10_countsWays_137 rfl (Nat.le_of_ble_eq_true rfl) x21e (lv2 := [(3, .int x21), (0, .ref 0), (1, .int v1), (2, .int v2)]) rfl (pc2 := 140) rfl ?_
        refine kg_goto 80 dX10_countsWays_140 rfl ?_
        refine kg_sub [1, 2, 3, 0] (lv2 := [(0, .ref 0), (1, .int v1), (2, .int v2), (3, .int x21)]) rfl ?_
        cases h
        exact hk
      · replace h := (if_neg q20).symm.trans h
        refine kg_aload_n 0 dX10_countsWays_103 rfl (pc2 := 104) rfl ?_
        refine kg_getr clX10 rfl 20 (Nat.le_of_ble_eq_true rfl) lfRX10_39 tM_0 eM_0 rfl dX10_countsWays_104 (pc2 := 107) rfl ?_
        refine kg_aload_n 0 dX10_countsWays_107 rfl (pc2 := 108) rfl ?_
        refine kg_iload_n 3 dX10_countsWays_108 rfl (pc2 := 109) rfl ?_
        refine kg_iconst dX10_countsWays_109 ki_1 (pc2 := 110) rfl ?_
        obtain ⟨r22, r22h, h⟩ := kw_bind_e h
        refine kg_callV (μ := μX10_countsWays) (d := (d + 2)) rfl mVX10_of [.int v3, .int (1 : Int32)] [.ref 10] (gX10_of (E := E) (d := (d + 2)) v3 (1 : Int32) σ r22h) rfl lmRX10_73 (ci := 10) rfl tM_0 eM_0 rfl (Nat.le_of_ble_eq_true rfl) dX10_countsWays_110 rfl (st2 := [.int r22, .ref 10]) rfl (pc2 := 113) rfl ?_
        refine kg_aload_n 0 dX10_countsWays_113 rfl (pc2 := 114) rfl ?_
        refine kg_getr clX10 rfl 20 (Nat.le_of_ble_eq_true rfl) lfRX10_39 tM_0 eM_0 rfl dX10_countsWays_114 (pc2 := 117) rfl ?_
        refine kg_aload_n 0 dX10_countsWays_117 rfl (pc2 := 118) rfl ?_
        refine kg_iload_n 3 dX10_countsWays_118 rfl (pc2 := 119) rfl ?_
        refine kg_iconst dX10_countsWays_119 ki_1 (pc2 := 120) rfl ?_
        obtain ⟨r23, r23h, h⟩ := kw_bind_e h
        refine kg_callV (μ := μX10_countsWays) (d := (d + 2)) rfl mVX10_of [.int v3, .int (1 : Int32)] [.ref 10, .int r22, .ref 10] (gX10_of (E := E) (d := (d + 2)) v3 (1 : Int32) σ r23h) rfl lmRX10_73 (ci := 10) rfl tM_0 eM_0 rfl (Nat.le_of_ble_eq_true rfl) dX10_countsWays_120 rfl (st2 := [.int r23, .ref 10, .int r22, .ref 10]) rfl (pc2 := 123) rfl ?_
        obtain ⟨q24, h⟩ := kw_chk_e h
        refine kg_lald tM_10 eM_10 q24 (j := r23.toNatClampNeg) rfl dX10_countsWays_123 (pc2 := 124) rfl ?_
        refine kg_aload_n 0 dX10_countsWays_124 rfl (pc2 := 125) rfl ?_
        refine kg_getr clX10 rfl 19 (Nat.le_of_ble_eq_true rfl) lfRX10_36 tM_0 eM_0 rfl dX10_countsWays_125 (pc2 := 128) rfl ?_
        refine kg_aload_n 0 dX10_countsWays_128 rfl (pc2 := 129) rfl ?_
        refine kg_iload_n 3 dX10_countsWays_129 rfl (pc2 := 130) rfl ?_
        refine kg_iconst dX10_countsWays_130 ki_0 (pc2 := 131) rfl ?_
        obtain ⟨r25, r25h, h⟩ := kw_bind_e h
        refine kg_callV (μ := μX10_countsWays) (d := (d + 2)) rfl mVX10_of [.int v3, .int (0 : Int32)] [.ref 9, .long (σ.2 10 r23.toNatClampNeg), .int r22, .ref 10] (gX10_of (E := E) (d := (d + 2)) v3 (0 : Int32) σ r25h) rfl lmRX10_73 (ci := 10) rfl tM_0 eM_0 rfl (Nat.le_of_ble_eq_true rfl) dX10_countsWays_131 rfl (st2 := [.int r25, .ref 9, .long (σ.2 10 r23.toNatClampNeg), .int r22, .ref 10]) rfl (pc2 := 134) rfl ?_
        obtain ⟨q26, h⟩ := kw_chk_e h
        refine kg_lald tM_9 eM_9 q26 (j := r25.toNatClampNeg) rfl dX10_countsWays_134 (pc2 := 135) rfl ?_
        refine kg_ladd dX10_countsWays_135 (pc2 := 136) rfl ?_
        obtain ⟨q27, h⟩ := kw_chk_e h
        obtain ⟨s28, s28e, h⟩ := kw_let_e h
        refine kg_last tM_10 eM_10 q27 (j := r22.toNatClampNeg) rfl s28e dX10_countsWays_136 (pc2 := 137) rfl ?_
        obtain ⟨x29, x29e, h⟩ := kw_let_e h
        refine kg_iinc 3 dX10_countsWays_137 rfl (Nat.le_of_ble_eq_true rfl) x29e (lv2 := [(3, .int x29), (0, .ref 0), (1, .int v1), (2, .int v2)]) rfl (pc2 := 140) rfl ?_
        refine kg_goto 80 dX10_countsWays_140 rfl ?_
        refine kg_sub [1, 2, 3, 0] (lv2 := [(0, .ref 0), (1, .int v1), (2, .int v2), (3, .int x29)]) rfl ?_
        cases h
        exact hk
set_option maxHeartbeats 4000000 in
set_option maxRecDepth 100000 in
theorem lX10_countsWays_145 {E : kw_E} {d : Nat} (v1 : Int32) (v2 : Int32) (v3 : Int32) (σ : kw_M) {v : Option Value} {σ2 : kw_M} {o : (Int32 × kw_M) ⊕ (kw_M)} (h : bX10_countsWays_145 v1 v2 v3 σ = some o) (hk : Sum.elim (fun s => kw_G E kwTM 21 (d + 3) μX10_countsWays 145 [(0, .ref 0), (1, .int v1), (2, .int v2), (3, .int s.1)] [] s.2 v σ2) (fun y => kw_G E kwTM 21 (d + 3) μX10_countsWays 188 [(0, .ref 0), (1, .int v1), (2, .int v2)] [] y v σ2) o) : kw_G E kwTM 21 (d + 3) μX10_countsWays 145 [(0, .ref 0), (1, .int v1), (2, .int v2), (3, .int v3)] [] σ v σ2 := by
  unfold bX10_countsWays_145 at h
  refine kg_iload_n 3 dX10_countsWays_145 rfl (pc2 := 146) rfl ?_
  refine kg_bipush dX10_countsWays_146 kb_12 (pc2 := 148) rfl ?_
  refine kg_icmp_ge 188 dX10_countsWays_148 rfl (pc2 := 151) rfl (fun q31 => ?_) (fun q31 => ?_)
  · replace h := (if_pos q31).symm.trans h
    refine kg_sub [0, 1, 2] (lv2 := [(0, .ref 0), (1, .int v1), (2, .int v2)]) rfl ?_
    cases h
    exact hk
  · replace h := (if_neg q31).symm.trans h
    refine kg_aload_n 0 dX10_countsWays_151 rfl (pc2 := 152) rfl ?_
    refine kg_getr clX10 rfl 19 (Nat.le_of_ble_eq_true rfl) lfRX10_36 tM_0 eM_0 rfl dX10_countsWays_152 (pc2 := 155) rfl ?_
    refine kg_iload_n 3 dX10_countsWays_155 rfl (pc2 := 156) rfl ?_
    refine kg_aload_n 0 dX10_countsWays_156 rfl (pc2 := 157) rfl ?_
    refine kg_getr clX10 rfl 20 (Nat.le_of_ble_eq_true rfl) lfRX10_39 tM_0 eM_0 rfl dX10_countsWays_157 (pc2 := 160) rfl ?_
    refine kg_iload_n 3 dX10_countsWays_160 rfl (pc2 := 161) rfl ?_
    obtain ⟨q32, h⟩ := kw_chk_e h
    refine kg_lald tM_10 eM_10 q32 (j := v3.toNatClampNeg) rfl dX10_countsWays_161 (pc2 := 162) rfl ?_
    obtain ⟨s33, s33e, h⟩ := kw_let_e h
    refine kg_last tM_9 eM_9 q32 (j := v3.toNatClampNeg) rfl s33e dX10_countsWays_162 (pc2 := 163) rfl ?_
    refine kg_aload_n 0 dX10_countsWays_163 rfl (pc2 := 164) rfl ?_
    refine kg_getr clX10 rfl 21 (Nat.le_of_ble_eq_true rfl) lfRX10_42 tM_0 eM_0 rfl dX10_countsWays_164 (pc2 := 167) rfl ?_
    refine kg_iload_n 3 dX10_countsWays_167 rfl (pc2 := 168) rfl ?_
    refine kg_aload_n 0 dX10_countsWays_168 rfl (pc2 := 169) rfl ?_
    refine kg_getr clX10 rfl 21 (Nat.le_of_ble_eq_true rfl) lfRX10_42 tM_0 eM_0 rfl dX10_countsWays_169 (pc2 := 172) rfl ?_
    refine kg_iload_n 3 dX10_countsWays_172 rfl (pc2 := 173) rfl ?_
    refine kg_lald tM_11 eM_11 q32 (j := v3.toNatClampNeg) rfl dX10_countsWays_173 (pc2 := 174) rfl ?_
    refine kg_aload_n 0 dX10_countsWays_174 rfl (pc2 := 175) rfl ?_
    refine kg_getr clX10 rfl 19 (Nat.le_of_ble_eq_true rfl) lfRX10_36 tM_0 eM_0 rfl dX10_countsWays_175 (pc2 := 178) rfl ?_
    refine kg_iload_n 3 dX10_countsWays_178 rfl (pc2 := 179) rfl ?_
    refine kg_lald tM_9 eM_9 q32 (j := v3.toNatClampNeg) rfl dX10_countsWays_179 (pc2 := 180) rfl ?_
    refine kg_ladd dX10_countsWays_180 (pc2 := 181) rfl ?_
    obtain ⟨s34, s34e, h⟩ := kw_let_e h
    refine kg_last tM_11 eM_11 q32 (j := v3.toNatClampNeg) rfl s34e dX10_countsWays_181 (pc2 := 182) rfl ?_
    obtain ⟨x35, x35e, h⟩ := kw_let_e h
    refine kg_iinc 3 dX10_countsWays_182 rfl (Nat.le_of_ble_eq_true rfl) x35e (lv2 := [(3, .int x35), (0, .ref 0), (1, .int v1), (2, .int v2)]) rfl (pc2 := 185) rfl ?_
    refine kg_goto 145 dX10_countsWays_185 rfl ?_
    refine kg_sub [1, 2, 3, 0] (lv2 := [(0, .ref 0), (1, .int v1), (2, .int v2), (3, .int x35)]) rfl ?_
    cases h
    exact hk
set_option maxHeartbeats 4000000 in
set_option maxRecDepth 100000 in
theorem lX10_countsWays_49 {E : kw_E} {d : Nat} (v1 : Int32) (v2 : Int32) (σ : kw_M) {v : Option Value} {σ2 : kw_M} {o : (Int32 × kw_M) ⊕ (kw_M)} (h : bX10_countsWays_49 v1 v2 σ = some o) (hk : Sum.elim (fun s => kw_G E kwTM 21 (d + 3) μX10_countsWays 49 [(0, .ref 0), (1, .int v1), (2, .int s.1)] [] s.2 v σ2) (fun y => kw_G E kwTM 21 (d + 3) μX10_countsWays 194 [] [] y v σ2) o) : kw_G E kwTM 21 (d + 3) μX10_countsWays 49 [(0, .ref 0), (1, .int v1), (2, .int v2)] [] σ v σ2 := by
  unfold bX10_countsWays_49 at h
  refine kg_iload_n 2 dX10_countsWays_49 rfl (pc2 := 50) rfl ?_
  refine kg_aload_n 0 dX10_countsWays_50 rfl (pc2 := 51) rfl ?_
  obtain ⟨r9, r9h, h⟩ := kw_bind_e h
  refine kg_callV (μ := μX10_countsWays) (d := (d + 2)) rfl mVX10_towns [] [.int v2] (gX10_towns (E := E) (d := (d + 2)) σ r9h) rfl lmRX10_77 (ci := 10) rfl tM_0 eM_0 rfl (Nat.le_of_ble_eq_true rfl) dX10_countsWays_51 rfl (st2 := [.int r9, .int v2]) rfl (pc2 := 54) rfl ?_
  refine kg_icmp_ge 194 dX10_countsWays_54 rfl (pc2 := 57) rfl (fun q10 => ?_) (fun q10 => ?_)
  · replace h := (if_pos q10).symm.trans h
    refine kg_sub [] (lv2 := []) rfl ?_
    cases h
    exact hk
  · replace h := (if_neg q10).symm.trans h
    refine kg_iconst dX10_countsWays_57 ki_0 (pc2 := 58) rfl ?_
    refine kg_istore_n dX10_countsWays_58 rfl (Nat.le_of_ble_eq_true rfl) rfl (lv2 := [(3, .int (0 : Int32)), (0, .ref 0), (1, .int v1), (2, .int v2)]) rfl (pc2 := 59) rfl ?_
    refine kg_sub [1, 2, 3, 0] (lv2 := [(0, .ref 0), (1, .int v1), (2, .int v2), (3, .int (0 : Int32))]) rfl ?_
    obtain ⟨x15, x15h, h⟩ := kw_bind_e h
    refine kw_loop_e (P := fun s => kw_G E kwTM 21 (d + 3) μX10_countsWays 59 [(0, .ref 0), (1, .int v1), (2, .int v2), (3, .int s.1)] [] s.2 v σ2) (K := fun y => kw_G E kwTM 21 (d + 3) μX10_countsWays 78 [(0, .ref 0), (1, .int v1), (2, .int v2)] [] y v σ2) (fun s o h0 hk => lX10_countsWays_59 v1 v2 s.1 s.2 h0 hk) kw_F _ _ x15h ?_
    show kw_G E kwTM 21 (d + 3) μX10_countsWays 78 [(0, .ref 0), (1, .int v1), (2, .int v2)] [] x15 v σ2
    refine kg_iconst dX10_countsWays_78 ki_0 (pc2 := 79) rfl ?_
    refine kg_istore_n dX10_countsWays_79 rfl (Nat.le_of_ble_eq_true rfl) rfl (lv2 := [(3, .int (0 : Int32)), (0, .ref 0), (1, .int v1), (2, .int v2)]) rfl (pc2 := 80) rfl ?_
    refine kg_sub [1, 2, 3, 0] (lv2 := [(0, .ref 0), (1, .int v1), (2, .int v2), (3, .int (0 : Int32))]) rfl ?_
    obtain ⟨x30, x30h, h⟩ := kw_bind_e h
    refine kw_loop_e (P := fun s => kw_G E kwTM 21 (d + 3) μX10_countsWays 80 [(0, .ref 0), (1, .int v1), (2, .int v2), (3, .int s.1)] [] s.2 v σ2) (K := fun y => kw_G E kwTM 21 (d + 3) μX10_countsWays 143 [(0, .ref 0), (1, .int v1), (2, .int v2)] [] y v σ2) (fun s o h0 hk => lX10_countsWays_80 v1 v2 s.1 s.2 h0 hk) kw_F _ _ x30h ?_
    show kw_G E kwTM 21 (d + 3) μX10_countsWays 143 [(0, .ref 0), (1, .int v1), (2, .int v2)] [] x30 v σ2
    refine kg_iconst dX10_countsWays_143 ki_0 (pc2 := 144) rfl ?_
    refine kg_istore_n dX10_countsWays_144 rfl (Nat.le_of_ble_eq_true rfl) rfl (lv2 := [(3, .int (0 : Int32)), (0, .ref 0), (1, .int v1), (2, .int v2)]) rfl (pc2 := 145) rfl ?_
    refine kg_sub [1, 2, 3, 0] (lv2 := [(0, .ref 0), (1, .int v1), (2, .int v2), (3, .int (0 : Int32))]) rfl ?_
    obtain ⟨x36, x36h, h⟩ := kw_bind_e h
    refine kw_loop_e (P := fun s => kw_G E kwTM 21 (d + 3) μX10_countsWays 145 [(0, .ref 0), (1, .int v1), (2, .int v2), (3, .int s.1)] [] s.2 v σ2) (K := fun y => kw_G E kwTM 21 (d + 3) μX10_countsWays 188 [(0, .ref 0), (1, .int v1), (2, .int v2)] [] y v σ2) (fun s o h0 hk => lX10_countsWays_145 v1 v2 s.1 s.2 h0 hk) kw_F _ _ x36h ?_
    show kw_G E kwTM 21 (d + 3) μX10_countsWays 188 [(0, .ref 0), (1, .int v1), (2, .int v2)] [] x36 v σ2
    obtain ⟨x37, x37e, h⟩ := kw_let_e h
    refine kg_iinc 2 dX10_countsWays_188 rfl (Nat.le_of_ble_eq_true rfl) x37e (lv2 := [(2, .int x37), (0, .ref 0), (1, .int v1)]) rfl (pc2 := 191) rfl ?_
    refine kg_goto 49 dX10_countsWays_191 rfl ?_
    refine kg_sub [1, 2, 0] (lv2 := [(0, .ref 0), (1, .int v1), (2, .int x37)]) rfl ?_
    cases h
    exact hk
set_option maxHeartbeats 4000000 in
set_option maxRecDepth 100000 in
theorem gX10_countsWays {E : kw_E} {d : Nat} (a1 : Int32) (σ : kw_M) {r : kw_M} (h : fX10_countsWays a1 σ = some r) : kw_Met E kwTM 21 (d + 3) μX10_countsWays [.ref 0, .int a1] σ none r := by
  refine kw_enter plRX10 (Nat.le_of_ble_eq_true rfl) ?_
  show kw_G E kwTM 21 (d + 3) μX10_countsWays 0 [(0, .ref 0), (1, .int a1)] [] σ none r
  unfold fX10_countsWays at h
  refine kg_iconst dX10_countsWays_0 ki_0 (pc2 := 1) rfl ?_
  refine kg_istore_n dX10_countsWays_1 rfl (Nat.le_of_ble_eq_true rfl) rfl (lv2 := [(2, .int (0 : Int32)), (0, .ref 0), (1, .int a1)]) rfl (pc2 := 2) rfl ?_
  refine kg_sub [1, 2, 0] (lv2 := [(0, .ref 0), (1, .int a1), (2, .int (0 : Int32))]) rfl ?_
  obtain ⟨x8, x8h, h⟩ := kw_bind_e h
  refine kw_loop_e (P := fun s => kw_G E kwTM 21 (d + 3) μX10_countsWays 2 [(0, .ref 0), (1, .int a1), (2, .int s.1)] [] s.2 none r) (K := fun y => kw_G E kwTM 21 (d + 3) μX10_countsWays 47 [(0, .ref 0), (1, .int a1)] [] y none r) (fun s o h0 hk => lX10_countsWays_2 a1 s.1 s.2 h0 hk) kw_F _ _ x8h ?_
  show kw_G E kwTM 21 (d + 3) μX10_countsWays 47 [(0, .ref 0), (1, .int a1)] [] x8 none r
  refine kg_iconst dX10_countsWays_47 ki_1 (pc2 := 48) rfl ?_
  refine kg_istore_n dX10_countsWays_48 rfl (Nat.le_of_ble_eq_true rfl) rfl (lv2 := [(2, .int (1 : Int32)), (0, .ref 0), (1, .int a1)]) rfl (pc2 := 49) rfl ?_
  refine kg_sub [1, 2, 0] (lv2 := [(0, .ref 0), (1, .int a1), (2, .int (1 : Int32))]) rfl ?_
  obtain ⟨x38, x38h, h⟩ := kw_bind_e h
  refine kw_loop_e (P := fun s => kw_G E kwTM 21 (d + 3) μX10_countsWays 49 [(0, .ref 0), (1, .int a1), (2, .int s.1)] [] s.2 none r) (K := fun y => kw_G E kwTM 21 (d + 3) μX10_countsWays 194 [] [] y none r) (fun s o h0 hk => lX10_countsWays_49 a1 s.1 s.2 h0 hk) kw_F _ _ x38h ?_
  show kw_G E kwTM 21 (d + 3) μX10_countsWays 194 [] [] x38 none r
  cases h
  exact kg_vret dX10_countsWays_194 rfl
set_option maxHeartbeats 4000000 in
set_option maxRecDepth 100000 in
theorem gX10_isNeeded {E : kw_E} {d : Nat} (a1 : Int32) (a2 : Int32) (σ : kw_M) {r : Int32 × kw_M} (h : fX10_isNeeded a1 a2 σ = some r) : kw_Met E kwTM 21 (d + 4) μX10_isNeeded [.ref 0, .int a1, .int a2] σ (some (Value.int r.1)) r.2 := by
  refine kw_enter plRX10 (Nat.le_of_ble_eq_true rfl) ?_
  show kw_G E kwTM 21 (d + 4) μX10_isNeeded 0 [(0, .ref 0), (1, .int a1), (2, .int a2)] [] σ (some (Value.int r.1)) r.2
  unfold fX10_isNeeded at h
  refine kg_aload_n 0 dX10_isNeeded_0 rfl (pc2 := 1) rfl ?_
  refine kg_iload_n 1 dX10_isNeeded_1 rfl (pc2 := 2) rfl ?_
  obtain ⟨r1, r1h, h⟩ := kw_bind_e h
  refine kg_callV (μ := μX10_isNeeded) (d := (d + 3)) rfl mVX10_countsWays [.int a1] [] (gX10_countsWays (E := E) (d := d) a1 σ r1h) rfl lmRX10_309 (ci := 10) rfl tM_0 eM_0 rfl (Nat.le_of_ble_eq_true rfl) dX10_isNeeded_2 rfl (st2 := []) rfl (pc2 := 5) rfl ?_
  refine kg_aload_n 0 dX10_isNeeded_5 rfl (pc2 := 6) rfl ?_
  refine kg_getr clX10 rfl 21 (Nat.le_of_ble_eq_true rfl) lfRX10_42 tM_0 eM_0 rfl dX10_isNeeded_6 (pc2 := 9) rfl ?_
  refine kg_iload_n 2 dX10_isNeeded_9 rfl (pc2 := 10) rfl ?_
  obtain ⟨q2, h⟩ := kw_chk_e h
  refine kg_lald tM_11 eM_11 q2 (j := a2.toNatClampNeg) rfl dX10_isNeeded_10 (pc2 := 11) rfl ?_
  refine kg_lconst dX10_isNeeded_11 kl_0 (pc2 := 12) rfl ?_
  refine kg_lcmp_ne 20 dX10_isNeeded_12 dX10_isNeeded_13 rfl (pc2 := 16) rfl (fun q3 => ?_) (fun q3 => ?_)
  · replace h := (if_neg q3).symm.trans h
    refine kg_iconst dX10_isNeeded_20 ki_0 (pc2 := 21) rfl ?_
    cases h
    exact kg_iret (ty := .boolean) dX10_isNeeded_21 rfl rfl
  · replace h := (if_pos q3).symm.trans h
    refine kg_iconst dX10_isNeeded_16 ki_1 (pc2 := 17) rfl ?_
    refine kg_goto 21 dX10_isNeeded_17 rfl ?_
    cases h
    exact kg_iret (ty := .boolean) dX10_isNeeded_21 rfl rfl
set_option maxHeartbeats 4000000 in
set_option maxRecDepth 100000 in
theorem lX10_neededMany_20 {E : kw_E} {d : Nat} (v1 : Int32) (v2 : Int32) (v3 : Int32) (σ : kw_M) {v : Option Value} {σ2 : kw_M} {o : (Int32 × Int32 × kw_M) ⊕ (Int32 × kw_M)} (h : bX10_neededMany_20 v1 v2 v3 σ = some o) (hk : Sum.elim (fun s => kw_G E kwTM 21 (d + 5) μX10_neededMany 20 [(0, .ref 0), (1, .int v1), (2, .int s.1), (3, .int s.2.1)] [] s.2.2 v σ2) (fun y => kw_G E kwTM 21 (d + 5) μX10_neededMany 57 [(2, .int y.1)] [] y.2 v σ2) o) : kw_G E kwTM 21 (d + 5) μX10_neededMany 20 [(0, .ref 0), (1, .int v1), (2, .int v2), (3, .int v3)] [] σ v σ2 := by
  unfold bX10_neededMany_20 at h
  refine kg_iload_n 3 dX10_neededMany_20 rfl (pc2 := 21) rfl ?_
  refine kg_aload_n 0 dX10_neededMany_21 rfl (pc2 := 22) rfl ?_
  refine kg_getr clX10 rfl 0 (Nat.le_of_ble_eq_true rfl) lfRX10_7 tM_0 eM_0 rfl dX10_neededMany_22 (pc2 := 25) rfl ?_
  refine kg_iconst dX10_neededMany_25 ki_1 (pc2 := 26) rfl ?_
  refine kg_iald tM_1 eM_1 (show kw_in (1 : Int32) 2832 by decide) (j := 1) (by decide) dX10_neededMany_26 (pc2 := 27) rfl ?_
  refine kg_icmp_ge 57 dX10_neededMany_27 rfl (pc2 := 30) rfl (fun q3 => ?_) (fun q3 => ?_)
  · replace h := (if_pos q3).symm.trans h
    refine kg_sub [2] (lv2 := [(2, .int v2)]) rfl ?_
    cases h
    exact hk
  · replace h := (if_neg q3).symm.trans h
    refine kg_aload_n 0 dX10_neededMany_30 rfl (pc2 := 31) rfl ?_
    refine kg_iload_n 3 dX10_neededMany_31 rfl (pc2 := 32) rfl ?_
    obtain ⟨r4, r4h, h⟩ := kw_bind_e h
    refine kg_callV (μ := μX10_neededMany) (d := (d + 4)) rfl mVX10_isTight [.int v3] [] (gX10_isTight (E := E) (d := (d + 2)) v3 σ r4h) rfl lmRX10_303 (ci := 10) rfl tM_0 eM_0 rfl (Nat.le_of_ble_eq_true rfl) dX10_neededMany_32 rfl (st2 := [.int r4]) rfl (pc2 := 35) rfl ?_
    refine kg_if_eq 51 dX10_neededMany_35 rfl (pc2 := 38) rfl (fun q5 => ?_) (fun q5 => ?_)
    · replace h := (if_pos q5).symm.trans h
      obtain ⟨x6, x6e, h⟩ := kw_let_e h
      refine kg_iinc 3 dX10_neededMany_51 rfl (Nat.le_of_ble_eq_true rfl) x6e (lv2 := [(3, .int x6), (0, .ref 0), (1, .int v1), (2, .int v2)]) rfl (pc2 := 54) rfl ?_
      refine kg_goto 20 dX10_neededMany_54 rfl ?_
      refine kg_sub [1, 2, 3, 0] (lv2 := [(0, .ref 0), (1, .int v1), (2, .int v2), (3, .int x6)]) rfl ?_
      cases h
      exact hk
    · replace h := (if_neg q5).symm.trans h
      refine kg_aload_n 0 dX10_neededMany_38 rfl (pc2 := 39) rfl ?_
      refine kg_iload_n 3 dX10_neededMany_39 rfl (pc2 := 40) rfl ?_
      refine kg_iload_n 1 dX10_neededMany_40 rfl (pc2 := 41) rfl ?_
      obtain ⟨r7, r7h, h⟩ := kw_bind_e h
      refine kg_callV (μ := μX10_neededMany) (d := (d + 4)) rfl mVX10_isNeeded [.int v3, .int v1] [] (gX10_isNeeded (E := E) (d := d) v3 v1 σ r7h) rfl lmRX10_312 (ci := 10) rfl tM_0 eM_0 rfl (Nat.le_of_ble_eq_true rfl) dX10_neededMany_41 rfl (st2 := [.int r7.1]) rfl (pc2 := 44) rfl ?_
      refine kg_if_eq 51 dX10_neededMany_44 rfl (pc2 := 47) rfl (fun q8 => ?_) (fun q8 => ?_)
      · replace h := (if_pos q8).symm.trans h
        obtain ⟨x9, x9e, h⟩ := kw_let_e h
        refine kg_iinc 3 dX10_neededMany_51 rfl (Nat.le_of_ble_eq_true rfl) x9e (lv2 := [(3, .int x9), (0, .ref 0), (1, .int v1), (2, .int v2)]) rfl (pc2 := 54) rfl ?_
        refine kg_goto 20 dX10_neededMany_54 rfl ?_
        refine kg_sub [1, 2, 3, 0] (lv2 := [(0, .ref 0), (1, .int v1), (2, .int v2), (3, .int x9)]) rfl ?_
        cases h
        exact hk
      · replace h := (if_neg q8).symm.trans h
        refine kg_iload_n 2 dX10_neededMany_47 rfl (pc2 := 48) rfl ?_
        refine kg_iconst dX10_neededMany_48 ki_1 (pc2 := 49) rfl ?_
        refine kg_iadd dX10_neededMany_49 (pc2 := 50) rfl ?_
        obtain ⟨x10, x10e, h⟩ := kw_let_e h
        refine kg_istore_n dX10_neededMany_50 rfl (Nat.le_of_ble_eq_true rfl) x10e (lv2 := [(2, .int x10), (0, .ref 0), (1, .int v1), (3, .int v3)]) rfl (pc2 := 51) rfl ?_
        obtain ⟨x11, x11e, h⟩ := kw_let_e h
        refine kg_iinc 3 dX10_neededMany_51 rfl (Nat.le_of_ble_eq_true rfl) x11e (lv2 := [(3, .int x11), (2, .int x10), (0, .ref 0), (1, .int v1)]) rfl (pc2 := 54) rfl ?_
        refine kg_goto 20 dX10_neededMany_54 rfl ?_
        refine kg_sub [2, 3, 1, 0] (lv2 := [(0, .ref 0), (1, .int v1), (2, .int x10), (3, .int x11)]) rfl ?_
        cases h
        exact hk
set_option maxHeartbeats 4000000 in
set_option maxRecDepth 100000 in
theorem gX10_neededMany {E : kw_E} {d : Nat} (a1 : Int32) (σ : kw_M) {r : Int32 × kw_M} (h : fX10_neededMany a1 σ = some r) : kw_Met E kwTM 21 (d + 5) μX10_neededMany [.ref 0, .int a1] σ (some (Value.int r.1)) r.2 := by
  refine kw_enter plRX10 (Nat.le_of_ble_eq_true rfl) ?_
  show kw_G E kwTM 21 (d + 5) μX10_neededMany 0 [(0, .ref 0), (1, .int a1)] [] σ (some (Value.int r.1)) r.2
  unfold fX10_neededMany at h
  refine kg_aload_n 0 dX10_neededMany_0 rfl (pc2 := 1) rfl ?_
  refine kg_getr clX10 rfl 3 (Nat.le_of_ble_eq_true rfl) lfRX10_17 tM_0 eM_0 rfl dX10_neededMany_1 (pc2 := 4) rfl ?_
  refine kg_iload_n 1 dX10_neededMany_4 rfl (pc2 := 5) rfl ?_
  obtain ⟨q1, h⟩ := kw_chk_e h
  refine kg_lald tM_3 eM_3 q1 (j := a1.toNatClampNeg) rfl dX10_neededMany_5 (pc2 := 6) rfl ?_
  refine kg_ldc2 rfl lcRX10_89 dX10_neededMany_6 (pc2 := 9) rfl ?_
  refine kg_lcmp_ne 16 dX10_neededMany_9 dX10_neededMany_10 rfl (pc2 := 13) rfl (fun q2 => ?_) (fun q2 => ?_)
  · replace h := (if_neg q2).symm.trans h
    refine kg_iconst dX10_neededMany_16 ki_0 (pc2 := 17) rfl ?_
    refine kg_istore_n dX10_neededMany_17 rfl (Nat.le_of_ble_eq_true rfl) rfl (lv2 := [(2, .int (0 : Int32)), (0, .ref 0), (1, .int a1)]) rfl (pc2 := 18) rfl ?_
    refine kg_iconst dX10_neededMany_18 ki_0 (pc2 := 19) rfl ?_
    refine kg_istore_n dX10_neededMany_19 rfl (Nat.le_of_ble_eq_true rfl) rfl (lv2 := [(3, .int (0 : Int32)), (2, .int (0 : Int32)), (0, .ref 0), (1, .int a1)]) rfl (pc2 := 20) rfl ?_
    refine kg_sub [2, 3, 1, 0] (lv2 := [(0, .ref 0), (1, .int a1), (2, .int (0 : Int32)), (3, .int (0 : Int32))]) rfl ?_
    obtain ⟨x12, x12h, h⟩ := kw_bind_e h
    refine kw_loop_e (P := fun s => kw_G E kwTM 21 (d + 5) μX10_neededMany 20 [(0, .ref 0), (1, .int a1), (2, .int s.1), (3, .int s.2.1)] [] s.2.2 (some (Value.int r.1)) r.2) (K := fun y => kw_G E kwTM 21 (d + 5) μX10_neededMany 57 [(2, .int y.1)] [] y.2 (some (Value.int r.1)) r.2) (fun s o h0 hk => lX10_neededMany_20 a1 s.1 s.2.1 s.2.2 h0 hk) kw_F _ _ x12h ?_
    show kw_G E kwTM 21 (d + 5) μX10_neededMany 57 [(2, .int x12.1)] [] x12.2 (some (Value.int r.1)) r.2
    refine kg_iload_n 0 dX10_neededMany_57 rfl (pc2 := 58) rfl ?_
    cases h
    exact kg_iret (ty := .int) dX10_neededMany_58 rfl rfl
  · replace h := (if_pos q2).symm.trans h
    refine kg_bipush dX10_neededMany_13 kb_m2 (pc2 := 15) rfl ?_
    cases h
    exact kg_iret (ty := .int) dX10_neededMany_15 rfl rfl
set_option maxHeartbeats 4000000 in
set_option maxRecDepth 100000 in
theorem gjX10_dearestOf_88_L22 {E : kw_E} {d : Nat} (v1 : Int32) (v2 : Int32) (v6 : Int32) (σ : kw_M) {v : Option Value} {σ2 : kw_M} {o : (Int32 × Int64 × Int32 × kw_M) ⊕ (Int32 × kw_M)} (h : jX10_dearestOf_88_L22 v1 v2 v6 σ = some o) (hk : Sum.elim (fun s => kw_G E kwTM 21 (d + 5) μX10_dearestOf 22 [(0, .ref 0), (1, .int v1), (2, .int v2), (3, .int s.1), (4, .long s.2.1), (6, .int s.2.2.1)] [] s.2.2.2 v σ2) (fun y => kw_G E kwTM 21 (d + 5) μX10_dearestOf 110 [(3, .int y.1)] [] y.2 v σ2) o) : kw_G E kwTM 21 (d + 5) μX10_dearestOf 88 [(0, .ref 0), (1, .int v1), (2, .int v2), (6, .int v6)] [] σ v σ2 := by
  unfold jX10_dearestOf_88_L22 at h
  refine kg_aload_n 0 dX10_dearestOf_88 rfl (pc2 := 89) rfl ?_
  refine kg_getr clX10 rfl 18 (Nat.le_of_ble_eq_true rfl) lfRX10_33 tM_0 eM_0 rfl dX10_dearestOf_89 (pc2 := 92) rfl ?_
  refine kg_iload 3 dX10_dearestOf_92 rfl (pc2 := 94) rfl ?_
  obtain ⟨q7, h⟩ := kw_chk_e h
  refine kg_iald tM_8 eM_8 q7 (j := v6.toNatClampNeg) rfl dX10_dearestOf_94 (pc2 := 95) rfl ?_
  obtain ⟨x8, x8e, h⟩ := kw_let_e h
  refine kg_istore_n dX10_dearestOf_95 rfl (Nat.le_of_ble_eq_true rfl) x8e (lv2 := [(3, .int x8), (0, .ref 0), (1, .int v1), (2, .int v2), (6, .int v6)]) rfl (pc2 := 96) rfl ?_
  refine kg_aload_n 1 dX10_dearestOf_96 rfl (pc2 := 97) rfl ?_
  refine kg_getr clX10 rfl 2 (Nat.le_of_ble_eq_true rfl) lfRX10_13 tM_0 eM_0 rfl dX10_dearestOf_97 (pc2 := 100) rfl ?_
  refine kg_iload_n 2 dX10_dearestOf_100 rfl (pc2 := 101) rfl ?_
  obtain ⟨q9, h⟩ := kw_chk_e h
  refine kg_lald tM_2 eM_2 q9 (j := v1.toNatClampNeg) rfl dX10_dearestOf_101 (pc2 := 102) rfl ?_
  obtain ⟨x10, x10e, h⟩ := kw_let_e h
  refine kg_lstore dX10_dearestOf_102 (Nat.le_of_ble_eq_true rfl) x10e (lv2 := [(4, .long x10), (3, .int x8), (0, .ref 0), (1, .int v1), (2, .int v2), (6, .int v6)]) rfl (pc2 := 104) rfl ?_
  obtain ⟨x11, x11e, h⟩ := kw_let_e h
  refine kg_iinc 5 dX10_dearestOf_104 rfl (Nat.le_of_ble_eq_true rfl) x11e (lv2 := [(6, .int x11), (4, .long x10), (3, .int x8), (0, .ref 0), (1, .int v1), (2, .int v2)]) rfl (pc2 := 107) rfl ?_
  refine kg_goto 22 dX10_dearestOf_107 rfl ?_
  refine kg_sub [3, 4, 5, 2, 1, 0] (lv2 := [(0, .ref 0), (1, .int v1), (2, .int v2), (3, .int x8), (4, .long x10), (6, .int x11)]) rfl ?_
  cases h
  exact hk
set_option maxHeartbeats 4000000 in
set_option maxRecDepth 100000 in
theorem lX10_dearestOf_22 {E : kw_E} {d : Nat} (v1 : Int32) (v2 : Int32) (v3 : Int32) (v4 : Int64) (v6 : Int32) (σ : kw_M) {v : Option Value} {σ2 : kw_M} {o : (Int32 × Int64 × Int32 × kw_M) ⊕ (Int32 × kw_M)} (h : bX10_dearestOf_22 v1 v2 v3 v4 v6 σ = some o) (hk : Sum.elim (fun s => kw_G E kwTM 21 (d + 5) μX10_dearestOf 22 [(0, .ref 0), (1, .int v1), (2, .int v2), (3, .int s.1), (4, .long s.2.1), (6, .int s.2.2.1)] [] s.2.2.2 v σ2) (fun y => kw_G E kwTM 21 (d + 5) μX10_dearestOf 110 [(3, .int y.1)] [] y.2 v σ2) o) : kw_G E kwTM 21 (d + 5) μX10_dearestOf 22 [(0, .ref 0), (1, .int v1), (2, .int v2), (3, .int v3), (4, .long v4), (6, .int v6)] [] σ v σ2 := by
  unfold bX10_dearestOf_22 at h
  refine kg_iload 5 dX10_dearestOf_22 rfl (pc2 := 24) rfl ?_
  refine kg_iload_n 2 dX10_dearestOf_24 rfl (pc2 := 25) rfl ?_
  refine kg_icmp_ge 110 dX10_dearestOf_25 rfl (pc2 := 28) rfl (fun q3 => ?_) (fun q3 => ?_)
  · replace h := (if_pos q3).symm.trans h
    refine kg_sub [3] (lv2 := [(3, .int v3)]) rfl ?_
    cases h
    exact hk
  · replace h := (if_neg q3).symm.trans h
    refine kg_aload_n 0 dX10_dearestOf_28 rfl (pc2 := 29) rfl ?_
    refine kg_aload_n 0 dX10_dearestOf_29 rfl (pc2 := 30) rfl ?_
    refine kg_getr clX10 rfl 0 (Nat.le_of_ble_eq_true rfl) lfRX10_7 tM_0 eM_0 rfl dX10_dearestOf_30 (pc2 := 33) rfl ?_
    refine kg_iconst dX10_dearestOf_33 ki_2 (pc2 := 34) rfl ?_
    refine kg_iald tM_1 eM_1 (show kw_in (2 : Int32) 2832 by decide) (j := 2) (by decide) dX10_dearestOf_34 (pc2 := 35) rfl ?_
    refine kg_aload_n 0 dX10_dearestOf_35 rfl (pc2 := 36) rfl ?_
    refine kg_getr clX10 rfl 18 (Nat.le_of_ble_eq_true rfl) lfRX10_33 tM_0 eM_0 rfl dX10_dearestOf_36 (pc2 := 39) rfl ?_
    refine kg_iload 5 dX10_dearestOf_39 rfl (pc2 := 41) rfl ?_
    obtain ⟨q4, h⟩ := kw_chk_e h
    refine kg_iald tM_8 eM_8 q4 (j := v6.toNatClampNeg) rfl dX10_dearestOf_41 (pc2 := 42) rfl ?_
    obtain ⟨r5, r5h, h⟩ := kw_bind_e h
    refine kg_callV (μ := μX10_dearestOf) (d := (d + 4)) rfl mVX10_finds [.int (σ.1 1 2), .int (σ.1 8 v6.toNatClampNeg)] [] (gX10_finds (E := E) (d := (d + 2)) (σ.1 1 2) (σ.1 8 v6.toNatClampNeg) σ r5h) rfl lmRX10_95 (ci := 10) rfl tM_0 eM_0 rfl (Nat.le_of_ble_eq_true rfl) dX10_dearestOf_42 rfl (st2 := []) rfl (pc2 := 45) rfl ?_
    refine kg_iload_n 3 dX10_dearestOf_45 rfl (pc2 := 46) rfl ?_
    refine kg_iconst dX10_dearestOf_46 ki_m1 (pc2 := 47) rfl ?_
    refine kg_icmp_eq 88 dX10_dearestOf_47 rfl (pc2 := 50) rfl (fun q6 => ?_) (fun q6 => ?_)
    · replace h := (if_pos q6).symm.trans h
      refine kg_sub [0, 1, 2, 5] (lv2 := [(0, .ref 0), (1, .int v1), (2, .int v2), (6, .int v6)]) rfl ?_
      exact gjX10_dearestOf_88_L22 v1 v2 v6 r5 h hk
    · replace h := (if_neg q6).symm.trans h
      refine kg_aload_n 0 dX10_dearestOf_50 rfl (pc2 := 51) rfl ?_
      refine kg_getr clX10 rfl 2 (Nat.le_of_ble_eq_true rfl) lfRX10_13 tM_0 eM_0 rfl dX10_dearestOf_51 (pc2 := 54) rfl ?_
      refine kg_iload_n 1 dX10_dearestOf_54 rfl (pc2 := 55) rfl ?_
      obtain ⟨q12, h⟩ := kw_chk_e h
      refine kg_lald tM_2 eM_2 q12 (j := v1.toNatClampNeg) rfl dX10_dearestOf_55 (pc2 := 56) rfl ?_
      refine kg_lload 4 dX10_dearestOf_56 rfl (pc2 := 58) rfl ?_
      refine kg_lcmp_lt 104 dX10_dearestOf_58 dX10_dearestOf_59 rfl (pc2 := 62) rfl (fun q13 => ?_) (fun q13 => ?_)
      · replace h := (if_pos q13).symm.trans h
        obtain ⟨x14, x14e, h⟩ := kw_let_e h
        refine kg_iinc 5 dX10_dearestOf_104 rfl (Nat.le_of_ble_eq_true rfl) x14e (lv2 := [(6, .int x14), (0, .ref 0), (1, .int v1), (2, .int v2), (3, .int v3), (4, .long v4)]) rfl (pc2 := 107) rfl ?_
        refine kg_goto 22 dX10_dearestOf_107 rfl ?_
        refine kg_sub [1, 2, 3, 4, 5, 0] (lv2 := [(0, .ref 0), (1, .int v1), (2, .int v2), (3, .int v3), (4, .long v4), (6, .int x14)]) rfl ?_
        cases h
        exact hk
      · replace h := (if_neg q13).symm.trans h
        refine kg_aload_n 0 dX10_dearestOf_62 rfl (pc2 := 63) rfl ?_
        refine kg_getr clX10 rfl 2 (Nat.le_of_ble_eq_true rfl) lfRX10_13 tM_0 eM_0 rfl dX10_dearestOf_63 (pc2 := 66) rfl ?_
        refine kg_iload_n 1 dX10_dearestOf_66 rfl (pc2 := 67) rfl ?_
        refine kg_lald tM_2 eM_2 q12 (j := v1.toNatClampNeg) rfl dX10_dearestOf_67 (pc2 := 68) rfl ?_
        refine kg_lload 4 dX10_dearestOf_68 rfl (pc2 := 70) rfl ?_
        refine kg_lcmp_ne 88 dX10_dearestOf_70 dX10_dearestOf_71 rfl (pc2 := 74) rfl (fun q15 => ?_) (fun q15 => ?_)
        · replace h := (if_neg q15).symm.trans h
          refine kg_sub [0, 1, 2, 5] (lv2 := [(0, .ref 0), (1, .int v1), (2, .int v2), (6, .int v6)]) rfl ?_
          exact gjX10_dearestOf_88_L22 v1 v2 v6 r5 h hk
        · replace h := (if_pos q15).symm.trans h
          refine kg_aload_n 0 dX10_dearestOf_74 rfl (pc2 := 75) rfl ?_
          refine kg_getr clX10 rfl 18 (Nat.le_of_ble_eq_true rfl) lfRX10_33 tM_0 eM_0 rfl dX10_dearestOf_75 (pc2 := 78) rfl ?_
          refine kg_iload 5 dX10_dearestOf_78 rfl (pc2 := 80) rfl ?_
          refine kg_iald tM_8 eM_8 q4 (j := v6.toNatClampNeg) rfl dX10_dearestOf_80 (pc2 := 81) rfl ?_
          refine kg_iload_n 3 dX10_dearestOf_81 rfl (pc2 := 82) rfl ?_
          refine kg_icmp_le 88 dX10_dearestOf_82 rfl (pc2 := 85) rfl (fun q16 => ?_) (fun q16 => ?_)
          · replace h := (if_pos q16).symm.trans h
            refine kg_sub [0, 1, 2, 5] (lv2 := [(0, .ref 0), (1, .int v1), (2, .int v2), (6, .int v6)]) rfl ?_
            exact gjX10_dearestOf_88_L22 v1 v2 v6 r5 h hk
          · replace h := (if_neg q16).symm.trans h
            refine kg_goto 104 dX10_dearestOf_85 rfl ?_
            obtain ⟨x17, x17e, h⟩ := kw_let_e h
            refine kg_iinc 5 dX10_dearestOf_104 rfl (Nat.le_of_ble_eq_true rfl) x17e (lv2 := [(6, .int x17), (0, .ref 0), (1, .int v1), (2, .int v2), (3, .int v3), (4, .long v4)]) rfl (pc2 := 107) rfl ?_
            refine kg_goto 22 dX10_dearestOf_107 rfl ?_
            refine kg_sub [1, 2, 3, 4, 5, 0] (lv2 := [(0, .ref 0), (1, .int v1), (2, .int v2), (3, .int v3), (4, .long v4), (6, .int x17)]) rfl ?_
            cases h
            exact hk
set_option maxHeartbeats 4000000 in
set_option maxRecDepth 100000 in
theorem gX10_dearestOf {E : kw_E} {d : Nat} (a1 : Int32) (σ : kw_M) {r : Int32 × kw_M} (h : fX10_dearestOf a1 σ = some r) : kw_Met E kwTM 21 (d + 5) μX10_dearestOf [.ref 0, .int a1] σ (some (Value.int r.1)) r.2 := by
  refine kw_enter plRX10 (Nat.le_of_ble_eq_true rfl) ?_
  show kw_G E kwTM 21 (d + 5) μX10_dearestOf 0 [(0, .ref 0), (1, .int a1)] [] σ (some (Value.int r.1)) r.2
  unfold fX10_dearestOf at h
  refine kg_aload_n 0 dX10_dearestOf_0 rfl (pc2 := 1) rfl ?_
  refine kg_iload_n 1 dX10_dearestOf_1 rfl (pc2 := 2) rfl ?_
  obtain ⟨r1, r1h, h⟩ := kw_bind_e h
  refine kg_callV (μ := μX10_dearestOf) (d := (d + 4)) rfl mVX10_goesBack [.int a1] [] (gX10_goesBack (E := E) (d := d) a1 σ r1h) rfl lmRX10_315 (ci := 10) rfl tM_0 eM_0 rfl (Nat.le_of_ble_eq_true rfl) dX10_dearestOf_2 rfl (st2 := [.int r1.1]) rfl (pc2 := 5) rfl ?_
  refine kg_istore_n dX10_dearestOf_5 rfl (Nat.le_of_ble_eq_true rfl) rfl (lv2 := [(2, .int r1.1), (0, .ref 0), (1, .int a1)]) rfl (pc2 := 6) rfl ?_
  refine kg_iload_n 0 dX10_dearestOf_6 rfl (pc2 := 7) rfl ?_
  refine kg_iconst dX10_dearestOf_7 ki_1 (pc2 := 8) rfl ?_
  refine kg_icmp_ge 14 dX10_dearestOf_8 rfl (pc2 := 11) rfl (fun q2 => ?_) (fun q2 => ?_)
  · replace h := (if_pos q2).symm.trans h
    refine kg_iconst dX10_dearestOf_14 ki_m1 (pc2 := 15) rfl ?_
    refine kg_istore_n dX10_dearestOf_15 rfl (Nat.le_of_ble_eq_true rfl) rfl (lv2 := [(3, .int (-1 : Int32)), (2, .int r1.1), (0, .ref 0), (1, .int a1)]) rfl (pc2 := 16) rfl ?_
    refine kg_lconst dX10_dearestOf_16 kl_0 (pc2 := 17) rfl ?_
    refine kg_lstore dX10_dearestOf_17 (Nat.le_of_ble_eq_true rfl) rfl (lv2 := [(4, .long (0 : Int64)), (3, .int (-1 : Int32)), (2, .int r1.1), (0, .ref 0), (1, .int a1)]) rfl (pc2 := 19) rfl ?_
    refine kg_iconst dX10_dearestOf_19 ki_0 (pc2 := 20) rfl ?_
    refine kg_istore dX10_dearestOf_20 (Nat.le_of_ble_eq_true rfl) rfl (lv2 := [(6, .int (0 : Int32)), (4, .long (0 : Int64)), (3, .int (-1 : Int32)), (2, .int r1.1), (0, .ref 0), (1, .int a1)]) rfl (pc2 := 22) rfl ?_
    refine kg_sub [4, 5, 3, 2, 1, 0] (lv2 := [(0, .ref 0), (1, .int a1), (2, .int r1.1), (3, .int (-1 : Int32)), (4, .long (0 : Int64)), (6, .int (0 : Int32))]) rfl ?_
    obtain ⟨x18, x18h, h⟩ := kw_bind_e h
    refine kw_loop_e (P := fun s => kw_G E kwTM 21 (d + 5) μX10_dearestOf 22 [(0, .ref 0), (1, .int a1), (2, .int r1.1), (3, .int s.1), (4, .long s.2.1), (6, .int s.2.2.1)] [] s.2.2.2 (some (Value.int r.1)) r.2) (K := fun y => kw_G E kwTM 21 (d + 5) μX10_dearestOf 110 [(3, .int y.1)] [] y.2 (some (Value.int r.1)) r.2) (fun s o h0 hk => lX10_dearestOf_22 a1 r1.1 s.1 s.2.1 s.2.2.1 s.2.2.2 h0 hk) kw_F _ _ x18h ?_
    show kw_G E kwTM 21 (d + 5) μX10_dearestOf 110 [(3, .int x18.1)] [] x18.2 (some (Value.int r.1)) r.2
    refine kg_iload_n 0 dX10_dearestOf_110 rfl (pc2 := 111) rfl ?_
    cases h
    exact kg_iret (ty := .int) dX10_dearestOf_111 rfl rfl
  · replace h := (if_neg q2).symm.trans h
    refine kg_bipush dX10_dearestOf_11 kb_m2 (pc2 := 13) rfl ?_
    cases h
    exact kg_iret (ty := .int) dX10_dearestOf_13 rfl rfl
