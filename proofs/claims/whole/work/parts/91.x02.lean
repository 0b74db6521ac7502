/-! The class, method by method: the machine does what f says (g). -/
set_option maxHeartbeats 4000000 in
set_option maxRecDepth 100000 in
theorem lX4_allInts_2 {E : kw_E} {d : Nat} (σ : kw_M) (v2 : Int32) {v : Option Value} {σ2 : kw_M} {o : (Int32) ⊕ ((Int32) ⊕ (Unit))} (h : bX4_allInts_2 σ v2 = some o) (hk : Sum.elim (fun s => kw_G E kwTX 48 d μX4_allInts 2 [(0, .ref 10), (1, .ref 11), (2, .int s)] [] σ v σ2) (Sum.elim (fun rr => v = some (Value.int rr) ∧ σ2 = σ) (fun y => kw_G E kwTX 48 d μX4_allInts 48 [] [] σ v σ2)) o) : kw_G E kwTX 48 d μX4_allInts 2 [(0, .ref 10), (1, .ref 11), (2, .int v2)] [] σ v σ2 := by
  unfold bX4_allInts_2 at h
  refine kg_iload_n 2 dX4_allInts_2 rfl (pc2 := 3) rfl ?_
  refine kg_aload_n 0 dX4_allInts_3 rfl (pc2 := 4) rfl ?_
  refine kg_geti clX4 rfl 0 (Nat.le_of_ble_eq_true rfl) lfRX4_9 tX_10 eX_10 rfl dX4_allInts_4 (pc2 := 7) rfl ?_
  refine kg_icmp_ge 48 dX4_allInts_7 rfl (pc2 := 10) rfl (fun q1 => ?_) (fun q1 => ?_)
  · replace h := (if_pos q1).symm.trans h
    refine kg_sub [] (lv2 := []) rfl ?_
    cases h
    exact hk
  · replace h := (if_neg q1).symm.trans h
    refine kg_aload_n 1 dX4_allInts_10 rfl (pc2 := 11) rfl ?_
    refine kg_iload_n 2 dX4_allInts_11 rfl (pc2 := 12) rfl ?_
    obtain ⟨q2, h⟩ := kw_chk_e h
    refine kg_lald tX_11 eX_11 q2 (j := v2.toNatClampNeg) rfl dX4_allInts_12 (pc2 := 13) rfl ?_
    refine kg_ldc2 rfl lcRX4_38 dX4_allInts_13 (pc2 := 16) rfl ?_
    refine kg_lcmp_eq 42 dX4_allInts_16 dX4_allInts_17 rfl (pc2 := 20) rfl (fun q3 => ?_) (fun q3 => ?_)
    · replace h := (if_pos q3).symm.trans h
      obtain ⟨x4, x4e, h⟩ := kw_let_e h
      refine kg_iinc 2 dX4_allInts_42 rfl (Nat.le_of_ble_eq_true rfl) x4e (lv2 := [(2, .int x4), (0, .ref 10), (1, .ref 11)]) rfl (pc2 := 45) rfl ?_
      refine kg_goto 2 dX4_allInts_45 rfl ?_
      refine kg_sub [1, 2, 0] (lv2 := [(0, .ref 10), (1, .ref 11), (2, .int x4)]) rfl ?_
      cases h
      exact hk
    · replace h := (if_neg q3).symm.trans h
      refine kg_aload_n 1 dX4_allInts_20 rfl (pc2 := 21) rfl ?_
      refine kg_iload_n 2 dX4_allInts_21 rfl (pc2 := 22) rfl ?_
      refine kg_lald tX_11 eX_11 q2 (j := v2.toNatClampNeg) rfl dX4_allInts_22 (pc2 := 23) rfl ?_
      refine kg_ldc2 rfl lcRX4_66 dX4_allInts_23 (pc2 := 26) rfl ?_
      refine kg_lcmp_lt 40 dX4_allInts_26 dX4_allInts_27 rfl (pc2 := 30) rfl (fun q5 => ?_) (fun q5 => ?_)
      · replace h := (if_pos q5).symm.trans h
        refine kg_iconst dX4_allInts_40 ki_0 (pc2 := 41) rfl ?_
        cases h
        obtain ⟨rfl, rfl⟩ := hk
        exact kg_iret (ty := .boolean) dX4_allInts_41 rfl rfl
      · replace h := (if_neg q5).symm.trans h
        refine kg_aload_n 1 dX4_allInts_30 rfl (pc2 := 31) rfl ?_
        refine kg_iload_n 2 dX4_allInts_31 rfl (pc2 := 32) rfl ?_
        refine kg_lald tX_11 eX_11 q2 (j := v2.toNatClampNeg) rfl dX4_allInts_32 (pc2 := 33) rfl ?_
        refine kg_ldc2 rfl lcRX4_68 dX4_allInts_33 (pc2 := 36) rfl ?_
        refine kg_lcmp_le 42 dX4_allInts_36 dX4_allInts_37 rfl (pc2 := 40) rfl (fun q6 => ?_) (fun q6 => ?_)
        · replace h := (if_pos q6).symm.trans h
          obtain ⟨x7, x7e, h⟩ := kw_let_e h
          refine kg_iinc 2 dX4_allInts_42 rfl (Nat.le_of_ble_eq_true rfl) x7e (lv2 := [(2, .int x7), (0, .ref 10), (1, .ref 11)]) rfl (pc2 := 45) rfl ?_
          refine kg_goto 2 dX4_allInts_45 rfl ?_
          refine kg_sub [1, 2, 0] (lv2 := [(0, .ref 10), (1, .ref 11), (2, .int x7)]) rfl ?_
          cases h
          exact hk
        · replace h := (if_neg q6).symm.trans h
          refine kg_iconst dX4_allInts_40 ki_0 (pc2 := 41) rfl ?_
          cases h
          obtain ⟨rfl, rfl⟩ := hk
          exact kg_iret (ty := .boolean) dX4_allInts_41 rfl rfl
set_option maxHeartbeats 4000000 in
set_option maxRecDepth 100000 in
theorem gX4_allInts {E : kw_E} {d : Nat} (σ : kw_M) {r : Int32} (h : fX4_allInts σ = some r) : kw_Met E kwTX 48 d μX4_allInts [.ref 10, .ref 11] σ (some (Value.int r)) σ := by
  refine kw_enter plRX4 (Nat.le_of_ble_eq_true rfl) ?_
  show kw_G E kwTX 48 d μX4_allInts 0 [(0, .ref 10), (1, .ref 11)] [] σ (some (Value.int r)) σ
  unfold fX4_allInts at h
  refine kg_iconst dX4_allInts_0 ki_0 (pc2 := 1) rfl ?_
  refine kg_istore_n dX4_allInts_1 rfl (Nat.le_of_ble_eq_true rfl) rfl (lv2 := [(2, .int (0 : Int32)), (0, .ref 10), (1, .ref 11)]) rfl (pc2 := 2) rfl ?_
  refine kg_sub [1, 2, 0] (lv2 := [(0, .ref 10), (1, .ref 11), (2, .int (0 : Int32))]) rfl ?_
  obtain ⟨x8, x8h, h⟩ := kw_bind_e h
  refine kw_loop_e (P := fun s => kw_G E kwTX 48 d μX4_allInts 2 [(0, .ref 10), (1, .ref 11), (2, .int s)] [] σ (some (Value.int r)) σ) (K := Sum.elim (fun rr => (some (Value.int r)) = some (Value.int rr) ∧ σ = σ) (fun y => kw_G E kwTX 48 d μX4_allInts 48 [] [] σ (some (Value.int r)) σ)) (fun s o h0 hk => lX4_allInts_2 σ s h0 hk) kw_F _ _ x8h ?_
  rcases x8 with x8r | x8
  · replace h := kw_se_l h
    cases h
    exact ⟨rfl, rfl⟩
  · replace h := kw_se_r h
    show kw_G E kwTX 48 d μX4_allInts 48 [] [] σ (some (Value.int r)) σ
    refine kg_iconst dX4_allInts_48 ki_1 (pc2 := 49) rfl ?_
    cases h
    exact kg_iret (ty := .boolean) dX4_allInts_49 rfl rfl
set_option maxHeartbeats 4000000 in
set_option maxRecDepth 100000 in
theorem gX4_copyFrom {E : kw_E} {d : Nat} (c0 : Nat) (c1 : Nat) (hc0 : kx_4 c0) (hc1 : kx_4 c1) (σ : kw_M) {r : kw_M} (h : fX4_copyFrom c0 c1 σ = some r) : kw_Met E kwTX 48 (d + 1) μX4_copyFrom [.ref c0, .ref c1] σ none r := by
  refine kw_enter plRX4 (Nat.le_of_ble_eq_true rfl) ?_
  show kw_G E kwTX 48 (d + 1) μX4_copyFrom 0 [(0, .ref c0), (1, .ref c1)] [] σ none r
  unfold fX4_copyFrom at h
  refine kg_aload_n 0 dX4_copyFrom_0 rfl (pc2 := 1) rfl ?_
  refine kg_aload_n 1 dX4_copyFrom_1 rfl (pc2 := 2) rfl ?_
  refine kg_geti clX4 rfl 0 (Nat.le_of_ble_eq_true rfl) lfRX4_9 hc1.1 hc1.2.1 rfl dX4_copyFrom_2 (pc2 := 5) rfl ?_
  obtain ⟨s1, s1e, h⟩ := kw_let_e h
  refine kg_puti clX4 rfl 0 (Nat.le_of_ble_eq_true rfl) lfRX4_9 rfl hc0.1 hc0.2.1 rfl (ty := .int) (by decide +kernel) rfl rfl s1e dX4_copyFrom_5 (pc2 := 8) rfl ?_
  refine kg_aload_n 0 dX4_copyFrom_8 rfl (pc2 := 9) rfl ?_
  refine kg_aload_n 1 dX4_copyFrom_9 rfl (pc2 := 10) rfl ?_
  refine kg_geti clX4 rfl 1 (Nat.le_of_ble_eq_true rfl) lfRX4_25 hc1.1 hc1.2.1 rfl dX4_copyFrom_10 (pc2 := 13) rfl ?_
  obtain ⟨s2, s2e, h⟩ := kw_let_e h
  refine kg_puti clX4 rfl 1 (Nat.le_of_ble_eq_true rfl) lfRX4_25 rfl hc0.1 hc0.2.1 rfl (ty := .int) (by decide +kernel) rfl rfl s2e dX4_copyFrom_13 (pc2 := 16) rfl ?_
  refine kg_aload_n 0 dX4_copyFrom_16 rfl (pc2 := 17) rfl ?_
  refine kg_aload_n 1 dX4_copyFrom_17 rfl (pc2 := 18) rfl ?_
  refine kg_getl clX4 rfl 2 (Nat.le_of_ble_eq_true rfl) lfRX4_28 hc1.1 hc1.2.1 rfl dX4_copyFrom_18 (pc2 := 21) rfl ?_
  obtain ⟨s3, s3e, h⟩ := kw_let_e h
  refine kg_putl clX4 rfl 2 (Nat.le_of_ble_eq_true rfl) lfRX4_28 rfl hc0.1 hc0.2.1 rfl (ty := .long) (by decide +kernel) rfl rfl s3e dX4_copyFrom_21 (pc2 := 24) rfl ?_
  refine kg_aload_n 1 dX4_copyFrom_24 rfl (pc2 := 25) rfl ?_
  refine kg_getr clX4 rfl 3 (Nat.le_of_ble_eq_true rfl) lfRX4_15 hc1.1 hc1.2.1 rfl dX4_copyFrom_25 (pc2 := 28) rfl ?_
  refine kg_iconst dX4_copyFrom_28 ki_0 (pc2 := 29) rfl ?_
  refine kg_aload_n 0 dX4_copyFrom_29 rfl (pc2 := 30) rfl ?_
  refine kg_getr clX4 rfl 3 (Nat.le_of_ble_eq_true rfl) lfRX4_15 hc0.1 hc0.2.1 rfl dX4_copyFrom_30 (pc2 := 33) rfl ?_
  refine kg_iconst dX4_copyFrom_33 ki_0 (pc2 := 34) rfl ?_
  refine kg_aload_n 0 dX4_copyFrom_34 rfl (pc2 := 35) rfl ?_
  refine kg_geti clX4 rfl 1 (Nat.le_of_ble_eq_true rfl) lfRX4_25 hc0.1 hc0.2.1 rfl dX4_copyFrom_35 (pc2 := 38) rfl ?_
  obtain ⟨q4, h⟩ := kw_chk_e h
  obtain ⟨q5, h⟩ := kw_chk_e h
  obtain ⟨q6, h⟩ := kw_chk_e h
  obtain ⟨s7, s7e, h⟩ := kw_let_e h
  refine kg_copyi (μ := μX4_copyFrom) (d := d) rfl rfl cpRX4_32 hc1.2.2.1.1 hc1.2.2.1.2 hc0.2.2.1.1 hc0.2.2.1.2 (by decide) (by decide) q4 q5 q6 (Nat.le_of_ble_eq_true rfl) (by decide) (by decide) rfl s7e dX4_copyFrom_38 (pc2 := 41) rfl ?_
  refine kg_aload_n 1 dX4_copyFrom_41 rfl (pc2 := 42) rfl ?_
  refine kg_getr clX4 rfl 4 (Nat.le_of_ble_eq_true rfl) lfRX4_19 hc1.1 hc1.2.1 rfl dX4_copyFrom_42 (pc2 := 45) rfl ?_
  refine kg_iconst dX4_copyFrom_45 ki_0 (pc2 := 46) rfl ?_
  refine kg_aload_n 0 dX4_copyFrom_46 rfl (pc2 := 47) rfl ?_
  refine kg_getr clX4 rfl 4 (Nat.le_of_ble_eq_true rfl) lfRX4_19 hc0.1 hc0.2.1 rfl dX4_copyFrom_47 (pc2 := 50) rfl ?_
  refine kg_iconst dX4_copyFrom_50 ki_0 (pc2 := 51) rfl ?_
  refine kg_aload_n 0 dX4_copyFrom_51 rfl (pc2 := 52) rfl ?_
  refine kg_geti clX4 rfl 1 (Nat.le_of_ble_eq_true rfl) lfRX4_25 hc0.1 hc0.2.1 rfl dX4_copyFrom_52 (pc2 := 55) rfl ?_
  obtain ⟨q8, h⟩ := kw_chk_e h
  obtain ⟨q9, h⟩ := kw_chk_e h
  obtain ⟨q10, h⟩ := kw_chk_e h
  obtain ⟨s11, s11e, h⟩ := kw_let_e h
  refine kg_copyi (μ := μX4_copyFrom) (d := d) rfl rfl cpRX4_32 hc1.2.2.2.1.1 hc1.2.2.2.1.2 hc0.2.2.2.1.1 hc0.2.2.2.1.2 (by decide) (by decide) q8 q9 q10 (Nat.le_of_ble_eq_true rfl) (by decide) (by decide) rfl s11e dX4_copyFrom_55 (pc2 := 58) rfl ?_
  refine kg_aload_n 1 dX4_copyFrom_58 rfl (pc2 := 59) rfl ?_
  refine kg_getr clX4 rfl 5 (Nat.le_of_ble_eq_true rfl) lfRX4_22 hc1.1 hc1.2.1 rfl dX4_copyFrom_59 (pc2 := 62) rfl ?_
  refine kg_iconst dX4_copyFrom_62 ki_0 (pc2 := 63) rfl ?_
  refine kg_aload_n 0 dX4_copyFrom_63 rfl (pc2 := 64) rfl ?_
  refine kg_getr clX4 rfl 5 (Nat.le_of_ble_eq_true rfl) lfRX4_22 hc0.1 hc0.2.1 rfl dX4_copyFrom_64 (pc2 := 67) rfl ?_
  refine kg_iconst dX4_copyFrom_67 ki_0 (pc2 := 68) rfl ?_
  refine kg_aload_n 0 dX4_copyFrom_68 rfl (pc2 := 69) rfl ?_
  refine kg_geti clX4 rfl 1 (Nat.le_of_ble_eq_true rfl) lfRX4_25 hc0.1 hc0.2.1 rfl dX4_copyFrom_69 (pc2 := 72) rfl ?_
  obtain ⟨q12, h⟩ := kw_chk_e h
  obtain ⟨q13, h⟩ := kw_chk_e h
  obtain ⟨q14, h⟩ := kw_chk_e h
  obtain ⟨s15, s15e, h⟩ := kw_let_e h
  refine kg_copyi (μ := μX4_copyFrom) (d := d) rfl rfl cpRX4_32 hc1.2.2.2.2.1 hc1.2.2.2.2.2 hc0.2.2.2.2.1 hc0.2.2.2.2.2 (by decide) (by decide) q12 q13 q14 (Nat.le_of_ble_eq_true rfl) (by decide) (by decide) rfl s15e dX4_copyFrom_72 (pc2 := 75) rfl ?_
  cases h
  exact kg_vret dX4_copyFrom_75 rfl
set_option maxHeartbeats 4000000 in
set_option maxRecDepth 100000 in
theorem lJ7_fill_53178_5 {E : kw_E} {d : Nat} (v1 : Int32) (v3 : Int32) (v2 : Int32) (σ : kw_M) {v : Option Value} {σ2 : kw_M} {o : (Int32 × kw_M) ⊕ (kw_M)} (h : bJ7_fill_53178_5 v1 v3 v2 σ = some o) (hk : Sum.elim (fun s => kw_G E kwTX 48 d μJ7_fill_53178 5 [(0, .ref 17), (1, .int v1), (2, .int s.1), (3, .int v3)] [] s.2 v σ2) (fun y => kw_G E kwTX 48 d μJ7_fill_53178 20 [] [] y v σ2) o) : kw_G E kwTX 48 d μJ7_fill_53178 5 [(0, .ref 17), (1, .int v1), (2, .int v2), (3, .int v3)] [] σ v σ2 := by
  unfold bJ7_fill_53178_5 at h
  refine kg_iload_n 2 dJ7_fill_53178_5 rfl (pc2 := 6) rfl ?_
  refine kg_iload_n 3 dJ7_fill_53178_6 rfl (pc2 := 7) rfl ?_
  refine kg_icmp_ge 20 dJ7_fill_53178_7 rfl (pc2 := 10) rfl (fun q1 => ?_) (fun q1 => ?_)
  · replace h := (if_pos q1).symm.trans h
    refine kg_sub [] (lv2 := []) rfl ?_
    cases h
    exact hk
  · replace h := (if_neg q1).symm.trans h
    refine kg_aload_n 0 dJ7_fill_53178_10 rfl (pc2 := 11) rfl ?_
    refine kg_iload_n 2 dJ7_fill_53178_11 rfl (pc2 := 12) rfl ?_
    refine kg_iload_n 1 dJ7_fill_53178_12 rfl (pc2 := 13) rfl ?_
    obtain ⟨q2, h⟩ := kw_chk_e h
    obtain ⟨s3, s3e, h⟩ := kw_let_e h
    refine kg_iast tX_17 eX_17 q2 (j := v2.toNatClampNeg) rfl s3e dJ7_fill_53178_13 (pc2 := 14) rfl ?_
    obtain ⟨x4, x4e, h⟩ := kw_let_e h
    refine kg_iinc 2 dJ7_fill_53178_14 rfl (Nat.le_of_ble_eq_true rfl) x4e (lv2 := [(2, .int x4), (0, .ref 17), (1, .int v1), (3, .int v3)]) rfl (pc2 := 17) rfl ?_
    refine kg_goto 5 dJ7_fill_53178_17 rfl ?_
    refine kg_sub [1, 2, 0, 3] (lv2 := [(0, .ref 17), (1, .int v1), (2, .int x4), (3, .int v3)]) rfl ?_
    cases h
    exact hk
set_option maxHeartbeats 4000000 in
set_option maxRecDepth 100000 in
theorem gXJ7_fill_53178 {E : kw_E} {d : Nat} (a1 : Int32) (σ : kw_M) {r : kw_M} (h : fXJ7_fill_53178 a1 σ = some r) : kw_Met E kwTX 48 d μJ7_fill_53178 [.ref 17, .int a1] σ none r := by
  refine kw_enter plRJ7 (Nat.le_of_ble_eq_true rfl) ?_
  show kw_G E kwTX 48 d μJ7_fill_53178 0 [(0, .ref 17), (1, .int a1)] [] σ none r
  unfold fXJ7_fill_53178 at h
  refine kg_iconst dJ7_fill_53178_0 ki_0 (pc2 := 1) rfl ?_
  refine kg_istore_n dJ7_fill_53178_1 rfl (Nat.le_of_ble_eq_true rfl) rfl (lv2 := [(2, .int (0 : Int32)), (0, .ref 17), (1, .int a1)]) rfl (pc2 := 2) rfl ?_
  refine kg_aload_n 1 dJ7_fill_53178_2 rfl (pc2 := 3) rfl ?_
  refine kg_alen tX_17 eX_17 (ty := .int) (fun _ => rfl) (x := (12 : Int32)) (by decide) dJ7_fill_53178_3 (pc2 := 4) rfl ?_
  refine kg_istore_n dJ7_fill_53178_4 rfl (Nat.le_of_ble_eq_true rfl) rfl (lv2 := [(3, .int (12 : Int32)), (2, .int (0 : Int32)), (0, .ref 17), (1, .int a1)]) rfl (pc2 := 5) rfl ?_
  refine kg_sub [2, 3, 1, 0] (lv2 := [(0, .ref 17), (1, .int a1), (2, .int (0 : Int32)), (3, .int (12 : Int32))]) rfl ?_
  obtain ⟨x5, x5h, h⟩ := kw_bind_e h
  refine kw_loop_e (P := fun s => kw_G E kwTX 48 d μJ7_fill_53178 5 [(0, .ref 17), (1, .int a1), (2, .int s.1), (3, .int (12 : Int32))] [] s.2 none r) (K := fun y => kw_G E kwTX 48 d μJ7_fill_53178 20 [] [] y none r) (fun s o h0 hk => lJ7_fill_53178_5 a1 (12 : Int32) s.1 s.2 h0 hk) kw_F _ _ x5h ?_
  show kw_G E kwTX 48 d μJ7_fill_53178 20 [] [] x5 none r
  cases h
  exact kg_vret dJ7_fill_53178_20 rfl
set_option maxHeartbeats 4000000 in
set_option maxRecDepth 100000 in
theorem gX7_slackOf {E : kw_E} {d : Nat} (a1 : Int32) (σ : kw_M) {r : Int64} (h : fX7_slackOf a1 σ = some r) : kw_Met E kwTX 48 d μX7_slackOf [.ref 1, .int a1] σ (some (Value.long r)) σ := by
  refine kw_enter plRX7 (Nat.le_of_ble_eq_true rfl) ?_
  show kw_G E kwTX 48 d μX7_slackOf 0 [(0, .ref 1), (1, .int a1)] [] σ (some (Value.long r)) σ
  unfold fX7_slackOf at h
  refine kg_aload_n 0 dX7_slackOf_0 rfl (pc2 := 1) rfl ?_
  refine kg_getr clX7 rfl 9 (Nat.le_of_ble_eq_true rfl) lfRX7_36 tX_1 eX_1 rfl dX7_slackOf_1 (pc2 := 4) rfl ?_
  refine kg_aload_n 0 dX7_slackOf_4 rfl (pc2 := 5) rfl ?_
  refine kg_getr clX7 rfl 0 (Nat.le_of_ble_eq_true rfl) lfRX7_12 tX_1 eX_1 rfl dX7_slackOf_5 (pc2 := 8) rfl ?_
  refine kg_getr clX4 rfl 3 (Nat.le_of_ble_eq_true rfl) lfRX7_136 tX_12 eX_12 rfl dX7_slackOf_8 (pc2 := 11) rfl ?_
  refine kg_iload_n 1 dX7_slackOf_11 rfl (pc2 := 12) rfl ?_
  obtain ⟨q1, h⟩ := kw_chk_e h
  refine kg_iald tX_18 eX_18 q1 (j := a1.toNatClampNeg) rfl dX7_slackOf_12 (pc2 := 13) rfl ?_
  obtain ⟨q2, h⟩ := kw_chk_e h
  refine kg_lald tX_16 eX_16 q2 (j := (σ.1 18 a1.toNatClampNeg).toNatClampNeg) rfl dX7_slackOf_13 (pc2 := 14) rfl ?_
  obtain ⟨x3, x3e, h⟩ := kw_let_e h
  refine kg_lstore_n dX7_slackOf_14 rfl (Nat.le_of_ble_eq_true rfl) x3e (lv2 := [(2, .long x3), (0, .ref 1), (1, .int a1)]) rfl (pc2 := 15) rfl ?_
  refine kg_aload_n 1 dX7_slackOf_15 rfl (pc2 := 16) rfl ?_
  refine kg_getr clX7 rfl 9 (Nat.le_of_ble_eq_true rfl) lfRX7_36 tX_1 eX_1 rfl dX7_slackOf_16 (pc2 := 19) rfl ?_
  refine kg_aload_n 1 dX7_slackOf_19 rfl (pc2 := 20) rfl ?_
  refine kg_getr clX7 rfl 0 (Nat.le_of_ble_eq_true rfl) lfRX7_12 tX_1 eX_1 rfl dX7_slackOf_20 (pc2 := 23) rfl ?_
  refine kg_getr clX4 rfl 4 (Nat.le_of_ble_eq_true rfl) lfRX7_126 tX_12 eX_12 rfl dX7_slackOf_23 (pc2 := 26) rfl ?_
  refine kg_iload_n 2 dX7_slackOf_26 rfl (pc2 := 27) rfl ?_
  refine kg_iald tX_19 eX_19 q1 (j := a1.toNatClampNeg) rfl dX7_slackOf_27 (pc2 := 28) rfl ?_
  obtain ⟨q4, h⟩ := kw_chk_e h
  refine kg_lald tX_16 eX_16 q4 (j := (σ.1 19 a1.toNatClampNeg).toNatClampNeg) rfl dX7_slackOf_28 (pc2 := 29) rfl ?_
  obtain ⟨x5, x5e, h⟩ := kw_let_e h
  refine kg_lstore dX7_slackOf_29 (Nat.le_of_ble_eq_true rfl) x5e (lv2 := [(4, .long x5), (2, .long x3), (0, .ref 1), (1, .int a1)]) rfl (pc2 := 31) rfl ?_
  refine kg_lload_n 1 dX7_slackOf_31 rfl (pc2 := 32) rfl ?_
  refine kg_ldc2 rfl lcRX7_109 dX7_slackOf_32 (pc2 := 35) rfl ?_
  refine kg_lcmp_eq 48 dX7_slackOf_35 dX7_slackOf_36 rfl (pc2 := 39) rfl (fun q6 => ?_) (fun q6 => ?_)
  · replace h := (if_pos q6).symm.trans h
    refine kg_ldc2 rfl lcRX7_109 dX7_slackOf_48 (pc2 := 51) rfl ?_
    refine kg_goto 69 dX7_slackOf_51 rfl ?_
    cases h
    exact kg_lret dX7_slackOf_69 rfl
  · replace h := (if_neg q6).symm.trans h
    refine kg_lload 0 dX7_slackOf_39 rfl (pc2 := 41) rfl ?_
    refine kg_ldc2 rfl lcRX7_109 dX7_slackOf_41 (pc2 := 44) rfl ?_
    refine kg_lcmp_ne 54 dX7_slackOf_44 dX7_slackOf_45 rfl (pc2 := 48) rfl (fun q7 => ?_) (fun q7 => ?_)
    · replace h := (if_neg q7).symm.trans h
      refine kg_lload_n 1 dX7_slackOf_54 rfl (pc2 := 55) rfl ?_
      refine kg_aload_n 2 dX7_slackOf_55 rfl (pc2 := 56) rfl ?_
      refine kg_getr clX7 rfl 0 (Nat.le_of_ble_eq_true rfl) lfRX7_12 tX_1 eX_1 rfl dX7_slackOf_56 (pc2 := 59) rfl ?_
      refine kg_getr clX4 rfl 5 (Nat.le_of_ble_eq_true rfl) lfRX7_139 tX_12 eX_12 rfl dX7_slackOf_59 (pc2 := 62) rfl ?_
      refine kg_iload_n 3 dX7_slackOf_62 rfl (pc2 := 63) rfl ?_
      refine kg_iald tX_20 eX_20 q1 (j := a1.toNatClampNeg) rfl dX7_slackOf_63 (pc2 := 64) rfl ?_
      refine kg_i2l dX7_slackOf_64 (pc2 := 65) rfl ?_
      refine kg_ladd dX7_slackOf_65 (pc2 := 66) rfl ?_
      refine kg_lload 0 dX7_slackOf_66 rfl (pc2 := 68) rfl ?_
      refine kg_lsub dX7_slackOf_68 (pc2 := 69) rfl ?_
      cases h
      exact kg_lret dX7_slackOf_69 rfl
    · replace h := (if_pos q7).symm.trans h
      refine kg_ldc2 rfl lcRX7_109 dX7_slackOf_48 (pc2 := 51) rfl ?_
      refine kg_goto 69 dX7_slackOf_51 rfl ?_
      cases h
      exact kg_lret dX7_slackOf_69 rfl
set_option maxHeartbeats 4000000 in
set_option maxRecDepth 100000 in
theorem gX7_isTight {E : kw_E} {d : Nat} (a1 : Int32) (σ : kw_M) {r : Int32} (h : fX7_isTight a1 σ = some r) : kw_Met E kwTX 48 (d + 1) μX7_isTight [.ref 1, .int a1] σ (some (Value.int r)) σ := by
  refine kw_enter plRX7 (Nat.le_of_ble_eq_true rfl) ?_
  show kw_G E kwTX 48 (d + 1) μX7_isTight 0 [(0, .ref 1), (1, .int a1)] [] σ (some (Value.int r)) σ
  unfold fX7_isTight at h
  refine kg_aload_n 0 dX7_isTight_0 rfl (pc2 := 1) rfl ?_
  refine kg_getr clX7 rfl 0 (Nat.le_of_ble_eq_true rfl) lfRX7_12 tX_1 eX_1 rfl dX7_isTight_1 (pc2 := 4) rfl ?_
  refine kg_iload_n 1 dX7_isTight_4 rfl (pc2 := 5) rfl ?_
  obtain ⟨r1, r1h, h⟩ := kw_bind_e h
  refine kg_callV (μ := μX7_isTight) (d := d) rfl mVX4_isOpen [.int a1] [] (gX4_isOpen (E := E) (d := d) 12 kx_4_12 a1 σ r1h) rfl lmRX7_129 (ci := 4) rfl tX_12 eX_12 rfl (Nat.le_of_ble_eq_true rfl) dX7_isTight_5 rfl (st2 := [.int r1]) rfl (pc2 := 8) rfl ?_
  refine kg_if_eq 25 dX7_isTight_8 rfl (pc2 := 11) rfl (fun q2 => ?_) (fun q2 => ?_)
  · replace h := (if_pos q2).symm.trans h
    refine kg_iconst dX7_isTight_25 ki_0 (pc2 := 26) rfl ?_
    cases h
    exact kg_iret (ty := .boolean) dX7_isTight_26 rfl rfl
  · replace h := (if_neg q2).symm.trans h
    refine kg_aload_n 0 dX7_isTight_11 rfl (pc2 := 12) rfl ?_
    refine kg_iload_n 1 dX7_isTight_12 rfl (pc2 := 13) rfl ?_
    obtain ⟨r3, r3h, h⟩ := kw_bind_e h
    refine kg_callV (μ := μX7_isTight) (d := d) rfl mVX7_slackOf [.int a1] [] (gX7_slackOf (E := E) (d := d) a1 σ r3h) rfl lmRX7_132 (ci := 7) rfl tX_1 eX_1 rfl (Nat.le_of_ble_eq_true rfl) dX7_isTight_13 rfl (st2 := [.long r3]) rfl (pc2 := 16) rfl ?_
    refine kg_lconst dX7_isTight_16 kl_0 (pc2 := 17) rfl ?_
    refine kg_lcmp_ne 25 dX7_isTight_17 dX7_isTight_18 rfl (pc2 := 21) rfl (fun q4 => ?_) (fun q4 => ?_)
    · replace h := (if_neg q4).symm.trans h
      refine kg_iconst dX7_isTight_25 ki_0 (pc2 := 26) rfl ?_
      cases h
      exact kg_iret (ty := .boolean) dX7_isTight_26 rfl rfl
    · replace h := (if_pos q4).symm.trans h
      refine kg_iconst dX7_isTight_21 ki_1 (pc2 := 22) rfl ?_
      refine kg_goto 26 dX7_isTight_22 rfl ?_
      cases h
      exact kg_iret (ty := .boolean) dX7_isTight_26 rfl rfl
set_option maxHeartbeats 4000000 in
set_option maxRecDepth 100000 in
theorem lX7_findParents_18 {E : kw_E} {d : Nat} (v1 : Int32) (σ : kw_M) {v : Option Value} {σ2 : kw_M} {o : (Int32 × kw_M) ⊕ (kw_M)} (h : bX7_findParents_18 v1 σ = some o) (hk : Sum.elim (fun s => kw_G E kwTX 48 (d + 2) μX7_findParents 18 [(0, .ref 1), (1, .int s.1)] [] s.2 v σ2) (fun y => kw_G E kwTX 48 (d + 2) μX7_findParents 51 [] [] y v σ2) o) : kw_G E kwTX 48 (d + 2) μX7_findParents 18 [(0, .ref 1), (1, .int v1)] [] σ v σ2 := by
  unfold bX7_findParents_18 at h
  refine kg_iload_n 1 dX7_findParents_18 rfl (pc2 := 19) rfl ?_
  refine kg_if_lt 51 dX7_findParents_19 rfl (pc2 := 22) rfl (fun q3 => ?_) (fun q3 => ?_)
  · replace h := (if_pos q3).symm.trans h
    refine kg_sub [] (lv2 := []) rfl ?_
    cases h
    exact hk
  · replace h := (if_neg q3).symm.trans h
    refine kg_aload_n 0 dX7_findParents_22 rfl (pc2 := 23) rfl ?_
    refine kg_iload_n 1 dX7_findParents_23 rfl (pc2 := 24) rfl ?_
    obtain ⟨r4, r4h, h⟩ := kw_bind_e h
    refine kg_callV (μ := μX7_findParents) (d := (d + 1)) rfl mVX7_isTight [.int v1] [] (gX7_isTight (E := E) (d := d) v1 σ r4h) rfl lmRX7_123 (ci := 7) rfl tX_1 eX_1 rfl (Nat.le_of_ble_eq_true rfl) dX7_findParents_24 rfl (st2 := [.int r4]) rfl (pc2 := 27) rfl ?_
    refine kg_if_eq 45 dX7_findParents_27 rfl (pc2 := 30) rfl (fun q5 => ?_) (fun q5 => ?_)
    · replace h := (if_pos q5).symm.trans h
      obtain ⟨x6, x6e, h⟩ := kw_let_e h
      refine kg_iinc 1 dX7_findParents_45 rfl (Nat.le_of_ble_eq_true rfl) x6e (lv2 := [(1, .int x6), (0, .ref 1)]) rfl (pc2 := 48) rfl ?_
      refine kg_goto 18 dX7_findParents_48 rfl ?_
      refine kg_sub [1, 0] (lv2 := [(0, .ref 1), (1, .int x6)]) rfl ?_
      cases h
      exact hk
    · replace h := (if_neg q5).symm.trans h
      refine kg_aload_n 0 dX7_findParents_30 rfl (pc2 := 31) rfl ?_
      refine kg_getr clX7 rfl 10 (Nat.le_of_ble_eq_true rfl) lfRX7_40 tX_1 eX_1 rfl dX7_findParents_31 (pc2 := 34) rfl ?_
      refine kg_aload_n 0 dX7_findParents_34 rfl (pc2 := 35) rfl ?_
      refine kg_getr clX7 rfl 0 (Nat.le_of_ble_eq_true rfl) lfRX7_12 tX_1 eX_1 rfl dX7_findParents_35 (pc2 := 38) rfl ?_
      refine kg_getr clX4 rfl 4 (Nat.le_of_ble_eq_true rfl) lfRX7_126 tX_12 eX_12 rfl dX7_findParents_38 (pc2 := 41) rfl ?_
      refine kg_iload_n 1 dX7_findParents_41 rfl (pc2 := 42) rfl ?_
      obtain ⟨q7, h⟩ := kw_chk_e h
      refine kg_iald tX_19 eX_19 q7 (j := v1.toNatClampNeg) rfl dX7_findParents_42 (pc2 := 43) rfl ?_
      refine kg_iload_n 1 dX7_findParents_43 rfl (pc2 := 44) rfl ?_
      obtain ⟨q8, h⟩ := kw_chk_e h
      obtain ⟨s9, s9e, h⟩ := kw_let_e h
      refine kg_iast tX_17 eX_17 q8 (j := (σ.1 19 v1.toNatClampNeg).toNatClampNeg) rfl s9e dX7_findParents_44 (pc2 := 45) rfl ?_
      obtain ⟨x10, x10e, h⟩ := kw_let_e h
      refine kg_iinc 1 dX7_findParents_45 rfl (Nat.le_of_ble_eq_true rfl) x10e (lv2 := [(1, .int x10), (0, .ref 1)]) rfl (pc2 := 48) rfl ?_
      refine kg_goto 18 dX7_findParents_48 rfl ?_
      refine kg_sub [1, 0] (lv2 := [(0, .ref 1), (1, .int x10)]) rfl ?_
      cases h
      exact hk
set_option maxHeartbeats 4000000 in
set_option maxRecDepth 100000 in
theorem gX7_findParents {E : kw_E} {d : Nat} (σ : kw_M) {r : kw_M} (h : fX7_findParents σ = some r) : kw_Met E kwTX 48 (d + 2) μX7_findParents [.ref 1] σ none r := by
  refine kw_enter plRX7 (Nat.le_of_ble_eq_true rfl) ?_
  show kw_G E kwTX 48 (d + 2) μX7_findParents 0 [(0, .ref 1)] [] σ none r
  unfold fX7_findParents at h
  refine kg_aload_n 0 dX7_findParents_0 rfl (pc2 := 1) rfl ?_
  refine kg_getr clX7 rfl 10 (Nat.le_of_ble_eq_true rfl) lfRX7_40 tX_1 eX_1 rfl dX7_findParents_1 (pc2 := 4) rfl ?_
  refine kg_iconst dX7_findParents_4 ki_m1 (pc2 := 5) rfl ?_
  obtain ⟨r1, r1h, h⟩ := kw_bind_e h
  refine kg_callS (μ := μX7_findParents) (d := (d + 1)) rfl mSJ7_fill_53178 [.ref 17, .int (-1 : Int32)] [] (gXJ7_fill_53178 (E := E) (d := (d + 1)) (-1 : Int32) σ r1h) rfl lmRX7_114 rfl (Nat.le_of_ble_eq_true rfl) dX7_findParents_5 rfl (st2 := []) rfl (pc2 := 8) rfl ?_
  refine kg_aload_n 0 dX7_findParents_8 rfl (pc2 := 9) rfl ?_
  refine kg_getr clX7 rfl 0 (Nat.le_of_ble_eq_true rfl) lfRX7_12 tX_1 eX_1 rfl dX7_findParents_9 (pc2 := 12) rfl ?_
  refine kg_geti clX4 rfl 1 (Nat.le_of_ble_eq_true rfl) lfRX7_120 tX_12 eX_12 rfl dX7_findParents_12 (pc2 := 15) rfl ?_
  refine kg_iconst dX7_findParents_15 ki_1 (pc2 := 16) rfl ?_
  refine kg_isub dX7_findParents_16 (pc2 := 17) rfl ?_
  obtain ⟨x2, x2e, h⟩ := kw_let_e h
  refine kg_istore_n dX7_findParents_17 rfl (Nat.le_of_ble_eq_true rfl) x2e (lv2 := [(1, .int x2), (0, .ref 1)]) rfl (pc2 := 18) rfl ?_
  refine kg_sub [1, 0] (lv2 := [(0, .ref 1), (1, .int x2)]) rfl ?_
  obtain ⟨x11, x11h, h⟩ := kw_bind_e h
  refine kw_loop_e (P := fun s => kw_G E kwTX 48 (d + 2) μX7_findParents 18 [(0, .ref 1), (1, .int s.1)] [] s.2 none r) (K := fun y => kw_G E kwTX 48 (d + 2) μX7_findParents 51 [] [] y none r) (fun s o h0 hk => lX7_findParents_18 s.1 s.2 h0 hk) kw_F _ _ x11h ?_
  show kw_G E kwTX 48 (d + 2) μX7_findParents 51 [] [] x11 none r
  cases h
  exact kg_vret dX7_findParents_51 rfl
set_option maxHeartbeats 4000000 in
set_option maxRecDepth 100000 in
theorem gX7_beginWith {E : kw_E} {d : Nat} (σ : kw_M) {r : kw_M} (h : fX7_beginWith σ = some r) : kw_Met E kwTX 48 (d + 3) μX7_beginWith [.ref 1, .ref 10, .ref 11] σ none r := by
  refine kw_enter plRX7 (Nat.le_of_ble_eq_true rfl) ?_
  show kw_G E kwTX 48 (d + 3) μX7_beginWith 0 [(0, .ref 1), (1, .ref 10), (2, .ref 11)] [] σ none r
  unfold fX7_beginWith at h
  refine kg_aload_n 0 dX7_beginWith_0 rfl (pc2 := 1) rfl ?_
  refine kg_getr clX7 rfl 0 (Nat.le_of_ble_eq_true rfl) lfRX7_12 tX_1 eX_1 rfl dX7_beginWith_1 (pc2 := 4) rfl ?_
  refine kg_aload_n 1 dX7_beginWith_4 rfl (pc2 := 5) rfl ?_
  obtain ⟨r1, r1h, h⟩ := kw_bind_e h
  refine kg_callV (μ := μX7_beginWith) (d := (d + 2)) rfl mVX4_copyFrom [.ref 10] [] (gX4_copyFrom (E := E) (d := (d + 1)) 12 10 kx_4_12 kx_4_10 σ r1h) rfl lmRX7_50 (ci := 4) rfl tX_12 eX_12 rfl (Nat.le_of_ble_eq_true rfl) dX7_beginWith_5 rfl (st2 := []) rfl (pc2 := 8) rfl ?_
  refine kg_aload_n 0 dX7_beginWith_8 rfl (pc2 := 9) rfl ?_
  refine kg_getr clX7 rfl 1 (Nat.le_of_ble_eq_true rfl) lfRX7_21 tX_1 eX_1 rfl dX7_beginWith_9 (pc2 := 12) rfl ?_
  refine kg_iconst dX7_beginWith_12 ki_0 (pc2 := 13) rfl ?_
  obtain ⟨s2, s2e, h⟩ := kw_let_e h
  refine kg_puti clX0 rfl 0 (Nat.le_of_ble_eq_true rfl) lfRX7_75 rfl tX_13 eX_13 rfl (ty := .int) (by decide +kernel) rfl rfl s2e dX7_beginWith_13 (pc2 := 16) rfl ?_
  refine kg_aload_n 0 dX7_beginWith_16 rfl (pc2 := 17) rfl ?_
  refine kg_iconst dX7_beginWith_17 ki_0 (pc2 := 18) rfl ?_
  obtain ⟨s3, s3e, h⟩ := kw_let_e h
  refine kg_puti clX7 rfl 2 (Nat.le_of_ble_eq_true rfl) lfRX7_57 rfl tX_1 eX_1 rfl (ty := .int) (by decide +kernel) rfl rfl s3e dX7_beginWith_18 (pc2 := 21) rfl ?_
  refine kg_aload_n 0 dX7_beginWith_21 rfl (pc2 := 22) rfl ?_
  refine kg_iconst dX7_beginWith_22 ki_0 (pc2 := 23) rfl ?_
  obtain ⟨s4, s4e, h⟩ := kw_let_e h
  refine kg_puti clX7 rfl 3 (Nat.le_of_ble_eq_true rfl) lfRX7_60 rfl tX_1 eX_1 rfl (ty := .int) (by decide +kernel) rfl rfl s4e dX7_beginWith_23 (pc2 := 26) rfl ?_
  refine kg_aload_n 0 dX7_beginWith_26 rfl (pc2 := 27) rfl ?_
  refine kg_iconst dX7_beginWith_27 ki_0 (pc2 := 28) rfl ?_
  obtain ⟨s5, s5e, h⟩ := kw_let_e h
  refine kg_puti clX7 rfl 5 (Nat.le_of_ble_eq_true rfl) lfRX7_63 rfl tX_1 eX_1 rfl (ty := .int) (by decide +kernel) rfl rfl s5e dX7_beginWith_28 (pc2 := 31) rfl ?_
  refine kg_aload_n 0 dX7_beginWith_31 rfl (pc2 := 32) rfl ?_
  refine kg_iconst dX7_beginWith_32 ki_0 (pc2 := 33) rfl ?_
  obtain ⟨s6, s6e, h⟩ := kw_let_e h
  refine kg_puti clX7 rfl 7 (Nat.le_of_ble_eq_true rfl) lfRX7_66 rfl tX_1 eX_1 rfl (ty := .int) (by decide +kernel) rfl rfl s6e dX7_beginWith_33 (pc2 := 36) rfl ?_
  refine kg_aload_n 2 dX7_beginWith_36 rfl (pc2 := 37) rfl ?_
  refine kg_iconst dX7_beginWith_37 ki_0 (pc2 := 38) rfl ?_
  refine kg_aload_n 0 dX7_beginWith_38 rfl (pc2 := 39) rfl ?_
  refine kg_getr clX7 rfl 9 (Nat.le_of_ble_eq_true rfl) lfRX7_36 tX_1 eX_1 rfl dX7_beginWith_39 (pc2 := 42) rfl ?_
  refine kg_iconst dX7_beginWith_42 ki_0 (pc2 := 43) rfl ?_
  refine kg_bipush dX7_beginWith_43 kb_12 (pc2 := 45) rfl ?_
  obtain ⟨s7, s7e, h⟩ := kw_let_e h
  refine kg_copyl (μ := μX7_beginWith) (d := (d + 2)) rfl rfl cpRX7_69 tX_11 eX_11 tX_16 eX_16 (by decide) (by decide) (by decide) (by decide) (by decide) (Nat.le_of_ble_eq_true rfl) (by decide) (by decide) (by decide) s7e dX7_beginWith_45 (pc2 := 48) rfl ?_
  refine kg_aload_n 0 dX7_beginWith_48 rfl (pc2 := 49) rfl ?_
  obtain ⟨r8, r8h, h⟩ := kw_bind_e h
  refine kg_callV (μ := μX7_beginWith) (d := (d + 2)) rfl mVX7_findParents [] [] (gX7_findParents (E := E) (d := d) s7 r8h) rfl lmRX7_47 (ci := 7) rfl tX_1 eX_1 rfl (Nat.le_of_ble_eq_true rfl) dX7_beginWith_49 rfl (st2 := []) rfl (pc2 := 52) rfl ?_
  cases h
  exact kg_vret dX7_beginWith_52 rfl
set_option maxHeartbeats 4000000 in
set_option maxRecDepth 100000 in
theorem lX9_buildNet_16 {E : kw_E} {d : Nat} (v1 : Int32) (σ : kw_M) {v : Option Value} {σ2 : kw_M} {o : (Int32 × kw_M) ⊕ ((Int32 × kw_M) ⊕ (kw_M))} (h : bX9_buildNet_16 v1 σ = some o) (hk : Sum.elim (fun s => kw_G E kwTX 48 (d + 4) μX9_buildNet 16 [(0, .ref 0), (1, .int s.1)] [] s.2 v σ2) (Sum.elim (fun rr => v = some (Value.int rr.1) ∧ σ2 = rr.2) (fun y => kw_G E kwTX 48 (d + 4) μX9_buildNet 109 [(0, .ref 0)] [] y v σ2)) o) : kw_G E kwTX 48 (d + 4) μX9_buildNet 16 [(0, .ref 0), (1, .int v1)] [] σ v σ2 := by
  unfold bX9_buildNet_16 at h
  refine kg_iload_n 1 dX9_buildNet_16 rfl (pc2 := 17) rfl ?_
  refine kg_aload_n 0 dX9_buildNet_17 rfl (pc2 := 18) rfl ?_
  refine kg_getr clX9 rfl 4 (Nat.le_of_ble_eq_true rfl) lfRX9_29 tX_0 eX_0 rfl dX9_buildNet_18 (pc2 := 21) rfl ?_
  refine kg_geti clX3 rfl 1 (Nat.le_of_ble_eq_true rfl) lfRX9_109 tX_4 eX_4 rfl dX9_buildNet_21 (pc2 := 24) rfl ?_
  refine kg_icmp_ge 109 dX9_buildNet_24 rfl (pc2 := 27) rfl (fun q2 => ?_) (fun q2 => ?_)
  · replace h := (if_pos q2).symm.trans h
    refine kg_sub [0] (lv2 := [(0, .ref 0)]) rfl ?_
    cases h
    exact hk
  · replace h := (if_neg q2).symm.trans h
    refine kg_aload_n 0 dX9_buildNet_27 rfl (pc2 := 28) rfl ?_
    refine kg_getr clX9 rfl 4 (Nat.le_of_ble_eq_true rfl) lfRX9_29 tX_0 eX_0 rfl dX9_buildNet_28 (pc2 := 31) rfl ?_
    refine kg_getr clX3 rfl 2 (Nat.le_of_ble_eq_true rfl) lfRX9_112 tX_4 eX_4 rfl dX9_buildNet_31 (pc2 := 34) rfl ?_
    refine kg_iload_n 1 dX9_buildNet_34 rfl (pc2 := 35) rfl ?_
    obtain ⟨q3, h⟩ := kw_chk_e h
    refine kg_iald tX_36 eX_36 q3 (j := v1.toNatClampNeg) rfl dX9_buildNet_35 (pc2 := 36) rfl ?_
    refine kg_iconst dX9_buildNet_36 ki_1 (pc2 := 37) rfl ?_
    refine kg_icmp_eq 43 dX9_buildNet_37 rfl (pc2 := 40) rfl (fun q4 => ?_) (fun q4 => ?_)
    · replace h := (if_pos q4).symm.trans h
      refine kg_aload_n 0 dX9_buildNet_43 rfl (pc2 := 44) rfl ?_
      refine kg_getr clX9 rfl 10 (Nat.le_of_ble_eq_true rfl) lfRX9_72 tX_0 eX_0 rfl dX9_buildNet_44 (pc2 := 47) rfl ?_
      refine kg_aload_n 0 dX9_buildNet_47 rfl (pc2 := 48) rfl ?_
      refine kg_getr clX9 rfl 4 (Nat.le_of_ble_eq_true rfl) lfRX9_29 tX_0 eX_0 rfl dX9_buildNet_48 (pc2 := 51) rfl ?_
      refine kg_iload_n 1 dX9_buildNet_51 rfl (pc2 := 52) rfl ?_
      refine kg_iconst dX9_buildNet_52 ki_0 (pc2 := 53) rfl ?_
      obtain ⟨r5, r5h, h⟩ := kw_bind_e h
      refine kg_callV (μ := μX9_buildNet) (d := (d + 3)) rfl mVX3_number [.int v1, .int (0 : Int32)] [.ref 10] (gX3_number (E := E) (d := (d + 3)) v1 (0 : Int32) σ r5h) rfl lmRX9_115 (ci := 3) rfl tX_4 eX_4 rfl (Nat.le_of_ble_eq_true rfl) dX9_buildNet_53 rfl (st2 := [.int r5, .ref 10]) rfl (pc2 := 56) rfl ?_
      refine kg_aload_n 0 dX9_buildNet_56 rfl (pc2 := 57) rfl ?_
      refine kg_getr clX9 rfl 4 (Nat.le_of_ble_eq_true rfl) lfRX9_29 tX_0 eX_0 rfl dX9_buildNet_57 (pc2 := 60) rfl ?_
      refine kg_iload_n 1 dX9_buildNet_60 rfl (pc2 := 61) rfl ?_
      refine kg_iconst dX9_buildNet_61 ki_1 (pc2 := 62) rfl ?_
      obtain ⟨r6, r6h, h⟩ := kw_bind_e h
      refine kg_callV (μ := μX9_buildNet) (d := (d + 3)) rfl mVX3_number [.int v1, .int (1 : Int32)] [.int r5, .ref 10] (gX3_number (E := E) (d := (d + 3)) v1 (1 : Int32) σ r6h) rfl lmRX9_115 (ci := 3) rfl tX_4 eX_4 rfl (Nat.le_of_ble_eq_true rfl) dX9_buildNet_62 rfl (st2 := [.int r6, .int r5, .ref 10]) rfl (pc2 := 65) rfl ?_
      refine kg_aload_n 0 dX9_buildNet_65 rfl (pc2 := 66) rfl ?_
      refine kg_getr clX9 rfl 4 (Nat.le_of_ble_eq_true rfl) lfRX9_29 tX_0 eX_0 rfl dX9_buildNet_66 (pc2 := 69) rfl ?_
      refine kg_iload_n 1 dX9_buildNet_69 rfl (pc2 := 70) rfl ?_
      refine kg_iconst dX9_buildNet_70 ki_2 (pc2 := 71) rfl ?_
      obtain ⟨r7, r7h, h⟩ := kw_bind_e h
      refine kg_callV (μ := μX9_buildNet) (d := (d + 3)) rfl mVX3_number [.int v1, .int (2 : Int32)] [.int r6, .int r5, .ref 10] (gX3_number (E := E) (d := (d + 3)) v1 (2 : Int32) σ r7h) rfl lmRX9_115 (ci := 3) rfl tX_4 eX_4 rfl (Nat.le_of_ble_eq_true rfl) dX9_buildNet_71 rfl (st2 := [.int r7, .int r6, .int r5, .ref 10]) rfl (pc2 := 74) rfl ?_
      obtain ⟨r8, r8h, h⟩ := kw_bind_e h
      refine kg_callV (μ := μX9_buildNet) (d := (d + 3)) rfl mVX4_addRoad [.int r5, .int r6, .int r7] [] (gX4_addRoad (E := E) (d := (d + 3)) r5 r6 r7 σ r8h) rfl lmRX9_119 (ci := 4) rfl tX_10 eX_10 rfl (Nat.le_of_ble_eq_true rfl) dX9_buildNet_74 rfl (st2 := [.int r8.1]) rfl (pc2 := 77) rfl ?_
      refine kg_istore_n dX9_buildNet_77 rfl (Nat.le_of_ble_eq_true rfl) rfl (lv2 := [(2, .int r8.1), (0, .ref 0), (1, .int v1)]) rfl (pc2 := 78) rfl ?_
      refine kg_iload_n 0 dX9_buildNet_78 rfl (pc2 := 79) rfl ?_
      refine kg_if_lt 103 dX9_buildNet_79 rfl (pc2 := 82) rfl (fun q9 => ?_) (fun q9 => ?_)
      · replace h := (if_pos q9).symm.trans h
        obtain ⟨x10, x10e, h⟩ := kw_let_e h
        refine kg_iinc 2 dX9_buildNet_103 rfl (Nat.le_of_ble_eq_true rfl) x10e (lv2 := [(1, .int x10), (2, .int r8.1), (0, .ref 0)]) rfl (pc2 := 106) rfl ?_
        refine kg_goto 16 dX9_buildNet_106 rfl ?_
        refine kg_sub [2, 0] (lv2 := [(0, .ref 0), (1, .int x10)]) rfl ?_
        cases h
        exact hk
      · replace h := (if_neg q9).symm.trans h
        refine kg_aload_n 1 dX9_buildNet_82 rfl (pc2 := 83) rfl ?_
        refine kg_getr clX9 rfl 10 (Nat.le_of_ble_eq_true rfl) lfRX9_72 tX_0 eX_0 rfl dX9_buildNet_83 (pc2 := 86) rfl ?_
        refine kg_iload_n 0 dX9_buildNet_86 rfl (pc2 := 87) rfl ?_
        refine kg_aload_n 1 dX9_buildNet_87 rfl (pc2 := 88) rfl ?_
        refine kg_getr clX9 rfl 6 (Nat.le_of_ble_eq_true rfl) lfRX9_43 tX_0 eX_0 rfl dX9_buildNet_88 (pc2 := 91) rfl ?_
        refine kg_getr clX6 rfl 0 (Nat.le_of_ble_eq_true rfl) lfRX9_123 tX_6 eX_6 rfl dX9_buildNet_91 (pc2 := 94) rfl ?_
        obtain ⟨r11, r11h, h⟩ := kw_bind_e h
        refine kg_callV (μ := μX9_buildNet) (d := (d + 3)) rfl mVX4_makesBadRing [.int r8.1, .ref 41] [] (gX4_makesBadRing (E := E) (d := (d + 1)) r8.1 r8.2 r11h) rfl lmRX9_126 (ci := 4) rfl tX_10 eX_10 rfl (Nat.le_of_ble_eq_true rfl) dX9_buildNet_94 rfl (st2 := [.int r11.1]) rfl (pc2 := 97) rfl ?_
        refine kg_if_eq 103 dX9_buildNet_97 rfl (pc2 := 100) rfl (fun q12 => ?_) (fun q12 => ?_)
        · replace h := (if_pos q12).symm.trans h
          obtain ⟨x13, x13e, h⟩ := kw_let_e h
          refine kg_iinc 2 dX9_buildNet_103 rfl (Nat.le_of_ble_eq_true rfl) x13e (lv2 := [(1, .int x13), (2, .int r8.1), (0, .ref 0)]) rfl (pc2 := 106) rfl ?_
          refine kg_goto 16 dX9_buildNet_106 rfl ?_
          refine kg_sub [2, 0] (lv2 := [(0, .ref 0), (1, .int x13)]) rfl ?_
          cases h
          exact hk
        · replace h := (if_neg q12).symm.trans h
          refine kg_bipush dX9_buildNet_100 kb_m3 (pc2 := 102) rfl ?_
          cases h
          obtain ⟨rfl, rfl⟩ := hk
          exact kg_iret (ty := .int) dX9_buildNet_102 rfl rfl
    · replace h := (if_neg q4).symm.trans h
      refine kg_goto 103 dX9_buildNet_40 rfl ?_
      obtain ⟨x14, x14e, h⟩ := kw_let_e h
      refine kg_iinc 1 dX9_buildNet_103 rfl (Nat.le_of_ble_eq_true rfl) x14e (lv2 := [(1, .int x14), (0, .ref 0)]) rfl (pc2 := 106) rfl ?_
      refine kg_goto 16 dX9_buildNet_106 rfl ?_
      refine kg_sub [1, 0] (lv2 := [(0, .ref 0), (1, .int x14)]) rfl ?_
      cases h
      exact hk
set_option maxHeartbeats 4000000 in
set_option maxRecDepth 100000 in
theorem gX9_buildNet {E : kw_E} {d : Nat} (σ : kw_M) {r : Int32 × kw_M} (h : fX9_buildNet σ = some r) : kw_Met E kwTX 48 (d + 4) μX9_buildNet [.ref 0] σ (some (Value.int r.1)) r.2 := by
  refine kw_enter plRX9 (Nat.le_of_ble_eq_true rfl) ?_
  show kw_G E kwTX 48 (d + 4) μX9_buildNet 0 [(0, .ref 0)] [] σ (some (Value.int r.1)) r.2
  unfold fX9_buildNet at h
  refine kg_aload_n 0 dX9_buildNet_0 rfl (pc2 := 1) rfl ?_
  refine kg_getr clX9 rfl 10 (Nat.le_of_ble_eq_true rfl) lfRX9_72 tX_0 eX_0 rfl dX9_buildNet_1 (pc2 := 4) rfl ?_
  refine kg_aload_n 0 dX9_buildNet_4 rfl (pc2 := 5) rfl ?_
  refine kg_getr clX9 rfl 4 (Nat.le_of_ble_eq_true rfl) lfRX9_29 tX_0 eX_0 rfl dX9_buildNet_5 (pc2 := 8) rfl ?_
  refine kg_geti clX3 rfl 0 (Nat.le_of_ble_eq_true rfl) lfRX9_103 tX_4 eX_4 rfl dX9_buildNet_8 (pc2 := 11) rfl ?_
  obtain ⟨r1, r1h, h⟩ := kw_bind_e h
  refine kg_callV (μ := μX9_buildNet) (d := (d + 3)) rfl mVX4_beginWith [.int (σ.1 4 0)] [] (gX4_beginWith (E := E) (d := (d + 3)) (σ.1 4 0) σ r1h) rfl lmRX9_106 (ci := 4) rfl tX_10 eX_10 rfl (Nat.le_of_ble_eq_true rfl) dX9_buildNet_11 rfl (st2 := []) rfl (pc2 := 14) rfl ?_
  refine kg_iconst dX9_buildNet_14 ki_0 (pc2 := 15) rfl ?_
  refine kg_istore_n dX9_buildNet_15 rfl (Nat.le_of_ble_eq_true rfl) rfl (lv2 := [(1, .int (0 : Int32)), (0, .ref 0)]) rfl (pc2 := 16) rfl ?_
  refine kg_sub [1, 0] (lv2 := [(0, .ref 0), (1, .int (0 : Int32))]) rfl ?_
  obtain ⟨x15, x15h, h⟩ := kw_bind_e h
  refine kw_loop_e (P := fun s => kw_G E kwTX 48 (d + 4) μX9_buildNet 16 [(0, .ref 0), (1, .int s.1)] [] s.2 (some (Value.int r.1)) r.2) (K := Sum.elim (fun rr => (some (Value.int r.1)) = some (Value.int rr.1) ∧ r.2 = rr.2) (fun y => kw_G E kwTX 48 (d + 4) μX9_buildNet 109 [(0, .ref 0)] [] y (some (Value.int r.1)) r.2)) (fun s o h0 hk => lX9_buildNet_16 s.1 s.2 h0 hk) kw_F _ _ x15h ?_
  rcases x15 with x15r | x15
  · replace h := kw_se_l h
    cases h
    exact ⟨rfl, rfl⟩
  · replace h := kw_se_r h
    show kw_G E kwTX 48 (d + 4) μX9_buildNet 109 [(0, .ref 0)] [] x15 (some (Value.int r.1)) r.2
    refine kg_aload_n 0 dX9_buildNet_109 rfl (pc2 := 110) rfl ?_
    refine kg_getr clX9 rfl 10 (Nat.le_of_ble_eq_true rfl) lfRX9_72 tX_0 eX_0 rfl dX9_buildNet_110 (pc2 := 113) rfl ?_
    refine kg_iconst dX9_buildNet_113 ki_0 (pc2 := 114) rfl ?_
    refine kg_iconst dX9_buildNet_114 ki_m1 (pc2 := 115) rfl ?_
    refine kg_aload_n 0 dX9_buildNet_115 rfl (pc2 := 116) rfl ?_
    refine kg_getr clX9 rfl 11 (Nat.le_of_ble_eq_true rfl) lfRX9_76 tX_0 eX_0 rfl dX9_buildNet_116 (pc2 := 119) rfl ?_
    obtain ⟨r16, r16h, h⟩ := kw_bind_e h
    refine kg_callV (μ := μX9_buildNet) (d := (d + 3)) rfl mVX4_settle [.int (0 : Int32), .int (-1 : Int32), .ref 11] [] (gX4_settle (E := E) (d := (d + 2)) 10 11 kx_4_10 ⟨tX_11, eX_11⟩ (0 : Int32) (-1 : Int32) x15 r16h) rfl lmRX9_130 (ci := 4) rfl tX_10 eX_10 rfl (Nat.le_of_ble_eq_true rfl) dX9_buildNet_119 rfl (st2 := []) rfl (pc2 := 122) rfl ?_
    refine kg_aload_n 0 dX9_buildNet_122 rfl (pc2 := 123) rfl ?_
    refine kg_getr clX9 rfl 10 (Nat.le_of_ble_eq_true rfl) lfRX9_72 tX_0 eX_0 rfl dX9_buildNet_123 (pc2 := 126) rfl ?_
    refine kg_aload_n 0 dX9_buildNet_126 rfl (pc2 := 127) rfl ?_
    refine kg_getr clX9 rfl 11 (Nat.le_of_ble_eq_true rfl) lfRX9_76 tX_0 eX_0 rfl dX9_buildNet_127 (pc2 := 130) rfl ?_
    obtain ⟨r17, r17h, h⟩ := kw_bind_e h
    refine kg_callV (μ := μX9_buildNet) (d := (d + 3)) rfl mVX4_allInts [.ref 11] [] (gX4_allInts (E := E) (d := (d + 3)) r16 r17h) rfl lmRX9_134 (ci := 4) rfl tX_10 eX_10 rfl (Nat.le_of_ble_eq_true rfl) dX9_buildNet_130 rfl (st2 := [.int r17]) rfl (pc2 := 133) rfl ?_
    refine kg_if_ne 139 dX9_buildNet_133 rfl (pc2 := 136) rfl (fun q18 => ?_) (fun q18 => ?_)
    · replace h := (if_neg q18).symm.trans h
      refine kg_aload_n 0 dX9_buildNet_139 rfl (pc2 := 140) rfl ?_
      refine kg_getr clX9 rfl 0 (Nat.le_of_ble_eq_true rfl) lfRX9_10 tX_0 eX_0 rfl dX9_buildNet_140 (pc2 := 143) rfl ?_
      refine kg_aload_n 0 dX9_buildNet_143 rfl (pc2 := 144) rfl ?_
      refine kg_getr clX9 rfl 10 (Nat.le_of_ble_eq_true rfl) lfRX9_72 tX_0 eX_0 rfl dX9_buildNet_144 (pc2 := 147) rfl ?_
      refine kg_aload_n 0 dX9_buildNet_147 rfl (pc2 := 148) rfl ?_
      refine kg_getr clX9 rfl 11 (Nat.le_of_ble_eq_true rfl) lfRX9_76 tX_0 eX_0 rfl dX9_buildNet_148 (pc2 := 151) rfl ?_
      obtain ⟨r19, r19h, h⟩ := kw_bind_e h
      refine kg_callV (μ := μX9_buildNet) (d := (d + 3)) rfl mVX7_beginWith [.ref 10, .ref 11] [] (gX7_beginWith (E := E) (d := d) r16 r19h) rfl lmRX9_138 (ci := 7) rfl tX_1 eX_1 rfl (Nat.le_of_ble_eq_true rfl) dX9_buildNet_151 rfl (st2 := []) rfl (pc2 := 154) rfl ?_
      refine kg_aload_n 0 dX9_buildNet_154 rfl (pc2 := 155) rfl ?_
      refine kg_iconst dX9_buildNet_155 ki_0 (pc2 := 156) rfl ?_
      obtain ⟨s20, s20e, h⟩ := kw_let_e h
      refine kg_puti clX9 rfl 2 (Nat.le_of_ble_eq_true rfl) lfRX9_141 rfl tX_0 eX_0 rfl (ty := .boolean) (by decide +kernel) rfl rfl s20e dX9_buildNet_156 (pc2 := 159) rfl ?_
      refine kg_aload_n 0 dX9_buildNet_159 rfl (pc2 := 160) rfl ?_
      refine kg_getr clX9 rfl 5 (Nat.le_of_ble_eq_true rfl) lfRX9_36 tX_0 eX_0 rfl dX9_buildNet_160 (pc2 := 163) rfl ?_
      refine kg_iconst dX9_buildNet_163 ki_0 (pc2 := 164) rfl ?_
      obtain ⟨s21, s21e, h⟩ := kw_let_e h
      refine kg_puti clX2 rfl 0 (Nat.le_of_ble_eq_true rfl) lfRX9_145 rfl tX_5 eX_5 rfl (ty := .boolean) (by decide +kernel) rfl rfl s21e dX9_buildNet_164 (pc2 := 167) rfl ?_
      refine kg_aload_n 0 dX9_buildNet_167 rfl (pc2 := 168) rfl ?_
      refine kg_getr clX9 rfl 4 (Nat.le_of_ble_eq_true rfl) lfRX9_29 tX_0 eX_0 rfl dX9_buildNet_168 (pc2 := 171) rfl ?_
      refine kg_geti clX3 rfl 1 (Nat.le_of_ble_eq_true rfl) lfRX9_109 tX_4 eX_4 rfl dX9_buildNet_171 (pc2 := 174) rfl ?_
      cases h
      exact kg_iret (ty := .int) dX9_buildNet_174 rfl rfl
    · replace h := (if_pos q18).symm.trans h
      refine kg_bipush dX9_buildNet_136 kb_m4 (pc2 := 138) rfl ?_
      cases h
      exact kg_iret (ty := .int) dX9_buildNet_138 rfl rfl
set_option maxHeartbeats 4000000 in
set_option maxRecDepth 100000 in
theorem gX9_net {E : kw_E} {d : Nat} (a1 : Int32) (σ : kw_M) {r : Int32 × kw_M} (h : fX9_net a1 σ = some r) : kw_Met E kwTX 48 (d + 9) μX9_net [.ref 0, .int a1] σ (some (Value.int r.1)) r.2 := by
  refine kw_enter plRX9 (Nat.le_of_ble_eq_true rfl) ?_
  show kw_G E kwTX 48 (d + 9) μX9_net 0 [(0, .ref 0), (1, .int a1)] [] σ (some (Value.int r.1)) r.2
  unfold fX9_net at h
  refine kg_aload_n 0 dX9_net_0 rfl (pc2 := 1) rfl ?_
  refine kg_getr clX9 rfl 3 (Nat.le_of_ble_eq_true rfl) lfRX9_22 tX_0 eX_0 rfl dX9_net_1 (pc2 := 4) rfl ?_
  refine kg_iload_n 1 dX9_net_4 rfl (pc2 := 5) rfl ?_
  refine kg_iconst dX9_net_5 ki_1 (pc2 := 6) rfl ?_
  refine kg_sipush dX9_net_6 ks_200 (pc2 := 9) rfl ?_
  obtain ⟨r1, r1h, h⟩ := kw_bind_e h
  refine kg_callV (μ := μX9_net) (d := (d + 8)) rfl mVX8_canGive [.int a1, .int (1 : Int32), .int (200 : Int32)] [] (gX8_canGive (E := E) (d := (d + 8)) a1 (1 : Int32) (200 : Int32) σ r1h) rfl lmRX9_87 (ci := 8) rfl tX_3 eX_3 rfl (Nat.le_of_ble_eq_true rfl) dX9_net_9 rfl (st2 := [.int r1]) rfl (pc2 := 12) rfl ?_
  refine kg_if_ne 17 dX9_net_12 rfl (pc2 := 15) rfl (fun q2 => ?_) (fun q2 => ?_)
  · replace h := (if_neg q2).symm.trans h
    refine kg_aload_n 0 dX9_net_17 rfl (pc2 := 18) rfl ?_
    refine kg_getr clX9 rfl 4 (Nat.le_of_ble_eq_true rfl) lfRX9_29 tX_0 eX_0 rfl dX9_net_18 (pc2 := 21) rfl ?_
    refine kg_aload_n 0 dX9_net_21 rfl (pc2 := 22) rfl ?_
    refine kg_getr clX9 rfl 3 (Nat.le_of_ble_eq_true rfl) lfRX9_22 tX_0 eX_0 rfl dX9_net_22 (pc2 := 25) rfl ?_
    refine kg_getr clX8 rfl 1 (Nat.le_of_ble_eq_true rfl) lfRX9_91 tX_3 eX_3 rfl dX9_net_25 (pc2 := 28) rfl ?_
    refine kg_iload_n 1 dX9_net_28 rfl (pc2 := 29) rfl ?_
    refine kg_iconst dX9_net_29 ki_1 (pc2 := 30) rfl ?_
    refine kg_iconst dX9_net_30 ki_2 (pc2 := 31) rfl ?_
    obtain ⟨r3, r3h, h⟩ := kw_bind_e h
    refine kg_callV (μ := μX9_net) (d := (d + 8)) rfl mVX3_readText [.ref 35, .int a1, .int (1 : Int32), .int (2 : Int32)] [] (gX3_readText (E := E) (d := d) a1 (1 : Int32) (2 : Int32) σ r3h) rfl lmRX9_95 (ci := 3) rfl tX_4 eX_4 rfl (Nat.le_of_ble_eq_true rfl) dX9_net_31 rfl (st2 := [.int r3.1]) rfl (pc2 := 34) rfl ?_
    refine kg_istore_n dX9_net_34 rfl (Nat.le_of_ble_eq_true rfl) rfl (lv2 := [(2, .int r3.1), (0, .ref 0), (1, .int a1)]) rfl (pc2 := 35) rfl ?_
    refine kg_aload_n 1 dX9_net_35 rfl (pc2 := 36) rfl ?_
    refine kg_getr clX9 rfl 3 (Nat.le_of_ble_eq_true rfl) lfRX9_22 tX_0 eX_0 rfl dX9_net_36 (pc2 := 39) rfl ?_
    refine kg_iconst dX9_net_39 ki_0 (pc2 := 40) rfl ?_
    obtain ⟨s4, s4e, h⟩ := kw_let_e h
    refine kg_puti clX8 rfl 0 (Nat.le_of_ble_eq_true rfl) lfRX9_79 rfl tX_3 eX_3 rfl (ty := .int) (by decide +kernel) rfl rfl s4e dX9_net_40 (pc2 := 43) rfl ?_
    refine kg_iload_n 0 dX9_net_43 rfl (pc2 := 44) rfl ?_
    refine kg_if_eq 51 dX9_net_44 rfl (pc2 := 47) rfl (fun q5 => ?_) (fun q5 => ?_)
    · replace h := (if_pos q5).symm.trans h
      refine kg_aload_n 1 dX9_net_51 rfl (pc2 := 52) rfl ?_
      obtain ⟨r6, r6h, h⟩ := kw_bind_e h
      refine kg_callV (μ := μX9_net) (d := (d + 8)) rfl mVX9_buildNet [] [] (gX9_buildNet (E := E) (d := (d + 4)) s4 r6h) rfl lmRX9_99 (ci := 9) rfl tX_0 eX_0 rfl (Nat.le_of_ble_eq_true rfl) dX9_net_52 rfl (st2 := [.int r6.1]) rfl (pc2 := 55) rfl ?_
      cases h
      exact kg_iret (ty := .int) dX9_net_55 rfl rfl
    · replace h := (if_neg q5).symm.trans h
      refine kg_iload_n 0 dX9_net_47 rfl (pc2 := 48) rfl ?_
      refine kg_goto 55 dX9_net_48 rfl ?_
      cases h
      exact kg_iret (ty := .int) dX9_net_55 rfl rfl
  · replace h := (if_pos q2).symm.trans h
    refine kg_iconst dX9_net_15 ki_m1 (pc2 := 16) rfl ?_
    cases h
    exact kg_iret (ty := .int) dX9_net_16 rfl rfl
set_option maxHeartbeats 4000000 in
set_option maxRecDepth 100000 in
theorem gX4_hasTown {E : kw_E} {d : Nat} (a1 : Int32) (σ : kw_M) {r : Int32} (h : fX4_hasTown a1 σ = some r) : kw_Met E kwTX 48 d μX4_hasTown [.ref 12, .int a1] σ (some (Value.int r)) σ := by
  refine kw_enter plRX4 (Nat.le_of_ble_eq_true rfl) ?_
  show kw_G E kwTX 48 d μX4_hasTown 0 [(0, .ref 12), (1, .int a1)] [] σ (some (Value.int r)) σ
  unfold fX4_hasTown at h
  refine kg_iload_n 1 dX4_hasTown_0 rfl (pc2 := 1) rfl ?_
  refine kg_if_lt 16 dX4_hasTown_1 rfl (pc2 := 4) rfl (fun q1 => ?_) (fun q1 => ?_)
  · replace h := (if_pos q1).symm.trans h
    refine kg_iconst dX4_hasTown_16 ki_0 (pc2 := 17) rfl ?_
    cases h
    exact kg_iret (ty := .boolean) dX4_hasTown_17 rfl rfl
  · replace h := (if_neg q1).symm.trans h
    refine kg_iload_n 1 dX4_hasTown_4 rfl (pc2 := 5) rfl ?_
    refine kg_aload_n 0 dX4_hasTown_5 rfl (pc2 := 6) rfl ?_
    refine kg_geti clX4 rfl 0 (Nat.le_of_ble_eq_true rfl) lfRX4_9 tX_12 eX_12 rfl dX4_hasTown_6 (pc2 := 9) rfl ?_
    refine kg_icmp_ge 16 dX4_hasTown_9 rfl (pc2 := 12) rfl (fun q2 => ?_) (fun q2 => ?_)
    · replace h := (if_pos q2).symm.trans h
      refine kg_iconst dX4_hasTown_16 ki_0 (pc2 := 17) rfl ?_
      cases h
      exact kg_iret (ty := .boolean) dX4_hasTown_17 rfl rfl
    · replace h := (if_neg q2).symm.trans h
      refine kg_iconst dX4_hasTown_12 ki_1 (pc2 := 13) rfl ?_
      refine kg_goto 17 dX4_hasTown_13 rfl ?_
      cases h
      exact kg_iret (ty := .boolean) dX4_hasTown_17 rfl rfl
set_option maxHeartbeats 4000000 in
set_option maxRecDepth 100000 in
theorem gX9_isLength {E : kw_E} {d : Nat} (a0 : Int32) (σ : kw_M) {r : Int32} (h : fX9_isLength a0 σ = some r) : kw_Met E kwTX 48 d μX9_isLength [.int a0] σ (some (Value.int r)) σ := by
  refine kw_enter plRX9 (Nat.le_of_ble_eq_true rfl) ?_
  show kw_G E kwTX 48 d μX9_isLength 0 [(0, .int a0)] [] σ (some (Value.int r)) σ
  unfold fX9_isLength at h
  refine kg_iload_n 0 dX9_isLength_0 rfl (pc2 := 1) rfl ?_
  refine kg_ldc rfl lcRX9_217 dX9_isLength_1 (pc2 := 3) rfl ?_
  refine kg_icmp_lt 16 dX9_isLength_3 rfl (pc2 := 6) rfl (fun q1 => ?_) (fun q1 => ?_)
  · replace h := (if_pos q1).symm.trans h
    refine kg_iconst dX9_isLength_16 ki_0 (pc2 := 17) rfl ?_
    cases h
    exact kg_iret (ty := .boolean) dX9_isLength_17 rfl rfl
  · replace h := (if_neg q1).symm.trans h
    refine kg_iload_n 0 dX9_isLength_6 rfl (pc2 := 7) rfl ?_
    refine kg_ldc rfl lcRX9_218 dX9_isLength_7 (pc2 := 9) rfl ?_
    refine kg_icmp_gt 16 dX9_isLength_9 rfl (pc2 := 12) rfl (fun q2 => ?_) (fun q2 => ?_)
    · replace h := (if_pos q2).symm.trans h
      refine kg_iconst dX9_isLength_16 ki_0 (pc2 := 17) rfl ?_
      cases h
      exact kg_iret (ty := .boolean) dX9_isLength_17 rfl rfl
    · replace h := (if_neg q2).symm.trans h
      refine kg_iconst dX9_isLength_12 ki_1 (pc2 := 13) rfl ?_
      refine kg_goto 17 dX9_isLength_13 rfl ?_
      cases h
      exact kg_iret (ty := .boolean) dX9_isLength_17 rfl rfl
set_option maxHeartbeats 4000000 in
set_option maxRecDepth 100000 in
theorem gX9_judgeAside {E : kw_E} {d : Nat} (a1 : Int32) (a2 : Int32) (σ : kw_M) {r : Int32 × kw_M} (h : fX9_judgeAside a1 a2 σ = some r) : kw_Met E kwTX 48 (d + 3) μX9_judgeAside [.ref 0, .int a1, .int a2] σ (some (Value.int r.1)) r.2 := by
  refine kw_enter plRX9 (Nat.le_of_ble_eq_true rfl) ?_
  show kw_G E kwTX 48 (d + 3) μX9_judgeAside 0 [(0, .ref 0), (1, .int a1), (2, .int a2)] [] σ (some (Value.int r.1)) r.2
  unfold fX9_judgeAside at h
  refine kg_aload_n 0 dX9_judgeAside_0 rfl (pc2 := 1) rfl ?_
  refine kg_getr clX9 rfl 10 (Nat.le_of_ble_eq_true rfl) lfRX9_72 tX_0 eX_0 rfl dX9_judgeAside_1 (pc2 := 4) rfl ?_
  refine kg_iload_n 1 dX9_judgeAside_4 rfl (pc2 := 5) rfl ?_
  refine kg_aload_n 0 dX9_judgeAside_5 rfl (pc2 := 6) rfl ?_
  refine kg_getr clX9 rfl 6 (Nat.le_of_ble_eq_true rfl) lfRX9_43 tX_0 eX_0 rfl dX9_judgeAside_6 (pc2 := 9) rfl ?_
  refine kg_getr clX6 rfl 0 (Nat.le_of_ble_eq_true rfl) lfRX9_123 tX_6 eX_6 rfl dX9_judgeAside_9 (pc2 := 12) rfl ?_
  obtain ⟨r1, r1h, h⟩ := kw_bind_e h
  refine kg_callV (μ := μX9_judgeAside) (d := (d + 2)) rfl mVX4_makesBadRing [.int a1, .ref 41] [] (gX4_makesBadRing (E := E) (d := d) a1 σ r1h) rfl lmRX9_126 (ci := 4) rfl tX_10 eX_10 rfl (Nat.le_of_ble_eq_true rfl) dX9_judgeAside_12 rfl (st2 := [.int r1.1]) rfl (pc2 := 15) rfl ?_
  refine kg_if_eq 21 dX9_judgeAside_15 rfl (pc2 := 18) rfl (fun q2 => ?_) (fun q2 => ?_)
  · replace h := (if_pos q2).symm.trans h
    refine kg_aload_n 0 dX9_judgeAside_21 rfl (pc2 := 22) rfl ?_
    refine kg_getr clX9 rfl 10 (Nat.le_of_ble_eq_true rfl) lfRX9_72 tX_0 eX_0 rfl dX9_judgeAside_22 (pc2 := 25) rfl ?_
    refine kg_iload_n 2 dX9_judgeAside_25 rfl (pc2 := 26) rfl ?_
    refine kg_iconst dX9_judgeAside_26 ki_m1 (pc2 := 27) rfl ?_
    refine kg_aload_n 0 dX9_judgeAside_27 rfl (pc2 := 28) rfl ?_
    refine kg_getr clX9 rfl 11 (Nat.le_of_ble_eq_true rfl) lfRX9_76 tX_0 eX_0 rfl dX9_judgeAside_28 (pc2 := 31) rfl ?_
    obtain ⟨r3, r3h, h⟩ := kw_bind_e h
    refine kg_callV (μ := μX9_judgeAside) (d := (d + 2)) rfl mVX4_settle [.int a2, .int (-1 : Int32), .ref 11] [] (gX4_settle (E := E) (d := (d + 1)) 10 11 kx_4_10 ⟨tX_11, eX_11⟩ a2 (-1 : Int32) r1.2 r3h) rfl lmRX9_130 (ci := 4) rfl tX_10 eX_10 rfl (Nat.le_of_ble_eq_true rfl) dX9_judgeAside_31 rfl (st2 := []) rfl (pc2 := 34) rfl ?_
    refine kg_aload_n 0 dX9_judgeAside_34 rfl (pc2 := 35) rfl ?_
    refine kg_getr clX9 rfl 10 (Nat.le_of_ble_eq_true rfl) lfRX9_72 tX_0 eX_0 rfl dX9_judgeAside_35 (pc2 := 38) rfl ?_
    refine kg_aload_n 0 dX9_judgeAside_38 rfl (pc2 := 39) rfl ?_
    refine kg_getr clX9 rfl 11 (Nat.le_of_ble_eq_true rfl) lfRX9_76 tX_0 eX_0 rfl dX9_judgeAside_39 (pc2 := 42) rfl ?_
    obtain ⟨r4, r4h, h⟩ := kw_bind_e h
    refine kg_callV (μ := μX9_judgeAside) (d := (d + 2)) rfl mVX4_allInts [.ref 11] [] (gX4_allInts (E := E) (d := (d + 2)) r3 r4h) rfl lmRX9_134 (ci := 4) rfl tX_10 eX_10 rfl (Nat.le_of_ble_eq_true rfl) dX9_judgeAside_42 rfl (st2 := [.int r4]) rfl (pc2 := 45) rfl ?_
    refine kg_if_eq 52 dX9_judgeAside_45 rfl (pc2 := 48) rfl (fun q5 => ?_) (fun q5 => ?_)
    · replace h := (if_pos q5).symm.trans h
      refine kg_bipush dX9_judgeAside_52 kb_m4 (pc2 := 54) rfl ?_
      cases h
      exact kg_iret (ty := .int) dX9_judgeAside_54 rfl rfl
    · replace h := (if_neg q5).symm.trans h
      refine kg_iconst dX9_judgeAside_48 ki_0 (pc2 := 49) rfl ?_
      refine kg_goto 54 dX9_judgeAside_49 rfl ?_
      cases h
      exact kg_iret (ty := .int) dX9_judgeAside_54 rfl rfl
  · replace h := (if_neg q2).symm.trans h
    refine kg_bipush dX9_judgeAside_18 kb_m3 (pc2 := 20) rfl ?_
    cases h
    exact kg_iret (ty := .int) dX9_judgeAside_20 rfl rfl
set_option maxHeartbeats 4000000 in
set_option maxRecDepth 100000 in
theorem gX7_isWatched {E : kw_E} {d : Nat} (a1 : Int32) (σ : kw_M) {r : Int32} (h : fX7_isWatched a1 σ = some r) : kw_Met E kwTX 48 d μX7_isWatched [.ref 1, .int a1] σ (some (Value.int r)) σ := by
  refine kw_enter plRX7 (Nat.le_of_ble_eq_true rfl) ?_
  show kw_G E kwTX 48 d μX7_isWatched 0 [(0, .ref 1), (1, .int a1)] [] σ (some (Value.int r)) σ
  unfold fX7_isWatched at h
  refine kg_aload_n 0 dX7_isWatched_0 rfl (pc2 := 1) rfl ?_
  refine kg_geti clX7 rfl 5 (Nat.le_of_ble_eq_true rfl) lfRX7_63 tX_1 eX_1 rfl dX7_isWatched_1 (pc2 := 4) rfl ?_
  refine kg_iload_n 1 dX7_isWatched_4 rfl (pc2 := 5) rfl ?_
  refine kg_ishr dX7_isWatched_5 (pc2 := 6) rfl ?_
  refine kg_iconst dX7_isWatched_6 ki_1 (pc2 := 7) rfl ?_
  refine kg_iand dX7_isWatched_7 (pc2 := 8) rfl ?_
  refine kg_if_eq 15 dX7_isWatched_8 rfl (pc2 := 11) rfl (fun q1 => ?_) (fun q1 => ?_)
  · replace h := (if_pos q1).symm.trans h
    refine kg_iconst dX7_isWatched_15 ki_0 (pc2 := 16) rfl ?_
    cases h
    exact kg_iret (ty := .boolean) dX7_isWatched_16 rfl rfl
  · replace h := (if_neg q1).symm.trans h
    refine kg_iconst dX7_isWatched_11 ki_1 (pc2 := 12) rfl ?_
    refine kg_goto 16 dX7_isWatched_12 rfl ?_
    cases h
    exact kg_iret (ty := .boolean) dX7_isWatched_16 rfl rfl
set_option maxHeartbeats 4000000 in
set_option maxRecDepth 100000 in
theorem gX7_isBeyond {E : kw_E} {d : Nat} (a1 : Int32) (σ : kw_M) {r : Int32} (h : fX7_isBeyond a1 σ = some r) : kw_Met E kwTX 48 d μX7_isBeyond [.ref 1, .int a1] σ (some (Value.int r)) σ := by
  refine kw_enter plRX7 (Nat.le_of_ble_eq_true rfl) ?_
  show kw_G E kwTX 48 d μX7_isBeyond 0 [(0, .ref 1), (1, .int a1)] [] σ (some (Value.int r)) σ
  unfold fX7_isBeyond at h
  refine kg_aload_n 0 dX7_isBeyond_0 rfl (pc2 := 1) rfl ?_
  refine kg_getr clX7 rfl 9 (Nat.le_of_ble_eq_true rfl) lfRX7_36 tX_1 eX_1 rfl dX7_isBeyond_1 (pc2 := 4) rfl ?_
  refine kg_iload_n 1 dX7_isBeyond_4 rfl (pc2 := 5) rfl ?_
  obtain ⟨q1, h⟩ := kw_chk_e h
  refine kg_lald tX_16 eX_16 q1 (j := a1.toNatClampNeg) rfl dX7_isBeyond_5 (pc2 := 6) rfl ?_
  refine kg_ldc2 rfl lcRX7_109 dX7_isBeyond_6 (pc2 := 9) rfl ?_
  refine kg_lcmp_eq 30 dX7_isBeyond_9 dX7_isBeyond_10 rfl (pc2 := 13) rfl (fun q2 => ?_) (fun q2 => ?_)
  · replace h := (if_pos q2).symm.trans h
    refine kg_iconst dX7_isBeyond_30 ki_1 (pc2 := 31) rfl ?_
    refine kg_goto 35 dX7_isBeyond_31 rfl ?_
    cases h
    exact kg_iret (ty := .boolean) dX7_isBeyond_35 rfl rfl
  · replace h := (if_neg q2).symm.trans h
    refine kg_aload_n 0 dX7_isBeyond_13 rfl (pc2 := 14) rfl ?_
    refine kg_getr clX7 rfl 9 (Nat.le_of_ble_eq_true rfl) lfRX7_36 tX_1 eX_1 rfl dX7_isBeyond_14 (pc2 := 17) rfl ?_
    refine kg_iload_n 1 dX7_isBeyond_17 rfl (pc2 := 18) rfl ?_
    refine kg_lald tX_16 eX_16 q1 (j := a1.toNatClampNeg) rfl dX7_isBeyond_18 (pc2 := 19) rfl ?_
    refine kg_aload_n 0 dX7_isBeyond_19 rfl (pc2 := 20) rfl ?_
    refine kg_getr clX7 rfl 6 (Nat.le_of_ble_eq_true rfl) lfRX7_29 tX_1 eX_1 rfl dX7_isBeyond_20 (pc2 := 23) rfl ?_
    refine kg_iload_n 1 dX7_isBeyond_23 rfl (pc2 := 24) rfl ?_
    refine kg_iald tX_14 eX_14 q1 (j := a1.toNatClampNeg) rfl dX7_isBeyond_24 (pc2 := 25) rfl ?_
    refine kg_i2l dX7_isBeyond_25 (pc2 := 26) rfl ?_
    refine kg_lcmp_le 34 dX7_isBeyond_26 dX7_isBeyond_27 rfl (pc2 := 30) rfl (fun q3 => ?_) (fun q3 => ?_)
    · replace h := (if_pos q3).symm.trans h
      refine kg_iconst dX7_isBeyond_34 ki_0 (pc2 := 35) rfl ?_
      cases h
      exact kg_iret (ty := .boolean) dX7_isBeyond_35 rfl rfl
    · replace h := (if_neg q3).symm.trans h
      refine kg_iconst dX7_isBeyond_30 ki_1 (pc2 := 31) rfl ?_
      refine kg_goto 35 dX7_isBeyond_31 rfl ?_
      cases h
      exact kg_iret (ty := .boolean) dX7_isBeyond_35 rfl rfl
set_option maxHeartbeats 4000000 in
set_option maxRecDepth 100000 in
theorem lX7_beyondBits_4 {E : kw_E} {d : Nat} (σ : kw_M) (v1 : Int32) (v2 : Int32) {v : Option Value} {σ2 : kw_M} {o : (Int32 × Int32) ⊕ (Int32)} (h : bX7_beyondBits_4 σ v1 v2 = some o) (hk : Sum.elim (fun s => kw_G E kwTX 48 (d + 1) μX7_beyondBits 4 [(0, .ref 1), (1, .int s.1), (2, .int s.2)] [] σ v σ2) (fun y => kw_G E kwTX 48 (d + 1) μX7_beyondBits 43 [(1, .int y)] [] σ v σ2) o) : kw_G E kwTX 48 (d + 1) μX7_beyondBits 4 [(0, .ref 1), (1, .int v1), (2, .int v2)] [] σ v σ2 := by
  unfold bX7_beyondBits_4 at h
  refine kg_iload_n 2 dX7_beyondBits_4 rfl (pc2 := 5) rfl ?_
  refine kg_aload_n 0 dX7_beyondBits_5 rfl (pc2 := 6) rfl ?_
  refine kg_getr clX7 rfl 0 (Nat.le_of_ble_eq_true rfl) lfRX7_12 tX_1 eX_1 rfl dX7_beyondBits_6 (pc2 := 9) rfl ?_
  refine kg_geti clX4 rfl 0 (Nat.le_of_ble_eq_true rfl) lfRX7_90 tX_12 eX_12 rfl dX7_beyondBits_9 (pc2 := 12) rfl ?_
  refine kg_icmp_ge 43 dX7_beyondBits_12 rfl (pc2 := 15) rfl (fun q1 => ?_) (fun q1 => ?_)
  · replace h := (if_pos q1).symm.trans h
    refine kg_sub [1] (lv2 := [(1, .int v1)]) rfl ?_
    cases h
    exact hk
  · replace h := (if_neg q1).symm.trans h
    refine kg_aload_n 0 dX7_beyondBits_15 rfl (pc2 := 16) rfl ?_
    refine kg_iload_n 2 dX7_beyondBits_16 rfl (pc2 := 17) rfl ?_
    obtain ⟨r2, r2h, h⟩ := kw_bind_e h
    refine kg_callV (μ := μX7_beyondBits) (d := d) rfl mVX7_isWatched [.int v2] [] (gX7_isWatched (E := E) (d := d) v2 σ r2h) rfl lmRX7_111 (ci := 7) rfl tX_1 eX_1 rfl (Nat.le_of_ble_eq_true rfl) dX7_beyondBits_17 rfl (st2 := [.int r2]) rfl (pc2 := 20) rfl ?_
    refine kg_if_eq 37 dX7_beyondBits_20 rfl (pc2 := 23) rfl (fun q3 => ?_) (fun q3 => ?_)
    · replace h := (if_pos q3).symm.trans h
      obtain ⟨x4, x4e, h⟩ := kw_let_e h
      refine kg_iinc 2 dX7_beyondBits_37 rfl (Nat.le_of_ble_eq_true rfl) x4e (lv2 := [(2, .int x4), (0, .ref 1), (1, .int v1)]) rfl (pc2 := 40) rfl ?_
      refine kg_goto 4 dX7_beyondBits_40 rfl ?_
      refine kg_sub [1, 2, 0] (lv2 := [(0, .ref 1), (1, .int v1), (2, .int x4)]) rfl ?_
      cases h
      exact hk
    · replace h := (if_neg q3).symm.trans h
      refine kg_aload_n 0 dX7_beyondBits_23 rfl (pc2 := 24) rfl ?_
      refine kg_iload_n 2 dX7_beyondBits_24 rfl (pc2 := 25) rfl ?_
      obtain ⟨r5, r5h, h⟩ := kw_bind_e h
      refine kg_callV (μ := μX7_beyondBits) (d := d) rfl mVX7_isBeyond [.int v2] [] (gX7_isBeyond (E := E) (d := d) v2 σ r5h) rfl lmRX7_101 (ci := 7) rfl tX_1 eX_1 rfl (Nat.le_of_ble_eq_true rfl) dX7_beyondBits_25 rfl (st2 := [.int r5]) rfl (pc2 := 28) rfl ?_
      refine kg_if_eq 37 dX7_beyondBits_28 rfl (pc2 := 31) rfl (fun q6 => ?_) (fun q6 => ?_)
      · replace h := (if_pos q6).symm.trans h
        obtain ⟨x7, x7e, h⟩ := kw_let_e h
        refine kg_iinc 2 dX7_beyondBits_37 rfl (Nat.le_of_ble_eq_true rfl) x7e (lv2 := [(2, .int x7), (0, .ref 1), (1, .int v1)]) rfl (pc2 := 40) rfl ?_
        refine kg_goto 4 dX7_beyondBits_40 rfl ?_
        refine kg_sub [1, 2, 0] (lv2 := [(0, .ref 1), (1, .int v1), (2, .int x7)]) rfl ?_
        cases h
        exact hk
      · replace h := (if_neg q6).symm.trans h
        refine kg_iload_n 1 dX7_beyondBits_31 rfl (pc2 := 32) rfl ?_
        refine kg_iconst dX7_beyondBits_32 ki_1 (pc2 := 33) rfl ?_
        refine kg_iload_n 2 dX7_beyondBits_33 rfl (pc2 := 34) rfl ?_
        refine kg_ishl dX7_beyondBits_34 (pc2 := 35) rfl ?_
        refine kg_ior dX7_beyondBits_35 (pc2 := 36) rfl ?_
        obtain ⟨x8, x8e, h⟩ := kw_let_e h
        refine kg_istore_n dX7_beyondBits_36 rfl (Nat.le_of_ble_eq_true rfl) x8e (lv2 := [(1, .int x8), (0, .ref 1), (2, .int v2)]) rfl (pc2 := 37) rfl ?_
        obtain ⟨x9, x9e, h⟩ := kw_let_e h
        refine kg_iinc 2 dX7_beyondBits_37 rfl (Nat.le_of_ble_eq_true rfl) x9e (lv2 := [(2, .int x9), (1, .int x8), (0, .ref 1)]) rfl (pc2 := 40) rfl ?_
        refine kg_goto 4 dX7_beyondBits_40 rfl ?_
        refine kg_sub [2, 1, 0] (lv2 := [(0, .ref 1), (1, .int x8), (2, .int x9)]) rfl ?_
        cases h
        exact hk
