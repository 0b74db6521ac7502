/-! The reference, method by method: the machine does what f says (g). -/
set_option maxHeartbeats 4000000 in
set_option maxRecDepth 100000 in
theorem gX10_in {E : kw_E} {d : Nat} (a0 : Int64) (a1 : Int64) (a2 : Int64) (σ : kw_M) {r : Int32} (h : fX10_in a0 a1 a2 σ = some r) : kw_Met E kwTM 21 d μX10_in [.long a0, .long a1, .long a2] σ (some (Value.int r)) σ := by
  refine kw_enter plRX10 (Nat.le_of_ble_eq_true rfl) ?_
  show kw_G E kwTM 21 d μX10_in 0 [(0, .long a0), (2, .long a1), (4, .long a2)] [] σ (some (Value.int r)) σ
  unfold fX10_in at h
  refine kg_lload_n 0 dX10_in_0 rfl (pc2 := 1) rfl ?_
  refine kg_lload_n 1 dX10_in_1 rfl (pc2 := 2) rfl ?_
  refine kg_lcmp_lt 17 dX10_in_2 dX10_in_3 rfl (pc2 := 6) rfl (fun q1 => ?_) (fun q1 => ?_)
  · replace h := (if_pos q1).symm.trans h
    refine kg_iconst dX10_in_17 ki_0 (pc2 := 18) rfl ?_
    cases h
    exact kg_iret (ty := .boolean) dX10_in_18 rfl rfl
  · replace h := (if_neg q1).symm.trans h
    refine kg_lload_n 0 dX10_in_6 rfl (pc2 := 7) rfl ?_
    refine kg_lload 2 dX10_in_7 rfl (pc2 := 9) rfl ?_
    refine kg_lcmp_gt 17 dX10_in_9 dX10_in_10 rfl (pc2 := 13) rfl (fun q2 => ?_) (fun q2 => ?_)
    · replace h := (if_pos q2).symm.trans h
      refine kg_iconst dX10_in_17 ki_0 (pc2 := 18) rfl ?_
      cases h
      exact kg_iret (ty := .boolean) dX10_in_18 rfl rfl
    · replace h := (if_neg q2).symm.trans h
      refine kg_iconst dX10_in_13 ki_1 (pc2 := 14) rfl ?_
      refine kg_goto 18 dX10_in_14 rfl ?_
      cases h
      exact kg_iret (ty := .boolean) dX10_in_18 rfl rfl
set_option maxHeartbeats 4000000 in
set_option maxRecDepth 100000 in
theorem gX10_min {E : kw_E} {d : Nat} (a0 : Int32) (a1 : Int32) (σ : kw_M) {r : Int32} (h : fX10_min a0 a1 σ = some r) : kw_Met E kwTM 21 d μX10_min [.int a0, .int a1] σ (some (Value.int r)) σ := by
  refine kw_enter plRX10 (Nat.le_of_ble_eq_true rfl) ?_
  show kw_G E kwTM 21 d μX10_min 0 [(0, .int a0), (1, .int a1)] [] σ (some (Value.int r)) σ
  unfold fX10_min at h
  refine kg_iload_n 0 dX10_min_0 rfl (pc2 := 1) rfl ?_
  refine kg_iload_n 1 dX10_min_1 rfl (pc2 := 2) rfl ?_
  refine kg_icmp_ge 9 dX10_min_2 rfl (pc2 := 5) rfl (fun q1 => ?_) (fun q1 => ?_)
  · replace h := (if_pos q1).symm.trans h
    refine kg_iload_n 1 dX10_min_9 rfl (pc2 := 10) rfl ?_
    cases h
    exact kg_iret (ty := .int) dX10_min_10 rfl rfl
  · replace h := (if_neg q1).symm.trans h
    refine kg_iload_n 0 dX10_min_5 rfl (pc2 := 6) rfl ?_
    refine kg_goto 10 dX10_min_6 rfl ?_
    cases h
    exact kg_iret (ty := .int) dX10_min_10 rfl rfl
set_option maxHeartbeats 4000000 in
set_option maxRecDepth 100000 in
theorem gX10_max {E : kw_E} {d : Nat} (a0 : Int32) (a1 : Int32) (σ : kw_M) {r : Int32} (h : fX10_max a0 a1 σ = some r) : kw_Met E kwTM 21 d μX10_max [.int a0, .int a1] σ (some (Value.int r)) σ := by
  refine kw_enter plRX10 (Nat.le_of_ble_eq_true rfl) ?_
  show kw_G E kwTM 21 d μX10_max 0 [(0, .int a0), (1, .int a1)] [] σ (some (Value.int r)) σ
  unfold fX10_max at h
  refine kg_iload_n 0 dX10_max_0 rfl (pc2 := 1) rfl ?_
  refine kg_iload_n 1 dX10_max_1 rfl (pc2 := 2) rfl ?_
  refine kg_icmp_le 9 dX10_max_2 rfl (pc2 := 5) rfl (fun q1 => ?_) (fun q1 => ?_)
  · replace h := (if_pos q1).symm.trans h
    refine kg_iload_n 1 dX10_max_9 rfl (pc2 := 10) rfl ?_
    cases h
    exact kg_iret (ty := .int) dX10_max_10 rfl rfl
  · replace h := (if_neg q1).symm.trans h
    refine kg_iload_n 0 dX10_max_5 rfl (pc2 := 6) rfl ?_
    refine kg_goto 10 dX10_max_6 rfl ?_
    cases h
    exact kg_iret (ty := .int) dX10_max_10 rfl rfl
set_option maxHeartbeats 4000000 in
set_option maxRecDepth 100000 in
theorem gX10_has {E : kw_E} {d : Nat} (a0 : Int32) (a1 : Int32) (σ : kw_M) {r : Int32} (h : fX10_has a0 a1 σ = some r) : kw_Met E kwTM 21 d μX10_has [.int a0, .int a1] σ (some (Value.int r)) σ := by
  refine kw_enter plRX10 (Nat.le_of_ble_eq_true rfl) ?_
  show kw_G E kwTM 21 d μX10_has 0 [(0, .int a0), (1, .int a1)] [] σ (some (Value.int r)) σ
  unfold fX10_has at h
  refine kg_iload_n 0 dX10_has_0 rfl (pc2 := 1) rfl ?_
  refine kg_iload_n 1 dX10_has_1 rfl (pc2 := 2) rfl ?_
  refine kg_ishr dX10_has_2 (pc2 := 3) rfl ?_
  refine kg_iconst dX10_has_3 ki_1 (pc2 := 4) rfl ?_
  refine kg_iand dX10_has_4 (pc2 := 5) rfl ?_
  refine kg_iconst dX10_has_5 ki_1 (pc2 := 6) rfl ?_
  refine kg_icmp_ne 13 dX10_has_6 rfl (pc2 := 9) rfl (fun q1 => ?_) (fun q1 => ?_)
  · replace h := (if_neg q1).symm.trans h
    refine kg_iconst dX10_has_13 ki_0 (pc2 := 14) rfl ?_
    cases h
    exact kg_iret (ty := .boolean) dX10_has_14 rfl rfl
  · replace h := (if_pos q1).symm.trans h
    refine kg_iconst dX10_has_9 ki_1 (pc2 := 10) rfl ?_
    refine kg_goto 14 dX10_has_10 rfl ?_
    cases h
    exact kg_iret (ty := .boolean) dX10_has_14 rfl rfl
set_option maxHeartbeats 4000000 in
set_option maxRecDepth 100000 in
theorem lX10_copies_2 {E : kw_E} {d : Nat} (v1 : Int32) (v2 : Int32) (v3 : Int32) (σ : kw_M) {v : Option Value} {σ2 : kw_M} {o : (Int32 × kw_M) ⊕ (kw_M)} (h : bX10_copies_2 v1 v2 v3 σ = some o) (hk : Sum.elim (fun s => kw_G E kwTM 21 d μX10_copies 2 [(0, .ref 0), (1, .int v1), (2, .int v2), (3, .int s.1)] [] s.2 v σ2) (fun y => kw_G E kwTM 21 d μX10_copies 39 [] [] y v σ2) o) : kw_G E kwTM 21 d μX10_copies 2 [(0, .ref 0), (1, .int v1), (2, .int v2), (3, .int v3)] [] σ v σ2 := by
  unfold bX10_copies_2 at h
  refine kg_iload_n 3 dX10_copies_2 rfl (pc2 := 3) rfl ?_
  refine kg_sipush dX10_copies_3 ks_708 (pc2 := 6) rfl ?_
  refine kg_icmp_ge 39 dX10_copies_6 rfl (pc2 := 9) rfl (fun q1 => ?_) (fun q1 => ?_)
  · replace h := (if_pos q1).symm.trans h
    refine kg_sub [] (lv2 := []) rfl ?_
    cases h
    exact hk
  · replace h := (if_neg q1).symm.trans h
    refine kg_aload_n 0 dX10_copies_9 rfl (pc2 := 10) rfl ?_
    refine kg_getr clX10 rfl 0 (Nat.le_of_ble_eq_true rfl) lfRX10_7 tM_0 eM_0 rfl dX10_copies_10 (pc2 := 13) rfl ?_
    refine kg_sipush dX10_copies_13 ks_708 (pc2 := 16) rfl ?_
    refine kg_iload_n 2 dX10_copies_16 rfl (pc2 := 17) rfl ?_
    refine kg_imul dX10_copies_17 (pc2 := 18) rfl ?_
    refine kg_iload_n 3 dX10_copies_18 rfl (pc2 := 19) rfl ?_
    refine kg_iadd dX10_copies_19 (pc2 := 20) rfl ?_
    refine kg_aload_n 0 dX10_copies_20 rfl (pc2 := 21) rfl ?_
    refine kg_getr clX10 rfl 0 (Nat.le_of_ble_eq_true rfl) lfRX10_7 tM_0 eM_0 rfl dX10_copies_21 (pc2 := 24) rfl ?_
    refine kg_sipush dX10_copies_24 ks_708 (pc2 := 27) rfl ?_
    refine kg_iload_n 1 dX10_copies_27 rfl (pc2 := 28) rfl ?_
    refine kg_imul dX10_copies_28 (pc2 := 29) rfl ?_
    refine kg_iload_n 3 dX10_copies_29 rfl (pc2 := 30) rfl ?_
    refine kg_iadd dX10_copies_30 (pc2 := 31) rfl ?_
    obtain ⟨q2, h⟩ := kw_chk_e h
    refine kg_iald tM_1 eM_1 q2 (j := (((708 : Int32) * v1) + v3).toNatClampNeg) rfl dX10_copies_31 (pc2 := 32) rfl ?_
    obtain ⟨q3, h⟩ := kw_chk_e h
    obtain ⟨s4, s4e, h⟩ := kw_let_e h
    refine kg_iast tM_1 eM_1 q3 (j := (((708 : Int32) * v2) + v3).toNatClampNeg) rfl s4e dX10_copies_32 (pc2 := 33) rfl ?_
    obtain ⟨x5, x5e, h⟩ := kw_let_e h
    refine kg_iinc 3 dX10_copies_33 rfl (Nat.le_of_ble_eq_true rfl) x5e (lv2 := [(3, .int x5), (0, .ref 0), (1, .int v1), (2, .int v2)]) rfl (pc2 := 36) rfl ?_
    refine kg_goto 2 dX10_copies_36 rfl ?_
    refine kg_sub [1, 2, 3, 0] (lv2 := [(0, .ref 0), (1, .int v1), (2, .int v2), (3, .int x5)]) rfl ?_
    cases h
    exact hk
set_option maxHeartbeats 4000000 in
set_option maxRecDepth 100000 in
theorem gX10_copies {E : kw_E} {d : Nat} (a1 : Int32) (a2 : Int32) (σ : kw_M) {r : kw_M} (h : fX10_copies a1 a2 σ = some r) : kw_Met E kwTM 21 d μX10_copies [.ref 0, .int a1, .int a2] σ none r := by
  refine kw_enter plRX10 (Nat.le_of_ble_eq_true rfl) ?_
  show kw_G E kwTM 21 d μX10_copies 0 [(0, .ref 0), (1, .int a1), (2, .int a2)] [] σ none r
  unfold fX10_copies at h
  refine kg_iconst dX10_copies_0 ki_0 (pc2 := 1) rfl ?_
  refine kg_istore_n dX10_copies_1 rfl (Nat.le_of_ble_eq_true rfl) rfl (lv2 := [(3, .int (0 : Int32)), (0, .ref 0), (1, .int a1), (2, .int a2)]) rfl (pc2 := 2) rfl ?_
  refine kg_sub [1, 2, 3, 0] (lv2 := [(0, .ref 0), (1, .int a1), (2, .int a2), (3, .int (0 : Int32))]) rfl ?_
  obtain ⟨x6, x6h, h⟩ := kw_bind_e h
  refine kw_loop_e (P := fun s => kw_G E kwTM 21 d μX10_copies 2 [(0, .ref 0), (1, .int a1), (2, .int a2), (3, .int s.1)] [] s.2 none r) (K := fun y => kw_G E kwTM 21 d μX10_copies 39 [] [] y none r) (fun s o h0 hk => lX10_copies_2 a1 a2 s.1 s.2 h0 hk) kw_F _ _ x6h ?_
  show kw_G E kwTM 21 d μX10_copies 39 [] [] x6 none r
  cases h
  exact kg_vret dX10_copies_39 rfl
set_option maxHeartbeats 4000000 in
set_option maxRecDepth 100000 in
theorem gX10_towns {E : kw_E} {d : Nat} (σ : kw_M) {r : Int32} (h : fX10_towns σ = some r) : kw_Met E kwTM 21 d μX10_towns [.ref 0] σ (some (Value.int r)) σ := by
  refine kw_enter plRX10 (Nat.le_of_ble_eq_true rfl) ?_
  show kw_G E kwTM 21 d μX10_towns 0 [(0, .ref 0)] [] σ (some (Value.int r)) σ
  unfold fX10_towns at h
  refine kg_aload_n 0 dX10_towns_0 rfl (pc2 := 1) rfl ?_
  refine kg_getr clX10 rfl 0 (Nat.le_of_ble_eq_true rfl) lfRX10_7 tM_0 eM_0 rfl dX10_towns_1 (pc2 := 4) rfl ?_
  refine kg_iconst dX10_towns_4 ki_0 (pc2 := 5) rfl ?_
  refine kg_iald tM_1 eM_1 (show kw_in (0 : Int32) 2832 by decide) (j := 0) (by decide) dX10_towns_5 (pc2 := 6) rfl ?_
  cases h
  exact kg_iret (ty := .int) dX10_towns_6 rfl rfl
set_option maxHeartbeats 4000000 in
set_option maxRecDepth 100000 in
theorem gX10_of {E : kw_E} {d : Nat} (a1 : Int32) (a2 : Int32) (σ : kw_M) {r : Int32} (h : fX10_of a1 a2 σ = some r) : kw_Met E kwTM 21 d μX10_of [.ref 0, .int a1, .int a2] σ (some (Value.int r)) σ := by
  refine kw_enter plRX10 (Nat.le_of_ble_eq_true rfl) ?_
  show kw_G E kwTM 21 d μX10_of 0 [(0, .ref 0), (1, .int a1), (2, .int a2)] [] σ (some (Value.int r)) σ
  unfold fX10_of at h
  refine kg_aload_n 0 dX10_of_0 rfl (pc2 := 1) rfl ?_
  refine kg_getr clX10 rfl 0 (Nat.le_of_ble_eq_true rfl) lfRX10_7 tM_0 eM_0 rfl dX10_of_1 (pc2 := 4) rfl ?_
  refine kg_bipush dX10_of_4 kb_28 (pc2 := 6) rfl ?_
  refine kg_iconst dX10_of_6 ki_4 (pc2 := 7) rfl ?_
  refine kg_iload_n 1 dX10_of_7 rfl (pc2 := 8) rfl ?_
  refine kg_imul dX10_of_8 (pc2 := 9) rfl ?_
  refine kg_iadd dX10_of_9 (pc2 := 10) rfl ?_
  refine kg_iload_n 2 dX10_of_10 rfl (pc2 := 11) rfl ?_
  refine kg_iadd dX10_of_11 (pc2 := 12) rfl ?_
  obtain ⟨q1, h⟩ := kw_chk_e h
  refine kg_iald tM_1 eM_1 q1 (j := (((28 : Int32) + ((4 : Int32) * a1)) + a2).toNatClampNeg) rfl dX10_of_12 (pc2 := 13) rfl ?_
  cases h
  exact kg_iret (ty := .int) dX10_of_13 rfl rfl
set_option maxHeartbeats 4000000 in
set_option maxRecDepth 100000 in
theorem gX10_sets {E : kw_E} {d : Nat} (a1 : Int32) (a2 : Int32) (a3 : Int32) (σ : kw_M) {r : kw_M} (h : fX10_sets a1 a2 a3 σ = some r) : kw_Met E kwTM 21 d μX10_sets [.ref 0, .int a1, .int a2, .int a3] σ none r := by
  refine kw_enter plRX10 (Nat.le_of_ble_eq_true rfl) ?_
  show kw_G E kwTM 21 d μX10_sets 0 [(0, .ref 0), (1, .int a1), (2, .int a2), (3, .int a3)] [] σ none r
  unfold fX10_sets at h
  refine kg_aload_n 0 dX10_sets_0 rfl (pc2 := 1) rfl ?_
  refine kg_getr clX10 rfl 0 (Nat.le_of_ble_eq_true rfl) lfRX10_7 tM_0 eM_0 rfl dX10_sets_1 (pc2 := 4) rfl ?_
  refine kg_bipush dX10_sets_4 kb_28 (pc2 := 6) rfl ?_
  refine kg_iconst dX10_sets_6 ki_4 (pc2 := 7) rfl ?_
  refine kg_iload_n 1 dX10_sets_7 rfl (pc2 := 8) rfl ?_
  refine kg_imul dX10_sets_8 (pc2 := 9) rfl ?_
  refine kg_iadd dX10_sets_9 (pc2 := 10) rfl ?_
  refine kg_iload_n 2 dX10_sets_10 rfl (pc2 := 11) rfl ?_
  refine kg_iadd dX10_sets_11 (pc2 := 12) rfl ?_
  refine kg_iload_n 3 dX10_sets_12 rfl (pc2 := 13) rfl ?_
  obtain ⟨q1, h⟩ := kw_chk_e h
  obtain ⟨s2, s2e, h⟩ := kw_let_e h
  refine kg_iast tM_1 eM_1 q1 (j := (((28 : Int32) + ((4 : Int32) * a1)) + a2).toNatClampNeg) rfl s2e dX10_sets_13 (pc2 := 14) rfl ?_
  cases h
  exact kg_vret dX10_sets_14 rfl
set_option maxHeartbeats 4000000 in
set_option maxRecDepth 100000 in
theorem gX10_isOpen {E : kw_E} {d : Nat} (a1 : Int32) (σ : kw_M) {r : Int32} (h : fX10_isOpen a1 σ = some r) : kw_Met E kwTM 21 (d + 1) μX10_isOpen [.ref 0, .int a1] σ (some (Value.int r)) σ := by
  refine kw_enter plRX10 (Nat.le_of_ble_eq_true rfl) ?_
  show kw_G E kwTM 21 (d + 1) μX10_isOpen 0 [(0, .ref 0), (1, .int a1)] [] σ (some (Value.int r)) σ
  unfold fX10_isOpen at h
  refine kg_aload_n 0 dX10_isOpen_0 rfl (pc2 := 1) rfl ?_
  refine kg_iload_n 1 dX10_isOpen_1 rfl (pc2 := 2) rfl ?_
  refine kg_iconst dX10_isOpen_2 ki_3 (pc2 := 3) rfl ?_
  obtain ⟨r1, r1h, h⟩ := kw_bind_e h
  refine kg_callV (μ := μX10_isOpen) (d := d) rfl mVX10_of [.int a1, .int (3 : Int32)] [] (gX10_of (E := E) (d := d) a1 (3 : Int32) σ r1h) rfl lmRX10_73 (ci := 10) rfl tM_0 eM_0 rfl (Nat.le_of_ble_eq_true rfl) dX10_isOpen_3 rfl (st2 := [.int r1]) rfl (pc2 := 6) rfl ?_
  refine kg_iconst dX10_isOpen_6 ki_1 (pc2 := 7) rfl ?_
  refine kg_icmp_ne 14 dX10_isOpen_7 rfl (pc2 := 10) rfl (fun q2 => ?_) (fun q2 => ?_)
  · replace h := (if_neg q2).symm.trans h
    refine kg_iconst dX10_isOpen_14 ki_0 (pc2 := 15) rfl ?_
    cases h
    exact kg_iret (ty := .boolean) dX10_isOpen_15 rfl rfl
  · replace h := (if_pos q2).symm.trans h
    refine kg_iconst dX10_isOpen_10 ki_1 (pc2 := 11) rfl ?_
    refine kg_goto 15 dX10_isOpen_11 rfl ?_
    cases h
    exact kg_iret (ty := .boolean) dX10_isOpen_15 rfl rfl
set_option maxHeartbeats 4000000 in
set_option maxRecDepth 100000 in
theorem gX10_isTown {E : kw_E} {d : Nat} (a1 : Int32) (σ : kw_M) {r : Int32} (h : fX10_isTown a1 σ = some r) : kw_Met E kwTM 21 (d + 1) μX10_isTown [.ref 0, .int a1] σ (some (Value.int r)) σ := by
  refine kw_enter plRX10 (Nat.le_of_ble_eq_true rfl) ?_
  show kw_G E kwTM 21 (d + 1) μX10_isTown 0 [(0, .ref 0), (1, .int a1)] [] σ (some (Value.int r)) σ
  unfold fX10_isTown at h
  refine kg_iload_n 1 dX10_isTown_0 rfl (pc2 := 1) rfl ?_
  refine kg_i2l dX10_isTown_1 (pc2 := 2) rfl ?_
  refine kg_lconst dX10_isTown_2 kl_0 (pc2 := 3) rfl ?_
  refine kg_aload_n 0 dX10_isTown_3 rfl (pc2 := 4) rfl ?_
  obtain ⟨r1, r1h, h⟩ := kw_bind_e h
  refine kg_callV (μ := μX10_isTown) (d := d) rfl mVX10_towns [] [.long (0 : Int64), .long a1.toInt64] (gX10_towns (E := E) (d := d) σ r1h) rfl lmRX10_77 (ci := 10) rfl tM_0 eM_0 rfl (Nat.le_of_ble_eq_true rfl) dX10_isTown_4 rfl (st2 := [.int r1, .long (0 : Int64), .long a1.toInt64]) rfl (pc2 := 7) rfl ?_
  refine kg_iconst dX10_isTown_7 ki_1 (pc2 := 8) rfl ?_
  refine kg_isub dX10_isTown_8 (pc2 := 9) rfl ?_
  refine kg_i2l dX10_isTown_9 (pc2 := 10) rfl ?_
  obtain ⟨r2, r2h, h⟩ := kw_bind_e h
  refine kg_callS (μ := μX10_isTown) (d := d) rfl mSX10_in [.long a1.toInt64, .long (0 : Int64), .long ((r1 - (1 : Int32)).toInt64)] [] (gX10_in (E := E) (d := d) a1.toInt64 (0 : Int64) ((r1 - (1 : Int32)).toInt64) σ r2h) rfl lmRX10_81 rfl (Nat.le_of_ble_eq_true rfl) dX10_isTown_10 rfl (st2 := [.int r2]) rfl (pc2 := 13) rfl ?_
  obtain ⟨q3, h⟩ := kw_chk_e h
  cases h
  exact kg_iret (ty := .boolean) dX10_isTown_13 rfl (kw_isB_n q3)
set_option maxHeartbeats 4000000 in
set_option maxRecDepth 100000 in
theorem gX10_isRoad {E : kw_E} {d : Nat} (a1 : Int32) (σ : kw_M) {r : Int32} (h : fX10_isRoad a1 σ = some r) : kw_Met E kwTM 21 (d + 1) μX10_isRoad [.ref 0, .int a1] σ (some (Value.int r)) σ := by
  refine kw_enter plRX10 (Nat.le_of_ble_eq_true rfl) ?_
  show kw_G E kwTM 21 (d + 1) μX10_isRoad 0 [(0, .ref 0), (1, .int a1)] [] σ (some (Value.int r)) σ
  unfold fX10_isRoad at h
  refine kg_iload_n 1 dX10_isRoad_0 rfl (pc2 := 1) rfl ?_
  refine kg_i2l dX10_isRoad_1 (pc2 := 2) rfl ?_
  refine kg_lconst dX10_isRoad_2 kl_0 (pc2 := 3) rfl ?_
  refine kg_aload_n 0 dX10_isRoad_3 rfl (pc2 := 4) rfl ?_
  refine kg_getr clX10 rfl 0 (Nat.le_of_ble_eq_true rfl) lfRX10_7 tM_0 eM_0 rfl dX10_isRoad_4 (pc2 := 7) rfl ?_
  refine kg_iconst dX10_isRoad_7 ki_1 (pc2 := 8) rfl ?_
  refine kg_iald tM_1 eM_1 (show kw_in (1 : Int32) 2832 by decide) (j := 1) (by decide) dX10_isRoad_8 (pc2 := 9) rfl ?_
  refine kg_iconst dX10_isRoad_9 ki_1 (pc2 := 10) rfl ?_
  refine kg_isub dX10_isRoad_10 (pc2 := 11) rfl ?_
  refine kg_i2l dX10_isRoad_11 (pc2 := 12) rfl ?_
  obtain ⟨r1, r1h, h⟩ := kw_bind_e h
  refine kg_callS (μ := μX10_isRoad) (d := d) rfl mSX10_in [.long a1.toInt64, .long (0 : Int64), .long (((σ.1 1 1) - (1 : Int32)).toInt64)] [] (gX10_in (E := E) (d := d) a1.toInt64 (0 : Int64) (((σ.1 1 1) - (1 : Int32)).toInt64) σ r1h) rfl lmRX10_81 rfl (Nat.le_of_ble_eq_true rfl) dX10_isRoad_12 rfl (st2 := [.int r1]) rfl (pc2 := 15) rfl ?_
  obtain ⟨q2, h⟩ := kw_chk_e h
  cases h
  exact kg_iret (ty := .boolean) dX10_isRoad_15 rfl (kw_isB_n q2)
set_option maxHeartbeats 4000000 in
set_option maxRecDepth 100000 in
theorem gX10_isLength {E : kw_E} {d : Nat} (a0 : Int64) (σ : kw_M) {r : Int32} (h : fX10_isLength a0 σ = some r) : kw_Met E kwTM 21 (d + 1) μX10_isLength [.long a0] σ (some (Value.int r)) σ := by
  refine kw_enter plRX10 (Nat.le_of_ble_eq_true rfl) ?_
  show kw_G E kwTM 21 (d + 1) μX10_isLength 0 [(0, .long a0)] [] σ (some (Value.int r)) σ
  unfold fX10_isLength at h
  refine kg_lload_n 0 dX10_isLength_0 rfl (pc2 := 1) rfl ?_
  refine kg_ldc2 rfl lcRX10_85 dX10_isLength_1 (pc2 := 4) rfl ?_
  refine kg_ldc2 rfl lcRX10_87 dX10_isLength_4 (pc2 := 7) rfl ?_
  obtain ⟨r1, r1h, h⟩ := kw_bind_e h
  refine kg_callS (μ := μX10_isLength) (d := d) rfl mSX10_in [.long a0, .long (-1000000000 : Int64), .long (1000000000 : Int64)] [] (gX10_in (E := E) (d := d) a0 (-1000000000 : Int64) (1000000000 : Int64) σ r1h) rfl lmRX10_81 rfl (Nat.le_of_ble_eq_true rfl) dX10_isLength_7 rfl (st2 := [.int r1]) rfl (pc2 := 10) rfl ?_
  obtain ⟨q2, h⟩ := kw_chk_e h
  cases h
  exact kg_iret (ty := .boolean) dX10_isLength_10 rfl (kw_isB_n q2)
set_option maxHeartbeats 4000000 in
set_option maxRecDepth 100000 in
theorem lX10_finds_2 {E : kw_E} {d : Nat} (v1 : Int32) (v2 : Int32) (v3 : Int32) (σ : kw_M) {v : Option Value} {σ2 : kw_M} {o : (Int32 × kw_M) ⊕ (kw_M)} (h : bX10_finds_2 v1 v2 v3 σ = some o) (hk : Sum.elim (fun s => kw_G E kwTM 21 (d + 2) μX10_finds 2 [(0, .ref 0), (1, .int v1), (2, .int v2), (3, .int s.1)] [] s.2 v σ2) (fun y => kw_G E kwTM 21 (d + 2) μX10_finds 32 [(0, .ref 0), (2, .int v2)] [] y v σ2) o) : kw_G E kwTM 21 (d + 2) μX10_finds 2 [(0, .ref 0), (1, .int v1), (2, .int v2), (3, .int v3)] [] σ v σ2 := by
  unfold bX10_finds_2 at h
  refine kg_iload_n 3 dX10_finds_2 rfl (pc2 := 3) rfl ?_
  refine kg_bipush dX10_finds_3 kb_12 (pc2 := 5) rfl ?_
  refine kg_icmp_ge 32 dX10_finds_5 rfl (pc2 := 8) rfl (fun q1 => ?_) (fun q1 => ?_)
  · replace h := (if_pos q1).symm.trans h
    refine kg_sub [0, 2] (lv2 := [(0, .ref 0), (2, .int v2)]) rfl ?_
    cases h
    exact hk
  · replace h := (if_neg q1).symm.trans h
    refine kg_aload_n 0 dX10_finds_8 rfl (pc2 := 9) rfl ?_
    refine kg_getr clX10 rfl 2 (Nat.le_of_ble_eq_true rfl) lfRX10_13 tM_0 eM_0 rfl dX10_finds_9 (pc2 := 12) rfl ?_
    refine kg_iload_n 3 dX10_finds_12 rfl (pc2 := 13) rfl ?_
    refine kg_iload_n 3 dX10_finds_13 rfl (pc2 := 14) rfl ?_
    refine kg_iload_n 1 dX10_finds_14 rfl (pc2 := 15) rfl ?_
    refine kg_icmp_ne 22 dX10_finds_15 rfl (pc2 := 18) rfl (fun q2 => ?_) (fun q2 => ?_)
    · replace h := (if_neg q2).symm.trans h
      refine kg_ldc2 rfl lcRX10_89 dX10_finds_22 (pc2 := 25) rfl ?_
      obtain ⟨q3, h⟩ := kw_chk_e h
      obtain ⟨s4, s4e, h⟩ := kw_let_e h
      refine kg_last tM_2 eM_2 q3 (j := v3.toNatClampNeg) rfl s4e dX10_finds_25 (pc2 := 26) rfl ?_
      obtain ⟨x5, x5e, h⟩ := kw_let_e h
      refine kg_iinc 3 dX10_finds_26 rfl (Nat.le_of_ble_eq_true rfl) x5e (lv2 := [(3, .int x5), (0, .ref 0), (1, .int v1), (2, .int v2)]) rfl (pc2 := 29) rfl ?_
      refine kg_goto 2 dX10_finds_29 rfl ?_
      refine kg_sub [1, 2, 3, 0] (lv2 := [(0, .ref 0), (1, .int v1), (2, .int v2), (3, .int x5)]) rfl ?_
      cases h
      exact hk
    · replace h := (if_pos q2).symm.trans h
      refine kg_lconst dX10_finds_18 kl_0 (pc2 := 19) rfl ?_
      refine kg_goto 25 dX10_finds_19 rfl ?_
      obtain ⟨q6, h⟩ := kw_chk_e h
      obtain ⟨s7, s7e, h⟩ := kw_let_e h
      refine kg_last tM_2 eM_2 q6 (j := v3.toNatClampNeg) rfl s7e dX10_finds_25 (pc2 := 26) rfl ?_
      obtain ⟨x8, x8e, h⟩ := kw_let_e h
      refine kg_iinc 3 dX10_finds_26 rfl (Nat.le_of_ble_eq_true rfl) x8e (lv2 := [(3, .int x8), (0, .ref 0), (1, .int v1), (2, .int v2)]) rfl (pc2 := 29) rfl ?_
      refine kg_goto 2 dX10_finds_29 rfl ?_
      refine kg_sub [1, 2, 3, 0] (lv2 := [(0, .ref 0), (1, .int v1), (2, .int v2), (3, .int x8)]) rfl ?_
      cases h
      exact hk
set_option maxHeartbeats 4000000 in
set_option maxRecDepth 100000 in
theorem lX10_finds_45 {E : kw_E} {d : Nat} (v2 : Int32) (v3 : Int32) (v4 : Int32) (σ : kw_M) {v : Option Value} {σ2 : kw_M} {o : (Int32 × kw_M) ⊕ (kw_M)} (h : bX10_finds_45 v2 v3 v4 σ = some o) (hk : Sum.elim (fun s => kw_G E kwTM 21 (d + 2) μX10_finds 45 [(0, .ref 0), (2, .int v2), (3, .int v3), (4, .int s.1)] [] s.2 v σ2) (fun y => kw_G E kwTM 21 (d + 2) μX10_finds 154 [(0, .ref 0), (2, .int v2), (3, .int v3)] [] y v σ2) o) : kw_G E kwTM 21 (d + 2) μX10_finds 45 [(0, .ref 0), (2, .int v2), (3, .int v3), (4, .int v4)] [] σ v σ2 := by
  unfold bX10_finds_45 at h
  refine kg_iload 3 dX10_finds_45 rfl (pc2 := 47) rfl ?_
  refine kg_aload_n 0 dX10_finds_47 rfl (pc2 := 48) rfl ?_
  refine kg_getr clX10 rfl 0 (Nat.le_of_ble_eq_true rfl) lfRX10_7 tM_0 eM_0 rfl dX10_finds_48 (pc2 := 51) rfl ?_
  refine kg_iconst dX10_finds_51 ki_1 (pc2 := 52) rfl ?_
  refine kg_iald tM_1 eM_1 (show kw_in (1 : Int32) 2832 by decide) (j := 1) (by decide) dX10_finds_52 (pc2 := 53) rfl ?_
  refine kg_icmp_ge 154 dX10_finds_53 rfl (pc2 := 56) rfl (fun q12 => ?_) (fun q12 => ?_)
  · replace h := (if_pos q12).symm.trans h
    refine kg_sub [0, 1, 2] (lv2 := [(0, .ref 0), (2, .int v2), (3, .int v3)]) rfl ?_
    cases h
    exact hk
  · replace h := (if_neg q12).symm.trans h
    refine kg_iload 3 dX10_finds_56 rfl (pc2 := 58) rfl ?_
    refine kg_iload_n 1 dX10_finds_58 rfl (pc2 := 59) rfl ?_
    refine kg_icmp_eq 148 dX10_finds_59 rfl (pc2 := 62) rfl (fun q13 => ?_) (fun q13 => ?_)
    · replace h := (if_pos q13).symm.trans h
      obtain ⟨x14, x14e, h⟩ := kw_let_e h
      refine kg_iinc 3 dX10_finds_148 rfl (Nat.le_of_ble_eq_true rfl) x14e (lv2 := [(4, .int x14), (0, .ref 0), (2, .int v2), (3, .int v3)]) rfl (pc2 := 151) rfl ?_
      refine kg_goto 45 dX10_finds_151 rfl ?_
      refine kg_sub [1, 2, 3, 0] (lv2 := [(0, .ref 0), (2, .int v2), (3, .int v3), (4, .int x14)]) rfl ?_
      cases h
      exact hk
    · replace h := (if_neg q13).symm.trans h
      refine kg_aload_n 0 dX10_finds_62 rfl (pc2 := 63) rfl ?_
      refine kg_iload 3 dX10_finds_63 rfl (pc2 := 65) rfl ?_
      obtain ⟨r15, r15h, h⟩ := kw_bind_e h
      refine kg_callV (μ := μX10_finds) (d := (d + 1)) rfl mVX10_isOpen [.int v4] [] (gX10_isOpen (E := E) (d := d) v4 σ r15h) rfl lmRX10_91 (ci := 10) rfl tM_0 eM_0 rfl (Nat.le_of_ble_eq_true rfl) dX10_finds_65 rfl (st2 := [.int r15]) rfl (pc2 := 68) rfl ?_
      refine kg_if_eq 148 dX10_finds_68 rfl (pc2 := 71) rfl (fun q16 => ?_) (fun q16 => ?_)
      · replace h := (if_pos q16).symm.trans h
        obtain ⟨x17, x17e, h⟩ := kw_let_e h
        refine kg_iinc 3 dX10_finds_148 rfl (Nat.le_of_ble_eq_true rfl) x17e (lv2 := [(4, .int x17), (0, .ref 0), (2, .int v2), (3, .int v3)]) rfl (pc2 := 151) rfl ?_
        refine kg_goto 45 dX10_finds_151 rfl ?_
        refine kg_sub [1, 2, 3, 0] (lv2 := [(0, .ref 0), (2, .int v2), (3, .int v3), (4, .int x17)]) rfl ?_
        cases h
        exact hk
      · replace h := (if_neg q16).symm.trans h
        refine kg_aload_n 0 dX10_finds_71 rfl (pc2 := 72) rfl ?_
        refine kg_getr clX10 rfl 2 (Nat.le_of_ble_eq_true rfl) lfRX10_13 tM_0 eM_0 rfl dX10_finds_72 (pc2 := 75) rfl ?_
        refine kg_aload_n 0 dX10_finds_75 rfl (pc2 := 76) rfl ?_
        refine kg_iload 3 dX10_finds_76 rfl (pc2 := 78) rfl ?_
        refine kg_iconst dX10_finds_78 ki_0 (pc2 := 79) rfl ?_
        obtain ⟨r18, r18h, h⟩ := kw_bind_e h
        refine kg_callV (μ := μX10_finds) (d := (d + 1)) rfl mVX10_of [.int v4, .int (0 : Int32)] [.ref 2] (gX10_of (E := E) (d := (d + 1)) v4 (0 : Int32) σ r18h) rfl lmRX10_73 (ci := 10) rfl tM_0 eM_0 rfl (Nat.le_of_ble_eq_true rfl) dX10_finds_79 rfl (st2 := [.int r18, .ref 2]) rfl (pc2 := 82) rfl ?_
        obtain ⟨q19, h⟩ := kw_chk_e h
        refine kg_lald tM_2 eM_2 q19 (j := r18.toNatClampNeg) rfl dX10_finds_82 (pc2 := 83) rfl ?_
        refine kg_ldc2 rfl lcRX10_89 dX10_finds_83 (pc2 := 86) rfl ?_
        refine kg_lcmp_ne 93 dX10_finds_86 dX10_finds_87 rfl (pc2 := 90) rfl (fun q20 => ?_) (fun q20 => ?_)
        · replace h := (if_neg q20).symm.trans h
          refine kg_aload_n 0 dX10_finds_93 rfl (pc2 := 94) rfl ?_
          refine kg_getr clX10 rfl 2 (Nat.le_of_ble_eq_true rfl) lfRX10_13 tM_0 eM_0 rfl dX10_finds_94 (pc2 := 97) rfl ?_
          refine kg_aload_n 0 dX10_finds_97 rfl (pc2 := 98) rfl ?_
          refine kg_iload 3 dX10_finds_98 rfl (pc2 := 100) rfl ?_
          refine kg_iconst dX10_finds_100 ki_0 (pc2 := 101) rfl ?_
          obtain ⟨r21, r21h, h⟩ := kw_bind_e h
          refine kg_callV (μ := μX10_finds) (d := (d + 1)) rfl mVX10_of [.int v4, .int (0 : Int32)] [.ref 2] (gX10_of (E := E) (d := (d + 1)) v4 (0 : Int32) σ r21h) rfl lmRX10_73 (ci := 10) rfl tM_0 eM_0 rfl (Nat.le_of_ble_eq_true rfl) dX10_finds_101 rfl (st2 := [.int r21, .ref 2]) rfl (pc2 := 104) rfl ?_
          obtain ⟨q22, h⟩ := kw_chk_e h
          refine kg_lald tM_2 eM_2 q22 (j := r21.toNatClampNeg) rfl dX10_finds_104 (pc2 := 105) rfl ?_
          refine kg_aload_n 0 dX10_finds_105 rfl (pc2 := 106) rfl ?_
          refine kg_iload 3 dX10_finds_106 rfl (pc2 := 108) rfl ?_
          refine kg_iconst dX10_finds_108 ki_2 (pc2 := 109) rfl ?_
          obtain ⟨r23, r23h, h⟩ := kw_bind_e h
          refine kg_callV (μ := μX10_finds) (d := (d + 1)) rfl mVX10_of [.int v4, .int (2 : Int32)] [.long (σ.2 2 r21.toNatClampNeg)] (gX10_of (E := E) (d := (d + 1)) v4 (2 : Int32) σ r23h) rfl lmRX10_73 (ci := 10) rfl tM_0 eM_0 rfl (Nat.le_of_ble_eq_true rfl) dX10_finds_109 rfl (st2 := [.int r23, .long (σ.2 2 r21.toNatClampNeg)]) rfl (pc2 := 112) rfl ?_
          refine kg_i2l dX10_finds_112 (pc2 := 113) rfl ?_
          refine kg_ladd dX10_finds_113 (pc2 := 114) rfl ?_
          obtain ⟨x24, x24e, h⟩ := kw_let_e h
          refine kg_lstore dX10_finds_114 (Nat.le_of_ble_eq_true rfl) x24e (lv2 := [(5, .long x24), (0, .ref 0), (2, .int v2), (3, .int v3), (4, .int v4)]) rfl (pc2 := 116) rfl ?_
          refine kg_lload 0 dX10_finds_116 rfl (pc2 := 118) rfl ?_
          refine kg_aload_n 1 dX10_finds_118 rfl (pc2 := 119) rfl ?_
          refine kg_getr clX10 rfl 2 (Nat.le_of_ble_eq_true rfl) lfRX10_13 tM_0 eM_0 rfl dX10_finds_119 (pc2 := 122) rfl ?_
          refine kg_aload_n 1 dX10_finds_122 rfl (pc2 := 123) rfl ?_
          refine kg_iload 4 dX10_finds_123 rfl (pc2 := 125) rfl ?_
          refine kg_iconst dX10_finds_125 ki_1 (pc2 := 126) rfl ?_
          obtain ⟨r25, r25h, h⟩ := kw_bind_e h
          refine kg_callV (μ := μX10_finds) (d := (d + 1)) rfl mVX10_of [.int v4, .int (1 : Int32)] [.ref 2, .long x24] (gX10_of (E := E) (d := (d + 1)) v4 (1 : Int32) σ r25h) rfl lmRX10_73 (ci := 10) rfl tM_0 eM_0 rfl (Nat.le_of_ble_eq_true rfl) dX10_finds_126 rfl (st2 := [.int r25, .ref 2, .long x24]) rfl (pc2 := 129) rfl ?_
          obtain ⟨q26, h⟩ := kw_chk_e h
          refine kg_lald tM_2 eM_2 q26 (j := r25.toNatClampNeg) rfl dX10_finds_129 (pc2 := 130) rfl ?_
          refine kg_lcmp_ge 148 dX10_finds_130 dX10_finds_131 rfl (pc2 := 134) rfl (fun q27 => ?_) (fun q27 => ?_)
          · replace h := (if_pos q27).symm.trans h
            obtain ⟨x28, x28e, h⟩ := kw_let_e h
            refine kg_iinc 4 dX10_finds_148 rfl (Nat.le_of_ble_eq_true rfl) x28e (lv2 := [(4, .int x28), (5, .long x24), (0, .ref 0), (2, .int v2), (3, .int v3)]) rfl (pc2 := 151) rfl ?_
            refine kg_goto 45 dX10_finds_151 rfl ?_
            refine kg_sub [2, 3, 4, 0] (lv2 := [(0, .ref 0), (2, .int v2), (3, .int v3), (4, .int x28)]) rfl ?_
            cases h
            exact hk
          · replace h := (if_neg q27).symm.trans h
            refine kg_aload_n 1 dX10_finds_134 rfl (pc2 := 135) rfl ?_
            refine kg_getr clX10 rfl 2 (Nat.le_of_ble_eq_true rfl) lfRX10_13 tM_0 eM_0 rfl dX10_finds_135 (pc2 := 138) rfl ?_
            refine kg_aload_n 1 dX10_finds_138 rfl (pc2 := 139) rfl ?_
            refine kg_iload 4 dX10_finds_139 rfl (pc2 := 141) rfl ?_
            refine kg_iconst dX10_finds_141 ki_1 (pc2 := 142) rfl ?_
            obtain ⟨r29, r29h, h⟩ := kw_bind_e h
            refine kg_callV (μ := μX10_finds) (d := (d + 1)) rfl mVX10_of [.int v4, .int (1 : Int32)] [.ref 2] (gX10_of (E := E) (d := (d + 1)) v4 (1 : Int32) σ r29h) rfl lmRX10_73 (ci := 10) rfl tM_0 eM_0 rfl (Nat.le_of_ble_eq_true rfl) dX10_finds_142 rfl (st2 := [.int r29, .ref 2]) rfl (pc2 := 145) rfl ?_
            refine kg_lload 0 dX10_finds_145 rfl (pc2 := 147) rfl ?_
            obtain ⟨q30, h⟩ := kw_chk_e h
            obtain ⟨s31, s31e, h⟩ := kw_let_e h
            refine kg_last tM_2 eM_2 q30 (j := r29.toNatClampNeg) rfl s31e dX10_finds_147 (pc2 := 148) rfl ?_
            obtain ⟨x32, x32e, h⟩ := kw_let_e h
            refine kg_iinc 4 dX10_finds_148 rfl (Nat.le_of_ble_eq_true rfl) x32e (lv2 := [(4, .int x32), (5, .long x24), (0, .ref 0), (2, .int v2), (3, .int v3)]) rfl (pc2 := 151) rfl ?_
            refine kg_goto 45 dX10_finds_151 rfl ?_
            refine kg_sub [2, 3, 4, 0] (lv2 := [(0, .ref 0), (2, .int v2), (3, .int v3), (4, .int x32)]) rfl ?_
            cases h
            exact hk
        · replace h := (if_pos q20).symm.trans h
          refine kg_goto 148 dX10_finds_90 rfl ?_
          obtain ⟨x33, x33e, h⟩ := kw_let_e h
          refine kg_iinc 3 dX10_finds_148 rfl (Nat.le_of_ble_eq_true rfl) x33e (lv2 := [(4, .int x33), (0, .ref 0), (2, .int v2), (3, .int v3)]) rfl (pc2 := 151) rfl ?_
          refine kg_goto 45 dX10_finds_151 rfl ?_
          refine kg_sub [1, 2, 3, 0] (lv2 := [(0, .ref 0), (2, .int v2), (3, .int v3), (4, .int x33)]) rfl ?_
          cases h
          exact hk
set_option maxHeartbeats 4000000 in
set_option maxRecDepth 100000 in
theorem lX10_finds_34 {E : kw_E} {d : Nat} (v2 : Int32) (v3 : Int32) (σ : kw_M) {v : Option Value} {σ2 : kw_M} {o : (Int32 × kw_M) ⊕ (kw_M)} (h : bX10_finds_34 v2 v3 σ = some o) (hk : Sum.elim (fun s => kw_G E kwTM 21 (d + 2) μX10_finds 34 [(0, .ref 0), (2, .int v2), (3, .int s.1)] [] s.2 v σ2) (fun y => kw_G E kwTM 21 (d + 2) μX10_finds 160 [] [] y v σ2) o) : kw_G E kwTM 21 (d + 2) μX10_finds 34 [(0, .ref 0), (2, .int v2), (3, .int v3)] [] σ v σ2 := by
  unfold bX10_finds_34 at h
  refine kg_iload_n 2 dX10_finds_34 rfl (pc2 := 35) rfl ?_
  refine kg_aload_n 0 dX10_finds_35 rfl (pc2 := 36) rfl ?_
  obtain ⟨r10, r10h, h⟩ := kw_bind_e h
  refine kg_callV (μ := μX10_finds) (d := (d + 1)) rfl mVX10_towns [] [.int v3] (gX10_towns (E := E) (d := (d + 1)) σ r10h) rfl lmRX10_77 (ci := 10) rfl tM_0 eM_0 rfl (Nat.le_of_ble_eq_true rfl) dX10_finds_36 rfl (st2 := [.int r10, .int v3]) rfl (pc2 := 39) rfl ?_
  refine kg_icmp_ge 160 dX10_finds_39 rfl (pc2 := 42) rfl (fun q11 => ?_) (fun q11 => ?_)
  · replace h := (if_pos q11).symm.trans h
    refine kg_sub [] (lv2 := []) rfl ?_
    cases h
    exact hk
  · replace h := (if_neg q11).symm.trans h
    refine kg_iconst dX10_finds_42 ki_0 (pc2 := 43) rfl ?_
    refine kg_istore dX10_finds_43 (Nat.le_of_ble_eq_true rfl) rfl (lv2 := [(4, .int (0 : Int32)), (0, .ref 0), (2, .int v2), (3, .int v3)]) rfl (pc2 := 45) rfl ?_
    refine kg_sub [1, 2, 3, 0] (lv2 := [(0, .ref 0), (2, .int v2), (3, .int v3), (4, .int (0 : Int32))]) rfl ?_
    obtain ⟨x34, x34h, h⟩ := kw_bind_e h
    refine kw_loop_e (P := fun s => kw_G E kwTM 21 (d + 2) μX10_finds 45 [(0, .ref 0), (2, .int v2), (3, .int v3), (4, .int s.1)] [] s.2 v σ2) (K := fun y => kw_G E kwTM 21 (d + 2) μX10_finds 154 [(0, .ref 0), (2, .int v2), (3, .int v3)] [] y v σ2) (fun s o h0 hk => lX10_finds_45 v2 v3 s.1 s.2 h0 hk) kw_F _ _ x34h ?_
    show kw_G E kwTM 21 (d + 2) μX10_finds 154 [(0, .ref 0), (2, .int v2), (3, .int v3)] [] x34 v σ2
    obtain ⟨x35, x35e, h⟩ := kw_let_e h
    refine kg_iinc 2 dX10_finds_154 rfl (Nat.le_of_ble_eq_true rfl) x35e (lv2 := [(3, .int x35), (0, .ref 0), (2, .int v2)]) rfl (pc2 := 157) rfl ?_
    refine kg_goto 34 dX10_finds_157 rfl ?_
    refine kg_sub [1, 2, 0] (lv2 := [(0, .ref 0), (2, .int v2), (3, .int x35)]) rfl ?_
    cases h
    exact hk
set_option maxHeartbeats 4000000 in
set_option maxRecDepth 100000 in
theorem gX10_finds {E : kw_E} {d : Nat} (a1 : Int32) (a2 : Int32) (σ : kw_M) {r : kw_M} (h : fX10_finds a1 a2 σ = some r) : kw_Met E kwTM 21 (d + 2) μX10_finds [.ref 0, .int a1, .int a2] σ none r := by
  refine kw_enter plRX10 (Nat.le_of_ble_eq_true rfl) ?_
  show kw_G E kwTM 21 (d + 2) μX10_finds 0 [(0, .ref 0), (1, .int a1), (2, .int a2)] [] σ none r
  unfold fX10_finds at h
  refine kg_iconst dX10_finds_0 ki_0 (pc2 := 1) rfl ?_
  refine kg_istore_n dX10_finds_1 rfl (Nat.le_of_ble_eq_true rfl) rfl (lv2 := [(3, .int (0 : Int32)), (0, .ref 0), (1, .int a1), (2, .int a2)]) rfl (pc2 := 2) rfl ?_
  refine kg_sub [1, 2, 3, 0] (lv2 := [(0, .ref 0), (1, .int a1), (2, .int a2), (3, .int (0 : Int32))]) rfl ?_
  obtain ⟨x9, x9h, h⟩ := kw_bind_e h
  refine kw_loop_e (P := fun s => kw_G E kwTM 21 (d + 2) μX10_finds 2 [(0, .ref 0), (1, .int a1), (2, .int a2), (3, .int s.1)] [] s.2 none r) (K := fun y => kw_G E kwTM 21 (d + 2) μX10_finds 32 [(0, .ref 0), (2, .int a2)] [] y none r) (fun s o h0 hk => lX10_finds_2 a1 a2 s.1 s.2 h0 hk) kw_F _ _ x9h ?_
  show kw_G E kwTM 21 (d + 2) μX10_finds 32 [(0, .ref 0), (2, .int a2)] [] x9 none r
  refine kg_iconst dX10_finds_32 ki_1 (pc2 := 33) rfl ?_
  refine kg_istore_n dX10_finds_33 rfl (Nat.le_of_ble_eq_true rfl) rfl (lv2 := [(3, .int (1 : Int32)), (0, .ref 0), (2, .int a2)]) rfl (pc2 := 34) rfl ?_
  refine kg_sub [1, 2, 0] (lv2 := [(0, .ref 0), (2, .int a2), (3, .int (1 : Int32))]) rfl ?_
  obtain ⟨x36, x36h, h⟩ := kw_bind_e h
  refine kw_loop_e (P := fun s => kw_G E kwTM 21 (d + 2) μX10_finds 34 [(0, .ref 0), (2, .int a2), (3, .int s.1)] [] s.2 none r) (K := fun y => kw_G E kwTM 21 (d + 2) μX10_finds 160 [] [] y none r) (fun s o h0 hk => lX10_finds_34 a2 s.1 s.2 h0 hk) kw_F _ _ x36h ?_
  show kw_G E kwTM 21 (d + 2) μX10_finds 160 [] [] x36 none r
  cases h
  exact kg_vret dX10_finds_160 rfl
set_option maxHeartbeats 4000000 in
set_option maxRecDepth 100000 in
theorem lX10_settles_13 {E : kw_E} {d : Nat} (v1 : Int32) (σ : kw_M) {v : Option Value} {σ2 : kw_M} {o : (Int32 × kw_M) ⊕ (kw_M)} (h : bX10_settles_13 v1 σ = some o) (hk : Sum.elim (fun s => kw_G E kwTM 21 (d + 3) μX10_settles 13 [(0, .ref 0), (1, .int s.1)] [] s.2 v σ2) (fun y => kw_G E kwTM 21 (d + 3) μX10_settles 37 [] [] y v σ2) o) : kw_G E kwTM 21 (d + 3) μX10_settles 13 [(0, .ref 0), (1, .int v1)] [] σ v σ2 := by
  unfold bX10_settles_13 at h
  refine kg_iload_n 1 dX10_settles_13 rfl (pc2 := 14) rfl ?_
  refine kg_bipush dX10_settles_14 kb_12 (pc2 := 16) rfl ?_
  refine kg_icmp_ge 37 dX10_settles_16 rfl (pc2 := 19) rfl (fun q2 => ?_) (fun q2 => ?_)
  · replace h := (if_pos q2).symm.trans h
    refine kg_sub [] (lv2 := []) rfl ?_
    cases h
    exact hk
  · replace h := (if_neg q2).symm.trans h
    refine kg_aload_n 0 dX10_settles_19 rfl (pc2 := 20) rfl ?_
    refine kg_getr clX10 rfl 3 (Nat.le_of_ble_eq_true rfl) lfRX10_17 tM_0 eM_0 rfl dX10_settles_20 (pc2 := 23) rfl ?_
    refine kg_iload_n 1 dX10_settles_23 rfl (pc2 := 24) rfl ?_
    refine kg_aload_n 0 dX10_settles_24 rfl (pc2 := 25) rfl ?_
    refine kg_getr clX10 rfl 2 (Nat.le_of_ble_eq_true rfl) lfRX10_13 tM_0 eM_0 rfl dX10_settles_25 (pc2 := 28) rfl ?_
    refine kg_iload_n 1 dX10_settles_28 rfl (pc2 := 29) rfl ?_
    obtain ⟨q3, h⟩ := kw_chk_e h
    refine kg_lald tM_2 eM_2 q3 (j := v1.toNatClampNeg) rfl dX10_settles_29 (pc2 := 30) rfl ?_
    obtain ⟨s4, s4e, h⟩ := kw_let_e h
    refine kg_last tM_3 eM_3 q3 (j := v1.toNatClampNeg) rfl s4e dX10_settles_30 (pc2 := 31) rfl ?_
    obtain ⟨x5, x5e, h⟩ := kw_let_e h
    refine kg_iinc 1 dX10_settles_31 rfl (Nat.le_of_ble_eq_true rfl) x5e (lv2 := [(1, .int x5), (0, .ref 0)]) rfl (pc2 := 34) rfl ?_
    refine kg_goto 13 dX10_settles_34 rfl ?_
    refine kg_sub [1, 0] (lv2 := [(0, .ref 0), (1, .int x5)]) rfl ?_
    cases h
    exact hk
set_option maxHeartbeats 4000000 in
set_option maxRecDepth 100000 in
theorem gX10_settles {E : kw_E} {d : Nat} (σ : kw_M) {r : kw_M} (h : fX10_settles σ = some r) : kw_Met E kwTM 21 (d + 3) μX10_settles [.ref 0] σ none r := by
  refine kw_enter plRX10 (Nat.le_of_ble_eq_true rfl) ?_
  show kw_G E kwTM 21 (d + 3) μX10_settles 0 [(0, .ref 0)] [] σ none r
  unfold fX10_settles at h
  refine kg_aload_n 0 dX10_settles_0 rfl (pc2 := 1) rfl ?_
  refine kg_aload_n 0 dX10_settles_1 rfl (pc2 := 2) rfl ?_
  refine kg_getr clX10 rfl 0 (Nat.le_of_ble_eq_true rfl) lfRX10_7 tM_0 eM_0 rfl dX10_settles_2 (pc2 := 5) rfl ?_
  refine kg_iconst dX10_settles_5 ki_2 (pc2 := 6) rfl ?_
  refine kg_iald tM_1 eM_1 (show kw_in (2 : Int32) 2832 by decide) (j := 2) (by decide) dX10_settles_6 (pc2 := 7) rfl ?_
  refine kg_iconst dX10_settles_7 ki_m1 (pc2 := 8) rfl ?_
  obtain ⟨r1, r1h, h⟩ := kw_bind_e h
  refine kg_callV (μ := μX10_settles) (d := (d + 2)) rfl mVX10_finds [.int (σ.1 1 2), .int (-1 : Int32)] [] (gX10_finds (E := E) (d := d) (σ.1 1 2) (-1 : Int32) σ r1h) rfl lmRX10_95 (ci := 10) rfl tM_0 eM_0 rfl (Nat.le_of_ble_eq_true rfl) dX10_settles_8 rfl (st2 := []) rfl (pc2 := 11) rfl ?_
  refine kg_iconst dX10_settles_11 ki_0 (pc2 := 12) rfl ?_
  refine kg_istore_n dX10_settles_12 rfl (Nat.le_of_ble_eq_true rfl) rfl (lv2 := [(1, .int (0 : Int32)), (0, .ref 0)]) rfl (pc2 := 13) rfl ?_
  refine kg_sub [1, 0] (lv2 := [(0, .ref 0), (1, .int (0 : Int32))]) rfl ?_
  obtain ⟨x6, x6h, h⟩ := kw_bind_e h
  refine kw_loop_e (P := fun s => kw_G E kwTM 21 (d + 3) μX10_settles 13 [(0, .ref 0), (1, .int s.1)] [] s.2 none r) (K := fun y => kw_G E kwTM 21 (d + 3) μX10_settles 37 [] [] y none r) (fun s o h0 hk => lX10_settles_13 s.1 s.2 h0 hk) kw_F _ _ x6h ?_
  show kw_G E kwTM 21 (d + 3) μX10_settles 37 [] [] x6 none r
  cases h
  exact kg_vret dX10_settles_37 rfl
set_option maxHeartbeats 4000000 in
set_option maxRecDepth 100000 in
theorem gX10_told {E : kw_E} {d : Nat} (a0 : Int64) (σ : kw_M) {r : Int64} (h : fX10_told a0 σ = some r) : kw_Met E kwTM 21 d μX10_told [.long a0] σ (some (Value.long r)) σ := by
  refine kw_enter plRX10 (Nat.le_of_ble_eq_true rfl) ?_
  show kw_G E kwTM 21 d μX10_told 0 [(0, .long a0)] [] σ (some (Value.long r)) σ
  unfold fX10_told at h
  refine kg_lload_n 0 dX10_told_0 rfl (pc2 := 1) rfl ?_
  refine kg_ldc2 rfl lcRX10_89 dX10_told_1 (pc2 := 4) rfl ?_
  refine kg_lcmp_lt 14 dX10_told_4 dX10_told_5 rfl (pc2 := 8) rfl (fun q1 => ?_) (fun q1 => ?_)
  · replace h := (if_pos q1).symm.trans h
    refine kg_lload_n 0 dX10_told_14 rfl (pc2 := 15) rfl ?_
    cases h
    exact kg_lret dX10_told_15 rfl
  · replace h := (if_neg q1).symm.trans h
    refine kg_ldc2 rfl lcRX10_99 dX10_told_8 (pc2 := 11) rfl ?_
    refine kg_goto 15 dX10_told_11 rfl ?_
    cases h
    exact kg_lret dX10_told_15 rfl
set_option maxHeartbeats 4000000 in
set_option maxRecDepth 100000 in
theorem gX10_isRing {E : kw_E} {d : Nat} (a1 : Int32) (σ : kw_M) {r : Int32 × kw_M} (h : fX10_isRing a1 σ = some r) : kw_Met E kwTM 21 (d + 3) μX10_isRing [.ref 0, .int a1] σ (some (Value.int r.1)) r.2 := by
  refine kw_enter plRX10 (Nat.le_of_ble_eq_true rfl) ?_
  show kw_G E kwTM 21 (d + 3) μX10_isRing 0 [(0, .ref 0), (1, .int a1)] [] σ (some (Value.int r.1)) r.2
  unfold fX10_isRing at h
  refine kg_aload_n 0 dX10_isRing_0 rfl (pc2 := 1) rfl ?_
  refine kg_aload_n 0 dX10_isRing_1 rfl (pc2 := 2) rfl ?_
  refine kg_iload_n 1 dX10_isRing_2 rfl (pc2 := 3) rfl ?_
  refine kg_iconst dX10_isRing_3 ki_1 (pc2 := 4) rfl ?_
  obtain ⟨r1, r1h, h⟩ := kw_bind_e h
  refine kg_callV (μ := μX10_isRing) (d := (d + 2)) rfl mVX10_of [.int a1, .int (1 : Int32)] [.ref 0] (gX10_of (E := E) (d := (d + 2)) a1 (1 : Int32) σ r1h) rfl lmRX10_73 (ci := 10) rfl tM_0 eM_0 rfl (Nat.le_of_ble_eq_true rfl) dX10_isRing_4 rfl (st2 := [.int r1, .ref 0]) rfl (pc2 := 7) rfl ?_
  refine kg_iload_n 1 dX10_isRing_7 rfl (pc2 := 8) rfl ?_
  obtain ⟨r2, r2h, h⟩ := kw_bind_e h
  refine kg_callV (μ := μX10_isRing) (d := (d + 2)) rfl mVX10_finds [.int r1, .int a1] [] (gX10_finds (E := E) (d := d) r1 a1 σ r2h) rfl lmRX10_95 (ci := 10) rfl tM_0 eM_0 rfl (Nat.le_of_ble_eq_true rfl) dX10_isRing_8 rfl (st2 := []) rfl (pc2 := 11) rfl ?_
  refine kg_aload_n 0 dX10_isRing_11 rfl (pc2 := 12) rfl ?_
  refine kg_getr clX10 rfl 2 (Nat.le_of_ble_eq_true rfl) lfRX10_13 tM_0 eM_0 rfl dX10_isRing_12 (pc2 := 15) rfl ?_
  refine kg_aload_n 0 dX10_isRing_15 rfl (pc2 := 16) rfl ?_
  refine kg_iload_n 1 dX10_isRing_16 rfl (pc2 := 17) rfl ?_
  refine kg_iconst dX10_isRing_17 ki_0 (pc2 := 18) rfl ?_
  obtain ⟨r3, r3h, h⟩ := kw_bind_e h
  refine kg_callV (μ := μX10_isRing) (d := (d + 2)) rfl mVX10_of [.int a1, .int (0 : Int32)] [.ref 2] (gX10_of (E := E) (d := (d + 2)) a1 (0 : Int32) r2 r3h) rfl lmRX10_73 (ci := 10) rfl tM_0 eM_0 rfl (Nat.le_of_ble_eq_true rfl) dX10_isRing_18 rfl (st2 := [.int r3, .ref 2]) rfl (pc2 := 21) rfl ?_
  obtain ⟨q4, h⟩ := kw_chk_e h
  refine kg_lald tM_2 eM_2 q4 (j := r3.toNatClampNeg) rfl dX10_isRing_21 (pc2 := 22) rfl ?_
  refine kg_ldc2 rfl lcRX10_89 dX10_isRing_22 (pc2 := 25) rfl ?_
  refine kg_lcmp_ge 57 dX10_isRing_25 dX10_isRing_26 rfl (pc2 := 29) rfl (fun q5 => ?_) (fun q5 => ?_)
  · replace h := (if_pos q5).symm.trans h
    refine kg_iconst dX10_isRing_57 ki_0 (pc2 := 58) rfl ?_
    cases h
    exact kg_iret (ty := .boolean) dX10_isRing_58 rfl rfl
  · replace h := (if_neg q5).symm.trans h
    refine kg_aload_n 0 dX10_isRing_29 rfl (pc2 := 30) rfl ?_
    refine kg_getr clX10 rfl 2 (Nat.le_of_ble_eq_true rfl) lfRX10_13 tM_0 eM_0 rfl dX10_isRing_30 (pc2 := 33) rfl ?_
    refine kg_aload_n 0 dX10_isRing_33 rfl (pc2 := 34) rfl ?_
    refine kg_iload_n 1 dX10_isRing_34 rfl (pc2 := 35) rfl ?_
    refine kg_iconst dX10_isRing_35 ki_0 (pc2 := 36) rfl ?_
    obtain ⟨r6, r6h, h⟩ := kw_bind_e h
    refine kg_callV (μ := μX10_isRing) (d := (d + 2)) rfl mVX10_of [.int a1, .int (0 : Int32)] [.ref 2] (gX10_of (E := E) (d := (d + 2)) a1 (0 : Int32) r2 r6h) rfl lmRX10_73 (ci := 10) rfl tM_0 eM_0 rfl (Nat.le_of_ble_eq_true rfl) dX10_isRing_36 rfl (st2 := [.int r6, .ref 2]) rfl (pc2 := 39) rfl ?_
    obtain ⟨q7, h⟩ := kw_chk_e h
    refine kg_lald tM_2 eM_2 q7 (j := r6.toNatClampNeg) rfl dX10_isRing_39 (pc2 := 40) rfl ?_
    refine kg_aload_n 0 dX10_isRing_40 rfl (pc2 := 41) rfl ?_
    refine kg_iload_n 1 dX10_isRing_41 rfl (pc2 := 42) rfl ?_
    refine kg_iconst dX10_isRing_42 ki_2 (pc2 := 43) rfl ?_
    obtain ⟨r8, r8h, h⟩ := kw_bind_e h
    refine kg_callV (μ := μX10_isRing) (d := (d + 2)) rfl mVX10_of [.int a1, .int (2 : Int32)] [.long (r2.2 2 r6.toNatClampNeg)] (gX10_of (E := E) (d := (d + 2)) a1 (2 : Int32) r2 r8h) rfl lmRX10_73 (ci := 10) rfl tM_0 eM_0 rfl (Nat.le_of_ble_eq_true rfl) dX10_isRing_43 rfl (st2 := [.int r8, .long (r2.2 2 r6.toNatClampNeg)]) rfl (pc2 := 46) rfl ?_
    refine kg_i2l dX10_isRing_46 (pc2 := 47) rfl ?_
    refine kg_ladd dX10_isRing_47 (pc2 := 48) rfl ?_
    refine kg_lconst dX10_isRing_48 kl_0 (pc2 := 49) rfl ?_
    refine kg_lcmp_gt 57 dX10_isRing_49 dX10_isRing_50 rfl (pc2 := 53) rfl (fun q9 => ?_) (fun q9 => ?_)
    · replace h := (if_pos q9).symm.trans h
      refine kg_iconst dX10_isRing_57 ki_0 (pc2 := 58) rfl ?_
      cases h
      exact kg_iret (ty := .boolean) dX10_isRing_58 rfl rfl
    · replace h := (if_neg q9).symm.trans h
      refine kg_iconst dX10_isRing_53 ki_1 (pc2 := 54) rfl ?_
      refine kg_goto 58 dX10_isRing_54 rfl ?_
      cases h
      exact kg_iret (ty := .boolean) dX10_isRing_58 rfl rfl
set_option maxHeartbeats 4000000 in
set_option maxRecDepth 100000 in
theorem lX10_isTooFar_2 {E : kw_E} {d : Nat} (σ : kw_M) (v1 : Int32) {v : Option Value} {σ2 : kw_M} {o : (Int32) ⊕ ((Int32) ⊕ (Unit))} (h : bX10_isTooFar_2 σ v1 = some o) (hk : Sum.elim (fun s => kw_G E kwTM 21 (d + 1) μX10_isTooFar 2 [(0, .ref 0), (1, .int s)] [] σ v σ2) (Sum.elim (fun rr => v = some (Value.int rr) ∧ σ2 = σ) (fun y => kw_G E kwTM 21 (d + 1) μX10_isTooFar 49 [] [] σ v σ2)) o) : kw_G E kwTM 21 (d + 1) μX10_isTooFar 2 [(0, .ref 0), (1, .int v1)] [] σ v σ2 := by
  unfold bX10_isTooFar_2 at h
  refine kg_iload_n 1 dX10_isTooFar_2 rfl (pc2 := 3) rfl ?_
  refine kg_aload_n 0 dX10_isTooFar_3 rfl (pc2 := 4) rfl ?_
  obtain ⟨r1, r1h, h⟩ := kw_bind_e h
  refine kg_callV (μ := μX10_isTooFar) (d := d) rfl mVX10_towns [] [.int v1] (gX10_towns (E := E) (d := d) σ r1h) rfl lmRX10_77 (ci := 10) rfl tM_0 eM_0 rfl (Nat.le_of_ble_eq_true rfl) dX10_isTooFar_4 rfl (st2 := [.int r1, .int v1]) rfl (pc2 := 7) rfl ?_
  refine kg_icmp_ge 49 dX10_isTooFar_7 rfl (pc2 := 10) rfl (fun q2 => ?_) (fun q2 => ?_)
  · replace h := (if_pos q2).symm.trans h
    refine kg_sub [] (lv2 := []) rfl ?_
    cases h
    exact hk
  · replace h := (if_neg q2).symm.trans h
    refine kg_aload_n 0 dX10_isTooFar_10 rfl (pc2 := 11) rfl ?_
    refine kg_getr clX10 rfl 3 (Nat.le_of_ble_eq_true rfl) lfRX10_17 tM_0 eM_0 rfl dX10_isTooFar_11 (pc2 := 14) rfl ?_
    refine kg_iload_n 1 dX10_isTooFar_14 rfl (pc2 := 15) rfl ?_
    obtain ⟨q3, h⟩ := kw_chk_e h
    refine kg_lald tM_3 eM_3 q3 (j := v1.toNatClampNeg) rfl dX10_isTooFar_15 (pc2 := 16) rfl ?_
    refine kg_ldc2 rfl lcRX10_89 dX10_isTooFar_16 (pc2 := 19) rfl ?_
    refine kg_lcmp_ge 43 dX10_isTooFar_19 dX10_isTooFar_20 rfl (pc2 := 23) rfl (fun q4 => ?_) (fun q4 => ?_)
    · replace h := (if_pos q4).symm.trans h
      obtain ⟨x5, x5e, h⟩ := kw_let_e h
      refine kg_iinc 1 dX10_isTooFar_43 rfl (Nat.le_of_ble_eq_true rfl) x5e (lv2 := [(1, .int x5), (0, .ref 0)]) rfl (pc2 := 46) rfl ?_
      refine kg_goto 2 dX10_isTooFar_46 rfl ?_
      refine kg_sub [1, 0] (lv2 := [(0, .ref 0), (1, .int x5)]) rfl ?_
      cases h
      exact hk
    · replace h := (if_neg q4).symm.trans h
      refine kg_aload_n 0 dX10_isTooFar_23 rfl (pc2 := 24) rfl ?_
      refine kg_getr clX10 rfl 3 (Nat.le_of_ble_eq_true rfl) lfRX10_17 tM_0 eM_0 rfl dX10_isTooFar_24 (pc2 := 27) rfl ?_
      refine kg_iload_n 1 dX10_isTooFar_27 rfl (pc2 := 28) rfl ?_
      refine kg_lald tM_3 eM_3 q3 (j := v1.toNatClampNeg) rfl dX10_isTooFar_28 (pc2 := 29) rfl ?_
      refine kg_aload_n 0 dX10_isTooFar_29 rfl (pc2 := 30) rfl ?_
      refine kg_getr clX10 rfl 3 (Nat.le_of_ble_eq_true rfl) lfRX10_17 tM_0 eM_0 rfl dX10_isTooFar_30 (pc2 := 33) rfl ?_
      refine kg_iload_n 1 dX10_isTooFar_33 rfl (pc2 := 34) rfl ?_
      refine kg_lald tM_3 eM_3 q3 (j := v1.toNatClampNeg) rfl dX10_isTooFar_34 (pc2 := 35) rfl ?_
      refine kg_l2i dX10_isTooFar_35 (pc2 := 36) rfl ?_
      refine kg_i2l dX10_isTooFar_36 (pc2 := 37) rfl ?_
      refine kg_lcmp_eq 43 dX10_isTooFar_37 dX10_isTooFar_38 rfl (pc2 := 41) rfl (fun q6 => ?_) (fun q6 => ?_)
      · replace h := (if_pos q6).symm.trans h
        obtain ⟨x7, x7e, h⟩ := kw_let_e h
        refine kg_iinc 1 dX10_isTooFar_43 rfl (Nat.le_of_ble_eq_true rfl) x7e (lv2 := [(1, .int x7), (0, .ref 0)]) rfl (pc2 := 46) rfl ?_
        refine kg_goto 2 dX10_isTooFar_46 rfl ?_
        refine kg_sub [1, 0] (lv2 := [(0, .ref 0), (1, .int x7)]) rfl ?_
        cases h
        exact hk
      · replace h := (if_neg q6).symm.trans h
        refine kg_iconst dX10_isTooFar_41 ki_1 (pc2 := 42) rfl ?_
        cases h
        obtain ⟨rfl, rfl⟩ := hk
        exact kg_iret (ty := .boolean) dX10_isTooFar_42 rfl rfl
set_option maxHeartbeats 4000000 in
set_option maxRecDepth 100000 in
theorem gX10_isTooFar {E : kw_E} {d : Nat} (σ : kw_M) {r : Int32} (h : fX10_isTooFar σ = some r) : kw_Met E kwTM 21 (d + 1) μX10_isTooFar [.ref 0] σ (some (Value.int r)) σ := by
  refine kw_enter plRX10 (Nat.le_of_ble_eq_true rfl) ?_
  show kw_G E kwTM 21 (d + 1) μX10_isTooFar 0 [(0, .ref 0)] [] σ (some (Value.int r)) σ
  unfold fX10_isTooFar at h
  refine kg_iconst dX10_isTooFar_0 ki_0 (pc2 := 1) rfl ?_
  refine kg_istore_n dX10_isTooFar_1 rfl (Nat.le_of_ble_eq_true rfl) rfl (lv2 := [(1, .int (0 : Int32)), (0, .ref 0)]) rfl (pc2 := 2) rfl ?_
  refine kg_sub [1, 0] (lv2 := [(0, .ref 0), (1, .int (0 : Int32))]) rfl ?_
  obtain ⟨x8, x8h, h⟩ := kw_bind_e h
  refine kw_loop_e (P := fun s => kw_G E kwTM 21 (d + 1) μX10_isTooFar 2 [(0, .ref 0), (1, .int s)] [] σ (some (Value.int r)) σ) (K := Sum.elim (fun rr => (some (Value.int r)) = some (Value.int rr) ∧ σ = σ) (fun y => kw_G E kwTM 21 (d + 1) μX10_isTooFar 49 [] [] σ (some (Value.int r)) σ)) (fun s o h0 hk => lX10_isTooFar_2 σ s h0 hk) kw_F _ _ x8h ?_
  rcases x8 with x8r | x8
  · replace h := kw_se_l h
    cases h
    exact ⟨rfl, rfl⟩
  · replace h := kw_se_r h
    show kw_G E kwTM 21 (d + 1) μX10_isTooFar 49 [] [] σ (some (Value.int r)) σ
    refine kg_iconst dX10_isTooFar_49 ki_0 (pc2 := 50) rfl ?_
    cases h
    exact kg_iret (ty := .boolean) dX10_isTooFar_50 rfl rfl
set_option maxHeartbeats 4000000 in
set_option maxRecDepth 100000 in
theorem gX10_isBeyond {E : kw_E} {d : Nat} (a1 : Int32) (σ : kw_M) {r : Int32} (h : fX10_isBeyond a1 σ = some r) : kw_Met E kwTM 21 d μX10_isBeyond [.ref 0, .int a1] σ (some (Value.int r)) σ := by
  refine kw_enter plRX10 (Nat.le_of_ble_eq_true rfl) ?_
  show kw_G E kwTM 21 d μX10_isBeyond 0 [(0, .ref 0), (1, .int a1)] [] σ (some (Value.int r)) σ
  unfold fX10_isBeyond at h
  refine kg_aload_n 0 dX10_isBeyond_0 rfl (pc2 := 1) rfl ?_
  refine kg_getr clX10 rfl 3 (Nat.le_of_ble_eq_true rfl) lfRX10_17 tM_0 eM_0 rfl dX10_isBeyond_1 (pc2 := 4) rfl ?_
  refine kg_iload_n 1 dX10_isBeyond_4 rfl (pc2 := 5) rfl ?_
  obtain ⟨q1, h⟩ := kw_chk_e h
  refine kg_lald tM_3 eM_3 q1 (j := a1.toNatClampNeg) rfl dX10_isBeyond_5 (pc2 := 6) rfl ?_
  refine kg_aload_n 0 dX10_isBeyond_6 rfl (pc2 := 7) rfl ?_
  refine kg_getr clX10 rfl 0 (Nat.le_of_ble_eq_true rfl) lfRX10_7 tM_0 eM_0 rfl dX10_isBeyond_7 (pc2 := 10) rfl ?_
  refine kg_sipush dX10_isBeyond_10 ks_172 (pc2 := 13) rfl ?_
  refine kg_iconst dX10_isBeyond_13 ki_3 (pc2 := 14) rfl ?_
  refine kg_iload_n 1 dX10_isBeyond_14 rfl (pc2 := 15) rfl ?_
  refine kg_imul dX10_isBeyond_15 (pc2 := 16) rfl ?_
  refine kg_iadd dX10_isBeyond_16 (pc2 := 17) rfl ?_
  refine kg_iconst dX10_isBeyond_17 ki_1 (pc2 := 18) rfl ?_
  refine kg_iadd dX10_isBeyond_18 (pc2 := 19) rfl ?_
  obtain ⟨q2, h⟩ := kw_chk_e h
  refine kg_iald tM_1 eM_1 q2 (j := (((172 : Int32) + ((3 : Int32) * a1)) + (1 : Int32)).toNatClampNeg) rfl dX10_isBeyond_19 (pc2 := 20) rfl ?_
  refine kg_i2l dX10_isBeyond_20 (pc2 := 21) rfl ?_
  refine kg_lcmp_le 29 dX10_isBeyond_21 dX10_isBeyond_22 rfl (pc2 := 25) rfl (fun q3 => ?_) (fun q3 => ?_)
  · replace h := (if_pos q3).symm.trans h
    refine kg_iconst dX10_isBeyond_29 ki_0 (pc2 := 30) rfl ?_
    cases h
    exact kg_iret (ty := .boolean) dX10_isBeyond_30 rfl rfl
  · replace h := (if_neg q3).symm.trans h
    refine kg_iconst dX10_isBeyond_25 ki_1 (pc2 := 26) rfl ?_
    refine kg_goto 30 dX10_isBeyond_26 rfl ?_
    cases h
    exact kg_iret (ty := .boolean) dX10_isBeyond_30 rfl rfl
set_option maxHeartbeats 4000000 in
set_option maxRecDepth 100000 in
theorem gjX10_notesEvent_151 {E : kw_E} {d : Nat} (t0 : Int32) (t1 : Int32) (σ : kw_M) {r : kw_M} (h : jX10_notesEvent_151 t0 t1 σ = some r) : kw_G E kwTM 21 (d + 1) μX10_notesEvent 151 [(0, .ref 0)] [.int t0, .int t1, .ref 1] σ none r := by
  unfold jX10_notesEvent_151 at h
  obtain ⟨q21, h⟩ := kw_chk_e h
  obtain ⟨s22, s22e, h⟩ := kw_let_e h
  refine kg_iast tM_1 eM_1 q21 (j := t1.toNatClampNeg) rfl s22e dX10_notesEvent_151 (pc2 := 152) rfl ?_
  refine kg_aload_n 0 dX10_notesEvent_152 rfl (pc2 := 153) rfl ?_
  refine kg_getr clX10 rfl 0 (Nat.le_of_ble_eq_true rfl) lfRX10_7 tM_0 eM_0 rfl dX10_notesEvent_153 (pc2 := 156) rfl ?_
  refine kg_iconst dX10_notesEvent_156 ki_4 (pc2 := 157) rfl ?_
  refine kg_aload_n 0 dX10_notesEvent_157 rfl (pc2 := 158) rfl ?_
  refine kg_getr clX10 rfl 0 (Nat.le_of_ble_eq_true rfl) lfRX10_7 tM_0 eM_0 rfl dX10_notesEvent_158 (pc2 := 161) rfl ?_
  refine kg_iconst dX10_notesEvent_161 ki_4 (pc2 := 162) rfl ?_
  refine kg_iald tM_1 eM_1 (show kw_in (4 : Int32) 2832 by decide) (j := 4) (by decide) dX10_notesEvent_162 (pc2 := 163) rfl ?_
  refine kg_iconst dX10_notesEvent_163 ki_1 (pc2 := 164) rfl ?_
  refine kg_iadd dX10_notesEvent_164 (pc2 := 165) rfl ?_
  obtain ⟨s23, s23e, h⟩ := kw_let_e h
  refine kg_iast tM_1 eM_1 (show kw_in (4 : Int32) 2832 by decide) (j := 4) (by decide) s23e dX10_notesEvent_165 (pc2 := 166) rfl ?_
  cases h
  exact kg_vret dX10_notesEvent_166 rfl
set_option maxHeartbeats 4000000 in
set_option maxRecDepth 100000 in
theorem gjX10_notesEvent_125 {E : kw_E} {d : Nat} (v1 : Int32) (v2 : Int32) (t0 : Int32) (t1 : Int32) (σ : kw_M) {r : kw_M} (h : jX10_notesEvent_125 v1 v2 t0 t1 σ = some r) : kw_G E kwTM 21 (d + 1) μX10_notesEvent 125 [(0, .ref 0), (1, .int v1), (2, .int v2)] [.int t0, .int t1, .ref 1] σ none r := by
  unfold jX10_notesEvent_125 at h
  obtain ⟨q17, h⟩ := kw_chk_e h
  obtain ⟨s18, s18e, h⟩ := kw_let_e h
  refine kg_iast tM_1 eM_1 q17 (j := t1.toNatClampNeg) rfl s18e dX10_notesEvent_125 (pc2 := 126) rfl ?_
  refine kg_aload_n 0 dX10_notesEvent_126 rfl (pc2 := 127) rfl ?_
  refine kg_getr clX10 rfl 0 (Nat.le_of_ble_eq_true rfl) lfRX10_7 tM_0 eM_0 rfl dX10_notesEvent_127 (pc2 := 130) rfl ?_
  refine kg_iload_n 2 dX10_notesEvent_130 rfl (pc2 := 131) rfl ?_
  refine kg_iconst dX10_notesEvent_131 ki_4 (pc2 := 132) rfl ?_
  refine kg_iadd dX10_notesEvent_132 (pc2 := 133) rfl ?_
  refine kg_aload_n 0 dX10_notesEvent_133 rfl (pc2 := 134) rfl ?_
  refine kg_getr clX10 rfl 3 (Nat.le_of_ble_eq_true rfl) lfRX10_17 tM_0 eM_0 rfl dX10_notesEvent_134 (pc2 := 137) rfl ?_
  refine kg_iload_n 1 dX10_notesEvent_137 rfl (pc2 := 138) rfl ?_
  obtain ⟨q19, h⟩ := kw_chk_e h
  refine kg_lald tM_3 eM_3 q19 (j := v1.toNatClampNeg) rfl dX10_notesEvent_138 (pc2 := 139) rfl ?_
  refine kg_ldc2 rfl lcRX10_89 dX10_notesEvent_139 (pc2 := 142) rfl ?_
  refine kg_lcmp_ne 150 dX10_notesEvent_142 dX10_notesEvent_143 rfl (pc2 := 146) rfl (fun q20 => ?_) (fun q20 => ?_)
  · replace h := (if_neg q20).symm.trans h
    refine kg_iconst dX10_notesEvent_150 ki_1 (pc2 := 151) rfl ?_
    refine kg_sub [0] (lv2 := [(0, .ref 0)]) rfl ?_
    exact gjX10_notesEvent_151 (1 : Int32) (v2 + (4 : Int32)) s18 h
  · replace h := (if_pos q20).symm.trans h
    refine kg_iconst dX10_notesEvent_146 ki_0 (pc2 := 147) rfl ?_
    refine kg_goto 151 dX10_notesEvent_147 rfl ?_
    refine kg_sub [0] (lv2 := [(0, .ref 0)]) rfl ?_
    exact gjX10_notesEvent_151 (0 : Int32) (v2 + (4 : Int32)) s18 h
set_option maxHeartbeats 4000000 in
set_option maxRecDepth 100000 in
theorem gjX10_notesEvent_93 {E : kw_E} {d : Nat} (v1 : Int32) (v2 : Int32) (t0 : Int32) (t1 : Int32) (σ : kw_M) {r : kw_M} (h : jX10_notesEvent_93 v1 v2 t0 t1 σ = some r) : kw_G E kwTM 21 (d + 1) μX10_notesEvent 93 [(0, .ref 0), (1, .int v1), (2, .int v2)] [.int t0, .int t1, .ref 1] σ none r := by
  unfold jX10_notesEvent_93 at h
  obtain ⟨q13, h⟩ := kw_chk_e h
  obtain ⟨s14, s14e, h⟩ := kw_let_e h
  refine kg_iast tM_1 eM_1 q13 (j := t1.toNatClampNeg) rfl s14e dX10_notesEvent_93 (pc2 := 94) rfl ?_
  refine kg_aload_n 0 dX10_notesEvent_94 rfl (pc2 := 95) rfl ?_
  refine kg_getr clX10 rfl 0 (Nat.le_of_ble_eq_true rfl) lfRX10_7 tM_0 eM_0 rfl dX10_notesEvent_95 (pc2 := 98) rfl ?_
  refine kg_iload_n 2 dX10_notesEvent_98 rfl (pc2 := 99) rfl ?_
  refine kg_iconst dX10_notesEvent_99 ki_3 (pc2 := 100) rfl ?_
  refine kg_iadd dX10_notesEvent_100 (pc2 := 101) rfl ?_
  refine kg_aload_n 0 dX10_notesEvent_101 rfl (pc2 := 102) rfl ?_
  refine kg_getr clX10 rfl 3 (Nat.le_of_ble_eq_true rfl) lfRX10_17 tM_0 eM_0 rfl dX10_notesEvent_102 (pc2 := 105) rfl ?_
  refine kg_iload_n 1 dX10_notesEvent_105 rfl (pc2 := 106) rfl ?_
  obtain ⟨q15, h⟩ := kw_chk_e h
  refine kg_lald tM_3 eM_3 q15 (j := v1.toNatClampNeg) rfl dX10_notesEvent_106 (pc2 := 107) rfl ?_
  refine kg_ldc2 rfl lcRX10_89 dX10_notesEvent_107 (pc2 := 110) rfl ?_
  refine kg_lcmp_ne 118 dX10_notesEvent_110 dX10_notesEvent_111 rfl (pc2 := 114) rfl (fun q16 => ?_) (fun q16 => ?_)
  · replace h := (if_neg q16).symm.trans h
    refine kg_aload_n 0 dX10_notesEvent_118 rfl (pc2 := 119) rfl ?_
    refine kg_getr clX10 rfl 3 (Nat.le_of_ble_eq_true rfl) lfRX10_17 tM_0 eM_0 rfl dX10_notesEvent_119 (pc2 := 122) rfl ?_
    refine kg_iload_n 1 dX10_notesEvent_122 rfl (pc2 := 123) rfl ?_
    refine kg_lald tM_3 eM_3 q15 (j := v1.toNatClampNeg) rfl dX10_notesEvent_123 (pc2 := 124) rfl ?_
    refine kg_l2i dX10_notesEvent_124 (pc2 := 125) rfl ?_
    exact gjX10_notesEvent_125 v1 v2 ((s14.2 3 v1.toNatClampNeg).toInt32) (v2 + (3 : Int32)) s14 h
  · replace h := (if_pos q16).symm.trans h
    refine kg_iconst dX10_notesEvent_114 ki_0 (pc2 := 115) rfl ?_
    refine kg_goto 125 dX10_notesEvent_115 rfl ?_
    exact gjX10_notesEvent_125 v1 v2 (0 : Int32) (v2 + (3 : Int32)) s14 h
set_option maxHeartbeats 4000000 in
set_option maxRecDepth 100000 in
theorem gjX10_notesEvent_26 {E : kw_E} {d : Nat} (v1 : Int32) (t0 : Int32) (t1 : Int32) (σ : kw_M) {r : kw_M} (h : jX10_notesEvent_26 v1 t0 t1 σ = some r) : kw_G E kwTM 21 (d + 1) μX10_notesEvent 26 [(0, .ref 0), (1, .int v1)] [.int t0, .int t1, .ref 1] σ none r := by
  unfold jX10_notesEvent_26 at h
  obtain ⟨q3, h⟩ := kw_chk_e h
  obtain ⟨s4, s4e, h⟩ := kw_let_e h
  refine kg_iast tM_1 eM_1 q3 (j := t1.toNatClampNeg) rfl s4e dX10_notesEvent_26 (pc2 := 27) rfl ?_
  refine kg_aload_n 0 dX10_notesEvent_27 rfl (pc2 := 28) rfl ?_
  refine kg_getr clX10 rfl 0 (Nat.le_of_ble_eq_true rfl) lfRX10_7 tM_0 eM_0 rfl dX10_notesEvent_28 (pc2 := 31) rfl ?_
  refine kg_iconst dX10_notesEvent_31 ki_4 (pc2 := 32) rfl ?_
  refine kg_iald tM_1 eM_1 (show kw_in (4 : Int32) 2832 by decide) (j := 4) (by decide) dX10_notesEvent_32 (pc2 := 33) rfl ?_
  refine kg_bipush dX10_notesEvent_33 kb_100 (pc2 := 35) rfl ?_
  refine kg_icmp_ne 39 dX10_notesEvent_35 rfl (pc2 := 38) rfl (fun q5 => ?_) (fun q5 => ?_)
  · replace h := (if_neg q5).symm.trans h
    refine kg_sipush dX10_notesEvent_39 ks_208 (pc2 := 42) rfl ?_
    refine kg_iconst dX10_notesEvent_42 ki_5 (pc2 := 43) rfl ?_
    refine kg_aload_n 0 dX10_notesEvent_43 rfl (pc2 := 44) rfl ?_
    refine kg_getr clX10 rfl 0 (Nat.le_of_ble_eq_true rfl) lfRX10_7 tM_0 eM_0 rfl dX10_notesEvent_44 (pc2 := 47) rfl ?_
    refine kg_iconst dX10_notesEvent_47 ki_4 (pc2 := 48) rfl ?_
    refine kg_iald tM_1 eM_1 (show kw_in (4 : Int32) 2832 by decide) (j := 4) (by decide) dX10_notesEvent_48 (pc2 := 49) rfl ?_
    refine kg_imul dX10_notesEvent_49 (pc2 := 50) rfl ?_
    refine kg_iadd dX10_notesEvent_50 (pc2 := 51) rfl ?_
    obtain ⟨x6, x6e, h⟩ := kw_let_e h
    refine kg_istore_n dX10_notesEvent_51 rfl (Nat.le_of_ble_eq_true rfl) x6e (lv2 := [(2, .int x6), (0, .ref 0), (1, .int v1)]) rfl (pc2 := 52) rfl ?_
    refine kg_aload_n 1 dX10_notesEvent_52 rfl (pc2 := 53) rfl ?_
    refine kg_getr clX10 rfl 0 (Nat.le_of_ble_eq_true rfl) lfRX10_7 tM_0 eM_0 rfl dX10_notesEvent_53 (pc2 := 56) rfl ?_
    refine kg_iload_n 0 dX10_notesEvent_56 rfl (pc2 := 57) rfl ?_
    refine kg_aload_n 1 dX10_notesEvent_57 rfl (pc2 := 58) rfl ?_
    refine kg_getr clX10 rfl 0 (Nat.le_of_ble_eq_true rfl) lfRX10_7 tM_0 eM_0 rfl dX10_notesEvent_58 (pc2 := 61) rfl ?_
    refine kg_iconst dX10_notesEvent_61 ki_3 (pc2 := 62) rfl ?_
    refine kg_iald tM_1 eM_1 (show kw_in (3 : Int32) 2832 by decide) (j := 3) (by decide) dX10_notesEvent_62 (pc2 := 63) rfl ?_
    obtain ⟨q7, h⟩ := kw_chk_e h
    obtain ⟨s8, s8e, h⟩ := kw_let_e h
    refine kg_iast tM_1 eM_1 q7 (j := x6.toNatClampNeg) rfl s8e dX10_notesEvent_63 (pc2 := 64) rfl ?_
    refine kg_aload_n 1 dX10_notesEvent_64 rfl (pc2 := 65) rfl ?_
    refine kg_getr clX10 rfl 0 (Nat.le_of_ble_eq_true rfl) lfRX10_7 tM_0 eM_0 rfl dX10_notesEvent_65 (pc2 := 68) rfl ?_
    refine kg_iload_n 0 dX10_notesEvent_68 rfl (pc2 := 69) rfl ?_
    refine kg_iconst dX10_notesEvent_69 ki_1 (pc2 := 70) rfl ?_
    refine kg_iadd dX10_notesEvent_70 (pc2 := 71) rfl ?_
    refine kg_iload_n 2 dX10_notesEvent_71 rfl (pc2 := 72) rfl ?_
    obtain ⟨q9, h⟩ := kw_chk_e h
    obtain ⟨s10, s10e, h⟩ := kw_let_e h
    refine kg_iast tM_1 eM_1 q9 (j := (x6 + (1 : Int32)).toNatClampNeg) rfl s10e dX10_notesEvent_72 (pc2 := 73) rfl ?_
    refine kg_aload_n 1 dX10_notesEvent_73 rfl (pc2 := 74) rfl ?_
    refine kg_getr clX10 rfl 0 (Nat.le_of_ble_eq_true rfl) lfRX10_7 tM_0 eM_0 rfl dX10_notesEvent_74 (pc2 := 77) rfl ?_
    refine kg_iload_n 0 dX10_notesEvent_77 rfl (pc2 := 78) rfl ?_
    refine kg_iconst dX10_notesEvent_78 ki_2 (pc2 := 79) rfl ?_
    refine kg_iadd dX10_notesEvent_79 (pc2 := 80) rfl ?_
    refine kg_aload_n 1 dX10_notesEvent_80 rfl (pc2 := 81) rfl ?_
    refine kg_iload_n 2 dX10_notesEvent_81 rfl (pc2 := 82) rfl ?_
    obtain ⟨r11, r11h, h⟩ := kw_bind_e h
    refine kg_callV (μ := μX10_notesEvent) (d := d) rfl mVX10_isBeyond [.int v1] [.int (x6 + (2 : Int32)), .ref 1] (gX10_isBeyond (E := E) (d := d) v1 s10 r11h) rfl lmRX10_101 (ci := 10) rfl tM_0 eM_0 rfl (Nat.le_of_ble_eq_true rfl) dX10_notesEvent_82 rfl (st2 := [.int r11, .int (x6 + (2 : Int32)), .ref 1]) rfl (pc2 := 85) rfl ?_
    refine kg_if_eq 92 dX10_notesEvent_85 rfl (pc2 := 88) rfl (fun q12 => ?_) (fun q12 => ?_)
    · replace h := (if_pos q12).symm.trans h
      refine kg_iconst dX10_notesEvent_92 ki_0 (pc2 := 93) rfl ?_
      refine kg_sub [1, 2, 0] (lv2 := [(0, .ref 0), (1, .int v1), (2, .int x6)]) rfl ?_
      exact gjX10_notesEvent_93 v1 x6 (0 : Int32) (x6 + (2 : Int32)) s10 h
    · replace h := (if_neg q12).symm.trans h
      refine kg_iconst dX10_notesEvent_88 ki_1 (pc2 := 89) rfl ?_
      refine kg_goto 93 dX10_notesEvent_89 rfl ?_
      refine kg_sub [1, 2, 0] (lv2 := [(0, .ref 0), (1, .int v1), (2, .int x6)]) rfl ?_
      exact gjX10_notesEvent_93 v1 x6 (1 : Int32) (x6 + (2 : Int32)) s10 h
  · replace h := (if_pos q5).symm.trans h
    cases h
    exact kg_vret dX10_notesEvent_38 rfl
set_option maxHeartbeats 4000000 in
set_option maxRecDepth 100000 in
theorem gX10_notesEvent {E : kw_E} {d : Nat} (a1 : Int32) (σ : kw_M) {r : kw_M} (h : fX10_notesEvent a1 σ = some r) : kw_Met E kwTM 21 (d + 1) μX10_notesEvent [.ref 0, .int a1] σ none r := by
  refine kw_enter plRX10 (Nat.le_of_ble_eq_true rfl) ?_
  show kw_G E kwTM 21 (d + 1) μX10_notesEvent 0 [(0, .ref 0), (1, .int a1)] [] σ none r
  unfold fX10_notesEvent at h
  refine kg_aload_n 0 dX10_notesEvent_0 rfl (pc2 := 1) rfl ?_
  refine kg_getr clX10 rfl 0 (Nat.le_of_ble_eq_true rfl) lfRX10_7 tM_0 eM_0 rfl dX10_notesEvent_1 (pc2 := 4) rfl ?_
  refine kg_sipush dX10_notesEvent_4 ks_172 (pc2 := 7) rfl ?_
  refine kg_iconst dX10_notesEvent_7 ki_3 (pc2 := 8) rfl ?_
  refine kg_iload_n 1 dX10_notesEvent_8 rfl (pc2 := 9) rfl ?_
  refine kg_imul dX10_notesEvent_9 (pc2 := 10) rfl ?_
  refine kg_iadd dX10_notesEvent_10 (pc2 := 11) rfl ?_
  refine kg_iconst dX10_notesEvent_11 ki_2 (pc2 := 12) rfl ?_
  refine kg_iadd dX10_notesEvent_12 (pc2 := 13) rfl ?_
  refine kg_aload_n 0 dX10_notesEvent_13 rfl (pc2 := 14) rfl ?_
  refine kg_iload_n 1 dX10_notesEvent_14 rfl (pc2 := 15) rfl ?_
  obtain ⟨r1, r1h, h⟩ := kw_bind_e h
  refine kg_callV (μ := μX10_notesEvent) (d := d) rfl mVX10_isBeyond [.int a1] [.int (((172 : Int32) + ((3 : Int32) * a1)) + (2 : Int32)), .ref 1] (gX10_isBeyond (E := E) (d := d) a1 σ r1h) rfl lmRX10_101 (ci := 10) rfl tM_0 eM_0 rfl (Nat.le_of_ble_eq_true rfl) dX10_notesEvent_15 rfl (st2 := [.int r1, .int (((172 : Int32) + ((3 : Int32) * a1)) + (2 : Int32)), .ref 1]) rfl (pc2 := 18) rfl ?_
  refine kg_if_eq 25 dX10_notesEvent_18 rfl (pc2 := 21) rfl (fun q2 => ?_) (fun q2 => ?_)
  · replace h := (if_pos q2).symm.trans h
    refine kg_iconst dX10_notesEvent_25 ki_0 (pc2 := 26) rfl ?_
    exact gjX10_notesEvent_26 a1 (0 : Int32) (((172 : Int32) + ((3 : Int32) * a1)) + (2 : Int32)) σ h
  · replace h := (if_neg q2).symm.trans h
    refine kg_iconst dX10_notesEvent_21 ki_1 (pc2 := 22) rfl ?_
    refine kg_goto 26 dX10_notesEvent_22 rfl ?_
    exact gjX10_notesEvent_26 a1 (1 : Int32) (((172 : Int32) + ((3 : Int32) * a1)) + (2 : Int32)) σ h
