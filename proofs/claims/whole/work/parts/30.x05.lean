/-! The class, method by method: what it computes (f), and that the machine does so (g). -/
def fX7_hasDistance (a1 : Int32) (σ : kw_M) : Option (Int32) :=
 kw_chk (kw_in a1 12) <|
 if (σ.2 16 a1.toNatClampNeg) = (-9000000000000000000 : Int64) then
 (some (0 : Int32))
 else
 some (1 : Int32)
set_option maxHeartbeats 4000000 in
set_option maxRecDepth 100000 in
theorem gX7_hasDistance {E : kw_E} {d : Nat} (a1 : Int32) (σ : kw_M) {r : Int32} (h : fX7_hasDistance a1 σ = some r) : kw_Met E kwTX 47 d μX7_hasDistance [.ref 1, .int a1] σ (some (Value.int r)) σ := by
  refine kw_enter plRX7 (Nat.le_of_ble_eq_true rfl) ?_
  show kw_G E kwTX 47 d μX7_hasDistance 0 [(0, .ref 1), (1, .int a1)] [] σ (some (Value.int r)) σ
  unfold fX7_hasDistance at h
  refine kg_aload_n 0 dX7_hasDistance_0 rfl (pc2 := 1) rfl ?_
  refine kg_getr clX7 rfl 9 (Nat.le_of_ble_eq_true rfl) lfRX7_36 tX_1 eX_1 rfl dX7_hasDistance_1 (pc2 := 4) rfl ?_
  refine kg_iload_n 1 dX7_hasDistance_4 rfl (pc2 := 5) rfl ?_
  obtain ⟨q1, h⟩ := kw_chk_e h
  refine kg_lald tX_16 eX_16 q1 (j := a1.toNatClampNeg) rfl dX7_hasDistance_5 (pc2 := 6) rfl ?_
  refine kg_ldc2 rfl lcRX7_109 dX7_hasDistance_6 (pc2 := 9) rfl ?_
  refine kg_lcmp_eq 17 dX7_hasDistance_9 dX7_hasDistance_10 rfl (pc2 := 13) rfl (fun q2 => ?_) (fun q2 => ?_)
  · replace h := (if_pos q2).symm.trans h
    refine kg_iconst dX7_hasDistance_17 ki_0 (pc2 := 18) rfl ?_
    cases h
    exact kg_iret (ty := .boolean) dX7_hasDistance_18 rfl rfl
  · replace h := (if_neg q2).symm.trans h
    refine kg_iconst dX7_hasDistance_13 ki_1 (pc2 := 14) rfl ?_
    refine kg_goto 18 dX7_hasDistance_14 rfl ?_
    cases h
    exact kg_iret (ty := .boolean) dX7_hasDistance_18 rfl rfl
def bX7_settledCount_4 (σ : kw_M) (v1 : Int32) (v2 : Int32) : Option ((Int32 × Int32) ⊕ (Int32)) :=
 if (σ.1 12 0) ≤ v2 then
 (some (.inr v1))
 else
 (fX7_hasDistance v2 σ).bind fun r2 =>
 if r2 = (0 : Int32) then
 (kw_let (v2 + (1 : Int32)) fun x4 =>
 some (.inl (v1, x4)))
 else
 kw_let (v1 + (1 : Int32)) fun x5 =>
 kw_let (v2 + (1 : Int32)) fun x6 =>
 some (.inl (x5, x6))
set_option maxHeartbeats 4000000 in
set_option maxRecDepth 100000 in
theorem lX7_settledCount_4 {E : kw_E} {d : Nat} (σ : kw_M) (v1 : Int32) (v2 : Int32) {v : Option Value} {σ2 : kw_M} {o : (Int32 × Int32) ⊕ (Int32)} (h : bX7_settledCount_4 σ v1 v2 = some o) (hk : Sum.elim (fun s => kw_G E kwTX 47 (d + 1) μX7_settledCount 4 [(0, .ref 1), (1, .int s.1), (2, .int s.2)] [] σ v σ2) (fun y => kw_G E kwTX 47 (d + 1) μX7_settledCount 32 [(1, .int y)] [] σ v σ2) o) : kw_G E kwTX 47 (d + 1) μX7_settledCount 4 [(0, .ref 1), (1, .int v1), (2, .int v2)] [] σ v σ2 := by
  unfold bX7_settledCount_4 at h
  refine kg_iload_n 2 dX7_settledCount_4 rfl (pc2 := 5) rfl ?_
  refine kg_aload_n 0 dX7_settledCount_5 rfl (pc2 := 6) rfl ?_
  refine kg_getr clX7 rfl 0 (Nat.le_of_ble_eq_true rfl) lfRX7_12 tX_1 eX_1 rfl dX7_settledCount_6 (pc2 := 9) rfl ?_
  refine kg_geti clX4 rfl 0 (Nat.le_of_ble_eq_true rfl) lfRX7_90 tX_12 eX_12 rfl dX7_settledCount_9 (pc2 := 12) rfl ?_
  refine kg_icmp_ge 32 dX7_settledCount_12 rfl (pc2 := 15) rfl (fun q1 => ?_) (fun q1 => ?_)
  · replace h := (if_pos q1).symm.trans h
    refine kg_sub [1] (lv2 := [(1, .int v1)]) rfl ?_
    cases h
    exact hk
  · replace h := (if_neg q1).symm.trans h
    refine kg_aload_n 0 dX7_settledCount_15 rfl (pc2 := 16) rfl ?_
    refine kg_iload_n 2 dX7_settledCount_16 rfl (pc2 := 17) rfl ?_
    obtain ⟨r2, r2h, h⟩ := kw_bind_e h
    refine kg_callV (μ := μX7_settledCount) (d := d) rfl mVX7_hasDistance [.int v2] [] (gX7_hasDistance (E := E) (d := d) v2 σ r2h) rfl lmRX7_142 (ci := 7) rfl tX_1 eX_1 rfl (Nat.le_of_ble_eq_true rfl) dX7_settledCount_17 rfl (st2 := [.int r2]) rfl (pc2 := 20) rfl ?_
    refine kg_if_eq 26 dX7_settledCount_20 rfl (pc2 := 23) rfl (fun q3 => ?_) (fun q3 => ?_)
    · replace h := (if_pos q3).symm.trans h
      obtain ⟨x4, x4e, h⟩ := kw_let_e h
      refine kg_iinc 2 dX7_settledCount_26 rfl (Nat.le_of_ble_eq_true rfl) x4e (lv2 := [(2, .int x4), (0, .ref 1), (1, .int v1)]) rfl (pc2 := 29) rfl ?_
      refine kg_goto 4 dX7_settledCount_29 rfl ?_
      refine kg_sub [1, 2, 0] (lv2 := [(0, .ref 1), (1, .int v1), (2, .int x4)]) rfl ?_
      cases h
      exact hk
    · replace h := (if_neg q3).symm.trans h
      obtain ⟨x5, x5e, h⟩ := kw_let_e h
      refine kg_iinc 1 dX7_settledCount_23 rfl (Nat.le_of_ble_eq_true rfl) x5e (lv2 := [(1, .int x5), (0, .ref 1), (2, .int v2)]) rfl (pc2 := 26) rfl ?_
      obtain ⟨x6, x6e, h⟩ := kw_let_e h
      refine kg_iinc 2 dX7_settledCount_26 rfl (Nat.le_of_ble_eq_true rfl) x6e (lv2 := [(2, .int x6), (1, .int x5), (0, .ref 1)]) rfl (pc2 := 29) rfl ?_
      refine kg_goto 4 dX7_settledCount_29 rfl ?_
      refine kg_sub [2, 1, 0] (lv2 := [(0, .ref 1), (1, .int x5), (2, .int x6)]) rfl ?_
      cases h
      exact hk
def fX7_settledCount (σ : kw_M) : Option (Int32) :=
 (kw_loop (fun s => bX7_settledCount_4 σ s.1 s.2) kw_F ((0 : Int32), (0 : Int32))).bind fun x7 =>
 some x7
set_option maxHeartbeats 4000000 in
set_option maxRecDepth 100000 in
theorem gX7_settledCount {E : kw_E} {d : Nat} (σ : kw_M) {r : Int32} (h : fX7_settledCount σ = some r) : kw_Met E kwTX 47 (d + 1) μX7_settledCount [.ref 1] σ (some (Value.int r)) σ := by
  refine kw_enter plRX7 (Nat.le_of_ble_eq_true rfl) ?_
  show kw_G E kwTX 47 (d + 1) μX7_settledCount 0 [(0, .ref 1)] [] σ (some (Value.int r)) σ
  unfold fX7_settledCount at h
  refine kg_iconst dX7_settledCount_0 ki_0 (pc2 := 1) rfl ?_
  refine kg_istore_n dX7_settledCount_1 rfl (Nat.le_of_ble_eq_true rfl) rfl (lv2 := [(1, .int (0 : Int32)), (0, .ref 1)]) rfl (pc2 := 2) rfl ?_
  refine kg_iconst dX7_settledCount_2 ki_0 (pc2 := 3) rfl ?_
  refine kg_istore_n dX7_settledCount_3 rfl (Nat.le_of_ble_eq_true rfl) rfl (lv2 := [(2, .int (0 : Int32)), (1, .int (0 : Int32)), (0, .ref 1)]) rfl (pc2 := 4) rfl ?_
  refine kg_sub [2, 1, 0] (lv2 := [(0, .ref 1), (1, .int (0 : Int32)), (2, .int (0 : Int32))]) rfl ?_
  obtain ⟨x7, x7h, h⟩ := kw_bind_e h
  refine kw_loop_e (P := fun s => kw_G E kwTX 47 (d + 1) μX7_settledCount 4 [(0, .ref 1), (1, .int s.1), (2, .int s.2)] [] σ (some (Value.int r)) σ) (K := fun y => kw_G E kwTX 47 (d + 1) μX7_settledCount 32 [(1, .int y)] [] σ (some (Value.int r)) σ) (fun s o h0 hk => lX7_settledCount_4 σ s.1 s.2 h0 hk) kw_F _ _ x7h ?_
  show kw_G E kwTX 47 (d + 1) μX7_settledCount 32 [(1, .int x7)] [] σ (some (Value.int r)) σ
  refine kg_iload_n 0 dX7_settledCount_32 rfl (pc2 := 33) rfl ?_
  cases h
  exact kg_iret (ty := .int) dX7_settledCount_33 rfl rfl
def bX7_tightCount_4 (σ : kw_M) (v1 : Int32) (v2 : Int32) : Option ((Int32 × Int32) ⊕ (Int32)) :=
 if (σ.1 12 1) ≤ v2 then
 (some (.inr v1))
 else
 (fX7_isTight v2 σ).bind fun r2 =>
 if r2 = (0 : Int32) then
 (kw_let (v2 + (1 : Int32)) fun x4 =>
 some (.inl (v1, x4)))
 else
 kw_let (v1 + (1 : Int32)) fun x5 =>
 kw_let (v2 + (1 : Int32)) fun x6 =>
 some (.inl (x5, x6))
set_option maxHeartbeats 4000000 in
set_option maxRecDepth 100000 in
theorem lX7_tightCount_4 {E : kw_E} {d : Nat} (σ : kw_M) (v1 : Int32) (v2 : Int32) {v : Option Value} {σ2 : kw_M} {o : (Int32 × Int32) ⊕ (Int32)} (h : bX7_tightCount_4 σ v1 v2 = some o) (hk : Sum.elim (fun s => kw_G E kwTX 47 (d + 2) μX7_tightCount 4 [(0, .ref 1), (1, .int s.1), (2, .int s.2)] [] σ v σ2) (fun y => kw_G E kwTX 47 (d + 2) μX7_tightCount 32 [(1, .int y)] [] σ v σ2) o) : kw_G E kwTX 47 (d + 2) μX7_tightCount 4 [(0, .ref 1), (1, .int v1), (2, .int v2)] [] σ v σ2 := by
  unfold bX7_tightCount_4 at h
  refine kg_iload_n 2 dX7_tightCount_4 rfl (pc2 := 5) rfl ?_
  refine kg_aload_n 0 dX7_tightCount_5 rfl (pc2 := 6) rfl ?_
  refine kg_getr clX7 rfl 0 (Nat.le_of_ble_eq_true rfl) lfRX7_12 tX_1 eX_1 rfl dX7_tightCount_6 (pc2 := 9) rfl ?_
  refine kg_geti clX4 rfl 1 (Nat.le_of_ble_eq_true rfl) lfRX7_120 tX_12 eX_12 rfl dX7_tightCount_9 (pc2 := 12) rfl ?_
  refine kg_icmp_ge 32 dX7_tightCount_12 rfl (pc2 := 15) rfl (fun q1 => ?_) (fun q1 => ?_)
  · replace h := (if_pos q1).symm.trans h
    refine kg_sub [1] (lv2 := [(1, .int v1)]) rfl ?_
    cases h
    exact hk
  · replace h := (if_neg q1).symm.trans h
    refine kg_aload_n 0 dX7_tightCount_15 rfl (pc2 := 16) rfl ?_
    refine kg_iload_n 2 dX7_tightCount_16 rfl (pc2 := 17) rfl ?_
    obtain ⟨r2, r2h, h⟩ := kw_bind_e h
    refine kg_callV (μ := μX7_tightCount) (d := (d + 1)) rfl mVX7_isTight [.int v2] [] (gX7_isTight (E := E) (d := d) v2 σ r2h) rfl lmRX7_123 (ci := 7) rfl tX_1 eX_1 rfl (Nat.le_of_ble_eq_true rfl) dX7_tightCount_17 rfl (st2 := [.int r2]) rfl (pc2 := 20) rfl ?_
    refine kg_if_eq 26 dX7_tightCount_20 rfl (pc2 := 23) rfl (fun q3 => ?_) (fun q3 => ?_)
    · replace h := (if_pos q3).symm.trans h
      obtain ⟨x4, x4e, h⟩ := kw_let_e h
      refine kg_iinc 2 dX7_tightCount_26 rfl (Nat.le_of_ble_eq_true rfl) x4e (lv2 := [(2, .int x4), (0, .ref 1), (1, .int v1)]) rfl (pc2 := 29) rfl ?_
      refine kg_goto 4 dX7_tightCount_29 rfl ?_
      refine kg_sub [1, 2, 0] (lv2 := [(0, .ref 1), (1, .int v1), (2, .int x4)]) rfl ?_
      cases h
      exact hk
    · replace h := (if_neg q3).symm.trans h
      obtain ⟨x5, x5e, h⟩ := kw_let_e h
      refine kg_iinc 1 dX7_tightCount_23 rfl (Nat.le_of_ble_eq_true rfl) x5e (lv2 := [(1, .int x5), (0, .ref 1), (2, .int v2)]) rfl (pc2 := 26) rfl ?_
      obtain ⟨x6, x6e, h⟩ := kw_let_e h
      refine kg_iinc 2 dX7_tightCount_26 rfl (Nat.le_of_ble_eq_true rfl) x6e (lv2 := [(2, .int x6), (1, .int x5), (0, .ref 1)]) rfl (pc2 := 29) rfl ?_
      refine kg_goto 4 dX7_tightCount_29 rfl ?_
      refine kg_sub [2, 1, 0] (lv2 := [(0, .ref 1), (1, .int x5), (2, .int x6)]) rfl ?_
      cases h
      exact hk
def fX7_tightCount (σ : kw_M) : Option (Int32) :=
 (kw_loop (fun s => bX7_tightCount_4 σ s.1 s.2) kw_F ((0 : Int32), (0 : Int32))).bind fun x7 =>
 some x7
set_option maxHeartbeats 4000000 in
set_option maxRecDepth 100000 in
theorem gX7_tightCount {E : kw_E} {d : Nat} (σ : kw_M) {r : Int32} (h : fX7_tightCount σ = some r) : kw_Met E kwTX 47 (d + 2) μX7_tightCount [.ref 1] σ (some (Value.int r)) σ := by
  refine kw_enter plRX7 (Nat.le_of_ble_eq_true rfl) ?_
  show kw_G E kwTX 47 (d + 2) μX7_tightCount 0 [(0, .ref 1)] [] σ (some (Value.int r)) σ
  unfold fX7_tightCount at h
  refine kg_iconst dX7_tightCount_0 ki_0 (pc2 := 1) rfl ?_
  refine kg_istore_n dX7_tightCount_1 rfl (Nat.le_of_ble_eq_true rfl) rfl (lv2 := [(1, .int (0 : Int32)), (0, .ref 1)]) rfl (pc2 := 2) rfl ?_
  refine kg_iconst dX7_tightCount_2 ki_0 (pc2 := 3) rfl ?_
  refine kg_istore_n dX7_tightCount_3 rfl (Nat.le_of_ble_eq_true rfl) rfl (lv2 := [(2, .int (0 : Int32)), (1, .int (0 : Int32)), (0, .ref 1)]) rfl (pc2 := 4) rfl ?_
  refine kg_sub [2, 1, 0] (lv2 := [(0, .ref 1), (1, .int (0 : Int32)), (2, .int (0 : Int32))]) rfl ?_
  obtain ⟨x7, x7h, h⟩ := kw_bind_e h
  refine kw_loop_e (P := fun s => kw_G E kwTX 47 (d + 2) μX7_tightCount 4 [(0, .ref 1), (1, .int s.1), (2, .int s.2)] [] σ (some (Value.int r)) σ) (K := fun y => kw_G E kwTX 47 (d + 2) μX7_tightCount 32 [(1, .int y)] [] σ (some (Value.int r)) σ) (fun s o h0 hk => lX7_tightCount_4 σ s.1 s.2 h0 hk) kw_F _ _ x7h ?_
  show kw_G E kwTX 47 (d + 2) μX7_tightCount 32 [(1, .int x7)] [] σ (some (Value.int r)) σ
  refine kg_iload_n 0 dX7_tightCount_32 rfl (pc2 := 33) rfl ?_
  cases h
  exact kg_iret (ty := .int) dX7_tightCount_33 rfl rfl
def bX2_fillFrom_10 (v2 : Int32) (σ : kw_M) : Option ((Int32 × kw_M) ⊕ (kw_M)) :=
 if (σ.1 5 1) ≤ v2 then
 (some (.inr σ))
 else
 (fX4_settle 12 40 v2 (-1 : Int32) σ).bind fun r3 =>
 kw_chk (¬ (v2 * (12 : Int32)) < 0) <|
 kw_chk ((v2 * (12 : Int32)).toNatClampNeg + (12 : Int32).toNatClampNeg ≤ 144) <|
 kw_let (kw_rl r3 39 (va_cpy (r3.2 40) (r3.2 39) 0 (v2 * (12 : Int32)).toNatClampNeg 12)) fun s6 =>
 kw_let (v2 + (1 : Int32)) fun x7 =>
 some (.inl (x7, s6))
set_option maxHeartbeats 4000000 in
set_option maxRecDepth 100000 in
theorem lX2_fillFrom_10 {E : kw_E} {d : Nat} (v2 : Int32) (σ : kw_M) {v : Option Value} {σ2 : kw_M} {o : (Int32 × kw_M) ⊕ (kw_M)} (h : bX2_fillFrom_10 v2 σ = some o) (hk : Sum.elim (fun s => kw_G E kwTX 47 (d + 2) μX2_fillFrom 10 [(0, .ref 5), (1, .ref 12), (2, .int s.1)] [] s.2 v σ2) (fun y => kw_G E kwTX 47 (d + 2) μX2_fillFrom 52 [(0, .ref 5)] [] y v σ2) o) : kw_G E kwTX 47 (d + 2) μX2_fillFrom 10 [(0, .ref 5), (1, .ref 12), (2, .int v2)] [] σ v σ2 := by
  unfold bX2_fillFrom_10 at h
  refine kg_iload_n 2 dX2_fillFrom_10 rfl (pc2 := 11) rfl ?_
  refine kg_aload_n 0 dX2_fillFrom_11 rfl (pc2 := 12) rfl ?_
  refine kg_geti clX2 rfl 1 (Nat.le_of_ble_eq_true rfl) lfRX2_24 tX_5 eX_5 rfl dX2_fillFrom_12 (pc2 := 15) rfl ?_
  refine kg_icmp_ge 52 dX2_fillFrom_15 rfl (pc2 := 18) rfl (fun q2 => ?_) (fun q2 => ?_)
  · replace h := (if_pos q2).symm.trans h
    refine kg_sub [0] (lv2 := [(0, .ref 5)]) rfl ?_
    cases h
    exact hk
  · replace h := (if_neg q2).symm.trans h
    refine kg_aload_n 1 dX2_fillFrom_18 rfl (pc2 := 19) rfl ?_
    refine kg_iload_n 2 dX2_fillFrom_19 rfl (pc2 := 20) rfl ?_
    refine kg_iconst dX2_fillFrom_20 ki_m1 (pc2 := 21) rfl ?_
    refine kg_aload_n 0 dX2_fillFrom_21 rfl (pc2 := 22) rfl ?_
    refine kg_getr clX2 rfl 3 (Nat.le_of_ble_eq_true rfl) lfRX2_15 tX_5 eX_5 rfl dX2_fillFrom_22 (pc2 := 25) rfl ?_
    obtain ⟨r3, r3h, h⟩ := kw_bind_e h
    refine kg_callV (μ := μX2_fillFrom) (d := (d + 1)) rfl mVX4_settle [.int v2, .int (-1 : Int32), .ref 40] [] (gX4_settle (E := E) (d := d) 12 40 kx_4_12 ⟨tX_40, eX_40⟩ v2 (-1 : Int32) σ r3h) rfl lmRX2_25 (ci := 4) rfl tX_12 eX_12 rfl (Nat.le_of_ble_eq_true rfl) dX2_fillFrom_25 rfl (st2 := []) rfl (pc2 := 28) rfl ?_
    refine kg_aload_n 0 dX2_fillFrom_28 rfl (pc2 := 29) rfl ?_
    refine kg_getr clX2 rfl 3 (Nat.le_of_ble_eq_true rfl) lfRX2_15 tX_5 eX_5 rfl dX2_fillFrom_29 (pc2 := 32) rfl ?_
    refine kg_iconst dX2_fillFrom_32 ki_0 (pc2 := 33) rfl ?_
    refine kg_aload_n 0 dX2_fillFrom_33 rfl (pc2 := 34) rfl ?_
    refine kg_getr clX2 rfl 2 (Nat.le_of_ble_eq_true rfl) lfRX2_9 tX_5 eX_5 rfl dX2_fillFrom_34 (pc2 := 37) rfl ?_
    refine kg_iload_n 2 dX2_fillFrom_37 rfl (pc2 := 38) rfl ?_
    refine kg_bipush dX2_fillFrom_38 kb_12 (pc2 := 40) rfl ?_
    refine kg_imul dX2_fillFrom_40 (pc2 := 41) rfl ?_
    refine kg_bipush dX2_fillFrom_41 kb_12 (pc2 := 43) rfl ?_
    obtain ⟨q4, h⟩ := kw_chk_e h
    obtain ⟨q5, h⟩ := kw_chk_e h
    obtain ⟨s6, s6e, h⟩ := kw_let_e h
    refine kg_copyl (μ := μX2_fillFrom) (d := (d + 1)) rfl rfl cpRX2_29 tX_40 eX_40 tX_39 eX_39 (by decide) q4 (by decide) (by decide) q5 (Nat.le_of_ble_eq_true rfl) (by decide) rfl (by decide) s6e dX2_fillFrom_43 (pc2 := 46) rfl ?_
    obtain ⟨x7, x7e, h⟩ := kw_let_e h
    refine kg_iinc 2 dX2_fillFrom_46 rfl (Nat.le_of_ble_eq_true rfl) x7e (lv2 := [(2, .int x7), (0, .ref 5), (1, .ref 12)]) rfl (pc2 := 49) rfl ?_
    refine kg_goto 10 dX2_fillFrom_49 rfl ?_
    refine kg_sub [1, 2, 0] (lv2 := [(0, .ref 5), (1, .ref 12), (2, .int x7)]) rfl ?_
    cases h
    exact hk
def fX2_fillFrom (σ : kw_M) : Option (kw_M) :=
 kw_let (kw_si σ 5 1 (σ.1 12 0)) fun s1 =>
 (kw_loop (fun s => bX2_fillFrom_10 s.1 s.2) kw_F ((0 : Int32), s1)).bind fun x8 =>
 kw_let (kw_si x8 5 0 (1 : Int32)) fun s9 =>
 some s9
set_option maxHeartbeats 4000000 in
set_option maxRecDepth 100000 in
theorem gX2_fillFrom {E : kw_E} {d : Nat} (σ : kw_M) {r : kw_M} (h : fX2_fillFrom σ = some r) : kw_Met E kwTX 47 (d + 2) μX2_fillFrom [.ref 5, .ref 12] σ none r := by
  refine kw_enter plRX2 (Nat.le_of_ble_eq_true rfl) ?_
  show kw_G E kwTX 47 (d + 2) μX2_fillFrom 0 [(0, .ref 5), (1, .ref 12)] [] σ none r
  unfold fX2_fillFrom at h
  refine kg_aload_n 0 dX2_fillFrom_0 rfl (pc2 := 1) rfl ?_
  refine kg_aload_n 1 dX2_fillFrom_1 rfl (pc2 := 2) rfl ?_
  refine kg_geti clX4 rfl 0 (Nat.le_of_ble_eq_true rfl) lfRX2_18 tX_12 eX_12 rfl dX2_fillFrom_2 (pc2 := 5) rfl ?_
  obtain ⟨s1, s1e, h⟩ := kw_let_e h
  refine kg_puti clX2 rfl 1 (Nat.le_of_ble_eq_true rfl) lfRX2_24 rfl tX_5 eX_5 rfl (ty := .int) (by decide +kernel) rfl rfl s1e dX2_fillFrom_5 (pc2 := 8) rfl ?_
  refine kg_iconst dX2_fillFrom_8 ki_0 (pc2 := 9) rfl ?_
  refine kg_istore_n dX2_fillFrom_9 rfl (Nat.le_of_ble_eq_true rfl) rfl (lv2 := [(2, .int (0 : Int32)), (0, .ref 5), (1, .ref 12)]) rfl (pc2 := 10) rfl ?_
  refine kg_sub [1, 2, 0] (lv2 := [(0, .ref 5), (1, .ref 12), (2, .int (0 : Int32))]) rfl ?_
  obtain ⟨x8, x8h, h⟩ := kw_bind_e h
  refine kw_loop_e (P := fun s => kw_G E kwTX 47 (d + 2) μX2_fillFrom 10 [(0, .ref 5), (1, .ref 12), (2, .int s.1)] [] s.2 none r) (K := fun y => kw_G E kwTX 47 (d + 2) μX2_fillFrom 52 [(0, .ref 5)] [] y none r) (fun s o h0 hk => lX2_fillFrom_10 s.1 s.2 h0 hk) kw_F _ _ x8h ?_
  show kw_G E kwTX 47 (d + 2) μX2_fillFrom 52 [(0, .ref 5)] [] x8 none r
  refine kg_aload_n 0 dX2_fillFrom_52 rfl (pc2 := 53) rfl ?_
  refine kg_iconst dX2_fillFrom_53 ki_1 (pc2 := 54) rfl ?_
  obtain ⟨s9, s9e, h⟩ := kw_let_e h
  refine kg_puti clX2 rfl 0 (Nat.le_of_ble_eq_true rfl) lfRX2_35 rfl tX_5 eX_5 rfl (ty := .boolean) (by decide +kernel) rfl rfl s9e dX2_fillFrom_54 (pc2 := 57) rfl ?_
  cases h
  exact kg_vret dX2_fillFrom_57 rfl
def fX9_rightPairs (σ : kw_M) : Option (kw_M) :=
 if (σ.1 5 0) = (0 : Int32) then
 ((fX2_fillFrom σ).bind fun r2 =>
 some r2)
 else
 some σ
set_option maxHeartbeats 4000000 in
set_option maxRecDepth 100000 in
theorem gX9_rightPairs {E : kw_E} {d : Nat} (σ : kw_M) {r : kw_M} (h : fX9_rightPairs σ = some r) : kw_Met E kwTX 47 (d + 3) μX9_rightPairs [.ref 0] σ (some (.ref 5)) r := by
  refine kw_enter plRX9 (Nat.le_of_ble_eq_true rfl) ?_
  show kw_G E kwTX 47 (d + 3) μX9_rightPairs 0 [(0, .ref 0)] [] σ (some (.ref 5)) r
  unfold fX9_rightPairs at h
  refine kg_aload_n 0 dX9_rightPairs_0 rfl (pc2 := 1) rfl ?_
  refine kg_getr clX9 rfl 5 (Nat.le_of_ble_eq_true rfl) lfRX9_36 tX_0 eX_0 rfl dX9_rightPairs_1 (pc2 := 4) rfl ?_
  refine kg_geti clX2 rfl 0 (Nat.le_of_ble_eq_true rfl) lfRX9_145 tX_5 eX_5 rfl dX9_rightPairs_4 (pc2 := 7) rfl ?_
  refine kg_if_ne 24 dX9_rightPairs_7 rfl (pc2 := 10) rfl (fun q1 => ?_) (fun q1 => ?_)
  · replace h := (if_neg q1).symm.trans h
    refine kg_aload_n 0 dX9_rightPairs_24 rfl (pc2 := 25) rfl ?_
    refine kg_getr clX9 rfl 5 (Nat.le_of_ble_eq_true rfl) lfRX9_36 tX_0 eX_0 rfl dX9_rightPairs_25 (pc2 := 28) rfl ?_
    cases h
    exact kg_aret dX9_rightPairs_28 rfl (Or.inl ⟨_, rfl⟩)
  · replace h := (if_pos q1).symm.trans h
    refine kg_aload_n 0 dX9_rightPairs_10 rfl (pc2 := 11) rfl ?_
    refine kg_getr clX9 rfl 5 (Nat.le_of_ble_eq_true rfl) lfRX9_36 tX_0 eX_0 rfl dX9_rightPairs_11 (pc2 := 14) rfl ?_
    refine kg_aload_n 0 dX9_rightPairs_14 rfl (pc2 := 15) rfl ?_
    refine kg_getr clX9 rfl 0 (Nat.le_of_ble_eq_true rfl) lfRX9_10 tX_0 eX_0 rfl dX9_rightPairs_15 (pc2 := 18) rfl ?_
    refine kg_getr clX7 rfl 0 (Nat.le_of_ble_eq_true rfl) lfRX9_148 tX_1 eX_1 rfl dX9_rightPairs_18 (pc2 := 21) rfl ?_
    obtain ⟨r2, r2h, h⟩ := kw_bind_e h
    refine kg_callV (μ := μX9_rightPairs) (d := (d + 2)) rfl mVX2_fillFrom [.ref 12] [] (gX2_fillFrom (E := E) (d := d) σ r2h) rfl lmRX9_336 (ci := 2) rfl tX_5 eX_5 rfl (Nat.le_of_ble_eq_true rfl) dX9_rightPairs_21 rfl (st2 := []) rfl (pc2 := 24) rfl ?_
    refine kg_aload_n 0 dX9_rightPairs_24 rfl (pc2 := 25) rfl ?_
    refine kg_getr clX9 rfl 5 (Nat.le_of_ble_eq_true rfl) lfRX9_36 tX_0 eX_0 rfl dX9_rightPairs_25 (pc2 := 28) rfl ?_
    cases h
    exact kg_aret dX9_rightPairs_28 rfl (Or.inl ⟨_, rfl⟩)
def fX2_span (a1 : Int32) (a2 : Int32) (σ : kw_M) : Option (Int64) :=
 kw_chk (kw_in ((a1 * (12 : Int32)) + a2) 144) <|
 some (σ.2 39 ((a1 * (12 : Int32)) + a2).toNatClampNeg)
set_option maxHeartbeats 4000000 in
set_option maxRecDepth 100000 in
theorem gX2_span {E : kw_E} {d : Nat} (a1 : Int32) (a2 : Int32) (σ : kw_M) {r : Int64} (h : fX2_span a1 a2 σ = some r) : kw_Met E kwTX 47 d μX2_span [.ref 5, .int a1, .int a2] σ (some (Value.long r)) σ := by
  refine kw_enter plRX2 (Nat.le_of_ble_eq_true rfl) ?_
  show kw_G E kwTX 47 d μX2_span 0 [(0, .ref 5), (1, .int a1), (2, .int a2)] [] σ (some (Value.long r)) σ
  unfold fX2_span at h
  refine kg_aload_n 0 dX2_span_0 rfl (pc2 := 1) rfl ?_
  refine kg_getr clX2 rfl 2 (Nat.le_of_ble_eq_true rfl) lfRX2_9 tX_5 eX_5 rfl dX2_span_1 (pc2 := 4) rfl ?_
  refine kg_iload_n 1 dX2_span_4 rfl (pc2 := 5) rfl ?_
  refine kg_bipush dX2_span_5 kb_12 (pc2 := 7) rfl ?_
  refine kg_imul dX2_span_7 (pc2 := 8) rfl ?_
  refine kg_iload_n 2 dX2_span_8 rfl (pc2 := 9) rfl ?_
  refine kg_iadd dX2_span_9 (pc2 := 10) rfl ?_
  obtain ⟨q1, h⟩ := kw_chk_e h
  refine kg_lald tX_39 eX_39 q1 (j := ((a1 * (12 : Int32)) + a2).toNatClampNeg) rfl dX2_span_10 (pc2 := 11) rfl ?_
  cases h
  exact kg_lret dX2_span_11 rfl
def fX2_comesTo (a1 : Int32) (a2 : Int32) (σ : kw_M) : Option (Int32) :=
 (fX2_span a1 a2 σ).bind fun r1 =>
 if r1 = (-9000000000000000000 : Int64) then
 (some (0 : Int32))
 else
 some (1 : Int32)
set_option maxHeartbeats 4000000 in
set_option maxRecDepth 100000 in
theorem gX2_comesTo {E : kw_E} {d : Nat} (a1 : Int32) (a2 : Int32) (σ : kw_M) {r : Int32} (h : fX2_comesTo a1 a2 σ = some r) : kw_Met E kwTX 47 (d + 1) μX2_comesTo [.ref 5, .int a1, .int a2] σ (some (Value.int r)) σ := by
  refine kw_enter plRX2 (Nat.le_of_ble_eq_true rfl) ?_
  show kw_G E kwTX 47 (d + 1) μX2_comesTo 0 [(0, .ref 5), (1, .int a1), (2, .int a2)] [] σ (some (Value.int r)) σ
  unfold fX2_comesTo at h
  refine kg_aload_n 0 dX2_comesTo_0 rfl (pc2 := 1) rfl ?_
  refine kg_iload_n 1 dX2_comesTo_1 rfl (pc2 := 2) rfl ?_
  refine kg_iload_n 2 dX2_comesTo_2 rfl (pc2 := 3) rfl ?_
  obtain ⟨r1, r1h, h⟩ := kw_bind_e h
  refine kg_callV (μ := μX2_comesTo) (d := d) rfl mVX2_span [.int a1, .int a2] [] (gX2_span (E := E) (d := d) a1 a2 σ r1h) rfl lmRX2_39 (ci := 2) rfl tX_5 eX_5 rfl (Nat.le_of_ble_eq_true rfl) dX2_comesTo_3 rfl (st2 := [.long r1]) rfl (pc2 := 6) rfl ?_
  refine kg_ldc2 rfl lcRX2_43 dX2_comesTo_6 (pc2 := 9) rfl ?_
  refine kg_lcmp_eq 17 dX2_comesTo_9 dX2_comesTo_10 rfl (pc2 := 13) rfl (fun q2 => ?_) (fun q2 => ?_)
  · replace h := (if_pos q2).symm.trans h
    refine kg_iconst dX2_comesTo_17 ki_0 (pc2 := 18) rfl ?_
    cases h
    exact kg_iret (ty := .boolean) dX2_comesTo_18 rfl rfl
  · replace h := (if_neg q2).symm.trans h
    refine kg_iconst dX2_comesTo_13 ki_1 (pc2 := 14) rfl ?_
    refine kg_goto 18 dX2_comesTo_14 rfl ?_
    cases h
    exact kg_iret (ty := .boolean) dX2_comesTo_18 rfl rfl
def bX2_comesToAll_2 (v1 : Int32) (σ : kw_M) (v2 : Int32) : Option ((Int32) ⊕ ((Int32) ⊕ (Unit))) :=
 if (σ.1 5 1) ≤ v2 then
 (some (.inr (.inr ())))
 else
 (fX2_comesTo v1 v2 σ).bind fun r2 =>
 if r2 = (0 : Int32) then
 (some (.inr (.inl (0 : Int32))))
 else
 kw_let (v2 + (1 : Int32)) fun x4 =>
 some (.inl x4)
set_option maxHeartbeats 4000000 in
set_option maxRecDepth 100000 in
theorem lX2_comesToAll_2 {E : kw_E} {d : Nat} (v1 : Int32) (σ : kw_M) (v2 : Int32) {v : Option Value} {σ2 : kw_M} {o : (Int32) ⊕ ((Int32) ⊕ (Unit))} (h : bX2_comesToAll_2 v1 σ v2 = some o) (hk : Sum.elim (fun s => kw_G E kwTX 47 (d + 2) μX2_comesToAll 2 [(0, .ref 5), (1, .int v1), (2, .int s)] [] σ v σ2) (Sum.elim (fun rr => v = some (Value.int rr) ∧ σ2 = σ) (fun y => kw_G E kwTX 47 (d + 2) μX2_comesToAll 27 [] [] σ v σ2)) o) : kw_G E kwTX 47 (d + 2) μX2_comesToAll 2 [(0, .ref 5), (1, .int v1), (2, .int v2)] [] σ v σ2 := by
  unfold bX2_comesToAll_2 at h
  refine kg_iload_n 2 dX2_comesToAll_2 rfl (pc2 := 3) rfl ?_
  refine kg_aload_n 0 dX2_comesToAll_3 rfl (pc2 := 4) rfl ?_
  refine kg_geti clX2 rfl 1 (Nat.le_of_ble_eq_true rfl) lfRX2_24 tX_5 eX_5 rfl dX2_comesToAll_4 (pc2 := 7) rfl ?_
  refine kg_icmp_ge 27 dX2_comesToAll_7 rfl (pc2 := 10) rfl (fun q1 => ?_) (fun q1 => ?_)
  · replace h := (if_pos q1).symm.trans h
    refine kg_sub [] (lv2 := []) rfl ?_
    cases h
    exact hk
  · replace h := (if_neg q1).symm.trans h
    refine kg_aload_n 0 dX2_comesToAll_10 rfl (pc2 := 11) rfl ?_
    refine kg_iload_n 1 dX2_comesToAll_11 rfl (pc2 := 12) rfl ?_
    refine kg_iload_n 2 dX2_comesToAll_12 rfl (pc2 := 13) rfl ?_
    obtain ⟨r2, r2h, h⟩ := kw_bind_e h
    refine kg_callV (μ := μX2_comesToAll) (d := (d + 1)) rfl mVX2_comesTo [.int v1, .int v2] [] (gX2_comesTo (E := E) (d := d) v1 v2 σ r2h) rfl lmRX2_45 (ci := 2) rfl tX_5 eX_5 rfl (Nat.le_of_ble_eq_true rfl) dX2_comesToAll_13 rfl (st2 := [.int r2]) rfl (pc2 := 16) rfl ?_
    refine kg_if_ne 21 dX2_comesToAll_16 rfl (pc2 := 19) rfl (fun q3 => ?_) (fun q3 => ?_)
    · replace h := (if_neg q3).symm.trans h
      obtain ⟨x4, x4e, h⟩ := kw_let_e h
      refine kg_iinc 2 dX2_comesToAll_21 rfl (Nat.le_of_ble_eq_true rfl) x4e (lv2 := [(2, .int x4), (0, .ref 5), (1, .int v1)]) rfl (pc2 := 24) rfl ?_
      refine kg_goto 2 dX2_comesToAll_24 rfl ?_
      refine kg_sub [1, 2, 0] (lv2 := [(0, .ref 5), (1, .int v1), (2, .int x4)]) rfl ?_
      cases h
      exact hk
    · replace h := (if_pos q3).symm.trans h
      refine kg_iconst dX2_comesToAll_19 ki_0 (pc2 := 20) rfl ?_
      cases h
      obtain ⟨rfl, rfl⟩ := hk
      exact kg_iret (ty := .boolean) dX2_comesToAll_20 rfl rfl
def fX2_comesToAll (a1 : Int32) (σ : kw_M) : Option (Int32) :=
 (kw_loop (fun s => bX2_comesToAll_2 a1 σ s) kw_F (0 : Int32)).bind fun x5 =>
 Sum.elim (fun x5r => some x5r) (fun x5 =>
 some (1 : Int32)) x5
set_option maxHeartbeats 4000000 in
set_option maxRecDepth 100000 in
theorem gX2_comesToAll {E : kw_E} {d : Nat} (a1 : Int32) (σ : kw_M) {r : Int32} (h : fX2_comesToAll a1 σ = some r) : kw_Met E kwTX 47 (d + 2) μX2_comesToAll [.ref 5, .int a1] σ (some (Value.int r)) σ := by
  refine kw_enter plRX2 (Nat.le_of_ble_eq_true rfl) ?_
  show kw_G E kwTX 47 (d + 2) μX2_comesToAll 0 [(0, .ref 5), (1, .int a1)] [] σ (some (Value.int r)) σ
  unfold fX2_comesToAll at h
  refine kg_iconst dX2_comesToAll_0 ki_0 (pc2 := 1) rfl ?_
  refine kg_istore_n dX2_comesToAll_1 rfl (Nat.le_of_ble_eq_true rfl) rfl (lv2 := [(2, .int (0 : Int32)), (0, .ref 5), (1, .int a1)]) rfl (pc2 := 2) rfl ?_
  refine kg_sub [1, 2, 0] (lv2 := [(0, .ref 5), (1, .int a1), (2, .int (0 : Int32))]) rfl ?_
  obtain ⟨x5, x5h, h⟩ := kw_bind_e h
  refine kw_loop_e (P := fun s => kw_G E kwTX 47 (d + 2) μX2_comesToAll 2 [(0, .ref 5), (1, .int a1), (2, .int s)] [] σ (some (Value.int r)) σ) (K := Sum.elim (fun rr => (some (Value.int r)) = some (Value.int rr) ∧ σ = σ) (fun y => kw_G E kwTX 47 (d + 2) μX2_comesToAll 27 [] [] σ (some (Value.int r)) σ)) (fun s o h0 hk => lX2_comesToAll_2 a1 σ s h0 hk) kw_F _ _ x5h ?_
  rcases x5 with x5r | x5
  · replace h := kw_se_l h
    cases h
    exact ⟨rfl, rfl⟩
  · replace h := kw_se_r h
    show kw_G E kwTX 47 (d + 2) μX2_comesToAll 27 [] [] σ (some (Value.int r)) σ
    refine kg_iconst dX2_comesToAll_27 ki_1 (pc2 := 28) rfl ?_
    cases h
    exact kg_iret (ty := .boolean) dX2_comesToAll_28 rfl rfl
def jX2_reachOf_52_L7 (v1 : Int32) (v4 : Int32) (σ : kw_M) : Option ((Int64 × Int32) ⊕ (Int64)) :=
 (fX2_span v1 v4 σ).bind fun r8 =>
 kw_let (v4 + (1 : Int32)) fun x9 =>
 some (.inl (r8, x9))
set_option maxHeartbeats 4000000 in
set_option maxRecDepth 100000 in
theorem gjX2_reachOf_52_L7 {E : kw_E} {d : Nat} (v1 : Int32) (v4 : Int32) (σ : kw_M) {v : Option Value} {σ2 : kw_M} {o : (Int64 × Int32) ⊕ (Int64)} (h : jX2_reachOf_52_L7 v1 v4 σ = some o) (hk : Sum.elim (fun s => kw_G E kwTX 47 (d + 2) μX2_reachOf 7 [(0, .ref 5), (1, .int v1), (2, .long s.1), (4, .int s.2)] [] σ v σ2) (fun y => kw_G E kwTX 47 (d + 2) μX2_reachOf 66 [(2, .long y)] [] σ v σ2) o) : kw_G E kwTX 47 (d + 2) μX2_reachOf 52 [(0, .ref 5), (1, .int v1), (4, .int v4)] [] σ v σ2 := by
  unfold jX2_reachOf_52_L7 at h
  refine kg_aload_n 0 dX2_reachOf_52 rfl (pc2 := 53) rfl ?_
  refine kg_iload_n 1 dX2_reachOf_53 rfl (pc2 := 54) rfl ?_
  refine kg_iload 2 dX2_reachOf_54 rfl (pc2 := 56) rfl ?_
  obtain ⟨r8, r8h, h⟩ := kw_bind_e h
  refine kg_callV (μ := μX2_reachOf) (d := (d + 1)) rfl mVX2_span [.int v1, .int v4] [] (gX2_span (E := E) (d := (d + 1)) v1 v4 σ r8h) rfl lmRX2_39 (ci := 2) rfl tX_5 eX_5 rfl (Nat.le_of_ble_eq_true rfl) dX2_reachOf_56 rfl (st2 := [.long r8]) rfl (pc2 := 59) rfl ?_
  refine kg_lstore_n dX2_reachOf_59 rfl (Nat.le_of_ble_eq_true rfl) rfl (lv2 := [(2, .long r8), (0, .ref 5), (1, .int v1), (4, .int v4)]) rfl (pc2 := 60) rfl ?_
  obtain ⟨x9, x9e, h⟩ := kw_let_e h
  refine kg_iinc 3 dX2_reachOf_60 rfl (Nat.le_of_ble_eq_true rfl) x9e (lv2 := [(4, .int x9), (2, .long r8), (0, .ref 5), (1, .int v1)]) rfl (pc2 := 63) rfl ?_
  refine kg_goto 7 dX2_reachOf_63 rfl ?_
  refine kg_sub [2, 3, 1, 0] (lv2 := [(0, .ref 5), (1, .int v1), (2, .long r8), (4, .int x9)]) rfl ?_
  cases h
  exact hk
def bX2_reachOf_7 (v1 : Int32) (σ : kw_M) (v2 : Int64) (v4 : Int32) : Option ((Int64 × Int32) ⊕ (Int64)) :=
 if (σ.1 5 1) ≤ v4 then
 (some (.inr v2))
 else
 if v4 = v1 then
 (kw_let (v4 + (1 : Int32)) fun x3 =>
 some (.inl (v2, x3)))
 else
 (fX2_comesTo v1 v4 σ).bind fun r4 =>
 if r4 = (0 : Int32) then
 (kw_let (v4 + (1 : Int32)) fun x6 =>
 some (.inl (v2, x6)))
 else
 if v2 = (-9000000000000000000 : Int64) then
 (jX2_reachOf_52_L7 v1 v4 σ)
 else
 (fX2_span v1 v4 σ).bind fun r10 =>
 if r10 ≤ v2 then
 (kw_let (v4 + (1 : Int32)) fun x12 =>
 some (.inl (v2, x12)))
 else
 jX2_reachOf_52_L7 v1 v4 σ
set_option maxHeartbeats 4000000 in
set_option maxRecDepth 100000 in
theorem lX2_reachOf_7 {E : kw_E} {d : Nat} (v1 : Int32) (σ : kw_M) (v2 : Int64) (v4 : Int32) {v : Option Value} {σ2 : kw_M} {o : (Int64 × Int32) ⊕ (Int64)} (h : bX2_reachOf_7 v1 σ v2 v4 = some o) (hk : Sum.elim (fun s => kw_G E kwTX 47 (d + 2) μX2_reachOf 7 [(0, .ref 5), (1, .int v1), (2, .long s.1), (4, .int s.2)] [] σ v σ2) (fun y => kw_G E kwTX 47 (d + 2) μX2_reachOf 66 [(2, .long y)] [] σ v σ2) o) : kw_G E kwTX 47 (d + 2) μX2_reachOf 7 [(0, .ref 5), (1, .int v1), (2, .long v2), (4, .int v4)] [] σ v σ2 := by
  unfold bX2_reachOf_7 at h
  refine kg_iload 3 dX2_reachOf_7 rfl (pc2 := 9) rfl ?_
  refine kg_aload_n 0 dX2_reachOf_9 rfl (pc2 := 10) rfl ?_
  refine kg_geti clX2 rfl 1 (Nat.le_of_ble_eq_true rfl) lfRX2_24 tX_5 eX_5 rfl dX2_reachOf_10 (pc2 := 13) rfl ?_
  refine kg_icmp_ge 66 dX2_reachOf_13 rfl (pc2 := 16) rfl (fun q1 => ?_) (fun q1 => ?_)
  · replace h := (if_pos q1).symm.trans h
    refine kg_sub [2] (lv2 := [(2, .long v2)]) rfl ?_
    cases h
    exact hk
  · replace h := (if_neg q1).symm.trans h
    refine kg_iload 3 dX2_reachOf_16 rfl (pc2 := 18) rfl ?_
    refine kg_iload_n 1 dX2_reachOf_18 rfl (pc2 := 19) rfl ?_
    refine kg_icmp_eq 60 dX2_reachOf_19 rfl (pc2 := 22) rfl (fun q2 => ?_) (fun q2 => ?_)
    · replace h := (if_pos q2).symm.trans h
      obtain ⟨x3, x3e, h⟩ := kw_let_e h
      refine kg_iinc 3 dX2_reachOf_60 rfl (Nat.le_of_ble_eq_true rfl) x3e (lv2 := [(4, .int x3), (0, .ref 5), (1, .int v1), (2, .long v2)]) rfl (pc2 := 63) rfl ?_
      refine kg_goto 7 dX2_reachOf_63 rfl ?_
      refine kg_sub [1, 2, 3, 0] (lv2 := [(0, .ref 5), (1, .int v1), (2, .long v2), (4, .int x3)]) rfl ?_
      cases h
      exact hk
    · replace h := (if_neg q2).symm.trans h
      refine kg_aload_n 0 dX2_reachOf_22 rfl (pc2 := 23) rfl ?_
      refine kg_iload_n 1 dX2_reachOf_23 rfl (pc2 := 24) rfl ?_
      refine kg_iload 3 dX2_reachOf_24 rfl (pc2 := 26) rfl ?_
      obtain ⟨r4, r4h, h⟩ := kw_bind_e h
      refine kg_callV (μ := μX2_reachOf) (d := (d + 1)) rfl mVX2_comesTo [.int v1, .int v4] [] (gX2_comesTo (E := E) (d := d) v1 v4 σ r4h) rfl lmRX2_45 (ci := 2) rfl tX_5 eX_5 rfl (Nat.le_of_ble_eq_true rfl) dX2_reachOf_26 rfl (st2 := [.int r4]) rfl (pc2 := 29) rfl ?_
      refine kg_if_eq 60 dX2_reachOf_29 rfl (pc2 := 32) rfl (fun q5 => ?_) (fun q5 => ?_)
      · replace h := (if_pos q5).symm.trans h
        obtain ⟨x6, x6e, h⟩ := kw_let_e h
        refine kg_iinc 3 dX2_reachOf_60 rfl (Nat.le_of_ble_eq_true rfl) x6e (lv2 := [(4, .int x6), (0, .ref 5), (1, .int v1), (2, .long v2)]) rfl (pc2 := 63) rfl ?_
        refine kg_goto 7 dX2_reachOf_63 rfl ?_
        refine kg_sub [1, 2, 3, 0] (lv2 := [(0, .ref 5), (1, .int v1), (2, .long v2), (4, .int x6)]) rfl ?_
        cases h
        exact hk
      · replace h := (if_neg q5).symm.trans h
        refine kg_lload_n 2 dX2_reachOf_32 rfl (pc2 := 33) rfl ?_
        refine kg_ldc2 rfl lcRX2_43 dX2_reachOf_33 (pc2 := 36) rfl ?_
        refine kg_lcmp_eq 52 dX2_reachOf_36 dX2_reachOf_37 rfl (pc2 := 40) rfl (fun q7 => ?_) (fun q7 => ?_)
        · replace h := (if_pos q7).symm.trans h
          refine kg_sub [0, 1, 3] (lv2 := [(0, .ref 5), (1, .int v1), (4, .int v4)]) rfl ?_
          exact gjX2_reachOf_52_L7 v1 v4 σ h hk
        · replace h := (if_neg q7).symm.trans h
          refine kg_aload_n 0 dX2_reachOf_40 rfl (pc2 := 41) rfl ?_
          refine kg_iload_n 1 dX2_reachOf_41 rfl (pc2 := 42) rfl ?_
          refine kg_iload 3 dX2_reachOf_42 rfl (pc2 := 44) rfl ?_
          obtain ⟨r10, r10h, h⟩ := kw_bind_e h
          refine kg_callV (μ := μX2_reachOf) (d := (d + 1)) rfl mVX2_span [.int v1, .int v4] [] (gX2_span (E := E) (d := (d + 1)) v1 v4 σ r10h) rfl lmRX2_39 (ci := 2) rfl tX_5 eX_5 rfl (Nat.le_of_ble_eq_true rfl) dX2_reachOf_44 rfl (st2 := [.long r10]) rfl (pc2 := 47) rfl ?_
          refine kg_lload_n 2 dX2_reachOf_47 rfl (pc2 := 48) rfl ?_
          refine kg_lcmp_le 60 dX2_reachOf_48 dX2_reachOf_49 rfl (pc2 := 52) rfl (fun q11 => ?_) (fun q11 => ?_)
          · replace h := (if_pos q11).symm.trans h
            obtain ⟨x12, x12e, h⟩ := kw_let_e h
            refine kg_iinc 3 dX2_reachOf_60 rfl (Nat.le_of_ble_eq_true rfl) x12e (lv2 := [(4, .int x12), (0, .ref 5), (1, .int v1), (2, .long v2)]) rfl (pc2 := 63) rfl ?_
            refine kg_goto 7 dX2_reachOf_63 rfl ?_
            refine kg_sub [1, 2, 3, 0] (lv2 := [(0, .ref 5), (1, .int v1), (2, .long v2), (4, .int x12)]) rfl ?_
            cases h
            exact hk
          · replace h := (if_neg q11).symm.trans h
            refine kg_sub [0, 1, 3] (lv2 := [(0, .ref 5), (1, .int v1), (4, .int v4)]) rfl ?_
            exact gjX2_reachOf_52_L7 v1 v4 σ h hk
def fX2_reachOf (a1 : Int32) (σ : kw_M) : Option (Int64) :=
 (kw_loop (fun s => bX2_reachOf_7 a1 σ s.1 s.2) kw_F ((-9000000000000000000 : Int64), (0 : Int32))).bind fun x13 =>
 some x13
set_option maxHeartbeats 4000000 in
set_option maxRecDepth 100000 in
theorem gX2_reachOf {E : kw_E} {d : Nat} (a1 : Int32) (σ : kw_M) {r : Int64} (h : fX2_reachOf a1 σ = some r) : kw_Met E kwTX 47 (d + 2) μX2_reachOf [.ref 5, .int a1] σ (some (Value.long r)) σ := by
  refine kw_enter plRX2 (Nat.le_of_ble_eq_true rfl) ?_
  show kw_G E kwTX 47 (d + 2) μX2_reachOf 0 [(0, .ref 5), (1, .int a1)] [] σ (some (Value.long r)) σ
  unfold fX2_reachOf at h
  refine kg_ldc2 rfl lcRX2_43 dX2_reachOf_0 (pc2 := 3) rfl ?_
  refine kg_lstore_n dX2_reachOf_3 rfl (Nat.le_of_ble_eq_true rfl) rfl (lv2 := [(2, .long (-9000000000000000000 : Int64)), (0, .ref 5), (1, .int a1)]) rfl (pc2 := 4) rfl ?_
  refine kg_iconst dX2_reachOf_4 ki_0 (pc2 := 5) rfl ?_
  refine kg_istore dX2_reachOf_5 (Nat.le_of_ble_eq_true rfl) rfl (lv2 := [(4, .int (0 : Int32)), (2, .long (-9000000000000000000 : Int64)), (0, .ref 5), (1, .int a1)]) rfl (pc2 := 7) rfl ?_
  refine kg_sub [2, 3, 1, 0] (lv2 := [(0, .ref 5), (1, .int a1), (2, .long (-9000000000000000000 : Int64)), (4, .int (0 : Int32))]) rfl ?_
  obtain ⟨x13, x13h, h⟩ := kw_bind_e h
  refine kw_loop_e (P := fun s => kw_G E kwTX 47 (d + 2) μX2_reachOf 7 [(0, .ref 5), (1, .int a1), (2, .long s.1), (4, .int s.2)] [] σ (some (Value.long r)) σ) (K := fun y => kw_G E kwTX 47 (d + 2) μX2_reachOf 66 [(2, .long y)] [] σ (some (Value.long r)) σ) (fun s o h0 hk => lX2_reachOf_7 a1 σ s.1 s.2 h0 hk) kw_F _ _ x13h ?_
  show kw_G E kwTX 47 (d + 2) μX2_reachOf 66 [(2, .long x13)] [] σ (some (Value.long r)) σ
  refine kg_lload_n 0 dX2_reachOf_66 rfl (pc2 := 67) rfl ?_
  cases h
  exact kg_lret dX2_reachOf_67 rfl
def bX2_middleTown_10 (σ : kw_M) (v1 : Int32) (v2 : Int64) (v4 : Int32) : Option ((Int32 × Int64 × Int32) ⊕ (Int32)) :=
 if (σ.1 5 1) ≤ v4 then
 (some (.inr v1))
 else
 (fX2_comesToAll v4 σ).bind fun r2 =>
 if r2 = (0 : Int32) then
 (kw_let (v4 + (1 : Int32)) fun x4 =>
 some (.inl (v1, v2, x4)))
 else
 (fX2_reachOf v4 σ).bind fun r5 =>
 (fX9_isLess r5 v2 σ).bind fun r6 =>
 if r6 = (0 : Int32) then
 (kw_let (v4 + (1 : Int32)) fun x8 =>
 some (.inl (v1, v2, x8)))
 else
 (fX2_reachOf v4 σ).bind fun r9 =>
 kw_let (v4 + (1 : Int32)) fun x10 =>
 some (.inl (v4, r9, x10))
set_option maxHeartbeats 4000000 in
set_option maxRecDepth 100000 in
theorem lX2_middleTown_10 {E : kw_E} {d : Nat} (σ : kw_M) (v1 : Int32) (v2 : Int64) (v4 : Int32) {v : Option Value} {σ2 : kw_M} {o : (Int32 × Int64 × Int32) ⊕ (Int32)} (h : bX2_middleTown_10 σ v1 v2 v4 = some o) (hk : Sum.elim (fun s => kw_G E kwTX 47 (d + 3) μX2_middleTown 10 [(0, .ref 5), (1, .int s.1), (2, .long s.2.1), (4, .int s.2.2)] [] σ v σ2) (fun y => kw_G E kwTX 47 (d + 3) μX2_middleTown 57 [(1, .int y)] [] σ v σ2) o) : kw_G E kwTX 47 (d + 3) μX2_middleTown 10 [(0, .ref 5), (1, .int v1), (2, .long v2), (4, .int v4)] [] σ v σ2 := by
  unfold bX2_middleTown_10 at h
  refine kg_iload 3 dX2_middleTown_10 rfl (pc2 := 12) rfl ?_
  refine kg_aload_n 0 dX2_middleTown_12 rfl (pc2 := 13) rfl ?_
  refine kg_geti clX2 rfl 1 (Nat.le_of_ble_eq_true rfl) lfRX2_24 tX_5 eX_5 rfl dX2_middleTown_13 (pc2 := 16) rfl ?_
  refine kg_icmp_ge 57 dX2_middleTown_16 rfl (pc2 := 19) rfl (fun q1 => ?_) (fun q1 => ?_)
  · replace h := (if_pos q1).symm.trans h
    refine kg_sub [1] (lv2 := [(1, .int v1)]) rfl ?_
    cases h
    exact hk
  · replace h := (if_neg q1).symm.trans h
    refine kg_aload_n 0 dX2_middleTown_19 rfl (pc2 := 20) rfl ?_
    refine kg_iload 3 dX2_middleTown_20 rfl (pc2 := 22) rfl ?_
    obtain ⟨r2, r2h, h⟩ := kw_bind_e h
    refine kg_callV (μ := μX2_middleTown) (d := (d + 2)) rfl mVX2_comesToAll [.int v4] [] (gX2_comesToAll (E := E) (d := d) v4 σ r2h) rfl lmRX2_49 (ci := 2) rfl tX_5 eX_5 rfl (Nat.le_of_ble_eq_true rfl) dX2_middleTown_22 rfl (st2 := [.int r2]) rfl (pc2 := 25) rfl ?_
    refine kg_if_eq 51 dX2_middleTown_25 rfl (pc2 := 28) rfl (fun q3 => ?_) (fun q3 => ?_)
    · replace h := (if_pos q3).symm.trans h
      obtain ⟨x4, x4e, h⟩ := kw_let_e h
      refine kg_iinc 3 dX2_middleTown_51 rfl (Nat.le_of_ble_eq_true rfl) x4e (lv2 := [(4, .int x4), (0, .ref 5), (1, .int v1), (2, .long v2)]) rfl (pc2 := 54) rfl ?_
      refine kg_goto 10 dX2_middleTown_54 rfl ?_
      refine kg_sub [1, 2, 3, 0] (lv2 := [(0, .ref 5), (1, .int v1), (2, .long v2), (4, .int x4)]) rfl ?_
      cases h
      exact hk
    · replace h := (if_neg q3).symm.trans h
      refine kg_aload_n 0 dX2_middleTown_28 rfl (pc2 := 29) rfl ?_
      refine kg_iload 3 dX2_middleTown_29 rfl (pc2 := 31) rfl ?_
      obtain ⟨r5, r5h, h⟩ := kw_bind_e h
      refine kg_callV (μ := μX2_middleTown) (d := (d + 2)) rfl mVX2_reachOf [.int v4] [] (gX2_reachOf (E := E) (d := d) v4 σ r5h) rfl lmRX2_53 (ci := 2) rfl tX_5 eX_5 rfl (Nat.le_of_ble_eq_true rfl) dX2_middleTown_31 rfl (st2 := [.long r5]) rfl (pc2 := 34) rfl ?_
      refine kg_lload_n 2 dX2_middleTown_34 rfl (pc2 := 35) rfl ?_
      obtain ⟨r6, r6h, h⟩ := kw_bind_e h
      refine kg_callN (μ := μX2_middleTown) (d := (d + 2)) rfl mSX9_isLess [.long r5, .long v2] [] (gX9_isLess (E := E) (d := (d + 2)) r5 v2 σ r6h) rfl lnRX2_57 rfl (Nat.le_of_ble_eq_true rfl) dX2_middleTown_35 rfl (st2 := [.int r6]) rfl (pc2 := 38) rfl ?_
      refine kg_if_eq 51 dX2_middleTown_38 rfl (pc2 := 41) rfl (fun q7 => ?_) (fun q7 => ?_)
      · replace h := (if_pos q7).symm.trans h
        obtain ⟨x8, x8e, h⟩ := kw_let_e h
        refine kg_iinc 3 dX2_middleTown_51 rfl (Nat.le_of_ble_eq_true rfl) x8e (lv2 := [(4, .int x8), (0, .ref 5), (1, .int v1), (2, .long v2)]) rfl (pc2 := 54) rfl ?_
        refine kg_goto 10 dX2_middleTown_54 rfl ?_
        refine kg_sub [1, 2, 3, 0] (lv2 := [(0, .ref 5), (1, .int v1), (2, .long v2), (4, .int x8)]) rfl ?_
        cases h
        exact hk
      · replace h := (if_neg q7).symm.trans h
        refine kg_iload 3 dX2_middleTown_41 rfl (pc2 := 43) rfl ?_
        refine kg_istore_n dX2_middleTown_43 rfl (Nat.le_of_ble_eq_true rfl) rfl (lv2 := [(1, .int v4), (0, .ref 5), (2, .long v2), (4, .int v4)]) rfl (pc2 := 44) rfl ?_
        refine kg_aload_n 1 dX2_middleTown_44 rfl (pc2 := 45) rfl ?_
        refine kg_iload 3 dX2_middleTown_45 rfl (pc2 := 47) rfl ?_
        obtain ⟨r9, r9h, h⟩ := kw_bind_e h
        refine kg_callV (μ := μX2_middleTown) (d := (d + 2)) rfl mVX2_reachOf [.int v4] [] (gX2_reachOf (E := E) (d := d) v4 σ r9h) rfl lmRX2_53 (ci := 2) rfl tX_5 eX_5 rfl (Nat.le_of_ble_eq_true rfl) dX2_middleTown_47 rfl (st2 := [.long r9]) rfl (pc2 := 50) rfl ?_
        refine kg_lstore_n dX2_middleTown_50 rfl (Nat.le_of_ble_eq_true rfl) rfl (lv2 := [(2, .long r9), (1, .int v4), (0, .ref 5), (4, .int v4)]) rfl (pc2 := 51) rfl ?_
        obtain ⟨x10, x10e, h⟩ := kw_let_e h
        refine kg_iinc 3 dX2_middleTown_51 rfl (Nat.le_of_ble_eq_true rfl) x10e (lv2 := [(4, .int x10), (2, .long r9), (1, .int v4), (0, .ref 5)]) rfl (pc2 := 54) rfl ?_
        refine kg_goto 10 dX2_middleTown_54 rfl ?_
        refine kg_sub [3, 2, 1, 0] (lv2 := [(0, .ref 5), (1, .int v4), (2, .long r9), (4, .int x10)]) rfl ?_
        cases h
        exact hk
def fX2_middleTown (σ : kw_M) : Option (Int32) :=
 (kw_loop (fun s => bX2_middleTown_10 σ s.1 s.2.1 s.2.2) kw_F ((-2 : Int32), (-9000000000000000000 : Int64), (0 : Int32))).bind fun x11 =>
 some x11
set_option maxHeartbeats 4000000 in
set_option maxRecDepth 100000 in
theorem gX2_middleTown {E : kw_E} {d : Nat} (σ : kw_M) {r : Int32} (h : fX2_middleTown σ = some r) : kw_Met E kwTX 47 (d + 3) μX2_middleTown [.ref 5] σ (some (Value.int r)) σ := by
  refine kw_enter plRX2 (Nat.le_of_ble_eq_true rfl) ?_
  show kw_G E kwTX 47 (d + 3) μX2_middleTown 0 [(0, .ref 5)] [] σ (some (Value.int r)) σ
  unfold fX2_middleTown at h
  refine kg_bipush dX2_middleTown_0 kb_m2 (pc2 := 2) rfl ?_
  refine kg_istore_n dX2_middleTown_2 rfl (Nat.le_of_ble_eq_true rfl) rfl (lv2 := [(1, .int (-2 : Int32)), (0, .ref 5)]) rfl (pc2 := 3) rfl ?_
  refine kg_ldc2 rfl lcRX2_43 dX2_middleTown_3 (pc2 := 6) rfl ?_
  refine kg_lstore_n dX2_middleTown_6 rfl (Nat.le_of_ble_eq_true rfl) rfl (lv2 := [(2, .long (-9000000000000000000 : Int64)), (1, .int (-2 : Int32)), (0, .ref 5)]) rfl (pc2 := 7) rfl ?_
  refine kg_iconst dX2_middleTown_7 ki_0 (pc2 := 8) rfl ?_
  refine kg_istore dX2_middleTown_8 (Nat.le_of_ble_eq_true rfl) rfl (lv2 := [(4, .int (0 : Int32)), (2, .long (-9000000000000000000 : Int64)), (1, .int (-2 : Int32)), (0, .ref 5)]) rfl (pc2 := 10) rfl ?_
  refine kg_sub [3, 2, 1, 0] (lv2 := [(0, .ref 5), (1, .int (-2 : Int32)), (2, .long (-9000000000000000000 : Int64)), (4, .int (0 : Int32))]) rfl ?_
  obtain ⟨x11, x11h, h⟩ := kw_bind_e h
  refine kw_loop_e (P := fun s => kw_G E kwTX 47 (d + 3) μX2_middleTown 10 [(0, .ref 5), (1, .int s.1), (2, .long s.2.1), (4, .int s.2.2)] [] σ (some (Value.int r)) σ) (K := fun y => kw_G E kwTX 47 (d + 3) μX2_middleTown 57 [(1, .int y)] [] σ (some (Value.int r)) σ) (fun s o h0 hk => lX2_middleTown_10 σ s.1 s.2.1 s.2.2 h0 hk) kw_F _ _ x11h ?_
  show kw_G E kwTX 47 (d + 3) μX2_middleTown 57 [(1, .int x11)] [] σ (some (Value.int r)) σ
  refine kg_iload_n 0 dX2_middleTown_57 rfl (pc2 := 58) rfl ?_
  cases h
  exact kg_iret (ty := .int) dX2_middleTown_58 rfl rfl
def fX9_count (a1 : Int32) (σ : kw_M) : Option (Int32 × kw_M) :=
 if a1 = (0 : Int32) then
 (some ((σ.1 12 0), σ))
 else
 if a1 = (1 : Int32) then
 (some ((σ.1 12 1), σ))
 else
 if a1 = (2 : Int32) then
 ((fXJ13_bitCount_95d88 (σ.2 12 2) σ).bind fun r4 =>
 some (r4, σ))
 else
 if a1 = (3 : Int32) then
 (some ((σ.1 1 2), σ))
 else
 if a1 = (4 : Int32) then
 (some ((σ.1 1 7), σ))
 else
 if a1 = (5 : Int32) then
 (some ((σ.1 1 3), σ))
 else
 if a1 = (6 : Int32) then
 ((fX7_settledCount σ).bind fun r9 =>
 some (r9, σ))
 else
 if a1 = (7 : Int32) then
 ((fX7_tightCount σ).bind fun r11 =>
 some (r11, σ))
 else
 if a1 = (8 : Int32) then
 (some ((σ.1 13 0), σ))
 else
 if a1 = (9 : Int32) then
 (some ((σ.1 1 5), σ))
 else
 if a1 = (10 : Int32) then
 ((fX7_beyondBits σ).bind fun r15 =>
 some (r15, σ))
 else
 if a1 = (11 : Int32) then
 ((fX9_rightPairs σ).bind fun r17 =>
 (fX2_middleTown r17).bind fun r18 =>
 some (r18, r17))
 else
 if a1 = (12 : Int32) then
 (some ((σ.1 3 0), σ))
 else
 if a1 = (13 : Int32) then
 (some ((σ.1 1 4), σ))
 else
 some ((-1 : Int32), σ)
set_option maxHeartbeats 4000000 in
set_option maxRecDepth 100000 in
theorem gX9_count {E : kw_E} {d : Nat} (a1 : Int32) (σ : kw_M) {r : Int32 × kw_M} (h : fX9_count a1 σ = some r) : kw_Met E kwTX 47 (d + 4) μX9_count [.ref 0, .int a1] σ (some (Value.int r.1)) r.2 := by
  refine kw_enter plRX9 (Nat.le_of_ble_eq_true rfl) ?_
  show kw_G E kwTX 47 (d + 4) μX9_count 0 [(0, .ref 0), (1, .int a1)] [] σ (some (Value.int r.1)) r.2
  unfold fX9_count at h
  refine kg_iload_n 1 dX9_count_0 rfl (pc2 := 1) rfl ?_
  by_cases q1 : a1 = (0 : Int32)
  · replace h := (if_pos q1).symm.trans h
    refine kg_tsIn (off := 71) 72 dX9_count_1 (by rw [q1]; decide) (by rw [q1]; decide) (by rw [q1]; decide) rfl ?_
    refine kg_aload_n 0 dX9_count_72 rfl (pc2 := 73) rfl ?_
    refine kg_getr clX9 rfl 0 (Nat.le_of_ble_eq_true rfl) lfRX9_10 tX_0 eX_0 rfl dX9_count_73 (pc2 := 76) rfl ?_
    refine kg_getr clX7 rfl 0 (Nat.le_of_ble_eq_true rfl) lfRX9_148 tX_1 eX_1 rfl dX9_count_76 (pc2 := 79) rfl ?_
    refine kg_geti clX4 rfl 0 (Nat.le_of_ble_eq_true rfl) lfRX9_151 tX_12 eX_12 rfl dX9_count_79 (pc2 := 82) rfl ?_
    cases h
    exact kg_iret (ty := .int) dX9_count_82 rfl rfl
  · replace h := (if_neg q1).symm.trans h
    by_cases q2 : a1 = (1 : Int32)
    · replace h := (if_pos q2).symm.trans h
      refine kg_tsIn (off := 82) 83 dX9_count_1 (by rw [q2]; decide) (by rw [q2]; decide) (by rw [q2]; decide) rfl ?_
      refine kg_aload_n 0 dX9_count_83 rfl (pc2 := 84) rfl ?_
      refine kg_getr clX9 rfl 0 (Nat.le_of_ble_eq_true rfl) lfRX9_10 tX_0 eX_0 rfl dX9_count_84 (pc2 := 87) rfl ?_
      refine kg_getr clX7 rfl 0 (Nat.le_of_ble_eq_true rfl) lfRX9_148 tX_1 eX_1 rfl dX9_count_87 (pc2 := 90) rfl ?_
      refine kg_geti clX4 rfl 1 (Nat.le_of_ble_eq_true rfl) lfRX9_182 tX_12 eX_12 rfl dX9_count_90 (pc2 := 93) rfl ?_
      cases h
      exact kg_iret (ty := .int) dX9_count_93 rfl rfl
    · replace h := (if_neg q2).symm.trans h
      by_cases q3 : a1 = (2 : Int32)
      · replace h := (if_pos q3).symm.trans h
        refine kg_tsIn (off := 93) 94 dX9_count_1 (by rw [q3]; decide) (by rw [q3]; decide) (by rw [q3]; decide) rfl ?_
        refine kg_aload_n 0 dX9_count_94 rfl (pc2 := 95) rfl ?_
        refine kg_getr clX9 rfl 0 (Nat.le_of_ble_eq_true rfl) lfRX9_10 tX_0 eX_0 rfl dX9_count_95 (pc2 := 98) rfl ?_
        refine kg_getr clX7 rfl 0 (Nat.le_of_ble_eq_true rfl) lfRX9_148 tX_1 eX_1 rfl dX9_count_98 (pc2 := 101) rfl ?_
        refine kg_getl clX4 rfl 2 (Nat.le_of_ble_eq_true rfl) lfRX9_219 tX_12 eX_12 rfl dX9_count_101 (pc2 := 104) rfl ?_
        obtain ⟨r4, r4h, h⟩ := kw_bind_e h
        refine kg_callS (μ := μX9_count) (d := (d + 3)) rfl mSJ13_bitCount_95d88 [.long (σ.2 12 2)] [] (gXJ13_bitCount_95d88 (E := E) (d := (d + 3)) (σ.2 12 2) σ r4h) rfl lmRX9_223 rfl (Nat.le_of_ble_eq_true rfl) dX9_count_104 rfl (st2 := [.int r4]) rfl (pc2 := 107) rfl ?_
        cases h
        exact kg_iret (ty := .int) dX9_count_107 rfl rfl
      · replace h := (if_neg q3).symm.trans h
        by_cases q5 : a1 = (3 : Int32)
        · replace h := (if_pos q5).symm.trans h
          refine kg_tsIn (off := 107) 108 dX9_count_1 (by rw [q5]; decide) (by rw [q5]; decide) (by rw [q5]; decide) rfl ?_
          refine kg_aload_n 0 dX9_count_108 rfl (pc2 := 109) rfl ?_
          refine kg_getr clX9 rfl 0 (Nat.le_of_ble_eq_true rfl) lfRX9_10 tX_0 eX_0 rfl dX9_count_109 (pc2 := 112) rfl ?_
          refine kg_geti clX7 rfl 2 (Nat.le_of_ble_eq_true rfl) lfRX9_189 tX_1 eX_1 rfl dX9_count_112 (pc2 := 115) rfl ?_
          cases h
          exact kg_iret (ty := .int) dX9_count_115 rfl rfl
        · replace h := (if_neg q5).symm.trans h
          by_cases q6 : a1 = (4 : Int32)
          · replace h := (if_pos q6).symm.trans h
            refine kg_tsIn (off := 115) 116 dX9_count_1 (by rw [q6]; decide) (by rw [q6]; decide) (by rw [q6]; decide) rfl ?_
            refine kg_aload_n 0 dX9_count_116 rfl (pc2 := 117) rfl ?_
            refine kg_getr clX9 rfl 0 (Nat.le_of_ble_eq_true rfl) lfRX9_10 tX_0 eX_0 rfl dX9_count_117 (pc2 := 120) rfl ?_
            refine kg_geti clX7 rfl 7 (Nat.le_of_ble_eq_true rfl) lfRX9_214 tX_1 eX_1 rfl dX9_count_120 (pc2 := 123) rfl ?_
            cases h
            exact kg_iret (ty := .int) dX9_count_123 rfl rfl
          · replace h := (if_neg q6).symm.trans h
            by_cases q7 : a1 = (5 : Int32)
            · replace h := (if_pos q7).symm.trans h
              refine kg_tsIn (off := 123) 124 dX9_count_1 (by rw [q7]; decide) (by rw [q7]; decide) (by rw [q7]; decide) rfl ?_
              refine kg_aload_n 0 dX9_count_124 rfl (pc2 := 125) rfl ?_
              refine kg_getr clX9 rfl 0 (Nat.le_of_ble_eq_true rfl) lfRX9_10 tX_0 eX_0 rfl dX9_count_125 (pc2 := 128) rfl ?_
              refine kg_geti clX7 rfl 3 (Nat.le_of_ble_eq_true rfl) lfRX9_229 tX_1 eX_1 rfl dX9_count_128 (pc2 := 131) rfl ?_
              cases h
              exact kg_iret (ty := .int) dX9_count_131 rfl rfl
            · replace h := (if_neg q7).symm.trans h
              by_cases q8 : a1 = (6 : Int32)
              · replace h := (if_pos q8).symm.trans h
                refine kg_tsIn (off := 131) 132 dX9_count_1 (by rw [q8]; decide) (by rw [q8]; decide) (by rw [q8]; decide) rfl ?_
                refine kg_aload_n 0 dX9_count_132 rfl (pc2 := 133) rfl ?_
                refine kg_getr clX9 rfl 0 (Nat.le_of_ble_eq_true rfl) lfRX9_10 tX_0 eX_0 rfl dX9_count_133 (pc2 := 136) rfl ?_
                obtain ⟨r9, r9h, h⟩ := kw_bind_e h
                refine kg_callV (μ := μX9_count) (d := (d + 3)) rfl mVX7_settledCount [] [] (gX7_settledCount (E := E) (d := (d + 2)) σ r9h) rfl lmRX9_232 (ci := 7) rfl tX_1 eX_1 rfl (Nat.le_of_ble_eq_true rfl) dX9_count_136 rfl (st2 := [.int r9]) rfl (pc2 := 139) rfl ?_
                cases h
                exact kg_iret (ty := .int) dX9_count_139 rfl rfl
              · replace h := (if_neg q8).symm.trans h
                by_cases q10 : a1 = (7 : Int32)
                · replace h := (if_pos q10).symm.trans h
                  refine kg_tsIn (off := 139) 140 dX9_count_1 (by rw [q10]; decide) (by rw [q10]; decide) (by rw [q10]; decide) rfl ?_
                  refine kg_aload_n 0 dX9_count_140 rfl (pc2 := 141) rfl ?_
                  refine kg_getr clX9 rfl 0 (Nat.le_of_ble_eq_true rfl) lfRX9_10 tX_0 eX_0 rfl dX9_count_141 (pc2 := 144) rfl ?_
                  obtain ⟨r11, r11h, h⟩ := kw_bind_e h
                  refine kg_callV (μ := μX9_count) (d := (d + 3)) rfl mVX7_tightCount [] [] (gX7_tightCount (E := E) (d := (d + 1)) σ r11h) rfl lmRX9_235 (ci := 7) rfl tX_1 eX_1 rfl (Nat.le_of_ble_eq_true rfl) dX9_count_144 rfl (st2 := [.int r11]) rfl (pc2 := 147) rfl ?_
                  cases h
                  exact kg_iret (ty := .int) dX9_count_147 rfl rfl
                · replace h := (if_neg q10).symm.trans h
                  by_cases q12 : a1 = (8 : Int32)
                  · replace h := (if_pos q12).symm.trans h
                    refine kg_tsIn (off := 147) 148 dX9_count_1 (by rw [q12]; decide) (by rw [q12]; decide) (by rw [q12]; decide) rfl ?_
                    refine kg_aload_n 0 dX9_count_148 rfl (pc2 := 149) rfl ?_
                    refine kg_getr clX9 rfl 0 (Nat.le_of_ble_eq_true rfl) lfRX9_10 tX_0 eX_0 rfl dX9_count_149 (pc2 := 152) rfl ?_
                    refine kg_getr clX7 rfl 1 (Nat.le_of_ble_eq_true rfl) lfRX9_238 tX_1 eX_1 rfl dX9_count_152 (pc2 := 155) rfl ?_
                    refine kg_geti clX0 rfl 0 (Nat.le_of_ble_eq_true rfl) lfRX9_242 tX_13 eX_13 rfl dX9_count_155 (pc2 := 158) rfl ?_
                    cases h
                    exact kg_iret (ty := .int) dX9_count_158 rfl rfl
                  · replace h := (if_neg q12).symm.trans h
                    by_cases q13 : a1 = (9 : Int32)
                    · replace h := (if_pos q13).symm.trans h
                      refine kg_tsIn (off := 158) 159 dX9_count_1 (by rw [q13]; decide) (by rw [q13]; decide) (by rw [q13]; decide) rfl ?_
                      refine kg_aload_n 0 dX9_count_159 rfl (pc2 := 160) rfl ?_
                      refine kg_getr clX9 rfl 0 (Nat.le_of_ble_eq_true rfl) lfRX9_10 tX_0 eX_0 rfl dX9_count_160 (pc2 := 163) rfl ?_
                      refine kg_geti clX7 rfl 5 (Nat.le_of_ble_eq_true rfl) lfRX9_245 tX_1 eX_1 rfl dX9_count_163 (pc2 := 166) rfl ?_
                      cases h
                      exact kg_iret (ty := .int) dX9_count_166 rfl rfl
                    · replace h := (if_neg q13).symm.trans h
                      by_cases q14 : a1 = (10 : Int32)
                      · replace h := (if_pos q14).symm.trans h
                        refine kg_tsIn (off := 166) 167 dX9_count_1 (by rw [q14]; decide) (by rw [q14]; decide) (by rw [q14]; decide) rfl ?_
                        refine kg_aload_n 0 dX9_count_167 rfl (pc2 := 168) rfl ?_
                        refine kg_getr clX9 rfl 0 (Nat.le_of_ble_eq_true rfl) lfRX9_10 tX_0 eX_0 rfl dX9_count_168 (pc2 := 171) rfl ?_
                        obtain ⟨r15, r15h, h⟩ := kw_bind_e h
                        refine kg_callV (μ := μX9_count) (d := (d + 3)) rfl mVX7_beyondBits [] [] (gX7_beyondBits (E := E) (d := (d + 2)) σ r15h) rfl lmRX9_248 (ci := 7) rfl tX_1 eX_1 rfl (Nat.le_of_ble_eq_true rfl) dX9_count_171 rfl (st2 := [.int r15]) rfl (pc2 := 174) rfl ?_
                        cases h
                        exact kg_iret (ty := .int) dX9_count_174 rfl rfl
                      · replace h := (if_neg q14).symm.trans h
                        by_cases q16 : a1 = (11 : Int32)
                        · replace h := (if_pos q16).symm.trans h
                          refine kg_tsIn (off := 174) 175 dX9_count_1 (by rw [q16]; decide) (by rw [q16]; decide) (by rw [q16]; decide) rfl ?_
                          refine kg_aload_n 0 dX9_count_175 rfl (pc2 := 176) rfl ?_
                          obtain ⟨r17, r17h, h⟩ := kw_bind_e h
                          refine kg_callV (μ := μX9_count) (d := (d + 3)) rfl mVX9_rightPairs [] [] (gX9_rightPairs (E := E) (d := d) σ r17h) rfl lmRX9_251 (ci := 9) rfl tX_0 eX_0 rfl (Nat.le_of_ble_eq_true rfl) dX9_count_176 rfl (st2 := [.ref 5]) rfl (pc2 := 179) rfl ?_
                          obtain ⟨r18, r18h, h⟩ := kw_bind_e h
                          refine kg_callV (μ := μX9_count) (d := (d + 3)) rfl mVX2_middleTown [] [] (gX2_middleTown (E := E) (d := d) r17 r18h) rfl lmRX9_255 (ci := 2) rfl tX_5 eX_5 rfl (Nat.le_of_ble_eq_true rfl) dX9_count_179 rfl (st2 := [.int r18]) rfl (pc2 := 182) rfl ?_
                          cases h
                          exact kg_iret (ty := .int) dX9_count_182 rfl rfl
                        · replace h := (if_neg q16).symm.trans h
                          by_cases q19 : a1 = (12 : Int32)
                          · replace h := (if_pos q19).symm.trans h
                            refine kg_tsIn (off := 182) 183 dX9_count_1 (by rw [q19]; decide) (by rw [q19]; decide) (by rw [q19]; decide) rfl ?_
                            refine kg_aload_n 0 dX9_count_183 rfl (pc2 := 184) rfl ?_
                            refine kg_getr clX9 rfl 3 (Nat.le_of_ble_eq_true rfl) lfRX9_22 tX_0 eX_0 rfl dX9_count_184 (pc2 := 187) rfl ?_
                            refine kg_geti clX8 rfl 0 (Nat.le_of_ble_eq_true rfl) lfRX9_79 tX_3 eX_3 rfl dX9_count_187 (pc2 := 190) rfl ?_
                            cases h
                            exact kg_iret (ty := .int) dX9_count_190 rfl rfl
                          · replace h := (if_neg q19).symm.trans h
                            by_cases q20 : a1 = (13 : Int32)
                            · replace h := (if_pos q20).symm.trans h
                              refine kg_tsIn (off := 190) 191 dX9_count_1 (by rw [q20]; decide) (by rw [q20]; decide) (by rw [q20]; decide) rfl ?_
                              refine kg_aload_n 0 dX9_count_191 rfl (pc2 := 192) rfl ?_
                              refine kg_getr clX9 rfl 0 (Nat.le_of_ble_eq_true rfl) lfRX9_10 tX_0 eX_0 rfl dX9_count_192 (pc2 := 195) rfl ?_
                              refine kg_geti clX7 rfl 4 (Nat.le_of_ble_eq_true rfl) lfRX9_258 tX_1 eX_1 rfl dX9_count_195 (pc2 := 198) rfl ?_
                              cases h
                              exact kg_iret (ty := .int) dX9_count_198 rfl rfl
                            · replace h := (if_neg q20).symm.trans h
                              refine kg_tsOut 199 dX9_count_1 (by have a0 := kw_neI (n := 0) (by decide) q1; have a1 := kw_neI (n := 1) (by decide) q2; have a2 := kw_neI (n := 2) (by decide) q3; have a3 := kw_neI (n := 3) (by decide) q5; have a4 := kw_neI (n := 4) (by decide) q6; have a5 := kw_neI (n := 5) (by decide) q7; have a6 := kw_neI (n := 6) (by decide) q8; have a7 := kw_neI (n := 7) (by decide) q10; have a8 := kw_neI (n := 8) (by decide) q12; have a9 := kw_neI (n := 9) (by decide) q13; have a10 := kw_neI (n := 10) (by decide) q14; have a11 := kw_neI (n := 11) (by decide) q16; have a12 := kw_neI (n := 12) (by decide) q19; have a13 := kw_neI (n := 13) (by decide) q20; omega) rfl ?_
                              refine kg_iconst dX9_count_199 ki_m1 (pc2 := 200) rfl ?_
                              cases h
                              exact kg_iret (ty := .int) dX9_count_200 rfl rfl
def fX9_road (a1 : Int32) (a2 : Int32) (σ : kw_M) : Option (Int64) :=
 (fX4_hasRoad a1 σ).bind fun r1 =>
 if r1 = (0 : Int32) then
 (some (-9000000000000000000 : Int64))
 else
 if a2 = (0 : Int32) then
 (kw_chk (kw_in a1 36) <|
 some ((σ.1 18 a1.toNatClampNeg).toInt64))
 else
 if a2 = (1 : Int32) then
 (kw_chk (kw_in a1 36) <|
 some ((σ.1 19 a1.toNatClampNeg).toInt64))
 else
 if a2 = (2 : Int32) then
 (kw_chk (kw_in a1 36) <|
 some ((σ.1 20 a1.toNatClampNeg).toInt64))
 else
 if a2 = (3 : Int32) then
 ((fX4_isOpen 12 a1 σ).bind fun r10 =>
 if r10 = (0 : Int32) then
 (some (0 : Int64))
 else
 some (1 : Int64))
 else
 if a2 = (4 : Int32) then
 ((fX7_isTight a1 σ).bind fun r13 =>
 if r13 = (0 : Int32) then
 (some (0 : Int64))
 else
 some (1 : Int64))
 else
 if a2 = (5 : Int32) then
 (kw_chk (kw_in a1 36) <|
 kw_chk (kw_in (σ.1 19 a1.toNatClampNeg) 12) <|
 if (σ.1 17 (σ.1 19 a1.toNatClampNeg).toNatClampNeg) = a1 then
 (some (1 : Int64))
 else
 some (0 : Int64))
 else
 some (-9000000000000000000 : Int64)
set_option maxHeartbeats 4000000 in
set_option maxRecDepth 100000 in
theorem gX9_road {E : kw_E} {d : Nat} (a1 : Int32) (a2 : Int32) (σ : kw_M) {r : Int64} (h : fX9_road a1 a2 σ = some r) : kw_Met E kwTX 47 (d + 2) μX9_road [.ref 0, .int a1, .int a2] σ (some (Value.long r)) σ := by
  refine kw_enter plRX9 (Nat.le_of_ble_eq_true rfl) ?_
  show kw_G E kwTX 47 (d + 2) μX9_road 0 [(0, .ref 0), (1, .int a1), (2, .int a2)] [] σ (some (Value.long r)) σ
  unfold fX9_road at h
  refine kg_aload_n 0 dX9_road_0 rfl (pc2 := 1) rfl ?_
  refine kg_getr clX9 rfl 0 (Nat.le_of_ble_eq_true rfl) lfRX9_10 tX_0 eX_0 rfl dX9_road_1 (pc2 := 4) rfl ?_
  refine kg_getr clX7 rfl 0 (Nat.le_of_ble_eq_true rfl) lfRX9_148 tX_1 eX_1 rfl dX9_road_4 (pc2 := 7) rfl ?_
  refine kg_astore_n dX9_road_7 rfl (Nat.le_of_ble_eq_true rfl) rfl (lv2 := [(3, .ref 12), (0, .ref 0), (1, .int a1), (2, .int a2)]) rfl (pc2 := 8) rfl ?_
  refine kg_aload_n 0 dX9_road_8 rfl (pc2 := 9) rfl ?_
  refine kg_iload_n 2 dX9_road_9 rfl (pc2 := 10) rfl ?_
  obtain ⟨r1, r1h, h⟩ := kw_bind_e h
  refine kg_callV (μ := μX9_road) (d := (d + 1)) rfl mVX4_hasRoad [.int a1] [] (gX4_hasRoad (E := E) (d := (d + 1)) a1 σ r1h) rfl lmRX9_195 (ci := 4) rfl tX_12 eX_12 rfl (Nat.le_of_ble_eq_true rfl) dX9_road_10 rfl (st2 := [.int r1]) rfl (pc2 := 13) rfl ?_
  refine kg_if_ne 20 dX9_road_13 rfl (pc2 := 16) rfl (fun q2 => ?_) (fun q2 => ?_)
  · replace h := (if_neg q2).symm.trans h
    refine kg_iload_n 3 dX9_road_20 rfl (pc2 := 21) rfl ?_
    by_cases q3 : a2 = (0 : Int32)
    · replace h := (if_pos q3).symm.trans h
      refine kg_tsIn (off := 39) 60 dX9_road_21 (by rw [q3]; decide) (by rw [q3]; decide) (by rw [q3]; decide) rfl ?_
      refine kg_aload_n 0 dX9_road_60 rfl (pc2 := 61) rfl ?_
      refine kg_getr clX4 rfl 3 (Nat.le_of_ble_eq_true rfl) lfRX9_263 tX_12 eX_12 rfl dX9_road_61 (pc2 := 64) rfl ?_
      refine kg_iload_n 2 dX9_road_64 rfl (pc2 := 65) rfl ?_
      obtain ⟨q4, h⟩ := kw_chk_e h
      refine kg_iald tX_18 eX_18 q4 (j := a1.toNatClampNeg) rfl dX9_road_65 (pc2 := 66) rfl ?_
      refine kg_i2l dX9_road_66 (pc2 := 67) rfl ?_
      cases h
      exact kg_lret dX9_road_67 rfl
    · replace h := (if_neg q3).symm.trans h
      by_cases q5 : a2 = (1 : Int32)
      · replace h := (if_pos q5).symm.trans h
        refine kg_tsIn (off := 47) 68 dX9_road_21 (by rw [q5]; decide) (by rw [q5]; decide) (by rw [q5]; decide) rfl ?_
        refine kg_aload_n 0 dX9_road_68 rfl (pc2 := 69) rfl ?_
        refine kg_getr clX4 rfl 4 (Nat.le_of_ble_eq_true rfl) lfRX9_266 tX_12 eX_12 rfl dX9_road_69 (pc2 := 72) rfl ?_
        refine kg_iload_n 2 dX9_road_72 rfl (pc2 := 73) rfl ?_
        obtain ⟨q6, h⟩ := kw_chk_e h
        refine kg_iald tX_19 eX_19 q6 (j := a1.toNatClampNeg) rfl dX9_road_73 (pc2 := 74) rfl ?_
        refine kg_i2l dX9_road_74 (pc2 := 75) rfl ?_
        cases h
        exact kg_lret dX9_road_75 rfl
      · replace h := (if_neg q5).symm.trans h
        by_cases q7 : a2 = (2 : Int32)
        · replace h := (if_pos q7).symm.trans h
          refine kg_tsIn (off := 55) 76 dX9_road_21 (by rw [q7]; decide) (by rw [q7]; decide) (by rw [q7]; decide) rfl ?_
          refine kg_aload_n 0 dX9_road_76 rfl (pc2 := 77) rfl ?_
          refine kg_getr clX4 rfl 5 (Nat.le_of_ble_eq_true rfl) lfRX9_198 tX_12 eX_12 rfl dX9_road_77 (pc2 := 80) rfl ?_
          refine kg_iload_n 2 dX9_road_80 rfl (pc2 := 81) rfl ?_
          obtain ⟨q8, h⟩ := kw_chk_e h
          refine kg_iald tX_20 eX_20 q8 (j := a1.toNatClampNeg) rfl dX9_road_81 (pc2 := 82) rfl ?_
          refine kg_i2l dX9_road_82 (pc2 := 83) rfl ?_
          cases h
          exact kg_lret dX9_road_83 rfl
        · replace h := (if_neg q7).symm.trans h
          by_cases q9 : a2 = (3 : Int32)
          · replace h := (if_pos q9).symm.trans h
            refine kg_tsIn (off := 63) 84 dX9_road_21 (by rw [q9]; decide) (by rw [q9]; decide) (by rw [q9]; decide) rfl ?_
            refine kg_aload_n 0 dX9_road_84 rfl (pc2 := 85) rfl ?_
            refine kg_iload_n 2 dX9_road_85 rfl (pc2 := 86) rfl ?_
            obtain ⟨r10, r10h, h⟩ := kw_bind_e h
            refine kg_callV (μ := μX9_road) (d := (d + 1)) rfl mVX4_isOpen [.int a1] [] (gX4_isOpen (E := E) (d := (d + 1)) 12 kx_4_12 a1 σ r10h) rfl lmRX9_201 (ci := 4) rfl tX_12 eX_12 rfl (Nat.le_of_ble_eq_true rfl) dX9_road_86 rfl (st2 := [.int r10]) rfl (pc2 := 89) rfl ?_
            refine kg_if_eq 96 dX9_road_89 rfl (pc2 := 92) rfl (fun q11 => ?_) (fun q11 => ?_)
            · replace h := (if_pos q11).symm.trans h
              refine kg_lconst dX9_road_96 kl_0 (pc2 := 97) rfl ?_
              cases h
              exact kg_lret dX9_road_97 rfl
            · replace h := (if_neg q11).symm.trans h
              refine kg_lconst dX9_road_92 kl_1 (pc2 := 93) rfl ?_
              refine kg_goto 97 dX9_road_93 rfl ?_
              cases h
              exact kg_lret dX9_road_97 rfl
          · replace h := (if_neg q9).symm.trans h
            by_cases q12 : a2 = (4 : Int32)
            · replace h := (if_pos q12).symm.trans h
              refine kg_tsIn (off := 77) 98 dX9_road_21 (by rw [q12]; decide) (by rw [q12]; decide) (by rw [q12]; decide) rfl ?_
              refine kg_aload_n 1 dX9_road_98 rfl (pc2 := 99) rfl ?_
              refine kg_getr clX9 rfl 0 (Nat.le_of_ble_eq_true rfl) lfRX9_10 tX_0 eX_0 rfl dX9_road_99 (pc2 := 102) rfl ?_
              refine kg_iload_n 2 dX9_road_102 rfl (pc2 := 103) rfl ?_
              obtain ⟨r13, r13h, h⟩ := kw_bind_e h
              refine kg_callV (μ := μX9_road) (d := (d + 1)) rfl mVX7_isTight [.int a1] [] (gX7_isTight (E := E) (d := d) a1 σ r13h) rfl lmRX9_269 (ci := 7) rfl tX_1 eX_1 rfl (Nat.le_of_ble_eq_true rfl) dX9_road_103 rfl (st2 := [.int r13]) rfl (pc2 := 106) rfl ?_
              refine kg_if_eq 113 dX9_road_106 rfl (pc2 := 109) rfl (fun q14 => ?_) (fun q14 => ?_)
              · replace h := (if_pos q14).symm.trans h
                refine kg_lconst dX9_road_113 kl_0 (pc2 := 114) rfl ?_
                cases h
                exact kg_lret dX9_road_114 rfl
              · replace h := (if_neg q14).symm.trans h
                refine kg_lconst dX9_road_109 kl_1 (pc2 := 110) rfl ?_
                refine kg_goto 114 dX9_road_110 rfl ?_
                cases h
                exact kg_lret dX9_road_114 rfl
            · replace h := (if_neg q12).symm.trans h
              by_cases q15 : a2 = (5 : Int32)
              · replace h := (if_pos q15).symm.trans h
                refine kg_tsIn (off := 94) 115 dX9_road_21 (by rw [q15]; decide) (by rw [q15]; decide) (by rw [q15]; decide) rfl ?_
                refine kg_aload_n 1 dX9_road_115 rfl (pc2 := 116) rfl ?_
                refine kg_getr clX9 rfl 0 (Nat.le_of_ble_eq_true rfl) lfRX9_10 tX_0 eX_0 rfl dX9_road_116 (pc2 := 119) rfl ?_
                refine kg_getr clX7 rfl 10 (Nat.le_of_ble_eq_true rfl) lfRX9_272 tX_1 eX_1 rfl dX9_road_119 (pc2 := 122) rfl ?_
                refine kg_aload_n 0 dX9_road_122 rfl (pc2 := 123) rfl ?_
                refine kg_getr clX4 rfl 4 (Nat.le_of_ble_eq_true rfl) lfRX9_266 tX_12 eX_12 rfl dX9_road_123 (pc2 := 126) rfl ?_
                refine kg_iload_n 2 dX9_road_126 rfl (pc2 := 127) rfl ?_
                obtain ⟨q16, h⟩ := kw_chk_e h
                refine kg_iald tX_19 eX_19 q16 (j := a1.toNatClampNeg) rfl dX9_road_127 (pc2 := 128) rfl ?_
                obtain ⟨q17, h⟩ := kw_chk_e h
                refine kg_iald tX_17 eX_17 q17 (j := (σ.1 19 a1.toNatClampNeg).toNatClampNeg) rfl dX9_road_128 (pc2 := 129) rfl ?_
                refine kg_iload_n 2 dX9_road_129 rfl (pc2 := 130) rfl ?_
                refine kg_icmp_ne 137 dX9_road_130 rfl (pc2 := 133) rfl (fun q18 => ?_) (fun q18 => ?_)
                · replace h := (if_neg q18).symm.trans h
                  refine kg_lconst dX9_road_137 kl_0 (pc2 := 138) rfl ?_
                  cases h
                  exact kg_lret dX9_road_138 rfl
                · replace h := (if_pos q18).symm.trans h
                  refine kg_lconst dX9_road_133 kl_1 (pc2 := 134) rfl ?_
                  refine kg_goto 138 dX9_road_134 rfl ?_
                  cases h
                  exact kg_lret dX9_road_138 rfl
              · replace h := (if_neg q15).symm.trans h
                refine kg_tsOut 139 dX9_road_21 (by have a0 := kw_neI (n := 0) (by decide) q3; have a1 := kw_neI (n := 1) (by decide) q5; have a2 := kw_neI (n := 2) (by decide) q7; have a3 := kw_neI (n := 3) (by decide) q9; have a4 := kw_neI (n := 4) (by decide) q12; have a5 := kw_neI (n := 5) (by decide) q15; omega) rfl ?_
                refine kg_ldc2 rfl lcRX9_261 dX9_road_139 (pc2 := 142) rfl ?_
                cases h
                exact kg_lret dX9_road_142 rfl
  · replace h := (if_pos q2).symm.trans h
    refine kg_ldc2 rfl lcRX9_261 dX9_road_16 (pc2 := 19) rfl ?_
    cases h
    exact kg_lret dX9_road_19 rfl
