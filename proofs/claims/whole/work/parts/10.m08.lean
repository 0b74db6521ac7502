/-! The reference, method by method: what it computes (f), and that the machine does so (g). -/
def bX10_openMany_4 (σ : kw_M) (v1 : Int32) (v2 : Int32) : Option ((Int32 × Int32) ⊕ (Int32)) :=
 if (σ.1 1 1) ≤ v2 then
 (some (.inr v1))
 else
 (fX10_of v2 (3 : Int32) σ).bind fun r2 =>
 kw_let (v1 + r2) fun x3 =>
 kw_let (v2 + (1 : Int32)) fun x4 =>
 some (.inl (x3, x4))
set_option maxHeartbeats 4000000 in
set_option maxRecDepth 100000 in
theorem lX10_openMany_4 {E : kw_E} {d : Nat} (σ : kw_M) (v1 : Int32) (v2 : Int32) {v : Option Value} {σ2 : kw_M} {o : (Int32 × Int32) ⊕ (Int32)} (h : bX10_openMany_4 σ v1 v2 = some o) (hk : Sum.elim (fun s => kw_G E kwTM 21 (d + 1) μX10_openMany 4 [(0, .ref 0), (1, .int s.1), (2, .int s.2)] [] σ v σ2) (fun y => kw_G E kwTM 21 (d + 1) μX10_openMany 29 [(1, .int y)] [] σ v σ2) o) : kw_G E kwTM 21 (d + 1) μX10_openMany 4 [(0, .ref 0), (1, .int v1), (2, .int v2)] [] σ v σ2 := by
  unfold bX10_openMany_4 at h
  refine kg_iload_n 2 dX10_openMany_4 rfl (pc2 := 5) rfl ?_
  refine kg_aload_n 0 dX10_openMany_5 rfl (pc2 := 6) rfl ?_
  refine kg_getr clX10 rfl 0 (Nat.le_of_ble_eq_true rfl) lfRX10_7 tM_0 eM_0 rfl dX10_openMany_6 (pc2 := 9) rfl ?_
  refine kg_iconst dX10_openMany_9 ki_1 (pc2 := 10) rfl ?_
  refine kg_iald tM_1 eM_1 (show kw_in (1 : Int32) 2832 by decide) (j := 1) (by decide) dX10_openMany_10 (pc2 := 11) rfl ?_
  refine kg_icmp_ge 29 dX10_openMany_11 rfl (pc2 := 14) rfl (fun q1 => ?_) (fun q1 => ?_)
  · replace h := (if_pos q1).symm.trans h
    refine kg_sub [1] (lv2 := [(1, .int v1)]) rfl ?_
    cases h
    exact hk
  · replace h := (if_neg q1).symm.trans h
    refine kg_iload_n 1 dX10_openMany_14 rfl (pc2 := 15) rfl ?_
    refine kg_aload_n 0 dX10_openMany_15 rfl (pc2 := 16) rfl ?_
    refine kg_iload_n 2 dX10_openMany_16 rfl (pc2 := 17) rfl ?_
    refine kg_iconst dX10_openMany_17 ki_3 (pc2 := 18) rfl ?_
    obtain ⟨r2, r2h, h⟩ := kw_bind_e h
    refine kg_callV (d := d) rfl mVX10_of [.int v2, .int (3 : Int32)] [.int v1] (gX10_of (E := E) (d := d) v2 (3 : Int32) σ r2h) rfl lmRX10_73 (ci := 10) rfl tM_0 eM_0 rfl (Nat.le_of_ble_eq_true rfl) dX10_openMany_18 rfl (st2 := [.int r2, .int v1]) rfl (pc2 := 21) rfl ?_
    refine kg_iadd dX10_openMany_21 (pc2 := 22) rfl ?_
    obtain ⟨x3, x3e, h⟩ := kw_let_e h
    refine kg_istore_n dX10_openMany_22 rfl (Nat.le_of_ble_eq_true rfl) x3e (lv2 := [(1, .int x3), (0, .ref 0), (2, .int v2)]) rfl (pc2 := 23) rfl ?_
    obtain ⟨x4, x4e, h⟩ := kw_let_e h
    refine kg_iinc 2 dX10_openMany_23 rfl (Nat.le_of_ble_eq_true rfl) x4e (lv2 := [(2, .int x4), (1, .int x3), (0, .ref 0)]) rfl (pc2 := 26) rfl ?_
    refine kg_goto 4 dX10_openMany_26 rfl ?_
    refine kg_sub [2, 1, 0] (lv2 := [(0, .ref 0), (1, .int x3), (2, .int x4)]) rfl ?_
    cases h
    exact hk
def fX10_openMany (σ : kw_M) : Option (Int32) :=
 (kw_loop (fun s => bX10_openMany_4 σ s.1 s.2) kw_F ((0 : Int32), (0 : Int32))).bind fun x5 =>
 some x5
set_option maxHeartbeats 4000000 in
set_option maxRecDepth 100000 in
theorem gX10_openMany {E : kw_E} {d : Nat} (σ : kw_M) {r : Int32} (h : fX10_openMany σ = some r) : kw_Met E kwTM 21 (d + 1) μX10_openMany [.ref 0] σ (some (Value.int r)) σ := by
  refine kw_enter plRX10 (Nat.le_of_ble_eq_true rfl) ?_
  show kw_G E kwTM 21 (d + 1) μX10_openMany 0 [(0, .ref 0)] [] σ (some (Value.int r)) σ
  unfold fX10_openMany at h
  refine kg_iconst dX10_openMany_0 ki_0 (pc2 := 1) rfl ?_
  refine kg_istore_n dX10_openMany_1 rfl (Nat.le_of_ble_eq_true rfl) rfl (lv2 := [(1, .int (0 : Int32)), (0, .ref 0)]) rfl (pc2 := 2) rfl ?_
  refine kg_iconst dX10_openMany_2 ki_0 (pc2 := 3) rfl ?_
  refine kg_istore_n dX10_openMany_3 rfl (Nat.le_of_ble_eq_true rfl) rfl (lv2 := [(2, .int (0 : Int32)), (1, .int (0 : Int32)), (0, .ref 0)]) rfl (pc2 := 4) rfl ?_
  refine kg_sub [2, 1, 0] (lv2 := [(0, .ref 0), (1, .int (0 : Int32)), (2, .int (0 : Int32))]) rfl ?_
  obtain ⟨x5, x5h, h⟩ := kw_bind_e h
  refine kw_loop_e (P := fun s => kw_G E kwTM 21 (d + 1) μX10_openMany 4 [(0, .ref 0), (1, .int s.1), (2, .int s.2)] [] σ (some (Value.int r)) σ) (K := fun y => kw_G E kwTM 21 (d + 1) μX10_openMany 29 [(1, .int y)] [] σ (some (Value.int r)) σ) (fun s o h0 hk => lX10_openMany_4 σ s.1 s.2 h0 hk) kw_F _ _ x5h ?_
  show kw_G E kwTM 21 (d + 1) μX10_openMany 29 [(1, .int x5)] [] σ (some (Value.int r)) σ
  refine kg_iload_n 0 dX10_openMany_29 rfl (pc2 := 30) rfl ?_
  cases h
  exact kg_iret (ty := .int) dX10_openMany_30 rfl rfl
def bX10_reached_4 (σ : kw_M) (v1 : Int32) (v2 : Int32) : Option ((Int32 × Int32) ⊕ (Int32)) :=
 (fX10_towns σ).bind fun r1 =>
 if r1 ≤ v2 then
 (some (.inr v1))
 else
 kw_chk (kw_in v2 12) <|
 if (900000000000000000 : Int64) ≤ (σ.2 3 v2.toNatClampNeg) then
 (kw_let (v2 + (1 : Int32)) fun x5 =>
 some (.inl (v1, x5)))
 else
 kw_let (v1 + (1 : Int32)) fun x6 =>
 kw_let (v2 + (1 : Int32)) fun x7 =>
 some (.inl (x6, x7))
set_option maxHeartbeats 4000000 in
set_option maxRecDepth 100000 in
theorem lX10_reached_4 {E : kw_E} {d : Nat} (σ : kw_M) (v1 : Int32) (v2 : Int32) {v : Option Value} {σ2 : kw_M} {o : (Int32 × Int32) ⊕ (Int32)} (h : bX10_reached_4 σ v1 v2 = some o) (hk : Sum.elim (fun s => kw_G E kwTM 21 (d + 1) μX10_reached 4 [(0, .ref 0), (1, .int s.1), (2, .int s.2)] [] σ v σ2) (fun y => kw_G E kwTM 21 (d + 1) μX10_reached 35 [(1, .int y)] [] σ v σ2) o) : kw_G E kwTM 21 (d + 1) μX10_reached 4 [(0, .ref 0), (1, .int v1), (2, .int v2)] [] σ v σ2 := by
  unfold bX10_reached_4 at h
  refine kg_iload_n 2 dX10_reached_4 rfl (pc2 := 5) rfl ?_
  refine kg_aload_n 0 dX10_reached_5 rfl (pc2 := 6) rfl ?_
  obtain ⟨r1, r1h, h⟩ := kw_bind_e h
  refine kg_callV (d := d) rfl mVX10_towns [] [.int v2] (gX10_towns (E := E) (d := d) σ r1h) rfl lmRX10_77 (ci := 10) rfl tM_0 eM_0 rfl (Nat.le_of_ble_eq_true rfl) dX10_reached_6 rfl (st2 := [.int r1, .int v2]) rfl (pc2 := 9) rfl ?_
  refine kg_icmp_ge 35 dX10_reached_9 rfl (pc2 := 12) rfl (fun q2 => ?_) (fun q2 => ?_)
  · replace h := (if_pos q2).symm.trans h
    refine kg_sub [1] (lv2 := [(1, .int v1)]) rfl ?_
    cases h
    exact hk
  · replace h := (if_neg q2).symm.trans h
    refine kg_aload_n 0 dX10_reached_12 rfl (pc2 := 13) rfl ?_
    refine kg_getr clX10 rfl 3 (Nat.le_of_ble_eq_true rfl) lfRX10_17 tM_0 eM_0 rfl dX10_reached_13 (pc2 := 16) rfl ?_
    refine kg_iload_n 2 dX10_reached_16 rfl (pc2 := 17) rfl ?_
    obtain ⟨q3, h⟩ := kw_chk_e h
    refine kg_lald tM_3 eM_3 q3 (j := v2.toNatClampNeg) rfl dX10_reached_17 (pc2 := 18) rfl ?_
    refine kg_ldc2 rfl lcRX10_89 dX10_reached_18 (pc2 := 21) rfl ?_
    refine kg_lcmp_ge 29 dX10_reached_21 dX10_reached_22 rfl (pc2 := 25) rfl (fun q4 => ?_) (fun q4 => ?_)
    · replace h := (if_pos q4).symm.trans h
      obtain ⟨x5, x5e, h⟩ := kw_let_e h
      refine kg_iinc 2 dX10_reached_29 rfl (Nat.le_of_ble_eq_true rfl) x5e (lv2 := [(2, .int x5), (0, .ref 0), (1, .int v1)]) rfl (pc2 := 32) rfl ?_
      refine kg_goto 4 dX10_reached_32 rfl ?_
      refine kg_sub [1, 2, 0] (lv2 := [(0, .ref 0), (1, .int v1), (2, .int x5)]) rfl ?_
      cases h
      exact hk
    · replace h := (if_neg q4).symm.trans h
      refine kg_iload_n 1 dX10_reached_25 rfl (pc2 := 26) rfl ?_
      refine kg_iconst dX10_reached_26 ki_1 (pc2 := 27) rfl ?_
      refine kg_iadd dX10_reached_27 (pc2 := 28) rfl ?_
      obtain ⟨x6, x6e, h⟩ := kw_let_e h
      refine kg_istore_n dX10_reached_28 rfl (Nat.le_of_ble_eq_true rfl) x6e (lv2 := [(1, .int x6), (0, .ref 0), (2, .int v2)]) rfl (pc2 := 29) rfl ?_
      obtain ⟨x7, x7e, h⟩ := kw_let_e h
      refine kg_iinc 2 dX10_reached_29 rfl (Nat.le_of_ble_eq_true rfl) x7e (lv2 := [(2, .int x7), (1, .int x6), (0, .ref 0)]) rfl (pc2 := 32) rfl ?_
      refine kg_goto 4 dX10_reached_32 rfl ?_
      refine kg_sub [2, 1, 0] (lv2 := [(0, .ref 0), (1, .int x6), (2, .int x7)]) rfl ?_
      cases h
      exact hk
def fX10_reached (σ : kw_M) : Option (Int32) :=
 (kw_loop (fun s => bX10_reached_4 σ s.1 s.2) kw_F ((0 : Int32), (0 : Int32))).bind fun x8 =>
 some x8
set_option maxHeartbeats 4000000 in
set_option maxRecDepth 100000 in
theorem gX10_reached {E : kw_E} {d : Nat} (σ : kw_M) {r : Int32} (h : fX10_reached σ = some r) : kw_Met E kwTM 21 (d + 1) μX10_reached [.ref 0] σ (some (Value.int r)) σ := by
  refine kw_enter plRX10 (Nat.le_of_ble_eq_true rfl) ?_
  show kw_G E kwTM 21 (d + 1) μX10_reached 0 [(0, .ref 0)] [] σ (some (Value.int r)) σ
  unfold fX10_reached at h
  refine kg_iconst dX10_reached_0 ki_0 (pc2 := 1) rfl ?_
  refine kg_istore_n dX10_reached_1 rfl (Nat.le_of_ble_eq_true rfl) rfl (lv2 := [(1, .int (0 : Int32)), (0, .ref 0)]) rfl (pc2 := 2) rfl ?_
  refine kg_iconst dX10_reached_2 ki_0 (pc2 := 3) rfl ?_
  refine kg_istore_n dX10_reached_3 rfl (Nat.le_of_ble_eq_true rfl) rfl (lv2 := [(2, .int (0 : Int32)), (1, .int (0 : Int32)), (0, .ref 0)]) rfl (pc2 := 4) rfl ?_
  refine kg_sub [2, 1, 0] (lv2 := [(0, .ref 0), (1, .int (0 : Int32)), (2, .int (0 : Int32))]) rfl ?_
  obtain ⟨x8, x8h, h⟩ := kw_bind_e h
  refine kw_loop_e (P := fun s => kw_G E kwTM 21 (d + 1) μX10_reached 4 [(0, .ref 0), (1, .int s.1), (2, .int s.2)] [] σ (some (Value.int r)) σ) (K := fun y => kw_G E kwTM 21 (d + 1) μX10_reached 35 [(1, .int y)] [] σ (some (Value.int r)) σ) (fun s o h0 hk => lX10_reached_4 σ s.1 s.2 h0 hk) kw_F _ _ x8h ?_
  show kw_G E kwTM 21 (d + 1) μX10_reached 35 [(1, .int x8)] [] σ (some (Value.int r)) σ
  refine kg_iload_n 0 dX10_reached_35 rfl (pc2 := 36) rfl ?_
  cases h
  exact kg_iret (ty := .int) dX10_reached_36 rfl rfl
def bX10_tightMany_4 (σ : kw_M) (v1 : Int32) (v2 : Int32) : Option ((Int32 × Int32) ⊕ (Int32)) :=
 if (σ.1 1 1) ≤ v2 then
 (some (.inr v1))
 else
 (fX10_isTight v2 σ).bind fun r2 =>
 if r2 = (0 : Int32) then
 (kw_let (v2 + (1 : Int32)) fun x4 =>
 some (.inl (v1, x4)))
 else
 kw_let (v1 + (1 : Int32)) fun x5 =>
 kw_let (v2 + (1 : Int32)) fun x6 =>
 some (.inl (x5, x6))
set_option maxHeartbeats 4000000 in
set_option maxRecDepth 100000 in
theorem lX10_tightMany_4 {E : kw_E} {d : Nat} (σ : kw_M) (v1 : Int32) (v2 : Int32) {v : Option Value} {σ2 : kw_M} {o : (Int32 × Int32) ⊕ (Int32)} (h : bX10_tightMany_4 σ v1 v2 = some o) (hk : Sum.elim (fun s => kw_G E kwTM 21 (d + 3) μX10_tightMany 4 [(0, .ref 0), (1, .int s.1), (2, .int s.2)] [] σ v σ2) (fun y => kw_G E kwTM 21 (d + 3) μX10_tightMany 32 [(1, .int y)] [] σ v σ2) o) : kw_G E kwTM 21 (d + 3) μX10_tightMany 4 [(0, .ref 0), (1, .int v1), (2, .int v2)] [] σ v σ2 := by
  unfold bX10_tightMany_4 at h
  refine kg_iload_n 2 dX10_tightMany_4 rfl (pc2 := 5) rfl ?_
  refine kg_aload_n 0 dX10_tightMany_5 rfl (pc2 := 6) rfl ?_
  refine kg_getr clX10 rfl 0 (Nat.le_of_ble_eq_true rfl) lfRX10_7 tM_0 eM_0 rfl dX10_tightMany_6 (pc2 := 9) rfl ?_
  refine kg_iconst dX10_tightMany_9 ki_1 (pc2 := 10) rfl ?_
  refine kg_iald tM_1 eM_1 (show kw_in (1 : Int32) 2832 by decide) (j := 1) (by decide) dX10_tightMany_10 (pc2 := 11) rfl ?_
  refine kg_icmp_ge 32 dX10_tightMany_11 rfl (pc2 := 14) rfl (fun q1 => ?_) (fun q1 => ?_)
  · replace h := (if_pos q1).symm.trans h
    refine kg_sub [1] (lv2 := [(1, .int v1)]) rfl ?_
    cases h
    exact hk
  · replace h := (if_neg q1).symm.trans h
    refine kg_aload_n 0 dX10_tightMany_14 rfl (pc2 := 15) rfl ?_
    refine kg_iload_n 2 dX10_tightMany_15 rfl (pc2 := 16) rfl ?_
    obtain ⟨r2, r2h, h⟩ := kw_bind_e h
    refine kg_callV (d := (d + 2)) rfl mVX10_isTight [.int v2] [] (gX10_isTight (E := E) (d := d) v2 σ r2h) rfl lmRX10_303 (ci := 10) rfl tM_0 eM_0 rfl (Nat.le_of_ble_eq_true rfl) dX10_tightMany_16 rfl (st2 := [.int r2]) rfl (pc2 := 19) rfl ?_
    refine kg_if_eq 26 dX10_tightMany_19 rfl (pc2 := 22) rfl (fun q3 => ?_) (fun q3 => ?_)
    · replace h := (if_pos q3).symm.trans h
      obtain ⟨x4, x4e, h⟩ := kw_let_e h
      refine kg_iinc 2 dX10_tightMany_26 rfl (Nat.le_of_ble_eq_true rfl) x4e (lv2 := [(2, .int x4), (0, .ref 0), (1, .int v1)]) rfl (pc2 := 29) rfl ?_
      refine kg_goto 4 dX10_tightMany_29 rfl ?_
      refine kg_sub [1, 2, 0] (lv2 := [(0, .ref 0), (1, .int v1), (2, .int x4)]) rfl ?_
      cases h
      exact hk
    · replace h := (if_neg q3).symm.trans h
      refine kg_iload_n 1 dX10_tightMany_22 rfl (pc2 := 23) rfl ?_
      refine kg_iconst dX10_tightMany_23 ki_1 (pc2 := 24) rfl ?_
      refine kg_iadd dX10_tightMany_24 (pc2 := 25) rfl ?_
      obtain ⟨x5, x5e, h⟩ := kw_let_e h
      refine kg_istore_n dX10_tightMany_25 rfl (Nat.le_of_ble_eq_true rfl) x5e (lv2 := [(1, .int x5), (0, .ref 0), (2, .int v2)]) rfl (pc2 := 26) rfl ?_
      obtain ⟨x6, x6e, h⟩ := kw_let_e h
      refine kg_iinc 2 dX10_tightMany_26 rfl (Nat.le_of_ble_eq_true rfl) x6e (lv2 := [(2, .int x6), (1, .int x5), (0, .ref 0)]) rfl (pc2 := 29) rfl ?_
      refine kg_goto 4 dX10_tightMany_29 rfl ?_
      refine kg_sub [2, 1, 0] (lv2 := [(0, .ref 0), (1, .int x5), (2, .int x6)]) rfl ?_
      cases h
      exact hk
def fX10_tightMany (σ : kw_M) : Option (Int32) :=
 (kw_loop (fun s => bX10_tightMany_4 σ s.1 s.2) kw_F ((0 : Int32), (0 : Int32))).bind fun x7 =>
 some x7
set_option maxHeartbeats 4000000 in
set_option maxRecDepth 100000 in
theorem gX10_tightMany {E : kw_E} {d : Nat} (σ : kw_M) {r : Int32} (h : fX10_tightMany σ = some r) : kw_Met E kwTM 21 (d + 3) μX10_tightMany [.ref 0] σ (some (Value.int r)) σ := by
  refine kw_enter plRX10 (Nat.le_of_ble_eq_true rfl) ?_
  show kw_G E kwTM 21 (d + 3) μX10_tightMany 0 [(0, .ref 0)] [] σ (some (Value.int r)) σ
  unfold fX10_tightMany at h
  refine kg_iconst dX10_tightMany_0 ki_0 (pc2 := 1) rfl ?_
  refine kg_istore_n dX10_tightMany_1 rfl (Nat.le_of_ble_eq_true rfl) rfl (lv2 := [(1, .int (0 : Int32)), (0, .ref 0)]) rfl (pc2 := 2) rfl ?_
  refine kg_iconst dX10_tightMany_2 ki_0 (pc2 := 3) rfl ?_
  refine kg_istore_n dX10_tightMany_3 rfl (Nat.le_of_ble_eq_true rfl) rfl (lv2 := [(2, .int (0 : Int32)), (1, .int (0 : Int32)), (0, .ref 0)]) rfl (pc2 := 4) rfl ?_
  refine kg_sub [2, 1, 0] (lv2 := [(0, .ref 0), (1, .int (0 : Int32)), (2, .int (0 : Int32))]) rfl ?_
  obtain ⟨x7, x7h, h⟩ := kw_bind_e h
  refine kw_loop_e (P := fun s => kw_G E kwTM 21 (d + 3) μX10_tightMany 4 [(0, .ref 0), (1, .int s.1), (2, .int s.2)] [] σ (some (Value.int r)) σ) (K := fun y => kw_G E kwTM 21 (d + 3) μX10_tightMany 32 [(1, .int y)] [] σ (some (Value.int r)) σ) (fun s o h0 hk => lX10_tightMany_4 σ s.1 s.2 h0 hk) kw_F _ _ x7h ?_
  show kw_G E kwTM 21 (d + 3) μX10_tightMany 32 [(1, .int x7)] [] σ (some (Value.int r)) σ
  refine kg_iload_n 0 dX10_tightMany_32 rfl (pc2 := 33) rfl ?_
  cases h
  exact kg_iret (ty := .int) dX10_tightMany_33 rfl rfl
def bX10_watches_4 (v1 : Int32) (σ : kw_M) (v2 : Int32) (v3 : Int32) : Option ((Int32 × Int32) ⊕ (Int32)) :=
 (fX10_towns σ).bind fun r1 =>
 if r1 ≤ v3 then
 (some (.inr v2))
 else
 kw_chk (kw_in ((172 : Int32) + ((3 : Int32) * v3)) 2832) <|
 if (σ.1 1 ((172 : Int32) + ((3 : Int32) * v3)).toNatClampNeg) = (1 : Int32) then
 (if v1 = (0 : Int32) then
 (kw_let (v2 ||| ((1 : Int32) <<< (v3 &&& 31))) fun x7 =>
 kw_let (v3 + (1 : Int32)) fun x8 =>
 some (.inl (x7, x8)))
 else
 kw_chk (kw_in (((172 : Int32) + ((3 : Int32) * v3)) + (2 : Int32)) 2832) <|
 if (σ.1 1 (((172 : Int32) + ((3 : Int32) * v3)) + (2 : Int32)).toNatClampNeg) = (1 : Int32) then
 (kw_let (v2 ||| ((1 : Int32) <<< (v3 &&& 31))) fun x12 =>
 kw_let (v3 + (1 : Int32)) fun x13 =>
 some (.inl (x12, x13)))
 else
 kw_let (v3 + (1 : Int32)) fun x11 =>
 some (.inl (v2, x11)))
 else
 kw_let (v3 + (1 : Int32)) fun x5 =>
 some (.inl (v2, x5))
set_option maxHeartbeats 4000000 in
set_option maxRecDepth 100000 in
theorem lX10_watches_4 {E : kw_E} {d : Nat} (v1 : Int32) (σ : kw_M) (v2 : Int32) (v3 : Int32) {v : Option Value} {σ2 : kw_M} {o : (Int32 × Int32) ⊕ (Int32)} (h : bX10_watches_4 v1 σ v2 v3 = some o) (hk : Sum.elim (fun s => kw_G E kwTM 21 (d + 1) μX10_watches 4 [(0, .ref 0), (1, .int v1), (2, .int s.1), (3, .int s.2)] [] σ v σ2) (fun y => kw_G E kwTM 21 (d + 1) μX10_watches 62 [(2, .int y)] [] σ v σ2) o) : kw_G E kwTM 21 (d + 1) μX10_watches 4 [(0, .ref 0), (1, .int v1), (2, .int v2), (3, .int v3)] [] σ v σ2 := by
  unfold bX10_watches_4 at h
  refine kg_iload_n 3 dX10_watches_4 rfl (pc2 := 5) rfl ?_
  refine kg_aload_n 0 dX10_watches_5 rfl (pc2 := 6) rfl ?_
  obtain ⟨r1, r1h, h⟩ := kw_bind_e h
  refine kg_callV (d := d) rfl mVX10_towns [] [.int v3] (gX10_towns (E := E) (d := d) σ r1h) rfl lmRX10_77 (ci := 10) rfl tM_0 eM_0 rfl (Nat.le_of_ble_eq_true rfl) dX10_watches_6 rfl (st2 := [.int r1, .int v3]) rfl (pc2 := 9) rfl ?_
  refine kg_icmp_ge 62 dX10_watches_9 rfl (pc2 := 12) rfl (fun q2 => ?_) (fun q2 => ?_)
  · replace h := (if_pos q2).symm.trans h
    refine kg_sub [2] (lv2 := [(2, .int v2)]) rfl ?_
    cases h
    exact hk
  · replace h := (if_neg q2).symm.trans h
    refine kg_aload_n 0 dX10_watches_12 rfl (pc2 := 13) rfl ?_
    refine kg_getr clX10 rfl 0 (Nat.le_of_ble_eq_true rfl) lfRX10_7 tM_0 eM_0 rfl dX10_watches_13 (pc2 := 16) rfl ?_
    refine kg_sipush dX10_watches_16 ks_172 (pc2 := 19) rfl ?_
    refine kg_iconst dX10_watches_19 ki_3 (pc2 := 20) rfl ?_
    refine kg_iload_n 3 dX10_watches_20 rfl (pc2 := 21) rfl ?_
    refine kg_imul dX10_watches_21 (pc2 := 22) rfl ?_
    refine kg_iadd dX10_watches_22 (pc2 := 23) rfl ?_
    obtain ⟨q3, h⟩ := kw_chk_e h
    refine kg_iald tM_1 eM_1 q3 (j := ((172 : Int32) + ((3 : Int32) * v3)).toNatClampNeg) rfl dX10_watches_23 (pc2 := 24) rfl ?_
    refine kg_iconst dX10_watches_24 ki_1 (pc2 := 25) rfl ?_
    refine kg_icmp_ne 56 dX10_watches_25 rfl (pc2 := 28) rfl (fun q4 => ?_) (fun q4 => ?_)
    · replace h := (if_neg q4).symm.trans h
      obtain ⟨x5, x5e, h⟩ := kw_let_e h
      refine kg_iinc 3 dX10_watches_56 rfl (Nat.le_of_ble_eq_true rfl) x5e (lv2 := [(3, .int x5), (0, .ref 0), (1, .int v1), (2, .int v2)]) rfl (pc2 := 59) rfl ?_
      refine kg_goto 4 dX10_watches_59 rfl ?_
      refine kg_sub [1, 2, 3, 0] (lv2 := [(0, .ref 0), (1, .int v1), (2, .int v2), (3, .int x5)]) rfl ?_
      cases h
      exact hk
    · replace h := (if_pos q4).symm.trans h
      refine kg_iload_n 1 dX10_watches_28 rfl (pc2 := 29) rfl ?_
      refine kg_if_eq 50 dX10_watches_29 rfl (pc2 := 32) rfl (fun q6 => ?_) (fun q6 => ?_)
      · replace h := (if_pos q6).symm.trans h
        refine kg_iload_n 2 dX10_watches_50 rfl (pc2 := 51) rfl ?_
        refine kg_iconst dX10_watches_51 ki_1 (pc2 := 52) rfl ?_
        refine kg_iload_n 3 dX10_watches_52 rfl (pc2 := 53) rfl ?_
        refine kg_ishl dX10_watches_53 (pc2 := 54) rfl ?_
        refine kg_ior dX10_watches_54 (pc2 := 55) rfl ?_
        obtain ⟨x7, x7e, h⟩ := kw_let_e h
        refine kg_istore_n dX10_watches_55 rfl (Nat.le_of_ble_eq_true rfl) x7e (lv2 := [(2, .int x7), (0, .ref 0), (1, .int v1), (3, .int v3)]) rfl (pc2 := 56) rfl ?_
        obtain ⟨x8, x8e, h⟩ := kw_let_e h
        refine kg_iinc 3 dX10_watches_56 rfl (Nat.le_of_ble_eq_true rfl) x8e (lv2 := [(3, .int x8), (2, .int x7), (0, .ref 0), (1, .int v1)]) rfl (pc2 := 59) rfl ?_
        refine kg_goto 4 dX10_watches_59 rfl ?_
        refine kg_sub [2, 3, 1, 0] (lv2 := [(0, .ref 0), (1, .int v1), (2, .int x7), (3, .int x8)]) rfl ?_
        cases h
        exact hk
      · replace h := (if_neg q6).symm.trans h
        refine kg_aload_n 0 dX10_watches_32 rfl (pc2 := 33) rfl ?_
        refine kg_getr clX10 rfl 0 (Nat.le_of_ble_eq_true rfl) lfRX10_7 tM_0 eM_0 rfl dX10_watches_33 (pc2 := 36) rfl ?_
        refine kg_sipush dX10_watches_36 ks_172 (pc2 := 39) rfl ?_
        refine kg_iconst dX10_watches_39 ki_3 (pc2 := 40) rfl ?_
        refine kg_iload_n 3 dX10_watches_40 rfl (pc2 := 41) rfl ?_
        refine kg_imul dX10_watches_41 (pc2 := 42) rfl ?_
        refine kg_iadd dX10_watches_42 (pc2 := 43) rfl ?_
        refine kg_iconst dX10_watches_43 ki_2 (pc2 := 44) rfl ?_
        refine kg_iadd dX10_watches_44 (pc2 := 45) rfl ?_
        obtain ⟨q9, h⟩ := kw_chk_e h
        refine kg_iald tM_1 eM_1 q9 (j := (((172 : Int32) + ((3 : Int32) * v3)) + (2 : Int32)).toNatClampNeg) rfl dX10_watches_45 (pc2 := 46) rfl ?_
        refine kg_iconst dX10_watches_46 ki_1 (pc2 := 47) rfl ?_
        refine kg_icmp_ne 56 dX10_watches_47 rfl (pc2 := 50) rfl (fun q10 => ?_) (fun q10 => ?_)
        · replace h := (if_neg q10).symm.trans h
          obtain ⟨x11, x11e, h⟩ := kw_let_e h
          refine kg_iinc 3 dX10_watches_56 rfl (Nat.le_of_ble_eq_true rfl) x11e (lv2 := [(3, .int x11), (0, .ref 0), (1, .int v1), (2, .int v2)]) rfl (pc2 := 59) rfl ?_
          refine kg_goto 4 dX10_watches_59 rfl ?_
          refine kg_sub [1, 2, 3, 0] (lv2 := [(0, .ref 0), (1, .int v1), (2, .int v2), (3, .int x11)]) rfl ?_
          cases h
          exact hk
        · replace h := (if_pos q10).symm.trans h
          refine kg_iload_n 2 dX10_watches_50 rfl (pc2 := 51) rfl ?_
          refine kg_iconst dX10_watches_51 ki_1 (pc2 := 52) rfl ?_
          refine kg_iload_n 3 dX10_watches_52 rfl (pc2 := 53) rfl ?_
          refine kg_ishl dX10_watches_53 (pc2 := 54) rfl ?_
          refine kg_ior dX10_watches_54 (pc2 := 55) rfl ?_
          obtain ⟨x12, x12e, h⟩ := kw_let_e h
          refine kg_istore_n dX10_watches_55 rfl (Nat.le_of_ble_eq_true rfl) x12e (lv2 := [(2, .int x12), (0, .ref 0), (1, .int v1), (3, .int v3)]) rfl (pc2 := 56) rfl ?_
          obtain ⟨x13, x13e, h⟩ := kw_let_e h
          refine kg_iinc 3 dX10_watches_56 rfl (Nat.le_of_ble_eq_true rfl) x13e (lv2 := [(3, .int x13), (2, .int x12), (0, .ref 0), (1, .int v1)]) rfl (pc2 := 59) rfl ?_
          refine kg_goto 4 dX10_watches_59 rfl ?_
          refine kg_sub [2, 3, 1, 0] (lv2 := [(0, .ref 0), (1, .int v1), (2, .int x12), (3, .int x13)]) rfl ?_
          cases h
          exact hk
def fX10_watches (a1 : Int32) (σ : kw_M) : Option (Int32) :=
 (kw_loop (fun s => bX10_watches_4 a1 σ s.1 s.2) kw_F ((0 : Int32), (0 : Int32))).bind fun x14 =>
 some x14
set_option maxHeartbeats 4000000 in
set_option maxRecDepth 100000 in
theorem gX10_watches {E : kw_E} {d : Nat} (a1 : Int32) (σ : kw_M) {r : Int32} (h : fX10_watches a1 σ = some r) : kw_Met E kwTM 21 (d + 1) μX10_watches [.ref 0, .int a1] σ (some (Value.int r)) σ := by
  refine kw_enter plRX10 (Nat.le_of_ble_eq_true rfl) ?_
  show kw_G E kwTM 21 (d + 1) μX10_watches 0 [(0, .ref 0), (1, .int a1)] [] σ (some (Value.int r)) σ
  unfold fX10_watches at h
  refine kg_iconst dX10_watches_0 ki_0 (pc2 := 1) rfl ?_
  refine kg_istore_n dX10_watches_1 rfl (Nat.le_of_ble_eq_true rfl) rfl (lv2 := [(2, .int (0 : Int32)), (0, .ref 0), (1, .int a1)]) rfl (pc2 := 2) rfl ?_
  refine kg_iconst dX10_watches_2 ki_0 (pc2 := 3) rfl ?_
  refine kg_istore_n dX10_watches_3 rfl (Nat.le_of_ble_eq_true rfl) rfl (lv2 := [(3, .int (0 : Int32)), (2, .int (0 : Int32)), (0, .ref 0), (1, .int a1)]) rfl (pc2 := 4) rfl ?_
  refine kg_sub [2, 3, 1, 0] (lv2 := [(0, .ref 0), (1, .int a1), (2, .int (0 : Int32)), (3, .int (0 : Int32))]) rfl ?_
  obtain ⟨x14, x14h, h⟩ := kw_bind_e h
  refine kw_loop_e (P := fun s => kw_G E kwTM 21 (d + 1) μX10_watches 4 [(0, .ref 0), (1, .int a1), (2, .int s.1), (3, .int s.2)] [] σ (some (Value.int r)) σ) (K := fun y => kw_G E kwTM 21 (d + 1) μX10_watches 62 [(2, .int y)] [] σ (some (Value.int r)) σ) (fun s o h0 hk => lX10_watches_4 a1 σ s.1 s.2 h0 hk) kw_F _ _ x14h ?_
  show kw_G E kwTM 21 (d + 1) μX10_watches 62 [(2, .int x14)] [] σ (some (Value.int r)) σ
  refine kg_iload_n 0 dX10_watches_62 rfl (pc2 := 63) rfl ?_
  cases h
  exact kg_iret (ty := .int) dX10_watches_63 rfl rfl
def fX10_count (a1 : Int32) (σ : kw_M) : Option (Int32 × kw_M) :=
 (fX10_settles σ).bind fun r1 =>
 if a1 = (0 : Int32) then
 ((fX10_towns r1).bind fun r3 =>
 some (r3, r1))
 else
 if a1 = (1 : Int32) then
 (some ((r1.1 1 1), r1))
 else
 if a1 = (2 : Int32) then
 ((fX10_openMany r1).bind fun r6 =>
 some (r6, r1))
 else
 if a1 = (3 : Int32) then
 (some ((r1.1 1 2), r1))
 else
 if a1 = (4 : Int32) then
 (some ((r1.1 1 6), r1))
 else
 if a1 = (5 : Int32) then
 (some ((r1.1 1 3), r1))
 else
 if a1 = (6 : Int32) then
 ((fX10_reached r1).bind fun r11 =>
 some (r11, r1))
 else
 if a1 = (7 : Int32) then
 ((fX10_tightMany r1).bind fun r13 =>
 some (r13, r1))
 else
 if a1 = (8 : Int32) then
 (some ((r1.1 1 4), r1))
 else
 if a1 = (9 : Int32) then
 ((fX10_watches (0 : Int32) r1).bind fun r16 =>
 some (r16, r1))
 else
 if a1 = (10 : Int32) then
 ((fX10_watches (1 : Int32) r1).bind fun r18 =>
 some (r18, r1))
 else
 if a1 = (11 : Int32) then
 ((fX10_middle r1).bind fun r20 =>
 some (r20.1, r20.2))
 else
 if a1 = (12 : Int32) then
 (some ((r1.1 0 6), r1))
 else
 if a1 = (13 : Int32) then
 (some ((r1.1 1 5), r1))
 else
 some ((-1 : Int32), r1)
set_option maxHeartbeats 4000000 in
set_option maxRecDepth 100000 in
theorem gX10_count {E : kw_E} {d : Nat} (a1 : Int32) (σ : kw_M) {r : Int32 × kw_M} (h : fX10_count a1 σ = some r) : kw_Met E kwTM 21 (d + 5) μX10_count [.ref 0, .int a1] σ (some (Value.int r.1)) r.2 := by
  refine kw_enter plRX10 (Nat.le_of_ble_eq_true rfl) ?_
  show kw_G E kwTM 21 (d + 5) μX10_count 0 [(0, .ref 0), (1, .int a1)] [] σ (some (Value.int r.1)) r.2
  unfold fX10_count at h
  refine kg_aload_n 0 dX10_count_0 rfl (pc2 := 1) rfl ?_
  obtain ⟨r1, r1h, h⟩ := kw_bind_e h
  refine kg_callV (d := (d + 4)) rfl mVX10_settles [] [] (gX10_settles (E := E) (d := (d + 1)) σ r1h) rfl lmRX10_104 (ci := 10) rfl tM_0 eM_0 rfl (Nat.le_of_ble_eq_true rfl) dX10_count_1 rfl (st2 := []) rfl (pc2 := 4) rfl ?_
  refine kg_iload_n 1 dX10_count_4 rfl (pc2 := 5) rfl ?_
  by_cases q2 : a1 = (0 : Int32)
  · replace h := (if_pos q2).symm.trans h
    refine kg_tsIn 76 dX10_count_5 (by rw [q2]; decide) (by rw [q2]; decide) (by rw [q2]; decide) rfl ?_
    refine kg_aload_n 0 dX10_count_76 rfl (pc2 := 77) rfl ?_
    obtain ⟨r3, r3h, h⟩ := kw_bind_e h
    refine kg_callV (d := (d + 4)) rfl mVX10_towns [] [] (gX10_towns (E := E) (d := (d + 4)) r1 r3h) rfl lmRX10_77 (ci := 10) rfl tM_0 eM_0 rfl (Nat.le_of_ble_eq_true rfl) dX10_count_77 rfl (st2 := [.int r3]) rfl (pc2 := 80) rfl ?_
    cases h
    exact kg_iret (ty := .int) dX10_count_80 rfl rfl
  · replace h := (if_neg q2).symm.trans h
    by_cases q4 : a1 = (1 : Int32)
    · replace h := (if_pos q4).symm.trans h
      refine kg_tsIn 81 dX10_count_5 (by rw [q4]; decide) (by rw [q4]; decide) (by rw [q4]; decide) rfl ?_
      refine kg_aload_n 0 dX10_count_81 rfl (pc2 := 82) rfl ?_
      refine kg_getr clX10 rfl 0 (Nat.le_of_ble_eq_true rfl) lfRX10_7 tM_0 eM_0 rfl dX10_count_82 (pc2 := 85) rfl ?_
      refine kg_iconst dX10_count_85 ki_1 (pc2 := 86) rfl ?_
      refine kg_iald tM_1 eM_1 (show kw_in (1 : Int32) 2832 by decide) (j := 1) (by decide) dX10_count_86 (pc2 := 87) rfl ?_
      cases h
      exact kg_iret (ty := .int) dX10_count_87 rfl rfl
    · replace h := (if_neg q4).symm.trans h
      by_cases q5 : a1 = (2 : Int32)
      · replace h := (if_pos q5).symm.trans h
        refine kg_tsIn 88 dX10_count_5 (by rw [q5]; decide) (by rw [q5]; decide) (by rw [q5]; decide) rfl ?_
        refine kg_aload_n 0 dX10_count_88 rfl (pc2 := 89) rfl ?_
        obtain ⟨r6, r6h, h⟩ := kw_bind_e h
        refine kg_callV (d := (d + 4)) rfl mVX10_openMany [] [] (gX10_openMany (E := E) (d := (d + 3)) r1 r6h) rfl lmRX10_372 (ci := 10) rfl tM_0 eM_0 rfl (Nat.le_of_ble_eq_true rfl) dX10_count_89 rfl (st2 := [.int r6]) rfl (pc2 := 92) rfl ?_
        cases h
        exact kg_iret (ty := .int) dX10_count_92 rfl rfl
      · replace h := (if_neg q5).symm.trans h
        by_cases q7 : a1 = (3 : Int32)
        · replace h := (if_pos q7).symm.trans h
          refine kg_tsIn 93 dX10_count_5 (by rw [q7]; decide) (by rw [q7]; decide) (by rw [q7]; decide) rfl ?_
          refine kg_aload_n 0 dX10_count_93 rfl (pc2 := 94) rfl ?_
          refine kg_getr clX10 rfl 0 (Nat.le_of_ble_eq_true rfl) lfRX10_7 tM_0 eM_0 rfl dX10_count_94 (pc2 := 97) rfl ?_
          refine kg_iconst dX10_count_97 ki_2 (pc2 := 98) rfl ?_
          refine kg_iald tM_1 eM_1 (show kw_in (2 : Int32) 2832 by decide) (j := 2) (by decide) dX10_count_98 (pc2 := 99) rfl ?_
          cases h
          exact kg_iret (ty := .int) dX10_count_99 rfl rfl
        · replace h := (if_neg q7).symm.trans h
          by_cases q8 : a1 = (4 : Int32)
          · replace h := (if_pos q8).symm.trans h
            refine kg_tsIn 100 dX10_count_5 (by rw [q8]; decide) (by rw [q8]; decide) (by rw [q8]; decide) rfl ?_
            refine kg_aload_n 0 dX10_count_100 rfl (pc2 := 101) rfl ?_
            refine kg_getr clX10 rfl 0 (Nat.le_of_ble_eq_true rfl) lfRX10_7 tM_0 eM_0 rfl dX10_count_101 (pc2 := 104) rfl ?_
            refine kg_bipush dX10_count_104 kb_6 (pc2 := 106) rfl ?_
            refine kg_iald tM_1 eM_1 (show kw_in (6 : Int32) 2832 by decide) (j := 6) (by decide) dX10_count_106 (pc2 := 107) rfl ?_
            cases h
            exact kg_iret (ty := .int) dX10_count_107 rfl rfl
          · replace h := (if_neg q8).symm.trans h
            by_cases q9 : a1 = (5 : Int32)
            · replace h := (if_pos q9).symm.trans h
              refine kg_tsIn 108 dX10_count_5 (by rw [q9]; decide) (by rw [q9]; decide) (by rw [q9]; decide) rfl ?_
              refine kg_aload_n 0 dX10_count_108 rfl (pc2 := 109) rfl ?_
              refine kg_getr clX10 rfl 0 (Nat.le_of_ble_eq_true rfl) lfRX10_7 tM_0 eM_0 rfl dX10_count_109 (pc2 := 112) rfl ?_
              refine kg_iconst dX10_count_112 ki_3 (pc2 := 113) rfl ?_
              refine kg_iald tM_1 eM_1 (show kw_in (3 : Int32) 2832 by decide) (j := 3) (by decide) dX10_count_113 (pc2 := 114) rfl ?_
              cases h
              exact kg_iret (ty := .int) dX10_count_114 rfl rfl
            · replace h := (if_neg q9).symm.trans h
              by_cases q10 : a1 = (6 : Int32)
              · replace h := (if_pos q10).symm.trans h
                refine kg_tsIn 115 dX10_count_5 (by rw [q10]; decide) (by rw [q10]; decide) (by rw [q10]; decide) rfl ?_
                refine kg_aload_n 0 dX10_count_115 rfl (pc2 := 116) rfl ?_
                obtain ⟨r11, r11h, h⟩ := kw_bind_e h
                refine kg_callV (d := (d + 4)) rfl mVX10_reached [] [] (gX10_reached (E := E) (d := (d + 3)) r1 r11h) rfl lmRX10_375 (ci := 10) rfl tM_0 eM_0 rfl (Nat.le_of_ble_eq_true rfl) dX10_count_116 rfl (st2 := [.int r11]) rfl (pc2 := 119) rfl ?_
                cases h
                exact kg_iret (ty := .int) dX10_count_119 rfl rfl
              · replace h := (if_neg q10).symm.trans h
                by_cases q12 : a1 = (7 : Int32)
                · replace h := (if_pos q12).symm.trans h
                  refine kg_tsIn 120 dX10_count_5 (by rw [q12]; decide) (by rw [q12]; decide) (by rw [q12]; decide) rfl ?_
                  refine kg_aload_n 0 dX10_count_120 rfl (pc2 := 121) rfl ?_
                  obtain ⟨r13, r13h, h⟩ := kw_bind_e h
                  refine kg_callV (d := (d + 4)) rfl mVX10_tightMany [] [] (gX10_tightMany (E := E) (d := (d + 1)) r1 r13h) rfl lmRX10_378 (ci := 10) rfl tM_0 eM_0 rfl (Nat.le_of_ble_eq_true rfl) dX10_count_121 rfl (st2 := [.int r13]) rfl (pc2 := 124) rfl ?_
                  cases h
                  exact kg_iret (ty := .int) dX10_count_124 rfl rfl
                · replace h := (if_neg q12).symm.trans h
                  by_cases q14 : a1 = (8 : Int32)
                  · replace h := (if_pos q14).symm.trans h
                    refine kg_tsIn 125 dX10_count_5 (by rw [q14]; decide) (by rw [q14]; decide) (by rw [q14]; decide) rfl ?_
                    refine kg_aload_n 0 dX10_count_125 rfl (pc2 := 126) rfl ?_
                    refine kg_getr clX10 rfl 0 (Nat.le_of_ble_eq_true rfl) lfRX10_7 tM_0 eM_0 rfl dX10_count_126 (pc2 := 129) rfl ?_
                    refine kg_iconst dX10_count_129 ki_4 (pc2 := 130) rfl ?_
                    refine kg_iald tM_1 eM_1 (show kw_in (4 : Int32) 2832 by decide) (j := 4) (by decide) dX10_count_130 (pc2 := 131) rfl ?_
                    cases h
                    exact kg_iret (ty := .int) dX10_count_131 rfl rfl
                  · replace h := (if_neg q14).symm.trans h
                    by_cases q15 : a1 = (9 : Int32)
                    · replace h := (if_pos q15).symm.trans h
                      refine kg_tsIn 132 dX10_count_5 (by rw [q15]; decide) (by rw [q15]; decide) (by rw [q15]; decide) rfl ?_
                      refine kg_aload_n 0 dX10_count_132 rfl (pc2 := 133) rfl ?_
                      refine kg_iconst dX10_count_133 ki_0 (pc2 := 134) rfl ?_
                      obtain ⟨r16, r16h, h⟩ := kw_bind_e h
                      refine kg_callV (d := (d + 4)) rfl mVX10_watches [.int (0 : Int32)] [] (gX10_watches (E := E) (d := (d + 3)) (0 : Int32) r1 r16h) rfl lmRX10_381 (ci := 10) rfl tM_0 eM_0 rfl (Nat.le_of_ble_eq_true rfl) dX10_count_134 rfl (st2 := [.int r16]) rfl (pc2 := 137) rfl ?_
                      cases h
                      exact kg_iret (ty := .int) dX10_count_137 rfl rfl
                    · replace h := (if_neg q15).symm.trans h
                      by_cases q17 : a1 = (10 : Int32)
                      · replace h := (if_pos q17).symm.trans h
                        refine kg_tsIn 138 dX10_count_5 (by rw [q17]; decide) (by rw [q17]; decide) (by rw [q17]; decide) rfl ?_
                        refine kg_aload_n 0 dX10_count_138 rfl (pc2 := 139) rfl ?_
                        refine kg_iconst dX10_count_139 ki_1 (pc2 := 140) rfl ?_
                        obtain ⟨r18, r18h, h⟩ := kw_bind_e h
                        refine kg_callV (d := (d + 4)) rfl mVX10_watches [.int (1 : Int32)] [] (gX10_watches (E := E) (d := (d + 3)) (1 : Int32) r1 r18h) rfl lmRX10_381 (ci := 10) rfl tM_0 eM_0 rfl (Nat.le_of_ble_eq_true rfl) dX10_count_140 rfl (st2 := [.int r18]) rfl (pc2 := 143) rfl ?_
                        cases h
                        exact kg_iret (ty := .int) dX10_count_143 rfl rfl
                      · replace h := (if_neg q17).symm.trans h
                        by_cases q19 : a1 = (11 : Int32)
                        · replace h := (if_pos q19).symm.trans h
                          refine kg_tsIn 144 dX10_count_5 (by rw [q19]; decide) (by rw [q19]; decide) (by rw [q19]; decide) rfl ?_
                          refine kg_aload_n 0 dX10_count_144 rfl (pc2 := 145) rfl ?_
                          obtain ⟨r20, r20h, h⟩ := kw_bind_e h
                          refine kg_callV (d := (d + 4)) rfl mVX10_middle [] [] (gX10_middle (E := E) (d := d) r1 r20h) rfl lmRX10_384 (ci := 10) rfl tM_0 eM_0 rfl (Nat.le_of_ble_eq_true rfl) dX10_count_145 rfl (st2 := [.int r20.1]) rfl (pc2 := 148) rfl ?_
                          cases h
                          exact kg_iret (ty := .int) dX10_count_148 rfl rfl
                        · replace h := (if_neg q19).symm.trans h
                          by_cases q21 : a1 = (12 : Int32)
                          · replace h := (if_pos q21).symm.trans h
                            refine kg_tsIn 149 dX10_count_5 (by rw [q21]; decide) (by rw [q21]; decide) (by rw [q21]; decide) rfl ?_
                            refine kg_aload_n 0 dX10_count_149 rfl (pc2 := 150) rfl ?_
                            refine kg_geti clX10 rfl 6 (Nat.le_of_ble_eq_true rfl) lfRX10_152 tM_0 eM_0 rfl dX10_count_150 (pc2 := 153) rfl ?_
                            cases h
                            exact kg_iret (ty := .int) dX10_count_153 rfl rfl
                          · replace h := (if_neg q21).symm.trans h
                            by_cases q22 : a1 = (13 : Int32)
                            · replace h := (if_pos q22).symm.trans h
                              refine kg_tsIn 154 dX10_count_5 (by rw [q22]; decide) (by rw [q22]; decide) (by rw [q22]; decide) rfl ?_
                              refine kg_aload_n 0 dX10_count_154 rfl (pc2 := 155) rfl ?_
                              refine kg_getr clX10 rfl 0 (Nat.le_of_ble_eq_true rfl) lfRX10_7 tM_0 eM_0 rfl dX10_count_155 (pc2 := 158) rfl ?_
                              refine kg_iconst dX10_count_158 ki_5 (pc2 := 159) rfl ?_
                              refine kg_iald tM_1 eM_1 (show kw_in (5 : Int32) 2832 by decide) (j := 5) (by decide) dX10_count_159 (pc2 := 160) rfl ?_
                              cases h
                              exact kg_iret (ty := .int) dX10_count_160 rfl rfl
                            · replace h := (if_neg q22).symm.trans h
                              refine kg_tsOut 161 dX10_count_5 (by have a0 := kw_neI (n := 0) (by decide) q2; have a1 := kw_neI (n := 1) (by decide) q4; have a2 := kw_neI (n := 2) (by decide) q5; have a3 := kw_neI (n := 3) (by decide) q7; have a4 := kw_neI (n := 4) (by decide) q8; have a5 := kw_neI (n := 5) (by decide) q9; have a6 := kw_neI (n := 6) (by decide) q10; have a7 := kw_neI (n := 7) (by decide) q12; have a8 := kw_neI (n := 8) (by decide) q14; have a9 := kw_neI (n := 9) (by decide) q15; have a10 := kw_neI (n := 10) (by decide) q17; have a11 := kw_neI (n := 11) (by decide) q19; have a12 := kw_neI (n := 12) (by decide) q21; have a13 := kw_neI (n := 13) (by decide) q22; omega) rfl ?_
                              refine kg_iconst dX10_count_161 ki_m1 (pc2 := 162) rfl ?_
                              cases h
                              exact kg_iret (ty := .int) dX10_count_162 rfl rfl
def fX10_road (a1 : Int32) (a2 : Int32) (σ : kw_M) : Option (Int64 × kw_M) :=
 (fX10_isRoad a1 σ).bind fun r1 =>
 if r1 = (0 : Int32) then
 (some ((-9000000000000000000 : Int64), σ))
 else
 (fX10_in a2.toInt64 (0 : Int64) (5 : Int64) σ).bind fun r3 =>
 if r3 = (0 : Int32) then
 (some ((-9000000000000000000 : Int64), σ))
 else
 if (4 : Int32) ≤ a2 then
 ((fX10_settles σ).bind fun r6 =>
 if a2 = (4 : Int32) then
 ((fX10_isTight a1 r6).bind fun r11 =>
 if r11 = (0 : Int32) then
 (some ((0 : Int64), r6))
 else
 some ((1 : Int64), r6))
 else
 (fX10_of a1 (1 : Int32) r6).bind fun r8 =>
 (fX10_parentOf r8 r6).bind fun r9 =>
 if r9 = a1 then
 (some ((1 : Int64), r6))
 else
 some ((0 : Int64), r6))
 else
 (fX10_of a1 a2 σ).bind fun r13 =>
 some (r13.toInt64, σ)
set_option maxHeartbeats 4000000 in
set_option maxRecDepth 100000 in
theorem gX10_road {E : kw_E} {d : Nat} (a1 : Int32) (a2 : Int32) (σ : kw_M) {r : Int64 × kw_M} (h : fX10_road a1 a2 σ = some r) : kw_Met E kwTM 21 (d + 4) μX10_road [.ref 0, .int a1, .int a2] σ (some (Value.long r.1)) r.2 := by
  refine kw_enter plRX10 (Nat.le_of_ble_eq_true rfl) ?_
  show kw_G E kwTM 21 (d + 4) μX10_road 0 [(0, .ref 0), (1, .int a1), (2, .int a2)] [] σ (some (Value.long r.1)) r.2
  unfold fX10_road at h
  refine kg_aload_n 0 dX10_road_0 rfl (pc2 := 1) rfl ?_
  refine kg_iload_n 1 dX10_road_1 rfl (pc2 := 2) rfl ?_
  obtain ⟨r1, r1h, h⟩ := kw_bind_e h
  refine kg_callV (d := (d + 3)) rfl mVX10_isRoad [.int a1] [] (gX10_isRoad (E := E) (d := (d + 2)) a1 σ r1h) rfl lmRX10_146 (ci := 10) rfl tM_0 eM_0 rfl (Nat.le_of_ble_eq_true rfl) dX10_road_2 rfl (st2 := [.int r1]) rfl (pc2 := 5) rfl ?_
  refine kg_if_eq 20 dX10_road_5 rfl (pc2 := 8) rfl (fun q2 => ?_) (fun q2 => ?_)
  · replace h := (if_pos q2).symm.trans h
    refine kg_ldc2 rfl lcRX10_99 dX10_road_20 (pc2 := 23) rfl ?_
    cases h
    exact kg_lret dX10_road_23 rfl
  · replace h := (if_neg q2).symm.trans h
    refine kg_iload_n 2 dX10_road_8 rfl (pc2 := 9) rfl ?_
    refine kg_i2l dX10_road_9 (pc2 := 10) rfl ?_
    refine kg_lconst dX10_road_10 kl_0 (pc2 := 11) rfl ?_
    refine kg_ldc2 rfl lcRX10_387 dX10_road_11 (pc2 := 14) rfl ?_
    obtain ⟨r3, r3h, h⟩ := kw_bind_e h
    refine kg_callS (d := (d + 3)) rfl mSX10_in [.long a2.toInt64, .long (0 : Int64), .long (5 : Int64)] [] (gX10_in (E := E) (d := (d + 3)) a2.toInt64 (0 : Int64) (5 : Int64) σ r3h) rfl lmRX10_81 rfl (Nat.le_of_ble_eq_true rfl) dX10_road_14 rfl (st2 := [.int r3]) rfl (pc2 := 17) rfl ?_
    refine kg_if_ne 24 dX10_road_17 rfl (pc2 := 20) rfl (fun q4 => ?_) (fun q4 => ?_)
    · replace h := (if_neg q4).symm.trans h
      refine kg_iload_n 2 dX10_road_24 rfl (pc2 := 25) rfl ?_
      refine kg_iconst dX10_road_25 ki_4 (pc2 := 26) rfl ?_
      refine kg_icmp_ge 37 dX10_road_26 rfl (pc2 := 29) rfl (fun q5 => ?_) (fun q5 => ?_)
      · replace h := (if_pos q5).symm.trans h
        refine kg_aload_n 0 dX10_road_37 rfl (pc2 := 38) rfl ?_
        obtain ⟨r6, r6h, h⟩ := kw_bind_e h
        refine kg_callV (d := (d + 3)) rfl mVX10_settles [] [] (gX10_settles (E := E) (d := d) σ r6h) rfl lmRX10_104 (ci := 10) rfl tM_0 eM_0 rfl (Nat.le_of_ble_eq_true rfl) dX10_road_38 rfl (st2 := []) rfl (pc2 := 41) rfl ?_
        refine kg_iload_n 2 dX10_road_41 rfl (pc2 := 42) rfl ?_
        refine kg_iconst dX10_road_42 ki_4 (pc2 := 43) rfl ?_
        refine kg_icmp_ne 60 dX10_road_43 rfl (pc2 := 46) rfl (fun q7 => ?_) (fun q7 => ?_)
        · replace h := (if_neg q7).symm.trans h
          refine kg_aload_n 0 dX10_road_60 rfl (pc2 := 61) rfl ?_
          refine kg_aload_n 0 dX10_road_61 rfl (pc2 := 62) rfl ?_
          refine kg_iload_n 1 dX10_road_62 rfl (pc2 := 63) rfl ?_
          refine kg_iconst dX10_road_63 ki_1 (pc2 := 64) rfl ?_
          obtain ⟨r8, r8h, h⟩ := kw_bind_e h
          refine kg_callV (d := (d + 3)) rfl mVX10_of [.int a1, .int (1 : Int32)] [.ref 0] (gX10_of (E := E) (d := (d + 3)) a1 (1 : Int32) r6 r8h) rfl lmRX10_73 (ci := 10) rfl tM_0 eM_0 rfl (Nat.le_of_ble_eq_true rfl) dX10_road_64 rfl (st2 := [.int r8, .ref 0]) rfl (pc2 := 67) rfl ?_
          obtain ⟨r9, r9h, h⟩ := kw_bind_e h
          refine kg_callV (d := (d + 3)) rfl mVX10_parentOf [.int r8] [] (gX10_parentOf (E := E) (d := d) r8 r6 r9h) rfl lmRX10_306 (ci := 10) rfl tM_0 eM_0 rfl (Nat.le_of_ble_eq_true rfl) dX10_road_67 rfl (st2 := [.int r9]) rfl (pc2 := 70) rfl ?_
          refine kg_iload_n 1 dX10_road_70 rfl (pc2 := 71) rfl ?_
          refine kg_icmp_ne 78 dX10_road_71 rfl (pc2 := 74) rfl (fun q10 => ?_) (fun q10 => ?_)
          · replace h := (if_neg q10).symm.trans h
            refine kg_lconst dX10_road_78 kl_0 (pc2 := 79) rfl ?_
            cases h
            exact kg_lret dX10_road_79 rfl
          · replace h := (if_pos q10).symm.trans h
            refine kg_lconst dX10_road_74 kl_1 (pc2 := 75) rfl ?_
            refine kg_goto 79 dX10_road_75 rfl ?_
            cases h
            exact kg_lret dX10_road_79 rfl
        · replace h := (if_pos q7).symm.trans h
          refine kg_aload_n 0 dX10_road_46 rfl (pc2 := 47) rfl ?_
          refine kg_iload_n 1 dX10_road_47 rfl (pc2 := 48) rfl ?_
          obtain ⟨r11, r11h, h⟩ := kw_bind_e h
          refine kg_callV (d := (d + 3)) rfl mVX10_isTight [.int a1] [] (gX10_isTight (E := E) (d := (d + 1)) a1 r6 r11h) rfl lmRX10_303 (ci := 10) rfl tM_0 eM_0 rfl (Nat.le_of_ble_eq_true rfl) dX10_road_48 rfl (st2 := [.int r11]) rfl (pc2 := 51) rfl ?_
          refine kg_if_eq 58 dX10_road_51 rfl (pc2 := 54) rfl (fun q12 => ?_) (fun q12 => ?_)
          · replace h := (if_pos q12).symm.trans h
            refine kg_lconst dX10_road_58 kl_0 (pc2 := 59) rfl ?_
            cases h
            exact kg_lret dX10_road_59 rfl
          · replace h := (if_neg q12).symm.trans h
            refine kg_lconst dX10_road_54 kl_1 (pc2 := 55) rfl ?_
            refine kg_goto 59 dX10_road_55 rfl ?_
            cases h
            exact kg_lret dX10_road_59 rfl
      · replace h := (if_neg q5).symm.trans h
        refine kg_aload_n 0 dX10_road_29 rfl (pc2 := 30) rfl ?_
        refine kg_iload_n 1 dX10_road_30 rfl (pc2 := 31) rfl ?_
        refine kg_iload_n 2 dX10_road_31 rfl (pc2 := 32) rfl ?_
        obtain ⟨r13, r13h, h⟩ := kw_bind_e h
        refine kg_callV (d := (d + 3)) rfl mVX10_of [.int a1, .int a2] [] (gX10_of (E := E) (d := (d + 3)) a1 a2 σ r13h) rfl lmRX10_73 (ci := 10) rfl tM_0 eM_0 rfl (Nat.le_of_ble_eq_true rfl) dX10_road_32 rfl (st2 := [.int r13]) rfl (pc2 := 35) rfl ?_
        refine kg_i2l dX10_road_35 (pc2 := 36) rfl ?_
        cases h
        exact kg_lret dX10_road_36 rfl
    · replace h := (if_pos q4).symm.trans h
      refine kg_ldc2 rfl lcRX10_99 dX10_road_20 (pc2 := 23) rfl ?_
      cases h
      exact kg_lret dX10_road_23 rfl
def fX10_change (a1 : Int32) (a2 : Int32) (σ : kw_M) : Option (Int64 × kw_M) :=
 (fX10_isRoad a1 σ).bind fun r1 =>
 if r1 = (0 : Int32) then
 (some ((-9000000000000000000 : Int64), σ))
 else
 (fX10_in a2.toInt64 (0 : Int64) (2 : Int64) σ).bind fun r3 =>
 if r3 = (0 : Int32) then
 (some ((-9000000000000000000 : Int64), σ))
 else
 (fX10_isOpen a1 σ).bind fun r5 =>
 if r5 = (0 : Int32) then
 (some ((-9000000000000000000 : Int64), σ))
 else
 (fX10_settles σ).bind fun r7 =>
 (fX10_slackOf a1 r7).bind fun r8 =>
 if a2 = (0 : Int32) then
 ((fX10_told r8 r7).bind fun r16 =>
 some (r16, r7))
 else
 if a2 = (2 : Int32) then
 (if r8 = (900000000000000000 : Int64) then
 (some ((-1 : Int64), r7))
 else
 some (r8, r7))
 else
 if r8 = (0 : Int64) then
 ((fX10_of a1 (1 : Int32) r7).bind fun r12 =>
 (fX10_tightTo r12 r7).bind fun r13 =>
 if r13 = (1 : Int32) then
 (some ((0 : Int64), r7))
 else
 some ((-1 : Int64), r7))
 else
 some ((-1 : Int64), r7)
set_option maxHeartbeats 4000000 in
set_option maxRecDepth 100000 in
theorem gX10_change {E : kw_E} {d : Nat} (a1 : Int32) (a2 : Int32) (σ : kw_M) {r : Int64 × kw_M} (h : fX10_change a1 a2 σ = some r) : kw_Met E kwTM 21 (d + 4) μX10_change [.ref 0, .int a1, .int a2] σ (some (Value.long r.1)) r.2 := by
  refine kw_enter plRX10 (Nat.le_of_ble_eq_true rfl) ?_
  show kw_G E kwTM 21 (d + 4) μX10_change 0 [(0, .ref 0), (1, .int a1), (2, .int a2)] [] σ (some (Value.long r.1)) r.2
  unfold fX10_change at h
  refine kg_aload_n 0 dX10_change_0 rfl (pc2 := 1) rfl ?_
  refine kg_iload_n 1 dX10_change_1 rfl (pc2 := 2) rfl ?_
  obtain ⟨r1, r1h, h⟩ := kw_bind_e h
  refine kg_callV (d := (d + 3)) rfl mVX10_isRoad [.int a1] [] (gX10_isRoad (E := E) (d := (d + 2)) a1 σ r1h) rfl lmRX10_146 (ci := 10) rfl tM_0 eM_0 rfl (Nat.le_of_ble_eq_true rfl) dX10_change_2 rfl (st2 := [.int r1]) rfl (pc2 := 5) rfl ?_
  refine kg_if_eq 28 dX10_change_5 rfl (pc2 := 8) rfl (fun q2 => ?_) (fun q2 => ?_)
  · replace h := (if_pos q2).symm.trans h
    refine kg_ldc2 rfl lcRX10_99 dX10_change_28 (pc2 := 31) rfl ?_
    cases h
    exact kg_lret dX10_change_31 rfl
  · replace h := (if_neg q2).symm.trans h
    refine kg_iload_n 2 dX10_change_8 rfl (pc2 := 9) rfl ?_
    refine kg_i2l dX10_change_9 (pc2 := 10) rfl ?_
    refine kg_lconst dX10_change_10 kl_0 (pc2 := 11) rfl ?_
    refine kg_ldc2 rfl lcRX10_220 dX10_change_11 (pc2 := 14) rfl ?_
    obtain ⟨r3, r3h, h⟩ := kw_bind_e h
    refine kg_callS (d := (d + 3)) rfl mSX10_in [.long a2.toInt64, .long (0 : Int64), .long (2 : Int64)] [] (gX10_in (E := E) (d := (d + 3)) a2.toInt64 (0 : Int64) (2 : Int64) σ r3h) rfl lmRX10_81 rfl (Nat.le_of_ble_eq_true rfl) dX10_change_14 rfl (st2 := [.int r3]) rfl (pc2 := 17) rfl ?_
    refine kg_if_eq 28 dX10_change_17 rfl (pc2 := 20) rfl (fun q4 => ?_) (fun q4 => ?_)
    · replace h := (if_pos q4).symm.trans h
      refine kg_ldc2 rfl lcRX10_99 dX10_change_28 (pc2 := 31) rfl ?_
      cases h
      exact kg_lret dX10_change_31 rfl
    · replace h := (if_neg q4).symm.trans h
      refine kg_aload_n 0 dX10_change_20 rfl (pc2 := 21) rfl ?_
      refine kg_iload_n 1 dX10_change_21 rfl (pc2 := 22) rfl ?_
      obtain ⟨r5, r5h, h⟩ := kw_bind_e h
      refine kg_callV (d := (d + 3)) rfl mVX10_isOpen [.int a1] [] (gX10_isOpen (E := E) (d := (d + 2)) a1 σ r5h) rfl lmRX10_91 (ci := 10) rfl tM_0 eM_0 rfl (Nat.le_of_ble_eq_true rfl) dX10_change_22 rfl (st2 := [.int r5]) rfl (pc2 := 25) rfl ?_
      refine kg_if_ne 32 dX10_change_25 rfl (pc2 := 28) rfl (fun q6 => ?_) (fun q6 => ?_)
      · replace h := (if_neg q6).symm.trans h
        refine kg_aload_n 0 dX10_change_32 rfl (pc2 := 33) rfl ?_
        obtain ⟨r7, r7h, h⟩ := kw_bind_e h
        refine kg_callV (d := (d + 3)) rfl mVX10_settles [] [] (gX10_settles (E := E) (d := d) σ r7h) rfl lmRX10_104 (ci := 10) rfl tM_0 eM_0 rfl (Nat.le_of_ble_eq_true rfl) dX10_change_33 rfl (st2 := []) rfl (pc2 := 36) rfl ?_
        refine kg_aload_n 0 dX10_change_36 rfl (pc2 := 37) rfl ?_
        refine kg_iload_n 1 dX10_change_37 rfl (pc2 := 38) rfl ?_
        obtain ⟨r8, r8h, h⟩ := kw_bind_e h
        refine kg_callV (d := (d + 3)) rfl mVX10_slackOf [.int a1] [] (gX10_slackOf (E := E) (d := (d + 2)) a1 r7 r8h) rfl lmRX10_299 (ci := 10) rfl tM_0 eM_0 rfl (Nat.le_of_ble_eq_true rfl) dX10_change_38 rfl (st2 := [.long r8]) rfl (pc2 := 41) rfl ?_
        refine kg_lstore_n dX10_change_41 rfl (Nat.le_of_ble_eq_true rfl) rfl (lv2 := [(3, .long r8), (0, .ref 0), (1, .int a1), (2, .int a2)]) rfl (pc2 := 42) rfl ?_
        refine kg_iload_n 3 dX10_change_42 rfl (pc2 := 43) rfl ?_
        refine kg_if_ne 51 dX10_change_43 rfl (pc2 := 46) rfl (fun q9 => ?_) (fun q9 => ?_)
        · replace h := (if_neg q9).symm.trans h
          refine kg_iload_n 3 dX10_change_51 rfl (pc2 := 52) rfl ?_
          refine kg_iconst dX10_change_52 ki_2 (pc2 := 53) rfl ?_
          refine kg_icmp_ne 72 dX10_change_53 rfl (pc2 := 56) rfl (fun q10 => ?_) (fun q10 => ?_)
          · replace h := (if_neg q10).symm.trans h
            refine kg_lload_n 0 dX10_change_72 rfl (pc2 := 73) rfl ?_
            refine kg_lconst dX10_change_73 kl_0 (pc2 := 74) rfl ?_
            refine kg_lcmp_ne 96 dX10_change_74 dX10_change_75 rfl (pc2 := 78) rfl (fun q11 => ?_) (fun q11 => ?_)
            · replace h := (if_neg q11).symm.trans h
              refine kg_ldc2 rfl lcRX10_188 dX10_change_96 (pc2 := 99) rfl ?_
              cases h
              exact kg_lret dX10_change_99 rfl
            · replace h := (if_pos q11).symm.trans h
              refine kg_aload_n 1 dX10_change_78 rfl (pc2 := 79) rfl ?_
              refine kg_aload_n 1 dX10_change_79 rfl (pc2 := 80) rfl ?_
              refine kg_iload_n 2 dX10_change_80 rfl (pc2 := 81) rfl ?_
              refine kg_iconst dX10_change_81 ki_1 (pc2 := 82) rfl ?_
              obtain ⟨r12, r12h, h⟩ := kw_bind_e h
              refine kg_callV (d := (d + 3)) rfl mVX10_of [.int a1, .int (1 : Int32)] [.ref 0] (gX10_of (E := E) (d := (d + 3)) a1 (1 : Int32) r7 r12h) rfl lmRX10_73 (ci := 10) rfl tM_0 eM_0 rfl (Nat.le_of_ble_eq_true rfl) dX10_change_82 rfl (st2 := [.int r12, .ref 0]) rfl (pc2 := 85) rfl ?_
              obtain ⟨r13, r13h, h⟩ := kw_bind_e h
              refine kg_callV (d := (d + 3)) rfl mVX10_tightTo [.int r12] [] (gX10_tightTo (E := E) (d := d) r12 r7 r13h) rfl lmRX10_342 (ci := 10) rfl tM_0 eM_0 rfl (Nat.le_of_ble_eq_true rfl) dX10_change_85 rfl (st2 := [.int r13]) rfl (pc2 := 88) rfl ?_
              refine kg_iconst dX10_change_88 ki_1 (pc2 := 89) rfl ?_
              refine kg_icmp_ne 96 dX10_change_89 rfl (pc2 := 92) rfl (fun q14 => ?_) (fun q14 => ?_)
              · replace h := (if_neg q14).symm.trans h
                refine kg_ldc2 rfl lcRX10_188 dX10_change_96 (pc2 := 99) rfl ?_
                cases h
                exact kg_lret dX10_change_99 rfl
              · replace h := (if_pos q14).symm.trans h
                refine kg_lconst dX10_change_92 kl_0 (pc2 := 93) rfl ?_
                refine kg_goto 99 dX10_change_93 rfl ?_
                cases h
                exact kg_lret dX10_change_99 rfl
          · replace h := (if_pos q10).symm.trans h
            refine kg_lload_n 0 dX10_change_56 rfl (pc2 := 57) rfl ?_
            refine kg_ldc2 rfl lcRX10_89 dX10_change_57 (pc2 := 60) rfl ?_
            refine kg_lcmp_ne 70 dX10_change_60 dX10_change_61 rfl (pc2 := 64) rfl (fun q15 => ?_) (fun q15 => ?_)
            · replace h := (if_neg q15).symm.trans h
              refine kg_lload_n 0 dX10_change_70 rfl (pc2 := 71) rfl ?_
              cases h
              exact kg_lret dX10_change_71 rfl
            · replace h := (if_pos q15).symm.trans h
              refine kg_ldc2 rfl lcRX10_188 dX10_change_64 (pc2 := 67) rfl ?_
              refine kg_goto 71 dX10_change_67 rfl ?_
              cases h
              exact kg_lret dX10_change_71 rfl
        · replace h := (if_pos q9).symm.trans h
          refine kg_lload_n 0 dX10_change_46 rfl (pc2 := 47) rfl ?_
          obtain ⟨r16, r16h, h⟩ := kw_bind_e h
          refine kg_callS (d := (d + 3)) rfl mSX10_told [.long r8] [] (gX10_told (E := E) (d := (d + 3)) r8 r7 r16h) rfl lmRX10_336 rfl (Nat.le_of_ble_eq_true rfl) dX10_change_47 rfl (st2 := [.long r16]) rfl (pc2 := 50) rfl ?_
          cases h
          exact kg_lret dX10_change_50 rfl
      · replace h := (if_pos q6).symm.trans h
        refine kg_ldc2 rfl lcRX10_99 dX10_change_28 (pc2 := 31) rfl ?_
        cases h
        exact kg_lret dX10_change_31 rfl
def fX10_way (a1 : Int32) (a2 : Int32) (σ : kw_M) : Option (Int32 × kw_M) :=
 (fX10_isTown a1 σ).bind fun r1 =>
 if r1 = (0 : Int32) then
 (some ((-1 : Int32), σ))
 else
 if (0 : Int32) ≤ a2 then
 ((fX10_settles σ).bind fun r4 =>
 (fX10_goesBack a1 r4).bind fun r5 =>
 if r5.1 = (-1 : Int32) then
 (some ((-1 : Int32), r5.2))
 else
 if r5.1 ≤ a2 then
 (some ((-4 : Int32), r5.2))
 else
 kw_chk (kw_in ((r5.1 - (1 : Int32)) - a2) 12) <|
 some ((r5.2.1 8 ((r5.1 - (1 : Int32)) - a2).toNatClampNeg), r5.2))
 else
 some ((-1 : Int32), σ)
set_option maxHeartbeats 4000000 in
set_option maxRecDepth 100000 in
theorem gX10_way {E : kw_E} {d : Nat} (a1 : Int32) (a2 : Int32) (σ : kw_M) {r : Int32 × kw_M} (h : fX10_way a1 a2 σ = some r) : kw_Met E kwTM 21 (d + 5) μX10_way [.ref 0, .int a1, .int a2] σ (some (Value.int r.1)) r.2 := by
  refine kw_enter plRX10 (Nat.le_of_ble_eq_true rfl) ?_
  show kw_G E kwTM 21 (d + 5) μX10_way 0 [(0, .ref 0), (1, .int a1), (2, .int a2)] [] σ (some (Value.int r.1)) r.2
  unfold fX10_way at h
  refine kg_aload_n 0 dX10_way_0 rfl (pc2 := 1) rfl ?_
  refine kg_iload_n 1 dX10_way_1 rfl (pc2 := 2) rfl ?_
  obtain ⟨r1, r1h, h⟩ := kw_bind_e h
  refine kg_callV (d := (d + 4)) rfl mVX10_isTown [.int a1] [] (gX10_isTown (E := E) (d := (d + 3)) a1 σ r1h) rfl lmRX10_121 (ci := 10) rfl tM_0 eM_0 rfl (Nat.le_of_ble_eq_true rfl) dX10_way_2 rfl (st2 := [.int r1]) rfl (pc2 := 5) rfl ?_
  refine kg_if_eq 12 dX10_way_5 rfl (pc2 := 8) rfl (fun q2 => ?_) (fun q2 => ?_)
  · replace h := (if_pos q2).symm.trans h
    refine kg_iconst dX10_way_12 ki_m1 (pc2 := 13) rfl ?_
    cases h
    exact kg_iret (ty := .int) dX10_way_13 rfl rfl
  · replace h := (if_neg q2).symm.trans h
    refine kg_iload_n 2 dX10_way_8 rfl (pc2 := 9) rfl ?_
    refine kg_if_ge 14 dX10_way_9 rfl (pc2 := 12) rfl (fun q3 => ?_) (fun q3 => ?_)
    · replace h := (if_pos q3).symm.trans h
      refine kg_aload_n 0 dX10_way_14 rfl (pc2 := 15) rfl ?_
      obtain ⟨r4, r4h, h⟩ := kw_bind_e h
      refine kg_callV (d := (d + 4)) rfl mVX10_settles [] [] (gX10_settles (E := E) (d := (d + 1)) σ r4h) rfl lmRX10_104 (ci := 10) rfl tM_0 eM_0 rfl (Nat.le_of_ble_eq_true rfl) dX10_way_15 rfl (st2 := []) rfl (pc2 := 18) rfl ?_
      refine kg_aload_n 0 dX10_way_18 rfl (pc2 := 19) rfl ?_
      refine kg_iload_n 1 dX10_way_19 rfl (pc2 := 20) rfl ?_
      obtain ⟨r5, r5h, h⟩ := kw_bind_e h
      refine kg_callV (d := (d + 4)) rfl mVX10_goesBack [.int a1] [] (gX10_goesBack (E := E) (d := d) a1 r4 r5h) rfl lmRX10_315 (ci := 10) rfl tM_0 eM_0 rfl (Nat.le_of_ble_eq_true rfl) dX10_way_20 rfl (st2 := [.int r5.1]) rfl (pc2 := 23) rfl ?_
      refine kg_istore_n dX10_way_23 rfl (Nat.le_of_ble_eq_true rfl) rfl (lv2 := [(3, .int r5.1), (0, .ref 0), (1, .int a1), (2, .int a2)]) rfl (pc2 := 24) rfl ?_
      refine kg_iload_n 0 dX10_way_24 rfl (pc2 := 25) rfl ?_
      refine kg_iconst dX10_way_25 ki_m1 (pc2 := 26) rfl ?_
      refine kg_icmp_ne 33 dX10_way_26 rfl (pc2 := 29) rfl (fun q6 => ?_) (fun q6 => ?_)
      · replace h := (if_neg q6).symm.trans h
        refine kg_iload_n 3 dX10_way_33 rfl (pc2 := 34) rfl ?_
        refine kg_iload_n 0 dX10_way_34 rfl (pc2 := 35) rfl ?_
        refine kg_icmp_ge 51 dX10_way_35 rfl (pc2 := 38) rfl (fun q7 => ?_) (fun q7 => ?_)
        · replace h := (if_pos q7).symm.trans h
          refine kg_bipush dX10_way_51 kb_m4 (pc2 := 53) rfl ?_
          cases h
          exact kg_iret (ty := .int) dX10_way_53 rfl rfl
        · replace h := (if_neg q7).symm.trans h
          refine kg_aload_n 1 dX10_way_38 rfl (pc2 := 39) rfl ?_
          refine kg_getr clX10 rfl 18 (Nat.le_of_ble_eq_true rfl) lfRX10_33 tM_0 eM_0 rfl dX10_way_39 (pc2 := 42) rfl ?_
          refine kg_iload_n 0 dX10_way_42 rfl (pc2 := 43) rfl ?_
          refine kg_iconst dX10_way_43 ki_1 (pc2 := 44) rfl ?_
          refine kg_isub dX10_way_44 (pc2 := 45) rfl ?_
          refine kg_iload_n 3 dX10_way_45 rfl (pc2 := 46) rfl ?_
          refine kg_isub dX10_way_46 (pc2 := 47) rfl ?_
          obtain ⟨q8, h⟩ := kw_chk_e h
          refine kg_iald tM_8 eM_8 q8 (j := ((r5.1 - (1 : Int32)) - a2).toNatClampNeg) rfl dX10_way_47 (pc2 := 48) rfl ?_
          refine kg_goto 53 dX10_way_48 rfl ?_
          cases h
          exact kg_iret (ty := .int) dX10_way_53 rfl rfl
      · replace h := (if_pos q6).symm.trans h
        refine kg_iconst dX10_way_29 ki_m1 (pc2 := 30) rfl ?_
        refine kg_goto 53 dX10_way_30 rfl ?_
        cases h
        exact kg_iret (ty := .int) dX10_way_53 rfl rfl
    · replace h := (if_neg q3).symm.trans h
      refine kg_iconst dX10_way_12 ki_m1 (pc2 := 13) rfl ?_
      cases h
      exact kg_iret (ty := .int) dX10_way_13 rfl rfl
def fX10_needed (a1 : Int32) (a2 : Int32) (σ : kw_M) : Option (Int32 × kw_M) :=
 (fX10_isRoad a1 σ).bind fun r1 =>
 if r1 = (0 : Int32) then
 (some ((-1 : Int32), σ))
 else
 (fX10_isTown a2 σ).bind fun r3 =>
 if r3 = (0 : Int32) then
 (some ((-1 : Int32), σ))
 else
 (fX10_isOpen a1 σ).bind fun r5 =>
 if r5 = (0 : Int32) then
 (some ((-1 : Int32), σ))
 else
 (fX10_settles σ).bind fun r7 =>
 kw_chk (kw_in a2 12) <|
 if (r7.2 3 a2.toNatClampNeg) = (900000000000000000 : Int64) then
 (some ((-1 : Int32), r7))
 else
 (fX10_isTight a1 r7).bind fun r10 =>
 if r10 = (0 : Int32) then
 (some ((0 : Int32), r7))
 else
 (fX10_isNeeded a1 a2 r7).bind fun r12 =>
 if r12.1 = (0 : Int32) then
 (some ((0 : Int32), r12.2))
 else
 some ((1 : Int32), r12.2)
set_option maxHeartbeats 4000000 in
set_option maxRecDepth 100000 in
theorem gX10_needed {E : kw_E} {d : Nat} (a1 : Int32) (a2 : Int32) (σ : kw_M) {r : Int32 × kw_M} (h : fX10_needed a1 a2 σ = some r) : kw_Met E kwTM 21 (d + 5) μX10_needed [.ref 0, .int a1, .int a2] σ (some (Value.int r.1)) r.2 := by
  refine kw_enter plRX10 (Nat.le_of_ble_eq_true rfl) ?_
  show kw_G E kwTM 21 (d + 5) μX10_needed 0 [(0, .ref 0), (1, .int a1), (2, .int a2)] [] σ (some (Value.int r.1)) r.2
  unfold fX10_needed at h
  refine kg_aload_n 0 dX10_needed_0 rfl (pc2 := 1) rfl ?_
  refine kg_iload_n 1 dX10_needed_1 rfl (pc2 := 2) rfl ?_
  obtain ⟨r1, r1h, h⟩ := kw_bind_e h
  refine kg_callV (d := (d + 4)) rfl mVX10_isRoad [.int a1] [] (gX10_isRoad (E := E) (d := (d + 3)) a1 σ r1h) rfl lmRX10_146 (ci := 10) rfl tM_0 eM_0 rfl (Nat.le_of_ble_eq_true rfl) dX10_needed_2 rfl (st2 := [.int r1]) rfl (pc2 := 5) rfl ?_
  refine kg_if_eq 24 dX10_needed_5 rfl (pc2 := 8) rfl (fun q2 => ?_) (fun q2 => ?_)
  · replace h := (if_pos q2).symm.trans h
    refine kg_iconst dX10_needed_24 ki_m1 (pc2 := 25) rfl ?_
    cases h
    exact kg_iret (ty := .int) dX10_needed_25 rfl rfl
  · replace h := (if_neg q2).symm.trans h
    refine kg_aload_n 0 dX10_needed_8 rfl (pc2 := 9) rfl ?_
    refine kg_iload_n 2 dX10_needed_9 rfl (pc2 := 10) rfl ?_
    obtain ⟨r3, r3h, h⟩ := kw_bind_e h
    refine kg_callV (d := (d + 4)) rfl mVX10_isTown [.int a2] [] (gX10_isTown (E := E) (d := (d + 3)) a2 σ r3h) rfl lmRX10_121 (ci := 10) rfl tM_0 eM_0 rfl (Nat.le_of_ble_eq_true rfl) dX10_needed_10 rfl (st2 := [.int r3]) rfl (pc2 := 13) rfl ?_
    refine kg_if_eq 24 dX10_needed_13 rfl (pc2 := 16) rfl (fun q4 => ?_) (fun q4 => ?_)
    · replace h := (if_pos q4).symm.trans h
      refine kg_iconst dX10_needed_24 ki_m1 (pc2 := 25) rfl ?_
      cases h
      exact kg_iret (ty := .int) dX10_needed_25 rfl rfl
    · replace h := (if_neg q4).symm.trans h
      refine kg_aload_n 0 dX10_needed_16 rfl (pc2 := 17) rfl ?_
      refine kg_iload_n 1 dX10_needed_17 rfl (pc2 := 18) rfl ?_
      obtain ⟨r5, r5h, h⟩ := kw_bind_e h
      refine kg_callV (d := (d + 4)) rfl mVX10_isOpen [.int a1] [] (gX10_isOpen (E := E) (d := (d + 3)) a1 σ r5h) rfl lmRX10_91 (ci := 10) rfl tM_0 eM_0 rfl (Nat.le_of_ble_eq_true rfl) dX10_needed_18 rfl (st2 := [.int r5]) rfl (pc2 := 21) rfl ?_
      refine kg_if_ne 26 dX10_needed_21 rfl (pc2 := 24) rfl (fun q6 => ?_) (fun q6 => ?_)
      · replace h := (if_neg q6).symm.trans h
        refine kg_aload_n 0 dX10_needed_26 rfl (pc2 := 27) rfl ?_
        obtain ⟨r7, r7h, h⟩ := kw_bind_e h
        refine kg_callV (d := (d + 4)) rfl mVX10_settles [] [] (gX10_settles (E := E) (d := (d + 1)) σ r7h) rfl lmRX10_104 (ci := 10) rfl tM_0 eM_0 rfl (Nat.le_of_ble_eq_true rfl) dX10_needed_27 rfl (st2 := []) rfl (pc2 := 30) rfl ?_
        refine kg_aload_n 0 dX10_needed_30 rfl (pc2 := 31) rfl ?_
        refine kg_getr clX10 rfl 3 (Nat.le_of_ble_eq_true rfl) lfRX10_17 tM_0 eM_0 rfl dX10_needed_31 (pc2 := 34) rfl ?_
        refine kg_iload_n 2 dX10_needed_34 rfl (pc2 := 35) rfl ?_
        obtain ⟨q8, h⟩ := kw_chk_e h
        refine kg_lald tM_3 eM_3 q8 (j := a2.toNatClampNeg) rfl dX10_needed_35 (pc2 := 36) rfl ?_
        refine kg_ldc2 rfl lcRX10_89 dX10_needed_36 (pc2 := 39) rfl ?_
        refine kg_lcmp_ne 45 dX10_needed_39 dX10_needed_40 rfl (pc2 := 43) rfl (fun q9 => ?_) (fun q9 => ?_)
        · replace h := (if_neg q9).symm.trans h
          refine kg_aload_n 0 dX10_needed_45 rfl (pc2 := 46) rfl ?_
          refine kg_iload_n 1 dX10_needed_46 rfl (pc2 := 47) rfl ?_
          obtain ⟨r10, r10h, h⟩ := kw_bind_e h
          refine kg_callV (d := (d + 4)) rfl mVX10_isTight [.int a1] [] (gX10_isTight (E := E) (d := (d + 2)) a1 r7 r10h) rfl lmRX10_303 (ci := 10) rfl tM_0 eM_0 rfl (Nat.le_of_ble_eq_true rfl) dX10_needed_47 rfl (st2 := [.int r10]) rfl (pc2 := 50) rfl ?_
          refine kg_if_eq 66 dX10_needed_50 rfl (pc2 := 53) rfl (fun q11 => ?_) (fun q11 => ?_)
          · replace h := (if_pos q11).symm.trans h
            refine kg_iconst dX10_needed_66 ki_0 (pc2 := 67) rfl ?_
            cases h
            exact kg_iret (ty := .int) dX10_needed_67 rfl rfl
          · replace h := (if_neg q11).symm.trans h
            refine kg_aload_n 0 dX10_needed_53 rfl (pc2 := 54) rfl ?_
            refine kg_iload_n 1 dX10_needed_54 rfl (pc2 := 55) rfl ?_
            refine kg_iload_n 2 dX10_needed_55 rfl (pc2 := 56) rfl ?_
            obtain ⟨r12, r12h, h⟩ := kw_bind_e h
            refine kg_callV (d := (d + 4)) rfl mVX10_isNeeded [.int a1, .int a2] [] (gX10_isNeeded (E := E) (d := d) a1 a2 r7 r12h) rfl lmRX10_312 (ci := 10) rfl tM_0 eM_0 rfl (Nat.le_of_ble_eq_true rfl) dX10_needed_56 rfl (st2 := [.int r12.1]) rfl (pc2 := 59) rfl ?_
            refine kg_if_eq 66 dX10_needed_59 rfl (pc2 := 62) rfl (fun q13 => ?_) (fun q13 => ?_)
            · replace h := (if_pos q13).symm.trans h
              refine kg_iconst dX10_needed_66 ki_0 (pc2 := 67) rfl ?_
              cases h
              exact kg_iret (ty := .int) dX10_needed_67 rfl rfl
            · replace h := (if_neg q13).symm.trans h
              refine kg_iconst dX10_needed_62 ki_1 (pc2 := 63) rfl ?_
              refine kg_goto 67 dX10_needed_63 rfl ?_
              cases h
              exact kg_iret (ty := .int) dX10_needed_67 rfl rfl
        · replace h := (if_pos q9).symm.trans h
          refine kg_iconst dX10_needed_43 ki_m1 (pc2 := 44) rfl ?_
          cases h
          exact kg_iret (ty := .int) dX10_needed_44 rfl rfl
      · replace h := (if_pos q6).symm.trans h
        refine kg_iconst dX10_needed_24 ki_m1 (pc2 := 25) rfl ?_
        cases h
        exact kg_iret (ty := .int) dX10_needed_25 rfl rfl
