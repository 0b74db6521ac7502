/-! The class, method by method: what it computes (f), and that the machine does so (g). -/
def bX7_tightTo_4 (v1 : Int32) (σ : kw_M) (v2 : Int32) (v3 : Int32) : Option ((Int32 × Int32) ⊕ (Int32)) :=
 if (σ.1 12 1) ≤ v3 then
 (some (.inr v2))
 else
 kw_chk (kw_in v3 36) <|
 if (σ.1 19 v3.toNatClampNeg) = v1 then
 ((fX7_isTight v3 σ).bind fun r5 =>
 if r5 = (0 : Int32) then
 (kw_let (v3 + (1 : Int32)) fun x7 =>
 some (.inl (v2, x7)))
 else
 kw_let (v2 + (1 : Int32)) fun x8 =>
 kw_let (v3 + (1 : Int32)) fun x9 =>
 some (.inl (x8, x9)))
 else
 kw_let (v3 + (1 : Int32)) fun x4 =>
 some (.inl (v2, x4))
set_option maxHeartbeats 4000000 in
set_option maxRecDepth 100000 in
theorem lX7_tightTo_4 {E : kw_E} {d : Nat} (v1 : Int32) (σ : kw_M) (v2 : Int32) (v3 : Int32) {v : Option Value} {σ2 : kw_M} {o : (Int32 × Int32) ⊕ (Int32)} (h : bX7_tightTo_4 v1 σ v2 v3 = some o) (hk : Sum.elim (fun s => kw_G E kwTX 47 (d + 2) μX7_tightTo 4 [(0, .ref 1), (1, .int v1), (2, .int s.1), (3, .int s.2)] [] σ v σ2) (fun y => kw_G E kwTX 47 (d + 2) μX7_tightTo 45 [(2, .int y)] [] σ v σ2) o) : kw_G E kwTX 47 (d + 2) μX7_tightTo 4 [(0, .ref 1), (1, .int v1), (2, .int v2), (3, .int v3)] [] σ v σ2 := by
  unfold bX7_tightTo_4 at h
  refine kg_iload_n 3 dX7_tightTo_4 rfl (pc2 := 5) rfl ?_
  refine kg_aload_n 0 dX7_tightTo_5 rfl (pc2 := 6) rfl ?_
  refine kg_getr clX7 rfl 0 (Nat.le_of_ble_eq_true rfl) lfRX7_12 tX_1 eX_1 rfl dX7_tightTo_6 (pc2 := 9) rfl ?_
  refine kg_geti clX4 rfl 1 (Nat.le_of_ble_eq_true rfl) lfRX7_120 tX_12 eX_12 rfl dX7_tightTo_9 (pc2 := 12) rfl ?_
  refine kg_icmp_ge 45 dX7_tightTo_12 rfl (pc2 := 15) rfl (fun q1 => ?_) (fun q1 => ?_)
  · replace h := (if_pos q1).symm.trans h
    refine kg_sub [2] (lv2 := [(2, .int v2)]) rfl ?_
    cases h
    exact hk
  · replace h := (if_neg q1).symm.trans h
    refine kg_aload_n 0 dX7_tightTo_15 rfl (pc2 := 16) rfl ?_
    refine kg_getr clX7 rfl 0 (Nat.le_of_ble_eq_true rfl) lfRX7_12 tX_1 eX_1 rfl dX7_tightTo_16 (pc2 := 19) rfl ?_
    refine kg_getr clX4 rfl 4 (Nat.le_of_ble_eq_true rfl) lfRX7_126 tX_12 eX_12 rfl dX7_tightTo_19 (pc2 := 22) rfl ?_
    refine kg_iload_n 3 dX7_tightTo_22 rfl (pc2 := 23) rfl ?_
    obtain ⟨q2, h⟩ := kw_chk_e h
    refine kg_iald tX_19 eX_19 q2 (j := v3.toNatClampNeg) rfl dX7_tightTo_23 (pc2 := 24) rfl ?_
    refine kg_iload_n 1 dX7_tightTo_24 rfl (pc2 := 25) rfl ?_
    refine kg_icmp_ne 39 dX7_tightTo_25 rfl (pc2 := 28) rfl (fun q3 => ?_) (fun q3 => ?_)
    · replace h := (if_neg q3).symm.trans h
      obtain ⟨x4, x4e, h⟩ := kw_let_e h
      refine kg_iinc 3 dX7_tightTo_39 rfl (Nat.le_of_ble_eq_true rfl) x4e (lv2 := [(3, .int x4), (0, .ref 1), (1, .int v1), (2, .int v2)]) rfl (pc2 := 42) rfl ?_
      refine kg_goto 4 dX7_tightTo_42 rfl ?_
      refine kg_sub [1, 2, 3, 0] (lv2 := [(0, .ref 1), (1, .int v1), (2, .int v2), (3, .int x4)]) rfl ?_
      cases h
      exact hk
    · replace h := (if_pos q3).symm.trans h
      refine kg_aload_n 0 dX7_tightTo_28 rfl (pc2 := 29) rfl ?_
      refine kg_iload_n 3 dX7_tightTo_29 rfl (pc2 := 30) rfl ?_
      obtain ⟨r5, r5h, h⟩ := kw_bind_e h
      refine kg_callV (μ := μX7_tightTo) (d := (d + 1)) rfl mVX7_isTight [.int v3] [] (gX7_isTight (E := E) (d := d) v3 σ r5h) rfl lmRX7_123 (ci := 7) rfl tX_1 eX_1 rfl (Nat.le_of_ble_eq_true rfl) dX7_tightTo_30 rfl (st2 := [.int r5]) rfl (pc2 := 33) rfl ?_
      refine kg_if_eq 39 dX7_tightTo_33 rfl (pc2 := 36) rfl (fun q6 => ?_) (fun q6 => ?_)
      · replace h := (if_pos q6).symm.trans h
        obtain ⟨x7, x7e, h⟩ := kw_let_e h
        refine kg_iinc 3 dX7_tightTo_39 rfl (Nat.le_of_ble_eq_true rfl) x7e (lv2 := [(3, .int x7), (0, .ref 1), (1, .int v1), (2, .int v2)]) rfl (pc2 := 42) rfl ?_
        refine kg_goto 4 dX7_tightTo_42 rfl ?_
        refine kg_sub [1, 2, 3, 0] (lv2 := [(0, .ref 1), (1, .int v1), (2, .int v2), (3, .int x7)]) rfl ?_
        cases h
        exact hk
      · replace h := (if_neg q6).symm.trans h
        obtain ⟨x8, x8e, h⟩ := kw_let_e h
        refine kg_iinc 2 dX7_tightTo_36 rfl (Nat.le_of_ble_eq_true rfl) x8e (lv2 := [(2, .int x8), (0, .ref 1), (1, .int v1), (3, .int v3)]) rfl (pc2 := 39) rfl ?_
        obtain ⟨x9, x9e, h⟩ := kw_let_e h
        refine kg_iinc 3 dX7_tightTo_39 rfl (Nat.le_of_ble_eq_true rfl) x9e (lv2 := [(3, .int x9), (2, .int x8), (0, .ref 1), (1, .int v1)]) rfl (pc2 := 42) rfl ?_
        refine kg_goto 4 dX7_tightTo_42 rfl ?_
        refine kg_sub [2, 3, 1, 0] (lv2 := [(0, .ref 1), (1, .int v1), (2, .int x8), (3, .int x9)]) rfl ?_
        cases h
        exact hk
def fX7_tightTo (a1 : Int32) (σ : kw_M) : Option (Int32) :=
 (kw_loop (fun s => bX7_tightTo_4 a1 σ s.1 s.2) kw_F ((0 : Int32), (0 : Int32))).bind fun x10 =>
 some x10
set_option maxHeartbeats 4000000 in
set_option maxRecDepth 100000 in
theorem gX7_tightTo {E : kw_E} {d : Nat} (a1 : Int32) (σ : kw_M) {r : Int32} (h : fX7_tightTo a1 σ = some r) : kw_Met E kwTX 47 (d + 2) μX7_tightTo [.ref 1, .int a1] σ (some (Value.int r)) σ := by
  refine kw_enter plRX7 (Nat.le_of_ble_eq_true rfl) ?_
  show kw_G E kwTX 47 (d + 2) μX7_tightTo 0 [(0, .ref 1), (1, .int a1)] [] σ (some (Value.int r)) σ
  unfold fX7_tightTo at h
  refine kg_iconst dX7_tightTo_0 ki_0 (pc2 := 1) rfl ?_
  refine kg_istore_n dX7_tightTo_1 rfl (Nat.le_of_ble_eq_true rfl) rfl (lv2 := [(2, .int (0 : Int32)), (0, .ref 1), (1, .int a1)]) rfl (pc2 := 2) rfl ?_
  refine kg_iconst dX7_tightTo_2 ki_0 (pc2 := 3) rfl ?_
  refine kg_istore_n dX7_tightTo_3 rfl (Nat.le_of_ble_eq_true rfl) rfl (lv2 := [(3, .int (0 : Int32)), (2, .int (0 : Int32)), (0, .ref 1), (1, .int a1)]) rfl (pc2 := 4) rfl ?_
  refine kg_sub [2, 3, 1, 0] (lv2 := [(0, .ref 1), (1, .int a1), (2, .int (0 : Int32)), (3, .int (0 : Int32))]) rfl ?_
  obtain ⟨x10, x10h, h⟩ := kw_bind_e h
  refine kw_loop_e (P := fun s => kw_G E kwTX 47 (d + 2) μX7_tightTo 4 [(0, .ref 1), (1, .int a1), (2, .int s.1), (3, .int s.2)] [] σ (some (Value.int r)) σ) (K := fun y => kw_G E kwTX 47 (d + 2) μX7_tightTo 45 [(2, .int y)] [] σ (some (Value.int r)) σ) (fun s o h0 hk => lX7_tightTo_4 a1 σ s.1 s.2 h0 hk) kw_F _ _ x10h ?_
  show kw_G E kwTX 47 (d + 2) μX7_tightTo 45 [(2, .int x10)] [] σ (some (Value.int r)) σ
  refine kg_iload_n 0 dX7_tightTo_45 rfl (pc2 := 46) rfl ?_
  cases h
  exact kg_iret (ty := .int) dX7_tightTo_46 rfl rfl
def fX9_change (a1 : Int32) (a2 : Int32) (σ : kw_M) : Option (Int64) :=
 (fX4_isOpen 12 a1 σ).bind fun r1 =>
 if r1 = (0 : Int32) then
 (some (-9000000000000000000 : Int64))
 else
 (fX7_slackOf a1 σ).bind fun r3 =>
 if a2 = (0 : Int32) then
 (some r3)
 else
 if a2 = (1 : Int32) then
 (if r3 = (0 : Int64) then
 (kw_chk (kw_in a1 36) <|
 (fX7_tightTo (σ.1 19 a1.toNatClampNeg) σ).bind fun r8 =>
 if r8 = (1 : Int32) then
 (some (0 : Int64))
 else
 some (-1 : Int64))
 else
 some (-1 : Int64))
 else
 if a2 = (2 : Int32) then
 (if r3 = (-9000000000000000000 : Int64) then
 (some (-1 : Int64))
 else
 some r3)
 else
 some (-9000000000000000000 : Int64)
set_option maxHeartbeats 4000000 in
set_option maxRecDepth 100000 in
theorem gX9_change {E : kw_E} {d : Nat} (a1 : Int32) (a2 : Int32) (σ : kw_M) {r : Int64} (h : fX9_change a1 a2 σ = some r) : kw_Met E kwTX 47 (d + 3) μX9_change [.ref 0, .int a1, .int a2] σ (some (Value.long r)) σ := by
  refine kw_enter plRX9 (Nat.le_of_ble_eq_true rfl) ?_
  show kw_G E kwTX 47 (d + 3) μX9_change 0 [(0, .ref 0), (1, .int a1), (2, .int a2)] [] σ (some (Value.long r)) σ
  unfold fX9_change at h
  refine kg_aload_n 0 dX9_change_0 rfl (pc2 := 1) rfl ?_
  refine kg_getr clX9 rfl 0 (Nat.le_of_ble_eq_true rfl) lfRX9_10 tX_0 eX_0 rfl dX9_change_1 (pc2 := 4) rfl ?_
  refine kg_getr clX7 rfl 0 (Nat.le_of_ble_eq_true rfl) lfRX9_148 tX_1 eX_1 rfl dX9_change_4 (pc2 := 7) rfl ?_
  refine kg_iload_n 1 dX9_change_7 rfl (pc2 := 8) rfl ?_
  obtain ⟨r1, r1h, h⟩ := kw_bind_e h
  refine kg_callV (μ := μX9_change) (d := (d + 2)) rfl mVX4_isOpen [.int a1] [] (gX4_isOpen (E := E) (d := (d + 2)) 12 kx_4_12 a1 σ r1h) rfl lmRX9_201 (ci := 4) rfl tX_12 eX_12 rfl (Nat.le_of_ble_eq_true rfl) dX9_change_8 rfl (st2 := [.int r1]) rfl (pc2 := 11) rfl ?_
  refine kg_if_ne 18 dX9_change_11 rfl (pc2 := 14) rfl (fun q2 => ?_) (fun q2 => ?_)
  · replace h := (if_neg q2).symm.trans h
    refine kg_aload_n 0 dX9_change_18 rfl (pc2 := 19) rfl ?_
    refine kg_getr clX9 rfl 0 (Nat.le_of_ble_eq_true rfl) lfRX9_10 tX_0 eX_0 rfl dX9_change_19 (pc2 := 22) rfl ?_
    refine kg_iload_n 1 dX9_change_22 rfl (pc2 := 23) rfl ?_
    obtain ⟨r3, r3h, h⟩ := kw_bind_e h
    refine kg_callV (μ := μX9_change) (d := (d + 2)) rfl mVX7_slackOf [.int a1] [] (gX7_slackOf (E := E) (d := (d + 2)) a1 σ r3h) rfl lmRX9_275 (ci := 7) rfl tX_1 eX_1 rfl (Nat.le_of_ble_eq_true rfl) dX9_change_23 rfl (st2 := [.long r3]) rfl (pc2 := 26) rfl ?_
    refine kg_lstore_n dX9_change_26 rfl (Nat.le_of_ble_eq_true rfl) rfl (lv2 := [(3, .long r3), (0, .ref 0), (1, .int a1), (2, .int a2)]) rfl (pc2 := 27) rfl ?_
    refine kg_iload_n 3 dX9_change_27 rfl (pc2 := 28) rfl ?_
    by_cases q4 : a2 = (0 : Int32)
    · replace h := (if_pos q4).symm.trans h
      refine kg_tsIn (off := 28) 56 dX9_change_28 (by rw [q4]; decide) (by rw [q4]; decide) (by rw [q4]; decide) rfl ?_
      refine kg_lload_n 0 dX9_change_56 rfl (pc2 := 57) rfl ?_
      cases h
      exact kg_lret dX9_change_57 rfl
    · replace h := (if_neg q4).symm.trans h
      by_cases q5 : a2 = (1 : Int32)
      · replace h := (if_pos q5).symm.trans h
        refine kg_tsIn (off := 30) 58 dX9_change_28 (by rw [q5]; decide) (by rw [q5]; decide) (by rw [q5]; decide) rfl ?_
        refine kg_lload_n 0 dX9_change_58 rfl (pc2 := 59) rfl ?_
        refine kg_lconst dX9_change_59 kl_0 (pc2 := 60) rfl ?_
        refine kg_lcmp_ne 91 dX9_change_60 dX9_change_61 rfl (pc2 := 64) rfl (fun q6 => ?_) (fun q6 => ?_)
        · replace h := (if_neg q6).symm.trans h
          refine kg_ldc2 rfl lcRX9_282 dX9_change_91 (pc2 := 94) rfl ?_
          cases h
          exact kg_lret dX9_change_94 rfl
        · replace h := (if_pos q6).symm.trans h
          refine kg_aload_n 1 dX9_change_64 rfl (pc2 := 65) rfl ?_
          refine kg_getr clX9 rfl 0 (Nat.le_of_ble_eq_true rfl) lfRX9_10 tX_0 eX_0 rfl dX9_change_65 (pc2 := 68) rfl ?_
          refine kg_aload_n 1 dX9_change_68 rfl (pc2 := 69) rfl ?_
          refine kg_getr clX9 rfl 0 (Nat.le_of_ble_eq_true rfl) lfRX9_10 tX_0 eX_0 rfl dX9_change_69 (pc2 := 72) rfl ?_
          refine kg_getr clX7 rfl 0 (Nat.le_of_ble_eq_true rfl) lfRX9_148 tX_1 eX_1 rfl dX9_change_72 (pc2 := 75) rfl ?_
          refine kg_getr clX4 rfl 4 (Nat.le_of_ble_eq_true rfl) lfRX9_266 tX_12 eX_12 rfl dX9_change_75 (pc2 := 78) rfl ?_
          refine kg_iload_n 2 dX9_change_78 rfl (pc2 := 79) rfl ?_
          obtain ⟨q7, h⟩ := kw_chk_e h
          refine kg_iald tX_19 eX_19 q7 (j := a1.toNatClampNeg) rfl dX9_change_79 (pc2 := 80) rfl ?_
          obtain ⟨r8, r8h, h⟩ := kw_bind_e h
          refine kg_callV (μ := μX9_change) (d := (d + 2)) rfl mVX7_tightTo [.int (σ.1 19 a1.toNatClampNeg)] [] (gX7_tightTo (E := E) (d := d) (σ.1 19 a1.toNatClampNeg) σ r8h) rfl lmRX9_279 (ci := 7) rfl tX_1 eX_1 rfl (Nat.le_of_ble_eq_true rfl) dX9_change_80 rfl (st2 := [.int r8]) rfl (pc2 := 83) rfl ?_
          refine kg_iconst dX9_change_83 ki_1 (pc2 := 84) rfl ?_
          refine kg_icmp_ne 91 dX9_change_84 rfl (pc2 := 87) rfl (fun q9 => ?_) (fun q9 => ?_)
          · replace h := (if_neg q9).symm.trans h
            refine kg_ldc2 rfl lcRX9_282 dX9_change_91 (pc2 := 94) rfl ?_
            cases h
            exact kg_lret dX9_change_94 rfl
          · replace h := (if_pos q9).symm.trans h
            refine kg_lconst dX9_change_87 kl_0 (pc2 := 88) rfl ?_
            refine kg_goto 94 dX9_change_88 rfl ?_
            cases h
            exact kg_lret dX9_change_94 rfl
      · replace h := (if_neg q5).symm.trans h
        by_cases q10 : a2 = (2 : Int32)
        · replace h := (if_pos q10).symm.trans h
          refine kg_tsIn (off := 67) 95 dX9_change_28 (by rw [q10]; decide) (by rw [q10]; decide) (by rw [q10]; decide) rfl ?_
          refine kg_lload_n 0 dX9_change_95 rfl (pc2 := 96) rfl ?_
          refine kg_ldc2 rfl lcRX9_261 dX9_change_96 (pc2 := 99) rfl ?_
          refine kg_lcmp_ne 109 dX9_change_99 dX9_change_100 rfl (pc2 := 103) rfl (fun q11 => ?_) (fun q11 => ?_)
          · replace h := (if_neg q11).symm.trans h
            refine kg_lload_n 0 dX9_change_109 rfl (pc2 := 110) rfl ?_
            cases h
            exact kg_lret dX9_change_110 rfl
          · replace h := (if_pos q11).symm.trans h
            refine kg_ldc2 rfl lcRX9_282 dX9_change_103 (pc2 := 106) rfl ?_
            refine kg_goto 110 dX9_change_106 rfl ?_
            cases h
            exact kg_lret dX9_change_110 rfl
        · replace h := (if_neg q10).symm.trans h
          refine kg_tsOut 111 dX9_change_28 (by have a0 := kw_neI (n := 0) (by decide) q4; have a1 := kw_neI (n := 1) (by decide) q5; have a2 := kw_neI (n := 2) (by decide) q10; omega) rfl ?_
          refine kg_ldc2 rfl lcRX9_261 dX9_change_111 (pc2 := 114) rfl ?_
          cases h
          exact kg_lret dX9_change_114 rfl
  · replace h := (if_pos q2).symm.trans h
    refine kg_ldc2 rfl lcRX9_261 dX9_change_14 (pc2 := 17) rfl ?_
    cases h
    exact kg_lret dX9_change_17 rfl
def bX6_findWay_5 (v3 : Int32) (v4 : Int32) (σ : kw_M) : Option ((Int32 × Int32 × kw_M) ⊕ (Int32 × kw_M)) :=
 if (12 : Int32) ≤ v3 then
 (some (.inr (v3, σ)))
 else
 kw_chk (kw_in v4 12) <|
 if (σ.1 17 v4.toNatClampNeg) = (-1 : Int32) then
 (some (.inr (v3, σ)))
 else
 kw_chk (kw_in v3 12) <|
 kw_let (kw_si σ 42 v3.toNatClampNeg (σ.1 17 v4.toNatClampNeg)) fun s5 =>
 kw_chk (kw_in (s5.1 17 v4.toNatClampNeg) 36) <|
 kw_let (s5.1 18 (s5.1 17 v4.toNatClampNeg).toNatClampNeg) fun x7 =>
 kw_let (v3 + (1 : Int32)) fun x8 =>
 some (.inl (x8, x7, s5))
set_option maxHeartbeats 4000000 in
set_option maxRecDepth 100000 in
theorem lX6_findWay_5 {E : kw_E} {d : Nat} (v3 : Int32) (v4 : Int32) (σ : kw_M) {v : Option Value} {σ2 : kw_M} {o : (Int32 × Int32 × kw_M) ⊕ (Int32 × kw_M)} (h : bX6_findWay_5 v3 v4 σ = some o) (hk : Sum.elim (fun s => kw_G E kwTX 47 d μX6_findWay 5 [(0, .ref 6), (1, .ref 1), (3, .int s.1), (4, .int s.2.1)] [] s.2.2 v σ2) (fun y => kw_G E kwTX 47 d μX6_findWay 58 [(0, .ref 6), (3, .int y.1)] [] y.2 v σ2) o) : kw_G E kwTX 47 d μX6_findWay 5 [(0, .ref 6), (1, .ref 1), (3, .int v3), (4, .int v4)] [] σ v σ2 := by
  unfold bX6_findWay_5 at h
  refine kg_iload_n 2 dX6_findWay_5 rfl (pc2 := 6) rfl ?_
  refine kg_bipush dX6_findWay_6 kb_12 (pc2 := 8) rfl ?_
  refine kg_icmp_ge 58 dX6_findWay_8 rfl (pc2 := 11) rfl (fun q1 => ?_) (fun q1 => ?_)
  · replace h := (if_pos q1).symm.trans h
    refine kg_sub [0, 2] (lv2 := [(0, .ref 6), (3, .int v3)]) rfl ?_
    cases h
    exact hk
  · replace h := (if_neg q1).symm.trans h
    refine kg_aload_n 1 dX6_findWay_11 rfl (pc2 := 12) rfl ?_
    refine kg_getr clX7 rfl 10 (Nat.le_of_ble_eq_true rfl) lfRX6_25 tX_1 eX_1 rfl dX6_findWay_12 (pc2 := 15) rfl ?_
    refine kg_iload 3 dX6_findWay_15 rfl (pc2 := 17) rfl ?_
    obtain ⟨q2, h⟩ := kw_chk_e h
    refine kg_iald tX_17 eX_17 q2 (j := v4.toNatClampNeg) rfl dX6_findWay_17 (pc2 := 18) rfl ?_
    refine kg_iconst dX6_findWay_18 ki_m1 (pc2 := 19) rfl ?_
    refine kg_icmp_eq 58 dX6_findWay_19 rfl (pc2 := 22) rfl (fun q3 => ?_) (fun q3 => ?_)
    · replace h := (if_pos q3).symm.trans h
      refine kg_sub [0, 2] (lv2 := [(0, .ref 6), (3, .int v3)]) rfl ?_
      cases h
      exact hk
    · replace h := (if_neg q3).symm.trans h
      refine kg_aload_n 0 dX6_findWay_22 rfl (pc2 := 23) rfl ?_
      refine kg_getr clX6 rfl 1 (Nat.le_of_ble_eq_true rfl) lfRX6_15 tX_6 eX_6 rfl dX6_findWay_23 (pc2 := 26) rfl ?_
      refine kg_iload_n 2 dX6_findWay_26 rfl (pc2 := 27) rfl ?_
      refine kg_aload_n 1 dX6_findWay_27 rfl (pc2 := 28) rfl ?_
      refine kg_getr clX7 rfl 10 (Nat.le_of_ble_eq_true rfl) lfRX6_25 tX_1 eX_1 rfl dX6_findWay_28 (pc2 := 31) rfl ?_
      refine kg_iload 3 dX6_findWay_31 rfl (pc2 := 33) rfl ?_
      refine kg_iald tX_17 eX_17 q2 (j := v4.toNatClampNeg) rfl dX6_findWay_33 (pc2 := 34) rfl ?_
      obtain ⟨q4, h⟩ := kw_chk_e h
      obtain ⟨s5, s5e, h⟩ := kw_let_e h
      refine kg_iast tX_42 eX_42 q4 (j := v3.toNatClampNeg) rfl s5e dX6_findWay_34 (pc2 := 35) rfl ?_
      refine kg_aload_n 1 dX6_findWay_35 rfl (pc2 := 36) rfl ?_
      refine kg_getr clX7 rfl 0 (Nat.le_of_ble_eq_true rfl) lfRX6_30 tX_1 eX_1 rfl dX6_findWay_36 (pc2 := 39) rfl ?_
      refine kg_getr clX4 rfl 3 (Nat.le_of_ble_eq_true rfl) lfRX6_34 tX_12 eX_12 rfl dX6_findWay_39 (pc2 := 42) rfl ?_
      refine kg_aload_n 1 dX6_findWay_42 rfl (pc2 := 43) rfl ?_
      refine kg_getr clX7 rfl 10 (Nat.le_of_ble_eq_true rfl) lfRX6_25 tX_1 eX_1 rfl dX6_findWay_43 (pc2 := 46) rfl ?_
      refine kg_iload 3 dX6_findWay_46 rfl (pc2 := 48) rfl ?_
      refine kg_iald tX_17 eX_17 q2 (j := v4.toNatClampNeg) rfl dX6_findWay_48 (pc2 := 49) rfl ?_
      obtain ⟨q6, h⟩ := kw_chk_e h
      refine kg_iald tX_18 eX_18 q6 (j := (s5.1 17 v4.toNatClampNeg).toNatClampNeg) rfl dX6_findWay_49 (pc2 := 50) rfl ?_
      obtain ⟨x7, x7e, h⟩ := kw_let_e h
      refine kg_istore dX6_findWay_50 (Nat.le_of_ble_eq_true rfl) x7e (lv2 := [(4, .int x7), (0, .ref 6), (1, .ref 1), (3, .int v3)]) rfl (pc2 := 52) rfl ?_
      obtain ⟨x8, x8e, h⟩ := kw_let_e h
      refine kg_iinc 3 dX6_findWay_52 rfl (Nat.le_of_ble_eq_true rfl) x8e (lv2 := [(3, .int x8), (4, .int x7), (0, .ref 6), (1, .ref 1)]) rfl (pc2 := 55) rfl ?_
      refine kg_goto 5 dX6_findWay_55 rfl ?_
      refine kg_sub [2, 3, 0, 1] (lv2 := [(0, .ref 6), (1, .ref 1), (3, .int x8), (4, .int x7)]) rfl ?_
      cases h
      exact hk
def bX6_findWay_61 (v3 : Int32) (v4 : Int32) (σ : kw_M) : Option ((Int32 × kw_M) ⊕ (kw_M)) :=
 if (v3 / (2 : Int32)) ≤ v4 then
 (some (.inr σ))
 else
 kw_chk (kw_in ((v3 - (1 : Int32)) - v4) 12) <|
 kw_let (σ.1 42 ((v3 - (1 : Int32)) - v4).toNatClampNeg) fun x12 =>
 kw_chk (kw_in v4 12) <|
 kw_let (kw_si σ 42 ((v3 - (1 : Int32)) - v4).toNatClampNeg (σ.1 42 v4.toNatClampNeg)) fun s14 =>
 kw_let (kw_si s14 42 v4.toNatClampNeg x12) fun s15 =>
 kw_let (v4 + (1 : Int32)) fun x16 =>
 some (.inl (x16, s15))
set_option maxHeartbeats 4000000 in
set_option maxRecDepth 100000 in
theorem lX6_findWay_61 {E : kw_E} {d : Nat} (v3 : Int32) (v4 : Int32) (σ : kw_M) {v : Option Value} {σ2 : kw_M} {o : (Int32 × kw_M) ⊕ (kw_M)} (h : bX6_findWay_61 v3 v4 σ = some o) (hk : Sum.elim (fun s => kw_G E kwTX 47 d μX6_findWay 61 [(0, .ref 6), (3, .int v3), (4, .int s.1)] [] s.2 v σ2) (fun y => kw_G E kwTX 47 d μX6_findWay 115 [(3, .int v3)] [] y v σ2) o) : kw_G E kwTX 47 d μX6_findWay 61 [(0, .ref 6), (3, .int v3), (4, .int v4)] [] σ v σ2 := by
  unfold bX6_findWay_61 at h
  refine kg_iload 2 dX6_findWay_61 rfl (pc2 := 63) rfl ?_
  refine kg_iload_n 1 dX6_findWay_63 rfl (pc2 := 64) rfl ?_
  refine kg_iconst dX6_findWay_64 ki_2 (pc2 := 65) rfl ?_
  refine kg_idiv dX6_findWay_65 (by decide) (pc2 := 66) rfl ?_
  refine kg_icmp_ge 115 dX6_findWay_66 rfl (pc2 := 69) rfl (fun q10 => ?_) (fun q10 => ?_)
  · replace h := (if_pos q10).symm.trans h
    refine kg_sub [1] (lv2 := [(3, .int v3)]) rfl ?_
    cases h
    exact hk
  · replace h := (if_neg q10).symm.trans h
    refine kg_aload_n 0 dX6_findWay_69 rfl (pc2 := 70) rfl ?_
    refine kg_getr clX6 rfl 1 (Nat.le_of_ble_eq_true rfl) lfRX6_15 tX_6 eX_6 rfl dX6_findWay_70 (pc2 := 73) rfl ?_
    refine kg_iload_n 1 dX6_findWay_73 rfl (pc2 := 74) rfl ?_
    refine kg_iconst dX6_findWay_74 ki_1 (pc2 := 75) rfl ?_
    refine kg_isub dX6_findWay_75 (pc2 := 76) rfl ?_
    refine kg_iload 2 dX6_findWay_76 rfl (pc2 := 78) rfl ?_
    refine kg_isub dX6_findWay_78 (pc2 := 79) rfl ?_
    obtain ⟨q11, h⟩ := kw_chk_e h
    refine kg_iald tX_42 eX_42 q11 (j := ((v3 - (1 : Int32)) - v4).toNatClampNeg) rfl dX6_findWay_79 (pc2 := 80) rfl ?_
    obtain ⟨x12, x12e, h⟩ := kw_let_e h
    refine kg_istore dX6_findWay_80 (Nat.le_of_ble_eq_true rfl) x12e (lv2 := [(5, .int x12), (0, .ref 6), (3, .int v3), (4, .int v4)]) rfl (pc2 := 82) rfl ?_
    refine kg_aload_n 1 dX6_findWay_82 rfl (pc2 := 83) rfl ?_
    refine kg_getr clX6 rfl 1 (Nat.le_of_ble_eq_true rfl) lfRX6_15 tX_6 eX_6 rfl dX6_findWay_83 (pc2 := 86) rfl ?_
    refine kg_iload_n 2 dX6_findWay_86 rfl (pc2 := 87) rfl ?_
    refine kg_iconst dX6_findWay_87 ki_1 (pc2 := 88) rfl ?_
    refine kg_isub dX6_findWay_88 (pc2 := 89) rfl ?_
    refine kg_iload 3 dX6_findWay_89 rfl (pc2 := 91) rfl ?_
    refine kg_isub dX6_findWay_91 (pc2 := 92) rfl ?_
    refine kg_aload_n 1 dX6_findWay_92 rfl (pc2 := 93) rfl ?_
    refine kg_getr clX6 rfl 1 (Nat.le_of_ble_eq_true rfl) lfRX6_15 tX_6 eX_6 rfl dX6_findWay_93 (pc2 := 96) rfl ?_
    refine kg_iload 3 dX6_findWay_96 rfl (pc2 := 98) rfl ?_
    obtain ⟨q13, h⟩ := kw_chk_e h
    refine kg_iald tX_42 eX_42 q13 (j := v4.toNatClampNeg) rfl dX6_findWay_98 (pc2 := 99) rfl ?_
    obtain ⟨s14, s14e, h⟩ := kw_let_e h
    refine kg_iast tX_42 eX_42 q11 (j := ((v3 - (1 : Int32)) - v4).toNatClampNeg) rfl s14e dX6_findWay_99 (pc2 := 100) rfl ?_
    refine kg_aload_n 1 dX6_findWay_100 rfl (pc2 := 101) rfl ?_
    refine kg_getr clX6 rfl 1 (Nat.le_of_ble_eq_true rfl) lfRX6_15 tX_6 eX_6 rfl dX6_findWay_101 (pc2 := 104) rfl ?_
    refine kg_iload 3 dX6_findWay_104 rfl (pc2 := 106) rfl ?_
    refine kg_iload 0 dX6_findWay_106 rfl (pc2 := 108) rfl ?_
    obtain ⟨s15, s15e, h⟩ := kw_let_e h
    refine kg_iast tX_42 eX_42 q13 (j := v4.toNatClampNeg) rfl s15e dX6_findWay_108 (pc2 := 109) rfl ?_
    obtain ⟨x16, x16e, h⟩ := kw_let_e h
    refine kg_iinc 3 dX6_findWay_109 rfl (Nat.le_of_ble_eq_true rfl) x16e (lv2 := [(4, .int x16), (5, .int x12), (0, .ref 6), (3, .int v3)]) rfl (pc2 := 112) rfl ?_
    refine kg_goto 61 dX6_findWay_112 rfl ?_
    refine kg_sub [2, 3, 0] (lv2 := [(0, .ref 6), (3, .int v3), (4, .int x16)]) rfl ?_
    cases h
    exact hk
def jX6_findWay_58 (v3 : Int32) (σ : kw_M) : Option (Int32 × kw_M) :=
 (kw_loop (fun s => bX6_findWay_61 v3 s.1 s.2) kw_F ((0 : Int32), σ)).bind fun x17 =>
 some (v3, x17)
set_option maxHeartbeats 4000000 in
set_option maxRecDepth 100000 in
theorem gjX6_findWay_58 {E : kw_E} {d : Nat} (v3 : Int32) (σ : kw_M) {r : Int32 × kw_M} (h : jX6_findWay_58 v3 σ = some r) : kw_G E kwTX 47 d μX6_findWay 58 [(0, .ref 6), (3, .int v3)] [] σ (some (Value.int r.1)) r.2 := by
  unfold jX6_findWay_58 at h
  refine kg_iconst dX6_findWay_58 ki_0 (pc2 := 59) rfl ?_
  refine kg_istore dX6_findWay_59 (Nat.le_of_ble_eq_true rfl) rfl (lv2 := [(4, .int (0 : Int32)), (0, .ref 6), (3, .int v3)]) rfl (pc2 := 61) rfl ?_
  refine kg_sub [1, 2, 0] (lv2 := [(0, .ref 6), (3, .int v3), (4, .int (0 : Int32))]) rfl ?_
  obtain ⟨x17, x17h, h⟩ := kw_bind_e h
  refine kw_loop_e (P := fun s => kw_G E kwTX 47 d μX6_findWay 61 [(0, .ref 6), (3, .int v3), (4, .int s.1)] [] s.2 (some (Value.int r.1)) r.2) (K := fun y => kw_G E kwTX 47 d μX6_findWay 115 [(3, .int v3)] [] y (some (Value.int r.1)) r.2) (fun s o h0 hk => lX6_findWay_61 v3 s.1 s.2 h0 hk) kw_F _ _ x17h ?_
  show kw_G E kwTX 47 d μX6_findWay 115 [(3, .int v3)] [] x17 (some (Value.int r.1)) r.2
  refine kg_iload_n 0 dX6_findWay_115 rfl (pc2 := 116) rfl ?_
  cases h
  exact kg_iret (ty := .int) dX6_findWay_116 rfl rfl
def fX6_findWay (a2 : Int32) (σ : kw_M) : Option (Int32 × kw_M) :=
 (kw_loop (fun s => bX6_findWay_5 s.1 s.2.1 s.2.2) kw_F ((0 : Int32), a2, σ)).bind fun x9 =>
 jX6_findWay_58 x9.1 x9.2
set_option maxHeartbeats 4000000 in
set_option maxRecDepth 100000 in
theorem gX6_findWay {E : kw_E} {d : Nat} (a2 : Int32) (σ : kw_M) {r : Int32 × kw_M} (h : fX6_findWay a2 σ = some r) : kw_Met E kwTX 47 d μX6_findWay [.ref 6, .ref 1, .int a2] σ (some (Value.int r.1)) r.2 := by
  refine kw_enter plRX6 (Nat.le_of_ble_eq_true rfl) ?_
  show kw_G E kwTX 47 d μX6_findWay 0 [(0, .ref 6), (1, .ref 1), (2, .int a2)] [] σ (some (Value.int r.1)) r.2
  unfold fX6_findWay at h
  refine kg_iconst dX6_findWay_0 ki_0 (pc2 := 1) rfl ?_
  refine kg_istore_n dX6_findWay_1 rfl (Nat.le_of_ble_eq_true rfl) rfl (lv2 := [(3, .int (0 : Int32)), (0, .ref 6), (1, .ref 1), (2, .int a2)]) rfl (pc2 := 2) rfl ?_
  refine kg_iload_n 3 dX6_findWay_2 rfl (pc2 := 3) rfl ?_
  refine kg_istore dX6_findWay_3 (Nat.le_of_ble_eq_true rfl) rfl (lv2 := [(4, .int a2), (3, .int (0 : Int32)), (0, .ref 6), (1, .ref 1), (2, .int a2)]) rfl (pc2 := 5) rfl ?_
  refine kg_sub [2, 3, 1, 0] (lv2 := [(0, .ref 6), (1, .ref 1), (3, .int (0 : Int32)), (4, .int a2)]) rfl ?_
  obtain ⟨x9, x9h, h⟩ := kw_bind_e h
  refine kw_loop_e (P := fun s => kw_G E kwTX 47 d μX6_findWay 5 [(0, .ref 6), (1, .ref 1), (3, .int s.1), (4, .int s.2.1)] [] s.2.2 (some (Value.int r.1)) r.2) (K := fun y => kw_G E kwTX 47 d μX6_findWay 58 [(0, .ref 6), (3, .int y.1)] [] y.2 (some (Value.int r.1)) r.2) (fun s o h0 hk => lX6_findWay_5 s.1 s.2.1 s.2.2 h0 hk) kw_F _ _ x9h ?_
  show kw_G E kwTX 47 d μX6_findWay 58 [(0, .ref 6), (3, .int x9.1)] [] x9.2 (some (Value.int r.1)) r.2
  exact gjX6_findWay_58 x9.1 x9.2 h
def fX9_findWay (a1 : Int32) (σ : kw_M) : Option (Int32 × kw_M) :=
 (fX6_findWay a1 σ).bind fun r1 =>
 some (r1.1, r1.2)
set_option maxHeartbeats 4000000 in
set_option maxRecDepth 100000 in
theorem gX9_findWay {E : kw_E} {d : Nat} (a1 : Int32) (σ : kw_M) {r : Int32 × kw_M} (h : fX9_findWay a1 σ = some r) : kw_Met E kwTX 47 (d + 1) μX9_findWay [.ref 0, .int a1] σ (some (Value.int r.1)) r.2 := by
  refine kw_enter plRX9 (Nat.le_of_ble_eq_true rfl) ?_
  show kw_G E kwTX 47 (d + 1) μX9_findWay 0 [(0, .ref 0), (1, .int a1)] [] σ (some (Value.int r.1)) r.2
  unfold fX9_findWay at h
  refine kg_aload_n 0 dX9_findWay_0 rfl (pc2 := 1) rfl ?_
  refine kg_getr clX9 rfl 6 (Nat.le_of_ble_eq_true rfl) lfRX9_43 tX_0 eX_0 rfl dX9_findWay_1 (pc2 := 4) rfl ?_
  refine kg_aload_n 0 dX9_findWay_4 rfl (pc2 := 5) rfl ?_
  refine kg_getr clX9 rfl 0 (Nat.le_of_ble_eq_true rfl) lfRX9_10 tX_0 eX_0 rfl dX9_findWay_5 (pc2 := 8) rfl ?_
  refine kg_iload_n 1 dX9_findWay_8 rfl (pc2 := 9) rfl ?_
  obtain ⟨r1, r1h, h⟩ := kw_bind_e h
  refine kg_callV (μ := μX9_findWay) (d := d) rfl mVX6_findWay [.ref 1, .int a1] [] (gX6_findWay (E := E) (d := d) a1 σ r1h) rfl lmRX9_342 (ci := 6) rfl tX_6 eX_6 rfl (Nat.le_of_ble_eq_true rfl) dX9_findWay_9 rfl (st2 := [.int r1.1]) rfl (pc2 := 12) rfl ?_
  cases h
  exact kg_iret (ty := .int) dX9_findWay_12 rfl rfl
def fX6_foundIsKnown (σ : kw_M) : Option (kw_M) :=
 kw_let (kw_rl σ 43 (va_cpy (σ.2 44) (σ.2 43) 0 0 12)) fun s1 =>
 some s1
set_option maxHeartbeats 4000000 in
set_option maxRecDepth 100000 in
theorem gX6_foundIsKnown {E : kw_E} {d : Nat} (σ : kw_M) {r : kw_M} (h : fX6_foundIsKnown σ = some r) : kw_Met E kwTX 47 (d + 1) μX6_foundIsKnown [.ref 6] σ none r := by
  refine kw_enter plRX6 (Nat.le_of_ble_eq_true rfl) ?_
  show kw_G E kwTX 47 (d + 1) μX6_foundIsKnown 0 [(0, .ref 6)] [] σ none r
  unfold fX6_foundIsKnown at h
  refine kg_aload_n 0 dX6_foundIsKnown_0 rfl (pc2 := 1) rfl ?_
  refine kg_getr clX6 rfl 5 (Nat.le_of_ble_eq_true rfl) lfRX6_22 tX_6 eX_6 rfl dX6_foundIsKnown_1 (pc2 := 4) rfl ?_
  refine kg_iconst dX6_foundIsKnown_4 ki_0 (pc2 := 5) rfl ?_
  refine kg_aload_n 0 dX6_foundIsKnown_5 rfl (pc2 := 6) rfl ?_
  refine kg_getr clX6 rfl 4 (Nat.le_of_ble_eq_true rfl) lfRX6_19 tX_6 eX_6 rfl dX6_foundIsKnown_6 (pc2 := 9) rfl ?_
  refine kg_iconst dX6_foundIsKnown_9 ki_0 (pc2 := 10) rfl ?_
  refine kg_bipush dX6_foundIsKnown_10 kb_12 (pc2 := 12) rfl ?_
  obtain ⟨s1, s1e, h⟩ := kw_let_e h
  refine kg_copyl (μ := μX6_foundIsKnown) (d := d) rfl rfl cpRX6_39 tX_44 eX_44 tX_43 eX_43 (by decide) (by decide) (by decide) (by decide) (by decide) (Nat.le_of_ble_eq_true rfl) (by decide) (by decide) (by decide) s1e dX6_foundIsKnown_12 (pc2 := 15) rfl ?_
  cases h
  exact kg_vret dX6_foundIsKnown_15 rfl
def bX6_waysAsShort_51 (v2 : Int32) (v3 : Int64) (v5 : Int32) (v6 : Int32) (σ : kw_M) : Option ((Int32 × kw_M) ⊕ (kw_M)) :=
 if (σ.1 12 1) ≤ v6 then
 (some (.inr σ))
 else
 (fX7_isTight v6 σ).bind fun r9 =>
 if r9 = (0 : Int32) then
 (kw_let (v6 + (1 : Int32)) fun x11 =>
 some (.inl (x11, σ)))
 else
 kw_chk (kw_in v6 36) <|
 kw_let (σ.1 19 v6.toNatClampNeg) fun x13 =>
 kw_chk (kw_in x13 12) <|
 kw_chk (kw_in (σ.1 18 v6.toNatClampNeg) 12) <|
 kw_let (if ((σ.2 44 x13.toNatClampNeg) + (σ.2 43 (σ.1 18 v6.toNatClampNeg).toNatClampNeg)) < (1000000000 : Int64) then ((σ.2 44 x13.toNatClampNeg) + (σ.2 43 (σ.1 18 v6.toNatClampNeg).toNatClampNeg)) else (1000000000 : Int64)) fun x16 =>
 kw_let (kw_sl σ 44 x13.toNatClampNeg x16) fun s17 =>
 kw_let (v6 + (1 : Int32)) fun x18 =>
 some (.inl (x18, s17))
set_option maxHeartbeats 4000000 in
set_option maxRecDepth 100000 in
theorem lX6_waysAsShort_51 {E : kw_E} {d : Nat} (v2 : Int32) (v3 : Int64) (v5 : Int32) (v6 : Int32) (σ : kw_M) {v : Option Value} {σ2 : kw_M} {o : (Int32 × kw_M) ⊕ (kw_M)} (h : bX6_waysAsShort_51 v2 v3 v5 v6 σ = some o) (hk : Sum.elim (fun s => kw_G E kwTX 47 (d + 2) μX6_waysAsShort 51 [(0, .ref 6), (1, .ref 1), (2, .int v2), (3, .long v3), (5, .int v5), (6, .int s.1)] [] s.2 v σ2) (fun y => kw_G E kwTX 47 (d + 2) μX6_waysAsShort 126 [(0, .ref 6), (1, .ref 1), (2, .int v2), (3, .long v3), (5, .int v5)] [] y v σ2) o) : kw_G E kwTX 47 (d + 2) μX6_waysAsShort 51 [(0, .ref 6), (1, .ref 1), (2, .int v2), (3, .long v3), (5, .int v5), (6, .int v6)] [] σ v σ2 := by
  unfold bX6_waysAsShort_51 at h
  refine kg_iload 5 dX6_waysAsShort_51 rfl (pc2 := 53) rfl ?_
  refine kg_aload_n 1 dX6_waysAsShort_53 rfl (pc2 := 54) rfl ?_
  refine kg_getr clX7 rfl 0 (Nat.le_of_ble_eq_true rfl) lfRX6_30 tX_1 eX_1 rfl dX6_waysAsShort_54 (pc2 := 57) rfl ?_
  refine kg_geti clX4 rfl 1 (Nat.le_of_ble_eq_true rfl) lfRX6_58 tX_12 eX_12 rfl dX6_waysAsShort_57 (pc2 := 60) rfl ?_
  refine kg_icmp_ge 126 dX6_waysAsShort_60 rfl (pc2 := 63) rfl (fun q8 => ?_) (fun q8 => ?_)
  · replace h := (if_pos q8).symm.trans h
    refine kg_sub [0, 1, 2, 3, 4] (lv2 := [(0, .ref 6), (1, .ref 1), (2, .int v2), (3, .long v3), (5, .int v5)]) rfl ?_
    cases h
    exact hk
  · replace h := (if_neg q8).symm.trans h
    refine kg_aload_n 1 dX6_waysAsShort_63 rfl (pc2 := 64) rfl ?_
    refine kg_iload 5 dX6_waysAsShort_64 rfl (pc2 := 66) rfl ?_
    obtain ⟨r9, r9h, h⟩ := kw_bind_e h
    refine kg_callV (μ := μX6_waysAsShort) (d := (d + 1)) rfl mVX7_isTight [.int v6] [] (gX7_isTight (E := E) (d := d) v6 σ r9h) rfl lmRX6_61 (ci := 7) rfl tX_1 eX_1 rfl (Nat.le_of_ble_eq_true rfl) dX6_waysAsShort_66 rfl (st2 := [.int r9]) rfl (pc2 := 69) rfl ?_
    refine kg_if_eq 120 dX6_waysAsShort_69 rfl (pc2 := 72) rfl (fun q10 => ?_) (fun q10 => ?_)
    · replace h := (if_pos q10).symm.trans h
      obtain ⟨x11, x11e, h⟩ := kw_let_e h
      refine kg_iinc 5 dX6_waysAsShort_120 rfl (Nat.le_of_ble_eq_true rfl) x11e (lv2 := [(6, .int x11), (0, .ref 6), (1, .ref 1), (2, .int v2), (3, .long v3), (5, .int v5)]) rfl (pc2 := 123) rfl ?_
      refine kg_goto 51 dX6_waysAsShort_123 rfl ?_
      refine kg_sub [1, 2, 3, 4, 5, 0] (lv2 := [(0, .ref 6), (1, .ref 1), (2, .int v2), (3, .long v3), (5, .int v5), (6, .int x11)]) rfl ?_
      cases h
      exact hk
    · replace h := (if_neg q10).symm.trans h
      refine kg_aload_n 1 dX6_waysAsShort_72 rfl (pc2 := 73) rfl ?_
      refine kg_getr clX7 rfl 0 (Nat.le_of_ble_eq_true rfl) lfRX6_30 tX_1 eX_1 rfl dX6_waysAsShort_73 (pc2 := 76) rfl ?_
      refine kg_getr clX4 rfl 4 (Nat.le_of_ble_eq_true rfl) lfRX6_65 tX_12 eX_12 rfl dX6_waysAsShort_76 (pc2 := 79) rfl ?_
      refine kg_iload 5 dX6_waysAsShort_79 rfl (pc2 := 81) rfl ?_
      obtain ⟨q12, h⟩ := kw_chk_e h
      refine kg_iald tX_19 eX_19 q12 (j := v6.toNatClampNeg) rfl dX6_waysAsShort_81 (pc2 := 82) rfl ?_
      obtain ⟨x13, x13e, h⟩ := kw_let_e h
      refine kg_istore dX6_waysAsShort_82 (Nat.le_of_ble_eq_true rfl) x13e (lv2 := [(7, .int x13), (0, .ref 6), (1, .ref 1), (2, .int v2), (3, .long v3), (5, .int v5), (6, .int v6)]) rfl (pc2 := 84) rfl ?_
      refine kg_aload_n 1 dX6_waysAsShort_84 rfl (pc2 := 85) rfl ?_
      refine kg_getr clX6 rfl 5 (Nat.le_of_ble_eq_true rfl) lfRX6_22 tX_6 eX_6 rfl dX6_waysAsShort_85 (pc2 := 88) rfl ?_
      refine kg_iload 0 dX6_waysAsShort_88 rfl (pc2 := 90) rfl ?_
      refine kg_ldc2 rfl lcRX6_68 dX6_waysAsShort_90 (pc2 := 93) rfl ?_
      refine kg_aload_n 1 dX6_waysAsShort_93 rfl (pc2 := 94) rfl ?_
      refine kg_getr clX6 rfl 5 (Nat.le_of_ble_eq_true rfl) lfRX6_22 tX_6 eX_6 rfl dX6_waysAsShort_94 (pc2 := 97) rfl ?_
      refine kg_iload 0 dX6_waysAsShort_97 rfl (pc2 := 99) rfl ?_
      obtain ⟨q14, h⟩ := kw_chk_e h
      refine kg_lald tX_44 eX_44 q14 (j := x13.toNatClampNeg) rfl dX6_waysAsShort_99 (pc2 := 100) rfl ?_
      refine kg_aload_n 1 dX6_waysAsShort_100 rfl (pc2 := 101) rfl ?_
      refine kg_getr clX6 rfl 4 (Nat.le_of_ble_eq_true rfl) lfRX6_19 tX_6 eX_6 rfl dX6_waysAsShort_101 (pc2 := 104) rfl ?_
      refine kg_aload_n 2 dX6_waysAsShort_104 rfl (pc2 := 105) rfl ?_
      refine kg_getr clX7 rfl 0 (Nat.le_of_ble_eq_true rfl) lfRX6_30 tX_1 eX_1 rfl dX6_waysAsShort_105 (pc2 := 108) rfl ?_
      refine kg_getr clX4 rfl 3 (Nat.le_of_ble_eq_true rfl) lfRX6_34 tX_12 eX_12 rfl dX6_waysAsShort_108 (pc2 := 111) rfl ?_
      refine kg_iload 6 dX6_waysAsShort_111 rfl (pc2 := 113) rfl ?_
      refine kg_iald tX_18 eX_18 q12 (j := v6.toNatClampNeg) rfl dX6_waysAsShort_113 (pc2 := 114) rfl ?_
      obtain ⟨q15, h⟩ := kw_chk_e h
      refine kg_lald tX_43 eX_43 q15 (j := (σ.1 18 v6.toNatClampNeg).toNatClampNeg) rfl dX6_waysAsShort_114 (pc2 := 115) rfl ?_
      refine kg_ladd dX6_waysAsShort_115 (pc2 := 116) rfl ?_
      obtain ⟨x16, x16e, h⟩ := kw_let_e h
      refine kg_mmin_long (μ := μX6_waysAsShort) (d := (d + 1)) rfl rfl mmRX6_70 (Nat.le_of_ble_eq_true rfl) x16e dX6_waysAsShort_116 (pc2 := 119) rfl ?_
      obtain ⟨s17, s17e, h⟩ := kw_let_e h
      refine kg_last tX_44 eX_44 q14 (j := x13.toNatClampNeg) rfl s17e dX6_waysAsShort_119 (pc2 := 120) rfl ?_
      obtain ⟨x18, x18e, h⟩ := kw_let_e h
      refine kg_iinc 6 dX6_waysAsShort_120 rfl (Nat.le_of_ble_eq_true rfl) x18e (lv2 := [(6, .int x18), (7, .int x13), (0, .ref 6), (1, .ref 1), (2, .int v2), (3, .long v3), (5, .int v5)]) rfl (pc2 := 123) rfl ?_
      refine kg_goto 51 dX6_waysAsShort_123 rfl ?_
      refine kg_sub [2, 3, 4, 5, 6, 0] (lv2 := [(0, .ref 6), (1, .ref 1), (2, .int v2), (3, .long v3), (5, .int v5), (6, .int x18)]) rfl ?_
      cases h
      exact hk
def bX6_waysAsShort_28 (v2 : Int32) (v3 : Int64) (v5 : Int32) (σ : kw_M) : Option ((Int64 × Int32 × kw_M) ⊕ (Int64 × kw_M)) :=
 if (σ.1 12 0) ≤ v5 then
 (some (.inr (v3, σ)))
 else
 (fXJ7_fill_d0a16 44 (0 : Int64) σ).bind fun r7 =>
 (kw_loop (fun s => bX6_waysAsShort_51 v2 v3 v5 s.1 s.2) kw_F ((0 : Int32), r7)).bind fun x19 =>
 (fX6_foundIsKnown x19).bind fun r20 =>
 kw_chk (kw_in v2 12) <|
 kw_let (if (v3 + (r20.2 43 v2.toNatClampNeg)) < (1000000000 : Int64) then (v3 + (r20.2 43 v2.toNatClampNeg)) else (1000000000 : Int64)) fun x22 =>
 kw_let (v5 + (1 : Int32)) fun x23 =>
 some (.inl (x22, x23, r20))
set_option maxHeartbeats 4000000 in
set_option maxRecDepth 100000 in
theorem lX6_waysAsShort_28 {E : kw_E} {d : Nat} (v2 : Int32) (v3 : Int64) (v5 : Int32) (σ : kw_M) {v : Option Value} {σ2 : kw_M} {o : (Int64 × Int32 × kw_M) ⊕ (Int64 × kw_M)} (h : bX6_waysAsShort_28 v2 v3 v5 σ = some o) (hk : Sum.elim (fun s => kw_G E kwTX 47 (d + 2) μX6_waysAsShort 28 [(0, .ref 6), (1, .ref 1), (2, .int v2), (3, .long s.1), (5, .int s.2.1)] [] s.2.2 v σ2) (fun y => kw_G E kwTX 47 (d + 2) μX6_waysAsShort 151 [(3, .long y.1)] [] y.2 v σ2) o) : kw_G E kwTX 47 (d + 2) μX6_waysAsShort 28 [(0, .ref 6), (1, .ref 1), (2, .int v2), (3, .long v3), (5, .int v5)] [] σ v σ2 := by
  unfold bX6_waysAsShort_28 at h
  refine kg_iload 4 dX6_waysAsShort_28 rfl (pc2 := 30) rfl ?_
  refine kg_aload_n 1 dX6_waysAsShort_30 rfl (pc2 := 31) rfl ?_
  refine kg_getr clX7 rfl 0 (Nat.le_of_ble_eq_true rfl) lfRX6_30 tX_1 eX_1 rfl dX6_waysAsShort_31 (pc2 := 34) rfl ?_
  refine kg_geti clX4 rfl 0 (Nat.le_of_ble_eq_true rfl) lfRX6_55 tX_12 eX_12 rfl dX6_waysAsShort_34 (pc2 := 37) rfl ?_
  refine kg_icmp_ge 151 dX6_waysAsShort_37 rfl (pc2 := 40) rfl (fun q6 => ?_) (fun q6 => ?_)
  · replace h := (if_pos q6).symm.trans h
    refine kg_sub [3] (lv2 := [(3, .long v3)]) rfl ?_
    cases h
    exact hk
  · replace h := (if_neg q6).symm.trans h
    refine kg_aload_n 0 dX6_waysAsShort_40 rfl (pc2 := 41) rfl ?_
    refine kg_getr clX6 rfl 5 (Nat.le_of_ble_eq_true rfl) lfRX6_22 tX_6 eX_6 rfl dX6_waysAsShort_41 (pc2 := 44) rfl ?_
    refine kg_lconst dX6_waysAsShort_44 kl_0 (pc2 := 45) rfl ?_
    obtain ⟨r7, r7h, h⟩ := kw_bind_e h
    refine kg_callS (μ := μX6_waysAsShort) (d := (d + 1)) rfl mSJ7_fill_d0a16 [.ref 44, .long (0 : Int64)] [] (gXJ7_fill_d0a16 (E := E) (d := (d + 1)) 44 ⟨tX_44, eX_44⟩ (0 : Int64) σ r7h) rfl lmRX6_45 rfl (Nat.le_of_ble_eq_true rfl) dX6_waysAsShort_45 rfl (st2 := []) rfl (pc2 := 48) rfl ?_
    refine kg_iconst dX6_waysAsShort_48 ki_0 (pc2 := 49) rfl ?_
    refine kg_istore dX6_waysAsShort_49 (Nat.le_of_ble_eq_true rfl) rfl (lv2 := [(6, .int (0 : Int32)), (0, .ref 6), (1, .ref 1), (2, .int v2), (3, .long v3), (5, .int v5)]) rfl (pc2 := 51) rfl ?_
    refine kg_sub [1, 2, 3, 4, 5, 0] (lv2 := [(0, .ref 6), (1, .ref 1), (2, .int v2), (3, .long v3), (5, .int v5), (6, .int (0 : Int32))]) rfl ?_
    obtain ⟨x19, x19h, h⟩ := kw_bind_e h
    refine kw_loop_e (P := fun s => kw_G E kwTX 47 (d + 2) μX6_waysAsShort 51 [(0, .ref 6), (1, .ref 1), (2, .int v2), (3, .long v3), (5, .int v5), (6, .int s.1)] [] s.2 v σ2) (K := fun y => kw_G E kwTX 47 (d + 2) μX6_waysAsShort 126 [(0, .ref 6), (1, .ref 1), (2, .int v2), (3, .long v3), (5, .int v5)] [] y v σ2) (fun s o h0 hk => lX6_waysAsShort_51 v2 v3 v5 s.1 s.2 h0 hk) kw_F _ _ x19h ?_
    show kw_G E kwTX 47 (d + 2) μX6_waysAsShort 126 [(0, .ref 6), (1, .ref 1), (2, .int v2), (3, .long v3), (5, .int v5)] [] x19 v σ2
    refine kg_aload_n 0 dX6_waysAsShort_126 rfl (pc2 := 127) rfl ?_
    obtain ⟨r20, r20h, h⟩ := kw_bind_e h
    refine kg_callV (μ := μX6_waysAsShort) (d := (d + 1)) rfl mVX6_foundIsKnown [] [] (gX6_foundIsKnown (E := E) (d := d) x19 r20h) rfl lmRX6_76 (ci := 6) rfl tX_6 eX_6 rfl (Nat.le_of_ble_eq_true rfl) dX6_waysAsShort_127 rfl (st2 := []) rfl (pc2 := 130) rfl ?_
    refine kg_ldc2 rfl lcRX6_68 dX6_waysAsShort_130 (pc2 := 133) rfl ?_
    refine kg_lload_n 3 dX6_waysAsShort_133 rfl (pc2 := 134) rfl ?_
    refine kg_aload_n 0 dX6_waysAsShort_134 rfl (pc2 := 135) rfl ?_
    refine kg_getr clX6 rfl 4 (Nat.le_of_ble_eq_true rfl) lfRX6_19 tX_6 eX_6 rfl dX6_waysAsShort_135 (pc2 := 138) rfl ?_
    refine kg_iload_n 2 dX6_waysAsShort_138 rfl (pc2 := 139) rfl ?_
    obtain ⟨q21, h⟩ := kw_chk_e h
    refine kg_lald tX_43 eX_43 q21 (j := v2.toNatClampNeg) rfl dX6_waysAsShort_139 (pc2 := 140) rfl ?_
    refine kg_ladd dX6_waysAsShort_140 (pc2 := 141) rfl ?_
    obtain ⟨x22, x22e, h⟩ := kw_let_e h
    refine kg_mmin_long (μ := μX6_waysAsShort) (d := (d + 1)) rfl rfl mmRX6_70 (Nat.le_of_ble_eq_true rfl) x22e dX6_waysAsShort_141 (pc2 := 144) rfl ?_
    refine kg_lstore_n dX6_waysAsShort_144 rfl (Nat.le_of_ble_eq_true rfl) rfl (lv2 := [(3, .long x22), (0, .ref 6), (1, .ref 1), (2, .int v2), (5, .int v5)]) rfl (pc2 := 145) rfl ?_
    obtain ⟨x23, x23e, h⟩ := kw_let_e h
    refine kg_iinc 4 dX6_waysAsShort_145 rfl (Nat.le_of_ble_eq_true rfl) x23e (lv2 := [(5, .int x23), (3, .long x22), (0, .ref 6), (1, .ref 1), (2, .int v2)]) rfl (pc2 := 148) rfl ?_
    refine kg_goto 28 dX6_waysAsShort_148 rfl ?_
    refine kg_sub [2, 3, 4, 1, 0] (lv2 := [(0, .ref 6), (1, .ref 1), (2, .int v2), (3, .long x22), (5, .int x23)]) rfl ?_
    cases h
    exact hk
def fX6_waysAsShort (a2 : Int32) (σ : kw_M) : Option (Int64 × kw_M) :=
 (fXJ7_fill_d0a16 43 (0 : Int64) σ).bind fun r1 =>
 kw_chk (kw_in (r1.1 1 2) 12) <|
 kw_let (kw_sl r1 43 (r1.1 1 2).toNatClampNeg (1 : Int64)) fun s3 =>
 kw_chk (kw_in a2 12) <|
 kw_let (s3.2 43 a2.toNatClampNeg) fun x5 =>
 (kw_loop (fun s => bX6_waysAsShort_28 a2 s.1 s.2.1 s.2.2) kw_F (x5, (1 : Int32), s3)).bind fun x24 =>
 some (x24.1, x24.2)
set_option maxHeartbeats 4000000 in
set_option maxRecDepth 100000 in
theorem gX6_waysAsShort {E : kw_E} {d : Nat} (a2 : Int32) (σ : kw_M) {r : Int64 × kw_M} (h : fX6_waysAsShort a2 σ = some r) : kw_Met E kwTX 47 (d + 2) μX6_waysAsShort [.ref 6, .ref 1, .int a2] σ (some (Value.long r.1)) r.2 := by
  refine kw_enter plRX6 (Nat.le_of_ble_eq_true rfl) ?_
  show kw_G E kwTX 47 (d + 2) μX6_waysAsShort 0 [(0, .ref 6), (1, .ref 1), (2, .int a2)] [] σ (some (Value.long r.1)) r.2
  unfold fX6_waysAsShort at h
  refine kg_aload_n 0 dX6_waysAsShort_0 rfl (pc2 := 1) rfl ?_
  refine kg_getr clX6 rfl 4 (Nat.le_of_ble_eq_true rfl) lfRX6_19 tX_6 eX_6 rfl dX6_waysAsShort_1 (pc2 := 4) rfl ?_
  refine kg_lconst dX6_waysAsShort_4 kl_0 (pc2 := 5) rfl ?_
  obtain ⟨r1, r1h, h⟩ := kw_bind_e h
  refine kg_callS (μ := μX6_waysAsShort) (d := (d + 1)) rfl mSJ7_fill_d0a16 [.ref 43, .long (0 : Int64)] [] (gXJ7_fill_d0a16 (E := E) (d := (d + 1)) 43 ⟨tX_43, eX_43⟩ (0 : Int64) σ r1h) rfl lmRX6_45 rfl (Nat.le_of_ble_eq_true rfl) dX6_waysAsShort_5 rfl (st2 := []) rfl (pc2 := 8) rfl ?_
  refine kg_aload_n 0 dX6_waysAsShort_8 rfl (pc2 := 9) rfl ?_
  refine kg_getr clX6 rfl 4 (Nat.le_of_ble_eq_true rfl) lfRX6_19 tX_6 eX_6 rfl dX6_waysAsShort_9 (pc2 := 12) rfl ?_
  refine kg_aload_n 1 dX6_waysAsShort_12 rfl (pc2 := 13) rfl ?_
  refine kg_geti clX7 rfl 2 (Nat.le_of_ble_eq_true rfl) lfRX6_51 tX_1 eX_1 rfl dX6_waysAsShort_13 (pc2 := 16) rfl ?_
  refine kg_lconst dX6_waysAsShort_16 kl_1 (pc2 := 17) rfl ?_
  obtain ⟨q2, h⟩ := kw_chk_e h
  obtain ⟨s3, s3e, h⟩ := kw_let_e h
  refine kg_last tX_43 eX_43 q2 (j := (r1.1 1 2).toNatClampNeg) rfl s3e dX6_waysAsShort_17 (pc2 := 18) rfl ?_
  refine kg_aload_n 0 dX6_waysAsShort_18 rfl (pc2 := 19) rfl ?_
  refine kg_getr clX6 rfl 4 (Nat.le_of_ble_eq_true rfl) lfRX6_19 tX_6 eX_6 rfl dX6_waysAsShort_19 (pc2 := 22) rfl ?_
  refine kg_iload_n 2 dX6_waysAsShort_22 rfl (pc2 := 23) rfl ?_
  obtain ⟨q4, h⟩ := kw_chk_e h
  refine kg_lald tX_43 eX_43 q4 (j := a2.toNatClampNeg) rfl dX6_waysAsShort_23 (pc2 := 24) rfl ?_
  obtain ⟨x5, x5e, h⟩ := kw_let_e h
  refine kg_lstore_n dX6_waysAsShort_24 rfl (Nat.le_of_ble_eq_true rfl) x5e (lv2 := [(3, .long x5), (0, .ref 6), (1, .ref 1), (2, .int a2)]) rfl (pc2 := 25) rfl ?_
  refine kg_iconst dX6_waysAsShort_25 ki_1 (pc2 := 26) rfl ?_
  refine kg_istore dX6_waysAsShort_26 (Nat.le_of_ble_eq_true rfl) rfl (lv2 := [(5, .int (1 : Int32)), (3, .long x5), (0, .ref 6), (1, .ref 1), (2, .int a2)]) rfl (pc2 := 28) rfl ?_
  refine kg_sub [2, 3, 4, 1, 0] (lv2 := [(0, .ref 6), (1, .ref 1), (2, .int a2), (3, .long x5), (5, .int (1 : Int32))]) rfl ?_
  obtain ⟨x24, x24h, h⟩ := kw_bind_e h
  refine kw_loop_e (P := fun s => kw_G E kwTX 47 (d + 2) μX6_waysAsShort 28 [(0, .ref 6), (1, .ref 1), (2, .int a2), (3, .long s.1), (5, .int s.2.1)] [] s.2.2 (some (Value.long r.1)) r.2) (K := fun y => kw_G E kwTX 47 (d + 2) μX6_waysAsShort 151 [(3, .long y.1)] [] y.2 (some (Value.long r.1)) r.2) (fun s o h0 hk => lX6_waysAsShort_28 a2 s.1 s.2.1 s.2.2 h0 hk) kw_F _ _ x24h ?_
  show kw_G E kwTX 47 (d + 2) μX6_waysAsShort 151 [(3, .long x24.1)] [] x24.2 (some (Value.long r.1)) r.2
  refine kg_lload_n 0 dX6_waysAsShort_151 rfl (pc2 := 152) rfl ?_
  cases h
  exact kg_lret dX6_waysAsShort_152 rfl
def fX9_distanceWithout (a1 : Int32) (a2 : Int32) (σ : kw_M) : Option (Int64 × kw_M) :=
 (fX4_settle 12 41 (σ.1 1 2) a1 σ).bind fun r1 =>
 kw_chk (kw_in a2 12) <|
 some ((r1.2 41 a2.toNatClampNeg), r1)
set_option maxHeartbeats 4000000 in
set_option maxRecDepth 100000 in
theorem gX9_distanceWithout {E : kw_E} {d : Nat} (a1 : Int32) (a2 : Int32) (σ : kw_M) {r : Int64 × kw_M} (h : fX9_distanceWithout a1 a2 σ = some r) : kw_Met E kwTX 47 (d + 2) μX9_distanceWithout [.ref 0, .int a1, .int a2] σ (some (Value.long r.1)) r.2 := by
  refine kw_enter plRX9 (Nat.le_of_ble_eq_true rfl) ?_
  show kw_G E kwTX 47 (d + 2) μX9_distanceWithout 0 [(0, .ref 0), (1, .int a1), (2, .int a2)] [] σ (some (Value.long r.1)) r.2
  unfold fX9_distanceWithout at h
  refine kg_aload_n 0 dX9_distanceWithout_0 rfl (pc2 := 1) rfl ?_
  refine kg_getr clX9 rfl 0 (Nat.le_of_ble_eq_true rfl) lfRX9_10 tX_0 eX_0 rfl dX9_distanceWithout_1 (pc2 := 4) rfl ?_
  refine kg_getr clX7 rfl 0 (Nat.le_of_ble_eq_true rfl) lfRX9_148 tX_1 eX_1 rfl dX9_distanceWithout_4 (pc2 := 7) rfl ?_
  refine kg_aload_n 0 dX9_distanceWithout_7 rfl (pc2 := 8) rfl ?_
  refine kg_getr clX9 rfl 0 (Nat.le_of_ble_eq_true rfl) lfRX9_10 tX_0 eX_0 rfl dX9_distanceWithout_8 (pc2 := 11) rfl ?_
  refine kg_geti clX7 rfl 2 (Nat.le_of_ble_eq_true rfl) lfRX9_189 tX_1 eX_1 rfl dX9_distanceWithout_11 (pc2 := 14) rfl ?_
  refine kg_iload_n 1 dX9_distanceWithout_14 rfl (pc2 := 15) rfl ?_
  refine kg_aload_n 0 dX9_distanceWithout_15 rfl (pc2 := 16) rfl ?_
  refine kg_getr clX9 rfl 6 (Nat.le_of_ble_eq_true rfl) lfRX9_43 tX_0 eX_0 rfl dX9_distanceWithout_16 (pc2 := 19) rfl ?_
  refine kg_getr clX6 rfl 0 (Nat.le_of_ble_eq_true rfl) lfRX9_123 tX_6 eX_6 rfl dX9_distanceWithout_19 (pc2 := 22) rfl ?_
  obtain ⟨r1, r1h, h⟩ := kw_bind_e h
  refine kg_callV (μ := μX9_distanceWithout) (d := (d + 1)) rfl mVX4_settle [.int (σ.1 1 2), .int a1, .ref 41] [] (gX4_settle (E := E) (d := d) 12 41 kx_4_12 ⟨tX_41, eX_41⟩ (σ.1 1 2) a1 σ r1h) rfl lmRX9_130 (ci := 4) rfl tX_12 eX_12 rfl (Nat.le_of_ble_eq_true rfl) dX9_distanceWithout_22 rfl (st2 := []) rfl (pc2 := 25) rfl ?_
  refine kg_aload_n 0 dX9_distanceWithout_25 rfl (pc2 := 26) rfl ?_
  refine kg_getr clX9 rfl 6 (Nat.le_of_ble_eq_true rfl) lfRX9_43 tX_0 eX_0 rfl dX9_distanceWithout_26 (pc2 := 29) rfl ?_
  refine kg_getr clX6 rfl 0 (Nat.le_of_ble_eq_true rfl) lfRX9_123 tX_6 eX_6 rfl dX9_distanceWithout_29 (pc2 := 32) rfl ?_
  refine kg_iload_n 2 dX9_distanceWithout_32 rfl (pc2 := 33) rfl ?_
  obtain ⟨q2, h⟩ := kw_chk_e h
  refine kg_lald tX_41 eX_41 q2 (j := a2.toNatClampNeg) rfl dX9_distanceWithout_33 (pc2 := 34) rfl ?_
  cases h
  exact kg_lret dX9_distanceWithout_34 rfl
def fX9_isNeeded (a1 : Int32) (a2 : Int32) (σ : kw_M) : Option (Int32 × kw_M) :=
 (fX9_distanceWithout a1 a2 σ).bind fun r1 =>
 kw_chk (kw_in a2 12) <|
 if r1.1 = (r1.2.2 16 a2.toNatClampNeg) then
 (some ((0 : Int32), r1.2))
 else
 some ((1 : Int32), r1.2)
set_option maxHeartbeats 4000000 in
set_option maxRecDepth 100000 in
theorem gX9_isNeeded {E : kw_E} {d : Nat} (a1 : Int32) (a2 : Int32) (σ : kw_M) {r : Int32 × kw_M} (h : fX9_isNeeded a1 a2 σ = some r) : kw_Met E kwTX 47 (d + 3) μX9_isNeeded [.ref 0, .int a1, .int a2] σ (some (Value.int r.1)) r.2 := by
  refine kw_enter plRX9 (Nat.le_of_ble_eq_true rfl) ?_
  show kw_G E kwTX 47 (d + 3) μX9_isNeeded 0 [(0, .ref 0), (1, .int a1), (2, .int a2)] [] σ (some (Value.int r.1)) r.2
  unfold fX9_isNeeded at h
  refine kg_aload_n 0 dX9_isNeeded_0 rfl (pc2 := 1) rfl ?_
  refine kg_iload_n 1 dX9_isNeeded_1 rfl (pc2 := 2) rfl ?_
  refine kg_iload_n 2 dX9_isNeeded_2 rfl (pc2 := 3) rfl ?_
  obtain ⟨r1, r1h, h⟩ := kw_bind_e h
  refine kg_callV (μ := μX9_isNeeded) (d := (d + 2)) rfl mVX9_distanceWithout [.int a1, .int a2] [] (gX9_distanceWithout (E := E) (d := d) a1 a2 σ r1h) rfl lmRX9_349 (ci := 9) rfl tX_0 eX_0 rfl (Nat.le_of_ble_eq_true rfl) dX9_isNeeded_3 rfl (st2 := [.long r1.1]) rfl (pc2 := 6) rfl ?_
  refine kg_aload_n 0 dX9_isNeeded_6 rfl (pc2 := 7) rfl ?_
  refine kg_getr clX9 rfl 0 (Nat.le_of_ble_eq_true rfl) lfRX9_10 tX_0 eX_0 rfl dX9_isNeeded_7 (pc2 := 10) rfl ?_
  refine kg_getr clX7 rfl 9 (Nat.le_of_ble_eq_true rfl) lfRX9_284 tX_1 eX_1 rfl dX9_isNeeded_10 (pc2 := 13) rfl ?_
  refine kg_iload_n 2 dX9_isNeeded_13 rfl (pc2 := 14) rfl ?_
  obtain ⟨q2, h⟩ := kw_chk_e h
  refine kg_lald tX_16 eX_16 q2 (j := a2.toNatClampNeg) rfl dX9_isNeeded_14 (pc2 := 15) rfl ?_
  refine kg_lcmp_eq 23 dX9_isNeeded_15 dX9_isNeeded_16 rfl (pc2 := 19) rfl (fun q3 => ?_) (fun q3 => ?_)
  · replace h := (if_pos q3).symm.trans h
    refine kg_iconst dX9_isNeeded_23 ki_0 (pc2 := 24) rfl ?_
    cases h
    exact kg_iret (ty := .boolean) dX9_isNeeded_24 rfl rfl
  · replace h := (if_neg q3).symm.trans h
    refine kg_iconst dX9_isNeeded_19 ki_1 (pc2 := 20) rfl ?_
    refine kg_goto 24 dX9_isNeeded_20 rfl ?_
    cases h
    exact kg_iret (ty := .boolean) dX9_isNeeded_24 rfl rfl
def bX9_neededCount_11 (v1 : Int32) (v2 : Int32) (v3 : Int32) (v4 : Int32) (σ : kw_M) : Option ((Int32 × Int32 × kw_M) ⊕ (Int32 × kw_M)) :=
 if v2 ≤ v4 then
 (some (.inr (v3, σ)))
 else
 kw_chk (kw_in v4 12) <|
 (fX9_isNeeded (σ.1 42 v4.toNatClampNeg) v1 σ).bind fun r4 =>
 if r4.1 = (0 : Int32) then
 (kw_let (v4 + (1 : Int32)) fun x6 =>
 some (.inl (v3, x6, r4.2)))
 else
 kw_let (v3 + (1 : Int32)) fun x7 =>
 kw_let (v4 + (1 : Int32)) fun x8 =>
 some (.inl (x7, x8, r4.2))
set_option maxHeartbeats 4000000 in
set_option maxRecDepth 100000 in
theorem lX9_neededCount_11 {E : kw_E} {d : Nat} (v1 : Int32) (v2 : Int32) (v3 : Int32) (v4 : Int32) (σ : kw_M) {v : Option Value} {σ2 : kw_M} {o : (Int32 × Int32 × kw_M) ⊕ (Int32 × kw_M)} (h : bX9_neededCount_11 v1 v2 v3 v4 σ = some o) (hk : Sum.elim (fun s => kw_G E kwTX 47 (d + 4) μX9_neededCount 11 [(0, .ref 0), (1, .int v1), (2, .int v2), (3, .int s.1), (4, .int s.2.1)] [] s.2.2 v σ2) (fun y => kw_G E kwTX 47 (d + 4) μX9_neededCount 44 [(3, .int y.1)] [] y.2 v σ2) o) : kw_G E kwTX 47 (d + 4) μX9_neededCount 11 [(0, .ref 0), (1, .int v1), (2, .int v2), (3, .int v3), (4, .int v4)] [] σ v σ2 := by
  unfold bX9_neededCount_11 at h
  refine kg_iload 4 dX9_neededCount_11 rfl (pc2 := 13) rfl ?_
  refine kg_iload_n 2 dX9_neededCount_13 rfl (pc2 := 14) rfl ?_
  refine kg_icmp_ge 44 dX9_neededCount_14 rfl (pc2 := 17) rfl (fun q2 => ?_) (fun q2 => ?_)
  · replace h := (if_pos q2).symm.trans h
    refine kg_sub [3] (lv2 := [(3, .int v3)]) rfl ?_
    cases h
    exact hk
  · replace h := (if_neg q2).symm.trans h
    refine kg_aload_n 0 dX9_neededCount_17 rfl (pc2 := 18) rfl ?_
    refine kg_aload_n 0 dX9_neededCount_18 rfl (pc2 := 19) rfl ?_
    refine kg_getr clX9 rfl 6 (Nat.le_of_ble_eq_true rfl) lfRX9_43 tX_0 eX_0 rfl dX9_neededCount_19 (pc2 := 22) rfl ?_
    refine kg_getr clX6 rfl 1 (Nat.le_of_ble_eq_true rfl) lfRX9_339 tX_6 eX_6 rfl dX9_neededCount_22 (pc2 := 25) rfl ?_
    refine kg_iload 4 dX9_neededCount_25 rfl (pc2 := 27) rfl ?_
    obtain ⟨q3, h⟩ := kw_chk_e h
    refine kg_iald tX_42 eX_42 q3 (j := v4.toNatClampNeg) rfl dX9_neededCount_27 (pc2 := 28) rfl ?_
    refine kg_iload_n 1 dX9_neededCount_28 rfl (pc2 := 29) rfl ?_
    obtain ⟨r4, r4h, h⟩ := kw_bind_e h
    refine kg_callV (μ := μX9_neededCount) (d := (d + 3)) rfl mVX9_isNeeded [.int (σ.1 42 v4.toNatClampNeg), .int v1] [] (gX9_isNeeded (E := E) (d := d) (σ.1 42 v4.toNatClampNeg) v1 σ r4h) rfl lmRX9_345 (ci := 9) rfl tX_0 eX_0 rfl (Nat.le_of_ble_eq_true rfl) dX9_neededCount_29 rfl (st2 := [.int r4.1]) rfl (pc2 := 32) rfl ?_
    refine kg_if_eq 38 dX9_neededCount_32 rfl (pc2 := 35) rfl (fun q5 => ?_) (fun q5 => ?_)
    · replace h := (if_pos q5).symm.trans h
      obtain ⟨x6, x6e, h⟩ := kw_let_e h
      refine kg_iinc 4 dX9_neededCount_38 rfl (Nat.le_of_ble_eq_true rfl) x6e (lv2 := [(4, .int x6), (0, .ref 0), (1, .int v1), (2, .int v2), (3, .int v3)]) rfl (pc2 := 41) rfl ?_
      refine kg_goto 11 dX9_neededCount_41 rfl ?_
      refine kg_sub [1, 2, 3, 4, 0] (lv2 := [(0, .ref 0), (1, .int v1), (2, .int v2), (3, .int v3), (4, .int x6)]) rfl ?_
      cases h
      exact hk
    · replace h := (if_neg q5).symm.trans h
      obtain ⟨x7, x7e, h⟩ := kw_let_e h
      refine kg_iinc 3 dX9_neededCount_35 rfl (Nat.le_of_ble_eq_true rfl) x7e (lv2 := [(3, .int x7), (0, .ref 0), (1, .int v1), (2, .int v2), (4, .int v4)]) rfl (pc2 := 38) rfl ?_
      obtain ⟨x8, x8e, h⟩ := kw_let_e h
      refine kg_iinc 4 dX9_neededCount_38 rfl (Nat.le_of_ble_eq_true rfl) x8e (lv2 := [(4, .int x8), (3, .int x7), (0, .ref 0), (1, .int v1), (2, .int v2)]) rfl (pc2 := 41) rfl ?_
      refine kg_goto 11 dX9_neededCount_41 rfl ?_
      refine kg_sub [2, 3, 4, 1, 0] (lv2 := [(0, .ref 0), (1, .int v1), (2, .int v2), (3, .int x7), (4, .int x8)]) rfl ?_
      cases h
      exact hk
def fX9_neededCount (a1 : Int32) (σ : kw_M) : Option (Int32 × kw_M) :=
 (fX9_findWay a1 σ).bind fun r1 =>
 (kw_loop (fun s => bX9_neededCount_11 a1 r1.1 s.1 s.2.1 s.2.2) kw_F ((0 : Int32), (0 : Int32), r1.2)).bind fun x9 =>
 some (x9.1, x9.2)
set_option maxHeartbeats 4000000 in
set_option maxRecDepth 100000 in
theorem gX9_neededCount {E : kw_E} {d : Nat} (a1 : Int32) (σ : kw_M) {r : Int32 × kw_M} (h : fX9_neededCount a1 σ = some r) : kw_Met E kwTX 47 (d + 4) μX9_neededCount [.ref 0, .int a1] σ (some (Value.int r.1)) r.2 := by
  refine kw_enter plRX9 (Nat.le_of_ble_eq_true rfl) ?_
  show kw_G E kwTX 47 (d + 4) μX9_neededCount 0 [(0, .ref 0), (1, .int a1)] [] σ (some (Value.int r.1)) r.2
  unfold fX9_neededCount at h
  refine kg_aload_n 0 dX9_neededCount_0 rfl (pc2 := 1) rfl ?_
  refine kg_iload_n 1 dX9_neededCount_1 rfl (pc2 := 2) rfl ?_
  obtain ⟨r1, r1h, h⟩ := kw_bind_e h
  refine kg_callV (μ := μX9_neededCount) (d := (d + 3)) rfl mVX9_findWay [.int a1] [] (gX9_findWay (E := E) (d := (d + 2)) a1 σ r1h) rfl lmRX9_292 (ci := 9) rfl tX_0 eX_0 rfl (Nat.le_of_ble_eq_true rfl) dX9_neededCount_2 rfl (st2 := [.int r1.1]) rfl (pc2 := 5) rfl ?_
  refine kg_istore_n dX9_neededCount_5 rfl (Nat.le_of_ble_eq_true rfl) rfl (lv2 := [(2, .int r1.1), (0, .ref 0), (1, .int a1)]) rfl (pc2 := 6) rfl ?_
  refine kg_iconst dX9_neededCount_6 ki_0 (pc2 := 7) rfl ?_
  refine kg_istore_n dX9_neededCount_7 rfl (Nat.le_of_ble_eq_true rfl) rfl (lv2 := [(3, .int (0 : Int32)), (2, .int r1.1), (0, .ref 0), (1, .int a1)]) rfl (pc2 := 8) rfl ?_
  refine kg_iconst dX9_neededCount_8 ki_0 (pc2 := 9) rfl ?_
  refine kg_istore dX9_neededCount_9 (Nat.le_of_ble_eq_true rfl) rfl (lv2 := [(4, .int (0 : Int32)), (3, .int (0 : Int32)), (2, .int r1.1), (0, .ref 0), (1, .int a1)]) rfl (pc2 := 11) rfl ?_
  refine kg_sub [3, 4, 2, 1, 0] (lv2 := [(0, .ref 0), (1, .int a1), (2, .int r1.1), (3, .int (0 : Int32)), (4, .int (0 : Int32))]) rfl ?_
  obtain ⟨x9, x9h, h⟩ := kw_bind_e h
  refine kw_loop_e (P := fun s => kw_G E kwTX 47 (d + 4) μX9_neededCount 11 [(0, .ref 0), (1, .int a1), (2, .int r1.1), (3, .int s.1), (4, .int s.2.1)] [] s.2.2 (some (Value.int r.1)) r.2) (K := fun y => kw_G E kwTX 47 (d + 4) μX9_neededCount 44 [(3, .int y.1)] [] y.2 (some (Value.int r.1)) r.2) (fun s o h0 hk => lX9_neededCount_11 a1 r1.1 s.1 s.2.1 s.2.2 h0 hk) kw_F _ _ x9h ?_
  show kw_G E kwTX 47 (d + 4) μX9_neededCount 44 [(3, .int x9.1)] [] x9.2 (some (Value.int r.1)) r.2
  refine kg_iload_n 0 dX9_neededCount_44 rfl (pc2 := 45) rfl ?_
  cases h
  exact kg_iret (ty := .int) dX9_neededCount_45 rfl rfl
def jX9_dearestRoad_53_L15 (v1 : Int32) (v2 : Int32) (v3 : Int32) (v4 : Int64) (v6 : Int32) (v7 : Int32) (v8 : Int64) (t0 : Int32) (σ : kw_M) : Option ((Int32 × Int64 × Int32 × kw_M) ⊕ (Int32 × kw_M)) :=
 if t0 = (0 : Int32) then
 ((fX9_isLess v4 v8 σ).bind fun r9 =>
 if r9 = (0 : Int32) then
 (if v8 = v4 then
 (if v3 ≤ v7 then
 (kw_let (v6 + (1 : Int32)) fun x15 =>
 some (.inl (v3, v4, x15, σ)))
 else
 kw_let (v6 + (1 : Int32)) fun x16 =>
 some (.inl (v7, v8, x16, σ)))
 else
 kw_let (v6 + (1 : Int32)) fun x13 =>
 some (.inl (v3, v4, x13, σ)))
 else
 kw_let (v6 + (1 : Int32)) fun x11 =>
 some (.inl (v7, v8, x11, σ)))
 else
 kw_let (v6 + (1 : Int32)) fun x8 =>
 some (.inl (v7, v8, x8, σ))
set_option maxHeartbeats 4000000 in
set_option maxRecDepth 100000 in
theorem gjX9_dearestRoad_53_L15 {E : kw_E} {d : Nat} (v1 : Int32) (v2 : Int32) (v3 : Int32) (v4 : Int64) (v6 : Int32) (v7 : Int32) (v8 : Int64) (t0 : Int32) (σ : kw_M) {v : Option Value} {σ2 : kw_M} {o : (Int32 × Int64 × Int32 × kw_M) ⊕ (Int32 × kw_M)} (h : jX9_dearestRoad_53_L15 v1 v2 v3 v4 v6 v7 v8 t0 σ = some o) (hk : Sum.elim (fun s => kw_G E kwTX 47 (d + 3) μX9_dearestRoad 15 [(0, .ref 0), (1, .int v1), (2, .int v2), (3, .int s.1), (4, .long s.2.1), (6, .int s.2.2.1)] [] s.2.2.2 v σ2) (fun y => kw_G E kwTX 47 (d + 3) μX9_dearestRoad 97 [(3, .int y.1)] [] y.2 v σ2) o) : kw_G E kwTX 47 (d + 3) μX9_dearestRoad 53 [(0, .ref 0), (1, .int v1), (2, .int v2), (3, .int v3), (4, .long v4), (6, .int v6), (7, .int v7), (8, .long v8)] [.int t0] σ v σ2 := by
  unfold jX9_dearestRoad_53_L15 at h
  refine kg_istore dX9_dearestRoad_53 (Nat.le_of_ble_eq_true rfl) rfl (lv2 := [(10, .int t0), (0, .ref 0), (1, .int v1), (2, .int v2), (3, .int v3), (4, .long v4), (6, .int v6), (7, .int v7), (8, .long v8)]) rfl (pc2 := 55) rfl ?_
  refine kg_iload 0 dX9_dearestRoad_55 rfl (pc2 := 57) rfl ?_
  refine kg_if_ne 84 dX9_dearestRoad_57 rfl (pc2 := 60) rfl (fun q7 => ?_) (fun q7 => ?_)
  · replace h := (if_neg q7).symm.trans h
    refine kg_iload 7 dX9_dearestRoad_84 rfl (pc2 := 86) rfl ?_
    refine kg_istore_n dX9_dearestRoad_86 rfl (Nat.le_of_ble_eq_true rfl) rfl (lv2 := [(3, .int v7), (10, .int t0), (0, .ref 0), (1, .int v1), (2, .int v2), (4, .long v4), (6, .int v6), (7, .int v7), (8, .long v8)]) rfl (pc2 := 87) rfl ?_
    refine kg_lload 8 dX9_dearestRoad_87 rfl (pc2 := 89) rfl ?_
    refine kg_lstore dX9_dearestRoad_89 (Nat.le_of_ble_eq_true rfl) rfl (lv2 := [(4, .long v8), (3, .int v7), (10, .int t0), (0, .ref 0), (1, .int v1), (2, .int v2), (6, .int v6), (7, .int v7), (8, .long v8)]) rfl (pc2 := 91) rfl ?_
    obtain ⟨x8, x8e, h⟩ := kw_let_e h
    refine kg_iinc 6 dX9_dearestRoad_91 rfl (Nat.le_of_ble_eq_true rfl) x8e (lv2 := [(6, .int x8), (4, .long v8), (3, .int v7), (10, .int t0), (0, .ref 0), (1, .int v1), (2, .int v2), (7, .int v7), (8, .long v8)]) rfl (pc2 := 94) rfl ?_
    refine kg_goto 15 dX9_dearestRoad_94 rfl ?_
    refine kg_sub [4, 5, 6, 2, 1, 0] (lv2 := [(0, .ref 0), (1, .int v1), (2, .int v2), (3, .int v7), (4, .long v8), (6, .int x8)]) rfl ?_
    cases h
    exact hk
  · replace h := (if_pos q7).symm.trans h
    refine kg_lload 5 dX9_dearestRoad_60 rfl (pc2 := 62) rfl ?_
    refine kg_lload 8 dX9_dearestRoad_62 rfl (pc2 := 64) rfl ?_
    obtain ⟨r9, r9h, h⟩ := kw_bind_e h
    refine kg_callS (μ := μX9_dearestRoad) (d := (d + 2)) rfl mSX9_isLess [.long v4, .long v8] [] (gX9_isLess (E := E) (d := (d + 2)) v4 v8 σ r9h) rfl lmRX9_353 rfl (Nat.le_of_ble_eq_true rfl) dX9_dearestRoad_64 rfl (st2 := [.int r9]) rfl (pc2 := 67) rfl ?_
    refine kg_if_ne 84 dX9_dearestRoad_67 rfl (pc2 := 70) rfl (fun q10 => ?_) (fun q10 => ?_)
    · replace h := (if_neg q10).symm.trans h
      refine kg_iload 7 dX9_dearestRoad_84 rfl (pc2 := 86) rfl ?_
      refine kg_istore_n dX9_dearestRoad_86 rfl (Nat.le_of_ble_eq_true rfl) rfl (lv2 := [(3, .int v7), (10, .int t0), (0, .ref 0), (1, .int v1), (2, .int v2), (4, .long v4), (6, .int v6), (7, .int v7), (8, .long v8)]) rfl (pc2 := 87) rfl ?_
      refine kg_lload 8 dX9_dearestRoad_87 rfl (pc2 := 89) rfl ?_
      refine kg_lstore dX9_dearestRoad_89 (Nat.le_of_ble_eq_true rfl) rfl (lv2 := [(4, .long v8), (3, .int v7), (10, .int t0), (0, .ref 0), (1, .int v1), (2, .int v2), (6, .int v6), (7, .int v7), (8, .long v8)]) rfl (pc2 := 91) rfl ?_
      obtain ⟨x11, x11e, h⟩ := kw_let_e h
      refine kg_iinc 6 dX9_dearestRoad_91 rfl (Nat.le_of_ble_eq_true rfl) x11e (lv2 := [(6, .int x11), (4, .long v8), (3, .int v7), (10, .int t0), (0, .ref 0), (1, .int v1), (2, .int v2), (7, .int v7), (8, .long v8)]) rfl (pc2 := 94) rfl ?_
      refine kg_goto 15 dX9_dearestRoad_94 rfl ?_
      refine kg_sub [4, 5, 6, 2, 1, 0] (lv2 := [(0, .ref 0), (1, .int v1), (2, .int v2), (3, .int v7), (4, .long v8), (6, .int x11)]) rfl ?_
      cases h
      exact hk
    · replace h := (if_pos q10).symm.trans h
      refine kg_lload 8 dX9_dearestRoad_70 rfl (pc2 := 72) rfl ?_
      refine kg_lload 5 dX9_dearestRoad_72 rfl (pc2 := 74) rfl ?_
      refine kg_lcmp_ne 91 dX9_dearestRoad_74 dX9_dearestRoad_75 rfl (pc2 := 78) rfl (fun q12 => ?_) (fun q12 => ?_)
      · replace h := (if_neg q12).symm.trans h
        obtain ⟨x13, x13e, h⟩ := kw_let_e h
        refine kg_iinc 6 dX9_dearestRoad_91 rfl (Nat.le_of_ble_eq_true rfl) x13e (lv2 := [(6, .int x13), (10, .int t0), (0, .ref 0), (1, .int v1), (2, .int v2), (3, .int v3), (4, .long v4), (7, .int v7), (8, .long v8)]) rfl (pc2 := 94) rfl ?_
        refine kg_goto 15 dX9_dearestRoad_94 rfl ?_
        refine kg_sub [2, 3, 4, 5, 6, 0] (lv2 := [(0, .ref 0), (1, .int v1), (2, .int v2), (3, .int v3), (4, .long v4), (6, .int x13)]) rfl ?_
        cases h
        exact hk
      · replace h := (if_pos q12).symm.trans h
        refine kg_iload 7 dX9_dearestRoad_78 rfl (pc2 := 80) rfl ?_
        refine kg_iload_n 4 dX9_dearestRoad_80 rfl (pc2 := 81) rfl ?_
        refine kg_icmp_ge 91 dX9_dearestRoad_81 rfl (pc2 := 84) rfl (fun q14 => ?_) (fun q14 => ?_)
        · replace h := (if_pos q14).symm.trans h
          obtain ⟨x15, x15e, h⟩ := kw_let_e h
          refine kg_iinc 6 dX9_dearestRoad_91 rfl (Nat.le_of_ble_eq_true rfl) x15e (lv2 := [(6, .int x15), (10, .int t0), (0, .ref 0), (1, .int v1), (2, .int v2), (3, .int v3), (4, .long v4), (7, .int v7), (8, .long v8)]) rfl (pc2 := 94) rfl ?_
          refine kg_goto 15 dX9_dearestRoad_94 rfl ?_
          refine kg_sub [2, 3, 4, 5, 6, 0] (lv2 := [(0, .ref 0), (1, .int v1), (2, .int v2), (3, .int v3), (4, .long v4), (6, .int x15)]) rfl ?_
          cases h
          exact hk
        · replace h := (if_neg q14).symm.trans h
          refine kg_iload 7 dX9_dearestRoad_84 rfl (pc2 := 86) rfl ?_
          refine kg_istore_n dX9_dearestRoad_86 rfl (Nat.le_of_ble_eq_true rfl) rfl (lv2 := [(3, .int v7), (10, .int t0), (0, .ref 0), (1, .int v1), (2, .int v2), (4, .long v4), (6, .int v6), (7, .int v7), (8, .long v8)]) rfl (pc2 := 87) rfl ?_
          refine kg_lload 8 dX9_dearestRoad_87 rfl (pc2 := 89) rfl ?_
          refine kg_lstore dX9_dearestRoad_89 (Nat.le_of_ble_eq_true rfl) rfl (lv2 := [(4, .long v8), (3, .int v7), (10, .int t0), (0, .ref 0), (1, .int v1), (2, .int v2), (6, .int v6), (7, .int v7), (8, .long v8)]) rfl (pc2 := 91) rfl ?_
          obtain ⟨x16, x16e, h⟩ := kw_let_e h
          refine kg_iinc 6 dX9_dearestRoad_91 rfl (Nat.le_of_ble_eq_true rfl) x16e (lv2 := [(6, .int x16), (4, .long v8), (3, .int v7), (10, .int t0), (0, .ref 0), (1, .int v1), (2, .int v2), (7, .int v7), (8, .long v8)]) rfl (pc2 := 94) rfl ?_
          refine kg_goto 15 dX9_dearestRoad_94 rfl ?_
          refine kg_sub [4, 5, 6, 2, 1, 0] (lv2 := [(0, .ref 0), (1, .int v1), (2, .int v2), (3, .int v7), (4, .long v8), (6, .int x16)]) rfl ?_
          cases h
          exact hk
def bX9_dearestRoad_15 (v1 : Int32) (v2 : Int32) (v3 : Int32) (v4 : Int64) (v6 : Int32) (σ : kw_M) : Option ((Int32 × Int64 × Int32 × kw_M) ⊕ (Int32 × kw_M)) :=
 if v2 ≤ v6 then
 (some (.inr (v3, σ)))
 else
 kw_chk (kw_in v6 12) <|
 kw_let (σ.1 42 v6.toNatClampNeg) fun x4 =>
 (fX9_distanceWithout x4 v1 σ).bind fun r5 =>
 if v3 = (-2 : Int32) then
 (jX9_dearestRoad_53_L15 v1 v2 v3 v4 v6 x4 r5.1 (1 : Int32) r5.2)
 else
 jX9_dearestRoad_53_L15 v1 v2 v3 v4 v6 x4 r5.1 (0 : Int32) r5.2
set_option maxHeartbeats 4000000 in
set_option maxRecDepth 100000 in
theorem lX9_dearestRoad_15 {E : kw_E} {d : Nat} (v1 : Int32) (v2 : Int32) (v3 : Int32) (v4 : Int64) (v6 : Int32) (σ : kw_M) {v : Option Value} {σ2 : kw_M} {o : (Int32 × Int64 × Int32 × kw_M) ⊕ (Int32 × kw_M)} (h : bX9_dearestRoad_15 v1 v2 v3 v4 v6 σ = some o) (hk : Sum.elim (fun s => kw_G E kwTX 47 (d + 3) μX9_dearestRoad 15 [(0, .ref 0), (1, .int v1), (2, .int v2), (3, .int s.1), (4, .long s.2.1), (6, .int s.2.2.1)] [] s.2.2.2 v σ2) (fun y => kw_G E kwTX 47 (d + 3) μX9_dearestRoad 97 [(3, .int y.1)] [] y.2 v σ2) o) : kw_G E kwTX 47 (d + 3) μX9_dearestRoad 15 [(0, .ref 0), (1, .int v1), (2, .int v2), (3, .int v3), (4, .long v4), (6, .int v6)] [] σ v σ2 := by
  unfold bX9_dearestRoad_15 at h
  refine kg_iload 5 dX9_dearestRoad_15 rfl (pc2 := 17) rfl ?_
  refine kg_iload_n 2 dX9_dearestRoad_17 rfl (pc2 := 18) rfl ?_
  refine kg_icmp_ge 97 dX9_dearestRoad_18 rfl (pc2 := 21) rfl (fun q2 => ?_) (fun q2 => ?_)
  · replace h := (if_pos q2).symm.trans h
    refine kg_sub [3] (lv2 := [(3, .int v3)]) rfl ?_
    cases h
    exact hk
  · replace h := (if_neg q2).symm.trans h
    refine kg_aload_n 0 dX9_dearestRoad_21 rfl (pc2 := 22) rfl ?_
    refine kg_getr clX9 rfl 6 (Nat.le_of_ble_eq_true rfl) lfRX9_43 tX_0 eX_0 rfl dX9_dearestRoad_22 (pc2 := 25) rfl ?_
    refine kg_getr clX6 rfl 1 (Nat.le_of_ble_eq_true rfl) lfRX9_339 tX_6 eX_6 rfl dX9_dearestRoad_25 (pc2 := 28) rfl ?_
    refine kg_iload 5 dX9_dearestRoad_28 rfl (pc2 := 30) rfl ?_
    obtain ⟨q3, h⟩ := kw_chk_e h
    refine kg_iald tX_42 eX_42 q3 (j := v6.toNatClampNeg) rfl dX9_dearestRoad_30 (pc2 := 31) rfl ?_
    obtain ⟨x4, x4e, h⟩ := kw_let_e h
    refine kg_istore dX9_dearestRoad_31 (Nat.le_of_ble_eq_true rfl) x4e (lv2 := [(7, .int x4), (0, .ref 0), (1, .int v1), (2, .int v2), (3, .int v3), (4, .long v4), (6, .int v6)]) rfl (pc2 := 33) rfl ?_
    refine kg_aload_n 1 dX9_dearestRoad_33 rfl (pc2 := 34) rfl ?_
    refine kg_iload 0 dX9_dearestRoad_34 rfl (pc2 := 36) rfl ?_
    refine kg_iload_n 2 dX9_dearestRoad_36 rfl (pc2 := 37) rfl ?_
    obtain ⟨r5, r5h, h⟩ := kw_bind_e h
    refine kg_callV (μ := μX9_dearestRoad) (d := (d + 2)) rfl mVX9_distanceWithout [.int x4, .int v1] [] (gX9_distanceWithout (E := E) (d := d) x4 v1 σ r5h) rfl lmRX9_349 (ci := 9) rfl tX_0 eX_0 rfl (Nat.le_of_ble_eq_true rfl) dX9_dearestRoad_37 rfl (st2 := [.long r5.1]) rfl (pc2 := 40) rfl ?_
    refine kg_lstore dX9_dearestRoad_40 (Nat.le_of_ble_eq_true rfl) rfl (lv2 := [(8, .long r5.1), (7, .int x4), (0, .ref 0), (1, .int v1), (2, .int v2), (3, .int v3), (4, .long v4), (6, .int v6)]) rfl (pc2 := 42) rfl ?_
    refine kg_iload_n 5 dX9_dearestRoad_42 rfl (pc2 := 43) rfl ?_
    refine kg_bipush dX9_dearestRoad_43 kb_m2 (pc2 := 45) rfl ?_
    refine kg_icmp_ne 52 dX9_dearestRoad_45 rfl (pc2 := 48) rfl (fun q6 => ?_) (fun q6 => ?_)
    · replace h := (if_neg q6).symm.trans h
      refine kg_iconst dX9_dearestRoad_52 ki_0 (pc2 := 53) rfl ?_
      refine kg_sub [2, 3, 4, 5, 6, 7, 1, 0] (lv2 := [(0, .ref 0), (1, .int v1), (2, .int v2), (3, .int v3), (4, .long v4), (6, .int v6), (7, .int x4), (8, .long r5.1)]) rfl ?_
      exact gjX9_dearestRoad_53_L15 v1 v2 v3 v4 v6 x4 r5.1 (0 : Int32) r5.2 h hk
    · replace h := (if_pos q6).symm.trans h
      refine kg_iconst dX9_dearestRoad_48 ki_1 (pc2 := 49) rfl ?_
      refine kg_goto 53 dX9_dearestRoad_49 rfl ?_
      refine kg_sub [2, 3, 4, 5, 6, 7, 1, 0] (lv2 := [(0, .ref 0), (1, .int v1), (2, .int v2), (3, .int v3), (4, .long v4), (6, .int v6), (7, .int x4), (8, .long r5.1)]) rfl ?_
      exact gjX9_dearestRoad_53_L15 v1 v2 v3 v4 v6 x4 r5.1 (1 : Int32) r5.2 h hk
def fX9_dearestRoad (a1 : Int32) (σ : kw_M) : Option (Int32 × kw_M) :=
 (fX9_findWay a1 σ).bind fun r1 =>
 (kw_loop (fun s => bX9_dearestRoad_15 a1 r1.1 s.1 s.2.1 s.2.2.1 s.2.2.2) kw_F ((-2 : Int32), (0 : Int64), (0 : Int32), r1.2)).bind fun x17 =>
 some (x17.1, x17.2)
set_option maxHeartbeats 4000000 in
set_option maxRecDepth 100000 in
theorem gX9_dearestRoad {E : kw_E} {d : Nat} (a1 : Int32) (σ : kw_M) {r : Int32 × kw_M} (h : fX9_dearestRoad a1 σ = some r) : kw_Met E kwTX 47 (d + 3) μX9_dearestRoad [.ref 0, .int a1] σ (some (Value.int r.1)) r.2 := by
  refine kw_enter plRX9 (Nat.le_of_ble_eq_true rfl) ?_
  show kw_G E kwTX 47 (d + 3) μX9_dearestRoad 0 [(0, .ref 0), (1, .int a1)] [] σ (some (Value.int r.1)) r.2
  unfold fX9_dearestRoad at h
  refine kg_aload_n 0 dX9_dearestRoad_0 rfl (pc2 := 1) rfl ?_
  refine kg_iload_n 1 dX9_dearestRoad_1 rfl (pc2 := 2) rfl ?_
  obtain ⟨r1, r1h, h⟩ := kw_bind_e h
  refine kg_callV (μ := μX9_dearestRoad) (d := (d + 2)) rfl mVX9_findWay [.int a1] [] (gX9_findWay (E := E) (d := (d + 1)) a1 σ r1h) rfl lmRX9_292 (ci := 9) rfl tX_0 eX_0 rfl (Nat.le_of_ble_eq_true rfl) dX9_dearestRoad_2 rfl (st2 := [.int r1.1]) rfl (pc2 := 5) rfl ?_
  refine kg_istore_n dX9_dearestRoad_5 rfl (Nat.le_of_ble_eq_true rfl) rfl (lv2 := [(2, .int r1.1), (0, .ref 0), (1, .int a1)]) rfl (pc2 := 6) rfl ?_
  refine kg_bipush dX9_dearestRoad_6 kb_m2 (pc2 := 8) rfl ?_
  refine kg_istore_n dX9_dearestRoad_8 rfl (Nat.le_of_ble_eq_true rfl) rfl (lv2 := [(3, .int (-2 : Int32)), (2, .int r1.1), (0, .ref 0), (1, .int a1)]) rfl (pc2 := 9) rfl ?_
  refine kg_lconst dX9_dearestRoad_9 kl_0 (pc2 := 10) rfl ?_
  refine kg_lstore dX9_dearestRoad_10 (Nat.le_of_ble_eq_true rfl) rfl (lv2 := [(4, .long (0 : Int64)), (3, .int (-2 : Int32)), (2, .int r1.1), (0, .ref 0), (1, .int a1)]) rfl (pc2 := 12) rfl ?_
  refine kg_iconst dX9_dearestRoad_12 ki_0 (pc2 := 13) rfl ?_
  refine kg_istore dX9_dearestRoad_13 (Nat.le_of_ble_eq_true rfl) rfl (lv2 := [(6, .int (0 : Int32)), (4, .long (0 : Int64)), (3, .int (-2 : Int32)), (2, .int r1.1), (0, .ref 0), (1, .int a1)]) rfl (pc2 := 15) rfl ?_
  refine kg_sub [4, 5, 3, 2, 1, 0] (lv2 := [(0, .ref 0), (1, .int a1), (2, .int r1.1), (3, .int (-2 : Int32)), (4, .long (0 : Int64)), (6, .int (0 : Int32))]) rfl ?_
  obtain ⟨x17, x17h, h⟩ := kw_bind_e h
  refine kw_loop_e (P := fun s => kw_G E kwTX 47 (d + 3) μX9_dearestRoad 15 [(0, .ref 0), (1, .int a1), (2, .int r1.1), (3, .int s.1), (4, .long s.2.1), (6, .int s.2.2.1)] [] s.2.2.2 (some (Value.int r.1)) r.2) (K := fun y => kw_G E kwTX 47 (d + 3) μX9_dearestRoad 97 [(3, .int y.1)] [] y.2 (some (Value.int r.1)) r.2) (fun s o h0 hk => lX9_dearestRoad_15 a1 r1.1 s.1 s.2.1 s.2.2.1 s.2.2.2 h0 hk) kw_F _ _ x17h ?_
  show kw_G E kwTX 47 (d + 3) μX9_dearestRoad 97 [(3, .int x17.1)] [] x17.2 (some (Value.int r.1)) r.2
  refine kg_iload_n 0 dX9_dearestRoad_97 rfl (pc2 := 98) rfl ?_
  cases h
  exact kg_iret (ty := .int) dX9_dearestRoad_98 rfl rfl
