/-! The reference, method by method: the machine does what f says (g). -/
set_option maxHeartbeats 4000000 in
set_option maxRecDepth 100000 in
theorem lX10_belowOf_36 {E : kw_E} {d : Nat} (v1 : Int32) (v2 : Int32) (v3 : Int32) (σ : kw_M) (v4 : Int32) {v : Option Value} {σ2 : kw_M} {o : (Int32) ⊕ (Int32)} (h : bX10_belowOf_36 v1 v2 v3 σ v4 = some o) (hk : Sum.elim (fun s => kw_G E kwTM 21 (d + 4) μX10_belowOf 36 [(0, .ref 0), (1, .int v1), (2, .int v2), (3, .int v3), (4, .int s)] [] σ v σ2) (fun y => kw_G E kwTM 21 (d + 4) μX10_belowOf 69 [(0, .ref 0), (1, .int v1), (2, .int v2), (3, .int v3), (4, .int y)] [] σ v σ2) o) : kw_G E kwTM 21 (d + 4) μX10_belowOf 36 [(0, .ref 0), (1, .int v1), (2, .int v2), (3, .int v3), (4, .int v4)] [] σ v σ2 := by
  unfold bX10_belowOf_36 at h
  refine kg_iload 4 dX10_belowOf_36 rfl (pc2 := 38) rfl ?_
  refine kg_iload_n 1 dX10_belowOf_38 rfl (pc2 := 39) rfl ?_
  refine kg_icmp_eq 69 dX10_belowOf_39 rfl (pc2 := 42) rfl (fun q7 => ?_) (fun q7 => ?_)
  · replace h := (if_pos q7).symm.trans h
    cases h
    exact hk
  · replace h := (if_neg q7).symm.trans h
    refine kg_iload 4 dX10_belowOf_42 rfl (pc2 := 44) rfl ?_
    refine kg_aload_n 0 dX10_belowOf_44 rfl (pc2 := 45) rfl ?_
    refine kg_getr clX10 rfl 0 (Nat.le_of_ble_eq_true rfl) lfRX10_7 tM_0 eM_0 rfl dX10_belowOf_45 (pc2 := 48) rfl ?_
    refine kg_iconst dX10_belowOf_48 ki_2 (pc2 := 49) rfl ?_
    refine kg_iald tM_1 eM_1 (show kw_in (2 : Int32) 2832 by decide) (j := 2) (by decide) dX10_belowOf_49 (pc2 := 50) rfl ?_
    refine kg_icmp_eq 69 dX10_belowOf_50 rfl (pc2 := 53) rfl (fun q8 => ?_) (fun q8 => ?_)
    · replace h := (if_pos q8).symm.trans h
      cases h
      exact hk
    · replace h := (if_neg q8).symm.trans h
      refine kg_aload_n 0 dX10_belowOf_53 rfl (pc2 := 54) rfl ?_
      refine kg_aload_n 0 dX10_belowOf_54 rfl (pc2 := 55) rfl ?_
      refine kg_iload 4 dX10_belowOf_55 rfl (pc2 := 57) rfl ?_
      obtain ⟨r9, r9h, h⟩ := kw_bind_e h
      refine kg_callV (μ := μX10_belowOf) (d := (d + 3)) rfl mVX10_parentOf [.int v4] [.ref 0] (gX10_parentOf (E := E) (d := d) v4 σ r9h) rfl lmRX10_306 (ci := 10) rfl tM_0 eM_0 rfl (Nat.le_of_ble_eq_true rfl) dX10_belowOf_57 rfl (st2 := [.int r9, .ref 0]) rfl (pc2 := 60) rfl ?_
      refine kg_iconst dX10_belowOf_60 ki_0 (pc2 := 61) rfl ?_
      obtain ⟨r10, r10h, h⟩ := kw_bind_e h
      refine kg_callV (μ := μX10_belowOf) (d := (d + 3)) rfl mVX10_of [.int r9, .int (0 : Int32)] [] (gX10_of (E := E) (d := (d + 3)) r9 (0 : Int32) σ r10h) rfl lmRX10_73 (ci := 10) rfl tM_0 eM_0 rfl (Nat.le_of_ble_eq_true rfl) dX10_belowOf_61 rfl (st2 := [.int r10]) rfl (pc2 := 64) rfl ?_
      refine kg_istore dX10_belowOf_64 (Nat.le_of_ble_eq_true rfl) rfl (lv2 := [(4, .int r10), (0, .ref 0), (1, .int v1), (2, .int v2), (3, .int v3)]) rfl (pc2 := 66) rfl ?_
      refine kg_goto 36 dX10_belowOf_66 rfl ?_
      refine kg_sub [1, 2, 3, 4, 0] (lv2 := [(0, .ref 0), (1, .int v1), (2, .int v2), (3, .int v3), (4, .int r10)]) rfl ?_
      cases h
      exact hk
set_option maxHeartbeats 4000000 in
set_option maxRecDepth 100000 in
theorem gjX10_belowOf_69_L4 {E : kw_E} {d : Nat} (v1 : Int32) (v2 : Int32) (v3 : Int32) (v4 : Int32) (σ : kw_M) {v : Option Value} {σ2 : kw_M} {o : (Int32 × Int32) ⊕ (Int32)} (h : jX10_belowOf_69_L4 v1 v2 v3 v4 σ = some o) (hk : Sum.elim (fun s => kw_G E kwTM 21 (d + 4) μX10_belowOf 4 [(0, .ref 0), (1, .int v1), (2, .int s.1), (3, .int s.2)] [] σ v σ2) (fun y => kw_G E kwTM 21 (d + 4) μX10_belowOf 85 [(2, .int y)] [] σ v σ2) o) : kw_G E kwTM 21 (d + 4) μX10_belowOf 69 [(0, .ref 0), (1, .int v1), (2, .int v2), (3, .int v3), (4, .int v4)] [] σ v σ2 := by
  unfold jX10_belowOf_69_L4 at h
  refine kg_iload 4 dX10_belowOf_69 rfl (pc2 := 71) rfl ?_
  refine kg_iload_n 1 dX10_belowOf_71 rfl (pc2 := 72) rfl ?_
  refine kg_icmp_ne 79 dX10_belowOf_72 rfl (pc2 := 75) rfl (fun q12 => ?_) (fun q12 => ?_)
  · replace h := (if_neg q12).symm.trans h
    obtain ⟨x13, x13e, h⟩ := kw_let_e h
    refine kg_iinc 3 dX10_belowOf_79 rfl (Nat.le_of_ble_eq_true rfl) x13e (lv2 := [(3, .int x13), (0, .ref 0), (1, .int v1), (2, .int v2), (4, .int v4)]) rfl (pc2 := 82) rfl ?_
    refine kg_goto 4 dX10_belowOf_82 rfl ?_
    refine kg_sub [1, 2, 3, 0] (lv2 := [(0, .ref 0), (1, .int v1), (2, .int v2), (3, .int x13)]) rfl ?_
    cases h
    exact hk
  · replace h := (if_pos q12).symm.trans h
    refine kg_iload_n 2 dX10_belowOf_75 rfl (pc2 := 76) rfl ?_
    refine kg_iconst dX10_belowOf_76 ki_1 (pc2 := 77) rfl ?_
    refine kg_iadd dX10_belowOf_77 (pc2 := 78) rfl ?_
    obtain ⟨x14, x14e, h⟩ := kw_let_e h
    refine kg_istore_n dX10_belowOf_78 rfl (Nat.le_of_ble_eq_true rfl) x14e (lv2 := [(2, .int x14), (0, .ref 0), (1, .int v1), (3, .int v3), (4, .int v4)]) rfl (pc2 := 79) rfl ?_
    obtain ⟨x15, x15e, h⟩ := kw_let_e h
    refine kg_iinc 3 dX10_belowOf_79 rfl (Nat.le_of_ble_eq_true rfl) x15e (lv2 := [(3, .int x15), (2, .int x14), (0, .ref 0), (1, .int v1), (4, .int v4)]) rfl (pc2 := 82) rfl ?_
    refine kg_goto 4 dX10_belowOf_82 rfl ?_
    refine kg_sub [2, 3, 1, 0] (lv2 := [(0, .ref 0), (1, .int v1), (2, .int x14), (3, .int x15)]) rfl ?_
    cases h
    exact hk
set_option maxHeartbeats 4000000 in
set_option maxRecDepth 100000 in
theorem lX10_belowOf_4 {E : kw_E} {d : Nat} (v1 : Int32) (σ : kw_M) (v2 : Int32) (v3 : Int32) {v : Option Value} {σ2 : kw_M} {o : (Int32 × Int32) ⊕ (Int32)} (h : bX10_belowOf_4 v1 σ v2 v3 = some o) (hk : Sum.elim (fun s => kw_G E kwTM 21 (d + 4) μX10_belowOf 4 [(0, .ref 0), (1, .int v1), (2, .int s.1), (3, .int s.2)] [] σ v σ2) (fun y => kw_G E kwTM 21 (d + 4) μX10_belowOf 85 [(2, .int y)] [] σ v σ2) o) : kw_G E kwTM 21 (d + 4) μX10_belowOf 4 [(0, .ref 0), (1, .int v1), (2, .int v2), (3, .int v3)] [] σ v σ2 := by
  unfold bX10_belowOf_4 at h
  refine kg_iload_n 3 dX10_belowOf_4 rfl (pc2 := 5) rfl ?_
  refine kg_aload_n 0 dX10_belowOf_5 rfl (pc2 := 6) rfl ?_
  obtain ⟨r1, r1h, h⟩ := kw_bind_e h
  refine kg_callV (μ := μX10_belowOf) (d := (d + 3)) rfl mVX10_towns [] [.int v3] (gX10_towns (E := E) (d := (d + 3)) σ r1h) rfl lmRX10_77 (ci := 10) rfl tM_0 eM_0 rfl (Nat.le_of_ble_eq_true rfl) dX10_belowOf_6 rfl (st2 := [.int r1, .int v3]) rfl (pc2 := 9) rfl ?_
  refine kg_icmp_ge 85 dX10_belowOf_9 rfl (pc2 := 12) rfl (fun q2 => ?_) (fun q2 => ?_)
  · replace h := (if_pos q2).symm.trans h
    refine kg_sub [2] (lv2 := [(2, .int v2)]) rfl ?_
    cases h
    exact hk
  · replace h := (if_neg q2).symm.trans h
    refine kg_iload_n 3 dX10_belowOf_12 rfl (pc2 := 13) rfl ?_
    refine kg_iload_n 1 dX10_belowOf_13 rfl (pc2 := 14) rfl ?_
    refine kg_icmp_eq 79 dX10_belowOf_14 rfl (pc2 := 17) rfl (fun q3 => ?_) (fun q3 => ?_)
    · replace h := (if_pos q3).symm.trans h
      obtain ⟨x4, x4e, h⟩ := kw_let_e h
      refine kg_iinc 3 dX10_belowOf_79 rfl (Nat.le_of_ble_eq_true rfl) x4e (lv2 := [(3, .int x4), (0, .ref 0), (1, .int v1), (2, .int v2)]) rfl (pc2 := 82) rfl ?_
      refine kg_goto 4 dX10_belowOf_82 rfl ?_
      refine kg_sub [1, 2, 3, 0] (lv2 := [(0, .ref 0), (1, .int v1), (2, .int v2), (3, .int x4)]) rfl ?_
      cases h
      exact hk
    · replace h := (if_neg q3).symm.trans h
      refine kg_aload_n 0 dX10_belowOf_17 rfl (pc2 := 18) rfl ?_
      refine kg_getr clX10 rfl 3 (Nat.le_of_ble_eq_true rfl) lfRX10_17 tM_0 eM_0 rfl dX10_belowOf_18 (pc2 := 21) rfl ?_
      refine kg_iload_n 3 dX10_belowOf_21 rfl (pc2 := 22) rfl ?_
      obtain ⟨q5, h⟩ := kw_chk_e h
      refine kg_lald tM_3 eM_3 q5 (j := v3.toNatClampNeg) rfl dX10_belowOf_22 (pc2 := 23) rfl ?_
      refine kg_ldc2 rfl lcRX10_89 dX10_belowOf_23 (pc2 := 26) rfl ?_
      refine kg_lcmp_ne 33 dX10_belowOf_26 dX10_belowOf_27 rfl (pc2 := 30) rfl (fun q6 => ?_) (fun q6 => ?_)
      · replace h := (if_neg q6).symm.trans h
        refine kg_iload_n 3 dX10_belowOf_33 rfl (pc2 := 34) rfl ?_
        refine kg_istore dX10_belowOf_34 (Nat.le_of_ble_eq_true rfl) rfl (lv2 := [(4, .int v3), (0, .ref 0), (1, .int v1), (2, .int v2), (3, .int v3)]) rfl (pc2 := 36) rfl ?_
        refine kg_sub [1, 2, 3, 4, 0] (lv2 := [(0, .ref 0), (1, .int v1), (2, .int v2), (3, .int v3), (4, .int v3)]) rfl ?_
        obtain ⟨x11, x11h, h⟩ := kw_bind_e h
        refine kw_loop_e (P := fun s => kw_G E kwTM 21 (d + 4) μX10_belowOf 36 [(0, .ref 0), (1, .int v1), (2, .int v2), (3, .int v3), (4, .int s)] [] σ v σ2) (K := fun y => kw_G E kwTM 21 (d + 4) μX10_belowOf 69 [(0, .ref 0), (1, .int v1), (2, .int v2), (3, .int v3), (4, .int y)] [] σ v σ2) (fun s o h0 hk => lX10_belowOf_36 v1 v2 v3 σ s h0 hk) kw_F _ _ x11h ?_
        show kw_G E kwTM 21 (d + 4) μX10_belowOf 69 [(0, .ref 0), (1, .int v1), (2, .int v2), (3, .int v3), (4, .int x11)] [] σ v σ2
        exact gjX10_belowOf_69_L4 v1 v2 v3 x11 σ h hk
      · replace h := (if_pos q6).symm.trans h
        refine kg_goto 79 dX10_belowOf_30 rfl ?_
        obtain ⟨x16, x16e, h⟩ := kw_let_e h
        refine kg_iinc 3 dX10_belowOf_79 rfl (Nat.le_of_ble_eq_true rfl) x16e (lv2 := [(3, .int x16), (0, .ref 0), (1, .int v1), (2, .int v2)]) rfl (pc2 := 82) rfl ?_
        refine kg_goto 4 dX10_belowOf_82 rfl ?_
        refine kg_sub [1, 2, 3, 0] (lv2 := [(0, .ref 0), (1, .int v1), (2, .int v2), (3, .int x16)]) rfl ?_
        cases h
        exact hk
set_option maxHeartbeats 4000000 in
set_option maxRecDepth 100000 in
theorem gX10_belowOf {E : kw_E} {d : Nat} (a1 : Int32) (σ : kw_M) {r : Int32} (h : fX10_belowOf a1 σ = some r) : kw_Met E kwTM 21 (d + 4) μX10_belowOf [.ref 0, .int a1] σ (some (Value.int r)) σ := by
  refine kw_enter plRX10 (Nat.le_of_ble_eq_true rfl) ?_
  show kw_G E kwTM 21 (d + 4) μX10_belowOf 0 [(0, .ref 0), (1, .int a1)] [] σ (some (Value.int r)) σ
  unfold fX10_belowOf at h
  refine kg_iconst dX10_belowOf_0 ki_0 (pc2 := 1) rfl ?_
  refine kg_istore_n dX10_belowOf_1 rfl (Nat.le_of_ble_eq_true rfl) rfl (lv2 := [(2, .int (0 : Int32)), (0, .ref 0), (1, .int a1)]) rfl (pc2 := 2) rfl ?_
  refine kg_iconst dX10_belowOf_2 ki_0 (pc2 := 3) rfl ?_
  refine kg_istore_n dX10_belowOf_3 rfl (Nat.le_of_ble_eq_true rfl) rfl (lv2 := [(3, .int (0 : Int32)), (2, .int (0 : Int32)), (0, .ref 0), (1, .int a1)]) rfl (pc2 := 4) rfl ?_
  refine kg_sub [2, 3, 1, 0] (lv2 := [(0, .ref 0), (1, .int a1), (2, .int (0 : Int32)), (3, .int (0 : Int32))]) rfl ?_
  obtain ⟨x17, x17h, h⟩ := kw_bind_e h
  refine kw_loop_e (P := fun s => kw_G E kwTM 21 (d + 4) μX10_belowOf 4 [(0, .ref 0), (1, .int a1), (2, .int s.1), (3, .int s.2)] [] σ (some (Value.int r)) σ) (K := fun y => kw_G E kwTM 21 (d + 4) μX10_belowOf 85 [(2, .int y)] [] σ (some (Value.int r)) σ) (fun s o h0 hk => lX10_belowOf_4 a1 σ s.1 s.2 h0 hk) kw_F _ _ x17h ?_
  show kw_G E kwTM 21 (d + 4) μX10_belowOf 85 [(2, .int x17)] [] σ (some (Value.int r)) σ
  refine kg_iload_n 0 dX10_belowOf_85 rfl (pc2 := 86) rfl ?_
  cases h
  exact kg_iret (ty := .int) dX10_belowOf_86 rfl rfl
set_option maxHeartbeats 4000000 in
set_option maxRecDepth 100000 in
theorem lX10_findsLeft_2 {E : kw_E} {d : Nat} (v1 : Int32) (v2 : Int32) (σ : kw_M) {v : Option Value} {σ2 : kw_M} {o : (Int32 × kw_M) ⊕ (kw_M)} (h : bX10_findsLeft_2 v1 v2 σ = some o) (hk : Sum.elim (fun s => kw_G E kwTM 21 (d + 3) μX10_findsLeft 2 [(0, .ref 0), (1, .int v1), (2, .int s.1)] [] s.2 v σ2) (fun y => kw_G E kwTM 21 (d + 3) μX10_findsLeft 34 [] [] y v σ2) o) : kw_G E kwTM 21 (d + 3) μX10_findsLeft 2 [(0, .ref 0), (1, .int v1), (2, .int v2)] [] σ v σ2 := by
  unfold bX10_findsLeft_2 at h
  refine kg_iload_n 2 dX10_findsLeft_2 rfl (pc2 := 3) rfl ?_
  refine kg_aload_n 0 dX10_findsLeft_3 rfl (pc2 := 4) rfl ?_
  obtain ⟨r1, r1h, h⟩ := kw_bind_e h
  refine kg_callV (μ := μX10_findsLeft) (d := (d + 2)) rfl mVX10_towns [] [.int v2] (gX10_towns (E := E) (d := (d + 2)) σ r1h) rfl lmRX10_77 (ci := 10) rfl tM_0 eM_0 rfl (Nat.le_of_ble_eq_true rfl) dX10_findsLeft_4 rfl (st2 := [.int r1, .int v2]) rfl (pc2 := 7) rfl ?_
  refine kg_icmp_ge 34 dX10_findsLeft_7 rfl (pc2 := 10) rfl (fun q2 => ?_) (fun q2 => ?_)
  · replace h := (if_pos q2).symm.trans h
    refine kg_sub [] (lv2 := []) rfl ?_
    cases h
    exact hk
  · replace h := (if_neg q2).symm.trans h
    refine kg_aload_n 0 dX10_findsLeft_10 rfl (pc2 := 11) rfl ?_
    refine kg_iload_n 2 dX10_findsLeft_11 rfl (pc2 := 12) rfl ?_
    refine kg_iconst dX10_findsLeft_12 ki_m1 (pc2 := 13) rfl ?_
    obtain ⟨r3, r3h, h⟩ := kw_bind_e h
    refine kg_callV (μ := μX10_findsLeft) (d := (d + 2)) rfl mVX10_finds [.int v2, .int (-1 : Int32)] [] (gX10_finds (E := E) (d := d) v2 (-1 : Int32) σ r3h) rfl lmRX10_95 (ci := 10) rfl tM_0 eM_0 rfl (Nat.le_of_ble_eq_true rfl) dX10_findsLeft_13 rfl (st2 := []) rfl (pc2 := 16) rfl ?_
    refine kg_aload_n 0 dX10_findsLeft_16 rfl (pc2 := 17) rfl ?_
    refine kg_getr clX10 rfl 22 (Nat.le_of_ble_eq_true rfl) lfRX10_45 tM_0 eM_0 rfl dX10_findsLeft_17 (pc2 := 20) rfl ?_
    refine kg_iload_n 2 dX10_findsLeft_20 rfl (pc2 := 21) rfl ?_
    refine kg_aload_n 0 dX10_findsLeft_21 rfl (pc2 := 22) rfl ?_
    refine kg_getr clX10 rfl 2 (Nat.le_of_ble_eq_true rfl) lfRX10_13 tM_0 eM_0 rfl dX10_findsLeft_22 (pc2 := 25) rfl ?_
    refine kg_iload_n 1 dX10_findsLeft_25 rfl (pc2 := 26) rfl ?_
    obtain ⟨q4, h⟩ := kw_chk_e h
    refine kg_lald tM_2 eM_2 q4 (j := v1.toNatClampNeg) rfl dX10_findsLeft_26 (pc2 := 27) rfl ?_
    obtain ⟨q5, h⟩ := kw_chk_e h
    obtain ⟨s6, s6e, h⟩ := kw_let_e h
    refine kg_last tM_12 eM_12 q5 (j := v2.toNatClampNeg) rfl s6e dX10_findsLeft_27 (pc2 := 28) rfl ?_
    obtain ⟨x7, x7e, h⟩ := kw_let_e h
    refine kg_iinc 2 dX10_findsLeft_28 rfl (Nat.le_of_ble_eq_true rfl) x7e (lv2 := [(2, .int x7), (0, .ref 0), (1, .int v1)]) rfl (pc2 := 31) rfl ?_
    refine kg_goto 2 dX10_findsLeft_31 rfl ?_
    refine kg_sub [1, 2, 0] (lv2 := [(0, .ref 0), (1, .int v1), (2, .int x7)]) rfl ?_
    cases h
    exact hk
set_option maxHeartbeats 4000000 in
set_option maxRecDepth 100000 in
theorem gX10_findsLeft {E : kw_E} {d : Nat} (a1 : Int32) (σ : kw_M) {r : kw_M} (h : fX10_findsLeft a1 σ = some r) : kw_Met E kwTM 21 (d + 3) μX10_findsLeft [.ref 0, .int a1] σ none r := by
  refine kw_enter plRX10 (Nat.le_of_ble_eq_true rfl) ?_
  show kw_G E kwTM 21 (d + 3) μX10_findsLeft 0 [(0, .ref 0), (1, .int a1)] [] σ none r
  unfold fX10_findsLeft at h
  refine kg_iconst dX10_findsLeft_0 ki_0 (pc2 := 1) rfl ?_
  refine kg_istore_n dX10_findsLeft_1 rfl (Nat.le_of_ble_eq_true rfl) rfl (lv2 := [(2, .int (0 : Int32)), (0, .ref 0), (1, .int a1)]) rfl (pc2 := 2) rfl ?_
  refine kg_sub [1, 2, 0] (lv2 := [(0, .ref 0), (1, .int a1), (2, .int (0 : Int32))]) rfl ?_
  obtain ⟨x8, x8h, h⟩ := kw_bind_e h
  refine kw_loop_e (P := fun s => kw_G E kwTM 21 (d + 3) μX10_findsLeft 2 [(0, .ref 0), (1, .int a1), (2, .int s.1)] [] s.2 none r) (K := fun y => kw_G E kwTM 21 (d + 3) μX10_findsLeft 34 [] [] y none r) (fun s o h0 hk => lX10_findsLeft_2 a1 s.1 s.2 h0 hk) kw_F _ _ x8h ?_
  show kw_G E kwTM 21 (d + 3) μX10_findsLeft 34 [] [] x8 none r
  cases h
  exact kg_vret dX10_findsLeft_34 rfl
set_option maxHeartbeats 4000000 in
set_option maxRecDepth 100000 in
theorem gjX10_nextOf_256_L71 {E : kw_E} {d : Nat} (v1 : Int32) (v2 : Int64) (v4 : Int64) (v6 : Int32) (v7 : Int32) (v9 : Int64) (v11 : Int32) (σ : kw_M) {v : Option Value} {σ2 : kw_M} {o : (Int64 × Int64 × Int32 × Int32 × kw_M) ⊕ (Int64 × kw_M)} (h : jX10_nextOf_256_L71 v1 v2 v4 v6 v7 v9 v11 σ = some o) (hk : Sum.elim (fun s => kw_G E kwTM 21 (d + 4) μX10_nextOf 71 [(0, .ref 0), (1, .int v1), (2, .long s.1), (4, .long s.2.1), (6, .int s.2.2.1), (7, .int s.2.2.2.1)] [] s.2.2.2.2 v σ2) (fun y => kw_G E kwTM 21 (d + 4) μX10_nextOf 333 [(2, .long y.1)] [] y.2 v σ2) o) : kw_G E kwTM 21 (d + 4) μX10_nextOf 256 [(0, .ref 0), (1, .int v1), (2, .long v2), (4, .long v4), (6, .int v6), (7, .int v7), (9, .long v9), (11, .int v11)] [] σ v σ2 := by
  unfold jX10_nextOf_256_L71 at h
  refine kg_iload 7 dX10_nextOf_256 rfl (pc2 := 258) rfl ?_
  refine kg_iload_n 1 dX10_nextOf_258 rfl (pc2 := 259) rfl ?_
  refine kg_icmp_eq 71 dX10_nextOf_259 rfl (pc2 := 262) rfl (fun q24 => ?_) (fun q24 => ?_)
  · replace h := (if_pos q24).symm.trans h
    refine kg_sub [0, 1, 2, 3, 4, 5] (lv2 := [(0, .ref 0), (1, .int v1), (2, .long v2), (4, .long v4), (6, .int v6), (7, .int v7)]) rfl ?_
    cases h
    exact hk
  · replace h := (if_neg q24).symm.trans h
    refine kg_aload_n 0 dX10_nextOf_262 rfl (pc2 := 263) rfl ?_
    refine kg_getr clX10 rfl 22 (Nat.le_of_ble_eq_true rfl) lfRX10_45 tM_0 eM_0 rfl dX10_nextOf_263 (pc2 := 266) rfl ?_
    refine kg_iload 7 dX10_nextOf_266 rfl (pc2 := 268) rfl ?_
    obtain ⟨q25, h⟩ := kw_chk_e h
    refine kg_lald tM_12 eM_12 q25 (j := v11.toNatClampNeg) rfl dX10_nextOf_268 (pc2 := 269) rfl ?_
    refine kg_ldc2 rfl lcRX10_89 dX10_nextOf_269 (pc2 := 272) rfl ?_
    refine kg_lcmp_eq 71 dX10_nextOf_272 dX10_nextOf_273 rfl (pc2 := 276) rfl (fun q26 => ?_) (fun q26 => ?_)
    · replace h := (if_pos q26).symm.trans h
      refine kg_sub [0, 1, 2, 3, 4, 5] (lv2 := [(0, .ref 0), (1, .int v1), (2, .long v2), (4, .long v4), (6, .int v6), (7, .int v7)]) rfl ?_
      cases h
      exact hk
    · replace h := (if_neg q26).symm.trans h
      refine kg_lload 6 dX10_nextOf_276 rfl (pc2 := 278) rfl ?_
      refine kg_aload_n 0 dX10_nextOf_278 rfl (pc2 := 279) rfl ?_
      refine kg_getr clX10 rfl 22 (Nat.le_of_ble_eq_true rfl) lfRX10_45 tM_0 eM_0 rfl dX10_nextOf_279 (pc2 := 282) rfl ?_
      refine kg_iload 7 dX10_nextOf_282 rfl (pc2 := 284) rfl ?_
      refine kg_lald tM_12 eM_12 q25 (j := v11.toNatClampNeg) rfl dX10_nextOf_284 (pc2 := 285) rfl ?_
      refine kg_ladd dX10_nextOf_285 (pc2 := 286) rfl ?_
      refine kg_lload_n 2 dX10_nextOf_286 rfl (pc2 := 287) rfl ?_
      refine kg_lcmp_lt 294 dX10_nextOf_287 dX10_nextOf_288 rfl (pc2 := 291) rfl (fun q27 => ?_) (fun q27 => ?_)
      · replace h := (if_pos q27).symm.trans h
        refine kg_iload 4 dX10_nextOf_294 rfl (pc2 := 296) rfl ?_
        refine kg_iconst dX10_nextOf_296 ki_1 (pc2 := 297) rfl ?_
        refine kg_iadd dX10_nextOf_297 (pc2 := 298) rfl ?_
        obtain ⟨x28, x28e, h⟩ := kw_let_e h
        refine kg_istore dX10_nextOf_298 (Nat.le_of_ble_eq_true rfl) x28e (lv2 := [(6, .int x28), (0, .ref 0), (1, .int v1), (2, .long v2), (4, .long v4), (7, .int v7), (9, .long v9), (11, .int v11)]) rfl (pc2 := 300) rfl ?_
        refine kg_aload_n 1 dX10_nextOf_300 rfl (pc2 := 301) rfl ?_
        refine kg_getr clX10 rfl 23 (Nat.le_of_ble_eq_true rfl) lfRX10_48 tM_0 eM_0 rfl dX10_nextOf_301 (pc2 := 304) rfl ?_
        refine kg_iload 0 dX10_nextOf_304 rfl (pc2 := 306) rfl ?_
        refine kg_iload 7 dX10_nextOf_306 rfl (pc2 := 308) rfl ?_
        obtain ⟨q29, h⟩ := kw_chk_e h
        obtain ⟨s30, s30e, h⟩ := kw_let_e h
        refine kg_iast tM_13 eM_13 q29 (j := x28.toNatClampNeg) rfl s30e dX10_nextOf_308 (pc2 := 309) rfl ?_
        refine kg_aload_n 1 dX10_nextOf_309 rfl (pc2 := 310) rfl ?_
        refine kg_getr clX10 rfl 24 (Nat.le_of_ble_eq_true rfl) lfRX10_51 tM_0 eM_0 rfl dX10_nextOf_310 (pc2 := 313) rfl ?_
        refine kg_iload 0 dX10_nextOf_313 rfl (pc2 := 315) rfl ?_
        refine kg_iconst dX10_nextOf_315 ki_0 (pc2 := 316) rfl ?_
        obtain ⟨s31, s31e, h⟩ := kw_let_e h
        refine kg_iast tM_14 eM_14 q29 (j := x28.toNatClampNeg) rfl s31e dX10_nextOf_316 (pc2 := 317) rfl ?_
        refine kg_iload 5 dX10_nextOf_317 rfl (pc2 := 319) rfl ?_
        refine kg_iconst dX10_nextOf_319 ki_1 (pc2 := 320) rfl ?_
        refine kg_iload 7 dX10_nextOf_320 rfl (pc2 := 322) rfl ?_
        refine kg_ishl dX10_nextOf_322 (pc2 := 323) rfl ?_
        refine kg_ior dX10_nextOf_323 (pc2 := 324) rfl ?_
        obtain ⟨x32, x32e, h⟩ := kw_let_e h
        refine kg_istore dX10_nextOf_324 (Nat.le_of_ble_eq_true rfl) x32e (lv2 := [(7, .int x32), (6, .int x28), (0, .ref 0), (1, .int v1), (2, .long v2), (4, .long v4), (9, .long v9), (11, .int v11)]) rfl (pc2 := 326) rfl ?_
        refine kg_lload 6 dX10_nextOf_326 rfl (pc2 := 328) rfl ?_
        refine kg_lstore dX10_nextOf_328 (Nat.le_of_ble_eq_true rfl) rfl (lv2 := [(4, .long v9), (7, .int x32), (6, .int x28), (0, .ref 0), (1, .int v1), (2, .long v2), (9, .long v9), (11, .int v11)]) rfl (pc2 := 330) rfl ?_
        refine kg_goto 71 dX10_nextOf_330 rfl ?_
        refine kg_sub [3, 4, 5, 0, 2, 1] (lv2 := [(0, .ref 0), (1, .int v1), (2, .long v2), (4, .long v9), (6, .int x28), (7, .int x32)]) rfl ?_
        cases h
        exact hk
      · replace h := (if_neg q27).symm.trans h
        refine kg_goto 71 dX10_nextOf_291 rfl ?_
        refine kg_sub [0, 1, 2, 3, 4, 5] (lv2 := [(0, .ref 0), (1, .int v1), (2, .long v2), (4, .long v4), (6, .int v6), (7, .int v7)]) rfl ?_
        cases h
        exact hk
set_option maxHeartbeats 4000000 in
set_option maxRecDepth 100000 in
theorem lX10_nextOf_71 {E : kw_E} {d : Nat} (v1 : Int32) (v2 : Int64) (v4 : Int64) (v6 : Int32) (v7 : Int32) (σ : kw_M) {v : Option Value} {σ2 : kw_M} {o : (Int64 × Int64 × Int32 × Int32 × kw_M) ⊕ (Int64 × kw_M)} (h : bX10_nextOf_71 v1 v2 v4 v6 v7 σ = some o) (hk : Sum.elim (fun s => kw_G E kwTM 21 (d + 4) μX10_nextOf 71 [(0, .ref 0), (1, .int v1), (2, .long s.1), (4, .long s.2.1), (6, .int s.2.2.1), (7, .int s.2.2.2.1)] [] s.2.2.2.2 v σ2) (fun y => kw_G E kwTM 21 (d + 4) μX10_nextOf 333 [(2, .long y.1)] [] y.2 v σ2) o) : kw_G E kwTM 21 (d + 4) μX10_nextOf 71 [(0, .ref 0), (1, .int v1), (2, .long v2), (4, .long v4), (6, .int v6), (7, .int v7)] [] σ v σ2 := by
  unfold bX10_nextOf_71 at h
  refine kg_iload 4 dX10_nextOf_71 rfl (pc2 := 73) rfl ?_
  refine kg_if_lt 333 dX10_nextOf_73 rfl (pc2 := 76) rfl (fun q8 => ?_) (fun q8 => ?_)
  · replace h := (if_pos q8).symm.trans h
    refine kg_sub [2] (lv2 := [(2, .long v2)]) rfl ?_
    cases h
    exact hk
  · replace h := (if_neg q8).symm.trans h
    refine kg_aload_n 0 dX10_nextOf_76 rfl (pc2 := 77) rfl ?_
    refine kg_getr clX10 rfl 24 (Nat.le_of_ble_eq_true rfl) lfRX10_51 tM_0 eM_0 rfl dX10_nextOf_77 (pc2 := 80) rfl ?_
    refine kg_iload 4 dX10_nextOf_80 rfl (pc2 := 82) rfl ?_
    obtain ⟨q9, h⟩ := kw_chk_e h
    refine kg_iald tM_14 eM_14 q9 (j := v6.toNatClampNeg) rfl dX10_nextOf_82 (pc2 := 83) rfl ?_
    obtain ⟨x10, x10e, h⟩ := kw_let_e h
    refine kg_istore dX10_nextOf_83 (Nat.le_of_ble_eq_true rfl) x10e (lv2 := [(8, .int x10), (0, .ref 0), (1, .int v1), (2, .long v2), (4, .long v4), (6, .int v6), (7, .int v7)]) rfl (pc2 := 85) rfl ?_
    refine kg_iload 0 dX10_nextOf_85 rfl (pc2 := 87) rfl ?_
    refine kg_aload_n 1 dX10_nextOf_87 rfl (pc2 := 88) rfl ?_
    refine kg_getr clX10 rfl 0 (Nat.le_of_ble_eq_true rfl) lfRX10_7 tM_0 eM_0 rfl dX10_nextOf_88 (pc2 := 91) rfl ?_
    refine kg_iconst dX10_nextOf_91 ki_1 (pc2 := 92) rfl ?_
    refine kg_iald tM_1 eM_1 (show kw_in (1 : Int32) 2832 by decide) (j := 1) (by decide) dX10_nextOf_92 (pc2 := 93) rfl ?_
    refine kg_icmp_ne 151 dX10_nextOf_93 rfl (pc2 := 96) rfl (fun q11 => ?_) (fun q11 => ?_)
    · replace h := (if_neg q11).symm.trans h
      refine kg_aload_n 1 dX10_nextOf_151 rfl (pc2 := 152) rfl ?_
      refine kg_getr clX10 rfl 24 (Nat.le_of_ble_eq_true rfl) lfRX10_51 tM_0 eM_0 rfl dX10_nextOf_152 (pc2 := 155) rfl ?_
      refine kg_iload 5 dX10_nextOf_155 rfl (pc2 := 157) rfl ?_
      refine kg_iload 0 dX10_nextOf_157 rfl (pc2 := 159) rfl ?_
      refine kg_iconst dX10_nextOf_159 ki_1 (pc2 := 160) rfl ?_
      refine kg_iadd dX10_nextOf_160 (pc2 := 161) rfl ?_
      obtain ⟨s12, s12e, h⟩ := kw_let_e h
      refine kg_iast tM_14 eM_14 q9 (j := v6.toNatClampNeg) rfl s12e dX10_nextOf_161 (pc2 := 162) rfl ?_
      refine kg_aload_n 1 dX10_nextOf_162 rfl (pc2 := 163) rfl ?_
      refine kg_iload 0 dX10_nextOf_163 rfl (pc2 := 165) rfl ?_
      obtain ⟨r13, r13h, h⟩ := kw_bind_e h
      refine kg_callV (μ := μX10_nextOf) (d := (d + 3)) rfl mVX10_isOpen [.int x10] [] (gX10_isOpen (E := E) (d := (d + 2)) x10 s12 r13h) rfl lmRX10_91 (ci := 10) rfl tM_0 eM_0 rfl (Nat.le_of_ble_eq_true rfl) dX10_nextOf_165 rfl (st2 := [.int r13]) rfl (pc2 := 168) rfl ?_
      refine kg_if_eq 71 dX10_nextOf_168 rfl (pc2 := 171) rfl (fun q14 => ?_) (fun q14 => ?_)
      · replace h := (if_pos q14).symm.trans h
        refine kg_sub [1, 2, 3, 4, 5, 6] (lv2 := [(0, .ref 0), (1, .int v1), (2, .long v2), (4, .long v4), (6, .int v6), (7, .int v7)]) rfl ?_
        cases h
        exact hk
      · replace h := (if_neg q14).symm.trans h
        refine kg_aload_n 1 dX10_nextOf_171 rfl (pc2 := 172) rfl ?_
        refine kg_iload 0 dX10_nextOf_172 rfl (pc2 := 174) rfl ?_
        refine kg_iconst dX10_nextOf_174 ki_0 (pc2 := 175) rfl ?_
        obtain ⟨r15, r15h, h⟩ := kw_bind_e h
        refine kg_callV (μ := μX10_nextOf) (d := (d + 3)) rfl mVX10_of [.int x10, .int (0 : Int32)] [] (gX10_of (E := E) (d := (d + 3)) x10 (0 : Int32) s12 r15h) rfl lmRX10_73 (ci := 10) rfl tM_0 eM_0 rfl (Nat.le_of_ble_eq_true rfl) dX10_nextOf_175 rfl (st2 := [.int r15]) rfl (pc2 := 178) rfl ?_
        refine kg_aload_n 1 dX10_nextOf_178 rfl (pc2 := 179) rfl ?_
        refine kg_getr clX10 rfl 23 (Nat.le_of_ble_eq_true rfl) lfRX10_48 tM_0 eM_0 rfl dX10_nextOf_179 (pc2 := 182) rfl ?_
        refine kg_iload 5 dX10_nextOf_182 rfl (pc2 := 184) rfl ?_
        refine kg_iald tM_13 eM_13 q9 (j := v6.toNatClampNeg) rfl dX10_nextOf_184 (pc2 := 185) rfl ?_
        refine kg_icmp_ne 71 dX10_nextOf_185 rfl (pc2 := 188) rfl (fun q16 => ?_) (fun q16 => ?_)
        · replace h := (if_neg q16).symm.trans h
          refine kg_sub [1, 2, 3, 4, 5, 6] (lv2 := [(0, .ref 0), (1, .int v1), (2, .long v2), (4, .long v4), (6, .int v6), (7, .int v7)]) rfl ?_
          cases h
          exact hk
        · replace h := (if_pos q16).symm.trans h
          refine kg_iload 6 dX10_nextOf_188 rfl (pc2 := 190) rfl ?_
          refine kg_aload_n 1 dX10_nextOf_190 rfl (pc2 := 191) rfl ?_
          refine kg_iload 0 dX10_nextOf_191 rfl (pc2 := 193) rfl ?_
          refine kg_iconst dX10_nextOf_193 ki_1 (pc2 := 194) rfl ?_
          obtain ⟨r17, r17h, h⟩ := kw_bind_e h
          refine kg_callV (μ := μX10_nextOf) (d := (d + 3)) rfl mVX10_of [.int x10, .int (1 : Int32)] [.int v7] (gX10_of (E := E) (d := (d + 3)) x10 (1 : Int32) s12 r17h) rfl lmRX10_73 (ci := 10) rfl tM_0 eM_0 rfl (Nat.le_of_ble_eq_true rfl) dX10_nextOf_194 rfl (st2 := [.int r17, .int v7]) rfl (pc2 := 197) rfl ?_
          obtain ⟨r18, r18h, h⟩ := kw_bind_e h
          refine kg_callS (μ := μX10_nextOf) (d := (d + 3)) rfl mSX10_has [.int v7, .int r17] [] (gX10_has (E := E) (d := (d + 3)) v7 r17 s12 r18h) rfl lmRX10_321 rfl (Nat.le_of_ble_eq_true rfl) dX10_nextOf_197 rfl (st2 := [.int r18]) rfl (pc2 := 200) rfl ?_
          refine kg_if_eq 206 dX10_nextOf_200 rfl (pc2 := 203) rfl (fun q19 => ?_) (fun q19 => ?_)
          · replace h := (if_pos q19).symm.trans h
            refine kg_lload 4 dX10_nextOf_206 rfl (pc2 := 208) rfl ?_
            refine kg_aload_n 1 dX10_nextOf_208 rfl (pc2 := 209) rfl ?_
            refine kg_iload 0 dX10_nextOf_209 rfl (pc2 := 211) rfl ?_
            refine kg_iconst dX10_nextOf_211 ki_2 (pc2 := 212) rfl ?_
            obtain ⟨r20, r20h, h⟩ := kw_bind_e h
            refine kg_callV (μ := μX10_nextOf) (d := (d + 3)) rfl mVX10_of [.int x10, .int (2 : Int32)] [.long v4] (gX10_of (E := E) (d := (d + 3)) x10 (2 : Int32) s12 r20h) rfl lmRX10_73 (ci := 10) rfl tM_0 eM_0 rfl (Nat.le_of_ble_eq_true rfl) dX10_nextOf_212 rfl (st2 := [.int r20, .long v4]) rfl (pc2 := 215) rfl ?_
            refine kg_i2l dX10_nextOf_215 (pc2 := 216) rfl ?_
            refine kg_ladd dX10_nextOf_216 (pc2 := 217) rfl ?_
            obtain ⟨x21, x21e, h⟩ := kw_let_e h
            refine kg_lstore dX10_nextOf_217 (Nat.le_of_ble_eq_true rfl) x21e (lv2 := [(9, .long x21), (8, .int x10), (0, .ref 0), (1, .int v1), (2, .long v2), (4, .long v4), (6, .int v6), (7, .int v7)]) rfl (pc2 := 219) rfl ?_
            refine kg_aload_n 2 dX10_nextOf_219 rfl (pc2 := 220) rfl ?_
            refine kg_iload 1 dX10_nextOf_220 rfl (pc2 := 222) rfl ?_
            refine kg_iconst dX10_nextOf_222 ki_1 (pc2 := 223) rfl ?_
            obtain ⟨r22, r22h, h⟩ := kw_bind_e h
            refine kg_callV (μ := μX10_nextOf) (d := (d + 3)) rfl mVX10_of [.int x10, .int (1 : Int32)] [] (gX10_of (E := E) (d := (d + 3)) x10 (1 : Int32) s12 r22h) rfl lmRX10_73 (ci := 10) rfl tM_0 eM_0 rfl (Nat.le_of_ble_eq_true rfl) dX10_nextOf_223 rfl (st2 := [.int r22]) rfl (pc2 := 226) rfl ?_
            refine kg_istore dX10_nextOf_226 (Nat.le_of_ble_eq_true rfl) rfl (lv2 := [(11, .int r22), (9, .long x21), (8, .int x10), (0, .ref 0), (1, .int v1), (2, .long v2), (4, .long v4), (6, .int v6), (7, .int v7)]) rfl (pc2 := 228) rfl ?_
            refine kg_iload 0 dX10_nextOf_228 rfl (pc2 := 230) rfl ?_
            refine kg_iload_n 4 dX10_nextOf_230 rfl (pc2 := 231) rfl ?_
            refine kg_icmp_ne 256 dX10_nextOf_231 rfl (pc2 := 234) rfl (fun q23 => ?_) (fun q23 => ?_)
            · replace h := (if_neg q23).symm.trans h
              refine kg_sub [3, 4, 5, 6, 7, 8, 1, 0] (lv2 := [(0, .ref 0), (1, .int v1), (2, .long v2), (4, .long v4), (6, .int v6), (7, .int v7), (9, .long x21), (11, .int r22)]) rfl ?_
              exact gjX10_nextOf_256_L71 v1 v2 v4 v6 v7 x21 r22 s12 h hk
            · replace h := (if_pos q23).symm.trans h
              refine kg_lload 1 dX10_nextOf_234 rfl (pc2 := 236) rfl ?_
              refine kg_aload_n 3 dX10_nextOf_236 rfl (pc2 := 237) rfl ?_
              refine kg_getr clX10 rfl 3 (Nat.le_of_ble_eq_true rfl) lfRX10_17 tM_0 eM_0 rfl dX10_nextOf_237 (pc2 := 240) rfl ?_
              refine kg_iload_n 4 dX10_nextOf_240 rfl (pc2 := 241) rfl ?_
              obtain ⟨q33, h⟩ := kw_chk_e h
              refine kg_lald tM_3 eM_3 q33 (j := v1.toNatClampNeg) rfl dX10_nextOf_241 (pc2 := 242) rfl ?_
              refine kg_lcmp_le 256 dX10_nextOf_242 dX10_nextOf_243 rfl (pc2 := 246) rfl (fun q34 => ?_) (fun q34 => ?_)
              · replace h := (if_pos q34).symm.trans h
                refine kg_sub [3, 4, 5, 6, 7, 8, 1, 0] (lv2 := [(0, .ref 0), (1, .int v1), (2, .long v2), (4, .long v4), (6, .int v6), (7, .int v7), (9, .long x21), (11, .int r22)]) rfl ?_
                exact gjX10_nextOf_256_L71 v1 v2 v4 v6 v7 x21 r22 s12 h hk
              · replace h := (if_neg q34).symm.trans h
                refine kg_lload 1 dX10_nextOf_246 rfl (pc2 := 248) rfl ?_
                refine kg_lload_n 5 dX10_nextOf_248 rfl (pc2 := 249) rfl ?_
                refine kg_lcmp_ge 256 dX10_nextOf_249 dX10_nextOf_250 rfl (pc2 := 253) rfl (fun q35 => ?_) (fun q35 => ?_)
                · replace h := (if_pos q35).symm.trans h
                  refine kg_sub [3, 4, 5, 6, 7, 8, 1, 0] (lv2 := [(0, .ref 0), (1, .int v1), (2, .long v2), (4, .long v4), (6, .int v6), (7, .int v7), (9, .long x21), (11, .int r22)]) rfl ?_
                  exact gjX10_nextOf_256_L71 v1 v2 v4 v6 v7 x21 r22 s12 h hk
                · replace h := (if_neg q35).symm.trans h
                  refine kg_lload 1 dX10_nextOf_253 rfl (pc2 := 255) rfl ?_
                  refine kg_lstore_n dX10_nextOf_255 rfl (Nat.le_of_ble_eq_true rfl) rfl (lv2 := [(2, .long x21), (11, .int r22), (9, .long x21), (8, .int x10), (0, .ref 0), (1, .int v1), (4, .long v4), (6, .int v6), (7, .int v7)]) rfl (pc2 := 256) rfl ?_
                  refine kg_sub [4, 5, 0, 6, 7, 8, 2, 1] (lv2 := [(0, .ref 0), (1, .int v1), (2, .long x21), (4, .long v4), (6, .int v6), (7, .int v7), (9, .long x21), (11, .int r22)]) rfl ?_
                  exact gjX10_nextOf_256_L71 v1 x21 v4 v6 v7 x21 r22 s12 h hk
          · replace h := (if_neg q19).symm.trans h
            refine kg_goto 71 dX10_nextOf_203 rfl ?_
            refine kg_sub [1, 2, 3, 4, 5, 6] (lv2 := [(0, .ref 0), (1, .int v1), (2, .long v2), (4, .long v4), (6, .int v6), (7, .int v7)]) rfl ?_
            cases h
            exact hk
    · replace h := (if_pos q11).symm.trans h
      refine kg_iload 5 dX10_nextOf_96 rfl (pc2 := 98) rfl ?_
      refine kg_iconst dX10_nextOf_98 ki_1 (pc2 := 99) rfl ?_
      refine kg_isub dX10_nextOf_99 (pc2 := 100) rfl ?_
      obtain ⟨x36, x36e, h⟩ := kw_let_e h
      refine kg_istore dX10_nextOf_100 (Nat.le_of_ble_eq_true rfl) x36e (lv2 := [(6, .int x36), (8, .int x10), (0, .ref 0), (1, .int v1), (2, .long v2), (4, .long v4), (7, .int v7)]) rfl (pc2 := 102) rfl ?_
      refine kg_iload 0 dX10_nextOf_102 rfl (pc2 := 104) rfl ?_
      refine kg_if_ge 110 dX10_nextOf_104 rfl (pc2 := 107) rfl (fun q37 => ?_) (fun q37 => ?_)
      · replace h := (if_pos q37).symm.trans h
        refine kg_iload 6 dX10_nextOf_110 rfl (pc2 := 112) rfl ?_
        refine kg_iconst dX10_nextOf_112 ki_1 (pc2 := 113) rfl ?_
        refine kg_aload_n 2 dX10_nextOf_113 rfl (pc2 := 114) rfl ?_
        refine kg_getr clX10 rfl 23 (Nat.le_of_ble_eq_true rfl) lfRX10_48 tM_0 eM_0 rfl dX10_nextOf_114 (pc2 := 117) rfl ?_
        refine kg_iload 0 dX10_nextOf_117 rfl (pc2 := 119) rfl ?_
        refine kg_iconst dX10_nextOf_119 ki_1 (pc2 := 120) rfl ?_
        refine kg_iadd dX10_nextOf_120 (pc2 := 121) rfl ?_
        obtain ⟨q38, h⟩ := kw_chk_e h
        refine kg_iald tM_13 eM_13 q38 (j := (x36 + (1 : Int32)).toNatClampNeg) rfl dX10_nextOf_121 (pc2 := 122) rfl ?_
        refine kg_ishl dX10_nextOf_122 (pc2 := 123) rfl ?_
        refine kg_iconst dX10_nextOf_123 ki_m1 (pc2 := 124) rfl ?_
        refine kg_ixor dX10_nextOf_124 (pc2 := 125) rfl ?_
        refine kg_iand dX10_nextOf_125 (pc2 := 126) rfl ?_
        obtain ⟨x39, x39e, h⟩ := kw_let_e h
        refine kg_istore dX10_nextOf_126 (Nat.le_of_ble_eq_true rfl) x39e (lv2 := [(7, .int x39), (6, .int x36), (8, .int x10), (0, .ref 0), (1, .int v1), (2, .long v2), (4, .long v4)]) rfl (pc2 := 128) rfl ?_
        refine kg_lload 6 dX10_nextOf_128 rfl (pc2 := 130) rfl ?_
        refine kg_aload_n 3 dX10_nextOf_130 rfl (pc2 := 131) rfl ?_
        refine kg_aload_n 3 dX10_nextOf_131 rfl (pc2 := 132) rfl ?_
        refine kg_getr clX10 rfl 24 (Nat.le_of_ble_eq_true rfl) lfRX10_51 tM_0 eM_0 rfl dX10_nextOf_132 (pc2 := 135) rfl ?_
        refine kg_iload 1 dX10_nextOf_135 rfl (pc2 := 137) rfl ?_
        obtain ⟨q40, h⟩ := kw_chk_e h
        refine kg_iald tM_14 eM_14 q40 (j := x36.toNatClampNeg) rfl dX10_nextOf_137 (pc2 := 138) rfl ?_
        refine kg_iconst dX10_nextOf_138 ki_1 (pc2 := 139) rfl ?_
        refine kg_isub dX10_nextOf_139 (pc2 := 140) rfl ?_
        refine kg_iconst dX10_nextOf_140 ki_2 (pc2 := 141) rfl ?_
        obtain ⟨r41, r41h, h⟩ := kw_bind_e h
        refine kg_callV (μ := μX10_nextOf) (d := (d + 3)) rfl mVX10_of [.int ((σ.1 14 x36.toNatClampNeg) - (1 : Int32)), .int (2 : Int32)] [.long v4] (gX10_of (E := E) (d := (d + 3)) ((σ.1 14 x36.toNatClampNeg) - (1 : Int32)) (2 : Int32) σ r41h) rfl lmRX10_73 (ci := 10) rfl tM_0 eM_0 rfl (Nat.le_of_ble_eq_true rfl) dX10_nextOf_141 rfl (st2 := [.int r41, .long v4]) rfl (pc2 := 144) rfl ?_
        refine kg_i2l dX10_nextOf_144 (pc2 := 145) rfl ?_
        refine kg_lsub dX10_nextOf_145 (pc2 := 146) rfl ?_
        obtain ⟨x42, x42e, h⟩ := kw_let_e h
        refine kg_lstore dX10_nextOf_146 (Nat.le_of_ble_eq_true rfl) x42e (lv2 := [(4, .long x42), (7, .int x39), (6, .int x36), (8, .int x10), (0, .ref 0), (1, .int v1), (2, .long v2)]) rfl (pc2 := 148) rfl ?_
        refine kg_goto 71 dX10_nextOf_148 rfl ?_
        refine kg_sub [4, 5, 6, 0, 2, 1] (lv2 := [(0, .ref 0), (1, .int v1), (2, .long v2), (4, .long x42), (6, .int x36), (7, .int x39)]) rfl ?_
        cases h
        exact hk
      · replace h := (if_neg q37).symm.trans h
        refine kg_goto 71 dX10_nextOf_107 rfl ?_
        refine kg_sub [2, 3, 4, 5, 0, 6] (lv2 := [(0, .ref 0), (1, .int v1), (2, .long v2), (4, .long v4), (6, .int x36), (7, .int v7)]) rfl ?_
        cases h
        exact hk
set_option maxHeartbeats 4000000 in
set_option maxRecDepth 100000 in
theorem gX10_nextOf {E : kw_E} {d : Nat} (a1 : Int32) (σ : kw_M) {r : Int64 × kw_M} (h : fX10_nextOf a1 σ = some r) : kw_Met E kwTM 21 (d + 4) μX10_nextOf [.ref 0, .int a1] σ (some (Value.long r.1)) r.2 := by
  refine kw_enter plRX10 (Nat.le_of_ble_eq_true rfl) ?_
  show kw_G E kwTM 21 (d + 4) μX10_nextOf 0 [(0, .ref 0), (1, .int a1)] [] σ (some (Value.long r.1)) r.2
  unfold fX10_nextOf at h
  refine kg_aload_n 0 dX10_nextOf_0 rfl (pc2 := 1) rfl ?_
  refine kg_getr clX10 rfl 3 (Nat.le_of_ble_eq_true rfl) lfRX10_17 tM_0 eM_0 rfl dX10_nextOf_1 (pc2 := 4) rfl ?_
  refine kg_iload_n 1 dX10_nextOf_4 rfl (pc2 := 5) rfl ?_
  obtain ⟨q1, h⟩ := kw_chk_e h
  refine kg_lald tM_3 eM_3 q1 (j := a1.toNatClampNeg) rfl dX10_nextOf_5 (pc2 := 6) rfl ?_
  refine kg_ldc2 rfl lcRX10_89 dX10_nextOf_6 (pc2 := 9) rfl ?_
  refine kg_lcmp_eq 23 dX10_nextOf_9 dX10_nextOf_10 rfl (pc2 := 13) rfl (fun q2 => ?_) (fun q2 => ?_)
  · replace h := (if_pos q2).symm.trans h
    refine kg_ldc2 rfl lcRX10_89 dX10_nextOf_23 (pc2 := 26) rfl ?_
    cases h
    exact kg_lret dX10_nextOf_26 rfl
  · replace h := (if_neg q2).symm.trans h
    refine kg_iload_n 1 dX10_nextOf_13 rfl (pc2 := 14) rfl ?_
    refine kg_aload_n 0 dX10_nextOf_14 rfl (pc2 := 15) rfl ?_
    refine kg_getr clX10 rfl 0 (Nat.le_of_ble_eq_true rfl) lfRX10_7 tM_0 eM_0 rfl dX10_nextOf_15 (pc2 := 18) rfl ?_
    refine kg_iconst dX10_nextOf_18 ki_2 (pc2 := 19) rfl ?_
    refine kg_iald tM_1 eM_1 (show kw_in (2 : Int32) 2832 by decide) (j := 2) (by decide) dX10_nextOf_19 (pc2 := 20) rfl ?_
    refine kg_icmp_ne 27 dX10_nextOf_20 rfl (pc2 := 23) rfl (fun q3 => ?_) (fun q3 => ?_)
    · replace h := (if_neg q3).symm.trans h
      refine kg_aload_n 0 dX10_nextOf_27 rfl (pc2 := 28) rfl ?_
      refine kg_iload_n 1 dX10_nextOf_28 rfl (pc2 := 29) rfl ?_
      obtain ⟨r4, r4h, h⟩ := kw_bind_e h
      refine kg_callV (μ := μX10_nextOf) (d := (d + 3)) rfl mVX10_findsLeft [.int a1] [] (gX10_findsLeft (E := E) (d := d) a1 σ r4h) rfl lmRX10_318 (ci := 10) rfl tM_0 eM_0 rfl (Nat.le_of_ble_eq_true rfl) dX10_nextOf_29 rfl (st2 := []) rfl (pc2 := 32) rfl ?_
      refine kg_ldc2 rfl lcRX10_89 dX10_nextOf_32 (pc2 := 35) rfl ?_
      refine kg_lstore_n dX10_nextOf_35 rfl (Nat.le_of_ble_eq_true rfl) rfl (lv2 := [(2, .long (900000000000000000 : Int64)), (0, .ref 0), (1, .int a1)]) rfl (pc2 := 36) rfl ?_
      refine kg_lconst dX10_nextOf_36 kl_0 (pc2 := 37) rfl ?_
      refine kg_lstore dX10_nextOf_37 (Nat.le_of_ble_eq_true rfl) rfl (lv2 := [(4, .long (0 : Int64)), (2, .long (900000000000000000 : Int64)), (0, .ref 0), (1, .int a1)]) rfl (pc2 := 39) rfl ?_
      refine kg_iconst dX10_nextOf_39 ki_0 (pc2 := 40) rfl ?_
      refine kg_istore dX10_nextOf_40 (Nat.le_of_ble_eq_true rfl) rfl (lv2 := [(6, .int (0 : Int32)), (4, .long (0 : Int64)), (2, .long (900000000000000000 : Int64)), (0, .ref 0), (1, .int a1)]) rfl (pc2 := 42) rfl ?_
      refine kg_iconst dX10_nextOf_42 ki_1 (pc2 := 43) rfl ?_
      refine kg_aload_n 3 dX10_nextOf_43 rfl (pc2 := 44) rfl ?_
      refine kg_getr clX10 rfl 0 (Nat.le_of_ble_eq_true rfl) lfRX10_7 tM_0 eM_0 rfl dX10_nextOf_44 (pc2 := 47) rfl ?_
      refine kg_iconst dX10_nextOf_47 ki_2 (pc2 := 48) rfl ?_
      refine kg_iald tM_1 eM_1 (show kw_in (2 : Int32) 2832 by decide) (j := 2) (by decide) dX10_nextOf_48 (pc2 := 49) rfl ?_
      refine kg_ishl dX10_nextOf_49 (pc2 := 50) rfl ?_
      obtain ⟨x5, x5e, h⟩ := kw_let_e h
      refine kg_istore dX10_nextOf_50 (Nat.le_of_ble_eq_true rfl) x5e (lv2 := [(7, .int x5), (6, .int (0 : Int32)), (4, .long (0 : Int64)), (2, .long (900000000000000000 : Int64)), (0, .ref 0), (1, .int a1)]) rfl (pc2 := 52) rfl ?_
      refine kg_aload_n 4 dX10_nextOf_52 rfl (pc2 := 53) rfl ?_
      refine kg_getr clX10 rfl 23 (Nat.le_of_ble_eq_true rfl) lfRX10_48 tM_0 eM_0 rfl dX10_nextOf_53 (pc2 := 56) rfl ?_
      refine kg_iconst dX10_nextOf_56 ki_0 (pc2 := 57) rfl ?_
      refine kg_aload_n 4 dX10_nextOf_57 rfl (pc2 := 58) rfl ?_
      refine kg_getr clX10 rfl 0 (Nat.le_of_ble_eq_true rfl) lfRX10_7 tM_0 eM_0 rfl dX10_nextOf_58 (pc2 := 61) rfl ?_
      refine kg_iconst dX10_nextOf_61 ki_2 (pc2 := 62) rfl ?_
      refine kg_iald tM_1 eM_1 (show kw_in (2 : Int32) 2832 by decide) (j := 2) (by decide) dX10_nextOf_62 (pc2 := 63) rfl ?_
      obtain ⟨s6, s6e, h⟩ := kw_let_e h
      refine kg_iast tM_13 eM_13 (show kw_in (0 : Int32) 13 by decide) (j := 0) (by decide) s6e dX10_nextOf_63 (pc2 := 64) rfl ?_
      refine kg_aload_n 4 dX10_nextOf_64 rfl (pc2 := 65) rfl ?_
      refine kg_getr clX10 rfl 24 (Nat.le_of_ble_eq_true rfl) lfRX10_51 tM_0 eM_0 rfl dX10_nextOf_65 (pc2 := 68) rfl ?_
      refine kg_iconst dX10_nextOf_68 ki_0 (pc2 := 69) rfl ?_
      refine kg_iconst dX10_nextOf_69 ki_0 (pc2 := 70) rfl ?_
      obtain ⟨s7, s7e, h⟩ := kw_let_e h
      refine kg_iast tM_14 eM_14 (show kw_in (0 : Int32) 13 by decide) (j := 0) (by decide) s7e dX10_nextOf_70 (pc2 := 71) rfl ?_
      refine kg_sub [4, 5, 3, 2, 1, 0] (lv2 := [(0, .ref 0), (1, .int a1), (2, .long (900000000000000000 : Int64)), (4, .long (0 : Int64)), (6, .int (0 : Int32)), (7, .int x5)]) rfl ?_
      obtain ⟨x43, x43h, h⟩ := kw_bind_e h
      refine kw_loop_e (P := fun s => kw_G E kwTM 21 (d + 4) μX10_nextOf 71 [(0, .ref 0), (1, .int a1), (2, .long s.1), (4, .long s.2.1), (6, .int s.2.2.1), (7, .int s.2.2.2.1)] [] s.2.2.2.2 (some (Value.long r.1)) r.2) (K := fun y => kw_G E kwTM 21 (d + 4) μX10_nextOf 333 [(2, .long y.1)] [] y.2 (some (Value.long r.1)) r.2) (fun s o h0 hk => lX10_nextOf_71 a1 s.1 s.2.1 s.2.2.1 s.2.2.2.1 s.2.2.2.2 h0 hk) kw_F _ _ x43h ?_
      show kw_G E kwTM 21 (d + 4) μX10_nextOf 333 [(2, .long x43.1)] [] x43.2 (some (Value.long r.1)) r.2
      refine kg_lload_n 0 dX10_nextOf_333 rfl (pc2 := 334) rfl ?_
      cases h
      exact kg_lret dX10_nextOf_334 rfl
    · replace h := (if_pos q3).symm.trans h
      refine kg_ldc2 rfl lcRX10_89 dX10_nextOf_23 (pc2 := 26) rfl ?_
      cases h
      exact kg_lret dX10_nextOf_26 rfl
set_option maxHeartbeats 4000000 in
set_option maxRecDepth 100000 in
theorem lX10_findsPairs_18 {E : kw_E} {d : Nat} (v1 : Int32) (v2 : Int32) (σ : kw_M) {v : Option Value} {σ2 : kw_M} {o : (Int32 × kw_M) ⊕ (kw_M)} (h : bX10_findsPairs_18 v1 v2 σ = some o) (hk : Sum.elim (fun s => kw_G E kwTM 21 (d + 3) μX10_findsPairs 18 [(0, .ref 0), (1, .int v1), (2, .int s.1)] [] s.2 v σ2) (fun y => kw_G E kwTM 21 (d + 3) μX10_findsPairs 47 [(0, .ref 0), (1, .int v1)] [] y v σ2) o) : kw_G E kwTM 21 (d + 3) μX10_findsPairs 18 [(0, .ref 0), (1, .int v1), (2, .int v2)] [] σ v σ2 := by
  unfold bX10_findsPairs_18 at h
  refine kg_iload_n 2 dX10_findsPairs_18 rfl (pc2 := 19) rfl ?_
  refine kg_bipush dX10_findsPairs_19 kb_12 (pc2 := 21) rfl ?_
  refine kg_icmp_ge 47 dX10_findsPairs_21 rfl (pc2 := 24) rfl (fun q4 => ?_) (fun q4 => ?_)
  · replace h := (if_pos q4).symm.trans h
    refine kg_sub [0, 1] (lv2 := [(0, .ref 0), (1, .int v1)]) rfl ?_
    cases h
    exact hk
  · replace h := (if_neg q4).symm.trans h
    refine kg_aload_n 0 dX10_findsPairs_24 rfl (pc2 := 25) rfl ?_
    refine kg_getr clX10 rfl 25 (Nat.le_of_ble_eq_true rfl) lfRX10_54 tM_0 eM_0 rfl dX10_findsPairs_25 (pc2 := 28) rfl ?_
    refine kg_bipush dX10_findsPairs_28 kb_12 (pc2 := 30) rfl ?_
    refine kg_iload_n 1 dX10_findsPairs_30 rfl (pc2 := 31) rfl ?_
    refine kg_imul dX10_findsPairs_31 (pc2 := 32) rfl ?_
    refine kg_iload_n 2 dX10_findsPairs_32 rfl (pc2 := 33) rfl ?_
    refine kg_iadd dX10_findsPairs_33 (pc2 := 34) rfl ?_
    refine kg_aload_n 0 dX10_findsPairs_34 rfl (pc2 := 35) rfl ?_
    refine kg_getr clX10 rfl 2 (Nat.le_of_ble_eq_true rfl) lfRX10_13 tM_0 eM_0 rfl dX10_findsPairs_35 (pc2 := 38) rfl ?_
    refine kg_iload_n 2 dX10_findsPairs_38 rfl (pc2 := 39) rfl ?_
    obtain ⟨q5, h⟩ := kw_chk_e h
    refine kg_lald tM_2 eM_2 q5 (j := v2.toNatClampNeg) rfl dX10_findsPairs_39 (pc2 := 40) rfl ?_
    obtain ⟨q6, h⟩ := kw_chk_e h
    obtain ⟨s7, s7e, h⟩ := kw_let_e h
    refine kg_last tM_15 eM_15 q6 (j := (((12 : Int32) * v1) + v2).toNatClampNeg) rfl s7e dX10_findsPairs_40 (pc2 := 41) rfl ?_
    obtain ⟨x8, x8e, h⟩ := kw_let_e h
    refine kg_iinc 2 dX10_findsPairs_41 rfl (Nat.le_of_ble_eq_true rfl) x8e (lv2 := [(2, .int x8), (0, .ref 0), (1, .int v1)]) rfl (pc2 := 44) rfl ?_
    refine kg_goto 18 dX10_findsPairs_44 rfl ?_
    refine kg_sub [1, 2, 0] (lv2 := [(0, .ref 0), (1, .int v1), (2, .int x8)]) rfl ?_
    cases h
    exact hk
set_option maxHeartbeats 4000000 in
set_option maxRecDepth 100000 in
theorem lX10_findsPairs_2 {E : kw_E} {d : Nat} (v1 : Int32) (σ : kw_M) {v : Option Value} {σ2 : kw_M} {o : (Int32 × kw_M) ⊕ (kw_M)} (h : bX10_findsPairs_2 v1 σ = some o) (hk : Sum.elim (fun s => kw_G E kwTM 21 (d + 3) μX10_findsPairs 2 [(0, .ref 0), (1, .int s.1)] [] s.2 v σ2) (fun y => kw_G E kwTM 21 (d + 3) μX10_findsPairs 53 [] [] y v σ2) o) : kw_G E kwTM 21 (d + 3) μX10_findsPairs 2 [(0, .ref 0), (1, .int v1)] [] σ v σ2 := by
  unfold bX10_findsPairs_2 at h
  refine kg_iload_n 1 dX10_findsPairs_2 rfl (pc2 := 3) rfl ?_
  refine kg_aload_n 0 dX10_findsPairs_3 rfl (pc2 := 4) rfl ?_
  obtain ⟨r1, r1h, h⟩ := kw_bind_e h
  refine kg_callV (μ := μX10_findsPairs) (d := (d + 2)) rfl mVX10_towns [] [.int v1] (gX10_towns (E := E) (d := (d + 2)) σ r1h) rfl lmRX10_77 (ci := 10) rfl tM_0 eM_0 rfl (Nat.le_of_ble_eq_true rfl) dX10_findsPairs_4 rfl (st2 := [.int r1, .int v1]) rfl (pc2 := 7) rfl ?_
  refine kg_icmp_ge 53 dX10_findsPairs_7 rfl (pc2 := 10) rfl (fun q2 => ?_) (fun q2 => ?_)
  · replace h := (if_pos q2).symm.trans h
    refine kg_sub [] (lv2 := []) rfl ?_
    cases h
    exact hk
  · replace h := (if_neg q2).symm.trans h
    refine kg_aload_n 0 dX10_findsPairs_10 rfl (pc2 := 11) rfl ?_
    refine kg_iload_n 1 dX10_findsPairs_11 rfl (pc2 := 12) rfl ?_
    refine kg_iconst dX10_findsPairs_12 ki_m1 (pc2 := 13) rfl ?_
    obtain ⟨r3, r3h, h⟩ := kw_bind_e h
    refine kg_callV (μ := μX10_findsPairs) (d := (d + 2)) rfl mVX10_finds [.int v1, .int (-1 : Int32)] [] (gX10_finds (E := E) (d := d) v1 (-1 : Int32) σ r3h) rfl lmRX10_95 (ci := 10) rfl tM_0 eM_0 rfl (Nat.le_of_ble_eq_true rfl) dX10_findsPairs_13 rfl (st2 := []) rfl (pc2 := 16) rfl ?_
    refine kg_iconst dX10_findsPairs_16 ki_0 (pc2 := 17) rfl ?_
    refine kg_istore_n dX10_findsPairs_17 rfl (Nat.le_of_ble_eq_true rfl) rfl (lv2 := [(2, .int (0 : Int32)), (0, .ref 0), (1, .int v1)]) rfl (pc2 := 18) rfl ?_
    refine kg_sub [1, 2, 0] (lv2 := [(0, .ref 0), (1, .int v1), (2, .int (0 : Int32))]) rfl ?_
    obtain ⟨x9, x9h, h⟩ := kw_bind_e h
    refine kw_loop_e (P := fun s => kw_G E kwTM 21 (d + 3) μX10_findsPairs 18 [(0, .ref 0), (1, .int v1), (2, .int s.1)] [] s.2 v σ2) (K := fun y => kw_G E kwTM 21 (d + 3) μX10_findsPairs 47 [(0, .ref 0), (1, .int v1)] [] y v σ2) (fun s o h0 hk => lX10_findsPairs_18 v1 s.1 s.2 h0 hk) kw_F _ _ x9h ?_
    show kw_G E kwTM 21 (d + 3) μX10_findsPairs 47 [(0, .ref 0), (1, .int v1)] [] x9 v σ2
    obtain ⟨x10, x10e, h⟩ := kw_let_e h
    refine kg_iinc 1 dX10_findsPairs_47 rfl (Nat.le_of_ble_eq_true rfl) x10e (lv2 := [(1, .int x10), (0, .ref 0)]) rfl (pc2 := 50) rfl ?_
    refine kg_goto 2 dX10_findsPairs_50 rfl ?_
    refine kg_sub [1, 0] (lv2 := [(0, .ref 0), (1, .int x10)]) rfl ?_
    cases h
    exact hk
set_option maxHeartbeats 4000000 in
set_option maxRecDepth 100000 in
theorem gX10_findsPairs {E : kw_E} {d : Nat} (σ : kw_M) {r : kw_M} (h : fX10_findsPairs σ = some r) : kw_Met E kwTM 21 (d + 3) μX10_findsPairs [.ref 0] σ none r := by
  refine kw_enter plRX10 (Nat.le_of_ble_eq_true rfl) ?_
  show kw_G E kwTM 21 (d + 3) μX10_findsPairs 0 [(0, .ref 0)] [] σ none r
  unfold fX10_findsPairs at h
  refine kg_iconst dX10_findsPairs_0 ki_0 (pc2 := 1) rfl ?_
  refine kg_istore_n dX10_findsPairs_1 rfl (Nat.le_of_ble_eq_true rfl) rfl (lv2 := [(1, .int (0 : Int32)), (0, .ref 0)]) rfl (pc2 := 2) rfl ?_
  refine kg_sub [1, 0] (lv2 := [(0, .ref 0), (1, .int (0 : Int32))]) rfl ?_
  obtain ⟨x11, x11h, h⟩ := kw_bind_e h
  refine kw_loop_e (P := fun s => kw_G E kwTM 21 (d + 3) μX10_findsPairs 2 [(0, .ref 0), (1, .int s.1)] [] s.2 none r) (K := fun y => kw_G E kwTM 21 (d + 3) μX10_findsPairs 53 [] [] y none r) (fun s o h0 hk => lX10_findsPairs_2 s.1 s.2 h0 hk) kw_F _ _ x11h ?_
  show kw_G E kwTM 21 (d + 3) μX10_findsPairs 53 [] [] x11 none r
  cases h
  exact kg_vret dX10_findsPairs_53 rfl
set_option maxHeartbeats 4000000 in
set_option maxRecDepth 100000 in
theorem gjX10_reachOf_69_L7 {E : kw_E} {d : Nat} (v1 : Int32) (v4 : Int32) (σ : kw_M) {v : Option Value} {σ2 : kw_M} {o : (Int64 × Int32) ⊕ (Int64)} (h : jX10_reachOf_69_L7 v1 v4 σ = some o) (hk : Sum.elim (fun s => kw_G E kwTM 21 (d + 1) μX10_reachOf 7 [(0, .ref 0), (1, .int v1), (2, .long s.1), (4, .int s.2)] [] σ v σ2) (fun y => kw_G E kwTM 21 (d + 1) μX10_reachOf 88 [(2, .long y)] [] σ v σ2) o) : kw_G E kwTM 21 (d + 1) μX10_reachOf 69 [(0, .ref 0), (1, .int v1), (4, .int v4)] [] σ v σ2 := by
  unfold jX10_reachOf_69_L7 at h
  refine kg_aload_n 0 dX10_reachOf_69 rfl (pc2 := 70) rfl ?_
  refine kg_getr clX10 rfl 25 (Nat.le_of_ble_eq_true rfl) lfRX10_54 tM_0 eM_0 rfl dX10_reachOf_70 (pc2 := 73) rfl ?_
  refine kg_bipush dX10_reachOf_73 kb_12 (pc2 := 75) rfl ?_
  refine kg_iload_n 1 dX10_reachOf_75 rfl (pc2 := 76) rfl ?_
  refine kg_imul dX10_reachOf_76 (pc2 := 77) rfl ?_
  refine kg_iload 2 dX10_reachOf_77 rfl (pc2 := 79) rfl ?_
  refine kg_iadd dX10_reachOf_79 (pc2 := 80) rfl ?_
  obtain ⟨q8, h⟩ := kw_chk_e h
  refine kg_lald tM_15 eM_15 q8 (j := (((12 : Int32) * v1) + v4).toNatClampNeg) rfl dX10_reachOf_80 (pc2 := 81) rfl ?_
  obtain ⟨x9, x9e, h⟩ := kw_let_e h
  refine kg_lstore_n dX10_reachOf_81 rfl (Nat.le_of_ble_eq_true rfl) x9e (lv2 := [(2, .long x9), (0, .ref 0), (1, .int v1), (4, .int v4)]) rfl (pc2 := 82) rfl ?_
  obtain ⟨x10, x10e, h⟩ := kw_let_e h
  refine kg_iinc 3 dX10_reachOf_82 rfl (Nat.le_of_ble_eq_true rfl) x10e (lv2 := [(4, .int x10), (2, .long x9), (0, .ref 0), (1, .int v1)]) rfl (pc2 := 85) rfl ?_
  refine kg_goto 7 dX10_reachOf_85 rfl ?_
  refine kg_sub [2, 3, 1, 0] (lv2 := [(0, .ref 0), (1, .int v1), (2, .long x9), (4, .int x10)]) rfl ?_
  cases h
  exact hk
set_option maxHeartbeats 4000000 in
set_option maxRecDepth 100000 in
theorem lX10_reachOf_7 {E : kw_E} {d : Nat} (v1 : Int32) (σ : kw_M) (v2 : Int64) (v4 : Int32) {v : Option Value} {σ2 : kw_M} {o : (Int64 × Int32) ⊕ (Int64)} (h : bX10_reachOf_7 v1 σ v2 v4 = some o) (hk : Sum.elim (fun s => kw_G E kwTM 21 (d + 1) μX10_reachOf 7 [(0, .ref 0), (1, .int v1), (2, .long s.1), (4, .int s.2)] [] σ v σ2) (fun y => kw_G E kwTM 21 (d + 1) μX10_reachOf 88 [(2, .long y)] [] σ v σ2) o) : kw_G E kwTM 21 (d + 1) μX10_reachOf 7 [(0, .ref 0), (1, .int v1), (2, .long v2), (4, .int v4)] [] σ v σ2 := by
  unfold bX10_reachOf_7 at h
  refine kg_iload 3 dX10_reachOf_7 rfl (pc2 := 9) rfl ?_
  refine kg_aload_n 0 dX10_reachOf_9 rfl (pc2 := 10) rfl ?_
  obtain ⟨r1, r1h, h⟩ := kw_bind_e h
  refine kg_callV (μ := μX10_reachOf) (d := d) rfl mVX10_towns [] [.int v4] (gX10_towns (E := E) (d := d) σ r1h) rfl lmRX10_77 (ci := 10) rfl tM_0 eM_0 rfl (Nat.le_of_ble_eq_true rfl) dX10_reachOf_10 rfl (st2 := [.int r1, .int v4]) rfl (pc2 := 13) rfl ?_
  refine kg_icmp_ge 88 dX10_reachOf_13 rfl (pc2 := 16) rfl (fun q2 => ?_) (fun q2 => ?_)
  · replace h := (if_pos q2).symm.trans h
    refine kg_sub [2] (lv2 := [(2, .long v2)]) rfl ?_
    cases h
    exact hk
  · replace h := (if_neg q2).symm.trans h
    refine kg_iload 3 dX10_reachOf_16 rfl (pc2 := 18) rfl ?_
    refine kg_iload_n 1 dX10_reachOf_18 rfl (pc2 := 19) rfl ?_
    refine kg_icmp_eq 82 dX10_reachOf_19 rfl (pc2 := 22) rfl (fun q3 => ?_) (fun q3 => ?_)
    · replace h := (if_pos q3).symm.trans h
      obtain ⟨x4, x4e, h⟩ := kw_let_e h
      refine kg_iinc 3 dX10_reachOf_82 rfl (Nat.le_of_ble_eq_true rfl) x4e (lv2 := [(4, .int x4), (0, .ref 0), (1, .int v1), (2, .long v2)]) rfl (pc2 := 85) rfl ?_
      refine kg_goto 7 dX10_reachOf_85 rfl ?_
      refine kg_sub [1, 2, 3, 0] (lv2 := [(0, .ref 0), (1, .int v1), (2, .long v2), (4, .int x4)]) rfl ?_
      cases h
      exact hk
    · replace h := (if_neg q3).symm.trans h
      refine kg_aload_n 0 dX10_reachOf_22 rfl (pc2 := 23) rfl ?_
      refine kg_getr clX10 rfl 25 (Nat.le_of_ble_eq_true rfl) lfRX10_54 tM_0 eM_0 rfl dX10_reachOf_23 (pc2 := 26) rfl ?_
      refine kg_bipush dX10_reachOf_26 kb_12 (pc2 := 28) rfl ?_
      refine kg_iload_n 1 dX10_reachOf_28 rfl (pc2 := 29) rfl ?_
      refine kg_imul dX10_reachOf_29 (pc2 := 30) rfl ?_
      refine kg_iload 3 dX10_reachOf_30 rfl (pc2 := 32) rfl ?_
      refine kg_iadd dX10_reachOf_32 (pc2 := 33) rfl ?_
      obtain ⟨q5, h⟩ := kw_chk_e h
      refine kg_lald tM_15 eM_15 q5 (j := (((12 : Int32) * v1) + v4).toNatClampNeg) rfl dX10_reachOf_33 (pc2 := 34) rfl ?_
      refine kg_ldc2 rfl lcRX10_89 dX10_reachOf_34 (pc2 := 37) rfl ?_
      refine kg_lcmp_ne 44 dX10_reachOf_37 dX10_reachOf_38 rfl (pc2 := 41) rfl (fun q6 => ?_) (fun q6 => ?_)
      · replace h := (if_neg q6).symm.trans h
        refine kg_lload_n 2 dX10_reachOf_44 rfl (pc2 := 45) rfl ?_
        refine kg_ldc2 rfl lcRX10_89 dX10_reachOf_45 (pc2 := 48) rfl ?_
        refine kg_lcmp_eq 69 dX10_reachOf_48 dX10_reachOf_49 rfl (pc2 := 52) rfl (fun q7 => ?_) (fun q7 => ?_)
        · replace h := (if_pos q7).symm.trans h
          refine kg_sub [0, 1, 3] (lv2 := [(0, .ref 0), (1, .int v1), (4, .int v4)]) rfl ?_
          exact gjX10_reachOf_69_L7 v1 v4 σ h hk
        · replace h := (if_neg q7).symm.trans h
          refine kg_aload_n 0 dX10_reachOf_52 rfl (pc2 := 53) rfl ?_
          refine kg_getr clX10 rfl 25 (Nat.le_of_ble_eq_true rfl) lfRX10_54 tM_0 eM_0 rfl dX10_reachOf_53 (pc2 := 56) rfl ?_
          refine kg_bipush dX10_reachOf_56 kb_12 (pc2 := 58) rfl ?_
          refine kg_iload_n 1 dX10_reachOf_58 rfl (pc2 := 59) rfl ?_
          refine kg_imul dX10_reachOf_59 (pc2 := 60) rfl ?_
          refine kg_iload 3 dX10_reachOf_60 rfl (pc2 := 62) rfl ?_
          refine kg_iadd dX10_reachOf_62 (pc2 := 63) rfl ?_
          refine kg_lald tM_15 eM_15 q5 (j := (((12 : Int32) * v1) + v4).toNatClampNeg) rfl dX10_reachOf_63 (pc2 := 64) rfl ?_
          refine kg_lload_n 2 dX10_reachOf_64 rfl (pc2 := 65) rfl ?_
          refine kg_lcmp_le 82 dX10_reachOf_65 dX10_reachOf_66 rfl (pc2 := 69) rfl (fun q11 => ?_) (fun q11 => ?_)
          · replace h := (if_pos q11).symm.trans h
            obtain ⟨x12, x12e, h⟩ := kw_let_e h
            refine kg_iinc 3 dX10_reachOf_82 rfl (Nat.le_of_ble_eq_true rfl) x12e (lv2 := [(4, .int x12), (0, .ref 0), (1, .int v1), (2, .long v2)]) rfl (pc2 := 85) rfl ?_
            refine kg_goto 7 dX10_reachOf_85 rfl ?_
            refine kg_sub [1, 2, 3, 0] (lv2 := [(0, .ref 0), (1, .int v1), (2, .long v2), (4, .int x12)]) rfl ?_
            cases h
            exact hk
          · replace h := (if_neg q11).symm.trans h
            refine kg_sub [0, 1, 3] (lv2 := [(0, .ref 0), (1, .int v1), (4, .int v4)]) rfl ?_
            exact gjX10_reachOf_69_L7 v1 v4 σ h hk
      · replace h := (if_pos q6).symm.trans h
        refine kg_goto 82 dX10_reachOf_41 rfl ?_
        obtain ⟨x13, x13e, h⟩ := kw_let_e h
        refine kg_iinc 3 dX10_reachOf_82 rfl (Nat.le_of_ble_eq_true rfl) x13e (lv2 := [(4, .int x13), (0, .ref 0), (1, .int v1), (2, .long v2)]) rfl (pc2 := 85) rfl ?_
        refine kg_goto 7 dX10_reachOf_85 rfl ?_
        refine kg_sub [1, 2, 3, 0] (lv2 := [(0, .ref 0), (1, .int v1), (2, .long v2), (4, .int x13)]) rfl ?_
        cases h
        exact hk
set_option maxHeartbeats 4000000 in
set_option maxRecDepth 100000 in
theorem gX10_reachOf {E : kw_E} {d : Nat} (a1 : Int32) (σ : kw_M) {r : Int64} (h : fX10_reachOf a1 σ = some r) : kw_Met E kwTM 21 (d + 1) μX10_reachOf [.ref 0, .int a1] σ (some (Value.long r)) σ := by
  refine kw_enter plRX10 (Nat.le_of_ble_eq_true rfl) ?_
  show kw_G E kwTM 21 (d + 1) μX10_reachOf 0 [(0, .ref 0), (1, .int a1)] [] σ (some (Value.long r)) σ
  unfold fX10_reachOf at h
  refine kg_ldc2 rfl lcRX10_89 dX10_reachOf_0 (pc2 := 3) rfl ?_
  refine kg_lstore_n dX10_reachOf_3 rfl (Nat.le_of_ble_eq_true rfl) rfl (lv2 := [(2, .long (900000000000000000 : Int64)), (0, .ref 0), (1, .int a1)]) rfl (pc2 := 4) rfl ?_
  refine kg_iconst dX10_reachOf_4 ki_0 (pc2 := 5) rfl ?_
  refine kg_istore dX10_reachOf_5 (Nat.le_of_ble_eq_true rfl) rfl (lv2 := [(4, .int (0 : Int32)), (2, .long (900000000000000000 : Int64)), (0, .ref 0), (1, .int a1)]) rfl (pc2 := 7) rfl ?_
  refine kg_sub [2, 3, 1, 0] (lv2 := [(0, .ref 0), (1, .int a1), (2, .long (900000000000000000 : Int64)), (4, .int (0 : Int32))]) rfl ?_
  obtain ⟨x14, x14h, h⟩ := kw_bind_e h
  refine kw_loop_e (P := fun s => kw_G E kwTM 21 (d + 1) μX10_reachOf 7 [(0, .ref 0), (1, .int a1), (2, .long s.1), (4, .int s.2)] [] σ (some (Value.long r)) σ) (K := fun y => kw_G E kwTM 21 (d + 1) μX10_reachOf 88 [(2, .long y)] [] σ (some (Value.long r)) σ) (fun s o h0 hk => lX10_reachOf_7 a1 σ s.1 s.2 h0 hk) kw_F _ _ x14h ?_
  show kw_G E kwTM 21 (d + 1) μX10_reachOf 88 [(2, .long x14)] [] σ (some (Value.long r)) σ
  refine kg_lload_n 0 dX10_reachOf_88 rfl (pc2 := 89) rfl ?_
  cases h
  exact kg_lret dX10_reachOf_89 rfl
set_option maxHeartbeats 4000000 in
set_option maxRecDepth 100000 in
theorem lX10_comesToAll_2 {E : kw_E} {d : Nat} (v1 : Int32) (σ : kw_M) (v2 : Int32) {v : Option Value} {σ2 : kw_M} {o : (Int32) ⊕ ((Int32) ⊕ (Unit))} (h : bX10_comesToAll_2 v1 σ v2 = some o) (hk : Sum.elim (fun s => kw_G E kwTM 21 (d + 1) μX10_comesToAll 2 [(0, .ref 0), (1, .int v1), (2, .int s)] [] σ v σ2) (Sum.elim (fun rr => v = some (Value.int rr) ∧ σ2 = σ) (fun y => kw_G E kwTM 21 (d + 1) μX10_comesToAll 36 [] [] σ v σ2)) o) : kw_G E kwTM 21 (d + 1) μX10_comesToAll 2 [(0, .ref 0), (1, .int v1), (2, .int v2)] [] σ v σ2 := by
  unfold bX10_comesToAll_2 at h
  refine kg_iload_n 2 dX10_comesToAll_2 rfl (pc2 := 3) rfl ?_
  refine kg_aload_n 0 dX10_comesToAll_3 rfl (pc2 := 4) rfl ?_
  obtain ⟨r1, r1h, h⟩ := kw_bind_e h
  refine kg_callV (μ := μX10_comesToAll) (d := d) rfl mVX10_towns [] [.int v2] (gX10_towns (E := E) (d := d) σ r1h) rfl lmRX10_77 (ci := 10) rfl tM_0 eM_0 rfl (Nat.le_of_ble_eq_true rfl) dX10_comesToAll_4 rfl (st2 := [.int r1, .int v2]) rfl (pc2 := 7) rfl ?_
  refine kg_icmp_ge 36 dX10_comesToAll_7 rfl (pc2 := 10) rfl (fun q2 => ?_) (fun q2 => ?_)
  · replace h := (if_pos q2).symm.trans h
    refine kg_sub [] (lv2 := []) rfl ?_
    cases h
    exact hk
  · replace h := (if_neg q2).symm.trans h
    refine kg_aload_n 0 dX10_comesToAll_10 rfl (pc2 := 11) rfl ?_
    refine kg_getr clX10 rfl 25 (Nat.le_of_ble_eq_true rfl) lfRX10_54 tM_0 eM_0 rfl dX10_comesToAll_11 (pc2 := 14) rfl ?_
    refine kg_bipush dX10_comesToAll_14 kb_12 (pc2 := 16) rfl ?_
    refine kg_iload_n 1 dX10_comesToAll_16 rfl (pc2 := 17) rfl ?_
    refine kg_imul dX10_comesToAll_17 (pc2 := 18) rfl ?_
    refine kg_iload_n 2 dX10_comesToAll_18 rfl (pc2 := 19) rfl ?_
    refine kg_iadd dX10_comesToAll_19 (pc2 := 20) rfl ?_
    obtain ⟨q3, h⟩ := kw_chk_e h
    refine kg_lald tM_15 eM_15 q3 (j := (((12 : Int32) * v1) + v2).toNatClampNeg) rfl dX10_comesToAll_20 (pc2 := 21) rfl ?_
    refine kg_ldc2 rfl lcRX10_89 dX10_comesToAll_21 (pc2 := 24) rfl ?_
    refine kg_lcmp_ne 30 dX10_comesToAll_24 dX10_comesToAll_25 rfl (pc2 := 28) rfl (fun q4 => ?_) (fun q4 => ?_)
    · replace h := (if_neg q4).symm.trans h
      obtain ⟨x5, x5e, h⟩ := kw_let_e h
      refine kg_iinc 2 dX10_comesToAll_30 rfl (Nat.le_of_ble_eq_true rfl) x5e (lv2 := [(2, .int x5), (0, .ref 0), (1, .int v1)]) rfl (pc2 := 33) rfl ?_
      refine kg_goto 2 dX10_comesToAll_33 rfl ?_
      refine kg_sub [1, 2, 0] (lv2 := [(0, .ref 0), (1, .int v1), (2, .int x5)]) rfl ?_
      cases h
      exact hk
    · replace h := (if_pos q4).symm.trans h
      refine kg_iconst dX10_comesToAll_28 ki_0 (pc2 := 29) rfl ?_
      cases h
      obtain ⟨rfl, rfl⟩ := hk
      exact kg_iret (ty := .boolean) dX10_comesToAll_29 rfl rfl
set_option maxHeartbeats 4000000 in
set_option maxRecDepth 100000 in
theorem gX10_comesToAll {E : kw_E} {d : Nat} (a1 : Int32) (σ : kw_M) {r : Int32} (h : fX10_comesToAll a1 σ = some r) : kw_Met E kwTM 21 (d + 1) μX10_comesToAll [.ref 0, .int a1] σ (some (Value.int r)) σ := by
  refine kw_enter plRX10 (Nat.le_of_ble_eq_true rfl) ?_
  show kw_G E kwTM 21 (d + 1) μX10_comesToAll 0 [(0, .ref 0), (1, .int a1)] [] σ (some (Value.int r)) σ
  unfold fX10_comesToAll at h
  refine kg_iconst dX10_comesToAll_0 ki_0 (pc2 := 1) rfl ?_
  refine kg_istore_n dX10_comesToAll_1 rfl (Nat.le_of_ble_eq_true rfl) rfl (lv2 := [(2, .int (0 : Int32)), (0, .ref 0), (1, .int a1)]) rfl (pc2 := 2) rfl ?_
  refine kg_sub [1, 2, 0] (lv2 := [(0, .ref 0), (1, .int a1), (2, .int (0 : Int32))]) rfl ?_
  obtain ⟨x6, x6h, h⟩ := kw_bind_e h
  refine kw_loop_e (P := fun s => kw_G E kwTM 21 (d + 1) μX10_comesToAll 2 [(0, .ref 0), (1, .int a1), (2, .int s)] [] σ (some (Value.int r)) σ) (K := Sum.elim (fun rr => (some (Value.int r)) = some (Value.int rr) ∧ σ = σ) (fun y => kw_G E kwTM 21 (d + 1) μX10_comesToAll 36 [] [] σ (some (Value.int r)) σ)) (fun s o h0 hk => lX10_comesToAll_2 a1 σ s h0 hk) kw_F _ _ x6h ?_
  rcases x6 with x6r | x6
  · replace h := kw_se_l h
    cases h
    exact ⟨rfl, rfl⟩
  · replace h := kw_se_r h
    show kw_G E kwTM 21 (d + 1) μX10_comesToAll 36 [] [] σ (some (Value.int r)) σ
    refine kg_iconst dX10_comesToAll_36 ki_1 (pc2 := 37) rfl ?_
    cases h
    exact kg_iret (ty := .boolean) dX10_comesToAll_37 rfl rfl
