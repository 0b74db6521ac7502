/-! The class, method by method: the machine does what f says (g). -/
set_option maxHeartbeats 4000000 in
set_option maxRecDepth 100000 in
theorem gjX2_comeTogether_11 {E : kw_E} {d : Nat} (v1 : Int32) (v2 : Int32) (v3 : Int32) (t0 : Int64) (σ : kw_M) {r : Int64} (h : jX2_comeTogether_11 v1 v2 v3 t0 σ = some r) : kw_G E kwTX 48 (d + 2) μX2_comeTogether 11 [(0, .ref 5), (1, .int v1), (2, .int v2), (3, .int v3)] [.long t0] σ (some (Value.long r)) σ := by
  unfold jX2_comeTogether_11 at h
  refine kg_lstore dX2_comeTogether_11 (Nat.le_of_ble_eq_true rfl) rfl (lv2 := [(4, .long t0), (0, .ref 5), (1, .int v1), (2, .int v2), (3, .int v3)]) rfl (pc2 := 13) rfl ?_
  refine kg_iconst dX2_comeTogether_13 ki_0 (pc2 := 14) rfl ?_
  refine kg_istore dX2_comeTogether_14 (Nat.le_of_ble_eq_true rfl) rfl (lv2 := [(6, .int (0 : Int32)), (4, .long t0), (0, .ref 5), (1, .int v1), (2, .int v2), (3, .int v3)]) rfl (pc2 := 16) rfl ?_
  refine kg_sub [2, 3, 4, 5, 1, 0] (lv2 := [(0, .ref 5), (1, .int v1), (2, .int v2), (3, .int v3), (4, .long t0), (6, .int (0 : Int32))]) rfl ?_
  obtain ⟨x14, x14h, h⟩ := kw_bind_e h
  refine kw_loop_e (P := fun s => kw_G E kwTX 48 (d + 2) μX2_comeTogether 16 [(0, .ref 5), (1, .int v1), (2, .int v2), (3, .int v3), (4, .long s.1), (6, .int s.2)] [] σ (some (Value.long r)) σ) (K := Sum.elim (fun rr => (some (Value.long r)) = some (Value.long rr) ∧ σ = σ) (fun y => kw_G E kwTX 48 (d + 2) μX2_comeTogether 88 [(4, .long y)] [] σ (some (Value.long r)) σ)) (fun s o h0 hk => lX2_comeTogether_16 v1 v2 v3 σ s.1 s.2 h0 hk) kw_F _ _ x14h ?_
  rcases x14 with x14r | x14
  · replace h := kw_se_l h
    cases h
    exact ⟨rfl, rfl⟩
  · replace h := kw_se_r h
    show kw_G E kwTX 48 (d + 2) μX2_comeTogether 88 [(4, .long x14)] [] σ (some (Value.long r)) σ
    refine kg_lload 0 dX2_comeTogether_88 rfl (pc2 := 90) rfl ?_
    cases h
    exact kg_lret dX2_comeTogether_90 rfl
set_option maxHeartbeats 4000000 in
set_option maxRecDepth 100000 in
theorem gX2_comeTogether {E : kw_E} {d : Nat} (a1 : Int32) (a2 : Int32) (a3 : Int32) (σ : kw_M) {r : Int64} (h : fX2_comeTogether a1 a2 a3 σ = some r) : kw_Met E kwTX 48 (d + 2) μX2_comeTogether [.ref 5, .int a1, .int a2, .int a3] σ (some (Value.long r)) σ := by
  refine kw_enter plRX2 (Nat.le_of_ble_eq_true rfl) ?_
  show kw_G E kwTX 48 (d + 2) μX2_comeTogether 0 [(0, .ref 5), (1, .int a1), (2, .int a2), (3, .int a3)] [] σ (some (Value.long r)) σ
  unfold fX2_comeTogether at h
  refine kg_iload_n 3 dX2_comeTogether_0 rfl (pc2 := 1) rfl ?_
  refine kg_if_eq 10 dX2_comeTogether_1 rfl (pc2 := 4) rfl (fun q1 => ?_) (fun q1 => ?_)
  · replace h := (if_pos q1).symm.trans h
    refine kg_lconst dX2_comeTogether_10 kl_0 (pc2 := 11) rfl ?_
    exact gjX2_comeTogether_11 a1 a2 a3 (0 : Int64) σ h
  · replace h := (if_neg q1).symm.trans h
    refine kg_ldc2 rfl lcRX2_43 dX2_comeTogether_4 (pc2 := 7) rfl ?_
    refine kg_goto 11 dX2_comeTogether_7 rfl ?_
    exact gjX2_comeTogether_11 a1 a2 a3 (-9000000000000000000 : Int64) σ h
set_option maxHeartbeats 4000000 in
set_option maxRecDepth 100000 in
theorem lX2_meetingOf_10 {E : kw_E} {d : Nat} (v1 : Int32) (v2 : Int32) (σ : kw_M) (v3 : Int32) (v4 : Int64) (v6 : Int32) {v : Option Value} {σ2 : kw_M} {o : (Int32 × Int64 × Int32) ⊕ (Int32)} (h : bX2_meetingOf_10 v1 v2 σ v3 v4 v6 = some o) (hk : Sum.elim (fun s => kw_G E kwTX 48 (d + 3) μX2_meetingOf 10 [(0, .ref 5), (1, .int v1), (2, .int v2), (3, .int s.1), (4, .long s.2.1), (6, .int s.2.2)] [] σ v σ2) (fun y => kw_G E kwTX 48 (d + 3) μX2_meetingOf 52 [(3, .int y)] [] σ v σ2) o) : kw_G E kwTX 48 (d + 3) μX2_meetingOf 10 [(0, .ref 5), (1, .int v1), (2, .int v2), (3, .int v3), (4, .long v4), (6, .int v6)] [] σ v σ2 := by
  unfold bX2_meetingOf_10 at h
  refine kg_iload 5 dX2_meetingOf_10 rfl (pc2 := 12) rfl ?_
  refine kg_aload_n 0 dX2_meetingOf_12 rfl (pc2 := 13) rfl ?_
  refine kg_geti clX2 rfl 1 (Nat.le_of_ble_eq_true rfl) lfRX2_24 tX_5 eX_5 rfl dX2_meetingOf_13 (pc2 := 16) rfl ?_
  refine kg_icmp_ge 52 dX2_meetingOf_16 rfl (pc2 := 19) rfl (fun q1 => ?_) (fun q1 => ?_)
  · replace h := (if_pos q1).symm.trans h
    refine kg_sub [3] (lv2 := [(3, .int v3)]) rfl ?_
    cases h
    exact hk
  · replace h := (if_neg q1).symm.trans h
    refine kg_aload_n 0 dX2_meetingOf_19 rfl (pc2 := 20) rfl ?_
    refine kg_iload_n 1 dX2_meetingOf_20 rfl (pc2 := 21) rfl ?_
    refine kg_iload 5 dX2_meetingOf_21 rfl (pc2 := 23) rfl ?_
    refine kg_iload_n 2 dX2_meetingOf_23 rfl (pc2 := 24) rfl ?_
    obtain ⟨r2, r2h, h⟩ := kw_bind_e h
    refine kg_callV (μ := μX2_meetingOf) (d := (d + 2)) rfl mVX2_comeTogether [.int v1, .int v6, .int v2] [] (gX2_comeTogether (E := E) (d := d) v1 v6 v2 σ r2h) rfl lmRX2_81 (ci := 2) rfl tX_5 eX_5 rfl (Nat.le_of_ble_eq_true rfl) dX2_meetingOf_24 rfl (st2 := [.long r2]) rfl (pc2 := 27) rfl ?_
    refine kg_lstore dX2_meetingOf_27 (Nat.le_of_ble_eq_true rfl) rfl (lv2 := [(7, .long r2), (0, .ref 5), (1, .int v1), (2, .int v2), (3, .int v3), (4, .long v4), (6, .int v6)]) rfl (pc2 := 29) rfl ?_
    refine kg_lload 0 dX2_meetingOf_29 rfl (pc2 := 31) rfl ?_
    refine kg_lload 5 dX2_meetingOf_31 rfl (pc2 := 33) rfl ?_
    obtain ⟨r3, r3h, h⟩ := kw_bind_e h
    refine kg_callN (μ := μX2_meetingOf) (d := (d + 2)) rfl mSX9_isLess [.long r2, .long v4] [] (gX9_isLess (E := E) (d := (d + 2)) r2 v4 σ r3h) rfl lnRX2_57 rfl (Nat.le_of_ble_eq_true rfl) dX2_meetingOf_33 rfl (st2 := [.int r3]) rfl (pc2 := 36) rfl ?_
    refine kg_if_eq 46 dX2_meetingOf_36 rfl (pc2 := 39) rfl (fun q4 => ?_) (fun q4 => ?_)
    · replace h := (if_pos q4).symm.trans h
      obtain ⟨x5, x5e, h⟩ := kw_let_e h
      refine kg_iinc 6 dX2_meetingOf_46 rfl (Nat.le_of_ble_eq_true rfl) x5e (lv2 := [(6, .int x5), (7, .long r2), (0, .ref 5), (1, .int v1), (2, .int v2), (3, .int v3), (4, .long v4)]) rfl (pc2 := 49) rfl ?_
      refine kg_goto 10 dX2_meetingOf_49 rfl ?_
      refine kg_sub [2, 3, 4, 5, 6, 0] (lv2 := [(0, .ref 5), (1, .int v1), (2, .int v2), (3, .int v3), (4, .long v4), (6, .int x5)]) rfl ?_
      cases h
      exact hk
    · replace h := (if_neg q4).symm.trans h
      refine kg_iload 6 dX2_meetingOf_39 rfl (pc2 := 41) rfl ?_
      refine kg_istore_n dX2_meetingOf_41 rfl (Nat.le_of_ble_eq_true rfl) rfl (lv2 := [(3, .int v6), (7, .long r2), (0, .ref 5), (1, .int v1), (2, .int v2), (4, .long v4), (6, .int v6)]) rfl (pc2 := 42) rfl ?_
      refine kg_lload 1 dX2_meetingOf_42 rfl (pc2 := 44) rfl ?_
      refine kg_lstore dX2_meetingOf_44 (Nat.le_of_ble_eq_true rfl) rfl (lv2 := [(4, .long r2), (3, .int v6), (7, .long r2), (0, .ref 5), (1, .int v1), (2, .int v2), (6, .int v6)]) rfl (pc2 := 46) rfl ?_
      obtain ⟨x6, x6e, h⟩ := kw_let_e h
      refine kg_iinc 6 dX2_meetingOf_46 rfl (Nat.le_of_ble_eq_true rfl) x6e (lv2 := [(6, .int x6), (4, .long r2), (3, .int v6), (7, .long r2), (0, .ref 5), (1, .int v1), (2, .int v2)]) rfl (pc2 := 49) rfl ?_
      refine kg_goto 10 dX2_meetingOf_49 rfl ?_
      refine kg_sub [4, 5, 6, 2, 1, 0] (lv2 := [(0, .ref 5), (1, .int v1), (2, .int v2), (3, .int v6), (4, .long r2), (6, .int x6)]) rfl ?_
      cases h
      exact hk
set_option maxHeartbeats 4000000 in
set_option maxRecDepth 100000 in
theorem gX2_meetingOf {E : kw_E} {d : Nat} (a1 : Int32) (a2 : Int32) (σ : kw_M) {r : Int32} (h : fX2_meetingOf a1 a2 σ = some r) : kw_Met E kwTX 48 (d + 3) μX2_meetingOf [.ref 5, .int a1, .int a2] σ (some (Value.int r)) σ := by
  refine kw_enter plRX2 (Nat.le_of_ble_eq_true rfl) ?_
  show kw_G E kwTX 48 (d + 3) μX2_meetingOf 0 [(0, .ref 5), (1, .int a1), (2, .int a2)] [] σ (some (Value.int r)) σ
  unfold fX2_meetingOf at h
  refine kg_iconst dX2_meetingOf_0 ki_m1 (pc2 := 1) rfl ?_
  refine kg_istore_n dX2_meetingOf_1 rfl (Nat.le_of_ble_eq_true rfl) rfl (lv2 := [(3, .int (-1 : Int32)), (0, .ref 5), (1, .int a1), (2, .int a2)]) rfl (pc2 := 2) rfl ?_
  refine kg_ldc2 rfl lcRX2_43 dX2_meetingOf_2 (pc2 := 5) rfl ?_
  refine kg_lstore dX2_meetingOf_5 (Nat.le_of_ble_eq_true rfl) rfl (lv2 := [(4, .long (-9000000000000000000 : Int64)), (3, .int (-1 : Int32)), (0, .ref 5), (1, .int a1), (2, .int a2)]) rfl (pc2 := 7) rfl ?_
  refine kg_iconst dX2_meetingOf_7 ki_0 (pc2 := 8) rfl ?_
  refine kg_istore dX2_meetingOf_8 (Nat.le_of_ble_eq_true rfl) rfl (lv2 := [(6, .int (0 : Int32)), (4, .long (-9000000000000000000 : Int64)), (3, .int (-1 : Int32)), (0, .ref 5), (1, .int a1), (2, .int a2)]) rfl (pc2 := 10) rfl ?_
  refine kg_sub [3, 4, 5, 2, 1, 0] (lv2 := [(0, .ref 5), (1, .int a1), (2, .int a2), (3, .int (-1 : Int32)), (4, .long (-9000000000000000000 : Int64)), (6, .int (0 : Int32))]) rfl ?_
  obtain ⟨x7, x7h, h⟩ := kw_bind_e h
  refine kw_loop_e (P := fun s => kw_G E kwTX 48 (d + 3) μX2_meetingOf 10 [(0, .ref 5), (1, .int a1), (2, .int a2), (3, .int s.1), (4, .long s.2.1), (6, .int s.2.2)] [] σ (some (Value.int r)) σ) (K := fun y => kw_G E kwTX 48 (d + 3) μX2_meetingOf 52 [(3, .int y)] [] σ (some (Value.int r)) σ) (fun s o h0 hk => lX2_meetingOf_10 a1 a2 σ s.1 s.2.1 s.2.2 h0 hk) kw_F _ _ x7h ?_
  show kw_G E kwTX 48 (d + 3) μX2_meetingOf 52 [(3, .int x7)] [] σ (some (Value.int r)) σ
  refine kg_iload_n 0 dX2_meetingOf_52 rfl (pc2 := 53) rfl ?_
  cases h
  exact kg_iret (ty := .int) dX2_meetingOf_53 rfl rfl
set_option maxHeartbeats 4000000 in
set_option maxRecDepth 100000 in
theorem gjX9_meet_41 {E : kw_E} {d : Nat} (v1 : Int32) (v2 : Int32) (t0 : Int32) (σ : kw_M) {r : Int64 × kw_M} (h : jX9_meet_41 v1 v2 t0 σ = some r) : kw_G E kwTX 48 (d + 4) μX9_meet 41 [(0, .ref 0), (1, .int v1), (2, .int v2)] [.int t0] σ (some (Value.long r.1)) r.2 := by
  unfold jX9_meet_41 at h
  refine kg_istore_n dX9_meet_41 rfl (Nat.le_of_ble_eq_true rfl) rfl (lv2 := [(3, .int t0), (0, .ref 0), (1, .int v1), (2, .int v2)]) rfl (pc2 := 42) rfl ?_
  refine kg_aload_n 1 dX9_meet_42 rfl (pc2 := 43) rfl ?_
  obtain ⟨r7, r7h, h⟩ := kw_bind_e h
  refine kg_callV (μ := μX9_meet) (d := (d + 3)) rfl mVX9_rightPairs [] [] (gX9_rightPairs (E := E) (d := d) σ r7h) rfl lmRX9_251 (ci := 9) rfl tX_0 eX_0 rfl (Nat.le_of_ble_eq_true rfl) dX9_meet_43 rfl (st2 := [.ref 5]) rfl (pc2 := 46) rfl ?_
  refine kg_iload_n 2 dX9_meet_46 rfl (pc2 := 47) rfl ?_
  refine kg_iload_n 0 dX9_meet_47 rfl (pc2 := 48) rfl ?_
  obtain ⟨r8, r8h, h⟩ := kw_bind_e h
  refine kg_callV (μ := μX9_meet) (d := (d + 3)) rfl mVX2_meetingOf [.int v1, .int t0] [] (gX2_meetingOf (E := E) (d := d) v1 t0 r7 r8h) rfl lmRX9_374 (ci := 2) rfl tX_5 eX_5 rfl (Nat.le_of_ble_eq_true rfl) dX9_meet_48 rfl (st2 := [.int r8]) rfl (pc2 := 51) rfl ?_
  refine kg_istore dX9_meet_51 (Nat.le_of_ble_eq_true rfl) rfl (lv2 := [(4, .int r8), (3, .int t0), (0, .ref 0), (1, .int v1), (2, .int v2)]) rfl (pc2 := 53) rfl ?_
  refine kg_iload 0 dX9_meet_53 rfl (pc2 := 55) rfl ?_
  refine kg_iconst dX9_meet_55 ki_m1 (pc2 := 56) rfl ?_
  refine kg_icmp_ne 63 dX9_meet_56 rfl (pc2 := 59) rfl (fun q9 => ?_) (fun q9 => ?_)
  · replace h := (if_neg q9).symm.trans h
    refine kg_iload_n 4 dX9_meet_63 rfl (pc2 := 64) rfl ?_
    refine kg_iconst dX9_meet_64 ki_2 (pc2 := 65) rfl ?_
    refine kg_irem dX9_meet_65 (by decide) (pc2 := 66) rfl ?_
    refine kg_if_ne 75 dX9_meet_66 rfl (pc2 := 69) rfl (fun q10 => ?_) (fun q10 => ?_)
    · replace h := (if_neg q10).symm.trans h
      refine kg_aload_n 2 dX9_meet_75 rfl (pc2 := 76) rfl ?_
      refine kg_getr clX9 rfl 5 (Nat.le_of_ble_eq_true rfl) lfRX9_36 tX_0 eX_0 rfl dX9_meet_76 (pc2 := 79) rfl ?_
      refine kg_iload_n 3 dX9_meet_79 rfl (pc2 := 80) rfl ?_
      refine kg_iload 0 dX9_meet_80 rfl (pc2 := 82) rfl ?_
      refine kg_iload_n 1 dX9_meet_82 rfl (pc2 := 83) rfl ?_
      obtain ⟨r11, r11h, h⟩ := kw_bind_e h
      refine kg_callV (μ := μX9_meet) (d := (d + 3)) rfl mVX2_comeTogether [.int v1, .int r8, .int t0] [] (gX2_comeTogether (E := E) (d := (d + 1)) v1 r8 t0 r7 r11h) rfl lmRX9_377 (ci := 2) rfl tX_5 eX_5 rfl (Nat.le_of_ble_eq_true rfl) dX9_meet_83 rfl (st2 := [.long r11]) rfl (pc2 := 86) rfl ?_
      cases h
      exact kg_lret dX9_meet_86 rfl
    · replace h := (if_pos q10).symm.trans h
      refine kg_iload 0 dX9_meet_69 rfl (pc2 := 71) rfl ?_
      refine kg_i2l dX9_meet_71 (pc2 := 72) rfl ?_
      refine kg_goto 86 dX9_meet_72 rfl ?_
      cases h
      exact kg_lret dX9_meet_86 rfl
  · replace h := (if_pos q9).symm.trans h
    refine kg_ldc2 rfl lcRX9_261 dX9_meet_59 (pc2 := 62) rfl ?_
    cases h
    exact kg_lret dX9_meet_62 rfl
set_option maxHeartbeats 4000000 in
set_option maxRecDepth 100000 in
theorem gX9_meet {E : kw_E} {d : Nat} (a1 : Int32) (a2 : Int32) (σ : kw_M) {r : Int64 × kw_M} (h : fX9_meet a1 a2 σ = some r) : kw_Met E kwTX 48 (d + 4) μX9_meet [.ref 0, .int a1, .int a2] σ (some (Value.long r.1)) r.2 := by
  refine kw_enter plRX9 (Nat.le_of_ble_eq_true rfl) ?_
  show kw_G E kwTX 48 (d + 4) μX9_meet 0 [(0, .ref 0), (1, .int a1), (2, .int a2)] [] σ (some (Value.long r.1)) r.2
  unfold fX9_meet at h
  refine kg_iload_n 1 dX9_meet_0 rfl (pc2 := 1) rfl ?_
  refine kg_if_eq 27 dX9_meet_1 rfl (pc2 := 4) rfl (fun q1 => ?_) (fun q1 => ?_)
  · replace h := (if_pos q1).symm.trans h
    refine kg_ldc2 rfl lcRX9_261 dX9_meet_27 (pc2 := 30) rfl ?_
    cases h
    exact kg_lret dX9_meet_30 rfl
  · replace h := (if_neg q1).symm.trans h
    refine kg_aload_n 0 dX9_meet_4 rfl (pc2 := 5) rfl ?_
    refine kg_getr clX9 rfl 0 (Nat.le_of_ble_eq_true rfl) lfRX9_10 tX_0 eX_0 rfl dX9_meet_5 (pc2 := 8) rfl ?_
    refine kg_getr clX7 rfl 0 (Nat.le_of_ble_eq_true rfl) lfRX9_148 tX_1 eX_1 rfl dX9_meet_8 (pc2 := 11) rfl ?_
    refine kg_iload_n 1 dX9_meet_11 rfl (pc2 := 12) rfl ?_
    obtain ⟨r2, r2h, h⟩ := kw_bind_e h
    refine kg_callV (μ := μX9_meet) (d := (d + 3)) rfl mVX4_hasAll [.int a1] [] (gX4_hasAll (E := E) (d := (d + 3)) a1 σ r2h) rfl lmRX9_371 (ci := 4) rfl tX_12 eX_12 rfl (Nat.le_of_ble_eq_true rfl) dX9_meet_12 rfl (st2 := [.int r2]) rfl (pc2 := 15) rfl ?_
    refine kg_if_eq 27 dX9_meet_15 rfl (pc2 := 18) rfl (fun q3 => ?_) (fun q3 => ?_)
    · replace h := (if_pos q3).symm.trans h
      refine kg_ldc2 rfl lcRX9_261 dX9_meet_27 (pc2 := 30) rfl ?_
      cases h
      exact kg_lret dX9_meet_30 rfl
    · replace h := (if_neg q3).symm.trans h
      refine kg_iload_n 2 dX9_meet_18 rfl (pc2 := 19) rfl ?_
      refine kg_if_lt 27 dX9_meet_19 rfl (pc2 := 22) rfl (fun q4 => ?_) (fun q4 => ?_)
      · replace h := (if_pos q4).symm.trans h
        refine kg_ldc2 rfl lcRX9_261 dX9_meet_27 (pc2 := 30) rfl ?_
        cases h
        exact kg_lret dX9_meet_30 rfl
      · replace h := (if_neg q4).symm.trans h
        refine kg_iload_n 2 dX9_meet_22 rfl (pc2 := 23) rfl ?_
        refine kg_iconst dX9_meet_23 ki_3 (pc2 := 24) rfl ?_
        refine kg_icmp_le 31 dX9_meet_24 rfl (pc2 := 27) rfl (fun q5 => ?_) (fun q5 => ?_)
        · replace h := (if_pos q5).symm.trans h
          refine kg_iload_n 2 dX9_meet_31 rfl (pc2 := 32) rfl ?_
          refine kg_iconst dX9_meet_32 ki_2 (pc2 := 33) rfl ?_
          refine kg_icmp_lt 40 dX9_meet_33 rfl (pc2 := 36) rfl (fun q6 => ?_) (fun q6 => ?_)
          · replace h := (if_pos q6).symm.trans h
            refine kg_iconst dX9_meet_40 ki_0 (pc2 := 41) rfl ?_
            exact gjX9_meet_41 a1 a2 (0 : Int32) σ h
          · replace h := (if_neg q6).symm.trans h
            refine kg_iconst dX9_meet_36 ki_1 (pc2 := 37) rfl ?_
            refine kg_goto 41 dX9_meet_37 rfl ?_
            exact gjX9_meet_41 a1 a2 (1 : Int32) σ h
        · replace h := (if_neg q5).symm.trans h
          refine kg_ldc2 rfl lcRX9_261 dX9_meet_27 (pc2 := 30) rfl ?_
          cases h
          exact kg_lret dX9_meet_30 rfl
set_option maxHeartbeats 4000000 in
set_option maxRecDepth 100000 in
theorem gX9_through {E : kw_E} {d : Nat} (a1 : Int32) (a2 : Int32) (σ : kw_M) {r : Int64 × kw_M} (h : fX9_through a1 a2 σ = some r) : kw_Met E kwTX 48 (d + 4) μX9_through [.ref 0, .int a1, .int a2] σ (some (Value.long r.1)) r.2 := by
  refine kw_enter plRX9 (Nat.le_of_ble_eq_true rfl) ?_
  show kw_G E kwTX 48 (d + 4) μX9_through 0 [(0, .ref 0), (1, .int a1), (2, .int a2)] [] σ (some (Value.long r.1)) r.2
  unfold fX9_through at h
  refine kg_aload_n 0 dX9_through_0 rfl (pc2 := 1) rfl ?_
  refine kg_getr clX9 rfl 0 (Nat.le_of_ble_eq_true rfl) lfRX9_10 tX_0 eX_0 rfl dX9_through_1 (pc2 := 4) rfl ?_
  refine kg_getr clX7 rfl 0 (Nat.le_of_ble_eq_true rfl) lfRX9_148 tX_1 eX_1 rfl dX9_through_4 (pc2 := 7) rfl ?_
  refine kg_iload_n 1 dX9_through_7 rfl (pc2 := 8) rfl ?_
  obtain ⟨r1, r1h, h⟩ := kw_bind_e h
  refine kg_callV (μ := μX9_through) (d := (d + 3)) rfl mVX4_hasTown [.int a1] [] (gX4_hasTown (E := E) (d := (d + 3)) a1 σ r1h) rfl lmRX9_176 (ci := 4) rfl tX_12 eX_12 rfl (Nat.le_of_ble_eq_true rfl) dX9_through_8 rfl (st2 := [.int r1]) rfl (pc2 := 11) rfl ?_
  refine kg_if_eq 28 dX9_through_11 rfl (pc2 := 14) rfl (fun q2 => ?_) (fun q2 => ?_)
  · replace h := (if_pos q2).symm.trans h
    refine kg_ldc2 rfl lcRX9_261 dX9_through_28 (pc2 := 31) rfl ?_
    cases h
    exact kg_lret dX9_through_31 rfl
  · replace h := (if_neg q2).symm.trans h
    refine kg_aload_n 0 dX9_through_14 rfl (pc2 := 15) rfl ?_
    refine kg_getr clX9 rfl 0 (Nat.le_of_ble_eq_true rfl) lfRX9_10 tX_0 eX_0 rfl dX9_through_15 (pc2 := 18) rfl ?_
    refine kg_getr clX7 rfl 0 (Nat.le_of_ble_eq_true rfl) lfRX9_148 tX_1 eX_1 rfl dX9_through_18 (pc2 := 21) rfl ?_
    refine kg_iload_n 2 dX9_through_21 rfl (pc2 := 22) rfl ?_
    obtain ⟨r3, r3h, h⟩ := kw_bind_e h
    refine kg_callV (μ := μX9_through) (d := (d + 3)) rfl mVX4_hasTown [.int a2] [] (gX4_hasTown (E := E) (d := (d + 3)) a2 σ r3h) rfl lmRX9_176 (ci := 4) rfl tX_12 eX_12 rfl (Nat.le_of_ble_eq_true rfl) dX9_through_22 rfl (st2 := [.int r3]) rfl (pc2 := 25) rfl ?_
    refine kg_if_ne 32 dX9_through_25 rfl (pc2 := 28) rfl (fun q4 => ?_) (fun q4 => ?_)
    · replace h := (if_neg q4).symm.trans h
      refine kg_aload_n 0 dX9_through_32 rfl (pc2 := 33) rfl ?_
      refine kg_getr clX9 rfl 0 (Nat.le_of_ble_eq_true rfl) lfRX9_10 tX_0 eX_0 rfl dX9_through_33 (pc2 := 36) rfl ?_
      refine kg_getr clX7 rfl 9 (Nat.le_of_ble_eq_true rfl) lfRX9_284 tX_1 eX_1 rfl dX9_through_36 (pc2 := 39) rfl ?_
      refine kg_iload_n 2 dX9_through_39 rfl (pc2 := 40) rfl ?_
      obtain ⟨q5, h⟩ := kw_chk_e h
      refine kg_lald tX_16 eX_16 q5 (j := a2.toNatClampNeg) rfl dX9_through_40 (pc2 := 41) rfl ?_
      refine kg_aload_n 0 dX9_through_41 rfl (pc2 := 42) rfl ?_
      obtain ⟨r6, r6h, h⟩ := kw_bind_e h
      refine kg_callV (μ := μX9_through) (d := (d + 3)) rfl mVX9_rightPairs [] [.long (σ.2 16 a2.toNatClampNeg)] (gX9_rightPairs (E := E) (d := d) σ r6h) rfl lmRX9_251 (ci := 9) rfl tX_0 eX_0 rfl (Nat.le_of_ble_eq_true rfl) dX9_through_42 rfl (st2 := [.ref 5, .long (σ.2 16 a2.toNatClampNeg)]) rfl (pc2 := 45) rfl ?_
      refine kg_iload_n 2 dX9_through_45 rfl (pc2 := 46) rfl ?_
      refine kg_iload_n 1 dX9_through_46 rfl (pc2 := 47) rfl ?_
      obtain ⟨r7, r7h, h⟩ := kw_bind_e h
      refine kg_callV (μ := μX9_through) (d := (d + 3)) rfl mVX2_span [.int a2, .int a1] [.long (σ.2 16 a2.toNatClampNeg)] (gX2_span (E := E) (d := (d + 3)) a2 a1 r6 r7h) rfl lmRX9_360 (ci := 2) rfl tX_5 eX_5 rfl (Nat.le_of_ble_eq_true rfl) dX9_through_47 rfl (st2 := [.long r7, .long (σ.2 16 a2.toNatClampNeg)]) rfl (pc2 := 50) rfl ?_
      obtain ⟨r8, r8h, h⟩ := kw_bind_e h
      refine kg_callS (μ := μX9_through) (d := (d + 3)) rfl mSX9_joined [.long (σ.2 16 a2.toNatClampNeg), .long r7] [] (gX9_joined (E := E) (d := (d + 3)) (σ.2 16 a2.toNatClampNeg) r7 r6 r8h) rfl lmRX9_381 rfl (Nat.le_of_ble_eq_true rfl) dX9_through_50 rfl (st2 := [.long r8]) rfl (pc2 := 53) rfl ?_
      cases h
      exact kg_lret dX9_through_53 rfl
    · replace h := (if_pos q4).symm.trans h
      refine kg_ldc2 rfl lcRX9_261 dX9_through_28 (pc2 := 31) rfl ?_
      cases h
      exact kg_lret dX9_through_31 rfl
set_option maxHeartbeats 4000000 in
set_option maxRecDepth 100000 in
theorem gX2_wouldMakeBadRing {E : kw_E} {d : Nat} (a1 : Int32) (a2 : Int32) (a3 : Int32) (σ : kw_M) {r : Int32} (h : fX2_wouldMakeBadRing a1 a2 a3 σ = some r) : kw_Met E kwTX 48 (d + 2) μX2_wouldMakeBadRing [.ref 5, .int a1, .int a2, .int a3] σ (some (Value.int r)) σ := by
  refine kw_enter plRX2 (Nat.le_of_ble_eq_true rfl) ?_
  show kw_G E kwTX 48 (d + 2) μX2_wouldMakeBadRing 0 [(0, .ref 5), (1, .int a1), (2, .int a2), (3, .int a3)] [] σ (some (Value.int r)) σ
  unfold fX2_wouldMakeBadRing at h
  refine kg_aload_n 0 dX2_wouldMakeBadRing_0 rfl (pc2 := 1) rfl ?_
  refine kg_iload_n 2 dX2_wouldMakeBadRing_1 rfl (pc2 := 2) rfl ?_
  refine kg_iload_n 1 dX2_wouldMakeBadRing_2 rfl (pc2 := 3) rfl ?_
  obtain ⟨r1, r1h, h⟩ := kw_bind_e h
  refine kg_callV (μ := μX2_wouldMakeBadRing) (d := (d + 1)) rfl mVX2_comesTo [.int a2, .int a1] [] (gX2_comesTo (E := E) (d := d) a2 a1 σ r1h) rfl lmRX2_45 (ci := 2) rfl tX_5 eX_5 rfl (Nat.le_of_ble_eq_true rfl) dX2_wouldMakeBadRing_3 rfl (st2 := [.int r1]) rfl (pc2 := 6) rfl ?_
  refine kg_if_eq 27 dX2_wouldMakeBadRing_6 rfl (pc2 := 9) rfl (fun q2 => ?_) (fun q2 => ?_)
  · replace h := (if_pos q2).symm.trans h
    refine kg_iconst dX2_wouldMakeBadRing_27 ki_0 (pc2 := 28) rfl ?_
    cases h
    exact kg_iret (ty := .boolean) dX2_wouldMakeBadRing_28 rfl rfl
  · replace h := (if_neg q2).symm.trans h
    refine kg_aload_n 0 dX2_wouldMakeBadRing_9 rfl (pc2 := 10) rfl ?_
    refine kg_iload_n 2 dX2_wouldMakeBadRing_10 rfl (pc2 := 11) rfl ?_
    refine kg_iload_n 1 dX2_wouldMakeBadRing_11 rfl (pc2 := 12) rfl ?_
    obtain ⟨r3, r3h, h⟩ := kw_bind_e h
    refine kg_callV (μ := μX2_wouldMakeBadRing) (d := (d + 1)) rfl mVX2_span [.int a2, .int a1] [] (gX2_span (E := E) (d := (d + 1)) a2 a1 σ r3h) rfl lmRX2_39 (ci := 2) rfl tX_5 eX_5 rfl (Nat.le_of_ble_eq_true rfl) dX2_wouldMakeBadRing_12 rfl (st2 := [.long r3]) rfl (pc2 := 15) rfl ?_
    refine kg_iload_n 3 dX2_wouldMakeBadRing_15 rfl (pc2 := 16) rfl ?_
    refine kg_i2l dX2_wouldMakeBadRing_16 (pc2 := 17) rfl ?_
    refine kg_ladd dX2_wouldMakeBadRing_17 (pc2 := 18) rfl ?_
    refine kg_lconst dX2_wouldMakeBadRing_18 kl_0 (pc2 := 19) rfl ?_
    refine kg_lcmp_gt 27 dX2_wouldMakeBadRing_19 dX2_wouldMakeBadRing_20 rfl (pc2 := 23) rfl (fun q4 => ?_) (fun q4 => ?_)
    · replace h := (if_pos q4).symm.trans h
      refine kg_iconst dX2_wouldMakeBadRing_27 ki_0 (pc2 := 28) rfl ?_
      cases h
      exact kg_iret (ty := .boolean) dX2_wouldMakeBadRing_28 rfl rfl
    · replace h := (if_neg q4).symm.trans h
      refine kg_iconst dX2_wouldMakeBadRing_23 ki_1 (pc2 := 24) rfl ?_
      refine kg_goto 28 dX2_wouldMakeBadRing_24 rfl ?_
      cases h
      exact kg_iret (ty := .boolean) dX2_wouldMakeBadRing_28 rfl rfl
set_option maxHeartbeats 4000000 in
set_option maxRecDepth 100000 in
theorem lX9_savedBy_6 {E : kw_E} {d : Nat} (v1 : Int32) (v2 : Int32) (v3 : Int32) (σ : kw_M) (v4 : Int64) (v6 : Int32) {v : Option Value} {σ2 : kw_M} {o : (Int64 × Int32) ⊕ (Int64)} (h : bX9_savedBy_6 v1 v2 v3 σ v4 v6 = some o) (hk : Sum.elim (fun s => kw_G E kwTX 48 (d + 1) μX9_savedBy 6 [(0, .ref 0), (1, .int v1), (2, .int v2), (3, .int v3), (4, .long s.1), (6, .int s.2)] [] σ v σ2) (fun y => kw_G E kwTX 48 (d + 1) μX9_savedBy 95 [(4, .long y)] [] σ v σ2) o) : kw_G E kwTX 48 (d + 1) μX9_savedBy 6 [(0, .ref 0), (1, .int v1), (2, .int v2), (3, .int v3), (4, .long v4), (6, .int v6)] [] σ v σ2 := by
  unfold bX9_savedBy_6 at h
  refine kg_iload 5 dX9_savedBy_6 rfl (pc2 := 8) rfl ?_
  refine kg_aload_n 0 dX9_savedBy_8 rfl (pc2 := 9) rfl ?_
  refine kg_getr clX9 rfl 0 (Nat.le_of_ble_eq_true rfl) lfRX9_10 tX_0 eX_0 rfl dX9_savedBy_9 (pc2 := 12) rfl ?_
  refine kg_getr clX7 rfl 0 (Nat.le_of_ble_eq_true rfl) lfRX9_148 tX_1 eX_1 rfl dX9_savedBy_12 (pc2 := 15) rfl ?_
  refine kg_geti clX4 rfl 0 (Nat.le_of_ble_eq_true rfl) lfRX9_151 tX_12 eX_12 rfl dX9_savedBy_15 (pc2 := 18) rfl ?_
  refine kg_icmp_ge 95 dX9_savedBy_18 rfl (pc2 := 21) rfl (fun q1 => ?_) (fun q1 => ?_)
  · replace h := (if_pos q1).symm.trans h
    refine kg_sub [4] (lv2 := [(4, .long v4)]) rfl ?_
    cases h
    exact hk
  · replace h := (if_neg q1).symm.trans h
    refine kg_aload_n 0 dX9_savedBy_21 rfl (pc2 := 22) rfl ?_
    refine kg_getr clX9 rfl 5 (Nat.le_of_ble_eq_true rfl) lfRX9_36 tX_0 eX_0 rfl dX9_savedBy_22 (pc2 := 25) rfl ?_
    refine kg_iload_n 2 dX9_savedBy_25 rfl (pc2 := 26) rfl ?_
    refine kg_iload 5 dX9_savedBy_26 rfl (pc2 := 28) rfl ?_
    obtain ⟨r2, r2h, h⟩ := kw_bind_e h
    refine kg_callV (μ := μX9_savedBy) (d := d) rfl mVX2_span [.int v2, .int v6] [] (gX2_span (E := E) (d := d) v2 v6 σ r2h) rfl lmRX9_360 (ci := 2) rfl tX_5 eX_5 rfl (Nat.le_of_ble_eq_true rfl) dX9_savedBy_28 rfl (st2 := [.long r2]) rfl (pc2 := 31) rfl ?_
    refine kg_lstore dX9_savedBy_31 (Nat.le_of_ble_eq_true rfl) rfl (lv2 := [(7, .long r2), (0, .ref 0), (1, .int v1), (2, .int v2), (3, .int v3), (4, .long v4), (6, .int v6)]) rfl (pc2 := 33) rfl ?_
    refine kg_lload 0 dX9_savedBy_33 rfl (pc2 := 35) rfl ?_
    refine kg_ldc2 rfl lcRX9_261 dX9_savedBy_35 (pc2 := 38) rfl ?_
    refine kg_lcmp_eq 89 dX9_savedBy_38 dX9_savedBy_39 rfl (pc2 := 42) rfl (fun q3 => ?_) (fun q3 => ?_)
    · replace h := (if_pos q3).symm.trans h
      obtain ⟨x4, x4e, h⟩ := kw_let_e h
      refine kg_iinc 6 dX9_savedBy_89 rfl (Nat.le_of_ble_eq_true rfl) x4e (lv2 := [(6, .int x4), (7, .long r2), (0, .ref 0), (1, .int v1), (2, .int v2), (3, .int v3), (4, .long v4)]) rfl (pc2 := 92) rfl ?_
      refine kg_goto 6 dX9_savedBy_92 rfl ?_
      refine kg_sub [2, 3, 4, 5, 6, 0] (lv2 := [(0, .ref 0), (1, .int v1), (2, .int v2), (3, .int v3), (4, .long v4), (6, .int x4)]) rfl ?_
      cases h
      exact hk
    · replace h := (if_neg q3).symm.trans h
      refine kg_aload_n 1 dX9_savedBy_42 rfl (pc2 := 43) rfl ?_
      refine kg_getr clX9 rfl 0 (Nat.le_of_ble_eq_true rfl) lfRX9_10 tX_0 eX_0 rfl dX9_savedBy_43 (pc2 := 46) rfl ?_
      refine kg_iload 6 dX9_savedBy_46 rfl (pc2 := 48) rfl ?_
      obtain ⟨r5, r5h, h⟩ := kw_bind_e h
      refine kg_callV (μ := μX9_savedBy) (d := d) rfl mVX7_hasDistance [.int v6] [] (gX7_hasDistance (E := E) (d := d) v6 σ r5h) rfl lmRX9_289 (ci := 7) rfl tX_1 eX_1 rfl (Nat.le_of_ble_eq_true rfl) dX9_savedBy_48 rfl (st2 := [.int r5]) rfl (pc2 := 51) rfl ?_
      refine kg_if_eq 89 dX9_savedBy_51 rfl (pc2 := 54) rfl (fun q6 => ?_) (fun q6 => ?_)
      · replace h := (if_pos q6).symm.trans h
        obtain ⟨x7, x7e, h⟩ := kw_let_e h
        refine kg_iinc 6 dX9_savedBy_89 rfl (Nat.le_of_ble_eq_true rfl) x7e (lv2 := [(6, .int x7), (7, .long r2), (0, .ref 0), (1, .int v1), (2, .int v2), (3, .int v3), (4, .long v4)]) rfl (pc2 := 92) rfl ?_
        refine kg_goto 6 dX9_savedBy_92 rfl ?_
        refine kg_sub [2, 3, 4, 5, 6, 0] (lv2 := [(0, .ref 0), (1, .int v1), (2, .int v2), (3, .int v3), (4, .long v4), (6, .int x7)]) rfl ?_
        cases h
        exact hk
      · replace h := (if_neg q6).symm.trans h
        refine kg_lload 5 dX9_savedBy_54 rfl (pc2 := 56) rfl ?_
        refine kg_lconst dX9_savedBy_56 kl_0 (pc2 := 57) rfl ?_
        refine kg_aload_n 1 dX9_savedBy_57 rfl (pc2 := 58) rfl ?_
        refine kg_getr clX9 rfl 0 (Nat.le_of_ble_eq_true rfl) lfRX9_10 tX_0 eX_0 rfl dX9_savedBy_58 (pc2 := 61) rfl ?_
        refine kg_getr clX7 rfl 9 (Nat.le_of_ble_eq_true rfl) lfRX9_284 tX_1 eX_1 rfl dX9_savedBy_61 (pc2 := 64) rfl ?_
        refine kg_iload 6 dX9_savedBy_64 rfl (pc2 := 66) rfl ?_
        obtain ⟨q8, h⟩ := kw_chk_e h
        refine kg_lald tX_16 eX_16 q8 (j := v6.toNatClampNeg) rfl dX9_savedBy_66 (pc2 := 67) rfl ?_
        refine kg_aload_n 1 dX9_savedBy_67 rfl (pc2 := 68) rfl ?_
        refine kg_getr clX9 rfl 0 (Nat.le_of_ble_eq_true rfl) lfRX9_10 tX_0 eX_0 rfl dX9_savedBy_68 (pc2 := 71) rfl ?_
        refine kg_getr clX7 rfl 9 (Nat.le_of_ble_eq_true rfl) lfRX9_284 tX_1 eX_1 rfl dX9_savedBy_71 (pc2 := 74) rfl ?_
        refine kg_iload_n 2 dX9_savedBy_74 rfl (pc2 := 75) rfl ?_
        obtain ⟨q9, h⟩ := kw_chk_e h
        refine kg_lald tX_16 eX_16 q9 (j := v1.toNatClampNeg) rfl dX9_savedBy_75 (pc2 := 76) rfl ?_
        refine kg_iload_n 4 dX9_savedBy_76 rfl (pc2 := 77) rfl ?_
        refine kg_i2l dX9_savedBy_77 (pc2 := 78) rfl ?_
        refine kg_ladd dX9_savedBy_78 (pc2 := 79) rfl ?_
        refine kg_lload 0 dX9_savedBy_79 rfl (pc2 := 81) rfl ?_
        refine kg_ladd dX9_savedBy_81 (pc2 := 82) rfl ?_
        refine kg_lsub dX9_savedBy_82 (pc2 := 83) rfl ?_
        obtain ⟨x10, x10e, h⟩ := kw_let_e h
        refine kg_mmax_long (μ := μX9_savedBy) (d := d) rfl rfl mmRX9_398 (Nat.le_of_ble_eq_true rfl) x10e dX9_savedBy_83 (pc2 := 86) rfl ?_
        refine kg_ladd dX9_savedBy_86 (pc2 := 87) rfl ?_
        obtain ⟨x11, x11e, h⟩ := kw_let_e h
        refine kg_lstore dX9_savedBy_87 (Nat.le_of_ble_eq_true rfl) x11e (lv2 := [(4, .long x11), (7, .long r2), (0, .ref 0), (1, .int v1), (2, .int v2), (3, .int v3), (6, .int v6)]) rfl (pc2 := 89) rfl ?_
        obtain ⟨x12, x12e, h⟩ := kw_let_e h
        refine kg_iinc 6 dX9_savedBy_89 rfl (Nat.le_of_ble_eq_true rfl) x12e (lv2 := [(6, .int x12), (4, .long x11), (7, .long r2), (0, .ref 0), (1, .int v1), (2, .int v2), (3, .int v3)]) rfl (pc2 := 92) rfl ?_
        refine kg_goto 6 dX9_savedBy_92 rfl ?_
        refine kg_sub [3, 4, 5, 6, 1, 0] (lv2 := [(0, .ref 0), (1, .int v1), (2, .int v2), (3, .int v3), (4, .long x11), (6, .int x12)]) rfl ?_
        cases h
        exact hk
set_option maxHeartbeats 4000000 in
set_option maxRecDepth 100000 in
theorem gX9_savedBy {E : kw_E} {d : Nat} (a1 : Int32) (a2 : Int32) (a3 : Int32) (σ : kw_M) {r : Int64} (h : fX9_savedBy a1 a2 a3 σ = some r) : kw_Met E kwTX 48 (d + 1) μX9_savedBy [.ref 0, .int a1, .int a2, .int a3] σ (some (Value.long r)) σ := by
  refine kw_enter plRX9 (Nat.le_of_ble_eq_true rfl) ?_
  show kw_G E kwTX 48 (d + 1) μX9_savedBy 0 [(0, .ref 0), (1, .int a1), (2, .int a2), (3, .int a3)] [] σ (some (Value.long r)) σ
  unfold fX9_savedBy at h
  refine kg_lconst dX9_savedBy_0 kl_0 (pc2 := 1) rfl ?_
  refine kg_lstore dX9_savedBy_1 (Nat.le_of_ble_eq_true rfl) rfl (lv2 := [(4, .long (0 : Int64)), (0, .ref 0), (1, .int a1), (2, .int a2), (3, .int a3)]) rfl (pc2 := 3) rfl ?_
  refine kg_iconst dX9_savedBy_3 ki_0 (pc2 := 4) rfl ?_
  refine kg_istore dX9_savedBy_4 (Nat.le_of_ble_eq_true rfl) rfl (lv2 := [(6, .int (0 : Int32)), (4, .long (0 : Int64)), (0, .ref 0), (1, .int a1), (2, .int a2), (3, .int a3)]) rfl (pc2 := 6) rfl ?_
  refine kg_sub [2, 3, 4, 5, 1, 0] (lv2 := [(0, .ref 0), (1, .int a1), (2, .int a2), (3, .int a3), (4, .long (0 : Int64)), (6, .int (0 : Int32))]) rfl ?_
  obtain ⟨x13, x13h, h⟩ := kw_bind_e h
  refine kw_loop_e (P := fun s => kw_G E kwTX 48 (d + 1) μX9_savedBy 6 [(0, .ref 0), (1, .int a1), (2, .int a2), (3, .int a3), (4, .long s.1), (6, .int s.2)] [] σ (some (Value.long r)) σ) (K := fun y => kw_G E kwTX 48 (d + 1) μX9_savedBy 95 [(4, .long y)] [] σ (some (Value.long r)) σ) (fun s o h0 hk => lX9_savedBy_6 a1 a2 a3 σ s.1 s.2 h0 hk) kw_F _ _ x13h ?_
  show kw_G E kwTX 48 (d + 1) μX9_savedBy 95 [(4, .long x13)] [] σ (some (Value.long r)) σ
  refine kg_lload 0 dX9_savedBy_95 rfl (pc2 := 97) rfl ?_
  cases h
  exact kg_lret dX9_savedBy_97 rfl
set_option maxHeartbeats 4000000 in
set_option maxRecDepth 100000 in
theorem lX9_findShortcut_31 {E : kw_E} {d : Nat} (v1 : Int32) (v3 : Int32) (v4 : Int32) (σ : kw_M) {v : Option Value} {σ2 : kw_M} {o : (Int32 × kw_M) ⊕ (kw_M)} (h : bX9_findShortcut_31 v1 v3 v4 σ = some o) (hk : Sum.elim (fun s => kw_G E kwTX 48 (d + 4) μX9_findShortcut 31 [(0, .ref 0), (1, .int v1), (2, .ref 5), (3, .int v3), (4, .int s.1)] [] s.2 v σ2) (fun y => kw_G E kwTX 48 (d + 4) μX9_findShortcut 130 [(0, .ref 0), (1, .int v1), (2, .ref 5), (3, .int v3)] [] y v σ2) o) : kw_G E kwTX 48 (d + 4) μX9_findShortcut 31 [(0, .ref 0), (1, .int v1), (2, .ref 5), (3, .int v3), (4, .int v4)] [] σ v σ2 := by
  unfold bX9_findShortcut_31 at h
  refine kg_iload 4 dX9_findShortcut_31 rfl (pc2 := 33) rfl ?_
  refine kg_aload_n 0 dX9_findShortcut_33 rfl (pc2 := 34) rfl ?_
  refine kg_getr clX9 rfl 0 (Nat.le_of_ble_eq_true rfl) lfRX9_10 tX_0 eX_0 rfl dX9_findShortcut_34 (pc2 := 37) rfl ?_
  refine kg_getr clX7 rfl 0 (Nat.le_of_ble_eq_true rfl) lfRX9_148 tX_1 eX_1 rfl dX9_findShortcut_37 (pc2 := 40) rfl ?_
  refine kg_geti clX4 rfl 0 (Nat.le_of_ble_eq_true rfl) lfRX9_151 tX_12 eX_12 rfl dX9_findShortcut_40 (pc2 := 43) rfl ?_
  refine kg_icmp_ge 130 dX9_findShortcut_43 rfl (pc2 := 46) rfl (fun q4 => ?_) (fun q4 => ?_)
  · replace h := (if_pos q4).symm.trans h
    refine kg_sub [0, 1, 2, 3] (lv2 := [(0, .ref 0), (1, .int v1), (2, .ref 5), (3, .int v3)]) rfl ?_
    cases h
    exact hk
  · replace h := (if_neg q4).symm.trans h
    refine kg_iload_n 3 dX9_findShortcut_46 rfl (pc2 := 47) rfl ?_
    refine kg_iload 4 dX9_findShortcut_47 rfl (pc2 := 49) rfl ?_
    refine kg_icmp_eq 124 dX9_findShortcut_49 rfl (pc2 := 52) rfl (fun q5 => ?_) (fun q5 => ?_)
    · replace h := (if_pos q5).symm.trans h
      obtain ⟨x6, x6e, h⟩ := kw_let_e h
      refine kg_iinc 4 dX9_findShortcut_124 rfl (Nat.le_of_ble_eq_true rfl) x6e (lv2 := [(4, .int x6), (0, .ref 0), (1, .int v1), (2, .ref 5), (3, .int v3)]) rfl (pc2 := 127) rfl ?_
      refine kg_goto 31 dX9_findShortcut_127 rfl ?_
      refine kg_sub [1, 2, 3, 4, 0] (lv2 := [(0, .ref 0), (1, .int v1), (2, .ref 5), (3, .int v3), (4, .int x6)]) rfl ?_
      cases h
      exact hk
    · replace h := (if_neg q5).symm.trans h
      refine kg_aload_n 0 dX9_findShortcut_52 rfl (pc2 := 53) rfl ?_
      refine kg_getr clX9 rfl 0 (Nat.le_of_ble_eq_true rfl) lfRX9_10 tX_0 eX_0 rfl dX9_findShortcut_53 (pc2 := 56) rfl ?_
      refine kg_iload_n 3 dX9_findShortcut_56 rfl (pc2 := 57) rfl ?_
      obtain ⟨r7, r7h, h⟩ := kw_bind_e h
      refine kg_callV (μ := μX9_findShortcut) (d := (d + 3)) rfl mVX7_hasDistance [.int v3] [] (gX7_hasDistance (E := E) (d := (d + 3)) v3 σ r7h) rfl lmRX9_289 (ci := 7) rfl tX_1 eX_1 rfl (Nat.le_of_ble_eq_true rfl) dX9_findShortcut_57 rfl (st2 := [.int r7]) rfl (pc2 := 60) rfl ?_
      refine kg_if_eq 124 dX9_findShortcut_60 rfl (pc2 := 63) rfl (fun q8 => ?_) (fun q8 => ?_)
      · replace h := (if_pos q8).symm.trans h
        obtain ⟨x9, x9e, h⟩ := kw_let_e h
        refine kg_iinc 4 dX9_findShortcut_124 rfl (Nat.le_of_ble_eq_true rfl) x9e (lv2 := [(4, .int x9), (0, .ref 0), (1, .int v1), (2, .ref 5), (3, .int v3)]) rfl (pc2 := 127) rfl ?_
        refine kg_goto 31 dX9_findShortcut_127 rfl ?_
        refine kg_sub [1, 2, 3, 4, 0] (lv2 := [(0, .ref 0), (1, .int v1), (2, .ref 5), (3, .int v3), (4, .int x9)]) rfl ?_
        cases h
        exact hk
      · replace h := (if_neg q8).symm.trans h
        refine kg_aload_n 2 dX9_findShortcut_63 rfl (pc2 := 64) rfl ?_
        refine kg_iload_n 3 dX9_findShortcut_64 rfl (pc2 := 65) rfl ?_
        refine kg_iload 4 dX9_findShortcut_65 rfl (pc2 := 67) rfl ?_
        refine kg_iload_n 1 dX9_findShortcut_67 rfl (pc2 := 68) rfl ?_
        obtain ⟨r10, r10h, h⟩ := kw_bind_e h
        refine kg_callV (μ := μX9_findShortcut) (d := (d + 3)) rfl mVX2_wouldMakeBadRing [.int v3, .int v4, .int v1] [] (gX2_wouldMakeBadRing (E := E) (d := (d + 1)) v3 v4 v1 σ r10h) rfl lmRX9_391 (ci := 2) rfl tX_5 eX_5 rfl (Nat.le_of_ble_eq_true rfl) dX9_findShortcut_68 rfl (st2 := [.int r10]) rfl (pc2 := 71) rfl ?_
        refine kg_if_eq 77 dX9_findShortcut_71 rfl (pc2 := 74) rfl (fun q11 => ?_) (fun q11 => ?_)
        · replace h := (if_pos q11).symm.trans h
          refine kg_aload_n 0 dX9_findShortcut_77 rfl (pc2 := 78) rfl ?_
          refine kg_iload_n 3 dX9_findShortcut_78 rfl (pc2 := 79) rfl ?_
          refine kg_iload 4 dX9_findShortcut_79 rfl (pc2 := 81) rfl ?_
          refine kg_iload_n 1 dX9_findShortcut_81 rfl (pc2 := 82) rfl ?_
          obtain ⟨r12, r12h, h⟩ := kw_bind_e h
          refine kg_callV (μ := μX9_findShortcut) (d := (d + 3)) rfl mVX9_savedBy [.int v3, .int v4, .int v1] [] (gX9_savedBy (E := E) (d := (d + 2)) v3 v4 v1 σ r12h) rfl lmRX9_394 (ci := 9) rfl tX_0 eX_0 rfl (Nat.le_of_ble_eq_true rfl) dX9_findShortcut_82 rfl (st2 := [.long r12]) rfl (pc2 := 85) rfl ?_
          refine kg_lstore dX9_findShortcut_85 (Nat.le_of_ble_eq_true rfl) rfl (lv2 := [(5, .long r12), (0, .ref 0), (1, .int v1), (2, .ref 5), (3, .int v3), (4, .int v4)]) rfl (pc2 := 87) rfl ?_
          refine kg_lload 0 dX9_findShortcut_87 rfl (pc2 := 89) rfl ?_
          refine kg_aload_n 1 dX9_findShortcut_89 rfl (pc2 := 90) rfl ?_
          refine kg_getr clX9 rfl 9 (Nat.le_of_ble_eq_true rfl) lfRX9_65 tX_0 eX_0 rfl dX9_findShortcut_90 (pc2 := 93) rfl ?_
          refine kg_iconst dX9_findShortcut_93 ki_2 (pc2 := 94) rfl ?_
          refine kg_lald tX_9 eX_9 (show kw_in (2 : Int32) 3 by decide) (j := 2) (by decide) dX9_findShortcut_94 (pc2 := 95) rfl ?_
          refine kg_lcmp_le 124 dX9_findShortcut_95 dX9_findShortcut_96 rfl (pc2 := 99) rfl (fun q13 => ?_) (fun q13 => ?_)
          · replace h := (if_pos q13).symm.trans h
            obtain ⟨x14, x14e, h⟩ := kw_let_e h
            refine kg_iinc 5 dX9_findShortcut_124 rfl (Nat.le_of_ble_eq_true rfl) x14e (lv2 := [(4, .int x14), (5, .long r12), (0, .ref 0), (1, .int v1), (2, .ref 5), (3, .int v3)]) rfl (pc2 := 127) rfl ?_
            refine kg_goto 31 dX9_findShortcut_127 rfl ?_
            refine kg_sub [2, 3, 4, 5, 0] (lv2 := [(0, .ref 0), (1, .int v1), (2, .ref 5), (3, .int v3), (4, .int x14)]) rfl ?_
            cases h
            exact hk
          · replace h := (if_neg q13).symm.trans h
            refine kg_aload_n 1 dX9_findShortcut_99 rfl (pc2 := 100) rfl ?_
            refine kg_getr clX9 rfl 9 (Nat.le_of_ble_eq_true rfl) lfRX9_65 tX_0 eX_0 rfl dX9_findShortcut_100 (pc2 := 103) rfl ?_
            refine kg_iconst dX9_findShortcut_103 ki_0 (pc2 := 104) rfl ?_
            refine kg_iload_n 4 dX9_findShortcut_104 rfl (pc2 := 105) rfl ?_
            refine kg_i2l dX9_findShortcut_105 (pc2 := 106) rfl ?_
            obtain ⟨s15, s15e, h⟩ := kw_let_e h
            refine kg_last tX_9 eX_9 (show kw_in (0 : Int32) 3 by decide) (j := 0) (by decide) s15e dX9_findShortcut_106 (pc2 := 107) rfl ?_
            refine kg_aload_n 1 dX9_findShortcut_107 rfl (pc2 := 108) rfl ?_
            refine kg_getr clX9 rfl 9 (Nat.le_of_ble_eq_true rfl) lfRX9_65 tX_0 eX_0 rfl dX9_findShortcut_108 (pc2 := 111) rfl ?_
            refine kg_iconst dX9_findShortcut_111 ki_1 (pc2 := 112) rfl ?_
            refine kg_iload 5 dX9_findShortcut_112 rfl (pc2 := 114) rfl ?_
            refine kg_i2l dX9_findShortcut_114 (pc2 := 115) rfl ?_
            obtain ⟨s16, s16e, h⟩ := kw_let_e h
            refine kg_last tX_9 eX_9 (show kw_in (1 : Int32) 3 by decide) (j := 1) (by decide) s16e dX9_findShortcut_115 (pc2 := 116) rfl ?_
            refine kg_aload_n 1 dX9_findShortcut_116 rfl (pc2 := 117) rfl ?_
            refine kg_getr clX9 rfl 9 (Nat.le_of_ble_eq_true rfl) lfRX9_65 tX_0 eX_0 rfl dX9_findShortcut_117 (pc2 := 120) rfl ?_
            refine kg_iconst dX9_findShortcut_120 ki_2 (pc2 := 121) rfl ?_
            refine kg_lload 0 dX9_findShortcut_121 rfl (pc2 := 123) rfl ?_
            obtain ⟨s17, s17e, h⟩ := kw_let_e h
            refine kg_last tX_9 eX_9 (show kw_in (2 : Int32) 3 by decide) (j := 2) (by decide) s17e dX9_findShortcut_123 (pc2 := 124) rfl ?_
            obtain ⟨x18, x18e, h⟩ := kw_let_e h
            refine kg_iinc 5 dX9_findShortcut_124 rfl (Nat.le_of_ble_eq_true rfl) x18e (lv2 := [(4, .int x18), (5, .long r12), (0, .ref 0), (1, .int v1), (2, .ref 5), (3, .int v3)]) rfl (pc2 := 127) rfl ?_
            refine kg_goto 31 dX9_findShortcut_127 rfl ?_
            refine kg_sub [2, 3, 4, 5, 0] (lv2 := [(0, .ref 0), (1, .int v1), (2, .ref 5), (3, .int v3), (4, .int x18)]) rfl ?_
            cases h
            exact hk
        · replace h := (if_neg q11).symm.trans h
          refine kg_goto 124 dX9_findShortcut_74 rfl ?_
          obtain ⟨x19, x19e, h⟩ := kw_let_e h
          refine kg_iinc 4 dX9_findShortcut_124 rfl (Nat.le_of_ble_eq_true rfl) x19e (lv2 := [(4, .int x19), (0, .ref 0), (1, .int v1), (2, .ref 5), (3, .int v3)]) rfl (pc2 := 127) rfl ?_
          refine kg_goto 31 dX9_findShortcut_127 rfl ?_
          refine kg_sub [1, 2, 3, 4, 0] (lv2 := [(0, .ref 0), (1, .int v1), (2, .ref 5), (3, .int v3), (4, .int x19)]) rfl ?_
          cases h
          exact hk
set_option maxHeartbeats 4000000 in
set_option maxRecDepth 100000 in
theorem lX9_findShortcut_14 {E : kw_E} {d : Nat} (v1 : Int32) (v3 : Int32) (σ : kw_M) {v : Option Value} {σ2 : kw_M} {o : (Int32 × kw_M) ⊕ (kw_M)} (h : bX9_findShortcut_14 v1 v3 σ = some o) (hk : Sum.elim (fun s => kw_G E kwTX 48 (d + 4) μX9_findShortcut 14 [(0, .ref 0), (1, .int v1), (2, .ref 5), (3, .int s.1)] [] s.2 v σ2) (fun y => kw_G E kwTX 48 (d + 4) μX9_findShortcut 136 [] [] y v σ2) o) : kw_G E kwTX 48 (d + 4) μX9_findShortcut 14 [(0, .ref 0), (1, .int v1), (2, .ref 5), (3, .int v3)] [] σ v σ2 := by
  unfold bX9_findShortcut_14 at h
  refine kg_iload_n 3 dX9_findShortcut_14 rfl (pc2 := 15) rfl ?_
  refine kg_aload_n 0 dX9_findShortcut_15 rfl (pc2 := 16) rfl ?_
  refine kg_getr clX9 rfl 0 (Nat.le_of_ble_eq_true rfl) lfRX9_10 tX_0 eX_0 rfl dX9_findShortcut_16 (pc2 := 19) rfl ?_
  refine kg_getr clX7 rfl 0 (Nat.le_of_ble_eq_true rfl) lfRX9_148 tX_1 eX_1 rfl dX9_findShortcut_19 (pc2 := 22) rfl ?_
  refine kg_geti clX4 rfl 0 (Nat.le_of_ble_eq_true rfl) lfRX9_151 tX_12 eX_12 rfl dX9_findShortcut_22 (pc2 := 25) rfl ?_
  refine kg_icmp_ge 136 dX9_findShortcut_25 rfl (pc2 := 28) rfl (fun q3 => ?_) (fun q3 => ?_)
  · replace h := (if_pos q3).symm.trans h
    refine kg_sub [] (lv2 := []) rfl ?_
    cases h
    exact hk
  · replace h := (if_neg q3).symm.trans h
    refine kg_iconst dX9_findShortcut_28 ki_0 (pc2 := 29) rfl ?_
    refine kg_istore dX9_findShortcut_29 (Nat.le_of_ble_eq_true rfl) rfl (lv2 := [(4, .int (0 : Int32)), (0, .ref 0), (1, .int v1), (2, .ref 5), (3, .int v3)]) rfl (pc2 := 31) rfl ?_
    refine kg_sub [1, 2, 3, 4, 0] (lv2 := [(0, .ref 0), (1, .int v1), (2, .ref 5), (3, .int v3), (4, .int (0 : Int32))]) rfl ?_
    obtain ⟨x20, x20h, h⟩ := kw_bind_e h
    refine kw_loop_e (P := fun s => kw_G E kwTX 48 (d + 4) μX9_findShortcut 31 [(0, .ref 0), (1, .int v1), (2, .ref 5), (3, .int v3), (4, .int s.1)] [] s.2 v σ2) (K := fun y => kw_G E kwTX 48 (d + 4) μX9_findShortcut 130 [(0, .ref 0), (1, .int v1), (2, .ref 5), (3, .int v3)] [] y v σ2) (fun s o h0 hk => lX9_findShortcut_31 v1 v3 s.1 s.2 h0 hk) kw_F _ _ x20h ?_
    show kw_G E kwTX 48 (d + 4) μX9_findShortcut 130 [(0, .ref 0), (1, .int v1), (2, .ref 5), (3, .int v3)] [] x20 v σ2
    obtain ⟨x21, x21e, h⟩ := kw_let_e h
    refine kg_iinc 3 dX9_findShortcut_130 rfl (Nat.le_of_ble_eq_true rfl) x21e (lv2 := [(3, .int x21), (0, .ref 0), (1, .int v1), (2, .ref 5)]) rfl (pc2 := 133) rfl ?_
    refine kg_goto 14 dX9_findShortcut_133 rfl ?_
    refine kg_sub [1, 2, 3, 0] (lv2 := [(0, .ref 0), (1, .int v1), (2, .ref 5), (3, .int x21)]) rfl ?_
    cases h
    exact hk
set_option maxHeartbeats 4000000 in
set_option maxRecDepth 100000 in
theorem gX9_findShortcut {E : kw_E} {d : Nat} (a1 : Int32) (σ : kw_M) {r : kw_M} (h : fX9_findShortcut a1 σ = some r) : kw_Met E kwTX 48 (d + 4) μX9_findShortcut [.ref 0, .int a1] σ none r := by
  refine kw_enter plRX9 (Nat.le_of_ble_eq_true rfl) ?_
  show kw_G E kwTX 48 (d + 4) μX9_findShortcut 0 [(0, .ref 0), (1, .int a1)] [] σ none r
  unfold fX9_findShortcut at h
  refine kg_aload_n 0 dX9_findShortcut_0 rfl (pc2 := 1) rfl ?_
  obtain ⟨r1, r1h, h⟩ := kw_bind_e h
  refine kg_callV (μ := μX9_findShortcut) (d := (d + 3)) rfl mVX9_rightPairs [] [] (gX9_rightPairs (E := E) (d := d) σ r1h) rfl lmRX9_251 (ci := 9) rfl tX_0 eX_0 rfl (Nat.le_of_ble_eq_true rfl) dX9_findShortcut_1 rfl (st2 := [.ref 5]) rfl (pc2 := 4) rfl ?_
  refine kg_astore_n dX9_findShortcut_4 rfl (Nat.le_of_ble_eq_true rfl) rfl (lv2 := [(2, .ref 5), (0, .ref 0), (1, .int a1)]) rfl (pc2 := 5) rfl ?_
  refine kg_aload_n 1 dX9_findShortcut_5 rfl (pc2 := 6) rfl ?_
  refine kg_getr clX9 rfl 9 (Nat.le_of_ble_eq_true rfl) lfRX9_65 tX_0 eX_0 rfl dX9_findShortcut_6 (pc2 := 9) rfl ?_
  refine kg_iconst dX9_findShortcut_9 ki_2 (pc2 := 10) rfl ?_
  refine kg_lconst dX9_findShortcut_10 kl_0 (pc2 := 11) rfl ?_
  obtain ⟨s2, s2e, h⟩ := kw_let_e h
  refine kg_last tX_9 eX_9 (show kw_in (2 : Int32) 3 by decide) (j := 2) (by decide) s2e dX9_findShortcut_11 (pc2 := 12) rfl ?_
  refine kg_iconst dX9_findShortcut_12 ki_0 (pc2 := 13) rfl ?_
  refine kg_istore_n dX9_findShortcut_13 rfl (Nat.le_of_ble_eq_true rfl) rfl (lv2 := [(3, .int (0 : Int32)), (2, .ref 5), (0, .ref 0), (1, .int a1)]) rfl (pc2 := 14) rfl ?_
  refine kg_sub [2, 3, 1, 0] (lv2 := [(0, .ref 0), (1, .int a1), (2, .ref 5), (3, .int (0 : Int32))]) rfl ?_
  obtain ⟨x22, x22h, h⟩ := kw_bind_e h
  refine kw_loop_e (P := fun s => kw_G E kwTX 48 (d + 4) μX9_findShortcut 14 [(0, .ref 0), (1, .int a1), (2, .ref 5), (3, .int s.1)] [] s.2 none r) (K := fun y => kw_G E kwTX 48 (d + 4) μX9_findShortcut 136 [] [] y none r) (fun s o h0 hk => lX9_findShortcut_14 a1 s.1 s.2 h0 hk) kw_F _ _ x22h ?_
  show kw_G E kwTX 48 (d + 4) μX9_findShortcut 136 [] [] x22 none r
  cases h
  exact kg_vret dX9_findShortcut_136 rfl
set_option maxHeartbeats 4000000 in
set_option maxRecDepth 100000 in
theorem gX9_shortcut {E : kw_E} {d : Nat} (a1 : Int32) (a2 : Int32) (σ : kw_M) {r : Int64 × kw_M} (h : fX9_shortcut a1 a2 σ = some r) : kw_Met E kwTX 48 (d + 5) μX9_shortcut [.ref 0, .int a1, .int a2] σ (some (Value.long r.1)) r.2 := by
  refine kw_enter plRX9 (Nat.le_of_ble_eq_true rfl) ?_
  show kw_G E kwTX 48 (d + 5) μX9_shortcut 0 [(0, .ref 0), (1, .int a1), (2, .int a2)] [] σ (some (Value.long r.1)) r.2
  unfold fX9_shortcut at h
  refine kg_iload_n 1 dX9_shortcut_0 rfl (pc2 := 1) rfl ?_
  obtain ⟨r1, r1h, h⟩ := kw_bind_e h
  refine kg_callS (μ := μX9_shortcut) (d := (d + 4)) rfl mSX9_isLength [.int a1] [] (gX9_isLength (E := E) (d := (d + 4)) a1 σ r1h) rfl lmRX9_179 rfl (Nat.le_of_ble_eq_true rfl) dX9_shortcut_1 rfl (st2 := [.int r1]) rfl (pc2 := 4) rfl ?_
  refine kg_if_eq 16 dX9_shortcut_4 rfl (pc2 := 7) rfl (fun q2 => ?_) (fun q2 => ?_)
  · replace h := (if_pos q2).symm.trans h
    refine kg_ldc2 rfl lcRX9_261 dX9_shortcut_16 (pc2 := 19) rfl ?_
    cases h
    exact kg_lret dX9_shortcut_19 rfl
  · replace h := (if_neg q2).symm.trans h
    refine kg_iload_n 2 dX9_shortcut_7 rfl (pc2 := 8) rfl ?_
    refine kg_if_lt 16 dX9_shortcut_8 rfl (pc2 := 11) rfl (fun q3 => ?_) (fun q3 => ?_)
    · replace h := (if_pos q3).symm.trans h
      refine kg_ldc2 rfl lcRX9_261 dX9_shortcut_16 (pc2 := 19) rfl ?_
      cases h
      exact kg_lret dX9_shortcut_19 rfl
    · replace h := (if_neg q3).symm.trans h
      refine kg_iload_n 2 dX9_shortcut_11 rfl (pc2 := 12) rfl ?_
      refine kg_iconst dX9_shortcut_12 ki_2 (pc2 := 13) rfl ?_
      refine kg_icmp_le 20 dX9_shortcut_13 rfl (pc2 := 16) rfl (fun q4 => ?_) (fun q4 => ?_)
      · replace h := (if_pos q4).symm.trans h
        refine kg_aload_n 0 dX9_shortcut_20 rfl (pc2 := 21) rfl ?_
        refine kg_iload_n 1 dX9_shortcut_21 rfl (pc2 := 22) rfl ?_
        obtain ⟨r5, r5h, h⟩ := kw_bind_e h
        refine kg_callV (μ := μX9_shortcut) (d := (d + 4)) rfl mVX9_findShortcut [.int a1] [] (gX9_findShortcut (E := E) (d := d) a1 σ r5h) rfl lmRX9_388 (ci := 9) rfl tX_0 eX_0 rfl (Nat.le_of_ble_eq_true rfl) dX9_shortcut_22 rfl (st2 := []) rfl (pc2 := 25) rfl ?_
        refine kg_aload_n 0 dX9_shortcut_25 rfl (pc2 := 26) rfl ?_
        refine kg_getr clX9 rfl 9 (Nat.le_of_ble_eq_true rfl) lfRX9_65 tX_0 eX_0 rfl dX9_shortcut_26 (pc2 := 29) rfl ?_
        refine kg_iconst dX9_shortcut_29 ki_2 (pc2 := 30) rfl ?_
        refine kg_lald tX_9 eX_9 (show kw_in (2 : Int32) 3 by decide) (j := 2) (by decide) dX9_shortcut_30 (pc2 := 31) rfl ?_
        refine kg_lconst dX9_shortcut_31 kl_0 (pc2 := 32) rfl ?_
        refine kg_lcmp_le 45 dX9_shortcut_32 dX9_shortcut_33 rfl (pc2 := 36) rfl (fun q6 => ?_) (fun q6 => ?_)
        · replace h := (if_pos q6).symm.trans h
          refine kg_ldc2 rfl lcRX9_287 dX9_shortcut_45 (pc2 := 48) rfl ?_
          cases h
          exact kg_lret dX9_shortcut_48 rfl
        · replace h := (if_neg q6).symm.trans h
          refine kg_aload_n 0 dX9_shortcut_36 rfl (pc2 := 37) rfl ?_
          refine kg_getr clX9 rfl 9 (Nat.le_of_ble_eq_true rfl) lfRX9_65 tX_0 eX_0 rfl dX9_shortcut_37 (pc2 := 40) rfl ?_
          refine kg_iload_n 2 dX9_shortcut_40 rfl (pc2 := 41) rfl ?_
          obtain ⟨q7, h⟩ := kw_chk_e h
          refine kg_lald tX_9 eX_9 q7 (j := a2.toNatClampNeg) rfl dX9_shortcut_41 (pc2 := 42) rfl ?_
          refine kg_goto 48 dX9_shortcut_42 rfl ?_
          cases h
          exact kg_lret dX9_shortcut_48 rfl
      · replace h := (if_neg q4).symm.trans h
        refine kg_ldc2 rfl lcRX9_261 dX9_shortcut_16 (pc2 := 19) rfl ?_
        cases h
        exact kg_lret dX9_shortcut_19 rfl
set_option maxHeartbeats 4000000 in
set_option maxRecDepth 100000 in
theorem gX6_takeMean {E : kw_E} {d : Nat} (a1 : Int64) (a2 : Int32) (σ : kw_M) {r : kw_M} (h : fX6_takeMean a1 a2 σ = some r) : kw_Met E kwTX 48 d μX6_takeMean [.ref 6, .long a1, .int a2] σ none r := by
  refine kw_enter plRX6 (Nat.le_of_ble_eq_true rfl) ?_
  show kw_G E kwTX 48 d μX6_takeMean 0 [(0, .ref 6), (1, .long a1), (3, .int a2)] [] σ none r
  unfold fX6_takeMean at h
  refine kg_lload_n 1 dX6_takeMean_0 rfl (pc2 := 1) rfl ?_
  refine kg_ldc2 rfl lcRX6_115 dX6_takeMean_1 (pc2 := 4) rfl ?_
  refine kg_lcmp_eq 45 dX6_takeMean_4 dX6_takeMean_5 rfl (pc2 := 8) rfl (fun q1 => ?_) (fun q1 => ?_)
  · replace h := (if_pos q1).symm.trans h
    cases h
    exact kg_vret dX6_takeMean_45 rfl
  · replace h := (if_neg q1).symm.trans h
    refine kg_aload_n 0 dX6_takeMean_8 rfl (pc2 := 9) rfl ?_
    refine kg_getl clX6 rfl 3 (Nat.le_of_ble_eq_true rfl) lfRX6_128 tX_6 eX_6 rfl dX6_takeMean_9 (pc2 := 12) rfl ?_
    refine kg_lconst dX6_takeMean_12 kl_0 (pc2 := 13) rfl ?_
    refine kg_lcmp_eq 34 dX6_takeMean_13 dX6_takeMean_14 rfl (pc2 := 17) rfl (fun q2 => ?_) (fun q2 => ?_)
    · replace h := (if_pos q2).symm.trans h
      refine kg_aload_n 0 dX6_takeMean_34 rfl (pc2 := 35) rfl ?_
      refine kg_lload_n 1 dX6_takeMean_35 rfl (pc2 := 36) rfl ?_
      obtain ⟨s3, s3e, h⟩ := kw_let_e h
      refine kg_putl clX6 rfl 2 (Nat.le_of_ble_eq_true rfl) lfRX6_136 rfl tX_6 eX_6 rfl (ty := .long) (by decide +kernel) rfl rfl s3e dX6_takeMean_36 (pc2 := 39) rfl ?_
      refine kg_aload_n 0 dX6_takeMean_39 rfl (pc2 := 40) rfl ?_
      refine kg_iload_n 2 dX6_takeMean_40 rfl (pc2 := 41) rfl ?_
      refine kg_i2l dX6_takeMean_41 (pc2 := 42) rfl ?_
      obtain ⟨s4, s4e, h⟩ := kw_let_e h
      refine kg_putl clX6 rfl 3 (Nat.le_of_ble_eq_true rfl) lfRX6_128 rfl tX_6 eX_6 rfl (ty := .long) (by decide +kernel) rfl rfl s4e dX6_takeMean_42 (pc2 := 45) rfl ?_
      cases h
      exact kg_vret dX6_takeMean_45 rfl
    · replace h := (if_neg q2).symm.trans h
      refine kg_lload_n 1 dX6_takeMean_17 rfl (pc2 := 18) rfl ?_
      refine kg_aload_n 0 dX6_takeMean_18 rfl (pc2 := 19) rfl ?_
      refine kg_getl clX6 rfl 3 (Nat.le_of_ble_eq_true rfl) lfRX6_128 tX_6 eX_6 rfl dX6_takeMean_19 (pc2 := 22) rfl ?_
      refine kg_lmul dX6_takeMean_22 (pc2 := 23) rfl ?_
      refine kg_aload_n 0 dX6_takeMean_23 rfl (pc2 := 24) rfl ?_
      refine kg_getl clX6 rfl 2 (Nat.le_of_ble_eq_true rfl) lfRX6_136 tX_6 eX_6 rfl dX6_takeMean_24 (pc2 := 27) rfl ?_
      refine kg_iload_n 2 dX6_takeMean_27 rfl (pc2 := 28) rfl ?_
      refine kg_i2l dX6_takeMean_28 (pc2 := 29) rfl ?_
      refine kg_lmul dX6_takeMean_29 (pc2 := 30) rfl ?_
      refine kg_lcmp_ge 45 dX6_takeMean_30 dX6_takeMean_31 rfl (pc2 := 34) rfl (fun q5 => ?_) (fun q5 => ?_)
      · replace h := (if_pos q5).symm.trans h
        cases h
        exact kg_vret dX6_takeMean_45 rfl
      · replace h := (if_neg q5).symm.trans h
        refine kg_aload_n 0 dX6_takeMean_34 rfl (pc2 := 35) rfl ?_
        refine kg_lload_n 1 dX6_takeMean_35 rfl (pc2 := 36) rfl ?_
        obtain ⟨s6, s6e, h⟩ := kw_let_e h
        refine kg_putl clX6 rfl 2 (Nat.le_of_ble_eq_true rfl) lfRX6_136 rfl tX_6 eX_6 rfl (ty := .long) (by decide +kernel) rfl rfl s6e dX6_takeMean_36 (pc2 := 39) rfl ?_
        refine kg_aload_n 0 dX6_takeMean_39 rfl (pc2 := 40) rfl ?_
        refine kg_iload_n 2 dX6_takeMean_40 rfl (pc2 := 41) rfl ?_
        refine kg_i2l dX6_takeMean_41 (pc2 := 42) rfl ?_
        obtain ⟨s7, s7e, h⟩ := kw_let_e h
        refine kg_putl clX6 rfl 3 (Nat.le_of_ble_eq_true rfl) lfRX6_128 rfl tX_6 eX_6 rfl (ty := .long) (by decide +kernel) rfl rfl s7e dX6_takeMean_42 (pc2 := 45) rfl ?_
        cases h
        exact kg_vret dX6_takeMean_45 rfl
set_option maxHeartbeats 4000000 in
set_option maxRecDepth 100000 in
theorem lX6_commonDivisor_15 {E : kw_E} {d : Nat} (σ : kw_M) (v4 : Int64) (v6 : Int64) (v8 : Int32) {v : Option Value} {σ2 : kw_M} {o : (Int64 × Int64 × Int32) ⊕ (Int64)} (h : bX6_commonDivisor_15 σ v4 v6 v8 = some o) (hk : Sum.elim (fun s => kw_G E kwTX 48 (d + 1) μX6_commonDivisor 15 [(4, .long s.1), (6, .long s.2.1), (8, .int s.2.2)] [] σ v σ2) (fun y => kw_G E kwTX 48 (d + 1) μX6_commonDivisor 51 [(4, .long y)] [] σ v σ2) o) : kw_G E kwTX 48 (d + 1) μX6_commonDivisor 15 [(4, .long v4), (6, .long v6), (8, .int v8)] [] σ v σ2 := by
  unfold bX6_commonDivisor_15 at h
  refine kg_iload 2 dX6_commonDivisor_15 rfl (pc2 := 17) rfl ?_
  refine kg_sipush dX6_commonDivisor_17 ks_200 (pc2 := 20) rfl ?_
  refine kg_icmp_ge 51 dX6_commonDivisor_20 rfl (pc2 := 23) rfl (fun q3 => ?_) (fun q3 => ?_)
  · replace h := (if_pos q3).symm.trans h
    refine kg_sub [0] (lv2 := [(4, .long v4)]) rfl ?_
    cases h
    exact hk
  · replace h := (if_neg q3).symm.trans h
    refine kg_lload 1 dX6_commonDivisor_23 rfl (pc2 := 25) rfl ?_
    refine kg_lconst dX6_commonDivisor_25 kl_0 (pc2 := 26) rfl ?_
    refine kg_lcmp_eq 51 dX6_commonDivisor_26 dX6_commonDivisor_27 rfl (pc2 := 30) rfl (fun q4 => ?_) (fun q4 => ?_)
    · replace h := (if_pos q4).symm.trans h
      refine kg_sub [0] (lv2 := [(4, .long v4)]) rfl ?_
      cases h
      exact hk
    · replace h := (if_neg q4).symm.trans h
      refine kg_lload 0 dX6_commonDivisor_30 rfl (pc2 := 32) rfl ?_
      refine kg_lload 1 dX6_commonDivisor_32 rfl (pc2 := 34) rfl ?_
      obtain ⟨q5, h⟩ := kw_chk_e h
      refine kg_lrem dX6_commonDivisor_34 q5 (pc2 := 35) rfl ?_
      obtain ⟨x6, x6e, h⟩ := kw_let_e h
      refine kg_lstore dX6_commonDivisor_35 (Nat.le_of_ble_eq_true rfl) x6e (lv2 := [(9, .long x6), (4, .long v4), (6, .long v6), (8, .int v8)]) rfl (pc2 := 37) rfl ?_
      refine kg_lload 2 dX6_commonDivisor_37 rfl (pc2 := 39) rfl ?_
      refine kg_lstore dX6_commonDivisor_39 (Nat.le_of_ble_eq_true rfl) rfl (lv2 := [(4, .long v6), (9, .long x6), (6, .long v6), (8, .int v8)]) rfl (pc2 := 41) rfl ?_
      refine kg_lload 1 dX6_commonDivisor_41 rfl (pc2 := 43) rfl ?_
      refine kg_lstore dX6_commonDivisor_43 (Nat.le_of_ble_eq_true rfl) rfl (lv2 := [(6, .long x6), (4, .long v6), (9, .long x6), (8, .int v8)]) rfl (pc2 := 45) rfl ?_
      obtain ⟨x7, x7e, h⟩ := kw_let_e h
      refine kg_iinc 3 dX6_commonDivisor_45 rfl (Nat.le_of_ble_eq_true rfl) x7e (lv2 := [(8, .int x7), (6, .long x6), (4, .long v6), (9, .long x6)]) rfl (pc2 := 48) rfl ?_
      refine kg_goto 15 dX6_commonDivisor_48 rfl ?_
      refine kg_sub [2, 1, 0] (lv2 := [(4, .long v6), (6, .long x6), (8, .int x7)]) rfl ?_
      cases h
      exact hk
set_option maxHeartbeats 4000000 in
set_option maxRecDepth 100000 in
theorem gjX6_commonDivisor_51 {E : kw_E} {d : Nat} (v4 : Int64) (σ : kw_M) {r : Int64} (h : jX6_commonDivisor_51 v4 σ = some r) : kw_G E kwTX 48 (d + 1) μX6_commonDivisor 51 [(4, .long v4)] [] σ (some (Value.long r)) σ := by
  unfold jX6_commonDivisor_51 at h
  refine kg_lconst dX6_commonDivisor_51 kl_1 (pc2 := 52) rfl ?_
  refine kg_lload 0 dX6_commonDivisor_52 rfl (pc2 := 54) rfl ?_
  obtain ⟨x9, x9e, h⟩ := kw_let_e h
  refine kg_mmax_long (μ := μX6_commonDivisor) (d := d) rfl rfl mmRX6_117 (Nat.le_of_ble_eq_true rfl) x9e dX6_commonDivisor_54 (pc2 := 57) rfl ?_
  cases h
  exact kg_lret dX6_commonDivisor_57 rfl
set_option maxHeartbeats 4000000 in
set_option maxRecDepth 100000 in
theorem gX6_commonDivisor {E : kw_E} {d : Nat} (a0 : Int64) (a1 : Int64) (σ : kw_M) {r : Int64} (h : fX6_commonDivisor a0 a1 σ = some r) : kw_Met E kwTX 48 (d + 1) μX6_commonDivisor [.long a0, .long a1] σ (some (Value.long r)) σ := by
  refine kw_enter plRX6 (Nat.le_of_ble_eq_true rfl) ?_
  show kw_G E kwTX 48 (d + 1) μX6_commonDivisor 0 [(0, .long a0), (2, .long a1)] [] σ (some (Value.long r)) σ
  unfold fX6_commonDivisor at h
  refine kg_lload_n 0 dX6_commonDivisor_0 rfl (pc2 := 1) rfl ?_
  obtain ⟨x1, x1e, h⟩ := kw_let_e h
  refine kg_mabs_long (μ := μX6_commonDivisor) (d := d) rfl rfl mmRX6_142 (Nat.le_of_ble_eq_true rfl) x1e dX6_commonDivisor_1 (pc2 := 4) rfl ?_
  refine kg_lstore dX6_commonDivisor_4 (Nat.le_of_ble_eq_true rfl) rfl (lv2 := [(4, .long x1), (0, .long a0), (2, .long a1)]) rfl (pc2 := 6) rfl ?_
  refine kg_lload_n 2 dX6_commonDivisor_6 rfl (pc2 := 7) rfl ?_
  obtain ⟨x2, x2e, h⟩ := kw_let_e h
  refine kg_mabs_long (μ := μX6_commonDivisor) (d := d) rfl rfl mmRX6_142 (Nat.le_of_ble_eq_true rfl) x2e dX6_commonDivisor_7 (pc2 := 10) rfl ?_
  refine kg_lstore dX6_commonDivisor_10 (Nat.le_of_ble_eq_true rfl) rfl (lv2 := [(6, .long x2), (4, .long x1), (0, .long a0), (2, .long a1)]) rfl (pc2 := 12) rfl ?_
  refine kg_iconst dX6_commonDivisor_12 ki_0 (pc2 := 13) rfl ?_
  refine kg_istore dX6_commonDivisor_13 (Nat.le_of_ble_eq_true rfl) rfl (lv2 := [(8, .int (0 : Int32)), (6, .long x2), (4, .long x1), (0, .long a0), (2, .long a1)]) rfl (pc2 := 15) rfl ?_
  refine kg_sub [2, 1, 0] (lv2 := [(4, .long x1), (6, .long x2), (8, .int (0 : Int32))]) rfl ?_
  obtain ⟨x8, x8h, h⟩ := kw_bind_e h
  refine kw_loop_e (P := fun s => kw_G E kwTX 48 (d + 1) μX6_commonDivisor 15 [(4, .long s.1), (6, .long s.2.1), (8, .int s.2.2)] [] σ (some (Value.long r)) σ) (K := fun y => kw_G E kwTX 48 (d + 1) μX6_commonDivisor 51 [(4, .long y)] [] σ (some (Value.long r)) σ) (fun s o h0 hk => lX6_commonDivisor_15 σ s.1 s.2.1 s.2.2 h0 hk) kw_F _ _ x8h ?_
  show kw_G E kwTX 48 (d + 1) μX6_commonDivisor 51 [(4, .long x8)] [] σ (some (Value.long r)) σ
  exact gjX6_commonDivisor_51 x8 σ h
set_option maxHeartbeats 4000000 in
set_option maxRecDepth 100000 in
theorem lX6_findLeastMean_26 {E : kw_E} {d : Nat} (v2 : Int32) (v3 : Int32) (σ : kw_M) {v : Option Value} {σ2 : kw_M} {o : (Int32 × kw_M) ⊕ (kw_M)} (h : bX6_findLeastMean_26 v2 v3 σ = some o) (hk : Sum.elim (fun s => kw_G E kwTX 48 (d + 3) μX6_findLeastMean 26 [(0, .ref 6), (1, .ref 12), (2, .int v2), (3, .int s.1)] [] s.2 v σ2) (fun y => kw_G E kwTX 48 (d + 3) μX6_findLeastMean 78 [(0, .ref 6), (1, .ref 12), (2, .int v2)] [] y v σ2) o) : kw_G E kwTX 48 (d + 3) μX6_findLeastMean 26 [(0, .ref 6), (1, .ref 12), (2, .int v2), (3, .int v3)] [] σ v σ2 := by
  unfold bX6_findLeastMean_26 at h
  refine kg_iload_n 3 dX6_findLeastMean_26 rfl (pc2 := 27) rfl ?_
  refine kg_aload_n 1 dX6_findLeastMean_27 rfl (pc2 := 28) rfl ?_
  refine kg_geti clX4 rfl 0 (Nat.le_of_ble_eq_true rfl) lfRX6_55 tX_12 eX_12 rfl dX6_findLeastMean_28 (pc2 := 31) rfl ?_
  refine kg_icmp_gt 78 dX6_findLeastMean_31 rfl (pc2 := 34) rfl (fun q4 => ?_) (fun q4 => ?_)
  · replace h := (if_pos q4).symm.trans h
    refine kg_sub [0, 1, 2] (lv2 := [(0, .ref 6), (1, .ref 12), (2, .int v2)]) rfl ?_
    cases h
    exact hk
  · replace h := (if_neg q4).symm.trans h
    refine kg_aload_n 0 dX6_findLeastMean_34 rfl (pc2 := 35) rfl ?_
    refine kg_getr clX6 rfl 5 (Nat.le_of_ble_eq_true rfl) lfRX6_22 tX_6 eX_6 rfl dX6_findLeastMean_35 (pc2 := 38) rfl ?_
    refine kg_ldc2 rfl lcRX6_115 dX6_findLeastMean_38 (pc2 := 41) rfl ?_
    obtain ⟨r5, r5h, h⟩ := kw_bind_e h
    refine kg_callS (μ := μX6_findLeastMean) (d := (d + 2)) rfl mSJ7_fill_d0a16 [.ref 44, .long (-9000000000000000000 : Int64)] [] (gXJ7_fill_d0a16 (E := E) (d := (d + 2)) 44 ⟨tX_44, eX_44⟩ (-9000000000000000000 : Int64) σ r5h) rfl lmRX6_45 rfl (Nat.le_of_ble_eq_true rfl) dX6_findLeastMean_41 rfl (st2 := []) rfl (pc2 := 44) rfl ?_
    refine kg_aload_n 1 dX6_findLeastMean_44 rfl (pc2 := 45) rfl ?_
    refine kg_aload_n 0 dX6_findLeastMean_45 rfl (pc2 := 46) rfl ?_
    refine kg_getr clX6 rfl 4 (Nat.le_of_ble_eq_true rfl) lfRX6_19 tX_6 eX_6 rfl dX6_findLeastMean_46 (pc2 := 49) rfl ?_
    refine kg_aload_n 0 dX6_findLeastMean_49 rfl (pc2 := 50) rfl ?_
    refine kg_getr clX6 rfl 5 (Nat.le_of_ble_eq_true rfl) lfRX6_22 tX_6 eX_6 rfl dX6_findLeastMean_50 (pc2 := 53) rfl ?_
    obtain ⟨r6, r6h, h⟩ := kw_bind_e h
    refine kg_callV (μ := μX6_findLeastMean) (d := (d + 2)) rfl mVX4_stepAll [.ref 43, .ref 44] [] (gX4_stepAll (E := E) (d := d) r5 r6h) rfl lmRX6_83 (ci := 4) rfl tX_12 eX_12 rfl (Nat.le_of_ble_eq_true rfl) dX6_findLeastMean_53 rfl (st2 := [.int r6.1]) rfl (pc2 := 56) rfl ?_
    refine kg_pop dX6_findLeastMean_56 rfl (pc2 := 57) rfl ?_
    refine kg_aload_n 0 dX6_findLeastMean_57 rfl (pc2 := 58) rfl ?_
    obtain ⟨r7, r7h, h⟩ := kw_bind_e h
    refine kg_callV (μ := μX6_findLeastMean) (d := (d + 2)) rfl mVX6_foundIsKnown [] [] (gX6_foundIsKnown (E := E) (d := (d + 1)) r6.2 r7h) rfl lmRX6_76 (ci := 6) rfl tX_6 eX_6 rfl (Nat.le_of_ble_eq_true rfl) dX6_findLeastMean_58 rfl (st2 := []) rfl (pc2 := 61) rfl ?_
    refine kg_aload_n 0 dX6_findLeastMean_61 rfl (pc2 := 62) rfl ?_
    refine kg_aload_n 0 dX6_findLeastMean_62 rfl (pc2 := 63) rfl ?_
    refine kg_getr clX6 rfl 4 (Nat.le_of_ble_eq_true rfl) lfRX6_19 tX_6 eX_6 rfl dX6_findLeastMean_63 (pc2 := 66) rfl ?_
    refine kg_iload_n 2 dX6_findLeastMean_66 rfl (pc2 := 67) rfl ?_
    obtain ⟨q8, h⟩ := kw_chk_e h
    refine kg_lald tX_43 eX_43 q8 (j := v2.toNatClampNeg) rfl dX6_findLeastMean_67 (pc2 := 68) rfl ?_
    refine kg_iload_n 3 dX6_findLeastMean_68 rfl (pc2 := 69) rfl ?_
    obtain ⟨r9, r9h, h⟩ := kw_bind_e h
    refine kg_callV (μ := μX6_findLeastMean) (d := (d + 2)) rfl mVX6_takeMean [.long (r7.2 43 v2.toNatClampNeg), .int v3] [] (gX6_takeMean (E := E) (d := (d + 2)) (r7.2 43 v2.toNatClampNeg) v3 r7 r9h) rfl lmRX6_132 (ci := 6) rfl tX_6 eX_6 rfl (Nat.le_of_ble_eq_true rfl) dX6_findLeastMean_69 rfl (st2 := []) rfl (pc2 := 72) rfl ?_
    obtain ⟨x10, x10e, h⟩ := kw_let_e h
    refine kg_iinc 3 dX6_findLeastMean_72 rfl (Nat.le_of_ble_eq_true rfl) x10e (lv2 := [(3, .int x10), (0, .ref 6), (1, .ref 12), (2, .int v2)]) rfl (pc2 := 75) rfl ?_
    refine kg_goto 26 dX6_findLeastMean_75 rfl ?_
    refine kg_sub [1, 2, 3, 0] (lv2 := [(0, .ref 6), (1, .ref 12), (2, .int v2), (3, .int x10)]) rfl ?_
    cases h
    exact hk
