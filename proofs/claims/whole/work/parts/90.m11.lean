/-! The reference, method by method: the machine does what f says (g). -/
set_option maxHeartbeats 4000000 in
set_option maxRecDepth 100000 in
theorem gjX10_shortcut_100_L57 {E : kw_E} {d : Nat} (v1 : Int32) (v2 : Int32) (v7 : Int32) (v3 : Int32) (v4 : Int32) (v5 : Int64) (v8 : Int32) (t0 : Int64) (σ : kw_M) {v : Option Value} {σ2 : kw_M} {o : (Int32 × Int32 × Int64 × Int32) ⊕ (Int32 × Int32 × Int64)} (h : jX10_shortcut_100_L57 v1 v2 v7 v3 v4 v5 v8 t0 σ = some o) (hk : Sum.elim (fun s => kw_G E kwTM 21 (d + 4) μX10_shortcut 57 [(0, .ref 0), (1, .int v1), (2, .int v2), (3, .int s.1), (4, .int s.2.1), (5, .long s.2.2.1), (7, .int v7), (8, .int s.2.2.2)] [] σ v σ2) (fun y => kw_G E kwTM 21 (d + 4) μX10_shortcut 130 [(0, .ref 0), (1, .int v1), (2, .int v2), (3, .int y.1), (4, .int y.2.1), (5, .long y.2.2), (7, .int v7)] [] σ v σ2) o) : kw_G E kwTM 21 (d + 4) μX10_shortcut 100 [(0, .ref 0), (1, .int v1), (2, .int v2), (3, .int v3), (4, .int v4), (5, .long v5), (7, .int v7), (8, .int v8)] [.long t0] σ v σ2 := by
  unfold jX10_shortcut_100_L57 at h
  refine kg_lstore dX10_shortcut_100 (Nat.le_of_ble_eq_true rfl) rfl (lv2 := [(9, .long t0), (0, .ref 0), (1, .int v1), (2, .int v2), (3, .int v3), (4, .int v4), (5, .long v5), (7, .int v7), (8, .int v8)]) rfl (pc2 := 102) rfl ?_
  refine kg_lload 0 dX10_shortcut_102 rfl (pc2 := 104) rfl ?_
  refine kg_lload 6 dX10_shortcut_104 rfl (pc2 := 106) rfl ?_
  refine kg_lcmp_gt 113 dX10_shortcut_106 dX10_shortcut_107 rfl (pc2 := 110) rfl (fun q15 => ?_) (fun q15 => ?_)
  · replace h := (if_pos q15).symm.trans h
    refine kg_iload 7 dX10_shortcut_113 rfl (pc2 := 115) rfl ?_
    refine kg_istore_n dX10_shortcut_115 rfl (Nat.le_of_ble_eq_true rfl) rfl (lv2 := [(3, .int v7), (9, .long t0), (0, .ref 0), (1, .int v1), (2, .int v2), (4, .int v4), (5, .long v5), (7, .int v7), (8, .int v8)]) rfl (pc2 := 116) rfl ?_
    refine kg_iload 8 dX10_shortcut_116 rfl (pc2 := 118) rfl ?_
    refine kg_istore dX10_shortcut_118 (Nat.le_of_ble_eq_true rfl) rfl (lv2 := [(4, .int v8), (3, .int v7), (9, .long t0), (0, .ref 0), (1, .int v1), (2, .int v2), (5, .long v5), (7, .int v7), (8, .int v8)]) rfl (pc2 := 120) rfl ?_
    refine kg_lload 2 dX10_shortcut_120 rfl (pc2 := 122) rfl ?_
    refine kg_lstore dX10_shortcut_122 (Nat.le_of_ble_eq_true rfl) rfl (lv2 := [(5, .long t0), (4, .int v8), (3, .int v7), (9, .long t0), (0, .ref 0), (1, .int v1), (2, .int v2), (7, .int v7), (8, .int v8)]) rfl (pc2 := 124) rfl ?_
    obtain ⟨x16, x16e, h⟩ := kw_let_e h
    refine kg_iinc 8 dX10_shortcut_124 rfl (Nat.le_of_ble_eq_true rfl) x16e (lv2 := [(8, .int x16), (5, .long t0), (4, .int v8), (3, .int v7), (9, .long t0), (0, .ref 0), (1, .int v1), (2, .int v2), (7, .int v7)]) rfl (pc2 := 127) rfl ?_
    refine kg_goto 57 dX10_shortcut_127 rfl ?_
    refine kg_sub [5, 6, 7, 3, 2, 1, 8, 0] (lv2 := [(0, .ref 0), (1, .int v1), (2, .int v2), (3, .int v7), (4, .int v8), (5, .long t0), (7, .int v7), (8, .int x16)]) rfl ?_
    cases h
    exact hk
  · replace h := (if_neg q15).symm.trans h
    refine kg_goto 124 dX10_shortcut_110 rfl ?_
    obtain ⟨x17, x17e, h⟩ := kw_let_e h
    refine kg_iinc 8 dX10_shortcut_124 rfl (Nat.le_of_ble_eq_true rfl) x17e (lv2 := [(8, .int x17), (9, .long t0), (0, .ref 0), (1, .int v1), (2, .int v2), (3, .int v3), (4, .int v4), (5, .long v5), (7, .int v7)]) rfl (pc2 := 127) rfl ?_
    refine kg_goto 57 dX10_shortcut_127 rfl ?_
    refine kg_sub [2, 3, 4, 5, 6, 7, 8, 0] (lv2 := [(0, .ref 0), (1, .int v1), (2, .int v2), (3, .int v3), (4, .int v4), (5, .long v5), (7, .int v7), (8, .int x17)]) rfl ?_
    cases h
    exact hk
set_option maxHeartbeats 4000000 in
set_option maxRecDepth 100000 in
theorem lX10_shortcut_57 {E : kw_E} {d : Nat} (v1 : Int32) (v2 : Int32) (v7 : Int32) (σ : kw_M) (v3 : Int32) (v4 : Int32) (v5 : Int64) (v8 : Int32) {v : Option Value} {σ2 : kw_M} {o : (Int32 × Int32 × Int64 × Int32) ⊕ (Int32 × Int32 × Int64)} (h : bX10_shortcut_57 v1 v2 v7 σ v3 v4 v5 v8 = some o) (hk : Sum.elim (fun s => kw_G E kwTM 21 (d + 4) μX10_shortcut 57 [(0, .ref 0), (1, .int v1), (2, .int v2), (3, .int s.1), (4, .int s.2.1), (5, .long s.2.2.1), (7, .int v7), (8, .int s.2.2.2)] [] σ v σ2) (fun y => kw_G E kwTM 21 (d + 4) μX10_shortcut 130 [(0, .ref 0), (1, .int v1), (2, .int v2), (3, .int y.1), (4, .int y.2.1), (5, .long y.2.2), (7, .int v7)] [] σ v σ2) o) : kw_G E kwTM 21 (d + 4) μX10_shortcut 57 [(0, .ref 0), (1, .int v1), (2, .int v2), (3, .int v3), (4, .int v4), (5, .long v5), (7, .int v7), (8, .int v8)] [] σ v σ2 := by
  unfold bX10_shortcut_57 at h
  refine kg_iload 7 dX10_shortcut_57 rfl (pc2 := 59) rfl ?_
  refine kg_aload_n 0 dX10_shortcut_59 rfl (pc2 := 60) rfl ?_
  obtain ⟨r9, r9h, h⟩ := kw_bind_e h
  refine kg_callV (μ := μX10_shortcut) (d := (d + 3)) rfl mVX10_towns [] [.int v8] (gX10_towns (E := E) (d := (d + 3)) σ r9h) rfl lmRX10_77 (ci := 10) rfl tM_0 eM_0 rfl (Nat.le_of_ble_eq_true rfl) dX10_shortcut_60 rfl (st2 := [.int r9, .int v8]) rfl (pc2 := 63) rfl ?_
  refine kg_icmp_ge 130 dX10_shortcut_63 rfl (pc2 := 66) rfl (fun q10 => ?_) (fun q10 => ?_)
  · replace h := (if_pos q10).symm.trans h
    refine kg_sub [0, 1, 2, 3, 4, 5, 6] (lv2 := [(0, .ref 0), (1, .int v1), (2, .int v2), (3, .int v3), (4, .int v4), (5, .long v5), (7, .int v7)]) rfl ?_
    cases h
    exact hk
  · replace h := (if_neg q10).symm.trans h
    refine kg_aload_n 0 dX10_shortcut_66 rfl (pc2 := 67) rfl ?_
    refine kg_getr clX10 rfl 3 (Nat.le_of_ble_eq_true rfl) lfRX10_17 tM_0 eM_0 rfl dX10_shortcut_67 (pc2 := 70) rfl ?_
    refine kg_iload 6 dX10_shortcut_70 rfl (pc2 := 72) rfl ?_
    obtain ⟨q11, h⟩ := kw_chk_e h
    refine kg_lald tM_3 eM_3 q11 (j := v7.toNatClampNeg) rfl dX10_shortcut_72 (pc2 := 73) rfl ?_
    refine kg_ldc2 rfl lcRX10_89 dX10_shortcut_73 (pc2 := 76) rfl ?_
    refine kg_lcmp_ge 130 dX10_shortcut_76 dX10_shortcut_77 rfl (pc2 := 80) rfl (fun q12 => ?_) (fun q12 => ?_)
    · replace h := (if_pos q12).symm.trans h
      refine kg_sub [0, 1, 2, 3, 4, 5, 6] (lv2 := [(0, .ref 0), (1, .int v1), (2, .int v2), (3, .int v3), (4, .int v4), (5, .long v5), (7, .int v7)]) rfl ?_
      cases h
      exact hk
    · replace h := (if_neg q12).symm.trans h
      refine kg_iload 6 dX10_shortcut_80 rfl (pc2 := 82) rfl ?_
      refine kg_iload 7 dX10_shortcut_82 rfl (pc2 := 84) rfl ?_
      refine kg_icmp_ne 91 dX10_shortcut_84 rfl (pc2 := 87) rfl (fun q13 => ?_) (fun q13 => ?_)
      · replace h := (if_neg q13).symm.trans h
        refine kg_aload_n 0 dX10_shortcut_91 rfl (pc2 := 92) rfl ?_
        refine kg_iload 6 dX10_shortcut_92 rfl (pc2 := 94) rfl ?_
        refine kg_iload 7 dX10_shortcut_94 rfl (pc2 := 96) rfl ?_
        refine kg_iload_n 1 dX10_shortcut_96 rfl (pc2 := 97) rfl ?_
        obtain ⟨r14, r14h, h⟩ := kw_bind_e h
        refine kg_callV (μ := μX10_shortcut) (d := (d + 3)) rfl mVX10_savedBy [.int v7, .int v8, .int v1] [] (gX10_savedBy (E := E) (d := (d + 2)) v7 v8 v1 σ r14h) rfl lmRX10_428 (ci := 10) rfl tM_0 eM_0 rfl (Nat.le_of_ble_eq_true rfl) dX10_shortcut_97 rfl (st2 := [.long r14]) rfl (pc2 := 100) rfl ?_
        exact gjX10_shortcut_100_L57 v1 v2 v7 v3 v4 v5 v8 r14 σ h hk
      · replace h := (if_pos q13).symm.trans h
        refine kg_lconst dX10_shortcut_87 kl_0 (pc2 := 88) rfl ?_
        refine kg_goto 100 dX10_shortcut_88 rfl ?_
        exact gjX10_shortcut_100_L57 v1 v2 v7 v3 v4 v5 v8 (0 : Int64) σ h hk
set_option maxHeartbeats 4000000 in
set_option maxRecDepth 100000 in
theorem lX10_shortcut_45 {E : kw_E} {d : Nat} (v1 : Int32) (v2 : Int32) (σ : kw_M) (v3 : Int32) (v4 : Int32) (v5 : Int64) (v7 : Int32) {v : Option Value} {σ2 : kw_M} {o : (Int32 × Int32 × Int64 × Int32) ⊕ (Int32 × Int32 × Int64)} (h : bX10_shortcut_45 v1 v2 σ v3 v4 v5 v7 = some o) (hk : Sum.elim (fun s => kw_G E kwTM 21 (d + 4) μX10_shortcut 45 [(0, .ref 0), (1, .int v1), (2, .int v2), (3, .int s.1), (4, .int s.2.1), (5, .long s.2.2.1), (7, .int s.2.2.2)] [] σ v σ2) (fun y => kw_G E kwTM 21 (d + 4) μX10_shortcut 136 [(2, .int v2), (3, .int y.1), (4, .int y.2.1), (5, .long y.2.2)] [] σ v σ2) o) : kw_G E kwTM 21 (d + 4) μX10_shortcut 45 [(0, .ref 0), (1, .int v1), (2, .int v2), (3, .int v3), (4, .int v4), (5, .long v5), (7, .int v7)] [] σ v σ2 := by
  unfold bX10_shortcut_45 at h
  refine kg_iload 6 dX10_shortcut_45 rfl (pc2 := 47) rfl ?_
  refine kg_aload_n 0 dX10_shortcut_47 rfl (pc2 := 48) rfl ?_
  obtain ⟨r7, r7h, h⟩ := kw_bind_e h
  refine kg_callV (μ := μX10_shortcut) (d := (d + 3)) rfl mVX10_towns [] [.int v7] (gX10_towns (E := E) (d := (d + 3)) σ r7h) rfl lmRX10_77 (ci := 10) rfl tM_0 eM_0 rfl (Nat.le_of_ble_eq_true rfl) dX10_shortcut_48 rfl (st2 := [.int r7, .int v7]) rfl (pc2 := 51) rfl ?_
  refine kg_icmp_ge 136 dX10_shortcut_51 rfl (pc2 := 54) rfl (fun q8 => ?_) (fun q8 => ?_)
  · replace h := (if_pos q8).symm.trans h
    refine kg_sub [2, 3, 4, 5] (lv2 := [(2, .int v2), (3, .int v3), (4, .int v4), (5, .long v5)]) rfl ?_
    cases h
    exact hk
  · replace h := (if_neg q8).symm.trans h
    refine kg_iconst dX10_shortcut_54 ki_0 (pc2 := 55) rfl ?_
    refine kg_istore dX10_shortcut_55 (Nat.le_of_ble_eq_true rfl) rfl (lv2 := [(8, .int (0 : Int32)), (0, .ref 0), (1, .int v1), (2, .int v2), (3, .int v3), (4, .int v4), (5, .long v5), (7, .int v7)]) rfl (pc2 := 57) rfl ?_
    refine kg_sub [1, 2, 3, 4, 5, 6, 7, 0] (lv2 := [(0, .ref 0), (1, .int v1), (2, .int v2), (3, .int v3), (4, .int v4), (5, .long v5), (7, .int v7), (8, .int (0 : Int32))]) rfl ?_
    obtain ⟨x18, x18h, h⟩ := kw_bind_e h
    refine kw_loop_e (P := fun s => kw_G E kwTM 21 (d + 4) μX10_shortcut 57 [(0, .ref 0), (1, .int v1), (2, .int v2), (3, .int s.1), (4, .int s.2.1), (5, .long s.2.2.1), (7, .int v7), (8, .int s.2.2.2)] [] σ v σ2) (K := fun y => kw_G E kwTM 21 (d + 4) μX10_shortcut 130 [(0, .ref 0), (1, .int v1), (2, .int v2), (3, .int y.1), (4, .int y.2.1), (5, .long y.2.2), (7, .int v7)] [] σ v σ2) (fun s o h0 hk => lX10_shortcut_57 v1 v2 v7 σ s.1 s.2.1 s.2.2.1 s.2.2.2 h0 hk) kw_F _ _ x18h ?_
    show kw_G E kwTM 21 (d + 4) μX10_shortcut 130 [(0, .ref 0), (1, .int v1), (2, .int v2), (3, .int x18.1), (4, .int x18.2.1), (5, .long x18.2.2), (7, .int v7)] [] σ v σ2
    obtain ⟨x19, x19e, h⟩ := kw_let_e h
    refine kg_iinc 6 dX10_shortcut_130 rfl (Nat.le_of_ble_eq_true rfl) x19e (lv2 := [(7, .int x19), (0, .ref 0), (1, .int v1), (2, .int v2), (3, .int x18.1), (4, .int x18.2.1), (5, .long x18.2.2)]) rfl (pc2 := 133) rfl ?_
    refine kg_goto 45 dX10_shortcut_133 rfl ?_
    refine kg_sub [1, 2, 3, 4, 5, 6, 0] (lv2 := [(0, .ref 0), (1, .int v1), (2, .int v2), (3, .int x18.1), (4, .int x18.2.1), (5, .long x18.2.2), (7, .int x19)]) rfl ?_
    cases h
    exact hk
set_option maxHeartbeats 4000000 in
set_option maxRecDepth 100000 in
theorem gX10_shortcut {E : kw_E} {d : Nat} (a1 : Int32) (a2 : Int32) (σ : kw_M) {r : Int64 × kw_M} (h : fX10_shortcut a1 a2 σ = some r) : kw_Met E kwTM 21 (d + 4) μX10_shortcut [.ref 0, .int a1, .int a2] σ (some (Value.long r.1)) r.2 := by
  refine kw_enter plRX10 (Nat.le_of_ble_eq_true rfl) ?_
  show kw_G E kwTM 21 (d + 4) μX10_shortcut 0 [(0, .ref 0), (1, .int a1), (2, .int a2)] [] σ (some (Value.long r.1)) r.2
  unfold fX10_shortcut at h
  refine kg_iload_n 1 dX10_shortcut_0 rfl (pc2 := 1) rfl ?_
  refine kg_i2l dX10_shortcut_1 (pc2 := 2) rfl ?_
  obtain ⟨r1, r1h, h⟩ := kw_bind_e h
  refine kg_callS (μ := μX10_shortcut) (d := (d + 3)) rfl mSX10_isLength [.long a1.toInt64] [] (gX10_isLength (E := E) (d := (d + 2)) a1.toInt64 σ r1h) rfl lmRX10_124 rfl (Nat.le_of_ble_eq_true rfl) dX10_shortcut_2 rfl (st2 := [.int r1]) rfl (pc2 := 5) rfl ?_
  refine kg_if_eq 20 dX10_shortcut_5 rfl (pc2 := 8) rfl (fun q2 => ?_) (fun q2 => ?_)
  · replace h := (if_pos q2).symm.trans h
    refine kg_ldc2 rfl lcRX10_99 dX10_shortcut_20 (pc2 := 23) rfl ?_
    cases h
    exact kg_lret dX10_shortcut_23 rfl
  · replace h := (if_neg q2).symm.trans h
    refine kg_iload_n 2 dX10_shortcut_8 rfl (pc2 := 9) rfl ?_
    refine kg_i2l dX10_shortcut_9 (pc2 := 10) rfl ?_
    refine kg_lconst dX10_shortcut_10 kl_0 (pc2 := 11) rfl ?_
    refine kg_ldc2 rfl lcRX10_220 dX10_shortcut_11 (pc2 := 14) rfl ?_
    obtain ⟨r3, r3h, h⟩ := kw_bind_e h
    refine kg_callS (μ := μX10_shortcut) (d := (d + 3)) rfl mSX10_in [.long a2.toInt64, .long (0 : Int64), .long (2 : Int64)] [] (gX10_in (E := E) (d := (d + 3)) a2.toInt64 (0 : Int64) (2 : Int64) σ r3h) rfl lmRX10_81 rfl (Nat.le_of_ble_eq_true rfl) dX10_shortcut_14 rfl (st2 := [.int r3]) rfl (pc2 := 17) rfl ?_
    refine kg_if_ne 24 dX10_shortcut_17 rfl (pc2 := 20) rfl (fun q4 => ?_) (fun q4 => ?_)
    · replace h := (if_neg q4).symm.trans h
      refine kg_aload_n 0 dX10_shortcut_24 rfl (pc2 := 25) rfl ?_
      obtain ⟨r5, r5h, h⟩ := kw_bind_e h
      refine kg_callV (μ := μX10_shortcut) (d := (d + 3)) rfl mVX10_settles [] [] (gX10_settles (E := E) (d := d) σ r5h) rfl lmRX10_104 (ci := 10) rfl tM_0 eM_0 rfl (Nat.le_of_ble_eq_true rfl) dX10_shortcut_25 rfl (st2 := []) rfl (pc2 := 28) rfl ?_
      refine kg_aload_n 0 dX10_shortcut_28 rfl (pc2 := 29) rfl ?_
      obtain ⟨r6, r6h, h⟩ := kw_bind_e h
      refine kg_callV (μ := μX10_shortcut) (d := (d + 3)) rfl mVX10_findsPairs [] [] (gX10_findsPairs (E := E) (d := d) r5 r6h) rfl lmRX10_324 (ci := 10) rfl tM_0 eM_0 rfl (Nat.le_of_ble_eq_true rfl) dX10_shortcut_29 rfl (st2 := []) rfl (pc2 := 32) rfl ?_
      refine kg_bipush dX10_shortcut_32 kb_m2 (pc2 := 34) rfl ?_
      refine kg_istore_n dX10_shortcut_34 rfl (Nat.le_of_ble_eq_true rfl) rfl (lv2 := [(3, .int (-2 : Int32)), (0, .ref 0), (1, .int a1), (2, .int a2)]) rfl (pc2 := 35) rfl ?_
      refine kg_bipush dX10_shortcut_35 kb_m2 (pc2 := 37) rfl ?_
      refine kg_istore dX10_shortcut_37 (Nat.le_of_ble_eq_true rfl) rfl (lv2 := [(4, .int (-2 : Int32)), (3, .int (-2 : Int32)), (0, .ref 0), (1, .int a1), (2, .int a2)]) rfl (pc2 := 39) rfl ?_
      refine kg_lconst dX10_shortcut_39 kl_0 (pc2 := 40) rfl ?_
      refine kg_lstore dX10_shortcut_40 (Nat.le_of_ble_eq_true rfl) rfl (lv2 := [(5, .long (0 : Int64)), (4, .int (-2 : Int32)), (3, .int (-2 : Int32)), (0, .ref 0), (1, .int a1), (2, .int a2)]) rfl (pc2 := 42) rfl ?_
      refine kg_iconst dX10_shortcut_42 ki_0 (pc2 := 43) rfl ?_
      refine kg_istore dX10_shortcut_43 (Nat.le_of_ble_eq_true rfl) rfl (lv2 := [(7, .int (0 : Int32)), (5, .long (0 : Int64)), (4, .int (-2 : Int32)), (3, .int (-2 : Int32)), (0, .ref 0), (1, .int a1), (2, .int a2)]) rfl (pc2 := 45) rfl ?_
      refine kg_sub [4, 5, 6, 3, 2, 1, 0] (lv2 := [(0, .ref 0), (1, .int a1), (2, .int a2), (3, .int (-2 : Int32)), (4, .int (-2 : Int32)), (5, .long (0 : Int64)), (7, .int (0 : Int32))]) rfl ?_
      obtain ⟨x20, x20h, h⟩ := kw_bind_e h
      refine kw_loop_e (P := fun s => kw_G E kwTM 21 (d + 4) μX10_shortcut 45 [(0, .ref 0), (1, .int a1), (2, .int a2), (3, .int s.1), (4, .int s.2.1), (5, .long s.2.2.1), (7, .int s.2.2.2)] [] r6 (some (Value.long r.1)) r.2) (K := fun y => kw_G E kwTM 21 (d + 4) μX10_shortcut 136 [(2, .int a2), (3, .int y.1), (4, .int y.2.1), (5, .long y.2.2)] [] r6 (some (Value.long r.1)) r.2) (fun s o h0 hk => lX10_shortcut_45 a1 a2 r6 s.1 s.2.1 s.2.2.1 s.2.2.2 h0 hk) kw_F _ _ x20h ?_
      show kw_G E kwTM 21 (d + 4) μX10_shortcut 136 [(2, .int a2), (3, .int x20.1), (4, .int x20.2.1), (5, .long x20.2.2)] [] r6 (some (Value.long r.1)) r.2
      refine kg_iload_n 0 dX10_shortcut_136 rfl (pc2 := 137) rfl ?_
      refine kg_if_ne 145 dX10_shortcut_137 rfl (pc2 := 140) rfl (fun q21 => ?_) (fun q21 => ?_)
      · replace h := (if_neg q21).symm.trans h
        refine kg_iload_n 0 dX10_shortcut_145 rfl (pc2 := 146) rfl ?_
        refine kg_iconst dX10_shortcut_146 ki_1 (pc2 := 147) rfl ?_
        refine kg_icmp_ne 156 dX10_shortcut_147 rfl (pc2 := 150) rfl (fun q22 => ?_) (fun q22 => ?_)
        · replace h := (if_neg q22).symm.trans h
          refine kg_iload_n 1 dX10_shortcut_156 rfl (pc2 := 157) rfl ?_
          refine kg_if_ge 166 dX10_shortcut_157 rfl (pc2 := 160) rfl (fun q23 => ?_) (fun q23 => ?_)
          · replace h := (if_pos q23).symm.trans h
            refine kg_lload 3 dX10_shortcut_166 rfl (pc2 := 168) rfl ?_
            cases h
            exact kg_lret dX10_shortcut_168 rfl
          · replace h := (if_neg q23).symm.trans h
            refine kg_ldc2 rfl lcRX10_340 dX10_shortcut_160 (pc2 := 163) rfl ?_
            refine kg_goto 168 dX10_shortcut_163 rfl ?_
            cases h
            exact kg_lret dX10_shortcut_168 rfl
        · replace h := (if_pos q22).symm.trans h
          refine kg_iload 2 dX10_shortcut_150 rfl (pc2 := 152) rfl ?_
          refine kg_i2l dX10_shortcut_152 (pc2 := 153) rfl ?_
          refine kg_goto 168 dX10_shortcut_153 rfl ?_
          cases h
          exact kg_lret dX10_shortcut_168 rfl
      · replace h := (if_pos q21).symm.trans h
        refine kg_iload_n 1 dX10_shortcut_140 rfl (pc2 := 141) rfl ?_
        refine kg_i2l dX10_shortcut_141 (pc2 := 142) rfl ?_
        refine kg_goto 168 dX10_shortcut_142 rfl ?_
        cases h
        exact kg_lret dX10_shortcut_168 rfl
    · replace h := (if_pos q4).symm.trans h
      refine kg_ldc2 rfl lcRX10_99 dX10_shortcut_20 (pc2 := 23) rfl ?_
      cases h
      exact kg_lret dX10_shortcut_23 rfl
set_option maxHeartbeats 4000000 in
set_option maxRecDepth 100000 in
theorem gX10_event {E : kw_E} {d : Nat} (a1 : Int32) (a2 : Int32) (σ : kw_M) {r : Int64} (h : fX10_event a1 a2 σ = some r) : kw_Met E kwTM 21 (d + 1) μX10_event [.ref 0, .int a1, .int a2] σ (some (Value.long r)) σ := by
  refine kw_enter plRX10 (Nat.le_of_ble_eq_true rfl) ?_
  show kw_G E kwTM 21 (d + 1) μX10_event 0 [(0, .ref 0), (1, .int a1), (2, .int a2)] [] σ (some (Value.long r)) σ
  unfold fX10_event at h
  refine kg_iload_n 1 dX10_event_0 rfl (pc2 := 1) rfl ?_
  refine kg_i2l dX10_event_1 (pc2 := 2) rfl ?_
  refine kg_lconst dX10_event_2 kl_0 (pc2 := 3) rfl ?_
  refine kg_aload_n 0 dX10_event_3 rfl (pc2 := 4) rfl ?_
  refine kg_getr clX10 rfl 0 (Nat.le_of_ble_eq_true rfl) lfRX10_7 tM_0 eM_0 rfl dX10_event_4 (pc2 := 7) rfl ?_
  refine kg_iconst dX10_event_7 ki_4 (pc2 := 8) rfl ?_
  refine kg_iald tM_1 eM_1 (show kw_in (4 : Int32) 2832 by decide) (j := 4) (by decide) dX10_event_8 (pc2 := 9) rfl ?_
  refine kg_iconst dX10_event_9 ki_1 (pc2 := 10) rfl ?_
  refine kg_isub dX10_event_10 (pc2 := 11) rfl ?_
  refine kg_i2l dX10_event_11 (pc2 := 12) rfl ?_
  obtain ⟨r1, r1h, h⟩ := kw_bind_e h
  refine kg_callS (μ := μX10_event) (d := d) rfl mSX10_in [.long a1.toInt64, .long (0 : Int64), .long (((σ.1 1 4) - (1 : Int32)).toInt64)] [] (gX10_in (E := E) (d := d) a1.toInt64 (0 : Int64) (((σ.1 1 4) - (1 : Int32)).toInt64) σ r1h) rfl lmRX10_81 rfl (Nat.le_of_ble_eq_true rfl) dX10_event_12 rfl (st2 := [.int r1]) rfl (pc2 := 15) rfl ?_
  refine kg_if_eq 30 dX10_event_15 rfl (pc2 := 18) rfl (fun q2 => ?_) (fun q2 => ?_)
  · replace h := (if_pos q2).symm.trans h
    refine kg_ldc2 rfl lcRX10_99 dX10_event_30 (pc2 := 33) rfl ?_
    cases h
    exact kg_lret dX10_event_33 rfl
  · replace h := (if_neg q2).symm.trans h
    refine kg_iload_n 2 dX10_event_18 rfl (pc2 := 19) rfl ?_
    refine kg_i2l dX10_event_19 (pc2 := 20) rfl ?_
    refine kg_lconst dX10_event_20 kl_0 (pc2 := 21) rfl ?_
    refine kg_ldc2 rfl lcRX10_389 dX10_event_21 (pc2 := 24) rfl ?_
    obtain ⟨r3, r3h, h⟩ := kw_bind_e h
    refine kg_callS (μ := μX10_event) (d := d) rfl mSX10_in [.long a2.toInt64, .long (0 : Int64), .long (3 : Int64)] [] (gX10_in (E := E) (d := d) a2.toInt64 (0 : Int64) (3 : Int64) σ r3h) rfl lmRX10_81 rfl (Nat.le_of_ble_eq_true rfl) dX10_event_24 rfl (st2 := [.int r3]) rfl (pc2 := 27) rfl ?_
    refine kg_if_ne 34 dX10_event_27 rfl (pc2 := 30) rfl (fun q4 => ?_) (fun q4 => ?_)
    · replace h := (if_neg q4).symm.trans h
      refine kg_sipush dX10_event_34 ks_208 (pc2 := 37) rfl ?_
      refine kg_iconst dX10_event_37 ki_5 (pc2 := 38) rfl ?_
      refine kg_iload_n 1 dX10_event_38 rfl (pc2 := 39) rfl ?_
      refine kg_imul dX10_event_39 (pc2 := 40) rfl ?_
      refine kg_iadd dX10_event_40 (pc2 := 41) rfl ?_
      obtain ⟨x5, x5e, h⟩ := kw_let_e h
      refine kg_istore_n dX10_event_41 rfl (Nat.le_of_ble_eq_true rfl) x5e (lv2 := [(3, .int x5), (0, .ref 0), (1, .int a1), (2, .int a2)]) rfl (pc2 := 42) rfl ?_
      refine kg_iload_n 3 dX10_event_42 rfl (pc2 := 43) rfl ?_
      refine kg_iconst dX10_event_43 ki_3 (pc2 := 44) rfl ?_
      refine kg_icmp_ne 64 dX10_event_44 rfl (pc2 := 47) rfl (fun q6 => ?_) (fun q6 => ?_)
      · replace h := (if_neg q6).symm.trans h
        refine kg_aload_n 1 dX10_event_64 rfl (pc2 := 65) rfl ?_
        refine kg_getr clX10 rfl 0 (Nat.le_of_ble_eq_true rfl) lfRX10_7 tM_0 eM_0 rfl dX10_event_65 (pc2 := 68) rfl ?_
        refine kg_iload_n 0 dX10_event_68 rfl (pc2 := 69) rfl ?_
        refine kg_iload_n 3 dX10_event_69 rfl (pc2 := 70) rfl ?_
        refine kg_iadd dX10_event_70 (pc2 := 71) rfl ?_
        obtain ⟨q7, h⟩ := kw_chk_e h
        refine kg_iald tM_1 eM_1 q7 (j := (x5 + a2).toNatClampNeg) rfl dX10_event_71 (pc2 := 72) rfl ?_
        refine kg_i2l dX10_event_72 (pc2 := 73) rfl ?_
        cases h
        exact kg_lret dX10_event_73 rfl
      · replace h := (if_pos q6).symm.trans h
        refine kg_aload_n 1 dX10_event_47 rfl (pc2 := 48) rfl ?_
        refine kg_getr clX10 rfl 0 (Nat.le_of_ble_eq_true rfl) lfRX10_7 tM_0 eM_0 rfl dX10_event_48 (pc2 := 51) rfl ?_
        refine kg_iload_n 0 dX10_event_51 rfl (pc2 := 52) rfl ?_
        refine kg_iconst dX10_event_52 ki_4 (pc2 := 53) rfl ?_
        refine kg_iadd dX10_event_53 (pc2 := 54) rfl ?_
        obtain ⟨q8, h⟩ := kw_chk_e h
        refine kg_iald tM_1 eM_1 q8 (j := (x5 + (4 : Int32)).toNatClampNeg) rfl dX10_event_54 (pc2 := 55) rfl ?_
        refine kg_if_ne 64 dX10_event_55 rfl (pc2 := 58) rfl (fun q9 => ?_) (fun q9 => ?_)
        · replace h := (if_neg q9).symm.trans h
          refine kg_aload_n 1 dX10_event_64 rfl (pc2 := 65) rfl ?_
          refine kg_getr clX10 rfl 0 (Nat.le_of_ble_eq_true rfl) lfRX10_7 tM_0 eM_0 rfl dX10_event_65 (pc2 := 68) rfl ?_
          refine kg_iload_n 0 dX10_event_68 rfl (pc2 := 69) rfl ?_
          refine kg_iload_n 3 dX10_event_69 rfl (pc2 := 70) rfl ?_
          refine kg_iadd dX10_event_70 (pc2 := 71) rfl ?_
          obtain ⟨q10, h⟩ := kw_chk_e h
          refine kg_iald tM_1 eM_1 q10 (j := (x5 + a2).toNatClampNeg) rfl dX10_event_71 (pc2 := 72) rfl ?_
          refine kg_i2l dX10_event_72 (pc2 := 73) rfl ?_
          cases h
          exact kg_lret dX10_event_73 rfl
        · replace h := (if_pos q9).symm.trans h
          refine kg_ldc2 rfl lcRX10_99 dX10_event_58 (pc2 := 61) rfl ?_
          refine kg_goto 73 dX10_event_61 rfl ?_
          cases h
          exact kg_lret dX10_event_73 rfl
    · replace h := (if_pos q4).symm.trans h
      refine kg_ldc2 rfl lcRX10_99 dX10_event_30 (pc2 := 33) rfl ?_
      cases h
      exact kg_lret dX10_event_33 rfl
set_option maxHeartbeats 4000000 in
set_option maxRecDepth 100000 in
theorem gX10_ifLength {E : kw_E} {d : Nat} (a1 : Int32) (a2 : Int32) (σ : kw_M) {r : Int32 × kw_M} (h : fX10_ifLength a1 a2 σ = some r) : kw_Met E kwTM 21 (d + 6) μX10_ifLength [.ref 0, .int a1, .int a2] σ (some (Value.int r.1)) r.2 := by
  refine kw_enter plRX10 (Nat.le_of_ble_eq_true rfl) ?_
  show kw_G E kwTM 21 (d + 6) μX10_ifLength 0 [(0, .ref 0), (1, .int a1), (2, .int a2)] [] σ (some (Value.int r.1)) r.2
  unfold fX10_ifLength at h
  refine kg_aload_n 0 dX10_ifLength_0 rfl (pc2 := 1) rfl ?_
  refine kg_iload_n 1 dX10_ifLength_1 rfl (pc2 := 2) rfl ?_
  obtain ⟨r1, r1h, h⟩ := kw_bind_e h
  refine kg_callV (μ := μX10_ifLength) (d := (d + 5)) rfl mVX10_isRoad [.int a1] [] (gX10_isRoad (E := E) (d := (d + 4)) a1 σ r1h) rfl lmRX10_146 (ci := 10) rfl tM_0 eM_0 rfl (Nat.le_of_ble_eq_true rfl) dX10_ifLength_2 rfl (st2 := [.int r1]) rfl (pc2 := 5) rfl ?_
  refine kg_if_eq 16 dX10_ifLength_5 rfl (pc2 := 8) rfl (fun q2 => ?_) (fun q2 => ?_)
  · replace h := (if_pos q2).symm.trans h
    refine kg_iconst dX10_ifLength_16 ki_m1 (pc2 := 17) rfl ?_
    cases h
    exact kg_iret (ty := .int) dX10_ifLength_17 rfl rfl
  · replace h := (if_neg q2).symm.trans h
    refine kg_iload_n 2 dX10_ifLength_8 rfl (pc2 := 9) rfl ?_
    refine kg_i2l dX10_ifLength_9 (pc2 := 10) rfl ?_
    obtain ⟨r3, r3h, h⟩ := kw_bind_e h
    refine kg_callS (μ := μX10_ifLength) (d := (d + 5)) rfl mSX10_isLength [.long a2.toInt64] [] (gX10_isLength (E := E) (d := (d + 4)) a2.toInt64 σ r3h) rfl lmRX10_124 rfl (Nat.le_of_ble_eq_true rfl) dX10_ifLength_10 rfl (st2 := [.int r3]) rfl (pc2 := 13) rfl ?_
    refine kg_if_ne 18 dX10_ifLength_13 rfl (pc2 := 16) rfl (fun q4 => ?_) (fun q4 => ?_)
    · replace h := (if_neg q4).symm.trans h
      refine kg_aload_n 0 dX10_ifLength_18 rfl (pc2 := 19) rfl ?_
      refine kg_iload_n 1 dX10_ifLength_19 rfl (pc2 := 20) rfl ?_
      obtain ⟨r5, r5h, h⟩ := kw_bind_e h
      refine kg_callV (μ := μX10_ifLength) (d := (d + 5)) rfl mVX10_isOpen [.int a1] [] (gX10_isOpen (E := E) (d := (d + 4)) a1 σ r5h) rfl lmRX10_91 (ci := 10) rfl tM_0 eM_0 rfl (Nat.le_of_ble_eq_true rfl) dX10_ifLength_20 rfl (st2 := [.int r5]) rfl (pc2 := 23) rfl ?_
      refine kg_if_ne 29 dX10_ifLength_23 rfl (pc2 := 26) rfl (fun q6 => ?_) (fun q6 => ?_)
      · replace h := (if_neg q6).symm.trans h
        refine kg_aload_n 0 dX10_ifLength_29 rfl (pc2 := 30) rfl ?_
        refine kg_iconst dX10_ifLength_30 ki_0 (pc2 := 31) rfl ?_
        refine kg_iconst dX10_ifLength_31 ki_3 (pc2 := 32) rfl ?_
        obtain ⟨r7, r7h, h⟩ := kw_bind_e h
        refine kg_callV (μ := μX10_ifLength) (d := (d + 5)) rfl mVX10_copies [.int (0 : Int32), .int (3 : Int32)] [] (gX10_copies (E := E) (d := (d + 5)) (0 : Int32) (3 : Int32) σ r7h) rfl lmRX10_107 (ci := 10) rfl tM_0 eM_0 rfl (Nat.le_of_ble_eq_true rfl) dX10_ifLength_32 rfl (st2 := []) rfl (pc2 := 35) rfl ?_
        refine kg_aload_n 0 dX10_ifLength_35 rfl (pc2 := 36) rfl ?_
        refine kg_iload_n 1 dX10_ifLength_36 rfl (pc2 := 37) rfl ?_
        refine kg_iload_n 2 dX10_ifLength_37 rfl (pc2 := 38) rfl ?_
        obtain ⟨r8, r8h, h⟩ := kw_bind_e h
        refine kg_callV (μ := μX10_ifLength) (d := (d + 5)) rfl mVX10_length [.int a1, .int a2] [] (gX10_length (E := E) (d := d) a1 a2 r7 r8h) rfl lmRX10_277 (ci := 10) rfl tM_0 eM_0 rfl (Nat.le_of_ble_eq_true rfl) dX10_ifLength_38 rfl (st2 := [.int r8.1]) rfl (pc2 := 41) rfl ?_
        refine kg_istore_n dX10_ifLength_41 rfl (Nat.le_of_ble_eq_true rfl) rfl (lv2 := [(3, .int r8.1), (0, .ref 0), (1, .int a1), (2, .int a2)]) rfl (pc2 := 42) rfl ?_
        refine kg_aload_n 1 dX10_ifLength_42 rfl (pc2 := 43) rfl ?_
        refine kg_iconst dX10_ifLength_43 ki_3 (pc2 := 44) rfl ?_
        refine kg_iconst dX10_ifLength_44 ki_0 (pc2 := 45) rfl ?_
        obtain ⟨r9, r9h, h⟩ := kw_bind_e h
        refine kg_callV (μ := μX10_ifLength) (d := (d + 5)) rfl mVX10_copies [.int (3 : Int32), .int (0 : Int32)] [] (gX10_copies (E := E) (d := (d + 5)) (3 : Int32) (0 : Int32) r8.2 r9h) rfl lmRX10_107 (ci := 10) rfl tM_0 eM_0 rfl (Nat.le_of_ble_eq_true rfl) dX10_ifLength_45 rfl (st2 := []) rfl (pc2 := 48) rfl ?_
        refine kg_iload_n 0 dX10_ifLength_48 rfl (pc2 := 49) rfl ?_
        cases h
        exact kg_iret (ty := .int) dX10_ifLength_49 rfl rfl
      · replace h := (if_pos q6).symm.trans h
        refine kg_bipush dX10_ifLength_26 kb_m6 (pc2 := 28) rfl ?_
        cases h
        exact kg_iret (ty := .int) dX10_ifLength_28 rfl rfl
    · replace h := (if_pos q4).symm.trans h
      refine kg_iconst dX10_ifLength_16 ki_m1 (pc2 := 17) rfl ?_
      cases h
      exact kg_iret (ty := .int) dX10_ifLength_17 rfl rfl
set_option maxHeartbeats 4000000 in
set_option maxRecDepth 100000 in
theorem gX10_nextLot {E : kw_E} {d : Nat} (σ : kw_M) {r : Int32 × kw_M} (h : fX10_nextLot σ = some r) : kw_Met E kwTM 21 d μX10_nextLot [.ref 0] σ (some (Value.int r.1)) r.2 := by
  refine kw_enter plRX10 (Nat.le_of_ble_eq_true rfl) ?_
  show kw_G E kwTM 21 d μX10_nextLot 0 [(0, .ref 0)] [] σ (some (Value.int r.1)) r.2
  unfold fX10_nextLot at h
  refine kg_aload_n 0 dX10_nextLot_0 rfl (pc2 := 1) rfl ?_
  refine kg_getr clX10 rfl 0 (Nat.le_of_ble_eq_true rfl) lfRX10_7 tM_0 eM_0 rfl dX10_nextLot_1 (pc2 := 4) rfl ?_
  refine kg_iconst dX10_nextLot_4 ki_5 (pc2 := 5) rfl ?_
  refine kg_sipush dX10_nextLot_5 ks_25173 (pc2 := 8) rfl ?_
  refine kg_aload_n 0 dX10_nextLot_8 rfl (pc2 := 9) rfl ?_
  refine kg_getr clX10 rfl 0 (Nat.le_of_ble_eq_true rfl) lfRX10_7 tM_0 eM_0 rfl dX10_nextLot_9 (pc2 := 12) rfl ?_
  refine kg_iconst dX10_nextLot_12 ki_5 (pc2 := 13) rfl ?_
  refine kg_iald tM_1 eM_1 (show kw_in (5 : Int32) 2832 by decide) (j := 5) (by decide) dX10_nextLot_13 (pc2 := 14) rfl ?_
  refine kg_imul dX10_nextLot_14 (pc2 := 15) rfl ?_
  refine kg_sipush dX10_nextLot_15 ks_13849 (pc2 := 18) rfl ?_
  refine kg_iadd dX10_nextLot_18 (pc2 := 19) rfl ?_
  refine kg_ldcw rfl lcRX10_432 dX10_nextLot_19 (pc2 := 22) rfl ?_
  refine kg_irem dX10_nextLot_22 (by decide) (pc2 := 23) rfl ?_
  obtain ⟨s1, s1e, h⟩ := kw_let_e h
  refine kg_iast tM_1 eM_1 (show kw_in (5 : Int32) 2832 by decide) (j := 5) (by decide) s1e dX10_nextLot_23 (pc2 := 24) rfl ?_
  refine kg_aload_n 0 dX10_nextLot_24 rfl (pc2 := 25) rfl ?_
  refine kg_getr clX10 rfl 0 (Nat.le_of_ble_eq_true rfl) lfRX10_7 tM_0 eM_0 rfl dX10_nextLot_25 (pc2 := 28) rfl ?_
  refine kg_iconst dX10_nextLot_28 ki_5 (pc2 := 29) rfl ?_
  refine kg_iald tM_1 eM_1 (show kw_in (5 : Int32) 2832 by decide) (j := 5) (by decide) dX10_nextLot_29 (pc2 := 30) rfl ?_
  cases h
  exact kg_iret (ty := .int) dX10_nextLot_30 rfl rfl
set_option maxHeartbeats 4000000 in
set_option maxRecDepth 100000 in
theorem gX10_draws {E : kw_E} {d : Nat} (σ : kw_M) {r : Int32 × kw_M} (h : fX10_draws σ = some r) : kw_Met E kwTM 21 (d + 6) μX10_draws [.ref 0] σ (some (Value.int r.1)) r.2 := by
  refine kw_enter plRX10 (Nat.le_of_ble_eq_true rfl) ?_
  show kw_G E kwTM 21 (d + 6) μX10_draws 0 [(0, .ref 0)] [] σ (some (Value.int r.1)) r.2
  unfold fX10_draws at h
  refine kg_aload_n 0 dX10_draws_0 rfl (pc2 := 1) rfl ?_
  obtain ⟨r1, r1h, h⟩ := kw_bind_e h
  refine kg_callV (μ := μX10_draws) (d := (d + 5)) rfl mVX10_nextLot [] [] (gX10_nextLot (E := E) (d := (d + 5)) σ r1h) rfl lmRX10_433 (ci := 10) rfl tM_0 eM_0 rfl (Nat.le_of_ble_eq_true rfl) dX10_draws_1 rfl (st2 := [.int r1.1]) rfl (pc2 := 4) rfl ?_
  refine kg_aload_n 0 dX10_draws_4 rfl (pc2 := 5) rfl ?_
  refine kg_getr clX10 rfl 0 (Nat.le_of_ble_eq_true rfl) lfRX10_7 tM_0 eM_0 rfl dX10_draws_5 (pc2 := 8) rfl ?_
  refine kg_iconst dX10_draws_8 ki_1 (pc2 := 9) rfl ?_
  refine kg_iald tM_1 eM_1 (show kw_in (1 : Int32) 2832 by decide) (j := 1) (by decide) dX10_draws_9 (pc2 := 10) rfl ?_
  obtain ⟨q2, h⟩ := kw_chk_e h
  refine kg_irem dX10_draws_10 q2 (pc2 := 11) rfl ?_
  obtain ⟨x3, x3e, h⟩ := kw_let_e h
  refine kg_istore_n dX10_draws_11 rfl (Nat.le_of_ble_eq_true rfl) x3e (lv2 := [(1, .int x3), (0, .ref 0)]) rfl (pc2 := 12) rfl ?_
  refine kg_aload_n 1 dX10_draws_12 rfl (pc2 := 13) rfl ?_
  obtain ⟨r4, r4h, h⟩ := kw_bind_e h
  refine kg_callV (μ := μX10_draws) (d := (d + 5)) rfl mVX10_nextLot [] [] (gX10_nextLot (E := E) (d := (d + 5)) r1.2 r4h) rfl lmRX10_433 (ci := 10) rfl tM_0 eM_0 rfl (Nat.le_of_ble_eq_true rfl) dX10_draws_13 rfl (st2 := [.int r4.1]) rfl (pc2 := 16) rfl ?_
  refine kg_istore_n dX10_draws_16 rfl (Nat.le_of_ble_eq_true rfl) rfl (lv2 := [(2, .int r4.1), (1, .int x3), (0, .ref 0)]) rfl (pc2 := 17) rfl ?_
  refine kg_iload_n 0 dX10_draws_17 rfl (pc2 := 18) rfl ?_
  refine kg_bipush dX10_draws_18 kb_8 (pc2 := 20) rfl ?_
  refine kg_irem dX10_draws_20 (by decide) (pc2 := 21) rfl ?_
  refine kg_if_ne 38 dX10_draws_21 rfl (pc2 := 24) rfl (fun q5 => ?_) (fun q5 => ?_)
  · replace h := (if_neg q5).symm.trans h
    refine kg_aload_n 2 dX10_draws_38 rfl (pc2 := 39) rfl ?_
    refine kg_iload_n 1 dX10_draws_39 rfl (pc2 := 40) rfl ?_
    refine kg_bipush dX10_draws_40 kb_m100 (pc2 := 42) rfl ?_
    refine kg_sipush dX10_draws_42 ks_10000 (pc2 := 45) rfl ?_
    refine kg_aload_n 2 dX10_draws_45 rfl (pc2 := 46) rfl ?_
    refine kg_iload_n 1 dX10_draws_46 rfl (pc2 := 47) rfl ?_
    refine kg_iconst dX10_draws_47 ki_2 (pc2 := 48) rfl ?_
    obtain ⟨r6, r6h, h⟩ := kw_bind_e h
    refine kg_callV (μ := μX10_draws) (d := (d + 5)) rfl mVX10_of [.int x3, .int (2 : Int32)] [.int (10000 : Int32), .int (-100 : Int32), .int x3, .ref 0] (gX10_of (E := E) (d := (d + 5)) x3 (2 : Int32) r4.2 r6h) rfl lmRX10_73 (ci := 10) rfl tM_0 eM_0 rfl (Nat.le_of_ble_eq_true rfl) dX10_draws_48 rfl (st2 := [.int r6, .int (10000 : Int32), .int (-100 : Int32), .int x3, .ref 0]) rfl (pc2 := 51) rfl ?_
    refine kg_iload_n 0 dX10_draws_51 rfl (pc2 := 52) rfl ?_
    refine kg_bipush dX10_draws_52 kb_41 (pc2 := 54) rfl ?_
    refine kg_irem dX10_draws_54 (by decide) (pc2 := 55) rfl ?_
    refine kg_iadd dX10_draws_55 (pc2 := 56) rfl ?_
    refine kg_bipush dX10_draws_56 kb_10 (pc2 := 58) rfl ?_
    refine kg_isub dX10_draws_58 (pc2 := 59) rfl ?_
    obtain ⟨r7, r7h, h⟩ := kw_bind_e h
    refine kg_callS (μ := μX10_draws) (d := (d + 5)) rfl mSX10_min [.int (10000 : Int32), .int ((r6 + (r4.1 - r4.1 / (41 : Int32) * (41 : Int32))) - (10 : Int32))] [.int (-100 : Int32), .int x3, .ref 0] (gX10_min (E := E) (d := (d + 5)) (10000 : Int32) ((r6 + (r4.1 - r4.1 / (41 : Int32) * (41 : Int32))) - (10 : Int32)) r4.2 r7h) rfl lmRX10_436 rfl (Nat.le_of_ble_eq_true rfl) dX10_draws_59 rfl (st2 := [.int r7, .int (-100 : Int32), .int x3, .ref 0]) rfl (pc2 := 62) rfl ?_
    obtain ⟨r8, r8h, h⟩ := kw_bind_e h
    refine kg_callS (μ := μX10_draws) (d := (d + 5)) rfl mSX10_max [.int (-100 : Int32), .int r7] [.int x3, .ref 0] (gX10_max (E := E) (d := (d + 5)) (-100 : Int32) r7 r4.2 r8h) rfl lmRX10_439 rfl (Nat.le_of_ble_eq_true rfl) dX10_draws_62 rfl (st2 := [.int r8, .int x3, .ref 0]) rfl (pc2 := 65) rfl ?_
    obtain ⟨r9, r9h, h⟩ := kw_bind_e h
    refine kg_callV (μ := μX10_draws) (d := (d + 5)) rfl mVX10_length [.int x3, .int r8] [] (gX10_length (E := E) (d := d) x3 r8 r4.2 r9h) rfl lmRX10_277 (ci := 10) rfl tM_0 eM_0 rfl (Nat.le_of_ble_eq_true rfl) dX10_draws_65 rfl (st2 := [.int r9.1]) rfl (pc2 := 68) rfl ?_
    cases h
    exact kg_iret (ty := .int) dX10_draws_68 rfl rfl
  · replace h := (if_pos q5).symm.trans h
    refine kg_aload_n 2 dX10_draws_24 rfl (pc2 := 25) rfl ?_
    refine kg_iload_n 1 dX10_draws_25 rfl (pc2 := 26) rfl ?_
    refine kg_iconst dX10_draws_26 ki_1 (pc2 := 27) rfl ?_
    refine kg_aload_n 2 dX10_draws_27 rfl (pc2 := 28) rfl ?_
    refine kg_iload_n 1 dX10_draws_28 rfl (pc2 := 29) rfl ?_
    refine kg_iconst dX10_draws_29 ki_3 (pc2 := 30) rfl ?_
    obtain ⟨r10, r10h, h⟩ := kw_bind_e h
    refine kg_callV (μ := μX10_draws) (d := (d + 5)) rfl mVX10_of [.int x3, .int (3 : Int32)] [.int (1 : Int32), .int x3, .ref 0] (gX10_of (E := E) (d := (d + 5)) x3 (3 : Int32) r4.2 r10h) rfl lmRX10_73 (ci := 10) rfl tM_0 eM_0 rfl (Nat.le_of_ble_eq_true rfl) dX10_draws_30 rfl (st2 := [.int r10, .int (1 : Int32), .int x3, .ref 0]) rfl (pc2 := 33) rfl ?_
    refine kg_isub dX10_draws_33 (pc2 := 34) rfl ?_
    obtain ⟨r11, r11h, h⟩ := kw_bind_e h
    refine kg_callV (μ := μX10_draws) (d := (d + 5)) rfl mVX10_turns [.int x3, .int ((1 : Int32) - r10)] [] (gX10_turns (E := E) (d := d) x3 ((1 : Int32) - r10) r4.2 r11h) rfl lmRX10_149 (ci := 10) rfl tM_0 eM_0 rfl (Nat.le_of_ble_eq_true rfl) dX10_draws_34 rfl (st2 := [.int r11.1]) rfl (pc2 := 37) rfl ?_
    cases h
    exact kg_iret (ty := .int) dX10_draws_37 rfl rfl
set_option maxHeartbeats 4000000 in
set_option maxRecDepth 100000 in
theorem lX10_drawn_44 {E : kw_E} {d : Nat} (v1 : Int32) (v2 : Int32) (v3 : Int32) (v4 : Int32) (σ : kw_M) {v : Option Value} {σ2 : kw_M} {o : (Int32 × Int32 × kw_M) ⊕ (kw_M)} (h : bX10_drawn_44 v1 v2 v3 v4 σ = some o) (hk : Sum.elim (fun s => kw_G E kwTM 21 (d + 7) μX10_drawn 44 [(0, .ref 0), (1, .int v1), (2, .int v2), (3, .int s.1), (4, .int s.2.1)] [] s.2.2 v σ2) (fun y => kw_G E kwTM 21 (d + 7) μX10_drawn 67 [(0, .ref 0), (2, .int v2)] [] y v σ2) o) : kw_G E kwTM 21 (d + 7) μX10_drawn 44 [(0, .ref 0), (1, .int v1), (2, .int v2), (3, .int v3), (4, .int v4)] [] σ v σ2 := by
  unfold bX10_drawn_44 at h
  refine kg_iload 4 dX10_drawn_44 rfl (pc2 := 46) rfl ?_
  refine kg_iload_n 1 dX10_drawn_46 rfl (pc2 := 47) rfl ?_
  refine kg_icmp_ge 67 dX10_drawn_47 rfl (pc2 := 50) rfl (fun q7 => ?_) (fun q7 => ?_)
  · replace h := (if_pos q7).symm.trans h
    refine kg_sub [0, 2] (lv2 := [(0, .ref 0), (2, .int v2)]) rfl ?_
    cases h
    exact hk
  · replace h := (if_neg q7).symm.trans h
    refine kg_aload_n 0 dX10_drawn_50 rfl (pc2 := 51) rfl ?_
    obtain ⟨r8, r8h, h⟩ := kw_bind_e h
    refine kg_callV (μ := μX10_drawn) (d := (d + 6)) rfl mVX10_draws [] [] (gX10_draws (E := E) (d := d) σ r8h) rfl lmRX10_444 (ci := 10) rfl tM_0 eM_0 rfl (Nat.le_of_ble_eq_true rfl) dX10_drawn_51 rfl (st2 := [.int r8.1]) rfl (pc2 := 54) rfl ?_
    refine kg_if_lt 61 dX10_drawn_54 rfl (pc2 := 57) rfl (fun q9 => ?_) (fun q9 => ?_)
    · replace h := (if_pos q9).symm.trans h
      obtain ⟨x10, x10e, h⟩ := kw_let_e h
      refine kg_iinc 4 dX10_drawn_61 rfl (Nat.le_of_ble_eq_true rfl) x10e (lv2 := [(4, .int x10), (0, .ref 0), (1, .int v1), (2, .int v2), (3, .int v3)]) rfl (pc2 := 64) rfl ?_
      refine kg_goto 44 dX10_drawn_64 rfl ?_
      refine kg_sub [1, 2, 3, 4, 0] (lv2 := [(0, .ref 0), (1, .int v1), (2, .int v2), (3, .int v3), (4, .int x10)]) rfl ?_
      cases h
      exact hk
    · replace h := (if_neg q9).symm.trans h
      refine kg_iload_n 3 dX10_drawn_57 rfl (pc2 := 58) rfl ?_
      refine kg_iconst dX10_drawn_58 ki_1 (pc2 := 59) rfl ?_
      refine kg_iadd dX10_drawn_59 (pc2 := 60) rfl ?_
      obtain ⟨x11, x11e, h⟩ := kw_let_e h
      refine kg_istore_n dX10_drawn_60 rfl (Nat.le_of_ble_eq_true rfl) x11e (lv2 := [(3, .int x11), (0, .ref 0), (1, .int v1), (2, .int v2), (4, .int v4)]) rfl (pc2 := 61) rfl ?_
      obtain ⟨x12, x12e, h⟩ := kw_let_e h
      refine kg_iinc 4 dX10_drawn_61 rfl (Nat.le_of_ble_eq_true rfl) x12e (lv2 := [(4, .int x12), (3, .int x11), (0, .ref 0), (1, .int v1), (2, .int v2)]) rfl (pc2 := 64) rfl ?_
      refine kg_goto 44 dX10_drawn_64 rfl ?_
      refine kg_sub [2, 3, 4, 1, 0] (lv2 := [(0, .ref 0), (1, .int v1), (2, .int v2), (3, .int x11), (4, .int x12)]) rfl ?_
      cases h
      exact hk
set_option maxHeartbeats 4000000 in
set_option maxRecDepth 100000 in
theorem gX10_drawn {E : kw_E} {d : Nat} (a1 : Int32) (a2 : Int32) (σ : kw_M) {r : Int64 × kw_M} (h : fX10_drawn a1 a2 σ = some r) : kw_Met E kwTM 21 (d + 7) μX10_drawn [.ref 0, .int a1, .int a2] σ (some (Value.long r.1)) r.2 := by
  refine kw_enter plRX10 (Nat.le_of_ble_eq_true rfl) ?_
  show kw_G E kwTM 21 (d + 7) μX10_drawn 0 [(0, .ref 0), (1, .int a1), (2, .int a2)] [] σ (some (Value.long r.1)) r.2
  unfold fX10_drawn at h
  refine kg_iload_n 1 dX10_drawn_0 rfl (pc2 := 1) rfl ?_
  refine kg_i2l dX10_drawn_1 (pc2 := 2) rfl ?_
  refine kg_lconst dX10_drawn_2 kl_1 (pc2 := 3) rfl ?_
  refine kg_ldc2 rfl lcRX10_442 dX10_drawn_3 (pc2 := 6) rfl ?_
  obtain ⟨r1, r1h, h⟩ := kw_bind_e h
  refine kg_callS (μ := μX10_drawn) (d := (d + 6)) rfl mSX10_in [.long a1.toInt64, .long (1 : Int64), .long (60 : Int64)] [] (gX10_in (E := E) (d := (d + 6)) a1.toInt64 (1 : Int64) (60 : Int64) σ r1h) rfl lmRX10_81 rfl (Nat.le_of_ble_eq_true rfl) dX10_drawn_6 rfl (st2 := [.int r1]) rfl (pc2 := 9) rfl ?_
  refine kg_if_eq 29 dX10_drawn_9 rfl (pc2 := 12) rfl (fun q2 => ?_) (fun q2 => ?_)
  · replace h := (if_pos q2).symm.trans h
    refine kg_ldc2 rfl lcRX10_99 dX10_drawn_29 (pc2 := 32) rfl ?_
    cases h
    exact kg_lret dX10_drawn_32 rfl
  · replace h := (if_neg q2).symm.trans h
    refine kg_aload_n 0 dX10_drawn_12 rfl (pc2 := 13) rfl ?_
    refine kg_iload_n 2 dX10_drawn_13 rfl (pc2 := 14) rfl ?_
    obtain ⟨r3, r3h, h⟩ := kw_bind_e h
    refine kg_callV (μ := μX10_drawn) (d := (d + 6)) rfl mVX10_isTown [.int a2] [] (gX10_isTown (E := E) (d := (d + 5)) a2 σ r3h) rfl lmRX10_121 (ci := 10) rfl tM_0 eM_0 rfl (Nat.le_of_ble_eq_true rfl) dX10_drawn_14 rfl (st2 := [.int r3]) rfl (pc2 := 17) rfl ?_
    refine kg_if_eq 29 dX10_drawn_17 rfl (pc2 := 20) rfl (fun q4 => ?_) (fun q4 => ?_)
    · replace h := (if_pos q4).symm.trans h
      refine kg_ldc2 rfl lcRX10_99 dX10_drawn_29 (pc2 := 32) rfl ?_
      cases h
      exact kg_lret dX10_drawn_32 rfl
    · replace h := (if_neg q4).symm.trans h
      refine kg_aload_n 0 dX10_drawn_20 rfl (pc2 := 21) rfl ?_
      refine kg_getr clX10 rfl 0 (Nat.le_of_ble_eq_true rfl) lfRX10_7 tM_0 eM_0 rfl dX10_drawn_21 (pc2 := 24) rfl ?_
      refine kg_iconst dX10_drawn_24 ki_1 (pc2 := 25) rfl ?_
      refine kg_iald tM_1 eM_1 (show kw_in (1 : Int32) 2832 by decide) (j := 1) (by decide) dX10_drawn_25 (pc2 := 26) rfl ?_
      refine kg_if_ne 33 dX10_drawn_26 rfl (pc2 := 29) rfl (fun q5 => ?_) (fun q5 => ?_)
      · replace h := (if_neg q5).symm.trans h
        refine kg_aload_n 0 dX10_drawn_33 rfl (pc2 := 34) rfl ?_
        refine kg_iconst dX10_drawn_34 ki_0 (pc2 := 35) rfl ?_
        refine kg_iconst dX10_drawn_35 ki_3 (pc2 := 36) rfl ?_
        obtain ⟨r6, r6h, h⟩ := kw_bind_e h
        refine kg_callV (μ := μX10_drawn) (d := (d + 6)) rfl mVX10_copies [.int (0 : Int32), .int (3 : Int32)] [] (gX10_copies (E := E) (d := (d + 6)) (0 : Int32) (3 : Int32) σ r6h) rfl lmRX10_107 (ci := 10) rfl tM_0 eM_0 rfl (Nat.le_of_ble_eq_true rfl) dX10_drawn_36 rfl (st2 := []) rfl (pc2 := 39) rfl ?_
        refine kg_iconst dX10_drawn_39 ki_0 (pc2 := 40) rfl ?_
        refine kg_istore_n dX10_drawn_40 rfl (Nat.le_of_ble_eq_true rfl) rfl (lv2 := [(3, .int (0 : Int32)), (0, .ref 0), (1, .int a1), (2, .int a2)]) rfl (pc2 := 41) rfl ?_
        refine kg_iconst dX10_drawn_41 ki_0 (pc2 := 42) rfl ?_
        refine kg_istore dX10_drawn_42 (Nat.le_of_ble_eq_true rfl) rfl (lv2 := [(4, .int (0 : Int32)), (3, .int (0 : Int32)), (0, .ref 0), (1, .int a1), (2, .int a2)]) rfl (pc2 := 44) rfl ?_
        refine kg_sub [2, 3, 4, 1, 0] (lv2 := [(0, .ref 0), (1, .int a1), (2, .int a2), (3, .int (0 : Int32)), (4, .int (0 : Int32))]) rfl ?_
        obtain ⟨x13, x13h, h⟩ := kw_bind_e h
        refine kw_loop_e (P := fun s => kw_G E kwTM 21 (d + 7) μX10_drawn 44 [(0, .ref 0), (1, .int a1), (2, .int a2), (3, .int s.1), (4, .int s.2.1)] [] s.2.2 (some (Value.long r.1)) r.2) (K := fun y => kw_G E kwTM 21 (d + 7) μX10_drawn 67 [(0, .ref 0), (2, .int a2)] [] y (some (Value.long r.1)) r.2) (fun s o h0 hk => lX10_drawn_44 a1 a2 s.1 s.2.1 s.2.2 h0 hk) kw_F _ _ x13h ?_
        show kw_G E kwTM 21 (d + 7) μX10_drawn 67 [(0, .ref 0), (2, .int a2)] [] x13 (some (Value.long r.1)) r.2
        refine kg_aload_n 0 dX10_drawn_67 rfl (pc2 := 68) rfl ?_
        obtain ⟨r14, r14h, h⟩ := kw_bind_e h
        refine kg_callV (μ := μX10_drawn) (d := (d + 6)) rfl mVX10_settles [] [] (gX10_settles (E := E) (d := (d + 3)) x13 r14h) rfl lmRX10_104 (ci := 10) rfl tM_0 eM_0 rfl (Nat.le_of_ble_eq_true rfl) dX10_drawn_68 rfl (st2 := []) rfl (pc2 := 71) rfl ?_
        refine kg_aload_n 0 dX10_drawn_71 rfl (pc2 := 72) rfl ?_
        refine kg_iconst dX10_drawn_72 ki_3 (pc2 := 73) rfl ?_
        refine kg_iconst dX10_drawn_73 ki_0 (pc2 := 74) rfl ?_
        obtain ⟨r15, r15h, h⟩ := kw_bind_e h
        refine kg_callV (μ := μX10_drawn) (d := (d + 6)) rfl mVX10_copies [.int (3 : Int32), .int (0 : Int32)] [] (gX10_copies (E := E) (d := (d + 6)) (3 : Int32) (0 : Int32) r14 r15h) rfl lmRX10_107 (ci := 10) rfl tM_0 eM_0 rfl (Nat.le_of_ble_eq_true rfl) dX10_drawn_74 rfl (st2 := []) rfl (pc2 := 77) rfl ?_
        refine kg_aload_n 0 dX10_drawn_77 rfl (pc2 := 78) rfl ?_
        refine kg_getr clX10 rfl 3 (Nat.le_of_ble_eq_true rfl) lfRX10_17 tM_0 eM_0 rfl dX10_drawn_78 (pc2 := 81) rfl ?_
        refine kg_iload_n 1 dX10_drawn_81 rfl (pc2 := 82) rfl ?_
        obtain ⟨q16, h⟩ := kw_chk_e h
        refine kg_lald tM_3 eM_3 q16 (j := a2.toNatClampNeg) rfl dX10_drawn_82 (pc2 := 83) rfl ?_
        obtain ⟨r17, r17h, h⟩ := kw_bind_e h
        refine kg_callS (μ := μX10_drawn) (d := (d + 6)) rfl mSX10_told [.long (r15.2 3 a2.toNatClampNeg)] [] (gX10_told (E := E) (d := (d + 6)) (r15.2 3 a2.toNatClampNeg) r15 r17h) rfl lmRX10_336 rfl (Nat.le_of_ble_eq_true rfl) dX10_drawn_83 rfl (st2 := [.long r17]) rfl (pc2 := 86) rfl ?_
        cases h
        exact kg_lret dX10_drawn_86 rfl
      · replace h := (if_pos q5).symm.trans h
        refine kg_ldc2 rfl lcRX10_99 dX10_drawn_29 (pc2 := 32) rfl ?_
        cases h
        exact kg_lret dX10_drawn_32 rfl
set_option maxHeartbeats 4000000 in
set_option maxRecDepth 100000 in
theorem gX10_seed {E : kw_E} {d : Nat} (a1 : Int32) (σ : kw_M) {r : Int32 × kw_M} (h : fX10_seed a1 σ = some r) : kw_Met E kwTM 21 (d + 1) μX10_seed [.ref 0, .int a1] σ (some (Value.int r.1)) r.2 := by
  refine kw_enter plRX10 (Nat.le_of_ble_eq_true rfl) ?_
  show kw_G E kwTM 21 (d + 1) μX10_seed 0 [(0, .ref 0), (1, .int a1)] [] σ (some (Value.int r.1)) r.2
  unfold fX10_seed at h
  refine kg_iload_n 1 dX10_seed_0 rfl (pc2 := 1) rfl ?_
  refine kg_i2l dX10_seed_1 (pc2 := 2) rfl ?_
  refine kg_lconst dX10_seed_2 kl_0 (pc2 := 3) rfl ?_
  refine kg_ldc2 rfl lcRX10_447 dX10_seed_3 (pc2 := 6) rfl ?_
  obtain ⟨r1, r1h, h⟩ := kw_bind_e h
  refine kg_callS (μ := μX10_seed) (d := d) rfl mSX10_in [.long a1.toInt64, .long (0 : Int64), .long (65535 : Int64)] [] (gX10_in (E := E) (d := d) a1.toInt64 (0 : Int64) (65535 : Int64) σ r1h) rfl lmRX10_81 rfl (Nat.le_of_ble_eq_true rfl) dX10_seed_6 rfl (st2 := [.int r1]) rfl (pc2 := 9) rfl ?_
  refine kg_if_ne 14 dX10_seed_9 rfl (pc2 := 12) rfl (fun q2 => ?_) (fun q2 => ?_)
  · replace h := (if_neg q2).symm.trans h
    refine kg_aload_n 0 dX10_seed_14 rfl (pc2 := 15) rfl ?_
    refine kg_getr clX10 rfl 0 (Nat.le_of_ble_eq_true rfl) lfRX10_7 tM_0 eM_0 rfl dX10_seed_15 (pc2 := 18) rfl ?_
    refine kg_iconst dX10_seed_18 ki_5 (pc2 := 19) rfl ?_
    refine kg_iload_n 1 dX10_seed_19 rfl (pc2 := 20) rfl ?_
    obtain ⟨s3, s3e, h⟩ := kw_let_e h
    refine kg_iast tM_1 eM_1 (show kw_in (5 : Int32) 2832 by decide) (j := 5) (by decide) s3e dX10_seed_20 (pc2 := 21) rfl ?_
    refine kg_iconst dX10_seed_21 ki_1 (pc2 := 22) rfl ?_
    cases h
    exact kg_iret (ty := .boolean) dX10_seed_22 rfl rfl
  · replace h := (if_pos q2).symm.trans h
    refine kg_iconst dX10_seed_12 ki_0 (pc2 := 13) rfl ?_
    cases h
    exact kg_iret (ty := .boolean) dX10_seed_13 rfl rfl
set_option maxHeartbeats 4000000 in
set_option maxRecDepth 100000 in
theorem gX10_keep {E : kw_E} {d : Nat} (σ : kw_M) {r : Int32 × kw_M} (h : fX10_keep σ = some r) : kw_Met E kwTM 21 (d + 1) μX10_keep [.ref 0] σ (some (Value.int r.1)) r.2 := by
  refine kw_enter plRX10 (Nat.le_of_ble_eq_true rfl) ?_
  show kw_G E kwTM 21 (d + 1) μX10_keep 0 [(0, .ref 0)] [] σ (some (Value.int r.1)) r.2
  unfold fX10_keep at h
  refine kg_aload_n 0 dX10_keep_0 rfl (pc2 := 1) rfl ?_
  refine kg_iconst dX10_keep_1 ki_1 (pc2 := 2) rfl ?_
  obtain ⟨s1, s1e, h⟩ := kw_let_e h
  refine kg_puti clX10 rfl 1 (Nat.le_of_ble_eq_true rfl) lfRX10_270 rfl tM_0 eM_0 rfl (ty := .boolean) (by decide +kernel) rfl rfl s1e dX10_keep_2 (pc2 := 5) rfl ?_
  refine kg_aload_n 0 dX10_keep_5 rfl (pc2 := 6) rfl ?_
  refine kg_iconst dX10_keep_6 ki_0 (pc2 := 7) rfl ?_
  refine kg_iconst dX10_keep_7 ki_1 (pc2 := 8) rfl ?_
  obtain ⟨r2, r2h, h⟩ := kw_bind_e h
  refine kg_callV (μ := μX10_keep) (d := d) rfl mVX10_copies [.int (0 : Int32), .int (1 : Int32)] [] (gX10_copies (E := E) (d := d) (0 : Int32) (1 : Int32) s1 r2h) rfl lmRX10_107 (ci := 10) rfl tM_0 eM_0 rfl (Nat.le_of_ble_eq_true rfl) dX10_keep_8 rfl (st2 := []) rfl (pc2 := 11) rfl ?_
  refine kg_aload_n 0 dX10_keep_11 rfl (pc2 := 12) rfl ?_
  refine kg_getr clX10 rfl 0 (Nat.le_of_ble_eq_true rfl) lfRX10_7 tM_0 eM_0 rfl dX10_keep_12 (pc2 := 15) rfl ?_
  refine kg_iconst dX10_keep_15 ki_3 (pc2 := 16) rfl ?_
  refine kg_iald tM_1 eM_1 (show kw_in (3 : Int32) 2832 by decide) (j := 3) (by decide) dX10_keep_16 (pc2 := 17) rfl ?_
  cases h
  exact kg_iret (ty := .int) dX10_keep_17 rfl rfl
set_option maxHeartbeats 4000000 in
set_option maxRecDepth 100000 in
theorem gX10_undo {E : kw_E} {d : Nat} (σ : kw_M) {r : Int32 × kw_M} (h : fX10_undo σ = some r) : kw_Met E kwTM 21 (d + 1) μX10_undo [.ref 0] σ (some (Value.int r.1)) r.2 := by
  refine kw_enter plRX10 (Nat.le_of_ble_eq_true rfl) ?_
  show kw_G E kwTM 21 (d + 1) μX10_undo 0 [(0, .ref 0)] [] σ (some (Value.int r.1)) r.2
  unfold fX10_undo at h
  refine kg_aload_n 0 dX10_undo_0 rfl (pc2 := 1) rfl ?_
  refine kg_geti clX10 rfl 1 (Nat.le_of_ble_eq_true rfl) lfRX10_270 tM_0 eM_0 rfl dX10_undo_1 (pc2 := 4) rfl ?_
  refine kg_if_ne 9 dX10_undo_4 rfl (pc2 := 7) rfl (fun q1 => ?_) (fun q1 => ?_)
  · replace h := (if_neg q1).symm.trans h
    refine kg_aload_n 0 dX10_undo_9 rfl (pc2 := 10) rfl ?_
    refine kg_iconst dX10_undo_10 ki_1 (pc2 := 11) rfl ?_
    refine kg_iconst dX10_undo_11 ki_0 (pc2 := 12) rfl ?_
    obtain ⟨r2, r2h, h⟩ := kw_bind_e h
    refine kg_callV (μ := μX10_undo) (d := d) rfl mVX10_copies [.int (1 : Int32), .int (0 : Int32)] [] (gX10_copies (E := E) (d := d) (1 : Int32) (0 : Int32) σ r2h) rfl lmRX10_107 (ci := 10) rfl tM_0 eM_0 rfl (Nat.le_of_ble_eq_true rfl) dX10_undo_12 rfl (st2 := []) rfl (pc2 := 15) rfl ?_
    refine kg_iconst dX10_undo_15 ki_1 (pc2 := 16) rfl ?_
    cases h
    exact kg_iret (ty := .boolean) dX10_undo_16 rfl rfl
  · replace h := (if_pos q1).symm.trans h
    refine kg_iconst dX10_undo_7 ki_0 (pc2 := 8) rfl ?_
    cases h
    exact kg_iret (ty := .boolean) dX10_undo_8 rfl rfl
set_option maxHeartbeats 4000000 in
set_option maxRecDepth 100000 in
theorem gjX10_check_75_L33 {E : kw_E} {d : Nat} (v2 : Int32) (v3 : Int32) (t0 : Int32) (t1 : Int32) (σ : kw_M) {v : Option Value} {σ2 : kw_M} {o : (Int32 × Int32) ⊕ (Int32)} (h : jX10_check_75_L33 v2 v3 t0 t1 σ = some o) (hk : Sum.elim (fun s => kw_G E kwTM 21 (d + 4) μX10_check 33 [(0, .ref 0), (2, .int s.1), (3, .int s.2)] [] σ v σ2) (fun y => kw_G E kwTM 21 (d + 4) μX10_check 86 [(0, .ref 0), (2, .int y)] [] σ v σ2) o) : kw_G E kwTM 21 (d + 4) μX10_check 75 [(0, .ref 0), (2, .int v2), (3, .int v3)] [.int t0, .int t1] σ v σ2 := by
  unfold jX10_check_75_L33 at h
  refine kg_icmp_eq 80 dX10_check_75 rfl (pc2 := 78) rfl (fun q14 => ?_) (fun q14 => ?_)
  · replace h := (if_pos q14).symm.trans h
    obtain ⟨x15, x15e, h⟩ := kw_let_e h
    refine kg_iinc 2 dX10_check_80 rfl (Nat.le_of_ble_eq_true rfl) x15e (lv2 := [(3, .int x15), (0, .ref 0), (2, .int v2)]) rfl (pc2 := 83) rfl ?_
    refine kg_goto 33 dX10_check_83 rfl ?_
    refine kg_sub [1, 2, 0] (lv2 := [(0, .ref 0), (2, .int v2), (3, .int x15)]) rfl ?_
    cases h
    exact hk
  · replace h := (if_neg q14).symm.trans h
    refine kg_iload_n 2 dX10_check_78 rfl (pc2 := 79) rfl ?_
    refine kg_istore_n dX10_check_79 rfl (Nat.le_of_ble_eq_true rfl) rfl (lv2 := [(2, .int v3), (0, .ref 0), (3, .int v3)]) rfl (pc2 := 80) rfl ?_
    obtain ⟨x16, x16e, h⟩ := kw_let_e h
    refine kg_iinc 2 dX10_check_80 rfl (Nat.le_of_ble_eq_true rfl) x16e (lv2 := [(3, .int x16), (2, .int v3), (0, .ref 0)]) rfl (pc2 := 83) rfl ?_
    refine kg_goto 33 dX10_check_83 rfl ?_
    refine kg_sub [2, 1, 0] (lv2 := [(0, .ref 0), (2, .int v3), (3, .int x16)]) rfl ?_
    cases h
    exact hk
set_option maxHeartbeats 4000000 in
set_option maxRecDepth 100000 in
theorem lX10_check_33 {E : kw_E} {d : Nat} (σ : kw_M) (v2 : Int32) (v3 : Int32) {v : Option Value} {σ2 : kw_M} {o : (Int32 × Int32) ⊕ (Int32)} (h : bX10_check_33 σ v2 v3 = some o) (hk : Sum.elim (fun s => kw_G E kwTM 21 (d + 4) μX10_check 33 [(0, .ref 0), (2, .int s.1), (3, .int s.2)] [] σ v σ2) (fun y => kw_G E kwTM 21 (d + 4) μX10_check 86 [(0, .ref 0), (2, .int y)] [] σ v σ2) o) : kw_G E kwTM 21 (d + 4) μX10_check 33 [(0, .ref 0), (2, .int v2), (3, .int v3)] [] σ v σ2 := by
  unfold bX10_check_33 at h
  refine kg_iload_n 2 dX10_check_33 rfl (pc2 := 34) rfl ?_
  refine kg_if_lt 86 dX10_check_34 rfl (pc2 := 37) rfl (fun q6 => ?_) (fun q6 => ?_)
  · replace h := (if_pos q6).symm.trans h
    refine kg_sub [0, 1] (lv2 := [(0, .ref 0), (2, .int v2)]) rfl ?_
    cases h
    exact hk
  · replace h := (if_neg q6).symm.trans h
    refine kg_iload_n 2 dX10_check_37 rfl (pc2 := 38) rfl ?_
    refine kg_aload_n 0 dX10_check_38 rfl (pc2 := 39) rfl ?_
    obtain ⟨r7, r7h, h⟩ := kw_bind_e h
    refine kg_callV (μ := μX10_check) (d := (d + 3)) rfl mVX10_towns [] [.int v3] (gX10_towns (E := E) (d := (d + 3)) σ r7h) rfl lmRX10_77 (ci := 10) rfl tM_0 eM_0 rfl (Nat.le_of_ble_eq_true rfl) dX10_check_39 rfl (st2 := [.int r7, .int v3]) rfl (pc2 := 42) rfl ?_
    refine kg_icmp_ge 78 dX10_check_42 rfl (pc2 := 45) rfl (fun q8 => ?_) (fun q8 => ?_)
    · replace h := (if_pos q8).symm.trans h
      refine kg_iload_n 2 dX10_check_78 rfl (pc2 := 79) rfl ?_
      refine kg_istore_n dX10_check_79 rfl (Nat.le_of_ble_eq_true rfl) rfl (lv2 := [(2, .int v3), (0, .ref 0), (3, .int v3)]) rfl (pc2 := 80) rfl ?_
      obtain ⟨x9, x9e, h⟩ := kw_let_e h
      refine kg_iinc 2 dX10_check_80 rfl (Nat.le_of_ble_eq_true rfl) x9e (lv2 := [(3, .int x9), (2, .int v3), (0, .ref 0)]) rfl (pc2 := 83) rfl ?_
      refine kg_goto 33 dX10_check_83 rfl ?_
      refine kg_sub [2, 1, 0] (lv2 := [(0, .ref 0), (2, .int v3), (3, .int x9)]) rfl ?_
      cases h
      exact hk
    · replace h := (if_neg q8).symm.trans h
      refine kg_aload_n 0 dX10_check_45 rfl (pc2 := 46) rfl ?_
      refine kg_getr clX10 rfl 5 (Nat.le_of_ble_eq_true rfl) lfRX10_23 tM_0 eM_0 rfl dX10_check_46 (pc2 := 49) rfl ?_
      refine kg_iload_n 2 dX10_check_49 rfl (pc2 := 50) rfl ?_
      obtain ⟨q10, h⟩ := kw_chk_e h
      refine kg_bald tM_5 eM_5 q10 (j := v3.toNatClampNeg) rfl dX10_check_50 (pc2 := 51) rfl ?_
      refine kg_sipush dX10_check_51 ks_255 (pc2 := 54) rfl ?_
      refine kg_iand dX10_check_54 (pc2 := 55) rfl ?_
      refine kg_aload_n 0 dX10_check_55 rfl (pc2 := 56) rfl ?_
      refine kg_iload_n 2 dX10_check_56 rfl (pc2 := 57) rfl ?_
      obtain ⟨r11, r11h, h⟩ := kw_bind_e h
      refine kg_callV (μ := μX10_check) (d := (d + 3)) rfl mVX10_parentOf [.int v3] [.int ((σ.1 5 v3.toNatClampNeg) &&& (255 : Int32))] (gX10_parentOf (E := E) (d := d) v3 σ r11h) rfl lmRX10_306 (ci := 10) rfl tM_0 eM_0 rfl (Nat.le_of_ble_eq_true rfl) dX10_check_57 rfl (st2 := [.int r11, .int ((σ.1 5 v3.toNatClampNeg) &&& (255 : Int32))]) rfl (pc2 := 60) rfl ?_
      refine kg_iconst dX10_check_60 ki_m1 (pc2 := 61) rfl ?_
      refine kg_icmp_ne 70 dX10_check_61 rfl (pc2 := 64) rfl (fun q12 => ?_) (fun q12 => ?_)
      · replace h := (if_neg q12).symm.trans h
        refine kg_aload_n 0 dX10_check_70 rfl (pc2 := 71) rfl ?_
        refine kg_iload_n 2 dX10_check_71 rfl (pc2 := 72) rfl ?_
        obtain ⟨r13, r13h, h⟩ := kw_bind_e h
        refine kg_callV (μ := μX10_check) (d := (d + 3)) rfl mVX10_parentOf [.int v3] [.int ((σ.1 5 v3.toNatClampNeg) &&& (255 : Int32))] (gX10_parentOf (E := E) (d := d) v3 σ r13h) rfl lmRX10_306 (ci := 10) rfl tM_0 eM_0 rfl (Nat.le_of_ble_eq_true rfl) dX10_check_72 rfl (st2 := [.int r13, .int ((σ.1 5 v3.toNatClampNeg) &&& (255 : Int32))]) rfl (pc2 := 75) rfl ?_
        exact gjX10_check_75_L33 v2 v3 r13 ((σ.1 5 v3.toNatClampNeg) &&& (255 : Int32)) σ h hk
      · replace h := (if_pos q12).symm.trans h
        refine kg_sipush dX10_check_64 ks_255 (pc2 := 67) rfl ?_
        refine kg_goto 75 dX10_check_67 rfl ?_
        exact gjX10_check_75_L33 v2 v3 (255 : Int32) ((σ.1 5 v3.toNatClampNeg) &&& (255 : Int32)) σ h hk
set_option maxHeartbeats 4000000 in
set_option maxRecDepth 100000 in
theorem gX10_check {E : kw_E} {d : Nat} (a1 : Int32) (σ : kw_M) {r : Int32 × kw_M} (h : fX10_check a1 σ = some r) : kw_Met E kwTM 21 (d + 4) μX10_check [.ref 0, .int a1] σ (some (Value.int r.1)) r.2 := by
  refine kw_enter plRX10 (Nat.le_of_ble_eq_true rfl) ?_
  show kw_G E kwTM 21 (d + 4) μX10_check 0 [(0, .ref 0), (1, .int a1)] [] σ (some (Value.int r.1)) r.2
  unfold fX10_check at h
  refine kg_iload_n 1 dX10_check_0 rfl (pc2 := 1) rfl ?_
  refine kg_i2l dX10_check_1 (pc2 := 2) rfl ?_
  refine kg_lconst dX10_check_2 kl_0 (pc2 := 3) rfl ?_
  refine kg_ldc2 rfl lcRX10_222 dX10_check_3 (pc2 := 6) rfl ?_
  obtain ⟨r1, r1h, h⟩ := kw_bind_e h
  refine kg_callS (μ := μX10_check) (d := (d + 3)) rfl mSX10_in [.long a1.toInt64, .long (0 : Int64), .long (12 : Int64)] [] (gX10_in (E := E) (d := (d + 3)) a1.toInt64 (0 : Int64) (12 : Int64) σ r1h) rfl lmRX10_81 rfl (Nat.le_of_ble_eq_true rfl) dX10_check_6 rfl (st2 := [.int r1]) rfl (pc2 := 9) rfl ?_
  refine kg_if_eq 20 dX10_check_9 rfl (pc2 := 12) rfl (fun q2 => ?_) (fun q2 => ?_)
  · replace h := (if_pos q2).symm.trans h
    refine kg_bipush dX10_check_20 kb_m2 (pc2 := 22) rfl ?_
    cases h
    exact kg_iret (ty := .int) dX10_check_22 rfl rfl
  · replace h := (if_neg q2).symm.trans h
    refine kg_iload_n 1 dX10_check_12 rfl (pc2 := 13) rfl ?_
    refine kg_aload_n 0 dX10_check_13 rfl (pc2 := 14) rfl ?_
    refine kg_geti clX10 rfl 6 (Nat.le_of_ble_eq_true rfl) lfRX10_152 tM_0 eM_0 rfl dX10_check_14 (pc2 := 17) rfl ?_
    refine kg_icmp_le 23 dX10_check_17 rfl (pc2 := 20) rfl (fun q3 => ?_) (fun q3 => ?_)
    · replace h := (if_pos q3).symm.trans h
      refine kg_aload_n 0 dX10_check_23 rfl (pc2 := 24) rfl ?_
      obtain ⟨r4, r4h, h⟩ := kw_bind_e h
      refine kg_callV (μ := μX10_check) (d := (d + 3)) rfl mVX10_settles [] [] (gX10_settles (E := E) (d := d) σ r4h) rfl lmRX10_104 (ci := 10) rfl tM_0 eM_0 rfl (Nat.le_of_ble_eq_true rfl) dX10_check_24 rfl (st2 := []) rfl (pc2 := 27) rfl ?_
      refine kg_iconst dX10_check_27 ki_m1 (pc2 := 28) rfl ?_
      refine kg_istore_n dX10_check_28 rfl (Nat.le_of_ble_eq_true rfl) rfl (lv2 := [(2, .int (-1 : Int32)), (0, .ref 0), (1, .int a1)]) rfl (pc2 := 29) rfl ?_
      refine kg_iload_n 2 dX10_check_29 rfl (pc2 := 30) rfl ?_
      refine kg_iconst dX10_check_30 ki_1 (pc2 := 31) rfl ?_
      refine kg_isub dX10_check_31 (pc2 := 32) rfl ?_
      obtain ⟨x5, x5e, h⟩ := kw_let_e h
      refine kg_istore_n dX10_check_32 rfl (Nat.le_of_ble_eq_true rfl) x5e (lv2 := [(3, .int x5), (2, .int (-1 : Int32)), (0, .ref 0), (1, .int a1)]) rfl (pc2 := 33) rfl ?_
      refine kg_sub [2, 1, 0] (lv2 := [(0, .ref 0), (2, .int (-1 : Int32)), (3, .int x5)]) rfl ?_
      obtain ⟨x17, x17h, h⟩ := kw_bind_e h
      refine kw_loop_e (P := fun s => kw_G E kwTM 21 (d + 4) μX10_check 33 [(0, .ref 0), (2, .int s.1), (3, .int s.2)] [] r4 (some (Value.int r.1)) r.2) (K := fun y => kw_G E kwTM 21 (d + 4) μX10_check 86 [(0, .ref 0), (2, .int y)] [] r4 (some (Value.int r.1)) r.2) (fun s o h0 hk => lX10_check_33 r4 s.1 s.2 h0 hk) kw_F _ _ x17h ?_
      show kw_G E kwTM 21 (d + 4) μX10_check 86 [(0, .ref 0), (2, .int x17)] [] r4 (some (Value.int r.1)) r.2
      refine kg_aload_n 0 dX10_check_86 rfl (pc2 := 87) rfl ?_
      refine kg_iconst dX10_check_87 ki_0 (pc2 := 88) rfl ?_
      obtain ⟨s18, s18e, h⟩ := kw_let_e h
      refine kg_puti clX10 rfl 6 (Nat.le_of_ble_eq_true rfl) lfRX10_152 rfl tM_0 eM_0 rfl (ty := .int) (by decide +kernel) rfl rfl s18e dX10_check_88 (pc2 := 91) rfl ?_
      refine kg_iload_n 1 dX10_check_91 rfl (pc2 := 92) rfl ?_
      cases h
      exact kg_iret (ty := .int) dX10_check_92 rfl rfl
    · replace h := (if_neg q3).symm.trans h
      refine kg_bipush dX10_check_20 kb_m2 (pc2 := 22) rfl ?_
      cases h
      exact kg_iret (ty := .int) dX10_check_22 rfl rfl
