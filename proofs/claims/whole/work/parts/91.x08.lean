/-! The class, method by method: the machine does what f says (g). -/
set_option maxHeartbeats 4000000 in
set_option maxRecDepth 100000 in
theorem lX6_narrowest_35 {E : kw_E} {d : Nat} (v2 : Int32) (v4 : Int32) (v5 : Int32) (σ : kw_M) {v : Option Value} {σ2 : kw_M} {o : (Int32 × Int32 × kw_M) ⊕ (kw_M)} (h : bX6_narrowest_35 v2 v4 v5 σ = some o) (hk : Sum.elim (fun s => kw_G E kwTX 48 (d + 2) μX6_narrowest 35 [(0, .ref 6), (1, .ref 1), (2, .int v2), (3, .ref 12), (4, .int s.1), (5, .int s.2.1)] [] s.2.2 v σ2) (fun y => kw_G E kwTX 48 (d + 2) μX6_narrowest 140 [(0, .ref 6), (1, .ref 1), (2, .int v2)] [] y v σ2) o) : kw_G E kwTX 48 (d + 2) μX6_narrowest 35 [(0, .ref 6), (1, .ref 1), (2, .int v2), (3, .ref 12), (4, .int v4), (5, .int v5)] [] σ v σ2 := by
  unfold bX6_narrowest_35 at h
  refine kg_iload 5 dX6_narrowest_35 rfl (pc2 := 37) rfl ?_
  refine kg_aload_n 3 dX6_narrowest_37 rfl (pc2 := 38) rfl ?_
  refine kg_geti clX4 rfl 0 (Nat.le_of_ble_eq_true rfl) lfRX6_55 tX_12 eX_12 rfl dX6_narrowest_38 (pc2 := 41) rfl ?_
  refine kg_icmp_ge 140 dX6_narrowest_41 rfl (pc2 := 44) rfl (fun q4 => ?_) (fun q4 => ?_)
  · replace h := (if_pos q4).symm.trans h
    refine kg_sub [0, 1, 2] (lv2 := [(0, .ref 6), (1, .ref 1), (2, .int v2)]) rfl ?_
    cases h
    exact hk
  · replace h := (if_neg q4).symm.trans h
    refine kg_iload 4 dX6_narrowest_44 rfl (pc2 := 46) rfl ?_
    refine kg_if_eq 140 dX6_narrowest_46 rfl (pc2 := 49) rfl (fun q5 => ?_) (fun q5 => ?_)
    · replace h := (if_pos q5).symm.trans h
      refine kg_sub [0, 1, 2] (lv2 := [(0, .ref 6), (1, .ref 1), (2, .int v2)]) rfl ?_
      cases h
      exact hk
    · replace h := (if_neg q5).symm.trans h
      refine kg_iconst dX6_narrowest_49 ki_0 (pc2 := 50) rfl ?_
      refine kg_istore dX6_narrowest_50 (Nat.le_of_ble_eq_true rfl) rfl (lv2 := [(4, .int (0 : Int32)), (0, .ref 6), (1, .ref 1), (2, .int v2), (3, .ref 12), (5, .int v5)]) rfl (pc2 := 52) rfl ?_
      refine kg_iconst dX6_narrowest_52 ki_0 (pc2 := 53) rfl ?_
      refine kg_istore dX6_narrowest_53 (Nat.le_of_ble_eq_true rfl) rfl (lv2 := [(6, .int (0 : Int32)), (4, .int (0 : Int32)), (0, .ref 6), (1, .ref 1), (2, .int v2), (3, .ref 12), (5, .int v5)]) rfl (pc2 := 55) rfl ?_
      refine kg_sub [2, 3, 4, 5, 1, 6, 0] (lv2 := [(0, .ref 6), (1, .ref 1), (2, .int v2), (3, .ref 12), (4, .int (0 : Int32)), (5, .int v5), (6, .int (0 : Int32))]) rfl ?_
      obtain ⟨x19, x19h, h⟩ := kw_bind_e h
      refine kw_loop_e (P := fun s => kw_G E kwTX 48 (d + 2) μX6_narrowest 55 [(0, .ref 6), (1, .ref 1), (2, .int v2), (3, .ref 12), (4, .int s.1), (5, .int v5), (6, .int s.2.1)] [] s.2.2 v σ2) (K := fun y => kw_G E kwTX 48 (d + 2) μX6_narrowest 134 [(0, .ref 6), (1, .ref 1), (2, .int v2), (3, .ref 12), (4, .int y.1), (5, .int v5)] [] y.2 v σ2) (fun s o h0 hk => lX6_narrowest_55 v2 v5 s.1 s.2.1 s.2.2 h0 hk) kw_F _ _ x19h ?_
      show kw_G E kwTX 48 (d + 2) μX6_narrowest 134 [(0, .ref 6), (1, .ref 1), (2, .int v2), (3, .ref 12), (4, .int x19.1), (5, .int v5)] [] x19.2 v σ2
      obtain ⟨x20, x20e, h⟩ := kw_let_e h
      refine kg_iinc 5 dX6_narrowest_134 rfl (Nat.le_of_ble_eq_true rfl) x20e (lv2 := [(5, .int x20), (0, .ref 6), (1, .ref 1), (2, .int v2), (3, .ref 12), (4, .int x19.1)]) rfl (pc2 := 137) rfl ?_
      refine kg_goto 35 dX6_narrowest_137 rfl ?_
      refine kg_sub [1, 2, 3, 4, 5, 0] (lv2 := [(0, .ref 6), (1, .ref 1), (2, .int v2), (3, .ref 12), (4, .int x19.1), (5, .int x20)]) rfl ?_
      cases h
      exact hk
set_option maxHeartbeats 4000000 in
set_option maxRecDepth 100000 in
theorem gjX6_narrowest_140 {E : kw_E} {d : Nat} (v2 : Int32) (σ : kw_M) {r : Int64 × kw_M} (h : jX6_narrowest_140 v2 σ = some r) : kw_G E kwTX 48 (d + 2) μX6_narrowest 140 [(0, .ref 6), (1, .ref 1), (2, .int v2)] [] σ (some (Value.long r.1)) r.2 := by
  unfold jX6_narrowest_140 at h
  refine kg_iload_n 2 dX6_narrowest_140 rfl (pc2 := 141) rfl ?_
  refine kg_aload_n 1 dX6_narrowest_141 rfl (pc2 := 142) rfl ?_
  refine kg_geti clX7 rfl 2 (Nat.le_of_ble_eq_true rfl) lfRX6_51 tX_1 eX_1 rfl dX6_narrowest_142 (pc2 := 145) rfl ?_
  refine kg_icmp_ne 154 dX6_narrowest_145 rfl (pc2 := 148) rfl (fun q22 => ?_) (fun q22 => ?_)
  · replace h := (if_neg q22).symm.trans h
    refine kg_aload_n 0 dX6_narrowest_154 rfl (pc2 := 155) rfl ?_
    refine kg_getr clX6 rfl 4 (Nat.le_of_ble_eq_true rfl) lfRX6_19 tX_6 eX_6 rfl dX6_narrowest_155 (pc2 := 158) rfl ?_
    refine kg_iload_n 2 dX6_narrowest_158 rfl (pc2 := 159) rfl ?_
    obtain ⟨q23, h⟩ := kw_chk_e h
    refine kg_lald tX_43 eX_43 q23 (j := v2.toNatClampNeg) rfl dX6_narrowest_159 (pc2 := 160) rfl ?_
    cases h
    exact kg_lret dX6_narrowest_160 rfl
  · replace h := (if_pos q22).symm.trans h
    refine kg_ldc2 rfl lcRX6_115 dX6_narrowest_148 (pc2 := 151) rfl ?_
    refine kg_goto 160 dX6_narrowest_151 rfl ?_
    cases h
    exact kg_lret dX6_narrowest_160 rfl
set_option maxHeartbeats 4000000 in
set_option maxRecDepth 100000 in
theorem gX6_narrowest {E : kw_E} {d : Nat} (a2 : Int32) (σ : kw_M) {r : Int64 × kw_M} (h : fX6_narrowest a2 σ = some r) : kw_Met E kwTX 48 (d + 2) μX6_narrowest [.ref 6, .ref 1, .int a2] σ (some (Value.long r.1)) r.2 := by
  refine kw_enter plRX6 (Nat.le_of_ble_eq_true rfl) ?_
  show kw_G E kwTX 48 (d + 2) μX6_narrowest 0 [(0, .ref 6), (1, .ref 1), (2, .int a2)] [] σ (some (Value.long r.1)) r.2
  unfold fX6_narrowest at h
  refine kg_aload_n 1 dX6_narrowest_0 rfl (pc2 := 1) rfl ?_
  refine kg_getr clX7 rfl 0 (Nat.le_of_ble_eq_true rfl) lfRX6_30 tX_1 eX_1 rfl dX6_narrowest_1 (pc2 := 4) rfl ?_
  refine kg_astore_n dX6_narrowest_4 rfl (Nat.le_of_ble_eq_true rfl) rfl (lv2 := [(3, .ref 12), (0, .ref 6), (1, .ref 1), (2, .int a2)]) rfl (pc2 := 5) rfl ?_
  refine kg_aload_n 0 dX6_narrowest_5 rfl (pc2 := 6) rfl ?_
  refine kg_aload_n 2 dX6_narrowest_6 rfl (pc2 := 7) rfl ?_
  refine kg_geti clX7 rfl 2 (Nat.le_of_ble_eq_true rfl) lfRX6_51 tX_1 eX_1 rfl dX6_narrowest_7 (pc2 := 10) rfl ?_
  refine kg_aload_n 1 dX6_narrowest_10 rfl (pc2 := 11) rfl ?_
  refine kg_getr clX6 rfl 4 (Nat.le_of_ble_eq_true rfl) lfRX6_19 tX_6 eX_6 rfl dX6_narrowest_11 (pc2 := 14) rfl ?_
  obtain ⟨r1, r1h, h⟩ := kw_bind_e h
  refine kg_callV (μ := μX6_narrowest) (d := (d + 1)) rfl mVX4_beginRow [.int (σ.1 1 2), .ref 43] [] (gX4_beginRow (E := E) (d := d) 43 ⟨tX_43, eX_43⟩ (σ.1 1 2) σ r1h) rfl lmRX6_79 (ci := 4) rfl tX_12 eX_12 rfl (Nat.le_of_ble_eq_true rfl) dX6_narrowest_14 rfl (st2 := []) rfl (pc2 := 17) rfl ?_
  refine kg_aload_n 1 dX6_narrowest_17 rfl (pc2 := 18) rfl ?_
  refine kg_getr clX6 rfl 4 (Nat.le_of_ble_eq_true rfl) lfRX6_19 tX_6 eX_6 rfl dX6_narrowest_18 (pc2 := 21) rfl ?_
  refine kg_aload_n 2 dX6_narrowest_21 rfl (pc2 := 22) rfl ?_
  refine kg_geti clX7 rfl 2 (Nat.le_of_ble_eq_true rfl) lfRX6_51 tX_1 eX_1 rfl dX6_narrowest_22 (pc2 := 25) rfl ?_
  refine kg_ldc2 rfl lcRX6_113 dX6_narrowest_25 (pc2 := 28) rfl ?_
  obtain ⟨q2, h⟩ := kw_chk_e h
  obtain ⟨s3, s3e, h⟩ := kw_let_e h
  refine kg_last tX_43 eX_43 q2 (j := (r1.1 1 2).toNatClampNeg) rfl s3e dX6_narrowest_28 (pc2 := 29) rfl ?_
  refine kg_iconst dX6_narrowest_29 ki_1 (pc2 := 30) rfl ?_
  refine kg_istore dX6_narrowest_30 (Nat.le_of_ble_eq_true rfl) rfl (lv2 := [(4, .int (1 : Int32)), (3, .ref 12), (0, .ref 6), (1, .ref 1), (2, .int a2)]) rfl (pc2 := 32) rfl ?_
  refine kg_iconst dX6_narrowest_32 ki_0 (pc2 := 33) rfl ?_
  refine kg_istore dX6_narrowest_33 (Nat.le_of_ble_eq_true rfl) rfl (lv2 := [(5, .int (0 : Int32)), (4, .int (1 : Int32)), (3, .ref 12), (0, .ref 6), (1, .ref 1), (2, .int a2)]) rfl (pc2 := 35) rfl ?_
  refine kg_sub [3, 4, 5, 2, 1, 0] (lv2 := [(0, .ref 6), (1, .ref 1), (2, .int a2), (3, .ref 12), (4, .int (1 : Int32)), (5, .int (0 : Int32))]) rfl ?_
  obtain ⟨x21, x21h, h⟩ := kw_bind_e h
  refine kw_loop_e (P := fun s => kw_G E kwTX 48 (d + 2) μX6_narrowest 35 [(0, .ref 6), (1, .ref 1), (2, .int a2), (3, .ref 12), (4, .int s.1), (5, .int s.2.1)] [] s.2.2 (some (Value.long r.1)) r.2) (K := fun y => kw_G E kwTX 48 (d + 2) μX6_narrowest 140 [(0, .ref 6), (1, .ref 1), (2, .int a2)] [] y (some (Value.long r.1)) r.2) (fun s o h0 hk => lX6_narrowest_35 a2 s.1 s.2.1 s.2.2 h0 hk) kw_F _ _ x21h ?_
  show kw_G E kwTX 48 (d + 2) μX6_narrowest 140 [(0, .ref 6), (1, .ref 1), (2, .int a2)] [] x21 (some (Value.long r.1)) r.2
  exact gjX6_narrowest_140 a2 x21 h
set_option maxHeartbeats 4000000 in
set_option maxRecDepth 100000 in
theorem lX6_stepApart_6 {E : kw_E} {d : Nat} (v2 : Int64) (v4 : Int32) (v5 : Int32) (σ : kw_M) {v : Option Value} {σ2 : kw_M} {o : (Int32 × Int32 × kw_M) ⊕ (Int32 × kw_M)} (h : bX6_stepApart_6 v2 v4 v5 σ = some o) (hk : Sum.elim (fun s => kw_G E kwTX 48 (d + 2) μX6_stepApart 6 [(0, .ref 6), (1, .ref 12), (2, .long v2), (4, .int s.1), (5, .int s.2.1)] [] s.2.2 v σ2) (fun y => kw_G E kwTX 48 (d + 2) μX6_stepApart 132 [(4, .int y.1)] [] y.2 v σ2) o) : kw_G E kwTX 48 (d + 2) μX6_stepApart 6 [(0, .ref 6), (1, .ref 12), (2, .long v2), (4, .int v4), (5, .int v5)] [] σ v σ2 := by
  unfold bX6_stepApart_6 at h
  refine kg_iload 4 dX6_stepApart_6 rfl (pc2 := 8) rfl ?_
  refine kg_aload_n 1 dX6_stepApart_8 rfl (pc2 := 9) rfl ?_
  refine kg_geti clX4 rfl 1 (Nat.le_of_ble_eq_true rfl) lfRX6_58 tX_12 eX_12 rfl dX6_stepApart_9 (pc2 := 12) rfl ?_
  refine kg_icmp_ge 132 dX6_stepApart_12 rfl (pc2 := 15) rfl (fun q1 => ?_) (fun q1 => ?_)
  · replace h := (if_pos q1).symm.trans h
    refine kg_sub [3] (lv2 := [(4, .int v4)]) rfl ?_
    cases h
    exact hk
  · replace h := (if_neg q1).symm.trans h
    refine kg_aload_n 1 dX6_stepApart_15 rfl (pc2 := 16) rfl ?_
    refine kg_iload 4 dX6_stepApart_16 rfl (pc2 := 18) rfl ?_
    obtain ⟨r2, r2h, h⟩ := kw_bind_e h
    refine kg_callV (μ := μX6_stepApart) (d := (d + 1)) rfl mVX4_isOpen [.int v5] [] (gX4_isOpen (E := E) (d := (d + 1)) 12 kx_4_12 v5 σ r2h) rfl lmRX6_90 (ci := 4) rfl tX_12 eX_12 rfl (Nat.le_of_ble_eq_true rfl) dX6_stepApart_18 rfl (st2 := [.int r2]) rfl (pc2 := 21) rfl ?_
    refine kg_if_ne 27 dX6_stepApart_21 rfl (pc2 := 24) rfl (fun q3 => ?_) (fun q3 => ?_)
    · replace h := (if_neg q3).symm.trans h
      refine kg_lload_n 2 dX6_stepApart_27 rfl (pc2 := 28) rfl ?_
      refine kg_iload 4 dX6_stepApart_28 rfl (pc2 := 30) rfl ?_
      refine kg_lshr dX6_stepApart_30 (pc2 := 31) rfl ?_
      refine kg_lconst dX6_stepApart_31 kl_1 (pc2 := 32) rfl ?_
      refine kg_land dX6_stepApart_32 (pc2 := 33) rfl ?_
      refine kg_lconst dX6_stepApart_33 kl_0 (pc2 := 34) rfl ?_
      refine kg_lcmp_eq 84 dX6_stepApart_34 dX6_stepApart_35 rfl (pc2 := 38) rfl (fun q4 => ?_) (fun q4 => ?_)
      · replace h := (if_pos q4).symm.trans h
        refine kg_iload 3 dX6_stepApart_84 rfl (pc2 := 86) rfl ?_
        refine kg_aload_n 0 dX6_stepApart_86 rfl (pc2 := 87) rfl ?_
        refine kg_getr clX6 rfl 4 (Nat.le_of_ble_eq_true rfl) lfRX6_19 tX_6 eX_6 rfl dX6_stepApart_87 (pc2 := 90) rfl ?_
        refine kg_aload_n 1 dX6_stepApart_90 rfl (pc2 := 91) rfl ?_
        refine kg_getr clX4 rfl 4 (Nat.le_of_ble_eq_true rfl) lfRX6_65 tX_12 eX_12 rfl dX6_stepApart_91 (pc2 := 94) rfl ?_
        refine kg_iload 4 dX6_stepApart_94 rfl (pc2 := 96) rfl ?_
        obtain ⟨q5, h⟩ := kw_chk_e h
        refine kg_iald tX_19 eX_19 q5 (j := v5.toNatClampNeg) rfl dX6_stepApart_96 (pc2 := 97) rfl ?_
        refine kg_aload_n 0 dX6_stepApart_97 rfl (pc2 := 98) rfl ?_
        refine kg_getr clX6 rfl 4 (Nat.le_of_ble_eq_true rfl) lfRX6_19 tX_6 eX_6 rfl dX6_stepApart_98 (pc2 := 101) rfl ?_
        refine kg_aload_n 1 dX6_stepApart_101 rfl (pc2 := 102) rfl ?_
        refine kg_getr clX4 rfl 3 (Nat.le_of_ble_eq_true rfl) lfRX6_34 tX_12 eX_12 rfl dX6_stepApart_102 (pc2 := 105) rfl ?_
        refine kg_iload 4 dX6_stepApart_105 rfl (pc2 := 107) rfl ?_
        refine kg_iald tX_18 eX_18 q5 (j := v5.toNatClampNeg) rfl dX6_stepApart_107 (pc2 := 108) rfl ?_
        obtain ⟨q6, h⟩ := kw_chk_e h
        refine kg_lald tX_43 eX_43 q6 (j := (σ.1 18 v5.toNatClampNeg).toNatClampNeg) rfl dX6_stepApart_108 (pc2 := 109) rfl ?_
        refine kg_aload_n 1 dX6_stepApart_109 rfl (pc2 := 110) rfl ?_
        refine kg_getr clX4 rfl 5 (Nat.le_of_ble_eq_true rfl) lfRX6_93 tX_12 eX_12 rfl dX6_stepApart_110 (pc2 := 113) rfl ?_
        refine kg_iload 4 dX6_stepApart_113 rfl (pc2 := 115) rfl ?_
        refine kg_iald tX_20 eX_20 q5 (j := v5.toNatClampNeg) rfl dX6_stepApart_115 (pc2 := 116) rfl ?_
        refine kg_i2l dX6_stepApart_116 (pc2 := 117) rfl ?_
        obtain ⟨r7, r7h, h⟩ := kw_bind_e h
        refine kg_callN (μ := μX6_stepApart) (d := (d + 1)) rfl mSX9_joined [.long (σ.2 43 (σ.1 18 v5.toNatClampNeg).toNatClampNeg), .long ((σ.1 20 v5.toNatClampNeg).toInt64)] [.int (σ.1 19 v5.toNatClampNeg), .ref 43, .int v4] (gX9_joined (E := E) (d := (d + 1)) (σ.2 43 (σ.1 18 v5.toNatClampNeg).toNatClampNeg) ((σ.1 20 v5.toNatClampNeg).toInt64) σ r7h) rfl lnRX6_106 rfl (Nat.le_of_ble_eq_true rfl) dX6_stepApart_117 rfl (st2 := [.long r7, .int (σ.1 19 v5.toNatClampNeg), .ref 43, .int v4]) rfl (pc2 := 120) rfl ?_
        obtain ⟨r8, r8h, h⟩ := kw_bind_e h
        refine kg_callS (μ := μX6_stepApart) (d := (d + 1)) rfl mSX4_lower [.ref 43, .int (σ.1 19 v5.toNatClampNeg), .long r7] [.int v4] (gX4_lower (E := E) (d := d) 43 ⟨tX_43, eX_43⟩ (σ.1 19 v5.toNatClampNeg) r7 σ r8h) rfl lmRX6_109 rfl (Nat.le_of_ble_eq_true rfl) dX6_stepApart_120 rfl (st2 := [.int r8.1, .int v4]) rfl (pc2 := 123) rfl ?_
        refine kg_ior dX6_stepApart_123 (pc2 := 124) rfl ?_
        obtain ⟨x9, x9e, h⟩ := kw_let_e h
        refine kg_istore dX6_stepApart_124 (Nat.le_of_ble_eq_true rfl) x9e (lv2 := [(4, .int x9), (0, .ref 6), (1, .ref 12), (2, .long v2), (5, .int v5)]) rfl (pc2 := 126) rfl ?_
        obtain ⟨x10, x10e, h⟩ := kw_let_e h
        refine kg_iinc 4 dX6_stepApart_126 rfl (Nat.le_of_ble_eq_true rfl) x10e (lv2 := [(5, .int x10), (4, .int x9), (0, .ref 6), (1, .ref 12), (2, .long v2)]) rfl (pc2 := 129) rfl ?_
        refine kg_goto 6 dX6_stepApart_129 rfl ?_
        refine kg_sub [2, 3, 4, 1, 0] (lv2 := [(0, .ref 6), (1, .ref 12), (2, .long v2), (4, .int x9), (5, .int x10)]) rfl ?_
        cases h
        exact hk
      · replace h := (if_neg q4).symm.trans h
        refine kg_iload 3 dX6_stepApart_38 rfl (pc2 := 40) rfl ?_
        refine kg_aload_n 0 dX6_stepApart_40 rfl (pc2 := 41) rfl ?_
        refine kg_getr clX6 rfl 4 (Nat.le_of_ble_eq_true rfl) lfRX6_19 tX_6 eX_6 rfl dX6_stepApart_41 (pc2 := 44) rfl ?_
        refine kg_aload_n 1 dX6_stepApart_44 rfl (pc2 := 45) rfl ?_
        refine kg_getr clX4 rfl 3 (Nat.le_of_ble_eq_true rfl) lfRX6_34 tX_12 eX_12 rfl dX6_stepApart_45 (pc2 := 48) rfl ?_
        refine kg_iload 4 dX6_stepApart_48 rfl (pc2 := 50) rfl ?_
        obtain ⟨q11, h⟩ := kw_chk_e h
        refine kg_iald tX_18 eX_18 q11 (j := v5.toNatClampNeg) rfl dX6_stepApart_50 (pc2 := 51) rfl ?_
        refine kg_aload_n 0 dX6_stepApart_51 rfl (pc2 := 52) rfl ?_
        refine kg_getr clX6 rfl 4 (Nat.le_of_ble_eq_true rfl) lfRX6_19 tX_6 eX_6 rfl dX6_stepApart_52 (pc2 := 55) rfl ?_
        refine kg_aload_n 1 dX6_stepApart_55 rfl (pc2 := 56) rfl ?_
        refine kg_getr clX4 rfl 4 (Nat.le_of_ble_eq_true rfl) lfRX6_65 tX_12 eX_12 rfl dX6_stepApart_56 (pc2 := 59) rfl ?_
        refine kg_iload 4 dX6_stepApart_59 rfl (pc2 := 61) rfl ?_
        refine kg_iald tX_19 eX_19 q11 (j := v5.toNatClampNeg) rfl dX6_stepApart_61 (pc2 := 62) rfl ?_
        obtain ⟨q12, h⟩ := kw_chk_e h
        refine kg_lald tX_43 eX_43 q12 (j := (σ.1 19 v5.toNatClampNeg).toNatClampNeg) rfl dX6_stepApart_62 (pc2 := 63) rfl ?_
        refine kg_aload_n 1 dX6_stepApart_63 rfl (pc2 := 64) rfl ?_
        refine kg_getr clX4 rfl 5 (Nat.le_of_ble_eq_true rfl) lfRX6_93 tX_12 eX_12 rfl dX6_stepApart_64 (pc2 := 67) rfl ?_
        refine kg_iload 4 dX6_stepApart_67 rfl (pc2 := 69) rfl ?_
        refine kg_iald tX_20 eX_20 q11 (j := v5.toNatClampNeg) rfl dX6_stepApart_69 (pc2 := 70) rfl ?_
        refine kg_ineg dX6_stepApart_70 (pc2 := 71) rfl ?_
        refine kg_i2l dX6_stepApart_71 (pc2 := 72) rfl ?_
        obtain ⟨r13, r13h, h⟩ := kw_bind_e h
        refine kg_callN (μ := μX6_stepApart) (d := (d + 1)) rfl mSX9_joined [.long (σ.2 43 (σ.1 19 v5.toNatClampNeg).toNatClampNeg), .long ((-(σ.1 20 v5.toNatClampNeg)).toInt64)] [.int (σ.1 18 v5.toNatClampNeg), .ref 43, .int v4] (gX9_joined (E := E) (d := (d + 1)) (σ.2 43 (σ.1 19 v5.toNatClampNeg).toNatClampNeg) ((-(σ.1 20 v5.toNatClampNeg)).toInt64) σ r13h) rfl lnRX6_106 rfl (Nat.le_of_ble_eq_true rfl) dX6_stepApart_72 rfl (st2 := [.long r13, .int (σ.1 18 v5.toNatClampNeg), .ref 43, .int v4]) rfl (pc2 := 75) rfl ?_
        obtain ⟨r14, r14h, h⟩ := kw_bind_e h
        refine kg_callS (μ := μX6_stepApart) (d := (d + 1)) rfl mSX4_lower [.ref 43, .int (σ.1 18 v5.toNatClampNeg), .long r13] [.int v4] (gX4_lower (E := E) (d := d) 43 ⟨tX_43, eX_43⟩ (σ.1 18 v5.toNatClampNeg) r13 σ r14h) rfl lmRX6_109 rfl (Nat.le_of_ble_eq_true rfl) dX6_stepApart_75 rfl (st2 := [.int r14.1, .int v4]) rfl (pc2 := 78) rfl ?_
        refine kg_ior dX6_stepApart_78 (pc2 := 79) rfl ?_
        obtain ⟨x15, x15e, h⟩ := kw_let_e h
        refine kg_istore dX6_stepApart_79 (Nat.le_of_ble_eq_true rfl) x15e (lv2 := [(4, .int x15), (0, .ref 6), (1, .ref 12), (2, .long v2), (5, .int v5)]) rfl (pc2 := 81) rfl ?_
        refine kg_goto 126 dX6_stepApart_81 rfl ?_
        obtain ⟨x16, x16e, h⟩ := kw_let_e h
        refine kg_iinc 4 dX6_stepApart_126 rfl (Nat.le_of_ble_eq_true rfl) x16e (lv2 := [(5, .int x16), (4, .int x15), (0, .ref 6), (1, .ref 12), (2, .long v2)]) rfl (pc2 := 129) rfl ?_
        refine kg_goto 6 dX6_stepApart_129 rfl ?_
        refine kg_sub [2, 3, 4, 1, 0] (lv2 := [(0, .ref 6), (1, .ref 12), (2, .long v2), (4, .int x15), (5, .int x16)]) rfl ?_
        cases h
        exact hk
    · replace h := (if_pos q3).symm.trans h
      refine kg_goto 126 dX6_stepApart_24 rfl ?_
      obtain ⟨x17, x17e, h⟩ := kw_let_e h
      refine kg_iinc 4 dX6_stepApart_126 rfl (Nat.le_of_ble_eq_true rfl) x17e (lv2 := [(5, .int x17), (0, .ref 6), (1, .ref 12), (2, .long v2), (4, .int v4)]) rfl (pc2 := 129) rfl ?_
      refine kg_goto 6 dX6_stepApart_129 rfl ?_
      refine kg_sub [1, 2, 3, 4, 0] (lv2 := [(0, .ref 6), (1, .ref 12), (2, .long v2), (4, .int v4), (5, .int x17)]) rfl ?_
      cases h
      exact hk
set_option maxHeartbeats 4000000 in
set_option maxRecDepth 100000 in
theorem gX6_stepApart {E : kw_E} {d : Nat} (a2 : Int64) (σ : kw_M) {r : Int32 × kw_M} (h : fX6_stepApart a2 σ = some r) : kw_Met E kwTX 48 (d + 2) μX6_stepApart [.ref 6, .ref 12, .long a2] σ (some (Value.int r.1)) r.2 := by
  refine kw_enter plRX6 (Nat.le_of_ble_eq_true rfl) ?_
  show kw_G E kwTX 48 (d + 2) μX6_stepApart 0 [(0, .ref 6), (1, .ref 12), (2, .long a2)] [] σ (some (Value.int r.1)) r.2
  unfold fX6_stepApart at h
  refine kg_iconst dX6_stepApart_0 ki_0 (pc2 := 1) rfl ?_
  refine kg_istore dX6_stepApart_1 (Nat.le_of_ble_eq_true rfl) rfl (lv2 := [(4, .int (0 : Int32)), (0, .ref 6), (1, .ref 12), (2, .long a2)]) rfl (pc2 := 3) rfl ?_
  refine kg_iconst dX6_stepApart_3 ki_0 (pc2 := 4) rfl ?_
  refine kg_istore dX6_stepApart_4 (Nat.le_of_ble_eq_true rfl) rfl (lv2 := [(5, .int (0 : Int32)), (4, .int (0 : Int32)), (0, .ref 6), (1, .ref 12), (2, .long a2)]) rfl (pc2 := 6) rfl ?_
  refine kg_sub [2, 3, 4, 1, 0] (lv2 := [(0, .ref 6), (1, .ref 12), (2, .long a2), (4, .int (0 : Int32)), (5, .int (0 : Int32))]) rfl ?_
  obtain ⟨x18, x18h, h⟩ := kw_bind_e h
  refine kw_loop_e (P := fun s => kw_G E kwTX 48 (d + 2) μX6_stepApart 6 [(0, .ref 6), (1, .ref 12), (2, .long a2), (4, .int s.1), (5, .int s.2.1)] [] s.2.2 (some (Value.int r.1)) r.2) (K := fun y => kw_G E kwTX 48 (d + 2) μX6_stepApart 132 [(4, .int y.1)] [] y.2 (some (Value.int r.1)) r.2) (fun s o h0 hk => lX6_stepApart_6 a2 s.1 s.2.1 s.2.2 h0 hk) kw_F _ _ x18h ?_
  show kw_G E kwTX 48 (d + 2) μX6_stepApart 132 [(4, .int x18.1)] [] x18.2 (some (Value.int r.1)) r.2
  refine kg_iload 0 dX6_stepApart_132 rfl (pc2 := 134) rfl ?_
  obtain ⟨q19, h⟩ := kw_chk_e h
  cases h
  exact kg_iret (ty := .boolean) dX6_stepApart_134 rfl (kw_isB_n q19)
set_option maxHeartbeats 4000000 in
set_option maxRecDepth 100000 in
theorem lX6_twoApart_19 {E : kw_E} {d : Nat} (v2 : Int32) (v6 : Int32) (σ : kw_M) (v4 : Int64) (v7 : Int32) {v : Option Value} {σ2 : kw_M} {o : (Int64 × Int32) ⊕ (Int64)} (h : bX6_twoApart_19 v2 v6 σ v4 v7 = some o) (hk : Sum.elim (fun s => kw_G E kwTX 48 (d + 3) μX6_twoApart 19 [(0, .ref 6), (1, .ref 1), (2, .int v2), (3, .ref 12), (4, .long s.1), (6, .int v6), (7, .int s.2)] [] σ v σ2) (fun y => kw_G E kwTX 48 (d + 3) μX6_twoApart 46 [(0, .ref 6), (1, .ref 1), (2, .int v2), (3, .ref 12), (4, .long y)] [] σ v σ2) o) : kw_G E kwTX 48 (d + 3) μX6_twoApart 19 [(0, .ref 6), (1, .ref 1), (2, .int v2), (3, .ref 12), (4, .long v4), (6, .int v6), (7, .int v7)] [] σ v σ2 := by
  unfold bX6_twoApart_19 at h
  refine kg_iload 6 dX6_twoApart_19 rfl (pc2 := 21) rfl ?_
  refine kg_iload 5 dX6_twoApart_21 rfl (pc2 := 23) rfl ?_
  refine kg_icmp_ge 46 dX6_twoApart_23 rfl (pc2 := 26) rfl (fun q2 => ?_) (fun q2 => ?_)
  · replace h := (if_pos q2).symm.trans h
    refine kg_sub [0, 1, 2, 3, 4] (lv2 := [(0, .ref 6), (1, .ref 1), (2, .int v2), (3, .ref 12), (4, .long v4)]) rfl ?_
    cases h
    exact hk
  · replace h := (if_neg q2).symm.trans h
    refine kg_lload 4 dX6_twoApart_26 rfl (pc2 := 28) rfl ?_
    refine kg_lconst dX6_twoApart_28 kl_1 (pc2 := 29) rfl ?_
    refine kg_aload_n 0 dX6_twoApart_29 rfl (pc2 := 30) rfl ?_
    refine kg_getr clX6 rfl 1 (Nat.le_of_ble_eq_true rfl) lfRX6_15 tX_6 eX_6 rfl dX6_twoApart_30 (pc2 := 33) rfl ?_
    refine kg_iload 6 dX6_twoApart_33 rfl (pc2 := 35) rfl ?_
    obtain ⟨q3, h⟩ := kw_chk_e h
    refine kg_iald tX_42 eX_42 q3 (j := v7.toNatClampNeg) rfl dX6_twoApart_35 (pc2 := 36) rfl ?_
    refine kg_lshl dX6_twoApart_36 (pc2 := 37) rfl ?_
    refine kg_lor dX6_twoApart_37 (pc2 := 38) rfl ?_
    obtain ⟨x4, x4e, h⟩ := kw_let_e h
    refine kg_lstore dX6_twoApart_38 (Nat.le_of_ble_eq_true rfl) x4e (lv2 := [(4, .long x4), (0, .ref 6), (1, .ref 1), (2, .int v2), (3, .ref 12), (6, .int v6), (7, .int v7)]) rfl (pc2 := 40) rfl ?_
    obtain ⟨x5, x5e, h⟩ := kw_let_e h
    refine kg_iinc 6 dX6_twoApart_40 rfl (Nat.le_of_ble_eq_true rfl) x5e (lv2 := [(7, .int x5), (4, .long x4), (0, .ref 6), (1, .ref 1), (2, .int v2), (3, .ref 12), (6, .int v6)]) rfl (pc2 := 43) rfl ?_
    refine kg_goto 19 dX6_twoApart_43 rfl ?_
    refine kg_sub [2, 3, 4, 5, 1, 6, 0] (lv2 := [(0, .ref 6), (1, .ref 1), (2, .int v2), (3, .ref 12), (4, .long x4), (6, .int v6), (7, .int x5)]) rfl ?_
    cases h
    exact hk
set_option maxHeartbeats 4000000 in
set_option maxRecDepth 100000 in
theorem lX6_twoApart_64 {E : kw_E} {d : Nat} (v2 : Int32) (v4 : Int64) (v7 : Int32) (v8 : Int32) (σ : kw_M) {v : Option Value} {σ2 : kw_M} {o : (Int32 × Int32 × kw_M) ⊕ (kw_M)} (h : bX6_twoApart_64 v2 v4 v7 v8 σ = some o) (hk : Sum.elim (fun s => kw_G E kwTX 48 (d + 3) μX6_twoApart 64 [(0, .ref 6), (1, .ref 1), (2, .int v2), (3, .ref 12), (4, .long v4), (7, .int s.1), (8, .int s.2.1)] [] s.2.2 v σ2) (fun y => kw_G E kwTX 48 (d + 3) μX6_twoApart 93 [(0, .ref 6), (1, .ref 1), (2, .int v2)] [] y v σ2) o) : kw_G E kwTX 48 (d + 3) μX6_twoApart 64 [(0, .ref 6), (1, .ref 1), (2, .int v2), (3, .ref 12), (4, .long v4), (7, .int v7), (8, .int v8)] [] σ v σ2 := by
  unfold bX6_twoApart_64 at h
  refine kg_iload 6 dX6_twoApart_64 rfl (pc2 := 66) rfl ?_
  refine kg_aload_n 3 dX6_twoApart_66 rfl (pc2 := 67) rfl ?_
  refine kg_geti clX4 rfl 0 (Nat.le_of_ble_eq_true rfl) lfRX6_55 tX_12 eX_12 rfl dX6_twoApart_67 (pc2 := 70) rfl ?_
  refine kg_icmp_ge 93 dX6_twoApart_70 rfl (pc2 := 73) rfl (fun q8 => ?_) (fun q8 => ?_)
  · replace h := (if_pos q8).symm.trans h
    refine kg_sub [0, 1, 2] (lv2 := [(0, .ref 6), (1, .ref 1), (2, .int v2)]) rfl ?_
    cases h
    exact hk
  · replace h := (if_neg q8).symm.trans h
    refine kg_iload 5 dX6_twoApart_73 rfl (pc2 := 75) rfl ?_
    refine kg_if_eq 93 dX6_twoApart_75 rfl (pc2 := 78) rfl (fun q9 => ?_) (fun q9 => ?_)
    · replace h := (if_pos q9).symm.trans h
      refine kg_sub [0, 1, 2] (lv2 := [(0, .ref 6), (1, .ref 1), (2, .int v2)]) rfl ?_
      cases h
      exact hk
    · replace h := (if_neg q9).symm.trans h
      refine kg_aload_n 0 dX6_twoApart_78 rfl (pc2 := 79) rfl ?_
      refine kg_aload_n 3 dX6_twoApart_79 rfl (pc2 := 80) rfl ?_
      refine kg_lload 4 dX6_twoApart_80 rfl (pc2 := 82) rfl ?_
      obtain ⟨r10, r10h, h⟩ := kw_bind_e h
      refine kg_callV (μ := μX6_twoApart) (d := (d + 2)) rfl mVX6_stepApart [.ref 12, .long v4] [] (gX6_stepApart (E := E) (d := d) v4 σ r10h) rfl lmRX6_124 (ci := 6) rfl tX_6 eX_6 rfl (Nat.le_of_ble_eq_true rfl) dX6_twoApart_82 rfl (st2 := [.int r10.1]) rfl (pc2 := 85) rfl ?_
      refine kg_istore dX6_twoApart_85 (Nat.le_of_ble_eq_true rfl) rfl (lv2 := [(7, .int r10.1), (0, .ref 6), (1, .ref 1), (2, .int v2), (3, .ref 12), (4, .long v4), (8, .int v8)]) rfl (pc2 := 87) rfl ?_
      obtain ⟨x11, x11e, h⟩ := kw_let_e h
      refine kg_iinc 6 dX6_twoApart_87 rfl (Nat.le_of_ble_eq_true rfl) x11e (lv2 := [(8, .int x11), (7, .int r10.1), (0, .ref 6), (1, .ref 1), (2, .int v2), (3, .ref 12), (4, .long v4)]) rfl (pc2 := 90) rfl ?_
      refine kg_goto 64 dX6_twoApart_90 rfl ?_
      refine kg_sub [2, 3, 4, 5, 6, 1, 0] (lv2 := [(0, .ref 6), (1, .ref 1), (2, .int v2), (3, .ref 12), (4, .long v4), (7, .int r10.1), (8, .int x11)]) rfl ?_
      cases h
      exact hk
set_option maxHeartbeats 4000000 in
set_option maxRecDepth 100000 in
theorem gjX6_twoApart_93 {E : kw_E} {d : Nat} (v2 : Int32) (σ : kw_M) {r : Int64 × kw_M} (h : jX6_twoApart_93 v2 σ = some r) : kw_G E kwTX 48 (d + 3) μX6_twoApart 93 [(0, .ref 6), (1, .ref 1), (2, .int v2)] [] σ (some (Value.long r.1)) r.2 := by
  unfold jX6_twoApart_93 at h
  refine kg_aload_n 1 dX6_twoApart_93 rfl (pc2 := 94) rfl ?_
  refine kg_getr clX7 rfl 9 (Nat.le_of_ble_eq_true rfl) lfRX6_87 tX_1 eX_1 rfl dX6_twoApart_94 (pc2 := 97) rfl ?_
  refine kg_iload_n 2 dX6_twoApart_97 rfl (pc2 := 98) rfl ?_
  obtain ⟨q13, h⟩ := kw_chk_e h
  refine kg_lald tX_16 eX_16 q13 (j := v2.toNatClampNeg) rfl dX6_twoApart_98 (pc2 := 99) rfl ?_
  refine kg_aload_n 0 dX6_twoApart_99 rfl (pc2 := 100) rfl ?_
  refine kg_getr clX6 rfl 4 (Nat.le_of_ble_eq_true rfl) lfRX6_19 tX_6 eX_6 rfl dX6_twoApart_100 (pc2 := 103) rfl ?_
  refine kg_iload_n 2 dX6_twoApart_103 rfl (pc2 := 104) rfl ?_
  refine kg_lald tX_43 eX_43 q13 (j := v2.toNatClampNeg) rfl dX6_twoApart_104 (pc2 := 105) rfl ?_
  obtain ⟨r14, r14h, h⟩ := kw_bind_e h
  refine kg_callN (μ := μX6_twoApart) (d := (d + 2)) rfl mSX9_joined [.long (σ.2 16 v2.toNatClampNeg), .long (σ.2 43 v2.toNatClampNeg)] [] (gX9_joined (E := E) (d := (d + 2)) (σ.2 16 v2.toNatClampNeg) (σ.2 43 v2.toNatClampNeg) σ r14h) rfl lnRX6_106 rfl (Nat.le_of_ble_eq_true rfl) dX6_twoApart_105 rfl (st2 := [.long r14]) rfl (pc2 := 108) rfl ?_
  cases h
  exact kg_lret dX6_twoApart_108 rfl
set_option maxHeartbeats 4000000 in
set_option maxRecDepth 100000 in
theorem gX6_twoApart {E : kw_E} {d : Nat} (a2 : Int32) (σ : kw_M) {r : Int64 × kw_M} (h : fX6_twoApart a2 σ = some r) : kw_Met E kwTX 48 (d + 3) μX6_twoApart [.ref 6, .ref 1, .int a2] σ (some (Value.long r.1)) r.2 := by
  refine kw_enter plRX6 (Nat.le_of_ble_eq_true rfl) ?_
  show kw_G E kwTX 48 (d + 3) μX6_twoApart 0 [(0, .ref 6), (1, .ref 1), (2, .int a2)] [] σ (some (Value.long r.1)) r.2
  unfold fX6_twoApart at h
  refine kg_aload_n 1 dX6_twoApart_0 rfl (pc2 := 1) rfl ?_
  refine kg_getr clX7 rfl 0 (Nat.le_of_ble_eq_true rfl) lfRX6_30 tX_1 eX_1 rfl dX6_twoApart_1 (pc2 := 4) rfl ?_
  refine kg_astore_n dX6_twoApart_4 rfl (Nat.le_of_ble_eq_true rfl) rfl (lv2 := [(3, .ref 12), (0, .ref 6), (1, .ref 1), (2, .int a2)]) rfl (pc2 := 5) rfl ?_
  refine kg_lconst dX6_twoApart_5 kl_0 (pc2 := 6) rfl ?_
  refine kg_lstore dX6_twoApart_6 (Nat.le_of_ble_eq_true rfl) rfl (lv2 := [(4, .long (0 : Int64)), (3, .ref 12), (0, .ref 6), (1, .ref 1), (2, .int a2)]) rfl (pc2 := 8) rfl ?_
  refine kg_aload_n 2 dX6_twoApart_8 rfl (pc2 := 9) rfl ?_
  refine kg_aload_n 3 dX6_twoApart_9 rfl (pc2 := 10) rfl ?_
  refine kg_iload_n 4 dX6_twoApart_10 rfl (pc2 := 11) rfl ?_
  obtain ⟨r1, r1h, h⟩ := kw_bind_e h
  refine kg_callV (μ := μX6_twoApart) (d := (d + 2)) rfl mVX6_findWay [.ref 1, .int a2] [] (gX6_findWay (E := E) (d := (d + 2)) a2 σ r1h) rfl lmRX6_120 (ci := 6) rfl tX_6 eX_6 rfl (Nat.le_of_ble_eq_true rfl) dX6_twoApart_11 rfl (st2 := [.int r1.1]) rfl (pc2 := 14) rfl ?_
  refine kg_istore dX6_twoApart_14 (Nat.le_of_ble_eq_true rfl) rfl (lv2 := [(6, .int r1.1), (4, .long (0 : Int64)), (3, .ref 12), (0, .ref 6), (1, .ref 1), (2, .int a2)]) rfl (pc2 := 16) rfl ?_
  refine kg_iconst dX6_twoApart_16 ki_0 (pc2 := 17) rfl ?_
  refine kg_istore dX6_twoApart_17 (Nat.le_of_ble_eq_true rfl) rfl (lv2 := [(7, .int (0 : Int32)), (6, .int r1.1), (4, .long (0 : Int64)), (3, .ref 12), (0, .ref 6), (1, .ref 1), (2, .int a2)]) rfl (pc2 := 19) rfl ?_
  refine kg_sub [4, 5, 6, 3, 2, 1, 0] (lv2 := [(0, .ref 6), (1, .ref 1), (2, .int a2), (3, .ref 12), (4, .long (0 : Int64)), (6, .int r1.1), (7, .int (0 : Int32))]) rfl ?_
  obtain ⟨x6, x6h, h⟩ := kw_bind_e h
  refine kw_loop_e (P := fun s => kw_G E kwTX 48 (d + 3) μX6_twoApart 19 [(0, .ref 6), (1, .ref 1), (2, .int a2), (3, .ref 12), (4, .long s.1), (6, .int r1.1), (7, .int s.2)] [] r1.2 (some (Value.long r.1)) r.2) (K := fun y => kw_G E kwTX 48 (d + 3) μX6_twoApart 46 [(0, .ref 6), (1, .ref 1), (2, .int a2), (3, .ref 12), (4, .long y)] [] r1.2 (some (Value.long r.1)) r.2) (fun s o h0 hk => lX6_twoApart_19 a2 r1.1 r1.2 s.1 s.2 h0 hk) kw_F _ _ x6h ?_
  show kw_G E kwTX 48 (d + 3) μX6_twoApart 46 [(0, .ref 6), (1, .ref 1), (2, .int a2), (3, .ref 12), (4, .long x6)] [] r1.2 (some (Value.long r.1)) r.2
  refine kg_aload_n 3 dX6_twoApart_46 rfl (pc2 := 47) rfl ?_
  refine kg_aload_n 1 dX6_twoApart_47 rfl (pc2 := 48) rfl ?_
  refine kg_geti clX7 rfl 2 (Nat.le_of_ble_eq_true rfl) lfRX6_51 tX_1 eX_1 rfl dX6_twoApart_48 (pc2 := 51) rfl ?_
  refine kg_aload_n 0 dX6_twoApart_51 rfl (pc2 := 52) rfl ?_
  refine kg_getr clX6 rfl 4 (Nat.le_of_ble_eq_true rfl) lfRX6_19 tX_6 eX_6 rfl dX6_twoApart_52 (pc2 := 55) rfl ?_
  obtain ⟨r7, r7h, h⟩ := kw_bind_e h
  refine kg_callV (μ := μX6_twoApart) (d := (d + 2)) rfl mVX4_beginRow [.int (r1.2.1 1 2), .ref 43] [] (gX4_beginRow (E := E) (d := (d + 1)) 43 ⟨tX_43, eX_43⟩ (r1.2.1 1 2) r1.2 r7h) rfl lmRX6_79 (ci := 4) rfl tX_12 eX_12 rfl (Nat.le_of_ble_eq_true rfl) dX6_twoApart_55 rfl (st2 := []) rfl (pc2 := 58) rfl ?_
  refine kg_iconst dX6_twoApart_58 ki_1 (pc2 := 59) rfl ?_
  refine kg_istore dX6_twoApart_59 (Nat.le_of_ble_eq_true rfl) rfl (lv2 := [(7, .int (1 : Int32)), (0, .ref 6), (1, .ref 1), (2, .int a2), (3, .ref 12), (4, .long x6)]) rfl (pc2 := 61) rfl ?_
  refine kg_iconst dX6_twoApart_61 ki_0 (pc2 := 62) rfl ?_
  refine kg_istore dX6_twoApart_62 (Nat.le_of_ble_eq_true rfl) rfl (lv2 := [(8, .int (0 : Int32)), (7, .int (1 : Int32)), (0, .ref 6), (1, .ref 1), (2, .int a2), (3, .ref 12), (4, .long x6)]) rfl (pc2 := 64) rfl ?_
  refine kg_sub [2, 3, 4, 5, 6, 1, 0] (lv2 := [(0, .ref 6), (1, .ref 1), (2, .int a2), (3, .ref 12), (4, .long x6), (7, .int (1 : Int32)), (8, .int (0 : Int32))]) rfl ?_
  obtain ⟨x12, x12h, h⟩ := kw_bind_e h
  refine kw_loop_e (P := fun s => kw_G E kwTX 48 (d + 3) μX6_twoApart 64 [(0, .ref 6), (1, .ref 1), (2, .int a2), (3, .ref 12), (4, .long x6), (7, .int s.1), (8, .int s.2.1)] [] s.2.2 (some (Value.long r.1)) r.2) (K := fun y => kw_G E kwTX 48 (d + 3) μX6_twoApart 93 [(0, .ref 6), (1, .ref 1), (2, .int a2)] [] y (some (Value.long r.1)) r.2) (fun s o h0 hk => lX6_twoApart_64 a2 x6 s.1 s.2.1 s.2.2 h0 hk) kw_F _ _ x12h ?_
  show kw_G E kwTX 48 (d + 3) μX6_twoApart 93 [(0, .ref 6), (1, .ref 1), (2, .int a2)] [] x12 (some (Value.long r.1)) r.2
  exact gjX6_twoApart_93 a2 x12 h
set_option maxHeartbeats 4000000 in
set_option maxRecDepth 100000 in
theorem gX9_apartLength {E : kw_E} {d : Nat} (a1 : Int32) (σ : kw_M) {r : Int64 × kw_M} (h : fX9_apartLength a1 σ = some r) : kw_Met E kwTX 48 (d + 4) μX9_apartLength [.ref 0, .int a1] σ (some (Value.long r.1)) r.2 := by
  refine kw_enter plRX9 (Nat.le_of_ble_eq_true rfl) ?_
  show kw_G E kwTX 48 (d + 4) μX9_apartLength 0 [(0, .ref 0), (1, .int a1)] [] σ (some (Value.long r.1)) r.2
  unfold fX9_apartLength at h
  refine kg_aload_n 0 dX9_apartLength_0 rfl (pc2 := 1) rfl ?_
  refine kg_getr clX9 rfl 0 (Nat.le_of_ble_eq_true rfl) lfRX9_10 tX_0 eX_0 rfl dX9_apartLength_1 (pc2 := 4) rfl ?_
  refine kg_iload_n 1 dX9_apartLength_4 rfl (pc2 := 5) rfl ?_
  obtain ⟨r1, r1h, h⟩ := kw_bind_e h
  refine kg_callV (μ := μX9_apartLength) (d := (d + 3)) rfl mVX7_hasDistance [.int a1] [] (gX7_hasDistance (E := E) (d := (d + 3)) a1 σ r1h) rfl lmRX9_289 (ci := 7) rfl tX_1 eX_1 rfl (Nat.le_of_ble_eq_true rfl) dX9_apartLength_5 rfl (st2 := [.int r1]) rfl (pc2 := 8) rfl ?_
  refine kg_if_ne 15 dX9_apartLength_8 rfl (pc2 := 11) rfl (fun q2 => ?_) (fun q2 => ?_)
  · replace h := (if_neg q2).symm.trans h
    refine kg_iload_n 1 dX9_apartLength_15 rfl (pc2 := 16) rfl ?_
    refine kg_aload_n 0 dX9_apartLength_16 rfl (pc2 := 17) rfl ?_
    refine kg_getr clX9 rfl 0 (Nat.le_of_ble_eq_true rfl) lfRX9_10 tX_0 eX_0 rfl dX9_apartLength_17 (pc2 := 20) rfl ?_
    refine kg_geti clX7 rfl 2 (Nat.le_of_ble_eq_true rfl) lfRX9_189 tX_1 eX_1 rfl dX9_apartLength_20 (pc2 := 23) rfl ?_
    refine kg_icmp_ne 30 dX9_apartLength_23 rfl (pc2 := 26) rfl (fun q3 => ?_) (fun q3 => ?_)
    · replace h := (if_neg q3).symm.trans h
      refine kg_aload_n 0 dX9_apartLength_30 rfl (pc2 := 31) rfl ?_
      refine kg_getr clX9 rfl 6 (Nat.le_of_ble_eq_true rfl) lfRX9_43 tX_0 eX_0 rfl dX9_apartLength_31 (pc2 := 34) rfl ?_
      refine kg_aload_n 0 dX9_apartLength_34 rfl (pc2 := 35) rfl ?_
      refine kg_getr clX9 rfl 0 (Nat.le_of_ble_eq_true rfl) lfRX9_10 tX_0 eX_0 rfl dX9_apartLength_35 (pc2 := 38) rfl ?_
      refine kg_iload_n 1 dX9_apartLength_38 rfl (pc2 := 39) rfl ?_
      obtain ⟨r4, r4h, h⟩ := kw_bind_e h
      refine kg_callV (μ := μX9_apartLength) (d := (d + 3)) rfl mVX6_twoApart [.ref 1, .int a1] [] (gX6_twoApart (E := E) (d := d) a1 σ r4h) rfl lmRX9_385 (ci := 6) rfl tX_6 eX_6 rfl (Nat.le_of_ble_eq_true rfl) dX9_apartLength_39 rfl (st2 := [.long r4.1]) rfl (pc2 := 42) rfl ?_
      cases h
      exact kg_lret dX9_apartLength_42 rfl
    · replace h := (if_pos q3).symm.trans h
      refine kg_lconst dX9_apartLength_26 kl_0 (pc2 := 27) rfl ?_
      refine kg_goto 42 dX9_apartLength_27 rfl ?_
      cases h
      exact kg_lret dX9_apartLength_42 rfl
  · replace h := (if_pos q2).symm.trans h
    refine kg_ldc2 rfl lcRX9_261 dX9_apartLength_11 (pc2 := 14) rfl ?_
    cases h
    exact kg_lret dX9_apartLength_14 rfl
set_option maxHeartbeats 4000000 in
set_option maxRecDepth 100000 in
theorem lX2_comersTo_4 {E : kw_E} {d : Nat} (v1 : Int32) (σ : kw_M) (v2 : Int32) (v3 : Int32) {v : Option Value} {σ2 : kw_M} {o : (Int32 × Int32) ⊕ (Int32)} (h : bX2_comersTo_4 v1 σ v2 v3 = some o) (hk : Sum.elim (fun s => kw_G E kwTX 48 (d + 2) μX2_comersTo 4 [(0, .ref 5), (1, .int v1), (2, .int s.1), (3, .int s.2)] [] σ v σ2) (fun y => kw_G E kwTX 48 (d + 2) μX2_comersTo 35 [(2, .int y)] [] σ v σ2) o) : kw_G E kwTX 48 (d + 2) μX2_comersTo 4 [(0, .ref 5), (1, .int v1), (2, .int v2), (3, .int v3)] [] σ v σ2 := by
  unfold bX2_comersTo_4 at h
  refine kg_iload_n 3 dX2_comersTo_4 rfl (pc2 := 5) rfl ?_
  refine kg_aload_n 0 dX2_comersTo_5 rfl (pc2 := 6) rfl ?_
  refine kg_geti clX2 rfl 1 (Nat.le_of_ble_eq_true rfl) lfRX2_24 tX_5 eX_5 rfl dX2_comersTo_6 (pc2 := 9) rfl ?_
  refine kg_icmp_ge 35 dX2_comersTo_9 rfl (pc2 := 12) rfl (fun q1 => ?_) (fun q1 => ?_)
  · replace h := (if_pos q1).symm.trans h
    refine kg_sub [2] (lv2 := [(2, .int v2)]) rfl ?_
    cases h
    exact hk
  · replace h := (if_neg q1).symm.trans h
    refine kg_iload_n 3 dX2_comersTo_12 rfl (pc2 := 13) rfl ?_
    refine kg_iload_n 1 dX2_comersTo_13 rfl (pc2 := 14) rfl ?_
    refine kg_icmp_eq 29 dX2_comersTo_14 rfl (pc2 := 17) rfl (fun q2 => ?_) (fun q2 => ?_)
    · replace h := (if_pos q2).symm.trans h
      obtain ⟨x3, x3e, h⟩ := kw_let_e h
      refine kg_iinc 3 dX2_comersTo_29 rfl (Nat.le_of_ble_eq_true rfl) x3e (lv2 := [(3, .int x3), (0, .ref 5), (1, .int v1), (2, .int v2)]) rfl (pc2 := 32) rfl ?_
      refine kg_goto 4 dX2_comersTo_32 rfl ?_
      refine kg_sub [1, 2, 3, 0] (lv2 := [(0, .ref 5), (1, .int v1), (2, .int v2), (3, .int x3)]) rfl ?_
      cases h
      exact hk
    · replace h := (if_neg q2).symm.trans h
      refine kg_aload_n 0 dX2_comersTo_17 rfl (pc2 := 18) rfl ?_
      refine kg_iload_n 3 dX2_comersTo_18 rfl (pc2 := 19) rfl ?_
      refine kg_iload_n 1 dX2_comersTo_19 rfl (pc2 := 20) rfl ?_
      obtain ⟨r4, r4h, h⟩ := kw_bind_e h
      refine kg_callV (μ := μX2_comersTo) (d := (d + 1)) rfl mVX2_comesTo [.int v3, .int v1] [] (gX2_comesTo (E := E) (d := d) v3 v1 σ r4h) rfl lmRX2_45 (ci := 2) rfl tX_5 eX_5 rfl (Nat.le_of_ble_eq_true rfl) dX2_comersTo_20 rfl (st2 := [.int r4]) rfl (pc2 := 23) rfl ?_
      refine kg_if_eq 29 dX2_comersTo_23 rfl (pc2 := 26) rfl (fun q5 => ?_) (fun q5 => ?_)
      · replace h := (if_pos q5).symm.trans h
        obtain ⟨x6, x6e, h⟩ := kw_let_e h
        refine kg_iinc 3 dX2_comersTo_29 rfl (Nat.le_of_ble_eq_true rfl) x6e (lv2 := [(3, .int x6), (0, .ref 5), (1, .int v1), (2, .int v2)]) rfl (pc2 := 32) rfl ?_
        refine kg_goto 4 dX2_comersTo_32 rfl ?_
        refine kg_sub [1, 2, 3, 0] (lv2 := [(0, .ref 5), (1, .int v1), (2, .int v2), (3, .int x6)]) rfl ?_
        cases h
        exact hk
      · replace h := (if_neg q5).symm.trans h
        obtain ⟨x7, x7e, h⟩ := kw_let_e h
        refine kg_iinc 2 dX2_comersTo_26 rfl (Nat.le_of_ble_eq_true rfl) x7e (lv2 := [(2, .int x7), (0, .ref 5), (1, .int v1), (3, .int v3)]) rfl (pc2 := 29) rfl ?_
        obtain ⟨x8, x8e, h⟩ := kw_let_e h
        refine kg_iinc 3 dX2_comersTo_29 rfl (Nat.le_of_ble_eq_true rfl) x8e (lv2 := [(3, .int x8), (2, .int x7), (0, .ref 5), (1, .int v1)]) rfl (pc2 := 32) rfl ?_
        refine kg_goto 4 dX2_comersTo_32 rfl ?_
        refine kg_sub [2, 3, 1, 0] (lv2 := [(0, .ref 5), (1, .int v1), (2, .int x7), (3, .int x8)]) rfl ?_
        cases h
        exact hk
set_option maxHeartbeats 4000000 in
set_option maxRecDepth 100000 in
theorem gX2_comersTo {E : kw_E} {d : Nat} (a1 : Int32) (σ : kw_M) {r : Int32} (h : fX2_comersTo a1 σ = some r) : kw_Met E kwTX 48 (d + 2) μX2_comersTo [.ref 5, .int a1] σ (some (Value.int r)) σ := by
  refine kw_enter plRX2 (Nat.le_of_ble_eq_true rfl) ?_
  show kw_G E kwTX 48 (d + 2) μX2_comersTo 0 [(0, .ref 5), (1, .int a1)] [] σ (some (Value.int r)) σ
  unfold fX2_comersTo at h
  refine kg_iconst dX2_comersTo_0 ki_0 (pc2 := 1) rfl ?_
  refine kg_istore_n dX2_comersTo_1 rfl (Nat.le_of_ble_eq_true rfl) rfl (lv2 := [(2, .int (0 : Int32)), (0, .ref 5), (1, .int a1)]) rfl (pc2 := 2) rfl ?_
  refine kg_iconst dX2_comersTo_2 ki_0 (pc2 := 3) rfl ?_
  refine kg_istore_n dX2_comersTo_3 rfl (Nat.le_of_ble_eq_true rfl) rfl (lv2 := [(3, .int (0 : Int32)), (2, .int (0 : Int32)), (0, .ref 5), (1, .int a1)]) rfl (pc2 := 4) rfl ?_
  refine kg_sub [2, 3, 1, 0] (lv2 := [(0, .ref 5), (1, .int a1), (2, .int (0 : Int32)), (3, .int (0 : Int32))]) rfl ?_
  obtain ⟨x9, x9h, h⟩ := kw_bind_e h
  refine kw_loop_e (P := fun s => kw_G E kwTX 48 (d + 2) μX2_comersTo 4 [(0, .ref 5), (1, .int a1), (2, .int s.1), (3, .int s.2)] [] σ (some (Value.int r)) σ) (K := fun y => kw_G E kwTX 48 (d + 2) μX2_comersTo 35 [(2, .int y)] [] σ (some (Value.int r)) σ) (fun s o h0 hk => lX2_comersTo_4 a1 σ s.1 s.2 h0 hk) kw_F _ _ x9h ?_
  show kw_G E kwTX 48 (d + 2) μX2_comersTo 35 [(2, .int x9)] [] σ (some (Value.int r)) σ
  refine kg_iload_n 0 dX2_comersTo_35 rfl (pc2 := 36) rfl ?_
  cases h
  exact kg_iret (ty := .int) dX2_comersTo_36 rfl rfl
set_option maxHeartbeats 4000000 in
set_option maxRecDepth 100000 in
theorem gX9_town {E : kw_E} {d : Nat} (a1 : Int32) (a2 : Int32) (σ : kw_M) {r : Int64 × kw_M} (h : fX9_town a1 a2 σ = some r) : kw_Met E kwTX 48 (d + 25) μX9_town [.ref 0, .int a1, .int a2] σ (some (Value.long r.1)) r.2 := by
  refine kw_enter plRX9 (Nat.le_of_ble_eq_true rfl) ?_
  show kw_G E kwTX 48 (d + 25) μX9_town 0 [(0, .ref 0), (1, .int a1), (2, .int a2)] [] σ (some (Value.long r.1)) r.2
  unfold fX9_town at h
  refine kg_aload_n 0 dX9_town_0 rfl (pc2 := 1) rfl ?_
  refine kg_getr clX9 rfl 0 (Nat.le_of_ble_eq_true rfl) lfRX9_10 tX_0 eX_0 rfl dX9_town_1 (pc2 := 4) rfl ?_
  refine kg_getr clX7 rfl 0 (Nat.le_of_ble_eq_true rfl) lfRX9_148 tX_1 eX_1 rfl dX9_town_4 (pc2 := 7) rfl ?_
  refine kg_iload_n 1 dX9_town_7 rfl (pc2 := 8) rfl ?_
  obtain ⟨r1, r1h, h⟩ := kw_bind_e h
  refine kg_callV (μ := μX9_town) (d := (d + 24)) rfl mVX4_hasTown [.int a1] [] (gX4_hasTown (E := E) (d := (d + 24)) a1 σ r1h) rfl lmRX9_176 (ci := 4) rfl tX_12 eX_12 rfl (Nat.le_of_ble_eq_true rfl) dX9_town_8 rfl (st2 := [.int r1]) rfl (pc2 := 11) rfl ?_
  refine kg_if_ne 18 dX9_town_11 rfl (pc2 := 14) rfl (fun q2 => ?_) (fun q2 => ?_)
  · replace h := (if_neg q2).symm.trans h
    refine kg_iload_n 2 dX9_town_18 rfl (pc2 := 19) rfl ?_
    by_cases q3 : a2 = (0 : Int32)
    · replace h := (if_pos q3).symm.trans h
      refine kg_tsIn (off := 77) 96 dX9_town_19 (by rw [q3]; decide) (by rw [q3]; decide) (by rw [q3]; decide) rfl ?_
      refine kg_aload_n 0 dX9_town_96 rfl (pc2 := 97) rfl ?_
      refine kg_getr clX9 rfl 0 (Nat.le_of_ble_eq_true rfl) lfRX9_10 tX_0 eX_0 rfl dX9_town_97 (pc2 := 100) rfl ?_
      refine kg_getr clX7 rfl 9 (Nat.le_of_ble_eq_true rfl) lfRX9_284 tX_1 eX_1 rfl dX9_town_100 (pc2 := 103) rfl ?_
      refine kg_iload_n 1 dX9_town_103 rfl (pc2 := 104) rfl ?_
      obtain ⟨q4, h⟩ := kw_chk_e h
      refine kg_lald tX_16 eX_16 q4 (j := a1.toNatClampNeg) rfl dX9_town_104 (pc2 := 105) rfl ?_
      cases h
      exact kg_lret dX9_town_105 rfl
    · replace h := (if_neg q3).symm.trans h
      by_cases q5 : a2 = (1 : Int32)
      · replace h := (if_pos q5).symm.trans h
        refine kg_tsIn (off := 87) 106 dX9_town_19 (by rw [q5]; decide) (by rw [q5]; decide) (by rw [q5]; decide) rfl ?_
        refine kg_aload_n 0 dX9_town_106 rfl (pc2 := 107) rfl ?_
        refine kg_getr clX9 rfl 0 (Nat.le_of_ble_eq_true rfl) lfRX9_10 tX_0 eX_0 rfl dX9_town_107 (pc2 := 110) rfl ?_
        refine kg_getr clX7 rfl 10 (Nat.le_of_ble_eq_true rfl) lfRX9_272 tX_1 eX_1 rfl dX9_town_110 (pc2 := 113) rfl ?_
        refine kg_iload_n 1 dX9_town_113 rfl (pc2 := 114) rfl ?_
        obtain ⟨q6, h⟩ := kw_chk_e h
        refine kg_iald tX_17 eX_17 q6 (j := a1.toNatClampNeg) rfl dX9_town_114 (pc2 := 115) rfl ?_
        refine kg_iconst dX9_town_115 ki_m1 (pc2 := 116) rfl ?_
        refine kg_icmp_ne 125 dX9_town_116 rfl (pc2 := 119) rfl (fun q7 => ?_) (fun q7 => ?_)
        · replace h := (if_neg q7).symm.trans h
          refine kg_aload_n 0 dX9_town_125 rfl (pc2 := 126) rfl ?_
          refine kg_getr clX9 rfl 0 (Nat.le_of_ble_eq_true rfl) lfRX9_10 tX_0 eX_0 rfl dX9_town_126 (pc2 := 129) rfl ?_
          refine kg_getr clX7 rfl 10 (Nat.le_of_ble_eq_true rfl) lfRX9_272 tX_1 eX_1 rfl dX9_town_129 (pc2 := 132) rfl ?_
          refine kg_iload_n 1 dX9_town_132 rfl (pc2 := 133) rfl ?_
          refine kg_iald tX_17 eX_17 q6 (j := a1.toNatClampNeg) rfl dX9_town_133 (pc2 := 134) rfl ?_
          refine kg_i2l dX9_town_134 (pc2 := 135) rfl ?_
          cases h
          exact kg_lret dX9_town_135 rfl
        · replace h := (if_pos q7).symm.trans h
          refine kg_ldc2 rfl lcRX9_287 dX9_town_119 (pc2 := 122) rfl ?_
          refine kg_goto 135 dX9_town_122 rfl ?_
          cases h
          exact kg_lret dX9_town_135 rfl
      · replace h := (if_neg q5).symm.trans h
        by_cases q8 : a2 = (2 : Int32)
        · replace h := (if_pos q8).symm.trans h
          refine kg_tsIn (off := 117) 136 dX9_town_19 (by rw [q8]; decide) (by rw [q8]; decide) (by rw [q8]; decide) rfl ?_
          refine kg_aload_n 0 dX9_town_136 rfl (pc2 := 137) rfl ?_
          refine kg_getr clX9 rfl 0 (Nat.le_of_ble_eq_true rfl) lfRX9_10 tX_0 eX_0 rfl dX9_town_137 (pc2 := 140) rfl ?_
          refine kg_iload_n 1 dX9_town_140 rfl (pc2 := 141) rfl ?_
          obtain ⟨r9, r9h, h⟩ := kw_bind_e h
          refine kg_callV (μ := μX9_town) (d := (d + 24)) rfl mVX7_hasDistance [.int a1] [] (gX7_hasDistance (E := E) (d := (d + 24)) a1 σ r9h) rfl lmRX9_289 (ci := 7) rfl tX_1 eX_1 rfl (Nat.le_of_ble_eq_true rfl) dX9_town_141 rfl (st2 := [.int r9]) rfl (pc2 := 144) rfl ?_
          refine kg_if_eq 156 dX9_town_144 rfl (pc2 := 147) rfl (fun q10 => ?_) (fun q10 => ?_)
          · replace h := (if_pos q10).symm.trans h
            refine kg_ldc2 rfl lcRX9_287 dX9_town_156 (pc2 := 159) rfl ?_
            cases h
            exact kg_lret dX9_town_159 rfl
          · replace h := (if_neg q10).symm.trans h
            refine kg_aload_n 0 dX9_town_147 rfl (pc2 := 148) rfl ?_
            refine kg_iload_n 1 dX9_town_148 rfl (pc2 := 149) rfl ?_
            obtain ⟨r11, r11h, h⟩ := kw_bind_e h
            refine kg_callV (μ := μX9_town) (d := (d + 24)) rfl mVX9_findWay [.int a1] [] (gX9_findWay (E := E) (d := (d + 23)) a1 σ r11h) rfl lmRX9_292 (ci := 9) rfl tX_0 eX_0 rfl (Nat.le_of_ble_eq_true rfl) dX9_town_149 rfl (st2 := [.int r11.1]) rfl (pc2 := 152) rfl ?_
            refine kg_i2l dX9_town_152 (pc2 := 153) rfl ?_
            refine kg_goto 159 dX9_town_153 rfl ?_
            cases h
            exact kg_lret dX9_town_159 rfl
        · replace h := (if_neg q8).symm.trans h
          by_cases q12 : a2 = (3 : Int32)
          · replace h := (if_pos q12).symm.trans h
            refine kg_tsIn (off := 141) 160 dX9_town_19 (by rw [q12]; decide) (by rw [q12]; decide) (by rw [q12]; decide) rfl ?_
            refine kg_aload_n 0 dX9_town_160 rfl (pc2 := 161) rfl ?_
            refine kg_getr clX9 rfl 0 (Nat.le_of_ble_eq_true rfl) lfRX9_10 tX_0 eX_0 rfl dX9_town_161 (pc2 := 164) rfl ?_
            refine kg_iload_n 1 dX9_town_164 rfl (pc2 := 165) rfl ?_
            obtain ⟨r13, r13h, h⟩ := kw_bind_e h
            refine kg_callV (μ := μX9_town) (d := (d + 24)) rfl mVX7_tightTo [.int a1] [] (gX7_tightTo (E := E) (d := (d + 22)) a1 σ r13h) rfl lmRX9_279 (ci := 7) rfl tX_1 eX_1 rfl (Nat.le_of_ble_eq_true rfl) dX9_town_165 rfl (st2 := [.int r13]) rfl (pc2 := 168) rfl ?_
            refine kg_i2l dX9_town_168 (pc2 := 169) rfl ?_
            cases h
            exact kg_lret dX9_town_169 rfl
          · replace h := (if_neg q12).symm.trans h
            by_cases q14 : a2 = (4 : Int32)
            · replace h := (if_pos q14).symm.trans h
              refine kg_tsIn (off := 151) 170 dX9_town_19 (by rw [q14]; decide) (by rw [q14]; decide) (by rw [q14]; decide) rfl ?_
              refine kg_aload_n 0 dX9_town_170 rfl (pc2 := 171) rfl ?_
              refine kg_getr clX9 rfl 6 (Nat.le_of_ble_eq_true rfl) lfRX9_43 tX_0 eX_0 rfl dX9_town_171 (pc2 := 174) rfl ?_
              refine kg_aload_n 0 dX9_town_174 rfl (pc2 := 175) rfl ?_
              refine kg_getr clX9 rfl 0 (Nat.le_of_ble_eq_true rfl) lfRX9_10 tX_0 eX_0 rfl dX9_town_175 (pc2 := 178) rfl ?_
              refine kg_iload_n 1 dX9_town_178 rfl (pc2 := 179) rfl ?_
              obtain ⟨r15, r15h, h⟩ := kw_bind_e h
              refine kg_callV (μ := μX9_town) (d := (d + 24)) rfl mVX6_waysAsShort [.ref 1, .int a1] [] (gX6_waysAsShort (E := E) (d := (d + 22)) a1 σ r15h) rfl lmRX9_295 (ci := 6) rfl tX_6 eX_6 rfl (Nat.le_of_ble_eq_true rfl) dX9_town_179 rfl (st2 := [.long r15.1]) rfl (pc2 := 182) rfl ?_
              cases h
              exact kg_lret dX9_town_182 rfl
            · replace h := (if_neg q14).symm.trans h
              by_cases q16 : a2 = (5 : Int32)
              · replace h := (if_pos q16).symm.trans h
                refine kg_tsIn (off := 164) 183 dX9_town_19 (by rw [q16]; decide) (by rw [q16]; decide) (by rw [q16]; decide) rfl ?_
                refine kg_aload_n 0 dX9_town_183 rfl (pc2 := 184) rfl ?_
                refine kg_getr clX9 rfl 0 (Nat.le_of_ble_eq_true rfl) lfRX9_10 tX_0 eX_0 rfl dX9_town_184 (pc2 := 187) rfl ?_
                refine kg_iload_n 1 dX9_town_187 rfl (pc2 := 188) rfl ?_
                obtain ⟨r17, r17h, h⟩ := kw_bind_e h
                refine kg_callV (μ := μX9_town) (d := (d + 24)) rfl mVX7_hasDistance [.int a1] [] (gX7_hasDistance (E := E) (d := (d + 24)) a1 σ r17h) rfl lmRX9_289 (ci := 7) rfl tX_1 eX_1 rfl (Nat.le_of_ble_eq_true rfl) dX9_town_188 rfl (st2 := [.int r17]) rfl (pc2 := 191) rfl ?_
                refine kg_if_eq 203 dX9_town_191 rfl (pc2 := 194) rfl (fun q18 => ?_) (fun q18 => ?_)
                · replace h := (if_pos q18).symm.trans h
                  refine kg_ldc2 rfl lcRX9_287 dX9_town_203 (pc2 := 206) rfl ?_
                  cases h
                  exact kg_lret dX9_town_206 rfl
                · replace h := (if_neg q18).symm.trans h
                  refine kg_aload_n 0 dX9_town_194 rfl (pc2 := 195) rfl ?_
                  refine kg_iload_n 1 dX9_town_195 rfl (pc2 := 196) rfl ?_
                  obtain ⟨r19, r19h, h⟩ := kw_bind_e h
                  refine kg_callV (μ := μX9_town) (d := (d + 24)) rfl mVX9_neededCount [.int a1] [] (gX9_neededCount (E := E) (d := (d + 20)) a1 σ r19h) rfl lmRX9_299 (ci := 9) rfl tX_0 eX_0 rfl (Nat.le_of_ble_eq_true rfl) dX9_town_196 rfl (st2 := [.int r19.1]) rfl (pc2 := 199) rfl ?_
                  refine kg_i2l dX9_town_199 (pc2 := 200) rfl ?_
                  refine kg_goto 206 dX9_town_200 rfl ?_
                  cases h
                  exact kg_lret dX9_town_206 rfl
              · replace h := (if_neg q16).symm.trans h
                by_cases q20 : a2 = (6 : Int32)
                · replace h := (if_pos q20).symm.trans h
                  refine kg_tsIn (off := 188) 207 dX9_town_19 (by rw [q20]; decide) (by rw [q20]; decide) (by rw [q20]; decide) rfl ?_
                  refine kg_aload_n 0 dX9_town_207 rfl (pc2 := 208) rfl ?_
                  refine kg_iload_n 1 dX9_town_208 rfl (pc2 := 209) rfl ?_
                  obtain ⟨r21, r21h, h⟩ := kw_bind_e h
                  refine kg_callV (μ := μX9_town) (d := (d + 24)) rfl mVX9_dearestRoad [.int a1] [] (gX9_dearestRoad (E := E) (d := (d + 21)) a1 σ r21h) rfl lmRX9_302 (ci := 9) rfl tX_0 eX_0 rfl (Nat.le_of_ble_eq_true rfl) dX9_town_209 rfl (st2 := [.int r21.1]) rfl (pc2 := 212) rfl ?_
                  refine kg_i2l dX9_town_212 (pc2 := 213) rfl ?_
                  cases h
                  exact kg_lret dX9_town_213 rfl
                · replace h := (if_neg q20).symm.trans h
                  by_cases q22 : a2 = (7 : Int32)
                  · replace h := (if_pos q22).symm.trans h
                    refine kg_tsIn (off := 195) 214 dX9_town_19 (by rw [q22]; decide) (by rw [q22]; decide) (by rw [q22]; decide) rfl ?_
                    refine kg_aload_n 0 dX9_town_214 rfl (pc2 := 215) rfl ?_
                    refine kg_getr clX9 rfl 0 (Nat.le_of_ble_eq_true rfl) lfRX9_10 tX_0 eX_0 rfl dX9_town_215 (pc2 := 218) rfl ?_
                    refine kg_iload_n 1 dX9_town_218 rfl (pc2 := 219) rfl ?_
                    obtain ⟨r23, r23h, h⟩ := kw_bind_e h
                    refine kg_callV (μ := μX9_town) (d := (d + 24)) rfl mVX7_hasDistance [.int a1] [] (gX7_hasDistance (E := E) (d := (d + 24)) a1 σ r23h) rfl lmRX9_289 (ci := 7) rfl tX_1 eX_1 rfl (Nat.le_of_ble_eq_true rfl) dX9_town_219 rfl (st2 := [.int r23]) rfl (pc2 := 222) rfl ?_
                    refine kg_if_eq 236 dX9_town_222 rfl (pc2 := 225) rfl (fun q24 => ?_) (fun q24 => ?_)
                    · replace h := (if_pos q24).symm.trans h
                      refine kg_ldc2 rfl lcRX9_261 dX9_town_236 (pc2 := 239) rfl ?_
                      cases h
                      exact kg_lret dX9_town_239 rfl
                    · replace h := (if_neg q24).symm.trans h
                      refine kg_aload_n 0 dX9_town_225 rfl (pc2 := 226) rfl ?_
                      refine kg_getr clX9 rfl 7 (Nat.le_of_ble_eq_true rfl) lfRX9_52 tX_0 eX_0 rfl dX9_town_226 (pc2 := 229) rfl ?_
                      refine kg_iload_n 1 dX9_town_229 rfl (pc2 := 230) rfl ?_
                      obtain ⟨r25, r25h, h⟩ := kw_bind_e h
                      refine kg_callV (μ := μX9_town) (d := (d + 24)) rfl mVX1_findNext [.int a1] [] (gX1_findNext (E := E) (d := d) a1 σ r25h) rfl lmRX9_305 (ci := 1) rfl tX_7 eX_7 rfl (Nat.le_of_ble_eq_true rfl) dX9_town_230 rfl (st2 := [.long r25.1]) rfl (pc2 := 233) rfl ?_
                      refine kg_goto 239 dX9_town_233 rfl ?_
                      cases h
                      exact kg_lret dX9_town_239 rfl
                  · replace h := (if_neg q22).symm.trans h
                    by_cases q26 : a2 = (8 : Int32)
                    · replace h := (if_pos q26).symm.trans h
                      refine kg_tsIn (off := 221) 240 dX9_town_19 (by rw [q26]; decide) (by rw [q26]; decide) (by rw [q26]; decide) rfl ?_
                      refine kg_aload_n 0 dX9_town_240 rfl (pc2 := 241) rfl ?_
                      obtain ⟨r27, r27h, h⟩ := kw_bind_e h
                      refine kg_callV (μ := μX9_town) (d := (d + 24)) rfl mVX9_rightPairs [] [] (gX9_rightPairs (E := E) (d := (d + 21)) σ r27h) rfl lmRX9_251 (ci := 9) rfl tX_0 eX_0 rfl (Nat.le_of_ble_eq_true rfl) dX9_town_241 rfl (st2 := [.ref 5]) rfl (pc2 := 244) rfl ?_
                      refine kg_iload_n 1 dX9_town_244 rfl (pc2 := 245) rfl ?_
                      obtain ⟨r28, r28h, h⟩ := kw_bind_e h
                      refine kg_callV (μ := μX9_town) (d := (d + 24)) rfl mVX2_reachOf [.int a1] [] (gX2_reachOf (E := E) (d := (d + 22)) a1 r27 r28h) rfl lmRX9_308 (ci := 2) rfl tX_5 eX_5 rfl (Nat.le_of_ble_eq_true rfl) dX9_town_245 rfl (st2 := [.long r28]) rfl (pc2 := 248) rfl ?_
                      cases h
                      exact kg_lret dX9_town_248 rfl
                    · replace h := (if_neg q26).symm.trans h
                      by_cases q29 : a2 = (9 : Int32)
                      · replace h := (if_pos q29).symm.trans h
                        refine kg_tsIn (off := 230) 249 dX9_town_19 (by rw [q29]; decide) (by rw [q29]; decide) (by rw [q29]; decide) rfl ?_
                        refine kg_aload_n 0 dX9_town_249 rfl (pc2 := 250) rfl ?_
                        obtain ⟨r30, r30h, h⟩ := kw_bind_e h
                        refine kg_callV (μ := μX9_town) (d := (d + 24)) rfl mVX9_rightPairs [] [] (gX9_rightPairs (E := E) (d := (d + 21)) σ r30h) rfl lmRX9_251 (ci := 9) rfl tX_0 eX_0 rfl (Nat.le_of_ble_eq_true rfl) dX9_town_250 rfl (st2 := [.ref 5]) rfl (pc2 := 253) rfl ?_
                        refine kg_aload_n 0 dX9_town_253 rfl (pc2 := 254) rfl ?_
                        refine kg_getr clX9 rfl 0 (Nat.le_of_ble_eq_true rfl) lfRX9_10 tX_0 eX_0 rfl dX9_town_254 (pc2 := 257) rfl ?_
                        refine kg_getr clX7 rfl 0 (Nat.le_of_ble_eq_true rfl) lfRX9_148 tX_1 eX_1 rfl dX9_town_257 (pc2 := 260) rfl ?_
                        refine kg_iload_n 1 dX9_town_260 rfl (pc2 := 261) rfl ?_
                        obtain ⟨r31, r31h, h⟩ := kw_bind_e h
                        refine kg_callV (μ := μX9_town) (d := (d + 24)) rfl mVX2_ringOf [.ref 12, .int a1] [] (gX2_ringOf (E := E) (d := (d + 23)) a1 r30 r31h) rfl lmRX9_311 (ci := 2) rfl tX_5 eX_5 rfl (Nat.le_of_ble_eq_true rfl) dX9_town_261 rfl (st2 := [.long r31]) rfl (pc2 := 264) rfl ?_
                        cases h
                        exact kg_lret dX9_town_264 rfl
                      · replace h := (if_neg q29).symm.trans h
                        by_cases q32 : a2 = (10 : Int32)
                        · replace h := (if_pos q32).symm.trans h
                          refine kg_tsIn (off := 246) 265 dX9_town_19 (by rw [q32]; decide) (by rw [q32]; decide) (by rw [q32]; decide) rfl ?_
                          refine kg_aload_n 0 dX9_town_265 rfl (pc2 := 266) rfl ?_
                          refine kg_getr clX9 rfl 0 (Nat.le_of_ble_eq_true rfl) lfRX9_10 tX_0 eX_0 rfl dX9_town_266 (pc2 := 269) rfl ?_
                          refine kg_iload_n 1 dX9_town_269 rfl (pc2 := 270) rfl ?_
                          obtain ⟨r33, r33h, h⟩ := kw_bind_e h
                          refine kg_callV (μ := μX9_town) (d := (d + 24)) rfl mVX7_isWatched [.int a1] [] (gX7_isWatched (E := E) (d := (d + 24)) a1 σ r33h) rfl lmRX9_315 (ci := 7) rfl tX_1 eX_1 rfl (Nat.le_of_ble_eq_true rfl) dX9_town_270 rfl (st2 := [.int r33]) rfl (pc2 := 273) rfl ?_
                          refine kg_if_eq 289 dX9_town_273 rfl (pc2 := 276) rfl (fun q34 => ?_) (fun q34 => ?_)
                          · replace h := (if_pos q34).symm.trans h
                            refine kg_ldc2 rfl lcRX9_261 dX9_town_289 (pc2 := 292) rfl ?_
                            cases h
                            exact kg_lret dX9_town_292 rfl
                          · replace h := (if_neg q34).symm.trans h
                            refine kg_aload_n 0 dX9_town_276 rfl (pc2 := 277) rfl ?_
                            refine kg_getr clX9 rfl 0 (Nat.le_of_ble_eq_true rfl) lfRX9_10 tX_0 eX_0 rfl dX9_town_277 (pc2 := 280) rfl ?_
                            refine kg_getr clX7 rfl 6 (Nat.le_of_ble_eq_true rfl) lfRX9_318 tX_1 eX_1 rfl dX9_town_280 (pc2 := 283) rfl ?_
                            refine kg_iload_n 1 dX9_town_283 rfl (pc2 := 284) rfl ?_
                            obtain ⟨q35, h⟩ := kw_chk_e h
                            refine kg_iald tX_14 eX_14 q35 (j := a1.toNatClampNeg) rfl dX9_town_284 (pc2 := 285) rfl ?_
                            refine kg_i2l dX9_town_285 (pc2 := 286) rfl ?_
                            refine kg_goto 292 dX9_town_286 rfl ?_
                            cases h
                            exact kg_lret dX9_town_292 rfl
                        · replace h := (if_neg q32).symm.trans h
                          by_cases q36 : a2 = (11 : Int32)
                          · replace h := (if_pos q36).symm.trans h
                            refine kg_tsIn (off := 274) 293 dX9_town_19 (by rw [q36]; decide) (by rw [q36]; decide) (by rw [q36]; decide) rfl ?_
                            refine kg_aload_n 0 dX9_town_293 rfl (pc2 := 294) rfl ?_
                            refine kg_getr clX9 rfl 0 (Nat.le_of_ble_eq_true rfl) lfRX9_10 tX_0 eX_0 rfl dX9_town_294 (pc2 := 297) rfl ?_
                            refine kg_iload_n 1 dX9_town_297 rfl (pc2 := 298) rfl ?_
                            obtain ⟨r37, r37h, h⟩ := kw_bind_e h
                            refine kg_callV (μ := μX9_town) (d := (d + 24)) rfl mVX7_belowCount [.int a1] [] (gX7_belowCount (E := E) (d := (d + 23)) a1 σ r37h) rfl lmRX9_321 (ci := 7) rfl tX_1 eX_1 rfl (Nat.le_of_ble_eq_true rfl) dX9_town_298 rfl (st2 := [.int r37]) rfl (pc2 := 301) rfl ?_
                            refine kg_i2l dX9_town_301 (pc2 := 302) rfl ?_
                            cases h
                            exact kg_lret dX9_town_302 rfl
                          · replace h := (if_neg q36).symm.trans h
                            by_cases q38 : a2 = (12 : Int32)
                            · replace h := (if_pos q38).symm.trans h
                              refine kg_tsIn (off := 284) 303 dX9_town_19 (by rw [q38]; decide) (by rw [q38]; decide) (by rw [q38]; decide) rfl ?_
                              refine kg_aload_n 0 dX9_town_303 rfl (pc2 := 304) rfl ?_
                              obtain ⟨r39, r39h, h⟩ := kw_bind_e h
                              refine kg_callV (μ := μX9_town) (d := (d + 24)) rfl mVX9_rightPairs [] [] (gX9_rightPairs (E := E) (d := (d + 21)) σ r39h) rfl lmRX9_251 (ci := 9) rfl tX_0 eX_0 rfl (Nat.le_of_ble_eq_true rfl) dX9_town_304 rfl (st2 := [.ref 5]) rfl (pc2 := 307) rfl ?_
                              refine kg_iload_n 1 dX9_town_307 rfl (pc2 := 308) rfl ?_
                              obtain ⟨r40, r40h, h⟩ := kw_bind_e h
                              refine kg_callV (μ := μX9_town) (d := (d + 24)) rfl mVX2_groupOf [.int a1] [] (gX2_groupOf (E := E) (d := (d + 22)) a1 r39 r40h) rfl lmRX9_324 (ci := 2) rfl tX_5 eX_5 rfl (Nat.le_of_ble_eq_true rfl) dX9_town_308 rfl (st2 := [.int r40]) rfl (pc2 := 311) rfl ?_
                              refine kg_i2l dX9_town_311 (pc2 := 312) rfl ?_
                              cases h
                              exact kg_lret dX9_town_312 rfl
                            · replace h := (if_neg q38).symm.trans h
                              by_cases q41 : a2 = (13 : Int32)
                              · replace h := (if_pos q41).symm.trans h
                                refine kg_tsIn (off := 294) 313 dX9_town_19 (by rw [q41]; decide) (by rw [q41]; decide) (by rw [q41]; decide) rfl ?_
                                refine kg_aload_n 0 dX9_town_313 rfl (pc2 := 314) rfl ?_
                                refine kg_getr clX9 rfl 6 (Nat.le_of_ble_eq_true rfl) lfRX9_43 tX_0 eX_0 rfl dX9_town_314 (pc2 := 317) rfl ?_
                                refine kg_aload_n 0 dX9_town_317 rfl (pc2 := 318) rfl ?_
                                refine kg_getr clX9 rfl 0 (Nat.le_of_ble_eq_true rfl) lfRX9_10 tX_0 eX_0 rfl dX9_town_318 (pc2 := 321) rfl ?_
                                refine kg_iload_n 1 dX9_town_321 rfl (pc2 := 322) rfl ?_
                                obtain ⟨r42, r42h, h⟩ := kw_bind_e h
                                refine kg_callV (μ := μX9_town) (d := (d + 24)) rfl mVX6_narrowest [.ref 1, .int a1] [] (gX6_narrowest (E := E) (d := (d + 22)) a1 σ r42h) rfl lmRX9_327 (ci := 6) rfl tX_6 eX_6 rfl (Nat.le_of_ble_eq_true rfl) dX9_town_322 rfl (st2 := [.long r42.1]) rfl (pc2 := 325) rfl ?_
                                cases h
                                exact kg_lret dX9_town_325 rfl
                              · replace h := (if_neg q41).symm.trans h
                                by_cases q43 : a2 = (14 : Int32)
                                · replace h := (if_pos q43).symm.trans h
                                  refine kg_tsIn (off := 307) 326 dX9_town_19 (by rw [q43]; decide) (by rw [q43]; decide) (by rw [q43]; decide) rfl ?_
                                  refine kg_aload_n 0 dX9_town_326 rfl (pc2 := 327) rfl ?_
                                  refine kg_iload_n 1 dX9_town_327 rfl (pc2 := 328) rfl ?_
                                  obtain ⟨r44, r44h, h⟩ := kw_bind_e h
                                  refine kg_callV (μ := μX9_town) (d := (d + 24)) rfl mVX9_apartLength [.int a1] [] (gX9_apartLength (E := E) (d := (d + 20)) a1 σ r44h) rfl lmRX9_330 (ci := 9) rfl tX_0 eX_0 rfl (Nat.le_of_ble_eq_true rfl) dX9_town_328 rfl (st2 := [.long r44.1]) rfl (pc2 := 331) rfl ?_
                                  cases h
                                  exact kg_lret dX9_town_331 rfl
                                · replace h := (if_neg q43).symm.trans h
                                  by_cases q45 : a2 = (15 : Int32)
                                  · replace h := (if_pos q45).symm.trans h
                                    refine kg_tsIn (off := 313) 332 dX9_town_19 (by rw [q45]; decide) (by rw [q45]; decide) (by rw [q45]; decide) rfl ?_
                                    refine kg_aload_n 0 dX9_town_332 rfl (pc2 := 333) rfl ?_
                                    obtain ⟨r46, r46h, h⟩ := kw_bind_e h
                                    refine kg_callV (μ := μX9_town) (d := (d + 24)) rfl mVX9_rightPairs [] [] (gX9_rightPairs (E := E) (d := (d + 21)) σ r46h) rfl lmRX9_251 (ci := 9) rfl tX_0 eX_0 rfl (Nat.le_of_ble_eq_true rfl) dX9_town_333 rfl (st2 := [.ref 5]) rfl (pc2 := 336) rfl ?_
                                    refine kg_iload_n 1 dX9_town_336 rfl (pc2 := 337) rfl ?_
                                    obtain ⟨r47, r47h, h⟩ := kw_bind_e h
                                    refine kg_callV (μ := μX9_town) (d := (d + 24)) rfl mVX2_comersTo [.int a1] [] (gX2_comersTo (E := E) (d := (d + 22)) a1 r46 r47h) rfl lmRX9_333 (ci := 2) rfl tX_5 eX_5 rfl (Nat.le_of_ble_eq_true rfl) dX9_town_337 rfl (st2 := [.int r47]) rfl (pc2 := 340) rfl ?_
                                    refine kg_i2l dX9_town_340 (pc2 := 341) rfl ?_
                                    cases h
                                    exact kg_lret dX9_town_341 rfl
                                  · replace h := (if_neg q45).symm.trans h
                                    refine kg_tsOut 342 dX9_town_19 (by have a0 := kw_neI (n := 0) (by decide) q3; have a1 := kw_neI (n := 1) (by decide) q5; have a2 := kw_neI (n := 2) (by decide) q8; have a3 := kw_neI (n := 3) (by decide) q12; have a4 := kw_neI (n := 4) (by decide) q14; have a5 := kw_neI (n := 5) (by decide) q16; have a6 := kw_neI (n := 6) (by decide) q20; have a7 := kw_neI (n := 7) (by decide) q22; have a8 := kw_neI (n := 8) (by decide) q26; have a9 := kw_neI (n := 9) (by decide) q29; have a10 := kw_neI (n := 10) (by decide) q32; have a11 := kw_neI (n := 11) (by decide) q36; have a12 := kw_neI (n := 12) (by decide) q38; have a13 := kw_neI (n := 13) (by decide) q41; have a14 := kw_neI (n := 14) (by decide) q43; have a15 := kw_neI (n := 15) (by decide) q45; omega) rfl ?_
                                    refine kg_ldc2 rfl lcRX9_261 dX9_town_342 (pc2 := 345) rfl ?_
                                    cases h
                                    exact kg_lret dX9_town_345 rfl
  · replace h := (if_pos q2).symm.trans h
    refine kg_ldc2 rfl lcRX9_261 dX9_town_14 (pc2 := 17) rfl ?_
    cases h
    exact kg_lret dX9_town_17 rfl
