/-! The class, method by method: the machine does what f says (g). -/
set_option maxHeartbeats 4000000 in
set_option maxRecDepth 100000 in
theorem lX1_settleRest_25 {E : kw_E} {d : Nat} (v1 : Int32) (v3 : Int32) (v4 : Int32) (σ : kw_M) {v : Option Value} {σ2 : kw_M} {o : (Int32 × Int32 × kw_M) ⊕ (kw_M)} (h : bX1_settleRest_25 v1 v3 v4 σ = some o) (hk : Sum.elim (fun s => kw_G E kwTX 48 (d + 2) μX1_settleRest 25 [(0, .ref 7), (1, .int v1), (2, .ref 12), (3, .int s.1), (4, .int s.2.1)] [] s.2.2 v σ2) (fun y => kw_G E kwTX 48 (d + 2) μX1_settleRest 126 [] [] y v σ2) o) : kw_G E kwTX 48 (d + 2) μX1_settleRest 25 [(0, .ref 7), (1, .int v1), (2, .ref 12), (3, .int v3), (4, .int v4)] [] σ v σ2 := by
  unfold bX1_settleRest_25 at h
  refine kg_iload 4 dX1_settleRest_25 rfl (pc2 := 27) rfl ?_
  refine kg_aload_n 2 dX1_settleRest_27 rfl (pc2 := 28) rfl ?_
  refine kg_geti clX4 rfl 0 (Nat.le_of_ble_eq_true rfl) lfRX1_92 tX_12 eX_12 rfl dX1_settleRest_28 (pc2 := 31) rfl ?_
  refine kg_icmp_ge 126 dX1_settleRest_31 rfl (pc2 := 34) rfl (fun q2 => ?_) (fun q2 => ?_)
  · replace h := (if_pos q2).symm.trans h
    refine kg_sub [] (lv2 := []) rfl ?_
    cases h
    exact hk
  · replace h := (if_neg q2).symm.trans h
    refine kg_iload_n 3 dX1_settleRest_34 rfl (pc2 := 35) rfl ?_
    refine kg_if_eq 126 dX1_settleRest_35 rfl (pc2 := 38) rfl (fun q3 => ?_) (fun q3 => ?_)
    · replace h := (if_pos q3).symm.trans h
      refine kg_sub [] (lv2 := []) rfl ?_
      cases h
      exact hk
    · replace h := (if_neg q3).symm.trans h
      refine kg_iconst dX1_settleRest_38 ki_0 (pc2 := 39) rfl ?_
      refine kg_istore_n dX1_settleRest_39 rfl (Nat.le_of_ble_eq_true rfl) rfl (lv2 := [(3, .int (0 : Int32)), (0, .ref 7), (1, .int v1), (2, .ref 12), (4, .int v4)]) rfl (pc2 := 40) rfl ?_
      refine kg_iconst dX1_settleRest_40 ki_0 (pc2 := 41) rfl ?_
      refine kg_istore dX1_settleRest_41 (Nat.le_of_ble_eq_true rfl) rfl (lv2 := [(5, .int (0 : Int32)), (3, .int (0 : Int32)), (0, .ref 7), (1, .int v1), (2, .ref 12), (4, .int v4)]) rfl (pc2 := 43) rfl ?_
      refine kg_sub [2, 3, 4, 1, 5, 0] (lv2 := [(0, .ref 7), (1, .int v1), (2, .ref 12), (3, .int (0 : Int32)), (4, .int v4), (5, .int (0 : Int32))]) rfl ?_
      obtain ⟨x17, x17h, h⟩ := kw_bind_e h
      refine kw_loop_e (P := fun s => kw_G E kwTX 48 (d + 2) μX1_settleRest 43 [(0, .ref 7), (1, .int v1), (2, .ref 12), (3, .int s.1), (4, .int v4), (5, .int s.2.1)] [] s.2.2 v σ2) (K := fun y => kw_G E kwTX 48 (d + 2) μX1_settleRest 120 [(0, .ref 7), (1, .int v1), (2, .ref 12), (3, .int y.1), (4, .int v4)] [] y.2 v σ2) (fun s o h0 hk => lX1_settleRest_43 v1 v4 s.1 s.2.1 s.2.2 h0 hk) kw_F _ _ x17h ?_
      show kw_G E kwTX 48 (d + 2) μX1_settleRest 120 [(0, .ref 7), (1, .int v1), (2, .ref 12), (3, .int x17.1), (4, .int v4)] [] x17.2 v σ2
      obtain ⟨x18, x18e, h⟩ := kw_let_e h
      refine kg_iinc 4 dX1_settleRest_120 rfl (Nat.le_of_ble_eq_true rfl) x18e (lv2 := [(4, .int x18), (0, .ref 7), (1, .int v1), (2, .ref 12), (3, .int x17.1)]) rfl (pc2 := 123) rfl ?_
      refine kg_goto 25 dX1_settleRest_123 rfl ?_
      refine kg_sub [1, 2, 3, 4, 0] (lv2 := [(0, .ref 7), (1, .int v1), (2, .ref 12), (3, .int x17.1), (4, .int x18)]) rfl ?_
      cases h
      exact hk
set_option maxHeartbeats 4000000 in
set_option maxRecDepth 100000 in
theorem gX1_settleRest {E : kw_E} {d : Nat} (a1 : Int32) (σ : kw_M) {r : kw_M} (h : fX1_settleRest a1 σ = some r) : kw_Met E kwTX 48 (d + 2) μX1_settleRest [.ref 7, .int a1] σ none r := by
  refine kw_enter plRX1 (Nat.le_of_ble_eq_true rfl) ?_
  show kw_G E kwTX 48 (d + 2) μX1_settleRest 0 [(0, .ref 7), (1, .int a1)] [] σ none r
  unfold fX1_settleRest at h
  refine kg_aload_n 0 dX1_settleRest_0 rfl (pc2 := 1) rfl ?_
  refine kg_getr clX1 rfl 0 (Nat.le_of_ble_eq_true rfl) lfRX1_15 tX_7 eX_7 rfl dX1_settleRest_1 (pc2 := 4) rfl ?_
  refine kg_getr clX7 rfl 0 (Nat.le_of_ble_eq_true rfl) lfRX1_44 tX_1 eX_1 rfl dX1_settleRest_4 (pc2 := 7) rfl ?_
  refine kg_astore_n dX1_settleRest_7 rfl (Nat.le_of_ble_eq_true rfl) rfl (lv2 := [(2, .ref 12), (0, .ref 7), (1, .int a1)]) rfl (pc2 := 8) rfl ?_
  refine kg_aload_n 0 dX1_settleRest_8 rfl (pc2 := 9) rfl ?_
  refine kg_aload_n 1 dX1_settleRest_9 rfl (pc2 := 10) rfl ?_
  refine kg_geti clX1 rfl 2 (Nat.le_of_ble_eq_true rfl) lfRX1_19 tX_7 eX_7 rfl dX1_settleRest_10 (pc2 := 13) rfl ?_
  refine kg_aload_n 1 dX1_settleRest_13 rfl (pc2 := 14) rfl ?_
  refine kg_getr clX1 rfl 1 (Nat.le_of_ble_eq_true rfl) lfRX1_9 tX_7 eX_7 rfl dX1_settleRest_14 (pc2 := 17) rfl ?_
  obtain ⟨r1, r1h, h⟩ := kw_bind_e h
  refine kg_callV (μ := μX1_settleRest) (d := (d + 1)) rfl mVX4_beginRow [.int (σ.1 7 2), .ref 47] [] (gX4_beginRow (E := E) (d := d) 47 ⟨tX_47, eX_47⟩ (σ.1 7 2) σ r1h) rfl lmRX1_88 (ci := 4) rfl tX_12 eX_12 rfl (Nat.le_of_ble_eq_true rfl) dX1_settleRest_17 rfl (st2 := []) rfl (pc2 := 20) rfl ?_
  refine kg_iconst dX1_settleRest_20 ki_1 (pc2 := 21) rfl ?_
  refine kg_istore_n dX1_settleRest_21 rfl (Nat.le_of_ble_eq_true rfl) rfl (lv2 := [(3, .int (1 : Int32)), (2, .ref 12), (0, .ref 7), (1, .int a1)]) rfl (pc2 := 22) rfl ?_
  refine kg_iconst dX1_settleRest_22 ki_0 (pc2 := 23) rfl ?_
  refine kg_istore dX1_settleRest_23 (Nat.le_of_ble_eq_true rfl) rfl (lv2 := [(4, .int (0 : Int32)), (3, .int (1 : Int32)), (2, .ref 12), (0, .ref 7), (1, .int a1)]) rfl (pc2 := 25) rfl ?_
  refine kg_sub [3, 4, 2, 1, 0] (lv2 := [(0, .ref 7), (1, .int a1), (2, .ref 12), (3, .int (1 : Int32)), (4, .int (0 : Int32))]) rfl ?_
  obtain ⟨x19, x19h, h⟩ := kw_bind_e h
  refine kw_loop_e (P := fun s => kw_G E kwTX 48 (d + 2) μX1_settleRest 25 [(0, .ref 7), (1, .int a1), (2, .ref 12), (3, .int s.1), (4, .int s.2.1)] [] s.2.2 none r) (K := fun y => kw_G E kwTX 48 (d + 2) μX1_settleRest 126 [] [] y none r) (fun s o h0 hk => lX1_settleRest_25 a1 s.1 s.2.1 s.2.2 h0 hk) kw_F _ _ x19h ?_
  show kw_G E kwTX 48 (d + 2) μX1_settleRest 126 [] [] x19 none r
  cases h
  exact kg_vret dX1_settleRest_126 rfl
set_option maxHeartbeats 4000000 in
set_option maxRecDepth 100000 in
theorem lX1_dive_35 {E : kw_E} {d : Nat} (rec : Int32 → Int32 → Int32 → kw_M → Option kw_M) (hrec : ∀ (z0 : Int32) (z1 : Int32) (z2 : Int32) (w r : kw_M), rec z0 z1 z2 w = some r → kw_Met E kwTX 48 (d + 2) μX1_dive [.ref 7, .int z0, .int z1, .int z2] w none r) (v1 : Int32) (v2 : Int32) (v3 : Int32) (v5 : Int64) (v7 : Int32) (σ : kw_M) {v : Option Value} {σ2 : kw_M} {o : (Int64 × Int32 × kw_M) ⊕ (Int64 × kw_M)} (h : bX1_dive_35 rec v1 v2 v3 v5 v7 σ = some o) (hk : Sum.elim (fun s => kw_G E kwTX 48 (d + 3) μX1_dive 35 [(0, .ref 7), (1, .int v1), (2, .int v2), (3, .int v3), (4, .ref 12), (5, .long s.1), (7, .int s.2.1)] [] s.2.2 v σ2) (fun y => kw_G E kwTX 48 (d + 3) μX1_dive 160 [(0, .ref 7), (2, .int v2), (3, .int v3), (4, .ref 12), (5, .long y.1)] [] y.2 v σ2) o) : kw_G E kwTX 48 (d + 3) μX1_dive 35 [(0, .ref 7), (1, .int v1), (2, .int v2), (3, .int v3), (4, .ref 12), (5, .long v5), (7, .int v7)] [] σ v σ2 := by
  unfold bX1_dive_35 at h
  refine kg_iload 6 dX1_dive_35 rfl (pc2 := 37) rfl ?_
  refine kg_aload 4 dX1_dive_37 rfl (pc2 := 39) rfl ?_
  refine kg_geti clX4 rfl 1 (Nat.le_of_ble_eq_true rfl) lfRX1_48 tX_12 eX_12 rfl dX1_dive_39 (pc2 := 42) rfl ?_
  refine kg_icmp_ge 160 dX1_dive_42 rfl (pc2 := 45) rfl (fun q4 => ?_) (fun q4 => ?_)
  · replace h := (if_pos q4).symm.trans h
    refine kg_sub [0, 2, 3, 4, 5] (lv2 := [(0, .ref 7), (2, .int v2), (3, .int v3), (4, .ref 12), (5, .long v5)]) rfl ?_
    cases h
    exact hk
  · replace h := (if_neg q4).symm.trans h
    refine kg_aload 4 dX1_dive_45 rfl (pc2 := 47) rfl ?_
    refine kg_getr clX4 rfl 3 (Nat.le_of_ble_eq_true rfl) lfRX1_60 tX_12 eX_12 rfl dX1_dive_47 (pc2 := 50) rfl ?_
    refine kg_iload 6 dX1_dive_50 rfl (pc2 := 52) rfl ?_
    obtain ⟨q5, h⟩ := kw_chk_e h
    refine kg_iald tX_18 eX_18 q5 (j := v7.toNatClampNeg) rfl dX1_dive_52 (pc2 := 53) rfl ?_
    refine kg_iload_n 1 dX1_dive_53 rfl (pc2 := 54) rfl ?_
    refine kg_icmp_ne 154 dX1_dive_54 rfl (pc2 := 57) rfl (fun q6 => ?_) (fun q6 => ?_)
    · replace h := (if_neg q6).symm.trans h
      obtain ⟨x7, x7e, h⟩ := kw_let_e h
      refine kg_iinc 6 dX1_dive_154 rfl (Nat.le_of_ble_eq_true rfl) x7e (lv2 := [(7, .int x7), (0, .ref 7), (1, .int v1), (2, .int v2), (3, .int v3), (4, .ref 12), (5, .long v5)]) rfl (pc2 := 157) rfl ?_
      refine kg_goto 35 dX1_dive_157 rfl ?_
      refine kg_sub [1, 2, 3, 4, 5, 6, 0] (lv2 := [(0, .ref 7), (1, .int v1), (2, .int v2), (3, .int v3), (4, .ref 12), (5, .long v5), (7, .int x7)]) rfl ?_
      cases h
      exact hk
    · replace h := (if_pos q6).symm.trans h
      refine kg_aload_n 0 dX1_dive_57 rfl (pc2 := 58) rfl ?_
      refine kg_iload 6 dX1_dive_58 rfl (pc2 := 60) rfl ?_
      obtain ⟨r8, r8h, h⟩ := kw_bind_e h
      refine kg_callV (μ := μX1_dive) (d := (d + 2)) rfl mVX1_isUseful [.int v7] [] (gX1_isUseful (E := E) (d := (d + 2)) v7 σ r8h) rfl lmRX1_74 (ci := 1) rfl tX_7 eX_7 rfl (Nat.le_of_ble_eq_true rfl) dX1_dive_60 rfl (st2 := [.int r8]) rfl (pc2 := 63) rfl ?_
      refine kg_if_ne 69 dX1_dive_63 rfl (pc2 := 66) rfl (fun q9 => ?_) (fun q9 => ?_)
      · replace h := (if_neg q9).symm.trans h
        refine kg_aload_n 0 dX1_dive_69 rfl (pc2 := 70) rfl ?_
        refine kg_getr clX1 rfl 0 (Nat.le_of_ble_eq_true rfl) lfRX1_15 tX_7 eX_7 rfl dX1_dive_70 (pc2 := 73) rfl ?_
        refine kg_getr clX7 rfl 9 (Nat.le_of_ble_eq_true rfl) lfRX1_77 tX_1 eX_1 rfl dX1_dive_73 (pc2 := 76) rfl ?_
        refine kg_iload_n 1 dX1_dive_76 rfl (pc2 := 77) rfl ?_
        obtain ⟨q10, h⟩ := kw_chk_e h
        refine kg_lald tX_16 eX_16 q10 (j := v1.toNatClampNeg) rfl dX1_dive_77 (pc2 := 78) rfl ?_
        refine kg_aload 4 dX1_dive_78 rfl (pc2 := 80) rfl ?_
        refine kg_getr clX4 rfl 5 (Nat.le_of_ble_eq_true rfl) lfRX1_67 tX_12 eX_12 rfl dX1_dive_80 (pc2 := 83) rfl ?_
        refine kg_iload 6 dX1_dive_83 rfl (pc2 := 85) rfl ?_
        refine kg_iald tX_20 eX_20 q5 (j := v7.toNatClampNeg) rfl dX1_dive_85 (pc2 := 86) rfl ?_
        refine kg_i2l dX1_dive_86 (pc2 := 87) rfl ?_
        refine kg_ladd dX1_dive_87 (pc2 := 88) rfl ?_
        refine kg_aload_n 0 dX1_dive_88 rfl (pc2 := 89) rfl ?_
        refine kg_getr clX1 rfl 1 (Nat.le_of_ble_eq_true rfl) lfRX1_9 tX_7 eX_7 rfl dX1_dive_89 (pc2 := 92) rfl ?_
        refine kg_aload 4 dX1_dive_92 rfl (pc2 := 94) rfl ?_
        refine kg_getr clX4 rfl 4 (Nat.le_of_ble_eq_true rfl) lfRX1_64 tX_12 eX_12 rfl dX1_dive_94 (pc2 := 97) rfl ?_
        refine kg_iload 6 dX1_dive_97 rfl (pc2 := 99) rfl ?_
        refine kg_iald tX_19 eX_19 q5 (j := v7.toNatClampNeg) rfl dX1_dive_99 (pc2 := 100) rfl ?_
        obtain ⟨q11, h⟩ := kw_chk_e h
        refine kg_lald tX_47 eX_47 q11 (j := (σ.1 19 v7.toNatClampNeg).toNatClampNeg) rfl dX1_dive_100 (pc2 := 101) rfl ?_
        obtain ⟨r12, r12h, h⟩ := kw_bind_e h
        refine kg_callN (μ := μX1_dive) (d := (d + 2)) rfl mSX9_joined [.long ((σ.2 16 v1.toNatClampNeg) + (σ.1 20 v7.toNatClampNeg).toInt64), .long (σ.2 47 (σ.1 19 v7.toNatClampNeg).toNatClampNeg)] [] (gX9_joined (E := E) (d := (d + 2)) ((σ.2 16 v1.toNatClampNeg) + (σ.1 20 v7.toNatClampNeg).toInt64) (σ.2 47 (σ.1 19 v7.toNatClampNeg).toNatClampNeg) σ r12h) rfl lnRX1_80 rfl (Nat.le_of_ble_eq_true rfl) dX1_dive_101 rfl (st2 := [.long r12]) rfl (pc2 := 104) rfl ?_
        refine kg_lstore dX1_dive_104 (Nat.le_of_ble_eq_true rfl) rfl (lv2 := [(8, .long r12), (0, .ref 7), (1, .int v1), (2, .int v2), (3, .int v3), (4, .ref 12), (5, .long v5), (7, .int v7)]) rfl (pc2 := 106) rfl ?_
        refine kg_lload 0 dX1_dive_106 rfl (pc2 := 108) rfl ?_
        refine kg_aload_n 1 dX1_dive_108 rfl (pc2 := 109) rfl ?_
        refine kg_getr clX1 rfl 0 (Nat.le_of_ble_eq_true rfl) lfRX1_15 tX_7 eX_7 rfl dX1_dive_109 (pc2 := 112) rfl ?_
        refine kg_getr clX7 rfl 9 (Nat.le_of_ble_eq_true rfl) lfRX1_77 tX_1 eX_1 rfl dX1_dive_112 (pc2 := 115) rfl ?_
        refine kg_aload_n 1 dX1_dive_115 rfl (pc2 := 116) rfl ?_
        refine kg_geti clX1 rfl 2 (Nat.le_of_ble_eq_true rfl) lfRX1_19 tX_7 eX_7 rfl dX1_dive_116 (pc2 := 119) rfl ?_
        obtain ⟨q13, h⟩ := kw_chk_e h
        refine kg_lald tX_16 eX_16 q13 (j := (σ.1 7 2).toNatClampNeg) rfl dX1_dive_119 (pc2 := 120) rfl ?_
        refine kg_lcmp_ne 136 dX1_dive_120 dX1_dive_121 rfl (pc2 := 124) rfl (fun q14 => ?_) (fun q14 => ?_)
        · replace h := (if_neg q14).symm.trans h
          refine kg_lload 0 dX1_dive_136 rfl (pc2 := 138) rfl ?_
          refine kg_aload_n 1 dX1_dive_138 rfl (pc2 := 139) rfl ?_
          refine kg_getl clX1 rfl 3 (Nat.le_of_ble_eq_true rfl) lfRX1_25 tX_7 eX_7 rfl dX1_dive_139 (pc2 := 142) rfl ?_
          obtain ⟨r15, r15h, h⟩ := kw_bind_e h
          refine kg_callN (μ := μX1_dive) (d := (d + 2)) rfl mSX9_isLess [.long r12, .long (σ.2 7 3)] [] (gX9_isLess (E := E) (d := (d + 2)) r12 (σ.2 7 3) σ r15h) rfl lnRX1_84 rfl (Nat.le_of_ble_eq_true rfl) dX1_dive_142 rfl (st2 := [.int r15]) rfl (pc2 := 145) rfl ?_
          refine kg_if_eq 154 dX1_dive_145 rfl (pc2 := 148) rfl (fun q16 => ?_) (fun q16 => ?_)
          · replace h := (if_pos q16).symm.trans h
            obtain ⟨x17, x17e, h⟩ := kw_let_e h
            refine kg_iinc 7 dX1_dive_154 rfl (Nat.le_of_ble_eq_true rfl) x17e (lv2 := [(7, .int x17), (8, .long r12), (0, .ref 7), (1, .int v1), (2, .int v2), (3, .int v3), (4, .ref 12), (5, .long v5)]) rfl (pc2 := 157) rfl ?_
            refine kg_goto 35 dX1_dive_157 rfl ?_
            refine kg_sub [2, 3, 4, 5, 6, 7, 0] (lv2 := [(0, .ref 7), (1, .int v1), (2, .int v2), (3, .int v3), (4, .ref 12), (5, .long v5), (7, .int x17)]) rfl ?_
            cases h
            exact hk
          · replace h := (if_neg q16).symm.trans h
            refine kg_aload_n 1 dX1_dive_148 rfl (pc2 := 149) rfl ?_
            refine kg_lload 0 dX1_dive_149 rfl (pc2 := 151) rfl ?_
            obtain ⟨s18, s18e, h⟩ := kw_let_e h
            refine kg_putl clX1 rfl 3 (Nat.le_of_ble_eq_true rfl) lfRX1_25 rfl tX_7 eX_7 rfl (ty := .long) (by decide +kernel) rfl rfl s18e dX1_dive_151 (pc2 := 154) rfl ?_
            obtain ⟨x19, x19e, h⟩ := kw_let_e h
            refine kg_iinc 7 dX1_dive_154 rfl (Nat.le_of_ble_eq_true rfl) x19e (lv2 := [(7, .int x19), (8, .long r12), (0, .ref 7), (1, .int v1), (2, .int v2), (3, .int v3), (4, .ref 12), (5, .long v5)]) rfl (pc2 := 157) rfl ?_
            refine kg_goto 35 dX1_dive_157 rfl ?_
            refine kg_sub [2, 3, 4, 5, 6, 7, 0] (lv2 := [(0, .ref 7), (1, .int v1), (2, .int v2), (3, .int v3), (4, .ref 12), (5, .long v5), (7, .int x19)]) rfl ?_
            cases h
            exact hk
        · replace h := (if_pos q14).symm.trans h
          refine kg_lload 6 dX1_dive_124 rfl (pc2 := 126) rfl ?_
          refine kg_lconst dX1_dive_126 kl_1 (pc2 := 127) rfl ?_
          refine kg_iload 7 dX1_dive_127 rfl (pc2 := 129) rfl ?_
          refine kg_lshl dX1_dive_129 (pc2 := 130) rfl ?_
          refine kg_lor dX1_dive_130 (pc2 := 131) rfl ?_
          obtain ⟨x20, x20e, h⟩ := kw_let_e h
          refine kg_lstore dX1_dive_131 (Nat.le_of_ble_eq_true rfl) x20e (lv2 := [(5, .long x20), (8, .long r12), (0, .ref 7), (1, .int v1), (2, .int v2), (3, .int v3), (4, .ref 12), (7, .int v7)]) rfl (pc2 := 133) rfl ?_
          refine kg_goto 154 dX1_dive_133 rfl ?_
          obtain ⟨x21, x21e, h⟩ := kw_let_e h
          refine kg_iinc 7 dX1_dive_154 rfl (Nat.le_of_ble_eq_true rfl) x21e (lv2 := [(7, .int x21), (5, .long x20), (8, .long r12), (0, .ref 7), (1, .int v1), (2, .int v2), (3, .int v3), (4, .ref 12)]) rfl (pc2 := 157) rfl ?_
          refine kg_goto 35 dX1_dive_157 rfl ?_
          refine kg_sub [3, 4, 5, 6, 7, 1, 0] (lv2 := [(0, .ref 7), (1, .int v1), (2, .int v2), (3, .int v3), (4, .ref 12), (5, .long x20), (7, .int x21)]) rfl ?_
          cases h
          exact hk
      · replace h := (if_pos q9).symm.trans h
        refine kg_goto 154 dX1_dive_66 rfl ?_
        obtain ⟨x22, x22e, h⟩ := kw_let_e h
        refine kg_iinc 6 dX1_dive_154 rfl (Nat.le_of_ble_eq_true rfl) x22e (lv2 := [(7, .int x22), (0, .ref 7), (1, .int v1), (2, .int v2), (3, .int v3), (4, .ref 12), (5, .long v5)]) rfl (pc2 := 157) rfl ?_
        refine kg_goto 35 dX1_dive_157 rfl ?_
        refine kg_sub [1, 2, 3, 4, 5, 6, 0] (lv2 := [(0, .ref 7), (1, .int v1), (2, .int v2), (3, .int v3), (4, .ref 12), (5, .long v5), (7, .int x22)]) rfl ?_
        cases h
        exact hk
set_option maxHeartbeats 4000000 in
set_option maxRecDepth 100000 in
theorem lX1_dive_163 {E : kw_E} {d : Nat} (rec : Int32 → Int32 → Int32 → kw_M → Option kw_M) (hrec : ∀ (z0 : Int32) (z1 : Int32) (z2 : Int32) (w r : kw_M), rec z0 z1 z2 w = some r → kw_Met E kwTX 48 (d + 2) μX1_dive [.ref 7, .int z0, .int z1, .int z2] w none r) (v2 : Int32) (v3 : Int32) (v5 : Int64) (v7 : Int32) (σ : kw_M) {v : Option Value} {σ2 : kw_M} {o : (Int32 × kw_M) ⊕ (kw_M)} (h : bX1_dive_163 rec v2 v3 v5 v7 σ = some o) (hk : Sum.elim (fun s => kw_G E kwTX 48 (d + 3) μX1_dive 163 [(0, .ref 7), (2, .int v2), (3, .int v3), (4, .ref 12), (5, .long v5), (7, .int s.1)] [] s.2 v σ2) (fun y => kw_G E kwTX 48 (d + 3) μX1_dive 218 [] [] y v σ2) o) : kw_G E kwTX 48 (d + 3) μX1_dive 163 [(0, .ref 7), (2, .int v2), (3, .int v3), (4, .ref 12), (5, .long v5), (7, .int v7)] [] σ v σ2 := by
  unfold bX1_dive_163 at h
  refine kg_iload 5 dX1_dive_163 rfl (pc2 := 165) rfl ?_
  refine kg_aload 3 dX1_dive_165 rfl (pc2 := 167) rfl ?_
  refine kg_geti clX4 rfl 1 (Nat.le_of_ble_eq_true rfl) lfRX1_48 tX_12 eX_12 rfl dX1_dive_167 (pc2 := 170) rfl ?_
  refine kg_icmp_ge 218 dX1_dive_170 rfl (pc2 := 173) rfl (fun q24 => ?_) (fun q24 => ?_)
  · replace h := (if_pos q24).symm.trans h
    refine kg_sub [] (lv2 := []) rfl ?_
    cases h
    exact hk
  · replace h := (if_neg q24).symm.trans h
    refine kg_lload 4 dX1_dive_173 rfl (pc2 := 175) rfl ?_
    refine kg_iload 5 dX1_dive_175 rfl (pc2 := 177) rfl ?_
    refine kg_lshr dX1_dive_177 (pc2 := 178) rfl ?_
    refine kg_lconst dX1_dive_178 kl_1 (pc2 := 179) rfl ?_
    refine kg_land dX1_dive_179 (pc2 := 180) rfl ?_
    refine kg_lconst dX1_dive_180 kl_0 (pc2 := 181) rfl ?_
    refine kg_lcmp_eq 212 dX1_dive_181 dX1_dive_182 rfl (pc2 := 185) rfl (fun q25 => ?_) (fun q25 => ?_)
    · replace h := (if_pos q25).symm.trans h
      obtain ⟨x26, x26e, h⟩ := kw_let_e h
      refine kg_iinc 5 dX1_dive_212 rfl (Nat.le_of_ble_eq_true rfl) x26e (lv2 := [(7, .int x26), (0, .ref 7), (2, .int v2), (3, .int v3), (4, .ref 12), (5, .long v5)]) rfl (pc2 := 215) rfl ?_
      refine kg_goto 163 dX1_dive_215 rfl ?_
      refine kg_sub [1, 2, 3, 4, 5, 0] (lv2 := [(0, .ref 7), (2, .int v2), (3, .int v3), (4, .ref 12), (5, .long v5), (7, .int x26)]) rfl ?_
      cases h
      exact hk
    · replace h := (if_neg q25).symm.trans h
      refine kg_aload_n 0 dX1_dive_185 rfl (pc2 := 186) rfl ?_
      refine kg_aload 3 dX1_dive_186 rfl (pc2 := 188) rfl ?_
      refine kg_getr clX4 rfl 4 (Nat.le_of_ble_eq_true rfl) lfRX1_64 tX_12 eX_12 rfl dX1_dive_188 (pc2 := 191) rfl ?_
      refine kg_iload 5 dX1_dive_191 rfl (pc2 := 193) rfl ?_
      obtain ⟨q27, h⟩ := kw_chk_e h
      refine kg_iald tX_19 eX_19 q27 (j := v7.toNatClampNeg) rfl dX1_dive_193 (pc2 := 194) rfl ?_
      refine kg_iload_n 1 dX1_dive_194 rfl (pc2 := 195) rfl ?_
      refine kg_iconst dX1_dive_195 ki_1 (pc2 := 196) rfl ?_
      refine kg_aload 3 dX1_dive_196 rfl (pc2 := 198) rfl ?_
      refine kg_getr clX4 rfl 4 (Nat.le_of_ble_eq_true rfl) lfRX1_64 tX_12 eX_12 rfl dX1_dive_198 (pc2 := 201) rfl ?_
      refine kg_iload 5 dX1_dive_201 rfl (pc2 := 203) rfl ?_
      refine kg_iald tX_19 eX_19 q27 (j := v7.toNatClampNeg) rfl dX1_dive_203 (pc2 := 204) rfl ?_
      refine kg_ishl dX1_dive_204 (pc2 := 205) rfl ?_
      refine kg_ior dX1_dive_205 (pc2 := 206) rfl ?_
      refine kg_iload_n 2 dX1_dive_206 rfl (pc2 := 207) rfl ?_
      refine kg_iconst dX1_dive_207 ki_1 (pc2 := 208) rfl ?_
      refine kg_iadd dX1_dive_208 (pc2 := 209) rfl ?_
      obtain ⟨r28, r28h, h⟩ := kw_bind_e h
      refine kg_callV (μ := μX1_dive) (d := (d + 2)) rfl mVX1_dive [.int (σ.1 19 v7.toNatClampNeg), .int (v2 ||| ((1 : Int32) <<< ((σ.1 19 v7.toNatClampNeg) &&& 31))), .int (v3 + (1 : Int32))] [] (hrec _ _ _ _ _ r28h) rfl lmRX1_37 (ci := 1) rfl tX_7 eX_7 rfl (Nat.le_of_ble_eq_true rfl) dX1_dive_209 rfl (st2 := []) rfl (pc2 := 212) rfl ?_
      obtain ⟨x29, x29e, h⟩ := kw_let_e h
      refine kg_iinc 5 dX1_dive_212 rfl (Nat.le_of_ble_eq_true rfl) x29e (lv2 := [(7, .int x29), (0, .ref 7), (2, .int v2), (3, .int v3), (4, .ref 12), (5, .long v5)]) rfl (pc2 := 215) rfl ?_
      refine kg_goto 163 dX1_dive_215 rfl ?_
      refine kg_sub [1, 2, 3, 4, 5, 0] (lv2 := [(0, .ref 7), (2, .int v2), (3, .int v3), (4, .ref 12), (5, .long v5), (7, .int x29)]) rfl ?_
      cases h
      exact hk
set_option maxHeartbeats 4000000 in
set_option maxRecDepth 100000 in
theorem gFX1_dive {E : kw_E} {d : Nat} (rec : Int32 → Int32 → Int32 → kw_M → Option kw_M) (hrec : ∀ (z0 : Int32) (z1 : Int32) (z2 : Int32) (w r : kw_M), rec z0 z1 z2 w = some r → kw_Met E kwTX 48 (d + 2) μX1_dive [.ref 7, .int z0, .int z1, .int z2] w none r) (a1 : Int32) (a2 : Int32) (a3 : Int32) (σ : kw_M) {r : kw_M} (h : fFX1_dive rec a1 a2 a3 σ = some r) : kw_Met E kwTX 48 (d + 3) μX1_dive [.ref 7, .int a1, .int a2, .int a3] σ none r := by
  refine kw_enter plRX1 (Nat.le_of_ble_eq_true rfl) ?_
  show kw_G E kwTX 48 (d + 3) μX1_dive 0 [(0, .ref 7), (1, .int a1), (2, .int a2), (3, .int a3)] [] σ none r
  unfold fFX1_dive at h
  refine kg_iload_n 1 dX1_dive_0 rfl (pc2 := 1) rfl ?_
  refine kg_aload_n 0 dX1_dive_1 rfl (pc2 := 2) rfl ?_
  refine kg_geti clX1 rfl 2 (Nat.le_of_ble_eq_true rfl) lfRX1_19 tX_7 eX_7 rfl dX1_dive_2 (pc2 := 5) rfl ?_
  refine kg_icmp_eq 14 dX1_dive_5 rfl (pc2 := 8) rfl (fun q1 => ?_) (fun q1 => ?_)
  · replace h := (if_pos q1).symm.trans h
    cases h
    exact kg_vret dX1_dive_14 rfl
  · replace h := (if_neg q1).symm.trans h
    refine kg_iload_n 3 dX1_dive_8 rfl (pc2 := 9) rfl ?_
    refine kg_bipush dX1_dive_9 kb_12 (pc2 := 11) rfl ?_
    refine kg_icmp_lt 15 dX1_dive_11 rfl (pc2 := 14) rfl (fun q2 => ?_) (fun q2 => ?_)
    · replace h := (if_pos q2).symm.trans h
      refine kg_aload_n 0 dX1_dive_15 rfl (pc2 := 16) rfl ?_
      refine kg_iload_n 2 dX1_dive_16 rfl (pc2 := 17) rfl ?_
      obtain ⟨r3, r3h, h⟩ := kw_bind_e h
      refine kg_callV (μ := μX1_dive) (d := (d + 2)) rfl mVX1_settleRest [.int a2] [] (gX1_settleRest (E := E) (d := d) a2 σ r3h) rfl lmRX1_70 (ci := 1) rfl tX_7 eX_7 rfl (Nat.le_of_ble_eq_true rfl) dX1_dive_17 rfl (st2 := []) rfl (pc2 := 20) rfl ?_
      refine kg_aload_n 0 dX1_dive_20 rfl (pc2 := 21) rfl ?_
      refine kg_getr clX1 rfl 0 (Nat.le_of_ble_eq_true rfl) lfRX1_15 tX_7 eX_7 rfl dX1_dive_21 (pc2 := 24) rfl ?_
      refine kg_getr clX7 rfl 0 (Nat.le_of_ble_eq_true rfl) lfRX1_44 tX_1 eX_1 rfl dX1_dive_24 (pc2 := 27) rfl ?_
      refine kg_astore dX1_dive_27 (Nat.le_of_ble_eq_true rfl) rfl (lv2 := [(4, .ref 12), (0, .ref 7), (1, .int a1), (2, .int a2), (3, .int a3)]) rfl (pc2 := 29) rfl ?_
      refine kg_lconst dX1_dive_29 kl_0 (pc2 := 30) rfl ?_
      refine kg_lstore dX1_dive_30 (Nat.le_of_ble_eq_true rfl) rfl (lv2 := [(5, .long (0 : Int64)), (4, .ref 12), (0, .ref 7), (1, .int a1), (2, .int a2), (3, .int a3)]) rfl (pc2 := 32) rfl ?_
      refine kg_iconst dX1_dive_32 ki_0 (pc2 := 33) rfl ?_
      refine kg_istore dX1_dive_33 (Nat.le_of_ble_eq_true rfl) rfl (lv2 := [(7, .int (0 : Int32)), (5, .long (0 : Int64)), (4, .ref 12), (0, .ref 7), (1, .int a1), (2, .int a2), (3, .int a3)]) rfl (pc2 := 35) rfl ?_
      refine kg_sub [3, 4, 5, 6, 2, 1, 0] (lv2 := [(0, .ref 7), (1, .int a1), (2, .int a2), (3, .int a3), (4, .ref 12), (5, .long (0 : Int64)), (7, .int (0 : Int32))]) rfl ?_
      obtain ⟨x23, x23h, h⟩ := kw_bind_e h
      refine kw_loop_e (P := fun s => kw_G E kwTX 48 (d + 3) μX1_dive 35 [(0, .ref 7), (1, .int a1), (2, .int a2), (3, .int a3), (4, .ref 12), (5, .long s.1), (7, .int s.2.1)] [] s.2.2 none r) (K := fun y => kw_G E kwTX 48 (d + 3) μX1_dive 160 [(0, .ref 7), (2, .int a2), (3, .int a3), (4, .ref 12), (5, .long y.1)] [] y.2 none r) (fun s o h0 hk => lX1_dive_35 rec hrec a1 a2 a3 s.1 s.2.1 s.2.2 h0 hk) kw_F _ _ x23h ?_
      show kw_G E kwTX 48 (d + 3) μX1_dive 160 [(0, .ref 7), (2, .int a2), (3, .int a3), (4, .ref 12), (5, .long x23.1)] [] x23.2 none r
      refine kg_iconst dX1_dive_160 ki_0 (pc2 := 161) rfl ?_
      refine kg_istore dX1_dive_161 (Nat.le_of_ble_eq_true rfl) rfl (lv2 := [(7, .int (0 : Int32)), (0, .ref 7), (2, .int a2), (3, .int a3), (4, .ref 12), (5, .long x23.1)]) rfl (pc2 := 163) rfl ?_
      refine kg_sub [1, 2, 3, 4, 5, 0] (lv2 := [(0, .ref 7), (2, .int a2), (3, .int a3), (4, .ref 12), (5, .long x23.1), (7, .int (0 : Int32))]) rfl ?_
      obtain ⟨x30, x30h, h⟩ := kw_bind_e h
      refine kw_loop_e (P := fun s => kw_G E kwTX 48 (d + 3) μX1_dive 163 [(0, .ref 7), (2, .int a2), (3, .int a3), (4, .ref 12), (5, .long x23.1), (7, .int s.1)] [] s.2 none r) (K := fun y => kw_G E kwTX 48 (d + 3) μX1_dive 218 [] [] y none r) (fun s o h0 hk => lX1_dive_163 rec hrec a2 a3 x23.1 s.1 s.2 h0 hk) kw_F _ _ x30h ?_
      show kw_G E kwTX 48 (d + 3) μX1_dive 218 [] [] x30 none r
      cases h
      exact kg_vret dX1_dive_218 rfl
    · replace h := (if_neg q2).symm.trans h
      cases h
      exact kg_vret dX1_dive_14 rfl
theorem gRX1_dive {E : kw_E} {d : Nat} : ∀ (n : Nat) (a1 : Int32) (a2 : Int32) (a3 : Int32) (σ : kw_M) (r : kw_M), fRX1_dive n a1 a2 a3 σ = some r → kw_Met E kwTX 48 (d + n + 3) μX1_dive [.ref 7, .int a1, .int a2, .int a3] σ none r
  | 0, _, _, _, _, _, h => by cases h
  | n + 1, a1, a2, a3, σ, r, h => gFX1_dive (E := E) (d := d + n + 1) (fRX1_dive n) (fun z0 z1 z2 w r2 h2 => gRX1_dive n z0 z1 z2 w r2 h2) a1 a2 a3 σ h
theorem gX1_dive {E : kw_E} {d : Nat} (a1 : Int32) (a2 : Int32) (a3 : Int32) (σ : kw_M) {r : kw_M} (h : fX1_dive a1 a2 a3 σ = some r) : kw_Met E kwTX 48 (d + 23) μX1_dive [.ref 7, .int a1, .int a2, .int a3] σ none r := by
  have h1 := gRX1_dive (E := E) (d := d) 20 a1 a2 a3 σ r h
  rw [show d + 23 = d + 20 + 3 by omega]
  exact h1
set_option maxHeartbeats 4000000 in
set_option maxRecDepth 100000 in
theorem gX1_findNext {E : kw_E} {d : Nat} (a1 : Int32) (σ : kw_M) {r : Int64 × kw_M} (h : fX1_findNext a1 σ = some r) : kw_Met E kwTX 48 (d + 24) μX1_findNext [.ref 7, .int a1] σ (some (Value.long r.1)) r.2 := by
  refine kw_enter plRX1 (Nat.le_of_ble_eq_true rfl) ?_
  show kw_G E kwTX 48 (d + 24) μX1_findNext 0 [(0, .ref 7), (1, .int a1)] [] σ (some (Value.long r.1)) r.2
  unfold fX1_findNext at h
  refine kg_aload_n 0 dX1_findNext_0 rfl (pc2 := 1) rfl ?_
  refine kg_iload_n 1 dX1_findNext_1 rfl (pc2 := 2) rfl ?_
  obtain ⟨s1, s1e, h⟩ := kw_let_e h
  refine kg_puti clX1 rfl 2 (Nat.le_of_ble_eq_true rfl) lfRX1_19 rfl tX_7 eX_7 rfl (ty := .int) (by decide +kernel) rfl rfl s1e dX1_findNext_2 (pc2 := 5) rfl ?_
  refine kg_aload_n 0 dX1_findNext_5 rfl (pc2 := 6) rfl ?_
  refine kg_ldc2 rfl lcRX1_23 dX1_findNext_6 (pc2 := 9) rfl ?_
  obtain ⟨s2, s2e, h⟩ := kw_let_e h
  refine kg_putl clX1 rfl 3 (Nat.le_of_ble_eq_true rfl) lfRX1_25 rfl tX_7 eX_7 rfl (ty := .long) (by decide +kernel) rfl rfl s2e dX1_findNext_9 (pc2 := 12) rfl ?_
  refine kg_aload_n 0 dX1_findNext_12 rfl (pc2 := 13) rfl ?_
  obtain ⟨r3, r3h, h⟩ := kw_bind_e h
  refine kg_callV (μ := μX1_findNext) (d := (d + 23)) rfl mVX1_findUseful [] [] (gX1_findUseful (E := E) (d := (d + 21)) s2 r3h) rfl lmRX1_29 (ci := 1) rfl tX_7 eX_7 rfl (Nat.le_of_ble_eq_true rfl) dX1_findNext_13 rfl (st2 := []) rfl (pc2 := 16) rfl ?_
  refine kg_aload_n 0 dX1_findNext_16 rfl (pc2 := 17) rfl ?_
  refine kg_aload_n 0 dX1_findNext_17 rfl (pc2 := 18) rfl ?_
  refine kg_getr clX1 rfl 0 (Nat.le_of_ble_eq_true rfl) lfRX1_15 tX_7 eX_7 rfl dX1_findNext_18 (pc2 := 21) rfl ?_
  refine kg_geti clX7 rfl 2 (Nat.le_of_ble_eq_true rfl) lfRX1_32 tX_1 eX_1 rfl dX1_findNext_21 (pc2 := 24) rfl ?_
  refine kg_iconst dX1_findNext_24 ki_1 (pc2 := 25) rfl ?_
  refine kg_aload_n 0 dX1_findNext_25 rfl (pc2 := 26) rfl ?_
  refine kg_getr clX1 rfl 0 (Nat.le_of_ble_eq_true rfl) lfRX1_15 tX_7 eX_7 rfl dX1_findNext_26 (pc2 := 29) rfl ?_
  refine kg_geti clX7 rfl 2 (Nat.le_of_ble_eq_true rfl) lfRX1_32 tX_1 eX_1 rfl dX1_findNext_29 (pc2 := 32) rfl ?_
  refine kg_ishl dX1_findNext_32 (pc2 := 33) rfl ?_
  refine kg_iconst dX1_findNext_33 ki_0 (pc2 := 34) rfl ?_
  obtain ⟨r4, r4h, h⟩ := kw_bind_e h
  refine kg_callV (μ := μX1_findNext) (d := (d + 23)) rfl mVX1_dive [.int (r3.1 1 2), .int ((1 : Int32) <<< ((r3.1 1 2) &&& 31)), .int (0 : Int32)] [] (gX1_dive (E := E) (d := d) (r3.1 1 2) ((1 : Int32) <<< ((r3.1 1 2) &&& 31)) (0 : Int32) r3 r4h) rfl lmRX1_37 (ci := 1) rfl tX_7 eX_7 rfl (Nat.le_of_ble_eq_true rfl) dX1_findNext_34 rfl (st2 := []) rfl (pc2 := 37) rfl ?_
  refine kg_aload_n 0 dX1_findNext_37 rfl (pc2 := 38) rfl ?_
  refine kg_getl clX1 rfl 3 (Nat.le_of_ble_eq_true rfl) lfRX1_25 tX_7 eX_7 rfl dX1_findNext_38 (pc2 := 41) rfl ?_
  cases h
  exact kg_lret dX1_findNext_41 rfl
set_option maxHeartbeats 4000000 in
set_option maxRecDepth 100000 in
theorem lX2_ringOf_7 {E : kw_E} {d : Nat} (v2 : Int32) (σ : kw_M) (v3 : Int64) (v5 : Int32) {v : Option Value} {σ2 : kw_M} {o : (Int64 × Int32) ⊕ (Int64)} (h : bX2_ringOf_7 v2 σ v3 v5 = some o) (hk : Sum.elim (fun s => kw_G E kwTX 48 (d + 1) μX2_ringOf 7 [(0, .ref 5), (1, .ref 12), (2, .int v2), (3, .long s.1), (5, .int s.2)] [] σ v σ2) (fun y => kw_G E kwTX 48 (d + 1) μX2_ringOf 83 [(3, .long y)] [] σ v σ2) o) : kw_G E kwTX 48 (d + 1) μX2_ringOf 7 [(0, .ref 5), (1, .ref 12), (2, .int v2), (3, .long v3), (5, .int v5)] [] σ v σ2 := by
  unfold bX2_ringOf_7 at h
  refine kg_iload 4 dX2_ringOf_7 rfl (pc2 := 9) rfl ?_
  refine kg_aload_n 1 dX2_ringOf_9 rfl (pc2 := 10) rfl ?_
  refine kg_geti clX4 rfl 1 (Nat.le_of_ble_eq_true rfl) lfRX2_61 tX_12 eX_12 rfl dX2_ringOf_10 (pc2 := 13) rfl ?_
  refine kg_icmp_ge 83 dX2_ringOf_13 rfl (pc2 := 16) rfl (fun q1 => ?_) (fun q1 => ?_)
  · replace h := (if_pos q1).symm.trans h
    refine kg_sub [3] (lv2 := [(3, .long v3)]) rfl ?_
    cases h
    exact hk
  · replace h := (if_neg q1).symm.trans h
    refine kg_aload_n 1 dX2_ringOf_16 rfl (pc2 := 17) rfl ?_
    refine kg_iload 4 dX2_ringOf_17 rfl (pc2 := 19) rfl ?_
    obtain ⟨r2, r2h, h⟩ := kw_bind_e h
    refine kg_callV (μ := μX2_ringOf) (d := d) rfl mVX4_isOpen [.int v5] [] (gX4_isOpen (E := E) (d := d) 12 kx_4_12 v5 σ r2h) rfl lmRX2_64 (ci := 4) rfl tX_12 eX_12 rfl (Nat.le_of_ble_eq_true rfl) dX2_ringOf_19 rfl (st2 := [.int r2]) rfl (pc2 := 22) rfl ?_
    refine kg_if_eq 77 dX2_ringOf_22 rfl (pc2 := 25) rfl (fun q3 => ?_) (fun q3 => ?_)
    · replace h := (if_pos q3).symm.trans h
      obtain ⟨x4, x4e, h⟩ := kw_let_e h
      refine kg_iinc 4 dX2_ringOf_77 rfl (Nat.le_of_ble_eq_true rfl) x4e (lv2 := [(5, .int x4), (0, .ref 5), (1, .ref 12), (2, .int v2), (3, .long v3)]) rfl (pc2 := 80) rfl ?_
      refine kg_goto 7 dX2_ringOf_80 rfl ?_
      refine kg_sub [1, 2, 3, 4, 0] (lv2 := [(0, .ref 5), (1, .ref 12), (2, .int v2), (3, .long v3), (5, .int x4)]) rfl ?_
      cases h
      exact hk
    · replace h := (if_neg q3).symm.trans h
      refine kg_aload_n 1 dX2_ringOf_25 rfl (pc2 := 26) rfl ?_
      refine kg_getr clX4 rfl 3 (Nat.le_of_ble_eq_true rfl) lfRX2_67 tX_12 eX_12 rfl dX2_ringOf_26 (pc2 := 29) rfl ?_
      refine kg_iload 4 dX2_ringOf_29 rfl (pc2 := 31) rfl ?_
      obtain ⟨q5, h⟩ := kw_chk_e h
      refine kg_iald tX_18 eX_18 q5 (j := v5.toNatClampNeg) rfl dX2_ringOf_31 (pc2 := 32) rfl ?_
      refine kg_iload_n 2 dX2_ringOf_32 rfl (pc2 := 33) rfl ?_
      refine kg_icmp_ne 77 dX2_ringOf_33 rfl (pc2 := 36) rfl (fun q6 => ?_) (fun q6 => ?_)
      · replace h := (if_neg q6).symm.trans h
        obtain ⟨x7, x7e, h⟩ := kw_let_e h
        refine kg_iinc 4 dX2_ringOf_77 rfl (Nat.le_of_ble_eq_true rfl) x7e (lv2 := [(5, .int x7), (0, .ref 5), (1, .ref 12), (2, .int v2), (3, .long v3)]) rfl (pc2 := 80) rfl ?_
        refine kg_goto 7 dX2_ringOf_80 rfl ?_
        refine kg_sub [1, 2, 3, 4, 0] (lv2 := [(0, .ref 5), (1, .ref 12), (2, .int v2), (3, .long v3), (5, .int x7)]) rfl ?_
        cases h
        exact hk
      · replace h := (if_pos q6).symm.trans h
        refine kg_aload_n 1 dX2_ringOf_36 rfl (pc2 := 37) rfl ?_
        refine kg_getr clX4 rfl 5 (Nat.le_of_ble_eq_true rfl) lfRX2_71 tX_12 eX_12 rfl dX2_ringOf_37 (pc2 := 40) rfl ?_
        refine kg_iload 4 dX2_ringOf_40 rfl (pc2 := 42) rfl ?_
        refine kg_iald tX_20 eX_20 q5 (j := v5.toNatClampNeg) rfl dX2_ringOf_42 (pc2 := 43) rfl ?_
        refine kg_i2l dX2_ringOf_43 (pc2 := 44) rfl ?_
        refine kg_aload_n 0 dX2_ringOf_44 rfl (pc2 := 45) rfl ?_
        refine kg_aload_n 1 dX2_ringOf_45 rfl (pc2 := 46) rfl ?_
        refine kg_getr clX4 rfl 4 (Nat.le_of_ble_eq_true rfl) lfRX2_74 tX_12 eX_12 rfl dX2_ringOf_46 (pc2 := 49) rfl ?_
        refine kg_iload 4 dX2_ringOf_49 rfl (pc2 := 51) rfl ?_
        refine kg_iald tX_19 eX_19 q5 (j := v5.toNatClampNeg) rfl dX2_ringOf_51 (pc2 := 52) rfl ?_
        refine kg_iload_n 2 dX2_ringOf_52 rfl (pc2 := 53) rfl ?_
        obtain ⟨r8, r8h, h⟩ := kw_bind_e h
        refine kg_callV (μ := μX2_ringOf) (d := d) rfl mVX2_span [.int (σ.1 19 v5.toNatClampNeg), .int v2] [.long ((σ.1 20 v5.toNatClampNeg).toInt64)] (gX2_span (E := E) (d := d) (σ.1 19 v5.toNatClampNeg) v2 σ r8h) rfl lmRX2_39 (ci := 2) rfl tX_5 eX_5 rfl (Nat.le_of_ble_eq_true rfl) dX2_ringOf_53 rfl (st2 := [.long r8, .long ((σ.1 20 v5.toNatClampNeg).toInt64)]) rfl (pc2 := 56) rfl ?_
        obtain ⟨r9, r9h, h⟩ := kw_bind_e h
        refine kg_callN (μ := μX2_ringOf) (d := d) rfl mSX9_joined [.long ((σ.1 20 v5.toNatClampNeg).toInt64), .long r8] [] (gX9_joined (E := E) (d := d) ((σ.1 20 v5.toNatClampNeg).toInt64) r8 σ r9h) rfl lnRX2_77 rfl (Nat.le_of_ble_eq_true rfl) dX2_ringOf_56 rfl (st2 := [.long r9]) rfl (pc2 := 59) rfl ?_
        refine kg_lstore dX2_ringOf_59 (Nat.le_of_ble_eq_true rfl) rfl (lv2 := [(6, .long r9), (0, .ref 5), (1, .ref 12), (2, .int v2), (3, .long v3), (5, .int v5)]) rfl (pc2 := 61) rfl ?_
        refine kg_lload 0 dX2_ringOf_61 rfl (pc2 := 63) rfl ?_
        refine kg_lload_n 4 dX2_ringOf_63 rfl (pc2 := 64) rfl ?_
        obtain ⟨r10, r10h, h⟩ := kw_bind_e h
        refine kg_callN (μ := μX2_ringOf) (d := d) rfl mSX9_isLess [.long r9, .long v3] [] (gX9_isLess (E := E) (d := d) r9 v3 σ r10h) rfl lnRX2_57 rfl (Nat.le_of_ble_eq_true rfl) dX2_ringOf_64 rfl (st2 := [.int r10]) rfl (pc2 := 67) rfl ?_
        refine kg_if_eq 75 dX2_ringOf_67 rfl (pc2 := 70) rfl (fun q11 => ?_) (fun q11 => ?_)
        · replace h := (if_pos q11).symm.trans h
          refine kg_lload_n 4 dX2_ringOf_75 rfl (pc2 := 76) rfl ?_
          refine kg_lstore_n dX2_ringOf_76 rfl (Nat.le_of_ble_eq_true rfl) rfl (lv2 := [(3, .long v3), (6, .long r9), (0, .ref 5), (1, .ref 12), (2, .int v2), (5, .int v5)]) rfl (pc2 := 77) rfl ?_
          obtain ⟨x12, x12e, h⟩ := kw_let_e h
          refine kg_iinc 5 dX2_ringOf_77 rfl (Nat.le_of_ble_eq_true rfl) x12e (lv2 := [(5, .int x12), (3, .long v3), (6, .long r9), (0, .ref 5), (1, .ref 12), (2, .int v2)]) rfl (pc2 := 80) rfl ?_
          refine kg_goto 7 dX2_ringOf_80 rfl ?_
          refine kg_sub [3, 4, 5, 1, 0] (lv2 := [(0, .ref 5), (1, .ref 12), (2, .int v2), (3, .long v3), (5, .int x12)]) rfl ?_
          cases h
          exact hk
        · replace h := (if_neg q11).symm.trans h
          refine kg_lload 0 dX2_ringOf_70 rfl (pc2 := 72) rfl ?_
          refine kg_goto 76 dX2_ringOf_72 rfl ?_
          refine kg_lstore_n dX2_ringOf_76 rfl (Nat.le_of_ble_eq_true rfl) rfl (lv2 := [(3, .long r9), (6, .long r9), (0, .ref 5), (1, .ref 12), (2, .int v2), (5, .int v5)]) rfl (pc2 := 77) rfl ?_
          obtain ⟨x13, x13e, h⟩ := kw_let_e h
          refine kg_iinc 5 dX2_ringOf_77 rfl (Nat.le_of_ble_eq_true rfl) x13e (lv2 := [(5, .int x13), (3, .long r9), (6, .long r9), (0, .ref 5), (1, .ref 12), (2, .int v2)]) rfl (pc2 := 80) rfl ?_
          refine kg_goto 7 dX2_ringOf_80 rfl ?_
          refine kg_sub [3, 4, 5, 1, 0] (lv2 := [(0, .ref 5), (1, .ref 12), (2, .int v2), (3, .long r9), (5, .int x13)]) rfl ?_
          cases h
          exact hk
set_option maxHeartbeats 4000000 in
set_option maxRecDepth 100000 in
theorem gX2_ringOf {E : kw_E} {d : Nat} (a2 : Int32) (σ : kw_M) {r : Int64} (h : fX2_ringOf a2 σ = some r) : kw_Met E kwTX 48 (d + 1) μX2_ringOf [.ref 5, .ref 12, .int a2] σ (some (Value.long r)) σ := by
  refine kw_enter plRX2 (Nat.le_of_ble_eq_true rfl) ?_
  show kw_G E kwTX 48 (d + 1) μX2_ringOf 0 [(0, .ref 5), (1, .ref 12), (2, .int a2)] [] σ (some (Value.long r)) σ
  unfold fX2_ringOf at h
  refine kg_ldc2 rfl lcRX2_43 dX2_ringOf_0 (pc2 := 3) rfl ?_
  refine kg_lstore_n dX2_ringOf_3 rfl (Nat.le_of_ble_eq_true rfl) rfl (lv2 := [(3, .long (-9000000000000000000 : Int64)), (0, .ref 5), (1, .ref 12), (2, .int a2)]) rfl (pc2 := 4) rfl ?_
  refine kg_iconst dX2_ringOf_4 ki_0 (pc2 := 5) rfl ?_
  refine kg_istore dX2_ringOf_5 (Nat.le_of_ble_eq_true rfl) rfl (lv2 := [(5, .int (0 : Int32)), (3, .long (-9000000000000000000 : Int64)), (0, .ref 5), (1, .ref 12), (2, .int a2)]) rfl (pc2 := 7) rfl ?_
  refine kg_sub [2, 3, 4, 1, 0] (lv2 := [(0, .ref 5), (1, .ref 12), (2, .int a2), (3, .long (-9000000000000000000 : Int64)), (5, .int (0 : Int32))]) rfl ?_
  obtain ⟨x14, x14h, h⟩ := kw_bind_e h
  refine kw_loop_e (P := fun s => kw_G E kwTX 48 (d + 1) μX2_ringOf 7 [(0, .ref 5), (1, .ref 12), (2, .int a2), (3, .long s.1), (5, .int s.2)] [] σ (some (Value.long r)) σ) (K := fun y => kw_G E kwTX 48 (d + 1) μX2_ringOf 83 [(3, .long y)] [] σ (some (Value.long r)) σ) (fun s o h0 hk => lX2_ringOf_7 a2 σ s.1 s.2 h0 hk) kw_F _ _ x14h ?_
  show kw_G E kwTX 48 (d + 1) μX2_ringOf 83 [(3, .long x14)] [] σ (some (Value.long r)) σ
  refine kg_lload_n 0 dX2_ringOf_83 rfl (pc2 := 84) rfl ?_
  cases h
  exact kg_lret dX2_ringOf_84 rfl
set_option maxHeartbeats 4000000 in
set_option maxRecDepth 100000 in
theorem lX7_comesBy_5 {E : kw_E} {d : Nat} (v2 : Int32) (σ : kw_M) (v3 : Int32) (v4 : Int32) {v : Option Value} {σ2 : kw_M} {o : (Int32 × Int32) ⊕ (Int32)} (h : bX7_comesBy_5 v2 σ v3 v4 = some o) (hk : Sum.elim (fun s => kw_G E kwTX 48 d μX7_comesBy 5 [(0, .ref 1), (2, .int v2), (3, .int s.1), (4, .int s.2)] [] σ v σ2) (fun y => kw_G E kwTX 48 d μX7_comesBy 48 [(2, .int v2), (3, .int y)] [] σ v σ2) o) : kw_G E kwTX 48 d μX7_comesBy 5 [(0, .ref 1), (2, .int v2), (3, .int v3), (4, .int v4)] [] σ v σ2 := by
  unfold bX7_comesBy_5 at h
  refine kg_iload 3 dX7_comesBy_5 rfl (pc2 := 7) rfl ?_
  refine kg_bipush dX7_comesBy_7 kb_12 (pc2 := 9) rfl ?_
  refine kg_icmp_ge 48 dX7_comesBy_9 rfl (pc2 := 12) rfl (fun q1 => ?_) (fun q1 => ?_)
  · replace h := (if_pos q1).symm.trans h
    refine kg_sub [1, 2] (lv2 := [(2, .int v2), (3, .int v3)]) rfl ?_
    cases h
    exact hk
  · replace h := (if_neg q1).symm.trans h
    refine kg_iload_n 2 dX7_comesBy_12 rfl (pc2 := 13) rfl ?_
    refine kg_iload_n 1 dX7_comesBy_13 rfl (pc2 := 14) rfl ?_
    refine kg_icmp_eq 48 dX7_comesBy_14 rfl (pc2 := 17) rfl (fun q2 => ?_) (fun q2 => ?_)
    · replace h := (if_pos q2).symm.trans h
      refine kg_sub [1, 2] (lv2 := [(2, .int v2), (3, .int v3)]) rfl ?_
      cases h
      exact hk
    · replace h := (if_neg q2).symm.trans h
      refine kg_aload_n 0 dX7_comesBy_17 rfl (pc2 := 18) rfl ?_
      refine kg_getr clX7 rfl 10 (Nat.le_of_ble_eq_true rfl) lfRX7_40 tX_1 eX_1 rfl dX7_comesBy_18 (pc2 := 21) rfl ?_
      refine kg_iload_n 2 dX7_comesBy_21 rfl (pc2 := 22) rfl ?_
      obtain ⟨q3, h⟩ := kw_chk_e h
      refine kg_iald tX_17 eX_17 q3 (j := v3.toNatClampNeg) rfl dX7_comesBy_22 (pc2 := 23) rfl ?_
      refine kg_iconst dX7_comesBy_23 ki_m1 (pc2 := 24) rfl ?_
      refine kg_icmp_eq 48 dX7_comesBy_24 rfl (pc2 := 27) rfl (fun q4 => ?_) (fun q4 => ?_)
      · replace h := (if_pos q4).symm.trans h
        refine kg_sub [1, 2] (lv2 := [(2, .int v2), (3, .int v3)]) rfl ?_
        cases h
        exact hk
      · replace h := (if_neg q4).symm.trans h
        refine kg_aload_n 0 dX7_comesBy_27 rfl (pc2 := 28) rfl ?_
        refine kg_getr clX7 rfl 0 (Nat.le_of_ble_eq_true rfl) lfRX7_12 tX_1 eX_1 rfl dX7_comesBy_28 (pc2 := 31) rfl ?_
        refine kg_getr clX4 rfl 3 (Nat.le_of_ble_eq_true rfl) lfRX7_136 tX_12 eX_12 rfl dX7_comesBy_31 (pc2 := 34) rfl ?_
        refine kg_aload_n 0 dX7_comesBy_34 rfl (pc2 := 35) rfl ?_
        refine kg_getr clX7 rfl 10 (Nat.le_of_ble_eq_true rfl) lfRX7_40 tX_1 eX_1 rfl dX7_comesBy_35 (pc2 := 38) rfl ?_
        refine kg_iload_n 2 dX7_comesBy_38 rfl (pc2 := 39) rfl ?_
        refine kg_iald tX_17 eX_17 q3 (j := v3.toNatClampNeg) rfl dX7_comesBy_39 (pc2 := 40) rfl ?_
        obtain ⟨q5, h⟩ := kw_chk_e h
        refine kg_iald tX_18 eX_18 q5 (j := (σ.1 17 v3.toNatClampNeg).toNatClampNeg) rfl dX7_comesBy_40 (pc2 := 41) rfl ?_
        obtain ⟨x6, x6e, h⟩ := kw_let_e h
        refine kg_istore_n dX7_comesBy_41 rfl (Nat.le_of_ble_eq_true rfl) x6e (lv2 := [(3, .int x6), (0, .ref 1), (2, .int v2), (4, .int v4)]) rfl (pc2 := 42) rfl ?_
        obtain ⟨x7, x7e, h⟩ := kw_let_e h
        refine kg_iinc 3 dX7_comesBy_42 rfl (Nat.le_of_ble_eq_true rfl) x7e (lv2 := [(4, .int x7), (3, .int x6), (0, .ref 1), (2, .int v2)]) rfl (pc2 := 45) rfl ?_
        refine kg_goto 5 dX7_comesBy_45 rfl ?_
        refine kg_sub [2, 3, 1, 0] (lv2 := [(0, .ref 1), (2, .int v2), (3, .int x6), (4, .int x7)]) rfl ?_
        cases h
        exact hk
set_option maxHeartbeats 4000000 in
set_option maxRecDepth 100000 in
theorem gjX7_comesBy_48 {E : kw_E} {d : Nat} (v2 : Int32) (v3 : Int32) (σ : kw_M) {r : Int32} (h : jX7_comesBy_48 v2 v3 σ = some r) : kw_G E kwTX 48 d μX7_comesBy 48 [(2, .int v2), (3, .int v3)] [] σ (some (Value.int r)) σ := by
  unfold jX7_comesBy_48 at h
  refine kg_iload_n 1 dX7_comesBy_48 rfl (pc2 := 49) rfl ?_
  refine kg_iload_n 0 dX7_comesBy_49 rfl (pc2 := 50) rfl ?_
  refine kg_icmp_ne 57 dX7_comesBy_50 rfl (pc2 := 53) rfl (fun q9 => ?_) (fun q9 => ?_)
  · replace h := (if_neg q9).symm.trans h
    refine kg_iconst dX7_comesBy_57 ki_0 (pc2 := 58) rfl ?_
    cases h
    exact kg_iret (ty := .boolean) dX7_comesBy_58 rfl rfl
  · replace h := (if_pos q9).symm.trans h
    refine kg_iconst dX7_comesBy_53 ki_1 (pc2 := 54) rfl ?_
    refine kg_goto 58 dX7_comesBy_54 rfl ?_
    cases h
    exact kg_iret (ty := .boolean) dX7_comesBy_58 rfl rfl
set_option maxHeartbeats 4000000 in
set_option maxRecDepth 100000 in
theorem gX7_comesBy {E : kw_E} {d : Nat} (a1 : Int32) (a2 : Int32) (σ : kw_M) {r : Int32} (h : fX7_comesBy a1 a2 σ = some r) : kw_Met E kwTX 48 d μX7_comesBy [.ref 1, .int a1, .int a2] σ (some (Value.int r)) σ := by
  refine kw_enter plRX7 (Nat.le_of_ble_eq_true rfl) ?_
  show kw_G E kwTX 48 d μX7_comesBy 0 [(0, .ref 1), (1, .int a1), (2, .int a2)] [] σ (some (Value.int r)) σ
  unfold fX7_comesBy at h
  refine kg_iload_n 1 dX7_comesBy_0 rfl (pc2 := 1) rfl ?_
  refine kg_istore_n dX7_comesBy_1 rfl (Nat.le_of_ble_eq_true rfl) rfl (lv2 := [(3, .int a1), (0, .ref 1), (1, .int a1), (2, .int a2)]) rfl (pc2 := 2) rfl ?_
  refine kg_iconst dX7_comesBy_2 ki_0 (pc2 := 3) rfl ?_
  refine kg_istore dX7_comesBy_3 (Nat.le_of_ble_eq_true rfl) rfl (lv2 := [(4, .int (0 : Int32)), (3, .int a1), (0, .ref 1), (1, .int a1), (2, .int a2)]) rfl (pc2 := 5) rfl ?_
  refine kg_sub [2, 4, 1, 0] (lv2 := [(0, .ref 1), (2, .int a2), (3, .int a1), (4, .int (0 : Int32))]) rfl ?_
  obtain ⟨x8, x8h, h⟩ := kw_bind_e h
  refine kw_loop_e (P := fun s => kw_G E kwTX 48 d μX7_comesBy 5 [(0, .ref 1), (2, .int a2), (3, .int s.1), (4, .int s.2)] [] σ (some (Value.int r)) σ) (K := fun y => kw_G E kwTX 48 d μX7_comesBy 48 [(2, .int a2), (3, .int y)] [] σ (some (Value.int r)) σ) (fun s o h0 hk => lX7_comesBy_5 a2 σ s.1 s.2 h0 hk) kw_F _ _ x8h ?_
  show kw_G E kwTX 48 d μX7_comesBy 48 [(2, .int a2), (3, .int x8)] [] σ (some (Value.int r)) σ
  exact gjX7_comesBy_48 a2 x8 σ h
set_option maxHeartbeats 4000000 in
set_option maxRecDepth 100000 in
theorem lX7_belowCount_4 {E : kw_E} {d : Nat} (v1 : Int32) (σ : kw_M) (v2 : Int32) (v3 : Int32) {v : Option Value} {σ2 : kw_M} {o : (Int32 × Int32) ⊕ (Int32)} (h : bX7_belowCount_4 v1 σ v2 v3 = some o) (hk : Sum.elim (fun s => kw_G E kwTX 48 (d + 1) μX7_belowCount 4 [(0, .ref 1), (1, .int v1), (2, .int s.1), (3, .int s.2)] [] σ v σ2) (fun y => kw_G E kwTX 48 (d + 1) μX7_belowCount 38 [(2, .int y)] [] σ v σ2) o) : kw_G E kwTX 48 (d + 1) μX7_belowCount 4 [(0, .ref 1), (1, .int v1), (2, .int v2), (3, .int v3)] [] σ v σ2 := by
  unfold bX7_belowCount_4 at h
  refine kg_iload_n 3 dX7_belowCount_4 rfl (pc2 := 5) rfl ?_
  refine kg_aload_n 0 dX7_belowCount_5 rfl (pc2 := 6) rfl ?_
  refine kg_getr clX7 rfl 0 (Nat.le_of_ble_eq_true rfl) lfRX7_12 tX_1 eX_1 rfl dX7_belowCount_6 (pc2 := 9) rfl ?_
  refine kg_geti clX4 rfl 0 (Nat.le_of_ble_eq_true rfl) lfRX7_90 tX_12 eX_12 rfl dX7_belowCount_9 (pc2 := 12) rfl ?_
  refine kg_icmp_ge 38 dX7_belowCount_12 rfl (pc2 := 15) rfl (fun q1 => ?_) (fun q1 => ?_)
  · replace h := (if_pos q1).symm.trans h
    refine kg_sub [2] (lv2 := [(2, .int v2)]) rfl ?_
    cases h
    exact hk
  · replace h := (if_neg q1).symm.trans h
    refine kg_iload_n 3 dX7_belowCount_15 rfl (pc2 := 16) rfl ?_
    refine kg_iload_n 1 dX7_belowCount_16 rfl (pc2 := 17) rfl ?_
    refine kg_icmp_eq 32 dX7_belowCount_17 rfl (pc2 := 20) rfl (fun q2 => ?_) (fun q2 => ?_)
    · replace h := (if_pos q2).symm.trans h
      obtain ⟨x3, x3e, h⟩ := kw_let_e h
      refine kg_iinc 3 dX7_belowCount_32 rfl (Nat.le_of_ble_eq_true rfl) x3e (lv2 := [(3, .int x3), (0, .ref 1), (1, .int v1), (2, .int v2)]) rfl (pc2 := 35) rfl ?_
      refine kg_goto 4 dX7_belowCount_35 rfl ?_
      refine kg_sub [1, 2, 3, 0] (lv2 := [(0, .ref 1), (1, .int v1), (2, .int v2), (3, .int x3)]) rfl ?_
      cases h
      exact hk
    · replace h := (if_neg q2).symm.trans h
      refine kg_aload_n 0 dX7_belowCount_20 rfl (pc2 := 21) rfl ?_
      refine kg_iload_n 3 dX7_belowCount_21 rfl (pc2 := 22) rfl ?_
      refine kg_iload_n 1 dX7_belowCount_22 rfl (pc2 := 23) rfl ?_
      obtain ⟨r4, r4h, h⟩ := kw_bind_e h
      refine kg_callV (μ := μX7_belowCount) (d := d) rfl mVX7_comesBy [.int v3, .int v1] [] (gX7_comesBy (E := E) (d := d) v3 v1 σ r4h) rfl lmRX7_145 (ci := 7) rfl tX_1 eX_1 rfl (Nat.le_of_ble_eq_true rfl) dX7_belowCount_23 rfl (st2 := [.int r4]) rfl (pc2 := 26) rfl ?_
      refine kg_if_eq 32 dX7_belowCount_26 rfl (pc2 := 29) rfl (fun q5 => ?_) (fun q5 => ?_)
      · replace h := (if_pos q5).symm.trans h
        obtain ⟨x6, x6e, h⟩ := kw_let_e h
        refine kg_iinc 3 dX7_belowCount_32 rfl (Nat.le_of_ble_eq_true rfl) x6e (lv2 := [(3, .int x6), (0, .ref 1), (1, .int v1), (2, .int v2)]) rfl (pc2 := 35) rfl ?_
        refine kg_goto 4 dX7_belowCount_35 rfl ?_
        refine kg_sub [1, 2, 3, 0] (lv2 := [(0, .ref 1), (1, .int v1), (2, .int v2), (3, .int x6)]) rfl ?_
        cases h
        exact hk
      · replace h := (if_neg q5).symm.trans h
        obtain ⟨x7, x7e, h⟩ := kw_let_e h
        refine kg_iinc 2 dX7_belowCount_29 rfl (Nat.le_of_ble_eq_true rfl) x7e (lv2 := [(2, .int x7), (0, .ref 1), (1, .int v1), (3, .int v3)]) rfl (pc2 := 32) rfl ?_
        obtain ⟨x8, x8e, h⟩ := kw_let_e h
        refine kg_iinc 3 dX7_belowCount_32 rfl (Nat.le_of_ble_eq_true rfl) x8e (lv2 := [(3, .int x8), (2, .int x7), (0, .ref 1), (1, .int v1)]) rfl (pc2 := 35) rfl ?_
        refine kg_goto 4 dX7_belowCount_35 rfl ?_
        refine kg_sub [2, 3, 1, 0] (lv2 := [(0, .ref 1), (1, .int v1), (2, .int x7), (3, .int x8)]) rfl ?_
        cases h
        exact hk
set_option maxHeartbeats 4000000 in
set_option maxRecDepth 100000 in
theorem gX7_belowCount {E : kw_E} {d : Nat} (a1 : Int32) (σ : kw_M) {r : Int32} (h : fX7_belowCount a1 σ = some r) : kw_Met E kwTX 48 (d + 1) μX7_belowCount [.ref 1, .int a1] σ (some (Value.int r)) σ := by
  refine kw_enter plRX7 (Nat.le_of_ble_eq_true rfl) ?_
  show kw_G E kwTX 48 (d + 1) μX7_belowCount 0 [(0, .ref 1), (1, .int a1)] [] σ (some (Value.int r)) σ
  unfold fX7_belowCount at h
  refine kg_iconst dX7_belowCount_0 ki_0 (pc2 := 1) rfl ?_
  refine kg_istore_n dX7_belowCount_1 rfl (Nat.le_of_ble_eq_true rfl) rfl (lv2 := [(2, .int (0 : Int32)), (0, .ref 1), (1, .int a1)]) rfl (pc2 := 2) rfl ?_
  refine kg_iconst dX7_belowCount_2 ki_0 (pc2 := 3) rfl ?_
  refine kg_istore_n dX7_belowCount_3 rfl (Nat.le_of_ble_eq_true rfl) rfl (lv2 := [(3, .int (0 : Int32)), (2, .int (0 : Int32)), (0, .ref 1), (1, .int a1)]) rfl (pc2 := 4) rfl ?_
  refine kg_sub [2, 3, 1, 0] (lv2 := [(0, .ref 1), (1, .int a1), (2, .int (0 : Int32)), (3, .int (0 : Int32))]) rfl ?_
  obtain ⟨x9, x9h, h⟩ := kw_bind_e h
  refine kw_loop_e (P := fun s => kw_G E kwTX 48 (d + 1) μX7_belowCount 4 [(0, .ref 1), (1, .int a1), (2, .int s.1), (3, .int s.2)] [] σ (some (Value.int r)) σ) (K := fun y => kw_G E kwTX 48 (d + 1) μX7_belowCount 38 [(2, .int y)] [] σ (some (Value.int r)) σ) (fun s o h0 hk => lX7_belowCount_4 a1 σ s.1 s.2 h0 hk) kw_F _ _ x9h ?_
  show kw_G E kwTX 48 (d + 1) μX7_belowCount 38 [(2, .int x9)] [] σ (some (Value.int r)) σ
  refine kg_iload_n 0 dX7_belowCount_38 rfl (pc2 := 39) rfl ?_
  cases h
  exact kg_iret (ty := .int) dX7_belowCount_39 rfl rfl
set_option maxHeartbeats 4000000 in
set_option maxRecDepth 100000 in
theorem lX2_groupOf_2 {E : kw_E} {d : Nat} (v1 : Int32) (σ : kw_M) (v2 : Int32) {v : Option Value} {σ2 : kw_M} {o : (Int32) ⊕ ((Int32) ⊕ (Unit))} (h : bX2_groupOf_2 v1 σ v2 = some o) (hk : Sum.elim (fun s => kw_G E kwTX 48 (d + 2) μX2_groupOf 2 [(0, .ref 5), (1, .int v1), (2, .int s)] [] σ v σ2) (Sum.elim (fun rr => v = some (Value.int rr) ∧ σ2 = σ) (fun y => kw_G E kwTX 48 (d + 2) μX2_groupOf 33 [(1, .int v1)] [] σ v σ2)) o) : kw_G E kwTX 48 (d + 2) μX2_groupOf 2 [(0, .ref 5), (1, .int v1), (2, .int v2)] [] σ v σ2 := by
  unfold bX2_groupOf_2 at h
  refine kg_iload_n 2 dX2_groupOf_2 rfl (pc2 := 3) rfl ?_
  refine kg_iload_n 1 dX2_groupOf_3 rfl (pc2 := 4) rfl ?_
  refine kg_icmp_ge 33 dX2_groupOf_4 rfl (pc2 := 7) rfl (fun q1 => ?_) (fun q1 => ?_)
  · replace h := (if_pos q1).symm.trans h
    refine kg_sub [1] (lv2 := [(1, .int v1)]) rfl ?_
    cases h
    exact hk
  · replace h := (if_neg q1).symm.trans h
    refine kg_aload_n 0 dX2_groupOf_7 rfl (pc2 := 8) rfl ?_
    refine kg_iload_n 2 dX2_groupOf_8 rfl (pc2 := 9) rfl ?_
    refine kg_iload_n 1 dX2_groupOf_9 rfl (pc2 := 10) rfl ?_
    obtain ⟨r2, r2h, h⟩ := kw_bind_e h
    refine kg_callV (μ := μX2_groupOf) (d := (d + 1)) rfl mVX2_comesTo [.int v2, .int v1] [] (gX2_comesTo (E := E) (d := d) v2 v1 σ r2h) rfl lmRX2_45 (ci := 2) rfl tX_5 eX_5 rfl (Nat.le_of_ble_eq_true rfl) dX2_groupOf_10 rfl (st2 := [.int r2]) rfl (pc2 := 13) rfl ?_
    refine kg_if_eq 27 dX2_groupOf_13 rfl (pc2 := 16) rfl (fun q3 => ?_) (fun q3 => ?_)
    · replace h := (if_pos q3).symm.trans h
      obtain ⟨x4, x4e, h⟩ := kw_let_e h
      refine kg_iinc 2 dX2_groupOf_27 rfl (Nat.le_of_ble_eq_true rfl) x4e (lv2 := [(2, .int x4), (0, .ref 5), (1, .int v1)]) rfl (pc2 := 30) rfl ?_
      refine kg_goto 2 dX2_groupOf_30 rfl ?_
      refine kg_sub [1, 2, 0] (lv2 := [(0, .ref 5), (1, .int v1), (2, .int x4)]) rfl ?_
      cases h
      exact hk
    · replace h := (if_neg q3).symm.trans h
      refine kg_aload_n 0 dX2_groupOf_16 rfl (pc2 := 17) rfl ?_
      refine kg_iload_n 1 dX2_groupOf_17 rfl (pc2 := 18) rfl ?_
      refine kg_iload_n 2 dX2_groupOf_18 rfl (pc2 := 19) rfl ?_
      obtain ⟨r5, r5h, h⟩ := kw_bind_e h
      refine kg_callV (μ := μX2_groupOf) (d := (d + 1)) rfl mVX2_comesTo [.int v1, .int v2] [] (gX2_comesTo (E := E) (d := d) v1 v2 σ r5h) rfl lmRX2_45 (ci := 2) rfl tX_5 eX_5 rfl (Nat.le_of_ble_eq_true rfl) dX2_groupOf_19 rfl (st2 := [.int r5]) rfl (pc2 := 22) rfl ?_
      refine kg_if_eq 27 dX2_groupOf_22 rfl (pc2 := 25) rfl (fun q6 => ?_) (fun q6 => ?_)
      · replace h := (if_pos q6).symm.trans h
        obtain ⟨x7, x7e, h⟩ := kw_let_e h
        refine kg_iinc 2 dX2_groupOf_27 rfl (Nat.le_of_ble_eq_true rfl) x7e (lv2 := [(2, .int x7), (0, .ref 5), (1, .int v1)]) rfl (pc2 := 30) rfl ?_
        refine kg_goto 2 dX2_groupOf_30 rfl ?_
        refine kg_sub [1, 2, 0] (lv2 := [(0, .ref 5), (1, .int v1), (2, .int x7)]) rfl ?_
        cases h
        exact hk
      · replace h := (if_neg q6).symm.trans h
        refine kg_iload_n 2 dX2_groupOf_25 rfl (pc2 := 26) rfl ?_
        cases h
        obtain ⟨rfl, rfl⟩ := hk
        exact kg_iret (ty := .int) dX2_groupOf_26 rfl rfl
set_option maxHeartbeats 4000000 in
set_option maxRecDepth 100000 in
theorem gX2_groupOf {E : kw_E} {d : Nat} (a1 : Int32) (σ : kw_M) {r : Int32} (h : fX2_groupOf a1 σ = some r) : kw_Met E kwTX 48 (d + 2) μX2_groupOf [.ref 5, .int a1] σ (some (Value.int r)) σ := by
  refine kw_enter plRX2 (Nat.le_of_ble_eq_true rfl) ?_
  show kw_G E kwTX 48 (d + 2) μX2_groupOf 0 [(0, .ref 5), (1, .int a1)] [] σ (some (Value.int r)) σ
  unfold fX2_groupOf at h
  refine kg_iconst dX2_groupOf_0 ki_0 (pc2 := 1) rfl ?_
  refine kg_istore_n dX2_groupOf_1 rfl (Nat.le_of_ble_eq_true rfl) rfl (lv2 := [(2, .int (0 : Int32)), (0, .ref 5), (1, .int a1)]) rfl (pc2 := 2) rfl ?_
  refine kg_sub [1, 2, 0] (lv2 := [(0, .ref 5), (1, .int a1), (2, .int (0 : Int32))]) rfl ?_
  obtain ⟨x8, x8h, h⟩ := kw_bind_e h
  refine kw_loop_e (P := fun s => kw_G E kwTX 48 (d + 2) μX2_groupOf 2 [(0, .ref 5), (1, .int a1), (2, .int s)] [] σ (some (Value.int r)) σ) (K := Sum.elim (fun rr => (some (Value.int r)) = some (Value.int rr) ∧ σ = σ) (fun y => kw_G E kwTX 48 (d + 2) μX2_groupOf 33 [(1, .int a1)] [] σ (some (Value.int r)) σ)) (fun s o h0 hk => lX2_groupOf_2 a1 σ s h0 hk) kw_F _ _ x8h ?_
  rcases x8 with x8r | x8
  · replace h := kw_se_l h
    cases h
    exact ⟨rfl, rfl⟩
  · replace h := kw_se_r h
    show kw_G E kwTX 48 (d + 2) μX2_groupOf 33 [(1, .int a1)] [] σ (some (Value.int r)) σ
    refine kg_iload_n 0 dX2_groupOf_33 rfl (pc2 := 34) rfl ?_
    cases h
    exact kg_iret (ty := .int) dX2_groupOf_34 rfl rfl
set_option maxHeartbeats 4000000 in
set_option maxRecDepth 100000 in
theorem lX6_narrowest_55 {E : kw_E} {d : Nat} (v2 : Int32) (v5 : Int32) (v4 : Int32) (v6 : Int32) (σ : kw_M) {v : Option Value} {σ2 : kw_M} {o : (Int32 × Int32 × kw_M) ⊕ (Int32 × kw_M)} (h : bX6_narrowest_55 v2 v5 v4 v6 σ = some o) (hk : Sum.elim (fun s => kw_G E kwTX 48 (d + 2) μX6_narrowest 55 [(0, .ref 6), (1, .ref 1), (2, .int v2), (3, .ref 12), (4, .int s.1), (5, .int v5), (6, .int s.2.1)] [] s.2.2 v σ2) (fun y => kw_G E kwTX 48 (d + 2) μX6_narrowest 134 [(0, .ref 6), (1, .ref 1), (2, .int v2), (3, .ref 12), (4, .int y.1), (5, .int v5)] [] y.2 v σ2) o) : kw_G E kwTX 48 (d + 2) μX6_narrowest 55 [(0, .ref 6), (1, .ref 1), (2, .int v2), (3, .ref 12), (4, .int v4), (5, .int v5), (6, .int v6)] [] σ v σ2 := by
  unfold bX6_narrowest_55 at h
  refine kg_iload 6 dX6_narrowest_55 rfl (pc2 := 57) rfl ?_
  refine kg_aload_n 3 dX6_narrowest_57 rfl (pc2 := 58) rfl ?_
  refine kg_geti clX4 rfl 1 (Nat.le_of_ble_eq_true rfl) lfRX6_58 tX_12 eX_12 rfl dX6_narrowest_58 (pc2 := 61) rfl ?_
  refine kg_icmp_ge 134 dX6_narrowest_61 rfl (pc2 := 64) rfl (fun q6 => ?_) (fun q6 => ?_)
  · replace h := (if_pos q6).symm.trans h
    refine kg_sub [0, 1, 2, 3, 4, 5] (lv2 := [(0, .ref 6), (1, .ref 1), (2, .int v2), (3, .ref 12), (4, .int v4), (5, .int v5)]) rfl ?_
    cases h
    exact hk
  · replace h := (if_neg q6).symm.trans h
    refine kg_aload_n 0 dX6_narrowest_64 rfl (pc2 := 65) rfl ?_
    refine kg_getr clX6 rfl 4 (Nat.le_of_ble_eq_true rfl) lfRX6_19 tX_6 eX_6 rfl dX6_narrowest_65 (pc2 := 68) rfl ?_
    refine kg_aload_n 3 dX6_narrowest_68 rfl (pc2 := 69) rfl ?_
    refine kg_getr clX4 rfl 3 (Nat.le_of_ble_eq_true rfl) lfRX6_34 tX_12 eX_12 rfl dX6_narrowest_69 (pc2 := 72) rfl ?_
    refine kg_iload 6 dX6_narrowest_72 rfl (pc2 := 74) rfl ?_
    obtain ⟨q7, h⟩ := kw_chk_e h
    refine kg_iald tX_18 eX_18 q7 (j := v6.toNatClampNeg) rfl dX6_narrowest_74 (pc2 := 75) rfl ?_
    obtain ⟨q8, h⟩ := kw_chk_e h
    refine kg_lald tX_43 eX_43 q8 (j := (σ.1 18 v6.toNatClampNeg).toNatClampNeg) rfl dX6_narrowest_75 (pc2 := 76) rfl ?_
    obtain ⟨x9, x9e, h⟩ := kw_let_e h
    refine kg_lstore dX6_narrowest_76 (Nat.le_of_ble_eq_true rfl) x9e (lv2 := [(7, .long x9), (0, .ref 6), (1, .ref 1), (2, .int v2), (3, .ref 12), (4, .int v4), (5, .int v5), (6, .int v6)]) rfl (pc2 := 78) rfl ?_
    refine kg_aload_n 4 dX6_narrowest_78 rfl (pc2 := 79) rfl ?_
    refine kg_iload 7 dX6_narrowest_79 rfl (pc2 := 81) rfl ?_
    obtain ⟨r10, r10h, h⟩ := kw_bind_e h
    refine kg_callV (μ := μX6_narrowest) (d := (d + 1)) rfl mVX4_isOpen [.int v6] [] (gX4_isOpen (E := E) (d := (d + 1)) 12 kx_4_12 v6 σ r10h) rfl lmRX6_90 (ci := 4) rfl tX_12 eX_12 rfl (Nat.le_of_ble_eq_true rfl) dX6_narrowest_81 rfl (st2 := [.int r10]) rfl (pc2 := 84) rfl ?_
    refine kg_if_eq 128 dX6_narrowest_84 rfl (pc2 := 87) rfl (fun q11 => ?_) (fun q11 => ?_)
    · replace h := (if_pos q11).symm.trans h
      obtain ⟨x12, x12e, h⟩ := kw_let_e h
      refine kg_iinc 7 dX6_narrowest_128 rfl (Nat.le_of_ble_eq_true rfl) x12e (lv2 := [(6, .int x12), (7, .long x9), (0, .ref 6), (1, .ref 1), (2, .int v2), (3, .ref 12), (4, .int v4), (5, .int v5)]) rfl (pc2 := 131) rfl ?_
      refine kg_goto 55 dX6_narrowest_131 rfl ?_
      refine kg_sub [2, 3, 4, 5, 6, 7, 0] (lv2 := [(0, .ref 6), (1, .ref 1), (2, .int v2), (3, .ref 12), (4, .int v4), (5, .int v5), (6, .int x12)]) rfl ?_
      cases h
      exact hk
    · replace h := (if_neg q11).symm.trans h
      refine kg_lload 0 dX6_narrowest_87 rfl (pc2 := 89) rfl ?_
      refine kg_ldc2 rfl lcRX6_115 dX6_narrowest_89 (pc2 := 92) rfl ?_
      refine kg_lcmp_eq 128 dX6_narrowest_92 dX6_narrowest_93 rfl (pc2 := 96) rfl (fun q13 => ?_) (fun q13 => ?_)
      · replace h := (if_pos q13).symm.trans h
        obtain ⟨x14, x14e, h⟩ := kw_let_e h
        refine kg_iinc 7 dX6_narrowest_128 rfl (Nat.le_of_ble_eq_true rfl) x14e (lv2 := [(6, .int x14), (7, .long x9), (0, .ref 6), (1, .ref 1), (2, .int v2), (3, .ref 12), (4, .int v4), (5, .int v5)]) rfl (pc2 := 131) rfl ?_
        refine kg_goto 55 dX6_narrowest_131 rfl ?_
        refine kg_sub [2, 3, 4, 5, 6, 7, 0] (lv2 := [(0, .ref 6), (1, .ref 1), (2, .int v2), (3, .ref 12), (4, .int v4), (5, .int v5), (6, .int x14)]) rfl ?_
        cases h
        exact hk
      · replace h := (if_neg q13).symm.trans h
        refine kg_iload 5 dX6_narrowest_96 rfl (pc2 := 98) rfl ?_
        refine kg_aload_n 1 dX6_narrowest_98 rfl (pc2 := 99) rfl ?_
        refine kg_getr clX6 rfl 4 (Nat.le_of_ble_eq_true rfl) lfRX6_19 tX_6 eX_6 rfl dX6_narrowest_99 (pc2 := 102) rfl ?_
        refine kg_aload_n 4 dX6_narrowest_102 rfl (pc2 := 103) rfl ?_
        refine kg_getr clX4 rfl 4 (Nat.le_of_ble_eq_true rfl) lfRX6_65 tX_12 eX_12 rfl dX6_narrowest_103 (pc2 := 106) rfl ?_
        refine kg_iload 7 dX6_narrowest_106 rfl (pc2 := 108) rfl ?_
        refine kg_iald tX_19 eX_19 q7 (j := v6.toNatClampNeg) rfl dX6_narrowest_108 (pc2 := 109) rfl ?_
        refine kg_lload 0 dX6_narrowest_109 rfl (pc2 := 111) rfl ?_
        refine kg_aload_n 4 dX6_narrowest_111 rfl (pc2 := 112) rfl ?_
        refine kg_getr clX4 rfl 5 (Nat.le_of_ble_eq_true rfl) lfRX6_93 tX_12 eX_12 rfl dX6_narrowest_112 (pc2 := 115) rfl ?_
        refine kg_iload 7 dX6_narrowest_115 rfl (pc2 := 117) rfl ?_
        refine kg_iald tX_20 eX_20 q7 (j := v6.toNatClampNeg) rfl dX6_narrowest_117 (pc2 := 118) rfl ?_
        refine kg_i2l dX6_narrowest_118 (pc2 := 119) rfl ?_
        obtain ⟨x15, x15e, h⟩ := kw_let_e h
        refine kg_mmax_long (μ := μX6_narrowest) (d := (d + 1)) rfl rfl mmRX6_117 (Nat.le_of_ble_eq_true rfl) x15e dX6_narrowest_119 (pc2 := 122) rfl ?_
        obtain ⟨r16, r16h, h⟩ := kw_bind_e h
        refine kg_callS (μ := μX6_narrowest) (d := (d + 1)) rfl mSX4_lower [.ref 43, .int (σ.1 19 v6.toNatClampNeg), .long x15] [.int v4] (gX4_lower (E := E) (d := d) 43 ⟨tX_43, eX_43⟩ (σ.1 19 v6.toNatClampNeg) x15 σ r16h) rfl lmRX6_109 rfl (Nat.le_of_ble_eq_true rfl) dX6_narrowest_122 rfl (st2 := [.int r16.1, .int v4]) rfl (pc2 := 125) rfl ?_
        refine kg_ior dX6_narrowest_125 (pc2 := 126) rfl ?_
        obtain ⟨x17, x17e, h⟩ := kw_let_e h
        refine kg_istore dX6_narrowest_126 (Nat.le_of_ble_eq_true rfl) x17e (lv2 := [(4, .int x17), (7, .long x9), (0, .ref 6), (1, .ref 1), (2, .int v2), (3, .ref 12), (5, .int v5), (6, .int v6)]) rfl (pc2 := 128) rfl ?_
        obtain ⟨x18, x18e, h⟩ := kw_let_e h
        refine kg_iinc 7 dX6_narrowest_128 rfl (Nat.le_of_ble_eq_true rfl) x18e (lv2 := [(6, .int x18), (4, .int x17), (7, .long x9), (0, .ref 6), (1, .ref 1), (2, .int v2), (3, .ref 12), (5, .int v5)]) rfl (pc2 := 131) rfl ?_
        refine kg_goto 55 dX6_narrowest_131 rfl ?_
        refine kg_sub [3, 4, 5, 6, 1, 7, 0] (lv2 := [(0, .ref 6), (1, .ref 1), (2, .int v2), (3, .ref 12), (4, .int x17), (5, .int v5), (6, .int x18)]) rfl ?_
        cases h
        exact hk
