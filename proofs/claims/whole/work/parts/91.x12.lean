/-! The class, method by method: the machine does what f says (g). -/
set_option maxHeartbeats 4000000 in
set_option maxRecDepth 100000 in
theorem lX9_drawn_67 {E : kw_E} {d : Nat} (v1 : Int32) (v2 : Int32) (v3 : Int32) (v4 : Int32) (σ : kw_M) {v : Option Value} {σ2 : kw_M} {o : (Int32 × Int32 × kw_M) ⊕ (kw_M)} (h : bX9_drawn_67 v1 v2 v3 v4 σ = some o) (hk : Sum.elim (fun s => kw_G E kwTX 48 (d + 5) μX9_drawn 67 [(0, .ref 0), (1, .int v1), (2, .int v2), (3, .int s.1), (4, .int s.2.1)] [] s.2.2 v σ2) (fun y => kw_G E kwTX 48 (d + 5) μX9_drawn 110 [(0, .ref 0), (2, .int v2)] [] y v σ2) o) : kw_G E kwTX 48 (d + 5) μX9_drawn 67 [(0, .ref 0), (1, .int v1), (2, .int v2), (3, .int v3), (4, .int v4)] [] σ v σ2 := by
  unfold bX9_drawn_67 at h
  refine kg_iload 4 dX9_drawn_67 rfl (pc2 := 69) rfl ?_
  refine kg_iload_n 1 dX9_drawn_69 rfl (pc2 := 70) rfl ?_
  refine kg_icmp_ge 110 dX9_drawn_70 rfl (pc2 := 73) rfl (fun q8 => ?_) (fun q8 => ?_)
  · replace h := (if_pos q8).symm.trans h
    refine kg_sub [0, 2] (lv2 := [(0, .ref 0), (2, .int v2)]) rfl ?_
    cases h
    exact hk
  · replace h := (if_neg q8).symm.trans h
    refine kg_iload_n 3 dX9_drawn_73 rfl (pc2 := 74) rfl ?_
    obtain ⟨r9, r9h, h⟩ := kw_bind_e h
    refine kg_callS (μ := μX9_drawn) (d := (d + 4)) rfl mSX9_drawAfter [.int v3] [] (gX9_drawAfter (E := E) (d := (d + 4)) v3 σ r9h) rfl lmRX9_435 rfl (Nat.le_of_ble_eq_true rfl) dX9_drawn_74 rfl (st2 := [.int r9]) rfl (pc2 := 77) rfl ?_
    refine kg_istore_n dX9_drawn_77 rfl (Nat.le_of_ble_eq_true rfl) rfl (lv2 := [(3, .int r9), (0, .ref 0), (1, .int v1), (2, .int v2), (4, .int v4)]) rfl (pc2 := 78) rfl ?_
    refine kg_iload_n 0 dX9_drawn_78 rfl (pc2 := 79) rfl ?_
    refine kg_aload_n 1 dX9_drawn_79 rfl (pc2 := 80) rfl ?_
    refine kg_getr clX9 rfl 0 (Nat.le_of_ble_eq_true rfl) lfRX9_10 tX_0 eX_0 rfl dX9_drawn_80 (pc2 := 83) rfl ?_
    refine kg_getr clX7 rfl 0 (Nat.le_of_ble_eq_true rfl) lfRX9_148 tX_1 eX_1 rfl dX9_drawn_83 (pc2 := 86) rfl ?_
    refine kg_geti clX4 rfl 1 (Nat.le_of_ble_eq_true rfl) lfRX9_182 tX_12 eX_12 rfl dX9_drawn_86 (pc2 := 89) rfl ?_
    obtain ⟨q10, h⟩ := kw_chk_e h
    refine kg_irem dX9_drawn_89 q10 (pc2 := 90) rfl ?_
    obtain ⟨x11, x11e, h⟩ := kw_let_e h
    refine kg_istore dX9_drawn_90 (Nat.le_of_ble_eq_true rfl) x11e (lv2 := [(5, .int x11), (3, .int r9), (0, .ref 0), (1, .int v1), (2, .int v2), (4, .int v4)]) rfl (pc2 := 92) rfl ?_
    refine kg_iload_n 1 dX9_drawn_92 rfl (pc2 := 93) rfl ?_
    obtain ⟨r12, r12h, h⟩ := kw_bind_e h
    refine kg_callS (μ := μX9_drawn) (d := (d + 4)) rfl mSX9_drawAfter [.int r9] [] (gX9_drawAfter (E := E) (d := (d + 4)) r9 σ r12h) rfl lmRX9_435 rfl (Nat.le_of_ble_eq_true rfl) dX9_drawn_93 rfl (st2 := [.int r12]) rfl (pc2 := 96) rfl ?_
    refine kg_istore_n dX9_drawn_96 rfl (Nat.le_of_ble_eq_true rfl) rfl (lv2 := [(3, .int r12), (5, .int x11), (0, .ref 0), (1, .int v1), (2, .int v2), (4, .int v4)]) rfl (pc2 := 97) rfl ?_
    refine kg_aload_n 2 dX9_drawn_97 rfl (pc2 := 98) rfl ?_
    refine kg_iload 1 dX9_drawn_98 rfl (pc2 := 100) rfl ?_
    refine kg_iload_n 0 dX9_drawn_100 rfl (pc2 := 101) rfl ?_
    obtain ⟨r13, r13h, h⟩ := kw_bind_e h
    refine kg_callV (μ := μX9_drawn) (d := (d + 4)) rfl mVX9_drawChange [.int x11, .int r12] [] (gX9_drawChange (E := E) (d := d) x11 r12 σ r13h) rfl lmRX9_438 (ci := 9) rfl tX_0 eX_0 rfl (Nat.le_of_ble_eq_true rfl) dX9_drawn_101 rfl (st2 := []) rfl (pc2 := 104) rfl ?_
    obtain ⟨x14, x14e, h⟩ := kw_let_e h
    refine kg_iinc 5 dX9_drawn_104 rfl (Nat.le_of_ble_eq_true rfl) x14e (lv2 := [(4, .int x14), (3, .int r12), (5, .int x11), (0, .ref 0), (1, .int v1), (2, .int v2)]) rfl (pc2 := 107) rfl ?_
    refine kg_goto 67 dX9_drawn_107 rfl ?_
    refine kg_sub [3, 4, 5, 1, 0] (lv2 := [(0, .ref 0), (1, .int v1), (2, .int v2), (3, .int r12), (4, .int x14)]) rfl ?_
    cases h
    exact hk
set_option maxHeartbeats 4000000 in
set_option maxRecDepth 100000 in
theorem gX9_drawn {E : kw_E} {d : Nat} (a1 : Int32) (a2 : Int32) (σ : kw_M) {r : Int64 × kw_M} (h : fX9_drawn a1 a2 σ = some r) : kw_Met E kwTX 48 (d + 5) μX9_drawn [.ref 0, .int a1, .int a2] σ (some (Value.long r.1)) r.2 := by
  refine kw_enter plRX9 (Nat.le_of_ble_eq_true rfl) ?_
  show kw_G E kwTX 48 (d + 5) μX9_drawn 0 [(0, .ref 0), (1, .int a1), (2, .int a2)] [] σ (some (Value.long r.1)) r.2
  unfold fX9_drawn at h
  refine kg_iload_n 1 dX9_drawn_0 rfl (pc2 := 1) rfl ?_
  refine kg_iconst dX9_drawn_1 ki_1 (pc2 := 2) rfl ?_
  refine kg_icmp_lt 38 dX9_drawn_2 rfl (pc2 := 5) rfl (fun q1 => ?_) (fun q1 => ?_)
  · replace h := (if_pos q1).symm.trans h
    refine kg_ldc2 rfl lcRX9_261 dX9_drawn_38 (pc2 := 41) rfl ?_
    cases h
    exact kg_lret dX9_drawn_41 rfl
  · replace h := (if_neg q1).symm.trans h
    refine kg_iload_n 1 dX9_drawn_5 rfl (pc2 := 6) rfl ?_
    refine kg_bipush dX9_drawn_6 kb_60 (pc2 := 8) rfl ?_
    refine kg_icmp_gt 38 dX9_drawn_8 rfl (pc2 := 11) rfl (fun q2 => ?_) (fun q2 => ?_)
    · replace h := (if_pos q2).symm.trans h
      refine kg_ldc2 rfl lcRX9_261 dX9_drawn_38 (pc2 := 41) rfl ?_
      cases h
      exact kg_lret dX9_drawn_41 rfl
    · replace h := (if_neg q2).symm.trans h
      refine kg_aload_n 0 dX9_drawn_11 rfl (pc2 := 12) rfl ?_
      refine kg_getr clX9 rfl 0 (Nat.le_of_ble_eq_true rfl) lfRX9_10 tX_0 eX_0 rfl dX9_drawn_12 (pc2 := 15) rfl ?_
      refine kg_getr clX7 rfl 0 (Nat.le_of_ble_eq_true rfl) lfRX9_148 tX_1 eX_1 rfl dX9_drawn_15 (pc2 := 18) rfl ?_
      refine kg_iload_n 2 dX9_drawn_18 rfl (pc2 := 19) rfl ?_
      obtain ⟨r3, r3h, h⟩ := kw_bind_e h
      refine kg_callV (μ := μX9_drawn) (d := (d + 4)) rfl mVX4_hasTown [.int a2] [] (gX4_hasTown (E := E) (d := (d + 4)) a2 σ r3h) rfl lmRX9_176 (ci := 4) rfl tX_12 eX_12 rfl (Nat.le_of_ble_eq_true rfl) dX9_drawn_19 rfl (st2 := [.int r3]) rfl (pc2 := 22) rfl ?_
      refine kg_if_eq 38 dX9_drawn_22 rfl (pc2 := 25) rfl (fun q4 => ?_) (fun q4 => ?_)
      · replace h := (if_pos q4).symm.trans h
        refine kg_ldc2 rfl lcRX9_261 dX9_drawn_38 (pc2 := 41) rfl ?_
        cases h
        exact kg_lret dX9_drawn_41 rfl
      · replace h := (if_neg q4).symm.trans h
        refine kg_aload_n 0 dX9_drawn_25 rfl (pc2 := 26) rfl ?_
        refine kg_getr clX9 rfl 0 (Nat.le_of_ble_eq_true rfl) lfRX9_10 tX_0 eX_0 rfl dX9_drawn_26 (pc2 := 29) rfl ?_
        refine kg_getr clX7 rfl 0 (Nat.le_of_ble_eq_true rfl) lfRX9_148 tX_1 eX_1 rfl dX9_drawn_29 (pc2 := 32) rfl ?_
        refine kg_geti clX4 rfl 1 (Nat.le_of_ble_eq_true rfl) lfRX9_182 tX_12 eX_12 rfl dX9_drawn_32 (pc2 := 35) rfl ?_
        refine kg_if_gt 42 dX9_drawn_35 rfl (pc2 := 38) rfl (fun q5 => ?_) (fun q5 => ?_)
        · replace h := (if_pos q5).symm.trans h
          refine kg_aload_n 0 dX9_drawn_42 rfl (pc2 := 43) rfl ?_
          refine kg_getr clX9 rfl 10 (Nat.le_of_ble_eq_true rfl) lfRX9_72 tX_0 eX_0 rfl dX9_drawn_43 (pc2 := 46) rfl ?_
          refine kg_aload_n 0 dX9_drawn_46 rfl (pc2 := 47) rfl ?_
          refine kg_getr clX9 rfl 0 (Nat.le_of_ble_eq_true rfl) lfRX9_10 tX_0 eX_0 rfl dX9_drawn_47 (pc2 := 50) rfl ?_
          refine kg_getr clX7 rfl 0 (Nat.le_of_ble_eq_true rfl) lfRX9_148 tX_1 eX_1 rfl dX9_drawn_50 (pc2 := 53) rfl ?_
          obtain ⟨r6, r6h, h⟩ := kw_bind_e h
          refine kg_callV (μ := μX9_drawn) (d := (d + 4)) rfl mVX4_copyFrom [.ref 12] [] (gX4_copyFrom (E := E) (d := (d + 3)) 10 12 kx_4_10 kx_4_12 σ r6h) rfl lmRX9_185 (ci := 4) rfl tX_10 eX_10 rfl (Nat.le_of_ble_eq_true rfl) dX9_drawn_53 rfl (st2 := []) rfl (pc2 := 56) rfl ?_
          refine kg_aload_n 0 dX9_drawn_56 rfl (pc2 := 57) rfl ?_
          refine kg_getr clX9 rfl 0 (Nat.le_of_ble_eq_true rfl) lfRX9_10 tX_0 eX_0 rfl dX9_drawn_57 (pc2 := 60) rfl ?_
          refine kg_geti clX7 rfl 4 (Nat.le_of_ble_eq_true rfl) lfRX9_258 tX_1 eX_1 rfl dX9_drawn_60 (pc2 := 63) rfl ?_
          obtain ⟨x7, x7e, h⟩ := kw_let_e h
          refine kg_istore_n dX9_drawn_63 rfl (Nat.le_of_ble_eq_true rfl) x7e (lv2 := [(3, .int x7), (0, .ref 0), (1, .int a1), (2, .int a2)]) rfl (pc2 := 64) rfl ?_
          refine kg_iconst dX9_drawn_64 ki_0 (pc2 := 65) rfl ?_
          refine kg_istore dX9_drawn_65 (Nat.le_of_ble_eq_true rfl) rfl (lv2 := [(4, .int (0 : Int32)), (3, .int x7), (0, .ref 0), (1, .int a1), (2, .int a2)]) rfl (pc2 := 67) rfl ?_
          refine kg_sub [2, 3, 4, 1, 0] (lv2 := [(0, .ref 0), (1, .int a1), (2, .int a2), (3, .int x7), (4, .int (0 : Int32))]) rfl ?_
          obtain ⟨x15, x15h, h⟩ := kw_bind_e h
          refine kw_loop_e (P := fun s => kw_G E kwTX 48 (d + 5) μX9_drawn 67 [(0, .ref 0), (1, .int a1), (2, .int a2), (3, .int s.1), (4, .int s.2.1)] [] s.2.2 (some (Value.long r.1)) r.2) (K := fun y => kw_G E kwTX 48 (d + 5) μX9_drawn 110 [(0, .ref 0), (2, .int a2)] [] y (some (Value.long r.1)) r.2) (fun s o h0 hk => lX9_drawn_67 a1 a2 s.1 s.2.1 s.2.2 h0 hk) kw_F _ _ x15h ?_
          show kw_G E kwTX 48 (d + 5) μX9_drawn 110 [(0, .ref 0), (2, .int a2)] [] x15 (some (Value.long r.1)) r.2
          refine kg_aload_n 0 dX9_drawn_110 rfl (pc2 := 111) rfl ?_
          refine kg_getr clX9 rfl 10 (Nat.le_of_ble_eq_true rfl) lfRX9_72 tX_0 eX_0 rfl dX9_drawn_111 (pc2 := 114) rfl ?_
          refine kg_aload_n 0 dX9_drawn_114 rfl (pc2 := 115) rfl ?_
          refine kg_getr clX9 rfl 0 (Nat.le_of_ble_eq_true rfl) lfRX9_10 tX_0 eX_0 rfl dX9_drawn_115 (pc2 := 118) rfl ?_
          refine kg_geti clX7 rfl 2 (Nat.le_of_ble_eq_true rfl) lfRX9_189 tX_1 eX_1 rfl dX9_drawn_118 (pc2 := 121) rfl ?_
          refine kg_iconst dX9_drawn_121 ki_m1 (pc2 := 122) rfl ?_
          refine kg_aload_n 0 dX9_drawn_122 rfl (pc2 := 123) rfl ?_
          refine kg_getr clX9 rfl 11 (Nat.le_of_ble_eq_true rfl) lfRX9_76 tX_0 eX_0 rfl dX9_drawn_123 (pc2 := 126) rfl ?_
          obtain ⟨r16, r16h, h⟩ := kw_bind_e h
          refine kg_callV (μ := μX9_drawn) (d := (d + 4)) rfl mVX4_settle [.int (x15.1 1 2), .int (-1 : Int32), .ref 11] [] (gX4_settle (E := E) (d := (d + 3)) 10 11 kx_4_10 ⟨tX_11, eX_11⟩ (x15.1 1 2) (-1 : Int32) x15 r16h) rfl lmRX9_130 (ci := 4) rfl tX_10 eX_10 rfl (Nat.le_of_ble_eq_true rfl) dX9_drawn_126 rfl (st2 := []) rfl (pc2 := 129) rfl ?_
          refine kg_aload_n 0 dX9_drawn_129 rfl (pc2 := 130) rfl ?_
          refine kg_getr clX9 rfl 11 (Nat.le_of_ble_eq_true rfl) lfRX9_76 tX_0 eX_0 rfl dX9_drawn_130 (pc2 := 133) rfl ?_
          refine kg_iload_n 1 dX9_drawn_133 rfl (pc2 := 134) rfl ?_
          obtain ⟨q17, h⟩ := kw_chk_e h
          refine kg_lald tX_11 eX_11 q17 (j := a2.toNatClampNeg) rfl dX9_drawn_134 (pc2 := 135) rfl ?_
          cases h
          exact kg_lret dX9_drawn_135 rfl
        · replace h := (if_neg q5).symm.trans h
          refine kg_ldc2 rfl lcRX9_261 dX9_drawn_38 (pc2 := 41) rfl ?_
          cases h
          exact kg_lret dX9_drawn_41 rfl
set_option maxHeartbeats 4000000 in
set_option maxRecDepth 100000 in
theorem gX9_seed {E : kw_E} {d : Nat} (a1 : Int32) (σ : kw_M) {r : Int32 × kw_M} (h : fX9_seed a1 σ = some r) : kw_Met E kwTX 48 d μX9_seed [.ref 0, .int a1] σ (some (Value.int r.1)) r.2 := by
  refine kw_enter plRX9 (Nat.le_of_ble_eq_true rfl) ?_
  show kw_G E kwTX 48 d μX9_seed 0 [(0, .ref 0), (1, .int a1)] [] σ (some (Value.int r.1)) r.2
  unfold fX9_seed at h
  refine kg_iload_n 1 dX9_seed_0 rfl (pc2 := 1) rfl ?_
  refine kg_if_lt 11 dX9_seed_1 rfl (pc2 := 4) rfl (fun q1 => ?_) (fun q1 => ?_)
  · replace h := (if_pos q1).symm.trans h
    refine kg_iconst dX9_seed_11 ki_0 (pc2 := 12) rfl ?_
    cases h
    exact kg_iret (ty := .boolean) dX9_seed_12 rfl rfl
  · replace h := (if_neg q1).symm.trans h
    refine kg_iload_n 1 dX9_seed_4 rfl (pc2 := 5) rfl ?_
    refine kg_ldcw rfl lcRX9_442 dX9_seed_5 (pc2 := 8) rfl ?_
    refine kg_icmp_lt 13 dX9_seed_8 rfl (pc2 := 11) rfl (fun q2 => ?_) (fun q2 => ?_)
    · replace h := (if_pos q2).symm.trans h
      refine kg_aload_n 0 dX9_seed_13 rfl (pc2 := 14) rfl ?_
      refine kg_getr clX9 rfl 0 (Nat.le_of_ble_eq_true rfl) lfRX9_10 tX_0 eX_0 rfl dX9_seed_14 (pc2 := 17) rfl ?_
      refine kg_iload_n 1 dX9_seed_17 rfl (pc2 := 18) rfl ?_
      obtain ⟨s3, s3e, h⟩ := kw_let_e h
      refine kg_puti clX7 rfl 4 (Nat.le_of_ble_eq_true rfl) lfRX9_258 rfl tX_1 eX_1 rfl (ty := .int) (by decide +kernel) rfl rfl s3e dX9_seed_18 (pc2 := 21) rfl ?_
      refine kg_iconst dX9_seed_21 ki_1 (pc2 := 22) rfl ?_
      cases h
      exact kg_iret (ty := .boolean) dX9_seed_22 rfl rfl
    · replace h := (if_neg q2).symm.trans h
      refine kg_iconst dX9_seed_11 ki_0 (pc2 := 12) rfl ?_
      cases h
      exact kg_iret (ty := .boolean) dX9_seed_12 rfl rfl
set_option maxHeartbeats 4000000 in
set_option maxRecDepth 100000 in
theorem gX0_copyFrom {E : kw_E} {d : Nat} (c0 : Nat) (c1 : Nat) (hc0 : kx_0 c0) (hc1 : kx_0 c1) (σ : kw_M) {r : kw_M} (h : fX0_copyFrom c0 c1 σ = some r) : kw_Met E kwTX 48 (d + 1) μX0_copyFrom [.ref c0, .ref c1] σ none r := by
  refine kw_enter plRX0 (Nat.le_of_ble_eq_true rfl) ?_
  show kw_G E kwTX 48 (d + 1) μX0_copyFrom 0 [(0, .ref c0), (1, .ref c1)] [] σ none r
  unfold fX0_copyFrom at h
  refine kg_aload_n 0 dX0_copyFrom_0 rfl (pc2 := 1) rfl ?_
  refine kg_aload_n 1 dX0_copyFrom_1 rfl (pc2 := 2) rfl ?_
  refine kg_geti clX0 rfl 0 (Nat.le_of_ble_eq_true rfl) lfRX0_15 hc1.1 hc1.2.1 rfl dX0_copyFrom_2 (pc2 := 5) rfl ?_
  obtain ⟨s1, s1e, h⟩ := kw_let_e h
  refine kg_puti clX0 rfl 0 (Nat.le_of_ble_eq_true rfl) lfRX0_15 rfl hc0.1 hc0.2.1 rfl (ty := .int) (by decide +kernel) rfl rfl s1e dX0_copyFrom_5 (pc2 := 8) rfl ?_
  refine kg_aload_n 1 dX0_copyFrom_8 rfl (pc2 := 9) rfl ?_
  refine kg_getr clX0 rfl 1 (Nat.le_of_ble_eq_true rfl) lfRX0_9 hc1.1 hc1.2.1 rfl dX0_copyFrom_9 (pc2 := 12) rfl ?_
  refine kg_iconst dX0_copyFrom_12 ki_0 (pc2 := 13) rfl ?_
  refine kg_aload_n 0 dX0_copyFrom_13 rfl (pc2 := 14) rfl ?_
  refine kg_getr clX0 rfl 1 (Nat.le_of_ble_eq_true rfl) lfRX0_9 hc0.1 hc0.2.1 rfl dX0_copyFrom_14 (pc2 := 17) rfl ?_
  refine kg_iconst dX0_copyFrom_17 ki_0 (pc2 := 18) rfl ?_
  refine kg_aload_n 0 dX0_copyFrom_18 rfl (pc2 := 19) rfl ?_
  refine kg_geti clX0 rfl 0 (Nat.le_of_ble_eq_true rfl) lfRX0_15 hc0.1 hc0.2.1 rfl dX0_copyFrom_19 (pc2 := 22) rfl ?_
  refine kg_iconst dX0_copyFrom_22 ki_4 (pc2 := 23) rfl ?_
  refine kg_imul dX0_copyFrom_23 (pc2 := 24) rfl ?_
  obtain ⟨q2, h⟩ := kw_chk_e h
  obtain ⟨q3, h⟩ := kw_chk_e h
  obtain ⟨q4, h⟩ := kw_chk_e h
  obtain ⟨s5, s5e, h⟩ := kw_let_e h
  refine kg_copyl (μ := μX0_copyFrom) (d := d) rfl rfl cpRX0_19 hc1.2.2.1 hc1.2.2.2 hc0.2.2.1 hc0.2.2.2 (by decide) (by decide) q2 q3 q4 (Nat.le_of_ble_eq_true rfl) (by decide) (by decide) rfl s5e dX0_copyFrom_24 (pc2 := 27) rfl ?_
  cases h
  exact kg_vret dX0_copyFrom_27 rfl
set_option maxHeartbeats 4000000 in
set_option maxRecDepth 100000 in
theorem gX7_copyFrom {E : kw_E} {d : Nat} (c0 : Nat) (c1 : Nat) (hc0 : kx_7 c0) (hc1 : kx_7 c1) (σ : kw_M) {r : kw_M} (h : fX7_copyFrom c0 c1 σ = some r) : kw_Met E kwTX 48 (d + 2) μX7_copyFrom [.ref c0, .ref c1] σ none r := by
  refine kw_enter plRX7 (Nat.le_of_ble_eq_true rfl) ?_
  show kw_G E kwTX 48 (d + 2) μX7_copyFrom 0 [(0, .ref c0), (1, .ref c1)] [] σ none r
  unfold fX7_copyFrom at h
  refine kg_aload_n 0 dX7_copyFrom_0 rfl (pc2 := 1) rfl ?_
  refine kg_getr clX7 rfl 0 (Nat.le_of_ble_eq_true rfl) lfRX7_12 hc0.1 hc0.2.1 rfl dX7_copyFrom_1 (pc2 := 4) rfl ?_
  refine kg_aload_n 1 dX7_copyFrom_4 rfl (pc2 := 5) rfl ?_
  refine kg_getr clX7 rfl 0 (Nat.le_of_ble_eq_true rfl) lfRX7_12 hc1.1 hc1.2.1 rfl dX7_copyFrom_5 (pc2 := 8) rfl ?_
  obtain ⟨r1, r1h, h⟩ := kw_bind_e h
  refine kg_callV (μ := μX7_copyFrom) (d := (d + 1)) rfl mVX4_copyFrom [.ref (kx_rf c1 0)] [] (gX4_copyFrom (E := E) (d := d) (kx_rf c0 0) (kx_rf c1 0) hc0.2.2.1 hc1.2.2.1 σ r1h) rfl lmRX7_50 (ci := 4) rfl hc0.2.2.1.1 hc0.2.2.1.2.1 rfl (Nat.le_of_ble_eq_true rfl) dX7_copyFrom_8 rfl (st2 := []) rfl (pc2 := 11) rfl ?_
  refine kg_aload_n 0 dX7_copyFrom_11 rfl (pc2 := 12) rfl ?_
  refine kg_getr clX7 rfl 1 (Nat.le_of_ble_eq_true rfl) lfRX7_21 hc0.1 hc0.2.1 rfl dX7_copyFrom_12 (pc2 := 15) rfl ?_
  refine kg_aload_n 1 dX7_copyFrom_15 rfl (pc2 := 16) rfl ?_
  refine kg_getr clX7 rfl 1 (Nat.le_of_ble_eq_true rfl) lfRX7_21 hc1.1 hc1.2.1 rfl dX7_copyFrom_16 (pc2 := 19) rfl ?_
  obtain ⟨r2, r2h, h⟩ := kw_bind_e h
  refine kg_callV (μ := μX7_copyFrom) (d := (d + 1)) rfl mVX0_copyFrom [.ref (kx_rf c1 1)] [] (gX0_copyFrom (E := E) (d := d) (kx_rf c0 1) (kx_rf c1 1) hc0.2.2.2.1 hc1.2.2.2.1 r1 r2h) rfl lmRX7_54 (ci := 0) rfl hc0.2.2.2.1.1 hc0.2.2.2.1.2.1 rfl (Nat.le_of_ble_eq_true rfl) dX7_copyFrom_19 rfl (st2 := []) rfl (pc2 := 22) rfl ?_
  refine kg_aload_n 0 dX7_copyFrom_22 rfl (pc2 := 23) rfl ?_
  refine kg_aload_n 1 dX7_copyFrom_23 rfl (pc2 := 24) rfl ?_
  refine kg_geti clX7 rfl 2 (Nat.le_of_ble_eq_true rfl) lfRX7_57 hc1.1 hc1.2.1 rfl dX7_copyFrom_24 (pc2 := 27) rfl ?_
  obtain ⟨s3, s3e, h⟩ := kw_let_e h
  refine kg_puti clX7 rfl 2 (Nat.le_of_ble_eq_true rfl) lfRX7_57 rfl hc0.1 hc0.2.1 rfl (ty := .int) (by decide +kernel) rfl rfl s3e dX7_copyFrom_27 (pc2 := 30) rfl ?_
  refine kg_aload_n 0 dX7_copyFrom_30 rfl (pc2 := 31) rfl ?_
  refine kg_aload_n 1 dX7_copyFrom_31 rfl (pc2 := 32) rfl ?_
  refine kg_geti clX7 rfl 3 (Nat.le_of_ble_eq_true rfl) lfRX7_60 hc1.1 hc1.2.1 rfl dX7_copyFrom_32 (pc2 := 35) rfl ?_
  obtain ⟨s4, s4e, h⟩ := kw_let_e h
  refine kg_puti clX7 rfl 3 (Nat.le_of_ble_eq_true rfl) lfRX7_60 rfl hc0.1 hc0.2.1 rfl (ty := .int) (by decide +kernel) rfl rfl s4e dX7_copyFrom_35 (pc2 := 38) rfl ?_
  refine kg_aload_n 0 dX7_copyFrom_38 rfl (pc2 := 39) rfl ?_
  refine kg_aload_n 1 dX7_copyFrom_39 rfl (pc2 := 40) rfl ?_
  refine kg_geti clX7 rfl 4 (Nat.le_of_ble_eq_true rfl) lfRX7_25 hc1.1 hc1.2.1 rfl dX7_copyFrom_40 (pc2 := 43) rfl ?_
  obtain ⟨s5, s5e, h⟩ := kw_let_e h
  refine kg_puti clX7 rfl 4 (Nat.le_of_ble_eq_true rfl) lfRX7_25 rfl hc0.1 hc0.2.1 rfl (ty := .int) (by decide +kernel) rfl rfl s5e dX7_copyFrom_43 (pc2 := 46) rfl ?_
  refine kg_aload_n 0 dX7_copyFrom_46 rfl (pc2 := 47) rfl ?_
  refine kg_aload_n 1 dX7_copyFrom_47 rfl (pc2 := 48) rfl ?_
  refine kg_geti clX7 rfl 5 (Nat.le_of_ble_eq_true rfl) lfRX7_63 hc1.1 hc1.2.1 rfl dX7_copyFrom_48 (pc2 := 51) rfl ?_
  obtain ⟨s6, s6e, h⟩ := kw_let_e h
  refine kg_puti clX7 rfl 5 (Nat.le_of_ble_eq_true rfl) lfRX7_63 rfl hc0.1 hc0.2.1 rfl (ty := .int) (by decide +kernel) rfl rfl s6e dX7_copyFrom_51 (pc2 := 54) rfl ?_
  refine kg_aload_n 0 dX7_copyFrom_54 rfl (pc2 := 55) rfl ?_
  refine kg_aload_n 1 dX7_copyFrom_55 rfl (pc2 := 56) rfl ?_
  refine kg_geti clX7 rfl 7 (Nat.le_of_ble_eq_true rfl) lfRX7_66 hc1.1 hc1.2.1 rfl dX7_copyFrom_56 (pc2 := 59) rfl ?_
  obtain ⟨s7, s7e, h⟩ := kw_let_e h
  refine kg_puti clX7 rfl 7 (Nat.le_of_ble_eq_true rfl) lfRX7_66 rfl hc0.1 hc0.2.1 rfl (ty := .int) (by decide +kernel) rfl rfl s7e dX7_copyFrom_59 (pc2 := 62) rfl ?_
  refine kg_aload_n 1 dX7_copyFrom_62 rfl (pc2 := 63) rfl ?_
  refine kg_getr clX7 rfl 6 (Nat.le_of_ble_eq_true rfl) lfRX7_29 hc1.1 hc1.2.1 rfl dX7_copyFrom_63 (pc2 := 66) rfl ?_
  refine kg_iconst dX7_copyFrom_66 ki_0 (pc2 := 67) rfl ?_
  refine kg_aload_n 0 dX7_copyFrom_67 rfl (pc2 := 68) rfl ?_
  refine kg_getr clX7 rfl 6 (Nat.le_of_ble_eq_true rfl) lfRX7_29 hc0.1 hc0.2.1 rfl dX7_copyFrom_68 (pc2 := 71) rfl ?_
  refine kg_iconst dX7_copyFrom_71 ki_0 (pc2 := 72) rfl ?_
  refine kg_bipush dX7_copyFrom_72 kb_12 (pc2 := 74) rfl ?_
  obtain ⟨s8, s8e, h⟩ := kw_let_e h
  refine kg_copyi (μ := μX7_copyFrom) (d := (d + 1)) rfl rfl cpRX7_69 hc1.2.2.2.2.1.1 hc1.2.2.2.2.1.2 hc0.2.2.2.2.1.1 hc0.2.2.2.2.1.2 (by decide) (by decide) (by decide) (by decide) (by decide) (Nat.le_of_ble_eq_true rfl) (by decide) (by decide) (by decide) s8e dX7_copyFrom_74 (pc2 := 77) rfl ?_
  refine kg_aload_n 1 dX7_copyFrom_77 rfl (pc2 := 78) rfl ?_
  refine kg_getr clX7 rfl 8 (Nat.le_of_ble_eq_true rfl) lfRX7_33 hc1.1 hc1.2.1 rfl dX7_copyFrom_78 (pc2 := 81) rfl ?_
  refine kg_iconst dX7_copyFrom_81 ki_0 (pc2 := 82) rfl ?_
  refine kg_aload_n 0 dX7_copyFrom_82 rfl (pc2 := 83) rfl ?_
  refine kg_getr clX7 rfl 8 (Nat.le_of_ble_eq_true rfl) lfRX7_33 hc0.1 hc0.2.1 rfl dX7_copyFrom_83 (pc2 := 86) rfl ?_
  refine kg_iconst dX7_copyFrom_86 ki_0 (pc2 := 87) rfl ?_
  refine kg_bipush dX7_copyFrom_87 kb_12 (pc2 := 89) rfl ?_
  obtain ⟨s9, s9e, h⟩ := kw_let_e h
  refine kg_copyi (μ := μX7_copyFrom) (d := (d + 1)) rfl rfl cpRX7_69 hc1.2.2.2.2.2.1.1 hc1.2.2.2.2.2.1.2 hc0.2.2.2.2.2.1.1 hc0.2.2.2.2.2.1.2 (by decide) (by decide) (by decide) (by decide) (by decide) (Nat.le_of_ble_eq_true rfl) (by decide) (by decide) (by decide) s9e dX7_copyFrom_89 (pc2 := 92) rfl ?_
  refine kg_aload_n 1 dX7_copyFrom_92 rfl (pc2 := 93) rfl ?_
  refine kg_getr clX7 rfl 9 (Nat.le_of_ble_eq_true rfl) lfRX7_36 hc1.1 hc1.2.1 rfl dX7_copyFrom_93 (pc2 := 96) rfl ?_
  refine kg_iconst dX7_copyFrom_96 ki_0 (pc2 := 97) rfl ?_
  refine kg_aload_n 0 dX7_copyFrom_97 rfl (pc2 := 98) rfl ?_
  refine kg_getr clX7 rfl 9 (Nat.le_of_ble_eq_true rfl) lfRX7_36 hc0.1 hc0.2.1 rfl dX7_copyFrom_98 (pc2 := 101) rfl ?_
  refine kg_iconst dX7_copyFrom_101 ki_0 (pc2 := 102) rfl ?_
  refine kg_bipush dX7_copyFrom_102 kb_12 (pc2 := 104) rfl ?_
  obtain ⟨s10, s10e, h⟩ := kw_let_e h
  refine kg_copyl (μ := μX7_copyFrom) (d := (d + 1)) rfl rfl cpRX7_69 hc1.2.2.2.2.2.2.1.1 hc1.2.2.2.2.2.2.1.2 hc0.2.2.2.2.2.2.1.1 hc0.2.2.2.2.2.2.1.2 (by decide) (by decide) (by decide) (by decide) (by decide) (Nat.le_of_ble_eq_true rfl) (by decide) (by decide) (by decide) s10e dX7_copyFrom_104 (pc2 := 107) rfl ?_
  refine kg_aload_n 1 dX7_copyFrom_107 rfl (pc2 := 108) rfl ?_
  refine kg_getr clX7 rfl 10 (Nat.le_of_ble_eq_true rfl) lfRX7_40 hc1.1 hc1.2.1 rfl dX7_copyFrom_108 (pc2 := 111) rfl ?_
  refine kg_iconst dX7_copyFrom_111 ki_0 (pc2 := 112) rfl ?_
  refine kg_aload_n 0 dX7_copyFrom_112 rfl (pc2 := 113) rfl ?_
  refine kg_getr clX7 rfl 10 (Nat.le_of_ble_eq_true rfl) lfRX7_40 hc0.1 hc0.2.1 rfl dX7_copyFrom_113 (pc2 := 116) rfl ?_
  refine kg_iconst dX7_copyFrom_116 ki_0 (pc2 := 117) rfl ?_
  refine kg_bipush dX7_copyFrom_117 kb_12 (pc2 := 119) rfl ?_
  obtain ⟨s11, s11e, h⟩ := kw_let_e h
  refine kg_copyi (μ := μX7_copyFrom) (d := (d + 1)) rfl rfl cpRX7_69 hc1.2.2.2.2.2.2.2.1 hc1.2.2.2.2.2.2.2.2 hc0.2.2.2.2.2.2.2.1 hc0.2.2.2.2.2.2.2.2 (by decide) (by decide) (by decide) (by decide) (by decide) (Nat.le_of_ble_eq_true rfl) (by decide) (by decide) (by decide) s11e dX7_copyFrom_119 (pc2 := 122) rfl ?_
  cases h
  exact kg_vret dX7_copyFrom_122 rfl
set_option maxHeartbeats 4000000 in
set_option maxRecDepth 100000 in
theorem gX9_keep {E : kw_E} {d : Nat} (σ : kw_M) {r : Int32 × kw_M} (h : fX9_keep σ = some r) : kw_Met E kwTX 48 (d + 3) μX9_keep [.ref 0] σ (some (Value.int r.1)) r.2 := by
  refine kw_enter plRX9 (Nat.le_of_ble_eq_true rfl) ?_
  show kw_G E kwTX 48 (d + 3) μX9_keep 0 [(0, .ref 0)] [] σ (some (Value.int r.1)) r.2
  unfold fX9_keep at h
  refine kg_aload_n 0 dX9_keep_0 rfl (pc2 := 1) rfl ?_
  refine kg_getr clX9 rfl 1 (Nat.le_of_ble_eq_true rfl) lfRX9_16 tX_0 eX_0 rfl dX9_keep_1 (pc2 := 4) rfl ?_
  refine kg_aload_n 0 dX9_keep_4 rfl (pc2 := 5) rfl ?_
  refine kg_getr clX9 rfl 0 (Nat.le_of_ble_eq_true rfl) lfRX9_10 tX_0 eX_0 rfl dX9_keep_5 (pc2 := 8) rfl ?_
  obtain ⟨r1, r1h, h⟩ := kw_bind_e h
  refine kg_callV (μ := μX9_keep) (d := (d + 2)) rfl mVX7_copyFrom [.ref 1] [] (gX7_copyFrom (E := E) (d := d) 2 1 kx_7_2 kx_7_1 σ r1h) rfl lmRX9_448 (ci := 7) rfl tX_2 eX_2 rfl (Nat.le_of_ble_eq_true rfl) dX9_keep_8 rfl (st2 := []) rfl (pc2 := 11) rfl ?_
  refine kg_aload_n 0 dX9_keep_11 rfl (pc2 := 12) rfl ?_
  refine kg_iconst dX9_keep_12 ki_1 (pc2 := 13) rfl ?_
  obtain ⟨s2, s2e, h⟩ := kw_let_e h
  refine kg_puti clX9 rfl 2 (Nat.le_of_ble_eq_true rfl) lfRX9_141 rfl tX_0 eX_0 rfl (ty := .boolean) (by decide +kernel) rfl rfl s2e dX9_keep_13 (pc2 := 16) rfl ?_
  refine kg_aload_n 0 dX9_keep_16 rfl (pc2 := 17) rfl ?_
  refine kg_getr clX9 rfl 0 (Nat.le_of_ble_eq_true rfl) lfRX9_10 tX_0 eX_0 rfl dX9_keep_17 (pc2 := 20) rfl ?_
  refine kg_geti clX7 rfl 3 (Nat.le_of_ble_eq_true rfl) lfRX9_229 tX_1 eX_1 rfl dX9_keep_20 (pc2 := 23) rfl ?_
  cases h
  exact kg_iret (ty := .int) dX9_keep_23 rfl rfl
set_option maxHeartbeats 4000000 in
set_option maxRecDepth 100000 in
theorem gX9_undo {E : kw_E} {d : Nat} (σ : kw_M) {r : Int32 × kw_M} (h : fX9_undo σ = some r) : kw_Met E kwTX 48 (d + 3) μX9_undo [.ref 0] σ (some (Value.int r.1)) r.2 := by
  refine kw_enter plRX9 (Nat.le_of_ble_eq_true rfl) ?_
  show kw_G E kwTX 48 (d + 3) μX9_undo 0 [(0, .ref 0)] [] σ (some (Value.int r.1)) r.2
  unfold fX9_undo at h
  refine kg_aload_n 0 dX9_undo_0 rfl (pc2 := 1) rfl ?_
  refine kg_geti clX9 rfl 2 (Nat.le_of_ble_eq_true rfl) lfRX9_141 tX_0 eX_0 rfl dX9_undo_1 (pc2 := 4) rfl ?_
  refine kg_if_ne 9 dX9_undo_4 rfl (pc2 := 7) rfl (fun q1 => ?_) (fun q1 => ?_)
  · replace h := (if_neg q1).symm.trans h
    refine kg_aload_n 0 dX9_undo_9 rfl (pc2 := 10) rfl ?_
    refine kg_getr clX9 rfl 0 (Nat.le_of_ble_eq_true rfl) lfRX9_10 tX_0 eX_0 rfl dX9_undo_10 (pc2 := 13) rfl ?_
    refine kg_aload_n 0 dX9_undo_13 rfl (pc2 := 14) rfl ?_
    refine kg_getr clX9 rfl 1 (Nat.le_of_ble_eq_true rfl) lfRX9_16 tX_0 eX_0 rfl dX9_undo_14 (pc2 := 17) rfl ?_
    obtain ⟨r2, r2h, h⟩ := kw_bind_e h
    refine kg_callV (μ := μX9_undo) (d := (d + 2)) rfl mVX7_copyFrom [.ref 2] [] (gX7_copyFrom (E := E) (d := d) 1 2 kx_7_1 kx_7_2 σ r2h) rfl lmRX9_448 (ci := 7) rfl tX_1 eX_1 rfl (Nat.le_of_ble_eq_true rfl) dX9_undo_17 rfl (st2 := []) rfl (pc2 := 20) rfl ?_
    refine kg_aload_n 0 dX9_undo_20 rfl (pc2 := 21) rfl ?_
    refine kg_getr clX9 rfl 5 (Nat.le_of_ble_eq_true rfl) lfRX9_36 tX_0 eX_0 rfl dX9_undo_21 (pc2 := 24) rfl ?_
    refine kg_iconst dX9_undo_24 ki_0 (pc2 := 25) rfl ?_
    obtain ⟨s3, s3e, h⟩ := kw_let_e h
    refine kg_puti clX2 rfl 0 (Nat.le_of_ble_eq_true rfl) lfRX9_145 rfl tX_5 eX_5 rfl (ty := .boolean) (by decide +kernel) rfl rfl s3e dX9_undo_25 (pc2 := 28) rfl ?_
    refine kg_iconst dX9_undo_28 ki_1 (pc2 := 29) rfl ?_
    cases h
    exact kg_iret (ty := .boolean) dX9_undo_29 rfl rfl
  · replace h := (if_pos q1).symm.trans h
    refine kg_iconst dX9_undo_7 ki_0 (pc2 := 8) rfl ?_
    cases h
    exact kg_iret (ty := .boolean) dX9_undo_8 rfl rfl
set_option maxHeartbeats 4000000 in
set_option maxRecDepth 100000 in
theorem gjX9_isParentByte_45 {E : kw_E} {d : Nat} (t0 : Int32) (t1 : Int32) (σ : kw_M) {r : Int32} (h : jX9_isParentByte_45 t0 t1 σ = some r) : kw_G E kwTX 48 (d + 1) μX9_isParentByte 45 [] [.int t0, .int t1] σ (some (Value.int r)) σ := by
  unfold jX9_isParentByte_45 at h
  refine kg_icmp_ne 52 dX9_isParentByte_45 rfl (pc2 := 48) rfl (fun q5 => ?_) (fun q5 => ?_)
  · replace h := (if_neg q5).symm.trans h
    refine kg_iconst dX9_isParentByte_52 ki_0 (pc2 := 53) rfl ?_
    cases h
    exact kg_iret (ty := .boolean) dX9_isParentByte_53 rfl rfl
  · replace h := (if_pos q5).symm.trans h
    refine kg_iconst dX9_isParentByte_48 ki_1 (pc2 := 49) rfl ?_
    refine kg_goto 53 dX9_isParentByte_49 rfl ?_
    cases h
    exact kg_iret (ty := .boolean) dX9_isParentByte_53 rfl rfl
set_option maxHeartbeats 4000000 in
set_option maxRecDepth 100000 in
theorem gX9_isParentByte {E : kw_E} {d : Nat} (a1 : Int32) (a2 : Int32) (σ : kw_M) {r : Int32} (h : fX9_isParentByte a1 a2 σ = some r) : kw_Met E kwTX 48 (d + 1) μX9_isParentByte [.ref 0, .int a1, .int a2] σ (some (Value.int r)) σ := by
  refine kw_enter plRX9 (Nat.le_of_ble_eq_true rfl) ?_
  show kw_G E kwTX 48 (d + 1) μX9_isParentByte 0 [(0, .ref 0), (1, .int a1), (2, .int a2)] [] σ (some (Value.int r)) σ
  unfold fX9_isParentByte at h
  refine kg_aload_n 0 dX9_isParentByte_0 rfl (pc2 := 1) rfl ?_
  refine kg_getr clX9 rfl 0 (Nat.le_of_ble_eq_true rfl) lfRX9_10 tX_0 eX_0 rfl dX9_isParentByte_1 (pc2 := 4) rfl ?_
  refine kg_getr clX7 rfl 0 (Nat.le_of_ble_eq_true rfl) lfRX9_148 tX_1 eX_1 rfl dX9_isParentByte_4 (pc2 := 7) rfl ?_
  refine kg_iload_n 1 dX9_isParentByte_7 rfl (pc2 := 8) rfl ?_
  obtain ⟨r1, r1h, h⟩ := kw_bind_e h
  refine kg_callV (μ := μX9_isParentByte) (d := d) rfl mVX4_hasTown [.int a1] [] (gX4_hasTown (E := E) (d := d) a1 σ r1h) rfl lmRX9_176 (ci := 4) rfl tX_12 eX_12 rfl (Nat.le_of_ble_eq_true rfl) dX9_isParentByte_8 rfl (st2 := [.int r1]) rfl (pc2 := 11) rfl ?_
  refine kg_if_ne 16 dX9_isParentByte_11 rfl (pc2 := 14) rfl (fun q2 => ?_) (fun q2 => ?_)
  · replace h := (if_neg q2).symm.trans h
    refine kg_iload_n 2 dX9_isParentByte_16 rfl (pc2 := 17) rfl ?_
    refine kg_aload_n 0 dX9_isParentByte_17 rfl (pc2 := 18) rfl ?_
    refine kg_getr clX9 rfl 0 (Nat.le_of_ble_eq_true rfl) lfRX9_10 tX_0 eX_0 rfl dX9_isParentByte_18 (pc2 := 21) rfl ?_
    refine kg_getr clX7 rfl 10 (Nat.le_of_ble_eq_true rfl) lfRX9_272 tX_1 eX_1 rfl dX9_isParentByte_21 (pc2 := 24) rfl ?_
    refine kg_iload_n 1 dX9_isParentByte_24 rfl (pc2 := 25) rfl ?_
    obtain ⟨q3, h⟩ := kw_chk_e h
    refine kg_iald tX_17 eX_17 q3 (j := a1.toNatClampNeg) rfl dX9_isParentByte_25 (pc2 := 26) rfl ?_
    refine kg_iconst dX9_isParentByte_26 ki_m1 (pc2 := 27) rfl ?_
    refine kg_icmp_ne 36 dX9_isParentByte_27 rfl (pc2 := 30) rfl (fun q4 => ?_) (fun q4 => ?_)
    · replace h := (if_neg q4).symm.trans h
      refine kg_aload_n 0 dX9_isParentByte_36 rfl (pc2 := 37) rfl ?_
      refine kg_getr clX9 rfl 0 (Nat.le_of_ble_eq_true rfl) lfRX9_10 tX_0 eX_0 rfl dX9_isParentByte_37 (pc2 := 40) rfl ?_
      refine kg_getr clX7 rfl 10 (Nat.le_of_ble_eq_true rfl) lfRX9_272 tX_1 eX_1 rfl dX9_isParentByte_40 (pc2 := 43) rfl ?_
      refine kg_iload_n 1 dX9_isParentByte_43 rfl (pc2 := 44) rfl ?_
      refine kg_iald tX_17 eX_17 q3 (j := a1.toNatClampNeg) rfl dX9_isParentByte_44 (pc2 := 45) rfl ?_
      refine kg_sub [] (lv2 := []) rfl ?_
      exact gjX9_isParentByte_45 (σ.1 17 a1.toNatClampNeg) a2 σ h
    · replace h := (if_pos q4).symm.trans h
      refine kg_sipush dX9_isParentByte_30 ks_255 (pc2 := 33) rfl ?_
      refine kg_goto 45 dX9_isParentByte_33 rfl ?_
      refine kg_sub [] (lv2 := []) rfl ?_
      exact gjX9_isParentByte_45 (255 : Int32) a2 σ h
  · replace h := (if_pos q2).symm.trans h
    refine kg_iconst dX9_isParentByte_14 ki_0 (pc2 := 15) rfl ?_
    cases h
    exact kg_iret (ty := .boolean) dX9_isParentByte_15 rfl rfl
set_option maxHeartbeats 4000000 in
set_option maxRecDepth 100000 in
theorem lX9_check_19 {E : kw_E} {d : Nat} (v1 : Int32) (σ : kw_M) (v2 : Int32) {v : Option Value} {σ2 : kw_M} {o : (Int32) ⊕ (Int32)} (h : bX9_check_19 v1 σ v2 = some o) (hk : Sum.elim (fun s => kw_G E kwTX 48 (d + 2) μX9_check 19 [(0, .ref 0), (1, .int v1), (2, .int s)] [] σ v σ2) (fun y => kw_G E kwTX 48 (d + 2) μX9_check 47 [(0, .ref 0), (1, .int v1), (2, .int y)] [] σ v σ2) o) : kw_G E kwTX 48 (d + 2) μX9_check 19 [(0, .ref 0), (1, .int v1), (2, .int v2)] [] σ v σ2 := by
  unfold bX9_check_19 at h
  refine kg_iload_n 2 dX9_check_19 rfl (pc2 := 20) rfl ?_
  refine kg_iload_n 1 dX9_check_20 rfl (pc2 := 21) rfl ?_
  refine kg_icmp_ge 47 dX9_check_21 rfl (pc2 := 24) rfl (fun q3 => ?_) (fun q3 => ?_)
  · replace h := (if_pos q3).symm.trans h
    cases h
    exact hk
  · replace h := (if_neg q3).symm.trans h
    refine kg_aload_n 0 dX9_check_24 rfl (pc2 := 25) rfl ?_
    refine kg_iload_n 2 dX9_check_25 rfl (pc2 := 26) rfl ?_
    refine kg_aload_n 0 dX9_check_26 rfl (pc2 := 27) rfl ?_
    refine kg_getr clX9 rfl 3 (Nat.le_of_ble_eq_true rfl) lfRX9_22 tX_0 eX_0 rfl dX9_check_27 (pc2 := 30) rfl ?_
    refine kg_getr clX8 rfl 1 (Nat.le_of_ble_eq_true rfl) lfRX9_91 tX_3 eX_3 rfl dX9_check_30 (pc2 := 33) rfl ?_
    refine kg_iload_n 2 dX9_check_33 rfl (pc2 := 34) rfl ?_
    obtain ⟨q4, h⟩ := kw_chk_e h
    refine kg_iald tX_35 eX_35 q4 (j := v2.toNatClampNeg) rfl dX9_check_34 (pc2 := 35) rfl ?_
    obtain ⟨r5, r5h, h⟩ := kw_bind_e h
    refine kg_callV (μ := μX9_check) (d := (d + 1)) rfl mVX9_isParentByte [.int v2, .int (σ.1 35 v2.toNatClampNeg)] [] (gX9_isParentByte (E := E) (d := d) v2 (σ.1 35 v2.toNatClampNeg) σ r5h) rfl lmRX9_450 (ci := 9) rfl tX_0 eX_0 rfl (Nat.le_of_ble_eq_true rfl) dX9_check_35 rfl (st2 := [.int r5]) rfl (pc2 := 38) rfl ?_
    refine kg_if_eq 47 dX9_check_38 rfl (pc2 := 41) rfl (fun q6 => ?_) (fun q6 => ?_)
    · replace h := (if_pos q6).symm.trans h
      cases h
      exact hk
    · replace h := (if_neg q6).symm.trans h
      obtain ⟨x7, x7e, h⟩ := kw_let_e h
      refine kg_iinc 2 dX9_check_41 rfl (Nat.le_of_ble_eq_true rfl) x7e (lv2 := [(2, .int x7), (0, .ref 0), (1, .int v1)]) rfl (pc2 := 44) rfl ?_
      refine kg_goto 19 dX9_check_44 rfl ?_
      refine kg_sub [1, 2, 0] (lv2 := [(0, .ref 0), (1, .int v1), (2, .int x7)]) rfl ?_
      cases h
      exact hk
set_option maxHeartbeats 4000000 in
set_option maxRecDepth 100000 in
theorem gjX9_check_47 {E : kw_E} {d : Nat} (v1 : Int32) (v2 : Int32) (σ : kw_M) {r : Int32 × kw_M} (h : jX9_check_47 v1 v2 σ = some r) : kw_G E kwTX 48 (d + 2) μX9_check 47 [(0, .ref 0), (1, .int v1), (2, .int v2)] [] σ (some (Value.int r.1)) r.2 := by
  unfold jX9_check_47 at h
  refine kg_aload_n 0 dX9_check_47 rfl (pc2 := 48) rfl ?_
  refine kg_getr clX9 rfl 3 (Nat.le_of_ble_eq_true rfl) lfRX9_22 tX_0 eX_0 rfl dX9_check_48 (pc2 := 51) rfl ?_
  refine kg_iconst dX9_check_51 ki_0 (pc2 := 52) rfl ?_
  obtain ⟨s9, s9e, h⟩ := kw_let_e h
  refine kg_puti clX8 rfl 0 (Nat.le_of_ble_eq_true rfl) lfRX9_79 rfl tX_3 eX_3 rfl (ty := .int) (by decide +kernel) rfl rfl s9e dX9_check_52 (pc2 := 55) rfl ?_
  refine kg_iload_n 2 dX9_check_55 rfl (pc2 := 56) rfl ?_
  refine kg_iload_n 1 dX9_check_56 rfl (pc2 := 57) rfl ?_
  refine kg_icmp_ne 64 dX9_check_57 rfl (pc2 := 60) rfl (fun q10 => ?_) (fun q10 => ?_)
  · replace h := (if_neg q10).symm.trans h
    refine kg_iload_n 2 dX9_check_64 rfl (pc2 := 65) rfl ?_
    cases h
    exact kg_iret (ty := .int) dX9_check_65 rfl rfl
  · replace h := (if_pos q10).symm.trans h
    refine kg_iconst dX9_check_60 ki_m1 (pc2 := 61) rfl ?_
    refine kg_goto 65 dX9_check_61 rfl ?_
    cases h
    exact kg_iret (ty := .int) dX9_check_65 rfl rfl
set_option maxHeartbeats 4000000 in
set_option maxRecDepth 100000 in
theorem gX9_check {E : kw_E} {d : Nat} (a1 : Int32) (σ : kw_M) {r : Int32 × kw_M} (h : fX9_check a1 σ = some r) : kw_Met E kwTX 48 (d + 2) μX9_check [.ref 0, .int a1] σ (some (Value.int r.1)) r.2 := by
  refine kw_enter plRX9 (Nat.le_of_ble_eq_true rfl) ?_
  show kw_G E kwTX 48 (d + 2) μX9_check 0 [(0, .ref 0), (1, .int a1)] [] σ (some (Value.int r.1)) r.2
  unfold fX9_check at h
  refine kg_aload_n 0 dX9_check_0 rfl (pc2 := 1) rfl ?_
  refine kg_getr clX9 rfl 3 (Nat.le_of_ble_eq_true rfl) lfRX9_22 tX_0 eX_0 rfl dX9_check_1 (pc2 := 4) rfl ?_
  refine kg_iload_n 1 dX9_check_4 rfl (pc2 := 5) rfl ?_
  refine kg_iconst dX9_check_5 ki_0 (pc2 := 6) rfl ?_
  refine kg_bipush dX9_check_6 kb_12 (pc2 := 8) rfl ?_
  obtain ⟨r1, r1h, h⟩ := kw_bind_e h
  refine kg_callV (μ := μX9_check) (d := (d + 1)) rfl mVX8_canGive [.int a1, .int (0 : Int32), .int (12 : Int32)] [] (gX8_canGive (E := E) (d := (d + 1)) a1 (0 : Int32) (12 : Int32) σ r1h) rfl lmRX9_87 (ci := 8) rfl tX_3 eX_3 rfl (Nat.le_of_ble_eq_true rfl) dX9_check_8 rfl (st2 := [.int r1]) rfl (pc2 := 11) rfl ?_
  refine kg_if_ne 17 dX9_check_11 rfl (pc2 := 14) rfl (fun q2 => ?_) (fun q2 => ?_)
  · replace h := (if_neg q2).symm.trans h
    refine kg_iconst dX9_check_17 ki_0 (pc2 := 18) rfl ?_
    refine kg_istore_n dX9_check_18 rfl (Nat.le_of_ble_eq_true rfl) rfl (lv2 := [(2, .int (0 : Int32)), (0, .ref 0), (1, .int a1)]) rfl (pc2 := 19) rfl ?_
    refine kg_sub [1, 2, 0] (lv2 := [(0, .ref 0), (1, .int a1), (2, .int (0 : Int32))]) rfl ?_
    obtain ⟨x8, x8h, h⟩ := kw_bind_e h
    refine kw_loop_e (P := fun s => kw_G E kwTX 48 (d + 2) μX9_check 19 [(0, .ref 0), (1, .int a1), (2, .int s)] [] σ (some (Value.int r.1)) r.2) (K := fun y => kw_G E kwTX 48 (d + 2) μX9_check 47 [(0, .ref 0), (1, .int a1), (2, .int y)] [] σ (some (Value.int r.1)) r.2) (fun s o h0 hk => lX9_check_19 a1 σ s h0 hk) kw_F _ _ x8h ?_
    show kw_G E kwTX 48 (d + 2) μX9_check 47 [(0, .ref 0), (1, .int a1), (2, .int x8)] [] σ (some (Value.int r.1)) r.2
    exact gjX9_check_47 a1 x8 σ h
  · replace h := (if_pos q2).symm.trans h
    refine kg_bipush dX9_check_14 kb_m2 (pc2 := 16) rfl ?_
    cases h
    exact kg_iret (ty := .int) dX9_check_16 rfl rfl
