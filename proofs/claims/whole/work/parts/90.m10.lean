/-! The reference, method by method: the machine does what f says (g). -/
set_option maxHeartbeats 4000000 in
set_option maxRecDepth 100000 in
theorem lX10_round_41 {E : kw_E} {d : Nat} (v1 : Int32) (v2 : Int32) (v3 : Int32) (σ : kw_M) {v : Option Value} {σ2 : kw_M} {o : (Int32 × kw_M) ⊕ ((Int64 × kw_M) ⊕ (kw_M))} (h : bX10_round_41 v1 v2 v3 σ = some o) (hk : Sum.elim (fun s => kw_G E kwTM 21 (d + 4) μX10_round 41 [(0, .ref 0), (1, .int v1), (2, .int v2), (3, .int s.1)] [] s.2 v σ2) (Sum.elim (fun rr => v = some (Value.long rr.1) ∧ σ2 = rr.2) (fun y => kw_G E kwTM 21 (d + 4) μX10_round 109 [(0, .ref 0), (2, .int v2)] [] y v σ2)) o) : kw_G E kwTM 21 (d + 4) μX10_round 41 [(0, .ref 0), (1, .int v1), (2, .int v2), (3, .int v3)] [] σ v σ2 := by
  unfold bX10_round_41 at h
  refine kg_iload_n 3 dX10_round_41 rfl (pc2 := 42) rfl ?_
  refine kg_aload_n 0 dX10_round_42 rfl (pc2 := 43) rfl ?_
  obtain ⟨r7, r7h, h⟩ := kw_bind_e h
  refine kg_callV (μ := μX10_round) (d := (d + 3)) rfl mVX10_towns [] [.int v3] (gX10_towns (E := E) (d := (d + 3)) σ r7h) rfl lmRX10_77 (ci := 10) rfl tM_0 eM_0 rfl (Nat.le_of_ble_eq_true rfl) dX10_round_43 rfl (st2 := [.int r7, .int v3]) rfl (pc2 := 46) rfl ?_
  refine kg_icmp_ge 109 dX10_round_46 rfl (pc2 := 49) rfl (fun q8 => ?_) (fun q8 => ?_)
  · replace h := (if_pos q8).symm.trans h
    refine kg_sub [0, 2] (lv2 := [(0, .ref 0), (2, .int v2)]) rfl ?_
    cases h
    exact hk
  · replace h := (if_neg q8).symm.trans h
    refine kg_iload_n 1 dX10_round_49 rfl (pc2 := 50) rfl ?_
    refine kg_iload_n 3 dX10_round_50 rfl (pc2 := 51) rfl ?_
    obtain ⟨r9, r9h, h⟩ := kw_bind_e h
    refine kg_callS (μ := μX10_round) (d := (d + 3)) rfl mSX10_has [.int v1, .int v3] [] (gX10_has (E := E) (d := (d + 3)) v1 v3 σ r9h) rfl lmRX10_321 rfl (Nat.le_of_ble_eq_true rfl) dX10_round_51 rfl (st2 := [.int r9]) rfl (pc2 := 54) rfl ?_
    refine kg_if_eq 103 dX10_round_54 rfl (pc2 := 57) rfl (fun q10 => ?_) (fun q10 => ?_)
    · replace h := (if_pos q10).symm.trans h
      obtain ⟨x11, x11e, h⟩ := kw_let_e h
      refine kg_iinc 3 dX10_round_103 rfl (Nat.le_of_ble_eq_true rfl) x11e (lv2 := [(3, .int x11), (0, .ref 0), (1, .int v1), (2, .int v2)]) rfl (pc2 := 106) rfl ?_
      refine kg_goto 41 dX10_round_106 rfl ?_
      refine kg_sub [1, 2, 3, 0] (lv2 := [(0, .ref 0), (1, .int v1), (2, .int v2), (3, .int x11)]) rfl ?_
      cases h
      exact hk
    · replace h := (if_neg q10).symm.trans h
      refine kg_iload_n 3 dX10_round_57 rfl (pc2 := 58) rfl ?_
      refine kg_aload_n 0 dX10_round_58 rfl (pc2 := 59) rfl ?_
      refine kg_getr clX10 rfl 0 (Nat.le_of_ble_eq_true rfl) lfRX10_7 tM_0 eM_0 rfl dX10_round_59 (pc2 := 62) rfl ?_
      refine kg_iconst dX10_round_62 ki_2 (pc2 := 63) rfl ?_
      refine kg_iald tM_1 eM_1 (show kw_in (2 : Int32) 2832 by decide) (j := 2) (by decide) dX10_round_63 (pc2 := 64) rfl ?_
      refine kg_icmp_ne 70 dX10_round_64 rfl (pc2 := 67) rfl (fun q12 => ?_) (fun q12 => ?_)
      · replace h := (if_neg q12).symm.trans h
        refine kg_aload_n 0 dX10_round_70 rfl (pc2 := 71) rfl ?_
        refine kg_geti clX10 rfl 31 (Nat.le_of_ble_eq_true rfl) lfRX10_407 tM_0 eM_0 rfl dX10_round_71 (pc2 := 74) rfl ?_
        refine kg_bipush dX10_round_74 kb_6 (pc2 := 76) rfl ?_
        refine kg_icmp_ne 83 dX10_round_76 rfl (pc2 := 79) rfl (fun q13 => ?_) (fun q13 => ?_)
        · replace h := (if_neg q13).symm.trans h
          refine kg_aload_n 0 dX10_round_83 rfl (pc2 := 84) rfl ?_
          refine kg_getr clX10 rfl 29 (Nat.le_of_ble_eq_true rfl) lfRX10_67 tM_0 eM_0 rfl dX10_round_84 (pc2 := 87) rfl ?_
          refine kg_aload_n 0 dX10_round_87 rfl (pc2 := 88) rfl ?_
          refine kg_geti clX10 rfl 31 (Nat.le_of_ble_eq_true rfl) lfRX10_407 tM_0 eM_0 rfl dX10_round_88 (pc2 := 91) rfl ?_
          refine kg_iload_n 3 dX10_round_91 rfl (pc2 := 92) rfl ?_
          obtain ⟨q14, h⟩ := kw_chk_e h
          obtain ⟨s15, s15e, h⟩ := kw_let_e h
          refine kg_iast tM_19 eM_19 q14 (j := (σ.1 0 31).toNatClampNeg) rfl s15e dX10_round_92 (pc2 := 93) rfl ?_
          refine kg_aload_n 0 dX10_round_93 rfl (pc2 := 94) rfl ?_
          refine kg_aload_n 0 dX10_round_94 rfl (pc2 := 95) rfl ?_
          refine kg_geti clX10 rfl 31 (Nat.le_of_ble_eq_true rfl) lfRX10_407 tM_0 eM_0 rfl dX10_round_95 (pc2 := 98) rfl ?_
          refine kg_iconst dX10_round_98 ki_1 (pc2 := 99) rfl ?_
          refine kg_iadd dX10_round_99 (pc2 := 100) rfl ?_
          obtain ⟨s16, s16e, h⟩ := kw_let_e h
          refine kg_puti clX10 rfl 31 (Nat.le_of_ble_eq_true rfl) lfRX10_407 rfl tM_0 eM_0 rfl (ty := .int) (by decide +kernel) rfl rfl s16e dX10_round_100 (pc2 := 103) rfl ?_
          obtain ⟨x17, x17e, h⟩ := kw_let_e h
          refine kg_iinc 3 dX10_round_103 rfl (Nat.le_of_ble_eq_true rfl) x17e (lv2 := [(3, .int x17), (0, .ref 0), (1, .int v1), (2, .int v2)]) rfl (pc2 := 106) rfl ?_
          refine kg_goto 41 dX10_round_106 rfl ?_
          refine kg_sub [1, 2, 3, 0] (lv2 := [(0, .ref 0), (1, .int v1), (2, .int v2), (3, .int x17)]) rfl ?_
          cases h
          exact hk
        · replace h := (if_pos q13).symm.trans h
          refine kg_ldc2 rfl lcRX10_99 dX10_round_79 (pc2 := 82) rfl ?_
          cases h
          obtain ⟨rfl, rfl⟩ := hk
          exact kg_lret dX10_round_82 rfl
      · replace h := (if_pos q12).symm.trans h
        refine kg_goto 103 dX10_round_67 rfl ?_
        obtain ⟨x18, x18e, h⟩ := kw_let_e h
        refine kg_iinc 3 dX10_round_103 rfl (Nat.le_of_ble_eq_true rfl) x18e (lv2 := [(3, .int x18), (0, .ref 0), (1, .int v1), (2, .int v2)]) rfl (pc2 := 106) rfl ?_
        refine kg_goto 41 dX10_round_106 rfl ?_
        refine kg_sub [1, 2, 3, 0] (lv2 := [(0, .ref 0), (1, .int v1), (2, .int v2), (3, .int x18)]) rfl ?_
        cases h
        exact hk
set_option maxHeartbeats 4000000 in
set_option maxRecDepth 100000 in
theorem gjX10_round_173_L120 {E : kw_E} {d : Nat} (v2 : Int32) (v3 : Int64) (σ : kw_M) {v : Option Value} {σ2 : kw_M} {o : (Int64 × Int32 × kw_M) ⊕ (Int64 × kw_M)} (h : jX10_round_173_L120 v2 v3 σ = some o) (hk : Sum.elim (fun s => kw_G E kwTM 21 (d + 4) μX10_round 120 [(0, .ref 0), (2, .int v2), (3, .long s.1), (5, .int s.2.1)] [] s.2.2 v σ2) (fun y => kw_G E kwTM 21 (d + 4) μX10_round 182 [(0, .ref 0), (2, .int v2), (3, .long y.1)] [] y.2 v σ2) o) : kw_G E kwTM 21 (d + 4) μX10_round 173 [(0, .ref 0), (2, .int v2), (3, .long v3)] [] σ v σ2 := by
  unfold jX10_round_173_L120 at h
  refine kg_aload_n 0 dX10_round_173 rfl (pc2 := 174) rfl ?_
  obtain ⟨r24, r24h, h⟩ := kw_bind_e h
  refine kg_callV (μ := μX10_round) (d := (d + 3)) rfl mVX10_nextOrder [] [] (gX10_nextOrder (E := E) (d := (d + 2)) σ r24h) rfl lmRX10_419 (ci := 10) rfl tM_0 eM_0 rfl (Nat.le_of_ble_eq_true rfl) dX10_round_174 rfl (st2 := [.int r24.1]) rfl (pc2 := 177) rfl ?_
  refine kg_istore dX10_round_177 (Nat.le_of_ble_eq_true rfl) rfl (lv2 := [(5, .int r24.1), (0, .ref 0), (2, .int v2), (3, .long v3)]) rfl (pc2 := 179) rfl ?_
  refine kg_goto 120 dX10_round_179 rfl ?_
  refine kg_sub [1, 2, 3, 0] (lv2 := [(0, .ref 0), (2, .int v2), (3, .long v3), (5, .int r24.1)]) rfl ?_
  cases h
  exact hk
set_option maxHeartbeats 4000000 in
set_option maxRecDepth 100000 in
theorem lX10_round_144 {E : kw_E} {d : Nat} (v2 : Int32) (v3 : Int64) (v8 : Int32) (σ : kw_M) {v : Option Value} {σ2 : kw_M} {o : (Int32 × kw_M) ⊕ (kw_M)} (h : bX10_round_144 v2 v3 v8 σ = some o) (hk : Sum.elim (fun s => kw_G E kwTM 21 (d + 4) μX10_round 144 [(0, .ref 0), (2, .int v2), (3, .long v3), (8, .int s.1)] [] s.2 v σ2) (fun y => kw_G E kwTM 21 (d + 4) μX10_round 173 [(0, .ref 0), (2, .int v2), (3, .long v3)] [] y v σ2) o) : kw_G E kwTM 21 (d + 4) μX10_round 144 [(0, .ref 0), (2, .int v2), (3, .long v3), (8, .int v8)] [] σ v σ2 := by
  unfold bX10_round_144 at h
  refine kg_iload 3 dX10_round_144 rfl (pc2 := 146) rfl ?_
  refine kg_aload_n 0 dX10_round_146 rfl (pc2 := 147) rfl ?_
  refine kg_geti clX10 rfl 31 (Nat.le_of_ble_eq_true rfl) lfRX10_407 tM_0 eM_0 rfl dX10_round_147 (pc2 := 150) rfl ?_
  refine kg_icmp_ge 173 dX10_round_150 rfl (pc2 := 153) rfl (fun q25 => ?_) (fun q25 => ?_)
  · replace h := (if_pos q25).symm.trans h
    refine kg_sub [0, 1, 2] (lv2 := [(0, .ref 0), (2, .int v2), (3, .long v3)]) rfl ?_
    cases h
    exact hk
  · replace h := (if_neg q25).symm.trans h
    refine kg_aload_n 0 dX10_round_153 rfl (pc2 := 154) rfl ?_
    refine kg_getr clX10 rfl 30 (Nat.le_of_ble_eq_true rfl) lfRX10_70 tM_0 eM_0 rfl dX10_round_154 (pc2 := 157) rfl ?_
    refine kg_iload 3 dX10_round_157 rfl (pc2 := 159) rfl ?_
    refine kg_aload_n 0 dX10_round_159 rfl (pc2 := 160) rfl ?_
    refine kg_getr clX10 rfl 29 (Nat.le_of_ble_eq_true rfl) lfRX10_67 tM_0 eM_0 rfl dX10_round_160 (pc2 := 163) rfl ?_
    refine kg_iload 3 dX10_round_163 rfl (pc2 := 165) rfl ?_
    obtain ⟨q26, h⟩ := kw_chk_e h
    refine kg_iald tM_19 eM_19 q26 (j := v8.toNatClampNeg) rfl dX10_round_165 (pc2 := 166) rfl ?_
    obtain ⟨s27, s27e, h⟩ := kw_let_e h
    refine kg_iast tM_20 eM_20 q26 (j := v8.toNatClampNeg) rfl s27e dX10_round_166 (pc2 := 167) rfl ?_
    obtain ⟨x28, x28e, h⟩ := kw_let_e h
    refine kg_iinc 3 dX10_round_167 rfl (Nat.le_of_ble_eq_true rfl) x28e (lv2 := [(8, .int x28), (0, .ref 0), (2, .int v2), (3, .long v3)]) rfl (pc2 := 170) rfl ?_
    refine kg_goto 144 dX10_round_170 rfl ?_
    refine kg_sub [1, 2, 3, 0] (lv2 := [(0, .ref 0), (2, .int v2), (3, .long v3), (8, .int x28)]) rfl ?_
    cases h
    exact hk
set_option maxHeartbeats 4000000 in
set_option maxRecDepth 100000 in
theorem lX10_round_120 {E : kw_E} {d : Nat} (v2 : Int32) (v3 : Int64) (v5 : Int32) (σ : kw_M) {v : Option Value} {σ2 : kw_M} {o : (Int64 × Int32 × kw_M) ⊕ (Int64 × kw_M)} (h : bX10_round_120 v2 v3 v5 σ = some o) (hk : Sum.elim (fun s => kw_G E kwTM 21 (d + 4) μX10_round 120 [(0, .ref 0), (2, .int v2), (3, .long s.1), (5, .int s.2.1)] [] s.2.2 v σ2) (fun y => kw_G E kwTM 21 (d + 4) μX10_round 182 [(0, .ref 0), (2, .int v2), (3, .long y.1)] [] y.2 v σ2) o) : kw_G E kwTM 21 (d + 4) μX10_round 120 [(0, .ref 0), (2, .int v2), (3, .long v3), (5, .int v5)] [] σ v σ2 := by
  unfold bX10_round_120 at h
  refine kg_iload 3 dX10_round_120 rfl (pc2 := 122) rfl ?_
  refine kg_if_eq 182 dX10_round_122 rfl (pc2 := 125) rfl (fun q21 => ?_) (fun q21 => ?_)
  · replace h := (if_pos q21).symm.trans h
    refine kg_sub [0, 1, 2] (lv2 := [(0, .ref 0), (2, .int v2), (3, .long v3)]) rfl ?_
    cases h
    exact hk
  · replace h := (if_neg q21).symm.trans h
    refine kg_aload_n 0 dX10_round_125 rfl (pc2 := 126) rfl ?_
    obtain ⟨r22, r22h, h⟩ := kw_bind_e h
    refine kg_callV (μ := μX10_round) (d := (d + 3)) rfl mVX10_roundLong [] [] (gX10_roundLong (E := E) (d := (d + 3)) σ r22h) rfl lmRX10_415 (ci := 10) rfl tM_0 eM_0 rfl (Nat.le_of_ble_eq_true rfl) dX10_round_126 rfl (st2 := [.long r22]) rfl (pc2 := 129) rfl ?_
    refine kg_lstore dX10_round_129 (Nat.le_of_ble_eq_true rfl) rfl (lv2 := [(6, .long r22), (0, .ref 0), (2, .int v2), (3, .long v3), (5, .int v5)]) rfl (pc2 := 131) rfl ?_
    refine kg_lload 0 dX10_round_131 rfl (pc2 := 133) rfl ?_
    refine kg_lload_n 3 dX10_round_133 rfl (pc2 := 134) rfl ?_
    refine kg_lcmp_ge 173 dX10_round_134 dX10_round_135 rfl (pc2 := 138) rfl (fun q23 => ?_) (fun q23 => ?_)
    · replace h := (if_pos q23).symm.trans h
      refine kg_sub [1, 2, 3] (lv2 := [(0, .ref 0), (2, .int v2), (3, .long v3)]) rfl ?_
      exact gjX10_round_173_L120 v2 v3 σ h hk
    · replace h := (if_neg q23).symm.trans h
      refine kg_lload 0 dX10_round_138 rfl (pc2 := 140) rfl ?_
      refine kg_lstore_n dX10_round_140 rfl (Nat.le_of_ble_eq_true rfl) rfl (lv2 := [(3, .long r22), (6, .long r22), (0, .ref 0), (2, .int v2), (5, .int v5)]) rfl (pc2 := 141) rfl ?_
      refine kg_iconst dX10_round_141 ki_0 (pc2 := 142) rfl ?_
      refine kg_istore dX10_round_142 (Nat.le_of_ble_eq_true rfl) rfl (lv2 := [(8, .int (0 : Int32)), (3, .long r22), (6, .long r22), (0, .ref 0), (2, .int v2), (5, .int v5)]) rfl (pc2 := 144) rfl ?_
      refine kg_sub [3, 4, 1, 0] (lv2 := [(0, .ref 0), (2, .int v2), (3, .long r22), (8, .int (0 : Int32))]) rfl ?_
      obtain ⟨x29, x29h, h⟩ := kw_bind_e h
      refine kw_loop_e (P := fun s => kw_G E kwTM 21 (d + 4) μX10_round 144 [(0, .ref 0), (2, .int v2), (3, .long r22), (8, .int s.1)] [] s.2 v σ2) (K := fun y => kw_G E kwTM 21 (d + 4) μX10_round 173 [(0, .ref 0), (2, .int v2), (3, .long r22)] [] y v σ2) (fun s o h0 hk => lX10_round_144 v2 r22 s.1 s.2 h0 hk) kw_F _ _ x29h ?_
      show kw_G E kwTM 21 (d + 4) μX10_round 173 [(0, .ref 0), (2, .int v2), (3, .long r22)] [] x29 v σ2
      exact gjX10_round_173_L120 v2 r22 x29 h hk
set_option maxHeartbeats 4000000 in
set_option maxRecDepth 100000 in
theorem gjX10_round_194 {E : kw_E} {d : Nat} (v3 : Int64) (σ : kw_M) {r : Int64 × kw_M} (h : jX10_round_194 v3 σ = some r) : kw_G E kwTM 21 (d + 4) μX10_round 194 [(3, .long v3)] [] σ (some (Value.long r.1)) r.2 := by
  unfold jX10_round_194 at h
  refine kg_lload_n 0 dX10_round_194 rfl (pc2 := 195) rfl ?_
  obtain ⟨r32, r32h, h⟩ := kw_bind_e h
  refine kg_callS (μ := μX10_round) (d := (d + 3)) rfl mSX10_told [.long v3] [] (gX10_told (E := E) (d := (d + 3)) v3 σ r32h) rfl lmRX10_336 rfl (Nat.le_of_ble_eq_true rfl) dX10_round_195 rfl (st2 := [.long r32]) rfl (pc2 := 198) rfl ?_
  cases h
  exact kg_lret dX10_round_198 rfl
set_option maxHeartbeats 4000000 in
set_option maxRecDepth 100000 in
theorem gX10_round {E : kw_E} {d : Nat} (a1 : Int32) (a2 : Int32) (σ : kw_M) {r : Int64 × kw_M} (h : fX10_round a1 a2 σ = some r) : kw_Met E kwTM 21 (d + 4) μX10_round [.ref 0, .int a1, .int a2] σ (some (Value.long r.1)) r.2 := by
  refine kw_enter plRX10 (Nat.le_of_ble_eq_true rfl) ?_
  show kw_G E kwTM 21 (d + 4) μX10_round 0 [(0, .ref 0), (1, .int a1), (2, .int a2)] [] σ (some (Value.long r.1)) r.2
  unfold fX10_round at h
  refine kg_iload_n 1 dX10_round_0 rfl (pc2 := 1) rfl ?_
  refine kg_i2l dX10_round_1 (pc2 := 2) rfl ?_
  refine kg_lconst dX10_round_2 kl_0 (pc2 := 3) rfl ?_
  refine kg_iconst dX10_round_3 ki_1 (pc2 := 4) rfl ?_
  refine kg_aload_n 0 dX10_round_4 rfl (pc2 := 5) rfl ?_
  obtain ⟨r1, r1h, h⟩ := kw_bind_e h
  refine kg_callV (μ := μX10_round) (d := (d + 3)) rfl mVX10_towns [] [.int (1 : Int32), .long (0 : Int64), .long a1.toInt64] (gX10_towns (E := E) (d := (d + 3)) σ r1h) rfl lmRX10_77 (ci := 10) rfl tM_0 eM_0 rfl (Nat.le_of_ble_eq_true rfl) dX10_round_5 rfl (st2 := [.int r1, .int (1 : Int32), .long (0 : Int64), .long a1.toInt64]) rfl (pc2 := 8) rfl ?_
  refine kg_ishl dX10_round_8 (pc2 := 9) rfl ?_
  refine kg_iconst dX10_round_9 ki_1 (pc2 := 10) rfl ?_
  refine kg_isub dX10_round_10 (pc2 := 11) rfl ?_
  refine kg_i2l dX10_round_11 (pc2 := 12) rfl ?_
  obtain ⟨r2, r2h, h⟩ := kw_bind_e h
  refine kg_callS (μ := μX10_round) (d := (d + 3)) rfl mSX10_in [.long a1.toInt64, .long (0 : Int64), .long ((((1 : Int32) <<< (r1 &&& 31)) - (1 : Int32)).toInt64)] [] (gX10_in (E := E) (d := (d + 3)) a1.toInt64 (0 : Int64) ((((1 : Int32) <<< (r1 &&& 31)) - (1 : Int32)).toInt64) σ r2h) rfl lmRX10_81 rfl (Nat.le_of_ble_eq_true rfl) dX10_round_12 rfl (st2 := [.int r2]) rfl (pc2 := 15) rfl ?_
  refine kg_if_eq 30 dX10_round_15 rfl (pc2 := 18) rfl (fun q3 => ?_) (fun q3 => ?_)
  · replace h := (if_pos q3).symm.trans h
    refine kg_ldc2 rfl lcRX10_99 dX10_round_30 (pc2 := 33) rfl ?_
    cases h
    exact kg_lret dX10_round_33 rfl
  · replace h := (if_neg q3).symm.trans h
    refine kg_iload_n 2 dX10_round_18 rfl (pc2 := 19) rfl ?_
    refine kg_i2l dX10_round_19 (pc2 := 20) rfl ?_
    refine kg_lconst dX10_round_20 kl_0 (pc2 := 21) rfl ?_
    refine kg_ldc2 rfl lcRX10_413 dX10_round_21 (pc2 := 24) rfl ?_
    obtain ⟨r4, r4h, h⟩ := kw_bind_e h
    refine kg_callS (μ := μX10_round) (d := (d + 3)) rfl mSX10_in [.long a2.toInt64, .long (0 : Int64), .long (6 : Int64)] [] (gX10_in (E := E) (d := (d + 3)) a2.toInt64 (0 : Int64) (6 : Int64) σ r4h) rfl lmRX10_81 rfl (Nat.le_of_ble_eq_true rfl) dX10_round_24 rfl (st2 := [.int r4]) rfl (pc2 := 27) rfl ?_
    refine kg_if_ne 34 dX10_round_27 rfl (pc2 := 30) rfl (fun q5 => ?_) (fun q5 => ?_)
    · replace h := (if_neg q5).symm.trans h
      refine kg_aload_n 0 dX10_round_34 rfl (pc2 := 35) rfl ?_
      refine kg_iconst dX10_round_35 ki_0 (pc2 := 36) rfl ?_
      obtain ⟨s6, s6e, h⟩ := kw_let_e h
      refine kg_puti clX10 rfl 31 (Nat.le_of_ble_eq_true rfl) lfRX10_407 rfl tM_0 eM_0 rfl (ty := .int) (by decide +kernel) rfl rfl s6e dX10_round_36 (pc2 := 39) rfl ?_
      refine kg_iconst dX10_round_39 ki_0 (pc2 := 40) rfl ?_
      refine kg_istore_n dX10_round_40 rfl (Nat.le_of_ble_eq_true rfl) rfl (lv2 := [(3, .int (0 : Int32)), (0, .ref 0), (1, .int a1), (2, .int a2)]) rfl (pc2 := 41) rfl ?_
      refine kg_sub [1, 2, 3, 0] (lv2 := [(0, .ref 0), (1, .int a1), (2, .int a2), (3, .int (0 : Int32))]) rfl ?_
      obtain ⟨x19, x19h, h⟩ := kw_bind_e h
      refine kw_loop_e (P := fun s => kw_G E kwTM 21 (d + 4) μX10_round 41 [(0, .ref 0), (1, .int a1), (2, .int a2), (3, .int s.1)] [] s.2 (some (Value.long r.1)) r.2) (K := Sum.elim (fun rr => (some (Value.long r.1)) = some (Value.long rr.1) ∧ r.2 = rr.2) (fun y => kw_G E kwTM 21 (d + 4) μX10_round 109 [(0, .ref 0), (2, .int a2)] [] y (some (Value.long r.1)) r.2)) (fun s o h0 hk => lX10_round_41 a1 a2 s.1 s.2 h0 hk) kw_F _ _ x19h ?_
      rcases x19 with x19r | x19
      · replace h := kw_se_l h
        cases h
        exact ⟨rfl, rfl⟩
      · replace h := kw_se_r h
        show kw_G E kwTM 21 (d + 4) μX10_round 109 [(0, .ref 0), (2, .int a2)] [] x19 (some (Value.long r.1)) r.2
        refine kg_aload_n 0 dX10_round_109 rfl (pc2 := 110) rfl ?_
        obtain ⟨r20, r20h, h⟩ := kw_bind_e h
        refine kg_callV (μ := μX10_round) (d := (d + 3)) rfl mVX10_findsPairs [] [] (gX10_findsPairs (E := E) (d := d) x19 r20h) rfl lmRX10_324 (ci := 10) rfl tM_0 eM_0 rfl (Nat.le_of_ble_eq_true rfl) dX10_round_110 rfl (st2 := []) rfl (pc2 := 113) rfl ?_
        refine kg_ldc2 rfl lcRX10_89 dX10_round_113 (pc2 := 116) rfl ?_
        refine kg_lstore_n dX10_round_116 rfl (Nat.le_of_ble_eq_true rfl) rfl (lv2 := [(3, .long (900000000000000000 : Int64)), (0, .ref 0), (2, .int a2)]) rfl (pc2 := 117) rfl ?_
        refine kg_iconst dX10_round_117 ki_1 (pc2 := 118) rfl ?_
        refine kg_istore dX10_round_118 (Nat.le_of_ble_eq_true rfl) rfl (lv2 := [(5, .int (1 : Int32)), (3, .long (900000000000000000 : Int64)), (0, .ref 0), (2, .int a2)]) rfl (pc2 := 120) rfl ?_
        refine kg_sub [2, 3, 1, 0] (lv2 := [(0, .ref 0), (2, .int a2), (3, .long (900000000000000000 : Int64)), (5, .int (1 : Int32))]) rfl ?_
        obtain ⟨x30, x30h, h⟩ := kw_bind_e h
        refine kw_loop_e (P := fun s => kw_G E kwTM 21 (d + 4) μX10_round 120 [(0, .ref 0), (2, .int a2), (3, .long s.1), (5, .int s.2.1)] [] s.2.2 (some (Value.long r.1)) r.2) (K := fun y => kw_G E kwTM 21 (d + 4) μX10_round 182 [(0, .ref 0), (2, .int a2), (3, .long y.1)] [] y.2 (some (Value.long r.1)) r.2) (fun s o h0 hk => lX10_round_120 a2 s.1 s.2.1 s.2.2 h0 hk) kw_F _ _ x30h ?_
        show kw_G E kwTM 21 (d + 4) μX10_round 182 [(0, .ref 0), (2, .int a2), (3, .long x30.1)] [] x30.2 (some (Value.long r.1)) r.2
        refine kg_lload_n 2 dX10_round_182 rfl (pc2 := 183) rfl ?_
        refine kg_ldc2 rfl lcRX10_89 dX10_round_183 (pc2 := 186) rfl ?_
        refine kg_lcmp_eq 194 dX10_round_186 dX10_round_187 rfl (pc2 := 190) rfl (fun q31 => ?_) (fun q31 => ?_)
        · replace h := (if_pos q31).symm.trans h
          refine kg_sub [2] (lv2 := [(3, .long x30.1)]) rfl ?_
          exact gjX10_round_194 x30.1 x30.2 h
        · replace h := (if_neg q31).symm.trans h
          refine kg_iload_n 1 dX10_round_190 rfl (pc2 := 191) rfl ?_
          refine kg_if_ne 199 dX10_round_191 rfl (pc2 := 194) rfl (fun q33 => ?_) (fun q33 => ?_)
          · replace h := (if_neg q33).symm.trans h
            refine kg_iload_n 1 dX10_round_199 rfl (pc2 := 200) rfl ?_
            refine kg_aload_n 0 dX10_round_200 rfl (pc2 := 201) rfl ?_
            refine kg_geti clX10 rfl 31 (Nat.le_of_ble_eq_true rfl) lfRX10_407 tM_0 eM_0 rfl dX10_round_201 (pc2 := 204) rfl ?_
            refine kg_icmp_gt 219 dX10_round_204 rfl (pc2 := 207) rfl (fun q34 => ?_) (fun q34 => ?_)
            · replace h := (if_pos q34).symm.trans h
              refine kg_ldc2 rfl lcRX10_422 dX10_round_219 (pc2 := 222) rfl ?_
              cases h
              exact kg_lret dX10_round_222 rfl
            · replace h := (if_neg q34).symm.trans h
              refine kg_aload_n 0 dX10_round_207 rfl (pc2 := 208) rfl ?_
              refine kg_getr clX10 rfl 30 (Nat.le_of_ble_eq_true rfl) lfRX10_70 tM_0 eM_0 rfl dX10_round_208 (pc2 := 211) rfl ?_
              refine kg_iload_n 1 dX10_round_211 rfl (pc2 := 212) rfl ?_
              refine kg_iconst dX10_round_212 ki_1 (pc2 := 213) rfl ?_
              refine kg_isub dX10_round_213 (pc2 := 214) rfl ?_
              obtain ⟨q35, h⟩ := kw_chk_e h
              refine kg_iald tM_20 eM_20 q35 (j := (a2 - (1 : Int32)).toNatClampNeg) rfl dX10_round_214 (pc2 := 215) rfl ?_
              refine kg_i2l dX10_round_215 (pc2 := 216) rfl ?_
              refine kg_goto 222 dX10_round_216 rfl ?_
              cases h
              exact kg_lret dX10_round_222 rfl
          · replace h := (if_pos q33).symm.trans h
            refine kg_sub [2] (lv2 := [(3, .long x30.1)]) rfl ?_
            exact gjX10_round_194 x30.1 x30.2 h
    · replace h := (if_pos q5).symm.trans h
      refine kg_ldc2 rfl lcRX10_99 dX10_round_30 (pc2 := 33) rfl ?_
      cases h
      exact kg_lret dX10_round_33 rfl
set_option maxHeartbeats 4000000 in
set_option maxRecDepth 100000 in
theorem lX10_gather_9 {E : kw_E} {d : Nat} (v1 : Int32) (v2 : Int32) (v3 : Int32) (σ : kw_M) (v4 : Int64) (v6 : Int32) (v7 : Int32) {v : Option Value} {σ2 : kw_M} {o : (Int64 × Int32 × Int32) ⊕ ((Int64) ⊕ (Int64))} (h : bX10_gather_9 v1 v2 v3 σ v4 v6 v7 = some o) (hk : Sum.elim (fun s => kw_G E kwTM 21 (d + 1) μX10_gather 9 [(0, .ref 0), (1, .int v1), (2, .int v2), (3, .int v3), (4, .long s.1), (6, .int s.2.1), (7, .int s.2.2)] [] σ v σ2) (Sum.elim (fun rr => v = some (Value.long rr) ∧ σ2 = σ) (fun y => kw_G E kwTM 21 (d + 1) μX10_gather 100 [(4, .long y)] [] σ v σ2)) o) : kw_G E kwTM 21 (d + 1) μX10_gather 9 [(0, .ref 0), (1, .int v1), (2, .int v2), (3, .int v3), (4, .long v4), (6, .int v6), (7, .int v7)] [] σ v σ2 := by
  unfold bX10_gather_9 at h
  refine kg_iload 6 dX10_gather_9 rfl (pc2 := 11) rfl ?_
  refine kg_aload_n 0 dX10_gather_11 rfl (pc2 := 12) rfl ?_
  obtain ⟨r1, r1h, h⟩ := kw_bind_e h
  refine kg_callV (μ := μX10_gather) (d := d) rfl mVX10_towns [] [.int v7] (gX10_towns (E := E) (d := d) σ r1h) rfl lmRX10_77 (ci := 10) rfl tM_0 eM_0 rfl (Nat.le_of_ble_eq_true rfl) dX10_gather_12 rfl (st2 := [.int r1, .int v7]) rfl (pc2 := 15) rfl ?_
  refine kg_icmp_ge 100 dX10_gather_15 rfl (pc2 := 18) rfl (fun q2 => ?_) (fun q2 => ?_)
  · replace h := (if_pos q2).symm.trans h
    refine kg_sub [4] (lv2 := [(4, .long v4)]) rfl ?_
    cases h
    exact hk
  · replace h := (if_neg q2).symm.trans h
    refine kg_iload_n 1 dX10_gather_18 rfl (pc2 := 19) rfl ?_
    refine kg_iload 6 dX10_gather_19 rfl (pc2 := 21) rfl ?_
    obtain ⟨r3, r3h, h⟩ := kw_bind_e h
    refine kg_callS (μ := μX10_gather) (d := d) rfl mSX10_has [.int v1, .int v7] [] (gX10_has (E := E) (d := d) v1 v7 σ r3h) rfl lmRX10_321 rfl (Nat.le_of_ble_eq_true rfl) dX10_gather_21 rfl (st2 := [.int r3]) rfl (pc2 := 24) rfl ?_
    refine kg_if_ne 30 dX10_gather_24 rfl (pc2 := 27) rfl (fun q4 => ?_) (fun q4 => ?_)
    · replace h := (if_neg q4).symm.trans h
      refine kg_aload_n 0 dX10_gather_30 rfl (pc2 := 31) rfl ?_
      refine kg_getr clX10 rfl 25 (Nat.le_of_ble_eq_true rfl) lfRX10_54 tM_0 eM_0 rfl dX10_gather_31 (pc2 := 34) rfl ?_
      refine kg_bipush dX10_gather_34 kb_12 (pc2 := 36) rfl ?_
      refine kg_iload 6 dX10_gather_36 rfl (pc2 := 38) rfl ?_
      refine kg_imul dX10_gather_38 (pc2 := 39) rfl ?_
      refine kg_iload_n 2 dX10_gather_39 rfl (pc2 := 40) rfl ?_
      refine kg_iadd dX10_gather_40 (pc2 := 41) rfl ?_
      obtain ⟨q5, h⟩ := kw_chk_e h
      refine kg_lald tM_15 eM_15 q5 (j := (((12 : Int32) * v7) + v2).toNatClampNeg) rfl dX10_gather_41 (pc2 := 42) rfl ?_
      obtain ⟨x6, x6e, h⟩ := kw_let_e h
      refine kg_lstore dX10_gather_42 (Nat.le_of_ble_eq_true rfl) x6e (lv2 := [(8, .long x6), (0, .ref 0), (1, .int v1), (2, .int v2), (3, .int v3), (4, .long v4), (6, .int v6), (7, .int v7)]) rfl (pc2 := 44) rfl ?_
      refine kg_lload 0 dX10_gather_44 rfl (pc2 := 46) rfl ?_
      refine kg_ldc2 rfl lcRX10_89 dX10_gather_46 (pc2 := 49) rfl ?_
      refine kg_lcmp_ne 57 dX10_gather_49 dX10_gather_50 rfl (pc2 := 53) rfl (fun q7 => ?_) (fun q7 => ?_)
      · replace h := (if_neg q7).symm.trans h
        refine kg_iload_n 4 dX10_gather_57 rfl (pc2 := 58) rfl ?_
        refine kg_if_eq 84 dX10_gather_58 rfl (pc2 := 61) rfl (fun q8 => ?_) (fun q8 => ?_)
        · replace h := (if_pos q8).symm.trans h
          refine kg_lload 5 dX10_gather_84 rfl (pc2 := 86) rfl ?_
          refine kg_lload 0 dX10_gather_86 rfl (pc2 := 88) rfl ?_
          refine kg_ladd dX10_gather_88 (pc2 := 89) rfl ?_
          obtain ⟨x9, x9e, h⟩ := kw_let_e h
          refine kg_lstore dX10_gather_89 (Nat.le_of_ble_eq_true rfl) x9e (lv2 := [(4, .long x9), (8, .long x6), (0, .ref 0), (1, .int v1), (2, .int v2), (3, .int v3), (6, .int v6), (7, .int v7)]) rfl (pc2 := 91) rfl ?_
          refine kg_iconst dX10_gather_91 ki_1 (pc2 := 92) rfl ?_
          refine kg_istore dX10_gather_92 (Nat.le_of_ble_eq_true rfl) rfl (lv2 := [(6, .int (1 : Int32)), (4, .long x9), (8, .long x6), (0, .ref 0), (1, .int v1), (2, .int v2), (3, .int v3), (7, .int v7)]) rfl (pc2 := 94) rfl ?_
          obtain ⟨x10, x10e, h⟩ := kw_let_e h
          refine kg_iinc 7 dX10_gather_94 rfl (Nat.le_of_ble_eq_true rfl) x10e (lv2 := [(7, .int x10), (6, .int (1 : Int32)), (4, .long x9), (8, .long x6), (0, .ref 0), (1, .int v1), (2, .int v2), (3, .int v3)]) rfl (pc2 := 97) rfl ?_
          refine kg_goto 9 dX10_gather_97 rfl ?_
          refine kg_sub [4, 5, 6, 7, 2, 1, 0] (lv2 := [(0, .ref 0), (1, .int v1), (2, .int v2), (3, .int v3), (4, .long x9), (6, .int (1 : Int32)), (7, .int x10)]) rfl ?_
          cases h
          exact hk
        · replace h := (if_neg q8).symm.trans h
          refine kg_iload 6 dX10_gather_61 rfl (pc2 := 63) rfl ?_
          refine kg_if_eq 79 dX10_gather_63 rfl (pc2 := 66) rfl (fun q11 => ?_) (fun q11 => ?_)
          · replace h := (if_pos q11).symm.trans h
            refine kg_lload 0 dX10_gather_79 rfl (pc2 := 81) rfl ?_
            refine kg_goto 89 dX10_gather_81 rfl ?_
            refine kg_lstore dX10_gather_89 (Nat.le_of_ble_eq_true rfl) rfl (lv2 := [(4, .long x6), (8, .long x6), (0, .ref 0), (1, .int v1), (2, .int v2), (3, .int v3), (6, .int v6), (7, .int v7)]) rfl (pc2 := 91) rfl ?_
            refine kg_iconst dX10_gather_91 ki_1 (pc2 := 92) rfl ?_
            refine kg_istore dX10_gather_92 (Nat.le_of_ble_eq_true rfl) rfl (lv2 := [(6, .int (1 : Int32)), (4, .long x6), (8, .long x6), (0, .ref 0), (1, .int v1), (2, .int v2), (3, .int v3), (7, .int v7)]) rfl (pc2 := 94) rfl ?_
            obtain ⟨x12, x12e, h⟩ := kw_let_e h
            refine kg_iinc 7 dX10_gather_94 rfl (Nat.le_of_ble_eq_true rfl) x12e (lv2 := [(7, .int x12), (6, .int (1 : Int32)), (4, .long x6), (8, .long x6), (0, .ref 0), (1, .int v1), (2, .int v2), (3, .int v3)]) rfl (pc2 := 97) rfl ?_
            refine kg_goto 9 dX10_gather_97 rfl ?_
            refine kg_sub [4, 5, 6, 7, 2, 1, 0] (lv2 := [(0, .ref 0), (1, .int v1), (2, .int v2), (3, .int v3), (4, .long x6), (6, .int (1 : Int32)), (7, .int x12)]) rfl ?_
            cases h
            exact hk
          · replace h := (if_neg q11).symm.trans h
            refine kg_lload 5 dX10_gather_66 rfl (pc2 := 68) rfl ?_
            refine kg_lload 0 dX10_gather_68 rfl (pc2 := 70) rfl ?_
            refine kg_lcmp_le 79 dX10_gather_70 dX10_gather_71 rfl (pc2 := 74) rfl (fun q13 => ?_) (fun q13 => ?_)
            · replace h := (if_pos q13).symm.trans h
              refine kg_lload 0 dX10_gather_79 rfl (pc2 := 81) rfl ?_
              refine kg_goto 89 dX10_gather_81 rfl ?_
              refine kg_lstore dX10_gather_89 (Nat.le_of_ble_eq_true rfl) rfl (lv2 := [(4, .long x6), (8, .long x6), (0, .ref 0), (1, .int v1), (2, .int v2), (3, .int v3), (6, .int v6), (7, .int v7)]) rfl (pc2 := 91) rfl ?_
              refine kg_iconst dX10_gather_91 ki_1 (pc2 := 92) rfl ?_
              refine kg_istore dX10_gather_92 (Nat.le_of_ble_eq_true rfl) rfl (lv2 := [(6, .int (1 : Int32)), (4, .long x6), (8, .long x6), (0, .ref 0), (1, .int v1), (2, .int v2), (3, .int v3), (7, .int v7)]) rfl (pc2 := 94) rfl ?_
              obtain ⟨x14, x14e, h⟩ := kw_let_e h
              refine kg_iinc 7 dX10_gather_94 rfl (Nat.le_of_ble_eq_true rfl) x14e (lv2 := [(7, .int x14), (6, .int (1 : Int32)), (4, .long x6), (8, .long x6), (0, .ref 0), (1, .int v1), (2, .int v2), (3, .int v3)]) rfl (pc2 := 97) rfl ?_
              refine kg_goto 9 dX10_gather_97 rfl ?_
              refine kg_sub [4, 5, 6, 7, 2, 1, 0] (lv2 := [(0, .ref 0), (1, .int v1), (2, .int v2), (3, .int v3), (4, .long x6), (6, .int (1 : Int32)), (7, .int x14)]) rfl ?_
              cases h
              exact hk
            · replace h := (if_neg q13).symm.trans h
              refine kg_lload 5 dX10_gather_74 rfl (pc2 := 76) rfl ?_
              refine kg_goto 89 dX10_gather_76 rfl ?_
              refine kg_lstore dX10_gather_89 (Nat.le_of_ble_eq_true rfl) rfl (lv2 := [(4, .long v4), (8, .long x6), (0, .ref 0), (1, .int v1), (2, .int v2), (3, .int v3), (6, .int v6), (7, .int v7)]) rfl (pc2 := 91) rfl ?_
              refine kg_iconst dX10_gather_91 ki_1 (pc2 := 92) rfl ?_
              refine kg_istore dX10_gather_92 (Nat.le_of_ble_eq_true rfl) rfl (lv2 := [(6, .int (1 : Int32)), (4, .long v4), (8, .long x6), (0, .ref 0), (1, .int v1), (2, .int v2), (3, .int v3), (7, .int v7)]) rfl (pc2 := 94) rfl ?_
              obtain ⟨x15, x15e, h⟩ := kw_let_e h
              refine kg_iinc 7 dX10_gather_94 rfl (Nat.le_of_ble_eq_true rfl) x15e (lv2 := [(7, .int x15), (6, .int (1 : Int32)), (4, .long v4), (8, .long x6), (0, .ref 0), (1, .int v1), (2, .int v2), (3, .int v3)]) rfl (pc2 := 97) rfl ?_
              refine kg_goto 9 dX10_gather_97 rfl ?_
              refine kg_sub [4, 5, 6, 7, 2, 1, 0] (lv2 := [(0, .ref 0), (1, .int v1), (2, .int v2), (3, .int v3), (4, .long v4), (6, .int (1 : Int32)), (7, .int x15)]) rfl ?_
              cases h
              exact hk
      · replace h := (if_pos q7).symm.trans h
        refine kg_ldc2 rfl lcRX10_89 dX10_gather_53 (pc2 := 56) rfl ?_
        cases h
        obtain ⟨rfl, rfl⟩ := hk
        exact kg_lret dX10_gather_56 rfl
    · replace h := (if_pos q4).symm.trans h
      refine kg_goto 94 dX10_gather_27 rfl ?_
      obtain ⟨x16, x16e, h⟩ := kw_let_e h
      refine kg_iinc 6 dX10_gather_94 rfl (Nat.le_of_ble_eq_true rfl) x16e (lv2 := [(7, .int x16), (0, .ref 0), (1, .int v1), (2, .int v2), (3, .int v3), (4, .long v4), (6, .int v6)]) rfl (pc2 := 97) rfl ?_
      refine kg_goto 9 dX10_gather_97 rfl ?_
      refine kg_sub [1, 2, 3, 4, 5, 6, 0] (lv2 := [(0, .ref 0), (1, .int v1), (2, .int v2), (3, .int v3), (4, .long v4), (6, .int v6), (7, .int x16)]) rfl ?_
      cases h
      exact hk
set_option maxHeartbeats 4000000 in
set_option maxRecDepth 100000 in
theorem gX10_gather {E : kw_E} {d : Nat} (a1 : Int32) (a2 : Int32) (a3 : Int32) (σ : kw_M) {r : Int64} (h : fX10_gather a1 a2 a3 σ = some r) : kw_Met E kwTM 21 (d + 1) μX10_gather [.ref 0, .int a1, .int a2, .int a3] σ (some (Value.long r)) σ := by
  refine kw_enter plRX10 (Nat.le_of_ble_eq_true rfl) ?_
  show kw_G E kwTM 21 (d + 1) μX10_gather 0 [(0, .ref 0), (1, .int a1), (2, .int a2), (3, .int a3)] [] σ (some (Value.long r)) σ
  unfold fX10_gather at h
  refine kg_lconst dX10_gather_0 kl_0 (pc2 := 1) rfl ?_
  refine kg_lstore dX10_gather_1 (Nat.le_of_ble_eq_true rfl) rfl (lv2 := [(4, .long (0 : Int64)), (0, .ref 0), (1, .int a1), (2, .int a2), (3, .int a3)]) rfl (pc2 := 3) rfl ?_
  refine kg_iconst dX10_gather_3 ki_0 (pc2 := 4) rfl ?_
  refine kg_istore dX10_gather_4 (Nat.le_of_ble_eq_true rfl) rfl (lv2 := [(6, .int (0 : Int32)), (4, .long (0 : Int64)), (0, .ref 0), (1, .int a1), (2, .int a2), (3, .int a3)]) rfl (pc2 := 6) rfl ?_
  refine kg_iconst dX10_gather_6 ki_0 (pc2 := 7) rfl ?_
  refine kg_istore dX10_gather_7 (Nat.le_of_ble_eq_true rfl) rfl (lv2 := [(7, .int (0 : Int32)), (6, .int (0 : Int32)), (4, .long (0 : Int64)), (0, .ref 0), (1, .int a1), (2, .int a2), (3, .int a3)]) rfl (pc2 := 9) rfl ?_
  refine kg_sub [3, 4, 5, 6, 2, 1, 0] (lv2 := [(0, .ref 0), (1, .int a1), (2, .int a2), (3, .int a3), (4, .long (0 : Int64)), (6, .int (0 : Int32)), (7, .int (0 : Int32))]) rfl ?_
  obtain ⟨x17, x17h, h⟩ := kw_bind_e h
  refine kw_loop_e (P := fun s => kw_G E kwTM 21 (d + 1) μX10_gather 9 [(0, .ref 0), (1, .int a1), (2, .int a2), (3, .int a3), (4, .long s.1), (6, .int s.2.1), (7, .int s.2.2)] [] σ (some (Value.long r)) σ) (K := Sum.elim (fun rr => (some (Value.long r)) = some (Value.long rr) ∧ σ = σ) (fun y => kw_G E kwTM 21 (d + 1) μX10_gather 100 [(4, .long y)] [] σ (some (Value.long r)) σ)) (fun s o h0 hk => lX10_gather_9 a1 a2 a3 σ s.1 s.2.1 s.2.2 h0 hk) kw_F _ _ x17h ?_
  rcases x17 with x17r | x17
  · replace h := kw_se_l h
    cases h
    exact ⟨rfl, rfl⟩
  · replace h := kw_se_r h
    show kw_G E kwTM 21 (d + 1) μX10_gather 100 [(4, .long x17)] [] σ (some (Value.long r)) σ
    refine kg_lload 0 dX10_gather_100 rfl (pc2 := 102) rfl ?_
    cases h
    exact kg_lret dX10_gather_102 rfl
set_option maxHeartbeats 4000000 in
set_option maxRecDepth 100000 in
theorem gjX10_meet_71_L48 {E : kw_E} {d : Nat} (v1 : Int32) (v2 : Int32) (v3 : Int32) (v4 : Int64) (v6 : Int32) (t0 : Int32) (t1 : Int32) (t2 : Int32) (σ : kw_M) {v : Option Value} {σ2 : kw_M} {o : (Int32 × Int64 × Int32) ⊕ (Int32 × Int64)} (h : jX10_meet_71_L48 v1 v2 v3 v4 v6 t0 t1 t2 σ = some o) (hk : Sum.elim (fun s => kw_G E kwTM 21 (d + 4) μX10_meet 48 [(0, .ref 0), (1, .int v1), (2, .int v2), (3, .int s.1), (4, .long s.2.1), (6, .int s.2.2)] [] σ v σ2) (fun y => kw_G E kwTM 21 (d + 4) μX10_meet 100 [(2, .int v2), (3, .int y.1), (4, .long y.2)] [] σ v σ2) o) : kw_G E kwTM 21 (d + 4) μX10_meet 71 [(0, .ref 0), (1, .int v1), (2, .int v2), (3, .int v3), (4, .long v4), (6, .int v6)] [.int t0, .int t1, .int t2, .ref 0] σ v σ2 := by
  unfold jX10_meet_71_L48 at h
  obtain ⟨r10, r10h, h⟩ := kw_bind_e h
  refine kg_callV (μ := μX10_meet) (d := (d + 3)) rfl mVX10_gather [.int t2, .int t1, .int t0] [] (gX10_gather (E := E) (d := (d + 2)) t2 t1 t0 σ r10h) rfl lmRX10_424 (ci := 10) rfl tM_0 eM_0 rfl (Nat.le_of_ble_eq_true rfl) dX10_meet_71 rfl (st2 := [.long r10]) rfl (pc2 := 74) rfl ?_
  refine kg_lstore dX10_meet_74 (Nat.le_of_ble_eq_true rfl) rfl (lv2 := [(7, .long r10), (0, .ref 0), (1, .int v1), (2, .int v2), (3, .int v3), (4, .long v4), (6, .int v6)]) rfl (pc2 := 76) rfl ?_
  refine kg_lload 0 dX10_meet_76 rfl (pc2 := 78) rfl ?_
  refine kg_lload 5 dX10_meet_78 rfl (pc2 := 80) rfl ?_
  refine kg_lcmp_lt 87 dX10_meet_80 dX10_meet_81 rfl (pc2 := 84) rfl (fun q11 => ?_) (fun q11 => ?_)
  · replace h := (if_pos q11).symm.trans h
    refine kg_iload 6 dX10_meet_87 rfl (pc2 := 89) rfl ?_
    refine kg_istore_n dX10_meet_89 rfl (Nat.le_of_ble_eq_true rfl) rfl (lv2 := [(3, .int v6), (7, .long r10), (0, .ref 0), (1, .int v1), (2, .int v2), (4, .long v4), (6, .int v6)]) rfl (pc2 := 90) rfl ?_
    refine kg_lload 1 dX10_meet_90 rfl (pc2 := 92) rfl ?_
    refine kg_lstore dX10_meet_92 (Nat.le_of_ble_eq_true rfl) rfl (lv2 := [(4, .long r10), (3, .int v6), (7, .long r10), (0, .ref 0), (1, .int v1), (2, .int v2), (6, .int v6)]) rfl (pc2 := 94) rfl ?_
    obtain ⟨x12, x12e, h⟩ := kw_let_e h
    refine kg_iinc 6 dX10_meet_94 rfl (Nat.le_of_ble_eq_true rfl) x12e (lv2 := [(6, .int x12), (4, .long r10), (3, .int v6), (7, .long r10), (0, .ref 0), (1, .int v1), (2, .int v2)]) rfl (pc2 := 97) rfl ?_
    refine kg_goto 48 dX10_meet_97 rfl ?_
    refine kg_sub [4, 5, 6, 2, 1, 0] (lv2 := [(0, .ref 0), (1, .int v1), (2, .int v2), (3, .int v6), (4, .long r10), (6, .int x12)]) rfl ?_
    cases h
    exact hk
  · replace h := (if_neg q11).symm.trans h
    refine kg_goto 94 dX10_meet_84 rfl ?_
    obtain ⟨x13, x13e, h⟩ := kw_let_e h
    refine kg_iinc 6 dX10_meet_94 rfl (Nat.le_of_ble_eq_true rfl) x13e (lv2 := [(6, .int x13), (7, .long r10), (0, .ref 0), (1, .int v1), (2, .int v2), (3, .int v3), (4, .long v4)]) rfl (pc2 := 97) rfl ?_
    refine kg_goto 48 dX10_meet_97 rfl ?_
    refine kg_sub [2, 3, 4, 5, 6, 0] (lv2 := [(0, .ref 0), (1, .int v1), (2, .int v2), (3, .int v3), (4, .long v4), (6, .int x13)]) rfl ?_
    cases h
    exact hk
set_option maxHeartbeats 4000000 in
set_option maxRecDepth 100000 in
theorem lX10_meet_48 {E : kw_E} {d : Nat} (v1 : Int32) (v2 : Int32) (σ : kw_M) (v3 : Int32) (v4 : Int64) (v6 : Int32) {v : Option Value} {σ2 : kw_M} {o : (Int32 × Int64 × Int32) ⊕ (Int32 × Int64)} (h : bX10_meet_48 v1 v2 σ v3 v4 v6 = some o) (hk : Sum.elim (fun s => kw_G E kwTM 21 (d + 4) μX10_meet 48 [(0, .ref 0), (1, .int v1), (2, .int v2), (3, .int s.1), (4, .long s.2.1), (6, .int s.2.2)] [] σ v σ2) (fun y => kw_G E kwTM 21 (d + 4) μX10_meet 100 [(2, .int v2), (3, .int y.1), (4, .long y.2)] [] σ v σ2) o) : kw_G E kwTM 21 (d + 4) μX10_meet 48 [(0, .ref 0), (1, .int v1), (2, .int v2), (3, .int v3), (4, .long v4), (6, .int v6)] [] σ v σ2 := by
  unfold bX10_meet_48 at h
  refine kg_iload 5 dX10_meet_48 rfl (pc2 := 50) rfl ?_
  refine kg_aload_n 0 dX10_meet_50 rfl (pc2 := 51) rfl ?_
  obtain ⟨r7, r7h, h⟩ := kw_bind_e h
  refine kg_callV (μ := μX10_meet) (d := (d + 3)) rfl mVX10_towns [] [.int v6] (gX10_towns (E := E) (d := (d + 3)) σ r7h) rfl lmRX10_77 (ci := 10) rfl tM_0 eM_0 rfl (Nat.le_of_ble_eq_true rfl) dX10_meet_51 rfl (st2 := [.int r7, .int v6]) rfl (pc2 := 54) rfl ?_
  refine kg_icmp_ge 100 dX10_meet_54 rfl (pc2 := 57) rfl (fun q8 => ?_) (fun q8 => ?_)
  · replace h := (if_pos q8).symm.trans h
    refine kg_sub [2, 3, 4] (lv2 := [(2, .int v2), (3, .int v3), (4, .long v4)]) rfl ?_
    cases h
    exact hk
  · replace h := (if_neg q8).symm.trans h
    refine kg_aload_n 0 dX10_meet_57 rfl (pc2 := 58) rfl ?_
    refine kg_iload_n 1 dX10_meet_58 rfl (pc2 := 59) rfl ?_
    refine kg_iload 5 dX10_meet_59 rfl (pc2 := 61) rfl ?_
    refine kg_iload_n 2 dX10_meet_61 rfl (pc2 := 62) rfl ?_
    refine kg_iconst dX10_meet_62 ki_1 (pc2 := 63) rfl ?_
    refine kg_icmp_le 70 dX10_meet_63 rfl (pc2 := 66) rfl (fun q9 => ?_) (fun q9 => ?_)
    · replace h := (if_pos q9).symm.trans h
      refine kg_iconst dX10_meet_70 ki_0 (pc2 := 71) rfl ?_
      exact gjX10_meet_71_L48 v1 v2 v3 v4 v6 (0 : Int32) v6 v1 σ h hk
    · replace h := (if_neg q9).symm.trans h
      refine kg_iconst dX10_meet_66 ki_1 (pc2 := 67) rfl ?_
      refine kg_goto 71 dX10_meet_67 rfl ?_
      exact gjX10_meet_71_L48 v1 v2 v3 v4 v6 (1 : Int32) v6 v1 σ h hk
set_option maxHeartbeats 4000000 in
set_option maxRecDepth 100000 in
theorem gX10_meet {E : kw_E} {d : Nat} (a1 : Int32) (a2 : Int32) (σ : kw_M) {r : Int64 × kw_M} (h : fX10_meet a1 a2 σ = some r) : kw_Met E kwTM 21 (d + 4) μX10_meet [.ref 0, .int a1, .int a2] σ (some (Value.long r.1)) r.2 := by
  refine kw_enter plRX10 (Nat.le_of_ble_eq_true rfl) ?_
  show kw_G E kwTM 21 (d + 4) μX10_meet 0 [(0, .ref 0), (1, .int a1), (2, .int a2)] [] σ (some (Value.long r.1)) r.2
  unfold fX10_meet at h
  refine kg_iload_n 1 dX10_meet_0 rfl (pc2 := 1) rfl ?_
  refine kg_i2l dX10_meet_1 (pc2 := 2) rfl ?_
  refine kg_lconst dX10_meet_2 kl_1 (pc2 := 3) rfl ?_
  refine kg_iconst dX10_meet_3 ki_1 (pc2 := 4) rfl ?_
  refine kg_aload_n 0 dX10_meet_4 rfl (pc2 := 5) rfl ?_
  obtain ⟨r1, r1h, h⟩ := kw_bind_e h
  refine kg_callV (μ := μX10_meet) (d := (d + 3)) rfl mVX10_towns [] [.int (1 : Int32), .long (1 : Int64), .long a1.toInt64] (gX10_towns (E := E) (d := (d + 3)) σ r1h) rfl lmRX10_77 (ci := 10) rfl tM_0 eM_0 rfl (Nat.le_of_ble_eq_true rfl) dX10_meet_5 rfl (st2 := [.int r1, .int (1 : Int32), .long (1 : Int64), .long a1.toInt64]) rfl (pc2 := 8) rfl ?_
  refine kg_ishl dX10_meet_8 (pc2 := 9) rfl ?_
  refine kg_iconst dX10_meet_9 ki_1 (pc2 := 10) rfl ?_
  refine kg_isub dX10_meet_10 (pc2 := 11) rfl ?_
  refine kg_i2l dX10_meet_11 (pc2 := 12) rfl ?_
  obtain ⟨r2, r2h, h⟩ := kw_bind_e h
  refine kg_callS (μ := μX10_meet) (d := (d + 3)) rfl mSX10_in [.long a1.toInt64, .long (1 : Int64), .long ((((1 : Int32) <<< (r1 &&& 31)) - (1 : Int32)).toInt64)] [] (gX10_in (E := E) (d := (d + 3)) a1.toInt64 (1 : Int64) ((((1 : Int32) <<< (r1 &&& 31)) - (1 : Int32)).toInt64) σ r2h) rfl lmRX10_81 rfl (Nat.le_of_ble_eq_true rfl) dX10_meet_12 rfl (st2 := [.int r2]) rfl (pc2 := 15) rfl ?_
  refine kg_if_eq 30 dX10_meet_15 rfl (pc2 := 18) rfl (fun q3 => ?_) (fun q3 => ?_)
  · replace h := (if_pos q3).symm.trans h
    refine kg_ldc2 rfl lcRX10_99 dX10_meet_30 (pc2 := 33) rfl ?_
    cases h
    exact kg_lret dX10_meet_33 rfl
  · replace h := (if_neg q3).symm.trans h
    refine kg_iload_n 2 dX10_meet_18 rfl (pc2 := 19) rfl ?_
    refine kg_i2l dX10_meet_19 (pc2 := 20) rfl ?_
    refine kg_lconst dX10_meet_20 kl_0 (pc2 := 21) rfl ?_
    refine kg_ldc2 rfl lcRX10_389 dX10_meet_21 (pc2 := 24) rfl ?_
    obtain ⟨r4, r4h, h⟩ := kw_bind_e h
    refine kg_callS (μ := μX10_meet) (d := (d + 3)) rfl mSX10_in [.long a2.toInt64, .long (0 : Int64), .long (3 : Int64)] [] (gX10_in (E := E) (d := (d + 3)) a2.toInt64 (0 : Int64) (3 : Int64) σ r4h) rfl lmRX10_81 rfl (Nat.le_of_ble_eq_true rfl) dX10_meet_24 rfl (st2 := [.int r4]) rfl (pc2 := 27) rfl ?_
    refine kg_if_ne 34 dX10_meet_27 rfl (pc2 := 30) rfl (fun q5 => ?_) (fun q5 => ?_)
    · replace h := (if_neg q5).symm.trans h
      refine kg_aload_n 0 dX10_meet_34 rfl (pc2 := 35) rfl ?_
      obtain ⟨r6, r6h, h⟩ := kw_bind_e h
      refine kg_callV (μ := μX10_meet) (d := (d + 3)) rfl mVX10_findsPairs [] [] (gX10_findsPairs (E := E) (d := d) σ r6h) rfl lmRX10_324 (ci := 10) rfl tM_0 eM_0 rfl (Nat.le_of_ble_eq_true rfl) dX10_meet_35 rfl (st2 := []) rfl (pc2 := 38) rfl ?_
      refine kg_iconst dX10_meet_38 ki_m1 (pc2 := 39) rfl ?_
      refine kg_istore_n dX10_meet_39 rfl (Nat.le_of_ble_eq_true rfl) rfl (lv2 := [(3, .int (-1 : Int32)), (0, .ref 0), (1, .int a1), (2, .int a2)]) rfl (pc2 := 40) rfl ?_
      refine kg_ldc2 rfl lcRX10_89 dX10_meet_40 (pc2 := 43) rfl ?_
      refine kg_lstore dX10_meet_43 (Nat.le_of_ble_eq_true rfl) rfl (lv2 := [(4, .long (900000000000000000 : Int64)), (3, .int (-1 : Int32)), (0, .ref 0), (1, .int a1), (2, .int a2)]) rfl (pc2 := 45) rfl ?_
      refine kg_iconst dX10_meet_45 ki_0 (pc2 := 46) rfl ?_
      refine kg_istore dX10_meet_46 (Nat.le_of_ble_eq_true rfl) rfl (lv2 := [(6, .int (0 : Int32)), (4, .long (900000000000000000 : Int64)), (3, .int (-1 : Int32)), (0, .ref 0), (1, .int a1), (2, .int a2)]) rfl (pc2 := 48) rfl ?_
      refine kg_sub [3, 4, 5, 2, 1, 0] (lv2 := [(0, .ref 0), (1, .int a1), (2, .int a2), (3, .int (-1 : Int32)), (4, .long (900000000000000000 : Int64)), (6, .int (0 : Int32))]) rfl ?_
      obtain ⟨x14, x14h, h⟩ := kw_bind_e h
      refine kw_loop_e (P := fun s => kw_G E kwTM 21 (d + 4) μX10_meet 48 [(0, .ref 0), (1, .int a1), (2, .int a2), (3, .int s.1), (4, .long s.2.1), (6, .int s.2.2)] [] r6 (some (Value.long r.1)) r.2) (K := fun y => kw_G E kwTM 21 (d + 4) μX10_meet 100 [(2, .int a2), (3, .int y.1), (4, .long y.2)] [] r6 (some (Value.long r.1)) r.2) (fun s o h0 hk => lX10_meet_48 a1 a2 r6 s.1 s.2.1 s.2.2 h0 hk) kw_F _ _ x14h ?_
      show kw_G E kwTM 21 (d + 4) μX10_meet 100 [(2, .int a2), (3, .int x14.1), (4, .long x14.2)] [] r6 (some (Value.long r.1)) r.2
      refine kg_iload_n 1 dX10_meet_100 rfl (pc2 := 101) rfl ?_
      refine kg_iconst dX10_meet_101 ki_m1 (pc2 := 102) rfl ?_
      refine kg_icmp_ne 111 dX10_meet_102 rfl (pc2 := 105) rfl (fun q15 => ?_) (fun q15 => ?_)
      · replace h := (if_neg q15).symm.trans h
        refine kg_iload_n 0 dX10_meet_111 rfl (pc2 := 112) rfl ?_
        refine kg_iconst dX10_meet_112 ki_2 (pc2 := 113) rfl ?_
        refine kg_irem dX10_meet_113 (by decide) (pc2 := 114) rfl ?_
        refine kg_if_ne 122 dX10_meet_114 rfl (pc2 := 117) rfl (fun q16 => ?_) (fun q16 => ?_)
        · replace h := (if_neg q16).symm.trans h
          refine kg_lload 2 dX10_meet_122 rfl (pc2 := 124) rfl ?_
          cases h
          exact kg_lret dX10_meet_124 rfl
        · replace h := (if_pos q16).symm.trans h
          refine kg_iload_n 1 dX10_meet_117 rfl (pc2 := 118) rfl ?_
          refine kg_i2l dX10_meet_118 (pc2 := 119) rfl ?_
          refine kg_goto 124 dX10_meet_119 rfl ?_
          cases h
          exact kg_lret dX10_meet_124 rfl
      · replace h := (if_pos q15).symm.trans h
        refine kg_ldc2 rfl lcRX10_99 dX10_meet_105 (pc2 := 108) rfl ?_
        refine kg_goto 124 dX10_meet_108 rfl ?_
        cases h
        exact kg_lret dX10_meet_124 rfl
    · replace h := (if_pos q5).symm.trans h
      refine kg_ldc2 rfl lcRX10_99 dX10_meet_30 (pc2 := 33) rfl ?_
      cases h
      exact kg_lret dX10_meet_33 rfl
set_option maxHeartbeats 4000000 in
set_option maxRecDepth 100000 in
theorem gX10_through {E : kw_E} {d : Nat} (a1 : Int32) (a2 : Int32) (σ : kw_M) {r : Int64 × kw_M} (h : fX10_through a1 a2 σ = some r) : kw_Met E kwTM 21 (d + 4) μX10_through [.ref 0, .int a1, .int a2] σ (some (Value.long r.1)) r.2 := by
  refine kw_enter plRX10 (Nat.le_of_ble_eq_true rfl) ?_
  show kw_G E kwTM 21 (d + 4) μX10_through 0 [(0, .ref 0), (1, .int a1), (2, .int a2)] [] σ (some (Value.long r.1)) r.2
  unfold fX10_through at h
  refine kg_aload_n 0 dX10_through_0 rfl (pc2 := 1) rfl ?_
  refine kg_iload_n 1 dX10_through_1 rfl (pc2 := 2) rfl ?_
  obtain ⟨r1, r1h, h⟩ := kw_bind_e h
  refine kg_callV (μ := μX10_through) (d := (d + 3)) rfl mVX10_isTown [.int a1] [] (gX10_isTown (E := E) (d := (d + 2)) a1 σ r1h) rfl lmRX10_121 (ci := 10) rfl tM_0 eM_0 rfl (Nat.le_of_ble_eq_true rfl) dX10_through_2 rfl (st2 := [.int r1]) rfl (pc2 := 5) rfl ?_
  refine kg_if_eq 16 dX10_through_5 rfl (pc2 := 8) rfl (fun q2 => ?_) (fun q2 => ?_)
  · replace h := (if_pos q2).symm.trans h
    refine kg_ldc2 rfl lcRX10_99 dX10_through_16 (pc2 := 19) rfl ?_
    cases h
    exact kg_lret dX10_through_19 rfl
  · replace h := (if_neg q2).symm.trans h
    refine kg_aload_n 0 dX10_through_8 rfl (pc2 := 9) rfl ?_
    refine kg_iload_n 2 dX10_through_9 rfl (pc2 := 10) rfl ?_
    obtain ⟨r3, r3h, h⟩ := kw_bind_e h
    refine kg_callV (μ := μX10_through) (d := (d + 3)) rfl mVX10_isTown [.int a2] [] (gX10_isTown (E := E) (d := (d + 2)) a2 σ r3h) rfl lmRX10_121 (ci := 10) rfl tM_0 eM_0 rfl (Nat.le_of_ble_eq_true rfl) dX10_through_10 rfl (st2 := [.int r3]) rfl (pc2 := 13) rfl ?_
    refine kg_if_ne 20 dX10_through_13 rfl (pc2 := 16) rfl (fun q4 => ?_) (fun q4 => ?_)
    · replace h := (if_neg q4).symm.trans h
      refine kg_aload_n 0 dX10_through_20 rfl (pc2 := 21) rfl ?_
      obtain ⟨r5, r5h, h⟩ := kw_bind_e h
      refine kg_callV (μ := μX10_through) (d := (d + 3)) rfl mVX10_settles [] [] (gX10_settles (E := E) (d := d) σ r5h) rfl lmRX10_104 (ci := 10) rfl tM_0 eM_0 rfl (Nat.le_of_ble_eq_true rfl) dX10_through_21 rfl (st2 := []) rfl (pc2 := 24) rfl ?_
      refine kg_aload_n 0 dX10_through_24 rfl (pc2 := 25) rfl ?_
      refine kg_iload_n 2 dX10_through_25 rfl (pc2 := 26) rfl ?_
      refine kg_iconst dX10_through_26 ki_m1 (pc2 := 27) rfl ?_
      obtain ⟨r6, r6h, h⟩ := kw_bind_e h
      refine kg_callV (μ := μX10_through) (d := (d + 3)) rfl mVX10_finds [.int a2, .int (-1 : Int32)] [] (gX10_finds (E := E) (d := (d + 1)) a2 (-1 : Int32) r5 r6h) rfl lmRX10_95 (ci := 10) rfl tM_0 eM_0 rfl (Nat.le_of_ble_eq_true rfl) dX10_through_27 rfl (st2 := []) rfl (pc2 := 30) rfl ?_
      refine kg_aload_n 0 dX10_through_30 rfl (pc2 := 31) rfl ?_
      refine kg_getr clX10 rfl 3 (Nat.le_of_ble_eq_true rfl) lfRX10_17 tM_0 eM_0 rfl dX10_through_31 (pc2 := 34) rfl ?_
      refine kg_iload_n 2 dX10_through_34 rfl (pc2 := 35) rfl ?_
      obtain ⟨q7, h⟩ := kw_chk_e h
      refine kg_lald tM_3 eM_3 q7 (j := a2.toNatClampNeg) rfl dX10_through_35 (pc2 := 36) rfl ?_
      refine kg_ldc2 rfl lcRX10_89 dX10_through_36 (pc2 := 39) rfl ?_
      refine kg_lcmp_eq 56 dX10_through_39 dX10_through_40 rfl (pc2 := 43) rfl (fun q8 => ?_) (fun q8 => ?_)
      · replace h := (if_pos q8).symm.trans h
        refine kg_ldc2 rfl lcRX10_99 dX10_through_56 (pc2 := 59) rfl ?_
        refine kg_goto 75 dX10_through_59 rfl ?_
        cases h
        exact kg_lret dX10_through_75 rfl
      · replace h := (if_neg q8).symm.trans h
        refine kg_aload_n 0 dX10_through_43 rfl (pc2 := 44) rfl ?_
        refine kg_getr clX10 rfl 2 (Nat.le_of_ble_eq_true rfl) lfRX10_13 tM_0 eM_0 rfl dX10_through_44 (pc2 := 47) rfl ?_
        refine kg_iload_n 1 dX10_through_47 rfl (pc2 := 48) rfl ?_
        obtain ⟨q9, h⟩ := kw_chk_e h
        refine kg_lald tM_2 eM_2 q9 (j := a1.toNatClampNeg) rfl dX10_through_48 (pc2 := 49) rfl ?_
        refine kg_ldc2 rfl lcRX10_89 dX10_through_49 (pc2 := 52) rfl ?_
        refine kg_lcmp_ne 62 dX10_through_52 dX10_through_53 rfl (pc2 := 56) rfl (fun q10 => ?_) (fun q10 => ?_)
        · replace h := (if_neg q10).symm.trans h
          refine kg_aload_n 0 dX10_through_62 rfl (pc2 := 63) rfl ?_
          refine kg_getr clX10 rfl 3 (Nat.le_of_ble_eq_true rfl) lfRX10_17 tM_0 eM_0 rfl dX10_through_63 (pc2 := 66) rfl ?_
          refine kg_iload_n 2 dX10_through_66 rfl (pc2 := 67) rfl ?_
          refine kg_lald tM_3 eM_3 q7 (j := a2.toNatClampNeg) rfl dX10_through_67 (pc2 := 68) rfl ?_
          refine kg_aload_n 0 dX10_through_68 rfl (pc2 := 69) rfl ?_
          refine kg_getr clX10 rfl 2 (Nat.le_of_ble_eq_true rfl) lfRX10_13 tM_0 eM_0 rfl dX10_through_69 (pc2 := 72) rfl ?_
          refine kg_iload_n 1 dX10_through_72 rfl (pc2 := 73) rfl ?_
          refine kg_lald tM_2 eM_2 q9 (j := a1.toNatClampNeg) rfl dX10_through_73 (pc2 := 74) rfl ?_
          refine kg_ladd dX10_through_74 (pc2 := 75) rfl ?_
          cases h
          exact kg_lret dX10_through_75 rfl
        · replace h := (if_pos q10).symm.trans h
          refine kg_ldc2 rfl lcRX10_99 dX10_through_56 (pc2 := 59) rfl ?_
          refine kg_goto 75 dX10_through_59 rfl ?_
          cases h
          exact kg_lret dX10_through_75 rfl
    · replace h := (if_pos q4).symm.trans h
      refine kg_ldc2 rfl lcRX10_99 dX10_through_16 (pc2 := 19) rfl ?_
      cases h
      exact kg_lret dX10_through_19 rfl
set_option maxHeartbeats 4000000 in
set_option maxRecDepth 100000 in
theorem lX10_savedBy_45 {E : kw_E} {d : Nat} (v1 : Int32) (v2 : Int32) (v3 : Int32) (σ : kw_M) (v4 : Int64) (v6 : Int32) {v : Option Value} {σ2 : kw_M} {o : (Int64 × Int32) ⊕ (Int64)} (h : bX10_savedBy_45 v1 v2 v3 σ v4 v6 = some o) (hk : Sum.elim (fun s => kw_G E kwTM 21 (d + 1) μX10_savedBy 45 [(0, .ref 0), (1, .int v1), (2, .int v2), (3, .int v3), (4, .long s.1), (6, .int s.2)] [] σ v σ2) (fun y => kw_G E kwTM 21 (d + 1) μX10_savedBy 148 [(4, .long y)] [] σ v σ2) o) : kw_G E kwTM 21 (d + 1) μX10_savedBy 45 [(0, .ref 0), (1, .int v1), (2, .int v2), (3, .int v3), (4, .long v4), (6, .int v6)] [] σ v σ2 := by
  unfold bX10_savedBy_45 at h
  refine kg_iload 5 dX10_savedBy_45 rfl (pc2 := 47) rfl ?_
  refine kg_aload_n 0 dX10_savedBy_47 rfl (pc2 := 48) rfl ?_
  obtain ⟨r3, r3h, h⟩ := kw_bind_e h
  refine kg_callV (μ := μX10_savedBy) (d := d) rfl mVX10_towns [] [.int v6] (gX10_towns (E := E) (d := d) σ r3h) rfl lmRX10_77 (ci := 10) rfl tM_0 eM_0 rfl (Nat.le_of_ble_eq_true rfl) dX10_savedBy_48 rfl (st2 := [.int r3, .int v6]) rfl (pc2 := 51) rfl ?_
  refine kg_icmp_ge 148 dX10_savedBy_51 rfl (pc2 := 54) rfl (fun q4 => ?_) (fun q4 => ?_)
  · replace h := (if_pos q4).symm.trans h
    refine kg_sub [4] (lv2 := [(4, .long v4)]) rfl ?_
    cases h
    exact hk
  · replace h := (if_neg q4).symm.trans h
    refine kg_aload_n 0 dX10_savedBy_54 rfl (pc2 := 55) rfl ?_
    refine kg_getr clX10 rfl 3 (Nat.le_of_ble_eq_true rfl) lfRX10_17 tM_0 eM_0 rfl dX10_savedBy_55 (pc2 := 58) rfl ?_
    refine kg_iload 5 dX10_savedBy_58 rfl (pc2 := 60) rfl ?_
    obtain ⟨q5, h⟩ := kw_chk_e h
    refine kg_lald tM_3 eM_3 q5 (j := v6.toNatClampNeg) rfl dX10_savedBy_60 (pc2 := 61) rfl ?_
    refine kg_ldc2 rfl lcRX10_89 dX10_savedBy_61 (pc2 := 64) rfl ?_
    refine kg_lcmp_eq 142 dX10_savedBy_64 dX10_savedBy_65 rfl (pc2 := 68) rfl (fun q6 => ?_) (fun q6 => ?_)
    · replace h := (if_pos q6).symm.trans h
      obtain ⟨x7, x7e, h⟩ := kw_let_e h
      refine kg_iinc 5 dX10_savedBy_142 rfl (Nat.le_of_ble_eq_true rfl) x7e (lv2 := [(6, .int x7), (0, .ref 0), (1, .int v1), (2, .int v2), (3, .int v3), (4, .long v4)]) rfl (pc2 := 145) rfl ?_
      refine kg_goto 45 dX10_savedBy_145 rfl ?_
      refine kg_sub [1, 2, 3, 4, 5, 0] (lv2 := [(0, .ref 0), (1, .int v1), (2, .int v2), (3, .int v3), (4, .long v4), (6, .int x7)]) rfl ?_
      cases h
      exact hk
    · replace h := (if_neg q6).symm.trans h
      refine kg_aload_n 0 dX10_savedBy_68 rfl (pc2 := 69) rfl ?_
      refine kg_getr clX10 rfl 25 (Nat.le_of_ble_eq_true rfl) lfRX10_54 tM_0 eM_0 rfl dX10_savedBy_69 (pc2 := 72) rfl ?_
      refine kg_bipush dX10_savedBy_72 kb_12 (pc2 := 74) rfl ?_
      refine kg_iload_n 2 dX10_savedBy_74 rfl (pc2 := 75) rfl ?_
      refine kg_imul dX10_savedBy_75 (pc2 := 76) rfl ?_
      refine kg_iload 5 dX10_savedBy_76 rfl (pc2 := 78) rfl ?_
      refine kg_iadd dX10_savedBy_78 (pc2 := 79) rfl ?_
      obtain ⟨q8, h⟩ := kw_chk_e h
      refine kg_lald tM_15 eM_15 q8 (j := (((12 : Int32) * v2) + v6).toNatClampNeg) rfl dX10_savedBy_79 (pc2 := 80) rfl ?_
      refine kg_ldc2 rfl lcRX10_89 dX10_savedBy_80 (pc2 := 83) rfl ?_
      refine kg_lcmp_ne 90 dX10_savedBy_83 dX10_savedBy_84 rfl (pc2 := 87) rfl (fun q9 => ?_) (fun q9 => ?_)
      · replace h := (if_neg q9).symm.trans h
        refine kg_aload_n 0 dX10_savedBy_90 rfl (pc2 := 91) rfl ?_
        refine kg_getr clX10 rfl 3 (Nat.le_of_ble_eq_true rfl) lfRX10_17 tM_0 eM_0 rfl dX10_savedBy_91 (pc2 := 94) rfl ?_
        refine kg_iload_n 1 dX10_savedBy_94 rfl (pc2 := 95) rfl ?_
        obtain ⟨q10, h⟩ := kw_chk_e h
        refine kg_lald tM_3 eM_3 q10 (j := v1.toNatClampNeg) rfl dX10_savedBy_95 (pc2 := 96) rfl ?_
        refine kg_iload_n 3 dX10_savedBy_96 rfl (pc2 := 97) rfl ?_
        refine kg_i2l dX10_savedBy_97 (pc2 := 98) rfl ?_
        refine kg_ladd dX10_savedBy_98 (pc2 := 99) rfl ?_
        refine kg_aload_n 0 dX10_savedBy_99 rfl (pc2 := 100) rfl ?_
        refine kg_getr clX10 rfl 25 (Nat.le_of_ble_eq_true rfl) lfRX10_54 tM_0 eM_0 rfl dX10_savedBy_100 (pc2 := 103) rfl ?_
        refine kg_bipush dX10_savedBy_103 kb_12 (pc2 := 105) rfl ?_
        refine kg_iload_n 2 dX10_savedBy_105 rfl (pc2 := 106) rfl ?_
        refine kg_imul dX10_savedBy_106 (pc2 := 107) rfl ?_
        refine kg_iload 5 dX10_savedBy_107 rfl (pc2 := 109) rfl ?_
        refine kg_iadd dX10_savedBy_109 (pc2 := 110) rfl ?_
        refine kg_lald tM_15 eM_15 q8 (j := (((12 : Int32) * v2) + v6).toNatClampNeg) rfl dX10_savedBy_110 (pc2 := 111) rfl ?_
        refine kg_ladd dX10_savedBy_111 (pc2 := 112) rfl ?_
        obtain ⟨x11, x11e, h⟩ := kw_let_e h
        refine kg_lstore dX10_savedBy_112 (Nat.le_of_ble_eq_true rfl) x11e (lv2 := [(7, .long x11), (0, .ref 0), (1, .int v1), (2, .int v2), (3, .int v3), (4, .long v4), (6, .int v6)]) rfl (pc2 := 114) rfl ?_
        refine kg_lload 0 dX10_savedBy_114 rfl (pc2 := 116) rfl ?_
        refine kg_aload_n 1 dX10_savedBy_116 rfl (pc2 := 117) rfl ?_
        refine kg_getr clX10 rfl 3 (Nat.le_of_ble_eq_true rfl) lfRX10_17 tM_0 eM_0 rfl dX10_savedBy_117 (pc2 := 120) rfl ?_
        refine kg_iload 6 dX10_savedBy_120 rfl (pc2 := 122) rfl ?_
        refine kg_lald tM_3 eM_3 q5 (j := v6.toNatClampNeg) rfl dX10_savedBy_122 (pc2 := 123) rfl ?_
        refine kg_lcmp_ge 142 dX10_savedBy_123 dX10_savedBy_124 rfl (pc2 := 127) rfl (fun q12 => ?_) (fun q12 => ?_)
        · replace h := (if_pos q12).symm.trans h
          obtain ⟨x13, x13e, h⟩ := kw_let_e h
          refine kg_iinc 6 dX10_savedBy_142 rfl (Nat.le_of_ble_eq_true rfl) x13e (lv2 := [(6, .int x13), (7, .long x11), (0, .ref 0), (1, .int v1), (2, .int v2), (3, .int v3), (4, .long v4)]) rfl (pc2 := 145) rfl ?_
          refine kg_goto 45 dX10_savedBy_145 rfl ?_
          refine kg_sub [2, 3, 4, 5, 6, 0] (lv2 := [(0, .ref 0), (1, .int v1), (2, .int v2), (3, .int v3), (4, .long v4), (6, .int x13)]) rfl ?_
          cases h
          exact hk
        · replace h := (if_neg q12).symm.trans h
          refine kg_lload 5 dX10_savedBy_127 rfl (pc2 := 129) rfl ?_
          refine kg_aload_n 1 dX10_savedBy_129 rfl (pc2 := 130) rfl ?_
          refine kg_getr clX10 rfl 3 (Nat.le_of_ble_eq_true rfl) lfRX10_17 tM_0 eM_0 rfl dX10_savedBy_130 (pc2 := 133) rfl ?_
          refine kg_iload 6 dX10_savedBy_133 rfl (pc2 := 135) rfl ?_
          refine kg_lald tM_3 eM_3 q5 (j := v6.toNatClampNeg) rfl dX10_savedBy_135 (pc2 := 136) rfl ?_
          refine kg_ladd dX10_savedBy_136 (pc2 := 137) rfl ?_
          refine kg_lload 0 dX10_savedBy_137 rfl (pc2 := 139) rfl ?_
          refine kg_lsub dX10_savedBy_139 (pc2 := 140) rfl ?_
          obtain ⟨x14, x14e, h⟩ := kw_let_e h
          refine kg_lstore dX10_savedBy_140 (Nat.le_of_ble_eq_true rfl) x14e (lv2 := [(4, .long x14), (7, .long x11), (0, .ref 0), (1, .int v1), (2, .int v2), (3, .int v3), (6, .int v6)]) rfl (pc2 := 142) rfl ?_
          obtain ⟨x15, x15e, h⟩ := kw_let_e h
          refine kg_iinc 6 dX10_savedBy_142 rfl (Nat.le_of_ble_eq_true rfl) x15e (lv2 := [(6, .int x15), (4, .long x14), (7, .long x11), (0, .ref 0), (1, .int v1), (2, .int v2), (3, .int v3)]) rfl (pc2 := 145) rfl ?_
          refine kg_goto 45 dX10_savedBy_145 rfl ?_
          refine kg_sub [3, 4, 5, 6, 1, 0] (lv2 := [(0, .ref 0), (1, .int v1), (2, .int v2), (3, .int v3), (4, .long x14), (6, .int x15)]) rfl ?_
          cases h
          exact hk
      · replace h := (if_pos q9).symm.trans h
        refine kg_goto 142 dX10_savedBy_87 rfl ?_
        obtain ⟨x16, x16e, h⟩ := kw_let_e h
        refine kg_iinc 5 dX10_savedBy_142 rfl (Nat.le_of_ble_eq_true rfl) x16e (lv2 := [(6, .int x16), (0, .ref 0), (1, .int v1), (2, .int v2), (3, .int v3), (4, .long v4)]) rfl (pc2 := 145) rfl ?_
        refine kg_goto 45 dX10_savedBy_145 rfl ?_
        refine kg_sub [1, 2, 3, 4, 5, 0] (lv2 := [(0, .ref 0), (1, .int v1), (2, .int v2), (3, .int v3), (4, .long v4), (6, .int x16)]) rfl ?_
        cases h
        exact hk
set_option maxHeartbeats 4000000 in
set_option maxRecDepth 100000 in
theorem gjX10_savedBy_39 {E : kw_E} {d : Nat} (v1 : Int32) (v2 : Int32) (v3 : Int32) (σ : kw_M) {r : Int64} (h : jX10_savedBy_39 v1 v2 v3 σ = some r) : kw_G E kwTM 21 (d + 1) μX10_savedBy 39 [(0, .ref 0), (1, .int v1), (2, .int v2), (3, .int v3)] [] σ (some (Value.long r)) σ := by
  unfold jX10_savedBy_39 at h
  refine kg_lconst dX10_savedBy_39 kl_0 (pc2 := 40) rfl ?_
  refine kg_lstore dX10_savedBy_40 (Nat.le_of_ble_eq_true rfl) rfl (lv2 := [(4, .long (0 : Int64)), (0, .ref 0), (1, .int v1), (2, .int v2), (3, .int v3)]) rfl (pc2 := 42) rfl ?_
  refine kg_iconst dX10_savedBy_42 ki_0 (pc2 := 43) rfl ?_
  refine kg_istore dX10_savedBy_43 (Nat.le_of_ble_eq_true rfl) rfl (lv2 := [(6, .int (0 : Int32)), (4, .long (0 : Int64)), (0, .ref 0), (1, .int v1), (2, .int v2), (3, .int v3)]) rfl (pc2 := 45) rfl ?_
  refine kg_sub [2, 3, 4, 5, 1, 0] (lv2 := [(0, .ref 0), (1, .int v1), (2, .int v2), (3, .int v3), (4, .long (0 : Int64)), (6, .int (0 : Int32))]) rfl ?_
  obtain ⟨x17, x17h, h⟩ := kw_bind_e h
  refine kw_loop_e (P := fun s => kw_G E kwTM 21 (d + 1) μX10_savedBy 45 [(0, .ref 0), (1, .int v1), (2, .int v2), (3, .int v3), (4, .long s.1), (6, .int s.2)] [] σ (some (Value.long r)) σ) (K := fun y => kw_G E kwTM 21 (d + 1) μX10_savedBy 148 [(4, .long y)] [] σ (some (Value.long r)) σ) (fun s o h0 hk => lX10_savedBy_45 v1 v2 v3 σ s.1 s.2 h0 hk) kw_F _ _ x17h ?_
  show kw_G E kwTM 21 (d + 1) μX10_savedBy 148 [(4, .long x17)] [] σ (some (Value.long r)) σ
  refine kg_lload 0 dX10_savedBy_148 rfl (pc2 := 150) rfl ?_
  cases h
  exact kg_lret dX10_savedBy_150 rfl
set_option maxHeartbeats 4000000 in
set_option maxRecDepth 100000 in
theorem gX10_savedBy {E : kw_E} {d : Nat} (a1 : Int32) (a2 : Int32) (a3 : Int32) (σ : kw_M) {r : Int64} (h : fX10_savedBy a1 a2 a3 σ = some r) : kw_Met E kwTM 21 (d + 1) μX10_savedBy [.ref 0, .int a1, .int a2, .int a3] σ (some (Value.long r)) σ := by
  refine kw_enter plRX10 (Nat.le_of_ble_eq_true rfl) ?_
  show kw_G E kwTM 21 (d + 1) μX10_savedBy 0 [(0, .ref 0), (1, .int a1), (2, .int a2), (3, .int a3)] [] σ (some (Value.long r)) σ
  unfold fX10_savedBy at h
  refine kg_aload_n 0 dX10_savedBy_0 rfl (pc2 := 1) rfl ?_
  refine kg_getr clX10 rfl 25 (Nat.le_of_ble_eq_true rfl) lfRX10_54 tM_0 eM_0 rfl dX10_savedBy_1 (pc2 := 4) rfl ?_
  refine kg_bipush dX10_savedBy_4 kb_12 (pc2 := 6) rfl ?_
  refine kg_iload_n 2 dX10_savedBy_6 rfl (pc2 := 7) rfl ?_
  refine kg_imul dX10_savedBy_7 (pc2 := 8) rfl ?_
  refine kg_iload_n 1 dX10_savedBy_8 rfl (pc2 := 9) rfl ?_
  refine kg_iadd dX10_savedBy_9 (pc2 := 10) rfl ?_
  obtain ⟨q1, h⟩ := kw_chk_e h
  refine kg_lald tM_15 eM_15 q1 (j := (((12 : Int32) * a2) + a1).toNatClampNeg) rfl dX10_savedBy_10 (pc2 := 11) rfl ?_
  refine kg_ldc2 rfl lcRX10_89 dX10_savedBy_11 (pc2 := 14) rfl ?_
  refine kg_lcmp_ge 39 dX10_savedBy_14 dX10_savedBy_15 rfl (pc2 := 18) rfl (fun q2 => ?_) (fun q2 => ?_)
  · replace h := (if_pos q2).symm.trans h
    exact gjX10_savedBy_39 a1 a2 a3 σ h
  · replace h := (if_neg q2).symm.trans h
    refine kg_aload_n 0 dX10_savedBy_18 rfl (pc2 := 19) rfl ?_
    refine kg_getr clX10 rfl 25 (Nat.le_of_ble_eq_true rfl) lfRX10_54 tM_0 eM_0 rfl dX10_savedBy_19 (pc2 := 22) rfl ?_
    refine kg_bipush dX10_savedBy_22 kb_12 (pc2 := 24) rfl ?_
    refine kg_iload_n 2 dX10_savedBy_24 rfl (pc2 := 25) rfl ?_
    refine kg_imul dX10_savedBy_25 (pc2 := 26) rfl ?_
    refine kg_iload_n 1 dX10_savedBy_26 rfl (pc2 := 27) rfl ?_
    refine kg_iadd dX10_savedBy_27 (pc2 := 28) rfl ?_
    refine kg_lald tM_15 eM_15 q1 (j := (((12 : Int32) * a2) + a1).toNatClampNeg) rfl dX10_savedBy_28 (pc2 := 29) rfl ?_
    refine kg_iload_n 3 dX10_savedBy_29 rfl (pc2 := 30) rfl ?_
    refine kg_i2l dX10_savedBy_30 (pc2 := 31) rfl ?_
    refine kg_ladd dX10_savedBy_31 (pc2 := 32) rfl ?_
    refine kg_lconst dX10_savedBy_32 kl_0 (pc2 := 33) rfl ?_
    refine kg_lcmp_gt 39 dX10_savedBy_33 dX10_savedBy_34 rfl (pc2 := 37) rfl (fun q18 => ?_) (fun q18 => ?_)
    · replace h := (if_pos q18).symm.trans h
      exact gjX10_savedBy_39 a1 a2 a3 σ h
    · replace h := (if_neg q18).symm.trans h
      refine kg_lconst dX10_savedBy_37 kl_0 (pc2 := 38) rfl ?_
      cases h
      exact kg_lret dX10_savedBy_38 rfl
