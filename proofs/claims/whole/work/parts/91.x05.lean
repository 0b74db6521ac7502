/-! The class, method by method: the machine does what f says (g). -/
set_option maxHeartbeats 4000000 in
set_option maxRecDepth 100000 in
theorem gX2_reachOf {E : kw_E} {d : Nat} (a1 : Int32) (σ : kw_M) {r : Int64} (h : fX2_reachOf a1 σ = some r) : kw_Met E kwTX 48 (d + 2) μX2_reachOf [.ref 5, .int a1] σ (some (Value.long r)) σ := by
  refine kw_enter plRX2 (Nat.le_of_ble_eq_true rfl) ?_
  show kw_G E kwTX 48 (d + 2) μX2_reachOf 0 [(0, .ref 5), (1, .int a1)] [] σ (some (Value.long r)) σ
  unfold fX2_reachOf at h
  refine kg_ldc2 rfl lcRX2_43 dX2_reachOf_0 (pc2 := 3) rfl ?_
  refine kg_lstore_n dX2_reachOf_3 rfl (Nat.le_of_ble_eq_true rfl) rfl (lv2 := [(2, .long (-9000000000000000000 : Int64)), (0, .ref 5), (1, .int a1)]) rfl (pc2 := 4) rfl ?_
  refine kg_iconst dX2_reachOf_4 ki_0 (pc2 := 5) rfl ?_
  refine kg_istore dX2_reachOf_5 (Nat.le_of_ble_eq_true rfl) rfl (lv2 := [(4, .int (0 : Int32)), (2, .long (-9000000000000000000 : Int64)), (0, .ref 5), (1, .int a1)]) rfl (pc2 := 7) rfl ?_
  refine kg_sub [2, 3, 1, 0] (lv2 := [(0, .ref 5), (1, .int a1), (2, .long (-9000000000000000000 : Int64)), (4, .int (0 : Int32))]) rfl ?_
  obtain ⟨x13, x13h, h⟩ := kw_bind_e h
  refine kw_loop_e (P := fun s => kw_G E kwTX 48 (d + 2) μX2_reachOf 7 [(0, .ref 5), (1, .int a1), (2, .long s.1), (4, .int s.2)] [] σ (some (Value.long r)) σ) (K := fun y => kw_G E kwTX 48 (d + 2) μX2_reachOf 66 [(2, .long y)] [] σ (some (Value.long r)) σ) (fun s o h0 hk => lX2_reachOf_7 a1 σ s.1 s.2 h0 hk) kw_F _ _ x13h ?_
  show kw_G E kwTX 48 (d + 2) μX2_reachOf 66 [(2, .long x13)] [] σ (some (Value.long r)) σ
  refine kg_lload_n 0 dX2_reachOf_66 rfl (pc2 := 67) rfl ?_
  cases h
  exact kg_lret dX2_reachOf_67 rfl
set_option maxHeartbeats 4000000 in
set_option maxRecDepth 100000 in
theorem lX2_middleTown_10 {E : kw_E} {d : Nat} (σ : kw_M) (v1 : Int32) (v2 : Int64) (v4 : Int32) {v : Option Value} {σ2 : kw_M} {o : (Int32 × Int64 × Int32) ⊕ (Int32)} (h : bX2_middleTown_10 σ v1 v2 v4 = some o) (hk : Sum.elim (fun s => kw_G E kwTX 48 (d + 3) μX2_middleTown 10 [(0, .ref 5), (1, .int s.1), (2, .long s.2.1), (4, .int s.2.2)] [] σ v σ2) (fun y => kw_G E kwTX 48 (d + 3) μX2_middleTown 57 [(1, .int y)] [] σ v σ2) o) : kw_G E kwTX 48 (d + 3) μX2_middleTown 10 [(0, .ref 5), (1, .int v1), (2, .long v2), (4, .int v4)] [] σ v σ2 := by
  unfold bX2_middleTown_10 at h
  refine kg_iload 3 dX2_middleTown_10 rfl (pc2 := 12) rfl ?_
  refine kg_aload_n 0 dX2_middleTown_12 rfl (pc2 := 13) rfl ?_
  refine kg_geti clX2 rfl 1 (Nat.le_of_ble_eq_true rfl) lfRX2_24 tX_5 eX_5 rfl dX2_middleTown_13 (pc2 := 16) rfl ?_
  refine kg_icmp_ge 57 dX2_middleTown_16 rfl (pc2 := 19) rfl (fun q1 => ?_) (fun q1 => ?_)
  · replace h := (if_pos q1).symm.trans h
    refine kg_sub [1] (lv2 := [(1, .int v1)]) rfl ?_
    cases h
    exact hk
  · replace h := (if_neg q1).symm.trans h
    refine kg_aload_n 0 dX2_middleTown_19 rfl (pc2 := 20) rfl ?_
    refine kg_iload 3 dX2_middleTown_20 rfl (pc2 := 22) rfl ?_
    obtain ⟨r2, r2h, h⟩ := kw_bind_e h
    refine kg_callV (μ := μX2_middleTown) (d := (d + 2)) rfl mVX2_comesToAll [.int v4] [] (gX2_comesToAll (E := E) (d := d) v4 σ r2h) rfl lmRX2_49 (ci := 2) rfl tX_5 eX_5 rfl (Nat.le_of_ble_eq_true rfl) dX2_middleTown_22 rfl (st2 := [.int r2]) rfl (pc2 := 25) rfl ?_
    refine kg_if_eq 51 dX2_middleTown_25 rfl (pc2 := 28) rfl (fun q3 => ?_) (fun q3 => ?_)
    · replace h := (if_pos q3).symm.trans h
      obtain ⟨x4, x4e, h⟩ := kw_let_e h
      refine kg_iinc 3 dX2_middleTown_51 rfl (Nat.le_of_ble_eq_true rfl) x4e (lv2 := [(4, .int x4), (0, .ref 5), (1, .int v1), (2, .long v2)]) rfl (pc2 := 54) rfl ?_
      refine kg_goto 10 dX2_middleTown_54 rfl ?_
      refine kg_sub [1, 2, 3, 0] (lv2 := [(0, .ref 5), (1, .int v1), (2, .long v2), (4, .int x4)]) rfl ?_
      cases h
      exact hk
    · replace h := (if_neg q3).symm.trans h
      refine kg_aload_n 0 dX2_middleTown_28 rfl (pc2 := 29) rfl ?_
      refine kg_iload 3 dX2_middleTown_29 rfl (pc2 := 31) rfl ?_
      obtain ⟨r5, r5h, h⟩ := kw_bind_e h
      refine kg_callV (μ := μX2_middleTown) (d := (d + 2)) rfl mVX2_reachOf [.int v4] [] (gX2_reachOf (E := E) (d := d) v4 σ r5h) rfl lmRX2_53 (ci := 2) rfl tX_5 eX_5 rfl (Nat.le_of_ble_eq_true rfl) dX2_middleTown_31 rfl (st2 := [.long r5]) rfl (pc2 := 34) rfl ?_
      refine kg_lload_n 2 dX2_middleTown_34 rfl (pc2 := 35) rfl ?_
      obtain ⟨r6, r6h, h⟩ := kw_bind_e h
      refine kg_callN (μ := μX2_middleTown) (d := (d + 2)) rfl mSX9_isLess [.long r5, .long v2] [] (gX9_isLess (E := E) (d := (d + 2)) r5 v2 σ r6h) rfl lnRX2_57 rfl (Nat.le_of_ble_eq_true rfl) dX2_middleTown_35 rfl (st2 := [.int r6]) rfl (pc2 := 38) rfl ?_
      refine kg_if_eq 51 dX2_middleTown_38 rfl (pc2 := 41) rfl (fun q7 => ?_) (fun q7 => ?_)
      · replace h := (if_pos q7).symm.trans h
        obtain ⟨x8, x8e, h⟩ := kw_let_e h
        refine kg_iinc 3 dX2_middleTown_51 rfl (Nat.le_of_ble_eq_true rfl) x8e (lv2 := [(4, .int x8), (0, .ref 5), (1, .int v1), (2, .long v2)]) rfl (pc2 := 54) rfl ?_
        refine kg_goto 10 dX2_middleTown_54 rfl ?_
        refine kg_sub [1, 2, 3, 0] (lv2 := [(0, .ref 5), (1, .int v1), (2, .long v2), (4, .int x8)]) rfl ?_
        cases h
        exact hk
      · replace h := (if_neg q7).symm.trans h
        refine kg_iload 3 dX2_middleTown_41 rfl (pc2 := 43) rfl ?_
        refine kg_istore_n dX2_middleTown_43 rfl (Nat.le_of_ble_eq_true rfl) rfl (lv2 := [(1, .int v4), (0, .ref 5), (2, .long v2), (4, .int v4)]) rfl (pc2 := 44) rfl ?_
        refine kg_aload_n 1 dX2_middleTown_44 rfl (pc2 := 45) rfl ?_
        refine kg_iload 3 dX2_middleTown_45 rfl (pc2 := 47) rfl ?_
        obtain ⟨r9, r9h, h⟩ := kw_bind_e h
        refine kg_callV (μ := μX2_middleTown) (d := (d + 2)) rfl mVX2_reachOf [.int v4] [] (gX2_reachOf (E := E) (d := d) v4 σ r9h) rfl lmRX2_53 (ci := 2) rfl tX_5 eX_5 rfl (Nat.le_of_ble_eq_true rfl) dX2_middleTown_47 rfl (st2 := [.long r9]) rfl (pc2 := 50) rfl ?_
        refine kg_lstore_n dX2_middleTown_50 rfl (Nat.le_of_ble_eq_true rfl) rfl (lv2 := [(2, .long r9), (1, .int v4), (0, .ref 5), (4, .int v4)]) rfl (pc2 := 51) rfl ?_
        obtain ⟨x10, x10e, h⟩ := kw_let_e h
        refine kg_iinc 3 dX2_middleTown_51 rfl (Nat.le_of_ble_eq_true rfl) x10e (lv2 := [(4, .int x10), (2, .long r9), (1, .int v4), (0, .ref 5)]) rfl (pc2 := 54) rfl ?_
        refine kg_goto 10 dX2_middleTown_54 rfl ?_
        refine kg_sub [3, 2, 1, 0] (lv2 := [(0, .ref 5), (1, .int v4), (2, .long r9), (4, .int x10)]) rfl ?_
        cases h
        exact hk
set_option maxHeartbeats 4000000 in
set_option maxRecDepth 100000 in
theorem gX2_middleTown {E : kw_E} {d : Nat} (σ : kw_M) {r : Int32} (h : fX2_middleTown σ = some r) : kw_Met E kwTX 48 (d + 3) μX2_middleTown [.ref 5] σ (some (Value.int r)) σ := by
  refine kw_enter plRX2 (Nat.le_of_ble_eq_true rfl) ?_
  show kw_G E kwTX 48 (d + 3) μX2_middleTown 0 [(0, .ref 5)] [] σ (some (Value.int r)) σ
  unfold fX2_middleTown at h
  refine kg_bipush dX2_middleTown_0 kb_m2 (pc2 := 2) rfl ?_
  refine kg_istore_n dX2_middleTown_2 rfl (Nat.le_of_ble_eq_true rfl) rfl (lv2 := [(1, .int (-2 : Int32)), (0, .ref 5)]) rfl (pc2 := 3) rfl ?_
  refine kg_ldc2 rfl lcRX2_43 dX2_middleTown_3 (pc2 := 6) rfl ?_
  refine kg_lstore_n dX2_middleTown_6 rfl (Nat.le_of_ble_eq_true rfl) rfl (lv2 := [(2, .long (-9000000000000000000 : Int64)), (1, .int (-2 : Int32)), (0, .ref 5)]) rfl (pc2 := 7) rfl ?_
  refine kg_iconst dX2_middleTown_7 ki_0 (pc2 := 8) rfl ?_
  refine kg_istore dX2_middleTown_8 (Nat.le_of_ble_eq_true rfl) rfl (lv2 := [(4, .int (0 : Int32)), (2, .long (-9000000000000000000 : Int64)), (1, .int (-2 : Int32)), (0, .ref 5)]) rfl (pc2 := 10) rfl ?_
  refine kg_sub [3, 2, 1, 0] (lv2 := [(0, .ref 5), (1, .int (-2 : Int32)), (2, .long (-9000000000000000000 : Int64)), (4, .int (0 : Int32))]) rfl ?_
  obtain ⟨x11, x11h, h⟩ := kw_bind_e h
  refine kw_loop_e (P := fun s => kw_G E kwTX 48 (d + 3) μX2_middleTown 10 [(0, .ref 5), (1, .int s.1), (2, .long s.2.1), (4, .int s.2.2)] [] σ (some (Value.int r)) σ) (K := fun y => kw_G E kwTX 48 (d + 3) μX2_middleTown 57 [(1, .int y)] [] σ (some (Value.int r)) σ) (fun s o h0 hk => lX2_middleTown_10 σ s.1 s.2.1 s.2.2 h0 hk) kw_F _ _ x11h ?_
  show kw_G E kwTX 48 (d + 3) μX2_middleTown 57 [(1, .int x11)] [] σ (some (Value.int r)) σ
  refine kg_iload_n 0 dX2_middleTown_57 rfl (pc2 := 58) rfl ?_
  cases h
  exact kg_iret (ty := .int) dX2_middleTown_58 rfl rfl
set_option maxHeartbeats 4000000 in
set_option maxRecDepth 100000 in
theorem gX9_count {E : kw_E} {d : Nat} (a1 : Int32) (σ : kw_M) {r : Int32 × kw_M} (h : fX9_count a1 σ = some r) : kw_Met E kwTX 48 (d + 4) μX9_count [.ref 0, .int a1] σ (some (Value.int r.1)) r.2 := by
  refine kw_enter plRX9 (Nat.le_of_ble_eq_true rfl) ?_
  show kw_G E kwTX 48 (d + 4) μX9_count 0 [(0, .ref 0), (1, .int a1)] [] σ (some (Value.int r.1)) r.2
  unfold fX9_count at h
  refine kg_iload_n 1 dX9_count_0 rfl (pc2 := 1) rfl ?_
  by_cases q1 : a1 = (0 : Int32)
  · replace h := (if_pos q1).symm.trans h
    refine kg_tsIn (off := 71) 72 dX9_count_1 (by rw [q1]; decide) (by rw [q1]; decide) (by rw [q1]; decide) rfl ?_
    refine kg_aload_n 0 dX9_count_72 rfl (pc2 := 73) rfl ?_
    refine kg_getr clX9 rfl 0 (Nat.le_of_ble_eq_true rfl) lfRX9_10 tX_0 eX_0 rfl dX9_count_73 (pc2 := 76) rfl ?_
    refine kg_getr clX7 rfl 0 (Nat.le_of_ble_eq_true rfl) lfRX9_148 tX_1 eX_1 rfl dX9_count_76 (pc2 := 79) rfl ?_
    refine kg_geti clX4 rfl 0 (Nat.le_of_ble_eq_true rfl) lfRX9_151 tX_12 eX_12 rfl dX9_count_79 (pc2 := 82) rfl ?_
    cases h
    exact kg_iret (ty := .int) dX9_count_82 rfl rfl
  · replace h := (if_neg q1).symm.trans h
    by_cases q2 : a1 = (1 : Int32)
    · replace h := (if_pos q2).symm.trans h
      refine kg_tsIn (off := 82) 83 dX9_count_1 (by rw [q2]; decide) (by rw [q2]; decide) (by rw [q2]; decide) rfl ?_
      refine kg_aload_n 0 dX9_count_83 rfl (pc2 := 84) rfl ?_
      refine kg_getr clX9 rfl 0 (Nat.le_of_ble_eq_true rfl) lfRX9_10 tX_0 eX_0 rfl dX9_count_84 (pc2 := 87) rfl ?_
      refine kg_getr clX7 rfl 0 (Nat.le_of_ble_eq_true rfl) lfRX9_148 tX_1 eX_1 rfl dX9_count_87 (pc2 := 90) rfl ?_
      refine kg_geti clX4 rfl 1 (Nat.le_of_ble_eq_true rfl) lfRX9_182 tX_12 eX_12 rfl dX9_count_90 (pc2 := 93) rfl ?_
      cases h
      exact kg_iret (ty := .int) dX9_count_93 rfl rfl
    · replace h := (if_neg q2).symm.trans h
      by_cases q3 : a1 = (2 : Int32)
      · replace h := (if_pos q3).symm.trans h
        refine kg_tsIn (off := 93) 94 dX9_count_1 (by rw [q3]; decide) (by rw [q3]; decide) (by rw [q3]; decide) rfl ?_
        refine kg_aload_n 0 dX9_count_94 rfl (pc2 := 95) rfl ?_
        refine kg_getr clX9 rfl 0 (Nat.le_of_ble_eq_true rfl) lfRX9_10 tX_0 eX_0 rfl dX9_count_95 (pc2 := 98) rfl ?_
        refine kg_getr clX7 rfl 0 (Nat.le_of_ble_eq_true rfl) lfRX9_148 tX_1 eX_1 rfl dX9_count_98 (pc2 := 101) rfl ?_
        refine kg_getl clX4 rfl 2 (Nat.le_of_ble_eq_true rfl) lfRX9_219 tX_12 eX_12 rfl dX9_count_101 (pc2 := 104) rfl ?_
        obtain ⟨r4, r4h, h⟩ := kw_bind_e h
        refine kg_callS (μ := μX9_count) (d := (d + 3)) rfl mSJ13_bitCount_95d88 [.long (σ.2 12 2)] [] (gXJ13_bitCount_95d88 (E := E) (d := (d + 3)) (σ.2 12 2) σ r4h) rfl lmRX9_223 rfl (Nat.le_of_ble_eq_true rfl) dX9_count_104 rfl (st2 := [.int r4]) rfl (pc2 := 107) rfl ?_
        cases h
        exact kg_iret (ty := .int) dX9_count_107 rfl rfl
      · replace h := (if_neg q3).symm.trans h
        by_cases q5 : a1 = (3 : Int32)
        · replace h := (if_pos q5).symm.trans h
          refine kg_tsIn (off := 107) 108 dX9_count_1 (by rw [q5]; decide) (by rw [q5]; decide) (by rw [q5]; decide) rfl ?_
          refine kg_aload_n 0 dX9_count_108 rfl (pc2 := 109) rfl ?_
          refine kg_getr clX9 rfl 0 (Nat.le_of_ble_eq_true rfl) lfRX9_10 tX_0 eX_0 rfl dX9_count_109 (pc2 := 112) rfl ?_
          refine kg_geti clX7 rfl 2 (Nat.le_of_ble_eq_true rfl) lfRX9_189 tX_1 eX_1 rfl dX9_count_112 (pc2 := 115) rfl ?_
          cases h
          exact kg_iret (ty := .int) dX9_count_115 rfl rfl
        · replace h := (if_neg q5).symm.trans h
          by_cases q6 : a1 = (4 : Int32)
          · replace h := (if_pos q6).symm.trans h
            refine kg_tsIn (off := 115) 116 dX9_count_1 (by rw [q6]; decide) (by rw [q6]; decide) (by rw [q6]; decide) rfl ?_
            refine kg_aload_n 0 dX9_count_116 rfl (pc2 := 117) rfl ?_
            refine kg_getr clX9 rfl 0 (Nat.le_of_ble_eq_true rfl) lfRX9_10 tX_0 eX_0 rfl dX9_count_117 (pc2 := 120) rfl ?_
            refine kg_geti clX7 rfl 7 (Nat.le_of_ble_eq_true rfl) lfRX9_214 tX_1 eX_1 rfl dX9_count_120 (pc2 := 123) rfl ?_
            cases h
            exact kg_iret (ty := .int) dX9_count_123 rfl rfl
          · replace h := (if_neg q6).symm.trans h
            by_cases q7 : a1 = (5 : Int32)
            · replace h := (if_pos q7).symm.trans h
              refine kg_tsIn (off := 123) 124 dX9_count_1 (by rw [q7]; decide) (by rw [q7]; decide) (by rw [q7]; decide) rfl ?_
              refine kg_aload_n 0 dX9_count_124 rfl (pc2 := 125) rfl ?_
              refine kg_getr clX9 rfl 0 (Nat.le_of_ble_eq_true rfl) lfRX9_10 tX_0 eX_0 rfl dX9_count_125 (pc2 := 128) rfl ?_
              refine kg_geti clX7 rfl 3 (Nat.le_of_ble_eq_true rfl) lfRX9_229 tX_1 eX_1 rfl dX9_count_128 (pc2 := 131) rfl ?_
              cases h
              exact kg_iret (ty := .int) dX9_count_131 rfl rfl
            · replace h := (if_neg q7).symm.trans h
              by_cases q8 : a1 = (6 : Int32)
              · replace h := (if_pos q8).symm.trans h
                refine kg_tsIn (off := 131) 132 dX9_count_1 (by rw [q8]; decide) (by rw [q8]; decide) (by rw [q8]; decide) rfl ?_
                refine kg_aload_n 0 dX9_count_132 rfl (pc2 := 133) rfl ?_
                refine kg_getr clX9 rfl 0 (Nat.le_of_ble_eq_true rfl) lfRX9_10 tX_0 eX_0 rfl dX9_count_133 (pc2 := 136) rfl ?_
                obtain ⟨r9, r9h, h⟩ := kw_bind_e h
                refine kg_callV (μ := μX9_count) (d := (d + 3)) rfl mVX7_settledCount [] [] (gX7_settledCount (E := E) (d := (d + 2)) σ r9h) rfl lmRX9_232 (ci := 7) rfl tX_1 eX_1 rfl (Nat.le_of_ble_eq_true rfl) dX9_count_136 rfl (st2 := [.int r9]) rfl (pc2 := 139) rfl ?_
                cases h
                exact kg_iret (ty := .int) dX9_count_139 rfl rfl
              · replace h := (if_neg q8).symm.trans h
                by_cases q10 : a1 = (7 : Int32)
                · replace h := (if_pos q10).symm.trans h
                  refine kg_tsIn (off := 139) 140 dX9_count_1 (by rw [q10]; decide) (by rw [q10]; decide) (by rw [q10]; decide) rfl ?_
                  refine kg_aload_n 0 dX9_count_140 rfl (pc2 := 141) rfl ?_
                  refine kg_getr clX9 rfl 0 (Nat.le_of_ble_eq_true rfl) lfRX9_10 tX_0 eX_0 rfl dX9_count_141 (pc2 := 144) rfl ?_
                  obtain ⟨r11, r11h, h⟩ := kw_bind_e h
                  refine kg_callV (μ := μX9_count) (d := (d + 3)) rfl mVX7_tightCount [] [] (gX7_tightCount (E := E) (d := (d + 1)) σ r11h) rfl lmRX9_235 (ci := 7) rfl tX_1 eX_1 rfl (Nat.le_of_ble_eq_true rfl) dX9_count_144 rfl (st2 := [.int r11]) rfl (pc2 := 147) rfl ?_
                  cases h
                  exact kg_iret (ty := .int) dX9_count_147 rfl rfl
                · replace h := (if_neg q10).symm.trans h
                  by_cases q12 : a1 = (8 : Int32)
                  · replace h := (if_pos q12).symm.trans h
                    refine kg_tsIn (off := 147) 148 dX9_count_1 (by rw [q12]; decide) (by rw [q12]; decide) (by rw [q12]; decide) rfl ?_
                    refine kg_aload_n 0 dX9_count_148 rfl (pc2 := 149) rfl ?_
                    refine kg_getr clX9 rfl 0 (Nat.le_of_ble_eq_true rfl) lfRX9_10 tX_0 eX_0 rfl dX9_count_149 (pc2 := 152) rfl ?_
                    refine kg_getr clX7 rfl 1 (Nat.le_of_ble_eq_true rfl) lfRX9_238 tX_1 eX_1 rfl dX9_count_152 (pc2 := 155) rfl ?_
                    refine kg_geti clX0 rfl 0 (Nat.le_of_ble_eq_true rfl) lfRX9_242 tX_13 eX_13 rfl dX9_count_155 (pc2 := 158) rfl ?_
                    cases h
                    exact kg_iret (ty := .int) dX9_count_158 rfl rfl
                  · replace h := (if_neg q12).symm.trans h
                    by_cases q13 : a1 = (9 : Int32)
                    · replace h := (if_pos q13).symm.trans h
                      refine kg_tsIn (off := 158) 159 dX9_count_1 (by rw [q13]; decide) (by rw [q13]; decide) (by rw [q13]; decide) rfl ?_
                      refine kg_aload_n 0 dX9_count_159 rfl (pc2 := 160) rfl ?_
                      refine kg_getr clX9 rfl 0 (Nat.le_of_ble_eq_true rfl) lfRX9_10 tX_0 eX_0 rfl dX9_count_160 (pc2 := 163) rfl ?_
                      refine kg_geti clX7 rfl 5 (Nat.le_of_ble_eq_true rfl) lfRX9_245 tX_1 eX_1 rfl dX9_count_163 (pc2 := 166) rfl ?_
                      cases h
                      exact kg_iret (ty := .int) dX9_count_166 rfl rfl
                    · replace h := (if_neg q13).symm.trans h
                      by_cases q14 : a1 = (10 : Int32)
                      · replace h := (if_pos q14).symm.trans h
                        refine kg_tsIn (off := 166) 167 dX9_count_1 (by rw [q14]; decide) (by rw [q14]; decide) (by rw [q14]; decide) rfl ?_
                        refine kg_aload_n 0 dX9_count_167 rfl (pc2 := 168) rfl ?_
                        refine kg_getr clX9 rfl 0 (Nat.le_of_ble_eq_true rfl) lfRX9_10 tX_0 eX_0 rfl dX9_count_168 (pc2 := 171) rfl ?_
                        obtain ⟨r15, r15h, h⟩ := kw_bind_e h
                        refine kg_callV (μ := μX9_count) (d := (d + 3)) rfl mVX7_beyondBits [] [] (gX7_beyondBits (E := E) (d := (d + 2)) σ r15h) rfl lmRX9_248 (ci := 7) rfl tX_1 eX_1 rfl (Nat.le_of_ble_eq_true rfl) dX9_count_171 rfl (st2 := [.int r15]) rfl (pc2 := 174) rfl ?_
                        cases h
                        exact kg_iret (ty := .int) dX9_count_174 rfl rfl
                      · replace h := (if_neg q14).symm.trans h
                        by_cases q16 : a1 = (11 : Int32)
                        · replace h := (if_pos q16).symm.trans h
                          refine kg_tsIn (off := 174) 175 dX9_count_1 (by rw [q16]; decide) (by rw [q16]; decide) (by rw [q16]; decide) rfl ?_
                          refine kg_aload_n 0 dX9_count_175 rfl (pc2 := 176) rfl ?_
                          obtain ⟨r17, r17h, h⟩ := kw_bind_e h
                          refine kg_callV (μ := μX9_count) (d := (d + 3)) rfl mVX9_rightPairs [] [] (gX9_rightPairs (E := E) (d := d) σ r17h) rfl lmRX9_251 (ci := 9) rfl tX_0 eX_0 rfl (Nat.le_of_ble_eq_true rfl) dX9_count_176 rfl (st2 := [.ref 5]) rfl (pc2 := 179) rfl ?_
                          obtain ⟨r18, r18h, h⟩ := kw_bind_e h
                          refine kg_callV (μ := μX9_count) (d := (d + 3)) rfl mVX2_middleTown [] [] (gX2_middleTown (E := E) (d := d) r17 r18h) rfl lmRX9_255 (ci := 2) rfl tX_5 eX_5 rfl (Nat.le_of_ble_eq_true rfl) dX9_count_179 rfl (st2 := [.int r18]) rfl (pc2 := 182) rfl ?_
                          cases h
                          exact kg_iret (ty := .int) dX9_count_182 rfl rfl
                        · replace h := (if_neg q16).symm.trans h
                          by_cases q19 : a1 = (12 : Int32)
                          · replace h := (if_pos q19).symm.trans h
                            refine kg_tsIn (off := 182) 183 dX9_count_1 (by rw [q19]; decide) (by rw [q19]; decide) (by rw [q19]; decide) rfl ?_
                            refine kg_aload_n 0 dX9_count_183 rfl (pc2 := 184) rfl ?_
                            refine kg_getr clX9 rfl 3 (Nat.le_of_ble_eq_true rfl) lfRX9_22 tX_0 eX_0 rfl dX9_count_184 (pc2 := 187) rfl ?_
                            refine kg_geti clX8 rfl 0 (Nat.le_of_ble_eq_true rfl) lfRX9_79 tX_3 eX_3 rfl dX9_count_187 (pc2 := 190) rfl ?_
                            cases h
                            exact kg_iret (ty := .int) dX9_count_190 rfl rfl
                          · replace h := (if_neg q19).symm.trans h
                            by_cases q20 : a1 = (13 : Int32)
                            · replace h := (if_pos q20).symm.trans h
                              refine kg_tsIn (off := 190) 191 dX9_count_1 (by rw [q20]; decide) (by rw [q20]; decide) (by rw [q20]; decide) rfl ?_
                              refine kg_aload_n 0 dX9_count_191 rfl (pc2 := 192) rfl ?_
                              refine kg_getr clX9 rfl 0 (Nat.le_of_ble_eq_true rfl) lfRX9_10 tX_0 eX_0 rfl dX9_count_192 (pc2 := 195) rfl ?_
                              refine kg_geti clX7 rfl 4 (Nat.le_of_ble_eq_true rfl) lfRX9_258 tX_1 eX_1 rfl dX9_count_195 (pc2 := 198) rfl ?_
                              cases h
                              exact kg_iret (ty := .int) dX9_count_198 rfl rfl
                            · replace h := (if_neg q20).symm.trans h
                              refine kg_tsOut 199 dX9_count_1 (by have a0 := kw_neI (n := 0) (by decide) q1; have a1 := kw_neI (n := 1) (by decide) q2; have a2 := kw_neI (n := 2) (by decide) q3; have a3 := kw_neI (n := 3) (by decide) q5; have a4 := kw_neI (n := 4) (by decide) q6; have a5 := kw_neI (n := 5) (by decide) q7; have a6 := kw_neI (n := 6) (by decide) q8; have a7 := kw_neI (n := 7) (by decide) q10; have a8 := kw_neI (n := 8) (by decide) q12; have a9 := kw_neI (n := 9) (by decide) q13; have a10 := kw_neI (n := 10) (by decide) q14; have a11 := kw_neI (n := 11) (by decide) q16; have a12 := kw_neI (n := 12) (by decide) q19; have a13 := kw_neI (n := 13) (by decide) q20; omega) rfl ?_
                              refine kg_iconst dX9_count_199 ki_m1 (pc2 := 200) rfl ?_
                              cases h
                              exact kg_iret (ty := .int) dX9_count_200 rfl rfl
set_option maxHeartbeats 4000000 in
set_option maxRecDepth 100000 in
theorem gX9_road {E : kw_E} {d : Nat} (a1 : Int32) (a2 : Int32) (σ : kw_M) {r : Int64} (h : fX9_road a1 a2 σ = some r) : kw_Met E kwTX 48 (d + 2) μX9_road [.ref 0, .int a1, .int a2] σ (some (Value.long r)) σ := by
  refine kw_enter plRX9 (Nat.le_of_ble_eq_true rfl) ?_
  show kw_G E kwTX 48 (d + 2) μX9_road 0 [(0, .ref 0), (1, .int a1), (2, .int a2)] [] σ (some (Value.long r)) σ
  unfold fX9_road at h
  refine kg_aload_n 0 dX9_road_0 rfl (pc2 := 1) rfl ?_
  refine kg_getr clX9 rfl 0 (Nat.le_of_ble_eq_true rfl) lfRX9_10 tX_0 eX_0 rfl dX9_road_1 (pc2 := 4) rfl ?_
  refine kg_getr clX7 rfl 0 (Nat.le_of_ble_eq_true rfl) lfRX9_148 tX_1 eX_1 rfl dX9_road_4 (pc2 := 7) rfl ?_
  refine kg_astore_n dX9_road_7 rfl (Nat.le_of_ble_eq_true rfl) rfl (lv2 := [(3, .ref 12), (0, .ref 0), (1, .int a1), (2, .int a2)]) rfl (pc2 := 8) rfl ?_
  refine kg_aload_n 0 dX9_road_8 rfl (pc2 := 9) rfl ?_
  refine kg_iload_n 2 dX9_road_9 rfl (pc2 := 10) rfl ?_
  obtain ⟨r1, r1h, h⟩ := kw_bind_e h
  refine kg_callV (μ := μX9_road) (d := (d + 1)) rfl mVX4_hasRoad [.int a1] [] (gX4_hasRoad (E := E) (d := (d + 1)) a1 σ r1h) rfl lmRX9_195 (ci := 4) rfl tX_12 eX_12 rfl (Nat.le_of_ble_eq_true rfl) dX9_road_10 rfl (st2 := [.int r1]) rfl (pc2 := 13) rfl ?_
  refine kg_if_ne 20 dX9_road_13 rfl (pc2 := 16) rfl (fun q2 => ?_) (fun q2 => ?_)
  · replace h := (if_neg q2).symm.trans h
    refine kg_iload_n 3 dX9_road_20 rfl (pc2 := 21) rfl ?_
    by_cases q3 : a2 = (0 : Int32)
    · replace h := (if_pos q3).symm.trans h
      refine kg_tsIn (off := 39) 60 dX9_road_21 (by rw [q3]; decide) (by rw [q3]; decide) (by rw [q3]; decide) rfl ?_
      refine kg_aload_n 0 dX9_road_60 rfl (pc2 := 61) rfl ?_
      refine kg_getr clX4 rfl 3 (Nat.le_of_ble_eq_true rfl) lfRX9_263 tX_12 eX_12 rfl dX9_road_61 (pc2 := 64) rfl ?_
      refine kg_iload_n 2 dX9_road_64 rfl (pc2 := 65) rfl ?_
      obtain ⟨q4, h⟩ := kw_chk_e h
      refine kg_iald tX_18 eX_18 q4 (j := a1.toNatClampNeg) rfl dX9_road_65 (pc2 := 66) rfl ?_
      refine kg_i2l dX9_road_66 (pc2 := 67) rfl ?_
      cases h
      exact kg_lret dX9_road_67 rfl
    · replace h := (if_neg q3).symm.trans h
      by_cases q5 : a2 = (1 : Int32)
      · replace h := (if_pos q5).symm.trans h
        refine kg_tsIn (off := 47) 68 dX9_road_21 (by rw [q5]; decide) (by rw [q5]; decide) (by rw [q5]; decide) rfl ?_
        refine kg_aload_n 0 dX9_road_68 rfl (pc2 := 69) rfl ?_
        refine kg_getr clX4 rfl 4 (Nat.le_of_ble_eq_true rfl) lfRX9_266 tX_12 eX_12 rfl dX9_road_69 (pc2 := 72) rfl ?_
        refine kg_iload_n 2 dX9_road_72 rfl (pc2 := 73) rfl ?_
        obtain ⟨q6, h⟩ := kw_chk_e h
        refine kg_iald tX_19 eX_19 q6 (j := a1.toNatClampNeg) rfl dX9_road_73 (pc2 := 74) rfl ?_
        refine kg_i2l dX9_road_74 (pc2 := 75) rfl ?_
        cases h
        exact kg_lret dX9_road_75 rfl
      · replace h := (if_neg q5).symm.trans h
        by_cases q7 : a2 = (2 : Int32)
        · replace h := (if_pos q7).symm.trans h
          refine kg_tsIn (off := 55) 76 dX9_road_21 (by rw [q7]; decide) (by rw [q7]; decide) (by rw [q7]; decide) rfl ?_
          refine kg_aload_n 0 dX9_road_76 rfl (pc2 := 77) rfl ?_
          refine kg_getr clX4 rfl 5 (Nat.le_of_ble_eq_true rfl) lfRX9_198 tX_12 eX_12 rfl dX9_road_77 (pc2 := 80) rfl ?_
          refine kg_iload_n 2 dX9_road_80 rfl (pc2 := 81) rfl ?_
          obtain ⟨q8, h⟩ := kw_chk_e h
          refine kg_iald tX_20 eX_20 q8 (j := a1.toNatClampNeg) rfl dX9_road_81 (pc2 := 82) rfl ?_
          refine kg_i2l dX9_road_82 (pc2 := 83) rfl ?_
          cases h
          exact kg_lret dX9_road_83 rfl
        · replace h := (if_neg q7).symm.trans h
          by_cases q9 : a2 = (3 : Int32)
          · replace h := (if_pos q9).symm.trans h
            refine kg_tsIn (off := 63) 84 dX9_road_21 (by rw [q9]; decide) (by rw [q9]; decide) (by rw [q9]; decide) rfl ?_
            refine kg_aload_n 0 dX9_road_84 rfl (pc2 := 85) rfl ?_
            refine kg_iload_n 2 dX9_road_85 rfl (pc2 := 86) rfl ?_
            obtain ⟨r10, r10h, h⟩ := kw_bind_e h
            refine kg_callV (μ := μX9_road) (d := (d + 1)) rfl mVX4_isOpen [.int a1] [] (gX4_isOpen (E := E) (d := (d + 1)) 12 kx_4_12 a1 σ r10h) rfl lmRX9_201 (ci := 4) rfl tX_12 eX_12 rfl (Nat.le_of_ble_eq_true rfl) dX9_road_86 rfl (st2 := [.int r10]) rfl (pc2 := 89) rfl ?_
            refine kg_if_eq 96 dX9_road_89 rfl (pc2 := 92) rfl (fun q11 => ?_) (fun q11 => ?_)
            · replace h := (if_pos q11).symm.trans h
              refine kg_lconst dX9_road_96 kl_0 (pc2 := 97) rfl ?_
              cases h
              exact kg_lret dX9_road_97 rfl
            · replace h := (if_neg q11).symm.trans h
              refine kg_lconst dX9_road_92 kl_1 (pc2 := 93) rfl ?_
              refine kg_goto 97 dX9_road_93 rfl ?_
              cases h
              exact kg_lret dX9_road_97 rfl
          · replace h := (if_neg q9).symm.trans h
            by_cases q12 : a2 = (4 : Int32)
            · replace h := (if_pos q12).symm.trans h
              refine kg_tsIn (off := 77) 98 dX9_road_21 (by rw [q12]; decide) (by rw [q12]; decide) (by rw [q12]; decide) rfl ?_
              refine kg_aload_n 1 dX9_road_98 rfl (pc2 := 99) rfl ?_
              refine kg_getr clX9 rfl 0 (Nat.le_of_ble_eq_true rfl) lfRX9_10 tX_0 eX_0 rfl dX9_road_99 (pc2 := 102) rfl ?_
              refine kg_iload_n 2 dX9_road_102 rfl (pc2 := 103) rfl ?_
              obtain ⟨r13, r13h, h⟩ := kw_bind_e h
              refine kg_callV (μ := μX9_road) (d := (d + 1)) rfl mVX7_isTight [.int a1] [] (gX7_isTight (E := E) (d := d) a1 σ r13h) rfl lmRX9_269 (ci := 7) rfl tX_1 eX_1 rfl (Nat.le_of_ble_eq_true rfl) dX9_road_103 rfl (st2 := [.int r13]) rfl (pc2 := 106) rfl ?_
              refine kg_if_eq 113 dX9_road_106 rfl (pc2 := 109) rfl (fun q14 => ?_) (fun q14 => ?_)
              · replace h := (if_pos q14).symm.trans h
                refine kg_lconst dX9_road_113 kl_0 (pc2 := 114) rfl ?_
                cases h
                exact kg_lret dX9_road_114 rfl
              · replace h := (if_neg q14).symm.trans h
                refine kg_lconst dX9_road_109 kl_1 (pc2 := 110) rfl ?_
                refine kg_goto 114 dX9_road_110 rfl ?_
                cases h
                exact kg_lret dX9_road_114 rfl
            · replace h := (if_neg q12).symm.trans h
              by_cases q15 : a2 = (5 : Int32)
              · replace h := (if_pos q15).symm.trans h
                refine kg_tsIn (off := 94) 115 dX9_road_21 (by rw [q15]; decide) (by rw [q15]; decide) (by rw [q15]; decide) rfl ?_
                refine kg_aload_n 1 dX9_road_115 rfl (pc2 := 116) rfl ?_
                refine kg_getr clX9 rfl 0 (Nat.le_of_ble_eq_true rfl) lfRX9_10 tX_0 eX_0 rfl dX9_road_116 (pc2 := 119) rfl ?_
                refine kg_getr clX7 rfl 10 (Nat.le_of_ble_eq_true rfl) lfRX9_272 tX_1 eX_1 rfl dX9_road_119 (pc2 := 122) rfl ?_
                refine kg_aload_n 0 dX9_road_122 rfl (pc2 := 123) rfl ?_
                refine kg_getr clX4 rfl 4 (Nat.le_of_ble_eq_true rfl) lfRX9_266 tX_12 eX_12 rfl dX9_road_123 (pc2 := 126) rfl ?_
                refine kg_iload_n 2 dX9_road_126 rfl (pc2 := 127) rfl ?_
                obtain ⟨q16, h⟩ := kw_chk_e h
                refine kg_iald tX_19 eX_19 q16 (j := a1.toNatClampNeg) rfl dX9_road_127 (pc2 := 128) rfl ?_
                obtain ⟨q17, h⟩ := kw_chk_e h
                refine kg_iald tX_17 eX_17 q17 (j := (σ.1 19 a1.toNatClampNeg).toNatClampNeg) rfl dX9_road_128 (pc2 := 129) rfl ?_
                refine kg_iload_n 2 dX9_road_129 rfl (pc2 := 130) rfl ?_
                refine kg_icmp_ne 137 dX9_road_130 rfl (pc2 := 133) rfl (fun q18 => ?_) (fun q18 => ?_)
                · replace h := (if_neg q18).symm.trans h
                  refine kg_lconst dX9_road_137 kl_0 (pc2 := 138) rfl ?_
                  cases h
                  exact kg_lret dX9_road_138 rfl
                · replace h := (if_pos q18).symm.trans h
                  refine kg_lconst dX9_road_133 kl_1 (pc2 := 134) rfl ?_
                  refine kg_goto 138 dX9_road_134 rfl ?_
                  cases h
                  exact kg_lret dX9_road_138 rfl
              · replace h := (if_neg q15).symm.trans h
                refine kg_tsOut 139 dX9_road_21 (by have a0 := kw_neI (n := 0) (by decide) q3; have a1 := kw_neI (n := 1) (by decide) q5; have a2 := kw_neI (n := 2) (by decide) q7; have a3 := kw_neI (n := 3) (by decide) q9; have a4 := kw_neI (n := 4) (by decide) q12; have a5 := kw_neI (n := 5) (by decide) q15; omega) rfl ?_
                refine kg_ldc2 rfl lcRX9_261 dX9_road_139 (pc2 := 142) rfl ?_
                cases h
                exact kg_lret dX9_road_142 rfl
  · replace h := (if_pos q2).symm.trans h
    refine kg_ldc2 rfl lcRX9_261 dX9_road_16 (pc2 := 19) rfl ?_
    cases h
    exact kg_lret dX9_road_19 rfl
set_option maxHeartbeats 4000000 in
set_option maxRecDepth 100000 in
theorem lX7_tightTo_4 {E : kw_E} {d : Nat} (v1 : Int32) (σ : kw_M) (v2 : Int32) (v3 : Int32) {v : Option Value} {σ2 : kw_M} {o : (Int32 × Int32) ⊕ (Int32)} (h : bX7_tightTo_4 v1 σ v2 v3 = some o) (hk : Sum.elim (fun s => kw_G E kwTX 48 (d + 2) μX7_tightTo 4 [(0, .ref 1), (1, .int v1), (2, .int s.1), (3, .int s.2)] [] σ v σ2) (fun y => kw_G E kwTX 48 (d + 2) μX7_tightTo 45 [(2, .int y)] [] σ v σ2) o) : kw_G E kwTX 48 (d + 2) μX7_tightTo 4 [(0, .ref 1), (1, .int v1), (2, .int v2), (3, .int v3)] [] σ v σ2 := by
  unfold bX7_tightTo_4 at h
  refine kg_iload_n 3 dX7_tightTo_4 rfl (pc2 := 5) rfl ?_
  refine kg_aload_n 0 dX7_tightTo_5 rfl (pc2 := 6) rfl ?_
  refine kg_getr clX7 rfl 0 (Nat.le_of_ble_eq_true rfl) lfRX7_12 tX_1 eX_1 rfl dX7_tightTo_6 (pc2 := 9) rfl ?_
  refine kg_geti clX4 rfl 1 (Nat.le_of_ble_eq_true rfl) lfRX7_120 tX_12 eX_12 rfl dX7_tightTo_9 (pc2 := 12) rfl ?_
  refine kg_icmp_ge 45 dX7_tightTo_12 rfl (pc2 := 15) rfl (fun q1 => ?_) (fun q1 => ?_)
  · replace h := (if_pos q1).symm.trans h
    refine kg_sub [2] (lv2 := [(2, .int v2)]) rfl ?_
    cases h
    exact hk
  · replace h := (if_neg q1).symm.trans h
    refine kg_aload_n 0 dX7_tightTo_15 rfl (pc2 := 16) rfl ?_
    refine kg_getr clX7 rfl 0 (Nat.le_of_ble_eq_true rfl) lfRX7_12 tX_1 eX_1 rfl dX7_tightTo_16 (pc2 := 19) rfl ?_
    refine kg_getr clX4 rfl 4 (Nat.le_of_ble_eq_true rfl) lfRX7_126 tX_12 eX_12 rfl dX7_tightTo_19 (pc2 := 22) rfl ?_
    refine kg_iload_n 3 dX7_tightTo_22 rfl (pc2 := 23) rfl ?_
    obtain ⟨q2, h⟩ := kw_chk_e h
    refine kg_iald tX_19 eX_19 q2 (j := v3.toNatClampNeg) rfl dX7_tightTo_23 (pc2 := 24) rfl ?_
    refine kg_iload_n 1 dX7_tightTo_24 rfl (pc2 := 25) rfl ?_
    refine kg_icmp_ne 39 dX7_tightTo_25 rfl (pc2 := 28) rfl (fun q3 => ?_) (fun q3 => ?_)
    · replace h := (if_neg q3).symm.trans h
      obtain ⟨x4, x4e, h⟩ := kw_let_e h
      refine kg_iinc 3 dX7_tightTo_39 rfl (Nat.le_of_ble_eq_true rfl) x4e (lv2 := [(3, .int x4), (0, .ref 1), (1, .int v1), (2, .int v2)]) rfl (pc2 := 42) rfl ?_
      refine kg_goto 4 dX7_tightTo_42 rfl ?_
      refine kg_sub [1, 2, 3, 0] (lv2 := [(0, .ref 1), (1, .int v1), (2, .int v2), (3, .int x4)]) rfl ?_
      cases h
      exact hk
    · replace h := (if_pos q3).symm.trans h
      refine kg_aload_n 0 dX7_tightTo_28 rfl (pc2 := 29) rfl ?_
      refine kg_iload_n 3 dX7_tightTo_29 rfl (pc2 := 30) rfl ?_
      obtain ⟨r5, r5h, h⟩ := kw_bind_e h
      refine kg_callV (μ := μX7_tightTo) (d := (d + 1)) rfl mVX7_isTight [.int v3] [] (gX7_isTight (E := E) (d := d) v3 σ r5h) rfl lmRX7_123 (ci := 7) rfl tX_1 eX_1 rfl (Nat.le_of_ble_eq_true rfl) dX7_tightTo_30 rfl (st2 := [.int r5]) rfl (pc2 := 33) rfl ?_
      refine kg_if_eq 39 dX7_tightTo_33 rfl (pc2 := 36) rfl (fun q6 => ?_) (fun q6 => ?_)
      · replace h := (if_pos q6).symm.trans h
        obtain ⟨x7, x7e, h⟩ := kw_let_e h
        refine kg_iinc 3 dX7_tightTo_39 rfl (Nat.le_of_ble_eq_true rfl) x7e (lv2 := [(3, .int x7), (0, .ref 1), (1, .int v1), (2, .int v2)]) rfl (pc2 := 42) rfl ?_
        refine kg_goto 4 dX7_tightTo_42 rfl ?_
        refine kg_sub [1, 2, 3, 0] (lv2 := [(0, .ref 1), (1, .int v1), (2, .int v2), (3, .int x7)]) rfl ?_
        cases h
        exact hk
      · replace h := (if_neg q6).symm.trans h
        obtain ⟨x8, x8e, h⟩ := kw_let_e h
        refine kg_iinc 2 dX7_tightTo_36 rfl (Nat.le_of_ble_eq_true rfl) x8e (lv2 := [(2, .int x8), (0, .ref 1), (1, .int v1), (3, .int v3)]) rfl (pc2 := 39) rfl ?_
        obtain ⟨x9, x9e, h⟩ := kw_let_e h
        refine kg_iinc 3 dX7_tightTo_39 rfl (Nat.le_of_ble_eq_true rfl) x9e (lv2 := [(3, .int x9), (2, .int x8), (0, .ref 1), (1, .int v1)]) rfl (pc2 := 42) rfl ?_
        refine kg_goto 4 dX7_tightTo_42 rfl ?_
        refine kg_sub [2, 3, 1, 0] (lv2 := [(0, .ref 1), (1, .int v1), (2, .int x8), (3, .int x9)]) rfl ?_
        cases h
        exact hk
set_option maxHeartbeats 4000000 in
set_option maxRecDepth 100000 in
theorem gX7_tightTo {E : kw_E} {d : Nat} (a1 : Int32) (σ : kw_M) {r : Int32} (h : fX7_tightTo a1 σ = some r) : kw_Met E kwTX 48 (d + 2) μX7_tightTo [.ref 1, .int a1] σ (some (Value.int r)) σ := by
  refine kw_enter plRX7 (Nat.le_of_ble_eq_true rfl) ?_
  show kw_G E kwTX 48 (d + 2) μX7_tightTo 0 [(0, .ref 1), (1, .int a1)] [] σ (some (Value.int r)) σ
  unfold fX7_tightTo at h
  refine kg_iconst dX7_tightTo_0 ki_0 (pc2 := 1) rfl ?_
  refine kg_istore_n dX7_tightTo_1 rfl (Nat.le_of_ble_eq_true rfl) rfl (lv2 := [(2, .int (0 : Int32)), (0, .ref 1), (1, .int a1)]) rfl (pc2 := 2) rfl ?_
  refine kg_iconst dX7_tightTo_2 ki_0 (pc2 := 3) rfl ?_
  refine kg_istore_n dX7_tightTo_3 rfl (Nat.le_of_ble_eq_true rfl) rfl (lv2 := [(3, .int (0 : Int32)), (2, .int (0 : Int32)), (0, .ref 1), (1, .int a1)]) rfl (pc2 := 4) rfl ?_
  refine kg_sub [2, 3, 1, 0] (lv2 := [(0, .ref 1), (1, .int a1), (2, .int (0 : Int32)), (3, .int (0 : Int32))]) rfl ?_
  obtain ⟨x10, x10h, h⟩ := kw_bind_e h
  refine kw_loop_e (P := fun s => kw_G E kwTX 48 (d + 2) μX7_tightTo 4 [(0, .ref 1), (1, .int a1), (2, .int s.1), (3, .int s.2)] [] σ (some (Value.int r)) σ) (K := fun y => kw_G E kwTX 48 (d + 2) μX7_tightTo 45 [(2, .int y)] [] σ (some (Value.int r)) σ) (fun s o h0 hk => lX7_tightTo_4 a1 σ s.1 s.2 h0 hk) kw_F _ _ x10h ?_
  show kw_G E kwTX 48 (d + 2) μX7_tightTo 45 [(2, .int x10)] [] σ (some (Value.int r)) σ
  refine kg_iload_n 0 dX7_tightTo_45 rfl (pc2 := 46) rfl ?_
  cases h
  exact kg_iret (ty := .int) dX7_tightTo_46 rfl rfl
set_option maxHeartbeats 4000000 in
set_option maxRecDepth 100000 in
theorem gX9_change {E : kw_E} {d : Nat} (a1 : Int32) (a2 : Int32) (σ : kw_M) {r : Int64} (h : fX9_change a1 a2 σ = some r) : kw_Met E kwTX 48 (d + 3) μX9_change [.ref 0, .int a1, .int a2] σ (some (Value.long r)) σ := by
  refine kw_enter plRX9 (Nat.le_of_ble_eq_true rfl) ?_
  show kw_G E kwTX 48 (d + 3) μX9_change 0 [(0, .ref 0), (1, .int a1), (2, .int a2)] [] σ (some (Value.long r)) σ
  unfold fX9_change at h
  refine kg_aload_n 0 dX9_change_0 rfl (pc2 := 1) rfl ?_
  refine kg_getr clX9 rfl 0 (Nat.le_of_ble_eq_true rfl) lfRX9_10 tX_0 eX_0 rfl dX9_change_1 (pc2 := 4) rfl ?_
  refine kg_getr clX7 rfl 0 (Nat.le_of_ble_eq_true rfl) lfRX9_148 tX_1 eX_1 rfl dX9_change_4 (pc2 := 7) rfl ?_
  refine kg_iload_n 1 dX9_change_7 rfl (pc2 := 8) rfl ?_
  obtain ⟨r1, r1h, h⟩ := kw_bind_e h
  refine kg_callV (μ := μX9_change) (d := (d + 2)) rfl mVX4_isOpen [.int a1] [] (gX4_isOpen (E := E) (d := (d + 2)) 12 kx_4_12 a1 σ r1h) rfl lmRX9_201 (ci := 4) rfl tX_12 eX_12 rfl (Nat.le_of_ble_eq_true rfl) dX9_change_8 rfl (st2 := [.int r1]) rfl (pc2 := 11) rfl ?_
  refine kg_if_ne 18 dX9_change_11 rfl (pc2 := 14) rfl (fun q2 => ?_) (fun q2 => ?_)
  · replace h := (if_neg q2).symm.trans h
    refine kg_aload_n 0 dX9_change_18 rfl (pc2 := 19) rfl ?_
    refine kg_getr clX9 rfl 0 (Nat.le_of_ble_eq_true rfl) lfRX9_10 tX_0 eX_0 rfl dX9_change_19 (pc2 := 22) rfl ?_
    refine kg_iload_n 1 dX9_change_22 rfl (pc2 := 23) rfl ?_
    obtain ⟨r3, r3h, h⟩ := kw_bind_e h
    refine kg_callV (μ := μX9_change) (d := (d + 2)) rfl mVX7_slackOf [.int a1] [] (gX7_slackOf (E := E) (d := (d + 2)) a1 σ r3h) rfl lmRX9_275 (ci := 7) rfl tX_1 eX_1 rfl (Nat.le_of_ble_eq_true rfl) dX9_change_23 rfl (st2 := [.long r3]) rfl (pc2 := 26) rfl ?_
    refine kg_lstore_n dX9_change_26 rfl (Nat.le_of_ble_eq_true rfl) rfl (lv2 := [(3, .long r3), (0, .ref 0), (1, .int a1), (2, .int a2)]) rfl (pc2 := 27) rfl ?_
    refine kg_iload_n 3 dX9_change_27 rfl (pc2 := 28) rfl ?_
    by_cases q4 : a2 = (0 : Int32)
    · replace h := (if_pos q4).symm.trans h
      refine kg_tsIn (off := 28) 56 dX9_change_28 (by rw [q4]; decide) (by rw [q4]; decide) (by rw [q4]; decide) rfl ?_
      refine kg_lload_n 0 dX9_change_56 rfl (pc2 := 57) rfl ?_
      cases h
      exact kg_lret dX9_change_57 rfl
    · replace h := (if_neg q4).symm.trans h
      by_cases q5 : a2 = (1 : Int32)
      · replace h := (if_pos q5).symm.trans h
        refine kg_tsIn (off := 30) 58 dX9_change_28 (by rw [q5]; decide) (by rw [q5]; decide) (by rw [q5]; decide) rfl ?_
        refine kg_lload_n 0 dX9_change_58 rfl (pc2 := 59) rfl ?_
        refine kg_lconst dX9_change_59 kl_0 (pc2 := 60) rfl ?_
        refine kg_lcmp_ne 91 dX9_change_60 dX9_change_61 rfl (pc2 := 64) rfl (fun q6 => ?_) (fun q6 => ?_)
        · replace h := (if_neg q6).symm.trans h
          refine kg_ldc2 rfl lcRX9_282 dX9_change_91 (pc2 := 94) rfl ?_
          cases h
          exact kg_lret dX9_change_94 rfl
        · replace h := (if_pos q6).symm.trans h
          refine kg_aload_n 1 dX9_change_64 rfl (pc2 := 65) rfl ?_
          refine kg_getr clX9 rfl 0 (Nat.le_of_ble_eq_true rfl) lfRX9_10 tX_0 eX_0 rfl dX9_change_65 (pc2 := 68) rfl ?_
          refine kg_aload_n 1 dX9_change_68 rfl (pc2 := 69) rfl ?_
          refine kg_getr clX9 rfl 0 (Nat.le_of_ble_eq_true rfl) lfRX9_10 tX_0 eX_0 rfl dX9_change_69 (pc2 := 72) rfl ?_
          refine kg_getr clX7 rfl 0 (Nat.le_of_ble_eq_true rfl) lfRX9_148 tX_1 eX_1 rfl dX9_change_72 (pc2 := 75) rfl ?_
          refine kg_getr clX4 rfl 4 (Nat.le_of_ble_eq_true rfl) lfRX9_266 tX_12 eX_12 rfl dX9_change_75 (pc2 := 78) rfl ?_
          refine kg_iload_n 2 dX9_change_78 rfl (pc2 := 79) rfl ?_
          obtain ⟨q7, h⟩ := kw_chk_e h
          refine kg_iald tX_19 eX_19 q7 (j := a1.toNatClampNeg) rfl dX9_change_79 (pc2 := 80) rfl ?_
          obtain ⟨r8, r8h, h⟩ := kw_bind_e h
          refine kg_callV (μ := μX9_change) (d := (d + 2)) rfl mVX7_tightTo [.int (σ.1 19 a1.toNatClampNeg)] [] (gX7_tightTo (E := E) (d := d) (σ.1 19 a1.toNatClampNeg) σ r8h) rfl lmRX9_279 (ci := 7) rfl tX_1 eX_1 rfl (Nat.le_of_ble_eq_true rfl) dX9_change_80 rfl (st2 := [.int r8]) rfl (pc2 := 83) rfl ?_
          refine kg_iconst dX9_change_83 ki_1 (pc2 := 84) rfl ?_
          refine kg_icmp_ne 91 dX9_change_84 rfl (pc2 := 87) rfl (fun q9 => ?_) (fun q9 => ?_)
          · replace h := (if_neg q9).symm.trans h
            refine kg_ldc2 rfl lcRX9_282 dX9_change_91 (pc2 := 94) rfl ?_
            cases h
            exact kg_lret dX9_change_94 rfl
          · replace h := (if_pos q9).symm.trans h
            refine kg_lconst dX9_change_87 kl_0 (pc2 := 88) rfl ?_
            refine kg_goto 94 dX9_change_88 rfl ?_
            cases h
            exact kg_lret dX9_change_94 rfl
      · replace h := (if_neg q5).symm.trans h
        by_cases q10 : a2 = (2 : Int32)
        · replace h := (if_pos q10).symm.trans h
          refine kg_tsIn (off := 67) 95 dX9_change_28 (by rw [q10]; decide) (by rw [q10]; decide) (by rw [q10]; decide) rfl ?_
          refine kg_lload_n 0 dX9_change_95 rfl (pc2 := 96) rfl ?_
          refine kg_ldc2 rfl lcRX9_261 dX9_change_96 (pc2 := 99) rfl ?_
          refine kg_lcmp_ne 109 dX9_change_99 dX9_change_100 rfl (pc2 := 103) rfl (fun q11 => ?_) (fun q11 => ?_)
          · replace h := (if_neg q11).symm.trans h
            refine kg_lload_n 0 dX9_change_109 rfl (pc2 := 110) rfl ?_
            cases h
            exact kg_lret dX9_change_110 rfl
          · replace h := (if_pos q11).symm.trans h
            refine kg_ldc2 rfl lcRX9_282 dX9_change_103 (pc2 := 106) rfl ?_
            refine kg_goto 110 dX9_change_106 rfl ?_
            cases h
            exact kg_lret dX9_change_110 rfl
        · replace h := (if_neg q10).symm.trans h
          refine kg_tsOut 111 dX9_change_28 (by have a0 := kw_neI (n := 0) (by decide) q4; have a1 := kw_neI (n := 1) (by decide) q5; have a2 := kw_neI (n := 2) (by decide) q10; omega) rfl ?_
          refine kg_ldc2 rfl lcRX9_261 dX9_change_111 (pc2 := 114) rfl ?_
          cases h
          exact kg_lret dX9_change_114 rfl
  · replace h := (if_pos q2).symm.trans h
    refine kg_ldc2 rfl lcRX9_261 dX9_change_14 (pc2 := 17) rfl ?_
    cases h
    exact kg_lret dX9_change_17 rfl
set_option maxHeartbeats 4000000 in
set_option maxRecDepth 100000 in
theorem lX6_findWay_5 {E : kw_E} {d : Nat} (v3 : Int32) (v4 : Int32) (σ : kw_M) {v : Option Value} {σ2 : kw_M} {o : (Int32 × Int32 × kw_M) ⊕ (Int32 × kw_M)} (h : bX6_findWay_5 v3 v4 σ = some o) (hk : Sum.elim (fun s => kw_G E kwTX 48 d μX6_findWay 5 [(0, .ref 6), (1, .ref 1), (3, .int s.1), (4, .int s.2.1)] [] s.2.2 v σ2) (fun y => kw_G E kwTX 48 d μX6_findWay 58 [(0, .ref 6), (3, .int y.1)] [] y.2 v σ2) o) : kw_G E kwTX 48 d μX6_findWay 5 [(0, .ref 6), (1, .ref 1), (3, .int v3), (4, .int v4)] [] σ v σ2 := by
  unfold bX6_findWay_5 at h
  refine kg_iload_n 2 dX6_findWay_5 rfl (pc2 := 6) rfl ?_
  refine kg_bipush dX6_findWay_6 kb_12 (pc2 := 8) rfl ?_
  refine kg_icmp_ge 58 dX6_findWay_8 rfl (pc2 := 11) rfl (fun q1 => ?_) (fun q1 => ?_)
  · replace h := (if_pos q1).symm.trans h
    refine kg_sub [0, 2] (lv2 := [(0, .ref 6), (3, .int v3)]) rfl ?_
    cases h
    exact hk
  · replace h := (if_neg q1).symm.trans h
    refine kg_aload_n 1 dX6_findWay_11 rfl (pc2 := 12) rfl ?_
    refine kg_getr clX7 rfl 10 (Nat.le_of_ble_eq_true rfl) lfRX6_25 tX_1 eX_1 rfl dX6_findWay_12 (pc2 := 15) rfl ?_
    refine kg_iload 3 dX6_findWay_15 rfl (pc2 := 17) rfl ?_
    obtain ⟨q2, h⟩ := kw_chk_e h
    refine kg_iald tX_17 eX_17 q2 (j := v4.toNatClampNeg) rfl dX6_findWay_17 (pc2 := 18) rfl ?_
    refine kg_iconst dX6_findWay_18 ki_m1 (pc2 := 19) rfl ?_
    refine kg_icmp_eq 58 dX6_findWay_19 rfl (pc2 := 22) rfl (fun q3 => ?_) (fun q3 => ?_)
    · replace h := (if_pos q3).symm.trans h
      refine kg_sub [0, 2] (lv2 := [(0, .ref 6), (3, .int v3)]) rfl ?_
      cases h
      exact hk
    · replace h := (if_neg q3).symm.trans h
      refine kg_aload_n 0 dX6_findWay_22 rfl (pc2 := 23) rfl ?_
      refine kg_getr clX6 rfl 1 (Nat.le_of_ble_eq_true rfl) lfRX6_15 tX_6 eX_6 rfl dX6_findWay_23 (pc2 := 26) rfl ?_
      refine kg_iload_n 2 dX6_findWay_26 rfl (pc2 := 27) rfl ?_
      refine kg_aload_n 1 dX6_findWay_27 rfl (pc2 := 28) rfl ?_
      refine kg_getr clX7 rfl 10 (Nat.le_of_ble_eq_true rfl) lfRX6_25 tX_1 eX_1 rfl dX6_findWay_28 (pc2 := 31) rfl ?_
      refine kg_iload 3 dX6_findWay_31 rfl (pc2 := 33) rfl ?_
      refine kg_iald tX_17 eX_17 q2 (j := v4.toNatClampNeg) rfl dX6_findWay_33 (pc2 := 34) rfl ?_
      obtain ⟨q4, h⟩ := kw_chk_e h
      obtain ⟨s5, s5e, h⟩ := kw_let_e h
      refine kg_iast tX_42 eX_42 q4 (j := v3.toNatClampNeg) rfl s5e dX6_findWay_34 (pc2 := 35) rfl ?_
      refine kg_aload_n 1 dX6_findWay_35 rfl (pc2 := 36) rfl ?_
      refine kg_getr clX7 rfl 0 (Nat.le_of_ble_eq_true rfl) lfRX6_30 tX_1 eX_1 rfl dX6_findWay_36 (pc2 := 39) rfl ?_
      refine kg_getr clX4 rfl 3 (Nat.le_of_ble_eq_true rfl) lfRX6_34 tX_12 eX_12 rfl dX6_findWay_39 (pc2 := 42) rfl ?_
      refine kg_aload_n 1 dX6_findWay_42 rfl (pc2 := 43) rfl ?_
      refine kg_getr clX7 rfl 10 (Nat.le_of_ble_eq_true rfl) lfRX6_25 tX_1 eX_1 rfl dX6_findWay_43 (pc2 := 46) rfl ?_
      refine kg_iload 3 dX6_findWay_46 rfl (pc2 := 48) rfl ?_
      refine kg_iald tX_17 eX_17 q2 (j := v4.toNatClampNeg) rfl dX6_findWay_48 (pc2 := 49) rfl ?_
      obtain ⟨q6, h⟩ := kw_chk_e h
      refine kg_iald tX_18 eX_18 q6 (j := (s5.1 17 v4.toNatClampNeg).toNatClampNeg) rfl dX6_findWay_49 (pc2 := 50) rfl ?_
      obtain ⟨x7, x7e, h⟩ := kw_let_e h
      refine kg_istore dX6_findWay_50 (Nat.le_of_ble_eq_true rfl) x7e (lv2 := [(4, .int x7), (0, .ref 6), (1, .ref 1), (3, .int v3)]) rfl (pc2 := 52) rfl ?_
      obtain ⟨x8, x8e, h⟩ := kw_let_e h
      refine kg_iinc 3 dX6_findWay_52 rfl (Nat.le_of_ble_eq_true rfl) x8e (lv2 := [(3, .int x8), (4, .int x7), (0, .ref 6), (1, .ref 1)]) rfl (pc2 := 55) rfl ?_
      refine kg_goto 5 dX6_findWay_55 rfl ?_
      refine kg_sub [2, 3, 0, 1] (lv2 := [(0, .ref 6), (1, .ref 1), (3, .int x8), (4, .int x7)]) rfl ?_
      cases h
      exact hk
set_option maxHeartbeats 4000000 in
set_option maxRecDepth 100000 in
theorem lX6_findWay_61 {E : kw_E} {d : Nat} (v3 : Int32) (v4 : Int32) (σ : kw_M) {v : Option Value} {σ2 : kw_M} {o : (Int32 × kw_M) ⊕ (kw_M)} (h : bX6_findWay_61 v3 v4 σ = some o) (hk : Sum.elim (fun s => kw_G E kwTX 48 d μX6_findWay 61 [(0, .ref 6), (3, .int v3), (4, .int s.1)] [] s.2 v σ2) (fun y => kw_G E kwTX 48 d μX6_findWay 115 [(3, .int v3)] [] y v σ2) o) : kw_G E kwTX 48 d μX6_findWay 61 [(0, .ref 6), (3, .int v3), (4, .int v4)] [] σ v σ2 := by
  unfold bX6_findWay_61 at h
  refine kg_iload 2 dX6_findWay_61 rfl (pc2 := 63) rfl ?_
  refine kg_iload_n 1 dX6_findWay_63 rfl (pc2 := 64) rfl ?_
  refine kg_iconst dX6_findWay_64 ki_2 (pc2 := 65) rfl ?_
  refine kg_idiv dX6_findWay_65 (by decide) (pc2 := 66) rfl ?_
  refine kg_icmp_ge 115 dX6_findWay_66 rfl (pc2 := 69) rfl (fun q10 => ?_) (fun q10 => ?_)
  · replace h := (if_pos q10).symm.trans h
    refine kg_sub [1] (lv2 := [(3, .int v3)]) rfl ?_
    cases h
    exact hk
  · replace h := (if_neg q10).symm.trans h
    refine kg_aload_n 0 dX6_findWay_69 rfl (pc2 := 70) rfl ?_
    refine kg_getr clX6 rfl 1 (Nat.le_of_ble_eq_true rfl) lfRX6_15 tX_6 eX_6 rfl dX6_findWay_70 (pc2 := 73) rfl ?_
    refine kg_iload_n 1 dX6_findWay_73 rfl (pc2 := 74) rfl ?_
    refine kg_iconst dX6_findWay_74 ki_1 (pc2 := 75) rfl ?_
    refine kg_isub dX6_findWay_75 (pc2 := 76) rfl ?_
    refine kg_iload 2 dX6_findWay_76 rfl (pc2 := 78) rfl ?_
    refine kg_isub dX6_findWay_78 (pc2 := 79) rfl ?_
    obtain ⟨q11, h⟩ := kw_chk_e h
    refine kg_iald tX_42 eX_42 q11 (j := ((v3 - (1 : Int32)) - v4).toNatClampNeg) rfl dX6_findWay_79 (pc2 := 80) rfl ?_
    obtain ⟨x12, x12e, h⟩ := kw_let_e h
    refine kg_istore dX6_findWay_80 (Nat.le_of_ble_eq_true rfl) x12e (lv2 := [(5, .int x12), (0, .ref 6), (3, .int v3), (4, .int v4)]) rfl (pc2 := 82) rfl ?_
    refine kg_aload_n 1 dX6_findWay_82 rfl (pc2 := 83) rfl ?_
    refine kg_getr clX6 rfl 1 (Nat.le_of_ble_eq_true rfl) lfRX6_15 tX_6 eX_6 rfl dX6_findWay_83 (pc2 := 86) rfl ?_
    refine kg_iload_n 2 dX6_findWay_86 rfl (pc2 := 87) rfl ?_
    refine kg_iconst dX6_findWay_87 ki_1 (pc2 := 88) rfl ?_
    refine kg_isub dX6_findWay_88 (pc2 := 89) rfl ?_
    refine kg_iload 3 dX6_findWay_89 rfl (pc2 := 91) rfl ?_
    refine kg_isub dX6_findWay_91 (pc2 := 92) rfl ?_
    refine kg_aload_n 1 dX6_findWay_92 rfl (pc2 := 93) rfl ?_
    refine kg_getr clX6 rfl 1 (Nat.le_of_ble_eq_true rfl) lfRX6_15 tX_6 eX_6 rfl dX6_findWay_93 (pc2 := 96) rfl ?_
    refine kg_iload 3 dX6_findWay_96 rfl (pc2 := 98) rfl ?_
    obtain ⟨q13, h⟩ := kw_chk_e h
    refine kg_iald tX_42 eX_42 q13 (j := v4.toNatClampNeg) rfl dX6_findWay_98 (pc2 := 99) rfl ?_
    obtain ⟨s14, s14e, h⟩ := kw_let_e h
    refine kg_iast tX_42 eX_42 q11 (j := ((v3 - (1 : Int32)) - v4).toNatClampNeg) rfl s14e dX6_findWay_99 (pc2 := 100) rfl ?_
    refine kg_aload_n 1 dX6_findWay_100 rfl (pc2 := 101) rfl ?_
    refine kg_getr clX6 rfl 1 (Nat.le_of_ble_eq_true rfl) lfRX6_15 tX_6 eX_6 rfl dX6_findWay_101 (pc2 := 104) rfl ?_
    refine kg_iload 3 dX6_findWay_104 rfl (pc2 := 106) rfl ?_
    refine kg_iload 0 dX6_findWay_106 rfl (pc2 := 108) rfl ?_
    obtain ⟨s15, s15e, h⟩ := kw_let_e h
    refine kg_iast tX_42 eX_42 q13 (j := v4.toNatClampNeg) rfl s15e dX6_findWay_108 (pc2 := 109) rfl ?_
    obtain ⟨x16, x16e, h⟩ := kw_let_e h
    refine kg_iinc 3 dX6_findWay_109 rfl (Nat.le_of_ble_eq_true rfl) x16e (lv2 := [(4, .int x16), (5, .int x12), (0, .ref 6), (3, .int v3)]) rfl (pc2 := 112) rfl ?_
    refine kg_goto 61 dX6_findWay_112 rfl ?_
    refine kg_sub [2, 3, 0] (lv2 := [(0, .ref 6), (3, .int v3), (4, .int x16)]) rfl ?_
    cases h
    exact hk
set_option maxHeartbeats 4000000 in
set_option maxRecDepth 100000 in
theorem gjX6_findWay_58 {E : kw_E} {d : Nat} (v3 : Int32) (σ : kw_M) {r : Int32 × kw_M} (h : jX6_findWay_58 v3 σ = some r) : kw_G E kwTX 48 d μX6_findWay 58 [(0, .ref 6), (3, .int v3)] [] σ (some (Value.int r.1)) r.2 := by
  unfold jX6_findWay_58 at h
  refine kg_iconst dX6_findWay_58 ki_0 (pc2 := 59) rfl ?_
  refine kg_istore dX6_findWay_59 (Nat.le_of_ble_eq_true rfl) rfl (lv2 := [(4, .int (0 : Int32)), (0, .ref 6), (3, .int v3)]) rfl (pc2 := 61) rfl ?_
  refine kg_sub [1, 2, 0] (lv2 := [(0, .ref 6), (3, .int v3), (4, .int (0 : Int32))]) rfl ?_
  obtain ⟨x17, x17h, h⟩ := kw_bind_e h
  refine kw_loop_e (P := fun s => kw_G E kwTX 48 d μX6_findWay 61 [(0, .ref 6), (3, .int v3), (4, .int s.1)] [] s.2 (some (Value.int r.1)) r.2) (K := fun y => kw_G E kwTX 48 d μX6_findWay 115 [(3, .int v3)] [] y (some (Value.int r.1)) r.2) (fun s o h0 hk => lX6_findWay_61 v3 s.1 s.2 h0 hk) kw_F _ _ x17h ?_
  show kw_G E kwTX 48 d μX6_findWay 115 [(3, .int v3)] [] x17 (some (Value.int r.1)) r.2
  refine kg_iload_n 0 dX6_findWay_115 rfl (pc2 := 116) rfl ?_
  cases h
  exact kg_iret (ty := .int) dX6_findWay_116 rfl rfl
set_option maxHeartbeats 4000000 in
set_option maxRecDepth 100000 in
theorem gX6_findWay {E : kw_E} {d : Nat} (a2 : Int32) (σ : kw_M) {r : Int32 × kw_M} (h : fX6_findWay a2 σ = some r) : kw_Met E kwTX 48 d μX6_findWay [.ref 6, .ref 1, .int a2] σ (some (Value.int r.1)) r.2 := by
  refine kw_enter plRX6 (Nat.le_of_ble_eq_true rfl) ?_
  show kw_G E kwTX 48 d μX6_findWay 0 [(0, .ref 6), (1, .ref 1), (2, .int a2)] [] σ (some (Value.int r.1)) r.2
  unfold fX6_findWay at h
  refine kg_iconst dX6_findWay_0 ki_0 (pc2 := 1) rfl ?_
  refine kg_istore_n dX6_findWay_1 rfl (Nat.le_of_ble_eq_true rfl) rfl (lv2 := [(3, .int (0 : Int32)), (0, .ref 6), (1, .ref 1), (2, .int a2)]) rfl (pc2 := 2) rfl ?_
  refine kg_iload_n 3 dX6_findWay_2 rfl (pc2 := 3) rfl ?_
  refine kg_istore dX6_findWay_3 (Nat.le_of_ble_eq_true rfl) rfl (lv2 := [(4, .int a2), (3, .int (0 : Int32)), (0, .ref 6), (1, .ref 1), (2, .int a2)]) rfl (pc2 := 5) rfl ?_
  refine kg_sub [2, 3, 1, 0] (lv2 := [(0, .ref 6), (1, .ref 1), (3, .int (0 : Int32)), (4, .int a2)]) rfl ?_
  obtain ⟨x9, x9h, h⟩ := kw_bind_e h
  refine kw_loop_e (P := fun s => kw_G E kwTX 48 d μX6_findWay 5 [(0, .ref 6), (1, .ref 1), (3, .int s.1), (4, .int s.2.1)] [] s.2.2 (some (Value.int r.1)) r.2) (K := fun y => kw_G E kwTX 48 d μX6_findWay 58 [(0, .ref 6), (3, .int y.1)] [] y.2 (some (Value.int r.1)) r.2) (fun s o h0 hk => lX6_findWay_5 s.1 s.2.1 s.2.2 h0 hk) kw_F _ _ x9h ?_
  show kw_G E kwTX 48 d μX6_findWay 58 [(0, .ref 6), (3, .int x9.1)] [] x9.2 (some (Value.int r.1)) r.2
  exact gjX6_findWay_58 x9.1 x9.2 h
set_option maxHeartbeats 4000000 in
set_option maxRecDepth 100000 in
theorem gX9_findWay {E : kw_E} {d : Nat} (a1 : Int32) (σ : kw_M) {r : Int32 × kw_M} (h : fX9_findWay a1 σ = some r) : kw_Met E kwTX 48 (d + 1) μX9_findWay [.ref 0, .int a1] σ (some (Value.int r.1)) r.2 := by
  refine kw_enter plRX9 (Nat.le_of_ble_eq_true rfl) ?_
  show kw_G E kwTX 48 (d + 1) μX9_findWay 0 [(0, .ref 0), (1, .int a1)] [] σ (some (Value.int r.1)) r.2
  unfold fX9_findWay at h
  refine kg_aload_n 0 dX9_findWay_0 rfl (pc2 := 1) rfl ?_
  refine kg_getr clX9 rfl 6 (Nat.le_of_ble_eq_true rfl) lfRX9_43 tX_0 eX_0 rfl dX9_findWay_1 (pc2 := 4) rfl ?_
  refine kg_aload_n 0 dX9_findWay_4 rfl (pc2 := 5) rfl ?_
  refine kg_getr clX9 rfl 0 (Nat.le_of_ble_eq_true rfl) lfRX9_10 tX_0 eX_0 rfl dX9_findWay_5 (pc2 := 8) rfl ?_
  refine kg_iload_n 1 dX9_findWay_8 rfl (pc2 := 9) rfl ?_
  obtain ⟨r1, r1h, h⟩ := kw_bind_e h
  refine kg_callV (μ := μX9_findWay) (d := d) rfl mVX6_findWay [.ref 1, .int a1] [] (gX6_findWay (E := E) (d := d) a1 σ r1h) rfl lmRX9_342 (ci := 6) rfl tX_6 eX_6 rfl (Nat.le_of_ble_eq_true rfl) dX9_findWay_9 rfl (st2 := [.int r1.1]) rfl (pc2 := 12) rfl ?_
  cases h
  exact kg_iret (ty := .int) dX9_findWay_12 rfl rfl
set_option maxHeartbeats 4000000 in
set_option maxRecDepth 100000 in
theorem gX6_foundIsKnown {E : kw_E} {d : Nat} (σ : kw_M) {r : kw_M} (h : fX6_foundIsKnown σ = some r) : kw_Met E kwTX 48 (d + 1) μX6_foundIsKnown [.ref 6] σ none r := by
  refine kw_enter plRX6 (Nat.le_of_ble_eq_true rfl) ?_
  show kw_G E kwTX 48 (d + 1) μX6_foundIsKnown 0 [(0, .ref 6)] [] σ none r
  unfold fX6_foundIsKnown at h
  refine kg_aload_n 0 dX6_foundIsKnown_0 rfl (pc2 := 1) rfl ?_
  refine kg_getr clX6 rfl 5 (Nat.le_of_ble_eq_true rfl) lfRX6_22 tX_6 eX_6 rfl dX6_foundIsKnown_1 (pc2 := 4) rfl ?_
  refine kg_iconst dX6_foundIsKnown_4 ki_0 (pc2 := 5) rfl ?_
  refine kg_aload_n 0 dX6_foundIsKnown_5 rfl (pc2 := 6) rfl ?_
  refine kg_getr clX6 rfl 4 (Nat.le_of_ble_eq_true rfl) lfRX6_19 tX_6 eX_6 rfl dX6_foundIsKnown_6 (pc2 := 9) rfl ?_
  refine kg_iconst dX6_foundIsKnown_9 ki_0 (pc2 := 10) rfl ?_
  refine kg_bipush dX6_foundIsKnown_10 kb_12 (pc2 := 12) rfl ?_
  obtain ⟨s1, s1e, h⟩ := kw_let_e h
  refine kg_copyl (μ := μX6_foundIsKnown) (d := d) rfl rfl cpRX6_39 tX_44 eX_44 tX_43 eX_43 (by decide) (by decide) (by decide) (by decide) (by decide) (Nat.le_of_ble_eq_true rfl) (by decide) (by decide) (by decide) s1e dX6_foundIsKnown_12 (pc2 := 15) rfl ?_
  cases h
  exact kg_vret dX6_foundIsKnown_15 rfl
set_option maxHeartbeats 4000000 in
set_option maxRecDepth 100000 in
theorem lX6_waysAsShort_51 {E : kw_E} {d : Nat} (v2 : Int32) (v3 : Int64) (v5 : Int32) (v6 : Int32) (σ : kw_M) {v : Option Value} {σ2 : kw_M} {o : (Int32 × kw_M) ⊕ (kw_M)} (h : bX6_waysAsShort_51 v2 v3 v5 v6 σ = some o) (hk : Sum.elim (fun s => kw_G E kwTX 48 (d + 2) μX6_waysAsShort 51 [(0, .ref 6), (1, .ref 1), (2, .int v2), (3, .long v3), (5, .int v5), (6, .int s.1)] [] s.2 v σ2) (fun y => kw_G E kwTX 48 (d + 2) μX6_waysAsShort 126 [(0, .ref 6), (1, .ref 1), (2, .int v2), (3, .long v3), (5, .int v5)] [] y v σ2) o) : kw_G E kwTX 48 (d + 2) μX6_waysAsShort 51 [(0, .ref 6), (1, .ref 1), (2, .int v2), (3, .long v3), (5, .int v5), (6, .int v6)] [] σ v σ2 := by
  unfold bX6_waysAsShort_51 at h
  refine kg_iload 5 dX6_waysAsShort_51 rfl (pc2 := 53) rfl ?_
  refine kg_aload_n 1 dX6_waysAsShort_53 rfl (pc2 := 54) rfl ?_
  refine kg_getr clX7 rfl 0 (Nat.le_of_ble_eq_true rfl) lfRX6_30 tX_1 eX_1 rfl dX6_waysAsShort_54 (pc2 := 57) rfl ?_
  refine kg_geti clX4 rfl 1 (Nat.le_of_ble_eq_true rfl) lfRX6_58 tX_12 eX_12 rfl dX6_waysAsShort_57 (pc2 := 60) rfl ?_
  refine kg_icmp_ge 126 dX6_waysAsShort_60 rfl (pc2 := 63) rfl (fun q8 => ?_) (fun q8 => ?_)
  · replace h := (if_pos q8).symm.trans h
    refine kg_sub [0, 1, 2, 3, 4] (lv2 := [(0, .ref 6), (1, .ref 1), (2, .int v2), (3, .long v3), (5, .int v5)]) rfl ?_
    cases h
    exact hk
  · replace h := (if_neg q8).symm.trans h
    refine kg_aload_n 1 dX6_waysAsShort_63 rfl (pc2 := 64) rfl ?_
    refine kg_iload 5 dX6_waysAsShort_64 rfl (pc2 := 66) rfl ?_
    obtain ⟨r9, r9h, h⟩ := kw_bind_e h
    refine kg_callV (μ := μX6_waysAsShort) (d := (d + 1)) rfl mVX7_isTight [.int v6] [] (gX7_isTight (E := E) (d := d) v6 σ r9h) rfl lmRX6_61 (ci := 7) rfl tX_1 eX_1 rfl (Nat.le_of_ble_eq_true rfl) dX6_waysAsShort_66 rfl (st2 := [.int r9]) rfl (pc2 := 69) rfl ?_
    refine kg_if_eq 120 dX6_waysAsShort_69 rfl (pc2 := 72) rfl (fun q10 => ?_) (fun q10 => ?_)
    · replace h := (if_pos q10).symm.trans h
      obtain ⟨x11, x11e, h⟩ := kw_let_e h
      refine kg_iinc 5 dX6_waysAsShort_120 rfl (Nat.le_of_ble_eq_true rfl) x11e (lv2 := [(6, .int x11), (0, .ref 6), (1, .ref 1), (2, .int v2), (3, .long v3), (5, .int v5)]) rfl (pc2 := 123) rfl ?_
      refine kg_goto 51 dX6_waysAsShort_123 rfl ?_
      refine kg_sub [1, 2, 3, 4, 5, 0] (lv2 := [(0, .ref 6), (1, .ref 1), (2, .int v2), (3, .long v3), (5, .int v5), (6, .int x11)]) rfl ?_
      cases h
      exact hk
    · replace h := (if_neg q10).symm.trans h
      refine kg_aload_n 1 dX6_waysAsShort_72 rfl (pc2 := 73) rfl ?_
      refine kg_getr clX7 rfl 0 (Nat.le_of_ble_eq_true rfl) lfRX6_30 tX_1 eX_1 rfl dX6_waysAsShort_73 (pc2 := 76) rfl ?_
      refine kg_getr clX4 rfl 4 (Nat.le_of_ble_eq_true rfl) lfRX6_65 tX_12 eX_12 rfl dX6_waysAsShort_76 (pc2 := 79) rfl ?_
      refine kg_iload 5 dX6_waysAsShort_79 rfl (pc2 := 81) rfl ?_
      obtain ⟨q12, h⟩ := kw_chk_e h
      refine kg_iald tX_19 eX_19 q12 (j := v6.toNatClampNeg) rfl dX6_waysAsShort_81 (pc2 := 82) rfl ?_
      obtain ⟨x13, x13e, h⟩ := kw_let_e h
      refine kg_istore dX6_waysAsShort_82 (Nat.le_of_ble_eq_true rfl) x13e (lv2 := [(7, .int x13), (0, .ref 6), (1, .ref 1), (2, .int v2), (3, .long v3), (5, .int v5), (6, .int v6)]) rfl (pc2 := 84) rfl ?_
      refine kg_aload_n 1 dX6_waysAsShort_84 rfl (pc2 := 85) rfl ?_
      refine kg_getr clX6 rfl 5 (Nat.le_of_ble_eq_true rfl) lfRX6_22 tX_6 eX_6 rfl dX6_waysAsShort_85 (pc2 := 88) rfl ?_
      refine kg_iload 0 dX6_waysAsShort_88 rfl (pc2 := 90) rfl ?_
      refine kg_ldc2 rfl lcRX6_68 dX6_waysAsShort_90 (pc2 := 93) rfl ?_
      refine kg_aload_n 1 dX6_waysAsShort_93 rfl (pc2 := 94) rfl ?_
      refine kg_getr clX6 rfl 5 (Nat.le_of_ble_eq_true rfl) lfRX6_22 tX_6 eX_6 rfl dX6_waysAsShort_94 (pc2 := 97) rfl ?_
      refine kg_iload 0 dX6_waysAsShort_97 rfl (pc2 := 99) rfl ?_
      obtain ⟨q14, h⟩ := kw_chk_e h
      refine kg_lald tX_44 eX_44 q14 (j := x13.toNatClampNeg) rfl dX6_waysAsShort_99 (pc2 := 100) rfl ?_
      refine kg_aload_n 1 dX6_waysAsShort_100 rfl (pc2 := 101) rfl ?_
      refine kg_getr clX6 rfl 4 (Nat.le_of_ble_eq_true rfl) lfRX6_19 tX_6 eX_6 rfl dX6_waysAsShort_101 (pc2 := 104) rfl ?_
      refine kg_aload_n 2 dX6_waysAsShort_104 rfl (pc2 := 105) rfl ?_
      refine kg_getr clX7 rfl 0 (Nat.le_of_ble_eq_true rfl) lfRX6_30 tX_1 eX_1 rfl dX6_waysAsShort_105 (pc2 := 108) rfl ?_
      refine kg_getr clX4 rfl 3 (Nat.le_of_ble_eq_true rfl) lfRX6_34 tX_12 eX_12 rfl dX6_waysAsShort_108 (pc2 := 111) rfl ?_
      refine kg_iload 6 dX6_waysAsShort_111 rfl (pc2 := 113) rfl ?_
      refine kg_iald tX_18 eX_18 q12 (j := v6.toNatClampNeg) rfl dX6_waysAsShort_113 (pc2 := 114) rfl ?_
      obtain ⟨q15, h⟩ := kw_chk_e h
      refine kg_lald tX_43 eX_43 q15 (j := (σ.1 18 v6.toNatClampNeg).toNatClampNeg) rfl dX6_waysAsShort_114 (pc2 := 115) rfl ?_
      refine kg_ladd dX6_waysAsShort_115 (pc2 := 116) rfl ?_
      obtain ⟨x16, x16e, h⟩ := kw_let_e h
      refine kg_mmin_long (μ := μX6_waysAsShort) (d := (d + 1)) rfl rfl mmRX6_70 (Nat.le_of_ble_eq_true rfl) x16e dX6_waysAsShort_116 (pc2 := 119) rfl ?_
      obtain ⟨s17, s17e, h⟩ := kw_let_e h
      refine kg_last tX_44 eX_44 q14 (j := x13.toNatClampNeg) rfl s17e dX6_waysAsShort_119 (pc2 := 120) rfl ?_
      obtain ⟨x18, x18e, h⟩ := kw_let_e h
      refine kg_iinc 6 dX6_waysAsShort_120 rfl (Nat.le_of_ble_eq_true rfl) x18e (lv2 := [(6, .int x18), (7, .int x13), (0, .ref 6), (1, .ref 1), (2, .int v2), (3, .long v3), (5, .int v5)]) rfl (pc2 := 123) rfl ?_
      refine kg_goto 51 dX6_waysAsShort_123 rfl ?_
      refine kg_sub [2, 3, 4, 5, 6, 0] (lv2 := [(0, .ref 6), (1, .ref 1), (2, .int v2), (3, .long v3), (5, .int v5), (6, .int x18)]) rfl ?_
      cases h
      exact hk
