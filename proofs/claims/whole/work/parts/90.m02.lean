/-! The reference, method by method: the machine does what f says (g). -/
set_option maxHeartbeats 4000000 in
set_option maxRecDepth 100000 in
theorem gX10_feed {E : kw_E} {d : Nat} (a1 : Int32) (a2 : Int32) (a3 : Int32) (a4 : Int32) (a5 : Int32) (σ : kw_M) {r : Int32 × kw_M} (h : fX10_feed a1 a2 a3 a4 a5 σ = some r) : kw_Met E kwTM 21 (d + 1) μX10_feed [.ref 0, .int a1, .int a2, .int a3, .int a4, .int a5] σ (some (Value.int r.1)) r.2 := by
  refine kw_enter plRX10 (Nat.le_of_ble_eq_true rfl) ?_
  show kw_G E kwTM 21 (d + 1) μX10_feed 0 [(0, .ref 0), (1, .int a1), (2, .int a2), (3, .int a3), (4, .int a4), (5, .int a5)] [] σ (some (Value.int r.1)) r.2
  unfold fX10_feed at h
  refine kg_aload_n 0 dX10_feed_0 rfl (pc2 := 1) rfl ?_
  refine kg_geti clX10 rfl 6 (Nat.le_of_ble_eq_true rfl) lfRX10_152 tM_0 eM_0 rfl dX10_feed_1 (pc2 := 4) rfl ?_
  refine kg_bipush dX10_feed_4 kb_20 (pc2 := 6) rfl ?_
  refine kg_iadd dX10_feed_6 (pc2 := 7) rfl ?_
  refine kg_sipush dX10_feed_7 ks_240 (pc2 := 10) rfl ?_
  refine kg_icmp_le 15 dX10_feed_10 rfl (pc2 := 13) rfl (fun q1 => ?_) (fun q1 => ?_)
  · replace h := (if_pos q1).symm.trans h
    refine kg_aload_n 0 dX10_feed_15 rfl (pc2 := 16) rfl ?_
    refine kg_iload_n 1 dX10_feed_16 rfl (pc2 := 17) rfl ?_
    obtain ⟨r2, r2h, h⟩ := kw_bind_e h
    refine kg_callV (μ := μX10_feed) (d := d) rfl mVX10_types [.int a1] [] (gX10_types (E := E) (d := d) a1 σ r2h) rfl lmRX10_156 (ci := 10) rfl tM_0 eM_0 rfl (Nat.le_of_ble_eq_true rfl) dX10_feed_17 rfl (st2 := []) rfl (pc2 := 20) rfl ?_
    refine kg_aload_n 0 dX10_feed_20 rfl (pc2 := 21) rfl ?_
    refine kg_iload_n 2 dX10_feed_21 rfl (pc2 := 22) rfl ?_
    obtain ⟨r3, r3h, h⟩ := kw_bind_e h
    refine kg_callV (μ := μX10_feed) (d := d) rfl mVX10_types [.int a2] [] (gX10_types (E := E) (d := d) a2 r2 r3h) rfl lmRX10_156 (ci := 10) rfl tM_0 eM_0 rfl (Nat.le_of_ble_eq_true rfl) dX10_feed_22 rfl (st2 := []) rfl (pc2 := 25) rfl ?_
    refine kg_aload_n 0 dX10_feed_25 rfl (pc2 := 26) rfl ?_
    refine kg_iload_n 3 dX10_feed_26 rfl (pc2 := 27) rfl ?_
    obtain ⟨r4, r4h, h⟩ := kw_bind_e h
    refine kg_callV (μ := μX10_feed) (d := d) rfl mVX10_types [.int a3] [] (gX10_types (E := E) (d := d) a3 r3 r4h) rfl lmRX10_156 (ci := 10) rfl tM_0 eM_0 rfl (Nat.le_of_ble_eq_true rfl) dX10_feed_27 rfl (st2 := []) rfl (pc2 := 30) rfl ?_
    refine kg_aload_n 0 dX10_feed_30 rfl (pc2 := 31) rfl ?_
    refine kg_iload 4 dX10_feed_31 rfl (pc2 := 33) rfl ?_
    obtain ⟨r5, r5h, h⟩ := kw_bind_e h
    refine kg_callV (μ := μX10_feed) (d := d) rfl mVX10_types [.int a4] [] (gX10_types (E := E) (d := d) a4 r4 r5h) rfl lmRX10_156 (ci := 10) rfl tM_0 eM_0 rfl (Nat.le_of_ble_eq_true rfl) dX10_feed_33 rfl (st2 := []) rfl (pc2 := 36) rfl ?_
    refine kg_aload_n 0 dX10_feed_36 rfl (pc2 := 37) rfl ?_
    refine kg_iload 5 dX10_feed_37 rfl (pc2 := 39) rfl ?_
    obtain ⟨r6, r6h, h⟩ := kw_bind_e h
    refine kg_callV (μ := μX10_feed) (d := d) rfl mVX10_types [.int a5] [] (gX10_types (E := E) (d := d) a5 r5 r6h) rfl lmRX10_156 (ci := 10) rfl tM_0 eM_0 rfl (Nat.le_of_ble_eq_true rfl) dX10_feed_39 rfl (st2 := []) rfl (pc2 := 42) rfl ?_
    refine kg_aload_n 0 dX10_feed_42 rfl (pc2 := 43) rfl ?_
    refine kg_geti clX10 rfl 6 (Nat.le_of_ble_eq_true rfl) lfRX10_152 tM_0 eM_0 rfl dX10_feed_43 (pc2 := 46) rfl ?_
    cases h
    exact kg_iret (ty := .int) dX10_feed_46 rfl rfl
  · replace h := (if_neg q1).symm.trans h
    refine kg_iconst dX10_feed_13 ki_m1 (pc2 := 14) rfl ?_
    cases h
    exact kg_iret (ty := .int) dX10_feed_14 rfl rfl
set_option maxHeartbeats 4000000 in
set_option maxRecDepth 100000 in
theorem gX10_here {E : kw_E} {d : Nat} (σ : kw_M) {r : Int32} (h : fX10_here σ = some r) : kw_Met E kwTM 21 d μX10_here [.ref 0] σ (some (Value.int r)) σ := by
  refine kw_enter plRX10 (Nat.le_of_ble_eq_true rfl) ?_
  show kw_G E kwTM 21 d μX10_here 0 [(0, .ref 0)] [] σ (some (Value.int r)) σ
  unfold fX10_here at h
  refine kg_aload_n 0 dX10_here_0 rfl (pc2 := 1) rfl ?_
  refine kg_geti clX10 rfl 7 (Nat.le_of_ble_eq_true rfl) lfRX10_159 tM_0 eM_0 rfl dX10_here_1 (pc2 := 4) rfl ?_
  refine kg_aload_n 0 dX10_here_4 rfl (pc2 := 5) rfl ?_
  refine kg_geti clX10 rfl 8 (Nat.le_of_ble_eq_true rfl) lfRX10_162 tM_0 eM_0 rfl dX10_here_5 (pc2 := 8) rfl ?_
  refine kg_icmp_ge 27 dX10_here_8 rfl (pc2 := 11) rfl (fun q1 => ?_) (fun q1 => ?_)
  · replace h := (if_pos q1).symm.trans h
    refine kg_iconst dX10_here_27 ki_m1 (pc2 := 28) rfl ?_
    cases h
    exact kg_iret (ty := .int) dX10_here_28 rfl rfl
  · replace h := (if_neg q1).symm.trans h
    refine kg_aload_n 0 dX10_here_11 rfl (pc2 := 12) rfl ?_
    refine kg_getr clX10 rfl 5 (Nat.le_of_ble_eq_true rfl) lfRX10_23 tM_0 eM_0 rfl dX10_here_12 (pc2 := 15) rfl ?_
    refine kg_aload_n 0 dX10_here_15 rfl (pc2 := 16) rfl ?_
    refine kg_geti clX10 rfl 7 (Nat.le_of_ble_eq_true rfl) lfRX10_159 tM_0 eM_0 rfl dX10_here_16 (pc2 := 19) rfl ?_
    obtain ⟨q2, h⟩ := kw_chk_e h
    refine kg_bald tM_5 eM_5 q2 (j := (σ.1 0 7).toNatClampNeg) rfl dX10_here_19 (pc2 := 20) rfl ?_
    refine kg_sipush dX10_here_20 ks_255 (pc2 := 23) rfl ?_
    refine kg_iand dX10_here_23 (pc2 := 24) rfl ?_
    refine kg_goto 28 dX10_here_24 rfl ?_
    cases h
    exact kg_iret (ty := .int) dX10_here_28 rfl rfl
set_option maxHeartbeats 4000000 in
set_option maxRecDepth 100000 in
theorem gX10_wrongAt {E : kw_E} {d : Nat} (a1 : Int32) (a2 : Int32) (σ : kw_M) {r : Int32 × kw_M} (h : fX10_wrongAt a1 a2 σ = some r) : kw_Met E kwTM 21 d μX10_wrongAt [.ref 0, .int a1, .int a2] σ (some (Value.int r.1)) r.2 := by
  refine kw_enter plRX10 (Nat.le_of_ble_eq_true rfl) ?_
  show kw_G E kwTM 21 d μX10_wrongAt 0 [(0, .ref 0), (1, .int a1), (2, .int a2)] [] σ (some (Value.int r.1)) r.2
  unfold fX10_wrongAt at h
  refine kg_aload_n 0 dX10_wrongAt_0 rfl (pc2 := 1) rfl ?_
  refine kg_sipush dX10_wrongAt_1 ks_m1000 (pc2 := 4) rfl ?_
  refine kg_iload_n 1 dX10_wrongAt_4 rfl (pc2 := 5) rfl ?_
  refine kg_imul dX10_wrongAt_5 (pc2 := 6) rfl ?_
  refine kg_iload_n 2 dX10_wrongAt_6 rfl (pc2 := 7) rfl ?_
  refine kg_isub dX10_wrongAt_7 (pc2 := 8) rfl ?_
  obtain ⟨s1, s1e, h⟩ := kw_let_e h
  refine kg_puti clX10 rfl 9 (Nat.le_of_ble_eq_true rfl) lfRX10_165 rfl tM_0 eM_0 rfl (ty := .int) (by decide +kernel) rfl rfl s1e dX10_wrongAt_8 (pc2 := 11) rfl ?_
  refine kg_iconst dX10_wrongAt_11 ki_0 (pc2 := 12) rfl ?_
  cases h
  exact kg_iret (ty := .boolean) dX10_wrongAt_12 rfl rfl
set_option maxHeartbeats 4000000 in
set_option maxRecDepth 100000 in
theorem gX10_takesSign {E : kw_E} {d : Nat} (a1 : Int32) (σ : kw_M) {r : Int32 × kw_M} (h : fX10_takesSign a1 σ = some r) : kw_Met E kwTM 21 (d + 1) μX10_takesSign [.ref 0, .int a1] σ (some (Value.int r.1)) r.2 := by
  refine kw_enter plRX10 (Nat.le_of_ble_eq_true rfl) ?_
  show kw_G E kwTM 21 (d + 1) μX10_takesSign 0 [(0, .ref 0), (1, .int a1)] [] σ (some (Value.int r.1)) r.2
  unfold fX10_takesSign at h
  refine kg_aload_n 0 dX10_takesSign_0 rfl (pc2 := 1) rfl ?_
  obtain ⟨r1, r1h, h⟩ := kw_bind_e h
  refine kg_callV (μ := μX10_takesSign) (d := d) rfl mVX10_here [] [] (gX10_here (E := E) (d := d) σ r1h) rfl lmRX10_168 (ci := 10) rfl tM_0 eM_0 rfl (Nat.le_of_ble_eq_true rfl) dX10_takesSign_1 rfl (st2 := [.int r1]) rfl (pc2 := 4) rfl ?_
  refine kg_iload_n 1 dX10_takesSign_4 rfl (pc2 := 5) rfl ?_
  refine kg_icmp_eq 18 dX10_takesSign_5 rfl (pc2 := 8) rfl (fun q2 => ?_) (fun q2 => ?_)
  · replace h := (if_pos q2).symm.trans h
    refine kg_aload_n 0 dX10_takesSign_18 rfl (pc2 := 19) rfl ?_
    refine kg_aload_n 0 dX10_takesSign_19 rfl (pc2 := 20) rfl ?_
    refine kg_geti clX10 rfl 7 (Nat.le_of_ble_eq_true rfl) lfRX10_159 tM_0 eM_0 rfl dX10_takesSign_20 (pc2 := 23) rfl ?_
    refine kg_iconst dX10_takesSign_23 ki_1 (pc2 := 24) rfl ?_
    refine kg_iadd dX10_takesSign_24 (pc2 := 25) rfl ?_
    obtain ⟨s3, s3e, h⟩ := kw_let_e h
    refine kg_puti clX10 rfl 7 (Nat.le_of_ble_eq_true rfl) lfRX10_159 rfl tM_0 eM_0 rfl (ty := .int) (by decide +kernel) rfl rfl s3e dX10_takesSign_25 (pc2 := 28) rfl ?_
    refine kg_iconst dX10_takesSign_28 ki_1 (pc2 := 29) rfl ?_
    cases h
    exact kg_iret (ty := .boolean) dX10_takesSign_29 rfl rfl
  · replace h := (if_neg q2).symm.trans h
    refine kg_aload_n 0 dX10_takesSign_8 rfl (pc2 := 9) rfl ?_
    refine kg_iconst dX10_takesSign_9 ki_1 (pc2 := 10) rfl ?_
    refine kg_aload_n 0 dX10_takesSign_10 rfl (pc2 := 11) rfl ?_
    refine kg_geti clX10 rfl 7 (Nat.le_of_ble_eq_true rfl) lfRX10_159 tM_0 eM_0 rfl dX10_takesSign_11 (pc2 := 14) rfl ?_
    obtain ⟨r4, r4h, h⟩ := kw_bind_e h
    refine kg_callV (μ := μX10_takesSign) (d := d) rfl mVX10_wrongAt [.int (1 : Int32), .int (σ.1 0 7)] [] (gX10_wrongAt (E := E) (d := d) (1 : Int32) (σ.1 0 7) σ r4h) rfl lmRX10_171 (ci := 10) rfl tM_0 eM_0 rfl (Nat.le_of_ble_eq_true rfl) dX10_takesSign_14 rfl (st2 := [.int r4.1]) rfl (pc2 := 17) rfl ?_
    obtain ⟨q5, h⟩ := kw_chk_e h
    cases h
    exact kg_iret (ty := .boolean) dX10_takesSign_17 rfl (kw_isB_n q5)
set_option maxHeartbeats 4000000 in
set_option maxRecDepth 100000 in
theorem lX10_readsWord_13 {E : kw_E} {d : Nat} (σ : kw_M) {v : Option Value} {σ2 : kw_M} {o : (kw_M) ⊕ (kw_M)} (h : bX10_readsWord_13 σ = some o) (hk : Sum.elim (fun s => kw_G E kwTM 21 (d + 1) μX10_readsWord 13 [(0, .ref 0)] [] s v σ2) (fun y => kw_G E kwTM 21 (d + 1) μX10_readsWord 81 [(0, .ref 0)] [] y v σ2) o) : kw_G E kwTM 21 (d + 1) μX10_readsWord 13 [(0, .ref 0)] [] σ v σ2 := by
  unfold bX10_readsWord_13 at h
  refine kg_aload_n 0 dX10_readsWord_13 rfl (pc2 := 14) rfl ?_
  obtain ⟨r3, r3h, h⟩ := kw_bind_e h
  refine kg_callV (μ := μX10_readsWord) (d := d) rfl mVX10_here [] [] (gX10_here (E := E) (d := d) σ r3h) rfl lmRX10_168 (ci := 10) rfl tM_0 eM_0 rfl (Nat.le_of_ble_eq_true rfl) dX10_readsWord_14 rfl (st2 := [.int r3]) rfl (pc2 := 17) rfl ?_
  refine kg_i2l dX10_readsWord_17 (pc2 := 18) rfl ?_
  refine kg_ldc2 rfl lcRX10_182 dX10_readsWord_18 (pc2 := 21) rfl ?_
  refine kg_ldc2 rfl lcRX10_184 dX10_readsWord_21 (pc2 := 24) rfl ?_
  obtain ⟨r4, r4h, h⟩ := kw_bind_e h
  refine kg_callS (μ := μX10_readsWord) (d := d) rfl mSX10_in [.long r3.toInt64, .long (97 : Int64), .long (122 : Int64)] [] (gX10_in (E := E) (d := d) r3.toInt64 (97 : Int64) (122 : Int64) σ r4h) rfl lmRX10_81 rfl (Nat.le_of_ble_eq_true rfl) dX10_readsWord_24 rfl (st2 := [.int r4]) rfl (pc2 := 27) rfl ?_
  refine kg_if_eq 81 dX10_readsWord_27 rfl (pc2 := 30) rfl (fun q5 => ?_) (fun q5 => ?_)
  · replace h := (if_pos q5).symm.trans h
    cases h
    exact hk
  · replace h := (if_neg q5).symm.trans h
    refine kg_aload_n 0 dX10_readsWord_30 rfl (pc2 := 31) rfl ?_
    refine kg_geti clX10 rfl 7 (Nat.le_of_ble_eq_true rfl) lfRX10_159 tM_0 eM_0 rfl dX10_readsWord_31 (pc2 := 34) rfl ?_
    refine kg_aload_n 0 dX10_readsWord_34 rfl (pc2 := 35) rfl ?_
    refine kg_geti clX10 rfl 11 (Nat.le_of_ble_eq_true rfl) lfRX10_175 tM_0 eM_0 rfl dX10_readsWord_35 (pc2 := 38) rfl ?_
    refine kg_isub dX10_readsWord_38 (pc2 := 39) rfl ?_
    refine kg_bipush dX10_readsWord_39 kb_8 (pc2 := 41) rfl ?_
    refine kg_icmp_ge 68 dX10_readsWord_41 rfl (pc2 := 44) rfl (fun q6 => ?_) (fun q6 => ?_)
    · replace h := (if_pos q6).symm.trans h
      refine kg_aload_n 0 dX10_readsWord_68 rfl (pc2 := 69) rfl ?_
      refine kg_aload_n 0 dX10_readsWord_69 rfl (pc2 := 70) rfl ?_
      refine kg_geti clX10 rfl 7 (Nat.le_of_ble_eq_true rfl) lfRX10_159 tM_0 eM_0 rfl dX10_readsWord_70 (pc2 := 73) rfl ?_
      refine kg_iconst dX10_readsWord_73 ki_1 (pc2 := 74) rfl ?_
      refine kg_iadd dX10_readsWord_74 (pc2 := 75) rfl ?_
      obtain ⟨s7, s7e, h⟩ := kw_let_e h
      refine kg_puti clX10 rfl 7 (Nat.le_of_ble_eq_true rfl) lfRX10_159 rfl tM_0 eM_0 rfl (ty := .int) (by decide +kernel) rfl rfl s7e dX10_readsWord_75 (pc2 := 78) rfl ?_
      refine kg_goto 13 dX10_readsWord_78 rfl ?_
      cases h
      exact hk
    · replace h := (if_neg q6).symm.trans h
      refine kg_aload_n 0 dX10_readsWord_44 rfl (pc2 := 45) rfl ?_
      refine kg_ldc2 rfl lcRX10_186 dX10_readsWord_45 (pc2 := 48) rfl ?_
      refine kg_aload_n 0 dX10_readsWord_48 rfl (pc2 := 49) rfl ?_
      refine kg_getl clX10 rfl 13 (Nat.le_of_ble_eq_true rfl) lfRX10_178 tM_0 eM_0 rfl dX10_readsWord_49 (pc2 := 52) rfl ?_
      refine kg_lmul dX10_readsWord_52 (pc2 := 53) rfl ?_
      refine kg_aload_n 0 dX10_readsWord_53 rfl (pc2 := 54) rfl ?_
      obtain ⟨r8, r8h, h⟩ := kw_bind_e h
      refine kg_callV (μ := μX10_readsWord) (d := d) rfl mVX10_here [] [.long ((32 : Int64) * (σ.2 0 13)), .ref 0] (gX10_here (E := E) (d := d) σ r8h) rfl lmRX10_168 (ci := 10) rfl tM_0 eM_0 rfl (Nat.le_of_ble_eq_true rfl) dX10_readsWord_54 rfl (st2 := [.int r8, .long ((32 : Int64) * (σ.2 0 13)), .ref 0]) rfl (pc2 := 57) rfl ?_
      refine kg_i2l dX10_readsWord_57 (pc2 := 58) rfl ?_
      refine kg_ladd dX10_readsWord_58 (pc2 := 59) rfl ?_
      refine kg_ldc2 rfl lcRX10_182 dX10_readsWord_59 (pc2 := 62) rfl ?_
      refine kg_lsub dX10_readsWord_62 (pc2 := 63) rfl ?_
      refine kg_lconst dX10_readsWord_63 kl_1 (pc2 := 64) rfl ?_
      refine kg_ladd dX10_readsWord_64 (pc2 := 65) rfl ?_
      obtain ⟨s9, s9e, h⟩ := kw_let_e h
      refine kg_putl clX10 rfl 13 (Nat.le_of_ble_eq_true rfl) lfRX10_178 rfl tM_0 eM_0 rfl (ty := .long) (by decide +kernel) rfl rfl s9e dX10_readsWord_65 (pc2 := 68) rfl ?_
      refine kg_aload_n 0 dX10_readsWord_68 rfl (pc2 := 69) rfl ?_
      refine kg_aload_n 0 dX10_readsWord_69 rfl (pc2 := 70) rfl ?_
      refine kg_geti clX10 rfl 7 (Nat.le_of_ble_eq_true rfl) lfRX10_159 tM_0 eM_0 rfl dX10_readsWord_70 (pc2 := 73) rfl ?_
      refine kg_iconst dX10_readsWord_73 ki_1 (pc2 := 74) rfl ?_
      refine kg_iadd dX10_readsWord_74 (pc2 := 75) rfl ?_
      obtain ⟨s10, s10e, h⟩ := kw_let_e h
      refine kg_puti clX10 rfl 7 (Nat.le_of_ble_eq_true rfl) lfRX10_159 rfl tM_0 eM_0 rfl (ty := .int) (by decide +kernel) rfl rfl s10e dX10_readsWord_75 (pc2 := 78) rfl ?_
      refine kg_goto 13 dX10_readsWord_78 rfl ?_
      cases h
      exact hk
set_option maxHeartbeats 4000000 in
set_option maxRecDepth 100000 in
theorem gX10_readsWord {E : kw_E} {d : Nat} (σ : kw_M) {r : kw_M} (h : fX10_readsWord σ = some r) : kw_Met E kwTM 21 (d + 1) μX10_readsWord [.ref 0] σ none r := by
  refine kw_enter plRX10 (Nat.le_of_ble_eq_true rfl) ?_
  show kw_G E kwTM 21 (d + 1) μX10_readsWord 0 [(0, .ref 0)] [] σ none r
  unfold fX10_readsWord at h
  refine kg_aload_n 0 dX10_readsWord_0 rfl (pc2 := 1) rfl ?_
  refine kg_aload_n 0 dX10_readsWord_1 rfl (pc2 := 2) rfl ?_
  refine kg_geti clX10 rfl 7 (Nat.le_of_ble_eq_true rfl) lfRX10_159 tM_0 eM_0 rfl dX10_readsWord_2 (pc2 := 5) rfl ?_
  obtain ⟨s1, s1e, h⟩ := kw_let_e h
  refine kg_puti clX10 rfl 11 (Nat.le_of_ble_eq_true rfl) lfRX10_175 rfl tM_0 eM_0 rfl (ty := .int) (by decide +kernel) rfl rfl s1e dX10_readsWord_5 (pc2 := 8) rfl ?_
  refine kg_aload_n 0 dX10_readsWord_8 rfl (pc2 := 9) rfl ?_
  refine kg_lconst dX10_readsWord_9 kl_0 (pc2 := 10) rfl ?_
  obtain ⟨s2, s2e, h⟩ := kw_let_e h
  refine kg_putl clX10 rfl 13 (Nat.le_of_ble_eq_true rfl) lfRX10_178 rfl tM_0 eM_0 rfl (ty := .long) (by decide +kernel) rfl rfl s2e dX10_readsWord_10 (pc2 := 13) rfl ?_
  obtain ⟨x11, x11h, h⟩ := kw_bind_e h
  refine kw_loop_e (P := fun s => kw_G E kwTM 21 (d + 1) μX10_readsWord 13 [(0, .ref 0)] [] s none r) (K := fun y => kw_G E kwTM 21 (d + 1) μX10_readsWord 81 [(0, .ref 0)] [] y none r) (fun s o h0 hk => lX10_readsWord_13 s h0 hk) kw_F _ _ x11h ?_
  show kw_G E kwTM 21 (d + 1) μX10_readsWord 81 [(0, .ref 0)] [] x11 none r
  refine kg_aload_n 0 dX10_readsWord_81 rfl (pc2 := 82) rfl ?_
  refine kg_geti clX10 rfl 7 (Nat.le_of_ble_eq_true rfl) lfRX10_159 tM_0 eM_0 rfl dX10_readsWord_82 (pc2 := 85) rfl ?_
  refine kg_aload_n 0 dX10_readsWord_85 rfl (pc2 := 86) rfl ?_
  refine kg_geti clX10 rfl 11 (Nat.le_of_ble_eq_true rfl) lfRX10_175 tM_0 eM_0 rfl dX10_readsWord_86 (pc2 := 89) rfl ?_
  refine kg_isub dX10_readsWord_89 (pc2 := 90) rfl ?_
  refine kg_bipush dX10_readsWord_90 kb_8 (pc2 := 92) rfl ?_
  refine kg_icmp_le 102 dX10_readsWord_92 rfl (pc2 := 95) rfl (fun q12 => ?_) (fun q12 => ?_)
  · replace h := (if_pos q12).symm.trans h
    cases h
    exact kg_vret dX10_readsWord_102 rfl
  · replace h := (if_neg q12).symm.trans h
    refine kg_aload_n 0 dX10_readsWord_95 rfl (pc2 := 96) rfl ?_
    refine kg_ldc2 rfl lcRX10_188 dX10_readsWord_96 (pc2 := 99) rfl ?_
    obtain ⟨s13, s13e, h⟩ := kw_let_e h
    refine kg_putl clX10 rfl 13 (Nat.le_of_ble_eq_true rfl) lfRX10_178 rfl tM_0 eM_0 rfl (ty := .long) (by decide +kernel) rfl rfl s13e dX10_readsWord_99 (pc2 := 102) rfl ?_
    cases h
    exact kg_vret dX10_readsWord_102 rfl
set_option maxHeartbeats 4000000 in
set_option maxRecDepth 100000 in
theorem lX10_readsNumber_88 {E : kw_E} {d : Nat} (v1 : Int64) (v3 : Int64) (v5 : Int32) (v6 : Int32) (σ : kw_M) {v : Option Value} {σ2 : kw_M} {o : (kw_M) ⊕ ((Int32 × kw_M) ⊕ (kw_M))} (h : bX10_readsNumber_88 v1 v3 v5 v6 σ = some o) (hk : Sum.elim (fun s => kw_G E kwTM 21 (d + 2) μX10_readsNumber 88 [(0, .ref 0), (1, .long v1), (3, .long v3), (5, .int v5), (6, .int v6)] [] s v σ2) (Sum.elim (fun rr => v = some (Value.int rr.1) ∧ σ2 = rr.2) (fun y => kw_G E kwTM 21 (d + 2) μX10_readsNumber 162 [(0, .ref 0), (1, .long v1), (3, .long v3), (5, .int v5)] [] y v σ2)) o) : kw_G E kwTM 21 (d + 2) μX10_readsNumber 88 [(0, .ref 0), (1, .long v1), (3, .long v3), (5, .int v5), (6, .int v6)] [] σ v σ2 := by
  unfold bX10_readsNumber_88 at h
  refine kg_aload_n 0 dX10_readsNumber_88 rfl (pc2 := 89) rfl ?_
  obtain ⟨r12, r12h, h⟩ := kw_bind_e h
  refine kg_callV (μ := μX10_readsNumber) (d := (d + 1)) rfl mVX10_here [] [] (gX10_here (E := E) (d := (d + 1)) σ r12h) rfl lmRX10_168 (ci := 10) rfl tM_0 eM_0 rfl (Nat.le_of_ble_eq_true rfl) dX10_readsNumber_89 rfl (st2 := [.int r12]) rfl (pc2 := 92) rfl ?_
  refine kg_i2l dX10_readsNumber_92 (pc2 := 93) rfl ?_
  refine kg_ldc2 rfl lcRX10_196 dX10_readsNumber_93 (pc2 := 96) rfl ?_
  refine kg_ldc2 rfl lcRX10_198 dX10_readsNumber_96 (pc2 := 99) rfl ?_
  obtain ⟨r13, r13h, h⟩ := kw_bind_e h
  refine kg_callS (μ := μX10_readsNumber) (d := (d + 1)) rfl mSX10_in [.long r12.toInt64, .long (48 : Int64), .long (57 : Int64)] [] (gX10_in (E := E) (d := (d + 1)) r12.toInt64 (48 : Int64) (57 : Int64) σ r13h) rfl lmRX10_81 rfl (Nat.le_of_ble_eq_true rfl) dX10_readsNumber_99 rfl (st2 := [.int r13]) rfl (pc2 := 102) rfl ?_
  refine kg_if_eq 162 dX10_readsNumber_102 rfl (pc2 := 105) rfl (fun q14 => ?_) (fun q14 => ?_)
  · replace h := (if_pos q14).symm.trans h
    refine kg_sub [0, 1, 2, 3] (lv2 := [(0, .ref 0), (1, .long v1), (3, .long v3), (5, .int v5)]) rfl ?_
    cases h
    exact hk
  · replace h := (if_neg q14).symm.trans h
    refine kg_aload_n 0 dX10_readsNumber_105 rfl (pc2 := 106) rfl ?_
    refine kg_geti clX10 rfl 7 (Nat.le_of_ble_eq_true rfl) lfRX10_159 tM_0 eM_0 rfl dX10_readsNumber_106 (pc2 := 109) rfl ?_
    refine kg_iload 4 dX10_readsNumber_109 rfl (pc2 := 111) rfl ?_
    refine kg_bipush dX10_readsNumber_111 kb_10 (pc2 := 113) rfl ?_
    refine kg_iadd dX10_readsNumber_113 (pc2 := 114) rfl ?_
    refine kg_icmp_ne 127 dX10_readsNumber_114 rfl (pc2 := 117) rfl (fun q15 => ?_) (fun q15 => ?_)
    · replace h := (if_neg q15).symm.trans h
      refine kg_aload_n 0 dX10_readsNumber_127 rfl (pc2 := 128) rfl ?_
      refine kg_ldc2 rfl lcRX10_203 dX10_readsNumber_128 (pc2 := 131) rfl ?_
      refine kg_aload_n 0 dX10_readsNumber_131 rfl (pc2 := 132) rfl ?_
      refine kg_getl clX10 rfl 14 (Nat.le_of_ble_eq_true rfl) lfRX10_200 tM_0 eM_0 rfl dX10_readsNumber_132 (pc2 := 135) rfl ?_
      refine kg_lmul dX10_readsNumber_135 (pc2 := 136) rfl ?_
      refine kg_aload_n 0 dX10_readsNumber_136 rfl (pc2 := 137) rfl ?_
      obtain ⟨r16, r16h, h⟩ := kw_bind_e h
      refine kg_callV (μ := μX10_readsNumber) (d := (d + 1)) rfl mVX10_here [] [.long ((10 : Int64) * (σ.2 0 14)), .ref 0] (gX10_here (E := E) (d := (d + 1)) σ r16h) rfl lmRX10_168 (ci := 10) rfl tM_0 eM_0 rfl (Nat.le_of_ble_eq_true rfl) dX10_readsNumber_137 rfl (st2 := [.int r16, .long ((10 : Int64) * (σ.2 0 14)), .ref 0]) rfl (pc2 := 140) rfl ?_
      refine kg_i2l dX10_readsNumber_140 (pc2 := 141) rfl ?_
      refine kg_ladd dX10_readsNumber_141 (pc2 := 142) rfl ?_
      refine kg_ldc2 rfl lcRX10_196 dX10_readsNumber_142 (pc2 := 145) rfl ?_
      refine kg_lsub dX10_readsNumber_145 (pc2 := 146) rfl ?_
      obtain ⟨s17, s17e, h⟩ := kw_let_e h
      refine kg_putl clX10 rfl 14 (Nat.le_of_ble_eq_true rfl) lfRX10_200 rfl tM_0 eM_0 rfl (ty := .long) (by decide +kernel) rfl rfl s17e dX10_readsNumber_146 (pc2 := 149) rfl ?_
      refine kg_aload_n 0 dX10_readsNumber_149 rfl (pc2 := 150) rfl ?_
      refine kg_aload_n 0 dX10_readsNumber_150 rfl (pc2 := 151) rfl ?_
      refine kg_geti clX10 rfl 7 (Nat.le_of_ble_eq_true rfl) lfRX10_159 tM_0 eM_0 rfl dX10_readsNumber_151 (pc2 := 154) rfl ?_
      refine kg_iconst dX10_readsNumber_154 ki_1 (pc2 := 155) rfl ?_
      refine kg_iadd dX10_readsNumber_155 (pc2 := 156) rfl ?_
      obtain ⟨s18, s18e, h⟩ := kw_let_e h
      refine kg_puti clX10 rfl 7 (Nat.le_of_ble_eq_true rfl) lfRX10_159 rfl tM_0 eM_0 rfl (ty := .int) (by decide +kernel) rfl rfl s18e dX10_readsNumber_156 (pc2 := 159) rfl ?_
      refine kg_goto 88 dX10_readsNumber_159 rfl ?_
      cases h
      exact hk
    · replace h := (if_pos q15).symm.trans h
      refine kg_aload_n 0 dX10_readsNumber_117 rfl (pc2 := 118) rfl ?_
      refine kg_iconst dX10_readsNumber_118 ki_2 (pc2 := 119) rfl ?_
      refine kg_aload_n 0 dX10_readsNumber_119 rfl (pc2 := 120) rfl ?_
      refine kg_geti clX10 rfl 7 (Nat.le_of_ble_eq_true rfl) lfRX10_159 tM_0 eM_0 rfl dX10_readsNumber_120 (pc2 := 123) rfl ?_
      obtain ⟨r19, r19h, h⟩ := kw_bind_e h
      refine kg_callV (μ := μX10_readsNumber) (d := (d + 1)) rfl mVX10_wrongAt [.int (2 : Int32), .int (σ.1 0 7)] [] (gX10_wrongAt (E := E) (d := (d + 1)) (2 : Int32) (σ.1 0 7) σ r19h) rfl lmRX10_171 (ci := 10) rfl tM_0 eM_0 rfl (Nat.le_of_ble_eq_true rfl) dX10_readsNumber_123 rfl (st2 := [.int r19.1]) rfl (pc2 := 126) rfl ?_
      obtain ⟨q20, h⟩ := kw_chk_e h
      cases h
      obtain ⟨rfl, rfl⟩ := hk
      exact kg_iret (ty := .boolean) dX10_readsNumber_126 rfl (kw_isB_n q20)
set_option maxHeartbeats 4000000 in
set_option maxRecDepth 100000 in
theorem gjX10_readsNumber_176 {E : kw_E} {d : Nat} (v1 : Int64) (v3 : Int64) (σ : kw_M) {r : Int32 × kw_M} (h : jX10_readsNumber_176 v1 v3 σ = some r) : kw_G E kwTM 21 (d + 2) μX10_readsNumber 176 [(0, .ref 0), (1, .long v1), (3, .long v3)] [] σ (some (Value.int r.1)) r.2 := by
  unfold jX10_readsNumber_176 at h
  refine kg_aload_n 0 dX10_readsNumber_176 rfl (pc2 := 177) rfl ?_
  refine kg_getl clX10 rfl 14 (Nat.le_of_ble_eq_true rfl) lfRX10_200 tM_0 eM_0 rfl dX10_readsNumber_177 (pc2 := 180) rfl ?_
  refine kg_lload_n 1 dX10_readsNumber_180 rfl (pc2 := 181) rfl ?_
  refine kg_lload_n 2 dX10_readsNumber_181 rfl (pc2 := 182) rfl ?_
  obtain ⟨r23, r23h, h⟩ := kw_bind_e h
  refine kg_callS (μ := μX10_readsNumber) (d := (d + 1)) rfl mSX10_in [.long (σ.2 0 14), .long v1, .long v3] [] (gX10_in (E := E) (d := (d + 1)) (σ.2 0 14) v1 v3 σ r23h) rfl lmRX10_81 rfl (Nat.le_of_ble_eq_true rfl) dX10_readsNumber_182 rfl (st2 := [.int r23]) rfl (pc2 := 185) rfl ?_
  refine kg_if_ne 200 dX10_readsNumber_185 rfl (pc2 := 188) rfl (fun q24 => ?_) (fun q24 => ?_)
  · replace h := (if_neg q24).symm.trans h
    refine kg_iconst dX10_readsNumber_200 ki_1 (pc2 := 201) rfl ?_
    refine kg_goto 205 dX10_readsNumber_201 rfl ?_
    cases h
    exact kg_iret (ty := .boolean) dX10_readsNumber_205 rfl rfl
  · replace h := (if_pos q24).symm.trans h
    refine kg_aload_n 0 dX10_readsNumber_188 rfl (pc2 := 189) rfl ?_
    refine kg_iconst dX10_readsNumber_189 ki_3 (pc2 := 190) rfl ?_
    refine kg_aload_n 0 dX10_readsNumber_190 rfl (pc2 := 191) rfl ?_
    refine kg_geti clX10 rfl 10 (Nat.le_of_ble_eq_true rfl) lfRX10_193 tM_0 eM_0 rfl dX10_readsNumber_191 (pc2 := 194) rfl ?_
    obtain ⟨r25, r25h, h⟩ := kw_bind_e h
    refine kg_callV (μ := μX10_readsNumber) (d := (d + 1)) rfl mVX10_wrongAt [.int (3 : Int32), .int (σ.1 0 10)] [] (gX10_wrongAt (E := E) (d := (d + 1)) (3 : Int32) (σ.1 0 10) σ r25h) rfl lmRX10_171 (ci := 10) rfl tM_0 eM_0 rfl (Nat.le_of_ble_eq_true rfl) dX10_readsNumber_194 rfl (st2 := [.int r25.1]) rfl (pc2 := 197) rfl ?_
    refine kg_if_eq 204 dX10_readsNumber_197 rfl (pc2 := 200) rfl (fun q26 => ?_) (fun q26 => ?_)
    · replace h := (if_pos q26).symm.trans h
      refine kg_iconst dX10_readsNumber_204 ki_0 (pc2 := 205) rfl ?_
      cases h
      exact kg_iret (ty := .boolean) dX10_readsNumber_205 rfl rfl
    · replace h := (if_neg q26).symm.trans h
      refine kg_iconst dX10_readsNumber_200 ki_1 (pc2 := 201) rfl ?_
      refine kg_goto 205 dX10_readsNumber_201 rfl ?_
      cases h
      exact kg_iret (ty := .boolean) dX10_readsNumber_205 rfl rfl
set_option maxHeartbeats 4000000 in
set_option maxRecDepth 100000 in
theorem gjX10_readsNumber_50 {E : kw_E} {d : Nat} (v1 : Int64) (v3 : Int64) (v5 : Int32) (σ : kw_M) {r : Int32 × kw_M} (h : jX10_readsNumber_50 v1 v3 v5 σ = some r) : kw_G E kwTM 21 (d + 2) μX10_readsNumber 50 [(0, .ref 0), (1, .long v1), (3, .long v3), (5, .int v5)] [] σ (some (Value.int r.1)) r.2 := by
  unfold jX10_readsNumber_50 at h
  refine kg_aload_n 0 dX10_readsNumber_50 rfl (pc2 := 51) rfl ?_
  refine kg_geti clX10 rfl 7 (Nat.le_of_ble_eq_true rfl) lfRX10_159 tM_0 eM_0 rfl dX10_readsNumber_51 (pc2 := 54) rfl ?_
  obtain ⟨x7, x7e, h⟩ := kw_let_e h
  refine kg_istore dX10_readsNumber_54 (Nat.le_of_ble_eq_true rfl) x7e (lv2 := [(6, .int x7), (0, .ref 0), (1, .long v1), (3, .long v3), (5, .int v5)]) rfl (pc2 := 56) rfl ?_
  refine kg_aload_n 1 dX10_readsNumber_56 rfl (pc2 := 57) rfl ?_
  obtain ⟨r8, r8h, h⟩ := kw_bind_e h
  refine kg_callV (μ := μX10_readsNumber) (d := (d + 1)) rfl mVX10_here [] [] (gX10_here (E := E) (d := (d + 1)) σ r8h) rfl lmRX10_168 (ci := 10) rfl tM_0 eM_0 rfl (Nat.le_of_ble_eq_true rfl) dX10_readsNumber_57 rfl (st2 := [.int r8]) rfl (pc2 := 60) rfl ?_
  refine kg_i2l dX10_readsNumber_60 (pc2 := 61) rfl ?_
  refine kg_ldc2 rfl lcRX10_196 dX10_readsNumber_61 (pc2 := 64) rfl ?_
  refine kg_ldc2 rfl lcRX10_198 dX10_readsNumber_64 (pc2 := 67) rfl ?_
  obtain ⟨r9, r9h, h⟩ := kw_bind_e h
  refine kg_callS (μ := μX10_readsNumber) (d := (d + 1)) rfl mSX10_in [.long r8.toInt64, .long (48 : Int64), .long (57 : Int64)] [] (gX10_in (E := E) (d := (d + 1)) r8.toInt64 (48 : Int64) (57 : Int64) σ r9h) rfl lmRX10_81 rfl (Nat.le_of_ble_eq_true rfl) dX10_readsNumber_67 rfl (st2 := [.int r9]) rfl (pc2 := 70) rfl ?_
  refine kg_if_ne 83 dX10_readsNumber_70 rfl (pc2 := 73) rfl (fun q10 => ?_) (fun q10 => ?_)
  · replace h := (if_neg q10).symm.trans h
    refine kg_aload_n 1 dX10_readsNumber_83 rfl (pc2 := 84) rfl ?_
    refine kg_lconst dX10_readsNumber_84 kl_0 (pc2 := 85) rfl ?_
    obtain ⟨s11, s11e, h⟩ := kw_let_e h
    refine kg_putl clX10 rfl 14 (Nat.le_of_ble_eq_true rfl) lfRX10_200 rfl tM_0 eM_0 rfl (ty := .long) (by decide +kernel) rfl rfl s11e dX10_readsNumber_85 (pc2 := 88) rfl ?_
    refine kg_sub [1, 2, 3, 4, 0] (lv2 := [(0, .ref 0), (1, .long v1), (3, .long v3), (5, .int v5), (6, .int x7)]) rfl ?_
    obtain ⟨x21, x21h, h⟩ := kw_bind_e h
    refine kw_loop_e (P := fun s => kw_G E kwTM 21 (d + 2) μX10_readsNumber 88 [(0, .ref 0), (1, .long v1), (3, .long v3), (5, .int v5), (6, .int x7)] [] s (some (Value.int r.1)) r.2) (K := Sum.elim (fun rr => (some (Value.int r.1)) = some (Value.int rr.1) ∧ r.2 = rr.2) (fun y => kw_G E kwTM 21 (d + 2) μX10_readsNumber 162 [(0, .ref 0), (1, .long v1), (3, .long v3), (5, .int v5)] [] y (some (Value.int r.1)) r.2)) (fun s o h0 hk => lX10_readsNumber_88 v1 v3 v5 x7 s h0 hk) kw_F _ _ x21h ?_
    rcases x21 with x21r | x21
    · replace h := kw_se_l h
      cases h
      exact ⟨rfl, rfl⟩
    · replace h := kw_se_r h
      show kw_G E kwTM 21 (d + 2) μX10_readsNumber 162 [(0, .ref 0), (1, .long v1), (3, .long v3), (5, .int v5)] [] x21 (some (Value.int r.1)) r.2
      refine kg_iload 3 dX10_readsNumber_162 rfl (pc2 := 164) rfl ?_
      refine kg_if_eq 176 dX10_readsNumber_164 rfl (pc2 := 167) rfl (fun q22 => ?_) (fun q22 => ?_)
      · replace h := (if_pos q22).symm.trans h
        refine kg_sub [0, 1, 2] (lv2 := [(0, .ref 0), (1, .long v1), (3, .long v3)]) rfl ?_
        exact gjX10_readsNumber_176 v1 v3 x21 h
      · replace h := (if_neg q22).symm.trans h
        refine kg_aload_n 0 dX10_readsNumber_167 rfl (pc2 := 168) rfl ?_
        refine kg_aload_n 0 dX10_readsNumber_168 rfl (pc2 := 169) rfl ?_
        refine kg_getl clX10 rfl 14 (Nat.le_of_ble_eq_true rfl) lfRX10_200 tM_0 eM_0 rfl dX10_readsNumber_169 (pc2 := 172) rfl ?_
        refine kg_lneg dX10_readsNumber_172 (pc2 := 173) rfl ?_
        obtain ⟨s27, s27e, h⟩ := kw_let_e h
        refine kg_putl clX10 rfl 14 (Nat.le_of_ble_eq_true rfl) lfRX10_200 rfl tM_0 eM_0 rfl (ty := .long) (by decide +kernel) rfl rfl s27e dX10_readsNumber_173 (pc2 := 176) rfl ?_
        refine kg_sub [0, 1, 2] (lv2 := [(0, .ref 0), (1, .long v1), (3, .long v3)]) rfl ?_
        exact gjX10_readsNumber_176 v1 v3 s27 h
  · replace h := (if_pos q10).symm.trans h
    refine kg_aload_n 1 dX10_readsNumber_73 rfl (pc2 := 74) rfl ?_
    refine kg_iconst dX10_readsNumber_74 ki_1 (pc2 := 75) rfl ?_
    refine kg_aload_n 1 dX10_readsNumber_75 rfl (pc2 := 76) rfl ?_
    refine kg_geti clX10 rfl 7 (Nat.le_of_ble_eq_true rfl) lfRX10_159 tM_0 eM_0 rfl dX10_readsNumber_76 (pc2 := 79) rfl ?_
    obtain ⟨r28, r28h, h⟩ := kw_bind_e h
    refine kg_callV (μ := μX10_readsNumber) (d := (d + 1)) rfl mVX10_wrongAt [.int (1 : Int32), .int (σ.1 0 7)] [] (gX10_wrongAt (E := E) (d := (d + 1)) (1 : Int32) (σ.1 0 7) σ r28h) rfl lmRX10_171 (ci := 10) rfl tM_0 eM_0 rfl (Nat.le_of_ble_eq_true rfl) dX10_readsNumber_79 rfl (st2 := [.int r28.1]) rfl (pc2 := 82) rfl ?_
    obtain ⟨q29, h⟩ := kw_chk_e h
    cases h
    exact kg_iret (ty := .boolean) dX10_readsNumber_82 rfl (kw_isB_n q29)
set_option maxHeartbeats 4000000 in
set_option maxRecDepth 100000 in
theorem gjX10_readsNumber_33 {E : kw_E} {d : Nat} (v1 : Int64) (v3 : Int64) (t0 : Int32) (σ : kw_M) {r : Int32 × kw_M} (h : jX10_readsNumber_33 v1 v3 t0 σ = some r) : kw_G E kwTM 21 (d + 2) μX10_readsNumber 33 [(0, .ref 0), (1, .long v1), (3, .long v3)] [.int t0] σ (some (Value.int r.1)) r.2 := by
  unfold jX10_readsNumber_33 at h
  refine kg_istore dX10_readsNumber_33 (Nat.le_of_ble_eq_true rfl) rfl (lv2 := [(5, .int t0), (0, .ref 0), (1, .long v1), (3, .long v3)]) rfl (pc2 := 35) rfl ?_
  refine kg_iload 0 dX10_readsNumber_35 rfl (pc2 := 37) rfl ?_
  refine kg_if_eq 50 dX10_readsNumber_37 rfl (pc2 := 40) rfl (fun q6 => ?_) (fun q6 => ?_)
  · replace h := (if_pos q6).symm.trans h
    refine kg_sub [1, 2, 3, 0] (lv2 := [(0, .ref 0), (1, .long v1), (3, .long v3), (5, .int t0)]) rfl ?_
    exact gjX10_readsNumber_50 v1 v3 t0 σ h
  · replace h := (if_neg q6).symm.trans h
    refine kg_aload_n 1 dX10_readsNumber_40 rfl (pc2 := 41) rfl ?_
    refine kg_aload_n 1 dX10_readsNumber_41 rfl (pc2 := 42) rfl ?_
    refine kg_geti clX10 rfl 7 (Nat.le_of_ble_eq_true rfl) lfRX10_159 tM_0 eM_0 rfl dX10_readsNumber_42 (pc2 := 45) rfl ?_
    refine kg_iconst dX10_readsNumber_45 ki_1 (pc2 := 46) rfl ?_
    refine kg_iadd dX10_readsNumber_46 (pc2 := 47) rfl ?_
    obtain ⟨s30, s30e, h⟩ := kw_let_e h
    refine kg_puti clX10 rfl 7 (Nat.le_of_ble_eq_true rfl) lfRX10_159 rfl tM_0 eM_0 rfl (ty := .int) (by decide +kernel) rfl rfl s30e dX10_readsNumber_47 (pc2 := 50) rfl ?_
    refine kg_sub [1, 2, 3, 0] (lv2 := [(0, .ref 0), (1, .long v1), (3, .long v3), (5, .int t0)]) rfl ?_
    exact gjX10_readsNumber_50 v1 v3 t0 s30 h
set_option maxHeartbeats 4000000 in
set_option maxRecDepth 100000 in
theorem gX10_readsNumber {E : kw_E} {d : Nat} (a1 : Int64) (a2 : Int64) (σ : kw_M) {r : Int32 × kw_M} (h : fX10_readsNumber a1 a2 σ = some r) : kw_Met E kwTM 21 (d + 2) μX10_readsNumber [.ref 0, .long a1, .long a2] σ (some (Value.int r.1)) r.2 := by
  refine kw_enter plRX10 (Nat.le_of_ble_eq_true rfl) ?_
  show kw_G E kwTM 21 (d + 2) μX10_readsNumber 0 [(0, .ref 0), (1, .long a1), (3, .long a2)] [] σ (some (Value.int r.1)) r.2
  unfold fX10_readsNumber at h
  refine kg_aload_n 0 dX10_readsNumber_0 rfl (pc2 := 1) rfl ?_
  refine kg_bipush dX10_readsNumber_1 kb_32 (pc2 := 3) rfl ?_
  obtain ⟨r1, r1h, h⟩ := kw_bind_e h
  refine kg_callV (μ := μX10_readsNumber) (d := (d + 1)) rfl mVX10_takesSign [.int (32 : Int32)] [] (gX10_takesSign (E := E) (d := d) (32 : Int32) σ r1h) rfl lmRX10_190 (ci := 10) rfl tM_0 eM_0 rfl (Nat.le_of_ble_eq_true rfl) dX10_readsNumber_3 rfl (st2 := [.int r1.1]) rfl (pc2 := 6) rfl ?_
  refine kg_if_ne 11 dX10_readsNumber_6 rfl (pc2 := 9) rfl (fun q2 => ?_) (fun q2 => ?_)
  · replace h := (if_neg q2).symm.trans h
    refine kg_aload_n 0 dX10_readsNumber_11 rfl (pc2 := 12) rfl ?_
    refine kg_aload_n 0 dX10_readsNumber_12 rfl (pc2 := 13) rfl ?_
    refine kg_geti clX10 rfl 7 (Nat.le_of_ble_eq_true rfl) lfRX10_159 tM_0 eM_0 rfl dX10_readsNumber_13 (pc2 := 16) rfl ?_
    obtain ⟨s3, s3e, h⟩ := kw_let_e h
    refine kg_puti clX10 rfl 10 (Nat.le_of_ble_eq_true rfl) lfRX10_193 rfl tM_0 eM_0 rfl (ty := .int) (by decide +kernel) rfl rfl s3e dX10_readsNumber_16 (pc2 := 19) rfl ?_
    refine kg_aload_n 0 dX10_readsNumber_19 rfl (pc2 := 20) rfl ?_
    obtain ⟨r4, r4h, h⟩ := kw_bind_e h
    refine kg_callV (μ := μX10_readsNumber) (d := (d + 1)) rfl mVX10_here [] [] (gX10_here (E := E) (d := (d + 1)) s3 r4h) rfl lmRX10_168 (ci := 10) rfl tM_0 eM_0 rfl (Nat.le_of_ble_eq_true rfl) dX10_readsNumber_20 rfl (st2 := [.int r4]) rfl (pc2 := 23) rfl ?_
    refine kg_bipush dX10_readsNumber_23 kb_45 (pc2 := 25) rfl ?_
    refine kg_icmp_ne 32 dX10_readsNumber_25 rfl (pc2 := 28) rfl (fun q5 => ?_) (fun q5 => ?_)
    · replace h := (if_neg q5).symm.trans h
      refine kg_iconst dX10_readsNumber_32 ki_0 (pc2 := 33) rfl ?_
      exact gjX10_readsNumber_33 a1 a2 (0 : Int32) s3 h
    · replace h := (if_pos q5).symm.trans h
      refine kg_iconst dX10_readsNumber_28 ki_1 (pc2 := 29) rfl ?_
      refine kg_goto 33 dX10_readsNumber_29 rfl ?_
      exact gjX10_readsNumber_33 a1 a2 (1 : Int32) s3 h
  · replace h := (if_pos q2).symm.trans h
    refine kg_iconst dX10_readsNumber_9 ki_0 (pc2 := 10) rfl ?_
    cases h
    exact kg_iret (ty := .boolean) dX10_readsNumber_10 rfl rfl
set_option maxHeartbeats 4000000 in
set_option maxRecDepth 100000 in
theorem gX10_keepsNumber {E : kw_E} {d : Nat} (a1 : Int32) (σ : kw_M) {r : Int32 × kw_M} (h : fX10_keepsNumber a1 σ = some r) : kw_Met E kwTM 21 d μX10_keepsNumber [.ref 0, .int a1] σ (some (Value.int r.1)) r.2 := by
  refine kw_enter plRX10 (Nat.le_of_ble_eq_true rfl) ?_
  show kw_G E kwTM 21 d μX10_keepsNumber 0 [(0, .ref 0), (1, .int a1)] [] σ (some (Value.int r.1)) r.2
  unfold fX10_keepsNumber at h
  refine kg_aload_n 0 dX10_keepsNumber_0 rfl (pc2 := 1) rfl ?_
  refine kg_getr clX10 rfl 16 (Nat.le_of_ble_eq_true rfl) lfRX10_30 tM_0 eM_0 rfl dX10_keepsNumber_1 (pc2 := 4) rfl ?_
  refine kg_iconst dX10_keepsNumber_4 ki_3 (pc2 := 5) rfl ?_
  refine kg_aload_n 0 dX10_keepsNumber_5 rfl (pc2 := 6) rfl ?_
  refine kg_geti clX10 rfl 12 (Nat.le_of_ble_eq_true rfl) lfRX10_205 tM_0 eM_0 rfl dX10_keepsNumber_6 (pc2 := 9) rfl ?_
  refine kg_imul dX10_keepsNumber_9 (pc2 := 10) rfl ?_
  refine kg_iload_n 1 dX10_keepsNumber_10 rfl (pc2 := 11) rfl ?_
  refine kg_iadd dX10_keepsNumber_11 (pc2 := 12) rfl ?_
  refine kg_aload_n 0 dX10_keepsNumber_12 rfl (pc2 := 13) rfl ?_
  refine kg_getl clX10 rfl 14 (Nat.le_of_ble_eq_true rfl) lfRX10_200 tM_0 eM_0 rfl dX10_keepsNumber_13 (pc2 := 16) rfl ?_
  refine kg_l2i dX10_keepsNumber_16 (pc2 := 17) rfl ?_
  obtain ⟨q1, h⟩ := kw_chk_e h
  obtain ⟨s2, s2e, h⟩ := kw_let_e h
  refine kg_iast tM_7 eM_7 q1 (j := (((3 : Int32) * (σ.1 0 12)) + a1).toNatClampNeg) rfl s2e dX10_keepsNumber_17 (pc2 := 18) rfl ?_
  refine kg_iconst dX10_keepsNumber_18 ki_1 (pc2 := 19) rfl ?_
  cases h
  exact kg_iret (ty := .boolean) dX10_keepsNumber_19 rfl rfl
set_option maxHeartbeats 4000000 in
set_option maxRecDepth 100000 in
theorem gX10_readsRoad {E : kw_E} {d : Nat} (a1 : Int32) (σ : kw_M) {r : Int32 × kw_M} (h : fX10_readsRoad a1 σ = some r) : kw_Met E kwTM 21 (d + 3) μX10_readsRoad [.ref 0, .int a1] σ (some (Value.int r.1)) r.2 := by
  refine kw_enter plRX10 (Nat.le_of_ble_eq_true rfl) ?_
  show kw_G E kwTM 21 (d + 3) μX10_readsRoad 0 [(0, .ref 0), (1, .int a1)] [] σ (some (Value.int r.1)) r.2
  unfold fX10_readsRoad at h
  refine kg_aload_n 0 dX10_readsRoad_0 rfl (pc2 := 1) rfl ?_
  refine kg_lconst dX10_readsRoad_1 kl_0 (pc2 := 2) rfl ?_
  refine kg_iload_n 1 dX10_readsRoad_2 rfl (pc2 := 3) rfl ?_
  refine kg_iconst dX10_readsRoad_3 ki_1 (pc2 := 4) rfl ?_
  refine kg_isub dX10_readsRoad_4 (pc2 := 5) rfl ?_
  refine kg_i2l dX10_readsRoad_5 (pc2 := 6) rfl ?_
  obtain ⟨r1, r1h, h⟩ := kw_bind_e h
  refine kg_callV (μ := μX10_readsRoad) (d := (d + 2)) rfl mVX10_readsNumber [.long (0 : Int64), .long ((a1 - (1 : Int32)).toInt64)] [] (gX10_readsNumber (E := E) (d := d) (0 : Int64) ((a1 - (1 : Int32)).toInt64) σ r1h) rfl lmRX10_208 (ci := 10) rfl tM_0 eM_0 rfl (Nat.le_of_ble_eq_true rfl) dX10_readsRoad_6 rfl (st2 := [.int r1.1]) rfl (pc2 := 9) rfl ?_
  refine kg_if_ne 14 dX10_readsRoad_9 rfl (pc2 := 12) rfl (fun q2 => ?_) (fun q2 => ?_)
  · replace h := (if_neg q2).symm.trans h
    refine kg_aload_n 0 dX10_readsRoad_14 rfl (pc2 := 15) rfl ?_
    refine kg_getl clX10 rfl 14 (Nat.le_of_ble_eq_true rfl) lfRX10_200 tM_0 eM_0 rfl dX10_readsRoad_15 (pc2 := 18) rfl ?_
    obtain ⟨x3, x3e, h⟩ := kw_let_e h
    refine kg_lstore_n dX10_readsRoad_18 rfl (Nat.le_of_ble_eq_true rfl) x3e (lv2 := [(2, .long x3), (0, .ref 0), (1, .int a1)]) rfl (pc2 := 19) rfl ?_
    refine kg_aload_n 1 dX10_readsRoad_19 rfl (pc2 := 20) rfl ?_
    refine kg_iconst dX10_readsRoad_20 ki_0 (pc2 := 21) rfl ?_
    obtain ⟨r4, r4h, h⟩ := kw_bind_e h
    refine kg_callV (μ := μX10_readsRoad) (d := (d + 2)) rfl mVX10_keepsNumber [.int (0 : Int32)] [] (gX10_keepsNumber (E := E) (d := (d + 2)) (0 : Int32) r1.2 r4h) rfl lmRX10_212 (ci := 10) rfl tM_0 eM_0 rfl (Nat.le_of_ble_eq_true rfl) dX10_readsRoad_21 rfl (st2 := [.int r4.1]) rfl (pc2 := 24) rfl ?_
    refine kg_if_eq 39 dX10_readsRoad_24 rfl (pc2 := 27) rfl (fun q5 => ?_) (fun q5 => ?_)
    · replace h := (if_pos q5).symm.trans h
      refine kg_iconst dX10_readsRoad_39 ki_0 (pc2 := 40) rfl ?_
      cases h
      exact kg_iret (ty := .boolean) dX10_readsRoad_40 rfl rfl
    · replace h := (if_neg q5).symm.trans h
      refine kg_aload_n 1 dX10_readsRoad_27 rfl (pc2 := 28) rfl ?_
      refine kg_lconst dX10_readsRoad_28 kl_0 (pc2 := 29) rfl ?_
      refine kg_iload_n 2 dX10_readsRoad_29 rfl (pc2 := 30) rfl ?_
      refine kg_iconst dX10_readsRoad_30 ki_1 (pc2 := 31) rfl ?_
      refine kg_isub dX10_readsRoad_31 (pc2 := 32) rfl ?_
      refine kg_i2l dX10_readsRoad_32 (pc2 := 33) rfl ?_
      obtain ⟨r6, r6h, h⟩ := kw_bind_e h
      refine kg_callV (μ := μX10_readsRoad) (d := (d + 2)) rfl mVX10_readsNumber [.long (0 : Int64), .long ((a1 - (1 : Int32)).toInt64)] [] (gX10_readsNumber (E := E) (d := d) (0 : Int64) ((a1 - (1 : Int32)).toInt64) r4.2 r6h) rfl lmRX10_208 (ci := 10) rfl tM_0 eM_0 rfl (Nat.le_of_ble_eq_true rfl) dX10_readsRoad_33 rfl (st2 := [.int r6.1]) rfl (pc2 := 36) rfl ?_
      refine kg_if_ne 41 dX10_readsRoad_36 rfl (pc2 := 39) rfl (fun q7 => ?_) (fun q7 => ?_)
      · replace h := (if_neg q7).symm.trans h
        refine kg_aload_n 1 dX10_readsRoad_41 rfl (pc2 := 42) rfl ?_
        refine kg_getl clX10 rfl 14 (Nat.le_of_ble_eq_true rfl) lfRX10_200 tM_0 eM_0 rfl dX10_readsRoad_42 (pc2 := 45) rfl ?_
        refine kg_lload_n 0 dX10_readsRoad_45 rfl (pc2 := 46) rfl ?_
        refine kg_lcmp_ne 61 dX10_readsRoad_46 dX10_readsRoad_47 rfl (pc2 := 50) rfl (fun q8 => ?_) (fun q8 => ?_)
        · replace h := (if_neg q8).symm.trans h
          refine kg_aload_n 1 dX10_readsRoad_61 rfl (pc2 := 62) rfl ?_
          refine kg_iconst dX10_readsRoad_62 ki_1 (pc2 := 63) rfl ?_
          obtain ⟨r9, r9h, h⟩ := kw_bind_e h
          refine kg_callV (μ := μX10_readsRoad) (d := (d + 2)) rfl mVX10_keepsNumber [.int (1 : Int32)] [] (gX10_keepsNumber (E := E) (d := (d + 2)) (1 : Int32) r6.2 r9h) rfl lmRX10_212 (ci := 10) rfl tM_0 eM_0 rfl (Nat.le_of_ble_eq_true rfl) dX10_readsRoad_63 rfl (st2 := [.int r9.1]) rfl (pc2 := 66) rfl ?_
          refine kg_if_eq 94 dX10_readsRoad_66 rfl (pc2 := 69) rfl (fun q10 => ?_) (fun q10 => ?_)
          · replace h := (if_pos q10).symm.trans h
            refine kg_iconst dX10_readsRoad_94 ki_0 (pc2 := 95) rfl ?_
            cases h
            exact kg_iret (ty := .boolean) dX10_readsRoad_95 rfl rfl
          · replace h := (if_neg q10).symm.trans h
            refine kg_aload_n 1 dX10_readsRoad_69 rfl (pc2 := 70) rfl ?_
            refine kg_ldc2 rfl lcRX10_85 dX10_readsRoad_70 (pc2 := 73) rfl ?_
            refine kg_ldc2 rfl lcRX10_87 dX10_readsRoad_73 (pc2 := 76) rfl ?_
            obtain ⟨r11, r11h, h⟩ := kw_bind_e h
            refine kg_callV (μ := μX10_readsRoad) (d := (d + 2)) rfl mVX10_readsNumber [.long (-1000000000 : Int64), .long (1000000000 : Int64)] [] (gX10_readsNumber (E := E) (d := d) (-1000000000 : Int64) (1000000000 : Int64) r9.2 r11h) rfl lmRX10_208 (ci := 10) rfl tM_0 eM_0 rfl (Nat.le_of_ble_eq_true rfl) dX10_readsRoad_76 rfl (st2 := [.int r11.1]) rfl (pc2 := 79) rfl ?_
            refine kg_if_eq 94 dX10_readsRoad_79 rfl (pc2 := 82) rfl (fun q12 => ?_) (fun q12 => ?_)
            · replace h := (if_pos q12).symm.trans h
              refine kg_iconst dX10_readsRoad_94 ki_0 (pc2 := 95) rfl ?_
              cases h
              exact kg_iret (ty := .boolean) dX10_readsRoad_95 rfl rfl
            · replace h := (if_neg q12).symm.trans h
              refine kg_aload_n 1 dX10_readsRoad_82 rfl (pc2 := 83) rfl ?_
              refine kg_iconst dX10_readsRoad_83 ki_2 (pc2 := 84) rfl ?_
              obtain ⟨r13, r13h, h⟩ := kw_bind_e h
              refine kg_callV (μ := μX10_readsRoad) (d := (d + 2)) rfl mVX10_keepsNumber [.int (2 : Int32)] [] (gX10_keepsNumber (E := E) (d := (d + 2)) (2 : Int32) r11.2 r13h) rfl lmRX10_212 (ci := 10) rfl tM_0 eM_0 rfl (Nat.le_of_ble_eq_true rfl) dX10_readsRoad_84 rfl (st2 := [.int r13.1]) rfl (pc2 := 87) rfl ?_
              refine kg_if_eq 94 dX10_readsRoad_87 rfl (pc2 := 90) rfl (fun q14 => ?_) (fun q14 => ?_)
              · replace h := (if_pos q14).symm.trans h
                refine kg_iconst dX10_readsRoad_94 ki_0 (pc2 := 95) rfl ?_
                cases h
                exact kg_iret (ty := .boolean) dX10_readsRoad_95 rfl rfl
              · replace h := (if_neg q14).symm.trans h
                refine kg_iconst dX10_readsRoad_90 ki_1 (pc2 := 91) rfl ?_
                refine kg_goto 95 dX10_readsRoad_91 rfl ?_
                cases h
                exact kg_iret (ty := .boolean) dX10_readsRoad_95 rfl rfl
        · replace h := (if_pos q8).symm.trans h
          refine kg_aload_n 1 dX10_readsRoad_50 rfl (pc2 := 51) rfl ?_
          refine kg_bipush dX10_readsRoad_51 kb_6 (pc2 := 53) rfl ?_
          refine kg_aload_n 1 dX10_readsRoad_53 rfl (pc2 := 54) rfl ?_
          refine kg_geti clX10 rfl 10 (Nat.le_of_ble_eq_true rfl) lfRX10_193 tM_0 eM_0 rfl dX10_readsRoad_54 (pc2 := 57) rfl ?_
          obtain ⟨r15, r15h, h⟩ := kw_bind_e h
          refine kg_callV (μ := μX10_readsRoad) (d := (d + 2)) rfl mVX10_wrongAt [.int (6 : Int32), .int (r6.2.1 0 10)] [] (gX10_wrongAt (E := E) (d := (d + 2)) (6 : Int32) (r6.2.1 0 10) r6.2 r15h) rfl lmRX10_171 (ci := 10) rfl tM_0 eM_0 rfl (Nat.le_of_ble_eq_true rfl) dX10_readsRoad_57 rfl (st2 := [.int r15.1]) rfl (pc2 := 60) rfl ?_
          obtain ⟨q16, h⟩ := kw_chk_e h
          cases h
          exact kg_iret (ty := .boolean) dX10_readsRoad_60 rfl (kw_isB_n q16)
      · replace h := (if_pos q7).symm.trans h
        refine kg_iconst dX10_readsRoad_39 ki_0 (pc2 := 40) rfl ?_
        cases h
        exact kg_iret (ty := .boolean) dX10_readsRoad_40 rfl rfl
  · replace h := (if_pos q2).symm.trans h
    refine kg_iconst dX10_readsRoad_12 ki_0 (pc2 := 13) rfl ?_
    cases h
    exact kg_iret (ty := .boolean) dX10_readsRoad_13 rfl rfl
set_option maxHeartbeats 4000000 in
set_option maxRecDepth 100000 in
theorem gjX10_readsNet_61 {E : kw_E} {d : Nat} (σ : kw_M) {r : Int32 × kw_M} (h : jX10_readsNet_61 σ = some r) : kw_G E kwTM 21 (d + 4) μX10_readsNet 61 [(0, .ref 0)] [] σ (some (Value.int r.1)) r.2 := by
  unfold jX10_readsNet_61 at h
  refine kg_aload_n 0 dX10_readsNet_61 rfl (pc2 := 62) rfl ?_
  refine kg_getl clX10 rfl 13 (Nat.le_of_ble_eq_true rfl) lfRX10_178 tM_0 eM_0 rfl dX10_readsNet_62 (pc2 := 65) rfl ?_
  refine kg_ldc2 rfl lcRX10_227 dX10_readsNet_65 (pc2 := 68) rfl ?_
  refine kg_lcmp_ne 83 dX10_readsNet_68 dX10_readsNet_69 rfl (pc2 := 72) rfl (fun q5 => ?_) (fun q5 => ?_)
  · replace h := (if_neg q5).symm.trans h
    refine kg_aload_n 0 dX10_readsNet_83 rfl (pc2 := 84) rfl ?_
    refine kg_iconst dX10_readsNet_84 ki_1 (pc2 := 85) rfl ?_
    refine kg_aload_n 0 dX10_readsNet_85 rfl (pc2 := 86) rfl ?_
    refine kg_geti clX10 rfl 11 (Nat.le_of_ble_eq_true rfl) lfRX10_175 tM_0 eM_0 rfl dX10_readsNet_86 (pc2 := 89) rfl ?_
    obtain ⟨r6, r6h, h⟩ := kw_bind_e h
    refine kg_callV (μ := μX10_readsNet) (d := (d + 3)) rfl mVX10_wrongAt [.int (1 : Int32), .int (σ.1 0 11)] [] (gX10_wrongAt (E := E) (d := (d + 3)) (1 : Int32) (σ.1 0 11) σ r6h) rfl lmRX10_171 (ci := 10) rfl tM_0 eM_0 rfl (Nat.le_of_ble_eq_true rfl) dX10_readsNet_89 rfl (st2 := [.int r6.1]) rfl (pc2 := 92) rfl ?_
    obtain ⟨q7, h⟩ := kw_chk_e h
    cases h
    exact kg_iret (ty := .boolean) dX10_readsNet_92 rfl (kw_isB_n q7)
  · replace h := (if_pos q5).symm.trans h
    refine kg_aload_n 0 dX10_readsNet_72 rfl (pc2 := 73) rfl ?_
    refine kg_aload_n 0 dX10_readsNet_73 rfl (pc2 := 74) rfl ?_
    refine kg_geti clX10 rfl 17 (Nat.le_of_ble_eq_true rfl) lfRX10_224 tM_0 eM_0 rfl dX10_readsNet_74 (pc2 := 77) rfl ?_
    obtain ⟨r8, r8h, h⟩ := kw_bind_e h
    refine kg_callV (μ := μX10_readsNet) (d := (d + 3)) rfl mVX10_readsRoad [.int (σ.1 0 17)] [] (gX10_readsRoad (E := E) (d := d) (σ.1 0 17) σ r8h) rfl lmRX10_229 (ci := 10) rfl tM_0 eM_0 rfl (Nat.le_of_ble_eq_true rfl) dX10_readsNet_77 rfl (st2 := [.int r8.1]) rfl (pc2 := 80) rfl ?_
    refine kg_goto 92 dX10_readsNet_80 rfl ?_
    obtain ⟨q9, h⟩ := kw_chk_e h
    cases h
    exact kg_iret (ty := .boolean) dX10_readsNet_92 rfl (kw_isB_n q9)
set_option maxHeartbeats 4000000 in
set_option maxRecDepth 100000 in
theorem gX10_readsNet {E : kw_E} {d : Nat} (σ : kw_M) {r : Int32 × kw_M} (h : fX10_readsNet σ = some r) : kw_Met E kwTM 21 (d + 4) μX10_readsNet [.ref 0] σ (some (Value.int r.1)) r.2 := by
  refine kw_enter plRX10 (Nat.le_of_ble_eq_true rfl) ?_
  show kw_G E kwTM 21 (d + 4) μX10_readsNet 0 [(0, .ref 0)] [] σ (some (Value.int r.1)) r.2
  unfold fX10_readsNet at h
  refine kg_aload_n 0 dX10_readsNet_0 rfl (pc2 := 1) rfl ?_
  obtain ⟨r1, r1h, h⟩ := kw_bind_e h
  refine kg_callV (μ := μX10_readsNet) (d := (d + 3)) rfl mVX10_readsWord [] [] (gX10_readsWord (E := E) (d := (d + 2)) σ r1h) rfl lmRX10_215 (ci := 10) rfl tM_0 eM_0 rfl (Nat.le_of_ble_eq_true rfl) dX10_readsNet_1 rfl (st2 := []) rfl (pc2 := 4) rfl ?_
  refine kg_aload_n 0 dX10_readsNet_4 rfl (pc2 := 5) rfl ?_
  refine kg_getr clX10 rfl 15 (Nat.le_of_ble_eq_true rfl) lfRX10_27 tM_0 eM_0 rfl dX10_readsNet_5 (pc2 := 8) rfl ?_
  refine kg_aload_n 0 dX10_readsNet_8 rfl (pc2 := 9) rfl ?_
  refine kg_geti clX10 rfl 12 (Nat.le_of_ble_eq_true rfl) lfRX10_205 tM_0 eM_0 rfl dX10_readsNet_9 (pc2 := 12) rfl ?_
  refine kg_aload_n 0 dX10_readsNet_12 rfl (pc2 := 13) rfl ?_
  refine kg_getl clX10 rfl 13 (Nat.le_of_ble_eq_true rfl) lfRX10_178 tM_0 eM_0 rfl dX10_readsNet_13 (pc2 := 16) rfl ?_
  obtain ⟨q2, h⟩ := kw_chk_e h
  obtain ⟨s3, s3e, h⟩ := kw_let_e h
  refine kg_last tM_6 eM_6 q2 (j := (r1.1 0 12).toNatClampNeg) rfl s3e dX10_readsNet_16 (pc2 := 17) rfl ?_
  refine kg_aload_n 0 dX10_readsNet_17 rfl (pc2 := 18) rfl ?_
  refine kg_getl clX10 rfl 13 (Nat.le_of_ble_eq_true rfl) lfRX10_178 tM_0 eM_0 rfl dX10_readsNet_18 (pc2 := 21) rfl ?_
  refine kg_ldc2 rfl lcRX10_218 dX10_readsNet_21 (pc2 := 24) rfl ?_
  refine kg_lcmp_ne 61 dX10_readsNet_24 dX10_readsNet_25 rfl (pc2 := 28) rfl (fun q4 => ?_) (fun q4 => ?_)
  · replace h := (if_neg q4).symm.trans h
    exact gjX10_readsNet_61 s3 h
  · replace h := (if_pos q4).symm.trans h
    refine kg_aload_n 0 dX10_readsNet_28 rfl (pc2 := 29) rfl ?_
    refine kg_geti clX10 rfl 12 (Nat.le_of_ble_eq_true rfl) lfRX10_205 tM_0 eM_0 rfl dX10_readsNet_29 (pc2 := 32) rfl ?_
    refine kg_if_ne 61 dX10_readsNet_32 rfl (pc2 := 35) rfl (fun q10 => ?_) (fun q10 => ?_)
    · replace h := (if_neg q10).symm.trans h
      exact gjX10_readsNet_61 s3 h
    · replace h := (if_pos q10).symm.trans h
      refine kg_aload_n 0 dX10_readsNet_35 rfl (pc2 := 36) rfl ?_
      refine kg_ldc2 rfl lcRX10_220 dX10_readsNet_36 (pc2 := 39) rfl ?_
      refine kg_ldc2 rfl lcRX10_222 dX10_readsNet_39 (pc2 := 42) rfl ?_
      obtain ⟨r11, r11h, h⟩ := kw_bind_e h
      refine kg_callV (μ := μX10_readsNet) (d := (d + 3)) rfl mVX10_readsNumber [.long (2 : Int64), .long (12 : Int64)] [] (gX10_readsNumber (E := E) (d := (d + 1)) (2 : Int64) (12 : Int64) s3 r11h) rfl lmRX10_208 (ci := 10) rfl tM_0 eM_0 rfl (Nat.le_of_ble_eq_true rfl) dX10_readsNet_42 rfl (st2 := [.int r11.1]) rfl (pc2 := 45) rfl ?_
      refine kg_if_ne 50 dX10_readsNet_45 rfl (pc2 := 48) rfl (fun q12 => ?_) (fun q12 => ?_)
      · replace h := (if_neg q12).symm.trans h
        refine kg_aload_n 0 dX10_readsNet_50 rfl (pc2 := 51) rfl ?_
        refine kg_aload_n 0 dX10_readsNet_51 rfl (pc2 := 52) rfl ?_
        refine kg_getl clX10 rfl 14 (Nat.le_of_ble_eq_true rfl) lfRX10_200 tM_0 eM_0 rfl dX10_readsNet_52 (pc2 := 55) rfl ?_
        refine kg_l2i dX10_readsNet_55 (pc2 := 56) rfl ?_
        obtain ⟨s13, s13e, h⟩ := kw_let_e h
        refine kg_puti clX10 rfl 17 (Nat.le_of_ble_eq_true rfl) lfRX10_224 rfl tM_0 eM_0 rfl (ty := .int) (by decide +kernel) rfl rfl s13e dX10_readsNet_56 (pc2 := 59) rfl ?_
        refine kg_iconst dX10_readsNet_59 ki_1 (pc2 := 60) rfl ?_
        cases h
        exact kg_iret (ty := .boolean) dX10_readsNet_60 rfl rfl
      · replace h := (if_pos q12).symm.trans h
        refine kg_iconst dX10_readsNet_48 ki_0 (pc2 := 49) rfl ?_
        cases h
        exact kg_iret (ty := .boolean) dX10_readsNet_49 rfl rfl
set_option maxHeartbeats 4000000 in
set_option maxRecDepth 100000 in
theorem gjX10_readsOrder_108 {E : kw_E} {d : Nat} (σ : kw_M) {r : Int32 × kw_M} (h : jX10_readsOrder_108 σ = some r) : kw_G E kwTM 21 (d + 4) μX10_readsOrder 108 [(0, .ref 0)] [] σ (some (Value.int r.1)) r.2 := by
  unfold jX10_readsOrder_108 at h
  refine kg_aload_n 0 dX10_readsOrder_108 rfl (pc2 := 109) rfl ?_
  refine kg_lconst dX10_readsOrder_109 kl_0 (pc2 := 110) rfl ?_
  refine kg_ldc2 rfl lcRX10_236 dX10_readsOrder_110 (pc2 := 113) rfl ?_
  obtain ⟨r9, r9h, h⟩ := kw_bind_e h
  refine kg_callV (μ := μX10_readsOrder) (d := (d + 3)) rfl mVX10_readsNumber [.long (0 : Int64), .long (35 : Int64)] [] (gX10_readsNumber (E := E) (d := (d + 1)) (0 : Int64) (35 : Int64) σ r9h) rfl lmRX10_208 (ci := 10) rfl tM_0 eM_0 rfl (Nat.le_of_ble_eq_true rfl) dX10_readsOrder_113 rfl (st2 := [.int r9.1]) rfl (pc2 := 116) rfl ?_
  refine kg_if_eq 131 dX10_readsOrder_116 rfl (pc2 := 119) rfl (fun q10 => ?_) (fun q10 => ?_)
  · replace h := (if_pos q10).symm.trans h
    refine kg_iconst dX10_readsOrder_131 ki_0 (pc2 := 132) rfl ?_
    cases h
    exact kg_iret (ty := .boolean) dX10_readsOrder_132 rfl rfl
  · replace h := (if_neg q10).symm.trans h
    refine kg_aload_n 0 dX10_readsOrder_119 rfl (pc2 := 120) rfl ?_
    refine kg_iconst dX10_readsOrder_120 ki_0 (pc2 := 121) rfl ?_
    obtain ⟨r11, r11h, h⟩ := kw_bind_e h
    refine kg_callV (μ := μX10_readsOrder) (d := (d + 3)) rfl mVX10_keepsNumber [.int (0 : Int32)] [] (gX10_keepsNumber (E := E) (d := (d + 3)) (0 : Int32) r9.2 r11h) rfl lmRX10_212 (ci := 10) rfl tM_0 eM_0 rfl (Nat.le_of_ble_eq_true rfl) dX10_readsOrder_121 rfl (st2 := [.int r11.1]) rfl (pc2 := 124) rfl ?_
    refine kg_if_eq 131 dX10_readsOrder_124 rfl (pc2 := 127) rfl (fun q12 => ?_) (fun q12 => ?_)
    · replace h := (if_pos q12).symm.trans h
      refine kg_iconst dX10_readsOrder_131 ki_0 (pc2 := 132) rfl ?_
      cases h
      exact kg_iret (ty := .boolean) dX10_readsOrder_132 rfl rfl
    · replace h := (if_neg q12).symm.trans h
      refine kg_iconst dX10_readsOrder_127 ki_1 (pc2 := 128) rfl ?_
      refine kg_goto 132 dX10_readsOrder_128 rfl ?_
      cases h
      exact kg_iret (ty := .boolean) dX10_readsOrder_132 rfl rfl
set_option maxHeartbeats 4000000 in
set_option maxRecDepth 100000 in
theorem gjX10_readsOrder_149 {E : kw_E} {d : Nat} (v3 : Int32) (σ : kw_M) {r : Int32 × kw_M} (h : jX10_readsOrder_149 v3 σ = some r) : kw_G E kwTM 21 (d + 4) μX10_readsOrder 149 [(0, .ref 0), (3, .int v3)] [] σ (some (Value.int r.1)) r.2 := by
  unfold jX10_readsOrder_149 at h
  refine kg_aload_n 0 dX10_readsOrder_149 rfl (pc2 := 150) rfl ?_
  refine kg_lconst dX10_readsOrder_150 kl_0 (pc2 := 151) rfl ?_
  refine kg_iload_n 1 dX10_readsOrder_151 rfl (pc2 := 152) rfl ?_
  refine kg_iconst dX10_readsOrder_152 ki_1 (pc2 := 153) rfl ?_
  refine kg_isub dX10_readsOrder_153 (pc2 := 154) rfl ?_
  refine kg_i2l dX10_readsOrder_154 (pc2 := 155) rfl ?_
  obtain ⟨r15, r15h, h⟩ := kw_bind_e h
  refine kg_callV (μ := μX10_readsOrder) (d := (d + 3)) rfl mVX10_readsNumber [.long (0 : Int64), .long ((v3 - (1 : Int32)).toInt64)] [] (gX10_readsNumber (E := E) (d := (d + 1)) (0 : Int64) ((v3 - (1 : Int32)).toInt64) σ r15h) rfl lmRX10_208 (ci := 10) rfl tM_0 eM_0 rfl (Nat.le_of_ble_eq_true rfl) dX10_readsOrder_155 rfl (st2 := [.int r15.1]) rfl (pc2 := 158) rfl ?_
  refine kg_if_eq 173 dX10_readsOrder_158 rfl (pc2 := 161) rfl (fun q16 => ?_) (fun q16 => ?_)
  · replace h := (if_pos q16).symm.trans h
    refine kg_iconst dX10_readsOrder_173 ki_0 (pc2 := 174) rfl ?_
    cases h
    exact kg_iret (ty := .boolean) dX10_readsOrder_174 rfl rfl
  · replace h := (if_neg q16).symm.trans h
    refine kg_aload_n 0 dX10_readsOrder_161 rfl (pc2 := 162) rfl ?_
    refine kg_iconst dX10_readsOrder_162 ki_0 (pc2 := 163) rfl ?_
    obtain ⟨r17, r17h, h⟩ := kw_bind_e h
    refine kg_callV (μ := μX10_readsOrder) (d := (d + 3)) rfl mVX10_keepsNumber [.int (0 : Int32)] [] (gX10_keepsNumber (E := E) (d := (d + 3)) (0 : Int32) r15.2 r17h) rfl lmRX10_212 (ci := 10) rfl tM_0 eM_0 rfl (Nat.le_of_ble_eq_true rfl) dX10_readsOrder_163 rfl (st2 := [.int r17.1]) rfl (pc2 := 166) rfl ?_
    refine kg_if_eq 173 dX10_readsOrder_166 rfl (pc2 := 169) rfl (fun q18 => ?_) (fun q18 => ?_)
    · replace h := (if_pos q18).symm.trans h
      refine kg_iconst dX10_readsOrder_173 ki_0 (pc2 := 174) rfl ?_
      cases h
      exact kg_iret (ty := .boolean) dX10_readsOrder_174 rfl rfl
    · replace h := (if_neg q18).symm.trans h
      refine kg_iconst dX10_readsOrder_169 ki_1 (pc2 := 170) rfl ?_
      refine kg_goto 174 dX10_readsOrder_170 rfl ?_
      cases h
      exact kg_iret (ty := .boolean) dX10_readsOrder_174 rfl rfl
set_option maxHeartbeats 4000000 in
set_option maxRecDepth 100000 in
theorem gX10_readsOrder {E : kw_E} {d : Nat} (σ : kw_M) {r : Int32 × kw_M} (h : fX10_readsOrder σ = some r) : kw_Met E kwTM 21 (d + 4) μX10_readsOrder [.ref 0] σ (some (Value.int r.1)) r.2 := by
  refine kw_enter plRX10 (Nat.le_of_ble_eq_true rfl) ?_
  show kw_G E kwTM 21 (d + 4) μX10_readsOrder 0 [(0, .ref 0)] [] σ (some (Value.int r.1)) r.2
  unfold fX10_readsOrder at h
  refine kg_aload_n 0 dX10_readsOrder_0 rfl (pc2 := 1) rfl ?_
  obtain ⟨r1, r1h, h⟩ := kw_bind_e h
  refine kg_callV (μ := μX10_readsOrder) (d := (d + 3)) rfl mVX10_readsWord [] [] (gX10_readsWord (E := E) (d := (d + 2)) σ r1h) rfl lmRX10_215 (ci := 10) rfl tM_0 eM_0 rfl (Nat.le_of_ble_eq_true rfl) dX10_readsOrder_1 rfl (st2 := []) rfl (pc2 := 4) rfl ?_
  refine kg_aload_n 0 dX10_readsOrder_4 rfl (pc2 := 5) rfl ?_
  refine kg_getl clX10 rfl 13 (Nat.le_of_ble_eq_true rfl) lfRX10_178 tM_0 eM_0 rfl dX10_readsOrder_5 (pc2 := 8) rfl ?_
  obtain ⟨x2, x2e, h⟩ := kw_let_e h
  refine kg_lstore_n dX10_readsOrder_8 rfl (Nat.le_of_ble_eq_true rfl) x2e (lv2 := [(1, .long x2), (0, .ref 0)]) rfl (pc2 := 9) rfl ?_
  refine kg_aload_n 1 dX10_readsOrder_9 rfl (pc2 := 10) rfl ?_
  refine kg_getr clX10 rfl 15 (Nat.le_of_ble_eq_true rfl) lfRX10_27 tM_0 eM_0 rfl dX10_readsOrder_10 (pc2 := 13) rfl ?_
  refine kg_aload_n 1 dX10_readsOrder_13 rfl (pc2 := 14) rfl ?_
  refine kg_geti clX10 rfl 12 (Nat.le_of_ble_eq_true rfl) lfRX10_205 tM_0 eM_0 rfl dX10_readsOrder_14 (pc2 := 17) rfl ?_
  refine kg_lload_n 0 dX10_readsOrder_17 rfl (pc2 := 18) rfl ?_
  obtain ⟨q3, h⟩ := kw_chk_e h
  obtain ⟨s4, s4e, h⟩ := kw_let_e h
  refine kg_last tM_6 eM_6 q3 (j := (r1.1 0 12).toNatClampNeg) rfl s4e dX10_readsOrder_18 (pc2 := 19) rfl ?_
  refine kg_aload_n 1 dX10_readsOrder_19 rfl (pc2 := 20) rfl ?_
  obtain ⟨r5, r5h, h⟩ := kw_bind_e h
  refine kg_callV (μ := μX10_readsOrder) (d := (d + 3)) rfl mVX10_towns [] [] (gX10_towns (E := E) (d := (d + 3)) s4 r5h) rfl lmRX10_77 (ci := 10) rfl tM_0 eM_0 rfl (Nat.le_of_ble_eq_true rfl) dX10_readsOrder_20 rfl (st2 := [.int r5]) rfl (pc2 := 23) rfl ?_
  refine kg_istore_n dX10_readsOrder_23 rfl (Nat.le_of_ble_eq_true rfl) rfl (lv2 := [(3, .int r5), (1, .long x2), (0, .ref 0)]) rfl (pc2 := 24) rfl ?_
  refine kg_lload_n 1 dX10_readsOrder_24 rfl (pc2 := 25) rfl ?_
  refine kg_ldc2 rfl lcRX10_232 dX10_readsOrder_25 (pc2 := 28) rfl ?_
  refine kg_lcmp_ne 38 dX10_readsOrder_28 dX10_readsOrder_29 rfl (pc2 := 32) rfl (fun q6 => ?_) (fun q6 => ?_)
  · replace h := (if_neg q6).symm.trans h
    refine kg_lload_n 1 dX10_readsOrder_38 rfl (pc2 := 39) rfl ?_
    refine kg_ldc2 rfl lcRX10_234 dX10_readsOrder_39 (pc2 := 42) rfl ?_
    refine kg_lcmp_ne 92 dX10_readsOrder_42 dX10_readsOrder_43 rfl (pc2 := 46) rfl (fun q7 => ?_) (fun q7 => ?_)
    · replace h := (if_neg q7).symm.trans h
      refine kg_lload_n 1 dX10_readsOrder_92 rfl (pc2 := 93) rfl ?_
      refine kg_ldc2 rfl lcRX10_238 dX10_readsOrder_93 (pc2 := 96) rfl ?_
      refine kg_lcmp_eq 108 dX10_readsOrder_96 dX10_readsOrder_97 rfl (pc2 := 100) rfl (fun q8 => ?_) (fun q8 => ?_)
      · replace h := (if_pos q8).symm.trans h
        refine kg_sub [2] (lv2 := [(0, .ref 0)]) rfl ?_
        exact gjX10_readsOrder_108 s4 h
      · replace h := (if_neg q8).symm.trans h
        refine kg_lload_n 1 dX10_readsOrder_100 rfl (pc2 := 101) rfl ?_
        refine kg_ldc2 rfl lcRX10_240 dX10_readsOrder_101 (pc2 := 104) rfl ?_
        refine kg_lcmp_ne 133 dX10_readsOrder_104 dX10_readsOrder_105 rfl (pc2 := 108) rfl (fun q13 => ?_) (fun q13 => ?_)
        · replace h := (if_neg q13).symm.trans h
          refine kg_lload_n 1 dX10_readsOrder_133 rfl (pc2 := 134) rfl ?_
          refine kg_ldc2 rfl lcRX10_242 dX10_readsOrder_134 (pc2 := 137) rfl ?_
          refine kg_lcmp_eq 149 dX10_readsOrder_137 dX10_readsOrder_138 rfl (pc2 := 141) rfl (fun q14 => ?_) (fun q14 => ?_)
          · replace h := (if_pos q14).symm.trans h
            refine kg_sub [2, 0] (lv2 := [(0, .ref 0), (3, .int r5)]) rfl ?_
            exact gjX10_readsOrder_149 r5 s4 h
          · replace h := (if_neg q14).symm.trans h
            refine kg_lload_n 1 dX10_readsOrder_141 rfl (pc2 := 142) rfl ?_
            refine kg_ldc2 rfl lcRX10_244 dX10_readsOrder_142 (pc2 := 145) rfl ?_
            refine kg_lcmp_ne 175 dX10_readsOrder_145 dX10_readsOrder_146 rfl (pc2 := 149) rfl (fun q19 => ?_) (fun q19 => ?_)
            · replace h := (if_neg q19).symm.trans h
              refine kg_lload_n 1 dX10_readsOrder_175 rfl (pc2 := 176) rfl ?_
              refine kg_ldc2 rfl lcRX10_246 dX10_readsOrder_176 (pc2 := 179) rfl ?_
              refine kg_lcmp_ne 230 dX10_readsOrder_179 dX10_readsOrder_180 rfl (pc2 := 183) rfl (fun q20 => ?_) (fun q20 => ?_)
              · replace h := (if_neg q20).symm.trans h
                refine kg_aload_n 2 dX10_readsOrder_230 rfl (pc2 := 231) rfl ?_
                refine kg_iconst dX10_readsOrder_231 ki_1 (pc2 := 232) rfl ?_
                refine kg_aload_n 2 dX10_readsOrder_232 rfl (pc2 := 233) rfl ?_
                refine kg_geti clX10 rfl 11 (Nat.le_of_ble_eq_true rfl) lfRX10_175 tM_0 eM_0 rfl dX10_readsOrder_233 (pc2 := 236) rfl ?_
                obtain ⟨r21, r21h, h⟩ := kw_bind_e h
                refine kg_callV (μ := μX10_readsOrder) (d := (d + 3)) rfl mVX10_wrongAt [.int (1 : Int32), .int (s4.1 0 11)] [] (gX10_wrongAt (E := E) (d := (d + 3)) (1 : Int32) (s4.1 0 11) s4 r21h) rfl lmRX10_171 (ci := 10) rfl tM_0 eM_0 rfl (Nat.le_of_ble_eq_true rfl) dX10_readsOrder_236 rfl (st2 := [.int r21.1]) rfl (pc2 := 239) rfl ?_
                obtain ⟨q22, h⟩ := kw_chk_e h
                cases h
                exact kg_iret (ty := .boolean) dX10_readsOrder_239 rfl (kw_isB_n q22)
              · replace h := (if_pos q20).symm.trans h
                refine kg_aload_n 2 dX10_readsOrder_183 rfl (pc2 := 184) rfl ?_
                refine kg_lconst dX10_readsOrder_184 kl_0 (pc2 := 185) rfl ?_
                refine kg_iload_n 0 dX10_readsOrder_185 rfl (pc2 := 186) rfl ?_
                refine kg_iconst dX10_readsOrder_186 ki_1 (pc2 := 187) rfl ?_
                refine kg_isub dX10_readsOrder_187 (pc2 := 188) rfl ?_
                refine kg_i2l dX10_readsOrder_188 (pc2 := 189) rfl ?_
                obtain ⟨r23, r23h, h⟩ := kw_bind_e h
                refine kg_callV (μ := μX10_readsOrder) (d := (d + 3)) rfl mVX10_readsNumber [.long (0 : Int64), .long ((r5 - (1 : Int32)).toInt64)] [] (gX10_readsNumber (E := E) (d := (d + 1)) (0 : Int64) ((r5 - (1 : Int32)).toInt64) s4 r23h) rfl lmRX10_208 (ci := 10) rfl tM_0 eM_0 rfl (Nat.le_of_ble_eq_true rfl) dX10_readsOrder_189 rfl (st2 := [.int r23.1]) rfl (pc2 := 192) rfl ?_
                refine kg_if_eq 228 dX10_readsOrder_192 rfl (pc2 := 195) rfl (fun q24 => ?_) (fun q24 => ?_)
                · replace h := (if_pos q24).symm.trans h
                  refine kg_iconst dX10_readsOrder_228 ki_0 (pc2 := 229) rfl ?_
                  cases h
                  exact kg_iret (ty := .boolean) dX10_readsOrder_229 rfl rfl
                · replace h := (if_neg q24).symm.trans h
                  refine kg_aload_n 2 dX10_readsOrder_195 rfl (pc2 := 196) rfl ?_
                  refine kg_iconst dX10_readsOrder_196 ki_0 (pc2 := 197) rfl ?_
                  obtain ⟨r25, r25h, h⟩ := kw_bind_e h
                  refine kg_callV (μ := μX10_readsOrder) (d := (d + 3)) rfl mVX10_keepsNumber [.int (0 : Int32)] [] (gX10_keepsNumber (E := E) (d := (d + 3)) (0 : Int32) r23.2 r25h) rfl lmRX10_212 (ci := 10) rfl tM_0 eM_0 rfl (Nat.le_of_ble_eq_true rfl) dX10_readsOrder_197 rfl (st2 := [.int r25.1]) rfl (pc2 := 200) rfl ?_
                  refine kg_if_eq 228 dX10_readsOrder_200 rfl (pc2 := 203) rfl (fun q26 => ?_) (fun q26 => ?_)
                  · replace h := (if_pos q26).symm.trans h
                    refine kg_iconst dX10_readsOrder_228 ki_0 (pc2 := 229) rfl ?_
                    cases h
                    exact kg_iret (ty := .boolean) dX10_readsOrder_229 rfl rfl
                  · replace h := (if_neg q26).symm.trans h
                    refine kg_aload_n 2 dX10_readsOrder_203 rfl (pc2 := 204) rfl ?_
                    refine kg_ldc2 rfl lcRX10_85 dX10_readsOrder_204 (pc2 := 207) rfl ?_
                    refine kg_ldc2 rfl lcRX10_87 dX10_readsOrder_207 (pc2 := 210) rfl ?_
                    obtain ⟨r27, r27h, h⟩ := kw_bind_e h
                    refine kg_callV (μ := μX10_readsOrder) (d := (d + 3)) rfl mVX10_readsNumber [.long (-1000000000 : Int64), .long (1000000000 : Int64)] [] (gX10_readsNumber (E := E) (d := (d + 1)) (-1000000000 : Int64) (1000000000 : Int64) r25.2 r27h) rfl lmRX10_208 (ci := 10) rfl tM_0 eM_0 rfl (Nat.le_of_ble_eq_true rfl) dX10_readsOrder_210 rfl (st2 := [.int r27.1]) rfl (pc2 := 213) rfl ?_
                    refine kg_if_eq 228 dX10_readsOrder_213 rfl (pc2 := 216) rfl (fun q28 => ?_) (fun q28 => ?_)
                    · replace h := (if_pos q28).symm.trans h
                      refine kg_iconst dX10_readsOrder_228 ki_0 (pc2 := 229) rfl ?_
                      cases h
                      exact kg_iret (ty := .boolean) dX10_readsOrder_229 rfl rfl
                    · replace h := (if_neg q28).symm.trans h
                      refine kg_aload_n 2 dX10_readsOrder_216 rfl (pc2 := 217) rfl ?_
                      refine kg_iconst dX10_readsOrder_217 ki_1 (pc2 := 218) rfl ?_
                      obtain ⟨r29, r29h, h⟩ := kw_bind_e h
                      refine kg_callV (μ := μX10_readsOrder) (d := (d + 3)) rfl mVX10_keepsNumber [.int (1 : Int32)] [] (gX10_keepsNumber (E := E) (d := (d + 3)) (1 : Int32) r27.2 r29h) rfl lmRX10_212 (ci := 10) rfl tM_0 eM_0 rfl (Nat.le_of_ble_eq_true rfl) dX10_readsOrder_218 rfl (st2 := [.int r29.1]) rfl (pc2 := 221) rfl ?_
                      refine kg_if_eq 228 dX10_readsOrder_221 rfl (pc2 := 224) rfl (fun q30 => ?_) (fun q30 => ?_)
                      · replace h := (if_pos q30).symm.trans h
                        refine kg_iconst dX10_readsOrder_228 ki_0 (pc2 := 229) rfl ?_
                        cases h
                        exact kg_iret (ty := .boolean) dX10_readsOrder_229 rfl rfl
                      · replace h := (if_neg q30).symm.trans h
                        refine kg_iconst dX10_readsOrder_224 ki_1 (pc2 := 225) rfl ?_
                        refine kg_goto 229 dX10_readsOrder_225 rfl ?_
                        cases h
                        exact kg_iret (ty := .boolean) dX10_readsOrder_229 rfl rfl
            · replace h := (if_pos q19).symm.trans h
              refine kg_sub [2, 0] (lv2 := [(0, .ref 0), (3, .int r5)]) rfl ?_
              exact gjX10_readsOrder_149 r5 s4 h
        · replace h := (if_pos q13).symm.trans h
          refine kg_sub [2] (lv2 := [(0, .ref 0)]) rfl ?_
          exact gjX10_readsOrder_108 s4 h
    · replace h := (if_pos q7).symm.trans h
      refine kg_aload_n 2 dX10_readsOrder_46 rfl (pc2 := 47) rfl ?_
      refine kg_lconst dX10_readsOrder_47 kl_0 (pc2 := 48) rfl ?_
      refine kg_ldc2 rfl lcRX10_236 dX10_readsOrder_48 (pc2 := 51) rfl ?_
      obtain ⟨r31, r31h, h⟩ := kw_bind_e h
      refine kg_callV (μ := μX10_readsOrder) (d := (d + 3)) rfl mVX10_readsNumber [.long (0 : Int64), .long (35 : Int64)] [] (gX10_readsNumber (E := E) (d := (d + 1)) (0 : Int64) (35 : Int64) s4 r31h) rfl lmRX10_208 (ci := 10) rfl tM_0 eM_0 rfl (Nat.le_of_ble_eq_true rfl) dX10_readsOrder_51 rfl (st2 := [.int r31.1]) rfl (pc2 := 54) rfl ?_
      refine kg_if_eq 90 dX10_readsOrder_54 rfl (pc2 := 57) rfl (fun q32 => ?_) (fun q32 => ?_)
      · replace h := (if_pos q32).symm.trans h
        refine kg_iconst dX10_readsOrder_90 ki_0 (pc2 := 91) rfl ?_
        cases h
        exact kg_iret (ty := .boolean) dX10_readsOrder_91 rfl rfl
      · replace h := (if_neg q32).symm.trans h
        refine kg_aload_n 2 dX10_readsOrder_57 rfl (pc2 := 58) rfl ?_
        refine kg_iconst dX10_readsOrder_58 ki_0 (pc2 := 59) rfl ?_
        obtain ⟨r33, r33h, h⟩ := kw_bind_e h
        refine kg_callV (μ := μX10_readsOrder) (d := (d + 3)) rfl mVX10_keepsNumber [.int (0 : Int32)] [] (gX10_keepsNumber (E := E) (d := (d + 3)) (0 : Int32) r31.2 r33h) rfl lmRX10_212 (ci := 10) rfl tM_0 eM_0 rfl (Nat.le_of_ble_eq_true rfl) dX10_readsOrder_59 rfl (st2 := [.int r33.1]) rfl (pc2 := 62) rfl ?_
        refine kg_if_eq 90 dX10_readsOrder_62 rfl (pc2 := 65) rfl (fun q34 => ?_) (fun q34 => ?_)
        · replace h := (if_pos q34).symm.trans h
          refine kg_iconst dX10_readsOrder_90 ki_0 (pc2 := 91) rfl ?_
          cases h
          exact kg_iret (ty := .boolean) dX10_readsOrder_91 rfl rfl
        · replace h := (if_neg q34).symm.trans h
          refine kg_aload_n 2 dX10_readsOrder_65 rfl (pc2 := 66) rfl ?_
          refine kg_ldc2 rfl lcRX10_85 dX10_readsOrder_66 (pc2 := 69) rfl ?_
          refine kg_ldc2 rfl lcRX10_87 dX10_readsOrder_69 (pc2 := 72) rfl ?_
          obtain ⟨r35, r35h, h⟩ := kw_bind_e h
          refine kg_callV (μ := μX10_readsOrder) (d := (d + 3)) rfl mVX10_readsNumber [.long (-1000000000 : Int64), .long (1000000000 : Int64)] [] (gX10_readsNumber (E := E) (d := (d + 1)) (-1000000000 : Int64) (1000000000 : Int64) r33.2 r35h) rfl lmRX10_208 (ci := 10) rfl tM_0 eM_0 rfl (Nat.le_of_ble_eq_true rfl) dX10_readsOrder_72 rfl (st2 := [.int r35.1]) rfl (pc2 := 75) rfl ?_
          refine kg_if_eq 90 dX10_readsOrder_75 rfl (pc2 := 78) rfl (fun q36 => ?_) (fun q36 => ?_)
          · replace h := (if_pos q36).symm.trans h
            refine kg_iconst dX10_readsOrder_90 ki_0 (pc2 := 91) rfl ?_
            cases h
            exact kg_iret (ty := .boolean) dX10_readsOrder_91 rfl rfl
          · replace h := (if_neg q36).symm.trans h
            refine kg_aload_n 2 dX10_readsOrder_78 rfl (pc2 := 79) rfl ?_
            refine kg_iconst dX10_readsOrder_79 ki_1 (pc2 := 80) rfl ?_
            obtain ⟨r37, r37h, h⟩ := kw_bind_e h
            refine kg_callV (μ := μX10_readsOrder) (d := (d + 3)) rfl mVX10_keepsNumber [.int (1 : Int32)] [] (gX10_keepsNumber (E := E) (d := (d + 3)) (1 : Int32) r35.2 r37h) rfl lmRX10_212 (ci := 10) rfl tM_0 eM_0 rfl (Nat.le_of_ble_eq_true rfl) dX10_readsOrder_80 rfl (st2 := [.int r37.1]) rfl (pc2 := 83) rfl ?_
            refine kg_if_eq 90 dX10_readsOrder_83 rfl (pc2 := 86) rfl (fun q38 => ?_) (fun q38 => ?_)
            · replace h := (if_pos q38).symm.trans h
              refine kg_iconst dX10_readsOrder_90 ki_0 (pc2 := 91) rfl ?_
              cases h
              exact kg_iret (ty := .boolean) dX10_readsOrder_91 rfl rfl
            · replace h := (if_neg q38).symm.trans h
              refine kg_iconst dX10_readsOrder_86 ki_1 (pc2 := 87) rfl ?_
              refine kg_goto 91 dX10_readsOrder_87 rfl ?_
              cases h
              exact kg_iret (ty := .boolean) dX10_readsOrder_91 rfl rfl
  · replace h := (if_pos q6).symm.trans h
    refine kg_aload_n 2 dX10_readsOrder_32 rfl (pc2 := 33) rfl ?_
    refine kg_iload_n 0 dX10_readsOrder_33 rfl (pc2 := 34) rfl ?_
    obtain ⟨r39, r39h, h⟩ := kw_bind_e h
    refine kg_callV (μ := μX10_readsOrder) (d := (d + 3)) rfl mVX10_readsRoad [.int r5] [] (gX10_readsRoad (E := E) (d := d) r5 s4 r39h) rfl lmRX10_229 (ci := 10) rfl tM_0 eM_0 rfl (Nat.le_of_ble_eq_true rfl) dX10_readsOrder_34 rfl (st2 := [.int r39.1]) rfl (pc2 := 37) rfl ?_
    obtain ⟨q40, h⟩ := kw_chk_e h
    cases h
    exact kg_iret (ty := .boolean) dX10_readsOrder_37 rfl (kw_isB_n q40)
