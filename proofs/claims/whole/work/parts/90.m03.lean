/-! The reference, method by method: the machine does what f says (g). -/
set_option maxHeartbeats 4000000 in
set_option maxRecDepth 100000 in
theorem gX10_readsClause {E : kw_E} {d : Nat} (a1 : Int32) (σ : kw_M) {r : Int32 × kw_M} (h : fX10_readsClause a1 σ = some r) : kw_Met E kwTM 21 (d + 5) μX10_readsClause [.ref 0, .int a1] σ (some (Value.int r.1)) r.2 := by
  refine kw_enter plRX10 (Nat.le_of_ble_eq_true rfl) ?_
  show kw_G E kwTM 21 (d + 5) μX10_readsClause 0 [(0, .ref 0), (1, .int a1)] [] σ (some (Value.int r.1)) r.2
  unfold fX10_readsClause at h
  refine kg_aload_n 0 dX10_readsClause_0 rfl (pc2 := 1) rfl ?_
  refine kg_geti clX10 rfl 12 (Nat.le_of_ble_eq_true rfl) lfRX10_205 tM_0 eM_0 rfl dX10_readsClause_1 (pc2 := 4) rfl ?_
  refine kg_bipush dX10_readsClause_4 kb_24 (pc2 := 6) rfl ?_
  refine kg_icmp_ne 19 dX10_readsClause_6 rfl (pc2 := 9) rfl (fun q1 => ?_) (fun q1 => ?_)
  · replace h := (if_neg q1).symm.trans h
    refine kg_iload_n 1 dX10_readsClause_19 rfl (pc2 := 20) rfl ?_
    refine kg_if_eq 33 dX10_readsClause_20 rfl (pc2 := 23) rfl (fun q2 => ?_) (fun q2 => ?_)
    · replace h := (if_pos q2).symm.trans h
      refine kg_aload_n 0 dX10_readsClause_33 rfl (pc2 := 34) rfl ?_
      obtain ⟨r3, r3h, h⟩ := kw_bind_e h
      refine kg_callV (μ := μX10_readsClause) (d := (d + 4)) rfl mVX10_readsOrder [] [] (gX10_readsOrder (E := E) (d := d) σ r3h) rfl lmRX10_251 (ci := 10) rfl tM_0 eM_0 rfl (Nat.le_of_ble_eq_true rfl) dX10_readsClause_34 rfl (st2 := [.int r3.1]) rfl (pc2 := 37) rfl ?_
      refine kg_if_ne 42 dX10_readsClause_37 rfl (pc2 := 40) rfl (fun q4 => ?_) (fun q4 => ?_)
      · replace h := (if_neg q4).symm.trans h
        refine kg_aload_n 0 dX10_readsClause_42 rfl (pc2 := 43) rfl ?_
        refine kg_aload_n 0 dX10_readsClause_43 rfl (pc2 := 44) rfl ?_
        refine kg_geti clX10 rfl 12 (Nat.le_of_ble_eq_true rfl) lfRX10_205 tM_0 eM_0 rfl dX10_readsClause_44 (pc2 := 47) rfl ?_
        refine kg_iconst dX10_readsClause_47 ki_1 (pc2 := 48) rfl ?_
        refine kg_iadd dX10_readsClause_48 (pc2 := 49) rfl ?_
        obtain ⟨s5, s5e, h⟩ := kw_let_e h
        refine kg_puti clX10 rfl 12 (Nat.le_of_ble_eq_true rfl) lfRX10_205 rfl tM_0 eM_0 rfl (ty := .int) (by decide +kernel) rfl rfl s5e dX10_readsClause_49 (pc2 := 52) rfl ?_
        refine kg_iconst dX10_readsClause_52 ki_1 (pc2 := 53) rfl ?_
        cases h
        exact kg_iret (ty := .boolean) dX10_readsClause_53 rfl rfl
      · replace h := (if_pos q4).symm.trans h
        refine kg_iconst dX10_readsClause_40 ki_0 (pc2 := 41) rfl ?_
        cases h
        exact kg_iret (ty := .boolean) dX10_readsClause_41 rfl rfl
    · replace h := (if_neg q2).symm.trans h
      refine kg_aload_n 0 dX10_readsClause_23 rfl (pc2 := 24) rfl ?_
      obtain ⟨r6, r6h, h⟩ := kw_bind_e h
      refine kg_callV (μ := μX10_readsClause) (d := (d + 4)) rfl mVX10_readsNet [] [] (gX10_readsNet (E := E) (d := d) σ r6h) rfl lmRX10_248 (ci := 10) rfl tM_0 eM_0 rfl (Nat.le_of_ble_eq_true rfl) dX10_readsClause_24 rfl (st2 := [.int r6.1]) rfl (pc2 := 27) rfl ?_
      refine kg_if_eq 40 dX10_readsClause_27 rfl (pc2 := 30) rfl (fun q7 => ?_) (fun q7 => ?_)
      · replace h := (if_pos q7).symm.trans h
        refine kg_iconst dX10_readsClause_40 ki_0 (pc2 := 41) rfl ?_
        cases h
        exact kg_iret (ty := .boolean) dX10_readsClause_41 rfl rfl
      · replace h := (if_neg q7).symm.trans h
        refine kg_goto 42 dX10_readsClause_30 rfl ?_
        refine kg_aload_n 0 dX10_readsClause_42 rfl (pc2 := 43) rfl ?_
        refine kg_aload_n 0 dX10_readsClause_43 rfl (pc2 := 44) rfl ?_
        refine kg_geti clX10 rfl 12 (Nat.le_of_ble_eq_true rfl) lfRX10_205 tM_0 eM_0 rfl dX10_readsClause_44 (pc2 := 47) rfl ?_
        refine kg_iconst dX10_readsClause_47 ki_1 (pc2 := 48) rfl ?_
        refine kg_iadd dX10_readsClause_48 (pc2 := 49) rfl ?_
        obtain ⟨s8, s8e, h⟩ := kw_let_e h
        refine kg_puti clX10 rfl 12 (Nat.le_of_ble_eq_true rfl) lfRX10_205 rfl tM_0 eM_0 rfl (ty := .int) (by decide +kernel) rfl rfl s8e dX10_readsClause_49 (pc2 := 52) rfl ?_
        refine kg_iconst dX10_readsClause_52 ki_1 (pc2 := 53) rfl ?_
        cases h
        exact kg_iret (ty := .boolean) dX10_readsClause_53 rfl rfl
  · replace h := (if_pos q1).symm.trans h
    refine kg_aload_n 0 dX10_readsClause_9 rfl (pc2 := 10) rfl ?_
    refine kg_iconst dX10_readsClause_10 ki_4 (pc2 := 11) rfl ?_
    refine kg_aload_n 0 dX10_readsClause_11 rfl (pc2 := 12) rfl ?_
    refine kg_geti clX10 rfl 7 (Nat.le_of_ble_eq_true rfl) lfRX10_159 tM_0 eM_0 rfl dX10_readsClause_12 (pc2 := 15) rfl ?_
    obtain ⟨r9, r9h, h⟩ := kw_bind_e h
    refine kg_callV (μ := μX10_readsClause) (d := (d + 4)) rfl mVX10_wrongAt [.int (4 : Int32), .int (σ.1 0 7)] [] (gX10_wrongAt (E := E) (d := (d + 4)) (4 : Int32) (σ.1 0 7) σ r9h) rfl lmRX10_171 (ci := 10) rfl tM_0 eM_0 rfl (Nat.le_of_ble_eq_true rfl) dX10_readsClause_15 rfl (st2 := [.int r9.1]) rfl (pc2 := 18) rfl ?_
    obtain ⟨q10, h⟩ := kw_chk_e h
    cases h
    exact kg_iret (ty := .boolean) dX10_readsClause_18 rfl (kw_isB_n q10)
set_option maxHeartbeats 4000000 in
set_option maxRecDepth 100000 in
theorem lX10_readsText_31 {E : kw_E} {d : Nat} (v2 : Int32) (v3 : Int32) (σ : kw_M) {v : Option Value} {σ2 : kw_M} {o : (Int32 × kw_M) ⊕ (Int32 × kw_M)} (h : bX10_readsText_31 v2 v3 σ = some o) (hk : Sum.elim (fun s => kw_G E kwTM 21 (d + 6) μX10_readsText 31 [(0, .ref 0), (2, .int v2), (3, .int s.1)] [] s.2 v σ2) (fun y => kw_G E kwTM 21 (d + 6) μX10_readsText 72 [(3, .int y.1)] [] y.2 v σ2) o) : kw_G E kwTM 21 (d + 6) μX10_readsText 31 [(0, .ref 0), (2, .int v2), (3, .int v3)] [] σ v σ2 := by
  unfold bX10_readsText_31 at h
  refine kg_iload_n 2 dX10_readsText_31 rfl (pc2 := 32) rfl ?_
  refine kg_if_eq 72 dX10_readsText_32 rfl (pc2 := 35) rfl (fun q7 => ?_) (fun q7 => ?_)
  · replace h := (if_pos q7).symm.trans h
    refine kg_sub [2] (lv2 := [(3, .int v3)]) rfl ?_
    cases h
    exact hk
  · replace h := (if_neg q7).symm.trans h
    refine kg_aload_n 0 dX10_readsText_35 rfl (pc2 := 36) rfl ?_
    refine kg_geti clX10 rfl 7 (Nat.le_of_ble_eq_true rfl) lfRX10_159 tM_0 eM_0 rfl dX10_readsText_36 (pc2 := 39) rfl ?_
    refine kg_aload_n 0 dX10_readsText_39 rfl (pc2 := 40) rfl ?_
    refine kg_geti clX10 rfl 8 (Nat.le_of_ble_eq_true rfl) lfRX10_162 tM_0 eM_0 rfl dX10_readsText_40 (pc2 := 43) rfl ?_
    refine kg_icmp_ge 72 dX10_readsText_43 rfl (pc2 := 46) rfl (fun q8 => ?_) (fun q8 => ?_)
    · replace h := (if_pos q8).symm.trans h
      refine kg_sub [2] (lv2 := [(3, .int v3)]) rfl ?_
      cases h
      exact hk
    · replace h := (if_neg q8).symm.trans h
      refine kg_aload_n 0 dX10_readsText_46 rfl (pc2 := 47) rfl ?_
      refine kg_bipush dX10_readsText_47 kb_59 (pc2 := 49) rfl ?_
      obtain ⟨r9, r9h, h⟩ := kw_bind_e h
      refine kg_callV (μ := μX10_readsText) (d := (d + 5)) rfl mVX10_takesSign [.int (59 : Int32)] [] (gX10_takesSign (E := E) (d := (d + 4)) (59 : Int32) σ r9h) rfl lmRX10_190 (ci := 10) rfl tM_0 eM_0 rfl (Nat.le_of_ble_eq_true rfl) dX10_readsText_49 rfl (st2 := [.int r9.1]) rfl (pc2 := 52) rfl ?_
      refine kg_if_eq 67 dX10_readsText_52 rfl (pc2 := 55) rfl (fun q10 => ?_) (fun q10 => ?_)
      · replace h := (if_pos q10).symm.trans h
        refine kg_iconst dX10_readsText_67 ki_0 (pc2 := 68) rfl ?_
        refine kg_istore_n dX10_readsText_68 rfl (Nat.le_of_ble_eq_true rfl) rfl (lv2 := [(3, .int (0 : Int32)), (0, .ref 0), (2, .int v2)]) rfl (pc2 := 69) rfl ?_
        refine kg_goto 31 dX10_readsText_69 rfl ?_
        refine kg_sub [1, 2, 0] (lv2 := [(0, .ref 0), (2, .int v2), (3, .int (0 : Int32))]) rfl ?_
        cases h
        exact hk
      · replace h := (if_neg q10).symm.trans h
        refine kg_aload_n 0 dX10_readsText_55 rfl (pc2 := 56) rfl ?_
        refine kg_iload_n 1 dX10_readsText_56 rfl (pc2 := 57) rfl ?_
        obtain ⟨r11, r11h, h⟩ := kw_bind_e h
        refine kg_callV (μ := μX10_readsText) (d := (d + 5)) rfl mVX10_readsClause [.int v2] [] (gX10_readsClause (E := E) (d := d) v2 r9.2 r11h) rfl lmRX10_254 (ci := 10) rfl tM_0 eM_0 rfl (Nat.le_of_ble_eq_true rfl) dX10_readsText_57 rfl (st2 := [.int r11.1]) rfl (pc2 := 60) rfl ?_
        refine kg_if_eq 67 dX10_readsText_60 rfl (pc2 := 63) rfl (fun q12 => ?_) (fun q12 => ?_)
        · replace h := (if_pos q12).symm.trans h
          refine kg_iconst dX10_readsText_67 ki_0 (pc2 := 68) rfl ?_
          refine kg_istore_n dX10_readsText_68 rfl (Nat.le_of_ble_eq_true rfl) rfl (lv2 := [(3, .int (0 : Int32)), (0, .ref 0), (2, .int v2)]) rfl (pc2 := 69) rfl ?_
          refine kg_goto 31 dX10_readsText_69 rfl ?_
          refine kg_sub [1, 2, 0] (lv2 := [(0, .ref 0), (2, .int v2), (3, .int (0 : Int32))]) rfl ?_
          cases h
          exact hk
        · replace h := (if_neg q12).symm.trans h
          refine kg_iconst dX10_readsText_63 ki_1 (pc2 := 64) rfl ?_
          refine kg_goto 68 dX10_readsText_64 rfl ?_
          refine kg_istore_n dX10_readsText_68 rfl (Nat.le_of_ble_eq_true rfl) rfl (lv2 := [(3, .int (1 : Int32)), (0, .ref 0), (2, .int v2)]) rfl (pc2 := 69) rfl ?_
          refine kg_goto 31 dX10_readsText_69 rfl ?_
          refine kg_sub [1, 2, 0] (lv2 := [(0, .ref 0), (2, .int v2), (3, .int (1 : Int32))]) rfl ?_
          cases h
          exact hk
set_option maxHeartbeats 4000000 in
set_option maxRecDepth 100000 in
theorem gX10_readsText {E : kw_E} {d : Nat} (a1 : Int32) (a2 : Int32) (σ : kw_M) {r : Int32 × kw_M} (h : fX10_readsText a1 a2 σ = some r) : kw_Met E kwTM 21 (d + 6) μX10_readsText [.ref 0, .int a1, .int a2] σ (some (Value.int r.1)) r.2 := by
  refine kw_enter plRX10 (Nat.le_of_ble_eq_true rfl) ?_
  show kw_G E kwTM 21 (d + 6) μX10_readsText 0 [(0, .ref 0), (1, .int a1), (2, .int a2)] [] σ (some (Value.int r.1)) r.2
  unfold fX10_readsText at h
  refine kg_aload_n 0 dX10_readsText_0 rfl (pc2 := 1) rfl ?_
  refine kg_iconst dX10_readsText_1 ki_0 (pc2 := 2) rfl ?_
  obtain ⟨s1, s1e, h⟩ := kw_let_e h
  refine kg_puti clX10 rfl 7 (Nat.le_of_ble_eq_true rfl) lfRX10_159 rfl tM_0 eM_0 rfl (ty := .int) (by decide +kernel) rfl rfl s1e dX10_readsText_2 (pc2 := 5) rfl ?_
  refine kg_aload_n 0 dX10_readsText_5 rfl (pc2 := 6) rfl ?_
  refine kg_iload_n 1 dX10_readsText_6 rfl (pc2 := 7) rfl ?_
  obtain ⟨s2, s2e, h⟩ := kw_let_e h
  refine kg_puti clX10 rfl 8 (Nat.le_of_ble_eq_true rfl) lfRX10_162 rfl tM_0 eM_0 rfl (ty := .int) (by decide +kernel) rfl rfl s2e dX10_readsText_7 (pc2 := 10) rfl ?_
  refine kg_aload_n 0 dX10_readsText_10 rfl (pc2 := 11) rfl ?_
  refine kg_iconst dX10_readsText_11 ki_0 (pc2 := 12) rfl ?_
  obtain ⟨s3, s3e, h⟩ := kw_let_e h
  refine kg_puti clX10 rfl 6 (Nat.le_of_ble_eq_true rfl) lfRX10_152 rfl tM_0 eM_0 rfl (ty := .int) (by decide +kernel) rfl rfl s3e dX10_readsText_12 (pc2 := 15) rfl ?_
  refine kg_aload_n 0 dX10_readsText_15 rfl (pc2 := 16) rfl ?_
  refine kg_iconst dX10_readsText_16 ki_0 (pc2 := 17) rfl ?_
  obtain ⟨s4, s4e, h⟩ := kw_let_e h
  refine kg_puti clX10 rfl 12 (Nat.le_of_ble_eq_true rfl) lfRX10_205 rfl tM_0 eM_0 rfl (ty := .int) (by decide +kernel) rfl rfl s4e dX10_readsText_17 (pc2 := 20) rfl ?_
  refine kg_aload_n 0 dX10_readsText_20 rfl (pc2 := 21) rfl ?_
  refine kg_iconst dX10_readsText_21 ki_2 (pc2 := 22) rfl ?_
  obtain ⟨s5, s5e, h⟩ := kw_let_e h
  refine kg_puti clX10 rfl 17 (Nat.le_of_ble_eq_true rfl) lfRX10_224 rfl tM_0 eM_0 rfl (ty := .int) (by decide +kernel) rfl rfl s5e dX10_readsText_22 (pc2 := 25) rfl ?_
  refine kg_aload_n 0 dX10_readsText_25 rfl (pc2 := 26) rfl ?_
  refine kg_iload_n 2 dX10_readsText_26 rfl (pc2 := 27) rfl ?_
  obtain ⟨r6, r6h, h⟩ := kw_bind_e h
  refine kg_callV (μ := μX10_readsText) (d := (d + 5)) rfl mVX10_readsClause [.int a2] [] (gX10_readsClause (E := E) (d := d) a2 s5 r6h) rfl lmRX10_254 (ci := 10) rfl tM_0 eM_0 rfl (Nat.le_of_ble_eq_true rfl) dX10_readsText_27 rfl (st2 := [.int r6.1]) rfl (pc2 := 30) rfl ?_
  refine kg_istore_n dX10_readsText_30 rfl (Nat.le_of_ble_eq_true rfl) rfl (lv2 := [(3, .int r6.1), (0, .ref 0), (1, .int a1), (2, .int a2)]) rfl (pc2 := 31) rfl ?_
  refine kg_sub [1, 3, 0] (lv2 := [(0, .ref 0), (2, .int a2), (3, .int r6.1)]) rfl ?_
  obtain ⟨x13, x13h, h⟩ := kw_bind_e h
  refine kw_loop_e (P := fun s => kw_G E kwTM 21 (d + 6) μX10_readsText 31 [(0, .ref 0), (2, .int a2), (3, .int s.1)] [] s.2 (some (Value.int r.1)) r.2) (K := fun y => kw_G E kwTM 21 (d + 6) μX10_readsText 72 [(3, .int y.1)] [] y.2 (some (Value.int r.1)) r.2) (fun s o h0 hk => lX10_readsText_31 a2 s.1 s.2 h0 hk) kw_F _ _ x13h ?_
  show kw_G E kwTM 21 (d + 6) μX10_readsText 72 [(3, .int x13.1)] [] x13.2 (some (Value.int r.1)) r.2
  refine kg_iload_n 0 dX10_readsText_72 rfl (pc2 := 73) rfl ?_
  obtain ⟨q14, h⟩ := kw_chk_e h
  cases h
  exact kg_iret (ty := .boolean) dX10_readsText_73 rfl (kw_isB_n q14)
set_option maxHeartbeats 4000000 in
set_option maxRecDepth 100000 in
theorem gX10_isText {E : kw_E} {d : Nat} (a1 : Int32) (σ : kw_M) {r : Int32} (h : fX10_isText a1 σ = some r) : kw_Met E kwTM 21 (d + 1) μX10_isText [.ref 0, .int a1] σ (some (Value.int r)) σ := by
  refine kw_enter plRX10 (Nat.le_of_ble_eq_true rfl) ?_
  show kw_G E kwTM 21 (d + 1) μX10_isText 0 [(0, .ref 0), (1, .int a1)] [] σ (some (Value.int r)) σ
  unfold fX10_isText at h
  refine kg_iload_n 1 dX10_isText_0 rfl (pc2 := 1) rfl ?_
  refine kg_i2l dX10_isText_1 (pc2 := 2) rfl ?_
  refine kg_lconst dX10_isText_2 kl_1 (pc2 := 3) rfl ?_
  refine kg_ldc2 rfl lcRX10_258 dX10_isText_3 (pc2 := 6) rfl ?_
  obtain ⟨r1, r1h, h⟩ := kw_bind_e h
  refine kg_callS (μ := μX10_isText) (d := d) rfl mSX10_in [.long a1.toInt64, .long (1 : Int64), .long (200 : Int64)] [] (gX10_in (E := E) (d := d) a1.toInt64 (1 : Int64) (200 : Int64) σ r1h) rfl lmRX10_81 rfl (Nat.le_of_ble_eq_true rfl) dX10_isText_6 rfl (st2 := [.int r1]) rfl (pc2 := 9) rfl ?_
  refine kg_if_eq 24 dX10_isText_9 rfl (pc2 := 12) rfl (fun q2 => ?_) (fun q2 => ?_)
  · replace h := (if_pos q2).symm.trans h
    refine kg_iconst dX10_isText_24 ki_0 (pc2 := 25) rfl ?_
    cases h
    exact kg_iret (ty := .boolean) dX10_isText_25 rfl rfl
  · replace h := (if_neg q2).symm.trans h
    refine kg_iload_n 1 dX10_isText_12 rfl (pc2 := 13) rfl ?_
    refine kg_aload_n 0 dX10_isText_13 rfl (pc2 := 14) rfl ?_
    refine kg_geti clX10 rfl 6 (Nat.le_of_ble_eq_true rfl) lfRX10_152 tM_0 eM_0 rfl dX10_isText_14 (pc2 := 17) rfl ?_
    refine kg_icmp_gt 24 dX10_isText_17 rfl (pc2 := 20) rfl (fun q3 => ?_) (fun q3 => ?_)
    · replace h := (if_pos q3).symm.trans h
      refine kg_iconst dX10_isText_24 ki_0 (pc2 := 25) rfl ?_
      cases h
      exact kg_iret (ty := .boolean) dX10_isText_25 rfl rfl
    · replace h := (if_neg q3).symm.trans h
      refine kg_iconst dX10_isText_20 ki_1 (pc2 := 21) rfl ?_
      refine kg_goto 25 dX10_isText_21 rfl ?_
      cases h
      exact kg_iret (ty := .boolean) dX10_isText_25 rfl rfl
set_option maxHeartbeats 4000000 in
set_option maxRecDepth 100000 in
theorem lX10_empties_9 {E : kw_E} {d : Nat} (v1 : Int32) (v2 : Int32) (σ : kw_M) {v : Option Value} {σ2 : kw_M} {o : (Int32 × kw_M) ⊕ (kw_M)} (h : bX10_empties_9 v1 v2 σ = some o) (hk : Sum.elim (fun s => kw_G E kwTM 21 d μX10_empties 9 [(0, .ref 0), (1, .int v1), (2, .int s.1)] [] s.2 v σ2) (fun y => kw_G E kwTM 21 d μX10_empties 29 [(0, .ref 0), (1, .int v1)] [] y v σ2) o) : kw_G E kwTM 21 d μX10_empties 9 [(0, .ref 0), (1, .int v1), (2, .int v2)] [] σ v σ2 := by
  unfold bX10_empties_9 at h
  refine kg_iload_n 2 dX10_empties_9 rfl (pc2 := 10) rfl ?_
  refine kg_sipush dX10_empties_10 ks_708 (pc2 := 13) rfl ?_
  refine kg_icmp_ge 29 dX10_empties_13 rfl (pc2 := 16) rfl (fun q2 => ?_) (fun q2 => ?_)
  · replace h := (if_pos q2).symm.trans h
    refine kg_sub [0, 1] (lv2 := [(0, .ref 0), (1, .int v1)]) rfl ?_
    cases h
    exact hk
  · replace h := (if_neg q2).symm.trans h
    refine kg_aload_n 0 dX10_empties_16 rfl (pc2 := 17) rfl ?_
    refine kg_getr clX10 rfl 0 (Nat.le_of_ble_eq_true rfl) lfRX10_7 tM_0 eM_0 rfl dX10_empties_17 (pc2 := 20) rfl ?_
    refine kg_iload_n 2 dX10_empties_20 rfl (pc2 := 21) rfl ?_
    refine kg_iconst dX10_empties_21 ki_0 (pc2 := 22) rfl ?_
    obtain ⟨q3, h⟩ := kw_chk_e h
    obtain ⟨s4, s4e, h⟩ := kw_let_e h
    refine kg_iast tM_1 eM_1 q3 (j := v2.toNatClampNeg) rfl s4e dX10_empties_22 (pc2 := 23) rfl ?_
    obtain ⟨x5, x5e, h⟩ := kw_let_e h
    refine kg_iinc 2 dX10_empties_23 rfl (Nat.le_of_ble_eq_true rfl) x5e (lv2 := [(2, .int x5), (0, .ref 0), (1, .int v1)]) rfl (pc2 := 26) rfl ?_
    refine kg_goto 9 dX10_empties_26 rfl ?_
    refine kg_sub [1, 2, 0] (lv2 := [(0, .ref 0), (1, .int v1), (2, .int x5)]) rfl ?_
    cases h
    exact hk
set_option maxHeartbeats 4000000 in
set_option maxRecDepth 100000 in
theorem gX10_empties {E : kw_E} {d : Nat} (σ : kw_M) {r : kw_M} (h : fX10_empties σ = some r) : kw_Met E kwTM 21 d μX10_empties [.ref 0] σ none r := by
  refine kw_enter plRX10 (Nat.le_of_ble_eq_true rfl) ?_
  show kw_G E kwTM 21 d μX10_empties 0 [(0, .ref 0)] [] σ none r
  unfold fX10_empties at h
  refine kg_aload_n 0 dX10_empties_0 rfl (pc2 := 1) rfl ?_
  refine kg_getr clX10 rfl 0 (Nat.le_of_ble_eq_true rfl) lfRX10_7 tM_0 eM_0 rfl dX10_empties_1 (pc2 := 4) rfl ?_
  refine kg_iconst dX10_empties_4 ki_5 (pc2 := 5) rfl ?_
  refine kg_iald tM_1 eM_1 (show kw_in (5 : Int32) 2832 by decide) (j := 5) (by decide) dX10_empties_5 (pc2 := 6) rfl ?_
  obtain ⟨x1, x1e, h⟩ := kw_let_e h
  refine kg_istore_n dX10_empties_6 rfl (Nat.le_of_ble_eq_true rfl) x1e (lv2 := [(1, .int x1), (0, .ref 0)]) rfl (pc2 := 7) rfl ?_
  refine kg_iconst dX10_empties_7 ki_0 (pc2 := 8) rfl ?_
  refine kg_istore_n dX10_empties_8 rfl (Nat.le_of_ble_eq_true rfl) rfl (lv2 := [(2, .int (0 : Int32)), (1, .int x1), (0, .ref 0)]) rfl (pc2 := 9) rfl ?_
  refine kg_sub [2, 1, 0] (lv2 := [(0, .ref 0), (1, .int x1), (2, .int (0 : Int32))]) rfl ?_
  obtain ⟨x6, x6h, h⟩ := kw_bind_e h
  refine kw_loop_e (P := fun s => kw_G E kwTM 21 d μX10_empties 9 [(0, .ref 0), (1, .int x1), (2, .int s.1)] [] s.2 none r) (K := fun y => kw_G E kwTM 21 d μX10_empties 29 [(0, .ref 0), (1, .int x1)] [] y none r) (fun s o h0 hk => lX10_empties_9 x1 s.1 s.2 h0 hk) kw_F _ _ x6h ?_
  show kw_G E kwTM 21 d μX10_empties 29 [(0, .ref 0), (1, .int x1)] [] x6 none r
  refine kg_aload_n 0 dX10_empties_29 rfl (pc2 := 30) rfl ?_
  refine kg_getr clX10 rfl 0 (Nat.le_of_ble_eq_true rfl) lfRX10_7 tM_0 eM_0 rfl dX10_empties_30 (pc2 := 33) rfl ?_
  refine kg_iconst dX10_empties_33 ki_5 (pc2 := 34) rfl ?_
  refine kg_iload_n 1 dX10_empties_34 rfl (pc2 := 35) rfl ?_
  obtain ⟨s7, s7e, h⟩ := kw_let_e h
  refine kg_iast tM_1 eM_1 (show kw_in (5 : Int32) 2832 by decide) (j := 5) (by decide) s7e dX10_empties_35 (pc2 := 36) rfl ?_
  refine kg_aload_n 0 dX10_empties_36 rfl (pc2 := 37) rfl ?_
  refine kg_getr clX10 rfl 0 (Nat.le_of_ble_eq_true rfl) lfRX10_7 tM_0 eM_0 rfl dX10_empties_37 (pc2 := 40) rfl ?_
  refine kg_iconst dX10_empties_40 ki_0 (pc2 := 41) rfl ?_
  refine kg_aload_n 0 dX10_empties_41 rfl (pc2 := 42) rfl ?_
  refine kg_geti clX10 rfl 17 (Nat.le_of_ble_eq_true rfl) lfRX10_224 tM_0 eM_0 rfl dX10_empties_42 (pc2 := 45) rfl ?_
  obtain ⟨s8, s8e, h⟩ := kw_let_e h
  refine kg_iast tM_1 eM_1 (show kw_in (0 : Int32) 2832 by decide) (j := 0) (by decide) s8e dX10_empties_45 (pc2 := 46) rfl ?_
  cases h
  exact kg_vret dX10_empties_46 rfl
set_option maxHeartbeats 4000000 in
set_option maxRecDepth 100000 in
theorem lX10_net_38 {E : kw_E} {d : Nat} (v2 : Int32) (v3 : Int32) (σ : kw_M) {v : Option Value} {σ2 : kw_M} {o : (Int32 × Int32 × kw_M) ⊕ (Int32 × kw_M)} (h : bX10_net_38 v2 v3 σ = some o) (hk : Sum.elim (fun s => kw_G E kwTM 21 (d + 7) μX10_net 38 [(0, .ref 0), (2, .int s.1), (3, .int s.2.1)] [] s.2.2 v σ2) (fun y => kw_G E kwTM 21 (d + 7) μX10_net 106 [(0, .ref 0), (2, .int y.1)] [] y.2 v σ2) o) : kw_G E kwTM 21 (d + 7) μX10_net 38 [(0, .ref 0), (2, .int v2), (3, .int v3)] [] σ v σ2 := by
  unfold bX10_net_38 at h
  refine kg_iload_n 2 dX10_net_38 rfl (pc2 := 39) rfl ?_
  refine kg_aload_n 0 dX10_net_39 rfl (pc2 := 40) rfl ?_
  refine kg_geti clX10 rfl 12 (Nat.le_of_ble_eq_true rfl) lfRX10_205 tM_0 eM_0 rfl dX10_net_40 (pc2 := 43) rfl ?_
  refine kg_icmp_ge 106 dX10_net_43 rfl (pc2 := 46) rfl (fun q7 => ?_) (fun q7 => ?_)
  · replace h := (if_pos q7).symm.trans h
    refine kg_sub [0, 1] (lv2 := [(0, .ref 0), (2, .int v2)]) rfl ?_
    cases h
    exact hk
  · replace h := (if_neg q7).symm.trans h
    refine kg_iload_n 1 dX10_net_46 rfl (pc2 := 47) rfl ?_
    refine kg_if_ne 106 dX10_net_47 rfl (pc2 := 50) rfl (fun q8 => ?_) (fun q8 => ?_)
    · replace h := (if_neg q8).symm.trans h
      refine kg_sub [0, 1] (lv2 := [(0, .ref 0), (2, .int v2)]) rfl ?_
      cases h
      exact hk
    · replace h := (if_pos q8).symm.trans h
      refine kg_aload_n 0 dX10_net_50 rfl (pc2 := 51) rfl ?_
      refine kg_getr clX10 rfl 15 (Nat.le_of_ble_eq_true rfl) lfRX10_27 tM_0 eM_0 rfl dX10_net_51 (pc2 := 54) rfl ?_
      refine kg_iload_n 2 dX10_net_54 rfl (pc2 := 55) rfl ?_
      obtain ⟨q9, h⟩ := kw_chk_e h
      refine kg_lald tM_6 eM_6 q9 (j := v3.toNatClampNeg) rfl dX10_net_55 (pc2 := 56) rfl ?_
      refine kg_ldc2 rfl lcRX10_227 dX10_net_56 (pc2 := 59) rfl ?_
      refine kg_lcmp_ne 100 dX10_net_59 dX10_net_60 rfl (pc2 := 63) rfl (fun q10 => ?_) (fun q10 => ?_)
      · replace h := (if_neg q10).symm.trans h
        obtain ⟨x11, x11e, h⟩ := kw_let_e h
        refine kg_iinc 2 dX10_net_100 rfl (Nat.le_of_ble_eq_true rfl) x11e (lv2 := [(3, .int x11), (0, .ref 0), (2, .int v2)]) rfl (pc2 := 103) rfl ?_
        refine kg_goto 38 dX10_net_103 rfl ?_
        refine kg_sub [1, 2, 0] (lv2 := [(0, .ref 0), (2, .int v2), (3, .int x11)]) rfl ?_
        cases h
        exact hk
      · replace h := (if_pos q10).symm.trans h
        refine kg_aload_n 0 dX10_net_63 rfl (pc2 := 64) rfl ?_
        refine kg_aload_n 0 dX10_net_64 rfl (pc2 := 65) rfl ?_
        refine kg_aload_n 0 dX10_net_65 rfl (pc2 := 66) rfl ?_
        refine kg_getr clX10 rfl 16 (Nat.le_of_ble_eq_true rfl) lfRX10_30 tM_0 eM_0 rfl dX10_net_66 (pc2 := 69) rfl ?_
        refine kg_iconst dX10_net_69 ki_3 (pc2 := 70) rfl ?_
        refine kg_iload_n 2 dX10_net_70 rfl (pc2 := 71) rfl ?_
        refine kg_imul dX10_net_71 (pc2 := 72) rfl ?_
        obtain ⟨q12, h⟩ := kw_chk_e h
        refine kg_iald tM_7 eM_7 q12 (j := ((3 : Int32) * v3).toNatClampNeg) rfl dX10_net_72 (pc2 := 73) rfl ?_
        refine kg_aload_n 0 dX10_net_73 rfl (pc2 := 74) rfl ?_
        refine kg_getr clX10 rfl 16 (Nat.le_of_ble_eq_true rfl) lfRX10_30 tM_0 eM_0 rfl dX10_net_74 (pc2 := 77) rfl ?_
        refine kg_iconst dX10_net_77 ki_3 (pc2 := 78) rfl ?_
        refine kg_iload_n 2 dX10_net_78 rfl (pc2 := 79) rfl ?_
        refine kg_imul dX10_net_79 (pc2 := 80) rfl ?_
        refine kg_iconst dX10_net_80 ki_1 (pc2 := 81) rfl ?_
        refine kg_iadd dX10_net_81 (pc2 := 82) rfl ?_
        obtain ⟨q13, h⟩ := kw_chk_e h
        refine kg_iald tM_7 eM_7 q13 (j := (((3 : Int32) * v3) + (1 : Int32)).toNatClampNeg) rfl dX10_net_82 (pc2 := 83) rfl ?_
        refine kg_aload_n 0 dX10_net_83 rfl (pc2 := 84) rfl ?_
        refine kg_getr clX10 rfl 16 (Nat.le_of_ble_eq_true rfl) lfRX10_30 tM_0 eM_0 rfl dX10_net_84 (pc2 := 87) rfl ?_
        refine kg_iconst dX10_net_87 ki_3 (pc2 := 88) rfl ?_
        refine kg_iload_n 2 dX10_net_88 rfl (pc2 := 89) rfl ?_
        refine kg_imul dX10_net_89 (pc2 := 90) rfl ?_
        refine kg_iconst dX10_net_90 ki_2 (pc2 := 91) rfl ?_
        refine kg_iadd dX10_net_91 (pc2 := 92) rfl ?_
        obtain ⟨q14, h⟩ := kw_chk_e h
        refine kg_iald tM_7 eM_7 q14 (j := (((3 : Int32) * v3) + (2 : Int32)).toNatClampNeg) rfl dX10_net_92 (pc2 := 93) rfl ?_
        obtain ⟨r15, r15h, h⟩ := kw_bind_e h
        refine kg_callV (μ := μX10_net) (d := (d + 6)) rfl mVX10_comes [.int (σ.1 7 ((3 : Int32) * v3).toNatClampNeg), .int (σ.1 7 (((3 : Int32) * v3) + (1 : Int32)).toNatClampNeg), .int (σ.1 7 (((3 : Int32) * v3) + (2 : Int32)).toNatClampNeg)] [.ref 0] (gX10_comes (E := E) (d := (d + 5)) (σ.1 7 ((3 : Int32) * v3).toNatClampNeg) (σ.1 7 (((3 : Int32) * v3) + (1 : Int32)).toNatClampNeg) (σ.1 7 (((3 : Int32) * v3) + (2 : Int32)).toNatClampNeg) σ r15h) rfl lmRX10_131 (ci := 10) rfl tM_0 eM_0 rfl (Nat.le_of_ble_eq_true rfl) dX10_net_93 rfl (st2 := [.int r15.1, .ref 0]) rfl (pc2 := 96) rfl ?_
        obtain ⟨r16, r16h, h⟩ := kw_bind_e h
        refine kg_callV (μ := μX10_net) (d := (d + 6)) rfl mVX10_isRing [.int r15.1] [] (gX10_isRing (E := E) (d := (d + 3)) r15.1 r15.2 r16h) rfl lmRX10_135 (ci := 10) rfl tM_0 eM_0 rfl (Nat.le_of_ble_eq_true rfl) dX10_net_96 rfl (st2 := [.int r16.1]) rfl (pc2 := 99) rfl ?_
        refine kg_istore_n dX10_net_99 rfl (Nat.le_of_ble_eq_true rfl) rfl (lv2 := [(2, .int r16.1), (0, .ref 0), (3, .int v3)]) rfl (pc2 := 100) rfl ?_
        obtain ⟨x17, x17e, h⟩ := kw_let_e h
        refine kg_iinc 2 dX10_net_100 rfl (Nat.le_of_ble_eq_true rfl) x17e (lv2 := [(3, .int x17), (2, .int r16.1), (0, .ref 0)]) rfl (pc2 := 103) rfl ?_
        refine kg_goto 38 dX10_net_103 rfl ?_
        refine kg_sub [2, 1, 0] (lv2 := [(0, .ref 0), (2, .int r16.1), (3, .int x17)]) rfl ?_
        cases h
        exact hk
set_option maxHeartbeats 4000000 in
set_option maxRecDepth 100000 in
theorem gjX10_net_139 {E : kw_E} {d : Nat} (v3 : Int32) (σ : kw_M) {r : Int32 × kw_M} (h : jX10_net_139 v3 σ = some r) : kw_G E kwTM 21 (d + 7) μX10_net 139 [(0, .ref 0), (3, .int v3)] [] σ (some (Value.int r.1)) r.2 := by
  unfold jX10_net_139 at h
  refine kg_iload_n 1 dX10_net_139 rfl (pc2 := 140) rfl ?_
  refine kg_if_ge 151 dX10_net_140 rfl (pc2 := 143) rfl (fun q22 => ?_) (fun q22 => ?_)
  · replace h := (if_pos q22).symm.trans h
    refine kg_aload_n 0 dX10_net_151 rfl (pc2 := 152) rfl ?_
    refine kg_iconst dX10_net_152 ki_0 (pc2 := 153) rfl ?_
    obtain ⟨s23, s23e, h⟩ := kw_let_e h
    refine kg_puti clX10 rfl 1 (Nat.le_of_ble_eq_true rfl) lfRX10_270 rfl tM_0 eM_0 rfl (ty := .boolean) (by decide +kernel) rfl rfl s23e dX10_net_153 (pc2 := 156) rfl ?_
    refine kg_aload_n 0 dX10_net_156 rfl (pc2 := 157) rfl ?_
    refine kg_geti clX10 rfl 12 (Nat.le_of_ble_eq_true rfl) lfRX10_205 tM_0 eM_0 rfl dX10_net_157 (pc2 := 160) rfl ?_
    cases h
    exact kg_iret (ty := .int) dX10_net_160 rfl rfl
  · replace h := (if_neg q22).symm.trans h
    refine kg_aload_n 0 dX10_net_143 rfl (pc2 := 144) rfl ?_
    refine kg_iconst dX10_net_144 ki_2 (pc2 := 145) rfl ?_
    refine kg_iconst dX10_net_145 ki_0 (pc2 := 146) rfl ?_
    obtain ⟨r24, r24h, h⟩ := kw_bind_e h
    refine kg_callV (μ := μX10_net) (d := (d + 6)) rfl mVX10_copies [.int (2 : Int32), .int (0 : Int32)] [] (gX10_copies (E := E) (d := (d + 6)) (2 : Int32) (0 : Int32) σ r24h) rfl lmRX10_107 (ci := 10) rfl tM_0 eM_0 rfl (Nat.le_of_ble_eq_true rfl) dX10_net_146 rfl (st2 := []) rfl (pc2 := 149) rfl ?_
    refine kg_iload_n 1 dX10_net_149 rfl (pc2 := 150) rfl ?_
    cases h
    exact kg_iret (ty := .int) dX10_net_150 rfl rfl
set_option maxHeartbeats 4000000 in
set_option maxRecDepth 100000 in
theorem gjX10_net_125 {E : kw_E} {d : Nat} (v2 : Int32) (v3 : Int32) (σ : kw_M) {r : Int32 × kw_M} (h : jX10_net_125 v2 v3 σ = some r) : kw_G E kwTM 21 (d + 7) μX10_net 125 [(0, .ref 0), (2, .int v2), (3, .int v3)] [] σ (some (Value.int r.1)) r.2 := by
  unfold jX10_net_125 at h
  refine kg_iload_n 1 dX10_net_125 rfl (pc2 := 126) rfl ?_
  refine kg_if_ne 139 dX10_net_126 rfl (pc2 := 129) rfl (fun q21 => ?_) (fun q21 => ?_)
  · replace h := (if_neg q21).symm.trans h
    refine kg_sub [0, 2] (lv2 := [(0, .ref 0), (3, .int v3)]) rfl ?_
    exact gjX10_net_139 v3 σ h
  · replace h := (if_pos q21).symm.trans h
    refine kg_aload_n 0 dX10_net_129 rfl (pc2 := 130) rfl ?_
    obtain ⟨r25, r25h, h⟩ := kw_bind_e h
    refine kg_callV (μ := μX10_net) (d := (d + 6)) rfl mVX10_isTooFar [] [] (gX10_isTooFar (E := E) (d := (d + 5)) σ r25h) rfl lmRX10_110 (ci := 10) rfl tM_0 eM_0 rfl (Nat.le_of_ble_eq_true rfl) dX10_net_130 rfl (st2 := [.int r25]) rfl (pc2 := 133) rfl ?_
    refine kg_if_eq 139 dX10_net_133 rfl (pc2 := 136) rfl (fun q26 => ?_) (fun q26 => ?_)
    · replace h := (if_pos q26).symm.trans h
      refine kg_sub [0, 2] (lv2 := [(0, .ref 0), (3, .int v3)]) rfl ?_
      exact gjX10_net_139 v3 σ h
    · replace h := (if_neg q26).symm.trans h
      refine kg_bipush dX10_net_136 kb_m4 (pc2 := 138) rfl ?_
      refine kg_istore_n dX10_net_138 rfl (Nat.le_of_ble_eq_true rfl) rfl (lv2 := [(3, .int (-4 : Int32)), (0, .ref 0), (2, .int v2)]) rfl (pc2 := 139) rfl ?_
      refine kg_sub [1, 0] (lv2 := [(0, .ref 0), (3, .int (-4 : Int32))]) rfl ?_
      exact gjX10_net_139 (-4 : Int32) σ h
set_option maxHeartbeats 4000000 in
set_option maxRecDepth 100000 in
theorem gjX10_net_116 {E : kw_E} {d : Nat} (v2 : Int32) (t0 : Int32) (σ : kw_M) {r : Int32 × kw_M} (h : jX10_net_116 v2 t0 σ = some r) : kw_G E kwTM 21 (d + 7) μX10_net 116 [(0, .ref 0), (2, .int v2)] [.int t0] σ (some (Value.int r.1)) r.2 := by
  unfold jX10_net_116 at h
  refine kg_istore_n dX10_net_116 rfl (Nat.le_of_ble_eq_true rfl) rfl (lv2 := [(3, .int t0), (0, .ref 0), (2, .int v2)]) rfl (pc2 := 117) rfl ?_
  refine kg_iload_n 2 dX10_net_117 rfl (pc2 := 118) rfl ?_
  refine kg_if_ne 125 dX10_net_118 rfl (pc2 := 121) rfl (fun q20 => ?_) (fun q20 => ?_)
  · replace h := (if_neg q20).symm.trans h
    refine kg_sub [1, 2, 0] (lv2 := [(0, .ref 0), (2, .int v2), (3, .int t0)]) rfl ?_
    exact gjX10_net_125 v2 t0 σ h
  · replace h := (if_pos q20).symm.trans h
    refine kg_aload_n 1 dX10_net_121 rfl (pc2 := 122) rfl ?_
    obtain ⟨r27, r27h, h⟩ := kw_bind_e h
    refine kg_callV (μ := μX10_net) (d := (d + 6)) rfl mVX10_settles [] [] (gX10_settles (E := E) (d := (d + 3)) σ r27h) rfl lmRX10_104 (ci := 10) rfl tM_0 eM_0 rfl (Nat.le_of_ble_eq_true rfl) dX10_net_122 rfl (st2 := []) rfl (pc2 := 125) rfl ?_
    refine kg_sub [1, 2, 0] (lv2 := [(0, .ref 0), (2, .int v2), (3, .int t0)]) rfl ?_
    exact gjX10_net_125 v2 t0 r27 h
set_option maxHeartbeats 4000000 in
set_option maxRecDepth 100000 in
theorem gjX10_net_106 {E : kw_E} {d : Nat} (v2 : Int32) (σ : kw_M) {r : Int32 × kw_M} (h : jX10_net_106 v2 σ = some r) : kw_G E kwTM 21 (d + 7) μX10_net 106 [(0, .ref 0), (2, .int v2)] [] σ (some (Value.int r.1)) r.2 := by
  unfold jX10_net_106 at h
  refine kg_iload_n 1 dX10_net_106 rfl (pc2 := 107) rfl ?_
  refine kg_if_eq 115 dX10_net_107 rfl (pc2 := 110) rfl (fun q19 => ?_) (fun q19 => ?_)
  · replace h := (if_pos q19).symm.trans h
    refine kg_iconst dX10_net_115 ki_0 (pc2 := 116) rfl ?_
    exact gjX10_net_116 v2 (0 : Int32) σ h
  · replace h := (if_neg q19).symm.trans h
    refine kg_bipush dX10_net_110 kb_m3 (pc2 := 112) rfl ?_
    refine kg_goto 116 dX10_net_112 rfl ?_
    exact gjX10_net_116 v2 (-3 : Int32) σ h
set_option maxHeartbeats 4000000 in
set_option maxRecDepth 100000 in
theorem gX10_net {E : kw_E} {d : Nat} (a1 : Int32) (σ : kw_M) {r : Int32 × kw_M} (h : fX10_net a1 σ = some r) : kw_Met E kwTM 21 (d + 7) μX10_net [.ref 0, .int a1] σ (some (Value.int r.1)) r.2 := by
  refine kw_enter plRX10 (Nat.le_of_ble_eq_true rfl) ?_
  show kw_G E kwTM 21 (d + 7) μX10_net 0 [(0, .ref 0), (1, .int a1)] [] σ (some (Value.int r.1)) r.2
  unfold fX10_net at h
  refine kg_aload_n 0 dX10_net_0 rfl (pc2 := 1) rfl ?_
  refine kg_iload_n 1 dX10_net_1 rfl (pc2 := 2) rfl ?_
  obtain ⟨r1, r1h, h⟩ := kw_bind_e h
  refine kg_callV (μ := μX10_net) (d := (d + 6)) rfl mVX10_isText [.int a1] [] (gX10_isText (E := E) (d := (d + 5)) a1 σ r1h) rfl lmRX10_260 (ci := 10) rfl tM_0 eM_0 rfl (Nat.le_of_ble_eq_true rfl) dX10_net_2 rfl (st2 := [.int r1]) rfl (pc2 := 5) rfl ?_
  refine kg_if_ne 10 dX10_net_5 rfl (pc2 := 8) rfl (fun q2 => ?_) (fun q2 => ?_)
  · replace h := (if_neg q2).symm.trans h
    refine kg_aload_n 0 dX10_net_10 rfl (pc2 := 11) rfl ?_
    refine kg_iload_n 1 dX10_net_11 rfl (pc2 := 12) rfl ?_
    refine kg_iconst dX10_net_12 ki_1 (pc2 := 13) rfl ?_
    obtain ⟨r3, r3h, h⟩ := kw_bind_e h
    refine kg_callV (μ := μX10_net) (d := (d + 6)) rfl mVX10_readsText [.int a1, .int (1 : Int32)] [] (gX10_readsText (E := E) (d := d) a1 (1 : Int32) σ r3h) rfl lmRX10_263 (ci := 10) rfl tM_0 eM_0 rfl (Nat.le_of_ble_eq_true rfl) dX10_net_13 rfl (st2 := [.int r3.1]) rfl (pc2 := 16) rfl ?_
    refine kg_if_ne 24 dX10_net_16 rfl (pc2 := 19) rfl (fun q4 => ?_) (fun q4 => ?_)
    · replace h := (if_neg q4).symm.trans h
      refine kg_aload_n 0 dX10_net_24 rfl (pc2 := 25) rfl ?_
      refine kg_iconst dX10_net_25 ki_0 (pc2 := 26) rfl ?_
      refine kg_iconst dX10_net_26 ki_2 (pc2 := 27) rfl ?_
      obtain ⟨r5, r5h, h⟩ := kw_bind_e h
      refine kg_callV (μ := μX10_net) (d := (d + 6)) rfl mVX10_copies [.int (0 : Int32), .int (2 : Int32)] [] (gX10_copies (E := E) (d := (d + 6)) (0 : Int32) (2 : Int32) r3.2 r5h) rfl lmRX10_107 (ci := 10) rfl tM_0 eM_0 rfl (Nat.le_of_ble_eq_true rfl) dX10_net_27 rfl (st2 := []) rfl (pc2 := 30) rfl ?_
      refine kg_aload_n 0 dX10_net_30 rfl (pc2 := 31) rfl ?_
      obtain ⟨r6, r6h, h⟩ := kw_bind_e h
      refine kg_callV (μ := μX10_net) (d := (d + 6)) rfl mVX10_empties [] [] (gX10_empties (E := E) (d := (d + 6)) r5 r6h) rfl lmRX10_267 (ci := 10) rfl tM_0 eM_0 rfl (Nat.le_of_ble_eq_true rfl) dX10_net_31 rfl (st2 := []) rfl (pc2 := 34) rfl ?_
      refine kg_iconst dX10_net_34 ki_0 (pc2 := 35) rfl ?_
      refine kg_istore_n dX10_net_35 rfl (Nat.le_of_ble_eq_true rfl) rfl (lv2 := [(2, .int (0 : Int32)), (0, .ref 0), (1, .int a1)]) rfl (pc2 := 36) rfl ?_
      refine kg_iconst dX10_net_36 ki_0 (pc2 := 37) rfl ?_
      refine kg_istore_n dX10_net_37 rfl (Nat.le_of_ble_eq_true rfl) rfl (lv2 := [(3, .int (0 : Int32)), (2, .int (0 : Int32)), (0, .ref 0), (1, .int a1)]) rfl (pc2 := 38) rfl ?_
      refine kg_sub [2, 1, 0] (lv2 := [(0, .ref 0), (2, .int (0 : Int32)), (3, .int (0 : Int32))]) rfl ?_
      obtain ⟨x18, x18h, h⟩ := kw_bind_e h
      refine kw_loop_e (P := fun s => kw_G E kwTM 21 (d + 7) μX10_net 38 [(0, .ref 0), (2, .int s.1), (3, .int s.2.1)] [] s.2.2 (some (Value.int r.1)) r.2) (K := fun y => kw_G E kwTM 21 (d + 7) μX10_net 106 [(0, .ref 0), (2, .int y.1)] [] y.2 (some (Value.int r.1)) r.2) (fun s o h0 hk => lX10_net_38 s.1 s.2.1 s.2.2 h0 hk) kw_F _ _ x18h ?_
      show kw_G E kwTM 21 (d + 7) μX10_net 106 [(0, .ref 0), (2, .int x18.1)] [] x18.2 (some (Value.int r.1)) r.2
      exact gjX10_net_106 x18.1 x18.2 h
    · replace h := (if_pos q4).symm.trans h
      refine kg_aload_n 0 dX10_net_19 rfl (pc2 := 20) rfl ?_
      refine kg_geti clX10 rfl 9 (Nat.le_of_ble_eq_true rfl) lfRX10_165 tM_0 eM_0 rfl dX10_net_20 (pc2 := 23) rfl ?_
      cases h
      exact kg_iret (ty := .int) dX10_net_23 rfl rfl
  · replace h := (if_pos q2).symm.trans h
    refine kg_iconst dX10_net_8 ki_m1 (pc2 := 9) rfl ?_
    cases h
    exact kg_iret (ty := .int) dX10_net_9 rfl rfl
set_option maxHeartbeats 4000000 in
set_option maxRecDepth 100000 in
theorem gX10_watch {E : kw_E} {d : Nat} (a1 : Int32) (a2 : Int32) (σ : kw_M) {r : Int32 × kw_M} (h : fX10_watch a1 a2 σ = some r) : kw_Met E kwTM 21 (d + 4) μX10_watch [.ref 0, .int a1, .int a2] σ (some (Value.int r.1)) r.2 := by
  refine kw_enter plRX10 (Nat.le_of_ble_eq_true rfl) ?_
  show kw_G E kwTM 21 (d + 4) μX10_watch 0 [(0, .ref 0), (1, .int a1), (2, .int a2)] [] σ (some (Value.int r.1)) r.2
  unfold fX10_watch at h
  refine kg_aload_n 0 dX10_watch_0 rfl (pc2 := 1) rfl ?_
  refine kg_iload_n 1 dX10_watch_1 rfl (pc2 := 2) rfl ?_
  obtain ⟨r1, r1h, h⟩ := kw_bind_e h
  refine kg_callV (μ := μX10_watch) (d := (d + 3)) rfl mVX10_isTown [.int a1] [] (gX10_isTown (E := E) (d := (d + 2)) a1 σ r1h) rfl lmRX10_121 (ci := 10) rfl tM_0 eM_0 rfl (Nat.le_of_ble_eq_true rfl) dX10_watch_2 rfl (st2 := [.int r1]) rfl (pc2 := 5) rfl ?_
  refine kg_if_eq 16 dX10_watch_5 rfl (pc2 := 8) rfl (fun q2 => ?_) (fun q2 => ?_)
  · replace h := (if_pos q2).symm.trans h
    refine kg_iconst dX10_watch_16 ki_m1 (pc2 := 17) rfl ?_
    cases h
    exact kg_iret (ty := .int) dX10_watch_17 rfl rfl
  · replace h := (if_neg q2).symm.trans h
    refine kg_iload_n 2 dX10_watch_8 rfl (pc2 := 9) rfl ?_
    refine kg_i2l dX10_watch_9 (pc2 := 10) rfl ?_
    obtain ⟨r3, r3h, h⟩ := kw_bind_e h
    refine kg_callS (μ := μX10_watch) (d := (d + 3)) rfl mSX10_isLength [.long a2.toInt64] [] (gX10_isLength (E := E) (d := (d + 2)) a2.toInt64 σ r3h) rfl lmRX10_124 rfl (Nat.le_of_ble_eq_true rfl) dX10_watch_10 rfl (st2 := [.int r3]) rfl (pc2 := 13) rfl ?_
    refine kg_if_ne 18 dX10_watch_13 rfl (pc2 := 16) rfl (fun q4 => ?_) (fun q4 => ?_)
    · replace h := (if_neg q4).symm.trans h
      refine kg_aload_n 0 dX10_watch_18 rfl (pc2 := 19) rfl ?_
      obtain ⟨r5, r5h, h⟩ := kw_bind_e h
      refine kg_callV (μ := μX10_watch) (d := (d + 3)) rfl mVX10_settles [] [] (gX10_settles (E := E) (d := d) σ r5h) rfl lmRX10_104 (ci := 10) rfl tM_0 eM_0 rfl (Nat.le_of_ble_eq_true rfl) dX10_watch_19 rfl (st2 := []) rfl (pc2 := 22) rfl ?_
      refine kg_sipush dX10_watch_22 ks_172 (pc2 := 25) rfl ?_
      refine kg_iconst dX10_watch_25 ki_3 (pc2 := 26) rfl ?_
      refine kg_iload_n 1 dX10_watch_26 rfl (pc2 := 27) rfl ?_
      refine kg_imul dX10_watch_27 (pc2 := 28) rfl ?_
      refine kg_iadd dX10_watch_28 (pc2 := 29) rfl ?_
      obtain ⟨x6, x6e, h⟩ := kw_let_e h
      refine kg_istore_n dX10_watch_29 rfl (Nat.le_of_ble_eq_true rfl) x6e (lv2 := [(3, .int x6), (0, .ref 0), (1, .int a1), (2, .int a2)]) rfl (pc2 := 30) rfl ?_
      refine kg_aload_n 1 dX10_watch_30 rfl (pc2 := 31) rfl ?_
      refine kg_getr clX10 rfl 0 (Nat.le_of_ble_eq_true rfl) lfRX10_7 tM_0 eM_0 rfl dX10_watch_31 (pc2 := 34) rfl ?_
      refine kg_iload_n 0 dX10_watch_34 rfl (pc2 := 35) rfl ?_
      refine kg_iconst dX10_watch_35 ki_1 (pc2 := 36) rfl ?_
      obtain ⟨q7, h⟩ := kw_chk_e h
      obtain ⟨s8, s8e, h⟩ := kw_let_e h
      refine kg_iast tM_1 eM_1 q7 (j := x6.toNatClampNeg) rfl s8e dX10_watch_36 (pc2 := 37) rfl ?_
      refine kg_aload_n 1 dX10_watch_37 rfl (pc2 := 38) rfl ?_
      refine kg_getr clX10 rfl 0 (Nat.le_of_ble_eq_true rfl) lfRX10_7 tM_0 eM_0 rfl dX10_watch_38 (pc2 := 41) rfl ?_
      refine kg_iload_n 0 dX10_watch_41 rfl (pc2 := 42) rfl ?_
      refine kg_iconst dX10_watch_42 ki_1 (pc2 := 43) rfl ?_
      refine kg_iadd dX10_watch_43 (pc2 := 44) rfl ?_
      refine kg_iload_n 3 dX10_watch_44 rfl (pc2 := 45) rfl ?_
      obtain ⟨q9, h⟩ := kw_chk_e h
      obtain ⟨s10, s10e, h⟩ := kw_let_e h
      refine kg_iast tM_1 eM_1 q9 (j := (x6 + (1 : Int32)).toNatClampNeg) rfl s10e dX10_watch_45 (pc2 := 46) rfl ?_
      refine kg_aload_n 1 dX10_watch_46 rfl (pc2 := 47) rfl ?_
      refine kg_getr clX10 rfl 0 (Nat.le_of_ble_eq_true rfl) lfRX10_7 tM_0 eM_0 rfl dX10_watch_47 (pc2 := 50) rfl ?_
      refine kg_iload_n 0 dX10_watch_50 rfl (pc2 := 51) rfl ?_
      refine kg_iconst dX10_watch_51 ki_2 (pc2 := 52) rfl ?_
      refine kg_iadd dX10_watch_52 (pc2 := 53) rfl ?_
      refine kg_aload_n 1 dX10_watch_53 rfl (pc2 := 54) rfl ?_
      refine kg_iload_n 2 dX10_watch_54 rfl (pc2 := 55) rfl ?_
      obtain ⟨r11, r11h, h⟩ := kw_bind_e h
      refine kg_callV (μ := μX10_watch) (d := (d + 3)) rfl mVX10_isBeyond [.int a1] [.int (x6 + (2 : Int32)), .ref 1] (gX10_isBeyond (E := E) (d := (d + 3)) a1 s10 r11h) rfl lmRX10_101 (ci := 10) rfl tM_0 eM_0 rfl (Nat.le_of_ble_eq_true rfl) dX10_watch_55 rfl (st2 := [.int r11, .int (x6 + (2 : Int32)), .ref 1]) rfl (pc2 := 58) rfl ?_
      refine kg_if_eq 65 dX10_watch_58 rfl (pc2 := 61) rfl (fun q12 => ?_) (fun q12 => ?_)
      · replace h := (if_pos q12).symm.trans h
        refine kg_iconst dX10_watch_65 ki_0 (pc2 := 66) rfl ?_
        obtain ⟨q13, h⟩ := kw_chk_e h
        obtain ⟨s14, s14e, h⟩ := kw_let_e h
        refine kg_iast tM_1 eM_1 q13 (j := (x6 + (2 : Int32)).toNatClampNeg) rfl s14e dX10_watch_66 (pc2 := 67) rfl ?_
        refine kg_aload_n 1 dX10_watch_67 rfl (pc2 := 68) rfl ?_
        refine kg_getr clX10 rfl 0 (Nat.le_of_ble_eq_true rfl) lfRX10_7 tM_0 eM_0 rfl dX10_watch_68 (pc2 := 71) rfl ?_
        refine kg_iload_n 0 dX10_watch_71 rfl (pc2 := 72) rfl ?_
        refine kg_iconst dX10_watch_72 ki_2 (pc2 := 73) rfl ?_
        refine kg_iadd dX10_watch_73 (pc2 := 74) rfl ?_
        refine kg_iald tM_1 eM_1 q13 (j := (x6 + (2 : Int32)).toNatClampNeg) rfl dX10_watch_74 (pc2 := 75) rfl ?_
        cases h
        exact kg_iret (ty := .int) dX10_watch_75 rfl rfl
      · replace h := (if_neg q12).symm.trans h
        refine kg_iconst dX10_watch_61 ki_1 (pc2 := 62) rfl ?_
        refine kg_goto 66 dX10_watch_62 rfl ?_
        obtain ⟨q15, h⟩ := kw_chk_e h
        obtain ⟨s16, s16e, h⟩ := kw_let_e h
        refine kg_iast tM_1 eM_1 q15 (j := (x6 + (2 : Int32)).toNatClampNeg) rfl s16e dX10_watch_66 (pc2 := 67) rfl ?_
        refine kg_aload_n 1 dX10_watch_67 rfl (pc2 := 68) rfl ?_
        refine kg_getr clX10 rfl 0 (Nat.le_of_ble_eq_true rfl) lfRX10_7 tM_0 eM_0 rfl dX10_watch_68 (pc2 := 71) rfl ?_
        refine kg_iload_n 0 dX10_watch_71 rfl (pc2 := 72) rfl ?_
        refine kg_iconst dX10_watch_72 ki_2 (pc2 := 73) rfl ?_
        refine kg_iadd dX10_watch_73 (pc2 := 74) rfl ?_
        refine kg_iald tM_1 eM_1 q15 (j := (x6 + (2 : Int32)).toNatClampNeg) rfl dX10_watch_74 (pc2 := 75) rfl ?_
        cases h
        exact kg_iret (ty := .int) dX10_watch_75 rfl rfl
    · replace h := (if_pos q4).symm.trans h
      refine kg_iconst dX10_watch_16 ki_m1 (pc2 := 17) rfl ?_
      cases h
      exact kg_iret (ty := .int) dX10_watch_17 rfl rfl
set_option maxHeartbeats 4000000 in
set_option maxRecDepth 100000 in
theorem lX10_forget_27 {E : kw_E} {d : Nat} (v1 : Int32) (v2 : Int32) (σ : kw_M) {v : Option Value} {σ2 : kw_M} {o : (Int32 × kw_M) ⊕ (kw_M)} (h : bX10_forget_27 v1 v2 σ = some o) (hk : Sum.elim (fun s => kw_G E kwTM 21 (d + 2) μX10_forget 27 [(0, .ref 0), (1, .int v1), (2, .int s.1)] [] s.2 v σ2) (fun y => kw_G E kwTM 21 (d + 2) μX10_forget 53 [] [] y v σ2) o) : kw_G E kwTM 21 (d + 2) μX10_forget 27 [(0, .ref 0), (1, .int v1), (2, .int v2)] [] σ v σ2 := by
  unfold bX10_forget_27 at h
  refine kg_iload_n 2 dX10_forget_27 rfl (pc2 := 28) rfl ?_
  refine kg_iconst dX10_forget_28 ki_3 (pc2 := 29) rfl ?_
  refine kg_icmp_ge 53 dX10_forget_29 rfl (pc2 := 32) rfl (fun q5 => ?_) (fun q5 => ?_)
  · replace h := (if_pos q5).symm.trans h
    refine kg_sub [] (lv2 := []) rfl ?_
    cases h
    exact hk
  · replace h := (if_neg q5).symm.trans h
    refine kg_aload_n 0 dX10_forget_32 rfl (pc2 := 33) rfl ?_
    refine kg_getr clX10 rfl 0 (Nat.le_of_ble_eq_true rfl) lfRX10_7 tM_0 eM_0 rfl dX10_forget_33 (pc2 := 36) rfl ?_
    refine kg_sipush dX10_forget_36 ks_172 (pc2 := 39) rfl ?_
    refine kg_iconst dX10_forget_39 ki_3 (pc2 := 40) rfl ?_
    refine kg_iload_n 1 dX10_forget_40 rfl (pc2 := 41) rfl ?_
    refine kg_imul dX10_forget_41 (pc2 := 42) rfl ?_
    refine kg_iadd dX10_forget_42 (pc2 := 43) rfl ?_
    refine kg_iload_n 2 dX10_forget_43 rfl (pc2 := 44) rfl ?_
    refine kg_iadd dX10_forget_44 (pc2 := 45) rfl ?_
    refine kg_iconst dX10_forget_45 ki_0 (pc2 := 46) rfl ?_
    obtain ⟨q6, h⟩ := kw_chk_e h
    obtain ⟨s7, s7e, h⟩ := kw_let_e h
    refine kg_iast tM_1 eM_1 q6 (j := (((172 : Int32) + ((3 : Int32) * v1)) + v2).toNatClampNeg) rfl s7e dX10_forget_46 (pc2 := 47) rfl ?_
    obtain ⟨x8, x8e, h⟩ := kw_let_e h
    refine kg_iinc 2 dX10_forget_47 rfl (Nat.le_of_ble_eq_true rfl) x8e (lv2 := [(2, .int x8), (0, .ref 0), (1, .int v1)]) rfl (pc2 := 50) rfl ?_
    refine kg_goto 27 dX10_forget_50 rfl ?_
    refine kg_sub [1, 2, 0] (lv2 := [(0, .ref 0), (1, .int v1), (2, .int x8)]) rfl ?_
    cases h
    exact hk
set_option maxHeartbeats 4000000 in
set_option maxRecDepth 100000 in
theorem gX10_forget {E : kw_E} {d : Nat} (a1 : Int32) (σ : kw_M) {r : Int32 × kw_M} (h : fX10_forget a1 σ = some r) : kw_Met E kwTM 21 (d + 2) μX10_forget [.ref 0, .int a1] σ (some (Value.int r.1)) r.2 := by
  refine kw_enter plRX10 (Nat.le_of_ble_eq_true rfl) ?_
  show kw_G E kwTM 21 (d + 2) μX10_forget 0 [(0, .ref 0), (1, .int a1)] [] σ (some (Value.int r.1)) r.2
  unfold fX10_forget at h
  refine kg_aload_n 0 dX10_forget_0 rfl (pc2 := 1) rfl ?_
  refine kg_iload_n 1 dX10_forget_1 rfl (pc2 := 2) rfl ?_
  obtain ⟨r1, r1h, h⟩ := kw_bind_e h
  refine kg_callV (μ := μX10_forget) (d := (d + 1)) rfl mVX10_isTown [.int a1] [] (gX10_isTown (E := E) (d := d) a1 σ r1h) rfl lmRX10_121 (ci := 10) rfl tM_0 eM_0 rfl (Nat.le_of_ble_eq_true rfl) dX10_forget_2 rfl (st2 := [.int r1]) rfl (pc2 := 5) rfl ?_
  refine kg_if_eq 23 dX10_forget_5 rfl (pc2 := 8) rfl (fun q2 => ?_) (fun q2 => ?_)
  · replace h := (if_pos q2).symm.trans h
    refine kg_iconst dX10_forget_23 ki_0 (pc2 := 24) rfl ?_
    cases h
    exact kg_iret (ty := .boolean) dX10_forget_24 rfl rfl
  · replace h := (if_neg q2).symm.trans h
    refine kg_aload_n 0 dX10_forget_8 rfl (pc2 := 9) rfl ?_
    refine kg_getr clX10 rfl 0 (Nat.le_of_ble_eq_true rfl) lfRX10_7 tM_0 eM_0 rfl dX10_forget_9 (pc2 := 12) rfl ?_
    refine kg_sipush dX10_forget_12 ks_172 (pc2 := 15) rfl ?_
    refine kg_iconst dX10_forget_15 ki_3 (pc2 := 16) rfl ?_
    refine kg_iload_n 1 dX10_forget_16 rfl (pc2 := 17) rfl ?_
    refine kg_imul dX10_forget_17 (pc2 := 18) rfl ?_
    refine kg_iadd dX10_forget_18 (pc2 := 19) rfl ?_
    obtain ⟨q3, h⟩ := kw_chk_e h
    refine kg_iald tM_1 eM_1 q3 (j := ((172 : Int32) + ((3 : Int32) * a1)).toNatClampNeg) rfl dX10_forget_19 (pc2 := 20) rfl ?_
    refine kg_if_ne 25 dX10_forget_20 rfl (pc2 := 23) rfl (fun q4 => ?_) (fun q4 => ?_)
    · replace h := (if_neg q4).symm.trans h
      refine kg_iconst dX10_forget_25 ki_0 (pc2 := 26) rfl ?_
      refine kg_istore_n dX10_forget_26 rfl (Nat.le_of_ble_eq_true rfl) rfl (lv2 := [(2, .int (0 : Int32)), (0, .ref 0), (1, .int a1)]) rfl (pc2 := 27) rfl ?_
      refine kg_sub [1, 2, 0] (lv2 := [(0, .ref 0), (1, .int a1), (2, .int (0 : Int32))]) rfl ?_
      obtain ⟨x9, x9h, h⟩ := kw_bind_e h
      refine kw_loop_e (P := fun s => kw_G E kwTM 21 (d + 2) μX10_forget 27 [(0, .ref 0), (1, .int a1), (2, .int s.1)] [] s.2 (some (Value.int r.1)) r.2) (K := fun y => kw_G E kwTM 21 (d + 2) μX10_forget 53 [] [] y (some (Value.int r.1)) r.2) (fun s o h0 hk => lX10_forget_27 a1 s.1 s.2 h0 hk) kw_F _ _ x9h ?_
      show kw_G E kwTM 21 (d + 2) μX10_forget 53 [] [] x9 (some (Value.int r.1)) r.2
      refine kg_iconst dX10_forget_53 ki_1 (pc2 := 54) rfl ?_
      cases h
      exact kg_iret (ty := .boolean) dX10_forget_54 rfl rfl
    · replace h := (if_pos q4).symm.trans h
      refine kg_iconst dX10_forget_23 ki_0 (pc2 := 24) rfl ?_
      cases h
      exact kg_iret (ty := .boolean) dX10_forget_24 rfl rfl
set_option maxHeartbeats 4000000 in
set_option maxRecDepth 100000 in
theorem gX10_does {E : kw_E} {d : Nat} (a1 : Int32) (σ : kw_M) {r : Int32 × kw_M} (h : fX10_does a1 σ = some r) : kw_Met E kwTM 21 (d + 7) μX10_does [.ref 0, .int a1] σ (some (Value.int r.1)) r.2 := by
  refine kw_enter plRX10 (Nat.le_of_ble_eq_true rfl) ?_
  show kw_G E kwTM 21 (d + 7) μX10_does 0 [(0, .ref 0), (1, .int a1)] [] σ (some (Value.int r.1)) r.2
  unfold fX10_does at h
  refine kg_aload_n 0 dX10_does_0 rfl (pc2 := 1) rfl ?_
  refine kg_getr clX10 rfl 15 (Nat.le_of_ble_eq_true rfl) lfRX10_27 tM_0 eM_0 rfl dX10_does_1 (pc2 := 4) rfl ?_
  refine kg_iload_n 1 dX10_does_4 rfl (pc2 := 5) rfl ?_
  obtain ⟨q1, h⟩ := kw_chk_e h
  refine kg_lald tM_6 eM_6 q1 (j := a1.toNatClampNeg) rfl dX10_does_5 (pc2 := 6) rfl ?_
  obtain ⟨x2, x2e, h⟩ := kw_let_e h
  refine kg_lstore_n dX10_does_6 rfl (Nat.le_of_ble_eq_true rfl) x2e (lv2 := [(2, .long x2), (0, .ref 0), (1, .int a1)]) rfl (pc2 := 7) rfl ?_
  refine kg_aload_n 1 dX10_does_7 rfl (pc2 := 8) rfl ?_
  refine kg_getr clX10 rfl 16 (Nat.le_of_ble_eq_true rfl) lfRX10_30 tM_0 eM_0 rfl dX10_does_8 (pc2 := 11) rfl ?_
  refine kg_iconst dX10_does_11 ki_3 (pc2 := 12) rfl ?_
  refine kg_iload_n 2 dX10_does_12 rfl (pc2 := 13) rfl ?_
  refine kg_imul dX10_does_13 (pc2 := 14) rfl ?_
  obtain ⟨q3, h⟩ := kw_chk_e h
  refine kg_iald tM_7 eM_7 q3 (j := ((3 : Int32) * a1).toNatClampNeg) rfl dX10_does_14 (pc2 := 15) rfl ?_
  obtain ⟨x4, x4e, h⟩ := kw_let_e h
  refine kg_istore dX10_does_15 (Nat.le_of_ble_eq_true rfl) x4e (lv2 := [(4, .int x4), (2, .long x2), (0, .ref 0), (1, .int a1)]) rfl (pc2 := 17) rfl ?_
  refine kg_aload_n 2 dX10_does_17 rfl (pc2 := 18) rfl ?_
  refine kg_getr clX10 rfl 16 (Nat.le_of_ble_eq_true rfl) lfRX10_30 tM_0 eM_0 rfl dX10_does_18 (pc2 := 21) rfl ?_
  refine kg_iconst dX10_does_21 ki_3 (pc2 := 22) rfl ?_
  refine kg_iload_n 3 dX10_does_22 rfl (pc2 := 23) rfl ?_
  refine kg_imul dX10_does_23 (pc2 := 24) rfl ?_
  refine kg_iconst dX10_does_24 ki_1 (pc2 := 25) rfl ?_
  refine kg_iadd dX10_does_25 (pc2 := 26) rfl ?_
  obtain ⟨q5, h⟩ := kw_chk_e h
  refine kg_iald tM_7 eM_7 q5 (j := (((3 : Int32) * a1) + (1 : Int32)).toNatClampNeg) rfl dX10_does_26 (pc2 := 27) rfl ?_
  obtain ⟨x6, x6e, h⟩ := kw_let_e h
  refine kg_istore dX10_does_27 (Nat.le_of_ble_eq_true rfl) x6e (lv2 := [(5, .int x6), (4, .int x4), (2, .long x2), (0, .ref 0), (1, .int a1)]) rfl (pc2 := 29) rfl ?_
  refine kg_lload_n 2 dX10_does_29 rfl (pc2 := 30) rfl ?_
  refine kg_ldc2 rfl lcRX10_232 dX10_does_30 (pc2 := 33) rfl ?_
  refine kg_lcmp_ne 64 dX10_does_33 dX10_does_34 rfl (pc2 := 37) rfl (fun q7 => ?_) (fun q7 => ?_)
  · replace h := (if_neg q7).symm.trans h
    refine kg_lload_n 2 dX10_does_64 rfl (pc2 := 65) rfl ?_
    refine kg_ldc2 rfl lcRX10_234 dX10_does_65 (pc2 := 68) rfl ?_
    refine kg_lcmp_ne 89 dX10_does_68 dX10_does_69 rfl (pc2 := 72) rfl (fun q8 => ?_) (fun q8 => ?_)
    · replace h := (if_neg q8).symm.trans h
      refine kg_lload_n 2 dX10_does_89 rfl (pc2 := 90) rfl ?_
      refine kg_ldc2 rfl lcRX10_238 dX10_does_90 (pc2 := 93) rfl ?_
      refine kg_lcmp_ne 112 dX10_does_93 dX10_does_94 rfl (pc2 := 97) rfl (fun q9 => ?_) (fun q9 => ?_)
      · replace h := (if_neg q9).symm.trans h
        refine kg_lload_n 2 dX10_does_112 rfl (pc2 := 113) rfl ?_
        refine kg_ldc2 rfl lcRX10_240 dX10_does_113 (pc2 := 116) rfl ?_
        refine kg_lcmp_ne 135 dX10_does_116 dX10_does_117 rfl (pc2 := 120) rfl (fun q10 => ?_) (fun q10 => ?_)
        · replace h := (if_neg q10).symm.trans h
          refine kg_lload_n 2 dX10_does_135 rfl (pc2 := 136) rfl ?_
          refine kg_ldc2 rfl lcRX10_242 dX10_does_136 (pc2 := 139) rfl ?_
          refine kg_lcmp_ne 158 dX10_does_139 dX10_does_140 rfl (pc2 := 143) rfl (fun q11 => ?_) (fun q11 => ?_)
          · replace h := (if_neg q11).symm.trans h
            refine kg_lload_n 2 dX10_does_158 rfl (pc2 := 159) rfl ?_
            refine kg_ldc2 rfl lcRX10_246 dX10_does_159 (pc2 := 162) rfl ?_
            refine kg_lcmp_ne 185 dX10_does_162 dX10_does_163 rfl (pc2 := 166) rfl (fun q12 => ?_) (fun q12 => ?_)
            · replace h := (if_neg q12).symm.trans h
              refine kg_aload_n 3 dX10_does_185 rfl (pc2 := 186) rfl ?_
              refine kg_iload 1 dX10_does_186 rfl (pc2 := 188) rfl ?_
              obtain ⟨r13, r13h, h⟩ := kw_bind_e h
              refine kg_callV (μ := μX10_does) (d := (d + 6)) rfl mVX10_forget [.int x4] [] (gX10_forget (E := E) (d := (d + 4)) x4 σ r13h) rfl lmRX10_293 (ci := 10) rfl tM_0 eM_0 rfl (Nat.le_of_ble_eq_true rfl) dX10_does_188 rfl (st2 := [.int r13.1]) rfl (pc2 := 191) rfl ?_
              obtain ⟨q14, h⟩ := kw_chk_e h
              cases h
              exact kg_iret (ty := .boolean) dX10_does_191 rfl (kw_isB_n q14)
            · replace h := (if_pos q12).symm.trans h
              refine kg_aload_n 3 dX10_does_166 rfl (pc2 := 167) rfl ?_
              refine kg_iload 1 dX10_does_167 rfl (pc2 := 169) rfl ?_
              refine kg_iload 0 dX10_does_169 rfl (pc2 := 171) rfl ?_
              obtain ⟨r15, r15h, h⟩ := kw_bind_e h
              refine kg_callV (μ := μX10_does) (d := (d + 6)) rfl mVX10_watch [.int x4, .int x6] [] (gX10_watch (E := E) (d := (d + 2)) x4 x6 σ r15h) rfl lmRX10_290 (ci := 10) rfl tM_0 eM_0 rfl (Nat.le_of_ble_eq_true rfl) dX10_does_171 rfl (st2 := [.int r15.1]) rfl (pc2 := 174) rfl ?_
              refine kg_if_lt 181 dX10_does_174 rfl (pc2 := 177) rfl (fun q16 => ?_) (fun q16 => ?_)
              · replace h := (if_pos q16).symm.trans h
                refine kg_iconst dX10_does_181 ki_0 (pc2 := 182) rfl ?_
                refine kg_goto 191 dX10_does_182 rfl ?_
                cases h
                exact kg_iret (ty := .boolean) dX10_does_191 rfl rfl
              · replace h := (if_neg q16).symm.trans h
                refine kg_iconst dX10_does_177 ki_1 (pc2 := 178) rfl ?_
                refine kg_goto 191 dX10_does_178 rfl ?_
                cases h
                exact kg_iret (ty := .boolean) dX10_does_191 rfl rfl
          · replace h := (if_pos q11).symm.trans h
            refine kg_aload_n 3 dX10_does_143 rfl (pc2 := 144) rfl ?_
            refine kg_iload 1 dX10_does_144 rfl (pc2 := 146) rfl ?_
            obtain ⟨r17, r17h, h⟩ := kw_bind_e h
            refine kg_callV (μ := μX10_does) (d := (d + 6)) rfl mVX10_origin [.int x4] [] (gX10_origin (E := E) (d := (d + 1)) x4 σ r17h) rfl lmRX10_287 (ci := 10) rfl tM_0 eM_0 rfl (Nat.le_of_ble_eq_true rfl) dX10_does_146 rfl (st2 := [.int r17.1]) rfl (pc2 := 149) rfl ?_
            refine kg_if_lt 156 dX10_does_149 rfl (pc2 := 152) rfl (fun q18 => ?_) (fun q18 => ?_)
            · replace h := (if_pos q18).symm.trans h
              refine kg_iconst dX10_does_156 ki_0 (pc2 := 157) rfl ?_
              cases h
              exact kg_iret (ty := .boolean) dX10_does_157 rfl rfl
            · replace h := (if_neg q18).symm.trans h
              refine kg_iconst dX10_does_152 ki_1 (pc2 := 153) rfl ?_
              refine kg_goto 157 dX10_does_153 rfl ?_
              cases h
              exact kg_iret (ty := .boolean) dX10_does_157 rfl rfl
        · replace h := (if_pos q10).symm.trans h
          refine kg_aload_n 3 dX10_does_120 rfl (pc2 := 121) rfl ?_
          refine kg_iload 1 dX10_does_121 rfl (pc2 := 123) rfl ?_
          obtain ⟨r19, r19h, h⟩ := kw_bind_e h
          refine kg_callV (μ := μX10_does) (d := (d + 6)) rfl mVX10_open [.int x4] [] (gX10_open (E := E) (d := d) x4 σ r19h) rfl lmRX10_284 (ci := 10) rfl tM_0 eM_0 rfl (Nat.le_of_ble_eq_true rfl) dX10_does_123 rfl (st2 := [.int r19.1]) rfl (pc2 := 126) rfl ?_
          refine kg_if_lt 133 dX10_does_126 rfl (pc2 := 129) rfl (fun q20 => ?_) (fun q20 => ?_)
          · replace h := (if_pos q20).symm.trans h
            refine kg_iconst dX10_does_133 ki_0 (pc2 := 134) rfl ?_
            cases h
            exact kg_iret (ty := .boolean) dX10_does_134 rfl rfl
          · replace h := (if_neg q20).symm.trans h
            refine kg_iconst dX10_does_129 ki_1 (pc2 := 130) rfl ?_
            refine kg_goto 134 dX10_does_130 rfl ?_
            cases h
            exact kg_iret (ty := .boolean) dX10_does_134 rfl rfl
      · replace h := (if_pos q9).symm.trans h
        refine kg_aload_n 3 dX10_does_97 rfl (pc2 := 98) rfl ?_
        refine kg_iload 1 dX10_does_98 rfl (pc2 := 100) rfl ?_
        obtain ⟨r21, r21h, h⟩ := kw_bind_e h
        refine kg_callV (μ := μX10_does) (d := (d + 6)) rfl mVX10_close [.int x4] [] (gX10_close (E := E) (d := d) x4 σ r21h) rfl lmRX10_280 (ci := 10) rfl tM_0 eM_0 rfl (Nat.le_of_ble_eq_true rfl) dX10_does_100 rfl (st2 := [.int r21.1]) rfl (pc2 := 103) rfl ?_
        refine kg_if_lt 110 dX10_does_103 rfl (pc2 := 106) rfl (fun q22 => ?_) (fun q22 => ?_)
        · replace h := (if_pos q22).symm.trans h
          refine kg_iconst dX10_does_110 ki_0 (pc2 := 111) rfl ?_
          cases h
          exact kg_iret (ty := .boolean) dX10_does_111 rfl rfl
        · replace h := (if_neg q22).symm.trans h
          refine kg_iconst dX10_does_106 ki_1 (pc2 := 107) rfl ?_
          refine kg_goto 111 dX10_does_107 rfl ?_
          cases h
          exact kg_iret (ty := .boolean) dX10_does_111 rfl rfl
    · replace h := (if_pos q8).symm.trans h
      refine kg_aload_n 3 dX10_does_72 rfl (pc2 := 73) rfl ?_
      refine kg_iload 1 dX10_does_73 rfl (pc2 := 75) rfl ?_
      refine kg_iload 0 dX10_does_75 rfl (pc2 := 77) rfl ?_
      obtain ⟨r23, r23h, h⟩ := kw_bind_e h
      refine kg_callV (μ := μX10_does) (d := (d + 6)) rfl mVX10_length [.int x4, .int x6] [] (gX10_length (E := E) (d := (d + 1)) x4 x6 σ r23h) rfl lmRX10_277 (ci := 10) rfl tM_0 eM_0 rfl (Nat.le_of_ble_eq_true rfl) dX10_does_77 rfl (st2 := [.int r23.1]) rfl (pc2 := 80) rfl ?_
      refine kg_if_lt 87 dX10_does_80 rfl (pc2 := 83) rfl (fun q24 => ?_) (fun q24 => ?_)
      · replace h := (if_pos q24).symm.trans h
        refine kg_iconst dX10_does_87 ki_0 (pc2 := 88) rfl ?_
        cases h
        exact kg_iret (ty := .boolean) dX10_does_88 rfl rfl
      · replace h := (if_neg q24).symm.trans h
        refine kg_iconst dX10_does_83 ki_1 (pc2 := 84) rfl ?_
        refine kg_goto 88 dX10_does_84 rfl ?_
        cases h
        exact kg_iret (ty := .boolean) dX10_does_88 rfl rfl
  · replace h := (if_pos q7).symm.trans h
    refine kg_aload_n 3 dX10_does_37 rfl (pc2 := 38) rfl ?_
    refine kg_iload 1 dX10_does_38 rfl (pc2 := 40) rfl ?_
    refine kg_iload 0 dX10_does_40 rfl (pc2 := 42) rfl ?_
    refine kg_aload_n 3 dX10_does_42 rfl (pc2 := 43) rfl ?_
    refine kg_getr clX10 rfl 16 (Nat.le_of_ble_eq_true rfl) lfRX10_30 tM_0 eM_0 rfl dX10_does_43 (pc2 := 46) rfl ?_
    refine kg_iconst dX10_does_46 ki_3 (pc2 := 47) rfl ?_
    refine kg_iload_n 4 dX10_does_47 rfl (pc2 := 48) rfl ?_
    refine kg_imul dX10_does_48 (pc2 := 49) rfl ?_
    refine kg_iconst dX10_does_49 ki_2 (pc2 := 50) rfl ?_
    refine kg_iadd dX10_does_50 (pc2 := 51) rfl ?_
    obtain ⟨q25, h⟩ := kw_chk_e h
    refine kg_iald tM_7 eM_7 q25 (j := (((3 : Int32) * a1) + (2 : Int32)).toNatClampNeg) rfl dX10_does_51 (pc2 := 52) rfl ?_
    obtain ⟨r26, r26h, h⟩ := kw_bind_e h
    refine kg_callV (μ := μX10_does) (d := (d + 6)) rfl mVX10_lay [.int x4, .int x6, .int (σ.1 7 (((3 : Int32) * a1) + (2 : Int32)).toNatClampNeg)] [] (gX10_lay (E := E) (d := (d + 1)) x4 x6 (σ.1 7 (((3 : Int32) * a1) + (2 : Int32)).toNatClampNeg) σ r26h) rfl lmRX10_274 (ci := 10) rfl tM_0 eM_0 rfl (Nat.le_of_ble_eq_true rfl) dX10_does_52 rfl (st2 := [.int r26.1]) rfl (pc2 := 55) rfl ?_
    refine kg_if_lt 62 dX10_does_55 rfl (pc2 := 58) rfl (fun q27 => ?_) (fun q27 => ?_)
    · replace h := (if_pos q27).symm.trans h
      refine kg_iconst dX10_does_62 ki_0 (pc2 := 63) rfl ?_
      cases h
      exact kg_iret (ty := .boolean) dX10_does_63 rfl rfl
    · replace h := (if_neg q27).symm.trans h
      refine kg_iconst dX10_does_58 ki_1 (pc2 := 59) rfl ?_
      refine kg_goto 63 dX10_does_59 rfl ?_
      cases h
      exact kg_iret (ty := .boolean) dX10_does_63 rfl rfl
set_option maxHeartbeats 4000000 in
set_option maxRecDepth 100000 in
theorem lX10_orders_26 {E : kw_E} {d : Nat} (v2 : Int32) (σ : kw_M) {v : Option Value} {σ2 : kw_M} {o : (Int32 × kw_M) ⊕ (Int32 × kw_M)} (h : bX10_orders_26 v2 σ = some o) (hk : Sum.elim (fun s => kw_G E kwTM 21 (d + 8) μX10_orders 26 [(0, .ref 0), (2, .int s.1)] [] s.2 v σ2) (fun y => kw_G E kwTM 21 (d + 8) μX10_orders 49 [(2, .int y.1)] [] y.2 v σ2) o) : kw_G E kwTM 21 (d + 8) μX10_orders 26 [(0, .ref 0), (2, .int v2)] [] σ v σ2 := by
  unfold bX10_orders_26 at h
  refine kg_iload_n 1 dX10_orders_26 rfl (pc2 := 27) rfl ?_
  refine kg_aload_n 0 dX10_orders_27 rfl (pc2 := 28) rfl ?_
  refine kg_geti clX10 rfl 12 (Nat.le_of_ble_eq_true rfl) lfRX10_205 tM_0 eM_0 rfl dX10_orders_28 (pc2 := 31) rfl ?_
  refine kg_icmp_ge 49 dX10_orders_31 rfl (pc2 := 34) rfl (fun q5 => ?_) (fun q5 => ?_)
  · replace h := (if_pos q5).symm.trans h
    refine kg_sub [1] (lv2 := [(2, .int v2)]) rfl ?_
    cases h
    exact hk
  · replace h := (if_neg q5).symm.trans h
    refine kg_aload_n 0 dX10_orders_34 rfl (pc2 := 35) rfl ?_
    refine kg_iload_n 1 dX10_orders_35 rfl (pc2 := 36) rfl ?_
    obtain ⟨r6, r6h, h⟩ := kw_bind_e h
    refine kg_callV (μ := μX10_orders) (d := (d + 7)) rfl mVX10_does [.int v2] [] (gX10_does (E := E) (d := d) v2 σ r6h) rfl lmRX10_296 (ci := 10) rfl tM_0 eM_0 rfl (Nat.le_of_ble_eq_true rfl) dX10_orders_36 rfl (st2 := [.int r6.1]) rfl (pc2 := 39) rfl ?_
    refine kg_if_eq 49 dX10_orders_39 rfl (pc2 := 42) rfl (fun q7 => ?_) (fun q7 => ?_)
    · replace h := (if_pos q7).symm.trans h
      refine kg_sub [1] (lv2 := [(2, .int v2)]) rfl ?_
      cases h
      exact hk
    · replace h := (if_neg q7).symm.trans h
      refine kg_iload_n 1 dX10_orders_42 rfl (pc2 := 43) rfl ?_
      refine kg_iconst dX10_orders_43 ki_1 (pc2 := 44) rfl ?_
      refine kg_iadd dX10_orders_44 (pc2 := 45) rfl ?_
      obtain ⟨x8, x8e, h⟩ := kw_let_e h
      refine kg_istore_n dX10_orders_45 rfl (Nat.le_of_ble_eq_true rfl) x8e (lv2 := [(2, .int x8), (0, .ref 0)]) rfl (pc2 := 46) rfl ?_
      refine kg_goto 26 dX10_orders_46 rfl ?_
      refine kg_sub [1, 0] (lv2 := [(0, .ref 0), (2, .int x8)]) rfl ?_
      cases h
      exact hk
set_option maxHeartbeats 4000000 in
set_option maxRecDepth 100000 in
theorem gX10_orders {E : kw_E} {d : Nat} (a1 : Int32) (σ : kw_M) {r : Int32 × kw_M} (h : fX10_orders a1 σ = some r) : kw_Met E kwTM 21 (d + 8) μX10_orders [.ref 0, .int a1] σ (some (Value.int r.1)) r.2 := by
  refine kw_enter plRX10 (Nat.le_of_ble_eq_true rfl) ?_
  show kw_G E kwTM 21 (d + 8) μX10_orders 0 [(0, .ref 0), (1, .int a1)] [] σ (some (Value.int r.1)) r.2
  unfold fX10_orders at h
  refine kg_aload_n 0 dX10_orders_0 rfl (pc2 := 1) rfl ?_
  refine kg_iload_n 1 dX10_orders_1 rfl (pc2 := 2) rfl ?_
  obtain ⟨r1, r1h, h⟩ := kw_bind_e h
  refine kg_callV (μ := μX10_orders) (d := (d + 7)) rfl mVX10_isText [.int a1] [] (gX10_isText (E := E) (d := (d + 6)) a1 σ r1h) rfl lmRX10_260 (ci := 10) rfl tM_0 eM_0 rfl (Nat.le_of_ble_eq_true rfl) dX10_orders_2 rfl (st2 := [.int r1]) rfl (pc2 := 5) rfl ?_
  refine kg_if_ne 10 dX10_orders_5 rfl (pc2 := 8) rfl (fun q2 => ?_) (fun q2 => ?_)
  · replace h := (if_neg q2).symm.trans h
    refine kg_aload_n 0 dX10_orders_10 rfl (pc2 := 11) rfl ?_
    refine kg_iload_n 1 dX10_orders_11 rfl (pc2 := 12) rfl ?_
    refine kg_iconst dX10_orders_12 ki_0 (pc2 := 13) rfl ?_
    obtain ⟨r3, r3h, h⟩ := kw_bind_e h
    refine kg_callV (μ := μX10_orders) (d := (d + 7)) rfl mVX10_readsText [.int a1, .int (0 : Int32)] [] (gX10_readsText (E := E) (d := (d + 1)) a1 (0 : Int32) σ r3h) rfl lmRX10_263 (ci := 10) rfl tM_0 eM_0 rfl (Nat.le_of_ble_eq_true rfl) dX10_orders_13 rfl (st2 := [.int r3.1]) rfl (pc2 := 16) rfl ?_
    refine kg_if_ne 24 dX10_orders_16 rfl (pc2 := 19) rfl (fun q4 => ?_) (fun q4 => ?_)
    · replace h := (if_neg q4).symm.trans h
      refine kg_iconst dX10_orders_24 ki_0 (pc2 := 25) rfl ?_
      refine kg_istore_n dX10_orders_25 rfl (Nat.le_of_ble_eq_true rfl) rfl (lv2 := [(2, .int (0 : Int32)), (0, .ref 0), (1, .int a1)]) rfl (pc2 := 26) rfl ?_
      refine kg_sub [1, 0] (lv2 := [(0, .ref 0), (2, .int (0 : Int32))]) rfl ?_
      obtain ⟨x9, x9h, h⟩ := kw_bind_e h
      refine kw_loop_e (P := fun s => kw_G E kwTM 21 (d + 8) μX10_orders 26 [(0, .ref 0), (2, .int s.1)] [] s.2 (some (Value.int r.1)) r.2) (K := fun y => kw_G E kwTM 21 (d + 8) μX10_orders 49 [(2, .int y.1)] [] y.2 (some (Value.int r.1)) r.2) (fun s o h0 hk => lX10_orders_26 s.1 s.2 h0 hk) kw_F _ _ x9h ?_
      show kw_G E kwTM 21 (d + 8) μX10_orders 49 [(2, .int x9.1)] [] x9.2 (some (Value.int r.1)) r.2
      refine kg_iload_n 0 dX10_orders_49 rfl (pc2 := 50) rfl ?_
      cases h
      exact kg_iret (ty := .int) dX10_orders_50 rfl rfl
    · replace h := (if_pos q4).symm.trans h
      refine kg_aload_n 0 dX10_orders_19 rfl (pc2 := 20) rfl ?_
      refine kg_geti clX10 rfl 9 (Nat.le_of_ble_eq_true rfl) lfRX10_165 tM_0 eM_0 rfl dX10_orders_20 (pc2 := 23) rfl ?_
      cases h
      exact kg_iret (ty := .int) dX10_orders_23 rfl rfl
  · replace h := (if_pos q2).symm.trans h
    refine kg_iconst dX10_orders_8 ki_m1 (pc2 := 9) rfl ?_
    cases h
    exact kg_iret (ty := .int) dX10_orders_9 rfl rfl
