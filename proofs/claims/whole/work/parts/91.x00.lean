/-! The class, method by method: the machine does what f says (g). -/
set_option maxHeartbeats 4000000 in
set_option maxRecDepth 100000 in
theorem lX8_addInt_3 {E : kw_E} {d : Nat} (v1 : Int32) (v2 : Int32) (σ : kw_M) {v : Option Value} {σ2 : kw_M} {o : (Int32 × kw_M) ⊕ (kw_M)} (h : bX8_addInt_3 v1 v2 σ = some o) (hk : Sum.elim (fun s => kw_G E kwTX 48 d μX8_addInt 3 [(0, .ref 3), (1, .int v1), (2, .int s.1)] [] s.2 v σ2) (fun y => kw_G E kwTX 48 d μX8_addInt 49 [] [] y v σ2) o) : kw_G E kwTX 48 d μX8_addInt 3 [(0, .ref 3), (1, .int v1), (2, .int v2)] [] σ v σ2 := by
  unfold bX8_addInt_3 at h
  refine kg_iload_n 2 dX8_addInt_3 rfl (pc2 := 4) rfl ?_
  refine kg_if_lt 49 dX8_addInt_4 rfl (pc2 := 7) rfl (fun q1 => ?_) (fun q1 => ?_)
  · replace h := (if_pos q1).symm.trans h
    refine kg_sub [] (lv2 := []) rfl ?_
    cases h
    exact hk
  · replace h := (if_neg q1).symm.trans h
    refine kg_aload_n 0 dX8_addInt_7 rfl (pc2 := 8) rfl ?_
    refine kg_geti clX8 rfl 0 (Nat.le_of_ble_eq_true rfl) lfRX8_15 tX_3 eX_3 rfl dX8_addInt_8 (pc2 := 11) rfl ?_
    refine kg_sipush dX8_addInt_11 ks_240 (pc2 := 14) rfl ?_
    refine kg_icmp_ge 49 dX8_addInt_14 rfl (pc2 := 17) rfl (fun q2 => ?_) (fun q2 => ?_)
    · replace h := (if_pos q2).symm.trans h
      refine kg_sub [] (lv2 := []) rfl ?_
      cases h
      exact hk
    · replace h := (if_neg q2).symm.trans h
      refine kg_aload_n 0 dX8_addInt_17 rfl (pc2 := 18) rfl ?_
      refine kg_getr clX8 rfl 1 (Nat.le_of_ble_eq_true rfl) lfRX8_9 tX_3 eX_3 rfl dX8_addInt_18 (pc2 := 21) rfl ?_
      refine kg_aload_n 0 dX8_addInt_21 rfl (pc2 := 22) rfl ?_
      refine kg_geti clX8 rfl 0 (Nat.le_of_ble_eq_true rfl) lfRX8_15 tX_3 eX_3 rfl dX8_addInt_22 (pc2 := 25) rfl ?_
      refine kg_iload_n 1 dX8_addInt_25 rfl (pc2 := 26) rfl ?_
      refine kg_iload_n 2 dX8_addInt_26 rfl (pc2 := 27) rfl ?_
      refine kg_ishr dX8_addInt_27 (pc2 := 28) rfl ?_
      refine kg_sipush dX8_addInt_28 ks_255 (pc2 := 31) rfl ?_
      refine kg_iand dX8_addInt_31 (pc2 := 32) rfl ?_
      obtain ⟨q3, h⟩ := kw_chk_e h
      obtain ⟨s4, s4e, h⟩ := kw_let_e h
      refine kg_iast tX_35 eX_35 q3 (j := (σ.1 3 0).toNatClampNeg) rfl s4e dX8_addInt_32 (pc2 := 33) rfl ?_
      refine kg_aload_n 0 dX8_addInt_33 rfl (pc2 := 34) rfl ?_
      refine kg_dup dX8_addInt_34 rfl (pc2 := 35) rfl ?_
      refine kg_geti clX8 rfl 0 (Nat.le_of_ble_eq_true rfl) lfRX8_15 tX_3 eX_3 rfl dX8_addInt_35 (pc2 := 38) rfl ?_
      refine kg_iconst dX8_addInt_38 ki_1 (pc2 := 39) rfl ?_
      refine kg_iadd dX8_addInt_39 (pc2 := 40) rfl ?_
      obtain ⟨s5, s5e, h⟩ := kw_let_e h
      refine kg_puti clX8 rfl 0 (Nat.le_of_ble_eq_true rfl) lfRX8_15 rfl tX_3 eX_3 rfl (ty := .int) (by decide +kernel) rfl rfl s5e dX8_addInt_40 (pc2 := 43) rfl ?_
      obtain ⟨x6, x6e, h⟩ := kw_let_e h
      refine kg_iinc 2 dX8_addInt_43 rfl (Nat.le_of_ble_eq_true rfl) x6e (lv2 := [(2, .int x6), (0, .ref 3), (1, .int v1)]) rfl (pc2 := 46) rfl ?_
      refine kg_goto 3 dX8_addInt_46 rfl ?_
      refine kg_sub [1, 2, 0] (lv2 := [(0, .ref 3), (1, .int v1), (2, .int x6)]) rfl ?_
      cases h
      exact hk
set_option maxHeartbeats 4000000 in
set_option maxRecDepth 100000 in
theorem gX8_addInt {E : kw_E} {d : Nat} (a1 : Int32) (σ : kw_M) {r : kw_M} (h : fX8_addInt a1 σ = some r) : kw_Met E kwTX 48 d μX8_addInt [.ref 3, .int a1] σ none r := by
  refine kw_enter plRX8 (Nat.le_of_ble_eq_true rfl) ?_
  show kw_G E kwTX 48 d μX8_addInt 0 [(0, .ref 3), (1, .int a1)] [] σ none r
  unfold fX8_addInt at h
  refine kg_bipush dX8_addInt_0 kb_24 (pc2 := 2) rfl ?_
  refine kg_istore_n dX8_addInt_2 rfl (Nat.le_of_ble_eq_true rfl) rfl (lv2 := [(2, .int (24 : Int32)), (0, .ref 3), (1, .int a1)]) rfl (pc2 := 3) rfl ?_
  refine kg_sub [1, 2, 0] (lv2 := [(0, .ref 3), (1, .int a1), (2, .int (24 : Int32))]) rfl ?_
  obtain ⟨x7, x7h, h⟩ := kw_bind_e h
  refine kw_loop_e (P := fun s => kw_G E kwTX 48 d μX8_addInt 3 [(0, .ref 3), (1, .int a1), (2, .int s.1)] [] s.2 none r) (K := fun y => kw_G E kwTX 48 d μX8_addInt 49 [] [] y none r) (fun s o h0 hk => lX8_addInt_3 a1 s.1 s.2 h0 hk) kw_F _ _ x7h ?_
  show kw_G E kwTX 48 d μX8_addInt 49 [] [] x7 none r
  cases h
  exact kg_vret dX8_addInt_49 rfl
set_option maxHeartbeats 4000000 in
set_option maxRecDepth 100000 in
theorem gX9_feed {E : kw_E} {d : Nat} (a1 : Int32) (a2 : Int32) (a3 : Int32) (a4 : Int32) (a5 : Int32) (σ : kw_M) {r : Int32 × kw_M} (h : fX9_feed a1 a2 a3 a4 a5 σ = some r) : kw_Met E kwTX 48 (d + 1) μX9_feed [.ref 0, .int a1, .int a2, .int a3, .int a4, .int a5] σ (some (Value.int r.1)) r.2 := by
  refine kw_enter plRX9 (Nat.le_of_ble_eq_true rfl) ?_
  show kw_G E kwTX 48 (d + 1) μX9_feed 0 [(0, .ref 0), (1, .int a1), (2, .int a2), (3, .int a3), (4, .int a4), (5, .int a5)] [] σ (some (Value.int r.1)) r.2
  unfold fX9_feed at h
  refine kg_aload_n 0 dX9_feed_0 rfl (pc2 := 1) rfl ?_
  refine kg_getr clX9 rfl 3 (Nat.le_of_ble_eq_true rfl) lfRX9_22 tX_0 eX_0 rfl dX9_feed_1 (pc2 := 4) rfl ?_
  refine kg_geti clX8 rfl 0 (Nat.le_of_ble_eq_true rfl) lfRX9_79 tX_3 eX_3 rfl dX9_feed_4 (pc2 := 7) rfl ?_
  refine kg_bipush dX9_feed_7 kb_20 (pc2 := 9) rfl ?_
  refine kg_iadd dX9_feed_9 (pc2 := 10) rfl ?_
  refine kg_sipush dX9_feed_10 ks_240 (pc2 := 13) rfl ?_
  refine kg_icmp_le 18 dX9_feed_13 rfl (pc2 := 16) rfl (fun q1 => ?_) (fun q1 => ?_)
  · replace h := (if_pos q1).symm.trans h
    refine kg_aload_n 0 dX9_feed_18 rfl (pc2 := 19) rfl ?_
    refine kg_getr clX9 rfl 3 (Nat.le_of_ble_eq_true rfl) lfRX9_22 tX_0 eX_0 rfl dX9_feed_19 (pc2 := 22) rfl ?_
    refine kg_iload_n 1 dX9_feed_22 rfl (pc2 := 23) rfl ?_
    obtain ⟨r2, r2h, h⟩ := kw_bind_e h
    refine kg_callV (μ := μX9_feed) (d := d) rfl mVX8_addInt [.int a1] [] (gX8_addInt (E := E) (d := d) a1 σ r2h) rfl lmRX9_83 (ci := 8) rfl tX_3 eX_3 rfl (Nat.le_of_ble_eq_true rfl) dX9_feed_23 rfl (st2 := []) rfl (pc2 := 26) rfl ?_
    refine kg_aload_n 0 dX9_feed_26 rfl (pc2 := 27) rfl ?_
    refine kg_getr clX9 rfl 3 (Nat.le_of_ble_eq_true rfl) lfRX9_22 tX_0 eX_0 rfl dX9_feed_27 (pc2 := 30) rfl ?_
    refine kg_iload_n 2 dX9_feed_30 rfl (pc2 := 31) rfl ?_
    obtain ⟨r3, r3h, h⟩ := kw_bind_e h
    refine kg_callV (μ := μX9_feed) (d := d) rfl mVX8_addInt [.int a2] [] (gX8_addInt (E := E) (d := d) a2 r2 r3h) rfl lmRX9_83 (ci := 8) rfl tX_3 eX_3 rfl (Nat.le_of_ble_eq_true rfl) dX9_feed_31 rfl (st2 := []) rfl (pc2 := 34) rfl ?_
    refine kg_aload_n 0 dX9_feed_34 rfl (pc2 := 35) rfl ?_
    refine kg_getr clX9 rfl 3 (Nat.le_of_ble_eq_true rfl) lfRX9_22 tX_0 eX_0 rfl dX9_feed_35 (pc2 := 38) rfl ?_
    refine kg_iload_n 3 dX9_feed_38 rfl (pc2 := 39) rfl ?_
    obtain ⟨r4, r4h, h⟩ := kw_bind_e h
    refine kg_callV (μ := μX9_feed) (d := d) rfl mVX8_addInt [.int a3] [] (gX8_addInt (E := E) (d := d) a3 r3 r4h) rfl lmRX9_83 (ci := 8) rfl tX_3 eX_3 rfl (Nat.le_of_ble_eq_true rfl) dX9_feed_39 rfl (st2 := []) rfl (pc2 := 42) rfl ?_
    refine kg_aload_n 0 dX9_feed_42 rfl (pc2 := 43) rfl ?_
    refine kg_getr clX9 rfl 3 (Nat.le_of_ble_eq_true rfl) lfRX9_22 tX_0 eX_0 rfl dX9_feed_43 (pc2 := 46) rfl ?_
    refine kg_iload 4 dX9_feed_46 rfl (pc2 := 48) rfl ?_
    obtain ⟨r5, r5h, h⟩ := kw_bind_e h
    refine kg_callV (μ := μX9_feed) (d := d) rfl mVX8_addInt [.int a4] [] (gX8_addInt (E := E) (d := d) a4 r4 r5h) rfl lmRX9_83 (ci := 8) rfl tX_3 eX_3 rfl (Nat.le_of_ble_eq_true rfl) dX9_feed_48 rfl (st2 := []) rfl (pc2 := 51) rfl ?_
    refine kg_aload_n 0 dX9_feed_51 rfl (pc2 := 52) rfl ?_
    refine kg_getr clX9 rfl 3 (Nat.le_of_ble_eq_true rfl) lfRX9_22 tX_0 eX_0 rfl dX9_feed_52 (pc2 := 55) rfl ?_
    refine kg_iload 5 dX9_feed_55 rfl (pc2 := 57) rfl ?_
    obtain ⟨r6, r6h, h⟩ := kw_bind_e h
    refine kg_callV (μ := μX9_feed) (d := d) rfl mVX8_addInt [.int a5] [] (gX8_addInt (E := E) (d := d) a5 r5 r6h) rfl lmRX9_83 (ci := 8) rfl tX_3 eX_3 rfl (Nat.le_of_ble_eq_true rfl) dX9_feed_57 rfl (st2 := []) rfl (pc2 := 60) rfl ?_
    refine kg_aload_n 0 dX9_feed_60 rfl (pc2 := 61) rfl ?_
    refine kg_getr clX9 rfl 3 (Nat.le_of_ble_eq_true rfl) lfRX9_22 tX_0 eX_0 rfl dX9_feed_61 (pc2 := 64) rfl ?_
    refine kg_geti clX8 rfl 0 (Nat.le_of_ble_eq_true rfl) lfRX9_79 tX_3 eX_3 rfl dX9_feed_64 (pc2 := 67) rfl ?_
    cases h
    exact kg_iret (ty := .int) dX9_feed_67 rfl rfl
  · replace h := (if_neg q1).symm.trans h
    refine kg_iconst dX9_feed_16 ki_m1 (pc2 := 17) rfl ?_
    cases h
    exact kg_iret (ty := .int) dX9_feed_17 rfl rfl
set_option maxHeartbeats 4000000 in
set_option maxRecDepth 100000 in
theorem gX8_canGive {E : kw_E} {d : Nat} (a1 : Int32) (a2 : Int32) (a3 : Int32) (σ : kw_M) {r : Int32} (h : fX8_canGive a1 a2 a3 σ = some r) : kw_Met E kwTX 48 d μX8_canGive [.ref 3, .int a1, .int a2, .int a3] σ (some (Value.int r)) σ := by
  refine kw_enter plRX8 (Nat.le_of_ble_eq_true rfl) ?_
  show kw_G E kwTX 48 d μX8_canGive 0 [(0, .ref 3), (1, .int a1), (2, .int a2), (3, .int a3)] [] σ (some (Value.int r)) σ
  unfold fX8_canGive at h
  refine kg_iload_n 1 dX8_canGive_0 rfl (pc2 := 1) rfl ?_
  refine kg_iload_n 2 dX8_canGive_1 rfl (pc2 := 2) rfl ?_
  refine kg_icmp_lt 22 dX8_canGive_2 rfl (pc2 := 5) rfl (fun q1 => ?_) (fun q1 => ?_)
  · replace h := (if_pos q1).symm.trans h
    refine kg_iconst dX8_canGive_22 ki_0 (pc2 := 23) rfl ?_
    cases h
    exact kg_iret (ty := .boolean) dX8_canGive_23 rfl rfl
  · replace h := (if_neg q1).symm.trans h
    refine kg_iload_n 1 dX8_canGive_5 rfl (pc2 := 6) rfl ?_
    refine kg_iload_n 3 dX8_canGive_6 rfl (pc2 := 7) rfl ?_
    refine kg_icmp_gt 22 dX8_canGive_7 rfl (pc2 := 10) rfl (fun q2 => ?_) (fun q2 => ?_)
    · replace h := (if_pos q2).symm.trans h
      refine kg_iconst dX8_canGive_22 ki_0 (pc2 := 23) rfl ?_
      cases h
      exact kg_iret (ty := .boolean) dX8_canGive_23 rfl rfl
    · replace h := (if_neg q2).symm.trans h
      refine kg_iload_n 1 dX8_canGive_10 rfl (pc2 := 11) rfl ?_
      refine kg_aload_n 0 dX8_canGive_11 rfl (pc2 := 12) rfl ?_
      refine kg_geti clX8 rfl 0 (Nat.le_of_ble_eq_true rfl) lfRX8_15 tX_3 eX_3 rfl dX8_canGive_12 (pc2 := 15) rfl ?_
      refine kg_icmp_gt 22 dX8_canGive_15 rfl (pc2 := 18) rfl (fun q3 => ?_) (fun q3 => ?_)
      · replace h := (if_pos q3).symm.trans h
        refine kg_iconst dX8_canGive_22 ki_0 (pc2 := 23) rfl ?_
        cases h
        exact kg_iret (ty := .boolean) dX8_canGive_23 rfl rfl
      · replace h := (if_neg q3).symm.trans h
        refine kg_iconst dX8_canGive_18 ki_1 (pc2 := 19) rfl ?_
        refine kg_goto 23 dX8_canGive_19 rfl ?_
        cases h
        exact kg_iret (ty := .boolean) dX8_canGive_23 rfl rfl
set_option maxHeartbeats 4000000 in
set_option maxRecDepth 100000 in
theorem lX3_isWord_17 {E : kw_E} {d : Nat} (c2 : Nat) (v1 : Int32) (v2 : Nat) (σ : kw_M) (v3 : Int32) {v : Option Value} {σ2 : kw_M} {o : (Int32) ⊕ ((Int32) ⊕ (Unit))} (h : bX3_isWord_17 c2 v1 v2 σ v3 = some o) (hk : Sum.elim (fun s => kw_G E kwTX 48 (d + 4) μX3_isWord 17 [(0, .ref 4), (1, .int v1), (2, .ref v2), (3, .int s)] [] σ v σ2) (Sum.elim (fun rr => v = some (Value.int rr) ∧ σ2 = σ) (fun y => kw_G E kwTX 48 (d + 4) μX3_isWord 49 [] [] σ v σ2)) o) : kw_G E kwTX 48 (d + 4) μX3_isWord 17 [(0, .ref 4), (1, .int v1), (2, .ref v2), (3, .int v3)] [] σ v σ2 := by
  unfold bX3_isWord_17 at h
  refine kg_iload_n 3 dX3_isWord_17 rfl (pc2 := 18) rfl ?_
  refine kg_aload_n 2 dX3_isWord_18 rfl (pc2 := 19) rfl ?_
  obtain ⟨r3, r3h, h⟩ := kw_bind_e h
  refine kg_strlen (μ := μX3_isWord) (d := (d + 2)) rfl r3h rfl lmRX3_57 (Nat.le_of_ble_eq_true rfl) dX3_isWord_19 (pc2 := 22) rfl ?_
  refine kg_icmp_ge 49 dX3_isWord_22 rfl (pc2 := 25) rfl (fun q4 => ?_) (fun q4 => ?_)
  · replace h := (if_pos q4).symm.trans h
    refine kg_sub [] (lv2 := []) rfl ?_
    cases h
    exact hk
  · replace h := (if_neg q4).symm.trans h
    refine kg_aload_n 0 dX3_isWord_25 rfl (pc2 := 26) rfl ?_
    obtain ⟨q5, h⟩ := kw_chk_e h
    refine kg_getD clX3 rfl 4 (Nat.le_of_ble_eq_true rfl) lfRX3_18 tX_4 eX_4 rfl q5 (r := 35) (by decide) dX3_isWord_26 (pc2 := 29) rfl ?_
    refine kg_iload_n 1 dX3_isWord_29 rfl (pc2 := 30) rfl ?_
    refine kg_iload_n 3 dX3_isWord_30 rfl (pc2 := 31) rfl ?_
    refine kg_iadd dX3_isWord_31 (pc2 := 32) rfl ?_
    obtain ⟨q6, h⟩ := kw_chk_e h
    refine kg_iald tX_35 eX_35 q6 (j := (v1 + v3).toNatClampNeg) rfl dX3_isWord_32 (pc2 := 33) rfl ?_
    refine kg_aload_n 2 dX3_isWord_33 rfl (pc2 := 34) rfl ?_
    refine kg_iload_n 3 dX3_isWord_34 rfl (pc2 := 35) rfl ?_
    obtain ⟨r7, r7h, h⟩ := kw_bind_e h
    refine kg_strchr (μ := μX3_isWord) (d := d) rfl r7h rfl lmRX3_63 (Nat.le_of_ble_eq_true rfl) dX3_isWord_35 (pc2 := 38) rfl ?_
    refine kg_icmp_eq 43 dX3_isWord_38 rfl (pc2 := 41) rfl (fun q8 => ?_) (fun q8 => ?_)
    · replace h := (if_pos q8).symm.trans h
      obtain ⟨x9, x9e, h⟩ := kw_let_e h
      refine kg_iinc 3 dX3_isWord_43 rfl (Nat.le_of_ble_eq_true rfl) x9e (lv2 := [(3, .int x9), (0, .ref 4), (1, .int v1), (2, .ref v2)]) rfl (pc2 := 46) rfl ?_
      refine kg_goto 17 dX3_isWord_46 rfl ?_
      refine kg_sub [1, 2, 3, 0] (lv2 := [(0, .ref 4), (1, .int v1), (2, .ref v2), (3, .int x9)]) rfl ?_
      cases h
      exact hk
    · replace h := (if_neg q8).symm.trans h
      refine kg_iconst dX3_isWord_41 ki_0 (pc2 := 42) rfl ?_
      cases h
      obtain ⟨rfl, rfl⟩ := hk
      exact kg_iret (ty := .boolean) dX3_isWord_42 rfl rfl
set_option maxHeartbeats 4000000 in
set_option maxRecDepth 100000 in
theorem gX3_isWord {E : kw_E} {d : Nat} (c2 : Nat) (a1 : Int32) (σ : kw_M) {r : Int32} (h : fX3_isWord c2 a1 σ = some r) : kw_Met E kwTX 48 (d + 4) μX3_isWord [.ref 4, .int a1, .ref c2] σ (some (Value.int r)) σ := by
  refine kw_enter plRX3 (Nat.le_of_ble_eq_true rfl) ?_
  show kw_G E kwTX 48 (d + 4) μX3_isWord 0 [(0, .ref 4), (1, .int a1), (2, .ref c2)] [] σ (some (Value.int r)) σ
  unfold fX3_isWord at h
  refine kg_aload_n 0 dX3_isWord_0 rfl (pc2 := 1) rfl ?_
  refine kg_geti clX3 rfl 6 (Nat.le_of_ble_eq_true rfl) lfRX3_25 tX_4 eX_4 rfl dX3_isWord_1 (pc2 := 4) rfl ?_
  refine kg_iload_n 1 dX3_isWord_4 rfl (pc2 := 5) rfl ?_
  refine kg_isub dX3_isWord_5 (pc2 := 6) rfl ?_
  refine kg_aload_n 2 dX3_isWord_6 rfl (pc2 := 7) rfl ?_
  obtain ⟨r1, r1h, h⟩ := kw_bind_e h
  refine kg_strlen (μ := μX3_isWord) (d := (d + 2)) rfl r1h rfl lmRX3_57 (Nat.le_of_ble_eq_true rfl) dX3_isWord_7 (pc2 := 10) rfl ?_
  refine kg_icmp_eq 15 dX3_isWord_10 rfl (pc2 := 13) rfl (fun q2 => ?_) (fun q2 => ?_)
  · replace h := (if_pos q2).symm.trans h
    refine kg_iconst dX3_isWord_15 ki_0 (pc2 := 16) rfl ?_
    refine kg_istore_n dX3_isWord_16 rfl (Nat.le_of_ble_eq_true rfl) rfl (lv2 := [(3, .int (0 : Int32)), (0, .ref 4), (1, .int a1), (2, .ref c2)]) rfl (pc2 := 17) rfl ?_
    refine kg_sub [1, 2, 3, 0] (lv2 := [(0, .ref 4), (1, .int a1), (2, .ref c2), (3, .int (0 : Int32))]) rfl ?_
    obtain ⟨x10, x10h, h⟩ := kw_bind_e h
    refine kw_loop_e (P := fun s => kw_G E kwTX 48 (d + 4) μX3_isWord 17 [(0, .ref 4), (1, .int a1), (2, .ref c2), (3, .int s)] [] σ (some (Value.int r)) σ) (K := Sum.elim (fun rr => (some (Value.int r)) = some (Value.int rr) ∧ σ = σ) (fun y => kw_G E kwTX 48 (d + 4) μX3_isWord 49 [] [] σ (some (Value.int r)) σ)) (fun s o h0 hk => lX3_isWord_17 c2 a1 c2 σ s h0 hk) kw_F _ _ x10h ?_
    rcases x10 with x10r | x10
    · replace h := kw_se_l h
      cases h
      exact ⟨rfl, rfl⟩
    · replace h := kw_se_r h
      show kw_G E kwTX 48 (d + 4) μX3_isWord 49 [] [] σ (some (Value.int r)) σ
      refine kg_iconst dX3_isWord_49 ki_1 (pc2 := 50) rfl ?_
      cases h
      exact kg_iret (ty := .boolean) dX3_isWord_50 rfl rfl
  · replace h := (if_neg q2).symm.trans h
    refine kg_iconst dX3_isWord_13 ki_0 (pc2 := 14) rfl ?_
    cases h
    exact kg_iret (ty := .boolean) dX3_isWord_14 rfl rfl
set_option maxHeartbeats 4000000 in
set_option maxRecDepth 100000 in
theorem gjX3_netWord_16 {E : kw_E} {d : Nat} (v1 : Int32) (σ : kw_M) {r : Int32} (h : jX3_netWord_16 v1 σ = some r) : kw_G E kwTX 48 (d + 5) μX3_netWord 16 [(0, .ref 4), (1, .int v1)] [] σ (some (Value.int r)) σ := by
  unfold jX3_netWord_16 at h
  refine kg_aload_n 0 dX3_netWord_16 rfl (pc2 := 17) rfl ?_
  refine kg_iload_n 1 dX3_netWord_17 rfl (pc2 := 18) rfl ?_
  refine kg_ldcS 1 101 (own := RX3) rfl rfl rfl dX3_netWord_18 (pc2 := 20) rfl ?_
  obtain ⟨r2, r2h, h⟩ := kw_bind_e h
  refine kg_callV (μ := μX3_netWord) (d := (d + 4)) rfl mVX3_isWord [.int v1, .ref 101] [] (gX3_isWord (E := E) (d := d) 101 v1 σ r2h) rfl lmRX3_80 (ci := 3) rfl tX_4 eX_4 rfl (Nat.le_of_ble_eq_true rfl) dX3_netWord_20 rfl (st2 := [.int r2]) rfl (pc2 := 23) rfl ?_
  refine kg_if_eq 30 dX3_netWord_23 rfl (pc2 := 26) rfl (fun q3 => ?_) (fun q3 => ?_)
  · replace h := (if_pos q3).symm.trans h
    refine kg_iconst dX3_netWord_30 ki_m1 (pc2 := 31) rfl ?_
    cases h
    exact kg_iret (ty := .int) dX3_netWord_31 rfl rfl
  · replace h := (if_neg q3).symm.trans h
    refine kg_iconst dX3_netWord_26 ki_1 (pc2 := 27) rfl ?_
    refine kg_goto 31 dX3_netWord_27 rfl ?_
    cases h
    exact kg_iret (ty := .int) dX3_netWord_31 rfl rfl
set_option maxHeartbeats 4000000 in
set_option maxRecDepth 100000 in
theorem gX3_netWord {E : kw_E} {d : Nat} (a1 : Int32) (a2 : Int32) (σ : kw_M) {r : Int32} (h : fX3_netWord a1 a2 σ = some r) : kw_Met E kwTX 48 (d + 5) μX3_netWord [.ref 4, .int a1, .int a2] σ (some (Value.int r)) σ := by
  refine kw_enter plRX3 (Nat.le_of_ble_eq_true rfl) ?_
  show kw_G E kwTX 48 (d + 5) μX3_netWord 0 [(0, .ref 4), (1, .int a1), (2, .int a2)] [] σ (some (Value.int r)) σ
  unfold fX3_netWord at h
  refine kg_iload_n 2 dX3_netWord_0 rfl (pc2 := 1) rfl ?_
  refine kg_if_ne 16 dX3_netWord_1 rfl (pc2 := 4) rfl (fun q1 => ?_) (fun q1 => ?_)
  · replace h := (if_neg q1).symm.trans h
    refine kg_sub [0, 1] (lv2 := [(0, .ref 4), (1, .int a1)]) rfl ?_
    exact gjX3_netWord_16 a1 σ h
  · replace h := (if_pos q1).symm.trans h
    refine kg_aload_n 0 dX3_netWord_4 rfl (pc2 := 5) rfl ?_
    refine kg_iload_n 1 dX3_netWord_5 rfl (pc2 := 6) rfl ?_
    refine kg_ldcS 0 100 (own := RX3) rfl rfl rfl dX3_netWord_6 (pc2 := 8) rfl ?_
    obtain ⟨r4, r4h, h⟩ := kw_bind_e h
    refine kg_callV (μ := μX3_netWord) (d := (d + 4)) rfl mVX3_isWord [.int a1, .ref 100] [] (gX3_isWord (E := E) (d := d) 100 a1 σ r4h) rfl lmRX3_80 (ci := 3) rfl tX_4 eX_4 rfl (Nat.le_of_ble_eq_true rfl) dX3_netWord_8 rfl (st2 := [.int r4]) rfl (pc2 := 11) rfl ?_
    refine kg_if_eq 16 dX3_netWord_11 rfl (pc2 := 14) rfl (fun q5 => ?_) (fun q5 => ?_)
    · replace h := (if_pos q5).symm.trans h
      refine kg_sub [0, 1] (lv2 := [(0, .ref 4), (1, .int a1)]) rfl ?_
      exact gjX3_netWord_16 a1 σ h
    · replace h := (if_neg q5).symm.trans h
      refine kg_iconst dX3_netWord_14 ki_0 (pc2 := 15) rfl ?_
      cases h
      exact kg_iret (ty := .int) dX3_netWord_15 rfl rfl
set_option maxHeartbeats 4000000 in
set_option maxRecDepth 100000 in
theorem gX3_orderText {E : kw_E} {d : Nat} (a0 : Int32) (σ : kw_M) {r : Nat} (h : fX3_orderText a0 σ = some r) : kw_Met E kwTX 48 d μX3_orderText [.int a0] σ (some (Value.ref r)) σ := by
  refine kw_enter plRX3 (Nat.le_of_ble_eq_true rfl) ?_
  show kw_G E kwTX 48 d μX3_orderText 0 [(0, .int a0)] [] σ (some (Value.ref r)) σ
  unfold fX3_orderText at h
  refine kg_iload_n 0 dX3_orderText_0 rfl (pc2 := 1) rfl ?_
  by_cases q1 : a0 = (2 : Int32)
  · replace h := (if_pos q1).symm.trans h
    refine kg_tsIn (off := 39) 40 dX3_orderText_1 (by rw [q1]; decide) (by rw [q1]; decide) (by rw [q1]; decide) rfl ?_
    refine kg_ldcS 2 102 (own := RX3) rfl rfl rfl dX3_orderText_40 (pc2 := 42) rfl ?_
    cases h
    exact kg_aret dX3_orderText_42 rfl (Or.inl ⟨_, rfl⟩)
  · replace h := (if_neg q1).symm.trans h
    by_cases q2 : a0 = (3 : Int32)
    · replace h := (if_pos q2).symm.trans h
      refine kg_tsIn (off := 42) 43 dX3_orderText_1 (by rw [q2]; decide) (by rw [q2]; decide) (by rw [q2]; decide) rfl ?_
      refine kg_ldcS 3 103 (own := RX3) rfl rfl rfl dX3_orderText_43 (pc2 := 45) rfl ?_
      cases h
      exact kg_aret dX3_orderText_45 rfl (Or.inl ⟨_, rfl⟩)
    · replace h := (if_neg q2).symm.trans h
      by_cases q3 : a0 = (4 : Int32)
      · replace h := (if_pos q3).symm.trans h
        refine kg_tsIn (off := 45) 46 dX3_orderText_1 (by rw [q3]; decide) (by rw [q3]; decide) (by rw [q3]; decide) rfl ?_
        refine kg_ldcS 4 104 (own := RX3) rfl rfl rfl dX3_orderText_46 (pc2 := 48) rfl ?_
        cases h
        exact kg_aret dX3_orderText_48 rfl (Or.inl ⟨_, rfl⟩)
      · replace h := (if_neg q3).symm.trans h
        by_cases q4 : a0 = (5 : Int32)
        · replace h := (if_pos q4).symm.trans h
          refine kg_tsIn (off := 48) 49 dX3_orderText_1 (by rw [q4]; decide) (by rw [q4]; decide) (by rw [q4]; decide) rfl ?_
          refine kg_ldcS 5 105 (own := RX3) rfl rfl rfl dX3_orderText_49 (pc2 := 51) rfl ?_
          cases h
          exact kg_aret dX3_orderText_51 rfl (Or.inl ⟨_, rfl⟩)
        · replace h := (if_neg q4).symm.trans h
          by_cases q5 : a0 = (6 : Int32)
          · replace h := (if_pos q5).symm.trans h
            refine kg_tsIn (off := 51) 52 dX3_orderText_1 (by rw [q5]; decide) (by rw [q5]; decide) (by rw [q5]; decide) rfl ?_
            refine kg_ldcS 6 106 (own := RX3) rfl rfl rfl dX3_orderText_52 (pc2 := 54) rfl ?_
            cases h
            exact kg_aret dX3_orderText_54 rfl (Or.inl ⟨_, rfl⟩)
          · replace h := (if_neg q5).symm.trans h
            by_cases q6 : a0 = (7 : Int32)
            · replace h := (if_pos q6).symm.trans h
              refine kg_tsIn (off := 54) 55 dX3_orderText_1 (by rw [q6]; decide) (by rw [q6]; decide) (by rw [q6]; decide) rfl ?_
              refine kg_ldcS 7 107 (own := RX3) rfl rfl rfl dX3_orderText_55 (pc2 := 57) rfl ?_
              cases h
              exact kg_aret dX3_orderText_57 rfl (Or.inl ⟨_, rfl⟩)
            · replace h := (if_neg q6).symm.trans h
              refine kg_tsOut 58 dX3_orderText_1 (by have a0 := kw_neI (n := 2) (by decide) q1; have a1 := kw_neI (n := 3) (by decide) q2; have a2 := kw_neI (n := 4) (by decide) q3; have a3 := kw_neI (n := 5) (by decide) q4; have a4 := kw_neI (n := 6) (by decide) q5; have a5 := kw_neI (n := 7) (by decide) q6; omega) rfl ?_
              refine kg_ldcS 8 108 (own := RX3) rfl rfl rfl dX3_orderText_58 (pc2 := 60) rfl ?_
              cases h
              exact kg_aret dX3_orderText_60 rfl (Or.inl ⟨_, rfl⟩)
set_option maxHeartbeats 4000000 in
set_option maxRecDepth 100000 in
theorem lX3_orderWord_2 {E : kw_E} {d : Nat} (v1 : Int32) (σ : kw_M) (v2 : Int32) {v : Option Value} {σ2 : kw_M} {o : (Int32) ⊕ ((Int32) ⊕ (Unit))} (h : bX3_orderWord_2 v1 σ v2 = some o) (hk : Sum.elim (fun s => kw_G E kwTX 48 (d + 5) μX3_orderWord 2 [(0, .ref 4), (1, .int v1), (2, .int s)] [] σ v σ2) (Sum.elim (fun rr => v = some (Value.int rr) ∧ σ2 = σ) (fun y => kw_G E kwTX 48 (d + 5) μX3_orderWord 28 [] [] σ v σ2)) o) : kw_G E kwTX 48 (d + 5) μX3_orderWord 2 [(0, .ref 4), (1, .int v1), (2, .int v2)] [] σ v σ2 := by
  unfold bX3_orderWord_2 at h
  refine kg_iload_n 2 dX3_orderWord_2 rfl (pc2 := 3) rfl ?_
  refine kg_bipush dX3_orderWord_3 kb_8 (pc2 := 5) rfl ?_
  refine kg_icmp_gt 28 dX3_orderWord_5 rfl (pc2 := 8) rfl (fun q1 => ?_) (fun q1 => ?_)
  · replace h := (if_pos q1).symm.trans h
    refine kg_sub [] (lv2 := []) rfl ?_
    cases h
    exact hk
  · replace h := (if_neg q1).symm.trans h
    refine kg_aload_n 0 dX3_orderWord_8 rfl (pc2 := 9) rfl ?_
    refine kg_iload_n 1 dX3_orderWord_9 rfl (pc2 := 10) rfl ?_
    refine kg_iload_n 2 dX3_orderWord_10 rfl (pc2 := 11) rfl ?_
    obtain ⟨r2, r2h, h⟩ := kw_bind_e h
    refine kg_callS (μ := μX3_orderWord) (d := (d + 4)) rfl mSX3_orderText [.int v2] [.int v1, .ref 4] (gX3_orderText (E := E) (d := (d + 4)) v2 σ r2h) rfl lmRX3_86 rfl (Nat.le_of_ble_eq_true rfl) dX3_orderWord_11 rfl (st2 := [.ref r2, .int v1, .ref 4]) rfl (pc2 := 14) rfl ?_
    obtain ⟨r3, r3h, h⟩ := kw_bind_e h
    refine kg_callV (μ := μX3_orderWord) (d := (d + 4)) rfl mVX3_isWord [.int v1, .ref r2] [] (gX3_isWord (E := E) (d := d) r2 v1 σ r3h) rfl lmRX3_80 (ci := 3) rfl tX_4 eX_4 rfl (Nat.le_of_ble_eq_true rfl) dX3_orderWord_14 rfl (st2 := [.int r3]) rfl (pc2 := 17) rfl ?_
    refine kg_if_eq 22 dX3_orderWord_17 rfl (pc2 := 20) rfl (fun q4 => ?_) (fun q4 => ?_)
    · replace h := (if_pos q4).symm.trans h
      obtain ⟨x5, x5e, h⟩ := kw_let_e h
      refine kg_iinc 2 dX3_orderWord_22 rfl (Nat.le_of_ble_eq_true rfl) x5e (lv2 := [(2, .int x5), (0, .ref 4), (1, .int v1)]) rfl (pc2 := 25) rfl ?_
      refine kg_goto 2 dX3_orderWord_25 rfl ?_
      refine kg_sub [1, 2, 0] (lv2 := [(0, .ref 4), (1, .int v1), (2, .int x5)]) rfl ?_
      cases h
      exact hk
    · replace h := (if_neg q4).symm.trans h
      refine kg_iload_n 2 dX3_orderWord_20 rfl (pc2 := 21) rfl ?_
      cases h
      obtain ⟨rfl, rfl⟩ := hk
      exact kg_iret (ty := .int) dX3_orderWord_21 rfl rfl
set_option maxHeartbeats 4000000 in
set_option maxRecDepth 100000 in
theorem gX3_orderWord {E : kw_E} {d : Nat} (a1 : Int32) (σ : kw_M) {r : Int32} (h : fX3_orderWord a1 σ = some r) : kw_Met E kwTX 48 (d + 5) μX3_orderWord [.ref 4, .int a1] σ (some (Value.int r)) σ := by
  refine kw_enter plRX3 (Nat.le_of_ble_eq_true rfl) ?_
  show kw_G E kwTX 48 (d + 5) μX3_orderWord 0 [(0, .ref 4), (1, .int a1)] [] σ (some (Value.int r)) σ
  unfold fX3_orderWord at h
  refine kg_iconst dX3_orderWord_0 ki_2 (pc2 := 1) rfl ?_
  refine kg_istore_n dX3_orderWord_1 rfl (Nat.le_of_ble_eq_true rfl) rfl (lv2 := [(2, .int (2 : Int32)), (0, .ref 4), (1, .int a1)]) rfl (pc2 := 2) rfl ?_
  refine kg_sub [1, 2, 0] (lv2 := [(0, .ref 4), (1, .int a1), (2, .int (2 : Int32))]) rfl ?_
  obtain ⟨x6, x6h, h⟩ := kw_bind_e h
  refine kw_loop_e (P := fun s => kw_G E kwTX 48 (d + 5) μX3_orderWord 2 [(0, .ref 4), (1, .int a1), (2, .int s)] [] σ (some (Value.int r)) σ) (K := Sum.elim (fun rr => (some (Value.int r)) = some (Value.int rr) ∧ σ = σ) (fun y => kw_G E kwTX 48 (d + 5) μX3_orderWord 28 [] [] σ (some (Value.int r)) σ)) (fun s o h0 hk => lX3_orderWord_2 a1 σ s h0 hk) kw_F _ _ x6h ?_
  rcases x6 with x6r | x6
  · replace h := kw_se_l h
    cases h
    exact ⟨rfl, rfl⟩
  · replace h := kw_se_r h
    show kw_G E kwTX 48 (d + 5) μX3_orderWord 28 [] [] σ (some (Value.int r)) σ
    refine kg_iconst dX3_orderWord_28 ki_m1 (pc2 := 29) rfl ?_
    cases h
    exact kg_iret (ty := .int) dX3_orderWord_29 rfl rfl
set_option maxHeartbeats 4000000 in
set_option maxRecDepth 100000 in
theorem gX3_tellFault {E : kw_E} {d : Nat} (a1 : Int32) (a2 : Int32) (σ : kw_M) {r : kw_M} (h : fX3_tellFault a1 a2 σ = some r) : kw_Met E kwTX 48 d μX3_tellFault [.ref 4, .int a1, .int a2] σ none r := by
  refine kw_enter plRX3 (Nat.le_of_ble_eq_true rfl) ?_
  show kw_G E kwTX 48 d μX3_tellFault 0 [(0, .ref 4), (1, .int a1), (2, .int a2)] [] σ none r
  unfold fX3_tellFault at h
  refine kg_aload_n 0 dX3_tellFault_0 rfl (pc2 := 1) rfl ?_
  refine kg_sipush dX3_tellFault_1 ks_m1000 (pc2 := 4) rfl ?_
  refine kg_iload_n 1 dX3_tellFault_4 rfl (pc2 := 5) rfl ?_
  refine kg_imul dX3_tellFault_5 (pc2 := 6) rfl ?_
  refine kg_iload_n 2 dX3_tellFault_6 rfl (pc2 := 7) rfl ?_
  refine kg_isub dX3_tellFault_7 (pc2 := 8) rfl ?_
  obtain ⟨s1, s1e, h⟩ := kw_let_e h
  refine kg_puti clX3 rfl 7 (Nat.le_of_ble_eq_true rfl) lfRX3_28 rfl tX_4 eX_4 rfl (ty := .int) (by decide +kernel) rfl rfl s1e dX3_tellFault_8 (pc2 := 11) rfl ?_
  cases h
  exact kg_vret dX3_tellFault_11 rfl
set_option maxHeartbeats 4000000 in
set_option maxRecDepth 100000 in
theorem lX3_readWord_5 {E : kw_E} {d : Nat} (v1 : Int32) (v2 : Int32) (σ : kw_M) {v : Option Value} {σ2 : kw_M} {o : (kw_M) ⊕ (kw_M)} (h : bX3_readWord_5 v1 v2 σ = some o) (hk : Sum.elim (fun s => kw_G E kwTX 48 (d + 6) μX3_readWord 5 [(0, .ref 4), (1, .int v1), (2, .int v2)] [] s v σ2) (fun y => kw_G E kwTX 48 (d + 6) μX3_readWord 57 [(0, .ref 4), (1, .int v1), (2, .int v2)] [] y v σ2) o) : kw_G E kwTX 48 (d + 6) μX3_readWord 5 [(0, .ref 4), (1, .int v1), (2, .int v2)] [] σ v σ2 := by
  unfold bX3_readWord_5 at h
  refine kg_aload_n 0 dX3_readWord_5 rfl (pc2 := 6) rfl ?_
  refine kg_geti clX3 rfl 6 (Nat.le_of_ble_eq_true rfl) lfRX3_25 tX_4 eX_4 rfl dX3_readWord_6 (pc2 := 9) rfl ?_
  refine kg_aload_n 0 dX3_readWord_9 rfl (pc2 := 10) rfl ?_
  refine kg_geti clX3 rfl 5 (Nat.le_of_ble_eq_true rfl) lfRX3_21 tX_4 eX_4 rfl dX3_readWord_10 (pc2 := 13) rfl ?_
  refine kg_icmp_ge 57 dX3_readWord_13 rfl (pc2 := 16) rfl (fun q2 => ?_) (fun q2 => ?_)
  · replace h := (if_pos q2).symm.trans h
    cases h
    exact hk
  · replace h := (if_neg q2).symm.trans h
    refine kg_aload_n 0 dX3_readWord_16 rfl (pc2 := 17) rfl ?_
    obtain ⟨q3, h⟩ := kw_chk_e h
    refine kg_getD clX3 rfl 4 (Nat.le_of_ble_eq_true rfl) lfRX3_18 tX_4 eX_4 rfl q3 (r := 35) (by decide) dX3_readWord_17 (pc2 := 20) rfl ?_
    refine kg_aload_n 0 dX3_readWord_20 rfl (pc2 := 21) rfl ?_
    refine kg_geti clX3 rfl 6 (Nat.le_of_ble_eq_true rfl) lfRX3_25 tX_4 eX_4 rfl dX3_readWord_21 (pc2 := 24) rfl ?_
    obtain ⟨q4, h⟩ := kw_chk_e h
    refine kg_iald tX_35 eX_35 q4 (j := (σ.1 4 6).toNatClampNeg) rfl dX3_readWord_24 (pc2 := 25) rfl ?_
    refine kg_bipush dX3_readWord_25 kb_97 (pc2 := 27) rfl ?_
    refine kg_icmp_lt 57 dX3_readWord_27 rfl (pc2 := 30) rfl (fun q5 => ?_) (fun q5 => ?_)
    · replace h := (if_pos q5).symm.trans h
      cases h
      exact hk
    · replace h := (if_neg q5).symm.trans h
      refine kg_aload_n 0 dX3_readWord_30 rfl (pc2 := 31) rfl ?_
      obtain ⟨q6, h⟩ := kw_chk_e h
      refine kg_getD clX3 rfl 4 (Nat.le_of_ble_eq_true rfl) lfRX3_18 tX_4 eX_4 rfl q6 (r := 35) (by decide) dX3_readWord_31 (pc2 := 34) rfl ?_
      refine kg_aload_n 0 dX3_readWord_34 rfl (pc2 := 35) rfl ?_
      refine kg_geti clX3 rfl 6 (Nat.le_of_ble_eq_true rfl) lfRX3_25 tX_4 eX_4 rfl dX3_readWord_35 (pc2 := 38) rfl ?_
      refine kg_iald tX_35 eX_35 q4 (j := (σ.1 4 6).toNatClampNeg) rfl dX3_readWord_38 (pc2 := 39) rfl ?_
      refine kg_bipush dX3_readWord_39 kb_122 (pc2 := 41) rfl ?_
      refine kg_icmp_gt 57 dX3_readWord_41 rfl (pc2 := 44) rfl (fun q7 => ?_) (fun q7 => ?_)
      · replace h := (if_pos q7).symm.trans h
        cases h
        exact hk
      · replace h := (if_neg q7).symm.trans h
        refine kg_aload_n 0 dX3_readWord_44 rfl (pc2 := 45) rfl ?_
        refine kg_dup dX3_readWord_45 rfl (pc2 := 46) rfl ?_
        refine kg_geti clX3 rfl 6 (Nat.le_of_ble_eq_true rfl) lfRX3_25 tX_4 eX_4 rfl dX3_readWord_46 (pc2 := 49) rfl ?_
        refine kg_iconst dX3_readWord_49 ki_1 (pc2 := 50) rfl ?_
        refine kg_iadd dX3_readWord_50 (pc2 := 51) rfl ?_
        obtain ⟨s8, s8e, h⟩ := kw_let_e h
        refine kg_puti clX3 rfl 6 (Nat.le_of_ble_eq_true rfl) lfRX3_25 rfl tX_4 eX_4 rfl (ty := .int) (by decide +kernel) rfl rfl s8e dX3_readWord_51 (pc2 := 54) rfl ?_
        refine kg_goto 5 dX3_readWord_54 rfl ?_
        cases h
        exact hk
set_option maxHeartbeats 4000000 in
set_option maxRecDepth 100000 in
theorem gjX3_readWord_78 {E : kw_E} {d : Nat} (v1 : Int32) (v2 : Int32) (t0 : Int32) (σ : kw_M) {r : kw_M} (h : jX3_readWord_78 v1 v2 t0 σ = some r) : kw_G E kwTX 48 (d + 6) μX3_readWord 78 [(0, .ref 4), (1, .int v1), (2, .int v2)] [.int t0] σ none r := by
  unfold jX3_readWord_78 at h
  refine kg_istore_n dX3_readWord_78 rfl (Nat.le_of_ble_eq_true rfl) rfl (lv2 := [(3, .int t0), (0, .ref 4), (1, .int v1), (2, .int v2)]) rfl (pc2 := 79) rfl ?_
  refine kg_iload_n 0 dX3_readWord_79 rfl (pc2 := 80) rfl ?_
  refine kg_iconst dX3_readWord_80 ki_m1 (pc2 := 81) rfl ?_
  refine kg_icmp_ne 93 dX3_readWord_81 rfl (pc2 := 84) rfl (fun q12 => ?_) (fun q12 => ?_)
  · replace h := (if_neg q12).symm.trans h
    refine kg_aload_n 1 dX3_readWord_93 rfl (pc2 := 94) rfl ?_
    refine kg_getr clX3 rfl 2 (Nat.le_of_ble_eq_true rfl) lfRX3_9 tX_4 eX_4 rfl dX3_readWord_94 (pc2 := 97) rfl ?_
    refine kg_iload_n 2 dX3_readWord_97 rfl (pc2 := 98) rfl ?_
    refine kg_iload_n 0 dX3_readWord_98 rfl (pc2 := 99) rfl ?_
    obtain ⟨q13, h⟩ := kw_chk_e h
    obtain ⟨s14, s14e, h⟩ := kw_let_e h
    refine kg_iast tX_36 eX_36 q13 (j := v1.toNatClampNeg) rfl s14e dX3_readWord_99 (pc2 := 100) rfl ?_
    cases h
    exact kg_vret dX3_readWord_100 rfl
  · replace h := (if_pos q12).symm.trans h
    refine kg_aload_n 1 dX3_readWord_84 rfl (pc2 := 85) rfl ?_
    refine kg_iconst dX3_readWord_85 ki_1 (pc2 := 86) rfl ?_
    refine kg_iload_n 3 dX3_readWord_86 rfl (pc2 := 87) rfl ?_
    obtain ⟨r15, r15h, h⟩ := kw_bind_e h
    refine kg_callV (μ := μX3_readWord) (d := (d + 5)) rfl mVX3_tellFault [.int (1 : Int32), .int v2] [] (gX3_tellFault (E := E) (d := (d + 5)) (1 : Int32) v2 σ r15h) rfl lmRX3_45 (ci := 3) rfl tX_4 eX_4 rfl (Nat.le_of_ble_eq_true rfl) dX3_readWord_87 rfl (st2 := []) rfl (pc2 := 90) rfl ?_
    refine kg_goto 100 dX3_readWord_90 rfl ?_
    cases h
    exact kg_vret dX3_readWord_100 rfl
set_option maxHeartbeats 4000000 in
set_option maxRecDepth 100000 in
theorem gjX3_readWord_57 {E : kw_E} {d : Nat} (v1 : Int32) (v2 : Int32) (σ : kw_M) {r : kw_M} (h : jX3_readWord_57 v1 v2 σ = some r) : kw_G E kwTX 48 (d + 6) μX3_readWord 57 [(0, .ref 4), (1, .int v1), (2, .int v2)] [] σ none r := by
  unfold jX3_readWord_57 at h
  refine kg_aload_n 0 dX3_readWord_57 rfl (pc2 := 58) rfl ?_
  refine kg_geti clX3 rfl 8 (Nat.le_of_ble_eq_true rfl) lfRX3_31 tX_4 eX_4 rfl dX3_readWord_58 (pc2 := 61) rfl ?_
  refine kg_if_eq 73 dX3_readWord_61 rfl (pc2 := 64) rfl (fun q10 => ?_) (fun q10 => ?_)
  · replace h := (if_pos q10).symm.trans h
    refine kg_aload_n 0 dX3_readWord_73 rfl (pc2 := 74) rfl ?_
    refine kg_iload_n 2 dX3_readWord_74 rfl (pc2 := 75) rfl ?_
    obtain ⟨r11, r11h, h⟩ := kw_bind_e h
    refine kg_callV (μ := μX3_readWord) (d := (d + 5)) rfl mVX3_orderWord [.int v2] [] (gX3_orderWord (E := E) (d := d) v2 σ r11h) rfl lmRX3_75 (ci := 3) rfl tX_4 eX_4 rfl (Nat.le_of_ble_eq_true rfl) dX3_readWord_75 rfl (st2 := [.int r11]) rfl (pc2 := 78) rfl ?_
    exact gjX3_readWord_78 v1 v2 r11 σ h
  · replace h := (if_neg q10).symm.trans h
    refine kg_aload_n 0 dX3_readWord_64 rfl (pc2 := 65) rfl ?_
    refine kg_iload_n 2 dX3_readWord_65 rfl (pc2 := 66) rfl ?_
    refine kg_iload_n 1 dX3_readWord_66 rfl (pc2 := 67) rfl ?_
    obtain ⟨r16, r16h, h⟩ := kw_bind_e h
    refine kg_callV (μ := μX3_readWord) (d := (d + 5)) rfl mVX3_netWord [.int v2, .int v1] [] (gX3_netWord (E := E) (d := d) v2 v1 σ r16h) rfl lmRX3_71 (ci := 3) rfl tX_4 eX_4 rfl (Nat.le_of_ble_eq_true rfl) dX3_readWord_67 rfl (st2 := [.int r16]) rfl (pc2 := 70) rfl ?_
    refine kg_goto 78 dX3_readWord_70 rfl ?_
    exact gjX3_readWord_78 v1 v2 r16 σ h
set_option maxHeartbeats 4000000 in
set_option maxRecDepth 100000 in
theorem gX3_readWord {E : kw_E} {d : Nat} (a1 : Int32) (σ : kw_M) {r : kw_M} (h : fX3_readWord a1 σ = some r) : kw_Met E kwTX 48 (d + 6) μX3_readWord [.ref 4, .int a1] σ none r := by
  refine kw_enter plRX3 (Nat.le_of_ble_eq_true rfl) ?_
  show kw_G E kwTX 48 (d + 6) μX3_readWord 0 [(0, .ref 4), (1, .int a1)] [] σ none r
  unfold fX3_readWord at h
  refine kg_aload_n 0 dX3_readWord_0 rfl (pc2 := 1) rfl ?_
  refine kg_geti clX3 rfl 6 (Nat.le_of_ble_eq_true rfl) lfRX3_25 tX_4 eX_4 rfl dX3_readWord_1 (pc2 := 4) rfl ?_
  obtain ⟨x1, x1e, h⟩ := kw_let_e h
  refine kg_istore_n dX3_readWord_4 rfl (Nat.le_of_ble_eq_true rfl) x1e (lv2 := [(2, .int x1), (0, .ref 4), (1, .int a1)]) rfl (pc2 := 5) rfl ?_
  refine kg_sub [1, 2, 0] (lv2 := [(0, .ref 4), (1, .int a1), (2, .int x1)]) rfl ?_
  obtain ⟨x9, x9h, h⟩ := kw_bind_e h
  refine kw_loop_e (P := fun s => kw_G E kwTX 48 (d + 6) μX3_readWord 5 [(0, .ref 4), (1, .int a1), (2, .int x1)] [] s none r) (K := fun y => kw_G E kwTX 48 (d + 6) μX3_readWord 57 [(0, .ref 4), (1, .int a1), (2, .int x1)] [] y none r) (fun s o h0 hk => lX3_readWord_5 a1 x1 s h0 hk) kw_F _ _ x9h ?_
  show kw_G E kwTX 48 (d + 6) μX3_readWord 57 [(0, .ref 4), (1, .int a1), (2, .int x1)] [] x9 none r
  exact gjX3_readWord_57 a1 x1 x9 h
set_option maxHeartbeats 4000000 in
set_option maxRecDepth 100000 in
theorem gX3_shapeOf {E : kw_E} {d : Nat} (a0 : Int32) (σ : kw_M) {r : Nat} (h : fX3_shapeOf a0 σ = some r) : kw_Met E kwTX 48 d μX3_shapeOf [.int a0] σ (some (Value.ref r)) σ := by
  refine kw_enter plRX3 (Nat.le_of_ble_eq_true rfl) ?_
  show kw_G E kwTX 48 d μX3_shapeOf 0 [(0, .int a0)] [] σ (some (Value.ref r)) σ
  unfold fX3_shapeOf at h
  refine kg_iload_n 0 dX3_shapeOf_0 rfl (pc2 := 1) rfl ?_
  by_cases q1 : a0 = (0 : Int32)
  · replace h := (if_pos q1).symm.trans h
    refine kg_tsIn (off := 47) 48 dX3_shapeOf_1 (by rw [q1]; decide) (by rw [q1]; decide) (by rw [q1]; decide) rfl ?_
    refine kg_ldcS 9 109 (own := RX3) rfl rfl rfl dX3_shapeOf_48 (pc2 := 50) rfl ?_
    cases h
    exact kg_aret dX3_shapeOf_50 rfl (Or.inl ⟨_, rfl⟩)
  · replace h := (if_neg q1).symm.trans h
    by_cases q2 : a0 = (1 : Int32)
    · replace h := (if_pos q2).symm.trans h
      refine kg_tsIn (off := 50) 51 dX3_shapeOf_1 (by rw [q2]; decide) (by rw [q2]; decide) (by rw [q2]; decide) rfl ?_
      refine kg_ldcS 10 110 (own := RX3) rfl rfl rfl dX3_shapeOf_51 (pc2 := 53) rfl ?_
      cases h
      exact kg_aret dX3_shapeOf_53 rfl (Or.inl ⟨_, rfl⟩)
    · replace h := (if_neg q2).symm.trans h
      by_cases q3 : a0 = (2 : Int32)
      · replace h := (if_pos q3).symm.trans h
        refine kg_tsIn (off := 53) 54 dX3_shapeOf_1 (by rw [q3]; decide) (by rw [q3]; decide) (by rw [q3]; decide) rfl ?_
        refine kg_ldcS 10 110 (own := RX3) rfl rfl rfl dX3_shapeOf_54 (pc2 := 56) rfl ?_
        cases h
        exact kg_aret dX3_shapeOf_56 rfl (Or.inl ⟨_, rfl⟩)
      · replace h := (if_neg q3).symm.trans h
        by_cases q4 : a0 = (3 : Int32)
        · replace h := (if_pos q4).symm.trans h
          refine kg_tsIn (off := 56) 57 dX3_shapeOf_1 (by rw [q4]; decide) (by rw [q4]; decide) (by rw [q4]; decide) rfl ?_
          refine kg_ldcS 11 111 (own := RX3) rfl rfl rfl dX3_shapeOf_57 (pc2 := 59) rfl ?_
          cases h
          exact kg_aret dX3_shapeOf_59 rfl (Or.inl ⟨_, rfl⟩)
        · replace h := (if_neg q4).symm.trans h
          by_cases q5 : a0 = (4 : Int32)
          · replace h := (if_pos q5).symm.trans h
            refine kg_tsIn (off := 62) 63 dX3_shapeOf_1 (by rw [q5]; decide) (by rw [q5]; decide) (by rw [q5]; decide) rfl ?_
            refine kg_ldcS 13 113 (own := RX3) rfl rfl rfl dX3_shapeOf_63 (pc2 := 65) rfl ?_
            cases h
            exact kg_aret dX3_shapeOf_65 rfl (Or.inl ⟨_, rfl⟩)
          · replace h := (if_neg q5).symm.trans h
            by_cases q6 : a0 = (5 : Int32)
            · replace h := (if_pos q6).symm.trans h
              refine kg_tsIn (off := 65) 66 dX3_shapeOf_1 (by rw [q6]; decide) (by rw [q6]; decide) (by rw [q6]; decide) rfl ?_
              refine kg_ldcS 13 113 (own := RX3) rfl rfl rfl dX3_shapeOf_66 (pc2 := 68) rfl ?_
              cases h
              exact kg_aret dX3_shapeOf_68 rfl (Or.inl ⟨_, rfl⟩)
            · replace h := (if_neg q6).symm.trans h
              by_cases q7 : a0 = (6 : Int32)
              · replace h := (if_pos q7).symm.trans h
                refine kg_tsIn (off := 68) 69 dX3_shapeOf_1 (by rw [q7]; decide) (by rw [q7]; decide) (by rw [q7]; decide) rfl ?_
                refine kg_ldcS 14 114 (own := RX3) rfl rfl rfl dX3_shapeOf_69 (pc2 := 71) rfl ?_
                cases h
                exact kg_aret dX3_shapeOf_71 rfl (Or.inl ⟨_, rfl⟩)
              · replace h := (if_neg q7).symm.trans h
                by_cases q8 : a0 = (7 : Int32)
                · replace h := (if_pos q8).symm.trans h
                  refine kg_tsIn (off := 59) 60 dX3_shapeOf_1 (by rw [q8]; decide) (by rw [q8]; decide) (by rw [q8]; decide) rfl ?_
                  refine kg_ldcS 12 112 (own := RX3) rfl rfl rfl dX3_shapeOf_60 (pc2 := 62) rfl ?_
                  cases h
                  exact kg_aret dX3_shapeOf_62 rfl (Or.inl ⟨_, rfl⟩)
                · replace h := (if_neg q8).symm.trans h
                  refine kg_tsOut 69 dX3_shapeOf_1 (by have a0 := kw_neI (n := 0) (by decide) q1; have a1 := kw_neI (n := 1) (by decide) q2; have a2 := kw_neI (n := 2) (by decide) q3; have a3 := kw_neI (n := 3) (by decide) q4; have a4 := kw_neI (n := 4) (by decide) q5; have a5 := kw_neI (n := 5) (by decide) q6; have a6 := kw_neI (n := 6) (by decide) q7; have a7 := kw_neI (n := 7) (by decide) q8; omega) rfl ?_
                  refine kg_ldcS 14 114 (own := RX3) rfl rfl rfl dX3_shapeOf_69 (pc2 := 71) rfl ?_
                  cases h
                  exact kg_aret dX3_shapeOf_71 rfl (Or.inl ⟨_, rfl⟩)
set_option maxHeartbeats 4000000 in
set_option maxRecDepth 100000 in
theorem lX3_readValue_52 {E : kw_E} {d : Nat} (v1 : Int32) (v2 : Int32) (v3 : Int64) (σ : kw_M) {v : Option Value} {σ2 : kw_M} {o : (Int64 × kw_M) ⊕ ((Int64 × kw_M) ⊕ (Int64 × kw_M))} (h : bX3_readValue_52 v1 v2 v3 σ = some o) (hk : Sum.elim (fun s => kw_G E kwTX 48 (d + 1) μX3_readValue 52 [(0, .ref 4), (1, .int v1), (2, .int v2), (3, .long s.1)] [] s.2 v σ2) (Sum.elim (fun rr => v = some (Value.long rr.1) ∧ σ2 = rr.2) (fun y => kw_G E kwTX 48 (d + 1) μX3_readValue 146 [(0, .ref 4), (1, .int v1), (2, .int v2), (3, .long y.1)] [] y.2 v σ2)) o) : kw_G E kwTX 48 (d + 1) μX3_readValue 52 [(0, .ref 4), (1, .int v1), (2, .int v2), (3, .long v3)] [] σ v σ2 := by
  unfold bX3_readValue_52 at h
  refine kg_aload_n 0 dX3_readValue_52 rfl (pc2 := 53) rfl ?_
  refine kg_geti clX3 rfl 6 (Nat.le_of_ble_eq_true rfl) lfRX3_25 tX_4 eX_4 rfl dX3_readValue_53 (pc2 := 56) rfl ?_
  refine kg_aload_n 0 dX3_readValue_56 rfl (pc2 := 57) rfl ?_
  refine kg_geti clX3 rfl 5 (Nat.le_of_ble_eq_true rfl) lfRX3_21 tX_4 eX_4 rfl dX3_readValue_57 (pc2 := 60) rfl ?_
  refine kg_icmp_ge 146 dX3_readValue_60 rfl (pc2 := 63) rfl (fun q4 => ?_) (fun q4 => ?_)
  · replace h := (if_pos q4).symm.trans h
    cases h
    exact hk
  · replace h := (if_neg q4).symm.trans h
    refine kg_aload_n 0 dX3_readValue_63 rfl (pc2 := 64) rfl ?_
    obtain ⟨q5, h⟩ := kw_chk_e h
    refine kg_getD clX3 rfl 4 (Nat.le_of_ble_eq_true rfl) lfRX3_18 tX_4 eX_4 rfl q5 (r := 35) (by decide) dX3_readValue_64 (pc2 := 67) rfl ?_
    refine kg_aload_n 0 dX3_readValue_67 rfl (pc2 := 68) rfl ?_
    refine kg_geti clX3 rfl 6 (Nat.le_of_ble_eq_true rfl) lfRX3_25 tX_4 eX_4 rfl dX3_readValue_68 (pc2 := 71) rfl ?_
    obtain ⟨q6, h⟩ := kw_chk_e h
    refine kg_iald tX_35 eX_35 q6 (j := (σ.1 4 6).toNatClampNeg) rfl dX3_readValue_71 (pc2 := 72) rfl ?_
    refine kg_bipush dX3_readValue_72 kb_48 (pc2 := 74) rfl ?_
    refine kg_icmp_lt 146 dX3_readValue_74 rfl (pc2 := 77) rfl (fun q7 => ?_) (fun q7 => ?_)
    · replace h := (if_pos q7).symm.trans h
      cases h
      exact hk
    · replace h := (if_neg q7).symm.trans h
      refine kg_aload_n 0 dX3_readValue_77 rfl (pc2 := 78) rfl ?_
      obtain ⟨q8, h⟩ := kw_chk_e h
      refine kg_getD clX3 rfl 4 (Nat.le_of_ble_eq_true rfl) lfRX3_18 tX_4 eX_4 rfl q8 (r := 35) (by decide) dX3_readValue_78 (pc2 := 81) rfl ?_
      refine kg_aload_n 0 dX3_readValue_81 rfl (pc2 := 82) rfl ?_
      refine kg_geti clX3 rfl 6 (Nat.le_of_ble_eq_true rfl) lfRX3_25 tX_4 eX_4 rfl dX3_readValue_82 (pc2 := 85) rfl ?_
      refine kg_iald tX_35 eX_35 q6 (j := (σ.1 4 6).toNatClampNeg) rfl dX3_readValue_85 (pc2 := 86) rfl ?_
      refine kg_bipush dX3_readValue_86 kb_57 (pc2 := 88) rfl ?_
      refine kg_icmp_gt 146 dX3_readValue_88 rfl (pc2 := 91) rfl (fun q9 => ?_) (fun q9 => ?_)
      · replace h := (if_pos q9).symm.trans h
        cases h
        exact hk
      · replace h := (if_neg q9).symm.trans h
        refine kg_aload_n 0 dX3_readValue_91 rfl (pc2 := 92) rfl ?_
        refine kg_geti clX3 rfl 6 (Nat.le_of_ble_eq_true rfl) lfRX3_25 tX_4 eX_4 rfl dX3_readValue_92 (pc2 := 95) rfl ?_
        refine kg_iload_n 2 dX3_readValue_95 rfl (pc2 := 96) rfl ?_
        refine kg_isub dX3_readValue_96 (pc2 := 97) rfl ?_
        refine kg_bipush dX3_readValue_97 kb_10 (pc2 := 99) rfl ?_
        refine kg_icmp_ne 113 dX3_readValue_99 rfl (pc2 := 102) rfl (fun q10 => ?_) (fun q10 => ?_)
        · replace h := (if_neg q10).symm.trans h
          refine kg_lload_n 3 dX3_readValue_113 rfl (pc2 := 114) rfl ?_
          refine kg_ldc2 rfl lcRX3_122 dX3_readValue_114 (pc2 := 117) rfl ?_
          refine kg_lmul dX3_readValue_117 (pc2 := 118) rfl ?_
          refine kg_aload_n 0 dX3_readValue_118 rfl (pc2 := 119) rfl ?_
          obtain ⟨q11, h⟩ := kw_chk_e h
          refine kg_getD clX3 rfl 4 (Nat.le_of_ble_eq_true rfl) lfRX3_18 tX_4 eX_4 rfl q11 (r := 35) (by decide) dX3_readValue_119 (pc2 := 122) rfl ?_
          refine kg_aload_n 0 dX3_readValue_122 rfl (pc2 := 123) rfl ?_
          refine kg_geti clX3 rfl 6 (Nat.le_of_ble_eq_true rfl) lfRX3_25 tX_4 eX_4 rfl dX3_readValue_123 (pc2 := 126) rfl ?_
          refine kg_iald tX_35 eX_35 q6 (j := (σ.1 4 6).toNatClampNeg) rfl dX3_readValue_126 (pc2 := 127) rfl ?_
          refine kg_bipush dX3_readValue_127 kb_48 (pc2 := 129) rfl ?_
          refine kg_isub dX3_readValue_129 (pc2 := 130) rfl ?_
          refine kg_i2l dX3_readValue_130 (pc2 := 131) rfl ?_
          refine kg_ladd dX3_readValue_131 (pc2 := 132) rfl ?_
          obtain ⟨x12, x12e, h⟩ := kw_let_e h
          refine kg_lstore_n dX3_readValue_132 rfl (Nat.le_of_ble_eq_true rfl) x12e (lv2 := [(3, .long x12), (0, .ref 4), (1, .int v1), (2, .int v2)]) rfl (pc2 := 133) rfl ?_
          refine kg_aload_n 1 dX3_readValue_133 rfl (pc2 := 134) rfl ?_
          refine kg_dup dX3_readValue_134 rfl (pc2 := 135) rfl ?_
          refine kg_geti clX3 rfl 6 (Nat.le_of_ble_eq_true rfl) lfRX3_25 tX_4 eX_4 rfl dX3_readValue_135 (pc2 := 138) rfl ?_
          refine kg_iconst dX3_readValue_138 ki_1 (pc2 := 139) rfl ?_
          refine kg_iadd dX3_readValue_139 (pc2 := 140) rfl ?_
          obtain ⟨s13, s13e, h⟩ := kw_let_e h
          refine kg_puti clX3 rfl 6 (Nat.le_of_ble_eq_true rfl) lfRX3_25 rfl tX_4 eX_4 rfl (ty := .int) (by decide +kernel) rfl rfl s13e dX3_readValue_140 (pc2 := 143) rfl ?_
          refine kg_goto 52 dX3_readValue_143 rfl ?_
          refine kg_sub [1, 2, 3, 0] (lv2 := [(0, .ref 4), (1, .int v1), (2, .int v2), (3, .long x12)]) rfl ?_
          cases h
          exact hk
        · replace h := (if_pos q10).symm.trans h
          refine kg_aload_n 0 dX3_readValue_102 rfl (pc2 := 103) rfl ?_
          refine kg_iconst dX3_readValue_103 ki_2 (pc2 := 104) rfl ?_
          refine kg_aload_n 0 dX3_readValue_104 rfl (pc2 := 105) rfl ?_
          refine kg_geti clX3 rfl 6 (Nat.le_of_ble_eq_true rfl) lfRX3_25 tX_4 eX_4 rfl dX3_readValue_105 (pc2 := 108) rfl ?_
          obtain ⟨r14, r14h, h⟩ := kw_bind_e h
          refine kg_callV (μ := μX3_readValue) (d := d) rfl mVX3_tellFault [.int (2 : Int32), .int (σ.1 4 6)] [] (gX3_tellFault (E := E) (d := d) (2 : Int32) (σ.1 4 6) σ r14h) rfl lmRX3_45 (ci := 3) rfl tX_4 eX_4 rfl (Nat.le_of_ble_eq_true rfl) dX3_readValue_108 rfl (st2 := []) rfl (pc2 := 111) rfl ?_
          refine kg_lconst dX3_readValue_111 kl_0 (pc2 := 112) rfl ?_
          cases h
          obtain ⟨rfl, rfl⟩ := hk
          exact kg_lret dX3_readValue_112 rfl
set_option maxHeartbeats 4000000 in
set_option maxRecDepth 100000 in
theorem gjX3_readValue_163 {E : kw_E} {d : Nat} (v1 : Int32) (v3 : Int64) (σ : kw_M) {r : Int64 × kw_M} (h : jX3_readValue_163 v1 v3 σ = some r) : kw_G E kwTX 48 (d + 1) μX3_readValue 163 [(1, .int v1), (3, .long v3)] [] σ (some (Value.long r.1)) r.2 := by
  unfold jX3_readValue_163 at h
  refine kg_iload_n 0 dX3_readValue_163 rfl (pc2 := 164) rfl ?_
  refine kg_if_eq 172 dX3_readValue_164 rfl (pc2 := 167) rfl (fun q17 => ?_) (fun q17 => ?_)
  · replace h := (if_pos q17).symm.trans h
    refine kg_lload_n 1 dX3_readValue_172 rfl (pc2 := 173) rfl ?_
    cases h
    exact kg_lret dX3_readValue_173 rfl
  · replace h := (if_neg q17).symm.trans h
    refine kg_lload_n 1 dX3_readValue_167 rfl (pc2 := 168) rfl ?_
    refine kg_lneg dX3_readValue_168 (pc2 := 169) rfl ?_
    refine kg_goto 173 dX3_readValue_169 rfl ?_
    cases h
    exact kg_lret dX3_readValue_173 rfl
set_option maxHeartbeats 4000000 in
set_option maxRecDepth 100000 in
theorem gjX3_readValue_146 {E : kw_E} {d : Nat} (v1 : Int32) (v2 : Int32) (v3 : Int64) (σ : kw_M) {r : Int64 × kw_M} (h : jX3_readValue_146 v1 v2 v3 σ = some r) : kw_G E kwTX 48 (d + 1) μX3_readValue 146 [(0, .ref 4), (1, .int v1), (2, .int v2), (3, .long v3)] [] σ (some (Value.long r.1)) r.2 := by
  unfold jX3_readValue_146 at h
  refine kg_aload_n 0 dX3_readValue_146 rfl (pc2 := 147) rfl ?_
  refine kg_geti clX3 rfl 6 (Nat.le_of_ble_eq_true rfl) lfRX3_25 tX_4 eX_4 rfl dX3_readValue_147 (pc2 := 150) rfl ?_
  refine kg_iload_n 2 dX3_readValue_150 rfl (pc2 := 151) rfl ?_
  refine kg_icmp_ne 163 dX3_readValue_151 rfl (pc2 := 154) rfl (fun q16 => ?_) (fun q16 => ?_)
  · replace h := (if_neg q16).symm.trans h
    refine kg_sub [1, 3] (lv2 := [(1, .int v1), (3, .long v3)]) rfl ?_
    exact gjX3_readValue_163 v1 v3 σ h
  · replace h := (if_pos q16).symm.trans h
    refine kg_aload_n 0 dX3_readValue_154 rfl (pc2 := 155) rfl ?_
    refine kg_iconst dX3_readValue_155 ki_1 (pc2 := 156) rfl ?_
    refine kg_aload_n 0 dX3_readValue_156 rfl (pc2 := 157) rfl ?_
    refine kg_geti clX3 rfl 6 (Nat.le_of_ble_eq_true rfl) lfRX3_25 tX_4 eX_4 rfl dX3_readValue_157 (pc2 := 160) rfl ?_
    obtain ⟨r18, r18h, h⟩ := kw_bind_e h
    refine kg_callV (μ := μX3_readValue) (d := d) rfl mVX3_tellFault [.int (1 : Int32), .int (σ.1 4 6)] [] (gX3_tellFault (E := E) (d := d) (1 : Int32) (σ.1 4 6) σ r18h) rfl lmRX3_45 (ci := 3) rfl tX_4 eX_4 rfl (Nat.le_of_ble_eq_true rfl) dX3_readValue_160 rfl (st2 := []) rfl (pc2 := 163) rfl ?_
    refine kg_sub [1, 3] (lv2 := [(1, .int v1), (3, .long v3)]) rfl ?_
    exact gjX3_readValue_163 v1 v3 r18 h
set_option maxHeartbeats 4000000 in
set_option maxRecDepth 100000 in
theorem gjX3_readValue_45 {E : kw_E} {d : Nat} (v1 : Int32) (σ : kw_M) {r : Int64 × kw_M} (h : jX3_readValue_45 v1 σ = some r) : kw_G E kwTX 48 (d + 1) μX3_readValue 45 [(0, .ref 4), (1, .int v1)] [] σ (some (Value.long r.1)) r.2 := by
  unfold jX3_readValue_45 at h
  refine kg_aload_n 0 dX3_readValue_45 rfl (pc2 := 46) rfl ?_
  refine kg_geti clX3 rfl 6 (Nat.le_of_ble_eq_true rfl) lfRX3_25 tX_4 eX_4 rfl dX3_readValue_46 (pc2 := 49) rfl ?_
  obtain ⟨x3, x3e, h⟩ := kw_let_e h
  refine kg_istore_n dX3_readValue_49 rfl (Nat.le_of_ble_eq_true rfl) x3e (lv2 := [(2, .int x3), (0, .ref 4), (1, .int v1)]) rfl (pc2 := 50) rfl ?_
  refine kg_lconst dX3_readValue_50 kl_0 (pc2 := 51) rfl ?_
  refine kg_lstore_n dX3_readValue_51 rfl (Nat.le_of_ble_eq_true rfl) rfl (lv2 := [(3, .long (0 : Int64)), (2, .int x3), (0, .ref 4), (1, .int v1)]) rfl (pc2 := 52) rfl ?_
  refine kg_sub [2, 3, 1, 0] (lv2 := [(0, .ref 4), (1, .int v1), (2, .int x3), (3, .long (0 : Int64))]) rfl ?_
  obtain ⟨x15, x15h, h⟩ := kw_bind_e h
  refine kw_loop_e (P := fun s => kw_G E kwTX 48 (d + 1) μX3_readValue 52 [(0, .ref 4), (1, .int v1), (2, .int x3), (3, .long s.1)] [] s.2 (some (Value.long r.1)) r.2) (K := Sum.elim (fun rr => (some (Value.long r.1)) = some (Value.long rr.1) ∧ r.2 = rr.2) (fun y => kw_G E kwTX 48 (d + 1) μX3_readValue 146 [(0, .ref 4), (1, .int v1), (2, .int x3), (3, .long y.1)] [] y.2 (some (Value.long r.1)) r.2)) (fun s o h0 hk => lX3_readValue_52 v1 x3 s.1 s.2 h0 hk) kw_F _ _ x15h ?_
  rcases x15 with x15r | x15
  · replace h := kw_se_l h
    cases h
    exact ⟨rfl, rfl⟩
  · replace h := kw_se_r h
    show kw_G E kwTX 48 (d + 1) μX3_readValue 146 [(0, .ref 4), (1, .int v1), (2, .int x3), (3, .long x15.1)] [] x15.2 (some (Value.long r.1)) r.2
    exact gjX3_readValue_146 v1 x3 x15.1 x15.2 h
set_option maxHeartbeats 4000000 in
set_option maxRecDepth 100000 in
theorem gjX3_readValue_30 {E : kw_E} {d : Nat} (t0 : Int32) (σ : kw_M) {r : Int64 × kw_M} (h : jX3_readValue_30 t0 σ = some r) : kw_G E kwTX 48 (d + 1) μX3_readValue 30 [(0, .ref 4)] [.int t0] σ (some (Value.long r.1)) r.2 := by
  unfold jX3_readValue_30 at h
  refine kg_istore_n dX3_readValue_30 rfl (Nat.le_of_ble_eq_true rfl) rfl (lv2 := [(1, .int t0), (0, .ref 4)]) rfl (pc2 := 31) rfl ?_
  refine kg_iload_n 0 dX3_readValue_31 rfl (pc2 := 32) rfl ?_
  refine kg_if_eq 45 dX3_readValue_32 rfl (pc2 := 35) rfl (fun q2 => ?_) (fun q2 => ?_)
  · replace h := (if_pos q2).symm.trans h
    refine kg_sub [1, 0] (lv2 := [(0, .ref 4), (1, .int t0)]) rfl ?_
    exact gjX3_readValue_45 t0 σ h
  · replace h := (if_neg q2).symm.trans h
    refine kg_aload_n 1 dX3_readValue_35 rfl (pc2 := 36) rfl ?_
    refine kg_dup dX3_readValue_36 rfl (pc2 := 37) rfl ?_
    refine kg_geti clX3 rfl 6 (Nat.le_of_ble_eq_true rfl) lfRX3_25 tX_4 eX_4 rfl dX3_readValue_37 (pc2 := 40) rfl ?_
    refine kg_iconst dX3_readValue_40 ki_1 (pc2 := 41) rfl ?_
    refine kg_iadd dX3_readValue_41 (pc2 := 42) rfl ?_
    obtain ⟨s19, s19e, h⟩ := kw_let_e h
    refine kg_puti clX3 rfl 6 (Nat.le_of_ble_eq_true rfl) lfRX3_25 rfl tX_4 eX_4 rfl (ty := .int) (by decide +kernel) rfl rfl s19e dX3_readValue_42 (pc2 := 45) rfl ?_
    refine kg_sub [1, 0] (lv2 := [(0, .ref 4), (1, .int t0)]) rfl ?_
    exact gjX3_readValue_45 t0 s19 h
set_option maxHeartbeats 4000000 in
set_option maxRecDepth 100000 in
theorem gjX3_readValue_29 {E : kw_E} {d : Nat} (σ : kw_M) {r : Int64 × kw_M} (h : jX3_readValue_29 σ = some r) : kw_G E kwTX 48 (d + 1) μX3_readValue 29 [(0, .ref 4)] [] σ (some (Value.long r.1)) r.2 := by
  unfold jX3_readValue_29 at h
  refine kg_iconst dX3_readValue_29 ki_0 (pc2 := 30) rfl ?_
  exact gjX3_readValue_30 (0 : Int32) σ h
set_option maxHeartbeats 4000000 in
set_option maxRecDepth 100000 in
theorem gX3_readValue {E : kw_E} {d : Nat} (σ : kw_M) {r : Int64 × kw_M} (h : fX3_readValue σ = some r) : kw_Met E kwTX 48 (d + 1) μX3_readValue [.ref 4] σ (some (Value.long r.1)) r.2 := by
  refine kw_enter plRX3 (Nat.le_of_ble_eq_true rfl) ?_
  show kw_G E kwTX 48 (d + 1) μX3_readValue 0 [(0, .ref 4)] [] σ (some (Value.long r.1)) r.2
  unfold fX3_readValue at h
  refine kg_aload_n 0 dX3_readValue_0 rfl (pc2 := 1) rfl ?_
  refine kg_geti clX3 rfl 6 (Nat.le_of_ble_eq_true rfl) lfRX3_25 tX_4 eX_4 rfl dX3_readValue_1 (pc2 := 4) rfl ?_
  refine kg_aload_n 0 dX3_readValue_4 rfl (pc2 := 5) rfl ?_
  refine kg_geti clX3 rfl 5 (Nat.le_of_ble_eq_true rfl) lfRX3_21 tX_4 eX_4 rfl dX3_readValue_5 (pc2 := 8) rfl ?_
  refine kg_icmp_ge 29 dX3_readValue_8 rfl (pc2 := 11) rfl (fun q1 => ?_) (fun q1 => ?_)
  · replace h := (if_pos q1).symm.trans h
    exact gjX3_readValue_29 σ h
  · replace h := (if_neg q1).symm.trans h
    refine kg_aload_n 0 dX3_readValue_11 rfl (pc2 := 12) rfl ?_
    obtain ⟨q20, h⟩ := kw_chk_e h
    refine kg_getD clX3 rfl 4 (Nat.le_of_ble_eq_true rfl) lfRX3_18 tX_4 eX_4 rfl q20 (r := 35) (by decide) dX3_readValue_12 (pc2 := 15) rfl ?_
    refine kg_aload_n 0 dX3_readValue_15 rfl (pc2 := 16) rfl ?_
    refine kg_geti clX3 rfl 6 (Nat.le_of_ble_eq_true rfl) lfRX3_25 tX_4 eX_4 rfl dX3_readValue_16 (pc2 := 19) rfl ?_
    obtain ⟨q21, h⟩ := kw_chk_e h
    refine kg_iald tX_35 eX_35 q21 (j := (σ.1 4 6).toNatClampNeg) rfl dX3_readValue_19 (pc2 := 20) rfl ?_
    refine kg_bipush dX3_readValue_20 kb_45 (pc2 := 22) rfl ?_
    refine kg_icmp_ne 29 dX3_readValue_22 rfl (pc2 := 25) rfl (fun q22 => ?_) (fun q22 => ?_)
    · replace h := (if_neg q22).symm.trans h
      exact gjX3_readValue_29 σ h
    · replace h := (if_pos q22).symm.trans h
      refine kg_iconst dX3_readValue_25 ki_1 (pc2 := 26) rfl ?_
      refine kg_goto 30 dX3_readValue_26 rfl ?_
      exact gjX3_readValue_30 (1 : Int32) σ h
set_option maxHeartbeats 4000000 in
set_option maxRecDepth 100000 in
theorem gX3_isTold {E : kw_E} {d : Nat} (a1 : Int32) (a2 : Int64) (σ : kw_M) {r : Int32} (h : fX3_isTold a1 a2 σ = some r) : kw_Met E kwTX 48 d μX3_isTold [.ref 4, .int a1, .long a2] σ (some (Value.int r)) σ := by
  refine kw_enter plRX3 (Nat.le_of_ble_eq_true rfl) ?_
  show kw_G E kwTX 48 d μX3_isTold 0 [(0, .ref 4), (1, .int a1), (2, .long a2)] [] σ (some (Value.int r)) σ
  unfold fX3_isTold at h
  refine kg_iload_n 1 dX3_isTold_0 rfl (pc2 := 1) rfl ?_
  by_cases q1 : a1 = (110 : Int32)
  · replace h := (if_pos q1).symm.trans h
    refine kg_lsw (off := 35) 36 dX3_isTold_1 (by decide) (by rw [q1]; decide) rfl ?_
    refine kg_lload_n 2 dX3_isTold_36 rfl (pc2 := 37) rfl ?_
    refine kg_ldc2 rfl lcRX3_124 dX3_isTold_37 (pc2 := 40) rfl ?_
    refine kg_lcmp_lt 56 dX3_isTold_40 dX3_isTold_41 rfl (pc2 := 44) rfl (fun q2 => ?_) (fun q2 => ?_)
    · replace h := (if_pos q2).symm.trans h
      refine kg_iconst dX3_isTold_56 ki_0 (pc2 := 57) rfl ?_
      cases h
      exact kg_iret (ty := .boolean) dX3_isTold_57 rfl rfl
    · replace h := (if_neg q2).symm.trans h
      refine kg_lload_n 2 dX3_isTold_44 rfl (pc2 := 45) rfl ?_
      refine kg_ldc2 rfl lcRX3_126 dX3_isTold_45 (pc2 := 48) rfl ?_
      refine kg_lcmp_gt 56 dX3_isTold_48 dX3_isTold_49 rfl (pc2 := 52) rfl (fun q3 => ?_) (fun q3 => ?_)
      · replace h := (if_pos q3).symm.trans h
        refine kg_iconst dX3_isTold_56 ki_0 (pc2 := 57) rfl ?_
        cases h
        exact kg_iret (ty := .boolean) dX3_isTold_57 rfl rfl
      · replace h := (if_neg q3).symm.trans h
        refine kg_iconst dX3_isTold_52 ki_1 (pc2 := 53) rfl ?_
        refine kg_goto 57 dX3_isTold_53 rfl ?_
        cases h
        exact kg_iret (ty := .boolean) dX3_isTold_57 rfl rfl
  · replace h := (if_neg q1).symm.trans h
    by_cases q4 : a1 = (114 : Int32)
    · replace h := (if_pos q4).symm.trans h
      refine kg_lsw (off := 79) 80 dX3_isTold_1 (by decide) (by rw [q4]; decide) rfl ?_
      refine kg_lload_n 2 dX3_isTold_80 rfl (pc2 := 81) rfl ?_
      refine kg_lconst dX3_isTold_81 kl_0 (pc2 := 82) rfl ?_
      refine kg_lcmp_lt 98 dX3_isTold_82 dX3_isTold_83 rfl (pc2 := 86) rfl (fun q5 => ?_) (fun q5 => ?_)
      · replace h := (if_pos q5).symm.trans h
        refine kg_iconst dX3_isTold_98 ki_0 (pc2 := 99) rfl ?_
        cases h
        exact kg_iret (ty := .boolean) dX3_isTold_99 rfl rfl
      · replace h := (if_neg q5).symm.trans h
        refine kg_lload_n 2 dX3_isTold_86 rfl (pc2 := 87) rfl ?_
        refine kg_ldc2 rfl lcRX3_128 dX3_isTold_87 (pc2 := 90) rfl ?_
        refine kg_lcmp_ge 98 dX3_isTold_90 dX3_isTold_91 rfl (pc2 := 94) rfl (fun q6 => ?_) (fun q6 => ?_)
        · replace h := (if_pos q6).symm.trans h
          refine kg_iconst dX3_isTold_98 ki_0 (pc2 := 99) rfl ?_
          cases h
          exact kg_iret (ty := .boolean) dX3_isTold_99 rfl rfl
        · replace h := (if_neg q6).symm.trans h
          refine kg_iconst dX3_isTold_94 ki_1 (pc2 := 95) rfl ?_
          refine kg_goto 99 dX3_isTold_95 rfl ?_
          cases h
          exact kg_iret (ty := .boolean) dX3_isTold_99 rfl rfl
    · replace h := (if_neg q4).symm.trans h
      by_cases q7 : a1 = (116 : Int32)
      · replace h := (if_pos q7).symm.trans h
        refine kg_lsw (off := 57) 58 dX3_isTold_1 (by decide) (by rw [q7]; decide) rfl ?_
        refine kg_lload_n 2 dX3_isTold_58 rfl (pc2 := 59) rfl ?_
        refine kg_lconst dX3_isTold_59 kl_0 (pc2 := 60) rfl ?_
        refine kg_lcmp_lt 78 dX3_isTold_60 dX3_isTold_61 rfl (pc2 := 64) rfl (fun q8 => ?_) (fun q8 => ?_)
        · replace h := (if_pos q8).symm.trans h
          refine kg_iconst dX3_isTold_78 ki_0 (pc2 := 79) rfl ?_
          cases h
          exact kg_iret (ty := .boolean) dX3_isTold_79 rfl rfl
        · replace h := (if_neg q8).symm.trans h
          refine kg_lload_n 2 dX3_isTold_64 rfl (pc2 := 65) rfl ?_
          refine kg_aload_n 0 dX3_isTold_65 rfl (pc2 := 66) rfl ?_
          refine kg_geti clX3 rfl 0 (Nat.le_of_ble_eq_true rfl) lfRX3_35 tX_4 eX_4 rfl dX3_isTold_66 (pc2 := 69) rfl ?_
          refine kg_i2l dX3_isTold_69 (pc2 := 70) rfl ?_
          refine kg_lcmp_ge 78 dX3_isTold_70 dX3_isTold_71 rfl (pc2 := 74) rfl (fun q9 => ?_) (fun q9 => ?_)
          · replace h := (if_pos q9).symm.trans h
            refine kg_iconst dX3_isTold_78 ki_0 (pc2 := 79) rfl ?_
            cases h
            exact kg_iret (ty := .boolean) dX3_isTold_79 rfl rfl
          · replace h := (if_neg q9).symm.trans h
            refine kg_iconst dX3_isTold_74 ki_1 (pc2 := 75) rfl ?_
            refine kg_goto 79 dX3_isTold_75 rfl ?_
            cases h
            exact kg_iret (ty := .boolean) dX3_isTold_79 rfl rfl
      · replace h := (if_neg q7).symm.trans h
        refine kg_lsw (off := 99) 100 dX3_isTold_1 (by decide) (by have a0 := kw_neI (n := 110) (by decide) q1; have a1 := kw_neI (n := 114) (by decide) q4; have a2 := kw_neI (n := 116) (by decide) q7; simp [Op.lookupswitch.offset, a0, Ne.symm a0, a1, Ne.symm a1, a2, Ne.symm a2]) rfl ?_
        refine kg_lload_n 2 dX3_isTold_100 rfl (pc2 := 101) rfl ?_
        refine kg_ldc2 rfl lcRX3_130 dX3_isTold_101 (pc2 := 104) rfl ?_
        refine kg_lcmp_lt 120 dX3_isTold_104 dX3_isTold_105 rfl (pc2 := 108) rfl (fun q10 => ?_) (fun q10 => ?_)
        · replace h := (if_pos q10).symm.trans h
          refine kg_iconst dX3_isTold_120 ki_0 (pc2 := 121) rfl ?_
          cases h
          exact kg_iret (ty := .boolean) dX3_isTold_121 rfl rfl
        · replace h := (if_neg q10).symm.trans h
          refine kg_lload_n 2 dX3_isTold_108 rfl (pc2 := 109) rfl ?_
          refine kg_ldc2 rfl lcRX3_132 dX3_isTold_109 (pc2 := 112) rfl ?_
          refine kg_lcmp_gt 120 dX3_isTold_112 dX3_isTold_113 rfl (pc2 := 116) rfl (fun q11 => ?_) (fun q11 => ?_)
          · replace h := (if_pos q11).symm.trans h
            refine kg_iconst dX3_isTold_120 ki_0 (pc2 := 121) rfl ?_
            cases h
            exact kg_iret (ty := .boolean) dX3_isTold_121 rfl rfl
          · replace h := (if_neg q11).symm.trans h
            refine kg_iconst dX3_isTold_116 ki_1 (pc2 := 117) rfl ?_
            refine kg_goto 121 dX3_isTold_117 rfl ?_
            cases h
            exact kg_iret (ty := .boolean) dX3_isTold_121 rfl rfl
