/-! The reference, method by method: the machine does what f says (g). -/
set_option maxHeartbeats 4000000 in
set_option maxRecDepth 100000 in
theorem lX10_middle_9 {E : kw_E} {d : Nat} (σ : kw_M) (v1 : Int32) (v2 : Int32) {v : Option Value} {σ2 : kw_M} {o : (Int32 × Int32) ⊕ (Int32)} (h : bX10_middle_9 σ v1 v2 = some o) (hk : Sum.elim (fun s => kw_G E kwTM 21 (d + 4) μX10_middle 9 [(0, .ref 0), (1, .int s.1), (2, .int s.2)] [] σ v σ2) (fun y => kw_G E kwTM 21 (d + 4) μX10_middle 51 [(1, .int y)] [] σ v σ2) o) : kw_G E kwTM 21 (d + 4) μX10_middle 9 [(0, .ref 0), (1, .int v1), (2, .int v2)] [] σ v σ2 := by
  unfold bX10_middle_9 at h
  refine kg_iload_n 2 dX10_middle_9 rfl (pc2 := 10) rfl ?_
  refine kg_aload_n 0 dX10_middle_10 rfl (pc2 := 11) rfl ?_
  obtain ⟨r2, r2h, h⟩ := kw_bind_e h
  refine kg_callV (μ := μX10_middle) (d := (d + 3)) rfl mVX10_towns [] [.int v2] (gX10_towns (E := E) (d := (d + 3)) σ r2h) rfl lmRX10_77 (ci := 10) rfl tM_0 eM_0 rfl (Nat.le_of_ble_eq_true rfl) dX10_middle_11 rfl (st2 := [.int r2, .int v2]) rfl (pc2 := 14) rfl ?_
  refine kg_icmp_ge 51 dX10_middle_14 rfl (pc2 := 17) rfl (fun q3 => ?_) (fun q3 => ?_)
  · replace h := (if_pos q3).symm.trans h
    refine kg_sub [1] (lv2 := [(1, .int v1)]) rfl ?_
    cases h
    exact hk
  · replace h := (if_neg q3).symm.trans h
    refine kg_aload_n 0 dX10_middle_17 rfl (pc2 := 18) rfl ?_
    refine kg_iload_n 2 dX10_middle_18 rfl (pc2 := 19) rfl ?_
    obtain ⟨r4, r4h, h⟩ := kw_bind_e h
    refine kg_callV (μ := μX10_middle) (d := (d + 3)) rfl mVX10_comesToAll [.int v2] [] (gX10_comesToAll (E := E) (d := (d + 2)) v2 σ r4h) rfl lmRX10_327 (ci := 10) rfl tM_0 eM_0 rfl (Nat.le_of_ble_eq_true rfl) dX10_middle_19 rfl (st2 := [.int r4]) rfl (pc2 := 22) rfl ?_
    refine kg_if_eq 45 dX10_middle_22 rfl (pc2 := 25) rfl (fun q5 => ?_) (fun q5 => ?_)
    · replace h := (if_pos q5).symm.trans h
      obtain ⟨x6, x6e, h⟩ := kw_let_e h
      refine kg_iinc 2 dX10_middle_45 rfl (Nat.le_of_ble_eq_true rfl) x6e (lv2 := [(2, .int x6), (0, .ref 0), (1, .int v1)]) rfl (pc2 := 48) rfl ?_
      refine kg_goto 9 dX10_middle_48 rfl ?_
      refine kg_sub [1, 2, 0] (lv2 := [(0, .ref 0), (1, .int v1), (2, .int x6)]) rfl ?_
      cases h
      exact hk
    · replace h := (if_neg q5).symm.trans h
      refine kg_iload_n 1 dX10_middle_25 rfl (pc2 := 26) rfl ?_
      refine kg_if_lt 43 dX10_middle_26 rfl (pc2 := 29) rfl (fun q7 => ?_) (fun q7 => ?_)
      · replace h := (if_pos q7).symm.trans h
        refine kg_iload_n 2 dX10_middle_43 rfl (pc2 := 44) rfl ?_
        refine kg_istore_n dX10_middle_44 rfl (Nat.le_of_ble_eq_true rfl) rfl (lv2 := [(1, .int v2), (0, .ref 0), (2, .int v2)]) rfl (pc2 := 45) rfl ?_
        obtain ⟨x8, x8e, h⟩ := kw_let_e h
        refine kg_iinc 2 dX10_middle_45 rfl (Nat.le_of_ble_eq_true rfl) x8e (lv2 := [(2, .int x8), (1, .int v2), (0, .ref 0)]) rfl (pc2 := 48) rfl ?_
        refine kg_goto 9 dX10_middle_48 rfl ?_
        refine kg_sub [2, 1, 0] (lv2 := [(0, .ref 0), (1, .int v2), (2, .int x8)]) rfl ?_
        cases h
        exact hk
      · replace h := (if_neg q7).symm.trans h
        refine kg_aload_n 0 dX10_middle_29 rfl (pc2 := 30) rfl ?_
        refine kg_iload_n 2 dX10_middle_30 rfl (pc2 := 31) rfl ?_
        obtain ⟨r9, r9h, h⟩ := kw_bind_e h
        refine kg_callV (μ := μX10_middle) (d := (d + 3)) rfl mVX10_reachOf [.int v2] [] (gX10_reachOf (E := E) (d := (d + 2)) v2 σ r9h) rfl lmRX10_330 (ci := 10) rfl tM_0 eM_0 rfl (Nat.le_of_ble_eq_true rfl) dX10_middle_31 rfl (st2 := [.long r9]) rfl (pc2 := 34) rfl ?_
        refine kg_aload_n 0 dX10_middle_34 rfl (pc2 := 35) rfl ?_
        refine kg_iload_n 1 dX10_middle_35 rfl (pc2 := 36) rfl ?_
        obtain ⟨r10, r10h, h⟩ := kw_bind_e h
        refine kg_callV (μ := μX10_middle) (d := (d + 3)) rfl mVX10_reachOf [.int v1] [.long r9] (gX10_reachOf (E := E) (d := (d + 2)) v1 σ r10h) rfl lmRX10_330 (ci := 10) rfl tM_0 eM_0 rfl (Nat.le_of_ble_eq_true rfl) dX10_middle_36 rfl (st2 := [.long r10, .long r9]) rfl (pc2 := 39) rfl ?_
        refine kg_lcmp_ge 45 dX10_middle_39 dX10_middle_40 rfl (pc2 := 43) rfl (fun q11 => ?_) (fun q11 => ?_)
        · replace h := (if_pos q11).symm.trans h
          obtain ⟨x12, x12e, h⟩ := kw_let_e h
          refine kg_iinc 2 dX10_middle_45 rfl (Nat.le_of_ble_eq_true rfl) x12e (lv2 := [(2, .int x12), (0, .ref 0), (1, .int v1)]) rfl (pc2 := 48) rfl ?_
          refine kg_goto 9 dX10_middle_48 rfl ?_
          refine kg_sub [1, 2, 0] (lv2 := [(0, .ref 0), (1, .int v1), (2, .int x12)]) rfl ?_
          cases h
          exact hk
        · replace h := (if_neg q11).symm.trans h
          refine kg_iload_n 2 dX10_middle_43 rfl (pc2 := 44) rfl ?_
          refine kg_istore_n dX10_middle_44 rfl (Nat.le_of_ble_eq_true rfl) rfl (lv2 := [(1, .int v2), (0, .ref 0), (2, .int v2)]) rfl (pc2 := 45) rfl ?_
          obtain ⟨x13, x13e, h⟩ := kw_let_e h
          refine kg_iinc 2 dX10_middle_45 rfl (Nat.le_of_ble_eq_true rfl) x13e (lv2 := [(2, .int x13), (1, .int v2), (0, .ref 0)]) rfl (pc2 := 48) rfl ?_
          refine kg_goto 9 dX10_middle_48 rfl ?_
          refine kg_sub [2, 1, 0] (lv2 := [(0, .ref 0), (1, .int v2), (2, .int x13)]) rfl ?_
          cases h
          exact hk
set_option maxHeartbeats 4000000 in
set_option maxRecDepth 100000 in
theorem gX10_middle {E : kw_E} {d : Nat} (σ : kw_M) {r : Int32 × kw_M} (h : fX10_middle σ = some r) : kw_Met E kwTM 21 (d + 4) μX10_middle [.ref 0] σ (some (Value.int r.1)) r.2 := by
  refine kw_enter plRX10 (Nat.le_of_ble_eq_true rfl) ?_
  show kw_G E kwTM 21 (d + 4) μX10_middle 0 [(0, .ref 0)] [] σ (some (Value.int r.1)) r.2
  unfold fX10_middle at h
  refine kg_aload_n 0 dX10_middle_0 rfl (pc2 := 1) rfl ?_
  obtain ⟨r1, r1h, h⟩ := kw_bind_e h
  refine kg_callV (μ := μX10_middle) (d := (d + 3)) rfl mVX10_findsPairs [] [] (gX10_findsPairs (E := E) (d := d) σ r1h) rfl lmRX10_324 (ci := 10) rfl tM_0 eM_0 rfl (Nat.le_of_ble_eq_true rfl) dX10_middle_1 rfl (st2 := []) rfl (pc2 := 4) rfl ?_
  refine kg_bipush dX10_middle_4 kb_m2 (pc2 := 6) rfl ?_
  refine kg_istore_n dX10_middle_6 rfl (Nat.le_of_ble_eq_true rfl) rfl (lv2 := [(1, .int (-2 : Int32)), (0, .ref 0)]) rfl (pc2 := 7) rfl ?_
  refine kg_iconst dX10_middle_7 ki_0 (pc2 := 8) rfl ?_
  refine kg_istore_n dX10_middle_8 rfl (Nat.le_of_ble_eq_true rfl) rfl (lv2 := [(2, .int (0 : Int32)), (1, .int (-2 : Int32)), (0, .ref 0)]) rfl (pc2 := 9) rfl ?_
  refine kg_sub [2, 1, 0] (lv2 := [(0, .ref 0), (1, .int (-2 : Int32)), (2, .int (0 : Int32))]) rfl ?_
  obtain ⟨x14, x14h, h⟩ := kw_bind_e h
  refine kw_loop_e (P := fun s => kw_G E kwTM 21 (d + 4) μX10_middle 9 [(0, .ref 0), (1, .int s.1), (2, .int s.2)] [] r1 (some (Value.int r.1)) r.2) (K := fun y => kw_G E kwTM 21 (d + 4) μX10_middle 51 [(1, .int y)] [] r1 (some (Value.int r.1)) r.2) (fun s o h0 hk => lX10_middle_9 r1 s.1 s.2 h0 hk) kw_F _ _ x14h ?_
  show kw_G E kwTM 21 (d + 4) μX10_middle 51 [(1, .int x14)] [] r1 (some (Value.int r.1)) r.2
  refine kg_iload_n 0 dX10_middle_51 rfl (pc2 := 52) rfl ?_
  cases h
  exact kg_iret (ty := .int) dX10_middle_52 rfl rfl
set_option maxHeartbeats 4000000 in
set_option maxRecDepth 100000 in
theorem lX10_ringOf_7 {E : kw_E} {d : Nat} (v1 : Int32) (σ : kw_M) (v2 : Int64) (v4 : Int32) {v : Option Value} {σ2 : kw_M} {o : (Int64 × Int32) ⊕ (Int64)} (h : bX10_ringOf_7 v1 σ v2 v4 = some o) (hk : Sum.elim (fun s => kw_G E kwTM 21 (d + 2) μX10_ringOf 7 [(0, .ref 0), (1, .int v1), (2, .long s.1), (4, .int s.2)] [] σ v σ2) (fun y => kw_G E kwTM 21 (d + 2) μX10_ringOf 109 [(2, .long y)] [] σ v σ2) o) : kw_G E kwTM 21 (d + 2) μX10_ringOf 7 [(0, .ref 0), (1, .int v1), (2, .long v2), (4, .int v4)] [] σ v σ2 := by
  unfold bX10_ringOf_7 at h
  refine kg_iload 3 dX10_ringOf_7 rfl (pc2 := 9) rfl ?_
  refine kg_aload_n 0 dX10_ringOf_9 rfl (pc2 := 10) rfl ?_
  refine kg_getr clX10 rfl 0 (Nat.le_of_ble_eq_true rfl) lfRX10_7 tM_0 eM_0 rfl dX10_ringOf_10 (pc2 := 13) rfl ?_
  refine kg_iconst dX10_ringOf_13 ki_1 (pc2 := 14) rfl ?_
  refine kg_iald tM_1 eM_1 (show kw_in (1 : Int32) 2832 by decide) (j := 1) (by decide) dX10_ringOf_14 (pc2 := 15) rfl ?_
  refine kg_icmp_ge 109 dX10_ringOf_15 rfl (pc2 := 18) rfl (fun q1 => ?_) (fun q1 => ?_)
  · replace h := (if_pos q1).symm.trans h
    refine kg_sub [2] (lv2 := [(2, .long v2)]) rfl ?_
    cases h
    exact hk
  · replace h := (if_neg q1).symm.trans h
    refine kg_aload_n 0 dX10_ringOf_18 rfl (pc2 := 19) rfl ?_
    refine kg_iload 3 dX10_ringOf_19 rfl (pc2 := 21) rfl ?_
    obtain ⟨r2, r2h, h⟩ := kw_bind_e h
    refine kg_callV (μ := μX10_ringOf) (d := (d + 1)) rfl mVX10_isOpen [.int v4] [] (gX10_isOpen (E := E) (d := d) v4 σ r2h) rfl lmRX10_91 (ci := 10) rfl tM_0 eM_0 rfl (Nat.le_of_ble_eq_true rfl) dX10_ringOf_21 rfl (st2 := [.int r2]) rfl (pc2 := 24) rfl ?_
    refine kg_if_eq 103 dX10_ringOf_24 rfl (pc2 := 27) rfl (fun q3 => ?_) (fun q3 => ?_)
    · replace h := (if_pos q3).symm.trans h
      obtain ⟨x4, x4e, h⟩ := kw_let_e h
      refine kg_iinc 3 dX10_ringOf_103 rfl (Nat.le_of_ble_eq_true rfl) x4e (lv2 := [(4, .int x4), (0, .ref 0), (1, .int v1), (2, .long v2)]) rfl (pc2 := 106) rfl ?_
      refine kg_goto 7 dX10_ringOf_106 rfl ?_
      refine kg_sub [1, 2, 3, 0] (lv2 := [(0, .ref 0), (1, .int v1), (2, .long v2), (4, .int x4)]) rfl ?_
      cases h
      exact hk
    · replace h := (if_neg q3).symm.trans h
      refine kg_aload_n 0 dX10_ringOf_27 rfl (pc2 := 28) rfl ?_
      refine kg_iload 3 dX10_ringOf_28 rfl (pc2 := 30) rfl ?_
      refine kg_iconst dX10_ringOf_30 ki_0 (pc2 := 31) rfl ?_
      obtain ⟨r5, r5h, h⟩ := kw_bind_e h
      refine kg_callV (μ := μX10_ringOf) (d := (d + 1)) rfl mVX10_of [.int v4, .int (0 : Int32)] [] (gX10_of (E := E) (d := (d + 1)) v4 (0 : Int32) σ r5h) rfl lmRX10_73 (ci := 10) rfl tM_0 eM_0 rfl (Nat.le_of_ble_eq_true rfl) dX10_ringOf_31 rfl (st2 := [.int r5]) rfl (pc2 := 34) rfl ?_
      refine kg_iload_n 1 dX10_ringOf_34 rfl (pc2 := 35) rfl ?_
      refine kg_icmp_ne 103 dX10_ringOf_35 rfl (pc2 := 38) rfl (fun q6 => ?_) (fun q6 => ?_)
      · replace h := (if_neg q6).symm.trans h
        obtain ⟨x7, x7e, h⟩ := kw_let_e h
        refine kg_iinc 3 dX10_ringOf_103 rfl (Nat.le_of_ble_eq_true rfl) x7e (lv2 := [(4, .int x7), (0, .ref 0), (1, .int v1), (2, .long v2)]) rfl (pc2 := 106) rfl ?_
        refine kg_goto 7 dX10_ringOf_106 rfl ?_
        refine kg_sub [1, 2, 3, 0] (lv2 := [(0, .ref 0), (1, .int v1), (2, .long v2), (4, .int x7)]) rfl ?_
        cases h
        exact hk
      · replace h := (if_pos q6).symm.trans h
        refine kg_aload_n 0 dX10_ringOf_38 rfl (pc2 := 39) rfl ?_
        refine kg_getr clX10 rfl 25 (Nat.le_of_ble_eq_true rfl) lfRX10_54 tM_0 eM_0 rfl dX10_ringOf_39 (pc2 := 42) rfl ?_
        refine kg_bipush dX10_ringOf_42 kb_12 (pc2 := 44) rfl ?_
        refine kg_aload_n 0 dX10_ringOf_44 rfl (pc2 := 45) rfl ?_
        refine kg_iload 3 dX10_ringOf_45 rfl (pc2 := 47) rfl ?_
        refine kg_iconst dX10_ringOf_47 ki_1 (pc2 := 48) rfl ?_
        obtain ⟨r8, r8h, h⟩ := kw_bind_e h
        refine kg_callV (μ := μX10_ringOf) (d := (d + 1)) rfl mVX10_of [.int v4, .int (1 : Int32)] [.int (12 : Int32), .ref 15] (gX10_of (E := E) (d := (d + 1)) v4 (1 : Int32) σ r8h) rfl lmRX10_73 (ci := 10) rfl tM_0 eM_0 rfl (Nat.le_of_ble_eq_true rfl) dX10_ringOf_48 rfl (st2 := [.int r8, .int (12 : Int32), .ref 15]) rfl (pc2 := 51) rfl ?_
        refine kg_imul dX10_ringOf_51 (pc2 := 52) rfl ?_
        refine kg_iload_n 1 dX10_ringOf_52 rfl (pc2 := 53) rfl ?_
        refine kg_iadd dX10_ringOf_53 (pc2 := 54) rfl ?_
        obtain ⟨q9, h⟩ := kw_chk_e h
        refine kg_lald tM_15 eM_15 q9 (j := (((12 : Int32) * r8) + v1).toNatClampNeg) rfl dX10_ringOf_54 (pc2 := 55) rfl ?_
        refine kg_ldc2 rfl lcRX10_89 dX10_ringOf_55 (pc2 := 58) rfl ?_
        refine kg_lcmp_ne 65 dX10_ringOf_58 dX10_ringOf_59 rfl (pc2 := 62) rfl (fun q10 => ?_) (fun q10 => ?_)
        · replace h := (if_neg q10).symm.trans h
          refine kg_aload_n 0 dX10_ringOf_65 rfl (pc2 := 66) rfl ?_
          refine kg_iload 3 dX10_ringOf_66 rfl (pc2 := 68) rfl ?_
          refine kg_iconst dX10_ringOf_68 ki_2 (pc2 := 69) rfl ?_
          obtain ⟨r11, r11h, h⟩ := kw_bind_e h
          refine kg_callV (μ := μX10_ringOf) (d := (d + 1)) rfl mVX10_of [.int v4, .int (2 : Int32)] [] (gX10_of (E := E) (d := (d + 1)) v4 (2 : Int32) σ r11h) rfl lmRX10_73 (ci := 10) rfl tM_0 eM_0 rfl (Nat.le_of_ble_eq_true rfl) dX10_ringOf_69 rfl (st2 := [.int r11]) rfl (pc2 := 72) rfl ?_
          refine kg_i2l dX10_ringOf_72 (pc2 := 73) rfl ?_
          refine kg_aload_n 0 dX10_ringOf_73 rfl (pc2 := 74) rfl ?_
          refine kg_getr clX10 rfl 25 (Nat.le_of_ble_eq_true rfl) lfRX10_54 tM_0 eM_0 rfl dX10_ringOf_74 (pc2 := 77) rfl ?_
          refine kg_bipush dX10_ringOf_77 kb_12 (pc2 := 79) rfl ?_
          refine kg_aload_n 0 dX10_ringOf_79 rfl (pc2 := 80) rfl ?_
          refine kg_iload 3 dX10_ringOf_80 rfl (pc2 := 82) rfl ?_
          refine kg_iconst dX10_ringOf_82 ki_1 (pc2 := 83) rfl ?_
          obtain ⟨r12, r12h, h⟩ := kw_bind_e h
          refine kg_callV (μ := μX10_ringOf) (d := (d + 1)) rfl mVX10_of [.int v4, .int (1 : Int32)] [.int (12 : Int32), .ref 15, .long r11.toInt64] (gX10_of (E := E) (d := (d + 1)) v4 (1 : Int32) σ r12h) rfl lmRX10_73 (ci := 10) rfl tM_0 eM_0 rfl (Nat.le_of_ble_eq_true rfl) dX10_ringOf_83 rfl (st2 := [.int r12, .int (12 : Int32), .ref 15, .long r11.toInt64]) rfl (pc2 := 86) rfl ?_
          refine kg_imul dX10_ringOf_86 (pc2 := 87) rfl ?_
          refine kg_iload_n 1 dX10_ringOf_87 rfl (pc2 := 88) rfl ?_
          refine kg_iadd dX10_ringOf_88 (pc2 := 89) rfl ?_
          obtain ⟨q13, h⟩ := kw_chk_e h
          refine kg_lald tM_15 eM_15 q13 (j := (((12 : Int32) * r12) + v1).toNatClampNeg) rfl dX10_ringOf_89 (pc2 := 90) rfl ?_
          refine kg_ladd dX10_ringOf_90 (pc2 := 91) rfl ?_
          obtain ⟨x14, x14e, h⟩ := kw_let_e h
          refine kg_lstore dX10_ringOf_91 (Nat.le_of_ble_eq_true rfl) x14e (lv2 := [(5, .long x14), (0, .ref 0), (1, .int v1), (2, .long v2), (4, .int v4)]) rfl (pc2 := 93) rfl ?_
          refine kg_lload 0 dX10_ringOf_93 rfl (pc2 := 95) rfl ?_
          refine kg_lload_n 3 dX10_ringOf_95 rfl (pc2 := 96) rfl ?_
          refine kg_lcmp_ge 103 dX10_ringOf_96 dX10_ringOf_97 rfl (pc2 := 100) rfl (fun q15 => ?_) (fun q15 => ?_)
          · replace h := (if_pos q15).symm.trans h
            obtain ⟨x16, x16e, h⟩ := kw_let_e h
            refine kg_iinc 4 dX10_ringOf_103 rfl (Nat.le_of_ble_eq_true rfl) x16e (lv2 := [(4, .int x16), (5, .long x14), (0, .ref 0), (1, .int v1), (2, .long v2)]) rfl (pc2 := 106) rfl ?_
            refine kg_goto 7 dX10_ringOf_106 rfl ?_
            refine kg_sub [2, 3, 4, 0] (lv2 := [(0, .ref 0), (1, .int v1), (2, .long v2), (4, .int x16)]) rfl ?_
            cases h
            exact hk
          · replace h := (if_neg q15).symm.trans h
            refine kg_lload 0 dX10_ringOf_100 rfl (pc2 := 102) rfl ?_
            refine kg_lstore_n dX10_ringOf_102 rfl (Nat.le_of_ble_eq_true rfl) rfl (lv2 := [(2, .long x14), (5, .long x14), (0, .ref 0), (1, .int v1), (4, .int v4)]) rfl (pc2 := 103) rfl ?_
            obtain ⟨x17, x17e, h⟩ := kw_let_e h
            refine kg_iinc 4 dX10_ringOf_103 rfl (Nat.le_of_ble_eq_true rfl) x17e (lv2 := [(4, .int x17), (2, .long x14), (5, .long x14), (0, .ref 0), (1, .int v1)]) rfl (pc2 := 106) rfl ?_
            refine kg_goto 7 dX10_ringOf_106 rfl ?_
            refine kg_sub [3, 4, 1, 0] (lv2 := [(0, .ref 0), (1, .int v1), (2, .long x14), (4, .int x17)]) rfl ?_
            cases h
            exact hk
        · replace h := (if_pos q10).symm.trans h
          refine kg_goto 103 dX10_ringOf_62 rfl ?_
          obtain ⟨x18, x18e, h⟩ := kw_let_e h
          refine kg_iinc 3 dX10_ringOf_103 rfl (Nat.le_of_ble_eq_true rfl) x18e (lv2 := [(4, .int x18), (0, .ref 0), (1, .int v1), (2, .long v2)]) rfl (pc2 := 106) rfl ?_
          refine kg_goto 7 dX10_ringOf_106 rfl ?_
          refine kg_sub [1, 2, 3, 0] (lv2 := [(0, .ref 0), (1, .int v1), (2, .long v2), (4, .int x18)]) rfl ?_
          cases h
          exact hk
set_option maxHeartbeats 4000000 in
set_option maxRecDepth 100000 in
theorem gX10_ringOf {E : kw_E} {d : Nat} (a1 : Int32) (σ : kw_M) {r : Int64} (h : fX10_ringOf a1 σ = some r) : kw_Met E kwTM 21 (d + 2) μX10_ringOf [.ref 0, .int a1] σ (some (Value.long r)) σ := by
  refine kw_enter plRX10 (Nat.le_of_ble_eq_true rfl) ?_
  show kw_G E kwTM 21 (d + 2) μX10_ringOf 0 [(0, .ref 0), (1, .int a1)] [] σ (some (Value.long r)) σ
  unfold fX10_ringOf at h
  refine kg_ldc2 rfl lcRX10_89 dX10_ringOf_0 (pc2 := 3) rfl ?_
  refine kg_lstore_n dX10_ringOf_3 rfl (Nat.le_of_ble_eq_true rfl) rfl (lv2 := [(2, .long (900000000000000000 : Int64)), (0, .ref 0), (1, .int a1)]) rfl (pc2 := 4) rfl ?_
  refine kg_iconst dX10_ringOf_4 ki_0 (pc2 := 5) rfl ?_
  refine kg_istore dX10_ringOf_5 (Nat.le_of_ble_eq_true rfl) rfl (lv2 := [(4, .int (0 : Int32)), (2, .long (900000000000000000 : Int64)), (0, .ref 0), (1, .int a1)]) rfl (pc2 := 7) rfl ?_
  refine kg_sub [2, 3, 1, 0] (lv2 := [(0, .ref 0), (1, .int a1), (2, .long (900000000000000000 : Int64)), (4, .int (0 : Int32))]) rfl ?_
  obtain ⟨x19, x19h, h⟩ := kw_bind_e h
  refine kw_loop_e (P := fun s => kw_G E kwTM 21 (d + 2) μX10_ringOf 7 [(0, .ref 0), (1, .int a1), (2, .long s.1), (4, .int s.2)] [] σ (some (Value.long r)) σ) (K := fun y => kw_G E kwTM 21 (d + 2) μX10_ringOf 109 [(2, .long y)] [] σ (some (Value.long r)) σ) (fun s o h0 hk => lX10_ringOf_7 a1 σ s.1 s.2 h0 hk) kw_F _ _ x19h ?_
  show kw_G E kwTM 21 (d + 2) μX10_ringOf 109 [(2, .long x19)] [] σ (some (Value.long r)) σ
  refine kg_lload_n 0 dX10_ringOf_109 rfl (pc2 := 110) rfl ?_
  cases h
  exact kg_lret dX10_ringOf_110 rfl
set_option maxHeartbeats 4000000 in
set_option maxRecDepth 100000 in
theorem lX10_groupOf_2 {E : kw_E} {d : Nat} (v1 : Int32) (σ : kw_M) (v2 : Int32) {v : Option Value} {σ2 : kw_M} {o : (Int32) ⊕ ((Int32) ⊕ (Unit))} (h : bX10_groupOf_2 v1 σ v2 = some o) (hk : Sum.elim (fun s => kw_G E kwTM 21 d μX10_groupOf 2 [(0, .ref 0), (1, .int v1), (2, .int s)] [] σ v σ2) (Sum.elim (fun rr => v = some (Value.int rr) ∧ σ2 = σ) (fun y => kw_G E kwTM 21 d μX10_groupOf 51 [(1, .int v1)] [] σ v σ2)) o) : kw_G E kwTM 21 d μX10_groupOf 2 [(0, .ref 0), (1, .int v1), (2, .int v2)] [] σ v σ2 := by
  unfold bX10_groupOf_2 at h
  refine kg_iload_n 2 dX10_groupOf_2 rfl (pc2 := 3) rfl ?_
  refine kg_iload_n 1 dX10_groupOf_3 rfl (pc2 := 4) rfl ?_
  refine kg_icmp_ge 51 dX10_groupOf_4 rfl (pc2 := 7) rfl (fun q1 => ?_) (fun q1 => ?_)
  · replace h := (if_pos q1).symm.trans h
    refine kg_sub [1] (lv2 := [(1, .int v1)]) rfl ?_
    cases h
    exact hk
  · replace h := (if_neg q1).symm.trans h
    refine kg_aload_n 0 dX10_groupOf_7 rfl (pc2 := 8) rfl ?_
    refine kg_getr clX10 rfl 25 (Nat.le_of_ble_eq_true rfl) lfRX10_54 tM_0 eM_0 rfl dX10_groupOf_8 (pc2 := 11) rfl ?_
    refine kg_bipush dX10_groupOf_11 kb_12 (pc2 := 13) rfl ?_
    refine kg_iload_n 1 dX10_groupOf_13 rfl (pc2 := 14) rfl ?_
    refine kg_imul dX10_groupOf_14 (pc2 := 15) rfl ?_
    refine kg_iload_n 2 dX10_groupOf_15 rfl (pc2 := 16) rfl ?_
    refine kg_iadd dX10_groupOf_16 (pc2 := 17) rfl ?_
    obtain ⟨q2, h⟩ := kw_chk_e h
    refine kg_lald tM_15 eM_15 q2 (j := (((12 : Int32) * v1) + v2).toNatClampNeg) rfl dX10_groupOf_17 (pc2 := 18) rfl ?_
    refine kg_ldc2 rfl lcRX10_89 dX10_groupOf_18 (pc2 := 21) rfl ?_
    refine kg_lcmp_ge 45 dX10_groupOf_21 dX10_groupOf_22 rfl (pc2 := 25) rfl (fun q3 => ?_) (fun q3 => ?_)
    · replace h := (if_pos q3).symm.trans h
      obtain ⟨x4, x4e, h⟩ := kw_let_e h
      refine kg_iinc 2 dX10_groupOf_45 rfl (Nat.le_of_ble_eq_true rfl) x4e (lv2 := [(2, .int x4), (0, .ref 0), (1, .int v1)]) rfl (pc2 := 48) rfl ?_
      refine kg_goto 2 dX10_groupOf_48 rfl ?_
      refine kg_sub [1, 2, 0] (lv2 := [(0, .ref 0), (1, .int v1), (2, .int x4)]) rfl ?_
      cases h
      exact hk
    · replace h := (if_neg q3).symm.trans h
      refine kg_aload_n 0 dX10_groupOf_25 rfl (pc2 := 26) rfl ?_
      refine kg_getr clX10 rfl 25 (Nat.le_of_ble_eq_true rfl) lfRX10_54 tM_0 eM_0 rfl dX10_groupOf_26 (pc2 := 29) rfl ?_
      refine kg_bipush dX10_groupOf_29 kb_12 (pc2 := 31) rfl ?_
      refine kg_iload_n 2 dX10_groupOf_31 rfl (pc2 := 32) rfl ?_
      refine kg_imul dX10_groupOf_32 (pc2 := 33) rfl ?_
      refine kg_iload_n 1 dX10_groupOf_33 rfl (pc2 := 34) rfl ?_
      refine kg_iadd dX10_groupOf_34 (pc2 := 35) rfl ?_
      obtain ⟨q5, h⟩ := kw_chk_e h
      refine kg_lald tM_15 eM_15 q5 (j := (((12 : Int32) * v2) + v1).toNatClampNeg) rfl dX10_groupOf_35 (pc2 := 36) rfl ?_
      refine kg_ldc2 rfl lcRX10_89 dX10_groupOf_36 (pc2 := 39) rfl ?_
      refine kg_lcmp_ge 45 dX10_groupOf_39 dX10_groupOf_40 rfl (pc2 := 43) rfl (fun q6 => ?_) (fun q6 => ?_)
      · replace h := (if_pos q6).symm.trans h
        obtain ⟨x7, x7e, h⟩ := kw_let_e h
        refine kg_iinc 2 dX10_groupOf_45 rfl (Nat.le_of_ble_eq_true rfl) x7e (lv2 := [(2, .int x7), (0, .ref 0), (1, .int v1)]) rfl (pc2 := 48) rfl ?_
        refine kg_goto 2 dX10_groupOf_48 rfl ?_
        refine kg_sub [1, 2, 0] (lv2 := [(0, .ref 0), (1, .int v1), (2, .int x7)]) rfl ?_
        cases h
        exact hk
      · replace h := (if_neg q6).symm.trans h
        refine kg_iload_n 2 dX10_groupOf_43 rfl (pc2 := 44) rfl ?_
        cases h
        obtain ⟨rfl, rfl⟩ := hk
        exact kg_iret (ty := .int) dX10_groupOf_44 rfl rfl
set_option maxHeartbeats 4000000 in
set_option maxRecDepth 100000 in
theorem gX10_groupOf {E : kw_E} {d : Nat} (a1 : Int32) (σ : kw_M) {r : Int32} (h : fX10_groupOf a1 σ = some r) : kw_Met E kwTM 21 d μX10_groupOf [.ref 0, .int a1] σ (some (Value.int r)) σ := by
  refine kw_enter plRX10 (Nat.le_of_ble_eq_true rfl) ?_
  show kw_G E kwTM 21 d μX10_groupOf 0 [(0, .ref 0), (1, .int a1)] [] σ (some (Value.int r)) σ
  unfold fX10_groupOf at h
  refine kg_iconst dX10_groupOf_0 ki_0 (pc2 := 1) rfl ?_
  refine kg_istore_n dX10_groupOf_1 rfl (Nat.le_of_ble_eq_true rfl) rfl (lv2 := [(2, .int (0 : Int32)), (0, .ref 0), (1, .int a1)]) rfl (pc2 := 2) rfl ?_
  refine kg_sub [1, 2, 0] (lv2 := [(0, .ref 0), (1, .int a1), (2, .int (0 : Int32))]) rfl ?_
  obtain ⟨x8, x8h, h⟩ := kw_bind_e h
  refine kw_loop_e (P := fun s => kw_G E kwTM 21 d μX10_groupOf 2 [(0, .ref 0), (1, .int a1), (2, .int s)] [] σ (some (Value.int r)) σ) (K := Sum.elim (fun rr => (some (Value.int r)) = some (Value.int rr) ∧ σ = σ) (fun y => kw_G E kwTM 21 d μX10_groupOf 51 [(1, .int a1)] [] σ (some (Value.int r)) σ)) (fun s o h0 hk => lX10_groupOf_2 a1 σ s h0 hk) kw_F _ _ x8h ?_
  rcases x8 with x8r | x8
  · replace h := kw_se_l h
    cases h
    exact ⟨rfl, rfl⟩
  · replace h := kw_se_r h
    show kw_G E kwTM 21 d μX10_groupOf 51 [(1, .int a1)] [] σ (some (Value.int r)) σ
    refine kg_iload_n 0 dX10_groupOf_51 rfl (pc2 := 52) rfl ?_
    cases h
    exact kg_iret (ty := .int) dX10_groupOf_52 rfl rfl
set_option maxHeartbeats 4000000 in
set_option maxRecDepth 100000 in
theorem lX10_comeTo_4 {E : kw_E} {d : Nat} (v1 : Int32) (σ : kw_M) (v2 : Int32) (v3 : Int32) {v : Option Value} {σ2 : kw_M} {o : (Int32 × Int32) ⊕ (Int32)} (h : bX10_comeTo_4 v1 σ v2 v3 = some o) (hk : Sum.elim (fun s => kw_G E kwTM 21 (d + 1) μX10_comeTo 4 [(0, .ref 0), (1, .int v1), (2, .int s.1), (3, .int s.2)] [] σ v σ2) (fun y => kw_G E kwTM 21 (d + 1) μX10_comeTo 45 [(2, .int y)] [] σ v σ2) o) : kw_G E kwTM 21 (d + 1) μX10_comeTo 4 [(0, .ref 0), (1, .int v1), (2, .int v2), (3, .int v3)] [] σ v σ2 := by
  unfold bX10_comeTo_4 at h
  refine kg_iload_n 3 dX10_comeTo_4 rfl (pc2 := 5) rfl ?_
  refine kg_aload_n 0 dX10_comeTo_5 rfl (pc2 := 6) rfl ?_
  obtain ⟨r1, r1h, h⟩ := kw_bind_e h
  refine kg_callV (μ := μX10_comeTo) (d := d) rfl mVX10_towns [] [.int v3] (gX10_towns (E := E) (d := d) σ r1h) rfl lmRX10_77 (ci := 10) rfl tM_0 eM_0 rfl (Nat.le_of_ble_eq_true rfl) dX10_comeTo_6 rfl (st2 := [.int r1, .int v3]) rfl (pc2 := 9) rfl ?_
  refine kg_icmp_ge 45 dX10_comeTo_9 rfl (pc2 := 12) rfl (fun q2 => ?_) (fun q2 => ?_)
  · replace h := (if_pos q2).symm.trans h
    refine kg_sub [2] (lv2 := [(2, .int v2)]) rfl ?_
    cases h
    exact hk
  · replace h := (if_neg q2).symm.trans h
    refine kg_iload_n 3 dX10_comeTo_12 rfl (pc2 := 13) rfl ?_
    refine kg_iload_n 1 dX10_comeTo_13 rfl (pc2 := 14) rfl ?_
    refine kg_icmp_eq 39 dX10_comeTo_14 rfl (pc2 := 17) rfl (fun q3 => ?_) (fun q3 => ?_)
    · replace h := (if_pos q3).symm.trans h
      obtain ⟨x4, x4e, h⟩ := kw_let_e h
      refine kg_iinc 3 dX10_comeTo_39 rfl (Nat.le_of_ble_eq_true rfl) x4e (lv2 := [(3, .int x4), (0, .ref 0), (1, .int v1), (2, .int v2)]) rfl (pc2 := 42) rfl ?_
      refine kg_goto 4 dX10_comeTo_42 rfl ?_
      refine kg_sub [1, 2, 3, 0] (lv2 := [(0, .ref 0), (1, .int v1), (2, .int v2), (3, .int x4)]) rfl ?_
      cases h
      exact hk
    · replace h := (if_neg q3).symm.trans h
      refine kg_aload_n 0 dX10_comeTo_17 rfl (pc2 := 18) rfl ?_
      refine kg_getr clX10 rfl 25 (Nat.le_of_ble_eq_true rfl) lfRX10_54 tM_0 eM_0 rfl dX10_comeTo_18 (pc2 := 21) rfl ?_
      refine kg_bipush dX10_comeTo_21 kb_12 (pc2 := 23) rfl ?_
      refine kg_iload_n 3 dX10_comeTo_23 rfl (pc2 := 24) rfl ?_
      refine kg_imul dX10_comeTo_24 (pc2 := 25) rfl ?_
      refine kg_iload_n 1 dX10_comeTo_25 rfl (pc2 := 26) rfl ?_
      refine kg_iadd dX10_comeTo_26 (pc2 := 27) rfl ?_
      obtain ⟨q5, h⟩ := kw_chk_e h
      refine kg_lald tM_15 eM_15 q5 (j := (((12 : Int32) * v3) + v1).toNatClampNeg) rfl dX10_comeTo_27 (pc2 := 28) rfl ?_
      refine kg_ldc2 rfl lcRX10_89 dX10_comeTo_28 (pc2 := 31) rfl ?_
      refine kg_lcmp_ge 39 dX10_comeTo_31 dX10_comeTo_32 rfl (pc2 := 35) rfl (fun q6 => ?_) (fun q6 => ?_)
      · replace h := (if_pos q6).symm.trans h
        obtain ⟨x7, x7e, h⟩ := kw_let_e h
        refine kg_iinc 3 dX10_comeTo_39 rfl (Nat.le_of_ble_eq_true rfl) x7e (lv2 := [(3, .int x7), (0, .ref 0), (1, .int v1), (2, .int v2)]) rfl (pc2 := 42) rfl ?_
        refine kg_goto 4 dX10_comeTo_42 rfl ?_
        refine kg_sub [1, 2, 3, 0] (lv2 := [(0, .ref 0), (1, .int v1), (2, .int v2), (3, .int x7)]) rfl ?_
        cases h
        exact hk
      · replace h := (if_neg q6).symm.trans h
        refine kg_iload_n 2 dX10_comeTo_35 rfl (pc2 := 36) rfl ?_
        refine kg_iconst dX10_comeTo_36 ki_1 (pc2 := 37) rfl ?_
        refine kg_iadd dX10_comeTo_37 (pc2 := 38) rfl ?_
        obtain ⟨x8, x8e, h⟩ := kw_let_e h
        refine kg_istore_n dX10_comeTo_38 rfl (Nat.le_of_ble_eq_true rfl) x8e (lv2 := [(2, .int x8), (0, .ref 0), (1, .int v1), (3, .int v3)]) rfl (pc2 := 39) rfl ?_
        obtain ⟨x9, x9e, h⟩ := kw_let_e h
        refine kg_iinc 3 dX10_comeTo_39 rfl (Nat.le_of_ble_eq_true rfl) x9e (lv2 := [(3, .int x9), (2, .int x8), (0, .ref 0), (1, .int v1)]) rfl (pc2 := 42) rfl ?_
        refine kg_goto 4 dX10_comeTo_42 rfl ?_
        refine kg_sub [2, 3, 1, 0] (lv2 := [(0, .ref 0), (1, .int v1), (2, .int x8), (3, .int x9)]) rfl ?_
        cases h
        exact hk
set_option maxHeartbeats 4000000 in
set_option maxRecDepth 100000 in
theorem gX10_comeTo {E : kw_E} {d : Nat} (a1 : Int32) (σ : kw_M) {r : Int32} (h : fX10_comeTo a1 σ = some r) : kw_Met E kwTM 21 (d + 1) μX10_comeTo [.ref 0, .int a1] σ (some (Value.int r)) σ := by
  refine kw_enter plRX10 (Nat.le_of_ble_eq_true rfl) ?_
  show kw_G E kwTM 21 (d + 1) μX10_comeTo 0 [(0, .ref 0), (1, .int a1)] [] σ (some (Value.int r)) σ
  unfold fX10_comeTo at h
  refine kg_iconst dX10_comeTo_0 ki_0 (pc2 := 1) rfl ?_
  refine kg_istore_n dX10_comeTo_1 rfl (Nat.le_of_ble_eq_true rfl) rfl (lv2 := [(2, .int (0 : Int32)), (0, .ref 0), (1, .int a1)]) rfl (pc2 := 2) rfl ?_
  refine kg_iconst dX10_comeTo_2 ki_0 (pc2 := 3) rfl ?_
  refine kg_istore_n dX10_comeTo_3 rfl (Nat.le_of_ble_eq_true rfl) rfl (lv2 := [(3, .int (0 : Int32)), (2, .int (0 : Int32)), (0, .ref 0), (1, .int a1)]) rfl (pc2 := 4) rfl ?_
  refine kg_sub [2, 3, 1, 0] (lv2 := [(0, .ref 0), (1, .int a1), (2, .int (0 : Int32)), (3, .int (0 : Int32))]) rfl ?_
  obtain ⟨x10, x10h, h⟩ := kw_bind_e h
  refine kw_loop_e (P := fun s => kw_G E kwTM 21 (d + 1) μX10_comeTo 4 [(0, .ref 0), (1, .int a1), (2, .int s.1), (3, .int s.2)] [] σ (some (Value.int r)) σ) (K := fun y => kw_G E kwTM 21 (d + 1) μX10_comeTo 45 [(2, .int y)] [] σ (some (Value.int r)) σ) (fun s o h0 hk => lX10_comeTo_4 a1 σ s.1 s.2 h0 hk) kw_F _ _ x10h ?_
  show kw_G E kwTM 21 (d + 1) μX10_comeTo 45 [(2, .int x10)] [] σ (some (Value.int r)) σ
  refine kg_iload_n 0 dX10_comeTo_45 rfl (pc2 := 46) rfl ?_
  cases h
  exact kg_iret (ty := .int) dX10_comeTo_46 rfl rfl
set_option maxHeartbeats 4000000 in
set_option maxRecDepth 100000 in
theorem lX10_comesBy_22 {E : kw_E} {d : Nat} (v1 : Int32) (v3 : Int32) (σ : kw_M) (v2 : Int32) (v4 : Int32) {v : Option Value} {σ2 : kw_M} {o : (Int32 × Int32) ⊕ (Int32)} (h : bX10_comesBy_22 v1 v3 σ v2 v4 = some o) (hk : Sum.elim (fun s => kw_G E kwTM 21 (d + 2) μX10_comesBy 22 [(0, .ref 0), (1, .int v1), (2, .int s.1), (3, .int v3), (4, .int s.2)] [] σ v σ2) (fun y => kw_G E kwTM 21 (d + 2) μX10_comesBy 85 [(0, .ref 0), (1, .int v1), (2, .int y), (3, .int v3)] [] σ v σ2) o) : kw_G E kwTM 21 (d + 2) μX10_comesBy 22 [(0, .ref 0), (1, .int v1), (2, .int v2), (3, .int v3), (4, .int v4)] [] σ v σ2 := by
  unfold bX10_comesBy_22 at h
  refine kg_iload 4 dX10_comesBy_22 rfl (pc2 := 24) rfl ?_
  refine kg_aload_n 0 dX10_comesBy_24 rfl (pc2 := 25) rfl ?_
  refine kg_getr clX10 rfl 0 (Nat.le_of_ble_eq_true rfl) lfRX10_7 tM_0 eM_0 rfl dX10_comesBy_25 (pc2 := 28) rfl ?_
  refine kg_iconst dX10_comesBy_28 ki_1 (pc2 := 29) rfl ?_
  refine kg_iald tM_1 eM_1 (show kw_in (1 : Int32) 2832 by decide) (j := 1) (by decide) dX10_comesBy_29 (pc2 := 30) rfl ?_
  refine kg_icmp_ge 85 dX10_comesBy_30 rfl (pc2 := 33) rfl (fun q4 => ?_) (fun q4 => ?_)
  · replace h := (if_pos q4).symm.trans h
    refine kg_sub [0, 1, 2, 3] (lv2 := [(0, .ref 0), (1, .int v1), (2, .int v2), (3, .int v3)]) rfl ?_
    cases h
    exact hk
  · replace h := (if_neg q4).symm.trans h
    refine kg_aload_n 0 dX10_comesBy_33 rfl (pc2 := 34) rfl ?_
    refine kg_iload 4 dX10_comesBy_34 rfl (pc2 := 36) rfl ?_
    obtain ⟨r5, r5h, h⟩ := kw_bind_e h
    refine kg_callV (μ := μX10_comesBy) (d := (d + 1)) rfl mVX10_isOpen [.int v4] [] (gX10_isOpen (E := E) (d := d) v4 σ r5h) rfl lmRX10_91 (ci := 10) rfl tM_0 eM_0 rfl (Nat.le_of_ble_eq_true rfl) dX10_comesBy_36 rfl (st2 := [.int r5]) rfl (pc2 := 39) rfl ?_
    refine kg_if_eq 79 dX10_comesBy_39 rfl (pc2 := 42) rfl (fun q6 => ?_) (fun q6 => ?_)
    · replace h := (if_pos q6).symm.trans h
      obtain ⟨x7, x7e, h⟩ := kw_let_e h
      refine kg_iinc 4 dX10_comesBy_79 rfl (Nat.le_of_ble_eq_true rfl) x7e (lv2 := [(4, .int x7), (0, .ref 0), (1, .int v1), (2, .int v2), (3, .int v3)]) rfl (pc2 := 82) rfl ?_
      refine kg_goto 22 dX10_comesBy_82 rfl ?_
      refine kg_sub [1, 2, 3, 4, 0] (lv2 := [(0, .ref 0), (1, .int v1), (2, .int v2), (3, .int v3), (4, .int x7)]) rfl ?_
      cases h
      exact hk
    · replace h := (if_neg q6).symm.trans h
      refine kg_aload_n 0 dX10_comesBy_42 rfl (pc2 := 43) rfl ?_
      refine kg_iload 4 dX10_comesBy_43 rfl (pc2 := 45) rfl ?_
      refine kg_iconst dX10_comesBy_45 ki_2 (pc2 := 46) rfl ?_
      obtain ⟨r8, r8h, h⟩ := kw_bind_e h
      refine kg_callV (μ := μX10_comesBy) (d := (d + 1)) rfl mVX10_of [.int v4, .int (2 : Int32)] [] (gX10_of (E := E) (d := (d + 1)) v4 (2 : Int32) σ r8h) rfl lmRX10_73 (ci := 10) rfl tM_0 eM_0 rfl (Nat.le_of_ble_eq_true rfl) dX10_comesBy_46 rfl (st2 := [.int r8]) rfl (pc2 := 49) rfl ?_
      refine kg_iload_n 1 dX10_comesBy_49 rfl (pc2 := 50) rfl ?_
      refine kg_icmp_gt 79 dX10_comesBy_50 rfl (pc2 := 53) rfl (fun q9 => ?_) (fun q9 => ?_)
      · replace h := (if_pos q9).symm.trans h
        obtain ⟨x10, x10e, h⟩ := kw_let_e h
        refine kg_iinc 4 dX10_comesBy_79 rfl (Nat.le_of_ble_eq_true rfl) x10e (lv2 := [(4, .int x10), (0, .ref 0), (1, .int v1), (2, .int v2), (3, .int v3)]) rfl (pc2 := 82) rfl ?_
        refine kg_goto 22 dX10_comesBy_82 rfl ?_
        refine kg_sub [1, 2, 3, 4, 0] (lv2 := [(0, .ref 0), (1, .int v1), (2, .int v2), (3, .int v3), (4, .int x10)]) rfl ?_
        cases h
        exact hk
      · replace h := (if_neg q9).symm.trans h
        refine kg_iload_n 2 dX10_comesBy_53 rfl (pc2 := 54) rfl ?_
        refine kg_aload_n 0 dX10_comesBy_54 rfl (pc2 := 55) rfl ?_
        refine kg_iload 4 dX10_comesBy_55 rfl (pc2 := 57) rfl ?_
        refine kg_iconst dX10_comesBy_57 ki_0 (pc2 := 58) rfl ?_
        obtain ⟨r11, r11h, h⟩ := kw_bind_e h
        refine kg_callV (μ := μX10_comesBy) (d := (d + 1)) rfl mVX10_of [.int v4, .int (0 : Int32)] [.int v2] (gX10_of (E := E) (d := (d + 1)) v4 (0 : Int32) σ r11h) rfl lmRX10_73 (ci := 10) rfl tM_0 eM_0 rfl (Nat.le_of_ble_eq_true rfl) dX10_comesBy_58 rfl (st2 := [.int r11, .int v2]) rfl (pc2 := 61) rfl ?_
        obtain ⟨r12, r12h, h⟩ := kw_bind_e h
        refine kg_callS (μ := μX10_comesBy) (d := (d + 1)) rfl mSX10_has [.int v2, .int r11] [] (gX10_has (E := E) (d := (d + 1)) v2 r11 σ r12h) rfl lmRX10_321 rfl (Nat.le_of_ble_eq_true rfl) dX10_comesBy_61 rfl (st2 := [.int r12]) rfl (pc2 := 64) rfl ?_
        refine kg_if_eq 79 dX10_comesBy_64 rfl (pc2 := 67) rfl (fun q13 => ?_) (fun q13 => ?_)
        · replace h := (if_pos q13).symm.trans h
          obtain ⟨x14, x14e, h⟩ := kw_let_e h
          refine kg_iinc 4 dX10_comesBy_79 rfl (Nat.le_of_ble_eq_true rfl) x14e (lv2 := [(4, .int x14), (0, .ref 0), (1, .int v1), (2, .int v2), (3, .int v3)]) rfl (pc2 := 82) rfl ?_
          refine kg_goto 22 dX10_comesBy_82 rfl ?_
          refine kg_sub [1, 2, 3, 4, 0] (lv2 := [(0, .ref 0), (1, .int v1), (2, .int v2), (3, .int v3), (4, .int x14)]) rfl ?_
          cases h
          exact hk
        · replace h := (if_neg q13).symm.trans h
          refine kg_iload_n 2 dX10_comesBy_67 rfl (pc2 := 68) rfl ?_
          refine kg_iconst dX10_comesBy_68 ki_1 (pc2 := 69) rfl ?_
          refine kg_aload_n 0 dX10_comesBy_69 rfl (pc2 := 70) rfl ?_
          refine kg_iload 4 dX10_comesBy_70 rfl (pc2 := 72) rfl ?_
          refine kg_iconst dX10_comesBy_72 ki_1 (pc2 := 73) rfl ?_
          obtain ⟨r15, r15h, h⟩ := kw_bind_e h
          refine kg_callV (μ := μX10_comesBy) (d := (d + 1)) rfl mVX10_of [.int v4, .int (1 : Int32)] [.int (1 : Int32), .int v2] (gX10_of (E := E) (d := (d + 1)) v4 (1 : Int32) σ r15h) rfl lmRX10_73 (ci := 10) rfl tM_0 eM_0 rfl (Nat.le_of_ble_eq_true rfl) dX10_comesBy_73 rfl (st2 := [.int r15, .int (1 : Int32), .int v2]) rfl (pc2 := 76) rfl ?_
          refine kg_ishl dX10_comesBy_76 (pc2 := 77) rfl ?_
          refine kg_ior dX10_comesBy_77 (pc2 := 78) rfl ?_
          obtain ⟨x16, x16e, h⟩ := kw_let_e h
          refine kg_istore_n dX10_comesBy_78 rfl (Nat.le_of_ble_eq_true rfl) x16e (lv2 := [(2, .int x16), (0, .ref 0), (1, .int v1), (3, .int v3), (4, .int v4)]) rfl (pc2 := 79) rfl ?_
          obtain ⟨x17, x17e, h⟩ := kw_let_e h
          refine kg_iinc 4 dX10_comesBy_79 rfl (Nat.le_of_ble_eq_true rfl) x17e (lv2 := [(4, .int x17), (2, .int x16), (0, .ref 0), (1, .int v1), (3, .int v3)]) rfl (pc2 := 82) rfl ?_
          refine kg_goto 22 dX10_comesBy_82 rfl ?_
          refine kg_sub [2, 3, 1, 4, 0] (lv2 := [(0, .ref 0), (1, .int v1), (2, .int x16), (3, .int v3), (4, .int x17)]) rfl ?_
          cases h
          exact hk
set_option maxHeartbeats 4000000 in
set_option maxRecDepth 100000 in
theorem lX10_comesBy_11 {E : kw_E} {d : Nat} (v1 : Int32) (σ : kw_M) (v2 : Int32) (v3 : Int32) {v : Option Value} {σ2 : kw_M} {o : (Int32 × Int32) ⊕ (Int32)} (h : bX10_comesBy_11 v1 σ v2 v3 = some o) (hk : Sum.elim (fun s => kw_G E kwTM 21 (d + 2) μX10_comesBy 11 [(0, .ref 0), (1, .int v1), (2, .int s.1), (3, .int s.2)] [] σ v σ2) (fun y => kw_G E kwTM 21 (d + 2) μX10_comesBy 91 [(2, .int y)] [] σ v σ2) o) : kw_G E kwTM 21 (d + 2) μX10_comesBy 11 [(0, .ref 0), (1, .int v1), (2, .int v2), (3, .int v3)] [] σ v σ2 := by
  unfold bX10_comesBy_11 at h
  refine kg_iload_n 3 dX10_comesBy_11 rfl (pc2 := 12) rfl ?_
  refine kg_aload_n 0 dX10_comesBy_12 rfl (pc2 := 13) rfl ?_
  obtain ⟨r2, r2h, h⟩ := kw_bind_e h
  refine kg_callV (μ := μX10_comesBy) (d := (d + 1)) rfl mVX10_towns [] [.int v3] (gX10_towns (E := E) (d := (d + 1)) σ r2h) rfl lmRX10_77 (ci := 10) rfl tM_0 eM_0 rfl (Nat.le_of_ble_eq_true rfl) dX10_comesBy_13 rfl (st2 := [.int r2, .int v3]) rfl (pc2 := 16) rfl ?_
  refine kg_icmp_ge 91 dX10_comesBy_16 rfl (pc2 := 19) rfl (fun q3 => ?_) (fun q3 => ?_)
  · replace h := (if_pos q3).symm.trans h
    refine kg_sub [2] (lv2 := [(2, .int v2)]) rfl ?_
    cases h
    exact hk
  · replace h := (if_neg q3).symm.trans h
    refine kg_iconst dX10_comesBy_19 ki_0 (pc2 := 20) rfl ?_
    refine kg_istore dX10_comesBy_20 (Nat.le_of_ble_eq_true rfl) rfl (lv2 := [(4, .int (0 : Int32)), (0, .ref 0), (1, .int v1), (2, .int v2), (3, .int v3)]) rfl (pc2 := 22) rfl ?_
    refine kg_sub [1, 2, 3, 4, 0] (lv2 := [(0, .ref 0), (1, .int v1), (2, .int v2), (3, .int v3), (4, .int (0 : Int32))]) rfl ?_
    obtain ⟨x18, x18h, h⟩ := kw_bind_e h
    refine kw_loop_e (P := fun s => kw_G E kwTM 21 (d + 2) μX10_comesBy 22 [(0, .ref 0), (1, .int v1), (2, .int s.1), (3, .int v3), (4, .int s.2)] [] σ v σ2) (K := fun y => kw_G E kwTM 21 (d + 2) μX10_comesBy 85 [(0, .ref 0), (1, .int v1), (2, .int y), (3, .int v3)] [] σ v σ2) (fun s o h0 hk => lX10_comesBy_22 v1 v3 σ s.1 s.2 h0 hk) kw_F _ _ x18h ?_
    show kw_G E kwTM 21 (d + 2) μX10_comesBy 85 [(0, .ref 0), (1, .int v1), (2, .int x18), (3, .int v3)] [] σ v σ2
    obtain ⟨x19, x19e, h⟩ := kw_let_e h
    refine kg_iinc 3 dX10_comesBy_85 rfl (Nat.le_of_ble_eq_true rfl) x19e (lv2 := [(3, .int x19), (0, .ref 0), (1, .int v1), (2, .int x18)]) rfl (pc2 := 88) rfl ?_
    refine kg_goto 11 dX10_comesBy_88 rfl ?_
    refine kg_sub [1, 2, 3, 0] (lv2 := [(0, .ref 0), (1, .int v1), (2, .int x18), (3, .int x19)]) rfl ?_
    cases h
    exact hk
set_option maxHeartbeats 4000000 in
set_option maxRecDepth 100000 in
theorem gX10_comesBy {E : kw_E} {d : Nat} (a1 : Int32) (σ : kw_M) {r : Int32} (h : fX10_comesBy a1 σ = some r) : kw_Met E kwTM 21 (d + 2) μX10_comesBy [.ref 0, .int a1] σ (some (Value.int r)) σ := by
  refine kw_enter plRX10 (Nat.le_of_ble_eq_true rfl) ?_
  show kw_G E kwTM 21 (d + 2) μX10_comesBy 0 [(0, .ref 0), (1, .int a1)] [] σ (some (Value.int r)) σ
  unfold fX10_comesBy at h
  refine kg_iconst dX10_comesBy_0 ki_1 (pc2 := 1) rfl ?_
  refine kg_aload_n 0 dX10_comesBy_1 rfl (pc2 := 2) rfl ?_
  refine kg_getr clX10 rfl 0 (Nat.le_of_ble_eq_true rfl) lfRX10_7 tM_0 eM_0 rfl dX10_comesBy_2 (pc2 := 5) rfl ?_
  refine kg_iconst dX10_comesBy_5 ki_2 (pc2 := 6) rfl ?_
  refine kg_iald tM_1 eM_1 (show kw_in (2 : Int32) 2832 by decide) (j := 2) (by decide) dX10_comesBy_6 (pc2 := 7) rfl ?_
  refine kg_ishl dX10_comesBy_7 (pc2 := 8) rfl ?_
  obtain ⟨x1, x1e, h⟩ := kw_let_e h
  refine kg_istore_n dX10_comesBy_8 rfl (Nat.le_of_ble_eq_true rfl) x1e (lv2 := [(2, .int x1), (0, .ref 0), (1, .int a1)]) rfl (pc2 := 9) rfl ?_
  refine kg_iconst dX10_comesBy_9 ki_1 (pc2 := 10) rfl ?_
  refine kg_istore_n dX10_comesBy_10 rfl (Nat.le_of_ble_eq_true rfl) rfl (lv2 := [(3, .int (1 : Int32)), (2, .int x1), (0, .ref 0), (1, .int a1)]) rfl (pc2 := 11) rfl ?_
  refine kg_sub [2, 3, 1, 0] (lv2 := [(0, .ref 0), (1, .int a1), (2, .int x1), (3, .int (1 : Int32))]) rfl ?_
  obtain ⟨x20, x20h, h⟩ := kw_bind_e h
  refine kw_loop_e (P := fun s => kw_G E kwTM 21 (d + 2) μX10_comesBy 11 [(0, .ref 0), (1, .int a1), (2, .int s.1), (3, .int s.2)] [] σ (some (Value.int r)) σ) (K := fun y => kw_G E kwTM 21 (d + 2) μX10_comesBy 91 [(2, .int y)] [] σ (some (Value.int r)) σ) (fun s o h0 hk => lX10_comesBy_11 a1 σ s.1 s.2 h0 hk) kw_F _ _ x20h ?_
  show kw_G E kwTM 21 (d + 2) μX10_comesBy 91 [(2, .int x20)] [] σ (some (Value.int r)) σ
  refine kg_iload_n 0 dX10_comesBy_91 rfl (pc2 := 92) rfl ?_
  cases h
  exact kg_iret (ty := .int) dX10_comesBy_92 rfl rfl
set_option maxHeartbeats 4000000 in
set_option maxRecDepth 100000 in
theorem lX10_narrowOf_34 {E : kw_E} {d : Nat} (v1 : Int32) (σ : kw_M) (v2 : Int64) (v4 : Int32) {v : Option Value} {σ2 : kw_M} {o : (Int64 × Int32) ⊕ (Int64)} (h : bX10_narrowOf_34 v1 σ v2 v4 = some o) (hk : Sum.elim (fun s => kw_G E kwTM 21 (d + 3) μX10_narrowOf 34 [(0, .ref 0), (1, .int v1), (2, .long s.1), (4, .int s.2)] [] σ v σ2) (fun y => kw_G E kwTM 21 (d + 3) μX10_narrowOf 100 [(2, .long y)] [] σ v σ2) o) : kw_G E kwTM 21 (d + 3) μX10_narrowOf 34 [(0, .ref 0), (1, .int v1), (2, .long v2), (4, .int v4)] [] σ v σ2 := by
  unfold bX10_narrowOf_34 at h
  refine kg_iload 3 dX10_narrowOf_34 rfl (pc2 := 36) rfl ?_
  refine kg_aload_n 0 dX10_narrowOf_36 rfl (pc2 := 37) rfl ?_
  refine kg_getr clX10 rfl 0 (Nat.le_of_ble_eq_true rfl) lfRX10_7 tM_0 eM_0 rfl dX10_narrowOf_37 (pc2 := 40) rfl ?_
  refine kg_iconst dX10_narrowOf_40 ki_1 (pc2 := 41) rfl ?_
  refine kg_iald tM_1 eM_1 (show kw_in (1 : Int32) 2832 by decide) (j := 1) (by decide) dX10_narrowOf_41 (pc2 := 42) rfl ?_
  refine kg_icmp_ge 100 dX10_narrowOf_42 rfl (pc2 := 45) rfl (fun q4 => ?_) (fun q4 => ?_)
  · replace h := (if_pos q4).symm.trans h
    refine kg_sub [2] (lv2 := [(2, .long v2)]) rfl ?_
    cases h
    exact hk
  · replace h := (if_neg q4).symm.trans h
    refine kg_aload_n 0 dX10_narrowOf_45 rfl (pc2 := 46) rfl ?_
    refine kg_iload 3 dX10_narrowOf_46 rfl (pc2 := 48) rfl ?_
    obtain ⟨r5, r5h, h⟩ := kw_bind_e h
    refine kg_callV (μ := μX10_narrowOf) (d := (d + 2)) rfl mVX10_isOpen [.int v4] [] (gX10_isOpen (E := E) (d := (d + 1)) v4 σ r5h) rfl lmRX10_91 (ci := 10) rfl tM_0 eM_0 rfl (Nat.le_of_ble_eq_true rfl) dX10_narrowOf_48 rfl (st2 := [.int r5]) rfl (pc2 := 51) rfl ?_
    refine kg_if_eq 94 dX10_narrowOf_51 rfl (pc2 := 54) rfl (fun q6 => ?_) (fun q6 => ?_)
    · replace h := (if_pos q6).symm.trans h
      obtain ⟨x7, x7e, h⟩ := kw_let_e h
      refine kg_iinc 3 dX10_narrowOf_94 rfl (Nat.le_of_ble_eq_true rfl) x7e (lv2 := [(4, .int x7), (0, .ref 0), (1, .int v1), (2, .long v2)]) rfl (pc2 := 97) rfl ?_
      refine kg_goto 34 dX10_narrowOf_97 rfl ?_
      refine kg_sub [1, 2, 3, 0] (lv2 := [(0, .ref 0), (1, .int v1), (2, .long v2), (4, .int x7)]) rfl ?_
      cases h
      exact hk
    · replace h := (if_neg q6).symm.trans h
      refine kg_aload_n 0 dX10_narrowOf_54 rfl (pc2 := 55) rfl ?_
      refine kg_iload 3 dX10_narrowOf_55 rfl (pc2 := 57) rfl ?_
      refine kg_iconst dX10_narrowOf_57 ki_2 (pc2 := 58) rfl ?_
      obtain ⟨r8, r8h, h⟩ := kw_bind_e h
      refine kg_callV (μ := μX10_narrowOf) (d := (d + 2)) rfl mVX10_of [.int v4, .int (2 : Int32)] [] (gX10_of (E := E) (d := (d + 2)) v4 (2 : Int32) σ r8h) rfl lmRX10_73 (ci := 10) rfl tM_0 eM_0 rfl (Nat.le_of_ble_eq_true rfl) dX10_narrowOf_58 rfl (st2 := [.int r8]) rfl (pc2 := 61) rfl ?_
      refine kg_i2l dX10_narrowOf_61 (pc2 := 62) rfl ?_
      refine kg_lload_n 2 dX10_narrowOf_62 rfl (pc2 := 63) rfl ?_
      refine kg_lcmp_ge 94 dX10_narrowOf_63 dX10_narrowOf_64 rfl (pc2 := 67) rfl (fun q9 => ?_) (fun q9 => ?_)
      · replace h := (if_pos q9).symm.trans h
        obtain ⟨x10, x10e, h⟩ := kw_let_e h
        refine kg_iinc 3 dX10_narrowOf_94 rfl (Nat.le_of_ble_eq_true rfl) x10e (lv2 := [(4, .int x10), (0, .ref 0), (1, .int v1), (2, .long v2)]) rfl (pc2 := 97) rfl ?_
        refine kg_goto 34 dX10_narrowOf_97 rfl ?_
        refine kg_sub [1, 2, 3, 0] (lv2 := [(0, .ref 0), (1, .int v1), (2, .long v2), (4, .int x10)]) rfl ?_
        cases h
        exact hk
      · replace h := (if_neg q9).symm.trans h
        refine kg_aload_n 0 dX10_narrowOf_67 rfl (pc2 := 68) rfl ?_
        refine kg_aload_n 0 dX10_narrowOf_68 rfl (pc2 := 69) rfl ?_
        refine kg_iload 3 dX10_narrowOf_69 rfl (pc2 := 71) rfl ?_
        refine kg_iconst dX10_narrowOf_71 ki_2 (pc2 := 72) rfl ?_
        obtain ⟨r11, r11h, h⟩ := kw_bind_e h
        refine kg_callV (μ := μX10_narrowOf) (d := (d + 2)) rfl mVX10_of [.int v4, .int (2 : Int32)] [.ref 0] (gX10_of (E := E) (d := (d + 2)) v4 (2 : Int32) σ r11h) rfl lmRX10_73 (ci := 10) rfl tM_0 eM_0 rfl (Nat.le_of_ble_eq_true rfl) dX10_narrowOf_72 rfl (st2 := [.int r11, .ref 0]) rfl (pc2 := 75) rfl ?_
        obtain ⟨r12, r12h, h⟩ := kw_bind_e h
        refine kg_callV (μ := μX10_narrowOf) (d := (d + 2)) rfl mVX10_comesBy [.int r11] [] (gX10_comesBy (E := E) (d := d) r11 σ r12h) rfl lmRX10_333 (ci := 10) rfl tM_0 eM_0 rfl (Nat.le_of_ble_eq_true rfl) dX10_narrowOf_75 rfl (st2 := [.int r12]) rfl (pc2 := 78) rfl ?_
        refine kg_iload_n 1 dX10_narrowOf_78 rfl (pc2 := 79) rfl ?_
        obtain ⟨r13, r13h, h⟩ := kw_bind_e h
        refine kg_callS (μ := μX10_narrowOf) (d := (d + 2)) rfl mSX10_has [.int r12, .int v1] [] (gX10_has (E := E) (d := (d + 2)) r12 v1 σ r13h) rfl lmRX10_321 rfl (Nat.le_of_ble_eq_true rfl) dX10_narrowOf_79 rfl (st2 := [.int r13]) rfl (pc2 := 82) rfl ?_
        refine kg_if_eq 94 dX10_narrowOf_82 rfl (pc2 := 85) rfl (fun q14 => ?_) (fun q14 => ?_)
        · replace h := (if_pos q14).symm.trans h
          obtain ⟨x15, x15e, h⟩ := kw_let_e h
          refine kg_iinc 3 dX10_narrowOf_94 rfl (Nat.le_of_ble_eq_true rfl) x15e (lv2 := [(4, .int x15), (0, .ref 0), (1, .int v1), (2, .long v2)]) rfl (pc2 := 97) rfl ?_
          refine kg_goto 34 dX10_narrowOf_97 rfl ?_
          refine kg_sub [1, 2, 3, 0] (lv2 := [(0, .ref 0), (1, .int v1), (2, .long v2), (4, .int x15)]) rfl ?_
          cases h
          exact hk
        · replace h := (if_neg q14).symm.trans h
          refine kg_aload_n 0 dX10_narrowOf_85 rfl (pc2 := 86) rfl ?_
          refine kg_iload 3 dX10_narrowOf_86 rfl (pc2 := 88) rfl ?_
          refine kg_iconst dX10_narrowOf_88 ki_2 (pc2 := 89) rfl ?_
          obtain ⟨r16, r16h, h⟩ := kw_bind_e h
          refine kg_callV (μ := μX10_narrowOf) (d := (d + 2)) rfl mVX10_of [.int v4, .int (2 : Int32)] [] (gX10_of (E := E) (d := (d + 2)) v4 (2 : Int32) σ r16h) rfl lmRX10_73 (ci := 10) rfl tM_0 eM_0 rfl (Nat.le_of_ble_eq_true rfl) dX10_narrowOf_89 rfl (st2 := [.int r16]) rfl (pc2 := 92) rfl ?_
          refine kg_i2l dX10_narrowOf_92 (pc2 := 93) rfl ?_
          refine kg_lstore_n dX10_narrowOf_93 rfl (Nat.le_of_ble_eq_true rfl) rfl (lv2 := [(2, .long r16.toInt64), (0, .ref 0), (1, .int v1), (4, .int v4)]) rfl (pc2 := 94) rfl ?_
          obtain ⟨x17, x17e, h⟩ := kw_let_e h
          refine kg_iinc 3 dX10_narrowOf_94 rfl (Nat.le_of_ble_eq_true rfl) x17e (lv2 := [(4, .int x17), (2, .long r16.toInt64), (0, .ref 0), (1, .int v1)]) rfl (pc2 := 97) rfl ?_
          refine kg_goto 34 dX10_narrowOf_97 rfl ?_
          refine kg_sub [2, 3, 1, 0] (lv2 := [(0, .ref 0), (1, .int v1), (2, .long r16.toInt64), (4, .int x17)]) rfl ?_
          cases h
          exact hk
set_option maxHeartbeats 4000000 in
set_option maxRecDepth 100000 in
theorem gX10_narrowOf {E : kw_E} {d : Nat} (a1 : Int32) (σ : kw_M) {r : Int64} (h : fX10_narrowOf a1 σ = some r) : kw_Met E kwTM 21 (d + 3) μX10_narrowOf [.ref 0, .int a1] σ (some (Value.long r)) σ := by
  refine kw_enter plRX10 (Nat.le_of_ble_eq_true rfl) ?_
  show kw_G E kwTM 21 (d + 3) μX10_narrowOf 0 [(0, .ref 0), (1, .int a1)] [] σ (some (Value.long r)) σ
  unfold fX10_narrowOf at h
  refine kg_iload_n 1 dX10_narrowOf_0 rfl (pc2 := 1) rfl ?_
  refine kg_aload_n 0 dX10_narrowOf_1 rfl (pc2 := 2) rfl ?_
  refine kg_getr clX10 rfl 0 (Nat.le_of_ble_eq_true rfl) lfRX10_7 tM_0 eM_0 rfl dX10_narrowOf_2 (pc2 := 5) rfl ?_
  refine kg_iconst dX10_narrowOf_5 ki_2 (pc2 := 6) rfl ?_
  refine kg_iald tM_1 eM_1 (show kw_in (2 : Int32) 2832 by decide) (j := 2) (by decide) dX10_narrowOf_6 (pc2 := 7) rfl ?_
  refine kg_icmp_eq 23 dX10_narrowOf_7 rfl (pc2 := 10) rfl (fun q1 => ?_) (fun q1 => ?_)
  · replace h := (if_pos q1).symm.trans h
    refine kg_ldc2 rfl lcRX10_89 dX10_narrowOf_23 (pc2 := 26) rfl ?_
    cases h
    exact kg_lret dX10_narrowOf_26 rfl
  · replace h := (if_neg q1).symm.trans h
    refine kg_aload_n 0 dX10_narrowOf_10 rfl (pc2 := 11) rfl ?_
    refine kg_getr clX10 rfl 3 (Nat.le_of_ble_eq_true rfl) lfRX10_17 tM_0 eM_0 rfl dX10_narrowOf_11 (pc2 := 14) rfl ?_
    refine kg_iload_n 1 dX10_narrowOf_14 rfl (pc2 := 15) rfl ?_
    obtain ⟨q2, h⟩ := kw_chk_e h
    refine kg_lald tM_3 eM_3 q2 (j := a1.toNatClampNeg) rfl dX10_narrowOf_15 (pc2 := 16) rfl ?_
    refine kg_ldc2 rfl lcRX10_89 dX10_narrowOf_16 (pc2 := 19) rfl ?_
    refine kg_lcmp_ne 27 dX10_narrowOf_19 dX10_narrowOf_20 rfl (pc2 := 23) rfl (fun q3 => ?_) (fun q3 => ?_)
    · replace h := (if_neg q3).symm.trans h
      refine kg_ldc2 rfl lcRX10_89 dX10_narrowOf_27 (pc2 := 30) rfl ?_
      refine kg_lstore_n dX10_narrowOf_30 rfl (Nat.le_of_ble_eq_true rfl) rfl (lv2 := [(2, .long (900000000000000000 : Int64)), (0, .ref 0), (1, .int a1)]) rfl (pc2 := 31) rfl ?_
      refine kg_iconst dX10_narrowOf_31 ki_0 (pc2 := 32) rfl ?_
      refine kg_istore dX10_narrowOf_32 (Nat.le_of_ble_eq_true rfl) rfl (lv2 := [(4, .int (0 : Int32)), (2, .long (900000000000000000 : Int64)), (0, .ref 0), (1, .int a1)]) rfl (pc2 := 34) rfl ?_
      refine kg_sub [2, 3, 1, 0] (lv2 := [(0, .ref 0), (1, .int a1), (2, .long (900000000000000000 : Int64)), (4, .int (0 : Int32))]) rfl ?_
      obtain ⟨x18, x18h, h⟩ := kw_bind_e h
      refine kw_loop_e (P := fun s => kw_G E kwTM 21 (d + 3) μX10_narrowOf 34 [(0, .ref 0), (1, .int a1), (2, .long s.1), (4, .int s.2)] [] σ (some (Value.long r)) σ) (K := fun y => kw_G E kwTM 21 (d + 3) μX10_narrowOf 100 [(2, .long y)] [] σ (some (Value.long r)) σ) (fun s o h0 hk => lX10_narrowOf_34 a1 σ s.1 s.2 h0 hk) kw_F _ _ x18h ?_
      show kw_G E kwTM 21 (d + 3) μX10_narrowOf 100 [(2, .long x18)] [] σ (some (Value.long r)) σ
      refine kg_lload_n 0 dX10_narrowOf_100 rfl (pc2 := 101) rfl ?_
      cases h
      exact kg_lret dX10_narrowOf_101 rfl
    · replace h := (if_pos q3).symm.trans h
      refine kg_ldc2 rfl lcRX10_89 dX10_narrowOf_23 (pc2 := 26) rfl ?_
      cases h
      exact kg_lret dX10_narrowOf_26 rfl
set_option maxHeartbeats 4000000 in
set_option maxRecDepth 100000 in
theorem lX10_apartOf_23 {E : kw_E} {d : Nat} (v1 : Int32) (v2 : Int32) (v3 : Int32) (σ : kw_M) {v : Option Value} {σ2 : kw_M} {o : (Int32 × kw_M) ⊕ (kw_M)} (h : bX10_apartOf_23 v1 v2 v3 σ = some o) (hk : Sum.elim (fun s => kw_G E kwTM 21 (d + 5) μX10_apartOf 23 [(0, .ref 0), (1, .int v1), (2, .int v2), (3, .int s.1)] [] s.2 v σ2) (fun y => kw_G E kwTM 21 (d + 5) μX10_apartOf 42 [(0, .ref 0), (1, .int v1), (2, .int v2)] [] y v σ2) o) : kw_G E kwTM 21 (d + 5) μX10_apartOf 23 [(0, .ref 0), (1, .int v1), (2, .int v2), (3, .int v3)] [] σ v σ2 := by
  unfold bX10_apartOf_23 at h
  refine kg_iload_n 3 dX10_apartOf_23 rfl (pc2 := 24) rfl ?_
  refine kg_bipush dX10_apartOf_24 kb_36 (pc2 := 26) rfl ?_
  refine kg_icmp_ge 42 dX10_apartOf_26 rfl (pc2 := 29) rfl (fun q4 => ?_) (fun q4 => ?_)
  · replace h := (if_pos q4).symm.trans h
    refine kg_sub [0, 1, 2] (lv2 := [(0, .ref 0), (1, .int v1), (2, .int v2)]) rfl ?_
    cases h
    exact hk
  · replace h := (if_neg q4).symm.trans h
    refine kg_aload_n 0 dX10_apartOf_29 rfl (pc2 := 30) rfl ?_
    refine kg_getr clX10 rfl 26 (Nat.le_of_ble_eq_true rfl) lfRX10_57 tM_0 eM_0 rfl dX10_apartOf_30 (pc2 := 33) rfl ?_
    refine kg_iload_n 3 dX10_apartOf_33 rfl (pc2 := 34) rfl ?_
    refine kg_iconst dX10_apartOf_34 ki_0 (pc2 := 35) rfl ?_
    obtain ⟨q5, h⟩ := kw_chk_e h
    obtain ⟨s6, s6e, h⟩ := kw_let_e h
    refine kg_zast tM_16 eM_16 q5 (j := v3.toNatClampNeg) rfl s6e dX10_apartOf_35 (pc2 := 36) rfl ?_
    obtain ⟨x7, x7e, h⟩ := kw_let_e h
    refine kg_iinc 3 dX10_apartOf_36 rfl (Nat.le_of_ble_eq_true rfl) x7e (lv2 := [(3, .int x7), (0, .ref 0), (1, .int v1), (2, .int v2)]) rfl (pc2 := 39) rfl ?_
    refine kg_goto 23 dX10_apartOf_39 rfl ?_
    refine kg_sub [1, 2, 3, 0] (lv2 := [(0, .ref 0), (1, .int v1), (2, .int v2), (3, .int x7)]) rfl ?_
    cases h
    exact hk
set_option maxHeartbeats 4000000 in
set_option maxRecDepth 100000 in
theorem lX10_apartOf_44 {E : kw_E} {d : Nat} (v1 : Int32) (v2 : Int32) (v3 : Int32) (σ : kw_M) {v : Option Value} {σ2 : kw_M} {o : (Int32 × kw_M) ⊕ (kw_M)} (h : bX10_apartOf_44 v1 v2 v3 σ = some o) (hk : Sum.elim (fun s => kw_G E kwTM 21 (d + 5) μX10_apartOf 44 [(0, .ref 0), (1, .int v1), (2, .int v2), (3, .int s.1)] [] s.2 v σ2) (fun y => kw_G E kwTM 21 (d + 5) μX10_apartOf 67 [(0, .ref 0), (1, .int v1)] [] y v σ2) o) : kw_G E kwTM 21 (d + 5) μX10_apartOf 44 [(0, .ref 0), (1, .int v1), (2, .int v2), (3, .int v3)] [] σ v σ2 := by
  unfold bX10_apartOf_44 at h
  refine kg_iload_n 3 dX10_apartOf_44 rfl (pc2 := 45) rfl ?_
  refine kg_iload_n 2 dX10_apartOf_45 rfl (pc2 := 46) rfl ?_
  refine kg_icmp_ge 67 dX10_apartOf_46 rfl (pc2 := 49) rfl (fun q9 => ?_) (fun q9 => ?_)
  · replace h := (if_pos q9).symm.trans h
    refine kg_sub [0, 1] (lv2 := [(0, .ref 0), (1, .int v1)]) rfl ?_
    cases h
    exact hk
  · replace h := (if_neg q9).symm.trans h
    refine kg_aload_n 0 dX10_apartOf_49 rfl (pc2 := 50) rfl ?_
    refine kg_getr clX10 rfl 26 (Nat.le_of_ble_eq_true rfl) lfRX10_57 tM_0 eM_0 rfl dX10_apartOf_50 (pc2 := 53) rfl ?_
    refine kg_aload_n 0 dX10_apartOf_53 rfl (pc2 := 54) rfl ?_
    refine kg_getr clX10 rfl 18 (Nat.le_of_ble_eq_true rfl) lfRX10_33 tM_0 eM_0 rfl dX10_apartOf_54 (pc2 := 57) rfl ?_
    refine kg_iload_n 3 dX10_apartOf_57 rfl (pc2 := 58) rfl ?_
    obtain ⟨q10, h⟩ := kw_chk_e h
    refine kg_iald tM_8 eM_8 q10 (j := v3.toNatClampNeg) rfl dX10_apartOf_58 (pc2 := 59) rfl ?_
    refine kg_iconst dX10_apartOf_59 ki_1 (pc2 := 60) rfl ?_
    obtain ⟨q11, h⟩ := kw_chk_e h
    obtain ⟨s12, s12e, h⟩ := kw_let_e h
    refine kg_zast tM_16 eM_16 q11 (j := (σ.1 8 v3.toNatClampNeg).toNatClampNeg) rfl s12e dX10_apartOf_60 (pc2 := 61) rfl ?_
    obtain ⟨x13, x13e, h⟩ := kw_let_e h
    refine kg_iinc 3 dX10_apartOf_61 rfl (Nat.le_of_ble_eq_true rfl) x13e (lv2 := [(3, .int x13), (0, .ref 0), (1, .int v1), (2, .int v2)]) rfl (pc2 := 64) rfl ?_
    refine kg_goto 44 dX10_apartOf_64 rfl ?_
    refine kg_sub [1, 2, 3, 0] (lv2 := [(0, .ref 0), (1, .int v1), (2, .int v2), (3, .int x13)]) rfl ?_
    cases h
    exact hk
set_option maxHeartbeats 4000000 in
set_option maxRecDepth 100000 in
theorem lX10_apartOf_69 {E : kw_E} {d : Nat} (v1 : Int32) (v3 : Int32) (σ : kw_M) {v : Option Value} {σ2 : kw_M} {o : (Int32 × kw_M) ⊕ (kw_M)} (h : bX10_apartOf_69 v1 v3 σ = some o) (hk : Sum.elim (fun s => kw_G E kwTM 21 (d + 5) μX10_apartOf 69 [(0, .ref 0), (1, .int v1), (3, .int s.1)] [] s.2 v σ2) (fun y => kw_G E kwTM 21 (d + 5) μX10_apartOf 104 [(0, .ref 0), (1, .int v1)] [] y v σ2) o) : kw_G E kwTM 21 (d + 5) μX10_apartOf 69 [(0, .ref 0), (1, .int v1), (3, .int v3)] [] σ v σ2 := by
  unfold bX10_apartOf_69 at h
  refine kg_iload_n 2 dX10_apartOf_69 rfl (pc2 := 70) rfl ?_
  refine kg_bipush dX10_apartOf_70 kb_12 (pc2 := 72) rfl ?_
  refine kg_icmp_ge 104 dX10_apartOf_72 rfl (pc2 := 75) rfl (fun q15 => ?_) (fun q15 => ?_)
  · replace h := (if_pos q15).symm.trans h
    refine kg_sub [0, 1] (lv2 := [(0, .ref 0), (1, .int v1)]) rfl ?_
    cases h
    exact hk
  · replace h := (if_neg q15).symm.trans h
    refine kg_aload_n 0 dX10_apartOf_75 rfl (pc2 := 76) rfl ?_
    refine kg_getr clX10 rfl 2 (Nat.le_of_ble_eq_true rfl) lfRX10_13 tM_0 eM_0 rfl dX10_apartOf_76 (pc2 := 79) rfl ?_
    refine kg_iload_n 2 dX10_apartOf_79 rfl (pc2 := 80) rfl ?_
    refine kg_iload_n 2 dX10_apartOf_80 rfl (pc2 := 81) rfl ?_
    refine kg_aload_n 0 dX10_apartOf_81 rfl (pc2 := 82) rfl ?_
    refine kg_getr clX10 rfl 0 (Nat.le_of_ble_eq_true rfl) lfRX10_7 tM_0 eM_0 rfl dX10_apartOf_82 (pc2 := 85) rfl ?_
    refine kg_iconst dX10_apartOf_85 ki_2 (pc2 := 86) rfl ?_
    refine kg_iald tM_1 eM_1 (show kw_in (2 : Int32) 2832 by decide) (j := 2) (by decide) dX10_apartOf_86 (pc2 := 87) rfl ?_
    refine kg_icmp_ne 94 dX10_apartOf_87 rfl (pc2 := 90) rfl (fun q16 => ?_) (fun q16 => ?_)
    · replace h := (if_neg q16).symm.trans h
      refine kg_ldc2 rfl lcRX10_89 dX10_apartOf_94 (pc2 := 97) rfl ?_
      obtain ⟨q17, h⟩ := kw_chk_e h
      obtain ⟨s18, s18e, h⟩ := kw_let_e h
      refine kg_last tM_2 eM_2 q17 (j := v3.toNatClampNeg) rfl s18e dX10_apartOf_97 (pc2 := 98) rfl ?_
      obtain ⟨x19, x19e, h⟩ := kw_let_e h
      refine kg_iinc 2 dX10_apartOf_98 rfl (Nat.le_of_ble_eq_true rfl) x19e (lv2 := [(3, .int x19), (0, .ref 0), (1, .int v1)]) rfl (pc2 := 101) rfl ?_
      refine kg_goto 69 dX10_apartOf_101 rfl ?_
      refine kg_sub [1, 2, 0] (lv2 := [(0, .ref 0), (1, .int v1), (3, .int x19)]) rfl ?_
      cases h
      exact hk
    · replace h := (if_pos q16).symm.trans h
      refine kg_lconst dX10_apartOf_90 kl_0 (pc2 := 91) rfl ?_
      refine kg_goto 97 dX10_apartOf_91 rfl ?_
      obtain ⟨q20, h⟩ := kw_chk_e h
      obtain ⟨s21, s21e, h⟩ := kw_let_e h
      refine kg_last tM_2 eM_2 q20 (j := v3.toNatClampNeg) rfl s21e dX10_apartOf_97 (pc2 := 98) rfl ?_
      obtain ⟨x22, x22e, h⟩ := kw_let_e h
      refine kg_iinc 2 dX10_apartOf_98 rfl (Nat.le_of_ble_eq_true rfl) x22e (lv2 := [(3, .int x22), (0, .ref 0), (1, .int v1)]) rfl (pc2 := 101) rfl ?_
      refine kg_goto 69 dX10_apartOf_101 rfl ?_
      refine kg_sub [1, 2, 0] (lv2 := [(0, .ref 0), (1, .int v1), (3, .int x22)]) rfl ?_
      cases h
      exact hk
set_option maxHeartbeats 4000000 in
set_option maxRecDepth 100000 in
theorem gjX10_apartOf_252_L119 {E : kw_E} {d : Nat} (v1 : Int32) (v3 : Int32) (v4 : Int32) (v6 : Int32) (t0 : Int32) (t1 : Int64) (σ : kw_M) {v : Option Value} {σ2 : kw_M} {o : (Int32 × kw_M) ⊕ (kw_M)} (h : jX10_apartOf_252_L119 v1 v3 v4 v6 t0 t1 σ = some o) (hk : Sum.elim (fun s => kw_G E kwTM 21 (d + 5) μX10_apartOf 119 [(0, .ref 0), (1, .int v1), (3, .int v3), (4, .int s.1)] [] s.2 v σ2) (fun y => kw_G E kwTM 21 (d + 5) μX10_apartOf 284 [(0, .ref 0), (1, .int v1), (3, .int v3)] [] y v σ2) o) : kw_G E kwTM 21 (d + 5) μX10_apartOf 252 [(0, .ref 0), (1, .int v1), (3, .int v3), (4, .int v4), (6, .int v6)] [.int t0, .long t1] σ v σ2 := by
  unfold jX10_apartOf_252_L119 at h
  refine kg_i2l dX10_apartOf_252 (pc2 := 253) rfl ?_
  refine kg_ladd dX10_apartOf_253 (pc2 := 254) rfl ?_
  obtain ⟨x40, x40e, h⟩ := kw_let_e h
  refine kg_lstore dX10_apartOf_254 (Nat.le_of_ble_eq_true rfl) x40e (lv2 := [(7, .long x40), (0, .ref 0), (1, .int v1), (3, .int v3), (4, .int v4), (6, .int v6)]) rfl (pc2 := 256) rfl ?_
  refine kg_lload 0 dX10_apartOf_256 rfl (pc2 := 258) rfl ?_
  refine kg_aload_n 1 dX10_apartOf_258 rfl (pc2 := 259) rfl ?_
  refine kg_getr clX10 rfl 2 (Nat.le_of_ble_eq_true rfl) lfRX10_13 tM_0 eM_0 rfl dX10_apartOf_259 (pc2 := 262) rfl ?_
  refine kg_iload 5 dX10_apartOf_262 rfl (pc2 := 264) rfl ?_
  obtain ⟨q41, h⟩ := kw_chk_e h
  refine kg_lald tM_2 eM_2 q41 (j := v6.toNatClampNeg) rfl dX10_apartOf_264 (pc2 := 265) rfl ?_
  refine kg_lcmp_ge 278 dX10_apartOf_265 dX10_apartOf_266 rfl (pc2 := 269) rfl (fun q42 => ?_) (fun q42 => ?_)
  · replace h := (if_pos q42).symm.trans h
    obtain ⟨x43, x43e, h⟩ := kw_let_e h
    refine kg_iinc 4 dX10_apartOf_278 rfl (Nat.le_of_ble_eq_true rfl) x43e (lv2 := [(4, .int x43), (7, .long x40), (0, .ref 0), (1, .int v1), (3, .int v3), (6, .int v6)]) rfl (pc2 := 281) rfl ?_
    refine kg_goto 119 dX10_apartOf_281 rfl ?_
    refine kg_sub [2, 3, 4, 0] (lv2 := [(0, .ref 0), (1, .int v1), (3, .int v3), (4, .int x43)]) rfl ?_
    cases h
    exact hk
  · replace h := (if_neg q42).symm.trans h
    refine kg_aload_n 1 dX10_apartOf_269 rfl (pc2 := 270) rfl ?_
    refine kg_getr clX10 rfl 2 (Nat.le_of_ble_eq_true rfl) lfRX10_13 tM_0 eM_0 rfl dX10_apartOf_270 (pc2 := 273) rfl ?_
    refine kg_iload 5 dX10_apartOf_273 rfl (pc2 := 275) rfl ?_
    refine kg_lload 0 dX10_apartOf_275 rfl (pc2 := 277) rfl ?_
    obtain ⟨s44, s44e, h⟩ := kw_let_e h
    refine kg_last tM_2 eM_2 q41 (j := v6.toNatClampNeg) rfl s44e dX10_apartOf_277 (pc2 := 278) rfl ?_
    obtain ⟨x45, x45e, h⟩ := kw_let_e h
    refine kg_iinc 4 dX10_apartOf_278 rfl (Nat.le_of_ble_eq_true rfl) x45e (lv2 := [(4, .int x45), (7, .long x40), (0, .ref 0), (1, .int v1), (3, .int v3), (6, .int v6)]) rfl (pc2 := 281) rfl ?_
    refine kg_goto 119 dX10_apartOf_281 rfl ?_
    refine kg_sub [2, 3, 4, 0] (lv2 := [(0, .ref 0), (1, .int v1), (3, .int v3), (4, .int x45)]) rfl ?_
    cases h
    exact hk
set_option maxHeartbeats 4000000 in
set_option maxRecDepth 100000 in
theorem gjX10_apartOf_198_L119 {E : kw_E} {d : Nat} (v1 : Int32) (v3 : Int32) (v4 : Int32) (v5 : Int32) (t0 : Int32) (σ : kw_M) {v : Option Value} {σ2 : kw_M} {o : (Int32 × kw_M) ⊕ (kw_M)} (h : jX10_apartOf_198_L119 v1 v3 v4 v5 t0 σ = some o) (hk : Sum.elim (fun s => kw_G E kwTM 21 (d + 5) μX10_apartOf 119 [(0, .ref 0), (1, .int v1), (3, .int v3), (4, .int s.1)] [] s.2 v σ2) (fun y => kw_G E kwTM 21 (d + 5) μX10_apartOf 284 [(0, .ref 0), (1, .int v1), (3, .int v3)] [] y v σ2) o) : kw_G E kwTM 21 (d + 5) μX10_apartOf 198 [(0, .ref 0), (1, .int v1), (3, .int v3), (4, .int v4), (5, .int v5)] [.int t0] σ v σ2 := by
  unfold jX10_apartOf_198_L119 at h
  refine kg_istore dX10_apartOf_198 (Nat.le_of_ble_eq_true rfl) rfl (lv2 := [(6, .int t0), (0, .ref 0), (1, .int v1), (3, .int v3), (4, .int v4), (5, .int v5)]) rfl (pc2 := 200) rfl ?_
  refine kg_aload_n 1 dX10_apartOf_200 rfl (pc2 := 201) rfl ?_
  refine kg_getr clX10 rfl 2 (Nat.le_of_ble_eq_true rfl) lfRX10_13 tM_0 eM_0 rfl dX10_apartOf_201 (pc2 := 204) rfl ?_
  refine kg_iload 5 dX10_apartOf_204 rfl (pc2 := 206) rfl ?_
  obtain ⟨q35, h⟩ := kw_chk_e h
  refine kg_lald tM_2 eM_2 q35 (j := v5.toNatClampNeg) rfl dX10_apartOf_206 (pc2 := 207) rfl ?_
  refine kg_ldc2 rfl lcRX10_89 dX10_apartOf_207 (pc2 := 210) rfl ?_
  refine kg_lcmp_ne 217 dX10_apartOf_210 dX10_apartOf_211 rfl (pc2 := 214) rfl (fun q36 => ?_) (fun q36 => ?_)
  · replace h := (if_neg q36).symm.trans h
    refine kg_aload_n 1 dX10_apartOf_217 rfl (pc2 := 218) rfl ?_
    refine kg_getr clX10 rfl 2 (Nat.le_of_ble_eq_true rfl) lfRX10_13 tM_0 eM_0 rfl dX10_apartOf_218 (pc2 := 221) rfl ?_
    refine kg_iload 5 dX10_apartOf_221 rfl (pc2 := 223) rfl ?_
    refine kg_lald tM_2 eM_2 q35 (j := v5.toNatClampNeg) rfl dX10_apartOf_223 (pc2 := 224) rfl ?_
    refine kg_aload_n 1 dX10_apartOf_224 rfl (pc2 := 225) rfl ?_
    refine kg_getr clX10 rfl 26 (Nat.le_of_ble_eq_true rfl) lfRX10_57 tM_0 eM_0 rfl dX10_apartOf_225 (pc2 := 228) rfl ?_
    refine kg_iload 4 dX10_apartOf_228 rfl (pc2 := 230) rfl ?_
    obtain ⟨q37, h⟩ := kw_chk_e h
    refine kg_zald tM_16 eM_16 q37 (j := v4.toNatClampNeg) rfl dX10_apartOf_230 (pc2 := 231) rfl ?_
    refine kg_if_eq 245 dX10_apartOf_231 rfl (pc2 := 234) rfl (fun q38 => ?_) (fun q38 => ?_)
    · replace h := (if_pos q38).symm.trans h
      refine kg_aload_n 1 dX10_apartOf_245 rfl (pc2 := 246) rfl ?_
      refine kg_iload 4 dX10_apartOf_246 rfl (pc2 := 248) rfl ?_
      refine kg_iconst dX10_apartOf_248 ki_2 (pc2 := 249) rfl ?_
      obtain ⟨r39, r39h, h⟩ := kw_bind_e h
      refine kg_callV (μ := μX10_apartOf) (d := (d + 4)) rfl mVX10_of [.int v4, .int (2 : Int32)] [.long (σ.2 2 v5.toNatClampNeg)] (gX10_of (E := E) (d := (d + 4)) v4 (2 : Int32) σ r39h) rfl lmRX10_73 (ci := 10) rfl tM_0 eM_0 rfl (Nat.le_of_ble_eq_true rfl) dX10_apartOf_249 rfl (st2 := [.int r39, .long (σ.2 2 v5.toNatClampNeg)]) rfl (pc2 := 252) rfl ?_
      refine kg_sub [1, 2, 3, 4, 0] (lv2 := [(0, .ref 0), (1, .int v1), (3, .int v3), (4, .int v4), (6, .int t0)]) rfl ?_
      exact gjX10_apartOf_252_L119 v1 v3 v4 t0 r39 (σ.2 2 v5.toNatClampNeg) σ h hk
    · replace h := (if_neg q38).symm.trans h
      refine kg_aload_n 1 dX10_apartOf_234 rfl (pc2 := 235) rfl ?_
      refine kg_iload 4 dX10_apartOf_235 rfl (pc2 := 237) rfl ?_
      refine kg_iconst dX10_apartOf_237 ki_2 (pc2 := 238) rfl ?_
      obtain ⟨r46, r46h, h⟩ := kw_bind_e h
      refine kg_callV (μ := μX10_apartOf) (d := (d + 4)) rfl mVX10_of [.int v4, .int (2 : Int32)] [.long (σ.2 2 v5.toNatClampNeg)] (gX10_of (E := E) (d := (d + 4)) v4 (2 : Int32) σ r46h) rfl lmRX10_73 (ci := 10) rfl tM_0 eM_0 rfl (Nat.le_of_ble_eq_true rfl) dX10_apartOf_238 rfl (st2 := [.int r46, .long (σ.2 2 v5.toNatClampNeg)]) rfl (pc2 := 241) rfl ?_
      refine kg_ineg dX10_apartOf_241 (pc2 := 242) rfl ?_
      refine kg_goto 252 dX10_apartOf_242 rfl ?_
      refine kg_sub [1, 2, 3, 4, 0] (lv2 := [(0, .ref 0), (1, .int v1), (3, .int v3), (4, .int v4), (6, .int t0)]) rfl ?_
      exact gjX10_apartOf_252_L119 v1 v3 v4 t0 (-r46) (σ.2 2 v5.toNatClampNeg) σ h hk
  · replace h := (if_pos q36).symm.trans h
    refine kg_goto 278 dX10_apartOf_214 rfl ?_
    obtain ⟨x47, x47e, h⟩ := kw_let_e h
    refine kg_iinc 4 dX10_apartOf_278 rfl (Nat.le_of_ble_eq_true rfl) x47e (lv2 := [(4, .int x47), (6, .int t0), (0, .ref 0), (1, .int v1), (3, .int v3), (5, .int v5)]) rfl (pc2 := 281) rfl ?_
    refine kg_goto 119 dX10_apartOf_281 rfl ?_
    refine kg_sub [2, 3, 4, 0] (lv2 := [(0, .ref 0), (1, .int v1), (3, .int v3), (4, .int x47)]) rfl ?_
    cases h
    exact hk
set_option maxHeartbeats 4000000 in
set_option maxRecDepth 100000 in
theorem gjX10_apartOf_169_L119 {E : kw_E} {d : Nat} (v1 : Int32) (v3 : Int32) (v4 : Int32) (t0 : Int32) (σ : kw_M) {v : Option Value} {σ2 : kw_M} {o : (Int32 × kw_M) ⊕ (kw_M)} (h : jX10_apartOf_169_L119 v1 v3 v4 t0 σ = some o) (hk : Sum.elim (fun s => kw_G E kwTM 21 (d + 5) μX10_apartOf 119 [(0, .ref 0), (1, .int v1), (3, .int v3), (4, .int s.1)] [] s.2 v σ2) (fun y => kw_G E kwTM 21 (d + 5) μX10_apartOf 284 [(0, .ref 0), (1, .int v1), (3, .int v3)] [] y v σ2) o) : kw_G E kwTM 21 (d + 5) μX10_apartOf 169 [(0, .ref 0), (1, .int v1), (3, .int v3), (4, .int v4)] [.int t0] σ v σ2 := by
  unfold jX10_apartOf_169_L119 at h
  refine kg_istore dX10_apartOf_169 (Nat.le_of_ble_eq_true rfl) rfl (lv2 := [(5, .int t0), (0, .ref 0), (1, .int v1), (3, .int v3), (4, .int v4)]) rfl (pc2 := 171) rfl ?_
  refine kg_aload_n 1 dX10_apartOf_171 rfl (pc2 := 172) rfl ?_
  refine kg_getr clX10 rfl 26 (Nat.le_of_ble_eq_true rfl) lfRX10_57 tM_0 eM_0 rfl dX10_apartOf_172 (pc2 := 175) rfl ?_
  refine kg_iload 4 dX10_apartOf_175 rfl (pc2 := 177) rfl ?_
  obtain ⟨q32, h⟩ := kw_chk_e h
  refine kg_zald tM_16 eM_16 q32 (j := v4.toNatClampNeg) rfl dX10_apartOf_177 (pc2 := 178) rfl ?_
  refine kg_if_eq 191 dX10_apartOf_178 rfl (pc2 := 181) rfl (fun q33 => ?_) (fun q33 => ?_)
  · replace h := (if_pos q33).symm.trans h
    refine kg_aload_n 1 dX10_apartOf_191 rfl (pc2 := 192) rfl ?_
    refine kg_iload 4 dX10_apartOf_192 rfl (pc2 := 194) rfl ?_
    refine kg_iconst dX10_apartOf_194 ki_1 (pc2 := 195) rfl ?_
    obtain ⟨r34, r34h, h⟩ := kw_bind_e h
    refine kg_callV (μ := μX10_apartOf) (d := (d + 4)) rfl mVX10_of [.int v4, .int (1 : Int32)] [] (gX10_of (E := E) (d := (d + 4)) v4 (1 : Int32) σ r34h) rfl lmRX10_73 (ci := 10) rfl tM_0 eM_0 rfl (Nat.le_of_ble_eq_true rfl) dX10_apartOf_195 rfl (st2 := [.int r34]) rfl (pc2 := 198) rfl ?_
    refine kg_sub [1, 2, 3, 4, 0] (lv2 := [(0, .ref 0), (1, .int v1), (3, .int v3), (4, .int v4), (5, .int t0)]) rfl ?_
    exact gjX10_apartOf_198_L119 v1 v3 v4 t0 r34 σ h hk
  · replace h := (if_neg q33).symm.trans h
    refine kg_aload_n 1 dX10_apartOf_181 rfl (pc2 := 182) rfl ?_
    refine kg_iload 4 dX10_apartOf_182 rfl (pc2 := 184) rfl ?_
    refine kg_iconst dX10_apartOf_184 ki_0 (pc2 := 185) rfl ?_
    obtain ⟨r48, r48h, h⟩ := kw_bind_e h
    refine kg_callV (μ := μX10_apartOf) (d := (d + 4)) rfl mVX10_of [.int v4, .int (0 : Int32)] [] (gX10_of (E := E) (d := (d + 4)) v4 (0 : Int32) σ r48h) rfl lmRX10_73 (ci := 10) rfl tM_0 eM_0 rfl (Nat.le_of_ble_eq_true rfl) dX10_apartOf_185 rfl (st2 := [.int r48]) rfl (pc2 := 188) rfl ?_
    refine kg_goto 198 dX10_apartOf_188 rfl ?_
    refine kg_sub [1, 2, 3, 4, 0] (lv2 := [(0, .ref 0), (1, .int v1), (3, .int v3), (4, .int v4), (5, .int t0)]) rfl ?_
    exact gjX10_apartOf_198_L119 v1 v3 v4 t0 r48 σ h hk
set_option maxHeartbeats 4000000 in
set_option maxRecDepth 100000 in
theorem lX10_apartOf_119 {E : kw_E} {d : Nat} (v1 : Int32) (v3 : Int32) (v4 : Int32) (σ : kw_M) {v : Option Value} {σ2 : kw_M} {o : (Int32 × kw_M) ⊕ (kw_M)} (h : bX10_apartOf_119 v1 v3 v4 σ = some o) (hk : Sum.elim (fun s => kw_G E kwTM 21 (d + 5) μX10_apartOf 119 [(0, .ref 0), (1, .int v1), (3, .int v3), (4, .int s.1)] [] s.2 v σ2) (fun y => kw_G E kwTM 21 (d + 5) μX10_apartOf 284 [(0, .ref 0), (1, .int v1), (3, .int v3)] [] y v σ2) o) : kw_G E kwTM 21 (d + 5) μX10_apartOf 119 [(0, .ref 0), (1, .int v1), (3, .int v3), (4, .int v4)] [] σ v σ2 := by
  unfold bX10_apartOf_119 at h
  refine kg_iload 3 dX10_apartOf_119 rfl (pc2 := 121) rfl ?_
  refine kg_aload_n 0 dX10_apartOf_121 rfl (pc2 := 122) rfl ?_
  refine kg_getr clX10 rfl 0 (Nat.le_of_ble_eq_true rfl) lfRX10_7 tM_0 eM_0 rfl dX10_apartOf_122 (pc2 := 125) rfl ?_
  refine kg_iconst dX10_apartOf_125 ki_1 (pc2 := 126) rfl ?_
  refine kg_iald tM_1 eM_1 (show kw_in (1 : Int32) 2832 by decide) (j := 1) (by decide) dX10_apartOf_126 (pc2 := 127) rfl ?_
  refine kg_icmp_ge 284 dX10_apartOf_127 rfl (pc2 := 130) rfl (fun q26 => ?_) (fun q26 => ?_)
  · replace h := (if_pos q26).symm.trans h
    refine kg_sub [0, 1, 2] (lv2 := [(0, .ref 0), (1, .int v1), (3, .int v3)]) rfl ?_
    cases h
    exact hk
  · replace h := (if_neg q26).symm.trans h
    refine kg_aload_n 0 dX10_apartOf_130 rfl (pc2 := 131) rfl ?_
    refine kg_iload 3 dX10_apartOf_131 rfl (pc2 := 133) rfl ?_
    obtain ⟨r27, r27h, h⟩ := kw_bind_e h
    refine kg_callV (μ := μX10_apartOf) (d := (d + 4)) rfl mVX10_isOpen [.int v4] [] (gX10_isOpen (E := E) (d := (d + 3)) v4 σ r27h) rfl lmRX10_91 (ci := 10) rfl tM_0 eM_0 rfl (Nat.le_of_ble_eq_true rfl) dX10_apartOf_133 rfl (st2 := [.int r27]) rfl (pc2 := 136) rfl ?_
    refine kg_if_ne 142 dX10_apartOf_136 rfl (pc2 := 139) rfl (fun q28 => ?_) (fun q28 => ?_)
    · replace h := (if_neg q28).symm.trans h
      refine kg_aload_n 0 dX10_apartOf_142 rfl (pc2 := 143) rfl ?_
      refine kg_getr clX10 rfl 26 (Nat.le_of_ble_eq_true rfl) lfRX10_57 tM_0 eM_0 rfl dX10_apartOf_143 (pc2 := 146) rfl ?_
      refine kg_iload 3 dX10_apartOf_146 rfl (pc2 := 148) rfl ?_
      obtain ⟨q29, h⟩ := kw_chk_e h
      refine kg_zald tM_16 eM_16 q29 (j := v4.toNatClampNeg) rfl dX10_apartOf_148 (pc2 := 149) rfl ?_
      refine kg_if_eq 162 dX10_apartOf_149 rfl (pc2 := 152) rfl (fun q30 => ?_) (fun q30 => ?_)
      · replace h := (if_pos q30).symm.trans h
        refine kg_aload_n 0 dX10_apartOf_162 rfl (pc2 := 163) rfl ?_
        refine kg_iload 3 dX10_apartOf_163 rfl (pc2 := 165) rfl ?_
        refine kg_iconst dX10_apartOf_165 ki_0 (pc2 := 166) rfl ?_
        obtain ⟨r31, r31h, h⟩ := kw_bind_e h
        refine kg_callV (μ := μX10_apartOf) (d := (d + 4)) rfl mVX10_of [.int v4, .int (0 : Int32)] [] (gX10_of (E := E) (d := (d + 4)) v4 (0 : Int32) σ r31h) rfl lmRX10_73 (ci := 10) rfl tM_0 eM_0 rfl (Nat.le_of_ble_eq_true rfl) dX10_apartOf_166 rfl (st2 := [.int r31]) rfl (pc2 := 169) rfl ?_
        exact gjX10_apartOf_169_L119 v1 v3 v4 r31 σ h hk
      · replace h := (if_neg q30).symm.trans h
        refine kg_aload_n 0 dX10_apartOf_152 rfl (pc2 := 153) rfl ?_
        refine kg_iload 3 dX10_apartOf_153 rfl (pc2 := 155) rfl ?_
        refine kg_iconst dX10_apartOf_155 ki_1 (pc2 := 156) rfl ?_
        obtain ⟨r49, r49h, h⟩ := kw_bind_e h
        refine kg_callV (μ := μX10_apartOf) (d := (d + 4)) rfl mVX10_of [.int v4, .int (1 : Int32)] [] (gX10_of (E := E) (d := (d + 4)) v4 (1 : Int32) σ r49h) rfl lmRX10_73 (ci := 10) rfl tM_0 eM_0 rfl (Nat.le_of_ble_eq_true rfl) dX10_apartOf_156 rfl (st2 := [.int r49]) rfl (pc2 := 159) rfl ?_
        refine kg_goto 169 dX10_apartOf_159 rfl ?_
        exact gjX10_apartOf_169_L119 v1 v3 v4 r49 σ h hk
    · replace h := (if_pos q28).symm.trans h
      refine kg_goto 278 dX10_apartOf_139 rfl ?_
      obtain ⟨x50, x50e, h⟩ := kw_let_e h
      refine kg_iinc 3 dX10_apartOf_278 rfl (Nat.le_of_ble_eq_true rfl) x50e (lv2 := [(4, .int x50), (0, .ref 0), (1, .int v1), (3, .int v3)]) rfl (pc2 := 281) rfl ?_
      refine kg_goto 119 dX10_apartOf_281 rfl ?_
      refine kg_sub [1, 2, 3, 0] (lv2 := [(0, .ref 0), (1, .int v1), (3, .int v3), (4, .int x50)]) rfl ?_
      cases h
      exact hk
set_option maxHeartbeats 4000000 in
set_option maxRecDepth 100000 in
theorem lX10_apartOf_106 {E : kw_E} {d : Nat} (v1 : Int32) (v3 : Int32) (σ : kw_M) {v : Option Value} {σ2 : kw_M} {o : (Int32 × kw_M) ⊕ (kw_M)} (h : bX10_apartOf_106 v1 v3 σ = some o) (hk : Sum.elim (fun s => kw_G E kwTM 21 (d + 5) μX10_apartOf 106 [(0, .ref 0), (1, .int v1), (3, .int s.1)] [] s.2 v σ2) (fun y => kw_G E kwTM 21 (d + 5) μX10_apartOf 290 [(0, .ref 0), (1, .int v1)] [] y v σ2) o) : kw_G E kwTM 21 (d + 5) μX10_apartOf 106 [(0, .ref 0), (1, .int v1), (3, .int v3)] [] σ v σ2 := by
  unfold bX10_apartOf_106 at h
  refine kg_iload_n 2 dX10_apartOf_106 rfl (pc2 := 107) rfl ?_
  refine kg_iconst dX10_apartOf_107 ki_2 (pc2 := 108) rfl ?_
  refine kg_aload_n 0 dX10_apartOf_108 rfl (pc2 := 109) rfl ?_
  obtain ⟨r24, r24h, h⟩ := kw_bind_e h
  refine kg_callV (μ := μX10_apartOf) (d := (d + 4)) rfl mVX10_towns [] [.int (2 : Int32), .int v3] (gX10_towns (E := E) (d := (d + 4)) σ r24h) rfl lmRX10_77 (ci := 10) rfl tM_0 eM_0 rfl (Nat.le_of_ble_eq_true rfl) dX10_apartOf_109 rfl (st2 := [.int r24, .int (2 : Int32), .int v3]) rfl (pc2 := 112) rfl ?_
  refine kg_imul dX10_apartOf_112 (pc2 := 113) rfl ?_
  refine kg_icmp_ge 290 dX10_apartOf_113 rfl (pc2 := 116) rfl (fun q25 => ?_) (fun q25 => ?_)
  · replace h := (if_pos q25).symm.trans h
    refine kg_sub [0, 1] (lv2 := [(0, .ref 0), (1, .int v1)]) rfl ?_
    cases h
    exact hk
  · replace h := (if_neg q25).symm.trans h
    refine kg_iconst dX10_apartOf_116 ki_0 (pc2 := 117) rfl ?_
    refine kg_istore dX10_apartOf_117 (Nat.le_of_ble_eq_true rfl) rfl (lv2 := [(4, .int (0 : Int32)), (0, .ref 0), (1, .int v1), (3, .int v3)]) rfl (pc2 := 119) rfl ?_
    refine kg_sub [1, 2, 3, 0] (lv2 := [(0, .ref 0), (1, .int v1), (3, .int v3), (4, .int (0 : Int32))]) rfl ?_
    obtain ⟨x51, x51h, h⟩ := kw_bind_e h
    refine kw_loop_e (P := fun s => kw_G E kwTM 21 (d + 5) μX10_apartOf 119 [(0, .ref 0), (1, .int v1), (3, .int v3), (4, .int s.1)] [] s.2 v σ2) (K := fun y => kw_G E kwTM 21 (d + 5) μX10_apartOf 284 [(0, .ref 0), (1, .int v1), (3, .int v3)] [] y v σ2) (fun s o h0 hk => lX10_apartOf_119 v1 v3 s.1 s.2 h0 hk) kw_F _ _ x51h ?_
    show kw_G E kwTM 21 (d + 5) μX10_apartOf 284 [(0, .ref 0), (1, .int v1), (3, .int v3)] [] x51 v σ2
    obtain ⟨x52, x52e, h⟩ := kw_let_e h
    refine kg_iinc 2 dX10_apartOf_284 rfl (Nat.le_of_ble_eq_true rfl) x52e (lv2 := [(3, .int x52), (0, .ref 0), (1, .int v1)]) rfl (pc2 := 287) rfl ?_
    refine kg_goto 106 dX10_apartOf_287 rfl ?_
    refine kg_sub [1, 2, 0] (lv2 := [(0, .ref 0), (1, .int v1), (3, .int x52)]) rfl ?_
    cases h
    exact hk
set_option maxHeartbeats 4000000 in
set_option maxRecDepth 100000 in
theorem gX10_apartOf {E : kw_E} {d : Nat} (a1 : Int32) (σ : kw_M) {r : Int64 × kw_M} (h : fX10_apartOf a1 σ = some r) : kw_Met E kwTM 21 (d + 5) μX10_apartOf [.ref 0, .int a1] σ (some (Value.long r.1)) r.2 := by
  refine kw_enter plRX10 (Nat.le_of_ble_eq_true rfl) ?_
  show kw_G E kwTM 21 (d + 5) μX10_apartOf 0 [(0, .ref 0), (1, .int a1)] [] σ (some (Value.long r.1)) r.2
  unfold fX10_apartOf at h
  refine kg_aload_n 0 dX10_apartOf_0 rfl (pc2 := 1) rfl ?_
  refine kg_iload_n 1 dX10_apartOf_1 rfl (pc2 := 2) rfl ?_
  obtain ⟨r1, r1h, h⟩ := kw_bind_e h
  refine kg_callV (μ := μX10_apartOf) (d := (d + 4)) rfl mVX10_goesBack [.int a1] [] (gX10_goesBack (E := E) (d := d) a1 σ r1h) rfl lmRX10_315 (ci := 10) rfl tM_0 eM_0 rfl (Nat.le_of_ble_eq_true rfl) dX10_apartOf_2 rfl (st2 := [.int r1.1]) rfl (pc2 := 5) rfl ?_
  refine kg_istore_n dX10_apartOf_5 rfl (Nat.le_of_ble_eq_true rfl) rfl (lv2 := [(2, .int r1.1), (0, .ref 0), (1, .int a1)]) rfl (pc2 := 6) rfl ?_
  refine kg_iload_n 0 dX10_apartOf_6 rfl (pc2 := 7) rfl ?_
  refine kg_iconst dX10_apartOf_7 ki_m1 (pc2 := 8) rfl ?_
  refine kg_icmp_ne 15 dX10_apartOf_8 rfl (pc2 := 11) rfl (fun q2 => ?_) (fun q2 => ?_)
  · replace h := (if_neg q2).symm.trans h
    refine kg_iload_n 0 dX10_apartOf_15 rfl (pc2 := 16) rfl ?_
    refine kg_if_ne 21 dX10_apartOf_16 rfl (pc2 := 19) rfl (fun q3 => ?_) (fun q3 => ?_)
    · replace h := (if_neg q3).symm.trans h
      refine kg_iconst dX10_apartOf_21 ki_0 (pc2 := 22) rfl ?_
      refine kg_istore_n dX10_apartOf_22 rfl (Nat.le_of_ble_eq_true rfl) rfl (lv2 := [(3, .int (0 : Int32)), (2, .int r1.1), (0, .ref 0), (1, .int a1)]) rfl (pc2 := 23) rfl ?_
      refine kg_sub [2, 3, 1, 0] (lv2 := [(0, .ref 0), (1, .int a1), (2, .int r1.1), (3, .int (0 : Int32))]) rfl ?_
      obtain ⟨x8, x8h, h⟩ := kw_bind_e h
      refine kw_loop_e (P := fun s => kw_G E kwTM 21 (d + 5) μX10_apartOf 23 [(0, .ref 0), (1, .int a1), (2, .int r1.1), (3, .int s.1)] [] s.2 (some (Value.long r.1)) r.2) (K := fun y => kw_G E kwTM 21 (d + 5) μX10_apartOf 42 [(0, .ref 0), (1, .int a1), (2, .int r1.1)] [] y (some (Value.long r.1)) r.2) (fun s o h0 hk => lX10_apartOf_23 a1 r1.1 s.1 s.2 h0 hk) kw_F _ _ x8h ?_
      show kw_G E kwTM 21 (d + 5) μX10_apartOf 42 [(0, .ref 0), (1, .int a1), (2, .int r1.1)] [] x8 (some (Value.long r.1)) r.2
      refine kg_iconst dX10_apartOf_42 ki_0 (pc2 := 43) rfl ?_
      refine kg_istore_n dX10_apartOf_43 rfl (Nat.le_of_ble_eq_true rfl) rfl (lv2 := [(3, .int (0 : Int32)), (0, .ref 0), (1, .int a1), (2, .int r1.1)]) rfl (pc2 := 44) rfl ?_
      refine kg_sub [1, 2, 3, 0] (lv2 := [(0, .ref 0), (1, .int a1), (2, .int r1.1), (3, .int (0 : Int32))]) rfl ?_
      obtain ⟨x14, x14h, h⟩ := kw_bind_e h
      refine kw_loop_e (P := fun s => kw_G E kwTM 21 (d + 5) μX10_apartOf 44 [(0, .ref 0), (1, .int a1), (2, .int r1.1), (3, .int s.1)] [] s.2 (some (Value.long r.1)) r.2) (K := fun y => kw_G E kwTM 21 (d + 5) μX10_apartOf 67 [(0, .ref 0), (1, .int a1)] [] y (some (Value.long r.1)) r.2) (fun s o h0 hk => lX10_apartOf_44 a1 r1.1 s.1 s.2 h0 hk) kw_F _ _ x14h ?_
      show kw_G E kwTM 21 (d + 5) μX10_apartOf 67 [(0, .ref 0), (1, .int a1)] [] x14 (some (Value.long r.1)) r.2
      refine kg_iconst dX10_apartOf_67 ki_0 (pc2 := 68) rfl ?_
      refine kg_istore_n dX10_apartOf_68 rfl (Nat.le_of_ble_eq_true rfl) rfl (lv2 := [(3, .int (0 : Int32)), (0, .ref 0), (1, .int a1)]) rfl (pc2 := 69) rfl ?_
      refine kg_sub [1, 2, 0] (lv2 := [(0, .ref 0), (1, .int a1), (3, .int (0 : Int32))]) rfl ?_
      obtain ⟨x23, x23h, h⟩ := kw_bind_e h
      refine kw_loop_e (P := fun s => kw_G E kwTM 21 (d + 5) μX10_apartOf 69 [(0, .ref 0), (1, .int a1), (3, .int s.1)] [] s.2 (some (Value.long r.1)) r.2) (K := fun y => kw_G E kwTM 21 (d + 5) μX10_apartOf 104 [(0, .ref 0), (1, .int a1)] [] y (some (Value.long r.1)) r.2) (fun s o h0 hk => lX10_apartOf_69 a1 s.1 s.2 h0 hk) kw_F _ _ x23h ?_
      show kw_G E kwTM 21 (d + 5) μX10_apartOf 104 [(0, .ref 0), (1, .int a1)] [] x23 (some (Value.long r.1)) r.2
      refine kg_iconst dX10_apartOf_104 ki_1 (pc2 := 105) rfl ?_
      refine kg_istore_n dX10_apartOf_105 rfl (Nat.le_of_ble_eq_true rfl) rfl (lv2 := [(3, .int (1 : Int32)), (0, .ref 0), (1, .int a1)]) rfl (pc2 := 106) rfl ?_
      refine kg_sub [1, 2, 0] (lv2 := [(0, .ref 0), (1, .int a1), (3, .int (1 : Int32))]) rfl ?_
      obtain ⟨x53, x53h, h⟩ := kw_bind_e h
      refine kw_loop_e (P := fun s => kw_G E kwTM 21 (d + 5) μX10_apartOf 106 [(0, .ref 0), (1, .int a1), (3, .int s.1)] [] s.2 (some (Value.long r.1)) r.2) (K := fun y => kw_G E kwTM 21 (d + 5) μX10_apartOf 290 [(0, .ref 0), (1, .int a1)] [] y (some (Value.long r.1)) r.2) (fun s o h0 hk => lX10_apartOf_106 a1 s.1 s.2 h0 hk) kw_F _ _ x53h ?_
      show kw_G E kwTM 21 (d + 5) μX10_apartOf 290 [(0, .ref 0), (1, .int a1)] [] x53 (some (Value.long r.1)) r.2
      refine kg_aload_n 0 dX10_apartOf_290 rfl (pc2 := 291) rfl ?_
      refine kg_getr clX10 rfl 2 (Nat.le_of_ble_eq_true rfl) lfRX10_13 tM_0 eM_0 rfl dX10_apartOf_291 (pc2 := 294) rfl ?_
      refine kg_iload_n 1 dX10_apartOf_294 rfl (pc2 := 295) rfl ?_
      obtain ⟨q54, h⟩ := kw_chk_e h
      refine kg_lald tM_2 eM_2 q54 (j := a1.toNatClampNeg) rfl dX10_apartOf_295 (pc2 := 296) rfl ?_
      refine kg_ldc2 rfl lcRX10_89 dX10_apartOf_296 (pc2 := 299) rfl ?_
      refine kg_lcmp_ne 309 dX10_apartOf_299 dX10_apartOf_300 rfl (pc2 := 303) rfl (fun q55 => ?_) (fun q55 => ?_)
      · replace h := (if_neg q55).symm.trans h
        refine kg_aload_n 0 dX10_apartOf_309 rfl (pc2 := 310) rfl ?_
        refine kg_getr clX10 rfl 3 (Nat.le_of_ble_eq_true rfl) lfRX10_17 tM_0 eM_0 rfl dX10_apartOf_310 (pc2 := 313) rfl ?_
        refine kg_iload_n 1 dX10_apartOf_313 rfl (pc2 := 314) rfl ?_
        refine kg_lald tM_3 eM_3 q54 (j := a1.toNatClampNeg) rfl dX10_apartOf_314 (pc2 := 315) rfl ?_
        refine kg_aload_n 0 dX10_apartOf_315 rfl (pc2 := 316) rfl ?_
        refine kg_getr clX10 rfl 2 (Nat.le_of_ble_eq_true rfl) lfRX10_13 tM_0 eM_0 rfl dX10_apartOf_316 (pc2 := 319) rfl ?_
        refine kg_iload_n 1 dX10_apartOf_319 rfl (pc2 := 320) rfl ?_
        refine kg_lald tM_2 eM_2 q54 (j := a1.toNatClampNeg) rfl dX10_apartOf_320 (pc2 := 321) rfl ?_
        refine kg_ladd dX10_apartOf_321 (pc2 := 322) rfl ?_
        cases h
        exact kg_lret dX10_apartOf_322 rfl
      · replace h := (if_pos q55).symm.trans h
        refine kg_ldc2 rfl lcRX10_89 dX10_apartOf_303 (pc2 := 306) rfl ?_
        refine kg_goto 322 dX10_apartOf_306 rfl ?_
        cases h
        exact kg_lret dX10_apartOf_322 rfl
    · replace h := (if_pos q3).symm.trans h
      refine kg_lconst dX10_apartOf_19 kl_0 (pc2 := 20) rfl ?_
      cases h
      exact kg_lret dX10_apartOf_20 rfl
  · replace h := (if_pos q2).symm.trans h
    refine kg_ldc2 rfl lcRX10_89 dX10_apartOf_11 (pc2 := 14) rfl ?_
    cases h
    exact kg_lret dX10_apartOf_14 rfl
