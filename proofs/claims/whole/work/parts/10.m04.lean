/-! The reference, method by method: what it computes (f), and that the machine does so (g). -/
def fX10_watch (a1 : Int32) (a2 : Int32) (σ : kw_M) : Option (Int32 × kw_M) :=
 (fX10_isTown a1 σ).bind fun r1 =>
 if r1 = (0 : Int32) then
 (some ((-1 : Int32), σ))
 else
 (fX10_isLength a2.toInt64 σ).bind fun r3 =>
 if r3 = (0 : Int32) then
 (some ((-1 : Int32), σ))
 else
 (fX10_settles σ).bind fun r5 =>
 kw_let ((172 : Int32) + ((3 : Int32) * a1)) fun x6 =>
 kw_chk (kw_in x6 2832) <|
 kw_let (kw_si r5 1 x6.toNatClampNeg (1 : Int32)) fun s8 =>
 kw_chk (kw_in (x6 + (1 : Int32)) 2832) <|
 kw_let (kw_si s8 1 (x6 + (1 : Int32)).toNatClampNeg a2) fun s10 =>
 (fX10_isBeyond a1 s10).bind fun r11 =>
 if r11 = (0 : Int32) then
 (kw_chk (kw_in (x6 + (2 : Int32)) 2832) <|
 kw_let (kw_si s10 1 (x6 + (2 : Int32)).toNatClampNeg (0 : Int32)) fun s14 =>
 some ((s14.1 1 (x6 + (2 : Int32)).toNatClampNeg), s14))
 else
 kw_chk (kw_in (x6 + (2 : Int32)) 2832) <|
 kw_let (kw_si s10 1 (x6 + (2 : Int32)).toNatClampNeg (1 : Int32)) fun s16 =>
 some ((s16.1 1 (x6 + (2 : Int32)).toNatClampNeg), s16)
set_option maxHeartbeats 4000000 in
set_option maxRecDepth 100000 in
theorem gX10_watch {E : kw_E} {d : Nat} (a1 : Int32) (a2 : Int32) (σ : kw_M) {r : Int32 × kw_M} (h : fX10_watch a1 a2 σ = some r) : kw_Met E kwTM 21 (d + 4) μX10_watch [.ref 0, .int a1, .int a2] σ (some (Value.int r.1)) r.2 := by
  refine kw_enter plRX10 (Nat.le_of_ble_eq_true rfl) ?_
  show kw_G E kwTM 21 (d + 4) μX10_watch 0 [(0, .ref 0), (1, .int a1), (2, .int a2)] [] σ (some (Value.int r.1)) r.2
  unfold fX10_watch at h
  refine kg_aload_n 0 dX10_watch_0 rfl (pc2 := 1) rfl ?_
  refine kg_iload_n 1 dX10_watch_1 rfl (pc2 := 2) rfl ?_
  obtain ⟨r1, r1h, h⟩ := kw_bind_e h
  refine kg_callV (μ := μX10_watch) (d := (d + 3)) rfl mVX10_isTown [.int a1] [] (gX10_isTown (E := E) (d := (d + 2)) a1 σ r1h) rfl lmRX10_121 (ci := 10) rfl tM_0 eM_0 rfl (Nat.le_of_ble_eq_true rfl) dX10_watch_2 rfl (st2 := [.int r1]) rfl (pc2 := 5) rfl ?_
  refine kg_if_eq 16 dX10_watch_5 rfl (pc2 := 8) rfl (fun q2 => ?_) (fun q2 => ?_)
  · replace h := (if_pos q2).symm.trans h
    refine kg_iconst dX10_watch_16 ki_m1 (pc2 := 17) rfl ?_
    cases h
    exact kg_iret (ty := .int) dX10_watch_17 rfl rfl
  · replace h := (if_neg q2).symm.trans h
    refine kg_iload_n 2 dX10_watch_8 rfl (pc2 := 9) rfl ?_
    refine kg_i2l dX10_watch_9 (pc2 := 10) rfl ?_
    obtain ⟨r3, r3h, h⟩ := kw_bind_e h
    refine kg_callS (μ := μX10_watch) (d := (d + 3)) rfl mSX10_isLength [.long a2.toInt64] [] (gX10_isLength (E := E) (d := (d + 2)) a2.toInt64 σ r3h) rfl lmRX10_124 rfl (Nat.le_of_ble_eq_true rfl) dX10_watch_10 rfl (st2 := [.int r3]) rfl (pc2 := 13) rfl ?_
    refine kg_if_ne 18 dX10_watch_13 rfl (pc2 := 16) rfl (fun q4 => ?_) (fun q4 => ?_)
    · replace h := (if_neg q4).symm.trans h
      refine kg_aload_n 0 dX10_watch_18 rfl (pc2 := 19) rfl ?_
      obtain ⟨r5, r5h, h⟩ := kw_bind_e h
      refine kg_callV (μ := μX10_watch) (d := (d + 3)) rfl mVX10_settles [] [] (gX10_settles (E := E) (d := d) σ r5h) rfl lmRX10_104 (ci := 10) rfl tM_0 eM_0 rfl (Nat.le_of_ble_eq_true rfl) dX10_watch_19 rfl (st2 := []) rfl (pc2 := 22) rfl ?_
      refine kg_sipush dX10_watch_22 ks_172 (pc2 := 25) rfl ?_
      refine kg_iconst dX10_watch_25 ki_3 (pc2 := 26) rfl ?_
      refine kg_iload_n 1 dX10_watch_26 rfl (pc2 := 27) rfl ?_
      refine kg_imul dX10_watch_27 (pc2 := 28) rfl ?_
      refine kg_iadd dX10_watch_28 (pc2 := 29) rfl ?_
      obtain ⟨x6, x6e, h⟩ := kw_let_e h
      refine kg_istore_n dX10_watch_29 rfl (Nat.le_of_ble_eq_true rfl) x6e (lv2 := [(3, .int x6), (0, .ref 0), (1, .int a1), (2, .int a2)]) rfl (pc2 := 30) rfl ?_
      refine kg_aload_n 1 dX10_watch_30 rfl (pc2 := 31) rfl ?_
      refine kg_getr clX10 rfl 0 (Nat.le_of_ble_eq_true rfl) lfRX10_7 tM_0 eM_0 rfl dX10_watch_31 (pc2 := 34) rfl ?_
      refine kg_iload_n 0 dX10_watch_34 rfl (pc2 := 35) rfl ?_
      refine kg_iconst dX10_watch_35 ki_1 (pc2 := 36) rfl ?_
      obtain ⟨q7, h⟩ := kw_chk_e h
      obtain ⟨s8, s8e, h⟩ := kw_let_e h
      refine kg_iast tM_1 eM_1 q7 (j := x6.toNatClampNeg) rfl s8e dX10_watch_36 (pc2 := 37) rfl ?_
      refine kg_aload_n 1 dX10_watch_37 rfl (pc2 := 38) rfl ?_
      refine kg_getr clX10 rfl 0 (Nat.le_of_ble_eq_true rfl) lfRX10_7 tM_0 eM_0 rfl dX10_watch_38 (pc2 := 41) rfl ?_
      refine kg_iload_n 0 dX10_watch_41 rfl (pc2 := 42) rfl ?_
      refine kg_iconst dX10_watch_42 ki_1 (pc2 := 43) rfl ?_
      refine kg_iadd dX10_watch_43 (pc2 := 44) rfl ?_
      refine kg_iload_n 3 dX10_watch_44 rfl (pc2 := 45) rfl ?_
      obtain ⟨q9, h⟩ := kw_chk_e h
      obtain ⟨s10, s10e, h⟩ := kw_let_e h
      refine kg_iast tM_1 eM_1 q9 (j := (x6 + (1 : Int32)).toNatClampNeg) rfl s10e dX10_watch_45 (pc2 := 46) rfl ?_
      refine kg_aload_n 1 dX10_watch_46 rfl (pc2 := 47) rfl ?_
      refine kg_getr clX10 rfl 0 (Nat.le_of_ble_eq_true rfl) lfRX10_7 tM_0 eM_0 rfl dX10_watch_47 (pc2 := 50) rfl ?_
      refine kg_iload_n 0 dX10_watch_50 rfl (pc2 := 51) rfl ?_
      refine kg_iconst dX10_watch_51 ki_2 (pc2 := 52) rfl ?_
      refine kg_iadd dX10_watch_52 (pc2 := 53) rfl ?_
      refine kg_aload_n 1 dX10_watch_53 rfl (pc2 := 54) rfl ?_
      refine kg_iload_n 2 dX10_watch_54 rfl (pc2 := 55) rfl ?_
      obtain ⟨r11, r11h, h⟩ := kw_bind_e h
      refine kg_callV (μ := μX10_watch) (d := (d + 3)) rfl mVX10_isBeyond [.int a1] [.int (x6 + (2 : Int32)), .ref 1] (gX10_isBeyond (E := E) (d := (d + 3)) a1 s10 r11h) rfl lmRX10_101 (ci := 10) rfl tM_0 eM_0 rfl (Nat.le_of_ble_eq_true rfl) dX10_watch_55 rfl (st2 := [.int r11, .int (x6 + (2 : Int32)), .ref 1]) rfl (pc2 := 58) rfl ?_
      refine kg_if_eq 65 dX10_watch_58 rfl (pc2 := 61) rfl (fun q12 => ?_) (fun q12 => ?_)
      · replace h := (if_pos q12).symm.trans h
        refine kg_iconst dX10_watch_65 ki_0 (pc2 := 66) rfl ?_
        obtain ⟨q13, h⟩ := kw_chk_e h
        obtain ⟨s14, s14e, h⟩ := kw_let_e h
        refine kg_iast tM_1 eM_1 q13 (j := (x6 + (2 : Int32)).toNatClampNeg) rfl s14e dX10_watch_66 (pc2 := 67) rfl ?_
        refine kg_aload_n 1 dX10_watch_67 rfl (pc2 := 68) rfl ?_
        refine kg_getr clX10 rfl 0 (Nat.le_of_ble_eq_true rfl) lfRX10_7 tM_0 eM_0 rfl dX10_watch_68 (pc2 := 71) rfl ?_
        refine kg_iload_n 0 dX10_watch_71 rfl (pc2 := 72) rfl ?_
        refine kg_iconst dX10_watch_72 ki_2 (pc2 := 73) rfl ?_
        refine kg_iadd dX10_watch_73 (pc2 := 74) rfl ?_
        refine kg_iald tM_1 eM_1 q13 (j := (x6 + (2 : Int32)).toNatClampNeg) rfl dX10_watch_74 (pc2 := 75) rfl ?_
        cases h
        exact kg_iret (ty := .int) dX10_watch_75 rfl rfl
      · replace h := (if_neg q12).symm.trans h
        refine kg_iconst dX10_watch_61 ki_1 (pc2 := 62) rfl ?_
        refine kg_goto 66 dX10_watch_62 rfl ?_
        obtain ⟨q15, h⟩ := kw_chk_e h
        obtain ⟨s16, s16e, h⟩ := kw_let_e h
        refine kg_iast tM_1 eM_1 q15 (j := (x6 + (2 : Int32)).toNatClampNeg) rfl s16e dX10_watch_66 (pc2 := 67) rfl ?_
        refine kg_aload_n 1 dX10_watch_67 rfl (pc2 := 68) rfl ?_
        refine kg_getr clX10 rfl 0 (Nat.le_of_ble_eq_true rfl) lfRX10_7 tM_0 eM_0 rfl dX10_watch_68 (pc2 := 71) rfl ?_
        refine kg_iload_n 0 dX10_watch_71 rfl (pc2 := 72) rfl ?_
        refine kg_iconst dX10_watch_72 ki_2 (pc2 := 73) rfl ?_
        refine kg_iadd dX10_watch_73 (pc2 := 74) rfl ?_
        refine kg_iald tM_1 eM_1 q15 (j := (x6 + (2 : Int32)).toNatClampNeg) rfl dX10_watch_74 (pc2 := 75) rfl ?_
        cases h
        exact kg_iret (ty := .int) dX10_watch_75 rfl rfl
    · replace h := (if_pos q4).symm.trans h
      refine kg_iconst dX10_watch_16 ki_m1 (pc2 := 17) rfl ?_
      cases h
      exact kg_iret (ty := .int) dX10_watch_17 rfl rfl
def bX10_forget_27 (v1 : Int32) (v2 : Int32) (σ : kw_M) : Option ((Int32 × kw_M) ⊕ (kw_M)) :=
 if (3 : Int32) ≤ v2 then
 (some (.inr σ))
 else
 kw_chk (kw_in (((172 : Int32) + ((3 : Int32) * v1)) + v2) 2832) <|
 kw_let (kw_si σ 1 (((172 : Int32) + ((3 : Int32) * v1)) + v2).toNatClampNeg (0 : Int32)) fun s7 =>
 kw_let (v2 + (1 : Int32)) fun x8 =>
 some (.inl (x8, s7))
set_option maxHeartbeats 4000000 in
set_option maxRecDepth 100000 in
theorem lX10_forget_27 {E : kw_E} {d : Nat} (v1 : Int32) (v2 : Int32) (σ : kw_M) {v : Option Value} {σ2 : kw_M} {o : (Int32 × kw_M) ⊕ (kw_M)} (h : bX10_forget_27 v1 v2 σ = some o) (hk : Sum.elim (fun s => kw_G E kwTM 21 (d + 2) μX10_forget 27 [(0, .ref 0), (1, .int v1), (2, .int s.1)] [] s.2 v σ2) (fun y => kw_G E kwTM 21 (d + 2) μX10_forget 53 [] [] y v σ2) o) : kw_G E kwTM 21 (d + 2) μX10_forget 27 [(0, .ref 0), (1, .int v1), (2, .int v2)] [] σ v σ2 := by
  unfold bX10_forget_27 at h
  refine kg_iload_n 2 dX10_forget_27 rfl (pc2 := 28) rfl ?_
  refine kg_iconst dX10_forget_28 ki_3 (pc2 := 29) rfl ?_
  refine kg_icmp_ge 53 dX10_forget_29 rfl (pc2 := 32) rfl (fun q5 => ?_) (fun q5 => ?_)
  · replace h := (if_pos q5).symm.trans h
    refine kg_sub [] (lv2 := []) rfl ?_
    cases h
    exact hk
  · replace h := (if_neg q5).symm.trans h
    refine kg_aload_n 0 dX10_forget_32 rfl (pc2 := 33) rfl ?_
    refine kg_getr clX10 rfl 0 (Nat.le_of_ble_eq_true rfl) lfRX10_7 tM_0 eM_0 rfl dX10_forget_33 (pc2 := 36) rfl ?_
    refine kg_sipush dX10_forget_36 ks_172 (pc2 := 39) rfl ?_
    refine kg_iconst dX10_forget_39 ki_3 (pc2 := 40) rfl ?_
    refine kg_iload_n 1 dX10_forget_40 rfl (pc2 := 41) rfl ?_
    refine kg_imul dX10_forget_41 (pc2 := 42) rfl ?_
    refine kg_iadd dX10_forget_42 (pc2 := 43) rfl ?_
    refine kg_iload_n 2 dX10_forget_43 rfl (pc2 := 44) rfl ?_
    refine kg_iadd dX10_forget_44 (pc2 := 45) rfl ?_
    refine kg_iconst dX10_forget_45 ki_0 (pc2 := 46) rfl ?_
    obtain ⟨q6, h⟩ := kw_chk_e h
    obtain ⟨s7, s7e, h⟩ := kw_let_e h
    refine kg_iast tM_1 eM_1 q6 (j := (((172 : Int32) + ((3 : Int32) * v1)) + v2).toNatClampNeg) rfl s7e dX10_forget_46 (pc2 := 47) rfl ?_
    obtain ⟨x8, x8e, h⟩ := kw_let_e h
    refine kg_iinc 2 dX10_forget_47 rfl (Nat.le_of_ble_eq_true rfl) x8e (lv2 := [(2, .int x8), (0, .ref 0), (1, .int v1)]) rfl (pc2 := 50) rfl ?_
    refine kg_goto 27 dX10_forget_50 rfl ?_
    refine kg_sub [1, 2, 0] (lv2 := [(0, .ref 0), (1, .int v1), (2, .int x8)]) rfl ?_
    cases h
    exact hk
def fX10_forget (a1 : Int32) (σ : kw_M) : Option (Int32 × kw_M) :=
 (fX10_isTown a1 σ).bind fun r1 =>
 if r1 = (0 : Int32) then
 (some ((0 : Int32), σ))
 else
 kw_chk (kw_in ((172 : Int32) + ((3 : Int32) * a1)) 2832) <|
 if (σ.1 1 ((172 : Int32) + ((3 : Int32) * a1)).toNatClampNeg) = (0 : Int32) then
 (some ((0 : Int32), σ))
 else
 (kw_loop (fun s => bX10_forget_27 a1 s.1 s.2) kw_F ((0 : Int32), σ)).bind fun x9 =>
 some ((1 : Int32), x9)
set_option maxHeartbeats 4000000 in
set_option maxRecDepth 100000 in
theorem gX10_forget {E : kw_E} {d : Nat} (a1 : Int32) (σ : kw_M) {r : Int32 × kw_M} (h : fX10_forget a1 σ = some r) : kw_Met E kwTM 21 (d + 2) μX10_forget [.ref 0, .int a1] σ (some (Value.int r.1)) r.2 := by
  refine kw_enter plRX10 (Nat.le_of_ble_eq_true rfl) ?_
  show kw_G E kwTM 21 (d + 2) μX10_forget 0 [(0, .ref 0), (1, .int a1)] [] σ (some (Value.int r.1)) r.2
  unfold fX10_forget at h
  refine kg_aload_n 0 dX10_forget_0 rfl (pc2 := 1) rfl ?_
  refine kg_iload_n 1 dX10_forget_1 rfl (pc2 := 2) rfl ?_
  obtain ⟨r1, r1h, h⟩ := kw_bind_e h
  refine kg_callV (μ := μX10_forget) (d := (d + 1)) rfl mVX10_isTown [.int a1] [] (gX10_isTown (E := E) (d := d) a1 σ r1h) rfl lmRX10_121 (ci := 10) rfl tM_0 eM_0 rfl (Nat.le_of_ble_eq_true rfl) dX10_forget_2 rfl (st2 := [.int r1]) rfl (pc2 := 5) rfl ?_
  refine kg_if_eq 23 dX10_forget_5 rfl (pc2 := 8) rfl (fun q2 => ?_) (fun q2 => ?_)
  · replace h := (if_pos q2).symm.trans h
    refine kg_iconst dX10_forget_23 ki_0 (pc2 := 24) rfl ?_
    cases h
    exact kg_iret (ty := .boolean) dX10_forget_24 rfl rfl
  · replace h := (if_neg q2).symm.trans h
    refine kg_aload_n 0 dX10_forget_8 rfl (pc2 := 9) rfl ?_
    refine kg_getr clX10 rfl 0 (Nat.le_of_ble_eq_true rfl) lfRX10_7 tM_0 eM_0 rfl dX10_forget_9 (pc2 := 12) rfl ?_
    refine kg_sipush dX10_forget_12 ks_172 (pc2 := 15) rfl ?_
    refine kg_iconst dX10_forget_15 ki_3 (pc2 := 16) rfl ?_
    refine kg_iload_n 1 dX10_forget_16 rfl (pc2 := 17) rfl ?_
    refine kg_imul dX10_forget_17 (pc2 := 18) rfl ?_
    refine kg_iadd dX10_forget_18 (pc2 := 19) rfl ?_
    obtain ⟨q3, h⟩ := kw_chk_e h
    refine kg_iald tM_1 eM_1 q3 (j := ((172 : Int32) + ((3 : Int32) * a1)).toNatClampNeg) rfl dX10_forget_19 (pc2 := 20) rfl ?_
    refine kg_if_ne 25 dX10_forget_20 rfl (pc2 := 23) rfl (fun q4 => ?_) (fun q4 => ?_)
    · replace h := (if_neg q4).symm.trans h
      refine kg_iconst dX10_forget_25 ki_0 (pc2 := 26) rfl ?_
      refine kg_istore_n dX10_forget_26 rfl (Nat.le_of_ble_eq_true rfl) rfl (lv2 := [(2, .int (0 : Int32)), (0, .ref 0), (1, .int a1)]) rfl (pc2 := 27) rfl ?_
      refine kg_sub [1, 2, 0] (lv2 := [(0, .ref 0), (1, .int a1), (2, .int (0 : Int32))]) rfl ?_
      obtain ⟨x9, x9h, h⟩ := kw_bind_e h
      refine kw_loop_e (P := fun s => kw_G E kwTM 21 (d + 2) μX10_forget 27 [(0, .ref 0), (1, .int a1), (2, .int s.1)] [] s.2 (some (Value.int r.1)) r.2) (K := fun y => kw_G E kwTM 21 (d + 2) μX10_forget 53 [] [] y (some (Value.int r.1)) r.2) (fun s o h0 hk => lX10_forget_27 a1 s.1 s.2 h0 hk) kw_F _ _ x9h ?_
      show kw_G E kwTM 21 (d + 2) μX10_forget 53 [] [] x9 (some (Value.int r.1)) r.2
      refine kg_iconst dX10_forget_53 ki_1 (pc2 := 54) rfl ?_
      cases h
      exact kg_iret (ty := .boolean) dX10_forget_54 rfl rfl
    · replace h := (if_pos q4).symm.trans h
      refine kg_iconst dX10_forget_23 ki_0 (pc2 := 24) rfl ?_
      cases h
      exact kg_iret (ty := .boolean) dX10_forget_24 rfl rfl
def fX10_does (a1 : Int32) (σ : kw_M) : Option (Int32 × kw_M) :=
 kw_chk (kw_in a1 24) <|
 kw_let (σ.2 6 a1.toNatClampNeg) fun x2 =>
 kw_chk (kw_in ((3 : Int32) * a1) 72) <|
 kw_let (σ.1 7 ((3 : Int32) * a1).toNatClampNeg) fun x4 =>
 kw_chk (kw_in (((3 : Int32) * a1) + (1 : Int32)) 72) <|
 kw_let (σ.1 7 (((3 : Int32) * a1) + (1 : Int32)).toNatClampNeg) fun x6 =>
 if x2 = (12345 : Int64) then
 (kw_chk (kw_in (((3 : Int32) * a1) + (2 : Int32)) 72) <|
 (fX10_lay x4 x6 (σ.1 7 (((3 : Int32) * a1) + (2 : Int32)).toNatClampNeg) σ).bind fun r26 =>
 if r26.1 < (0 : Int32) then
 (some ((0 : Int32), r26.2))
 else
 some ((1 : Int32), r26.2))
 else
 if x2 = (408362632 : Int64) then
 ((fX10_length x4 x6 σ).bind fun r23 =>
 if r23.1 < (0 : Int32) then
 (some ((0 : Int32), r23.2))
 else
 some ((1 : Int32), r23.2))
 else
 if x2 = (3554917 : Int64) then
 ((fX10_close x4 σ).bind fun r21 =>
 if r21.1 < (0 : Int32) then
 (some ((0 : Int32), r21.2))
 else
 some ((1 : Int32), r21.2))
 else
 if x2 = (508078 : Int64) then
 ((fX10_open x4 σ).bind fun r19 =>
 if r19.1 < (0 : Int32) then
 (some ((0 : Int32), r19.2))
 else
 some ((1 : Int32), r19.2))
 else
 if x2 = (522493230 : Int64) then
 ((fX10_origin x4 σ).bind fun r17 =>
 if r17.1 < (0 : Int32) then
 (some ((0 : Int32), r17.2))
 else
 some ((1 : Int32), r17.2))
 else
 if x2 = (24170600 : Int64) then
 ((fX10_watch x4 x6 σ).bind fun r15 =>
 if r15.1 < (0 : Int32) then
 (some ((0 : Int32), r15.2))
 else
 some ((1 : Int32), r15.2))
 else
 (fX10_forget x4 σ).bind fun r13 =>
 kw_chk (kw_isB r13.1) <| some (r13.1, r13.2)
set_option maxHeartbeats 4000000 in
set_option maxRecDepth 100000 in
theorem gX10_does {E : kw_E} {d : Nat} (a1 : Int32) (σ : kw_M) {r : Int32 × kw_M} (h : fX10_does a1 σ = some r) : kw_Met E kwTM 21 (d + 7) μX10_does [.ref 0, .int a1] σ (some (Value.int r.1)) r.2 := by
  refine kw_enter plRX10 (Nat.le_of_ble_eq_true rfl) ?_
  show kw_G E kwTM 21 (d + 7) μX10_does 0 [(0, .ref 0), (1, .int a1)] [] σ (some (Value.int r.1)) r.2
  unfold fX10_does at h
  refine kg_aload_n 0 dX10_does_0 rfl (pc2 := 1) rfl ?_
  refine kg_getr clX10 rfl 15 (Nat.le_of_ble_eq_true rfl) lfRX10_27 tM_0 eM_0 rfl dX10_does_1 (pc2 := 4) rfl ?_
  refine kg_iload_n 1 dX10_does_4 rfl (pc2 := 5) rfl ?_
  obtain ⟨q1, h⟩ := kw_chk_e h
  refine kg_lald tM_6 eM_6 q1 (j := a1.toNatClampNeg) rfl dX10_does_5 (pc2 := 6) rfl ?_
  obtain ⟨x2, x2e, h⟩ := kw_let_e h
  refine kg_lstore_n dX10_does_6 rfl (Nat.le_of_ble_eq_true rfl) x2e (lv2 := [(2, .long x2), (0, .ref 0), (1, .int a1)]) rfl (pc2 := 7) rfl ?_
  refine kg_aload_n 1 dX10_does_7 rfl (pc2 := 8) rfl ?_
  refine kg_getr clX10 rfl 16 (Nat.le_of_ble_eq_true rfl) lfRX10_30 tM_0 eM_0 rfl dX10_does_8 (pc2 := 11) rfl ?_
  refine kg_iconst dX10_does_11 ki_3 (pc2 := 12) rfl ?_
  refine kg_iload_n 2 dX10_does_12 rfl (pc2 := 13) rfl ?_
  refine kg_imul dX10_does_13 (pc2 := 14) rfl ?_
  obtain ⟨q3, h⟩ := kw_chk_e h
  refine kg_iald tM_7 eM_7 q3 (j := ((3 : Int32) * a1).toNatClampNeg) rfl dX10_does_14 (pc2 := 15) rfl ?_
  obtain ⟨x4, x4e, h⟩ := kw_let_e h
  refine kg_istore dX10_does_15 (Nat.le_of_ble_eq_true rfl) x4e (lv2 := [(4, .int x4), (2, .long x2), (0, .ref 0), (1, .int a1)]) rfl (pc2 := 17) rfl ?_
  refine kg_aload_n 2 dX10_does_17 rfl (pc2 := 18) rfl ?_
  refine kg_getr clX10 rfl 16 (Nat.le_of_ble_eq_true rfl) lfRX10_30 tM_0 eM_0 rfl dX10_does_18 (pc2 := 21) rfl ?_
  refine kg_iconst dX10_does_21 ki_3 (pc2 := 22) rfl ?_
  refine kg_iload_n 3 dX10_does_22 rfl (pc2 := 23) rfl ?_
  refine kg_imul dX10_does_23 (pc2 := 24) rfl ?_
  refine kg_iconst dX10_does_24 ki_1 (pc2 := 25) rfl ?_
  refine kg_iadd dX10_does_25 (pc2 := 26) rfl ?_
  obtain ⟨q5, h⟩ := kw_chk_e h
  refine kg_iald tM_7 eM_7 q5 (j := (((3 : Int32) * a1) + (1 : Int32)).toNatClampNeg) rfl dX10_does_26 (pc2 := 27) rfl ?_
  obtain ⟨x6, x6e, h⟩ := kw_let_e h
  refine kg_istore dX10_does_27 (Nat.le_of_ble_eq_true rfl) x6e (lv2 := [(5, .int x6), (4, .int x4), (2, .long x2), (0, .ref 0), (1, .int a1)]) rfl (pc2 := 29) rfl ?_
  refine kg_lload_n 2 dX10_does_29 rfl (pc2 := 30) rfl ?_
  refine kg_ldc2 rfl lcRX10_232 dX10_does_30 (pc2 := 33) rfl ?_
  refine kg_lcmp_ne 64 dX10_does_33 dX10_does_34 rfl (pc2 := 37) rfl (fun q7 => ?_) (fun q7 => ?_)
  · replace h := (if_neg q7).symm.trans h
    refine kg_lload_n 2 dX10_does_64 rfl (pc2 := 65) rfl ?_
    refine kg_ldc2 rfl lcRX10_234 dX10_does_65 (pc2 := 68) rfl ?_
    refine kg_lcmp_ne 89 dX10_does_68 dX10_does_69 rfl (pc2 := 72) rfl (fun q8 => ?_) (fun q8 => ?_)
    · replace h := (if_neg q8).symm.trans h
      refine kg_lload_n 2 dX10_does_89 rfl (pc2 := 90) rfl ?_
      refine kg_ldc2 rfl lcRX10_238 dX10_does_90 (pc2 := 93) rfl ?_
      refine kg_lcmp_ne 112 dX10_does_93 dX10_does_94 rfl (pc2 := 97) rfl (fun q9 => ?_) (fun q9 => ?_)
      · replace h := (if_neg q9).symm.trans h
        refine kg_lload_n 2 dX10_does_112 rfl (pc2 := 113) rfl ?_
        refine kg_ldc2 rfl lcRX10_240 dX10_does_113 (pc2 := 116) rfl ?_
        refine kg_lcmp_ne 135 dX10_does_116 dX10_does_117 rfl (pc2 := 120) rfl (fun q10 => ?_) (fun q10 => ?_)
        · replace h := (if_neg q10).symm.trans h
          refine kg_lload_n 2 dX10_does_135 rfl (pc2 := 136) rfl ?_
          refine kg_ldc2 rfl lcRX10_242 dX10_does_136 (pc2 := 139) rfl ?_
          refine kg_lcmp_ne 158 dX10_does_139 dX10_does_140 rfl (pc2 := 143) rfl (fun q11 => ?_) (fun q11 => ?_)
          · replace h := (if_neg q11).symm.trans h
            refine kg_lload_n 2 dX10_does_158 rfl (pc2 := 159) rfl ?_
            refine kg_ldc2 rfl lcRX10_246 dX10_does_159 (pc2 := 162) rfl ?_
            refine kg_lcmp_ne 185 dX10_does_162 dX10_does_163 rfl (pc2 := 166) rfl (fun q12 => ?_) (fun q12 => ?_)
            · replace h := (if_neg q12).symm.trans h
              refine kg_aload_n 3 dX10_does_185 rfl (pc2 := 186) rfl ?_
              refine kg_iload 1 dX10_does_186 rfl (pc2 := 188) rfl ?_
              obtain ⟨r13, r13h, h⟩ := kw_bind_e h
              refine kg_callV (μ := μX10_does) (d := (d + 6)) rfl mVX10_forget [.int x4] [] (gX10_forget (E := E) (d := (d + 4)) x4 σ r13h) rfl lmRX10_293 (ci := 10) rfl tM_0 eM_0 rfl (Nat.le_of_ble_eq_true rfl) dX10_does_188 rfl (st2 := [.int r13.1]) rfl (pc2 := 191) rfl ?_
              obtain ⟨q14, h⟩ := kw_chk_e h
              cases h
              exact kg_iret (ty := .boolean) dX10_does_191 rfl (kw_isB_n q14)
            · replace h := (if_pos q12).symm.trans h
              refine kg_aload_n 3 dX10_does_166 rfl (pc2 := 167) rfl ?_
              refine kg_iload 1 dX10_does_167 rfl (pc2 := 169) rfl ?_
              refine kg_iload 0 dX10_does_169 rfl (pc2 := 171) rfl ?_
              obtain ⟨r15, r15h, h⟩ := kw_bind_e h
              refine kg_callV (μ := μX10_does) (d := (d + 6)) rfl mVX10_watch [.int x4, .int x6] [] (gX10_watch (E := E) (d := (d + 2)) x4 x6 σ r15h) rfl lmRX10_290 (ci := 10) rfl tM_0 eM_0 rfl (Nat.le_of_ble_eq_true rfl) dX10_does_171 rfl (st2 := [.int r15.1]) rfl (pc2 := 174) rfl ?_
              refine kg_if_lt 181 dX10_does_174 rfl (pc2 := 177) rfl (fun q16 => ?_) (fun q16 => ?_)
              · replace h := (if_pos q16).symm.trans h
                refine kg_iconst dX10_does_181 ki_0 (pc2 := 182) rfl ?_
                refine kg_goto 191 dX10_does_182 rfl ?_
                cases h
                exact kg_iret (ty := .boolean) dX10_does_191 rfl rfl
              · replace h := (if_neg q16).symm.trans h
                refine kg_iconst dX10_does_177 ki_1 (pc2 := 178) rfl ?_
                refine kg_goto 191 dX10_does_178 rfl ?_
                cases h
                exact kg_iret (ty := .boolean) dX10_does_191 rfl rfl
          · replace h := (if_pos q11).symm.trans h
            refine kg_aload_n 3 dX10_does_143 rfl (pc2 := 144) rfl ?_
            refine kg_iload 1 dX10_does_144 rfl (pc2 := 146) rfl ?_
            obtain ⟨r17, r17h, h⟩ := kw_bind_e h
            refine kg_callV (μ := μX10_does) (d := (d + 6)) rfl mVX10_origin [.int x4] [] (gX10_origin (E := E) (d := (d + 1)) x4 σ r17h) rfl lmRX10_287 (ci := 10) rfl tM_0 eM_0 rfl (Nat.le_of_ble_eq_true rfl) dX10_does_146 rfl (st2 := [.int r17.1]) rfl (pc2 := 149) rfl ?_
            refine kg_if_lt 156 dX10_does_149 rfl (pc2 := 152) rfl (fun q18 => ?_) (fun q18 => ?_)
            · replace h := (if_pos q18).symm.trans h
              refine kg_iconst dX10_does_156 ki_0 (pc2 := 157) rfl ?_
              cases h
              exact kg_iret (ty := .boolean) dX10_does_157 rfl rfl
            · replace h := (if_neg q18).symm.trans h
              refine kg_iconst dX10_does_152 ki_1 (pc2 := 153) rfl ?_
              refine kg_goto 157 dX10_does_153 rfl ?_
              cases h
              exact kg_iret (ty := .boolean) dX10_does_157 rfl rfl
        · replace h := (if_pos q10).symm.trans h
          refine kg_aload_n 3 dX10_does_120 rfl (pc2 := 121) rfl ?_
          refine kg_iload 1 dX10_does_121 rfl (pc2 := 123) rfl ?_
          obtain ⟨r19, r19h, h⟩ := kw_bind_e h
          refine kg_callV (μ := μX10_does) (d := (d + 6)) rfl mVX10_open [.int x4] [] (gX10_open (E := E) (d := d) x4 σ r19h) rfl lmRX10_284 (ci := 10) rfl tM_0 eM_0 rfl (Nat.le_of_ble_eq_true rfl) dX10_does_123 rfl (st2 := [.int r19.1]) rfl (pc2 := 126) rfl ?_
          refine kg_if_lt 133 dX10_does_126 rfl (pc2 := 129) rfl (fun q20 => ?_) (fun q20 => ?_)
          · replace h := (if_pos q20).symm.trans h
            refine kg_iconst dX10_does_133 ki_0 (pc2 := 134) rfl ?_
            cases h
            exact kg_iret (ty := .boolean) dX10_does_134 rfl rfl
          · replace h := (if_neg q20).symm.trans h
            refine kg_iconst dX10_does_129 ki_1 (pc2 := 130) rfl ?_
            refine kg_goto 134 dX10_does_130 rfl ?_
            cases h
            exact kg_iret (ty := .boolean) dX10_does_134 rfl rfl
      · replace h := (if_pos q9).symm.trans h
        refine kg_aload_n 3 dX10_does_97 rfl (pc2 := 98) rfl ?_
        refine kg_iload 1 dX10_does_98 rfl (pc2 := 100) rfl ?_
        obtain ⟨r21, r21h, h⟩ := kw_bind_e h
        refine kg_callV (μ := μX10_does) (d := (d + 6)) rfl mVX10_close [.int x4] [] (gX10_close (E := E) (d := d) x4 σ r21h) rfl lmRX10_280 (ci := 10) rfl tM_0 eM_0 rfl (Nat.le_of_ble_eq_true rfl) dX10_does_100 rfl (st2 := [.int r21.1]) rfl (pc2 := 103) rfl ?_
        refine kg_if_lt 110 dX10_does_103 rfl (pc2 := 106) rfl (fun q22 => ?_) (fun q22 => ?_)
        · replace h := (if_pos q22).symm.trans h
          refine kg_iconst dX10_does_110 ki_0 (pc2 := 111) rfl ?_
          cases h
          exact kg_iret (ty := .boolean) dX10_does_111 rfl rfl
        · replace h := (if_neg q22).symm.trans h
          refine kg_iconst dX10_does_106 ki_1 (pc2 := 107) rfl ?_
          refine kg_goto 111 dX10_does_107 rfl ?_
          cases h
          exact kg_iret (ty := .boolean) dX10_does_111 rfl rfl
    · replace h := (if_pos q8).symm.trans h
      refine kg_aload_n 3 dX10_does_72 rfl (pc2 := 73) rfl ?_
      refine kg_iload 1 dX10_does_73 rfl (pc2 := 75) rfl ?_
      refine kg_iload 0 dX10_does_75 rfl (pc2 := 77) rfl ?_
      obtain ⟨r23, r23h, h⟩ := kw_bind_e h
      refine kg_callV (μ := μX10_does) (d := (d + 6)) rfl mVX10_length [.int x4, .int x6] [] (gX10_length (E := E) (d := (d + 1)) x4 x6 σ r23h) rfl lmRX10_277 (ci := 10) rfl tM_0 eM_0 rfl (Nat.le_of_ble_eq_true rfl) dX10_does_77 rfl (st2 := [.int r23.1]) rfl (pc2 := 80) rfl ?_
      refine kg_if_lt 87 dX10_does_80 rfl (pc2 := 83) rfl (fun q24 => ?_) (fun q24 => ?_)
      · replace h := (if_pos q24).symm.trans h
        refine kg_iconst dX10_does_87 ki_0 (pc2 := 88) rfl ?_
        cases h
        exact kg_iret (ty := .boolean) dX10_does_88 rfl rfl
      · replace h := (if_neg q24).symm.trans h
        refine kg_iconst dX10_does_83 ki_1 (pc2 := 84) rfl ?_
        refine kg_goto 88 dX10_does_84 rfl ?_
        cases h
        exact kg_iret (ty := .boolean) dX10_does_88 rfl rfl
  · replace h := (if_pos q7).symm.trans h
    refine kg_aload_n 3 dX10_does_37 rfl (pc2 := 38) rfl ?_
    refine kg_iload 1 dX10_does_38 rfl (pc2 := 40) rfl ?_
    refine kg_iload 0 dX10_does_40 rfl (pc2 := 42) rfl ?_
    refine kg_aload_n 3 dX10_does_42 rfl (pc2 := 43) rfl ?_
    refine kg_getr clX10 rfl 16 (Nat.le_of_ble_eq_true rfl) lfRX10_30 tM_0 eM_0 rfl dX10_does_43 (pc2 := 46) rfl ?_
    refine kg_iconst dX10_does_46 ki_3 (pc2 := 47) rfl ?_
    refine kg_iload_n 4 dX10_does_47 rfl (pc2 := 48) rfl ?_
    refine kg_imul dX10_does_48 (pc2 := 49) rfl ?_
    refine kg_iconst dX10_does_49 ki_2 (pc2 := 50) rfl ?_
    refine kg_iadd dX10_does_50 (pc2 := 51) rfl ?_
    obtain ⟨q25, h⟩ := kw_chk_e h
    refine kg_iald tM_7 eM_7 q25 (j := (((3 : Int32) * a1) + (2 : Int32)).toNatClampNeg) rfl dX10_does_51 (pc2 := 52) rfl ?_
    obtain ⟨r26, r26h, h⟩ := kw_bind_e h
    refine kg_callV (μ := μX10_does) (d := (d + 6)) rfl mVX10_lay [.int x4, .int x6, .int (σ.1 7 (((3 : Int32) * a1) + (2 : Int32)).toNatClampNeg)] [] (gX10_lay (E := E) (d := (d + 1)) x4 x6 (σ.1 7 (((3 : Int32) * a1) + (2 : Int32)).toNatClampNeg) σ r26h) rfl lmRX10_274 (ci := 10) rfl tM_0 eM_0 rfl (Nat.le_of_ble_eq_true rfl) dX10_does_52 rfl (st2 := [.int r26.1]) rfl (pc2 := 55) rfl ?_
    refine kg_if_lt 62 dX10_does_55 rfl (pc2 := 58) rfl (fun q27 => ?_) (fun q27 => ?_)
    · replace h := (if_pos q27).symm.trans h
      refine kg_iconst dX10_does_62 ki_0 (pc2 := 63) rfl ?_
      cases h
      exact kg_iret (ty := .boolean) dX10_does_63 rfl rfl
    · replace h := (if_neg q27).symm.trans h
      refine kg_iconst dX10_does_58 ki_1 (pc2 := 59) rfl ?_
      refine kg_goto 63 dX10_does_59 rfl ?_
      cases h
      exact kg_iret (ty := .boolean) dX10_does_63 rfl rfl
def bX10_orders_26 (v2 : Int32) (σ : kw_M) : Option ((Int32 × kw_M) ⊕ (Int32 × kw_M)) :=
 if (σ.1 0 12) ≤ v2 then
 (some (.inr (v2, σ)))
 else
 (fX10_does v2 σ).bind fun r6 =>
 if r6.1 = (0 : Int32) then
 (some (.inr (v2, r6.2)))
 else
 kw_let (v2 + (1 : Int32)) fun x8 =>
 some (.inl (x8, r6.2))
set_option maxHeartbeats 4000000 in
set_option maxRecDepth 100000 in
theorem lX10_orders_26 {E : kw_E} {d : Nat} (v2 : Int32) (σ : kw_M) {v : Option Value} {σ2 : kw_M} {o : (Int32 × kw_M) ⊕ (Int32 × kw_M)} (h : bX10_orders_26 v2 σ = some o) (hk : Sum.elim (fun s => kw_G E kwTM 21 (d + 8) μX10_orders 26 [(0, .ref 0), (2, .int s.1)] [] s.2 v σ2) (fun y => kw_G E kwTM 21 (d + 8) μX10_orders 49 [(2, .int y.1)] [] y.2 v σ2) o) : kw_G E kwTM 21 (d + 8) μX10_orders 26 [(0, .ref 0), (2, .int v2)] [] σ v σ2 := by
  unfold bX10_orders_26 at h
  refine kg_iload_n 1 dX10_orders_26 rfl (pc2 := 27) rfl ?_
  refine kg_aload_n 0 dX10_orders_27 rfl (pc2 := 28) rfl ?_
  refine kg_geti clX10 rfl 12 (Nat.le_of_ble_eq_true rfl) lfRX10_205 tM_0 eM_0 rfl dX10_orders_28 (pc2 := 31) rfl ?_
  refine kg_icmp_ge 49 dX10_orders_31 rfl (pc2 := 34) rfl (fun q5 => ?_) (fun q5 => ?_)
  · replace h := (if_pos q5).symm.trans h
    refine kg_sub [1] (lv2 := [(2, .int v2)]) rfl ?_
    cases h
    exact hk
  · replace h := (if_neg q5).symm.trans h
    refine kg_aload_n 0 dX10_orders_34 rfl (pc2 := 35) rfl ?_
    refine kg_iload_n 1 dX10_orders_35 rfl (pc2 := 36) rfl ?_
    obtain ⟨r6, r6h, h⟩ := kw_bind_e h
    refine kg_callV (μ := μX10_orders) (d := (d + 7)) rfl mVX10_does [.int v2] [] (gX10_does (E := E) (d := d) v2 σ r6h) rfl lmRX10_296 (ci := 10) rfl tM_0 eM_0 rfl (Nat.le_of_ble_eq_true rfl) dX10_orders_36 rfl (st2 := [.int r6.1]) rfl (pc2 := 39) rfl ?_
    refine kg_if_eq 49 dX10_orders_39 rfl (pc2 := 42) rfl (fun q7 => ?_) (fun q7 => ?_)
    · replace h := (if_pos q7).symm.trans h
      refine kg_sub [1] (lv2 := [(2, .int v2)]) rfl ?_
      cases h
      exact hk
    · replace h := (if_neg q7).symm.trans h
      refine kg_iload_n 1 dX10_orders_42 rfl (pc2 := 43) rfl ?_
      refine kg_iconst dX10_orders_43 ki_1 (pc2 := 44) rfl ?_
      refine kg_iadd dX10_orders_44 (pc2 := 45) rfl ?_
      obtain ⟨x8, x8e, h⟩ := kw_let_e h
      refine kg_istore_n dX10_orders_45 rfl (Nat.le_of_ble_eq_true rfl) x8e (lv2 := [(2, .int x8), (0, .ref 0)]) rfl (pc2 := 46) rfl ?_
      refine kg_goto 26 dX10_orders_46 rfl ?_
      refine kg_sub [1, 0] (lv2 := [(0, .ref 0), (2, .int x8)]) rfl ?_
      cases h
      exact hk
def fX10_orders (a1 : Int32) (σ : kw_M) : Option (Int32 × kw_M) :=
 (fX10_isText a1 σ).bind fun r1 =>
 if r1 = (0 : Int32) then
 (some ((-1 : Int32), σ))
 else
 (fX10_readsText a1 (0 : Int32) σ).bind fun r3 =>
 if r3.1 = (0 : Int32) then
 (some ((r3.2.1 0 9), r3.2))
 else
 (kw_loop (fun s => bX10_orders_26 s.1 s.2) kw_F ((0 : Int32), r3.2)).bind fun x9 =>
 some (x9.1, x9.2)
set_option maxHeartbeats 4000000 in
set_option maxRecDepth 100000 in
theorem gX10_orders {E : kw_E} {d : Nat} (a1 : Int32) (σ : kw_M) {r : Int32 × kw_M} (h : fX10_orders a1 σ = some r) : kw_Met E kwTM 21 (d + 8) μX10_orders [.ref 0, .int a1] σ (some (Value.int r.1)) r.2 := by
  refine kw_enter plRX10 (Nat.le_of_ble_eq_true rfl) ?_
  show kw_G E kwTM 21 (d + 8) μX10_orders 0 [(0, .ref 0), (1, .int a1)] [] σ (some (Value.int r.1)) r.2
  unfold fX10_orders at h
  refine kg_aload_n 0 dX10_orders_0 rfl (pc2 := 1) rfl ?_
  refine kg_iload_n 1 dX10_orders_1 rfl (pc2 := 2) rfl ?_
  obtain ⟨r1, r1h, h⟩ := kw_bind_e h
  refine kg_callV (μ := μX10_orders) (d := (d + 7)) rfl mVX10_isText [.int a1] [] (gX10_isText (E := E) (d := (d + 6)) a1 σ r1h) rfl lmRX10_260 (ci := 10) rfl tM_0 eM_0 rfl (Nat.le_of_ble_eq_true rfl) dX10_orders_2 rfl (st2 := [.int r1]) rfl (pc2 := 5) rfl ?_
  refine kg_if_ne 10 dX10_orders_5 rfl (pc2 := 8) rfl (fun q2 => ?_) (fun q2 => ?_)
  · replace h := (if_neg q2).symm.trans h
    refine kg_aload_n 0 dX10_orders_10 rfl (pc2 := 11) rfl ?_
    refine kg_iload_n 1 dX10_orders_11 rfl (pc2 := 12) rfl ?_
    refine kg_iconst dX10_orders_12 ki_0 (pc2 := 13) rfl ?_
    obtain ⟨r3, r3h, h⟩ := kw_bind_e h
    refine kg_callV (μ := μX10_orders) (d := (d + 7)) rfl mVX10_readsText [.int a1, .int (0 : Int32)] [] (gX10_readsText (E := E) (d := (d + 1)) a1 (0 : Int32) σ r3h) rfl lmRX10_263 (ci := 10) rfl tM_0 eM_0 rfl (Nat.le_of_ble_eq_true rfl) dX10_orders_13 rfl (st2 := [.int r3.1]) rfl (pc2 := 16) rfl ?_
    refine kg_if_ne 24 dX10_orders_16 rfl (pc2 := 19) rfl (fun q4 => ?_) (fun q4 => ?_)
    · replace h := (if_neg q4).symm.trans h
      refine kg_iconst dX10_orders_24 ki_0 (pc2 := 25) rfl ?_
      refine kg_istore_n dX10_orders_25 rfl (Nat.le_of_ble_eq_true rfl) rfl (lv2 := [(2, .int (0 : Int32)), (0, .ref 0), (1, .int a1)]) rfl (pc2 := 26) rfl ?_
      refine kg_sub [1, 0] (lv2 := [(0, .ref 0), (2, .int (0 : Int32))]) rfl ?_
      obtain ⟨x9, x9h, h⟩ := kw_bind_e h
      refine kw_loop_e (P := fun s => kw_G E kwTM 21 (d + 8) μX10_orders 26 [(0, .ref 0), (2, .int s.1)] [] s.2 (some (Value.int r.1)) r.2) (K := fun y => kw_G E kwTM 21 (d + 8) μX10_orders 49 [(2, .int y.1)] [] y.2 (some (Value.int r.1)) r.2) (fun s o h0 hk => lX10_orders_26 s.1 s.2 h0 hk) kw_F _ _ x9h ?_
      show kw_G E kwTM 21 (d + 8) μX10_orders 49 [(2, .int x9.1)] [] x9.2 (some (Value.int r.1)) r.2
      refine kg_iload_n 0 dX10_orders_49 rfl (pc2 := 50) rfl ?_
      cases h
      exact kg_iret (ty := .int) dX10_orders_50 rfl rfl
    · replace h := (if_pos q4).symm.trans h
      refine kg_aload_n 0 dX10_orders_19 rfl (pc2 := 20) rfl ?_
      refine kg_geti clX10 rfl 9 (Nat.le_of_ble_eq_true rfl) lfRX10_165 tM_0 eM_0 rfl dX10_orders_20 (pc2 := 23) rfl ?_
      cases h
      exact kg_iret (ty := .int) dX10_orders_23 rfl rfl
  · replace h := (if_pos q2).symm.trans h
    refine kg_iconst dX10_orders_8 ki_m1 (pc2 := 9) rfl ?_
    cases h
    exact kg_iret (ty := .int) dX10_orders_9 rfl rfl
def fX10_slackOf (a1 : Int32) (σ : kw_M) : Option (Int64) :=
 (fX10_of a1 (0 : Int32) σ).bind fun r1 =>
 kw_chk (kw_in r1 12) <|
 if (σ.2 3 r1.toNatClampNeg) = (900000000000000000 : Int64) then
 (some (900000000000000000 : Int64))
 else
 (fX10_of a1 (1 : Int32) σ).bind fun r4 =>
 kw_chk (kw_in r4 12) <|
 if (σ.2 3 r4.toNatClampNeg) = (900000000000000000 : Int64) then
 (some (900000000000000000 : Int64))
 else
 (fX10_of a1 (0 : Int32) σ).bind fun r7 =>
 kw_chk (kw_in r7 12) <|
 (fX10_of a1 (2 : Int32) σ).bind fun r9 =>
 (fX10_of a1 (1 : Int32) σ).bind fun r10 =>
 kw_chk (kw_in r10 12) <|
 some (((σ.2 3 r7.toNatClampNeg) + r9.toInt64) - (σ.2 3 r10.toNatClampNeg))
set_option maxHeartbeats 4000000 in
set_option maxRecDepth 100000 in
theorem gX10_slackOf {E : kw_E} {d : Nat} (a1 : Int32) (σ : kw_M) {r : Int64} (h : fX10_slackOf a1 σ = some r) : kw_Met E kwTM 21 (d + 1) μX10_slackOf [.ref 0, .int a1] σ (some (Value.long r)) σ := by
  refine kw_enter plRX10 (Nat.le_of_ble_eq_true rfl) ?_
  show kw_G E kwTM 21 (d + 1) μX10_slackOf 0 [(0, .ref 0), (1, .int a1)] [] σ (some (Value.long r)) σ
  unfold fX10_slackOf at h
  refine kg_aload_n 0 dX10_slackOf_0 rfl (pc2 := 1) rfl ?_
  refine kg_getr clX10 rfl 3 (Nat.le_of_ble_eq_true rfl) lfRX10_17 tM_0 eM_0 rfl dX10_slackOf_1 (pc2 := 4) rfl ?_
  refine kg_aload_n 0 dX10_slackOf_4 rfl (pc2 := 5) rfl ?_
  refine kg_iload_n 1 dX10_slackOf_5 rfl (pc2 := 6) rfl ?_
  refine kg_iconst dX10_slackOf_6 ki_0 (pc2 := 7) rfl ?_
  obtain ⟨r1, r1h, h⟩ := kw_bind_e h
  refine kg_callV (μ := μX10_slackOf) (d := d) rfl mVX10_of [.int a1, .int (0 : Int32)] [.ref 3] (gX10_of (E := E) (d := d) a1 (0 : Int32) σ r1h) rfl lmRX10_73 (ci := 10) rfl tM_0 eM_0 rfl (Nat.le_of_ble_eq_true rfl) dX10_slackOf_7 rfl (st2 := [.int r1, .ref 3]) rfl (pc2 := 10) rfl ?_
  obtain ⟨q2, h⟩ := kw_chk_e h
  refine kg_lald tM_3 eM_3 q2 (j := r1.toNatClampNeg) rfl dX10_slackOf_10 (pc2 := 11) rfl ?_
  refine kg_ldc2 rfl lcRX10_89 dX10_slackOf_11 (pc2 := 14) rfl ?_
  refine kg_lcmp_eq 36 dX10_slackOf_14 dX10_slackOf_15 rfl (pc2 := 18) rfl (fun q3 => ?_) (fun q3 => ?_)
  · replace h := (if_pos q3).symm.trans h
    refine kg_ldc2 rfl lcRX10_89 dX10_slackOf_36 (pc2 := 39) rfl ?_
    cases h
    exact kg_lret dX10_slackOf_39 rfl
  · replace h := (if_neg q3).symm.trans h
    refine kg_aload_n 0 dX10_slackOf_18 rfl (pc2 := 19) rfl ?_
    refine kg_getr clX10 rfl 3 (Nat.le_of_ble_eq_true rfl) lfRX10_17 tM_0 eM_0 rfl dX10_slackOf_19 (pc2 := 22) rfl ?_
    refine kg_aload_n 0 dX10_slackOf_22 rfl (pc2 := 23) rfl ?_
    refine kg_iload_n 1 dX10_slackOf_23 rfl (pc2 := 24) rfl ?_
    refine kg_iconst dX10_slackOf_24 ki_1 (pc2 := 25) rfl ?_
    obtain ⟨r4, r4h, h⟩ := kw_bind_e h
    refine kg_callV (μ := μX10_slackOf) (d := d) rfl mVX10_of [.int a1, .int (1 : Int32)] [.ref 3] (gX10_of (E := E) (d := d) a1 (1 : Int32) σ r4h) rfl lmRX10_73 (ci := 10) rfl tM_0 eM_0 rfl (Nat.le_of_ble_eq_true rfl) dX10_slackOf_25 rfl (st2 := [.int r4, .ref 3]) rfl (pc2 := 28) rfl ?_
    obtain ⟨q5, h⟩ := kw_chk_e h
    refine kg_lald tM_3 eM_3 q5 (j := r4.toNatClampNeg) rfl dX10_slackOf_28 (pc2 := 29) rfl ?_
    refine kg_ldc2 rfl lcRX10_89 dX10_slackOf_29 (pc2 := 32) rfl ?_
    refine kg_lcmp_ne 40 dX10_slackOf_32 dX10_slackOf_33 rfl (pc2 := 36) rfl (fun q6 => ?_) (fun q6 => ?_)
    · replace h := (if_neg q6).symm.trans h
      refine kg_aload_n 0 dX10_slackOf_40 rfl (pc2 := 41) rfl ?_
      refine kg_getr clX10 rfl 3 (Nat.le_of_ble_eq_true rfl) lfRX10_17 tM_0 eM_0 rfl dX10_slackOf_41 (pc2 := 44) rfl ?_
      refine kg_aload_n 0 dX10_slackOf_44 rfl (pc2 := 45) rfl ?_
      refine kg_iload_n 1 dX10_slackOf_45 rfl (pc2 := 46) rfl ?_
      refine kg_iconst dX10_slackOf_46 ki_0 (pc2 := 47) rfl ?_
      obtain ⟨r7, r7h, h⟩ := kw_bind_e h
      refine kg_callV (μ := μX10_slackOf) (d := d) rfl mVX10_of [.int a1, .int (0 : Int32)] [.ref 3] (gX10_of (E := E) (d := d) a1 (0 : Int32) σ r7h) rfl lmRX10_73 (ci := 10) rfl tM_0 eM_0 rfl (Nat.le_of_ble_eq_true rfl) dX10_slackOf_47 rfl (st2 := [.int r7, .ref 3]) rfl (pc2 := 50) rfl ?_
      obtain ⟨q8, h⟩ := kw_chk_e h
      refine kg_lald tM_3 eM_3 q8 (j := r7.toNatClampNeg) rfl dX10_slackOf_50 (pc2 := 51) rfl ?_
      refine kg_aload_n 0 dX10_slackOf_51 rfl (pc2 := 52) rfl ?_
      refine kg_iload_n 1 dX10_slackOf_52 rfl (pc2 := 53) rfl ?_
      refine kg_iconst dX10_slackOf_53 ki_2 (pc2 := 54) rfl ?_
      obtain ⟨r9, r9h, h⟩ := kw_bind_e h
      refine kg_callV (μ := μX10_slackOf) (d := d) rfl mVX10_of [.int a1, .int (2 : Int32)] [.long (σ.2 3 r7.toNatClampNeg)] (gX10_of (E := E) (d := d) a1 (2 : Int32) σ r9h) rfl lmRX10_73 (ci := 10) rfl tM_0 eM_0 rfl (Nat.le_of_ble_eq_true rfl) dX10_slackOf_54 rfl (st2 := [.int r9, .long (σ.2 3 r7.toNatClampNeg)]) rfl (pc2 := 57) rfl ?_
      refine kg_i2l dX10_slackOf_57 (pc2 := 58) rfl ?_
      refine kg_ladd dX10_slackOf_58 (pc2 := 59) rfl ?_
      refine kg_aload_n 0 dX10_slackOf_59 rfl (pc2 := 60) rfl ?_
      refine kg_getr clX10 rfl 3 (Nat.le_of_ble_eq_true rfl) lfRX10_17 tM_0 eM_0 rfl dX10_slackOf_60 (pc2 := 63) rfl ?_
      refine kg_aload_n 0 dX10_slackOf_63 rfl (pc2 := 64) rfl ?_
      refine kg_iload_n 1 dX10_slackOf_64 rfl (pc2 := 65) rfl ?_
      refine kg_iconst dX10_slackOf_65 ki_1 (pc2 := 66) rfl ?_
      obtain ⟨r10, r10h, h⟩ := kw_bind_e h
      refine kg_callV (μ := μX10_slackOf) (d := d) rfl mVX10_of [.int a1, .int (1 : Int32)] [.ref 3, .long ((σ.2 3 r7.toNatClampNeg) + r9.toInt64)] (gX10_of (E := E) (d := d) a1 (1 : Int32) σ r10h) rfl lmRX10_73 (ci := 10) rfl tM_0 eM_0 rfl (Nat.le_of_ble_eq_true rfl) dX10_slackOf_66 rfl (st2 := [.int r10, .ref 3, .long ((σ.2 3 r7.toNatClampNeg) + r9.toInt64)]) rfl (pc2 := 69) rfl ?_
      obtain ⟨q11, h⟩ := kw_chk_e h
      refine kg_lald tM_3 eM_3 q11 (j := r10.toNatClampNeg) rfl dX10_slackOf_69 (pc2 := 70) rfl ?_
      refine kg_lsub dX10_slackOf_70 (pc2 := 71) rfl ?_
      cases h
      exact kg_lret dX10_slackOf_71 rfl
    · replace h := (if_pos q6).symm.trans h
      refine kg_ldc2 rfl lcRX10_89 dX10_slackOf_36 (pc2 := 39) rfl ?_
      cases h
      exact kg_lret dX10_slackOf_39 rfl
def fX10_isTight (a1 : Int32) (σ : kw_M) : Option (Int32) :=
 (fX10_isOpen a1 σ).bind fun r1 =>
 if r1 = (0 : Int32) then
 (some (0 : Int32))
 else
 (fX10_slackOf a1 σ).bind fun r3 =>
 if r3 = (0 : Int64) then
 (some (1 : Int32))
 else
 some (0 : Int32)
set_option maxHeartbeats 4000000 in
set_option maxRecDepth 100000 in
theorem gX10_isTight {E : kw_E} {d : Nat} (a1 : Int32) (σ : kw_M) {r : Int32} (h : fX10_isTight a1 σ = some r) : kw_Met E kwTM 21 (d + 2) μX10_isTight [.ref 0, .int a1] σ (some (Value.int r)) σ := by
  refine kw_enter plRX10 (Nat.le_of_ble_eq_true rfl) ?_
  show kw_G E kwTM 21 (d + 2) μX10_isTight 0 [(0, .ref 0), (1, .int a1)] [] σ (some (Value.int r)) σ
  unfold fX10_isTight at h
  refine kg_aload_n 0 dX10_isTight_0 rfl (pc2 := 1) rfl ?_
  refine kg_iload_n 1 dX10_isTight_1 rfl (pc2 := 2) rfl ?_
  obtain ⟨r1, r1h, h⟩ := kw_bind_e h
  refine kg_callV (μ := μX10_isTight) (d := (d + 1)) rfl mVX10_isOpen [.int a1] [] (gX10_isOpen (E := E) (d := d) a1 σ r1h) rfl lmRX10_91 (ci := 10) rfl tM_0 eM_0 rfl (Nat.le_of_ble_eq_true rfl) dX10_isTight_2 rfl (st2 := [.int r1]) rfl (pc2 := 5) rfl ?_
  refine kg_if_eq 22 dX10_isTight_5 rfl (pc2 := 8) rfl (fun q2 => ?_) (fun q2 => ?_)
  · replace h := (if_pos q2).symm.trans h
    refine kg_iconst dX10_isTight_22 ki_0 (pc2 := 23) rfl ?_
    cases h
    exact kg_iret (ty := .boolean) dX10_isTight_23 rfl rfl
  · replace h := (if_neg q2).symm.trans h
    refine kg_aload_n 0 dX10_isTight_8 rfl (pc2 := 9) rfl ?_
    refine kg_iload_n 1 dX10_isTight_9 rfl (pc2 := 10) rfl ?_
    obtain ⟨r3, r3h, h⟩ := kw_bind_e h
    refine kg_callV (μ := μX10_isTight) (d := (d + 1)) rfl mVX10_slackOf [.int a1] [] (gX10_slackOf (E := E) (d := d) a1 σ r3h) rfl lmRX10_299 (ci := 10) rfl tM_0 eM_0 rfl (Nat.le_of_ble_eq_true rfl) dX10_isTight_10 rfl (st2 := [.long r3]) rfl (pc2 := 13) rfl ?_
    refine kg_lconst dX10_isTight_13 kl_0 (pc2 := 14) rfl ?_
    refine kg_lcmp_ne 22 dX10_isTight_14 dX10_isTight_15 rfl (pc2 := 18) rfl (fun q4 => ?_) (fun q4 => ?_)
    · replace h := (if_neg q4).symm.trans h
      refine kg_iconst dX10_isTight_22 ki_0 (pc2 := 23) rfl ?_
      cases h
      exact kg_iret (ty := .boolean) dX10_isTight_23 rfl rfl
    · replace h := (if_pos q4).symm.trans h
      refine kg_iconst dX10_isTight_18 ki_1 (pc2 := 19) rfl ?_
      refine kg_goto 23 dX10_isTight_19 rfl ?_
      cases h
      exact kg_iret (ty := .boolean) dX10_isTight_23 rfl rfl
def bX10_tightTo_4 (v1 : Int32) (σ : kw_M) (v2 : Int32) (v3 : Int32) : Option ((Int32 × Int32) ⊕ (Int32)) :=
 if (σ.1 1 1) ≤ v3 then
 (some (.inr v2))
 else
 (fX10_isTight v3 σ).bind fun r2 =>
 if r2 = (0 : Int32) then
 (kw_let (v3 + (1 : Int32)) fun x4 =>
 some (.inl (v2, x4)))
 else
 (fX10_of v3 (1 : Int32) σ).bind fun r5 =>
 if r5 = v1 then
 (kw_let (v2 + (1 : Int32)) fun x8 =>
 kw_let (v3 + (1 : Int32)) fun x9 =>
 some (.inl (x8, x9)))
 else
 kw_let (v3 + (1 : Int32)) fun x7 =>
 some (.inl (v2, x7))
set_option maxHeartbeats 4000000 in
set_option maxRecDepth 100000 in
theorem lX10_tightTo_4 {E : kw_E} {d : Nat} (v1 : Int32) (σ : kw_M) (v2 : Int32) (v3 : Int32) {v : Option Value} {σ2 : kw_M} {o : (Int32 × Int32) ⊕ (Int32)} (h : bX10_tightTo_4 v1 σ v2 v3 = some o) (hk : Sum.elim (fun s => kw_G E kwTM 21 (d + 3) μX10_tightTo 4 [(0, .ref 0), (1, .int v1), (2, .int s.1), (3, .int s.2)] [] σ v σ2) (fun y => kw_G E kwTM 21 (d + 3) μX10_tightTo 42 [(2, .int y)] [] σ v σ2) o) : kw_G E kwTM 21 (d + 3) μX10_tightTo 4 [(0, .ref 0), (1, .int v1), (2, .int v2), (3, .int v3)] [] σ v σ2 := by
  unfold bX10_tightTo_4 at h
  refine kg_iload_n 3 dX10_tightTo_4 rfl (pc2 := 5) rfl ?_
  refine kg_aload_n 0 dX10_tightTo_5 rfl (pc2 := 6) rfl ?_
  refine kg_getr clX10 rfl 0 (Nat.le_of_ble_eq_true rfl) lfRX10_7 tM_0 eM_0 rfl dX10_tightTo_6 (pc2 := 9) rfl ?_
  refine kg_iconst dX10_tightTo_9 ki_1 (pc2 := 10) rfl ?_
  refine kg_iald tM_1 eM_1 (show kw_in (1 : Int32) 2832 by decide) (j := 1) (by decide) dX10_tightTo_10 (pc2 := 11) rfl ?_
  refine kg_icmp_ge 42 dX10_tightTo_11 rfl (pc2 := 14) rfl (fun q1 => ?_) (fun q1 => ?_)
  · replace h := (if_pos q1).symm.trans h
    refine kg_sub [2] (lv2 := [(2, .int v2)]) rfl ?_
    cases h
    exact hk
  · replace h := (if_neg q1).symm.trans h
    refine kg_aload_n 0 dX10_tightTo_14 rfl (pc2 := 15) rfl ?_
    refine kg_iload_n 3 dX10_tightTo_15 rfl (pc2 := 16) rfl ?_
    obtain ⟨r2, r2h, h⟩ := kw_bind_e h
    refine kg_callV (μ := μX10_tightTo) (d := (d + 2)) rfl mVX10_isTight [.int v3] [] (gX10_isTight (E := E) (d := d) v3 σ r2h) rfl lmRX10_303 (ci := 10) rfl tM_0 eM_0 rfl (Nat.le_of_ble_eq_true rfl) dX10_tightTo_16 rfl (st2 := [.int r2]) rfl (pc2 := 19) rfl ?_
    refine kg_if_eq 36 dX10_tightTo_19 rfl (pc2 := 22) rfl (fun q3 => ?_) (fun q3 => ?_)
    · replace h := (if_pos q3).symm.trans h
      obtain ⟨x4, x4e, h⟩ := kw_let_e h
      refine kg_iinc 3 dX10_tightTo_36 rfl (Nat.le_of_ble_eq_true rfl) x4e (lv2 := [(3, .int x4), (0, .ref 0), (1, .int v1), (2, .int v2)]) rfl (pc2 := 39) rfl ?_
      refine kg_goto 4 dX10_tightTo_39 rfl ?_
      refine kg_sub [1, 2, 3, 0] (lv2 := [(0, .ref 0), (1, .int v1), (2, .int v2), (3, .int x4)]) rfl ?_
      cases h
      exact hk
    · replace h := (if_neg q3).symm.trans h
      refine kg_aload_n 0 dX10_tightTo_22 rfl (pc2 := 23) rfl ?_
      refine kg_iload_n 3 dX10_tightTo_23 rfl (pc2 := 24) rfl ?_
      refine kg_iconst dX10_tightTo_24 ki_1 (pc2 := 25) rfl ?_
      obtain ⟨r5, r5h, h⟩ := kw_bind_e h
      refine kg_callV (μ := μX10_tightTo) (d := (d + 2)) rfl mVX10_of [.int v3, .int (1 : Int32)] [] (gX10_of (E := E) (d := (d + 2)) v3 (1 : Int32) σ r5h) rfl lmRX10_73 (ci := 10) rfl tM_0 eM_0 rfl (Nat.le_of_ble_eq_true rfl) dX10_tightTo_25 rfl (st2 := [.int r5]) rfl (pc2 := 28) rfl ?_
      refine kg_iload_n 1 dX10_tightTo_28 rfl (pc2 := 29) rfl ?_
      refine kg_icmp_ne 36 dX10_tightTo_29 rfl (pc2 := 32) rfl (fun q6 => ?_) (fun q6 => ?_)
      · replace h := (if_neg q6).symm.trans h
        obtain ⟨x7, x7e, h⟩ := kw_let_e h
        refine kg_iinc 3 dX10_tightTo_36 rfl (Nat.le_of_ble_eq_true rfl) x7e (lv2 := [(3, .int x7), (0, .ref 0), (1, .int v1), (2, .int v2)]) rfl (pc2 := 39) rfl ?_
        refine kg_goto 4 dX10_tightTo_39 rfl ?_
        refine kg_sub [1, 2, 3, 0] (lv2 := [(0, .ref 0), (1, .int v1), (2, .int v2), (3, .int x7)]) rfl ?_
        cases h
        exact hk
      · replace h := (if_pos q6).symm.trans h
        refine kg_iload_n 2 dX10_tightTo_32 rfl (pc2 := 33) rfl ?_
        refine kg_iconst dX10_tightTo_33 ki_1 (pc2 := 34) rfl ?_
        refine kg_iadd dX10_tightTo_34 (pc2 := 35) rfl ?_
        obtain ⟨x8, x8e, h⟩ := kw_let_e h
        refine kg_istore_n dX10_tightTo_35 rfl (Nat.le_of_ble_eq_true rfl) x8e (lv2 := [(2, .int x8), (0, .ref 0), (1, .int v1), (3, .int v3)]) rfl (pc2 := 36) rfl ?_
        obtain ⟨x9, x9e, h⟩ := kw_let_e h
        refine kg_iinc 3 dX10_tightTo_36 rfl (Nat.le_of_ble_eq_true rfl) x9e (lv2 := [(3, .int x9), (2, .int x8), (0, .ref 0), (1, .int v1)]) rfl (pc2 := 39) rfl ?_
        refine kg_goto 4 dX10_tightTo_39 rfl ?_
        refine kg_sub [2, 3, 1, 0] (lv2 := [(0, .ref 0), (1, .int v1), (2, .int x8), (3, .int x9)]) rfl ?_
        cases h
        exact hk
def fX10_tightTo (a1 : Int32) (σ : kw_M) : Option (Int32) :=
 (kw_loop (fun s => bX10_tightTo_4 a1 σ s.1 s.2) kw_F ((0 : Int32), (0 : Int32))).bind fun x10 =>
 some x10
set_option maxHeartbeats 4000000 in
set_option maxRecDepth 100000 in
theorem gX10_tightTo {E : kw_E} {d : Nat} (a1 : Int32) (σ : kw_M) {r : Int32} (h : fX10_tightTo a1 σ = some r) : kw_Met E kwTM 21 (d + 3) μX10_tightTo [.ref 0, .int a1] σ (some (Value.int r)) σ := by
  refine kw_enter plRX10 (Nat.le_of_ble_eq_true rfl) ?_
  show kw_G E kwTM 21 (d + 3) μX10_tightTo 0 [(0, .ref 0), (1, .int a1)] [] σ (some (Value.int r)) σ
  unfold fX10_tightTo at h
  refine kg_iconst dX10_tightTo_0 ki_0 (pc2 := 1) rfl ?_
  refine kg_istore_n dX10_tightTo_1 rfl (Nat.le_of_ble_eq_true rfl) rfl (lv2 := [(2, .int (0 : Int32)), (0, .ref 0), (1, .int a1)]) rfl (pc2 := 2) rfl ?_
  refine kg_iconst dX10_tightTo_2 ki_0 (pc2 := 3) rfl ?_
  refine kg_istore_n dX10_tightTo_3 rfl (Nat.le_of_ble_eq_true rfl) rfl (lv2 := [(3, .int (0 : Int32)), (2, .int (0 : Int32)), (0, .ref 0), (1, .int a1)]) rfl (pc2 := 4) rfl ?_
  refine kg_sub [2, 3, 1, 0] (lv2 := [(0, .ref 0), (1, .int a1), (2, .int (0 : Int32)), (3, .int (0 : Int32))]) rfl ?_
  obtain ⟨x10, x10h, h⟩ := kw_bind_e h
  refine kw_loop_e (P := fun s => kw_G E kwTM 21 (d + 3) μX10_tightTo 4 [(0, .ref 0), (1, .int a1), (2, .int s.1), (3, .int s.2)] [] σ (some (Value.int r)) σ) (K := fun y => kw_G E kwTM 21 (d + 3) μX10_tightTo 42 [(2, .int y)] [] σ (some (Value.int r)) σ) (fun s o h0 hk => lX10_tightTo_4 a1 σ s.1 s.2 h0 hk) kw_F _ _ x10h ?_
  show kw_G E kwTM 21 (d + 3) μX10_tightTo 42 [(2, .int x10)] [] σ (some (Value.int r)) σ
  refine kg_iload_n 0 dX10_tightTo_42 rfl (pc2 := 43) rfl ?_
  cases h
  exact kg_iret (ty := .int) dX10_tightTo_43 rfl rfl
def bX10_parentOf_2 (v1 : Int32) (σ : kw_M) (v2 : Int32) : Option ((Int32) ⊕ ((Int32) ⊕ (Unit))) :=
 if (σ.1 1 1) ≤ v2 then
 (some (.inr (.inr ())))
 else
 (fX10_isTight v2 σ).bind fun r2 =>
 if r2 = (0 : Int32) then
 (kw_let (v2 + (1 : Int32)) fun x4 =>
 some (.inl x4))
 else
 (fX10_of v2 (1 : Int32) σ).bind fun r5 =>
 if r5 = v1 then
 (some (.inr (.inl v2)))
 else
 kw_let (v2 + (1 : Int32)) fun x7 =>
 some (.inl x7)
set_option maxHeartbeats 4000000 in
set_option maxRecDepth 100000 in
theorem lX10_parentOf_2 {E : kw_E} {d : Nat} (v1 : Int32) (σ : kw_M) (v2 : Int32) {v : Option Value} {σ2 : kw_M} {o : (Int32) ⊕ ((Int32) ⊕ (Unit))} (h : bX10_parentOf_2 v1 σ v2 = some o) (hk : Sum.elim (fun s => kw_G E kwTM 21 (d + 3) μX10_parentOf 2 [(0, .ref 0), (1, .int v1), (2, .int s)] [] σ v σ2) (Sum.elim (fun rr => v = some (Value.int rr) ∧ σ2 = σ) (fun y => kw_G E kwTM 21 (d + 3) μX10_parentOf 38 [] [] σ v σ2)) o) : kw_G E kwTM 21 (d + 3) μX10_parentOf 2 [(0, .ref 0), (1, .int v1), (2, .int v2)] [] σ v σ2 := by
  unfold bX10_parentOf_2 at h
  refine kg_iload_n 2 dX10_parentOf_2 rfl (pc2 := 3) rfl ?_
  refine kg_aload_n 0 dX10_parentOf_3 rfl (pc2 := 4) rfl ?_
  refine kg_getr clX10 rfl 0 (Nat.le_of_ble_eq_true rfl) lfRX10_7 tM_0 eM_0 rfl dX10_parentOf_4 (pc2 := 7) rfl ?_
  refine kg_iconst dX10_parentOf_7 ki_1 (pc2 := 8) rfl ?_
  refine kg_iald tM_1 eM_1 (show kw_in (1 : Int32) 2832 by decide) (j := 1) (by decide) dX10_parentOf_8 (pc2 := 9) rfl ?_
  refine kg_icmp_ge 38 dX10_parentOf_9 rfl (pc2 := 12) rfl (fun q1 => ?_) (fun q1 => ?_)
  · replace h := (if_pos q1).symm.trans h
    refine kg_sub [] (lv2 := []) rfl ?_
    cases h
    exact hk
  · replace h := (if_neg q1).symm.trans h
    refine kg_aload_n 0 dX10_parentOf_12 rfl (pc2 := 13) rfl ?_
    refine kg_iload_n 2 dX10_parentOf_13 rfl (pc2 := 14) rfl ?_
    obtain ⟨r2, r2h, h⟩ := kw_bind_e h
    refine kg_callV (μ := μX10_parentOf) (d := (d + 2)) rfl mVX10_isTight [.int v2] [] (gX10_isTight (E := E) (d := d) v2 σ r2h) rfl lmRX10_303 (ci := 10) rfl tM_0 eM_0 rfl (Nat.le_of_ble_eq_true rfl) dX10_parentOf_14 rfl (st2 := [.int r2]) rfl (pc2 := 17) rfl ?_
    refine kg_if_eq 32 dX10_parentOf_17 rfl (pc2 := 20) rfl (fun q3 => ?_) (fun q3 => ?_)
    · replace h := (if_pos q3).symm.trans h
      obtain ⟨x4, x4e, h⟩ := kw_let_e h
      refine kg_iinc 2 dX10_parentOf_32 rfl (Nat.le_of_ble_eq_true rfl) x4e (lv2 := [(2, .int x4), (0, .ref 0), (1, .int v1)]) rfl (pc2 := 35) rfl ?_
      refine kg_goto 2 dX10_parentOf_35 rfl ?_
      refine kg_sub [1, 2, 0] (lv2 := [(0, .ref 0), (1, .int v1), (2, .int x4)]) rfl ?_
      cases h
      exact hk
    · replace h := (if_neg q3).symm.trans h
      refine kg_aload_n 0 dX10_parentOf_20 rfl (pc2 := 21) rfl ?_
      refine kg_iload_n 2 dX10_parentOf_21 rfl (pc2 := 22) rfl ?_
      refine kg_iconst dX10_parentOf_22 ki_1 (pc2 := 23) rfl ?_
      obtain ⟨r5, r5h, h⟩ := kw_bind_e h
      refine kg_callV (μ := μX10_parentOf) (d := (d + 2)) rfl mVX10_of [.int v2, .int (1 : Int32)] [] (gX10_of (E := E) (d := (d + 2)) v2 (1 : Int32) σ r5h) rfl lmRX10_73 (ci := 10) rfl tM_0 eM_0 rfl (Nat.le_of_ble_eq_true rfl) dX10_parentOf_23 rfl (st2 := [.int r5]) rfl (pc2 := 26) rfl ?_
      refine kg_iload_n 1 dX10_parentOf_26 rfl (pc2 := 27) rfl ?_
      refine kg_icmp_ne 32 dX10_parentOf_27 rfl (pc2 := 30) rfl (fun q6 => ?_) (fun q6 => ?_)
      · replace h := (if_neg q6).symm.trans h
        obtain ⟨x7, x7e, h⟩ := kw_let_e h
        refine kg_iinc 2 dX10_parentOf_32 rfl (Nat.le_of_ble_eq_true rfl) x7e (lv2 := [(2, .int x7), (0, .ref 0), (1, .int v1)]) rfl (pc2 := 35) rfl ?_
        refine kg_goto 2 dX10_parentOf_35 rfl ?_
        refine kg_sub [1, 2, 0] (lv2 := [(0, .ref 0), (1, .int v1), (2, .int x7)]) rfl ?_
        cases h
        exact hk
      · replace h := (if_pos q6).symm.trans h
        refine kg_iload_n 2 dX10_parentOf_30 rfl (pc2 := 31) rfl ?_
        cases h
        obtain ⟨rfl, rfl⟩ := hk
        exact kg_iret (ty := .int) dX10_parentOf_31 rfl rfl
def fX10_parentOf (a1 : Int32) (σ : kw_M) : Option (Int32) :=
 (kw_loop (fun s => bX10_parentOf_2 a1 σ s) kw_F (0 : Int32)).bind fun x8 =>
 Sum.elim (fun x8r => some x8r) (fun x8 =>
 some (-1 : Int32)) x8
set_option maxHeartbeats 4000000 in
set_option maxRecDepth 100000 in
theorem gX10_parentOf {E : kw_E} {d : Nat} (a1 : Int32) (σ : kw_M) {r : Int32} (h : fX10_parentOf a1 σ = some r) : kw_Met E kwTM 21 (d + 3) μX10_parentOf [.ref 0, .int a1] σ (some (Value.int r)) σ := by
  refine kw_enter plRX10 (Nat.le_of_ble_eq_true rfl) ?_
  show kw_G E kwTM 21 (d + 3) μX10_parentOf 0 [(0, .ref 0), (1, .int a1)] [] σ (some (Value.int r)) σ
  unfold fX10_parentOf at h
  refine kg_iconst dX10_parentOf_0 ki_0 (pc2 := 1) rfl ?_
  refine kg_istore_n dX10_parentOf_1 rfl (Nat.le_of_ble_eq_true rfl) rfl (lv2 := [(2, .int (0 : Int32)), (0, .ref 0), (1, .int a1)]) rfl (pc2 := 2) rfl ?_
  refine kg_sub [1, 2, 0] (lv2 := [(0, .ref 0), (1, .int a1), (2, .int (0 : Int32))]) rfl ?_
  obtain ⟨x8, x8h, h⟩ := kw_bind_e h
  refine kw_loop_e (P := fun s => kw_G E kwTM 21 (d + 3) μX10_parentOf 2 [(0, .ref 0), (1, .int a1), (2, .int s)] [] σ (some (Value.int r)) σ) (K := Sum.elim (fun rr => (some (Value.int r)) = some (Value.int rr) ∧ σ = σ) (fun y => kw_G E kwTM 21 (d + 3) μX10_parentOf 38 [] [] σ (some (Value.int r)) σ)) (fun s o h0 hk => lX10_parentOf_2 a1 σ s h0 hk) kw_F _ _ x8h ?_
  rcases x8 with x8r | x8
  · replace h := kw_se_l h
    cases h
    exact ⟨rfl, rfl⟩
  · replace h := kw_se_r h
    show kw_G E kwTM 21 (d + 3) μX10_parentOf 38 [] [] σ (some (Value.int r)) σ
    refine kg_iconst dX10_parentOf_38 ki_m1 (pc2 := 39) rfl ?_
    cases h
    exact kg_iret (ty := .int) dX10_parentOf_39 rfl rfl
def bX10_goesBack_19 (v2 : Int32) (v3 : Int32) (σ : kw_M) : Option ((Int32 × Int32 × kw_M) ⊕ (Int32 × kw_M)) :=
 if v3 = (σ.1 1 2) then
 (some (.inr (v2, σ)))
 else
 (fX10_parentOf v3 σ).bind fun r4 =>
 kw_chk (kw_in v2 12) <|
 kw_let (kw_si σ 8 v2.toNatClampNeg r4) fun s6 =>
 (fX10_of (s6.1 8 v2.toNatClampNeg) (0 : Int32) s6).bind fun r7 =>
 kw_let (v2 + (1 : Int32)) fun x8 =>
 some (.inl (x8, r7, s6))
set_option maxHeartbeats 4000000 in
set_option maxRecDepth 100000 in
theorem lX10_goesBack_19 {E : kw_E} {d : Nat} (v2 : Int32) (v3 : Int32) (σ : kw_M) {v : Option Value} {σ2 : kw_M} {o : (Int32 × Int32 × kw_M) ⊕ (Int32 × kw_M)} (h : bX10_goesBack_19 v2 v3 σ = some o) (hk : Sum.elim (fun s => kw_G E kwTM 21 (d + 4) μX10_goesBack 19 [(0, .ref 0), (2, .int s.1), (3, .int s.2.1)] [] s.2.2 v σ2) (fun y => kw_G E kwTM 21 (d + 4) μX10_goesBack 59 [(2, .int y.1)] [] y.2 v σ2) o) : kw_G E kwTM 21 (d + 4) μX10_goesBack 19 [(0, .ref 0), (2, .int v2), (3, .int v3)] [] σ v σ2 := by
  unfold bX10_goesBack_19 at h
  refine kg_iload_n 2 dX10_goesBack_19 rfl (pc2 := 20) rfl ?_
  refine kg_aload_n 0 dX10_goesBack_20 rfl (pc2 := 21) rfl ?_
  refine kg_getr clX10 rfl 0 (Nat.le_of_ble_eq_true rfl) lfRX10_7 tM_0 eM_0 rfl dX10_goesBack_21 (pc2 := 24) rfl ?_
  refine kg_iconst dX10_goesBack_24 ki_2 (pc2 := 25) rfl ?_
  refine kg_iald tM_1 eM_1 (show kw_in (2 : Int32) 2832 by decide) (j := 2) (by decide) dX10_goesBack_25 (pc2 := 26) rfl ?_
  refine kg_icmp_eq 59 dX10_goesBack_26 rfl (pc2 := 29) rfl (fun q3 => ?_) (fun q3 => ?_)
  · replace h := (if_pos q3).symm.trans h
    refine kg_sub [1] (lv2 := [(2, .int v2)]) rfl ?_
    cases h
    exact hk
  · replace h := (if_neg q3).symm.trans h
    refine kg_aload_n 0 dX10_goesBack_29 rfl (pc2 := 30) rfl ?_
    refine kg_getr clX10 rfl 18 (Nat.le_of_ble_eq_true rfl) lfRX10_33 tM_0 eM_0 rfl dX10_goesBack_30 (pc2 := 33) rfl ?_
    refine kg_iload_n 1 dX10_goesBack_33 rfl (pc2 := 34) rfl ?_
    refine kg_aload_n 0 dX10_goesBack_34 rfl (pc2 := 35) rfl ?_
    refine kg_iload_n 2 dX10_goesBack_35 rfl (pc2 := 36) rfl ?_
    obtain ⟨r4, r4h, h⟩ := kw_bind_e h
    refine kg_callV (μ := μX10_goesBack) (d := (d + 3)) rfl mVX10_parentOf [.int v3] [.int v2, .ref 8] (gX10_parentOf (E := E) (d := d) v3 σ r4h) rfl lmRX10_306 (ci := 10) rfl tM_0 eM_0 rfl (Nat.le_of_ble_eq_true rfl) dX10_goesBack_36 rfl (st2 := [.int r4, .int v2, .ref 8]) rfl (pc2 := 39) rfl ?_
    obtain ⟨q5, h⟩ := kw_chk_e h
    obtain ⟨s6, s6e, h⟩ := kw_let_e h
    refine kg_iast tM_8 eM_8 q5 (j := v2.toNatClampNeg) rfl s6e dX10_goesBack_39 (pc2 := 40) rfl ?_
    refine kg_aload_n 0 dX10_goesBack_40 rfl (pc2 := 41) rfl ?_
    refine kg_aload_n 0 dX10_goesBack_41 rfl (pc2 := 42) rfl ?_
    refine kg_getr clX10 rfl 18 (Nat.le_of_ble_eq_true rfl) lfRX10_33 tM_0 eM_0 rfl dX10_goesBack_42 (pc2 := 45) rfl ?_
    refine kg_iload_n 1 dX10_goesBack_45 rfl (pc2 := 46) rfl ?_
    refine kg_iald tM_8 eM_8 q5 (j := v2.toNatClampNeg) rfl dX10_goesBack_46 (pc2 := 47) rfl ?_
    refine kg_iconst dX10_goesBack_47 ki_0 (pc2 := 48) rfl ?_
    obtain ⟨r7, r7h, h⟩ := kw_bind_e h
    refine kg_callV (μ := μX10_goesBack) (d := (d + 3)) rfl mVX10_of [.int (s6.1 8 v2.toNatClampNeg), .int (0 : Int32)] [] (gX10_of (E := E) (d := (d + 3)) (s6.1 8 v2.toNatClampNeg) (0 : Int32) s6 r7h) rfl lmRX10_73 (ci := 10) rfl tM_0 eM_0 rfl (Nat.le_of_ble_eq_true rfl) dX10_goesBack_48 rfl (st2 := [.int r7]) rfl (pc2 := 51) rfl ?_
    refine kg_istore_n dX10_goesBack_51 rfl (Nat.le_of_ble_eq_true rfl) rfl (lv2 := [(3, .int r7), (0, .ref 0), (2, .int v2)]) rfl (pc2 := 52) rfl ?_
    refine kg_iload_n 2 dX10_goesBack_52 rfl (pc2 := 53) rfl ?_
    refine kg_iconst dX10_goesBack_53 ki_1 (pc2 := 54) rfl ?_
    refine kg_iadd dX10_goesBack_54 (pc2 := 55) rfl ?_
    obtain ⟨x8, x8e, h⟩ := kw_let_e h
    refine kg_istore_n dX10_goesBack_55 rfl (Nat.le_of_ble_eq_true rfl) x8e (lv2 := [(2, .int x8), (3, .int r7), (0, .ref 0)]) rfl (pc2 := 56) rfl ?_
    refine kg_goto 19 dX10_goesBack_56 rfl ?_
    refine kg_sub [2, 0, 1] (lv2 := [(0, .ref 0), (2, .int x8), (3, .int r7)]) rfl ?_
    cases h
    exact hk
def fX10_goesBack (a1 : Int32) (σ : kw_M) : Option (Int32 × kw_M) :=
 kw_chk (kw_in a1 12) <|
 if (σ.2 3 a1.toNatClampNeg) = (900000000000000000 : Int64) then
 (some ((-1 : Int32), σ))
 else
 (kw_loop (fun s => bX10_goesBack_19 s.1 s.2.1 s.2.2) kw_F ((0 : Int32), a1, σ)).bind fun x9 =>
 some (x9.1, x9.2)
set_option maxHeartbeats 4000000 in
set_option maxRecDepth 100000 in
theorem gX10_goesBack {E : kw_E} {d : Nat} (a1 : Int32) (σ : kw_M) {r : Int32 × kw_M} (h : fX10_goesBack a1 σ = some r) : kw_Met E kwTM 21 (d + 4) μX10_goesBack [.ref 0, .int a1] σ (some (Value.int r.1)) r.2 := by
  refine kw_enter plRX10 (Nat.le_of_ble_eq_true rfl) ?_
  show kw_G E kwTM 21 (d + 4) μX10_goesBack 0 [(0, .ref 0), (1, .int a1)] [] σ (some (Value.int r.1)) r.2
  unfold fX10_goesBack at h
  refine kg_aload_n 0 dX10_goesBack_0 rfl (pc2 := 1) rfl ?_
  refine kg_getr clX10 rfl 3 (Nat.le_of_ble_eq_true rfl) lfRX10_17 tM_0 eM_0 rfl dX10_goesBack_1 (pc2 := 4) rfl ?_
  refine kg_iload_n 1 dX10_goesBack_4 rfl (pc2 := 5) rfl ?_
  obtain ⟨q1, h⟩ := kw_chk_e h
  refine kg_lald tM_3 eM_3 q1 (j := a1.toNatClampNeg) rfl dX10_goesBack_5 (pc2 := 6) rfl ?_
  refine kg_ldc2 rfl lcRX10_89 dX10_goesBack_6 (pc2 := 9) rfl ?_
  refine kg_lcmp_ne 15 dX10_goesBack_9 dX10_goesBack_10 rfl (pc2 := 13) rfl (fun q2 => ?_) (fun q2 => ?_)
  · replace h := (if_neg q2).symm.trans h
    refine kg_iconst dX10_goesBack_15 ki_0 (pc2 := 16) rfl ?_
    refine kg_istore_n dX10_goesBack_16 rfl (Nat.le_of_ble_eq_true rfl) rfl (lv2 := [(2, .int (0 : Int32)), (0, .ref 0), (1, .int a1)]) rfl (pc2 := 17) rfl ?_
    refine kg_iload_n 2 dX10_goesBack_17 rfl (pc2 := 18) rfl ?_
    refine kg_istore_n dX10_goesBack_18 rfl (Nat.le_of_ble_eq_true rfl) rfl (lv2 := [(3, .int a1), (2, .int (0 : Int32)), (0, .ref 0), (1, .int a1)]) rfl (pc2 := 19) rfl ?_
    refine kg_sub [2, 1, 0] (lv2 := [(0, .ref 0), (2, .int (0 : Int32)), (3, .int a1)]) rfl ?_
    obtain ⟨x9, x9h, h⟩ := kw_bind_e h
    refine kw_loop_e (P := fun s => kw_G E kwTM 21 (d + 4) μX10_goesBack 19 [(0, .ref 0), (2, .int s.1), (3, .int s.2.1)] [] s.2.2 (some (Value.int r.1)) r.2) (K := fun y => kw_G E kwTM 21 (d + 4) μX10_goesBack 59 [(2, .int y.1)] [] y.2 (some (Value.int r.1)) r.2) (fun s o h0 hk => lX10_goesBack_19 s.1 s.2.1 s.2.2 h0 hk) kw_F _ _ x9h ?_
    show kw_G E kwTM 21 (d + 4) μX10_goesBack 59 [(2, .int x9.1)] [] x9.2 (some (Value.int r.1)) r.2
    refine kg_iload_n 0 dX10_goesBack_59 rfl (pc2 := 60) rfl ?_
    cases h
    exact kg_iret (ty := .int) dX10_goesBack_60 rfl rfl
  · replace h := (if_pos q2).symm.trans h
    refine kg_iconst dX10_goesBack_13 ki_m1 (pc2 := 14) rfl ?_
    cases h
    exact kg_iret (ty := .int) dX10_goesBack_14 rfl rfl
