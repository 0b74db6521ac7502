/-! The reference, method by method: what it computes (f), and that the machine does so (g). -/
def bX10_narrowOf_34 (v1 : Int32) (σ : kw_M) (v2 : Int64) (v4 : Int32) : Option ((Int64 × Int32) ⊕ (Int64)) :=
 if (σ.1 1 1) ≤ v4 then
 (some (.inr v2))
 else
 (fX10_isOpen v4 σ).bind fun r5 =>
 if r5 = (0 : Int32) then
 (kw_let (v4 + (1 : Int32)) fun x7 =>
 some (.inl (v2, x7)))
 else
 (fX10_of v4 (2 : Int32) σ).bind fun r8 =>
 if v2 ≤ r8.toInt64 then
 (kw_let (v4 + (1 : Int32)) fun x10 =>
 some (.inl (v2, x10)))
 else
 (fX10_of v4 (2 : Int32) σ).bind fun r11 =>
 (fX10_comesBy r11 σ).bind fun r12 =>
 (fX10_has r12 v1 σ).bind fun r13 =>
 if r13 = (0 : Int32) then
 (kw_let (v4 + (1 : Int32)) fun x15 =>
 some (.inl (v2, x15)))
 else
 (fX10_of v4 (2 : Int32) σ).bind fun r16 =>
 kw_let (v4 + (1 : Int32)) fun x17 =>
 some (.inl (r16.toInt64, x17))
set_option maxHeartbeats 4000000 in
set_option maxRecDepth 100000 in
theorem lX10_narrowOf_34 {E : kw_E} {d : Nat} (v1 : Int32) (σ : kw_M) (v2 : Int64) (v4 : Int32) {v : Option Value} {σ2 : kw_M} {o : (Int64 × Int32) ⊕ (Int64)} (h : bX10_narrowOf_34 v1 σ v2 v4 = some o) (hk : Sum.elim (fun s => kw_G E kwTM 21 (d + 3) μX10_narrowOf 34 [(0, .ref 0), (1, .int v1), (2, .long s.1), (4, .int s.2)] [] σ v σ2) (fun y => kw_G E kwTM 21 (d + 3) μX10_narrowOf 100 [(2, .long y)] [] σ v σ2) o) : kw_G E kwTM 21 (d + 3) μX10_narrowOf 34 [(0, .ref 0), (1, .int v1), (2, .long v2), (4, .int v4)] [] σ v σ2 := by
  unfold bX10_narrowOf_34 at h
  refine kg_iload 3 dX10_narrowOf_34 rfl (pc2 := 36) rfl ?_
  refine kg_aload_n 0 dX10_narrowOf_36 rfl (pc2 := 37) rfl ?_
  refine kg_getr clX10 rfl 0 (Nat.le_of_ble_eq_true rfl) lfRX10_7 tM_0 eM_0 rfl dX10_narrowOf_37 (pc2 := 40) rfl ?_
  refine kg_iconst dX10_narrowOf_40 ki_1 (pc2 := 41) rfl ?_
  refine kg_iald tM_1 eM_1 (show kw_in (1 : Int32) 2832 by decide) (j := 1) (by decide) dX10_narrowOf_41 (pc2 := 42) rfl ?_
  refine kg_icmp_ge 100 dX10_narrowOf_42 rfl (pc2 := 45) rfl (fun q4 => ?_) (fun q4 => ?_)
  · replace h := (if_pos q4).symm.trans h
    refine kg_sub [2] (lv2 := [(2, .long v2)]) rfl ?_
    cases h
    exact hk
  · replace h := (if_neg q4).symm.trans h
    refine kg_aload_n 0 dX10_narrowOf_45 rfl (pc2 := 46) rfl ?_
    refine kg_iload 3 dX10_narrowOf_46 rfl (pc2 := 48) rfl ?_
    obtain ⟨r5, r5h, h⟩ := kw_bind_e h
    refine kg_callV (d := (d + 2)) rfl mVX10_isOpen [.int v4] [] (gX10_isOpen (E := E) (d := (d + 1)) v4 σ r5h) rfl lmRX10_91 (ci := 10) rfl tM_0 eM_0 rfl (Nat.le_of_ble_eq_true rfl) dX10_narrowOf_48 rfl (st2 := [.int r5]) rfl (pc2 := 51) rfl ?_
    refine kg_if_eq 94 dX10_narrowOf_51 rfl (pc2 := 54) rfl (fun q6 => ?_) (fun q6 => ?_)
    · replace h := (if_pos q6).symm.trans h
      obtain ⟨x7, x7e, h⟩ := kw_let_e h
      refine kg_iinc 3 dX10_narrowOf_94 rfl (Nat.le_of_ble_eq_true rfl) x7e (lv2 := [(4, .int x7), (0, .ref 0), (1, .int v1), (2, .long v2)]) rfl (pc2 := 97) rfl ?_
      refine kg_goto 34 dX10_narrowOf_97 rfl ?_
      refine kg_sub [1, 2, 3, 0] (lv2 := [(0, .ref 0), (1, .int v1), (2, .long v2), (4, .int x7)]) rfl ?_
      cases h
      exact hk
    · replace h := (if_neg q6).symm.trans h
      refine kg_aload_n 0 dX10_narrowOf_54 rfl (pc2 := 55) rfl ?_
      refine kg_iload 3 dX10_narrowOf_55 rfl (pc2 := 57) rfl ?_
      refine kg_iconst dX10_narrowOf_57 ki_2 (pc2 := 58) rfl ?_
      obtain ⟨r8, r8h, h⟩ := kw_bind_e h
      refine kg_callV (d := (d + 2)) rfl mVX10_of [.int v4, .int (2 : Int32)] [] (gX10_of (E := E) (d := (d + 2)) v4 (2 : Int32) σ r8h) rfl lmRX10_73 (ci := 10) rfl tM_0 eM_0 rfl (Nat.le_of_ble_eq_true rfl) dX10_narrowOf_58 rfl (st2 := [.int r8]) rfl (pc2 := 61) rfl ?_
      refine kg_i2l dX10_narrowOf_61 (pc2 := 62) rfl ?_
      refine kg_lload_n 2 dX10_narrowOf_62 rfl (pc2 := 63) rfl ?_
      refine kg_lcmp_ge 94 dX10_narrowOf_63 dX10_narrowOf_64 rfl (pc2 := 67) rfl (fun q9 => ?_) (fun q9 => ?_)
      · replace h := (if_pos q9).symm.trans h
        obtain ⟨x10, x10e, h⟩ := kw_let_e h
        refine kg_iinc 3 dX10_narrowOf_94 rfl (Nat.le_of_ble_eq_true rfl) x10e (lv2 := [(4, .int x10), (0, .ref 0), (1, .int v1), (2, .long v2)]) rfl (pc2 := 97) rfl ?_
        refine kg_goto 34 dX10_narrowOf_97 rfl ?_
        refine kg_sub [1, 2, 3, 0] (lv2 := [(0, .ref 0), (1, .int v1), (2, .long v2), (4, .int x10)]) rfl ?_
        cases h
        exact hk
      · replace h := (if_neg q9).symm.trans h
        refine kg_aload_n 0 dX10_narrowOf_67 rfl (pc2 := 68) rfl ?_
        refine kg_aload_n 0 dX10_narrowOf_68 rfl (pc2 := 69) rfl ?_
        refine kg_iload 3 dX10_narrowOf_69 rfl (pc2 := 71) rfl ?_
        refine kg_iconst dX10_narrowOf_71 ki_2 (pc2 := 72) rfl ?_
        obtain ⟨r11, r11h, h⟩ := kw_bind_e h
        refine kg_callV (d := (d + 2)) rfl mVX10_of [.int v4, .int (2 : Int32)] [.ref 0] (gX10_of (E := E) (d := (d + 2)) v4 (2 : Int32) σ r11h) rfl lmRX10_73 (ci := 10) rfl tM_0 eM_0 rfl (Nat.le_of_ble_eq_true rfl) dX10_narrowOf_72 rfl (st2 := [.int r11, .ref 0]) rfl (pc2 := 75) rfl ?_
        obtain ⟨r12, r12h, h⟩ := kw_bind_e h
        refine kg_callV (d := (d + 2)) rfl mVX10_comesBy [.int r11] [] (gX10_comesBy (E := E) (d := d) r11 σ r12h) rfl lmRX10_333 (ci := 10) rfl tM_0 eM_0 rfl (Nat.le_of_ble_eq_true rfl) dX10_narrowOf_75 rfl (st2 := [.int r12]) rfl (pc2 := 78) rfl ?_
        refine kg_iload_n 1 dX10_narrowOf_78 rfl (pc2 := 79) rfl ?_
        obtain ⟨r13, r13h, h⟩ := kw_bind_e h
        refine kg_callS (d := (d + 2)) rfl mSX10_has [.int r12, .int v1] [] (gX10_has (E := E) (d := (d + 2)) r12 v1 σ r13h) rfl lmRX10_321 rfl (Nat.le_of_ble_eq_true rfl) dX10_narrowOf_79 rfl (st2 := [.int r13]) rfl (pc2 := 82) rfl ?_
        refine kg_if_eq 94 dX10_narrowOf_82 rfl (pc2 := 85) rfl (fun q14 => ?_) (fun q14 => ?_)
        · replace h := (if_pos q14).symm.trans h
          obtain ⟨x15, x15e, h⟩ := kw_let_e h
          refine kg_iinc 3 dX10_narrowOf_94 rfl (Nat.le_of_ble_eq_true rfl) x15e (lv2 := [(4, .int x15), (0, .ref 0), (1, .int v1), (2, .long v2)]) rfl (pc2 := 97) rfl ?_
          refine kg_goto 34 dX10_narrowOf_97 rfl ?_
          refine kg_sub [1, 2, 3, 0] (lv2 := [(0, .ref 0), (1, .int v1), (2, .long v2), (4, .int x15)]) rfl ?_
          cases h
          exact hk
        · replace h := (if_neg q14).symm.trans h
          refine kg_aload_n 0 dX10_narrowOf_85 rfl (pc2 := 86) rfl ?_
          refine kg_iload 3 dX10_narrowOf_86 rfl (pc2 := 88) rfl ?_
          refine kg_iconst dX10_narrowOf_88 ki_2 (pc2 := 89) rfl ?_
          obtain ⟨r16, r16h, h⟩ := kw_bind_e h
          refine kg_callV (d := (d + 2)) rfl mVX10_of [.int v4, .int (2 : Int32)] [] (gX10_of (E := E) (d := (d + 2)) v4 (2 : Int32) σ r16h) rfl lmRX10_73 (ci := 10) rfl tM_0 eM_0 rfl (Nat.le_of_ble_eq_true rfl) dX10_narrowOf_89 rfl (st2 := [.int r16]) rfl (pc2 := 92) rfl ?_
          refine kg_i2l dX10_narrowOf_92 (pc2 := 93) rfl ?_
          refine kg_lstore_n dX10_narrowOf_93 rfl (Nat.le_of_ble_eq_true rfl) rfl (lv2 := [(2, .long r16.toInt64), (0, .ref 0), (1, .int v1), (4, .int v4)]) rfl (pc2 := 94) rfl ?_
          obtain ⟨x17, x17e, h⟩ := kw_let_e h
          refine kg_iinc 3 dX10_narrowOf_94 rfl (Nat.le_of_ble_eq_true rfl) x17e (lv2 := [(4, .int x17), (2, .long r16.toInt64), (0, .ref 0), (1, .int v1)]) rfl (pc2 := 97) rfl ?_
          refine kg_goto 34 dX10_narrowOf_97 rfl ?_
          refine kg_sub [2, 3, 1, 0] (lv2 := [(0, .ref 0), (1, .int v1), (2, .long r16.toInt64), (4, .int x17)]) rfl ?_
          cases h
          exact hk
def fX10_narrowOf (a1 : Int32) (σ : kw_M) : Option (Int64) :=
 if a1 = (σ.1 1 2) then
 (some (900000000000000000 : Int64))
 else
 kw_chk (kw_in a1 12) <|
 if (σ.2 3 a1.toNatClampNeg) = (900000000000000000 : Int64) then
 (some (900000000000000000 : Int64))
 else
 (kw_loop (fun s => bX10_narrowOf_34 a1 σ s.1 s.2) kw_F ((900000000000000000 : Int64), (0 : Int32))).bind fun x18 =>
 some x18
set_option maxHeartbeats 4000000 in
set_option maxRecDepth 100000 in
theorem gX10_narrowOf {E : kw_E} {d : Nat} (a1 : Int32) (σ : kw_M) {r : Int64} (h : fX10_narrowOf a1 σ = some r) : kw_Met E kwTM 21 (d + 3) μX10_narrowOf [.ref 0, .int a1] σ (some (Value.long r)) σ := by
  refine kw_enter plRX10 (Nat.le_of_ble_eq_true rfl) ?_
  show kw_G E kwTM 21 (d + 3) μX10_narrowOf 0 [(0, .ref 0), (1, .int a1)] [] σ (some (Value.long r)) σ
  unfold fX10_narrowOf at h
  refine kg_iload_n 1 dX10_narrowOf_0 rfl (pc2 := 1) rfl ?_
  refine kg_aload_n 0 dX10_narrowOf_1 rfl (pc2 := 2) rfl ?_
  refine kg_getr clX10 rfl 0 (Nat.le_of_ble_eq_true rfl) lfRX10_7 tM_0 eM_0 rfl dX10_narrowOf_2 (pc2 := 5) rfl ?_
  refine kg_iconst dX10_narrowOf_5 ki_2 (pc2 := 6) rfl ?_
  refine kg_iald tM_1 eM_1 (show kw_in (2 : Int32) 2832 by decide) (j := 2) (by decide) dX10_narrowOf_6 (pc2 := 7) rfl ?_
  refine kg_icmp_eq 23 dX10_narrowOf_7 rfl (pc2 := 10) rfl (fun q1 => ?_) (fun q1 => ?_)
  · replace h := (if_pos q1).symm.trans h
    refine kg_ldc2 rfl lcRX10_89 dX10_narrowOf_23 (pc2 := 26) rfl ?_
    cases h
    exact kg_lret dX10_narrowOf_26 rfl
  · replace h := (if_neg q1).symm.trans h
    refine kg_aload_n 0 dX10_narrowOf_10 rfl (pc2 := 11) rfl ?_
    refine kg_getr clX10 rfl 3 (Nat.le_of_ble_eq_true rfl) lfRX10_17 tM_0 eM_0 rfl dX10_narrowOf_11 (pc2 := 14) rfl ?_
    refine kg_iload_n 1 dX10_narrowOf_14 rfl (pc2 := 15) rfl ?_
    obtain ⟨q2, h⟩ := kw_chk_e h
    refine kg_lald tM_3 eM_3 q2 (j := a1.toNatClampNeg) rfl dX10_narrowOf_15 (pc2 := 16) rfl ?_
    refine kg_ldc2 rfl lcRX10_89 dX10_narrowOf_16 (pc2 := 19) rfl ?_
    refine kg_lcmp_ne 27 dX10_narrowOf_19 dX10_narrowOf_20 rfl (pc2 := 23) rfl (fun q3 => ?_) (fun q3 => ?_)
    · replace h := (if_neg q3).symm.trans h
      refine kg_ldc2 rfl lcRX10_89 dX10_narrowOf_27 (pc2 := 30) rfl ?_
      refine kg_lstore_n dX10_narrowOf_30 rfl (Nat.le_of_ble_eq_true rfl) rfl (lv2 := [(2, .long (900000000000000000 : Int64)), (0, .ref 0), (1, .int a1)]) rfl (pc2 := 31) rfl ?_
      refine kg_iconst dX10_narrowOf_31 ki_0 (pc2 := 32) rfl ?_
      refine kg_istore dX10_narrowOf_32 (Nat.le_of_ble_eq_true rfl) rfl (lv2 := [(4, .int (0 : Int32)), (2, .long (900000000000000000 : Int64)), (0, .ref 0), (1, .int a1)]) rfl (pc2 := 34) rfl ?_
      refine kg_sub [2, 3, 1, 0] (lv2 := [(0, .ref 0), (1, .int a1), (2, .long (900000000000000000 : Int64)), (4, .int (0 : Int32))]) rfl ?_
      obtain ⟨x18, x18h, h⟩ := kw_bind_e h
      refine kw_loop_e (P := fun s => kw_G E kwTM 21 (d + 3) μX10_narrowOf 34 [(0, .ref 0), (1, .int a1), (2, .long s.1), (4, .int s.2)] [] σ (some (Value.long r)) σ) (K := fun y => kw_G E kwTM 21 (d + 3) μX10_narrowOf 100 [(2, .long y)] [] σ (some (Value.long r)) σ) (fun s o h0 hk => lX10_narrowOf_34 a1 σ s.1 s.2 h0 hk) kw_F _ _ x18h ?_
      show kw_G E kwTM 21 (d + 3) μX10_narrowOf 100 [(2, .long x18)] [] σ (some (Value.long r)) σ
      refine kg_lload_n 0 dX10_narrowOf_100 rfl (pc2 := 101) rfl ?_
      cases h
      exact kg_lret dX10_narrowOf_101 rfl
    · replace h := (if_pos q3).symm.trans h
      refine kg_ldc2 rfl lcRX10_89 dX10_narrowOf_23 (pc2 := 26) rfl ?_
      cases h
      exact kg_lret dX10_narrowOf_26 rfl
def bX10_apartOf_23 (v1 : Int32) (v2 : Int32) (v3 : Int32) (σ : kw_M) : Option ((Int32 × kw_M) ⊕ (kw_M)) :=
 if (36 : Int32) ≤ v3 then
 (some (.inr σ))
 else
 kw_chk (kw_in v3 36) <|
 kw_let (kw_si σ 16 v3.toNatClampNeg (vp_nar .boolean (0 : Int32))) fun s6 =>
 kw_let (v3 + (1 : Int32)) fun x7 =>
 some (.inl (x7, s6))
set_option maxHeartbeats 4000000 in
set_option maxRecDepth 100000 in
theorem lX10_apartOf_23 {E : kw_E} {d : Nat} (v1 : Int32) (v2 : Int32) (v3 : Int32) (σ : kw_M) {v : Option Value} {σ2 : kw_M} {o : (Int32 × kw_M) ⊕ (kw_M)} (h : bX10_apartOf_23 v1 v2 v3 σ = some o) (hk : Sum.elim (fun s => kw_G E kwTM 21 (d + 5) μX10_apartOf 23 [(0, .ref 0), (1, .int v1), (2, .int v2), (3, .int s.1)] [] s.2 v σ2) (fun y => kw_G E kwTM 21 (d + 5) μX10_apartOf 42 [(0, .ref 0), (1, .int v1), (2, .int v2)] [] y v σ2) o) : kw_G E kwTM 21 (d + 5) μX10_apartOf 23 [(0, .ref 0), (1, .int v1), (2, .int v2), (3, .int v3)] [] σ v σ2 := by
  unfold bX10_apartOf_23 at h
  refine kg_iload_n 3 dX10_apartOf_23 rfl (pc2 := 24) rfl ?_
  refine kg_bipush dX10_apartOf_24 kb_36 (pc2 := 26) rfl ?_
  refine kg_icmp_ge 42 dX10_apartOf_26 rfl (pc2 := 29) rfl (fun q4 => ?_) (fun q4 => ?_)
  · replace h := (if_pos q4).symm.trans h
    refine kg_sub [0, 1, 2] (lv2 := [(0, .ref 0), (1, .int v1), (2, .int v2)]) rfl ?_
    cases h
    exact hk
  · replace h := (if_neg q4).symm.trans h
    refine kg_aload_n 0 dX10_apartOf_29 rfl (pc2 := 30) rfl ?_
    refine kg_getr clX10 rfl 26 (Nat.le_of_ble_eq_true rfl) lfRX10_57 tM_0 eM_0 rfl dX10_apartOf_30 (pc2 := 33) rfl ?_
    refine kg_iload_n 3 dX10_apartOf_33 rfl (pc2 := 34) rfl ?_
    refine kg_iconst dX10_apartOf_34 ki_0 (pc2 := 35) rfl ?_
    obtain ⟨q5, h⟩ := kw_chk_e h
    obtain ⟨s6, s6e, h⟩ := kw_let_e h
    refine kg_zast tM_16 eM_16 q5 (j := v3.toNatClampNeg) rfl s6e dX10_apartOf_35 (pc2 := 36) rfl ?_
    obtain ⟨x7, x7e, h⟩ := kw_let_e h
    refine kg_iinc 3 dX10_apartOf_36 rfl (Nat.le_of_ble_eq_true rfl) x7e (lv2 := [(3, .int x7), (0, .ref 0), (1, .int v1), (2, .int v2)]) rfl (pc2 := 39) rfl ?_
    refine kg_goto 23 dX10_apartOf_39 rfl ?_
    refine kg_sub [1, 2, 3, 0] (lv2 := [(0, .ref 0), (1, .int v1), (2, .int v2), (3, .int x7)]) rfl ?_
    cases h
    exact hk
def bX10_apartOf_44 (v1 : Int32) (v2 : Int32) (v3 : Int32) (σ : kw_M) : Option ((Int32 × kw_M) ⊕ (kw_M)) :=
 if v2 ≤ v3 then
 (some (.inr σ))
 else
 kw_chk (kw_in v3 12) <|
 kw_chk (kw_in (σ.1 8 v3.toNatClampNeg) 36) <|
 kw_let (kw_si σ 16 (σ.1 8 v3.toNatClampNeg).toNatClampNeg (vp_nar .boolean (1 : Int32))) fun s12 =>
 kw_let (v3 + (1 : Int32)) fun x13 =>
 some (.inl (x13, s12))
set_option maxHeartbeats 4000000 in
set_option maxRecDepth 100000 in
theorem lX10_apartOf_44 {E : kw_E} {d : Nat} (v1 : Int32) (v2 : Int32) (v3 : Int32) (σ : kw_M) {v : Option Value} {σ2 : kw_M} {o : (Int32 × kw_M) ⊕ (kw_M)} (h : bX10_apartOf_44 v1 v2 v3 σ = some o) (hk : Sum.elim (fun s => kw_G E kwTM 21 (d + 5) μX10_apartOf 44 [(0, .ref 0), (1, .int v1), (2, .int v2), (3, .int s.1)] [] s.2 v σ2) (fun y => kw_G E kwTM 21 (d + 5) μX10_apartOf 67 [(0, .ref 0), (1, .int v1)] [] y v σ2) o) : kw_G E kwTM 21 (d + 5) μX10_apartOf 44 [(0, .ref 0), (1, .int v1), (2, .int v2), (3, .int v3)] [] σ v σ2 := by
  unfold bX10_apartOf_44 at h
  refine kg_iload_n 3 dX10_apartOf_44 rfl (pc2 := 45) rfl ?_
  refine kg_iload_n 2 dX10_apartOf_45 rfl (pc2 := 46) rfl ?_
  refine kg_icmp_ge 67 dX10_apartOf_46 rfl (pc2 := 49) rfl (fun q9 => ?_) (fun q9 => ?_)
  · replace h := (if_pos q9).symm.trans h
    refine kg_sub [0, 1] (lv2 := [(0, .ref 0), (1, .int v1)]) rfl ?_
    cases h
    exact hk
  · replace h := (if_neg q9).symm.trans h
    refine kg_aload_n 0 dX10_apartOf_49 rfl (pc2 := 50) rfl ?_
    refine kg_getr clX10 rfl 26 (Nat.le_of_ble_eq_true rfl) lfRX10_57 tM_0 eM_0 rfl dX10_apartOf_50 (pc2 := 53) rfl ?_
    refine kg_aload_n 0 dX10_apartOf_53 rfl (pc2 := 54) rfl ?_
    refine kg_getr clX10 rfl 18 (Nat.le_of_ble_eq_true rfl) lfRX10_33 tM_0 eM_0 rfl dX10_apartOf_54 (pc2 := 57) rfl ?_
    refine kg_iload_n 3 dX10_apartOf_57 rfl (pc2 := 58) rfl ?_
    obtain ⟨q10, h⟩ := kw_chk_e h
    refine kg_iald tM_8 eM_8 q10 (j := v3.toNatClampNeg) rfl dX10_apartOf_58 (pc2 := 59) rfl ?_
    refine kg_iconst dX10_apartOf_59 ki_1 (pc2 := 60) rfl ?_
    obtain ⟨q11, h⟩ := kw_chk_e h
    obtain ⟨s12, s12e, h⟩ := kw_let_e h
    refine kg_zast tM_16 eM_16 q11 (j := (σ.1 8 v3.toNatClampNeg).toNatClampNeg) rfl s12e dX10_apartOf_60 (pc2 := 61) rfl ?_
    obtain ⟨x13, x13e, h⟩ := kw_let_e h
    refine kg_iinc 3 dX10_apartOf_61 rfl (Nat.le_of_ble_eq_true rfl) x13e (lv2 := [(3, .int x13), (0, .ref 0), (1, .int v1), (2, .int v2)]) rfl (pc2 := 64) rfl ?_
    refine kg_goto 44 dX10_apartOf_64 rfl ?_
    refine kg_sub [1, 2, 3, 0] (lv2 := [(0, .ref 0), (1, .int v1), (2, .int v2), (3, .int x13)]) rfl ?_
    cases h
    exact hk
def bX10_apartOf_69 (v1 : Int32) (v3 : Int32) (σ : kw_M) : Option ((Int32 × kw_M) ⊕ (kw_M)) :=
 if (12 : Int32) ≤ v3 then
 (some (.inr σ))
 else
 if v3 = (σ.1 1 2) then
 (kw_chk (kw_in v3 12) <|
 kw_let (kw_sl σ 2 v3.toNatClampNeg (0 : Int64)) fun s21 =>
 kw_let (v3 + (1 : Int32)) fun x22 =>
 some (.inl (x22, s21)))
 else
 kw_chk (kw_in v3 12) <|
 kw_let (kw_sl σ 2 v3.toNatClampNeg (900000000000000000 : Int64)) fun s18 =>
 kw_let (v3 + (1 : Int32)) fun x19 =>
 some (.inl (x19, s18))
set_option maxHeartbeats 4000000 in
set_option maxRecDepth 100000 in
theorem lX10_apartOf_69 {E : kw_E} {d : Nat} (v1 : Int32) (v3 : Int32) (σ : kw_M) {v : Option Value} {σ2 : kw_M} {o : (Int32 × kw_M) ⊕ (kw_M)} (h : bX10_apartOf_69 v1 v3 σ = some o) (hk : Sum.elim (fun s => kw_G E kwTM 21 (d + 5) μX10_apartOf 69 [(0, .ref 0), (1, .int v1), (3, .int s.1)] [] s.2 v σ2) (fun y => kw_G E kwTM 21 (d + 5) μX10_apartOf 104 [(0, .ref 0), (1, .int v1)] [] y v σ2) o) : kw_G E kwTM 21 (d + 5) μX10_apartOf 69 [(0, .ref 0), (1, .int v1), (3, .int v3)] [] σ v σ2 := by
  unfold bX10_apartOf_69 at h
  refine kg_iload_n 2 dX10_apartOf_69 rfl (pc2 := 70) rfl ?_
  refine kg_bipush dX10_apartOf_70 kb_12 (pc2 := 72) rfl ?_
  refine kg_icmp_ge 104 dX10_apartOf_72 rfl (pc2 := 75) rfl (fun q15 => ?_) (fun q15 => ?_)
  · replace h := (if_pos q15).symm.trans h
    refine kg_sub [0, 1] (lv2 := [(0, .ref 0), (1, .int v1)]) rfl ?_
    cases h
    exact hk
  · replace h := (if_neg q15).symm.trans h
    refine kg_aload_n 0 dX10_apartOf_75 rfl (pc2 := 76) rfl ?_
    refine kg_getr clX10 rfl 2 (Nat.le_of_ble_eq_true rfl) lfRX10_13 tM_0 eM_0 rfl dX10_apartOf_76 (pc2 := 79) rfl ?_
    refine kg_iload_n 2 dX10_apartOf_79 rfl (pc2 := 80) rfl ?_
    refine kg_iload_n 2 dX10_apartOf_80 rfl (pc2 := 81) rfl ?_
    refine kg_aload_n 0 dX10_apartOf_81 rfl (pc2 := 82) rfl ?_
    refine kg_getr clX10 rfl 0 (Nat.le_of_ble_eq_true rfl) lfRX10_7 tM_0 eM_0 rfl dX10_apartOf_82 (pc2 := 85) rfl ?_
    refine kg_iconst dX10_apartOf_85 ki_2 (pc2 := 86) rfl ?_
    refine kg_iald tM_1 eM_1 (show kw_in (2 : Int32) 2832 by decide) (j := 2) (by decide) dX10_apartOf_86 (pc2 := 87) rfl ?_
    refine kg_icmp_ne 94 dX10_apartOf_87 rfl (pc2 := 90) rfl (fun q16 => ?_) (fun q16 => ?_)
    · replace h := (if_neg q16).symm.trans h
      refine kg_ldc2 rfl lcRX10_89 dX10_apartOf_94 (pc2 := 97) rfl ?_
      obtain ⟨q17, h⟩ := kw_chk_e h
      obtain ⟨s18, s18e, h⟩ := kw_let_e h
      refine kg_last tM_2 eM_2 q17 (j := v3.toNatClampNeg) rfl s18e dX10_apartOf_97 (pc2 := 98) rfl ?_
      obtain ⟨x19, x19e, h⟩ := kw_let_e h
      refine kg_iinc 2 dX10_apartOf_98 rfl (Nat.le_of_ble_eq_true rfl) x19e (lv2 := [(3, .int x19), (0, .ref 0), (1, .int v1)]) rfl (pc2 := 101) rfl ?_
      refine kg_goto 69 dX10_apartOf_101 rfl ?_
      refine kg_sub [1, 2, 0] (lv2 := [(0, .ref 0), (1, .int v1), (3, .int x19)]) rfl ?_
      cases h
      exact hk
    · replace h := (if_pos q16).symm.trans h
      refine kg_lconst dX10_apartOf_90 kl_0 (pc2 := 91) rfl ?_
      refine kg_goto 97 dX10_apartOf_91 rfl ?_
      obtain ⟨q20, h⟩ := kw_chk_e h
      obtain ⟨s21, s21e, h⟩ := kw_let_e h
      refine kg_last tM_2 eM_2 q20 (j := v3.toNatClampNeg) rfl s21e dX10_apartOf_97 (pc2 := 98) rfl ?_
      obtain ⟨x22, x22e, h⟩ := kw_let_e h
      refine kg_iinc 2 dX10_apartOf_98 rfl (Nat.le_of_ble_eq_true rfl) x22e (lv2 := [(3, .int x22), (0, .ref 0), (1, .int v1)]) rfl (pc2 := 101) rfl ?_
      refine kg_goto 69 dX10_apartOf_101 rfl ?_
      refine kg_sub [1, 2, 0] (lv2 := [(0, .ref 0), (1, .int v1), (3, .int x22)]) rfl ?_
      cases h
      exact hk
def jX10_apartOf_252_L119 (pv1 : Int32) (pv3 : Int32) (v1 : Int32) (v3 : Int32) (v4 : Int32) (v6 : Int32) (t0 : Int32) (t1 : Int64) (σ : kw_M) : Option ((Int32 × kw_M) ⊕ (kw_M)) :=
 kw_let (t1 + t0.toInt64) fun x40 =>
 kw_chk (kw_in v6 12) <|
 if (σ.2 2 v6.toNatClampNeg) ≤ x40 then
 (kw_let (v4 + (1 : Int32)) fun x43 =>
 some (.inl (x43, σ)))
 else
 kw_let (kw_sl σ 2 v6.toNatClampNeg x40) fun s44 =>
 kw_let (v4 + (1 : Int32)) fun x45 =>
 some (.inl (x45, s44))
set_option maxHeartbeats 4000000 in
set_option maxRecDepth 100000 in
theorem gjX10_apartOf_252_L119 {E : kw_E} {d : Nat} (pv1 : Int32) (pv3 : Int32) (v1 : Int32) (v3 : Int32) (v4 : Int32) (v6 : Int32) (t0 : Int32) (t1 : Int64) (σ : kw_M) {v : Option Value} {σ2 : kw_M} {o : (Int32 × kw_M) ⊕ (kw_M)} (h : jX10_apartOf_252_L119 pv1 pv3 v1 v3 v4 v6 t0 t1 σ = some o) (hk : Sum.elim (fun s => kw_G E kwTM 21 (d + 5) μX10_apartOf 119 [(0, .ref 0), (1, .int pv1), (3, .int pv3), (4, .int s.1)] [] s.2 v σ2) (fun y => kw_G E kwTM 21 (d + 5) μX10_apartOf 284 [(0, .ref 0), (1, .int pv1), (3, .int pv3)] [] y v σ2) o) : kw_G E kwTM 21 (d + 5) μX10_apartOf 252 [(0, .ref 0), (1, .int v1), (3, .int v3), (4, .int v4), (6, .int v6)] [.int t0, .long t1] σ v σ2 := by
  unfold jX10_apartOf_252_L119 at h
  refine kg_i2l dX10_apartOf_252 (pc2 := 253) rfl ?_
  refine kg_ladd dX10_apartOf_253 (pc2 := 254) rfl ?_
  obtain ⟨x40, x40e, h⟩ := kw_let_e h
  refine kg_lstore dX10_apartOf_254 (Nat.le_of_ble_eq_true rfl) x40e (lv2 := [(7, .long x40), (0, .ref 0), (1, .int v1), (3, .int v3), (4, .int v4), (6, .int v6)]) rfl (pc2 := 256) rfl ?_
  refine kg_lload 0 dX10_apartOf_256 rfl (pc2 := 258) rfl ?_
  refine kg_aload_n 1 dX10_apartOf_258 rfl (pc2 := 259) rfl ?_
  refine kg_getr clX10 rfl 2 (Nat.le_of_ble_eq_true rfl) lfRX10_13 tM_0 eM_0 rfl dX10_apartOf_259 (pc2 := 262) rfl ?_
  refine kg_iload 5 dX10_apartOf_262 rfl (pc2 := 264) rfl ?_
  obtain ⟨q41, h⟩ := kw_chk_e h
  refine kg_lald tM_2 eM_2 q41 (j := v6.toNatClampNeg) rfl dX10_apartOf_264 (pc2 := 265) rfl ?_
  refine kg_lcmp_ge 278 dX10_apartOf_265 dX10_apartOf_266 rfl (pc2 := 269) rfl (fun q42 => ?_) (fun q42 => ?_)
  · replace h := (if_pos q42).symm.trans h
    obtain ⟨x43, x43e, h⟩ := kw_let_e h
    refine kg_iinc 4 dX10_apartOf_278 rfl (Nat.le_of_ble_eq_true rfl) x43e (lv2 := [(4, .int x43), (7, .long x40), (0, .ref 0), (1, .int v1), (3, .int v3), (6, .int v6)]) rfl (pc2 := 281) rfl ?_
    refine kg_goto 119 dX10_apartOf_281 rfl ?_
    refine kg_sub [2, 3, 4, 0] (lv2 := [(0, .ref 0), (1, .int v1), (3, .int v3), (4, .int x43)]) rfl ?_
    cases h
    exact hk
  · replace h := (if_neg q42).symm.trans h
    refine kg_aload_n 1 dX10_apartOf_269 rfl (pc2 := 270) rfl ?_
    refine kg_getr clX10 rfl 2 (Nat.le_of_ble_eq_true rfl) lfRX10_13 tM_0 eM_0 rfl dX10_apartOf_270 (pc2 := 273) rfl ?_
    refine kg_iload 5 dX10_apartOf_273 rfl (pc2 := 275) rfl ?_
    refine kg_lload 0 dX10_apartOf_275 rfl (pc2 := 277) rfl ?_
    obtain ⟨s44, s44e, h⟩ := kw_let_e h
    refine kg_last tM_2 eM_2 q41 (j := v6.toNatClampNeg) rfl s44e dX10_apartOf_277 (pc2 := 278) rfl ?_
    obtain ⟨x45, x45e, h⟩ := kw_let_e h
    refine kg_iinc 4 dX10_apartOf_278 rfl (Nat.le_of_ble_eq_true rfl) x45e (lv2 := [(4, .int x45), (7, .long x40), (0, .ref 0), (1, .int v1), (3, .int v3), (6, .int v6)]) rfl (pc2 := 281) rfl ?_
    refine kg_goto 119 dX10_apartOf_281 rfl ?_
    refine kg_sub [2, 3, 4, 0] (lv2 := [(0, .ref 0), (1, .int v1), (3, .int v3), (4, .int x45)]) rfl ?_
    cases h
    exact hk
def jX10_apartOf_198_L119 (pv1 : Int32) (pv3 : Int32) (v1 : Int32) (v3 : Int32) (v4 : Int32) (v5 : Int32) (t0 : Int32) (σ : kw_M) : Option ((Int32 × kw_M) ⊕ (kw_M)) :=
 kw_chk (kw_in v5 12) <|
 if (σ.2 2 v5.toNatClampNeg) = (900000000000000000 : Int64) then
 (kw_let (v4 + (1 : Int32)) fun x47 =>
 some (.inl (x47, σ)))
 else
 kw_chk (kw_in v4 36) <|
 if (σ.1 16 v4.toNatClampNeg) = (0 : Int32) then
 ((fX10_of v4 (2 : Int32) σ).bind fun r39 =>
 jX10_apartOf_252_L119 v1 v3 v1 v3 v4 t0 r39 (σ.2 2 v5.toNatClampNeg) σ)
 else
 (fX10_of v4 (2 : Int32) σ).bind fun r46 =>
 jX10_apartOf_252_L119 v1 v3 v1 v3 v4 t0 (-r46) (σ.2 2 v5.toNatClampNeg) σ
set_option maxHeartbeats 4000000 in
set_option maxRecDepth 100000 in
theorem gjX10_apartOf_198_L119 {E : kw_E} {d : Nat} (pv1 : Int32) (pv3 : Int32) (v1 : Int32) (v3 : Int32) (v4 : Int32) (v5 : Int32) (t0 : Int32) (σ : kw_M) {v : Option Value} {σ2 : kw_M} {o : (Int32 × kw_M) ⊕ (kw_M)} (h : jX10_apartOf_198_L119 pv1 pv3 v1 v3 v4 v5 t0 σ = some o) (hk : Sum.elim (fun s => kw_G E kwTM 21 (d + 5) μX10_apartOf 119 [(0, .ref 0), (1, .int pv1), (3, .int pv3), (4, .int s.1)] [] s.2 v σ2) (fun y => kw_G E kwTM 21 (d + 5) μX10_apartOf 284 [(0, .ref 0), (1, .int pv1), (3, .int pv3)] [] y v σ2) o) : kw_G E kwTM 21 (d + 5) μX10_apartOf 198 [(0, .ref 0), (1, .int v1), (3, .int v3), (4, .int v4), (5, .int v5)] [.int t0] σ v σ2 := by
  unfold jX10_apartOf_198_L119 at h
  refine kg_istore dX10_apartOf_198 (Nat.le_of_ble_eq_true rfl) rfl (lv2 := [(6, .int t0), (0, .ref 0), (1, .int v1), (3, .int v3), (4, .int v4), (5, .int v5)]) rfl (pc2 := 200) rfl ?_
  refine kg_aload_n 1 dX10_apartOf_200 rfl (pc2 := 201) rfl ?_
  refine kg_getr clX10 rfl 2 (Nat.le_of_ble_eq_true rfl) lfRX10_13 tM_0 eM_0 rfl dX10_apartOf_201 (pc2 := 204) rfl ?_
  refine kg_iload 5 dX10_apartOf_204 rfl (pc2 := 206) rfl ?_
  obtain ⟨q35, h⟩ := kw_chk_e h
  refine kg_lald tM_2 eM_2 q35 (j := v5.toNatClampNeg) rfl dX10_apartOf_206 (pc2 := 207) rfl ?_
  refine kg_ldc2 rfl lcRX10_89 dX10_apartOf_207 (pc2 := 210) rfl ?_
  refine kg_lcmp_ne 217 dX10_apartOf_210 dX10_apartOf_211 rfl (pc2 := 214) rfl (fun q36 => ?_) (fun q36 => ?_)
  · replace h := (if_neg q36).symm.trans h
    refine kg_aload_n 1 dX10_apartOf_217 rfl (pc2 := 218) rfl ?_
    refine kg_getr clX10 rfl 2 (Nat.le_of_ble_eq_true rfl) lfRX10_13 tM_0 eM_0 rfl dX10_apartOf_218 (pc2 := 221) rfl ?_
    refine kg_iload 5 dX10_apartOf_221 rfl (pc2 := 223) rfl ?_
    refine kg_lald tM_2 eM_2 q35 (j := v5.toNatClampNeg) rfl dX10_apartOf_223 (pc2 := 224) rfl ?_
    refine kg_aload_n 1 dX10_apartOf_224 rfl (pc2 := 225) rfl ?_
    refine kg_getr clX10 rfl 26 (Nat.le_of_ble_eq_true rfl) lfRX10_57 tM_0 eM_0 rfl dX10_apartOf_225 (pc2 := 228) rfl ?_
    refine kg_iload 4 dX10_apartOf_228 rfl (pc2 := 230) rfl ?_
    obtain ⟨q37, h⟩ := kw_chk_e h
    refine kg_zald tM_16 eM_16 q37 (j := v4.toNatClampNeg) rfl dX10_apartOf_230 (pc2 := 231) rfl ?_
    refine kg_if_eq 245 dX10_apartOf_231 rfl (pc2 := 234) rfl (fun q38 => ?_) (fun q38 => ?_)
    · replace h := (if_pos q38).symm.trans h
      refine kg_aload_n 1 dX10_apartOf_245 rfl (pc2 := 246) rfl ?_
      refine kg_iload 4 dX10_apartOf_246 rfl (pc2 := 248) rfl ?_
      refine kg_iconst dX10_apartOf_248 ki_2 (pc2 := 249) rfl ?_
      obtain ⟨r39, r39h, h⟩ := kw_bind_e h
      refine kg_callV (d := (d + 4)) rfl mVX10_of [.int v4, .int (2 : Int32)] [.long (σ.2 2 v5.toNatClampNeg)] (gX10_of (E := E) (d := (d + 4)) v4 (2 : Int32) σ r39h) rfl lmRX10_73 (ci := 10) rfl tM_0 eM_0 rfl (Nat.le_of_ble_eq_true rfl) dX10_apartOf_249 rfl (st2 := [.int r39, .long (σ.2 2 v5.toNatClampNeg)]) rfl (pc2 := 252) rfl ?_
      refine kg_sub [1, 2, 3, 4, 0] (lv2 := [(0, .ref 0), (1, .int v1), (3, .int v3), (4, .int v4), (6, .int t0)]) rfl ?_
      exact gjX10_apartOf_252_L119 v1 v3 v1 v3 v4 t0 r39 (σ.2 2 v5.toNatClampNeg) σ h hk
    · replace h := (if_neg q38).symm.trans h
      refine kg_aload_n 1 dX10_apartOf_234 rfl (pc2 := 235) rfl ?_
      refine kg_iload 4 dX10_apartOf_235 rfl (pc2 := 237) rfl ?_
      refine kg_iconst dX10_apartOf_237 ki_2 (pc2 := 238) rfl ?_
      obtain ⟨r46, r46h, h⟩ := kw_bind_e h
      refine kg_callV (d := (d + 4)) rfl mVX10_of [.int v4, .int (2 : Int32)] [.long (σ.2 2 v5.toNatClampNeg)] (gX10_of (E := E) (d := (d + 4)) v4 (2 : Int32) σ r46h) rfl lmRX10_73 (ci := 10) rfl tM_0 eM_0 rfl (Nat.le_of_ble_eq_true rfl) dX10_apartOf_238 rfl (st2 := [.int r46, .long (σ.2 2 v5.toNatClampNeg)]) rfl (pc2 := 241) rfl ?_
      refine kg_ineg dX10_apartOf_241 (pc2 := 242) rfl ?_
      refine kg_goto 252 dX10_apartOf_242 rfl ?_
      refine kg_sub [1, 2, 3, 4, 0] (lv2 := [(0, .ref 0), (1, .int v1), (3, .int v3), (4, .int v4), (6, .int t0)]) rfl ?_
      exact gjX10_apartOf_252_L119 v1 v3 v1 v3 v4 t0 (-r46) (σ.2 2 v5.toNatClampNeg) σ h hk
  · replace h := (if_pos q36).symm.trans h
    refine kg_goto 278 dX10_apartOf_214 rfl ?_
    obtain ⟨x47, x47e, h⟩ := kw_let_e h
    refine kg_iinc 4 dX10_apartOf_278 rfl (Nat.le_of_ble_eq_true rfl) x47e (lv2 := [(4, .int x47), (6, .int t0), (0, .ref 0), (1, .int v1), (3, .int v3), (5, .int v5)]) rfl (pc2 := 281) rfl ?_
    refine kg_goto 119 dX10_apartOf_281 rfl ?_
    refine kg_sub [2, 3, 4, 0] (lv2 := [(0, .ref 0), (1, .int v1), (3, .int v3), (4, .int x47)]) rfl ?_
    cases h
    exact hk
def jX10_apartOf_169_L119 (pv1 : Int32) (pv3 : Int32) (v1 : Int32) (v3 : Int32) (v4 : Int32) (t0 : Int32) (σ : kw_M) : Option ((Int32 × kw_M) ⊕ (kw_M)) :=
 kw_chk (kw_in v4 36) <|
 if (σ.1 16 v4.toNatClampNeg) = (0 : Int32) then
 ((fX10_of v4 (1 : Int32) σ).bind fun r34 =>
 jX10_apartOf_198_L119 v1 v3 v1 v3 v4 t0 r34 σ)
 else
 (fX10_of v4 (0 : Int32) σ).bind fun r48 =>
 jX10_apartOf_198_L119 v1 v3 v1 v3 v4 t0 r48 σ
set_option maxHeartbeats 4000000 in
set_option maxRecDepth 100000 in
theorem gjX10_apartOf_169_L119 {E : kw_E} {d : Nat} (pv1 : Int32) (pv3 : Int32) (v1 : Int32) (v3 : Int32) (v4 : Int32) (t0 : Int32) (σ : kw_M) {v : Option Value} {σ2 : kw_M} {o : (Int32 × kw_M) ⊕ (kw_M)} (h : jX10_apartOf_169_L119 pv1 pv3 v1 v3 v4 t0 σ = some o) (hk : Sum.elim (fun s => kw_G E kwTM 21 (d + 5) μX10_apartOf 119 [(0, .ref 0), (1, .int pv1), (3, .int pv3), (4, .int s.1)] [] s.2 v σ2) (fun y => kw_G E kwTM 21 (d + 5) μX10_apartOf 284 [(0, .ref 0), (1, .int pv1), (3, .int pv3)] [] y v σ2) o) : kw_G E kwTM 21 (d + 5) μX10_apartOf 169 [(0, .ref 0), (1, .int v1), (3, .int v3), (4, .int v4)] [.int t0] σ v σ2 := by
  unfold jX10_apartOf_169_L119 at h
  refine kg_istore dX10_apartOf_169 (Nat.le_of_ble_eq_true rfl) rfl (lv2 := [(5, .int t0), (0, .ref 0), (1, .int v1), (3, .int v3), (4, .int v4)]) rfl (pc2 := 171) rfl ?_
  refine kg_aload_n 1 dX10_apartOf_171 rfl (pc2 := 172) rfl ?_
  refine kg_getr clX10 rfl 26 (Nat.le_of_ble_eq_true rfl) lfRX10_57 tM_0 eM_0 rfl dX10_apartOf_172 (pc2 := 175) rfl ?_
  refine kg_iload 4 dX10_apartOf_175 rfl (pc2 := 177) rfl ?_
  obtain ⟨q32, h⟩ := kw_chk_e h
  refine kg_zald tM_16 eM_16 q32 (j := v4.toNatClampNeg) rfl dX10_apartOf_177 (pc2 := 178) rfl ?_
  refine kg_if_eq 191 dX10_apartOf_178 rfl (pc2 := 181) rfl (fun q33 => ?_) (fun q33 => ?_)
  · replace h := (if_pos q33).symm.trans h
    refine kg_aload_n 1 dX10_apartOf_191 rfl (pc2 := 192) rfl ?_
    refine kg_iload 4 dX10_apartOf_192 rfl (pc2 := 194) rfl ?_
    refine kg_iconst dX10_apartOf_194 ki_1 (pc2 := 195) rfl ?_
    obtain ⟨r34, r34h, h⟩ := kw_bind_e h
    refine kg_callV (d := (d + 4)) rfl mVX10_of [.int v4, .int (1 : Int32)] [] (gX10_of (E := E) (d := (d + 4)) v4 (1 : Int32) σ r34h) rfl lmRX10_73 (ci := 10) rfl tM_0 eM_0 rfl (Nat.le_of_ble_eq_true rfl) dX10_apartOf_195 rfl (st2 := [.int r34]) rfl (pc2 := 198) rfl ?_
    refine kg_sub [1, 2, 3, 4, 0] (lv2 := [(0, .ref 0), (1, .int v1), (3, .int v3), (4, .int v4), (5, .int t0)]) rfl ?_
    exact gjX10_apartOf_198_L119 v1 v3 v1 v3 v4 t0 r34 σ h hk
  · replace h := (if_neg q33).symm.trans h
    refine kg_aload_n 1 dX10_apartOf_181 rfl (pc2 := 182) rfl ?_
    refine kg_iload 4 dX10_apartOf_182 rfl (pc2 := 184) rfl ?_
    refine kg_iconst dX10_apartOf_184 ki_0 (pc2 := 185) rfl ?_
    obtain ⟨r48, r48h, h⟩ := kw_bind_e h
    refine kg_callV (d := (d + 4)) rfl mVX10_of [.int v4, .int (0 : Int32)] [] (gX10_of (E := E) (d := (d + 4)) v4 (0 : Int32) σ r48h) rfl lmRX10_73 (ci := 10) rfl tM_0 eM_0 rfl (Nat.le_of_ble_eq_true rfl) dX10_apartOf_185 rfl (st2 := [.int r48]) rfl (pc2 := 188) rfl ?_
    refine kg_goto 198 dX10_apartOf_188 rfl ?_
    refine kg_sub [1, 2, 3, 4, 0] (lv2 := [(0, .ref 0), (1, .int v1), (3, .int v3), (4, .int v4), (5, .int t0)]) rfl ?_
    exact gjX10_apartOf_198_L119 v1 v3 v1 v3 v4 t0 r48 σ h hk
def bX10_apartOf_119 (v1 : Int32) (v3 : Int32) (v4 : Int32) (σ : kw_M) : Option ((Int32 × kw_M) ⊕ (kw_M)) :=
 if (σ.1 1 1) ≤ v4 then
 (some (.inr σ))
 else
 (fX10_isOpen v4 σ).bind fun r27 =>
 if r27 = (0 : Int32) then
 (kw_let (v4 + (1 : Int32)) fun x50 =>
 some (.inl (x50, σ)))
 else
 kw_chk (kw_in v4 36) <|
 if (σ.1 16 v4.toNatClampNeg) = (0 : Int32) then
 ((fX10_of v4 (0 : Int32) σ).bind fun r31 =>
 jX10_apartOf_169_L119 v1 v3 v1 v3 v4 r31 σ)
 else
 (fX10_of v4 (1 : Int32) σ).bind fun r49 =>
 jX10_apartOf_169_L119 v1 v3 v1 v3 v4 r49 σ
set_option maxHeartbeats 4000000 in
set_option maxRecDepth 100000 in
theorem lX10_apartOf_119 {E : kw_E} {d : Nat} (v1 : Int32) (v3 : Int32) (v4 : Int32) (σ : kw_M) {v : Option Value} {σ2 : kw_M} {o : (Int32 × kw_M) ⊕ (kw_M)} (h : bX10_apartOf_119 v1 v3 v4 σ = some o) (hk : Sum.elim (fun s => kw_G E kwTM 21 (d + 5) μX10_apartOf 119 [(0, .ref 0), (1, .int v1), (3, .int v3), (4, .int s.1)] [] s.2 v σ2) (fun y => kw_G E kwTM 21 (d + 5) μX10_apartOf 284 [(0, .ref 0), (1, .int v1), (3, .int v3)] [] y v σ2) o) : kw_G E kwTM 21 (d + 5) μX10_apartOf 119 [(0, .ref 0), (1, .int v1), (3, .int v3), (4, .int v4)] [] σ v σ2 := by
  unfold bX10_apartOf_119 at h
  refine kg_iload 3 dX10_apartOf_119 rfl (pc2 := 121) rfl ?_
  refine kg_aload_n 0 dX10_apartOf_121 rfl (pc2 := 122) rfl ?_
  refine kg_getr clX10 rfl 0 (Nat.le_of_ble_eq_true rfl) lfRX10_7 tM_0 eM_0 rfl dX10_apartOf_122 (pc2 := 125) rfl ?_
  refine kg_iconst dX10_apartOf_125 ki_1 (pc2 := 126) rfl ?_
  refine kg_iald tM_1 eM_1 (show kw_in (1 : Int32) 2832 by decide) (j := 1) (by decide) dX10_apartOf_126 (pc2 := 127) rfl ?_
  refine kg_icmp_ge 284 dX10_apartOf_127 rfl (pc2 := 130) rfl (fun q26 => ?_) (fun q26 => ?_)
  · replace h := (if_pos q26).symm.trans h
    refine kg_sub [0, 1, 2] (lv2 := [(0, .ref 0), (1, .int v1), (3, .int v3)]) rfl ?_
    cases h
    exact hk
  · replace h := (if_neg q26).symm.trans h
    refine kg_aload_n 0 dX10_apartOf_130 rfl (pc2 := 131) rfl ?_
    refine kg_iload 3 dX10_apartOf_131 rfl (pc2 := 133) rfl ?_
    obtain ⟨r27, r27h, h⟩ := kw_bind_e h
    refine kg_callV (d := (d + 4)) rfl mVX10_isOpen [.int v4] [] (gX10_isOpen (E := E) (d := (d + 3)) v4 σ r27h) rfl lmRX10_91 (ci := 10) rfl tM_0 eM_0 rfl (Nat.le_of_ble_eq_true rfl) dX10_apartOf_133 rfl (st2 := [.int r27]) rfl (pc2 := 136) rfl ?_
    refine kg_if_ne 142 dX10_apartOf_136 rfl (pc2 := 139) rfl (fun q28 => ?_) (fun q28 => ?_)
    · replace h := (if_neg q28).symm.trans h
      refine kg_aload_n 0 dX10_apartOf_142 rfl (pc2 := 143) rfl ?_
      refine kg_getr clX10 rfl 26 (Nat.le_of_ble_eq_true rfl) lfRX10_57 tM_0 eM_0 rfl dX10_apartOf_143 (pc2 := 146) rfl ?_
      refine kg_iload 3 dX10_apartOf_146 rfl (pc2 := 148) rfl ?_
      obtain ⟨q29, h⟩ := kw_chk_e h
      refine kg_zald tM_16 eM_16 q29 (j := v4.toNatClampNeg) rfl dX10_apartOf_148 (pc2 := 149) rfl ?_
      refine kg_if_eq 162 dX10_apartOf_149 rfl (pc2 := 152) rfl (fun q30 => ?_) (fun q30 => ?_)
      · replace h := (if_pos q30).symm.trans h
        refine kg_aload_n 0 dX10_apartOf_162 rfl (pc2 := 163) rfl ?_
        refine kg_iload 3 dX10_apartOf_163 rfl (pc2 := 165) rfl ?_
        refine kg_iconst dX10_apartOf_165 ki_0 (pc2 := 166) rfl ?_
        obtain ⟨r31, r31h, h⟩ := kw_bind_e h
        refine kg_callV (d := (d + 4)) rfl mVX10_of [.int v4, .int (0 : Int32)] [] (gX10_of (E := E) (d := (d + 4)) v4 (0 : Int32) σ r31h) rfl lmRX10_73 (ci := 10) rfl tM_0 eM_0 rfl (Nat.le_of_ble_eq_true rfl) dX10_apartOf_166 rfl (st2 := [.int r31]) rfl (pc2 := 169) rfl ?_
        exact gjX10_apartOf_169_L119 v1 v3 v1 v3 v4 r31 σ h hk
      · replace h := (if_neg q30).symm.trans h
        refine kg_aload_n 0 dX10_apartOf_152 rfl (pc2 := 153) rfl ?_
        refine kg_iload 3 dX10_apartOf_153 rfl (pc2 := 155) rfl ?_
        refine kg_iconst dX10_apartOf_155 ki_1 (pc2 := 156) rfl ?_
        obtain ⟨r49, r49h, h⟩ := kw_bind_e h
        refine kg_callV (d := (d + 4)) rfl mVX10_of [.int v4, .int (1 : Int32)] [] (gX10_of (E := E) (d := (d + 4)) v4 (1 : Int32) σ r49h) rfl lmRX10_73 (ci := 10) rfl tM_0 eM_0 rfl (Nat.le_of_ble_eq_true rfl) dX10_apartOf_156 rfl (st2 := [.int r49]) rfl (pc2 := 159) rfl ?_
        refine kg_goto 169 dX10_apartOf_159 rfl ?_
        exact gjX10_apartOf_169_L119 v1 v3 v1 v3 v4 r49 σ h hk
    · replace h := (if_pos q28).symm.trans h
      refine kg_goto 278 dX10_apartOf_139 rfl ?_
      obtain ⟨x50, x50e, h⟩ := kw_let_e h
      refine kg_iinc 3 dX10_apartOf_278 rfl (Nat.le_of_ble_eq_true rfl) x50e (lv2 := [(4, .int x50), (0, .ref 0), (1, .int v1), (3, .int v3)]) rfl (pc2 := 281) rfl ?_
      refine kg_goto 119 dX10_apartOf_281 rfl ?_
      refine kg_sub [1, 2, 3, 0] (lv2 := [(0, .ref 0), (1, .int v1), (3, .int v3), (4, .int x50)]) rfl ?_
      cases h
      exact hk
def bX10_apartOf_106 (v1 : Int32) (v3 : Int32) (σ : kw_M) : Option ((Int32 × kw_M) ⊕ (kw_M)) :=
 (fX10_towns σ).bind fun r24 =>
 if ((2 : Int32) * r24) ≤ v3 then
 (some (.inr σ))
 else
 (kw_loop (fun s => bX10_apartOf_119 v1 v3 s.1 s.2) kw_F ((0 : Int32), σ)).bind fun x51 =>
 kw_let (v3 + (1 : Int32)) fun x52 =>
 some (.inl (x52, x51))
set_option maxHeartbeats 4000000 in
set_option maxRecDepth 100000 in
theorem lX10_apartOf_106 {E : kw_E} {d : Nat} (v1 : Int32) (v3 : Int32) (σ : kw_M) {v : Option Value} {σ2 : kw_M} {o : (Int32 × kw_M) ⊕ (kw_M)} (h : bX10_apartOf_106 v1 v3 σ = some o) (hk : Sum.elim (fun s => kw_G E kwTM 21 (d + 5) μX10_apartOf 106 [(0, .ref 0), (1, .int v1), (3, .int s.1)] [] s.2 v σ2) (fun y => kw_G E kwTM 21 (d + 5) μX10_apartOf 290 [(0, .ref 0), (1, .int v1)] [] y v σ2) o) : kw_G E kwTM 21 (d + 5) μX10_apartOf 106 [(0, .ref 0), (1, .int v1), (3, .int v3)] [] σ v σ2 := by
  unfold bX10_apartOf_106 at h
  refine kg_iload_n 2 dX10_apartOf_106 rfl (pc2 := 107) rfl ?_
  refine kg_iconst dX10_apartOf_107 ki_2 (pc2 := 108) rfl ?_
  refine kg_aload_n 0 dX10_apartOf_108 rfl (pc2 := 109) rfl ?_
  obtain ⟨r24, r24h, h⟩ := kw_bind_e h
  refine kg_callV (d := (d + 4)) rfl mVX10_towns [] [.int (2 : Int32), .int v3] (gX10_towns (E := E) (d := (d + 4)) σ r24h) rfl lmRX10_77 (ci := 10) rfl tM_0 eM_0 rfl (Nat.le_of_ble_eq_true rfl) dX10_apartOf_109 rfl (st2 := [.int r24, .int (2 : Int32), .int v3]) rfl (pc2 := 112) rfl ?_
  refine kg_imul dX10_apartOf_112 (pc2 := 113) rfl ?_
  refine kg_icmp_ge 290 dX10_apartOf_113 rfl (pc2 := 116) rfl (fun q25 => ?_) (fun q25 => ?_)
  · replace h := (if_pos q25).symm.trans h
    refine kg_sub [0, 1] (lv2 := [(0, .ref 0), (1, .int v1)]) rfl ?_
    cases h
    exact hk
  · replace h := (if_neg q25).symm.trans h
    refine kg_iconst dX10_apartOf_116 ki_0 (pc2 := 117) rfl ?_
    refine kg_istore dX10_apartOf_117 (Nat.le_of_ble_eq_true rfl) rfl (lv2 := [(4, .int (0 : Int32)), (0, .ref 0), (1, .int v1), (3, .int v3)]) rfl (pc2 := 119) rfl ?_
    refine kg_sub [1, 2, 3, 0] (lv2 := [(0, .ref 0), (1, .int v1), (3, .int v3), (4, .int (0 : Int32))]) rfl ?_
    obtain ⟨x51, x51h, h⟩ := kw_bind_e h
    refine kw_loop_e (P := fun s => kw_G E kwTM 21 (d + 5) μX10_apartOf 119 [(0, .ref 0), (1, .int v1), (3, .int v3), (4, .int s.1)] [] s.2 v σ2) (K := fun y => kw_G E kwTM 21 (d + 5) μX10_apartOf 284 [(0, .ref 0), (1, .int v1), (3, .int v3)] [] y v σ2) (fun s o h0 hk => lX10_apartOf_119 v1 v3 s.1 s.2 h0 hk) kw_F _ _ x51h ?_
    show kw_G E kwTM 21 (d + 5) μX10_apartOf 284 [(0, .ref 0), (1, .int v1), (3, .int v3)] [] x51 v σ2
    obtain ⟨x52, x52e, h⟩ := kw_let_e h
    refine kg_iinc 2 dX10_apartOf_284 rfl (Nat.le_of_ble_eq_true rfl) x52e (lv2 := [(3, .int x52), (0, .ref 0), (1, .int v1)]) rfl (pc2 := 287) rfl ?_
    refine kg_goto 106 dX10_apartOf_287 rfl ?_
    refine kg_sub [1, 2, 0] (lv2 := [(0, .ref 0), (1, .int v1), (3, .int x52)]) rfl ?_
    cases h
    exact hk
def fX10_apartOf (a1 : Int32) (σ : kw_M) : Option (Int64 × kw_M) :=
 (fX10_goesBack a1 σ).bind fun r1 =>
 if r1.1 = (-1 : Int32) then
 (some ((900000000000000000 : Int64), r1.2))
 else
 if r1.1 = (0 : Int32) then
 (some ((0 : Int64), r1.2))
 else
 (kw_loop (fun s => bX10_apartOf_23 a1 r1.1 s.1 s.2) kw_F ((0 : Int32), r1.2)).bind fun x8 =>
 (kw_loop (fun s => bX10_apartOf_44 a1 r1.1 s.1 s.2) kw_F ((0 : Int32), x8)).bind fun x14 =>
 (kw_loop (fun s => bX10_apartOf_69 a1 s.1 s.2) kw_F ((0 : Int32), x14)).bind fun x23 =>
 (kw_loop (fun s => bX10_apartOf_106 a1 s.1 s.2) kw_F ((1 : Int32), x23)).bind fun x53 =>
 kw_chk (kw_in a1 12) <|
 if (x53.2 2 a1.toNatClampNeg) = (900000000000000000 : Int64) then
 (some ((900000000000000000 : Int64), x53))
 else
 some (((x53.2 3 a1.toNatClampNeg) + (x53.2 2 a1.toNatClampNeg)), x53)
set_option maxHeartbeats 4000000 in
set_option maxRecDepth 100000 in
theorem gX10_apartOf {E : kw_E} {d : Nat} (a1 : Int32) (σ : kw_M) {r : Int64 × kw_M} (h : fX10_apartOf a1 σ = some r) : kw_Met E kwTM 21 (d + 5) μX10_apartOf [.ref 0, .int a1] σ (some (Value.long r.1)) r.2 := by
  refine kw_enter plRX10 (Nat.le_of_ble_eq_true rfl) ?_
  show kw_G E kwTM 21 (d + 5) μX10_apartOf 0 [(0, .ref 0), (1, .int a1)] [] σ (some (Value.long r.1)) r.2
  unfold fX10_apartOf at h
  refine kg_aload_n 0 dX10_apartOf_0 rfl (pc2 := 1) rfl ?_
  refine kg_iload_n 1 dX10_apartOf_1 rfl (pc2 := 2) rfl ?_
  obtain ⟨r1, r1h, h⟩ := kw_bind_e h
  refine kg_callV (d := (d + 4)) rfl mVX10_goesBack [.int a1] [] (gX10_goesBack (E := E) (d := d) a1 σ r1h) rfl lmRX10_315 (ci := 10) rfl tM_0 eM_0 rfl (Nat.le_of_ble_eq_true rfl) dX10_apartOf_2 rfl (st2 := [.int r1.1]) rfl (pc2 := 5) rfl ?_
  refine kg_istore_n dX10_apartOf_5 rfl (Nat.le_of_ble_eq_true rfl) rfl (lv2 := [(2, .int r1.1), (0, .ref 0), (1, .int a1)]) rfl (pc2 := 6) rfl ?_
  refine kg_iload_n 0 dX10_apartOf_6 rfl (pc2 := 7) rfl ?_
  refine kg_iconst dX10_apartOf_7 ki_m1 (pc2 := 8) rfl ?_
  refine kg_icmp_ne 15 dX10_apartOf_8 rfl (pc2 := 11) rfl (fun q2 => ?_) (fun q2 => ?_)
  · replace h := (if_neg q2).symm.trans h
    refine kg_iload_n 0 dX10_apartOf_15 rfl (pc2 := 16) rfl ?_
    refine kg_if_ne 21 dX10_apartOf_16 rfl (pc2 := 19) rfl (fun q3 => ?_) (fun q3 => ?_)
    · replace h := (if_neg q3).symm.trans h
      refine kg_iconst dX10_apartOf_21 ki_0 (pc2 := 22) rfl ?_
      refine kg_istore_n dX10_apartOf_22 rfl (Nat.le_of_ble_eq_true rfl) rfl (lv2 := [(3, .int (0 : Int32)), (2, .int r1.1), (0, .ref 0), (1, .int a1)]) rfl (pc2 := 23) rfl ?_
      refine kg_sub [2, 3, 1, 0] (lv2 := [(0, .ref 0), (1, .int a1), (2, .int r1.1), (3, .int (0 : Int32))]) rfl ?_
      obtain ⟨x8, x8h, h⟩ := kw_bind_e h
      refine kw_loop_e (P := fun s => kw_G E kwTM 21 (d + 5) μX10_apartOf 23 [(0, .ref 0), (1, .int a1), (2, .int r1.1), (3, .int s.1)] [] s.2 (some (Value.long r.1)) r.2) (K := fun y => kw_G E kwTM 21 (d + 5) μX10_apartOf 42 [(0, .ref 0), (1, .int a1), (2, .int r1.1)] [] y (some (Value.long r.1)) r.2) (fun s o h0 hk => lX10_apartOf_23 a1 r1.1 s.1 s.2 h0 hk) kw_F _ _ x8h ?_
      show kw_G E kwTM 21 (d + 5) μX10_apartOf 42 [(0, .ref 0), (1, .int a1), (2, .int r1.1)] [] x8 (some (Value.long r.1)) r.2
      refine kg_iconst dX10_apartOf_42 ki_0 (pc2 := 43) rfl ?_
      refine kg_istore_n dX10_apartOf_43 rfl (Nat.le_of_ble_eq_true rfl) rfl (lv2 := [(3, .int (0 : Int32)), (0, .ref 0), (1, .int a1), (2, .int r1.1)]) rfl (pc2 := 44) rfl ?_
      refine kg_sub [1, 2, 3, 0] (lv2 := [(0, .ref 0), (1, .int a1), (2, .int r1.1), (3, .int (0 : Int32))]) rfl ?_
      obtain ⟨x14, x14h, h⟩ := kw_bind_e h
      refine kw_loop_e (P := fun s => kw_G E kwTM 21 (d + 5) μX10_apartOf 44 [(0, .ref 0), (1, .int a1), (2, .int r1.1), (3, .int s.1)] [] s.2 (some (Value.long r.1)) r.2) (K := fun y => kw_G E kwTM 21 (d + 5) μX10_apartOf 67 [(0, .ref 0), (1, .int a1)] [] y (some (Value.long r.1)) r.2) (fun s o h0 hk => lX10_apartOf_44 a1 r1.1 s.1 s.2 h0 hk) kw_F _ _ x14h ?_
      show kw_G E kwTM 21 (d + 5) μX10_apartOf 67 [(0, .ref 0), (1, .int a1)] [] x14 (some (Value.long r.1)) r.2
      refine kg_iconst dX10_apartOf_67 ki_0 (pc2 := 68) rfl ?_
      refine kg_istore_n dX10_apartOf_68 rfl (Nat.le_of_ble_eq_true rfl) rfl (lv2 := [(3, .int (0 : Int32)), (0, .ref 0), (1, .int a1)]) rfl (pc2 := 69) rfl ?_
      refine kg_sub [1, 2, 0] (lv2 := [(0, .ref 0), (1, .int a1), (3, .int (0 : Int32))]) rfl ?_
      obtain ⟨x23, x23h, h⟩ := kw_bind_e h
      refine kw_loop_e (P := fun s => kw_G E kwTM 21 (d + 5) μX10_apartOf 69 [(0, .ref 0), (1, .int a1), (3, .int s.1)] [] s.2 (some (Value.long r.1)) r.2) (K := fun y => kw_G E kwTM 21 (d + 5) μX10_apartOf 104 [(0, .ref 0), (1, .int a1)] [] y (some (Value.long r.1)) r.2) (fun s o h0 hk => lX10_apartOf_69 a1 s.1 s.2 h0 hk) kw_F _ _ x23h ?_
      show kw_G E kwTM 21 (d + 5) μX10_apartOf 104 [(0, .ref 0), (1, .int a1)] [] x23 (some (Value.long r.1)) r.2
      refine kg_iconst dX10_apartOf_104 ki_1 (pc2 := 105) rfl ?_
      refine kg_istore_n dX10_apartOf_105 rfl (Nat.le_of_ble_eq_true rfl) rfl (lv2 := [(3, .int (1 : Int32)), (0, .ref 0), (1, .int a1)]) rfl (pc2 := 106) rfl ?_
      refine kg_sub [1, 2, 0] (lv2 := [(0, .ref 0), (1, .int a1), (3, .int (1 : Int32))]) rfl ?_
      obtain ⟨x53, x53h, h⟩ := kw_bind_e h
      refine kw_loop_e (P := fun s => kw_G E kwTM 21 (d + 5) μX10_apartOf 106 [(0, .ref 0), (1, .int a1), (3, .int s.1)] [] s.2 (some (Value.long r.1)) r.2) (K := fun y => kw_G E kwTM 21 (d + 5) μX10_apartOf 290 [(0, .ref 0), (1, .int a1)] [] y (some (Value.long r.1)) r.2) (fun s o h0 hk => lX10_apartOf_106 a1 s.1 s.2 h0 hk) kw_F _ _ x53h ?_
      show kw_G E kwTM 21 (d + 5) μX10_apartOf 290 [(0, .ref 0), (1, .int a1)] [] x53 (some (Value.long r.1)) r.2
      refine kg_aload_n 0 dX10_apartOf_290 rfl (pc2 := 291) rfl ?_
      refine kg_getr clX10 rfl 2 (Nat.le_of_ble_eq_true rfl) lfRX10_13 tM_0 eM_0 rfl dX10_apartOf_291 (pc2 := 294) rfl ?_
      refine kg_iload_n 1 dX10_apartOf_294 rfl (pc2 := 295) rfl ?_
      obtain ⟨q54, h⟩ := kw_chk_e h
      refine kg_lald tM_2 eM_2 q54 (j := a1.toNatClampNeg) rfl dX10_apartOf_295 (pc2 := 296) rfl ?_
      refine kg_ldc2 rfl lcRX10_89 dX10_apartOf_296 (pc2 := 299) rfl ?_
      refine kg_lcmp_ne 309 dX10_apartOf_299 dX10_apartOf_300 rfl (pc2 := 303) rfl (fun q55 => ?_) (fun q55 => ?_)
      · replace h := (if_neg q55).symm.trans h
        refine kg_aload_n 0 dX10_apartOf_309 rfl (pc2 := 310) rfl ?_
        refine kg_getr clX10 rfl 3 (Nat.le_of_ble_eq_true rfl) lfRX10_17 tM_0 eM_0 rfl dX10_apartOf_310 (pc2 := 313) rfl ?_
        refine kg_iload_n 1 dX10_apartOf_313 rfl (pc2 := 314) rfl ?_
        refine kg_lald tM_3 eM_3 q54 (j := a1.toNatClampNeg) rfl dX10_apartOf_314 (pc2 := 315) rfl ?_
        refine kg_aload_n 0 dX10_apartOf_315 rfl (pc2 := 316) rfl ?_
        refine kg_getr clX10 rfl 2 (Nat.le_of_ble_eq_true rfl) lfRX10_13 tM_0 eM_0 rfl dX10_apartOf_316 (pc2 := 319) rfl ?_
        refine kg_iload_n 1 dX10_apartOf_319 rfl (pc2 := 320) rfl ?_
        refine kg_lald tM_2 eM_2 q54 (j := a1.toNatClampNeg) rfl dX10_apartOf_320 (pc2 := 321) rfl ?_
        refine kg_ladd dX10_apartOf_321 (pc2 := 322) rfl ?_
        cases h
        exact kg_lret dX10_apartOf_322 rfl
      · replace h := (if_pos q55).symm.trans h
        refine kg_ldc2 rfl lcRX10_89 dX10_apartOf_303 (pc2 := 306) rfl ?_
        refine kg_goto 322 dX10_apartOf_306 rfl ?_
        cases h
        exact kg_lret dX10_apartOf_322 rfl
    · replace h := (if_pos q3).symm.trans h
      refine kg_lconst dX10_apartOf_19 kl_0 (pc2 := 20) rfl ?_
      cases h
      exact kg_lret dX10_apartOf_20 rfl
  · replace h := (if_pos q2).symm.trans h
    refine kg_ldc2 rfl lcRX10_89 dX10_apartOf_11 (pc2 := 14) rfl ?_
    cases h
    exact kg_lret dX10_apartOf_14 rfl
def jX10_town_287 (v1 : Int32) (v2 : Int32) (σ : kw_M) : Option (Int64 × kw_M) :=
 (fX10_findsPairs σ).bind fun r29 =>
 if v2 = (8 : Int32) then
 ((fX10_reachOf v1 r29).bind fun r31 =>
 (fX10_told r31 r29).bind fun r32 =>
 some (r32, r29))
 else
 if v2 = (9 : Int32) then
 ((fX10_ringOf v1 r29).bind fun r34 =>
 (fX10_told r34 r29).bind fun r35 =>
 some (r35, r29))
 else
 if v2 = (10 : Int32) then
 (some ((-9000000000000000000 : Int64), r29))
 else
 if v2 = (11 : Int32) then
 (some ((-9000000000000000000 : Int64), r29))
 else
 if v2 = (12 : Int32) then
 ((fX10_groupOf v1 r29).bind fun r39 =>
 some (r39.toInt64, r29))
 else
 if v2 = (13 : Int32) then
 (some ((-9000000000000000000 : Int64), r29))
 else
 if v2 = (14 : Int32) then
 (some ((-9000000000000000000 : Int64), r29))
 else
 if v2 = (15 : Int32) then
 ((fX10_comeTo v1 r29).bind fun r43 =>
 some (r43.toInt64, r29))
 else
 some ((-9000000000000000000 : Int64), r29)
set_option maxHeartbeats 4000000 in
set_option maxRecDepth 100000 in
theorem gjX10_town_287 {E : kw_E} {d : Nat} (v1 : Int32) (v2 : Int32) (σ : kw_M) {r : Int64 × kw_M} (h : jX10_town_287 v1 v2 σ = some r) : kw_G E kwTM 21 (d + 6) μX10_town 287 [(0, .ref 0), (1, .int v1), (2, .int v2)] [] σ (some (Value.long r.1)) r.2 := by
  unfold jX10_town_287 at h
  refine kg_aload_n 0 dX10_town_287 rfl (pc2 := 288) rfl ?_
  obtain ⟨r29, r29h, h⟩ := kw_bind_e h
  refine kg_callV (d := (d + 5)) rfl mVX10_findsPairs [] [] (gX10_findsPairs (E := E) (d := (d + 2)) σ r29h) rfl lmRX10_324 (ci := 10) rfl tM_0 eM_0 rfl (Nat.le_of_ble_eq_true rfl) dX10_town_288 rfl (st2 := []) rfl (pc2 := 291) rfl ?_
  refine kg_iload_n 2 dX10_town_291 rfl (pc2 := 292) rfl ?_
  by_cases q30 : v2 = (8 : Int32)
  · replace h := (if_pos q30).symm.trans h
    refine kg_tsIn 340 dX10_town_292 (by rw [q30]; decide) (by rw [q30]; decide) (by rw [q30]; decide) rfl ?_
    refine kg_aload_n 0 dX10_town_340 rfl (pc2 := 341) rfl ?_
    refine kg_iload_n 1 dX10_town_341 rfl (pc2 := 342) rfl ?_
    obtain ⟨r31, r31h, h⟩ := kw_bind_e h
    refine kg_callV (d := (d + 5)) rfl mVX10_reachOf [.int v1] [] (gX10_reachOf (E := E) (d := (d + 4)) v1 r29 r31h) rfl lmRX10_330 (ci := 10) rfl tM_0 eM_0 rfl (Nat.le_of_ble_eq_true rfl) dX10_town_342 rfl (st2 := [.long r31]) rfl (pc2 := 345) rfl ?_
    obtain ⟨r32, r32h, h⟩ := kw_bind_e h
    refine kg_callS (d := (d + 5)) rfl mSX10_told [.long r31] [] (gX10_told (E := E) (d := (d + 5)) r31 r29 r32h) rfl lmRX10_336 rfl (Nat.le_of_ble_eq_true rfl) dX10_town_345 rfl (st2 := [.long r32]) rfl (pc2 := 348) rfl ?_
    cases h
    exact kg_lret dX10_town_348 rfl
  · replace h := (if_neg q30).symm.trans h
    by_cases q33 : v2 = (9 : Int32)
    · replace h := (if_pos q33).symm.trans h
      refine kg_tsIn 349 dX10_town_292 (by rw [q33]; decide) (by rw [q33]; decide) (by rw [q33]; decide) rfl ?_
      refine kg_aload_n 0 dX10_town_349 rfl (pc2 := 350) rfl ?_
      refine kg_iload_n 1 dX10_town_350 rfl (pc2 := 351) rfl ?_
      obtain ⟨r34, r34h, h⟩ := kw_bind_e h
      refine kg_callV (d := (d + 5)) rfl mVX10_ringOf [.int v1] [] (gX10_ringOf (E := E) (d := (d + 3)) v1 r29 r34h) rfl lmRX10_363 (ci := 10) rfl tM_0 eM_0 rfl (Nat.le_of_ble_eq_true rfl) dX10_town_351 rfl (st2 := [.long r34]) rfl (pc2 := 354) rfl ?_
      obtain ⟨r35, r35h, h⟩ := kw_bind_e h
      refine kg_callS (d := (d + 5)) rfl mSX10_told [.long r34] [] (gX10_told (E := E) (d := (d + 5)) r34 r29 r35h) rfl lmRX10_336 rfl (Nat.le_of_ble_eq_true rfl) dX10_town_354 rfl (st2 := [.long r35]) rfl (pc2 := 357) rfl ?_
      cases h
      exact kg_lret dX10_town_357 rfl
    · replace h := (if_neg q33).symm.trans h
      by_cases q36 : v2 = (10 : Int32)
      · replace h := (if_pos q36).symm.trans h
        refine kg_tsIn 372 dX10_town_292 (by rw [q36]; decide) (by rw [q36]; decide) (by rw [q36]; decide) rfl ?_
        refine kg_ldc2 rfl lcRX10_99 dX10_town_372 (pc2 := 375) rfl ?_
        cases h
        exact kg_lret dX10_town_375 rfl
      · replace h := (if_neg q36).symm.trans h
        by_cases q37 : v2 = (11 : Int32)
        · replace h := (if_pos q37).symm.trans h
          refine kg_tsIn 372 dX10_town_292 (by rw [q37]; decide) (by rw [q37]; decide) (by rw [q37]; decide) rfl ?_
          refine kg_ldc2 rfl lcRX10_99 dX10_town_372 (pc2 := 375) rfl ?_
          cases h
          exact kg_lret dX10_town_375 rfl
        · replace h := (if_neg q37).symm.trans h
          by_cases q38 : v2 = (12 : Int32)
          · replace h := (if_pos q38).symm.trans h
            refine kg_tsIn 358 dX10_town_292 (by rw [q38]; decide) (by rw [q38]; decide) (by rw [q38]; decide) rfl ?_
            refine kg_aload_n 0 dX10_town_358 rfl (pc2 := 359) rfl ?_
            refine kg_iload_n 1 dX10_town_359 rfl (pc2 := 360) rfl ?_
            obtain ⟨r39, r39h, h⟩ := kw_bind_e h
            refine kg_callV (d := (d + 5)) rfl mVX10_groupOf [.int v1] [] (gX10_groupOf (E := E) (d := (d + 5)) v1 r29 r39h) rfl lmRX10_366 (ci := 10) rfl tM_0 eM_0 rfl (Nat.le_of_ble_eq_true rfl) dX10_town_360 rfl (st2 := [.int r39]) rfl (pc2 := 363) rfl ?_
            refine kg_i2l dX10_town_363 (pc2 := 364) rfl ?_
            cases h
            exact kg_lret dX10_town_364 rfl
          · replace h := (if_neg q38).symm.trans h
            by_cases q40 : v2 = (13 : Int32)
            · replace h := (if_pos q40).symm.trans h
              refine kg_tsIn 372 dX10_town_292 (by rw [q40]; decide) (by rw [q40]; decide) (by rw [q40]; decide) rfl ?_
              refine kg_ldc2 rfl lcRX10_99 dX10_town_372 (pc2 := 375) rfl ?_
              cases h
              exact kg_lret dX10_town_375 rfl
            · replace h := (if_neg q40).symm.trans h
              by_cases q41 : v2 = (14 : Int32)
              · replace h := (if_pos q41).symm.trans h
                refine kg_tsIn 372 dX10_town_292 (by rw [q41]; decide) (by rw [q41]; decide) (by rw [q41]; decide) rfl ?_
                refine kg_ldc2 rfl lcRX10_99 dX10_town_372 (pc2 := 375) rfl ?_
                cases h
                exact kg_lret dX10_town_375 rfl
              · replace h := (if_neg q41).symm.trans h
                by_cases q42 : v2 = (15 : Int32)
                · replace h := (if_pos q42).symm.trans h
                  refine kg_tsIn 365 dX10_town_292 (by rw [q42]; decide) (by rw [q42]; decide) (by rw [q42]; decide) rfl ?_
                  refine kg_aload_n 0 dX10_town_365 rfl (pc2 := 366) rfl ?_
                  refine kg_iload_n 1 dX10_town_366 rfl (pc2 := 367) rfl ?_
                  obtain ⟨r43, r43h, h⟩ := kw_bind_e h
                  refine kg_callV (d := (d + 5)) rfl mVX10_comeTo [.int v1] [] (gX10_comeTo (E := E) (d := (d + 4)) v1 r29 r43h) rfl lmRX10_369 (ci := 10) rfl tM_0 eM_0 rfl (Nat.le_of_ble_eq_true rfl) dX10_town_367 rfl (st2 := [.int r43]) rfl (pc2 := 370) rfl ?_
                  refine kg_i2l dX10_town_370 (pc2 := 371) rfl ?_
                  cases h
                  exact kg_lret dX10_town_371 rfl
                · replace h := (if_neg q42).symm.trans h
                  refine kg_tsOut 372 dX10_town_292 (by have a0 := kw_neI (n := 8) (by decide) q30; have a1 := kw_neI (n := 9) (by decide) q33; have a2 := kw_neI (n := 10) (by decide) q36; have a3 := kw_neI (n := 11) (by decide) q37; have a4 := kw_neI (n := 12) (by decide) q38; have a5 := kw_neI (n := 13) (by decide) q40; have a6 := kw_neI (n := 14) (by decide) q41; have a7 := kw_neI (n := 15) (by decide) q42; omega) rfl ?_
                  refine kg_ldc2 rfl lcRX10_99 dX10_town_372 (pc2 := 375) rfl ?_
                  cases h
                  exact kg_lret dX10_town_375 rfl
def fX10_town (a1 : Int32) (a2 : Int32) (σ : kw_M) : Option (Int64 × kw_M) :=
 (fX10_isTown a1 σ).bind fun r1 =>
 if r1 = (0 : Int32) then
 (some ((-9000000000000000000 : Int64), σ))
 else
 (fX10_settles σ).bind fun r3 =>
 if a2 = (0 : Int32) then
 (kw_chk (kw_in a1 12) <|
 (fX10_told (r3.2 3 a1.toNatClampNeg) r3).bind fun r6 =>
 some (r6, r3))
 else
 if a2 = (1 : Int32) then
 ((fX10_parentOf a1 r3).bind fun r8 =>
 if r8 = (-1 : Int32) then
 (some ((-2 : Int64), r3))
 else
 (fX10_parentOf a1 r3).bind fun r10 =>
 some (r10.toInt64, r3))
 else
 if a2 = (2 : Int32) then
 ((fX10_goesBack a1 r3).bind fun r12 =>
 if r12.1 = (-1 : Int32) then
 (some ((-2 : Int64), r12.2))
 else
 (fX10_goesBack a1 r12.2).bind fun r14 =>
 some (r14.1.toInt64, r14.2))
 else
 if a2 = (3 : Int32) then
 ((fX10_tightTo a1 r3).bind fun r16 =>
 some (r16.toInt64, r3))
 else
 if a2 = (4 : Int32) then
 ((fX10_countsWays (-1 : Int32) r3).bind fun r18 =>
 kw_chk (kw_in a1 12) <|
 if (r18.2 11 a1.toNatClampNeg) ≤ (1000000000 : Int64) then
 (some ((r18.2 11 a1.toNatClampNeg), r18))
 else
 some ((1000000000 : Int64), r18))
 else
 if a2 = (5 : Int32) then
 ((fX10_neededMany a1 r3).bind fun r22 =>
 some (r22.1.toInt64, r22.2))
 else
 if a2 = (6 : Int32) then
 ((fX10_dearestOf a1 r3).bind fun r24 =>
 some (r24.1.toInt64, r24.2))
 else
 if a2 = (7 : Int32) then
 ((fX10_nextOf a1 r3).bind fun r26 =>
 (fX10_told r26.1 r26.2).bind fun r27 =>
 some (r27, r26.2))
 else
 if a2 = (8 : Int32) then
 (jX10_town_287 a1 a2 r3)
 else
 if a2 = (9 : Int32) then
 (jX10_town_287 a1 a2 r3)
 else
 if a2 = (10 : Int32) then
 (kw_chk (kw_in ((172 : Int32) + ((3 : Int32) * a1)) 2832) <|
 if (r3.1 1 ((172 : Int32) + ((3 : Int32) * a1)).toNatClampNeg) = (1 : Int32) then
 (kw_chk (kw_in (((172 : Int32) + ((3 : Int32) * a1)) + (1 : Int32)) 2832) <|
 some ((r3.1 1 (((172 : Int32) + ((3 : Int32) * a1)) + (1 : Int32)).toNatClampNeg).toInt64, r3))
 else
 some ((-9000000000000000000 : Int64), r3))
 else
 if a2 = (11 : Int32) then
 (kw_chk (kw_in a1 12) <|
 if (r3.2 3 a1.toNatClampNeg) = (900000000000000000 : Int64) then
 (some ((0 : Int64), r3))
 else
 (fX10_belowOf a1 r3).bind fun r52 =>
 some (r52.toInt64, r3))
 else
 if a2 = (12 : Int32) then
 (jX10_town_287 a1 a2 r3)
 else
 if a2 = (13 : Int32) then
 ((fX10_narrowOf a1 r3).bind fun r55 =>
 (fX10_told r55 r3).bind fun r56 =>
 some (r56, r3))
 else
 if a2 = (14 : Int32) then
 ((fX10_apartOf a1 r3).bind fun r58 =>
 (fX10_told r58.1 r58.2).bind fun r59 =>
 some (r59, r58.2))
 else
 jX10_town_287 a1 a2 r3
set_option maxHeartbeats 4000000 in
set_option maxRecDepth 100000 in
theorem gX10_town {E : kw_E} {d : Nat} (a1 : Int32) (a2 : Int32) (σ : kw_M) {r : Int64 × kw_M} (h : fX10_town a1 a2 σ = some r) : kw_Met E kwTM 21 (d + 6) μX10_town [.ref 0, .int a1, .int a2] σ (some (Value.long r.1)) r.2 := by
  refine kw_enter plRX10 (Nat.le_of_ble_eq_true rfl) ?_
  show kw_G E kwTM 21 (d + 6) μX10_town 0 [(0, .ref 0), (1, .int a1), (2, .int a2)] [] σ (some (Value.long r.1)) r.2
  unfold fX10_town at h
  refine kg_aload_n 0 dX10_town_0 rfl (pc2 := 1) rfl ?_
  refine kg_iload_n 1 dX10_town_1 rfl (pc2 := 2) rfl ?_
  obtain ⟨r1, r1h, h⟩ := kw_bind_e h
  refine kg_callV (d := (d + 5)) rfl mVX10_isTown [.int a1] [] (gX10_isTown (E := E) (d := (d + 4)) a1 σ r1h) rfl lmRX10_121 (ci := 10) rfl tM_0 eM_0 rfl (Nat.le_of_ble_eq_true rfl) dX10_town_2 rfl (st2 := [.int r1]) rfl (pc2 := 5) rfl ?_
  refine kg_if_ne 12 dX10_town_5 rfl (pc2 := 8) rfl (fun q2 => ?_) (fun q2 => ?_)
  · replace h := (if_neg q2).symm.trans h
    refine kg_aload_n 0 dX10_town_12 rfl (pc2 := 13) rfl ?_
    obtain ⟨r3, r3h, h⟩ := kw_bind_e h
    refine kg_callV (d := (d + 5)) rfl mVX10_settles [] [] (gX10_settles (E := E) (d := (d + 2)) σ r3h) rfl lmRX10_104 (ci := 10) rfl tM_0 eM_0 rfl (Nat.le_of_ble_eq_true rfl) dX10_town_13 rfl (st2 := []) rfl (pc2 := 16) rfl ?_
    refine kg_iload_n 2 dX10_town_16 rfl (pc2 := 17) rfl ?_
    by_cases q4 : a2 = (0 : Int32)
    · replace h := (if_pos q4).symm.trans h
      refine kg_tsIn 92 dX10_town_17 (by rw [q4]; decide) (by rw [q4]; decide) (by rw [q4]; decide) rfl ?_
      refine kg_aload_n 0 dX10_town_92 rfl (pc2 := 93) rfl ?_
      refine kg_getr clX10 rfl 3 (Nat.le_of_ble_eq_true rfl) lfRX10_17 tM_0 eM_0 rfl dX10_town_93 (pc2 := 96) rfl ?_
      refine kg_iload_n 1 dX10_town_96 rfl (pc2 := 97) rfl ?_
      obtain ⟨q5, h⟩ := kw_chk_e h
      refine kg_lald tM_3 eM_3 q5 (j := a1.toNatClampNeg) rfl dX10_town_97 (pc2 := 98) rfl ?_
      obtain ⟨r6, r6h, h⟩ := kw_bind_e h
      refine kg_callS (d := (d + 5)) rfl mSX10_told [.long (r3.2 3 a1.toNatClampNeg)] [] (gX10_told (E := E) (d := (d + 5)) (r3.2 3 a1.toNatClampNeg) r3 r6h) rfl lmRX10_336 rfl (Nat.le_of_ble_eq_true rfl) dX10_town_98 rfl (st2 := [.long r6]) rfl (pc2 := 101) rfl ?_
      cases h
      exact kg_lret dX10_town_101 rfl
    · replace h := (if_neg q4).symm.trans h
      by_cases q7 : a2 = (1 : Int32)
      · replace h := (if_pos q7).symm.trans h
        refine kg_tsIn 102 dX10_town_17 (by rw [q7]; decide) (by rw [q7]; decide) (by rw [q7]; decide) rfl ?_
        refine kg_aload_n 0 dX10_town_102 rfl (pc2 := 103) rfl ?_
        refine kg_iload_n 1 dX10_town_103 rfl (pc2 := 104) rfl ?_
        obtain ⟨r8, r8h, h⟩ := kw_bind_e h
        refine kg_callV (d := (d + 5)) rfl mVX10_parentOf [.int a1] [] (gX10_parentOf (E := E) (d := (d + 2)) a1 r3 r8h) rfl lmRX10_306 (ci := 10) rfl tM_0 eM_0 rfl (Nat.le_of_ble_eq_true rfl) dX10_town_104 rfl (st2 := [.int r8]) rfl (pc2 := 107) rfl ?_
        refine kg_iconst dX10_town_107 ki_m1 (pc2 := 108) rfl ?_
        refine kg_icmp_ne 117 dX10_town_108 rfl (pc2 := 111) rfl (fun q9 => ?_) (fun q9 => ?_)
        · replace h := (if_neg q9).symm.trans h
          refine kg_aload_n 0 dX10_town_117 rfl (pc2 := 118) rfl ?_
          refine kg_iload_n 1 dX10_town_118 rfl (pc2 := 119) rfl ?_
          obtain ⟨r10, r10h, h⟩ := kw_bind_e h
          refine kg_callV (d := (d + 5)) rfl mVX10_parentOf [.int a1] [] (gX10_parentOf (E := E) (d := (d + 2)) a1 r3 r10h) rfl lmRX10_306 (ci := 10) rfl tM_0 eM_0 rfl (Nat.le_of_ble_eq_true rfl) dX10_town_119 rfl (st2 := [.int r10]) rfl (pc2 := 122) rfl ?_
          refine kg_i2l dX10_town_122 (pc2 := 123) rfl ?_
          cases h
          exact kg_lret dX10_town_123 rfl
        · replace h := (if_pos q9).symm.trans h
          refine kg_ldc2 rfl lcRX10_340 dX10_town_111 (pc2 := 114) rfl ?_
          refine kg_goto 123 dX10_town_114 rfl ?_
          cases h
          exact kg_lret dX10_town_123 rfl
      · replace h := (if_neg q7).symm.trans h
        by_cases q11 : a2 = (2 : Int32)
        · replace h := (if_pos q11).symm.trans h
          refine kg_tsIn 124 dX10_town_17 (by rw [q11]; decide) (by rw [q11]; decide) (by rw [q11]; decide) rfl ?_
          refine kg_aload_n 0 dX10_town_124 rfl (pc2 := 125) rfl ?_
          refine kg_iload_n 1 dX10_town_125 rfl (pc2 := 126) rfl ?_
          obtain ⟨r12, r12h, h⟩ := kw_bind_e h
          refine kg_callV (d := (d + 5)) rfl mVX10_goesBack [.int a1] [] (gX10_goesBack (E := E) (d := (d + 1)) a1 r3 r12h) rfl lmRX10_315 (ci := 10) rfl tM_0 eM_0 rfl (Nat.le_of_ble_eq_true rfl) dX10_town_126 rfl (st2 := [.int r12.1]) rfl (pc2 := 129) rfl ?_
          refine kg_iconst dX10_town_129 ki_m1 (pc2 := 130) rfl ?_
          refine kg_icmp_ne 139 dX10_town_130 rfl (pc2 := 133) rfl (fun q13 => ?_) (fun q13 => ?_)
          · replace h := (if_neg q13).symm.trans h
            refine kg_aload_n 0 dX10_town_139 rfl (pc2 := 140) rfl ?_
            refine kg_iload_n 1 dX10_town_140 rfl (pc2 := 141) rfl ?_
            obtain ⟨r14, r14h, h⟩ := kw_bind_e h
            refine kg_callV (d := (d + 5)) rfl mVX10_goesBack [.int a1] [] (gX10_goesBack (E := E) (d := (d + 1)) a1 r12.2 r14h) rfl lmRX10_315 (ci := 10) rfl tM_0 eM_0 rfl (Nat.le_of_ble_eq_true rfl) dX10_town_141 rfl (st2 := [.int r14.1]) rfl (pc2 := 144) rfl ?_
            refine kg_i2l dX10_town_144 (pc2 := 145) rfl ?_
            cases h
            exact kg_lret dX10_town_145 rfl
          · replace h := (if_pos q13).symm.trans h
            refine kg_ldc2 rfl lcRX10_340 dX10_town_133 (pc2 := 136) rfl ?_
            refine kg_goto 145 dX10_town_136 rfl ?_
            cases h
            exact kg_lret dX10_town_145 rfl
        · replace h := (if_neg q11).symm.trans h
          by_cases q15 : a2 = (3 : Int32)
          · replace h := (if_pos q15).symm.trans h
            refine kg_tsIn 146 dX10_town_17 (by rw [q15]; decide) (by rw [q15]; decide) (by rw [q15]; decide) rfl ?_
            refine kg_aload_n 0 dX10_town_146 rfl (pc2 := 147) rfl ?_
            refine kg_iload_n 1 dX10_town_147 rfl (pc2 := 148) rfl ?_
            obtain ⟨r16, r16h, h⟩ := kw_bind_e h
            refine kg_callV (d := (d + 5)) rfl mVX10_tightTo [.int a1] [] (gX10_tightTo (E := E) (d := (d + 2)) a1 r3 r16h) rfl lmRX10_342 (ci := 10) rfl tM_0 eM_0 rfl (Nat.le_of_ble_eq_true rfl) dX10_town_148 rfl (st2 := [.int r16]) rfl (pc2 := 151) rfl ?_
            refine kg_i2l dX10_town_151 (pc2 := 152) rfl ?_
            cases h
            exact kg_lret dX10_town_152 rfl
          · replace h := (if_neg q15).symm.trans h
            by_cases q17 : a2 = (4 : Int32)
            · replace h := (if_pos q17).symm.trans h
              refine kg_tsIn 153 dX10_town_17 (by rw [q17]; decide) (by rw [q17]; decide) (by rw [q17]; decide) rfl ?_
              refine kg_aload_n 0 dX10_town_153 rfl (pc2 := 154) rfl ?_
              refine kg_iconst dX10_town_154 ki_m1 (pc2 := 155) rfl ?_
              obtain ⟨r18, r18h, h⟩ := kw_bind_e h
              refine kg_callV (d := (d + 5)) rfl mVX10_countsWays [.int (-1 : Int32)] [] (gX10_countsWays (E := E) (d := (d + 2)) (-1 : Int32) r3 r18h) rfl lmRX10_309 (ci := 10) rfl tM_0 eM_0 rfl (Nat.le_of_ble_eq_true rfl) dX10_town_155 rfl (st2 := []) rfl (pc2 := 158) rfl ?_
              refine kg_aload_n 0 dX10_town_158 rfl (pc2 := 159) rfl ?_
              refine kg_getr clX10 rfl 21 (Nat.le_of_ble_eq_true rfl) lfRX10_42 tM_0 eM_0 rfl dX10_town_159 (pc2 := 162) rfl ?_
              refine kg_iload_n 1 dX10_town_162 rfl (pc2 := 163) rfl ?_
              obtain ⟨q19, h⟩ := kw_chk_e h
              refine kg_lald tM_11 eM_11 q19 (j := a1.toNatClampNeg) rfl dX10_town_163 (pc2 := 164) rfl ?_
              refine kg_ldc2 rfl lcRX10_87 dX10_town_164 (pc2 := 167) rfl ?_
              refine kg_lcmp_le 177 dX10_town_167 dX10_town_168 rfl (pc2 := 171) rfl (fun q20 => ?_) (fun q20 => ?_)
              · replace h := (if_pos q20).symm.trans h
                refine kg_aload_n 0 dX10_town_177 rfl (pc2 := 178) rfl ?_
                refine kg_getr clX10 rfl 21 (Nat.le_of_ble_eq_true rfl) lfRX10_42 tM_0 eM_0 rfl dX10_town_178 (pc2 := 181) rfl ?_
                refine kg_iload_n 1 dX10_town_181 rfl (pc2 := 182) rfl ?_
                refine kg_lald tM_11 eM_11 q19 (j := a1.toNatClampNeg) rfl dX10_town_182 (pc2 := 183) rfl ?_
                cases h
                exact kg_lret dX10_town_183 rfl
              · replace h := (if_neg q20).symm.trans h
                refine kg_ldc2 rfl lcRX10_87 dX10_town_171 (pc2 := 174) rfl ?_
                refine kg_goto 183 dX10_town_174 rfl ?_
                cases h
                exact kg_lret dX10_town_183 rfl
            · replace h := (if_neg q17).symm.trans h
              by_cases q21 : a2 = (5 : Int32)
              · replace h := (if_pos q21).symm.trans h
                refine kg_tsIn 184 dX10_town_17 (by rw [q21]; decide) (by rw [q21]; decide) (by rw [q21]; decide) rfl ?_
                refine kg_aload_n 0 dX10_town_184 rfl (pc2 := 185) rfl ?_
                refine kg_iload_n 1 dX10_town_185 rfl (pc2 := 186) rfl ?_
                obtain ⟨r22, r22h, h⟩ := kw_bind_e h
                refine kg_callV (d := (d + 5)) rfl mVX10_neededMany [.int a1] [] (gX10_neededMany (E := E) (d := d) a1 r3 r22h) rfl lmRX10_345 (ci := 10) rfl tM_0 eM_0 rfl (Nat.le_of_ble_eq_true rfl) dX10_town_186 rfl (st2 := [.int r22.1]) rfl (pc2 := 189) rfl ?_
                refine kg_i2l dX10_town_189 (pc2 := 190) rfl ?_
                cases h
                exact kg_lret dX10_town_190 rfl
              · replace h := (if_neg q21).symm.trans h
                by_cases q23 : a2 = (6 : Int32)
                · replace h := (if_pos q23).symm.trans h
                  refine kg_tsIn 191 dX10_town_17 (by rw [q23]; decide) (by rw [q23]; decide) (by rw [q23]; decide) rfl ?_
                  refine kg_aload_n 0 dX10_town_191 rfl (pc2 := 192) rfl ?_
                  refine kg_iload_n 1 dX10_town_192 rfl (pc2 := 193) rfl ?_
                  obtain ⟨r24, r24h, h⟩ := kw_bind_e h
                  refine kg_callV (d := (d + 5)) rfl mVX10_dearestOf [.int a1] [] (gX10_dearestOf (E := E) (d := d) a1 r3 r24h) rfl lmRX10_348 (ci := 10) rfl tM_0 eM_0 rfl (Nat.le_of_ble_eq_true rfl) dX10_town_193 rfl (st2 := [.int r24.1]) rfl (pc2 := 196) rfl ?_
                  refine kg_i2l dX10_town_196 (pc2 := 197) rfl ?_
                  cases h
                  exact kg_lret dX10_town_197 rfl
                · replace h := (if_neg q23).symm.trans h
                  by_cases q25 : a2 = (7 : Int32)
                  · replace h := (if_pos q25).symm.trans h
                    refine kg_tsIn 198 dX10_town_17 (by rw [q25]; decide) (by rw [q25]; decide) (by rw [q25]; decide) rfl ?_
                    refine kg_aload_n 0 dX10_town_198 rfl (pc2 := 199) rfl ?_
                    refine kg_iload_n 1 dX10_town_199 rfl (pc2 := 200) rfl ?_
                    obtain ⟨r26, r26h, h⟩ := kw_bind_e h
                    refine kg_callV (d := (d + 5)) rfl mVX10_nextOf [.int a1] [] (gX10_nextOf (E := E) (d := (d + 1)) a1 r3 r26h) rfl lmRX10_351 (ci := 10) rfl tM_0 eM_0 rfl (Nat.le_of_ble_eq_true rfl) dX10_town_200 rfl (st2 := [.long r26.1]) rfl (pc2 := 203) rfl ?_
                    obtain ⟨r27, r27h, h⟩ := kw_bind_e h
                    refine kg_callS (d := (d + 5)) rfl mSX10_told [.long r26.1] [] (gX10_told (E := E) (d := (d + 5)) r26.1 r26.2 r27h) rfl lmRX10_336 rfl (Nat.le_of_ble_eq_true rfl) dX10_town_203 rfl (st2 := [.long r27]) rfl (pc2 := 206) rfl ?_
                    cases h
                    exact kg_lret dX10_town_206 rfl
                  · replace h := (if_neg q25).symm.trans h
                    by_cases q28 : a2 = (8 : Int32)
                    · replace h := (if_pos q28).symm.trans h
                      refine kg_tsIn 287 dX10_town_17 (by rw [q28]; decide) (by rw [q28]; decide) (by rw [q28]; decide) rfl ?_
                      exact gjX10_town_287 a1 a2 r3 h
                    · replace h := (if_neg q28).symm.trans h
                      by_cases q44 : a2 = (9 : Int32)
                      · replace h := (if_pos q44).symm.trans h
                        refine kg_tsIn 287 dX10_town_17 (by rw [q44]; decide) (by rw [q44]; decide) (by rw [q44]; decide) rfl ?_
                        exact gjX10_town_287 a1 a2 r3 h
                      · replace h := (if_neg q44).symm.trans h
                        by_cases q45 : a2 = (10 : Int32)
                        · replace h := (if_pos q45).symm.trans h
                          refine kg_tsIn 207 dX10_town_17 (by rw [q45]; decide) (by rw [q45]; decide) (by rw [q45]; decide) rfl ?_
                          refine kg_aload_n 0 dX10_town_207 rfl (pc2 := 208) rfl ?_
                          refine kg_getr clX10 rfl 0 (Nat.le_of_ble_eq_true rfl) lfRX10_7 tM_0 eM_0 rfl dX10_town_208 (pc2 := 211) rfl ?_
                          refine kg_sipush dX10_town_211 ks_172 (pc2 := 214) rfl ?_
                          refine kg_iconst dX10_town_214 ki_3 (pc2 := 215) rfl ?_
                          refine kg_iload_n 1 dX10_town_215 rfl (pc2 := 216) rfl ?_
                          refine kg_imul dX10_town_216 (pc2 := 217) rfl ?_
                          refine kg_iadd dX10_town_217 (pc2 := 218) rfl ?_
                          obtain ⟨q46, h⟩ := kw_chk_e h
                          refine kg_iald tM_1 eM_1 q46 (j := ((172 : Int32) + ((3 : Int32) * a1)).toNatClampNeg) rfl dX10_town_218 (pc2 := 219) rfl ?_
                          refine kg_iconst dX10_town_219 ki_1 (pc2 := 220) rfl ?_
                          refine kg_icmp_ne 241 dX10_town_220 rfl (pc2 := 223) rfl (fun q47 => ?_) (fun q47 => ?_)
                          · replace h := (if_neg q47).symm.trans h
                            refine kg_ldc2 rfl lcRX10_99 dX10_town_241 (pc2 := 244) rfl ?_
                            cases h
                            exact kg_lret dX10_town_244 rfl
                          · replace h := (if_pos q47).symm.trans h
                            refine kg_aload_n 0 dX10_town_223 rfl (pc2 := 224) rfl ?_
                            refine kg_getr clX10 rfl 0 (Nat.le_of_ble_eq_true rfl) lfRX10_7 tM_0 eM_0 rfl dX10_town_224 (pc2 := 227) rfl ?_
                            refine kg_sipush dX10_town_227 ks_172 (pc2 := 230) rfl ?_
                            refine kg_iconst dX10_town_230 ki_3 (pc2 := 231) rfl ?_
                            refine kg_iload_n 1 dX10_town_231 rfl (pc2 := 232) rfl ?_
                            refine kg_imul dX10_town_232 (pc2 := 233) rfl ?_
                            refine kg_iadd dX10_town_233 (pc2 := 234) rfl ?_
                            refine kg_iconst dX10_town_234 ki_1 (pc2 := 235) rfl ?_
                            refine kg_iadd dX10_town_235 (pc2 := 236) rfl ?_
                            obtain ⟨q48, h⟩ := kw_chk_e h
                            refine kg_iald tM_1 eM_1 q48 (j := (((172 : Int32) + ((3 : Int32) * a1)) + (1 : Int32)).toNatClampNeg) rfl dX10_town_236 (pc2 := 237) rfl ?_
                            refine kg_i2l dX10_town_237 (pc2 := 238) rfl ?_
                            refine kg_goto 244 dX10_town_238 rfl ?_
                            cases h
                            exact kg_lret dX10_town_244 rfl
                        · replace h := (if_neg q45).symm.trans h
                          by_cases q49 : a2 = (11 : Int32)
                          · replace h := (if_pos q49).symm.trans h
                            refine kg_tsIn 245 dX10_town_17 (by rw [q49]; decide) (by rw [q49]; decide) (by rw [q49]; decide) rfl ?_
                            refine kg_aload_n 0 dX10_town_245 rfl (pc2 := 246) rfl ?_
                            refine kg_getr clX10 rfl 3 (Nat.le_of_ble_eq_true rfl) lfRX10_17 tM_0 eM_0 rfl dX10_town_246 (pc2 := 249) rfl ?_
                            refine kg_iload_n 1 dX10_town_249 rfl (pc2 := 250) rfl ?_
                            obtain ⟨q50, h⟩ := kw_chk_e h
                            refine kg_lald tM_3 eM_3 q50 (j := a1.toNatClampNeg) rfl dX10_town_250 (pc2 := 251) rfl ?_
                            refine kg_ldc2 rfl lcRX10_89 dX10_town_251 (pc2 := 254) rfl ?_
                            refine kg_lcmp_ne 262 dX10_town_254 dX10_town_255 rfl (pc2 := 258) rfl (fun q51 => ?_) (fun q51 => ?_)
                            · replace h := (if_neg q51).symm.trans h
                              refine kg_aload_n 0 dX10_town_262 rfl (pc2 := 263) rfl ?_
                              refine kg_iload_n 1 dX10_town_263 rfl (pc2 := 264) rfl ?_
                              obtain ⟨r52, r52h, h⟩ := kw_bind_e h
                              refine kg_callV (d := (d + 5)) rfl mVX10_belowOf [.int a1] [] (gX10_belowOf (E := E) (d := (d + 1)) a1 r3 r52h) rfl lmRX10_354 (ci := 10) rfl tM_0 eM_0 rfl (Nat.le_of_ble_eq_true rfl) dX10_town_264 rfl (st2 := [.int r52]) rfl (pc2 := 267) rfl ?_
                              refine kg_i2l dX10_town_267 (pc2 := 268) rfl ?_
                              cases h
                              exact kg_lret dX10_town_268 rfl
                            · replace h := (if_pos q51).symm.trans h
                              refine kg_lconst dX10_town_258 kl_0 (pc2 := 259) rfl ?_
                              refine kg_goto 268 dX10_town_259 rfl ?_
                              cases h
                              exact kg_lret dX10_town_268 rfl
                          · replace h := (if_neg q49).symm.trans h
                            by_cases q53 : a2 = (12 : Int32)
                            · replace h := (if_pos q53).symm.trans h
                              refine kg_tsIn 287 dX10_town_17 (by rw [q53]; decide) (by rw [q53]; decide) (by rw [q53]; decide) rfl ?_
                              exact gjX10_town_287 a1 a2 r3 h
                            · replace h := (if_neg q53).symm.trans h
                              by_cases q54 : a2 = (13 : Int32)
                              · replace h := (if_pos q54).symm.trans h
                                refine kg_tsIn 269 dX10_town_17 (by rw [q54]; decide) (by rw [q54]; decide) (by rw [q54]; decide) rfl ?_
                                refine kg_aload_n 0 dX10_town_269 rfl (pc2 := 270) rfl ?_
                                refine kg_iload_n 1 dX10_town_270 rfl (pc2 := 271) rfl ?_
                                obtain ⟨r55, r55h, h⟩ := kw_bind_e h
                                refine kg_callV (d := (d + 5)) rfl mVX10_narrowOf [.int a1] [] (gX10_narrowOf (E := E) (d := (d + 2)) a1 r3 r55h) rfl lmRX10_357 (ci := 10) rfl tM_0 eM_0 rfl (Nat.le_of_ble_eq_true rfl) dX10_town_271 rfl (st2 := [.long r55]) rfl (pc2 := 274) rfl ?_
                                obtain ⟨r56, r56h, h⟩ := kw_bind_e h
                                refine kg_callS (d := (d + 5)) rfl mSX10_told [.long r55] [] (gX10_told (E := E) (d := (d + 5)) r55 r3 r56h) rfl lmRX10_336 rfl (Nat.le_of_ble_eq_true rfl) dX10_town_274 rfl (st2 := [.long r56]) rfl (pc2 := 277) rfl ?_
                                cases h
                                exact kg_lret dX10_town_277 rfl
                              · replace h := (if_neg q54).symm.trans h
                                by_cases q57 : a2 = (14 : Int32)
                                · replace h := (if_pos q57).symm.trans h
                                  refine kg_tsIn 278 dX10_town_17 (by rw [q57]; decide) (by rw [q57]; decide) (by rw [q57]; decide) rfl ?_
                                  refine kg_aload_n 0 dX10_town_278 rfl (pc2 := 279) rfl ?_
                                  refine kg_iload_n 1 dX10_town_279 rfl (pc2 := 280) rfl ?_
                                  obtain ⟨r58, r58h, h⟩ := kw_bind_e h
                                  refine kg_callV (d := (d + 5)) rfl mVX10_apartOf [.int a1] [] (gX10_apartOf (E := E) (d := d) a1 r3 r58h) rfl lmRX10_360 (ci := 10) rfl tM_0 eM_0 rfl (Nat.le_of_ble_eq_true rfl) dX10_town_280 rfl (st2 := [.long r58.1]) rfl (pc2 := 283) rfl ?_
                                  obtain ⟨r59, r59h, h⟩ := kw_bind_e h
                                  refine kg_callS (d := (d + 5)) rfl mSX10_told [.long r58.1] [] (gX10_told (E := E) (d := (d + 5)) r58.1 r58.2 r59h) rfl lmRX10_336 rfl (Nat.le_of_ble_eq_true rfl) dX10_town_283 rfl (st2 := [.long r59]) rfl (pc2 := 286) rfl ?_
                                  cases h
                                  exact kg_lret dX10_town_286 rfl
                                · replace h := (if_neg q57).symm.trans h
                                  refine kg_tsOut 287 dX10_town_17 (by have a0 := kw_neI (n := 0) (by decide) q4; have a1 := kw_neI (n := 1) (by decide) q7; have a2 := kw_neI (n := 2) (by decide) q11; have a3 := kw_neI (n := 3) (by decide) q15; have a4 := kw_neI (n := 4) (by decide) q17; have a5 := kw_neI (n := 5) (by decide) q21; have a6 := kw_neI (n := 6) (by decide) q23; have a7 := kw_neI (n := 7) (by decide) q25; have a8 := kw_neI (n := 8) (by decide) q28; have a9 := kw_neI (n := 9) (by decide) q44; have a10 := kw_neI (n := 10) (by decide) q45; have a11 := kw_neI (n := 11) (by decide) q49; have a12 := kw_neI (n := 12) (by decide) q53; have a13 := kw_neI (n := 13) (by decide) q54; have a14 := kw_neI (n := 14) (by decide) q57; omega) rfl ?_
                                  exact gjX10_town_287 a1 a2 r3 h
  · replace h := (if_pos q2).symm.trans h
    refine kg_ldc2 rfl lcRX10_99 dX10_town_8 (pc2 := 11) rfl ?_
    cases h
    exact kg_lret dX10_town_11 rfl
