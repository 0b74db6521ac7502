/-! The class, method by method: what it computes (f), and that the machine does so (g). -/
def fX4_hasRoad (a1 : Int32) (σ : kw_M) : Option (Int32) :=
 if a1 < (0 : Int32) then
 (some (0 : Int32))
 else
 if (σ.1 12 1) ≤ a1 then
 (some (0 : Int32))
 else
 some (1 : Int32)
set_option maxHeartbeats 4000000 in
set_option maxRecDepth 100000 in
theorem gX4_hasRoad {E : kw_E} {d : Nat} (a1 : Int32) (σ : kw_M) {r : Int32} (h : fX4_hasRoad a1 σ = some r) : kw_Met E kwTX 47 d μX4_hasRoad [.ref 12, .int a1] σ (some (Value.int r)) σ := by
  refine kw_enter plRX4 (Nat.le_of_ble_eq_true rfl) ?_
  show kw_G E kwTX 47 d μX4_hasRoad 0 [(0, .ref 12), (1, .int a1)] [] σ (some (Value.int r)) σ
  unfold fX4_hasRoad at h
  refine kg_iload_n 1 dX4_hasRoad_0 rfl (pc2 := 1) rfl ?_
  refine kg_if_lt 16 dX4_hasRoad_1 rfl (pc2 := 4) rfl (fun q1 => ?_) (fun q1 => ?_)
  · replace h := (if_pos q1).symm.trans h
    refine kg_iconst dX4_hasRoad_16 ki_0 (pc2 := 17) rfl ?_
    cases h
    exact kg_iret (ty := .boolean) dX4_hasRoad_17 rfl rfl
  · replace h := (if_neg q1).symm.trans h
    refine kg_iload_n 1 dX4_hasRoad_4 rfl (pc2 := 5) rfl ?_
    refine kg_aload_n 0 dX4_hasRoad_5 rfl (pc2 := 6) rfl ?_
    refine kg_geti clX4 rfl 1 (Nat.le_of_ble_eq_true rfl) lfRX4_25 tX_12 eX_12 rfl dX4_hasRoad_6 (pc2 := 9) rfl ?_
    refine kg_icmp_ge 16 dX4_hasRoad_9 rfl (pc2 := 12) rfl (fun q2 => ?_) (fun q2 => ?_)
    · replace h := (if_pos q2).symm.trans h
      refine kg_iconst dX4_hasRoad_16 ki_0 (pc2 := 17) rfl ?_
      cases h
      exact kg_iret (ty := .boolean) dX4_hasRoad_17 rfl rfl
    · replace h := (if_neg q2).symm.trans h
      refine kg_iconst dX4_hasRoad_12 ki_1 (pc2 := 13) rfl ?_
      refine kg_goto 17 dX4_hasRoad_13 rfl ?_
      cases h
      exact kg_iret (ty := .boolean) dX4_hasRoad_17 rfl rfl
def fX9_changeLength (a1 : Int32) (a2 : Int32) (σ : kw_M) : Option (Int32 × kw_M) :=
 (fX4_hasRoad a1 σ).bind fun r1 =>
 if r1 = (0 : Int32) then
 (some ((-1 : Int32), σ))
 else
 (fX9_isLength a2 σ).bind fun r3 =>
 if r3 = (0 : Int32) then
 (some ((-1 : Int32), σ))
 else
 kw_chk (kw_in a1 36) <|
 if (σ.1 20 a1.toNatClampNeg) = a2 then
 (some ((-2 : Int32), σ))
 else
 (fX4_copyFrom 10 12 σ).bind fun r7 =>
 kw_let (kw_si r7 34 a1.toNatClampNeg a2) fun s8 =>
 (fX9_doChange a1 (s8.1 1 2) s8).bind fun r9 =>
 some (r9.1, r9.2)
set_option maxHeartbeats 4000000 in
set_option maxRecDepth 100000 in
theorem gX9_changeLength {E : kw_E} {d : Nat} (a1 : Int32) (a2 : Int32) (σ : kw_M) {r : Int32 × kw_M} (h : fX9_changeLength a1 a2 σ = some r) : kw_Met E kwTX 47 (d + 5) μX9_changeLength [.ref 0, .int a1, .int a2] σ (some (Value.int r.1)) r.2 := by
  refine kw_enter plRX9 (Nat.le_of_ble_eq_true rfl) ?_
  show kw_G E kwTX 47 (d + 5) μX9_changeLength 0 [(0, .ref 0), (1, .int a1), (2, .int a2)] [] σ (some (Value.int r.1)) r.2
  unfold fX9_changeLength at h
  refine kg_aload_n 0 dX9_changeLength_0 rfl (pc2 := 1) rfl ?_
  refine kg_getr clX9 rfl 0 (Nat.le_of_ble_eq_true rfl) lfRX9_10 tX_0 eX_0 rfl dX9_changeLength_1 (pc2 := 4) rfl ?_
  refine kg_getr clX7 rfl 0 (Nat.le_of_ble_eq_true rfl) lfRX9_148 tX_1 eX_1 rfl dX9_changeLength_4 (pc2 := 7) rfl ?_
  refine kg_iload_n 1 dX9_changeLength_7 rfl (pc2 := 8) rfl ?_
  obtain ⟨r1, r1h, h⟩ := kw_bind_e h
  refine kg_callV (μ := μX9_changeLength) (d := (d + 4)) rfl mVX4_hasRoad [.int a1] [] (gX4_hasRoad (E := E) (d := (d + 4)) a1 σ r1h) rfl lmRX9_195 (ci := 4) rfl tX_12 eX_12 rfl (Nat.le_of_ble_eq_true rfl) dX9_changeLength_8 rfl (st2 := [.int r1]) rfl (pc2 := 11) rfl ?_
  refine kg_if_eq 21 dX9_changeLength_11 rfl (pc2 := 14) rfl (fun q2 => ?_) (fun q2 => ?_)
  · replace h := (if_pos q2).symm.trans h
    refine kg_iconst dX9_changeLength_21 ki_m1 (pc2 := 22) rfl ?_
    cases h
    exact kg_iret (ty := .int) dX9_changeLength_22 rfl rfl
  · replace h := (if_neg q2).symm.trans h
    refine kg_iload_n 2 dX9_changeLength_14 rfl (pc2 := 15) rfl ?_
    obtain ⟨r3, r3h, h⟩ := kw_bind_e h
    refine kg_callS (μ := μX9_changeLength) (d := (d + 4)) rfl mSX9_isLength [.int a2] [] (gX9_isLength (E := E) (d := (d + 4)) a2 σ r3h) rfl lmRX9_179 rfl (Nat.le_of_ble_eq_true rfl) dX9_changeLength_15 rfl (st2 := [.int r3]) rfl (pc2 := 18) rfl ?_
    refine kg_if_ne 23 dX9_changeLength_18 rfl (pc2 := 21) rfl (fun q4 => ?_) (fun q4 => ?_)
    · replace h := (if_neg q4).symm.trans h
      refine kg_aload_n 0 dX9_changeLength_23 rfl (pc2 := 24) rfl ?_
      refine kg_getr clX9 rfl 0 (Nat.le_of_ble_eq_true rfl) lfRX9_10 tX_0 eX_0 rfl dX9_changeLength_24 (pc2 := 27) rfl ?_
      refine kg_getr clX7 rfl 0 (Nat.le_of_ble_eq_true rfl) lfRX9_148 tX_1 eX_1 rfl dX9_changeLength_27 (pc2 := 30) rfl ?_
      refine kg_getr clX4 rfl 5 (Nat.le_of_ble_eq_true rfl) lfRX9_198 tX_12 eX_12 rfl dX9_changeLength_30 (pc2 := 33) rfl ?_
      refine kg_iload_n 1 dX9_changeLength_33 rfl (pc2 := 34) rfl ?_
      obtain ⟨q5, h⟩ := kw_chk_e h
      refine kg_iald tX_20 eX_20 q5 (j := a1.toNatClampNeg) rfl dX9_changeLength_34 (pc2 := 35) rfl ?_
      refine kg_iload_n 2 dX9_changeLength_35 rfl (pc2 := 36) rfl ?_
      refine kg_icmp_ne 42 dX9_changeLength_36 rfl (pc2 := 39) rfl (fun q6 => ?_) (fun q6 => ?_)
      · replace h := (if_neg q6).symm.trans h
        refine kg_aload_n 0 dX9_changeLength_42 rfl (pc2 := 43) rfl ?_
        refine kg_getr clX9 rfl 10 (Nat.le_of_ble_eq_true rfl) lfRX9_72 tX_0 eX_0 rfl dX9_changeLength_43 (pc2 := 46) rfl ?_
        refine kg_aload_n 0 dX9_changeLength_46 rfl (pc2 := 47) rfl ?_
        refine kg_getr clX9 rfl 0 (Nat.le_of_ble_eq_true rfl) lfRX9_10 tX_0 eX_0 rfl dX9_changeLength_47 (pc2 := 50) rfl ?_
        refine kg_getr clX7 rfl 0 (Nat.le_of_ble_eq_true rfl) lfRX9_148 tX_1 eX_1 rfl dX9_changeLength_50 (pc2 := 53) rfl ?_
        obtain ⟨r7, r7h, h⟩ := kw_bind_e h
        refine kg_callV (μ := μX9_changeLength) (d := (d + 4)) rfl mVX4_copyFrom [.ref 12] [] (gX4_copyFrom (E := E) (d := (d + 3)) 10 12 kx_4_10 kx_4_12 σ r7h) rfl lmRX9_185 (ci := 4) rfl tX_10 eX_10 rfl (Nat.le_of_ble_eq_true rfl) dX9_changeLength_53 rfl (st2 := []) rfl (pc2 := 56) rfl ?_
        refine kg_aload_n 0 dX9_changeLength_56 rfl (pc2 := 57) rfl ?_
        refine kg_getr clX9 rfl 10 (Nat.le_of_ble_eq_true rfl) lfRX9_72 tX_0 eX_0 rfl dX9_changeLength_57 (pc2 := 60) rfl ?_
        refine kg_getr clX4 rfl 5 (Nat.le_of_ble_eq_true rfl) lfRX9_198 tX_10 eX_10 rfl dX9_changeLength_60 (pc2 := 63) rfl ?_
        refine kg_iload_n 1 dX9_changeLength_63 rfl (pc2 := 64) rfl ?_
        refine kg_iload_n 2 dX9_changeLength_64 rfl (pc2 := 65) rfl ?_
        obtain ⟨s8, s8e, h⟩ := kw_let_e h
        refine kg_iast tX_34 eX_34 q5 (j := a1.toNatClampNeg) rfl s8e dX9_changeLength_65 (pc2 := 66) rfl ?_
        refine kg_aload_n 0 dX9_changeLength_66 rfl (pc2 := 67) rfl ?_
        refine kg_iload_n 1 dX9_changeLength_67 rfl (pc2 := 68) rfl ?_
        refine kg_aload_n 0 dX9_changeLength_68 rfl (pc2 := 69) rfl ?_
        refine kg_getr clX9 rfl 0 (Nat.le_of_ble_eq_true rfl) lfRX9_10 tX_0 eX_0 rfl dX9_changeLength_69 (pc2 := 72) rfl ?_
        refine kg_geti clX7 rfl 2 (Nat.le_of_ble_eq_true rfl) lfRX9_189 tX_1 eX_1 rfl dX9_changeLength_72 (pc2 := 75) rfl ?_
        obtain ⟨r9, r9h, h⟩ := kw_bind_e h
        refine kg_callV (μ := μX9_changeLength) (d := (d + 4)) rfl mVX9_doChange [.int a1, .int (s8.1 1 2)] [] (gX9_doChange (E := E) (d := d) a1 (s8.1 1 2) s8 r9h) rfl lmRX9_192 (ci := 9) rfl tX_0 eX_0 rfl (Nat.le_of_ble_eq_true rfl) dX9_changeLength_75 rfl (st2 := [.int r9.1]) rfl (pc2 := 78) rfl ?_
        cases h
        exact kg_iret (ty := .int) dX9_changeLength_78 rfl rfl
      · replace h := (if_pos q6).symm.trans h
        refine kg_bipush dX9_changeLength_39 kb_m2 (pc2 := 41) rfl ?_
        cases h
        exact kg_iret (ty := .int) dX9_changeLength_41 rfl rfl
    · replace h := (if_pos q4).symm.trans h
      refine kg_iconst dX9_changeLength_21 ki_m1 (pc2 := 22) rfl ?_
      cases h
      exact kg_iret (ty := .int) dX9_changeLength_22 rfl rfl
def fX4_flip (a1 : Int32) (σ : kw_M) : Option (kw_M) :=
 kw_let (kw_sl σ 10 2 ((σ.2 10 2) ^^^ ((1 : Int64) <<< (a1.toInt64 &&& 63)))) fun s1 =>
 some s1
set_option maxHeartbeats 4000000 in
set_option maxRecDepth 100000 in
theorem gX4_flip {E : kw_E} {d : Nat} (a1 : Int32) (σ : kw_M) {r : kw_M} (h : fX4_flip a1 σ = some r) : kw_Met E kwTX 47 d μX4_flip [.ref 10, .int a1] σ none r := by
  refine kw_enter plRX4 (Nat.le_of_ble_eq_true rfl) ?_
  show kw_G E kwTX 47 d μX4_flip 0 [(0, .ref 10), (1, .int a1)] [] σ none r
  unfold fX4_flip at h
  refine kg_aload_n 0 dX4_flip_0 rfl (pc2 := 1) rfl ?_
  refine kg_dup dX4_flip_1 rfl (pc2 := 2) rfl ?_
  refine kg_getl clX4 rfl 2 (Nat.le_of_ble_eq_true rfl) lfRX4_28 tX_10 eX_10 rfl dX4_flip_2 (pc2 := 5) rfl ?_
  refine kg_lconst dX4_flip_5 kl_1 (pc2 := 6) rfl ?_
  refine kg_iload_n 1 dX4_flip_6 rfl (pc2 := 7) rfl ?_
  refine kg_lshl dX4_flip_7 (pc2 := 8) rfl ?_
  refine kg_lxor dX4_flip_8 (pc2 := 9) rfl ?_
  obtain ⟨s1, s1e, h⟩ := kw_let_e h
  refine kg_putl clX4 rfl 2 (Nat.le_of_ble_eq_true rfl) lfRX4_28 rfl tX_10 eX_10 rfl (ty := .long) (by decide +kernel) rfl rfl s1e dX4_flip_9 (pc2 := 12) rfl ?_
  cases h
  exact kg_vret dX4_flip_12 rfl
def fX9_turnRoad (a1 : Int32) (a2 : Int32) (σ : kw_M) : Option (Int32 × kw_M) :=
 (fX4_hasRoad a1 σ).bind fun r1 =>
 if r1 = (0 : Int32) then
 (some ((-1 : Int32), σ))
 else
 (fX4_isOpen 12 a1 σ).bind fun r3 =>
 if r3 = a2 then
 (some ((-2 : Int32), σ))
 else
 (fX4_copyFrom 10 12 σ).bind fun r5 =>
 (fX4_flip a1 r5).bind fun r6 =>
 (fX9_doChange a1 (r6.1 1 2) r6).bind fun r7 =>
 some (r7.1, r7.2)
set_option maxHeartbeats 4000000 in
set_option maxRecDepth 100000 in
theorem gX9_turnRoad {E : kw_E} {d : Nat} (a1 : Int32) (a2 : Int32) (σ : kw_M) {r : Int32 × kw_M} (h : fX9_turnRoad a1 a2 σ = some r) : kw_Met E kwTX 47 (d + 5) μX9_turnRoad [.ref 0, .int a1, .int a2] σ (some (Value.int r.1)) r.2 := by
  refine kw_enter plRX9 (Nat.le_of_ble_eq_true rfl) ?_
  show kw_G E kwTX 47 (d + 5) μX9_turnRoad 0 [(0, .ref 0), (1, .int a1), (2, .int a2)] [] σ (some (Value.int r.1)) r.2
  unfold fX9_turnRoad at h
  refine kg_aload_n 0 dX9_turnRoad_0 rfl (pc2 := 1) rfl ?_
  refine kg_getr clX9 rfl 0 (Nat.le_of_ble_eq_true rfl) lfRX9_10 tX_0 eX_0 rfl dX9_turnRoad_1 (pc2 := 4) rfl ?_
  refine kg_getr clX7 rfl 0 (Nat.le_of_ble_eq_true rfl) lfRX9_148 tX_1 eX_1 rfl dX9_turnRoad_4 (pc2 := 7) rfl ?_
  refine kg_iload_n 1 dX9_turnRoad_7 rfl (pc2 := 8) rfl ?_
  obtain ⟨r1, r1h, h⟩ := kw_bind_e h
  refine kg_callV (μ := μX9_turnRoad) (d := (d + 4)) rfl mVX4_hasRoad [.int a1] [] (gX4_hasRoad (E := E) (d := (d + 4)) a1 σ r1h) rfl lmRX9_195 (ci := 4) rfl tX_12 eX_12 rfl (Nat.le_of_ble_eq_true rfl) dX9_turnRoad_8 rfl (st2 := [.int r1]) rfl (pc2 := 11) rfl ?_
  refine kg_if_ne 16 dX9_turnRoad_11 rfl (pc2 := 14) rfl (fun q2 => ?_) (fun q2 => ?_)
  · replace h := (if_neg q2).symm.trans h
    refine kg_aload_n 0 dX9_turnRoad_16 rfl (pc2 := 17) rfl ?_
    refine kg_getr clX9 rfl 0 (Nat.le_of_ble_eq_true rfl) lfRX9_10 tX_0 eX_0 rfl dX9_turnRoad_17 (pc2 := 20) rfl ?_
    refine kg_getr clX7 rfl 0 (Nat.le_of_ble_eq_true rfl) lfRX9_148 tX_1 eX_1 rfl dX9_turnRoad_20 (pc2 := 23) rfl ?_
    refine kg_iload_n 1 dX9_turnRoad_23 rfl (pc2 := 24) rfl ?_
    obtain ⟨r3, r3h, h⟩ := kw_bind_e h
    refine kg_callV (μ := μX9_turnRoad) (d := (d + 4)) rfl mVX4_isOpen [.int a1] [] (gX4_isOpen (E := E) (d := (d + 4)) 12 kx_4_12 a1 σ r3h) rfl lmRX9_201 (ci := 4) rfl tX_12 eX_12 rfl (Nat.le_of_ble_eq_true rfl) dX9_turnRoad_24 rfl (st2 := [.int r3]) rfl (pc2 := 27) rfl ?_
    refine kg_iload_n 2 dX9_turnRoad_27 rfl (pc2 := 28) rfl ?_
    refine kg_icmp_ne 34 dX9_turnRoad_28 rfl (pc2 := 31) rfl (fun q4 => ?_) (fun q4 => ?_)
    · replace h := (if_neg q4).symm.trans h
      refine kg_aload_n 0 dX9_turnRoad_34 rfl (pc2 := 35) rfl ?_
      refine kg_getr clX9 rfl 10 (Nat.le_of_ble_eq_true rfl) lfRX9_72 tX_0 eX_0 rfl dX9_turnRoad_35 (pc2 := 38) rfl ?_
      refine kg_aload_n 0 dX9_turnRoad_38 rfl (pc2 := 39) rfl ?_
      refine kg_getr clX9 rfl 0 (Nat.le_of_ble_eq_true rfl) lfRX9_10 tX_0 eX_0 rfl dX9_turnRoad_39 (pc2 := 42) rfl ?_
      refine kg_getr clX7 rfl 0 (Nat.le_of_ble_eq_true rfl) lfRX9_148 tX_1 eX_1 rfl dX9_turnRoad_42 (pc2 := 45) rfl ?_
      obtain ⟨r5, r5h, h⟩ := kw_bind_e h
      refine kg_callV (μ := μX9_turnRoad) (d := (d + 4)) rfl mVX4_copyFrom [.ref 12] [] (gX4_copyFrom (E := E) (d := (d + 3)) 10 12 kx_4_10 kx_4_12 σ r5h) rfl lmRX9_185 (ci := 4) rfl tX_10 eX_10 rfl (Nat.le_of_ble_eq_true rfl) dX9_turnRoad_45 rfl (st2 := []) rfl (pc2 := 48) rfl ?_
      refine kg_aload_n 0 dX9_turnRoad_48 rfl (pc2 := 49) rfl ?_
      refine kg_getr clX9 rfl 10 (Nat.le_of_ble_eq_true rfl) lfRX9_72 tX_0 eX_0 rfl dX9_turnRoad_49 (pc2 := 52) rfl ?_
      refine kg_iload_n 1 dX9_turnRoad_52 rfl (pc2 := 53) rfl ?_
      obtain ⟨r6, r6h, h⟩ := kw_bind_e h
      refine kg_callV (μ := μX9_turnRoad) (d := (d + 4)) rfl mVX4_flip [.int a1] [] (gX4_flip (E := E) (d := (d + 4)) a1 r5 r6h) rfl lmRX9_204 (ci := 4) rfl tX_10 eX_10 rfl (Nat.le_of_ble_eq_true rfl) dX9_turnRoad_53 rfl (st2 := []) rfl (pc2 := 56) rfl ?_
      refine kg_aload_n 0 dX9_turnRoad_56 rfl (pc2 := 57) rfl ?_
      refine kg_iload_n 1 dX9_turnRoad_57 rfl (pc2 := 58) rfl ?_
      refine kg_aload_n 0 dX9_turnRoad_58 rfl (pc2 := 59) rfl ?_
      refine kg_getr clX9 rfl 0 (Nat.le_of_ble_eq_true rfl) lfRX9_10 tX_0 eX_0 rfl dX9_turnRoad_59 (pc2 := 62) rfl ?_
      refine kg_geti clX7 rfl 2 (Nat.le_of_ble_eq_true rfl) lfRX9_189 tX_1 eX_1 rfl dX9_turnRoad_62 (pc2 := 65) rfl ?_
      obtain ⟨r7, r7h, h⟩ := kw_bind_e h
      refine kg_callV (μ := μX9_turnRoad) (d := (d + 4)) rfl mVX9_doChange [.int a1, .int (r6.1 1 2)] [] (gX9_doChange (E := E) (d := d) a1 (r6.1 1 2) r6 r7h) rfl lmRX9_192 (ci := 9) rfl tX_0 eX_0 rfl (Nat.le_of_ble_eq_true rfl) dX9_turnRoad_65 rfl (st2 := [.int r7.1]) rfl (pc2 := 68) rfl ?_
      cases h
      exact kg_iret (ty := .int) dX9_turnRoad_68 rfl rfl
    · replace h := (if_pos q4).symm.trans h
      refine kg_bipush dX9_turnRoad_31 kb_m2 (pc2 := 33) rfl ?_
      cases h
      exact kg_iret (ty := .int) dX9_turnRoad_33 rfl rfl
  · replace h := (if_pos q2).symm.trans h
    refine kg_iconst dX9_turnRoad_14 ki_m1 (pc2 := 15) rfl ?_
    cases h
    exact kg_iret (ty := .int) dX9_turnRoad_15 rfl rfl
def fX9_moveOrigin (a1 : Int32) (σ : kw_M) : Option (Int32 × kw_M) :=
 (fX4_hasTown a1 σ).bind fun r1 =>
 if r1 = (0 : Int32) then
 (some ((-1 : Int32), σ))
 else
 if (σ.1 1 2) = a1 then
 (some ((-2 : Int32), σ))
 else
 (fX4_copyFrom 10 12 σ).bind fun r4 =>
 (fX9_doChange (-1 : Int32) a1 r4).bind fun r5 =>
 some (r5.1, r5.2)
set_option maxHeartbeats 4000000 in
set_option maxRecDepth 100000 in
theorem gX9_moveOrigin {E : kw_E} {d : Nat} (a1 : Int32) (σ : kw_M) {r : Int32 × kw_M} (h : fX9_moveOrigin a1 σ = some r) : kw_Met E kwTX 47 (d + 5) μX9_moveOrigin [.ref 0, .int a1] σ (some (Value.int r.1)) r.2 := by
  refine kw_enter plRX9 (Nat.le_of_ble_eq_true rfl) ?_
  show kw_G E kwTX 47 (d + 5) μX9_moveOrigin 0 [(0, .ref 0), (1, .int a1)] [] σ (some (Value.int r.1)) r.2
  unfold fX9_moveOrigin at h
  refine kg_aload_n 0 dX9_moveOrigin_0 rfl (pc2 := 1) rfl ?_
  refine kg_getr clX9 rfl 0 (Nat.le_of_ble_eq_true rfl) lfRX9_10 tX_0 eX_0 rfl dX9_moveOrigin_1 (pc2 := 4) rfl ?_
  refine kg_getr clX7 rfl 0 (Nat.le_of_ble_eq_true rfl) lfRX9_148 tX_1 eX_1 rfl dX9_moveOrigin_4 (pc2 := 7) rfl ?_
  refine kg_iload_n 1 dX9_moveOrigin_7 rfl (pc2 := 8) rfl ?_
  obtain ⟨r1, r1h, h⟩ := kw_bind_e h
  refine kg_callV (μ := μX9_moveOrigin) (d := (d + 4)) rfl mVX4_hasTown [.int a1] [] (gX4_hasTown (E := E) (d := (d + 4)) a1 σ r1h) rfl lmRX9_176 (ci := 4) rfl tX_12 eX_12 rfl (Nat.le_of_ble_eq_true rfl) dX9_moveOrigin_8 rfl (st2 := [.int r1]) rfl (pc2 := 11) rfl ?_
  refine kg_if_ne 16 dX9_moveOrigin_11 rfl (pc2 := 14) rfl (fun q2 => ?_) (fun q2 => ?_)
  · replace h := (if_neg q2).symm.trans h
    refine kg_aload_n 0 dX9_moveOrigin_16 rfl (pc2 := 17) rfl ?_
    refine kg_getr clX9 rfl 0 (Nat.le_of_ble_eq_true rfl) lfRX9_10 tX_0 eX_0 rfl dX9_moveOrigin_17 (pc2 := 20) rfl ?_
    refine kg_geti clX7 rfl 2 (Nat.le_of_ble_eq_true rfl) lfRX9_189 tX_1 eX_1 rfl dX9_moveOrigin_20 (pc2 := 23) rfl ?_
    refine kg_iload_n 1 dX9_moveOrigin_23 rfl (pc2 := 24) rfl ?_
    refine kg_icmp_ne 30 dX9_moveOrigin_24 rfl (pc2 := 27) rfl (fun q3 => ?_) (fun q3 => ?_)
    · replace h := (if_neg q3).symm.trans h
      refine kg_aload_n 0 dX9_moveOrigin_30 rfl (pc2 := 31) rfl ?_
      refine kg_getr clX9 rfl 10 (Nat.le_of_ble_eq_true rfl) lfRX9_72 tX_0 eX_0 rfl dX9_moveOrigin_31 (pc2 := 34) rfl ?_
      refine kg_aload_n 0 dX9_moveOrigin_34 rfl (pc2 := 35) rfl ?_
      refine kg_getr clX9 rfl 0 (Nat.le_of_ble_eq_true rfl) lfRX9_10 tX_0 eX_0 rfl dX9_moveOrigin_35 (pc2 := 38) rfl ?_
      refine kg_getr clX7 rfl 0 (Nat.le_of_ble_eq_true rfl) lfRX9_148 tX_1 eX_1 rfl dX9_moveOrigin_38 (pc2 := 41) rfl ?_
      obtain ⟨r4, r4h, h⟩ := kw_bind_e h
      refine kg_callV (μ := μX9_moveOrigin) (d := (d + 4)) rfl mVX4_copyFrom [.ref 12] [] (gX4_copyFrom (E := E) (d := (d + 3)) 10 12 kx_4_10 kx_4_12 σ r4h) rfl lmRX9_185 (ci := 4) rfl tX_10 eX_10 rfl (Nat.le_of_ble_eq_true rfl) dX9_moveOrigin_41 rfl (st2 := []) rfl (pc2 := 44) rfl ?_
      refine kg_aload_n 0 dX9_moveOrigin_44 rfl (pc2 := 45) rfl ?_
      refine kg_iconst dX9_moveOrigin_45 ki_m1 (pc2 := 46) rfl ?_
      refine kg_iload_n 1 dX9_moveOrigin_46 rfl (pc2 := 47) rfl ?_
      obtain ⟨r5, r5h, h⟩ := kw_bind_e h
      refine kg_callV (μ := μX9_moveOrigin) (d := (d + 4)) rfl mVX9_doChange [.int (-1 : Int32), .int a1] [] (gX9_doChange (E := E) (d := d) (-1 : Int32) a1 r4 r5h) rfl lmRX9_192 (ci := 9) rfl tX_0 eX_0 rfl (Nat.le_of_ble_eq_true rfl) dX9_moveOrigin_47 rfl (st2 := [.int r5.1]) rfl (pc2 := 50) rfl ?_
      cases h
      exact kg_iret (ty := .int) dX9_moveOrigin_50 rfl rfl
    · replace h := (if_pos q3).symm.trans h
      refine kg_bipush dX9_moveOrigin_27 kb_m2 (pc2 := 29) rfl ?_
      cases h
      exact kg_iret (ty := .int) dX9_moveOrigin_29 rfl rfl
  · replace h := (if_pos q2).symm.trans h
    refine kg_iconst dX9_moveOrigin_14 ki_m1 (pc2 := 15) rfl ?_
    cases h
    exact kg_iret (ty := .int) dX9_moveOrigin_15 rfl rfl
def fX9_watchTown (a1 : Int32) (a2 : Int32) (σ : kw_M) : Option (Int32 × kw_M) :=
 (fX4_hasTown a1 σ).bind fun r1 =>
 if r1 = (0 : Int32) then
 (some ((-1 : Int32), σ))
 else
 (fX9_isLength a2 σ).bind fun r3 =>
 if r3 = (0 : Int32) then
 (some ((-1 : Int32), σ))
 else
 kw_let (kw_si σ 1 5 ((σ.1 1 5) ||| ((1 : Int32) <<< (a1 &&& 31)))) fun s5 =>
 kw_chk (kw_in a1 12) <|
 kw_let (kw_si s5 14 a1.toNatClampNeg a2) fun s7 =>
 (fX7_isBeyond a1 s7).bind fun r8 =>
 if r8 = (0 : Int32) then
 (some ((0 : Int32), s7))
 else
 some ((1 : Int32), s7)
set_option maxHeartbeats 4000000 in
set_option maxRecDepth 100000 in
theorem gX9_watchTown {E : kw_E} {d : Nat} (a1 : Int32) (a2 : Int32) (σ : kw_M) {r : Int32 × kw_M} (h : fX9_watchTown a1 a2 σ = some r) : kw_Met E kwTX 47 (d + 1) μX9_watchTown [.ref 0, .int a1, .int a2] σ (some (Value.int r.1)) r.2 := by
  refine kw_enter plRX9 (Nat.le_of_ble_eq_true rfl) ?_
  show kw_G E kwTX 47 (d + 1) μX9_watchTown 0 [(0, .ref 0), (1, .int a1), (2, .int a2)] [] σ (some (Value.int r.1)) r.2
  unfold fX9_watchTown at h
  refine kg_aload_n 0 dX9_watchTown_0 rfl (pc2 := 1) rfl ?_
  refine kg_getr clX9 rfl 0 (Nat.le_of_ble_eq_true rfl) lfRX9_10 tX_0 eX_0 rfl dX9_watchTown_1 (pc2 := 4) rfl ?_
  refine kg_getr clX7 rfl 0 (Nat.le_of_ble_eq_true rfl) lfRX9_148 tX_1 eX_1 rfl dX9_watchTown_4 (pc2 := 7) rfl ?_
  refine kg_iload_n 1 dX9_watchTown_7 rfl (pc2 := 8) rfl ?_
  obtain ⟨r1, r1h, h⟩ := kw_bind_e h
  refine kg_callV (μ := μX9_watchTown) (d := d) rfl mVX4_hasTown [.int a1] [] (gX4_hasTown (E := E) (d := d) a1 σ r1h) rfl lmRX9_176 (ci := 4) rfl tX_12 eX_12 rfl (Nat.le_of_ble_eq_true rfl) dX9_watchTown_8 rfl (st2 := [.int r1]) rfl (pc2 := 11) rfl ?_
  refine kg_if_eq 21 dX9_watchTown_11 rfl (pc2 := 14) rfl (fun q2 => ?_) (fun q2 => ?_)
  · replace h := (if_pos q2).symm.trans h
    refine kg_iconst dX9_watchTown_21 ki_m1 (pc2 := 22) rfl ?_
    cases h
    exact kg_iret (ty := .int) dX9_watchTown_22 rfl rfl
  · replace h := (if_neg q2).symm.trans h
    refine kg_iload_n 2 dX9_watchTown_14 rfl (pc2 := 15) rfl ?_
    obtain ⟨r3, r3h, h⟩ := kw_bind_e h
    refine kg_callS (μ := μX9_watchTown) (d := d) rfl mSX9_isLength [.int a2] [] (gX9_isLength (E := E) (d := d) a2 σ r3h) rfl lmRX9_179 rfl (Nat.le_of_ble_eq_true rfl) dX9_watchTown_15 rfl (st2 := [.int r3]) rfl (pc2 := 18) rfl ?_
    refine kg_if_ne 23 dX9_watchTown_18 rfl (pc2 := 21) rfl (fun q4 => ?_) (fun q4 => ?_)
    · replace h := (if_neg q4).symm.trans h
      refine kg_aload_n 0 dX9_watchTown_23 rfl (pc2 := 24) rfl ?_
      refine kg_getr clX9 rfl 0 (Nat.le_of_ble_eq_true rfl) lfRX9_10 tX_0 eX_0 rfl dX9_watchTown_24 (pc2 := 27) rfl ?_
      refine kg_dup dX9_watchTown_27 rfl (pc2 := 28) rfl ?_
      refine kg_geti clX7 rfl 5 (Nat.le_of_ble_eq_true rfl) lfRX9_245 tX_1 eX_1 rfl dX9_watchTown_28 (pc2 := 31) rfl ?_
      refine kg_iconst dX9_watchTown_31 ki_1 (pc2 := 32) rfl ?_
      refine kg_iload_n 1 dX9_watchTown_32 rfl (pc2 := 33) rfl ?_
      refine kg_ishl dX9_watchTown_33 (pc2 := 34) rfl ?_
      refine kg_ior dX9_watchTown_34 (pc2 := 35) rfl ?_
      obtain ⟨s5, s5e, h⟩ := kw_let_e h
      refine kg_puti clX7 rfl 5 (Nat.le_of_ble_eq_true rfl) lfRX9_245 rfl tX_1 eX_1 rfl (ty := .int) (by decide +kernel) rfl rfl s5e dX9_watchTown_35 (pc2 := 38) rfl ?_
      refine kg_aload_n 0 dX9_watchTown_38 rfl (pc2 := 39) rfl ?_
      refine kg_getr clX9 rfl 0 (Nat.le_of_ble_eq_true rfl) lfRX9_10 tX_0 eX_0 rfl dX9_watchTown_39 (pc2 := 42) rfl ?_
      refine kg_getr clX7 rfl 6 (Nat.le_of_ble_eq_true rfl) lfRX9_318 tX_1 eX_1 rfl dX9_watchTown_42 (pc2 := 45) rfl ?_
      refine kg_iload_n 1 dX9_watchTown_45 rfl (pc2 := 46) rfl ?_
      refine kg_iload_n 2 dX9_watchTown_46 rfl (pc2 := 47) rfl ?_
      obtain ⟨q6, h⟩ := kw_chk_e h
      obtain ⟨s7, s7e, h⟩ := kw_let_e h
      refine kg_iast tX_14 eX_14 q6 (j := a1.toNatClampNeg) rfl s7e dX9_watchTown_47 (pc2 := 48) rfl ?_
      refine kg_aload_n 0 dX9_watchTown_48 rfl (pc2 := 49) rfl ?_
      refine kg_getr clX9 rfl 0 (Nat.le_of_ble_eq_true rfl) lfRX9_10 tX_0 eX_0 rfl dX9_watchTown_49 (pc2 := 52) rfl ?_
      refine kg_iload_n 1 dX9_watchTown_52 rfl (pc2 := 53) rfl ?_
      obtain ⟨r8, r8h, h⟩ := kw_bind_e h
      refine kg_callV (μ := μX9_watchTown) (d := d) rfl mVX7_isBeyond [.int a1] [] (gX7_isBeyond (E := E) (d := d) a1 s7 r8h) rfl lmRX9_428 (ci := 7) rfl tX_1 eX_1 rfl (Nat.le_of_ble_eq_true rfl) dX9_watchTown_53 rfl (st2 := [.int r8]) rfl (pc2 := 56) rfl ?_
      refine kg_if_eq 63 dX9_watchTown_56 rfl (pc2 := 59) rfl (fun q9 => ?_) (fun q9 => ?_)
      · replace h := (if_pos q9).symm.trans h
        refine kg_iconst dX9_watchTown_63 ki_0 (pc2 := 64) rfl ?_
        cases h
        exact kg_iret (ty := .int) dX9_watchTown_64 rfl rfl
      · replace h := (if_neg q9).symm.trans h
        refine kg_iconst dX9_watchTown_59 ki_1 (pc2 := 60) rfl ?_
        refine kg_goto 64 dX9_watchTown_60 rfl ?_
        cases h
        exact kg_iret (ty := .int) dX9_watchTown_64 rfl rfl
    · replace h := (if_pos q4).symm.trans h
      refine kg_iconst dX9_watchTown_21 ki_m1 (pc2 := 22) rfl ?_
      cases h
      exact kg_iret (ty := .int) dX9_watchTown_22 rfl rfl
def fX9_forgetTown (a1 : Int32) (σ : kw_M) : Option (Int32 × kw_M) :=
 (fX4_hasTown a1 σ).bind fun r1 =>
 if r1 = (0 : Int32) then
 (some ((0 : Int32), σ))
 else
 (fX7_isWatched a1 σ).bind fun r3 =>
 if r3 = (0 : Int32) then
 (some ((0 : Int32), σ))
 else
 kw_let (kw_si σ 1 5 ((σ.1 1 5) &&& (((1 : Int32) <<< (a1 &&& 31)) ^^^ (-1 : Int32)))) fun s5 =>
 some ((1 : Int32), s5)
set_option maxHeartbeats 4000000 in
set_option maxRecDepth 100000 in
theorem gX9_forgetTown {E : kw_E} {d : Nat} (a1 : Int32) (σ : kw_M) {r : Int32 × kw_M} (h : fX9_forgetTown a1 σ = some r) : kw_Met E kwTX 47 (d + 1) μX9_forgetTown [.ref 0, .int a1] σ (some (Value.int r.1)) r.2 := by
  refine kw_enter plRX9 (Nat.le_of_ble_eq_true rfl) ?_
  show kw_G E kwTX 47 (d + 1) μX9_forgetTown 0 [(0, .ref 0), (1, .int a1)] [] σ (some (Value.int r.1)) r.2
  unfold fX9_forgetTown at h
  refine kg_aload_n 0 dX9_forgetTown_0 rfl (pc2 := 1) rfl ?_
  refine kg_getr clX9 rfl 0 (Nat.le_of_ble_eq_true rfl) lfRX9_10 tX_0 eX_0 rfl dX9_forgetTown_1 (pc2 := 4) rfl ?_
  refine kg_getr clX7 rfl 0 (Nat.le_of_ble_eq_true rfl) lfRX9_148 tX_1 eX_1 rfl dX9_forgetTown_4 (pc2 := 7) rfl ?_
  refine kg_iload_n 1 dX9_forgetTown_7 rfl (pc2 := 8) rfl ?_
  obtain ⟨r1, r1h, h⟩ := kw_bind_e h
  refine kg_callV (μ := μX9_forgetTown) (d := d) rfl mVX4_hasTown [.int a1] [] (gX4_hasTown (E := E) (d := d) a1 σ r1h) rfl lmRX9_176 (ci := 4) rfl tX_12 eX_12 rfl (Nat.le_of_ble_eq_true rfl) dX9_forgetTown_8 rfl (st2 := [.int r1]) rfl (pc2 := 11) rfl ?_
  refine kg_if_eq 25 dX9_forgetTown_11 rfl (pc2 := 14) rfl (fun q2 => ?_) (fun q2 => ?_)
  · replace h := (if_pos q2).symm.trans h
    refine kg_iconst dX9_forgetTown_25 ki_0 (pc2 := 26) rfl ?_
    cases h
    exact kg_iret (ty := .boolean) dX9_forgetTown_26 rfl rfl
  · replace h := (if_neg q2).symm.trans h
    refine kg_aload_n 0 dX9_forgetTown_14 rfl (pc2 := 15) rfl ?_
    refine kg_getr clX9 rfl 0 (Nat.le_of_ble_eq_true rfl) lfRX9_10 tX_0 eX_0 rfl dX9_forgetTown_15 (pc2 := 18) rfl ?_
    refine kg_iload_n 1 dX9_forgetTown_18 rfl (pc2 := 19) rfl ?_
    obtain ⟨r3, r3h, h⟩ := kw_bind_e h
    refine kg_callV (μ := μX9_forgetTown) (d := d) rfl mVX7_isWatched [.int a1] [] (gX7_isWatched (E := E) (d := d) a1 σ r3h) rfl lmRX9_315 (ci := 7) rfl tX_1 eX_1 rfl (Nat.le_of_ble_eq_true rfl) dX9_forgetTown_19 rfl (st2 := [.int r3]) rfl (pc2 := 22) rfl ?_
    refine kg_if_ne 27 dX9_forgetTown_22 rfl (pc2 := 25) rfl (fun q4 => ?_) (fun q4 => ?_)
    · replace h := (if_neg q4).symm.trans h
      refine kg_aload_n 0 dX9_forgetTown_27 rfl (pc2 := 28) rfl ?_
      refine kg_getr clX9 rfl 0 (Nat.le_of_ble_eq_true rfl) lfRX9_10 tX_0 eX_0 rfl dX9_forgetTown_28 (pc2 := 31) rfl ?_
      refine kg_dup dX9_forgetTown_31 rfl (pc2 := 32) rfl ?_
      refine kg_geti clX7 rfl 5 (Nat.le_of_ble_eq_true rfl) lfRX9_245 tX_1 eX_1 rfl dX9_forgetTown_32 (pc2 := 35) rfl ?_
      refine kg_iconst dX9_forgetTown_35 ki_1 (pc2 := 36) rfl ?_
      refine kg_iload_n 1 dX9_forgetTown_36 rfl (pc2 := 37) rfl ?_
      refine kg_ishl dX9_forgetTown_37 (pc2 := 38) rfl ?_
      refine kg_iconst dX9_forgetTown_38 ki_m1 (pc2 := 39) rfl ?_
      refine kg_ixor dX9_forgetTown_39 (pc2 := 40) rfl ?_
      refine kg_iand dX9_forgetTown_40 (pc2 := 41) rfl ?_
      obtain ⟨s5, s5e, h⟩ := kw_let_e h
      refine kg_puti clX7 rfl 5 (Nat.le_of_ble_eq_true rfl) lfRX9_245 rfl tX_1 eX_1 rfl (ty := .int) (by decide +kernel) rfl rfl s5e dX9_forgetTown_41 (pc2 := 44) rfl ?_
      refine kg_iconst dX9_forgetTown_44 ki_1 (pc2 := 45) rfl ?_
      cases h
      exact kg_iret (ty := .boolean) dX9_forgetTown_45 rfl rfl
    · replace h := (if_pos q4).symm.trans h
      refine kg_iconst dX9_forgetTown_25 ki_0 (pc2 := 26) rfl ?_
      cases h
      exact kg_iret (ty := .boolean) dX9_forgetTown_26 rfl rfl
def fX9_doOrder (a1 : Int32) (σ : kw_M) : Option (Int32 × kw_M) :=
 (fX3_number a1 (0 : Int32) σ).bind fun r1 =>
 (fX3_number a1 (1 : Int32) σ).bind fun r2 =>
 kw_chk (kw_in a1 24) <|
 if (σ.1 36 a1.toNatClampNeg) = (2 : Int32) then
 ((fX3_number a1 (2 : Int32) σ).bind fun r5 =>
 (fX9_layRoad r1 r2 r5 σ).bind fun r6 =>
 if r6.1 < (0 : Int32) then
 (some ((0 : Int32), r6.2))
 else
 some ((1 : Int32), r6.2))
 else
 if (σ.1 36 a1.toNatClampNeg) = (3 : Int32) then
 ((fX9_changeLength r1 r2 σ).bind fun r9 =>
 if r9.1 < (0 : Int32) then
 (some ((0 : Int32), r9.2))
 else
 some ((1 : Int32), r9.2))
 else
 if (σ.1 36 a1.toNatClampNeg) = (4 : Int32) then
 ((fX9_turnRoad r1 (0 : Int32) σ).bind fun r12 =>
 if r12.1 < (0 : Int32) then
 (some ((0 : Int32), r12.2))
 else
 some ((1 : Int32), r12.2))
 else
 if (σ.1 36 a1.toNatClampNeg) = (5 : Int32) then
 ((fX9_turnRoad r1 (1 : Int32) σ).bind fun r15 =>
 if r15.1 < (0 : Int32) then
 (some ((0 : Int32), r15.2))
 else
 some ((1 : Int32), r15.2))
 else
 if (σ.1 36 a1.toNatClampNeg) = (6 : Int32) then
 ((fX9_moveOrigin r1 σ).bind fun r18 =>
 if r18.1 < (0 : Int32) then
 (some ((0 : Int32), r18.2))
 else
 some ((1 : Int32), r18.2))
 else
 if (σ.1 36 a1.toNatClampNeg) = (7 : Int32) then
 ((fX9_watchTown r1 r2 σ).bind fun r21 =>
 if r21.1 < (0 : Int32) then
 (some ((0 : Int32), r21.2))
 else
 some ((1 : Int32), r21.2))
 else
 if (σ.1 36 a1.toNatClampNeg) = (8 : Int32) then
 ((fX9_forgetTown r1 σ).bind fun r24 =>
 kw_chk (kw_isB r24.1) <| some (r24.1, r24.2))
 else
 some ((0 : Int32), σ)
set_option maxHeartbeats 4000000 in
set_option maxRecDepth 100000 in
theorem gX9_doOrder {E : kw_E} {d : Nat} (a1 : Int32) (σ : kw_M) {r : Int32 × kw_M} (h : fX9_doOrder a1 σ = some r) : kw_Met E kwTX 47 (d + 6) μX9_doOrder [.ref 0, .int a1] σ (some (Value.int r.1)) r.2 := by
  refine kw_enter plRX9 (Nat.le_of_ble_eq_true rfl) ?_
  show kw_G E kwTX 47 (d + 6) μX9_doOrder 0 [(0, .ref 0), (1, .int a1)] [] σ (some (Value.int r.1)) r.2
  unfold fX9_doOrder at h
  refine kg_aload_n 0 dX9_doOrder_0 rfl (pc2 := 1) rfl ?_
  refine kg_getr clX9 rfl 4 (Nat.le_of_ble_eq_true rfl) lfRX9_29 tX_0 eX_0 rfl dX9_doOrder_1 (pc2 := 4) rfl ?_
  refine kg_iload_n 1 dX9_doOrder_4 rfl (pc2 := 5) rfl ?_
  refine kg_iconst dX9_doOrder_5 ki_0 (pc2 := 6) rfl ?_
  obtain ⟨r1, r1h, h⟩ := kw_bind_e h
  refine kg_callV (μ := μX9_doOrder) (d := (d + 5)) rfl mVX3_number [.int a1, .int (0 : Int32)] [] (gX3_number (E := E) (d := (d + 5)) a1 (0 : Int32) σ r1h) rfl lmRX9_115 (ci := 3) rfl tX_4 eX_4 rfl (Nat.le_of_ble_eq_true rfl) dX9_doOrder_6 rfl (st2 := [.int r1]) rfl (pc2 := 9) rfl ?_
  refine kg_istore_n dX9_doOrder_9 rfl (Nat.le_of_ble_eq_true rfl) rfl (lv2 := [(2, .int r1), (0, .ref 0), (1, .int a1)]) rfl (pc2 := 10) rfl ?_
  refine kg_aload_n 1 dX9_doOrder_10 rfl (pc2 := 11) rfl ?_
  refine kg_getr clX9 rfl 4 (Nat.le_of_ble_eq_true rfl) lfRX9_29 tX_0 eX_0 rfl dX9_doOrder_11 (pc2 := 14) rfl ?_
  refine kg_iload_n 2 dX9_doOrder_14 rfl (pc2 := 15) rfl ?_
  refine kg_iconst dX9_doOrder_15 ki_1 (pc2 := 16) rfl ?_
  obtain ⟨r2, r2h, h⟩ := kw_bind_e h
  refine kg_callV (μ := μX9_doOrder) (d := (d + 5)) rfl mVX3_number [.int a1, .int (1 : Int32)] [] (gX3_number (E := E) (d := (d + 5)) a1 (1 : Int32) σ r2h) rfl lmRX9_115 (ci := 3) rfl tX_4 eX_4 rfl (Nat.le_of_ble_eq_true rfl) dX9_doOrder_16 rfl (st2 := [.int r2]) rfl (pc2 := 19) rfl ?_
  refine kg_istore_n dX9_doOrder_19 rfl (Nat.le_of_ble_eq_true rfl) rfl (lv2 := [(3, .int r2), (2, .int r1), (0, .ref 0), (1, .int a1)]) rfl (pc2 := 20) rfl ?_
  refine kg_aload_n 2 dX9_doOrder_20 rfl (pc2 := 21) rfl ?_
  refine kg_getr clX9 rfl 4 (Nat.le_of_ble_eq_true rfl) lfRX9_29 tX_0 eX_0 rfl dX9_doOrder_21 (pc2 := 24) rfl ?_
  refine kg_getr clX3 rfl 2 (Nat.le_of_ble_eq_true rfl) lfRX9_112 tX_4 eX_4 rfl dX9_doOrder_24 (pc2 := 27) rfl ?_
  refine kg_iload_n 3 dX9_doOrder_27 rfl (pc2 := 28) rfl ?_
  obtain ⟨q3, h⟩ := kw_chk_e h
  refine kg_iald tX_36 eX_36 q3 (j := a1.toNatClampNeg) rfl dX9_doOrder_28 (pc2 := 29) rfl ?_
  by_cases q4 : (σ.1 36 a1.toNatClampNeg) = (2 : Int32)
  · replace h := (if_pos q4).symm.trans h
    refine kg_tsIn (off := 43) 72 dX9_doOrder_29 (by rw [q4]; decide) (by rw [q4]; decide) (by rw [q4]; decide) rfl ?_
    refine kg_aload_n 2 dX9_doOrder_72 rfl (pc2 := 73) rfl ?_
    refine kg_iload_n 1 dX9_doOrder_73 rfl (pc2 := 74) rfl ?_
    refine kg_iload_n 0 dX9_doOrder_74 rfl (pc2 := 75) rfl ?_
    refine kg_aload_n 2 dX9_doOrder_75 rfl (pc2 := 76) rfl ?_
    refine kg_getr clX9 rfl 4 (Nat.le_of_ble_eq_true rfl) lfRX9_29 tX_0 eX_0 rfl dX9_doOrder_76 (pc2 := 79) rfl ?_
    refine kg_iload_n 3 dX9_doOrder_79 rfl (pc2 := 80) rfl ?_
    refine kg_iconst dX9_doOrder_80 ki_2 (pc2 := 81) rfl ?_
    obtain ⟨r5, r5h, h⟩ := kw_bind_e h
    refine kg_callV (μ := μX9_doOrder) (d := (d + 5)) rfl mVX3_number [.int a1, .int (2 : Int32)] [.int r2, .int r1, .ref 0] (gX3_number (E := E) (d := (d + 5)) a1 (2 : Int32) σ r5h) rfl lmRX9_115 (ci := 3) rfl tX_4 eX_4 rfl (Nat.le_of_ble_eq_true rfl) dX9_doOrder_81 rfl (st2 := [.int r5, .int r2, .int r1, .ref 0]) rfl (pc2 := 84) rfl ?_
    obtain ⟨r6, r6h, h⟩ := kw_bind_e h
    refine kg_callV (μ := μX9_doOrder) (d := (d + 5)) rfl mVX9_layRoad [.int r1, .int r2, .int r5] [] (gX9_layRoad (E := E) (d := d) r1 r2 r5 σ r6h) rfl lmRX9_156 (ci := 9) rfl tX_0 eX_0 rfl (Nat.le_of_ble_eq_true rfl) dX9_doOrder_84 rfl (st2 := [.int r6.1]) rfl (pc2 := 87) rfl ?_
    refine kg_if_lt 94 dX9_doOrder_87 rfl (pc2 := 90) rfl (fun q7 => ?_) (fun q7 => ?_)
    · replace h := (if_pos q7).symm.trans h
      refine kg_iconst dX9_doOrder_94 ki_0 (pc2 := 95) rfl ?_
      cases h
      exact kg_iret (ty := .boolean) dX9_doOrder_95 rfl rfl
    · replace h := (if_neg q7).symm.trans h
      refine kg_iconst dX9_doOrder_90 ki_1 (pc2 := 91) rfl ?_
      refine kg_goto 95 dX9_doOrder_91 rfl ?_
      cases h
      exact kg_iret (ty := .boolean) dX9_doOrder_95 rfl rfl
  · replace h := (if_neg q4).symm.trans h
    by_cases q8 : (σ.1 36 a1.toNatClampNeg) = (3 : Int32)
    · replace h := (if_pos q8).symm.trans h
      refine kg_tsIn (off := 67) 96 dX9_doOrder_29 (by rw [q8]; decide) (by rw [q8]; decide) (by rw [q8]; decide) rfl ?_
      refine kg_aload_n 2 dX9_doOrder_96 rfl (pc2 := 97) rfl ?_
      refine kg_iload_n 1 dX9_doOrder_97 rfl (pc2 := 98) rfl ?_
      refine kg_iload_n 0 dX9_doOrder_98 rfl (pc2 := 99) rfl ?_
      obtain ⟨r9, r9h, h⟩ := kw_bind_e h
      refine kg_callV (μ := μX9_doOrder) (d := (d + 5)) rfl mVX9_changeLength [.int r1, .int r2] [] (gX9_changeLength (E := E) (d := d) r1 r2 σ r9h) rfl lmRX9_159 (ci := 9) rfl tX_0 eX_0 rfl (Nat.le_of_ble_eq_true rfl) dX9_doOrder_99 rfl (st2 := [.int r9.1]) rfl (pc2 := 102) rfl ?_
      refine kg_if_lt 109 dX9_doOrder_102 rfl (pc2 := 105) rfl (fun q10 => ?_) (fun q10 => ?_)
      · replace h := (if_pos q10).symm.trans h
        refine kg_iconst dX9_doOrder_109 ki_0 (pc2 := 110) rfl ?_
        cases h
        exact kg_iret (ty := .boolean) dX9_doOrder_110 rfl rfl
      · replace h := (if_neg q10).symm.trans h
        refine kg_iconst dX9_doOrder_105 ki_1 (pc2 := 106) rfl ?_
        refine kg_goto 110 dX9_doOrder_106 rfl ?_
        cases h
        exact kg_iret (ty := .boolean) dX9_doOrder_110 rfl rfl
    · replace h := (if_neg q8).symm.trans h
      by_cases q11 : (σ.1 36 a1.toNatClampNeg) = (4 : Int32)
      · replace h := (if_pos q11).symm.trans h
        refine kg_tsIn (off := 82) 111 dX9_doOrder_29 (by rw [q11]; decide) (by rw [q11]; decide) (by rw [q11]; decide) rfl ?_
        refine kg_aload_n 2 dX9_doOrder_111 rfl (pc2 := 112) rfl ?_
        refine kg_iload_n 1 dX9_doOrder_112 rfl (pc2 := 113) rfl ?_
        refine kg_iconst dX9_doOrder_113 ki_0 (pc2 := 114) rfl ?_
        obtain ⟨r12, r12h, h⟩ := kw_bind_e h
        refine kg_callV (μ := μX9_doOrder) (d := (d + 5)) rfl mVX9_turnRoad [.int r1, .int (0 : Int32)] [] (gX9_turnRoad (E := E) (d := d) r1 (0 : Int32) σ r12h) rfl lmRX9_162 (ci := 9) rfl tX_0 eX_0 rfl (Nat.le_of_ble_eq_true rfl) dX9_doOrder_114 rfl (st2 := [.int r12.1]) rfl (pc2 := 117) rfl ?_
        refine kg_if_lt 124 dX9_doOrder_117 rfl (pc2 := 120) rfl (fun q13 => ?_) (fun q13 => ?_)
        · replace h := (if_pos q13).symm.trans h
          refine kg_iconst dX9_doOrder_124 ki_0 (pc2 := 125) rfl ?_
          cases h
          exact kg_iret (ty := .boolean) dX9_doOrder_125 rfl rfl
        · replace h := (if_neg q13).symm.trans h
          refine kg_iconst dX9_doOrder_120 ki_1 (pc2 := 121) rfl ?_
          refine kg_goto 125 dX9_doOrder_121 rfl ?_
          cases h
          exact kg_iret (ty := .boolean) dX9_doOrder_125 rfl rfl
      · replace h := (if_neg q11).symm.trans h
        by_cases q14 : (σ.1 36 a1.toNatClampNeg) = (5 : Int32)
        · replace h := (if_pos q14).symm.trans h
          refine kg_tsIn (off := 97) 126 dX9_doOrder_29 (by rw [q14]; decide) (by rw [q14]; decide) (by rw [q14]; decide) rfl ?_
          refine kg_aload_n 2 dX9_doOrder_126 rfl (pc2 := 127) rfl ?_
          refine kg_iload_n 1 dX9_doOrder_127 rfl (pc2 := 128) rfl ?_
          refine kg_iconst dX9_doOrder_128 ki_1 (pc2 := 129) rfl ?_
          obtain ⟨r15, r15h, h⟩ := kw_bind_e h
          refine kg_callV (μ := μX9_doOrder) (d := (d + 5)) rfl mVX9_turnRoad [.int r1, .int (1 : Int32)] [] (gX9_turnRoad (E := E) (d := d) r1 (1 : Int32) σ r15h) rfl lmRX9_162 (ci := 9) rfl tX_0 eX_0 rfl (Nat.le_of_ble_eq_true rfl) dX9_doOrder_129 rfl (st2 := [.int r15.1]) rfl (pc2 := 132) rfl ?_
          refine kg_if_lt 139 dX9_doOrder_132 rfl (pc2 := 135) rfl (fun q16 => ?_) (fun q16 => ?_)
          · replace h := (if_pos q16).symm.trans h
            refine kg_iconst dX9_doOrder_139 ki_0 (pc2 := 140) rfl ?_
            cases h
            exact kg_iret (ty := .boolean) dX9_doOrder_140 rfl rfl
          · replace h := (if_neg q16).symm.trans h
            refine kg_iconst dX9_doOrder_135 ki_1 (pc2 := 136) rfl ?_
            refine kg_goto 140 dX9_doOrder_136 rfl ?_
            cases h
            exact kg_iret (ty := .boolean) dX9_doOrder_140 rfl rfl
        · replace h := (if_neg q14).symm.trans h
          by_cases q17 : (σ.1 36 a1.toNatClampNeg) = (6 : Int32)
          · replace h := (if_pos q17).symm.trans h
            refine kg_tsIn (off := 112) 141 dX9_doOrder_29 (by rw [q17]; decide) (by rw [q17]; decide) (by rw [q17]; decide) rfl ?_
            refine kg_aload_n 2 dX9_doOrder_141 rfl (pc2 := 142) rfl ?_
            refine kg_iload_n 1 dX9_doOrder_142 rfl (pc2 := 143) rfl ?_
            obtain ⟨r18, r18h, h⟩ := kw_bind_e h
            refine kg_callV (μ := μX9_doOrder) (d := (d + 5)) rfl mVX9_moveOrigin [.int r1] [] (gX9_moveOrigin (E := E) (d := d) r1 σ r18h) rfl lmRX9_166 (ci := 9) rfl tX_0 eX_0 rfl (Nat.le_of_ble_eq_true rfl) dX9_doOrder_143 rfl (st2 := [.int r18.1]) rfl (pc2 := 146) rfl ?_
            refine kg_if_lt 153 dX9_doOrder_146 rfl (pc2 := 149) rfl (fun q19 => ?_) (fun q19 => ?_)
            · replace h := (if_pos q19).symm.trans h
              refine kg_iconst dX9_doOrder_153 ki_0 (pc2 := 154) rfl ?_
              cases h
              exact kg_iret (ty := .boolean) dX9_doOrder_154 rfl rfl
            · replace h := (if_neg q19).symm.trans h
              refine kg_iconst dX9_doOrder_149 ki_1 (pc2 := 150) rfl ?_
              refine kg_goto 154 dX9_doOrder_150 rfl ?_
              cases h
              exact kg_iret (ty := .boolean) dX9_doOrder_154 rfl rfl
          · replace h := (if_neg q17).symm.trans h
            by_cases q20 : (σ.1 36 a1.toNatClampNeg) = (7 : Int32)
            · replace h := (if_pos q20).symm.trans h
              refine kg_tsIn (off := 126) 155 dX9_doOrder_29 (by rw [q20]; decide) (by rw [q20]; decide) (by rw [q20]; decide) rfl ?_
              refine kg_aload_n 2 dX9_doOrder_155 rfl (pc2 := 156) rfl ?_
              refine kg_iload_n 1 dX9_doOrder_156 rfl (pc2 := 157) rfl ?_
              refine kg_iload_n 0 dX9_doOrder_157 rfl (pc2 := 158) rfl ?_
              obtain ⟨r21, r21h, h⟩ := kw_bind_e h
              refine kg_callV (μ := μX9_doOrder) (d := (d + 5)) rfl mVX9_watchTown [.int r1, .int r2] [] (gX9_watchTown (E := E) (d := (d + 4)) r1 r2 σ r21h) rfl lmRX9_170 (ci := 9) rfl tX_0 eX_0 rfl (Nat.le_of_ble_eq_true rfl) dX9_doOrder_158 rfl (st2 := [.int r21.1]) rfl (pc2 := 161) rfl ?_
              refine kg_if_lt 168 dX9_doOrder_161 rfl (pc2 := 164) rfl (fun q22 => ?_) (fun q22 => ?_)
              · replace h := (if_pos q22).symm.trans h
                refine kg_iconst dX9_doOrder_168 ki_0 (pc2 := 169) rfl ?_
                cases h
                exact kg_iret (ty := .boolean) dX9_doOrder_169 rfl rfl
              · replace h := (if_neg q22).symm.trans h
                refine kg_iconst dX9_doOrder_164 ki_1 (pc2 := 165) rfl ?_
                refine kg_goto 169 dX9_doOrder_165 rfl ?_
                cases h
                exact kg_iret (ty := .boolean) dX9_doOrder_169 rfl rfl
            · replace h := (if_neg q20).symm.trans h
              by_cases q23 : (σ.1 36 a1.toNatClampNeg) = (8 : Int32)
              · replace h := (if_pos q23).symm.trans h
                refine kg_tsIn (off := 141) 170 dX9_doOrder_29 (by rw [q23]; decide) (by rw [q23]; decide) (by rw [q23]; decide) rfl ?_
                refine kg_aload_n 2 dX9_doOrder_170 rfl (pc2 := 171) rfl ?_
                refine kg_iload_n 1 dX9_doOrder_171 rfl (pc2 := 172) rfl ?_
                obtain ⟨r24, r24h, h⟩ := kw_bind_e h
                refine kg_callV (μ := μX9_doOrder) (d := (d + 5)) rfl mVX9_forgetTown [.int r1] [] (gX9_forgetTown (E := E) (d := (d + 4)) r1 σ r24h) rfl lmRX9_173 (ci := 9) rfl tX_0 eX_0 rfl (Nat.le_of_ble_eq_true rfl) dX9_doOrder_172 rfl (st2 := [.int r24.1]) rfl (pc2 := 175) rfl ?_
                obtain ⟨q25, h⟩ := kw_chk_e h
                cases h
                exact kg_iret (ty := .boolean) dX9_doOrder_175 rfl (kw_isB_n q25)
              · replace h := (if_neg q23).symm.trans h
                refine kg_tsOut 176 dX9_doOrder_29 (by have a0 := kw_neI (n := 2) (by decide) q4; have a1 := kw_neI (n := 3) (by decide) q8; have a2 := kw_neI (n := 4) (by decide) q11; have a3 := kw_neI (n := 5) (by decide) q14; have a4 := kw_neI (n := 6) (by decide) q17; have a5 := kw_neI (n := 7) (by decide) q20; have a6 := kw_neI (n := 8) (by decide) q23; omega) rfl ?_
                refine kg_iconst dX9_doOrder_176 ki_0 (pc2 := 177) rfl ?_
                cases h
                exact kg_iret (ty := .boolean) dX9_doOrder_177 rfl rfl
def bX9_orders_60 (v3 : Int32) (σ : kw_M) : Option ((Int32 × kw_M) ⊕ (Int32 × kw_M)) :=
 if (σ.1 4 1) ≤ v3 then
 (some (.inr (v3, σ)))
 else
 (fX9_doOrder v3 σ).bind fun r7 =>
 if r7.1 = (0 : Int32) then
 (some (.inr (v3, r7.2)))
 else
 kw_let (v3 + (1 : Int32)) fun x9 =>
 some (.inl (x9, r7.2))
set_option maxHeartbeats 4000000 in
set_option maxRecDepth 100000 in
theorem lX9_orders_60 {E : kw_E} {d : Nat} (v3 : Int32) (σ : kw_M) {v : Option Value} {σ2 : kw_M} {o : (Int32 × kw_M) ⊕ (Int32 × kw_M)} (h : bX9_orders_60 v3 σ = some o) (hk : Sum.elim (fun s => kw_G E kwTX 47 (d + 9) μX9_orders 60 [(0, .ref 0), (3, .int s.1)] [] s.2 v σ2) (fun y => kw_G E kwTX 47 (d + 9) μX9_orders 85 [(3, .int y.1)] [] y.2 v σ2) o) : kw_G E kwTX 47 (d + 9) μX9_orders 60 [(0, .ref 0), (3, .int v3)] [] σ v σ2 := by
  unfold bX9_orders_60 at h
  refine kg_iload_n 1 dX9_orders_60 rfl (pc2 := 61) rfl ?_
  refine kg_aload_n 0 dX9_orders_61 rfl (pc2 := 62) rfl ?_
  refine kg_getr clX9 rfl 4 (Nat.le_of_ble_eq_true rfl) lfRX9_29 tX_0 eX_0 rfl dX9_orders_62 (pc2 := 65) rfl ?_
  refine kg_geti clX3 rfl 1 (Nat.le_of_ble_eq_true rfl) lfRX9_109 tX_4 eX_4 rfl dX9_orders_65 (pc2 := 68) rfl ?_
  refine kg_icmp_ge 85 dX9_orders_68 rfl (pc2 := 71) rfl (fun q6 => ?_) (fun q6 => ?_)
  · replace h := (if_pos q6).symm.trans h
    refine kg_sub [1] (lv2 := [(3, .int v3)]) rfl ?_
    cases h
    exact hk
  · replace h := (if_neg q6).symm.trans h
    refine kg_aload_n 0 dX9_orders_71 rfl (pc2 := 72) rfl ?_
    refine kg_iload_n 1 dX9_orders_72 rfl (pc2 := 73) rfl ?_
    obtain ⟨r7, r7h, h⟩ := kw_bind_e h
    refine kg_callV (μ := μX9_orders) (d := (d + 8)) rfl mVX9_doOrder [.int v3] [] (gX9_doOrder (E := E) (d := (d + 2)) v3 σ r7h) rfl lmRX9_152 (ci := 9) rfl tX_0 eX_0 rfl (Nat.le_of_ble_eq_true rfl) dX9_orders_73 rfl (st2 := [.int r7.1]) rfl (pc2 := 76) rfl ?_
    refine kg_if_eq 85 dX9_orders_76 rfl (pc2 := 79) rfl (fun q8 => ?_) (fun q8 => ?_)
    · replace h := (if_pos q8).symm.trans h
      refine kg_sub [1] (lv2 := [(3, .int v3)]) rfl ?_
      cases h
      exact hk
    · replace h := (if_neg q8).symm.trans h
      obtain ⟨x9, x9e, h⟩ := kw_let_e h
      refine kg_iinc 1 dX9_orders_79 rfl (Nat.le_of_ble_eq_true rfl) x9e (lv2 := [(3, .int x9), (0, .ref 0)]) rfl (pc2 := 82) rfl ?_
      refine kg_goto 60 dX9_orders_82 rfl ?_
      refine kg_sub [1, 0] (lv2 := [(0, .ref 0), (3, .int x9)]) rfl ?_
      cases h
      exact hk
def fX9_orders (a1 : Int32) (σ : kw_M) : Option (Int32 × kw_M) :=
 (fX8_canGive a1 (1 : Int32) (200 : Int32) σ).bind fun r1 =>
 if r1 = (0 : Int32) then
 (some ((-1 : Int32), σ))
 else
 (fX3_readText a1 (0 : Int32) (σ.1 12 0) σ).bind fun r3 =>
 kw_let (kw_si r3.2 3 0 (0 : Int32)) fun s4 =>
 if r3.1 = (0 : Int32) then
 ((kw_loop (fun s => bX9_orders_60 s.1 s.2) kw_F ((0 : Int32), s4)).bind fun x10 =>
 some (x10.1, x10.2))
 else
 some (r3.1, s4)
set_option maxHeartbeats 4000000 in
set_option maxRecDepth 100000 in
theorem gX9_orders {E : kw_E} {d : Nat} (a1 : Int32) (σ : kw_M) {r : Int32 × kw_M} (h : fX9_orders a1 σ = some r) : kw_Met E kwTX 47 (d + 9) μX9_orders [.ref 0, .int a1] σ (some (Value.int r.1)) r.2 := by
  refine kw_enter plRX9 (Nat.le_of_ble_eq_true rfl) ?_
  show kw_G E kwTX 47 (d + 9) μX9_orders 0 [(0, .ref 0), (1, .int a1)] [] σ (some (Value.int r.1)) r.2
  unfold fX9_orders at h
  refine kg_aload_n 0 dX9_orders_0 rfl (pc2 := 1) rfl ?_
  refine kg_getr clX9 rfl 3 (Nat.le_of_ble_eq_true rfl) lfRX9_22 tX_0 eX_0 rfl dX9_orders_1 (pc2 := 4) rfl ?_
  refine kg_iload_n 1 dX9_orders_4 rfl (pc2 := 5) rfl ?_
  refine kg_iconst dX9_orders_5 ki_1 (pc2 := 6) rfl ?_
  refine kg_sipush dX9_orders_6 ks_200 (pc2 := 9) rfl ?_
  obtain ⟨r1, r1h, h⟩ := kw_bind_e h
  refine kg_callV (μ := μX9_orders) (d := (d + 8)) rfl mVX8_canGive [.int a1, .int (1 : Int32), .int (200 : Int32)] [] (gX8_canGive (E := E) (d := (d + 8)) a1 (1 : Int32) (200 : Int32) σ r1h) rfl lmRX9_87 (ci := 8) rfl tX_3 eX_3 rfl (Nat.le_of_ble_eq_true rfl) dX9_orders_9 rfl (st2 := [.int r1]) rfl (pc2 := 12) rfl ?_
  refine kg_if_ne 17 dX9_orders_12 rfl (pc2 := 15) rfl (fun q2 => ?_) (fun q2 => ?_)
  · replace h := (if_neg q2).symm.trans h
    refine kg_aload_n 0 dX9_orders_17 rfl (pc2 := 18) rfl ?_
    refine kg_getr clX9 rfl 4 (Nat.le_of_ble_eq_true rfl) lfRX9_29 tX_0 eX_0 rfl dX9_orders_18 (pc2 := 21) rfl ?_
    refine kg_aload_n 0 dX9_orders_21 rfl (pc2 := 22) rfl ?_
    refine kg_getr clX9 rfl 3 (Nat.le_of_ble_eq_true rfl) lfRX9_22 tX_0 eX_0 rfl dX9_orders_22 (pc2 := 25) rfl ?_
    refine kg_getr clX8 rfl 1 (Nat.le_of_ble_eq_true rfl) lfRX9_91 tX_3 eX_3 rfl dX9_orders_25 (pc2 := 28) rfl ?_
    refine kg_iload_n 1 dX9_orders_28 rfl (pc2 := 29) rfl ?_
    refine kg_iconst dX9_orders_29 ki_0 (pc2 := 30) rfl ?_
    refine kg_aload_n 0 dX9_orders_30 rfl (pc2 := 31) rfl ?_
    refine kg_getr clX9 rfl 0 (Nat.le_of_ble_eq_true rfl) lfRX9_10 tX_0 eX_0 rfl dX9_orders_31 (pc2 := 34) rfl ?_
    refine kg_getr clX7 rfl 0 (Nat.le_of_ble_eq_true rfl) lfRX9_148 tX_1 eX_1 rfl dX9_orders_34 (pc2 := 37) rfl ?_
    refine kg_geti clX4 rfl 0 (Nat.le_of_ble_eq_true rfl) lfRX9_151 tX_12 eX_12 rfl dX9_orders_37 (pc2 := 40) rfl ?_
    obtain ⟨r3, r3h, h⟩ := kw_bind_e h
    refine kg_callV (μ := μX9_orders) (d := (d + 8)) rfl mVX3_readText [.ref 35, .int a1, .int (0 : Int32), .int (σ.1 12 0)] [] (gX3_readText (E := E) (d := d) a1 (0 : Int32) (σ.1 12 0) σ r3h) rfl lmRX9_95 (ci := 3) rfl tX_4 eX_4 rfl (Nat.le_of_ble_eq_true rfl) dX9_orders_40 rfl (st2 := [.int r3.1]) rfl (pc2 := 43) rfl ?_
    refine kg_istore_n dX9_orders_43 rfl (Nat.le_of_ble_eq_true rfl) rfl (lv2 := [(2, .int r3.1), (0, .ref 0), (1, .int a1)]) rfl (pc2 := 44) rfl ?_
    refine kg_aload_n 1 dX9_orders_44 rfl (pc2 := 45) rfl ?_
    refine kg_getr clX9 rfl 3 (Nat.le_of_ble_eq_true rfl) lfRX9_22 tX_0 eX_0 rfl dX9_orders_45 (pc2 := 48) rfl ?_
    refine kg_iconst dX9_orders_48 ki_0 (pc2 := 49) rfl ?_
    obtain ⟨s4, s4e, h⟩ := kw_let_e h
    refine kg_puti clX8 rfl 0 (Nat.le_of_ble_eq_true rfl) lfRX9_79 rfl tX_3 eX_3 rfl (ty := .int) (by decide +kernel) rfl rfl s4e dX9_orders_49 (pc2 := 52) rfl ?_
    refine kg_iload_n 0 dX9_orders_52 rfl (pc2 := 53) rfl ?_
    refine kg_if_eq 58 dX9_orders_53 rfl (pc2 := 56) rfl (fun q5 => ?_) (fun q5 => ?_)
    · replace h := (if_pos q5).symm.trans h
      refine kg_iconst dX9_orders_58 ki_0 (pc2 := 59) rfl ?_
      refine kg_istore_n dX9_orders_59 rfl (Nat.le_of_ble_eq_true rfl) rfl (lv2 := [(3, .int (0 : Int32)), (2, .int r3.1), (0, .ref 0), (1, .int a1)]) rfl (pc2 := 60) rfl ?_
      refine kg_sub [2, 0] (lv2 := [(0, .ref 0), (3, .int (0 : Int32))]) rfl ?_
      obtain ⟨x10, x10h, h⟩ := kw_bind_e h
      refine kw_loop_e (P := fun s => kw_G E kwTX 47 (d + 9) μX9_orders 60 [(0, .ref 0), (3, .int s.1)] [] s.2 (some (Value.int r.1)) r.2) (K := fun y => kw_G E kwTX 47 (d + 9) μX9_orders 85 [(3, .int y.1)] [] y.2 (some (Value.int r.1)) r.2) (fun s o h0 hk => lX9_orders_60 s.1 s.2 h0 hk) kw_F _ _ x10h ?_
      show kw_G E kwTX 47 (d + 9) μX9_orders 85 [(3, .int x10.1)] [] x10.2 (some (Value.int r.1)) r.2
      refine kg_iload_n 0 dX9_orders_85 rfl (pc2 := 86) rfl ?_
      cases h
      exact kg_iret (ty := .int) dX9_orders_86 rfl rfl
    · replace h := (if_neg q5).symm.trans h
      refine kg_iload_n 0 dX9_orders_56 rfl (pc2 := 57) rfl ?_
      cases h
      exact kg_iret (ty := .int) dX9_orders_57 rfl rfl
  · replace h := (if_pos q2).symm.trans h
    refine kg_iconst dX9_orders_15 ki_m1 (pc2 := 16) rfl ?_
    cases h
    exact kg_iret (ty := .int) dX9_orders_16 rfl rfl
def fX9_lay (a1 : Int32) (a2 : Int32) (a3 : Int32) (σ : kw_M) : Option (Int32 × kw_M) :=
 (fX9_layRoad a1 a2 a3 σ).bind fun r1 =>
 some (r1.1, r1.2)
set_option maxHeartbeats 4000000 in
set_option maxRecDepth 100000 in
theorem gX9_lay {E : kw_E} {d : Nat} (a1 : Int32) (a2 : Int32) (a3 : Int32) (σ : kw_M) {r : Int32 × kw_M} (h : fX9_lay a1 a2 a3 σ = some r) : kw_Met E kwTX 47 (d + 6) μX9_lay [.ref 0, .int a1, .int a2, .int a3] σ (some (Value.int r.1)) r.2 := by
  refine kw_enter plRX9 (Nat.le_of_ble_eq_true rfl) ?_
  show kw_G E kwTX 47 (d + 6) μX9_lay 0 [(0, .ref 0), (1, .int a1), (2, .int a2), (3, .int a3)] [] σ (some (Value.int r.1)) r.2
  unfold fX9_lay at h
  refine kg_aload_n 0 dX9_lay_0 rfl (pc2 := 1) rfl ?_
  refine kg_iload_n 1 dX9_lay_1 rfl (pc2 := 2) rfl ?_
  refine kg_iload_n 2 dX9_lay_2 rfl (pc2 := 3) rfl ?_
  refine kg_iload_n 3 dX9_lay_3 rfl (pc2 := 4) rfl ?_
  obtain ⟨r1, r1h, h⟩ := kw_bind_e h
  refine kg_callV (μ := μX9_lay) (d := (d + 5)) rfl mVX9_layRoad [.int a1, .int a2, .int a3] [] (gX9_layRoad (E := E) (d := d) a1 a2 a3 σ r1h) rfl lmRX9_156 (ci := 9) rfl tX_0 eX_0 rfl (Nat.le_of_ble_eq_true rfl) dX9_lay_4 rfl (st2 := [.int r1.1]) rfl (pc2 := 7) rfl ?_
  cases h
  exact kg_iret (ty := .int) dX9_lay_7 rfl rfl
def fX9_length (a1 : Int32) (a2 : Int32) (σ : kw_M) : Option (Int32 × kw_M) :=
 (fX9_changeLength a1 a2 σ).bind fun r1 =>
 some (r1.1, r1.2)
set_option maxHeartbeats 4000000 in
set_option maxRecDepth 100000 in
theorem gX9_length {E : kw_E} {d : Nat} (a1 : Int32) (a2 : Int32) (σ : kw_M) {r : Int32 × kw_M} (h : fX9_length a1 a2 σ = some r) : kw_Met E kwTX 47 (d + 6) μX9_length [.ref 0, .int a1, .int a2] σ (some (Value.int r.1)) r.2 := by
  refine kw_enter plRX9 (Nat.le_of_ble_eq_true rfl) ?_
  show kw_G E kwTX 47 (d + 6) μX9_length 0 [(0, .ref 0), (1, .int a1), (2, .int a2)] [] σ (some (Value.int r.1)) r.2
  unfold fX9_length at h
  refine kg_aload_n 0 dX9_length_0 rfl (pc2 := 1) rfl ?_
  refine kg_iload_n 1 dX9_length_1 rfl (pc2 := 2) rfl ?_
  refine kg_iload_n 2 dX9_length_2 rfl (pc2 := 3) rfl ?_
  obtain ⟨r1, r1h, h⟩ := kw_bind_e h
  refine kg_callV (μ := μX9_length) (d := (d + 5)) rfl mVX9_changeLength [.int a1, .int a2] [] (gX9_changeLength (E := E) (d := d) a1 a2 σ r1h) rfl lmRX9_159 (ci := 9) rfl tX_0 eX_0 rfl (Nat.le_of_ble_eq_true rfl) dX9_length_3 rfl (st2 := [.int r1.1]) rfl (pc2 := 6) rfl ?_
  cases h
  exact kg_iret (ty := .int) dX9_length_6 rfl rfl
def fX9_close (a1 : Int32) (σ : kw_M) : Option (Int32 × kw_M) :=
 (fX9_turnRoad a1 (0 : Int32) σ).bind fun r1 =>
 some (r1.1, r1.2)
set_option maxHeartbeats 4000000 in
set_option maxRecDepth 100000 in
theorem gX9_close {E : kw_E} {d : Nat} (a1 : Int32) (σ : kw_M) {r : Int32 × kw_M} (h : fX9_close a1 σ = some r) : kw_Met E kwTX 47 (d + 6) μX9_close [.ref 0, .int a1] σ (some (Value.int r.1)) r.2 := by
  refine kw_enter plRX9 (Nat.le_of_ble_eq_true rfl) ?_
  show kw_G E kwTX 47 (d + 6) μX9_close 0 [(0, .ref 0), (1, .int a1)] [] σ (some (Value.int r.1)) r.2
  unfold fX9_close at h
  refine kg_aload_n 0 dX9_close_0 rfl (pc2 := 1) rfl ?_
  refine kg_iload_n 1 dX9_close_1 rfl (pc2 := 2) rfl ?_
  refine kg_iconst dX9_close_2 ki_0 (pc2 := 3) rfl ?_
  obtain ⟨r1, r1h, h⟩ := kw_bind_e h
  refine kg_callV (μ := μX9_close) (d := (d + 5)) rfl mVX9_turnRoad [.int a1, .int (0 : Int32)] [] (gX9_turnRoad (E := E) (d := d) a1 (0 : Int32) σ r1h) rfl lmRX9_162 (ci := 9) rfl tX_0 eX_0 rfl (Nat.le_of_ble_eq_true rfl) dX9_close_3 rfl (st2 := [.int r1.1]) rfl (pc2 := 6) rfl ?_
  cases h
  exact kg_iret (ty := .int) dX9_close_6 rfl rfl
def fX9_open (a1 : Int32) (σ : kw_M) : Option (Int32 × kw_M) :=
 (fX9_turnRoad a1 (1 : Int32) σ).bind fun r1 =>
 some (r1.1, r1.2)
set_option maxHeartbeats 4000000 in
set_option maxRecDepth 100000 in
theorem gX9_open {E : kw_E} {d : Nat} (a1 : Int32) (σ : kw_M) {r : Int32 × kw_M} (h : fX9_open a1 σ = some r) : kw_Met E kwTX 47 (d + 6) μX9_open [.ref 0, .int a1] σ (some (Value.int r.1)) r.2 := by
  refine kw_enter plRX9 (Nat.le_of_ble_eq_true rfl) ?_
  show kw_G E kwTX 47 (d + 6) μX9_open 0 [(0, .ref 0), (1, .int a1)] [] σ (some (Value.int r.1)) r.2
  unfold fX9_open at h
  refine kg_aload_n 0 dX9_open_0 rfl (pc2 := 1) rfl ?_
  refine kg_iload_n 1 dX9_open_1 rfl (pc2 := 2) rfl ?_
  refine kg_iconst dX9_open_2 ki_1 (pc2 := 3) rfl ?_
  obtain ⟨r1, r1h, h⟩ := kw_bind_e h
  refine kg_callV (μ := μX9_open) (d := (d + 5)) rfl mVX9_turnRoad [.int a1, .int (1 : Int32)] [] (gX9_turnRoad (E := E) (d := d) a1 (1 : Int32) σ r1h) rfl lmRX9_162 (ci := 9) rfl tX_0 eX_0 rfl (Nat.le_of_ble_eq_true rfl) dX9_open_3 rfl (st2 := [.int r1.1]) rfl (pc2 := 6) rfl ?_
  cases h
  exact kg_iret (ty := .int) dX9_open_6 rfl rfl
def fX9_origin (a1 : Int32) (σ : kw_M) : Option (Int32 × kw_M) :=
 (fX9_moveOrigin a1 σ).bind fun r1 =>
 some (r1.1, r1.2)
set_option maxHeartbeats 4000000 in
set_option maxRecDepth 100000 in
theorem gX9_origin {E : kw_E} {d : Nat} (a1 : Int32) (σ : kw_M) {r : Int32 × kw_M} (h : fX9_origin a1 σ = some r) : kw_Met E kwTX 47 (d + 6) μX9_origin [.ref 0, .int a1] σ (some (Value.int r.1)) r.2 := by
  refine kw_enter plRX9 (Nat.le_of_ble_eq_true rfl) ?_
  show kw_G E kwTX 47 (d + 6) μX9_origin 0 [(0, .ref 0), (1, .int a1)] [] σ (some (Value.int r.1)) r.2
  unfold fX9_origin at h
  refine kg_aload_n 0 dX9_origin_0 rfl (pc2 := 1) rfl ?_
  refine kg_iload_n 1 dX9_origin_1 rfl (pc2 := 2) rfl ?_
  obtain ⟨r1, r1h, h⟩ := kw_bind_e h
  refine kg_callV (μ := μX9_origin) (d := (d + 5)) rfl mVX9_moveOrigin [.int a1] [] (gX9_moveOrigin (E := E) (d := d) a1 σ r1h) rfl lmRX9_166 (ci := 9) rfl tX_0 eX_0 rfl (Nat.le_of_ble_eq_true rfl) dX9_origin_2 rfl (st2 := [.int r1.1]) rfl (pc2 := 5) rfl ?_
  cases h
  exact kg_iret (ty := .int) dX9_origin_5 rfl rfl
def fXJ13_bitCount_95d88 (a0 : Int64) (σ : kw_M) : Option (Int32) :=
 kw_let ((a0.toUInt64 >>> ((1 : Int32).toInt64.toUInt64 &&& Int64.toUInt64 63)).toInt64) fun x1 =>
 kw_let (a0 - (x1 &&& (6148914691236517205 : Int64))) fun x2 =>
 kw_let ((x2.toUInt64 >>> ((2 : Int32).toInt64.toUInt64 &&& Int64.toUInt64 63)).toInt64) fun x3 =>
 kw_let ((x2 &&& (3689348814741910323 : Int64)) + (x3 &&& (3689348814741910323 : Int64))) fun x4 =>
 kw_let ((x4.toUInt64 >>> ((4 : Int32).toInt64.toUInt64 &&& Int64.toUInt64 63)).toInt64) fun x5 =>
 kw_let ((x4 + x5) &&& (1085102592571150095 : Int64)) fun x6 =>
 kw_let ((x6.toUInt64 >>> ((8 : Int32).toInt64.toUInt64 &&& Int64.toUInt64 63)).toInt64) fun x7 =>
 kw_let (x6 + x7) fun x8 =>
 kw_let ((x8.toUInt64 >>> ((16 : Int32).toInt64.toUInt64 &&& Int64.toUInt64 63)).toInt64) fun x9 =>
 kw_let (x8 + x9) fun x10 =>
 kw_let ((x10.toUInt64 >>> ((32 : Int32).toInt64.toUInt64 &&& Int64.toUInt64 63)).toInt64) fun x11 =>
 kw_let (x10 + x11) fun x12 =>
 some (x12.toInt32 &&& (127 : Int32))
set_option maxHeartbeats 4000000 in
set_option maxRecDepth 100000 in
theorem gXJ13_bitCount_95d88 {E : kw_E} {d : Nat} (a0 : Int64) (σ : kw_M) {r : Int32} (h : fXJ13_bitCount_95d88 a0 σ = some r) : kw_Met E kwTX 47 d μJ13_bitCount_95d88 [.long a0] σ (some (Value.int r)) σ := by
  refine kw_enter plRJ13 (Nat.le_of_ble_eq_true rfl) ?_
  show kw_G E kwTX 47 d μJ13_bitCount_95d88 0 [(0, .long a0)] [] σ (some (Value.int r)) σ
  unfold fXJ13_bitCount_95d88 at h
  refine kg_lload_n 0 dJ13_bitCount_95d88_0 rfl (pc2 := 1) rfl ?_
  refine kg_lload_n 0 dJ13_bitCount_95d88_1 rfl (pc2 := 2) rfl ?_
  refine kg_iconst dJ13_bitCount_95d88_2 ki_1 (pc2 := 3) rfl ?_
  obtain ⟨x1, x1e, h⟩ := kw_let_e h
  refine kg_lushr dJ13_bitCount_95d88_3 x1e (pc2 := 4) rfl ?_
  refine kg_ldc2 rfl lcRJ13_314 dJ13_bitCount_95d88_4 (pc2 := 7) rfl ?_
  refine kg_land dJ13_bitCount_95d88_7 (pc2 := 8) rfl ?_
  refine kg_lsub dJ13_bitCount_95d88_8 (pc2 := 9) rfl ?_
  obtain ⟨x2, x2e, h⟩ := kw_let_e h
  refine kg_lstore_n dJ13_bitCount_95d88_9 rfl (Nat.le_of_ble_eq_true rfl) x2e (lv2 := [(0, .long x2)]) rfl (pc2 := 10) rfl ?_
  refine kg_lload_n 0 dJ13_bitCount_95d88_10 rfl (pc2 := 11) rfl ?_
  refine kg_ldc2 rfl lcRJ13_316 dJ13_bitCount_95d88_11 (pc2 := 14) rfl ?_
  refine kg_land dJ13_bitCount_95d88_14 (pc2 := 15) rfl ?_
  refine kg_lload_n 0 dJ13_bitCount_95d88_15 rfl (pc2 := 16) rfl ?_
  refine kg_iconst dJ13_bitCount_95d88_16 ki_2 (pc2 := 17) rfl ?_
  obtain ⟨x3, x3e, h⟩ := kw_let_e h
  refine kg_lushr dJ13_bitCount_95d88_17 x3e (pc2 := 18) rfl ?_
  refine kg_ldc2 rfl lcRJ13_316 dJ13_bitCount_95d88_18 (pc2 := 21) rfl ?_
  refine kg_land dJ13_bitCount_95d88_21 (pc2 := 22) rfl ?_
  refine kg_ladd dJ13_bitCount_95d88_22 (pc2 := 23) rfl ?_
  obtain ⟨x4, x4e, h⟩ := kw_let_e h
  refine kg_lstore_n dJ13_bitCount_95d88_23 rfl (Nat.le_of_ble_eq_true rfl) x4e (lv2 := [(0, .long x4)]) rfl (pc2 := 24) rfl ?_
  refine kg_lload_n 0 dJ13_bitCount_95d88_24 rfl (pc2 := 25) rfl ?_
  refine kg_lload_n 0 dJ13_bitCount_95d88_25 rfl (pc2 := 26) rfl ?_
  refine kg_iconst dJ13_bitCount_95d88_26 ki_4 (pc2 := 27) rfl ?_
  obtain ⟨x5, x5e, h⟩ := kw_let_e h
  refine kg_lushr dJ13_bitCount_95d88_27 x5e (pc2 := 28) rfl ?_
  refine kg_ladd dJ13_bitCount_95d88_28 (pc2 := 29) rfl ?_
  refine kg_ldc2 rfl lcRJ13_318 dJ13_bitCount_95d88_29 (pc2 := 32) rfl ?_
  refine kg_land dJ13_bitCount_95d88_32 (pc2 := 33) rfl ?_
  obtain ⟨x6, x6e, h⟩ := kw_let_e h
  refine kg_lstore_n dJ13_bitCount_95d88_33 rfl (Nat.le_of_ble_eq_true rfl) x6e (lv2 := [(0, .long x6)]) rfl (pc2 := 34) rfl ?_
  refine kg_lload_n 0 dJ13_bitCount_95d88_34 rfl (pc2 := 35) rfl ?_
  refine kg_lload_n 0 dJ13_bitCount_95d88_35 rfl (pc2 := 36) rfl ?_
  refine kg_bipush dJ13_bitCount_95d88_36 kb_8 (pc2 := 38) rfl ?_
  obtain ⟨x7, x7e, h⟩ := kw_let_e h
  refine kg_lushr dJ13_bitCount_95d88_38 x7e (pc2 := 39) rfl ?_
  refine kg_ladd dJ13_bitCount_95d88_39 (pc2 := 40) rfl ?_
  obtain ⟨x8, x8e, h⟩ := kw_let_e h
  refine kg_lstore_n dJ13_bitCount_95d88_40 rfl (Nat.le_of_ble_eq_true rfl) x8e (lv2 := [(0, .long x8)]) rfl (pc2 := 41) rfl ?_
  refine kg_lload_n 0 dJ13_bitCount_95d88_41 rfl (pc2 := 42) rfl ?_
  refine kg_lload_n 0 dJ13_bitCount_95d88_42 rfl (pc2 := 43) rfl ?_
  refine kg_bipush dJ13_bitCount_95d88_43 kb_16 (pc2 := 45) rfl ?_
  obtain ⟨x9, x9e, h⟩ := kw_let_e h
  refine kg_lushr dJ13_bitCount_95d88_45 x9e (pc2 := 46) rfl ?_
  refine kg_ladd dJ13_bitCount_95d88_46 (pc2 := 47) rfl ?_
  obtain ⟨x10, x10e, h⟩ := kw_let_e h
  refine kg_lstore_n dJ13_bitCount_95d88_47 rfl (Nat.le_of_ble_eq_true rfl) x10e (lv2 := [(0, .long x10)]) rfl (pc2 := 48) rfl ?_
  refine kg_lload_n 0 dJ13_bitCount_95d88_48 rfl (pc2 := 49) rfl ?_
  refine kg_lload_n 0 dJ13_bitCount_95d88_49 rfl (pc2 := 50) rfl ?_
  refine kg_bipush dJ13_bitCount_95d88_50 kb_32 (pc2 := 52) rfl ?_
  obtain ⟨x11, x11e, h⟩ := kw_let_e h
  refine kg_lushr dJ13_bitCount_95d88_52 x11e (pc2 := 53) rfl ?_
  refine kg_ladd dJ13_bitCount_95d88_53 (pc2 := 54) rfl ?_
  obtain ⟨x12, x12e, h⟩ := kw_let_e h
  refine kg_lstore_n dJ13_bitCount_95d88_54 rfl (Nat.le_of_ble_eq_true rfl) x12e (lv2 := [(0, .long x12)]) rfl (pc2 := 55) rfl ?_
  refine kg_lload_n 0 dJ13_bitCount_95d88_55 rfl (pc2 := 56) rfl ?_
  refine kg_l2i dJ13_bitCount_95d88_56 (pc2 := 57) rfl ?_
  refine kg_bipush dJ13_bitCount_95d88_57 kb_127 (pc2 := 59) rfl ?_
  refine kg_iand dJ13_bitCount_95d88_59 (pc2 := 60) rfl ?_
  cases h
  exact kg_iret (ty := .int) dJ13_bitCount_95d88_60 rfl rfl
