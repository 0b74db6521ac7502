/-! The class, method by method: what it computes (f), and that the machine does so (g). -/
def fX9_keep (σ : kw_M) : Option (Int32 × kw_M) :=
 (fX7_copyFrom 2 1 σ).bind fun r1 =>
 kw_let (kw_si r1 0 2 (1 : Int32)) fun s2 =>
 some ((s2.1 1 3), s2)
set_option maxHeartbeats 4000000 in
set_option maxRecDepth 100000 in
theorem gX9_keep {E : kw_E} {d : Nat} (σ : kw_M) {r : Int32 × kw_M} (h : fX9_keep σ = some r) : kw_Met E kwTX 47 (d + 3) μX9_keep [.ref 0] σ (some (Value.int r.1)) r.2 := by
  refine kw_enter plRX9 (Nat.le_of_ble_eq_true rfl) ?_
  show kw_G E kwTX 47 (d + 3) μX9_keep 0 [(0, .ref 0)] [] σ (some (Value.int r.1)) r.2
  unfold fX9_keep at h
  refine kg_aload_n 0 dX9_keep_0 rfl (pc2 := 1) rfl ?_
  refine kg_getr clX9 rfl 1 (Nat.le_of_ble_eq_true rfl) lfRX9_16 tX_0 eX_0 rfl dX9_keep_1 (pc2 := 4) rfl ?_
  refine kg_aload_n 0 dX9_keep_4 rfl (pc2 := 5) rfl ?_
  refine kg_getr clX9 rfl 0 (Nat.le_of_ble_eq_true rfl) lfRX9_10 tX_0 eX_0 rfl dX9_keep_5 (pc2 := 8) rfl ?_
  obtain ⟨r1, r1h, h⟩ := kw_bind_e h
  refine kg_callV (μ := μX9_keep) (d := (d + 2)) rfl mVX7_copyFrom [.ref 1] [] (gX7_copyFrom (E := E) (d := d) 2 1 kx_7_2 kx_7_1 σ r1h) rfl lmRX9_451 (ci := 7) rfl tX_2 eX_2 rfl (Nat.le_of_ble_eq_true rfl) dX9_keep_8 rfl (st2 := []) rfl (pc2 := 11) rfl ?_
  refine kg_aload_n 0 dX9_keep_11 rfl (pc2 := 12) rfl ?_
  refine kg_iconst dX9_keep_12 ki_1 (pc2 := 13) rfl ?_
  obtain ⟨s2, s2e, h⟩ := kw_let_e h
  refine kg_puti clX9 rfl 2 (Nat.le_of_ble_eq_true rfl) lfRX9_141 rfl tX_0 eX_0 rfl (ty := .boolean) (by decide +kernel) rfl rfl s2e dX9_keep_13 (pc2 := 16) rfl ?_
  refine kg_aload_n 0 dX9_keep_16 rfl (pc2 := 17) rfl ?_
  refine kg_getr clX9 rfl 0 (Nat.le_of_ble_eq_true rfl) lfRX9_10 tX_0 eX_0 rfl dX9_keep_17 (pc2 := 20) rfl ?_
  refine kg_geti clX7 rfl 3 (Nat.le_of_ble_eq_true rfl) lfRX9_229 tX_1 eX_1 rfl dX9_keep_20 (pc2 := 23) rfl ?_
  cases h
  exact kg_iret (ty := .int) dX9_keep_23 rfl rfl
def fX9_undo (σ : kw_M) : Option (Int32 × kw_M) :=
 if (σ.1 0 2) = (0 : Int32) then
 (some ((0 : Int32), σ))
 else
 (fX7_copyFrom 1 2 σ).bind fun r2 =>
 kw_let (kw_si r2 5 0 (0 : Int32)) fun s3 =>
 some ((1 : Int32), s3)
set_option maxHeartbeats 4000000 in
set_option maxRecDepth 100000 in
theorem gX9_undo {E : kw_E} {d : Nat} (σ : kw_M) {r : Int32 × kw_M} (h : fX9_undo σ = some r) : kw_Met E kwTX 47 (d + 3) μX9_undo [.ref 0] σ (some (Value.int r.1)) r.2 := by
  refine kw_enter plRX9 (Nat.le_of_ble_eq_true rfl) ?_
  show kw_G E kwTX 47 (d + 3) μX9_undo 0 [(0, .ref 0)] [] σ (some (Value.int r.1)) r.2
  unfold fX9_undo at h
  refine kg_aload_n 0 dX9_undo_0 rfl (pc2 := 1) rfl ?_
  refine kg_geti clX9 rfl 2 (Nat.le_of_ble_eq_true rfl) lfRX9_141 tX_0 eX_0 rfl dX9_undo_1 (pc2 := 4) rfl ?_
  refine kg_if_ne 9 dX9_undo_4 rfl (pc2 := 7) rfl (fun q1 => ?_) (fun q1 => ?_)
  · replace h := (if_neg q1).symm.trans h
    refine kg_aload_n 0 dX9_undo_9 rfl (pc2 := 10) rfl ?_
    refine kg_getr clX9 rfl 0 (Nat.le_of_ble_eq_true rfl) lfRX9_10 tX_0 eX_0 rfl dX9_undo_10 (pc2 := 13) rfl ?_
    refine kg_aload_n 0 dX9_undo_13 rfl (pc2 := 14) rfl ?_
    refine kg_getr clX9 rfl 1 (Nat.le_of_ble_eq_true rfl) lfRX9_16 tX_0 eX_0 rfl dX9_undo_14 (pc2 := 17) rfl ?_
    obtain ⟨r2, r2h, h⟩ := kw_bind_e h
    refine kg_callV (μ := μX9_undo) (d := (d + 2)) rfl mVX7_copyFrom [.ref 2] [] (gX7_copyFrom (E := E) (d := d) 1 2 kx_7_1 kx_7_2 σ r2h) rfl lmRX9_451 (ci := 7) rfl tX_1 eX_1 rfl (Nat.le_of_ble_eq_true rfl) dX9_undo_17 rfl (st2 := []) rfl (pc2 := 20) rfl ?_
    refine kg_aload_n 0 dX9_undo_20 rfl (pc2 := 21) rfl ?_
    refine kg_getr clX9 rfl 5 (Nat.le_of_ble_eq_true rfl) lfRX9_36 tX_0 eX_0 rfl dX9_undo_21 (pc2 := 24) rfl ?_
    refine kg_iconst dX9_undo_24 ki_0 (pc2 := 25) rfl ?_
    obtain ⟨s3, s3e, h⟩ := kw_let_e h
    refine kg_puti clX2 rfl 0 (Nat.le_of_ble_eq_true rfl) lfRX9_145 rfl tX_5 eX_5 rfl (ty := .boolean) (by decide +kernel) rfl rfl s3e dX9_undo_25 (pc2 := 28) rfl ?_
    refine kg_iconst dX9_undo_28 ki_1 (pc2 := 29) rfl ?_
    cases h
    exact kg_iret (ty := .boolean) dX9_undo_29 rfl rfl
  · replace h := (if_pos q1).symm.trans h
    refine kg_iconst dX9_undo_7 ki_0 (pc2 := 8) rfl ?_
    cases h
    exact kg_iret (ty := .boolean) dX9_undo_8 rfl rfl
def jX9_isParentByte_45 (t0 : Int32) (t1 : Int32) (σ : kw_M) : Option (Int32) :=
 if t1 = t0 then
 (some (1 : Int32))
 else
 some (0 : Int32)
set_option maxHeartbeats 4000000 in
set_option maxRecDepth 100000 in
theorem gjX9_isParentByte_45 {E : kw_E} {d : Nat} (t0 : Int32) (t1 : Int32) (σ : kw_M) {r : Int32} (h : jX9_isParentByte_45 t0 t1 σ = some r) : kw_G E kwTX 47 (d + 1) μX9_isParentByte 45 [] [.int t0, .int t1] σ (some (Value.int r)) σ := by
  unfold jX9_isParentByte_45 at h
  refine kg_icmp_ne 52 dX9_isParentByte_45 rfl (pc2 := 48) rfl (fun q5 => ?_) (fun q5 => ?_)
  · replace h := (if_neg q5).symm.trans h
    refine kg_iconst dX9_isParentByte_52 ki_0 (pc2 := 53) rfl ?_
    cases h
    exact kg_iret (ty := .boolean) dX9_isParentByte_53 rfl rfl
  · replace h := (if_pos q5).symm.trans h
    refine kg_iconst dX9_isParentByte_48 ki_1 (pc2 := 49) rfl ?_
    refine kg_goto 53 dX9_isParentByte_49 rfl ?_
    cases h
    exact kg_iret (ty := .boolean) dX9_isParentByte_53 rfl rfl
def fX9_isParentByte (a1 : Int32) (a2 : Int32) (σ : kw_M) : Option (Int32) :=
 (fX4_hasTown a1 σ).bind fun r1 =>
 if r1 = (0 : Int32) then
 (some (0 : Int32))
 else
 kw_chk (kw_in a1 12) <|
 if (σ.1 17 a1.toNatClampNeg) = (-1 : Int32) then
 (jX9_isParentByte_45 (255 : Int32) a2 σ)
 else
 jX9_isParentByte_45 (σ.1 17 a1.toNatClampNeg) a2 σ
set_option maxHeartbeats 4000000 in
set_option maxRecDepth 100000 in
theorem gX9_isParentByte {E : kw_E} {d : Nat} (a1 : Int32) (a2 : Int32) (σ : kw_M) {r : Int32} (h : fX9_isParentByte a1 a2 σ = some r) : kw_Met E kwTX 47 (d + 1) μX9_isParentByte [.ref 0, .int a1, .int a2] σ (some (Value.int r)) σ := by
  refine kw_enter plRX9 (Nat.le_of_ble_eq_true rfl) ?_
  show kw_G E kwTX 47 (d + 1) μX9_isParentByte 0 [(0, .ref 0), (1, .int a1), (2, .int a2)] [] σ (some (Value.int r)) σ
  unfold fX9_isParentByte at h
  refine kg_aload_n 0 dX9_isParentByte_0 rfl (pc2 := 1) rfl ?_
  refine kg_getr clX9 rfl 0 (Nat.le_of_ble_eq_true rfl) lfRX9_10 tX_0 eX_0 rfl dX9_isParentByte_1 (pc2 := 4) rfl ?_
  refine kg_getr clX7 rfl 0 (Nat.le_of_ble_eq_true rfl) lfRX9_148 tX_1 eX_1 rfl dX9_isParentByte_4 (pc2 := 7) rfl ?_
  refine kg_iload_n 1 dX9_isParentByte_7 rfl (pc2 := 8) rfl ?_
  obtain ⟨r1, r1h, h⟩ := kw_bind_e h
  refine kg_callV (μ := μX9_isParentByte) (d := d) rfl mVX4_hasTown [.int a1] [] (gX4_hasTown (E := E) (d := d) a1 σ r1h) rfl lmRX9_176 (ci := 4) rfl tX_12 eX_12 rfl (Nat.le_of_ble_eq_true rfl) dX9_isParentByte_8 rfl (st2 := [.int r1]) rfl (pc2 := 11) rfl ?_
  refine kg_if_ne 16 dX9_isParentByte_11 rfl (pc2 := 14) rfl (fun q2 => ?_) (fun q2 => ?_)
  · replace h := (if_neg q2).symm.trans h
    refine kg_iload_n 2 dX9_isParentByte_16 rfl (pc2 := 17) rfl ?_
    refine kg_aload_n 0 dX9_isParentByte_17 rfl (pc2 := 18) rfl ?_
    refine kg_getr clX9 rfl 0 (Nat.le_of_ble_eq_true rfl) lfRX9_10 tX_0 eX_0 rfl dX9_isParentByte_18 (pc2 := 21) rfl ?_
    refine kg_getr clX7 rfl 10 (Nat.le_of_ble_eq_true rfl) lfRX9_272 tX_1 eX_1 rfl dX9_isParentByte_21 (pc2 := 24) rfl ?_
    refine kg_iload_n 1 dX9_isParentByte_24 rfl (pc2 := 25) rfl ?_
    obtain ⟨q3, h⟩ := kw_chk_e h
    refine kg_iald tX_17 eX_17 q3 (j := a1.toNatClampNeg) rfl dX9_isParentByte_25 (pc2 := 26) rfl ?_
    refine kg_iconst dX9_isParentByte_26 ki_m1 (pc2 := 27) rfl ?_
    refine kg_icmp_ne 36 dX9_isParentByte_27 rfl (pc2 := 30) rfl (fun q4 => ?_) (fun q4 => ?_)
    · replace h := (if_neg q4).symm.trans h
      refine kg_aload_n 0 dX9_isParentByte_36 rfl (pc2 := 37) rfl ?_
      refine kg_getr clX9 rfl 0 (Nat.le_of_ble_eq_true rfl) lfRX9_10 tX_0 eX_0 rfl dX9_isParentByte_37 (pc2 := 40) rfl ?_
      refine kg_getr clX7 rfl 10 (Nat.le_of_ble_eq_true rfl) lfRX9_272 tX_1 eX_1 rfl dX9_isParentByte_40 (pc2 := 43) rfl ?_
      refine kg_iload_n 1 dX9_isParentByte_43 rfl (pc2 := 44) rfl ?_
      refine kg_iald tX_17 eX_17 q3 (j := a1.toNatClampNeg) rfl dX9_isParentByte_44 (pc2 := 45) rfl ?_
      refine kg_sub [] (lv2 := []) rfl ?_
      exact gjX9_isParentByte_45 (σ.1 17 a1.toNatClampNeg) a2 σ h
    · replace h := (if_pos q4).symm.trans h
      refine kg_sipush dX9_isParentByte_30 ks_255 (pc2 := 33) rfl ?_
      refine kg_goto 45 dX9_isParentByte_33 rfl ?_
      refine kg_sub [] (lv2 := []) rfl ?_
      exact gjX9_isParentByte_45 (255 : Int32) a2 σ h
  · replace h := (if_pos q2).symm.trans h
    refine kg_iconst dX9_isParentByte_14 ki_0 (pc2 := 15) rfl ?_
    cases h
    exact kg_iret (ty := .boolean) dX9_isParentByte_15 rfl rfl
def bX9_check_19 (v1 : Int32) (σ : kw_M) (v2 : Int32) : Option ((Int32) ⊕ (Int32)) :=
 if v1 ≤ v2 then
 (some (.inr v2))
 else
 kw_chk (kw_in v2 240) <|
 (fX9_isParentByte v2 (σ.1 35 v2.toNatClampNeg) σ).bind fun r5 =>
 if r5 = (0 : Int32) then
 (some (.inr v2))
 else
 kw_let (v2 + (1 : Int32)) fun x7 =>
 some (.inl x7)
set_option maxHeartbeats 4000000 in
set_option maxRecDepth 100000 in
theorem lX9_check_19 {E : kw_E} {d : Nat} (v1 : Int32) (σ : kw_M) (v2 : Int32) {v : Option Value} {σ2 : kw_M} {o : (Int32) ⊕ (Int32)} (h : bX9_check_19 v1 σ v2 = some o) (hk : Sum.elim (fun s => kw_G E kwTX 47 (d + 2) μX9_check 19 [(0, .ref 0), (1, .int v1), (2, .int s)] [] σ v σ2) (fun y => kw_G E kwTX 47 (d + 2) μX9_check 47 [(0, .ref 0), (1, .int v1), (2, .int y)] [] σ v σ2) o) : kw_G E kwTX 47 (d + 2) μX9_check 19 [(0, .ref 0), (1, .int v1), (2, .int v2)] [] σ v σ2 := by
  unfold bX9_check_19 at h
  refine kg_iload_n 2 dX9_check_19 rfl (pc2 := 20) rfl ?_
  refine kg_iload_n 1 dX9_check_20 rfl (pc2 := 21) rfl ?_
  refine kg_icmp_ge 47 dX9_check_21 rfl (pc2 := 24) rfl (fun q3 => ?_) (fun q3 => ?_)
  · replace h := (if_pos q3).symm.trans h
    cases h
    exact hk
  · replace h := (if_neg q3).symm.trans h
    refine kg_aload_n 0 dX9_check_24 rfl (pc2 := 25) rfl ?_
    refine kg_iload_n 2 dX9_check_25 rfl (pc2 := 26) rfl ?_
    refine kg_aload_n 0 dX9_check_26 rfl (pc2 := 27) rfl ?_
    refine kg_getr clX9 rfl 3 (Nat.le_of_ble_eq_true rfl) lfRX9_22 tX_0 eX_0 rfl dX9_check_27 (pc2 := 30) rfl ?_
    refine kg_getr clX8 rfl 1 (Nat.le_of_ble_eq_true rfl) lfRX9_91 tX_3 eX_3 rfl dX9_check_30 (pc2 := 33) rfl ?_
    refine kg_iload_n 2 dX9_check_33 rfl (pc2 := 34) rfl ?_
    obtain ⟨q4, h⟩ := kw_chk_e h
    refine kg_iald tX_35 eX_35 q4 (j := v2.toNatClampNeg) rfl dX9_check_34 (pc2 := 35) rfl ?_
    obtain ⟨r5, r5h, h⟩ := kw_bind_e h
    refine kg_callV (μ := μX9_check) (d := (d + 1)) rfl mVX9_isParentByte [.int v2, .int (σ.1 35 v2.toNatClampNeg)] [] (gX9_isParentByte (E := E) (d := d) v2 (σ.1 35 v2.toNatClampNeg) σ r5h) rfl lmRX9_454 (ci := 9) rfl tX_0 eX_0 rfl (Nat.le_of_ble_eq_true rfl) dX9_check_35 rfl (st2 := [.int r5]) rfl (pc2 := 38) rfl ?_
    refine kg_if_eq 47 dX9_check_38 rfl (pc2 := 41) rfl (fun q6 => ?_) (fun q6 => ?_)
    · replace h := (if_pos q6).symm.trans h
      cases h
      exact hk
    · replace h := (if_neg q6).symm.trans h
      obtain ⟨x7, x7e, h⟩ := kw_let_e h
      refine kg_iinc 2 dX9_check_41 rfl (Nat.le_of_ble_eq_true rfl) x7e (lv2 := [(2, .int x7), (0, .ref 0), (1, .int v1)]) rfl (pc2 := 44) rfl ?_
      refine kg_goto 19 dX9_check_44 rfl ?_
      refine kg_sub [1, 2, 0] (lv2 := [(0, .ref 0), (1, .int v1), (2, .int x7)]) rfl ?_
      cases h
      exact hk
def jX9_check_47 (v1 : Int32) (v2 : Int32) (σ : kw_M) : Option (Int32 × kw_M) :=
 kw_let (kw_si σ 3 0 (0 : Int32)) fun s9 =>
 if v2 = v1 then
 (some ((-1 : Int32), s9))
 else
 some (v2, s9)
set_option maxHeartbeats 4000000 in
set_option maxRecDepth 100000 in
theorem gjX9_check_47 {E : kw_E} {d : Nat} (v1 : Int32) (v2 : Int32) (σ : kw_M) {r : Int32 × kw_M} (h : jX9_check_47 v1 v2 σ = some r) : kw_G E kwTX 47 (d + 2) μX9_check 47 [(0, .ref 0), (1, .int v1), (2, .int v2)] [] σ (some (Value.int r.1)) r.2 := by
  unfold jX9_check_47 at h
  refine kg_aload_n 0 dX9_check_47 rfl (pc2 := 48) rfl ?_
  refine kg_getr clX9 rfl 3 (Nat.le_of_ble_eq_true rfl) lfRX9_22 tX_0 eX_0 rfl dX9_check_48 (pc2 := 51) rfl ?_
  refine kg_iconst dX9_check_51 ki_0 (pc2 := 52) rfl ?_
  obtain ⟨s9, s9e, h⟩ := kw_let_e h
  refine kg_puti clX8 rfl 0 (Nat.le_of_ble_eq_true rfl) lfRX9_79 rfl tX_3 eX_3 rfl (ty := .int) (by decide +kernel) rfl rfl s9e dX9_check_52 (pc2 := 55) rfl ?_
  refine kg_iload_n 2 dX9_check_55 rfl (pc2 := 56) rfl ?_
  refine kg_iload_n 1 dX9_check_56 rfl (pc2 := 57) rfl ?_
  refine kg_icmp_ne 64 dX9_check_57 rfl (pc2 := 60) rfl (fun q10 => ?_) (fun q10 => ?_)
  · replace h := (if_neg q10).symm.trans h
    refine kg_iload_n 2 dX9_check_64 rfl (pc2 := 65) rfl ?_
    cases h
    exact kg_iret (ty := .int) dX9_check_65 rfl rfl
  · replace h := (if_pos q10).symm.trans h
    refine kg_iconst dX9_check_60 ki_m1 (pc2 := 61) rfl ?_
    refine kg_goto 65 dX9_check_61 rfl ?_
    cases h
    exact kg_iret (ty := .int) dX9_check_65 rfl rfl
def fX9_check (a1 : Int32) (σ : kw_M) : Option (Int32 × kw_M) :=
 (fX8_canGive a1 (0 : Int32) (12 : Int32) σ).bind fun r1 =>
 if r1 = (0 : Int32) then
 (some ((-2 : Int32), σ))
 else
 (kw_loop (fun s => bX9_check_19 a1 σ s) kw_F (0 : Int32)).bind fun x8 =>
 jX9_check_47 a1 x8 σ
set_option maxHeartbeats 4000000 in
set_option maxRecDepth 100000 in
theorem gX9_check {E : kw_E} {d : Nat} (a1 : Int32) (σ : kw_M) {r : Int32 × kw_M} (h : fX9_check a1 σ = some r) : kw_Met E kwTX 47 (d + 2) μX9_check [.ref 0, .int a1] σ (some (Value.int r.1)) r.2 := by
  refine kw_enter plRX9 (Nat.le_of_ble_eq_true rfl) ?_
  show kw_G E kwTX 47 (d + 2) μX9_check 0 [(0, .ref 0), (1, .int a1)] [] σ (some (Value.int r.1)) r.2
  unfold fX9_check at h
  refine kg_aload_n 0 dX9_check_0 rfl (pc2 := 1) rfl ?_
  refine kg_getr clX9 rfl 3 (Nat.le_of_ble_eq_true rfl) lfRX9_22 tX_0 eX_0 rfl dX9_check_1 (pc2 := 4) rfl ?_
  refine kg_iload_n 1 dX9_check_4 rfl (pc2 := 5) rfl ?_
  refine kg_iconst dX9_check_5 ki_0 (pc2 := 6) rfl ?_
  refine kg_bipush dX9_check_6 kb_12 (pc2 := 8) rfl ?_
  obtain ⟨r1, r1h, h⟩ := kw_bind_e h
  refine kg_callV (μ := μX9_check) (d := (d + 1)) rfl mVX8_canGive [.int a1, .int (0 : Int32), .int (12 : Int32)] [] (gX8_canGive (E := E) (d := (d + 1)) a1 (0 : Int32) (12 : Int32) σ r1h) rfl lmRX9_87 (ci := 8) rfl tX_3 eX_3 rfl (Nat.le_of_ble_eq_true rfl) dX9_check_8 rfl (st2 := [.int r1]) rfl (pc2 := 11) rfl ?_
  refine kg_if_ne 17 dX9_check_11 rfl (pc2 := 14) rfl (fun q2 => ?_) (fun q2 => ?_)
  · replace h := (if_neg q2).symm.trans h
    refine kg_iconst dX9_check_17 ki_0 (pc2 := 18) rfl ?_
    refine kg_istore_n dX9_check_18 rfl (Nat.le_of_ble_eq_true rfl) rfl (lv2 := [(2, .int (0 : Int32)), (0, .ref 0), (1, .int a1)]) rfl (pc2 := 19) rfl ?_
    refine kg_sub [1, 2, 0] (lv2 := [(0, .ref 0), (1, .int a1), (2, .int (0 : Int32))]) rfl ?_
    obtain ⟨x8, x8h, h⟩ := kw_bind_e h
    refine kw_loop_e (P := fun s => kw_G E kwTX 47 (d + 2) μX9_check 19 [(0, .ref 0), (1, .int a1), (2, .int s)] [] σ (some (Value.int r.1)) r.2) (K := fun y => kw_G E kwTX 47 (d + 2) μX9_check 47 [(0, .ref 0), (1, .int a1), (2, .int y)] [] σ (some (Value.int r.1)) r.2) (fun s o h0 hk => lX9_check_19 a1 σ s h0 hk) kw_F _ _ x8h ?_
    show kw_G E kwTX 47 (d + 2) μX9_check 47 [(0, .ref 0), (1, .int a1), (2, .int x8)] [] σ (some (Value.int r.1)) r.2
    exact gjX9_check_47 a1 x8 σ h
  · replace h := (if_pos q2).symm.trans h
    refine kg_bipush dX9_check_14 kb_m2 (pc2 := 16) rfl ?_
    cases h
    exact kg_iret (ty := .int) dX9_check_16 rfl rfl
