/-! The class, method by method: what it computes (f), and that the machine does so (g). -/
def jX1_hasTwinBefore_50_L10 (v1 : Int32) (v3 : Int32) (t0 : Int32) (σ : kw_M) : Option ((Int32) ⊕ ((Int32) ⊕ (Unit))) :=
 if t0 = (0 : Int32) then
 (kw_let (v3 + (1 : Int32)) fun x6 =>
 some (.inl x6))
 else
 kw_chk (kw_in v3 36) <|
 kw_chk (kw_in v1 36) <|
 if (σ.1 20 v3.toNatClampNeg) = (σ.1 20 v1.toNatClampNeg) then
 ((fX4_isOpen 12 v3 σ).bind fun r11 =>
 if r11 = (0 : Int32) then
 (kw_let (v3 + (1 : Int32)) fun x13 =>
 some (.inl x13))
 else
 some (.inr (.inl (1 : Int32))))
 else
 kw_let (v3 + (1 : Int32)) fun x10 =>
 some (.inl x10)
set_option maxHeartbeats 4000000 in
set_option maxRecDepth 100000 in
theorem gjX1_hasTwinBefore_50_L10 {E : kw_E} {d : Nat} (v1 : Int32) (v3 : Int32) (t0 : Int32) (σ : kw_M) {v : Option Value} {σ2 : kw_M} {o : (Int32) ⊕ ((Int32) ⊕ (Unit))} (h : jX1_hasTwinBefore_50_L10 v1 v3 t0 σ = some o) (hk : Sum.elim (fun s => kw_G E kwTX 47 (d + 1) μX1_hasTwinBefore 10 [(1, .int v1), (2, .ref 12), (3, .int s)] [] σ v σ2) (Sum.elim (fun rr => v = some (Value.int rr) ∧ σ2 = σ) (fun y => kw_G E kwTX 47 (d + 1) μX1_hasTwinBefore 88 [] [] σ v σ2)) o) : kw_G E kwTX 47 (d + 1) μX1_hasTwinBefore 50 [(1, .int v1), (2, .ref 12), (3, .int v3)] [.int t0] σ v σ2 := by
  unfold jX1_hasTwinBefore_50_L10 at h
  refine kg_istore dX1_hasTwinBefore_50 (Nat.le_of_ble_eq_true rfl) rfl (lv2 := [(4, .int t0), (1, .int v1), (2, .ref 12), (3, .int v3)]) rfl (pc2 := 52) rfl ?_
  refine kg_iload 0 dX1_hasTwinBefore_52 rfl (pc2 := 54) rfl ?_
  refine kg_if_eq 82 dX1_hasTwinBefore_54 rfl (pc2 := 57) rfl (fun q5 => ?_) (fun q5 => ?_)
  · replace h := (if_pos q5).symm.trans h
    obtain ⟨x6, x6e, h⟩ := kw_let_e h
    refine kg_iinc 3 dX1_hasTwinBefore_82 rfl (Nat.le_of_ble_eq_true rfl) x6e (lv2 := [(3, .int x6), (4, .int t0), (1, .int v1), (2, .ref 12)]) rfl (pc2 := 85) rfl ?_
    refine kg_goto 10 dX1_hasTwinBefore_85 rfl ?_
    refine kg_sub [2, 3, 0] (lv2 := [(1, .int v1), (2, .ref 12), (3, .int x6)]) rfl ?_
    cases h
    exact hk
  · replace h := (if_neg q5).symm.trans h
    refine kg_aload_n 2 dX1_hasTwinBefore_57 rfl (pc2 := 58) rfl ?_
    refine kg_getr clX4 rfl 5 (Nat.le_of_ble_eq_true rfl) lfRX1_75 tX_12 eX_12 rfl dX1_hasTwinBefore_58 (pc2 := 61) rfl ?_
    refine kg_iload_n 3 dX1_hasTwinBefore_61 rfl (pc2 := 62) rfl ?_
    obtain ⟨q7, h⟩ := kw_chk_e h
    refine kg_iald tX_20 eX_20 q7 (j := v3.toNatClampNeg) rfl dX1_hasTwinBefore_62 (pc2 := 63) rfl ?_
    refine kg_aload_n 2 dX1_hasTwinBefore_63 rfl (pc2 := 64) rfl ?_
    refine kg_getr clX4 rfl 5 (Nat.le_of_ble_eq_true rfl) lfRX1_75 tX_12 eX_12 rfl dX1_hasTwinBefore_64 (pc2 := 67) rfl ?_
    refine kg_iload_n 1 dX1_hasTwinBefore_67 rfl (pc2 := 68) rfl ?_
    obtain ⟨q8, h⟩ := kw_chk_e h
    refine kg_iald tX_20 eX_20 q8 (j := v1.toNatClampNeg) rfl dX1_hasTwinBefore_68 (pc2 := 69) rfl ?_
    refine kg_icmp_ne 82 dX1_hasTwinBefore_69 rfl (pc2 := 72) rfl (fun q9 => ?_) (fun q9 => ?_)
    · replace h := (if_neg q9).symm.trans h
      obtain ⟨x10, x10e, h⟩ := kw_let_e h
      refine kg_iinc 3 dX1_hasTwinBefore_82 rfl (Nat.le_of_ble_eq_true rfl) x10e (lv2 := [(3, .int x10), (4, .int t0), (1, .int v1), (2, .ref 12)]) rfl (pc2 := 85) rfl ?_
      refine kg_goto 10 dX1_hasTwinBefore_85 rfl ?_
      refine kg_sub [2, 3, 0] (lv2 := [(1, .int v1), (2, .ref 12), (3, .int x10)]) rfl ?_
      cases h
      exact hk
    · replace h := (if_pos q9).symm.trans h
      refine kg_aload_n 2 dX1_hasTwinBefore_72 rfl (pc2 := 73) rfl ?_
      refine kg_iload_n 3 dX1_hasTwinBefore_73 rfl (pc2 := 74) rfl ?_
      obtain ⟨r11, r11h, h⟩ := kw_bind_e h
      refine kg_callV (μ := μX1_hasTwinBefore) (d := d) rfl mVX4_isOpen [.int v3] [] (gX4_isOpen (E := E) (d := d) 12 kx_4_12 v3 σ r11h) rfl lmRX1_61 (ci := 4) rfl tX_12 eX_12 rfl (Nat.le_of_ble_eq_true rfl) dX1_hasTwinBefore_74 rfl (st2 := [.int r11]) rfl (pc2 := 77) rfl ?_
      refine kg_if_eq 82 dX1_hasTwinBefore_77 rfl (pc2 := 80) rfl (fun q12 => ?_) (fun q12 => ?_)
      · replace h := (if_pos q12).symm.trans h
        obtain ⟨x13, x13e, h⟩ := kw_let_e h
        refine kg_iinc 3 dX1_hasTwinBefore_82 rfl (Nat.le_of_ble_eq_true rfl) x13e (lv2 := [(3, .int x13), (4, .int t0), (1, .int v1), (2, .ref 12)]) rfl (pc2 := 85) rfl ?_
        refine kg_goto 10 dX1_hasTwinBefore_85 rfl ?_
        refine kg_sub [2, 3, 0] (lv2 := [(1, .int v1), (2, .ref 12), (3, .int x13)]) rfl ?_
        cases h
        exact hk
      · replace h := (if_neg q12).symm.trans h
        refine kg_iconst dX1_hasTwinBefore_80 ki_1 (pc2 := 81) rfl ?_
        cases h
        obtain ⟨rfl, rfl⟩ := hk
        exact kg_iret (ty := .boolean) dX1_hasTwinBefore_81 rfl rfl
def jX1_hasTwinBefore_49_L10 (v1 : Int32) (v3 : Int32) (σ : kw_M) : Option ((Int32) ⊕ ((Int32) ⊕ (Unit))) :=
 jX1_hasTwinBefore_50_L10 v1 v3 (0 : Int32) σ
set_option maxHeartbeats 4000000 in
set_option maxRecDepth 100000 in
theorem gjX1_hasTwinBefore_49_L10 {E : kw_E} {d : Nat} (v1 : Int32) (v3 : Int32) (σ : kw_M) {v : Option Value} {σ2 : kw_M} {o : (Int32) ⊕ ((Int32) ⊕ (Unit))} (h : jX1_hasTwinBefore_49_L10 v1 v3 σ = some o) (hk : Sum.elim (fun s => kw_G E kwTX 47 (d + 1) μX1_hasTwinBefore 10 [(1, .int v1), (2, .ref 12), (3, .int s)] [] σ v σ2) (Sum.elim (fun rr => v = some (Value.int rr) ∧ σ2 = σ) (fun y => kw_G E kwTX 47 (d + 1) μX1_hasTwinBefore 88 [] [] σ v σ2)) o) : kw_G E kwTX 47 (d + 1) μX1_hasTwinBefore 49 [(1, .int v1), (2, .ref 12), (3, .int v3)] [] σ v σ2 := by
  unfold jX1_hasTwinBefore_49_L10 at h
  refine kg_iconst dX1_hasTwinBefore_49 ki_0 (pc2 := 50) rfl ?_
  exact gjX1_hasTwinBefore_50_L10 v1 v3 (0 : Int32) σ h hk
def bX1_hasTwinBefore_10 (v1 : Int32) (σ : kw_M) (v3 : Int32) : Option ((Int32) ⊕ ((Int32) ⊕ (Unit))) :=
 if v1 ≤ v3 then
 (some (.inr (.inr ())))
 else
 kw_chk (kw_in v3 36) <|
 kw_chk (kw_in v1 36) <|
 if (σ.1 18 v3.toNatClampNeg) = (σ.1 18 v1.toNatClampNeg) then
 (if (σ.1 19 v3.toNatClampNeg) = (σ.1 19 v1.toNatClampNeg) then
 (jX1_hasTwinBefore_50_L10 v1 v3 (1 : Int32) σ)
 else
 jX1_hasTwinBefore_49_L10 v1 v3 σ)
 else
 jX1_hasTwinBefore_49_L10 v1 v3 σ
set_option maxHeartbeats 4000000 in
set_option maxRecDepth 100000 in
theorem lX1_hasTwinBefore_10 {E : kw_E} {d : Nat} (v1 : Int32) (σ : kw_M) (v3 : Int32) {v : Option Value} {σ2 : kw_M} {o : (Int32) ⊕ ((Int32) ⊕ (Unit))} (h : bX1_hasTwinBefore_10 v1 σ v3 = some o) (hk : Sum.elim (fun s => kw_G E kwTX 47 (d + 1) μX1_hasTwinBefore 10 [(1, .int v1), (2, .ref 12), (3, .int s)] [] σ v σ2) (Sum.elim (fun rr => v = some (Value.int rr) ∧ σ2 = σ) (fun y => kw_G E kwTX 47 (d + 1) μX1_hasTwinBefore 88 [] [] σ v σ2)) o) : kw_G E kwTX 47 (d + 1) μX1_hasTwinBefore 10 [(1, .int v1), (2, .ref 12), (3, .int v3)] [] σ v σ2 := by
  unfold bX1_hasTwinBefore_10 at h
  refine kg_iload_n 2 dX1_hasTwinBefore_10 rfl (pc2 := 11) rfl ?_
  refine kg_iload_n 0 dX1_hasTwinBefore_11 rfl (pc2 := 12) rfl ?_
  refine kg_icmp_ge 88 dX1_hasTwinBefore_12 rfl (pc2 := 15) rfl (fun q1 => ?_) (fun q1 => ?_)
  · replace h := (if_pos q1).symm.trans h
    refine kg_sub [] (lv2 := []) rfl ?_
    cases h
    exact hk
  · replace h := (if_neg q1).symm.trans h
    refine kg_aload_n 1 dX1_hasTwinBefore_15 rfl (pc2 := 16) rfl ?_
    refine kg_getr clX4 rfl 3 (Nat.le_of_ble_eq_true rfl) lfRX1_68 tX_12 eX_12 rfl dX1_hasTwinBefore_16 (pc2 := 19) rfl ?_
    refine kg_iload_n 2 dX1_hasTwinBefore_19 rfl (pc2 := 20) rfl ?_
    obtain ⟨q2, h⟩ := kw_chk_e h
    refine kg_iald tX_18 eX_18 q2 (j := v3.toNatClampNeg) rfl dX1_hasTwinBefore_20 (pc2 := 21) rfl ?_
    refine kg_aload_n 1 dX1_hasTwinBefore_21 rfl (pc2 := 22) rfl ?_
    refine kg_getr clX4 rfl 3 (Nat.le_of_ble_eq_true rfl) lfRX1_68 tX_12 eX_12 rfl dX1_hasTwinBefore_22 (pc2 := 25) rfl ?_
    refine kg_iload_n 0 dX1_hasTwinBefore_25 rfl (pc2 := 26) rfl ?_
    obtain ⟨q3, h⟩ := kw_chk_e h
    refine kg_iald tX_18 eX_18 q3 (j := v1.toNatClampNeg) rfl dX1_hasTwinBefore_26 (pc2 := 27) rfl ?_
    refine kg_icmp_ne 49 dX1_hasTwinBefore_27 rfl (pc2 := 30) rfl (fun q4 => ?_) (fun q4 => ?_)
    · replace h := (if_neg q4).symm.trans h
      exact gjX1_hasTwinBefore_49_L10 v1 v3 σ h hk
    · replace h := (if_pos q4).symm.trans h
      refine kg_aload_n 1 dX1_hasTwinBefore_30 rfl (pc2 := 31) rfl ?_
      refine kg_getr clX4 rfl 4 (Nat.le_of_ble_eq_true rfl) lfRX1_72 tX_12 eX_12 rfl dX1_hasTwinBefore_31 (pc2 := 34) rfl ?_
      refine kg_iload_n 2 dX1_hasTwinBefore_34 rfl (pc2 := 35) rfl ?_
      refine kg_iald tX_19 eX_19 q2 (j := v3.toNatClampNeg) rfl dX1_hasTwinBefore_35 (pc2 := 36) rfl ?_
      refine kg_aload_n 1 dX1_hasTwinBefore_36 rfl (pc2 := 37) rfl ?_
      refine kg_getr clX4 rfl 4 (Nat.le_of_ble_eq_true rfl) lfRX1_72 tX_12 eX_12 rfl dX1_hasTwinBefore_37 (pc2 := 40) rfl ?_
      refine kg_iload_n 0 dX1_hasTwinBefore_40 rfl (pc2 := 41) rfl ?_
      refine kg_iald tX_19 eX_19 q3 (j := v1.toNatClampNeg) rfl dX1_hasTwinBefore_41 (pc2 := 42) rfl ?_
      refine kg_icmp_ne 49 dX1_hasTwinBefore_42 rfl (pc2 := 45) rfl (fun q14 => ?_) (fun q14 => ?_)
      · replace h := (if_neg q14).symm.trans h
        exact gjX1_hasTwinBefore_49_L10 v1 v3 σ h hk
      · replace h := (if_pos q14).symm.trans h
        refine kg_iconst dX1_hasTwinBefore_45 ki_1 (pc2 := 46) rfl ?_
        refine kg_goto 50 dX1_hasTwinBefore_46 rfl ?_
        exact gjX1_hasTwinBefore_50_L10 v1 v3 (1 : Int32) σ h hk
def fX1_hasTwinBefore (a1 : Int32) (σ : kw_M) : Option (Int32) :=
 (kw_loop (fun s => bX1_hasTwinBefore_10 a1 σ s) kw_F (0 : Int32)).bind fun x15 =>
 Sum.elim (fun x15r => some x15r) (fun x15 =>
 some (0 : Int32)) x15
set_option maxHeartbeats 4000000 in
set_option maxRecDepth 100000 in
theorem gX1_hasTwinBefore {E : kw_E} {d : Nat} (a1 : Int32) (σ : kw_M) {r : Int32} (h : fX1_hasTwinBefore a1 σ = some r) : kw_Met E kwTX 47 (d + 1) μX1_hasTwinBefore [.ref 7, .int a1] σ (some (Value.int r)) σ := by
  refine kw_enter plRX1 (Nat.le_of_ble_eq_true rfl) ?_
  show kw_G E kwTX 47 (d + 1) μX1_hasTwinBefore 0 [(0, .ref 7), (1, .int a1)] [] σ (some (Value.int r)) σ
  unfold fX1_hasTwinBefore at h
  refine kg_aload_n 0 dX1_hasTwinBefore_0 rfl (pc2 := 1) rfl ?_
  refine kg_getr clX1 rfl 0 (Nat.le_of_ble_eq_true rfl) lfRX1_9 tX_7 eX_7 rfl dX1_hasTwinBefore_1 (pc2 := 4) rfl ?_
  refine kg_getr clX7 rfl 0 (Nat.le_of_ble_eq_true rfl) lfRX1_52 tX_1 eX_1 rfl dX1_hasTwinBefore_4 (pc2 := 7) rfl ?_
  refine kg_astore_n dX1_hasTwinBefore_7 rfl (Nat.le_of_ble_eq_true rfl) rfl (lv2 := [(2, .ref 12), (0, .ref 7), (1, .int a1)]) rfl (pc2 := 8) rfl ?_
  refine kg_iconst dX1_hasTwinBefore_8 ki_0 (pc2 := 9) rfl ?_
  refine kg_istore_n dX1_hasTwinBefore_9 rfl (Nat.le_of_ble_eq_true rfl) rfl (lv2 := [(3, .int (0 : Int32)), (2, .ref 12), (0, .ref 7), (1, .int a1)]) rfl (pc2 := 10) rfl ?_
  refine kg_sub [3, 1, 0] (lv2 := [(1, .int a1), (2, .ref 12), (3, .int (0 : Int32))]) rfl ?_
  obtain ⟨x15, x15h, h⟩ := kw_bind_e h
  refine kw_loop_e (P := fun s => kw_G E kwTX 47 (d + 1) μX1_hasTwinBefore 10 [(1, .int a1), (2, .ref 12), (3, .int s)] [] σ (some (Value.int r)) σ) (K := Sum.elim (fun rr => (some (Value.int r)) = some (Value.int rr) ∧ σ = σ) (fun y => kw_G E kwTX 47 (d + 1) μX1_hasTwinBefore 88 [] [] σ (some (Value.int r)) σ)) (fun s o h0 hk => lX1_hasTwinBefore_10 a1 σ s h0 hk) kw_F _ _ x15h ?_
  rcases x15 with x15r | x15
  · replace h := kw_se_l h
    cases h
    exact ⟨rfl, rfl⟩
  · replace h := kw_se_r h
    show kw_G E kwTX 47 (d + 1) μX1_hasTwinBefore 88 [] [] σ (some (Value.int r)) σ
    refine kg_iconst dX1_hasTwinBefore_88 ki_0 (pc2 := 89) rfl ?_
    cases h
    exact kg_iret (ty := .boolean) dX1_hasTwinBefore_89 rfl rfl
def bX1_findUseful_7 (v1 : Int32) (σ : kw_M) : Option ((Int32 × kw_M) ⊕ (kw_M)) :=
 if (σ.1 12 1) ≤ v1 then
 (some (.inr σ))
 else
 (fX4_isOpen 12 v1 σ).bind fun r3 =>
 if r3 = (0 : Int32) then
 (kw_let (v1 + (1 : Int32)) fun x5 =>
 some (.inl (x5, σ)))
 else
 (fX1_hasTwinBefore v1 σ).bind fun r6 =>
 if r6 = (0 : Int32) then
 (kw_let (kw_sl σ 7 4 ((σ.2 7 4) ||| ((1 : Int64) <<< (v1.toInt64 &&& 63)))) fun s9 =>
 kw_let (v1 + (1 : Int32)) fun x10 =>
 some (.inl (x10, s9)))
 else
 kw_let (v1 + (1 : Int32)) fun x8 =>
 some (.inl (x8, σ))
set_option maxHeartbeats 4000000 in
set_option maxRecDepth 100000 in
theorem lX1_findUseful_7 {E : kw_E} {d : Nat} (v1 : Int32) (σ : kw_M) {v : Option Value} {σ2 : kw_M} {o : (Int32 × kw_M) ⊕ (kw_M)} (h : bX1_findUseful_7 v1 σ = some o) (hk : Sum.elim (fun s => kw_G E kwTX 47 (d + 2) μX1_findUseful 7 [(0, .ref 7), (1, .int s.1)] [] s.2 v σ2) (fun y => kw_G E kwTX 47 (d + 2) μX1_findUseful 61 [] [] y v σ2) o) : kw_G E kwTX 47 (d + 2) μX1_findUseful 7 [(0, .ref 7), (1, .int v1)] [] σ v σ2 := by
  unfold bX1_findUseful_7 at h
  refine kg_iload_n 1 dX1_findUseful_7 rfl (pc2 := 8) rfl ?_
  refine kg_aload_n 0 dX1_findUseful_8 rfl (pc2 := 9) rfl ?_
  refine kg_getr clX1 rfl 0 (Nat.le_of_ble_eq_true rfl) lfRX1_9 tX_7 eX_7 rfl dX1_findUseful_9 (pc2 := 12) rfl ?_
  refine kg_getr clX7 rfl 0 (Nat.le_of_ble_eq_true rfl) lfRX1_52 tX_1 eX_1 rfl dX1_findUseful_12 (pc2 := 15) rfl ?_
  refine kg_geti clX4 rfl 1 (Nat.le_of_ble_eq_true rfl) lfRX1_56 tX_12 eX_12 rfl dX1_findUseful_15 (pc2 := 18) rfl ?_
  refine kg_icmp_ge 61 dX1_findUseful_18 rfl (pc2 := 21) rfl (fun q2 => ?_) (fun q2 => ?_)
  · replace h := (if_pos q2).symm.trans h
    refine kg_sub [] (lv2 := []) rfl ?_
    cases h
    exact hk
  · replace h := (if_neg q2).symm.trans h
    refine kg_aload_n 0 dX1_findUseful_21 rfl (pc2 := 22) rfl ?_
    refine kg_getr clX1 rfl 0 (Nat.le_of_ble_eq_true rfl) lfRX1_9 tX_7 eX_7 rfl dX1_findUseful_22 (pc2 := 25) rfl ?_
    refine kg_getr clX7 rfl 0 (Nat.le_of_ble_eq_true rfl) lfRX1_52 tX_1 eX_1 rfl dX1_findUseful_25 (pc2 := 28) rfl ?_
    refine kg_iload_n 1 dX1_findUseful_28 rfl (pc2 := 29) rfl ?_
    obtain ⟨r3, r3h, h⟩ := kw_bind_e h
    refine kg_callV (μ := μX1_findUseful) (d := (d + 1)) rfl mVX4_isOpen [.int v1] [] (gX4_isOpen (E := E) (d := (d + 1)) 12 kx_4_12 v1 σ r3h) rfl lmRX1_61 (ci := 4) rfl tX_12 eX_12 rfl (Nat.le_of_ble_eq_true rfl) dX1_findUseful_29 rfl (st2 := [.int r3]) rfl (pc2 := 32) rfl ?_
    refine kg_if_eq 55 dX1_findUseful_32 rfl (pc2 := 35) rfl (fun q4 => ?_) (fun q4 => ?_)
    · replace h := (if_pos q4).symm.trans h
      obtain ⟨x5, x5e, h⟩ := kw_let_e h
      refine kg_iinc 1 dX1_findUseful_55 rfl (Nat.le_of_ble_eq_true rfl) x5e (lv2 := [(1, .int x5), (0, .ref 7)]) rfl (pc2 := 58) rfl ?_
      refine kg_goto 7 dX1_findUseful_58 rfl ?_
      refine kg_sub [1, 0] (lv2 := [(0, .ref 7), (1, .int x5)]) rfl ?_
      cases h
      exact hk
    · replace h := (if_neg q4).symm.trans h
      refine kg_aload_n 0 dX1_findUseful_35 rfl (pc2 := 36) rfl ?_
      refine kg_iload_n 1 dX1_findUseful_36 rfl (pc2 := 37) rfl ?_
      obtain ⟨r6, r6h, h⟩ := kw_bind_e h
      refine kg_callV (μ := μX1_findUseful) (d := (d + 1)) rfl mVX1_hasTwinBefore [.int v1] [] (gX1_hasTwinBefore (E := E) (d := d) v1 σ r6h) rfl lmRX1_65 (ci := 1) rfl tX_7 eX_7 rfl (Nat.le_of_ble_eq_true rfl) dX1_findUseful_37 rfl (st2 := [.int r6]) rfl (pc2 := 40) rfl ?_
      refine kg_if_ne 55 dX1_findUseful_40 rfl (pc2 := 43) rfl (fun q7 => ?_) (fun q7 => ?_)
      · replace h := (if_neg q7).symm.trans h
        obtain ⟨x8, x8e, h⟩ := kw_let_e h
        refine kg_iinc 1 dX1_findUseful_55 rfl (Nat.le_of_ble_eq_true rfl) x8e (lv2 := [(1, .int x8), (0, .ref 7)]) rfl (pc2 := 58) rfl ?_
        refine kg_goto 7 dX1_findUseful_58 rfl ?_
        refine kg_sub [1, 0] (lv2 := [(0, .ref 7), (1, .int x8)]) rfl ?_
        cases h
        exact hk
      · replace h := (if_pos q7).symm.trans h
        refine kg_aload_n 0 dX1_findUseful_43 rfl (pc2 := 44) rfl ?_
        refine kg_dup dX1_findUseful_44 rfl (pc2 := 45) rfl ?_
        refine kg_getl clX1 rfl 4 (Nat.le_of_ble_eq_true rfl) lfRX1_49 tX_7 eX_7 rfl dX1_findUseful_45 (pc2 := 48) rfl ?_
        refine kg_lconst dX1_findUseful_48 kl_1 (pc2 := 49) rfl ?_
        refine kg_iload_n 1 dX1_findUseful_49 rfl (pc2 := 50) rfl ?_
        refine kg_lshl dX1_findUseful_50 (pc2 := 51) rfl ?_
        refine kg_lor dX1_findUseful_51 (pc2 := 52) rfl ?_
        obtain ⟨s9, s9e, h⟩ := kw_let_e h
        refine kg_putl clX1 rfl 4 (Nat.le_of_ble_eq_true rfl) lfRX1_49 rfl tX_7 eX_7 rfl (ty := .long) (by decide +kernel) rfl rfl s9e dX1_findUseful_52 (pc2 := 55) rfl ?_
        obtain ⟨x10, x10e, h⟩ := kw_let_e h
        refine kg_iinc 1 dX1_findUseful_55 rfl (Nat.le_of_ble_eq_true rfl) x10e (lv2 := [(1, .int x10), (0, .ref 7)]) rfl (pc2 := 58) rfl ?_
        refine kg_goto 7 dX1_findUseful_58 rfl ?_
        refine kg_sub [1, 0] (lv2 := [(0, .ref 7), (1, .int x10)]) rfl ?_
        cases h
        exact hk
def fX1_findUseful (σ : kw_M) : Option (kw_M) :=
 kw_let (kw_sl σ 7 4 (0 : Int64)) fun s1 =>
 (kw_loop (fun s => bX1_findUseful_7 s.1 s.2) kw_F ((0 : Int32), s1)).bind fun x11 =>
 some x11
set_option maxHeartbeats 4000000 in
set_option maxRecDepth 100000 in
theorem gX1_findUseful {E : kw_E} {d : Nat} (σ : kw_M) {r : kw_M} (h : fX1_findUseful σ = some r) : kw_Met E kwTX 47 (d + 2) μX1_findUseful [.ref 7] σ none r := by
  refine kw_enter plRX1 (Nat.le_of_ble_eq_true rfl) ?_
  show kw_G E kwTX 47 (d + 2) μX1_findUseful 0 [(0, .ref 7)] [] σ none r
  unfold fX1_findUseful at h
  refine kg_aload_n 0 dX1_findUseful_0 rfl (pc2 := 1) rfl ?_
  refine kg_lconst dX1_findUseful_1 kl_0 (pc2 := 2) rfl ?_
  obtain ⟨s1, s1e, h⟩ := kw_let_e h
  refine kg_putl clX1 rfl 4 (Nat.le_of_ble_eq_true rfl) lfRX1_49 rfl tX_7 eX_7 rfl (ty := .long) (by decide +kernel) rfl rfl s1e dX1_findUseful_2 (pc2 := 5) rfl ?_
  refine kg_iconst dX1_findUseful_5 ki_0 (pc2 := 6) rfl ?_
  refine kg_istore_n dX1_findUseful_6 rfl (Nat.le_of_ble_eq_true rfl) rfl (lv2 := [(1, .int (0 : Int32)), (0, .ref 7)]) rfl (pc2 := 7) rfl ?_
  refine kg_sub [1, 0] (lv2 := [(0, .ref 7), (1, .int (0 : Int32))]) rfl ?_
  obtain ⟨x11, x11h, h⟩ := kw_bind_e h
  refine kw_loop_e (P := fun s => kw_G E kwTX 47 (d + 2) μX1_findUseful 7 [(0, .ref 7), (1, .int s.1)] [] s.2 none r) (K := fun y => kw_G E kwTX 47 (d + 2) μX1_findUseful 61 [] [] y none r) (fun s o h0 hk => lX1_findUseful_7 s.1 s.2 h0 hk) kw_F _ _ x11h ?_
  show kw_G E kwTX 47 (d + 2) μX1_findUseful 61 [] [] x11 none r
  cases h
  exact kg_vret dX1_findUseful_61 rfl
def fX1_mayHelp (a1 : Int32) (a2 : Int64) (σ : kw_M) : Option (Int32) :=
 (fX2_span a1 (σ.1 7 2) σ).bind fun r1 =>
 if r1 = (-9000000000000000000 : Int64) then
 (some (0 : Int32))
 else
 kw_chk (kw_in a1 12) <|
 kw_chk (kw_in (σ.1 7 2) 12) <|
 (fX9_isLess (((a2 + (σ.2 16 a1.toNatClampNeg)) + r1) - (σ.2 16 (σ.1 7 2).toNatClampNeg)) (σ.2 7 3) σ).bind fun r5 =>
 if r5 = (0 : Int32) then
 (some (0 : Int32))
 else
 some (1 : Int32)
set_option maxHeartbeats 4000000 in
set_option maxRecDepth 100000 in
theorem gX1_mayHelp {E : kw_E} {d : Nat} (a1 : Int32) (a2 : Int64) (σ : kw_M) {r : Int32} (h : fX1_mayHelp a1 a2 σ = some r) : kw_Met E kwTX 47 (d + 1) μX1_mayHelp [.ref 7, .int a1, .long a2] σ (some (Value.int r)) σ := by
  refine kw_enter plRX1 (Nat.le_of_ble_eq_true rfl) ?_
  show kw_G E kwTX 47 (d + 1) μX1_mayHelp 0 [(0, .ref 7), (1, .int a1), (2, .long a2)] [] σ (some (Value.int r)) σ
  unfold fX1_mayHelp at h
  refine kg_aload_n 0 dX1_mayHelp_0 rfl (pc2 := 1) rfl ?_
  refine kg_getr clX1 rfl 1 (Nat.le_of_ble_eq_true rfl) lfRX1_15 tX_7 eX_7 rfl dX1_mayHelp_1 (pc2 := 4) rfl ?_
  refine kg_iload_n 1 dX1_mayHelp_4 rfl (pc2 := 5) rfl ?_
  refine kg_aload_n 0 dX1_mayHelp_5 rfl (pc2 := 6) rfl ?_
  refine kg_geti clX1 rfl 2 (Nat.le_of_ble_eq_true rfl) lfRX1_19 tX_7 eX_7 rfl dX1_mayHelp_6 (pc2 := 9) rfl ?_
  obtain ⟨r1, r1h, h⟩ := kw_bind_e h
  refine kg_callV (μ := μX1_mayHelp) (d := d) rfl mVX2_span [.int a1, .int (σ.1 7 2)] [] (gX2_span (E := E) (d := d) a1 (σ.1 7 2) σ r1h) rfl lmRX1_90 (ci := 2) rfl tX_5 eX_5 rfl (Nat.le_of_ble_eq_true rfl) dX1_mayHelp_9 rfl (st2 := [.long r1]) rfl (pc2 := 12) rfl ?_
  refine kg_lstore dX1_mayHelp_12 (Nat.le_of_ble_eq_true rfl) rfl (lv2 := [(4, .long r1), (0, .ref 7), (1, .int a1), (2, .long a2)]) rfl (pc2 := 14) rfl ?_
  refine kg_lload 0 dX1_mayHelp_14 rfl (pc2 := 16) rfl ?_
  refine kg_ldc2 rfl lcRX1_23 dX1_mayHelp_16 (pc2 := 19) rfl ?_
  refine kg_lcmp_eq 64 dX1_mayHelp_19 dX1_mayHelp_20 rfl (pc2 := 23) rfl (fun q2 => ?_) (fun q2 => ?_)
  · replace h := (if_pos q2).symm.trans h
    refine kg_iconst dX1_mayHelp_64 ki_0 (pc2 := 65) rfl ?_
    cases h
    exact kg_iret (ty := .boolean) dX1_mayHelp_65 rfl rfl
  · replace h := (if_neg q2).symm.trans h
    refine kg_lload_n 3 dX1_mayHelp_23 rfl (pc2 := 24) rfl ?_
    refine kg_aload_n 1 dX1_mayHelp_24 rfl (pc2 := 25) rfl ?_
    refine kg_getr clX1 rfl 0 (Nat.le_of_ble_eq_true rfl) lfRX1_9 tX_7 eX_7 rfl dX1_mayHelp_25 (pc2 := 28) rfl ?_
    refine kg_getr clX7 rfl 9 (Nat.le_of_ble_eq_true rfl) lfRX1_41 tX_1 eX_1 rfl dX1_mayHelp_28 (pc2 := 31) rfl ?_
    refine kg_iload_n 2 dX1_mayHelp_31 rfl (pc2 := 32) rfl ?_
    obtain ⟨q3, h⟩ := kw_chk_e h
    refine kg_lald tX_16 eX_16 q3 (j := a1.toNatClampNeg) rfl dX1_mayHelp_32 (pc2 := 33) rfl ?_
    refine kg_ladd dX1_mayHelp_33 (pc2 := 34) rfl ?_
    refine kg_lload 0 dX1_mayHelp_34 rfl (pc2 := 36) rfl ?_
    refine kg_ladd dX1_mayHelp_36 (pc2 := 37) rfl ?_
    refine kg_aload_n 1 dX1_mayHelp_37 rfl (pc2 := 38) rfl ?_
    refine kg_getr clX1 rfl 0 (Nat.le_of_ble_eq_true rfl) lfRX1_9 tX_7 eX_7 rfl dX1_mayHelp_38 (pc2 := 41) rfl ?_
    refine kg_getr clX7 rfl 9 (Nat.le_of_ble_eq_true rfl) lfRX1_41 tX_1 eX_1 rfl dX1_mayHelp_41 (pc2 := 44) rfl ?_
    refine kg_aload_n 1 dX1_mayHelp_44 rfl (pc2 := 45) rfl ?_
    refine kg_geti clX1 rfl 2 (Nat.le_of_ble_eq_true rfl) lfRX1_19 tX_7 eX_7 rfl dX1_mayHelp_45 (pc2 := 48) rfl ?_
    obtain ⟨q4, h⟩ := kw_chk_e h
    refine kg_lald tX_16 eX_16 q4 (j := (σ.1 7 2).toNatClampNeg) rfl dX1_mayHelp_48 (pc2 := 49) rfl ?_
    refine kg_lsub dX1_mayHelp_49 (pc2 := 50) rfl ?_
    refine kg_aload_n 1 dX1_mayHelp_50 rfl (pc2 := 51) rfl ?_
    refine kg_getl clX1 rfl 3 (Nat.le_of_ble_eq_true rfl) lfRX1_25 tX_7 eX_7 rfl dX1_mayHelp_51 (pc2 := 54) rfl ?_
    obtain ⟨r5, r5h, h⟩ := kw_bind_e h
    refine kg_callN (μ := μX1_mayHelp) (d := d) rfl mSX9_isLess [.long (((a2 + (σ.2 16 a1.toNatClampNeg)) + r1) - (σ.2 16 (σ.1 7 2).toNatClampNeg)), .long (σ.2 7 3)] [] (gX9_isLess (E := E) (d := d) (((a2 + (σ.2 16 a1.toNatClampNeg)) + r1) - (σ.2 16 (σ.1 7 2).toNatClampNeg)) (σ.2 7 3) σ r5h) rfl lnRX1_78 rfl (Nat.le_of_ble_eq_true rfl) dX1_mayHelp_54 rfl (st2 := [.int r5]) rfl (pc2 := 57) rfl ?_
    refine kg_if_eq 64 dX1_mayHelp_57 rfl (pc2 := 60) rfl (fun q6 => ?_) (fun q6 => ?_)
    · replace h := (if_pos q6).symm.trans h
      refine kg_iconst dX1_mayHelp_64 ki_0 (pc2 := 65) rfl ?_
      cases h
      exact kg_iret (ty := .boolean) dX1_mayHelp_65 rfl rfl
    · replace h := (if_neg q6).symm.trans h
      refine kg_iconst dX1_mayHelp_60 ki_1 (pc2 := 61) rfl ?_
      refine kg_goto 65 dX1_mayHelp_61 rfl ?_
      cases h
      exact kg_iret (ty := .boolean) dX1_mayHelp_65 rfl rfl
def jX1_dive_97_L51 (rec : Int32 → Int32 → Int64 → Int32 → kw_M → Option kw_M) (v1 : Int32) (v2 : Int32) (v3 : Int64) (v5 : Int32) (v7 : Int32) (v8 : Int32) (t0 : Int32) (σ : kw_M) : Option ((Int32 × kw_M) ⊕ (kw_M)) :=
 if t0 = (0 : Int32) then
 (kw_let (v7 + (1 : Int32)) fun x8 =>
 some (.inl (x8, σ)))
 else
 if (((σ.2 7 4) >>> (v7.toInt64 &&& 63)) &&& (1 : Int64)) = (0 : Int64) then
 (kw_let (v7 + (1 : Int32)) fun x10 =>
 some (.inl (x10, σ)))
 else
 (fX7_slackOf v7 σ).bind fun r11 =>
 (fX1_mayHelp v8 (v3 + r11) σ).bind fun r12 =>
 if r12 = (0 : Int32) then
 (kw_let (v7 + (1 : Int32)) fun x14 =>
 some (.inl (x14, σ)))
 else
 (fX7_slackOf v7 σ).bind fun r15 =>
 (rec v8 (v2 ||| ((1 : Int32) <<< (v8 &&& 31))) (v3 + r15) (v5 + (1 : Int32)) σ).bind fun r16 =>
 kw_let (v7 + (1 : Int32)) fun x17 =>
 some (.inl (x17, r16))
set_option maxHeartbeats 4000000 in
set_option maxRecDepth 100000 in
theorem gjX1_dive_97_L51 {E : kw_E} {d : Nat} (rec : Int32 → Int32 → Int64 → Int32 → kw_M → Option kw_M) (hrec : ∀ (z0 : Int32) (z1 : Int32) (z2 : Int64) (z3 : Int32) (w r : kw_M), rec z0 z1 z2 z3 w = some r → kw_Met E kwTX 47 (d + 1) μX1_dive [.ref 7, .int z0, .int z1, .long z2, .int z3] w none r) (v1 : Int32) (v2 : Int32) (v3 : Int64) (v5 : Int32) (v7 : Int32) (v8 : Int32) (t0 : Int32) (σ : kw_M) {v : Option Value} {σ2 : kw_M} {o : (Int32 × kw_M) ⊕ (kw_M)} (h : jX1_dive_97_L51 rec v1 v2 v3 v5 v7 v8 t0 σ = some o) (hk : Sum.elim (fun s => kw_G E kwTX 47 (d + 2) μX1_dive 51 [(0, .ref 7), (1, .int v1), (2, .int v2), (3, .long v3), (5, .int v5), (6, .ref 12), (7, .int s.1)] [] s.2 v σ2) (fun y => kw_G E kwTX 47 (d + 2) μX1_dive 171 [] [] y v σ2) o) : kw_G E kwTX 47 (d + 2) μX1_dive 97 [(0, .ref 7), (1, .int v1), (2, .int v2), (3, .long v3), (5, .int v5), (6, .ref 12), (7, .int v7), (8, .int v8)] [.int t0] σ v σ2 := by
  unfold jX1_dive_97_L51 at h
  refine kg_istore dX1_dive_97 (Nat.le_of_ble_eq_true rfl) rfl (lv2 := [(9, .int t0), (0, .ref 7), (1, .int v1), (2, .int v2), (3, .long v3), (5, .int v5), (6, .ref 12), (7, .int v7), (8, .int v8)]) rfl (pc2 := 99) rfl ?_
  refine kg_iload 0 dX1_dive_99 rfl (pc2 := 101) rfl ?_
  refine kg_if_eq 165 dX1_dive_101 rfl (pc2 := 104) rfl (fun q7 => ?_) (fun q7 => ?_)
  · replace h := (if_pos q7).symm.trans h
    obtain ⟨x8, x8e, h⟩ := kw_let_e h
    refine kg_iinc 7 dX1_dive_165 rfl (Nat.le_of_ble_eq_true rfl) x8e (lv2 := [(7, .int x8), (9, .int t0), (0, .ref 7), (1, .int v1), (2, .int v2), (3, .long v3), (5, .int v5), (6, .ref 12), (8, .int v8)]) rfl (pc2 := 168) rfl ?_
    refine kg_goto 51 dX1_dive_168 rfl ?_
    refine kg_sub [2, 3, 4, 5, 6, 7, 0] (lv2 := [(0, .ref 7), (1, .int v1), (2, .int v2), (3, .long v3), (5, .int v5), (6, .ref 12), (7, .int x8)]) rfl ?_
    cases h
    exact hk
  · replace h := (if_neg q7).symm.trans h
    refine kg_aload_n 1 dX1_dive_104 rfl (pc2 := 105) rfl ?_
    refine kg_getl clX1 rfl 4 (Nat.le_of_ble_eq_true rfl) lfRX1_49 tX_7 eX_7 rfl dX1_dive_105 (pc2 := 108) rfl ?_
    refine kg_iload 7 dX1_dive_108 rfl (pc2 := 110) rfl ?_
    refine kg_lshr dX1_dive_110 (pc2 := 111) rfl ?_
    refine kg_lconst dX1_dive_111 kl_1 (pc2 := 112) rfl ?_
    refine kg_land dX1_dive_112 (pc2 := 113) rfl ?_
    refine kg_lconst dX1_dive_113 kl_0 (pc2 := 114) rfl ?_
    refine kg_lcmp_eq 165 dX1_dive_114 dX1_dive_115 rfl (pc2 := 118) rfl (fun q9 => ?_) (fun q9 => ?_)
    · replace h := (if_pos q9).symm.trans h
      obtain ⟨x10, x10e, h⟩ := kw_let_e h
      refine kg_iinc 7 dX1_dive_165 rfl (Nat.le_of_ble_eq_true rfl) x10e (lv2 := [(7, .int x10), (9, .int t0), (0, .ref 7), (1, .int v1), (2, .int v2), (3, .long v3), (5, .int v5), (6, .ref 12), (8, .int v8)]) rfl (pc2 := 168) rfl ?_
      refine kg_goto 51 dX1_dive_168 rfl ?_
      refine kg_sub [2, 3, 4, 5, 6, 7, 0] (lv2 := [(0, .ref 7), (1, .int v1), (2, .int v2), (3, .long v3), (5, .int v5), (6, .ref 12), (7, .int x10)]) rfl ?_
      cases h
      exact hk
    · replace h := (if_neg q9).symm.trans h
      refine kg_aload_n 1 dX1_dive_118 rfl (pc2 := 119) rfl ?_
      refine kg_iload 8 dX1_dive_119 rfl (pc2 := 121) rfl ?_
      refine kg_lload_n 4 dX1_dive_121 rfl (pc2 := 122) rfl ?_
      refine kg_aload_n 1 dX1_dive_122 rfl (pc2 := 123) rfl ?_
      refine kg_getr clX1 rfl 0 (Nat.le_of_ble_eq_true rfl) lfRX1_9 tX_7 eX_7 rfl dX1_dive_123 (pc2 := 126) rfl ?_
      refine kg_iload 7 dX1_dive_126 rfl (pc2 := 128) rfl ?_
      obtain ⟨r11, r11h, h⟩ := kw_bind_e h
      refine kg_callV (μ := μX1_dive) (d := (d + 1)) rfl mVX7_slackOf [.int v7] [.long v3, .int v8, .ref 7] (gX7_slackOf (E := E) (d := (d + 1)) v7 σ r11h) rfl lmRX1_82 (ci := 7) rfl tX_1 eX_1 rfl (Nat.le_of_ble_eq_true rfl) dX1_dive_128 rfl (st2 := [.long r11, .long v3, .int v8, .ref 7]) rfl (pc2 := 131) rfl ?_
      refine kg_ladd dX1_dive_131 (pc2 := 132) rfl ?_
      obtain ⟨r12, r12h, h⟩ := kw_bind_e h
      refine kg_callV (μ := μX1_dive) (d := (d + 1)) rfl mVX1_mayHelp [.int v8, .long (v3 + r11)] [] (gX1_mayHelp (E := E) (d := d) v8 (v3 + r11) σ r12h) rfl lmRX1_86 (ci := 1) rfl tX_7 eX_7 rfl (Nat.le_of_ble_eq_true rfl) dX1_dive_132 rfl (st2 := [.int r12]) rfl (pc2 := 135) rfl ?_
      refine kg_if_eq 165 dX1_dive_135 rfl (pc2 := 138) rfl (fun q13 => ?_) (fun q13 => ?_)
      · replace h := (if_pos q13).symm.trans h
        obtain ⟨x14, x14e, h⟩ := kw_let_e h
        refine kg_iinc 7 dX1_dive_165 rfl (Nat.le_of_ble_eq_true rfl) x14e (lv2 := [(7, .int x14), (9, .int t0), (0, .ref 7), (1, .int v1), (2, .int v2), (3, .long v3), (5, .int v5), (6, .ref 12), (8, .int v8)]) rfl (pc2 := 168) rfl ?_
        refine kg_goto 51 dX1_dive_168 rfl ?_
        refine kg_sub [2, 3, 4, 5, 6, 7, 0] (lv2 := [(0, .ref 7), (1, .int v1), (2, .int v2), (3, .long v3), (5, .int v5), (6, .ref 12), (7, .int x14)]) rfl ?_
        cases h
        exact hk
      · replace h := (if_neg q13).symm.trans h
        refine kg_aload_n 1 dX1_dive_138 rfl (pc2 := 139) rfl ?_
        refine kg_iload 8 dX1_dive_139 rfl (pc2 := 141) rfl ?_
        refine kg_iload_n 3 dX1_dive_141 rfl (pc2 := 142) rfl ?_
        refine kg_iconst dX1_dive_142 ki_1 (pc2 := 143) rfl ?_
        refine kg_iload 8 dX1_dive_143 rfl (pc2 := 145) rfl ?_
        refine kg_ishl dX1_dive_145 (pc2 := 146) rfl ?_
        refine kg_ior dX1_dive_146 (pc2 := 147) rfl ?_
        refine kg_lload_n 4 dX1_dive_147 rfl (pc2 := 148) rfl ?_
        refine kg_aload_n 1 dX1_dive_148 rfl (pc2 := 149) rfl ?_
        refine kg_getr clX1 rfl 0 (Nat.le_of_ble_eq_true rfl) lfRX1_9 tX_7 eX_7 rfl dX1_dive_149 (pc2 := 152) rfl ?_
        refine kg_iload 7 dX1_dive_152 rfl (pc2 := 154) rfl ?_
        obtain ⟨r15, r15h, h⟩ := kw_bind_e h
        refine kg_callV (μ := μX1_dive) (d := (d + 1)) rfl mVX7_slackOf [.int v7] [.long v3, .int (v2 ||| ((1 : Int32) <<< (v8 &&& 31))), .int v8, .ref 7] (gX7_slackOf (E := E) (d := (d + 1)) v7 σ r15h) rfl lmRX1_82 (ci := 7) rfl tX_1 eX_1 rfl (Nat.le_of_ble_eq_true rfl) dX1_dive_154 rfl (st2 := [.long r15, .long v3, .int (v2 ||| ((1 : Int32) <<< (v8 &&& 31))), .int v8, .ref 7]) rfl (pc2 := 157) rfl ?_
        refine kg_ladd dX1_dive_157 (pc2 := 158) rfl ?_
        refine kg_iload 5 dX1_dive_158 rfl (pc2 := 160) rfl ?_
        refine kg_iconst dX1_dive_160 ki_1 (pc2 := 161) rfl ?_
        refine kg_iadd dX1_dive_161 (pc2 := 162) rfl ?_
        obtain ⟨r16, r16h, h⟩ := kw_bind_e h
        refine kg_callV (μ := μX1_dive) (d := (d + 1)) rfl mVX1_dive [.int v8, .int (v2 ||| ((1 : Int32) <<< (v8 &&& 31))), .long (v3 + r15), .int (v5 + (1 : Int32))] [] (hrec _ _ _ _ _ _ r16h) rfl lmRX1_37 (ci := 1) rfl tX_7 eX_7 rfl (Nat.le_of_ble_eq_true rfl) dX1_dive_162 rfl (st2 := []) rfl (pc2 := 165) rfl ?_
        obtain ⟨x17, x17e, h⟩ := kw_let_e h
        refine kg_iinc 7 dX1_dive_165 rfl (Nat.le_of_ble_eq_true rfl) x17e (lv2 := [(7, .int x17), (9, .int t0), (0, .ref 7), (1, .int v1), (2, .int v2), (3, .long v3), (5, .int v5), (6, .ref 12), (8, .int v8)]) rfl (pc2 := 168) rfl ?_
        refine kg_goto 51 dX1_dive_168 rfl ?_
        refine kg_sub [2, 3, 4, 5, 6, 7, 0] (lv2 := [(0, .ref 7), (1, .int v1), (2, .int v2), (3, .long v3), (5, .int v5), (6, .ref 12), (7, .int x17)]) rfl ?_
        cases h
        exact hk
def jX1_dive_96_L51 (rec : Int32 → Int32 → Int64 → Int32 → kw_M → Option kw_M) (v1 : Int32) (v2 : Int32) (v3 : Int64) (v5 : Int32) (v7 : Int32) (v8 : Int32) (σ : kw_M) : Option ((Int32 × kw_M) ⊕ (kw_M)) :=
 jX1_dive_97_L51 rec v1 v2 v3 v5 v7 v8 (0 : Int32) σ
set_option maxHeartbeats 4000000 in
set_option maxRecDepth 100000 in
theorem gjX1_dive_96_L51 {E : kw_E} {d : Nat} (rec : Int32 → Int32 → Int64 → Int32 → kw_M → Option kw_M) (hrec : ∀ (z0 : Int32) (z1 : Int32) (z2 : Int64) (z3 : Int32) (w r : kw_M), rec z0 z1 z2 z3 w = some r → kw_Met E kwTX 47 (d + 1) μX1_dive [.ref 7, .int z0, .int z1, .long z2, .int z3] w none r) (v1 : Int32) (v2 : Int32) (v3 : Int64) (v5 : Int32) (v7 : Int32) (v8 : Int32) (σ : kw_M) {v : Option Value} {σ2 : kw_M} {o : (Int32 × kw_M) ⊕ (kw_M)} (h : jX1_dive_96_L51 rec v1 v2 v3 v5 v7 v8 σ = some o) (hk : Sum.elim (fun s => kw_G E kwTX 47 (d + 2) μX1_dive 51 [(0, .ref 7), (1, .int v1), (2, .int v2), (3, .long v3), (5, .int v5), (6, .ref 12), (7, .int s.1)] [] s.2 v σ2) (fun y => kw_G E kwTX 47 (d + 2) μX1_dive 171 [] [] y v σ2) o) : kw_G E kwTX 47 (d + 2) μX1_dive 96 [(0, .ref 7), (1, .int v1), (2, .int v2), (3, .long v3), (5, .int v5), (6, .ref 12), (7, .int v7), (8, .int v8)] [] σ v σ2 := by
  unfold jX1_dive_96_L51 at h
  refine kg_iconst dX1_dive_96 ki_0 (pc2 := 97) rfl ?_
  exact gjX1_dive_97_L51 rec hrec v1 v2 v3 v5 v7 v8 (0 : Int32) σ h hk
def bX1_dive_51 (rec : Int32 → Int32 → Int64 → Int32 → kw_M → Option kw_M) (v1 : Int32) (v2 : Int32) (v3 : Int64) (v5 : Int32) (v7 : Int32) (σ : kw_M) : Option ((Int32 × kw_M) ⊕ (kw_M)) :=
 if (σ.1 12 1) ≤ v7 then
 (some (.inr σ))
 else
 kw_chk (kw_in v7 36) <|
 kw_let (σ.1 19 v7.toNatClampNeg) fun x5 =>
 if (σ.1 18 v7.toNatClampNeg) = v1 then
 (if ((v2 >>> (x5 &&& 31)) &&& (1 : Int32)) = (0 : Int32) then
 (jX1_dive_97_L51 rec v1 v2 v3 v5 v7 x5 (1 : Int32) σ)
 else
 jX1_dive_96_L51 rec v1 v2 v3 v5 v7 x5 σ)
 else
 jX1_dive_96_L51 rec v1 v2 v3 v5 v7 x5 σ
set_option maxHeartbeats 4000000 in
set_option maxRecDepth 100000 in
theorem lX1_dive_51 {E : kw_E} {d : Nat} (rec : Int32 → Int32 → Int64 → Int32 → kw_M → Option kw_M) (hrec : ∀ (z0 : Int32) (z1 : Int32) (z2 : Int64) (z3 : Int32) (w r : kw_M), rec z0 z1 z2 z3 w = some r → kw_Met E kwTX 47 (d + 1) μX1_dive [.ref 7, .int z0, .int z1, .long z2, .int z3] w none r) (v1 : Int32) (v2 : Int32) (v3 : Int64) (v5 : Int32) (v7 : Int32) (σ : kw_M) {v : Option Value} {σ2 : kw_M} {o : (Int32 × kw_M) ⊕ (kw_M)} (h : bX1_dive_51 rec v1 v2 v3 v5 v7 σ = some o) (hk : Sum.elim (fun s => kw_G E kwTX 47 (d + 2) μX1_dive 51 [(0, .ref 7), (1, .int v1), (2, .int v2), (3, .long v3), (5, .int v5), (6, .ref 12), (7, .int s.1)] [] s.2 v σ2) (fun y => kw_G E kwTX 47 (d + 2) μX1_dive 171 [] [] y v σ2) o) : kw_G E kwTX 47 (d + 2) μX1_dive 51 [(0, .ref 7), (1, .int v1), (2, .int v2), (3, .long v3), (5, .int v5), (6, .ref 12), (7, .int v7)] [] σ v σ2 := by
  unfold bX1_dive_51 at h
  refine kg_iload 6 dX1_dive_51 rfl (pc2 := 53) rfl ?_
  refine kg_aload 5 dX1_dive_53 rfl (pc2 := 55) rfl ?_
  refine kg_geti clX4 rfl 1 (Nat.le_of_ble_eq_true rfl) lfRX1_56 tX_12 eX_12 rfl dX1_dive_55 (pc2 := 58) rfl ?_
  refine kg_icmp_ge 171 dX1_dive_58 rfl (pc2 := 61) rfl (fun q3 => ?_) (fun q3 => ?_)
  · replace h := (if_pos q3).symm.trans h
    refine kg_sub [] (lv2 := []) rfl ?_
    cases h
    exact hk
  · replace h := (if_neg q3).symm.trans h
    refine kg_aload 5 dX1_dive_61 rfl (pc2 := 63) rfl ?_
    refine kg_getr clX4 rfl 4 (Nat.le_of_ble_eq_true rfl) lfRX1_72 tX_12 eX_12 rfl dX1_dive_63 (pc2 := 66) rfl ?_
    refine kg_iload 6 dX1_dive_66 rfl (pc2 := 68) rfl ?_
    obtain ⟨q4, h⟩ := kw_chk_e h
    refine kg_iald tX_19 eX_19 q4 (j := v7.toNatClampNeg) rfl dX1_dive_68 (pc2 := 69) rfl ?_
    obtain ⟨x5, x5e, h⟩ := kw_let_e h
    refine kg_istore dX1_dive_69 (Nat.le_of_ble_eq_true rfl) x5e (lv2 := [(8, .int x5), (0, .ref 7), (1, .int v1), (2, .int v2), (3, .long v3), (5, .int v5), (6, .ref 12), (7, .int v7)]) rfl (pc2 := 71) rfl ?_
    refine kg_aload 6 dX1_dive_71 rfl (pc2 := 73) rfl ?_
    refine kg_getr clX4 rfl 3 (Nat.le_of_ble_eq_true rfl) lfRX1_68 tX_12 eX_12 rfl dX1_dive_73 (pc2 := 76) rfl ?_
    refine kg_iload 7 dX1_dive_76 rfl (pc2 := 78) rfl ?_
    refine kg_iald tX_18 eX_18 q4 (j := v7.toNatClampNeg) rfl dX1_dive_78 (pc2 := 79) rfl ?_
    refine kg_iload_n 2 dX1_dive_79 rfl (pc2 := 80) rfl ?_
    refine kg_icmp_ne 96 dX1_dive_80 rfl (pc2 := 83) rfl (fun q6 => ?_) (fun q6 => ?_)
    · replace h := (if_neg q6).symm.trans h
      refine kg_sub [1, 2, 3, 4, 5, 6, 7, 0] (lv2 := [(0, .ref 7), (1, .int v1), (2, .int v2), (3, .long v3), (5, .int v5), (6, .ref 12), (7, .int v7), (8, .int x5)]) rfl ?_
      exact gjX1_dive_96_L51 rec hrec v1 v2 v3 v5 v7 x5 σ h hk
    · replace h := (if_pos q6).symm.trans h
      refine kg_iload_n 3 dX1_dive_83 rfl (pc2 := 84) rfl ?_
      refine kg_iload 0 dX1_dive_84 rfl (pc2 := 86) rfl ?_
      refine kg_ishr dX1_dive_86 (pc2 := 87) rfl ?_
      refine kg_iconst dX1_dive_87 ki_1 (pc2 := 88) rfl ?_
      refine kg_iand dX1_dive_88 (pc2 := 89) rfl ?_
      refine kg_if_ne 96 dX1_dive_89 rfl (pc2 := 92) rfl (fun q18 => ?_) (fun q18 => ?_)
      · replace h := (if_neg q18).symm.trans h
        refine kg_sub [1, 2, 3, 4, 5, 6, 7, 0] (lv2 := [(0, .ref 7), (1, .int v1), (2, .int v2), (3, .long v3), (5, .int v5), (6, .ref 12), (7, .int v7), (8, .int x5)]) rfl ?_
        exact gjX1_dive_96_L51 rec hrec v1 v2 v3 v5 v7 x5 σ h hk
      · replace h := (if_pos q18).symm.trans h
        refine kg_iconst dX1_dive_92 ki_1 (pc2 := 93) rfl ?_
        refine kg_goto 97 dX1_dive_93 rfl ?_
        refine kg_sub [1, 2, 3, 4, 5, 6, 7, 0] (lv2 := [(0, .ref 7), (1, .int v1), (2, .int v2), (3, .long v3), (5, .int v5), (6, .ref 12), (7, .int v7), (8, .int x5)]) rfl ?_
        exact gjX1_dive_97_L51 rec hrec v1 v2 v3 v5 v7 x5 (1 : Int32) σ h hk
def fFX1_dive (rec : Int32 → Int32 → Int64 → Int32 → kw_M → Option kw_M) (a1 : Int32) (a2 : Int32) (a3 : Int64) (a4 : Int32) (σ : kw_M) : Option (kw_M) :=
 if a1 = (σ.1 7 2) then
 (if a3 ≤ (0 : Int64) then
 (some σ)
 else
 (fX9_isLess a3 (σ.2 7 3) σ).bind fun r21 =>
 if r21 = (0 : Int32) then
 (some σ)
 else
 kw_let (kw_sl σ 7 3 a3) fun s23 =>
 some s23)
 else
 if a4 < (12 : Int32) then
 ((kw_loop (fun s => bX1_dive_51 rec a1 a2 a3 a4 s.1 s.2) kw_F ((0 : Int32), σ)).bind fun x19 =>
 some x19)
 else
 some σ
set_option maxHeartbeats 4000000 in
set_option maxRecDepth 100000 in
theorem gFX1_dive {E : kw_E} {d : Nat} (rec : Int32 → Int32 → Int64 → Int32 → kw_M → Option kw_M) (hrec : ∀ (z0 : Int32) (z1 : Int32) (z2 : Int64) (z3 : Int32) (w r : kw_M), rec z0 z1 z2 z3 w = some r → kw_Met E kwTX 47 (d + 1) μX1_dive [.ref 7, .int z0, .int z1, .long z2, .int z3] w none r) (a1 : Int32) (a2 : Int32) (a3 : Int64) (a4 : Int32) (σ : kw_M) {r : kw_M} (h : fFX1_dive rec a1 a2 a3 a4 σ = some r) : kw_Met E kwTX 47 (d + 2) μX1_dive [.ref 7, .int a1, .int a2, .long a3, .int a4] σ none r := by
  refine kw_enter plRX1 (Nat.le_of_ble_eq_true rfl) ?_
  show kw_G E kwTX 47 (d + 2) μX1_dive 0 [(0, .ref 7), (1, .int a1), (2, .int a2), (3, .long a3), (5, .int a4)] [] σ none r
  unfold fFX1_dive at h
  refine kg_iload_n 1 dX1_dive_0 rfl (pc2 := 1) rfl ?_
  refine kg_aload_n 0 dX1_dive_1 rfl (pc2 := 2) rfl ?_
  refine kg_geti clX1 rfl 2 (Nat.le_of_ble_eq_true rfl) lfRX1_19 tX_7 eX_7 rfl dX1_dive_2 (pc2 := 5) rfl ?_
  refine kg_icmp_ne 31 dX1_dive_5 rfl (pc2 := 8) rfl (fun q1 => ?_) (fun q1 => ?_)
  · replace h := (if_neg q1).symm.trans h
    refine kg_iload 4 dX1_dive_31 rfl (pc2 := 33) rfl ?_
    refine kg_bipush dX1_dive_33 kb_12 (pc2 := 35) rfl ?_
    refine kg_icmp_lt 39 dX1_dive_35 rfl (pc2 := 38) rfl (fun q2 => ?_) (fun q2 => ?_)
    · replace h := (if_pos q2).symm.trans h
      refine kg_aload_n 0 dX1_dive_39 rfl (pc2 := 40) rfl ?_
      refine kg_getr clX1 rfl 0 (Nat.le_of_ble_eq_true rfl) lfRX1_9 tX_7 eX_7 rfl dX1_dive_40 (pc2 := 43) rfl ?_
      refine kg_getr clX7 rfl 0 (Nat.le_of_ble_eq_true rfl) lfRX1_52 tX_1 eX_1 rfl dX1_dive_43 (pc2 := 46) rfl ?_
      refine kg_astore dX1_dive_46 (Nat.le_of_ble_eq_true rfl) rfl (lv2 := [(6, .ref 12), (0, .ref 7), (1, .int a1), (2, .int a2), (3, .long a3), (5, .int a4)]) rfl (pc2 := 48) rfl ?_
      refine kg_iconst dX1_dive_48 ki_0 (pc2 := 49) rfl ?_
      refine kg_istore dX1_dive_49 (Nat.le_of_ble_eq_true rfl) rfl (lv2 := [(7, .int (0 : Int32)), (6, .ref 12), (0, .ref 7), (1, .int a1), (2, .int a2), (3, .long a3), (5, .int a4)]) rfl (pc2 := 51) rfl ?_
      refine kg_sub [2, 3, 4, 5, 6, 1, 0] (lv2 := [(0, .ref 7), (1, .int a1), (2, .int a2), (3, .long a3), (5, .int a4), (6, .ref 12), (7, .int (0 : Int32))]) rfl ?_
      obtain ⟨x19, x19h, h⟩ := kw_bind_e h
      refine kw_loop_e (P := fun s => kw_G E kwTX 47 (d + 2) μX1_dive 51 [(0, .ref 7), (1, .int a1), (2, .int a2), (3, .long a3), (5, .int a4), (6, .ref 12), (7, .int s.1)] [] s.2 none r) (K := fun y => kw_G E kwTX 47 (d + 2) μX1_dive 171 [] [] y none r) (fun s o h0 hk => lX1_dive_51 rec hrec a1 a2 a3 a4 s.1 s.2 h0 hk) kw_F _ _ x19h ?_
      show kw_G E kwTX 47 (d + 2) μX1_dive 171 [] [] x19 none r
      cases h
      exact kg_vret dX1_dive_171 rfl
    · replace h := (if_neg q2).symm.trans h
      cases h
      exact kg_vret dX1_dive_38 rfl
  · replace h := (if_pos q1).symm.trans h
    refine kg_lload_n 3 dX1_dive_8 rfl (pc2 := 9) rfl ?_
    refine kg_lconst dX1_dive_9 kl_0 (pc2 := 10) rfl ?_
    refine kg_lcmp_le 30 dX1_dive_10 dX1_dive_11 rfl (pc2 := 14) rfl (fun q20 => ?_) (fun q20 => ?_)
    · replace h := (if_pos q20).symm.trans h
      cases h
      exact kg_vret dX1_dive_30 rfl
    · replace h := (if_neg q20).symm.trans h
      refine kg_lload_n 3 dX1_dive_14 rfl (pc2 := 15) rfl ?_
      refine kg_aload_n 0 dX1_dive_15 rfl (pc2 := 16) rfl ?_
      refine kg_getl clX1 rfl 3 (Nat.le_of_ble_eq_true rfl) lfRX1_25 tX_7 eX_7 rfl dX1_dive_16 (pc2 := 19) rfl ?_
      obtain ⟨r21, r21h, h⟩ := kw_bind_e h
      refine kg_callN (μ := μX1_dive) (d := (d + 1)) rfl mSX9_isLess [.long a3, .long (σ.2 7 3)] [] (gX9_isLess (E := E) (d := (d + 1)) a3 (σ.2 7 3) σ r21h) rfl lnRX1_78 rfl (Nat.le_of_ble_eq_true rfl) dX1_dive_19 rfl (st2 := [.int r21]) rfl (pc2 := 22) rfl ?_
      refine kg_if_eq 30 dX1_dive_22 rfl (pc2 := 25) rfl (fun q22 => ?_) (fun q22 => ?_)
      · replace h := (if_pos q22).symm.trans h
        cases h
        exact kg_vret dX1_dive_30 rfl
      · replace h := (if_neg q22).symm.trans h
        refine kg_aload_n 0 dX1_dive_25 rfl (pc2 := 26) rfl ?_
        refine kg_lload_n 3 dX1_dive_26 rfl (pc2 := 27) rfl ?_
        obtain ⟨s23, s23e, h⟩ := kw_let_e h
        refine kg_putl clX1 rfl 3 (Nat.le_of_ble_eq_true rfl) lfRX1_25 rfl tX_7 eX_7 rfl (ty := .long) (by decide +kernel) rfl rfl s23e dX1_dive_27 (pc2 := 30) rfl ?_
        cases h
        exact kg_vret dX1_dive_30 rfl
def fRX1_dive : Nat → Int32 → Int32 → Int64 → Int32 → kw_M → Option kw_M
  | 0, _, _, _, _, _ => none
  | n + 1, a1, a2, a3, a4, σ => fFX1_dive (fRX1_dive n) a1 a2 a3 a4 σ
theorem gRX1_dive {E : kw_E} {d : Nat} : ∀ (n : Nat) (a1 : Int32) (a2 : Int32) (a3 : Int64) (a4 : Int32) (σ : kw_M) (r : kw_M), fRX1_dive n a1 a2 a3 a4 σ = some r → kw_Met E kwTX 47 (d + n + 2) μX1_dive [.ref 7, .int a1, .int a2, .long a3, .int a4] σ none r
  | 0, _, _, _, _, _, _, h => by cases h
  | n + 1, a1, a2, a3, a4, σ, r, h => gFX1_dive (E := E) (d := d + n + 1) (fRX1_dive n) (fun z0 z1 z2 z3 w r2 h2 => gRX1_dive n z0 z1 z2 z3 w r2 h2) a1 a2 a3 a4 σ h
def fX1_dive (a1 : Int32) (a2 : Int32) (a3 : Int64) (a4 : Int32) (σ : kw_M) : Option kw_M := fRX1_dive 20 a1 a2 a3 a4 σ
theorem gX1_dive {E : kw_E} {d : Nat} (a1 : Int32) (a2 : Int32) (a3 : Int64) (a4 : Int32) (σ : kw_M) {r : kw_M} (h : fX1_dive a1 a2 a3 a4 σ = some r) : kw_Met E kwTX 47 (d + 22) μX1_dive [.ref 7, .int a1, .int a2, .long a3, .int a4] σ none r := by
  have h1 := gRX1_dive (E := E) (d := d) 20 a1 a2 a3 a4 σ r h
  rw [show d + 22 = d + 20 + 2 by omega]
  exact h1
def fX9_joined (a0 : Int64) (a1 : Int64) (σ : kw_M) : Option (Int64) :=
 if a0 = (-9000000000000000000 : Int64) then
 (some (-9000000000000000000 : Int64))
 else
 if a1 = (-9000000000000000000 : Int64) then
 (some (-9000000000000000000 : Int64))
 else
 some (a0 + a1)
set_option maxHeartbeats 4000000 in
set_option maxRecDepth 100000 in
theorem gX9_joined {E : kw_E} {d : Nat} (a0 : Int64) (a1 : Int64) (σ : kw_M) {r : Int64} (h : fX9_joined a0 a1 σ = some r) : kw_Met E kwTX 47 d μX9_joined [.long a0, .long a1] σ (some (Value.long r)) σ := by
  refine kw_enter plRX9 (Nat.le_of_ble_eq_true rfl) ?_
  show kw_G E kwTX 47 d μX9_joined 0 [(0, .long a0), (2, .long a1)] [] σ (some (Value.long r)) σ
  unfold fX9_joined at h
  refine kg_lload_n 0 dX9_joined_0 rfl (pc2 := 1) rfl ?_
  refine kg_ldc2 rfl lcRX9_261 dX9_joined_1 (pc2 := 4) rfl ?_
  refine kg_lcmp_eq 16 dX9_joined_4 dX9_joined_5 rfl (pc2 := 8) rfl (fun q1 => ?_) (fun q1 => ?_)
  · replace h := (if_pos q1).symm.trans h
    refine kg_ldc2 rfl lcRX9_261 dX9_joined_16 (pc2 := 19) rfl ?_
    refine kg_goto 25 dX9_joined_19 rfl ?_
    cases h
    exact kg_lret dX9_joined_25 rfl
  · replace h := (if_neg q1).symm.trans h
    refine kg_lload_n 1 dX9_joined_8 rfl (pc2 := 9) rfl ?_
    refine kg_ldc2 rfl lcRX9_261 dX9_joined_9 (pc2 := 12) rfl ?_
    refine kg_lcmp_ne 22 dX9_joined_12 dX9_joined_13 rfl (pc2 := 16) rfl (fun q2 => ?_) (fun q2 => ?_)
    · replace h := (if_neg q2).symm.trans h
      refine kg_lload_n 0 dX9_joined_22 rfl (pc2 := 23) rfl ?_
      refine kg_lload_n 1 dX9_joined_23 rfl (pc2 := 24) rfl ?_
      refine kg_ladd dX9_joined_24 (pc2 := 25) rfl ?_
      cases h
      exact kg_lret dX9_joined_25 rfl
    · replace h := (if_pos q2).symm.trans h
      refine kg_ldc2 rfl lcRX9_261 dX9_joined_16 (pc2 := 19) rfl ?_
      refine kg_goto 25 dX9_joined_19 rfl ?_
      cases h
      exact kg_lret dX9_joined_25 rfl
def fX1_findNext (a1 : Int32) (σ : kw_M) : Option (Int64 × kw_M) :=
 kw_let (kw_si σ 7 2 a1) fun s1 =>
 kw_let (kw_sl s1 7 3 (-9000000000000000000 : Int64)) fun s2 =>
 (fX1_findUseful s2).bind fun r3 =>
 (fX1_dive (r3.1 1 2) ((1 : Int32) <<< ((r3.1 1 2) &&& 31)) (0 : Int64) (0 : Int32) r3).bind fun r4 =>
 kw_chk (kw_in a1 12) <|
 (fX9_joined (r4.2 16 a1.toNatClampNeg) (r4.2 7 3) r4).bind fun r6 =>
 some (r6, r4)
set_option maxHeartbeats 4000000 in
set_option maxRecDepth 100000 in
theorem gX1_findNext {E : kw_E} {d : Nat} (a1 : Int32) (σ : kw_M) {r : Int64 × kw_M} (h : fX1_findNext a1 σ = some r) : kw_Met E kwTX 47 (d + 23) μX1_findNext [.ref 7, .int a1] σ (some (Value.long r.1)) r.2 := by
  refine kw_enter plRX1 (Nat.le_of_ble_eq_true rfl) ?_
  show kw_G E kwTX 47 (d + 23) μX1_findNext 0 [(0, .ref 7), (1, .int a1)] [] σ (some (Value.long r.1)) r.2
  unfold fX1_findNext at h
  refine kg_aload_n 0 dX1_findNext_0 rfl (pc2 := 1) rfl ?_
  refine kg_iload_n 1 dX1_findNext_1 rfl (pc2 := 2) rfl ?_
  obtain ⟨s1, s1e, h⟩ := kw_let_e h
  refine kg_puti clX1 rfl 2 (Nat.le_of_ble_eq_true rfl) lfRX1_19 rfl tX_7 eX_7 rfl (ty := .int) (by decide +kernel) rfl rfl s1e dX1_findNext_2 (pc2 := 5) rfl ?_
  refine kg_aload_n 0 dX1_findNext_5 rfl (pc2 := 6) rfl ?_
  refine kg_ldc2 rfl lcRX1_23 dX1_findNext_6 (pc2 := 9) rfl ?_
  obtain ⟨s2, s2e, h⟩ := kw_let_e h
  refine kg_putl clX1 rfl 3 (Nat.le_of_ble_eq_true rfl) lfRX1_25 rfl tX_7 eX_7 rfl (ty := .long) (by decide +kernel) rfl rfl s2e dX1_findNext_9 (pc2 := 12) rfl ?_
  refine kg_aload_n 0 dX1_findNext_12 rfl (pc2 := 13) rfl ?_
  obtain ⟨r3, r3h, h⟩ := kw_bind_e h
  refine kg_callV (μ := μX1_findNext) (d := (d + 22)) rfl mVX1_findUseful [] [] (gX1_findUseful (E := E) (d := (d + 20)) s2 r3h) rfl lmRX1_29 (ci := 1) rfl tX_7 eX_7 rfl (Nat.le_of_ble_eq_true rfl) dX1_findNext_13 rfl (st2 := []) rfl (pc2 := 16) rfl ?_
  refine kg_aload_n 0 dX1_findNext_16 rfl (pc2 := 17) rfl ?_
  refine kg_aload_n 0 dX1_findNext_17 rfl (pc2 := 18) rfl ?_
  refine kg_getr clX1 rfl 0 (Nat.le_of_ble_eq_true rfl) lfRX1_9 tX_7 eX_7 rfl dX1_findNext_18 (pc2 := 21) rfl ?_
  refine kg_geti clX7 rfl 2 (Nat.le_of_ble_eq_true rfl) lfRX1_32 tX_1 eX_1 rfl dX1_findNext_21 (pc2 := 24) rfl ?_
  refine kg_iconst dX1_findNext_24 ki_1 (pc2 := 25) rfl ?_
  refine kg_aload_n 0 dX1_findNext_25 rfl (pc2 := 26) rfl ?_
  refine kg_getr clX1 rfl 0 (Nat.le_of_ble_eq_true rfl) lfRX1_9 tX_7 eX_7 rfl dX1_findNext_26 (pc2 := 29) rfl ?_
  refine kg_geti clX7 rfl 2 (Nat.le_of_ble_eq_true rfl) lfRX1_32 tX_1 eX_1 rfl dX1_findNext_29 (pc2 := 32) rfl ?_
  refine kg_ishl dX1_findNext_32 (pc2 := 33) rfl ?_
  refine kg_lconst dX1_findNext_33 kl_0 (pc2 := 34) rfl ?_
  refine kg_iconst dX1_findNext_34 ki_0 (pc2 := 35) rfl ?_
  obtain ⟨r4, r4h, h⟩ := kw_bind_e h
  refine kg_callV (μ := μX1_findNext) (d := (d + 22)) rfl mVX1_dive [.int (r3.1 1 2), .int ((1 : Int32) <<< ((r3.1 1 2) &&& 31)), .long (0 : Int64), .int (0 : Int32)] [] (gX1_dive (E := E) (d := d) (r3.1 1 2) ((1 : Int32) <<< ((r3.1 1 2) &&& 31)) (0 : Int64) (0 : Int32) r3 r4h) rfl lmRX1_37 (ci := 1) rfl tX_7 eX_7 rfl (Nat.le_of_ble_eq_true rfl) dX1_findNext_35 rfl (st2 := []) rfl (pc2 := 38) rfl ?_
  refine kg_aload_n 0 dX1_findNext_38 rfl (pc2 := 39) rfl ?_
  refine kg_getr clX1 rfl 0 (Nat.le_of_ble_eq_true rfl) lfRX1_9 tX_7 eX_7 rfl dX1_findNext_39 (pc2 := 42) rfl ?_
  refine kg_getr clX7 rfl 9 (Nat.le_of_ble_eq_true rfl) lfRX1_41 tX_1 eX_1 rfl dX1_findNext_42 (pc2 := 45) rfl ?_
  refine kg_iload_n 1 dX1_findNext_45 rfl (pc2 := 46) rfl ?_
  obtain ⟨q5, h⟩ := kw_chk_e h
  refine kg_lald tX_16 eX_16 q5 (j := a1.toNatClampNeg) rfl dX1_findNext_46 (pc2 := 47) rfl ?_
  refine kg_aload_n 0 dX1_findNext_47 rfl (pc2 := 48) rfl ?_
  refine kg_getl clX1 rfl 3 (Nat.le_of_ble_eq_true rfl) lfRX1_25 tX_7 eX_7 rfl dX1_findNext_48 (pc2 := 51) rfl ?_
  obtain ⟨r6, r6h, h⟩ := kw_bind_e h
  refine kg_callN (μ := μX1_findNext) (d := (d + 22)) rfl mSX9_joined [.long (r4.2 16 a1.toNatClampNeg), .long (r4.2 7 3)] [] (gX9_joined (E := E) (d := (d + 22)) (r4.2 16 a1.toNatClampNeg) (r4.2 7 3) r4 r6h) rfl lnRX1_45 rfl (Nat.le_of_ble_eq_true rfl) dX1_findNext_51 rfl (st2 := [.long r6]) rfl (pc2 := 54) rfl ?_
  cases h
  exact kg_lret dX1_findNext_54 rfl
def fX9_nextLonger (a1 : Int32) (σ : kw_M) : Option (Int64 × kw_M) :=
 (fX9_rightPairs σ).bind fun r1 =>
 (fX1_findNext a1 r1).bind fun r2 =>
 some (r2.1, r2.2)
set_option maxHeartbeats 4000000 in
set_option maxRecDepth 100000 in
theorem gX9_nextLonger {E : kw_E} {d : Nat} (a1 : Int32) (σ : kw_M) {r : Int64 × kw_M} (h : fX9_nextLonger a1 σ = some r) : kw_Met E kwTX 47 (d + 24) μX9_nextLonger [.ref 0, .int a1] σ (some (Value.long r.1)) r.2 := by
  refine kw_enter plRX9 (Nat.le_of_ble_eq_true rfl) ?_
  show kw_G E kwTX 47 (d + 24) μX9_nextLonger 0 [(0, .ref 0), (1, .int a1)] [] σ (some (Value.long r.1)) r.2
  unfold fX9_nextLonger at h
  refine kg_aload_n 0 dX9_nextLonger_0 rfl (pc2 := 1) rfl ?_
  obtain ⟨r1, r1h, h⟩ := kw_bind_e h
  refine kg_callV (μ := μX9_nextLonger) (d := (d + 23)) rfl mVX9_rightPairs [] [] (gX9_rightPairs (E := E) (d := (d + 20)) σ r1h) rfl lmRX9_251 (ci := 9) rfl tX_0 eX_0 rfl (Nat.le_of_ble_eq_true rfl) dX9_nextLonger_1 rfl (st2 := [.ref 5]) rfl (pc2 := 4) rfl ?_
  refine kg_pop dX9_nextLonger_4 rfl (pc2 := 5) rfl ?_
  refine kg_aload_n 0 dX9_nextLonger_5 rfl (pc2 := 6) rfl ?_
  refine kg_getr clX9 rfl 7 (Nat.le_of_ble_eq_true rfl) lfRX9_52 tX_0 eX_0 rfl dX9_nextLonger_6 (pc2 := 9) rfl ?_
  refine kg_iload_n 1 dX9_nextLonger_9 rfl (pc2 := 10) rfl ?_
  obtain ⟨r2, r2h, h⟩ := kw_bind_e h
  refine kg_callV (μ := μX9_nextLonger) (d := (d + 23)) rfl mVX1_findNext [.int a1] [] (gX1_findNext (E := E) (d := d) a1 r1 r2h) rfl lmRX9_388 (ci := 1) rfl tX_7 eX_7 rfl (Nat.le_of_ble_eq_true rfl) dX9_nextLonger_10 rfl (st2 := [.long r2.1]) rfl (pc2 := 13) rfl ?_
  cases h
  exact kg_lret dX9_nextLonger_13 rfl
def bX2_ringOf_7 (v2 : Int32) (σ : kw_M) (v3 : Int64) (v5 : Int32) : Option ((Int64 × Int32) ⊕ (Int64)) :=
 if (σ.1 12 1) ≤ v5 then
 (some (.inr v3))
 else
 (fX4_isOpen 12 v5 σ).bind fun r2 =>
 if r2 = (0 : Int32) then
 (kw_let (v5 + (1 : Int32)) fun x4 =>
 some (.inl (v3, x4)))
 else
 kw_chk (kw_in v5 36) <|
 if (σ.1 18 v5.toNatClampNeg) = v2 then
 ((fX2_span (σ.1 19 v5.toNatClampNeg) v2 σ).bind fun r8 =>
 (fX9_joined ((σ.1 20 v5.toNatClampNeg).toInt64) r8 σ).bind fun r9 =>
 (fX9_isLess r9 v3 σ).bind fun r10 =>
 if r10 = (0 : Int32) then
 (kw_let (v5 + (1 : Int32)) fun x12 =>
 some (.inl (v3, x12)))
 else
 kw_let (v5 + (1 : Int32)) fun x13 =>
 some (.inl (r9, x13)))
 else
 kw_let (v5 + (1 : Int32)) fun x7 =>
 some (.inl (v3, x7))
set_option maxHeartbeats 4000000 in
set_option maxRecDepth 100000 in
theorem lX2_ringOf_7 {E : kw_E} {d : Nat} (v2 : Int32) (σ : kw_M) (v3 : Int64) (v5 : Int32) {v : Option Value} {σ2 : kw_M} {o : (Int64 × Int32) ⊕ (Int64)} (h : bX2_ringOf_7 v2 σ v3 v5 = some o) (hk : Sum.elim (fun s => kw_G E kwTX 47 (d + 1) μX2_ringOf 7 [(0, .ref 5), (1, .ref 12), (2, .int v2), (3, .long s.1), (5, .int s.2)] [] σ v σ2) (fun y => kw_G E kwTX 47 (d + 1) μX2_ringOf 83 [(3, .long y)] [] σ v σ2) o) : kw_G E kwTX 47 (d + 1) μX2_ringOf 7 [(0, .ref 5), (1, .ref 12), (2, .int v2), (3, .long v3), (5, .int v5)] [] σ v σ2 := by
  unfold bX2_ringOf_7 at h
  refine kg_iload 4 dX2_ringOf_7 rfl (pc2 := 9) rfl ?_
  refine kg_aload_n 1 dX2_ringOf_9 rfl (pc2 := 10) rfl ?_
  refine kg_geti clX4 rfl 1 (Nat.le_of_ble_eq_true rfl) lfRX2_61 tX_12 eX_12 rfl dX2_ringOf_10 (pc2 := 13) rfl ?_
  refine kg_icmp_ge 83 dX2_ringOf_13 rfl (pc2 := 16) rfl (fun q1 => ?_) (fun q1 => ?_)
  · replace h := (if_pos q1).symm.trans h
    refine kg_sub [3] (lv2 := [(3, .long v3)]) rfl ?_
    cases h
    exact hk
  · replace h := (if_neg q1).symm.trans h
    refine kg_aload_n 1 dX2_ringOf_16 rfl (pc2 := 17) rfl ?_
    refine kg_iload 4 dX2_ringOf_17 rfl (pc2 := 19) rfl ?_
    obtain ⟨r2, r2h, h⟩ := kw_bind_e h
    refine kg_callV (μ := μX2_ringOf) (d := d) rfl mVX4_isOpen [.int v5] [] (gX4_isOpen (E := E) (d := d) 12 kx_4_12 v5 σ r2h) rfl lmRX2_64 (ci := 4) rfl tX_12 eX_12 rfl (Nat.le_of_ble_eq_true rfl) dX2_ringOf_19 rfl (st2 := [.int r2]) rfl (pc2 := 22) rfl ?_
    refine kg_if_eq 77 dX2_ringOf_22 rfl (pc2 := 25) rfl (fun q3 => ?_) (fun q3 => ?_)
    · replace h := (if_pos q3).symm.trans h
      obtain ⟨x4, x4e, h⟩ := kw_let_e h
      refine kg_iinc 4 dX2_ringOf_77 rfl (Nat.le_of_ble_eq_true rfl) x4e (lv2 := [(5, .int x4), (0, .ref 5), (1, .ref 12), (2, .int v2), (3, .long v3)]) rfl (pc2 := 80) rfl ?_
      refine kg_goto 7 dX2_ringOf_80 rfl ?_
      refine kg_sub [1, 2, 3, 4, 0] (lv2 := [(0, .ref 5), (1, .ref 12), (2, .int v2), (3, .long v3), (5, .int x4)]) rfl ?_
      cases h
      exact hk
    · replace h := (if_neg q3).symm.trans h
      refine kg_aload_n 1 dX2_ringOf_25 rfl (pc2 := 26) rfl ?_
      refine kg_getr clX4 rfl 3 (Nat.le_of_ble_eq_true rfl) lfRX2_67 tX_12 eX_12 rfl dX2_ringOf_26 (pc2 := 29) rfl ?_
      refine kg_iload 4 dX2_ringOf_29 rfl (pc2 := 31) rfl ?_
      obtain ⟨q5, h⟩ := kw_chk_e h
      refine kg_iald tX_18 eX_18 q5 (j := v5.toNatClampNeg) rfl dX2_ringOf_31 (pc2 := 32) rfl ?_
      refine kg_iload_n 2 dX2_ringOf_32 rfl (pc2 := 33) rfl ?_
      refine kg_icmp_ne 77 dX2_ringOf_33 rfl (pc2 := 36) rfl (fun q6 => ?_) (fun q6 => ?_)
      · replace h := (if_neg q6).symm.trans h
        obtain ⟨x7, x7e, h⟩ := kw_let_e h
        refine kg_iinc 4 dX2_ringOf_77 rfl (Nat.le_of_ble_eq_true rfl) x7e (lv2 := [(5, .int x7), (0, .ref 5), (1, .ref 12), (2, .int v2), (3, .long v3)]) rfl (pc2 := 80) rfl ?_
        refine kg_goto 7 dX2_ringOf_80 rfl ?_
        refine kg_sub [1, 2, 3, 4, 0] (lv2 := [(0, .ref 5), (1, .ref 12), (2, .int v2), (3, .long v3), (5, .int x7)]) rfl ?_
        cases h
        exact hk
      · replace h := (if_pos q6).symm.trans h
        refine kg_aload_n 1 dX2_ringOf_36 rfl (pc2 := 37) rfl ?_
        refine kg_getr clX4 rfl 5 (Nat.le_of_ble_eq_true rfl) lfRX2_71 tX_12 eX_12 rfl dX2_ringOf_37 (pc2 := 40) rfl ?_
        refine kg_iload 4 dX2_ringOf_40 rfl (pc2 := 42) rfl ?_
        refine kg_iald tX_20 eX_20 q5 (j := v5.toNatClampNeg) rfl dX2_ringOf_42 (pc2 := 43) rfl ?_
        refine kg_i2l dX2_ringOf_43 (pc2 := 44) rfl ?_
        refine kg_aload_n 0 dX2_ringOf_44 rfl (pc2 := 45) rfl ?_
        refine kg_aload_n 1 dX2_ringOf_45 rfl (pc2 := 46) rfl ?_
        refine kg_getr clX4 rfl 4 (Nat.le_of_ble_eq_true rfl) lfRX2_74 tX_12 eX_12 rfl dX2_ringOf_46 (pc2 := 49) rfl ?_
        refine kg_iload 4 dX2_ringOf_49 rfl (pc2 := 51) rfl ?_
        refine kg_iald tX_19 eX_19 q5 (j := v5.toNatClampNeg) rfl dX2_ringOf_51 (pc2 := 52) rfl ?_
        refine kg_iload_n 2 dX2_ringOf_52 rfl (pc2 := 53) rfl ?_
        obtain ⟨r8, r8h, h⟩ := kw_bind_e h
        refine kg_callV (μ := μX2_ringOf) (d := d) rfl mVX2_span [.int (σ.1 19 v5.toNatClampNeg), .int v2] [.long ((σ.1 20 v5.toNatClampNeg).toInt64)] (gX2_span (E := E) (d := d) (σ.1 19 v5.toNatClampNeg) v2 σ r8h) rfl lmRX2_39 (ci := 2) rfl tX_5 eX_5 rfl (Nat.le_of_ble_eq_true rfl) dX2_ringOf_53 rfl (st2 := [.long r8, .long ((σ.1 20 v5.toNatClampNeg).toInt64)]) rfl (pc2 := 56) rfl ?_
        obtain ⟨r9, r9h, h⟩ := kw_bind_e h
        refine kg_callN (μ := μX2_ringOf) (d := d) rfl mSX9_joined [.long ((σ.1 20 v5.toNatClampNeg).toInt64), .long r8] [] (gX9_joined (E := E) (d := d) ((σ.1 20 v5.toNatClampNeg).toInt64) r8 σ r9h) rfl lnRX2_77 rfl (Nat.le_of_ble_eq_true rfl) dX2_ringOf_56 rfl (st2 := [.long r9]) rfl (pc2 := 59) rfl ?_
        refine kg_lstore dX2_ringOf_59 (Nat.le_of_ble_eq_true rfl) rfl (lv2 := [(6, .long r9), (0, .ref 5), (1, .ref 12), (2, .int v2), (3, .long v3), (5, .int v5)]) rfl (pc2 := 61) rfl ?_
        refine kg_lload 0 dX2_ringOf_61 rfl (pc2 := 63) rfl ?_
        refine kg_lload_n 4 dX2_ringOf_63 rfl (pc2 := 64) rfl ?_
        obtain ⟨r10, r10h, h⟩ := kw_bind_e h
        refine kg_callN (μ := μX2_ringOf) (d := d) rfl mSX9_isLess [.long r9, .long v3] [] (gX9_isLess (E := E) (d := d) r9 v3 σ r10h) rfl lnRX2_57 rfl (Nat.le_of_ble_eq_true rfl) dX2_ringOf_64 rfl (st2 := [.int r10]) rfl (pc2 := 67) rfl ?_
        refine kg_if_eq 75 dX2_ringOf_67 rfl (pc2 := 70) rfl (fun q11 => ?_) (fun q11 => ?_)
        · replace h := (if_pos q11).symm.trans h
          refine kg_lload_n 4 dX2_ringOf_75 rfl (pc2 := 76) rfl ?_
          refine kg_lstore_n dX2_ringOf_76 rfl (Nat.le_of_ble_eq_true rfl) rfl (lv2 := [(3, .long v3), (6, .long r9), (0, .ref 5), (1, .ref 12), (2, .int v2), (5, .int v5)]) rfl (pc2 := 77) rfl ?_
          obtain ⟨x12, x12e, h⟩ := kw_let_e h
          refine kg_iinc 5 dX2_ringOf_77 rfl (Nat.le_of_ble_eq_true rfl) x12e (lv2 := [(5, .int x12), (3, .long v3), (6, .long r9), (0, .ref 5), (1, .ref 12), (2, .int v2)]) rfl (pc2 := 80) rfl ?_
          refine kg_goto 7 dX2_ringOf_80 rfl ?_
          refine kg_sub [3, 4, 5, 1, 0] (lv2 := [(0, .ref 5), (1, .ref 12), (2, .int v2), (3, .long v3), (5, .int x12)]) rfl ?_
          cases h
          exact hk
        · replace h := (if_neg q11).symm.trans h
          refine kg_lload 0 dX2_ringOf_70 rfl (pc2 := 72) rfl ?_
          refine kg_goto 76 dX2_ringOf_72 rfl ?_
          refine kg_lstore_n dX2_ringOf_76 rfl (Nat.le_of_ble_eq_true rfl) rfl (lv2 := [(3, .long r9), (6, .long r9), (0, .ref 5), (1, .ref 12), (2, .int v2), (5, .int v5)]) rfl (pc2 := 77) rfl ?_
          obtain ⟨x13, x13e, h⟩ := kw_let_e h
          refine kg_iinc 5 dX2_ringOf_77 rfl (Nat.le_of_ble_eq_true rfl) x13e (lv2 := [(5, .int x13), (3, .long r9), (6, .long r9), (0, .ref 5), (1, .ref 12), (2, .int v2)]) rfl (pc2 := 80) rfl ?_
          refine kg_goto 7 dX2_ringOf_80 rfl ?_
          refine kg_sub [3, 4, 5, 1, 0] (lv2 := [(0, .ref 5), (1, .ref 12), (2, .int v2), (3, .long r9), (5, .int x13)]) rfl ?_
          cases h
          exact hk
def fX2_ringOf (a2 : Int32) (σ : kw_M) : Option (Int64) :=
 (kw_loop (fun s => bX2_ringOf_7 a2 σ s.1 s.2) kw_F ((-9000000000000000000 : Int64), (0 : Int32))).bind fun x14 =>
 some x14
set_option maxHeartbeats 4000000 in
set_option maxRecDepth 100000 in
theorem gX2_ringOf {E : kw_E} {d : Nat} (a2 : Int32) (σ : kw_M) {r : Int64} (h : fX2_ringOf a2 σ = some r) : kw_Met E kwTX 47 (d + 1) μX2_ringOf [.ref 5, .ref 12, .int a2] σ (some (Value.long r)) σ := by
  refine kw_enter plRX2 (Nat.le_of_ble_eq_true rfl) ?_
  show kw_G E kwTX 47 (d + 1) μX2_ringOf 0 [(0, .ref 5), (1, .ref 12), (2, .int a2)] [] σ (some (Value.long r)) σ
  unfold fX2_ringOf at h
  refine kg_ldc2 rfl lcRX2_43 dX2_ringOf_0 (pc2 := 3) rfl ?_
  refine kg_lstore_n dX2_ringOf_3 rfl (Nat.le_of_ble_eq_true rfl) rfl (lv2 := [(3, .long (-9000000000000000000 : Int64)), (0, .ref 5), (1, .ref 12), (2, .int a2)]) rfl (pc2 := 4) rfl ?_
  refine kg_iconst dX2_ringOf_4 ki_0 (pc2 := 5) rfl ?_
  refine kg_istore dX2_ringOf_5 (Nat.le_of_ble_eq_true rfl) rfl (lv2 := [(5, .int (0 : Int32)), (3, .long (-9000000000000000000 : Int64)), (0, .ref 5), (1, .ref 12), (2, .int a2)]) rfl (pc2 := 7) rfl ?_
  refine kg_sub [2, 3, 4, 1, 0] (lv2 := [(0, .ref 5), (1, .ref 12), (2, .int a2), (3, .long (-9000000000000000000 : Int64)), (5, .int (0 : Int32))]) rfl ?_
  obtain ⟨x14, x14h, h⟩ := kw_bind_e h
  refine kw_loop_e (P := fun s => kw_G E kwTX 47 (d + 1) μX2_ringOf 7 [(0, .ref 5), (1, .ref 12), (2, .int a2), (3, .long s.1), (5, .int s.2)] [] σ (some (Value.long r)) σ) (K := fun y => kw_G E kwTX 47 (d + 1) μX2_ringOf 83 [(3, .long y)] [] σ (some (Value.long r)) σ) (fun s o h0 hk => lX2_ringOf_7 a2 σ s.1 s.2 h0 hk) kw_F _ _ x14h ?_
  show kw_G E kwTX 47 (d + 1) μX2_ringOf 83 [(3, .long x14)] [] σ (some (Value.long r)) σ
  refine kg_lload_n 0 dX2_ringOf_83 rfl (pc2 := 84) rfl ?_
  cases h
  exact kg_lret dX2_ringOf_84 rfl
