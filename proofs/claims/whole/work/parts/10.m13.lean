/-! The reference, method by method: what it computes (f), and that the machine does so (g). -/
def fX10_seed (a1 : Int32) (σ : kw_M) : Option (Int32 × kw_M) :=
 (fX10_in a1.toInt64 (0 : Int64) (65535 : Int64) σ).bind fun r1 =>
 if r1 = (0 : Int32) then
 (some ((0 : Int32), σ))
 else
 kw_let (kw_si σ 1 5 a1) fun s3 =>
 some ((1 : Int32), s3)
set_option maxHeartbeats 4000000 in
set_option maxRecDepth 100000 in
theorem gX10_seed {E : kw_E} {d : Nat} (a1 : Int32) (σ : kw_M) {r : Int32 × kw_M} (h : fX10_seed a1 σ = some r) : kw_Met E kwTM 21 (d + 1) μX10_seed [.ref 0, .int a1] σ (some (Value.int r.1)) r.2 := by
  refine kw_enter plRX10 (Nat.le_of_ble_eq_true rfl) ?_
  show kw_G E kwTM 21 (d + 1) μX10_seed 0 [(0, .ref 0), (1, .int a1)] [] σ (some (Value.int r.1)) r.2
  unfold fX10_seed at h
  refine kg_iload_n 1 dX10_seed_0 rfl (pc2 := 1) rfl ?_
  refine kg_i2l dX10_seed_1 (pc2 := 2) rfl ?_
  refine kg_lconst dX10_seed_2 kl_0 (pc2 := 3) rfl ?_
  refine kg_ldc2 rfl lcRX10_447 dX10_seed_3 (pc2 := 6) rfl ?_
  obtain ⟨r1, r1h, h⟩ := kw_bind_e h
  refine kg_callS (μ := μX10_seed) (d := d) rfl mSX10_in [.long a1.toInt64, .long (0 : Int64), .long (65535 : Int64)] [] (gX10_in (E := E) (d := d) a1.toInt64 (0 : Int64) (65535 : Int64) σ r1h) rfl lmRX10_81 rfl (Nat.le_of_ble_eq_true rfl) dX10_seed_6 rfl (st2 := [.int r1]) rfl (pc2 := 9) rfl ?_
  refine kg_if_ne 14 dX10_seed_9 rfl (pc2 := 12) rfl (fun q2 => ?_) (fun q2 => ?_)
  · replace h := (if_neg q2).symm.trans h
    refine kg_aload_n 0 dX10_seed_14 rfl (pc2 := 15) rfl ?_
    refine kg_getr clX10 rfl 0 (Nat.le_of_ble_eq_true rfl) lfRX10_7 tM_0 eM_0 rfl dX10_seed_15 (pc2 := 18) rfl ?_
    refine kg_iconst dX10_seed_18 ki_5 (pc2 := 19) rfl ?_
    refine kg_iload_n 1 dX10_seed_19 rfl (pc2 := 20) rfl ?_
    obtain ⟨s3, s3e, h⟩ := kw_let_e h
    refine kg_iast tM_1 eM_1 (show kw_in (5 : Int32) 2832 by decide) (j := 5) (by decide) s3e dX10_seed_20 (pc2 := 21) rfl ?_
    refine kg_iconst dX10_seed_21 ki_1 (pc2 := 22) rfl ?_
    cases h
    exact kg_iret (ty := .boolean) dX10_seed_22 rfl rfl
  · replace h := (if_pos q2).symm.trans h
    refine kg_iconst dX10_seed_12 ki_0 (pc2 := 13) rfl ?_
    cases h
    exact kg_iret (ty := .boolean) dX10_seed_13 rfl rfl
def fX10_keep (σ : kw_M) : Option (Int32 × kw_M) :=
 kw_let (kw_si σ 0 1 (1 : Int32)) fun s1 =>
 (fX10_copies (0 : Int32) (1 : Int32) s1).bind fun r2 =>
 some ((r2.1 1 3), r2)
set_option maxHeartbeats 4000000 in
set_option maxRecDepth 100000 in
theorem gX10_keep {E : kw_E} {d : Nat} (σ : kw_M) {r : Int32 × kw_M} (h : fX10_keep σ = some r) : kw_Met E kwTM 21 (d + 1) μX10_keep [.ref 0] σ (some (Value.int r.1)) r.2 := by
  refine kw_enter plRX10 (Nat.le_of_ble_eq_true rfl) ?_
  show kw_G E kwTM 21 (d + 1) μX10_keep 0 [(0, .ref 0)] [] σ (some (Value.int r.1)) r.2
  unfold fX10_keep at h
  refine kg_aload_n 0 dX10_keep_0 rfl (pc2 := 1) rfl ?_
  refine kg_iconst dX10_keep_1 ki_1 (pc2 := 2) rfl ?_
  obtain ⟨s1, s1e, h⟩ := kw_let_e h
  refine kg_puti clX10 rfl 1 (Nat.le_of_ble_eq_true rfl) lfRX10_270 rfl tM_0 eM_0 rfl (ty := .boolean) (by decide +kernel) rfl rfl s1e dX10_keep_2 (pc2 := 5) rfl ?_
  refine kg_aload_n 0 dX10_keep_5 rfl (pc2 := 6) rfl ?_
  refine kg_iconst dX10_keep_6 ki_0 (pc2 := 7) rfl ?_
  refine kg_iconst dX10_keep_7 ki_1 (pc2 := 8) rfl ?_
  obtain ⟨r2, r2h, h⟩ := kw_bind_e h
  refine kg_callV (μ := μX10_keep) (d := d) rfl mVX10_copies [.int (0 : Int32), .int (1 : Int32)] [] (gX10_copies (E := E) (d := d) (0 : Int32) (1 : Int32) s1 r2h) rfl lmRX10_107 (ci := 10) rfl tM_0 eM_0 rfl (Nat.le_of_ble_eq_true rfl) dX10_keep_8 rfl (st2 := []) rfl (pc2 := 11) rfl ?_
  refine kg_aload_n 0 dX10_keep_11 rfl (pc2 := 12) rfl ?_
  refine kg_getr clX10 rfl 0 (Nat.le_of_ble_eq_true rfl) lfRX10_7 tM_0 eM_0 rfl dX10_keep_12 (pc2 := 15) rfl ?_
  refine kg_iconst dX10_keep_15 ki_3 (pc2 := 16) rfl ?_
  refine kg_iald tM_1 eM_1 (show kw_in (3 : Int32) 2832 by decide) (j := 3) (by decide) dX10_keep_16 (pc2 := 17) rfl ?_
  cases h
  exact kg_iret (ty := .int) dX10_keep_17 rfl rfl
def fX10_undo (σ : kw_M) : Option (Int32 × kw_M) :=
 if (σ.1 0 1) = (0 : Int32) then
 (some ((0 : Int32), σ))
 else
 (fX10_copies (1 : Int32) (0 : Int32) σ).bind fun r2 =>
 some ((1 : Int32), r2)
set_option maxHeartbeats 4000000 in
set_option maxRecDepth 100000 in
theorem gX10_undo {E : kw_E} {d : Nat} (σ : kw_M) {r : Int32 × kw_M} (h : fX10_undo σ = some r) : kw_Met E kwTM 21 (d + 1) μX10_undo [.ref 0] σ (some (Value.int r.1)) r.2 := by
  refine kw_enter plRX10 (Nat.le_of_ble_eq_true rfl) ?_
  show kw_G E kwTM 21 (d + 1) μX10_undo 0 [(0, .ref 0)] [] σ (some (Value.int r.1)) r.2
  unfold fX10_undo at h
  refine kg_aload_n 0 dX10_undo_0 rfl (pc2 := 1) rfl ?_
  refine kg_geti clX10 rfl 1 (Nat.le_of_ble_eq_true rfl) lfRX10_270 tM_0 eM_0 rfl dX10_undo_1 (pc2 := 4) rfl ?_
  refine kg_if_ne 9 dX10_undo_4 rfl (pc2 := 7) rfl (fun q1 => ?_) (fun q1 => ?_)
  · replace h := (if_neg q1).symm.trans h
    refine kg_aload_n 0 dX10_undo_9 rfl (pc2 := 10) rfl ?_
    refine kg_iconst dX10_undo_10 ki_1 (pc2 := 11) rfl ?_
    refine kg_iconst dX10_undo_11 ki_0 (pc2 := 12) rfl ?_
    obtain ⟨r2, r2h, h⟩ := kw_bind_e h
    refine kg_callV (μ := μX10_undo) (d := d) rfl mVX10_copies [.int (1 : Int32), .int (0 : Int32)] [] (gX10_copies (E := E) (d := d) (1 : Int32) (0 : Int32) σ r2h) rfl lmRX10_107 (ci := 10) rfl tM_0 eM_0 rfl (Nat.le_of_ble_eq_true rfl) dX10_undo_12 rfl (st2 := []) rfl (pc2 := 15) rfl ?_
    refine kg_iconst dX10_undo_15 ki_1 (pc2 := 16) rfl ?_
    cases h
    exact kg_iret (ty := .boolean) dX10_undo_16 rfl rfl
  · replace h := (if_pos q1).symm.trans h
    refine kg_iconst dX10_undo_7 ki_0 (pc2 := 8) rfl ?_
    cases h
    exact kg_iret (ty := .boolean) dX10_undo_8 rfl rfl
def jX10_check_75_L33 (v2 : Int32) (v3 : Int32) (t0 : Int32) (t1 : Int32) (σ : kw_M) : Option ((Int32 × Int32) ⊕ (Int32)) :=
 if t1 = t0 then
 (kw_let (v3 + (-1 : Int32)) fun x15 =>
 some (.inl (v2, x15)))
 else
 kw_let (v3 + (-1 : Int32)) fun x16 =>
 some (.inl (v3, x16))
set_option maxHeartbeats 4000000 in
set_option maxRecDepth 100000 in
theorem gjX10_check_75_L33 {E : kw_E} {d : Nat} (v2 : Int32) (v3 : Int32) (t0 : Int32) (t1 : Int32) (σ : kw_M) {v : Option Value} {σ2 : kw_M} {o : (Int32 × Int32) ⊕ (Int32)} (h : jX10_check_75_L33 v2 v3 t0 t1 σ = some o) (hk : Sum.elim (fun s => kw_G E kwTM 21 (d + 4) μX10_check 33 [(0, .ref 0), (2, .int s.1), (3, .int s.2)] [] σ v σ2) (fun y => kw_G E kwTM 21 (d + 4) μX10_check 86 [(0, .ref 0), (2, .int y)] [] σ v σ2) o) : kw_G E kwTM 21 (d + 4) μX10_check 75 [(0, .ref 0), (2, .int v2), (3, .int v3)] [.int t0, .int t1] σ v σ2 := by
  unfold jX10_check_75_L33 at h
  refine kg_icmp_eq 80 dX10_check_75 rfl (pc2 := 78) rfl (fun q14 => ?_) (fun q14 => ?_)
  · replace h := (if_pos q14).symm.trans h
    obtain ⟨x15, x15e, h⟩ := kw_let_e h
    refine kg_iinc 2 dX10_check_80 rfl (Nat.le_of_ble_eq_true rfl) x15e (lv2 := [(3, .int x15), (0, .ref 0), (2, .int v2)]) rfl (pc2 := 83) rfl ?_
    refine kg_goto 33 dX10_check_83 rfl ?_
    refine kg_sub [1, 2, 0] (lv2 := [(0, .ref 0), (2, .int v2), (3, .int x15)]) rfl ?_
    cases h
    exact hk
  · replace h := (if_neg q14).symm.trans h
    refine kg_iload_n 2 dX10_check_78 rfl (pc2 := 79) rfl ?_
    refine kg_istore_n dX10_check_79 rfl (Nat.le_of_ble_eq_true rfl) rfl (lv2 := [(2, .int v3), (0, .ref 0), (3, .int v3)]) rfl (pc2 := 80) rfl ?_
    obtain ⟨x16, x16e, h⟩ := kw_let_e h
    refine kg_iinc 2 dX10_check_80 rfl (Nat.le_of_ble_eq_true rfl) x16e (lv2 := [(3, .int x16), (2, .int v3), (0, .ref 0)]) rfl (pc2 := 83) rfl ?_
    refine kg_goto 33 dX10_check_83 rfl ?_
    refine kg_sub [2, 1, 0] (lv2 := [(0, .ref 0), (2, .int v3), (3, .int x16)]) rfl ?_
    cases h
    exact hk
def bX10_check_33 (σ : kw_M) (v2 : Int32) (v3 : Int32) : Option ((Int32 × Int32) ⊕ (Int32)) :=
 if v3 < (0 : Int32) then
 (some (.inr v2))
 else
 (fX10_towns σ).bind fun r7 =>
 if r7 ≤ v3 then
 (kw_let (v3 + (-1 : Int32)) fun x9 =>
 some (.inl (v3, x9)))
 else
 kw_chk (kw_in v3 240) <|
 (fX10_parentOf v3 σ).bind fun r11 =>
 if r11 = (-1 : Int32) then
 (jX10_check_75_L33 v2 v3 (255 : Int32) ((σ.1 5 v3.toNatClampNeg) &&& (255 : Int32)) σ)
 else
 (fX10_parentOf v3 σ).bind fun r13 =>
 jX10_check_75_L33 v2 v3 r13 ((σ.1 5 v3.toNatClampNeg) &&& (255 : Int32)) σ
set_option maxHeartbeats 4000000 in
set_option maxRecDepth 100000 in
theorem lX10_check_33 {E : kw_E} {d : Nat} (σ : kw_M) (v2 : Int32) (v3 : Int32) {v : Option Value} {σ2 : kw_M} {o : (Int32 × Int32) ⊕ (Int32)} (h : bX10_check_33 σ v2 v3 = some o) (hk : Sum.elim (fun s => kw_G E kwTM 21 (d + 4) μX10_check 33 [(0, .ref 0), (2, .int s.1), (3, .int s.2)] [] σ v σ2) (fun y => kw_G E kwTM 21 (d + 4) μX10_check 86 [(0, .ref 0), (2, .int y)] [] σ v σ2) o) : kw_G E kwTM 21 (d + 4) μX10_check 33 [(0, .ref 0), (2, .int v2), (3, .int v3)] [] σ v σ2 := by
  unfold bX10_check_33 at h
  refine kg_iload_n 2 dX10_check_33 rfl (pc2 := 34) rfl ?_
  refine kg_if_lt 86 dX10_check_34 rfl (pc2 := 37) rfl (fun q6 => ?_) (fun q6 => ?_)
  · replace h := (if_pos q6).symm.trans h
    refine kg_sub [0, 1] (lv2 := [(0, .ref 0), (2, .int v2)]) rfl ?_
    cases h
    exact hk
  · replace h := (if_neg q6).symm.trans h
    refine kg_iload_n 2 dX10_check_37 rfl (pc2 := 38) rfl ?_
    refine kg_aload_n 0 dX10_check_38 rfl (pc2 := 39) rfl ?_
    obtain ⟨r7, r7h, h⟩ := kw_bind_e h
    refine kg_callV (μ := μX10_check) (d := (d + 3)) rfl mVX10_towns [] [.int v3] (gX10_towns (E := E) (d := (d + 3)) σ r7h) rfl lmRX10_77 (ci := 10) rfl tM_0 eM_0 rfl (Nat.le_of_ble_eq_true rfl) dX10_check_39 rfl (st2 := [.int r7, .int v3]) rfl (pc2 := 42) rfl ?_
    refine kg_icmp_ge 78 dX10_check_42 rfl (pc2 := 45) rfl (fun q8 => ?_) (fun q8 => ?_)
    · replace h := (if_pos q8).symm.trans h
      refine kg_iload_n 2 dX10_check_78 rfl (pc2 := 79) rfl ?_
      refine kg_istore_n dX10_check_79 rfl (Nat.le_of_ble_eq_true rfl) rfl (lv2 := [(2, .int v3), (0, .ref 0), (3, .int v3)]) rfl (pc2 := 80) rfl ?_
      obtain ⟨x9, x9e, h⟩ := kw_let_e h
      refine kg_iinc 2 dX10_check_80 rfl (Nat.le_of_ble_eq_true rfl) x9e (lv2 := [(3, .int x9), (2, .int v3), (0, .ref 0)]) rfl (pc2 := 83) rfl ?_
      refine kg_goto 33 dX10_check_83 rfl ?_
      refine kg_sub [2, 1, 0] (lv2 := [(0, .ref 0), (2, .int v3), (3, .int x9)]) rfl ?_
      cases h
      exact hk
    · replace h := (if_neg q8).symm.trans h
      refine kg_aload_n 0 dX10_check_45 rfl (pc2 := 46) rfl ?_
      refine kg_getr clX10 rfl 5 (Nat.le_of_ble_eq_true rfl) lfRX10_23 tM_0 eM_0 rfl dX10_check_46 (pc2 := 49) rfl ?_
      refine kg_iload_n 2 dX10_check_49 rfl (pc2 := 50) rfl ?_
      obtain ⟨q10, h⟩ := kw_chk_e h
      refine kg_bald tM_5 eM_5 q10 (j := v3.toNatClampNeg) rfl dX10_check_50 (pc2 := 51) rfl ?_
      refine kg_sipush dX10_check_51 ks_255 (pc2 := 54) rfl ?_
      refine kg_iand dX10_check_54 (pc2 := 55) rfl ?_
      refine kg_aload_n 0 dX10_check_55 rfl (pc2 := 56) rfl ?_
      refine kg_iload_n 2 dX10_check_56 rfl (pc2 := 57) rfl ?_
      obtain ⟨r11, r11h, h⟩ := kw_bind_e h
      refine kg_callV (μ := μX10_check) (d := (d + 3)) rfl mVX10_parentOf [.int v3] [.int ((σ.1 5 v3.toNatClampNeg) &&& (255 : Int32))] (gX10_parentOf (E := E) (d := d) v3 σ r11h) rfl lmRX10_306 (ci := 10) rfl tM_0 eM_0 rfl (Nat.le_of_ble_eq_true rfl) dX10_check_57 rfl (st2 := [.int r11, .int ((σ.1 5 v3.toNatClampNeg) &&& (255 : Int32))]) rfl (pc2 := 60) rfl ?_
      refine kg_iconst dX10_check_60 ki_m1 (pc2 := 61) rfl ?_
      refine kg_icmp_ne 70 dX10_check_61 rfl (pc2 := 64) rfl (fun q12 => ?_) (fun q12 => ?_)
      · replace h := (if_neg q12).symm.trans h
        refine kg_aload_n 0 dX10_check_70 rfl (pc2 := 71) rfl ?_
        refine kg_iload_n 2 dX10_check_71 rfl (pc2 := 72) rfl ?_
        obtain ⟨r13, r13h, h⟩ := kw_bind_e h
        refine kg_callV (μ := μX10_check) (d := (d + 3)) rfl mVX10_parentOf [.int v3] [.int ((σ.1 5 v3.toNatClampNeg) &&& (255 : Int32))] (gX10_parentOf (E := E) (d := d) v3 σ r13h) rfl lmRX10_306 (ci := 10) rfl tM_0 eM_0 rfl (Nat.le_of_ble_eq_true rfl) dX10_check_72 rfl (st2 := [.int r13, .int ((σ.1 5 v3.toNatClampNeg) &&& (255 : Int32))]) rfl (pc2 := 75) rfl ?_
        exact gjX10_check_75_L33 v2 v3 r13 ((σ.1 5 v3.toNatClampNeg) &&& (255 : Int32)) σ h hk
      · replace h := (if_pos q12).symm.trans h
        refine kg_sipush dX10_check_64 ks_255 (pc2 := 67) rfl ?_
        refine kg_goto 75 dX10_check_67 rfl ?_
        exact gjX10_check_75_L33 v2 v3 (255 : Int32) ((σ.1 5 v3.toNatClampNeg) &&& (255 : Int32)) σ h hk
def fX10_check (a1 : Int32) (σ : kw_M) : Option (Int32 × kw_M) :=
 (fX10_in a1.toInt64 (0 : Int64) (12 : Int64) σ).bind fun r1 =>
 if r1 = (0 : Int32) then
 (some ((-2 : Int32), σ))
 else
 if a1 ≤ (σ.1 0 6) then
 ((fX10_settles σ).bind fun r4 =>
 kw_let (a1 - (1 : Int32)) fun x5 =>
 (kw_loop (fun s => bX10_check_33 r4 s.1 s.2) kw_F ((-1 : Int32), x5)).bind fun x17 =>
 kw_let (kw_si r4 0 6 (0 : Int32)) fun s18 =>
 some (x17, s18))
 else
 some ((-2 : Int32), σ)
set_option maxHeartbeats 4000000 in
set_option maxRecDepth 100000 in
theorem gX10_check {E : kw_E} {d : Nat} (a1 : Int32) (σ : kw_M) {r : Int32 × kw_M} (h : fX10_check a1 σ = some r) : kw_Met E kwTM 21 (d + 4) μX10_check [.ref 0, .int a1] σ (some (Value.int r.1)) r.2 := by
  refine kw_enter plRX10 (Nat.le_of_ble_eq_true rfl) ?_
  show kw_G E kwTM 21 (d + 4) μX10_check 0 [(0, .ref 0), (1, .int a1)] [] σ (some (Value.int r.1)) r.2
  unfold fX10_check at h
  refine kg_iload_n 1 dX10_check_0 rfl (pc2 := 1) rfl ?_
  refine kg_i2l dX10_check_1 (pc2 := 2) rfl ?_
  refine kg_lconst dX10_check_2 kl_0 (pc2 := 3) rfl ?_
  refine kg_ldc2 rfl lcRX10_222 dX10_check_3 (pc2 := 6) rfl ?_
  obtain ⟨r1, r1h, h⟩ := kw_bind_e h
  refine kg_callS (μ := μX10_check) (d := (d + 3)) rfl mSX10_in [.long a1.toInt64, .long (0 : Int64), .long (12 : Int64)] [] (gX10_in (E := E) (d := (d + 3)) a1.toInt64 (0 : Int64) (12 : Int64) σ r1h) rfl lmRX10_81 rfl (Nat.le_of_ble_eq_true rfl) dX10_check_6 rfl (st2 := [.int r1]) rfl (pc2 := 9) rfl ?_
  refine kg_if_eq 20 dX10_check_9 rfl (pc2 := 12) rfl (fun q2 => ?_) (fun q2 => ?_)
  · replace h := (if_pos q2).symm.trans h
    refine kg_bipush dX10_check_20 kb_m2 (pc2 := 22) rfl ?_
    cases h
    exact kg_iret (ty := .int) dX10_check_22 rfl rfl
  · replace h := (if_neg q2).symm.trans h
    refine kg_iload_n 1 dX10_check_12 rfl (pc2 := 13) rfl ?_
    refine kg_aload_n 0 dX10_check_13 rfl (pc2 := 14) rfl ?_
    refine kg_geti clX10 rfl 6 (Nat.le_of_ble_eq_true rfl) lfRX10_152 tM_0 eM_0 rfl dX10_check_14 (pc2 := 17) rfl ?_
    refine kg_icmp_le 23 dX10_check_17 rfl (pc2 := 20) rfl (fun q3 => ?_) (fun q3 => ?_)
    · replace h := (if_pos q3).symm.trans h
      refine kg_aload_n 0 dX10_check_23 rfl (pc2 := 24) rfl ?_
      obtain ⟨r4, r4h, h⟩ := kw_bind_e h
      refine kg_callV (μ := μX10_check) (d := (d + 3)) rfl mVX10_settles [] [] (gX10_settles (E := E) (d := d) σ r4h) rfl lmRX10_104 (ci := 10) rfl tM_0 eM_0 rfl (Nat.le_of_ble_eq_true rfl) dX10_check_24 rfl (st2 := []) rfl (pc2 := 27) rfl ?_
      refine kg_iconst dX10_check_27 ki_m1 (pc2 := 28) rfl ?_
      refine kg_istore_n dX10_check_28 rfl (Nat.le_of_ble_eq_true rfl) rfl (lv2 := [(2, .int (-1 : Int32)), (0, .ref 0), (1, .int a1)]) rfl (pc2 := 29) rfl ?_
      refine kg_iload_n 2 dX10_check_29 rfl (pc2 := 30) rfl ?_
      refine kg_iconst dX10_check_30 ki_1 (pc2 := 31) rfl ?_
      refine kg_isub dX10_check_31 (pc2 := 32) rfl ?_
      obtain ⟨x5, x5e, h⟩ := kw_let_e h
      refine kg_istore_n dX10_check_32 rfl (Nat.le_of_ble_eq_true rfl) x5e (lv2 := [(3, .int x5), (2, .int (-1 : Int32)), (0, .ref 0), (1, .int a1)]) rfl (pc2 := 33) rfl ?_
      refine kg_sub [2, 1, 0] (lv2 := [(0, .ref 0), (2, .int (-1 : Int32)), (3, .int x5)]) rfl ?_
      obtain ⟨x17, x17h, h⟩ := kw_bind_e h
      refine kw_loop_e (P := fun s => kw_G E kwTM 21 (d + 4) μX10_check 33 [(0, .ref 0), (2, .int s.1), (3, .int s.2)] [] r4 (some (Value.int r.1)) r.2) (K := fun y => kw_G E kwTM 21 (d + 4) μX10_check 86 [(0, .ref 0), (2, .int y)] [] r4 (some (Value.int r.1)) r.2) (fun s o h0 hk => lX10_check_33 r4 s.1 s.2 h0 hk) kw_F _ _ x17h ?_
      show kw_G E kwTM 21 (d + 4) μX10_check 86 [(0, .ref 0), (2, .int x17)] [] r4 (some (Value.int r.1)) r.2
      refine kg_aload_n 0 dX10_check_86 rfl (pc2 := 87) rfl ?_
      refine kg_iconst dX10_check_87 ki_0 (pc2 := 88) rfl ?_
      obtain ⟨s18, s18e, h⟩ := kw_let_e h
      refine kg_puti clX10 rfl 6 (Nat.le_of_ble_eq_true rfl) lfRX10_152 rfl tM_0 eM_0 rfl (ty := .int) (by decide +kernel) rfl rfl s18e dX10_check_88 (pc2 := 91) rfl ?_
      refine kg_iload_n 1 dX10_check_91 rfl (pc2 := 92) rfl ?_
      cases h
      exact kg_iret (ty := .int) dX10_check_92 rfl rfl
    · replace h := (if_neg q3).symm.trans h
      refine kg_bipush dX10_check_20 kb_m2 (pc2 := 22) rfl ?_
      cases h
      exact kg_iret (ty := .int) dX10_check_22 rfl rfl
