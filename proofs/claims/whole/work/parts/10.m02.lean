/-! The reference, method by method: what it computes (f), and that the machine does so (g). -/
def fX10_touched (a1 : Int32) (σ : kw_M) : Option (Int32) :=
 if (0 : Int32) ≤ a1 then
 (if (σ.1 1 6) ≤ a1 then
 (some (-4 : Int32))
 else
 kw_chk (kw_in ((16 : Int32) + a1) 2832) <|
 some (σ.1 1 ((16 : Int32) + a1).toNatClampNeg))
 else
 some (-1 : Int32)
set_option maxHeartbeats 4000000 in
set_option maxRecDepth 100000 in
theorem gX10_touched {E : kw_E} {d : Nat} (a1 : Int32) (σ : kw_M) {r : Int32} (h : fX10_touched a1 σ = some r) : kw_Met E kwTM 21 d μX10_touched [.ref 0, .int a1] σ (some (Value.int r)) σ := by
  refine kw_enter plRX10 (Nat.le_of_ble_eq_true rfl) ?_
  show kw_G E kwTM 21 d μX10_touched 0 [(0, .ref 0), (1, .int a1)] [] σ (some (Value.int r)) σ
  unfold fX10_touched at h
  refine kg_iload_n 1 dX10_touched_0 rfl (pc2 := 1) rfl ?_
  refine kg_if_ge 8 dX10_touched_1 rfl (pc2 := 4) rfl (fun q1 => ?_) (fun q1 => ?_)
  · replace h := (if_pos q1).symm.trans h
    refine kg_iload_n 1 dX10_touched_8 rfl (pc2 := 9) rfl ?_
    refine kg_aload_n 0 dX10_touched_9 rfl (pc2 := 10) rfl ?_
    refine kg_getr clX10 rfl 0 (Nat.le_of_ble_eq_true rfl) lfRX10_7 tM_0 eM_0 rfl dX10_touched_10 (pc2 := 13) rfl ?_
    refine kg_bipush dX10_touched_13 kb_6 (pc2 := 15) rfl ?_
    refine kg_iald tM_1 eM_1 (show kw_in (6 : Int32) 2832 by decide) (j := 6) (by decide) dX10_touched_15 (pc2 := 16) rfl ?_
    refine kg_icmp_ge 31 dX10_touched_16 rfl (pc2 := 19) rfl (fun q2 => ?_) (fun q2 => ?_)
    · replace h := (if_pos q2).symm.trans h
      refine kg_bipush dX10_touched_31 kb_m4 (pc2 := 33) rfl ?_
      cases h
      exact kg_iret (ty := .int) dX10_touched_33 rfl rfl
    · replace h := (if_neg q2).symm.trans h
      refine kg_aload_n 0 dX10_touched_19 rfl (pc2 := 20) rfl ?_
      refine kg_getr clX10 rfl 0 (Nat.le_of_ble_eq_true rfl) lfRX10_7 tM_0 eM_0 rfl dX10_touched_20 (pc2 := 23) rfl ?_
      refine kg_bipush dX10_touched_23 kb_16 (pc2 := 25) rfl ?_
      refine kg_iload_n 1 dX10_touched_25 rfl (pc2 := 26) rfl ?_
      refine kg_iadd dX10_touched_26 (pc2 := 27) rfl ?_
      obtain ⟨q3, h⟩ := kw_chk_e h
      refine kg_iald tM_1 eM_1 q3 (j := ((16 : Int32) + a1).toNatClampNeg) rfl dX10_touched_27 (pc2 := 28) rfl ?_
      refine kg_goto 33 dX10_touched_28 rfl ?_
      cases h
      exact kg_iret (ty := .int) dX10_touched_33 rfl rfl
  · replace h := (if_neg q1).symm.trans h
    refine kg_iconst dX10_touched_4 ki_m1 (pc2 := 5) rfl ?_
    refine kg_goto 33 dX10_touched_5 rfl ?_
    cases h
    exact kg_iret (ty := .int) dX10_touched_33 rfl rfl
def bX10_types_2 (v1 : Int32) (v2 : Int32) (σ : kw_M) : Option ((Int32 × kw_M) ⊕ (kw_M)) :=
 if v2 < (0 : Int32) then
 (some (.inr σ))
 else
 kw_chk (kw_in (σ.1 0 6) 240) <|
 kw_let (kw_si σ 5 (σ.1 0 6).toNatClampNeg (vp_nar .byte ((v1 >>> (((8 : Int32) * v2) &&& 31)).toInt8.toInt32))) fun s3 =>
 kw_let (kw_si s3 0 6 ((s3.1 0 6) + (1 : Int32))) fun s4 =>
 kw_let (v2 + (-1 : Int32)) fun x5 =>
 some (.inl (x5, s4))
set_option maxHeartbeats 4000000 in
set_option maxRecDepth 100000 in
theorem lX10_types_2 {E : kw_E} {d : Nat} (v1 : Int32) (v2 : Int32) (σ : kw_M) {v : Option Value} {σ2 : kw_M} {o : (Int32 × kw_M) ⊕ (kw_M)} (h : bX10_types_2 v1 v2 σ = some o) (hk : Sum.elim (fun s => kw_G E kwTM 21 d μX10_types 2 [(0, .ref 0), (1, .int v1), (2, .int s.1)] [] s.2 v σ2) (fun y => kw_G E kwTM 21 d μX10_types 38 [] [] y v σ2) o) : kw_G E kwTM 21 d μX10_types 2 [(0, .ref 0), (1, .int v1), (2, .int v2)] [] σ v σ2 := by
  unfold bX10_types_2 at h
  refine kg_iload_n 2 dX10_types_2 rfl (pc2 := 3) rfl ?_
  refine kg_if_lt 38 dX10_types_3 rfl (pc2 := 6) rfl (fun q1 => ?_) (fun q1 => ?_)
  · replace h := (if_pos q1).symm.trans h
    refine kg_sub [] (lv2 := []) rfl ?_
    cases h
    exact hk
  · replace h := (if_neg q1).symm.trans h
    refine kg_aload_n 0 dX10_types_6 rfl (pc2 := 7) rfl ?_
    refine kg_getr clX10 rfl 5 (Nat.le_of_ble_eq_true rfl) lfRX10_23 tM_0 eM_0 rfl dX10_types_7 (pc2 := 10) rfl ?_
    refine kg_aload_n 0 dX10_types_10 rfl (pc2 := 11) rfl ?_
    refine kg_geti clX10 rfl 6 (Nat.le_of_ble_eq_true rfl) lfRX10_152 tM_0 eM_0 rfl dX10_types_11 (pc2 := 14) rfl ?_
    refine kg_iload_n 1 dX10_types_14 rfl (pc2 := 15) rfl ?_
    refine kg_bipush dX10_types_15 kb_8 (pc2 := 17) rfl ?_
    refine kg_iload_n 2 dX10_types_17 rfl (pc2 := 18) rfl ?_
    refine kg_imul dX10_types_18 (pc2 := 19) rfl ?_
    refine kg_ishr dX10_types_19 (pc2 := 20) rfl ?_
    refine kg_i2b dX10_types_20 (pc2 := 21) rfl ?_
    obtain ⟨q2, h⟩ := kw_chk_e h
    obtain ⟨s3, s3e, h⟩ := kw_let_e h
    refine kg_bast tM_5 eM_5 q2 (j := (σ.1 0 6).toNatClampNeg) rfl s3e dX10_types_21 (pc2 := 22) rfl ?_
    refine kg_aload_n 0 dX10_types_22 rfl (pc2 := 23) rfl ?_
    refine kg_aload_n 0 dX10_types_23 rfl (pc2 := 24) rfl ?_
    refine kg_geti clX10 rfl 6 (Nat.le_of_ble_eq_true rfl) lfRX10_152 tM_0 eM_0 rfl dX10_types_24 (pc2 := 27) rfl ?_
    refine kg_iconst dX10_types_27 ki_1 (pc2 := 28) rfl ?_
    refine kg_iadd dX10_types_28 (pc2 := 29) rfl ?_
    obtain ⟨s4, s4e, h⟩ := kw_let_e h
    refine kg_puti clX10 rfl 6 (Nat.le_of_ble_eq_true rfl) lfRX10_152 rfl tM_0 eM_0 rfl (ty := .int) (by decide +kernel) rfl rfl s4e dX10_types_29 (pc2 := 32) rfl ?_
    obtain ⟨x5, x5e, h⟩ := kw_let_e h
    refine kg_iinc 2 dX10_types_32 rfl (Nat.le_of_ble_eq_true rfl) x5e (lv2 := [(2, .int x5), (0, .ref 0), (1, .int v1)]) rfl (pc2 := 35) rfl ?_
    refine kg_goto 2 dX10_types_35 rfl ?_
    refine kg_sub [1, 2, 0] (lv2 := [(0, .ref 0), (1, .int v1), (2, .int x5)]) rfl ?_
    cases h
    exact hk
def fX10_types (a1 : Int32) (σ : kw_M) : Option (kw_M) :=
 (kw_loop (fun s => bX10_types_2 a1 s.1 s.2) kw_F ((3 : Int32), σ)).bind fun x6 =>
 some x6
set_option maxHeartbeats 4000000 in
set_option maxRecDepth 100000 in
theorem gX10_types {E : kw_E} {d : Nat} (a1 : Int32) (σ : kw_M) {r : kw_M} (h : fX10_types a1 σ = some r) : kw_Met E kwTM 21 d μX10_types [.ref 0, .int a1] σ none r := by
  refine kw_enter plRX10 (Nat.le_of_ble_eq_true rfl) ?_
  show kw_G E kwTM 21 d μX10_types 0 [(0, .ref 0), (1, .int a1)] [] σ none r
  unfold fX10_types at h
  refine kg_iconst dX10_types_0 ki_3 (pc2 := 1) rfl ?_
  refine kg_istore_n dX10_types_1 rfl (Nat.le_of_ble_eq_true rfl) rfl (lv2 := [(2, .int (3 : Int32)), (0, .ref 0), (1, .int a1)]) rfl (pc2 := 2) rfl ?_
  refine kg_sub [1, 2, 0] (lv2 := [(0, .ref 0), (1, .int a1), (2, .int (3 : Int32))]) rfl ?_
  obtain ⟨x6, x6h, h⟩ := kw_bind_e h
  refine kw_loop_e (P := fun s => kw_G E kwTM 21 d μX10_types 2 [(0, .ref 0), (1, .int a1), (2, .int s.1)] [] s.2 none r) (K := fun y => kw_G E kwTM 21 d μX10_types 38 [] [] y none r) (fun s o h0 hk => lX10_types_2 a1 s.1 s.2 h0 hk) kw_F _ _ x6h ?_
  show kw_G E kwTM 21 d μX10_types 38 [] [] x6 none r
  cases h
  exact kg_vret dX10_types_38 rfl
def fX10_feed (a1 : Int32) (a2 : Int32) (a3 : Int32) (a4 : Int32) (a5 : Int32) (σ : kw_M) : Option (Int32 × kw_M) :=
 if ((σ.1 0 6) + (20 : Int32)) ≤ (240 : Int32) then
 ((fX10_types a1 σ).bind fun r2 =>
 (fX10_types a2 r2).bind fun r3 =>
 (fX10_types a3 r3).bind fun r4 =>
 (fX10_types a4 r4).bind fun r5 =>
 (fX10_types a5 r5).bind fun r6 =>
 some ((r6.1 0 6), r6))
 else
 some ((-1 : Int32), σ)
set_option maxHeartbeats 4000000 in
set_option maxRecDepth 100000 in
theorem gX10_feed {E : kw_E} {d : Nat} (a1 : Int32) (a2 : Int32) (a3 : Int32) (a4 : Int32) (a5 : Int32) (σ : kw_M) {r : Int32 × kw_M} (h : fX10_feed a1 a2 a3 a4 a5 σ = some r) : kw_Met E kwTM 21 (d + 1) μX10_feed [.ref 0, .int a1, .int a2, .int a3, .int a4, .int a5] σ (some (Value.int r.1)) r.2 := by
  refine kw_enter plRX10 (Nat.le_of_ble_eq_true rfl) ?_
  show kw_G E kwTM 21 (d + 1) μX10_feed 0 [(0, .ref 0), (1, .int a1), (2, .int a2), (3, .int a3), (4, .int a4), (5, .int a5)] [] σ (some (Value.int r.1)) r.2
  unfold fX10_feed at h
  refine kg_aload_n 0 dX10_feed_0 rfl (pc2 := 1) rfl ?_
  refine kg_geti clX10 rfl 6 (Nat.le_of_ble_eq_true rfl) lfRX10_152 tM_0 eM_0 rfl dX10_feed_1 (pc2 := 4) rfl ?_
  refine kg_bipush dX10_feed_4 kb_20 (pc2 := 6) rfl ?_
  refine kg_iadd dX10_feed_6 (pc2 := 7) rfl ?_
  refine kg_sipush dX10_feed_7 ks_240 (pc2 := 10) rfl ?_
  refine kg_icmp_le 15 dX10_feed_10 rfl (pc2 := 13) rfl (fun q1 => ?_) (fun q1 => ?_)
  · replace h := (if_pos q1).symm.trans h
    refine kg_aload_n 0 dX10_feed_15 rfl (pc2 := 16) rfl ?_
    refine kg_iload_n 1 dX10_feed_16 rfl (pc2 := 17) rfl ?_
    obtain ⟨r2, r2h, h⟩ := kw_bind_e h
    refine kg_callV (μ := μX10_feed) (d := d) rfl mVX10_types [.int a1] [] (gX10_types (E := E) (d := d) a1 σ r2h) rfl lmRX10_156 (ci := 10) rfl tM_0 eM_0 rfl (Nat.le_of_ble_eq_true rfl) dX10_feed_17 rfl (st2 := []) rfl (pc2 := 20) rfl ?_
    refine kg_aload_n 0 dX10_feed_20 rfl (pc2 := 21) rfl ?_
    refine kg_iload_n 2 dX10_feed_21 rfl (pc2 := 22) rfl ?_
    obtain ⟨r3, r3h, h⟩ := kw_bind_e h
    refine kg_callV (μ := μX10_feed) (d := d) rfl mVX10_types [.int a2] [] (gX10_types (E := E) (d := d) a2 r2 r3h) rfl lmRX10_156 (ci := 10) rfl tM_0 eM_0 rfl (Nat.le_of_ble_eq_true rfl) dX10_feed_22 rfl (st2 := []) rfl (pc2 := 25) rfl ?_
    refine kg_aload_n 0 dX10_feed_25 rfl (pc2 := 26) rfl ?_
    refine kg_iload_n 3 dX10_feed_26 rfl (pc2 := 27) rfl ?_
    obtain ⟨r4, r4h, h⟩ := kw_bind_e h
    refine kg_callV (μ := μX10_feed) (d := d) rfl mVX10_types [.int a3] [] (gX10_types (E := E) (d := d) a3 r3 r4h) rfl lmRX10_156 (ci := 10) rfl tM_0 eM_0 rfl (Nat.le_of_ble_eq_true rfl) dX10_feed_27 rfl (st2 := []) rfl (pc2 := 30) rfl ?_
    refine kg_aload_n 0 dX10_feed_30 rfl (pc2 := 31) rfl ?_
    refine kg_iload 4 dX10_feed_31 rfl (pc2 := 33) rfl ?_
    obtain ⟨r5, r5h, h⟩ := kw_bind_e h
    refine kg_callV (μ := μX10_feed) (d := d) rfl mVX10_types [.int a4] [] (gX10_types (E := E) (d := d) a4 r4 r5h) rfl lmRX10_156 (ci := 10) rfl tM_0 eM_0 rfl (Nat.le_of_ble_eq_true rfl) dX10_feed_33 rfl (st2 := []) rfl (pc2 := 36) rfl ?_
    refine kg_aload_n 0 dX10_feed_36 rfl (pc2 := 37) rfl ?_
    refine kg_iload 5 dX10_feed_37 rfl (pc2 := 39) rfl ?_
    obtain ⟨r6, r6h, h⟩ := kw_bind_e h
    refine kg_callV (μ := μX10_feed) (d := d) rfl mVX10_types [.int a5] [] (gX10_types (E := E) (d := d) a5 r5 r6h) rfl lmRX10_156 (ci := 10) rfl tM_0 eM_0 rfl (Nat.le_of_ble_eq_true rfl) dX10_feed_39 rfl (st2 := []) rfl (pc2 := 42) rfl ?_
    refine kg_aload_n 0 dX10_feed_42 rfl (pc2 := 43) rfl ?_
    refine kg_geti clX10 rfl 6 (Nat.le_of_ble_eq_true rfl) lfRX10_152 tM_0 eM_0 rfl dX10_feed_43 (pc2 := 46) rfl ?_
    cases h
    exact kg_iret (ty := .int) dX10_feed_46 rfl rfl
  · replace h := (if_neg q1).symm.trans h
    refine kg_iconst dX10_feed_13 ki_m1 (pc2 := 14) rfl ?_
    cases h
    exact kg_iret (ty := .int) dX10_feed_14 rfl rfl
def fX10_here (σ : kw_M) : Option (Int32) :=
 if (σ.1 0 8) ≤ (σ.1 0 7) then
 (some (-1 : Int32))
 else
 kw_chk (kw_in (σ.1 0 7) 240) <|
 some ((σ.1 5 (σ.1 0 7).toNatClampNeg) &&& (255 : Int32))
set_option maxHeartbeats 4000000 in
set_option maxRecDepth 100000 in
theorem gX10_here {E : kw_E} {d : Nat} (σ : kw_M) {r : Int32} (h : fX10_here σ = some r) : kw_Met E kwTM 21 d μX10_here [.ref 0] σ (some (Value.int r)) σ := by
  refine kw_enter plRX10 (Nat.le_of_ble_eq_true rfl) ?_
  show kw_G E kwTM 21 d μX10_here 0 [(0, .ref 0)] [] σ (some (Value.int r)) σ
  unfold fX10_here at h
  refine kg_aload_n 0 dX10_here_0 rfl (pc2 := 1) rfl ?_
  refine kg_geti clX10 rfl 7 (Nat.le_of_ble_eq_true rfl) lfRX10_159 tM_0 eM_0 rfl dX10_here_1 (pc2 := 4) rfl ?_
  refine kg_aload_n 0 dX10_here_4 rfl (pc2 := 5) rfl ?_
  refine kg_geti clX10 rfl 8 (Nat.le_of_ble_eq_true rfl) lfRX10_162 tM_0 eM_0 rfl dX10_here_5 (pc2 := 8) rfl ?_
  refine kg_icmp_ge 27 dX10_here_8 rfl (pc2 := 11) rfl (fun q1 => ?_) (fun q1 => ?_)
  · replace h := (if_pos q1).symm.trans h
    refine kg_iconst dX10_here_27 ki_m1 (pc2 := 28) rfl ?_
    cases h
    exact kg_iret (ty := .int) dX10_here_28 rfl rfl
  · replace h := (if_neg q1).symm.trans h
    refine kg_aload_n 0 dX10_here_11 rfl (pc2 := 12) rfl ?_
    refine kg_getr clX10 rfl 5 (Nat.le_of_ble_eq_true rfl) lfRX10_23 tM_0 eM_0 rfl dX10_here_12 (pc2 := 15) rfl ?_
    refine kg_aload_n 0 dX10_here_15 rfl (pc2 := 16) rfl ?_
    refine kg_geti clX10 rfl 7 (Nat.le_of_ble_eq_true rfl) lfRX10_159 tM_0 eM_0 rfl dX10_here_16 (pc2 := 19) rfl ?_
    obtain ⟨q2, h⟩ := kw_chk_e h
    refine kg_bald tM_5 eM_5 q2 (j := (σ.1 0 7).toNatClampNeg) rfl dX10_here_19 (pc2 := 20) rfl ?_
    refine kg_sipush dX10_here_20 ks_255 (pc2 := 23) rfl ?_
    refine kg_iand dX10_here_23 (pc2 := 24) rfl ?_
    refine kg_goto 28 dX10_here_24 rfl ?_
    cases h
    exact kg_iret (ty := .int) dX10_here_28 rfl rfl
def fX10_wrongAt (a1 : Int32) (a2 : Int32) (σ : kw_M) : Option (Int32 × kw_M) :=
 kw_let (kw_si σ 0 9 (((-1000 : Int32) * a1) - a2)) fun s1 =>
 some ((0 : Int32), s1)
set_option maxHeartbeats 4000000 in
set_option maxRecDepth 100000 in
theorem gX10_wrongAt {E : kw_E} {d : Nat} (a1 : Int32) (a2 : Int32) (σ : kw_M) {r : Int32 × kw_M} (h : fX10_wrongAt a1 a2 σ = some r) : kw_Met E kwTM 21 d μX10_wrongAt [.ref 0, .int a1, .int a2] σ (some (Value.int r.1)) r.2 := by
  refine kw_enter plRX10 (Nat.le_of_ble_eq_true rfl) ?_
  show kw_G E kwTM 21 d μX10_wrongAt 0 [(0, .ref 0), (1, .int a1), (2, .int a2)] [] σ (some (Value.int r.1)) r.2
  unfold fX10_wrongAt at h
  refine kg_aload_n 0 dX10_wrongAt_0 rfl (pc2 := 1) rfl ?_
  refine kg_sipush dX10_wrongAt_1 ks_m1000 (pc2 := 4) rfl ?_
  refine kg_iload_n 1 dX10_wrongAt_4 rfl (pc2 := 5) rfl ?_
  refine kg_imul dX10_wrongAt_5 (pc2 := 6) rfl ?_
  refine kg_iload_n 2 dX10_wrongAt_6 rfl (pc2 := 7) rfl ?_
  refine kg_isub dX10_wrongAt_7 (pc2 := 8) rfl ?_
  obtain ⟨s1, s1e, h⟩ := kw_let_e h
  refine kg_puti clX10 rfl 9 (Nat.le_of_ble_eq_true rfl) lfRX10_165 rfl tM_0 eM_0 rfl (ty := .int) (by decide +kernel) rfl rfl s1e dX10_wrongAt_8 (pc2 := 11) rfl ?_
  refine kg_iconst dX10_wrongAt_11 ki_0 (pc2 := 12) rfl ?_
  cases h
  exact kg_iret (ty := .boolean) dX10_wrongAt_12 rfl rfl
def fX10_takesSign (a1 : Int32) (σ : kw_M) : Option (Int32 × kw_M) :=
 (fX10_here σ).bind fun r1 =>
 if r1 = a1 then
 (kw_let (kw_si σ 0 7 ((σ.1 0 7) + (1 : Int32))) fun s3 =>
 some ((1 : Int32), s3))
 else
 (fX10_wrongAt (1 : Int32) (σ.1 0 7) σ).bind fun r4 =>
 kw_chk (kw_isB r4.1) <| some (r4.1, r4.2)
set_option maxHeartbeats 4000000 in
set_option maxRecDepth 100000 in
theorem gX10_takesSign {E : kw_E} {d : Nat} (a1 : Int32) (σ : kw_M) {r : Int32 × kw_M} (h : fX10_takesSign a1 σ = some r) : kw_Met E kwTM 21 (d + 1) μX10_takesSign [.ref 0, .int a1] σ (some (Value.int r.1)) r.2 := by
  refine kw_enter plRX10 (Nat.le_of_ble_eq_true rfl) ?_
  show kw_G E kwTM 21 (d + 1) μX10_takesSign 0 [(0, .ref 0), (1, .int a1)] [] σ (some (Value.int r.1)) r.2
  unfold fX10_takesSign at h
  refine kg_aload_n 0 dX10_takesSign_0 rfl (pc2 := 1) rfl ?_
  obtain ⟨r1, r1h, h⟩ := kw_bind_e h
  refine kg_callV (μ := μX10_takesSign) (d := d) rfl mVX10_here [] [] (gX10_here (E := E) (d := d) σ r1h) rfl lmRX10_168 (ci := 10) rfl tM_0 eM_0 rfl (Nat.le_of_ble_eq_true rfl) dX10_takesSign_1 rfl (st2 := [.int r1]) rfl (pc2 := 4) rfl ?_
  refine kg_iload_n 1 dX10_takesSign_4 rfl (pc2 := 5) rfl ?_
  refine kg_icmp_eq 18 dX10_takesSign_5 rfl (pc2 := 8) rfl (fun q2 => ?_) (fun q2 => ?_)
  · replace h := (if_pos q2).symm.trans h
    refine kg_aload_n 0 dX10_takesSign_18 rfl (pc2 := 19) rfl ?_
    refine kg_aload_n 0 dX10_takesSign_19 rfl (pc2 := 20) rfl ?_
    refine kg_geti clX10 rfl 7 (Nat.le_of_ble_eq_true rfl) lfRX10_159 tM_0 eM_0 rfl dX10_takesSign_20 (pc2 := 23) rfl ?_
    refine kg_iconst dX10_takesSign_23 ki_1 (pc2 := 24) rfl ?_
    refine kg_iadd dX10_takesSign_24 (pc2 := 25) rfl ?_
    obtain ⟨s3, s3e, h⟩ := kw_let_e h
    refine kg_puti clX10 rfl 7 (Nat.le_of_ble_eq_true rfl) lfRX10_159 rfl tM_0 eM_0 rfl (ty := .int) (by decide +kernel) rfl rfl s3e dX10_takesSign_25 (pc2 := 28) rfl ?_
    refine kg_iconst dX10_takesSign_28 ki_1 (pc2 := 29) rfl ?_
    cases h
    exact kg_iret (ty := .boolean) dX10_takesSign_29 rfl rfl
  · replace h := (if_neg q2).symm.trans h
    refine kg_aload_n 0 dX10_takesSign_8 rfl (pc2 := 9) rfl ?_
    refine kg_iconst dX10_takesSign_9 ki_1 (pc2 := 10) rfl ?_
    refine kg_aload_n 0 dX10_takesSign_10 rfl (pc2 := 11) rfl ?_
    refine kg_geti clX10 rfl 7 (Nat.le_of_ble_eq_true rfl) lfRX10_159 tM_0 eM_0 rfl dX10_takesSign_11 (pc2 := 14) rfl ?_
    obtain ⟨r4, r4h, h⟩ := kw_bind_e h
    refine kg_callV (μ := μX10_takesSign) (d := d) rfl mVX10_wrongAt [.int (1 : Int32), .int (σ.1 0 7)] [] (gX10_wrongAt (E := E) (d := d) (1 : Int32) (σ.1 0 7) σ r4h) rfl lmRX10_171 (ci := 10) rfl tM_0 eM_0 rfl (Nat.le_of_ble_eq_true rfl) dX10_takesSign_14 rfl (st2 := [.int r4.1]) rfl (pc2 := 17) rfl ?_
    obtain ⟨q5, h⟩ := kw_chk_e h
    cases h
    exact kg_iret (ty := .boolean) dX10_takesSign_17 rfl (kw_isB_n q5)
def bX10_readsWord_13 (σ : kw_M) : Option ((kw_M) ⊕ (kw_M)) :=
 (fX10_here σ).bind fun r3 =>
 (fX10_in r3.toInt64 (97 : Int64) (122 : Int64) σ).bind fun r4 =>
 if r4 = (0 : Int32) then
 (some (.inr σ))
 else
 if (8 : Int32) ≤ ((σ.1 0 7) - (σ.1 0 11)) then
 (kw_let (kw_si σ 0 7 ((σ.1 0 7) + (1 : Int32))) fun s7 =>
 some (.inl s7))
 else
 (fX10_here σ).bind fun r8 =>
 kw_let (kw_sl σ 0 13 (((((32 : Int64) * (σ.2 0 13)) + r8.toInt64) - (97 : Int64)) + (1 : Int64))) fun s9 =>
 kw_let (kw_si s9 0 7 ((s9.1 0 7) + (1 : Int32))) fun s10 =>
 some (.inl s10)
set_option maxHeartbeats 4000000 in
set_option maxRecDepth 100000 in
theorem lX10_readsWord_13 {E : kw_E} {d : Nat} (σ : kw_M) {v : Option Value} {σ2 : kw_M} {o : (kw_M) ⊕ (kw_M)} (h : bX10_readsWord_13 σ = some o) (hk : Sum.elim (fun s => kw_G E kwTM 21 (d + 1) μX10_readsWord 13 [(0, .ref 0)] [] s v σ2) (fun y => kw_G E kwTM 21 (d + 1) μX10_readsWord 81 [(0, .ref 0)] [] y v σ2) o) : kw_G E kwTM 21 (d + 1) μX10_readsWord 13 [(0, .ref 0)] [] σ v σ2 := by
  unfold bX10_readsWord_13 at h
  refine kg_aload_n 0 dX10_readsWord_13 rfl (pc2 := 14) rfl ?_
  obtain ⟨r3, r3h, h⟩ := kw_bind_e h
  refine kg_callV (μ := μX10_readsWord) (d := d) rfl mVX10_here [] [] (gX10_here (E := E) (d := d) σ r3h) rfl lmRX10_168 (ci := 10) rfl tM_0 eM_0 rfl (Nat.le_of_ble_eq_true rfl) dX10_readsWord_14 rfl (st2 := [.int r3]) rfl (pc2 := 17) rfl ?_
  refine kg_i2l dX10_readsWord_17 (pc2 := 18) rfl ?_
  refine kg_ldc2 rfl lcRX10_182 dX10_readsWord_18 (pc2 := 21) rfl ?_
  refine kg_ldc2 rfl lcRX10_184 dX10_readsWord_21 (pc2 := 24) rfl ?_
  obtain ⟨r4, r4h, h⟩ := kw_bind_e h
  refine kg_callS (μ := μX10_readsWord) (d := d) rfl mSX10_in [.long r3.toInt64, .long (97 : Int64), .long (122 : Int64)] [] (gX10_in (E := E) (d := d) r3.toInt64 (97 : Int64) (122 : Int64) σ r4h) rfl lmRX10_81 rfl (Nat.le_of_ble_eq_true rfl) dX10_readsWord_24 rfl (st2 := [.int r4]) rfl (pc2 := 27) rfl ?_
  refine kg_if_eq 81 dX10_readsWord_27 rfl (pc2 := 30) rfl (fun q5 => ?_) (fun q5 => ?_)
  · replace h := (if_pos q5).symm.trans h
    cases h
    exact hk
  · replace h := (if_neg q5).symm.trans h
    refine kg_aload_n 0 dX10_readsWord_30 rfl (pc2 := 31) rfl ?_
    refine kg_geti clX10 rfl 7 (Nat.le_of_ble_eq_true rfl) lfRX10_159 tM_0 eM_0 rfl dX10_readsWord_31 (pc2 := 34) rfl ?_
    refine kg_aload_n 0 dX10_readsWord_34 rfl (pc2 := 35) rfl ?_
    refine kg_geti clX10 rfl 11 (Nat.le_of_ble_eq_true rfl) lfRX10_175 tM_0 eM_0 rfl dX10_readsWord_35 (pc2 := 38) rfl ?_
    refine kg_isub dX10_readsWord_38 (pc2 := 39) rfl ?_
    refine kg_bipush dX10_readsWord_39 kb_8 (pc2 := 41) rfl ?_
    refine kg_icmp_ge 68 dX10_readsWord_41 rfl (pc2 := 44) rfl (fun q6 => ?_) (fun q6 => ?_)
    · replace h := (if_pos q6).symm.trans h
      refine kg_aload_n 0 dX10_readsWord_68 rfl (pc2 := 69) rfl ?_
      refine kg_aload_n 0 dX10_readsWord_69 rfl (pc2 := 70) rfl ?_
      refine kg_geti clX10 rfl 7 (Nat.le_of_ble_eq_true rfl) lfRX10_159 tM_0 eM_0 rfl dX10_readsWord_70 (pc2 := 73) rfl ?_
      refine kg_iconst dX10_readsWord_73 ki_1 (pc2 := 74) rfl ?_
      refine kg_iadd dX10_readsWord_74 (pc2 := 75) rfl ?_
      obtain ⟨s7, s7e, h⟩ := kw_let_e h
      refine kg_puti clX10 rfl 7 (Nat.le_of_ble_eq_true rfl) lfRX10_159 rfl tM_0 eM_0 rfl (ty := .int) (by decide +kernel) rfl rfl s7e dX10_readsWord_75 (pc2 := 78) rfl ?_
      refine kg_goto 13 dX10_readsWord_78 rfl ?_
      cases h
      exact hk
    · replace h := (if_neg q6).symm.trans h
      refine kg_aload_n 0 dX10_readsWord_44 rfl (pc2 := 45) rfl ?_
      refine kg_ldc2 rfl lcRX10_186 dX10_readsWord_45 (pc2 := 48) rfl ?_
      refine kg_aload_n 0 dX10_readsWord_48 rfl (pc2 := 49) rfl ?_
      refine kg_getl clX10 rfl 13 (Nat.le_of_ble_eq_true rfl) lfRX10_178 tM_0 eM_0 rfl dX10_readsWord_49 (pc2 := 52) rfl ?_
      refine kg_lmul dX10_readsWord_52 (pc2 := 53) rfl ?_
      refine kg_aload_n 0 dX10_readsWord_53 rfl (pc2 := 54) rfl ?_
      obtain ⟨r8, r8h, h⟩ := kw_bind_e h
      refine kg_callV (μ := μX10_readsWord) (d := d) rfl mVX10_here [] [.long ((32 : Int64) * (σ.2 0 13)), .ref 0] (gX10_here (E := E) (d := d) σ r8h) rfl lmRX10_168 (ci := 10) rfl tM_0 eM_0 rfl (Nat.le_of_ble_eq_true rfl) dX10_readsWord_54 rfl (st2 := [.int r8, .long ((32 : Int64) * (σ.2 0 13)), .ref 0]) rfl (pc2 := 57) rfl ?_
      refine kg_i2l dX10_readsWord_57 (pc2 := 58) rfl ?_
      refine kg_ladd dX10_readsWord_58 (pc2 := 59) rfl ?_
      refine kg_ldc2 rfl lcRX10_182 dX10_readsWord_59 (pc2 := 62) rfl ?_
      refine kg_lsub dX10_readsWord_62 (pc2 := 63) rfl ?_
      refine kg_lconst dX10_readsWord_63 kl_1 (pc2 := 64) rfl ?_
      refine kg_ladd dX10_readsWord_64 (pc2 := 65) rfl ?_
      obtain ⟨s9, s9e, h⟩ := kw_let_e h
      refine kg_putl clX10 rfl 13 (Nat.le_of_ble_eq_true rfl) lfRX10_178 rfl tM_0 eM_0 rfl (ty := .long) (by decide +kernel) rfl rfl s9e dX10_readsWord_65 (pc2 := 68) rfl ?_
      refine kg_aload_n 0 dX10_readsWord_68 rfl (pc2 := 69) rfl ?_
      refine kg_aload_n 0 dX10_readsWord_69 rfl (pc2 := 70) rfl ?_
      refine kg_geti clX10 rfl 7 (Nat.le_of_ble_eq_true rfl) lfRX10_159 tM_0 eM_0 rfl dX10_readsWord_70 (pc2 := 73) rfl ?_
      refine kg_iconst dX10_readsWord_73 ki_1 (pc2 := 74) rfl ?_
      refine kg_iadd dX10_readsWord_74 (pc2 := 75) rfl ?_
      obtain ⟨s10, s10e, h⟩ := kw_let_e h
      refine kg_puti clX10 rfl 7 (Nat.le_of_ble_eq_true rfl) lfRX10_159 rfl tM_0 eM_0 rfl (ty := .int) (by decide +kernel) rfl rfl s10e dX10_readsWord_75 (pc2 := 78) rfl ?_
      refine kg_goto 13 dX10_readsWord_78 rfl ?_
      cases h
      exact hk
def fX10_readsWord (σ : kw_M) : Option (kw_M) :=
 kw_let (kw_si σ 0 11 (σ.1 0 7)) fun s1 =>
 kw_let (kw_sl s1 0 13 (0 : Int64)) fun s2 =>
 (kw_loop (fun s => bX10_readsWord_13 s) kw_F s2).bind fun x11 =>
 if ((x11.1 0 7) - (x11.1 0 11)) ≤ (8 : Int32) then
 (some x11)
 else
 kw_let (kw_sl x11 0 13 (-1 : Int64)) fun s13 =>
 some s13
set_option maxHeartbeats 4000000 in
set_option maxRecDepth 100000 in
theorem gX10_readsWord {E : kw_E} {d : Nat} (σ : kw_M) {r : kw_M} (h : fX10_readsWord σ = some r) : kw_Met E kwTM 21 (d + 1) μX10_readsWord [.ref 0] σ none r := by
  refine kw_enter plRX10 (Nat.le_of_ble_eq_true rfl) ?_
  show kw_G E kwTM 21 (d + 1) μX10_readsWord 0 [(0, .ref 0)] [] σ none r
  unfold fX10_readsWord at h
  refine kg_aload_n 0 dX10_readsWord_0 rfl (pc2 := 1) rfl ?_
  refine kg_aload_n 0 dX10_readsWord_1 rfl (pc2 := 2) rfl ?_
  refine kg_geti clX10 rfl 7 (Nat.le_of_ble_eq_true rfl) lfRX10_159 tM_0 eM_0 rfl dX10_readsWord_2 (pc2 := 5) rfl ?_
  obtain ⟨s1, s1e, h⟩ := kw_let_e h
  refine kg_puti clX10 rfl 11 (Nat.le_of_ble_eq_true rfl) lfRX10_175 rfl tM_0 eM_0 rfl (ty := .int) (by decide +kernel) rfl rfl s1e dX10_readsWord_5 (pc2 := 8) rfl ?_
  refine kg_aload_n 0 dX10_readsWord_8 rfl (pc2 := 9) rfl ?_
  refine kg_lconst dX10_readsWord_9 kl_0 (pc2 := 10) rfl ?_
  obtain ⟨s2, s2e, h⟩ := kw_let_e h
  refine kg_putl clX10 rfl 13 (Nat.le_of_ble_eq_true rfl) lfRX10_178 rfl tM_0 eM_0 rfl (ty := .long) (by decide +kernel) rfl rfl s2e dX10_readsWord_10 (pc2 := 13) rfl ?_
  obtain ⟨x11, x11h, h⟩ := kw_bind_e h
  refine kw_loop_e (P := fun s => kw_G E kwTM 21 (d + 1) μX10_readsWord 13 [(0, .ref 0)] [] s none r) (K := fun y => kw_G E kwTM 21 (d + 1) μX10_readsWord 81 [(0, .ref 0)] [] y none r) (fun s o h0 hk => lX10_readsWord_13 s h0 hk) kw_F _ _ x11h ?_
  show kw_G E kwTM 21 (d + 1) μX10_readsWord 81 [(0, .ref 0)] [] x11 none r
  refine kg_aload_n 0 dX10_readsWord_81 rfl (pc2 := 82) rfl ?_
  refine kg_geti clX10 rfl 7 (Nat.le_of_ble_eq_true rfl) lfRX10_159 tM_0 eM_0 rfl dX10_readsWord_82 (pc2 := 85) rfl ?_
  refine kg_aload_n 0 dX10_readsWord_85 rfl (pc2 := 86) rfl ?_
  refine kg_geti clX10 rfl 11 (Nat.le_of_ble_eq_true rfl) lfRX10_175 tM_0 eM_0 rfl dX10_readsWord_86 (pc2 := 89) rfl ?_
  refine kg_isub dX10_readsWord_89 (pc2 := 90) rfl ?_
  refine kg_bipush dX10_readsWord_90 kb_8 (pc2 := 92) rfl ?_
  refine kg_icmp_le 102 dX10_readsWord_92 rfl (pc2 := 95) rfl (fun q12 => ?_) (fun q12 => ?_)
  · replace h := (if_pos q12).symm.trans h
    cases h
    exact kg_vret dX10_readsWord_102 rfl
  · replace h := (if_neg q12).symm.trans h
    refine kg_aload_n 0 dX10_readsWord_95 rfl (pc2 := 96) rfl ?_
    refine kg_ldc2 rfl lcRX10_188 dX10_readsWord_96 (pc2 := 99) rfl ?_
    obtain ⟨s13, s13e, h⟩ := kw_let_e h
    refine kg_putl clX10 rfl 13 (Nat.le_of_ble_eq_true rfl) lfRX10_178 rfl tM_0 eM_0 rfl (ty := .long) (by decide +kernel) rfl rfl s13e dX10_readsWord_99 (pc2 := 102) rfl ?_
    cases h
    exact kg_vret dX10_readsWord_102 rfl
def bX10_readsNumber_88 (v1 : Int64) (v3 : Int64) (v5 : Int32) (v6 : Int32) (σ : kw_M) : Option ((kw_M) ⊕ ((Int32 × kw_M) ⊕ (kw_M))) :=
 (fX10_here σ).bind fun r12 =>
 (fX10_in r12.toInt64 (48 : Int64) (57 : Int64) σ).bind fun r13 =>
 if r13 = (0 : Int32) then
 (some (.inr (.inr σ)))
 else
 if (σ.1 0 7) = (v6 + (10 : Int32)) then
 ((fX10_wrongAt (2 : Int32) (σ.1 0 7) σ).bind fun r19 =>
 kw_chk (kw_isB r19.1) <| some (.inr (.inl (r19.1, r19.2))))
 else
 (fX10_here σ).bind fun r16 =>
 kw_let (kw_sl σ 0 14 ((((10 : Int64) * (σ.2 0 14)) + r16.toInt64) - (48 : Int64))) fun s17 =>
 kw_let (kw_si s17 0 7 ((s17.1 0 7) + (1 : Int32))) fun s18 =>
 some (.inl s18)
set_option maxHeartbeats 4000000 in
set_option maxRecDepth 100000 in
theorem lX10_readsNumber_88 {E : kw_E} {d : Nat} (v1 : Int64) (v3 : Int64) (v5 : Int32) (v6 : Int32) (σ : kw_M) {v : Option Value} {σ2 : kw_M} {o : (kw_M) ⊕ ((Int32 × kw_M) ⊕ (kw_M))} (h : bX10_readsNumber_88 v1 v3 v5 v6 σ = some o) (hk : Sum.elim (fun s => kw_G E kwTM 21 (d + 2) μX10_readsNumber 88 [(0, .ref 0), (1, .long v1), (3, .long v3), (5, .int v5), (6, .int v6)] [] s v σ2) (Sum.elim (fun rr => v = some (Value.int rr.1) ∧ σ2 = rr.2) (fun y => kw_G E kwTM 21 (d + 2) μX10_readsNumber 162 [(0, .ref 0), (1, .long v1), (3, .long v3), (5, .int v5)] [] y v σ2)) o) : kw_G E kwTM 21 (d + 2) μX10_readsNumber 88 [(0, .ref 0), (1, .long v1), (3, .long v3), (5, .int v5), (6, .int v6)] [] σ v σ2 := by
  unfold bX10_readsNumber_88 at h
  refine kg_aload_n 0 dX10_readsNumber_88 rfl (pc2 := 89) rfl ?_
  obtain ⟨r12, r12h, h⟩ := kw_bind_e h
  refine kg_callV (μ := μX10_readsNumber) (d := (d + 1)) rfl mVX10_here [] [] (gX10_here (E := E) (d := (d + 1)) σ r12h) rfl lmRX10_168 (ci := 10) rfl tM_0 eM_0 rfl (Nat.le_of_ble_eq_true rfl) dX10_readsNumber_89 rfl (st2 := [.int r12]) rfl (pc2 := 92) rfl ?_
  refine kg_i2l dX10_readsNumber_92 (pc2 := 93) rfl ?_
  refine kg_ldc2 rfl lcRX10_196 dX10_readsNumber_93 (pc2 := 96) rfl ?_
  refine kg_ldc2 rfl lcRX10_198 dX10_readsNumber_96 (pc2 := 99) rfl ?_
  obtain ⟨r13, r13h, h⟩ := kw_bind_e h
  refine kg_callS (μ := μX10_readsNumber) (d := (d + 1)) rfl mSX10_in [.long r12.toInt64, .long (48 : Int64), .long (57 : Int64)] [] (gX10_in (E := E) (d := (d + 1)) r12.toInt64 (48 : Int64) (57 : Int64) σ r13h) rfl lmRX10_81 rfl (Nat.le_of_ble_eq_true rfl) dX10_readsNumber_99 rfl (st2 := [.int r13]) rfl (pc2 := 102) rfl ?_
  refine kg_if_eq 162 dX10_readsNumber_102 rfl (pc2 := 105) rfl (fun q14 => ?_) (fun q14 => ?_)
  · replace h := (if_pos q14).symm.trans h
    refine kg_sub [0, 1, 2, 3] (lv2 := [(0, .ref 0), (1, .long v1), (3, .long v3), (5, .int v5)]) rfl ?_
    cases h
    exact hk
  · replace h := (if_neg q14).symm.trans h
    refine kg_aload_n 0 dX10_readsNumber_105 rfl (pc2 := 106) rfl ?_
    refine kg_geti clX10 rfl 7 (Nat.le_of_ble_eq_true rfl) lfRX10_159 tM_0 eM_0 rfl dX10_readsNumber_106 (pc2 := 109) rfl ?_
    refine kg_iload 4 dX10_readsNumber_109 rfl (pc2 := 111) rfl ?_
    refine kg_bipush dX10_readsNumber_111 kb_10 (pc2 := 113) rfl ?_
    refine kg_iadd dX10_readsNumber_113 (pc2 := 114) rfl ?_
    refine kg_icmp_ne 127 dX10_readsNumber_114 rfl (pc2 := 117) rfl (fun q15 => ?_) (fun q15 => ?_)
    · replace h := (if_neg q15).symm.trans h
      refine kg_aload_n 0 dX10_readsNumber_127 rfl (pc2 := 128) rfl ?_
      refine kg_ldc2 rfl lcRX10_203 dX10_readsNumber_128 (pc2 := 131) rfl ?_
      refine kg_aload_n 0 dX10_readsNumber_131 rfl (pc2 := 132) rfl ?_
      refine kg_getl clX10 rfl 14 (Nat.le_of_ble_eq_true rfl) lfRX10_200 tM_0 eM_0 rfl dX10_readsNumber_132 (pc2 := 135) rfl ?_
      refine kg_lmul dX10_readsNumber_135 (pc2 := 136) rfl ?_
      refine kg_aload_n 0 dX10_readsNumber_136 rfl (pc2 := 137) rfl ?_
      obtain ⟨r16, r16h, h⟩ := kw_bind_e h
      refine kg_callV (μ := μX10_readsNumber) (d := (d + 1)) rfl mVX10_here [] [.long ((10 : Int64) * (σ.2 0 14)), .ref 0] (gX10_here (E := E) (d := (d + 1)) σ r16h) rfl lmRX10_168 (ci := 10) rfl tM_0 eM_0 rfl (Nat.le_of_ble_eq_true rfl) dX10_readsNumber_137 rfl (st2 := [.int r16, .long ((10 : Int64) * (σ.2 0 14)), .ref 0]) rfl (pc2 := 140) rfl ?_
      refine kg_i2l dX10_readsNumber_140 (pc2 := 141) rfl ?_
      refine kg_ladd dX10_readsNumber_141 (pc2 := 142) rfl ?_
      refine kg_ldc2 rfl lcRX10_196 dX10_readsNumber_142 (pc2 := 145) rfl ?_
      refine kg_lsub dX10_readsNumber_145 (pc2 := 146) rfl ?_
      obtain ⟨s17, s17e, h⟩ := kw_let_e h
      refine kg_putl clX10 rfl 14 (Nat.le_of_ble_eq_true rfl) lfRX10_200 rfl tM_0 eM_0 rfl (ty := .long) (by decide +kernel) rfl rfl s17e dX10_readsNumber_146 (pc2 := 149) rfl ?_
      refine kg_aload_n 0 dX10_readsNumber_149 rfl (pc2 := 150) rfl ?_
      refine kg_aload_n 0 dX10_readsNumber_150 rfl (pc2 := 151) rfl ?_
      refine kg_geti clX10 rfl 7 (Nat.le_of_ble_eq_true rfl) lfRX10_159 tM_0 eM_0 rfl dX10_readsNumber_151 (pc2 := 154) rfl ?_
      refine kg_iconst dX10_readsNumber_154 ki_1 (pc2 := 155) rfl ?_
      refine kg_iadd dX10_readsNumber_155 (pc2 := 156) rfl ?_
      obtain ⟨s18, s18e, h⟩ := kw_let_e h
      refine kg_puti clX10 rfl 7 (Nat.le_of_ble_eq_true rfl) lfRX10_159 rfl tM_0 eM_0 rfl (ty := .int) (by decide +kernel) rfl rfl s18e dX10_readsNumber_156 (pc2 := 159) rfl ?_
      refine kg_goto 88 dX10_readsNumber_159 rfl ?_
      cases h
      exact hk
    · replace h := (if_pos q15).symm.trans h
      refine kg_aload_n 0 dX10_readsNumber_117 rfl (pc2 := 118) rfl ?_
      refine kg_iconst dX10_readsNumber_118 ki_2 (pc2 := 119) rfl ?_
      refine kg_aload_n 0 dX10_readsNumber_119 rfl (pc2 := 120) rfl ?_
      refine kg_geti clX10 rfl 7 (Nat.le_of_ble_eq_true rfl) lfRX10_159 tM_0 eM_0 rfl dX10_readsNumber_120 (pc2 := 123) rfl ?_
      obtain ⟨r19, r19h, h⟩ := kw_bind_e h
      refine kg_callV (μ := μX10_readsNumber) (d := (d + 1)) rfl mVX10_wrongAt [.int (2 : Int32), .int (σ.1 0 7)] [] (gX10_wrongAt (E := E) (d := (d + 1)) (2 : Int32) (σ.1 0 7) σ r19h) rfl lmRX10_171 (ci := 10) rfl tM_0 eM_0 rfl (Nat.le_of_ble_eq_true rfl) dX10_readsNumber_123 rfl (st2 := [.int r19.1]) rfl (pc2 := 126) rfl ?_
      obtain ⟨q20, h⟩ := kw_chk_e h
      cases h
      obtain ⟨rfl, rfl⟩ := hk
      exact kg_iret (ty := .boolean) dX10_readsNumber_126 rfl (kw_isB_n q20)
def jX10_readsNumber_176 (v1 : Int64) (v3 : Int64) (σ : kw_M) : Option (Int32 × kw_M) :=
 (fX10_in (σ.2 0 14) v1 v3 σ).bind fun r23 =>
 if r23 = (0 : Int32) then
 ((fX10_wrongAt (3 : Int32) (σ.1 0 10) σ).bind fun r25 =>
 if r25.1 = (0 : Int32) then
 (some ((0 : Int32), r25.2))
 else
 some ((1 : Int32), r25.2))
 else
 some ((1 : Int32), σ)
set_option maxHeartbeats 4000000 in
set_option maxRecDepth 100000 in
theorem gjX10_readsNumber_176 {E : kw_E} {d : Nat} (v1 : Int64) (v3 : Int64) (σ : kw_M) {r : Int32 × kw_M} (h : jX10_readsNumber_176 v1 v3 σ = some r) : kw_G E kwTM 21 (d + 2) μX10_readsNumber 176 [(0, .ref 0), (1, .long v1), (3, .long v3)] [] σ (some (Value.int r.1)) r.2 := by
  unfold jX10_readsNumber_176 at h
  refine kg_aload_n 0 dX10_readsNumber_176 rfl (pc2 := 177) rfl ?_
  refine kg_getl clX10 rfl 14 (Nat.le_of_ble_eq_true rfl) lfRX10_200 tM_0 eM_0 rfl dX10_readsNumber_177 (pc2 := 180) rfl ?_
  refine kg_lload_n 1 dX10_readsNumber_180 rfl (pc2 := 181) rfl ?_
  refine kg_lload_n 2 dX10_readsNumber_181 rfl (pc2 := 182) rfl ?_
  obtain ⟨r23, r23h, h⟩ := kw_bind_e h
  refine kg_callS (μ := μX10_readsNumber) (d := (d + 1)) rfl mSX10_in [.long (σ.2 0 14), .long v1, .long v3] [] (gX10_in (E := E) (d := (d + 1)) (σ.2 0 14) v1 v3 σ r23h) rfl lmRX10_81 rfl (Nat.le_of_ble_eq_true rfl) dX10_readsNumber_182 rfl (st2 := [.int r23]) rfl (pc2 := 185) rfl ?_
  refine kg_if_ne 200 dX10_readsNumber_185 rfl (pc2 := 188) rfl (fun q24 => ?_) (fun q24 => ?_)
  · replace h := (if_neg q24).symm.trans h
    refine kg_iconst dX10_readsNumber_200 ki_1 (pc2 := 201) rfl ?_
    refine kg_goto 205 dX10_readsNumber_201 rfl ?_
    cases h
    exact kg_iret (ty := .boolean) dX10_readsNumber_205 rfl rfl
  · replace h := (if_pos q24).symm.trans h
    refine kg_aload_n 0 dX10_readsNumber_188 rfl (pc2 := 189) rfl ?_
    refine kg_iconst dX10_readsNumber_189 ki_3 (pc2 := 190) rfl ?_
    refine kg_aload_n 0 dX10_readsNumber_190 rfl (pc2 := 191) rfl ?_
    refine kg_geti clX10 rfl 10 (Nat.le_of_ble_eq_true rfl) lfRX10_193 tM_0 eM_0 rfl dX10_readsNumber_191 (pc2 := 194) rfl ?_
    obtain ⟨r25, r25h, h⟩ := kw_bind_e h
    refine kg_callV (μ := μX10_readsNumber) (d := (d + 1)) rfl mVX10_wrongAt [.int (3 : Int32), .int (σ.1 0 10)] [] (gX10_wrongAt (E := E) (d := (d + 1)) (3 : Int32) (σ.1 0 10) σ r25h) rfl lmRX10_171 (ci := 10) rfl tM_0 eM_0 rfl (Nat.le_of_ble_eq_true rfl) dX10_readsNumber_194 rfl (st2 := [.int r25.1]) rfl (pc2 := 197) rfl ?_
    refine kg_if_eq 204 dX10_readsNumber_197 rfl (pc2 := 200) rfl (fun q26 => ?_) (fun q26 => ?_)
    · replace h := (if_pos q26).symm.trans h
      refine kg_iconst dX10_readsNumber_204 ki_0 (pc2 := 205) rfl ?_
      cases h
      exact kg_iret (ty := .boolean) dX10_readsNumber_205 rfl rfl
    · replace h := (if_neg q26).symm.trans h
      refine kg_iconst dX10_readsNumber_200 ki_1 (pc2 := 201) rfl ?_
      refine kg_goto 205 dX10_readsNumber_201 rfl ?_
      cases h
      exact kg_iret (ty := .boolean) dX10_readsNumber_205 rfl rfl
def jX10_readsNumber_50 (v1 : Int64) (v3 : Int64) (v5 : Int32) (σ : kw_M) : Option (Int32 × kw_M) :=
 kw_let (σ.1 0 7) fun x7 =>
 (fX10_here σ).bind fun r8 =>
 (fX10_in r8.toInt64 (48 : Int64) (57 : Int64) σ).bind fun r9 =>
 if r9 = (0 : Int32) then
 ((fX10_wrongAt (1 : Int32) (σ.1 0 7) σ).bind fun r28 =>
 kw_chk (kw_isB r28.1) <| some (r28.1, r28.2))
 else
 kw_let (kw_sl σ 0 14 (0 : Int64)) fun s11 =>
 (kw_loop (fun s => bX10_readsNumber_88 v1 v3 v5 x7 s) kw_F s11).bind fun x21 =>
 Sum.elim (fun x21r => some x21r) (fun x21 =>
 if v5 = (0 : Int32) then
 (jX10_readsNumber_176 v1 v3 x21)
 else
 kw_let (kw_sl x21 0 14 (-(x21.2 0 14))) fun s27 =>
 jX10_readsNumber_176 v1 v3 s27) x21
set_option maxHeartbeats 4000000 in
set_option maxRecDepth 100000 in
theorem gjX10_readsNumber_50 {E : kw_E} {d : Nat} (v1 : Int64) (v3 : Int64) (v5 : Int32) (σ : kw_M) {r : Int32 × kw_M} (h : jX10_readsNumber_50 v1 v3 v5 σ = some r) : kw_G E kwTM 21 (d + 2) μX10_readsNumber 50 [(0, .ref 0), (1, .long v1), (3, .long v3), (5, .int v5)] [] σ (some (Value.int r.1)) r.2 := by
  unfold jX10_readsNumber_50 at h
  refine kg_aload_n 0 dX10_readsNumber_50 rfl (pc2 := 51) rfl ?_
  refine kg_geti clX10 rfl 7 (Nat.le_of_ble_eq_true rfl) lfRX10_159 tM_0 eM_0 rfl dX10_readsNumber_51 (pc2 := 54) rfl ?_
  obtain ⟨x7, x7e, h⟩ := kw_let_e h
  refine kg_istore dX10_readsNumber_54 (Nat.le_of_ble_eq_true rfl) x7e (lv2 := [(6, .int x7), (0, .ref 0), (1, .long v1), (3, .long v3), (5, .int v5)]) rfl (pc2 := 56) rfl ?_
  refine kg_aload_n 1 dX10_readsNumber_56 rfl (pc2 := 57) rfl ?_
  obtain ⟨r8, r8h, h⟩ := kw_bind_e h
  refine kg_callV (μ := μX10_readsNumber) (d := (d + 1)) rfl mVX10_here [] [] (gX10_here (E := E) (d := (d + 1)) σ r8h) rfl lmRX10_168 (ci := 10) rfl tM_0 eM_0 rfl (Nat.le_of_ble_eq_true rfl) dX10_readsNumber_57 rfl (st2 := [.int r8]) rfl (pc2 := 60) rfl ?_
  refine kg_i2l dX10_readsNumber_60 (pc2 := 61) rfl ?_
  refine kg_ldc2 rfl lcRX10_196 dX10_readsNumber_61 (pc2 := 64) rfl ?_
  refine kg_ldc2 rfl lcRX10_198 dX10_readsNumber_64 (pc2 := 67) rfl ?_
  obtain ⟨r9, r9h, h⟩ := kw_bind_e h
  refine kg_callS (μ := μX10_readsNumber) (d := (d + 1)) rfl mSX10_in [.long r8.toInt64, .long (48 : Int64), .long (57 : Int64)] [] (gX10_in (E := E) (d := (d + 1)) r8.toInt64 (48 : Int64) (57 : Int64) σ r9h) rfl lmRX10_81 rfl (Nat.le_of_ble_eq_true rfl) dX10_readsNumber_67 rfl (st2 := [.int r9]) rfl (pc2 := 70) rfl ?_
  refine kg_if_ne 83 dX10_readsNumber_70 rfl (pc2 := 73) rfl (fun q10 => ?_) (fun q10 => ?_)
  · replace h := (if_neg q10).symm.trans h
    refine kg_aload_n 1 dX10_readsNumber_83 rfl (pc2 := 84) rfl ?_
    refine kg_lconst dX10_readsNumber_84 kl_0 (pc2 := 85) rfl ?_
    obtain ⟨s11, s11e, h⟩ := kw_let_e h
    refine kg_putl clX10 rfl 14 (Nat.le_of_ble_eq_true rfl) lfRX10_200 rfl tM_0 eM_0 rfl (ty := .long) (by decide +kernel) rfl rfl s11e dX10_readsNumber_85 (pc2 := 88) rfl ?_
    refine kg_sub [1, 2, 3, 4, 0] (lv2 := [(0, .ref 0), (1, .long v1), (3, .long v3), (5, .int v5), (6, .int x7)]) rfl ?_
    obtain ⟨x21, x21h, h⟩ := kw_bind_e h
    refine kw_loop_e (P := fun s => kw_G E kwTM 21 (d + 2) μX10_readsNumber 88 [(0, .ref 0), (1, .long v1), (3, .long v3), (5, .int v5), (6, .int x7)] [] s (some (Value.int r.1)) r.2) (K := Sum.elim (fun rr => (some (Value.int r.1)) = some (Value.int rr.1) ∧ r.2 = rr.2) (fun y => kw_G E kwTM 21 (d + 2) μX10_readsNumber 162 [(0, .ref 0), (1, .long v1), (3, .long v3), (5, .int v5)] [] y (some (Value.int r.1)) r.2)) (fun s o h0 hk => lX10_readsNumber_88 v1 v3 v5 x7 s h0 hk) kw_F _ _ x21h ?_
    rcases x21 with x21r | x21
    · replace h := kw_se_l h
      cases h
      exact ⟨rfl, rfl⟩
    · replace h := kw_se_r h
      show kw_G E kwTM 21 (d + 2) μX10_readsNumber 162 [(0, .ref 0), (1, .long v1), (3, .long v3), (5, .int v5)] [] x21 (some (Value.int r.1)) r.2
      refine kg_iload 3 dX10_readsNumber_162 rfl (pc2 := 164) rfl ?_
      refine kg_if_eq 176 dX10_readsNumber_164 rfl (pc2 := 167) rfl (fun q22 => ?_) (fun q22 => ?_)
      · replace h := (if_pos q22).symm.trans h
        refine kg_sub [0, 1, 2] (lv2 := [(0, .ref 0), (1, .long v1), (3, .long v3)]) rfl ?_
        exact gjX10_readsNumber_176 v1 v3 x21 h
      · replace h := (if_neg q22).symm.trans h
        refine kg_aload_n 0 dX10_readsNumber_167 rfl (pc2 := 168) rfl ?_
        refine kg_aload_n 0 dX10_readsNumber_168 rfl (pc2 := 169) rfl ?_
        refine kg_getl clX10 rfl 14 (Nat.le_of_ble_eq_true rfl) lfRX10_200 tM_0 eM_0 rfl dX10_readsNumber_169 (pc2 := 172) rfl ?_
        refine kg_lneg dX10_readsNumber_172 (pc2 := 173) rfl ?_
        obtain ⟨s27, s27e, h⟩ := kw_let_e h
        refine kg_putl clX10 rfl 14 (Nat.le_of_ble_eq_true rfl) lfRX10_200 rfl tM_0 eM_0 rfl (ty := .long) (by decide +kernel) rfl rfl s27e dX10_readsNumber_173 (pc2 := 176) rfl ?_
        refine kg_sub [0, 1, 2] (lv2 := [(0, .ref 0), (1, .long v1), (3, .long v3)]) rfl ?_
        exact gjX10_readsNumber_176 v1 v3 s27 h
  · replace h := (if_pos q10).symm.trans h
    refine kg_aload_n 1 dX10_readsNumber_73 rfl (pc2 := 74) rfl ?_
    refine kg_iconst dX10_readsNumber_74 ki_1 (pc2 := 75) rfl ?_
    refine kg_aload_n 1 dX10_readsNumber_75 rfl (pc2 := 76) rfl ?_
    refine kg_geti clX10 rfl 7 (Nat.le_of_ble_eq_true rfl) lfRX10_159 tM_0 eM_0 rfl dX10_readsNumber_76 (pc2 := 79) rfl ?_
    obtain ⟨r28, r28h, h⟩ := kw_bind_e h
    refine kg_callV (μ := μX10_readsNumber) (d := (d + 1)) rfl mVX10_wrongAt [.int (1 : Int32), .int (σ.1 0 7)] [] (gX10_wrongAt (E := E) (d := (d + 1)) (1 : Int32) (σ.1 0 7) σ r28h) rfl lmRX10_171 (ci := 10) rfl tM_0 eM_0 rfl (Nat.le_of_ble_eq_true rfl) dX10_readsNumber_79 rfl (st2 := [.int r28.1]) rfl (pc2 := 82) rfl ?_
    obtain ⟨q29, h⟩ := kw_chk_e h
    cases h
    exact kg_iret (ty := .boolean) dX10_readsNumber_82 rfl (kw_isB_n q29)
def jX10_readsNumber_33 (v1 : Int64) (v3 : Int64) (t0 : Int32) (σ : kw_M) : Option (Int32 × kw_M) :=
 if t0 = (0 : Int32) then
 (jX10_readsNumber_50 v1 v3 t0 σ)
 else
 kw_let (kw_si σ 0 7 ((σ.1 0 7) + (1 : Int32))) fun s30 =>
 jX10_readsNumber_50 v1 v3 t0 s30
set_option maxHeartbeats 4000000 in
set_option maxRecDepth 100000 in
theorem gjX10_readsNumber_33 {E : kw_E} {d : Nat} (v1 : Int64) (v3 : Int64) (t0 : Int32) (σ : kw_M) {r : Int32 × kw_M} (h : jX10_readsNumber_33 v1 v3 t0 σ = some r) : kw_G E kwTM 21 (d + 2) μX10_readsNumber 33 [(0, .ref 0), (1, .long v1), (3, .long v3)] [.int t0] σ (some (Value.int r.1)) r.2 := by
  unfold jX10_readsNumber_33 at h
  refine kg_istore dX10_readsNumber_33 (Nat.le_of_ble_eq_true rfl) rfl (lv2 := [(5, .int t0), (0, .ref 0), (1, .long v1), (3, .long v3)]) rfl (pc2 := 35) rfl ?_
  refine kg_iload 0 dX10_readsNumber_35 rfl (pc2 := 37) rfl ?_
  refine kg_if_eq 50 dX10_readsNumber_37 rfl (pc2 := 40) rfl (fun q6 => ?_) (fun q6 => ?_)
  · replace h := (if_pos q6).symm.trans h
    refine kg_sub [1, 2, 3, 0] (lv2 := [(0, .ref 0), (1, .long v1), (3, .long v3), (5, .int t0)]) rfl ?_
    exact gjX10_readsNumber_50 v1 v3 t0 σ h
  · replace h := (if_neg q6).symm.trans h
    refine kg_aload_n 1 dX10_readsNumber_40 rfl (pc2 := 41) rfl ?_
    refine kg_aload_n 1 dX10_readsNumber_41 rfl (pc2 := 42) rfl ?_
    refine kg_geti clX10 rfl 7 (Nat.le_of_ble_eq_true rfl) lfRX10_159 tM_0 eM_0 rfl dX10_readsNumber_42 (pc2 := 45) rfl ?_
    refine kg_iconst dX10_readsNumber_45 ki_1 (pc2 := 46) rfl ?_
    refine kg_iadd dX10_readsNumber_46 (pc2 := 47) rfl ?_
    obtain ⟨s30, s30e, h⟩ := kw_let_e h
    refine kg_puti clX10 rfl 7 (Nat.le_of_ble_eq_true rfl) lfRX10_159 rfl tM_0 eM_0 rfl (ty := .int) (by decide +kernel) rfl rfl s30e dX10_readsNumber_47 (pc2 := 50) rfl ?_
    refine kg_sub [1, 2, 3, 0] (lv2 := [(0, .ref 0), (1, .long v1), (3, .long v3), (5, .int t0)]) rfl ?_
    exact gjX10_readsNumber_50 v1 v3 t0 s30 h
def fX10_readsNumber (a1 : Int64) (a2 : Int64) (σ : kw_M) : Option (Int32 × kw_M) :=
 (fX10_takesSign (32 : Int32) σ).bind fun r1 =>
 if r1.1 = (0 : Int32) then
 (some ((0 : Int32), r1.2))
 else
 kw_let (kw_si r1.2 0 10 (r1.2.1 0 7)) fun s3 =>
 (fX10_here s3).bind fun r4 =>
 if r4 = (45 : Int32) then
 (jX10_readsNumber_33 a1 a2 (1 : Int32) s3)
 else
 jX10_readsNumber_33 a1 a2 (0 : Int32) s3
set_option maxHeartbeats 4000000 in
set_option maxRecDepth 100000 in
theorem gX10_readsNumber {E : kw_E} {d : Nat} (a1 : Int64) (a2 : Int64) (σ : kw_M) {r : Int32 × kw_M} (h : fX10_readsNumber a1 a2 σ = some r) : kw_Met E kwTM 21 (d + 2) μX10_readsNumber [.ref 0, .long a1, .long a2] σ (some (Value.int r.1)) r.2 := by
  refine kw_enter plRX10 (Nat.le_of_ble_eq_true rfl) ?_
  show kw_G E kwTM 21 (d + 2) μX10_readsNumber 0 [(0, .ref 0), (1, .long a1), (3, .long a2)] [] σ (some (Value.int r.1)) r.2
  unfold fX10_readsNumber at h
  refine kg_aload_n 0 dX10_readsNumber_0 rfl (pc2 := 1) rfl ?_
  refine kg_bipush dX10_readsNumber_1 kb_32 (pc2 := 3) rfl ?_
  obtain ⟨r1, r1h, h⟩ := kw_bind_e h
  refine kg_callV (μ := μX10_readsNumber) (d := (d + 1)) rfl mVX10_takesSign [.int (32 : Int32)] [] (gX10_takesSign (E := E) (d := d) (32 : Int32) σ r1h) rfl lmRX10_190 (ci := 10) rfl tM_0 eM_0 rfl (Nat.le_of_ble_eq_true rfl) dX10_readsNumber_3 rfl (st2 := [.int r1.1]) rfl (pc2 := 6) rfl ?_
  refine kg_if_ne 11 dX10_readsNumber_6 rfl (pc2 := 9) rfl (fun q2 => ?_) (fun q2 => ?_)
  · replace h := (if_neg q2).symm.trans h
    refine kg_aload_n 0 dX10_readsNumber_11 rfl (pc2 := 12) rfl ?_
    refine kg_aload_n 0 dX10_readsNumber_12 rfl (pc2 := 13) rfl ?_
    refine kg_geti clX10 rfl 7 (Nat.le_of_ble_eq_true rfl) lfRX10_159 tM_0 eM_0 rfl dX10_readsNumber_13 (pc2 := 16) rfl ?_
    obtain ⟨s3, s3e, h⟩ := kw_let_e h
    refine kg_puti clX10 rfl 10 (Nat.le_of_ble_eq_true rfl) lfRX10_193 rfl tM_0 eM_0 rfl (ty := .int) (by decide +kernel) rfl rfl s3e dX10_readsNumber_16 (pc2 := 19) rfl ?_
    refine kg_aload_n 0 dX10_readsNumber_19 rfl (pc2 := 20) rfl ?_
    obtain ⟨r4, r4h, h⟩ := kw_bind_e h
    refine kg_callV (μ := μX10_readsNumber) (d := (d + 1)) rfl mVX10_here [] [] (gX10_here (E := E) (d := (d + 1)) s3 r4h) rfl lmRX10_168 (ci := 10) rfl tM_0 eM_0 rfl (Nat.le_of_ble_eq_true rfl) dX10_readsNumber_20 rfl (st2 := [.int r4]) rfl (pc2 := 23) rfl ?_
    refine kg_bipush dX10_readsNumber_23 kb_45 (pc2 := 25) rfl ?_
    refine kg_icmp_ne 32 dX10_readsNumber_25 rfl (pc2 := 28) rfl (fun q5 => ?_) (fun q5 => ?_)
    · replace h := (if_neg q5).symm.trans h
      refine kg_iconst dX10_readsNumber_32 ki_0 (pc2 := 33) rfl ?_
      exact gjX10_readsNumber_33 a1 a2 (0 : Int32) s3 h
    · replace h := (if_pos q5).symm.trans h
      refine kg_iconst dX10_readsNumber_28 ki_1 (pc2 := 29) rfl ?_
      refine kg_goto 33 dX10_readsNumber_29 rfl ?_
      exact gjX10_readsNumber_33 a1 a2 (1 : Int32) s3 h
  · replace h := (if_pos q2).symm.trans h
    refine kg_iconst dX10_readsNumber_9 ki_0 (pc2 := 10) rfl ?_
    cases h
    exact kg_iret (ty := .boolean) dX10_readsNumber_10 rfl rfl
def fX10_keepsNumber (a1 : Int32) (σ : kw_M) : Option (Int32 × kw_M) :=
 kw_chk (kw_in (((3 : Int32) * (σ.1 0 12)) + a1) 72) <|
 kw_let (kw_si σ 7 (((3 : Int32) * (σ.1 0 12)) + a1).toNatClampNeg ((σ.2 0 14).toInt32)) fun s2 =>
 some ((1 : Int32), s2)
set_option maxHeartbeats 4000000 in
set_option maxRecDepth 100000 in
theorem gX10_keepsNumber {E : kw_E} {d : Nat} (a1 : Int32) (σ : kw_M) {r : Int32 × kw_M} (h : fX10_keepsNumber a1 σ = some r) : kw_Met E kwTM 21 d μX10_keepsNumber [.ref 0, .int a1] σ (some (Value.int r.1)) r.2 := by
  refine kw_enter plRX10 (Nat.le_of_ble_eq_true rfl) ?_
  show kw_G E kwTM 21 d μX10_keepsNumber 0 [(0, .ref 0), (1, .int a1)] [] σ (some (Value.int r.1)) r.2
  unfold fX10_keepsNumber at h
  refine kg_aload_n 0 dX10_keepsNumber_0 rfl (pc2 := 1) rfl ?_
  refine kg_getr clX10 rfl 16 (Nat.le_of_ble_eq_true rfl) lfRX10_30 tM_0 eM_0 rfl dX10_keepsNumber_1 (pc2 := 4) rfl ?_
  refine kg_iconst dX10_keepsNumber_4 ki_3 (pc2 := 5) rfl ?_
  refine kg_aload_n 0 dX10_keepsNumber_5 rfl (pc2 := 6) rfl ?_
  refine kg_geti clX10 rfl 12 (Nat.le_of_ble_eq_true rfl) lfRX10_205 tM_0 eM_0 rfl dX10_keepsNumber_6 (pc2 := 9) rfl ?_
  refine kg_imul dX10_keepsNumber_9 (pc2 := 10) rfl ?_
  refine kg_iload_n 1 dX10_keepsNumber_10 rfl (pc2 := 11) rfl ?_
  refine kg_iadd dX10_keepsNumber_11 (pc2 := 12) rfl ?_
  refine kg_aload_n 0 dX10_keepsNumber_12 rfl (pc2 := 13) rfl ?_
  refine kg_getl clX10 rfl 14 (Nat.le_of_ble_eq_true rfl) lfRX10_200 tM_0 eM_0 rfl dX10_keepsNumber_13 (pc2 := 16) rfl ?_
  refine kg_l2i dX10_keepsNumber_16 (pc2 := 17) rfl ?_
  obtain ⟨q1, h⟩ := kw_chk_e h
  obtain ⟨s2, s2e, h⟩ := kw_let_e h
  refine kg_iast tM_7 eM_7 q1 (j := (((3 : Int32) * (σ.1 0 12)) + a1).toNatClampNeg) rfl s2e dX10_keepsNumber_17 (pc2 := 18) rfl ?_
  refine kg_iconst dX10_keepsNumber_18 ki_1 (pc2 := 19) rfl ?_
  cases h
  exact kg_iret (ty := .boolean) dX10_keepsNumber_19 rfl rfl
def fX10_readsRoad (a1 : Int32) (σ : kw_M) : Option (Int32 × kw_M) :=
 (fX10_readsNumber (0 : Int64) ((a1 - (1 : Int32)).toInt64) σ).bind fun r1 =>
 if r1.1 = (0 : Int32) then
 (some ((0 : Int32), r1.2))
 else
 kw_let (r1.2.2 0 14) fun x3 =>
 (fX10_keepsNumber (0 : Int32) r1.2).bind fun r4 =>
 if r4.1 = (0 : Int32) then
 (some ((0 : Int32), r4.2))
 else
 (fX10_readsNumber (0 : Int64) ((a1 - (1 : Int32)).toInt64) r4.2).bind fun r6 =>
 if r6.1 = (0 : Int32) then
 (some ((0 : Int32), r6.2))
 else
 if (r6.2.2 0 14) = x3 then
 ((fX10_wrongAt (6 : Int32) (r6.2.1 0 10) r6.2).bind fun r15 =>
 kw_chk (kw_isB r15.1) <| some (r15.1, r15.2))
 else
 (fX10_keepsNumber (1 : Int32) r6.2).bind fun r9 =>
 if r9.1 = (0 : Int32) then
 (some ((0 : Int32), r9.2))
 else
 (fX10_readsNumber (-1000000000 : Int64) (1000000000 : Int64) r9.2).bind fun r11 =>
 if r11.1 = (0 : Int32) then
 (some ((0 : Int32), r11.2))
 else
 (fX10_keepsNumber (2 : Int32) r11.2).bind fun r13 =>
 if r13.1 = (0 : Int32) then
 (some ((0 : Int32), r13.2))
 else
 some ((1 : Int32), r13.2)
set_option maxHeartbeats 4000000 in
set_option maxRecDepth 100000 in
theorem gX10_readsRoad {E : kw_E} {d : Nat} (a1 : Int32) (σ : kw_M) {r : Int32 × kw_M} (h : fX10_readsRoad a1 σ = some r) : kw_Met E kwTM 21 (d + 3) μX10_readsRoad [.ref 0, .int a1] σ (some (Value.int r.1)) r.2 := by
  refine kw_enter plRX10 (Nat.le_of_ble_eq_true rfl) ?_
  show kw_G E kwTM 21 (d + 3) μX10_readsRoad 0 [(0, .ref 0), (1, .int a1)] [] σ (some (Value.int r.1)) r.2
  unfold fX10_readsRoad at h
  refine kg_aload_n 0 dX10_readsRoad_0 rfl (pc2 := 1) rfl ?_
  refine kg_lconst dX10_readsRoad_1 kl_0 (pc2 := 2) rfl ?_
  refine kg_iload_n 1 dX10_readsRoad_2 rfl (pc2 := 3) rfl ?_
  refine kg_iconst dX10_readsRoad_3 ki_1 (pc2 := 4) rfl ?_
  refine kg_isub dX10_readsRoad_4 (pc2 := 5) rfl ?_
  refine kg_i2l dX10_readsRoad_5 (pc2 := 6) rfl ?_
  obtain ⟨r1, r1h, h⟩ := kw_bind_e h
  refine kg_callV (μ := μX10_readsRoad) (d := (d + 2)) rfl mVX10_readsNumber [.long (0 : Int64), .long ((a1 - (1 : Int32)).toInt64)] [] (gX10_readsNumber (E := E) (d := d) (0 : Int64) ((a1 - (1 : Int32)).toInt64) σ r1h) rfl lmRX10_208 (ci := 10) rfl tM_0 eM_0 rfl (Nat.le_of_ble_eq_true rfl) dX10_readsRoad_6 rfl (st2 := [.int r1.1]) rfl (pc2 := 9) rfl ?_
  refine kg_if_ne 14 dX10_readsRoad_9 rfl (pc2 := 12) rfl (fun q2 => ?_) (fun q2 => ?_)
  · replace h := (if_neg q2).symm.trans h
    refine kg_aload_n 0 dX10_readsRoad_14 rfl (pc2 := 15) rfl ?_
    refine kg_getl clX10 rfl 14 (Nat.le_of_ble_eq_true rfl) lfRX10_200 tM_0 eM_0 rfl dX10_readsRoad_15 (pc2 := 18) rfl ?_
    obtain ⟨x3, x3e, h⟩ := kw_let_e h
    refine kg_lstore_n dX10_readsRoad_18 rfl (Nat.le_of_ble_eq_true rfl) x3e (lv2 := [(2, .long x3), (0, .ref 0), (1, .int a1)]) rfl (pc2 := 19) rfl ?_
    refine kg_aload_n 1 dX10_readsRoad_19 rfl (pc2 := 20) rfl ?_
    refine kg_iconst dX10_readsRoad_20 ki_0 (pc2 := 21) rfl ?_
    obtain ⟨r4, r4h, h⟩ := kw_bind_e h
    refine kg_callV (μ := μX10_readsRoad) (d := (d + 2)) rfl mVX10_keepsNumber [.int (0 : Int32)] [] (gX10_keepsNumber (E := E) (d := (d + 2)) (0 : Int32) r1.2 r4h) rfl lmRX10_212 (ci := 10) rfl tM_0 eM_0 rfl (Nat.le_of_ble_eq_true rfl) dX10_readsRoad_21 rfl (st2 := [.int r4.1]) rfl (pc2 := 24) rfl ?_
    refine kg_if_eq 39 dX10_readsRoad_24 rfl (pc2 := 27) rfl (fun q5 => ?_) (fun q5 => ?_)
    · replace h := (if_pos q5).symm.trans h
      refine kg_iconst dX10_readsRoad_39 ki_0 (pc2 := 40) rfl ?_
      cases h
      exact kg_iret (ty := .boolean) dX10_readsRoad_40 rfl rfl
    · replace h := (if_neg q5).symm.trans h
      refine kg_aload_n 1 dX10_readsRoad_27 rfl (pc2 := 28) rfl ?_
      refine kg_lconst dX10_readsRoad_28 kl_0 (pc2 := 29) rfl ?_
      refine kg_iload_n 2 dX10_readsRoad_29 rfl (pc2 := 30) rfl ?_
      refine kg_iconst dX10_readsRoad_30 ki_1 (pc2 := 31) rfl ?_
      refine kg_isub dX10_readsRoad_31 (pc2 := 32) rfl ?_
      refine kg_i2l dX10_readsRoad_32 (pc2 := 33) rfl ?_
      obtain ⟨r6, r6h, h⟩ := kw_bind_e h
      refine kg_callV (μ := μX10_readsRoad) (d := (d + 2)) rfl mVX10_readsNumber [.long (0 : Int64), .long ((a1 - (1 : Int32)).toInt64)] [] (gX10_readsNumber (E := E) (d := d) (0 : Int64) ((a1 - (1 : Int32)).toInt64) r4.2 r6h) rfl lmRX10_208 (ci := 10) rfl tM_0 eM_0 rfl (Nat.le_of_ble_eq_true rfl) dX10_readsRoad_33 rfl (st2 := [.int r6.1]) rfl (pc2 := 36) rfl ?_
      refine kg_if_ne 41 dX10_readsRoad_36 rfl (pc2 := 39) rfl (fun q7 => ?_) (fun q7 => ?_)
      · replace h := (if_neg q7).symm.trans h
        refine kg_aload_n 1 dX10_readsRoad_41 rfl (pc2 := 42) rfl ?_
        refine kg_getl clX10 rfl 14 (Nat.le_of_ble_eq_true rfl) lfRX10_200 tM_0 eM_0 rfl dX10_readsRoad_42 (pc2 := 45) rfl ?_
        refine kg_lload_n 0 dX10_readsRoad_45 rfl (pc2 := 46) rfl ?_
        refine kg_lcmp_ne 61 dX10_readsRoad_46 dX10_readsRoad_47 rfl (pc2 := 50) rfl (fun q8 => ?_) (fun q8 => ?_)
        · replace h := (if_neg q8).symm.trans h
          refine kg_aload_n 1 dX10_readsRoad_61 rfl (pc2 := 62) rfl ?_
          refine kg_iconst dX10_readsRoad_62 ki_1 (pc2 := 63) rfl ?_
          obtain ⟨r9, r9h, h⟩ := kw_bind_e h
          refine kg_callV (μ := μX10_readsRoad) (d := (d + 2)) rfl mVX10_keepsNumber [.int (1 : Int32)] [] (gX10_keepsNumber (E := E) (d := (d + 2)) (1 : Int32) r6.2 r9h) rfl lmRX10_212 (ci := 10) rfl tM_0 eM_0 rfl (Nat.le_of_ble_eq_true rfl) dX10_readsRoad_63 rfl (st2 := [.int r9.1]) rfl (pc2 := 66) rfl ?_
          refine kg_if_eq 94 dX10_readsRoad_66 rfl (pc2 := 69) rfl (fun q10 => ?_) (fun q10 => ?_)
          · replace h := (if_pos q10).symm.trans h
            refine kg_iconst dX10_readsRoad_94 ki_0 (pc2 := 95) rfl ?_
            cases h
            exact kg_iret (ty := .boolean) dX10_readsRoad_95 rfl rfl
          · replace h := (if_neg q10).symm.trans h
            refine kg_aload_n 1 dX10_readsRoad_69 rfl (pc2 := 70) rfl ?_
            refine kg_ldc2 rfl lcRX10_85 dX10_readsRoad_70 (pc2 := 73) rfl ?_
            refine kg_ldc2 rfl lcRX10_87 dX10_readsRoad_73 (pc2 := 76) rfl ?_
            obtain ⟨r11, r11h, h⟩ := kw_bind_e h
            refine kg_callV (μ := μX10_readsRoad) (d := (d + 2)) rfl mVX10_readsNumber [.long (-1000000000 : Int64), .long (1000000000 : Int64)] [] (gX10_readsNumber (E := E) (d := d) (-1000000000 : Int64) (1000000000 : Int64) r9.2 r11h) rfl lmRX10_208 (ci := 10) rfl tM_0 eM_0 rfl (Nat.le_of_ble_eq_true rfl) dX10_readsRoad_76 rfl (st2 := [.int r11.1]) rfl (pc2 := 79) rfl ?_
            refine kg_if_eq 94 dX10_readsRoad_79 rfl (pc2 := 82) rfl (fun q12 => ?_) (fun q12 => ?_)
            · replace h := (if_pos q12).symm.trans h
              refine kg_iconst dX10_readsRoad_94 ki_0 (pc2 := 95) rfl ?_
              cases h
              exact kg_iret (ty := .boolean) dX10_readsRoad_95 rfl rfl
            · replace h := (if_neg q12).symm.trans h
              refine kg_aload_n 1 dX10_readsRoad_82 rfl (pc2 := 83) rfl ?_
              refine kg_iconst dX10_readsRoad_83 ki_2 (pc2 := 84) rfl ?_
              obtain ⟨r13, r13h, h⟩ := kw_bind_e h
              refine kg_callV (μ := μX10_readsRoad) (d := (d + 2)) rfl mVX10_keepsNumber [.int (2 : Int32)] [] (gX10_keepsNumber (E := E) (d := (d + 2)) (2 : Int32) r11.2 r13h) rfl lmRX10_212 (ci := 10) rfl tM_0 eM_0 rfl (Nat.le_of_ble_eq_true rfl) dX10_readsRoad_84 rfl (st2 := [.int r13.1]) rfl (pc2 := 87) rfl ?_
              refine kg_if_eq 94 dX10_readsRoad_87 rfl (pc2 := 90) rfl (fun q14 => ?_) (fun q14 => ?_)
              · replace h := (if_pos q14).symm.trans h
                refine kg_iconst dX10_readsRoad_94 ki_0 (pc2 := 95) rfl ?_
                cases h
                exact kg_iret (ty := .boolean) dX10_readsRoad_95 rfl rfl
              · replace h := (if_neg q14).symm.trans h
                refine kg_iconst dX10_readsRoad_90 ki_1 (pc2 := 91) rfl ?_
                refine kg_goto 95 dX10_readsRoad_91 rfl ?_
                cases h
                exact kg_iret (ty := .boolean) dX10_readsRoad_95 rfl rfl
        · replace h := (if_pos q8).symm.trans h
          refine kg_aload_n 1 dX10_readsRoad_50 rfl (pc2 := 51) rfl ?_
          refine kg_bipush dX10_readsRoad_51 kb_6 (pc2 := 53) rfl ?_
          refine kg_aload_n 1 dX10_readsRoad_53 rfl (pc2 := 54) rfl ?_
          refine kg_geti clX10 rfl 10 (Nat.le_of_ble_eq_true rfl) lfRX10_193 tM_0 eM_0 rfl dX10_readsRoad_54 (pc2 := 57) rfl ?_
          obtain ⟨r15, r15h, h⟩ := kw_bind_e h
          refine kg_callV (μ := μX10_readsRoad) (d := (d + 2)) rfl mVX10_wrongAt [.int (6 : Int32), .int (r6.2.1 0 10)] [] (gX10_wrongAt (E := E) (d := (d + 2)) (6 : Int32) (r6.2.1 0 10) r6.2 r15h) rfl lmRX10_171 (ci := 10) rfl tM_0 eM_0 rfl (Nat.le_of_ble_eq_true rfl) dX10_readsRoad_57 rfl (st2 := [.int r15.1]) rfl (pc2 := 60) rfl ?_
          obtain ⟨q16, h⟩ := kw_chk_e h
          cases h
          exact kg_iret (ty := .boolean) dX10_readsRoad_60 rfl (kw_isB_n q16)
      · replace h := (if_pos q7).symm.trans h
        refine kg_iconst dX10_readsRoad_39 ki_0 (pc2 := 40) rfl ?_
        cases h
        exact kg_iret (ty := .boolean) dX10_readsRoad_40 rfl rfl
  · replace h := (if_pos q2).symm.trans h
    refine kg_iconst dX10_readsRoad_12 ki_0 (pc2 := 13) rfl ?_
    cases h
    exact kg_iret (ty := .boolean) dX10_readsRoad_13 rfl rfl
def jX10_readsNet_61 (σ : kw_M) : Option (Int32 × kw_M) :=
 if (σ.2 0 13) = (605220 : Int64) then
 ((fX10_readsRoad (σ.1 0 17) σ).bind fun r8 =>
 kw_chk (kw_isB r8.1) <| some (r8.1, r8.2))
 else
 (fX10_wrongAt (1 : Int32) (σ.1 0 11) σ).bind fun r6 =>
 kw_chk (kw_isB r6.1) <| some (r6.1, r6.2)
set_option maxHeartbeats 4000000 in
set_option maxRecDepth 100000 in
theorem gjX10_readsNet_61 {E : kw_E} {d : Nat} (σ : kw_M) {r : Int32 × kw_M} (h : jX10_readsNet_61 σ = some r) : kw_G E kwTM 21 (d + 4) μX10_readsNet 61 [(0, .ref 0)] [] σ (some (Value.int r.1)) r.2 := by
  unfold jX10_readsNet_61 at h
  refine kg_aload_n 0 dX10_readsNet_61 rfl (pc2 := 62) rfl ?_
  refine kg_getl clX10 rfl 13 (Nat.le_of_ble_eq_true rfl) lfRX10_178 tM_0 eM_0 rfl dX10_readsNet_62 (pc2 := 65) rfl ?_
  refine kg_ldc2 rfl lcRX10_227 dX10_readsNet_65 (pc2 := 68) rfl ?_
  refine kg_lcmp_ne 83 dX10_readsNet_68 dX10_readsNet_69 rfl (pc2 := 72) rfl (fun q5 => ?_) (fun q5 => ?_)
  · replace h := (if_neg q5).symm.trans h
    refine kg_aload_n 0 dX10_readsNet_83 rfl (pc2 := 84) rfl ?_
    refine kg_iconst dX10_readsNet_84 ki_1 (pc2 := 85) rfl ?_
    refine kg_aload_n 0 dX10_readsNet_85 rfl (pc2 := 86) rfl ?_
    refine kg_geti clX10 rfl 11 (Nat.le_of_ble_eq_true rfl) lfRX10_175 tM_0 eM_0 rfl dX10_readsNet_86 (pc2 := 89) rfl ?_
    obtain ⟨r6, r6h, h⟩ := kw_bind_e h
    refine kg_callV (μ := μX10_readsNet) (d := (d + 3)) rfl mVX10_wrongAt [.int (1 : Int32), .int (σ.1 0 11)] [] (gX10_wrongAt (E := E) (d := (d + 3)) (1 : Int32) (σ.1 0 11) σ r6h) rfl lmRX10_171 (ci := 10) rfl tM_0 eM_0 rfl (Nat.le_of_ble_eq_true rfl) dX10_readsNet_89 rfl (st2 := [.int r6.1]) rfl (pc2 := 92) rfl ?_
    obtain ⟨q7, h⟩ := kw_chk_e h
    cases h
    exact kg_iret (ty := .boolean) dX10_readsNet_92 rfl (kw_isB_n q7)
  · replace h := (if_pos q5).symm.trans h
    refine kg_aload_n 0 dX10_readsNet_72 rfl (pc2 := 73) rfl ?_
    refine kg_aload_n 0 dX10_readsNet_73 rfl (pc2 := 74) rfl ?_
    refine kg_geti clX10 rfl 17 (Nat.le_of_ble_eq_true rfl) lfRX10_224 tM_0 eM_0 rfl dX10_readsNet_74 (pc2 := 77) rfl ?_
    obtain ⟨r8, r8h, h⟩ := kw_bind_e h
    refine kg_callV (μ := μX10_readsNet) (d := (d + 3)) rfl mVX10_readsRoad [.int (σ.1 0 17)] [] (gX10_readsRoad (E := E) (d := d) (σ.1 0 17) σ r8h) rfl lmRX10_229 (ci := 10) rfl tM_0 eM_0 rfl (Nat.le_of_ble_eq_true rfl) dX10_readsNet_77 rfl (st2 := [.int r8.1]) rfl (pc2 := 80) rfl ?_
    refine kg_goto 92 dX10_readsNet_80 rfl ?_
    obtain ⟨q9, h⟩ := kw_chk_e h
    cases h
    exact kg_iret (ty := .boolean) dX10_readsNet_92 rfl (kw_isB_n q9)
def fX10_readsNet (σ : kw_M) : Option (Int32 × kw_M) :=
 (fX10_readsWord σ).bind fun r1 =>
 kw_chk (kw_in (r1.1 0 12) 24) <|
 kw_let (kw_sl r1 6 (r1.1 0 12).toNatClampNeg (r1.2 0 13)) fun s3 =>
 if (s3.2 0 13) = (21487059 : Int64) then
 (if (s3.1 0 12) = (0 : Int32) then
 ((fX10_readsNumber (2 : Int64) (12 : Int64) s3).bind fun r11 =>
 if r11.1 = (0 : Int32) then
 (some ((0 : Int32), r11.2))
 else
 kw_let (kw_si r11.2 0 17 ((r11.2.2 0 14).toInt32)) fun s13 =>
 some ((1 : Int32), s13))
 else
 jX10_readsNet_61 s3)
 else
 jX10_readsNet_61 s3
set_option maxHeartbeats 4000000 in
set_option maxRecDepth 100000 in
theorem gX10_readsNet {E : kw_E} {d : Nat} (σ : kw_M) {r : Int32 × kw_M} (h : fX10_readsNet σ = some r) : kw_Met E kwTM 21 (d + 4) μX10_readsNet [.ref 0] σ (some (Value.int r.1)) r.2 := by
  refine kw_enter plRX10 (Nat.le_of_ble_eq_true rfl) ?_
  show kw_G E kwTM 21 (d + 4) μX10_readsNet 0 [(0, .ref 0)] [] σ (some (Value.int r.1)) r.2
  unfold fX10_readsNet at h
  refine kg_aload_n 0 dX10_readsNet_0 rfl (pc2 := 1) rfl ?_
  obtain ⟨r1, r1h, h⟩ := kw_bind_e h
  refine kg_callV (μ := μX10_readsNet) (d := (d + 3)) rfl mVX10_readsWord [] [] (gX10_readsWord (E := E) (d := (d + 2)) σ r1h) rfl lmRX10_215 (ci := 10) rfl tM_0 eM_0 rfl (Nat.le_of_ble_eq_true rfl) dX10_readsNet_1 rfl (st2 := []) rfl (pc2 := 4) rfl ?_
  refine kg_aload_n 0 dX10_readsNet_4 rfl (pc2 := 5) rfl ?_
  refine kg_getr clX10 rfl 15 (Nat.le_of_ble_eq_true rfl) lfRX10_27 tM_0 eM_0 rfl dX10_readsNet_5 (pc2 := 8) rfl ?_
  refine kg_aload_n 0 dX10_readsNet_8 rfl (pc2 := 9) rfl ?_
  refine kg_geti clX10 rfl 12 (Nat.le_of_ble_eq_true rfl) lfRX10_205 tM_0 eM_0 rfl dX10_readsNet_9 (pc2 := 12) rfl ?_
  refine kg_aload_n 0 dX10_readsNet_12 rfl (pc2 := 13) rfl ?_
  refine kg_getl clX10 rfl 13 (Nat.le_of_ble_eq_true rfl) lfRX10_178 tM_0 eM_0 rfl dX10_readsNet_13 (pc2 := 16) rfl ?_
  obtain ⟨q2, h⟩ := kw_chk_e h
  obtain ⟨s3, s3e, h⟩ := kw_let_e h
  refine kg_last tM_6 eM_6 q2 (j := (r1.1 0 12).toNatClampNeg) rfl s3e dX10_readsNet_16 (pc2 := 17) rfl ?_
  refine kg_aload_n 0 dX10_readsNet_17 rfl (pc2 := 18) rfl ?_
  refine kg_getl clX10 rfl 13 (Nat.le_of_ble_eq_true rfl) lfRX10_178 tM_0 eM_0 rfl dX10_readsNet_18 (pc2 := 21) rfl ?_
  refine kg_ldc2 rfl lcRX10_218 dX10_readsNet_21 (pc2 := 24) rfl ?_
  refine kg_lcmp_ne 61 dX10_readsNet_24 dX10_readsNet_25 rfl (pc2 := 28) rfl (fun q4 => ?_) (fun q4 => ?_)
  · replace h := (if_neg q4).symm.trans h
    exact gjX10_readsNet_61 s3 h
  · replace h := (if_pos q4).symm.trans h
    refine kg_aload_n 0 dX10_readsNet_28 rfl (pc2 := 29) rfl ?_
    refine kg_geti clX10 rfl 12 (Nat.le_of_ble_eq_true rfl) lfRX10_205 tM_0 eM_0 rfl dX10_readsNet_29 (pc2 := 32) rfl ?_
    refine kg_if_ne 61 dX10_readsNet_32 rfl (pc2 := 35) rfl (fun q10 => ?_) (fun q10 => ?_)
    · replace h := (if_neg q10).symm.trans h
      exact gjX10_readsNet_61 s3 h
    · replace h := (if_pos q10).symm.trans h
      refine kg_aload_n 0 dX10_readsNet_35 rfl (pc2 := 36) rfl ?_
      refine kg_ldc2 rfl lcRX10_220 dX10_readsNet_36 (pc2 := 39) rfl ?_
      refine kg_ldc2 rfl lcRX10_222 dX10_readsNet_39 (pc2 := 42) rfl ?_
      obtain ⟨r11, r11h, h⟩ := kw_bind_e h
      refine kg_callV (μ := μX10_readsNet) (d := (d + 3)) rfl mVX10_readsNumber [.long (2 : Int64), .long (12 : Int64)] [] (gX10_readsNumber (E := E) (d := (d + 1)) (2 : Int64) (12 : Int64) s3 r11h) rfl lmRX10_208 (ci := 10) rfl tM_0 eM_0 rfl (Nat.le_of_ble_eq_true rfl) dX10_readsNet_42 rfl (st2 := [.int r11.1]) rfl (pc2 := 45) rfl ?_
      refine kg_if_ne 50 dX10_readsNet_45 rfl (pc2 := 48) rfl (fun q12 => ?_) (fun q12 => ?_)
      · replace h := (if_neg q12).symm.trans h
        refine kg_aload_n 0 dX10_readsNet_50 rfl (pc2 := 51) rfl ?_
        refine kg_aload_n 0 dX10_readsNet_51 rfl (pc2 := 52) rfl ?_
        refine kg_getl clX10 rfl 14 (Nat.le_of_ble_eq_true rfl) lfRX10_200 tM_0 eM_0 rfl dX10_readsNet_52 (pc2 := 55) rfl ?_
        refine kg_l2i dX10_readsNet_55 (pc2 := 56) rfl ?_
        obtain ⟨s13, s13e, h⟩ := kw_let_e h
        refine kg_puti clX10 rfl 17 (Nat.le_of_ble_eq_true rfl) lfRX10_224 rfl tM_0 eM_0 rfl (ty := .int) (by decide +kernel) rfl rfl s13e dX10_readsNet_56 (pc2 := 59) rfl ?_
        refine kg_iconst dX10_readsNet_59 ki_1 (pc2 := 60) rfl ?_
        cases h
        exact kg_iret (ty := .boolean) dX10_readsNet_60 rfl rfl
      · replace h := (if_pos q12).symm.trans h
        refine kg_iconst dX10_readsNet_48 ki_0 (pc2 := 49) rfl ?_
        cases h
        exact kg_iret (ty := .boolean) dX10_readsNet_49 rfl rfl
