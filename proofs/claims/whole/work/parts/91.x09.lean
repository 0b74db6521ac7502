/-! The class, method by method: the machine does what f says (g). -/
set_option maxHeartbeats 4000000 in
set_option maxRecDepth 100000 in
theorem gX9_way {E : kw_E} {d : Nat} (a1 : Int32) (a2 : Int32) (σ : kw_M) {r : Int32 × kw_M} (h : fX9_way a1 a2 σ = some r) : kw_Met E kwTX 48 (d + 2) μX9_way [.ref 0, .int a1, .int a2] σ (some (Value.int r.1)) r.2 := by
  refine kw_enter plRX9 (Nat.le_of_ble_eq_true rfl) ?_
  show kw_G E kwTX 48 (d + 2) μX9_way 0 [(0, .ref 0), (1, .int a1), (2, .int a2)] [] σ (some (Value.int r.1)) r.2
  unfold fX9_way at h
  refine kg_iload_n 2 dX9_way_0 rfl (pc2 := 1) rfl ?_
  refine kg_if_lt 29 dX9_way_1 rfl (pc2 := 4) rfl (fun q1 => ?_) (fun q1 => ?_)
  · replace h := (if_pos q1).symm.trans h
    refine kg_iconst dX9_way_29 ki_m1 (pc2 := 30) rfl ?_
    cases h
    exact kg_iret (ty := .int) dX9_way_30 rfl rfl
  · replace h := (if_neg q1).symm.trans h
    refine kg_aload_n 0 dX9_way_4 rfl (pc2 := 5) rfl ?_
    refine kg_getr clX9 rfl 0 (Nat.le_of_ble_eq_true rfl) lfRX9_10 tX_0 eX_0 rfl dX9_way_5 (pc2 := 8) rfl ?_
    refine kg_getr clX7 rfl 0 (Nat.le_of_ble_eq_true rfl) lfRX9_148 tX_1 eX_1 rfl dX9_way_8 (pc2 := 11) rfl ?_
    refine kg_iload_n 1 dX9_way_11 rfl (pc2 := 12) rfl ?_
    obtain ⟨r2, r2h, h⟩ := kw_bind_e h
    refine kg_callV (μ := μX9_way) (d := (d + 1)) rfl mVX4_hasTown [.int a1] [] (gX4_hasTown (E := E) (d := (d + 1)) a1 σ r2h) rfl lmRX9_176 (ci := 4) rfl tX_12 eX_12 rfl (Nat.le_of_ble_eq_true rfl) dX9_way_12 rfl (st2 := [.int r2]) rfl (pc2 := 15) rfl ?_
    refine kg_if_eq 29 dX9_way_15 rfl (pc2 := 18) rfl (fun q3 => ?_) (fun q3 => ?_)
    · replace h := (if_pos q3).symm.trans h
      refine kg_iconst dX9_way_29 ki_m1 (pc2 := 30) rfl ?_
      cases h
      exact kg_iret (ty := .int) dX9_way_30 rfl rfl
    · replace h := (if_neg q3).symm.trans h
      refine kg_aload_n 0 dX9_way_18 rfl (pc2 := 19) rfl ?_
      refine kg_getr clX9 rfl 0 (Nat.le_of_ble_eq_true rfl) lfRX9_10 tX_0 eX_0 rfl dX9_way_19 (pc2 := 22) rfl ?_
      refine kg_iload_n 1 dX9_way_22 rfl (pc2 := 23) rfl ?_
      obtain ⟨r4, r4h, h⟩ := kw_bind_e h
      refine kg_callV (μ := μX9_way) (d := (d + 1)) rfl mVX7_hasDistance [.int a1] [] (gX7_hasDistance (E := E) (d := (d + 1)) a1 σ r4h) rfl lmRX9_289 (ci := 7) rfl tX_1 eX_1 rfl (Nat.le_of_ble_eq_true rfl) dX9_way_23 rfl (st2 := [.int r4]) rfl (pc2 := 26) rfl ?_
      refine kg_if_ne 31 dX9_way_26 rfl (pc2 := 29) rfl (fun q5 => ?_) (fun q5 => ?_)
      · replace h := (if_neg q5).symm.trans h
        refine kg_iload_n 2 dX9_way_31 rfl (pc2 := 32) rfl ?_
        refine kg_aload_n 0 dX9_way_32 rfl (pc2 := 33) rfl ?_
        refine kg_iload_n 1 dX9_way_33 rfl (pc2 := 34) rfl ?_
        obtain ⟨r6, r6h, h⟩ := kw_bind_e h
        refine kg_callV (μ := μX9_way) (d := (d + 1)) rfl mVX9_findWay [.int a1] [.int a2] (gX9_findWay (E := E) (d := d) a1 σ r6h) rfl lmRX9_292 (ci := 9) rfl tX_0 eX_0 rfl (Nat.le_of_ble_eq_true rfl) dX9_way_34 rfl (st2 := [.int r6.1, .int a2]) rfl (pc2 := 37) rfl ?_
        refine kg_icmp_ge 52 dX9_way_37 rfl (pc2 := 40) rfl (fun q7 => ?_) (fun q7 => ?_)
        · replace h := (if_pos q7).symm.trans h
          refine kg_bipush dX9_way_52 kb_m4 (pc2 := 54) rfl ?_
          cases h
          exact kg_iret (ty := .int) dX9_way_54 rfl rfl
        · replace h := (if_neg q7).symm.trans h
          refine kg_aload_n 0 dX9_way_40 rfl (pc2 := 41) rfl ?_
          refine kg_getr clX9 rfl 6 (Nat.le_of_ble_eq_true rfl) lfRX9_43 tX_0 eX_0 rfl dX9_way_41 (pc2 := 44) rfl ?_
          refine kg_getr clX6 rfl 1 (Nat.le_of_ble_eq_true rfl) lfRX9_339 tX_6 eX_6 rfl dX9_way_44 (pc2 := 47) rfl ?_
          refine kg_iload_n 2 dX9_way_47 rfl (pc2 := 48) rfl ?_
          obtain ⟨q8, h⟩ := kw_chk_e h
          refine kg_iald tX_42 eX_42 q8 (j := a2.toNatClampNeg) rfl dX9_way_48 (pc2 := 49) rfl ?_
          refine kg_goto 54 dX9_way_49 rfl ?_
          cases h
          exact kg_iret (ty := .int) dX9_way_54 rfl rfl
      · replace h := (if_pos q5).symm.trans h
        refine kg_iconst dX9_way_29 ki_m1 (pc2 := 30) rfl ?_
        cases h
        exact kg_iret (ty := .int) dX9_way_30 rfl rfl
set_option maxHeartbeats 4000000 in
set_option maxRecDepth 100000 in
theorem gX9_needed {E : kw_E} {d : Nat} (a1 : Int32) (a2 : Int32) (σ : kw_M) {r : Int32 × kw_M} (h : fX9_needed a1 a2 σ = some r) : kw_Met E kwTX 48 (d + 4) μX9_needed [.ref 0, .int a1, .int a2] σ (some (Value.int r.1)) r.2 := by
  refine kw_enter plRX9 (Nat.le_of_ble_eq_true rfl) ?_
  show kw_G E kwTX 48 (d + 4) μX9_needed 0 [(0, .ref 0), (1, .int a1), (2, .int a2)] [] σ (some (Value.int r.1)) r.2
  unfold fX9_needed at h
  refine kg_aload_n 0 dX9_needed_0 rfl (pc2 := 1) rfl ?_
  refine kg_getr clX9 rfl 0 (Nat.le_of_ble_eq_true rfl) lfRX9_10 tX_0 eX_0 rfl dX9_needed_1 (pc2 := 4) rfl ?_
  refine kg_getr clX7 rfl 0 (Nat.le_of_ble_eq_true rfl) lfRX9_148 tX_1 eX_1 rfl dX9_needed_4 (pc2 := 7) rfl ?_
  refine kg_iload_n 1 dX9_needed_7 rfl (pc2 := 8) rfl ?_
  obtain ⟨r1, r1h, h⟩ := kw_bind_e h
  refine kg_callV (μ := μX9_needed) (d := (d + 3)) rfl mVX4_isOpen [.int a1] [] (gX4_isOpen (E := E) (d := (d + 3)) 12 kx_4_12 a1 σ r1h) rfl lmRX9_201 (ci := 4) rfl tX_12 eX_12 rfl (Nat.le_of_ble_eq_true rfl) dX9_needed_8 rfl (st2 := [.int r1]) rfl (pc2 := 11) rfl ?_
  refine kg_if_eq 39 dX9_needed_11 rfl (pc2 := 14) rfl (fun q2 => ?_) (fun q2 => ?_)
  · replace h := (if_pos q2).symm.trans h
    refine kg_iconst dX9_needed_39 ki_m1 (pc2 := 40) rfl ?_
    cases h
    exact kg_iret (ty := .int) dX9_needed_40 rfl rfl
  · replace h := (if_neg q2).symm.trans h
    refine kg_aload_n 0 dX9_needed_14 rfl (pc2 := 15) rfl ?_
    refine kg_getr clX9 rfl 0 (Nat.le_of_ble_eq_true rfl) lfRX9_10 tX_0 eX_0 rfl dX9_needed_15 (pc2 := 18) rfl ?_
    refine kg_getr clX7 rfl 0 (Nat.le_of_ble_eq_true rfl) lfRX9_148 tX_1 eX_1 rfl dX9_needed_18 (pc2 := 21) rfl ?_
    refine kg_iload_n 2 dX9_needed_21 rfl (pc2 := 22) rfl ?_
    obtain ⟨r3, r3h, h⟩ := kw_bind_e h
    refine kg_callV (μ := μX9_needed) (d := (d + 3)) rfl mVX4_hasTown [.int a2] [] (gX4_hasTown (E := E) (d := (d + 3)) a2 σ r3h) rfl lmRX9_176 (ci := 4) rfl tX_12 eX_12 rfl (Nat.le_of_ble_eq_true rfl) dX9_needed_22 rfl (st2 := [.int r3]) rfl (pc2 := 25) rfl ?_
    refine kg_if_eq 39 dX9_needed_25 rfl (pc2 := 28) rfl (fun q4 => ?_) (fun q4 => ?_)
    · replace h := (if_pos q4).symm.trans h
      refine kg_iconst dX9_needed_39 ki_m1 (pc2 := 40) rfl ?_
      cases h
      exact kg_iret (ty := .int) dX9_needed_40 rfl rfl
    · replace h := (if_neg q4).symm.trans h
      refine kg_aload_n 0 dX9_needed_28 rfl (pc2 := 29) rfl ?_
      refine kg_getr clX9 rfl 0 (Nat.le_of_ble_eq_true rfl) lfRX9_10 tX_0 eX_0 rfl dX9_needed_29 (pc2 := 32) rfl ?_
      refine kg_iload_n 2 dX9_needed_32 rfl (pc2 := 33) rfl ?_
      obtain ⟨r5, r5h, h⟩ := kw_bind_e h
      refine kg_callV (μ := μX9_needed) (d := (d + 3)) rfl mVX7_hasDistance [.int a2] [] (gX7_hasDistance (E := E) (d := (d + 3)) a2 σ r5h) rfl lmRX9_289 (ci := 7) rfl tX_1 eX_1 rfl (Nat.le_of_ble_eq_true rfl) dX9_needed_33 rfl (st2 := [.int r5]) rfl (pc2 := 36) rfl ?_
      refine kg_if_ne 41 dX9_needed_36 rfl (pc2 := 39) rfl (fun q6 => ?_) (fun q6 => ?_)
      · replace h := (if_neg q6).symm.trans h
        refine kg_aload_n 0 dX9_needed_41 rfl (pc2 := 42) rfl ?_
        refine kg_iload_n 1 dX9_needed_42 rfl (pc2 := 43) rfl ?_
        refine kg_iload_n 2 dX9_needed_43 rfl (pc2 := 44) rfl ?_
        obtain ⟨r7, r7h, h⟩ := kw_bind_e h
        refine kg_callV (μ := μX9_needed) (d := (d + 3)) rfl mVX9_isNeeded [.int a1, .int a2] [] (gX9_isNeeded (E := E) (d := d) a1 a2 σ r7h) rfl lmRX9_345 (ci := 9) rfl tX_0 eX_0 rfl (Nat.le_of_ble_eq_true rfl) dX9_needed_44 rfl (st2 := [.int r7.1]) rfl (pc2 := 47) rfl ?_
        refine kg_if_eq 54 dX9_needed_47 rfl (pc2 := 50) rfl (fun q8 => ?_) (fun q8 => ?_)
        · replace h := (if_pos q8).symm.trans h
          refine kg_iconst dX9_needed_54 ki_0 (pc2 := 55) rfl ?_
          cases h
          exact kg_iret (ty := .int) dX9_needed_55 rfl rfl
        · replace h := (if_neg q8).symm.trans h
          refine kg_iconst dX9_needed_50 ki_1 (pc2 := 51) rfl ?_
          refine kg_goto 55 dX9_needed_51 rfl ?_
          cases h
          exact kg_iret (ty := .int) dX9_needed_55 rfl rfl
      · replace h := (if_pos q6).symm.trans h
        refine kg_iconst dX9_needed_39 ki_m1 (pc2 := 40) rfl ?_
        cases h
        exact kg_iret (ty := .int) dX9_needed_40 rfl rfl
set_option maxHeartbeats 4000000 in
set_option maxRecDepth 100000 in
theorem gX9_touched {E : kw_E} {d : Nat} (a1 : Int32) (σ : kw_M) {r : Int32} (h : fX9_touched a1 σ = some r) : kw_Met E kwTX 48 d μX9_touched [.ref 0, .int a1] σ (some (Value.int r)) σ := by
  refine kw_enter plRX9 (Nat.le_of_ble_eq_true rfl) ?_
  show kw_G E kwTX 48 d μX9_touched 0 [(0, .ref 0), (1, .int a1)] [] σ (some (Value.int r)) σ
  unfold fX9_touched at h
  refine kg_iload_n 1 dX9_touched_0 rfl (pc2 := 1) rfl ?_
  refine kg_if_ge 6 dX9_touched_1 rfl (pc2 := 4) rfl (fun q1 => ?_) (fun q1 => ?_)
  · replace h := (if_pos q1).symm.trans h
    refine kg_iload_n 1 dX9_touched_6 rfl (pc2 := 7) rfl ?_
    refine kg_aload_n 0 dX9_touched_7 rfl (pc2 := 8) rfl ?_
    refine kg_getr clX9 rfl 0 (Nat.le_of_ble_eq_true rfl) lfRX9_10 tX_0 eX_0 rfl dX9_touched_8 (pc2 := 11) rfl ?_
    refine kg_geti clX7 rfl 7 (Nat.le_of_ble_eq_true rfl) lfRX9_214 tX_1 eX_1 rfl dX9_touched_11 (pc2 := 14) rfl ?_
    refine kg_icmp_ge 29 dX9_touched_14 rfl (pc2 := 17) rfl (fun q2 => ?_) (fun q2 => ?_)
    · replace h := (if_pos q2).symm.trans h
      refine kg_bipush dX9_touched_29 kb_m4 (pc2 := 31) rfl ?_
      cases h
      exact kg_iret (ty := .int) dX9_touched_31 rfl rfl
    · replace h := (if_neg q2).symm.trans h
      refine kg_aload_n 0 dX9_touched_17 rfl (pc2 := 18) rfl ?_
      refine kg_getr clX9 rfl 0 (Nat.le_of_ble_eq_true rfl) lfRX9_10 tX_0 eX_0 rfl dX9_touched_18 (pc2 := 21) rfl ?_
      refine kg_getr clX7 rfl 8 (Nat.le_of_ble_eq_true rfl) lfRX9_357 tX_1 eX_1 rfl dX9_touched_21 (pc2 := 24) rfl ?_
      refine kg_iload_n 1 dX9_touched_24 rfl (pc2 := 25) rfl ?_
      obtain ⟨q3, h⟩ := kw_chk_e h
      refine kg_iald tX_15 eX_15 q3 (j := a1.toNatClampNeg) rfl dX9_touched_25 (pc2 := 26) rfl ?_
      refine kg_goto 31 dX9_touched_26 rfl ?_
      cases h
      exact kg_iret (ty := .int) dX9_touched_31 rfl rfl
  · replace h := (if_neg q1).symm.trans h
    refine kg_iconst dX9_touched_4 ki_m1 (pc2 := 5) rfl ?_
    cases h
    exact kg_iret (ty := .int) dX9_touched_5 rfl rfl
set_option maxHeartbeats 4000000 in
set_option maxRecDepth 100000 in
theorem gX9_without {E : kw_E} {d : Nat} (a1 : Int32) (a2 : Int32) (σ : kw_M) {r : Int64 × kw_M} (h : fX9_without a1 a2 σ = some r) : kw_Met E kwTX 48 (d + 3) μX9_without [.ref 0, .int a1, .int a2] σ (some (Value.long r.1)) r.2 := by
  refine kw_enter plRX9 (Nat.le_of_ble_eq_true rfl) ?_
  show kw_G E kwTX 48 (d + 3) μX9_without 0 [(0, .ref 0), (1, .int a1), (2, .int a2)] [] σ (some (Value.long r.1)) r.2
  unfold fX9_without at h
  refine kg_aload_n 0 dX9_without_0 rfl (pc2 := 1) rfl ?_
  refine kg_getr clX9 rfl 0 (Nat.le_of_ble_eq_true rfl) lfRX9_10 tX_0 eX_0 rfl dX9_without_1 (pc2 := 4) rfl ?_
  refine kg_getr clX7 rfl 0 (Nat.le_of_ble_eq_true rfl) lfRX9_148 tX_1 eX_1 rfl dX9_without_4 (pc2 := 7) rfl ?_
  refine kg_iload_n 1 dX9_without_7 rfl (pc2 := 8) rfl ?_
  obtain ⟨r1, r1h, h⟩ := kw_bind_e h
  refine kg_callV (μ := μX9_without) (d := (d + 2)) rfl mVX4_isOpen [.int a1] [] (gX4_isOpen (E := E) (d := (d + 2)) 12 kx_4_12 a1 σ r1h) rfl lmRX9_201 (ci := 4) rfl tX_12 eX_12 rfl (Nat.le_of_ble_eq_true rfl) dX9_without_8 rfl (st2 := [.int r1]) rfl (pc2 := 11) rfl ?_
  refine kg_if_eq 28 dX9_without_11 rfl (pc2 := 14) rfl (fun q2 => ?_) (fun q2 => ?_)
  · replace h := (if_pos q2).symm.trans h
    refine kg_ldc2 rfl lcRX9_261 dX9_without_28 (pc2 := 31) rfl ?_
    cases h
    exact kg_lret dX9_without_31 rfl
  · replace h := (if_neg q2).symm.trans h
    refine kg_aload_n 0 dX9_without_14 rfl (pc2 := 15) rfl ?_
    refine kg_getr clX9 rfl 0 (Nat.le_of_ble_eq_true rfl) lfRX9_10 tX_0 eX_0 rfl dX9_without_15 (pc2 := 18) rfl ?_
    refine kg_getr clX7 rfl 0 (Nat.le_of_ble_eq_true rfl) lfRX9_148 tX_1 eX_1 rfl dX9_without_18 (pc2 := 21) rfl ?_
    refine kg_iload_n 2 dX9_without_21 rfl (pc2 := 22) rfl ?_
    obtain ⟨r3, r3h, h⟩ := kw_bind_e h
    refine kg_callV (μ := μX9_without) (d := (d + 2)) rfl mVX4_hasTown [.int a2] [] (gX4_hasTown (E := E) (d := (d + 2)) a2 σ r3h) rfl lmRX9_176 (ci := 4) rfl tX_12 eX_12 rfl (Nat.le_of_ble_eq_true rfl) dX9_without_22 rfl (st2 := [.int r3]) rfl (pc2 := 25) rfl ?_
    refine kg_if_ne 32 dX9_without_25 rfl (pc2 := 28) rfl (fun q4 => ?_) (fun q4 => ?_)
    · replace h := (if_neg q4).symm.trans h
      refine kg_aload_n 0 dX9_without_32 rfl (pc2 := 33) rfl ?_
      refine kg_iload_n 1 dX9_without_33 rfl (pc2 := 34) rfl ?_
      refine kg_iload_n 2 dX9_without_34 rfl (pc2 := 35) rfl ?_
      obtain ⟨r5, r5h, h⟩ := kw_bind_e h
      refine kg_callV (μ := μX9_without) (d := (d + 2)) rfl mVX9_distanceWithout [.int a1, .int a2] [] (gX9_distanceWithout (E := E) (d := d) a1 a2 σ r5h) rfl lmRX9_349 (ci := 9) rfl tX_0 eX_0 rfl (Nat.le_of_ble_eq_true rfl) dX9_without_35 rfl (st2 := [.long r5.1]) rfl (pc2 := 38) rfl ?_
      cases h
      exact kg_lret dX9_without_38 rfl
    · replace h := (if_pos q4).symm.trans h
      refine kg_ldc2 rfl lcRX9_261 dX9_without_28 (pc2 := 31) rfl ?_
      cases h
      exact kg_lret dX9_without_31 rfl
set_option maxHeartbeats 4000000 in
set_option maxRecDepth 100000 in
theorem gX9_between {E : kw_E} {d : Nat} (a1 : Int32) (a2 : Int32) (σ : kw_M) {r : Int64 × kw_M} (h : fX9_between a1 a2 σ = some r) : kw_Met E kwTX 48 (d + 4) μX9_between [.ref 0, .int a1, .int a2] σ (some (Value.long r.1)) r.2 := by
  refine kw_enter plRX9 (Nat.le_of_ble_eq_true rfl) ?_
  show kw_G E kwTX 48 (d + 4) μX9_between 0 [(0, .ref 0), (1, .int a1), (2, .int a2)] [] σ (some (Value.long r.1)) r.2
  unfold fX9_between at h
  refine kg_aload_n 0 dX9_between_0 rfl (pc2 := 1) rfl ?_
  refine kg_getr clX9 rfl 0 (Nat.le_of_ble_eq_true rfl) lfRX9_10 tX_0 eX_0 rfl dX9_between_1 (pc2 := 4) rfl ?_
  refine kg_getr clX7 rfl 0 (Nat.le_of_ble_eq_true rfl) lfRX9_148 tX_1 eX_1 rfl dX9_between_4 (pc2 := 7) rfl ?_
  refine kg_iload_n 1 dX9_between_7 rfl (pc2 := 8) rfl ?_
  obtain ⟨r1, r1h, h⟩ := kw_bind_e h
  refine kg_callV (μ := μX9_between) (d := (d + 3)) rfl mVX4_hasTown [.int a1] [] (gX4_hasTown (E := E) (d := (d + 3)) a1 σ r1h) rfl lmRX9_176 (ci := 4) rfl tX_12 eX_12 rfl (Nat.le_of_ble_eq_true rfl) dX9_between_8 rfl (st2 := [.int r1]) rfl (pc2 := 11) rfl ?_
  refine kg_if_eq 28 dX9_between_11 rfl (pc2 := 14) rfl (fun q2 => ?_) (fun q2 => ?_)
  · replace h := (if_pos q2).symm.trans h
    refine kg_ldc2 rfl lcRX9_261 dX9_between_28 (pc2 := 31) rfl ?_
    cases h
    exact kg_lret dX9_between_31 rfl
  · replace h := (if_neg q2).symm.trans h
    refine kg_aload_n 0 dX9_between_14 rfl (pc2 := 15) rfl ?_
    refine kg_getr clX9 rfl 0 (Nat.le_of_ble_eq_true rfl) lfRX9_10 tX_0 eX_0 rfl dX9_between_15 (pc2 := 18) rfl ?_
    refine kg_getr clX7 rfl 0 (Nat.le_of_ble_eq_true rfl) lfRX9_148 tX_1 eX_1 rfl dX9_between_18 (pc2 := 21) rfl ?_
    refine kg_iload_n 2 dX9_between_21 rfl (pc2 := 22) rfl ?_
    obtain ⟨r3, r3h, h⟩ := kw_bind_e h
    refine kg_callV (μ := μX9_between) (d := (d + 3)) rfl mVX4_hasTown [.int a2] [] (gX4_hasTown (E := E) (d := (d + 3)) a2 σ r3h) rfl lmRX9_176 (ci := 4) rfl tX_12 eX_12 rfl (Nat.le_of_ble_eq_true rfl) dX9_between_22 rfl (st2 := [.int r3]) rfl (pc2 := 25) rfl ?_
    refine kg_if_ne 32 dX9_between_25 rfl (pc2 := 28) rfl (fun q4 => ?_) (fun q4 => ?_)
    · replace h := (if_neg q4).symm.trans h
      refine kg_aload_n 0 dX9_between_32 rfl (pc2 := 33) rfl ?_
      obtain ⟨r5, r5h, h⟩ := kw_bind_e h
      refine kg_callV (μ := μX9_between) (d := (d + 3)) rfl mVX9_rightPairs [] [] (gX9_rightPairs (E := E) (d := d) σ r5h) rfl lmRX9_251 (ci := 9) rfl tX_0 eX_0 rfl (Nat.le_of_ble_eq_true rfl) dX9_between_33 rfl (st2 := [.ref 5]) rfl (pc2 := 36) rfl ?_
      refine kg_iload_n 1 dX9_between_36 rfl (pc2 := 37) rfl ?_
      refine kg_iload_n 2 dX9_between_37 rfl (pc2 := 38) rfl ?_
      obtain ⟨r6, r6h, h⟩ := kw_bind_e h
      refine kg_callV (μ := μX9_between) (d := (d + 3)) rfl mVX2_span [.int a1, .int a2] [] (gX2_span (E := E) (d := (d + 3)) a1 a2 r5 r6h) rfl lmRX9_360 (ci := 2) rfl tX_5 eX_5 rfl (Nat.le_of_ble_eq_true rfl) dX9_between_38 rfl (st2 := [.long r6]) rfl (pc2 := 41) rfl ?_
      cases h
      exact kg_lret dX9_between_41 rfl
    · replace h := (if_pos q4).symm.trans h
      refine kg_ldc2 rfl lcRX9_261 dX9_between_28 (pc2 := 31) rfl ?_
      cases h
      exact kg_lret dX9_between_31 rfl
set_option maxHeartbeats 4000000 in
set_option maxRecDepth 100000 in
theorem lX6_goOn_3 {E : kw_E} {d : Nat} (v2 : Int32) (v3 : Int64) (v5 : Int32) (v6 : Int32) (σ : kw_M) {v : Option Value} {σ2 : kw_M} {o : (Int32 × kw_M) ⊕ (kw_M)} (h : bX6_goOn_3 v2 v3 v5 v6 σ = some o) (hk : Sum.elim (fun s => kw_G E kwTX 48 (d + 2) μX6_goOn 3 [(0, .ref 6), (1, .ref 5), (2, .int v2), (3, .long v3), (5, .int v5), (6, .int s.1)] [] s.2 v σ2) (fun y => kw_G E kwTX 48 (d + 2) μX6_goOn 37 [] [] y v σ2) o) : kw_G E kwTX 48 (d + 2) μX6_goOn 3 [(0, .ref 6), (1, .ref 5), (2, .int v2), (3, .long v3), (5, .int v5), (6, .int v6)] [] σ v σ2 := by
  unfold bX6_goOn_3 at h
  refine kg_iload 5 dX6_goOn_3 rfl (pc2 := 5) rfl ?_
  refine kg_iload 4 dX6_goOn_5 rfl (pc2 := 7) rfl ?_
  refine kg_icmp_ge 37 dX6_goOn_7 rfl (pc2 := 10) rfl (fun q1 => ?_) (fun q1 => ?_)
  · replace h := (if_pos q1).symm.trans h
    refine kg_sub [] (lv2 := []) rfl ?_
    cases h
    exact hk
  · replace h := (if_neg q1).symm.trans h
    refine kg_aload_n 0 dX6_goOn_10 rfl (pc2 := 11) rfl ?_
    refine kg_getr clX6 rfl 5 (Nat.le_of_ble_eq_true rfl) lfRX6_22 tX_6 eX_6 rfl dX6_goOn_11 (pc2 := 14) rfl ?_
    refine kg_iload 5 dX6_goOn_14 rfl (pc2 := 16) rfl ?_
    refine kg_lload_n 3 dX6_goOn_16 rfl (pc2 := 17) rfl ?_
    refine kg_aload_n 1 dX6_goOn_17 rfl (pc2 := 18) rfl ?_
    refine kg_iload_n 2 dX6_goOn_18 rfl (pc2 := 19) rfl ?_
    refine kg_iload 5 dX6_goOn_19 rfl (pc2 := 21) rfl ?_
    obtain ⟨r2, r2h, h⟩ := kw_bind_e h
    refine kg_callV (μ := μX6_goOn) (d := (d + 1)) rfl mVX2_span [.int v2, .int v6] [.long v3, .int v6, .ref 44] (gX2_span (E := E) (d := (d + 1)) v2 v6 σ r2h) rfl lmRX6_100 (ci := 2) rfl tX_5 eX_5 rfl (Nat.le_of_ble_eq_true rfl) dX6_goOn_21 rfl (st2 := [.long r2, .long v3, .int v6, .ref 44]) rfl (pc2 := 24) rfl ?_
    obtain ⟨r3, r3h, h⟩ := kw_bind_e h
    refine kg_callN (μ := μX6_goOn) (d := (d + 1)) rfl mSX9_joined [.long v3, .long r2] [.int v6, .ref 44] (gX9_joined (E := E) (d := (d + 1)) v3 r2 σ r3h) rfl lnRX6_106 rfl (Nat.le_of_ble_eq_true rfl) dX6_goOn_24 rfl (st2 := [.long r3, .int v6, .ref 44]) rfl (pc2 := 27) rfl ?_
    obtain ⟨r4, r4h, h⟩ := kw_bind_e h
    refine kg_callS (μ := μX6_goOn) (d := (d + 1)) rfl mSX4_lower [.ref 44, .int v6, .long r3] [] (gX4_lower (E := E) (d := d) 44 ⟨tX_44, eX_44⟩ v6 r3 σ r4h) rfl lmRX6_109 rfl (Nat.le_of_ble_eq_true rfl) dX6_goOn_27 rfl (st2 := [.int r4.1]) rfl (pc2 := 30) rfl ?_
    refine kg_pop dX6_goOn_30 rfl (pc2 := 31) rfl ?_
    obtain ⟨x5, x5e, h⟩ := kw_let_e h
    refine kg_iinc 5 dX6_goOn_31 rfl (Nat.le_of_ble_eq_true rfl) x5e (lv2 := [(6, .int x5), (0, .ref 6), (1, .ref 5), (2, .int v2), (3, .long v3), (5, .int v5)]) rfl (pc2 := 34) rfl ?_
    refine kg_goto 3 dX6_goOn_34 rfl ?_
    refine kg_sub [1, 2, 3, 4, 5, 0] (lv2 := [(0, .ref 6), (1, .ref 5), (2, .int v2), (3, .long v3), (5, .int v5), (6, .int x5)]) rfl ?_
    cases h
    exact hk
set_option maxHeartbeats 4000000 in
set_option maxRecDepth 100000 in
theorem gX6_goOn {E : kw_E} {d : Nat} (a2 : Int32) (a3 : Int64) (a4 : Int32) (σ : kw_M) {r : kw_M} (h : fX6_goOn a2 a3 a4 σ = some r) : kw_Met E kwTX 48 (d + 2) μX6_goOn [.ref 6, .ref 5, .int a2, .long a3, .int a4] σ none r := by
  refine kw_enter plRX6 (Nat.le_of_ble_eq_true rfl) ?_
  show kw_G E kwTX 48 (d + 2) μX6_goOn 0 [(0, .ref 6), (1, .ref 5), (2, .int a2), (3, .long a3), (5, .int a4)] [] σ none r
  unfold fX6_goOn at h
  refine kg_iconst dX6_goOn_0 ki_0 (pc2 := 1) rfl ?_
  refine kg_istore dX6_goOn_1 (Nat.le_of_ble_eq_true rfl) rfl (lv2 := [(6, .int (0 : Int32)), (0, .ref 6), (1, .ref 5), (2, .int a2), (3, .long a3), (5, .int a4)]) rfl (pc2 := 3) rfl ?_
  refine kg_sub [1, 2, 3, 4, 5, 0] (lv2 := [(0, .ref 6), (1, .ref 5), (2, .int a2), (3, .long a3), (5, .int a4), (6, .int (0 : Int32))]) rfl ?_
  obtain ⟨x6, x6h, h⟩ := kw_bind_e h
  refine kw_loop_e (P := fun s => kw_G E kwTX 48 (d + 2) μX6_goOn 3 [(0, .ref 6), (1, .ref 5), (2, .int a2), (3, .long a3), (5, .int a4), (6, .int s.1)] [] s.2 none r) (K := fun y => kw_G E kwTX 48 (d + 2) μX6_goOn 37 [] [] y none r) (fun s o h0 hk => lX6_goOn_3 a2 a3 a4 s.1 s.2 h0 hk) kw_F _ _ x6h ?_
  show kw_G E kwTX 48 (d + 2) μX6_goOn 37 [] [] x6 none r
  cases h
  exact kg_vret dX6_goOn_37 rfl
set_option maxHeartbeats 4000000 in
set_option maxRecDepth 100000 in
theorem lX6_withFreeRoads_49 {E : kw_E} {d : Nat} (v3 : Int32) (v4 : Int32) (v6 : Int32) (v7 : Int32) (σ : kw_M) {v : Option Value} {σ2 : kw_M} {o : (Int32 × kw_M) ⊕ (kw_M)} (h : bX6_withFreeRoads_49 v3 v4 v6 v7 σ = some o) (hk : Sum.elim (fun s => kw_G E kwTX 48 (d + 3) μX6_withFreeRoads 49 [(0, .ref 6), (2, .ref 5), (3, .int v3), (4, .int v4), (5, .ref 12), (6, .int v6), (7, .int s.1)] [] s.2 v σ2) (fun y => kw_G E kwTX 48 (d + 3) μX6_withFreeRoads 117 [(0, .ref 6), (2, .ref 5), (3, .int v3), (4, .int v4), (5, .ref 12), (6, .int v6)] [] y v σ2) o) : kw_G E kwTX 48 (d + 3) μX6_withFreeRoads 49 [(0, .ref 6), (2, .ref 5), (3, .int v3), (4, .int v4), (5, .ref 12), (6, .int v6), (7, .int v7)] [] σ v σ2 := by
  unfold bX6_withFreeRoads_49 at h
  refine kg_iload 6 dX6_withFreeRoads_49 rfl (pc2 := 51) rfl ?_
  refine kg_aload 4 dX6_withFreeRoads_51 rfl (pc2 := 53) rfl ?_
  refine kg_geti clX4 rfl 1 (Nat.le_of_ble_eq_true rfl) lfRX6_58 tX_12 eX_12 rfl dX6_withFreeRoads_53 (pc2 := 56) rfl ?_
  refine kg_icmp_ge 117 dX6_withFreeRoads_56 rfl (pc2 := 59) rfl (fun q4 => ?_) (fun q4 => ?_)
  · replace h := (if_pos q4).symm.trans h
    refine kg_sub [0, 1, 2, 3, 4, 5] (lv2 := [(0, .ref 6), (2, .ref 5), (3, .int v3), (4, .int v4), (5, .ref 12), (6, .int v6)]) rfl ?_
    cases h
    exact hk
  · replace h := (if_neg q4).symm.trans h
    refine kg_aload 4 dX6_withFreeRoads_59 rfl (pc2 := 61) rfl ?_
    refine kg_iload 6 dX6_withFreeRoads_61 rfl (pc2 := 63) rfl ?_
    obtain ⟨r5, r5h, h⟩ := kw_bind_e h
    refine kg_callV (μ := μX6_withFreeRoads) (d := (d + 2)) rfl mVX4_isOpen [.int v7] [] (gX4_isOpen (E := E) (d := (d + 2)) 12 kx_4_12 v7 σ r5h) rfl lmRX6_90 (ci := 4) rfl tX_12 eX_12 rfl (Nat.le_of_ble_eq_true rfl) dX6_withFreeRoads_63 rfl (st2 := [.int r5]) rfl (pc2 := 66) rfl ?_
    refine kg_if_eq 111 dX6_withFreeRoads_66 rfl (pc2 := 69) rfl (fun q6 => ?_) (fun q6 => ?_)
    · replace h := (if_pos q6).symm.trans h
      obtain ⟨x7, x7e, h⟩ := kw_let_e h
      refine kg_iinc 6 dX6_withFreeRoads_111 rfl (Nat.le_of_ble_eq_true rfl) x7e (lv2 := [(7, .int x7), (0, .ref 6), (2, .ref 5), (3, .int v3), (4, .int v4), (5, .ref 12), (6, .int v6)]) rfl (pc2 := 114) rfl ?_
      refine kg_goto 49 dX6_withFreeRoads_114 rfl ?_
      refine kg_sub [1, 2, 3, 4, 5, 6, 0] (lv2 := [(0, .ref 6), (2, .ref 5), (3, .int v3), (4, .int v4), (5, .ref 12), (6, .int v6), (7, .int x7)]) rfl ?_
      cases h
      exact hk
    · replace h := (if_neg q6).symm.trans h
      refine kg_aload 4 dX6_withFreeRoads_69 rfl (pc2 := 71) rfl ?_
      refine kg_getr clX4 rfl 5 (Nat.le_of_ble_eq_true rfl) lfRX6_93 tX_12 eX_12 rfl dX6_withFreeRoads_71 (pc2 := 74) rfl ?_
      refine kg_iload 6 dX6_withFreeRoads_74 rfl (pc2 := 76) rfl ?_
      obtain ⟨q8, h⟩ := kw_chk_e h
      refine kg_iald tX_20 eX_20 q8 (j := v7.toNatClampNeg) rfl dX6_withFreeRoads_76 (pc2 := 77) rfl ?_
      refine kg_if_le 111 dX6_withFreeRoads_77 rfl (pc2 := 80) rfl (fun q9 => ?_) (fun q9 => ?_)
      · replace h := (if_pos q9).symm.trans h
        obtain ⟨x10, x10e, h⟩ := kw_let_e h
        refine kg_iinc 6 dX6_withFreeRoads_111 rfl (Nat.le_of_ble_eq_true rfl) x10e (lv2 := [(7, .int x10), (0, .ref 6), (2, .ref 5), (3, .int v3), (4, .int v4), (5, .ref 12), (6, .int v6)]) rfl (pc2 := 114) rfl ?_
        refine kg_goto 49 dX6_withFreeRoads_114 rfl ?_
        refine kg_sub [1, 2, 3, 4, 5, 6, 0] (lv2 := [(0, .ref 6), (2, .ref 5), (3, .int v3), (4, .int v4), (5, .ref 12), (6, .int v6), (7, .int x10)]) rfl ?_
        cases h
        exact hk
      · replace h := (if_neg q9).symm.trans h
        refine kg_aload_n 0 dX6_withFreeRoads_80 rfl (pc2 := 81) rfl ?_
        refine kg_aload_n 1 dX6_withFreeRoads_81 rfl (pc2 := 82) rfl ?_
        refine kg_aload 4 dX6_withFreeRoads_82 rfl (pc2 := 84) rfl ?_
        refine kg_getr clX4 rfl 4 (Nat.le_of_ble_eq_true rfl) lfRX6_65 tX_12 eX_12 rfl dX6_withFreeRoads_84 (pc2 := 87) rfl ?_
        refine kg_iload 6 dX6_withFreeRoads_87 rfl (pc2 := 89) rfl ?_
        refine kg_iald tX_19 eX_19 q8 (j := v7.toNatClampNeg) rfl dX6_withFreeRoads_89 (pc2 := 90) rfl ?_
        refine kg_aload_n 0 dX6_withFreeRoads_90 rfl (pc2 := 91) rfl ?_
        refine kg_getr clX6 rfl 4 (Nat.le_of_ble_eq_true rfl) lfRX6_19 tX_6 eX_6 rfl dX6_withFreeRoads_91 (pc2 := 94) rfl ?_
        refine kg_aload 4 dX6_withFreeRoads_94 rfl (pc2 := 96) rfl ?_
        refine kg_getr clX4 rfl 3 (Nat.le_of_ble_eq_true rfl) lfRX6_34 tX_12 eX_12 rfl dX6_withFreeRoads_96 (pc2 := 99) rfl ?_
        refine kg_iload 6 dX6_withFreeRoads_99 rfl (pc2 := 101) rfl ?_
        refine kg_iald tX_18 eX_18 q8 (j := v7.toNatClampNeg) rfl dX6_withFreeRoads_101 (pc2 := 102) rfl ?_
        obtain ⟨q11, h⟩ := kw_chk_e h
        refine kg_lald tX_43 eX_43 q11 (j := (σ.1 18 v7.toNatClampNeg).toNatClampNeg) rfl dX6_withFreeRoads_102 (pc2 := 103) rfl ?_
        refine kg_aload 4 dX6_withFreeRoads_103 rfl (pc2 := 105) rfl ?_
        refine kg_geti clX4 rfl 0 (Nat.le_of_ble_eq_true rfl) lfRX6_55 tX_12 eX_12 rfl dX6_withFreeRoads_105 (pc2 := 108) rfl ?_
        obtain ⟨r12, r12h, h⟩ := kw_bind_e h
        refine kg_callV (μ := μX6_withFreeRoads) (d := (d + 2)) rfl mVX6_goOn [.ref 5, .int (σ.1 19 v7.toNatClampNeg), .long (σ.2 43 (σ.1 18 v7.toNatClampNeg).toNatClampNeg), .int (σ.1 12 0)] [] (gX6_goOn (E := E) (d := d) (σ.1 19 v7.toNatClampNeg) (σ.2 43 (σ.1 18 v7.toNatClampNeg).toNatClampNeg) (σ.1 12 0) σ r12h) rfl lmRX6_96 (ci := 6) rfl tX_6 eX_6 rfl (Nat.le_of_ble_eq_true rfl) dX6_withFreeRoads_108 rfl (st2 := []) rfl (pc2 := 111) rfl ?_
        obtain ⟨x13, x13e, h⟩ := kw_let_e h
        refine kg_iinc 6 dX6_withFreeRoads_111 rfl (Nat.le_of_ble_eq_true rfl) x13e (lv2 := [(7, .int x13), (0, .ref 6), (2, .ref 5), (3, .int v3), (4, .int v4), (5, .ref 12), (6, .int v6)]) rfl (pc2 := 114) rfl ?_
        refine kg_goto 49 dX6_withFreeRoads_114 rfl ?_
        refine kg_sub [1, 2, 3, 4, 5, 6, 0] (lv2 := [(0, .ref 6), (2, .ref 5), (3, .int v3), (4, .int v4), (5, .ref 12), (6, .int v6), (7, .int x13)]) rfl ?_
        cases h
        exact hk
set_option maxHeartbeats 4000000 in
set_option maxRecDepth 100000 in
theorem lX6_withFreeRoads_24 {E : kw_E} {d : Nat} (v3 : Int32) (v4 : Int32) (v6 : Int32) (σ : kw_M) {v : Option Value} {σ2 : kw_M} {o : (Int32 × kw_M) ⊕ (kw_M)} (h : bX6_withFreeRoads_24 v3 v4 v6 σ = some o) (hk : Sum.elim (fun s => kw_G E kwTX 48 (d + 3) μX6_withFreeRoads 24 [(0, .ref 6), (2, .ref 5), (3, .int v3), (4, .int v4), (5, .ref 12), (6, .int s.1)] [] s.2 v σ2) (fun y => kw_G E kwTX 48 (d + 3) μX6_withFreeRoads 127 [(0, .ref 6), (3, .int v3)] [] y v σ2) o) : kw_G E kwTX 48 (d + 3) μX6_withFreeRoads 24 [(0, .ref 6), (2, .ref 5), (3, .int v3), (4, .int v4), (5, .ref 12), (6, .int v6)] [] σ v σ2 := by
  unfold bX6_withFreeRoads_24 at h
  refine kg_iload 5 dX6_withFreeRoads_24 rfl (pc2 := 26) rfl ?_
  refine kg_iload 3 dX6_withFreeRoads_26 rfl (pc2 := 28) rfl ?_
  refine kg_icmp_ge 127 dX6_withFreeRoads_28 rfl (pc2 := 31) rfl (fun q2 => ?_) (fun q2 => ?_)
  · replace h := (if_pos q2).symm.trans h
    refine kg_sub [0, 2] (lv2 := [(0, .ref 6), (3, .int v3)]) rfl ?_
    cases h
    exact hk
  · replace h := (if_neg q2).symm.trans h
    refine kg_aload_n 0 dX6_withFreeRoads_31 rfl (pc2 := 32) rfl ?_
    refine kg_getr clX6 rfl 4 (Nat.le_of_ble_eq_true rfl) lfRX6_19 tX_6 eX_6 rfl dX6_withFreeRoads_32 (pc2 := 35) rfl ?_
    refine kg_iconst dX6_withFreeRoads_35 ki_0 (pc2 := 36) rfl ?_
    refine kg_aload_n 0 dX6_withFreeRoads_36 rfl (pc2 := 37) rfl ?_
    refine kg_getr clX6 rfl 5 (Nat.le_of_ble_eq_true rfl) lfRX6_22 tX_6 eX_6 rfl dX6_withFreeRoads_37 (pc2 := 40) rfl ?_
    refine kg_iconst dX6_withFreeRoads_40 ki_0 (pc2 := 41) rfl ?_
    refine kg_bipush dX6_withFreeRoads_41 kb_12 (pc2 := 43) rfl ?_
    obtain ⟨s3, s3e, h⟩ := kw_let_e h
    refine kg_copyl (μ := μX6_withFreeRoads) (d := (d + 2)) rfl rfl cpRX6_39 tX_43 eX_43 tX_44 eX_44 (by decide) (by decide) (by decide) (by decide) (by decide) (Nat.le_of_ble_eq_true rfl) (by decide) (by decide) (by decide) s3e dX6_withFreeRoads_43 (pc2 := 46) rfl ?_
    refine kg_iconst dX6_withFreeRoads_46 ki_0 (pc2 := 47) rfl ?_
    refine kg_istore dX6_withFreeRoads_47 (Nat.le_of_ble_eq_true rfl) rfl (lv2 := [(7, .int (0 : Int32)), (0, .ref 6), (2, .ref 5), (3, .int v3), (4, .int v4), (5, .ref 12), (6, .int v6)]) rfl (pc2 := 49) rfl ?_
    refine kg_sub [1, 2, 3, 4, 5, 6, 0] (lv2 := [(0, .ref 6), (2, .ref 5), (3, .int v3), (4, .int v4), (5, .ref 12), (6, .int v6), (7, .int (0 : Int32))]) rfl ?_
    obtain ⟨x14, x14h, h⟩ := kw_bind_e h
    refine kw_loop_e (P := fun s => kw_G E kwTX 48 (d + 3) μX6_withFreeRoads 49 [(0, .ref 6), (2, .ref 5), (3, .int v3), (4, .int v4), (5, .ref 12), (6, .int v6), (7, .int s.1)] [] s.2 v σ2) (K := fun y => kw_G E kwTX 48 (d + 3) μX6_withFreeRoads 117 [(0, .ref 6), (2, .ref 5), (3, .int v3), (4, .int v4), (5, .ref 12), (6, .int v6)] [] y v σ2) (fun s o h0 hk => lX6_withFreeRoads_49 v3 v4 v6 s.1 s.2 h0 hk) kw_F _ _ x14h ?_
    show kw_G E kwTX 48 (d + 3) μX6_withFreeRoads 117 [(0, .ref 6), (2, .ref 5), (3, .int v3), (4, .int v4), (5, .ref 12), (6, .int v6)] [] x14 v σ2
    refine kg_aload_n 0 dX6_withFreeRoads_117 rfl (pc2 := 118) rfl ?_
    obtain ⟨r15, r15h, h⟩ := kw_bind_e h
    refine kg_callV (μ := μX6_withFreeRoads) (d := (d + 2)) rfl mVX6_foundIsKnown [] [] (gX6_foundIsKnown (E := E) (d := (d + 1)) x14 r15h) rfl lmRX6_76 (ci := 6) rfl tX_6 eX_6 rfl (Nat.le_of_ble_eq_true rfl) dX6_withFreeRoads_118 rfl (st2 := []) rfl (pc2 := 121) rfl ?_
    obtain ⟨x16, x16e, h⟩ := kw_let_e h
    refine kg_iinc 5 dX6_withFreeRoads_121 rfl (Nat.le_of_ble_eq_true rfl) x16e (lv2 := [(6, .int x16), (0, .ref 6), (2, .ref 5), (3, .int v3), (4, .int v4), (5, .ref 12)]) rfl (pc2 := 124) rfl ?_
    refine kg_goto 24 dX6_withFreeRoads_124 rfl ?_
    refine kg_sub [1, 2, 3, 4, 5, 0] (lv2 := [(0, .ref 6), (2, .ref 5), (3, .int v3), (4, .int v4), (5, .ref 12), (6, .int x16)]) rfl ?_
    cases h
    exact hk
set_option maxHeartbeats 4000000 in
set_option maxRecDepth 100000 in
theorem gX6_withFreeRoads {E : kw_E} {d : Nat} (a3 : Int32) (a4 : Int32) (σ : kw_M) {r : Int64 × kw_M} (h : fX6_withFreeRoads a3 a4 σ = some r) : kw_Met E kwTX 48 (d + 3) μX6_withFreeRoads [.ref 6, .ref 1, .ref 5, .int a3, .int a4] σ (some (Value.long r.1)) r.2 := by
  refine kw_enter plRX6 (Nat.le_of_ble_eq_true rfl) ?_
  show kw_G E kwTX 48 (d + 3) μX6_withFreeRoads 0 [(0, .ref 6), (1, .ref 1), (2, .ref 5), (3, .int a3), (4, .int a4)] [] σ (some (Value.long r.1)) r.2
  unfold fX6_withFreeRoads at h
  refine kg_aload_n 1 dX6_withFreeRoads_0 rfl (pc2 := 1) rfl ?_
  refine kg_getr clX7 rfl 0 (Nat.le_of_ble_eq_true rfl) lfRX6_30 tX_1 eX_1 rfl dX6_withFreeRoads_1 (pc2 := 4) rfl ?_
  refine kg_astore dX6_withFreeRoads_4 (Nat.le_of_ble_eq_true rfl) rfl (lv2 := [(5, .ref 12), (0, .ref 6), (1, .ref 1), (2, .ref 5), (3, .int a3), (4, .int a4)]) rfl (pc2 := 6) rfl ?_
  refine kg_aload_n 2 dX6_withFreeRoads_6 rfl (pc2 := 7) rfl ?_
  refine kg_getr clX7 rfl 9 (Nat.le_of_ble_eq_true rfl) lfRX6_87 tX_1 eX_1 rfl dX6_withFreeRoads_7 (pc2 := 10) rfl ?_
  refine kg_iconst dX6_withFreeRoads_10 ki_0 (pc2 := 11) rfl ?_
  refine kg_aload_n 1 dX6_withFreeRoads_11 rfl (pc2 := 12) rfl ?_
  refine kg_getr clX6 rfl 4 (Nat.le_of_ble_eq_true rfl) lfRX6_19 tX_6 eX_6 rfl dX6_withFreeRoads_12 (pc2 := 15) rfl ?_
  refine kg_iconst dX6_withFreeRoads_15 ki_0 (pc2 := 16) rfl ?_
  refine kg_bipush dX6_withFreeRoads_16 kb_12 (pc2 := 18) rfl ?_
  obtain ⟨s1, s1e, h⟩ := kw_let_e h
  refine kg_copyl (μ := μX6_withFreeRoads) (d := (d + 2)) rfl rfl cpRX6_39 tX_16 eX_16 tX_43 eX_43 (by decide) (by decide) (by decide) (by decide) (by decide) (Nat.le_of_ble_eq_true rfl) (by decide) (by decide) (by decide) s1e dX6_withFreeRoads_18 (pc2 := 21) rfl ?_
  refine kg_iconst dX6_withFreeRoads_21 ki_0 (pc2 := 22) rfl ?_
  refine kg_istore dX6_withFreeRoads_22 (Nat.le_of_ble_eq_true rfl) rfl (lv2 := [(6, .int (0 : Int32)), (5, .ref 12), (0, .ref 6), (1, .ref 1), (2, .ref 5), (3, .int a3), (4, .int a4)]) rfl (pc2 := 24) rfl ?_
  refine kg_sub [2, 4, 5, 6, 1, 0] (lv2 := [(0, .ref 6), (2, .ref 5), (3, .int a3), (4, .int a4), (5, .ref 12), (6, .int (0 : Int32))]) rfl ?_
  obtain ⟨x17, x17h, h⟩ := kw_bind_e h
  refine kw_loop_e (P := fun s => kw_G E kwTX 48 (d + 3) μX6_withFreeRoads 24 [(0, .ref 6), (2, .ref 5), (3, .int a3), (4, .int a4), (5, .ref 12), (6, .int s.1)] [] s.2 (some (Value.long r.1)) r.2) (K := fun y => kw_G E kwTX 48 (d + 3) μX6_withFreeRoads 127 [(0, .ref 6), (3, .int a3)] [] y (some (Value.long r.1)) r.2) (fun s o h0 hk => lX6_withFreeRoads_24 a3 a4 s.1 s.2 h0 hk) kw_F _ _ x17h ?_
  show kw_G E kwTX 48 (d + 3) μX6_withFreeRoads 127 [(0, .ref 6), (3, .int a3)] [] x17 (some (Value.long r.1)) r.2
  refine kg_aload_n 0 dX6_withFreeRoads_127 rfl (pc2 := 128) rfl ?_
  refine kg_getr clX6 rfl 4 (Nat.le_of_ble_eq_true rfl) lfRX6_19 tX_6 eX_6 rfl dX6_withFreeRoads_128 (pc2 := 131) rfl ?_
  refine kg_iload_n 1 dX6_withFreeRoads_131 rfl (pc2 := 132) rfl ?_
  obtain ⟨q18, h⟩ := kw_chk_e h
  refine kg_lald tX_43 eX_43 q18 (j := a3.toNatClampNeg) rfl dX6_withFreeRoads_132 (pc2 := 133) rfl ?_
  cases h
  exact kg_lret dX6_withFreeRoads_133 rfl
set_option maxHeartbeats 4000000 in
set_option maxRecDepth 100000 in
theorem gX9_free {E : kw_E} {d : Nat} (a1 : Int32) (a2 : Int32) (σ : kw_M) {r : Int64 × kw_M} (h : fX9_free a1 a2 σ = some r) : kw_Met E kwTX 48 (d + 4) μX9_free [.ref 0, .int a1, .int a2] σ (some (Value.long r.1)) r.2 := by
  refine kw_enter plRX9 (Nat.le_of_ble_eq_true rfl) ?_
  show kw_G E kwTX 48 (d + 4) μX9_free 0 [(0, .ref 0), (1, .int a1), (2, .int a2)] [] σ (some (Value.long r.1)) r.2
  unfold fX9_free at h
  refine kg_aload_n 0 dX9_free_0 rfl (pc2 := 1) rfl ?_
  refine kg_getr clX9 rfl 0 (Nat.le_of_ble_eq_true rfl) lfRX9_10 tX_0 eX_0 rfl dX9_free_1 (pc2 := 4) rfl ?_
  refine kg_getr clX7 rfl 0 (Nat.le_of_ble_eq_true rfl) lfRX9_148 tX_1 eX_1 rfl dX9_free_4 (pc2 := 7) rfl ?_
  refine kg_iload_n 1 dX9_free_7 rfl (pc2 := 8) rfl ?_
  obtain ⟨r1, r1h, h⟩ := kw_bind_e h
  refine kg_callV (μ := μX9_free) (d := (d + 3)) rfl mVX4_hasTown [.int a1] [] (gX4_hasTown (E := E) (d := (d + 3)) a1 σ r1h) rfl lmRX9_176 (ci := 4) rfl tX_12 eX_12 rfl (Nat.le_of_ble_eq_true rfl) dX9_free_8 rfl (st2 := [.int r1]) rfl (pc2 := 11) rfl ?_
  refine kg_if_eq 23 dX9_free_11 rfl (pc2 := 14) rfl (fun q2 => ?_) (fun q2 => ?_)
  · replace h := (if_pos q2).symm.trans h
    refine kg_ldc2 rfl lcRX9_261 dX9_free_23 (pc2 := 26) rfl ?_
    cases h
    exact kg_lret dX9_free_26 rfl
  · replace h := (if_neg q2).symm.trans h
    refine kg_iload_n 2 dX9_free_14 rfl (pc2 := 15) rfl ?_
    refine kg_if_lt 23 dX9_free_15 rfl (pc2 := 18) rfl (fun q3 => ?_) (fun q3 => ?_)
    · replace h := (if_pos q3).symm.trans h
      refine kg_ldc2 rfl lcRX9_261 dX9_free_23 (pc2 := 26) rfl ?_
      cases h
      exact kg_lret dX9_free_26 rfl
    · replace h := (if_neg q3).symm.trans h
      refine kg_iload_n 2 dX9_free_18 rfl (pc2 := 19) rfl ?_
      refine kg_iconst dX9_free_19 ki_3 (pc2 := 20) rfl ?_
      refine kg_icmp_le 27 dX9_free_20 rfl (pc2 := 23) rfl (fun q4 => ?_) (fun q4 => ?_)
      · replace h := (if_pos q4).symm.trans h
        refine kg_aload_n 0 dX9_free_27 rfl (pc2 := 28) rfl ?_
        refine kg_getr clX9 rfl 6 (Nat.le_of_ble_eq_true rfl) lfRX9_43 tX_0 eX_0 rfl dX9_free_28 (pc2 := 31) rfl ?_
        refine kg_aload_n 0 dX9_free_31 rfl (pc2 := 32) rfl ?_
        refine kg_getr clX9 rfl 0 (Nat.le_of_ble_eq_true rfl) lfRX9_10 tX_0 eX_0 rfl dX9_free_32 (pc2 := 35) rfl ?_
        refine kg_aload_n 0 dX9_free_35 rfl (pc2 := 36) rfl ?_
        obtain ⟨r5, r5h, h⟩ := kw_bind_e h
        refine kg_callV (μ := μX9_free) (d := (d + 3)) rfl mVX9_rightPairs [] [.ref 1, .ref 6] (gX9_rightPairs (E := E) (d := d) σ r5h) rfl lmRX9_251 (ci := 9) rfl tX_0 eX_0 rfl (Nat.le_of_ble_eq_true rfl) dX9_free_36 rfl (st2 := [.ref 5, .ref 1, .ref 6]) rfl (pc2 := 39) rfl ?_
        refine kg_iload_n 1 dX9_free_39 rfl (pc2 := 40) rfl ?_
        refine kg_iload_n 2 dX9_free_40 rfl (pc2 := 41) rfl ?_
        obtain ⟨r6, r6h, h⟩ := kw_bind_e h
        refine kg_callV (μ := μX9_free) (d := (d + 3)) rfl mVX6_withFreeRoads [.ref 1, .ref 5, .int a1, .int a2] [] (gX6_withFreeRoads (E := E) (d := d) a1 a2 r5 r6h) rfl lmRX9_363 (ci := 6) rfl tX_6 eX_6 rfl (Nat.le_of_ble_eq_true rfl) dX9_free_41 rfl (st2 := [.long r6.1]) rfl (pc2 := 44) rfl ?_
        cases h
        exact kg_lret dX9_free_44 rfl
      · replace h := (if_neg q4).symm.trans h
        refine kg_ldc2 rfl lcRX9_261 dX9_free_23 (pc2 := 26) rfl ?_
        cases h
        exact kg_lret dX9_free_26 rfl
set_option maxHeartbeats 4000000 in
set_option maxRecDepth 100000 in
theorem lX4_stepAll_5 {E : kw_E} {d : Nat} (v3 : Int32) (v4 : Int32) (σ : kw_M) {v : Option Value} {σ2 : kw_M} {o : (Int32 × Int32 × kw_M) ⊕ (Int32 × kw_M)} (h : bX4_stepAll_5 v3 v4 σ = some o) (hk : Sum.elim (fun s => kw_G E kwTX 48 (d + 2) μX4_stepAll 5 [(0, .ref 12), (1, .ref 43), (2, .ref 44), (3, .int s.1), (4, .int s.2.1)] [] s.2.2 v σ2) (fun y => kw_G E kwTX 48 (d + 2) μX4_stepAll 63 [(3, .int y.1)] [] y.2 v σ2) o) : kw_G E kwTX 48 (d + 2) μX4_stepAll 5 [(0, .ref 12), (1, .ref 43), (2, .ref 44), (3, .int v3), (4, .int v4)] [] σ v σ2 := by
  unfold bX4_stepAll_5 at h
  refine kg_iload 4 dX4_stepAll_5 rfl (pc2 := 7) rfl ?_
  refine kg_aload_n 0 dX4_stepAll_7 rfl (pc2 := 8) rfl ?_
  refine kg_geti clX4 rfl 1 (Nat.le_of_ble_eq_true rfl) lfRX4_25 tX_12 eX_12 rfl dX4_stepAll_8 (pc2 := 11) rfl ?_
  refine kg_icmp_ge 63 dX4_stepAll_11 rfl (pc2 := 14) rfl (fun q1 => ?_) (fun q1 => ?_)
  · replace h := (if_pos q1).symm.trans h
    refine kg_sub [3] (lv2 := [(3, .int v3)]) rfl ?_
    cases h
    exact hk
  · replace h := (if_neg q1).symm.trans h
    refine kg_aload_n 0 dX4_stepAll_14 rfl (pc2 := 15) rfl ?_
    refine kg_iload 4 dX4_stepAll_15 rfl (pc2 := 17) rfl ?_
    obtain ⟨r2, r2h, h⟩ := kw_bind_e h
    refine kg_callV (μ := μX4_stepAll) (d := (d + 1)) rfl mVX4_isOpen [.int v4] [] (gX4_isOpen (E := E) (d := (d + 1)) 12 kx_4_12 v4 σ r2h) rfl lmRX4_46 (ci := 4) rfl tX_12 eX_12 rfl (Nat.le_of_ble_eq_true rfl) dX4_stepAll_17 rfl (st2 := [.int r2]) rfl (pc2 := 20) rfl ?_
    refine kg_if_eq 57 dX4_stepAll_20 rfl (pc2 := 23) rfl (fun q3 => ?_) (fun q3 => ?_)
    · replace h := (if_pos q3).symm.trans h
      obtain ⟨x4, x4e, h⟩ := kw_let_e h
      refine kg_iinc 4 dX4_stepAll_57 rfl (Nat.le_of_ble_eq_true rfl) x4e (lv2 := [(4, .int x4), (0, .ref 12), (1, .ref 43), (2, .ref 44), (3, .int v3)]) rfl (pc2 := 60) rfl ?_
      refine kg_goto 5 dX4_stepAll_60 rfl ?_
      refine kg_sub [1, 2, 3, 4, 0] (lv2 := [(0, .ref 12), (1, .ref 43), (2, .ref 44), (3, .int v3), (4, .int x4)]) rfl ?_
      cases h
      exact hk
    · replace h := (if_neg q3).symm.trans h
      refine kg_iload_n 3 dX4_stepAll_23 rfl (pc2 := 24) rfl ?_
      refine kg_aload_n 2 dX4_stepAll_24 rfl (pc2 := 25) rfl ?_
      refine kg_aload_n 0 dX4_stepAll_25 rfl (pc2 := 26) rfl ?_
      refine kg_getr clX4 rfl 4 (Nat.le_of_ble_eq_true rfl) lfRX4_19 tX_12 eX_12 rfl dX4_stepAll_26 (pc2 := 29) rfl ?_
      refine kg_iload 4 dX4_stepAll_29 rfl (pc2 := 31) rfl ?_
      obtain ⟨q5, h⟩ := kw_chk_e h
      refine kg_iald tX_19 eX_19 q5 (j := v4.toNatClampNeg) rfl dX4_stepAll_31 (pc2 := 32) rfl ?_
      refine kg_aload_n 1 dX4_stepAll_32 rfl (pc2 := 33) rfl ?_
      refine kg_aload_n 0 dX4_stepAll_33 rfl (pc2 := 34) rfl ?_
      refine kg_getr clX4 rfl 3 (Nat.le_of_ble_eq_true rfl) lfRX4_15 tX_12 eX_12 rfl dX4_stepAll_34 (pc2 := 37) rfl ?_
      refine kg_iload 4 dX4_stepAll_37 rfl (pc2 := 39) rfl ?_
      refine kg_iald tX_18 eX_18 q5 (j := v4.toNatClampNeg) rfl dX4_stepAll_39 (pc2 := 40) rfl ?_
      obtain ⟨q6, h⟩ := kw_chk_e h
      refine kg_lald tX_43 eX_43 q6 (j := (σ.1 18 v4.toNatClampNeg).toNatClampNeg) rfl dX4_stepAll_40 (pc2 := 41) rfl ?_
      refine kg_aload_n 0 dX4_stepAll_41 rfl (pc2 := 42) rfl ?_
      refine kg_getr clX4 rfl 5 (Nat.le_of_ble_eq_true rfl) lfRX4_22 tX_12 eX_12 rfl dX4_stepAll_42 (pc2 := 45) rfl ?_
      refine kg_iload 4 dX4_stepAll_45 rfl (pc2 := 47) rfl ?_
      refine kg_iald tX_20 eX_20 q5 (j := v4.toNatClampNeg) rfl dX4_stepAll_47 (pc2 := 48) rfl ?_
      refine kg_i2l dX4_stepAll_48 (pc2 := 49) rfl ?_
      obtain ⟨r7, r7h, h⟩ := kw_bind_e h
      refine kg_callN (μ := μX4_stepAll) (d := (d + 1)) rfl mSX9_joined [.long (σ.2 43 (σ.1 18 v4.toNatClampNeg).toNatClampNeg), .long ((σ.1 20 v4.toNatClampNeg).toInt64)] [.int (σ.1 19 v4.toNatClampNeg), .ref 44, .int v3] (gX9_joined (E := E) (d := (d + 1)) (σ.2 43 (σ.1 18 v4.toNatClampNeg).toNatClampNeg) ((σ.1 20 v4.toNatClampNeg).toInt64) σ r7h) rfl lnRX4_50 rfl (Nat.le_of_ble_eq_true rfl) dX4_stepAll_49 rfl (st2 := [.long r7, .int (σ.1 19 v4.toNatClampNeg), .ref 44, .int v3]) rfl (pc2 := 52) rfl ?_
      obtain ⟨r8, r8h, h⟩ := kw_bind_e h
      refine kg_callS (μ := μX4_stepAll) (d := (d + 1)) rfl mSX4_lower [.ref 44, .int (σ.1 19 v4.toNatClampNeg), .long r7] [.int v3] (gX4_lower (E := E) (d := d) 44 ⟨tX_44, eX_44⟩ (σ.1 19 v4.toNatClampNeg) r7 σ r8h) rfl lmRX4_54 rfl (Nat.le_of_ble_eq_true rfl) dX4_stepAll_52 rfl (st2 := [.int r8.1, .int v3]) rfl (pc2 := 55) rfl ?_
      refine kg_ior dX4_stepAll_55 (pc2 := 56) rfl ?_
      obtain ⟨x9, x9e, h⟩ := kw_let_e h
      refine kg_istore_n dX4_stepAll_56 rfl (Nat.le_of_ble_eq_true rfl) x9e (lv2 := [(3, .int x9), (0, .ref 12), (1, .ref 43), (2, .ref 44), (4, .int v4)]) rfl (pc2 := 57) rfl ?_
      obtain ⟨x10, x10e, h⟩ := kw_let_e h
      refine kg_iinc 4 dX4_stepAll_57 rfl (Nat.le_of_ble_eq_true rfl) x10e (lv2 := [(4, .int x10), (3, .int x9), (0, .ref 12), (1, .ref 43), (2, .ref 44)]) rfl (pc2 := 60) rfl ?_
      refine kg_goto 5 dX4_stepAll_60 rfl ?_
      refine kg_sub [2, 3, 4, 1, 0] (lv2 := [(0, .ref 12), (1, .ref 43), (2, .ref 44), (3, .int x9), (4, .int x10)]) rfl ?_
      cases h
      exact hk
set_option maxHeartbeats 4000000 in
set_option maxRecDepth 100000 in
theorem gX4_stepAll {E : kw_E} {d : Nat} (σ : kw_M) {r : Int32 × kw_M} (h : fX4_stepAll σ = some r) : kw_Met E kwTX 48 (d + 2) μX4_stepAll [.ref 12, .ref 43, .ref 44] σ (some (Value.int r.1)) r.2 := by
  refine kw_enter plRX4 (Nat.le_of_ble_eq_true rfl) ?_
  show kw_G E kwTX 48 (d + 2) μX4_stepAll 0 [(0, .ref 12), (1, .ref 43), (2, .ref 44)] [] σ (some (Value.int r.1)) r.2
  unfold fX4_stepAll at h
  refine kg_iconst dX4_stepAll_0 ki_0 (pc2 := 1) rfl ?_
  refine kg_istore_n dX4_stepAll_1 rfl (Nat.le_of_ble_eq_true rfl) rfl (lv2 := [(3, .int (0 : Int32)), (0, .ref 12), (1, .ref 43), (2, .ref 44)]) rfl (pc2 := 2) rfl ?_
  refine kg_iconst dX4_stepAll_2 ki_0 (pc2 := 3) rfl ?_
  refine kg_istore dX4_stepAll_3 (Nat.le_of_ble_eq_true rfl) rfl (lv2 := [(4, .int (0 : Int32)), (3, .int (0 : Int32)), (0, .ref 12), (1, .ref 43), (2, .ref 44)]) rfl (pc2 := 5) rfl ?_
  refine kg_sub [2, 3, 4, 1, 0] (lv2 := [(0, .ref 12), (1, .ref 43), (2, .ref 44), (3, .int (0 : Int32)), (4, .int (0 : Int32))]) rfl ?_
  obtain ⟨x11, x11h, h⟩ := kw_bind_e h
  refine kw_loop_e (P := fun s => kw_G E kwTX 48 (d + 2) μX4_stepAll 5 [(0, .ref 12), (1, .ref 43), (2, .ref 44), (3, .int s.1), (4, .int s.2.1)] [] s.2.2 (some (Value.int r.1)) r.2) (K := fun y => kw_G E kwTX 48 (d + 2) μX4_stepAll 63 [(3, .int y.1)] [] y.2 (some (Value.int r.1)) r.2) (fun s o h0 hk => lX4_stepAll_5 s.1 s.2.1 s.2.2 h0 hk) kw_F _ _ x11h ?_
  show kw_G E kwTX 48 (d + 2) μX4_stepAll 63 [(3, .int x11.1)] [] x11.2 (some (Value.int r.1)) r.2
  refine kg_iload_n 0 dX4_stepAll_63 rfl (pc2 := 64) rfl ?_
  obtain ⟨q12, h⟩ := kw_chk_e h
  cases h
  exact kg_iret (ty := .boolean) dX4_stepAll_64 rfl (kw_isB_n q12)
set_option maxHeartbeats 4000000 in
set_option maxRecDepth 100000 in
theorem lX6_withFewRoads_21 {E : kw_E} {d : Nat} (v2 : Int32) (v3 : Int32) (v4 : Int32) (v5 : Int32) (σ : kw_M) {v : Option Value} {σ2 : kw_M} {o : (Int32 × Int32 × kw_M) ⊕ (kw_M)} (h : bX6_withFewRoads_21 v2 v3 v4 v5 σ = some o) (hk : Sum.elim (fun s => kw_G E kwTX 48 (d + 3) μX6_withFewRoads 21 [(0, .ref 6), (1, .ref 1), (2, .int v2), (3, .int v3), (4, .int s.1), (5, .int s.2.1)] [] s.2.2 v σ2) (fun y => kw_G E kwTX 48 (d + 3) μX6_withFewRoads 74 [(0, .ref 6), (2, .int v2)] [] y v σ2) o) : kw_G E kwTX 48 (d + 3) μX6_withFewRoads 21 [(0, .ref 6), (1, .ref 1), (2, .int v2), (3, .int v3), (4, .int v4), (5, .int v5)] [] σ v σ2 := by
  unfold bX6_withFewRoads_21 at h
  refine kg_iload 5 dX6_withFewRoads_21 rfl (pc2 := 23) rfl ?_
  refine kg_iload_n 3 dX6_withFewRoads_23 rfl (pc2 := 24) rfl ?_
  refine kg_icmp_ge 74 dX6_withFewRoads_24 rfl (pc2 := 27) rfl (fun q2 => ?_) (fun q2 => ?_)
  · replace h := (if_pos q2).symm.trans h
    refine kg_sub [0, 2] (lv2 := [(0, .ref 6), (2, .int v2)]) rfl ?_
    cases h
    exact hk
  · replace h := (if_neg q2).symm.trans h
    refine kg_iload 4 dX6_withFewRoads_27 rfl (pc2 := 29) rfl ?_
    refine kg_if_eq 74 dX6_withFewRoads_29 rfl (pc2 := 32) rfl (fun q3 => ?_) (fun q3 => ?_)
    · replace h := (if_pos q3).symm.trans h
      refine kg_sub [0, 2] (lv2 := [(0, .ref 6), (2, .int v2)]) rfl ?_
      cases h
      exact hk
    · replace h := (if_neg q3).symm.trans h
      refine kg_aload_n 0 dX6_withFewRoads_32 rfl (pc2 := 33) rfl ?_
      refine kg_getr clX6 rfl 4 (Nat.le_of_ble_eq_true rfl) lfRX6_19 tX_6 eX_6 rfl dX6_withFewRoads_33 (pc2 := 36) rfl ?_
      refine kg_iconst dX6_withFewRoads_36 ki_0 (pc2 := 37) rfl ?_
      refine kg_aload_n 0 dX6_withFewRoads_37 rfl (pc2 := 38) rfl ?_
      refine kg_getr clX6 rfl 5 (Nat.le_of_ble_eq_true rfl) lfRX6_22 tX_6 eX_6 rfl dX6_withFewRoads_38 (pc2 := 41) rfl ?_
      refine kg_iconst dX6_withFewRoads_41 ki_0 (pc2 := 42) rfl ?_
      refine kg_bipush dX6_withFewRoads_42 kb_12 (pc2 := 44) rfl ?_
      obtain ⟨s4, s4e, h⟩ := kw_let_e h
      refine kg_copyl (μ := μX6_withFewRoads) (d := (d + 2)) rfl rfl cpRX6_39 tX_43 eX_43 tX_44 eX_44 (by decide) (by decide) (by decide) (by decide) (by decide) (Nat.le_of_ble_eq_true rfl) (by decide) (by decide) (by decide) s4e dX6_withFewRoads_44 (pc2 := 47) rfl ?_
      refine kg_aload_n 1 dX6_withFewRoads_47 rfl (pc2 := 48) rfl ?_
      refine kg_getr clX7 rfl 0 (Nat.le_of_ble_eq_true rfl) lfRX6_30 tX_1 eX_1 rfl dX6_withFewRoads_48 (pc2 := 51) rfl ?_
      refine kg_aload_n 0 dX6_withFewRoads_51 rfl (pc2 := 52) rfl ?_
      refine kg_getr clX6 rfl 4 (Nat.le_of_ble_eq_true rfl) lfRX6_19 tX_6 eX_6 rfl dX6_withFewRoads_52 (pc2 := 55) rfl ?_
      refine kg_aload_n 0 dX6_withFewRoads_55 rfl (pc2 := 56) rfl ?_
      refine kg_getr clX6 rfl 5 (Nat.le_of_ble_eq_true rfl) lfRX6_22 tX_6 eX_6 rfl dX6_withFewRoads_56 (pc2 := 59) rfl ?_
      obtain ⟨r5, r5h, h⟩ := kw_bind_e h
      refine kg_callV (μ := μX6_withFewRoads) (d := (d + 2)) rfl mVX4_stepAll [.ref 43, .ref 44] [] (gX4_stepAll (E := E) (d := d) s4 r5h) rfl lmRX6_83 (ci := 4) rfl tX_12 eX_12 rfl (Nat.le_of_ble_eq_true rfl) dX6_withFewRoads_59 rfl (st2 := [.int r5.1]) rfl (pc2 := 62) rfl ?_
      refine kg_istore dX6_withFewRoads_62 (Nat.le_of_ble_eq_true rfl) rfl (lv2 := [(4, .int r5.1), (0, .ref 6), (1, .ref 1), (2, .int v2), (3, .int v3), (5, .int v5)]) rfl (pc2 := 64) rfl ?_
      refine kg_aload_n 1 dX6_withFewRoads_64 rfl (pc2 := 65) rfl ?_
      obtain ⟨r6, r6h, h⟩ := kw_bind_e h
      refine kg_callV (μ := μX6_withFewRoads) (d := (d + 2)) rfl mVX6_foundIsKnown [] [] (gX6_foundIsKnown (E := E) (d := (d + 1)) r5.2 r6h) rfl lmRX6_76 (ci := 6) rfl tX_6 eX_6 rfl (Nat.le_of_ble_eq_true rfl) dX6_withFewRoads_65 rfl (st2 := []) rfl (pc2 := 68) rfl ?_
      obtain ⟨x7, x7e, h⟩ := kw_let_e h
      refine kg_iinc 5 dX6_withFewRoads_68 rfl (Nat.le_of_ble_eq_true rfl) x7e (lv2 := [(5, .int x7), (4, .int r5.1), (0, .ref 6), (1, .ref 1), (2, .int v2), (3, .int v3)]) rfl (pc2 := 71) rfl ?_
      refine kg_goto 21 dX6_withFewRoads_71 rfl ?_
      refine kg_sub [2, 3, 4, 5, 1, 0] (lv2 := [(0, .ref 6), (1, .ref 1), (2, .int v2), (3, .int v3), (4, .int r5.1), (5, .int x7)]) rfl ?_
      cases h
      exact hk
set_option maxHeartbeats 4000000 in
set_option maxRecDepth 100000 in
theorem gX6_withFewRoads {E : kw_E} {d : Nat} (a2 : Int32) (a3 : Int32) (σ : kw_M) {r : Int64 × kw_M} (h : fX6_withFewRoads a2 a3 σ = some r) : kw_Met E kwTX 48 (d + 3) μX6_withFewRoads [.ref 6, .ref 1, .int a2, .int a3] σ (some (Value.long r.1)) r.2 := by
  refine kw_enter plRX6 (Nat.le_of_ble_eq_true rfl) ?_
  show kw_G E kwTX 48 (d + 3) μX6_withFewRoads 0 [(0, .ref 6), (1, .ref 1), (2, .int a2), (3, .int a3)] [] σ (some (Value.long r.1)) r.2
  unfold fX6_withFewRoads at h
  refine kg_aload_n 1 dX6_withFewRoads_0 rfl (pc2 := 1) rfl ?_
  refine kg_getr clX7 rfl 0 (Nat.le_of_ble_eq_true rfl) lfRX6_30 tX_1 eX_1 rfl dX6_withFewRoads_1 (pc2 := 4) rfl ?_
  refine kg_aload_n 1 dX6_withFewRoads_4 rfl (pc2 := 5) rfl ?_
  refine kg_geti clX7 rfl 2 (Nat.le_of_ble_eq_true rfl) lfRX6_51 tX_1 eX_1 rfl dX6_withFewRoads_5 (pc2 := 8) rfl ?_
  refine kg_aload_n 0 dX6_withFewRoads_8 rfl (pc2 := 9) rfl ?_
  refine kg_getr clX6 rfl 4 (Nat.le_of_ble_eq_true rfl) lfRX6_19 tX_6 eX_6 rfl dX6_withFewRoads_9 (pc2 := 12) rfl ?_
  obtain ⟨r1, r1h, h⟩ := kw_bind_e h
  refine kg_callV (μ := μX6_withFewRoads) (d := (d + 2)) rfl mVX4_beginRow [.int (σ.1 1 2), .ref 43] [] (gX4_beginRow (E := E) (d := (d + 1)) 43 ⟨tX_43, eX_43⟩ (σ.1 1 2) σ r1h) rfl lmRX6_79 (ci := 4) rfl tX_12 eX_12 rfl (Nat.le_of_ble_eq_true rfl) dX6_withFewRoads_12 rfl (st2 := []) rfl (pc2 := 15) rfl ?_
  refine kg_iconst dX6_withFewRoads_15 ki_1 (pc2 := 16) rfl ?_
  refine kg_istore dX6_withFewRoads_16 (Nat.le_of_ble_eq_true rfl) rfl (lv2 := [(4, .int (1 : Int32)), (0, .ref 6), (1, .ref 1), (2, .int a2), (3, .int a3)]) rfl (pc2 := 18) rfl ?_
  refine kg_iconst dX6_withFewRoads_18 ki_0 (pc2 := 19) rfl ?_
  refine kg_istore dX6_withFewRoads_19 (Nat.le_of_ble_eq_true rfl) rfl (lv2 := [(5, .int (0 : Int32)), (4, .int (1 : Int32)), (0, .ref 6), (1, .ref 1), (2, .int a2), (3, .int a3)]) rfl (pc2 := 21) rfl ?_
  refine kg_sub [2, 3, 4, 5, 1, 0] (lv2 := [(0, .ref 6), (1, .ref 1), (2, .int a2), (3, .int a3), (4, .int (1 : Int32)), (5, .int (0 : Int32))]) rfl ?_
  obtain ⟨x8, x8h, h⟩ := kw_bind_e h
  refine kw_loop_e (P := fun s => kw_G E kwTX 48 (d + 3) μX6_withFewRoads 21 [(0, .ref 6), (1, .ref 1), (2, .int a2), (3, .int a3), (4, .int s.1), (5, .int s.2.1)] [] s.2.2 (some (Value.long r.1)) r.2) (K := fun y => kw_G E kwTX 48 (d + 3) μX6_withFewRoads 74 [(0, .ref 6), (2, .int a2)] [] y (some (Value.long r.1)) r.2) (fun s o h0 hk => lX6_withFewRoads_21 a2 a3 s.1 s.2.1 s.2.2 h0 hk) kw_F _ _ x8h ?_
  show kw_G E kwTX 48 (d + 3) μX6_withFewRoads 74 [(0, .ref 6), (2, .int a2)] [] x8 (some (Value.long r.1)) r.2
  refine kg_aload_n 0 dX6_withFewRoads_74 rfl (pc2 := 75) rfl ?_
  refine kg_getr clX6 rfl 4 (Nat.le_of_ble_eq_true rfl) lfRX6_19 tX_6 eX_6 rfl dX6_withFewRoads_75 (pc2 := 78) rfl ?_
  refine kg_iload_n 1 dX6_withFewRoads_78 rfl (pc2 := 79) rfl ?_
  obtain ⟨q9, h⟩ := kw_chk_e h
  refine kg_lald tX_43 eX_43 q9 (j := a2.toNatClampNeg) rfl dX6_withFewRoads_79 (pc2 := 80) rfl ?_
  cases h
  exact kg_lret dX6_withFewRoads_80 rfl
set_option maxHeartbeats 4000000 in
set_option maxRecDepth 100000 in
theorem gX9_hops {E : kw_E} {d : Nat} (a1 : Int32) (a2 : Int32) (σ : kw_M) {r : Int64 × kw_M} (h : fX9_hops a1 a2 σ = some r) : kw_Met E kwTX 48 (d + 4) μX9_hops [.ref 0, .int a1, .int a2] σ (some (Value.long r.1)) r.2 := by
  refine kw_enter plRX9 (Nat.le_of_ble_eq_true rfl) ?_
  show kw_G E kwTX 48 (d + 4) μX9_hops 0 [(0, .ref 0), (1, .int a1), (2, .int a2)] [] σ (some (Value.long r.1)) r.2
  unfold fX9_hops at h
  refine kg_aload_n 0 dX9_hops_0 rfl (pc2 := 1) rfl ?_
  refine kg_getr clX9 rfl 0 (Nat.le_of_ble_eq_true rfl) lfRX9_10 tX_0 eX_0 rfl dX9_hops_1 (pc2 := 4) rfl ?_
  refine kg_getr clX7 rfl 0 (Nat.le_of_ble_eq_true rfl) lfRX9_148 tX_1 eX_1 rfl dX9_hops_4 (pc2 := 7) rfl ?_
  refine kg_iload_n 1 dX9_hops_7 rfl (pc2 := 8) rfl ?_
  obtain ⟨r1, r1h, h⟩ := kw_bind_e h
  refine kg_callV (μ := μX9_hops) (d := (d + 3)) rfl mVX4_hasTown [.int a1] [] (gX4_hasTown (E := E) (d := (d + 3)) a1 σ r1h) rfl lmRX9_176 (ci := 4) rfl tX_12 eX_12 rfl (Nat.le_of_ble_eq_true rfl) dX9_hops_8 rfl (st2 := [.int r1]) rfl (pc2 := 11) rfl ?_
  refine kg_if_eq 24 dX9_hops_11 rfl (pc2 := 14) rfl (fun q2 => ?_) (fun q2 => ?_)
  · replace h := (if_pos q2).symm.trans h
    refine kg_ldc2 rfl lcRX9_261 dX9_hops_24 (pc2 := 27) rfl ?_
    cases h
    exact kg_lret dX9_hops_27 rfl
  · replace h := (if_neg q2).symm.trans h
    refine kg_iload_n 2 dX9_hops_14 rfl (pc2 := 15) rfl ?_
    refine kg_if_lt 24 dX9_hops_15 rfl (pc2 := 18) rfl (fun q3 => ?_) (fun q3 => ?_)
    · replace h := (if_pos q3).symm.trans h
      refine kg_ldc2 rfl lcRX9_261 dX9_hops_24 (pc2 := 27) rfl ?_
      cases h
      exact kg_lret dX9_hops_27 rfl
    · replace h := (if_neg q3).symm.trans h
      refine kg_iload_n 2 dX9_hops_18 rfl (pc2 := 19) rfl ?_
      refine kg_bipush dX9_hops_19 kb_36 (pc2 := 21) rfl ?_
      refine kg_icmp_le 28 dX9_hops_21 rfl (pc2 := 24) rfl (fun q4 => ?_) (fun q4 => ?_)
      · replace h := (if_pos q4).symm.trans h
        refine kg_aload_n 0 dX9_hops_28 rfl (pc2 := 29) rfl ?_
        refine kg_getr clX9 rfl 6 (Nat.le_of_ble_eq_true rfl) lfRX9_43 tX_0 eX_0 rfl dX9_hops_29 (pc2 := 32) rfl ?_
        refine kg_aload_n 0 dX9_hops_32 rfl (pc2 := 33) rfl ?_
        refine kg_getr clX9 rfl 0 (Nat.le_of_ble_eq_true rfl) lfRX9_10 tX_0 eX_0 rfl dX9_hops_33 (pc2 := 36) rfl ?_
        refine kg_iload_n 1 dX9_hops_36 rfl (pc2 := 37) rfl ?_
        refine kg_iload_n 2 dX9_hops_37 rfl (pc2 := 38) rfl ?_
        obtain ⟨r5, r5h, h⟩ := kw_bind_e h
        refine kg_callV (μ := μX9_hops) (d := (d + 3)) rfl mVX6_withFewRoads [.ref 1, .int a1, .int a2] [] (gX6_withFewRoads (E := E) (d := d) a1 a2 σ r5h) rfl lmRX9_367 (ci := 6) rfl tX_6 eX_6 rfl (Nat.le_of_ble_eq_true rfl) dX9_hops_38 rfl (st2 := [.long r5.1]) rfl (pc2 := 41) rfl ?_
        cases h
        exact kg_lret dX9_hops_41 rfl
      · replace h := (if_neg q4).symm.trans h
        refine kg_ldc2 rfl lcRX9_261 dX9_hops_24 (pc2 := 27) rfl ?_
        cases h
        exact kg_lret dX9_hops_27 rfl
set_option maxHeartbeats 4000000 in
set_option maxRecDepth 100000 in
theorem gX4_hasAll {E : kw_E} {d : Nat} (a1 : Int32) (σ : kw_M) {r : Int32} (h : fX4_hasAll a1 σ = some r) : kw_Met E kwTX 48 d μX4_hasAll [.ref 12, .int a1] σ (some (Value.int r)) σ := by
  refine kw_enter plRX4 (Nat.le_of_ble_eq_true rfl) ?_
  show kw_G E kwTX 48 d μX4_hasAll 0 [(0, .ref 12), (1, .int a1)] [] σ (some (Value.int r)) σ
  unfold fX4_hasAll at h
  refine kg_iload_n 1 dX4_hasAll_0 rfl (pc2 := 1) rfl ?_
  refine kg_iconst dX4_hasAll_1 ki_1 (pc2 := 2) rfl ?_
  refine kg_aload_n 0 dX4_hasAll_2 rfl (pc2 := 3) rfl ?_
  refine kg_geti clX4 rfl 0 (Nat.le_of_ble_eq_true rfl) lfRX4_9 tX_12 eX_12 rfl dX4_hasAll_3 (pc2 := 6) rfl ?_
  refine kg_ishl dX4_hasAll_6 (pc2 := 7) rfl ?_
  refine kg_ineg dX4_hasAll_7 (pc2 := 8) rfl ?_
  refine kg_iand dX4_hasAll_8 (pc2 := 9) rfl ?_
  refine kg_if_ne 16 dX4_hasAll_9 rfl (pc2 := 12) rfl (fun q1 => ?_) (fun q1 => ?_)
  · replace h := (if_neg q1).symm.trans h
    refine kg_iconst dX4_hasAll_16 ki_0 (pc2 := 17) rfl ?_
    cases h
    exact kg_iret (ty := .boolean) dX4_hasAll_17 rfl rfl
  · replace h := (if_pos q1).symm.trans h
    refine kg_iconst dX4_hasAll_12 ki_1 (pc2 := 13) rfl ?_
    refine kg_goto 17 dX4_hasAll_13 rfl ?_
    cases h
    exact kg_iret (ty := .boolean) dX4_hasAll_17 rfl rfl
set_option maxHeartbeats 4000000 in
set_option maxRecDepth 100000 in
theorem lX2_comeTogether_16 {E : kw_E} {d : Nat} (v1 : Int32) (v2 : Int32) (v3 : Int32) (σ : kw_M) (v4 : Int64) (v6 : Int32) {v : Option Value} {σ2 : kw_M} {o : (Int64 × Int32) ⊕ ((Int64) ⊕ (Int64))} (h : bX2_comeTogether_16 v1 v2 v3 σ v4 v6 = some o) (hk : Sum.elim (fun s => kw_G E kwTX 48 (d + 2) μX2_comeTogether 16 [(0, .ref 5), (1, .int v1), (2, .int v2), (3, .int v3), (4, .long s.1), (6, .int s.2)] [] σ v σ2) (Sum.elim (fun rr => v = some (Value.long rr) ∧ σ2 = σ) (fun y => kw_G E kwTX 48 (d + 2) μX2_comeTogether 88 [(4, .long y)] [] σ v σ2)) o) : kw_G E kwTX 48 (d + 2) μX2_comeTogether 16 [(0, .ref 5), (1, .int v1), (2, .int v2), (3, .int v3), (4, .long v4), (6, .int v6)] [] σ v σ2 := by
  unfold bX2_comeTogether_16 at h
  refine kg_iload 5 dX2_comeTogether_16 rfl (pc2 := 18) rfl ?_
  refine kg_aload_n 0 dX2_comeTogether_18 rfl (pc2 := 19) rfl ?_
  refine kg_geti clX2 rfl 1 (Nat.le_of_ble_eq_true rfl) lfRX2_24 tX_5 eX_5 rfl dX2_comeTogether_19 (pc2 := 22) rfl ?_
  refine kg_icmp_ge 88 dX2_comeTogether_22 rfl (pc2 := 25) rfl (fun q2 => ?_) (fun q2 => ?_)
  · replace h := (if_pos q2).symm.trans h
    refine kg_sub [4] (lv2 := [(4, .long v4)]) rfl ?_
    cases h
    exact hk
  · replace h := (if_neg q2).symm.trans h
    refine kg_iload_n 1 dX2_comeTogether_25 rfl (pc2 := 26) rfl ?_
    refine kg_iload 5 dX2_comeTogether_26 rfl (pc2 := 28) rfl ?_
    refine kg_ishr dX2_comeTogether_28 (pc2 := 29) rfl ?_
    refine kg_iconst dX2_comeTogether_29 ki_1 (pc2 := 30) rfl ?_
    refine kg_iand dX2_comeTogether_30 (pc2 := 31) rfl ?_
    refine kg_if_ne 37 dX2_comeTogether_31 rfl (pc2 := 34) rfl (fun q3 => ?_) (fun q3 => ?_)
    · replace h := (if_neg q3).symm.trans h
      refine kg_aload_n 0 dX2_comeTogether_37 rfl (pc2 := 38) rfl ?_
      refine kg_iload 5 dX2_comeTogether_38 rfl (pc2 := 40) rfl ?_
      refine kg_iload_n 2 dX2_comeTogether_40 rfl (pc2 := 41) rfl ?_
      obtain ⟨r4, r4h, h⟩ := kw_bind_e h
      refine kg_callV (μ := μX2_comeTogether) (d := (d + 1)) rfl mVX2_comesTo [.int v6, .int v2] [] (gX2_comesTo (E := E) (d := d) v6 v2 σ r4h) rfl lmRX2_45 (ci := 2) rfl tX_5 eX_5 rfl (Nat.le_of_ble_eq_true rfl) dX2_comeTogether_41 rfl (st2 := [.int r4]) rfl (pc2 := 44) rfl ?_
      refine kg_if_ne 51 dX2_comeTogether_44 rfl (pc2 := 47) rfl (fun q5 => ?_) (fun q5 => ?_)
      · replace h := (if_neg q5).symm.trans h
        refine kg_iload_n 3 dX2_comeTogether_51 rfl (pc2 := 52) rfl ?_
        refine kg_if_eq 70 dX2_comeTogether_52 rfl (pc2 := 55) rfl (fun q6 => ?_) (fun q6 => ?_)
        · replace h := (if_pos q6).symm.trans h
          refine kg_lload 4 dX2_comeTogether_70 rfl (pc2 := 72) rfl ?_
          refine kg_aload_n 0 dX2_comeTogether_72 rfl (pc2 := 73) rfl ?_
          refine kg_iload 5 dX2_comeTogether_73 rfl (pc2 := 75) rfl ?_
          refine kg_iload_n 2 dX2_comeTogether_75 rfl (pc2 := 76) rfl ?_
          obtain ⟨r7, r7h, h⟩ := kw_bind_e h
          refine kg_callV (μ := μX2_comeTogether) (d := (d + 1)) rfl mVX2_span [.int v6, .int v2] [.long v4] (gX2_span (E := E) (d := (d + 1)) v6 v2 σ r7h) rfl lmRX2_39 (ci := 2) rfl tX_5 eX_5 rfl (Nat.le_of_ble_eq_true rfl) dX2_comeTogether_76 rfl (st2 := [.long r7, .long v4]) rfl (pc2 := 79) rfl ?_
          refine kg_ladd dX2_comeTogether_79 (pc2 := 80) rfl ?_
          obtain ⟨x8, x8e, h⟩ := kw_let_e h
          refine kg_lstore dX2_comeTogether_80 (Nat.le_of_ble_eq_true rfl) x8e (lv2 := [(4, .long x8), (0, .ref 5), (1, .int v1), (2, .int v2), (3, .int v3), (6, .int v6)]) rfl (pc2 := 82) rfl ?_
          obtain ⟨x9, x9e, h⟩ := kw_let_e h
          refine kg_iinc 5 dX2_comeTogether_82 rfl (Nat.le_of_ble_eq_true rfl) x9e (lv2 := [(6, .int x9), (4, .long x8), (0, .ref 5), (1, .int v1), (2, .int v2), (3, .int v3)]) rfl (pc2 := 85) rfl ?_
          refine kg_goto 16 dX2_comeTogether_85 rfl ?_
          refine kg_sub [2, 3, 4, 5, 1, 0] (lv2 := [(0, .ref 5), (1, .int v1), (2, .int v2), (3, .int v3), (4, .long x8), (6, .int x9)]) rfl ?_
          cases h
          exact hk
        · replace h := (if_neg q6).symm.trans h
          refine kg_lload 4 dX2_comeTogether_55 rfl (pc2 := 57) rfl ?_
          refine kg_aload_n 0 dX2_comeTogether_57 rfl (pc2 := 58) rfl ?_
          refine kg_iload 5 dX2_comeTogether_58 rfl (pc2 := 60) rfl ?_
          refine kg_iload_n 2 dX2_comeTogether_60 rfl (pc2 := 61) rfl ?_
          obtain ⟨r10, r10h, h⟩ := kw_bind_e h
          refine kg_callV (μ := μX2_comeTogether) (d := (d + 1)) rfl mVX2_span [.int v6, .int v2] [.long v4] (gX2_span (E := E) (d := (d + 1)) v6 v2 σ r10h) rfl lmRX2_39 (ci := 2) rfl tX_5 eX_5 rfl (Nat.le_of_ble_eq_true rfl) dX2_comeTogether_61 rfl (st2 := [.long r10, .long v4]) rfl (pc2 := 64) rfl ?_
          obtain ⟨x11, x11e, h⟩ := kw_let_e h
          refine kg_mmax_long (μ := μX2_comeTogether) (d := (d + 1)) rfl rfl mmRX2_85 (Nat.le_of_ble_eq_true rfl) x11e dX2_comeTogether_64 (pc2 := 67) rfl ?_
          refine kg_goto 80 dX2_comeTogether_67 rfl ?_
          refine kg_lstore dX2_comeTogether_80 (Nat.le_of_ble_eq_true rfl) rfl (lv2 := [(4, .long x11), (0, .ref 5), (1, .int v1), (2, .int v2), (3, .int v3), (6, .int v6)]) rfl (pc2 := 82) rfl ?_
          obtain ⟨x12, x12e, h⟩ := kw_let_e h
          refine kg_iinc 5 dX2_comeTogether_82 rfl (Nat.le_of_ble_eq_true rfl) x12e (lv2 := [(6, .int x12), (4, .long x11), (0, .ref 5), (1, .int v1), (2, .int v2), (3, .int v3)]) rfl (pc2 := 85) rfl ?_
          refine kg_goto 16 dX2_comeTogether_85 rfl ?_
          refine kg_sub [2, 3, 4, 5, 1, 0] (lv2 := [(0, .ref 5), (1, .int v1), (2, .int v2), (3, .int v3), (4, .long x11), (6, .int x12)]) rfl ?_
          cases h
          exact hk
      · replace h := (if_pos q5).symm.trans h
        refine kg_ldc2 rfl lcRX2_43 dX2_comeTogether_47 (pc2 := 50) rfl ?_
        cases h
        obtain ⟨rfl, rfl⟩ := hk
        exact kg_lret dX2_comeTogether_50 rfl
    · replace h := (if_pos q3).symm.trans h
      refine kg_goto 82 dX2_comeTogether_34 rfl ?_
      obtain ⟨x13, x13e, h⟩ := kw_let_e h
      refine kg_iinc 5 dX2_comeTogether_82 rfl (Nat.le_of_ble_eq_true rfl) x13e (lv2 := [(6, .int x13), (0, .ref 5), (1, .int v1), (2, .int v2), (3, .int v3), (4, .long v4)]) rfl (pc2 := 85) rfl ?_
      refine kg_goto 16 dX2_comeTogether_85 rfl ?_
      refine kg_sub [1, 2, 3, 4, 5, 0] (lv2 := [(0, .ref 5), (1, .int v1), (2, .int v2), (3, .int v3), (4, .long v4), (6, .int x13)]) rfl ?_
      cases h
      exact hk
