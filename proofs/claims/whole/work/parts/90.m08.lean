/-! The reference, method by method: the machine does what f says (g). -/
set_option maxHeartbeats 4000000 in
set_option maxRecDepth 100000 in
theorem gX10_road {E : kw_E} {d : Nat} (a1 : Int32) (a2 : Int32) (σ : kw_M) {r : Int64 × kw_M} (h : fX10_road a1 a2 σ = some r) : kw_Met E kwTM 21 (d + 4) μX10_road [.ref 0, .int a1, .int a2] σ (some (Value.long r.1)) r.2 := by
  refine kw_enter plRX10 (Nat.le_of_ble_eq_true rfl) ?_
  show kw_G E kwTM 21 (d + 4) μX10_road 0 [(0, .ref 0), (1, .int a1), (2, .int a2)] [] σ (some (Value.long r.1)) r.2
  unfold fX10_road at h
  refine kg_aload_n 0 dX10_road_0 rfl (pc2 := 1) rfl ?_
  refine kg_iload_n 1 dX10_road_1 rfl (pc2 := 2) rfl ?_
  obtain ⟨r1, r1h, h⟩ := kw_bind_e h
  refine kg_callV (μ := μX10_road) (d := (d + 3)) rfl mVX10_isRoad [.int a1] [] (gX10_isRoad (E := E) (d := (d + 2)) a1 σ r1h) rfl lmRX10_146 (ci := 10) rfl tM_0 eM_0 rfl (Nat.le_of_ble_eq_true rfl) dX10_road_2 rfl (st2 := [.int r1]) rfl (pc2 := 5) rfl ?_
  refine kg_if_eq 20 dX10_road_5 rfl (pc2 := 8) rfl (fun q2 => ?_) (fun q2 => ?_)
  · replace h := (if_pos q2).symm.trans h
    refine kg_ldc2 rfl lcRX10_99 dX10_road_20 (pc2 := 23) rfl ?_
    cases h
    exact kg_lret dX10_road_23 rfl
  · replace h := (if_neg q2).symm.trans h
    refine kg_iload_n 2 dX10_road_8 rfl (pc2 := 9) rfl ?_
    refine kg_i2l dX10_road_9 (pc2 := 10) rfl ?_
    refine kg_lconst dX10_road_10 kl_0 (pc2 := 11) rfl ?_
    refine kg_ldc2 rfl lcRX10_387 dX10_road_11 (pc2 := 14) rfl ?_
    obtain ⟨r3, r3h, h⟩ := kw_bind_e h
    refine kg_callS (μ := μX10_road) (d := (d + 3)) rfl mSX10_in [.long a2.toInt64, .long (0 : Int64), .long (5 : Int64)] [] (gX10_in (E := E) (d := (d + 3)) a2.toInt64 (0 : Int64) (5 : Int64) σ r3h) rfl lmRX10_81 rfl (Nat.le_of_ble_eq_true rfl) dX10_road_14 rfl (st2 := [.int r3]) rfl (pc2 := 17) rfl ?_
    refine kg_if_ne 24 dX10_road_17 rfl (pc2 := 20) rfl (fun q4 => ?_) (fun q4 => ?_)
    · replace h := (if_neg q4).symm.trans h
      refine kg_iload_n 2 dX10_road_24 rfl (pc2 := 25) rfl ?_
      refine kg_iconst dX10_road_25 ki_4 (pc2 := 26) rfl ?_
      refine kg_icmp_ge 37 dX10_road_26 rfl (pc2 := 29) rfl (fun q5 => ?_) (fun q5 => ?_)
      · replace h := (if_pos q5).symm.trans h
        refine kg_aload_n 0 dX10_road_37 rfl (pc2 := 38) rfl ?_
        obtain ⟨r6, r6h, h⟩ := kw_bind_e h
        refine kg_callV (μ := μX10_road) (d := (d + 3)) rfl mVX10_settles [] [] (gX10_settles (E := E) (d := d) σ r6h) rfl lmRX10_104 (ci := 10) rfl tM_0 eM_0 rfl (Nat.le_of_ble_eq_true rfl) dX10_road_38 rfl (st2 := []) rfl (pc2 := 41) rfl ?_
        refine kg_iload_n 2 dX10_road_41 rfl (pc2 := 42) rfl ?_
        refine kg_iconst dX10_road_42 ki_4 (pc2 := 43) rfl ?_
        refine kg_icmp_ne 60 dX10_road_43 rfl (pc2 := 46) rfl (fun q7 => ?_) (fun q7 => ?_)
        · replace h := (if_neg q7).symm.trans h
          refine kg_aload_n 0 dX10_road_60 rfl (pc2 := 61) rfl ?_
          refine kg_aload_n 0 dX10_road_61 rfl (pc2 := 62) rfl ?_
          refine kg_iload_n 1 dX10_road_62 rfl (pc2 := 63) rfl ?_
          refine kg_iconst dX10_road_63 ki_1 (pc2 := 64) rfl ?_
          obtain ⟨r8, r8h, h⟩ := kw_bind_e h
          refine kg_callV (μ := μX10_road) (d := (d + 3)) rfl mVX10_of [.int a1, .int (1 : Int32)] [.ref 0] (gX10_of (E := E) (d := (d + 3)) a1 (1 : Int32) r6 r8h) rfl lmRX10_73 (ci := 10) rfl tM_0 eM_0 rfl (Nat.le_of_ble_eq_true rfl) dX10_road_64 rfl (st2 := [.int r8, .ref 0]) rfl (pc2 := 67) rfl ?_
          obtain ⟨r9, r9h, h⟩ := kw_bind_e h
          refine kg_callV (μ := μX10_road) (d := (d + 3)) rfl mVX10_parentOf [.int r8] [] (gX10_parentOf (E := E) (d := d) r8 r6 r9h) rfl lmRX10_306 (ci := 10) rfl tM_0 eM_0 rfl (Nat.le_of_ble_eq_true rfl) dX10_road_67 rfl (st2 := [.int r9]) rfl (pc2 := 70) rfl ?_
          refine kg_iload_n 1 dX10_road_70 rfl (pc2 := 71) rfl ?_
          refine kg_icmp_ne 78 dX10_road_71 rfl (pc2 := 74) rfl (fun q10 => ?_) (fun q10 => ?_)
          · replace h := (if_neg q10).symm.trans h
            refine kg_lconst dX10_road_78 kl_0 (pc2 := 79) rfl ?_
            cases h
            exact kg_lret dX10_road_79 rfl
          · replace h := (if_pos q10).symm.trans h
            refine kg_lconst dX10_road_74 kl_1 (pc2 := 75) rfl ?_
            refine kg_goto 79 dX10_road_75 rfl ?_
            cases h
            exact kg_lret dX10_road_79 rfl
        · replace h := (if_pos q7).symm.trans h
          refine kg_aload_n 0 dX10_road_46 rfl (pc2 := 47) rfl ?_
          refine kg_iload_n 1 dX10_road_47 rfl (pc2 := 48) rfl ?_
          obtain ⟨r11, r11h, h⟩ := kw_bind_e h
          refine kg_callV (μ := μX10_road) (d := (d + 3)) rfl mVX10_isTight [.int a1] [] (gX10_isTight (E := E) (d := (d + 1)) a1 r6 r11h) rfl lmRX10_303 (ci := 10) rfl tM_0 eM_0 rfl (Nat.le_of_ble_eq_true rfl) dX10_road_48 rfl (st2 := [.int r11]) rfl (pc2 := 51) rfl ?_
          refine kg_if_eq 58 dX10_road_51 rfl (pc2 := 54) rfl (fun q12 => ?_) (fun q12 => ?_)
          · replace h := (if_pos q12).symm.trans h
            refine kg_lconst dX10_road_58 kl_0 (pc2 := 59) rfl ?_
            cases h
            exact kg_lret dX10_road_59 rfl
          · replace h := (if_neg q12).symm.trans h
            refine kg_lconst dX10_road_54 kl_1 (pc2 := 55) rfl ?_
            refine kg_goto 59 dX10_road_55 rfl ?_
            cases h
            exact kg_lret dX10_road_59 rfl
      · replace h := (if_neg q5).symm.trans h
        refine kg_aload_n 0 dX10_road_29 rfl (pc2 := 30) rfl ?_
        refine kg_iload_n 1 dX10_road_30 rfl (pc2 := 31) rfl ?_
        refine kg_iload_n 2 dX10_road_31 rfl (pc2 := 32) rfl ?_
        obtain ⟨r13, r13h, h⟩ := kw_bind_e h
        refine kg_callV (μ := μX10_road) (d := (d + 3)) rfl mVX10_of [.int a1, .int a2] [] (gX10_of (E := E) (d := (d + 3)) a1 a2 σ r13h) rfl lmRX10_73 (ci := 10) rfl tM_0 eM_0 rfl (Nat.le_of_ble_eq_true rfl) dX10_road_32 rfl (st2 := [.int r13]) rfl (pc2 := 35) rfl ?_
        refine kg_i2l dX10_road_35 (pc2 := 36) rfl ?_
        cases h
        exact kg_lret dX10_road_36 rfl
    · replace h := (if_pos q4).symm.trans h
      refine kg_ldc2 rfl lcRX10_99 dX10_road_20 (pc2 := 23) rfl ?_
      cases h
      exact kg_lret dX10_road_23 rfl
set_option maxHeartbeats 4000000 in
set_option maxRecDepth 100000 in
theorem gX10_change {E : kw_E} {d : Nat} (a1 : Int32) (a2 : Int32) (σ : kw_M) {r : Int64 × kw_M} (h : fX10_change a1 a2 σ = some r) : kw_Met E kwTM 21 (d + 4) μX10_change [.ref 0, .int a1, .int a2] σ (some (Value.long r.1)) r.2 := by
  refine kw_enter plRX10 (Nat.le_of_ble_eq_true rfl) ?_
  show kw_G E kwTM 21 (d + 4) μX10_change 0 [(0, .ref 0), (1, .int a1), (2, .int a2)] [] σ (some (Value.long r.1)) r.2
  unfold fX10_change at h
  refine kg_aload_n 0 dX10_change_0 rfl (pc2 := 1) rfl ?_
  refine kg_iload_n 1 dX10_change_1 rfl (pc2 := 2) rfl ?_
  obtain ⟨r1, r1h, h⟩ := kw_bind_e h
  refine kg_callV (μ := μX10_change) (d := (d + 3)) rfl mVX10_isRoad [.int a1] [] (gX10_isRoad (E := E) (d := (d + 2)) a1 σ r1h) rfl lmRX10_146 (ci := 10) rfl tM_0 eM_0 rfl (Nat.le_of_ble_eq_true rfl) dX10_change_2 rfl (st2 := [.int r1]) rfl (pc2 := 5) rfl ?_
  refine kg_if_eq 28 dX10_change_5 rfl (pc2 := 8) rfl (fun q2 => ?_) (fun q2 => ?_)
  · replace h := (if_pos q2).symm.trans h
    refine kg_ldc2 rfl lcRX10_99 dX10_change_28 (pc2 := 31) rfl ?_
    cases h
    exact kg_lret dX10_change_31 rfl
  · replace h := (if_neg q2).symm.trans h
    refine kg_iload_n 2 dX10_change_8 rfl (pc2 := 9) rfl ?_
    refine kg_i2l dX10_change_9 (pc2 := 10) rfl ?_
    refine kg_lconst dX10_change_10 kl_0 (pc2 := 11) rfl ?_
    refine kg_ldc2 rfl lcRX10_220 dX10_change_11 (pc2 := 14) rfl ?_
    obtain ⟨r3, r3h, h⟩ := kw_bind_e h
    refine kg_callS (μ := μX10_change) (d := (d + 3)) rfl mSX10_in [.long a2.toInt64, .long (0 : Int64), .long (2 : Int64)] [] (gX10_in (E := E) (d := (d + 3)) a2.toInt64 (0 : Int64) (2 : Int64) σ r3h) rfl lmRX10_81 rfl (Nat.le_of_ble_eq_true rfl) dX10_change_14 rfl (st2 := [.int r3]) rfl (pc2 := 17) rfl ?_
    refine kg_if_eq 28 dX10_change_17 rfl (pc2 := 20) rfl (fun q4 => ?_) (fun q4 => ?_)
    · replace h := (if_pos q4).symm.trans h
      refine kg_ldc2 rfl lcRX10_99 dX10_change_28 (pc2 := 31) rfl ?_
      cases h
      exact kg_lret dX10_change_31 rfl
    · replace h := (if_neg q4).symm.trans h
      refine kg_aload_n 0 dX10_change_20 rfl (pc2 := 21) rfl ?_
      refine kg_iload_n 1 dX10_change_21 rfl (pc2 := 22) rfl ?_
      obtain ⟨r5, r5h, h⟩ := kw_bind_e h
      refine kg_callV (μ := μX10_change) (d := (d + 3)) rfl mVX10_isOpen [.int a1] [] (gX10_isOpen (E := E) (d := (d + 2)) a1 σ r5h) rfl lmRX10_91 (ci := 10) rfl tM_0 eM_0 rfl (Nat.le_of_ble_eq_true rfl) dX10_change_22 rfl (st2 := [.int r5]) rfl (pc2 := 25) rfl ?_
      refine kg_if_ne 32 dX10_change_25 rfl (pc2 := 28) rfl (fun q6 => ?_) (fun q6 => ?_)
      · replace h := (if_neg q6).symm.trans h
        refine kg_aload_n 0 dX10_change_32 rfl (pc2 := 33) rfl ?_
        obtain ⟨r7, r7h, h⟩ := kw_bind_e h
        refine kg_callV (μ := μX10_change) (d := (d + 3)) rfl mVX10_settles [] [] (gX10_settles (E := E) (d := d) σ r7h) rfl lmRX10_104 (ci := 10) rfl tM_0 eM_0 rfl (Nat.le_of_ble_eq_true rfl) dX10_change_33 rfl (st2 := []) rfl (pc2 := 36) rfl ?_
        refine kg_aload_n 0 dX10_change_36 rfl (pc2 := 37) rfl ?_
        refine kg_iload_n 1 dX10_change_37 rfl (pc2 := 38) rfl ?_
        obtain ⟨r8, r8h, h⟩ := kw_bind_e h
        refine kg_callV (μ := μX10_change) (d := (d + 3)) rfl mVX10_slackOf [.int a1] [] (gX10_slackOf (E := E) (d := (d + 2)) a1 r7 r8h) rfl lmRX10_299 (ci := 10) rfl tM_0 eM_0 rfl (Nat.le_of_ble_eq_true rfl) dX10_change_38 rfl (st2 := [.long r8]) rfl (pc2 := 41) rfl ?_
        refine kg_lstore_n dX10_change_41 rfl (Nat.le_of_ble_eq_true rfl) rfl (lv2 := [(3, .long r8), (0, .ref 0), (1, .int a1), (2, .int a2)]) rfl (pc2 := 42) rfl ?_
        refine kg_iload_n 3 dX10_change_42 rfl (pc2 := 43) rfl ?_
        refine kg_if_ne 51 dX10_change_43 rfl (pc2 := 46) rfl (fun q9 => ?_) (fun q9 => ?_)
        · replace h := (if_neg q9).symm.trans h
          refine kg_iload_n 3 dX10_change_51 rfl (pc2 := 52) rfl ?_
          refine kg_iconst dX10_change_52 ki_2 (pc2 := 53) rfl ?_
          refine kg_icmp_ne 72 dX10_change_53 rfl (pc2 := 56) rfl (fun q10 => ?_) (fun q10 => ?_)
          · replace h := (if_neg q10).symm.trans h
            refine kg_lload_n 0 dX10_change_72 rfl (pc2 := 73) rfl ?_
            refine kg_lconst dX10_change_73 kl_0 (pc2 := 74) rfl ?_
            refine kg_lcmp_ne 96 dX10_change_74 dX10_change_75 rfl (pc2 := 78) rfl (fun q11 => ?_) (fun q11 => ?_)
            · replace h := (if_neg q11).symm.trans h
              refine kg_ldc2 rfl lcRX10_188 dX10_change_96 (pc2 := 99) rfl ?_
              cases h
              exact kg_lret dX10_change_99 rfl
            · replace h := (if_pos q11).symm.trans h
              refine kg_aload_n 1 dX10_change_78 rfl (pc2 := 79) rfl ?_
              refine kg_aload_n 1 dX10_change_79 rfl (pc2 := 80) rfl ?_
              refine kg_iload_n 2 dX10_change_80 rfl (pc2 := 81) rfl ?_
              refine kg_iconst dX10_change_81 ki_1 (pc2 := 82) rfl ?_
              obtain ⟨r12, r12h, h⟩ := kw_bind_e h
              refine kg_callV (μ := μX10_change) (d := (d + 3)) rfl mVX10_of [.int a1, .int (1 : Int32)] [.ref 0] (gX10_of (E := E) (d := (d + 3)) a1 (1 : Int32) r7 r12h) rfl lmRX10_73 (ci := 10) rfl tM_0 eM_0 rfl (Nat.le_of_ble_eq_true rfl) dX10_change_82 rfl (st2 := [.int r12, .ref 0]) rfl (pc2 := 85) rfl ?_
              obtain ⟨r13, r13h, h⟩ := kw_bind_e h
              refine kg_callV (μ := μX10_change) (d := (d + 3)) rfl mVX10_tightTo [.int r12] [] (gX10_tightTo (E := E) (d := d) r12 r7 r13h) rfl lmRX10_342 (ci := 10) rfl tM_0 eM_0 rfl (Nat.le_of_ble_eq_true rfl) dX10_change_85 rfl (st2 := [.int r13]) rfl (pc2 := 88) rfl ?_
              refine kg_iconst dX10_change_88 ki_1 (pc2 := 89) rfl ?_
              refine kg_icmp_ne 96 dX10_change_89 rfl (pc2 := 92) rfl (fun q14 => ?_) (fun q14 => ?_)
              · replace h := (if_neg q14).symm.trans h
                refine kg_ldc2 rfl lcRX10_188 dX10_change_96 (pc2 := 99) rfl ?_
                cases h
                exact kg_lret dX10_change_99 rfl
              · replace h := (if_pos q14).symm.trans h
                refine kg_lconst dX10_change_92 kl_0 (pc2 := 93) rfl ?_
                refine kg_goto 99 dX10_change_93 rfl ?_
                cases h
                exact kg_lret dX10_change_99 rfl
          · replace h := (if_pos q10).symm.trans h
            refine kg_lload_n 0 dX10_change_56 rfl (pc2 := 57) rfl ?_
            refine kg_ldc2 rfl lcRX10_89 dX10_change_57 (pc2 := 60) rfl ?_
            refine kg_lcmp_ne 70 dX10_change_60 dX10_change_61 rfl (pc2 := 64) rfl (fun q15 => ?_) (fun q15 => ?_)
            · replace h := (if_neg q15).symm.trans h
              refine kg_lload_n 0 dX10_change_70 rfl (pc2 := 71) rfl ?_
              cases h
              exact kg_lret dX10_change_71 rfl
            · replace h := (if_pos q15).symm.trans h
              refine kg_ldc2 rfl lcRX10_188 dX10_change_64 (pc2 := 67) rfl ?_
              refine kg_goto 71 dX10_change_67 rfl ?_
              cases h
              exact kg_lret dX10_change_71 rfl
        · replace h := (if_pos q9).symm.trans h
          refine kg_lload_n 0 dX10_change_46 rfl (pc2 := 47) rfl ?_
          obtain ⟨r16, r16h, h⟩ := kw_bind_e h
          refine kg_callS (μ := μX10_change) (d := (d + 3)) rfl mSX10_told [.long r8] [] (gX10_told (E := E) (d := (d + 3)) r8 r7 r16h) rfl lmRX10_336 rfl (Nat.le_of_ble_eq_true rfl) dX10_change_47 rfl (st2 := [.long r16]) rfl (pc2 := 50) rfl ?_
          cases h
          exact kg_lret dX10_change_50 rfl
      · replace h := (if_pos q6).symm.trans h
        refine kg_ldc2 rfl lcRX10_99 dX10_change_28 (pc2 := 31) rfl ?_
        cases h
        exact kg_lret dX10_change_31 rfl
set_option maxHeartbeats 4000000 in
set_option maxRecDepth 100000 in
theorem gX10_way {E : kw_E} {d : Nat} (a1 : Int32) (a2 : Int32) (σ : kw_M) {r : Int32 × kw_M} (h : fX10_way a1 a2 σ = some r) : kw_Met E kwTM 21 (d + 5) μX10_way [.ref 0, .int a1, .int a2] σ (some (Value.int r.1)) r.2 := by
  refine kw_enter plRX10 (Nat.le_of_ble_eq_true rfl) ?_
  show kw_G E kwTM 21 (d + 5) μX10_way 0 [(0, .ref 0), (1, .int a1), (2, .int a2)] [] σ (some (Value.int r.1)) r.2
  unfold fX10_way at h
  refine kg_aload_n 0 dX10_way_0 rfl (pc2 := 1) rfl ?_
  refine kg_iload_n 1 dX10_way_1 rfl (pc2 := 2) rfl ?_
  obtain ⟨r1, r1h, h⟩ := kw_bind_e h
  refine kg_callV (μ := μX10_way) (d := (d + 4)) rfl mVX10_isTown [.int a1] [] (gX10_isTown (E := E) (d := (d + 3)) a1 σ r1h) rfl lmRX10_121 (ci := 10) rfl tM_0 eM_0 rfl (Nat.le_of_ble_eq_true rfl) dX10_way_2 rfl (st2 := [.int r1]) rfl (pc2 := 5) rfl ?_
  refine kg_if_eq 12 dX10_way_5 rfl (pc2 := 8) rfl (fun q2 => ?_) (fun q2 => ?_)
  · replace h := (if_pos q2).symm.trans h
    refine kg_iconst dX10_way_12 ki_m1 (pc2 := 13) rfl ?_
    cases h
    exact kg_iret (ty := .int) dX10_way_13 rfl rfl
  · replace h := (if_neg q2).symm.trans h
    refine kg_iload_n 2 dX10_way_8 rfl (pc2 := 9) rfl ?_
    refine kg_if_ge 14 dX10_way_9 rfl (pc2 := 12) rfl (fun q3 => ?_) (fun q3 => ?_)
    · replace h := (if_pos q3).symm.trans h
      refine kg_aload_n 0 dX10_way_14 rfl (pc2 := 15) rfl ?_
      obtain ⟨r4, r4h, h⟩ := kw_bind_e h
      refine kg_callV (μ := μX10_way) (d := (d + 4)) rfl mVX10_settles [] [] (gX10_settles (E := E) (d := (d + 1)) σ r4h) rfl lmRX10_104 (ci := 10) rfl tM_0 eM_0 rfl (Nat.le_of_ble_eq_true rfl) dX10_way_15 rfl (st2 := []) rfl (pc2 := 18) rfl ?_
      refine kg_aload_n 0 dX10_way_18 rfl (pc2 := 19) rfl ?_
      refine kg_iload_n 1 dX10_way_19 rfl (pc2 := 20) rfl ?_
      obtain ⟨r5, r5h, h⟩ := kw_bind_e h
      refine kg_callV (μ := μX10_way) (d := (d + 4)) rfl mVX10_goesBack [.int a1] [] (gX10_goesBack (E := E) (d := d) a1 r4 r5h) rfl lmRX10_315 (ci := 10) rfl tM_0 eM_0 rfl (Nat.le_of_ble_eq_true rfl) dX10_way_20 rfl (st2 := [.int r5.1]) rfl (pc2 := 23) rfl ?_
      refine kg_istore_n dX10_way_23 rfl (Nat.le_of_ble_eq_true rfl) rfl (lv2 := [(3, .int r5.1), (0, .ref 0), (1, .int a1), (2, .int a2)]) rfl (pc2 := 24) rfl ?_
      refine kg_iload_n 0 dX10_way_24 rfl (pc2 := 25) rfl ?_
      refine kg_iconst dX10_way_25 ki_m1 (pc2 := 26) rfl ?_
      refine kg_icmp_ne 33 dX10_way_26 rfl (pc2 := 29) rfl (fun q6 => ?_) (fun q6 => ?_)
      · replace h := (if_neg q6).symm.trans h
        refine kg_iload_n 3 dX10_way_33 rfl (pc2 := 34) rfl ?_
        refine kg_iload_n 0 dX10_way_34 rfl (pc2 := 35) rfl ?_
        refine kg_icmp_ge 51 dX10_way_35 rfl (pc2 := 38) rfl (fun q7 => ?_) (fun q7 => ?_)
        · replace h := (if_pos q7).symm.trans h
          refine kg_bipush dX10_way_51 kb_m4 (pc2 := 53) rfl ?_
          cases h
          exact kg_iret (ty := .int) dX10_way_53 rfl rfl
        · replace h := (if_neg q7).symm.trans h
          refine kg_aload_n 1 dX10_way_38 rfl (pc2 := 39) rfl ?_
          refine kg_getr clX10 rfl 18 (Nat.le_of_ble_eq_true rfl) lfRX10_33 tM_0 eM_0 rfl dX10_way_39 (pc2 := 42) rfl ?_
          refine kg_iload_n 0 dX10_way_42 rfl (pc2 := 43) rfl ?_
          refine kg_iconst dX10_way_43 ki_1 (pc2 := 44) rfl ?_
          refine kg_isub dX10_way_44 (pc2 := 45) rfl ?_
          refine kg_iload_n 3 dX10_way_45 rfl (pc2 := 46) rfl ?_
          refine kg_isub dX10_way_46 (pc2 := 47) rfl ?_
          obtain ⟨q8, h⟩ := kw_chk_e h
          refine kg_iald tM_8 eM_8 q8 (j := ((r5.1 - (1 : Int32)) - a2).toNatClampNeg) rfl dX10_way_47 (pc2 := 48) rfl ?_
          refine kg_goto 53 dX10_way_48 rfl ?_
          cases h
          exact kg_iret (ty := .int) dX10_way_53 rfl rfl
      · replace h := (if_pos q6).symm.trans h
        refine kg_iconst dX10_way_29 ki_m1 (pc2 := 30) rfl ?_
        refine kg_goto 53 dX10_way_30 rfl ?_
        cases h
        exact kg_iret (ty := .int) dX10_way_53 rfl rfl
    · replace h := (if_neg q3).symm.trans h
      refine kg_iconst dX10_way_12 ki_m1 (pc2 := 13) rfl ?_
      cases h
      exact kg_iret (ty := .int) dX10_way_13 rfl rfl
set_option maxHeartbeats 4000000 in
set_option maxRecDepth 100000 in
theorem gX10_needed {E : kw_E} {d : Nat} (a1 : Int32) (a2 : Int32) (σ : kw_M) {r : Int32 × kw_M} (h : fX10_needed a1 a2 σ = some r) : kw_Met E kwTM 21 (d + 5) μX10_needed [.ref 0, .int a1, .int a2] σ (some (Value.int r.1)) r.2 := by
  refine kw_enter plRX10 (Nat.le_of_ble_eq_true rfl) ?_
  show kw_G E kwTM 21 (d + 5) μX10_needed 0 [(0, .ref 0), (1, .int a1), (2, .int a2)] [] σ (some (Value.int r.1)) r.2
  unfold fX10_needed at h
  refine kg_aload_n 0 dX10_needed_0 rfl (pc2 := 1) rfl ?_
  refine kg_iload_n 1 dX10_needed_1 rfl (pc2 := 2) rfl ?_
  obtain ⟨r1, r1h, h⟩ := kw_bind_e h
  refine kg_callV (μ := μX10_needed) (d := (d + 4)) rfl mVX10_isRoad [.int a1] [] (gX10_isRoad (E := E) (d := (d + 3)) a1 σ r1h) rfl lmRX10_146 (ci := 10) rfl tM_0 eM_0 rfl (Nat.le_of_ble_eq_true rfl) dX10_needed_2 rfl (st2 := [.int r1]) rfl (pc2 := 5) rfl ?_
  refine kg_if_eq 24 dX10_needed_5 rfl (pc2 := 8) rfl (fun q2 => ?_) (fun q2 => ?_)
  · replace h := (if_pos q2).symm.trans h
    refine kg_iconst dX10_needed_24 ki_m1 (pc2 := 25) rfl ?_
    cases h
    exact kg_iret (ty := .int) dX10_needed_25 rfl rfl
  · replace h := (if_neg q2).symm.trans h
    refine kg_aload_n 0 dX10_needed_8 rfl (pc2 := 9) rfl ?_
    refine kg_iload_n 2 dX10_needed_9 rfl (pc2 := 10) rfl ?_
    obtain ⟨r3, r3h, h⟩ := kw_bind_e h
    refine kg_callV (μ := μX10_needed) (d := (d + 4)) rfl mVX10_isTown [.int a2] [] (gX10_isTown (E := E) (d := (d + 3)) a2 σ r3h) rfl lmRX10_121 (ci := 10) rfl tM_0 eM_0 rfl (Nat.le_of_ble_eq_true rfl) dX10_needed_10 rfl (st2 := [.int r3]) rfl (pc2 := 13) rfl ?_
    refine kg_if_eq 24 dX10_needed_13 rfl (pc2 := 16) rfl (fun q4 => ?_) (fun q4 => ?_)
    · replace h := (if_pos q4).symm.trans h
      refine kg_iconst dX10_needed_24 ki_m1 (pc2 := 25) rfl ?_
      cases h
      exact kg_iret (ty := .int) dX10_needed_25 rfl rfl
    · replace h := (if_neg q4).symm.trans h
      refine kg_aload_n 0 dX10_needed_16 rfl (pc2 := 17) rfl ?_
      refine kg_iload_n 1 dX10_needed_17 rfl (pc2 := 18) rfl ?_
      obtain ⟨r5, r5h, h⟩ := kw_bind_e h
      refine kg_callV (μ := μX10_needed) (d := (d + 4)) rfl mVX10_isOpen [.int a1] [] (gX10_isOpen (E := E) (d := (d + 3)) a1 σ r5h) rfl lmRX10_91 (ci := 10) rfl tM_0 eM_0 rfl (Nat.le_of_ble_eq_true rfl) dX10_needed_18 rfl (st2 := [.int r5]) rfl (pc2 := 21) rfl ?_
      refine kg_if_ne 26 dX10_needed_21 rfl (pc2 := 24) rfl (fun q6 => ?_) (fun q6 => ?_)
      · replace h := (if_neg q6).symm.trans h
        refine kg_aload_n 0 dX10_needed_26 rfl (pc2 := 27) rfl ?_
        obtain ⟨r7, r7h, h⟩ := kw_bind_e h
        refine kg_callV (μ := μX10_needed) (d := (d + 4)) rfl mVX10_settles [] [] (gX10_settles (E := E) (d := (d + 1)) σ r7h) rfl lmRX10_104 (ci := 10) rfl tM_0 eM_0 rfl (Nat.le_of_ble_eq_true rfl) dX10_needed_27 rfl (st2 := []) rfl (pc2 := 30) rfl ?_
        refine kg_aload_n 0 dX10_needed_30 rfl (pc2 := 31) rfl ?_
        refine kg_getr clX10 rfl 3 (Nat.le_of_ble_eq_true rfl) lfRX10_17 tM_0 eM_0 rfl dX10_needed_31 (pc2 := 34) rfl ?_
        refine kg_iload_n 2 dX10_needed_34 rfl (pc2 := 35) rfl ?_
        obtain ⟨q8, h⟩ := kw_chk_e h
        refine kg_lald tM_3 eM_3 q8 (j := a2.toNatClampNeg) rfl dX10_needed_35 (pc2 := 36) rfl ?_
        refine kg_ldc2 rfl lcRX10_89 dX10_needed_36 (pc2 := 39) rfl ?_
        refine kg_lcmp_ne 45 dX10_needed_39 dX10_needed_40 rfl (pc2 := 43) rfl (fun q9 => ?_) (fun q9 => ?_)
        · replace h := (if_neg q9).symm.trans h
          refine kg_aload_n 0 dX10_needed_45 rfl (pc2 := 46) rfl ?_
          refine kg_iload_n 1 dX10_needed_46 rfl (pc2 := 47) rfl ?_
          obtain ⟨r10, r10h, h⟩ := kw_bind_e h
          refine kg_callV (μ := μX10_needed) (d := (d + 4)) rfl mVX10_isTight [.int a1] [] (gX10_isTight (E := E) (d := (d + 2)) a1 r7 r10h) rfl lmRX10_303 (ci := 10) rfl tM_0 eM_0 rfl (Nat.le_of_ble_eq_true rfl) dX10_needed_47 rfl (st2 := [.int r10]) rfl (pc2 := 50) rfl ?_
          refine kg_if_eq 66 dX10_needed_50 rfl (pc2 := 53) rfl (fun q11 => ?_) (fun q11 => ?_)
          · replace h := (if_pos q11).symm.trans h
            refine kg_iconst dX10_needed_66 ki_0 (pc2 := 67) rfl ?_
            cases h
            exact kg_iret (ty := .int) dX10_needed_67 rfl rfl
          · replace h := (if_neg q11).symm.trans h
            refine kg_aload_n 0 dX10_needed_53 rfl (pc2 := 54) rfl ?_
            refine kg_iload_n 1 dX10_needed_54 rfl (pc2 := 55) rfl ?_
            refine kg_iload_n 2 dX10_needed_55 rfl (pc2 := 56) rfl ?_
            obtain ⟨r12, r12h, h⟩ := kw_bind_e h
            refine kg_callV (μ := μX10_needed) (d := (d + 4)) rfl mVX10_isNeeded [.int a1, .int a2] [] (gX10_isNeeded (E := E) (d := d) a1 a2 r7 r12h) rfl lmRX10_312 (ci := 10) rfl tM_0 eM_0 rfl (Nat.le_of_ble_eq_true rfl) dX10_needed_56 rfl (st2 := [.int r12.1]) rfl (pc2 := 59) rfl ?_
            refine kg_if_eq 66 dX10_needed_59 rfl (pc2 := 62) rfl (fun q13 => ?_) (fun q13 => ?_)
            · replace h := (if_pos q13).symm.trans h
              refine kg_iconst dX10_needed_66 ki_0 (pc2 := 67) rfl ?_
              cases h
              exact kg_iret (ty := .int) dX10_needed_67 rfl rfl
            · replace h := (if_neg q13).symm.trans h
              refine kg_iconst dX10_needed_62 ki_1 (pc2 := 63) rfl ?_
              refine kg_goto 67 dX10_needed_63 rfl ?_
              cases h
              exact kg_iret (ty := .int) dX10_needed_67 rfl rfl
        · replace h := (if_pos q9).symm.trans h
          refine kg_iconst dX10_needed_43 ki_m1 (pc2 := 44) rfl ?_
          cases h
          exact kg_iret (ty := .int) dX10_needed_44 rfl rfl
      · replace h := (if_pos q6).symm.trans h
        refine kg_iconst dX10_needed_24 ki_m1 (pc2 := 25) rfl ?_
        cases h
        exact kg_iret (ty := .int) dX10_needed_25 rfl rfl
set_option maxHeartbeats 4000000 in
set_option maxRecDepth 100000 in
theorem gX10_without {E : kw_E} {d : Nat} (a1 : Int32) (a2 : Int32) (σ : kw_M) {r : Int64 × kw_M} (h : fX10_without a1 a2 σ = some r) : kw_Met E kwTM 21 (d + 3) μX10_without [.ref 0, .int a1, .int a2] σ (some (Value.long r.1)) r.2 := by
  refine kw_enter plRX10 (Nat.le_of_ble_eq_true rfl) ?_
  show kw_G E kwTM 21 (d + 3) μX10_without 0 [(0, .ref 0), (1, .int a1), (2, .int a2)] [] σ (some (Value.long r.1)) r.2
  unfold fX10_without at h
  refine kg_aload_n 0 dX10_without_0 rfl (pc2 := 1) rfl ?_
  refine kg_iload_n 1 dX10_without_1 rfl (pc2 := 2) rfl ?_
  obtain ⟨r1, r1h, h⟩ := kw_bind_e h
  refine kg_callV (μ := μX10_without) (d := (d + 2)) rfl mVX10_isRoad [.int a1] [] (gX10_isRoad (E := E) (d := (d + 1)) a1 σ r1h) rfl lmRX10_146 (ci := 10) rfl tM_0 eM_0 rfl (Nat.le_of_ble_eq_true rfl) dX10_without_2 rfl (st2 := [.int r1]) rfl (pc2 := 5) rfl ?_
  refine kg_if_eq 24 dX10_without_5 rfl (pc2 := 8) rfl (fun q2 => ?_) (fun q2 => ?_)
  · replace h := (if_pos q2).symm.trans h
    refine kg_ldc2 rfl lcRX10_99 dX10_without_24 (pc2 := 27) rfl ?_
    cases h
    exact kg_lret dX10_without_27 rfl
  · replace h := (if_neg q2).symm.trans h
    refine kg_aload_n 0 dX10_without_8 rfl (pc2 := 9) rfl ?_
    refine kg_iload_n 2 dX10_without_9 rfl (pc2 := 10) rfl ?_
    obtain ⟨r3, r3h, h⟩ := kw_bind_e h
    refine kg_callV (μ := μX10_without) (d := (d + 2)) rfl mVX10_isTown [.int a2] [] (gX10_isTown (E := E) (d := (d + 1)) a2 σ r3h) rfl lmRX10_121 (ci := 10) rfl tM_0 eM_0 rfl (Nat.le_of_ble_eq_true rfl) dX10_without_10 rfl (st2 := [.int r3]) rfl (pc2 := 13) rfl ?_
    refine kg_if_eq 24 dX10_without_13 rfl (pc2 := 16) rfl (fun q4 => ?_) (fun q4 => ?_)
    · replace h := (if_pos q4).symm.trans h
      refine kg_ldc2 rfl lcRX10_99 dX10_without_24 (pc2 := 27) rfl ?_
      cases h
      exact kg_lret dX10_without_27 rfl
    · replace h := (if_neg q4).symm.trans h
      refine kg_aload_n 0 dX10_without_16 rfl (pc2 := 17) rfl ?_
      refine kg_iload_n 1 dX10_without_17 rfl (pc2 := 18) rfl ?_
      obtain ⟨r5, r5h, h⟩ := kw_bind_e h
      refine kg_callV (μ := μX10_without) (d := (d + 2)) rfl mVX10_isOpen [.int a1] [] (gX10_isOpen (E := E) (d := (d + 1)) a1 σ r5h) rfl lmRX10_91 (ci := 10) rfl tM_0 eM_0 rfl (Nat.le_of_ble_eq_true rfl) dX10_without_18 rfl (st2 := [.int r5]) rfl (pc2 := 21) rfl ?_
      refine kg_if_ne 28 dX10_without_21 rfl (pc2 := 24) rfl (fun q6 => ?_) (fun q6 => ?_)
      · replace h := (if_neg q6).symm.trans h
        refine kg_aload_n 0 dX10_without_28 rfl (pc2 := 29) rfl ?_
        refine kg_aload_n 0 dX10_without_29 rfl (pc2 := 30) rfl ?_
        refine kg_getr clX10 rfl 0 (Nat.le_of_ble_eq_true rfl) lfRX10_7 tM_0 eM_0 rfl dX10_without_30 (pc2 := 33) rfl ?_
        refine kg_iconst dX10_without_33 ki_2 (pc2 := 34) rfl ?_
        refine kg_iald tM_1 eM_1 (show kw_in (2 : Int32) 2832 by decide) (j := 2) (by decide) dX10_without_34 (pc2 := 35) rfl ?_
        refine kg_iload_n 1 dX10_without_35 rfl (pc2 := 36) rfl ?_
        obtain ⟨r7, r7h, h⟩ := kw_bind_e h
        refine kg_callV (μ := μX10_without) (d := (d + 2)) rfl mVX10_finds [.int (σ.1 1 2), .int a1] [] (gX10_finds (E := E) (d := d) (σ.1 1 2) a1 σ r7h) rfl lmRX10_95 (ci := 10) rfl tM_0 eM_0 rfl (Nat.le_of_ble_eq_true rfl) dX10_without_36 rfl (st2 := []) rfl (pc2 := 39) rfl ?_
        refine kg_aload_n 0 dX10_without_39 rfl (pc2 := 40) rfl ?_
        refine kg_getr clX10 rfl 2 (Nat.le_of_ble_eq_true rfl) lfRX10_13 tM_0 eM_0 rfl dX10_without_40 (pc2 := 43) rfl ?_
        refine kg_iload_n 2 dX10_without_43 rfl (pc2 := 44) rfl ?_
        obtain ⟨q8, h⟩ := kw_chk_e h
        refine kg_lald tM_2 eM_2 q8 (j := a2.toNatClampNeg) rfl dX10_without_44 (pc2 := 45) rfl ?_
        obtain ⟨r9, r9h, h⟩ := kw_bind_e h
        refine kg_callS (μ := μX10_without) (d := (d + 2)) rfl mSX10_told [.long (r7.2 2 a2.toNatClampNeg)] [] (gX10_told (E := E) (d := (d + 2)) (r7.2 2 a2.toNatClampNeg) r7 r9h) rfl lmRX10_336 rfl (Nat.le_of_ble_eq_true rfl) dX10_without_45 rfl (st2 := [.long r9]) rfl (pc2 := 48) rfl ?_
        cases h
        exact kg_lret dX10_without_48 rfl
      · replace h := (if_pos q6).symm.trans h
        refine kg_ldc2 rfl lcRX10_99 dX10_without_24 (pc2 := 27) rfl ?_
        cases h
        exact kg_lret dX10_without_27 rfl
set_option maxHeartbeats 4000000 in
set_option maxRecDepth 100000 in
theorem gX10_between {E : kw_E} {d : Nat} (a1 : Int32) (a2 : Int32) (σ : kw_M) {r : Int64 × kw_M} (h : fX10_between a1 a2 σ = some r) : kw_Met E kwTM 21 (d + 3) μX10_between [.ref 0, .int a1, .int a2] σ (some (Value.long r.1)) r.2 := by
  refine kw_enter plRX10 (Nat.le_of_ble_eq_true rfl) ?_
  show kw_G E kwTM 21 (d + 3) μX10_between 0 [(0, .ref 0), (1, .int a1), (2, .int a2)] [] σ (some (Value.long r.1)) r.2
  unfold fX10_between at h
  refine kg_aload_n 0 dX10_between_0 rfl (pc2 := 1) rfl ?_
  refine kg_iload_n 1 dX10_between_1 rfl (pc2 := 2) rfl ?_
  obtain ⟨r1, r1h, h⟩ := kw_bind_e h
  refine kg_callV (μ := μX10_between) (d := (d + 2)) rfl mVX10_isTown [.int a1] [] (gX10_isTown (E := E) (d := (d + 1)) a1 σ r1h) rfl lmRX10_121 (ci := 10) rfl tM_0 eM_0 rfl (Nat.le_of_ble_eq_true rfl) dX10_between_2 rfl (st2 := [.int r1]) rfl (pc2 := 5) rfl ?_
  refine kg_if_eq 16 dX10_between_5 rfl (pc2 := 8) rfl (fun q2 => ?_) (fun q2 => ?_)
  · replace h := (if_pos q2).symm.trans h
    refine kg_ldc2 rfl lcRX10_99 dX10_between_16 (pc2 := 19) rfl ?_
    cases h
    exact kg_lret dX10_between_19 rfl
  · replace h := (if_neg q2).symm.trans h
    refine kg_aload_n 0 dX10_between_8 rfl (pc2 := 9) rfl ?_
    refine kg_iload_n 2 dX10_between_9 rfl (pc2 := 10) rfl ?_
    obtain ⟨r3, r3h, h⟩ := kw_bind_e h
    refine kg_callV (μ := μX10_between) (d := (d + 2)) rfl mVX10_isTown [.int a2] [] (gX10_isTown (E := E) (d := (d + 1)) a2 σ r3h) rfl lmRX10_121 (ci := 10) rfl tM_0 eM_0 rfl (Nat.le_of_ble_eq_true rfl) dX10_between_10 rfl (st2 := [.int r3]) rfl (pc2 := 13) rfl ?_
    refine kg_if_ne 20 dX10_between_13 rfl (pc2 := 16) rfl (fun q4 => ?_) (fun q4 => ?_)
    · replace h := (if_neg q4).symm.trans h
      refine kg_aload_n 0 dX10_between_20 rfl (pc2 := 21) rfl ?_
      refine kg_iload_n 1 dX10_between_21 rfl (pc2 := 22) rfl ?_
      refine kg_iconst dX10_between_22 ki_m1 (pc2 := 23) rfl ?_
      obtain ⟨r5, r5h, h⟩ := kw_bind_e h
      refine kg_callV (μ := μX10_between) (d := (d + 2)) rfl mVX10_finds [.int a1, .int (-1 : Int32)] [] (gX10_finds (E := E) (d := d) a1 (-1 : Int32) σ r5h) rfl lmRX10_95 (ci := 10) rfl tM_0 eM_0 rfl (Nat.le_of_ble_eq_true rfl) dX10_between_23 rfl (st2 := []) rfl (pc2 := 26) rfl ?_
      refine kg_aload_n 0 dX10_between_26 rfl (pc2 := 27) rfl ?_
      refine kg_getr clX10 rfl 2 (Nat.le_of_ble_eq_true rfl) lfRX10_13 tM_0 eM_0 rfl dX10_between_27 (pc2 := 30) rfl ?_
      refine kg_iload_n 2 dX10_between_30 rfl (pc2 := 31) rfl ?_
      obtain ⟨q6, h⟩ := kw_chk_e h
      refine kg_lald tM_2 eM_2 q6 (j := a2.toNatClampNeg) rfl dX10_between_31 (pc2 := 32) rfl ?_
      obtain ⟨r7, r7h, h⟩ := kw_bind_e h
      refine kg_callS (μ := μX10_between) (d := (d + 2)) rfl mSX10_told [.long (r5.2 2 a2.toNatClampNeg)] [] (gX10_told (E := E) (d := (d + 2)) (r5.2 2 a2.toNatClampNeg) r5 r7h) rfl lmRX10_336 rfl (Nat.le_of_ble_eq_true rfl) dX10_between_32 rfl (st2 := [.long r7]) rfl (pc2 := 35) rfl ?_
      cases h
      exact kg_lret dX10_between_35 rfl
    · replace h := (if_pos q4).symm.trans h
      refine kg_ldc2 rfl lcRX10_99 dX10_between_16 (pc2 := 19) rfl ?_
      cases h
      exact kg_lret dX10_between_19 rfl
set_option maxHeartbeats 4000000 in
set_option maxRecDepth 100000 in
theorem gX10_offers {E : kw_E} {d : Nat} (a1 : Int32) (a2 : Int64) (σ : kw_M) {r : kw_M} (h : fX10_offers a1 a2 σ = some r) : kw_Met E kwTM 21 d μX10_offers [.ref 0, .int a1, .long a2] σ none r := by
  refine kw_enter plRX10 (Nat.le_of_ble_eq_true rfl) ?_
  show kw_G E kwTM 21 d μX10_offers 0 [(0, .ref 0), (1, .int a1), (2, .long a2)] [] σ none r
  unfold fX10_offers at h
  refine kg_lload_n 2 dX10_offers_0 rfl (pc2 := 1) rfl ?_
  refine kg_aload_n 0 dX10_offers_1 rfl (pc2 := 2) rfl ?_
  refine kg_getr clX10 rfl 27 (Nat.le_of_ble_eq_true rfl) lfRX10_61 tM_0 eM_0 rfl dX10_offers_2 (pc2 := 5) rfl ?_
  refine kg_iload_n 1 dX10_offers_5 rfl (pc2 := 6) rfl ?_
  obtain ⟨q1, h⟩ := kw_chk_e h
  refine kg_lald tM_17 eM_17 q1 (j := a1.toNatClampNeg) rfl dX10_offers_6 (pc2 := 7) rfl ?_
  refine kg_lcmp_ge 18 dX10_offers_7 dX10_offers_8 rfl (pc2 := 11) rfl (fun q2 => ?_) (fun q2 => ?_)
  · replace h := (if_pos q2).symm.trans h
    cases h
    exact kg_vret dX10_offers_18 rfl
  · replace h := (if_neg q2).symm.trans h
    refine kg_aload_n 0 dX10_offers_11 rfl (pc2 := 12) rfl ?_
    refine kg_getr clX10 rfl 27 (Nat.le_of_ble_eq_true rfl) lfRX10_61 tM_0 eM_0 rfl dX10_offers_12 (pc2 := 15) rfl ?_
    refine kg_iload_n 1 dX10_offers_15 rfl (pc2 := 16) rfl ?_
    refine kg_lload_n 2 dX10_offers_16 rfl (pc2 := 17) rfl ?_
    obtain ⟨s3, s3e, h⟩ := kw_let_e h
    refine kg_last tM_17 eM_17 q1 (j := a1.toNatClampNeg) rfl s3e dX10_offers_17 (pc2 := 18) rfl ?_
    cases h
    exact kg_vret dX10_offers_18 rfl
set_option maxHeartbeats 4000000 in
set_option maxRecDepth 100000 in
theorem lX10_free_26 {E : kw_E} {d : Nat} (v1 : Int32) (v2 : Int32) (v3 : Int32) (σ : kw_M) {v : Option Value} {σ2 : kw_M} {o : (Int32 × kw_M) ⊕ (kw_M)} (h : bX10_free_26 v1 v2 v3 σ = some o) (hk : Sum.elim (fun s => kw_G E kwTM 21 (d + 2) μX10_free 26 [(0, .ref 0), (1, .int v1), (2, .int v2), (3, .int s.1)] [] s.2 v σ2) (fun y => kw_G E kwTM 21 (d + 2) μX10_free 63 [(0, .ref 0), (1, .int v1), (2, .int v2)] [] y v σ2) o) : kw_G E kwTM 21 (d + 2) μX10_free 26 [(0, .ref 0), (1, .int v1), (2, .int v2), (3, .int v3)] [] σ v σ2 := by
  unfold bX10_free_26 at h
  refine kg_iload_n 3 dX10_free_26 rfl (pc2 := 27) rfl ?_
  refine kg_bipush dX10_free_27 kb_48 (pc2 := 29) rfl ?_
  refine kg_icmp_ge 63 dX10_free_29 rfl (pc2 := 32) rfl (fun q5 => ?_) (fun q5 => ?_)
  · replace h := (if_pos q5).symm.trans h
    refine kg_sub [0, 1, 2] (lv2 := [(0, .ref 0), (1, .int v1), (2, .int v2)]) rfl ?_
    cases h
    exact hk
  · replace h := (if_neg q5).symm.trans h
    refine kg_aload_n 0 dX10_free_32 rfl (pc2 := 33) rfl ?_
    refine kg_getr clX10 rfl 27 (Nat.le_of_ble_eq_true rfl) lfRX10_61 tM_0 eM_0 rfl dX10_free_33 (pc2 := 36) rfl ?_
    refine kg_iload_n 3 dX10_free_36 rfl (pc2 := 37) rfl ?_
    refine kg_iload_n 3 dX10_free_37 rfl (pc2 := 38) rfl ?_
    refine kg_iconst dX10_free_38 ki_4 (pc2 := 39) rfl ?_
    refine kg_aload_n 0 dX10_free_39 rfl (pc2 := 40) rfl ?_
    refine kg_getr clX10 rfl 0 (Nat.le_of_ble_eq_true rfl) lfRX10_7 tM_0 eM_0 rfl dX10_free_40 (pc2 := 43) rfl ?_
    refine kg_iconst dX10_free_43 ki_2 (pc2 := 44) rfl ?_
    refine kg_iald tM_1 eM_1 (show kw_in (2 : Int32) 2832 by decide) (j := 2) (by decide) dX10_free_44 (pc2 := 45) rfl ?_
    refine kg_imul dX10_free_45 (pc2 := 46) rfl ?_
    refine kg_icmp_ne 53 dX10_free_46 rfl (pc2 := 49) rfl (fun q6 => ?_) (fun q6 => ?_)
    · replace h := (if_neg q6).symm.trans h
      refine kg_ldc2 rfl lcRX10_89 dX10_free_53 (pc2 := 56) rfl ?_
      obtain ⟨q7, h⟩ := kw_chk_e h
      obtain ⟨s8, s8e, h⟩ := kw_let_e h
      refine kg_last tM_17 eM_17 q7 (j := v3.toNatClampNeg) rfl s8e dX10_free_56 (pc2 := 57) rfl ?_
      obtain ⟨x9, x9e, h⟩ := kw_let_e h
      refine kg_iinc 3 dX10_free_57 rfl (Nat.le_of_ble_eq_true rfl) x9e (lv2 := [(3, .int x9), (0, .ref 0), (1, .int v1), (2, .int v2)]) rfl (pc2 := 60) rfl ?_
      refine kg_goto 26 dX10_free_60 rfl ?_
      refine kg_sub [1, 2, 3, 0] (lv2 := [(0, .ref 0), (1, .int v1), (2, .int v2), (3, .int x9)]) rfl ?_
      cases h
      exact hk
    · replace h := (if_pos q6).symm.trans h
      refine kg_lconst dX10_free_49 kl_0 (pc2 := 50) rfl ?_
      refine kg_goto 56 dX10_free_50 rfl ?_
      obtain ⟨q10, h⟩ := kw_chk_e h
      obtain ⟨s11, s11e, h⟩ := kw_let_e h
      refine kg_last tM_17 eM_17 q10 (j := v3.toNatClampNeg) rfl s11e dX10_free_56 (pc2 := 57) rfl ?_
      obtain ⟨x12, x12e, h⟩ := kw_let_e h
      refine kg_iinc 3 dX10_free_57 rfl (Nat.le_of_ble_eq_true rfl) x12e (lv2 := [(3, .int x12), (0, .ref 0), (1, .int v1), (2, .int v2)]) rfl (pc2 := 60) rfl ?_
      refine kg_goto 26 dX10_free_60 rfl ?_
      refine kg_sub [1, 2, 3, 0] (lv2 := [(0, .ref 0), (1, .int v1), (2, .int v2), (3, .int x12)]) rfl ?_
      cases h
      exact hk
set_option maxHeartbeats 4000000 in
set_option maxRecDepth 100000 in
theorem lX10_free_92 {E : kw_E} {d : Nat} (v1 : Int32) (v2 : Int32) (v3 : Int32) (v4 : Int32) (v5 : Int32) (σ : kw_M) {v : Option Value} {σ2 : kw_M} {o : (Int32 × kw_M) ⊕ (kw_M)} (h : bX10_free_92 v1 v2 v3 v4 v5 σ = some o) (hk : Sum.elim (fun s => kw_G E kwTM 21 (d + 2) μX10_free 92 [(0, .ref 0), (1, .int v1), (2, .int v2), (3, .int v3), (4, .int v4), (5, .int s.1)] [] s.2 v σ2) (fun y => kw_G E kwTM 21 (d + 2) μX10_free 207 [(0, .ref 0), (1, .int v1), (2, .int v2), (3, .int v3), (4, .int v4)] [] y v σ2) o) : kw_G E kwTM 21 (d + 2) μX10_free 92 [(0, .ref 0), (1, .int v1), (2, .int v2), (3, .int v3), (4, .int v4), (5, .int v5)] [] σ v σ2 := by
  unfold bX10_free_92 at h
  refine kg_iload 5 dX10_free_92 rfl (pc2 := 94) rfl ?_
  refine kg_iload_n 2 dX10_free_94 rfl (pc2 := 95) rfl ?_
  refine kg_icmp_gt 207 dX10_free_95 rfl (pc2 := 98) rfl (fun q17 => ?_) (fun q17 => ?_)
  · replace h := (if_pos q17).symm.trans h
    refine kg_sub [0, 1, 2, 3, 4] (lv2 := [(0, .ref 0), (1, .int v1), (2, .int v2), (3, .int v3), (4, .int v4)]) rfl ?_
    cases h
    exact hk
  · replace h := (if_neg q17).symm.trans h
    refine kg_aload_n 0 dX10_free_98 rfl (pc2 := 99) rfl ?_
    refine kg_iload 4 dX10_free_99 rfl (pc2 := 101) rfl ?_
    obtain ⟨r18, r18h, h⟩ := kw_bind_e h
    refine kg_callV (μ := μX10_free) (d := (d + 1)) rfl mVX10_isOpen [.int v4] [] (gX10_isOpen (E := E) (d := d) v4 σ r18h) rfl lmRX10_91 (ci := 10) rfl tM_0 eM_0 rfl (Nat.le_of_ble_eq_true rfl) dX10_free_101 rfl (st2 := [.int r18]) rfl (pc2 := 104) rfl ?_
    refine kg_if_eq 207 dX10_free_104 rfl (pc2 := 107) rfl (fun q19 => ?_) (fun q19 => ?_)
    · replace h := (if_pos q19).symm.trans h
      refine kg_sub [0, 1, 2, 3, 4] (lv2 := [(0, .ref 0), (1, .int v1), (2, .int v2), (3, .int v3), (4, .int v4)]) rfl ?_
      cases h
      exact hk
    · replace h := (if_neg q19).symm.trans h
      refine kg_aload_n 0 dX10_free_107 rfl (pc2 := 108) rfl ?_
      refine kg_getr clX10 rfl 27 (Nat.le_of_ble_eq_true rfl) lfRX10_61 tM_0 eM_0 rfl dX10_free_108 (pc2 := 111) rfl ?_
      refine kg_iconst dX10_free_111 ki_4 (pc2 := 112) rfl ?_
      refine kg_aload_n 0 dX10_free_112 rfl (pc2 := 113) rfl ?_
      refine kg_iload 4 dX10_free_113 rfl (pc2 := 115) rfl ?_
      refine kg_iconst dX10_free_115 ki_0 (pc2 := 116) rfl ?_
      obtain ⟨r20, r20h, h⟩ := kw_bind_e h
      refine kg_callV (μ := μX10_free) (d := (d + 1)) rfl mVX10_of [.int v4, .int (0 : Int32)] [.int (4 : Int32), .ref 17] (gX10_of (E := E) (d := (d + 1)) v4 (0 : Int32) σ r20h) rfl lmRX10_73 (ci := 10) rfl tM_0 eM_0 rfl (Nat.le_of_ble_eq_true rfl) dX10_free_116 rfl (st2 := [.int r20, .int (4 : Int32), .ref 17]) rfl (pc2 := 119) rfl ?_
      refine kg_imul dX10_free_119 (pc2 := 120) rfl ?_
      refine kg_iload 5 dX10_free_120 rfl (pc2 := 122) rfl ?_
      refine kg_iadd dX10_free_122 (pc2 := 123) rfl ?_
      obtain ⟨q21, h⟩ := kw_chk_e h
      refine kg_lald tM_17 eM_17 q21 (j := (((4 : Int32) * r20) + v5).toNatClampNeg) rfl dX10_free_123 (pc2 := 124) rfl ?_
      obtain ⟨x22, x22e, h⟩ := kw_let_e h
      refine kg_lstore dX10_free_124 (Nat.le_of_ble_eq_true rfl) x22e (lv2 := [(6, .long x22), (0, .ref 0), (1, .int v1), (2, .int v2), (3, .int v3), (4, .int v4), (5, .int v5)]) rfl (pc2 := 126) rfl ?_
      refine kg_lload 0 dX10_free_126 rfl (pc2 := 128) rfl ?_
      refine kg_ldc2 rfl lcRX10_89 dX10_free_128 (pc2 := 131) rfl ?_
      refine kg_lcmp_ne 138 dX10_free_131 dX10_free_132 rfl (pc2 := 135) rfl (fun q23 => ?_) (fun q23 => ?_)
      · replace h := (if_neg q23).symm.trans h
        refine kg_aload_n 1 dX10_free_138 rfl (pc2 := 139) rfl ?_
        refine kg_iconst dX10_free_139 ki_4 (pc2 := 140) rfl ?_
        refine kg_aload_n 1 dX10_free_140 rfl (pc2 := 141) rfl ?_
        refine kg_iload 5 dX10_free_141 rfl (pc2 := 143) rfl ?_
        refine kg_iconst dX10_free_143 ki_1 (pc2 := 144) rfl ?_
        obtain ⟨r24, r24h, h⟩ := kw_bind_e h
        refine kg_callV (μ := μX10_free) (d := (d + 1)) rfl mVX10_of [.int v4, .int (1 : Int32)] [.int (4 : Int32), .ref 0] (gX10_of (E := E) (d := (d + 1)) v4 (1 : Int32) σ r24h) rfl lmRX10_73 (ci := 10) rfl tM_0 eM_0 rfl (Nat.le_of_ble_eq_true rfl) dX10_free_144 rfl (st2 := [.int r24, .int (4 : Int32), .ref 0]) rfl (pc2 := 147) rfl ?_
        refine kg_imul dX10_free_147 (pc2 := 148) rfl ?_
        refine kg_iload 6 dX10_free_148 rfl (pc2 := 150) rfl ?_
        refine kg_iadd dX10_free_150 (pc2 := 151) rfl ?_
        refine kg_lload 0 dX10_free_151 rfl (pc2 := 153) rfl ?_
        refine kg_aload_n 1 dX10_free_153 rfl (pc2 := 154) rfl ?_
        refine kg_iload 5 dX10_free_154 rfl (pc2 := 156) rfl ?_
        refine kg_iconst dX10_free_156 ki_2 (pc2 := 157) rfl ?_
        obtain ⟨r25, r25h, h⟩ := kw_bind_e h
        refine kg_callV (μ := μX10_free) (d := (d + 1)) rfl mVX10_of [.int v4, .int (2 : Int32)] [.long x22, .int (((4 : Int32) * r24) + v5), .ref 0] (gX10_of (E := E) (d := (d + 1)) v4 (2 : Int32) σ r25h) rfl lmRX10_73 (ci := 10) rfl tM_0 eM_0 rfl (Nat.le_of_ble_eq_true rfl) dX10_free_157 rfl (st2 := [.int r25, .long x22, .int (((4 : Int32) * r24) + v5), .ref 0]) rfl (pc2 := 160) rfl ?_
        refine kg_i2l dX10_free_160 (pc2 := 161) rfl ?_
        refine kg_ladd dX10_free_161 (pc2 := 162) rfl ?_
        obtain ⟨r26, r26h, h⟩ := kw_bind_e h
        refine kg_callV (μ := μX10_free) (d := (d + 1)) rfl mVX10_offers [.int (((4 : Int32) * r24) + v5), .long (x22 + r25.toInt64)] [] (gX10_offers (E := E) (d := (d + 1)) (((4 : Int32) * r24) + v5) (x22 + r25.toInt64) σ r26h) rfl lmRX10_391 (ci := 10) rfl tM_0 eM_0 rfl (Nat.le_of_ble_eq_true rfl) dX10_free_162 rfl (st2 := []) rfl (pc2 := 165) rfl ?_
        refine kg_iload 6 dX10_free_165 rfl (pc2 := 167) rfl ?_
        refine kg_iload_n 3 dX10_free_167 rfl (pc2 := 168) rfl ?_
        refine kg_icmp_ge 201 dX10_free_168 rfl (pc2 := 171) rfl (fun q27 => ?_) (fun q27 => ?_)
        · replace h := (if_pos q27).symm.trans h
          obtain ⟨x28, x28e, h⟩ := kw_let_e h
          refine kg_iinc 6 dX10_free_201 rfl (Nat.le_of_ble_eq_true rfl) x28e (lv2 := [(5, .int x28), (6, .long x22), (0, .ref 0), (1, .int v1), (2, .int v2), (3, .int v3), (4, .int v4)]) rfl (pc2 := 204) rfl ?_
          refine kg_goto 92 dX10_free_204 rfl ?_
          refine kg_sub [2, 3, 4, 5, 6, 0] (lv2 := [(0, .ref 0), (1, .int v1), (2, .int v2), (3, .int v3), (4, .int v4), (5, .int x28)]) rfl ?_
          cases h
          exact hk
        · replace h := (if_neg q27).symm.trans h
          refine kg_aload_n 1 dX10_free_171 rfl (pc2 := 172) rfl ?_
          refine kg_iload 5 dX10_free_172 rfl (pc2 := 174) rfl ?_
          refine kg_iconst dX10_free_174 ki_2 (pc2 := 175) rfl ?_
          obtain ⟨r29, r29h, h⟩ := kw_bind_e h
          refine kg_callV (μ := μX10_free) (d := (d + 1)) rfl mVX10_of [.int v4, .int (2 : Int32)] [] (gX10_of (E := E) (d := (d + 1)) v4 (2 : Int32) r26 r29h) rfl lmRX10_73 (ci := 10) rfl tM_0 eM_0 rfl (Nat.le_of_ble_eq_true rfl) dX10_free_175 rfl (st2 := [.int r29]) rfl (pc2 := 178) rfl ?_
          refine kg_if_le 201 dX10_free_178 rfl (pc2 := 181) rfl (fun q30 => ?_) (fun q30 => ?_)
          · replace h := (if_pos q30).symm.trans h
            obtain ⟨x31, x31e, h⟩ := kw_let_e h
            refine kg_iinc 6 dX10_free_201 rfl (Nat.le_of_ble_eq_true rfl) x31e (lv2 := [(5, .int x31), (6, .long x22), (0, .ref 0), (1, .int v1), (2, .int v2), (3, .int v3), (4, .int v4)]) rfl (pc2 := 204) rfl ?_
            refine kg_goto 92 dX10_free_204 rfl ?_
            refine kg_sub [2, 3, 4, 5, 6, 0] (lv2 := [(0, .ref 0), (1, .int v1), (2, .int v2), (3, .int v3), (4, .int v4), (5, .int x31)]) rfl ?_
            cases h
            exact hk
          · replace h := (if_neg q30).symm.trans h
            refine kg_aload_n 1 dX10_free_181 rfl (pc2 := 182) rfl ?_
            refine kg_iconst dX10_free_182 ki_4 (pc2 := 183) rfl ?_
            refine kg_aload_n 1 dX10_free_183 rfl (pc2 := 184) rfl ?_
            refine kg_iload 5 dX10_free_184 rfl (pc2 := 186) rfl ?_
            refine kg_iconst dX10_free_186 ki_1 (pc2 := 187) rfl ?_
            obtain ⟨r32, r32h, h⟩ := kw_bind_e h
            refine kg_callV (μ := μX10_free) (d := (d + 1)) rfl mVX10_of [.int v4, .int (1 : Int32)] [.int (4 : Int32), .ref 0] (gX10_of (E := E) (d := (d + 1)) v4 (1 : Int32) r26 r32h) rfl lmRX10_73 (ci := 10) rfl tM_0 eM_0 rfl (Nat.le_of_ble_eq_true rfl) dX10_free_187 rfl (st2 := [.int r32, .int (4 : Int32), .ref 0]) rfl (pc2 := 190) rfl ?_
            refine kg_imul dX10_free_190 (pc2 := 191) rfl ?_
            refine kg_iload 6 dX10_free_191 rfl (pc2 := 193) rfl ?_
            refine kg_iadd dX10_free_193 (pc2 := 194) rfl ?_
            refine kg_iconst dX10_free_194 ki_1 (pc2 := 195) rfl ?_
            refine kg_iadd dX10_free_195 (pc2 := 196) rfl ?_
            refine kg_lload 0 dX10_free_196 rfl (pc2 := 198) rfl ?_
            obtain ⟨r33, r33h, h⟩ := kw_bind_e h
            refine kg_callV (μ := μX10_free) (d := (d + 1)) rfl mVX10_offers [.int ((((4 : Int32) * r32) + v5) + (1 : Int32)), .long x22] [] (gX10_offers (E := E) (d := (d + 1)) ((((4 : Int32) * r32) + v5) + (1 : Int32)) x22 r26 r33h) rfl lmRX10_391 (ci := 10) rfl tM_0 eM_0 rfl (Nat.le_of_ble_eq_true rfl) dX10_free_198 rfl (st2 := []) rfl (pc2 := 201) rfl ?_
            obtain ⟨x34, x34e, h⟩ := kw_let_e h
            refine kg_iinc 6 dX10_free_201 rfl (Nat.le_of_ble_eq_true rfl) x34e (lv2 := [(5, .int x34), (6, .long x22), (0, .ref 0), (1, .int v1), (2, .int v2), (3, .int v3), (4, .int v4)]) rfl (pc2 := 204) rfl ?_
            refine kg_goto 92 dX10_free_204 rfl ?_
            refine kg_sub [2, 3, 4, 5, 6, 0] (lv2 := [(0, .ref 0), (1, .int v1), (2, .int v2), (3, .int v3), (4, .int v4), (5, .int x34)]) rfl ?_
            cases h
            exact hk
      · replace h := (if_pos q23).symm.trans h
        refine kg_goto 201 dX10_free_135 rfl ?_
        obtain ⟨x35, x35e, h⟩ := kw_let_e h
        refine kg_iinc 6 dX10_free_201 rfl (Nat.le_of_ble_eq_true rfl) x35e (lv2 := [(5, .int x35), (6, .long x22), (0, .ref 0), (1, .int v1), (2, .int v2), (3, .int v3), (4, .int v4)]) rfl (pc2 := 204) rfl ?_
        refine kg_goto 92 dX10_free_204 rfl ?_
        refine kg_sub [2, 3, 4, 5, 6, 0] (lv2 := [(0, .ref 0), (1, .int v1), (2, .int v2), (3, .int v3), (4, .int v4), (5, .int x35)]) rfl ?_
        cases h
        exact hk
set_option maxHeartbeats 4000000 in
set_option maxRecDepth 100000 in
theorem lX10_free_78 {E : kw_E} {d : Nat} (v1 : Int32) (v2 : Int32) (v3 : Int32) (v4 : Int32) (σ : kw_M) {v : Option Value} {σ2 : kw_M} {o : (Int32 × kw_M) ⊕ (kw_M)} (h : bX10_free_78 v1 v2 v3 v4 σ = some o) (hk : Sum.elim (fun s => kw_G E kwTM 21 (d + 2) μX10_free 78 [(0, .ref 0), (1, .int v1), (2, .int v2), (3, .int v3), (4, .int s.1)] [] s.2 v σ2) (fun y => kw_G E kwTM 21 (d + 2) μX10_free 213 [(0, .ref 0), (1, .int v1), (2, .int v2), (3, .int v3)] [] y v σ2) o) : kw_G E kwTM 21 (d + 2) μX10_free 78 [(0, .ref 0), (1, .int v1), (2, .int v2), (3, .int v3), (4, .int v4)] [] σ v σ2 := by
  unfold bX10_free_78 at h
  refine kg_iload 4 dX10_free_78 rfl (pc2 := 80) rfl ?_
  refine kg_aload_n 0 dX10_free_80 rfl (pc2 := 81) rfl ?_
  refine kg_getr clX10 rfl 0 (Nat.le_of_ble_eq_true rfl) lfRX10_7 tM_0 eM_0 rfl dX10_free_81 (pc2 := 84) rfl ?_
  refine kg_iconst dX10_free_84 ki_1 (pc2 := 85) rfl ?_
  refine kg_iald tM_1 eM_1 (show kw_in (1 : Int32) 2832 by decide) (j := 1) (by decide) dX10_free_85 (pc2 := 86) rfl ?_
  refine kg_icmp_ge 213 dX10_free_86 rfl (pc2 := 89) rfl (fun q16 => ?_) (fun q16 => ?_)
  · replace h := (if_pos q16).symm.trans h
    refine kg_sub [0, 1, 2, 3] (lv2 := [(0, .ref 0), (1, .int v1), (2, .int v2), (3, .int v3)]) rfl ?_
    cases h
    exact hk
  · replace h := (if_neg q16).symm.trans h
    refine kg_iconst dX10_free_89 ki_0 (pc2 := 90) rfl ?_
    refine kg_istore dX10_free_90 (Nat.le_of_ble_eq_true rfl) rfl (lv2 := [(5, .int (0 : Int32)), (0, .ref 0), (1, .int v1), (2, .int v2), (3, .int v3), (4, .int v4)]) rfl (pc2 := 92) rfl ?_
    refine kg_sub [1, 2, 3, 4, 5, 0] (lv2 := [(0, .ref 0), (1, .int v1), (2, .int v2), (3, .int v3), (4, .int v4), (5, .int (0 : Int32))]) rfl ?_
    obtain ⟨x36, x36h, h⟩ := kw_bind_e h
    refine kw_loop_e (P := fun s => kw_G E kwTM 21 (d + 2) μX10_free 92 [(0, .ref 0), (1, .int v1), (2, .int v2), (3, .int v3), (4, .int v4), (5, .int s.1)] [] s.2 v σ2) (K := fun y => kw_G E kwTM 21 (d + 2) μX10_free 207 [(0, .ref 0), (1, .int v1), (2, .int v2), (3, .int v3), (4, .int v4)] [] y v σ2) (fun s o h0 hk => lX10_free_92 v1 v2 v3 v4 s.1 s.2 h0 hk) kw_F _ _ x36h ?_
    show kw_G E kwTM 21 (d + 2) μX10_free 207 [(0, .ref 0), (1, .int v1), (2, .int v2), (3, .int v3), (4, .int v4)] [] x36 v σ2
    obtain ⟨x37, x37e, h⟩ := kw_let_e h
    refine kg_iinc 4 dX10_free_207 rfl (Nat.le_of_ble_eq_true rfl) x37e (lv2 := [(4, .int x37), (0, .ref 0), (1, .int v1), (2, .int v2), (3, .int v3)]) rfl (pc2 := 210) rfl ?_
    refine kg_goto 78 dX10_free_210 rfl ?_
    refine kg_sub [1, 2, 3, 4, 0] (lv2 := [(0, .ref 0), (1, .int v1), (2, .int v2), (3, .int v3), (4, .int x37)]) rfl ?_
    cases h
    exact hk
set_option maxHeartbeats 4000000 in
set_option maxRecDepth 100000 in
theorem lX10_free_65 {E : kw_E} {d : Nat} (v1 : Int32) (v2 : Int32) (v3 : Int32) (σ : kw_M) {v : Option Value} {σ2 : kw_M} {o : (Int32 × kw_M) ⊕ (kw_M)} (h : bX10_free_65 v1 v2 v3 σ = some o) (hk : Sum.elim (fun s => kw_G E kwTM 21 (d + 2) μX10_free 65 [(0, .ref 0), (1, .int v1), (2, .int v2), (3, .int s.1)] [] s.2 v σ2) (fun y => kw_G E kwTM 21 (d + 2) μX10_free 219 [(0, .ref 0), (1, .int v1), (2, .int v2)] [] y v σ2) o) : kw_G E kwTM 21 (d + 2) μX10_free 65 [(0, .ref 0), (1, .int v1), (2, .int v2), (3, .int v3)] [] σ v σ2 := by
  unfold bX10_free_65 at h
  refine kg_iload_n 3 dX10_free_65 rfl (pc2 := 66) rfl ?_
  refine kg_iconst dX10_free_66 ki_4 (pc2 := 67) rfl ?_
  refine kg_aload_n 0 dX10_free_67 rfl (pc2 := 68) rfl ?_
  obtain ⟨r14, r14h, h⟩ := kw_bind_e h
  refine kg_callV (μ := μX10_free) (d := (d + 1)) rfl mVX10_towns [] [.int (4 : Int32), .int v3] (gX10_towns (E := E) (d := (d + 1)) σ r14h) rfl lmRX10_77 (ci := 10) rfl tM_0 eM_0 rfl (Nat.le_of_ble_eq_true rfl) dX10_free_68 rfl (st2 := [.int r14, .int (4 : Int32), .int v3]) rfl (pc2 := 71) rfl ?_
  refine kg_imul dX10_free_71 (pc2 := 72) rfl ?_
  refine kg_icmp_ge 219 dX10_free_72 rfl (pc2 := 75) rfl (fun q15 => ?_) (fun q15 => ?_)
  · replace h := (if_pos q15).symm.trans h
    refine kg_sub [0, 1, 2] (lv2 := [(0, .ref 0), (1, .int v1), (2, .int v2)]) rfl ?_
    cases h
    exact hk
  · replace h := (if_neg q15).symm.trans h
    refine kg_iconst dX10_free_75 ki_0 (pc2 := 76) rfl ?_
    refine kg_istore dX10_free_76 (Nat.le_of_ble_eq_true rfl) rfl (lv2 := [(4, .int (0 : Int32)), (0, .ref 0), (1, .int v1), (2, .int v2), (3, .int v3)]) rfl (pc2 := 78) rfl ?_
    refine kg_sub [1, 2, 3, 4, 0] (lv2 := [(0, .ref 0), (1, .int v1), (2, .int v2), (3, .int v3), (4, .int (0 : Int32))]) rfl ?_
    obtain ⟨x38, x38h, h⟩ := kw_bind_e h
    refine kw_loop_e (P := fun s => kw_G E kwTM 21 (d + 2) μX10_free 78 [(0, .ref 0), (1, .int v1), (2, .int v2), (3, .int v3), (4, .int s.1)] [] s.2 v σ2) (K := fun y => kw_G E kwTM 21 (d + 2) μX10_free 213 [(0, .ref 0), (1, .int v1), (2, .int v2), (3, .int v3)] [] y v σ2) (fun s o h0 hk => lX10_free_78 v1 v2 v3 s.1 s.2 h0 hk) kw_F _ _ x38h ?_
    show kw_G E kwTM 21 (d + 2) μX10_free 213 [(0, .ref 0), (1, .int v1), (2, .int v2), (3, .int v3)] [] x38 v σ2
    obtain ⟨x39, x39e, h⟩ := kw_let_e h
    refine kg_iinc 3 dX10_free_213 rfl (Nat.le_of_ble_eq_true rfl) x39e (lv2 := [(3, .int x39), (0, .ref 0), (1, .int v1), (2, .int v2)]) rfl (pc2 := 216) rfl ?_
    refine kg_goto 65 dX10_free_216 rfl ?_
    refine kg_sub [1, 2, 3, 0] (lv2 := [(0, .ref 0), (1, .int v1), (2, .int v2), (3, .int x39)]) rfl ?_
    cases h
    exact hk
set_option maxHeartbeats 4000000 in
set_option maxRecDepth 100000 in
theorem lX10_free_226 {E : kw_E} {d : Nat} (v1 : Int32) (v2 : Int32) (σ : kw_M) (v3 : Int64) (v5 : Int32) {v : Option Value} {σ2 : kw_M} {o : (Int64 × Int32) ⊕ (Int64)} (h : bX10_free_226 v1 v2 σ v3 v5 = some o) (hk : Sum.elim (fun s => kw_G E kwTM 21 (d + 2) μX10_free 226 [(0, .ref 0), (1, .int v1), (2, .int v2), (3, .long s.1), (5, .int s.2)] [] σ v σ2) (fun y => kw_G E kwTM 21 (d + 2) μX10_free 266 [(3, .long y)] [] σ v σ2) o) : kw_G E kwTM 21 (d + 2) μX10_free 226 [(0, .ref 0), (1, .int v1), (2, .int v2), (3, .long v3), (5, .int v5)] [] σ v σ2 := by
  unfold bX10_free_226 at h
  refine kg_iload 4 dX10_free_226 rfl (pc2 := 228) rfl ?_
  refine kg_iload_n 2 dX10_free_228 rfl (pc2 := 229) rfl ?_
  refine kg_icmp_gt 266 dX10_free_229 rfl (pc2 := 232) rfl (fun q41 => ?_) (fun q41 => ?_)
  · replace h := (if_pos q41).symm.trans h
    refine kg_sub [3] (lv2 := [(3, .long v3)]) rfl ?_
    cases h
    exact hk
  · replace h := (if_neg q41).symm.trans h
    refine kg_aload_n 0 dX10_free_232 rfl (pc2 := 233) rfl ?_
    refine kg_getr clX10 rfl 27 (Nat.le_of_ble_eq_true rfl) lfRX10_61 tM_0 eM_0 rfl dX10_free_233 (pc2 := 236) rfl ?_
    refine kg_iconst dX10_free_236 ki_4 (pc2 := 237) rfl ?_
    refine kg_iload_n 1 dX10_free_237 rfl (pc2 := 238) rfl ?_
    refine kg_imul dX10_free_238 (pc2 := 239) rfl ?_
    refine kg_iload 4 dX10_free_239 rfl (pc2 := 241) rfl ?_
    refine kg_iadd dX10_free_241 (pc2 := 242) rfl ?_
    obtain ⟨q42, h⟩ := kw_chk_e h
    refine kg_lald tM_17 eM_17 q42 (j := (((4 : Int32) * v1) + v5).toNatClampNeg) rfl dX10_free_242 (pc2 := 243) rfl ?_
    refine kg_lload_n 3 dX10_free_243 rfl (pc2 := 244) rfl ?_
    refine kg_lcmp_ge 260 dX10_free_244 dX10_free_245 rfl (pc2 := 248) rfl (fun q43 => ?_) (fun q43 => ?_)
    · replace h := (if_pos q43).symm.trans h
      obtain ⟨x44, x44e, h⟩ := kw_let_e h
      refine kg_iinc 4 dX10_free_260 rfl (Nat.le_of_ble_eq_true rfl) x44e (lv2 := [(5, .int x44), (0, .ref 0), (1, .int v1), (2, .int v2), (3, .long v3)]) rfl (pc2 := 263) rfl ?_
      refine kg_goto 226 dX10_free_263 rfl ?_
      refine kg_sub [1, 2, 3, 4, 0] (lv2 := [(0, .ref 0), (1, .int v1), (2, .int v2), (3, .long v3), (5, .int x44)]) rfl ?_
      cases h
      exact hk
    · replace h := (if_neg q43).symm.trans h
      refine kg_aload_n 0 dX10_free_248 rfl (pc2 := 249) rfl ?_
      refine kg_getr clX10 rfl 27 (Nat.le_of_ble_eq_true rfl) lfRX10_61 tM_0 eM_0 rfl dX10_free_249 (pc2 := 252) rfl ?_
      refine kg_iconst dX10_free_252 ki_4 (pc2 := 253) rfl ?_
      refine kg_iload_n 1 dX10_free_253 rfl (pc2 := 254) rfl ?_
      refine kg_imul dX10_free_254 (pc2 := 255) rfl ?_
      refine kg_iload 4 dX10_free_255 rfl (pc2 := 257) rfl ?_
      refine kg_iadd dX10_free_257 (pc2 := 258) rfl ?_
      refine kg_lald tM_17 eM_17 q42 (j := (((4 : Int32) * v1) + v5).toNatClampNeg) rfl dX10_free_258 (pc2 := 259) rfl ?_
      obtain ⟨x45, x45e, h⟩ := kw_let_e h
      refine kg_lstore_n dX10_free_259 rfl (Nat.le_of_ble_eq_true rfl) x45e (lv2 := [(3, .long x45), (0, .ref 0), (1, .int v1), (2, .int v2), (5, .int v5)]) rfl (pc2 := 260) rfl ?_
      obtain ⟨x46, x46e, h⟩ := kw_let_e h
      refine kg_iinc 4 dX10_free_260 rfl (Nat.le_of_ble_eq_true rfl) x46e (lv2 := [(5, .int x46), (3, .long x45), (0, .ref 0), (1, .int v1), (2, .int v2)]) rfl (pc2 := 263) rfl ?_
      refine kg_goto 226 dX10_free_263 rfl ?_
      refine kg_sub [2, 3, 4, 1, 0] (lv2 := [(0, .ref 0), (1, .int v1), (2, .int v2), (3, .long x45), (5, .int x46)]) rfl ?_
      cases h
      exact hk
set_option maxHeartbeats 4000000 in
set_option maxRecDepth 100000 in
theorem gX10_free {E : kw_E} {d : Nat} (a1 : Int32) (a2 : Int32) (σ : kw_M) {r : Int64 × kw_M} (h : fX10_free a1 a2 σ = some r) : kw_Met E kwTM 21 (d + 2) μX10_free [.ref 0, .int a1, .int a2] σ (some (Value.long r.1)) r.2 := by
  refine kw_enter plRX10 (Nat.le_of_ble_eq_true rfl) ?_
  show kw_G E kwTM 21 (d + 2) μX10_free 0 [(0, .ref 0), (1, .int a1), (2, .int a2)] [] σ (some (Value.long r.1)) r.2
  unfold fX10_free at h
  refine kg_aload_n 0 dX10_free_0 rfl (pc2 := 1) rfl ?_
  refine kg_iload_n 1 dX10_free_1 rfl (pc2 := 2) rfl ?_
  obtain ⟨r1, r1h, h⟩ := kw_bind_e h
  refine kg_callV (μ := μX10_free) (d := (d + 1)) rfl mVX10_isTown [.int a1] [] (gX10_isTown (E := E) (d := d) a1 σ r1h) rfl lmRX10_121 (ci := 10) rfl tM_0 eM_0 rfl (Nat.le_of_ble_eq_true rfl) dX10_free_2 rfl (st2 := [.int r1]) rfl (pc2 := 5) rfl ?_
  refine kg_if_eq 20 dX10_free_5 rfl (pc2 := 8) rfl (fun q2 => ?_) (fun q2 => ?_)
  · replace h := (if_pos q2).symm.trans h
    refine kg_ldc2 rfl lcRX10_99 dX10_free_20 (pc2 := 23) rfl ?_
    cases h
    exact kg_lret dX10_free_23 rfl
  · replace h := (if_neg q2).symm.trans h
    refine kg_iload_n 2 dX10_free_8 rfl (pc2 := 9) rfl ?_
    refine kg_i2l dX10_free_9 (pc2 := 10) rfl ?_
    refine kg_lconst dX10_free_10 kl_0 (pc2 := 11) rfl ?_
    refine kg_ldc2 rfl lcRX10_389 dX10_free_11 (pc2 := 14) rfl ?_
    obtain ⟨r3, r3h, h⟩ := kw_bind_e h
    refine kg_callS (μ := μX10_free) (d := (d + 1)) rfl mSX10_in [.long a2.toInt64, .long (0 : Int64), .long (3 : Int64)] [] (gX10_in (E := E) (d := (d + 1)) a2.toInt64 (0 : Int64) (3 : Int64) σ r3h) rfl lmRX10_81 rfl (Nat.le_of_ble_eq_true rfl) dX10_free_14 rfl (st2 := [.int r3]) rfl (pc2 := 17) rfl ?_
    refine kg_if_ne 24 dX10_free_17 rfl (pc2 := 20) rfl (fun q4 => ?_) (fun q4 => ?_)
    · replace h := (if_neg q4).symm.trans h
      refine kg_iconst dX10_free_24 ki_0 (pc2 := 25) rfl ?_
      refine kg_istore_n dX10_free_25 rfl (Nat.le_of_ble_eq_true rfl) rfl (lv2 := [(3, .int (0 : Int32)), (0, .ref 0), (1, .int a1), (2, .int a2)]) rfl (pc2 := 26) rfl ?_
      refine kg_sub [1, 2, 3, 0] (lv2 := [(0, .ref 0), (1, .int a1), (2, .int a2), (3, .int (0 : Int32))]) rfl ?_
      obtain ⟨x13, x13h, h⟩ := kw_bind_e h
      refine kw_loop_e (P := fun s => kw_G E kwTM 21 (d + 2) μX10_free 26 [(0, .ref 0), (1, .int a1), (2, .int a2), (3, .int s.1)] [] s.2 (some (Value.long r.1)) r.2) (K := fun y => kw_G E kwTM 21 (d + 2) μX10_free 63 [(0, .ref 0), (1, .int a1), (2, .int a2)] [] y (some (Value.long r.1)) r.2) (fun s o h0 hk => lX10_free_26 a1 a2 s.1 s.2 h0 hk) kw_F _ _ x13h ?_
      show kw_G E kwTM 21 (d + 2) μX10_free 63 [(0, .ref 0), (1, .int a1), (2, .int a2)] [] x13 (some (Value.long r.1)) r.2
      refine kg_iconst dX10_free_63 ki_0 (pc2 := 64) rfl ?_
      refine kg_istore_n dX10_free_64 rfl (Nat.le_of_ble_eq_true rfl) rfl (lv2 := [(3, .int (0 : Int32)), (0, .ref 0), (1, .int a1), (2, .int a2)]) rfl (pc2 := 65) rfl ?_
      refine kg_sub [1, 2, 3, 0] (lv2 := [(0, .ref 0), (1, .int a1), (2, .int a2), (3, .int (0 : Int32))]) rfl ?_
      obtain ⟨x40, x40h, h⟩ := kw_bind_e h
      refine kw_loop_e (P := fun s => kw_G E kwTM 21 (d + 2) μX10_free 65 [(0, .ref 0), (1, .int a1), (2, .int a2), (3, .int s.1)] [] s.2 (some (Value.long r.1)) r.2) (K := fun y => kw_G E kwTM 21 (d + 2) μX10_free 219 [(0, .ref 0), (1, .int a1), (2, .int a2)] [] y (some (Value.long r.1)) r.2) (fun s o h0 hk => lX10_free_65 a1 a2 s.1 s.2 h0 hk) kw_F _ _ x40h ?_
      show kw_G E kwTM 21 (d + 2) μX10_free 219 [(0, .ref 0), (1, .int a1), (2, .int a2)] [] x40 (some (Value.long r.1)) r.2
      refine kg_ldc2 rfl lcRX10_89 dX10_free_219 (pc2 := 222) rfl ?_
      refine kg_lstore_n dX10_free_222 rfl (Nat.le_of_ble_eq_true rfl) rfl (lv2 := [(3, .long (900000000000000000 : Int64)), (0, .ref 0), (1, .int a1), (2, .int a2)]) rfl (pc2 := 223) rfl ?_
      refine kg_iconst dX10_free_223 ki_0 (pc2 := 224) rfl ?_
      refine kg_istore dX10_free_224 (Nat.le_of_ble_eq_true rfl) rfl (lv2 := [(5, .int (0 : Int32)), (3, .long (900000000000000000 : Int64)), (0, .ref 0), (1, .int a1), (2, .int a2)]) rfl (pc2 := 226) rfl ?_
      refine kg_sub [2, 3, 4, 1, 0] (lv2 := [(0, .ref 0), (1, .int a1), (2, .int a2), (3, .long (900000000000000000 : Int64)), (5, .int (0 : Int32))]) rfl ?_
      obtain ⟨x47, x47h, h⟩ := kw_bind_e h
      refine kw_loop_e (P := fun s => kw_G E kwTM 21 (d + 2) μX10_free 226 [(0, .ref 0), (1, .int a1), (2, .int a2), (3, .long s.1), (5, .int s.2)] [] x40 (some (Value.long r.1)) r.2) (K := fun y => kw_G E kwTM 21 (d + 2) μX10_free 266 [(3, .long y)] [] x40 (some (Value.long r.1)) r.2) (fun s o h0 hk => lX10_free_226 a1 a2 x40 s.1 s.2 h0 hk) kw_F _ _ x47h ?_
      show kw_G E kwTM 21 (d + 2) μX10_free 266 [(3, .long x47)] [] x40 (some (Value.long r.1)) r.2
      refine kg_lload_n 0 dX10_free_266 rfl (pc2 := 267) rfl ?_
      obtain ⟨r48, r48h, h⟩ := kw_bind_e h
      refine kg_callS (μ := μX10_free) (d := (d + 1)) rfl mSX10_told [.long x47] [] (gX10_told (E := E) (d := (d + 1)) x47 x40 r48h) rfl lmRX10_336 rfl (Nat.le_of_ble_eq_true rfl) dX10_free_267 rfl (st2 := [.long r48]) rfl (pc2 := 270) rfl ?_
      cases h
      exact kg_lret dX10_free_270 rfl
    · replace h := (if_pos q4).symm.trans h
      refine kg_ldc2 rfl lcRX10_99 dX10_free_20 (pc2 := 23) rfl ?_
      cases h
      exact kg_lret dX10_free_23 rfl
