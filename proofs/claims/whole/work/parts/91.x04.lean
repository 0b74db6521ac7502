/-! The class, method by method: the machine does what f says (g). -/
set_option maxHeartbeats 4000000 in
set_option maxRecDepth 100000 in
theorem gX9_forgetTown {E : kw_E} {d : Nat} (a1 : Int32) (σ : kw_M) {r : Int32 × kw_M} (h : fX9_forgetTown a1 σ = some r) : kw_Met E kwTX 48 (d + 1) μX9_forgetTown [.ref 0, .int a1] σ (some (Value.int r.1)) r.2 := by
  refine kw_enter plRX9 (Nat.le_of_ble_eq_true rfl) ?_
  show kw_G E kwTX 48 (d + 1) μX9_forgetTown 0 [(0, .ref 0), (1, .int a1)] [] σ (some (Value.int r.1)) r.2
  unfold fX9_forgetTown at h
  refine kg_aload_n 0 dX9_forgetTown_0 rfl (pc2 := 1) rfl ?_
  refine kg_getr clX9 rfl 0 (Nat.le_of_ble_eq_true rfl) lfRX9_10 tX_0 eX_0 rfl dX9_forgetTown_1 (pc2 := 4) rfl ?_
  refine kg_getr clX7 rfl 0 (Nat.le_of_ble_eq_true rfl) lfRX9_148 tX_1 eX_1 rfl dX9_forgetTown_4 (pc2 := 7) rfl ?_
  refine kg_iload_n 1 dX9_forgetTown_7 rfl (pc2 := 8) rfl ?_
  obtain ⟨r1, r1h, h⟩ := kw_bind_e h
  refine kg_callV (μ := μX9_forgetTown) (d := d) rfl mVX4_hasTown [.int a1] [] (gX4_hasTown (E := E) (d := d) a1 σ r1h) rfl lmRX9_176 (ci := 4) rfl tX_12 eX_12 rfl (Nat.le_of_ble_eq_true rfl) dX9_forgetTown_8 rfl (st2 := [.int r1]) rfl (pc2 := 11) rfl ?_
  refine kg_if_eq 25 dX9_forgetTown_11 rfl (pc2 := 14) rfl (fun q2 => ?_) (fun q2 => ?_)
  · replace h := (if_pos q2).symm.trans h
    refine kg_iconst dX9_forgetTown_25 ki_0 (pc2 := 26) rfl ?_
    cases h
    exact kg_iret (ty := .boolean) dX9_forgetTown_26 rfl rfl
  · replace h := (if_neg q2).symm.trans h
    refine kg_aload_n 0 dX9_forgetTown_14 rfl (pc2 := 15) rfl ?_
    refine kg_getr clX9 rfl 0 (Nat.le_of_ble_eq_true rfl) lfRX9_10 tX_0 eX_0 rfl dX9_forgetTown_15 (pc2 := 18) rfl ?_
    refine kg_iload_n 1 dX9_forgetTown_18 rfl (pc2 := 19) rfl ?_
    obtain ⟨r3, r3h, h⟩ := kw_bind_e h
    refine kg_callV (μ := μX9_forgetTown) (d := d) rfl mVX7_isWatched [.int a1] [] (gX7_isWatched (E := E) (d := d) a1 σ r3h) rfl lmRX9_315 (ci := 7) rfl tX_1 eX_1 rfl (Nat.le_of_ble_eq_true rfl) dX9_forgetTown_19 rfl (st2 := [.int r3]) rfl (pc2 := 22) rfl ?_
    refine kg_if_ne 27 dX9_forgetTown_22 rfl (pc2 := 25) rfl (fun q4 => ?_) (fun q4 => ?_)
    · replace h := (if_neg q4).symm.trans h
      refine kg_aload_n 0 dX9_forgetTown_27 rfl (pc2 := 28) rfl ?_
      refine kg_getr clX9 rfl 0 (Nat.le_of_ble_eq_true rfl) lfRX9_10 tX_0 eX_0 rfl dX9_forgetTown_28 (pc2 := 31) rfl ?_
      refine kg_dup dX9_forgetTown_31 rfl (pc2 := 32) rfl ?_
      refine kg_geti clX7 rfl 5 (Nat.le_of_ble_eq_true rfl) lfRX9_245 tX_1 eX_1 rfl dX9_forgetTown_32 (pc2 := 35) rfl ?_
      refine kg_iconst dX9_forgetTown_35 ki_1 (pc2 := 36) rfl ?_
      refine kg_iload_n 1 dX9_forgetTown_36 rfl (pc2 := 37) rfl ?_
      refine kg_ishl dX9_forgetTown_37 (pc2 := 38) rfl ?_
      refine kg_iconst dX9_forgetTown_38 ki_m1 (pc2 := 39) rfl ?_
      refine kg_ixor dX9_forgetTown_39 (pc2 := 40) rfl ?_
      refine kg_iand dX9_forgetTown_40 (pc2 := 41) rfl ?_
      obtain ⟨s5, s5e, h⟩ := kw_let_e h
      refine kg_puti clX7 rfl 5 (Nat.le_of_ble_eq_true rfl) lfRX9_245 rfl tX_1 eX_1 rfl (ty := .int) (by decide +kernel) rfl rfl s5e dX9_forgetTown_41 (pc2 := 44) rfl ?_
      refine kg_iconst dX9_forgetTown_44 ki_1 (pc2 := 45) rfl ?_
      cases h
      exact kg_iret (ty := .boolean) dX9_forgetTown_45 rfl rfl
    · replace h := (if_pos q4).symm.trans h
      refine kg_iconst dX9_forgetTown_25 ki_0 (pc2 := 26) rfl ?_
      cases h
      exact kg_iret (ty := .boolean) dX9_forgetTown_26 rfl rfl
set_option maxHeartbeats 4000000 in
set_option maxRecDepth 100000 in
theorem gX9_doOrder {E : kw_E} {d : Nat} (a1 : Int32) (σ : kw_M) {r : Int32 × kw_M} (h : fX9_doOrder a1 σ = some r) : kw_Met E kwTX 48 (d + 6) μX9_doOrder [.ref 0, .int a1] σ (some (Value.int r.1)) r.2 := by
  refine kw_enter plRX9 (Nat.le_of_ble_eq_true rfl) ?_
  show kw_G E kwTX 48 (d + 6) μX9_doOrder 0 [(0, .ref 0), (1, .int a1)] [] σ (some (Value.int r.1)) r.2
  unfold fX9_doOrder at h
  refine kg_aload_n 0 dX9_doOrder_0 rfl (pc2 := 1) rfl ?_
  refine kg_getr clX9 rfl 4 (Nat.le_of_ble_eq_true rfl) lfRX9_29 tX_0 eX_0 rfl dX9_doOrder_1 (pc2 := 4) rfl ?_
  refine kg_iload_n 1 dX9_doOrder_4 rfl (pc2 := 5) rfl ?_
  refine kg_iconst dX9_doOrder_5 ki_0 (pc2 := 6) rfl ?_
  obtain ⟨r1, r1h, h⟩ := kw_bind_e h
  refine kg_callV (μ := μX9_doOrder) (d := (d + 5)) rfl mVX3_number [.int a1, .int (0 : Int32)] [] (gX3_number (E := E) (d := (d + 5)) a1 (0 : Int32) σ r1h) rfl lmRX9_115 (ci := 3) rfl tX_4 eX_4 rfl (Nat.le_of_ble_eq_true rfl) dX9_doOrder_6 rfl (st2 := [.int r1]) rfl (pc2 := 9) rfl ?_
  refine kg_istore_n dX9_doOrder_9 rfl (Nat.le_of_ble_eq_true rfl) rfl (lv2 := [(2, .int r1), (0, .ref 0), (1, .int a1)]) rfl (pc2 := 10) rfl ?_
  refine kg_aload_n 1 dX9_doOrder_10 rfl (pc2 := 11) rfl ?_
  refine kg_getr clX9 rfl 4 (Nat.le_of_ble_eq_true rfl) lfRX9_29 tX_0 eX_0 rfl dX9_doOrder_11 (pc2 := 14) rfl ?_
  refine kg_iload_n 2 dX9_doOrder_14 rfl (pc2 := 15) rfl ?_
  refine kg_iconst dX9_doOrder_15 ki_1 (pc2 := 16) rfl ?_
  obtain ⟨r2, r2h, h⟩ := kw_bind_e h
  refine kg_callV (μ := μX9_doOrder) (d := (d + 5)) rfl mVX3_number [.int a1, .int (1 : Int32)] [] (gX3_number (E := E) (d := (d + 5)) a1 (1 : Int32) σ r2h) rfl lmRX9_115 (ci := 3) rfl tX_4 eX_4 rfl (Nat.le_of_ble_eq_true rfl) dX9_doOrder_16 rfl (st2 := [.int r2]) rfl (pc2 := 19) rfl ?_
  refine kg_istore_n dX9_doOrder_19 rfl (Nat.le_of_ble_eq_true rfl) rfl (lv2 := [(3, .int r2), (2, .int r1), (0, .ref 0), (1, .int a1)]) rfl (pc2 := 20) rfl ?_
  refine kg_aload_n 2 dX9_doOrder_20 rfl (pc2 := 21) rfl ?_
  refine kg_getr clX9 rfl 4 (Nat.le_of_ble_eq_true rfl) lfRX9_29 tX_0 eX_0 rfl dX9_doOrder_21 (pc2 := 24) rfl ?_
  refine kg_getr clX3 rfl 2 (Nat.le_of_ble_eq_true rfl) lfRX9_112 tX_4 eX_4 rfl dX9_doOrder_24 (pc2 := 27) rfl ?_
  refine kg_iload_n 3 dX9_doOrder_27 rfl (pc2 := 28) rfl ?_
  obtain ⟨q3, h⟩ := kw_chk_e h
  refine kg_iald tX_36 eX_36 q3 (j := a1.toNatClampNeg) rfl dX9_doOrder_28 (pc2 := 29) rfl ?_
  by_cases q4 : (σ.1 36 a1.toNatClampNeg) = (2 : Int32)
  · replace h := (if_pos q4).symm.trans h
    refine kg_tsIn (off := 43) 72 dX9_doOrder_29 (by rw [q4]; decide) (by rw [q4]; decide) (by rw [q4]; decide) rfl ?_
    refine kg_aload_n 2 dX9_doOrder_72 rfl (pc2 := 73) rfl ?_
    refine kg_iload_n 1 dX9_doOrder_73 rfl (pc2 := 74) rfl ?_
    refine kg_iload_n 0 dX9_doOrder_74 rfl (pc2 := 75) rfl ?_
    refine kg_aload_n 2 dX9_doOrder_75 rfl (pc2 := 76) rfl ?_
    refine kg_getr clX9 rfl 4 (Nat.le_of_ble_eq_true rfl) lfRX9_29 tX_0 eX_0 rfl dX9_doOrder_76 (pc2 := 79) rfl ?_
    refine kg_iload_n 3 dX9_doOrder_79 rfl (pc2 := 80) rfl ?_
    refine kg_iconst dX9_doOrder_80 ki_2 (pc2 := 81) rfl ?_
    obtain ⟨r5, r5h, h⟩ := kw_bind_e h
    refine kg_callV (μ := μX9_doOrder) (d := (d + 5)) rfl mVX3_number [.int a1, .int (2 : Int32)] [.int r2, .int r1, .ref 0] (gX3_number (E := E) (d := (d + 5)) a1 (2 : Int32) σ r5h) rfl lmRX9_115 (ci := 3) rfl tX_4 eX_4 rfl (Nat.le_of_ble_eq_true rfl) dX9_doOrder_81 rfl (st2 := [.int r5, .int r2, .int r1, .ref 0]) rfl (pc2 := 84) rfl ?_
    obtain ⟨r6, r6h, h⟩ := kw_bind_e h
    refine kg_callV (μ := μX9_doOrder) (d := (d + 5)) rfl mVX9_layRoad [.int r1, .int r2, .int r5] [] (gX9_layRoad (E := E) (d := d) r1 r2 r5 σ r6h) rfl lmRX9_156 (ci := 9) rfl tX_0 eX_0 rfl (Nat.le_of_ble_eq_true rfl) dX9_doOrder_84 rfl (st2 := [.int r6.1]) rfl (pc2 := 87) rfl ?_
    refine kg_if_lt 94 dX9_doOrder_87 rfl (pc2 := 90) rfl (fun q7 => ?_) (fun q7 => ?_)
    · replace h := (if_pos q7).symm.trans h
      refine kg_iconst dX9_doOrder_94 ki_0 (pc2 := 95) rfl ?_
      cases h
      exact kg_iret (ty := .boolean) dX9_doOrder_95 rfl rfl
    · replace h := (if_neg q7).symm.trans h
      refine kg_iconst dX9_doOrder_90 ki_1 (pc2 := 91) rfl ?_
      refine kg_goto 95 dX9_doOrder_91 rfl ?_
      cases h
      exact kg_iret (ty := .boolean) dX9_doOrder_95 rfl rfl
  · replace h := (if_neg q4).symm.trans h
    by_cases q8 : (σ.1 36 a1.toNatClampNeg) = (3 : Int32)
    · replace h := (if_pos q8).symm.trans h
      refine kg_tsIn (off := 67) 96 dX9_doOrder_29 (by rw [q8]; decide) (by rw [q8]; decide) (by rw [q8]; decide) rfl ?_
      refine kg_aload_n 2 dX9_doOrder_96 rfl (pc2 := 97) rfl ?_
      refine kg_iload_n 1 dX9_doOrder_97 rfl (pc2 := 98) rfl ?_
      refine kg_iload_n 0 dX9_doOrder_98 rfl (pc2 := 99) rfl ?_
      obtain ⟨r9, r9h, h⟩ := kw_bind_e h
      refine kg_callV (μ := μX9_doOrder) (d := (d + 5)) rfl mVX9_changeLength [.int r1, .int r2] [] (gX9_changeLength (E := E) (d := d) r1 r2 σ r9h) rfl lmRX9_159 (ci := 9) rfl tX_0 eX_0 rfl (Nat.le_of_ble_eq_true rfl) dX9_doOrder_99 rfl (st2 := [.int r9.1]) rfl (pc2 := 102) rfl ?_
      refine kg_if_lt 109 dX9_doOrder_102 rfl (pc2 := 105) rfl (fun q10 => ?_) (fun q10 => ?_)
      · replace h := (if_pos q10).symm.trans h
        refine kg_iconst dX9_doOrder_109 ki_0 (pc2 := 110) rfl ?_
        cases h
        exact kg_iret (ty := .boolean) dX9_doOrder_110 rfl rfl
      · replace h := (if_neg q10).symm.trans h
        refine kg_iconst dX9_doOrder_105 ki_1 (pc2 := 106) rfl ?_
        refine kg_goto 110 dX9_doOrder_106 rfl ?_
        cases h
        exact kg_iret (ty := .boolean) dX9_doOrder_110 rfl rfl
    · replace h := (if_neg q8).symm.trans h
      by_cases q11 : (σ.1 36 a1.toNatClampNeg) = (4 : Int32)
      · replace h := (if_pos q11).symm.trans h
        refine kg_tsIn (off := 82) 111 dX9_doOrder_29 (by rw [q11]; decide) (by rw [q11]; decide) (by rw [q11]; decide) rfl ?_
        refine kg_aload_n 2 dX9_doOrder_111 rfl (pc2 := 112) rfl ?_
        refine kg_iload_n 1 dX9_doOrder_112 rfl (pc2 := 113) rfl ?_
        refine kg_iconst dX9_doOrder_113 ki_0 (pc2 := 114) rfl ?_
        obtain ⟨r12, r12h, h⟩ := kw_bind_e h
        refine kg_callV (μ := μX9_doOrder) (d := (d + 5)) rfl mVX9_turnRoad [.int r1, .int (0 : Int32)] [] (gX9_turnRoad (E := E) (d := d) r1 (0 : Int32) σ r12h) rfl lmRX9_162 (ci := 9) rfl tX_0 eX_0 rfl (Nat.le_of_ble_eq_true rfl) dX9_doOrder_114 rfl (st2 := [.int r12.1]) rfl (pc2 := 117) rfl ?_
        refine kg_if_lt 124 dX9_doOrder_117 rfl (pc2 := 120) rfl (fun q13 => ?_) (fun q13 => ?_)
        · replace h := (if_pos q13).symm.trans h
          refine kg_iconst dX9_doOrder_124 ki_0 (pc2 := 125) rfl ?_
          cases h
          exact kg_iret (ty := .boolean) dX9_doOrder_125 rfl rfl
        · replace h := (if_neg q13).symm.trans h
          refine kg_iconst dX9_doOrder_120 ki_1 (pc2 := 121) rfl ?_
          refine kg_goto 125 dX9_doOrder_121 rfl ?_
          cases h
          exact kg_iret (ty := .boolean) dX9_doOrder_125 rfl rfl
      · replace h := (if_neg q11).symm.trans h
        by_cases q14 : (σ.1 36 a1.toNatClampNeg) = (5 : Int32)
        · replace h := (if_pos q14).symm.trans h
          refine kg_tsIn (off := 97) 126 dX9_doOrder_29 (by rw [q14]; decide) (by rw [q14]; decide) (by rw [q14]; decide) rfl ?_
          refine kg_aload_n 2 dX9_doOrder_126 rfl (pc2 := 127) rfl ?_
          refine kg_iload_n 1 dX9_doOrder_127 rfl (pc2 := 128) rfl ?_
          refine kg_iconst dX9_doOrder_128 ki_1 (pc2 := 129) rfl ?_
          obtain ⟨r15, r15h, h⟩ := kw_bind_e h
          refine kg_callV (μ := μX9_doOrder) (d := (d + 5)) rfl mVX9_turnRoad [.int r1, .int (1 : Int32)] [] (gX9_turnRoad (E := E) (d := d) r1 (1 : Int32) σ r15h) rfl lmRX9_162 (ci := 9) rfl tX_0 eX_0 rfl (Nat.le_of_ble_eq_true rfl) dX9_doOrder_129 rfl (st2 := [.int r15.1]) rfl (pc2 := 132) rfl ?_
          refine kg_if_lt 139 dX9_doOrder_132 rfl (pc2 := 135) rfl (fun q16 => ?_) (fun q16 => ?_)
          · replace h := (if_pos q16).symm.trans h
            refine kg_iconst dX9_doOrder_139 ki_0 (pc2 := 140) rfl ?_
            cases h
            exact kg_iret (ty := .boolean) dX9_doOrder_140 rfl rfl
          · replace h := (if_neg q16).symm.trans h
            refine kg_iconst dX9_doOrder_135 ki_1 (pc2 := 136) rfl ?_
            refine kg_goto 140 dX9_doOrder_136 rfl ?_
            cases h
            exact kg_iret (ty := .boolean) dX9_doOrder_140 rfl rfl
        · replace h := (if_neg q14).symm.trans h
          by_cases q17 : (σ.1 36 a1.toNatClampNeg) = (6 : Int32)
          · replace h := (if_pos q17).symm.trans h
            refine kg_tsIn (off := 112) 141 dX9_doOrder_29 (by rw [q17]; decide) (by rw [q17]; decide) (by rw [q17]; decide) rfl ?_
            refine kg_aload_n 2 dX9_doOrder_141 rfl (pc2 := 142) rfl ?_
            refine kg_iload_n 1 dX9_doOrder_142 rfl (pc2 := 143) rfl ?_
            obtain ⟨r18, r18h, h⟩ := kw_bind_e h
            refine kg_callV (μ := μX9_doOrder) (d := (d + 5)) rfl mVX9_moveOrigin [.int r1] [] (gX9_moveOrigin (E := E) (d := d) r1 σ r18h) rfl lmRX9_166 (ci := 9) rfl tX_0 eX_0 rfl (Nat.le_of_ble_eq_true rfl) dX9_doOrder_143 rfl (st2 := [.int r18.1]) rfl (pc2 := 146) rfl ?_
            refine kg_if_lt 153 dX9_doOrder_146 rfl (pc2 := 149) rfl (fun q19 => ?_) (fun q19 => ?_)
            · replace h := (if_pos q19).symm.trans h
              refine kg_iconst dX9_doOrder_153 ki_0 (pc2 := 154) rfl ?_
              cases h
              exact kg_iret (ty := .boolean) dX9_doOrder_154 rfl rfl
            · replace h := (if_neg q19).symm.trans h
              refine kg_iconst dX9_doOrder_149 ki_1 (pc2 := 150) rfl ?_
              refine kg_goto 154 dX9_doOrder_150 rfl ?_
              cases h
              exact kg_iret (ty := .boolean) dX9_doOrder_154 rfl rfl
          · replace h := (if_neg q17).symm.trans h
            by_cases q20 : (σ.1 36 a1.toNatClampNeg) = (7 : Int32)
            · replace h := (if_pos q20).symm.trans h
              refine kg_tsIn (off := 126) 155 dX9_doOrder_29 (by rw [q20]; decide) (by rw [q20]; decide) (by rw [q20]; decide) rfl ?_
              refine kg_aload_n 2 dX9_doOrder_155 rfl (pc2 := 156) rfl ?_
              refine kg_iload_n 1 dX9_doOrder_156 rfl (pc2 := 157) rfl ?_
              refine kg_iload_n 0 dX9_doOrder_157 rfl (pc2 := 158) rfl ?_
              obtain ⟨r21, r21h, h⟩ := kw_bind_e h
              refine kg_callV (μ := μX9_doOrder) (d := (d + 5)) rfl mVX9_watchTown [.int r1, .int r2] [] (gX9_watchTown (E := E) (d := (d + 4)) r1 r2 σ r21h) rfl lmRX9_170 (ci := 9) rfl tX_0 eX_0 rfl (Nat.le_of_ble_eq_true rfl) dX9_doOrder_158 rfl (st2 := [.int r21.1]) rfl (pc2 := 161) rfl ?_
              refine kg_if_lt 168 dX9_doOrder_161 rfl (pc2 := 164) rfl (fun q22 => ?_) (fun q22 => ?_)
              · replace h := (if_pos q22).symm.trans h
                refine kg_iconst dX9_doOrder_168 ki_0 (pc2 := 169) rfl ?_
                cases h
                exact kg_iret (ty := .boolean) dX9_doOrder_169 rfl rfl
              · replace h := (if_neg q22).symm.trans h
                refine kg_iconst dX9_doOrder_164 ki_1 (pc2 := 165) rfl ?_
                refine kg_goto 169 dX9_doOrder_165 rfl ?_
                cases h
                exact kg_iret (ty := .boolean) dX9_doOrder_169 rfl rfl
            · replace h := (if_neg q20).symm.trans h
              by_cases q23 : (σ.1 36 a1.toNatClampNeg) = (8 : Int32)
              · replace h := (if_pos q23).symm.trans h
                refine kg_tsIn (off := 141) 170 dX9_doOrder_29 (by rw [q23]; decide) (by rw [q23]; decide) (by rw [q23]; decide) rfl ?_
                refine kg_aload_n 2 dX9_doOrder_170 rfl (pc2 := 171) rfl ?_
                refine kg_iload_n 1 dX9_doOrder_171 rfl (pc2 := 172) rfl ?_
                obtain ⟨r24, r24h, h⟩ := kw_bind_e h
                refine kg_callV (μ := μX9_doOrder) (d := (d + 5)) rfl mVX9_forgetTown [.int r1] [] (gX9_forgetTown (E := E) (d := (d + 4)) r1 σ r24h) rfl lmRX9_173 (ci := 9) rfl tX_0 eX_0 rfl (Nat.le_of_ble_eq_true rfl) dX9_doOrder_172 rfl (st2 := [.int r24.1]) rfl (pc2 := 175) rfl ?_
                obtain ⟨q25, h⟩ := kw_chk_e h
                cases h
                exact kg_iret (ty := .boolean) dX9_doOrder_175 rfl (kw_isB_n q25)
              · replace h := (if_neg q23).symm.trans h
                refine kg_tsOut 176 dX9_doOrder_29 (by have a0 := kw_neI (n := 2) (by decide) q4; have a1 := kw_neI (n := 3) (by decide) q8; have a2 := kw_neI (n := 4) (by decide) q11; have a3 := kw_neI (n := 5) (by decide) q14; have a4 := kw_neI (n := 6) (by decide) q17; have a5 := kw_neI (n := 7) (by decide) q20; have a6 := kw_neI (n := 8) (by decide) q23; omega) rfl ?_
                refine kg_iconst dX9_doOrder_176 ki_0 (pc2 := 177) rfl ?_
                cases h
                exact kg_iret (ty := .boolean) dX9_doOrder_177 rfl rfl
set_option maxHeartbeats 4000000 in
set_option maxRecDepth 100000 in
theorem lX9_orders_60 {E : kw_E} {d : Nat} (v3 : Int32) (σ : kw_M) {v : Option Value} {σ2 : kw_M} {o : (Int32 × kw_M) ⊕ (Int32 × kw_M)} (h : bX9_orders_60 v3 σ = some o) (hk : Sum.elim (fun s => kw_G E kwTX 48 (d + 9) μX9_orders 60 [(0, .ref 0), (3, .int s.1)] [] s.2 v σ2) (fun y => kw_G E kwTX 48 (d + 9) μX9_orders 85 [(3, .int y.1)] [] y.2 v σ2) o) : kw_G E kwTX 48 (d + 9) μX9_orders 60 [(0, .ref 0), (3, .int v3)] [] σ v σ2 := by
  unfold bX9_orders_60 at h
  refine kg_iload_n 1 dX9_orders_60 rfl (pc2 := 61) rfl ?_
  refine kg_aload_n 0 dX9_orders_61 rfl (pc2 := 62) rfl ?_
  refine kg_getr clX9 rfl 4 (Nat.le_of_ble_eq_true rfl) lfRX9_29 tX_0 eX_0 rfl dX9_orders_62 (pc2 := 65) rfl ?_
  refine kg_geti clX3 rfl 1 (Nat.le_of_ble_eq_true rfl) lfRX9_109 tX_4 eX_4 rfl dX9_orders_65 (pc2 := 68) rfl ?_
  refine kg_icmp_ge 85 dX9_orders_68 rfl (pc2 := 71) rfl (fun q6 => ?_) (fun q6 => ?_)
  · replace h := (if_pos q6).symm.trans h
    refine kg_sub [1] (lv2 := [(3, .int v3)]) rfl ?_
    cases h
    exact hk
  · replace h := (if_neg q6).symm.trans h
    refine kg_aload_n 0 dX9_orders_71 rfl (pc2 := 72) rfl ?_
    refine kg_iload_n 1 dX9_orders_72 rfl (pc2 := 73) rfl ?_
    obtain ⟨r7, r7h, h⟩ := kw_bind_e h
    refine kg_callV (μ := μX9_orders) (d := (d + 8)) rfl mVX9_doOrder [.int v3] [] (gX9_doOrder (E := E) (d := (d + 2)) v3 σ r7h) rfl lmRX9_152 (ci := 9) rfl tX_0 eX_0 rfl (Nat.le_of_ble_eq_true rfl) dX9_orders_73 rfl (st2 := [.int r7.1]) rfl (pc2 := 76) rfl ?_
    refine kg_if_eq 85 dX9_orders_76 rfl (pc2 := 79) rfl (fun q8 => ?_) (fun q8 => ?_)
    · replace h := (if_pos q8).symm.trans h
      refine kg_sub [1] (lv2 := [(3, .int v3)]) rfl ?_
      cases h
      exact hk
    · replace h := (if_neg q8).symm.trans h
      obtain ⟨x9, x9e, h⟩ := kw_let_e h
      refine kg_iinc 1 dX9_orders_79 rfl (Nat.le_of_ble_eq_true rfl) x9e (lv2 := [(3, .int x9), (0, .ref 0)]) rfl (pc2 := 82) rfl ?_
      refine kg_goto 60 dX9_orders_82 rfl ?_
      refine kg_sub [1, 0] (lv2 := [(0, .ref 0), (3, .int x9)]) rfl ?_
      cases h
      exact hk
set_option maxHeartbeats 4000000 in
set_option maxRecDepth 100000 in
theorem gX9_orders {E : kw_E} {d : Nat} (a1 : Int32) (σ : kw_M) {r : Int32 × kw_M} (h : fX9_orders a1 σ = some r) : kw_Met E kwTX 48 (d + 9) μX9_orders [.ref 0, .int a1] σ (some (Value.int r.1)) r.2 := by
  refine kw_enter plRX9 (Nat.le_of_ble_eq_true rfl) ?_
  show kw_G E kwTX 48 (d + 9) μX9_orders 0 [(0, .ref 0), (1, .int a1)] [] σ (some (Value.int r.1)) r.2
  unfold fX9_orders at h
  refine kg_aload_n 0 dX9_orders_0 rfl (pc2 := 1) rfl ?_
  refine kg_getr clX9 rfl 3 (Nat.le_of_ble_eq_true rfl) lfRX9_22 tX_0 eX_0 rfl dX9_orders_1 (pc2 := 4) rfl ?_
  refine kg_iload_n 1 dX9_orders_4 rfl (pc2 := 5) rfl ?_
  refine kg_iconst dX9_orders_5 ki_1 (pc2 := 6) rfl ?_
  refine kg_sipush dX9_orders_6 ks_200 (pc2 := 9) rfl ?_
  obtain ⟨r1, r1h, h⟩ := kw_bind_e h
  refine kg_callV (μ := μX9_orders) (d := (d + 8)) rfl mVX8_canGive [.int a1, .int (1 : Int32), .int (200 : Int32)] [] (gX8_canGive (E := E) (d := (d + 8)) a1 (1 : Int32) (200 : Int32) σ r1h) rfl lmRX9_87 (ci := 8) rfl tX_3 eX_3 rfl (Nat.le_of_ble_eq_true rfl) dX9_orders_9 rfl (st2 := [.int r1]) rfl (pc2 := 12) rfl ?_
  refine kg_if_ne 17 dX9_orders_12 rfl (pc2 := 15) rfl (fun q2 => ?_) (fun q2 => ?_)
  · replace h := (if_neg q2).symm.trans h
    refine kg_aload_n 0 dX9_orders_17 rfl (pc2 := 18) rfl ?_
    refine kg_getr clX9 rfl 4 (Nat.le_of_ble_eq_true rfl) lfRX9_29 tX_0 eX_0 rfl dX9_orders_18 (pc2 := 21) rfl ?_
    refine kg_aload_n 0 dX9_orders_21 rfl (pc2 := 22) rfl ?_
    refine kg_getr clX9 rfl 3 (Nat.le_of_ble_eq_true rfl) lfRX9_22 tX_0 eX_0 rfl dX9_orders_22 (pc2 := 25) rfl ?_
    refine kg_getr clX8 rfl 1 (Nat.le_of_ble_eq_true rfl) lfRX9_91 tX_3 eX_3 rfl dX9_orders_25 (pc2 := 28) rfl ?_
    refine kg_iload_n 1 dX9_orders_28 rfl (pc2 := 29) rfl ?_
    refine kg_iconst dX9_orders_29 ki_0 (pc2 := 30) rfl ?_
    refine kg_aload_n 0 dX9_orders_30 rfl (pc2 := 31) rfl ?_
    refine kg_getr clX9 rfl 0 (Nat.le_of_ble_eq_true rfl) lfRX9_10 tX_0 eX_0 rfl dX9_orders_31 (pc2 := 34) rfl ?_
    refine kg_getr clX7 rfl 0 (Nat.le_of_ble_eq_true rfl) lfRX9_148 tX_1 eX_1 rfl dX9_orders_34 (pc2 := 37) rfl ?_
    refine kg_geti clX4 rfl 0 (Nat.le_of_ble_eq_true rfl) lfRX9_151 tX_12 eX_12 rfl dX9_orders_37 (pc2 := 40) rfl ?_
    obtain ⟨r3, r3h, h⟩ := kw_bind_e h
    refine kg_callV (μ := μX9_orders) (d := (d + 8)) rfl mVX3_readText [.ref 35, .int a1, .int (0 : Int32), .int (σ.1 12 0)] [] (gX3_readText (E := E) (d := d) a1 (0 : Int32) (σ.1 12 0) σ r3h) rfl lmRX9_95 (ci := 3) rfl tX_4 eX_4 rfl (Nat.le_of_ble_eq_true rfl) dX9_orders_40 rfl (st2 := [.int r3.1]) rfl (pc2 := 43) rfl ?_
    refine kg_istore_n dX9_orders_43 rfl (Nat.le_of_ble_eq_true rfl) rfl (lv2 := [(2, .int r3.1), (0, .ref 0), (1, .int a1)]) rfl (pc2 := 44) rfl ?_
    refine kg_aload_n 1 dX9_orders_44 rfl (pc2 := 45) rfl ?_
    refine kg_getr clX9 rfl 3 (Nat.le_of_ble_eq_true rfl) lfRX9_22 tX_0 eX_0 rfl dX9_orders_45 (pc2 := 48) rfl ?_
    refine kg_iconst dX9_orders_48 ki_0 (pc2 := 49) rfl ?_
    obtain ⟨s4, s4e, h⟩ := kw_let_e h
    refine kg_puti clX8 rfl 0 (Nat.le_of_ble_eq_true rfl) lfRX9_79 rfl tX_3 eX_3 rfl (ty := .int) (by decide +kernel) rfl rfl s4e dX9_orders_49 (pc2 := 52) rfl ?_
    refine kg_iload_n 0 dX9_orders_52 rfl (pc2 := 53) rfl ?_
    refine kg_if_eq 58 dX9_orders_53 rfl (pc2 := 56) rfl (fun q5 => ?_) (fun q5 => ?_)
    · replace h := (if_pos q5).symm.trans h
      refine kg_iconst dX9_orders_58 ki_0 (pc2 := 59) rfl ?_
      refine kg_istore_n dX9_orders_59 rfl (Nat.le_of_ble_eq_true rfl) rfl (lv2 := [(3, .int (0 : Int32)), (2, .int r3.1), (0, .ref 0), (1, .int a1)]) rfl (pc2 := 60) rfl ?_
      refine kg_sub [2, 0] (lv2 := [(0, .ref 0), (3, .int (0 : Int32))]) rfl ?_
      obtain ⟨x10, x10h, h⟩ := kw_bind_e h
      refine kw_loop_e (P := fun s => kw_G E kwTX 48 (d + 9) μX9_orders 60 [(0, .ref 0), (3, .int s.1)] [] s.2 (some (Value.int r.1)) r.2) (K := fun y => kw_G E kwTX 48 (d + 9) μX9_orders 85 [(3, .int y.1)] [] y.2 (some (Value.int r.1)) r.2) (fun s o h0 hk => lX9_orders_60 s.1 s.2 h0 hk) kw_F _ _ x10h ?_
      show kw_G E kwTX 48 (d + 9) μX9_orders 85 [(3, .int x10.1)] [] x10.2 (some (Value.int r.1)) r.2
      refine kg_iload_n 0 dX9_orders_85 rfl (pc2 := 86) rfl ?_
      cases h
      exact kg_iret (ty := .int) dX9_orders_86 rfl rfl
    · replace h := (if_neg q5).symm.trans h
      refine kg_iload_n 0 dX9_orders_56 rfl (pc2 := 57) rfl ?_
      cases h
      exact kg_iret (ty := .int) dX9_orders_57 rfl rfl
  · replace h := (if_pos q2).symm.trans h
    refine kg_iconst dX9_orders_15 ki_m1 (pc2 := 16) rfl ?_
    cases h
    exact kg_iret (ty := .int) dX9_orders_16 rfl rfl
set_option maxHeartbeats 4000000 in
set_option maxRecDepth 100000 in
theorem gX9_lay {E : kw_E} {d : Nat} (a1 : Int32) (a2 : Int32) (a3 : Int32) (σ : kw_M) {r : Int32 × kw_M} (h : fX9_lay a1 a2 a3 σ = some r) : kw_Met E kwTX 48 (d + 6) μX9_lay [.ref 0, .int a1, .int a2, .int a3] σ (some (Value.int r.1)) r.2 := by
  refine kw_enter plRX9 (Nat.le_of_ble_eq_true rfl) ?_
  show kw_G E kwTX 48 (d + 6) μX9_lay 0 [(0, .ref 0), (1, .int a1), (2, .int a2), (3, .int a3)] [] σ (some (Value.int r.1)) r.2
  unfold fX9_lay at h
  refine kg_aload_n 0 dX9_lay_0 rfl (pc2 := 1) rfl ?_
  refine kg_iload_n 1 dX9_lay_1 rfl (pc2 := 2) rfl ?_
  refine kg_iload_n 2 dX9_lay_2 rfl (pc2 := 3) rfl ?_
  refine kg_iload_n 3 dX9_lay_3 rfl (pc2 := 4) rfl ?_
  obtain ⟨r1, r1h, h⟩ := kw_bind_e h
  refine kg_callV (μ := μX9_lay) (d := (d + 5)) rfl mVX9_layRoad [.int a1, .int a2, .int a3] [] (gX9_layRoad (E := E) (d := d) a1 a2 a3 σ r1h) rfl lmRX9_156 (ci := 9) rfl tX_0 eX_0 rfl (Nat.le_of_ble_eq_true rfl) dX9_lay_4 rfl (st2 := [.int r1.1]) rfl (pc2 := 7) rfl ?_
  cases h
  exact kg_iret (ty := .int) dX9_lay_7 rfl rfl
set_option maxHeartbeats 4000000 in
set_option maxRecDepth 100000 in
theorem gX9_length {E : kw_E} {d : Nat} (a1 : Int32) (a2 : Int32) (σ : kw_M) {r : Int32 × kw_M} (h : fX9_length a1 a2 σ = some r) : kw_Met E kwTX 48 (d + 6) μX9_length [.ref 0, .int a1, .int a2] σ (some (Value.int r.1)) r.2 := by
  refine kw_enter plRX9 (Nat.le_of_ble_eq_true rfl) ?_
  show kw_G E kwTX 48 (d + 6) μX9_length 0 [(0, .ref 0), (1, .int a1), (2, .int a2)] [] σ (some (Value.int r.1)) r.2
  unfold fX9_length at h
  refine kg_aload_n 0 dX9_length_0 rfl (pc2 := 1) rfl ?_
  refine kg_iload_n 1 dX9_length_1 rfl (pc2 := 2) rfl ?_
  refine kg_iload_n 2 dX9_length_2 rfl (pc2 := 3) rfl ?_
  obtain ⟨r1, r1h, h⟩ := kw_bind_e h
  refine kg_callV (μ := μX9_length) (d := (d + 5)) rfl mVX9_changeLength [.int a1, .int a2] [] (gX9_changeLength (E := E) (d := d) a1 a2 σ r1h) rfl lmRX9_159 (ci := 9) rfl tX_0 eX_0 rfl (Nat.le_of_ble_eq_true rfl) dX9_length_3 rfl (st2 := [.int r1.1]) rfl (pc2 := 6) rfl ?_
  cases h
  exact kg_iret (ty := .int) dX9_length_6 rfl rfl
set_option maxHeartbeats 4000000 in
set_option maxRecDepth 100000 in
theorem gX9_close {E : kw_E} {d : Nat} (a1 : Int32) (σ : kw_M) {r : Int32 × kw_M} (h : fX9_close a1 σ = some r) : kw_Met E kwTX 48 (d + 6) μX9_close [.ref 0, .int a1] σ (some (Value.int r.1)) r.2 := by
  refine kw_enter plRX9 (Nat.le_of_ble_eq_true rfl) ?_
  show kw_G E kwTX 48 (d + 6) μX9_close 0 [(0, .ref 0), (1, .int a1)] [] σ (some (Value.int r.1)) r.2
  unfold fX9_close at h
  refine kg_aload_n 0 dX9_close_0 rfl (pc2 := 1) rfl ?_
  refine kg_iload_n 1 dX9_close_1 rfl (pc2 := 2) rfl ?_
  refine kg_iconst dX9_close_2 ki_0 (pc2 := 3) rfl ?_
  obtain ⟨r1, r1h, h⟩ := kw_bind_e h
  refine kg_callV (μ := μX9_close) (d := (d + 5)) rfl mVX9_turnRoad [.int a1, .int (0 : Int32)] [] (gX9_turnRoad (E := E) (d := d) a1 (0 : Int32) σ r1h) rfl lmRX9_162 (ci := 9) rfl tX_0 eX_0 rfl (Nat.le_of_ble_eq_true rfl) dX9_close_3 rfl (st2 := [.int r1.1]) rfl (pc2 := 6) rfl ?_
  cases h
  exact kg_iret (ty := .int) dX9_close_6 rfl rfl
set_option maxHeartbeats 4000000 in
set_option maxRecDepth 100000 in
theorem gX9_open {E : kw_E} {d : Nat} (a1 : Int32) (σ : kw_M) {r : Int32 × kw_M} (h : fX9_open a1 σ = some r) : kw_Met E kwTX 48 (d + 6) μX9_open [.ref 0, .int a1] σ (some (Value.int r.1)) r.2 := by
  refine kw_enter plRX9 (Nat.le_of_ble_eq_true rfl) ?_
  show kw_G E kwTX 48 (d + 6) μX9_open 0 [(0, .ref 0), (1, .int a1)] [] σ (some (Value.int r.1)) r.2
  unfold fX9_open at h
  refine kg_aload_n 0 dX9_open_0 rfl (pc2 := 1) rfl ?_
  refine kg_iload_n 1 dX9_open_1 rfl (pc2 := 2) rfl ?_
  refine kg_iconst dX9_open_2 ki_1 (pc2 := 3) rfl ?_
  obtain ⟨r1, r1h, h⟩ := kw_bind_e h
  refine kg_callV (μ := μX9_open) (d := (d + 5)) rfl mVX9_turnRoad [.int a1, .int (1 : Int32)] [] (gX9_turnRoad (E := E) (d := d) a1 (1 : Int32) σ r1h) rfl lmRX9_162 (ci := 9) rfl tX_0 eX_0 rfl (Nat.le_of_ble_eq_true rfl) dX9_open_3 rfl (st2 := [.int r1.1]) rfl (pc2 := 6) rfl ?_
  cases h
  exact kg_iret (ty := .int) dX9_open_6 rfl rfl
set_option maxHeartbeats 4000000 in
set_option maxRecDepth 100000 in
theorem gX9_origin {E : kw_E} {d : Nat} (a1 : Int32) (σ : kw_M) {r : Int32 × kw_M} (h : fX9_origin a1 σ = some r) : kw_Met E kwTX 48 (d + 6) μX9_origin [.ref 0, .int a1] σ (some (Value.int r.1)) r.2 := by
  refine kw_enter plRX9 (Nat.le_of_ble_eq_true rfl) ?_
  show kw_G E kwTX 48 (d + 6) μX9_origin 0 [(0, .ref 0), (1, .int a1)] [] σ (some (Value.int r.1)) r.2
  unfold fX9_origin at h
  refine kg_aload_n 0 dX9_origin_0 rfl (pc2 := 1) rfl ?_
  refine kg_iload_n 1 dX9_origin_1 rfl (pc2 := 2) rfl ?_
  obtain ⟨r1, r1h, h⟩ := kw_bind_e h
  refine kg_callV (μ := μX9_origin) (d := (d + 5)) rfl mVX9_moveOrigin [.int a1] [] (gX9_moveOrigin (E := E) (d := d) a1 σ r1h) rfl lmRX9_166 (ci := 9) rfl tX_0 eX_0 rfl (Nat.le_of_ble_eq_true rfl) dX9_origin_2 rfl (st2 := [.int r1.1]) rfl (pc2 := 5) rfl ?_
  cases h
  exact kg_iret (ty := .int) dX9_origin_5 rfl rfl
set_option maxHeartbeats 4000000 in
set_option maxRecDepth 100000 in
theorem gXJ13_bitCount_95d88 {E : kw_E} {d : Nat} (a0 : Int64) (σ : kw_M) {r : Int32} (h : fXJ13_bitCount_95d88 a0 σ = some r) : kw_Met E kwTX 48 d μJ13_bitCount_95d88 [.long a0] σ (some (Value.int r)) σ := by
  refine kw_enter plRJ13 (Nat.le_of_ble_eq_true rfl) ?_
  show kw_G E kwTX 48 d μJ13_bitCount_95d88 0 [(0, .long a0)] [] σ (some (Value.int r)) σ
  unfold fXJ13_bitCount_95d88 at h
  refine kg_lload_n 0 dJ13_bitCount_95d88_0 rfl (pc2 := 1) rfl ?_
  refine kg_lload_n 0 dJ13_bitCount_95d88_1 rfl (pc2 := 2) rfl ?_
  refine kg_iconst dJ13_bitCount_95d88_2 ki_1 (pc2 := 3) rfl ?_
  obtain ⟨x1, x1e, h⟩ := kw_let_e h
  refine kg_lushr dJ13_bitCount_95d88_3 x1e (pc2 := 4) rfl ?_
  refine kg_ldc2 rfl lcRJ13_314 dJ13_bitCount_95d88_4 (pc2 := 7) rfl ?_
  refine kg_land dJ13_bitCount_95d88_7 (pc2 := 8) rfl ?_
  refine kg_lsub dJ13_bitCount_95d88_8 (pc2 := 9) rfl ?_
  obtain ⟨x2, x2e, h⟩ := kw_let_e h
  refine kg_lstore_n dJ13_bitCount_95d88_9 rfl (Nat.le_of_ble_eq_true rfl) x2e (lv2 := [(0, .long x2)]) rfl (pc2 := 10) rfl ?_
  refine kg_lload_n 0 dJ13_bitCount_95d88_10 rfl (pc2 := 11) rfl ?_
  refine kg_ldc2 rfl lcRJ13_316 dJ13_bitCount_95d88_11 (pc2 := 14) rfl ?_
  refine kg_land dJ13_bitCount_95d88_14 (pc2 := 15) rfl ?_
  refine kg_lload_n 0 dJ13_bitCount_95d88_15 rfl (pc2 := 16) rfl ?_
  refine kg_iconst dJ13_bitCount_95d88_16 ki_2 (pc2 := 17) rfl ?_
  obtain ⟨x3, x3e, h⟩ := kw_let_e h
  refine kg_lushr dJ13_bitCount_95d88_17 x3e (pc2 := 18) rfl ?_
  refine kg_ldc2 rfl lcRJ13_316 dJ13_bitCount_95d88_18 (pc2 := 21) rfl ?_
  refine kg_land dJ13_bitCount_95d88_21 (pc2 := 22) rfl ?_
  refine kg_ladd dJ13_bitCount_95d88_22 (pc2 := 23) rfl ?_
  obtain ⟨x4, x4e, h⟩ := kw_let_e h
  refine kg_lstore_n dJ13_bitCount_95d88_23 rfl (Nat.le_of_ble_eq_true rfl) x4e (lv2 := [(0, .long x4)]) rfl (pc2 := 24) rfl ?_
  refine kg_lload_n 0 dJ13_bitCount_95d88_24 rfl (pc2 := 25) rfl ?_
  refine kg_lload_n 0 dJ13_bitCount_95d88_25 rfl (pc2 := 26) rfl ?_
  refine kg_iconst dJ13_bitCount_95d88_26 ki_4 (pc2 := 27) rfl ?_
  obtain ⟨x5, x5e, h⟩ := kw_let_e h
  refine kg_lushr dJ13_bitCount_95d88_27 x5e (pc2 := 28) rfl ?_
  refine kg_ladd dJ13_bitCount_95d88_28 (pc2 := 29) rfl ?_
  refine kg_ldc2 rfl lcRJ13_318 dJ13_bitCount_95d88_29 (pc2 := 32) rfl ?_
  refine kg_land dJ13_bitCount_95d88_32 (pc2 := 33) rfl ?_
  obtain ⟨x6, x6e, h⟩ := kw_let_e h
  refine kg_lstore_n dJ13_bitCount_95d88_33 rfl (Nat.le_of_ble_eq_true rfl) x6e (lv2 := [(0, .long x6)]) rfl (pc2 := 34) rfl ?_
  refine kg_lload_n 0 dJ13_bitCount_95d88_34 rfl (pc2 := 35) rfl ?_
  refine kg_lload_n 0 dJ13_bitCount_95d88_35 rfl (pc2 := 36) rfl ?_
  refine kg_bipush dJ13_bitCount_95d88_36 kb_8 (pc2 := 38) rfl ?_
  obtain ⟨x7, x7e, h⟩ := kw_let_e h
  refine kg_lushr dJ13_bitCount_95d88_38 x7e (pc2 := 39) rfl ?_
  refine kg_ladd dJ13_bitCount_95d88_39 (pc2 := 40) rfl ?_
  obtain ⟨x8, x8e, h⟩ := kw_let_e h
  refine kg_lstore_n dJ13_bitCount_95d88_40 rfl (Nat.le_of_ble_eq_true rfl) x8e (lv2 := [(0, .long x8)]) rfl (pc2 := 41) rfl ?_
  refine kg_lload_n 0 dJ13_bitCount_95d88_41 rfl (pc2 := 42) rfl ?_
  refine kg_lload_n 0 dJ13_bitCount_95d88_42 rfl (pc2 := 43) rfl ?_
  refine kg_bipush dJ13_bitCount_95d88_43 kb_16 (pc2 := 45) rfl ?_
  obtain ⟨x9, x9e, h⟩ := kw_let_e h
  refine kg_lushr dJ13_bitCount_95d88_45 x9e (pc2 := 46) rfl ?_
  refine kg_ladd dJ13_bitCount_95d88_46 (pc2 := 47) rfl ?_
  obtain ⟨x10, x10e, h⟩ := kw_let_e h
  refine kg_lstore_n dJ13_bitCount_95d88_47 rfl (Nat.le_of_ble_eq_true rfl) x10e (lv2 := [(0, .long x10)]) rfl (pc2 := 48) rfl ?_
  refine kg_lload_n 0 dJ13_bitCount_95d88_48 rfl (pc2 := 49) rfl ?_
  refine kg_lload_n 0 dJ13_bitCount_95d88_49 rfl (pc2 := 50) rfl ?_
  refine kg_bipush dJ13_bitCount_95d88_50 kb_32 (pc2 := 52) rfl ?_
  obtain ⟨x11, x11e, h⟩ := kw_let_e h
  refine kg_lushr dJ13_bitCount_95d88_52 x11e (pc2 := 53) rfl ?_
  refine kg_ladd dJ13_bitCount_95d88_53 (pc2 := 54) rfl ?_
  obtain ⟨x12, x12e, h⟩ := kw_let_e h
  refine kg_lstore_n dJ13_bitCount_95d88_54 rfl (Nat.le_of_ble_eq_true rfl) x12e (lv2 := [(0, .long x12)]) rfl (pc2 := 55) rfl ?_
  refine kg_lload_n 0 dJ13_bitCount_95d88_55 rfl (pc2 := 56) rfl ?_
  refine kg_l2i dJ13_bitCount_95d88_56 (pc2 := 57) rfl ?_
  refine kg_bipush dJ13_bitCount_95d88_57 kb_127 (pc2 := 59) rfl ?_
  refine kg_iand dJ13_bitCount_95d88_59 (pc2 := 60) rfl ?_
  cases h
  exact kg_iret (ty := .int) dJ13_bitCount_95d88_60 rfl rfl
set_option maxHeartbeats 4000000 in
set_option maxRecDepth 100000 in
theorem gX7_hasDistance {E : kw_E} {d : Nat} (a1 : Int32) (σ : kw_M) {r : Int32} (h : fX7_hasDistance a1 σ = some r) : kw_Met E kwTX 48 d μX7_hasDistance [.ref 1, .int a1] σ (some (Value.int r)) σ := by
  refine kw_enter plRX7 (Nat.le_of_ble_eq_true rfl) ?_
  show kw_G E kwTX 48 d μX7_hasDistance 0 [(0, .ref 1), (1, .int a1)] [] σ (some (Value.int r)) σ
  unfold fX7_hasDistance at h
  refine kg_aload_n 0 dX7_hasDistance_0 rfl (pc2 := 1) rfl ?_
  refine kg_getr clX7 rfl 9 (Nat.le_of_ble_eq_true rfl) lfRX7_36 tX_1 eX_1 rfl dX7_hasDistance_1 (pc2 := 4) rfl ?_
  refine kg_iload_n 1 dX7_hasDistance_4 rfl (pc2 := 5) rfl ?_
  obtain ⟨q1, h⟩ := kw_chk_e h
  refine kg_lald tX_16 eX_16 q1 (j := a1.toNatClampNeg) rfl dX7_hasDistance_5 (pc2 := 6) rfl ?_
  refine kg_ldc2 rfl lcRX7_109 dX7_hasDistance_6 (pc2 := 9) rfl ?_
  refine kg_lcmp_eq 17 dX7_hasDistance_9 dX7_hasDistance_10 rfl (pc2 := 13) rfl (fun q2 => ?_) (fun q2 => ?_)
  · replace h := (if_pos q2).symm.trans h
    refine kg_iconst dX7_hasDistance_17 ki_0 (pc2 := 18) rfl ?_
    cases h
    exact kg_iret (ty := .boolean) dX7_hasDistance_18 rfl rfl
  · replace h := (if_neg q2).symm.trans h
    refine kg_iconst dX7_hasDistance_13 ki_1 (pc2 := 14) rfl ?_
    refine kg_goto 18 dX7_hasDistance_14 rfl ?_
    cases h
    exact kg_iret (ty := .boolean) dX7_hasDistance_18 rfl rfl
set_option maxHeartbeats 4000000 in
set_option maxRecDepth 100000 in
theorem lX7_settledCount_4 {E : kw_E} {d : Nat} (σ : kw_M) (v1 : Int32) (v2 : Int32) {v : Option Value} {σ2 : kw_M} {o : (Int32 × Int32) ⊕ (Int32)} (h : bX7_settledCount_4 σ v1 v2 = some o) (hk : Sum.elim (fun s => kw_G E kwTX 48 (d + 1) μX7_settledCount 4 [(0, .ref 1), (1, .int s.1), (2, .int s.2)] [] σ v σ2) (fun y => kw_G E kwTX 48 (d + 1) μX7_settledCount 32 [(1, .int y)] [] σ v σ2) o) : kw_G E kwTX 48 (d + 1) μX7_settledCount 4 [(0, .ref 1), (1, .int v1), (2, .int v2)] [] σ v σ2 := by
  unfold bX7_settledCount_4 at h
  refine kg_iload_n 2 dX7_settledCount_4 rfl (pc2 := 5) rfl ?_
  refine kg_aload_n 0 dX7_settledCount_5 rfl (pc2 := 6) rfl ?_
  refine kg_getr clX7 rfl 0 (Nat.le_of_ble_eq_true rfl) lfRX7_12 tX_1 eX_1 rfl dX7_settledCount_6 (pc2 := 9) rfl ?_
  refine kg_geti clX4 rfl 0 (Nat.le_of_ble_eq_true rfl) lfRX7_90 tX_12 eX_12 rfl dX7_settledCount_9 (pc2 := 12) rfl ?_
  refine kg_icmp_ge 32 dX7_settledCount_12 rfl (pc2 := 15) rfl (fun q1 => ?_) (fun q1 => ?_)
  · replace h := (if_pos q1).symm.trans h
    refine kg_sub [1] (lv2 := [(1, .int v1)]) rfl ?_
    cases h
    exact hk
  · replace h := (if_neg q1).symm.trans h
    refine kg_aload_n 0 dX7_settledCount_15 rfl (pc2 := 16) rfl ?_
    refine kg_iload_n 2 dX7_settledCount_16 rfl (pc2 := 17) rfl ?_
    obtain ⟨r2, r2h, h⟩ := kw_bind_e h
    refine kg_callV (μ := μX7_settledCount) (d := d) rfl mVX7_hasDistance [.int v2] [] (gX7_hasDistance (E := E) (d := d) v2 σ r2h) rfl lmRX7_142 (ci := 7) rfl tX_1 eX_1 rfl (Nat.le_of_ble_eq_true rfl) dX7_settledCount_17 rfl (st2 := [.int r2]) rfl (pc2 := 20) rfl ?_
    refine kg_if_eq 26 dX7_settledCount_20 rfl (pc2 := 23) rfl (fun q3 => ?_) (fun q3 => ?_)
    · replace h := (if_pos q3).symm.trans h
      obtain ⟨x4, x4e, h⟩ := kw_let_e h
      refine kg_iinc 2 dX7_settledCount_26 rfl (Nat.le_of_ble_eq_true rfl) x4e (lv2 := [(2, .int x4), (0, .ref 1), (1, .int v1)]) rfl (pc2 := 29) rfl ?_
      refine kg_goto 4 dX7_settledCount_29 rfl ?_
      refine kg_sub [1, 2, 0] (lv2 := [(0, .ref 1), (1, .int v1), (2, .int x4)]) rfl ?_
      cases h
      exact hk
    · replace h := (if_neg q3).symm.trans h
      obtain ⟨x5, x5e, h⟩ := kw_let_e h
      refine kg_iinc 1 dX7_settledCount_23 rfl (Nat.le_of_ble_eq_true rfl) x5e (lv2 := [(1, .int x5), (0, .ref 1), (2, .int v2)]) rfl (pc2 := 26) rfl ?_
      obtain ⟨x6, x6e, h⟩ := kw_let_e h
      refine kg_iinc 2 dX7_settledCount_26 rfl (Nat.le_of_ble_eq_true rfl) x6e (lv2 := [(2, .int x6), (1, .int x5), (0, .ref 1)]) rfl (pc2 := 29) rfl ?_
      refine kg_goto 4 dX7_settledCount_29 rfl ?_
      refine kg_sub [2, 1, 0] (lv2 := [(0, .ref 1), (1, .int x5), (2, .int x6)]) rfl ?_
      cases h
      exact hk
set_option maxHeartbeats 4000000 in
set_option maxRecDepth 100000 in
theorem gX7_settledCount {E : kw_E} {d : Nat} (σ : kw_M) {r : Int32} (h : fX7_settledCount σ = some r) : kw_Met E kwTX 48 (d + 1) μX7_settledCount [.ref 1] σ (some (Value.int r)) σ := by
  refine kw_enter plRX7 (Nat.le_of_ble_eq_true rfl) ?_
  show kw_G E kwTX 48 (d + 1) μX7_settledCount 0 [(0, .ref 1)] [] σ (some (Value.int r)) σ
  unfold fX7_settledCount at h
  refine kg_iconst dX7_settledCount_0 ki_0 (pc2 := 1) rfl ?_
  refine kg_istore_n dX7_settledCount_1 rfl (Nat.le_of_ble_eq_true rfl) rfl (lv2 := [(1, .int (0 : Int32)), (0, .ref 1)]) rfl (pc2 := 2) rfl ?_
  refine kg_iconst dX7_settledCount_2 ki_0 (pc2 := 3) rfl ?_
  refine kg_istore_n dX7_settledCount_3 rfl (Nat.le_of_ble_eq_true rfl) rfl (lv2 := [(2, .int (0 : Int32)), (1, .int (0 : Int32)), (0, .ref 1)]) rfl (pc2 := 4) rfl ?_
  refine kg_sub [2, 1, 0] (lv2 := [(0, .ref 1), (1, .int (0 : Int32)), (2, .int (0 : Int32))]) rfl ?_
  obtain ⟨x7, x7h, h⟩ := kw_bind_e h
  refine kw_loop_e (P := fun s => kw_G E kwTX 48 (d + 1) μX7_settledCount 4 [(0, .ref 1), (1, .int s.1), (2, .int s.2)] [] σ (some (Value.int r)) σ) (K := fun y => kw_G E kwTX 48 (d + 1) μX7_settledCount 32 [(1, .int y)] [] σ (some (Value.int r)) σ) (fun s o h0 hk => lX7_settledCount_4 σ s.1 s.2 h0 hk) kw_F _ _ x7h ?_
  show kw_G E kwTX 48 (d + 1) μX7_settledCount 32 [(1, .int x7)] [] σ (some (Value.int r)) σ
  refine kg_iload_n 0 dX7_settledCount_32 rfl (pc2 := 33) rfl ?_
  cases h
  exact kg_iret (ty := .int) dX7_settledCount_33 rfl rfl
set_option maxHeartbeats 4000000 in
set_option maxRecDepth 100000 in
theorem lX7_tightCount_4 {E : kw_E} {d : Nat} (σ : kw_M) (v1 : Int32) (v2 : Int32) {v : Option Value} {σ2 : kw_M} {o : (Int32 × Int32) ⊕ (Int32)} (h : bX7_tightCount_4 σ v1 v2 = some o) (hk : Sum.elim (fun s => kw_G E kwTX 48 (d + 2) μX7_tightCount 4 [(0, .ref 1), (1, .int s.1), (2, .int s.2)] [] σ v σ2) (fun y => kw_G E kwTX 48 (d + 2) μX7_tightCount 32 [(1, .int y)] [] σ v σ2) o) : kw_G E kwTX 48 (d + 2) μX7_tightCount 4 [(0, .ref 1), (1, .int v1), (2, .int v2)] [] σ v σ2 := by
  unfold bX7_tightCount_4 at h
  refine kg_iload_n 2 dX7_tightCount_4 rfl (pc2 := 5) rfl ?_
  refine kg_aload_n 0 dX7_tightCount_5 rfl (pc2 := 6) rfl ?_
  refine kg_getr clX7 rfl 0 (Nat.le_of_ble_eq_true rfl) lfRX7_12 tX_1 eX_1 rfl dX7_tightCount_6 (pc2 := 9) rfl ?_
  refine kg_geti clX4 rfl 1 (Nat.le_of_ble_eq_true rfl) lfRX7_120 tX_12 eX_12 rfl dX7_tightCount_9 (pc2 := 12) rfl ?_
  refine kg_icmp_ge 32 dX7_tightCount_12 rfl (pc2 := 15) rfl (fun q1 => ?_) (fun q1 => ?_)
  · replace h := (if_pos q1).symm.trans h
    refine kg_sub [1] (lv2 := [(1, .int v1)]) rfl ?_
    cases h
    exact hk
  · replace h := (if_neg q1).symm.trans h
    refine kg_aload_n 0 dX7_tightCount_15 rfl (pc2 := 16) rfl ?_
    refine kg_iload_n 2 dX7_tightCount_16 rfl (pc2 := 17) rfl ?_
    obtain ⟨r2, r2h, h⟩ := kw_bind_e h
    refine kg_callV (μ := μX7_tightCount) (d := (d + 1)) rfl mVX7_isTight [.int v2] [] (gX7_isTight (E := E) (d := d) v2 σ r2h) rfl lmRX7_123 (ci := 7) rfl tX_1 eX_1 rfl (Nat.le_of_ble_eq_true rfl) dX7_tightCount_17 rfl (st2 := [.int r2]) rfl (pc2 := 20) rfl ?_
    refine kg_if_eq 26 dX7_tightCount_20 rfl (pc2 := 23) rfl (fun q3 => ?_) (fun q3 => ?_)
    · replace h := (if_pos q3).symm.trans h
      obtain ⟨x4, x4e, h⟩ := kw_let_e h
      refine kg_iinc 2 dX7_tightCount_26 rfl (Nat.le_of_ble_eq_true rfl) x4e (lv2 := [(2, .int x4), (0, .ref 1), (1, .int v1)]) rfl (pc2 := 29) rfl ?_
      refine kg_goto 4 dX7_tightCount_29 rfl ?_
      refine kg_sub [1, 2, 0] (lv2 := [(0, .ref 1), (1, .int v1), (2, .int x4)]) rfl ?_
      cases h
      exact hk
    · replace h := (if_neg q3).symm.trans h
      obtain ⟨x5, x5e, h⟩ := kw_let_e h
      refine kg_iinc 1 dX7_tightCount_23 rfl (Nat.le_of_ble_eq_true rfl) x5e (lv2 := [(1, .int x5), (0, .ref 1), (2, .int v2)]) rfl (pc2 := 26) rfl ?_
      obtain ⟨x6, x6e, h⟩ := kw_let_e h
      refine kg_iinc 2 dX7_tightCount_26 rfl (Nat.le_of_ble_eq_true rfl) x6e (lv2 := [(2, .int x6), (1, .int x5), (0, .ref 1)]) rfl (pc2 := 29) rfl ?_
      refine kg_goto 4 dX7_tightCount_29 rfl ?_
      refine kg_sub [2, 1, 0] (lv2 := [(0, .ref 1), (1, .int x5), (2, .int x6)]) rfl ?_
      cases h
      exact hk
set_option maxHeartbeats 4000000 in
set_option maxRecDepth 100000 in
theorem gX7_tightCount {E : kw_E} {d : Nat} (σ : kw_M) {r : Int32} (h : fX7_tightCount σ = some r) : kw_Met E kwTX 48 (d + 2) μX7_tightCount [.ref 1] σ (some (Value.int r)) σ := by
  refine kw_enter plRX7 (Nat.le_of_ble_eq_true rfl) ?_
  show kw_G E kwTX 48 (d + 2) μX7_tightCount 0 [(0, .ref 1)] [] σ (some (Value.int r)) σ
  unfold fX7_tightCount at h
  refine kg_iconst dX7_tightCount_0 ki_0 (pc2 := 1) rfl ?_
  refine kg_istore_n dX7_tightCount_1 rfl (Nat.le_of_ble_eq_true rfl) rfl (lv2 := [(1, .int (0 : Int32)), (0, .ref 1)]) rfl (pc2 := 2) rfl ?_
  refine kg_iconst dX7_tightCount_2 ki_0 (pc2 := 3) rfl ?_
  refine kg_istore_n dX7_tightCount_3 rfl (Nat.le_of_ble_eq_true rfl) rfl (lv2 := [(2, .int (0 : Int32)), (1, .int (0 : Int32)), (0, .ref 1)]) rfl (pc2 := 4) rfl ?_
  refine kg_sub [2, 1, 0] (lv2 := [(0, .ref 1), (1, .int (0 : Int32)), (2, .int (0 : Int32))]) rfl ?_
  obtain ⟨x7, x7h, h⟩ := kw_bind_e h
  refine kw_loop_e (P := fun s => kw_G E kwTX 48 (d + 2) μX7_tightCount 4 [(0, .ref 1), (1, .int s.1), (2, .int s.2)] [] σ (some (Value.int r)) σ) (K := fun y => kw_G E kwTX 48 (d + 2) μX7_tightCount 32 [(1, .int y)] [] σ (some (Value.int r)) σ) (fun s o h0 hk => lX7_tightCount_4 σ s.1 s.2 h0 hk) kw_F _ _ x7h ?_
  show kw_G E kwTX 48 (d + 2) μX7_tightCount 32 [(1, .int x7)] [] σ (some (Value.int r)) σ
  refine kg_iload_n 0 dX7_tightCount_32 rfl (pc2 := 33) rfl ?_
  cases h
  exact kg_iret (ty := .int) dX7_tightCount_33 rfl rfl
set_option maxHeartbeats 4000000 in
set_option maxRecDepth 100000 in
theorem lX2_fillFrom_10 {E : kw_E} {d : Nat} (v2 : Int32) (σ : kw_M) {v : Option Value} {σ2 : kw_M} {o : (Int32 × kw_M) ⊕ (kw_M)} (h : bX2_fillFrom_10 v2 σ = some o) (hk : Sum.elim (fun s => kw_G E kwTX 48 (d + 2) μX2_fillFrom 10 [(0, .ref 5), (1, .ref 12), (2, .int s.1)] [] s.2 v σ2) (fun y => kw_G E kwTX 48 (d + 2) μX2_fillFrom 52 [(0, .ref 5)] [] y v σ2) o) : kw_G E kwTX 48 (d + 2) μX2_fillFrom 10 [(0, .ref 5), (1, .ref 12), (2, .int v2)] [] σ v σ2 := by
  unfold bX2_fillFrom_10 at h
  refine kg_iload_n 2 dX2_fillFrom_10 rfl (pc2 := 11) rfl ?_
  refine kg_aload_n 0 dX2_fillFrom_11 rfl (pc2 := 12) rfl ?_
  refine kg_geti clX2 rfl 1 (Nat.le_of_ble_eq_true rfl) lfRX2_24 tX_5 eX_5 rfl dX2_fillFrom_12 (pc2 := 15) rfl ?_
  refine kg_icmp_ge 52 dX2_fillFrom_15 rfl (pc2 := 18) rfl (fun q2 => ?_) (fun q2 => ?_)
  · replace h := (if_pos q2).symm.trans h
    refine kg_sub [0] (lv2 := [(0, .ref 5)]) rfl ?_
    cases h
    exact hk
  · replace h := (if_neg q2).symm.trans h
    refine kg_aload_n 1 dX2_fillFrom_18 rfl (pc2 := 19) rfl ?_
    refine kg_iload_n 2 dX2_fillFrom_19 rfl (pc2 := 20) rfl ?_
    refine kg_iconst dX2_fillFrom_20 ki_m1 (pc2 := 21) rfl ?_
    refine kg_aload_n 0 dX2_fillFrom_21 rfl (pc2 := 22) rfl ?_
    refine kg_getr clX2 rfl 3 (Nat.le_of_ble_eq_true rfl) lfRX2_15 tX_5 eX_5 rfl dX2_fillFrom_22 (pc2 := 25) rfl ?_
    obtain ⟨r3, r3h, h⟩ := kw_bind_e h
    refine kg_callV (μ := μX2_fillFrom) (d := (d + 1)) rfl mVX4_settle [.int v2, .int (-1 : Int32), .ref 40] [] (gX4_settle (E := E) (d := d) 12 40 kx_4_12 ⟨tX_40, eX_40⟩ v2 (-1 : Int32) σ r3h) rfl lmRX2_25 (ci := 4) rfl tX_12 eX_12 rfl (Nat.le_of_ble_eq_true rfl) dX2_fillFrom_25 rfl (st2 := []) rfl (pc2 := 28) rfl ?_
    refine kg_aload_n 0 dX2_fillFrom_28 rfl (pc2 := 29) rfl ?_
    refine kg_getr clX2 rfl 3 (Nat.le_of_ble_eq_true rfl) lfRX2_15 tX_5 eX_5 rfl dX2_fillFrom_29 (pc2 := 32) rfl ?_
    refine kg_iconst dX2_fillFrom_32 ki_0 (pc2 := 33) rfl ?_
    refine kg_aload_n 0 dX2_fillFrom_33 rfl (pc2 := 34) rfl ?_
    refine kg_getr clX2 rfl 2 (Nat.le_of_ble_eq_true rfl) lfRX2_9 tX_5 eX_5 rfl dX2_fillFrom_34 (pc2 := 37) rfl ?_
    refine kg_iload_n 2 dX2_fillFrom_37 rfl (pc2 := 38) rfl ?_
    refine kg_bipush dX2_fillFrom_38 kb_12 (pc2 := 40) rfl ?_
    refine kg_imul dX2_fillFrom_40 (pc2 := 41) rfl ?_
    refine kg_bipush dX2_fillFrom_41 kb_12 (pc2 := 43) rfl ?_
    obtain ⟨q4, h⟩ := kw_chk_e h
    obtain ⟨q5, h⟩ := kw_chk_e h
    obtain ⟨s6, s6e, h⟩ := kw_let_e h
    refine kg_copyl (μ := μX2_fillFrom) (d := (d + 1)) rfl rfl cpRX2_29 tX_40 eX_40 tX_39 eX_39 (by decide) q4 (by decide) (by decide) q5 (Nat.le_of_ble_eq_true rfl) (by decide) rfl (by decide) s6e dX2_fillFrom_43 (pc2 := 46) rfl ?_
    obtain ⟨x7, x7e, h⟩ := kw_let_e h
    refine kg_iinc 2 dX2_fillFrom_46 rfl (Nat.le_of_ble_eq_true rfl) x7e (lv2 := [(2, .int x7), (0, .ref 5), (1, .ref 12)]) rfl (pc2 := 49) rfl ?_
    refine kg_goto 10 dX2_fillFrom_49 rfl ?_
    refine kg_sub [1, 2, 0] (lv2 := [(0, .ref 5), (1, .ref 12), (2, .int x7)]) rfl ?_
    cases h
    exact hk
set_option maxHeartbeats 4000000 in
set_option maxRecDepth 100000 in
theorem gX2_fillFrom {E : kw_E} {d : Nat} (σ : kw_M) {r : kw_M} (h : fX2_fillFrom σ = some r) : kw_Met E kwTX 48 (d + 2) μX2_fillFrom [.ref 5, .ref 12] σ none r := by
  refine kw_enter plRX2 (Nat.le_of_ble_eq_true rfl) ?_
  show kw_G E kwTX 48 (d + 2) μX2_fillFrom 0 [(0, .ref 5), (1, .ref 12)] [] σ none r
  unfold fX2_fillFrom at h
  refine kg_aload_n 0 dX2_fillFrom_0 rfl (pc2 := 1) rfl ?_
  refine kg_aload_n 1 dX2_fillFrom_1 rfl (pc2 := 2) rfl ?_
  refine kg_geti clX4 rfl 0 (Nat.le_of_ble_eq_true rfl) lfRX2_18 tX_12 eX_12 rfl dX2_fillFrom_2 (pc2 := 5) rfl ?_
  obtain ⟨s1, s1e, h⟩ := kw_let_e h
  refine kg_puti clX2 rfl 1 (Nat.le_of_ble_eq_true rfl) lfRX2_24 rfl tX_5 eX_5 rfl (ty := .int) (by decide +kernel) rfl rfl s1e dX2_fillFrom_5 (pc2 := 8) rfl ?_
  refine kg_iconst dX2_fillFrom_8 ki_0 (pc2 := 9) rfl ?_
  refine kg_istore_n dX2_fillFrom_9 rfl (Nat.le_of_ble_eq_true rfl) rfl (lv2 := [(2, .int (0 : Int32)), (0, .ref 5), (1, .ref 12)]) rfl (pc2 := 10) rfl ?_
  refine kg_sub [1, 2, 0] (lv2 := [(0, .ref 5), (1, .ref 12), (2, .int (0 : Int32))]) rfl ?_
  obtain ⟨x8, x8h, h⟩ := kw_bind_e h
  refine kw_loop_e (P := fun s => kw_G E kwTX 48 (d + 2) μX2_fillFrom 10 [(0, .ref 5), (1, .ref 12), (2, .int s.1)] [] s.2 none r) (K := fun y => kw_G E kwTX 48 (d + 2) μX2_fillFrom 52 [(0, .ref 5)] [] y none r) (fun s o h0 hk => lX2_fillFrom_10 s.1 s.2 h0 hk) kw_F _ _ x8h ?_
  show kw_G E kwTX 48 (d + 2) μX2_fillFrom 52 [(0, .ref 5)] [] x8 none r
  refine kg_aload_n 0 dX2_fillFrom_52 rfl (pc2 := 53) rfl ?_
  refine kg_iconst dX2_fillFrom_53 ki_1 (pc2 := 54) rfl ?_
  obtain ⟨s9, s9e, h⟩ := kw_let_e h
  refine kg_puti clX2 rfl 0 (Nat.le_of_ble_eq_true rfl) lfRX2_35 rfl tX_5 eX_5 rfl (ty := .boolean) (by decide +kernel) rfl rfl s9e dX2_fillFrom_54 (pc2 := 57) rfl ?_
  cases h
  exact kg_vret dX2_fillFrom_57 rfl
set_option maxHeartbeats 4000000 in
set_option maxRecDepth 100000 in
theorem gX9_rightPairs {E : kw_E} {d : Nat} (σ : kw_M) {r : kw_M} (h : fX9_rightPairs σ = some r) : kw_Met E kwTX 48 (d + 3) μX9_rightPairs [.ref 0] σ (some (.ref 5)) r := by
  refine kw_enter plRX9 (Nat.le_of_ble_eq_true rfl) ?_
  show kw_G E kwTX 48 (d + 3) μX9_rightPairs 0 [(0, .ref 0)] [] σ (some (.ref 5)) r
  unfold fX9_rightPairs at h
  refine kg_aload_n 0 dX9_rightPairs_0 rfl (pc2 := 1) rfl ?_
  refine kg_getr clX9 rfl 5 (Nat.le_of_ble_eq_true rfl) lfRX9_36 tX_0 eX_0 rfl dX9_rightPairs_1 (pc2 := 4) rfl ?_
  refine kg_geti clX2 rfl 0 (Nat.le_of_ble_eq_true rfl) lfRX9_145 tX_5 eX_5 rfl dX9_rightPairs_4 (pc2 := 7) rfl ?_
  refine kg_if_ne 24 dX9_rightPairs_7 rfl (pc2 := 10) rfl (fun q1 => ?_) (fun q1 => ?_)
  · replace h := (if_neg q1).symm.trans h
    refine kg_aload_n 0 dX9_rightPairs_24 rfl (pc2 := 25) rfl ?_
    refine kg_getr clX9 rfl 5 (Nat.le_of_ble_eq_true rfl) lfRX9_36 tX_0 eX_0 rfl dX9_rightPairs_25 (pc2 := 28) rfl ?_
    cases h
    exact kg_aret dX9_rightPairs_28 rfl (Or.inl ⟨_, rfl⟩)
  · replace h := (if_pos q1).symm.trans h
    refine kg_aload_n 0 dX9_rightPairs_10 rfl (pc2 := 11) rfl ?_
    refine kg_getr clX9 rfl 5 (Nat.le_of_ble_eq_true rfl) lfRX9_36 tX_0 eX_0 rfl dX9_rightPairs_11 (pc2 := 14) rfl ?_
    refine kg_aload_n 0 dX9_rightPairs_14 rfl (pc2 := 15) rfl ?_
    refine kg_getr clX9 rfl 0 (Nat.le_of_ble_eq_true rfl) lfRX9_10 tX_0 eX_0 rfl dX9_rightPairs_15 (pc2 := 18) rfl ?_
    refine kg_getr clX7 rfl 0 (Nat.le_of_ble_eq_true rfl) lfRX9_148 tX_1 eX_1 rfl dX9_rightPairs_18 (pc2 := 21) rfl ?_
    obtain ⟨r2, r2h, h⟩ := kw_bind_e h
    refine kg_callV (μ := μX9_rightPairs) (d := (d + 2)) rfl mVX2_fillFrom [.ref 12] [] (gX2_fillFrom (E := E) (d := d) σ r2h) rfl lmRX9_336 (ci := 2) rfl tX_5 eX_5 rfl (Nat.le_of_ble_eq_true rfl) dX9_rightPairs_21 rfl (st2 := []) rfl (pc2 := 24) rfl ?_
    refine kg_aload_n 0 dX9_rightPairs_24 rfl (pc2 := 25) rfl ?_
    refine kg_getr clX9 rfl 5 (Nat.le_of_ble_eq_true rfl) lfRX9_36 tX_0 eX_0 rfl dX9_rightPairs_25 (pc2 := 28) rfl ?_
    cases h
    exact kg_aret dX9_rightPairs_28 rfl (Or.inl ⟨_, rfl⟩)
set_option maxHeartbeats 4000000 in
set_option maxRecDepth 100000 in
theorem gX2_span {E : kw_E} {d : Nat} (a1 : Int32) (a2 : Int32) (σ : kw_M) {r : Int64} (h : fX2_span a1 a2 σ = some r) : kw_Met E kwTX 48 d μX2_span [.ref 5, .int a1, .int a2] σ (some (Value.long r)) σ := by
  refine kw_enter plRX2 (Nat.le_of_ble_eq_true rfl) ?_
  show kw_G E kwTX 48 d μX2_span 0 [(0, .ref 5), (1, .int a1), (2, .int a2)] [] σ (some (Value.long r)) σ
  unfold fX2_span at h
  refine kg_aload_n 0 dX2_span_0 rfl (pc2 := 1) rfl ?_
  refine kg_getr clX2 rfl 2 (Nat.le_of_ble_eq_true rfl) lfRX2_9 tX_5 eX_5 rfl dX2_span_1 (pc2 := 4) rfl ?_
  refine kg_iload_n 1 dX2_span_4 rfl (pc2 := 5) rfl ?_
  refine kg_bipush dX2_span_5 kb_12 (pc2 := 7) rfl ?_
  refine kg_imul dX2_span_7 (pc2 := 8) rfl ?_
  refine kg_iload_n 2 dX2_span_8 rfl (pc2 := 9) rfl ?_
  refine kg_iadd dX2_span_9 (pc2 := 10) rfl ?_
  obtain ⟨q1, h⟩ := kw_chk_e h
  refine kg_lald tX_39 eX_39 q1 (j := ((a1 * (12 : Int32)) + a2).toNatClampNeg) rfl dX2_span_10 (pc2 := 11) rfl ?_
  cases h
  exact kg_lret dX2_span_11 rfl
set_option maxHeartbeats 4000000 in
set_option maxRecDepth 100000 in
theorem gX2_comesTo {E : kw_E} {d : Nat} (a1 : Int32) (a2 : Int32) (σ : kw_M) {r : Int32} (h : fX2_comesTo a1 a2 σ = some r) : kw_Met E kwTX 48 (d + 1) μX2_comesTo [.ref 5, .int a1, .int a2] σ (some (Value.int r)) σ := by
  refine kw_enter plRX2 (Nat.le_of_ble_eq_true rfl) ?_
  show kw_G E kwTX 48 (d + 1) μX2_comesTo 0 [(0, .ref 5), (1, .int a1), (2, .int a2)] [] σ (some (Value.int r)) σ
  unfold fX2_comesTo at h
  refine kg_aload_n 0 dX2_comesTo_0 rfl (pc2 := 1) rfl ?_
  refine kg_iload_n 1 dX2_comesTo_1 rfl (pc2 := 2) rfl ?_
  refine kg_iload_n 2 dX2_comesTo_2 rfl (pc2 := 3) rfl ?_
  obtain ⟨r1, r1h, h⟩ := kw_bind_e h
  refine kg_callV (μ := μX2_comesTo) (d := d) rfl mVX2_span [.int a1, .int a2] [] (gX2_span (E := E) (d := d) a1 a2 σ r1h) rfl lmRX2_39 (ci := 2) rfl tX_5 eX_5 rfl (Nat.le_of_ble_eq_true rfl) dX2_comesTo_3 rfl (st2 := [.long r1]) rfl (pc2 := 6) rfl ?_
  refine kg_ldc2 rfl lcRX2_43 dX2_comesTo_6 (pc2 := 9) rfl ?_
  refine kg_lcmp_eq 17 dX2_comesTo_9 dX2_comesTo_10 rfl (pc2 := 13) rfl (fun q2 => ?_) (fun q2 => ?_)
  · replace h := (if_pos q2).symm.trans h
    refine kg_iconst dX2_comesTo_17 ki_0 (pc2 := 18) rfl ?_
    cases h
    exact kg_iret (ty := .boolean) dX2_comesTo_18 rfl rfl
  · replace h := (if_neg q2).symm.trans h
    refine kg_iconst dX2_comesTo_13 ki_1 (pc2 := 14) rfl ?_
    refine kg_goto 18 dX2_comesTo_14 rfl ?_
    cases h
    exact kg_iret (ty := .boolean) dX2_comesTo_18 rfl rfl
set_option maxHeartbeats 4000000 in
set_option maxRecDepth 100000 in
theorem lX2_comesToAll_2 {E : kw_E} {d : Nat} (v1 : Int32) (σ : kw_M) (v2 : Int32) {v : Option Value} {σ2 : kw_M} {o : (Int32) ⊕ ((Int32) ⊕ (Unit))} (h : bX2_comesToAll_2 v1 σ v2 = some o) (hk : Sum.elim (fun s => kw_G E kwTX 48 (d + 2) μX2_comesToAll 2 [(0, .ref 5), (1, .int v1), (2, .int s)] [] σ v σ2) (Sum.elim (fun rr => v = some (Value.int rr) ∧ σ2 = σ) (fun y => kw_G E kwTX 48 (d + 2) μX2_comesToAll 27 [] [] σ v σ2)) o) : kw_G E kwTX 48 (d + 2) μX2_comesToAll 2 [(0, .ref 5), (1, .int v1), (2, .int v2)] [] σ v σ2 := by
  unfold bX2_comesToAll_2 at h
  refine kg_iload_n 2 dX2_comesToAll_2 rfl (pc2 := 3) rfl ?_
  refine kg_aload_n 0 dX2_comesToAll_3 rfl (pc2 := 4) rfl ?_
  refine kg_geti clX2 rfl 1 (Nat.le_of_ble_eq_true rfl) lfRX2_24 tX_5 eX_5 rfl dX2_comesToAll_4 (pc2 := 7) rfl ?_
  refine kg_icmp_ge 27 dX2_comesToAll_7 rfl (pc2 := 10) rfl (fun q1 => ?_) (fun q1 => ?_)
  · replace h := (if_pos q1).symm.trans h
    refine kg_sub [] (lv2 := []) rfl ?_
    cases h
    exact hk
  · replace h := (if_neg q1).symm.trans h
    refine kg_aload_n 0 dX2_comesToAll_10 rfl (pc2 := 11) rfl ?_
    refine kg_iload_n 1 dX2_comesToAll_11 rfl (pc2 := 12) rfl ?_
    refine kg_iload_n 2 dX2_comesToAll_12 rfl (pc2 := 13) rfl ?_
    obtain ⟨r2, r2h, h⟩ := kw_bind_e h
    refine kg_callV (μ := μX2_comesToAll) (d := (d + 1)) rfl mVX2_comesTo [.int v1, .int v2] [] (gX2_comesTo (E := E) (d := d) v1 v2 σ r2h) rfl lmRX2_45 (ci := 2) rfl tX_5 eX_5 rfl (Nat.le_of_ble_eq_true rfl) dX2_comesToAll_13 rfl (st2 := [.int r2]) rfl (pc2 := 16) rfl ?_
    refine kg_if_ne 21 dX2_comesToAll_16 rfl (pc2 := 19) rfl (fun q3 => ?_) (fun q3 => ?_)
    · replace h := (if_neg q3).symm.trans h
      obtain ⟨x4, x4e, h⟩ := kw_let_e h
      refine kg_iinc 2 dX2_comesToAll_21 rfl (Nat.le_of_ble_eq_true rfl) x4e (lv2 := [(2, .int x4), (0, .ref 5), (1, .int v1)]) rfl (pc2 := 24) rfl ?_
      refine kg_goto 2 dX2_comesToAll_24 rfl ?_
      refine kg_sub [1, 2, 0] (lv2 := [(0, .ref 5), (1, .int v1), (2, .int x4)]) rfl ?_
      cases h
      exact hk
    · replace h := (if_pos q3).symm.trans h
      refine kg_iconst dX2_comesToAll_19 ki_0 (pc2 := 20) rfl ?_
      cases h
      obtain ⟨rfl, rfl⟩ := hk
      exact kg_iret (ty := .boolean) dX2_comesToAll_20 rfl rfl
set_option maxHeartbeats 4000000 in
set_option maxRecDepth 100000 in
theorem gX2_comesToAll {E : kw_E} {d : Nat} (a1 : Int32) (σ : kw_M) {r : Int32} (h : fX2_comesToAll a1 σ = some r) : kw_Met E kwTX 48 (d + 2) μX2_comesToAll [.ref 5, .int a1] σ (some (Value.int r)) σ := by
  refine kw_enter plRX2 (Nat.le_of_ble_eq_true rfl) ?_
  show kw_G E kwTX 48 (d + 2) μX2_comesToAll 0 [(0, .ref 5), (1, .int a1)] [] σ (some (Value.int r)) σ
  unfold fX2_comesToAll at h
  refine kg_iconst dX2_comesToAll_0 ki_0 (pc2 := 1) rfl ?_
  refine kg_istore_n dX2_comesToAll_1 rfl (Nat.le_of_ble_eq_true rfl) rfl (lv2 := [(2, .int (0 : Int32)), (0, .ref 5), (1, .int a1)]) rfl (pc2 := 2) rfl ?_
  refine kg_sub [1, 2, 0] (lv2 := [(0, .ref 5), (1, .int a1), (2, .int (0 : Int32))]) rfl ?_
  obtain ⟨x5, x5h, h⟩ := kw_bind_e h
  refine kw_loop_e (P := fun s => kw_G E kwTX 48 (d + 2) μX2_comesToAll 2 [(0, .ref 5), (1, .int a1), (2, .int s)] [] σ (some (Value.int r)) σ) (K := Sum.elim (fun rr => (some (Value.int r)) = some (Value.int rr) ∧ σ = σ) (fun y => kw_G E kwTX 48 (d + 2) μX2_comesToAll 27 [] [] σ (some (Value.int r)) σ)) (fun s o h0 hk => lX2_comesToAll_2 a1 σ s h0 hk) kw_F _ _ x5h ?_
  rcases x5 with x5r | x5
  · replace h := kw_se_l h
    cases h
    exact ⟨rfl, rfl⟩
  · replace h := kw_se_r h
    show kw_G E kwTX 48 (d + 2) μX2_comesToAll 27 [] [] σ (some (Value.int r)) σ
    refine kg_iconst dX2_comesToAll_27 ki_1 (pc2 := 28) rfl ?_
    cases h
    exact kg_iret (ty := .boolean) dX2_comesToAll_28 rfl rfl
set_option maxHeartbeats 4000000 in
set_option maxRecDepth 100000 in
theorem gjX2_reachOf_52_L7 {E : kw_E} {d : Nat} (v1 : Int32) (v4 : Int32) (σ : kw_M) {v : Option Value} {σ2 : kw_M} {o : (Int64 × Int32) ⊕ (Int64)} (h : jX2_reachOf_52_L7 v1 v4 σ = some o) (hk : Sum.elim (fun s => kw_G E kwTX 48 (d + 2) μX2_reachOf 7 [(0, .ref 5), (1, .int v1), (2, .long s.1), (4, .int s.2)] [] σ v σ2) (fun y => kw_G E kwTX 48 (d + 2) μX2_reachOf 66 [(2, .long y)] [] σ v σ2) o) : kw_G E kwTX 48 (d + 2) μX2_reachOf 52 [(0, .ref 5), (1, .int v1), (4, .int v4)] [] σ v σ2 := by
  unfold jX2_reachOf_52_L7 at h
  refine kg_aload_n 0 dX2_reachOf_52 rfl (pc2 := 53) rfl ?_
  refine kg_iload_n 1 dX2_reachOf_53 rfl (pc2 := 54) rfl ?_
  refine kg_iload 2 dX2_reachOf_54 rfl (pc2 := 56) rfl ?_
  obtain ⟨r8, r8h, h⟩ := kw_bind_e h
  refine kg_callV (μ := μX2_reachOf) (d := (d + 1)) rfl mVX2_span [.int v1, .int v4] [] (gX2_span (E := E) (d := (d + 1)) v1 v4 σ r8h) rfl lmRX2_39 (ci := 2) rfl tX_5 eX_5 rfl (Nat.le_of_ble_eq_true rfl) dX2_reachOf_56 rfl (st2 := [.long r8]) rfl (pc2 := 59) rfl ?_
  refine kg_lstore_n dX2_reachOf_59 rfl (Nat.le_of_ble_eq_true rfl) rfl (lv2 := [(2, .long r8), (0, .ref 5), (1, .int v1), (4, .int v4)]) rfl (pc2 := 60) rfl ?_
  obtain ⟨x9, x9e, h⟩ := kw_let_e h
  refine kg_iinc 3 dX2_reachOf_60 rfl (Nat.le_of_ble_eq_true rfl) x9e (lv2 := [(4, .int x9), (2, .long r8), (0, .ref 5), (1, .int v1)]) rfl (pc2 := 63) rfl ?_
  refine kg_goto 7 dX2_reachOf_63 rfl ?_
  refine kg_sub [2, 3, 1, 0] (lv2 := [(0, .ref 5), (1, .int v1), (2, .long r8), (4, .int x9)]) rfl ?_
  cases h
  exact hk
set_option maxHeartbeats 4000000 in
set_option maxRecDepth 100000 in
theorem lX2_reachOf_7 {E : kw_E} {d : Nat} (v1 : Int32) (σ : kw_M) (v2 : Int64) (v4 : Int32) {v : Option Value} {σ2 : kw_M} {o : (Int64 × Int32) ⊕ (Int64)} (h : bX2_reachOf_7 v1 σ v2 v4 = some o) (hk : Sum.elim (fun s => kw_G E kwTX 48 (d + 2) μX2_reachOf 7 [(0, .ref 5), (1, .int v1), (2, .long s.1), (4, .int s.2)] [] σ v σ2) (fun y => kw_G E kwTX 48 (d + 2) μX2_reachOf 66 [(2, .long y)] [] σ v σ2) o) : kw_G E kwTX 48 (d + 2) μX2_reachOf 7 [(0, .ref 5), (1, .int v1), (2, .long v2), (4, .int v4)] [] σ v σ2 := by
  unfold bX2_reachOf_7 at h
  refine kg_iload 3 dX2_reachOf_7 rfl (pc2 := 9) rfl ?_
  refine kg_aload_n 0 dX2_reachOf_9 rfl (pc2 := 10) rfl ?_
  refine kg_geti clX2 rfl 1 (Nat.le_of_ble_eq_true rfl) lfRX2_24 tX_5 eX_5 rfl dX2_reachOf_10 (pc2 := 13) rfl ?_
  refine kg_icmp_ge 66 dX2_reachOf_13 rfl (pc2 := 16) rfl (fun q1 => ?_) (fun q1 => ?_)
  · replace h := (if_pos q1).symm.trans h
    refine kg_sub [2] (lv2 := [(2, .long v2)]) rfl ?_
    cases h
    exact hk
  · replace h := (if_neg q1).symm.trans h
    refine kg_iload 3 dX2_reachOf_16 rfl (pc2 := 18) rfl ?_
    refine kg_iload_n 1 dX2_reachOf_18 rfl (pc2 := 19) rfl ?_
    refine kg_icmp_eq 60 dX2_reachOf_19 rfl (pc2 := 22) rfl (fun q2 => ?_) (fun q2 => ?_)
    · replace h := (if_pos q2).symm.trans h
      obtain ⟨x3, x3e, h⟩ := kw_let_e h
      refine kg_iinc 3 dX2_reachOf_60 rfl (Nat.le_of_ble_eq_true rfl) x3e (lv2 := [(4, .int x3), (0, .ref 5), (1, .int v1), (2, .long v2)]) rfl (pc2 := 63) rfl ?_
      refine kg_goto 7 dX2_reachOf_63 rfl ?_
      refine kg_sub [1, 2, 3, 0] (lv2 := [(0, .ref 5), (1, .int v1), (2, .long v2), (4, .int x3)]) rfl ?_
      cases h
      exact hk
    · replace h := (if_neg q2).symm.trans h
      refine kg_aload_n 0 dX2_reachOf_22 rfl (pc2 := 23) rfl ?_
      refine kg_iload_n 1 dX2_reachOf_23 rfl (pc2 := 24) rfl ?_
      refine kg_iload 3 dX2_reachOf_24 rfl (pc2 := 26) rfl ?_
      obtain ⟨r4, r4h, h⟩ := kw_bind_e h
      refine kg_callV (μ := μX2_reachOf) (d := (d + 1)) rfl mVX2_comesTo [.int v1, .int v4] [] (gX2_comesTo (E := E) (d := d) v1 v4 σ r4h) rfl lmRX2_45 (ci := 2) rfl tX_5 eX_5 rfl (Nat.le_of_ble_eq_true rfl) dX2_reachOf_26 rfl (st2 := [.int r4]) rfl (pc2 := 29) rfl ?_
      refine kg_if_eq 60 dX2_reachOf_29 rfl (pc2 := 32) rfl (fun q5 => ?_) (fun q5 => ?_)
      · replace h := (if_pos q5).symm.trans h
        obtain ⟨x6, x6e, h⟩ := kw_let_e h
        refine kg_iinc 3 dX2_reachOf_60 rfl (Nat.le_of_ble_eq_true rfl) x6e (lv2 := [(4, .int x6), (0, .ref 5), (1, .int v1), (2, .long v2)]) rfl (pc2 := 63) rfl ?_
        refine kg_goto 7 dX2_reachOf_63 rfl ?_
        refine kg_sub [1, 2, 3, 0] (lv2 := [(0, .ref 5), (1, .int v1), (2, .long v2), (4, .int x6)]) rfl ?_
        cases h
        exact hk
      · replace h := (if_neg q5).symm.trans h
        refine kg_lload_n 2 dX2_reachOf_32 rfl (pc2 := 33) rfl ?_
        refine kg_ldc2 rfl lcRX2_43 dX2_reachOf_33 (pc2 := 36) rfl ?_
        refine kg_lcmp_eq 52 dX2_reachOf_36 dX2_reachOf_37 rfl (pc2 := 40) rfl (fun q7 => ?_) (fun q7 => ?_)
        · replace h := (if_pos q7).symm.trans h
          refine kg_sub [0, 1, 3] (lv2 := [(0, .ref 5), (1, .int v1), (4, .int v4)]) rfl ?_
          exact gjX2_reachOf_52_L7 v1 v4 σ h hk
        · replace h := (if_neg q7).symm.trans h
          refine kg_aload_n 0 dX2_reachOf_40 rfl (pc2 := 41) rfl ?_
          refine kg_iload_n 1 dX2_reachOf_41 rfl (pc2 := 42) rfl ?_
          refine kg_iload 3 dX2_reachOf_42 rfl (pc2 := 44) rfl ?_
          obtain ⟨r10, r10h, h⟩ := kw_bind_e h
          refine kg_callV (μ := μX2_reachOf) (d := (d + 1)) rfl mVX2_span [.int v1, .int v4] [] (gX2_span (E := E) (d := (d + 1)) v1 v4 σ r10h) rfl lmRX2_39 (ci := 2) rfl tX_5 eX_5 rfl (Nat.le_of_ble_eq_true rfl) dX2_reachOf_44 rfl (st2 := [.long r10]) rfl (pc2 := 47) rfl ?_
          refine kg_lload_n 2 dX2_reachOf_47 rfl (pc2 := 48) rfl ?_
          refine kg_lcmp_le 60 dX2_reachOf_48 dX2_reachOf_49 rfl (pc2 := 52) rfl (fun q11 => ?_) (fun q11 => ?_)
          · replace h := (if_pos q11).symm.trans h
            obtain ⟨x12, x12e, h⟩ := kw_let_e h
            refine kg_iinc 3 dX2_reachOf_60 rfl (Nat.le_of_ble_eq_true rfl) x12e (lv2 := [(4, .int x12), (0, .ref 5), (1, .int v1), (2, .long v2)]) rfl (pc2 := 63) rfl ?_
            refine kg_goto 7 dX2_reachOf_63 rfl ?_
            refine kg_sub [1, 2, 3, 0] (lv2 := [(0, .ref 5), (1, .int v1), (2, .long v2), (4, .int x12)]) rfl ?_
            cases h
            exact hk
          · replace h := (if_neg q11).symm.trans h
            refine kg_sub [0, 1, 3] (lv2 := [(0, .ref 5), (1, .int v1), (4, .int v4)]) rfl ?_
            exact gjX2_reachOf_52_L7 v1 v4 σ h hk
