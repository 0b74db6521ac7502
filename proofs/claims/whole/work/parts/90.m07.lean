/-! The reference, method by method: the machine does what f says (g). -/
set_option maxHeartbeats 4000000 in
set_option maxRecDepth 100000 in
theorem gjX10_town_287 {E : kw_E} {d : Nat} (v1 : Int32) (v2 : Int32) (σ : kw_M) {r : Int64 × kw_M} (h : jX10_town_287 v1 v2 σ = some r) : kw_G E kwTM 21 (d + 6) μX10_town 287 [(0, .ref 0), (1, .int v1), (2, .int v2)] [] σ (some (Value.long r.1)) r.2 := by
  unfold jX10_town_287 at h
  refine kg_aload_n 0 dX10_town_287 rfl (pc2 := 288) rfl ?_
  obtain ⟨r29, r29h, h⟩ := kw_bind_e h
  refine kg_callV (μ := μX10_town) (d := (d + 5)) rfl mVX10_findsPairs [] [] (gX10_findsPairs (E := E) (d := (d + 2)) σ r29h) rfl lmRX10_324 (ci := 10) rfl tM_0 eM_0 rfl (Nat.le_of_ble_eq_true rfl) dX10_town_288 rfl (st2 := []) rfl (pc2 := 291) rfl ?_
  refine kg_iload_n 2 dX10_town_291 rfl (pc2 := 292) rfl ?_
  by_cases q30 : v2 = (8 : Int32)
  · replace h := (if_pos q30).symm.trans h
    refine kg_tsIn (off := 48) 340 dX10_town_292 (by rw [q30]; decide) (by rw [q30]; decide) (by rw [q30]; decide) rfl ?_
    refine kg_aload_n 0 dX10_town_340 rfl (pc2 := 341) rfl ?_
    refine kg_iload_n 1 dX10_town_341 rfl (pc2 := 342) rfl ?_
    obtain ⟨r31, r31h, h⟩ := kw_bind_e h
    refine kg_callV (μ := μX10_town) (d := (d + 5)) rfl mVX10_reachOf [.int v1] [] (gX10_reachOf (E := E) (d := (d + 4)) v1 r29 r31h) rfl lmRX10_330 (ci := 10) rfl tM_0 eM_0 rfl (Nat.le_of_ble_eq_true rfl) dX10_town_342 rfl (st2 := [.long r31]) rfl (pc2 := 345) rfl ?_
    obtain ⟨r32, r32h, h⟩ := kw_bind_e h
    refine kg_callS (μ := μX10_town) (d := (d + 5)) rfl mSX10_told [.long r31] [] (gX10_told (E := E) (d := (d + 5)) r31 r29 r32h) rfl lmRX10_336 rfl (Nat.le_of_ble_eq_true rfl) dX10_town_345 rfl (st2 := [.long r32]) rfl (pc2 := 348) rfl ?_
    cases h
    exact kg_lret dX10_town_348 rfl
  · replace h := (if_neg q30).symm.trans h
    by_cases q33 : v2 = (9 : Int32)
    · replace h := (if_pos q33).symm.trans h
      refine kg_tsIn (off := 57) 349 dX10_town_292 (by rw [q33]; decide) (by rw [q33]; decide) (by rw [q33]; decide) rfl ?_
      refine kg_aload_n 0 dX10_town_349 rfl (pc2 := 350) rfl ?_
      refine kg_iload_n 1 dX10_town_350 rfl (pc2 := 351) rfl ?_
      obtain ⟨r34, r34h, h⟩ := kw_bind_e h
      refine kg_callV (μ := μX10_town) (d := (d + 5)) rfl mVX10_ringOf [.int v1] [] (gX10_ringOf (E := E) (d := (d + 3)) v1 r29 r34h) rfl lmRX10_363 (ci := 10) rfl tM_0 eM_0 rfl (Nat.le_of_ble_eq_true rfl) dX10_town_351 rfl (st2 := [.long r34]) rfl (pc2 := 354) rfl ?_
      obtain ⟨r35, r35h, h⟩ := kw_bind_e h
      refine kg_callS (μ := μX10_town) (d := (d + 5)) rfl mSX10_told [.long r34] [] (gX10_told (E := E) (d := (d + 5)) r34 r29 r35h) rfl lmRX10_336 rfl (Nat.le_of_ble_eq_true rfl) dX10_town_354 rfl (st2 := [.long r35]) rfl (pc2 := 357) rfl ?_
      cases h
      exact kg_lret dX10_town_357 rfl
    · replace h := (if_neg q33).symm.trans h
      by_cases q36 : v2 = (10 : Int32)
      · replace h := (if_pos q36).symm.trans h
        refine kg_tsIn (off := 80) 372 dX10_town_292 (by rw [q36]; decide) (by rw [q36]; decide) (by rw [q36]; decide) rfl ?_
        refine kg_ldc2 rfl lcRX10_99 dX10_town_372 (pc2 := 375) rfl ?_
        cases h
        exact kg_lret dX10_town_375 rfl
      · replace h := (if_neg q36).symm.trans h
        by_cases q37 : v2 = (11 : Int32)
        · replace h := (if_pos q37).symm.trans h
          refine kg_tsIn (off := 80) 372 dX10_town_292 (by rw [q37]; decide) (by rw [q37]; decide) (by rw [q37]; decide) rfl ?_
          refine kg_ldc2 rfl lcRX10_99 dX10_town_372 (pc2 := 375) rfl ?_
          cases h
          exact kg_lret dX10_town_375 rfl
        · replace h := (if_neg q37).symm.trans h
          by_cases q38 : v2 = (12 : Int32)
          · replace h := (if_pos q38).symm.trans h
            refine kg_tsIn (off := 66) 358 dX10_town_292 (by rw [q38]; decide) (by rw [q38]; decide) (by rw [q38]; decide) rfl ?_
            refine kg_aload_n 0 dX10_town_358 rfl (pc2 := 359) rfl ?_
            refine kg_iload_n 1 dX10_town_359 rfl (pc2 := 360) rfl ?_
            obtain ⟨r39, r39h, h⟩ := kw_bind_e h
            refine kg_callV (μ := μX10_town) (d := (d + 5)) rfl mVX10_groupOf [.int v1] [] (gX10_groupOf (E := E) (d := (d + 5)) v1 r29 r39h) rfl lmRX10_366 (ci := 10) rfl tM_0 eM_0 rfl (Nat.le_of_ble_eq_true rfl) dX10_town_360 rfl (st2 := [.int r39]) rfl (pc2 := 363) rfl ?_
            refine kg_i2l dX10_town_363 (pc2 := 364) rfl ?_
            cases h
            exact kg_lret dX10_town_364 rfl
          · replace h := (if_neg q38).symm.trans h
            by_cases q40 : v2 = (13 : Int32)
            · replace h := (if_pos q40).symm.trans h
              refine kg_tsIn (off := 80) 372 dX10_town_292 (by rw [q40]; decide) (by rw [q40]; decide) (by rw [q40]; decide) rfl ?_
              refine kg_ldc2 rfl lcRX10_99 dX10_town_372 (pc2 := 375) rfl ?_
              cases h
              exact kg_lret dX10_town_375 rfl
            · replace h := (if_neg q40).symm.trans h
              by_cases q41 : v2 = (14 : Int32)
              · replace h := (if_pos q41).symm.trans h
                refine kg_tsIn (off := 80) 372 dX10_town_292 (by rw [q41]; decide) (by rw [q41]; decide) (by rw [q41]; decide) rfl ?_
                refine kg_ldc2 rfl lcRX10_99 dX10_town_372 (pc2 := 375) rfl ?_
                cases h
                exact kg_lret dX10_town_375 rfl
              · replace h := (if_neg q41).symm.trans h
                by_cases q42 : v2 = (15 : Int32)
                · replace h := (if_pos q42).symm.trans h
                  refine kg_tsIn (off := 73) 365 dX10_town_292 (by rw [q42]; decide) (by rw [q42]; decide) (by rw [q42]; decide) rfl ?_
                  refine kg_aload_n 0 dX10_town_365 rfl (pc2 := 366) rfl ?_
                  refine kg_iload_n 1 dX10_town_366 rfl (pc2 := 367) rfl ?_
                  obtain ⟨r43, r43h, h⟩ := kw_bind_e h
                  refine kg_callV (μ := μX10_town) (d := (d + 5)) rfl mVX10_comeTo [.int v1] [] (gX10_comeTo (E := E) (d := (d + 4)) v1 r29 r43h) rfl lmRX10_369 (ci := 10) rfl tM_0 eM_0 rfl (Nat.le_of_ble_eq_true rfl) dX10_town_367 rfl (st2 := [.int r43]) rfl (pc2 := 370) rfl ?_
                  refine kg_i2l dX10_town_370 (pc2 := 371) rfl ?_
                  cases h
                  exact kg_lret dX10_town_371 rfl
                · replace h := (if_neg q42).symm.trans h
                  refine kg_tsOut 372 dX10_town_292 (by have a0 := kw_neI (n := 8) (by decide) q30; have a1 := kw_neI (n := 9) (by decide) q33; have a2 := kw_neI (n := 10) (by decide) q36; have a3 := kw_neI (n := 11) (by decide) q37; have a4 := kw_neI (n := 12) (by decide) q38; have a5 := kw_neI (n := 13) (by decide) q40; have a6 := kw_neI (n := 14) (by decide) q41; have a7 := kw_neI (n := 15) (by decide) q42; omega) rfl ?_
                  refine kg_ldc2 rfl lcRX10_99 dX10_town_372 (pc2 := 375) rfl ?_
                  cases h
                  exact kg_lret dX10_town_375 rfl
set_option maxHeartbeats 4000000 in
set_option maxRecDepth 100000 in
theorem gX10_town {E : kw_E} {d : Nat} (a1 : Int32) (a2 : Int32) (σ : kw_M) {r : Int64 × kw_M} (h : fX10_town a1 a2 σ = some r) : kw_Met E kwTM 21 (d + 6) μX10_town [.ref 0, .int a1, .int a2] σ (some (Value.long r.1)) r.2 := by
  refine kw_enter plRX10 (Nat.le_of_ble_eq_true rfl) ?_
  show kw_G E kwTM 21 (d + 6) μX10_town 0 [(0, .ref 0), (1, .int a1), (2, .int a2)] [] σ (some (Value.long r.1)) r.2
  unfold fX10_town at h
  refine kg_aload_n 0 dX10_town_0 rfl (pc2 := 1) rfl ?_
  refine kg_iload_n 1 dX10_town_1 rfl (pc2 := 2) rfl ?_
  obtain ⟨r1, r1h, h⟩ := kw_bind_e h
  refine kg_callV (μ := μX10_town) (d := (d + 5)) rfl mVX10_isTown [.int a1] [] (gX10_isTown (E := E) (d := (d + 4)) a1 σ r1h) rfl lmRX10_121 (ci := 10) rfl tM_0 eM_0 rfl (Nat.le_of_ble_eq_true rfl) dX10_town_2 rfl (st2 := [.int r1]) rfl (pc2 := 5) rfl ?_
  refine kg_if_ne 12 dX10_town_5 rfl (pc2 := 8) rfl (fun q2 => ?_) (fun q2 => ?_)
  · replace h := (if_neg q2).symm.trans h
    refine kg_aload_n 0 dX10_town_12 rfl (pc2 := 13) rfl ?_
    obtain ⟨r3, r3h, h⟩ := kw_bind_e h
    refine kg_callV (μ := μX10_town) (d := (d + 5)) rfl mVX10_settles [] [] (gX10_settles (E := E) (d := (d + 2)) σ r3h) rfl lmRX10_104 (ci := 10) rfl tM_0 eM_0 rfl (Nat.le_of_ble_eq_true rfl) dX10_town_13 rfl (st2 := []) rfl (pc2 := 16) rfl ?_
    refine kg_iload_n 2 dX10_town_16 rfl (pc2 := 17) rfl ?_
    by_cases q4 : a2 = (0 : Int32)
    · replace h := (if_pos q4).symm.trans h
      refine kg_tsIn (off := 75) 92 dX10_town_17 (by rw [q4]; decide) (by rw [q4]; decide) (by rw [q4]; decide) rfl ?_
      refine kg_aload_n 0 dX10_town_92 rfl (pc2 := 93) rfl ?_
      refine kg_getr clX10 rfl 3 (Nat.le_of_ble_eq_true rfl) lfRX10_17 tM_0 eM_0 rfl dX10_town_93 (pc2 := 96) rfl ?_
      refine kg_iload_n 1 dX10_town_96 rfl (pc2 := 97) rfl ?_
      obtain ⟨q5, h⟩ := kw_chk_e h
      refine kg_lald tM_3 eM_3 q5 (j := a1.toNatClampNeg) rfl dX10_town_97 (pc2 := 98) rfl ?_
      obtain ⟨r6, r6h, h⟩ := kw_bind_e h
      refine kg_callS (μ := μX10_town) (d := (d + 5)) rfl mSX10_told [.long (r3.2 3 a1.toNatClampNeg)] [] (gX10_told (E := E) (d := (d + 5)) (r3.2 3 a1.toNatClampNeg) r3 r6h) rfl lmRX10_336 rfl (Nat.le_of_ble_eq_true rfl) dX10_town_98 rfl (st2 := [.long r6]) rfl (pc2 := 101) rfl ?_
      cases h
      exact kg_lret dX10_town_101 rfl
    · replace h := (if_neg q4).symm.trans h
      by_cases q7 : a2 = (1 : Int32)
      · replace h := (if_pos q7).symm.trans h
        refine kg_tsIn (off := 85) 102 dX10_town_17 (by rw [q7]; decide) (by rw [q7]; decide) (by rw [q7]; decide) rfl ?_
        refine kg_aload_n 0 dX10_town_102 rfl (pc2 := 103) rfl ?_
        refine kg_iload_n 1 dX10_town_103 rfl (pc2 := 104) rfl ?_
        obtain ⟨r8, r8h, h⟩ := kw_bind_e h
        refine kg_callV (μ := μX10_town) (d := (d + 5)) rfl mVX10_parentOf [.int a1] [] (gX10_parentOf (E := E) (d := (d + 2)) a1 r3 r8h) rfl lmRX10_306 (ci := 10) rfl tM_0 eM_0 rfl (Nat.le_of_ble_eq_true rfl) dX10_town_104 rfl (st2 := [.int r8]) rfl (pc2 := 107) rfl ?_
        refine kg_iconst dX10_town_107 ki_m1 (pc2 := 108) rfl ?_
        refine kg_icmp_ne 117 dX10_town_108 rfl (pc2 := 111) rfl (fun q9 => ?_) (fun q9 => ?_)
        · replace h := (if_neg q9).symm.trans h
          refine kg_aload_n 0 dX10_town_117 rfl (pc2 := 118) rfl ?_
          refine kg_iload_n 1 dX10_town_118 rfl (pc2 := 119) rfl ?_
          obtain ⟨r10, r10h, h⟩ := kw_bind_e h
          refine kg_callV (μ := μX10_town) (d := (d + 5)) rfl mVX10_parentOf [.int a1] [] (gX10_parentOf (E := E) (d := (d + 2)) a1 r3 r10h) rfl lmRX10_306 (ci := 10) rfl tM_0 eM_0 rfl (Nat.le_of_ble_eq_true rfl) dX10_town_119 rfl (st2 := [.int r10]) rfl (pc2 := 122) rfl ?_
          refine kg_i2l dX10_town_122 (pc2 := 123) rfl ?_
          cases h
          exact kg_lret dX10_town_123 rfl
        · replace h := (if_pos q9).symm.trans h
          refine kg_ldc2 rfl lcRX10_340 dX10_town_111 (pc2 := 114) rfl ?_
          refine kg_goto 123 dX10_town_114 rfl ?_
          cases h
          exact kg_lret dX10_town_123 rfl
      · replace h := (if_neg q7).symm.trans h
        by_cases q11 : a2 = (2 : Int32)
        · replace h := (if_pos q11).symm.trans h
          refine kg_tsIn (off := 107) 124 dX10_town_17 (by rw [q11]; decide) (by rw [q11]; decide) (by rw [q11]; decide) rfl ?_
          refine kg_aload_n 0 dX10_town_124 rfl (pc2 := 125) rfl ?_
          refine kg_iload_n 1 dX10_town_125 rfl (pc2 := 126) rfl ?_
          obtain ⟨r12, r12h, h⟩ := kw_bind_e h
          refine kg_callV (μ := μX10_town) (d := (d + 5)) rfl mVX10_goesBack [.int a1] [] (gX10_goesBack (E := E) (d := (d + 1)) a1 r3 r12h) rfl lmRX10_315 (ci := 10) rfl tM_0 eM_0 rfl (Nat.le_of_ble_eq_true rfl) dX10_town_126 rfl (st2 := [.int r12.1]) rfl (pc2 := 129) rfl ?_
          refine kg_iconst dX10_town_129 ki_m1 (pc2 := 130) rfl ?_
          refine kg_icmp_ne 139 dX10_town_130 rfl (pc2 := 133) rfl (fun q13 => ?_) (fun q13 => ?_)
          · replace h := (if_neg q13).symm.trans h
            refine kg_aload_n 0 dX10_town_139 rfl (pc2 := 140) rfl ?_
            refine kg_iload_n 1 dX10_town_140 rfl (pc2 := 141) rfl ?_
            obtain ⟨r14, r14h, h⟩ := kw_bind_e h
            refine kg_callV (μ := μX10_town) (d := (d + 5)) rfl mVX10_goesBack [.int a1] [] (gX10_goesBack (E := E) (d := (d + 1)) a1 r12.2 r14h) rfl lmRX10_315 (ci := 10) rfl tM_0 eM_0 rfl (Nat.le_of_ble_eq_true rfl) dX10_town_141 rfl (st2 := [.int r14.1]) rfl (pc2 := 144) rfl ?_
            refine kg_i2l dX10_town_144 (pc2 := 145) rfl ?_
            cases h
            exact kg_lret dX10_town_145 rfl
          · replace h := (if_pos q13).symm.trans h
            refine kg_ldc2 rfl lcRX10_340 dX10_town_133 (pc2 := 136) rfl ?_
            refine kg_goto 145 dX10_town_136 rfl ?_
            cases h
            exact kg_lret dX10_town_145 rfl
        · replace h := (if_neg q11).symm.trans h
          by_cases q15 : a2 = (3 : Int32)
          · replace h := (if_pos q15).symm.trans h
            refine kg_tsIn (off := 129) 146 dX10_town_17 (by rw [q15]; decide) (by rw [q15]; decide) (by rw [q15]; decide) rfl ?_
            refine kg_aload_n 0 dX10_town_146 rfl (pc2 := 147) rfl ?_
            refine kg_iload_n 1 dX10_town_147 rfl (pc2 := 148) rfl ?_
            obtain ⟨r16, r16h, h⟩ := kw_bind_e h
            refine kg_callV (μ := μX10_town) (d := (d + 5)) rfl mVX10_tightTo [.int a1] [] (gX10_tightTo (E := E) (d := (d + 2)) a1 r3 r16h) rfl lmRX10_342 (ci := 10) rfl tM_0 eM_0 rfl (Nat.le_of_ble_eq_true rfl) dX10_town_148 rfl (st2 := [.int r16]) rfl (pc2 := 151) rfl ?_
            refine kg_i2l dX10_town_151 (pc2 := 152) rfl ?_
            cases h
            exact kg_lret dX10_town_152 rfl
          · replace h := (if_neg q15).symm.trans h
            by_cases q17 : a2 = (4 : Int32)
            · replace h := (if_pos q17).symm.trans h
              refine kg_tsIn (off := 136) 153 dX10_town_17 (by rw [q17]; decide) (by rw [q17]; decide) (by rw [q17]; decide) rfl ?_
              refine kg_aload_n 0 dX10_town_153 rfl (pc2 := 154) rfl ?_
              refine kg_iconst dX10_town_154 ki_m1 (pc2 := 155) rfl ?_
              obtain ⟨r18, r18h, h⟩ := kw_bind_e h
              refine kg_callV (μ := μX10_town) (d := (d + 5)) rfl mVX10_countsWays [.int (-1 : Int32)] [] (gX10_countsWays (E := E) (d := (d + 2)) (-1 : Int32) r3 r18h) rfl lmRX10_309 (ci := 10) rfl tM_0 eM_0 rfl (Nat.le_of_ble_eq_true rfl) dX10_town_155 rfl (st2 := []) rfl (pc2 := 158) rfl ?_
              refine kg_aload_n 0 dX10_town_158 rfl (pc2 := 159) rfl ?_
              refine kg_getr clX10 rfl 21 (Nat.le_of_ble_eq_true rfl) lfRX10_42 tM_0 eM_0 rfl dX10_town_159 (pc2 := 162) rfl ?_
              refine kg_iload_n 1 dX10_town_162 rfl (pc2 := 163) rfl ?_
              obtain ⟨q19, h⟩ := kw_chk_e h
              refine kg_lald tM_11 eM_11 q19 (j := a1.toNatClampNeg) rfl dX10_town_163 (pc2 := 164) rfl ?_
              refine kg_ldc2 rfl lcRX10_87 dX10_town_164 (pc2 := 167) rfl ?_
              refine kg_lcmp_le 177 dX10_town_167 dX10_town_168 rfl (pc2 := 171) rfl (fun q20 => ?_) (fun q20 => ?_)
              · replace h := (if_pos q20).symm.trans h
                refine kg_aload_n 0 dX10_town_177 rfl (pc2 := 178) rfl ?_
                refine kg_getr clX10 rfl 21 (Nat.le_of_ble_eq_true rfl) lfRX10_42 tM_0 eM_0 rfl dX10_town_178 (pc2 := 181) rfl ?_
                refine kg_iload_n 1 dX10_town_181 rfl (pc2 := 182) rfl ?_
                refine kg_lald tM_11 eM_11 q19 (j := a1.toNatClampNeg) rfl dX10_town_182 (pc2 := 183) rfl ?_
                cases h
                exact kg_lret dX10_town_183 rfl
              · replace h := (if_neg q20).symm.trans h
                refine kg_ldc2 rfl lcRX10_87 dX10_town_171 (pc2 := 174) rfl ?_
                refine kg_goto 183 dX10_town_174 rfl ?_
                cases h
                exact kg_lret dX10_town_183 rfl
            · replace h := (if_neg q17).symm.trans h
              by_cases q21 : a2 = (5 : Int32)
              · replace h := (if_pos q21).symm.trans h
                refine kg_tsIn (off := 167) 184 dX10_town_17 (by rw [q21]; decide) (by rw [q21]; decide) (by rw [q21]; decide) rfl ?_
                refine kg_aload_n 0 dX10_town_184 rfl (pc2 := 185) rfl ?_
                refine kg_iload_n 1 dX10_town_185 rfl (pc2 := 186) rfl ?_
                obtain ⟨r22, r22h, h⟩ := kw_bind_e h
                refine kg_callV (μ := μX10_town) (d := (d + 5)) rfl mVX10_neededMany [.int a1] [] (gX10_neededMany (E := E) (d := d) a1 r3 r22h) rfl lmRX10_345 (ci := 10) rfl tM_0 eM_0 rfl (Nat.le_of_ble_eq_true rfl) dX10_town_186 rfl (st2 := [.int r22.1]) rfl (pc2 := 189) rfl ?_
                refine kg_i2l dX10_town_189 (pc2 := 190) rfl ?_
                cases h
                exact kg_lret dX10_town_190 rfl
              · replace h := (if_neg q21).symm.trans h
                by_cases q23 : a2 = (6 : Int32)
                · replace h := (if_pos q23).symm.trans h
                  refine kg_tsIn (off := 174) 191 dX10_town_17 (by rw [q23]; decide) (by rw [q23]; decide) (by rw [q23]; decide) rfl ?_
                  refine kg_aload_n 0 dX10_town_191 rfl (pc2 := 192) rfl ?_
                  refine kg_iload_n 1 dX10_town_192 rfl (pc2 := 193) rfl ?_
                  obtain ⟨r24, r24h, h⟩ := kw_bind_e h
                  refine kg_callV (μ := μX10_town) (d := (d + 5)) rfl mVX10_dearestOf [.int a1] [] (gX10_dearestOf (E := E) (d := d) a1 r3 r24h) rfl lmRX10_348 (ci := 10) rfl tM_0 eM_0 rfl (Nat.le_of_ble_eq_true rfl) dX10_town_193 rfl (st2 := [.int r24.1]) rfl (pc2 := 196) rfl ?_
                  refine kg_i2l dX10_town_196 (pc2 := 197) rfl ?_
                  cases h
                  exact kg_lret dX10_town_197 rfl
                · replace h := (if_neg q23).symm.trans h
                  by_cases q25 : a2 = (7 : Int32)
                  · replace h := (if_pos q25).symm.trans h
                    refine kg_tsIn (off := 181) 198 dX10_town_17 (by rw [q25]; decide) (by rw [q25]; decide) (by rw [q25]; decide) rfl ?_
                    refine kg_aload_n 0 dX10_town_198 rfl (pc2 := 199) rfl ?_
                    refine kg_iload_n 1 dX10_town_199 rfl (pc2 := 200) rfl ?_
                    obtain ⟨r26, r26h, h⟩ := kw_bind_e h
                    refine kg_callV (μ := μX10_town) (d := (d + 5)) rfl mVX10_nextOf [.int a1] [] (gX10_nextOf (E := E) (d := (d + 1)) a1 r3 r26h) rfl lmRX10_351 (ci := 10) rfl tM_0 eM_0 rfl (Nat.le_of_ble_eq_true rfl) dX10_town_200 rfl (st2 := [.long r26.1]) rfl (pc2 := 203) rfl ?_
                    obtain ⟨r27, r27h, h⟩ := kw_bind_e h
                    refine kg_callS (μ := μX10_town) (d := (d + 5)) rfl mSX10_told [.long r26.1] [] (gX10_told (E := E) (d := (d + 5)) r26.1 r26.2 r27h) rfl lmRX10_336 rfl (Nat.le_of_ble_eq_true rfl) dX10_town_203 rfl (st2 := [.long r27]) rfl (pc2 := 206) rfl ?_
                    cases h
                    exact kg_lret dX10_town_206 rfl
                  · replace h := (if_neg q25).symm.trans h
                    by_cases q28 : a2 = (8 : Int32)
                    · replace h := (if_pos q28).symm.trans h
                      refine kg_tsIn (off := 270) 287 dX10_town_17 (by rw [q28]; decide) (by rw [q28]; decide) (by rw [q28]; decide) rfl ?_
                      exact gjX10_town_287 a1 a2 r3 h
                    · replace h := (if_neg q28).symm.trans h
                      by_cases q44 : a2 = (9 : Int32)
                      · replace h := (if_pos q44).symm.trans h
                        refine kg_tsIn (off := 270) 287 dX10_town_17 (by rw [q44]; decide) (by rw [q44]; decide) (by rw [q44]; decide) rfl ?_
                        exact gjX10_town_287 a1 a2 r3 h
                      · replace h := (if_neg q44).symm.trans h
                        by_cases q45 : a2 = (10 : Int32)
                        · replace h := (if_pos q45).symm.trans h
                          refine kg_tsIn (off := 190) 207 dX10_town_17 (by rw [q45]; decide) (by rw [q45]; decide) (by rw [q45]; decide) rfl ?_
                          refine kg_aload_n 0 dX10_town_207 rfl (pc2 := 208) rfl ?_
                          refine kg_getr clX10 rfl 0 (Nat.le_of_ble_eq_true rfl) lfRX10_7 tM_0 eM_0 rfl dX10_town_208 (pc2 := 211) rfl ?_
                          refine kg_sipush dX10_town_211 ks_172 (pc2 := 214) rfl ?_
                          refine kg_iconst dX10_town_214 ki_3 (pc2 := 215) rfl ?_
                          refine kg_iload_n 1 dX10_town_215 rfl (pc2 := 216) rfl ?_
                          refine kg_imul dX10_town_216 (pc2 := 217) rfl ?_
                          refine kg_iadd dX10_town_217 (pc2 := 218) rfl ?_
                          obtain ⟨q46, h⟩ := kw_chk_e h
                          refine kg_iald tM_1 eM_1 q46 (j := ((172 : Int32) + ((3 : Int32) * a1)).toNatClampNeg) rfl dX10_town_218 (pc2 := 219) rfl ?_
                          refine kg_iconst dX10_town_219 ki_1 (pc2 := 220) rfl ?_
                          refine kg_icmp_ne 241 dX10_town_220 rfl (pc2 := 223) rfl (fun q47 => ?_) (fun q47 => ?_)
                          · replace h := (if_neg q47).symm.trans h
                            refine kg_ldc2 rfl lcRX10_99 dX10_town_241 (pc2 := 244) rfl ?_
                            cases h
                            exact kg_lret dX10_town_244 rfl
                          · replace h := (if_pos q47).symm.trans h
                            refine kg_aload_n 0 dX10_town_223 rfl (pc2 := 224) rfl ?_
                            refine kg_getr clX10 rfl 0 (Nat.le_of_ble_eq_true rfl) lfRX10_7 tM_0 eM_0 rfl dX10_town_224 (pc2 := 227) rfl ?_
                            refine kg_sipush dX10_town_227 ks_172 (pc2 := 230) rfl ?_
                            refine kg_iconst dX10_town_230 ki_3 (pc2 := 231) rfl ?_
                            refine kg_iload_n 1 dX10_town_231 rfl (pc2 := 232) rfl ?_
                            refine kg_imul dX10_town_232 (pc2 := 233) rfl ?_
                            refine kg_iadd dX10_town_233 (pc2 := 234) rfl ?_
                            refine kg_iconst dX10_town_234 ki_1 (pc2 := 235) rfl ?_
                            refine kg_iadd dX10_town_235 (pc2 := 236) rfl ?_
                            obtain ⟨q48, h⟩ := kw_chk_e h
                            refine kg_iald tM_1 eM_1 q48 (j := (((172 : Int32) + ((3 : Int32) * a1)) + (1 : Int32)).toNatClampNeg) rfl dX10_town_236 (pc2 := 237) rfl ?_
                            refine kg_i2l dX10_town_237 (pc2 := 238) rfl ?_
                            refine kg_goto 244 dX10_town_238 rfl ?_
                            cases h
                            exact kg_lret dX10_town_244 rfl
                        · replace h := (if_neg q45).symm.trans h
                          by_cases q49 : a2 = (11 : Int32)
                          · replace h := (if_pos q49).symm.trans h
                            refine kg_tsIn (off := 228) 245 dX10_town_17 (by rw [q49]; decide) (by rw [q49]; decide) (by rw [q49]; decide) rfl ?_
                            refine kg_aload_n 0 dX10_town_245 rfl (pc2 := 246) rfl ?_
                            refine kg_getr clX10 rfl 3 (Nat.le_of_ble_eq_true rfl) lfRX10_17 tM_0 eM_0 rfl dX10_town_246 (pc2 := 249) rfl ?_
                            refine kg_iload_n 1 dX10_town_249 rfl (pc2 := 250) rfl ?_
                            obtain ⟨q50, h⟩ := kw_chk_e h
                            refine kg_lald tM_3 eM_3 q50 (j := a1.toNatClampNeg) rfl dX10_town_250 (pc2 := 251) rfl ?_
                            refine kg_ldc2 rfl lcRX10_89 dX10_town_251 (pc2 := 254) rfl ?_
                            refine kg_lcmp_ne 262 dX10_town_254 dX10_town_255 rfl (pc2 := 258) rfl (fun q51 => ?_) (fun q51 => ?_)
                            · replace h := (if_neg q51).symm.trans h
                              refine kg_aload_n 0 dX10_town_262 rfl (pc2 := 263) rfl ?_
                              refine kg_iload_n 1 dX10_town_263 rfl (pc2 := 264) rfl ?_
                              obtain ⟨r52, r52h, h⟩ := kw_bind_e h
                              refine kg_callV (μ := μX10_town) (d := (d + 5)) rfl mVX10_belowOf [.int a1] [] (gX10_belowOf (E := E) (d := (d + 1)) a1 r3 r52h) rfl lmRX10_354 (ci := 10) rfl tM_0 eM_0 rfl (Nat.le_of_ble_eq_true rfl) dX10_town_264 rfl (st2 := [.int r52]) rfl (pc2 := 267) rfl ?_
                              refine kg_i2l dX10_town_267 (pc2 := 268) rfl ?_
                              cases h
                              exact kg_lret dX10_town_268 rfl
                            · replace h := (if_pos q51).symm.trans h
                              refine kg_lconst dX10_town_258 kl_0 (pc2 := 259) rfl ?_
                              refine kg_goto 268 dX10_town_259 rfl ?_
                              cases h
                              exact kg_lret dX10_town_268 rfl
                          · replace h := (if_neg q49).symm.trans h
                            by_cases q53 : a2 = (12 : Int32)
                            · replace h := (if_pos q53).symm.trans h
                              refine kg_tsIn (off := 270) 287 dX10_town_17 (by rw [q53]; decide) (by rw [q53]; decide) (by rw [q53]; decide) rfl ?_
                              exact gjX10_town_287 a1 a2 r3 h
                            · replace h := (if_neg q53).symm.trans h
                              by_cases q54 : a2 = (13 : Int32)
                              · replace h := (if_pos q54).symm.trans h
                                refine kg_tsIn (off := 252) 269 dX10_town_17 (by rw [q54]; decide) (by rw [q54]; decide) (by rw [q54]; decide) rfl ?_
                                refine kg_aload_n 0 dX10_town_269 rfl (pc2 := 270) rfl ?_
                                refine kg_iload_n 1 dX10_town_270 rfl (pc2 := 271) rfl ?_
                                obtain ⟨r55, r55h, h⟩ := kw_bind_e h
                                refine kg_callV (μ := μX10_town) (d := (d + 5)) rfl mVX10_narrowOf [.int a1] [] (gX10_narrowOf (E := E) (d := (d + 2)) a1 r3 r55h) rfl lmRX10_357 (ci := 10) rfl tM_0 eM_0 rfl (Nat.le_of_ble_eq_true rfl) dX10_town_271 rfl (st2 := [.long r55]) rfl (pc2 := 274) rfl ?_
                                obtain ⟨r56, r56h, h⟩ := kw_bind_e h
                                refine kg_callS (μ := μX10_town) (d := (d + 5)) rfl mSX10_told [.long r55] [] (gX10_told (E := E) (d := (d + 5)) r55 r3 r56h) rfl lmRX10_336 rfl (Nat.le_of_ble_eq_true rfl) dX10_town_274 rfl (st2 := [.long r56]) rfl (pc2 := 277) rfl ?_
                                cases h
                                exact kg_lret dX10_town_277 rfl
                              · replace h := (if_neg q54).symm.trans h
                                by_cases q57 : a2 = (14 : Int32)
                                · replace h := (if_pos q57).symm.trans h
                                  refine kg_tsIn (off := 261) 278 dX10_town_17 (by rw [q57]; decide) (by rw [q57]; decide) (by rw [q57]; decide) rfl ?_
                                  refine kg_aload_n 0 dX10_town_278 rfl (pc2 := 279) rfl ?_
                                  refine kg_iload_n 1 dX10_town_279 rfl (pc2 := 280) rfl ?_
                                  obtain ⟨r58, r58h, h⟩ := kw_bind_e h
                                  refine kg_callV (μ := μX10_town) (d := (d + 5)) rfl mVX10_apartOf [.int a1] [] (gX10_apartOf (E := E) (d := d) a1 r3 r58h) rfl lmRX10_360 (ci := 10) rfl tM_0 eM_0 rfl (Nat.le_of_ble_eq_true rfl) dX10_town_280 rfl (st2 := [.long r58.1]) rfl (pc2 := 283) rfl ?_
                                  obtain ⟨r59, r59h, h⟩ := kw_bind_e h
                                  refine kg_callS (μ := μX10_town) (d := (d + 5)) rfl mSX10_told [.long r58.1] [] (gX10_told (E := E) (d := (d + 5)) r58.1 r58.2 r59h) rfl lmRX10_336 rfl (Nat.le_of_ble_eq_true rfl) dX10_town_283 rfl (st2 := [.long r59]) rfl (pc2 := 286) rfl ?_
                                  cases h
                                  exact kg_lret dX10_town_286 rfl
                                · replace h := (if_neg q57).symm.trans h
                                  refine kg_tsOut 287 dX10_town_17 (by have a0 := kw_neI (n := 0) (by decide) q4; have a1 := kw_neI (n := 1) (by decide) q7; have a2 := kw_neI (n := 2) (by decide) q11; have a3 := kw_neI (n := 3) (by decide) q15; have a4 := kw_neI (n := 4) (by decide) q17; have a5 := kw_neI (n := 5) (by decide) q21; have a6 := kw_neI (n := 6) (by decide) q23; have a7 := kw_neI (n := 7) (by decide) q25; have a8 := kw_neI (n := 8) (by decide) q28; have a9 := kw_neI (n := 9) (by decide) q44; have a10 := kw_neI (n := 10) (by decide) q45; have a11 := kw_neI (n := 11) (by decide) q49; have a12 := kw_neI (n := 12) (by decide) q53; have a13 := kw_neI (n := 13) (by decide) q54; have a14 := kw_neI (n := 14) (by decide) q57; omega) rfl ?_
                                  exact gjX10_town_287 a1 a2 r3 h
  · replace h := (if_pos q2).symm.trans h
    refine kg_ldc2 rfl lcRX10_99 dX10_town_8 (pc2 := 11) rfl ?_
    cases h
    exact kg_lret dX10_town_11 rfl
set_option maxHeartbeats 4000000 in
set_option maxRecDepth 100000 in
theorem lX10_openMany_4 {E : kw_E} {d : Nat} (σ : kw_M) (v1 : Int32) (v2 : Int32) {v : Option Value} {σ2 : kw_M} {o : (Int32 × Int32) ⊕ (Int32)} (h : bX10_openMany_4 σ v1 v2 = some o) (hk : Sum.elim (fun s => kw_G E kwTM 21 (d + 1) μX10_openMany 4 [(0, .ref 0), (1, .int s.1), (2, .int s.2)] [] σ v σ2) (fun y => kw_G E kwTM 21 (d + 1) μX10_openMany 29 [(1, .int y)] [] σ v σ2) o) : kw_G E kwTM 21 (d + 1) μX10_openMany 4 [(0, .ref 0), (1, .int v1), (2, .int v2)] [] σ v σ2 := by
  unfold bX10_openMany_4 at h
  refine kg_iload_n 2 dX10_openMany_4 rfl (pc2 := 5) rfl ?_
  refine kg_aload_n 0 dX10_openMany_5 rfl (pc2 := 6) rfl ?_
  refine kg_getr clX10 rfl 0 (Nat.le_of_ble_eq_true rfl) lfRX10_7 tM_0 eM_0 rfl dX10_openMany_6 (pc2 := 9) rfl ?_
  refine kg_iconst dX10_openMany_9 ki_1 (pc2 := 10) rfl ?_
  refine kg_iald tM_1 eM_1 (show kw_in (1 : Int32) 2832 by decide) (j := 1) (by decide) dX10_openMany_10 (pc2 := 11) rfl ?_
  refine kg_icmp_ge 29 dX10_openMany_11 rfl (pc2 := 14) rfl (fun q1 => ?_) (fun q1 => ?_)
  · replace h := (if_pos q1).symm.trans h
    refine kg_sub [1] (lv2 := [(1, .int v1)]) rfl ?_
    cases h
    exact hk
  · replace h := (if_neg q1).symm.trans h
    refine kg_iload_n 1 dX10_openMany_14 rfl (pc2 := 15) rfl ?_
    refine kg_aload_n 0 dX10_openMany_15 rfl (pc2 := 16) rfl ?_
    refine kg_iload_n 2 dX10_openMany_16 rfl (pc2 := 17) rfl ?_
    refine kg_iconst dX10_openMany_17 ki_3 (pc2 := 18) rfl ?_
    obtain ⟨r2, r2h, h⟩ := kw_bind_e h
    refine kg_callV (μ := μX10_openMany) (d := d) rfl mVX10_of [.int v2, .int (3 : Int32)] [.int v1] (gX10_of (E := E) (d := d) v2 (3 : Int32) σ r2h) rfl lmRX10_73 (ci := 10) rfl tM_0 eM_0 rfl (Nat.le_of_ble_eq_true rfl) dX10_openMany_18 rfl (st2 := [.int r2, .int v1]) rfl (pc2 := 21) rfl ?_
    refine kg_iadd dX10_openMany_21 (pc2 := 22) rfl ?_
    obtain ⟨x3, x3e, h⟩ := kw_let_e h
    refine kg_istore_n dX10_openMany_22 rfl (Nat.le_of_ble_eq_true rfl) x3e (lv2 := [(1, .int x3), (0, .ref 0), (2, .int v2)]) rfl (pc2 := 23) rfl ?_
    obtain ⟨x4, x4e, h⟩ := kw_let_e h
    refine kg_iinc 2 dX10_openMany_23 rfl (Nat.le_of_ble_eq_true rfl) x4e (lv2 := [(2, .int x4), (1, .int x3), (0, .ref 0)]) rfl (pc2 := 26) rfl ?_
    refine kg_goto 4 dX10_openMany_26 rfl ?_
    refine kg_sub [2, 1, 0] (lv2 := [(0, .ref 0), (1, .int x3), (2, .int x4)]) rfl ?_
    cases h
    exact hk
set_option maxHeartbeats 4000000 in
set_option maxRecDepth 100000 in
theorem gX10_openMany {E : kw_E} {d : Nat} (σ : kw_M) {r : Int32} (h : fX10_openMany σ = some r) : kw_Met E kwTM 21 (d + 1) μX10_openMany [.ref 0] σ (some (Value.int r)) σ := by
  refine kw_enter plRX10 (Nat.le_of_ble_eq_true rfl) ?_
  show kw_G E kwTM 21 (d + 1) μX10_openMany 0 [(0, .ref 0)] [] σ (some (Value.int r)) σ
  unfold fX10_openMany at h
  refine kg_iconst dX10_openMany_0 ki_0 (pc2 := 1) rfl ?_
  refine kg_istore_n dX10_openMany_1 rfl (Nat.le_of_ble_eq_true rfl) rfl (lv2 := [(1, .int (0 : Int32)), (0, .ref 0)]) rfl (pc2 := 2) rfl ?_
  refine kg_iconst dX10_openMany_2 ki_0 (pc2 := 3) rfl ?_
  refine kg_istore_n dX10_openMany_3 rfl (Nat.le_of_ble_eq_true rfl) rfl (lv2 := [(2, .int (0 : Int32)), (1, .int (0 : Int32)), (0, .ref 0)]) rfl (pc2 := 4) rfl ?_
  refine kg_sub [2, 1, 0] (lv2 := [(0, .ref 0), (1, .int (0 : Int32)), (2, .int (0 : Int32))]) rfl ?_
  obtain ⟨x5, x5h, h⟩ := kw_bind_e h
  refine kw_loop_e (P := fun s => kw_G E kwTM 21 (d + 1) μX10_openMany 4 [(0, .ref 0), (1, .int s.1), (2, .int s.2)] [] σ (some (Value.int r)) σ) (K := fun y => kw_G E kwTM 21 (d + 1) μX10_openMany 29 [(1, .int y)] [] σ (some (Value.int r)) σ) (fun s o h0 hk => lX10_openMany_4 σ s.1 s.2 h0 hk) kw_F _ _ x5h ?_
  show kw_G E kwTM 21 (d + 1) μX10_openMany 29 [(1, .int x5)] [] σ (some (Value.int r)) σ
  refine kg_iload_n 0 dX10_openMany_29 rfl (pc2 := 30) rfl ?_
  cases h
  exact kg_iret (ty := .int) dX10_openMany_30 rfl rfl
set_option maxHeartbeats 4000000 in
set_option maxRecDepth 100000 in
theorem lX10_reached_4 {E : kw_E} {d : Nat} (σ : kw_M) (v1 : Int32) (v2 : Int32) {v : Option Value} {σ2 : kw_M} {o : (Int32 × Int32) ⊕ (Int32)} (h : bX10_reached_4 σ v1 v2 = some o) (hk : Sum.elim (fun s => kw_G E kwTM 21 (d + 1) μX10_reached 4 [(0, .ref 0), (1, .int s.1), (2, .int s.2)] [] σ v σ2) (fun y => kw_G E kwTM 21 (d + 1) μX10_reached 35 [(1, .int y)] [] σ v σ2) o) : kw_G E kwTM 21 (d + 1) μX10_reached 4 [(0, .ref 0), (1, .int v1), (2, .int v2)] [] σ v σ2 := by
  unfold bX10_reached_4 at h
  refine kg_iload_n 2 dX10_reached_4 rfl (pc2 := 5) rfl ?_
  refine kg_aload_n 0 dX10_reached_5 rfl (pc2 := 6) rfl ?_
  obtain ⟨r1, r1h, h⟩ := kw_bind_e h
  refine kg_callV (μ := μX10_reached) (d := d) rfl mVX10_towns [] [.int v2] (gX10_towns (E := E) (d := d) σ r1h) rfl lmRX10_77 (ci := 10) rfl tM_0 eM_0 rfl (Nat.le_of_ble_eq_true rfl) dX10_reached_6 rfl (st2 := [.int r1, .int v2]) rfl (pc2 := 9) rfl ?_
  refine kg_icmp_ge 35 dX10_reached_9 rfl (pc2 := 12) rfl (fun q2 => ?_) (fun q2 => ?_)
  · replace h := (if_pos q2).symm.trans h
    refine kg_sub [1] (lv2 := [(1, .int v1)]) rfl ?_
    cases h
    exact hk
  · replace h := (if_neg q2).symm.trans h
    refine kg_aload_n 0 dX10_reached_12 rfl (pc2 := 13) rfl ?_
    refine kg_getr clX10 rfl 3 (Nat.le_of_ble_eq_true rfl) lfRX10_17 tM_0 eM_0 rfl dX10_reached_13 (pc2 := 16) rfl ?_
    refine kg_iload_n 2 dX10_reached_16 rfl (pc2 := 17) rfl ?_
    obtain ⟨q3, h⟩ := kw_chk_e h
    refine kg_lald tM_3 eM_3 q3 (j := v2.toNatClampNeg) rfl dX10_reached_17 (pc2 := 18) rfl ?_
    refine kg_ldc2 rfl lcRX10_89 dX10_reached_18 (pc2 := 21) rfl ?_
    refine kg_lcmp_ge 29 dX10_reached_21 dX10_reached_22 rfl (pc2 := 25) rfl (fun q4 => ?_) (fun q4 => ?_)
    · replace h := (if_pos q4).symm.trans h
      obtain ⟨x5, x5e, h⟩ := kw_let_e h
      refine kg_iinc 2 dX10_reached_29 rfl (Nat.le_of_ble_eq_true rfl) x5e (lv2 := [(2, .int x5), (0, .ref 0), (1, .int v1)]) rfl (pc2 := 32) rfl ?_
      refine kg_goto 4 dX10_reached_32 rfl ?_
      refine kg_sub [1, 2, 0] (lv2 := [(0, .ref 0), (1, .int v1), (2, .int x5)]) rfl ?_
      cases h
      exact hk
    · replace h := (if_neg q4).symm.trans h
      refine kg_iload_n 1 dX10_reached_25 rfl (pc2 := 26) rfl ?_
      refine kg_iconst dX10_reached_26 ki_1 (pc2 := 27) rfl ?_
      refine kg_iadd dX10_reached_27 (pc2 := 28) rfl ?_
      obtain ⟨x6, x6e, h⟩ := kw_let_e h
      refine kg_istore_n dX10_reached_28 rfl (Nat.le_of_ble_eq_true rfl) x6e (lv2 := [(1, .int x6), (0, .ref 0), (2, .int v2)]) rfl (pc2 := 29) rfl ?_
      obtain ⟨x7, x7e, h⟩ := kw_let_e h
      refine kg_iinc 2 dX10_reached_29 rfl (Nat.le_of_ble_eq_true rfl) x7e (lv2 := [(2, .int x7), (1, .int x6), (0, .ref 0)]) rfl (pc2 := 32) rfl ?_
      refine kg_goto 4 dX10_reached_32 rfl ?_
      refine kg_sub [2, 1, 0] (lv2 := [(0, .ref 0), (1, .int x6), (2, .int x7)]) rfl ?_
      cases h
      exact hk
set_option maxHeartbeats 4000000 in
set_option maxRecDepth 100000 in
theorem gX10_reached {E : kw_E} {d : Nat} (σ : kw_M) {r : Int32} (h : fX10_reached σ = some r) : kw_Met E kwTM 21 (d + 1) μX10_reached [.ref 0] σ (some (Value.int r)) σ := by
  refine kw_enter plRX10 (Nat.le_of_ble_eq_true rfl) ?_
  show kw_G E kwTM 21 (d + 1) μX10_reached 0 [(0, .ref 0)] [] σ (some (Value.int r)) σ
  unfold fX10_reached at h
  refine kg_iconst dX10_reached_0 ki_0 (pc2 := 1) rfl ?_
  refine kg_istore_n dX10_reached_1 rfl (Nat.le_of_ble_eq_true rfl) rfl (lv2 := [(1, .int (0 : Int32)), (0, .ref 0)]) rfl (pc2 := 2) rfl ?_
  refine kg_iconst dX10_reached_2 ki_0 (pc2 := 3) rfl ?_
  refine kg_istore_n dX10_reached_3 rfl (Nat.le_of_ble_eq_true rfl) rfl (lv2 := [(2, .int (0 : Int32)), (1, .int (0 : Int32)), (0, .ref 0)]) rfl (pc2 := 4) rfl ?_
  refine kg_sub [2, 1, 0] (lv2 := [(0, .ref 0), (1, .int (0 : Int32)), (2, .int (0 : Int32))]) rfl ?_
  obtain ⟨x8, x8h, h⟩ := kw_bind_e h
  refine kw_loop_e (P := fun s => kw_G E kwTM 21 (d + 1) μX10_reached 4 [(0, .ref 0), (1, .int s.1), (2, .int s.2)] [] σ (some (Value.int r)) σ) (K := fun y => kw_G E kwTM 21 (d + 1) μX10_reached 35 [(1, .int y)] [] σ (some (Value.int r)) σ) (fun s o h0 hk => lX10_reached_4 σ s.1 s.2 h0 hk) kw_F _ _ x8h ?_
  show kw_G E kwTM 21 (d + 1) μX10_reached 35 [(1, .int x8)] [] σ (some (Value.int r)) σ
  refine kg_iload_n 0 dX10_reached_35 rfl (pc2 := 36) rfl ?_
  cases h
  exact kg_iret (ty := .int) dX10_reached_36 rfl rfl
set_option maxHeartbeats 4000000 in
set_option maxRecDepth 100000 in
theorem lX10_tightMany_4 {E : kw_E} {d : Nat} (σ : kw_M) (v1 : Int32) (v2 : Int32) {v : Option Value} {σ2 : kw_M} {o : (Int32 × Int32) ⊕ (Int32)} (h : bX10_tightMany_4 σ v1 v2 = some o) (hk : Sum.elim (fun s => kw_G E kwTM 21 (d + 3) μX10_tightMany 4 [(0, .ref 0), (1, .int s.1), (2, .int s.2)] [] σ v σ2) (fun y => kw_G E kwTM 21 (d + 3) μX10_tightMany 32 [(1, .int y)] [] σ v σ2) o) : kw_G E kwTM 21 (d + 3) μX10_tightMany 4 [(0, .ref 0), (1, .int v1), (2, .int v2)] [] σ v σ2 := by
  unfold bX10_tightMany_4 at h
  refine kg_iload_n 2 dX10_tightMany_4 rfl (pc2 := 5) rfl ?_
  refine kg_aload_n 0 dX10_tightMany_5 rfl (pc2 := 6) rfl ?_
  refine kg_getr clX10 rfl 0 (Nat.le_of_ble_eq_true rfl) lfRX10_7 tM_0 eM_0 rfl dX10_tightMany_6 (pc2 := 9) rfl ?_
  refine kg_iconst dX10_tightMany_9 ki_1 (pc2 := 10) rfl ?_
  refine kg_iald tM_1 eM_1 (show kw_in (1 : Int32) 2832 by decide) (j := 1) (by decide) dX10_tightMany_10 (pc2 := 11) rfl ?_
  refine kg_icmp_ge 32 dX10_tightMany_11 rfl (pc2 := 14) rfl (fun q1 => ?_) (fun q1 => ?_)
  · replace h := (if_pos q1).symm.trans h
    refine kg_sub [1] (lv2 := [(1, .int v1)]) rfl ?_
    cases h
    exact hk
  · replace h := (if_neg q1).symm.trans h
    refine kg_aload_n 0 dX10_tightMany_14 rfl (pc2 := 15) rfl ?_
    refine kg_iload_n 2 dX10_tightMany_15 rfl (pc2 := 16) rfl ?_
    obtain ⟨r2, r2h, h⟩ := kw_bind_e h
    refine kg_callV (μ := μX10_tightMany) (d := (d + 2)) rfl mVX10_isTight [.int v2] [] (gX10_isTight (E := E) (d := d) v2 σ r2h) rfl lmRX10_303 (ci := 10) rfl tM_0 eM_0 rfl (Nat.le_of_ble_eq_true rfl) dX10_tightMany_16 rfl (st2 := [.int r2]) rfl (pc2 := 19) rfl ?_
    refine kg_if_eq 26 dX10_tightMany_19 rfl (pc2 := 22) rfl (fun q3 => ?_) (fun q3 => ?_)
    · replace h := (if_pos q3).symm.trans h
      obtain ⟨x4, x4e, h⟩ := kw_let_e h
      refine kg_iinc 2 dX10_tightMany_26 rfl (Nat.le_of_ble_eq_true rfl) x4e (lv2 := [(2, .int x4), (0, .ref 0), (1, .int v1)]) rfl (pc2 := 29) rfl ?_
      refine kg_goto 4 dX10_tightMany_29 rfl ?_
      refine kg_sub [1, 2, 0] (lv2 := [(0, .ref 0), (1, .int v1), (2, .int x4)]) rfl ?_
      cases h
      exact hk
    · replace h := (if_neg q3).symm.trans h
      refine kg_iload_n 1 dX10_tightMany_22 rfl (pc2 := 23) rfl ?_
      refine kg_iconst dX10_tightMany_23 ki_1 (pc2 := 24) rfl ?_
      refine kg_iadd dX10_tightMany_24 (pc2 := 25) rfl ?_
      obtain ⟨x5, x5e, h⟩ := kw_let_e h
      refine kg_istore_n dX10_tightMany_25 rfl (Nat.le_of_ble_eq_true rfl) x5e (lv2 := [(1, .int x5), (0, .ref 0), (2, .int v2)]) rfl (pc2 := 26) rfl ?_
      obtain ⟨x6, x6e, h⟩ := kw_let_e h
      refine kg_iinc 2 dX10_tightMany_26 rfl (Nat.le_of_ble_eq_true rfl) x6e (lv2 := [(2, .int x6), (1, .int x5), (0, .ref 0)]) rfl (pc2 := 29) rfl ?_
      refine kg_goto 4 dX10_tightMany_29 rfl ?_
      refine kg_sub [2, 1, 0] (lv2 := [(0, .ref 0), (1, .int x5), (2, .int x6)]) rfl ?_
      cases h
      exact hk
set_option maxHeartbeats 4000000 in
set_option maxRecDepth 100000 in
theorem gX10_tightMany {E : kw_E} {d : Nat} (σ : kw_M) {r : Int32} (h : fX10_tightMany σ = some r) : kw_Met E kwTM 21 (d + 3) μX10_tightMany [.ref 0] σ (some (Value.int r)) σ := by
  refine kw_enter plRX10 (Nat.le_of_ble_eq_true rfl) ?_
  show kw_G E kwTM 21 (d + 3) μX10_tightMany 0 [(0, .ref 0)] [] σ (some (Value.int r)) σ
  unfold fX10_tightMany at h
  refine kg_iconst dX10_tightMany_0 ki_0 (pc2 := 1) rfl ?_
  refine kg_istore_n dX10_tightMany_1 rfl (Nat.le_of_ble_eq_true rfl) rfl (lv2 := [(1, .int (0 : Int32)), (0, .ref 0)]) rfl (pc2 := 2) rfl ?_
  refine kg_iconst dX10_tightMany_2 ki_0 (pc2 := 3) rfl ?_
  refine kg_istore_n dX10_tightMany_3 rfl (Nat.le_of_ble_eq_true rfl) rfl (lv2 := [(2, .int (0 : Int32)), (1, .int (0 : Int32)), (0, .ref 0)]) rfl (pc2 := 4) rfl ?_
  refine kg_sub [2, 1, 0] (lv2 := [(0, .ref 0), (1, .int (0 : Int32)), (2, .int (0 : Int32))]) rfl ?_
  obtain ⟨x7, x7h, h⟩ := kw_bind_e h
  refine kw_loop_e (P := fun s => kw_G E kwTM 21 (d + 3) μX10_tightMany 4 [(0, .ref 0), (1, .int s.1), (2, .int s.2)] [] σ (some (Value.int r)) σ) (K := fun y => kw_G E kwTM 21 (d + 3) μX10_tightMany 32 [(1, .int y)] [] σ (some (Value.int r)) σ) (fun s o h0 hk => lX10_tightMany_4 σ s.1 s.2 h0 hk) kw_F _ _ x7h ?_
  show kw_G E kwTM 21 (d + 3) μX10_tightMany 32 [(1, .int x7)] [] σ (some (Value.int r)) σ
  refine kg_iload_n 0 dX10_tightMany_32 rfl (pc2 := 33) rfl ?_
  cases h
  exact kg_iret (ty := .int) dX10_tightMany_33 rfl rfl
set_option maxHeartbeats 4000000 in
set_option maxRecDepth 100000 in
theorem lX10_watches_4 {E : kw_E} {d : Nat} (v1 : Int32) (σ : kw_M) (v2 : Int32) (v3 : Int32) {v : Option Value} {σ2 : kw_M} {o : (Int32 × Int32) ⊕ (Int32)} (h : bX10_watches_4 v1 σ v2 v3 = some o) (hk : Sum.elim (fun s => kw_G E kwTM 21 (d + 1) μX10_watches 4 [(0, .ref 0), (1, .int v1), (2, .int s.1), (3, .int s.2)] [] σ v σ2) (fun y => kw_G E kwTM 21 (d + 1) μX10_watches 62 [(2, .int y)] [] σ v σ2) o) : kw_G E kwTM 21 (d + 1) μX10_watches 4 [(0, .ref 0), (1, .int v1), (2, .int v2), (3, .int v3)] [] σ v σ2 := by
  unfold bX10_watches_4 at h
  refine kg_iload_n 3 dX10_watches_4 rfl (pc2 := 5) rfl ?_
  refine kg_aload_n 0 dX10_watches_5 rfl (pc2 := 6) rfl ?_
  obtain ⟨r1, r1h, h⟩ := kw_bind_e h
  refine kg_callV (μ := μX10_watches) (d := d) rfl mVX10_towns [] [.int v3] (gX10_towns (E := E) (d := d) σ r1h) rfl lmRX10_77 (ci := 10) rfl tM_0 eM_0 rfl (Nat.le_of_ble_eq_true rfl) dX10_watches_6 rfl (st2 := [.int r1, .int v3]) rfl (pc2 := 9) rfl ?_
  refine kg_icmp_ge 62 dX10_watches_9 rfl (pc2 := 12) rfl (fun q2 => ?_) (fun q2 => ?_)
  · replace h := (if_pos q2).symm.trans h
    refine kg_sub [2] (lv2 := [(2, .int v2)]) rfl ?_
    cases h
    exact hk
  · replace h := (if_neg q2).symm.trans h
    refine kg_aload_n 0 dX10_watches_12 rfl (pc2 := 13) rfl ?_
    refine kg_getr clX10 rfl 0 (Nat.le_of_ble_eq_true rfl) lfRX10_7 tM_0 eM_0 rfl dX10_watches_13 (pc2 := 16) rfl ?_
    refine kg_sipush dX10_watches_16 ks_172 (pc2 := 19) rfl ?_
    refine kg_iconst dX10_watches_19 ki_3 (pc2 := 20) rfl ?_
    refine kg_iload_n 3 dX10_watches_20 rfl (pc2 := 21) rfl ?_
    refine kg_imul dX10_watches_21 (pc2 := 22) rfl ?_
    refine kg_iadd dX10_watches_22 (pc2 := 23) rfl ?_
    obtain ⟨q3, h⟩ := kw_chk_e h
    refine kg_iald tM_1 eM_1 q3 (j := ((172 : Int32) + ((3 : Int32) * v3)).toNatClampNeg) rfl dX10_watches_23 (pc2 := 24) rfl ?_
    refine kg_iconst dX10_watches_24 ki_1 (pc2 := 25) rfl ?_
    refine kg_icmp_ne 56 dX10_watches_25 rfl (pc2 := 28) rfl (fun q4 => ?_) (fun q4 => ?_)
    · replace h := (if_neg q4).symm.trans h
      obtain ⟨x5, x5e, h⟩ := kw_let_e h
      refine kg_iinc 3 dX10_watches_56 rfl (Nat.le_of_ble_eq_true rfl) x5e (lv2 := [(3, .int x5), (0, .ref 0), (1, .int v1), (2, .int v2)]) rfl (pc2 := 59) rfl ?_
      refine kg_goto 4 dX10_watches_59 rfl ?_
      refine kg_sub [1, 2, 3, 0] (lv2 := [(0, .ref 0), (1, .int v1), (2, .int v2), (3, .int x5)]) rfl ?_
      cases h
      exact hk
    · replace h := (if_pos q4).symm.trans h
      refine kg_iload_n 1 dX10_watches_28 rfl (pc2 := 29) rfl ?_
      refine kg_if_eq 50 dX10_watches_29 rfl (pc2 := 32) rfl (fun q6 => ?_) (fun q6 => ?_)
      · replace h := (if_pos q6).symm.trans h
        refine kg_iload_n 2 dX10_watches_50 rfl (pc2 := 51) rfl ?_
        refine kg_iconst dX10_watches_51 ki_1 (pc2 := 52) rfl ?_
        refine kg_iload_n 3 dX10_watches_52 rfl (pc2 := 53) rfl ?_
        refine kg_ishl dX10_watches_53 (pc2 := 54) rfl ?_
        refine kg_ior dX10_watches_54 (pc2 := 55) rfl ?_
        obtain ⟨x7, x7e, h⟩ := kw_let_e h
        refine kg_istore_n dX10_watches_55 rfl (Nat.le_of_ble_eq_true rfl) x7e (lv2 := [(2, .int x7), (0, .ref 0), (1, .int v1), (3, .int v3)]) rfl (pc2 := 56) rfl ?_
        obtain ⟨x8, x8e, h⟩ := kw_let_e h
        refine kg_iinc 3 dX10_watches_56 rfl (Nat.le_of_ble_eq_true rfl) x8e (lv2 := [(3, .int x8), (2, .int x7), (0, .ref 0), (1, .int v1)]) rfl (pc2 := 59) rfl ?_
        refine kg_goto 4 dX10_watches_59 rfl ?_
        refine kg_sub [2, 3, 1, 0] (lv2 := [(0, .ref 0), (1, .int v1), (2, .int x7), (3, .int x8)]) rfl ?_
        cases h
        exact hk
      · replace h := (if_neg q6).symm.trans h
        refine kg_aload_n 0 dX10_watches_32 rfl (pc2 := 33) rfl ?_
        refine kg_getr clX10 rfl 0 (Nat.le_of_ble_eq_true rfl) lfRX10_7 tM_0 eM_0 rfl dX10_watches_33 (pc2 := 36) rfl ?_
        refine kg_sipush dX10_watches_36 ks_172 (pc2 := 39) rfl ?_
        refine kg_iconst dX10_watches_39 ki_3 (pc2 := 40) rfl ?_
        refine kg_iload_n 3 dX10_watches_40 rfl (pc2 := 41) rfl ?_
        refine kg_imul dX10_watches_41 (pc2 := 42) rfl ?_
        refine kg_iadd dX10_watches_42 (pc2 := 43) rfl ?_
        refine kg_iconst dX10_watches_43 ki_2 (pc2 := 44) rfl ?_
        refine kg_iadd dX10_watches_44 (pc2 := 45) rfl ?_
        obtain ⟨q9, h⟩ := kw_chk_e h
        refine kg_iald tM_1 eM_1 q9 (j := (((172 : Int32) + ((3 : Int32) * v3)) + (2 : Int32)).toNatClampNeg) rfl dX10_watches_45 (pc2 := 46) rfl ?_
        refine kg_iconst dX10_watches_46 ki_1 (pc2 := 47) rfl ?_
        refine kg_icmp_ne 56 dX10_watches_47 rfl (pc2 := 50) rfl (fun q10 => ?_) (fun q10 => ?_)
        · replace h := (if_neg q10).symm.trans h
          obtain ⟨x11, x11e, h⟩ := kw_let_e h
          refine kg_iinc 3 dX10_watches_56 rfl (Nat.le_of_ble_eq_true rfl) x11e (lv2 := [(3, .int x11), (0, .ref 0), (1, .int v1), (2, .int v2)]) rfl (pc2 := 59) rfl ?_
          refine kg_goto 4 dX10_watches_59 rfl ?_
          refine kg_sub [1, 2, 3, 0] (lv2 := [(0, .ref 0), (1, .int v1), (2, .int v2), (3, .int x11)]) rfl ?_
          cases h
          exact hk
        · replace h := (if_pos q10).symm.trans h
          refine kg_iload_n 2 dX10_watches_50 rfl (pc2 := 51) rfl ?_
          refine kg_iconst dX10_watches_51 ki_1 (pc2 := 52) rfl ?_
          refine kg_iload_n 3 dX10_watches_52 rfl (pc2 := 53) rfl ?_
          refine kg_ishl dX10_watches_53 (pc2 := 54) rfl ?_
          refine kg_ior dX10_watches_54 (pc2 := 55) rfl ?_
          obtain ⟨x12, x12e, h⟩ := kw_let_e h
          refine kg_istore_n dX10_watches_55 rfl (Nat.le_of_ble_eq_true rfl) x12e (lv2 := [(2, .int x12), (0, .ref 0), (1, .int v1), (3, .int v3)]) rfl (pc2 := 56) rfl ?_
          obtain ⟨x13, x13e, h⟩ := kw_let_e h
          refine kg_iinc 3 dX10_watches_56 rfl (Nat.le_of_ble_eq_true rfl) x13e (lv2 := [(3, .int x13), (2, .int x12), (0, .ref 0), (1, .int v1)]) rfl (pc2 := 59) rfl ?_
          refine kg_goto 4 dX10_watches_59 rfl ?_
          refine kg_sub [2, 3, 1, 0] (lv2 := [(0, .ref 0), (1, .int v1), (2, .int x12), (3, .int x13)]) rfl ?_
          cases h
          exact hk
set_option maxHeartbeats 4000000 in
set_option maxRecDepth 100000 in
theorem gX10_watches {E : kw_E} {d : Nat} (a1 : Int32) (σ : kw_M) {r : Int32} (h : fX10_watches a1 σ = some r) : kw_Met E kwTM 21 (d + 1) μX10_watches [.ref 0, .int a1] σ (some (Value.int r)) σ := by
  refine kw_enter plRX10 (Nat.le_of_ble_eq_true rfl) ?_
  show kw_G E kwTM 21 (d + 1) μX10_watches 0 [(0, .ref 0), (1, .int a1)] [] σ (some (Value.int r)) σ
  unfold fX10_watches at h
  refine kg_iconst dX10_watches_0 ki_0 (pc2 := 1) rfl ?_
  refine kg_istore_n dX10_watches_1 rfl (Nat.le_of_ble_eq_true rfl) rfl (lv2 := [(2, .int (0 : Int32)), (0, .ref 0), (1, .int a1)]) rfl (pc2 := 2) rfl ?_
  refine kg_iconst dX10_watches_2 ki_0 (pc2 := 3) rfl ?_
  refine kg_istore_n dX10_watches_3 rfl (Nat.le_of_ble_eq_true rfl) rfl (lv2 := [(3, .int (0 : Int32)), (2, .int (0 : Int32)), (0, .ref 0), (1, .int a1)]) rfl (pc2 := 4) rfl ?_
  refine kg_sub [2, 3, 1, 0] (lv2 := [(0, .ref 0), (1, .int a1), (2, .int (0 : Int32)), (3, .int (0 : Int32))]) rfl ?_
  obtain ⟨x14, x14h, h⟩ := kw_bind_e h
  refine kw_loop_e (P := fun s => kw_G E kwTM 21 (d + 1) μX10_watches 4 [(0, .ref 0), (1, .int a1), (2, .int s.1), (3, .int s.2)] [] σ (some (Value.int r)) σ) (K := fun y => kw_G E kwTM 21 (d + 1) μX10_watches 62 [(2, .int y)] [] σ (some (Value.int r)) σ) (fun s o h0 hk => lX10_watches_4 a1 σ s.1 s.2 h0 hk) kw_F _ _ x14h ?_
  show kw_G E kwTM 21 (d + 1) μX10_watches 62 [(2, .int x14)] [] σ (some (Value.int r)) σ
  refine kg_iload_n 0 dX10_watches_62 rfl (pc2 := 63) rfl ?_
  cases h
  exact kg_iret (ty := .int) dX10_watches_63 rfl rfl
set_option maxHeartbeats 4000000 in
set_option maxRecDepth 100000 in
theorem gX10_count {E : kw_E} {d : Nat} (a1 : Int32) (σ : kw_M) {r : Int32 × kw_M} (h : fX10_count a1 σ = some r) : kw_Met E kwTM 21 (d + 5) μX10_count [.ref 0, .int a1] σ (some (Value.int r.1)) r.2 := by
  refine kw_enter plRX10 (Nat.le_of_ble_eq_true rfl) ?_
  show kw_G E kwTM 21 (d + 5) μX10_count 0 [(0, .ref 0), (1, .int a1)] [] σ (some (Value.int r.1)) r.2
  unfold fX10_count at h
  refine kg_aload_n 0 dX10_count_0 rfl (pc2 := 1) rfl ?_
  obtain ⟨r1, r1h, h⟩ := kw_bind_e h
  refine kg_callV (μ := μX10_count) (d := (d + 4)) rfl mVX10_settles [] [] (gX10_settles (E := E) (d := (d + 1)) σ r1h) rfl lmRX10_104 (ci := 10) rfl tM_0 eM_0 rfl (Nat.le_of_ble_eq_true rfl) dX10_count_1 rfl (st2 := []) rfl (pc2 := 4) rfl ?_
  refine kg_iload_n 1 dX10_count_4 rfl (pc2 := 5) rfl ?_
  by_cases q2 : a1 = (0 : Int32)
  · replace h := (if_pos q2).symm.trans h
    refine kg_tsIn (off := 71) 76 dX10_count_5 (by rw [q2]; decide) (by rw [q2]; decide) (by rw [q2]; decide) rfl ?_
    refine kg_aload_n 0 dX10_count_76 rfl (pc2 := 77) rfl ?_
    obtain ⟨r3, r3h, h⟩ := kw_bind_e h
    refine kg_callV (μ := μX10_count) (d := (d + 4)) rfl mVX10_towns [] [] (gX10_towns (E := E) (d := (d + 4)) r1 r3h) rfl lmRX10_77 (ci := 10) rfl tM_0 eM_0 rfl (Nat.le_of_ble_eq_true rfl) dX10_count_77 rfl (st2 := [.int r3]) rfl (pc2 := 80) rfl ?_
    cases h
    exact kg_iret (ty := .int) dX10_count_80 rfl rfl
  · replace h := (if_neg q2).symm.trans h
    by_cases q4 : a1 = (1 : Int32)
    · replace h := (if_pos q4).symm.trans h
      refine kg_tsIn (off := 76) 81 dX10_count_5 (by rw [q4]; decide) (by rw [q4]; decide) (by rw [q4]; decide) rfl ?_
      refine kg_aload_n 0 dX10_count_81 rfl (pc2 := 82) rfl ?_
      refine kg_getr clX10 rfl 0 (Nat.le_of_ble_eq_true rfl) lfRX10_7 tM_0 eM_0 rfl dX10_count_82 (pc2 := 85) rfl ?_
      refine kg_iconst dX10_count_85 ki_1 (pc2 := 86) rfl ?_
      refine kg_iald tM_1 eM_1 (show kw_in (1 : Int32) 2832 by decide) (j := 1) (by decide) dX10_count_86 (pc2 := 87) rfl ?_
      cases h
      exact kg_iret (ty := .int) dX10_count_87 rfl rfl
    · replace h := (if_neg q4).symm.trans h
      by_cases q5 : a1 = (2 : Int32)
      · replace h := (if_pos q5).symm.trans h
        refine kg_tsIn (off := 83) 88 dX10_count_5 (by rw [q5]; decide) (by rw [q5]; decide) (by rw [q5]; decide) rfl ?_
        refine kg_aload_n 0 dX10_count_88 rfl (pc2 := 89) rfl ?_
        obtain ⟨r6, r6h, h⟩ := kw_bind_e h
        refine kg_callV (μ := μX10_count) (d := (d + 4)) rfl mVX10_openMany [] [] (gX10_openMany (E := E) (d := (d + 3)) r1 r6h) rfl lmRX10_372 (ci := 10) rfl tM_0 eM_0 rfl (Nat.le_of_ble_eq_true rfl) dX10_count_89 rfl (st2 := [.int r6]) rfl (pc2 := 92) rfl ?_
        cases h
        exact kg_iret (ty := .int) dX10_count_92 rfl rfl
      · replace h := (if_neg q5).symm.trans h
        by_cases q7 : a1 = (3 : Int32)
        · replace h := (if_pos q7).symm.trans h
          refine kg_tsIn (off := 88) 93 dX10_count_5 (by rw [q7]; decide) (by rw [q7]; decide) (by rw [q7]; decide) rfl ?_
          refine kg_aload_n 0 dX10_count_93 rfl (pc2 := 94) rfl ?_
          refine kg_getr clX10 rfl 0 (Nat.le_of_ble_eq_true rfl) lfRX10_7 tM_0 eM_0 rfl dX10_count_94 (pc2 := 97) rfl ?_
          refine kg_iconst dX10_count_97 ki_2 (pc2 := 98) rfl ?_
          refine kg_iald tM_1 eM_1 (show kw_in (2 : Int32) 2832 by decide) (j := 2) (by decide) dX10_count_98 (pc2 := 99) rfl ?_
          cases h
          exact kg_iret (ty := .int) dX10_count_99 rfl rfl
        · replace h := (if_neg q7).symm.trans h
          by_cases q8 : a1 = (4 : Int32)
          · replace h := (if_pos q8).symm.trans h
            refine kg_tsIn (off := 95) 100 dX10_count_5 (by rw [q8]; decide) (by rw [q8]; decide) (by rw [q8]; decide) rfl ?_
            refine kg_aload_n 0 dX10_count_100 rfl (pc2 := 101) rfl ?_
            refine kg_getr clX10 rfl 0 (Nat.le_of_ble_eq_true rfl) lfRX10_7 tM_0 eM_0 rfl dX10_count_101 (pc2 := 104) rfl ?_
            refine kg_bipush dX10_count_104 kb_6 (pc2 := 106) rfl ?_
            refine kg_iald tM_1 eM_1 (show kw_in (6 : Int32) 2832 by decide) (j := 6) (by decide) dX10_count_106 (pc2 := 107) rfl ?_
            cases h
            exact kg_iret (ty := .int) dX10_count_107 rfl rfl
          · replace h := (if_neg q8).symm.trans h
            by_cases q9 : a1 = (5 : Int32)
            · replace h := (if_pos q9).symm.trans h
              refine kg_tsIn (off := 103) 108 dX10_count_5 (by rw [q9]; decide) (by rw [q9]; decide) (by rw [q9]; decide) rfl ?_
              refine kg_aload_n 0 dX10_count_108 rfl (pc2 := 109) rfl ?_
              refine kg_getr clX10 rfl 0 (Nat.le_of_ble_eq_true rfl) lfRX10_7 tM_0 eM_0 rfl dX10_count_109 (pc2 := 112) rfl ?_
              refine kg_iconst dX10_count_112 ki_3 (pc2 := 113) rfl ?_
              refine kg_iald tM_1 eM_1 (show kw_in (3 : Int32) 2832 by decide) (j := 3) (by decide) dX10_count_113 (pc2 := 114) rfl ?_
              cases h
              exact kg_iret (ty := .int) dX10_count_114 rfl rfl
            · replace h := (if_neg q9).symm.trans h
              by_cases q10 : a1 = (6 : Int32)
              · replace h := (if_pos q10).symm.trans h
                refine kg_tsIn (off := 110) 115 dX10_count_5 (by rw [q10]; decide) (by rw [q10]; decide) (by rw [q10]; decide) rfl ?_
                refine kg_aload_n 0 dX10_count_115 rfl (pc2 := 116) rfl ?_
                obtain ⟨r11, r11h, h⟩ := kw_bind_e h
                refine kg_callV (μ := μX10_count) (d := (d + 4)) rfl mVX10_reached [] [] (gX10_reached (E := E) (d := (d + 3)) r1 r11h) rfl lmRX10_375 (ci := 10) rfl tM_0 eM_0 rfl (Nat.le_of_ble_eq_true rfl) dX10_count_116 rfl (st2 := [.int r11]) rfl (pc2 := 119) rfl ?_
                cases h
                exact kg_iret (ty := .int) dX10_count_119 rfl rfl
              · replace h := (if_neg q10).symm.trans h
                by_cases q12 : a1 = (7 : Int32)
                · replace h := (if_pos q12).symm.trans h
                  refine kg_tsIn (off := 115) 120 dX10_count_5 (by rw [q12]; decide) (by rw [q12]; decide) (by rw [q12]; decide) rfl ?_
                  refine kg_aload_n 0 dX10_count_120 rfl (pc2 := 121) rfl ?_
                  obtain ⟨r13, r13h, h⟩ := kw_bind_e h
                  refine kg_callV (μ := μX10_count) (d := (d + 4)) rfl mVX10_tightMany [] [] (gX10_tightMany (E := E) (d := (d + 1)) r1 r13h) rfl lmRX10_378 (ci := 10) rfl tM_0 eM_0 rfl (Nat.le_of_ble_eq_true rfl) dX10_count_121 rfl (st2 := [.int r13]) rfl (pc2 := 124) rfl ?_
                  cases h
                  exact kg_iret (ty := .int) dX10_count_124 rfl rfl
                · replace h := (if_neg q12).symm.trans h
                  by_cases q14 : a1 = (8 : Int32)
                  · replace h := (if_pos q14).symm.trans h
                    refine kg_tsIn (off := 120) 125 dX10_count_5 (by rw [q14]; decide) (by rw [q14]; decide) (by rw [q14]; decide) rfl ?_
                    refine kg_aload_n 0 dX10_count_125 rfl (pc2 := 126) rfl ?_
                    refine kg_getr clX10 rfl 0 (Nat.le_of_ble_eq_true rfl) lfRX10_7 tM_0 eM_0 rfl dX10_count_126 (pc2 := 129) rfl ?_
                    refine kg_iconst dX10_count_129 ki_4 (pc2 := 130) rfl ?_
                    refine kg_iald tM_1 eM_1 (show kw_in (4 : Int32) 2832 by decide) (j := 4) (by decide) dX10_count_130 (pc2 := 131) rfl ?_
                    cases h
                    exact kg_iret (ty := .int) dX10_count_131 rfl rfl
                  · replace h := (if_neg q14).symm.trans h
                    by_cases q15 : a1 = (9 : Int32)
                    · replace h := (if_pos q15).symm.trans h
                      refine kg_tsIn (off := 127) 132 dX10_count_5 (by rw [q15]; decide) (by rw [q15]; decide) (by rw [q15]; decide) rfl ?_
                      refine kg_aload_n 0 dX10_count_132 rfl (pc2 := 133) rfl ?_
                      refine kg_iconst dX10_count_133 ki_0 (pc2 := 134) rfl ?_
                      obtain ⟨r16, r16h, h⟩ := kw_bind_e h
                      refine kg_callV (μ := μX10_count) (d := (d + 4)) rfl mVX10_watches [.int (0 : Int32)] [] (gX10_watches (E := E) (d := (d + 3)) (0 : Int32) r1 r16h) rfl lmRX10_381 (ci := 10) rfl tM_0 eM_0 rfl (Nat.le_of_ble_eq_true rfl) dX10_count_134 rfl (st2 := [.int r16]) rfl (pc2 := 137) rfl ?_
                      cases h
                      exact kg_iret (ty := .int) dX10_count_137 rfl rfl
                    · replace h := (if_neg q15).symm.trans h
                      by_cases q17 : a1 = (10 : Int32)
                      · replace h := (if_pos q17).symm.trans h
                        refine kg_tsIn (off := 133) 138 dX10_count_5 (by rw [q17]; decide) (by rw [q17]; decide) (by rw [q17]; decide) rfl ?_
                        refine kg_aload_n 0 dX10_count_138 rfl (pc2 := 139) rfl ?_
                        refine kg_iconst dX10_count_139 ki_1 (pc2 := 140) rfl ?_
                        obtain ⟨r18, r18h, h⟩ := kw_bind_e h
                        refine kg_callV (μ := μX10_count) (d := (d + 4)) rfl mVX10_watches [.int (1 : Int32)] [] (gX10_watches (E := E) (d := (d + 3)) (1 : Int32) r1 r18h) rfl lmRX10_381 (ci := 10) rfl tM_0 eM_0 rfl (Nat.le_of_ble_eq_true rfl) dX10_count_140 rfl (st2 := [.int r18]) rfl (pc2 := 143) rfl ?_
                        cases h
                        exact kg_iret (ty := .int) dX10_count_143 rfl rfl
                      · replace h := (if_neg q17).symm.trans h
                        by_cases q19 : a1 = (11 : Int32)
                        · replace h := (if_pos q19).symm.trans h
                          refine kg_tsIn (off := 139) 144 dX10_count_5 (by rw [q19]; decide) (by rw [q19]; decide) (by rw [q19]; decide) rfl ?_
                          refine kg_aload_n 0 dX10_count_144 rfl (pc2 := 145) rfl ?_
                          obtain ⟨r20, r20h, h⟩ := kw_bind_e h
                          refine kg_callV (μ := μX10_count) (d := (d + 4)) rfl mVX10_middle [] [] (gX10_middle (E := E) (d := d) r1 r20h) rfl lmRX10_384 (ci := 10) rfl tM_0 eM_0 rfl (Nat.le_of_ble_eq_true rfl) dX10_count_145 rfl (st2 := [.int r20.1]) rfl (pc2 := 148) rfl ?_
                          cases h
                          exact kg_iret (ty := .int) dX10_count_148 rfl rfl
                        · replace h := (if_neg q19).symm.trans h
                          by_cases q21 : a1 = (12 : Int32)
                          · replace h := (if_pos q21).symm.trans h
                            refine kg_tsIn (off := 144) 149 dX10_count_5 (by rw [q21]; decide) (by rw [q21]; decide) (by rw [q21]; decide) rfl ?_
                            refine kg_aload_n 0 dX10_count_149 rfl (pc2 := 150) rfl ?_
                            refine kg_geti clX10 rfl 6 (Nat.le_of_ble_eq_true rfl) lfRX10_152 tM_0 eM_0 rfl dX10_count_150 (pc2 := 153) rfl ?_
                            cases h
                            exact kg_iret (ty := .int) dX10_count_153 rfl rfl
                          · replace h := (if_neg q21).symm.trans h
                            by_cases q22 : a1 = (13 : Int32)
                            · replace h := (if_pos q22).symm.trans h
                              refine kg_tsIn (off := 149) 154 dX10_count_5 (by rw [q22]; decide) (by rw [q22]; decide) (by rw [q22]; decide) rfl ?_
                              refine kg_aload_n 0 dX10_count_154 rfl (pc2 := 155) rfl ?_
                              refine kg_getr clX10 rfl 0 (Nat.le_of_ble_eq_true rfl) lfRX10_7 tM_0 eM_0 rfl dX10_count_155 (pc2 := 158) rfl ?_
                              refine kg_iconst dX10_count_158 ki_5 (pc2 := 159) rfl ?_
                              refine kg_iald tM_1 eM_1 (show kw_in (5 : Int32) 2832 by decide) (j := 5) (by decide) dX10_count_159 (pc2 := 160) rfl ?_
                              cases h
                              exact kg_iret (ty := .int) dX10_count_160 rfl rfl
                            · replace h := (if_neg q22).symm.trans h
                              refine kg_tsOut 161 dX10_count_5 (by have a0 := kw_neI (n := 0) (by decide) q2; have a1 := kw_neI (n := 1) (by decide) q4; have a2 := kw_neI (n := 2) (by decide) q5; have a3 := kw_neI (n := 3) (by decide) q7; have a4 := kw_neI (n := 4) (by decide) q8; have a5 := kw_neI (n := 5) (by decide) q9; have a6 := kw_neI (n := 6) (by decide) q10; have a7 := kw_neI (n := 7) (by decide) q12; have a8 := kw_neI (n := 8) (by decide) q14; have a9 := kw_neI (n := 9) (by decide) q15; have a10 := kw_neI (n := 10) (by decide) q17; have a11 := kw_neI (n := 11) (by decide) q19; have a12 := kw_neI (n := 12) (by decide) q21; have a13 := kw_neI (n := 13) (by decide) q22; omega) rfl ?_
                              refine kg_iconst dX10_count_161 ki_m1 (pc2 := 162) rfl ?_
                              cases h
                              exact kg_iret (ty := .int) dX10_count_162 rfl rfl
