/-! The reference, method by method: what it computes (f), and that the machine does so (g). -/
def jX10_readsOrder_108 (σ : kw_M) : Option (Int32 × kw_M) :=
 (fX10_readsNumber (0 : Int64) (35 : Int64) σ).bind fun r9 =>
 if r9.1 = (0 : Int32) then
 (some ((0 : Int32), r9.2))
 else
 (fX10_keepsNumber (0 : Int32) r9.2).bind fun r11 =>
 if r11.1 = (0 : Int32) then
 (some ((0 : Int32), r11.2))
 else
 some ((1 : Int32), r11.2)
set_option maxHeartbeats 4000000 in
set_option maxRecDepth 100000 in
theorem gjX10_readsOrder_108 {E : kw_E} {d : Nat} (σ : kw_M) {r : Int32 × kw_M} (h : jX10_readsOrder_108 σ = some r) : kw_G E kwTM 21 (d + 4) μX10_readsOrder 108 [(0, .ref 0)] [] σ (some (Value.int r.1)) r.2 := by
  unfold jX10_readsOrder_108 at h
  refine kg_aload_n 0 dX10_readsOrder_108 rfl (pc2 := 109) rfl ?_
  refine kg_lconst dX10_readsOrder_109 kl_0 (pc2 := 110) rfl ?_
  refine kg_ldc2 rfl lcRX10_236 dX10_readsOrder_110 (pc2 := 113) rfl ?_
  obtain ⟨r9, r9h, h⟩ := kw_bind_e h
  refine kg_callV (μ := μX10_readsOrder) (d := (d + 3)) rfl mVX10_readsNumber [.long (0 : Int64), .long (35 : Int64)] [] (gX10_readsNumber (E := E) (d := (d + 1)) (0 : Int64) (35 : Int64) σ r9h) rfl lmRX10_208 (ci := 10) rfl tM_0 eM_0 rfl (Nat.le_of_ble_eq_true rfl) dX10_readsOrder_113 rfl (st2 := [.int r9.1]) rfl (pc2 := 116) rfl ?_
  refine kg_if_eq 131 dX10_readsOrder_116 rfl (pc2 := 119) rfl (fun q10 => ?_) (fun q10 => ?_)
  · replace h := (if_pos q10).symm.trans h
    refine kg_iconst dX10_readsOrder_131 ki_0 (pc2 := 132) rfl ?_
    cases h
    exact kg_iret (ty := .boolean) dX10_readsOrder_132 rfl rfl
  · replace h := (if_neg q10).symm.trans h
    refine kg_aload_n 0 dX10_readsOrder_119 rfl (pc2 := 120) rfl ?_
    refine kg_iconst dX10_readsOrder_120 ki_0 (pc2 := 121) rfl ?_
    obtain ⟨r11, r11h, h⟩ := kw_bind_e h
    refine kg_callV (μ := μX10_readsOrder) (d := (d + 3)) rfl mVX10_keepsNumber [.int (0 : Int32)] [] (gX10_keepsNumber (E := E) (d := (d + 3)) (0 : Int32) r9.2 r11h) rfl lmRX10_212 (ci := 10) rfl tM_0 eM_0 rfl (Nat.le_of_ble_eq_true rfl) dX10_readsOrder_121 rfl (st2 := [.int r11.1]) rfl (pc2 := 124) rfl ?_
    refine kg_if_eq 131 dX10_readsOrder_124 rfl (pc2 := 127) rfl (fun q12 => ?_) (fun q12 => ?_)
    · replace h := (if_pos q12).symm.trans h
      refine kg_iconst dX10_readsOrder_131 ki_0 (pc2 := 132) rfl ?_
      cases h
      exact kg_iret (ty := .boolean) dX10_readsOrder_132 rfl rfl
    · replace h := (if_neg q12).symm.trans h
      refine kg_iconst dX10_readsOrder_127 ki_1 (pc2 := 128) rfl ?_
      refine kg_goto 132 dX10_readsOrder_128 rfl ?_
      cases h
      exact kg_iret (ty := .boolean) dX10_readsOrder_132 rfl rfl
def jX10_readsOrder_149 (v3 : Int32) (σ : kw_M) : Option (Int32 × kw_M) :=
 (fX10_readsNumber (0 : Int64) ((v3 - (1 : Int32)).toInt64) σ).bind fun r15 =>
 if r15.1 = (0 : Int32) then
 (some ((0 : Int32), r15.2))
 else
 (fX10_keepsNumber (0 : Int32) r15.2).bind fun r17 =>
 if r17.1 = (0 : Int32) then
 (some ((0 : Int32), r17.2))
 else
 some ((1 : Int32), r17.2)
set_option maxHeartbeats 4000000 in
set_option maxRecDepth 100000 in
theorem gjX10_readsOrder_149 {E : kw_E} {d : Nat} (v3 : Int32) (σ : kw_M) {r : Int32 × kw_M} (h : jX10_readsOrder_149 v3 σ = some r) : kw_G E kwTM 21 (d + 4) μX10_readsOrder 149 [(0, .ref 0), (3, .int v3)] [] σ (some (Value.int r.1)) r.2 := by
  unfold jX10_readsOrder_149 at h
  refine kg_aload_n 0 dX10_readsOrder_149 rfl (pc2 := 150) rfl ?_
  refine kg_lconst dX10_readsOrder_150 kl_0 (pc2 := 151) rfl ?_
  refine kg_iload_n 1 dX10_readsOrder_151 rfl (pc2 := 152) rfl ?_
  refine kg_iconst dX10_readsOrder_152 ki_1 (pc2 := 153) rfl ?_
  refine kg_isub dX10_readsOrder_153 (pc2 := 154) rfl ?_
  refine kg_i2l dX10_readsOrder_154 (pc2 := 155) rfl ?_
  obtain ⟨r15, r15h, h⟩ := kw_bind_e h
  refine kg_callV (μ := μX10_readsOrder) (d := (d + 3)) rfl mVX10_readsNumber [.long (0 : Int64), .long ((v3 - (1 : Int32)).toInt64)] [] (gX10_readsNumber (E := E) (d := (d + 1)) (0 : Int64) ((v3 - (1 : Int32)).toInt64) σ r15h) rfl lmRX10_208 (ci := 10) rfl tM_0 eM_0 rfl (Nat.le_of_ble_eq_true rfl) dX10_readsOrder_155 rfl (st2 := [.int r15.1]) rfl (pc2 := 158) rfl ?_
  refine kg_if_eq 173 dX10_readsOrder_158 rfl (pc2 := 161) rfl (fun q16 => ?_) (fun q16 => ?_)
  · replace h := (if_pos q16).symm.trans h
    refine kg_iconst dX10_readsOrder_173 ki_0 (pc2 := 174) rfl ?_
    cases h
    exact kg_iret (ty := .boolean) dX10_readsOrder_174 rfl rfl
  · replace h := (if_neg q16).symm.trans h
    refine kg_aload_n 0 dX10_readsOrder_161 rfl (pc2 := 162) rfl ?_
    refine kg_iconst dX10_readsOrder_162 ki_0 (pc2 := 163) rfl ?_
    obtain ⟨r17, r17h, h⟩ := kw_bind_e h
    refine kg_callV (μ := μX10_readsOrder) (d := (d + 3)) rfl mVX10_keepsNumber [.int (0 : Int32)] [] (gX10_keepsNumber (E := E) (d := (d + 3)) (0 : Int32) r15.2 r17h) rfl lmRX10_212 (ci := 10) rfl tM_0 eM_0 rfl (Nat.le_of_ble_eq_true rfl) dX10_readsOrder_163 rfl (st2 := [.int r17.1]) rfl (pc2 := 166) rfl ?_
    refine kg_if_eq 173 dX10_readsOrder_166 rfl (pc2 := 169) rfl (fun q18 => ?_) (fun q18 => ?_)
    · replace h := (if_pos q18).symm.trans h
      refine kg_iconst dX10_readsOrder_173 ki_0 (pc2 := 174) rfl ?_
      cases h
      exact kg_iret (ty := .boolean) dX10_readsOrder_174 rfl rfl
    · replace h := (if_neg q18).symm.trans h
      refine kg_iconst dX10_readsOrder_169 ki_1 (pc2 := 170) rfl ?_
      refine kg_goto 174 dX10_readsOrder_170 rfl ?_
      cases h
      exact kg_iret (ty := .boolean) dX10_readsOrder_174 rfl rfl
def fX10_readsOrder (σ : kw_M) : Option (Int32 × kw_M) :=
 (fX10_readsWord σ).bind fun r1 =>
 kw_let (r1.2 0 13) fun x2 =>
 kw_chk (kw_in (r1.1 0 12) 24) <|
 kw_let (kw_sl r1 6 (r1.1 0 12).toNatClampNeg x2) fun s4 =>
 (fX10_towns s4).bind fun r5 =>
 if x2 = (12345 : Int64) then
 ((fX10_readsRoad r5 s4).bind fun r39 =>
 kw_chk (kw_isB r39.1) <| some (r39.1, r39.2))
 else
 if x2 = (408362632 : Int64) then
 ((fX10_readsNumber (0 : Int64) (35 : Int64) s4).bind fun r31 =>
 if r31.1 = (0 : Int32) then
 (some ((0 : Int32), r31.2))
 else
 (fX10_keepsNumber (0 : Int32) r31.2).bind fun r33 =>
 if r33.1 = (0 : Int32) then
 (some ((0 : Int32), r33.2))
 else
 (fX10_readsNumber (-1000000000 : Int64) (1000000000 : Int64) r33.2).bind fun r35 =>
 if r35.1 = (0 : Int32) then
 (some ((0 : Int32), r35.2))
 else
 (fX10_keepsNumber (1 : Int32) r35.2).bind fun r37 =>
 if r37.1 = (0 : Int32) then
 (some ((0 : Int32), r37.2))
 else
 some ((1 : Int32), r37.2))
 else
 if x2 = (3554917 : Int64) then
 (jX10_readsOrder_108 s4)
 else
 if x2 = (508078 : Int64) then
 (jX10_readsOrder_108 s4)
 else
 if x2 = (522493230 : Int64) then
 (jX10_readsOrder_149 r5 s4)
 else
 if x2 = (217652404 : Int64) then
 (jX10_readsOrder_149 r5 s4)
 else
 if x2 = (24170600 : Int64) then
 ((fX10_readsNumber (0 : Int64) ((r5 - (1 : Int32)).toInt64) s4).bind fun r23 =>
 if r23.1 = (0 : Int32) then
 (some ((0 : Int32), r23.2))
 else
 (fX10_keepsNumber (0 : Int32) r23.2).bind fun r25 =>
 if r25.1 = (0 : Int32) then
 (some ((0 : Int32), r25.2))
 else
 (fX10_readsNumber (-1000000000 : Int64) (1000000000 : Int64) r25.2).bind fun r27 =>
 if r27.1 = (0 : Int32) then
 (some ((0 : Int32), r27.2))
 else
 (fX10_keepsNumber (1 : Int32) r27.2).bind fun r29 =>
 if r29.1 = (0 : Int32) then
 (some ((0 : Int32), r29.2))
 else
 some ((1 : Int32), r29.2))
 else
 (fX10_wrongAt (1 : Int32) (s4.1 0 11) s4).bind fun r21 =>
 kw_chk (kw_isB r21.1) <| some (r21.1, r21.2)
set_option maxHeartbeats 4000000 in
set_option maxRecDepth 100000 in
theorem gX10_readsOrder {E : kw_E} {d : Nat} (σ : kw_M) {r : Int32 × kw_M} (h : fX10_readsOrder σ = some r) : kw_Met E kwTM 21 (d + 4) μX10_readsOrder [.ref 0] σ (some (Value.int r.1)) r.2 := by
  refine kw_enter plRX10 (Nat.le_of_ble_eq_true rfl) ?_
  show kw_G E kwTM 21 (d + 4) μX10_readsOrder 0 [(0, .ref 0)] [] σ (some (Value.int r.1)) r.2
  unfold fX10_readsOrder at h
  refine kg_aload_n 0 dX10_readsOrder_0 rfl (pc2 := 1) rfl ?_
  obtain ⟨r1, r1h, h⟩ := kw_bind_e h
  refine kg_callV (μ := μX10_readsOrder) (d := (d + 3)) rfl mVX10_readsWord [] [] (gX10_readsWord (E := E) (d := (d + 2)) σ r1h) rfl lmRX10_215 (ci := 10) rfl tM_0 eM_0 rfl (Nat.le_of_ble_eq_true rfl) dX10_readsOrder_1 rfl (st2 := []) rfl (pc2 := 4) rfl ?_
  refine kg_aload_n 0 dX10_readsOrder_4 rfl (pc2 := 5) rfl ?_
  refine kg_getl clX10 rfl 13 (Nat.le_of_ble_eq_true rfl) lfRX10_178 tM_0 eM_0 rfl dX10_readsOrder_5 (pc2 := 8) rfl ?_
  obtain ⟨x2, x2e, h⟩ := kw_let_e h
  refine kg_lstore_n dX10_readsOrder_8 rfl (Nat.le_of_ble_eq_true rfl) x2e (lv2 := [(1, .long x2), (0, .ref 0)]) rfl (pc2 := 9) rfl ?_
  refine kg_aload_n 1 dX10_readsOrder_9 rfl (pc2 := 10) rfl ?_
  refine kg_getr clX10 rfl 15 (Nat.le_of_ble_eq_true rfl) lfRX10_27 tM_0 eM_0 rfl dX10_readsOrder_10 (pc2 := 13) rfl ?_
  refine kg_aload_n 1 dX10_readsOrder_13 rfl (pc2 := 14) rfl ?_
  refine kg_geti clX10 rfl 12 (Nat.le_of_ble_eq_true rfl) lfRX10_205 tM_0 eM_0 rfl dX10_readsOrder_14 (pc2 := 17) rfl ?_
  refine kg_lload_n 0 dX10_readsOrder_17 rfl (pc2 := 18) rfl ?_
  obtain ⟨q3, h⟩ := kw_chk_e h
  obtain ⟨s4, s4e, h⟩ := kw_let_e h
  refine kg_last tM_6 eM_6 q3 (j := (r1.1 0 12).toNatClampNeg) rfl s4e dX10_readsOrder_18 (pc2 := 19) rfl ?_
  refine kg_aload_n 1 dX10_readsOrder_19 rfl (pc2 := 20) rfl ?_
  obtain ⟨r5, r5h, h⟩ := kw_bind_e h
  refine kg_callV (μ := μX10_readsOrder) (d := (d + 3)) rfl mVX10_towns [] [] (gX10_towns (E := E) (d := (d + 3)) s4 r5h) rfl lmRX10_77 (ci := 10) rfl tM_0 eM_0 rfl (Nat.le_of_ble_eq_true rfl) dX10_readsOrder_20 rfl (st2 := [.int r5]) rfl (pc2 := 23) rfl ?_
  refine kg_istore_n dX10_readsOrder_23 rfl (Nat.le_of_ble_eq_true rfl) rfl (lv2 := [(3, .int r5), (1, .long x2), (0, .ref 0)]) rfl (pc2 := 24) rfl ?_
  refine kg_lload_n 1 dX10_readsOrder_24 rfl (pc2 := 25) rfl ?_
  refine kg_ldc2 rfl lcRX10_232 dX10_readsOrder_25 (pc2 := 28) rfl ?_
  refine kg_lcmp_ne 38 dX10_readsOrder_28 dX10_readsOrder_29 rfl (pc2 := 32) rfl (fun q6 => ?_) (fun q6 => ?_)
  · replace h := (if_neg q6).symm.trans h
    refine kg_lload_n 1 dX10_readsOrder_38 rfl (pc2 := 39) rfl ?_
    refine kg_ldc2 rfl lcRX10_234 dX10_readsOrder_39 (pc2 := 42) rfl ?_
    refine kg_lcmp_ne 92 dX10_readsOrder_42 dX10_readsOrder_43 rfl (pc2 := 46) rfl (fun q7 => ?_) (fun q7 => ?_)
    · replace h := (if_neg q7).symm.trans h
      refine kg_lload_n 1 dX10_readsOrder_92 rfl (pc2 := 93) rfl ?_
      refine kg_ldc2 rfl lcRX10_238 dX10_readsOrder_93 (pc2 := 96) rfl ?_
      refine kg_lcmp_eq 108 dX10_readsOrder_96 dX10_readsOrder_97 rfl (pc2 := 100) rfl (fun q8 => ?_) (fun q8 => ?_)
      · replace h := (if_pos q8).symm.trans h
        refine kg_sub [2] (lv2 := [(0, .ref 0)]) rfl ?_
        exact gjX10_readsOrder_108 s4 h
      · replace h := (if_neg q8).symm.trans h
        refine kg_lload_n 1 dX10_readsOrder_100 rfl (pc2 := 101) rfl ?_
        refine kg_ldc2 rfl lcRX10_240 dX10_readsOrder_101 (pc2 := 104) rfl ?_
        refine kg_lcmp_ne 133 dX10_readsOrder_104 dX10_readsOrder_105 rfl (pc2 := 108) rfl (fun q13 => ?_) (fun q13 => ?_)
        · replace h := (if_neg q13).symm.trans h
          refine kg_lload_n 1 dX10_readsOrder_133 rfl (pc2 := 134) rfl ?_
          refine kg_ldc2 rfl lcRX10_242 dX10_readsOrder_134 (pc2 := 137) rfl ?_
          refine kg_lcmp_eq 149 dX10_readsOrder_137 dX10_readsOrder_138 rfl (pc2 := 141) rfl (fun q14 => ?_) (fun q14 => ?_)
          · replace h := (if_pos q14).symm.trans h
            refine kg_sub [2, 0] (lv2 := [(0, .ref 0), (3, .int r5)]) rfl ?_
            exact gjX10_readsOrder_149 r5 s4 h
          · replace h := (if_neg q14).symm.trans h
            refine kg_lload_n 1 dX10_readsOrder_141 rfl (pc2 := 142) rfl ?_
            refine kg_ldc2 rfl lcRX10_244 dX10_readsOrder_142 (pc2 := 145) rfl ?_
            refine kg_lcmp_ne 175 dX10_readsOrder_145 dX10_readsOrder_146 rfl (pc2 := 149) rfl (fun q19 => ?_) (fun q19 => ?_)
            · replace h := (if_neg q19).symm.trans h
              refine kg_lload_n 1 dX10_readsOrder_175 rfl (pc2 := 176) rfl ?_
              refine kg_ldc2 rfl lcRX10_246 dX10_readsOrder_176 (pc2 := 179) rfl ?_
              refine kg_lcmp_ne 230 dX10_readsOrder_179 dX10_readsOrder_180 rfl (pc2 := 183) rfl (fun q20 => ?_) (fun q20 => ?_)
              · replace h := (if_neg q20).symm.trans h
                refine kg_aload_n 2 dX10_readsOrder_230 rfl (pc2 := 231) rfl ?_
                refine kg_iconst dX10_readsOrder_231 ki_1 (pc2 := 232) rfl ?_
                refine kg_aload_n 2 dX10_readsOrder_232 rfl (pc2 := 233) rfl ?_
                refine kg_geti clX10 rfl 11 (Nat.le_of_ble_eq_true rfl) lfRX10_175 tM_0 eM_0 rfl dX10_readsOrder_233 (pc2 := 236) rfl ?_
                obtain ⟨r21, r21h, h⟩ := kw_bind_e h
                refine kg_callV (μ := μX10_readsOrder) (d := (d + 3)) rfl mVX10_wrongAt [.int (1 : Int32), .int (s4.1 0 11)] [] (gX10_wrongAt (E := E) (d := (d + 3)) (1 : Int32) (s4.1 0 11) s4 r21h) rfl lmRX10_171 (ci := 10) rfl tM_0 eM_0 rfl (Nat.le_of_ble_eq_true rfl) dX10_readsOrder_236 rfl (st2 := [.int r21.1]) rfl (pc2 := 239) rfl ?_
                obtain ⟨q22, h⟩ := kw_chk_e h
                cases h
                exact kg_iret (ty := .boolean) dX10_readsOrder_239 rfl (kw_isB_n q22)
              · replace h := (if_pos q20).symm.trans h
                refine kg_aload_n 2 dX10_readsOrder_183 rfl (pc2 := 184) rfl ?_
                refine kg_lconst dX10_readsOrder_184 kl_0 (pc2 := 185) rfl ?_
                refine kg_iload_n 0 dX10_readsOrder_185 rfl (pc2 := 186) rfl ?_
                refine kg_iconst dX10_readsOrder_186 ki_1 (pc2 := 187) rfl ?_
                refine kg_isub dX10_readsOrder_187 (pc2 := 188) rfl ?_
                refine kg_i2l dX10_readsOrder_188 (pc2 := 189) rfl ?_
                obtain ⟨r23, r23h, h⟩ := kw_bind_e h
                refine kg_callV (μ := μX10_readsOrder) (d := (d + 3)) rfl mVX10_readsNumber [.long (0 : Int64), .long ((r5 - (1 : Int32)).toInt64)] [] (gX10_readsNumber (E := E) (d := (d + 1)) (0 : Int64) ((r5 - (1 : Int32)).toInt64) s4 r23h) rfl lmRX10_208 (ci := 10) rfl tM_0 eM_0 rfl (Nat.le_of_ble_eq_true rfl) dX10_readsOrder_189 rfl (st2 := [.int r23.1]) rfl (pc2 := 192) rfl ?_
                refine kg_if_eq 228 dX10_readsOrder_192 rfl (pc2 := 195) rfl (fun q24 => ?_) (fun q24 => ?_)
                · replace h := (if_pos q24).symm.trans h
                  refine kg_iconst dX10_readsOrder_228 ki_0 (pc2 := 229) rfl ?_
                  cases h
                  exact kg_iret (ty := .boolean) dX10_readsOrder_229 rfl rfl
                · replace h := (if_neg q24).symm.trans h
                  refine kg_aload_n 2 dX10_readsOrder_195 rfl (pc2 := 196) rfl ?_
                  refine kg_iconst dX10_readsOrder_196 ki_0 (pc2 := 197) rfl ?_
                  obtain ⟨r25, r25h, h⟩ := kw_bind_e h
                  refine kg_callV (μ := μX10_readsOrder) (d := (d + 3)) rfl mVX10_keepsNumber [.int (0 : Int32)] [] (gX10_keepsNumber (E := E) (d := (d + 3)) (0 : Int32) r23.2 r25h) rfl lmRX10_212 (ci := 10) rfl tM_0 eM_0 rfl (Nat.le_of_ble_eq_true rfl) dX10_readsOrder_197 rfl (st2 := [.int r25.1]) rfl (pc2 := 200) rfl ?_
                  refine kg_if_eq 228 dX10_readsOrder_200 rfl (pc2 := 203) rfl (fun q26 => ?_) (fun q26 => ?_)
                  · replace h := (if_pos q26).symm.trans h
                    refine kg_iconst dX10_readsOrder_228 ki_0 (pc2 := 229) rfl ?_
                    cases h
                    exact kg_iret (ty := .boolean) dX10_readsOrder_229 rfl rfl
                  · replace h := (if_neg q26).symm.trans h
                    refine kg_aload_n 2 dX10_readsOrder_203 rfl (pc2 := 204) rfl ?_
                    refine kg_ldc2 rfl lcRX10_85 dX10_readsOrder_204 (pc2 := 207) rfl ?_
                    refine kg_ldc2 rfl lcRX10_87 dX10_readsOrder_207 (pc2 := 210) rfl ?_
                    obtain ⟨r27, r27h, h⟩ := kw_bind_e h
                    refine kg_callV (μ := μX10_readsOrder) (d := (d + 3)) rfl mVX10_readsNumber [.long (-1000000000 : Int64), .long (1000000000 : Int64)] [] (gX10_readsNumber (E := E) (d := (d + 1)) (-1000000000 : Int64) (1000000000 : Int64) r25.2 r27h) rfl lmRX10_208 (ci := 10) rfl tM_0 eM_0 rfl (Nat.le_of_ble_eq_true rfl) dX10_readsOrder_210 rfl (st2 := [.int r27.1]) rfl (pc2 := 213) rfl ?_
                    refine kg_if_eq 228 dX10_readsOrder_213 rfl (pc2 := 216) rfl (fun q28 => ?_) (fun q28 => ?_)
                    · replace h := (if_pos q28).symm.trans h
                      refine kg_iconst dX10_readsOrder_228 ki_0 (pc2 := 229) rfl ?_
                      cases h
                      exact kg_iret (ty := .boolean) dX10_readsOrder_229 rfl rfl
                    · replace h := (if_neg q28).symm.trans h
                      refine kg_aload_n 2 dX10_readsOrder_216 rfl (pc2 := 217) rfl ?_
                      refine kg_iconst dX10_readsOrder_217 ki_1 (pc2 := 218) rfl ?_
                      obtain ⟨r29, r29h, h⟩ := kw_bind_e h
                      refine kg_callV (μ := μX10_readsOrder) (d := (d + 3)) rfl mVX10_keepsNumber [.int (1 : Int32)] [] (gX10_keepsNumber (E := E) (d := (d + 3)) (1 : Int32) r27.2 r29h) rfl lmRX10_212 (ci := 10) rfl tM_0 eM_0 rfl (Nat.le_of_ble_eq_true rfl) dX10_readsOrder_218 rfl (st2 := [.int r29.1]) rfl (pc2 := 221) rfl ?_
                      refine kg_if_eq 228 dX10_readsOrder_221 rfl (pc2 := 224) rfl (fun q30 => ?_) (fun q30 => ?_)
                      · replace h := (if_pos q30).symm.trans h
                        refine kg_iconst dX10_readsOrder_228 ki_0 (pc2 := 229) rfl ?_
                        cases h
                        exact kg_iret (ty := .boolean) dX10_readsOrder_229 rfl rfl
                      · replace h := (if_neg q30).symm.trans h
                        refine kg_iconst dX10_readsOrder_224 ki_1 (pc2 := 225) rfl ?_
                        refine kg_goto 229 dX10_readsOrder_225 rfl ?_
                        cases h
                        exact kg_iret (ty := .boolean) dX10_readsOrder_229 rfl rfl
            · replace h := (if_pos q19).symm.trans h
              refine kg_sub [2, 0] (lv2 := [(0, .ref 0), (3, .int r5)]) rfl ?_
              exact gjX10_readsOrder_149 r5 s4 h
        · replace h := (if_pos q13).symm.trans h
          refine kg_sub [2] (lv2 := [(0, .ref 0)]) rfl ?_
          exact gjX10_readsOrder_108 s4 h
    · replace h := (if_pos q7).symm.trans h
      refine kg_aload_n 2 dX10_readsOrder_46 rfl (pc2 := 47) rfl ?_
      refine kg_lconst dX10_readsOrder_47 kl_0 (pc2 := 48) rfl ?_
      refine kg_ldc2 rfl lcRX10_236 dX10_readsOrder_48 (pc2 := 51) rfl ?_
      obtain ⟨r31, r31h, h⟩ := kw_bind_e h
      refine kg_callV (μ := μX10_readsOrder) (d := (d + 3)) rfl mVX10_readsNumber [.long (0 : Int64), .long (35 : Int64)] [] (gX10_readsNumber (E := E) (d := (d + 1)) (0 : Int64) (35 : Int64) s4 r31h) rfl lmRX10_208 (ci := 10) rfl tM_0 eM_0 rfl (Nat.le_of_ble_eq_true rfl) dX10_readsOrder_51 rfl (st2 := [.int r31.1]) rfl (pc2 := 54) rfl ?_
      refine kg_if_eq 90 dX10_readsOrder_54 rfl (pc2 := 57) rfl (fun q32 => ?_) (fun q32 => ?_)
      · replace h := (if_pos q32).symm.trans h
        refine kg_iconst dX10_readsOrder_90 ki_0 (pc2 := 91) rfl ?_
        cases h
        exact kg_iret (ty := .boolean) dX10_readsOrder_91 rfl rfl
      · replace h := (if_neg q32).symm.trans h
        refine kg_aload_n 2 dX10_readsOrder_57 rfl (pc2 := 58) rfl ?_
        refine kg_iconst dX10_readsOrder_58 ki_0 (pc2 := 59) rfl ?_
        obtain ⟨r33, r33h, h⟩ := kw_bind_e h
        refine kg_callV (μ := μX10_readsOrder) (d := (d + 3)) rfl mVX10_keepsNumber [.int (0 : Int32)] [] (gX10_keepsNumber (E := E) (d := (d + 3)) (0 : Int32) r31.2 r33h) rfl lmRX10_212 (ci := 10) rfl tM_0 eM_0 rfl (Nat.le_of_ble_eq_true rfl) dX10_readsOrder_59 rfl (st2 := [.int r33.1]) rfl (pc2 := 62) rfl ?_
        refine kg_if_eq 90 dX10_readsOrder_62 rfl (pc2 := 65) rfl (fun q34 => ?_) (fun q34 => ?_)
        · replace h := (if_pos q34).symm.trans h
          refine kg_iconst dX10_readsOrder_90 ki_0 (pc2 := 91) rfl ?_
          cases h
          exact kg_iret (ty := .boolean) dX10_readsOrder_91 rfl rfl
        · replace h := (if_neg q34).symm.trans h
          refine kg_aload_n 2 dX10_readsOrder_65 rfl (pc2 := 66) rfl ?_
          refine kg_ldc2 rfl lcRX10_85 dX10_readsOrder_66 (pc2 := 69) rfl ?_
          refine kg_ldc2 rfl lcRX10_87 dX10_readsOrder_69 (pc2 := 72) rfl ?_
          obtain ⟨r35, r35h, h⟩ := kw_bind_e h
          refine kg_callV (μ := μX10_readsOrder) (d := (d + 3)) rfl mVX10_readsNumber [.long (-1000000000 : Int64), .long (1000000000 : Int64)] [] (gX10_readsNumber (E := E) (d := (d + 1)) (-1000000000 : Int64) (1000000000 : Int64) r33.2 r35h) rfl lmRX10_208 (ci := 10) rfl tM_0 eM_0 rfl (Nat.le_of_ble_eq_true rfl) dX10_readsOrder_72 rfl (st2 := [.int r35.1]) rfl (pc2 := 75) rfl ?_
          refine kg_if_eq 90 dX10_readsOrder_75 rfl (pc2 := 78) rfl (fun q36 => ?_) (fun q36 => ?_)
          · replace h := (if_pos q36).symm.trans h
            refine kg_iconst dX10_readsOrder_90 ki_0 (pc2 := 91) rfl ?_
            cases h
            exact kg_iret (ty := .boolean) dX10_readsOrder_91 rfl rfl
          · replace h := (if_neg q36).symm.trans h
            refine kg_aload_n 2 dX10_readsOrder_78 rfl (pc2 := 79) rfl ?_
            refine kg_iconst dX10_readsOrder_79 ki_1 (pc2 := 80) rfl ?_
            obtain ⟨r37, r37h, h⟩ := kw_bind_e h
            refine kg_callV (μ := μX10_readsOrder) (d := (d + 3)) rfl mVX10_keepsNumber [.int (1 : Int32)] [] (gX10_keepsNumber (E := E) (d := (d + 3)) (1 : Int32) r35.2 r37h) rfl lmRX10_212 (ci := 10) rfl tM_0 eM_0 rfl (Nat.le_of_ble_eq_true rfl) dX10_readsOrder_80 rfl (st2 := [.int r37.1]) rfl (pc2 := 83) rfl ?_
            refine kg_if_eq 90 dX10_readsOrder_83 rfl (pc2 := 86) rfl (fun q38 => ?_) (fun q38 => ?_)
            · replace h := (if_pos q38).symm.trans h
              refine kg_iconst dX10_readsOrder_90 ki_0 (pc2 := 91) rfl ?_
              cases h
              exact kg_iret (ty := .boolean) dX10_readsOrder_91 rfl rfl
            · replace h := (if_neg q38).symm.trans h
              refine kg_iconst dX10_readsOrder_86 ki_1 (pc2 := 87) rfl ?_
              refine kg_goto 91 dX10_readsOrder_87 rfl ?_
              cases h
              exact kg_iret (ty := .boolean) dX10_readsOrder_91 rfl rfl
  · replace h := (if_pos q6).symm.trans h
    refine kg_aload_n 2 dX10_readsOrder_32 rfl (pc2 := 33) rfl ?_
    refine kg_iload_n 0 dX10_readsOrder_33 rfl (pc2 := 34) rfl ?_
    obtain ⟨r39, r39h, h⟩ := kw_bind_e h
    refine kg_callV (μ := μX10_readsOrder) (d := (d + 3)) rfl mVX10_readsRoad [.int r5] [] (gX10_readsRoad (E := E) (d := d) r5 s4 r39h) rfl lmRX10_229 (ci := 10) rfl tM_0 eM_0 rfl (Nat.le_of_ble_eq_true rfl) dX10_readsOrder_34 rfl (st2 := [.int r39.1]) rfl (pc2 := 37) rfl ?_
    obtain ⟨q40, h⟩ := kw_chk_e h
    cases h
    exact kg_iret (ty := .boolean) dX10_readsOrder_37 rfl (kw_isB_n q40)
def fX10_readsClause (a1 : Int32) (σ : kw_M) : Option (Int32 × kw_M) :=
 if (σ.1 0 12) = (24 : Int32) then
 ((fX10_wrongAt (4 : Int32) (σ.1 0 7) σ).bind fun r9 =>
 kw_chk (kw_isB r9.1) <| some (r9.1, r9.2))
 else
 if a1 = (0 : Int32) then
 ((fX10_readsOrder σ).bind fun r3 =>
 if r3.1 = (0 : Int32) then
 (some ((0 : Int32), r3.2))
 else
 kw_let (kw_si r3.2 0 12 ((r3.2.1 0 12) + (1 : Int32))) fun s5 =>
 some ((1 : Int32), s5))
 else
 (fX10_readsNet σ).bind fun r6 =>
 if r6.1 = (0 : Int32) then
 (some ((0 : Int32), r6.2))
 else
 kw_let (kw_si r6.2 0 12 ((r6.2.1 0 12) + (1 : Int32))) fun s8 =>
 some ((1 : Int32), s8)
set_option maxHeartbeats 4000000 in
set_option maxRecDepth 100000 in
theorem gX10_readsClause {E : kw_E} {d : Nat} (a1 : Int32) (σ : kw_M) {r : Int32 × kw_M} (h : fX10_readsClause a1 σ = some r) : kw_Met E kwTM 21 (d + 5) μX10_readsClause [.ref 0, .int a1] σ (some (Value.int r.1)) r.2 := by
  refine kw_enter plRX10 (Nat.le_of_ble_eq_true rfl) ?_
  show kw_G E kwTM 21 (d + 5) μX10_readsClause 0 [(0, .ref 0), (1, .int a1)] [] σ (some (Value.int r.1)) r.2
  unfold fX10_readsClause at h
  refine kg_aload_n 0 dX10_readsClause_0 rfl (pc2 := 1) rfl ?_
  refine kg_geti clX10 rfl 12 (Nat.le_of_ble_eq_true rfl) lfRX10_205 tM_0 eM_0 rfl dX10_readsClause_1 (pc2 := 4) rfl ?_
  refine kg_bipush dX10_readsClause_4 kb_24 (pc2 := 6) rfl ?_
  refine kg_icmp_ne 19 dX10_readsClause_6 rfl (pc2 := 9) rfl (fun q1 => ?_) (fun q1 => ?_)
  · replace h := (if_neg q1).symm.trans h
    refine kg_iload_n 1 dX10_readsClause_19 rfl (pc2 := 20) rfl ?_
    refine kg_if_eq 33 dX10_readsClause_20 rfl (pc2 := 23) rfl (fun q2 => ?_) (fun q2 => ?_)
    · replace h := (if_pos q2).symm.trans h
      refine kg_aload_n 0 dX10_readsClause_33 rfl (pc2 := 34) rfl ?_
      obtain ⟨r3, r3h, h⟩ := kw_bind_e h
      refine kg_callV (μ := μX10_readsClause) (d := (d + 4)) rfl mVX10_readsOrder [] [] (gX10_readsOrder (E := E) (d := d) σ r3h) rfl lmRX10_251 (ci := 10) rfl tM_0 eM_0 rfl (Nat.le_of_ble_eq_true rfl) dX10_readsClause_34 rfl (st2 := [.int r3.1]) rfl (pc2 := 37) rfl ?_
      refine kg_if_ne 42 dX10_readsClause_37 rfl (pc2 := 40) rfl (fun q4 => ?_) (fun q4 => ?_)
      · replace h := (if_neg q4).symm.trans h
        refine kg_aload_n 0 dX10_readsClause_42 rfl (pc2 := 43) rfl ?_
        refine kg_aload_n 0 dX10_readsClause_43 rfl (pc2 := 44) rfl ?_
        refine kg_geti clX10 rfl 12 (Nat.le_of_ble_eq_true rfl) lfRX10_205 tM_0 eM_0 rfl dX10_readsClause_44 (pc2 := 47) rfl ?_
        refine kg_iconst dX10_readsClause_47 ki_1 (pc2 := 48) rfl ?_
        refine kg_iadd dX10_readsClause_48 (pc2 := 49) rfl ?_
        obtain ⟨s5, s5e, h⟩ := kw_let_e h
        refine kg_puti clX10 rfl 12 (Nat.le_of_ble_eq_true rfl) lfRX10_205 rfl tM_0 eM_0 rfl (ty := .int) (by decide +kernel) rfl rfl s5e dX10_readsClause_49 (pc2 := 52) rfl ?_
        refine kg_iconst dX10_readsClause_52 ki_1 (pc2 := 53) rfl ?_
        cases h
        exact kg_iret (ty := .boolean) dX10_readsClause_53 rfl rfl
      · replace h := (if_pos q4).symm.trans h
        refine kg_iconst dX10_readsClause_40 ki_0 (pc2 := 41) rfl ?_
        cases h
        exact kg_iret (ty := .boolean) dX10_readsClause_41 rfl rfl
    · replace h := (if_neg q2).symm.trans h
      refine kg_aload_n 0 dX10_readsClause_23 rfl (pc2 := 24) rfl ?_
      obtain ⟨r6, r6h, h⟩ := kw_bind_e h
      refine kg_callV (μ := μX10_readsClause) (d := (d + 4)) rfl mVX10_readsNet [] [] (gX10_readsNet (E := E) (d := d) σ r6h) rfl lmRX10_248 (ci := 10) rfl tM_0 eM_0 rfl (Nat.le_of_ble_eq_true rfl) dX10_readsClause_24 rfl (st2 := [.int r6.1]) rfl (pc2 := 27) rfl ?_
      refine kg_if_eq 40 dX10_readsClause_27 rfl (pc2 := 30) rfl (fun q7 => ?_) (fun q7 => ?_)
      · replace h := (if_pos q7).symm.trans h
        refine kg_iconst dX10_readsClause_40 ki_0 (pc2 := 41) rfl ?_
        cases h
        exact kg_iret (ty := .boolean) dX10_readsClause_41 rfl rfl
      · replace h := (if_neg q7).symm.trans h
        refine kg_goto 42 dX10_readsClause_30 rfl ?_
        refine kg_aload_n 0 dX10_readsClause_42 rfl (pc2 := 43) rfl ?_
        refine kg_aload_n 0 dX10_readsClause_43 rfl (pc2 := 44) rfl ?_
        refine kg_geti clX10 rfl 12 (Nat.le_of_ble_eq_true rfl) lfRX10_205 tM_0 eM_0 rfl dX10_readsClause_44 (pc2 := 47) rfl ?_
        refine kg_iconst dX10_readsClause_47 ki_1 (pc2 := 48) rfl ?_
        refine kg_iadd dX10_readsClause_48 (pc2 := 49) rfl ?_
        obtain ⟨s8, s8e, h⟩ := kw_let_e h
        refine kg_puti clX10 rfl 12 (Nat.le_of_ble_eq_true rfl) lfRX10_205 rfl tM_0 eM_0 rfl (ty := .int) (by decide +kernel) rfl rfl s8e dX10_readsClause_49 (pc2 := 52) rfl ?_
        refine kg_iconst dX10_readsClause_52 ki_1 (pc2 := 53) rfl ?_
        cases h
        exact kg_iret (ty := .boolean) dX10_readsClause_53 rfl rfl
  · replace h := (if_pos q1).symm.trans h
    refine kg_aload_n 0 dX10_readsClause_9 rfl (pc2 := 10) rfl ?_
    refine kg_iconst dX10_readsClause_10 ki_4 (pc2 := 11) rfl ?_
    refine kg_aload_n 0 dX10_readsClause_11 rfl (pc2 := 12) rfl ?_
    refine kg_geti clX10 rfl 7 (Nat.le_of_ble_eq_true rfl) lfRX10_159 tM_0 eM_0 rfl dX10_readsClause_12 (pc2 := 15) rfl ?_
    obtain ⟨r9, r9h, h⟩ := kw_bind_e h
    refine kg_callV (μ := μX10_readsClause) (d := (d + 4)) rfl mVX10_wrongAt [.int (4 : Int32), .int (σ.1 0 7)] [] (gX10_wrongAt (E := E) (d := (d + 4)) (4 : Int32) (σ.1 0 7) σ r9h) rfl lmRX10_171 (ci := 10) rfl tM_0 eM_0 rfl (Nat.le_of_ble_eq_true rfl) dX10_readsClause_15 rfl (st2 := [.int r9.1]) rfl (pc2 := 18) rfl ?_
    obtain ⟨q10, h⟩ := kw_chk_e h
    cases h
    exact kg_iret (ty := .boolean) dX10_readsClause_18 rfl (kw_isB_n q10)
def bX10_readsText_31 (v2 : Int32) (v3 : Int32) (σ : kw_M) : Option ((Int32 × kw_M) ⊕ (Int32 × kw_M)) :=
 if v3 = (0 : Int32) then
 (some (.inr (v3, σ)))
 else
 if (σ.1 0 8) ≤ (σ.1 0 7) then
 (some (.inr (v3, σ)))
 else
 (fX10_takesSign (59 : Int32) σ).bind fun r9 =>
 if r9.1 = (0 : Int32) then
 (some (.inl ((0 : Int32), r9.2)))
 else
 (fX10_readsClause v2 r9.2).bind fun r11 =>
 if r11.1 = (0 : Int32) then
 (some (.inl ((0 : Int32), r11.2)))
 else
 some (.inl ((1 : Int32), r11.2))
set_option maxHeartbeats 4000000 in
set_option maxRecDepth 100000 in
theorem lX10_readsText_31 {E : kw_E} {d : Nat} (v2 : Int32) (v3 : Int32) (σ : kw_M) {v : Option Value} {σ2 : kw_M} {o : (Int32 × kw_M) ⊕ (Int32 × kw_M)} (h : bX10_readsText_31 v2 v3 σ = some o) (hk : Sum.elim (fun s => kw_G E kwTM 21 (d + 6) μX10_readsText 31 [(0, .ref 0), (2, .int v2), (3, .int s.1)] [] s.2 v σ2) (fun y => kw_G E kwTM 21 (d + 6) μX10_readsText 72 [(3, .int y.1)] [] y.2 v σ2) o) : kw_G E kwTM 21 (d + 6) μX10_readsText 31 [(0, .ref 0), (2, .int v2), (3, .int v3)] [] σ v σ2 := by
  unfold bX10_readsText_31 at h
  refine kg_iload_n 2 dX10_readsText_31 rfl (pc2 := 32) rfl ?_
  refine kg_if_eq 72 dX10_readsText_32 rfl (pc2 := 35) rfl (fun q7 => ?_) (fun q7 => ?_)
  · replace h := (if_pos q7).symm.trans h
    refine kg_sub [2] (lv2 := [(3, .int v3)]) rfl ?_
    cases h
    exact hk
  · replace h := (if_neg q7).symm.trans h
    refine kg_aload_n 0 dX10_readsText_35 rfl (pc2 := 36) rfl ?_
    refine kg_geti clX10 rfl 7 (Nat.le_of_ble_eq_true rfl) lfRX10_159 tM_0 eM_0 rfl dX10_readsText_36 (pc2 := 39) rfl ?_
    refine kg_aload_n 0 dX10_readsText_39 rfl (pc2 := 40) rfl ?_
    refine kg_geti clX10 rfl 8 (Nat.le_of_ble_eq_true rfl) lfRX10_162 tM_0 eM_0 rfl dX10_readsText_40 (pc2 := 43) rfl ?_
    refine kg_icmp_ge 72 dX10_readsText_43 rfl (pc2 := 46) rfl (fun q8 => ?_) (fun q8 => ?_)
    · replace h := (if_pos q8).symm.trans h
      refine kg_sub [2] (lv2 := [(3, .int v3)]) rfl ?_
      cases h
      exact hk
    · replace h := (if_neg q8).symm.trans h
      refine kg_aload_n 0 dX10_readsText_46 rfl (pc2 := 47) rfl ?_
      refine kg_bipush dX10_readsText_47 kb_59 (pc2 := 49) rfl ?_
      obtain ⟨r9, r9h, h⟩ := kw_bind_e h
      refine kg_callV (μ := μX10_readsText) (d := (d + 5)) rfl mVX10_takesSign [.int (59 : Int32)] [] (gX10_takesSign (E := E) (d := (d + 4)) (59 : Int32) σ r9h) rfl lmRX10_190 (ci := 10) rfl tM_0 eM_0 rfl (Nat.le_of_ble_eq_true rfl) dX10_readsText_49 rfl (st2 := [.int r9.1]) rfl (pc2 := 52) rfl ?_
      refine kg_if_eq 67 dX10_readsText_52 rfl (pc2 := 55) rfl (fun q10 => ?_) (fun q10 => ?_)
      · replace h := (if_pos q10).symm.trans h
        refine kg_iconst dX10_readsText_67 ki_0 (pc2 := 68) rfl ?_
        refine kg_istore_n dX10_readsText_68 rfl (Nat.le_of_ble_eq_true rfl) rfl (lv2 := [(3, .int (0 : Int32)), (0, .ref 0), (2, .int v2)]) rfl (pc2 := 69) rfl ?_
        refine kg_goto 31 dX10_readsText_69 rfl ?_
        refine kg_sub [1, 2, 0] (lv2 := [(0, .ref 0), (2, .int v2), (3, .int (0 : Int32))]) rfl ?_
        cases h
        exact hk
      · replace h := (if_neg q10).symm.trans h
        refine kg_aload_n 0 dX10_readsText_55 rfl (pc2 := 56) rfl ?_
        refine kg_iload_n 1 dX10_readsText_56 rfl (pc2 := 57) rfl ?_
        obtain ⟨r11, r11h, h⟩ := kw_bind_e h
        refine kg_callV (μ := μX10_readsText) (d := (d + 5)) rfl mVX10_readsClause [.int v2] [] (gX10_readsClause (E := E) (d := d) v2 r9.2 r11h) rfl lmRX10_254 (ci := 10) rfl tM_0 eM_0 rfl (Nat.le_of_ble_eq_true rfl) dX10_readsText_57 rfl (st2 := [.int r11.1]) rfl (pc2 := 60) rfl ?_
        refine kg_if_eq 67 dX10_readsText_60 rfl (pc2 := 63) rfl (fun q12 => ?_) (fun q12 => ?_)
        · replace h := (if_pos q12).symm.trans h
          refine kg_iconst dX10_readsText_67 ki_0 (pc2 := 68) rfl ?_
          refine kg_istore_n dX10_readsText_68 rfl (Nat.le_of_ble_eq_true rfl) rfl (lv2 := [(3, .int (0 : Int32)), (0, .ref 0), (2, .int v2)]) rfl (pc2 := 69) rfl ?_
          refine kg_goto 31 dX10_readsText_69 rfl ?_
          refine kg_sub [1, 2, 0] (lv2 := [(0, .ref 0), (2, .int v2), (3, .int (0 : Int32))]) rfl ?_
          cases h
          exact hk
        · replace h := (if_neg q12).symm.trans h
          refine kg_iconst dX10_readsText_63 ki_1 (pc2 := 64) rfl ?_
          refine kg_goto 68 dX10_readsText_64 rfl ?_
          refine kg_istore_n dX10_readsText_68 rfl (Nat.le_of_ble_eq_true rfl) rfl (lv2 := [(3, .int (1 : Int32)), (0, .ref 0), (2, .int v2)]) rfl (pc2 := 69) rfl ?_
          refine kg_goto 31 dX10_readsText_69 rfl ?_
          refine kg_sub [1, 2, 0] (lv2 := [(0, .ref 0), (2, .int v2), (3, .int (1 : Int32))]) rfl ?_
          cases h
          exact hk
def fX10_readsText (a1 : Int32) (a2 : Int32) (σ : kw_M) : Option (Int32 × kw_M) :=
 kw_let (kw_si σ 0 7 (0 : Int32)) fun s1 =>
 kw_let (kw_si s1 0 8 a1) fun s2 =>
 kw_let (kw_si s2 0 6 (0 : Int32)) fun s3 =>
 kw_let (kw_si s3 0 12 (0 : Int32)) fun s4 =>
 kw_let (kw_si s4 0 17 (2 : Int32)) fun s5 =>
 (fX10_readsClause a2 s5).bind fun r6 =>
 (kw_loop (fun s => bX10_readsText_31 a2 s.1 s.2) kw_F (r6.1, r6.2)).bind fun x13 =>
 kw_chk (kw_isB x13.1) <| some (x13.1, x13.2)
set_option maxHeartbeats 4000000 in
set_option maxRecDepth 100000 in
theorem gX10_readsText {E : kw_E} {d : Nat} (a1 : Int32) (a2 : Int32) (σ : kw_M) {r : Int32 × kw_M} (h : fX10_readsText a1 a2 σ = some r) : kw_Met E kwTM 21 (d + 6) μX10_readsText [.ref 0, .int a1, .int a2] σ (some (Value.int r.1)) r.2 := by
  refine kw_enter plRX10 (Nat.le_of_ble_eq_true rfl) ?_
  show kw_G E kwTM 21 (d + 6) μX10_readsText 0 [(0, .ref 0), (1, .int a1), (2, .int a2)] [] σ (some (Value.int r.1)) r.2
  unfold fX10_readsText at h
  refine kg_aload_n 0 dX10_readsText_0 rfl (pc2 := 1) rfl ?_
  refine kg_iconst dX10_readsText_1 ki_0 (pc2 := 2) rfl ?_
  obtain ⟨s1, s1e, h⟩ := kw_let_e h
  refine kg_puti clX10 rfl 7 (Nat.le_of_ble_eq_true rfl) lfRX10_159 rfl tM_0 eM_0 rfl (ty := .int) (by decide +kernel) rfl rfl s1e dX10_readsText_2 (pc2 := 5) rfl ?_
  refine kg_aload_n 0 dX10_readsText_5 rfl (pc2 := 6) rfl ?_
  refine kg_iload_n 1 dX10_readsText_6 rfl (pc2 := 7) rfl ?_
  obtain ⟨s2, s2e, h⟩ := kw_let_e h
  refine kg_puti clX10 rfl 8 (Nat.le_of_ble_eq_true rfl) lfRX10_162 rfl tM_0 eM_0 rfl (ty := .int) (by decide +kernel) rfl rfl s2e dX10_readsText_7 (pc2 := 10) rfl ?_
  refine kg_aload_n 0 dX10_readsText_10 rfl (pc2 := 11) rfl ?_
  refine kg_iconst dX10_readsText_11 ki_0 (pc2 := 12) rfl ?_
  obtain ⟨s3, s3e, h⟩ := kw_let_e h
  refine kg_puti clX10 rfl 6 (Nat.le_of_ble_eq_true rfl) lfRX10_152 rfl tM_0 eM_0 rfl (ty := .int) (by decide +kernel) rfl rfl s3e dX10_readsText_12 (pc2 := 15) rfl ?_
  refine kg_aload_n 0 dX10_readsText_15 rfl (pc2 := 16) rfl ?_
  refine kg_iconst dX10_readsText_16 ki_0 (pc2 := 17) rfl ?_
  obtain ⟨s4, s4e, h⟩ := kw_let_e h
  refine kg_puti clX10 rfl 12 (Nat.le_of_ble_eq_true rfl) lfRX10_205 rfl tM_0 eM_0 rfl (ty := .int) (by decide +kernel) rfl rfl s4e dX10_readsText_17 (pc2 := 20) rfl ?_
  refine kg_aload_n 0 dX10_readsText_20 rfl (pc2 := 21) rfl ?_
  refine kg_iconst dX10_readsText_21 ki_2 (pc2 := 22) rfl ?_
  obtain ⟨s5, s5e, h⟩ := kw_let_e h
  refine kg_puti clX10 rfl 17 (Nat.le_of_ble_eq_true rfl) lfRX10_224 rfl tM_0 eM_0 rfl (ty := .int) (by decide +kernel) rfl rfl s5e dX10_readsText_22 (pc2 := 25) rfl ?_
  refine kg_aload_n 0 dX10_readsText_25 rfl (pc2 := 26) rfl ?_
  refine kg_iload_n 2 dX10_readsText_26 rfl (pc2 := 27) rfl ?_
  obtain ⟨r6, r6h, h⟩ := kw_bind_e h
  refine kg_callV (μ := μX10_readsText) (d := (d + 5)) rfl mVX10_readsClause [.int a2] [] (gX10_readsClause (E := E) (d := d) a2 s5 r6h) rfl lmRX10_254 (ci := 10) rfl tM_0 eM_0 rfl (Nat.le_of_ble_eq_true rfl) dX10_readsText_27 rfl (st2 := [.int r6.1]) rfl (pc2 := 30) rfl ?_
  refine kg_istore_n dX10_readsText_30 rfl (Nat.le_of_ble_eq_true rfl) rfl (lv2 := [(3, .int r6.1), (0, .ref 0), (1, .int a1), (2, .int a2)]) rfl (pc2 := 31) rfl ?_
  refine kg_sub [1, 3, 0] (lv2 := [(0, .ref 0), (2, .int a2), (3, .int r6.1)]) rfl ?_
  obtain ⟨x13, x13h, h⟩ := kw_bind_e h
  refine kw_loop_e (P := fun s => kw_G E kwTM 21 (d + 6) μX10_readsText 31 [(0, .ref 0), (2, .int a2), (3, .int s.1)] [] s.2 (some (Value.int r.1)) r.2) (K := fun y => kw_G E kwTM 21 (d + 6) μX10_readsText 72 [(3, .int y.1)] [] y.2 (some (Value.int r.1)) r.2) (fun s o h0 hk => lX10_readsText_31 a2 s.1 s.2 h0 hk) kw_F _ _ x13h ?_
  show kw_G E kwTM 21 (d + 6) μX10_readsText 72 [(3, .int x13.1)] [] x13.2 (some (Value.int r.1)) r.2
  refine kg_iload_n 0 dX10_readsText_72 rfl (pc2 := 73) rfl ?_
  obtain ⟨q14, h⟩ := kw_chk_e h
  cases h
  exact kg_iret (ty := .boolean) dX10_readsText_73 rfl (kw_isB_n q14)
def fX10_isText (a1 : Int32) (σ : kw_M) : Option (Int32) :=
 (fX10_in a1.toInt64 (1 : Int64) (200 : Int64) σ).bind fun r1 =>
 if r1 = (0 : Int32) then
 (some (0 : Int32))
 else
 if (σ.1 0 6) < a1 then
 (some (0 : Int32))
 else
 some (1 : Int32)
set_option maxHeartbeats 4000000 in
set_option maxRecDepth 100000 in
theorem gX10_isText {E : kw_E} {d : Nat} (a1 : Int32) (σ : kw_M) {r : Int32} (h : fX10_isText a1 σ = some r) : kw_Met E kwTM 21 (d + 1) μX10_isText [.ref 0, .int a1] σ (some (Value.int r)) σ := by
  refine kw_enter plRX10 (Nat.le_of_ble_eq_true rfl) ?_
  show kw_G E kwTM 21 (d + 1) μX10_isText 0 [(0, .ref 0), (1, .int a1)] [] σ (some (Value.int r)) σ
  unfold fX10_isText at h
  refine kg_iload_n 1 dX10_isText_0 rfl (pc2 := 1) rfl ?_
  refine kg_i2l dX10_isText_1 (pc2 := 2) rfl ?_
  refine kg_lconst dX10_isText_2 kl_1 (pc2 := 3) rfl ?_
  refine kg_ldc2 rfl lcRX10_258 dX10_isText_3 (pc2 := 6) rfl ?_
  obtain ⟨r1, r1h, h⟩ := kw_bind_e h
  refine kg_callS (μ := μX10_isText) (d := d) rfl mSX10_in [.long a1.toInt64, .long (1 : Int64), .long (200 : Int64)] [] (gX10_in (E := E) (d := d) a1.toInt64 (1 : Int64) (200 : Int64) σ r1h) rfl lmRX10_81 rfl (Nat.le_of_ble_eq_true rfl) dX10_isText_6 rfl (st2 := [.int r1]) rfl (pc2 := 9) rfl ?_
  refine kg_if_eq 24 dX10_isText_9 rfl (pc2 := 12) rfl (fun q2 => ?_) (fun q2 => ?_)
  · replace h := (if_pos q2).symm.trans h
    refine kg_iconst dX10_isText_24 ki_0 (pc2 := 25) rfl ?_
    cases h
    exact kg_iret (ty := .boolean) dX10_isText_25 rfl rfl
  · replace h := (if_neg q2).symm.trans h
    refine kg_iload_n 1 dX10_isText_12 rfl (pc2 := 13) rfl ?_
    refine kg_aload_n 0 dX10_isText_13 rfl (pc2 := 14) rfl ?_
    refine kg_geti clX10 rfl 6 (Nat.le_of_ble_eq_true rfl) lfRX10_152 tM_0 eM_0 rfl dX10_isText_14 (pc2 := 17) rfl ?_
    refine kg_icmp_gt 24 dX10_isText_17 rfl (pc2 := 20) rfl (fun q3 => ?_) (fun q3 => ?_)
    · replace h := (if_pos q3).symm.trans h
      refine kg_iconst dX10_isText_24 ki_0 (pc2 := 25) rfl ?_
      cases h
      exact kg_iret (ty := .boolean) dX10_isText_25 rfl rfl
    · replace h := (if_neg q3).symm.trans h
      refine kg_iconst dX10_isText_20 ki_1 (pc2 := 21) rfl ?_
      refine kg_goto 25 dX10_isText_21 rfl ?_
      cases h
      exact kg_iret (ty := .boolean) dX10_isText_25 rfl rfl
def bX10_empties_9 (v1 : Int32) (v2 : Int32) (σ : kw_M) : Option ((Int32 × kw_M) ⊕ (kw_M)) :=
 if (708 : Int32) ≤ v2 then
 (some (.inr σ))
 else
 kw_chk (kw_in v2 2832) <|
 kw_let (kw_si σ 1 v2.toNatClampNeg (0 : Int32)) fun s4 =>
 kw_let (v2 + (1 : Int32)) fun x5 =>
 some (.inl (x5, s4))
set_option maxHeartbeats 4000000 in
set_option maxRecDepth 100000 in
theorem lX10_empties_9 {E : kw_E} {d : Nat} (v1 : Int32) (v2 : Int32) (σ : kw_M) {v : Option Value} {σ2 : kw_M} {o : (Int32 × kw_M) ⊕ (kw_M)} (h : bX10_empties_9 v1 v2 σ = some o) (hk : Sum.elim (fun s => kw_G E kwTM 21 d μX10_empties 9 [(0, .ref 0), (1, .int v1), (2, .int s.1)] [] s.2 v σ2) (fun y => kw_G E kwTM 21 d μX10_empties 29 [(0, .ref 0), (1, .int v1)] [] y v σ2) o) : kw_G E kwTM 21 d μX10_empties 9 [(0, .ref 0), (1, .int v1), (2, .int v2)] [] σ v σ2 := by
  unfold bX10_empties_9 at h
  refine kg_iload_n 2 dX10_empties_9 rfl (pc2 := 10) rfl ?_
  refine kg_sipush dX10_empties_10 ks_708 (pc2 := 13) rfl ?_
  refine kg_icmp_ge 29 dX10_empties_13 rfl (pc2 := 16) rfl (fun q2 => ?_) (fun q2 => ?_)
  · replace h := (if_pos q2).symm.trans h
    refine kg_sub [0, 1] (lv2 := [(0, .ref 0), (1, .int v1)]) rfl ?_
    cases h
    exact hk
  · replace h := (if_neg q2).symm.trans h
    refine kg_aload_n 0 dX10_empties_16 rfl (pc2 := 17) rfl ?_
    refine kg_getr clX10 rfl 0 (Nat.le_of_ble_eq_true rfl) lfRX10_7 tM_0 eM_0 rfl dX10_empties_17 (pc2 := 20) rfl ?_
    refine kg_iload_n 2 dX10_empties_20 rfl (pc2 := 21) rfl ?_
    refine kg_iconst dX10_empties_21 ki_0 (pc2 := 22) rfl ?_
    obtain ⟨q3, h⟩ := kw_chk_e h
    obtain ⟨s4, s4e, h⟩ := kw_let_e h
    refine kg_iast tM_1 eM_1 q3 (j := v2.toNatClampNeg) rfl s4e dX10_empties_22 (pc2 := 23) rfl ?_
    obtain ⟨x5, x5e, h⟩ := kw_let_e h
    refine kg_iinc 2 dX10_empties_23 rfl (Nat.le_of_ble_eq_true rfl) x5e (lv2 := [(2, .int x5), (0, .ref 0), (1, .int v1)]) rfl (pc2 := 26) rfl ?_
    refine kg_goto 9 dX10_empties_26 rfl ?_
    refine kg_sub [1, 2, 0] (lv2 := [(0, .ref 0), (1, .int v1), (2, .int x5)]) rfl ?_
    cases h
    exact hk
def fX10_empties (σ : kw_M) : Option (kw_M) :=
 kw_let (σ.1 1 5) fun x1 =>
 (kw_loop (fun s => bX10_empties_9 x1 s.1 s.2) kw_F ((0 : Int32), σ)).bind fun x6 =>
 kw_let (kw_si x6 1 5 x1) fun s7 =>
 kw_let (kw_si s7 1 0 (s7.1 0 17)) fun s8 =>
 some s8
set_option maxHeartbeats 4000000 in
set_option maxRecDepth 100000 in
theorem gX10_empties {E : kw_E} {d : Nat} (σ : kw_M) {r : kw_M} (h : fX10_empties σ = some r) : kw_Met E kwTM 21 d μX10_empties [.ref 0] σ none r := by
  refine kw_enter plRX10 (Nat.le_of_ble_eq_true rfl) ?_
  show kw_G E kwTM 21 d μX10_empties 0 [(0, .ref 0)] [] σ none r
  unfold fX10_empties at h
  refine kg_aload_n 0 dX10_empties_0 rfl (pc2 := 1) rfl ?_
  refine kg_getr clX10 rfl 0 (Nat.le_of_ble_eq_true rfl) lfRX10_7 tM_0 eM_0 rfl dX10_empties_1 (pc2 := 4) rfl ?_
  refine kg_iconst dX10_empties_4 ki_5 (pc2 := 5) rfl ?_
  refine kg_iald tM_1 eM_1 (show kw_in (5 : Int32) 2832 by decide) (j := 5) (by decide) dX10_empties_5 (pc2 := 6) rfl ?_
  obtain ⟨x1, x1e, h⟩ := kw_let_e h
  refine kg_istore_n dX10_empties_6 rfl (Nat.le_of_ble_eq_true rfl) x1e (lv2 := [(1, .int x1), (0, .ref 0)]) rfl (pc2 := 7) rfl ?_
  refine kg_iconst dX10_empties_7 ki_0 (pc2 := 8) rfl ?_
  refine kg_istore_n dX10_empties_8 rfl (Nat.le_of_ble_eq_true rfl) rfl (lv2 := [(2, .int (0 : Int32)), (1, .int x1), (0, .ref 0)]) rfl (pc2 := 9) rfl ?_
  refine kg_sub [2, 1, 0] (lv2 := [(0, .ref 0), (1, .int x1), (2, .int (0 : Int32))]) rfl ?_
  obtain ⟨x6, x6h, h⟩ := kw_bind_e h
  refine kw_loop_e (P := fun s => kw_G E kwTM 21 d μX10_empties 9 [(0, .ref 0), (1, .int x1), (2, .int s.1)] [] s.2 none r) (K := fun y => kw_G E kwTM 21 d μX10_empties 29 [(0, .ref 0), (1, .int x1)] [] y none r) (fun s o h0 hk => lX10_empties_9 x1 s.1 s.2 h0 hk) kw_F _ _ x6h ?_
  show kw_G E kwTM 21 d μX10_empties 29 [(0, .ref 0), (1, .int x1)] [] x6 none r
  refine kg_aload_n 0 dX10_empties_29 rfl (pc2 := 30) rfl ?_
  refine kg_getr clX10 rfl 0 (Nat.le_of_ble_eq_true rfl) lfRX10_7 tM_0 eM_0 rfl dX10_empties_30 (pc2 := 33) rfl ?_
  refine kg_iconst dX10_empties_33 ki_5 (pc2 := 34) rfl ?_
  refine kg_iload_n 1 dX10_empties_34 rfl (pc2 := 35) rfl ?_
  obtain ⟨s7, s7e, h⟩ := kw_let_e h
  refine kg_iast tM_1 eM_1 (show kw_in (5 : Int32) 2832 by decide) (j := 5) (by decide) s7e dX10_empties_35 (pc2 := 36) rfl ?_
  refine kg_aload_n 0 dX10_empties_36 rfl (pc2 := 37) rfl ?_
  refine kg_getr clX10 rfl 0 (Nat.le_of_ble_eq_true rfl) lfRX10_7 tM_0 eM_0 rfl dX10_empties_37 (pc2 := 40) rfl ?_
  refine kg_iconst dX10_empties_40 ki_0 (pc2 := 41) rfl ?_
  refine kg_aload_n 0 dX10_empties_41 rfl (pc2 := 42) rfl ?_
  refine kg_geti clX10 rfl 17 (Nat.le_of_ble_eq_true rfl) lfRX10_224 tM_0 eM_0 rfl dX10_empties_42 (pc2 := 45) rfl ?_
  obtain ⟨s8, s8e, h⟩ := kw_let_e h
  refine kg_iast tM_1 eM_1 (show kw_in (0 : Int32) 2832 by decide) (j := 0) (by decide) s8e dX10_empties_45 (pc2 := 46) rfl ?_
  cases h
  exact kg_vret dX10_empties_46 rfl
def bX10_net_38 (v2 : Int32) (v3 : Int32) (σ : kw_M) : Option ((Int32 × Int32 × kw_M) ⊕ (Int32 × kw_M)) :=
 if (σ.1 0 12) ≤ v3 then
 (some (.inr (v2, σ)))
 else
 if v2 = (0 : Int32) then
 (kw_chk (kw_in v3 24) <|
 if (σ.2 6 v3.toNatClampNeg) = (605220 : Int64) then
 (kw_chk (kw_in ((3 : Int32) * v3) 72) <|
 kw_chk (kw_in (((3 : Int32) * v3) + (1 : Int32)) 72) <|
 kw_chk (kw_in (((3 : Int32) * v3) + (2 : Int32)) 72) <|
 (fX10_comes (σ.1 7 ((3 : Int32) * v3).toNatClampNeg) (σ.1 7 (((3 : Int32) * v3) + (1 : Int32)).toNatClampNeg) (σ.1 7 (((3 : Int32) * v3) + (2 : Int32)).toNatClampNeg) σ).bind fun r15 =>
 (fX10_isRing r15.1 r15.2).bind fun r16 =>
 kw_let (v3 + (1 : Int32)) fun x17 =>
 some (.inl (r16.1, x17, r16.2)))
 else
 kw_let (v3 + (1 : Int32)) fun x11 =>
 some (.inl (v2, x11, σ)))
 else
 some (.inr (v2, σ))
set_option maxHeartbeats 4000000 in
set_option maxRecDepth 100000 in
theorem lX10_net_38 {E : kw_E} {d : Nat} (v2 : Int32) (v3 : Int32) (σ : kw_M) {v : Option Value} {σ2 : kw_M} {o : (Int32 × Int32 × kw_M) ⊕ (Int32 × kw_M)} (h : bX10_net_38 v2 v3 σ = some o) (hk : Sum.elim (fun s => kw_G E kwTM 21 (d + 7) μX10_net 38 [(0, .ref 0), (2, .int s.1), (3, .int s.2.1)] [] s.2.2 v σ2) (fun y => kw_G E kwTM 21 (d + 7) μX10_net 106 [(0, .ref 0), (2, .int y.1)] [] y.2 v σ2) o) : kw_G E kwTM 21 (d + 7) μX10_net 38 [(0, .ref 0), (2, .int v2), (3, .int v3)] [] σ v σ2 := by
  unfold bX10_net_38 at h
  refine kg_iload_n 2 dX10_net_38 rfl (pc2 := 39) rfl ?_
  refine kg_aload_n 0 dX10_net_39 rfl (pc2 := 40) rfl ?_
  refine kg_geti clX10 rfl 12 (Nat.le_of_ble_eq_true rfl) lfRX10_205 tM_0 eM_0 rfl dX10_net_40 (pc2 := 43) rfl ?_
  refine kg_icmp_ge 106 dX10_net_43 rfl (pc2 := 46) rfl (fun q7 => ?_) (fun q7 => ?_)
  · replace h := (if_pos q7).symm.trans h
    refine kg_sub [0, 1] (lv2 := [(0, .ref 0), (2, .int v2)]) rfl ?_
    cases h
    exact hk
  · replace h := (if_neg q7).symm.trans h
    refine kg_iload_n 1 dX10_net_46 rfl (pc2 := 47) rfl ?_
    refine kg_if_ne 106 dX10_net_47 rfl (pc2 := 50) rfl (fun q8 => ?_) (fun q8 => ?_)
    · replace h := (if_neg q8).symm.trans h
      refine kg_sub [0, 1] (lv2 := [(0, .ref 0), (2, .int v2)]) rfl ?_
      cases h
      exact hk
    · replace h := (if_pos q8).symm.trans h
      refine kg_aload_n 0 dX10_net_50 rfl (pc2 := 51) rfl ?_
      refine kg_getr clX10 rfl 15 (Nat.le_of_ble_eq_true rfl) lfRX10_27 tM_0 eM_0 rfl dX10_net_51 (pc2 := 54) rfl ?_
      refine kg_iload_n 2 dX10_net_54 rfl (pc2 := 55) rfl ?_
      obtain ⟨q9, h⟩ := kw_chk_e h
      refine kg_lald tM_6 eM_6 q9 (j := v3.toNatClampNeg) rfl dX10_net_55 (pc2 := 56) rfl ?_
      refine kg_ldc2 rfl lcRX10_227 dX10_net_56 (pc2 := 59) rfl ?_
      refine kg_lcmp_ne 100 dX10_net_59 dX10_net_60 rfl (pc2 := 63) rfl (fun q10 => ?_) (fun q10 => ?_)
      · replace h := (if_neg q10).symm.trans h
        obtain ⟨x11, x11e, h⟩ := kw_let_e h
        refine kg_iinc 2 dX10_net_100 rfl (Nat.le_of_ble_eq_true rfl) x11e (lv2 := [(3, .int x11), (0, .ref 0), (2, .int v2)]) rfl (pc2 := 103) rfl ?_
        refine kg_goto 38 dX10_net_103 rfl ?_
        refine kg_sub [1, 2, 0] (lv2 := [(0, .ref 0), (2, .int v2), (3, .int x11)]) rfl ?_
        cases h
        exact hk
      · replace h := (if_pos q10).symm.trans h
        refine kg_aload_n 0 dX10_net_63 rfl (pc2 := 64) rfl ?_
        refine kg_aload_n 0 dX10_net_64 rfl (pc2 := 65) rfl ?_
        refine kg_aload_n 0 dX10_net_65 rfl (pc2 := 66) rfl ?_
        refine kg_getr clX10 rfl 16 (Nat.le_of_ble_eq_true rfl) lfRX10_30 tM_0 eM_0 rfl dX10_net_66 (pc2 := 69) rfl ?_
        refine kg_iconst dX10_net_69 ki_3 (pc2 := 70) rfl ?_
        refine kg_iload_n 2 dX10_net_70 rfl (pc2 := 71) rfl ?_
        refine kg_imul dX10_net_71 (pc2 := 72) rfl ?_
        obtain ⟨q12, h⟩ := kw_chk_e h
        refine kg_iald tM_7 eM_7 q12 (j := ((3 : Int32) * v3).toNatClampNeg) rfl dX10_net_72 (pc2 := 73) rfl ?_
        refine kg_aload_n 0 dX10_net_73 rfl (pc2 := 74) rfl ?_
        refine kg_getr clX10 rfl 16 (Nat.le_of_ble_eq_true rfl) lfRX10_30 tM_0 eM_0 rfl dX10_net_74 (pc2 := 77) rfl ?_
        refine kg_iconst dX10_net_77 ki_3 (pc2 := 78) rfl ?_
        refine kg_iload_n 2 dX10_net_78 rfl (pc2 := 79) rfl ?_
        refine kg_imul dX10_net_79 (pc2 := 80) rfl ?_
        refine kg_iconst dX10_net_80 ki_1 (pc2 := 81) rfl ?_
        refine kg_iadd dX10_net_81 (pc2 := 82) rfl ?_
        obtain ⟨q13, h⟩ := kw_chk_e h
        refine kg_iald tM_7 eM_7 q13 (j := (((3 : Int32) * v3) + (1 : Int32)).toNatClampNeg) rfl dX10_net_82 (pc2 := 83) rfl ?_
        refine kg_aload_n 0 dX10_net_83 rfl (pc2 := 84) rfl ?_
        refine kg_getr clX10 rfl 16 (Nat.le_of_ble_eq_true rfl) lfRX10_30 tM_0 eM_0 rfl dX10_net_84 (pc2 := 87) rfl ?_
        refine kg_iconst dX10_net_87 ki_3 (pc2 := 88) rfl ?_
        refine kg_iload_n 2 dX10_net_88 rfl (pc2 := 89) rfl ?_
        refine kg_imul dX10_net_89 (pc2 := 90) rfl ?_
        refine kg_iconst dX10_net_90 ki_2 (pc2 := 91) rfl ?_
        refine kg_iadd dX10_net_91 (pc2 := 92) rfl ?_
        obtain ⟨q14, h⟩ := kw_chk_e h
        refine kg_iald tM_7 eM_7 q14 (j := (((3 : Int32) * v3) + (2 : Int32)).toNatClampNeg) rfl dX10_net_92 (pc2 := 93) rfl ?_
        obtain ⟨r15, r15h, h⟩ := kw_bind_e h
        refine kg_callV (μ := μX10_net) (d := (d + 6)) rfl mVX10_comes [.int (σ.1 7 ((3 : Int32) * v3).toNatClampNeg), .int (σ.1 7 (((3 : Int32) * v3) + (1 : Int32)).toNatClampNeg), .int (σ.1 7 (((3 : Int32) * v3) + (2 : Int32)).toNatClampNeg)] [.ref 0] (gX10_comes (E := E) (d := (d + 5)) (σ.1 7 ((3 : Int32) * v3).toNatClampNeg) (σ.1 7 (((3 : Int32) * v3) + (1 : Int32)).toNatClampNeg) (σ.1 7 (((3 : Int32) * v3) + (2 : Int32)).toNatClampNeg) σ r15h) rfl lmRX10_131 (ci := 10) rfl tM_0 eM_0 rfl (Nat.le_of_ble_eq_true rfl) dX10_net_93 rfl (st2 := [.int r15.1, .ref 0]) rfl (pc2 := 96) rfl ?_
        obtain ⟨r16, r16h, h⟩ := kw_bind_e h
        refine kg_callV (μ := μX10_net) (d := (d + 6)) rfl mVX10_isRing [.int r15.1] [] (gX10_isRing (E := E) (d := (d + 3)) r15.1 r15.2 r16h) rfl lmRX10_135 (ci := 10) rfl tM_0 eM_0 rfl (Nat.le_of_ble_eq_true rfl) dX10_net_96 rfl (st2 := [.int r16.1]) rfl (pc2 := 99) rfl ?_
        refine kg_istore_n dX10_net_99 rfl (Nat.le_of_ble_eq_true rfl) rfl (lv2 := [(2, .int r16.1), (0, .ref 0), (3, .int v3)]) rfl (pc2 := 100) rfl ?_
        obtain ⟨x17, x17e, h⟩ := kw_let_e h
        refine kg_iinc 2 dX10_net_100 rfl (Nat.le_of_ble_eq_true rfl) x17e (lv2 := [(3, .int x17), (2, .int r16.1), (0, .ref 0)]) rfl (pc2 := 103) rfl ?_
        refine kg_goto 38 dX10_net_103 rfl ?_
        refine kg_sub [2, 1, 0] (lv2 := [(0, .ref 0), (2, .int r16.1), (3, .int x17)]) rfl ?_
        cases h
        exact hk
def jX10_net_139 (v3 : Int32) (σ : kw_M) : Option (Int32 × kw_M) :=
 if (0 : Int32) ≤ v3 then
 (kw_let (kw_si σ 0 1 (0 : Int32)) fun s23 =>
 some ((s23.1 0 12), s23))
 else
 (fX10_copies (2 : Int32) (0 : Int32) σ).bind fun r24 =>
 some (v3, r24)
set_option maxHeartbeats 4000000 in
set_option maxRecDepth 100000 in
theorem gjX10_net_139 {E : kw_E} {d : Nat} (v3 : Int32) (σ : kw_M) {r : Int32 × kw_M} (h : jX10_net_139 v3 σ = some r) : kw_G E kwTM 21 (d + 7) μX10_net 139 [(0, .ref 0), (3, .int v3)] [] σ (some (Value.int r.1)) r.2 := by
  unfold jX10_net_139 at h
  refine kg_iload_n 1 dX10_net_139 rfl (pc2 := 140) rfl ?_
  refine kg_if_ge 151 dX10_net_140 rfl (pc2 := 143) rfl (fun q22 => ?_) (fun q22 => ?_)
  · replace h := (if_pos q22).symm.trans h
    refine kg_aload_n 0 dX10_net_151 rfl (pc2 := 152) rfl ?_
    refine kg_iconst dX10_net_152 ki_0 (pc2 := 153) rfl ?_
    obtain ⟨s23, s23e, h⟩ := kw_let_e h
    refine kg_puti clX10 rfl 1 (Nat.le_of_ble_eq_true rfl) lfRX10_270 rfl tM_0 eM_0 rfl (ty := .boolean) (by decide +kernel) rfl rfl s23e dX10_net_153 (pc2 := 156) rfl ?_
    refine kg_aload_n 0 dX10_net_156 rfl (pc2 := 157) rfl ?_
    refine kg_geti clX10 rfl 12 (Nat.le_of_ble_eq_true rfl) lfRX10_205 tM_0 eM_0 rfl dX10_net_157 (pc2 := 160) rfl ?_
    cases h
    exact kg_iret (ty := .int) dX10_net_160 rfl rfl
  · replace h := (if_neg q22).symm.trans h
    refine kg_aload_n 0 dX10_net_143 rfl (pc2 := 144) rfl ?_
    refine kg_iconst dX10_net_144 ki_2 (pc2 := 145) rfl ?_
    refine kg_iconst dX10_net_145 ki_0 (pc2 := 146) rfl ?_
    obtain ⟨r24, r24h, h⟩ := kw_bind_e h
    refine kg_callV (μ := μX10_net) (d := (d + 6)) rfl mVX10_copies [.int (2 : Int32), .int (0 : Int32)] [] (gX10_copies (E := E) (d := (d + 6)) (2 : Int32) (0 : Int32) σ r24h) rfl lmRX10_107 (ci := 10) rfl tM_0 eM_0 rfl (Nat.le_of_ble_eq_true rfl) dX10_net_146 rfl (st2 := []) rfl (pc2 := 149) rfl ?_
    refine kg_iload_n 1 dX10_net_149 rfl (pc2 := 150) rfl ?_
    cases h
    exact kg_iret (ty := .int) dX10_net_150 rfl rfl
def jX10_net_125 (v2 : Int32) (v3 : Int32) (σ : kw_M) : Option (Int32 × kw_M) :=
 if v2 = (0 : Int32) then
 ((fX10_isTooFar σ).bind fun r25 =>
 if r25 = (0 : Int32) then
 (jX10_net_139 v3 σ)
 else
 jX10_net_139 (-4 : Int32) σ)
 else
 jX10_net_139 v3 σ
set_option maxHeartbeats 4000000 in
set_option maxRecDepth 100000 in
theorem gjX10_net_125 {E : kw_E} {d : Nat} (v2 : Int32) (v3 : Int32) (σ : kw_M) {r : Int32 × kw_M} (h : jX10_net_125 v2 v3 σ = some r) : kw_G E kwTM 21 (d + 7) μX10_net 125 [(0, .ref 0), (2, .int v2), (3, .int v3)] [] σ (some (Value.int r.1)) r.2 := by
  unfold jX10_net_125 at h
  refine kg_iload_n 1 dX10_net_125 rfl (pc2 := 126) rfl ?_
  refine kg_if_ne 139 dX10_net_126 rfl (pc2 := 129) rfl (fun q21 => ?_) (fun q21 => ?_)
  · replace h := (if_neg q21).symm.trans h
    refine kg_sub [0, 2] (lv2 := [(0, .ref 0), (3, .int v3)]) rfl ?_
    exact gjX10_net_139 v3 σ h
  · replace h := (if_pos q21).symm.trans h
    refine kg_aload_n 0 dX10_net_129 rfl (pc2 := 130) rfl ?_
    obtain ⟨r25, r25h, h⟩ := kw_bind_e h
    refine kg_callV (μ := μX10_net) (d := (d + 6)) rfl mVX10_isTooFar [] [] (gX10_isTooFar (E := E) (d := (d + 5)) σ r25h) rfl lmRX10_110 (ci := 10) rfl tM_0 eM_0 rfl (Nat.le_of_ble_eq_true rfl) dX10_net_130 rfl (st2 := [.int r25]) rfl (pc2 := 133) rfl ?_
    refine kg_if_eq 139 dX10_net_133 rfl (pc2 := 136) rfl (fun q26 => ?_) (fun q26 => ?_)
    · replace h := (if_pos q26).symm.trans h
      refine kg_sub [0, 2] (lv2 := [(0, .ref 0), (3, .int v3)]) rfl ?_
      exact gjX10_net_139 v3 σ h
    · replace h := (if_neg q26).symm.trans h
      refine kg_bipush dX10_net_136 kb_m4 (pc2 := 138) rfl ?_
      refine kg_istore_n dX10_net_138 rfl (Nat.le_of_ble_eq_true rfl) rfl (lv2 := [(3, .int (-4 : Int32)), (0, .ref 0), (2, .int v2)]) rfl (pc2 := 139) rfl ?_
      refine kg_sub [1, 0] (lv2 := [(0, .ref 0), (3, .int (-4 : Int32))]) rfl ?_
      exact gjX10_net_139 (-4 : Int32) σ h
def jX10_net_116 (v2 : Int32) (t0 : Int32) (σ : kw_M) : Option (Int32 × kw_M) :=
 if v2 = (0 : Int32) then
 ((fX10_settles σ).bind fun r27 =>
 jX10_net_125 v2 t0 r27)
 else
 jX10_net_125 v2 t0 σ
set_option maxHeartbeats 4000000 in
set_option maxRecDepth 100000 in
theorem gjX10_net_116 {E : kw_E} {d : Nat} (v2 : Int32) (t0 : Int32) (σ : kw_M) {r : Int32 × kw_M} (h : jX10_net_116 v2 t0 σ = some r) : kw_G E kwTM 21 (d + 7) μX10_net 116 [(0, .ref 0), (2, .int v2)] [.int t0] σ (some (Value.int r.1)) r.2 := by
  unfold jX10_net_116 at h
  refine kg_istore_n dX10_net_116 rfl (Nat.le_of_ble_eq_true rfl) rfl (lv2 := [(3, .int t0), (0, .ref 0), (2, .int v2)]) rfl (pc2 := 117) rfl ?_
  refine kg_iload_n 2 dX10_net_117 rfl (pc2 := 118) rfl ?_
  refine kg_if_ne 125 dX10_net_118 rfl (pc2 := 121) rfl (fun q20 => ?_) (fun q20 => ?_)
  · replace h := (if_neg q20).symm.trans h
    refine kg_sub [1, 2, 0] (lv2 := [(0, .ref 0), (2, .int v2), (3, .int t0)]) rfl ?_
    exact gjX10_net_125 v2 t0 σ h
  · replace h := (if_pos q20).symm.trans h
    refine kg_aload_n 1 dX10_net_121 rfl (pc2 := 122) rfl ?_
    obtain ⟨r27, r27h, h⟩ := kw_bind_e h
    refine kg_callV (μ := μX10_net) (d := (d + 6)) rfl mVX10_settles [] [] (gX10_settles (E := E) (d := (d + 3)) σ r27h) rfl lmRX10_104 (ci := 10) rfl tM_0 eM_0 rfl (Nat.le_of_ble_eq_true rfl) dX10_net_122 rfl (st2 := []) rfl (pc2 := 125) rfl ?_
    refine kg_sub [1, 2, 0] (lv2 := [(0, .ref 0), (2, .int v2), (3, .int t0)]) rfl ?_
    exact gjX10_net_125 v2 t0 r27 h
def jX10_net_106 (v2 : Int32) (σ : kw_M) : Option (Int32 × kw_M) :=
 if v2 = (0 : Int32) then
 (jX10_net_116 v2 (0 : Int32) σ)
 else
 jX10_net_116 v2 (-3 : Int32) σ
set_option maxHeartbeats 4000000 in
set_option maxRecDepth 100000 in
theorem gjX10_net_106 {E : kw_E} {d : Nat} (v2 : Int32) (σ : kw_M) {r : Int32 × kw_M} (h : jX10_net_106 v2 σ = some r) : kw_G E kwTM 21 (d + 7) μX10_net 106 [(0, .ref 0), (2, .int v2)] [] σ (some (Value.int r.1)) r.2 := by
  unfold jX10_net_106 at h
  refine kg_iload_n 1 dX10_net_106 rfl (pc2 := 107) rfl ?_
  refine kg_if_eq 115 dX10_net_107 rfl (pc2 := 110) rfl (fun q19 => ?_) (fun q19 => ?_)
  · replace h := (if_pos q19).symm.trans h
    refine kg_iconst dX10_net_115 ki_0 (pc2 := 116) rfl ?_
    exact gjX10_net_116 v2 (0 : Int32) σ h
  · replace h := (if_neg q19).symm.trans h
    refine kg_bipush dX10_net_110 kb_m3 (pc2 := 112) rfl ?_
    refine kg_goto 116 dX10_net_112 rfl ?_
    exact gjX10_net_116 v2 (-3 : Int32) σ h
def fX10_net (a1 : Int32) (σ : kw_M) : Option (Int32 × kw_M) :=
 (fX10_isText a1 σ).bind fun r1 =>
 if r1 = (0 : Int32) then
 (some ((-1 : Int32), σ))
 else
 (fX10_readsText a1 (1 : Int32) σ).bind fun r3 =>
 if r3.1 = (0 : Int32) then
 (some ((r3.2.1 0 9), r3.2))
 else
 (fX10_copies (0 : Int32) (2 : Int32) r3.2).bind fun r5 =>
 (fX10_empties r5).bind fun r6 =>
 (kw_loop (fun s => bX10_net_38 s.1 s.2.1 s.2.2) kw_F ((0 : Int32), (0 : Int32), r6)).bind fun x18 =>
 jX10_net_106 x18.1 x18.2
set_option maxHeartbeats 4000000 in
set_option maxRecDepth 100000 in
theorem gX10_net {E : kw_E} {d : Nat} (a1 : Int32) (σ : kw_M) {r : Int32 × kw_M} (h : fX10_net a1 σ = some r) : kw_Met E kwTM 21 (d + 7) μX10_net [.ref 0, .int a1] σ (some (Value.int r.1)) r.2 := by
  refine kw_enter plRX10 (Nat.le_of_ble_eq_true rfl) ?_
  show kw_G E kwTM 21 (d + 7) μX10_net 0 [(0, .ref 0), (1, .int a1)] [] σ (some (Value.int r.1)) r.2
  unfold fX10_net at h
  refine kg_aload_n 0 dX10_net_0 rfl (pc2 := 1) rfl ?_
  refine kg_iload_n 1 dX10_net_1 rfl (pc2 := 2) rfl ?_
  obtain ⟨r1, r1h, h⟩ := kw_bind_e h
  refine kg_callV (μ := μX10_net) (d := (d + 6)) rfl mVX10_isText [.int a1] [] (gX10_isText (E := E) (d := (d + 5)) a1 σ r1h) rfl lmRX10_260 (ci := 10) rfl tM_0 eM_0 rfl (Nat.le_of_ble_eq_true rfl) dX10_net_2 rfl (st2 := [.int r1]) rfl (pc2 := 5) rfl ?_
  refine kg_if_ne 10 dX10_net_5 rfl (pc2 := 8) rfl (fun q2 => ?_) (fun q2 => ?_)
  · replace h := (if_neg q2).symm.trans h
    refine kg_aload_n 0 dX10_net_10 rfl (pc2 := 11) rfl ?_
    refine kg_iload_n 1 dX10_net_11 rfl (pc2 := 12) rfl ?_
    refine kg_iconst dX10_net_12 ki_1 (pc2 := 13) rfl ?_
    obtain ⟨r3, r3h, h⟩ := kw_bind_e h
    refine kg_callV (μ := μX10_net) (d := (d + 6)) rfl mVX10_readsText [.int a1, .int (1 : Int32)] [] (gX10_readsText (E := E) (d := d) a1 (1 : Int32) σ r3h) rfl lmRX10_263 (ci := 10) rfl tM_0 eM_0 rfl (Nat.le_of_ble_eq_true rfl) dX10_net_13 rfl (st2 := [.int r3.1]) rfl (pc2 := 16) rfl ?_
    refine kg_if_ne 24 dX10_net_16 rfl (pc2 := 19) rfl (fun q4 => ?_) (fun q4 => ?_)
    · replace h := (if_neg q4).symm.trans h
      refine kg_aload_n 0 dX10_net_24 rfl (pc2 := 25) rfl ?_
      refine kg_iconst dX10_net_25 ki_0 (pc2 := 26) rfl ?_
      refine kg_iconst dX10_net_26 ki_2 (pc2 := 27) rfl ?_
      obtain ⟨r5, r5h, h⟩ := kw_bind_e h
      refine kg_callV (μ := μX10_net) (d := (d + 6)) rfl mVX10_copies [.int (0 : Int32), .int (2 : Int32)] [] (gX10_copies (E := E) (d := (d + 6)) (0 : Int32) (2 : Int32) r3.2 r5h) rfl lmRX10_107 (ci := 10) rfl tM_0 eM_0 rfl (Nat.le_of_ble_eq_true rfl) dX10_net_27 rfl (st2 := []) rfl (pc2 := 30) rfl ?_
      refine kg_aload_n 0 dX10_net_30 rfl (pc2 := 31) rfl ?_
      obtain ⟨r6, r6h, h⟩ := kw_bind_e h
      refine kg_callV (μ := μX10_net) (d := (d + 6)) rfl mVX10_empties [] [] (gX10_empties (E := E) (d := (d + 6)) r5 r6h) rfl lmRX10_267 (ci := 10) rfl tM_0 eM_0 rfl (Nat.le_of_ble_eq_true rfl) dX10_net_31 rfl (st2 := []) rfl (pc2 := 34) rfl ?_
      refine kg_iconst dX10_net_34 ki_0 (pc2 := 35) rfl ?_
      refine kg_istore_n dX10_net_35 rfl (Nat.le_of_ble_eq_true rfl) rfl (lv2 := [(2, .int (0 : Int32)), (0, .ref 0), (1, .int a1)]) rfl (pc2 := 36) rfl ?_
      refine kg_iconst dX10_net_36 ki_0 (pc2 := 37) rfl ?_
      refine kg_istore_n dX10_net_37 rfl (Nat.le_of_ble_eq_true rfl) rfl (lv2 := [(3, .int (0 : Int32)), (2, .int (0 : Int32)), (0, .ref 0), (1, .int a1)]) rfl (pc2 := 38) rfl ?_
      refine kg_sub [2, 1, 0] (lv2 := [(0, .ref 0), (2, .int (0 : Int32)), (3, .int (0 : Int32))]) rfl ?_
      obtain ⟨x18, x18h, h⟩ := kw_bind_e h
      refine kw_loop_e (P := fun s => kw_G E kwTM 21 (d + 7) μX10_net 38 [(0, .ref 0), (2, .int s.1), (3, .int s.2.1)] [] s.2.2 (some (Value.int r.1)) r.2) (K := fun y => kw_G E kwTM 21 (d + 7) μX10_net 106 [(0, .ref 0), (2, .int y.1)] [] y.2 (some (Value.int r.1)) r.2) (fun s o h0 hk => lX10_net_38 s.1 s.2.1 s.2.2 h0 hk) kw_F _ _ x18h ?_
      show kw_G E kwTM 21 (d + 7) μX10_net 106 [(0, .ref 0), (2, .int x18.1)] [] x18.2 (some (Value.int r.1)) r.2
      exact gjX10_net_106 x18.1 x18.2 h
    · replace h := (if_pos q4).symm.trans h
      refine kg_aload_n 0 dX10_net_19 rfl (pc2 := 20) rfl ?_
      refine kg_geti clX10 rfl 9 (Nat.le_of_ble_eq_true rfl) lfRX10_165 tM_0 eM_0 rfl dX10_net_20 (pc2 := 23) rfl ?_
      cases h
      exact kg_iret (ty := .int) dX10_net_23 rfl rfl
  · replace h := (if_pos q2).symm.trans h
    refine kg_iconst dX10_net_8 ki_m1 (pc2 := 9) rfl ?_
    cases h
    exact kg_iret (ty := .int) dX10_net_9 rfl rfl
