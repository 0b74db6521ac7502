/-! The cells of the two systems, and the methods by name. -/
def kwLM : List kw_C := [.inr (10, [(2, 1), (0, 0), (2, 2), (2, 3), (2, 4), (2, 5), (0, 0), (0, 0), (0, 0), (0, 0), (0, 0), (0, 0), (0, 0), (1, 0), (1, 0), (2, 6), (2, 7), (0, 0), (2, 8), (2, 9), (2, 10), (2, 11), (2, 12), (2, 13), (2, 14), (2, 15), (2, 16), (2, 17), (2, 18), (2, 19), (2, 20), (0, 0)]), .inl (0, 2832), .inl (1, 12), .inl (1, 12), .inl (1, 12), .inl (2, 240), .inl (1, 24), .inl (0, 72), .inl (0, 12), .inl (1, 12), .inl (1, 12), .inl (1, 12), .inl (1, 12), .inl (0, 13), .inl (0, 13), .inl (1, 144), .inl (3, 36), .inl (1, 48), .inl (1, 12), .inl (0, 6), .inl (0, 6)]
def kwTM (c : Nat) : kw_C := kwLM.getD c (.inl (0, 0))
theorem tM_0 : 0 < 21 := by decide
theorem eM_0 : kwTM 0 = .inr (10, [(2, 1), (0, 0), (2, 2), (2, 3), (2, 4), (2, 5), (0, 0), (0, 0), (0, 0), (0, 0), (0, 0), (0, 0), (0, 0), (1, 0), (1, 0), (2, 6), (2, 7), (0, 0), (2, 8), (2, 9), (2, 10), (2, 11), (2, 12), (2, 13), (2, 14), (2, 15), (2, 16), (2, 17), (2, 18), (2, 19), (2, 20), (0, 0)]) := rfl
theorem tM_1 : 1 < 21 := by decide
theorem eM_1 : kwTM 1 = .inl (0, 2832) := rfl
theorem tM_2 : 2 < 21 := by decide
theorem eM_2 : kwTM 2 = .inl (1, 12) := rfl
theorem tM_3 : 3 < 21 := by decide
theorem eM_3 : kwTM 3 = .inl (1, 12) := rfl
theorem tM_4 : 4 < 21 := by decide
theorem eM_4 : kwTM 4 = .inl (1, 12) := rfl
theorem tM_5 : 5 < 21 := by decide
theorem eM_5 : kwTM 5 = .inl (2, 240) := rfl
theorem tM_6 : 6 < 21 := by decide
theorem eM_6 : kwTM 6 = .inl (1, 24) := rfl
theorem tM_7 : 7 < 21 := by decide
theorem eM_7 : kwTM 7 = .inl (0, 72) := rfl
theorem tM_8 : 8 < 21 := by decide
theorem eM_8 : kwTM 8 = .inl (0, 12) := rfl
theorem tM_9 : 9 < 21 := by decide
theorem eM_9 : kwTM 9 = .inl (1, 12) := rfl
theorem tM_10 : 10 < 21 := by decide
theorem eM_10 : kwTM 10 = .inl (1, 12) := rfl
theorem tM_11 : 11 < 21 := by decide
theorem eM_11 : kwTM 11 = .inl (1, 12) := rfl
theorem tM_12 : 12 < 21 := by decide
theorem eM_12 : kwTM 12 = .inl (1, 12) := rfl
theorem tM_13 : 13 < 21 := by decide
theorem eM_13 : kwTM 13 = .inl (0, 13) := rfl
theorem tM_14 : 14 < 21 := by decide
theorem eM_14 : kwTM 14 = .inl (0, 13) := rfl
theorem tM_15 : 15 < 21 := by decide
theorem eM_15 : kwTM 15 = .inl (1, 144) := rfl
theorem tM_16 : 16 < 21 := by decide
theorem eM_16 : kwTM 16 = .inl (3, 36) := rfl
theorem tM_17 : 17 < 21 := by decide
theorem eM_17 : kwTM 17 = .inl (1, 48) := rfl
theorem tM_18 : 18 < 21 := by decide
theorem eM_18 : kwTM 18 = .inl (1, 12) := rfl
theorem tM_19 : 19 < 21 := by decide
theorem eM_19 : kwTM 19 = .inl (0, 6) := rfl
theorem tM_20 : 20 < 21 := by decide
theorem eM_20 : kwTM 20 = .inl (0, 6) := rfl
theorem tX_0 : 0 < 48 := by decide
theorem eX_0 : kwTX 0 = .inr (9, [(2, 1), (2, 2), (0, 0), (2, 3), (2, 4), (2, 5), (2, 6), (2, 7), (2, 8), (2, 9), (2, 10), (2, 11)]) := rfl
theorem tX_1 : 1 < 48 := by decide
theorem eX_1 : kwTX 1 = .inr (7, [(2, 12), (2, 13), (0, 0), (0, 0), (0, 0), (0, 0), (2, 14), (0, 0), (2, 15), (2, 16), (2, 17)]) := rfl
theorem tX_2 : 2 < 48 := by decide
theorem eX_2 : kwTX 2 = .inr (7, [(2, 22), (2, 23), (0, 0), (0, 0), (0, 0), (0, 0), (2, 24), (0, 0), (2, 25), (2, 26), (2, 27)]) := rfl
theorem tX_3 : 3 < 48 := by decide
theorem eX_3 : kwTX 3 = .inr (8, [(0, 0), (2, 35)]) := rfl
theorem tX_4 : 4 < 48 := by decide
theorem eX_4 : kwTX 4 = .inr (3, [(0, 0), (0, 0), (2, 36), (2, 37), (3, 0), (0, 0), (0, 0), (0, 0), (0, 0)]) := rfl
theorem tX_5 : 5 < 48 := by decide
theorem eX_5 : kwTX 5 = .inr (2, [(0, 0), (0, 0), (2, 39), (2, 40)]) := rfl
theorem tX_6 : 6 < 48 := by decide
theorem eX_6 : kwTX 6 = .inr (6, [(2, 41), (2, 42), (1, 0), (1, 0), (2, 43), (2, 44)]) := rfl
theorem tX_7 : 7 < 48 := by decide
theorem eX_7 : kwTX 7 = .inr (1, [(2, 1), (2, 47), (0, 0), (1, 0), (1, 0)]) := rfl
theorem tX_8 : 8 < 48 := by decide
theorem eX_8 : kwTX 8 = .inr (5, [(2, 45), (2, 46), (2, 5), (0, 0), (0, 0), (1, 0)]) := rfl
theorem tX_9 : 9 < 48 := by decide
theorem eX_9 : kwTX 9 = .inl (1, 3) := rfl
theorem tX_10 : 10 < 48 := by decide
theorem eX_10 : kwTX 10 = .inr (4, [(0, 0), (0, 0), (1, 0), (2, 32), (2, 33), (2, 34)]) := rfl
theorem tX_11 : 11 < 48 := by decide
theorem eX_11 : kwTX 11 = .inl (1, 12) := rfl
theorem tX_12 : 12 < 48 := by decide
theorem eX_12 : kwTX 12 = .inr (4, [(0, 0), (0, 0), (1, 0), (2, 18), (2, 19), (2, 20)]) := rfl
theorem tX_13 : 13 < 48 := by decide
theorem eX_13 : kwTX 13 = .inr (0, [(0, 0), (2, 21)]) := rfl
theorem tX_14 : 14 < 48 := by decide
theorem eX_14 : kwTX 14 = .inl (0, 12) := rfl
theorem tX_15 : 15 < 48 := by decide
theorem eX_15 : kwTX 15 = .inl (0, 12) := rfl
theorem tX_16 : 16 < 48 := by decide
theorem eX_16 : kwTX 16 = .inl (1, 12) := rfl
theorem tX_17 : 17 < 48 := by decide
theorem eX_17 : kwTX 17 = .inl (0, 12) := rfl
theorem tX_18 : 18 < 48 := by decide
theorem eX_18 : kwTX 18 = .inl (0, 36) := rfl
theorem tX_19 : 19 < 48 := by decide
theorem eX_19 : kwTX 19 = .inl (0, 36) := rfl
theorem tX_20 : 20 < 48 := by decide
theorem eX_20 : kwTX 20 = .inl (0, 36) := rfl
theorem tX_21 : 21 < 48 := by decide
theorem eX_21 : kwTX 21 = .inl (1, 400) := rfl
theorem tX_22 : 22 < 48 := by decide
theorem eX_22 : kwTX 22 = .inr (4, [(0, 0), (0, 0), (1, 0), (2, 28), (2, 29), (2, 30)]) := rfl
theorem tX_23 : 23 < 48 := by decide
theorem eX_23 : kwTX 23 = .inr (0, [(0, 0), (2, 31)]) := rfl
theorem tX_24 : 24 < 48 := by decide
theorem eX_24 : kwTX 24 = .inl (0, 12) := rfl
theorem tX_25 : 25 < 48 := by decide
theorem eX_25 : kwTX 25 = .inl (0, 12) := rfl
theorem tX_26 : 26 < 48 := by decide
theorem eX_26 : kwTX 26 = .inl (1, 12) := rfl
theorem tX_27 : 27 < 48 := by decide
theorem eX_27 : kwTX 27 = .inl (0, 12) := rfl
theorem tX_28 : 28 < 48 := by decide
theorem eX_28 : kwTX 28 = .inl (0, 36) := rfl
theorem tX_29 : 29 < 48 := by decide
theorem eX_29 : kwTX 29 = .inl (0, 36) := rfl
theorem tX_30 : 30 < 48 := by decide
theorem eX_30 : kwTX 30 = .inl (0, 36) := rfl
theorem tX_31 : 31 < 48 := by decide
theorem eX_31 : kwTX 31 = .inl (1, 400) := rfl
theorem tX_32 : 32 < 48 := by decide
theorem eX_32 : kwTX 32 = .inl (0, 36) := rfl
theorem tX_33 : 33 < 48 := by decide
theorem eX_33 : kwTX 33 = .inl (0, 36) := rfl
theorem tX_34 : 34 < 48 := by decide
theorem eX_34 : kwTX 34 = .inl (0, 36) := rfl
theorem tX_35 : 35 < 48 := by decide
theorem eX_35 : kwTX 35 = .inl (0, 240) := rfl
theorem tX_36 : 36 < 48 := by decide
theorem eX_36 : kwTX 36 = .inl (0, 24) := rfl
theorem tX_37 : 37 < 48 := by decide
theorem eX_37 : kwTX 37 = .inl (0, 72) := rfl
theorem tX_38 : 38 < 48 := by decide
theorem eX_38 : kwTX 38 = .inl (0, 0) := rfl
theorem tX_39 : 39 < 48 := by decide
theorem eX_39 : kwTX 39 = .inl (1, 144) := rfl
theorem tX_40 : 40 < 48 := by decide
theorem eX_40 : kwTX 40 = .inl (1, 12) := rfl
theorem tX_41 : 41 < 48 := by decide
theorem eX_41 : kwTX 41 = .inl (1, 12) := rfl
theorem tX_42 : 42 < 48 := by decide
theorem eX_42 : kwTX 42 = .inl (0, 12) := rfl
theorem tX_43 : 43 < 48 := by decide
theorem eX_43 : kwTX 43 = .inl (1, 12) := rfl
theorem tX_44 : 44 < 48 := by decide
theorem eX_44 : kwTX 44 = .inl (1, 12) := rfl
theorem tX_45 : 45 < 48 := by decide
theorem eX_45 : kwTX 45 = .inl (0, 6) := rfl
theorem tX_46 : 46 < 48 := by decide
theorem eX_46 : kwTX 46 = .inl (0, 6) := rfl
theorem tX_47 : 47 < 48 := by decide
theorem eX_47 : kwTX 47 = .inl (1, 12) := rfl
theorem clX0 : kw_CL 0 RX0 TX0 2 := ⟨rfl, kw_words [208, 210] (by decide +kernel) (by decide +kernel), ⟨tyX0, tyX0_ok⟩, nmX0⟩
theorem clX1 : kw_CL 1 RX1 TX1 5 := ⟨rfl, kw_words [406, 408, 410, 412, 414] (by decide +kernel) (by decide +kernel), ⟨tyX1, tyX1_ok⟩, nmX1⟩
theorem clX2 : kw_CL 2 RX2 TX2 4 := ⟨rfl, kw_words [357, 359, 361, 363] (by decide +kernel) (by decide +kernel), ⟨tyX2, tyX2_ok⟩, nmX2⟩
theorem clX3 : kw_CL 3 RX3 TX3 9 := ⟨rfl, kw_words [327, 329, 331, 333, 335, 337, 339, 341, 343] (by decide +kernel) (by decide +kernel), ⟨tyX3, tyX3_ok⟩, nmX3⟩
theorem clX4 : kw_CL 4 RX4 TX4 6 := ⟨rfl, kw_words [183, 185, 187, 189, 191, 193] (by decide +kernel) (by decide +kernel), ⟨tyX4, tyX4_ok⟩, nmX4⟩
theorem clX5 : kw_CL 5 RX5 TX5 6 := ⟨rfl, kw_words [430, 432, 434, 436, 438, 440] (by decide +kernel) (by decide +kernel), ⟨tyX5, tyX5_ok⟩, nmX5⟩
theorem clX6 : kw_CL 6 RX6 TX6 6 := ⟨rfl, kw_words [382, 384, 386, 388, 390, 392] (by decide +kernel) (by decide +kernel), ⟨tyX6, tyX6_ok⟩, nmX6⟩
theorem clX7 : kw_CL 7 RX7 TX7 11 := ⟨rfl, kw_words [271, 273, 275, 277, 279, 281, 283, 285, 287, 289, 291] (by decide +kernel) (by decide +kernel), ⟨tyX7, tyX7_ok⟩, nmX7⟩
theorem clX8 : kw_CL 8 RX8 TX8 2 := ⟨rfl, kw_words [304, 306] (by decide +kernel) (by decide +kernel), ⟨tyX8, tyX8_ok⟩, nmX8⟩
theorem clX9 : kw_CL 9 RX9 TX9 12 := ⟨rfl, kw_words [457, 459, 461, 463, 465, 467, 469, 471, 473, 475, 477, 479] (by decide +kernel) (by decide +kernel), ⟨tyX9, tyX9_ok⟩, nmX9⟩
theorem clX10 : kw_CL 10 RX10 TX10 32 := ⟨rfl, kw_words [1211, 1213, 1215, 1217, 1219, 1221, 1223, 1225, 1227, 1229, 1231, 1233, 1235, 1237, 1239, 1241, 1243, 1245, 1247, 1249, 1251, 1253, 1255, 1257, 1259, 1261, 1263, 1265, 1267, 1269, 1271, 1273] (by decide +kernel) (by decide +kernel), ⟨tyX10, tyX10_ok⟩, nmX10⟩
theorem plRX0 : plainName RX0 = true := by decide +kernel
theorem plRX1 : plainName RX1 = true := by decide +kernel
theorem plRX2 : plainName RX2 = true := by decide +kernel
theorem plRX3 : plainName RX3 = true := by decide +kernel
theorem plRX4 : plainName RX4 = true := by decide +kernel
theorem plRX5 : plainName RX5 = true := by decide +kernel
theorem plRX6 : plainName RX6 = true := by decide +kernel
theorem plRX7 : plainName RX7 = true := by decide +kernel
theorem plRX8 : plainName RX8 = true := by decide +kernel
theorem plRX9 : plainName RX9 = true := by decide +kernel
theorem plRX10 : plainName RX10 = true := by decide +kernel
theorem plRJ6 : plainName RJ6 = true := by decide +kernel
theorem plRJ13 : plainName RJ13 = true := by decide +kernel
theorem plRJ7 : plainName RJ7 = true := by decide +kernel
/-- the cell that field k of a cell holds -/
def kx_a (t n c : Nat) : Prop := c < 48 ∧ kwTX c = .inl (t, n)
def kx_4 (c : Nat) : Prop := c < 48 ∧ kwTX c = .inr (4, [(0, 0), (0, 0), (1, 0), (2, kx_rf c 3), (2, kx_rf c 4), (2, kx_rf c 5)]) ∧ kx_a 0 36 (kx_rf c 3) ∧ kx_a 0 36 (kx_rf c 4) ∧ kx_a 0 36 (kx_rf c 5)
theorem kx_4_10 : kx_4 10 := ⟨tX_10, rfl, ⟨tX_32, eX_32⟩, ⟨tX_33, eX_33⟩, ⟨tX_34, eX_34⟩⟩
theorem kx_4_12 : kx_4 12 := ⟨tX_12, rfl, ⟨tX_18, eX_18⟩, ⟨tX_19, eX_19⟩, ⟨tX_20, eX_20⟩⟩
theorem kx_4_22 : kx_4 22 := ⟨tX_22, rfl, ⟨tX_28, eX_28⟩, ⟨tX_29, eX_29⟩, ⟨tX_30, eX_30⟩⟩
def kx_0 (c : Nat) : Prop := c < 48 ∧ kwTX c = .inr (0, [(0, 0), (2, kx_rf c 1)]) ∧ kx_a 1 400 (kx_rf c 1)
theorem kx_0_13 : kx_0 13 := ⟨tX_13, rfl, ⟨tX_21, eX_21⟩⟩
theorem kx_0_23 : kx_0 23 := ⟨tX_23, rfl, ⟨tX_31, eX_31⟩⟩
def kx_7 (c : Nat) : Prop := c < 48 ∧ kwTX c = .inr (7, [(2, kx_rf c 0), (2, kx_rf c 1), (0, 0), (0, 0), (0, 0), (0, 0), (2, kx_rf c 6), (0, 0), (2, kx_rf c 8), (2, kx_rf c 9), (2, kx_rf c 10)]) ∧ kx_4 (kx_rf c 0) ∧ kx_0 (kx_rf c 1) ∧ kx_a 0 12 (kx_rf c 6) ∧ kx_a 0 12 (kx_rf c 8) ∧ kx_a 1 12 (kx_rf c 9) ∧ kx_a 0 12 (kx_rf c 10)
theorem kx_7_1 : kx_7 1 := ⟨tX_1, rfl, kx_4_12, kx_0_13, ⟨tX_14, eX_14⟩, ⟨tX_15, eX_15⟩, ⟨tX_16, eX_16⟩, ⟨tX_17, eX_17⟩⟩
theorem kx_7_2 : kx_7 2 := ⟨tX_2, rfl, kx_4_22, kx_0_23, ⟨tX_24, eX_24⟩, ⟨tX_25, eX_25⟩, ⟨tX_26, eX_26⟩, ⟨tX_27, eX_27⟩⟩
abbrev μX0_init : kw_Mt := (yX0_init, cX0_init, 1, none)
abbrev μX0_copyFrom : kw_Mt := (yX0_copyFrom, cX0_copyFrom, 2, none)
abbrev μX0_write : kw_Mt := (yX0_write, cX0_write, 7, none)
abbrev μX1_init : kw_Mt := (yX1_init, cX1_init, 2, none)
abbrev μX1_findNext : kw_Mt := (yX1_findNext, cX1_findNext, 2, (some .long))
abbrev μX1_findUseful : kw_Mt := (yX1_findUseful, cX1_findUseful, 2, none)
abbrev μX1_hasTwinBefore : kw_Mt := (yX1_hasTwinBefore, cX1_hasTwinBefore, 5, (some .boolean))
abbrev μX1_isUseful : kw_Mt := (yX1_isUseful, cX1_isUseful, 2, (some .boolean))
abbrev μX1_dive : kw_Mt := (yX1_dive, cX1_dive, 10, none)
abbrev μX1_settleRest : kw_Mt := (yX1_settleRest, cX1_settleRest, 7, none)
abbrev μX2_init : kw_Mt := (yX2_init, cX2_init, 1, none)
abbrev μX2_fillFrom : kw_Mt := (yX2_fillFrom, cX2_fillFrom, 3, none)
abbrev μX2_span : kw_Mt := (yX2_span, cX2_span, 3, (some .long))
abbrev μX2_comesTo : kw_Mt := (yX2_comesTo, cX2_comesTo, 3, (some .boolean))
abbrev μX2_reachOf : kw_Mt := (yX2_reachOf, cX2_reachOf, 5, (some .long))
abbrev μX2_middleTown : kw_Mt := (yX2_middleTown, cX2_middleTown, 5, (some .int))
abbrev μX2_comesToAll : kw_Mt := (yX2_comesToAll, cX2_comesToAll, 3, (some .boolean))
abbrev μX2_groupOf : kw_Mt := (yX2_groupOf, cX2_groupOf, 3, (some .int))
abbrev μX2_comersTo : kw_Mt := (yX2_comersTo, cX2_comersTo, 4, (some .int))
abbrev μX2_ringOf : kw_Mt := (yX2_ringOf, cX2_ringOf, 8, (some .long))
abbrev μX2_wouldMakeBadRing : kw_Mt := (yX2_wouldMakeBadRing, cX2_wouldMakeBadRing, 4, (some .boolean))
abbrev μX2_meetingOf : kw_Mt := (yX2_meetingOf, cX2_meetingOf, 9, (some .int))
abbrev μX2_comeTogether : kw_Mt := (yX2_comeTogether, cX2_comeTogether, 7, (some .long))
abbrev μX3_init : kw_Mt := (yX3_init, cX3_init, 1, none)
abbrev μX3_number : kw_Mt := (yX3_number, cX3_number, 3, (some .int))
abbrev μX3_readText : kw_Mt := (yX3_readText, cX3_readText, 7, (some .int))
abbrev μX3_tellFault : kw_Mt := (yX3_tellFault, cX3_tellFault, 3, none)
abbrev μX3_readClause : kw_Mt := (yX3_readClause, cX3_readClause, 4, (some .boolean))
abbrev μX3_readWord : kw_Mt := (yX3_readWord, cX3_readWord, 4, none)
abbrev μX3_netWord : kw_Mt := (yX3_netWord, cX3_netWord, 3, (some .int))
abbrev μX3_orderWord : kw_Mt := (yX3_orderWord, cX3_orderWord, 3, (some .int))
abbrev μX3_orderText : kw_Mt := (yX3_orderText, cX3_orderText, 1, (some (.object "java/lang/String")))
abbrev μX3_isWord : kw_Mt := (yX3_isWord, cX3_isWord, 4, (some .boolean))
abbrev μX3_shapeOf : kw_Mt := (yX3_shapeOf, cX3_shapeOf, 1, (some (.object "java/lang/String")))
abbrev μX3_readNumber : kw_Mt := (yX3_readNumber, cX3_readNumber, 8, none)
abbrev μX3_readValue : kw_Mt := (yX3_readValue, cX3_readValue, 5, (some .long))
abbrev μX3_isTold : kw_Mt := (yX3_isTold, cX3_isTold, 4, (some .boolean))
abbrev μX4_init : kw_Mt := (yX4_init, cX4_init, 1, none)
abbrev μX4_beginWith : kw_Mt := (yX4_beginWith, cX4_beginWith, 2, none)
abbrev μX4_copyFrom : kw_Mt := (yX4_copyFrom, cX4_copyFrom, 2, none)
abbrev μX4_addRoad : kw_Mt := (yX4_addRoad, cX4_addRoad, 4, (some .int))
abbrev μX4_flip : kw_Mt := (yX4_flip, cX4_flip, 2, none)
abbrev μX4_hasTown : kw_Mt := (yX4_hasTown, cX4_hasTown, 2, (some .boolean))
abbrev μX4_hasAll : kw_Mt := (yX4_hasAll, cX4_hasAll, 2, (some .boolean))
abbrev μX4_hasRoad : kw_Mt := (yX4_hasRoad, cX4_hasRoad, 2, (some .boolean))
abbrev μX4_isOpen : kw_Mt := (yX4_isOpen, cX4_isOpen, 2, (some .boolean))
abbrev μX4_beginRow : kw_Mt := (yX4_beginRow, cX4_beginRow, 3, none)
abbrev μX4_settle : kw_Mt := (yX4_settle, cX4_settle, 11, none)
abbrev μX4_stepAll : kw_Mt := (yX4_stepAll, cX4_stepAll, 5, (some .boolean))
abbrev μX4_lower : kw_Mt := (yX4_lower, cX4_lower, 4, (some .boolean))
abbrev μX4_makesBadRing : kw_Mt := (yX4_makesBadRing, cX4_makesBadRing, 5, (some .boolean))
abbrev μX4_allInts : kw_Mt := (yX4_allInts, cX4_allInts, 3, (some .boolean))
abbrev μX5_init : kw_Mt := (yX5_init, cX5_init, 2, none)
abbrev μX5_findRound : kw_Mt := (yX5_findRound, cX5_findRound, 4, (some .long))
abbrev μX5_dive : kw_Mt := (yX5_dive, cX5_dive, 9, none)
abbrev μX6_init : kw_Mt := (yX6_init, cX6_init, 1, none)
abbrev μX6_findWay : kw_Mt := (yX6_findWay, cX6_findWay, 6, (some .int))
abbrev μX6_foundIsKnown : kw_Mt := (yX6_foundIsKnown, cX6_foundIsKnown, 1, none)
abbrev μX6_waysAsShort : kw_Mt := (yX6_waysAsShort, cX6_waysAsShort, 8, (some .long))
abbrev μX6_withFewRoads : kw_Mt := (yX6_withFewRoads, cX6_withFewRoads, 6, (some .long))
abbrev μX6_withFreeRoads : kw_Mt := (yX6_withFreeRoads, cX6_withFreeRoads, 8, (some .long))
abbrev μX6_goOn : kw_Mt := (yX6_goOn, cX6_goOn, 7, none)
abbrev μX6_narrowest : kw_Mt := (yX6_narrowest, cX6_narrowest, 9, (some .long))
abbrev μX6_twoApart : kw_Mt := (yX6_twoApart, cX6_twoApart, 9, (some .long))
abbrev μX6_stepApart : kw_Mt := (yX6_stepApart, cX6_stepApart, 6, (some .boolean))
abbrev μX6_findLeastMean : kw_Mt := (yX6_findLeastMean, cX6_findLeastMean, 4, (some .boolean))
abbrev μX6_takeMean : kw_Mt := (yX6_takeMean, cX6_takeMean, 4, none)
abbrev μX6_commonDivisor : kw_Mt := (yX6_commonDivisor, cX6_commonDivisor, 11, (some .long))
abbrev μX7_init : kw_Mt := (yX7_init, cX7_init, 1, none)
abbrev μX7_copyFrom : kw_Mt := (yX7_copyFrom, cX7_copyFrom, 2, none)
abbrev μX7_beginWith : kw_Mt := (yX7_beginWith, cX7_beginWith, 3, none)
abbrev μX7_takeOver : kw_Mt := (yX7_takeOver, cX7_takeOver, 5, none)
abbrev μX7_markTouched : kw_Mt := (yX7_markTouched, cX7_markTouched, 3, none)
abbrev μX7_putTouched : kw_Mt := (yX7_putTouched, cX7_putTouched, 4, none)
abbrev μX7_countOthers : kw_Mt := (yX7_countOthers, cX7_countOthers, 4, (some .int))
abbrev μX7_writeEvents : kw_Mt := (yX7_writeEvents, cX7_writeEvents, 3, none)
abbrev μX7_isWatched : kw_Mt := (yX7_isWatched, cX7_isWatched, 2, (some .boolean))
abbrev μX7_isBeyond : kw_Mt := (yX7_isBeyond, cX7_isBeyond, 2, (some .boolean))
abbrev μX7_beyondBits : kw_Mt := (yX7_beyondBits, cX7_beyondBits, 3, (some .int))
abbrev μX7_findParents : kw_Mt := (yX7_findParents, cX7_findParents, 2, none)
abbrev μX7_hasDistance : kw_Mt := (yX7_hasDistance, cX7_hasDistance, 2, (some .boolean))
abbrev μX7_isTight : kw_Mt := (yX7_isTight, cX7_isTight, 2, (some .boolean))
abbrev μX7_slackOf : kw_Mt := (yX7_slackOf, cX7_slackOf, 6, (some .long))
abbrev μX7_tightTo : kw_Mt := (yX7_tightTo, cX7_tightTo, 4, (some .int))
abbrev μX7_tightCount : kw_Mt := (yX7_tightCount, cX7_tightCount, 3, (some .int))
abbrev μX7_settledCount : kw_Mt := (yX7_settledCount, cX7_settledCount, 3, (some .int))
abbrev μX7_belowCount : kw_Mt := (yX7_belowCount, cX7_belowCount, 4, (some .int))
abbrev μX7_comesBy : kw_Mt := (yX7_comesBy, cX7_comesBy, 5, (some .boolean))
abbrev μX8_init : kw_Mt := (yX8_init, cX8_init, 1, none)
abbrev μX8_addInt : kw_Mt := (yX8_addInt, cX8_addInt, 3, none)
abbrev μX8_canGive : kw_Mt := (yX8_canGive, cX8_canGive, 4, (some .boolean))
abbrev μX9_init : kw_Mt := (yX9_init, cX9_init, 1, none)
abbrev μX9_feed : kw_Mt := (yX9_feed, cX9_feed, 6, (some .int))
abbrev μX9_net : kw_Mt := (yX9_net, cX9_net, 3, (some .int))
abbrev μX9_buildNet : kw_Mt := (yX9_buildNet, cX9_buildNet, 3, (some .int))
abbrev μX9_orders : kw_Mt := (yX9_orders, cX9_orders, 4, (some .int))
abbrev μX9_doOrder : kw_Mt := (yX9_doOrder, cX9_doOrder, 4, (some .boolean))
abbrev μX9_lay : kw_Mt := (yX9_lay, cX9_lay, 4, (some .int))
abbrev μX9_layRoad : kw_Mt := (yX9_layRoad, cX9_layRoad, 6, (some .int))
abbrev μX9_length : kw_Mt := (yX9_length, cX9_length, 3, (some .int))
abbrev μX9_changeLength : kw_Mt := (yX9_changeLength, cX9_changeLength, 3, (some .int))
abbrev μX9_close : kw_Mt := (yX9_close, cX9_close, 2, (some .int))
abbrev μX9_open : kw_Mt := (yX9_open, cX9_open, 2, (some .int))
abbrev μX9_turnRoad : kw_Mt := (yX9_turnRoad, cX9_turnRoad, 3, (some .int))
abbrev μX9_origin : kw_Mt := (yX9_origin, cX9_origin, 2, (some .int))
abbrev μX9_moveOrigin : kw_Mt := (yX9_moveOrigin, cX9_moveOrigin, 2, (some .int))
abbrev μX9_doChange : kw_Mt := (yX9_doChange, cX9_doChange, 4, (some .int))
abbrev μX9_judgeAside : kw_Mt := (yX9_judgeAside, cX9_judgeAside, 3, (some .int))
abbrev μX9_isLength : kw_Mt := (yX9_isLength, cX9_isLength, 1, (some .boolean))
abbrev μX9_count : kw_Mt := (yX9_count, cX9_count, 2, (some .int))
abbrev μX9_road : kw_Mt := (yX9_road, cX9_road, 4, (some .long))
abbrev μX9_change : kw_Mt := (yX9_change, cX9_change, 5, (some .long))
abbrev μX9_town : kw_Mt := (yX9_town, cX9_town, 3, (some .long))
abbrev μX9_rightPairs : kw_Mt := (yX9_rightPairs, cX9_rightPairs, 1, (some (.object "KeptWays$Pairs")))
abbrev μX9_way : kw_Mt := (yX9_way, cX9_way, 3, (some .int))
abbrev μX9_findWay : kw_Mt := (yX9_findWay, cX9_findWay, 2, (some .int))
abbrev μX9_needed : kw_Mt := (yX9_needed, cX9_needed, 3, (some .int))
abbrev μX9_isNeeded : kw_Mt := (yX9_isNeeded, cX9_isNeeded, 3, (some .boolean))
abbrev μX9_neededCount : kw_Mt := (yX9_neededCount, cX9_neededCount, 5, (some .int))
abbrev μX9_dearestRoad : kw_Mt := (yX9_dearestRoad, cX9_dearestRoad, 11, (some .int))
abbrev μX9_isLess : kw_Mt := (yX9_isLess, cX9_isLess, 4, (some .boolean))
abbrev μX9_distanceWithout : kw_Mt := (yX9_distanceWithout, cX9_distanceWithout, 3, (some .long))
abbrev μX9_touched : kw_Mt := (yX9_touched, cX9_touched, 2, (some .int))
abbrev μX9_without : kw_Mt := (yX9_without, cX9_without, 3, (some .long))
abbrev μX9_between : kw_Mt := (yX9_between, cX9_between, 3, (some .long))
abbrev μX9_free : kw_Mt := (yX9_free, cX9_free, 3, (some .long))
abbrev μX9_hops : kw_Mt := (yX9_hops, cX9_hops, 3, (some .long))
abbrev μX9_meet : kw_Mt := (yX9_meet, cX9_meet, 5, (some .long))
abbrev μX9_through : kw_Mt := (yX9_through, cX9_through, 3, (some .long))
abbrev μX9_joined : kw_Mt := (yX9_joined, cX9_joined, 4, (some .long))
abbrev μX9_apartLength : kw_Mt := (yX9_apartLength, cX9_apartLength, 2, (some .long))
abbrev μX9_shortcut : kw_Mt := (yX9_shortcut, cX9_shortcut, 3, (some .long))
abbrev μX9_findShortcut : kw_Mt := (yX9_findShortcut, cX9_findShortcut, 7, none)
abbrev μX9_savedBy : kw_Mt := (yX9_savedBy, cX9_savedBy, 9, (some .long))
abbrev μX9_mean : kw_Mt := (yX9_mean, cX9_mean, 2, (some .long))
abbrev μX9_round : kw_Mt := (yX9_round, cX9_round, 6, (some .long))
abbrev μX9_watch : kw_Mt := (yX9_watch, cX9_watch, 3, (some .int))
abbrev μX9_watchTown : kw_Mt := (yX9_watchTown, cX9_watchTown, 3, (some .int))
abbrev μX9_forget : kw_Mt := (yX9_forget, cX9_forget, 2, (some .boolean))
abbrev μX9_forgetTown : kw_Mt := (yX9_forgetTown, cX9_forgetTown, 2, (some .boolean))
abbrev μX9_event : kw_Mt := (yX9_event, cX9_event, 3, (some .long))
abbrev μX9_ifLength : kw_Mt := (yX9_ifLength, cX9_ifLength, 4, (some .int))
abbrev μX9_drawn : kw_Mt := (yX9_drawn, cX9_drawn, 6, (some .long))
abbrev μX9_drawAfter : kw_Mt := (yX9_drawAfter, cX9_drawAfter, 1, (some .int))
abbrev μX9_drawChange : kw_Mt := (yX9_drawChange, cX9_drawChange, 6, none)
abbrev μX9_seed : kw_Mt := (yX9_seed, cX9_seed, 2, (some .boolean))
abbrev μX9_keep : kw_Mt := (yX9_keep, cX9_keep, 1, (some .int))
abbrev μX9_undo : kw_Mt := (yX9_undo, cX9_undo, 1, (some .boolean))
abbrev μX9_check : kw_Mt := (yX9_check, cX9_check, 3, (some .int))
abbrev μX9_isParentByte : kw_Mt := (yX9_isParentByte, cX9_isParentByte, 3, (some .boolean))
abbrev μX10_init : kw_Mt := (yX10_init, cX10_init, 1, none)
abbrev μX10_in : kw_Mt := (yX10_in, cX10_in, 6, (some .boolean))
abbrev μX10_min : kw_Mt := (yX10_min, cX10_min, 2, (some .int))
abbrev μX10_max : kw_Mt := (yX10_max, cX10_max, 2, (some .int))
abbrev μX10_has : kw_Mt := (yX10_has, cX10_has, 2, (some .boolean))
abbrev μX10_copies : kw_Mt := (yX10_copies, cX10_copies, 4, none)
abbrev μX10_towns : kw_Mt := (yX10_towns, cX10_towns, 1, (some .int))
abbrev μX10_of : kw_Mt := (yX10_of, cX10_of, 3, (some .int))
abbrev μX10_sets : kw_Mt := (yX10_sets, cX10_sets, 4, none)
abbrev μX10_isOpen : kw_Mt := (yX10_isOpen, cX10_isOpen, 2, (some .boolean))
abbrev μX10_isTown : kw_Mt := (yX10_isTown, cX10_isTown, 2, (some .boolean))
abbrev μX10_isRoad : kw_Mt := (yX10_isRoad, cX10_isRoad, 2, (some .boolean))
abbrev μX10_isLength : kw_Mt := (yX10_isLength, cX10_isLength, 2, (some .boolean))
abbrev μX10_finds : kw_Mt := (yX10_finds, cX10_finds, 7, none)
abbrev μX10_settles : kw_Mt := (yX10_settles, cX10_settles, 2, none)
abbrev μX10_told : kw_Mt := (yX10_told, cX10_told, 2, (some .long))
abbrev μX10_isRing : kw_Mt := (yX10_isRing, cX10_isRing, 2, (some .boolean))
abbrev μX10_isTooFar : kw_Mt := (yX10_isTooFar, cX10_isTooFar, 2, (some .boolean))
abbrev μX10_isBeyond : kw_Mt := (yX10_isBeyond, cX10_isBeyond, 2, (some .boolean))
abbrev μX10_notesEvent : kw_Mt := (yX10_notesEvent, cX10_notesEvent, 3, none)
abbrev μX10_touches : kw_Mt := (yX10_touches, cX10_touches, 4, (some .int))
abbrev μX10_begins : kw_Mt := (yX10_begins, cX10_begins, 2, none)
abbrev μX10_ends : kw_Mt := (yX10_ends, cX10_ends, 4, (some .int))
abbrev μX10_lay : kw_Mt := (yX10_lay, cX10_lay, 6, (some .int))
abbrev μX10_comes : kw_Mt := (yX10_comes, cX10_comes, 5, (some .int))
abbrev μX10_length : kw_Mt := (yX10_length, cX10_length, 3, (some .int))
abbrev μX10_turns : kw_Mt := (yX10_turns, cX10_turns, 3, (some .int))
abbrev μX10_close : kw_Mt := (yX10_close, cX10_close, 2, (some .int))
abbrev μX10_open : kw_Mt := (yX10_open, cX10_open, 2, (some .int))
abbrev μX10_origin : kw_Mt := (yX10_origin, cX10_origin, 2, (some .int))
abbrev μX10_touched : kw_Mt := (yX10_touched, cX10_touched, 2, (some .int))
abbrev μX10_types : kw_Mt := (yX10_types, cX10_types, 3, none)
abbrev μX10_feed : kw_Mt := (yX10_feed, cX10_feed, 6, (some .int))
abbrev μX10_here : kw_Mt := (yX10_here, cX10_here, 1, (some .int))
abbrev μX10_wrongAt : kw_Mt := (yX10_wrongAt, cX10_wrongAt, 3, (some .boolean))
abbrev μX10_takesSign : kw_Mt := (yX10_takesSign, cX10_takesSign, 2, (some .boolean))
abbrev μX10_readsWord : kw_Mt := (yX10_readsWord, cX10_readsWord, 1, none)
abbrev μX10_readsNumber : kw_Mt := (yX10_readsNumber, cX10_readsNumber, 7, (some .boolean))
abbrev μX10_keepsNumber : kw_Mt := (yX10_keepsNumber, cX10_keepsNumber, 2, (some .boolean))
abbrev μX10_readsRoad : kw_Mt := (yX10_readsRoad, cX10_readsRoad, 4, (some .boolean))
abbrev μX10_readsNet : kw_Mt := (yX10_readsNet, cX10_readsNet, 1, (some .boolean))
abbrev μX10_readsOrder : kw_Mt := (yX10_readsOrder, cX10_readsOrder, 4, (some .boolean))
abbrev μX10_readsClause : kw_Mt := (yX10_readsClause, cX10_readsClause, 2, (some .boolean))
abbrev μX10_readsText : kw_Mt := (yX10_readsText, cX10_readsText, 4, (some .boolean))
abbrev μX10_isText : kw_Mt := (yX10_isText, cX10_isText, 2, (some .boolean))
abbrev μX10_empties : kw_Mt := (yX10_empties, cX10_empties, 3, none)
abbrev μX10_net : kw_Mt := (yX10_net, cX10_net, 4, (some .int))
abbrev μX10_does : kw_Mt := (yX10_does, cX10_does, 6, (some .boolean))
abbrev μX10_orders : kw_Mt := (yX10_orders, cX10_orders, 3, (some .int))
abbrev μX10_slackOf : kw_Mt := (yX10_slackOf, cX10_slackOf, 2, (some .long))
abbrev μX10_isTight : kw_Mt := (yX10_isTight, cX10_isTight, 2, (some .boolean))
abbrev μX10_tightTo : kw_Mt := (yX10_tightTo, cX10_tightTo, 4, (some .int))
abbrev μX10_parentOf : kw_Mt := (yX10_parentOf, cX10_parentOf, 3, (some .int))
abbrev μX10_goesBack : kw_Mt := (yX10_goesBack, cX10_goesBack, 4, (some .int))
abbrev μX10_countsWays : kw_Mt := (yX10_countsWays, cX10_countsWays, 4, none)
abbrev μX10_isNeeded : kw_Mt := (yX10_isNeeded, cX10_isNeeded, 3, (some .boolean))
abbrev μX10_neededMany : kw_Mt := (yX10_neededMany, cX10_neededMany, 4, (some .int))
abbrev μX10_dearestOf : kw_Mt := (yX10_dearestOf, cX10_dearestOf, 7, (some .int))
abbrev μX10_belowOf : kw_Mt := (yX10_belowOf, cX10_belowOf, 5, (some .int))
abbrev μX10_findsLeft : kw_Mt := (yX10_findsLeft, cX10_findsLeft, 3, none)
abbrev μX10_nextOf : kw_Mt := (yX10_nextOf, cX10_nextOf, 12, (some .long))
abbrev μX10_findsPairs : kw_Mt := (yX10_findsPairs, cX10_findsPairs, 3, none)
abbrev μX10_reachOf : kw_Mt := (yX10_reachOf, cX10_reachOf, 5, (some .long))
abbrev μX10_comesToAll : kw_Mt := (yX10_comesToAll, cX10_comesToAll, 3, (some .boolean))
abbrev μX10_middle : kw_Mt := (yX10_middle, cX10_middle, 3, (some .int))
abbrev μX10_ringOf : kw_Mt := (yX10_ringOf, cX10_ringOf, 7, (some .long))
abbrev μX10_groupOf : kw_Mt := (yX10_groupOf, cX10_groupOf, 3, (some .int))
abbrev μX10_comeTo : kw_Mt := (yX10_comeTo, cX10_comeTo, 4, (some .int))
abbrev μX10_narrowOf : kw_Mt := (yX10_narrowOf, cX10_narrowOf, 5, (some .long))
abbrev μX10_comesBy : kw_Mt := (yX10_comesBy, cX10_comesBy, 5, (some .int))
abbrev μX10_apartOf : kw_Mt := (yX10_apartOf, cX10_apartOf, 9, (some .long))
abbrev μX10_town : kw_Mt := (yX10_town, cX10_town, 3, (some .long))
abbrev μX10_openMany : kw_Mt := (yX10_openMany, cX10_openMany, 3, (some .int))
abbrev μX10_reached : kw_Mt := (yX10_reached, cX10_reached, 3, (some .int))
abbrev μX10_tightMany : kw_Mt := (yX10_tightMany, cX10_tightMany, 3, (some .int))
abbrev μX10_watches : kw_Mt := (yX10_watches, cX10_watches, 4, (some .int))
abbrev μX10_count : kw_Mt := (yX10_count, cX10_count, 2, (some .int))
abbrev μX10_road : kw_Mt := (yX10_road, cX10_road, 3, (some .long))
abbrev μX10_change : kw_Mt := (yX10_change, cX10_change, 5, (some .long))
abbrev μX10_way : kw_Mt := (yX10_way, cX10_way, 4, (some .int))
abbrev μX10_needed : kw_Mt := (yX10_needed, cX10_needed, 3, (some .int))
abbrev μX10_without : kw_Mt := (yX10_without, cX10_without, 3, (some .long))
abbrev μX10_between : kw_Mt := (yX10_between, cX10_between, 3, (some .long))
abbrev μX10_offers : kw_Mt := (yX10_offers, cX10_offers, 4, none)
abbrev μX10_free : kw_Mt := (yX10_free, cX10_free, 8, (some .long))
abbrev μX10_goesOn : kw_Mt := (yX10_goesOn, cX10_goesOn, 4, none)
abbrev μX10_stands : kw_Mt := (yX10_stands, cX10_stands, 3, none)
abbrev μX10_hops : kw_Mt := (yX10_hops, cX10_hops, 6, (some .long))
abbrev μX10_common : kw_Mt := (yX10_common, cX10_common, 10, (some .long))
abbrev μX10_mean : kw_Mt := (yX10_mean, cX10_mean, 8, (some .long))
abbrev μX10_roundLong : kw_Mt := (yX10_roundLong, cX10_roundLong, 5, (some .long))
abbrev μX10_changesPlaces : kw_Mt := (yX10_changesPlaces, cX10_changesPlaces, 4, none)
abbrev μX10_nextOrder : kw_Mt := (yX10_nextOrder, cX10_nextOrder, 5, (some .boolean))
abbrev μX10_round : kw_Mt := (yX10_round, cX10_round, 9, (some .long))
abbrev μX10_gather : kw_Mt := (yX10_gather, cX10_gather, 10, (some .long))
abbrev μX10_meet : kw_Mt := (yX10_meet, cX10_meet, 9, (some .long))
abbrev μX10_through : kw_Mt := (yX10_through, cX10_through, 3, (some .long))
abbrev μX10_savedBy : kw_Mt := (yX10_savedBy, cX10_savedBy, 9, (some .long))
abbrev μX10_shortcut : kw_Mt := (yX10_shortcut, cX10_shortcut, 11, (some .long))
abbrev μX10_watch : kw_Mt := (yX10_watch, cX10_watch, 4, (some .int))
abbrev μX10_forget : kw_Mt := (yX10_forget, cX10_forget, 3, (some .boolean))
abbrev μX10_event : kw_Mt := (yX10_event, cX10_event, 4, (some .long))
abbrev μX10_ifLength : kw_Mt := (yX10_ifLength, cX10_ifLength, 4, (some .int))
abbrev μX10_nextLot : kw_Mt := (yX10_nextLot, cX10_nextLot, 1, (some .int))
abbrev μX10_draws : kw_Mt := (yX10_draws, cX10_draws, 3, (some .int))
abbrev μX10_drawn : kw_Mt := (yX10_drawn, cX10_drawn, 5, (some .long))
abbrev μX10_seed : kw_Mt := (yX10_seed, cX10_seed, 2, (some .boolean))
abbrev μX10_keep : kw_Mt := (yX10_keep, cX10_keep, 1, (some .int))
abbrev μX10_undo : kw_Mt := (yX10_undo, cX10_undo, 1, (some .boolean))
abbrev μX10_check : kw_Mt := (yX10_check, cX10_check, 4, (some .int))
abbrev μJ6_bitCount_0f7a4 : kw_Mt := (yJ6_bitCount_0f7a4, cJ6_bitCount_0f7a4, 1, (some .int))
abbrev μJ13_bitCount_95d88 : kw_Mt := (yJ13_bitCount_95d88, cJ13_bitCount_95d88, 2, (some .int))
abbrev μJ9_abs_067f4 : kw_Mt := (yJ9_abs_067f4, cJ9_abs_067f4, 2, (some .long))
abbrev μJ9_max_7cf53 : kw_Mt := (yJ9_max_7cf53, cJ9_max_7cf53, 2, (some .int))
abbrev μJ9_max_f86c9 : kw_Mt := (yJ9_max_f86c9, cJ9_max_f86c9, 4, (some .long))
abbrev μJ9_min_7cf53 : kw_Mt := (yJ9_min_7cf53, cJ9_min_7cf53, 2, (some .int))
abbrev μJ9_min_f86c9 : kw_Mt := (yJ9_min_f86c9, cJ9_min_f86c9, 4, (some .long))
abbrev μJ0_length_8abf5 : kw_Mt := (yJ0_length_8abf5, cJ0_length_8abf5, 1, (some .int))
abbrev μJ0_charAt_5068e : kw_Mt := (yJ0_charAt_5068e, cJ0_charAt_5068e, 2, (some .char))
abbrev μJ0_coder_7d493 : kw_Mt := (yJ0_coder_7d493, cJ0_coder_7d493, 1, (some .byte))
abbrev μJ0_isLatin1_aae02 : kw_Mt := (yJ0_isLatin1_aae02, cJ0_isLatin1_aae02, 1, (some .boolean))
abbrev μJ0_checkIndex_df160 : kw_Mt := (yJ0_checkIndex_df160, cJ0_checkIndex_df160, 2, none)
abbrev μJ1_charAt_3b067 : kw_Mt := (yJ1_charAt_3b067, cJ1_charAt_3b067, 2, (some .char))
abbrev μJ2_getChar_3b067 : kw_Mt := (yJ2_getChar_3b067, cJ2_getChar_3b067, 2, (some .char))
abbrev μJ2_length_9d52b : kw_Mt := (yJ2_length_9d52b, cJ2_length_9d52b, 1, (some .int))
abbrev μJ2_charAt_3b067 : kw_Mt := (yJ2_charAt_3b067, cJ2_charAt_3b067, 2, (some .char))
abbrev μJ2_checkIndex_2214a : kw_Mt := (yJ2_checkIndex_2214a, cJ2_checkIndex_2214a, 2, none)
abbrev μJ7_fill_d0a16 : kw_Mt := (yJ7_fill_d0a16, cJ7_fill_d0a16, 5, none)
abbrev μJ7_fill_53178 : kw_Mt := (yJ7_fill_53178, cJ7_fill_53178, 4, none)
abbrev μJ3_checkIndex_8e157 : kw_Mt := (yJ3_checkIndex_8e157, cJ3_checkIndex_8e157, 3, (some .int))
