set_option maxHeartbeats 4000000 in
set_option maxRecDepth 100000 in
theorem kl_step {E E' : kw_E} {p : Program} {e : Env} {s : State} {m : MethodId} {below : List Frame} {meth : Method} {c : Code} {b L : Nat} {xs : Nat → Int32} {H : Heap} {locs : List Loc} {cells slots : Nat} {Q : State → Prop} {ls : Array Slot} {σX σM : kw_M} {i : Int32} {Rel : kw_M → kw_M → Prop} (ok : kl_ok Rel) (C : kl_Cx E E' p s m meth c b L xs cells slots) (hl : lv_has ls 4 [(3, .int i), (2, .ref (E'.2.2.2 0)), (1, .ref (E.2.2.2 0)), (0, .ref b)]) (hS0 : kl_S E E' s σX σM H locs) (hR : Rel σX σM) (h0 : vp_in i L) (h1 : vp_in (i + 1) L) (h2 : vp_in (i + 2) L) (h3 : vp_in (i + 3) L) (h4 : vp_in (i + 4) L) (h5 : vp_in (i + 5) L) (kk : ∀ (σX1 σM1 : kw_M) (H1 : Heap) (locs1 : List Loc), Rel σX1 σM1 → kl_S E E' s σX1 σM1 H1 locs1 → W p E.1 e room_1 s m #[Value.ref b] below meth c H1 locs1 cells slots Q (F0 m 1173 ls [])) : W p E.1 e room_1 s m #[Value.ref b] below meth c H locs cells slots Q (F0 m 27 ls []) := by
  have hX0 := C.2.2.2.2.2.2.2.2.2.1
  refine lv_aload_n C.1 C.2.1 dL_law_27 rfl (lv_at hl 3 rfl) ?_
  refine lv_iload_n C.1 C.2.1 dL_law_28 rfl (lv_at hl 0 rfl) ?_
  refine va_sld C.1 C.2.1 hX0.1 hX0.2.1 hX0.2.2 hS0.2.2 h0 dL_law_29 ?_
  refine lv_bipush (v := 63) C.1 C.2.1 dL_law_30 (by decide) ?_
  refine lv_iand C.1 C.2.1 dL_law_32 ?_
  generalize xs i.toNatClampNeg &&& 63 = x
  by_cases q0 : x = 0
  · obtain ⟨rX, rM, hX, hM, he, hr⟩ := ok.1 σX σM (xs (i + 1).toNatClampNeg) (xs (i + 2).toNatClampNeg) (xs (i + 3).toNatClampNeg) (xs (i + 4).toNatClampNeg) (xs (i + 5).toNatClampNeg) hR
    refine lv_tableIn (off := 147) (tgt := 180) C.1 C.2.1 dL_law_33 (by rw [q0]; decide) (by rw [q0]; decide) (by rw [q0]; decide) rfl ?_
    exact kl_c0 C hl hS0 h1 h2 h3 h4 h5 hX hM he (fun H1 locs1 hS1 => kk _ _ H1 locs1 hr hS1)
  by_cases q1 : x = 1
  · obtain ⟨rX, rM, hX, hM, he, hr⟩ := ok.2.1 σX σM (xs (i + 1).toNatClampNeg) hR
    refine lv_tableIn (off := 210) (tgt := 243) C.1 C.2.1 dL_law_33 (by rw [q1]; decide) (by rw [q1]; decide) (by rw [q1]; decide) rfl ?_
    exact kl_c1 C hl hS0 h1 hX hM he (fun H1 locs1 hS1 => kk _ _ H1 locs1 hr hS1)
  by_cases q2 : x = 2
  · obtain ⟨rX, rM, hX, hM, he, hr⟩ := ok.2.2.1 σX σM (xs (i + 1).toNatClampNeg) hR
    refine lv_tableIn (off := 233) (tgt := 266) C.1 C.2.1 dL_law_33 (by rw [q2]; decide) (by rw [q2]; decide) (by rw [q2]; decide) rfl ?_
    exact kl_c2 C hl hS0 h1 hX hM he (fun H1 locs1 hS1 => kk _ _ H1 locs1 hr hS1)
  by_cases q3 : x = 3
  · obtain ⟨rX, rM, hX, hM, he, hr⟩ := ok.2.2.2.1 σX σM (xs (i + 1).toNatClampNeg) (xs (i + 2).toNatClampNeg) (xs (i + 3).toNatClampNeg) hR
    refine lv_tableIn (off := 256) (tgt := 289) C.1 C.2.1 dL_law_33 (by rw [q3]; decide) (by rw [q3]; decide) (by rw [q3]; decide) rfl ?_
    exact kl_c3 C hl hS0 h1 h2 h3 hX hM he (fun H1 locs1 hS1 => kk _ _ H1 locs1 hr hS1)
  by_cases q4 : x = 4
  · obtain ⟨rX, rM, hX, hM, he, hr⟩ := ok.2.2.2.2.1 σX σM (xs (i + 1).toNatClampNeg) (xs (i + 2).toNatClampNeg) hR
    refine lv_tableIn (off := 299) (tgt := 332) C.1 C.2.1 dL_law_33 (by rw [q4]; decide) (by rw [q4]; decide) (by rw [q4]; decide) rfl ?_
    exact kl_c4 C hl hS0 h1 h2 hX hM he (fun H1 locs1 hS1 => kk _ _ H1 locs1 hr hS1)
  by_cases q5 : x = 5
  · obtain ⟨rX, rM, hX, hM, he, hr⟩ := ok.2.2.2.2.2.1 σX σM (xs (i + 1).toNatClampNeg) hR
    refine lv_tableIn (off := 332) (tgt := 365) C.1 C.2.1 dL_law_33 (by rw [q5]; decide) (by rw [q5]; decide) (by rw [q5]; decide) rfl ?_
    exact kl_c5 C hl hS0 h1 hX hM he (fun H1 locs1 hS1 => kk _ _ H1 locs1 hr hS1)
  by_cases q6 : x = 6
  · obtain ⟨rX, rM, hX, hM, he, hr⟩ := ok.2.2.2.2.2.2.1 σX σM (xs (i + 1).toNatClampNeg) hR
    refine lv_tableIn (off := 355) (tgt := 388) C.1 C.2.1 dL_law_33 (by rw [q6]; decide) (by rw [q6]; decide) (by rw [q6]; decide) rfl ?_
    exact kl_c6 C hl hS0 h1 hX hM he (fun H1 locs1 hS1 => kk _ _ H1 locs1 hr hS1)
  by_cases q7 : x = 7
  · obtain ⟨rX, rM, hX, hM, he, hr⟩ := ok.2.2.2.2.2.2.2.1 σX σM (xs (i + 1).toNatClampNeg) hR
    refine lv_tableIn (off := 378) (tgt := 411) C.1 C.2.1 dL_law_33 (by rw [q7]; decide) (by rw [q7]; decide) (by rw [q7]; decide) rfl ?_
    exact kl_c7 C hl hS0 h1 hX hM he (fun H1 locs1 hS1 => kk _ _ H1 locs1 hr hS1)
  by_cases q8 : x = 8
  · obtain ⟨rX, rM, hX, hM, he, hr⟩ := ok.2.2.2.2.2.2.2.2.1 σX σM (xs (i + 1).toNatClampNeg) hR
    refine lv_tableIn (off := 401) (tgt := 434) C.1 C.2.1 dL_law_33 (by rw [q8]; decide) (by rw [q8]; decide) (by rw [q8]; decide) rfl ?_
    exact kl_c8 C hl hS0 h1 hX hM he (fun H1 locs1 hS1 => kk _ _ H1 locs1 hr hS1)
  by_cases q9 : x = 9
  · obtain ⟨rX, rM, hX, hM, he, hr⟩ := ok.2.2.2.2.2.2.2.2.2.1 σX σM (xs (i + 1).toNatClampNeg) (xs (i + 2).toNatClampNeg) hR
    refine lv_tableIn (off := 424) (tgt := 457) C.1 C.2.1 dL_law_33 (by rw [q9]; decide) (by rw [q9]; decide) (by rw [q9]; decide) rfl ?_
    exact kl_c9 C hl hS0 h1 h2 hX hM he (fun H1 locs1 hS1 => kk _ _ H1 locs1 hr hS1)
  by_cases q10 : x = 10
  · obtain ⟨rX, rM, hX, hM, he, hr⟩ := ok.2.2.2.2.2.2.2.2.2.2.1 σX σM (xs (i + 1).toNatClampNeg) (xs (i + 2).toNatClampNeg) hR
    refine lv_tableIn (off := 458) (tgt := 491) C.1 C.2.1 dL_law_33 (by rw [q10]; decide) (by rw [q10]; decide) (by rw [q10]; decide) rfl ?_
    exact kl_c10 C hl hS0 h1 h2 hX hM he (fun H1 locs1 hS1 => kk _ _ H1 locs1 hr hS1)
  by_cases q11 : x = 11
  · obtain ⟨rX, rM, hX, hM, he, hr⟩ := ok.2.2.2.2.2.2.2.2.2.2.2.1 σX σM (xs (i + 1).toNatClampNeg) (xs (i + 2).toNatClampNeg) hR
    refine lv_tableIn (off := 492) (tgt := 525) C.1 C.2.1 dL_law_33 (by rw [q11]; decide) (by rw [q11]; decide) (by rw [q11]; decide) rfl ?_
    exact kl_c11 C hl hS0 h1 h2 hX hM he (fun H1 locs1 hS1 => kk _ _ H1 locs1 hr hS1)
  by_cases q12 : x = 12
  · obtain ⟨rX, rM, hX, hM, he, hr⟩ := ok.2.2.2.2.2.2.2.2.2.2.2.2.1 σX σM (xs (i + 1).toNatClampNeg) (xs (i + 2).toNatClampNeg) hR
    refine lv_tableIn (off := 526) (tgt := 559) C.1 C.2.1 dL_law_33 (by rw [q12]; decide) (by rw [q12]; decide) (by rw [q12]; decide) rfl ?_
    exact kl_c12 C hl hS0 h1 h2 hX hM he (fun H1 locs1 hS1 => kk _ _ H1 locs1 hr hS1)
  by_cases q13 : x = 13
  · obtain ⟨rX, rM, hX, hM, he, hr⟩ := ok.2.2.2.2.2.2.2.2.2.2.2.2.2.1 σX σM (xs (i + 1).toNatClampNeg) (xs (i + 2).toNatClampNeg) hR
    refine lv_tableIn (off := 559) (tgt := 592) C.1 C.2.1 dL_law_33 (by rw [q13]; decide) (by rw [q13]; decide) (by rw [q13]; decide) rfl ?_
    exact kl_c13 C hl hS0 h1 h2 hX hM he (fun H1 locs1 hS1 => kk _ _ H1 locs1 hr hS1)
  by_cases q14 : x = 14
  · obtain ⟨rX, rM, hX, hM, he, hr⟩ := ok.2.2.2.2.2.2.2.2.2.2.2.2.2.2.1 σX σM (xs (i + 1).toNatClampNeg) hR
    refine lv_tableIn (off := 592) (tgt := 625) C.1 C.2.1 dL_law_33 (by rw [q14]; decide) (by rw [q14]; decide) (by rw [q14]; decide) rfl ?_
    exact kl_c14 C hl hS0 h1 hX hM he (fun H1 locs1 hS1 => kk _ _ H1 locs1 hr hS1)
  by_cases q15 : x = 15
  · obtain ⟨rX, rM, hX, hM, he, hr⟩ := ok.2.2.2.2.2.2.2.2.2.2.2.2.2.2.2.1 σX σM (xs (i + 1).toNatClampNeg) (xs (i + 2).toNatClampNeg) hR
    refine lv_tableIn (off := 615) (tgt := 648) C.1 C.2.1 dL_law_33 (by rw [q15]; decide) (by rw [q15]; decide) (by rw [q15]; decide) rfl ?_
    exact kl_c15 C hl hS0 h1 h2 hX hM he (fun H1 locs1 hS1 => kk _ _ H1 locs1 hr hS1)
  by_cases q16 : x = 16
  · obtain ⟨rX, rM, hX, hM, he, hr⟩ := ok.2.2.2.2.2.2.2.2.2.2.2.2.2.2.2.2.1 σX σM (xs (i + 1).toNatClampNeg) (xs (i + 2).toNatClampNeg) hR
    refine lv_tableIn (off := 649) (tgt := 682) C.1 C.2.1 dL_law_33 (by rw [q16]; decide) (by rw [q16]; decide) (by rw [q16]; decide) rfl ?_
    exact kl_c16 C hl hS0 h1 h2 hX hM he (fun H1 locs1 hS1 => kk _ _ H1 locs1 hr hS1)
  by_cases q17 : x = 17
  · obtain ⟨rX, rM, hX, hM, he, hr⟩ := ok.2.2.2.2.2.2.2.2.2.2.2.2.2.2.2.2.2.1 σX σM (xs (i + 1).toNatClampNeg) (xs (i + 2).toNatClampNeg) hR
    refine lv_tableIn (off := 683) (tgt := 716) C.1 C.2.1 dL_law_33 (by rw [q17]; decide) (by rw [q17]; decide) (by rw [q17]; decide) rfl ?_
    exact kl_c17 C hl hS0 h1 h2 hX hM he (fun H1 locs1 hS1 => kk _ _ H1 locs1 hr hS1)
  by_cases q18 : x = 18
  · obtain ⟨rX, rM, hX, hM, he, hr⟩ := ok.2.2.2.2.2.2.2.2.2.2.2.2.2.2.2.2.2.2.1 σX σM (xs (i + 1).toNatClampNeg) (xs (i + 2).toNatClampNeg) hR
    refine lv_tableIn (off := 717) (tgt := 750) C.1 C.2.1 dL_law_33 (by rw [q18]; decide) (by rw [q18]; decide) (by rw [q18]; decide) rfl ?_
    exact kl_c18 C hl hS0 h1 h2 hX hM he (fun H1 locs1 hS1 => kk _ _ H1 locs1 hr hS1)
  by_cases q19 : x = 19
  · obtain ⟨rX, rM, hX, hM, he, hr⟩ := ok.2.2.2.2.2.2.2.2.2.2.2.2.2.2.2.2.2.2.2.1 σX σM (xs (i + 1).toNatClampNeg) (xs (i + 2).toNatClampNeg) hR
    refine lv_tableIn (off := 751) (tgt := 784) C.1 C.2.1 dL_law_33 (by rw [q19]; decide) (by rw [q19]; decide) (by rw [q19]; decide) rfl ?_
    exact kl_c19 C hl hS0 h1 h2 hX hM he (fun H1 locs1 hS1 => kk _ _ H1 locs1 hr hS1)
  by_cases q20 : x = 20
  · obtain ⟨rX, rM, hX, hM, he, hr⟩ := ok.2.2.2.2.2.2.2.2.2.2.2.2.2.2.2.2.2.2.2.2.1 σX σM (xs (i + 1).toNatClampNeg) (xs (i + 2).toNatClampNeg) hR
    refine lv_tableIn (off := 785) (tgt := 818) C.1 C.2.1 dL_law_33 (by rw [q20]; decide) (by rw [q20]; decide) (by rw [q20]; decide) rfl ?_
    exact kl_c20 C hl hS0 h1 h2 hX hM he (fun H1 locs1 hS1 => kk _ _ H1 locs1 hr hS1)
  by_cases q21 : x = 21
  · obtain ⟨rX, rM, hX, hM, he, hr⟩ := ok.2.2.2.2.2.2.2.2.2.2.2.2.2.2.2.2.2.2.2.2.2.1 σX σM (xs (i + 1).toNatClampNeg) (xs (i + 2).toNatClampNeg) hR
    refine lv_tableIn (off := 819) (tgt := 852) C.1 C.2.1 dL_law_33 (by rw [q21]; decide) (by rw [q21]; decide) (by rw [q21]; decide) rfl ?_
    exact kl_c21 C hl hS0 h1 h2 hX hM he (fun H1 locs1 hS1 => kk _ _ H1 locs1 hr hS1)
  by_cases q22 : x = 22
  · obtain ⟨rX, rM, hX, hM, he, hr⟩ := ok.2.2.2.2.2.2.2.2.2.2.2.2.2.2.2.2.2.2.2.2.2.2.1 σX σM (xs (i + 1).toNatClampNeg) hR
    refine lv_tableIn (off := 853) (tgt := 886) C.1 C.2.1 dL_law_33 (by rw [q22]; decide) (by rw [q22]; decide) (by rw [q22]; decide) rfl ?_
    exact kl_c22 C hl hS0 h1 hX hM he (fun H1 locs1 hS1 => kk _ _ H1 locs1 hr hS1)
  by_cases q23 : x = 23
  · obtain ⟨rX, rM, hX, hM, he, hr⟩ := ok.2.2.2.2.2.2.2.2.2.2.2.2.2.2.2.2.2.2.2.2.2.2.2.1 σX σM (xs (i + 1).toNatClampNeg) (xs (i + 2).toNatClampNeg) hR
    refine lv_tableIn (off := 877) (tgt := 910) C.1 C.2.1 dL_law_33 (by rw [q23]; decide) (by rw [q23]; decide) (by rw [q23]; decide) rfl ?_
    exact kl_c23 C hl hS0 h1 h2 hX hM he (fun H1 locs1 hS1 => kk _ _ H1 locs1 hr hS1)
  by_cases q24 : x = 24
  · obtain ⟨rX, rM, hX, hM, he, hr⟩ := ok.2.2.2.2.2.2.2.2.2.2.2.2.2.2.2.2.2.2.2.2.2.2.2.2.1 σX σM (xs (i + 1).toNatClampNeg) (xs (i + 2).toNatClampNeg) hR
    refine lv_tableIn (off := 911) (tgt := 944) C.1 C.2.1 dL_law_33 (by rw [q24]; decide) (by rw [q24]; decide) (by rw [q24]; decide) rfl ?_
    exact kl_c24 C hl hS0 h1 h2 hX hM he (fun H1 locs1 hS1 => kk _ _ H1 locs1 hr hS1)
  by_cases q25 : x = 25
  · obtain ⟨rX, rM, hX, hM, he, hr⟩ := ok.2.2.2.2.2.2.2.2.2.2.2.2.2.2.2.2.2.2.2.2.2.2.2.2.2.1 σX σM (xs (i + 1).toNatClampNeg) hR
    refine lv_tableIn (off := 944) (tgt := 977) C.1 C.2.1 dL_law_33 (by rw [q25]; decide) (by rw [q25]; decide) (by rw [q25]; decide) rfl ?_
    exact kl_c25 C hl hS0 h1 hX hM he (fun H1 locs1 hS1 => kk _ _ H1 locs1 hr hS1)
  by_cases q26 : x = 26
  · obtain ⟨rX, rM, hX, hM, he, hr⟩ := ok.2.2.2.2.2.2.2.2.2.2.2.2.2.2.2.2.2.2.2.2.2.2.2.2.2.2.1 σX σM (xs (i + 1).toNatClampNeg) (xs (i + 2).toNatClampNeg) hR
    refine lv_tableIn (off := 967) (tgt := 1000) C.1 C.2.1 dL_law_33 (by rw [q26]; decide) (by rw [q26]; decide) (by rw [q26]; decide) rfl ?_
    exact kl_c26 C hl hS0 h1 h2 hX hM he (fun H1 locs1 hS1 => kk _ _ H1 locs1 hr hS1)
  by_cases q27 : x = 27
  · obtain ⟨rX, rM, hX, hM, he, hr⟩ := ok.2.2.2.2.2.2.2.2.2.2.2.2.2.2.2.2.2.2.2.2.2.2.2.2.2.2.2.1 σX σM (xs (i + 1).toNatClampNeg) (xs (i + 2).toNatClampNeg) hR
    refine lv_tableIn (off := 1001) (tgt := 1034) C.1 C.2.1 dL_law_33 (by rw [q27]; decide) (by rw [q27]; decide) (by rw [q27]; decide) rfl ?_
    exact kl_c27 C hl hS0 h1 h2 hX hM he (fun H1 locs1 hS1 => kk _ _ H1 locs1 hr hS1)
  by_cases q28 : x = 28
  · obtain ⟨rX, rM, hX, hM, he, hr⟩ := ok.2.2.2.2.2.2.2.2.2.2.2.2.2.2.2.2.2.2.2.2.2.2.2.2.2.2.2.2.1 σX σM (xs (i + 1).toNatClampNeg) (xs (i + 2).toNatClampNeg) hR
    refine lv_tableIn (off := 1034) (tgt := 1067) C.1 C.2.1 dL_law_33 (by rw [q28]; decide) (by rw [q28]; decide) (by rw [q28]; decide) rfl ?_
    exact kl_c28 C hl hS0 h1 h2 hX hM he (fun H1 locs1 hS1 => kk _ _ H1 locs1 hr hS1)
  by_cases q29 : x = 29
  · obtain ⟨rX, rM, hX, hM, he, hr⟩ := ok.2.2.2.2.2.2.2.2.2.2.2.2.2.2.2.2.2.2.2.2.2.2.2.2.2.2.2.2.2.1 σX σM (xs (i + 1).toNatClampNeg) hR
    refine lv_tableIn (off := 1068) (tgt := 1101) C.1 C.2.1 dL_law_33 (by rw [q29]; decide) (by rw [q29]; decide) (by rw [q29]; decide) rfl ?_
    exact kl_c29 C hl hS0 h1 hX hM he (fun H1 locs1 hS1 => kk _ _ H1 locs1 hr hS1)
  by_cases q30 : x = 30
  · obtain ⟨rX, rM, hX, hM, he, hr⟩ := ok.2.2.2.2.2.2.2.2.2.2.2.2.2.2.2.2.2.2.2.2.2.2.2.2.2.2.2.2.2.2.1 σX σM hR
    refine lv_tableIn (off := 1091) (tgt := 1124) C.1 C.2.1 dL_law_33 (by rw [q30]; decide) (by rw [q30]; decide) (by rw [q30]; decide) rfl ?_
    exact kl_c30 C hl hS0 hX hM he (fun H1 locs1 hS1 => kk _ _ H1 locs1 hr hS1)
  by_cases q31 : x = 31
  · obtain ⟨rX, rM, hX, hM, he, hr⟩ := ok.2.2.2.2.2.2.2.2.2.2.2.2.2.2.2.2.2.2.2.2.2.2.2.2.2.2.2.2.2.2.2.1 σX σM hR
    refine lv_tableIn (off := 1104) (tgt := 1137) C.1 C.2.1 dL_law_33 (by rw [q31]; decide) (by rw [q31]; decide) (by rw [q31]; decide) rfl ?_
    exact kl_c31 C hl hS0 hX hM he (fun H1 locs1 hS1 => kk _ _ H1 locs1 hr hS1)
  by_cases q32 : x = 32
  · obtain ⟨rX, rM, hX, hM, he, hr⟩ := ok.2.2.2.2.2.2.2.2.2.2.2.2.2.2.2.2.2.2.2.2.2.2.2.2.2.2.2.2.2.2.2.2 σX σM (xs (i + 1).toNatClampNeg) hR
    refine lv_tableIn (off := 1117) (tgt := 1150) C.1 C.2.1 dL_law_33 (by rw [q32]; decide) (by rw [q32]; decide) (by rw [q32]; decide) rfl ?_
    exact kl_c32 C hl hS0 h1 hX hM he (fun H1 locs1 hS1 => kk _ _ H1 locs1 hr hS1)
  refine lv_tableOut (tgt := 1173) C.1 C.2.1 dL_law_33 (by have a0 := kw_neI (n := 0) (by decide) q0; have a1 := kw_neI (n := 1) (by decide) q1; have a2 := kw_neI (n := 2) (by decide) q2; have a3 := kw_neI (n := 3) (by decide) q3; have a4 := kw_neI (n := 4) (by decide) q4; have a5 := kw_neI (n := 5) (by decide) q5; have a6 := kw_neI (n := 6) (by decide) q6; have a7 := kw_neI (n := 7) (by decide) q7; have a8 := kw_neI (n := 8) (by decide) q8; have a9 := kw_neI (n := 9) (by decide) q9; have a10 := kw_neI (n := 10) (by decide) q10; have a11 := kw_neI (n := 11) (by decide) q11; have a12 := kw_neI (n := 12) (by decide) q12; have a13 := kw_neI (n := 13) (by decide) q13; have a14 := kw_neI (n := 14) (by decide) q14; have a15 := kw_neI (n := 15) (by decide) q15; have a16 := kw_neI (n := 16) (by decide) q16; have a17 := kw_neI (n := 17) (by decide) q17; have a18 := kw_neI (n := 18) (by decide) q18; have a19 := kw_neI (n := 19) (by decide) q19; have a20 := kw_neI (n := 20) (by decide) q20; have a21 := kw_neI (n := 21) (by decide) q21; have a22 := kw_neI (n := 22) (by decide) q22; have a23 := kw_neI (n := 23) (by decide) q23; have a24 := kw_neI (n := 24) (by decide) q24; have a25 := kw_neI (n := 25) (by decide) q25; have a26 := kw_neI (n := 26) (by decide) q26; have a27 := kw_neI (n := 27) (by decide) q27; have a28 := kw_neI (n := 28) (by decide) q28; have a29 := kw_neI (n := 29) (by decide) q29; have a30 := kw_neI (n := 30) (by decide) q30; have a31 := kw_neI (n := 31) (by decide) q31; have a32 := kw_neI (n := 32) (by decide) q32; omega) rfl ?_
  exact kk σX σM H locs hR hS0
