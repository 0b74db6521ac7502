/-! String.length and String.charAt of the text constants, method by method. -/
theorem dJ0_length_8abf5_0 : decode cJ0_length_8abf5 0 = .ok (.aload_n 0, 1) := by decide +kernel
theorem dJ0_length_8abf5_1 : decode cJ0_length_8abf5 1 = .ok (.getfield 9, 3) := by decide +kernel
theorem dJ0_length_8abf5_4 : decode cJ0_length_8abf5 4 = .ok (.arraylength, 1) := by decide +kernel
theorem dJ0_length_8abf5_5 : decode cJ0_length_8abf5 5 = .ok (.aload_n 0, 1) := by decide +kernel
theorem dJ0_length_8abf5_6 : decode cJ0_length_8abf5 6 = .ok (.invokevirtual 335, 3) := by decide +kernel
theorem dJ0_length_8abf5_9 : decode cJ0_length_8abf5 9 = .ok (.ishr, 1) := by decide +kernel
theorem dJ0_length_8abf5_10 : decode cJ0_length_8abf5 10 = .ok (.ireturn, 1) := by decide +kernel
theorem dJ0_charAt_5068e_0 : decode cJ0_charAt_5068e 0 = .ok (.aload_n 0, 1) := by decide +kernel
theorem dJ0_charAt_5068e_1 : decode cJ0_charAt_5068e 1 = .ok (.invokevirtual 492, 3) := by decide +kernel
theorem dJ0_charAt_5068e_4 : decode cJ0_charAt_5068e 4 = .ok (.ifCond .eq 12, 3) := by decide +kernel
theorem dJ0_charAt_5068e_7 : decode cJ0_charAt_5068e 7 = .ok (.aload_n 0, 1) := by decide +kernel
theorem dJ0_charAt_5068e_8 : decode cJ0_charAt_5068e 8 = .ok (.getfield 9, 3) := by decide +kernel
theorem dJ0_charAt_5068e_11 : decode cJ0_charAt_5068e 11 = .ok (.iload_n 1, 1) := by decide +kernel
theorem dJ0_charAt_5068e_12 : decode cJ0_charAt_5068e 12 = .ok (.invokestatic 495, 3) := by decide +kernel
theorem dJ0_charAt_5068e_15 : decode cJ0_charAt_5068e 15 = .ok (.ireturn, 1) := by decide +kernel
theorem dJ0_charAt_5068e_16 : decode cJ0_charAt_5068e 16 = .ok (.aload_n 0, 1) := by decide +kernel
theorem dJ0_charAt_5068e_17 : decode cJ0_charAt_5068e 17 = .ok (.getfield 9, 3) := by decide +kernel
theorem dJ0_charAt_5068e_20 : decode cJ0_charAt_5068e 20 = .ok (.iload_n 1, 1) := by decide +kernel
theorem dJ0_charAt_5068e_21 : decode cJ0_charAt_5068e 21 = .ok (.invokestatic 498, 3) := by decide +kernel
theorem dJ0_charAt_5068e_24 : decode cJ0_charAt_5068e 24 = .ok (.ireturn, 1) := by decide +kernel
theorem dJ0_coder_7d493_0 : decode cJ0_coder_7d493 0 = .ok (.getstatic 38, 3) := by decide +kernel
theorem dJ0_coder_7d493_3 : decode cJ0_coder_7d493 3 = .ok (.ifCond .eq 10, 3) := by decide +kernel
theorem dJ0_coder_7d493_6 : decode cJ0_coder_7d493 6 = .ok (.aload_n 0, 1) := by decide +kernel
theorem dJ0_coder_7d493_7 : decode cJ0_coder_7d493 7 = .ok (.getfield 15, 3) := by decide +kernel
theorem dJ0_coder_7d493_10 : decode cJ0_coder_7d493 10 = .ok (.goto 4, 3) := by decide +kernel
theorem dJ0_coder_7d493_13 : decode cJ0_coder_7d493 13 = .ok (.iconst 1, 1) := by decide +kernel
theorem dJ0_coder_7d493_14 : decode cJ0_coder_7d493 14 = .ok (.ireturn, 1) := by decide +kernel
theorem dJ0_isLatin1_aae02_0 : decode cJ0_isLatin1_aae02 0 = .ok (.getstatic 38, 3) := by decide +kernel
theorem dJ0_isLatin1_aae02_3 : decode cJ0_isLatin1_aae02 3 = .ok (.ifCond .eq 14, 3) := by decide +kernel
theorem dJ0_isLatin1_aae02_6 : decode cJ0_isLatin1_aae02 6 = .ok (.aload_n 0, 1) := by decide +kernel
theorem dJ0_isLatin1_aae02_7 : decode cJ0_isLatin1_aae02 7 = .ok (.getfield 15, 3) := by decide +kernel
theorem dJ0_isLatin1_aae02_10 : decode cJ0_isLatin1_aae02 10 = .ok (.ifCond .ne 7, 3) := by decide +kernel
theorem dJ0_isLatin1_aae02_13 : decode cJ0_isLatin1_aae02 13 = .ok (.iconst 1, 1) := by decide +kernel
theorem dJ0_isLatin1_aae02_14 : decode cJ0_isLatin1_aae02 14 = .ok (.goto 4, 3) := by decide +kernel
theorem dJ0_isLatin1_aae02_17 : decode cJ0_isLatin1_aae02 17 = .ok (.iconst 0, 1) := by decide +kernel
theorem dJ0_isLatin1_aae02_18 : decode cJ0_isLatin1_aae02 18 = .ok (.ireturn, 1) := by decide +kernel
theorem dJ0_checkIndex_df160_0 : decode cJ0_checkIndex_df160 0 = .ok (.iload_n 0, 1) := by decide +kernel
theorem dJ0_checkIndex_df160_1 : decode cJ0_checkIndex_df160 1 = .ok (.iload_n 1, 1) := by decide +kernel
theorem dJ0_checkIndex_df160_2 : decode cJ0_checkIndex_df160 2 = .ok (.getstatic 1053, 3) := by decide +kernel
theorem dJ0_checkIndex_df160_5 : decode cJ0_checkIndex_df160 5 = .ok (.invokestatic 1059, 3) := by decide +kernel
theorem dJ0_checkIndex_df160_8 : decode cJ0_checkIndex_df160 8 = .ok (.pop, 1) := by decide +kernel
theorem dJ0_checkIndex_df160_9 : decode cJ0_checkIndex_df160 9 = .ok (.return_, 1) := by decide +kernel
theorem dJ1_charAt_3b067_0 : decode cJ1_charAt_3b067 0 = .ok (.iload_n 1, 1) := by decide +kernel
theorem dJ1_charAt_3b067_1 : decode cJ1_charAt_3b067 1 = .ok (.aload_n 0, 1) := by decide +kernel
theorem dJ1_charAt_3b067_2 : decode cJ1_charAt_3b067 2 = .ok (.arraylength, 1) := by decide +kernel
theorem dJ1_charAt_3b067_3 : decode cJ1_charAt_3b067 3 = .ok (.invokestatic 9, 3) := by decide +kernel
theorem dJ1_charAt_3b067_6 : decode cJ1_charAt_3b067 6 = .ok (.aload_n 0, 1) := by decide +kernel
theorem dJ1_charAt_3b067_7 : decode cJ1_charAt_3b067 7 = .ok (.iload_n 1, 1) := by decide +kernel
theorem dJ1_charAt_3b067_8 : decode cJ1_charAt_3b067 8 = .ok (.baload, 1) := by decide +kernel
theorem dJ1_charAt_3b067_9 : decode cJ1_charAt_3b067 9 = .ok (.sipush 255, 3) := by decide +kernel
theorem dJ1_charAt_3b067_12 : decode cJ1_charAt_3b067 12 = .ok (.iand, 1) := by decide +kernel
theorem dJ1_charAt_3b067_13 : decode cJ1_charAt_3b067 13 = .ok (.i2c, 1) := by decide +kernel
theorem dJ1_charAt_3b067_14 : decode cJ1_charAt_3b067 14 = .ok (.ireturn, 1) := by decide +kernel
theorem dJ3_checkIndex_8e157_0 : decode cJ3_checkIndex_8e157 0 = .ok (.iload_n 0, 1) := by decide +kernel
theorem dJ3_checkIndex_8e157_1 : decode cJ3_checkIndex_8e157 1 = .ok (.ifCond .lt 8, 3) := by decide +kernel
theorem dJ3_checkIndex_8e157_4 : decode cJ3_checkIndex_8e157 4 = .ok (.iload_n 0, 1) := by decide +kernel
theorem dJ3_checkIndex_8e157_5 : decode cJ3_checkIndex_8e157 5 = .ok (.iload_n 1, 1) := by decide +kernel
theorem dJ3_checkIndex_8e157_6 : decode cJ3_checkIndex_8e157 6 = .ok (.if_icmp .lt 10, 3) := by decide +kernel
theorem dJ3_checkIndex_8e157_9 : decode cJ3_checkIndex_8e157 9 = .ok (.aload_n 2, 1) := by decide +kernel
theorem dJ3_checkIndex_8e157_10 : decode cJ3_checkIndex_8e157 10 = .ok (.iload_n 0, 1) := by decide +kernel
theorem dJ3_checkIndex_8e157_11 : decode cJ3_checkIndex_8e157 11 = .ok (.iload_n 1, 1) := by decide +kernel
theorem dJ3_checkIndex_8e157_12 : decode cJ3_checkIndex_8e157 12 = .ok (.invokestatic 95, 3) := by decide +kernel
theorem dJ3_checkIndex_8e157_15 : decode cJ3_checkIndex_8e157 15 = .ok (.athrow, 1) := by decide +kernel
theorem dJ3_checkIndex_8e157_16 : decode cJ3_checkIndex_8e157 16 = .ok (.iload_n 0, 1) := by decide +kernel
theorem dJ3_checkIndex_8e157_17 : decode cJ3_checkIndex_8e157 17 = .ok (.ireturn, 1) := by decide +kernel
theorem plRJ0 : plainName RJ0 = true := by decide +kernel
theorem plRJ1 : plainName RJ1 = true := by decide +kernel
theorem plRJ3 : plainName RJ3 = true := by decide +kernel
theorem mVJ0_length_8abf5 : kw_MV μJ0_length_8abf5 0 := ⟨⟨kw_word 123 (by decide +kernel) rfl, kw_word 522 (by decide +kernel) rfl, by decide +kernel, Nat.le_of_ble_eq_true rfl⟩, kw_word 520 (by decide +kernel) rfl, kw_word 521 (by decide +kernel) rfl⟩
theorem mVJ0_charAt_5068e : kw_MV μJ0_charAt_5068e 1 := ⟨⟨kw_word 123 (by decide +kernel) rfl, kw_word 532 (by decide +kernel) rfl, by decide +kernel, Nat.le_of_ble_eq_true rfl⟩, kw_word 530 (by decide +kernel) rfl, kw_word 531 (by decide +kernel) rfl⟩
theorem mVJ0_coder_7d493 : kw_MV μJ0_coder_7d493 0 := ⟨⟨kw_word 123 (by decide +kernel) rfl, kw_word 526 (by decide +kernel) rfl, by decide +kernel, Nat.le_of_ble_eq_true rfl⟩, kw_word 524 (by decide +kernel) rfl, kw_word 525 (by decide +kernel) rfl⟩
theorem mVJ0_isLatin1_aae02 : kw_MV μJ0_isLatin1_aae02 0 := ⟨⟨kw_word 123 (by decide +kernel) rfl, kw_word 536 (by decide +kernel) rfl, by decide +kernel, Nat.le_of_ble_eq_true rfl⟩, kw_word 534 (by decide +kernel) rfl, kw_word 535 (by decide +kernel) rfl⟩
theorem mSJ1_charAt_3b067 : kw_MS μJ1_charAt_3b067 2 := ⟨⟨kw_word 124 (by decide +kernel) rfl, kw_word 539 (by decide +kernel) rfl, by decide +kernel, Nat.le_of_ble_eq_true rfl⟩, kw_word 538 (by decide +kernel) rfl⟩
theorem mSJ0_checkIndex_df160 : kw_MS μJ0_checkIndex_df160 2 := ⟨⟨kw_word 123 (by decide +kernel) rfl, kw_word 542 (by decide +kernel) rfl, by decide +kernel, Nat.le_of_ble_eq_true rfl⟩, kw_word 541 (by decide +kernel) rfl⟩
theorem mSJ3_checkIndex_8e157 : kw_MS μJ3_checkIndex_8e157 3 := ⟨⟨kw_word 125 (by decide +kernel) rfl, kw_word 547 (by decide +kernel) rfl, by decide +kernel, Nat.le_of_ble_eq_true rfl⟩, kw_word 546 (by decide +kernel) rfl⟩
theorem lfRJ0_38 : Cond.fieldLink RJ0 38 "java/lang/String" "COMPACT_STRINGS" "Z" ∈ kw_all := kw_word 527 (by decide +kernel) rfl
theorem lfRJ0_15 : Cond.fieldLink RJ0 15 "java/lang/String" "coder" "B" ∈ kw_all := kw_word 1747 (by decide +kernel) rfl
theorem lfRJ0_9 : Cond.fieldLink RJ0 9 "java/lang/String" "value" "[B" ∈ kw_all := kw_word 1746 (by decide +kernel) rfl
theorem lfRJ0_1053 : Cond.fieldLink RJ0 1053 "jdk/internal/util/Preconditions" "SIOOBE_FORMATTER" "Ljava/util/function/BiFunction;" ∈ kw_all := kw_word 543 (by decide +kernel) rfl
theorem lmRJ0_335 : Cond.methodLink RJ0 335 yJ0_coder_7d493 ∈ kw_all := kw_word 523 (by decide +kernel) rfl
theorem lmRJ0_492 : Cond.methodLink RJ0 492 yJ0_isLatin1_aae02 ∈ kw_all := kw_word 533 (by decide +kernel) rfl
theorem lmRJ0_495 : Cond.methodLink RJ0 495 yJ1_charAt_3b067 ∈ kw_all := kw_word 537 (by decide +kernel) rfl
theorem lmRJ0_1059 : Cond.methodLink RJ0 1059 yJ3_checkIndex_8e157 ∈ kw_all := kw_word 545 (by decide +kernel) rfl
theorem lmRJ1_9 : Cond.methodLink RJ1 9 yJ0_checkIndex_df160 ∈ kw_all := kw_word 540 (by decide +kernel) rfl
set_option maxHeartbeats 4000000 in
set_option maxRecDepth 100000 in
theorem gs_coder {E : kw_E} {τ : Nat → kw_C} {N d : Nat} {σ : kw_M} {j : Nat} (hj : j < 15) : kw_Met E τ N d μJ0_coder_7d493 [.ref (100 + j)] σ (some (.int 0)) σ := by
  refine kw_enter plRJ0 (Nat.le_of_ble_eq_true rfl) ?_
  show kw_G E τ N d μJ0_coder_7d493 0 [(0, .ref (100 + j))] [] σ (some (.int 0)) σ
  refine kg_gcs rfl lfRJ0_38 dJ0_coder_7d493_0 (pc2 := 3) rfl ?_
  refine kg_if_eq 13 dJ0_coder_7d493_3 rfl (pc2 := 6) rfl (fun q => absurd q (by decide)) (fun _ => ?_)
  refine kg_aload_n 0 dJ0_coder_7d493_6 rfl (pc2 := 7) rfl ?_
  refine kg_scod hj rfl lfRJ0_15 dJ0_coder_7d493_7 (pc2 := 10) rfl ?_
  refine kg_goto 14 dJ0_coder_7d493_10 rfl ?_
  exact kg_iret (ty := .byte) dJ0_coder_7d493_14 rfl rfl
set_option maxHeartbeats 4000000 in
set_option maxRecDepth 100000 in
theorem gs_isLatin1 {E : kw_E} {τ : Nat → kw_C} {N d : Nat} {σ : kw_M} {j : Nat} (hj : j < 15) : kw_Met E τ N d μJ0_isLatin1_aae02 [.ref (100 + j)] σ (some (.int 1)) σ := by
  refine kw_enter plRJ0 (Nat.le_of_ble_eq_true rfl) ?_
  show kw_G E τ N d μJ0_isLatin1_aae02 0 [(0, .ref (100 + j))] [] σ (some (.int 1)) σ
  refine kg_gcs rfl lfRJ0_38 dJ0_isLatin1_aae02_0 (pc2 := 3) rfl ?_
  refine kg_if_eq 17 dJ0_isLatin1_aae02_3 rfl (pc2 := 6) rfl (fun q => absurd q (by decide)) (fun _ => ?_)
  refine kg_aload_n 0 dJ0_isLatin1_aae02_6 rfl (pc2 := 7) rfl ?_
  refine kg_scod hj rfl lfRJ0_15 dJ0_isLatin1_aae02_7 (pc2 := 10) rfl ?_
  refine kg_if_ne 17 dJ0_isLatin1_aae02_10 rfl (pc2 := 13) rfl (fun q => absurd rfl q) (fun _ => ?_)
  refine kg_iconst (x := 1) dJ0_isLatin1_aae02_13 (by decide) (pc2 := 14) rfl ?_
  refine kg_goto 18 dJ0_isLatin1_aae02_14 rfl ?_
  exact kg_iret (ty := .boolean) dJ0_isLatin1_aae02_18 rfl rfl
theorem kw_shr0 : ∀ j, j < 15 → Int32.ofNat (kw_slen.getD j 0) >>> ((0 : Int32) &&& 31) = Int32.ofNat (kw_slen.getD j 0) := by decide +kernel
set_option maxHeartbeats 4000000 in
set_option maxRecDepth 100000 in
theorem gs_length {E : kw_E} {τ : Nat → kw_C} {N d : Nat} {σ : kw_M} {j : Nat} (hj : j < 15) : kw_Met E τ N (d + 1) μJ0_length_8abf5 [.ref (100 + j)] σ (some (.int (Int32.ofNat (kw_slen.getD j 0)))) σ := by
  refine kw_enter plRJ0 (Nat.le_of_ble_eq_true rfl) ?_
  show kw_G E τ N (d + 1) μJ0_length_8abf5 0 [(0, .ref (100 + j))] [] σ (some (.int (Int32.ofNat (kw_slen.getD j 0)))) σ
  refine kg_aload_n 0 dJ0_length_8abf5_0 rfl (pc2 := 1) rfl ?_
  refine kg_sval hj rfl lfRJ0_9 dJ0_length_8abf5_1 (pc2 := 4) rfl ?_
  refine kg_stl hj dJ0_length_8abf5_4 (pc2 := 5) rfl ?_
  refine kg_aload_n 0 dJ0_length_8abf5_5 rfl (pc2 := 6) rfl ?_
  refine kg_callT (d := d) rfl mVJ0_coder_7d493 rfl [] [.int (Int32.ofNat (kw_slen.getD j 0))] hj (gs_coder (d := d) hj) rfl lmRJ0_335 rfl (Nat.le_of_ble_eq_true rfl) dJ0_length_8abf5_6 rfl (st2 := [.int 0, .int (Int32.ofNat (kw_slen.getD j 0))]) rfl (pc2 := 9) rfl ?_
  refine kg_ishr dJ0_length_8abf5_9 (pc2 := 10) rfl ?_
  rw [kw_shr0 j hj]
  exact kg_iret (ty := .int) dJ0_length_8abf5_10 rfl rfl
set_option maxHeartbeats 4000000 in
set_option maxRecDepth 100000 in
theorem gs_check3 {E : kw_E} {τ : Nat → kw_C} {N d : Nat} {σ : kw_M} {x n : Int32} (h1 : ¬ x < 0) (h2 : x < n) (w : Value) (hw : w = .null ∨ ∃ a, w = .ref a) : Met E.1 yJ3_checkIndex_8e157 (kw_ws μJ3_checkIndex_8e157) (kw_rm d) (va_Pc [.int x, .int n, w] (kw_Wd E τ N σ)) (kw_Q E τ N (some (.int x)) σ) 0 0 (kw_A E N) := by
  refine kw_enterR (μ := μJ3_checkIndex_8e157) (lv := [(0, .int x), (1, .int n)]) plRJ3 (by rcases hw with rfl | ⟨a, rfl⟩ <;> exact (Nat.le_of_ble_eq_true rfl)) [0, 1] rfl ?_
  refine kg_iload_n 0 dJ3_checkIndex_8e157_0 rfl (pc2 := 1) rfl ?_
  refine kg_if_lt 9 dJ3_checkIndex_8e157_1 rfl (pc2 := 4) rfl (fun q => absurd q h1) (fun _ => ?_)
  refine kg_iload_n 0 dJ3_checkIndex_8e157_4 rfl (pc2 := 5) rfl ?_
  refine kg_iload_n 1 dJ3_checkIndex_8e157_5 rfl (pc2 := 6) rfl ?_
  refine kg_icmp_lt 16 dJ3_checkIndex_8e157_6 rfl (pc2 := 9) rfl (fun _ => ?_) (fun q => absurd h2 q)
  refine kg_iload_n 0 dJ3_checkIndex_8e157_16 rfl (pc2 := 17) rfl ?_
  exact kg_iret (ty := .int) dJ3_checkIndex_8e157_17 rfl rfl
set_option maxHeartbeats 4000000 in
set_option maxRecDepth 100000 in
theorem gs_check {E : kw_E} {τ : Nat → kw_C} {N d : Nat} {σ : kw_M} {x n : Int32} (h1 : ¬ x < 0) (h2 : x < n) : kw_Met E τ N (d + 1) μJ0_checkIndex_df160 [.int x, .int n] σ none σ := by
  refine kw_enter plRJ0 (Nat.le_of_ble_eq_true rfl) ?_
  show kw_G E τ N (d + 1) μJ0_checkIndex_df160 0 [(0, .int x), (1, .int n)] [] σ none σ
  refine kg_iload_n 0 dJ0_checkIndex_df160_0 rfl (pc2 := 1) rfl ?_
  refine kg_iload_n 1 dJ0_checkIndex_df160_1 rfl (pc2 := 2) rfl ?_
  refine kg_sio (d := d) rfl rfl lfRJ0_1053 mSJ3_checkIndex_8e157 lmRJ0_1059 (fun w hw => gs_check3 h1 h2 w hw) (Nat.le_of_ble_eq_true rfl) dJ0_checkIndex_df160_2 dJ0_checkIndex_df160_5 dJ0_checkIndex_df160_8 (pc2 := 9) rfl ?_
  exact kg_vret dJ0_checkIndex_df160_9 rfl
theorem kw_sc_ok : ∀ j, j < 15 → ∀ k, k < kw_slen.getD j 0 → ((kw_sc j k &&& 255).toUInt32 % 65536).toInt32 = kw_sc j k ∧ narrow .char (.int (kw_sc j k)) = .int (kw_sc j k) := by decide +kernel
theorem kw_slen_lt : ∀ j, j < 15 → kw_slen.getD j 0 < 10 := by decide +kernel
theorem kw_sx {j : Nat} (hj : j < 15) {x : Int32} (h1 : ¬ x < 0) (h2 : x < Int32.ofNat (kw_slen.getD j 0)) : x.toNatClampNeg < kw_slen.getD j 0 := by
  have hl := kw_slen_lt j hj
  have h3 := Int32.lt_iff_toInt_lt.mp h2
  rw [show (Int32.ofNat (kw_slen.getD j 0)).toInt = ((kw_slen.getD j 0 : Nat) : Int) from nI_toInt (by omega)] at h3
  have h4 : 0 ≤ x.toInt := by
    have := Int32.not_lt.mp h1
    simpa using Int32.le_iff_toInt_le.mp this
  show x.toInt.toNat < _
  omega
set_option maxHeartbeats 4000000 in
set_option maxRecDepth 100000 in
theorem gs_latin {E : kw_E} {τ : Nat → kw_C} {N d : Nat} {σ : kw_M} {j : Nat} (hj : j < 15) {x : Int32} (h1 : ¬ x < 0) (h2 : x < Int32.ofNat (kw_slen.getD j 0)) : kw_Met E τ N (d + 2) μJ1_charAt_3b067 [.ref (200 + j), .int x] σ (some (.int (kw_sc j x.toNatClampNeg))) σ := by
  have h3 := kw_sx hj h1 h2
  obtain ⟨h4, h5⟩ := kw_sc_ok j hj _ h3
  refine kw_enter plRJ1 (Nat.le_of_ble_eq_true rfl) ?_
  show kw_G E τ N (d + 2) μJ1_charAt_3b067 0 [(0, .ref (200 + j)), (1, .int x)] [] σ (some (.int (kw_sc j x.toNatClampNeg))) σ
  refine kg_iload_n 1 dJ1_charAt_3b067_0 rfl (pc2 := 1) rfl ?_
  refine kg_aload_n 0 dJ1_charAt_3b067_1 rfl (pc2 := 2) rfl ?_
  refine kg_stl hj dJ1_charAt_3b067_2 (pc2 := 3) rfl ?_
  refine kg_callS (d := d + 1) rfl mSJ0_checkIndex_df160 [.int x, .int (Int32.ofNat (kw_slen.getD j 0))] [] (gs_check (d := d) h1 h2) rfl lmRJ1_9 rfl (Nat.le_of_ble_eq_true rfl) dJ1_charAt_3b067_3 rfl (st2 := []) rfl (pc2 := 6) rfl ?_
  refine kg_aload_n 0 dJ1_charAt_3b067_6 rfl (pc2 := 7) rfl ?_
  refine kg_iload_n 1 dJ1_charAt_3b067_7 rfl (pc2 := 8) rfl ?_
  refine kg_stb hj (show vp_in x (kw_slen.getD j 0) from fun q => q.elim h1 (fun z => absurd h3 (Nat.not_lt.mpr z))) dJ1_charAt_3b067_8 (pc2 := 9) rfl ?_
  refine kg_sipush (x := 255) dJ1_charAt_3b067_9 (by decide) (pc2 := 12) rfl ?_
  refine kg_iand dJ1_charAt_3b067_12 (pc2 := 13) rfl ?_
  refine kg_i2c dJ1_charAt_3b067_13 h4 (pc2 := 14) rfl ?_
  exact kg_iret (ty := .char) dJ1_charAt_3b067_14 rfl h5
set_option maxHeartbeats 4000000 in
set_option maxRecDepth 100000 in
theorem gs_charAt {E : kw_E} {τ : Nat → kw_C} {N d : Nat} {σ : kw_M} {j : Nat} (hj : j < 15) {x : Int32} (h1 : ¬ x < 0) (h2 : x < Int32.ofNat (kw_slen.getD j 0)) : kw_Met E τ N (d + 3) μJ0_charAt_5068e [.ref (100 + j), .int x] σ (some (.int (kw_sc j x.toNatClampNeg))) σ := by
  obtain ⟨h4, h5⟩ := kw_sc_ok j hj _ (kw_sx hj h1 h2)
  refine kw_enter plRJ0 (Nat.le_of_ble_eq_true rfl) ?_
  show kw_G E τ N (d + 3) μJ0_charAt_5068e 0 [(0, .ref (100 + j)), (1, .int x)] [] σ (some (.int (kw_sc j x.toNatClampNeg))) σ
  refine kg_aload_n 0 dJ0_charAt_5068e_0 rfl (pc2 := 1) rfl ?_
  refine kg_callT (d := d + 2) rfl mVJ0_isLatin1_aae02 rfl [] [] hj (gs_isLatin1 (d := d + 2) hj) rfl lmRJ0_492 rfl (Nat.le_of_ble_eq_true rfl) dJ0_charAt_5068e_1 rfl (st2 := [.int 1]) rfl (pc2 := 4) rfl ?_
  refine kg_if_eq 16 dJ0_charAt_5068e_4 rfl (pc2 := 7) rfl (fun q => absurd q (by decide)) (fun _ => ?_)
  refine kg_aload_n 0 dJ0_charAt_5068e_7 rfl (pc2 := 8) rfl ?_
  refine kg_sval hj rfl lfRJ0_9 dJ0_charAt_5068e_8 (pc2 := 11) rfl ?_
  refine kg_iload_n 1 dJ0_charAt_5068e_11 rfl (pc2 := 12) rfl ?_
  refine kg_callS (d := d + 2) rfl mSJ1_charAt_3b067 [.ref (200 + j), .int x] [] (gs_latin (d := d) hj h1 h2) rfl lmRJ0_495 rfl (Nat.le_of_ble_eq_true rfl) dJ0_charAt_5068e_12 rfl (st2 := [.int (kw_sc j x.toNatClampNeg)]) rfl (pc2 := 15) rfl ?_
  exact kg_iret (ty := .char) dJ0_charAt_5068e_15 rfl h5
section KT
variable {E : kw_E} {τ : Nat → kw_C} {N d : Nat} {μ : kw_Mt} {pc : Nat} {lv : List (Nat × Value)} {st : List Value} {σ : kw_M} {v : Option Value} {σ2 : kw_M}
theorem kg_strlen {d2 : Nat} (hd2 : d + 2 = d2) {c : Nat} {r : Int32} (h : kw_fsl c = some r) {own : String} (ho : μ.1.cls = own) {i : Nat} (hlink : Cond.methodLink own i yJ0_length_8abf5 ∈ kw_all) (hcat : (st.map fun v => v.category).sum ≤ 8) (hdg : decode μ.2.1 pc = .ok (.invokevirtual i, 3)) {pc2 : Nat} (hp : pc + 3 = pc2) (k : kw_G E τ N d2 μ pc2 lv (.int r :: st) σ v σ2) : kw_G E τ N d2 μ pc lv (.ref c :: st) σ v σ2 := by
  unfold kw_fsl at h
  by_cases hc : 100 ≤ c ∧ c < 115
  · rw [if_pos hc] at h
    cases h
    obtain ⟨j, rfl⟩ : ∃ j, c = 100 + j := ⟨c - 100, by omega⟩
    rw [show 100 + j - 100 = j by omega] at k
    exact kg_callT (d := d + 1) hd2 mVJ0_length_8abf5 rfl [] st (j := j) (by omega) (gs_length (d := d) (by omega)) ho hlink rfl hcat hdg rfl rfl hp k
  · rw [if_neg hc] at h
    cases h
theorem kg_strchr {d2 : Nat} (hd2 : d + 4 = d2) {c : Nat} {x r : Int32} (h : kw_fsc c x = some r) {own : String} (ho : μ.1.cls = own) {i : Nat} (hlink : Cond.methodLink own i yJ0_charAt_5068e ∈ kw_all) (hcat : (st.map fun v => v.category).sum ≤ 8) (hdg : decode μ.2.1 pc = .ok (.invokevirtual i, 3)) {pc2 : Nat} (hp : pc + 3 = pc2) (k : kw_G E τ N d2 μ pc2 lv (.int r :: st) σ v σ2) : kw_G E τ N d2 μ pc lv (.int x :: .ref c :: st) σ v σ2 := by
  unfold kw_fsc at h
  by_cases hc : (100 ≤ c ∧ c < 115) ∧ ¬ x < 0 ∧ x < Int32.ofNat (kw_slen.getD (c - 100) 0)
  · rw [if_pos hc] at h
    cases h
    obtain ⟨hc, h1, h2⟩ := hc
    obtain ⟨j, rfl⟩ : ∃ j, c = 100 + j := ⟨c - 100, by omega⟩
    rw [show 100 + j - 100 = j by omega] at k h2
    exact kg_callT (d := d + 3) hd2 mVJ0_charAt_5068e rfl [.int x] st (j := j) (by omega) (gs_charAt (d := d) (by omega) h1 h2) ho hlink rfl hcat hdg rfl rfl hp k
  · rw [if_neg hc] at h
    cases h
end KT
