/-! Constructors of the leaves. -/
theorem df0 : ∀ j, j < 2 → defaultValue (tyX0 j) = vp_V [.int 0, .null] j := fun j hj => by
  rcases (show j = 0 ∨ j = 1 by omega) with rfl | rfl <;> rfl
theorem df1 : ∀ j, j < 5 → defaultValue (tyX1 j) = vp_V [.null, .null, .int 0, .long 0, .long 0] j := fun j hj => by
  rcases (show j = 0 ∨ j = 1 ∨ j = 2 ∨ j = 3 ∨ j = 4 by omega) with rfl | rfl | rfl | rfl | rfl <;> rfl
theorem df2 : ∀ j, j < 4 → defaultValue (tyX2 j) = vp_V [.int 0, .int 0, .null, .null] j := fun j hj => by
  rcases (show j = 0 ∨ j = 1 ∨ j = 2 ∨ j = 3 by omega) with rfl | rfl | rfl | rfl <;> rfl
theorem df3 : ∀ j, j < 9 → defaultValue (tyX3 j) = vp_V [.int 0, .int 0, .null, .null, .null, .int 0, .int 0, .int 0, .int 0] j := fun j hj => by
  rcases (show j = 0 ∨ j = 1 ∨ j = 2 ∨ j = 3 ∨ j = 4 ∨ j = 5 ∨ j = 6 ∨ j = 7 ∨ j = 8 by omega) with rfl | rfl | rfl | rfl | rfl | rfl | rfl | rfl | rfl <;> rfl
theorem df4 : ∀ j, j < 6 → defaultValue (tyX4 j) = vp_V [.int 0, .int 0, .long 0, .null, .null, .null] j := fun j hj => by
  rcases (show j = 0 ∨ j = 1 ∨ j = 2 ∨ j = 3 ∨ j = 4 ∨ j = 5 by omega) with rfl | rfl | rfl | rfl | rfl | rfl <;> rfl
theorem df5 : ∀ j, j < 6 → defaultValue (tyX5 j) = vp_V [.null, .null, .null, .int 0, .int 0, .long 0] j := fun j hj => by
  rcases (show j = 0 ∨ j = 1 ∨ j = 2 ∨ j = 3 ∨ j = 4 ∨ j = 5 by omega) with rfl | rfl | rfl | rfl | rfl | rfl <;> rfl
theorem df6 : ∀ j, j < 6 → defaultValue (tyX6 j) = vp_V [.null, .null, .long 0, .long 0, .null, .null] j := fun j hj => by
  rcases (show j = 0 ∨ j = 1 ∨ j = 2 ∨ j = 3 ∨ j = 4 ∨ j = 5 by omega) with rfl | rfl | rfl | rfl | rfl | rfl <;> rfl
theorem df7 : ∀ j, j < 11 → defaultValue (tyX7 j) = vp_V [.null, .null, .int 0, .int 0, .int 0, .int 0, .null, .int 0, .null, .null, .null] j := fun j hj => by
  rcases (show j = 0 ∨ j = 1 ∨ j = 2 ∨ j = 3 ∨ j = 4 ∨ j = 5 ∨ j = 6 ∨ j = 7 ∨ j = 8 ∨ j = 9 ∨ j = 10 by omega) with rfl | rfl | rfl | rfl | rfl | rfl | rfl | rfl | rfl | rfl | rfl <;> rfl
theorem df8 : ∀ j, j < 2 → defaultValue (tyX8 j) = vp_V [.int 0, .null] j := fun j hj => by
  rcases (show j = 0 ∨ j = 1 by omega) with rfl | rfl <;> rfl
theorem df9 : ∀ j, j < 12 → defaultValue (tyX9 j) = vp_V [.null, .null, .int 0, .null, .null, .null, .null, .null, .null, .null, .null, .null] j := fun j hj => by
  rcases (show j = 0 ∨ j = 1 ∨ j = 2 ∨ j = 3 ∨ j = 4 ∨ j = 5 ∨ j = 6 ∨ j = 7 ∨ j = 8 ∨ j = 9 ∨ j = 10 ∨ j = 11 by omega) with rfl | rfl | rfl | rfl | rfl | rfl | rfl | rfl | rfl | rfl | rfl | rfl <;> rfl
theorem df10 : ∀ j, j < 32 → defaultValue (tyX10 j) = vp_V [.null, .int 0, .null, .null, .null, .null, .int 0, .int 0, .int 0, .int 0, .int 0, .int 0, .int 0, .long 0, .long 0, .null, .null, .int 0, .null, .null, .null, .null, .null, .null, .null, .null, .null, .null, .null, .null, .null, .int 0] j := fun j hj => by
  rcases (show j = 0 ∨ j = 1 ∨ j = 2 ∨ j = 3 ∨ j = 4 ∨ j = 5 ∨ j = 6 ∨ j = 7 ∨ j = 8 ∨ j = 9 ∨ j = 10 ∨ j = 11 ∨ j = 12 ∨ j = 13 ∨ j = 14 ∨ j = 15 ∨ j = 16 ∨ j = 17 ∨ j = 18 ∨ j = 19 ∨ j = 20 ∨ j = 21 ∨ j = 22 ∨ j = 23 ∨ j = 24 ∨ j = 25 ∨ j = 26 ∨ j = 27 ∨ j = 28 ∨ j = 29 ∨ j = 30 ∨ j = 31 by omega) with rfl | rfl | rfl | rfl | rfl | rfl | rfl | rfl | rfl | rfl | rfl | rfl | rfl | rfl | rfl | rfl | rfl | rfl | rfl | rfl | rfl | rfl | rfl | rfl | rfl | rfl | rfl | rfl | rfl | rfl | rfl | rfl <;> rfl
set_option maxRecDepth 20000 in
theorem kcX0 {E : kw_E} (b : Nat) : kc_Met E 1 1 400 μX0_init [.ref b] [(b, .inr (0, [.int 0, .null]))] (fun qs => [(b, .inr (0, [.int 0, .ref (qs 0)])), ((qs 0), .inl (E.2.2.1 1, 400, .inr (.inl (fun _ => 0))))]) := by
  refine kc_enter plRX0 rfl rfl (Nat.le_of_ble_eq_true rfl) ?_
  show kc_G E _ _ _ _ _ _ 0 [(0, .ref b)] [] _ 0 0
  refine kc_aload_n 0 dX0_init_0 rfl rfl (pc2 := 1) rfl ?_
  refine kc_obj (own := RX0) rfl woRX0 wo_im wo_cd (Nat.le_of_ble_eq_true rfl) (Nat.le_of_ble_eq_true rfl) dX0_init_1 (pc2 := 4) rfl ?_
  refine kc_aload_n 0 dX0_init_4 rfl rfl (pc2 := 5) rfl ?_
  refine kc_sipush (x := 400) dX0_init_5 (by decide) (pc2 := 8) rfl ?_
  refine kc_newa 1 (ty := .long) rfl (fun _ => rfl) ra_long wa_long (N' := 400) (a0 := (400, .inr (.inl (fun _ => 0)))) (fun _ => rfl) (by decide) (by decide) (Nat.le_of_ble_eq_true rfl) (Nat.le_of_ble_eq_true rfl) (Nat.le_of_ble_eq_true rfl) dX0_init_8 (pc2 := 10) rfl (fun q0 => ?_)
  refine kc_putF clX0 rfl 1 (Nat.le_of_ble_eq_true rfl) wfRX0_9 rfl rfl (ty := .array .long) (by decide +kernel) rfl rfl 0 (a := b) (fs := [.int 0, .null]) rfl (Nat.le_of_ble_eq_true rfl) (ws2 := [(b, .inr (0, [.int 0, .ref q0])), (q0, .inl (E.2.2.1 1, 400, .inr (.inl (fun _ => 0))))]) rfl dX0_init_10 (pc2 := 13) rfl ?_
  exact kc_ret (qs := fun k => [q0].getD k 0) [0, 1] rfl rfl rfl (Nat.le_of_ble_eq_true rfl) (Nat.le_of_ble_eq_true rfl) dX0_init_13

set_option maxRecDepth 20000 in
theorem kcX1 {E : kw_E} (b a1 : Nat) : kc_Met E 1 1 12 μX1_init [.ref b, .ref a1] [(b, .inr (1, [.null, .null, .int 0, .long 0, .long 0]))] (fun qs => [(b, .inr (1, [.ref a1, .ref (qs 0), .int 0, .long 0, .long 0])), ((qs 0), .inl (E.2.2.1 1, 12, .inr (.inl (fun _ => 0))))]) := by
  refine kc_enter plRX1 rfl rfl (Nat.le_of_ble_eq_true rfl) ?_
  show kc_G E _ _ _ _ _ _ 0 [(0, .ref b), (1, .ref a1)] [] _ 0 0
  refine kc_aload_n 0 dX1_init_0 rfl rfl (pc2 := 1) rfl ?_
  refine kc_obj (own := RX1) rfl woRX1 wo_im wo_cd (Nat.le_of_ble_eq_true rfl) (Nat.le_of_ble_eq_true rfl) dX1_init_1 (pc2 := 4) rfl ?_
  refine kc_aload_n 0 dX1_init_4 rfl rfl (pc2 := 5) rfl ?_
  refine kc_bipush (x := 12) dX1_init_5 (by decide) (pc2 := 7) rfl ?_
  refine kc_newa 1 (ty := .long) rfl (fun _ => rfl) ra_long wa_long (N' := 12) (a0 := (12, .inr (.inl (fun _ => 0)))) (fun _ => rfl) (by decide) (by decide) (Nat.le_of_ble_eq_true rfl) (Nat.le_of_ble_eq_true rfl) (Nat.le_of_ble_eq_true rfl) dX1_init_7 (pc2 := 9) rfl (fun q0 => ?_)
  refine kc_putF clX1 rfl 1 (Nat.le_of_ble_eq_true rfl) wfRX1_9 rfl rfl (ty := .array .long) (by decide +kernel) rfl rfl 0 (a := b) (fs := [.null, .null, .int 0, .long 0, .long 0]) rfl (Nat.le_of_ble_eq_true rfl) (ws2 := [(b, .inr (1, [.null, .ref q0, .int 0, .long 0, .long 0])), (q0, .inl (E.2.2.1 1, 12, .inr (.inl (fun _ => 0))))]) rfl dX1_init_9 (pc2 := 12) rfl ?_
  refine kc_aload_n 0 dX1_init_12 rfl rfl (pc2 := 13) rfl ?_
  refine kc_aload_n 1 dX1_init_13 rfl rfl (pc2 := 14) rfl ?_
  refine kc_putF clX1 rfl 0 (Nat.le_of_ble_eq_true rfl) wfRX1_15 rfl rfl (ty := (.object "KeptWays$State")) (by decide +kernel) rfl rfl 0 (a := b) (fs := [.null, .ref q0, .int 0, .long 0, .long 0]) rfl (Nat.le_of_ble_eq_true rfl) (ws2 := [(b, .inr (1, [.ref a1, .ref q0, .int 0, .long 0, .long 0])), (q0, .inl (E.2.2.1 1, 12, .inr (.inl (fun _ => 0))))]) rfl dX1_init_14 (pc2 := 17) rfl ?_
  exact kc_ret (qs := fun k => [q0].getD k 0) [0, 1] rfl rfl rfl (Nat.le_of_ble_eq_true rfl) (Nat.le_of_ble_eq_true rfl) dX1_init_17

set_option maxRecDepth 20000 in
theorem kcX2 {E : kw_E} (b : Nat) : kc_Met E 1 2 156 μX2_init [.ref b] [(b, .inr (2, [.int 0, .int 0, .null, .null]))] (fun qs => [(b, .inr (2, [.int 0, .int 0, .ref (qs 0), .ref (qs 1)])), ((qs 0), .inl (E.2.2.1 1, 144, .inr (.inl (fun _ => 0)))), ((qs 1), .inl (E.2.2.1 1, 12, .inr (.inl (fun _ => 0))))]) := by
  refine kc_enter plRX2 rfl rfl (Nat.le_of_ble_eq_true rfl) ?_
  show kc_G E _ _ _ _ _ _ 0 [(0, .ref b)] [] _ 0 0
  refine kc_aload_n 0 dX2_init_0 rfl rfl (pc2 := 1) rfl ?_
  refine kc_obj (own := RX2) rfl woRX2 wo_im wo_cd (Nat.le_of_ble_eq_true rfl) (Nat.le_of_ble_eq_true rfl) dX2_init_1 (pc2 := 4) rfl ?_
  refine kc_aload_n 0 dX2_init_4 rfl rfl (pc2 := 5) rfl ?_
  refine kc_sipush (x := 144) dX2_init_5 (by decide) (pc2 := 8) rfl ?_
  refine kc_newa 1 (ty := .long) rfl (fun _ => rfl) ra_long wa_long (N' := 144) (a0 := (144, .inr (.inl (fun _ => 0)))) (fun _ => rfl) (by decide) (by decide) (Nat.le_of_ble_eq_true rfl) (Nat.le_of_ble_eq_true rfl) (Nat.le_of_ble_eq_true rfl) dX2_init_8 (pc2 := 10) rfl (fun q0 => ?_)
  refine kc_putF clX2 rfl 2 (Nat.le_of_ble_eq_true rfl) wfRX2_9 rfl rfl (ty := .array .long) (by decide +kernel) rfl rfl 0 (a := b) (fs := [.int 0, .int 0, .null, .null]) rfl (Nat.le_of_ble_eq_true rfl) (ws2 := [(b, .inr (2, [.int 0, .int 0, .ref q0, .null])), (q0, .inl (E.2.2.1 1, 144, .inr (.inl (fun _ => 0))))]) rfl dX2_init_10 (pc2 := 13) rfl ?_
  refine kc_aload_n 0 dX2_init_13 rfl rfl (pc2 := 14) rfl ?_
  refine kc_bipush (x := 12) dX2_init_14 (by decide) (pc2 := 16) rfl ?_
  refine kc_newa 1 (ty := .long) rfl (fun _ => rfl) ra_long wa_long (N' := 12) (a0 := (12, .inr (.inl (fun _ => 0)))) (fun _ => rfl) (by decide) (by decide) (Nat.le_of_ble_eq_true rfl) (Nat.le_of_ble_eq_true rfl) (Nat.le_of_ble_eq_true rfl) dX2_init_16 (pc2 := 18) rfl (fun q1 => ?_)
  refine kc_putF clX2 rfl 3 (Nat.le_of_ble_eq_true rfl) wfRX2_15 rfl rfl (ty := .array .long) (by decide +kernel) rfl rfl 0 (a := b) (fs := [.int 0, .int 0, .ref q0, .null]) rfl (Nat.le_of_ble_eq_true rfl) (ws2 := [(b, .inr (2, [.int 0, .int 0, .ref q0, .ref q1])), (q0, .inl (E.2.2.1 1, 144, .inr (.inl (fun _ => 0)))), (q1, .inl (E.2.2.1 1, 12, .inr (.inl (fun _ => 0))))]) rfl dX2_init_18 (pc2 := 21) rfl ?_
  exact kc_ret (qs := fun k => [q0, q1].getD k 0) [0, 1, 2] rfl rfl rfl (Nat.le_of_ble_eq_true rfl) (Nat.le_of_ble_eq_true rfl) dX2_init_21

set_option maxRecDepth 20000 in
theorem kcX3 {E : kw_E} (b : Nat) : kc_Met E 1 3 96 μX3_init [.ref b] [(b, .inr (3, [.int 0, .int 0, .null, .null, .null, .int 0, .int 0, .int 0, .int 0]))] (fun qs => [(b, .inr (3, [.int 0, .int 0, .ref (qs 0), .ref (qs 1), .ref (qs 2), .int 0, .int 0, .int 0, .int 0])), ((qs 0), .inl (E.2.2.1 0, 24, .inl (fun _ => 0))), ((qs 1), .inl (E.2.2.1 0, 72, .inl (fun _ => 0))), ((qs 2), .inl (E.2.2.1 0, 0, .inl (fun _ => 0)))]) := by
  refine kc_enter plRX3 rfl rfl (Nat.le_of_ble_eq_true rfl) ?_
  show kc_G E _ _ _ _ _ _ 0 [(0, .ref b)] [] _ 0 0
  refine kc_aload_n 0 dX3_init_0 rfl rfl (pc2 := 1) rfl ?_
  refine kc_obj (own := RX3) rfl woRX3 wo_im wo_cd (Nat.le_of_ble_eq_true rfl) (Nat.le_of_ble_eq_true rfl) dX3_init_1 (pc2 := 4) rfl ?_
  refine kc_aload_n 0 dX3_init_4 rfl rfl (pc2 := 5) rfl ?_
  refine kc_bipush (x := 24) dX3_init_5 (by decide) (pc2 := 7) rfl ?_
  refine kc_newa 0 (ty := .int) rfl (fun _ => rfl) ra_int wa_int (N' := 24) (a0 := (24, .inl (fun _ => 0))) (fun _ => rfl) (by decide) (by decide) (Nat.le_of_ble_eq_true rfl) (Nat.le_of_ble_eq_true rfl) (Nat.le_of_ble_eq_true rfl) dX3_init_7 (pc2 := 9) rfl (fun q0 => ?_)
  refine kc_putF clX3 rfl 2 (Nat.le_of_ble_eq_true rfl) wfRX3_9 rfl rfl (ty := .array .int) (by decide +kernel) rfl rfl 0 (a := b) (fs := [.int 0, .int 0, .null, .null, .null, .int 0, .int 0, .int 0, .int 0]) rfl (Nat.le_of_ble_eq_true rfl) (ws2 := [(b, .inr (3, [.int 0, .int 0, .ref q0, .null, .null, .int 0, .int 0, .int 0, .int 0])), (q0, .inl (E.2.2.1 0, 24, .inl (fun _ => 0)))]) rfl dX3_init_9 (pc2 := 12) rfl ?_
  refine kc_aload_n 0 dX3_init_12 rfl rfl (pc2 := 13) rfl ?_
  refine kc_bipush (x := 72) dX3_init_13 (by decide) (pc2 := 15) rfl ?_
  refine kc_newa 0 (ty := .int) rfl (fun _ => rfl) ra_int wa_int (N' := 72) (a0 := (72, .inl (fun _ => 0))) (fun _ => rfl) (by decide) (by decide) (Nat.le_of_ble_eq_true rfl) (Nat.le_of_ble_eq_true rfl) (Nat.le_of_ble_eq_true rfl) dX3_init_15 (pc2 := 17) rfl (fun q1 => ?_)
  refine kc_putF clX3 rfl 3 (Nat.le_of_ble_eq_true rfl) wfRX3_15 rfl rfl (ty := .array .int) (by decide +kernel) rfl rfl 0 (a := b) (fs := [.int 0, .int 0, .ref q0, .null, .null, .int 0, .int 0, .int 0, .int 0]) rfl (Nat.le_of_ble_eq_true rfl) (ws2 := [(b, .inr (3, [.int 0, .int 0, .ref q0, .ref q1, .null, .int 0, .int 0, .int 0, .int 0])), (q0, .inl (E.2.2.1 0, 24, .inl (fun _ => 0))), (q1, .inl (E.2.2.1 0, 72, .inl (fun _ => 0)))]) rfl dX3_init_17 (pc2 := 20) rfl ?_
  refine kc_aload_n 0 dX3_init_20 rfl rfl (pc2 := 21) rfl ?_
  refine kc_iconst (x := 0) dX3_init_21 (by decide) (pc2 := 22) rfl ?_
  refine kc_newa 0 (ty := .int) rfl (fun _ => rfl) ra_int wa_int (N' := 0) (a0 := (0, .inl (fun _ => 0))) (fun _ => rfl) (by decide) (by decide) (Nat.le_of_ble_eq_true rfl) (Nat.le_of_ble_eq_true rfl) (Nat.le_of_ble_eq_true rfl) dX3_init_22 (pc2 := 24) rfl (fun q2 => ?_)
  refine kc_putV clX3 rfl 4 (Nat.le_of_ble_eq_true rfl) wfRX3_18 rfl (ty := .array .int) (by decide +kernel) rfl rfl 0 (a := b) (fs := [.int 0, .int 0, .ref q0, .ref q1, .null, .int 0, .int 0, .int 0, .int 0]) rfl (Nat.le_of_ble_eq_true rfl) (ws2 := [(b, .inr (3, [.int 0, .int 0, .ref q0, .ref q1, .ref q2, .int 0, .int 0, .int 0, .int 0])), (q0, .inl (E.2.2.1 0, 24, .inl (fun _ => 0))), (q1, .inl (E.2.2.1 0, 72, .inl (fun _ => 0))), (q2, .inl (E.2.2.1 0, 0, .inl (fun _ => 0)))]) rfl dX3_init_24 (pc2 := 27) rfl ?_
  exact kc_ret (qs := fun k => [q0, q1, q2].getD k 0) [0, 1, 2, 3] rfl rfl rfl (Nat.le_of_ble_eq_true rfl) (Nat.le_of_ble_eq_true rfl) dX3_init_27

set_option maxRecDepth 20000 in
theorem kcX4 {E : kw_E} (b : Nat) : kc_Met E 1 3 108 μX4_init [.ref b] [(b, .inr (4, [.int 0, .int 0, .long 0, .null, .null, .null]))] (fun qs => [(b, .inr (4, [.int 2, .int 0, .long 0, .ref (qs 0), .ref (qs 1), .ref (qs 2)])), ((qs 0), .inl (E.2.2.1 0, 36, .inl (fun _ => 0))), ((qs 1), .inl (E.2.2.1 0, 36, .inl (fun _ => 0))), ((qs 2), .inl (E.2.2.1 0, 36, .inl (fun _ => 0)))]) := by
  refine kc_enter plRX4 rfl rfl (Nat.le_of_ble_eq_true rfl) ?_
  show kc_G E _ _ _ _ _ _ 0 [(0, .ref b)] [] _ 0 0
  refine kc_aload_n 0 dX4_init_0 rfl rfl (pc2 := 1) rfl ?_
  refine kc_obj (own := RX4) rfl woRX4 wo_im wo_cd (Nat.le_of_ble_eq_true rfl) (Nat.le_of_ble_eq_true rfl) dX4_init_1 (pc2 := 4) rfl ?_
  refine kc_aload_n 0 dX4_init_4 rfl rfl (pc2 := 5) rfl ?_
  refine kc_iconst (x := 2) dX4_init_5 (by decide) (pc2 := 6) rfl ?_
  refine kc_putV clX4 rfl 0 (Nat.le_of_ble_eq_true rfl) wfRX4_9 rfl (ty := .int) (by decide +kernel) rfl rfl 0 (a := b) (fs := [.int 0, .int 0, .long 0, .null, .null, .null]) rfl (Nat.le_of_ble_eq_true rfl) (ws2 := [(b, .inr (4, [.int 2, .int 0, .long 0, .null, .null, .null]))]) rfl dX4_init_6 (pc2 := 9) rfl ?_
  refine kc_aload_n 0 dX4_init_9 rfl rfl (pc2 := 10) rfl ?_
  refine kc_bipush (x := 36) dX4_init_10 (by decide) (pc2 := 12) rfl ?_
  refine kc_newa 0 (ty := .int) rfl (fun _ => rfl) ra_int wa_int (N' := 36) (a0 := (36, .inl (fun _ => 0))) (fun _ => rfl) (by decide) (by decide) (Nat.le_of_ble_eq_true rfl) (Nat.le_of_ble_eq_true rfl) (Nat.le_of_ble_eq_true rfl) dX4_init_12 (pc2 := 14) rfl (fun q0 => ?_)
  refine kc_putF clX4 rfl 3 (Nat.le_of_ble_eq_true rfl) wfRX4_15 rfl rfl (ty := .array .int) (by decide +kernel) rfl rfl 0 (a := b) (fs := [.int 2, .int 0, .long 0, .null, .null, .null]) rfl (Nat.le_of_ble_eq_true rfl) (ws2 := [(b, .inr (4, [.int 2, .int 0, .long 0, .ref q0, .null, .null])), (q0, .inl (E.2.2.1 0, 36, .inl (fun _ => 0)))]) rfl dX4_init_14 (pc2 := 17) rfl ?_
  refine kc_aload_n 0 dX4_init_17 rfl rfl (pc2 := 18) rfl ?_
  refine kc_bipush (x := 36) dX4_init_18 (by decide) (pc2 := 20) rfl ?_
  refine kc_newa 0 (ty := .int) rfl (fun _ => rfl) ra_int wa_int (N' := 36) (a0 := (36, .inl (fun _ => 0))) (fun _ => rfl) (by decide) (by decide) (Nat.le_of_ble_eq_true rfl) (Nat.le_of_ble_eq_true rfl) (Nat.le_of_ble_eq_true rfl) dX4_init_20 (pc2 := 22) rfl (fun q1 => ?_)
  refine kc_putF clX4 rfl 4 (Nat.le_of_ble_eq_true rfl) wfRX4_19 rfl rfl (ty := .array .int) (by decide +kernel) rfl rfl 0 (a := b) (fs := [.int 2, .int 0, .long 0, .ref q0, .null, .null]) rfl (Nat.le_of_ble_eq_true rfl) (ws2 := [(b, .inr (4, [.int 2, .int 0, .long 0, .ref q0, .ref q1, .null])), (q0, .inl (E.2.2.1 0, 36, .inl (fun _ => 0))), (q1, .inl (E.2.2.1 0, 36, .inl (fun _ => 0)))]) rfl dX4_init_22 (pc2 := 25) rfl ?_
  refine kc_aload_n 0 dX4_init_25 rfl rfl (pc2 := 26) rfl ?_
  refine kc_bipush (x := 36) dX4_init_26 (by decide) (pc2 := 28) rfl ?_
  refine kc_newa 0 (ty := .int) rfl (fun _ => rfl) ra_int wa_int (N' := 36) (a0 := (36, .inl (fun _ => 0))) (fun _ => rfl) (by decide) (by decide) (Nat.le_of_ble_eq_true rfl) (Nat.le_of_ble_eq_true rfl) (Nat.le_of_ble_eq_true rfl) dX4_init_28 (pc2 := 30) rfl (fun q2 => ?_)
  refine kc_putF clX4 rfl 5 (Nat.le_of_ble_eq_true rfl) wfRX4_22 rfl rfl (ty := .array .int) (by decide +kernel) rfl rfl 0 (a := b) (fs := [.int 2, .int 0, .long 0, .ref q0, .ref q1, .null]) rfl (Nat.le_of_ble_eq_true rfl) (ws2 := [(b, .inr (4, [.int 2, .int 0, .long 0, .ref q0, .ref q1, .ref q2])), (q0, .inl (E.2.2.1 0, 36, .inl (fun _ => 0))), (q1, .inl (E.2.2.1 0, 36, .inl (fun _ => 0))), (q2, .inl (E.2.2.1 0, 36, .inl (fun _ => 0)))]) rfl dX4_init_30 (pc2 := 33) rfl ?_
  exact kc_ret (qs := fun k => [q0, q1, q2].getD k 0) [0, 1, 2, 3] rfl rfl rfl (Nat.le_of_ble_eq_true rfl) (Nat.le_of_ble_eq_true rfl) dX4_init_33

set_option maxRecDepth 20000 in
theorem kcX5 {E : kw_E} (b a1 : Nat) : kc_Met E 1 2 12 μX5_init [.ref b, .ref a1] [(b, .inr (5, [.null, .null, .null, .int 0, .int 0, .long 0]))] (fun qs => [(b, .inr (5, [.ref (qs 0), .ref (qs 1), .ref a1, .int 0, .int 0, .long 0])), ((qs 0), .inl (E.2.2.1 0, 6, .inl (fun _ => 0))), ((qs 1), .inl (E.2.2.1 0, 6, .inl (fun _ => 0)))]) := by
  refine kc_enter plRX5 rfl rfl (Nat.le_of_ble_eq_true rfl) ?_
  show kc_G E _ _ _ _ _ _ 0 [(0, .ref b), (1, .ref a1)] [] _ 0 0
  refine kc_aload_n 0 dX5_init_0 rfl rfl (pc2 := 1) rfl ?_
  refine kc_obj (own := RX5) rfl woRX5 wo_im wo_cd (Nat.le_of_ble_eq_true rfl) (Nat.le_of_ble_eq_true rfl) dX5_init_1 (pc2 := 4) rfl ?_
  refine kc_aload_n 0 dX5_init_4 rfl rfl (pc2 := 5) rfl ?_
  refine kc_bipush (x := 6) dX5_init_5 (by decide) (pc2 := 7) rfl ?_
  refine kc_newa 0 (ty := .int) rfl (fun _ => rfl) ra_int wa_int (N' := 6) (a0 := (6, .inl (fun _ => 0))) (fun _ => rfl) (by decide) (by decide) (Nat.le_of_ble_eq_true rfl) (Nat.le_of_ble_eq_true rfl) (Nat.le_of_ble_eq_true rfl) dX5_init_7 (pc2 := 9) rfl (fun q0 => ?_)
  refine kc_putF clX5 rfl 0 (Nat.le_of_ble_eq_true rfl) wfRX5_9 rfl rfl (ty := .array .int) (by decide +kernel) rfl rfl 0 (a := b) (fs := [.null, .null, .null, .int 0, .int 0, .long 0]) rfl (Nat.le_of_ble_eq_true rfl) (ws2 := [(b, .inr (5, [.ref q0, .null, .null, .int 0, .int 0, .long 0])), (q0, .inl (E.2.2.1 0, 6, .inl (fun _ => 0)))]) rfl dX5_init_9 (pc2 := 12) rfl ?_
  refine kc_aload_n 0 dX5_init_12 rfl rfl (pc2 := 13) rfl ?_
  refine kc_bipush (x := 6) dX5_init_13 (by decide) (pc2 := 15) rfl ?_
  refine kc_newa 0 (ty := .int) rfl (fun _ => rfl) ra_int wa_int (N' := 6) (a0 := (6, .inl (fun _ => 0))) (fun _ => rfl) (by decide) (by decide) (Nat.le_of_ble_eq_true rfl) (Nat.le_of_ble_eq_true rfl) (Nat.le_of_ble_eq_true rfl) dX5_init_15 (pc2 := 17) rfl (fun q1 => ?_)
  refine kc_putF clX5 rfl 1 (Nat.le_of_ble_eq_true rfl) wfRX5_15 rfl rfl (ty := .array .int) (by decide +kernel) rfl rfl 0 (a := b) (fs := [.ref q0, .null, .null, .int 0, .int 0, .long 0]) rfl (Nat.le_of_ble_eq_true rfl) (ws2 := [(b, .inr (5, [.ref q0, .ref q1, .null, .int 0, .int 0, .long 0])), (q0, .inl (E.2.2.1 0, 6, .inl (fun _ => 0))), (q1, .inl (E.2.2.1 0, 6, .inl (fun _ => 0)))]) rfl dX5_init_17 (pc2 := 20) rfl ?_
  refine kc_aload_n 0 dX5_init_20 rfl rfl (pc2 := 21) rfl ?_
  refine kc_aload_n 1 dX5_init_21 rfl rfl (pc2 := 22) rfl ?_
  refine kc_putF clX5 rfl 2 (Nat.le_of_ble_eq_true rfl) wfRX5_18 rfl rfl (ty := (.object "KeptWays$Pairs")) (by decide +kernel) rfl rfl 0 (a := b) (fs := [.ref q0, .ref q1, .null, .int 0, .int 0, .long 0]) rfl (Nat.le_of_ble_eq_true rfl) (ws2 := [(b, .inr (5, [.ref q0, .ref q1, .ref a1, .int 0, .int 0, .long 0])), (q0, .inl (E.2.2.1 0, 6, .inl (fun _ => 0))), (q1, .inl (E.2.2.1 0, 6, .inl (fun _ => 0)))]) rfl dX5_init_22 (pc2 := 25) rfl ?_
  exact kc_ret (qs := fun k => [q0, q1].getD k 0) [0, 1, 2] rfl rfl rfl (Nat.le_of_ble_eq_true rfl) (Nat.le_of_ble_eq_true rfl) dX5_init_25

set_option maxRecDepth 20000 in
theorem kcX6 {E : kw_E} (b : Nat) : kc_Met E 1 4 48 μX6_init [.ref b] [(b, .inr (6, [.null, .null, .long 0, .long 0, .null, .null]))] (fun qs => [(b, .inr (6, [.ref (qs 0), .ref (qs 1), .long 0, .long 0, .ref (qs 2), .ref (qs 3)])), ((qs 0), .inl (E.2.2.1 1, 12, .inr (.inl (fun _ => 0)))), ((qs 1), .inl (E.2.2.1 0, 12, .inl (fun _ => 0))), ((qs 2), .inl (E.2.2.1 1, 12, .inr (.inl (fun _ => 0)))), ((qs 3), .inl (E.2.2.1 1, 12, .inr (.inl (fun _ => 0))))]) := by
  refine kc_enter plRX6 rfl rfl (Nat.le_of_ble_eq_true rfl) ?_
  show kc_G E _ _ _ _ _ _ 0 [(0, .ref b)] [] _ 0 0
  refine kc_aload_n 0 dX6_init_0 rfl rfl (pc2 := 1) rfl ?_
  refine kc_obj (own := RX6) rfl woRX6 wo_im wo_cd (Nat.le_of_ble_eq_true rfl) (Nat.le_of_ble_eq_true rfl) dX6_init_1 (pc2 := 4) rfl ?_
  refine kc_aload_n 0 dX6_init_4 rfl rfl (pc2 := 5) rfl ?_
  refine kc_bipush (x := 12) dX6_init_5 (by decide) (pc2 := 7) rfl ?_
  refine kc_newa 1 (ty := .long) rfl (fun _ => rfl) ra_long wa_long (N' := 12) (a0 := (12, .inr (.inl (fun _ => 0)))) (fun _ => rfl) (by decide) (by decide) (Nat.le_of_ble_eq_true rfl) (Nat.le_of_ble_eq_true rfl) (Nat.le_of_ble_eq_true rfl) dX6_init_7 (pc2 := 9) rfl (fun q0 => ?_)
  refine kc_putF clX6 rfl 0 (Nat.le_of_ble_eq_true rfl) wfRX6_9 rfl rfl (ty := .array .long) (by decide +kernel) rfl rfl 0 (a := b) (fs := [.null, .null, .long 0, .long 0, .null, .null]) rfl (Nat.le_of_ble_eq_true rfl) (ws2 := [(b, .inr (6, [.ref q0, .null, .long 0, .long 0, .null, .null])), (q0, .inl (E.2.2.1 1, 12, .inr (.inl (fun _ => 0))))]) rfl dX6_init_9 (pc2 := 12) rfl ?_
  refine kc_aload_n 0 dX6_init_12 rfl rfl (pc2 := 13) rfl ?_
  refine kc_bipush (x := 12) dX6_init_13 (by decide) (pc2 := 15) rfl ?_
  refine kc_newa 0 (ty := .int) rfl (fun _ => rfl) ra_int wa_int (N' := 12) (a0 := (12, .inl (fun _ => 0))) (fun _ => rfl) (by decide) (by decide) (Nat.le_of_ble_eq_true rfl) (Nat.le_of_ble_eq_true rfl) (Nat.le_of_ble_eq_true rfl) dX6_init_15 (pc2 := 17) rfl (fun q1 => ?_)
  refine kc_putF clX6 rfl 1 (Nat.le_of_ble_eq_true rfl) wfRX6_15 rfl rfl (ty := .array .int) (by decide +kernel) rfl rfl 0 (a := b) (fs := [.ref q0, .null, .long 0, .long 0, .null, .null]) rfl (Nat.le_of_ble_eq_true rfl) (ws2 := [(b, .inr (6, [.ref q0, .ref q1, .long 0, .long 0, .null, .null])), (q0, .inl (E.2.2.1 1, 12, .inr (.inl (fun _ => 0)))), (q1, .inl (E.2.2.1 0, 12, .inl (fun _ => 0)))]) rfl dX6_init_17 (pc2 := 20) rfl ?_
  refine kc_aload_n 0 dX6_init_20 rfl rfl (pc2 := 21) rfl ?_
  refine kc_bipush (x := 12) dX6_init_21 (by decide) (pc2 := 23) rfl ?_
  refine kc_newa 1 (ty := .long) rfl (fun _ => rfl) ra_long wa_long (N' := 12) (a0 := (12, .inr (.inl (fun _ => 0)))) (fun _ => rfl) (by decide) (by decide) (Nat.le_of_ble_eq_true rfl) (Nat.le_of_ble_eq_true rfl) (Nat.le_of_ble_eq_true rfl) dX6_init_23 (pc2 := 25) rfl (fun q2 => ?_)
  refine kc_putF clX6 rfl 4 (Nat.le_of_ble_eq_true rfl) wfRX6_19 rfl rfl (ty := .array .long) (by decide +kernel) rfl rfl 0 (a := b) (fs := [.ref q0, .ref q1, .long 0, .long 0, .null, .null]) rfl (Nat.le_of_ble_eq_true rfl) (ws2 := [(b, .inr (6, [.ref q0, .ref q1, .long 0, .long 0, .ref q2, .null])), (q0, .inl (E.2.2.1 1, 12, .inr (.inl (fun _ => 0)))), (q1, .inl (E.2.2.1 0, 12, .inl (fun _ => 0))), (q2, .inl (E.2.2.1 1, 12, .inr (.inl (fun _ => 0))))]) rfl dX6_init_25 (pc2 := 28) rfl ?_
  refine kc_aload_n 0 dX6_init_28 rfl rfl (pc2 := 29) rfl ?_
  refine kc_bipush (x := 12) dX6_init_29 (by decide) (pc2 := 31) rfl ?_
  refine kc_newa 1 (ty := .long) rfl (fun _ => rfl) ra_long wa_long (N' := 12) (a0 := (12, .inr (.inl (fun _ => 0)))) (fun _ => rfl) (by decide) (by decide) (Nat.le_of_ble_eq_true rfl) (Nat.le_of_ble_eq_true rfl) (Nat.le_of_ble_eq_true rfl) dX6_init_31 (pc2 := 33) rfl (fun q3 => ?_)
  refine kc_putF clX6 rfl 5 (Nat.le_of_ble_eq_true rfl) wfRX6_22 rfl rfl (ty := .array .long) (by decide +kernel) rfl rfl 0 (a := b) (fs := [.ref q0, .ref q1, .long 0, .long 0, .ref q2, .null]) rfl (Nat.le_of_ble_eq_true rfl) (ws2 := [(b, .inr (6, [.ref q0, .ref q1, .long 0, .long 0, .ref q2, .ref q3])), (q0, .inl (E.2.2.1 1, 12, .inr (.inl (fun _ => 0)))), (q1, .inl (E.2.2.1 0, 12, .inl (fun _ => 0))), (q2, .inl (E.2.2.1 1, 12, .inr (.inl (fun _ => 0)))), (q3, .inl (E.2.2.1 1, 12, .inr (.inl (fun _ => 0))))]) rfl dX6_init_33 (pc2 := 36) rfl ?_
  exact kc_ret (qs := fun k => [q0, q1, q2, q3].getD k 0) [0, 1, 2, 3, 4] rfl rfl rfl (Nat.le_of_ble_eq_true rfl) (Nat.le_of_ble_eq_true rfl) dX6_init_36

set_option maxRecDepth 20000 in
theorem kcX8 {E : kw_E} (b : Nat) : kc_Met E 1 1 240 μX8_init [.ref b] [(b, .inr (8, [.int 0, .null]))] (fun qs => [(b, .inr (8, [.int 0, .ref (qs 0)])), ((qs 0), .inl (E.2.2.1 0, 240, .inl (fun _ => 0)))]) := by
  refine kc_enter plRX8 rfl rfl (Nat.le_of_ble_eq_true rfl) ?_
  show kc_G E _ _ _ _ _ _ 0 [(0, .ref b)] [] _ 0 0
  refine kc_aload_n 0 dX8_init_0 rfl rfl (pc2 := 1) rfl ?_
  refine kc_obj (own := RX8) rfl woRX8 wo_im wo_cd (Nat.le_of_ble_eq_true rfl) (Nat.le_of_ble_eq_true rfl) dX8_init_1 (pc2 := 4) rfl ?_
  refine kc_aload_n 0 dX8_init_4 rfl rfl (pc2 := 5) rfl ?_
  refine kc_sipush (x := 240) dX8_init_5 (by decide) (pc2 := 8) rfl ?_
  refine kc_newa 0 (ty := .int) rfl (fun _ => rfl) ra_int wa_int (N' := 240) (a0 := (240, .inl (fun _ => 0))) (fun _ => rfl) (by decide) (by decide) (Nat.le_of_ble_eq_true rfl) (Nat.le_of_ble_eq_true rfl) (Nat.le_of_ble_eq_true rfl) dX8_init_8 (pc2 := 10) rfl (fun q0 => ?_)
  refine kc_putF clX8 rfl 1 (Nat.le_of_ble_eq_true rfl) wfRX8_9 rfl rfl (ty := .array .int) (by decide +kernel) rfl rfl 0 (a := b) (fs := [.int 0, .null]) rfl (Nat.le_of_ble_eq_true rfl) (ws2 := [(b, .inr (8, [.int 0, .ref q0])), (q0, .inl (E.2.2.1 0, 240, .inl (fun _ => 0)))]) rfl dX8_init_10 (pc2 := 13) rfl ?_
  exact kc_ret (qs := fun k => [q0].getD k 0) [0, 1] rfl rfl rfl (Nat.le_of_ble_eq_true rfl) (Nat.le_of_ble_eq_true rfl) dX8_init_13

