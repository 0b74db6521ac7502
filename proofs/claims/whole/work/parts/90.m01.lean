/-! The reference, method by method: the machine does what f says (g). -/
set_option maxHeartbeats 4000000 in
set_option maxRecDepth 100000 in
theorem lX10_touches_33 {E : kw_E} {d : Nat} (v1 : Int32) (v2 : Int32) (v3 : Int32) (σ : kw_M) {v : Option Value} {σ2 : kw_M} {o : (Int32 × kw_M) ⊕ (Int32 × kw_M)} (h : bX10_touches_33 v1 v2 v3 σ = some o) (hk : Sum.elim (fun s => kw_G E kwTM 21 (d + 1) μX10_touches 33 [(0, .ref 0), (1, .int v1), (2, .int v2), (3, .int s.1)] [] s.2 v σ2) (fun y => kw_G E kwTM 21 (d + 1) μX10_touches 90 [(0, .ref 0), (1, .int v1), (2, .int v2), (3, .int y.1)] [] y.2 v σ2) o) : kw_G E kwTM 21 (d + 1) μX10_touches 33 [(0, .ref 0), (1, .int v1), (2, .int v2), (3, .int v3)] [] σ v σ2 := by
  unfold bX10_touches_33 at h
  refine kg_iload_n 3 dX10_touches_33 rfl (pc2 := 34) rfl ?_
  refine kg_if_le 90 dX10_touches_34 rfl (pc2 := 37) rfl (fun q5 => ?_) (fun q5 => ?_)
  · replace h := (if_pos q5).symm.trans h
    cases h
    exact hk
  · replace h := (if_neg q5).symm.trans h
    refine kg_aload_n 0 dX10_touches_37 rfl (pc2 := 38) rfl ?_
    refine kg_getr clX10 rfl 3 (Nat.le_of_ble_eq_true rfl) lfRX10_17 tM_0 eM_0 rfl dX10_touches_38 (pc2 := 41) rfl ?_
    refine kg_aload_n 0 dX10_touches_41 rfl (pc2 := 42) rfl ?_
    refine kg_getr clX10 rfl 0 (Nat.le_of_ble_eq_true rfl) lfRX10_7 tM_0 eM_0 rfl dX10_touches_42 (pc2 := 45) rfl ?_
    refine kg_bipush dX10_touches_45 kb_16 (pc2 := 47) rfl ?_
    refine kg_iload_n 3 dX10_touches_47 rfl (pc2 := 48) rfl ?_
    refine kg_iadd dX10_touches_48 (pc2 := 49) rfl ?_
    refine kg_iconst dX10_touches_49 ki_1 (pc2 := 50) rfl ?_
    refine kg_isub dX10_touches_50 (pc2 := 51) rfl ?_
    obtain ⟨q6, h⟩ := kw_chk_e h
    refine kg_iald tM_1 eM_1 q6 (j := (((16 : Int32) + v3) - (1 : Int32)).toNatClampNeg) rfl dX10_touches_51 (pc2 := 52) rfl ?_
    obtain ⟨q7, h⟩ := kw_chk_e h
    refine kg_lald tM_3 eM_3 q7 (j := (σ.1 1 (((16 : Int32) + v3) - (1 : Int32)).toNatClampNeg).toNatClampNeg) rfl dX10_touches_52 (pc2 := 53) rfl ?_
    refine kg_aload_n 0 dX10_touches_53 rfl (pc2 := 54) rfl ?_
    refine kg_getr clX10 rfl 3 (Nat.le_of_ble_eq_true rfl) lfRX10_17 tM_0 eM_0 rfl dX10_touches_54 (pc2 := 57) rfl ?_
    refine kg_iload_n 2 dX10_touches_57 rfl (pc2 := 58) rfl ?_
    obtain ⟨q8, h⟩ := kw_chk_e h
    refine kg_lald tM_3 eM_3 q8 (j := v2.toNatClampNeg) rfl dX10_touches_58 (pc2 := 59) rfl ?_
    refine kg_lcmp_le 90 dX10_touches_59 dX10_touches_60 rfl (pc2 := 63) rfl (fun q9 => ?_) (fun q9 => ?_)
    · replace h := (if_pos q9).symm.trans h
      cases h
      exact hk
    · replace h := (if_neg q9).symm.trans h
      refine kg_aload_n 0 dX10_touches_63 rfl (pc2 := 64) rfl ?_
      refine kg_getr clX10 rfl 0 (Nat.le_of_ble_eq_true rfl) lfRX10_7 tM_0 eM_0 rfl dX10_touches_64 (pc2 := 67) rfl ?_
      refine kg_bipush dX10_touches_67 kb_16 (pc2 := 69) rfl ?_
      refine kg_iload_n 3 dX10_touches_69 rfl (pc2 := 70) rfl ?_
      refine kg_iadd dX10_touches_70 (pc2 := 71) rfl ?_
      refine kg_aload_n 0 dX10_touches_71 rfl (pc2 := 72) rfl ?_
      refine kg_getr clX10 rfl 0 (Nat.le_of_ble_eq_true rfl) lfRX10_7 tM_0 eM_0 rfl dX10_touches_72 (pc2 := 75) rfl ?_
      refine kg_bipush dX10_touches_75 kb_16 (pc2 := 77) rfl ?_
      refine kg_iload_n 3 dX10_touches_77 rfl (pc2 := 78) rfl ?_
      refine kg_iadd dX10_touches_78 (pc2 := 79) rfl ?_
      refine kg_iconst dX10_touches_79 ki_1 (pc2 := 80) rfl ?_
      refine kg_isub dX10_touches_80 (pc2 := 81) rfl ?_
      refine kg_iald tM_1 eM_1 q6 (j := (((16 : Int32) + v3) - (1 : Int32)).toNatClampNeg) rfl dX10_touches_81 (pc2 := 82) rfl ?_
      obtain ⟨q10, h⟩ := kw_chk_e h
      obtain ⟨s11, s11e, h⟩ := kw_let_e h
      refine kg_iast tM_1 eM_1 q10 (j := ((16 : Int32) + v3).toNatClampNeg) rfl s11e dX10_touches_82 (pc2 := 83) rfl ?_
      refine kg_iload_n 3 dX10_touches_83 rfl (pc2 := 84) rfl ?_
      refine kg_iconst dX10_touches_84 ki_1 (pc2 := 85) rfl ?_
      refine kg_isub dX10_touches_85 (pc2 := 86) rfl ?_
      obtain ⟨x12, x12e, h⟩ := kw_let_e h
      refine kg_istore_n dX10_touches_86 rfl (Nat.le_of_ble_eq_true rfl) x12e (lv2 := [(3, .int x12), (0, .ref 0), (1, .int v1), (2, .int v2)]) rfl (pc2 := 87) rfl ?_
      refine kg_goto 33 dX10_touches_87 rfl ?_
      refine kg_sub [1, 2, 3, 0] (lv2 := [(0, .ref 0), (1, .int v1), (2, .int v2), (3, .int x12)]) rfl ?_
      cases h
      exact hk
set_option maxHeartbeats 4000000 in
set_option maxRecDepth 100000 in
theorem gjX10_touches_90_L4 {E : kw_E} {d : Nat} (v1 : Int32) (v2 : Int32) (v3 : Int32) (σ : kw_M) {v : Option Value} {σ2 : kw_M} {o : (Int32 × Int32 × kw_M) ⊕ (Int32 × kw_M)} (h : jX10_touches_90_L4 v1 v2 v3 σ = some o) (hk : Sum.elim (fun s => kw_G E kwTM 21 (d + 1) μX10_touches 4 [(0, .ref 0), (1, .int s.1), (2, .int s.2.1)] [] s.2.2 v σ2) (fun y => kw_G E kwTM 21 (d + 1) μX10_touches 110 [(0, .ref 0), (1, .int y.1)] [] y.2 v σ2) o) : kw_G E kwTM 21 (d + 1) μX10_touches 90 [(0, .ref 0), (1, .int v1), (2, .int v2), (3, .int v3)] [] σ v σ2 := by
  unfold jX10_touches_90_L4 at h
  refine kg_aload_n 0 dX10_touches_90 rfl (pc2 := 91) rfl ?_
  refine kg_getr clX10 rfl 0 (Nat.le_of_ble_eq_true rfl) lfRX10_7 tM_0 eM_0 rfl dX10_touches_91 (pc2 := 94) rfl ?_
  refine kg_bipush dX10_touches_94 kb_16 (pc2 := 96) rfl ?_
  refine kg_iload_n 3 dX10_touches_96 rfl (pc2 := 97) rfl ?_
  refine kg_iadd dX10_touches_97 (pc2 := 98) rfl ?_
  refine kg_iload_n 2 dX10_touches_98 rfl (pc2 := 99) rfl ?_
  obtain ⟨q14, h⟩ := kw_chk_e h
  obtain ⟨s15, s15e, h⟩ := kw_let_e h
  refine kg_iast tM_1 eM_1 q14 (j := ((16 : Int32) + v3).toNatClampNeg) rfl s15e dX10_touches_99 (pc2 := 100) rfl ?_
  refine kg_iload_n 1 dX10_touches_100 rfl (pc2 := 101) rfl ?_
  refine kg_iconst dX10_touches_101 ki_1 (pc2 := 102) rfl ?_
  refine kg_iadd dX10_touches_102 (pc2 := 103) rfl ?_
  obtain ⟨x16, x16e, h⟩ := kw_let_e h
  refine kg_istore_n dX10_touches_103 rfl (Nat.le_of_ble_eq_true rfl) x16e (lv2 := [(1, .int x16), (0, .ref 0), (2, .int v2), (3, .int v3)]) rfl (pc2 := 104) rfl ?_
  obtain ⟨x17, x17e, h⟩ := kw_let_e h
  refine kg_iinc 2 dX10_touches_104 rfl (Nat.le_of_ble_eq_true rfl) x17e (lv2 := [(2, .int x17), (1, .int x16), (0, .ref 0), (3, .int v3)]) rfl (pc2 := 107) rfl ?_
  refine kg_goto 4 dX10_touches_107 rfl ?_
  refine kg_sub [2, 1, 0] (lv2 := [(0, .ref 0), (1, .int x16), (2, .int x17)]) rfl ?_
  cases h
  exact hk
set_option maxHeartbeats 4000000 in
set_option maxRecDepth 100000 in
theorem lX10_touches_4 {E : kw_E} {d : Nat} (v1 : Int32) (v2 : Int32) (σ : kw_M) {v : Option Value} {σ2 : kw_M} {o : (Int32 × Int32 × kw_M) ⊕ (Int32 × kw_M)} (h : bX10_touches_4 v1 v2 σ = some o) (hk : Sum.elim (fun s => kw_G E kwTM 21 (d + 1) μX10_touches 4 [(0, .ref 0), (1, .int s.1), (2, .int s.2.1)] [] s.2.2 v σ2) (fun y => kw_G E kwTM 21 (d + 1) μX10_touches 110 [(0, .ref 0), (1, .int y.1)] [] y.2 v σ2) o) : kw_G E kwTM 21 (d + 1) μX10_touches 4 [(0, .ref 0), (1, .int v1), (2, .int v2)] [] σ v σ2 := by
  unfold bX10_touches_4 at h
  refine kg_iload_n 2 dX10_touches_4 rfl (pc2 := 5) rfl ?_
  refine kg_aload_n 0 dX10_touches_5 rfl (pc2 := 6) rfl ?_
  obtain ⟨r1, r1h, h⟩ := kw_bind_e h
  refine kg_callV (μ := μX10_touches) (d := d) rfl mVX10_towns [] [.int v2] (gX10_towns (E := E) (d := d) σ r1h) rfl lmRX10_77 (ci := 10) rfl tM_0 eM_0 rfl (Nat.le_of_ble_eq_true rfl) dX10_touches_6 rfl (st2 := [.int r1, .int v2]) rfl (pc2 := 9) rfl ?_
  refine kg_icmp_ge 110 dX10_touches_9 rfl (pc2 := 12) rfl (fun q2 => ?_) (fun q2 => ?_)
  · replace h := (if_pos q2).symm.trans h
    refine kg_sub [0, 1] (lv2 := [(0, .ref 0), (1, .int v1)]) rfl ?_
    cases h
    exact hk
  · replace h := (if_neg q2).symm.trans h
    refine kg_aload_n 0 dX10_touches_12 rfl (pc2 := 13) rfl ?_
    refine kg_getr clX10 rfl 3 (Nat.le_of_ble_eq_true rfl) lfRX10_17 tM_0 eM_0 rfl dX10_touches_13 (pc2 := 16) rfl ?_
    refine kg_iload_n 2 dX10_touches_16 rfl (pc2 := 17) rfl ?_
    obtain ⟨q3, h⟩ := kw_chk_e h
    refine kg_lald tM_3 eM_3 q3 (j := v2.toNatClampNeg) rfl dX10_touches_17 (pc2 := 18) rfl ?_
    refine kg_aload_n 0 dX10_touches_18 rfl (pc2 := 19) rfl ?_
    refine kg_getr clX10 rfl 4 (Nat.le_of_ble_eq_true rfl) lfRX10_20 tM_0 eM_0 rfl dX10_touches_19 (pc2 := 22) rfl ?_
    refine kg_iload_n 2 dX10_touches_22 rfl (pc2 := 23) rfl ?_
    refine kg_lald tM_4 eM_4 q3 (j := v2.toNatClampNeg) rfl dX10_touches_23 (pc2 := 24) rfl ?_
    refine kg_lcmp_ne 31 dX10_touches_24 dX10_touches_25 rfl (pc2 := 28) rfl (fun q4 => ?_) (fun q4 => ?_)
    · replace h := (if_neg q4).symm.trans h
      refine kg_iload_n 1 dX10_touches_31 rfl (pc2 := 32) rfl ?_
      refine kg_istore_n dX10_touches_32 rfl (Nat.le_of_ble_eq_true rfl) rfl (lv2 := [(3, .int v1), (0, .ref 0), (1, .int v1), (2, .int v2)]) rfl (pc2 := 33) rfl ?_
      refine kg_sub [1, 2, 3, 0] (lv2 := [(0, .ref 0), (1, .int v1), (2, .int v2), (3, .int v1)]) rfl ?_
      obtain ⟨x13, x13h, h⟩ := kw_bind_e h
      refine kw_loop_e (P := fun s => kw_G E kwTM 21 (d + 1) μX10_touches 33 [(0, .ref 0), (1, .int v1), (2, .int v2), (3, .int s.1)] [] s.2 v σ2) (K := fun y => kw_G E kwTM 21 (d + 1) μX10_touches 90 [(0, .ref 0), (1, .int v1), (2, .int v2), (3, .int y.1)] [] y.2 v σ2) (fun s o h0 hk => lX10_touches_33 v1 v2 s.1 s.2 h0 hk) kw_F _ _ x13h ?_
      show kw_G E kwTM 21 (d + 1) μX10_touches 90 [(0, .ref 0), (1, .int v1), (2, .int v2), (3, .int x13.1)] [] x13.2 v σ2
      exact gjX10_touches_90_L4 v1 v2 x13.1 x13.2 h hk
    · replace h := (if_pos q4).symm.trans h
      refine kg_goto 104 dX10_touches_28 rfl ?_
      obtain ⟨x18, x18e, h⟩ := kw_let_e h
      refine kg_iinc 2 dX10_touches_104 rfl (Nat.le_of_ble_eq_true rfl) x18e (lv2 := [(2, .int x18), (0, .ref 0), (1, .int v1)]) rfl (pc2 := 107) rfl ?_
      refine kg_goto 4 dX10_touches_107 rfl ?_
      refine kg_sub [1, 2, 0] (lv2 := [(0, .ref 0), (1, .int v1), (2, .int x18)]) rfl ?_
      cases h
      exact hk
set_option maxHeartbeats 4000000 in
set_option maxRecDepth 100000 in
theorem gX10_touches {E : kw_E} {d : Nat} (σ : kw_M) {r : Int32 × kw_M} (h : fX10_touches σ = some r) : kw_Met E kwTM 21 (d + 1) μX10_touches [.ref 0] σ (some (Value.int r.1)) r.2 := by
  refine kw_enter plRX10 (Nat.le_of_ble_eq_true rfl) ?_
  show kw_G E kwTM 21 (d + 1) μX10_touches 0 [(0, .ref 0)] [] σ (some (Value.int r.1)) r.2
  unfold fX10_touches at h
  refine kg_iconst dX10_touches_0 ki_0 (pc2 := 1) rfl ?_
  refine kg_istore_n dX10_touches_1 rfl (Nat.le_of_ble_eq_true rfl) rfl (lv2 := [(1, .int (0 : Int32)), (0, .ref 0)]) rfl (pc2 := 2) rfl ?_
  refine kg_iconst dX10_touches_2 ki_0 (pc2 := 3) rfl ?_
  refine kg_istore_n dX10_touches_3 rfl (Nat.le_of_ble_eq_true rfl) rfl (lv2 := [(2, .int (0 : Int32)), (1, .int (0 : Int32)), (0, .ref 0)]) rfl (pc2 := 4) rfl ?_
  refine kg_sub [2, 1, 0] (lv2 := [(0, .ref 0), (1, .int (0 : Int32)), (2, .int (0 : Int32))]) rfl ?_
  obtain ⟨x19, x19h, h⟩ := kw_bind_e h
  refine kw_loop_e (P := fun s => kw_G E kwTM 21 (d + 1) μX10_touches 4 [(0, .ref 0), (1, .int s.1), (2, .int s.2.1)] [] s.2.2 (some (Value.int r.1)) r.2) (K := fun y => kw_G E kwTM 21 (d + 1) μX10_touches 110 [(0, .ref 0), (1, .int y.1)] [] y.2 (some (Value.int r.1)) r.2) (fun s o h0 hk => lX10_touches_4 s.1 s.2.1 s.2.2 h0 hk) kw_F _ _ x19h ?_
  show kw_G E kwTM 21 (d + 1) μX10_touches 110 [(0, .ref 0), (1, .int x19.1)] [] x19.2 (some (Value.int r.1)) r.2
  refine kg_aload_n 0 dX10_touches_110 rfl (pc2 := 111) rfl ?_
  refine kg_getr clX10 rfl 0 (Nat.le_of_ble_eq_true rfl) lfRX10_7 tM_0 eM_0 rfl dX10_touches_111 (pc2 := 114) rfl ?_
  refine kg_bipush dX10_touches_114 kb_6 (pc2 := 116) rfl ?_
  refine kg_iload_n 1 dX10_touches_116 rfl (pc2 := 117) rfl ?_
  obtain ⟨s20, s20e, h⟩ := kw_let_e h
  refine kg_iast tM_1 eM_1 (show kw_in (6 : Int32) 2832 by decide) (j := 6) (by decide) s20e dX10_touches_117 (pc2 := 118) rfl ?_
  refine kg_iload_n 1 dX10_touches_118 rfl (pc2 := 119) rfl ?_
  cases h
  exact kg_iret (ty := .int) dX10_touches_119 rfl rfl
set_option maxHeartbeats 4000000 in
set_option maxRecDepth 100000 in
theorem lX10_begins_6 {E : kw_E} {d : Nat} (v1 : Int32) (σ : kw_M) {v : Option Value} {σ2 : kw_M} {o : (Int32 × kw_M) ⊕ (kw_M)} (h : bX10_begins_6 v1 σ = some o) (hk : Sum.elim (fun s => kw_G E kwTM 21 (d + 4) μX10_begins 6 [(0, .ref 0), (1, .int s.1)] [] s.2 v σ2) (fun y => kw_G E kwTM 21 (d + 4) μX10_begins 30 [(0, .ref 0)] [] y v σ2) o) : kw_G E kwTM 21 (d + 4) μX10_begins 6 [(0, .ref 0), (1, .int v1)] [] σ v σ2 := by
  unfold bX10_begins_6 at h
  refine kg_iload_n 1 dX10_begins_6 rfl (pc2 := 7) rfl ?_
  refine kg_bipush dX10_begins_7 kb_12 (pc2 := 9) rfl ?_
  refine kg_icmp_ge 30 dX10_begins_9 rfl (pc2 := 12) rfl (fun q2 => ?_) (fun q2 => ?_)
  · replace h := (if_pos q2).symm.trans h
    refine kg_sub [0] (lv2 := [(0, .ref 0)]) rfl ?_
    cases h
    exact hk
  · replace h := (if_neg q2).symm.trans h
    refine kg_aload_n 0 dX10_begins_12 rfl (pc2 := 13) rfl ?_
    refine kg_getr clX10 rfl 4 (Nat.le_of_ble_eq_true rfl) lfRX10_20 tM_0 eM_0 rfl dX10_begins_13 (pc2 := 16) rfl ?_
    refine kg_iload_n 1 dX10_begins_16 rfl (pc2 := 17) rfl ?_
    refine kg_aload_n 0 dX10_begins_17 rfl (pc2 := 18) rfl ?_
    refine kg_getr clX10 rfl 3 (Nat.le_of_ble_eq_true rfl) lfRX10_17 tM_0 eM_0 rfl dX10_begins_18 (pc2 := 21) rfl ?_
    refine kg_iload_n 1 dX10_begins_21 rfl (pc2 := 22) rfl ?_
    obtain ⟨q3, h⟩ := kw_chk_e h
    refine kg_lald tM_3 eM_3 q3 (j := v1.toNatClampNeg) rfl dX10_begins_22 (pc2 := 23) rfl ?_
    obtain ⟨s4, s4e, h⟩ := kw_let_e h
    refine kg_last tM_4 eM_4 q3 (j := v1.toNatClampNeg) rfl s4e dX10_begins_23 (pc2 := 24) rfl ?_
    obtain ⟨x5, x5e, h⟩ := kw_let_e h
    refine kg_iinc 1 dX10_begins_24 rfl (Nat.le_of_ble_eq_true rfl) x5e (lv2 := [(1, .int x5), (0, .ref 0)]) rfl (pc2 := 27) rfl ?_
    refine kg_goto 6 dX10_begins_27 rfl ?_
    refine kg_sub [1, 0] (lv2 := [(0, .ref 0), (1, .int x5)]) rfl ?_
    cases h
    exact hk
set_option maxHeartbeats 4000000 in
set_option maxRecDepth 100000 in
theorem gX10_begins {E : kw_E} {d : Nat} (σ : kw_M) {r : kw_M} (h : fX10_begins σ = some r) : kw_Met E kwTM 21 (d + 4) μX10_begins [.ref 0] σ none r := by
  refine kw_enter plRX10 (Nat.le_of_ble_eq_true rfl) ?_
  show kw_G E kwTM 21 (d + 4) μX10_begins 0 [(0, .ref 0)] [] σ none r
  unfold fX10_begins at h
  refine kg_aload_n 0 dX10_begins_0 rfl (pc2 := 1) rfl ?_
  obtain ⟨r1, r1h, h⟩ := kw_bind_e h
  refine kg_callV (μ := μX10_begins) (d := (d + 3)) rfl mVX10_settles [] [] (gX10_settles (E := E) (d := d) σ r1h) rfl lmRX10_104 (ci := 10) rfl tM_0 eM_0 rfl (Nat.le_of_ble_eq_true rfl) dX10_begins_1 rfl (st2 := []) rfl (pc2 := 4) rfl ?_
  refine kg_iconst dX10_begins_4 ki_0 (pc2 := 5) rfl ?_
  refine kg_istore_n dX10_begins_5 rfl (Nat.le_of_ble_eq_true rfl) rfl (lv2 := [(1, .int (0 : Int32)), (0, .ref 0)]) rfl (pc2 := 6) rfl ?_
  refine kg_sub [1, 0] (lv2 := [(0, .ref 0), (1, .int (0 : Int32))]) rfl ?_
  obtain ⟨x6, x6h, h⟩ := kw_bind_e h
  refine kw_loop_e (P := fun s => kw_G E kwTM 21 (d + 4) μX10_begins 6 [(0, .ref 0), (1, .int s.1)] [] s.2 none r) (K := fun y => kw_G E kwTM 21 (d + 4) μX10_begins 30 [(0, .ref 0)] [] y none r) (fun s o h0 hk => lX10_begins_6 s.1 s.2 h0 hk) kw_F _ _ x6h ?_
  show kw_G E kwTM 21 (d + 4) μX10_begins 30 [(0, .ref 0)] [] x6 none r
  refine kg_aload_n 0 dX10_begins_30 rfl (pc2 := 31) rfl ?_
  refine kg_iconst dX10_begins_31 ki_0 (pc2 := 32) rfl ?_
  refine kg_iconst dX10_begins_32 ki_2 (pc2 := 33) rfl ?_
  obtain ⟨r7, r7h, h⟩ := kw_bind_e h
  refine kg_callV (μ := μX10_begins) (d := (d + 3)) rfl mVX10_copies [.int (0 : Int32), .int (2 : Int32)] [] (gX10_copies (E := E) (d := (d + 3)) (0 : Int32) (2 : Int32) x6 r7h) rfl lmRX10_107 (ci := 10) rfl tM_0 eM_0 rfl (Nat.le_of_ble_eq_true rfl) dX10_begins_33 rfl (st2 := []) rfl (pc2 := 36) rfl ?_
  cases h
  exact kg_vret dX10_begins_36 rfl
set_option maxHeartbeats 4000000 in
set_option maxRecDepth 100000 in
theorem gjX10_ends_109_L57 {E : kw_E} {d : Nat} (v3 : Int32) (t0 : Int32) (t1 : Int32) (σ : kw_M) {v : Option Value} {σ2 : kw_M} {o : (Int32 × kw_M) ⊕ (kw_M)} (h : jX10_ends_109_L57 v3 t0 t1 σ = some o) (hk : Sum.elim (fun s => kw_G E kwTM 21 (d + 4) μX10_ends 57 [(0, .ref 0), (3, .int s.1)] [] s.2 v σ2) (fun y => kw_G E kwTM 21 (d + 4) μX10_ends 123 [(0, .ref 0)] [] y v σ2) o) : kw_G E kwTM 21 (d + 4) μX10_ends 109 [(0, .ref 0), (3, .int v3)] [.int t0, .int t1] σ v σ2 := by
  unfold jX10_ends_109_L57 at h
  refine kg_icmp_eq 117 dX10_ends_109 rfl (pc2 := 112) rfl (fun q13 => ?_) (fun q13 => ?_)
  · replace h := (if_pos q13).symm.trans h
    obtain ⟨x14, x14e, h⟩ := kw_let_e h
    refine kg_iinc 1 dX10_ends_117 rfl (Nat.le_of_ble_eq_true rfl) x14e (lv2 := [(3, .int x14), (0, .ref 0)]) rfl (pc2 := 120) rfl ?_
    refine kg_goto 57 dX10_ends_120 rfl ?_
    refine kg_sub [1, 0] (lv2 := [(0, .ref 0), (3, .int x14)]) rfl ?_
    cases h
    exact hk
  · replace h := (if_neg q13).symm.trans h
    refine kg_aload_n 0 dX10_ends_112 rfl (pc2 := 113) rfl ?_
    refine kg_iload_n 1 dX10_ends_113 rfl (pc2 := 114) rfl ?_
    obtain ⟨r15, r15h, h⟩ := kw_bind_e h
    refine kg_callV (μ := μX10_ends) (d := (d + 3)) rfl mVX10_notesEvent [.int v3] [] (gX10_notesEvent (E := E) (d := (d + 2)) v3 σ r15h) rfl lmRX10_114 (ci := 10) rfl tM_0 eM_0 rfl (Nat.le_of_ble_eq_true rfl) dX10_ends_114 rfl (st2 := []) rfl (pc2 := 117) rfl ?_
    obtain ⟨x16, x16e, h⟩ := kw_let_e h
    refine kg_iinc 1 dX10_ends_117 rfl (Nat.le_of_ble_eq_true rfl) x16e (lv2 := [(3, .int x16), (0, .ref 0)]) rfl (pc2 := 120) rfl ?_
    refine kg_goto 57 dX10_ends_120 rfl ?_
    refine kg_sub [1, 0] (lv2 := [(0, .ref 0), (3, .int x16)]) rfl ?_
    cases h
    exact hk
set_option maxHeartbeats 4000000 in
set_option maxRecDepth 100000 in
theorem lX10_ends_57 {E : kw_E} {d : Nat} (v3 : Int32) (σ : kw_M) {v : Option Value} {σ2 : kw_M} {o : (Int32 × kw_M) ⊕ (kw_M)} (h : bX10_ends_57 v3 σ = some o) (hk : Sum.elim (fun s => kw_G E kwTM 21 (d + 4) μX10_ends 57 [(0, .ref 0), (3, .int s.1)] [] s.2 v σ2) (fun y => kw_G E kwTM 21 (d + 4) μX10_ends 123 [(0, .ref 0)] [] y v σ2) o) : kw_G E kwTM 21 (d + 4) μX10_ends 57 [(0, .ref 0), (3, .int v3)] [] σ v σ2 := by
  unfold bX10_ends_57 at h
  refine kg_iload_n 1 dX10_ends_57 rfl (pc2 := 58) rfl ?_
  refine kg_aload_n 0 dX10_ends_58 rfl (pc2 := 59) rfl ?_
  obtain ⟨r5, r5h, h⟩ := kw_bind_e h
  refine kg_callV (μ := μX10_ends) (d := (d + 3)) rfl mVX10_towns [] [.int v3] (gX10_towns (E := E) (d := (d + 3)) σ r5h) rfl lmRX10_77 (ci := 10) rfl tM_0 eM_0 rfl (Nat.le_of_ble_eq_true rfl) dX10_ends_59 rfl (st2 := [.int r5, .int v3]) rfl (pc2 := 62) rfl ?_
  refine kg_icmp_ge 123 dX10_ends_62 rfl (pc2 := 65) rfl (fun q6 => ?_) (fun q6 => ?_)
  · replace h := (if_pos q6).symm.trans h
    refine kg_sub [0] (lv2 := [(0, .ref 0)]) rfl ?_
    cases h
    exact hk
  · replace h := (if_neg q6).symm.trans h
    refine kg_aload_n 0 dX10_ends_65 rfl (pc2 := 66) rfl ?_
    refine kg_getr clX10 rfl 0 (Nat.le_of_ble_eq_true rfl) lfRX10_7 tM_0 eM_0 rfl dX10_ends_66 (pc2 := 69) rfl ?_
    refine kg_sipush dX10_ends_69 ks_172 (pc2 := 72) rfl ?_
    refine kg_iconst dX10_ends_72 ki_3 (pc2 := 73) rfl ?_
    refine kg_iload_n 1 dX10_ends_73 rfl (pc2 := 74) rfl ?_
    refine kg_imul dX10_ends_74 (pc2 := 75) rfl ?_
    refine kg_iadd dX10_ends_75 (pc2 := 76) rfl ?_
    obtain ⟨q7, h⟩ := kw_chk_e h
    refine kg_iald tM_1 eM_1 q7 (j := ((172 : Int32) + ((3 : Int32) * v3)).toNatClampNeg) rfl dX10_ends_76 (pc2 := 77) rfl ?_
    refine kg_iconst dX10_ends_77 ki_1 (pc2 := 78) rfl ?_
    refine kg_icmp_ne 117 dX10_ends_78 rfl (pc2 := 81) rfl (fun q8 => ?_) (fun q8 => ?_)
    · replace h := (if_neg q8).symm.trans h
      obtain ⟨x9, x9e, h⟩ := kw_let_e h
      refine kg_iinc 1 dX10_ends_117 rfl (Nat.le_of_ble_eq_true rfl) x9e (lv2 := [(3, .int x9), (0, .ref 0)]) rfl (pc2 := 120) rfl ?_
      refine kg_goto 57 dX10_ends_120 rfl ?_
      refine kg_sub [1, 0] (lv2 := [(0, .ref 0), (3, .int x9)]) rfl ?_
      cases h
      exact hk
    · replace h := (if_pos q8).symm.trans h
      refine kg_aload_n 0 dX10_ends_81 rfl (pc2 := 82) rfl ?_
      refine kg_iload_n 1 dX10_ends_82 rfl (pc2 := 83) rfl ?_
      obtain ⟨r10, r10h, h⟩ := kw_bind_e h
      refine kg_callV (μ := μX10_ends) (d := (d + 3)) rfl mVX10_isBeyond [.int v3] [] (gX10_isBeyond (E := E) (d := (d + 3)) v3 σ r10h) rfl lmRX10_101 (ci := 10) rfl tM_0 eM_0 rfl (Nat.le_of_ble_eq_true rfl) dX10_ends_83 rfl (st2 := [.int r10]) rfl (pc2 := 86) rfl ?_
      refine kg_aload_n 0 dX10_ends_86 rfl (pc2 := 87) rfl ?_
      refine kg_getr clX10 rfl 0 (Nat.le_of_ble_eq_true rfl) lfRX10_7 tM_0 eM_0 rfl dX10_ends_87 (pc2 := 90) rfl ?_
      refine kg_sipush dX10_ends_90 ks_172 (pc2 := 93) rfl ?_
      refine kg_iconst dX10_ends_93 ki_3 (pc2 := 94) rfl ?_
      refine kg_iload_n 1 dX10_ends_94 rfl (pc2 := 95) rfl ?_
      refine kg_imul dX10_ends_95 (pc2 := 96) rfl ?_
      refine kg_iadd dX10_ends_96 (pc2 := 97) rfl ?_
      refine kg_iconst dX10_ends_97 ki_2 (pc2 := 98) rfl ?_
      refine kg_iadd dX10_ends_98 (pc2 := 99) rfl ?_
      obtain ⟨q11, h⟩ := kw_chk_e h
      refine kg_iald tM_1 eM_1 q11 (j := (((172 : Int32) + ((3 : Int32) * v3)) + (2 : Int32)).toNatClampNeg) rfl dX10_ends_99 (pc2 := 100) rfl ?_
      refine kg_iconst dX10_ends_100 ki_1 (pc2 := 101) rfl ?_
      refine kg_icmp_ne 108 dX10_ends_101 rfl (pc2 := 104) rfl (fun q12 => ?_) (fun q12 => ?_)
      · replace h := (if_neg q12).symm.trans h
        refine kg_iconst dX10_ends_108 ki_0 (pc2 := 109) rfl ?_
        exact gjX10_ends_109_L57 v3 (0 : Int32) r10 σ h hk
      · replace h := (if_pos q12).symm.trans h
        refine kg_iconst dX10_ends_104 ki_1 (pc2 := 105) rfl ?_
        refine kg_goto 109 dX10_ends_105 rfl ?_
        exact gjX10_ends_109_L57 v3 (1 : Int32) r10 σ h hk
set_option maxHeartbeats 4000000 in
set_option maxRecDepth 100000 in
theorem gjX10_ends_29 {E : kw_E} {d : Nat} (v2 : Int32) (σ : kw_M) {r : Int32 × kw_M} (h : jX10_ends_29 v2 σ = some r) : kw_G E kwTM 21 (d + 4) μX10_ends 29 [(0, .ref 0), (2, .int v2)] [] σ (some (Value.int r.1)) r.2 := by
  unfold jX10_ends_29 at h
  refine kg_iload_n 1 dX10_ends_29 rfl (pc2 := 30) rfl ?_
  refine kg_if_ge 41 dX10_ends_30 rfl (pc2 := 33) rfl (fun q3 => ?_) (fun q3 => ?_)
  · replace h := (if_pos q3).symm.trans h
    refine kg_aload_n 0 dX10_ends_41 rfl (pc2 := 42) rfl ?_
    refine kg_getr clX10 rfl 0 (Nat.le_of_ble_eq_true rfl) lfRX10_7 tM_0 eM_0 rfl dX10_ends_42 (pc2 := 45) rfl ?_
    refine kg_iconst dX10_ends_45 ki_3 (pc2 := 46) rfl ?_
    refine kg_aload_n 0 dX10_ends_46 rfl (pc2 := 47) rfl ?_
    refine kg_getr clX10 rfl 0 (Nat.le_of_ble_eq_true rfl) lfRX10_7 tM_0 eM_0 rfl dX10_ends_47 (pc2 := 50) rfl ?_
    refine kg_iconst dX10_ends_50 ki_3 (pc2 := 51) rfl ?_
    refine kg_iald tM_1 eM_1 (show kw_in (3 : Int32) 2832 by decide) (j := 3) (by decide) dX10_ends_51 (pc2 := 52) rfl ?_
    refine kg_iconst dX10_ends_52 ki_1 (pc2 := 53) rfl ?_
    refine kg_iadd dX10_ends_53 (pc2 := 54) rfl ?_
    obtain ⟨s4, s4e, h⟩ := kw_let_e h
    refine kg_iast tM_1 eM_1 (show kw_in (3 : Int32) 2832 by decide) (j := 3) (by decide) s4e dX10_ends_54 (pc2 := 55) rfl ?_
    refine kg_iconst dX10_ends_55 ki_0 (pc2 := 56) rfl ?_
    refine kg_istore_n dX10_ends_56 rfl (Nat.le_of_ble_eq_true rfl) rfl (lv2 := [(3, .int (0 : Int32)), (0, .ref 0), (2, .int v2)]) rfl (pc2 := 57) rfl ?_
    refine kg_sub [1, 0] (lv2 := [(0, .ref 0), (3, .int (0 : Int32))]) rfl ?_
    obtain ⟨x17, x17h, h⟩ := kw_bind_e h
    refine kw_loop_e (P := fun s => kw_G E kwTM 21 (d + 4) μX10_ends 57 [(0, .ref 0), (3, .int s.1)] [] s.2 (some (Value.int r.1)) r.2) (K := fun y => kw_G E kwTM 21 (d + 4) μX10_ends 123 [(0, .ref 0)] [] y (some (Value.int r.1)) r.2) (fun s o h0 hk => lX10_ends_57 s.1 s.2 h0 hk) kw_F _ _ x17h ?_
    show kw_G E kwTM 21 (d + 4) μX10_ends 123 [(0, .ref 0)] [] x17 (some (Value.int r.1)) r.2
    refine kg_aload_n 0 dX10_ends_123 rfl (pc2 := 124) rfl ?_
    obtain ⟨r18, r18h, h⟩ := kw_bind_e h
    refine kg_callV (μ := μX10_ends) (d := (d + 3)) rfl mVX10_touches [] [] (gX10_touches (E := E) (d := (d + 2)) x17 r18h) rfl lmRX10_118 (ci := 10) rfl tM_0 eM_0 rfl (Nat.le_of_ble_eq_true rfl) dX10_ends_124 rfl (st2 := [.int r18.1]) rfl (pc2 := 127) rfl ?_
    cases h
    exact kg_iret (ty := .int) dX10_ends_127 rfl rfl
  · replace h := (if_neg q3).symm.trans h
    refine kg_aload_n 0 dX10_ends_33 rfl (pc2 := 34) rfl ?_
    refine kg_iconst dX10_ends_34 ki_2 (pc2 := 35) rfl ?_
    refine kg_iconst dX10_ends_35 ki_0 (pc2 := 36) rfl ?_
    obtain ⟨r19, r19h, h⟩ := kw_bind_e h
    refine kg_callV (μ := μX10_ends) (d := (d + 3)) rfl mVX10_copies [.int (2 : Int32), .int (0 : Int32)] [] (gX10_copies (E := E) (d := (d + 3)) (2 : Int32) (0 : Int32) σ r19h) rfl lmRX10_107 (ci := 10) rfl tM_0 eM_0 rfl (Nat.le_of_ble_eq_true rfl) dX10_ends_36 rfl (st2 := []) rfl (pc2 := 39) rfl ?_
    refine kg_iload_n 1 dX10_ends_39 rfl (pc2 := 40) rfl ?_
    cases h
    exact kg_iret (ty := .int) dX10_ends_40 rfl rfl
set_option maxHeartbeats 4000000 in
set_option maxRecDepth 100000 in
theorem gjX10_ends_10 {E : kw_E} {d : Nat} (t0 : Int32) (σ : kw_M) {r : Int32 × kw_M} (h : jX10_ends_10 t0 σ = some r) : kw_G E kwTM 21 (d + 4) μX10_ends 10 [(0, .ref 0)] [.int t0] σ (some (Value.int r.1)) r.2 := by
  unfold jX10_ends_10 at h
  refine kg_istore_n dX10_ends_10 rfl (Nat.le_of_ble_eq_true rfl) rfl (lv2 := [(2, .int t0), (0, .ref 0)]) rfl (pc2 := 11) rfl ?_
  refine kg_iload_n 0 dX10_ends_11 rfl (pc2 := 12) rfl ?_
  refine kg_if_ne 29 dX10_ends_12 rfl (pc2 := 15) rfl (fun q2 => ?_) (fun q2 => ?_)
  · replace h := (if_neg q2).symm.trans h
    refine kg_sub [1, 0] (lv2 := [(0, .ref 0), (2, .int t0)]) rfl ?_
    exact gjX10_ends_29 t0 σ h
  · replace h := (if_pos q2).symm.trans h
    refine kg_aload_n 1 dX10_ends_15 rfl (pc2 := 16) rfl ?_
    obtain ⟨r20, r20h, h⟩ := kw_bind_e h
    refine kg_callV (μ := μX10_ends) (d := (d + 3)) rfl mVX10_settles [] [] (gX10_settles (E := E) (d := d) σ r20h) rfl lmRX10_104 (ci := 10) rfl tM_0 eM_0 rfl (Nat.le_of_ble_eq_true rfl) dX10_ends_16 rfl (st2 := []) rfl (pc2 := 19) rfl ?_
    refine kg_aload_n 1 dX10_ends_19 rfl (pc2 := 20) rfl ?_
    obtain ⟨r21, r21h, h⟩ := kw_bind_e h
    refine kg_callV (μ := μX10_ends) (d := (d + 3)) rfl mVX10_isTooFar [] [] (gX10_isTooFar (E := E) (d := (d + 2)) r20 r21h) rfl lmRX10_110 (ci := 10) rfl tM_0 eM_0 rfl (Nat.le_of_ble_eq_true rfl) dX10_ends_20 rfl (st2 := [.int r21]) rfl (pc2 := 23) rfl ?_
    refine kg_if_eq 29 dX10_ends_23 rfl (pc2 := 26) rfl (fun q22 => ?_) (fun q22 => ?_)
    · replace h := (if_pos q22).symm.trans h
      refine kg_sub [1, 0] (lv2 := [(0, .ref 0), (2, .int t0)]) rfl ?_
      exact gjX10_ends_29 t0 r20 h
    · replace h := (if_neg q22).symm.trans h
      refine kg_bipush dX10_ends_26 kb_m4 (pc2 := 28) rfl ?_
      refine kg_istore_n dX10_ends_28 rfl (Nat.le_of_ble_eq_true rfl) rfl (lv2 := [(2, .int (-4 : Int32)), (0, .ref 0)]) rfl (pc2 := 29) rfl ?_
      refine kg_sub [1, 0] (lv2 := [(0, .ref 0), (2, .int (-4 : Int32))]) rfl ?_
      exact gjX10_ends_29 (-4 : Int32) r20 h
set_option maxHeartbeats 4000000 in
set_option maxRecDepth 100000 in
theorem gX10_ends {E : kw_E} {d : Nat} (a1 : Int32) (σ : kw_M) {r : Int32 × kw_M} (h : fX10_ends a1 σ = some r) : kw_Met E kwTM 21 (d + 4) μX10_ends [.ref 0, .int a1] σ (some (Value.int r.1)) r.2 := by
  refine kw_enter plRX10 (Nat.le_of_ble_eq_true rfl) ?_
  show kw_G E kwTM 21 (d + 4) μX10_ends 0 [(0, .ref 0), (1, .int a1)] [] σ (some (Value.int r.1)) r.2
  unfold fX10_ends at h
  refine kg_iload_n 1 dX10_ends_0 rfl (pc2 := 1) rfl ?_
  refine kg_if_eq 9 dX10_ends_1 rfl (pc2 := 4) rfl (fun q1 => ?_) (fun q1 => ?_)
  · replace h := (if_pos q1).symm.trans h
    refine kg_iconst dX10_ends_9 ki_0 (pc2 := 10) rfl ?_
    refine kg_sub [0] (lv2 := [(0, .ref 0)]) rfl ?_
    exact gjX10_ends_10 (0 : Int32) σ h
  · replace h := (if_neg q1).symm.trans h
    refine kg_bipush dX10_ends_4 kb_m3 (pc2 := 6) rfl ?_
    refine kg_goto 10 dX10_ends_6 rfl ?_
    refine kg_sub [0] (lv2 := [(0, .ref 0)]) rfl ?_
    exact gjX10_ends_10 (-3 : Int32) σ h
set_option maxHeartbeats 4000000 in
set_option maxRecDepth 100000 in
theorem gX10_comes {E : kw_E} {d : Nat} (a1 : Int32) (a2 : Int32) (a3 : Int32) (σ : kw_M) {r : Int32 × kw_M} (h : fX10_comes a1 a2 a3 σ = some r) : kw_Met E kwTM 21 (d + 1) μX10_comes [.ref 0, .int a1, .int a2, .int a3] σ (some (Value.int r.1)) r.2 := by
  refine kw_enter plRX10 (Nat.le_of_ble_eq_true rfl) ?_
  show kw_G E kwTM 21 (d + 1) μX10_comes 0 [(0, .ref 0), (1, .int a1), (2, .int a2), (3, .int a3)] [] σ (some (Value.int r.1)) r.2
  unfold fX10_comes at h
  refine kg_aload_n 0 dX10_comes_0 rfl (pc2 := 1) rfl ?_
  refine kg_getr clX10 rfl 0 (Nat.le_of_ble_eq_true rfl) lfRX10_7 tM_0 eM_0 rfl dX10_comes_1 (pc2 := 4) rfl ?_
  refine kg_iconst dX10_comes_4 ki_1 (pc2 := 5) rfl ?_
  refine kg_iald tM_1 eM_1 (show kw_in (1 : Int32) 2832 by decide) (j := 1) (by decide) dX10_comes_5 (pc2 := 6) rfl ?_
  obtain ⟨x1, x1e, h⟩ := kw_let_e h
  refine kg_istore dX10_comes_6 (Nat.le_of_ble_eq_true rfl) x1e (lv2 := [(4, .int x1), (0, .ref 0), (1, .int a1), (2, .int a2), (3, .int a3)]) rfl (pc2 := 8) rfl ?_
  refine kg_aload_n 1 dX10_comes_8 rfl (pc2 := 9) rfl ?_
  refine kg_getr clX10 rfl 0 (Nat.le_of_ble_eq_true rfl) lfRX10_7 tM_0 eM_0 rfl dX10_comes_9 (pc2 := 12) rfl ?_
  refine kg_iconst dX10_comes_12 ki_1 (pc2 := 13) rfl ?_
  refine kg_iload 0 dX10_comes_13 rfl (pc2 := 15) rfl ?_
  refine kg_iconst dX10_comes_15 ki_1 (pc2 := 16) rfl ?_
  refine kg_iadd dX10_comes_16 (pc2 := 17) rfl ?_
  obtain ⟨s2, s2e, h⟩ := kw_let_e h
  refine kg_iast tM_1 eM_1 (show kw_in (1 : Int32) 2832 by decide) (j := 1) (by decide) s2e dX10_comes_17 (pc2 := 18) rfl ?_
  refine kg_aload_n 1 dX10_comes_18 rfl (pc2 := 19) rfl ?_
  refine kg_iload 0 dX10_comes_19 rfl (pc2 := 21) rfl ?_
  refine kg_iconst dX10_comes_21 ki_0 (pc2 := 22) rfl ?_
  refine kg_iload_n 2 dX10_comes_22 rfl (pc2 := 23) rfl ?_
  obtain ⟨r3, r3h, h⟩ := kw_bind_e h
  refine kg_callV (μ := μX10_comes) (d := d) rfl mVX10_sets [.int x1, .int (0 : Int32), .int a1] [] (gX10_sets (E := E) (d := d) x1 (0 : Int32) a1 s2 r3h) rfl lmRX10_142 (ci := 10) rfl tM_0 eM_0 rfl (Nat.le_of_ble_eq_true rfl) dX10_comes_23 rfl (st2 := []) rfl (pc2 := 26) rfl ?_
  refine kg_aload_n 1 dX10_comes_26 rfl (pc2 := 27) rfl ?_
  refine kg_iload 0 dX10_comes_27 rfl (pc2 := 29) rfl ?_
  refine kg_iconst dX10_comes_29 ki_1 (pc2 := 30) rfl ?_
  refine kg_iload_n 3 dX10_comes_30 rfl (pc2 := 31) rfl ?_
  obtain ⟨r4, r4h, h⟩ := kw_bind_e h
  refine kg_callV (μ := μX10_comes) (d := d) rfl mVX10_sets [.int x1, .int (1 : Int32), .int a2] [] (gX10_sets (E := E) (d := d) x1 (1 : Int32) a2 r3 r4h) rfl lmRX10_142 (ci := 10) rfl tM_0 eM_0 rfl (Nat.le_of_ble_eq_true rfl) dX10_comes_31 rfl (st2 := []) rfl (pc2 := 34) rfl ?_
  refine kg_aload_n 1 dX10_comes_34 rfl (pc2 := 35) rfl ?_
  refine kg_iload 0 dX10_comes_35 rfl (pc2 := 37) rfl ?_
  refine kg_iconst dX10_comes_37 ki_2 (pc2 := 38) rfl ?_
  refine kg_iload_n 4 dX10_comes_38 rfl (pc2 := 39) rfl ?_
  obtain ⟨r5, r5h, h⟩ := kw_bind_e h
  refine kg_callV (μ := μX10_comes) (d := d) rfl mVX10_sets [.int x1, .int (2 : Int32), .int a3] [] (gX10_sets (E := E) (d := d) x1 (2 : Int32) a3 r4 r5h) rfl lmRX10_142 (ci := 10) rfl tM_0 eM_0 rfl (Nat.le_of_ble_eq_true rfl) dX10_comes_39 rfl (st2 := []) rfl (pc2 := 42) rfl ?_
  refine kg_aload_n 1 dX10_comes_42 rfl (pc2 := 43) rfl ?_
  refine kg_iload 0 dX10_comes_43 rfl (pc2 := 45) rfl ?_
  refine kg_iconst dX10_comes_45 ki_3 (pc2 := 46) rfl ?_
  refine kg_iconst dX10_comes_46 ki_1 (pc2 := 47) rfl ?_
  obtain ⟨r6, r6h, h⟩ := kw_bind_e h
  refine kg_callV (μ := μX10_comes) (d := d) rfl mVX10_sets [.int x1, .int (3 : Int32), .int (1 : Int32)] [] (gX10_sets (E := E) (d := d) x1 (3 : Int32) (1 : Int32) r5 r6h) rfl lmRX10_142 (ci := 10) rfl tM_0 eM_0 rfl (Nat.le_of_ble_eq_true rfl) dX10_comes_47 rfl (st2 := []) rfl (pc2 := 50) rfl ?_
  refine kg_iload 0 dX10_comes_50 rfl (pc2 := 52) rfl ?_
  cases h
  exact kg_iret (ty := .int) dX10_comes_52 rfl rfl
set_option maxHeartbeats 4000000 in
set_option maxRecDepth 100000 in
theorem gX10_lay {E : kw_E} {d : Nat} (a1 : Int32) (a2 : Int32) (a3 : Int32) (σ : kw_M) {r : Int32 × kw_M} (h : fX10_lay a1 a2 a3 σ = some r) : kw_Met E kwTM 21 (d + 5) μX10_lay [.ref 0, .int a1, .int a2, .int a3] σ (some (Value.int r.1)) r.2 := by
  refine kw_enter plRX10 (Nat.le_of_ble_eq_true rfl) ?_
  show kw_G E kwTM 21 (d + 5) μX10_lay 0 [(0, .ref 0), (1, .int a1), (2, .int a2), (3, .int a3)] [] σ (some (Value.int r.1)) r.2
  unfold fX10_lay at h
  refine kg_aload_n 0 dX10_lay_0 rfl (pc2 := 1) rfl ?_
  refine kg_iload_n 1 dX10_lay_1 rfl (pc2 := 2) rfl ?_
  obtain ⟨r1, r1h, h⟩ := kw_bind_e h
  refine kg_callV (μ := μX10_lay) (d := (d + 4)) rfl mVX10_isTown [.int a1] [] (gX10_isTown (E := E) (d := (d + 3)) a1 σ r1h) rfl lmRX10_121 (ci := 10) rfl tM_0 eM_0 rfl (Nat.le_of_ble_eq_true rfl) dX10_lay_2 rfl (st2 := [.int r1]) rfl (pc2 := 5) rfl ?_
  refine kg_if_eq 29 dX10_lay_5 rfl (pc2 := 8) rfl (fun q2 => ?_) (fun q2 => ?_)
  · replace h := (if_pos q2).symm.trans h
    refine kg_iconst dX10_lay_29 ki_m1 (pc2 := 30) rfl ?_
    cases h
    exact kg_iret (ty := .int) dX10_lay_30 rfl rfl
  · replace h := (if_neg q2).symm.trans h
    refine kg_aload_n 0 dX10_lay_8 rfl (pc2 := 9) rfl ?_
    refine kg_iload_n 2 dX10_lay_9 rfl (pc2 := 10) rfl ?_
    obtain ⟨r3, r3h, h⟩ := kw_bind_e h
    refine kg_callV (μ := μX10_lay) (d := (d + 4)) rfl mVX10_isTown [.int a2] [] (gX10_isTown (E := E) (d := (d + 3)) a2 σ r3h) rfl lmRX10_121 (ci := 10) rfl tM_0 eM_0 rfl (Nat.le_of_ble_eq_true rfl) dX10_lay_10 rfl (st2 := [.int r3]) rfl (pc2 := 13) rfl ?_
    refine kg_if_eq 29 dX10_lay_13 rfl (pc2 := 16) rfl (fun q4 => ?_) (fun q4 => ?_)
    · replace h := (if_pos q4).symm.trans h
      refine kg_iconst dX10_lay_29 ki_m1 (pc2 := 30) rfl ?_
      cases h
      exact kg_iret (ty := .int) dX10_lay_30 rfl rfl
    · replace h := (if_neg q4).symm.trans h
      refine kg_iload_n 1 dX10_lay_16 rfl (pc2 := 17) rfl ?_
      refine kg_iload_n 2 dX10_lay_17 rfl (pc2 := 18) rfl ?_
      refine kg_icmp_eq 29 dX10_lay_18 rfl (pc2 := 21) rfl (fun q5 => ?_) (fun q5 => ?_)
      · replace h := (if_pos q5).symm.trans h
        refine kg_iconst dX10_lay_29 ki_m1 (pc2 := 30) rfl ?_
        cases h
        exact kg_iret (ty := .int) dX10_lay_30 rfl rfl
      · replace h := (if_neg q5).symm.trans h
        refine kg_iload_n 3 dX10_lay_21 rfl (pc2 := 22) rfl ?_
        refine kg_i2l dX10_lay_22 (pc2 := 23) rfl ?_
        obtain ⟨r6, r6h, h⟩ := kw_bind_e h
        refine kg_callS (μ := μX10_lay) (d := (d + 4)) rfl mSX10_isLength [.long a3.toInt64] [] (gX10_isLength (E := E) (d := (d + 3)) a3.toInt64 σ r6h) rfl lmRX10_124 rfl (Nat.le_of_ble_eq_true rfl) dX10_lay_23 rfl (st2 := [.int r6]) rfl (pc2 := 26) rfl ?_
        refine kg_if_ne 31 dX10_lay_26 rfl (pc2 := 29) rfl (fun q7 => ?_) (fun q7 => ?_)
        · replace h := (if_neg q7).symm.trans h
          refine kg_aload_n 0 dX10_lay_31 rfl (pc2 := 32) rfl ?_
          refine kg_getr clX10 rfl 0 (Nat.le_of_ble_eq_true rfl) lfRX10_7 tM_0 eM_0 rfl dX10_lay_32 (pc2 := 35) rfl ?_
          refine kg_iconst dX10_lay_35 ki_1 (pc2 := 36) rfl ?_
          refine kg_iald tM_1 eM_1 (show kw_in (1 : Int32) 2832 by decide) (j := 1) (by decide) dX10_lay_36 (pc2 := 37) rfl ?_
          refine kg_bipush dX10_lay_37 kb_36 (pc2 := 39) rfl ?_
          refine kg_icmp_ne 45 dX10_lay_39 rfl (pc2 := 42) rfl (fun q8 => ?_) (fun q8 => ?_)
          · replace h := (if_neg q8).symm.trans h
            refine kg_aload_n 0 dX10_lay_45 rfl (pc2 := 46) rfl ?_
            obtain ⟨r9, r9h, h⟩ := kw_bind_e h
            refine kg_callV (μ := μX10_lay) (d := (d + 4)) rfl mVX10_begins [] [] (gX10_begins (E := E) (d := d) σ r9h) rfl lmRX10_128 (ci := 10) rfl tM_0 eM_0 rfl (Nat.le_of_ble_eq_true rfl) dX10_lay_46 rfl (st2 := []) rfl (pc2 := 49) rfl ?_
            refine kg_aload_n 0 dX10_lay_49 rfl (pc2 := 50) rfl ?_
            refine kg_iload_n 1 dX10_lay_50 rfl (pc2 := 51) rfl ?_
            refine kg_iload_n 2 dX10_lay_51 rfl (pc2 := 52) rfl ?_
            refine kg_iload_n 3 dX10_lay_52 rfl (pc2 := 53) rfl ?_
            obtain ⟨r10, r10h, h⟩ := kw_bind_e h
            refine kg_callV (μ := μX10_lay) (d := (d + 4)) rfl mVX10_comes [.int a1, .int a2, .int a3] [] (gX10_comes (E := E) (d := (d + 3)) a1 a2 a3 r9 r10h) rfl lmRX10_131 (ci := 10) rfl tM_0 eM_0 rfl (Nat.le_of_ble_eq_true rfl) dX10_lay_53 rfl (st2 := [.int r10.1]) rfl (pc2 := 56) rfl ?_
            refine kg_istore dX10_lay_56 (Nat.le_of_ble_eq_true rfl) rfl (lv2 := [(4, .int r10.1), (0, .ref 0), (1, .int a1), (2, .int a2), (3, .int a3)]) rfl (pc2 := 58) rfl ?_
            refine kg_aload_n 1 dX10_lay_58 rfl (pc2 := 59) rfl ?_
            refine kg_aload_n 1 dX10_lay_59 rfl (pc2 := 60) rfl ?_
            refine kg_iload 0 dX10_lay_60 rfl (pc2 := 62) rfl ?_
            obtain ⟨r11, r11h, h⟩ := kw_bind_e h
            refine kg_callV (μ := μX10_lay) (d := (d + 4)) rfl mVX10_isRing [.int r10.1] [.ref 0] (gX10_isRing (E := E) (d := (d + 1)) r10.1 r10.2 r11h) rfl lmRX10_135 (ci := 10) rfl tM_0 eM_0 rfl (Nat.le_of_ble_eq_true rfl) dX10_lay_62 rfl (st2 := [.int r11.1, .ref 0]) rfl (pc2 := 65) rfl ?_
            obtain ⟨r12, r12h, h⟩ := kw_bind_e h
            refine kg_callV (μ := μX10_lay) (d := (d + 4)) rfl mVX10_ends [.int r11.1] [] (gX10_ends (E := E) (d := d) r11.1 r11.2 r12h) rfl lmRX10_138 (ci := 10) rfl tM_0 eM_0 rfl (Nat.le_of_ble_eq_true rfl) dX10_lay_65 rfl (st2 := [.int r12.1]) rfl (pc2 := 68) rfl ?_
            refine kg_istore dX10_lay_68 (Nat.le_of_ble_eq_true rfl) rfl (lv2 := [(5, .int r12.1), (4, .int r10.1), (0, .ref 0), (1, .int a1), (2, .int a2), (3, .int a3)]) rfl (pc2 := 70) rfl ?_
            refine kg_iload 0 dX10_lay_70 rfl (pc2 := 72) rfl ?_
            refine kg_if_ge 80 dX10_lay_72 rfl (pc2 := 75) rfl (fun q13 => ?_) (fun q13 => ?_)
            · replace h := (if_pos q13).symm.trans h
              refine kg_iload 1 dX10_lay_80 rfl (pc2 := 82) rfl ?_
              cases h
              exact kg_iret (ty := .int) dX10_lay_82 rfl rfl
            · replace h := (if_neg q13).symm.trans h
              refine kg_iload 0 dX10_lay_75 rfl (pc2 := 77) rfl ?_
              refine kg_goto 82 dX10_lay_77 rfl ?_
              cases h
              exact kg_iret (ty := .int) dX10_lay_82 rfl rfl
          · replace h := (if_pos q8).symm.trans h
            refine kg_bipush dX10_lay_42 kb_m5 (pc2 := 44) rfl ?_
            cases h
            exact kg_iret (ty := .int) dX10_lay_44 rfl rfl
        · replace h := (if_pos q7).symm.trans h
          refine kg_iconst dX10_lay_29 ki_m1 (pc2 := 30) rfl ?_
          cases h
          exact kg_iret (ty := .int) dX10_lay_30 rfl rfl
set_option maxHeartbeats 4000000 in
set_option maxRecDepth 100000 in
theorem gjX10_length_64 {E : kw_E} {d : Nat} (t0 : Int32) (σ : kw_M) {r : Int32 × kw_M} (h : jX10_length_64 t0 σ = some r) : kw_G E kwTM 21 (d + 5) μX10_length 64 [] [.int t0, .ref 0] σ (some (Value.int r.1)) r.2 := by
  unfold jX10_length_64 at h
  obtain ⟨r11, r11h, h⟩ := kw_bind_e h
  refine kg_callV (μ := μX10_length) (d := (d + 4)) rfl mVX10_ends [.int t0] [] (gX10_ends (E := E) (d := d) t0 σ r11h) rfl lmRX10_138 (ci := 10) rfl tM_0 eM_0 rfl (Nat.le_of_ble_eq_true rfl) dX10_length_64 rfl (st2 := [.int r11.1]) rfl (pc2 := 67) rfl ?_
  cases h
  exact kg_iret (ty := .int) dX10_length_67 rfl rfl
set_option maxHeartbeats 4000000 in
set_option maxRecDepth 100000 in
theorem gjX10_length_63 {E : kw_E} {d : Nat} (σ : kw_M) {r : Int32 × kw_M} (h : jX10_length_63 σ = some r) : kw_G E kwTM 21 (d + 5) μX10_length 63 [] [.ref 0] σ (some (Value.int r.1)) r.2 := by
  unfold jX10_length_63 at h
  refine kg_iconst dX10_length_63 ki_0 (pc2 := 64) rfl ?_
  exact gjX10_length_64 (0 : Int32) σ h
set_option maxHeartbeats 4000000 in
set_option maxRecDepth 100000 in
theorem gX10_length {E : kw_E} {d : Nat} (a1 : Int32) (a2 : Int32) (σ : kw_M) {r : Int32 × kw_M} (h : fX10_length a1 a2 σ = some r) : kw_Met E kwTM 21 (d + 5) μX10_length [.ref 0, .int a1, .int a2] σ (some (Value.int r.1)) r.2 := by
  refine kw_enter plRX10 (Nat.le_of_ble_eq_true rfl) ?_
  show kw_G E kwTM 21 (d + 5) μX10_length 0 [(0, .ref 0), (1, .int a1), (2, .int a2)] [] σ (some (Value.int r.1)) r.2
  unfold fX10_length at h
  refine kg_aload_n 0 dX10_length_0 rfl (pc2 := 1) rfl ?_
  refine kg_iload_n 1 dX10_length_1 rfl (pc2 := 2) rfl ?_
  obtain ⟨r1, r1h, h⟩ := kw_bind_e h
  refine kg_callV (μ := μX10_length) (d := (d + 4)) rfl mVX10_isRoad [.int a1] [] (gX10_isRoad (E := E) (d := (d + 3)) a1 σ r1h) rfl lmRX10_146 (ci := 10) rfl tM_0 eM_0 rfl (Nat.le_of_ble_eq_true rfl) dX10_length_2 rfl (st2 := [.int r1]) rfl (pc2 := 5) rfl ?_
  refine kg_if_eq 16 dX10_length_5 rfl (pc2 := 8) rfl (fun q2 => ?_) (fun q2 => ?_)
  · replace h := (if_pos q2).symm.trans h
    refine kg_iconst dX10_length_16 ki_m1 (pc2 := 17) rfl ?_
    cases h
    exact kg_iret (ty := .int) dX10_length_17 rfl rfl
  · replace h := (if_neg q2).symm.trans h
    refine kg_iload_n 2 dX10_length_8 rfl (pc2 := 9) rfl ?_
    refine kg_i2l dX10_length_9 (pc2 := 10) rfl ?_
    obtain ⟨r3, r3h, h⟩ := kw_bind_e h
    refine kg_callS (μ := μX10_length) (d := (d + 4)) rfl mSX10_isLength [.long a2.toInt64] [] (gX10_isLength (E := E) (d := (d + 3)) a2.toInt64 σ r3h) rfl lmRX10_124 rfl (Nat.le_of_ble_eq_true rfl) dX10_length_10 rfl (st2 := [.int r3]) rfl (pc2 := 13) rfl ?_
    refine kg_if_ne 18 dX10_length_13 rfl (pc2 := 16) rfl (fun q4 => ?_) (fun q4 => ?_)
    · replace h := (if_neg q4).symm.trans h
      refine kg_aload_n 0 dX10_length_18 rfl (pc2 := 19) rfl ?_
      refine kg_iload_n 1 dX10_length_19 rfl (pc2 := 20) rfl ?_
      refine kg_iconst dX10_length_20 ki_2 (pc2 := 21) rfl ?_
      obtain ⟨r5, r5h, h⟩ := kw_bind_e h
      refine kg_callV (μ := μX10_length) (d := (d + 4)) rfl mVX10_of [.int a1, .int (2 : Int32)] [] (gX10_of (E := E) (d := (d + 4)) a1 (2 : Int32) σ r5h) rfl lmRX10_73 (ci := 10) rfl tM_0 eM_0 rfl (Nat.le_of_ble_eq_true rfl) dX10_length_21 rfl (st2 := [.int r5]) rfl (pc2 := 24) rfl ?_
      refine kg_iload_n 2 dX10_length_24 rfl (pc2 := 25) rfl ?_
      refine kg_icmp_ne 31 dX10_length_25 rfl (pc2 := 28) rfl (fun q6 => ?_) (fun q6 => ?_)
      · replace h := (if_neg q6).symm.trans h
        refine kg_aload_n 0 dX10_length_31 rfl (pc2 := 32) rfl ?_
        obtain ⟨r7, r7h, h⟩ := kw_bind_e h
        refine kg_callV (μ := μX10_length) (d := (d + 4)) rfl mVX10_begins [] [] (gX10_begins (E := E) (d := d) σ r7h) rfl lmRX10_128 (ci := 10) rfl tM_0 eM_0 rfl (Nat.le_of_ble_eq_true rfl) dX10_length_32 rfl (st2 := []) rfl (pc2 := 35) rfl ?_
        refine kg_aload_n 0 dX10_length_35 rfl (pc2 := 36) rfl ?_
        refine kg_iload_n 1 dX10_length_36 rfl (pc2 := 37) rfl ?_
        refine kg_iconst dX10_length_37 ki_2 (pc2 := 38) rfl ?_
        refine kg_iload_n 2 dX10_length_38 rfl (pc2 := 39) rfl ?_
        obtain ⟨r8, r8h, h⟩ := kw_bind_e h
        refine kg_callV (μ := μX10_length) (d := (d + 4)) rfl mVX10_sets [.int a1, .int (2 : Int32), .int a2] [] (gX10_sets (E := E) (d := (d + 4)) a1 (2 : Int32) a2 r7 r8h) rfl lmRX10_142 (ci := 10) rfl tM_0 eM_0 rfl (Nat.le_of_ble_eq_true rfl) dX10_length_39 rfl (st2 := []) rfl (pc2 := 42) rfl ?_
        refine kg_aload_n 0 dX10_length_42 rfl (pc2 := 43) rfl ?_
        refine kg_aload_n 0 dX10_length_43 rfl (pc2 := 44) rfl ?_
        refine kg_iload_n 1 dX10_length_44 rfl (pc2 := 45) rfl ?_
        obtain ⟨r9, r9h, h⟩ := kw_bind_e h
        refine kg_callV (μ := μX10_length) (d := (d + 4)) rfl mVX10_isOpen [.int a1] [.ref 0] (gX10_isOpen (E := E) (d := (d + 3)) a1 r8 r9h) rfl lmRX10_91 (ci := 10) rfl tM_0 eM_0 rfl (Nat.le_of_ble_eq_true rfl) dX10_length_45 rfl (st2 := [.int r9, .ref 0]) rfl (pc2 := 48) rfl ?_
        refine kg_if_eq 63 dX10_length_48 rfl (pc2 := 51) rfl (fun q10 => ?_) (fun q10 => ?_)
        · replace h := (if_pos q10).symm.trans h
          refine kg_sub [] (lv2 := []) rfl ?_
          exact gjX10_length_63 r8 h
        · replace h := (if_neg q10).symm.trans h
          refine kg_aload_n 0 dX10_length_51 rfl (pc2 := 52) rfl ?_
          refine kg_iload_n 1 dX10_length_52 rfl (pc2 := 53) rfl ?_
          obtain ⟨r12, r12h, h⟩ := kw_bind_e h
          refine kg_callV (μ := μX10_length) (d := (d + 4)) rfl mVX10_isRing [.int a1] [.ref 0] (gX10_isRing (E := E) (d := (d + 1)) a1 r8 r12h) rfl lmRX10_135 (ci := 10) rfl tM_0 eM_0 rfl (Nat.le_of_ble_eq_true rfl) dX10_length_53 rfl (st2 := [.int r12.1, .ref 0]) rfl (pc2 := 56) rfl ?_
          refine kg_if_eq 63 dX10_length_56 rfl (pc2 := 59) rfl (fun q13 => ?_) (fun q13 => ?_)
          · replace h := (if_pos q13).symm.trans h
            refine kg_sub [] (lv2 := []) rfl ?_
            exact gjX10_length_63 r12.2 h
          · replace h := (if_neg q13).symm.trans h
            refine kg_iconst dX10_length_59 ki_1 (pc2 := 60) rfl ?_
            refine kg_goto 64 dX10_length_60 rfl ?_
            refine kg_sub [] (lv2 := []) rfl ?_
            exact gjX10_length_64 (1 : Int32) r12.2 h
      · replace h := (if_pos q6).symm.trans h
        refine kg_bipush dX10_length_28 kb_m2 (pc2 := 30) rfl ?_
        cases h
        exact kg_iret (ty := .int) dX10_length_30 rfl rfl
    · replace h := (if_pos q4).symm.trans h
      refine kg_iconst dX10_length_16 ki_m1 (pc2 := 17) rfl ?_
      cases h
      exact kg_iret (ty := .int) dX10_length_17 rfl rfl
set_option maxHeartbeats 4000000 in
set_option maxRecDepth 100000 in
theorem gjX10_turns_53 {E : kw_E} {d : Nat} (t0 : Int32) (σ : kw_M) {r : Int32 × kw_M} (h : jX10_turns_53 t0 σ = some r) : kw_G E kwTM 21 (d + 5) μX10_turns 53 [] [.int t0, .ref 0] σ (some (Value.int r.1)) r.2 := by
  unfold jX10_turns_53 at h
  obtain ⟨r8, r8h, h⟩ := kw_bind_e h
  refine kg_callV (μ := μX10_turns) (d := (d + 4)) rfl mVX10_ends [.int t0] [] (gX10_ends (E := E) (d := d) t0 σ r8h) rfl lmRX10_138 (ci := 10) rfl tM_0 eM_0 rfl (Nat.le_of_ble_eq_true rfl) dX10_turns_53 rfl (st2 := [.int r8.1]) rfl (pc2 := 56) rfl ?_
  cases h
  exact kg_iret (ty := .int) dX10_turns_56 rfl rfl
set_option maxHeartbeats 4000000 in
set_option maxRecDepth 100000 in
theorem gjX10_turns_52 {E : kw_E} {d : Nat} (σ : kw_M) {r : Int32 × kw_M} (h : jX10_turns_52 σ = some r) : kw_G E kwTM 21 (d + 5) μX10_turns 52 [] [.ref 0] σ (some (Value.int r.1)) r.2 := by
  unfold jX10_turns_52 at h
  refine kg_iconst dX10_turns_52 ki_0 (pc2 := 53) rfl ?_
  exact gjX10_turns_53 (0 : Int32) σ h
set_option maxHeartbeats 4000000 in
set_option maxRecDepth 100000 in
theorem gX10_turns {E : kw_E} {d : Nat} (a1 : Int32) (a2 : Int32) (σ : kw_M) {r : Int32 × kw_M} (h : fX10_turns a1 a2 σ = some r) : kw_Met E kwTM 21 (d + 5) μX10_turns [.ref 0, .int a1, .int a2] σ (some (Value.int r.1)) r.2 := by
  refine kw_enter plRX10 (Nat.le_of_ble_eq_true rfl) ?_
  show kw_G E kwTM 21 (d + 5) μX10_turns 0 [(0, .ref 0), (1, .int a1), (2, .int a2)] [] σ (some (Value.int r.1)) r.2
  unfold fX10_turns at h
  refine kg_aload_n 0 dX10_turns_0 rfl (pc2 := 1) rfl ?_
  refine kg_iload_n 1 dX10_turns_1 rfl (pc2 := 2) rfl ?_
  obtain ⟨r1, r1h, h⟩ := kw_bind_e h
  refine kg_callV (μ := μX10_turns) (d := (d + 4)) rfl mVX10_isRoad [.int a1] [] (gX10_isRoad (E := E) (d := (d + 3)) a1 σ r1h) rfl lmRX10_146 (ci := 10) rfl tM_0 eM_0 rfl (Nat.le_of_ble_eq_true rfl) dX10_turns_2 rfl (st2 := [.int r1]) rfl (pc2 := 5) rfl ?_
  refine kg_if_ne 10 dX10_turns_5 rfl (pc2 := 8) rfl (fun q2 => ?_) (fun q2 => ?_)
  · replace h := (if_neg q2).symm.trans h
    refine kg_aload_n 0 dX10_turns_10 rfl (pc2 := 11) rfl ?_
    refine kg_iload_n 1 dX10_turns_11 rfl (pc2 := 12) rfl ?_
    refine kg_iconst dX10_turns_12 ki_3 (pc2 := 13) rfl ?_
    obtain ⟨r3, r3h, h⟩ := kw_bind_e h
    refine kg_callV (μ := μX10_turns) (d := (d + 4)) rfl mVX10_of [.int a1, .int (3 : Int32)] [] (gX10_of (E := E) (d := (d + 4)) a1 (3 : Int32) σ r3h) rfl lmRX10_73 (ci := 10) rfl tM_0 eM_0 rfl (Nat.le_of_ble_eq_true rfl) dX10_turns_13 rfl (st2 := [.int r3]) rfl (pc2 := 16) rfl ?_
    refine kg_iload_n 2 dX10_turns_16 rfl (pc2 := 17) rfl ?_
    refine kg_icmp_ne 23 dX10_turns_17 rfl (pc2 := 20) rfl (fun q4 => ?_) (fun q4 => ?_)
    · replace h := (if_neg q4).symm.trans h
      refine kg_aload_n 0 dX10_turns_23 rfl (pc2 := 24) rfl ?_
      obtain ⟨r5, r5h, h⟩ := kw_bind_e h
      refine kg_callV (μ := μX10_turns) (d := (d + 4)) rfl mVX10_begins [] [] (gX10_begins (E := E) (d := d) σ r5h) rfl lmRX10_128 (ci := 10) rfl tM_0 eM_0 rfl (Nat.le_of_ble_eq_true rfl) dX10_turns_24 rfl (st2 := []) rfl (pc2 := 27) rfl ?_
      refine kg_aload_n 0 dX10_turns_27 rfl (pc2 := 28) rfl ?_
      refine kg_iload_n 1 dX10_turns_28 rfl (pc2 := 29) rfl ?_
      refine kg_iconst dX10_turns_29 ki_3 (pc2 := 30) rfl ?_
      refine kg_iload_n 2 dX10_turns_30 rfl (pc2 := 31) rfl ?_
      obtain ⟨r6, r6h, h⟩ := kw_bind_e h
      refine kg_callV (μ := μX10_turns) (d := (d + 4)) rfl mVX10_sets [.int a1, .int (3 : Int32), .int a2] [] (gX10_sets (E := E) (d := (d + 4)) a1 (3 : Int32) a2 r5 r6h) rfl lmRX10_142 (ci := 10) rfl tM_0 eM_0 rfl (Nat.le_of_ble_eq_true rfl) dX10_turns_31 rfl (st2 := []) rfl (pc2 := 34) rfl ?_
      refine kg_aload_n 0 dX10_turns_34 rfl (pc2 := 35) rfl ?_
      refine kg_iload_n 2 dX10_turns_35 rfl (pc2 := 36) rfl ?_
      refine kg_iconst dX10_turns_36 ki_1 (pc2 := 37) rfl ?_
      refine kg_icmp_ne 52 dX10_turns_37 rfl (pc2 := 40) rfl (fun q7 => ?_) (fun q7 => ?_)
      · replace h := (if_neg q7).symm.trans h
        refine kg_sub [] (lv2 := []) rfl ?_
        exact gjX10_turns_52 r6 h
      · replace h := (if_pos q7).symm.trans h
        refine kg_aload_n 0 dX10_turns_40 rfl (pc2 := 41) rfl ?_
        refine kg_iload_n 1 dX10_turns_41 rfl (pc2 := 42) rfl ?_
        obtain ⟨r9, r9h, h⟩ := kw_bind_e h
        refine kg_callV (μ := μX10_turns) (d := (d + 4)) rfl mVX10_isRing [.int a1] [.ref 0] (gX10_isRing (E := E) (d := (d + 1)) a1 r6 r9h) rfl lmRX10_135 (ci := 10) rfl tM_0 eM_0 rfl (Nat.le_of_ble_eq_true rfl) dX10_turns_42 rfl (st2 := [.int r9.1, .ref 0]) rfl (pc2 := 45) rfl ?_
        refine kg_if_eq 52 dX10_turns_45 rfl (pc2 := 48) rfl (fun q10 => ?_) (fun q10 => ?_)
        · replace h := (if_pos q10).symm.trans h
          refine kg_sub [] (lv2 := []) rfl ?_
          exact gjX10_turns_52 r9.2 h
        · replace h := (if_neg q10).symm.trans h
          refine kg_iconst dX10_turns_48 ki_1 (pc2 := 49) rfl ?_
          refine kg_goto 53 dX10_turns_49 rfl ?_
          refine kg_sub [] (lv2 := []) rfl ?_
          exact gjX10_turns_53 (1 : Int32) r9.2 h
    · replace h := (if_pos q4).symm.trans h
      refine kg_bipush dX10_turns_20 kb_m2 (pc2 := 22) rfl ?_
      cases h
      exact kg_iret (ty := .int) dX10_turns_22 rfl rfl
  · replace h := (if_pos q2).symm.trans h
    refine kg_iconst dX10_turns_8 ki_m1 (pc2 := 9) rfl ?_
    cases h
    exact kg_iret (ty := .int) dX10_turns_9 rfl rfl
set_option maxHeartbeats 4000000 in
set_option maxRecDepth 100000 in
theorem gX10_close {E : kw_E} {d : Nat} (a1 : Int32) (σ : kw_M) {r : Int32 × kw_M} (h : fX10_close a1 σ = some r) : kw_Met E kwTM 21 (d + 6) μX10_close [.ref 0, .int a1] σ (some (Value.int r.1)) r.2 := by
  refine kw_enter plRX10 (Nat.le_of_ble_eq_true rfl) ?_
  show kw_G E kwTM 21 (d + 6) μX10_close 0 [(0, .ref 0), (1, .int a1)] [] σ (some (Value.int r.1)) r.2
  unfold fX10_close at h
  refine kg_aload_n 0 dX10_close_0 rfl (pc2 := 1) rfl ?_
  refine kg_iload_n 1 dX10_close_1 rfl (pc2 := 2) rfl ?_
  refine kg_iconst dX10_close_2 ki_0 (pc2 := 3) rfl ?_
  obtain ⟨r1, r1h, h⟩ := kw_bind_e h
  refine kg_callV (μ := μX10_close) (d := (d + 5)) rfl mVX10_turns [.int a1, .int (0 : Int32)] [] (gX10_turns (E := E) (d := d) a1 (0 : Int32) σ r1h) rfl lmRX10_149 (ci := 10) rfl tM_0 eM_0 rfl (Nat.le_of_ble_eq_true rfl) dX10_close_3 rfl (st2 := [.int r1.1]) rfl (pc2 := 6) rfl ?_
  cases h
  exact kg_iret (ty := .int) dX10_close_6 rfl rfl
set_option maxHeartbeats 4000000 in
set_option maxRecDepth 100000 in
theorem gX10_open {E : kw_E} {d : Nat} (a1 : Int32) (σ : kw_M) {r : Int32 × kw_M} (h : fX10_open a1 σ = some r) : kw_Met E kwTM 21 (d + 6) μX10_open [.ref 0, .int a1] σ (some (Value.int r.1)) r.2 := by
  refine kw_enter plRX10 (Nat.le_of_ble_eq_true rfl) ?_
  show kw_G E kwTM 21 (d + 6) μX10_open 0 [(0, .ref 0), (1, .int a1)] [] σ (some (Value.int r.1)) r.2
  unfold fX10_open at h
  refine kg_aload_n 0 dX10_open_0 rfl (pc2 := 1) rfl ?_
  refine kg_iload_n 1 dX10_open_1 rfl (pc2 := 2) rfl ?_
  refine kg_iconst dX10_open_2 ki_1 (pc2 := 3) rfl ?_
  obtain ⟨r1, r1h, h⟩ := kw_bind_e h
  refine kg_callV (μ := μX10_open) (d := (d + 5)) rfl mVX10_turns [.int a1, .int (1 : Int32)] [] (gX10_turns (E := E) (d := d) a1 (1 : Int32) σ r1h) rfl lmRX10_149 (ci := 10) rfl tM_0 eM_0 rfl (Nat.le_of_ble_eq_true rfl) dX10_open_3 rfl (st2 := [.int r1.1]) rfl (pc2 := 6) rfl ?_
  cases h
  exact kg_iret (ty := .int) dX10_open_6 rfl rfl
set_option maxHeartbeats 4000000 in
set_option maxRecDepth 100000 in
theorem gX10_origin {E : kw_E} {d : Nat} (a1 : Int32) (σ : kw_M) {r : Int32 × kw_M} (h : fX10_origin a1 σ = some r) : kw_Met E kwTM 21 (d + 5) μX10_origin [.ref 0, .int a1] σ (some (Value.int r.1)) r.2 := by
  refine kw_enter plRX10 (Nat.le_of_ble_eq_true rfl) ?_
  show kw_G E kwTM 21 (d + 5) μX10_origin 0 [(0, .ref 0), (1, .int a1)] [] σ (some (Value.int r.1)) r.2
  unfold fX10_origin at h
  refine kg_aload_n 0 dX10_origin_0 rfl (pc2 := 1) rfl ?_
  refine kg_iload_n 1 dX10_origin_1 rfl (pc2 := 2) rfl ?_
  obtain ⟨r1, r1h, h⟩ := kw_bind_e h
  refine kg_callV (μ := μX10_origin) (d := (d + 4)) rfl mVX10_isTown [.int a1] [] (gX10_isTown (E := E) (d := (d + 3)) a1 σ r1h) rfl lmRX10_121 (ci := 10) rfl tM_0 eM_0 rfl (Nat.le_of_ble_eq_true rfl) dX10_origin_2 rfl (st2 := [.int r1]) rfl (pc2 := 5) rfl ?_
  refine kg_if_ne 10 dX10_origin_5 rfl (pc2 := 8) rfl (fun q2 => ?_) (fun q2 => ?_)
  · replace h := (if_neg q2).symm.trans h
    refine kg_iload_n 1 dX10_origin_10 rfl (pc2 := 11) rfl ?_
    refine kg_aload_n 0 dX10_origin_11 rfl (pc2 := 12) rfl ?_
    refine kg_getr clX10 rfl 0 (Nat.le_of_ble_eq_true rfl) lfRX10_7 tM_0 eM_0 rfl dX10_origin_12 (pc2 := 15) rfl ?_
    refine kg_iconst dX10_origin_15 ki_2 (pc2 := 16) rfl ?_
    refine kg_iald tM_1 eM_1 (show kw_in (2 : Int32) 2832 by decide) (j := 2) (by decide) dX10_origin_16 (pc2 := 17) rfl ?_
    refine kg_icmp_ne 23 dX10_origin_17 rfl (pc2 := 20) rfl (fun q3 => ?_) (fun q3 => ?_)
    · replace h := (if_neg q3).symm.trans h
      refine kg_aload_n 0 dX10_origin_23 rfl (pc2 := 24) rfl ?_
      obtain ⟨r4, r4h, h⟩ := kw_bind_e h
      refine kg_callV (μ := μX10_origin) (d := (d + 4)) rfl mVX10_begins [] [] (gX10_begins (E := E) (d := d) σ r4h) rfl lmRX10_128 (ci := 10) rfl tM_0 eM_0 rfl (Nat.le_of_ble_eq_true rfl) dX10_origin_24 rfl (st2 := []) rfl (pc2 := 27) rfl ?_
      refine kg_aload_n 0 dX10_origin_27 rfl (pc2 := 28) rfl ?_
      refine kg_getr clX10 rfl 0 (Nat.le_of_ble_eq_true rfl) lfRX10_7 tM_0 eM_0 rfl dX10_origin_28 (pc2 := 31) rfl ?_
      refine kg_iconst dX10_origin_31 ki_2 (pc2 := 32) rfl ?_
      refine kg_iload_n 1 dX10_origin_32 rfl (pc2 := 33) rfl ?_
      obtain ⟨s5, s5e, h⟩ := kw_let_e h
      refine kg_iast tM_1 eM_1 (show kw_in (2 : Int32) 2832 by decide) (j := 2) (by decide) s5e dX10_origin_33 (pc2 := 34) rfl ?_
      refine kg_aload_n 0 dX10_origin_34 rfl (pc2 := 35) rfl ?_
      refine kg_iconst dX10_origin_35 ki_0 (pc2 := 36) rfl ?_
      obtain ⟨r6, r6h, h⟩ := kw_bind_e h
      refine kg_callV (μ := μX10_origin) (d := (d + 4)) rfl mVX10_ends [.int (0 : Int32)] [] (gX10_ends (E := E) (d := d) (0 : Int32) s5 r6h) rfl lmRX10_138 (ci := 10) rfl tM_0 eM_0 rfl (Nat.le_of_ble_eq_true rfl) dX10_origin_36 rfl (st2 := [.int r6.1]) rfl (pc2 := 39) rfl ?_
      cases h
      exact kg_iret (ty := .int) dX10_origin_39 rfl rfl
    · replace h := (if_pos q3).symm.trans h
      refine kg_bipush dX10_origin_20 kb_m2 (pc2 := 22) rfl ?_
      cases h
      exact kg_iret (ty := .int) dX10_origin_22 rfl rfl
  · replace h := (if_pos q2).symm.trans h
    refine kg_iconst dX10_origin_8 ki_m1 (pc2 := 9) rfl ?_
    cases h
    exact kg_iret (ty := .int) dX10_origin_9 rfl rfl
set_option maxHeartbeats 4000000 in
set_option maxRecDepth 100000 in
theorem gX10_touched {E : kw_E} {d : Nat} (a1 : Int32) (σ : kw_M) {r : Int32} (h : fX10_touched a1 σ = some r) : kw_Met E kwTM 21 d μX10_touched [.ref 0, .int a1] σ (some (Value.int r)) σ := by
  refine kw_enter plRX10 (Nat.le_of_ble_eq_true rfl) ?_
  show kw_G E kwTM 21 d μX10_touched 0 [(0, .ref 0), (1, .int a1)] [] σ (some (Value.int r)) σ
  unfold fX10_touched at h
  refine kg_iload_n 1 dX10_touched_0 rfl (pc2 := 1) rfl ?_
  refine kg_if_ge 8 dX10_touched_1 rfl (pc2 := 4) rfl (fun q1 => ?_) (fun q1 => ?_)
  · replace h := (if_pos q1).symm.trans h
    refine kg_iload_n 1 dX10_touched_8 rfl (pc2 := 9) rfl ?_
    refine kg_aload_n 0 dX10_touched_9 rfl (pc2 := 10) rfl ?_
    refine kg_getr clX10 rfl 0 (Nat.le_of_ble_eq_true rfl) lfRX10_7 tM_0 eM_0 rfl dX10_touched_10 (pc2 := 13) rfl ?_
    refine kg_bipush dX10_touched_13 kb_6 (pc2 := 15) rfl ?_
    refine kg_iald tM_1 eM_1 (show kw_in (6 : Int32) 2832 by decide) (j := 6) (by decide) dX10_touched_15 (pc2 := 16) rfl ?_
    refine kg_icmp_ge 31 dX10_touched_16 rfl (pc2 := 19) rfl (fun q2 => ?_) (fun q2 => ?_)
    · replace h := (if_pos q2).symm.trans h
      refine kg_bipush dX10_touched_31 kb_m4 (pc2 := 33) rfl ?_
      cases h
      exact kg_iret (ty := .int) dX10_touched_33 rfl rfl
    · replace h := (if_neg q2).symm.trans h
      refine kg_aload_n 0 dX10_touched_19 rfl (pc2 := 20) rfl ?_
      refine kg_getr clX10 rfl 0 (Nat.le_of_ble_eq_true rfl) lfRX10_7 tM_0 eM_0 rfl dX10_touched_20 (pc2 := 23) rfl ?_
      refine kg_bipush dX10_touched_23 kb_16 (pc2 := 25) rfl ?_
      refine kg_iload_n 1 dX10_touched_25 rfl (pc2 := 26) rfl ?_
      refine kg_iadd dX10_touched_26 (pc2 := 27) rfl ?_
      obtain ⟨q3, h⟩ := kw_chk_e h
      refine kg_iald tM_1 eM_1 q3 (j := ((16 : Int32) + a1).toNatClampNeg) rfl dX10_touched_27 (pc2 := 28) rfl ?_
      refine kg_goto 33 dX10_touched_28 rfl ?_
      cases h
      exact kg_iret (ty := .int) dX10_touched_33 rfl rfl
  · replace h := (if_neg q1).symm.trans h
    refine kg_iconst dX10_touched_4 ki_m1 (pc2 := 5) rfl ?_
    refine kg_goto 33 dX10_touched_5 rfl ?_
    cases h
    exact kg_iret (ty := .int) dX10_touched_33 rfl rfl
set_option maxHeartbeats 4000000 in
set_option maxRecDepth 100000 in
theorem lX10_types_2 {E : kw_E} {d : Nat} (v1 : Int32) (v2 : Int32) (σ : kw_M) {v : Option Value} {σ2 : kw_M} {o : (Int32 × kw_M) ⊕ (kw_M)} (h : bX10_types_2 v1 v2 σ = some o) (hk : Sum.elim (fun s => kw_G E kwTM 21 d μX10_types 2 [(0, .ref 0), (1, .int v1), (2, .int s.1)] [] s.2 v σ2) (fun y => kw_G E kwTM 21 d μX10_types 38 [] [] y v σ2) o) : kw_G E kwTM 21 d μX10_types 2 [(0, .ref 0), (1, .int v1), (2, .int v2)] [] σ v σ2 := by
  unfold bX10_types_2 at h
  refine kg_iload_n 2 dX10_types_2 rfl (pc2 := 3) rfl ?_
  refine kg_if_lt 38 dX10_types_3 rfl (pc2 := 6) rfl (fun q1 => ?_) (fun q1 => ?_)
  · replace h := (if_pos q1).symm.trans h
    refine kg_sub [] (lv2 := []) rfl ?_
    cases h
    exact hk
  · replace h := (if_neg q1).symm.trans h
    refine kg_aload_n 0 dX10_types_6 rfl (pc2 := 7) rfl ?_
    refine kg_getr clX10 rfl 5 (Nat.le_of_ble_eq_true rfl) lfRX10_23 tM_0 eM_0 rfl dX10_types_7 (pc2 := 10) rfl ?_
    refine kg_aload_n 0 dX10_types_10 rfl (pc2 := 11) rfl ?_
    refine kg_geti clX10 rfl 6 (Nat.le_of_ble_eq_true rfl) lfRX10_152 tM_0 eM_0 rfl dX10_types_11 (pc2 := 14) rfl ?_
    refine kg_iload_n 1 dX10_types_14 rfl (pc2 := 15) rfl ?_
    refine kg_bipush dX10_types_15 kb_8 (pc2 := 17) rfl ?_
    refine kg_iload_n 2 dX10_types_17 rfl (pc2 := 18) rfl ?_
    refine kg_imul dX10_types_18 (pc2 := 19) rfl ?_
    refine kg_ishr dX10_types_19 (pc2 := 20) rfl ?_
    refine kg_i2b dX10_types_20 (pc2 := 21) rfl ?_
    obtain ⟨q2, h⟩ := kw_chk_e h
    obtain ⟨s3, s3e, h⟩ := kw_let_e h
    refine kg_bast tM_5 eM_5 q2 (j := (σ.1 0 6).toNatClampNeg) rfl s3e dX10_types_21 (pc2 := 22) rfl ?_
    refine kg_aload_n 0 dX10_types_22 rfl (pc2 := 23) rfl ?_
    refine kg_aload_n 0 dX10_types_23 rfl (pc2 := 24) rfl ?_
    refine kg_geti clX10 rfl 6 (Nat.le_of_ble_eq_true rfl) lfRX10_152 tM_0 eM_0 rfl dX10_types_24 (pc2 := 27) rfl ?_
    refine kg_iconst dX10_types_27 ki_1 (pc2 := 28) rfl ?_
    refine kg_iadd dX10_types_28 (pc2 := 29) rfl ?_
    obtain ⟨s4, s4e, h⟩ := kw_let_e h
    refine kg_puti clX10 rfl 6 (Nat.le_of_ble_eq_true rfl) lfRX10_152 rfl tM_0 eM_0 rfl (ty := .int) (by decide +kernel) rfl rfl s4e dX10_types_29 (pc2 := 32) rfl ?_
    obtain ⟨x5, x5e, h⟩ := kw_let_e h
    refine kg_iinc 2 dX10_types_32 rfl (Nat.le_of_ble_eq_true rfl) x5e (lv2 := [(2, .int x5), (0, .ref 0), (1, .int v1)]) rfl (pc2 := 35) rfl ?_
    refine kg_goto 2 dX10_types_35 rfl ?_
    refine kg_sub [1, 2, 0] (lv2 := [(0, .ref 0), (1, .int v1), (2, .int x5)]) rfl ?_
    cases h
    exact hk
set_option maxHeartbeats 4000000 in
set_option maxRecDepth 100000 in
theorem gX10_types {E : kw_E} {d : Nat} (a1 : Int32) (σ : kw_M) {r : kw_M} (h : fX10_types a1 σ = some r) : kw_Met E kwTM 21 d μX10_types [.ref 0, .int a1] σ none r := by
  refine kw_enter plRX10 (Nat.le_of_ble_eq_true rfl) ?_
  show kw_G E kwTM 21 d μX10_types 0 [(0, .ref 0), (1, .int a1)] [] σ none r
  unfold fX10_types at h
  refine kg_iconst dX10_types_0 ki_3 (pc2 := 1) rfl ?_
  refine kg_istore_n dX10_types_1 rfl (Nat.le_of_ble_eq_true rfl) rfl (lv2 := [(2, .int (3 : Int32)), (0, .ref 0), (1, .int a1)]) rfl (pc2 := 2) rfl ?_
  refine kg_sub [1, 2, 0] (lv2 := [(0, .ref 0), (1, .int a1), (2, .int (3 : Int32))]) rfl ?_
  obtain ⟨x6, x6h, h⟩ := kw_bind_e h
  refine kw_loop_e (P := fun s => kw_G E kwTM 21 d μX10_types 2 [(0, .ref 0), (1, .int a1), (2, .int s.1)] [] s.2 none r) (K := fun y => kw_G E kwTM 21 d μX10_types 38 [] [] y none r) (fun s o h0 hk => lX10_types_2 a1 s.1 s.2 h0 hk) kw_F _ _ x6h ?_
  show kw_G E kwTM 21 d μX10_types 38 [] [] x6 none r
  cases h
  exact kg_vret dX10_types_38 rfl
