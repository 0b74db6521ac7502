/-! The reference, method by method: the machine does what f says (g). -/
set_option maxHeartbeats 4000000 in
set_option maxRecDepth 100000 in
theorem lX10_goesOn_2 {E : kw_E} {d : Nat} (v1 : Int32) (σ : kw_M) {v : Option Value} {σ2 : kw_M} {o : (Int32 × kw_M) ⊕ (kw_M)} (h : bX10_goesOn_2 v1 σ = some o) (hk : Sum.elim (fun s => kw_G E kwTM 21 (d + 2) μX10_goesOn 2 [(0, .ref 0), (1, .int s.1)] [] s.2 v σ2) (fun y => kw_G E kwTM 21 (d + 2) μX10_goesOn 23 [(0, .ref 0)] [] y v σ2) o) : kw_G E kwTM 21 (d + 2) μX10_goesOn 2 [(0, .ref 0), (1, .int v1)] [] σ v σ2 := by
  unfold bX10_goesOn_2 at h
  refine kg_iload_n 1 dX10_goesOn_2 rfl (pc2 := 3) rfl ?_
  refine kg_bipush dX10_goesOn_3 kb_12 (pc2 := 5) rfl ?_
  refine kg_icmp_ge 23 dX10_goesOn_5 rfl (pc2 := 8) rfl (fun q1 => ?_) (fun q1 => ?_)
  · replace h := (if_pos q1).symm.trans h
    refine kg_sub [0] (lv2 := [(0, .ref 0)]) rfl ?_
    cases h
    exact hk
  · replace h := (if_neg q1).symm.trans h
    refine kg_aload_n 0 dX10_goesOn_8 rfl (pc2 := 9) rfl ?_
    refine kg_getr clX10 rfl 28 (Nat.le_of_ble_eq_true rfl) lfRX10_64 tM_0 eM_0 rfl dX10_goesOn_9 (pc2 := 12) rfl ?_
    refine kg_iload_n 1 dX10_goesOn_12 rfl (pc2 := 13) rfl ?_
    refine kg_ldc2 rfl lcRX10_89 dX10_goesOn_13 (pc2 := 16) rfl ?_
    obtain ⟨q2, h⟩ := kw_chk_e h
    obtain ⟨s3, s3e, h⟩ := kw_let_e h
    refine kg_last tM_18 eM_18 q2 (j := v1.toNatClampNeg) rfl s3e dX10_goesOn_16 (pc2 := 17) rfl ?_
    obtain ⟨x4, x4e, h⟩ := kw_let_e h
    refine kg_iinc 1 dX10_goesOn_17 rfl (Nat.le_of_ble_eq_true rfl) x4e (lv2 := [(1, .int x4), (0, .ref 0)]) rfl (pc2 := 20) rfl ?_
    refine kg_goto 2 dX10_goesOn_20 rfl ?_
    refine kg_sub [1, 0] (lv2 := [(0, .ref 0), (1, .int x4)]) rfl ?_
    cases h
    exact hk
set_option maxHeartbeats 4000000 in
set_option maxRecDepth 100000 in
theorem lX10_goesOn_25 {E : kw_E} {d : Nat} (v1 : Int32) (σ : kw_M) {v : Option Value} {σ2 : kw_M} {o : (Int32 × kw_M) ⊕ (kw_M)} (h : bX10_goesOn_25 v1 σ = some o) (hk : Sum.elim (fun s => kw_G E kwTM 21 (d + 2) μX10_goesOn 25 [(0, .ref 0), (1, .int s.1)] [] s.2 v σ2) (fun y => kw_G E kwTM 21 (d + 2) μX10_goesOn 118 [(0, .ref 0)] [] y v σ2) o) : kw_G E kwTM 21 (d + 2) μX10_goesOn 25 [(0, .ref 0), (1, .int v1)] [] σ v σ2 := by
  unfold bX10_goesOn_25 at h
  refine kg_iload_n 1 dX10_goesOn_25 rfl (pc2 := 26) rfl ?_
  refine kg_aload_n 0 dX10_goesOn_26 rfl (pc2 := 27) rfl ?_
  refine kg_getr clX10 rfl 0 (Nat.le_of_ble_eq_true rfl) lfRX10_7 tM_0 eM_0 rfl dX10_goesOn_27 (pc2 := 30) rfl ?_
  refine kg_iconst dX10_goesOn_30 ki_1 (pc2 := 31) rfl ?_
  refine kg_iald tM_1 eM_1 (show kw_in (1 : Int32) 2832 by decide) (j := 1) (by decide) dX10_goesOn_31 (pc2 := 32) rfl ?_
  refine kg_icmp_ge 118 dX10_goesOn_32 rfl (pc2 := 35) rfl (fun q6 => ?_) (fun q6 => ?_)
  · replace h := (if_pos q6).symm.trans h
    refine kg_sub [0] (lv2 := [(0, .ref 0)]) rfl ?_
    cases h
    exact hk
  · replace h := (if_neg q6).symm.trans h
    refine kg_aload_n 0 dX10_goesOn_35 rfl (pc2 := 36) rfl ?_
    refine kg_iload_n 1 dX10_goesOn_36 rfl (pc2 := 37) rfl ?_
    obtain ⟨r7, r7h, h⟩ := kw_bind_e h
    refine kg_callV (μ := μX10_goesOn) (d := (d + 1)) rfl mVX10_isOpen [.int v1] [] (gX10_isOpen (E := E) (d := d) v1 σ r7h) rfl lmRX10_91 (ci := 10) rfl tM_0 eM_0 rfl (Nat.le_of_ble_eq_true rfl) dX10_goesOn_37 rfl (st2 := [.int r7]) rfl (pc2 := 40) rfl ?_
    refine kg_if_eq 112 dX10_goesOn_40 rfl (pc2 := 43) rfl (fun q8 => ?_) (fun q8 => ?_)
    · replace h := (if_pos q8).symm.trans h
      obtain ⟨x9, x9e, h⟩ := kw_let_e h
      refine kg_iinc 1 dX10_goesOn_112 rfl (Nat.le_of_ble_eq_true rfl) x9e (lv2 := [(1, .int x9), (0, .ref 0)]) rfl (pc2 := 115) rfl ?_
      refine kg_goto 25 dX10_goesOn_115 rfl ?_
      refine kg_sub [1, 0] (lv2 := [(0, .ref 0), (1, .int x9)]) rfl ?_
      cases h
      exact hk
    · replace h := (if_neg q8).symm.trans h
      refine kg_aload_n 0 dX10_goesOn_43 rfl (pc2 := 44) rfl ?_
      refine kg_getr clX10 rfl 2 (Nat.le_of_ble_eq_true rfl) lfRX10_13 tM_0 eM_0 rfl dX10_goesOn_44 (pc2 := 47) rfl ?_
      refine kg_aload_n 0 dX10_goesOn_47 rfl (pc2 := 48) rfl ?_
      refine kg_iload_n 1 dX10_goesOn_48 rfl (pc2 := 49) rfl ?_
      refine kg_iconst dX10_goesOn_49 ki_0 (pc2 := 50) rfl ?_
      obtain ⟨r10, r10h, h⟩ := kw_bind_e h
      refine kg_callV (μ := μX10_goesOn) (d := (d + 1)) rfl mVX10_of [.int v1, .int (0 : Int32)] [.ref 2] (gX10_of (E := E) (d := (d + 1)) v1 (0 : Int32) σ r10h) rfl lmRX10_73 (ci := 10) rfl tM_0 eM_0 rfl (Nat.le_of_ble_eq_true rfl) dX10_goesOn_50 rfl (st2 := [.int r10, .ref 2]) rfl (pc2 := 53) rfl ?_
      obtain ⟨q11, h⟩ := kw_chk_e h
      refine kg_lald tM_2 eM_2 q11 (j := r10.toNatClampNeg) rfl dX10_goesOn_53 (pc2 := 54) rfl ?_
      refine kg_ldc2 rfl lcRX10_89 dX10_goesOn_54 (pc2 := 57) rfl ?_
      refine kg_lcmp_ne 64 dX10_goesOn_57 dX10_goesOn_58 rfl (pc2 := 61) rfl (fun q12 => ?_) (fun q12 => ?_)
      · replace h := (if_neg q12).symm.trans h
        refine kg_aload_n 0 dX10_goesOn_64 rfl (pc2 := 65) rfl ?_
        refine kg_getr clX10 rfl 2 (Nat.le_of_ble_eq_true rfl) lfRX10_13 tM_0 eM_0 rfl dX10_goesOn_65 (pc2 := 68) rfl ?_
        refine kg_aload_n 0 dX10_goesOn_68 rfl (pc2 := 69) rfl ?_
        refine kg_iload_n 1 dX10_goesOn_69 rfl (pc2 := 70) rfl ?_
        refine kg_iconst dX10_goesOn_70 ki_0 (pc2 := 71) rfl ?_
        obtain ⟨r13, r13h, h⟩ := kw_bind_e h
        refine kg_callV (μ := μX10_goesOn) (d := (d + 1)) rfl mVX10_of [.int v1, .int (0 : Int32)] [.ref 2] (gX10_of (E := E) (d := (d + 1)) v1 (0 : Int32) σ r13h) rfl lmRX10_73 (ci := 10) rfl tM_0 eM_0 rfl (Nat.le_of_ble_eq_true rfl) dX10_goesOn_71 rfl (st2 := [.int r13, .ref 2]) rfl (pc2 := 74) rfl ?_
        obtain ⟨q14, h⟩ := kw_chk_e h
        refine kg_lald tM_2 eM_2 q14 (j := r13.toNatClampNeg) rfl dX10_goesOn_74 (pc2 := 75) rfl ?_
        refine kg_aload_n 0 dX10_goesOn_75 rfl (pc2 := 76) rfl ?_
        refine kg_iload_n 1 dX10_goesOn_76 rfl (pc2 := 77) rfl ?_
        refine kg_iconst dX10_goesOn_77 ki_2 (pc2 := 78) rfl ?_
        obtain ⟨r15, r15h, h⟩ := kw_bind_e h
        refine kg_callV (μ := μX10_goesOn) (d := (d + 1)) rfl mVX10_of [.int v1, .int (2 : Int32)] [.long (σ.2 2 r13.toNatClampNeg)] (gX10_of (E := E) (d := (d + 1)) v1 (2 : Int32) σ r15h) rfl lmRX10_73 (ci := 10) rfl tM_0 eM_0 rfl (Nat.le_of_ble_eq_true rfl) dX10_goesOn_78 rfl (st2 := [.int r15, .long (σ.2 2 r13.toNatClampNeg)]) rfl (pc2 := 81) rfl ?_
        refine kg_i2l dX10_goesOn_81 (pc2 := 82) rfl ?_
        refine kg_ladd dX10_goesOn_82 (pc2 := 83) rfl ?_
        obtain ⟨x16, x16e, h⟩ := kw_let_e h
        refine kg_lstore_n dX10_goesOn_83 rfl (Nat.le_of_ble_eq_true rfl) x16e (lv2 := [(2, .long x16), (0, .ref 0), (1, .int v1)]) rfl (pc2 := 84) rfl ?_
        refine kg_lload_n 0 dX10_goesOn_84 rfl (pc2 := 85) rfl ?_
        refine kg_aload_n 1 dX10_goesOn_85 rfl (pc2 := 86) rfl ?_
        refine kg_getr clX10 rfl 28 (Nat.le_of_ble_eq_true rfl) lfRX10_64 tM_0 eM_0 rfl dX10_goesOn_86 (pc2 := 89) rfl ?_
        refine kg_aload_n 1 dX10_goesOn_89 rfl (pc2 := 90) rfl ?_
        refine kg_iload_n 2 dX10_goesOn_90 rfl (pc2 := 91) rfl ?_
        refine kg_iconst dX10_goesOn_91 ki_1 (pc2 := 92) rfl ?_
        obtain ⟨r17, r17h, h⟩ := kw_bind_e h
        refine kg_callV (μ := μX10_goesOn) (d := (d + 1)) rfl mVX10_of [.int v1, .int (1 : Int32)] [.ref 18, .long x16] (gX10_of (E := E) (d := (d + 1)) v1 (1 : Int32) σ r17h) rfl lmRX10_73 (ci := 10) rfl tM_0 eM_0 rfl (Nat.le_of_ble_eq_true rfl) dX10_goesOn_92 rfl (st2 := [.int r17, .ref 18, .long x16]) rfl (pc2 := 95) rfl ?_
        obtain ⟨q18, h⟩ := kw_chk_e h
        refine kg_lald tM_18 eM_18 q18 (j := r17.toNatClampNeg) rfl dX10_goesOn_95 (pc2 := 96) rfl ?_
        refine kg_lcmp_ge 112 dX10_goesOn_96 dX10_goesOn_97 rfl (pc2 := 100) rfl (fun q19 => ?_) (fun q19 => ?_)
        · replace h := (if_pos q19).symm.trans h
          obtain ⟨x20, x20e, h⟩ := kw_let_e h
          refine kg_iinc 2 dX10_goesOn_112 rfl (Nat.le_of_ble_eq_true rfl) x20e (lv2 := [(1, .int x20), (2, .long x16), (0, .ref 0)]) rfl (pc2 := 115) rfl ?_
          refine kg_goto 25 dX10_goesOn_115 rfl ?_
          refine kg_sub [2, 0] (lv2 := [(0, .ref 0), (1, .int x20)]) rfl ?_
          cases h
          exact hk
        · replace h := (if_neg q19).symm.trans h
          refine kg_aload_n 1 dX10_goesOn_100 rfl (pc2 := 101) rfl ?_
          refine kg_getr clX10 rfl 28 (Nat.le_of_ble_eq_true rfl) lfRX10_64 tM_0 eM_0 rfl dX10_goesOn_101 (pc2 := 104) rfl ?_
          refine kg_aload_n 1 dX10_goesOn_104 rfl (pc2 := 105) rfl ?_
          refine kg_iload_n 2 dX10_goesOn_105 rfl (pc2 := 106) rfl ?_
          refine kg_iconst dX10_goesOn_106 ki_1 (pc2 := 107) rfl ?_
          obtain ⟨r21, r21h, h⟩ := kw_bind_e h
          refine kg_callV (μ := μX10_goesOn) (d := (d + 1)) rfl mVX10_of [.int v1, .int (1 : Int32)] [.ref 18] (gX10_of (E := E) (d := (d + 1)) v1 (1 : Int32) σ r21h) rfl lmRX10_73 (ci := 10) rfl tM_0 eM_0 rfl (Nat.le_of_ble_eq_true rfl) dX10_goesOn_107 rfl (st2 := [.int r21, .ref 18]) rfl (pc2 := 110) rfl ?_
          refine kg_lload_n 0 dX10_goesOn_110 rfl (pc2 := 111) rfl ?_
          obtain ⟨q22, h⟩ := kw_chk_e h
          obtain ⟨s23, s23e, h⟩ := kw_let_e h
          refine kg_last tM_18 eM_18 q22 (j := r21.toNatClampNeg) rfl s23e dX10_goesOn_111 (pc2 := 112) rfl ?_
          obtain ⟨x24, x24e, h⟩ := kw_let_e h
          refine kg_iinc 2 dX10_goesOn_112 rfl (Nat.le_of_ble_eq_true rfl) x24e (lv2 := [(1, .int x24), (2, .long x16), (0, .ref 0)]) rfl (pc2 := 115) rfl ?_
          refine kg_goto 25 dX10_goesOn_115 rfl ?_
          refine kg_sub [2, 0] (lv2 := [(0, .ref 0), (1, .int x24)]) rfl ?_
          cases h
          exact hk
      · replace h := (if_pos q12).symm.trans h
        refine kg_goto 112 dX10_goesOn_61 rfl ?_
        obtain ⟨x25, x25e, h⟩ := kw_let_e h
        refine kg_iinc 1 dX10_goesOn_112 rfl (Nat.le_of_ble_eq_true rfl) x25e (lv2 := [(1, .int x25), (0, .ref 0)]) rfl (pc2 := 115) rfl ?_
        refine kg_goto 25 dX10_goesOn_115 rfl ?_
        refine kg_sub [1, 0] (lv2 := [(0, .ref 0), (1, .int x25)]) rfl ?_
        cases h
        exact hk
set_option maxHeartbeats 4000000 in
set_option maxRecDepth 100000 in
theorem lX10_goesOn_120 {E : kw_E} {d : Nat} (v1 : Int32) (σ : kw_M) {v : Option Value} {σ2 : kw_M} {o : (Int32 × kw_M) ⊕ (kw_M)} (h : bX10_goesOn_120 v1 σ = some o) (hk : Sum.elim (fun s => kw_G E kwTM 21 (d + 2) μX10_goesOn 120 [(0, .ref 0), (1, .int s.1)] [] s.2 v σ2) (fun y => kw_G E kwTM 21 (d + 2) μX10_goesOn 144 [] [] y v σ2) o) : kw_G E kwTM 21 (d + 2) μX10_goesOn 120 [(0, .ref 0), (1, .int v1)] [] σ v σ2 := by
  unfold bX10_goesOn_120 at h
  refine kg_iload_n 1 dX10_goesOn_120 rfl (pc2 := 121) rfl ?_
  refine kg_bipush dX10_goesOn_121 kb_12 (pc2 := 123) rfl ?_
  refine kg_icmp_ge 144 dX10_goesOn_123 rfl (pc2 := 126) rfl (fun q27 => ?_) (fun q27 => ?_)
  · replace h := (if_pos q27).symm.trans h
    refine kg_sub [] (lv2 := []) rfl ?_
    cases h
    exact hk
  · replace h := (if_neg q27).symm.trans h
    refine kg_aload_n 0 dX10_goesOn_126 rfl (pc2 := 127) rfl ?_
    refine kg_getr clX10 rfl 2 (Nat.le_of_ble_eq_true rfl) lfRX10_13 tM_0 eM_0 rfl dX10_goesOn_127 (pc2 := 130) rfl ?_
    refine kg_iload_n 1 dX10_goesOn_130 rfl (pc2 := 131) rfl ?_
    refine kg_aload_n 0 dX10_goesOn_131 rfl (pc2 := 132) rfl ?_
    refine kg_getr clX10 rfl 28 (Nat.le_of_ble_eq_true rfl) lfRX10_64 tM_0 eM_0 rfl dX10_goesOn_132 (pc2 := 135) rfl ?_
    refine kg_iload_n 1 dX10_goesOn_135 rfl (pc2 := 136) rfl ?_
    obtain ⟨q28, h⟩ := kw_chk_e h
    refine kg_lald tM_18 eM_18 q28 (j := v1.toNatClampNeg) rfl dX10_goesOn_136 (pc2 := 137) rfl ?_
    obtain ⟨s29, s29e, h⟩ := kw_let_e h
    refine kg_last tM_2 eM_2 q28 (j := v1.toNatClampNeg) rfl s29e dX10_goesOn_137 (pc2 := 138) rfl ?_
    obtain ⟨x30, x30e, h⟩ := kw_let_e h
    refine kg_iinc 1 dX10_goesOn_138 rfl (Nat.le_of_ble_eq_true rfl) x30e (lv2 := [(1, .int x30), (0, .ref 0)]) rfl (pc2 := 141) rfl ?_
    refine kg_goto 120 dX10_goesOn_141 rfl ?_
    refine kg_sub [1, 0] (lv2 := [(0, .ref 0), (1, .int x30)]) rfl ?_
    cases h
    exact hk
set_option maxHeartbeats 4000000 in
set_option maxRecDepth 100000 in
theorem gX10_goesOn {E : kw_E} {d : Nat} (σ : kw_M) {r : kw_M} (h : fX10_goesOn σ = some r) : kw_Met E kwTM 21 (d + 2) μX10_goesOn [.ref 0] σ none r := by
  refine kw_enter plRX10 (Nat.le_of_ble_eq_true rfl) ?_
  show kw_G E kwTM 21 (d + 2) μX10_goesOn 0 [(0, .ref 0)] [] σ none r
  unfold fX10_goesOn at h
  refine kg_iconst dX10_goesOn_0 ki_0 (pc2 := 1) rfl ?_
  refine kg_istore_n dX10_goesOn_1 rfl (Nat.le_of_ble_eq_true rfl) rfl (lv2 := [(1, .int (0 : Int32)), (0, .ref 0)]) rfl (pc2 := 2) rfl ?_
  refine kg_sub [1, 0] (lv2 := [(0, .ref 0), (1, .int (0 : Int32))]) rfl ?_
  obtain ⟨x5, x5h, h⟩ := kw_bind_e h
  refine kw_loop_e (P := fun s => kw_G E kwTM 21 (d + 2) μX10_goesOn 2 [(0, .ref 0), (1, .int s.1)] [] s.2 none r) (K := fun y => kw_G E kwTM 21 (d + 2) μX10_goesOn 23 [(0, .ref 0)] [] y none r) (fun s o h0 hk => lX10_goesOn_2 s.1 s.2 h0 hk) kw_F _ _ x5h ?_
  show kw_G E kwTM 21 (d + 2) μX10_goesOn 23 [(0, .ref 0)] [] x5 none r
  refine kg_iconst dX10_goesOn_23 ki_0 (pc2 := 24) rfl ?_
  refine kg_istore_n dX10_goesOn_24 rfl (Nat.le_of_ble_eq_true rfl) rfl (lv2 := [(1, .int (0 : Int32)), (0, .ref 0)]) rfl (pc2 := 25) rfl ?_
  refine kg_sub [1, 0] (lv2 := [(0, .ref 0), (1, .int (0 : Int32))]) rfl ?_
  obtain ⟨x26, x26h, h⟩ := kw_bind_e h
  refine kw_loop_e (P := fun s => kw_G E kwTM 21 (d + 2) μX10_goesOn 25 [(0, .ref 0), (1, .int s.1)] [] s.2 none r) (K := fun y => kw_G E kwTM 21 (d + 2) μX10_goesOn 118 [(0, .ref 0)] [] y none r) (fun s o h0 hk => lX10_goesOn_25 s.1 s.2 h0 hk) kw_F _ _ x26h ?_
  show kw_G E kwTM 21 (d + 2) μX10_goesOn 118 [(0, .ref 0)] [] x26 none r
  refine kg_iconst dX10_goesOn_118 ki_0 (pc2 := 119) rfl ?_
  refine kg_istore_n dX10_goesOn_119 rfl (Nat.le_of_ble_eq_true rfl) rfl (lv2 := [(1, .int (0 : Int32)), (0, .ref 0)]) rfl (pc2 := 120) rfl ?_
  refine kg_sub [1, 0] (lv2 := [(0, .ref 0), (1, .int (0 : Int32))]) rfl ?_
  obtain ⟨x31, x31h, h⟩ := kw_bind_e h
  refine kw_loop_e (P := fun s => kw_G E kwTM 21 (d + 2) μX10_goesOn 120 [(0, .ref 0), (1, .int s.1)] [] s.2 none r) (K := fun y => kw_G E kwTM 21 (d + 2) μX10_goesOn 144 [] [] y none r) (fun s o h0 hk => lX10_goesOn_120 s.1 s.2 h0 hk) kw_F _ _ x31h ?_
  show kw_G E kwTM 21 (d + 2) μX10_goesOn 144 [] [] x31 none r
  cases h
  exact kg_vret dX10_goesOn_144 rfl
set_option maxHeartbeats 4000000 in
set_option maxRecDepth 100000 in
theorem lX10_stands_2 {E : kw_E} {d : Nat} (v1 : Int32) (v2 : Int32) (σ : kw_M) {v : Option Value} {σ2 : kw_M} {o : (Int32 × kw_M) ⊕ (kw_M)} (h : bX10_stands_2 v1 v2 σ = some o) (hk : Sum.elim (fun s => kw_G E kwTM 21 d μX10_stands 2 [(0, .ref 0), (1, .int v1), (2, .int s.1)] [] s.2 v σ2) (fun y => kw_G E kwTM 21 d μX10_stands 32 [] [] y v σ2) o) : kw_G E kwTM 21 d μX10_stands 2 [(0, .ref 0), (1, .int v1), (2, .int v2)] [] σ v σ2 := by
  unfold bX10_stands_2 at h
  refine kg_iload_n 2 dX10_stands_2 rfl (pc2 := 3) rfl ?_
  refine kg_bipush dX10_stands_3 kb_12 (pc2 := 5) rfl ?_
  refine kg_icmp_ge 32 dX10_stands_5 rfl (pc2 := 8) rfl (fun q1 => ?_) (fun q1 => ?_)
  · replace h := (if_pos q1).symm.trans h
    refine kg_sub [] (lv2 := []) rfl ?_
    cases h
    exact hk
  · replace h := (if_neg q1).symm.trans h
    refine kg_aload_n 0 dX10_stands_8 rfl (pc2 := 9) rfl ?_
    refine kg_getr clX10 rfl 2 (Nat.le_of_ble_eq_true rfl) lfRX10_13 tM_0 eM_0 rfl dX10_stands_9 (pc2 := 12) rfl ?_
    refine kg_iload_n 2 dX10_stands_12 rfl (pc2 := 13) rfl ?_
    refine kg_iload_n 2 dX10_stands_13 rfl (pc2 := 14) rfl ?_
    refine kg_iload_n 1 dX10_stands_14 rfl (pc2 := 15) rfl ?_
    refine kg_icmp_ne 22 dX10_stands_15 rfl (pc2 := 18) rfl (fun q2 => ?_) (fun q2 => ?_)
    · replace h := (if_neg q2).symm.trans h
      refine kg_ldc2 rfl lcRX10_89 dX10_stands_22 (pc2 := 25) rfl ?_
      obtain ⟨q3, h⟩ := kw_chk_e h
      obtain ⟨s4, s4e, h⟩ := kw_let_e h
      refine kg_last tM_2 eM_2 q3 (j := v2.toNatClampNeg) rfl s4e dX10_stands_25 (pc2 := 26) rfl ?_
      obtain ⟨x5, x5e, h⟩ := kw_let_e h
      refine kg_iinc 2 dX10_stands_26 rfl (Nat.le_of_ble_eq_true rfl) x5e (lv2 := [(2, .int x5), (0, .ref 0), (1, .int v1)]) rfl (pc2 := 29) rfl ?_
      refine kg_goto 2 dX10_stands_29 rfl ?_
      refine kg_sub [1, 2, 0] (lv2 := [(0, .ref 0), (1, .int v1), (2, .int x5)]) rfl ?_
      cases h
      exact hk
    · replace h := (if_pos q2).symm.trans h
      refine kg_lconst dX10_stands_18 kl_0 (pc2 := 19) rfl ?_
      refine kg_goto 25 dX10_stands_19 rfl ?_
      obtain ⟨q6, h⟩ := kw_chk_e h
      obtain ⟨s7, s7e, h⟩ := kw_let_e h
      refine kg_last tM_2 eM_2 q6 (j := v2.toNatClampNeg) rfl s7e dX10_stands_25 (pc2 := 26) rfl ?_
      obtain ⟨x8, x8e, h⟩ := kw_let_e h
      refine kg_iinc 2 dX10_stands_26 rfl (Nat.le_of_ble_eq_true rfl) x8e (lv2 := [(2, .int x8), (0, .ref 0), (1, .int v1)]) rfl (pc2 := 29) rfl ?_
      refine kg_goto 2 dX10_stands_29 rfl ?_
      refine kg_sub [1, 2, 0] (lv2 := [(0, .ref 0), (1, .int v1), (2, .int x8)]) rfl ?_
      cases h
      exact hk
set_option maxHeartbeats 4000000 in
set_option maxRecDepth 100000 in
theorem gX10_stands {E : kw_E} {d : Nat} (a1 : Int32) (σ : kw_M) {r : kw_M} (h : fX10_stands a1 σ = some r) : kw_Met E kwTM 21 d μX10_stands [.ref 0, .int a1] σ none r := by
  refine kw_enter plRX10 (Nat.le_of_ble_eq_true rfl) ?_
  show kw_G E kwTM 21 d μX10_stands 0 [(0, .ref 0), (1, .int a1)] [] σ none r
  unfold fX10_stands at h
  refine kg_iconst dX10_stands_0 ki_0 (pc2 := 1) rfl ?_
  refine kg_istore_n dX10_stands_1 rfl (Nat.le_of_ble_eq_true rfl) rfl (lv2 := [(2, .int (0 : Int32)), (0, .ref 0), (1, .int a1)]) rfl (pc2 := 2) rfl ?_
  refine kg_sub [1, 2, 0] (lv2 := [(0, .ref 0), (1, .int a1), (2, .int (0 : Int32))]) rfl ?_
  obtain ⟨x9, x9h, h⟩ := kw_bind_e h
  refine kw_loop_e (P := fun s => kw_G E kwTM 21 d μX10_stands 2 [(0, .ref 0), (1, .int a1), (2, .int s.1)] [] s.2 none r) (K := fun y => kw_G E kwTM 21 d μX10_stands 32 [] [] y none r) (fun s o h0 hk => lX10_stands_2 a1 s.1 s.2 h0 hk) kw_F _ _ x9h ?_
  show kw_G E kwTM 21 d μX10_stands 32 [] [] x9 none r
  cases h
  exact kg_vret dX10_stands_32 rfl
set_option maxHeartbeats 4000000 in
set_option maxRecDepth 100000 in
theorem lX10_hops_44 {E : kw_E} {d : Nat} (v1 : Int32) (v2 : Int32) (v3 : Int64) (v5 : Int32) (σ : kw_M) {v : Option Value} {σ2 : kw_M} {o : (Int64 × Int32 × kw_M) ⊕ (Int64 × kw_M)} (h : bX10_hops_44 v1 v2 v3 v5 σ = some o) (hk : Sum.elim (fun s => kw_G E kwTM 21 (d + 3) μX10_hops 44 [(0, .ref 0), (1, .int v1), (2, .int v2), (3, .long s.1), (5, .int s.2.1)] [] s.2.2 v σ2) (fun y => kw_G E kwTM 21 (d + 3) μX10_hops 78 [(3, .long y.1)] [] y.2 v σ2) o) : kw_G E kwTM 21 (d + 3) μX10_hops 44 [(0, .ref 0), (1, .int v1), (2, .int v2), (3, .long v3), (5, .int v5)] [] σ v σ2 := by
  unfold bX10_hops_44 at h
  refine kg_iload 4 dX10_hops_44 rfl (pc2 := 46) rfl ?_
  refine kg_iload_n 2 dX10_hops_46 rfl (pc2 := 47) rfl ?_
  refine kg_icmp_ge 78 dX10_hops_47 rfl (pc2 := 50) rfl (fun q8 => ?_) (fun q8 => ?_)
  · replace h := (if_pos q8).symm.trans h
    refine kg_sub [3] (lv2 := [(3, .long v3)]) rfl ?_
    cases h
    exact hk
  · replace h := (if_neg q8).symm.trans h
    refine kg_aload_n 0 dX10_hops_50 rfl (pc2 := 51) rfl ?_
    obtain ⟨r9, r9h, h⟩ := kw_bind_e h
    refine kg_callV (μ := μX10_hops) (d := (d + 2)) rfl mVX10_goesOn [] [] (gX10_goesOn (E := E) (d := d) σ r9h) rfl lmRX10_400 (ci := 10) rfl tM_0 eM_0 rfl (Nat.le_of_ble_eq_true rfl) dX10_hops_51 rfl (st2 := []) rfl (pc2 := 54) rfl ?_
    refine kg_aload_n 0 dX10_hops_54 rfl (pc2 := 55) rfl ?_
    refine kg_getr clX10 rfl 2 (Nat.le_of_ble_eq_true rfl) lfRX10_13 tM_0 eM_0 rfl dX10_hops_55 (pc2 := 58) rfl ?_
    refine kg_iload_n 1 dX10_hops_58 rfl (pc2 := 59) rfl ?_
    obtain ⟨q10, h⟩ := kw_chk_e h
    refine kg_lald tM_2 eM_2 q10 (j := v1.toNatClampNeg) rfl dX10_hops_59 (pc2 := 60) rfl ?_
    refine kg_lload_n 3 dX10_hops_60 rfl (pc2 := 61) rfl ?_
    refine kg_lcmp_ge 72 dX10_hops_61 dX10_hops_62 rfl (pc2 := 65) rfl (fun q11 => ?_) (fun q11 => ?_)
    · replace h := (if_pos q11).symm.trans h
      obtain ⟨x12, x12e, h⟩ := kw_let_e h
      refine kg_iinc 4 dX10_hops_72 rfl (Nat.le_of_ble_eq_true rfl) x12e (lv2 := [(5, .int x12), (0, .ref 0), (1, .int v1), (2, .int v2), (3, .long v3)]) rfl (pc2 := 75) rfl ?_
      refine kg_goto 44 dX10_hops_75 rfl ?_
      refine kg_sub [1, 2, 3, 4, 0] (lv2 := [(0, .ref 0), (1, .int v1), (2, .int v2), (3, .long v3), (5, .int x12)]) rfl ?_
      cases h
      exact hk
    · replace h := (if_neg q11).symm.trans h
      refine kg_aload_n 0 dX10_hops_65 rfl (pc2 := 66) rfl ?_
      refine kg_getr clX10 rfl 2 (Nat.le_of_ble_eq_true rfl) lfRX10_13 tM_0 eM_0 rfl dX10_hops_66 (pc2 := 69) rfl ?_
      refine kg_iload_n 1 dX10_hops_69 rfl (pc2 := 70) rfl ?_
      refine kg_lald tM_2 eM_2 q10 (j := v1.toNatClampNeg) rfl dX10_hops_70 (pc2 := 71) rfl ?_
      obtain ⟨x13, x13e, h⟩ := kw_let_e h
      refine kg_lstore_n dX10_hops_71 rfl (Nat.le_of_ble_eq_true rfl) x13e (lv2 := [(3, .long x13), (0, .ref 0), (1, .int v1), (2, .int v2), (5, .int v5)]) rfl (pc2 := 72) rfl ?_
      obtain ⟨x14, x14e, h⟩ := kw_let_e h
      refine kg_iinc 4 dX10_hops_72 rfl (Nat.le_of_ble_eq_true rfl) x14e (lv2 := [(5, .int x14), (3, .long x13), (0, .ref 0), (1, .int v1), (2, .int v2)]) rfl (pc2 := 75) rfl ?_
      refine kg_goto 44 dX10_hops_75 rfl ?_
      refine kg_sub [2, 3, 4, 1, 0] (lv2 := [(0, .ref 0), (1, .int v1), (2, .int v2), (3, .long x13), (5, .int x14)]) rfl ?_
      cases h
      exact hk
set_option maxHeartbeats 4000000 in
set_option maxRecDepth 100000 in
theorem gX10_hops {E : kw_E} {d : Nat} (a1 : Int32) (a2 : Int32) (σ : kw_M) {r : Int64 × kw_M} (h : fX10_hops a1 a2 σ = some r) : kw_Met E kwTM 21 (d + 3) μX10_hops [.ref 0, .int a1, .int a2] σ (some (Value.long r.1)) r.2 := by
  refine kw_enter plRX10 (Nat.le_of_ble_eq_true rfl) ?_
  show kw_G E kwTM 21 (d + 3) μX10_hops 0 [(0, .ref 0), (1, .int a1), (2, .int a2)] [] σ (some (Value.long r.1)) r.2
  unfold fX10_hops at h
  refine kg_aload_n 0 dX10_hops_0 rfl (pc2 := 1) rfl ?_
  refine kg_iload_n 1 dX10_hops_1 rfl (pc2 := 2) rfl ?_
  obtain ⟨r1, r1h, h⟩ := kw_bind_e h
  refine kg_callV (μ := μX10_hops) (d := (d + 2)) rfl mVX10_isTown [.int a1] [] (gX10_isTown (E := E) (d := (d + 1)) a1 σ r1h) rfl lmRX10_121 (ci := 10) rfl tM_0 eM_0 rfl (Nat.le_of_ble_eq_true rfl) dX10_hops_2 rfl (st2 := [.int r1]) rfl (pc2 := 5) rfl ?_
  refine kg_if_eq 20 dX10_hops_5 rfl (pc2 := 8) rfl (fun q2 => ?_) (fun q2 => ?_)
  · replace h := (if_pos q2).symm.trans h
    refine kg_ldc2 rfl lcRX10_99 dX10_hops_20 (pc2 := 23) rfl ?_
    cases h
    exact kg_lret dX10_hops_23 rfl
  · replace h := (if_neg q2).symm.trans h
    refine kg_iload_n 2 dX10_hops_8 rfl (pc2 := 9) rfl ?_
    refine kg_i2l dX10_hops_9 (pc2 := 10) rfl ?_
    refine kg_lconst dX10_hops_10 kl_0 (pc2 := 11) rfl ?_
    refine kg_ldc2 rfl lcRX10_395 dX10_hops_11 (pc2 := 14) rfl ?_
    obtain ⟨r3, r3h, h⟩ := kw_bind_e h
    refine kg_callS (μ := μX10_hops) (d := (d + 2)) rfl mSX10_in [.long a2.toInt64, .long (0 : Int64), .long (36 : Int64)] [] (gX10_in (E := E) (d := (d + 2)) a2.toInt64 (0 : Int64) (36 : Int64) σ r3h) rfl lmRX10_81 rfl (Nat.le_of_ble_eq_true rfl) dX10_hops_14 rfl (st2 := [.int r3]) rfl (pc2 := 17) rfl ?_
    refine kg_if_ne 24 dX10_hops_17 rfl (pc2 := 20) rfl (fun q4 => ?_) (fun q4 => ?_)
    · replace h := (if_neg q4).symm.trans h
      refine kg_aload_n 0 dX10_hops_24 rfl (pc2 := 25) rfl ?_
      refine kg_aload_n 0 dX10_hops_25 rfl (pc2 := 26) rfl ?_
      refine kg_getr clX10 rfl 0 (Nat.le_of_ble_eq_true rfl) lfRX10_7 tM_0 eM_0 rfl dX10_hops_26 (pc2 := 29) rfl ?_
      refine kg_iconst dX10_hops_29 ki_2 (pc2 := 30) rfl ?_
      refine kg_iald tM_1 eM_1 (show kw_in (2 : Int32) 2832 by decide) (j := 2) (by decide) dX10_hops_30 (pc2 := 31) rfl ?_
      obtain ⟨r5, r5h, h⟩ := kw_bind_e h
      refine kg_callV (μ := μX10_hops) (d := (d + 2)) rfl mVX10_stands [.int (σ.1 1 2)] [] (gX10_stands (E := E) (d := (d + 2)) (σ.1 1 2) σ r5h) rfl lmRX10_397 (ci := 10) rfl tM_0 eM_0 rfl (Nat.le_of_ble_eq_true rfl) dX10_hops_31 rfl (st2 := []) rfl (pc2 := 34) rfl ?_
      refine kg_aload_n 0 dX10_hops_34 rfl (pc2 := 35) rfl ?_
      refine kg_getr clX10 rfl 2 (Nat.le_of_ble_eq_true rfl) lfRX10_13 tM_0 eM_0 rfl dX10_hops_35 (pc2 := 38) rfl ?_
      refine kg_iload_n 1 dX10_hops_38 rfl (pc2 := 39) rfl ?_
      obtain ⟨q6, h⟩ := kw_chk_e h
      refine kg_lald tM_2 eM_2 q6 (j := a1.toNatClampNeg) rfl dX10_hops_39 (pc2 := 40) rfl ?_
      obtain ⟨x7, x7e, h⟩ := kw_let_e h
      refine kg_lstore_n dX10_hops_40 rfl (Nat.le_of_ble_eq_true rfl) x7e (lv2 := [(3, .long x7), (0, .ref 0), (1, .int a1), (2, .int a2)]) rfl (pc2 := 41) rfl ?_
      refine kg_iconst dX10_hops_41 ki_0 (pc2 := 42) rfl ?_
      refine kg_istore dX10_hops_42 (Nat.le_of_ble_eq_true rfl) rfl (lv2 := [(5, .int (0 : Int32)), (3, .long x7), (0, .ref 0), (1, .int a1), (2, .int a2)]) rfl (pc2 := 44) rfl ?_
      refine kg_sub [2, 3, 4, 1, 0] (lv2 := [(0, .ref 0), (1, .int a1), (2, .int a2), (3, .long x7), (5, .int (0 : Int32))]) rfl ?_
      obtain ⟨x15, x15h, h⟩ := kw_bind_e h
      refine kw_loop_e (P := fun s => kw_G E kwTM 21 (d + 3) μX10_hops 44 [(0, .ref 0), (1, .int a1), (2, .int a2), (3, .long s.1), (5, .int s.2.1)] [] s.2.2 (some (Value.long r.1)) r.2) (K := fun y => kw_G E kwTM 21 (d + 3) μX10_hops 78 [(3, .long y.1)] [] y.2 (some (Value.long r.1)) r.2) (fun s o h0 hk => lX10_hops_44 a1 a2 s.1 s.2.1 s.2.2 h0 hk) kw_F _ _ x15h ?_
      show kw_G E kwTM 21 (d + 3) μX10_hops 78 [(3, .long x15.1)] [] x15.2 (some (Value.long r.1)) r.2
      refine kg_lload_n 0 dX10_hops_78 rfl (pc2 := 79) rfl ?_
      obtain ⟨r16, r16h, h⟩ := kw_bind_e h
      refine kg_callS (μ := μX10_hops) (d := (d + 2)) rfl mSX10_told [.long x15.1] [] (gX10_told (E := E) (d := (d + 2)) x15.1 x15.2 r16h) rfl lmRX10_336 rfl (Nat.le_of_ble_eq_true rfl) dX10_hops_79 rfl (st2 := [.long r16]) rfl (pc2 := 82) rfl ?_
      cases h
      exact kg_lret dX10_hops_82 rfl
    · replace h := (if_pos q4).symm.trans h
      refine kg_ldc2 rfl lcRX10_99 dX10_hops_20 (pc2 := 23) rfl ?_
      cases h
      exact kg_lret dX10_hops_23 rfl
set_option maxHeartbeats 4000000 in
set_option maxRecDepth 100000 in
theorem lX10_common_6 {E : kw_E} {d : Nat} (σ : kw_M) (v4 : Int64) (v6 : Int64) {v : Option Value} {σ2 : kw_M} {o : (Int64 × Int64) ⊕ (Int64)} (h : bX10_common_6 σ v4 v6 = some o) (hk : Sum.elim (fun s => kw_G E kwTM 21 d μX10_common 6 [(4, .long s.1), (6, .long s.2)] [] σ v σ2) (fun y => kw_G E kwTM 21 d μX10_common 31 [(4, .long y)] [] σ v σ2) o) : kw_G E kwTM 21 d μX10_common 6 [(4, .long v4), (6, .long v6)] [] σ v σ2 := by
  unfold bX10_common_6 at h
  refine kg_lload 1 dX10_common_6 rfl (pc2 := 8) rfl ?_
  refine kg_lconst dX10_common_8 kl_0 (pc2 := 9) rfl ?_
  refine kg_lcmp_eq 31 dX10_common_9 dX10_common_10 rfl (pc2 := 13) rfl (fun q1 => ?_) (fun q1 => ?_)
  · replace h := (if_pos q1).symm.trans h
    refine kg_sub [0] (lv2 := [(4, .long v4)]) rfl ?_
    cases h
    exact hk
  · replace h := (if_neg q1).symm.trans h
    refine kg_lload 0 dX10_common_13 rfl (pc2 := 15) rfl ?_
    refine kg_lload 1 dX10_common_15 rfl (pc2 := 17) rfl ?_
    obtain ⟨q2, h⟩ := kw_chk_e h
    refine kg_lrem dX10_common_17 q2 (pc2 := 18) rfl ?_
    obtain ⟨x3, x3e, h⟩ := kw_let_e h
    refine kg_lstore dX10_common_18 (Nat.le_of_ble_eq_true rfl) x3e (lv2 := [(8, .long x3), (4, .long v4), (6, .long v6)]) rfl (pc2 := 20) rfl ?_
    refine kg_lload 2 dX10_common_20 rfl (pc2 := 22) rfl ?_
    refine kg_lstore dX10_common_22 (Nat.le_of_ble_eq_true rfl) rfl (lv2 := [(4, .long v6), (8, .long x3), (6, .long v6)]) rfl (pc2 := 24) rfl ?_
    refine kg_lload 1 dX10_common_24 rfl (pc2 := 26) rfl ?_
    refine kg_lstore dX10_common_26 (Nat.le_of_ble_eq_true rfl) rfl (lv2 := [(6, .long x3), (4, .long v6), (8, .long x3)]) rfl (pc2 := 28) rfl ?_
    refine kg_goto 6 dX10_common_28 rfl ?_
    refine kg_sub [1, 0] (lv2 := [(4, .long v6), (6, .long x3)]) rfl ?_
    cases h
    exact hk
set_option maxHeartbeats 4000000 in
set_option maxRecDepth 100000 in
theorem gX10_common {E : kw_E} {d : Nat} (a0 : Int64) (a1 : Int64) (σ : kw_M) {r : Int64} (h : fX10_common a0 a1 σ = some r) : kw_Met E kwTM 21 d μX10_common [.long a0, .long a1] σ (some (Value.long r)) σ := by
  refine kw_enter plRX10 (Nat.le_of_ble_eq_true rfl) ?_
  show kw_G E kwTM 21 d μX10_common 0 [(0, .long a0), (2, .long a1)] [] σ (some (Value.long r)) σ
  unfold fX10_common at h
  refine kg_lload_n 0 dX10_common_0 rfl (pc2 := 1) rfl ?_
  refine kg_lstore dX10_common_1 (Nat.le_of_ble_eq_true rfl) rfl (lv2 := [(4, .long a0), (0, .long a0), (2, .long a1)]) rfl (pc2 := 3) rfl ?_
  refine kg_lload_n 2 dX10_common_3 rfl (pc2 := 4) rfl ?_
  refine kg_lstore dX10_common_4 (Nat.le_of_ble_eq_true rfl) rfl (lv2 := [(6, .long a1), (4, .long a0), (0, .long a0), (2, .long a1)]) rfl (pc2 := 6) rfl ?_
  refine kg_sub [1, 0] (lv2 := [(4, .long a0), (6, .long a1)]) rfl ?_
  obtain ⟨x4, x4h, h⟩ := kw_bind_e h
  refine kw_loop_e (P := fun s => kw_G E kwTM 21 d μX10_common 6 [(4, .long s.1), (6, .long s.2)] [] σ (some (Value.long r)) σ) (K := fun y => kw_G E kwTM 21 d μX10_common 31 [(4, .long y)] [] σ (some (Value.long r)) σ) (fun s o h0 hk => lX10_common_6 σ s.1 s.2 h0 hk) kw_F _ _ x4h ?_
  show kw_G E kwTM 21 d μX10_common 31 [(4, .long x4)] [] σ (some (Value.long r)) σ
  refine kg_lload 0 dX10_common_31 rfl (pc2 := 33) rfl ?_
  cases h
  exact kg_lret dX10_common_33 rfl
set_option maxHeartbeats 4000000 in
set_option maxRecDepth 100000 in
theorem gjX10_mean_99_L42 {E : kw_E} {d : Nat} (v1 : Int32) (v6 : Int32) (v7 : Int32) (σ : kw_M) {v : Option Value} {σ2 : kw_M} {o : (Int64 × Int64 × Int32 × kw_M) ⊕ (Int64 × Int64 × kw_M)} (h : jX10_mean_99_L42 v1 v6 v7 σ = some o) (hk : Sum.elim (fun s => kw_G E kwTM 21 (d + 3) μX10_mean 42 [(0, .ref 0), (1, .int v1), (2, .long s.1), (4, .long s.2.1), (6, .int v6), (7, .int s.2.2.1)] [] s.2.2.2 v σ2) (fun y => kw_G E kwTM 21 (d + 3) μX10_mean 118 [(0, .ref 0), (1, .int v1), (2, .long y.1), (4, .long y.2.1), (6, .int v6)] [] y.2.2 v σ2) o) : kw_G E kwTM 21 (d + 3) μX10_mean 99 [(0, .ref 0), (1, .int v1), (6, .int v6), (7, .int v7)] [] σ v σ2 := by
  unfold jX10_mean_99_L42 at h
  refine kg_aload_n 0 dX10_mean_99 rfl (pc2 := 100) rfl ?_
  refine kg_getr clX10 rfl 2 (Nat.le_of_ble_eq_true rfl) lfRX10_13 tM_0 eM_0 rfl dX10_mean_100 (pc2 := 103) rfl ?_
  refine kg_iload 2 dX10_mean_103 rfl (pc2 := 105) rfl ?_
  obtain ⟨q13, h⟩ := kw_chk_e h
  refine kg_lald tM_2 eM_2 q13 (j := v6.toNatClampNeg) rfl dX10_mean_105 (pc2 := 106) rfl ?_
  obtain ⟨x14, x14e, h⟩ := kw_let_e h
  refine kg_lstore_n dX10_mean_106 rfl (Nat.le_of_ble_eq_true rfl) x14e (lv2 := [(2, .long x14), (0, .ref 0), (1, .int v1), (6, .int v6), (7, .int v7)]) rfl (pc2 := 107) rfl ?_
  refine kg_iload 4 dX10_mean_107 rfl (pc2 := 109) rfl ?_
  refine kg_i2l dX10_mean_109 (pc2 := 110) rfl ?_
  refine kg_lstore dX10_mean_110 (Nat.le_of_ble_eq_true rfl) rfl (lv2 := [(4, .long v7.toInt64), (2, .long x14), (0, .ref 0), (1, .int v1), (6, .int v6), (7, .int v7)]) rfl (pc2 := 112) rfl ?_
  obtain ⟨x15, x15e, h⟩ := kw_let_e h
  refine kg_iinc 5 dX10_mean_112 rfl (Nat.le_of_ble_eq_true rfl) x15e (lv2 := [(7, .int x15), (4, .long v7.toInt64), (2, .long x14), (0, .ref 0), (1, .int v1), (6, .int v6)]) rfl (pc2 := 115) rfl ?_
  refine kg_goto 42 dX10_mean_115 rfl ?_
  refine kg_sub [3, 4, 2, 1, 5, 0] (lv2 := [(0, .ref 0), (1, .int v1), (2, .long x14), (4, .long v7.toInt64), (6, .int v6), (7, .int x15)]) rfl ?_
  cases h
  exact hk
set_option maxHeartbeats 4000000 in
set_option maxRecDepth 100000 in
theorem lX10_mean_42 {E : kw_E} {d : Nat} (v1 : Int32) (v6 : Int32) (v2 : Int64) (v4 : Int64) (v7 : Int32) (σ : kw_M) {v : Option Value} {σ2 : kw_M} {o : (Int64 × Int64 × Int32 × kw_M) ⊕ (Int64 × Int64 × kw_M)} (h : bX10_mean_42 v1 v6 v2 v4 v7 σ = some o) (hk : Sum.elim (fun s => kw_G E kwTM 21 (d + 3) μX10_mean 42 [(0, .ref 0), (1, .int v1), (2, .long s.1), (4, .long s.2.1), (6, .int v6), (7, .int s.2.2.1)] [] s.2.2.2 v σ2) (fun y => kw_G E kwTM 21 (d + 3) μX10_mean 118 [(0, .ref 0), (1, .int v1), (2, .long y.1), (4, .long y.2.1), (6, .int v6)] [] y.2.2 v σ2) o) : kw_G E kwTM 21 (d + 3) μX10_mean 42 [(0, .ref 0), (1, .int v1), (2, .long v2), (4, .long v4), (6, .int v6), (7, .int v7)] [] σ v σ2 := by
  unfold bX10_mean_42 at h
  refine kg_iload 5 dX10_mean_42 rfl (pc2 := 44) rfl ?_
  refine kg_aload_n 0 dX10_mean_44 rfl (pc2 := 45) rfl ?_
  obtain ⟨r6, r6h, h⟩ := kw_bind_e h
  refine kg_callV (μ := μX10_mean) (d := (d + 2)) rfl mVX10_towns [] [.int v7] (gX10_towns (E := E) (d := (d + 2)) σ r6h) rfl lmRX10_77 (ci := 10) rfl tM_0 eM_0 rfl (Nat.le_of_ble_eq_true rfl) dX10_mean_45 rfl (st2 := [.int r6, .int v7]) rfl (pc2 := 48) rfl ?_
  refine kg_icmp_gt 118 dX10_mean_48 rfl (pc2 := 51) rfl (fun q7 => ?_) (fun q7 => ?_)
  · replace h := (if_pos q7).symm.trans h
    refine kg_sub [0, 1, 2, 3, 4] (lv2 := [(0, .ref 0), (1, .int v1), (2, .long v2), (4, .long v4), (6, .int v6)]) rfl ?_
    cases h
    exact hk
  · replace h := (if_neg q7).symm.trans h
    refine kg_aload_n 0 dX10_mean_51 rfl (pc2 := 52) rfl ?_
    obtain ⟨r8, r8h, h⟩ := kw_bind_e h
    refine kg_callV (μ := μX10_mean) (d := (d + 2)) rfl mVX10_goesOn [] [] (gX10_goesOn (E := E) (d := d) σ r8h) rfl lmRX10_400 (ci := 10) rfl tM_0 eM_0 rfl (Nat.le_of_ble_eq_true rfl) dX10_mean_52 rfl (st2 := []) rfl (pc2 := 55) rfl ?_
    refine kg_aload_n 0 dX10_mean_55 rfl (pc2 := 56) rfl ?_
    refine kg_getr clX10 rfl 2 (Nat.le_of_ble_eq_true rfl) lfRX10_13 tM_0 eM_0 rfl dX10_mean_56 (pc2 := 59) rfl ?_
    refine kg_iload 4 dX10_mean_59 rfl (pc2 := 61) rfl ?_
    obtain ⟨q9, h⟩ := kw_chk_e h
    refine kg_lald tM_2 eM_2 q9 (j := v6.toNatClampNeg) rfl dX10_mean_61 (pc2 := 62) rfl ?_
    refine kg_ldc2 rfl lcRX10_89 dX10_mean_62 (pc2 := 65) rfl ?_
    refine kg_lcmp_eq 112 dX10_mean_65 dX10_mean_66 rfl (pc2 := 69) rfl (fun q10 => ?_) (fun q10 => ?_)
    · replace h := (if_pos q10).symm.trans h
      obtain ⟨x11, x11e, h⟩ := kw_let_e h
      refine kg_iinc 5 dX10_mean_112 rfl (Nat.le_of_ble_eq_true rfl) x11e (lv2 := [(7, .int x11), (0, .ref 0), (1, .int v1), (2, .long v2), (4, .long v4), (6, .int v6)]) rfl (pc2 := 115) rfl ?_
      refine kg_goto 42 dX10_mean_115 rfl ?_
      refine kg_sub [1, 2, 3, 4, 5, 0] (lv2 := [(0, .ref 0), (1, .int v1), (2, .long v2), (4, .long v4), (6, .int v6), (7, .int x11)]) rfl ?_
      cases h
      exact hk
    · replace h := (if_neg q10).symm.trans h
      refine kg_lload_n 2 dX10_mean_69 rfl (pc2 := 70) rfl ?_
      refine kg_ldc2 rfl lcRX10_89 dX10_mean_70 (pc2 := 73) rfl ?_
      refine kg_lcmp_eq 99 dX10_mean_73 dX10_mean_74 rfl (pc2 := 77) rfl (fun q12 => ?_) (fun q12 => ?_)
      · replace h := (if_pos q12).symm.trans h
        refine kg_sub [0, 1, 4, 5] (lv2 := [(0, .ref 0), (1, .int v1), (6, .int v6), (7, .int v7)]) rfl ?_
        exact gjX10_mean_99_L42 v1 v6 v7 r8 h hk
      · replace h := (if_neg q12).symm.trans h
        refine kg_aload_n 0 dX10_mean_77 rfl (pc2 := 78) rfl ?_
        refine kg_getr clX10 rfl 2 (Nat.le_of_ble_eq_true rfl) lfRX10_13 tM_0 eM_0 rfl dX10_mean_78 (pc2 := 81) rfl ?_
        refine kg_iload 4 dX10_mean_81 rfl (pc2 := 83) rfl ?_
        refine kg_lald tM_2 eM_2 q9 (j := v6.toNatClampNeg) rfl dX10_mean_83 (pc2 := 84) rfl ?_
        refine kg_lload 3 dX10_mean_84 rfl (pc2 := 86) rfl ?_
        refine kg_lmul dX10_mean_86 (pc2 := 87) rfl ?_
        refine kg_lload_n 2 dX10_mean_87 rfl (pc2 := 88) rfl ?_
        refine kg_iload 5 dX10_mean_88 rfl (pc2 := 90) rfl ?_
        refine kg_i2l dX10_mean_90 (pc2 := 91) rfl ?_
        refine kg_lmul dX10_mean_91 (pc2 := 92) rfl ?_
        refine kg_lcmp_lt 99 dX10_mean_92 dX10_mean_93 rfl (pc2 := 96) rfl (fun q16 => ?_) (fun q16 => ?_)
        · replace h := (if_pos q16).symm.trans h
          refine kg_sub [0, 1, 4, 5] (lv2 := [(0, .ref 0), (1, .int v1), (6, .int v6), (7, .int v7)]) rfl ?_
          exact gjX10_mean_99_L42 v1 v6 v7 r8 h hk
        · replace h := (if_neg q16).symm.trans h
          refine kg_goto 112 dX10_mean_96 rfl ?_
          obtain ⟨x17, x17e, h⟩ := kw_let_e h
          refine kg_iinc 5 dX10_mean_112 rfl (Nat.le_of_ble_eq_true rfl) x17e (lv2 := [(7, .int x17), (0, .ref 0), (1, .int v1), (2, .long v2), (4, .long v4), (6, .int v6)]) rfl (pc2 := 115) rfl ?_
          refine kg_goto 42 dX10_mean_115 rfl ?_
          refine kg_sub [1, 2, 3, 4, 5, 0] (lv2 := [(0, .ref 0), (1, .int v1), (2, .long v2), (4, .long v4), (6, .int v6), (7, .int x17)]) rfl ?_
          cases h
          exact hk
set_option maxHeartbeats 4000000 in
set_option maxRecDepth 100000 in
theorem lX10_mean_24 {E : kw_E} {d : Nat} (v1 : Int32) (v2 : Int64) (v4 : Int64) (v6 : Int32) (σ : kw_M) {v : Option Value} {σ2 : kw_M} {o : (Int64 × Int64 × Int32 × kw_M) ⊕ (Int64 × Int64 × kw_M)} (h : bX10_mean_24 v1 v2 v4 v6 σ = some o) (hk : Sum.elim (fun s => kw_G E kwTM 21 (d + 3) μX10_mean 24 [(0, .ref 0), (1, .int v1), (2, .long s.1), (4, .long s.2.1), (6, .int s.2.2.1)] [] s.2.2.2 v σ2) (fun y => kw_G E kwTM 21 (d + 3) μX10_mean 124 [(1, .int v1), (2, .long y.1), (4, .long y.2.1)] [] y.2.2 v σ2) o) : kw_G E kwTM 21 (d + 3) μX10_mean 24 [(0, .ref 0), (1, .int v1), (2, .long v2), (4, .long v4), (6, .int v6)] [] σ v σ2 := by
  unfold bX10_mean_24 at h
  refine kg_iload 4 dX10_mean_24 rfl (pc2 := 26) rfl ?_
  refine kg_aload_n 0 dX10_mean_26 rfl (pc2 := 27) rfl ?_
  obtain ⟨r3, r3h, h⟩ := kw_bind_e h
  refine kg_callV (μ := μX10_mean) (d := (d + 2)) rfl mVX10_towns [] [.int v6] (gX10_towns (E := E) (d := (d + 2)) σ r3h) rfl lmRX10_77 (ci := 10) rfl tM_0 eM_0 rfl (Nat.le_of_ble_eq_true rfl) dX10_mean_27 rfl (st2 := [.int r3, .int v6]) rfl (pc2 := 30) rfl ?_
  refine kg_icmp_ge 124 dX10_mean_30 rfl (pc2 := 33) rfl (fun q4 => ?_) (fun q4 => ?_)
  · replace h := (if_pos q4).symm.trans h
    refine kg_sub [1, 2, 3] (lv2 := [(1, .int v1), (2, .long v2), (4, .long v4)]) rfl ?_
    cases h
    exact hk
  · replace h := (if_neg q4).symm.trans h
    refine kg_aload_n 0 dX10_mean_33 rfl (pc2 := 34) rfl ?_
    refine kg_iload 4 dX10_mean_34 rfl (pc2 := 36) rfl ?_
    obtain ⟨r5, r5h, h⟩ := kw_bind_e h
    refine kg_callV (μ := μX10_mean) (d := (d + 2)) rfl mVX10_stands [.int v6] [] (gX10_stands (E := E) (d := (d + 2)) v6 σ r5h) rfl lmRX10_397 (ci := 10) rfl tM_0 eM_0 rfl (Nat.le_of_ble_eq_true rfl) dX10_mean_36 rfl (st2 := []) rfl (pc2 := 39) rfl ?_
    refine kg_iconst dX10_mean_39 ki_1 (pc2 := 40) rfl ?_
    refine kg_istore dX10_mean_40 (Nat.le_of_ble_eq_true rfl) rfl (lv2 := [(7, .int (1 : Int32)), (0, .ref 0), (1, .int v1), (2, .long v2), (4, .long v4), (6, .int v6)]) rfl (pc2 := 42) rfl ?_
    refine kg_sub [1, 2, 3, 4, 5, 0] (lv2 := [(0, .ref 0), (1, .int v1), (2, .long v2), (4, .long v4), (6, .int v6), (7, .int (1 : Int32))]) rfl ?_
    obtain ⟨x18, x18h, h⟩ := kw_bind_e h
    refine kw_loop_e (P := fun s => kw_G E kwTM 21 (d + 3) μX10_mean 42 [(0, .ref 0), (1, .int v1), (2, .long s.1), (4, .long s.2.1), (6, .int v6), (7, .int s.2.2.1)] [] s.2.2.2 v σ2) (K := fun y => kw_G E kwTM 21 (d + 3) μX10_mean 118 [(0, .ref 0), (1, .int v1), (2, .long y.1), (4, .long y.2.1), (6, .int v6)] [] y.2.2 v σ2) (fun s o h0 hk => lX10_mean_42 v1 v6 s.1 s.2.1 s.2.2.1 s.2.2.2 h0 hk) kw_F _ _ x18h ?_
    show kw_G E kwTM 21 (d + 3) μX10_mean 118 [(0, .ref 0), (1, .int v1), (2, .long x18.1), (4, .long x18.2.1), (6, .int v6)] [] x18.2.2 v σ2
    obtain ⟨x19, x19e, h⟩ := kw_let_e h
    refine kg_iinc 4 dX10_mean_118 rfl (Nat.le_of_ble_eq_true rfl) x19e (lv2 := [(6, .int x19), (0, .ref 0), (1, .int v1), (2, .long x18.1), (4, .long x18.2.1)]) rfl (pc2 := 121) rfl ?_
    refine kg_goto 24 dX10_mean_121 rfl ?_
    refine kg_sub [1, 2, 3, 4, 0] (lv2 := [(0, .ref 0), (1, .int v1), (2, .long x18.1), (4, .long x18.2.1), (6, .int x19)]) rfl ?_
    cases h
    exact hk
set_option maxHeartbeats 4000000 in
set_option maxRecDepth 100000 in
theorem gX10_mean {E : kw_E} {d : Nat} (a1 : Int32) (σ : kw_M) {r : Int64 × kw_M} (h : fX10_mean a1 σ = some r) : kw_Met E kwTM 21 (d + 3) μX10_mean [.ref 0, .int a1] σ (some (Value.long r.1)) r.2 := by
  refine kw_enter plRX10 (Nat.le_of_ble_eq_true rfl) ?_
  show kw_G E kwTM 21 (d + 3) μX10_mean 0 [(0, .ref 0), (1, .int a1)] [] σ (some (Value.long r.1)) r.2
  unfold fX10_mean at h
  refine kg_iload_n 1 dX10_mean_0 rfl (pc2 := 1) rfl ?_
  refine kg_i2l dX10_mean_1 (pc2 := 2) rfl ?_
  refine kg_lconst dX10_mean_2 kl_0 (pc2 := 3) rfl ?_
  refine kg_lconst dX10_mean_3 kl_1 (pc2 := 4) rfl ?_
  obtain ⟨r1, r1h, h⟩ := kw_bind_e h
  refine kg_callS (μ := μX10_mean) (d := (d + 2)) rfl mSX10_in [.long a1.toInt64, .long (0 : Int64), .long (1 : Int64)] [] (gX10_in (E := E) (d := (d + 2)) a1.toInt64 (0 : Int64) (1 : Int64) σ r1h) rfl lmRX10_81 rfl (Nat.le_of_ble_eq_true rfl) dX10_mean_4 rfl (st2 := [.int r1]) rfl (pc2 := 7) rfl ?_
  refine kg_if_ne 14 dX10_mean_7 rfl (pc2 := 10) rfl (fun q2 => ?_) (fun q2 => ?_)
  · replace h := (if_neg q2).symm.trans h
    refine kg_ldc2 rfl lcRX10_89 dX10_mean_14 (pc2 := 17) rfl ?_
    refine kg_lstore_n dX10_mean_17 rfl (Nat.le_of_ble_eq_true rfl) rfl (lv2 := [(2, .long (900000000000000000 : Int64)), (0, .ref 0), (1, .int a1)]) rfl (pc2 := 18) rfl ?_
    refine kg_lconst dX10_mean_18 kl_1 (pc2 := 19) rfl ?_
    refine kg_lstore dX10_mean_19 (Nat.le_of_ble_eq_true rfl) rfl (lv2 := [(4, .long (1 : Int64)), (2, .long (900000000000000000 : Int64)), (0, .ref 0), (1, .int a1)]) rfl (pc2 := 21) rfl ?_
    refine kg_iconst dX10_mean_21 ki_0 (pc2 := 22) rfl ?_
    refine kg_istore dX10_mean_22 (Nat.le_of_ble_eq_true rfl) rfl (lv2 := [(6, .int (0 : Int32)), (4, .long (1 : Int64)), (2, .long (900000000000000000 : Int64)), (0, .ref 0), (1, .int a1)]) rfl (pc2 := 24) rfl ?_
    refine kg_sub [3, 4, 2, 1, 0] (lv2 := [(0, .ref 0), (1, .int a1), (2, .long (900000000000000000 : Int64)), (4, .long (1 : Int64)), (6, .int (0 : Int32))]) rfl ?_
    obtain ⟨x20, x20h, h⟩ := kw_bind_e h
    refine kw_loop_e (P := fun s => kw_G E kwTM 21 (d + 3) μX10_mean 24 [(0, .ref 0), (1, .int a1), (2, .long s.1), (4, .long s.2.1), (6, .int s.2.2.1)] [] s.2.2.2 (some (Value.long r.1)) r.2) (K := fun y => kw_G E kwTM 21 (d + 3) μX10_mean 124 [(1, .int a1), (2, .long y.1), (4, .long y.2.1)] [] y.2.2 (some (Value.long r.1)) r.2) (fun s o h0 hk => lX10_mean_24 a1 s.1 s.2.1 s.2.2.1 s.2.2.2 h0 hk) kw_F _ _ x20h ?_
    show kw_G E kwTM 21 (d + 3) μX10_mean 124 [(1, .int a1), (2, .long x20.1), (4, .long x20.2.1)] [] x20.2.2 (some (Value.long r.1)) r.2
    refine kg_lload_n 1 dX10_mean_124 rfl (pc2 := 125) rfl ?_
    refine kg_ldc2 rfl lcRX10_89 dX10_mean_125 (pc2 := 128) rfl ?_
    refine kg_lcmp_ne 136 dX10_mean_128 dX10_mean_129 rfl (pc2 := 132) rfl (fun q21 => ?_) (fun q21 => ?_)
    · replace h := (if_neg q21).symm.trans h
      refine kg_lload_n 1 dX10_mean_136 rfl (pc2 := 137) rfl ?_
      refine kg_lload 2 dX10_mean_137 rfl (pc2 := 139) rfl ?_
      obtain ⟨r22, r22h, h⟩ := kw_bind_e h
      refine kg_callS (μ := μX10_mean) (d := (d + 2)) rfl mSX10_common [.long x20.1, .long x20.2.1] [] (gX10_common (E := E) (d := (d + 2)) x20.1 x20.2.1 x20.2.2 r22h) rfl lmRX10_403 rfl (Nat.le_of_ble_eq_true rfl) dX10_mean_139 rfl (st2 := [.long r22]) rfl (pc2 := 142) rfl ?_
      refine kg_lstore dX10_mean_142 (Nat.le_of_ble_eq_true rfl) rfl (lv2 := [(6, .long r22), (1, .int a1), (2, .long x20.1), (4, .long x20.2.1)]) rfl (pc2 := 144) rfl ?_
      refine kg_iload_n 1 dX10_mean_144 rfl (pc2 := 145) rfl ?_
      refine kg_if_ne 155 dX10_mean_145 rfl (pc2 := 148) rfl (fun q23 => ?_) (fun q23 => ?_)
      · replace h := (if_neg q23).symm.trans h
        refine kg_lload 3 dX10_mean_155 rfl (pc2 := 157) rfl ?_
        refine kg_lload 0 dX10_mean_157 rfl (pc2 := 159) rfl ?_
        obtain ⟨q24, h⟩ := kw_chk_e h
        refine kg_ldiv dX10_mean_159 q24 (pc2 := 160) rfl ?_
        cases h
        exact kg_lret dX10_mean_160 rfl
      · replace h := (if_pos q23).symm.trans h
        refine kg_lload_n 2 dX10_mean_148 rfl (pc2 := 149) rfl ?_
        refine kg_lload 0 dX10_mean_149 rfl (pc2 := 151) rfl ?_
        obtain ⟨q25, h⟩ := kw_chk_e h
        refine kg_ldiv dX10_mean_151 q25 (pc2 := 152) rfl ?_
        refine kg_goto 160 dX10_mean_152 rfl ?_
        cases h
        exact kg_lret dX10_mean_160 rfl
    · replace h := (if_pos q21).symm.trans h
      refine kg_ldc2 rfl lcRX10_99 dX10_mean_132 (pc2 := 135) rfl ?_
      cases h
      exact kg_lret dX10_mean_135 rfl
  · replace h := (if_pos q2).symm.trans h
    refine kg_ldc2 rfl lcRX10_99 dX10_mean_10 (pc2 := 13) rfl ?_
    cases h
    exact kg_lret dX10_mean_13 rfl
set_option maxHeartbeats 4000000 in
set_option maxRecDepth 100000 in
theorem lX10_roundLong_12 {E : kw_E} {d : Nat} (σ : kw_M) (v1 : Int64) (v3 : Int32) (v4 : Int32) {v : Option Value} {σ2 : kw_M} {o : (Int64 × Int32 × Int32) ⊕ ((Int64) ⊕ (Int64 × Int32))} (h : bX10_roundLong_12 σ v1 v3 v4 = some o) (hk : Sum.elim (fun s => kw_G E kwTM 21 d μX10_roundLong 12 [(0, .ref 0), (1, .long s.1), (3, .int s.2.1), (4, .int s.2.2)] [] σ v σ2) (Sum.elim (fun rr => v = some (Value.long rr) ∧ σ2 = σ) (fun y => kw_G E kwTM 21 d μX10_roundLong 83 [(0, .ref 0), (1, .long y.1), (3, .int y.2)] [] σ v σ2)) o) : kw_G E kwTM 21 d μX10_roundLong 12 [(0, .ref 0), (1, .long v1), (3, .int v3), (4, .int v4)] [] σ v σ2 := by
  unfold bX10_roundLong_12 at h
  refine kg_iload 3 dX10_roundLong_12 rfl (pc2 := 14) rfl ?_
  refine kg_aload_n 0 dX10_roundLong_14 rfl (pc2 := 15) rfl ?_
  refine kg_geti clX10 rfl 31 (Nat.le_of_ble_eq_true rfl) lfRX10_407 tM_0 eM_0 rfl dX10_roundLong_15 (pc2 := 18) rfl ?_
  refine kg_icmp_ge 83 dX10_roundLong_18 rfl (pc2 := 21) rfl (fun q2 => ?_) (fun q2 => ?_)
  · replace h := (if_pos q2).symm.trans h
    refine kg_sub [0, 1, 2] (lv2 := [(0, .ref 0), (1, .long v1), (3, .int v3)]) rfl ?_
    cases h
    exact hk
  · replace h := (if_neg q2).symm.trans h
    refine kg_aload_n 0 dX10_roundLong_21 rfl (pc2 := 22) rfl ?_
    refine kg_getr clX10 rfl 25 (Nat.le_of_ble_eq_true rfl) lfRX10_54 tM_0 eM_0 rfl dX10_roundLong_22 (pc2 := 25) rfl ?_
    refine kg_bipush dX10_roundLong_25 kb_12 (pc2 := 27) rfl ?_
    refine kg_iload_n 2 dX10_roundLong_27 rfl (pc2 := 28) rfl ?_
    refine kg_imul dX10_roundLong_28 (pc2 := 29) rfl ?_
    refine kg_aload_n 0 dX10_roundLong_29 rfl (pc2 := 30) rfl ?_
    refine kg_getr clX10 rfl 29 (Nat.le_of_ble_eq_true rfl) lfRX10_67 tM_0 eM_0 rfl dX10_roundLong_30 (pc2 := 33) rfl ?_
    refine kg_iload 3 dX10_roundLong_33 rfl (pc2 := 35) rfl ?_
    obtain ⟨q3, h⟩ := kw_chk_e h
    refine kg_iald tM_19 eM_19 q3 (j := v4.toNatClampNeg) rfl dX10_roundLong_35 (pc2 := 36) rfl ?_
    refine kg_iadd dX10_roundLong_36 (pc2 := 37) rfl ?_
    obtain ⟨q4, h⟩ := kw_chk_e h
    refine kg_lald tM_15 eM_15 q4 (j := (((12 : Int32) * v3) + (σ.1 19 v4.toNatClampNeg)).toNatClampNeg) rfl dX10_roundLong_37 (pc2 := 38) rfl ?_
    refine kg_ldc2 rfl lcRX10_89 dX10_roundLong_38 (pc2 := 41) rfl ?_
    refine kg_lcmp_ne 49 dX10_roundLong_41 dX10_roundLong_42 rfl (pc2 := 45) rfl (fun q5 => ?_) (fun q5 => ?_)
    · replace h := (if_neg q5).symm.trans h
      refine kg_lload_n 1 dX10_roundLong_49 rfl (pc2 := 50) rfl ?_
      refine kg_aload_n 0 dX10_roundLong_50 rfl (pc2 := 51) rfl ?_
      refine kg_getr clX10 rfl 25 (Nat.le_of_ble_eq_true rfl) lfRX10_54 tM_0 eM_0 rfl dX10_roundLong_51 (pc2 := 54) rfl ?_
      refine kg_bipush dX10_roundLong_54 kb_12 (pc2 := 56) rfl ?_
      refine kg_iload_n 2 dX10_roundLong_56 rfl (pc2 := 57) rfl ?_
      refine kg_imul dX10_roundLong_57 (pc2 := 58) rfl ?_
      refine kg_aload_n 0 dX10_roundLong_58 rfl (pc2 := 59) rfl ?_
      refine kg_getr clX10 rfl 29 (Nat.le_of_ble_eq_true rfl) lfRX10_67 tM_0 eM_0 rfl dX10_roundLong_59 (pc2 := 62) rfl ?_
      refine kg_iload 3 dX10_roundLong_62 rfl (pc2 := 64) rfl ?_
      refine kg_iald tM_19 eM_19 q3 (j := v4.toNatClampNeg) rfl dX10_roundLong_64 (pc2 := 65) rfl ?_
      refine kg_iadd dX10_roundLong_65 (pc2 := 66) rfl ?_
      refine kg_lald tM_15 eM_15 q4 (j := (((12 : Int32) * v3) + (σ.1 19 v4.toNatClampNeg)).toNatClampNeg) rfl dX10_roundLong_66 (pc2 := 67) rfl ?_
      refine kg_ladd dX10_roundLong_67 (pc2 := 68) rfl ?_
      obtain ⟨x6, x6e, h⟩ := kw_let_e h
      refine kg_lstore_n dX10_roundLong_68 rfl (Nat.le_of_ble_eq_true rfl) x6e (lv2 := [(1, .long x6), (0, .ref 0), (3, .int v3), (4, .int v4)]) rfl (pc2 := 69) rfl ?_
      refine kg_aload_n 1 dX10_roundLong_69 rfl (pc2 := 70) rfl ?_
      refine kg_getr clX10 rfl 29 (Nat.le_of_ble_eq_true rfl) lfRX10_67 tM_0 eM_0 rfl dX10_roundLong_70 (pc2 := 73) rfl ?_
      refine kg_iload 3 dX10_roundLong_73 rfl (pc2 := 75) rfl ?_
      refine kg_iald tM_19 eM_19 q3 (j := v4.toNatClampNeg) rfl dX10_roundLong_75 (pc2 := 76) rfl ?_
      obtain ⟨x7, x7e, h⟩ := kw_let_e h
      refine kg_istore_n dX10_roundLong_76 rfl (Nat.le_of_ble_eq_true rfl) x7e (lv2 := [(3, .int x7), (1, .long x6), (0, .ref 0), (4, .int v4)]) rfl (pc2 := 77) rfl ?_
      obtain ⟨x8, x8e, h⟩ := kw_let_e h
      refine kg_iinc 3 dX10_roundLong_77 rfl (Nat.le_of_ble_eq_true rfl) x8e (lv2 := [(4, .int x8), (3, .int x7), (1, .long x6), (0, .ref 0)]) rfl (pc2 := 80) rfl ?_
      refine kg_goto 12 dX10_roundLong_80 rfl ?_
      refine kg_sub [3, 2, 1, 0] (lv2 := [(0, .ref 0), (1, .long x6), (3, .int x7), (4, .int x8)]) rfl ?_
      cases h
      exact hk
    · replace h := (if_pos q5).symm.trans h
      refine kg_ldc2 rfl lcRX10_89 dX10_roundLong_45 (pc2 := 48) rfl ?_
      cases h
      obtain ⟨rfl, rfl⟩ := hk
      exact kg_lret dX10_roundLong_48 rfl
set_option maxHeartbeats 4000000 in
set_option maxRecDepth 100000 in
theorem gX10_roundLong {E : kw_E} {d : Nat} (σ : kw_M) {r : Int64} (h : fX10_roundLong σ = some r) : kw_Met E kwTM 21 d μX10_roundLong [.ref 0] σ (some (Value.long r)) σ := by
  refine kw_enter plRX10 (Nat.le_of_ble_eq_true rfl) ?_
  show kw_G E kwTM 21 d μX10_roundLong 0 [(0, .ref 0)] [] σ (some (Value.long r)) σ
  unfold fX10_roundLong at h
  refine kg_lconst dX10_roundLong_0 kl_0 (pc2 := 1) rfl ?_
  refine kg_lstore_n dX10_roundLong_1 rfl (Nat.le_of_ble_eq_true rfl) rfl (lv2 := [(1, .long (0 : Int64)), (0, .ref 0)]) rfl (pc2 := 2) rfl ?_
  refine kg_aload_n 1 dX10_roundLong_2 rfl (pc2 := 3) rfl ?_
  refine kg_getr clX10 rfl 0 (Nat.le_of_ble_eq_true rfl) lfRX10_7 tM_0 eM_0 rfl dX10_roundLong_3 (pc2 := 6) rfl ?_
  refine kg_iconst dX10_roundLong_6 ki_2 (pc2 := 7) rfl ?_
  refine kg_iald tM_1 eM_1 (show kw_in (2 : Int32) 2832 by decide) (j := 2) (by decide) dX10_roundLong_7 (pc2 := 8) rfl ?_
  obtain ⟨x1, x1e, h⟩ := kw_let_e h
  refine kg_istore_n dX10_roundLong_8 rfl (Nat.le_of_ble_eq_true rfl) x1e (lv2 := [(3, .int x1), (1, .long (0 : Int64)), (0, .ref 0)]) rfl (pc2 := 9) rfl ?_
  refine kg_iconst dX10_roundLong_9 ki_0 (pc2 := 10) rfl ?_
  refine kg_istore dX10_roundLong_10 (Nat.le_of_ble_eq_true rfl) rfl (lv2 := [(4, .int (0 : Int32)), (3, .int x1), (1, .long (0 : Int64)), (0, .ref 0)]) rfl (pc2 := 12) rfl ?_
  refine kg_sub [3, 2, 1, 0] (lv2 := [(0, .ref 0), (1, .long (0 : Int64)), (3, .int x1), (4, .int (0 : Int32))]) rfl ?_
  obtain ⟨x9, x9h, h⟩ := kw_bind_e h
  refine kw_loop_e (P := fun s => kw_G E kwTM 21 d μX10_roundLong 12 [(0, .ref 0), (1, .long s.1), (3, .int s.2.1), (4, .int s.2.2)] [] σ (some (Value.long r)) σ) (K := Sum.elim (fun rr => (some (Value.long r)) = some (Value.long rr) ∧ σ = σ) (fun y => kw_G E kwTM 21 d μX10_roundLong 83 [(0, .ref 0), (1, .long y.1), (3, .int y.2)] [] σ (some (Value.long r)) σ)) (fun s o h0 hk => lX10_roundLong_12 σ s.1 s.2.1 s.2.2 h0 hk) kw_F _ _ x9h ?_
  rcases x9 with x9r | x9
  · replace h := kw_se_l h
    cases h
    exact ⟨rfl, rfl⟩
  · replace h := kw_se_r h
    show kw_G E kwTM 21 d μX10_roundLong 83 [(0, .ref 0), (1, .long x9.1), (3, .int x9.2)] [] σ (some (Value.long r)) σ
    refine kg_aload_n 0 dX10_roundLong_83 rfl (pc2 := 84) rfl ?_
    refine kg_getr clX10 rfl 25 (Nat.le_of_ble_eq_true rfl) lfRX10_54 tM_0 eM_0 rfl dX10_roundLong_84 (pc2 := 87) rfl ?_
    refine kg_bipush dX10_roundLong_87 kb_12 (pc2 := 89) rfl ?_
    refine kg_iload_n 2 dX10_roundLong_89 rfl (pc2 := 90) rfl ?_
    refine kg_imul dX10_roundLong_90 (pc2 := 91) rfl ?_
    refine kg_aload_n 0 dX10_roundLong_91 rfl (pc2 := 92) rfl ?_
    refine kg_getr clX10 rfl 0 (Nat.le_of_ble_eq_true rfl) lfRX10_7 tM_0 eM_0 rfl dX10_roundLong_92 (pc2 := 95) rfl ?_
    refine kg_iconst dX10_roundLong_95 ki_2 (pc2 := 96) rfl ?_
    refine kg_iald tM_1 eM_1 (show kw_in (2 : Int32) 2832 by decide) (j := 2) (by decide) dX10_roundLong_96 (pc2 := 97) rfl ?_
    refine kg_iadd dX10_roundLong_97 (pc2 := 98) rfl ?_
    obtain ⟨q10, h⟩ := kw_chk_e h
    refine kg_lald tM_15 eM_15 q10 (j := (((12 : Int32) * x9.2) + (σ.1 1 2)).toNatClampNeg) rfl dX10_roundLong_98 (pc2 := 99) rfl ?_
    refine kg_ldc2 rfl lcRX10_89 dX10_roundLong_99 (pc2 := 102) rfl ?_
    refine kg_lcmp_ne 112 dX10_roundLong_102 dX10_roundLong_103 rfl (pc2 := 106) rfl (fun q11 => ?_) (fun q11 => ?_)
    · replace h := (if_neg q11).symm.trans h
      refine kg_lload_n 1 dX10_roundLong_112 rfl (pc2 := 113) rfl ?_
      refine kg_aload_n 0 dX10_roundLong_113 rfl (pc2 := 114) rfl ?_
      refine kg_getr clX10 rfl 25 (Nat.le_of_ble_eq_true rfl) lfRX10_54 tM_0 eM_0 rfl dX10_roundLong_114 (pc2 := 117) rfl ?_
      refine kg_bipush dX10_roundLong_117 kb_12 (pc2 := 119) rfl ?_
      refine kg_iload_n 2 dX10_roundLong_119 rfl (pc2 := 120) rfl ?_
      refine kg_imul dX10_roundLong_120 (pc2 := 121) rfl ?_
      refine kg_aload_n 0 dX10_roundLong_121 rfl (pc2 := 122) rfl ?_
      refine kg_getr clX10 rfl 0 (Nat.le_of_ble_eq_true rfl) lfRX10_7 tM_0 eM_0 rfl dX10_roundLong_122 (pc2 := 125) rfl ?_
      refine kg_iconst dX10_roundLong_125 ki_2 (pc2 := 126) rfl ?_
      refine kg_iald tM_1 eM_1 (show kw_in (2 : Int32) 2832 by decide) (j := 2) (by decide) dX10_roundLong_126 (pc2 := 127) rfl ?_
      refine kg_iadd dX10_roundLong_127 (pc2 := 128) rfl ?_
      refine kg_lald tM_15 eM_15 q10 (j := (((12 : Int32) * x9.2) + (σ.1 1 2)).toNatClampNeg) rfl dX10_roundLong_128 (pc2 := 129) rfl ?_
      refine kg_ladd dX10_roundLong_129 (pc2 := 130) rfl ?_
      cases h
      exact kg_lret dX10_roundLong_130 rfl
    · replace h := (if_pos q11).symm.trans h
      refine kg_ldc2 rfl lcRX10_89 dX10_roundLong_106 (pc2 := 109) rfl ?_
      refine kg_goto 130 dX10_roundLong_109 rfl ?_
      cases h
      exact kg_lret dX10_roundLong_130 rfl
set_option maxHeartbeats 4000000 in
set_option maxRecDepth 100000 in
theorem gX10_changesPlaces {E : kw_E} {d : Nat} (a1 : Int32) (a2 : Int32) (σ : kw_M) {r : kw_M} (h : fX10_changesPlaces a1 a2 σ = some r) : kw_Met E kwTM 21 d μX10_changesPlaces [.ref 0, .int a1, .int a2] σ none r := by
  refine kw_enter plRX10 (Nat.le_of_ble_eq_true rfl) ?_
  show kw_G E kwTM 21 d μX10_changesPlaces 0 [(0, .ref 0), (1, .int a1), (2, .int a2)] [] σ none r
  unfold fX10_changesPlaces at h
  refine kg_aload_n 0 dX10_changesPlaces_0 rfl (pc2 := 1) rfl ?_
  refine kg_getr clX10 rfl 29 (Nat.le_of_ble_eq_true rfl) lfRX10_67 tM_0 eM_0 rfl dX10_changesPlaces_1 (pc2 := 4) rfl ?_
  refine kg_iload_n 1 dX10_changesPlaces_4 rfl (pc2 := 5) rfl ?_
  obtain ⟨q1, h⟩ := kw_chk_e h
  refine kg_iald tM_19 eM_19 q1 (j := a1.toNatClampNeg) rfl dX10_changesPlaces_5 (pc2 := 6) rfl ?_
  obtain ⟨x2, x2e, h⟩ := kw_let_e h
  refine kg_istore_n dX10_changesPlaces_6 rfl (Nat.le_of_ble_eq_true rfl) x2e (lv2 := [(3, .int x2), (0, .ref 0), (1, .int a1), (2, .int a2)]) rfl (pc2 := 7) rfl ?_
  refine kg_aload_n 1 dX10_changesPlaces_7 rfl (pc2 := 8) rfl ?_
  refine kg_getr clX10 rfl 29 (Nat.le_of_ble_eq_true rfl) lfRX10_67 tM_0 eM_0 rfl dX10_changesPlaces_8 (pc2 := 11) rfl ?_
  refine kg_iload_n 2 dX10_changesPlaces_11 rfl (pc2 := 12) rfl ?_
  refine kg_aload_n 1 dX10_changesPlaces_12 rfl (pc2 := 13) rfl ?_
  refine kg_getr clX10 rfl 29 (Nat.le_of_ble_eq_true rfl) lfRX10_67 tM_0 eM_0 rfl dX10_changesPlaces_13 (pc2 := 16) rfl ?_
  refine kg_iload_n 3 dX10_changesPlaces_16 rfl (pc2 := 17) rfl ?_
  obtain ⟨q3, h⟩ := kw_chk_e h
  refine kg_iald tM_19 eM_19 q3 (j := a2.toNatClampNeg) rfl dX10_changesPlaces_17 (pc2 := 18) rfl ?_
  obtain ⟨s4, s4e, h⟩ := kw_let_e h
  refine kg_iast tM_19 eM_19 q1 (j := a1.toNatClampNeg) rfl s4e dX10_changesPlaces_18 (pc2 := 19) rfl ?_
  refine kg_aload_n 1 dX10_changesPlaces_19 rfl (pc2 := 20) rfl ?_
  refine kg_getr clX10 rfl 29 (Nat.le_of_ble_eq_true rfl) lfRX10_67 tM_0 eM_0 rfl dX10_changesPlaces_20 (pc2 := 23) rfl ?_
  refine kg_iload_n 3 dX10_changesPlaces_23 rfl (pc2 := 24) rfl ?_
  refine kg_iload_n 0 dX10_changesPlaces_24 rfl (pc2 := 25) rfl ?_
  obtain ⟨s5, s5e, h⟩ := kw_let_e h
  refine kg_iast tM_19 eM_19 q3 (j := a2.toNatClampNeg) rfl s5e dX10_changesPlaces_25 (pc2 := 26) rfl ?_
  cases h
  exact kg_vret dX10_changesPlaces_26 rfl
set_option maxHeartbeats 4000000 in
set_option maxRecDepth 100000 in
theorem lX10_nextOrder_7 {E : kw_E} {d : Nat} (σ : kw_M) (v1 : Int32) {v : Option Value} {σ2 : kw_M} {o : (Int32) ⊕ (Int32)} (h : bX10_nextOrder_7 σ v1 = some o) (hk : Sum.elim (fun s => kw_G E kwTM 21 (d + 1) μX10_nextOrder 7 [(0, .ref 0), (1, .int s)] [] σ v σ2) (fun y => kw_G E kwTM 21 (d + 1) μX10_nextOrder 35 [(0, .ref 0), (1, .int y)] [] σ v σ2) o) : kw_G E kwTM 21 (d + 1) μX10_nextOrder 7 [(0, .ref 0), (1, .int v1)] [] σ v σ2 := by
  unfold bX10_nextOrder_7 at h
  refine kg_iload_n 1 dX10_nextOrder_7 rfl (pc2 := 8) rfl ?_
  refine kg_if_lt 35 dX10_nextOrder_8 rfl (pc2 := 11) rfl (fun q2 => ?_) (fun q2 => ?_)
  · replace h := (if_pos q2).symm.trans h
    cases h
    exact hk
  · replace h := (if_neg q2).symm.trans h
    refine kg_aload_n 0 dX10_nextOrder_11 rfl (pc2 := 12) rfl ?_
    refine kg_getr clX10 rfl 29 (Nat.le_of_ble_eq_true rfl) lfRX10_67 tM_0 eM_0 rfl dX10_nextOrder_12 (pc2 := 15) rfl ?_
    refine kg_iload_n 1 dX10_nextOrder_15 rfl (pc2 := 16) rfl ?_
    obtain ⟨q3, h⟩ := kw_chk_e h
    refine kg_iald tM_19 eM_19 q3 (j := v1.toNatClampNeg) rfl dX10_nextOrder_16 (pc2 := 17) rfl ?_
    refine kg_aload_n 0 dX10_nextOrder_17 rfl (pc2 := 18) rfl ?_
    refine kg_getr clX10 rfl 29 (Nat.le_of_ble_eq_true rfl) lfRX10_67 tM_0 eM_0 rfl dX10_nextOrder_18 (pc2 := 21) rfl ?_
    refine kg_iload_n 1 dX10_nextOrder_21 rfl (pc2 := 22) rfl ?_
    refine kg_iconst dX10_nextOrder_22 ki_1 (pc2 := 23) rfl ?_
    refine kg_iadd dX10_nextOrder_23 (pc2 := 24) rfl ?_
    obtain ⟨q4, h⟩ := kw_chk_e h
    refine kg_iald tM_19 eM_19 q4 (j := (v1 + (1 : Int32)).toNatClampNeg) rfl dX10_nextOrder_24 (pc2 := 25) rfl ?_
    refine kg_icmp_le 35 dX10_nextOrder_25 rfl (pc2 := 28) rfl (fun q5 => ?_) (fun q5 => ?_)
    · replace h := (if_pos q5).symm.trans h
      cases h
      exact hk
    · replace h := (if_neg q5).symm.trans h
      refine kg_iload_n 1 dX10_nextOrder_28 rfl (pc2 := 29) rfl ?_
      refine kg_iconst dX10_nextOrder_29 ki_1 (pc2 := 30) rfl ?_
      refine kg_isub dX10_nextOrder_30 (pc2 := 31) rfl ?_
      obtain ⟨x6, x6e, h⟩ := kw_let_e h
      refine kg_istore_n dX10_nextOrder_31 rfl (Nat.le_of_ble_eq_true rfl) x6e (lv2 := [(1, .int x6), (0, .ref 0)]) rfl (pc2 := 32) rfl ?_
      refine kg_goto 7 dX10_nextOrder_32 rfl ?_
      refine kg_sub [1, 0] (lv2 := [(0, .ref 0), (1, .int x6)]) rfl ?_
      cases h
      exact hk
set_option maxHeartbeats 4000000 in
set_option maxRecDepth 100000 in
theorem lX10_nextOrder_48 {E : kw_E} {d : Nat} (v1 : Int32) (σ : kw_M) (v2 : Int32) {v : Option Value} {σ2 : kw_M} {o : (Int32) ⊕ (Int32)} (h : bX10_nextOrder_48 v1 σ v2 = some o) (hk : Sum.elim (fun s => kw_G E kwTM 21 (d + 1) μX10_nextOrder 48 [(0, .ref 0), (1, .int v1), (2, .int s)] [] σ v σ2) (fun y => kw_G E kwTM 21 (d + 1) μX10_nextOrder 70 [(0, .ref 0), (1, .int v1), (2, .int y)] [] σ v σ2) o) : kw_G E kwTM 21 (d + 1) μX10_nextOrder 48 [(0, .ref 0), (1, .int v1), (2, .int v2)] [] σ v σ2 := by
  unfold bX10_nextOrder_48 at h
  refine kg_aload_n 0 dX10_nextOrder_48 rfl (pc2 := 49) rfl ?_
  refine kg_getr clX10 rfl 29 (Nat.le_of_ble_eq_true rfl) lfRX10_67 tM_0 eM_0 rfl dX10_nextOrder_49 (pc2 := 52) rfl ?_
  refine kg_iload_n 2 dX10_nextOrder_52 rfl (pc2 := 53) rfl ?_
  obtain ⟨q10, h⟩ := kw_chk_e h
  refine kg_iald tM_19 eM_19 q10 (j := v2.toNatClampNeg) rfl dX10_nextOrder_53 (pc2 := 54) rfl ?_
  refine kg_aload_n 0 dX10_nextOrder_54 rfl (pc2 := 55) rfl ?_
  refine kg_getr clX10 rfl 29 (Nat.le_of_ble_eq_true rfl) lfRX10_67 tM_0 eM_0 rfl dX10_nextOrder_55 (pc2 := 58) rfl ?_
  refine kg_iload_n 1 dX10_nextOrder_58 rfl (pc2 := 59) rfl ?_
  obtain ⟨q11, h⟩ := kw_chk_e h
  refine kg_iald tM_19 eM_19 q11 (j := v1.toNatClampNeg) rfl dX10_nextOrder_59 (pc2 := 60) rfl ?_
  refine kg_icmp_ge 70 dX10_nextOrder_60 rfl (pc2 := 63) rfl (fun q12 => ?_) (fun q12 => ?_)
  · replace h := (if_pos q12).symm.trans h
    cases h
    exact hk
  · replace h := (if_neg q12).symm.trans h
    refine kg_iload_n 2 dX10_nextOrder_63 rfl (pc2 := 64) rfl ?_
    refine kg_iconst dX10_nextOrder_64 ki_1 (pc2 := 65) rfl ?_
    refine kg_isub dX10_nextOrder_65 (pc2 := 66) rfl ?_
    obtain ⟨x13, x13e, h⟩ := kw_let_e h
    refine kg_istore_n dX10_nextOrder_66 rfl (Nat.le_of_ble_eq_true rfl) x13e (lv2 := [(2, .int x13), (0, .ref 0), (1, .int v1)]) rfl (pc2 := 67) rfl ?_
    refine kg_goto 48 dX10_nextOrder_67 rfl ?_
    refine kg_sub [1, 2, 0] (lv2 := [(0, .ref 0), (1, .int v1), (2, .int x13)]) rfl ?_
    cases h
    exact hk
set_option maxHeartbeats 4000000 in
set_option maxRecDepth 100000 in
theorem lX10_nextOrder_88 {E : kw_E} {d : Nat} (v3 : Int32) (v4 : Int32) (σ : kw_M) {v : Option Value} {σ2 : kw_M} {o : (Int32 × Int32 × kw_M) ⊕ (kw_M)} (h : bX10_nextOrder_88 v3 v4 σ = some o) (hk : Sum.elim (fun s => kw_G E kwTM 21 (d + 1) μX10_nextOrder 88 [(0, .ref 0), (3, .int s.1), (4, .int s.2.1)] [] s.2.2 v σ2) (fun y => kw_G E kwTM 21 (d + 1) μX10_nextOrder 114 [] [] y v σ2) o) : kw_G E kwTM 21 (d + 1) μX10_nextOrder 88 [(0, .ref 0), (3, .int v3), (4, .int v4)] [] σ v σ2 := by
  unfold bX10_nextOrder_88 at h
  refine kg_iload_n 1 dX10_nextOrder_88 rfl (pc2 := 89) rfl ?_
  refine kg_iload 2 dX10_nextOrder_89 rfl (pc2 := 91) rfl ?_
  refine kg_icmp_ge 114 dX10_nextOrder_91 rfl (pc2 := 94) rfl (fun q18 => ?_) (fun q18 => ?_)
  · replace h := (if_pos q18).symm.trans h
    refine kg_sub [] (lv2 := []) rfl ?_
    cases h
    exact hk
  · replace h := (if_neg q18).symm.trans h
    refine kg_aload_n 0 dX10_nextOrder_94 rfl (pc2 := 95) rfl ?_
    refine kg_iload_n 1 dX10_nextOrder_95 rfl (pc2 := 96) rfl ?_
    refine kg_iload 2 dX10_nextOrder_96 rfl (pc2 := 98) rfl ?_
    obtain ⟨r19, r19h, h⟩ := kw_bind_e h
    refine kg_callV (μ := μX10_nextOrder) (d := d) rfl mVX10_changesPlaces [.int v3, .int v4] [] (gX10_changesPlaces (E := E) (d := d) v3 v4 σ r19h) rfl lmRX10_410 (ci := 10) rfl tM_0 eM_0 rfl (Nat.le_of_ble_eq_true rfl) dX10_nextOrder_98 rfl (st2 := []) rfl (pc2 := 101) rfl ?_
    refine kg_iload_n 1 dX10_nextOrder_101 rfl (pc2 := 102) rfl ?_
    refine kg_iconst dX10_nextOrder_102 ki_1 (pc2 := 103) rfl ?_
    refine kg_iadd dX10_nextOrder_103 (pc2 := 104) rfl ?_
    obtain ⟨x20, x20e, h⟩ := kw_let_e h
    refine kg_istore_n dX10_nextOrder_104 rfl (Nat.le_of_ble_eq_true rfl) x20e (lv2 := [(3, .int x20), (0, .ref 0), (4, .int v4)]) rfl (pc2 := 105) rfl ?_
    refine kg_iload 2 dX10_nextOrder_105 rfl (pc2 := 107) rfl ?_
    refine kg_iconst dX10_nextOrder_107 ki_1 (pc2 := 108) rfl ?_
    refine kg_isub dX10_nextOrder_108 (pc2 := 109) rfl ?_
    obtain ⟨x21, x21e, h⟩ := kw_let_e h
    refine kg_istore dX10_nextOrder_109 (Nat.le_of_ble_eq_true rfl) x21e (lv2 := [(4, .int x21), (3, .int x20), (0, .ref 0)]) rfl (pc2 := 111) rfl ?_
    refine kg_goto 88 dX10_nextOrder_111 rfl ?_
    refine kg_sub [2, 1, 0] (lv2 := [(0, .ref 0), (3, .int x20), (4, .int x21)]) rfl ?_
    cases h
    exact hk
set_option maxHeartbeats 4000000 in
set_option maxRecDepth 100000 in
theorem gjX10_nextOrder_35 {E : kw_E} {d : Nat} (v1 : Int32) (σ : kw_M) {r : Int32 × kw_M} (h : jX10_nextOrder_35 v1 σ = some r) : kw_G E kwTM 21 (d + 1) μX10_nextOrder 35 [(0, .ref 0), (1, .int v1)] [] σ (some (Value.int r.1)) r.2 := by
  unfold jX10_nextOrder_35 at h
  refine kg_iload_n 1 dX10_nextOrder_35 rfl (pc2 := 36) rfl ?_
  refine kg_if_ge 41 dX10_nextOrder_36 rfl (pc2 := 39) rfl (fun q8 => ?_) (fun q8 => ?_)
  · replace h := (if_pos q8).symm.trans h
    refine kg_aload_n 0 dX10_nextOrder_41 rfl (pc2 := 42) rfl ?_
    refine kg_geti clX10 rfl 31 (Nat.le_of_ble_eq_true rfl) lfRX10_407 tM_0 eM_0 rfl dX10_nextOrder_42 (pc2 := 45) rfl ?_
    refine kg_iconst dX10_nextOrder_45 ki_1 (pc2 := 46) rfl ?_
    refine kg_isub dX10_nextOrder_46 (pc2 := 47) rfl ?_
    obtain ⟨x9, x9e, h⟩ := kw_let_e h
    refine kg_istore_n dX10_nextOrder_47 rfl (Nat.le_of_ble_eq_true rfl) x9e (lv2 := [(2, .int x9), (0, .ref 0), (1, .int v1)]) rfl (pc2 := 48) rfl ?_
    refine kg_sub [1, 2, 0] (lv2 := [(0, .ref 0), (1, .int v1), (2, .int x9)]) rfl ?_
    obtain ⟨x14, x14h, h⟩ := kw_bind_e h
    refine kw_loop_e (P := fun s => kw_G E kwTM 21 (d + 1) μX10_nextOrder 48 [(0, .ref 0), (1, .int v1), (2, .int s)] [] σ (some (Value.int r.1)) r.2) (K := fun y => kw_G E kwTM 21 (d + 1) μX10_nextOrder 70 [(0, .ref 0), (1, .int v1), (2, .int y)] [] σ (some (Value.int r.1)) r.2) (fun s o h0 hk => lX10_nextOrder_48 v1 σ s h0 hk) kw_F _ _ x14h ?_
    show kw_G E kwTM 21 (d + 1) μX10_nextOrder 70 [(0, .ref 0), (1, .int v1), (2, .int x14)] [] σ (some (Value.int r.1)) r.2
    refine kg_aload_n 0 dX10_nextOrder_70 rfl (pc2 := 71) rfl ?_
    refine kg_iload_n 1 dX10_nextOrder_71 rfl (pc2 := 72) rfl ?_
    refine kg_iload_n 2 dX10_nextOrder_72 rfl (pc2 := 73) rfl ?_
    obtain ⟨r15, r15h, h⟩ := kw_bind_e h
    refine kg_callV (μ := μX10_nextOrder) (d := d) rfl mVX10_changesPlaces [.int v1, .int x14] [] (gX10_changesPlaces (E := E) (d := d) v1 x14 σ r15h) rfl lmRX10_410 (ci := 10) rfl tM_0 eM_0 rfl (Nat.le_of_ble_eq_true rfl) dX10_nextOrder_73 rfl (st2 := []) rfl (pc2 := 76) rfl ?_
    refine kg_iload_n 1 dX10_nextOrder_76 rfl (pc2 := 77) rfl ?_
    refine kg_iconst dX10_nextOrder_77 ki_1 (pc2 := 78) rfl ?_
    refine kg_iadd dX10_nextOrder_78 (pc2 := 79) rfl ?_
    obtain ⟨x16, x16e, h⟩ := kw_let_e h
    refine kg_istore_n dX10_nextOrder_79 rfl (Nat.le_of_ble_eq_true rfl) x16e (lv2 := [(3, .int x16), (0, .ref 0), (1, .int v1), (2, .int x14)]) rfl (pc2 := 80) rfl ?_
    refine kg_aload_n 1 dX10_nextOrder_80 rfl (pc2 := 81) rfl ?_
    refine kg_geti clX10 rfl 31 (Nat.le_of_ble_eq_true rfl) lfRX10_407 tM_0 eM_0 rfl dX10_nextOrder_81 (pc2 := 84) rfl ?_
    refine kg_iconst dX10_nextOrder_84 ki_1 (pc2 := 85) rfl ?_
    refine kg_isub dX10_nextOrder_85 (pc2 := 86) rfl ?_
    obtain ⟨x17, x17e, h⟩ := kw_let_e h
    refine kg_istore dX10_nextOrder_86 (Nat.le_of_ble_eq_true rfl) x17e (lv2 := [(4, .int x17), (3, .int x16), (0, .ref 0), (1, .int v1), (2, .int x14)]) rfl (pc2 := 88) rfl ?_
    refine kg_sub [2, 1, 0] (lv2 := [(0, .ref 0), (3, .int x16), (4, .int x17)]) rfl ?_
    obtain ⟨x22, x22h, h⟩ := kw_bind_e h
    refine kw_loop_e (P := fun s => kw_G E kwTM 21 (d + 1) μX10_nextOrder 88 [(0, .ref 0), (3, .int s.1), (4, .int s.2.1)] [] s.2.2 (some (Value.int r.1)) r.2) (K := fun y => kw_G E kwTM 21 (d + 1) μX10_nextOrder 114 [] [] y (some (Value.int r.1)) r.2) (fun s o h0 hk => lX10_nextOrder_88 s.1 s.2.1 s.2.2 h0 hk) kw_F _ _ x22h ?_
    show kw_G E kwTM 21 (d + 1) μX10_nextOrder 114 [] [] x22 (some (Value.int r.1)) r.2
    refine kg_iconst dX10_nextOrder_114 ki_1 (pc2 := 115) rfl ?_
    cases h
    exact kg_iret (ty := .boolean) dX10_nextOrder_115 rfl rfl
  · replace h := (if_neg q8).symm.trans h
    refine kg_iconst dX10_nextOrder_39 ki_0 (pc2 := 40) rfl ?_
    cases h
    exact kg_iret (ty := .boolean) dX10_nextOrder_40 rfl rfl
set_option maxHeartbeats 4000000 in
set_option maxRecDepth 100000 in
theorem gX10_nextOrder {E : kw_E} {d : Nat} (σ : kw_M) {r : Int32 × kw_M} (h : fX10_nextOrder σ = some r) : kw_Met E kwTM 21 (d + 1) μX10_nextOrder [.ref 0] σ (some (Value.int r.1)) r.2 := by
  refine kw_enter plRX10 (Nat.le_of_ble_eq_true rfl) ?_
  show kw_G E kwTM 21 (d + 1) μX10_nextOrder 0 [(0, .ref 0)] [] σ (some (Value.int r.1)) r.2
  unfold fX10_nextOrder at h
  refine kg_aload_n 0 dX10_nextOrder_0 rfl (pc2 := 1) rfl ?_
  refine kg_geti clX10 rfl 31 (Nat.le_of_ble_eq_true rfl) lfRX10_407 tM_0 eM_0 rfl dX10_nextOrder_1 (pc2 := 4) rfl ?_
  refine kg_iconst dX10_nextOrder_4 ki_2 (pc2 := 5) rfl ?_
  refine kg_isub dX10_nextOrder_5 (pc2 := 6) rfl ?_
  obtain ⟨x1, x1e, h⟩ := kw_let_e h
  refine kg_istore_n dX10_nextOrder_6 rfl (Nat.le_of_ble_eq_true rfl) x1e (lv2 := [(1, .int x1), (0, .ref 0)]) rfl (pc2 := 7) rfl ?_
  refine kg_sub [1, 0] (lv2 := [(0, .ref 0), (1, .int x1)]) rfl ?_
  obtain ⟨x7, x7h, h⟩ := kw_bind_e h
  refine kw_loop_e (P := fun s => kw_G E kwTM 21 (d + 1) μX10_nextOrder 7 [(0, .ref 0), (1, .int s)] [] σ (some (Value.int r.1)) r.2) (K := fun y => kw_G E kwTM 21 (d + 1) μX10_nextOrder 35 [(0, .ref 0), (1, .int y)] [] σ (some (Value.int r.1)) r.2) (fun s o h0 hk => lX10_nextOrder_7 σ s h0 hk) kw_F _ _ x7h ?_
  show kw_G E kwTM 21 (d + 1) μX10_nextOrder 35 [(0, .ref 0), (1, .int x7)] [] σ (some (Value.int r.1)) r.2
  exact gjX10_nextOrder_35 x7 σ h
