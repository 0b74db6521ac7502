/-! The class, method by method: the machine does what f says (g). -/
set_option maxHeartbeats 4000000 in
set_option maxRecDepth 100000 in
theorem gjX3_readNumber_25 {E : kw_E} {d : Nat} (σ : kw_M) {r : kw_M} (h : jX3_readNumber_25 σ = some r) : kw_G E kwTX 48 (d + 2) μX3_readNumber 25 [(0, .ref 4)] [] σ none r := by
  unfold jX3_readNumber_25 at h
  refine kg_aload_n 0 dX3_readNumber_25 rfl (pc2 := 26) rfl ?_
  refine kg_iconst dX3_readNumber_26 ki_1 (pc2 := 27) rfl ?_
  refine kg_aload_n 0 dX3_readNumber_27 rfl (pc2 := 28) rfl ?_
  refine kg_geti clX3 rfl 6 (Nat.le_of_ble_eq_true rfl) lfRX3_25 tX_4 eX_4 rfl dX3_readNumber_28 (pc2 := 31) rfl ?_
  obtain ⟨r2, r2h, h⟩ := kw_bind_e h
  refine kg_callV (μ := μX3_readNumber) (d := (d + 1)) rfl mVX3_tellFault [.int (1 : Int32), .int (σ.1 4 6)] [] (gX3_tellFault (E := E) (d := (d + 1)) (1 : Int32) (σ.1 4 6) σ r2h) rfl lmRX3_45 (ci := 3) rfl tX_4 eX_4 rfl (Nat.le_of_ble_eq_true rfl) dX3_readNumber_31 rfl (st2 := []) rfl (pc2 := 34) rfl ?_
  cases h
  exact kg_vret dX3_readNumber_34 rfl
set_option maxHeartbeats 4000000 in
set_option maxRecDepth 100000 in
theorem gjX3_readNumber_113 {E : kw_E} {d : Nat} (v2 : Int32) (v3 : Int32) (v4 : Int32) (v7 : Int32) (σ : kw_M) {r : kw_M} (h : jX3_readNumber_113 v2 v3 v4 v7 σ = some r) : kw_G E kwTX 48 (d + 2) μX3_readNumber 113 [(0, .ref 4), (2, .int v2), (3, .int v3), (4, .int v4), (7, .int v7)] [] σ none r := by
  unfold jX3_readNumber_113 at h
  refine kg_iload_n 2 dX3_readNumber_113 rfl (pc2 := 114) rfl ?_
  refine kg_bipush dX3_readNumber_114 kb_116 (pc2 := 116) rfl ?_
  refine kg_icmp_ne 151 dX3_readNumber_116 rfl (pc2 := 119) rfl (fun q16 => ?_) (fun q16 => ?_)
  · replace h := (if_neg q16).symm.trans h
    cases h
    exact kg_vret dX3_readNumber_151 rfl
  · replace h := (if_pos q16).symm.trans h
    refine kg_iload_n 1 dX3_readNumber_119 rfl (pc2 := 120) rfl ?_
    refine kg_iconst dX3_readNumber_120 ki_1 (pc2 := 121) rfl ?_
    refine kg_icmp_ne 151 dX3_readNumber_121 rfl (pc2 := 124) rfl (fun q17 => ?_) (fun q17 => ?_)
    · replace h := (if_neg q17).symm.trans h
      cases h
      exact kg_vret dX3_readNumber_151 rfl
    · replace h := (if_pos q17).symm.trans h
      refine kg_aload_n 0 dX3_readNumber_124 rfl (pc2 := 125) rfl ?_
      refine kg_getr clX3 rfl 3 (Nat.le_of_ble_eq_true rfl) lfRX3_15 tX_4 eX_4 rfl dX3_readNumber_125 (pc2 := 128) rfl ?_
      refine kg_iload 4 dX3_readNumber_128 rfl (pc2 := 130) rfl ?_
      refine kg_iconst dX3_readNumber_130 ki_1 (pc2 := 131) rfl ?_
      refine kg_isub dX3_readNumber_131 (pc2 := 132) rfl ?_
      obtain ⟨q18, h⟩ := kw_chk_e h
      refine kg_iald tX_37 eX_37 q18 (j := (v7 - (1 : Int32)).toNatClampNeg) rfl dX3_readNumber_132 (pc2 := 133) rfl ?_
      refine kg_aload_n 0 dX3_readNumber_133 rfl (pc2 := 134) rfl ?_
      refine kg_getr clX3 rfl 3 (Nat.le_of_ble_eq_true rfl) lfRX3_15 tX_4 eX_4 rfl dX3_readNumber_134 (pc2 := 137) rfl ?_
      refine kg_iload 4 dX3_readNumber_137 rfl (pc2 := 139) rfl ?_
      obtain ⟨q19, h⟩ := kw_chk_e h
      refine kg_iald tX_37 eX_37 q19 (j := v7.toNatClampNeg) rfl dX3_readNumber_139 (pc2 := 140) rfl ?_
      refine kg_icmp_ne 151 dX3_readNumber_140 rfl (pc2 := 143) rfl (fun q20 => ?_) (fun q20 => ?_)
      · replace h := (if_neg q20).symm.trans h
        cases h
        exact kg_vret dX3_readNumber_151 rfl
      · replace h := (if_pos q20).symm.trans h
        refine kg_aload_n 0 dX3_readNumber_143 rfl (pc2 := 144) rfl ?_
        refine kg_bipush dX3_readNumber_144 kb_6 (pc2 := 146) rfl ?_
        refine kg_iload 3 dX3_readNumber_146 rfl (pc2 := 148) rfl ?_
        obtain ⟨r21, r21h, h⟩ := kw_bind_e h
        refine kg_callV (μ := μX3_readNumber) (d := (d + 1)) rfl mVX3_tellFault [.int (6 : Int32), .int v4] [] (gX3_tellFault (E := E) (d := (d + 1)) (6 : Int32) v4 σ r21h) rfl lmRX3_45 (ci := 3) rfl tX_4 eX_4 rfl (Nat.le_of_ble_eq_true rfl) dX3_readNumber_148 rfl (st2 := []) rfl (pc2 := 151) rfl ?_
        cases h
        exact kg_vret dX3_readNumber_151 rfl
set_option maxHeartbeats 4000000 in
set_option maxRecDepth 100000 in
theorem gX3_readNumber {E : kw_E} {d : Nat} (a1 : Int32) (a2 : Int32) (a3 : Int32) (σ : kw_M) {r : kw_M} (h : fX3_readNumber a1 a2 a3 σ = some r) : kw_Met E kwTX 48 (d + 2) μX3_readNumber [.ref 4, .int a1, .int a2, .int a3] σ none r := by
  refine kw_enter plRX3 (Nat.le_of_ble_eq_true rfl) ?_
  show kw_G E kwTX 48 (d + 2) μX3_readNumber 0 [(0, .ref 4), (1, .int a1), (2, .int a2), (3, .int a3)] [] σ none r
  unfold fX3_readNumber at h
  refine kg_aload_n 0 dX3_readNumber_0 rfl (pc2 := 1) rfl ?_
  refine kg_geti clX3 rfl 6 (Nat.le_of_ble_eq_true rfl) lfRX3_25 tX_4 eX_4 rfl dX3_readNumber_1 (pc2 := 4) rfl ?_
  refine kg_aload_n 0 dX3_readNumber_4 rfl (pc2 := 5) rfl ?_
  refine kg_geti clX3 rfl 5 (Nat.le_of_ble_eq_true rfl) lfRX3_21 tX_4 eX_4 rfl dX3_readNumber_5 (pc2 := 8) rfl ?_
  refine kg_icmp_ge 25 dX3_readNumber_8 rfl (pc2 := 11) rfl (fun q1 => ?_) (fun q1 => ?_)
  · replace h := (if_pos q1).symm.trans h
    refine kg_sub [0] (lv2 := [(0, .ref 4)]) rfl ?_
    exact gjX3_readNumber_25 σ h
  · replace h := (if_neg q1).symm.trans h
    refine kg_aload_n 0 dX3_readNumber_11 rfl (pc2 := 12) rfl ?_
    obtain ⟨q3, h⟩ := kw_chk_e h
    refine kg_getD clX3 rfl 4 (Nat.le_of_ble_eq_true rfl) lfRX3_18 tX_4 eX_4 rfl q3 (r := 35) (by decide) dX3_readNumber_12 (pc2 := 15) rfl ?_
    refine kg_aload_n 0 dX3_readNumber_15 rfl (pc2 := 16) rfl ?_
    refine kg_geti clX3 rfl 6 (Nat.le_of_ble_eq_true rfl) lfRX3_25 tX_4 eX_4 rfl dX3_readNumber_16 (pc2 := 19) rfl ?_
    obtain ⟨q4, h⟩ := kw_chk_e h
    refine kg_iald tX_35 eX_35 q4 (j := (σ.1 4 6).toNatClampNeg) rfl dX3_readNumber_19 (pc2 := 20) rfl ?_
    refine kg_bipush dX3_readNumber_20 kb_32 (pc2 := 22) rfl ?_
    refine kg_icmp_eq 35 dX3_readNumber_22 rfl (pc2 := 25) rfl (fun q5 => ?_) (fun q5 => ?_)
    · replace h := (if_pos q5).symm.trans h
      refine kg_aload_n 0 dX3_readNumber_35 rfl (pc2 := 36) rfl ?_
      refine kg_dup dX3_readNumber_36 rfl (pc2 := 37) rfl ?_
      refine kg_geti clX3 rfl 6 (Nat.le_of_ble_eq_true rfl) lfRX3_25 tX_4 eX_4 rfl dX3_readNumber_37 (pc2 := 40) rfl ?_
      refine kg_iconst dX3_readNumber_40 ki_1 (pc2 := 41) rfl ?_
      refine kg_iadd dX3_readNumber_41 (pc2 := 42) rfl ?_
      obtain ⟨s6, s6e, h⟩ := kw_let_e h
      refine kg_puti clX3 rfl 6 (Nat.le_of_ble_eq_true rfl) lfRX3_25 rfl tX_4 eX_4 rfl (ty := .int) (by decide +kernel) rfl rfl s6e dX3_readNumber_42 (pc2 := 45) rfl ?_
      refine kg_aload_n 0 dX3_readNumber_45 rfl (pc2 := 46) rfl ?_
      refine kg_geti clX3 rfl 6 (Nat.le_of_ble_eq_true rfl) lfRX3_25 tX_4 eX_4 rfl dX3_readNumber_46 (pc2 := 49) rfl ?_
      obtain ⟨x7, x7e, h⟩ := kw_let_e h
      refine kg_istore dX3_readNumber_49 (Nat.le_of_ble_eq_true rfl) x7e (lv2 := [(4, .int x7), (0, .ref 4), (1, .int a1), (2, .int a2), (3, .int a3)]) rfl (pc2 := 51) rfl ?_
      refine kg_aload_n 1 dX3_readNumber_51 rfl (pc2 := 52) rfl ?_
      obtain ⟨r8, r8h, h⟩ := kw_bind_e h
      refine kg_callV (μ := μX3_readNumber) (d := (d + 1)) rfl mVX3_readValue [] [] (gX3_readValue (E := E) (d := d) s6 r8h) rfl lmRX3_114 (ci := 3) rfl tX_4 eX_4 rfl (Nat.le_of_ble_eq_true rfl) dX3_readNumber_52 rfl (st2 := [.long r8.1]) rfl (pc2 := 55) rfl ?_
      refine kg_lstore dX3_readNumber_55 (Nat.le_of_ble_eq_true rfl) rfl (lv2 := [(5, .long r8.1), (4, .int x7), (0, .ref 4), (1, .int a1), (2, .int a2), (3, .int a3)]) rfl (pc2 := 57) rfl ?_
      refine kg_aload_n 2 dX3_readNumber_57 rfl (pc2 := 58) rfl ?_
      refine kg_geti clX3 rfl 7 (Nat.le_of_ble_eq_true rfl) lfRX3_28 tX_4 eX_4 rfl dX3_readNumber_58 (pc2 := 61) rfl ?_
      refine kg_if_eq 65 dX3_readNumber_61 rfl (pc2 := 64) rfl (fun q9 => ?_) (fun q9 => ?_)
      · replace h := (if_pos q9).symm.trans h
        refine kg_aload_n 2 dX3_readNumber_65 rfl (pc2 := 66) rfl ?_
        refine kg_iload_n 5 dX3_readNumber_66 rfl (pc2 := 67) rfl ?_
        refine kg_lload 0 dX3_readNumber_67 rfl (pc2 := 69) rfl ?_
        obtain ⟨r10, r10h, h⟩ := kw_bind_e h
        refine kg_callV (μ := μX3_readNumber) (d := (d + 1)) rfl mVX3_isTold [.int a3, .long r8.1] [] (gX3_isTold (E := E) (d := (d + 1)) a3 r8.1 r8.2 r10h) rfl lmRX3_118 (ci := 3) rfl tX_4 eX_4 rfl (Nat.le_of_ble_eq_true rfl) dX3_readNumber_69 rfl (st2 := [.int r10]) rfl (pc2 := 72) rfl ?_
        refine kg_if_ne 83 dX3_readNumber_72 rfl (pc2 := 75) rfl (fun q11 => ?_) (fun q11 => ?_)
        · replace h := (if_neg q11).symm.trans h
          refine kg_iload_n 3 dX3_readNumber_83 rfl (pc2 := 84) rfl ?_
          refine kg_iconst dX3_readNumber_84 ki_3 (pc2 := 85) rfl ?_
          refine kg_imul dX3_readNumber_85 (pc2 := 86) rfl ?_
          refine kg_iload_n 4 dX3_readNumber_86 rfl (pc2 := 87) rfl ?_
          refine kg_iadd dX3_readNumber_87 (pc2 := 88) rfl ?_
          obtain ⟨x12, x12e, h⟩ := kw_let_e h
          refine kg_istore dX3_readNumber_88 (Nat.le_of_ble_eq_true rfl) x12e (lv2 := [(7, .int x12), (5, .long r8.1), (4, .int x7), (0, .ref 4), (1, .int a1), (2, .int a2), (3, .int a3)]) rfl (pc2 := 90) rfl ?_
          refine kg_aload_n 3 dX3_readNumber_90 rfl (pc2 := 91) rfl ?_
          refine kg_getr clX3 rfl 3 (Nat.le_of_ble_eq_true rfl) lfRX3_15 tX_4 eX_4 rfl dX3_readNumber_91 (pc2 := 94) rfl ?_
          refine kg_iload 0 dX3_readNumber_94 rfl (pc2 := 96) rfl ?_
          refine kg_lload 1 dX3_readNumber_96 rfl (pc2 := 98) rfl ?_
          refine kg_l2i dX3_readNumber_98 (pc2 := 99) rfl ?_
          obtain ⟨q13, h⟩ := kw_chk_e h
          obtain ⟨s14, s14e, h⟩ := kw_let_e h
          refine kg_iast tX_37 eX_37 q13 (j := x12.toNatClampNeg) rfl s14e dX3_readNumber_99 (pc2 := 100) rfl ?_
          refine kg_iload_n 6 dX3_readNumber_100 rfl (pc2 := 101) rfl ?_
          refine kg_bipush dX3_readNumber_101 kb_110 (pc2 := 103) rfl ?_
          refine kg_icmp_ne 113 dX3_readNumber_103 rfl (pc2 := 106) rfl (fun q15 => ?_) (fun q15 => ?_)
          · replace h := (if_neg q15).symm.trans h
            refine kg_sub [3, 5, 6, 2, 0] (lv2 := [(0, .ref 4), (2, .int a2), (3, .int a3), (4, .int x7), (7, .int x12)]) rfl ?_
            exact gjX3_readNumber_113 a2 a3 x7 x12 s14 h
          · replace h := (if_pos q15).symm.trans h
            refine kg_aload_n 3 dX3_readNumber_106 rfl (pc2 := 107) rfl ?_
            refine kg_lload 1 dX3_readNumber_107 rfl (pc2 := 109) rfl ?_
            refine kg_l2i dX3_readNumber_109 (pc2 := 110) rfl ?_
            obtain ⟨s22, s22e, h⟩ := kw_let_e h
            refine kg_puti clX3 rfl 0 (Nat.le_of_ble_eq_true rfl) lfRX3_35 rfl tX_4 eX_4 rfl (ty := .int) (by decide +kernel) rfl rfl s22e dX3_readNumber_110 (pc2 := 113) rfl ?_
            refine kg_sub [3, 5, 6, 2, 0] (lv2 := [(0, .ref 4), (2, .int a2), (3, .int a3), (4, .int x7), (7, .int x12)]) rfl ?_
            exact gjX3_readNumber_113 a2 a3 x7 x12 s22 h
        · replace h := (if_pos q11).symm.trans h
          refine kg_aload_n 2 dX3_readNumber_75 rfl (pc2 := 76) rfl ?_
          refine kg_iconst dX3_readNumber_76 ki_3 (pc2 := 77) rfl ?_
          refine kg_iload 1 dX3_readNumber_77 rfl (pc2 := 79) rfl ?_
          obtain ⟨r23, r23h, h⟩ := kw_bind_e h
          refine kg_callV (μ := μX3_readNumber) (d := (d + 1)) rfl mVX3_tellFault [.int (3 : Int32), .int x7] [] (gX3_tellFault (E := E) (d := (d + 1)) (3 : Int32) x7 r8.2 r23h) rfl lmRX3_45 (ci := 3) rfl tX_4 eX_4 rfl (Nat.le_of_ble_eq_true rfl) dX3_readNumber_79 rfl (st2 := []) rfl (pc2 := 82) rfl ?_
          cases h
          exact kg_vret dX3_readNumber_82 rfl
      · replace h := (if_neg q9).symm.trans h
        cases h
        exact kg_vret dX3_readNumber_64 rfl
    · replace h := (if_neg q5).symm.trans h
      refine kg_sub [0] (lv2 := [(0, .ref 4)]) rfl ?_
      exact gjX3_readNumber_25 σ h
set_option maxHeartbeats 4000000 in
set_option maxRecDepth 100000 in
theorem lX3_readClause_26 {E : kw_E} {d : Nat} (v1 : Int32) (v2 : Nat) (v3 : Int32) (σ : kw_M) {v : Option Value} {σ2 : kw_M} {o : (Int32 × kw_M) ⊕ (kw_M)} (h : bX3_readClause_26 v1 v2 v3 σ = some o) (hk : Sum.elim (fun s => kw_G E kwTX 48 (d + 7) μX3_readClause 26 [(0, .ref 4), (1, .int v1), (2, .ref v2), (3, .int s.1)] [] s.2 v σ2) (fun y => kw_G E kwTX 48 (d + 7) μX3_readClause 58 [(0, .ref 4), (1, .int v1)] [] y v σ2) o) : kw_G E kwTX 48 (d + 7) μX3_readClause 26 [(0, .ref 4), (1, .int v1), (2, .ref v2), (3, .int v3)] [] σ v σ2 := by
  unfold bX3_readClause_26 at h
  refine kg_iload_n 3 dX3_readClause_26 rfl (pc2 := 27) rfl ?_
  refine kg_aload_n 2 dX3_readClause_27 rfl (pc2 := 28) rfl ?_
  obtain ⟨r5, r5h, h⟩ := kw_bind_e h
  refine kg_strlen (μ := μX3_readClause) (d := (d + 5)) rfl r5h rfl lmRX3_57 (Nat.le_of_ble_eq_true rfl) dX3_readClause_28 (pc2 := 31) rfl ?_
  refine kg_icmp_ge 58 dX3_readClause_31 rfl (pc2 := 34) rfl (fun q6 => ?_) (fun q6 => ?_)
  · replace h := (if_pos q6).symm.trans h
    refine kg_sub [0, 1] (lv2 := [(0, .ref 4), (1, .int v1)]) rfl ?_
    cases h
    exact hk
  · replace h := (if_neg q6).symm.trans h
    refine kg_aload_n 0 dX3_readClause_34 rfl (pc2 := 35) rfl ?_
    refine kg_geti clX3 rfl 7 (Nat.le_of_ble_eq_true rfl) lfRX3_28 tX_4 eX_4 rfl dX3_readClause_35 (pc2 := 38) rfl ?_
    refine kg_if_ne 58 dX3_readClause_38 rfl (pc2 := 41) rfl (fun q7 => ?_) (fun q7 => ?_)
    · replace h := (if_neg q7).symm.trans h
      refine kg_sub [0, 1] (lv2 := [(0, .ref 4), (1, .int v1)]) rfl ?_
      cases h
      exact hk
    · replace h := (if_pos q7).symm.trans h
      refine kg_aload_n 0 dX3_readClause_41 rfl (pc2 := 42) rfl ?_
      refine kg_iload_n 1 dX3_readClause_42 rfl (pc2 := 43) rfl ?_
      refine kg_iload_n 3 dX3_readClause_43 rfl (pc2 := 44) rfl ?_
      refine kg_aload_n 2 dX3_readClause_44 rfl (pc2 := 45) rfl ?_
      refine kg_iload_n 3 dX3_readClause_45 rfl (pc2 := 46) rfl ?_
      obtain ⟨r8, r8h, h⟩ := kw_bind_e h
      refine kg_strchr (μ := μX3_readClause) (d := (d + 3)) rfl r8h rfl lmRX3_63 (Nat.le_of_ble_eq_true rfl) dX3_readClause_46 (pc2 := 49) rfl ?_
      obtain ⟨r9, r9h, h⟩ := kw_bind_e h
      refine kg_callV (μ := μX3_readClause) (d := (d + 6)) rfl mVX3_readNumber [.int v1, .int v3, .int r8] [] (gX3_readNumber (E := E) (d := (d + 4)) v1 v3 r8 σ r9h) rfl lmRX3_67 (ci := 3) rfl tX_4 eX_4 rfl (Nat.le_of_ble_eq_true rfl) dX3_readClause_49 rfl (st2 := []) rfl (pc2 := 52) rfl ?_
      obtain ⟨x10, x10e, h⟩ := kw_let_e h
      refine kg_iinc 3 dX3_readClause_52 rfl (Nat.le_of_ble_eq_true rfl) x10e (lv2 := [(3, .int x10), (0, .ref 4), (1, .int v1), (2, .ref v2)]) rfl (pc2 := 55) rfl ?_
      refine kg_goto 26 dX3_readClause_55 rfl ?_
      refine kg_sub [1, 2, 3, 0] (lv2 := [(0, .ref 4), (1, .int v1), (2, .ref v2), (3, .int x10)]) rfl ?_
      cases h
      exact hk
set_option maxHeartbeats 4000000 in
set_option maxRecDepth 100000 in
theorem gjX3_readClause_58 {E : kw_E} {d : Nat} (v1 : Int32) (σ : kw_M) {r : Int32 × kw_M} (h : jX3_readClause_58 v1 σ = some r) : kw_G E kwTX 48 (d + 7) μX3_readClause 58 [(0, .ref 4), (1, .int v1)] [] σ (some (Value.int r.1)) r.2 := by
  unfold jX3_readClause_58 at h
  refine kg_aload_n 0 dX3_readClause_58 rfl (pc2 := 59) rfl ?_
  refine kg_geti clX3 rfl 7 (Nat.le_of_ble_eq_true rfl) lfRX3_28 tX_4 eX_4 rfl dX3_readClause_59 (pc2 := 62) rfl ?_
  refine kg_if_eq 67 dX3_readClause_62 rfl (pc2 := 65) rfl (fun q12 => ?_) (fun q12 => ?_)
  · replace h := (if_pos q12).symm.trans h
    refine kg_aload_n 0 dX3_readClause_67 rfl (pc2 := 68) rfl ?_
    refine kg_iload_n 1 dX3_readClause_68 rfl (pc2 := 69) rfl ?_
    refine kg_iconst dX3_readClause_69 ki_1 (pc2 := 70) rfl ?_
    refine kg_iadd dX3_readClause_70 (pc2 := 71) rfl ?_
    obtain ⟨s13, s13e, h⟩ := kw_let_e h
    refine kg_puti clX3 rfl 1 (Nat.le_of_ble_eq_true rfl) lfRX3_38 rfl tX_4 eX_4 rfl (ty := .int) (by decide +kernel) rfl rfl s13e dX3_readClause_71 (pc2 := 74) rfl ?_
    refine kg_aload_n 0 dX3_readClause_74 rfl (pc2 := 75) rfl ?_
    refine kg_geti clX3 rfl 6 (Nat.le_of_ble_eq_true rfl) lfRX3_25 tX_4 eX_4 rfl dX3_readClause_75 (pc2 := 78) rfl ?_
    refine kg_aload_n 0 dX3_readClause_78 rfl (pc2 := 79) rfl ?_
    refine kg_geti clX3 rfl 5 (Nat.le_of_ble_eq_true rfl) lfRX3_21 tX_4 eX_4 rfl dX3_readClause_79 (pc2 := 82) rfl ?_
    refine kg_icmp_lt 87 dX3_readClause_82 rfl (pc2 := 85) rfl (fun q14 => ?_) (fun q14 => ?_)
    · replace h := (if_pos q14).symm.trans h
      refine kg_aload_n 0 dX3_readClause_87 rfl (pc2 := 88) rfl ?_
      obtain ⟨q15, h⟩ := kw_chk_e h
      refine kg_getD clX3 rfl 4 (Nat.le_of_ble_eq_true rfl) lfRX3_18 tX_4 eX_4 rfl q15 (r := 35) (by decide) dX3_readClause_88 (pc2 := 91) rfl ?_
      refine kg_aload_n 0 dX3_readClause_91 rfl (pc2 := 92) rfl ?_
      refine kg_geti clX3 rfl 6 (Nat.le_of_ble_eq_true rfl) lfRX3_25 tX_4 eX_4 rfl dX3_readClause_92 (pc2 := 95) rfl ?_
      obtain ⟨q16, h⟩ := kw_chk_e h
      refine kg_iald tX_35 eX_35 q16 (j := (s13.1 4 6).toNatClampNeg) rfl dX3_readClause_95 (pc2 := 96) rfl ?_
      refine kg_bipush dX3_readClause_96 kb_59 (pc2 := 98) rfl ?_
      refine kg_icmp_eq 112 dX3_readClause_98 rfl (pc2 := 101) rfl (fun q17 => ?_) (fun q17 => ?_)
      · replace h := (if_pos q17).symm.trans h
        refine kg_aload_n 0 dX3_readClause_112 rfl (pc2 := 113) rfl ?_
        refine kg_dup dX3_readClause_113 rfl (pc2 := 114) rfl ?_
        refine kg_geti clX3 rfl 6 (Nat.le_of_ble_eq_true rfl) lfRX3_25 tX_4 eX_4 rfl dX3_readClause_114 (pc2 := 117) rfl ?_
        refine kg_iconst dX3_readClause_117 ki_1 (pc2 := 118) rfl ?_
        refine kg_iadd dX3_readClause_118 (pc2 := 119) rfl ?_
        obtain ⟨s18, s18e, h⟩ := kw_let_e h
        refine kg_puti clX3 rfl 6 (Nat.le_of_ble_eq_true rfl) lfRX3_25 rfl tX_4 eX_4 rfl (ty := .int) (by decide +kernel) rfl rfl s18e dX3_readClause_119 (pc2 := 122) rfl ?_
        refine kg_iconst dX3_readClause_122 ki_1 (pc2 := 123) rfl ?_
        cases h
        exact kg_iret (ty := .boolean) dX3_readClause_123 rfl rfl
      · replace h := (if_neg q17).symm.trans h
        refine kg_aload_n 0 dX3_readClause_101 rfl (pc2 := 102) rfl ?_
        refine kg_iconst dX3_readClause_102 ki_1 (pc2 := 103) rfl ?_
        refine kg_aload_n 0 dX3_readClause_103 rfl (pc2 := 104) rfl ?_
        refine kg_geti clX3 rfl 6 (Nat.le_of_ble_eq_true rfl) lfRX3_25 tX_4 eX_4 rfl dX3_readClause_104 (pc2 := 107) rfl ?_
        obtain ⟨r19, r19h, h⟩ := kw_bind_e h
        refine kg_callV (μ := μX3_readClause) (d := (d + 6)) rfl mVX3_tellFault [.int (1 : Int32), .int (s13.1 4 6)] [] (gX3_tellFault (E := E) (d := (d + 6)) (1 : Int32) (s13.1 4 6) s13 r19h) rfl lmRX3_45 (ci := 3) rfl tX_4 eX_4 rfl (Nat.le_of_ble_eq_true rfl) dX3_readClause_107 rfl (st2 := []) rfl (pc2 := 110) rfl ?_
        refine kg_iconst dX3_readClause_110 ki_0 (pc2 := 111) rfl ?_
        cases h
        exact kg_iret (ty := .boolean) dX3_readClause_111 rfl rfl
    · replace h := (if_neg q14).symm.trans h
      refine kg_iconst dX3_readClause_85 ki_0 (pc2 := 86) rfl ?_
      cases h
      exact kg_iret (ty := .boolean) dX3_readClause_86 rfl rfl
  · replace h := (if_neg q12).symm.trans h
    refine kg_iconst dX3_readClause_65 ki_0 (pc2 := 66) rfl ?_
    cases h
    exact kg_iret (ty := .boolean) dX3_readClause_66 rfl rfl
set_option maxHeartbeats 4000000 in
set_option maxRecDepth 100000 in
theorem gX3_readClause {E : kw_E} {d : Nat} (a1 : Int32) (σ : kw_M) {r : Int32 × kw_M} (h : fX3_readClause a1 σ = some r) : kw_Met E kwTX 48 (d + 7) μX3_readClause [.ref 4, .int a1] σ (some (Value.int r.1)) r.2 := by
  refine kw_enter plRX3 (Nat.le_of_ble_eq_true rfl) ?_
  show kw_G E kwTX 48 (d + 7) μX3_readClause 0 [(0, .ref 4), (1, .int a1)] [] σ (some (Value.int r.1)) r.2
  unfold fX3_readClause at h
  refine kg_aload_n 0 dX3_readClause_0 rfl (pc2 := 1) rfl ?_
  refine kg_iload_n 1 dX3_readClause_1 rfl (pc2 := 2) rfl ?_
  obtain ⟨r1, r1h, h⟩ := kw_bind_e h
  refine kg_callV (μ := μX3_readClause) (d := (d + 6)) rfl mVX3_readWord [.int a1] [] (gX3_readWord (E := E) (d := d) a1 σ r1h) rfl lmRX3_49 (ci := 3) rfl tX_4 eX_4 rfl (Nat.le_of_ble_eq_true rfl) dX3_readClause_2 rfl (st2 := []) rfl (pc2 := 5) rfl ?_
  refine kg_aload_n 0 dX3_readClause_5 rfl (pc2 := 6) rfl ?_
  refine kg_geti clX3 rfl 7 (Nat.le_of_ble_eq_true rfl) lfRX3_28 tX_4 eX_4 rfl dX3_readClause_6 (pc2 := 9) rfl ?_
  refine kg_if_eq 14 dX3_readClause_9 rfl (pc2 := 12) rfl (fun q2 => ?_) (fun q2 => ?_)
  · replace h := (if_pos q2).symm.trans h
    refine kg_aload_n 0 dX3_readClause_14 rfl (pc2 := 15) rfl ?_
    refine kg_getr clX3 rfl 2 (Nat.le_of_ble_eq_true rfl) lfRX3_9 tX_4 eX_4 rfl dX3_readClause_15 (pc2 := 18) rfl ?_
    refine kg_iload_n 1 dX3_readClause_18 rfl (pc2 := 19) rfl ?_
    obtain ⟨q3, h⟩ := kw_chk_e h
    refine kg_iald tX_36 eX_36 q3 (j := a1.toNatClampNeg) rfl dX3_readClause_19 (pc2 := 20) rfl ?_
    obtain ⟨r4, r4h, h⟩ := kw_bind_e h
    refine kg_callS (μ := μX3_readClause) (d := (d + 6)) rfl mSX3_shapeOf [.int (r1.1 36 a1.toNatClampNeg)] [] (gX3_shapeOf (E := E) (d := (d + 6)) (r1.1 36 a1.toNatClampNeg) r1 r4h) rfl lmRX3_53 rfl (Nat.le_of_ble_eq_true rfl) dX3_readClause_20 rfl (st2 := [.ref r4]) rfl (pc2 := 23) rfl ?_
    refine kg_astore_n dX3_readClause_23 rfl (Nat.le_of_ble_eq_true rfl) rfl (lv2 := [(2, .ref r4), (0, .ref 4), (1, .int a1)]) rfl (pc2 := 24) rfl ?_
    refine kg_iconst dX3_readClause_24 ki_0 (pc2 := 25) rfl ?_
    refine kg_istore_n dX3_readClause_25 rfl (Nat.le_of_ble_eq_true rfl) rfl (lv2 := [(3, .int (0 : Int32)), (2, .ref r4), (0, .ref 4), (1, .int a1)]) rfl (pc2 := 26) rfl ?_
    refine kg_sub [2, 3, 1, 0] (lv2 := [(0, .ref 4), (1, .int a1), (2, .ref r4), (3, .int (0 : Int32))]) rfl ?_
    obtain ⟨x11, x11h, h⟩ := kw_bind_e h
    refine kw_loop_e (P := fun s => kw_G E kwTX 48 (d + 7) μX3_readClause 26 [(0, .ref 4), (1, .int a1), (2, .ref r4), (3, .int s.1)] [] s.2 (some (Value.int r.1)) r.2) (K := fun y => kw_G E kwTX 48 (d + 7) μX3_readClause 58 [(0, .ref 4), (1, .int a1)] [] y (some (Value.int r.1)) r.2) (fun s o h0 hk => lX3_readClause_26 a1 r4 s.1 s.2 h0 hk) kw_F _ _ x11h ?_
    show kw_G E kwTX 48 (d + 7) μX3_readClause 58 [(0, .ref 4), (1, .int a1)] [] x11 (some (Value.int r.1)) r.2
    exact gjX3_readClause_58 a1 x11 h
  · replace h := (if_neg q2).symm.trans h
    refine kg_iconst dX3_readClause_12 ki_0 (pc2 := 13) rfl ?_
    cases h
    exact kg_iret (ty := .boolean) dX3_readClause_13 rfl rfl
set_option maxHeartbeats 4000000 in
set_option maxRecDepth 100000 in
theorem lX3_readText_42 {E : kw_E} {d : Nat} (v5 : Int32) (v6 : Int32) (σ : kw_M) {v : Option Value} {σ2 : kw_M} {o : (Int32 × Int32 × kw_M) ⊕ (Int32 × kw_M)} (h : bX3_readText_42 v5 v6 σ = some o) (hk : Sum.elim (fun s => kw_G E kwTX 48 (d + 8) μX3_readText 42 [(0, .ref 4), (5, .int s.1), (6, .int s.2.1)] [] s.2.2 v σ2) (fun y => kw_G E kwTX 48 (d + 8) μX3_readText 68 [(0, .ref 4), (5, .int y.1)] [] y.2 v σ2) o) : kw_G E kwTX 48 (d + 8) μX3_readText 42 [(0, .ref 4), (5, .int v5), (6, .int v6)] [] σ v σ2 := by
  unfold bX3_readText_42 at h
  refine kg_iload 2 dX3_readText_42 rfl (pc2 := 44) rfl ?_
  refine kg_bipush dX3_readText_44 kb_24 (pc2 := 46) rfl ?_
  refine kg_icmp_ge 68 dX3_readText_46 rfl (pc2 := 49) rfl (fun q9 => ?_) (fun q9 => ?_)
  · replace h := (if_pos q9).symm.trans h
    refine kg_sub [0, 1] (lv2 := [(0, .ref 4), (5, .int v5)]) rfl ?_
    cases h
    exact hk
  · replace h := (if_neg q9).symm.trans h
    refine kg_iload 1 dX3_readText_49 rfl (pc2 := 51) rfl ?_
    refine kg_if_eq 68 dX3_readText_51 rfl (pc2 := 54) rfl (fun q10 => ?_) (fun q10 => ?_)
    · replace h := (if_pos q10).symm.trans h
      refine kg_sub [0, 1] (lv2 := [(0, .ref 4), (5, .int v5)]) rfl ?_
      cases h
      exact hk
    · replace h := (if_neg q10).symm.trans h
      refine kg_aload_n 0 dX3_readText_54 rfl (pc2 := 55) rfl ?_
      refine kg_iload 2 dX3_readText_55 rfl (pc2 := 57) rfl ?_
      obtain ⟨r11, r11h, h⟩ := kw_bind_e h
      refine kg_callV (μ := μX3_readText) (d := (d + 7)) rfl mVX3_readClause [.int v6] [] (gX3_readClause (E := E) (d := d) v6 σ r11h) rfl lmRX3_41 (ci := 3) rfl tX_4 eX_4 rfl (Nat.le_of_ble_eq_true rfl) dX3_readText_57 rfl (st2 := [.int r11.1]) rfl (pc2 := 60) rfl ?_
      refine kg_istore dX3_readText_60 (Nat.le_of_ble_eq_true rfl) rfl (lv2 := [(5, .int r11.1), (0, .ref 4), (6, .int v6)]) rfl (pc2 := 62) rfl ?_
      obtain ⟨x12, x12e, h⟩ := kw_let_e h
      refine kg_iinc 2 dX3_readText_62 rfl (Nat.le_of_ble_eq_true rfl) x12e (lv2 := [(6, .int x12), (5, .int r11.1), (0, .ref 4)]) rfl (pc2 := 65) rfl ?_
      refine kg_goto 42 dX3_readText_65 rfl ?_
      refine kg_sub [2, 1, 0] (lv2 := [(0, .ref 4), (5, .int r11.1), (6, .int x12)]) rfl ?_
      cases h
      exact hk
set_option maxHeartbeats 4000000 in
set_option maxRecDepth 100000 in
theorem gjX3_readText_68 {E : kw_E} {d : Nat} (v5 : Int32) (σ : kw_M) {r : Int32 × kw_M} (h : jX3_readText_68 v5 σ = some r) : kw_G E kwTX 48 (d + 8) μX3_readText 68 [(0, .ref 4), (5, .int v5)] [] σ (some (Value.int r.1)) r.2 := by
  unfold jX3_readText_68 at h
  refine kg_iload 1 dX3_readText_68 rfl (pc2 := 70) rfl ?_
  refine kg_if_eq 82 dX3_readText_70 rfl (pc2 := 73) rfl (fun q14 => ?_) (fun q14 => ?_)
  · replace h := (if_pos q14).symm.trans h
    refine kg_aload_n 0 dX3_readText_82 rfl (pc2 := 83) rfl ?_
    refine kg_geti clX3 rfl 7 (Nat.le_of_ble_eq_true rfl) lfRX3_28 tX_4 eX_4 rfl dX3_readText_83 (pc2 := 86) rfl ?_
    cases h
    exact kg_iret (ty := .int) dX3_readText_86 rfl rfl
  · replace h := (if_neg q14).symm.trans h
    refine kg_aload_n 0 dX3_readText_73 rfl (pc2 := 74) rfl ?_
    refine kg_iconst dX3_readText_74 ki_4 (pc2 := 75) rfl ?_
    refine kg_aload_n 0 dX3_readText_75 rfl (pc2 := 76) rfl ?_
    refine kg_geti clX3 rfl 6 (Nat.le_of_ble_eq_true rfl) lfRX3_25 tX_4 eX_4 rfl dX3_readText_76 (pc2 := 79) rfl ?_
    obtain ⟨r15, r15h, h⟩ := kw_bind_e h
    refine kg_callV (μ := μX3_readText) (d := (d + 7)) rfl mVX3_tellFault [.int (4 : Int32), .int (σ.1 4 6)] [] (gX3_tellFault (E := E) (d := (d + 7)) (4 : Int32) (σ.1 4 6) σ r15h) rfl lmRX3_45 (ci := 3) rfl tX_4 eX_4 rfl (Nat.le_of_ble_eq_true rfl) dX3_readText_79 rfl (st2 := []) rfl (pc2 := 82) rfl ?_
    refine kg_aload_n 0 dX3_readText_82 rfl (pc2 := 83) rfl ?_
    refine kg_geti clX3 rfl 7 (Nat.le_of_ble_eq_true rfl) lfRX3_28 tX_4 eX_4 rfl dX3_readText_83 (pc2 := 86) rfl ?_
    cases h
    exact kg_iret (ty := .int) dX3_readText_86 rfl rfl
set_option maxHeartbeats 4000000 in
set_option maxRecDepth 100000 in
theorem gX3_readText {E : kw_E} {d : Nat} (a2 : Int32) (a3 : Int32) (a4 : Int32) (σ : kw_M) {r : Int32 × kw_M} (h : fX3_readText a2 a3 a4 σ = some r) : kw_Met E kwTX 48 (d + 8) μX3_readText [.ref 4, .ref 35, .int a2, .int a3, .int a4] σ (some (Value.int r.1)) r.2 := by
  refine kw_enter plRX3 (Nat.le_of_ble_eq_true rfl) ?_
  show kw_G E kwTX 48 (d + 8) μX3_readText 0 [(0, .ref 4), (1, .ref 35), (2, .int a2), (3, .int a3), (4, .int a4)] [] σ (some (Value.int r.1)) r.2
  unfold fX3_readText at h
  refine kg_aload_n 0 dX3_readText_0 rfl (pc2 := 1) rfl ?_
  refine kg_aload_n 1 dX3_readText_1 rfl (pc2 := 2) rfl ?_
  obtain ⟨s1, s1e, h⟩ := kw_let_e h
  refine kg_putD clX3 rfl 4 (Nat.le_of_ble_eq_true rfl) lfRX3_18 rfl tX_4 eX_4 rfl (x := 35) (by decide) (ty := .array .int) (by decide +kernel) (fun _ => rfl) (fun _ => rfl) s1e dX3_readText_2 (pc2 := 5) rfl ?_
  refine kg_aload_n 0 dX3_readText_5 rfl (pc2 := 6) rfl ?_
  refine kg_iload_n 2 dX3_readText_6 rfl (pc2 := 7) rfl ?_
  obtain ⟨s2, s2e, h⟩ := kw_let_e h
  refine kg_puti clX3 rfl 5 (Nat.le_of_ble_eq_true rfl) lfRX3_21 rfl tX_4 eX_4 rfl (ty := .int) (by decide +kernel) rfl rfl s2e dX3_readText_7 (pc2 := 10) rfl ?_
  refine kg_aload_n 0 dX3_readText_10 rfl (pc2 := 11) rfl ?_
  refine kg_iconst dX3_readText_11 ki_0 (pc2 := 12) rfl ?_
  obtain ⟨s3, s3e, h⟩ := kw_let_e h
  refine kg_puti clX3 rfl 6 (Nat.le_of_ble_eq_true rfl) lfRX3_25 rfl tX_4 eX_4 rfl (ty := .int) (by decide +kernel) rfl rfl s3e dX3_readText_12 (pc2 := 15) rfl ?_
  refine kg_aload_n 0 dX3_readText_15 rfl (pc2 := 16) rfl ?_
  refine kg_iconst dX3_readText_16 ki_0 (pc2 := 17) rfl ?_
  obtain ⟨s4, s4e, h⟩ := kw_let_e h
  refine kg_puti clX3 rfl 7 (Nat.le_of_ble_eq_true rfl) lfRX3_28 rfl tX_4 eX_4 rfl (ty := .int) (by decide +kernel) rfl rfl s4e dX3_readText_17 (pc2 := 20) rfl ?_
  refine kg_aload_n 0 dX3_readText_20 rfl (pc2 := 21) rfl ?_
  refine kg_iload_n 3 dX3_readText_21 rfl (pc2 := 22) rfl ?_
  obtain ⟨q5, h⟩ := kw_chk_e h
  obtain ⟨s6, s6e, h⟩ := kw_let_e h
  refine kg_puti clX3 rfl 8 (Nat.le_of_ble_eq_true rfl) lfRX3_31 rfl tX_4 eX_4 rfl (ty := .boolean) (by decide +kernel) (kw_isB_n q5) (kw_isB_f q5) s6e dX3_readText_22 (pc2 := 25) rfl ?_
  refine kg_aload_n 0 dX3_readText_25 rfl (pc2 := 26) rfl ?_
  refine kg_iload 4 dX3_readText_26 rfl (pc2 := 28) rfl ?_
  obtain ⟨s7, s7e, h⟩ := kw_let_e h
  refine kg_puti clX3 rfl 0 (Nat.le_of_ble_eq_true rfl) lfRX3_35 rfl tX_4 eX_4 rfl (ty := .int) (by decide +kernel) rfl rfl s7e dX3_readText_28 (pc2 := 31) rfl ?_
  refine kg_aload_n 0 dX3_readText_31 rfl (pc2 := 32) rfl ?_
  refine kg_iconst dX3_readText_32 ki_0 (pc2 := 33) rfl ?_
  obtain ⟨s8, s8e, h⟩ := kw_let_e h
  refine kg_puti clX3 rfl 1 (Nat.le_of_ble_eq_true rfl) lfRX3_38 rfl tX_4 eX_4 rfl (ty := .int) (by decide +kernel) rfl rfl s8e dX3_readText_33 (pc2 := 36) rfl ?_
  refine kg_iconst dX3_readText_36 ki_1 (pc2 := 37) rfl ?_
  refine kg_istore dX3_readText_37 (Nat.le_of_ble_eq_true rfl) rfl (lv2 := [(5, .int (1 : Int32)), (0, .ref 4), (1, .ref 35), (2, .int a2), (3, .int a3), (4, .int a4)]) rfl (pc2 := 39) rfl ?_
  refine kg_iconst dX3_readText_39 ki_0 (pc2 := 40) rfl ?_
  refine kg_istore dX3_readText_40 (Nat.le_of_ble_eq_true rfl) rfl (lv2 := [(6, .int (0 : Int32)), (5, .int (1 : Int32)), (0, .ref 4), (1, .ref 35), (2, .int a2), (3, .int a3), (4, .int a4)]) rfl (pc2 := 42) rfl ?_
  refine kg_sub [2, 1, 0] (lv2 := [(0, .ref 4), (5, .int (1 : Int32)), (6, .int (0 : Int32))]) rfl ?_
  obtain ⟨x13, x13h, h⟩ := kw_bind_e h
  refine kw_loop_e (P := fun s => kw_G E kwTX 48 (d + 8) μX3_readText 42 [(0, .ref 4), (5, .int s.1), (6, .int s.2.1)] [] s.2.2 (some (Value.int r.1)) r.2) (K := fun y => kw_G E kwTX 48 (d + 8) μX3_readText 68 [(0, .ref 4), (5, .int y.1)] [] y.2 (some (Value.int r.1)) r.2) (fun s o h0 hk => lX3_readText_42 s.1 s.2.1 s.2.2 h0 hk) kw_F _ _ x13h ?_
  show kw_G E kwTX 48 (d + 8) μX3_readText 68 [(0, .ref 4), (5, .int x13.1)] [] x13.2 (some (Value.int r.1)) r.2
  exact gjX3_readText_68 x13.1 x13.2 h
set_option maxHeartbeats 4000000 in
set_option maxRecDepth 100000 in
theorem gX4_beginWith {E : kw_E} {d : Nat} (a1 : Int32) (σ : kw_M) {r : kw_M} (h : fX4_beginWith a1 σ = some r) : kw_Met E kwTX 48 d μX4_beginWith [.ref 10, .int a1] σ none r := by
  refine kw_enter plRX4 (Nat.le_of_ble_eq_true rfl) ?_
  show kw_G E kwTX 48 d μX4_beginWith 0 [(0, .ref 10), (1, .int a1)] [] σ none r
  unfold fX4_beginWith at h
  refine kg_aload_n 0 dX4_beginWith_0 rfl (pc2 := 1) rfl ?_
  refine kg_iload_n 1 dX4_beginWith_1 rfl (pc2 := 2) rfl ?_
  obtain ⟨s1, s1e, h⟩ := kw_let_e h
  refine kg_puti clX4 rfl 0 (Nat.le_of_ble_eq_true rfl) lfRX4_9 rfl tX_10 eX_10 rfl (ty := .int) (by decide +kernel) rfl rfl s1e dX4_beginWith_2 (pc2 := 5) rfl ?_
  refine kg_aload_n 0 dX4_beginWith_5 rfl (pc2 := 6) rfl ?_
  refine kg_iconst dX4_beginWith_6 ki_0 (pc2 := 7) rfl ?_
  obtain ⟨s2, s2e, h⟩ := kw_let_e h
  refine kg_puti clX4 rfl 1 (Nat.le_of_ble_eq_true rfl) lfRX4_25 rfl tX_10 eX_10 rfl (ty := .int) (by decide +kernel) rfl rfl s2e dX4_beginWith_7 (pc2 := 10) rfl ?_
  refine kg_aload_n 0 dX4_beginWith_10 rfl (pc2 := 11) rfl ?_
  refine kg_lconst dX4_beginWith_11 kl_0 (pc2 := 12) rfl ?_
  obtain ⟨s3, s3e, h⟩ := kw_let_e h
  refine kg_putl clX4 rfl 2 (Nat.le_of_ble_eq_true rfl) lfRX4_28 rfl tX_10 eX_10 rfl (ty := .long) (by decide +kernel) rfl rfl s3e dX4_beginWith_12 (pc2 := 15) rfl ?_
  cases h
  exact kg_vret dX4_beginWith_15 rfl
set_option maxHeartbeats 4000000 in
set_option maxRecDepth 100000 in
theorem gX3_number {E : kw_E} {d : Nat} (a1 : Int32) (a2 : Int32) (σ : kw_M) {r : Int32} (h : fX3_number a1 a2 σ = some r) : kw_Met E kwTX 48 d μX3_number [.ref 4, .int a1, .int a2] σ (some (Value.int r)) σ := by
  refine kw_enter plRX3 (Nat.le_of_ble_eq_true rfl) ?_
  show kw_G E kwTX 48 d μX3_number 0 [(0, .ref 4), (1, .int a1), (2, .int a2)] [] σ (some (Value.int r)) σ
  unfold fX3_number at h
  refine kg_aload_n 0 dX3_number_0 rfl (pc2 := 1) rfl ?_
  refine kg_getr clX3 rfl 3 (Nat.le_of_ble_eq_true rfl) lfRX3_15 tX_4 eX_4 rfl dX3_number_1 (pc2 := 4) rfl ?_
  refine kg_iload_n 1 dX3_number_4 rfl (pc2 := 5) rfl ?_
  refine kg_iconst dX3_number_5 ki_3 (pc2 := 6) rfl ?_
  refine kg_imul dX3_number_6 (pc2 := 7) rfl ?_
  refine kg_iload_n 2 dX3_number_7 rfl (pc2 := 8) rfl ?_
  refine kg_iadd dX3_number_8 (pc2 := 9) rfl ?_
  obtain ⟨q1, h⟩ := kw_chk_e h
  refine kg_iald tX_37 eX_37 q1 (j := ((a1 * (3 : Int32)) + a2).toNatClampNeg) rfl dX3_number_9 (pc2 := 10) rfl ?_
  cases h
  exact kg_iret (ty := .int) dX3_number_10 rfl rfl
set_option maxHeartbeats 4000000 in
set_option maxRecDepth 100000 in
theorem gX4_addRoad {E : kw_E} {d : Nat} (a1 : Int32) (a2 : Int32) (a3 : Int32) (σ : kw_M) {r : Int32 × kw_M} (h : fX4_addRoad a1 a2 a3 σ = some r) : kw_Met E kwTX 48 d μX4_addRoad [.ref 10, .int a1, .int a2, .int a3] σ (some (Value.int r.1)) r.2 := by
  refine kw_enter plRX4 (Nat.le_of_ble_eq_true rfl) ?_
  show kw_G E kwTX 48 d μX4_addRoad 0 [(0, .ref 10), (1, .int a1), (2, .int a2), (3, .int a3)] [] σ (some (Value.int r.1)) r.2
  unfold fX4_addRoad at h
  refine kg_aload_n 0 dX4_addRoad_0 rfl (pc2 := 1) rfl ?_
  refine kg_geti clX4 rfl 1 (Nat.le_of_ble_eq_true rfl) lfRX4_25 tX_10 eX_10 rfl dX4_addRoad_1 (pc2 := 4) rfl ?_
  refine kg_bipush dX4_addRoad_4 kb_36 (pc2 := 6) rfl ?_
  refine kg_icmp_lt 11 dX4_addRoad_6 rfl (pc2 := 9) rfl (fun q1 => ?_) (fun q1 => ?_)
  · replace h := (if_pos q1).symm.trans h
    refine kg_aload_n 0 dX4_addRoad_11 rfl (pc2 := 12) rfl ?_
    refine kg_getr clX4 rfl 3 (Nat.le_of_ble_eq_true rfl) lfRX4_15 tX_10 eX_10 rfl dX4_addRoad_12 (pc2 := 15) rfl ?_
    refine kg_aload_n 0 dX4_addRoad_15 rfl (pc2 := 16) rfl ?_
    refine kg_geti clX4 rfl 1 (Nat.le_of_ble_eq_true rfl) lfRX4_25 tX_10 eX_10 rfl dX4_addRoad_16 (pc2 := 19) rfl ?_
    refine kg_iload_n 1 dX4_addRoad_19 rfl (pc2 := 20) rfl ?_
    obtain ⟨q2, h⟩ := kw_chk_e h
    obtain ⟨s3, s3e, h⟩ := kw_let_e h
    refine kg_iast tX_32 eX_32 q2 (j := (σ.1 10 1).toNatClampNeg) rfl s3e dX4_addRoad_20 (pc2 := 21) rfl ?_
    refine kg_aload_n 0 dX4_addRoad_21 rfl (pc2 := 22) rfl ?_
    refine kg_getr clX4 rfl 4 (Nat.le_of_ble_eq_true rfl) lfRX4_19 tX_10 eX_10 rfl dX4_addRoad_22 (pc2 := 25) rfl ?_
    refine kg_aload_n 0 dX4_addRoad_25 rfl (pc2 := 26) rfl ?_
    refine kg_geti clX4 rfl 1 (Nat.le_of_ble_eq_true rfl) lfRX4_25 tX_10 eX_10 rfl dX4_addRoad_26 (pc2 := 29) rfl ?_
    refine kg_iload_n 2 dX4_addRoad_29 rfl (pc2 := 30) rfl ?_
    obtain ⟨q4, h⟩ := kw_chk_e h
    obtain ⟨s5, s5e, h⟩ := kw_let_e h
    refine kg_iast tX_33 eX_33 q4 (j := (s3.1 10 1).toNatClampNeg) rfl s5e dX4_addRoad_30 (pc2 := 31) rfl ?_
    refine kg_aload_n 0 dX4_addRoad_31 rfl (pc2 := 32) rfl ?_
    refine kg_getr clX4 rfl 5 (Nat.le_of_ble_eq_true rfl) lfRX4_22 tX_10 eX_10 rfl dX4_addRoad_32 (pc2 := 35) rfl ?_
    refine kg_aload_n 0 dX4_addRoad_35 rfl (pc2 := 36) rfl ?_
    refine kg_geti clX4 rfl 1 (Nat.le_of_ble_eq_true rfl) lfRX4_25 tX_10 eX_10 rfl dX4_addRoad_36 (pc2 := 39) rfl ?_
    refine kg_iload_n 3 dX4_addRoad_39 rfl (pc2 := 40) rfl ?_
    obtain ⟨q6, h⟩ := kw_chk_e h
    obtain ⟨s7, s7e, h⟩ := kw_let_e h
    refine kg_iast tX_34 eX_34 q6 (j := (s5.1 10 1).toNatClampNeg) rfl s7e dX4_addRoad_40 (pc2 := 41) rfl ?_
    refine kg_aload_n 0 dX4_addRoad_41 rfl (pc2 := 42) rfl ?_
    refine kg_dup dX4_addRoad_42 rfl (pc2 := 43) rfl ?_
    refine kg_getl clX4 rfl 2 (Nat.le_of_ble_eq_true rfl) lfRX4_28 tX_10 eX_10 rfl dX4_addRoad_43 (pc2 := 46) rfl ?_
    refine kg_lconst dX4_addRoad_46 kl_1 (pc2 := 47) rfl ?_
    refine kg_aload_n 0 dX4_addRoad_47 rfl (pc2 := 48) rfl ?_
    refine kg_geti clX4 rfl 1 (Nat.le_of_ble_eq_true rfl) lfRX4_25 tX_10 eX_10 rfl dX4_addRoad_48 (pc2 := 51) rfl ?_
    refine kg_lshl dX4_addRoad_51 (pc2 := 52) rfl ?_
    refine kg_lor dX4_addRoad_52 (pc2 := 53) rfl ?_
    obtain ⟨s8, s8e, h⟩ := kw_let_e h
    refine kg_putl clX4 rfl 2 (Nat.le_of_ble_eq_true rfl) lfRX4_28 rfl tX_10 eX_10 rfl (ty := .long) (by decide +kernel) rfl rfl s8e dX4_addRoad_53 (pc2 := 56) rfl ?_
    refine kg_aload_n 0 dX4_addRoad_56 rfl (pc2 := 57) rfl ?_
    refine kg_dup dX4_addRoad_57 rfl (pc2 := 58) rfl ?_
    refine kg_geti clX4 rfl 1 (Nat.le_of_ble_eq_true rfl) lfRX4_25 tX_10 eX_10 rfl dX4_addRoad_58 (pc2 := 61) rfl ?_
    refine kg_iconst dX4_addRoad_61 ki_1 (pc2 := 62) rfl ?_
    refine kg_iadd dX4_addRoad_62 (pc2 := 63) rfl ?_
    obtain ⟨s9, s9e, h⟩ := kw_let_e h
    refine kg_puti clX4 rfl 1 (Nat.le_of_ble_eq_true rfl) lfRX4_25 rfl tX_10 eX_10 rfl (ty := .int) (by decide +kernel) rfl rfl s9e dX4_addRoad_63 (pc2 := 66) rfl ?_
    refine kg_aload_n 0 dX4_addRoad_66 rfl (pc2 := 67) rfl ?_
    refine kg_geti clX4 rfl 1 (Nat.le_of_ble_eq_true rfl) lfRX4_25 tX_10 eX_10 rfl dX4_addRoad_67 (pc2 := 70) rfl ?_
    refine kg_iconst dX4_addRoad_70 ki_1 (pc2 := 71) rfl ?_
    refine kg_isub dX4_addRoad_71 (pc2 := 72) rfl ?_
    cases h
    exact kg_iret (ty := .int) dX4_addRoad_72 rfl rfl
  · replace h := (if_neg q1).symm.trans h
    refine kg_iconst dX4_addRoad_9 ki_m1 (pc2 := 10) rfl ?_
    cases h
    exact kg_iret (ty := .int) dX4_addRoad_10 rfl rfl
set_option maxHeartbeats 4000000 in
set_option maxRecDepth 100000 in
theorem gX4_isOpen {E : kw_E} {d : Nat} (c0 : Nat) (hc0 : kx_4 c0) (a1 : Int32) (σ : kw_M) {r : Int32} (h : fX4_isOpen c0 a1 σ = some r) : kw_Met E kwTX 48 d μX4_isOpen [.ref c0, .int a1] σ (some (Value.int r)) σ := by
  refine kw_enter plRX4 (Nat.le_of_ble_eq_true rfl) ?_
  show kw_G E kwTX 48 d μX4_isOpen 0 [(0, .ref c0), (1, .int a1)] [] σ (some (Value.int r)) σ
  unfold fX4_isOpen at h
  refine kg_iload_n 1 dX4_isOpen_0 rfl (pc2 := 1) rfl ?_
  refine kg_if_lt 29 dX4_isOpen_1 rfl (pc2 := 4) rfl (fun q1 => ?_) (fun q1 => ?_)
  · replace h := (if_pos q1).symm.trans h
    refine kg_iconst dX4_isOpen_29 ki_0 (pc2 := 30) rfl ?_
    cases h
    exact kg_iret (ty := .boolean) dX4_isOpen_30 rfl rfl
  · replace h := (if_neg q1).symm.trans h
    refine kg_iload_n 1 dX4_isOpen_4 rfl (pc2 := 5) rfl ?_
    refine kg_aload_n 0 dX4_isOpen_5 rfl (pc2 := 6) rfl ?_
    refine kg_geti clX4 rfl 1 (Nat.le_of_ble_eq_true rfl) lfRX4_25 hc0.1 hc0.2.1 rfl dX4_isOpen_6 (pc2 := 9) rfl ?_
    refine kg_icmp_ge 29 dX4_isOpen_9 rfl (pc2 := 12) rfl (fun q2 => ?_) (fun q2 => ?_)
    · replace h := (if_pos q2).symm.trans h
      refine kg_iconst dX4_isOpen_29 ki_0 (pc2 := 30) rfl ?_
      cases h
      exact kg_iret (ty := .boolean) dX4_isOpen_30 rfl rfl
    · replace h := (if_neg q2).symm.trans h
      refine kg_aload_n 0 dX4_isOpen_12 rfl (pc2 := 13) rfl ?_
      refine kg_getl clX4 rfl 2 (Nat.le_of_ble_eq_true rfl) lfRX4_28 hc0.1 hc0.2.1 rfl dX4_isOpen_13 (pc2 := 16) rfl ?_
      refine kg_iload_n 1 dX4_isOpen_16 rfl (pc2 := 17) rfl ?_
      refine kg_lshr dX4_isOpen_17 (pc2 := 18) rfl ?_
      refine kg_lconst dX4_isOpen_18 kl_1 (pc2 := 19) rfl ?_
      refine kg_land dX4_isOpen_19 (pc2 := 20) rfl ?_
      refine kg_lconst dX4_isOpen_20 kl_0 (pc2 := 21) rfl ?_
      refine kg_lcmp_eq 29 dX4_isOpen_21 dX4_isOpen_22 rfl (pc2 := 25) rfl (fun q3 => ?_) (fun q3 => ?_)
      · replace h := (if_pos q3).symm.trans h
        refine kg_iconst dX4_isOpen_29 ki_0 (pc2 := 30) rfl ?_
        cases h
        exact kg_iret (ty := .boolean) dX4_isOpen_30 rfl rfl
      · replace h := (if_neg q3).symm.trans h
        refine kg_iconst dX4_isOpen_25 ki_1 (pc2 := 26) rfl ?_
        refine kg_goto 30 dX4_isOpen_26 rfl ?_
        cases h
        exact kg_iret (ty := .boolean) dX4_isOpen_30 rfl rfl
set_option maxHeartbeats 4000000 in
set_option maxRecDepth 100000 in
theorem lJ7_fill_d0a16_6 {E : kw_E} {d : Nat} (c0 : Nat) (hc0 : kx_a 1 12 c0) (v1 : Int64) (v4 : Int32) (v3 : Int32) (σ : kw_M) {v : Option Value} {σ2 : kw_M} {o : (Int32 × kw_M) ⊕ (kw_M)} (h : bJ7_fill_d0a16_6 c0 v1 v4 v3 σ = some o) (hk : Sum.elim (fun s => kw_G E kwTX 48 d μJ7_fill_d0a16 6 [(0, .ref c0), (1, .long v1), (3, .int s.1), (4, .int v4)] [] s.2 v σ2) (fun y => kw_G E kwTX 48 d μJ7_fill_d0a16 22 [] [] y v σ2) o) : kw_G E kwTX 48 d μJ7_fill_d0a16 6 [(0, .ref c0), (1, .long v1), (3, .int v3), (4, .int v4)] [] σ v σ2 := by
  unfold bJ7_fill_d0a16_6 at h
  refine kg_iload_n 2 dJ7_fill_d0a16_6 rfl (pc2 := 7) rfl ?_
  refine kg_iload 3 dJ7_fill_d0a16_7 rfl (pc2 := 9) rfl ?_
  refine kg_icmp_ge 22 dJ7_fill_d0a16_9 rfl (pc2 := 12) rfl (fun q1 => ?_) (fun q1 => ?_)
  · replace h := (if_pos q1).symm.trans h
    refine kg_sub [] (lv2 := []) rfl ?_
    cases h
    exact hk
  · replace h := (if_neg q1).symm.trans h
    refine kg_aload_n 0 dJ7_fill_d0a16_12 rfl (pc2 := 13) rfl ?_
    refine kg_iload_n 2 dJ7_fill_d0a16_13 rfl (pc2 := 14) rfl ?_
    refine kg_lload_n 1 dJ7_fill_d0a16_14 rfl (pc2 := 15) rfl ?_
    obtain ⟨q2, h⟩ := kw_chk_e h
    obtain ⟨s3, s3e, h⟩ := kw_let_e h
    refine kg_last hc0.1 hc0.2 q2 (j := v3.toNatClampNeg) rfl s3e dJ7_fill_d0a16_15 (pc2 := 16) rfl ?_
    obtain ⟨x4, x4e, h⟩ := kw_let_e h
    refine kg_iinc 2 dJ7_fill_d0a16_16 rfl (Nat.le_of_ble_eq_true rfl) x4e (lv2 := [(3, .int x4), (0, .ref c0), (1, .long v1), (4, .int v4)]) rfl (pc2 := 19) rfl ?_
    refine kg_goto 6 dJ7_fill_d0a16_19 rfl ?_
    refine kg_sub [1, 2, 0, 3] (lv2 := [(0, .ref c0), (1, .long v1), (3, .int x4), (4, .int v4)]) rfl ?_
    cases h
    exact hk
set_option maxHeartbeats 4000000 in
set_option maxRecDepth 100000 in
theorem gXJ7_fill_d0a16 {E : kw_E} {d : Nat} (c0 : Nat) (hc0 : kx_a 1 12 c0) (a1 : Int64) (σ : kw_M) {r : kw_M} (h : fXJ7_fill_d0a16 c0 a1 σ = some r) : kw_Met E kwTX 48 d μJ7_fill_d0a16 [.ref c0, .long a1] σ none r := by
  refine kw_enter plRJ7 (Nat.le_of_ble_eq_true rfl) ?_
  show kw_G E kwTX 48 d μJ7_fill_d0a16 0 [(0, .ref c0), (1, .long a1)] [] σ none r
  unfold fXJ7_fill_d0a16 at h
  refine kg_iconst dJ7_fill_d0a16_0 ki_0 (pc2 := 1) rfl ?_
  refine kg_istore_n dJ7_fill_d0a16_1 rfl (Nat.le_of_ble_eq_true rfl) rfl (lv2 := [(3, .int (0 : Int32)), (0, .ref c0), (1, .long a1)]) rfl (pc2 := 2) rfl ?_
  refine kg_aload_n 1 dJ7_fill_d0a16_2 rfl (pc2 := 3) rfl ?_
  refine kg_alen hc0.1 hc0.2 (ty := .long) (fun _ => rfl) (x := (12 : Int32)) (by decide) dJ7_fill_d0a16_3 (pc2 := 4) rfl ?_
  refine kg_istore dJ7_fill_d0a16_4 (Nat.le_of_ble_eq_true rfl) rfl (lv2 := [(4, .int (12 : Int32)), (3, .int (0 : Int32)), (0, .ref c0), (1, .long a1)]) rfl (pc2 := 6) rfl ?_
  refine kg_sub [2, 3, 1, 0] (lv2 := [(0, .ref c0), (1, .long a1), (3, .int (0 : Int32)), (4, .int (12 : Int32))]) rfl ?_
  obtain ⟨x5, x5h, h⟩ := kw_bind_e h
  refine kw_loop_e (P := fun s => kw_G E kwTX 48 d μJ7_fill_d0a16 6 [(0, .ref c0), (1, .long a1), (3, .int s.1), (4, .int (12 : Int32))] [] s.2 none r) (K := fun y => kw_G E kwTX 48 d μJ7_fill_d0a16 22 [] [] y none r) (fun s o h0 hk => lJ7_fill_d0a16_6 c0 hc0 a1 (12 : Int32) s.1 s.2 h0 hk) kw_F _ _ x5h ?_
  show kw_G E kwTX 48 d μJ7_fill_d0a16 22 [] [] x5 none r
  cases h
  exact kg_vret dJ7_fill_d0a16_22 rfl
set_option maxHeartbeats 4000000 in
set_option maxRecDepth 100000 in
theorem gjX4_settle_126_L37 {E : kw_E} {d : Nat} (c0 : Nat) (c3 : Nat) (hc0 : kx_4 c0) (hc3 : kx_a 1 12 c3) (v2 : Int32) (v5 : Int32) (v6 : Int32) (v7 : Int64) (σ : kw_M) {v : Option Value} {σ2 : kw_M} {o : (Int32 × Int32 × kw_M) ⊕ (Int32 × kw_M)} (h : jX4_settle_126_L37 c0 c3 v2 v5 v6 v7 σ = some o) (hk : Sum.elim (fun s => kw_G E kwTX 48 (d + 1) μX4_settle 37 [(0, .ref c0), (2, .int v2), (3, .ref c3), (4, .int s.1), (5, .int v5), (6, .int s.2.1)] [] s.2.2 v σ2) (fun y => kw_G E kwTX 48 (d + 1) μX4_settle 155 [(0, .ref c0), (2, .int v2), (3, .ref c3), (4, .int y.1), (5, .int v5)] [] y.2 v σ2) o) : kw_G E kwTX 48 (d + 1) μX4_settle 126 [(0, .ref c0), (2, .int v2), (3, .ref c3), (5, .int v5), (6, .int v6), (7, .long v7)] [] σ v σ2 := by
  unfold jX4_settle_126_L37 at h
  refine kg_aload_n 2 dX4_settle_126 rfl (pc2 := 127) rfl ?_
  refine kg_aload_n 0 dX4_settle_127 rfl (pc2 := 128) rfl ?_
  refine kg_getr clX4 rfl 4 (Nat.le_of_ble_eq_true rfl) lfRX4_19 hc0.1 hc0.2.1 rfl dX4_settle_128 (pc2 := 131) rfl ?_
  refine kg_iload 4 dX4_settle_131 rfl (pc2 := 133) rfl ?_
  obtain ⟨q18, h⟩ := kw_chk_e h
  refine kg_iald hc0.2.2.2.1.1 hc0.2.2.2.1.2 q18 (j := v6.toNatClampNeg) rfl dX4_settle_133 (pc2 := 134) rfl ?_
  refine kg_lload 5 dX4_settle_134 rfl (pc2 := 136) rfl ?_
  refine kg_aload_n 0 dX4_settle_136 rfl (pc2 := 137) rfl ?_
  refine kg_getr clX4 rfl 5 (Nat.le_of_ble_eq_true rfl) lfRX4_22 hc0.1 hc0.2.1 rfl dX4_settle_137 (pc2 := 140) rfl ?_
  refine kg_iload 4 dX4_settle_140 rfl (pc2 := 142) rfl ?_
  refine kg_iald hc0.2.2.2.2.1 hc0.2.2.2.2.2 q18 (j := v6.toNatClampNeg) rfl dX4_settle_142 (pc2 := 143) rfl ?_
  refine kg_i2l dX4_settle_143 (pc2 := 144) rfl ?_
  refine kg_ladd dX4_settle_144 (pc2 := 145) rfl ?_
  obtain ⟨q19, h⟩ := kw_chk_e h
  obtain ⟨s20, s20e, h⟩ := kw_let_e h
  refine kg_last hc3.1 hc3.2 q19 (j := (σ.1 (kx_rf c0 4) v6.toNatClampNeg).toNatClampNeg) rfl s20e dX4_settle_145 (pc2 := 146) rfl ?_
  refine kg_iconst dX4_settle_146 ki_1 (pc2 := 147) rfl ?_
  refine kg_istore dX4_settle_147 (Nat.le_of_ble_eq_true rfl) rfl (lv2 := [(4, .int (1 : Int32)), (0, .ref c0), (2, .int v2), (3, .ref c3), (5, .int v5), (6, .int v6), (7, .long v7)]) rfl (pc2 := 149) rfl ?_
  obtain ⟨x21, x21e, h⟩ := kw_let_e h
  refine kg_iinc 5 dX4_settle_149 rfl (Nat.le_of_ble_eq_true rfl) x21e (lv2 := [(6, .int x21), (4, .int (1 : Int32)), (0, .ref c0), (2, .int v2), (3, .ref c3), (5, .int v5), (7, .long v7)]) rfl (pc2 := 152) rfl ?_
  refine kg_goto 37 dX4_settle_152 rfl ?_
  refine kg_sub [2, 3, 4, 1, 5, 0] (lv2 := [(0, .ref c0), (2, .int v2), (3, .ref c3), (4, .int (1 : Int32)), (5, .int v5), (6, .int x21)]) rfl ?_
  cases h
  exact hk
set_option maxHeartbeats 4000000 in
set_option maxRecDepth 100000 in
theorem lX4_settle_37 {E : kw_E} {d : Nat} (c0 : Nat) (c3 : Nat) (hc0 : kx_4 c0) (hc3 : kx_a 1 12 c3) (v2 : Int32) (v5 : Int32) (v4 : Int32) (v6 : Int32) (σ : kw_M) {v : Option Value} {σ2 : kw_M} {o : (Int32 × Int32 × kw_M) ⊕ (Int32 × kw_M)} (h : bX4_settle_37 c0 c3 v2 v5 v4 v6 σ = some o) (hk : Sum.elim (fun s => kw_G E kwTX 48 (d + 1) μX4_settle 37 [(0, .ref c0), (2, .int v2), (3, .ref c3), (4, .int s.1), (5, .int v5), (6, .int s.2.1)] [] s.2.2 v σ2) (fun y => kw_G E kwTX 48 (d + 1) μX4_settle 155 [(0, .ref c0), (2, .int v2), (3, .ref c3), (4, .int y.1), (5, .int v5)] [] y.2 v σ2) o) : kw_G E kwTX 48 (d + 1) μX4_settle 37 [(0, .ref c0), (2, .int v2), (3, .ref c3), (4, .int v4), (5, .int v5), (6, .int v6)] [] σ v σ2 := by
  unfold bX4_settle_37 at h
  refine kg_iload 5 dX4_settle_37 rfl (pc2 := 39) rfl ?_
  refine kg_aload_n 0 dX4_settle_39 rfl (pc2 := 40) rfl ?_
  refine kg_geti clX4 rfl 1 (Nat.le_of_ble_eq_true rfl) lfRX4_25 hc0.1 hc0.2.1 rfl dX4_settle_40 (pc2 := 43) rfl ?_
  refine kg_icmp_ge 155 dX4_settle_43 rfl (pc2 := 46) rfl (fun q6 => ?_) (fun q6 => ?_)
  · replace h := (if_pos q6).symm.trans h
    refine kg_sub [0, 1, 2, 3, 4] (lv2 := [(0, .ref c0), (2, .int v2), (3, .ref c3), (4, .int v4), (5, .int v5)]) rfl ?_
    cases h
    exact hk
  · replace h := (if_neg q6).symm.trans h
    refine kg_aload_n 2 dX4_settle_46 rfl (pc2 := 47) rfl ?_
    refine kg_aload_n 0 dX4_settle_47 rfl (pc2 := 48) rfl ?_
    refine kg_getr clX4 rfl 3 (Nat.le_of_ble_eq_true rfl) lfRX4_15 hc0.1 hc0.2.1 rfl dX4_settle_48 (pc2 := 51) rfl ?_
    refine kg_iload 5 dX4_settle_51 rfl (pc2 := 53) rfl ?_
    obtain ⟨q7, h⟩ := kw_chk_e h
    refine kg_iald hc0.2.2.1.1 hc0.2.2.1.2 q7 (j := v6.toNatClampNeg) rfl dX4_settle_53 (pc2 := 54) rfl ?_
    obtain ⟨q8, h⟩ := kw_chk_e h
    refine kg_lald hc3.1 hc3.2 q8 (j := (σ.1 (kx_rf c0 3) v6.toNatClampNeg).toNatClampNeg) rfl dX4_settle_54 (pc2 := 55) rfl ?_
    obtain ⟨x9, x9e, h⟩ := kw_let_e h
    refine kg_lstore dX4_settle_55 (Nat.le_of_ble_eq_true rfl) x9e (lv2 := [(7, .long x9), (0, .ref c0), (2, .int v2), (3, .ref c3), (4, .int v4), (5, .int v5), (6, .int v6)]) rfl (pc2 := 57) rfl ?_
    refine kg_lload 0 dX4_settle_57 rfl (pc2 := 59) rfl ?_
    refine kg_ldc2 rfl lcRX4_38 dX4_settle_59 (pc2 := 62) rfl ?_
    refine kg_lcmp_eq 149 dX4_settle_62 dX4_settle_63 rfl (pc2 := 66) rfl (fun q10 => ?_) (fun q10 => ?_)
    · replace h := (if_pos q10).symm.trans h
      obtain ⟨x11, x11e, h⟩ := kw_let_e h
      refine kg_iinc 6 dX4_settle_149 rfl (Nat.le_of_ble_eq_true rfl) x11e (lv2 := [(6, .int x11), (7, .long x9), (0, .ref c0), (2, .int v2), (3, .ref c3), (4, .int v4), (5, .int v5)]) rfl (pc2 := 152) rfl ?_
      refine kg_goto 37 dX4_settle_152 rfl ?_
      refine kg_sub [2, 3, 4, 5, 6, 0] (lv2 := [(0, .ref c0), (2, .int v2), (3, .ref c3), (4, .int v4), (5, .int v5), (6, .int x11)]) rfl ?_
      cases h
      exact hk
    · replace h := (if_neg q10).symm.trans h
      refine kg_iload 6 dX4_settle_66 rfl (pc2 := 68) rfl ?_
      refine kg_iload_n 2 dX4_settle_68 rfl (pc2 := 69) rfl ?_
      refine kg_icmp_eq 149 dX4_settle_69 rfl (pc2 := 72) rfl (fun q12 => ?_) (fun q12 => ?_)
      · replace h := (if_pos q12).symm.trans h
        obtain ⟨x13, x13e, h⟩ := kw_let_e h
        refine kg_iinc 6 dX4_settle_149 rfl (Nat.le_of_ble_eq_true rfl) x13e (lv2 := [(6, .int x13), (7, .long x9), (0, .ref c0), (2, .int v2), (3, .ref c3), (4, .int v4), (5, .int v5)]) rfl (pc2 := 152) rfl ?_
        refine kg_goto 37 dX4_settle_152 rfl ?_
        refine kg_sub [2, 3, 4, 5, 6, 0] (lv2 := [(0, .ref c0), (2, .int v2), (3, .ref c3), (4, .int v4), (5, .int v5), (6, .int x13)]) rfl ?_
        cases h
        exact hk
      · replace h := (if_neg q12).symm.trans h
        refine kg_aload_n 1 dX4_settle_72 rfl (pc2 := 73) rfl ?_
        refine kg_getl clX4 rfl 2 (Nat.le_of_ble_eq_true rfl) lfRX4_28 hc0.1 hc0.2.1 rfl dX4_settle_73 (pc2 := 76) rfl ?_
        refine kg_iload 6 dX4_settle_76 rfl (pc2 := 78) rfl ?_
        refine kg_lshr dX4_settle_78 (pc2 := 79) rfl ?_
        refine kg_lconst dX4_settle_79 kl_1 (pc2 := 80) rfl ?_
        refine kg_land dX4_settle_80 (pc2 := 81) rfl ?_
        refine kg_lconst dX4_settle_81 kl_0 (pc2 := 82) rfl ?_
        refine kg_lcmp_ne 89 dX4_settle_82 dX4_settle_83 rfl (pc2 := 86) rfl (fun q14 => ?_) (fun q14 => ?_)
        · replace h := (if_neg q14).symm.trans h
          refine kg_aload_n 3 dX4_settle_89 rfl (pc2 := 90) rfl ?_
          refine kg_aload_n 1 dX4_settle_90 rfl (pc2 := 91) rfl ?_
          refine kg_getr clX4 rfl 4 (Nat.le_of_ble_eq_true rfl) lfRX4_19 hc0.1 hc0.2.1 rfl dX4_settle_91 (pc2 := 94) rfl ?_
          refine kg_iload 6 dX4_settle_94 rfl (pc2 := 96) rfl ?_
          refine kg_iald hc0.2.2.2.1.1 hc0.2.2.2.1.2 q7 (j := v6.toNatClampNeg) rfl dX4_settle_96 (pc2 := 97) rfl ?_
          obtain ⟨q15, h⟩ := kw_chk_e h
          refine kg_lald hc3.1 hc3.2 q15 (j := (σ.1 (kx_rf c0 4) v6.toNatClampNeg).toNatClampNeg) rfl dX4_settle_97 (pc2 := 98) rfl ?_
          obtain ⟨x16, x16e, h⟩ := kw_let_e h
          refine kg_lstore dX4_settle_98 (Nat.le_of_ble_eq_true rfl) x16e (lv2 := [(9, .long x16), (7, .long x9), (0, .ref c0), (2, .int v2), (3, .ref c3), (4, .int v4), (5, .int v5), (6, .int v6)]) rfl (pc2 := 100) rfl ?_
          refine kg_lload 0 dX4_settle_100 rfl (pc2 := 102) rfl ?_
          refine kg_ldc2 rfl lcRX4_38 dX4_settle_102 (pc2 := 105) rfl ?_
          refine kg_lcmp_eq 126 dX4_settle_105 dX4_settle_106 rfl (pc2 := 109) rfl (fun q17 => ?_) (fun q17 => ?_)
          · replace h := (if_pos q17).symm.trans h
            refine kg_sub [2, 3, 4, 6, 7, 1] (lv2 := [(0, .ref c0), (2, .int v2), (3, .ref c3), (5, .int v5), (6, .int v6), (7, .long x9)]) rfl ?_
            exact gjX4_settle_126_L37 c0 c3 hc0 hc3 v2 v5 v6 x9 σ h hk
          · replace h := (if_neg q17).symm.trans h
            refine kg_lload 1 dX4_settle_109 rfl (pc2 := 111) rfl ?_
            refine kg_aload_n 2 dX4_settle_111 rfl (pc2 := 112) rfl ?_
            refine kg_getr clX4 rfl 5 (Nat.le_of_ble_eq_true rfl) lfRX4_22 hc0.1 hc0.2.1 rfl dX4_settle_112 (pc2 := 115) rfl ?_
            refine kg_iload 7 dX4_settle_115 rfl (pc2 := 117) rfl ?_
            refine kg_iald hc0.2.2.2.2.1 hc0.2.2.2.2.2 q7 (j := v6.toNatClampNeg) rfl dX4_settle_117 (pc2 := 118) rfl ?_
            refine kg_i2l dX4_settle_118 (pc2 := 119) rfl ?_
            refine kg_ladd dX4_settle_119 (pc2 := 120) rfl ?_
            refine kg_lload 0 dX4_settle_120 rfl (pc2 := 122) rfl ?_
            refine kg_lcmp_ge 149 dX4_settle_122 dX4_settle_123 rfl (pc2 := 126) rfl (fun q22 => ?_) (fun q22 => ?_)
            · replace h := (if_pos q22).symm.trans h
              obtain ⟨x23, x23e, h⟩ := kw_let_e h
              refine kg_iinc 7 dX4_settle_149 rfl (Nat.le_of_ble_eq_true rfl) x23e (lv2 := [(6, .int x23), (9, .long x16), (7, .long x9), (0, .ref c0), (2, .int v2), (3, .ref c3), (4, .int v4), (5, .int v5)]) rfl (pc2 := 152) rfl ?_
              refine kg_goto 37 dX4_settle_152 rfl ?_
              refine kg_sub [3, 4, 5, 6, 7, 0] (lv2 := [(0, .ref c0), (2, .int v2), (3, .ref c3), (4, .int v4), (5, .int v5), (6, .int x23)]) rfl ?_
              cases h
              exact hk
            · replace h := (if_neg q22).symm.trans h
              refine kg_sub [2, 3, 4, 6, 7, 1] (lv2 := [(0, .ref c0), (2, .int v2), (3, .ref c3), (5, .int v5), (6, .int v6), (7, .long x9)]) rfl ?_
              exact gjX4_settle_126_L37 c0 c3 hc0 hc3 v2 v5 v6 x9 σ h hk
        · replace h := (if_pos q14).symm.trans h
          refine kg_goto 149 dX4_settle_86 rfl ?_
          obtain ⟨x24, x24e, h⟩ := kw_let_e h
          refine kg_iinc 6 dX4_settle_149 rfl (Nat.le_of_ble_eq_true rfl) x24e (lv2 := [(6, .int x24), (7, .long x9), (0, .ref c0), (2, .int v2), (3, .ref c3), (4, .int v4), (5, .int v5)]) rfl (pc2 := 152) rfl ?_
          refine kg_goto 37 dX4_settle_152 rfl ?_
          refine kg_sub [2, 3, 4, 5, 6, 0] (lv2 := [(0, .ref c0), (2, .int v2), (3, .ref c3), (4, .int v4), (5, .int v5), (6, .int x24)]) rfl ?_
          cases h
          exact hk
set_option maxHeartbeats 4000000 in
set_option maxRecDepth 100000 in
theorem lX4_settle_17 {E : kw_E} {d : Nat} (c0 : Nat) (c3 : Nat) (hc0 : kx_4 c0) (hc3 : kx_a 1 12 c3) (v2 : Int32) (v4 : Int32) (v5 : Int32) (σ : kw_M) {v : Option Value} {σ2 : kw_M} {o : (Int32 × Int32 × kw_M) ⊕ (kw_M)} (h : bX4_settle_17 c0 c3 v2 v4 v5 σ = some o) (hk : Sum.elim (fun s => kw_G E kwTX 48 (d + 1) μX4_settle 17 [(0, .ref c0), (2, .int v2), (3, .ref c3), (4, .int s.1), (5, .int s.2.1)] [] s.2.2 v σ2) (fun y => kw_G E kwTX 48 (d + 1) μX4_settle 161 [] [] y v σ2) o) : kw_G E kwTX 48 (d + 1) μX4_settle 17 [(0, .ref c0), (2, .int v2), (3, .ref c3), (4, .int v4), (5, .int v5)] [] σ v σ2 := by
  unfold bX4_settle_17 at h
  refine kg_iload 4 dX4_settle_17 rfl (pc2 := 19) rfl ?_
  refine kg_aload_n 0 dX4_settle_19 rfl (pc2 := 20) rfl ?_
  refine kg_geti clX4 rfl 0 (Nat.le_of_ble_eq_true rfl) lfRX4_9 hc0.1 hc0.2.1 rfl dX4_settle_20 (pc2 := 23) rfl ?_
  refine kg_icmp_ge 161 dX4_settle_23 rfl (pc2 := 26) rfl (fun q4 => ?_) (fun q4 => ?_)
  · replace h := (if_pos q4).symm.trans h
    refine kg_sub [] (lv2 := []) rfl ?_
    cases h
    exact hk
  · replace h := (if_neg q4).symm.trans h
    refine kg_iload 3 dX4_settle_26 rfl (pc2 := 28) rfl ?_
    refine kg_if_eq 161 dX4_settle_28 rfl (pc2 := 31) rfl (fun q5 => ?_) (fun q5 => ?_)
    · replace h := (if_pos q5).symm.trans h
      refine kg_sub [] (lv2 := []) rfl ?_
      cases h
      exact hk
    · replace h := (if_neg q5).symm.trans h
      refine kg_iconst dX4_settle_31 ki_0 (pc2 := 32) rfl ?_
      refine kg_istore dX4_settle_32 (Nat.le_of_ble_eq_true rfl) rfl (lv2 := [(4, .int (0 : Int32)), (0, .ref c0), (2, .int v2), (3, .ref c3), (5, .int v5)]) rfl (pc2 := 34) rfl ?_
      refine kg_iconst dX4_settle_34 ki_0 (pc2 := 35) rfl ?_
      refine kg_istore dX4_settle_35 (Nat.le_of_ble_eq_true rfl) rfl (lv2 := [(6, .int (0 : Int32)), (4, .int (0 : Int32)), (0, .ref c0), (2, .int v2), (3, .ref c3), (5, .int v5)]) rfl (pc2 := 37) rfl ?_
      refine kg_sub [2, 3, 4, 1, 5, 0] (lv2 := [(0, .ref c0), (2, .int v2), (3, .ref c3), (4, .int (0 : Int32)), (5, .int v5), (6, .int (0 : Int32))]) rfl ?_
      obtain ⟨x25, x25h, h⟩ := kw_bind_e h
      refine kw_loop_e (P := fun s => kw_G E kwTX 48 (d + 1) μX4_settle 37 [(0, .ref c0), (2, .int v2), (3, .ref c3), (4, .int s.1), (5, .int v5), (6, .int s.2.1)] [] s.2.2 v σ2) (K := fun y => kw_G E kwTX 48 (d + 1) μX4_settle 155 [(0, .ref c0), (2, .int v2), (3, .ref c3), (4, .int y.1), (5, .int v5)] [] y.2 v σ2) (fun s o h0 hk => lX4_settle_37 c0 c3 hc0 hc3 v2 v5 s.1 s.2.1 s.2.2 h0 hk) kw_F _ _ x25h ?_
      show kw_G E kwTX 48 (d + 1) μX4_settle 155 [(0, .ref c0), (2, .int v2), (3, .ref c3), (4, .int x25.1), (5, .int v5)] [] x25.2 v σ2
      obtain ⟨x26, x26e, h⟩ := kw_let_e h
      refine kg_iinc 4 dX4_settle_155 rfl (Nat.le_of_ble_eq_true rfl) x26e (lv2 := [(5, .int x26), (0, .ref c0), (2, .int v2), (3, .ref c3), (4, .int x25.1)]) rfl (pc2 := 158) rfl ?_
      refine kg_goto 17 dX4_settle_158 rfl ?_
      refine kg_sub [1, 2, 3, 4, 0] (lv2 := [(0, .ref c0), (2, .int v2), (3, .ref c3), (4, .int x25.1), (5, .int x26)]) rfl ?_
      cases h
      exact hk
set_option maxHeartbeats 4000000 in
set_option maxRecDepth 100000 in
theorem gX4_settle {E : kw_E} {d : Nat} (c0 : Nat) (c3 : Nat) (hc0 : kx_4 c0) (hc3 : kx_a 1 12 c3) (a1 : Int32) (a2 : Int32) (σ : kw_M) {r : kw_M} (h : fX4_settle c0 c3 a1 a2 σ = some r) : kw_Met E kwTX 48 (d + 1) μX4_settle [.ref c0, .int a1, .int a2, .ref c3] σ none r := by
  refine kw_enter plRX4 (Nat.le_of_ble_eq_true rfl) ?_
  show kw_G E kwTX 48 (d + 1) μX4_settle 0 [(0, .ref c0), (1, .int a1), (2, .int a2), (3, .ref c3)] [] σ none r
  unfold fX4_settle at h
  refine kg_aload_n 3 dX4_settle_0 rfl (pc2 := 1) rfl ?_
  refine kg_ldc2 rfl lcRX4_38 dX4_settle_1 (pc2 := 4) rfl ?_
  obtain ⟨r1, r1h, h⟩ := kw_bind_e h
  refine kg_callS (μ := μX4_settle) (d := d) rfl mSJ7_fill_d0a16 [.ref c3, .long (-9000000000000000000 : Int64)] [] (gXJ7_fill_d0a16 (E := E) (d := d) c3 hc3 (-9000000000000000000 : Int64) σ r1h) rfl lmRX4_40 rfl (Nat.le_of_ble_eq_true rfl) dX4_settle_4 rfl (st2 := []) rfl (pc2 := 7) rfl ?_
  refine kg_aload_n 3 dX4_settle_7 rfl (pc2 := 8) rfl ?_
  refine kg_iload_n 1 dX4_settle_8 rfl (pc2 := 9) rfl ?_
  refine kg_lconst dX4_settle_9 kl_0 (pc2 := 10) rfl ?_
  obtain ⟨q2, h⟩ := kw_chk_e h
  obtain ⟨s3, s3e, h⟩ := kw_let_e h
  refine kg_last hc3.1 hc3.2 q2 (j := a1.toNatClampNeg) rfl s3e dX4_settle_10 (pc2 := 11) rfl ?_
  refine kg_iconst dX4_settle_11 ki_1 (pc2 := 12) rfl ?_
  refine kg_istore dX4_settle_12 (Nat.le_of_ble_eq_true rfl) rfl (lv2 := [(4, .int (1 : Int32)), (0, .ref c0), (1, .int a1), (2, .int a2), (3, .ref c3)]) rfl (pc2 := 14) rfl ?_
  refine kg_iconst dX4_settle_14 ki_0 (pc2 := 15) rfl ?_
  refine kg_istore dX4_settle_15 (Nat.le_of_ble_eq_true rfl) rfl (lv2 := [(5, .int (0 : Int32)), (4, .int (1 : Int32)), (0, .ref c0), (1, .int a1), (2, .int a2), (3, .ref c3)]) rfl (pc2 := 17) rfl ?_
  refine kg_sub [2, 4, 5, 1, 0] (lv2 := [(0, .ref c0), (2, .int a2), (3, .ref c3), (4, .int (1 : Int32)), (5, .int (0 : Int32))]) rfl ?_
  obtain ⟨x27, x27h, h⟩ := kw_bind_e h
  refine kw_loop_e (P := fun s => kw_G E kwTX 48 (d + 1) μX4_settle 17 [(0, .ref c0), (2, .int a2), (3, .ref c3), (4, .int s.1), (5, .int s.2.1)] [] s.2.2 none r) (K := fun y => kw_G E kwTX 48 (d + 1) μX4_settle 161 [] [] y none r) (fun s o h0 hk => lX4_settle_17 c0 c3 hc0 hc3 a2 s.1 s.2.1 s.2.2 h0 hk) kw_F _ _ x27h ?_
  show kw_G E kwTX 48 (d + 1) μX4_settle 161 [] [] x27 none r
  cases h
  exact kg_vret dX4_settle_161 rfl
set_option maxHeartbeats 4000000 in
set_option maxRecDepth 100000 in
theorem gX4_makesBadRing {E : kw_E} {d : Nat} (a1 : Int32) (σ : kw_M) {r : Int32 × kw_M} (h : fX4_makesBadRing a1 σ = some r) : kw_Met E kwTX 48 (d + 2) μX4_makesBadRing [.ref 10, .int a1, .ref 41] σ (some (Value.int r.1)) r.2 := by
  refine kw_enter plRX4 (Nat.le_of_ble_eq_true rfl) ?_
  show kw_G E kwTX 48 (d + 2) μX4_makesBadRing 0 [(0, .ref 10), (1, .int a1), (2, .ref 41)] [] σ (some (Value.int r.1)) r.2
  unfold fX4_makesBadRing at h
  refine kg_aload_n 0 dX4_makesBadRing_0 rfl (pc2 := 1) rfl ?_
  refine kg_iload_n 1 dX4_makesBadRing_1 rfl (pc2 := 2) rfl ?_
  obtain ⟨r1, r1h, h⟩ := kw_bind_e h
  refine kg_callV (μ := μX4_makesBadRing) (d := (d + 1)) rfl mVX4_isOpen [.int a1] [] (gX4_isOpen (E := E) (d := (d + 1)) 10 kx_4_10 a1 σ r1h) rfl lmRX4_46 (ci := 4) rfl tX_10 eX_10 rfl (Nat.le_of_ble_eq_true rfl) dX4_makesBadRing_2 rfl (st2 := [.int r1]) rfl (pc2 := 5) rfl ?_
  refine kg_if_ne 10 dX4_makesBadRing_5 rfl (pc2 := 8) rfl (fun q2 => ?_) (fun q2 => ?_)
  · replace h := (if_neg q2).symm.trans h
    refine kg_aload_n 0 dX4_makesBadRing_10 rfl (pc2 := 11) rfl ?_
    refine kg_aload_n 0 dX4_makesBadRing_11 rfl (pc2 := 12) rfl ?_
    refine kg_getr clX4 rfl 4 (Nat.le_of_ble_eq_true rfl) lfRX4_19 tX_10 eX_10 rfl dX4_makesBadRing_12 (pc2 := 15) rfl ?_
    refine kg_iload_n 1 dX4_makesBadRing_15 rfl (pc2 := 16) rfl ?_
    obtain ⟨q3, h⟩ := kw_chk_e h
    refine kg_iald tX_33 eX_33 q3 (j := a1.toNatClampNeg) rfl dX4_makesBadRing_16 (pc2 := 17) rfl ?_
    refine kg_iload_n 1 dX4_makesBadRing_17 rfl (pc2 := 18) rfl ?_
    refine kg_aload_n 2 dX4_makesBadRing_18 rfl (pc2 := 19) rfl ?_
    obtain ⟨r4, r4h, h⟩ := kw_bind_e h
    refine kg_callV (μ := μX4_makesBadRing) (d := (d + 1)) rfl mVX4_settle [.int (σ.1 33 a1.toNatClampNeg), .int a1, .ref 41] [] (gX4_settle (E := E) (d := d) 10 41 kx_4_10 ⟨tX_41, eX_41⟩ (σ.1 33 a1.toNatClampNeg) a1 σ r4h) rfl lmRX4_62 (ci := 4) rfl tX_10 eX_10 rfl (Nat.le_of_ble_eq_true rfl) dX4_makesBadRing_19 rfl (st2 := []) rfl (pc2 := 22) rfl ?_
    refine kg_aload_n 2 dX4_makesBadRing_22 rfl (pc2 := 23) rfl ?_
    refine kg_aload_n 0 dX4_makesBadRing_23 rfl (pc2 := 24) rfl ?_
    refine kg_getr clX4 rfl 3 (Nat.le_of_ble_eq_true rfl) lfRX4_15 tX_10 eX_10 rfl dX4_makesBadRing_24 (pc2 := 27) rfl ?_
    refine kg_iload_n 1 dX4_makesBadRing_27 rfl (pc2 := 28) rfl ?_
    refine kg_iald tX_32 eX_32 q3 (j := a1.toNatClampNeg) rfl dX4_makesBadRing_28 (pc2 := 29) rfl ?_
    obtain ⟨q5, h⟩ := kw_chk_e h
    refine kg_lald tX_41 eX_41 q5 (j := (r4.1 32 a1.toNatClampNeg).toNatClampNeg) rfl dX4_makesBadRing_29 (pc2 := 30) rfl ?_
    obtain ⟨x6, x6e, h⟩ := kw_let_e h
    refine kg_lstore_n dX4_makesBadRing_30 rfl (Nat.le_of_ble_eq_true rfl) x6e (lv2 := [(3, .long x6), (0, .ref 10), (1, .int a1), (2, .ref 41)]) rfl (pc2 := 31) rfl ?_
    refine kg_lload_n 0 dX4_makesBadRing_31 rfl (pc2 := 32) rfl ?_
    refine kg_ldc2 rfl lcRX4_38 dX4_makesBadRing_32 (pc2 := 35) rfl ?_
    refine kg_lcmp_eq 57 dX4_makesBadRing_35 dX4_makesBadRing_36 rfl (pc2 := 39) rfl (fun q7 => ?_) (fun q7 => ?_)
    · replace h := (if_pos q7).symm.trans h
      refine kg_iconst dX4_makesBadRing_57 ki_0 (pc2 := 58) rfl ?_
      cases h
      exact kg_iret (ty := .boolean) dX4_makesBadRing_58 rfl rfl
    · replace h := (if_neg q7).symm.trans h
      refine kg_lload_n 0 dX4_makesBadRing_39 rfl (pc2 := 40) rfl ?_
      refine kg_aload_n 1 dX4_makesBadRing_40 rfl (pc2 := 41) rfl ?_
      refine kg_getr clX4 rfl 5 (Nat.le_of_ble_eq_true rfl) lfRX4_22 tX_10 eX_10 rfl dX4_makesBadRing_41 (pc2 := 44) rfl ?_
      refine kg_iload_n 2 dX4_makesBadRing_44 rfl (pc2 := 45) rfl ?_
      refine kg_iald tX_34 eX_34 q3 (j := a1.toNatClampNeg) rfl dX4_makesBadRing_45 (pc2 := 46) rfl ?_
      refine kg_i2l dX4_makesBadRing_46 (pc2 := 47) rfl ?_
      refine kg_ladd dX4_makesBadRing_47 (pc2 := 48) rfl ?_
      refine kg_lconst dX4_makesBadRing_48 kl_0 (pc2 := 49) rfl ?_
      refine kg_lcmp_gt 57 dX4_makesBadRing_49 dX4_makesBadRing_50 rfl (pc2 := 53) rfl (fun q8 => ?_) (fun q8 => ?_)
      · replace h := (if_pos q8).symm.trans h
        refine kg_iconst dX4_makesBadRing_57 ki_0 (pc2 := 58) rfl ?_
        cases h
        exact kg_iret (ty := .boolean) dX4_makesBadRing_58 rfl rfl
      · replace h := (if_neg q8).symm.trans h
        refine kg_iconst dX4_makesBadRing_53 ki_1 (pc2 := 54) rfl ?_
        refine kg_goto 58 dX4_makesBadRing_54 rfl ?_
        cases h
        exact kg_iret (ty := .boolean) dX4_makesBadRing_58 rfl rfl
  · replace h := (if_pos q2).symm.trans h
    refine kg_iconst dX4_makesBadRing_8 ki_0 (pc2 := 9) rfl ?_
    cases h
    exact kg_iret (ty := .boolean) dX4_makesBadRing_9 rfl rfl
