/-! The constructors: one State by itself (settle and findParents over its eleven cells). -/
def kwLS : List kw_C := [.inr (7, [(2, 1), (2, 2), (0, 0), (0, 0), (0, 0), (0, 0), (2, 3), (0, 0), (2, 4), (2, 5), (2, 6)]), .inr (4, [(0, 0), (0, 0), (1, 0), (2, 7), (2, 8), (2, 9)]), .inr (0, [(0, 0), (2, 10)]), .inl (0, 12), .inl (0, 12), .inl (1, 12), .inl (0, 12), .inl (0, 36), .inl (0, 36), .inl (0, 36), .inl (1, 400)]
def kwTS (c : Nat) : kw_C := kwLS.getD c (.inl (0, 0))
theorem eS_0 : kwTS 0 = .inr (7, [(2, 1), (2, 2), (0, 0), (0, 0), (0, 0), (0, 0), (2, 3), (0, 0), (2, 4), (2, 5), (2, 6)]) := rfl
theorem eS_1 : kwTS 1 = .inr (4, [(0, 0), (0, 0), (1, 0), (2, 7), (2, 8), (2, 9)]) := rfl
theorem eS_5 : kwTS 5 = .inl (1, 12) := rfl
theorem eS_6 : kwTS 6 = .inl (0, 12) := rfl
theorem tS_0 : 0 < 11 := by decide
theorem tS_1 : 1 < 11 := by decide
theorem tS_5 : 5 < 11 := by decide
theorem tS_6 : 6 < 11 := by decide
set_option maxHeartbeats 4000000 in
set_option maxRecDepth 100000 in
theorem lG_fillL {E : kw_E} {τ : Nat → kw_C} {N d : Nat} (c0 : Nat) (hc0 : c0 < N ∧ τ c0 = .inl (1, 12)) (v1 : Int64) (v4 : Int32) (v3 : Int32) (σ : kw_M) {v : Option Value} {σ2 : kw_M} {o : (Int32 × kw_M) ⊕ (kw_M)} (h : bJ7_fill_d0a16_6 c0 v1 v4 v3 σ = some o) (hk : Sum.elim (fun s => kw_G E τ N d μJ7_fill_d0a16 6 [(0, .ref c0), (1, .long v1), (3, .int s.1), (4, .int v4)] [] s.2 v σ2) (fun y => kw_G E τ N d μJ7_fill_d0a16 22 [] [] y v σ2) o) : kw_G E τ N d μJ7_fill_d0a16 6 [(0, .ref c0), (1, .long v1), (3, .int v3), (4, .int v4)] [] σ v σ2 := by
  unfold bJ7_fill_d0a16_6 at h
  refine kg_iload_n 2 dJ7_fill_d0a16_6 rfl (pc2 := 7) rfl ?_
  refine kg_iload 3 dJ7_fill_d0a16_7 rfl (pc2 := 9) rfl ?_
  refine kg_icmp_ge 22 dJ7_fill_d0a16_9 rfl (pc2 := 12) rfl (fun q1 => ?_) (fun q1 => ?_)
  · replace h := (if_pos q1).symm.trans h
    refine kg_sub [] (lv2 := []) rfl ?_
    cases h
    exact hk
  · replace h := (if_neg q1).symm.trans h
    refine kg_aload_n 0 dJ7_fill_d0a16_12 rfl (pc2 := 13) rfl ?_
    refine kg_iload_n 2 dJ7_fill_d0a16_13 rfl (pc2 := 14) rfl ?_
    refine kg_lload_n 1 dJ7_fill_d0a16_14 rfl (pc2 := 15) rfl ?_
    obtain ⟨q2, h⟩ := kw_chk_e h
    obtain ⟨s3, s3e, h⟩ := kw_let_e h
    refine kg_last hc0.1 hc0.2 q2 (j := v3.toNatClampNeg) rfl s3e dJ7_fill_d0a16_15 (pc2 := 16) rfl ?_
    obtain ⟨x4, x4e, h⟩ := kw_let_e h
    refine kg_iinc 2 dJ7_fill_d0a16_16 rfl (Nat.le_of_ble_eq_true rfl) x4e (lv2 := [(3, .int x4), (0, .ref c0), (1, .long v1), (4, .int v4)]) rfl (pc2 := 19) rfl ?_
    refine kg_goto 6 dJ7_fill_d0a16_19 rfl ?_
    refine kg_sub [1, 2, 0, 3] (lv2 := [(0, .ref c0), (1, .long v1), (3, .int x4), (4, .int v4)]) rfl ?_
    cases h
    exact hk
set_option maxHeartbeats 4000000 in
set_option maxRecDepth 100000 in
theorem gG_fillL {E : kw_E} {τ : Nat → kw_C} {N d : Nat} (c0 : Nat) (hc0 : c0 < N ∧ τ c0 = .inl (1, 12)) (a1 : Int64) (σ : kw_M) {r : kw_M} (h : fXJ7_fill_d0a16 c0 a1 σ = some r) : kw_Met E τ N d μJ7_fill_d0a16 [.ref c0, .long a1] σ none r := by
  refine kw_enter plRJ7 (Nat.le_of_ble_eq_true rfl) ?_
  show kw_G E τ N d μJ7_fill_d0a16 0 [(0, .ref c0), (1, .long a1)] [] σ none r
  unfold fXJ7_fill_d0a16 at h
  refine kg_iconst dJ7_fill_d0a16_0 ki_0 (pc2 := 1) rfl ?_
  refine kg_istore_n dJ7_fill_d0a16_1 rfl (Nat.le_of_ble_eq_true rfl) rfl (lv2 := [(3, .int (0 : Int32)), (0, .ref c0), (1, .long a1)]) rfl (pc2 := 2) rfl ?_
  refine kg_aload_n 1 dJ7_fill_d0a16_2 rfl (pc2 := 3) rfl ?_
  refine kg_alen hc0.1 hc0.2 (ty := .long) (fun _ => rfl) (x := (12 : Int32)) (by decide) dJ7_fill_d0a16_3 (pc2 := 4) rfl ?_
  refine kg_istore dJ7_fill_d0a16_4 (Nat.le_of_ble_eq_true rfl) rfl (lv2 := [(4, .int (12 : Int32)), (3, .int (0 : Int32)), (0, .ref c0), (1, .long a1)]) rfl (pc2 := 6) rfl ?_
  refine kg_sub [2, 3, 1, 0] (lv2 := [(0, .ref c0), (1, .long a1), (3, .int (0 : Int32)), (4, .int (12 : Int32))]) rfl ?_
  obtain ⟨x5, x5h, h⟩ := kw_bind_e h
  refine kw_loop_e (P := fun s => kw_G E τ N d μJ7_fill_d0a16 6 [(0, .ref c0), (1, .long a1), (3, .int s.1), (4, .int (12 : Int32))] [] s.2 none r) (K := fun y => kw_G E τ N d μJ7_fill_d0a16 22 [] [] y none r) (fun s o h0 hk => lG_fillL c0 hc0 a1 (12 : Int32) s.1 s.2 h0 hk) kw_F _ _ x5h ?_
  show kw_G E τ N d μJ7_fill_d0a16 22 [] [] x5 none r
  cases h
  exact kg_vret dJ7_fill_d0a16_22 rfl
def bG_fillI (c0 : Nat) (v1 : Int32) (v3 : Int32) (v2 : Int32) (σ : kw_M) : Option ((Int32 × kw_M) ⊕ (kw_M)) :=
 if v3 ≤ v2 then
 (some (.inr σ))
 else
 kw_chk (kw_in v2 12) <|
 kw_let (kw_si σ c0 v2.toNatClampNeg v1) fun s3 =>
 kw_let (v2 + (1 : Int32)) fun x4 =>
 some (.inl (x4, s3))
def fG_fillI (c0 : Nat) (a1 : Int32) (σ : kw_M) : Option (kw_M) :=
 (kw_loop (fun s => bG_fillI c0 a1 (12 : Int32) s.1 s.2) kw_F ((0 : Int32), σ)).bind fun x5 =>
 some x5
set_option maxHeartbeats 4000000 in
set_option maxRecDepth 100000 in
theorem lG_fillI {E : kw_E} {τ : Nat → kw_C} {N d : Nat} (c0 : Nat) (hc0 : c0 < N ∧ τ c0 = .inl (0, 12)) (v1 : Int32) (v3 : Int32) (v2 : Int32) (σ : kw_M) {v : Option Value} {σ2 : kw_M} {o : (Int32 × kw_M) ⊕ (kw_M)} (h : bG_fillI c0 v1 v3 v2 σ = some o) (hk : Sum.elim (fun s => kw_G E τ N d μJ7_fill_53178 5 [(0, .ref c0), (1, .int v1), (2, .int s.1), (3, .int v3)] [] s.2 v σ2) (fun y => kw_G E τ N d μJ7_fill_53178 20 [] [] y v σ2) o) : kw_G E τ N d μJ7_fill_53178 5 [(0, .ref c0), (1, .int v1), (2, .int v2), (3, .int v3)] [] σ v σ2 := by
  unfold bG_fillI at h
  refine kg_iload_n 2 dJ7_fill_53178_5 rfl (pc2 := 6) rfl ?_
  refine kg_iload_n 3 dJ7_fill_53178_6 rfl (pc2 := 7) rfl ?_
  refine kg_icmp_ge 20 dJ7_fill_53178_7 rfl (pc2 := 10) rfl (fun q1 => ?_) (fun q1 => ?_)
  · replace h := (if_pos q1).symm.trans h
    refine kg_sub [] (lv2 := []) rfl ?_
    cases h
    exact hk
  · replace h := (if_neg q1).symm.trans h
    refine kg_aload_n 0 dJ7_fill_53178_10 rfl (pc2 := 11) rfl ?_
    refine kg_iload_n 2 dJ7_fill_53178_11 rfl (pc2 := 12) rfl ?_
    refine kg_iload_n 1 dJ7_fill_53178_12 rfl (pc2 := 13) rfl ?_
    obtain ⟨q2, h⟩ := kw_chk_e h
    obtain ⟨s3, s3e, h⟩ := kw_let_e h
    refine kg_iast hc0.1 hc0.2 q2 (j := v2.toNatClampNeg) rfl s3e dJ7_fill_53178_13 (pc2 := 14) rfl ?_
    obtain ⟨x4, x4e, h⟩ := kw_let_e h
    refine kg_iinc 2 dJ7_fill_53178_14 rfl (Nat.le_of_ble_eq_true rfl) x4e (lv2 := [(2, .int x4), (0, .ref c0), (1, .int v1), (3, .int v3)]) rfl (pc2 := 17) rfl ?_
    refine kg_goto 5 dJ7_fill_53178_17 rfl ?_
    refine kg_sub [1, 2, 0, 3] (lv2 := [(0, .ref c0), (1, .int v1), (2, .int x4), (3, .int v3)]) rfl ?_
    cases h
    exact hk
set_option maxHeartbeats 4000000 in
set_option maxRecDepth 100000 in
theorem gG_fillI {E : kw_E} {τ : Nat → kw_C} {N d : Nat} (c0 : Nat) (hc0 : c0 < N ∧ τ c0 = .inl (0, 12)) (a1 : Int32) (σ : kw_M) {r : kw_M} (h : fG_fillI c0 a1 σ = some r) : kw_Met E τ N d μJ7_fill_53178 [.ref c0, .int a1] σ none r := by
  refine kw_enter plRJ7 (Nat.le_of_ble_eq_true rfl) ?_
  show kw_G E τ N d μJ7_fill_53178 0 [(0, .ref c0), (1, .int a1)] [] σ none r
  unfold fG_fillI at h
  refine kg_iconst dJ7_fill_53178_0 ki_0 (pc2 := 1) rfl ?_
  refine kg_istore_n dJ7_fill_53178_1 rfl (Nat.le_of_ble_eq_true rfl) rfl (lv2 := [(2, .int (0 : Int32)), (0, .ref c0), (1, .int a1)]) rfl (pc2 := 2) rfl ?_
  refine kg_aload_n 1 dJ7_fill_53178_2 rfl (pc2 := 3) rfl ?_
  refine kg_alen hc0.1 hc0.2 (ty := .int) (fun _ => rfl) (x := (12 : Int32)) (by decide) dJ7_fill_53178_3 (pc2 := 4) rfl ?_
  refine kg_istore_n dJ7_fill_53178_4 rfl (Nat.le_of_ble_eq_true rfl) rfl (lv2 := [(3, .int (12 : Int32)), (2, .int (0 : Int32)), (0, .ref c0), (1, .int a1)]) rfl (pc2 := 5) rfl ?_
  refine kg_sub [2, 3, 1, 0] (lv2 := [(0, .ref c0), (1, .int a1), (2, .int (0 : Int32)), (3, .int (12 : Int32))]) rfl ?_
  obtain ⟨x5, x5h, h⟩ := kw_bind_e h
  refine kw_loop_e (P := fun s => kw_G E τ N d μJ7_fill_53178 5 [(0, .ref c0), (1, .int a1), (2, .int s.1), (3, .int (12 : Int32))] [] s.2 none r) (K := fun y => kw_G E τ N d μJ7_fill_53178 20 [] [] y none r) (fun s o h0 hk => lG_fillI c0 hc0 a1 (12 : Int32) s.1 s.2 h0 hk) kw_F _ _ x5h ?_
  show kw_G E τ N d μJ7_fill_53178 20 [] [] x5 none r
  cases h
  exact kg_vret dJ7_fill_53178_20 rfl
/-- what the int fill leaves: the first twelve are v -/
theorem kj_fillI (σ : kw_M) (c : Nat) (v : Int32) : ∃ τ, fG_fillI c v σ = some τ ∧ (∀ t, t < 12 → τ.1 c t = v) ∧ (∀ t, ¬ t < 12 → τ.1 c t = σ.1 c t) ∧ (∀ q, q ≠ c → τ.1 q = σ.1 q) ∧ τ.2 = σ.2 := by
  obtain ⟨x, hx, h⟩ := kw_for (body := fun s => bG_fillI c v (12 : Int32) s.1 s.2) (fun k s => s.1 = nI k ∧ (∀ t, s.2.1 c t = if t < k then v else σ.1 c t) ∧ (∀ q, q ≠ c → s.2.1 q = σ.1 q) ∧ s.2.2 = σ.2) (fun x => (∀ t, x.1 c t = if t < 12 then v else σ.1 c t) ∧ (∀ q, q ≠ c → x.1 q = σ.1 q) ∧ x.2 = σ.2) 12 (by decide) (s0 := ((0 : Int32), σ)) ⟨rfl, fun t => by rw [if_neg (Nat.not_lt_zero _)], fun _ _ => rfl, rfl⟩ (fun k s hk hP => by
    obtain ⟨w, τ⟩ := s
    obtain ⟨h1, h2, h3, h4⟩ := hP
    dsimp only at h1 h2 h3 h4 ⊢
    subst h1
    unfold bG_fillI
    rw [kn_12]
    by_cases q : k < 12
    case neg =>
      right
      obtain rfl : k = 12 := by omega
      rw [if_pos (nI_le (Nat.le_refl _) (by omega))]
      exact ⟨_, rfl, h2, h3, h4⟩
    left
    rw [if_neg (nI_ge q (by omega)), kn_chk q (by decide), kn_clamp (by omega), kw_let_def, kw_let_def, km_next]
    refine ⟨q, _, rfl, rfl, fun t => ?_, fun a ha => ?_, h4⟩
    · show (kw_si τ c k v).1 c t = _
      rw [kw_si_1]
      by_cases e : t = k
      · rw [e, kw_upd_e, if_pos (by omega)]
      · rw [kw_upd_n e, h2 t]
        by_cases z : t < k
        · rw [if_pos z, if_pos (by omega)]
        · rw [if_neg z, if_neg (by omega)]
    · show (kw_si τ c k v).1 a = _
      rw [kw_si_o ha]; exact h3 a ha)
  refine ⟨x, ?_, fun t ht => by rw [h.1 t, if_pos ht], fun t ht => by rw [h.1 t, if_neg ht], h.2.1, h.2.2⟩
  unfold fG_fillI
  rw [hx, Option.bind_some]
set_option maxHeartbeats 4000000 in
set_option maxRecDepth 100000 in
theorem gS_settle {E : kw_E} {d : Nat} (σ : kw_M) (hT : σ.1 1 0 = 2) (hL : σ.1 1 1 = 0) : kw_Met E kwTS 11 (d + 1) μX4_settle [.ref 1, .int 0, .int (-1), .ref 5] σ none (kw_sl (kj_st σ 5 12 (-9000000000000000000)) 5 0 0) := by
  refine kw_enter plRX4 (Nat.le_of_ble_eq_true rfl) ?_
  show kw_G E kwTS 11 (d + 1) μX4_settle 0 [(0, .ref 1), (1, .int 0), (2, .int (-1)), (3, .ref 5)] [] σ none _
  refine kg_aload_n 3 dX4_settle_0 rfl (pc2 := 1) rfl ?_
  refine kg_ldc2 rfl lcRX4_38 dX4_settle_1 (pc2 := 4) rfl ?_
  refine kg_callS (μ := μX4_settle) (d := d) rfl mSJ7_fill_d0a16 [.ref 5, .long (-9000000000000000000 : Int64)] [] (gG_fillL (E := E) (d := d) 5 ⟨tS_5, eS_5⟩ (-9000000000000000000 : Int64) σ (kj_fill σ 5 _)) rfl lmRX4_40 rfl (Nat.le_of_ble_eq_true rfl) dX4_settle_4 rfl (st2 := []) rfl (pc2 := 7) rfl ?_
  refine kg_aload_n 3 dX4_settle_7 rfl (pc2 := 8) rfl ?_
  refine kg_iload_n 1 dX4_settle_8 rfl (pc2 := 9) rfl ?_
  refine kg_lconst dX4_settle_9 kl_0 (pc2 := 10) rfl ?_
  refine kg_last tS_5 eS_5 (show ¬ ((0 : Int32) < 0 ∨ 12 ≤ (0 : Int32).toNatClampNeg) by decide) (j := 0) rfl rfl dX4_settle_10 (pc2 := 11) rfl ?_
  have hT1 : (kw_sl (kj_st σ 5 12 (-9000000000000000000)) 5 0 0).1 1 0 = 2 := hT
  have hL1 : (kw_sl (kj_st σ 5 12 (-9000000000000000000)) 5 0 0).1 1 1 = 0 := hL
  generalize kw_sl (kj_st σ 5 12 (-9000000000000000000)) 5 0 0 = ρ at hT1 hL1 ⊢
  refine kg_iconst dX4_settle_11 ki_1 (pc2 := 12) rfl ?_
  refine kg_istore dX4_settle_12 (Nat.le_of_ble_eq_true rfl) rfl (lv2 := [(4, .int (1 : Int32)), (0, .ref 1), (1, .int 0), (2, .int (-1)), (3, .ref 5)]) rfl (pc2 := 14) rfl ?_
  refine kg_iconst dX4_settle_14 ki_0 (pc2 := 15) rfl ?_
  refine kg_istore dX4_settle_15 (Nat.le_of_ble_eq_true rfl) rfl (lv2 := [(5, .int (0 : Int32)), (4, .int (1 : Int32)), (0, .ref 1), (1, .int 0), (2, .int (-1)), (3, .ref 5)]) rfl (pc2 := 17) rfl ?_
  refine kg_sub [2, 4, 5, 1, 0] (lv2 := [(0, .ref 1), (2, .int (-1)), (3, .ref 5), (4, .int (1 : Int32)), (5, .int (0 : Int32))]) rfl ?_
  refine kg_iload 4 dX4_settle_17 rfl (pc2 := 19) rfl ?_
  refine kg_aload_n 0 dX4_settle_19 rfl (pc2 := 20) rfl ?_
  refine kg_geti clX4 rfl 0 (Nat.le_of_ble_eq_true rfl) lfRX4_9 tS_1 eS_1 rfl dX4_settle_20 (pc2 := 23) rfl ?_
  refine kg_icmp_ge 161 dX4_settle_23 rfl (pc2 := 26) rfl (fun q4 => ?_) (fun _ => ?_)
  · rw [hT1] at q4
    exact absurd q4 (by decide)
  refine kg_iload 3 dX4_settle_26 rfl (pc2 := 28) rfl ?_
  refine kg_if_eq 161 dX4_settle_28 rfl (pc2 := 31) rfl (fun q5 => absurd q5 (by decide)) (fun _ => ?_)
  refine kg_iconst dX4_settle_31 ki_0 (pc2 := 32) rfl ?_
  refine kg_istore dX4_settle_32 (Nat.le_of_ble_eq_true rfl) rfl (lv2 := [(4, .int (0 : Int32)), (0, .ref 1), (2, .int (-1)), (3, .ref 5), (5, .int 0)]) rfl (pc2 := 34) rfl ?_
  refine kg_iconst dX4_settle_34 ki_0 (pc2 := 35) rfl ?_
  refine kg_istore dX4_settle_35 (Nat.le_of_ble_eq_true rfl) rfl (lv2 := [(6, .int (0 : Int32)), (4, .int (0 : Int32)), (0, .ref 1), (2, .int (-1)), (3, .ref 5), (5, .int 0)]) rfl (pc2 := 37) rfl ?_
  refine kg_sub [2, 3, 4, 1, 5, 0] (lv2 := [(0, .ref 1), (2, .int (-1)), (3, .ref 5), (4, .int (0 : Int32)), (5, .int 0), (6, .int (0 : Int32))]) rfl ?_
  refine kg_iload 5 dX4_settle_37 rfl (pc2 := 39) rfl ?_
  refine kg_aload_n 0 dX4_settle_39 rfl (pc2 := 40) rfl ?_
  refine kg_geti clX4 rfl 1 (Nat.le_of_ble_eq_true rfl) lfRX4_25 tS_1 eS_1 rfl dX4_settle_40 (pc2 := 43) rfl ?_
  refine kg_icmp_ge 155 dX4_settle_43 rfl (pc2 := 46) rfl (fun _ => ?_) (fun q6 => ?_)
  · refine kg_sub [0, 1, 2, 3, 4] (lv2 := [(0, .ref 1), (2, .int (-1)), (3, .ref 5), (4, .int 0), (5, .int 0)]) rfl ?_
    refine kg_iinc 4 dX4_settle_155 rfl (Nat.le_of_ble_eq_true rfl) (show (0 : Int32) + Int32.ofInt 1 = 1 by decide) (lv2 := [(5, .int 1), (0, .ref 1), (2, .int (-1)), (3, .ref 5), (4, .int 0)]) rfl (pc2 := 158) rfl ?_
    refine kg_goto 17 dX4_settle_158 rfl ?_
    refine kg_sub [1, 2, 3, 4, 0] (lv2 := [(0, .ref 1), (2, .int (-1)), (3, .ref 5), (4, .int 0), (5, .int 1)]) rfl ?_
    refine kg_iload 4 dX4_settle_17 rfl (pc2 := 19) rfl ?_
    refine kg_aload_n 0 dX4_settle_19 rfl (pc2 := 20) rfl ?_
    refine kg_geti clX4 rfl 0 (Nat.le_of_ble_eq_true rfl) lfRX4_9 tS_1 eS_1 rfl dX4_settle_20 (pc2 := 23) rfl ?_
    refine kg_icmp_ge 161 dX4_settle_23 rfl (pc2 := 26) rfl (fun q4 => ?_) (fun _ => ?_)
    · rw [hT1] at q4
      exact absurd q4 (by decide)
    refine kg_iload 3 dX4_settle_26 rfl (pc2 := 28) rfl ?_
    refine kg_if_eq 161 dX4_settle_28 rfl (pc2 := 31) rfl (fun _ => ?_) (fun q5 => absurd rfl q5)
    exact kg_vret dX4_settle_161 rfl
  · rw [hL1] at q6
    exact absurd (by decide) q6
set_option maxHeartbeats 4000000 in
set_option maxRecDepth 100000 in
theorem gS_findParents {E : kw_E} {d : Nat} (σ : kw_M) {r : kw_M} (hr : fG_fillI 6 (-1) σ = some r) (hL : r.1 1 1 = 0) : kw_Met E kwTS 11 (d + 2) μX7_findParents [.ref 0] σ none r := by
  refine kw_enter plRX7 (Nat.le_of_ble_eq_true rfl) ?_
  show kw_G E kwTS 11 (d + 2) μX7_findParents 0 [(0, .ref 0)] [] σ none r
  refine kg_aload_n 0 dX7_findParents_0 rfl (pc2 := 1) rfl ?_
  refine kg_getr clX7 rfl 10 (Nat.le_of_ble_eq_true rfl) lfRX7_40 tS_0 eS_0 rfl dX7_findParents_1 (pc2 := 4) rfl ?_
  refine kg_iconst dX7_findParents_4 ki_m1 (pc2 := 5) rfl ?_
  refine kg_callS (μ := μX7_findParents) (d := (d + 1)) rfl mSJ7_fill_53178 [.ref 6, .int (-1 : Int32)] [] (gG_fillI (E := E) (d := (d + 1)) 6 ⟨tS_6, eS_6⟩ (-1 : Int32) σ hr) rfl lmRX7_114 rfl (Nat.le_of_ble_eq_true rfl) dX7_findParents_5 rfl (st2 := []) rfl (pc2 := 8) rfl ?_
  refine kg_aload_n 0 dX7_findParents_8 rfl (pc2 := 9) rfl ?_
  refine kg_getr clX7 rfl 0 (Nat.le_of_ble_eq_true rfl) lfRX7_12 tS_0 eS_0 rfl dX7_findParents_9 (pc2 := 12) rfl ?_
  refine kg_geti clX4 rfl 1 (Nat.le_of_ble_eq_true rfl) lfRX7_120 tS_1 eS_1 rfl dX7_findParents_12 (pc2 := 15) rfl ?_
  refine kg_iconst dX7_findParents_15 ki_1 (pc2 := 16) rfl ?_
  refine kg_isub dX7_findParents_16 (pc2 := 17) rfl ?_
  refine kg_istore_n dX7_findParents_17 rfl (Nat.le_of_ble_eq_true rfl) (show r.1 1 1 - (1 : Int32) = -1 by rw [hL]; decide) (lv2 := [(1, .int (-1)), (0, .ref 0)]) rfl (pc2 := 18) rfl ?_
  refine kg_iload_n 0 dX7_findParents_18 rfl (pc2 := 19) rfl ?_
  refine kg_if_lt 51 dX7_findParents_19 rfl (pc2 := 22) rfl (fun _ => ?_) (fun q3 => absurd (by decide) q3)
  exact kg_vret dX7_findParents_51 rfl
