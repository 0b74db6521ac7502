/-! orders. -/
theorem kw_b255 (y : Int32) : y &&& 255 = nI (y.toBitVec.toNat % 256) := by
  apply Int32.toBitVec_inj.mp
  apply BitVec.eq_of_toNat_eq
  rw [Int32.toBitVec_and, BitVec.toNat_and, show (255 : Int32).toBitVec.toNat = 2 ^ 8 - 1 by decide, Nat.and_two_pow_sub_one_eq_mod]
  show _ = (BitVec.ofNat 32 (y.toBitVec.toNat % 256)).toNat
  rw [BitVec.toNat_ofNat, show (2 : Nat) ^ 8 = 256 from rfl]
  have h : y.toBitVec.toNat % 256 < 256 := Nat.mod_lt _ (by decide)
  exact (Nat.mod_eq_of_lt (Nat.lt_trans h (by decide))).symm
theorem kw_Rel_tx {σX σM τX τM : kw_M} {n m o : Nat} (hok : kb_ok (σM.1 1) n m o) (hsh : kx_sh σX 1 12 (σM.1 1) n m o) (hkp : kx_kp σX σM) (hpr : kx_pr σX (σM.1 1) n m) (EX : kx_E σX τX) (m1 : τM.1 1 = σM.1 1) (m2 : τM.1 0 1 = σM.1 0 1) (m3 : τM.1 0 6 = 0) : kw_Rel (kw_si τX 3 0 0) τM := by
  have fx : ∀ c, c ≠ 3 → c ≠ 4 → c ≠ 36 → c ≠ 37 → (kw_si τX 3 0 0).1 c = σX.1 c := fun c h0 h1 h2 h3 => by rw [kw_si_o h0]; exact EX.2 c h1 h2 h3
  have f2 : (kw_si τX 3 0 0).2 = σX.2 := by rw [kw_si_2]; exact EX.1
  have kN : kx_kN σX (kw_si τX 3 0 0) := ⟨fun c hc => fx c (by omega) (by omega) (by omega) (by omega), fun _ _ => by rw [f2]⟩
  refine ⟨n, m, o, by rw [m1]; exact hok, by rw [m1]; exact kx_sh_N hsh kN, ?_, ⟨0, by omega, by rw [kw_si_1, kw_upd_e]; rfl, by rw [m3]; rfl, fun i hi => absurd hi (Nat.not_lt_zero _)⟩, by rw [m1]; exact kx_pr_eq hpr (fx 5 (by decide) (by decide) (by decide) (by decide)) (by rw [f2]) (fun _ _ _ => rfl)⟩
  obtain ⟨k1, k2⟩ := hkp
  refine ⟨by rw [fx 0 (by decide) (by decide) (by decide) (by decide), m2]; exact k1, ?_⟩
  rw [m2, m1]
  rcases k2 with k2 | ⟨k2, n', m', o', hok', hsh'⟩
  · exact Or.inl k2
  · exact Or.inr ⟨k2, n', m', o', hok', kx_sh_fr (Or.inr rfl) hsh' (fx 2 (by decide) (by decide) (by decide) (by decide)) (fun c h5 h6 => fx c (by omega) (by omega) (by omega) (by omega)) (by rw [f2]) (by rw [f2]) (by rw [f2])⟩
theorem km_isText {σ : kw_M} {x : Int32} {s : Nat} (hs : σ.1 0 6 = nI s) (h : s ≤ 240) : fX10_isText x σ = some (kx_fl (decide (1 ≤ x.toInt ∧ x.toInt ≤ 200 ∧ x.toInt ≤ s))) := by
  unfold fX10_isText
  rw [km_in, Int32.toInt_toInt64, hs, Option.bind_some, show (1 : Int64).toInt = 1 by decide, show (200 : Int64).toInt = 200 by decide]
  simp only [kx_fl_0, Int32.lt_iff_toInt_lt, nI_toInt (show s < 2147483648 by omega)]
  by_cases t1 : 1 ≤ x.toInt ∧ x.toInt ≤ 200
  · rw [decide_eq_true t1, kn_tf]
    by_cases t2 : (s : Int) < x.toInt
    · rw [if_pos t2, decide_eq_false (by omega)]; rfl
    · rw [if_neg t2, decide_eq_true (by omega)]; rfl
  · rw [decide_eq_false t1, kn_ff, decide_eq_false (by omega)]; rfl
theorem kx_number37 {σ : kw_M} {k i : Nat} (hk : k < 24) (hi : i < 3) : fX3_number (nI k) (nI i) σ = some (σ.1 37 (3 * k + i)) := by
  unfold fX3_number
  rw [kn_3, kn_mul, nI_add, kn_chk (show k * 3 + i < 72 by omega) (by decide), kn_clamp (by omega), show k * 3 + i = 3 * k + i by omega]
theorem kt_sg {a : Int32} {σ : kw_M} : ∃ g, (if a < (0 : Int32) then (some ((0 : Int32), σ)) else some ((1 : Int32), σ)) = some (g, σ) ∧ g = (if a < (0 : Int32) then 0 else 1) ∧ (g = 0 ∨ g = 1) := by
  by_cases h : a < 0
  · rw [if_pos h, if_pos h]; exact ⟨_, rfl, rfl, Or.inl rfl⟩
  · rw [if_neg h, if_neg h]; exact ⟨_, rfl, rfl, Or.inr rfl⟩
theorem kt_sg2 {a : Int32} {σ σ' : kw_M} : ∃ g, (if a < (0 : Int32) then (some ((0 : Int32), σ)) else some ((1 : Int32), σ)) = some (g, σ) ∧ (if a < (0 : Int32) then (some ((0 : Int32), σ')) else some ((1 : Int32), σ')) = some (g, σ') := by
  by_cases h : a < 0
  · rw [if_pos h, if_pos h]; exact ⟨_, rfl, rfl⟩
  · rw [if_neg h, if_neg h]; exact ⟨_, rfl, rfl⟩
theorem kt_do {σX σM ρX ρM : kw_M} {k tw : Nat} (hR : kw_Rel σX σM) (hqX : kqX ρX σX) (hqM : kqM ρM σM) (hk : k < 24) (hC : kt_C false tw ρX ρM k) : ∃ g τX τM, fX9_doOrder (nI k) σX = some (g, τX) ∧ fX10_does (nI k) σM = some (g, τM) ∧ kw_Rel τX τM ∧ kqX ρX τX ∧ kqM ρM τM := by
  obtain ⟨w, c1, c2, c3, _, c5, c6⟩ := hC
  have h2 := c5 rfl
  have c6' := c6 (by omega)
  rw [← hqX.2.2, ← hqM.2.1] at c6'
  rw [← hqX.2.1] at c2
  rw [← hqM.2.2] at c3
  have n0 : fX3_number (nI k) (0 : Int32) σX = some (σX.1 37 (3 * k + 0)) := kx_number37 (i := 0) hk (by decide)
  have n1 : fX3_number (nI k) (1 : Int32) σX = some (σX.1 37 (3 * k + 1)) := kx_number37 (i := 1) hk (by decide)
  have n2 : fX3_number (nI k) (2 : Int32) σX = some (σX.1 37 (3 * k + 2)) := kx_number37 (i := 2) hk (by decide)
  unfold fX9_doOrder fX10_does
  rw [n0, n1, n2, Option.bind_some, Option.bind_some, Option.bind_some, kn_chk hk (by decide), kn_chk hk (by decide), kn_clamp (show k < 2147483648 by omega), c2, c3, kw_let_def, kn_3, kn_mul, kn_chk (show 3 * k < 72 by omega) (by decide), kn_clamp (show 3 * k < 2147483648 by omega), kw_let_def, km_next, kn_2, nI_add, kn_chk (show 3 * k + 1 < 72 by omega) (by decide), kn_clamp (show 3 * k + 1 < 2147483648 by omega), kw_let_def, kn_chk (show 3 * k + 2 < 72 by omega) (by decide), kn_clamp (show 3 * k + 2 < 2147483648 by omega)]
  rcases (show w = 2 ∨ w = 3 ∨ w = 4 ∨ w = 5 ∨ w = 6 ∨ w = 7 ∨ w = 8 by omega) with rfl | rfl | rfl | rfl | rfl | rfl | rfl
  · have e0 := c6' 0 (by decide)
    have e1 := c6' 1 (by decide)
    have e2 := c6' 2 (by decide)
    rw [Nat.add_zero] at e0
    rw [Nat.add_zero, if_pos (show nI 2 = nI 2 from rfl), if_pos (show Int64.ofInt (kt_W 2) = 12345 by decide), e0, e1, e2]
    obtain ⟨a, τX, τM, k1, k2, k3⟩ := ko_lay (a1 := σM.1 7 (3 * k)) (a2 := σM.1 7 (3 * k + 1)) (a3 := σM.1 7 (3 * k + 2)) hR
    obtain ⟨g, g1, g2⟩ := kt_sg2 (a := a) (σ := τX) (σ' := τM)
    rw [k1, k2, Option.bind_some, Option.bind_some]
    exact ⟨g, τX, τM, g1, g2, k3, kqX_fX9_layRoad hqX _ k1, kqM_fX10_lay hqM _ k2⟩
  · have e0 := c6' 0 (by decide)
    have e1 := c6' 1 (by decide)
    rw [Nat.add_zero] at e0
    rw [Nat.add_zero, if_neg (show ¬ nI 3 = nI 2 by decide), if_pos (show nI 3 = nI 3 from rfl), if_neg (show ¬ Int64.ofInt (kt_W 3) = 12345 by decide), if_pos (show Int64.ofInt (kt_W 3) = 408362632 by decide), e0, e1]
    obtain ⟨a, τX, τM, k1, k2, k3⟩ := ko_length (a1 := σM.1 7 (3 * k)) (a2 := σM.1 7 (3 * k + 1)) hR
    obtain ⟨g, g1, g2⟩ := kt_sg2 (a := a) (σ := τX) (σ' := τM)
    rw [k1, k2, Option.bind_some, Option.bind_some]
    exact ⟨g, τX, τM, g1, g2, k3, kqX_fX9_changeLength hqX _ k1, kqM_fX10_length hqM _ k2⟩
  · have e0 := c6' 0 (by decide)
    rw [Nat.add_zero] at e0
    rw [Nat.add_zero, if_neg (show ¬ nI 4 = nI 2 by decide), if_neg (show ¬ nI 4 = nI 3 by decide), if_pos (show nI 4 = (4 : Int32) by decide), if_neg (show ¬ Int64.ofInt (kt_W 4) = 12345 by decide), if_neg (show ¬ Int64.ofInt (kt_W 4) = 408362632 by decide), if_pos (show Int64.ofInt (kt_W 4) = 3554917 by decide), e0]
    obtain ⟨a, τX, τM, k1, k2, k3⟩ := ko_turn (a1 := σM.1 7 (3 * k)) (b := false) hR
    have k1' : fX9_turnRoad (σM.1 7 (3 * k)) 0 σX = some (a, τX) := k1
    have k2' : fX10_close (σM.1 7 (3 * k)) σM = some (a, τM) := by
      unfold fX10_close
      rw [show fX10_turns (σM.1 7 (3 * k)) 0 σM = some (a, τM) from k2, Option.bind_some]
    obtain ⟨g, g1, g2⟩ := kt_sg2 (a := a) (σ := τX) (σ' := τM)
    rw [k1', k2', Option.bind_some, Option.bind_some]
    exact ⟨g, τX, τM, g1, g2, k3, kqX_fX9_turnRoad hqX _ k1', kqM_fX10_close hqM _ k2'⟩
  · have e0 := c6' 0 (by decide)
    rw [Nat.add_zero] at e0
    rw [Nat.add_zero, if_neg (show ¬ nI 5 = nI 2 by decide), if_neg (show ¬ nI 5 = nI 3 by decide), if_neg (show ¬ nI 5 = (4 : Int32) by decide), if_pos (show nI 5 = (5 : Int32) by decide), if_neg (show ¬ Int64.ofInt (kt_W 5) = 12345 by decide), if_neg (show ¬ Int64.ofInt (kt_W 5) = 408362632 by decide), if_neg (show ¬ Int64.ofInt (kt_W 5) = 3554917 by decide), if_pos (show Int64.ofInt (kt_W 5) = 508078 by decide), e0]
    obtain ⟨a, τX, τM, k1, k2, k3⟩ := ko_turn (a1 := σM.1 7 (3 * k)) (b := true) hR
    have k1' : fX9_turnRoad (σM.1 7 (3 * k)) 1 σX = some (a, τX) := k1
    have k2' : fX10_open (σM.1 7 (3 * k)) σM = some (a, τM) := by
      unfold fX10_open
      rw [show fX10_turns (σM.1 7 (3 * k)) 1 σM = some (a, τM) from k2, Option.bind_some]
    obtain ⟨g, g1, g2⟩ := kt_sg2 (a := a) (σ := τX) (σ' := τM)
    rw [k1', k2', Option.bind_some, Option.bind_some]
    exact ⟨g, τX, τM, g1, g2, k3, kqX_fX9_turnRoad hqX _ k1', kqM_fX10_open hqM _ k2'⟩
  · have e0 := c6' 0 (by decide)
    rw [Nat.add_zero] at e0
    rw [Nat.add_zero, if_neg (show ¬ nI 6 = nI 2 by decide), if_neg (show ¬ nI 6 = nI 3 by decide), if_neg (show ¬ nI 6 = (4 : Int32) by decide), if_neg (show ¬ nI 6 = (5 : Int32) by decide), if_pos (show nI 6 = (6 : Int32) by decide), if_neg (show ¬ Int64.ofInt (kt_W 6) = 12345 by decide), if_neg (show ¬ Int64.ofInt (kt_W 6) = 408362632 by decide), if_neg (show ¬ Int64.ofInt (kt_W 6) = 3554917 by decide), if_neg (show ¬ Int64.ofInt (kt_W 6) = 508078 by decide), if_pos (show Int64.ofInt (kt_W 6) = 522493230 by decide), e0]
    obtain ⟨a, τX, τM, k1, k2, k3⟩ := ko_origin (a1 := σM.1 7 (3 * k)) hR
    obtain ⟨g, g1, g2⟩ := kt_sg2 (a := a) (σ := τX) (σ' := τM)
    rw [k1, k2, Option.bind_some, Option.bind_some]
    exact ⟨g, τX, τM, g1, g2, k3, kqX_fX9_moveOrigin hqX _ k1, kqM_fX10_origin hqM _ k2⟩
  · have e0 := c6' 0 (by decide)
    have e1 := c6' 1 (by decide)
    rw [Nat.add_zero] at e0
    rw [Nat.add_zero, if_neg (show ¬ nI 7 = nI 2 by decide), if_neg (show ¬ nI 7 = nI 3 by decide), if_neg (show ¬ nI 7 = (4 : Int32) by decide), if_neg (show ¬ nI 7 = (5 : Int32) by decide), if_neg (show ¬ nI 7 = (6 : Int32) by decide), if_pos (show nI 7 = (7 : Int32) by decide), if_neg (show ¬ Int64.ofInt (kt_W 7) = 12345 by decide), if_neg (show ¬ Int64.ofInt (kt_W 7) = 408362632 by decide), if_neg (show ¬ Int64.ofInt (kt_W 7) = 3554917 by decide), if_neg (show ¬ Int64.ofInt (kt_W 7) = 508078 by decide), if_neg (show ¬ Int64.ofInt (kt_W 7) = 522493230 by decide), if_pos (show Int64.ofInt (kt_W 7) = 24170600 by decide), e0, e1]
    obtain ⟨a, τX, τM, k1, k2, k3⟩ := ko_watch (a1 := σM.1 7 (3 * k)) (a2 := σM.1 7 (3 * k + 1)) hR
    obtain ⟨g, g1, g2⟩ := kt_sg2 (a := a) (σ := τX) (σ' := τM)
    rw [k1, k2, Option.bind_some, Option.bind_some]
    exact ⟨g, τX, τM, g1, g2, k3, kqX_fX9_watchTown hqX _ k1, kqM_fX10_watch hqM _ k2⟩
  · have e0 := c6' 0 (by decide)
    rw [Nat.add_zero] at e0
    rw [Nat.add_zero, if_neg (show ¬ nI 8 = nI 2 by decide), if_neg (show ¬ nI 8 = nI 3 by decide), if_neg (show ¬ nI 8 = (4 : Int32) by decide), if_neg (show ¬ nI 8 = (5 : Int32) by decide), if_neg (show ¬ nI 8 = (6 : Int32) by decide), if_neg (show ¬ nI 8 = (7 : Int32) by decide), if_pos (show nI 8 = (8 : Int32) by decide), if_neg (show ¬ Int64.ofInt (kt_W 8) = 12345 by decide), if_neg (show ¬ Int64.ofInt (kt_W 8) = 408362632 by decide), if_neg (show ¬ Int64.ofInt (kt_W 8) = 3554917 by decide), if_neg (show ¬ Int64.ofInt (kt_W 8) = 508078 by decide), if_neg (show ¬ Int64.ofInt (kt_W 8) = 522493230 by decide), if_neg (show ¬ Int64.ofInt (kt_W 8) = 24170600 by decide), e0]
    obtain ⟨a, τX, τM, k1, k2, k3⟩ := ko_forget (a1 := σM.1 7 (3 * k)) hR
    rw [k1, k2, Option.bind_some, Option.bind_some]
    dsimp only
    rw [kn_chkB, kn_chkB]
    exact ⟨_, τX, τM, rfl, rfl, k3, kqX_fX9_forgetTown hqX _ k1, kqM_fX10_forget hqM _ k2⟩
theorem ko_orders {σX σM : kw_M} {a1 : Int32} (hR : kw_Rel σX σM) : ∃ a τX τM, fX9_orders a1 σX = some (a, τX) ∧ fX10_orders a1 σM = some (a, τM) ∧ kw_Rel τX τM := by
  obtain ⟨n, m, o, hok, hsh, hkp, htp, hpr⟩ := hR
  have same : kw_Rel σX σM := ⟨n, m, o, hok, hsh, hkp, htp, hpr⟩
  obtain ⟨s, hs1, hs2, hs3, hs4⟩ := htp
  have h2 := hok.1.2.1
  have h12 := hok.1.2.2.1
  have hnX : σX.1 12 0 = nI n := hsh.1.1.trans hok.1.1
  unfold fX9_orders fX10_orders
  rw [kx_canGive hs2 hs1, km_isText hs3 hs1, Option.bind_some, Option.bind_some, show (1 : Int32).toInt = 1 by decide, show (200 : Int32).toInt = 200 by decide, hnX]
  simp only [kx_fl_0]
  by_cases t1 : 1 ≤ a1.toInt ∧ a1.toInt ≤ 200 ∧ a1.toInt ≤ s
  case neg =>
    rw [decide_eq_false t1, kn_ff, kn_ff]
    exact ⟨_, _, _, rfl, rfl, same⟩
  rw [decide_eq_true t1, kn_tf, kn_tf]
  obtain ⟨e, he, rfl⟩ := kw_arg (x := a1) (n := 201) (by decide) ⟨by omega, by omega⟩
  rw [nI_toInt (by omega)] at t1
  have hB : kt_B (fun i => (σM.1 5 i).toBitVec.toNat % 256) e := ⟨by omega, fun i => Nat.mod_lt _ (by decide)⟩
  obtain ⟨f, τX, b, τM, k1, k2, EX, FM, k3⟩ := kt_text (net := false) (tw := n) (σX := σX) (σM := σM) hB ⟨h2, h12⟩ (fun i hi => by rw [hs4 i (by omega)]; exact kw_b255 _) (fun i hi => kw_b255 _) (fun q => by cases q) (fun _ => hok.1.1)
  have k1' : fX3_readText (nI e) (0 : Int32) (nI n) σX = some (f, τX) := k1
  have k2' : fX10_readsText (nI e) (0 : Int32) σM = some (b, τM) := k2
  rw [k1', k2', Option.bind_some, Option.bind_some]
  dsimp only
  rw [kw_let_def]
  have rel : kw_Rel (kw_si τX 3 0 0) τM := kw_Rel_tx hok hsh hkp hpr EX (FM.1 1 (by decide) (by decide)) FM.2.2.1 FM.2.2.2
  rcases k3 with ⟨rfl, hf, k4⟩ | ⟨rfl, rfl, K, tw, g1, g2, g3, g4, g5, g6, g7, g8⟩
  · rw [if_neg hf, if_pos rfl, k4]
    exact ⟨_, _, _, rfl, rfl, rel⟩
  · rw [if_pos rfl, if_neg (show ¬ (1 : Int32) = 0 by decide)]
    have g3' : (kw_si τX 3 0 0).1 4 1 = nI K := by rw [kw_si_o (by decide)]; exact g3
    have g8' : ∀ i, i < K → kt_C false tw (kw_si τX 3 0 0) τM i := fun i hi => kt_C_f (g8 i hi) (kw_si_o (by decide)) (kw_si_o (by decide)) rfl rfl
    generalize kw_si τX 3 0 0 = ρX at rel g3' g8' ⊢
    obtain ⟨x, x', l1, l2, l3, l4⟩ := kw_for2 (bX := fun s => bX9_orders_60 s.1 s.2) (bM := fun s => bX10_orders_26 s.1 s.2) (fun k s s' => s.1 = nI k ∧ s'.1 = nI k ∧ kw_Rel s.2 s'.2 ∧ kqX ρX s.2 ∧ kqM τM s'.2) (fun x x' => x.1 = x'.1 ∧ kw_Rel x.2 x'.2) K (by omega) (s0 := ((0 : Int32), ρX)) (s0' := ((0 : Int32), τM)) ⟨rfl, rfl, rel, ⟨rfl, rfl, rfl⟩, ⟨rfl, rfl, rfl⟩⟩ (fun k s s' hk hP => by
      obtain ⟨v, μX⟩ := s
      obtain ⟨v', μM⟩ := s'
      obtain ⟨p1, p2, p3, p4, p5⟩ := hP
      dsimp only at p1 p2 p3 p4 p5 ⊢
      subst p1 p2
      unfold bX9_orders_60 bX10_orders_26
      rw [p4.1, g3', p5.1, g4]
      by_cases hkK : k < K
      case neg =>
        right
        obtain rfl : k = K := by omega
        rw [if_pos (nI_le (Nat.le_refl k) (by omega)), if_pos (nI_le (Nat.le_refl k) (by omega))]
        exact ⟨_, _, rfl, rfl, rfl, p3⟩
      obtain ⟨g, νX, νM, d1, d2, d3, d4, d5⟩ := kt_do p3 p4 p5 (show k < 24 by omega) (g8' k hkK)
      rw [if_neg (nI_ge hkK (by omega)), if_neg (nI_ge hkK (by omega)), d1, d2, Option.bind_some, Option.bind_some]
      dsimp only
      by_cases hg : g = 0
      · right
        rw [if_pos hg, if_pos hg]
        exact ⟨_, _, rfl, rfl, rfl, d3⟩
      · left
        rw [if_neg hg, if_neg hg, kw_let_def, kw_let_def, km_next]
        exact ⟨hkK, _, _, rfl, rfl, rfl, rfl, d3, d4, d5⟩)
    rw [l1, l2, Option.bind_some, Option.bind_some, l3]
    exact ⟨_, _, _, rfl, rfl, l4⟩
