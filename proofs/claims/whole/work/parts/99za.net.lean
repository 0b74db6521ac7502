/-! net: the call. -/
theorem kw_Rel_back {σX σM τX τM : kw_M} {n m o : Nat} (hok : kb_ok (σM.1 1) n m o) (hsh : kx_sh σX 1 12 (σM.1 1) n m o) (hkp : kx_kp σX σM) (hpr : kx_pr σX (σM.1 1) n m) (x1 : ∀ c, c ≠ 3 → c ≠ 4 → c ≠ 10 → c ≠ 32 → c ≠ 33 → c ≠ 34 → c ≠ 36 → c ≠ 37 → τX.1 c = σX.1 c) (x2 : ∀ c, c ≠ 10 → c ≠ 11 → c ≠ 41 → τX.2 c = σX.2 c) (x3 : τX.1 3 0 = 0) (m1 : ∀ j, j < 1416 → τM.1 1 j = σM.1 1 j) (m2 : τM.1 0 1 = σM.1 0 1) (m3 : τM.1 0 6 = 0) : kw_Rel τX τM := by
  have kN : kx_kN σX τX := ⟨fun c hc => x1 c (by omega) (by omega) (by omega) (by omega) (by omega) (by omega) (by omega) (by omega), fun c hc => x2 c (by omega) (by omega) (by omega)⟩
  refine ⟨n, m, o, kb_ok_eq hok (fun j hj => m1 j (by omega)), kx_sh_eq hok (kx_sh_N hsh kN) (fun j hj => m1 j (by omega)), ?_, ⟨0, by omega, by rw [x3]; rfl, by rw [m3]; rfl, fun i hi => absurd hi (Nat.not_lt_zero _)⟩, kx_pr_eq hpr (x1 5 (by decide) (by decide) (by decide) (by decide) (by decide) (by decide) (by decide) (by decide)) (x2 39 (by decide) (by decide) (by decide)) (fun j h1 h2 => m1 j (by have := hok.1.2.2.2.1.1; omega))⟩
  obtain ⟨k1, k2⟩ := hkp
  refine ⟨by rw [x1 0 (by decide) (by decide) (by decide) (by decide) (by decide) (by decide) (by decide) (by decide), m2]; exact k1, ?_⟩
  rw [m2]
  rcases k2 with k2 | ⟨k2, n', m', o', hok', hsh'⟩
  · exact Or.inl k2
  · refine Or.inr ⟨k2, n', m', o', kb_ok_eq hok' (fun j hj => m1 _ (by omega)), kx_sh_eq hok' (kx_sh_fr (Or.inr rfl) hsh' (x1 2 (by decide) (by decide) (by decide) (by decide) (by decide) (by decide) (by decide) (by decide)) (fun c h5 h6 => x1 c (by omega) (by omega) (by omega) (by omega) (by omega) (by omega) (by omega) (by omega)) (x2 _ (by decide) (by decide) (by decide)) (x2 _ (by decide) (by decide) (by decide)) (x2 _ (by decide) (by decide) (by decide))) (fun j hj => m1 _ (by omega))⟩
/-- the class's State begins anew with what stands aside -/
theorem kx_beginWith {σ : kw_M} {F : Nat → Int32} {n m : Nat} (hw : kb_wf F n m) (hrd : kx_rd σ 10 F m) (hrow : ∀ t, t < 12 → σ.2 11 t = kx_enc (kb_D F n m 0 t)) (f2 : F 2 = 0) (f3 : F 3 = 0) (f4 : F 4 = 0) (f6 : F 6 = 0) (fw : ∀ t, t < 12 → F (172 + 3 * t) = 0) (fx : σ.1 1 4 = F 5) : ∃ τ, fX7_beginWith σ = some τ ∧ kx_sh τ 1 12 F n m 0 ∧ (∀ c, c ≠ 1 → c ≠ 12 → c ≠ 13 → c ≠ 17 → c ≠ 18 → c ≠ 19 → c ≠ 20 → τ.1 c = σ.1 c) := by
  have hm := hw.2.2.2.1.1
  have h12 := hw.2.2.1
  obtain ⟨σ3, c1, c2, c3, c4⟩ := kx_copy (c0 := 12) (c1 := 10) (Or.inr (Or.inl ⟨rfl, rfl⟩)) hrd hw.2.2.2.1.2.1 hm
  have c3' : ∀ q, q ≠ 12 → q ≠ 18 → q ≠ 19 → q ≠ 20 → σ3.1 q = σ.1 q := c3
  unfold fX7_beginWith
  rw [c1, Option.bind_some]
  simp only [kw_let_def]
  generalize hs6 : kw_si (kw_si (kw_si (kw_si (kw_si σ3 13 0 0) 1 2 0) 1 3 0) 1 5 0) 1 7 0 = s6
  have g1 : ∀ c, c ≠ 1 → c ≠ 13 → s6.1 c = σ3.1 c := fun c h1 h2 => by
    rw [← hs6, kw_si_o h1, kw_si_o h1, kw_si_o h1, kw_si_o h1, kw_si_o h2]
  have g2 : s6.2 = σ3.2 := by rw [← hs6]; rfl
  have g12 : s6.1 1 2 = 0 := by rw [← hs6]; simp [kw_si_1, upd]
  have g13 : s6.1 1 3 = 0 := by rw [← hs6]; simp [kw_si_1, upd]
  have g15 : s6.1 1 5 = 0 := by rw [← hs6]; simp [kw_si_1, upd]
  have g17 : s6.1 1 7 = 0 := by rw [← hs6]; simp [kw_si_1, upd]
  have g14 : s6.1 1 4 = F 5 := by
    rw [← hs6, kw_si_1, kw_upd_n (by decide), kw_si_1, kw_upd_n (by decide), kw_si_1, kw_upd_n (by decide), kw_si_1, kw_upd_n (by decide), kw_si_o (by decide), c3' 1 (by decide) (by decide) (by decide) (by decide)]
    exact fx
  have g130 : s6.1 13 0 = 0 := by
    rw [← hs6, kw_si_o (by decide), kw_si_o (by decide), kw_si_o (by decide), kw_si_o (by decide), kw_si_1, kw_upd_e]
  have hd5 : ∀ t, t < 12 → (kw_rl s6 16 (va_cpy (s6.2 11) (s6.2 16) 0 0 12)).2 16 t = kx_enc (kb_D F n m 0 t) := fun t ht => by
    rw [kw_rl_2]
    unfold va_cpy
    rw [if_pos (by omega), show 0 + (t - 0) = t by omega, g2, c4 11 (by decide)]
    exact hrow t ht
  have hrd5 : kx_rd (kw_rl s6 16 (va_cpy (s6.2 11) (s6.2 16) 0 0 12)) 12 F m := kx_rd_fr c2 (g1 12 (by decide) (by decide)) (g1 _ (by decide) (by decide)) (g1 _ (by decide) (by decide)) (g1 _ (by decide) (by decide)) (by rw [kw_rl_o (by decide), g2])
  obtain ⟨τ, p1, p2, p3, p4⟩ := kx_findParents hrd5 hw.2.2.2.1 hd5 (kb_D_in hw.2.2.2.1 h12)
  rw [p1, Option.bind_some]
  refine ⟨τ, rfl, ⟨?_, ⟨?_, ?_, ?_⟩, ⟨fun i hi => ?_, fun t ht h1 => ?_⟩, ⟨?_, fun i hi => ?_⟩, fun t ht => ?_, p4, ?_, fun i hi => ?_⟩, fun c h1 h2 h3 h4 h5 h6 h7 => ?_⟩
  · exact kx_rd_fr hrd5 (p3 _ (by decide)) (p3 _ (by decide)) (p3 _ (by decide)) (p3 _ (by decide)) (by rw [p2])
  · rw [p3 1 (by decide), f2]; exact g12
  · rw [p3 1 (by decide), f3]; exact g13
  · rw [p3 1 (by decide)]; exact g14
  · rw [p3 1 (by decide)]
    show kw_bI (s6.1 1 5) i = _
    rw [g15, kw_bI_0, decide_eq_false (fun q => by
      have := fw i q.1
      rw [q.2] at this
      exact absurd this (by decide))]
  · rw [fw t ht] at h1
    exact absurd h1 (by decide)
  · rw [p3 1 (by decide), f6]; exact g17
  · rw [f6] at hi
    exact absurd hi (Nat.not_lt_zero _)
  · rw [p2]; exact hd5 t ht
  · rw [p3 13 (by decide), f4]; exact g130
  · rw [f4] at hi
    exact absurd hi (Nat.not_lt_zero _)
  · rw [p3 c h4]
    show s6.1 c = _
    rw [g1 c h1 h3]
    exact c3' c h2 h5 h6 h7
theorem ko_net {σX σM : kw_M} {a1 : Int32} (hR : kw_Rel σX σM) : ∃ a τX τM, fX9_net a1 σX = some (a, τX) ∧ fX10_net a1 σM = some (a, τM) ∧ kw_Rel τX τM := by
  obtain ⟨n, m, o, hok, hsh, hkp, htp, hpr⟩ := hR
  have same : kw_Rel σX σM := ⟨n, m, o, hok, hsh, hkp, htp, hpr⟩
  obtain ⟨s, hs1, hs2, hs3, hs4⟩ := htp
  unfold fX9_net fX10_net
  rw [kx_canGive hs2 hs1, km_isText hs3 hs1, Option.bind_some, Option.bind_some, show (1 : Int32).toInt = 1 by decide, show (200 : Int32).toInt = 200 by decide]
  simp only [kx_fl_0]
  by_cases t1 : 1 ≤ a1.toInt ∧ a1.toInt ≤ 200 ∧ a1.toInt ≤ s
  case neg =>
    rw [decide_eq_false t1, kn_ff, kn_ff]
    exact ⟨_, _, _, rfl, rfl, same⟩
  rw [decide_eq_true t1, kn_tf, kn_tf]
  obtain ⟨e, he, rfl⟩ := kw_arg (x := a1) (n := 201) (by decide) ⟨by omega, by omega⟩
  rw [nI_toInt (by omega)] at t1
  have hB : kt_B (fun i => (σM.1 5 i).toBitVec.toNat % 256) e := ⟨by omega, fun i => Nat.mod_lt _ (by decide)⟩
  obtain ⟨f, τX, b, τM, k1, k2, EX, FM, k3⟩ := kt_text (net := true) (tw := 2) (σX := σX) (σM := σM) hB (by omega) (fun i hi => by rw [hs4 i (by omega)]; exact kw_b255 _) (fun i hi => kw_b255 _) (fun _ => rfl) (fun q => by cases q)
  have k1' : fX3_readText (nI e) (1 : Int32) (2 : Int32) σX = some (f, τX) := k1
  have k2' : fX10_readsText (nI e) (1 : Int32) σM = some (b, τM) := k2
  rw [k1', k2', Option.bind_some, Option.bind_some]
  dsimp only
  rw [kw_let_def]
  rcases k3 with ⟨rfl, hf, k4⟩ | ⟨rfl, rfl, K, tw, g1, g2, g3, g4, g5, g6, g7, g8⟩
  · rw [if_neg hf, if_pos rfl, k4]
    exact ⟨_, _, _, rfl, rfl, kw_Rel_tx hok hsh hkp hpr EX (FM.1 1 (by decide) (by decide)) FM.2.2.1 FM.2.2.2⟩
  rw [if_pos rfl, if_neg (show ¬ (1 : Int32) = 0 by decide)]
  obtain ⟨τ1, c1, c2, c3, c4⟩ := km_copies' (σ := τM) (a := 0) (b := 2) (by decide) (by decide) (by decide)
  have c1' : fX10_copies (0 : Int32) (2 : Int32) τM = some τ1 := c1
  obtain ⟨ρM, e1, e2, e3, e4⟩ := km_empties (σ := τ1)
  have m0 : τM.1 1 = σM.1 1 := FM.1 1 (by decide) (by decide)
  -- the blocks of the file
  have blk : ∀ j, 708 ≤ j → ρM.1 1 j = (if 1416 ≤ j ∧ j < 2124 then σM.1 1 (j - 1416) else σM.1 1 j) := fun j hj => by
    rw [e2 j, if_neg (by omega), if_neg (by omega), if_neg (by omega), c2, m0]
    unfold va_cpy
    by_cases q : 1416 ≤ j ∧ j < 2124
    · rw [if_pos (by omega), if_pos q, show 708 * 0 + (j - 708 * 2) = j - 1416 by omega]
    · rw [if_neg (by omega), if_neg q]
  have z5 : ρM.1 1 5 = σM.1 1 5 := by
    rw [e2 5, if_neg (by decide), if_pos rfl, c2, m0]
    unfold va_cpy
    rw [if_neg (by omega)]
  have z0 : ρM.1 1 0 = nI tw := by
    rw [e2 0, if_pos rfl, c3 0 (by decide)]
    exact g6 rfl
  have zz : ∀ j, j ≠ 0 → j ≠ 5 → j < 708 → ρM.1 1 j = 0 := fun j h1 h2 h3 => by
    rw [e2 j, if_neg h1, if_neg h2, if_pos h3]
  have q12 : ρM.1 0 12 = nI K := by rw [e3 0 (by decide), c3 0 (by decide)]; exact g4
  have q01 : ρM.1 0 1 = σM.1 0 1 := by rw [e3 0 (by decide), c3 0 (by decide)]; exact FM.2.2.1
  have q06 : ρM.1 0 6 = 0 := by rw [e3 0 (by decide), c3 0 (by decide)]; exact FM.2.2.2
  rw [c1', Option.bind_some, e1, Option.bind_some]
  unfold fX9_buildNet fX4_beginWith
  simp only [kw_let_def]
  have g5' : (kw_si τX 3 0 0).1 4 0 = nI tw := by rw [kw_si_o (by decide)]; exact g5
  rw [g5', Option.bind_some]
  have fX0 : ∀ c, c ≠ 3 → c ≠ 4 → c ≠ 10 → c ≠ 36 → c ≠ 37 → (kw_sl (kw_si (kw_si (kw_si τX 3 0 0) 10 0 (nI tw)) 10 1 0) 10 2 0).1 c = σX.1 c := fun c h1 h2 h3 h4 h5 => by
    rw [kw_sl_1, kw_si_o h3, kw_si_o h3, kw_si_o h1]; exact EX.2 c h2 h4 h5
  have fX2 : ∀ c, c ≠ 10 → (kw_sl (kw_si (kw_si (kw_si τX 3 0 0) 10 0 (nI tw)) 10 1 0) 10 2 0).2 c = σX.2 c := fun c h1 => by
    rw [kw_sl_o h1, kw_si_2, kw_si_2, kw_si_2, EX.1]
  have fX3 : (kw_sl (kw_si (kw_si (kw_si τX 3 0 0) 10 0 (nI tw)) 10 1 0) 10 2 0).1 3 0 = 0 := by
    rw [kw_sl_1, kw_si_o (by decide), kw_si_o (by decide), kw_si_1, kw_upd_e]
  have fX4 : (kw_sl (kw_si (kw_si (kw_si τX 3 0 0) 10 0 (nI tw)) 10 1 0) 10 2 0).1 4 1 = nI K := by
    rw [kw_sl_1, kw_si_o (by decide), kw_si_o (by decide), kw_si_o (by decide)]; exact g3
  have fX36 : (kw_sl (kw_si (kw_si (kw_si τX 3 0 0) 10 0 (nI tw)) 10 1 0) 10 2 0).1 36 = τX.1 36 := by
    rw [kw_sl_1, kw_si_o (by decide), kw_si_o (by decide), kw_si_o (by decide)]
  have fX37 : (kw_sl (kw_si (kw_si (kw_si τX 3 0 0) 10 0 (nI tw)) 10 1 0) 10 2 0).1 37 = τX.1 37 := by
    rw [kw_sl_1, kw_si_o (by decide), kw_si_o (by decide), kw_si_o (by decide)]
  have fX10 : kx_rd (kw_sl (kw_si (kw_si (kw_si τX 3 0 0) 10 0 (nI tw)) 10 1 0) 10 2 0) 10 (ρM.1 1) 0 := by
    refine ⟨?_, ?_, fun r hr => absurd hr (Nat.not_lt_zero _), fun i hi => ?_⟩
    · rw [z0, kw_sl_1, kw_si_1, kw_upd_n (by decide), kw_si_1, kw_upd_e]
    · rw [zz 1 (by decide) (by decide) (by decide), kw_sl_1, kw_si_1, kw_upd_e]
    · rw [kw_sl_2, kw_updL_e, kw_bL_0, decide_eq_false (fun q => absurd q.1 (Nat.not_lt_zero _))]
  generalize kw_sl (kw_si (kw_si (kw_si τX 3 0 0) 10 0 (nI tw)) 10 1 0) 10 2 0 = ρX at fX0 fX2 fX3 fX4 fX36 fX37 fX10 ⊢
  have I0 : kn_I tw 0 0 ρX ρM ρX ρM := ⟨⟨z0, g2.1, g2.2, ⟨by decide, by rw [zz 1 (by decide) (by decide) (by decide)]; rfl, fun r hr => absurd hr (Nat.not_lt_zero _)⟩, fun r hr => absurd hr (Nat.not_lt_zero _)⟩, kr_good_0 _ _, fX10, Nat.le_refl _, ⟨fun _ _ _ _ _ => rfl, fun _ _ _ => rfl⟩, fun _ _ => rfl, fun _ _ => rfl, fun _ _ _ => rfl⟩
  have hC : ∀ i, i < K → kt_C true tw ρX ρM i := fun i hi => kt_C_f (g8 i hi) fX36 fX37 (by rw [e4, c4]) (by rw [e3 7 (by decide), c3 7 (by decide)])
  obtain ⟨x, y, l1, l2, l3⟩ := kn_roads g1 fX4 q12 hC K 0 0 ρX ρM kw_F kw_F (by omega) I0 (by unfold kw_F; omega) (by unfold kw_F; omega)
  have l1' : kw_loop (fun s => bX9_buildNet_16 s.1 s.2) kw_F ((0 : Int32), ρX) = some x := l1
  have l2' : kw_loop (fun s => bX10_net_38 s.1 s.2.1 s.2.2) kw_F ((0 : Int32), (0 : Int32), ρM) = some y := l2
  rw [l1', l2', Option.bind_some, Option.bind_some]
  -- what isn't done is laid back
  have back : ∀ (w : Int32) (μX μM : kw_M), (∀ c, c ≠ 10 → c ≠ 32 → c ≠ 33 → c ≠ 34 → μX.1 c = ρX.1 c) → (∀ c, c ≠ 10 → c ≠ 11 → c ≠ 41 → μX.2 c = ρX.2 c) → (∀ c, c ≠ 1 → μM.1 c = ρM.1 c) → (∀ j, j ≠ 1 → (j < 28 ∨ 172 ≤ j) → μM.1 1 j = ρM.1 1 j) → ¬ (0 : Int32) ≤ w → ∃ τM, jX10_net_139 w μM = some (w, τM) ∧ kw_Rel μX τM := fun w μX μM h1 h2 h3 h4 h5 => by
    obtain ⟨ν, v1, v2, v3, v4⟩ := km_copies' (σ := μM) (a := 2) (b := 0) (by decide) (by decide) (by decide)
    have v1' : fX10_copies (2 : Int32) (0 : Int32) μM = some ν := v1
    unfold jX10_net_139
    rw [if_neg h5, v1', Option.bind_some]
    refine ⟨ν, rfl, kw_Rel_back hok hsh hkp hpr (fun c y1 y2 y3 y4 y5 y6 y7 y8 => ?_) (fun c y1 y2 y3 => ?_) ?_ (fun j hj => ?_) ?_ ?_⟩
    · rw [h1 c y3 y4 y5 y6]; exact fX0 c y1 y2 y3 y7 y8
    · rw [h2 c y1 y2 y3]; exact fX2 c y1
    · rw [h1 3 (by decide) (by decide) (by decide) (by decide)]; exact fX3
    · rw [v2]
      unfold va_cpy
      by_cases q : j < 708
      · rw [if_pos (by omega), h4 _ (by omega) (by omega), blk _ (by omega), if_pos (by omega), show 708 * 2 + (j - 708 * 0) - 1416 = j by omega]
      · rw [if_neg (by omega), h4 _ (by omega) (by omega), blk _ (by omega), if_neg (by omega)]
    · rw [v3 0 (by decide), h3 0 (by decide)]; exact q01
    · rw [v3 0 (by decide), h3 0 (by decide)]; exact q06
  rcases l3 with ⟨μX, μM, rfl, rfl, FX1, FM1⟩ | ⟨M, μX, μM, rfl, rfl, i1, i2, i3, i4, i5, i6, i7, i8⟩
  · -- a ring
    obtain ⟨ν, b1, b2⟩ := back (-3) μX μM FX1.1 (fun c h1 _ h2 => FX1.2 c h1 h2) FM1.1 FM1.2.2 (by decide)
    rw [Sum.elim_inl, Option.bind_some]
    unfold jX10_net_106 jX10_net_116 jX10_net_125
    dsimp only
    rw [if_neg (show ¬ (1 : Int32) = 0 by decide), if_neg (show ¬ (1 : Int32) = 0 by decide), if_neg (show ¬ (1 : Int32) = 0 by decide), b1]
    exact ⟨_, _, _, rfl, rfl, b2⟩
  · have f2 : μM.1 1 2 = 0 := by rw [i8 2 (by decide) (by decide)]; exact zz 2 (by decide) (by decide) (by decide)
    obtain ⟨ν, s1, s2, s3, s4⟩ := km_settles' (σ := μM) (m := M) (n := tw) (o := 0) i1.2.2.2.1 i1.1 (by omega) g2.2 (by rw [f2]; rfl) (by decide)
    have hset : fX4_settle 10 11 (0 : Int32) (-1 : Int32) μX = some (kx_row μX 11 (kb_D (μM.1 1) tw M 0)) := kx_settle' (R := 10) (c3 := 11) (by decide) i3 i1 i2 (show 0 < tw by omega)
    have hDin := kb_D_in (n := tw) (o := 0) i1.2.2.2.1 g2.2
    have hrow : ∀ t, t < 12 → (kx_row μX 11 (kb_D (μM.1 1) tw M 0)).2 11 t = kx_enc (kb_D (μM.1 1) tw M 0 t) := fun t ht => kx_row_at ht
    have hall := kx_allInts (σ := kx_row μX 11 (kb_D (μM.1 1) tw M 0)) hrow (by exact i3.1.trans i1.1) g2.2 hDin
    have hfar := km_tooFar (σ := ν) (d := kb_D (μM.1 1) tw M 0) s3 (by rw [s2]; exact i1.1) g2.2 hDin
    rw [Sum.elim_inr, hset, Option.bind_some, hall, Option.bind_some]
    unfold jX10_net_106 jX10_net_116 jX10_net_125
    dsimp only
    rw [if_pos rfl, if_pos rfl, s1, Option.bind_some, if_pos rfl, hfar, Option.bind_some]
    simp only [kx_fl_0]
    cases hb : kr_anyTo (kr_bad (kb_D (μM.1 1) tw M 0)) tw with
    | true =>
      obtain ⟨ν2, b1, b2⟩ := back (-4) (kx_row μX 11 (kb_D (μM.1 1) tw M 0)) ν (fun c h1 h2 h3 h4 => i5.1 c h1 h2 h3 h4) (fun c h1 h2 h3 => by rw [kx_row_o h2]; exact i5.2 c h1 h3) (fun c hc => by rw [s2]; exact i6 c hc) (fun j h1 h2 => by rw [s2]; exact i8 j h1 h2) (by decide)
      rw [show (!true) = false from rfl, kn_ff, kn_tf, b1, Option.bind_some]
      exact ⟨_, _, _, rfl, rfl, b2⟩
    | false =>
      have f3 : μM.1 1 3 = 0 := by rw [i8 3 (by decide) (by decide)]; exact zz 3 (by decide) (by decide) (by decide)
      have f4 : μM.1 1 4 = 0 := by rw [i8 4 (by decide) (by decide)]; exact zz 4 (by decide) (by decide) (by decide)
      have f6 : μM.1 1 6 = 0 := by rw [i8 6 (by decide) (by decide)]; exact zz 6 (by decide) (by decide) (by decide)
      have f5 : μM.1 1 5 = σM.1 1 5 := by rw [i8 5 (by decide) (by decide)]; exact z5
      have fw : ∀ t, t < 12 → μM.1 1 (172 + 3 * t) = 0 := fun t ht => by rw [i8 _ (by omega) (by omega)]; exact zz _ (by omega) (by omega) (by omega)
      have hx4 : (kx_row μX 11 (kb_D (μM.1 1) tw M 0)).1 1 4 = μM.1 1 5 := by
        show μX.1 1 4 = _
        rw [i5.1 1 (by decide) (by decide) (by decide) (by decide), fX0 1 (by decide) (by decide) (by decide) (by decide) (by decide), hsh.2.1.2.2, f5]
      obtain ⟨ξ, b1, b2, b3⟩ := kx_beginWith (σ := kx_row μX 11 (kb_D (μM.1 1) tw M 0)) (F := μM.1 1) (n := tw) (m := M) i1 (kx_rd_fr i3 rfl rfl rfl rfl (kx_row_o (by decide))) hrow f2 f3 f4 f6 fw hx4
      have b3' : ∀ c, c ≠ 1 → c ≠ 12 → c ≠ 13 → c ≠ 17 → c ≠ 18 → c ≠ 19 → c ≠ 20 → ξ.1 c = μX.1 c := b3
      rw [show (!false) = true from rfl, kn_tf, kn_ff, b1, Option.bind_some]
      unfold jX10_net_139
      rw [if_pos (show (0 : Int32) ≤ 0 by decide), kw_let_def, Option.bind_some]
      have a1 : (kw_si (kw_si ξ 0 2 0) 5 0 0).1 4 1 = nI K := by
        rw [kw_si_o (by decide), kw_si_o (by decide), b3' 4 (by decide) (by decide) (by decide) (by decide) (by decide) (by decide) (by decide), i5.1 4 (by decide) (by decide) (by decide) (by decide)]
        exact fX4
      have a2 : (kw_si ν 0 1 0).1 0 12 = nI K := by
        rw [kw_si_1, kw_upd_n (by decide), s2, i6 0 (by decide)]
        exact q12
      rw [a1, a2]
      have a3 : (kw_si ν 0 1 0).1 1 = μM.1 1 := by rw [kw_si_o (by decide), s2]
      refine ⟨_, _, _, rfl, rfl, tw, M, 0, ?_, ?_, ⟨?_, Or.inl ?_⟩, ⟨0, by omega, ?_, ?_, fun i hi => absurd hi (Nat.not_lt_zero _)⟩, Or.inl ?_⟩
      · rw [a3]
        obtain ⟨ex, hx1, hx2⟩ := hok.2.2.2.2.2.2.2.2
        refine ⟨i1, by rw [f2]; rfl, by omega, i2, hb, fun t ht => ⟨Or.inl (fw t ht), fun q => ?_⟩, ⟨0, by decide, by rw [f4]; rfl⟩, ⟨0, by decide, by rw [f6]; rfl⟩, ex, hx1, by rw [f5]; exact hx2⟩
        rw [fw t ht] at q
        exact absurd q (by decide)
      · rw [a3]
        exact kx_sh_fr (Or.inl rfl) b2 (by rw [kw_si_o (by decide), kw_si_o (by decide)]) (fun c h1 h2 => by rw [kw_si_o (by omega), kw_si_o (by omega)]) rfl rfl rfl
      · rw [kw_si_o (by decide), kw_si_1, kw_upd_e, kw_si_1, kw_upd_e]
      · rw [kw_si_1, kw_upd_e]
      · rw [kw_si_o (by decide), kw_si_o (by decide), b3' 3 (by decide) (by decide) (by decide) (by decide) (by decide) (by decide) (by decide), i5.1 3 (by decide) (by decide) (by decide) (by decide), fX3]
        rfl
      · rw [kw_si_1, kw_upd_n (by decide), s2, i6 0 (by decide), q06]
        rfl
      · rw [kw_si_1, kw_upd_e]
