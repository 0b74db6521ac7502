/-! touched, event, seed, watch, forget. -/
theorem ko_touched {σX σM : kw_M} {a1 : Int32} (hR : kw_Rel σX σM) : ∃ a, fX9_touched a1 σX = some a ∧ fX10_touched a1 σM = some a := by
  obtain ⟨n, m, o, hok, hsh, hkp, htp, hpr⟩ := hR
  obtain ⟨k, hk, hk2⟩ := hok.2.2.2.2.2.2.2.1
  obtain ⟨h7, hT⟩ := hsh.2.2.2.1
  unfold fX9_touched fX10_touched
  rw [h7, hk2]
  by_cases h0 : (0 : Int32) ≤ a1
  case neg => rw [if_neg h0, if_neg h0]; exact ⟨_, rfl, rfl⟩
  rw [if_pos h0, if_pos h0]
  by_cases h1 : nI k ≤ a1
  · rw [if_pos h1, if_pos h1]; exact ⟨_, rfl, rfl⟩
  rw [if_neg h1, if_neg h1]
  rw [Int32.le_iff_toInt_le] at h0 h1
  rw [nI_toInt (by omega)] at h1
  rw [show (0 : Int32).toInt = 0 by decide] at h0
  obtain ⟨i, hi, rfl⟩ := kw_arg (n := k) (by omega) ⟨h0, by omega⟩
  simp (disch := omega) only [kn_16, nI_add, kn_chk, kn_clamp]
  refine ⟨_, rfl, ?_⟩
  rw [hT i (by rw [hk2, kn_clamp (by omega)]; exact hi)]
theorem ko_event {σX σM : kw_M} {a1 a2 : Int32} (hR : kw_Rel σX σM) : ∃ a, fX9_event a1 a2 σX = some a ∧ fX10_event a1 a2 σM = some a := by
  obtain ⟨n, m, o, hok, hsh, hkp, htp, hpr⟩ := hR
  obtain ⟨e, he, he2⟩ := hok.2.2.2.2.2.2.1
  obtain ⟨h7, hT⟩ := hsh.2.2.2.2.2.2
  have h13 : σX.1 13 0 = nI e := h7.trans he2
  unfold fX9_event fX10_event
  rw [h13, km_in, km_in, he2, km_sub1 (by omega), Int32.toInt_toInt64, Int32.toInt_toInt64]
  simp only [Option.bind_some, kx_fl_0, show (0 : Int64).toInt = 0 by decide, show (3 : Int64).toInt = 3 by decide, Int32.lt_iff_toInt_lt, Int32.le_iff_toInt_le, nI_toInt (show e < 2 ^ 31 by omega), show (0 : Int32).toInt = 0 by decide, show (4 : Int32).toInt = 4 by decide]
  by_cases h1 : 0 ≤ a1.toInt ∧ a1.toInt ≤ (e : Int) - 1
  case neg =>
    simp only [decide_eq_false h1, kn_ff]
    refine ⟨_, ?_, rfl⟩
    by_cases q : a1.toInt < 0
    · rw [if_pos q]
    · rw [if_neg q, if_pos (by omega)]
  simp only [decide_eq_true h1, kn_tf]
  rw [if_neg (by omega), if_neg (by omega)]
  by_cases h2 : 0 ≤ a2.toInt ∧ a2.toInt ≤ 3
  case neg =>
    simp only [decide_eq_false h2, kn_ff]
    refine ⟨_, ?_, rfl⟩
    by_cases q : a2.toInt < 0
    · rw [if_pos q]
    · rw [if_neg q, if_neg (by omega)]
  simp only [decide_eq_true h2, kn_tf]
  rw [if_neg (by omega), if_pos (by omega)]
  obtain ⟨i, hi, rfl⟩ := kw_arg (x := a1) (n := e) (by omega) ⟨h1.1, by omega⟩
  obtain ⟨w, hw, rfl⟩ := kw_arg (x := a2) (n := 4) (by omega) ⟨h2.1, by omega⟩
  obtain ⟨x1, x2, x3, x4⟩ := hT i (by rw [he2, kn_clamp (by omega)]; exact hi)
  simp (disch := omega) only [kw_let_def, kn_208, kn_5, kn_4, kn_3, kn_mul, nI_add, kn_chk, kn_clamp, kn_eq]
  refine ⟨_, rfl, ?_⟩
  show _ = some (σX.2 (12 + 9) (i * 4 + w))
  obtain rfl | rfl | rfl | rfl : w = 0 ∨ w = 1 ∨ w = 2 ∨ w = 3 := by omega
  · rw [if_neg (by omega)]
    exact congrArg some x1.symm
  · rw [if_neg (by omega), x2]
  · rw [if_neg (by omega), x3]
  · rw [if_pos rfl, x4]
    unfold kb_far
    have e0 : (nI 0 : Int32) = 0 := by decide
    by_cases q : σM.1 1 (208 + 5 * i + 4) = 0
    · rw [if_pos q, if_pos q]
    · rw [if_neg q, if_neg q]
/-- blocks that differ in watches, the lot, touched towns and the like alone -/
theorem kb_ok_w {F G : Nat → Int32} {n m o : Nat} (h : kb_ok F n m o) (hj : ∀ j, (j < 5 ∨ (6 ≤ j ∧ j < 172)) → G j = F j) (h5 : ∃ x, x < 65536 ∧ G 5 = nI x) (hw : ∀ t, t < 12 → (G (172 + 3 * t) = 0 ∨ G (172 + 3 * t) = 1) ∧ (G (172 + 3 * t) = 1 → t < n ∧ G (172 + 3 * t + 2) = kb_flag G (kb_D F n m o t) t)) : kb_ok G n m o := by
  obtain ⟨a, b, c, d, e, f, g1, g2, g3⟩ := h
  have hm := a.2.2.2.1.1
  have hr : ∀ j, 28 ≤ j → j < 28 + 4 * m → G j = F j := fun j _ _ => hj j (by omega)
  have hD := kb_D_same hr n o
  refine ⟨kb_wf_eq a (hj 0 (by omega)) (hj 1 (by omega)) hr, (hj 2 (by omega)).trans b, c, kr_same_good (kr_same_symm (kb_gr_same hr (-1))) d, by rw [hD]; exact e, fun t ht => ?_, by rw [hj 4 (by omega)]; exact g1, by rw [hj 6 (by omega)]; exact g2, h5⟩
  rw [hD]
  exact hw t ht
theorem kx_sh_w {σ τ : kw_M} {F G : Nat → Int32} {n m o : Nat} (hok : kb_ok F n m o) (h : kx_sh σ 1 12 F n m o) (hj : ∀ j, (j < 5 ∨ (6 ≤ j ∧ j < 172) ∨ 208 ≤ j) → G j = F j) (h1 : ∀ k, k ≠ 4 → k ≠ 5 → τ.1 1 k = σ.1 1 k) (hi : ∀ c, 12 ≤ c → c < 21 → c ≠ 14 → τ.1 c = σ.1 c) (hl : τ.2 = σ.2) (h5 : τ.1 1 4 = G 5) (hw : kx_wt τ 1 12 G) : kx_sh τ 1 12 G n m o := by
  obtain ⟨a, b, c, d, e, f, g⟩ := h
  have hm := hok.1.2.2.2.1.1
  obtain ⟨e', he, he2⟩ := hok.2.2.2.2.2.2.1
  obtain ⟨k', hk, hk2⟩ := hok.2.2.2.2.2.2.2.1
  have hr : ∀ j, 28 ≤ j → j < 28 + 4 * m → G j = F j := fun j _ _ => hj j (by omega)
  have hD := kb_D_same hr n o
  refine ⟨kx_rd_eq (kx_rd_fr a (hi 12 (by omega) (by omega) (by omega)) (hi 18 (by omega) (by omega) (by omega)) (hi 19 (by omega) (by omega) (by omega)) (hi 20 (by omega) (by omega) (by omega)) (by rw [hl])) (hj 0 (by omega)) (hj 1 (by omega)) hr, ⟨?_, ?_, h5⟩, hw, ⟨?_, fun i hi' => ?_⟩, fun t ht => ?_, fun t ht => ?_, kx_lg_fr g he2 he (hj 4 (by omega)) (fun j _ _ => hj j (by omega)) (by rw [hi (12 + 1) (by omega) (by omega) (by omega)]) (fun _ _ => by rw [hl])⟩
  · rw [h1 2 (by decide) (by decide), hj 2 (by omega)]; exact b.1
  · rw [h1 3 (by decide) (by decide), hj 3 (by omega)]; exact b.2.1
  · rw [h1 7 (by decide) (by decide), hj 6 (by omega)]; exact d.1
  · rw [hj 6 (by omega)] at hi'
    have hi2 := hi'
    rw [hk2, kn_clamp (by omega)] at hi2
    rw [hi (12 + 3) (by omega) (by omega) (by omega), hj _ (by omega)]
    exact d.2 i hi'
  · rw [hl, hD]; exact e t ht
  · rw [hi (12 + 5) (by omega) (by omega) (by omega), hD, kr_same_par (kb_gr_same hr (-1))]
    exact f t ht
theorem ko_seed {σX σM : kw_M} {a1 : Int32} (hR : kw_Rel σX σM) : ∃ a τX τM, fX9_seed a1 σX = some (a, τX) ∧ fX10_seed a1 σM = some (a, τM) ∧ kw_Rel τX τM := by
  obtain ⟨n, m, o, hok, hsh, hkp, htp, hpr⟩ := hR
  have hm := hok.1.2.2.2.1.1
  unfold fX9_seed fX10_seed
  rw [km_in, Int32.toInt_toInt64]
  simp only [Option.bind_some, kx_fl_0, show (0 : Int64).toInt = 0 by decide, show (65535 : Int64).toInt = 65535 by decide, Int32.lt_iff_toInt_lt, show (0 : Int32).toInt = 0 by decide, show (65536 : Int32).toInt = 65536 by decide]
  by_cases h1 : 0 ≤ a1.toInt ∧ a1.toInt ≤ 65535
  case neg =>
    simp only [decide_eq_false h1, kn_ff]
    refine ⟨_, _, _, ?_, rfl, n, m, o, hok, hsh, hkp, htp, hpr⟩
    by_cases q : a1.toInt < 0
    · rw [if_pos q]
    · rw [if_neg q, if_neg (by omega)]
  simp only [decide_eq_true h1, kn_tf]
  rw [if_neg (by omega), if_pos (by omega), kw_let_def, kw_let_def]
  obtain ⟨x, hx, rfl⟩ := kw_arg (n := 65536) (by omega) ⟨h1.1, by omega⟩
  have km' : km_kO σM (kw_si σM 1 5 (nI x)) := ⟨fun j h2 h3 => by rw [kw_si_1, kw_upd_n (by omega)], by rw [kw_si_o (by decide)], by rw [kw_si_o (by decide)], kw_si_o (by decide)⟩
  have kO' : kx_kO σX (kw_si σX 1 4 (nI x)) := ⟨fun c hc => kw_si_o (by omega), fun _ _ => rfl⟩
  refine ⟨_, _, _, rfl, rfl, n, m, o, ?_, ?_, kx_kp_O hkp kO' km', kx_tp_O htp kO' km', kx_pr_eq hpr (kw_si_o (by decide)) rfl (fun j h2 h3 => by rw [kw_si_1, kw_upd_n (by omega)])⟩
  · refine kb_ok_w hok (fun j hj => by rw [kw_si_1, kw_upd_n (by omega)]) ⟨x, hx, by rw [kw_si_1, kw_upd_e]⟩ (fun t ht => ?_)
    unfold kb_flag
    rw [kw_si_1, kw_upd_n (by omega), kw_upd_n (by omega), kw_upd_n (by omega)]
    exact hok.2.2.2.2.2.1 t ht
  · refine kx_sh_w hok hsh (fun j hj => by rw [kw_si_1, kw_upd_n (by omega)]) (fun k h4 _ => by rw [kw_si_1, kw_upd_n h4]) (fun c h2 h3 _ => kw_si_o (by omega)) rfl (by rw [kw_si_1, kw_upd_e, kw_si_1, kw_upd_e]) ?_
    obtain ⟨w1, w2⟩ := hsh.2.2.1
    unfold kx_wt
    rw [kw_si_1, kw_si_1, kw_upd_n (by decide)]
    refine ⟨fun i hi => ?_, fun t ht => ?_⟩
    · rw [w1 i hi, kw_upd_n (by omega)]
    · rw [kw_upd_n (by omega), kw_upd_n (by omega), kw_si_o (by decide)]
      exact w2 t ht
theorem ko_watch {σX σM : kw_M} {a1 a2 : Int32} (hR : kw_Rel σX σM) : ∃ a τX τM, fX9_watchTown a1 a2 σX = some (a, τX) ∧ fX10_watch a1 a2 σM = some (a, τM) ∧ kw_Rel τX τM := by
  obtain ⟨n, m, o, hok, hsh, hkp, htp, hpr⟩ := hR
  have h2 := hok.1.2.1
  have h12 := hok.1.2.2.1
  have hm := hok.1.2.2.2.1.1
  have hon := hok.2.2.1
  have hnX : σX.1 12 0 = nI n := hsh.1.1.trans hok.1.1
  unfold fX9_watchTown fX10_watch
  rw [kx_hasTown hnX h12, km_isTown hok.1.1 h12, kx_isLength, km_isLength]
  simp only [Option.bind_some, kx_fl_0]
  by_cases t1 : 0 ≤ a1.toInt ∧ a1.toInt < n
  case neg =>
    simp only [decide_eq_false t1, kn_ff]
    exact ⟨_, _, _, rfl, rfl, n, m, o, hok, hsh, hkp, htp, hpr⟩
  simp only [decide_eq_true t1, kn_tf]
  by_cases t4 : -1000000000 ≤ a2.toInt ∧ a2.toInt ≤ 1000000000
  case neg =>
    simp only [decide_eq_false t4, kn_ff]
    exact ⟨_, _, _, rfl, rfl, n, m, o, hok, hsh, hkp, htp, hpr⟩
  simp only [decide_eq_true t4, kn_tf]
  obtain ⟨t, ht, rfl⟩ := kw_arg (by omega) t1
  obtain ⟨ρ, e1, e2, e3, e4⟩ := km_settles' hok.1.2.2.2.1 hok.1.1 (by omega) h12 hok.2.1 (by omega)
  have hbd := kb_D_bd (o := o) hok.1.2.2.2.1 h12 t
  rw [e1, Option.bind_some]
  simp (disch := omega) only [kw_let_def, kn_172, kn_3, kn_mul, nI_add, km_next, kn_2, kn_chk, kn_clamp, kw_si_d, kw_ri_1, kw_ri_ri]
  have hrowM : ∀ G : Nat → Int32, (kw_ri ρ 1 G).2 3 t = km_enc (kb_D (σM.1 1) n m o t) := fun G => e3 t (by omega)
  have hrowX : ∀ τ : kw_M, τ.2 = σX.2 → τ.2 16 t = kx_enc (kb_D (σM.1 1) n m o t) := fun τ hτ => by rw [hτ]; exact hsh.2.2.2.2.1 t (by omega)
  rw [km_isBeyond (hrowM _) hbd (by omega), kx_isBeyond (hrowX (kw_ri (kw_ri σX 1 (upd (σX.1 1) 5 (σX.1 1 5 ||| (1 : Int32) <<< (nI t &&& 31)))) 14 (upd ((kw_ri σX 1 (upd (σX.1 1) 5 (σX.1 1 5 ||| (1 : Int32) <<< (nI t &&& 31)))).1 14) t a2)) rfl) hbd (by omega)]
  simp only [Option.bind_some, kw_ri_1]
  have efl : kb_flag (upd (upd (ρ.1 1) (172 + 3 * t) 1) (172 + 3 * t + 1) a2) (kb_D (σM.1 1) n m o t) t = kx_fl (kb_bey (kb_D (σM.1 1) n m o t) a2) := by
    unfold kb_flag
    rw [kw_upd_e]
  rw [efl, kw_upd_e, e2]
  have main : ∀ v : Bool, v = kb_bey (kb_D (σM.1 1) n m o t) a2 → kw_Rel (kw_ri (kw_ri σX 1 (upd (σX.1 1) 5 (σX.1 1 5 ||| (1 : Int32) <<< (nI t &&& 31)))) 14 (upd ((kw_ri σX 1 (upd (σX.1 1) 5 (σX.1 1 5 ||| (1 : Int32) <<< (nI t &&& 31)))).1 14) t a2)) (kw_ri ρ 1 (upd (upd (upd (σM.1 1) (172 + 3 * t) 1) (172 + 3 * t + 1) a2) (172 + 3 * t + 2) (kx_fl v))) := fun v hv => by
    have km' : km_kO σM (kw_ri ρ 1 (upd (upd (upd (σM.1 1) (172 + 3 * t) 1) (172 + 3 * t + 1) a2) (172 + 3 * t + 2) (kx_fl v))) := ⟨fun j h2 h3 => by rw [kw_ri_1, kw_upd_n (by omega), kw_upd_n (by omega), kw_upd_n (by omega)], by rw [kw_ri_o (by decide), e2], by rw [kw_ri_o (by decide), e2], by rw [kw_ri_o (by decide), e2]⟩
    have kO' : kx_kO σX (kw_ri (kw_ri σX 1 (upd (σX.1 1) 5 (σX.1 1 5 ||| (1 : Int32) <<< (nI t &&& 31)))) 14 (upd ((kw_ri σX 1 (upd (σX.1 1) 5 (σX.1 1 5 ||| (1 : Int32) <<< (nI t &&& 31)))).1 14) t a2)) := ⟨fun c hc => by rw [kw_ri_o (by omega), kw_ri_o (by omega)], fun _ _ => rfl⟩
    have hj : ∀ j, (j < 172 ∨ 208 ≤ j) → upd (upd (upd (σM.1 1) (172 + 3 * t) 1) (172 + 3 * t + 1) a2) (172 + 3 * t + 2) (kx_fl v) j = σM.1 1 j := fun j hj => by rw [kw_upd_n (by omega), kw_upd_n (by omega), kw_upd_n (by omega)]
    refine ⟨n, m, o, ?_, ?_, kx_kp_O hkp kO' km', kx_tp_O htp kO' km', kx_pr_eq hpr (by rw [kw_ri_o (by decide), kw_ri_o (by decide)]) rfl (fun j h2 h3 => by rw [kw_ri_1]; exact hj j (by omega))⟩
    · rw [kw_ri_1]
      refine kb_ok_w hok (fun j hq => hj j (by omega)) (by rw [hj 5 (by omega)]; exact hok.2.2.2.2.2.2.2.2) (fun u hu => ?_)
      unfold kb_flag
      by_cases q : u = t
      · subst q
        rw [kw_upd_n (by omega), kw_upd_n (by omega), kw_upd_e, kw_upd_e, kw_upd_n (by omega), kw_upd_e, hv]
        exact ⟨Or.inr rfl, fun _ => ⟨ht, rfl⟩⟩
      · simp (disch := omega) only [kw_upd_n]
        exact hok.2.2.2.2.2.1 u hu
    · rw [kw_ri_1]
      refine kx_sh_w hok hsh (fun j hq => hj j (by omega)) (fun k _ h5 => by rw [kw_ri_o (by decide), kw_ri_1, kw_upd_n h5]) (fun c h3 h4 h5 => by rw [kw_ri_o h5, kw_ri_o (by omega)]) rfl (by rw [kw_ri_o (by decide), kw_ri_1, kw_upd_n (by decide), hj 5 (by omega)]; exact hsh.2.1.2.2) ⟨fun i hi => ?_, fun u hu hq => ?_⟩
      · rw [kw_ri_o (by decide), kw_ri_1, kw_upd_e, kw_bI_or, kw_upI (by omega) i hi, hsh.2.2.1.1 i hi]
        by_cases q : i = t
        · subst q
          rw [kw_upd_n (by omega), kw_upd_n (by omega), kw_upd_e, decide_eq_true (show i = i from rfl), Bool.or_true, decide_eq_true (show i < 12 ∧ (1 : Int32) = 1 from ⟨by omega, rfl⟩)]
        · rw [decide_eq_false q, Bool.or_false, kw_upd_n (by omega), kw_upd_n (by omega), kw_upd_n (by omega)]
      · show (kw_ri _ 14 _).1 14 u = _
        rw [kw_ri_1, kw_ri_o (by decide)]
        by_cases q : u = t
        · subst q
          rw [kw_upd_e, kw_upd_n (by omega), kw_upd_e]
        · simp (disch := omega) only [kw_upd_n] at hq ⊢
          exact hsh.2.2.1.2 u hu hq
  cases hb : kb_bey (kb_D (σM.1 1) n m o t) a2 with
  | true =>
    rw [if_neg (show ¬ kx_fl true = 0 by decide), if_neg (show ¬ kx_fl true = 0 by decide)]
    exact ⟨1, _, _, rfl, congrArg some (Prod.ext (kw_upd_e _ _ _) rfl), main true hb.symm⟩
  | false =>
    rw [if_pos (show kx_fl false = 0 by decide), if_pos (show kx_fl false = 0 by decide)]
    exact ⟨0, _, _, rfl, congrArg some (Prod.ext (kw_upd_e _ _ _) rfl), main false hb.symm⟩
