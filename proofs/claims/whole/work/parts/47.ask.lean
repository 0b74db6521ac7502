/-! between, through, without. -/
theorem ko_between {σX σM : kw_M} {a1 a2 : Int32} (hR : kw_Rel σX σM) : ∃ a τX τM, fX9_between a1 a2 σX = some (a, τX) ∧ fX10_between a1 a2 σM = some (a, τM) ∧ kw_Rel τX τM := by
  obtain ⟨n, m, o, hok, hsh, hkp, htp, hpr⟩ := hR
  have h2 := hok.1.2.1
  have h12 := hok.1.2.2.1
  have hnX : σX.1 12 0 = nI n := hsh.1.1.trans hok.1.1
  unfold fX9_between fX10_between
  rw [kx_hasTown hnX h12, km_isTown hok.1.1 h12, kx_hasTown hnX h12, km_isTown hok.1.1 h12]
  simp only [Option.bind_some, kx_fl_0]
  by_cases t1 : 0 ≤ a1.toInt ∧ a1.toInt < n
  case neg =>
    simp only [decide_eq_false t1, kn_ff]
    exact ⟨_, _, _, rfl, rfl, n, m, o, hok, hsh, hkp, htp, hpr⟩
  simp only [decide_eq_true t1, kn_tf]
  by_cases t2 : 0 ≤ a2.toInt ∧ a2.toInt < n
  case neg =>
    simp only [decide_eq_false t2, kn_ff]
    exact ⟨_, _, _, rfl, rfl, n, m, o, hok, hsh, hkp, htp, hpr⟩
  simp only [decide_eq_true t2, kn_tf]
  obtain ⟨A, hA, rfl⟩ := kw_arg (by omega) t1
  obtain ⟨B, hB, rfl⟩ := kw_arg (by omega) t2
  obtain ⟨τ, e1, e2, e3, e4⟩ := kx_right hok hsh hpr
  rw [e1, Option.bind_some, kx_span e2 hA h12 (by omega), Option.bind_some, km_finds hok.1.2.2.2.1 hok.1.1 (by omega) h12 (by omega), Option.bind_some, kn_chk (by omega) (by decide), kn_clamp (by omega), km_row_at (by omega)]
  rw [km_told (a := kr_bf (km_gr (σM.1 1) m (-1)) (kr_one A) (n - 1) B) (kb_D_bd (o := A) hok.1.2.2.2.1 h12 B), Option.bind_some]
  exact ⟨_, _, _, rfl, rfl, kw_Rel_a hok hsh hkp htp (kx_prt_q e2 e3 e4) (km_q_e rfl)⟩
theorem ko_through {σX σM : kw_M} {a1 a2 : Int32} (hR : kw_Rel σX σM) : ∃ a τX τM, fX9_through a1 a2 σX = some (a, τX) ∧ fX10_through a1 a2 σM = some (a, τM) ∧ kw_Rel τX τM := by
  obtain ⟨n, m, o, hok, hsh, hkp, htp, hpr⟩ := hR
  have h2 := hok.1.2.1
  have h12 := hok.1.2.2.1
  have hon := hok.2.2.1
  have hnX : σX.1 12 0 = nI n := hsh.1.1.trans hok.1.1
  unfold fX9_through fX10_through
  rw [kx_hasTown hnX h12, km_isTown hok.1.1 h12, kx_hasTown hnX h12, km_isTown hok.1.1 h12]
  simp only [Option.bind_some, kx_fl_0]
  by_cases t1 : 0 ≤ a1.toInt ∧ a1.toInt < n
  case neg =>
    simp only [decide_eq_false t1, kn_ff]
    exact ⟨_, _, _, rfl, rfl, n, m, o, hok, hsh, hkp, htp, hpr⟩
  simp only [decide_eq_true t1, kn_tf]
  by_cases t2 : 0 ≤ a2.toInt ∧ a2.toInt < n
  case neg =>
    simp only [decide_eq_false t2, kn_ff]
    exact ⟨_, _, _, rfl, rfl, n, m, o, hok, hsh, hkp, htp, hpr⟩
  simp only [decide_eq_true t2, kn_tf]
  obtain ⟨A, hA, rfl⟩ := kw_arg (by omega) t1
  obtain ⟨B, hB, rfl⟩ := kw_arg (by omega) t2
  obtain ⟨τ, e1, e2, e3, e4⟩ := kx_right hok hsh hpr
  obtain ⟨ρ, s1, s2, s3, s4⟩ := km_settles' hok.1.2.2.2.1 hok.1.1 (by omega) h12 hok.2.1 (by omega)
  have hd : σX.2 16 B = kx_enc (kb_D (σM.1 1) n m o B) := hsh.2.2.2.2.1 B (by omega)
  have bo := kb_D_bd (o := o) hok.1.2.2.2.1 h12 B
  have bB := kb_D_bd (o := B) hok.1.2.2.2.1 h12 A
  rw [s1, Option.bind_some, km_finds (by rw [s2]; exact hok.1.2.2.2.1) (by rw [s2]; exact hok.1.1) (by omega) h12 (by omega), Option.bind_some, e1, s2]
  simp (disch := omega) only [kn_chk, kn_clamp, Option.bind_some, kx_span e2 hB h12, hd, kx_joined bo bB]
  have r3 : (km_row ρ (kr_bf (km_gr (σM.1 1) m (-1)) (kr_one B) (n - 1))).2 3 B = km_enc (kb_D (σM.1 1) n m o B) := by
    unfold km_row
    rw [kw_rl_o (by decide)]
    exact s3 B (by omega)
  have r2 : (km_row ρ (kr_bf (km_gr (σM.1 1) m (-1)) (kr_one B) (n - 1))).2 2 A = km_enc (kb_D (σM.1 1) n m B A) := km_row_at (by omega)
  rw [r3, r2]
  simp only [km_enc_e bo, km_enc_e bB]
  refine ⟨_, _, km_row ρ (kr_bf (km_gr (σM.1 1) m (-1)) (kr_one B) (n - 1)), rfl, ?_, kw_Rel_a hok hsh hkp htp (kx_prt_q e2 e3 e4) (km_q_e s2)⟩
  cases ho : kb_D (σM.1 1) n m o B with
  | none => rw [if_pos rfl]; rfl
  | some x =>
    rw [if_neg (by simp)]
    cases hB2 : kb_D (σM.1 1) n m B A with
    | none => rw [if_pos rfl]; rfl
    | some y =>
      rw [if_neg (by simp)]
      rw [ho] at bo
      rw [hB2] at bB
      have q := kx_joined bo bB σX
      unfold fX9_joined at q
      simp only [kx_enc_e bo, kx_enc_e bB] at q
      rw [if_neg (by simp), if_neg (by simp)] at q
      exact congrArg (fun z => some (z, _)) (Option.some.inj q)
theorem kx_isOpenA {σ : kw_M} {F : Nat → Int32} {m : Nat} {x : Int32} (hrd : kx_rd σ 12 F m) (hw : km_wf F m) : (∃ r, r < m ∧ x = nI r) ∨ (fX4_isOpen 12 x σ = some 0 ∧ ¬ (0 ≤ x.toInt ∧ x.toInt < m)) := by
  have hm := hw.1
  by_cases h : 0 ≤ x.toInt ∧ x.toInt < m
  · exact Or.inl (kw_arg (by omega) h)
  · refine Or.inr ⟨kx_isOpen_no (hrd.2.1.trans hw.2.1) ?_, h⟩
    rw [Int32.lt_iff_toInt_lt, Int32.le_iff_toInt_le, nI_toInt (by omega), show (0 : Int32).toInt = 0 by decide]
    omega
theorem kb_bd {F : Nat → Int32} {n m : Nat} (hw : km_wf F m) (h12 : n ≤ 12) (but : Int32) (o t : Nat) : kr_bd (kr_bf (km_gr F m but) (kr_one o) (n - 1) t) := by
  refine kr_bd_in (B := 900000000000000) (kr_in_mono (km_bf_in (g := km_gr F m but) (o := o) hw.1 (km_wf_len hw but) (n - 1)) ?_) (by decide) t
  have : ((n - 1 : Nat) : Int) ≤ 11 := by omega
  omega
/-- the distance without a road: the class -/
theorem kx_without {σ : kw_M} {F : Nat → Int32} {n m o r t : Nat} (hok : kb_ok F n m o) (hsh : kx_sh σ 1 12 F n m o) (hr : r < m) (ht : t < 12) : fX9_distanceWithout (nI r) (nI t) σ = some (kx_enc (kr_bf (km_gr F m (nI r)) (kr_one o) (n - 1) t), kx_row σ 41 (kr_bf (km_gr F m (nI r)) (kr_one o) (n - 1))) := by
  have hg : kr_good (km_gr F m (nI r)) := kr_good_wo (kb_wo hok.1.2.2.2.1.1 hr) hok.2.2.2.1
  unfold fX9_distanceWithout
  rw [hsh.2.1.1.trans hok.2.1, kx_settle' (by decide) hsh.1 hok.1 hg hok.2.2.1, Option.bind_some, kn_chk (by omega) (by decide), kn_clamp (by omega), kx_row_at ht]
theorem kx_q_41 {σ : kw_M} {F : Nat → Int32} {n m : Nat} (hpr : kx_pr σ F n m) (d : kr_D) : kx_q σ (kx_row σ 41 d) F n m := ⟨⟨fun _ _ => rfl, fun c hc => kx_row_o (by omega)⟩, ⟨fun _ _ => rfl, fun c hc => kx_row_o (by omega)⟩, kx_pr_eq hpr rfl (kx_row_o (by decide)) (fun _ _ _ => rfl)⟩
theorem ko_without {σX σM : kw_M} {a1 a2 : Int32} (hR : kw_Rel σX σM) : ∃ a τX τM, fX9_without a1 a2 σX = some (a, τX) ∧ fX10_without a1 a2 σM = some (a, τM) ∧ kw_Rel τX τM := by
  obtain ⟨n, m, o, hok, hsh, hkp, htp, hpr⟩ := hR
  have h2 := hok.1.2.1
  have h12 := hok.1.2.2.1
  have hm := hok.1.2.2.2.1.1
  have hon := hok.2.2.1
  have hnX : σX.1 12 0 = nI n := hsh.1.1.trans hok.1.1
  unfold fX9_without fX10_without
  rw [kx_hasTown hnX h12, km_isTown hok.1.1 h12, km_isRoad hok.1.2.2.2.1.2.1 hm]
  simp only [Option.bind_some, kx_fl_0]
  rcases kx_isOpenA (x := a1) hsh.1 hok.1.2.2.2.1 with ⟨r, hr, rfl⟩ | ⟨q1, q2⟩
  case inr =>
    rw [q1, decide_eq_false q2]
    exact ⟨_, _, _, rfl, rfl, n, m, o, hok, hsh, hkp, htp, hpr⟩
  rw [kx_isOpenR hsh.1 hok.1.2.2.2.1 hr, Option.bind_some, km_isOpen (by omega), Option.bind_some]
  have hr1 : 0 ≤ (nI r).toInt ∧ (nI r).toInt < m := by rw [nI_toInt (by omega)]; omega
  simp only [decide_eq_true hr1, kn_tf, kx_fl_0]
  by_cases ho : σM.1 1 (28 + 4 * r + 3) = 1
  case neg =>
    simp only [decide_eq_false ho, kn_ff, if_neg ho]
    by_cases t2 : 0 ≤ a2.toInt ∧ a2.toInt < n
    · simp only [decide_eq_true t2, kn_tf, if_true]
      exact ⟨_, _, _, rfl, rfl, n, m, o, hok, hsh, hkp, htp, hpr⟩
    · simp only [decide_eq_false t2, kn_ff]
      exact ⟨_, _, _, rfl, rfl, n, m, o, hok, hsh, hkp, htp, hpr⟩
  simp only [decide_eq_true ho, kn_tf, if_pos ho]
  by_cases t2 : 0 ≤ a2.toInt ∧ a2.toInt < n
  case neg =>
    simp only [decide_eq_false t2, kn_ff]
    exact ⟨_, _, _, rfl, rfl, n, m, o, hok, hsh, hkp, htp, hpr⟩
  simp only [decide_eq_true t2, kn_tf]
  obtain ⟨t, ht, rfl⟩ := kw_arg (by omega) t2
  rw [if_neg (show ¬ (1 : Int32) = 0 by decide), kx_without hok hsh hr (by omega), Option.bind_some, hok.2.1, km_finds hok.1.2.2.2.1 hok.1.1 (by omega) h12 (by omega), Option.bind_some, kn_chk (by omega) (by decide), kn_clamp (by omega), km_row_at (by omega), km_told (kb_bd hok.1.2.2.2.1 h12 (nI r) o t), Option.bind_some]
  exact ⟨_, _, _, rfl, rfl, kw_Rel_a hok hsh hkp htp (kx_q_41 hpr _) (km_q_e rfl)⟩
