/-! ifLength. -/
/-- the file with its block now laid into the block of trials -/
theorem kb_try_0 {F : Nat → Int32} {j : Nat} (h : j < 2124) : va_cpy F F (708 * 0) (708 * 3) 708 j = F j := by
  unfold va_cpy
  rw [if_neg (by omega)]
theorem kb_try_3 {F : Nat → Int32} {j : Nat} (h : j < 708) : va_cpy F F (708 * 0) (708 * 3) 708 (2124 + j) = F j := by
  unfold va_cpy
  rw [if_pos (by omega)]
  exact congrArg F (by omega)
/-- a road aside gets another length -/
theorem kx_set34 {σ : kw_M} {F : Nat → Int32} {m r : Nat} {x : Int32} (h : kx_rd σ 10 F m) : kx_rd (kw_si σ 34 r x) 10 (upd F (28 + 4 * r + 2) x) m := by
  obtain ⟨g0, g1, g2, g3⟩ := h
  refine ⟨?_, ?_, fun i hi => ?_, fun i hi => ?_⟩
  · rw [kw_si_o (by decide), kw_upd_n (by omega)]; exact g0
  · rw [kw_si_o (by decide), kw_upd_n (by omega)]; exact g1
  · obtain ⟨y1, y2, y3⟩ := g2 i hi
    refine ⟨?_, ?_, ?_⟩
    · rw [kw_si_o (by decide), kw_upd_n (by omega)]; exact y1
    · rw [kw_si_o (by decide), kw_upd_n (by omega)]; exact y2
    · show (kw_si σ 34 r x).1 34 i = _
      rw [kw_si_1]
      by_cases e : i = r
      · rw [e, kw_upd_e, kw_upd_e]
      · rw [kw_upd_n e, kw_upd_n (by omega)]; exact y3
  · rw [kw_si_2, g3 i hi, kw_upd_n (by omega)]
theorem ko_ifLength {σX σM : kw_M} {a1 a2 : Int32} (hR : kw_Rel σX σM) : ∃ a τX τM, fX9_ifLength a1 a2 σX = some (a, τX) ∧ fX10_ifLength a1 a2 σM = some (a, τM) ∧ kw_Rel τX τM := by
  obtain ⟨n, m, o, hok, hsh, hkp, htp, hpr⟩ := hR
  have h12 := hok.1.2.2.1
  have hm := hok.1.2.2.2.1.1
  have hw := hok.1.2.2.2.1
  have hmX : σX.1 12 1 = nI m := hsh.1.2.1.trans hok.1.2.2.2.1.2.1
  have hnX : σX.1 12 0 = nI n := hsh.1.1.trans hok.1.1
  unfold fX9_ifLength fX10_ifLength
  rw [kx_hasRoad hmX hm, km_isRoad hok.1.2.2.2.1.2.1 hm, kx_isLength, km_isLength]
  simp only [Option.bind_some, kx_fl_0]
  by_cases t1 : 0 ≤ a1.toInt ∧ a1.toInt < m
  case neg =>
    simp only [decide_eq_false t1, kn_ff]
    exact ⟨_, _, _, rfl, rfl, n, m, o, hok, hsh, hkp, htp, hpr⟩
  simp only [decide_eq_true t1, kn_tf]
  by_cases t4 : -1000000000 ≤ a2.toInt ∧ a2.toInt ≤ 1000000000
  case neg =>
    simp only [decide_eq_false t4, kn_ff]
    exact ⟨_, _, _, rfl, rfl, n, m, o, hok, hsh, hkp, htp, hpr⟩
  simp only [decide_eq_true t4, kn_tf]
  obtain ⟨r, hr, rfl⟩ := kw_arg (by omega) t1
  rw [kx_isOpenR hsh.1 hw hr, Option.bind_some, km_isOpen (by omega), Option.bind_some]
  simp only [kx_fl_0]
  by_cases ho : σM.1 1 (28 + 4 * r + 3) = 1
  case neg =>
    simp only [decide_eq_false ho, kn_ff, if_neg ho, if_true]
    exact ⟨_, _, _, rfl, rfl, n, m, o, hok, hsh, hkp, htp, hpr⟩
  simp only [decide_eq_true ho, kn_tf, if_pos ho]
  rw [if_neg (show ¬ (1 : Int32) = 0 by decide)]
  obtain ⟨ρ7, p1, p2, p3, p4⟩ := km_copies' (σ := σM) (a := 0) (b := 3) (by decide) (by decide) (by decide)
  rw [show fX10_copies 0 3 σM = fX10_copies (nI 0) (nI 3) σM from rfl, p1, Option.bind_some]
  have hF7 : ∀ j, j < 2124 → ρ7.1 1 j = σM.1 1 j := fun j hj => by rw [p2]; exact kb_try_0 hj
  have hok7 : kb_ok (ρ7.1 1) n m o := kb_ok_eq hok (fun j hj => hF7 j (by omega))
  have hfar : σX.1 20 r = σM.1 1 (28 + 4 * r + 2) := (hsh.1.2.2.1 r hr).2.2
  rw [kn_chk (by omega) (by decide), kn_clamp (by omega), hfar]
  -- what is laid back at the end
  have back : ∀ (τX τM : kw_M), kx_q σX τX (σM.1 1) n m → (∀ c, c ≠ 1 → τM.1 c = σM.1 c) → (∀ j, ((708 ≤ j ∧ j < 1416) ∨ 2124 ≤ j) → τM.1 1 j = ρ7.1 1 j) → ∃ ρ9, fX10_copies 3 0 τM = some ρ9 ∧ kw_Rel τX ρ9 := fun τX τM hq hc hj => by
    obtain ⟨ρ9, b1, b2, b3, b4⟩ := km_copies' (σ := τM) (a := 3) (b := 0) (by decide) (by decide) (by decide)
    refine ⟨ρ9, b1, ?_⟩
    have low : ∀ j, j < 708 → ρ9.1 1 j = σM.1 1 j := fun j hj' => by
      rw [b2]
      unfold va_cpy
      rw [if_pos (by omega), show 708 * 3 + (j - 708 * 0) = 2124 + j by omega, hj _ (by omega), p2]
      exact kb_try_3 hj'
    have km : km_kO σM ρ9 := ⟨fun j h1 h2 => by
      rw [b2]
      unfold va_cpy
      rw [if_neg (by omega), hj j (by omega)]
      exact hF7 j (by omega), by rw [b3 0 (by decide), hc 0 (by decide)], by rw [b3 0 (by decide), hc 0 (by decide)], by rw [b3 5 (by decide), hc 5 (by decide)]⟩
    exact ⟨n, m, o, kb_ok_eq hok low, kx_sh_eq hok (kx_sh_N hsh hq.2.1) low, kx_kp_O hkp hq.1 km, kx_tp_O htp hq.1 km, kx_pr_eq hq.2.2 rfl rfl (fun j h1 h2 => low j (by omega))⟩
  have hxq : kx_q σX σX (σM.1 1) n m := ⟨kx_kO_r _, kx_kN_r _, hpr⟩
  by_cases t5 : σM.1 1 (28 + 4 * r + 2) = a2
  · have hr1 : 0 ≤ (nI r).toInt ∧ (nI r).toInt < m := t1
    have e0 : fX10_length (nI r) a2 ρ7 = some (-2, ρ7) := by
      unfold fX10_length
      rw [km_isRoad hok7.1.2.2.2.1.2.1 hm, km_isLength]
      simp only [Option.bind_some, kx_fl_0, decide_eq_true hr1, decide_eq_true t4, kn_tf]
      rw [km_of2 (by omega), Option.bind_some, hF7 _ (by omega), if_pos t5]
    obtain ⟨ρ9, b1, b2⟩ := back σX ρ7 hxq p3 (fun _ _ => rfl)
    rw [if_pos t5, e0, Option.bind_some]
    dsimp only
    rw [b1, Option.bind_some]
    exact ⟨_, _, _, rfl, rfl, b2⟩
  · rw [if_neg t5]
    have hne7 : ¬ ρ7.1 1 (28 + 4 * r + 2) = a2 := by rw [hF7 _ (by omega)]; exact t5
    obtain ⟨ρ1, ρ2, q1, q2, q3, q4, q5⟩ := km_length1 hok7 hr t4 hne7
    obtain ⟨τM, g1, g2, g3, g4, g5⟩ := km_one hok7 hr (Or.inl ⟨rfl, t4⟩) q1 q2 q3 q4
    rw [g1, Option.bind_some] at q5
    rw [q5, Option.bind_some]
    obtain ⟨σ1, c1, c2, c3, c4⟩ := kx_copy10 hok hsh
    rw [c1, Option.bind_some, kw_let_def]
    have k10 := kx_kO_10 (σ := σX) (τ := kw_si σ1 34 r a2) (fun q h1 h2 h3 h4 => (kw_si_o h4).trans (c3 q h1 h2 h3 h4)) (fun q h1 => c4 q h1)
    have hor : (kw_si σ1 34 r a2).1 1 2 = nI o := by
      rw [k10.2.1.1 1 (by omega), hsh.2.1.1]
      exact hok.2.1
    have hwG := kb_up_wf (w := 2) (r := r) (x := a2) hok7.1 hr (Or.inl ⟨rfl, t4⟩)
    have hrdG : kx_rd (kw_si σ1 34 r a2) 10 (upd (kb_beg (ρ7.1 1)) (28 + 4 * r + 2) a2) m := by
      refine kx_rd_eq (kx_set34 c2) ?_ ?_ (fun j h1 h2 => ?_)
      · rw [kw_upd_n (by omega), kw_upd_n (by omega), kb_beg_o (by decide), hF7 _ (by decide)]
      · rw [kw_upd_n (by omega), kw_upd_n (by omega), kb_beg_o (by decide), hF7 _ (by decide)]
      · unfold upd
        rw [kb_beg_o (by omega), hF7 _ (by omega)]
    have hh : kb_hand (upd (kb_beg (ρ7.1 1)) (28 + 4 * r + 2) a2) n m (nI r) (kb_rg (upd (kb_beg (ρ7.1 1)) (28 + 4 * r + 2) a2) n m r) := Or.inr ⟨r, hr, rfl, kb_one_good hok7 (by decide), rfl⟩
    obtain ⟨τ, j1, j2, j3, j4⟩ := kx_judge hrdG hwG hh hok.2.2.1
    rw [hor, j1, Option.bind_some]
    dsimp only
    have hq : kx_q σX τ (σM.1 1) n m := ⟨kx_kO_t k10.1 ⟨fun c _ => by rw [j2], fun c hc => j3 c (by omega) (by omega)⟩, kx_kN_t k10.2.1 ⟨fun c _ => by rw [j2], fun c hc => j3 c (by omega) (by omega)⟩, kx_pr_eq hpr (by rw [j2]; exact k10.2.2.1) (by rw [j3 39 (by decide) (by decide)]; exact k10.2.2.2) (fun _ _ _ => rfl)⟩
    obtain ⟨ρ9, b1, b2⟩ := back τ τM hq (fun c hc => (g5 c hc).trans (p3 c hc)) g4
    rw [b1, Option.bind_some]
    unfold kb_ans
    by_cases hj : kb_judge (upd (kb_beg (ρ7.1 1)) (28 + 4 * r + 2) a2) n m o (kb_rg (upd (kb_beg (ρ7.1 1)) (28 + 4 * r + 2) a2) n m r) = 0
    · rw [if_pos hj, if_pos hj]
      have hrf : kb_rg (upd (kb_beg (ρ7.1 1)) (28 + 4 * r + 2) a2) n m r = false := by
        cases q : kb_rg (upd (kb_beg (ρ7.1 1)) (28 + 4 * r + 2) a2) n m r with
        | false => rfl
        | true =>
          rw [q] at hj
          exact absurd hj (by unfold kb_judge; rw [if_pos rfl]; decide)
      have hDin : kr_row (kb_D (upd (kb_beg (ρ7.1 1)) (28 + 4 * r + 2) a2) n m o) := kb_D_in hwG.2.2.2.1 h12
      rw [kx_countOthers (D := kb_D (upd (kb_beg (ρ7.1 1)) (28 + 4 * r + 2) a2) n m o) (E := kb_D (σM.1 1) n m o) (n := n) (j4 hrf) hDin (fun u hu => by rw [j3 16 (by decide) (by decide), k10.2.1.2 16 (by omega)]; exact hsh.2.2.2.2.1 u hu) (kb_row hok) (by rw [j2, k10.2.1.1 12 (by omega)]; exact hnX) h12, Option.bind_some, kb_D_same (F := σM.1 1) (G := ρ7.1 1) (m := m) (fun j h1 h2 => hF7 j (by omega))]
      exact ⟨_, _, _, rfl, rfl, b2⟩
    · rw [if_neg hj, if_neg hj]
      exact ⟨_, _, _, rfl, rfl, b2⟩
