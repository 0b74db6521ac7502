/-! forget, keep, undo. -/
theorem km_forget3 {σ : kw_M} {t : Nat} (ht : t < 12) : kw_loop (fun s => bX10_forget_27 (nI t) s.1 s.2) kw_F ((0 : Int32), σ) = some (kw_ri σ 1 (upd (upd (upd (σ.1 1) (172 + 3 * t) 0) (172 + 3 * t + 1) 0) (172 + 3 * t + 2) 0)) := by
  have hb : ∀ (k : Nat) (T : Nat → Int32), k < 3 → bX10_forget_27 (nI t) (nI k) (kw_ri σ 1 T) = some (.inl (nI (k + 1), kw_ri σ 1 (upd T (172 + 3 * t + k) 0))) := fun k T hk => by
    unfold bX10_forget_27
    rw [if_neg (by simp (disch := omega) only [kn_3, kn_le]; omega)]
    simp (disch := omega) only [kn_172, kn_3, kn_mul, nI_add, kn_chk, kn_clamp, kw_let_def, km_next, kw_si_d, kw_ri_1, kw_ri_ri]
  have h := kw_loop_at (body := fun s => bX10_forget_27 (nI t) s.1 s.2) (fun k => (nI k, kw_ri σ 1 (match k with
    | 0 => σ.1 1
    | 1 => upd (σ.1 1) (172 + 3 * t) 0
    | 2 => upd (upd (σ.1 1) (172 + 3 * t) 0) (172 + 3 * t + 1) 0
    | _ => upd (upd (upd (σ.1 1) (172 + 3 * t) 0) (172 + 3 * t + 1) 0) (172 + 3 * t + 2) 0))) (x := kw_ri σ 1 (upd (upd (upd (σ.1 1) (172 + 3 * t) 0) (172 + 3 * t + 1) 0) (172 + 3 * t + 2) 0)) 3 (fun k hk => by
      obtain rfl | rfl | rfl : k = 0 ∨ k = 1 ∨ k = 2 := by omega
      · exact hb 0 _ (by omega)
      · exact hb 1 _ (by omega)
      · exact hb 2 _ (by omega)) (by
      show bX10_forget_27 (nI t) (nI 3) _ = _
      unfold bX10_forget_27
      rw [if_pos (by decide)]
      rfl) (by decide)
  have h' : kw_loop (fun s => bX10_forget_27 (nI t) s.1 s.2) kw_F ((0 : Int32), kw_ri σ 1 (σ.1 1)) = some (kw_ri σ 1 (upd (upd (upd (σ.1 1) (172 + 3 * t) 0) (172 + 3 * t + 1) 0) (172 + 3 * t + 2) 0)) := h
  rw [kw_ri_id] at h'
  exact h'
theorem ko_forget {σX σM : kw_M} {a1 : Int32} (hR : kw_Rel σX σM) : ∃ a τX τM, fX9_forgetTown a1 σX = some (kx_fl a, τX) ∧ fX10_forget a1 σM = some (kx_fl a, τM) ∧ kw_Rel τX τM := by
  obtain ⟨n, m, o, hok, hsh, hkp, htp, hpr⟩ := hR
  have h2 := hok.1.2.1
  have h12 := hok.1.2.2.1
  have hm := hok.1.2.2.2.1.1
  have hnX : σX.1 12 0 = nI n := hsh.1.1.trans hok.1.1
  unfold fX9_forgetTown fX10_forget
  rw [kx_hasTown hnX h12, km_isTown hok.1.1 h12]
  simp only [Option.bind_some, kx_fl_0]
  by_cases t1 : 0 ≤ a1.toInt ∧ a1.toInt < n
  case neg =>
    simp only [decide_eq_false t1, kn_ff]
    exact ⟨false, _, _, rfl, rfl, n, m, o, hok, hsh, hkp, htp, hpr⟩
  simp only [decide_eq_true t1, kn_tf]
  obtain ⟨t, ht, rfl⟩ := kw_arg (by omega) t1
  have hw := (hok.2.2.2.2.2.1 t (by omega)).1
  rw [kx_isWatched (by omega), hsh.2.2.1.1 t (by omega), Option.bind_some, km_forget3 (by omega)]
  simp (disch := omega) only [kn_172, kn_3, kn_mul, nI_add, kn_chk, kn_clamp, kx_fl_0, kw_let_def, Option.bind_some]
  by_cases hq : σM.1 1 (172 + 3 * t) = 1
  case neg =>
    have hq0 : σM.1 1 (172 + 3 * t) = 0 := by
      rcases hw with h | h
      · exact h
      · exact absurd h hq
    rw [decide_eq_false (fun z => hq z.2), if_pos rfl, if_pos hq0]
    exact ⟨false, _, _, rfl, rfl, n, m, o, hok, hsh, hkp, htp, hpr⟩
  rw [decide_eq_true (show t < 12 ∧ σM.1 1 (172 + 3 * t) = 1 from ⟨by omega, hq⟩), if_neg (by decide), if_neg (by rw [hq]; decide)]
  refine ⟨true, _, _, rfl, rfl, ?_⟩
  have hj : ∀ j, (j < 172 ∨ 208 ≤ j) → upd (upd (upd (σM.1 1) (172 + 3 * t) 0) (172 + 3 * t + 1) 0) (172 + 3 * t + 2) 0 j = σM.1 1 j := fun j hj => by rw [kw_upd_n (by omega), kw_upd_n (by omega), kw_upd_n (by omega)]
  have km' : km_kO σM (kw_ri σM 1 (upd (upd (upd (σM.1 1) (172 + 3 * t) 0) (172 + 3 * t + 1) 0) (172 + 3 * t + 2) 0)) := ⟨fun j h2 h3 => by rw [kw_ri_1]; exact hj j (by omega), by rw [kw_ri_o (by decide)], by rw [kw_ri_o (by decide)], kw_ri_o (by decide)⟩
  have kO' : kx_kO σX (kw_si σX 1 5 (σX.1 1 5 &&& ((1 : Int32) <<< (nI t &&& 31) ^^^ (-1 : Int32)))) := ⟨fun c hc => kw_si_o (by omega), fun _ _ => rfl⟩
  refine ⟨n, m, o, ?_, ?_, kx_kp_O hkp kO' km', kx_tp_O htp kO' km', kx_pr_eq hpr (kw_si_o (by decide)) rfl (fun j h2 h3 => by rw [kw_ri_1]; exact hj j (by omega))⟩
  · rw [kw_ri_1]
    refine kb_ok_w hok (fun j hq => hj j (by omega)) (by rw [hj 5 (by omega)]; exact hok.2.2.2.2.2.2.2.2) (fun u hu => ?_)
    unfold kb_flag
    by_cases q : u = t
    · subst q
      rw [kw_upd_n (by omega), kw_upd_n (by omega), kw_upd_e]
      exact ⟨Or.inl rfl, fun z => absurd z (by decide)⟩
    · simp (disch := omega) only [kw_upd_n]
      exact hok.2.2.2.2.2.1 u hu
  · rw [kw_ri_1]
    refine kx_sh_w hok hsh (fun j hq => hj j (by omega)) (fun k _ h5 => by rw [kw_si_1, kw_upd_n h5]) (fun c h3 h4 h5 => kw_si_o (by omega)) rfl (by rw [kw_si_1, kw_upd_n (by decide), hj 5 (by omega)]; exact hsh.2.1.2.2) ⟨fun i hi => ?_, fun u hu hq' => ?_⟩
    · rw [kw_si_1, kw_upd_e, kw_bI_and, kw_bI_xor, kw_upI (by omega) i hi, hsh.2.2.1.1 i hi]
      have em : kw_bI (-1) i = true := by
        unfold kw_bI
        show (-1#32).getLsbD i = true
        rw [show (-1#32) = BitVec.allOnes 32 by decide, BitVec.getLsbD_allOnes]
        exact decide_eq_true hi
      rw [em, Bool.xor_true]
      by_cases q : i = t
      · subst q
        rw [kw_upd_n (by omega), kw_upd_n (by omega), kw_upd_e, decide_eq_true (show i = i from rfl), Bool.not_true, Bool.and_false]
        exact (decide_eq_false (fun z => absurd z.2 (by decide))).symm
      · rw [decide_eq_false q, Bool.not_false, Bool.and_true, kw_upd_n (by omega), kw_upd_n (by omega), kw_upd_n (by omega)]
    · show (kw_si σX 1 5 _).1 14 u = _
      rw [kw_si_o (by decide)]
      by_cases q : u = t
      · subst q
        rw [kw_upd_n (by omega), kw_upd_n (by omega), kw_upd_e] at hq'
        exact absurd hq' (by decide)
      · simp (disch := omega) only [kw_upd_n] at hq' ⊢
        exact hsh.2.2.1.2 u hu hq'
theorem kx_copyS {σ : kw_M} {F : Nat → Int32} {n m o c0 B0 c1 B1 : Nat} (hc : (c0 = 2 ∧ B0 = 22 ∧ c1 = 1 ∧ B1 = 12) ∨ (c0 = 1 ∧ B0 = 12 ∧ c1 = 2 ∧ B1 = 22)) (hok : kb_ok F n m o) (h : kx_sh σ c1 B1 F n m o) : ∃ τ, fX7_copyFrom c0 c1 σ = some τ ∧ kx_sh τ c0 B0 F n m o ∧ (∀ c, c ≠ c0 → (c < B0 ∨ B0 + 9 ≤ c) → τ.1 c = σ.1 c) ∧ ∀ c, c ≠ B0 → c ≠ B0 + 4 → c ≠ B0 + 9 → τ.2 c = σ.2 c := by
  obtain ⟨a, b, ⟨w1, w2⟩, ⟨d1, d2⟩, e, f, g1, g2⟩ := h
  obtain ⟨e', he, he2⟩ := hok.2.2.2.2.2.2.1
  obtain ⟨k', hk, hk2⟩ := hok.2.2.2.2.2.2.2.1
  have hcpy : fX4_copyFrom B0 B1 σ = fX4_copyFrom (kx_rf c0 0) (kx_rf c1 0) σ := by rcases hc with ⟨rfl, rfl, rfl, rfl⟩ | ⟨rfl, rfl, rfl, rfl⟩ <;> rfl
  obtain ⟨τ, c1', c2, c3, c4⟩ := kx_copy (c0 := B0) (c1 := B1) (by rcases hc with ⟨_, h2, _, h4⟩ | ⟨_, h2, _, h4⟩ <;> omega) a hok.1.2.2.2.1.2.1 hok.1.2.2.2.1.1
  have g4 : σ.1 (B1 + 1) 0 = nI e' := g1.trans he2
  have p1 : ¬ nI (e' * 4) < 0 := nI_pos (by omega)
  have p2 : (0 : Int32).toNatClampNeg + e' * 4 ≤ 400 := by rw [show (0 : Int32).toNatClampNeg = 0 by decide]; omega
  have cpI : ∀ (x y : Nat → Int32) (i : Nat), i < 12 → va_cpy x y 0 0 12 i = x i := fun x y i hi => by
    unfold va_cpy
    rw [if_pos (by omega), show 0 + (i - 0) = i by omega]
  have cpL : ∀ (x y : Nat → Int64) (N i : Nat), i < N → va_cpy x y 0 0 N i = x i := fun x y N i hi => by
    unfold va_cpy
    rw [if_pos (by omega), show 0 + (i - 0) = i by omega]
  rw [hcpy] at c1'
  unfold fX7_copyFrom fX0_copyFrom
  rw [c1', Option.bind_some]
  rcases hc with ⟨rfl, rfl, rfl, rfl⟩ | ⟨rfl, rfl, rfl, rfl⟩
  all_goals
    have q1 : ∀ c, (c < 10 ∨ c = 13 ∨ c = 14 ∨ c = 15 ∨ c = 17 ∨ c = 23 ∨ c = 24 ∨ c = 25 ∨ c = 27 ∨ 31 ≤ c) → τ.1 c = σ.1 c := fun c hc => c3 c (by omega) (by show c ≠ _; simp only [show kx_rf 22 3 = 28 by decide, show kx_rf 12 3 = 18 by decide]; omega) (by show c ≠ _; simp only [show kx_rf 22 4 = 29 by decide, show kx_rf 12 4 = 19 by decide]; omega) (by show c ≠ _; simp only [show kx_rf 22 5 = 30 by decide, show kx_rf 12 5 = 20 by decide]; omega)
    have x13 : τ.1 13 = σ.1 13 := q1 13 (by omega)
    have x23 : τ.1 23 = σ.1 23 := q1 23 (by omega)
    have g4' := g4
    simp only [Nat.reduceAdd] at g4' g2 d2 w2 e f
    simp (disch := decide) only [show kx_rf 2 0 = 22 by decide, show kx_rf 2 1 = 23 by decide, show kx_rf 1 0 = 12 by decide, show kx_rf 1 1 = 13 by decide, show kx_rf 23 1 = 31 by decide, show kx_rf 13 1 = 21 by decide, show kx_rf 2 6 = 24 by decide, show kx_rf 2 8 = 25 by decide, show kx_rf 2 9 = 26 by decide, show kx_rf 2 10 = 27 by decide, show kx_rf 1 6 = 14 by decide, show kx_rf 1 8 = 15 by decide, show kx_rf 1 9 = 16 by decide, show kx_rf 1 10 = 17 by decide, kw_let_def, kw_si_o, kw_si_1, kw_upd_e, kw_upd_n, kw_rl_1, kw_si_2, kw_ri_o, kw_ri_2, kw_rl_o, x13, x23, g4', kn_4, kn_mul, kw_chk_t p1, kn_clamp (show e' * 4 < 2147483648 by omega), kw_chk_t p2, Option.bind_some]
    refine ⟨_, rfl, ⟨?_, ⟨?_, ?_, ?_⟩, ⟨?_, ?_⟩, ⟨?_, ?_⟩, ?_, ?_, ⟨?_, ?_⟩⟩, ?_, ?_⟩
    · refine kx_rd_fr c2 ?_ ?_ ?_ ?_ ?_
      · simp (disch := decide) only [kw_ri_o, kw_rl_1, kw_si_o]
      · simp (disch := decide) only [show kx_rf 22 3 = 28 by decide, show kx_rf 12 3 = 18 by decide, kw_ri_o, kw_rl_1, kw_si_o]
      · simp (disch := decide) only [show kx_rf 22 4 = 29 by decide, show kx_rf 12 4 = 19 by decide, kw_ri_o, kw_rl_1, kw_si_o]
      · simp (disch := decide) only [show kx_rf 22 5 = 30 by decide, show kx_rf 12 5 = 20 by decide, kw_ri_o, kw_rl_1, kw_si_o]
      · simp (disch := decide) only [kw_ri_2, kw_rl_o, kw_si_2]
    · simp (disch := decide) only [kw_ri_o, kw_rl_1, kw_si_o, kw_si_1, kw_upd_n, kw_upd_e]
      rw [q1 _ (by omega)]
      exact b.1
    · simp (disch := decide) only [kw_ri_o, kw_rl_1, kw_si_o, kw_si_1, kw_upd_n, kw_upd_e]
      rw [q1 _ (by omega)]
      exact b.2.1
    · simp (disch := decide) only [kw_ri_o, kw_rl_1, kw_si_o, kw_si_1, kw_upd_n, kw_upd_e]
      rw [q1 _ (by omega)]
      exact b.2.2
    · intro i hi
      simp (disch := decide) only [kw_ri_o, kw_rl_1, kw_si_o, kw_si_1, kw_upd_n, kw_upd_e]
      rw [q1 _ (by omega)]
      exact w1 i hi
    · intro t ht hq
      simp (disch := decide) only [Nat.reduceAdd, kw_ri_o, kw_ri_1, kw_rl_1, kw_si_o]
      rw [cpI _ _ t ht, q1 _ (by omega)]
      exact w2 t ht hq
    · simp (disch := decide) only [kw_ri_o, kw_rl_1, kw_si_o, kw_si_1, kw_upd_n, kw_upd_e]
      rw [q1 _ (by omega)]
      exact d1
    · intro i hi
      have hi' := hi
      rw [hk2, kn_clamp (by omega)] at hi'
      simp (disch := decide) only [Nat.reduceAdd, kw_ri_o, kw_ri_1, kw_rl_1, kw_si_o]
      rw [cpI _ _ i (by omega), q1 _ (by omega)]
      exact d2 i hi
    · intro t ht
      simp (disch := decide) only [Nat.reduceAdd, kw_ri_2, kw_rl_2, kw_si_2, kw_rl_o]
      rw [cpL _ _ 12 t ht, c4 _ (by decide)]
      exact e t ht
    · intro t ht
      simp (disch := decide) only [Nat.reduceAdd, kw_ri_1, kw_rl_1, kw_ri_o, kw_si_o]
      rw [cpI _ _ t ht, q1 _ (by omega)]
      exact f t ht
    · simp (disch := decide) only [Nat.reduceAdd, kw_ri_o, kw_rl_1, kw_si_o, kw_si_1, kw_upd_e]
      exact he2.symm
    · intro i hi
      have hi' := hi
      rw [he2, kn_clamp (by omega)] at hi'
      obtain ⟨y1, y2, y3, y4⟩ := g2 i hi
      simp (disch := decide) only [Nat.reduceAdd, kw_ri_2, kw_rl_o, kw_si_2, kw_rl_2]
      rw [cpL _ _ _ _ (by omega), cpL _ _ _ _ (by omega), cpL _ _ _ _ (by omega), cpL _ _ _ _ (by omega), c4 _ (by decide)]
      exact ⟨y1, y2, y3, y4⟩
    · intro c hc0 hcB
      have z : ∀ q, c ≠ q → c ≠ q := fun _ h => h
      rw [kw_ri_o (by omega), kw_rl_1, kw_ri_o (by omega), kw_ri_o (by omega), kw_si_o hc0, kw_si_o hc0, kw_si_o hc0, kw_si_o hc0, kw_si_o hc0, kw_rl_1, kw_si_o (by omega)]
      exact c3 c (by omega) (by simp only [show kx_rf 22 3 = 28 by decide, show kx_rf 12 3 = 18 by decide]; omega) (by simp only [show kx_rf 22 4 = 29 by decide, show kx_rf 12 4 = 19 by decide]; omega) (by simp only [show kx_rf 22 5 = 30 by decide, show kx_rf 12 5 = 20 by decide]; omega)
    · intro c hB h4 h9
      simp only [kw_ri_2]
      rw [kw_rl_o (by omega)]
      simp only [kw_ri_2, kw_si_2]
      rw [kw_rl_o (by omega), kw_si_2]
      exact c4 c hB
