/-! keep, undo, feed. -/
theorem km_copies' {σ : kw_M} {a b : Nat} (ha : a < 4) (hb : b < 4) (hab : a ≠ b) : ∃ τ, fX10_copies (nI a) (nI b) σ = some τ ∧ τ.1 1 = va_cpy (σ.1 1) (σ.1 1) (708 * a) (708 * b) 708 ∧ (∀ c, c ≠ 1 → τ.1 c = σ.1 c) ∧ τ.2 = σ.2 := by
  refine ⟨_, km_copies ha hb hab, ?_, fun c hc => ?_, rfl⟩
  · unfold km_cpyk
    rw [kw_ri_1]
  · unfold km_cpyk
    exact kw_ri_o hc
theorem ko_keep {σX σM : kw_M} (hR : kw_Rel σX σM) : ∃ a τX τM, fX9_keep σX = some (a, τX) ∧ fX10_keep σM = some (a, τM) ∧ kw_Rel τX τM := by
  obtain ⟨n, m, o, hok, hsh, hkp, htp, hpr⟩ := hR
  have hm := hok.1.2.2.2.1.1
  obtain ⟨τ, c1, c2, c3, c4⟩ := kx_copyS (c0 := 2) (B0 := 22) (c1 := 1) (B1 := 12) (Or.inl ⟨rfl, rfl, rfl, rfl⟩) hok hsh
  obtain ⟨ρ, d1, d2, d3, d4⟩ := km_copies' (σ := kw_si σM 0 1 1) (a := 0) (b := 1) (by decide) (by decide) (by decide)
  unfold fX9_keep fX10_keep
  rw [c1, Option.bind_some, kw_let_def, kw_let_def, show (0 : Int32) = nI 0 by decide, show fX10_copies (nI 0) 1 = fX10_copies (nI 0) (nI 1) from rfl, d1, Option.bind_some]
  rw [kw_si_o (by decide)] at d2
  have low : ∀ j, j < 708 → ρ.1 1 j = σM.1 1 j := fun j hj => by
    rw [d2]
    unfold va_cpy
    rw [if_neg (by omega)]
  have hi : ∀ j, j < 708 → ρ.1 1 (708 + j) = σM.1 1 j := fun j hj => by
    rw [d2]
    unfold va_cpy
    rw [if_pos (by omega)]
    exact congrArg (σM.1 1) (by omega)
  have kN : kx_kN σX (kw_si τ 0 2 1) := ⟨fun c hc => by rw [kw_si_o (by omega)]; exact c3 c (by omega) (by omega), fun c hc => c4 c (by omega) (by omega) (by omega)⟩
  refine ⟨_, _, _, rfl, ?_, n, m, o, kb_ok_eq hok low, kx_sh_eq hok (kx_sh_N hsh kN) low, ⟨?_, Or.inr ⟨?_, n, m, o, kb_ok_eq hok hi, kx_sh_eq hok ?_ hi⟩⟩, ?_, ?_⟩
  · refine congrArg some (Prod.ext ?_ rfl)
    show ρ.1 1 3 = (kw_si τ 0 2 1).1 1 3
    rw [low 3 (by omega), kN.1 1 (by omega), hsh.2.1.2.1]
  · rw [kw_si_1, kw_upd_e, d3 0 (by decide), kw_si_1, kw_upd_e]
  · rw [d3 0 (by decide), kw_si_1, kw_upd_e]
  · exact kx_sh_fr (Or.inr rfl) c2 (kw_si_o (by decide)) (fun c _ _ => kw_si_o (by omega)) rfl rfl rfl
  · obtain ⟨s, h1, h2, h3, h4⟩ := htp
    refine ⟨s, h1, ?_, ?_, ?_⟩
    · rw [kw_si_o (by decide), c3 3 (by decide) (by omega)]; exact h2
    · rw [d3 0 (by decide), kw_si_1, kw_upd_n (by decide)]; exact h3
    · rw [kw_si_o (by decide), c3 35 (by decide) (by omega), d3 5 (by decide), kw_si_o (by decide)]; exact h4
  · exact kx_pr_eq hpr (by rw [kw_si_o (by decide)]; exact c3 5 (by decide) (by omega)) (c4 39 (by decide) (by decide) (by decide)) (fun j h1 h2 => low j (by omega))
theorem ko_undo {σX σM : kw_M} (hR : kw_Rel σX σM) : ∃ a τX τM, fX9_undo σX = some (kx_fl a, τX) ∧ fX10_undo σM = some (kx_fl a, τM) ∧ kw_Rel τX τM := by
  obtain ⟨n, m, o, hok, hsh, hkp, htp, hpr⟩ := hR
  obtain ⟨k1, k2⟩ := hkp
  unfold fX9_undo fX10_undo
  rw [k1]
  rcases k2 with k2 | ⟨k2, n', m', o', hok', hsh'⟩
  · rw [if_pos k2, if_pos k2]
    exact ⟨false, _, _, rfl, rfl, n, m, o, hok, hsh, ⟨k1, Or.inl k2⟩, htp, hpr⟩
  · rw [if_neg (by rw [k2]; decide), if_neg (by rw [k2]; decide)]
    obtain ⟨τ, c1, c2, c3, c4⟩ := kx_copyS (c0 := 1) (B0 := 12) (c1 := 2) (B1 := 22) (Or.inr ⟨rfl, rfl, rfl, rfl⟩) hok' hsh'
    obtain ⟨ρ, d1, d2, d3, d4⟩ := km_copies' (σ := σM) (a := 1) (b := 0) (by decide) (by decide) (by decide)
    rw [c1, Option.bind_some, kw_let_def, show fX10_copies 1 0 = fX10_copies (nI 1) (nI 0) from rfl, d1, Option.bind_some]
    have low : ∀ j, j < 708 → ρ.1 1 j = σM.1 1 (708 + j) := fun j hj => by
      rw [d2]
      unfold va_cpy
      rw [if_pos (by omega)]
      exact congrArg (σM.1 1) (by omega)
    have kO : kx_kO σX (kw_si τ 5 0 0) := ⟨fun c hc => by rw [kw_si_o (by omega)]; exact c3 c (by omega) (by omega), fun c hc => c4 c (by omega) (by omega) (by omega)⟩
    have km : km_kO σM ρ := ⟨fun j h1 h2 => by
      rw [d2]
      unfold va_cpy
      rw [if_neg (by omega)], by rw [d3 0 (by decide)], by rw [d3 0 (by decide)], d3 5 (by decide)⟩
    refine ⟨true, _, _, rfl, rfl, n', m', o', kb_ok_eq hok' low, kx_sh_eq hok' ?_ low, kx_kp_O ⟨k1, Or.inr ⟨k2, n', m', o', hok', hsh'⟩⟩ kO km, kx_tp_O htp kO km, Or.inl ?_⟩
    · exact kx_sh_fr (Or.inl rfl) c2 (kw_si_o (by decide)) (fun c _ _ => kw_si_o (by omega)) rfl rfl rfl
    · rw [kw_si_1, kw_upd_e]
/-- the j-th byte of an int, the highest first -/
def kb_byte (v : Int32) (j : Nat) : Int32 := (v >>> (nI (24 - 8 * j) &&& 31)) &&& 255
theorem kw_byte8 (x : Int32) : (vp_nar .byte (x.toInt8.toInt32)) &&& 255 = x &&& 255 := by
  have h255 : ∀ i, i < 32 → kw_bI 255 i = decide (i < 8) := by decide
  refine kw_bI_e fun i hi => ?_
  rw [kw_bI_and, kw_bI_and, h255 i hi]
  by_cases h : i < 8
  · rw [decide_eq_true h, Bool.and_true, Bool.and_true]
    rw [show vp_nar .byte (x.toInt8.toInt32) = x.toInt8.toInt32.toInt8.toInt32 from rfl]
    unfold kw_bI
    simp only [Int8.toBitVec_toInt32, Int32.toBitVec_toInt8, BitVec.getLsbD_signExtend]
    simp [show i < 8 by omega, hi]
  · rw [decide_eq_false h, Bool.and_false, Bool.and_false]
theorem kx_addInt {σ : kw_M} {v : Int32} {s : Nat} (hs : σ.1 3 0 = nI s) (hs2 : s + 4 ≤ 240) : ∃ τ, fX8_addInt v σ = some τ ∧ τ.2 = σ.2 ∧ (∀ c, c ≠ 3 → c ≠ 35 → τ.1 c = σ.1 c) ∧ τ.1 3 0 = nI (s + 4) ∧ (∀ i, i < s → τ.1 35 i = σ.1 35 i) ∧ ∀ j, j < 4 → τ.1 35 (s + j) = kb_byte v j := by
  obtain ⟨x, hx, h⟩ := kw_for (body := fun q => bX8_addInt_3 v q.1 q.2) (fun k q => q.1 = nI (32 - 8 * k) - 8 ∧ q.2.2 = σ.2 ∧ (∀ c, c ≠ 3 → c ≠ 35 → q.2.1 c = σ.1 c) ∧ q.2.1 3 0 = nI (s + k) ∧ (∀ i, i < s → q.2.1 35 i = σ.1 35 i) ∧ ∀ j, j < k → q.2.1 35 (s + j) = kb_byte v j) (fun x => x.2 = σ.2 ∧ (∀ c, c ≠ 3 → c ≠ 35 → x.1 c = σ.1 c) ∧ x.1 3 0 = nI (s + 4) ∧ (∀ i, i < s → x.1 35 i = σ.1 35 i) ∧ ∀ j, j < 4 → x.1 35 (s + j) = kb_byte v j) 4 (by decide) (s0 := ((24 : Int32), σ)) ⟨rfl, rfl, fun _ _ _ => rfl, hs, fun _ _ => rfl, fun j hj => absurd hj (Nat.not_lt_zero _)⟩ (fun k q hk hp => by
    obtain ⟨v2, τ⟩ := q
    obtain ⟨hv, h2, hc, h3, hlo, hby⟩ := hp
    dsimp only at hv h2 hc h3 hlo hby ⊢
    subst hv
    unfold bX8_addInt_3
    by_cases h : k < 4
    · left
      refine ⟨h, ?_⟩
      have ev : nI (32 - 8 * k) - 8 = nI (24 - 8 * k) := by rw [show (8 : Int32) = nI 8 by decide, kn_sub (by omega)]; exact congrArg nI (by omega)
      have ev2 : nI (24 - 8 * k) + (-8 : Int32) = nI (32 - 8 * (k + 1)) - 8 := by
        rw [show 32 - 8 * (k + 1) = 24 - 8 * k by omega, Int32.sub_eq_add_neg]
      rw [ev, if_neg (nI_pos (by omega)), h3, if_neg (by simp (disch := omega) only [show (240 : Int32) = nI 240 by decide, kn_le]; omega)]
      simp (disch := first | omega | decide) only [kn_chk, kn_clamp, kw_let_def, ev2, kw_si_o, h3, km_next]
      refine ⟨_, rfl, rfl, h2, fun c h4 h5 => ?_, ?_, fun i hi => ?_, fun j hj => ?_⟩
      · dsimp only
        rw [kw_si_o h4, kw_si_o h5]
        exact hc c h4 h5
      · dsimp only
        rw [kw_si_1, kw_upd_e]
        rfl
      · dsimp only
        rw [kw_si_o (by decide), kw_si_1, kw_upd_n (by omega)]
        exact hlo i hi
      · dsimp only
        rw [kw_si_o (by decide), kw_si_1]
        by_cases e : j = k
        · subst e
          rw [kw_upd_e]
          rfl
        · rw [kw_upd_n (by omega)]
          exact hby j (by omega)
    · right
      obtain rfl : k = 4 := by omega
      exact ⟨τ, by rw [if_pos (by decide)], h2, hc, h3, hlo, hby⟩)
  unfold fX8_addInt
  rw [hx]
  exact ⟨x, rfl, h⟩
theorem km_types {σ : kw_M} {v : Int32} {s : Nat} (hs : σ.1 0 6 = nI s) (hs2 : s + 4 ≤ 240) : ∃ τ, fX10_types v σ = some τ ∧ τ.2 = σ.2 ∧ (∀ c, c ≠ 0 → c ≠ 5 → τ.1 c = σ.1 c) ∧ (∀ k, k ≠ 6 → τ.1 0 k = σ.1 0 k) ∧ τ.1 0 6 = nI (s + 4) ∧ (∀ i, i < s → τ.1 5 i = σ.1 5 i) ∧ ∀ j, j < 4 → τ.1 5 (s + j) &&& 255 = kb_byte v j := by
  obtain ⟨x, hx, h⟩ := kw_for (body := fun q => bX10_types_2 v q.1 q.2) (fun k q => q.1 = nI (4 - k) - 1 ∧ q.2.2 = σ.2 ∧ (∀ c, c ≠ 0 → c ≠ 5 → q.2.1 c = σ.1 c) ∧ (∀ k, k ≠ 6 → q.2.1 0 k = σ.1 0 k) ∧ q.2.1 0 6 = nI (s + k) ∧ (∀ i, i < s → q.2.1 5 i = σ.1 5 i) ∧ ∀ j, j < k → q.2.1 5 (s + j) &&& 255 = kb_byte v j) (fun x => x.2 = σ.2 ∧ (∀ c, c ≠ 0 → c ≠ 5 → x.1 c = σ.1 c) ∧ (∀ k, k ≠ 6 → x.1 0 k = σ.1 0 k) ∧ x.1 0 6 = nI (s + 4) ∧ (∀ i, i < s → x.1 5 i = σ.1 5 i) ∧ ∀ j, j < 4 → x.1 5 (s + j) &&& 255 = kb_byte v j) 4 (by decide) (s0 := ((3 : Int32), σ)) ⟨rfl, rfl, fun _ _ _ => rfl, fun _ _ => rfl, hs, fun _ _ => rfl, fun j hj => absurd hj (Nat.not_lt_zero _)⟩ (fun k q hk hp => by
    obtain ⟨v2, τ⟩ := q
    obtain ⟨hv, h2, hc, hc0, h3, hlo, hby⟩ := hp
    dsimp only at hv h2 hc hc0 h3 hlo hby ⊢
    subst hv
    unfold bX10_types_2
    by_cases h : k < 4
    · left
      refine ⟨h, ?_⟩
      have ev : nI (4 - k) - 1 = nI (3 - k) := by rw [kn_1, kn_sub (by omega)]; exact congrArg nI (by omega)
      have ev2 : nI (3 - k) + (-1 : Int32) = nI (4 - (k + 1)) - 1 := by
        rw [show 4 - (k + 1) = 3 - k by omega, Int32.sub_eq_add_neg]
      have ev3 : (8 : Int32) * nI (3 - k) = nI (24 - 8 * k) := by
        rw [show (8 : Int32) = nI 8 by decide, kn_mul]
        exact congrArg nI (by omega)
      rw [ev, if_neg (nI_pos (by omega)), h3]
      simp (disch := first | omega | decide) only [kn_chk, kn_clamp, kw_let_def, ev2, ev3, kw_si_o, h3, km_next]
      refine ⟨_, rfl, rfl, h2, fun c h4 h5 => ?_, fun k' hk' => ?_, ?_, fun i hi => ?_, fun j hj => ?_⟩
      · dsimp only
        rw [kw_si_o h4, kw_si_o h5]
        exact hc c h4 h5
      · dsimp only
        rw [kw_si_1, kw_upd_n hk', kw_si_o (by decide)]
        exact hc0 k' hk'
      · dsimp only
        rw [kw_si_1, kw_upd_e]
        rfl
      · dsimp only
        rw [kw_si_o (by decide), kw_si_1, kw_upd_n (by omega)]
        exact hlo i hi
      · dsimp only
        rw [kw_si_o (by decide), kw_si_1]
        by_cases e : j = k
        · subst e
          rw [kw_upd_e, kw_byte8]
          rfl
        · rw [kw_upd_n (by omega)]
          exact hby j (by omega)
    · right
      obtain rfl : k = 4 := by omega
      exact ⟨τ, by rw [if_pos (by decide)], h2, hc, hc0, h3, hlo, hby⟩)
  unfold fX10_types
  rw [hx]
  exact ⟨x, rfl, h⟩
/-- both tapes hold the same s bytes; all else stays -/
def kx_tq (σX σM τX τM : kw_M) (s : Nat) : Prop := τX.2 = σX.2 ∧ (∀ c, c ≠ 3 → c ≠ 35 → τX.1 c = σX.1 c) ∧ τM.2 = σM.2 ∧ (∀ c, c ≠ 0 → c ≠ 5 → τM.1 c = σM.1 c) ∧ (∀ k, k ≠ 6 → τM.1 0 k = σM.1 0 k) ∧ τX.1 3 0 = nI s ∧ τM.1 0 6 = nI s ∧ ∀ i, i < s → τX.1 35 i = τM.1 5 i &&& 255
theorem ko_int {σX σM τX τM : kw_M} {s : Nat} (v : Int32) (h : kx_tq σX σM τX τM s) (hs : s + 4 ≤ 240) : ∃ ρX ρM, fX8_addInt v τX = some ρX ∧ fX10_types v τM = some ρM ∧ kx_tq σX σM ρX ρM (s + 4) := by
  obtain ⟨h1, h2, h3, h4, h5, h6, h7, h8⟩ := h
  obtain ⟨ρX, a1, a2, a3, a4, a5, a6⟩ := kx_addInt (v := v) h6 hs
  obtain ⟨ρM, b1, b2, b3, b4, b5, b6, b7⟩ := km_types (v := v) h7 hs
  refine ⟨ρX, ρM, a1, b1, a2.trans h1, fun c x y => (a3 c x y).trans (h2 c x y), b2.trans h3, fun c x y => (b3 c x y).trans (h4 c x y), fun k x => (b4 k x).trans (h5 k x), a4, b5, fun i hi => ?_⟩
  by_cases q : i < s
  · rw [a5 i q, b6 i q]
    exact h8 i q
  · have e : i = s + (i - s) := by omega
    rw [e, a6 _ (by omega), b7 _ (by omega)]
theorem ko_feed {σX σM : kw_M} {a1 a2 a3 a4 a5 : Int32} (hR : kw_Rel σX σM) : ∃ a τX τM, fX9_feed a1 a2 a3 a4 a5 σX = some (a, τX) ∧ fX10_feed a1 a2 a3 a4 a5 σM = some (a, τM) ∧ kw_Rel τX τM := by
  obtain ⟨n, m, o, hok, hsh, hkp, htp, hpr⟩ := hR
  obtain ⟨s, h1, h2, h3, h4⟩ := htp
  unfold fX9_feed fX10_feed
  rw [h2, h3, show (20 : Int32) = nI 20 by decide, nI_add, show (240 : Int32) = nI 240 by decide]
  simp (disch := omega) only [kn_le]
  by_cases hq : s + 20 ≤ 240
  case neg =>
    rw [if_neg hq, if_neg hq]
    exact ⟨_, _, _, rfl, rfl, n, m, o, hok, hsh, hkp, ⟨s, h1, h2, h3, h4⟩, hpr⟩
  rw [if_pos hq, if_pos hq]
  have t0 : kx_tq σX σM σX σM s := ⟨rfl, fun _ _ _ => rfl, rfl, fun _ _ _ => rfl, fun _ _ => rfl, h2, h3, h4⟩
  obtain ⟨x1, y1, e1, f1, t1⟩ := ko_int a1 t0 (by omega)
  obtain ⟨x2, y2, e2, f2, t2⟩ := ko_int a2 t1 (by omega)
  obtain ⟨x3, y3, e3, f3, t3⟩ := ko_int a3 t2 (by omega)
  obtain ⟨x4, y4, e4, f4, t4⟩ := ko_int a4 t3 (by omega)
  obtain ⟨x5, y5, e5, f5, t5⟩ := ko_int a5 t4 (by omega)
  rw [e1, Option.bind_some, e2, Option.bind_some, e3, Option.bind_some, e4, Option.bind_some, e5, Option.bind_some, f1, Option.bind_some, f2, Option.bind_some, f3, Option.bind_some, f4, Option.bind_some, f5, Option.bind_some]
  obtain ⟨g1, g2, g3, g4, g5, g6, g7, g8⟩ := t5
  rw [g6, g7]
  have low : ∀ j, y5.1 1 j = σM.1 1 j := fun j => by rw [g4 1 (by decide) (by decide)]
  have kN : kx_kN σX x5 := ⟨fun c hc => g2 c (by omega) (by omega), fun c _ => by rw [g1]⟩
  refine ⟨_, _, _, rfl, rfl, n, m, o, kb_ok_eq hok (fun j _ => low j), kx_sh_eq hok (kx_sh_N hsh kN) (fun j _ => low j), ?_, ⟨_, by omega, g6, g7, g8⟩, kx_pr_eq hpr (g2 5 (by decide) (by decide)) (by rw [g1]) (fun j _ _ => low j)⟩
  obtain ⟨k1, k2⟩ := hkp
  refine ⟨by rw [g2 0 (by decide) (by decide), g5 1 (by decide)]; exact k1, ?_⟩
  rw [g5 1 (by decide)]
  rcases k2 with k2 | ⟨k2, n', m', o', hok', hsh'⟩
  · exact Or.inl k2
  · refine Or.inr ⟨k2, n', m', o', kb_ok_eq hok' (fun j _ => low _), kx_sh_eq hok' ?_ (fun j _ => low _)⟩
    exact kx_sh_fr (Or.inr rfl) hsh' (g2 2 (by decide) (by decide)) (fun c h5 h6 => g2 c (by omega) (by omega)) (by rw [g1]) (by rw [g1]) (by rw [g1])
