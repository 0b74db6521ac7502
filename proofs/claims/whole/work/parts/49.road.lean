/-! road, change. -/
theorem kn_e0 {a : Nat} (h : a < 2147483648) : (nI a = (0 : Int32)) = (a = 0) := kn_eq (b := 0) h (by decide)
theorem kn_e1 {a : Nat} (h : a < 2147483648) : (nI a = (1 : Int32)) = (a = 1) := kn_eq (b := 1) h (by decide)
theorem kn_e2 {a : Nat} (h : a < 2147483648) : (nI a = (2 : Int32)) = (a = 2) := kn_eq (b := 2) h (by decide)
theorem kn_e3 {a : Nat} (h : a < 2147483648) : (nI a = (3 : Int32)) = (a = 3) := kn_eq (b := 3) h (by decide)
theorem kn_e4 {a : Nat} (h : a < 2147483648) : (nI a = (4 : Int32)) = (a = 4) := kn_eq (b := 4) h (by decide)
theorem kn_e5 {a : Nat} (h : a < 2147483648) : (nI a = (5 : Int32)) = (a = 5) := kn_eq (b := 5) h (by decide)
theorem kn_e6 {a : Nat} (h : a < 2147483648) : (nI a = (6 : Int32)) = (a = 6) := kn_eq (b := 6) h (by decide)
theorem kn_e7 {a : Nat} (h : a < 2147483648) : (nI a = (7 : Int32)) = (a = 7) := kn_eq (b := 7) h (by decide)
theorem kn_e8 {a : Nat} (h : a < 2147483648) : (nI a = (8 : Int32)) = (a = 8) := kn_eq (b := 8) h (by decide)
theorem kn_e9 {a : Nat} (h : a < 2147483648) : (nI a = (9 : Int32)) = (a = 9) := kn_eq (b := 9) h (by decide)
theorem kn_e10 {a : Nat} (h : a < 2147483648) : (nI a = (10 : Int32)) = (a = 10) := kn_eq (b := 10) h (by decide)
theorem kn_e11 {a : Nat} (h : a < 2147483648) : (nI a = (11 : Int32)) = (a = 11) := kn_eq (b := 11) h (by decide)
theorem kn_e12 {a : Nat} (h : a < 2147483648) : (nI a = (12 : Int32)) = (a = 12) := kn_eq (b := 12) h (by decide)
theorem kn_e13 {a : Nat} (h : a < 2147483648) : (nI a = (13 : Int32)) = (a = 13) := kn_eq (b := 13) h (by decide)
theorem kn_e14 {a : Nat} (h : a < 2147483648) : (nI a = (14 : Int32)) = (a = 14) := kn_eq (b := 14) h (by decide)
theorem kn_e15 {a : Nat} (h : a < 2147483648) : (nI a = (15 : Int32)) = (a = 15) := kn_eq (b := 15) h (by decide)
theorem kn_e16 {a : Nat} (h : a < 2147483648) : (nI a = (16 : Int32)) = (a = 16) := kn_eq (b := 16) h (by decide)
theorem kb_row {F : Nat → Int32} {n m o : Nat} (h : kb_ok F n m o) : kr_row (kb_D F n m o) := kb_D_in h.1.2.2.2.1 h.1.2.2.1
theorem ko_road9 {σX σM : kw_M} {a1 a2 : Int32} (hR : kw_Rel σX σM) : ∃ a τM, fX9_road a1 a2 σX = some a ∧ fX10_road a1 a2 σM = some (a, τM) ∧ kw_Rel σX τM := by
  obtain ⟨n, m, o, hok, hsh, hkp, htp, hpr⟩ := hR
  have h2 := hok.1.2.1
  have h12 := hok.1.2.2.1
  have hm := hok.1.2.2.2.1.1
  have hon := hok.2.2.1
  have hmX : σX.1 12 1 = nI m := hsh.1.2.1.trans hok.1.2.2.2.1.2.1
  have hw := hok.1.2.2.2.1
  have same : kw_Rel σX σM := ⟨n, m, o, hok, hsh, hkp, htp, hpr⟩
  have hxq : kx_q σX σX (σM.1 1) n m := ⟨kx_kO_r _, kx_kN_r _, hpr⟩
  unfold fX9_road fX10_road
  rw [kx_hasRoad hmX hm, km_isRoad hok.1.2.2.2.1.2.1 hm, km_in, Int32.toInt_toInt64]
  simp only [Option.bind_some, kx_fl_0, show (0 : Int64).toInt = 0 by decide, show (5 : Int64).toInt = 5 by decide]
  by_cases t1 : 0 ≤ a1.toInt ∧ a1.toInt < m
  case neg =>
    simp only [decide_eq_false t1, kn_ff]
    exact ⟨_, _, rfl, rfl, same⟩
  simp only [decide_eq_true t1, kn_tf]
  obtain ⟨r, hr, rfl⟩ := kw_arg (by omega) t1
  by_cases t2 : 0 ≤ a2.toInt ∧ a2.toInt ≤ 5
  case neg =>
    simp only [decide_eq_false t2, kn_ff]
    refine ⟨_, _, ?_, rfl, same⟩
    have ne : ∀ k : Nat, k < 6 → ¬ a2 = nI k := fun k hk e => t2 (by rw [e, nI_toInt (by omega)]; omega)
    rw [if_neg (show ¬ a2 = 0 from ne 0 (by decide)), if_neg (show ¬ a2 = 1 from ne 1 (by decide)), if_neg (show ¬ a2 = 2 from ne 2 (by decide)), if_neg (show ¬ a2 = 3 from ne 3 (by decide)), if_neg (show ¬ a2 = 4 from ne 4 (by decide)), if_neg (show ¬ a2 = 5 from ne 5 (by decide))]
  simp only [decide_eq_true t2, kn_tf]
  obtain ⟨w, hw6, rfl⟩ := kw_arg (x := a2) (n := 6) (by omega) ⟨t2.1, by omega⟩
  obtain ⟨x18, x19, x20⟩ := hsh.1.2.2.1 r hr
  have e18 : σX.1 18 r = σM.1 1 (28 + 4 * r + 0) := x18
  have e19 : σX.1 19 r = σM.1 1 (28 + 4 * r + 1) := x19
  have e20 : σX.1 20 r = σM.1 1 (28 + 4 * r + 2) := x20
  obtain ⟨hf, hto, _, _⟩ := hw.2.2 r hr
  have hto' := kw_in_lt hto
  obtain ⟨ρ, s1, s2, s3, s4⟩ := km_settles' hw hok.1.1 (by omega) h12 hok.2.1 (by omega)
  have hrowX : ∀ t, t < 12 → σX.2 16 t = kx_enc (kb_D (σM.1 1) n m o t) := hsh.2.2.2.2.1
  have hwρ : km_wf (ρ.1 1) m := by rw [s2]; exact hw
  simp (disch := omega) only [kn_0, kn_1, kn_2, kn_3, kn_4, kn_5, kn_eq, kn_le, kn_chk, kn_clamp, e18, e19, e20]
  rw [s1, Option.bind_some]
  obtain rfl | rfl | rfl | rfl | rfl | rfl : w = 0 ∨ w = 1 ∨ w = 2 ∨ w = 3 ∨ w = 4 ∨ w = 5 := by omega
  · rw [if_pos rfl, if_neg (by decide), km_of (by omega) (by decide), Option.bind_some]
    exact ⟨_, _, rfl, rfl, same⟩
  · rw [if_neg (by decide), if_pos rfl, if_neg (by decide), km_of (by omega) (by decide), Option.bind_some]
    exact ⟨_, _, rfl, rfl, same⟩
  · rw [if_neg (by decide), if_neg (by decide), if_pos rfl, if_neg (by decide), km_of (by omega) (by decide), Option.bind_some]
    exact ⟨_, _, rfl, rfl, same⟩
  · rw [if_neg (by decide), if_neg (by decide), if_neg (by decide), if_pos rfl, if_neg (by decide), km_of (by omega) (by decide), Option.bind_some, kx_isOpenR hsh.1 hw hr, Option.bind_some]
    refine ⟨_, _, ?_, rfl, same⟩
    rcases (hok.1.2.2.2.2 r hr).2.2 with h | h
    · rw [h]; rfl
    · rw [h]; rfl
  · rw [if_neg (by decide), if_neg (by decide), if_neg (by decide), if_neg (by decide), if_pos rfl, if_pos (by decide), if_pos rfl, kx_tight hsh.1 hw hr hrowX (kb_row hok), km_tight hwρ hr s3 (kb_row hok), Option.bind_some, Option.bind_some, s2]
    have rel : kw_Rel σX ρ := kw_Rel_a hok hsh hkp htp hxq (km_q_e s2)
    cases kr_tight (km_gr (σM.1 1) m (-1)) (kb_D (σM.1 1) n m o) r
    · exact ⟨_, _, rfl, rfl, rel⟩
    · exact ⟨_, _, rfl, rfl, rel⟩
  · rw [if_neg (by decide), if_neg (by decide), if_neg (by decide), if_neg (by decide), if_neg (by decide), if_pos rfl, if_pos (show 4 ≤ 5 by decide), if_neg (show ¬ 5 = 4 by decide)]
    rw [show fX10_of (nI r) (nI 1) ρ = some (ρ.1 1 (28 + 4 * r + 1)) from km_of1 (by omega), Option.bind_some, s2, kw_chk_t hto]
    have rel : kw_Rel σX ρ := kw_Rel_a hok hsh hkp htp hxq (km_q_e s2)
    rw [show fX10_parentOf (σM.1 1 (28 + 4 * r + 1)) ρ = fX10_parentOf (nI (σM.1 1 (28 + 4 * r + 1)).toNatClampNeg) ρ from by rw [← kw_in_nI_of hto (by decide)], km_parentOf hwρ hto' s3 (kb_row hok), Option.bind_some, s2]
    have e17 : σX.1 17 (σM.1 1 (28 + 4 * r + 1)).toNatClampNeg = kx_pe (kr_par (km_gr (σM.1 1) m (-1)) (kb_D (σM.1 1) n m o) (σM.1 1 (28 + 4 * r + 1)).toNatClampNeg) := hsh.2.2.2.2.2.1 _ hto'
    rw [e17]
    by_cases q : kx_pe (kr_par (km_gr (σM.1 1) m (-1)) (kb_D (σM.1 1) n m o) (σM.1 1 (28 + 4 * r + 1)).toNatClampNeg) = nI r
    · rw [if_pos q, if_pos q]
      exact ⟨_, _, rfl, rfl, rel⟩
    · rw [if_neg q, if_neg q]
      exact ⟨_, _, rfl, rfl, rel⟩
theorem ko_change {σX σM : kw_M} {a1 a2 : Int32} (hR : kw_Rel σX σM) : ∃ a τM, fX9_change a1 a2 σX = some a ∧ fX10_change a1 a2 σM = some (a, τM) ∧ kw_Rel σX τM := by
  obtain ⟨n, m, o, hok, hsh, hkp, htp, hpr⟩ := hR
  have h2 := hok.1.2.1
  have h12 := hok.1.2.2.1
  have hm := hok.1.2.2.2.1.1
  have hon := hok.2.2.1
  have hw := hok.1.2.2.2.1
  have same : kw_Rel σX σM := ⟨n, m, o, hok, hsh, hkp, htp, hpr⟩
  have hxq : kx_q σX σX (σM.1 1) n m := ⟨kx_kO_r _, kx_kN_r _, hpr⟩
  unfold fX9_change fX10_change
  rw [km_isRoad hok.1.2.2.2.1.2.1 hm, km_in, Int32.toInt_toInt64]
  simp only [Option.bind_some, kx_fl_0, show (0 : Int64).toInt = 0 by decide, show (2 : Int64).toInt = 2 by decide]
  rcases kx_isOpenA (x := a1) hsh.1 hw with ⟨r, hr, rfl⟩ | ⟨q1, q2⟩
  case inr =>
    rw [q1, decide_eq_false q2]
    exact ⟨_, _, rfl, rfl, same⟩
  have hr1 : 0 ≤ (nI r).toInt ∧ (nI r).toInt < m := by rw [nI_toInt (by omega)]; omega
  rw [kx_isOpenR hsh.1 hw hr, Option.bind_some, km_isOpen (by omega), Option.bind_some]
  simp only [decide_eq_true hr1, kn_tf, kx_fl_0]
  have hrowX : ∀ t, t < 12 → σX.2 16 t = kx_enc (kb_D (σM.1 1) n m o t) := hsh.2.2.2.2.1
  obtain ⟨ρ, s1, s2, s3, s4⟩ := km_settles' hw hok.1.1 (by omega) h12 hok.2.1 (by omega)
  have hwρ : km_wf (ρ.1 1) m := by rw [s2]; exact hw
  have rel : kw_Rel σX ρ := kw_Rel_a hok hsh hkp htp hxq (km_q_e s2)
  obtain ⟨hf, hto, _, _⟩ := hw.2.2 r hr
  have hto' := kw_in_lt hto
  have e19 : σX.1 19 r = nI (σM.1 1 (28 + 4 * r + 1)).toNatClampNeg := ((hsh.1.2.2.1 r hr).2.1).trans (kw_in_nI_of hto (by decide))
  have bs : kr_bd (kr_slack (km_gr (σM.1 1) m (-1)) (kb_D (σM.1 1) n m o) r) := kr_slack_bd (kb_row hok) (km_wf_len hw (-1) r hr)
  by_cases ho : σM.1 1 (28 + 4 * r + 3) = 1
  case neg =>
    simp only [decide_eq_false ho, kn_ff, if_neg ho, if_true]
    by_cases t2 : 0 ≤ a2.toInt ∧ a2.toInt ≤ 2
    · simp only [decide_eq_true t2, kn_tf]
      exact ⟨_, _, rfl, rfl, same⟩
    · simp only [decide_eq_false t2, kn_ff]
      exact ⟨_, _, rfl, rfl, same⟩
  simp only [decide_eq_true ho, kn_tf, if_pos ho]
  rw [kx_slack hsh.1 hw hr hrowX (kb_row hok), Option.bind_some]
  by_cases t2 : 0 ≤ a2.toInt ∧ a2.toInt ≤ 2
  case neg =>
    simp only [decide_eq_false t2, kn_ff]
    refine ⟨_, _, ?_, rfl, same⟩
    have ne : ∀ k : Nat, k < 3 → ¬ a2 = nI k := fun k hk e => t2 (by rw [e, nI_toInt (by omega)]; omega)
    rw [if_neg (show ¬ a2 = 0 from ne 0 (by decide)), if_neg (show ¬ a2 = 1 from ne 1 (by decide)), if_neg (show ¬ a2 = 2 from ne 2 (by decide))]
  simp only [decide_eq_true t2, kn_tf]
  obtain ⟨w, hw6, rfl⟩ := kw_arg (x := a2) (n := 3) (by omega) ⟨t2.1, by omega⟩
  rw [if_neg (show ¬ (1 : Int32) = 0 by decide), s1, Option.bind_some, km_slack hwρ hr s3 (kb_row hok), Option.bind_some, s2, km_told bs, Option.bind_some, kn_chk (show r < 36 by omega) (by decide), kn_clamp (show r < 2147483648 by omega), e19, kx_tightTo hsh.1 hw hto' hrowX (kb_row hok), Option.bind_some, km_of1 (by omega), Option.bind_some, s2]
  rw [show fX10_tightTo (σM.1 1 (28 + 4 * r + 1)) ρ = fX10_tightTo (nI (σM.1 1 (28 + 4 * r + 1)).toNatClampNeg) ρ from by rw [← kw_in_nI_of hto (by decide)], km_tightTo hwρ hto' s3 (kb_row hok), Option.bind_some, s2]
  simp (disch := omega) only [kr_enc0x bs, kr_enc0m bs, kx_enc_e bs, km_enc_e bs, kn_e0 (show w < 2147483648 by omega), kn_e1 (show w < 2147483648 by omega), kn_e2 (show w < 2147483648 by omega)]
  obtain rfl | rfl | rfl : w = 0 ∨ w = 1 ∨ w = 2 := by omega
  · rw [if_pos rfl, if_pos rfl]
    exact ⟨_, _, rfl, rfl, rel⟩
  · rw [if_neg (show ¬ 1 = 0 by decide), if_pos (show 1 = 1 from rfl), if_neg (show ¬ 1 = 0 by decide), if_neg (show ¬ 1 = 2 by decide)]
    by_cases q : kr_slack (km_gr (σM.1 1) m (-1)) (kb_D (σM.1 1) n m o) r = some 0
    · rw [if_pos q, if_pos q]
      by_cases q2 : nI (kr_cntb (kr_tto (km_gr (σM.1 1) m (-1)) (kb_D (σM.1 1) n m o) (σM.1 1 (28 + 4 * r + 1)).toNatClampNeg) m) = 1
      · simp only [if_pos q2]
        exact ⟨_, _, rfl, rfl, rel⟩
      · simp only [if_neg q2]
        exact ⟨_, _, rfl, rfl, rel⟩
    · rw [if_neg q, if_neg q]
      exact ⟨_, _, rfl, rfl, rel⟩
  · rw [if_neg (show ¬ 2 = 0 by decide), if_neg (show ¬ 2 = 1 by decide), if_pos (show 2 = 2 from rfl), if_neg (show ¬ 2 = 0 by decide), if_pos (show 2 = 2 from rfl)]
    cases q : kr_slack (km_gr (σM.1 1) m (-1)) (kb_D (σM.1 1) n m o) r with
    | none =>
      rw [if_pos rfl, if_pos rfl]
      exact ⟨_, _, rfl, rfl, rel⟩
    | some z =>
      rw [if_neg (by simp), if_neg (by simp)]
      exact ⟨_, _, rfl, rfl, rel⟩
