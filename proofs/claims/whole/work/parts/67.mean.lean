/-! mean: the reference, the common divisor, the call. -/
def km_mu (mu : Option (Int × Nat)) : Int64 × Int64 := match mu with
  | none => (900000000000000000, 1)
  | some p => (Int64.ofInt p.1, Int64.ofInt (p.2 : Int))
theorem km_meanRow {σ : kw_M} {n m t : Nat} {a1 : Int32} {mu : Option (Int × Nat)} (hw : kb_wf (σ.1 1) n m) (hg : kr_good (km_gr (σ.1 1) m (-1))) (ht : t < n) (h2 : km_rw σ 2 (kr_one t)) (hmk : kp_mok mu) : ∃ τ, kw_loop (fun s => bX10_mean_42 a1 (nI t) s.1 s.2.1 s.2.2.1 s.2.2.2) kw_F ((km_mu mu).1, (km_mu mu).2, (1 : Int32), σ) = some ((km_mu (kp_mr (km_gr (σ.1 1) m (-1)) t mu n)).1, (km_mu (kp_mr (km_gr (σ.1 1) m (-1)) t mu n)).2, τ) ∧ τ.1 = σ.1 := by
  have h12 := hw.2.2.1
  have hlen := km_wf_len hw.2.2.2.1 (-1)
  obtain ⟨x, hx, x1, x2⟩ := kw_for (body := fun s => bX10_mean_42 a1 (nI t) s.1 s.2.1 s.2.2.1 s.2.2.2) (fun k s => (s.1, s.2.1) = km_mu (kp_mr (km_gr (σ.1 1) m (-1)) t mu k) ∧ s.2.2.1 = nI (k + 1) ∧ km_rw s.2.2.2 2 (kr_ex (km_gr (σ.1 1) m (-1)) t k) ∧ s.2.2.2.1 = σ.1) (fun x => (x.1, x.2.1) = km_mu (kp_mr (km_gr (σ.1 1) m (-1)) t mu n) ∧ x.2.2.1 = σ.1) n (by omega) (s0 := ((km_mu mu).1, (km_mu mu).2, (1 : Int32), σ)) ⟨rfl, rfl, h2, rfl⟩ (fun k s hk hp => by
    obtain ⟨v2, v4, v7, τ⟩ := s
    obtain ⟨e1, e2, e3, e4⟩ := hp
    dsimp only at e1 e2 e3 e4 ⊢
    subst e2
    obtain ⟨rfl, rfl⟩ : v2 = (km_mu (kp_mr (km_gr (σ.1 1) m (-1)) t mu k)).1 ∧ v4 = (km_mu (kp_mr (km_gr (σ.1 1) m (-1)) t mu k)).2 := by rw [← e1]; exact ⟨rfl, rfl⟩
    unfold bX10_mean_42 fX10_towns
    rw [e4, hw.1, Option.bind_some]
    simp (disch := omega) only [kn_lt]
    by_cases hkn : k < n
    case neg =>
      right
      obtain rfl : k = n := by omega
      rw [if_pos (by omega)]
      exact ⟨_, rfl, rfl, e4⟩
    left
    refine ⟨hkn, ?_⟩
    have hmk2 := kp_mr_ok (t := t) hg hlen h12 hmk k (by omega)
    obtain ⟨τ2, g1, g2, g3, g4⟩ := km_goesOn (σ := τ) (n := n) (m := m) (d := kr_ex (km_gr (σ.1 1) m (-1)) t k) (B := 400000000000) (by rw [e4]; exact hw) e3 (kr_ex_in hlen k (by omega)) (by decide) (by decide)
    rw [e4] at g2 g3
    have g2' : km_rw τ2 2 (kr_ex (km_gr (σ.1 1) m (-1)) t (k + 1)) := g2
    have hv := fun z hz => kr_ex_in (g := km_gr (σ.1 1) m (-1)) (o := t) hlen (k + 1) (by omega) t z hz
    have bv : kr_bd (kr_ex (km_gr (σ.1 1) m (-1)) t (k + 1) t) := fun z hz => by have := hv z hz; omega
    unfold jX10_mean_99_L42
    rw [if_neg (by omega), g1, Option.bind_some, kn_chk (by omega) (by decide), kn_chk (by omega) (by decide), kn_clamp (by omega), g2' t (by omega)]
    simp only [kw_let_def, km_next, km_enc_e bv]
    have es : kp_mr (km_gr (σ.1 1) m (-1)) t mu (k + 1) = kp_m2 (kp_mr (km_gr (σ.1 1) m (-1)) t mu k) (kr_ex (km_gr (σ.1 1) m (-1)) t (k + 1) t) (k + 1) := rfl
    rw [es]
    cases hq : kr_ex (km_gr (σ.1 1) m (-1)) t (k + 1) t with
    | none =>
      rw [if_pos rfl]
      refine ⟨_, rfl, ?_, rfl, g2', g3⟩
      cases kp_mr (km_gr (σ.1 1) m (-1)) t mu k <;> rfl
    | some z =>
      have hz := hv z hq
      rw [if_neg (by simp)]
      cases hm : kp_mr (km_gr (σ.1 1) m (-1)) t mu k with
      | none =>
        rw [if_pos (show (km_mu none).1 = 900000000000000000 from rfl)]
        refine ⟨_, rfl, ?_, rfl, g2', g3⟩
        show (km_enc (some z), (nI (k + 1)).toInt64) = (Int64.ofInt z, Int64.ofInt ((k + 1 : Nat) : Int))
        rw [kw_natL (by omega)]
        rfl
      | some p =>
        rw [hm] at hmk2
        have hp := hmk2 p rfl
        have hne : ¬ (km_mu (some p)).1 = 900000000000000000 := fun q => by
          have := congrArg Int64.toInt q
          rw [show (km_mu (some p)).1 = Int64.ofInt p.1 from rfl, km_toInt (by omega) (by omega), km_far] at this
          omega
        rw [if_neg hne, show (km_mu (some p)).1 = Int64.ofInt p.1 from rfl, show (km_mu (some p)).2 = Int64.ofInt (p.2 : Int) from rfl, show km_enc (some z) = Int64.ofInt z from rfl, kw_natL (show k + 1 < 2147483648 by omega)]
        simp only [Int64.lt_iff_toInt_lt, kw_mulL hz.1 hz.2 (show 0 ≤ (p.2 : Int) by omega) (show (p.2 : Int) ≤ 12 by omega), kw_mulL (show -400000000000 ≤ p.1 by omega) (show p.1 ≤ 400000000000 by omega) (show 0 ≤ ((k + 1 : Nat) : Int) by omega) (show ((k + 1 : Nat) : Int) ≤ 12 by omega)]
        have e2 : kp_m2 (some p) (some z) (k + 1) = if z * (p.2 : Int) < p.1 * ((k + 1 : Nat) : Int) then some (z, k + 1) else some p := rfl
        rw [e2]
        by_cases w : z * (p.2 : Int) < p.1 * ((k + 1 : Nat) : Int)
        · rw [if_pos w, if_pos w]
          exact ⟨_, rfl, rfl, rfl, g2', g3⟩
        · rw [if_neg w, if_neg w]
          exact ⟨_, rfl, rfl, rfl, g2', g3⟩)
  refine ⟨x.2.2, ?_, x2⟩
  rw [hx, ← x1]
theorem km_meanAll {σ : kw_M} {n m : Nat} {a1 : Int32} (hw : kb_wf (σ.1 1) n m) (hg : kr_good (km_gr (σ.1 1) m (-1))) : ∃ τ, kw_loop (fun s => bX10_mean_24 a1 s.1 s.2.1 s.2.2.1 s.2.2.2) kw_F ((900000000000000000 : Int64), (1 : Int64), (0 : Int32), σ) = some ((km_mu (kp_ms (km_gr (σ.1 1) m (-1)) n n)).1, (km_mu (kp_ms (km_gr (σ.1 1) m (-1)) n n)).2, τ) ∧ τ.1 = σ.1 := by
  have h12 := hw.2.2.1
  have hlen := km_wf_len hw.2.2.2.1 (-1)
  obtain ⟨x, hx, x1, x2⟩ := kw_for (body := fun s => bX10_mean_24 a1 s.1 s.2.1 s.2.2.1 s.2.2.2) (fun k s => (s.1, s.2.1) = km_mu (kp_ms (km_gr (σ.1 1) m (-1)) n k) ∧ s.2.2.1 = nI k ∧ s.2.2.2.1 = σ.1) (fun x => (x.1, x.2.1) = km_mu (kp_ms (km_gr (σ.1 1) m (-1)) n n) ∧ x.2.2.1 = σ.1) n (by omega) (s0 := ((900000000000000000 : Int64), (1 : Int64), (0 : Int32), σ)) ⟨rfl, rfl, rfl⟩ (fun k s hk hp => by
    obtain ⟨v2, v4, v7, τ⟩ := s
    obtain ⟨e1, e2, e4⟩ := hp
    dsimp only at e1 e2 e4 ⊢
    subst e2
    obtain ⟨rfl, rfl⟩ : v2 = (km_mu (kp_ms (km_gr (σ.1 1) m (-1)) n k)).1 ∧ v4 = (km_mu (kp_ms (km_gr (σ.1 1) m (-1)) n k)).2 := by rw [← e1]; exact ⟨rfl, rfl⟩
    unfold bX10_mean_24 fX10_towns
    rw [e4, hw.1, Option.bind_some]
    by_cases hkn : k < n
    case neg =>
      right
      obtain rfl : k = n := by omega
      rw [if_pos (nI_le (Nat.le_refl k) (by omega))]
      exact ⟨_, rfl, rfl, e4⟩
    left
    refine ⟨hkn, ?_⟩
    obtain ⟨ρ, s1, s2, s3, s4⟩ := km_stands (σ := τ) (o := k) (by omega)
    have s3' : ρ.1 = σ.1 := s3.trans e4
    obtain ⟨ρ2, r1, r2⟩ := km_meanRow (σ := ρ) (n := n) (m := m) (t := k) (a1 := a1) (mu := kp_ms (km_gr (σ.1 1) m (-1)) n k) (by rw [s3']; exact hw) (by rw [s3']; exact hg) hkn s2 (kp_ms_ok hg hlen h12 k)
    rw [s3'] at r1
    rw [if_neg (nI_ge hkn (by omega)), s1, Option.bind_some, r1, Option.bind_some, kw_let_def, km_next]
    exact ⟨_, rfl, rfl, rfl, r2.trans s3'⟩)
  refine ⟨x.2.2, ?_, x2⟩
  rw [hx, ← x1]
/-- both common divisors come to the same number, above 0 -/
theorem kw_common {σX σM : kw_M} {u d : Int} (hu : 0 < u) (hu2 : u ≤ 400000000000) (hd : 0 < d) (hd2 : d ≤ 12) : ∃ g : Int, 0 < g ∧ g ≤ 400000000000 ∧ fX6_commonDivisor (Int64.ofInt u) (Int64.ofInt d) σX = some (Int64.ofInt g) ∧ fX10_common (Int64.ofInt u) (Int64.ofInt d) σM = some (Int64.ofInt g) := by
  have iu : (Int64.ofInt u).toInt = u := km_toInt (by omega) (by omega)
  have id' : (Int64.ofInt d).toInt = d := km_toInt (by omega) (by omega)
  obtain ⟨x, x', hx, hx', g, q1, q2, q3, q4⟩ := kw_for2 (bX := fun s => bX6_commonDivisor_15 σX s.1 s.2.1 s.2.2) (bM := fun s => bX10_common_6 σM s.1 s.2) (fun k s s' => ∃ a b : Int, s.1 = Int64.ofInt a ∧ s.2.1 = Int64.ofInt b ∧ s.2.2 = nI k ∧ s'.1 = Int64.ofInt a ∧ s'.2 = Int64.ofInt b ∧ 0 < a ∧ a ≤ 400000000000 ∧ 0 ≤ b ∧ b + k ≤ 12) (fun x x' => ∃ g : Int, 0 < g ∧ g ≤ 400000000000 ∧ x = Int64.ofInt g ∧ x' = Int64.ofInt g) 12 (by decide) (s0 := (Int64.ofInt u, Int64.ofInt d, (0 : Int32))) (s0' := (Int64.ofInt u, Int64.ofInt d)) ⟨u, d, rfl, rfl, rfl, rfl, rfl, hu, hu2, by omega, by omega⟩ (fun k s s' hk hp => by
    obtain ⟨v4, v6, v8⟩ := s
    obtain ⟨w4, w6⟩ := s'
    obtain ⟨a, b, e1, e2, e3, e4, e5, h1, h2, h3, h4⟩ := hp
    dsimp only at e1 e2 e3 e4 e5 ⊢
    subst e1 e2 e3 e4 e5
    have ia : (Int64.ofInt a).toInt = a := km_toInt (by omega) (by omega)
    have ib : (Int64.ofInt b).toInt = b := km_toInt (by omega) (by omega)
    unfold bX6_commonDivisor_15 bX10_common_6
    rw [if_neg (by simp (disch := omega) only [show (200 : Int32) = nI 200 by decide, kn_le]; omega)]
    simp only [kw_ofI0 (show -10000000000000000 ≤ b by omega) (show b ≤ 10000000000000000 by omega)]
    by_cases hb : b = 0
    · right
      rw [if_pos hb, if_pos hb]
      exact ⟨_, _, rfl, rfl, a, h1, h2, rfl, rfl⟩
    · left
      rw [if_neg hb, if_neg hb, kw_chk_t hb, kw_chk_t hb, kw_let_def, kw_let_def, kw_let_def, km_next]
      have er : Int64.ofInt a - Int64.ofInt a / Int64.ofInt b * Int64.ofInt b = Int64.ofInt (a % b) := by
        apply Int64.toInt_inj.mp
        have hlt := Int.emod_lt_of_pos a (show 0 < b by omega)
        have hge := Int.emod_nonneg a hb
        rw [Jvm.Kit.i64_rem_nonneg (by rw [ia]; omega), ia, ib, km_toInt (by omega) (by omega)]
      rw [er]
      have hlt := Int.emod_lt_of_pos a (show 0 < b by omega)
      have hge := Int.emod_nonneg a hb
      exact ⟨by omega, _, _, rfl, rfl, b, a % b, rfl, rfl, rfl, rfl, rfl, by omega, by omega, hge, by omega⟩)
  refine ⟨g, q1, q2, ?_, ?_⟩
  · unfold fX6_commonDivisor jX6_commonDivisor_51
    have p1 : (0 : Int64) < Int64.ofInt u := Int64.lt_iff_toInt_lt.mpr (by rw [iu]; exact hu)
    have p2 : (0 : Int64) < Int64.ofInt d := Int64.lt_iff_toInt_lt.mpr (by rw [id']; exact hd)
    have p3 : ¬ Int64.ofInt g < (1 : Int64) := fun q => by
      have := Int64.lt_iff_toInt_lt.mp q
      rw [km_toInt (by omega) (by omega), show (1 : Int64).toInt = 1 by decide] at this
      omega
    rw [if_pos p1, if_pos p2, kw_let_def, kw_let_def, hx, Option.bind_some, q3, kw_let_def, if_neg p3]
  · unfold fX10_common
    rw [hx', Option.bind_some, q4]
theorem ko_mean {σX σM : kw_M} {a1 : Int32} (hR : kw_Rel σX σM) : ∃ a τX τM, fX9_mean a1 σX = some (a, τX) ∧ fX10_mean a1 σM = some (a, τM) ∧ kw_Rel τX τM := by
  obtain ⟨n, m, o, hok, hsh, hkp, htp, hpr⟩ := hR
  have same : kw_Rel σX σM := ⟨n, m, o, hok, hsh, hkp, htp, hpr⟩
  have h12 := hok.1.2.2.1
  have hlen := km_wf_len hok.1.2.2.2.1 (-1)
  unfold fX9_mean fX10_mean
  rw [km_in, Int32.toInt_toInt64]
  simp only [Option.bind_some, kx_fl_0, show (0 : Int64).toInt = 0 by decide, show (1 : Int64).toInt = 1 by decide, Int32.lt_iff_toInt_lt, show (0 : Int32).toInt = 0 by decide, show (1 : Int32).toInt = 1 by decide]
  by_cases t1 : 0 ≤ a1.toInt ∧ a1.toInt ≤ 1
  case neg =>
    simp only [decide_eq_false t1, kn_ff]
    refine ⟨_, _, _, ?_, rfl, same⟩
    by_cases q : a1.toInt < 0
    · rw [if_pos q]
    · rw [if_neg q, if_pos (by omega)]
  simp only [decide_eq_true t1, kn_tf]
  rw [if_neg (by omega), if_neg (by omega)]
  obtain ⟨τ, e1, e2, e3, e4⟩ := kx_meanAll (σ := kw_sl σX 6 3 0) (F := σM.1 1) (n := n) (m := m) (kx_rd_fr hsh.1 rfl rfl rfl rfl (kw_sl_o (by decide))) hok.1 hok.2.2.2.1 (by rw [kw_sl_2, kw_updL_e])
  obtain ⟨ρ, r1, r2⟩ := km_meanAll (a1 := a1) hok.1 hok.2.2.2.1
  have hmk := kp_ms_ok (n := n) hok.2.2.2.1 hlen h12 n
  unfold fX6_findLeastMean
  rw [kw_let_def, e1, Option.bind_some, r1, Option.bind_some]
  have qx : ∀ τ2 : kw_M, kx_o6 τ τ2 → kx_q σX τ2 (σM.1 1) n m := fun τ2 ho => by
    have hc : ∀ q, q ≠ 6 → q ≠ 43 → q ≠ 44 → τ2.2 q = σX.2 q := fun q h6 h43 h44 => by rw [ho.2 q h6, e4 q h6 h43 h44, kw_sl_o h6]
    have h1 : τ2.1 = σX.1 := ho.1.trans (e3.trans rfl)
    exact ⟨⟨fun c _ => by rw [h1], fun c hcc => hc c (by omega) (by omega) (by omega)⟩, ⟨fun c _ => by rw [h1], fun c hcc => hc c (by omega) (by omega) (by omega)⟩, kx_pr_eq hpr (by rw [h1]) (hc 39 (by decide) (by decide) (by decide)) (fun _ _ _ => rfl)⟩
  cases hmu : kp_ms (km_gr (σM.1 1) m (-1)) n n with
  | none =>
    rw [hmu] at e2
    rw [if_pos (show τ.2 6 3 = 0 from e2), Option.bind_some, if_pos rfl, if_pos (show (km_mu none).1 = 900000000000000000 from rfl)]
    exact ⟨_, _, _, rfl, rfl, kw_Rel_a hok hsh hkp htp (qx τ ⟨rfl, fun _ _ => rfl⟩) (km_q_e r2)⟩
  | some p =>
    rw [hmu] at e2 hmk
    obtain ⟨m1, m2⟩ := e2
    have hp := hmk p rfl
    obtain ⟨g, g1, g2, g3, g4⟩ := kw_common (σX := τ) (σM := ρ) (u := p.1) (d := (p.2 : Int)) hp.1 hp.2.1 (by omega) (by omega)
    have hne : ¬ (km_mu (some p)).1 = 900000000000000000 := fun q => by
      have := congrArg Int64.toInt q
      rw [show (km_mu (some p)).1 = Int64.ofInt p.1 from rfl, km_toInt (by omega) (by omega), km_far] at this
      omega
    have hg0 : ¬ Int64.ofInt g = 0 := by rw [kw_ofI0 (by omega) (by omega)]; omega
    have hd0 : ¬ τ.2 6 3 = 0 := by rw [m2, kw_ofI0 (by omega) (by omega)]; omega
    rw [if_neg hd0, if_neg hne, m1, m2, g3, Option.bind_some, show (km_mu (some p)).1 = Int64.ofInt p.1 from rfl, show (km_mu (some p)).2 = Int64.ofInt (p.2 : Int) from rfl, g4, Option.bind_some]
    simp only [kw_chk_t hg0, kw_let_def, Option.bind_some]
    have rel : kw_Rel (kw_sl (kw_sl τ 6 2 (Int64.ofInt p.1 / Int64.ofInt g)) 6 3 ((kw_sl τ 6 2 (Int64.ofInt p.1 / Int64.ofInt g)).2 6 3 / Int64.ofInt g)) ρ := kw_Rel_a hok hsh hkp htp (qx _ ⟨rfl, fun q hq => by rw [kw_sl_o hq, kw_sl_o hq]⟩) (km_q_e r2)
    rw [if_neg (show ¬ (1 : Int32) = 0 by decide)]
    by_cases q : a1 = 0
    · rw [if_pos q, if_pos q]
      refine ⟨_, _, _, rfl, ?_, rel⟩
      rw [kw_sl_2, kw_updL_n (by decide), kw_sl_2, kw_updL_e]
    · rw [if_neg q, if_neg q]
      refine ⟨_, _, _, rfl, ?_, rel⟩
      rw [kw_sl_2, kw_updL_e, kw_sl_2, kw_updL_n (by decide), m2]
