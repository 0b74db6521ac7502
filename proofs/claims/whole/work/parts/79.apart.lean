/-! Two ways apart: the reference. -/
theorem km_apRound {σ : kw_M} {n m : Nat} {a1 v3 : Int32} {U : Nat → Bool} {d : kr_D} {B : Int} (hw : kb_wf (σ.1 1) n m) (h16 : ∀ r, r < 36 → σ.1 16 r = kx_fl (U r)) (h2 : km_rw σ 2 d) (hd : kr_in d B) (hB : B ≤ 800000000000000) : ∃ τ, kw_loop (fun s => bX10_apartOf_119 a1 v3 s.1 s.2) kw_F ((0 : Int32), σ) = some τ ∧ km_rw τ 2 (kr_rnd (kr_H (km_gr (σ.1 1) m (-1)) U) d m) ∧ kx_oL σ τ 2 := by
  have hm := hw.2.2.2.1.1
  have hlen := kr_H_len (U := U) (km_wf_len hw.2.2.2.1 (-1))
  refine kw_for (body := fun s => bX10_apartOf_119 a1 v3 s.1 s.2) (fun k s => s.1 = nI k ∧ km_rw s.2 2 (kr_rnd (kr_H (km_gr (σ.1 1) m (-1)) U) d k) ∧ kx_oL σ s.2 2) (fun x => km_rw x 2 (kr_rnd (kr_H (km_gr (σ.1 1) m (-1)) U) d m) ∧ kx_oL σ x 2) m (by omega) (s0 := ((0 : Int32), σ)) ⟨rfl, h2, rfl, fun _ _ => rfl⟩ (fun k s hk hp => ?_)
  obtain ⟨v, τ⟩ := s
  obtain ⟨rfl, e3, o1, o2⟩ := hp
  dsimp only at e3 o1 o2 ⊢
  unfold bX10_apartOf_119
  rw [show τ.1 1 1 = nI m by rw [o1]; exact hw.2.2.2.1.2.1]
  by_cases hkm : k < m
  case neg =>
    right
    obtain rfl : k = m := by omega
    rw [if_pos (nI_le (Nat.le_refl k) (by omega))]
    exact ⟨_, rfl, e3, o1, o2⟩
  left
  refine ⟨hkm, ?_⟩
  obtain ⟨hfr, hto, hl1, hl2⟩ := hw.2.2.2.1.2.2 k hkm
  have hu : (kr_H (km_gr (σ.1 1) m (-1)) U).2.2.2.2 k = decide (σ.1 1 (28 + 4 * k + 3) = 1) := by
    show decide (σ.1 1 (28 + 4 * k + 3) = 1 ∧ ¬ nI k = -1) = _
    rw [decide_eq_decide]
    exact ⟨fun q => q.1, fun q => ⟨q, kb_neg1 (by omega)⟩⟩
  have hin : kr_in (kr_rnd (kr_H (km_gr (σ.1 1) m (-1)) U) d k) 900000000000000 := by
    refine kr_in_mono (kr_in_rnd hd (by decide) hlen k (by show k ≤ m; omega)) ?_
    have : (k : Int) ≤ 36 := by omega
    omega
  have hbd := fun t => kr_bd_in hin (by decide) t
  have es : kr_rnd (kr_H (km_gr (σ.1 1) m (-1)) U) d (k + 1) = kr_rlx (kr_H (km_gr (σ.1 1) m (-1)) U) (kr_rnd (kr_H (km_gr (σ.1 1) m (-1)) U) d k) k := rfl
  -- from a to b by L
  have go : ∀ (A Bt : Int32) (L : Int32), kw_in A 12 → kw_in Bt 12 → -1000000000 ≤ L.toInt ∧ L.toInt ≤ 1000000000 → A.toNatClampNeg = (kr_H (km_gr (σ.1 1) m (-1)) U).2.1 k → Bt.toNatClampNeg = (kr_H (km_gr (σ.1 1) m (-1)) U).2.2.1 k → L.toInt = (kr_H (km_gr (σ.1 1) m (-1)) U).2.2.2.1 k → ∃ t, (kw_chk (kw_in A 12) (if τ.2 2 A.toNatClampNeg = 900000000000000000 then kw_let (nI k + 1) fun x47 => some (Sum.inl (x47, τ)) else jX10_apartOf_252_L119 a1 v3 (nI k) Bt L (τ.2 2 A.toNatClampNeg) τ)) = some (Sum.inl t) ∧ t.1 = nI (k + 1) ∧ km_rw t.2 2 (kr_lw (kr_rnd (kr_H (km_gr (σ.1 1) m (-1)) U) d k) ((kr_H (km_gr (σ.1 1) m (-1)) U).2.2.1 k) (kr_by (kr_H (km_gr (σ.1 1) m (-1)) U) (kr_rnd (kr_H (km_gr (σ.1 1) m (-1)) U) d k) k)) ∧ kx_oL σ t.2 2 := fun A Bt L hA hBt hL eA eB eL => by
    unfold jX10_apartOf_252_L119
    rw [kw_chk_t hA]
    simp only [kw_let_def, km_next, kw_chk_t hBt]
    rw [e3 _ (kw_in_lt hA), e3 _ (kw_in_lt hBt)]
    simp only [km_enc_e (hbd _)]
    have hby : kr_by (kr_H (km_gr (σ.1 1) m (-1)) U) (kr_rnd (kr_H (km_gr (σ.1 1) m (-1)) U) d k) k = kr_plus (kr_rnd (kr_H (km_gr (σ.1 1) m (-1)) U) d k A.toNatClampNeg) (some L.toInt) := by
      unfold kr_by
      rw [← eA, ← eL]
    rw [hby, ← eB]
    cases hq : kr_rnd (kr_H (km_gr (σ.1 1) m (-1)) U) d k A.toNatClampNeg with
    | none =>
      rw [if_pos rfl, show kr_plus none (some L.toInt) = none from rfl, kr_ls_lw rfl]
      exact ⟨_, rfl, rfl, e3, o1, o2⟩
    | some z =>
      have hz := hin _ _ hq
      rw [if_neg (by simp), show km_enc (some z) = Int64.ofInt z from rfl, km_add (by omega) (by omega), show kr_plus (some z) (some L.toInt) = some (z + L.toInt) from rfl]
      have bz : kr_bd (some (z + L.toInt)) := fun w hw => by cases hw; omega
      simp only [show Int64.ofInt (z + L.toInt) = km_enc (some (z + L.toInt)) from rfl, km_enc_le (hbd _) bz]
      cases hl : kr_ls (some (z + L.toInt)) (kr_rnd (kr_H (km_gr (σ.1 1) m (-1)) U) d k Bt.toNatClampNeg) with
      | false =>
        rw [kn_ff, kr_ls_lw hl]
        exact ⟨_, rfl, rfl, e3, o1, o2⟩
      | true =>
        rw [kn_tf]
        refine ⟨_, rfl, rfl, fun q hq' => ?_, o1, fun q hq' => (kw_sl_o hq').trans (o2 q hq')⟩
        dsimp only
        rw [kw_sl_2]
        unfold kr_lw
        by_cases e : q = Bt.toNatClampNeg
        · rw [if_pos e, e, kw_updL_e]
          unfold kr_mn
          rw [hl, kn_tt]
        · rw [kw_updL_n e, if_neg e]
          exact e3 q hq'
  have h16k : τ.1 16 k = kx_fl (U k) := by rw [o1]; exact h16 k (by omega)
  unfold jX10_apartOf_169_L119 jX10_apartOf_198_L119
  rw [if_neg (nI_ge hkm (by omega)), km_isOpen (by omega), Option.bind_some, km_of0 (by omega), km_of1 (by omega), km_of2 (by omega), es, kr_rlx_lw, hu]
  simp (disch := omega) only [Option.bind_some, kn_chk, kn_clamp, h16k, kx_fl_0, o1]
  by_cases ho : σ.1 1 (28 + 4 * k + 3) = 1
  · rw [if_pos ho, if_neg (show ¬ (1 : Int32) = 0 by decide), decide_eq_true ho, kn_tt]
    cases hU : U k with
    | false =>
      simp only [kn_ff]
      refine go (σ.1 1 (28 + 4 * k + 0)) (σ.1 1 (28 + 4 * k + 1)) (σ.1 1 (28 + 4 * k + 2)) hfr hto ⟨hl1, hl2⟩ ?_ ?_ ?_
      · show _ = (if U k = true then _ else _); rw [hU, kn_ft]; rfl
      · show _ = (if U k = true then _ else _); rw [hU, kn_ft]; rfl
      · show _ = (if U k = true then _ else _); rw [hU, kn_ft]; rfl
    | true =>
      simp only [kn_tf]
      have eneg : (-σ.1 1 (28 + 4 * k + 2)).toInt = -(σ.1 1 (28 + 4 * k + 2)).toInt := Jvm.Kit.i32_neg (by omega)
      refine go (σ.1 1 (28 + 4 * k + 1)) (σ.1 1 (28 + 4 * k + 0)) (-σ.1 1 (28 + 4 * k + 2)) hto hfr (by rw [eneg]; omega) ?_ ?_ ?_
      · show _ = (if U k = true then _ else _); rw [hU, kn_tt]; rfl
      · show _ = (if U k = true then _ else _); rw [hU, kn_tt]; rfl
      · show _ = (if U k = true then _ else _); rw [hU, kn_tt]; exact eneg
  · rw [if_neg ho, if_pos rfl, decide_eq_false ho, kn_ft, kw_let_def, km_next]
    exact ⟨_, rfl, rfl, e3, o1, o2⟩
theorem km_apart {σ : kw_M} {n m o t : Nat} (hok : kb_ok (σ.1 1) n m o) (ht : t < n) (hrow : ∀ t, t < 12 → σ.2 3 t = km_enc (kb_D (σ.1 1) n m o t)) : ∃ v τ, fX10_apartOf (nI t) σ = some (km_enc v, τ) ∧ kr_bd v ∧ (∀ c, c ≠ 8 → c ≠ 16 → τ.1 c = σ.1 c) ∧ (kb_D (σ.1 1) n m o t = none → v = none) ∧ (kb_D (σ.1 1) n m o t ≠ none → t = o → v = some 0) ∧ (kb_D (σ.1 1) n m o t ≠ none → t ≠ o → ∃ N, N < n ∧ kr_N (km_gr (σ.1 1) m (-1)) (kb_D (σ.1 1) n m o) o t N ∧ v = kr_plus (kb_D (σ.1 1) n m o t) (kb_ap (σ.1 1) n m o t N t)) := by
  have h2 := hok.1.2.1
  have h12 := hok.1.2.2.1
  have hm := hok.1.2.2.2.1.1
  have hon := hok.2.2.1
  unfold fX10_apartOf
  by_cases hz : kb_D (σ.1 1) n m o t = none
  · rw [km_goesBack_no (d := kb_D (σ.1 1) n m o) (by omega) (hrow t (by omega)) hz, Option.bind_some, if_pos rfl]
    exact ⟨none, _, rfl, kr_bd_none, fun _ _ _ => rfl, fun _ => rfl, fun q => absurd hz q, fun q => absurd hz q⟩
  obtain ⟨N, hN, hNN⟩ := kb_N hok ht hz
  obtain ⟨ρ, b1, b2, b3, b4⟩ := km_goesBack (σ := σ) hok.1 hok.2.1 hon ht hrow (kb_row hok) hz (by omega) hNN
  rw [b1, Option.bind_some, if_neg (kb_neg1 (show N < 2147483648 by omega))]
  dsimp only
  simp only [kn_e0 (show N < 2147483648 by omega)]
  by_cases h0 : N = 0
  · subst h0
    rw [if_pos rfl]
    have eto : t = o := hNN.1
    exact ⟨some 0, _, rfl, fun z hz' => by cases hz'; omega, fun c hc _ => b3 c hc, fun q => absurd q hz, fun _ _ => rfl, fun _ q => absurd eto q⟩
  rw [if_neg h0]
  have hto : t ≠ o := (hNN.2 0 (by omega)).1
  have hRm : ∀ i, i < N → kr_rn (km_gr (σ.1 1) m (-1)) (kb_D (σ.1 1) n m o) t i < m := fun i hi => (kr_rn_rb hNN hi).2
  obtain ⟨ρ1, hρ1, c1, c2, c3⟩ := kw_for (body := fun s => bX10_apartOf_23 (nI t) (nI N) s.1 s.2) (fun k s => s.1 = nI k ∧ (∀ r, r < k → s.2.1 16 r = 0) ∧ s.2.2 = ρ.2 ∧ ∀ c, c ≠ 16 → s.2.1 c = ρ.1 c) (fun x => (∀ r, r < 36 → x.1 16 r = 0) ∧ x.2 = ρ.2 ∧ ∀ c, c ≠ 16 → x.1 c = ρ.1 c) 36 (by decide) (s0 := ((0 : Int32), ρ)) ⟨rfl, fun r hr => absurd hr (Nat.not_lt_zero _), rfl, fun _ _ => rfl⟩ (fun k s hk hp => by
    obtain ⟨v, τ⟩ := s
    obtain ⟨rfl, h1, o2, o1⟩ := hp
    dsimp only at h1 o1 o2 ⊢
    unfold bX10_apartOf_23
    by_cases hk2 : k < 36
    case neg =>
      right
      obtain rfl : k = 36 := by omega
      rw [if_pos (by decide)]
      exact ⟨_, rfl, h1, o2, o1⟩
    left
    refine ⟨hk2, ?_⟩
    rw [kn_36, if_neg (nI_ge hk2 (by decide))]
    simp (disch := omega) only [kn_chk, kn_clamp, kw_let_def, km_next, show vp_nar .boolean (0 : Int32) = 0 from rfl]
    refine ⟨_, rfl, rfl, fun u hu => ?_, o2, fun q hq => (kw_si_o hq).trans (o1 q hq)⟩
    dsimp only
    rw [kw_si_1]
    by_cases e : u = k
    · rw [e, kw_upd_e]
    · rw [kw_upd_n e]; exact h1 u (by omega))
  obtain ⟨ρ2, hρ2, d1, d2, d3⟩ := kw_for (body := fun s => bX10_apartOf_44 (nI t) (nI N) s.1 s.2) (fun k s => s.1 = nI k ∧ (∀ r, r < 36 → s.2.1 16 r = kx_fl (kr_anyTo (fun i => decide (kr_rn (km_gr (σ.1 1) m (-1)) (kb_D (σ.1 1) n m o) t i = r)) k)) ∧ s.2.2 = ρ.2 ∧ ∀ c, c ≠ 16 → s.2.1 c = ρ.1 c) (fun x => (∀ r, r < 36 → x.1 16 r = kx_fl (kr_used (km_gr (σ.1 1) m (-1)) (kb_D (σ.1 1) n m o) t N r)) ∧ x.2 = ρ.2 ∧ ∀ c, c ≠ 16 → x.1 c = ρ.1 c) N (by omega) (s0 := ((0 : Int32), ρ1)) ⟨rfl, fun r hr => c1 r hr, c2, c3⟩ (fun k s hk hp => by
    obtain ⟨v, τ⟩ := s
    obtain ⟨rfl, h1, o2, o1⟩ := hp
    dsimp only at h1 o1 o2 ⊢
    unfold bX10_apartOf_44
    by_cases hk2 : k < N
    case neg =>
      right
      obtain rfl : k = N := by omega
      rw [if_pos (nI_le (Nat.le_refl k) (by omega))]
      exact ⟨_, rfl, h1, o2, o1⟩
    left
    refine ⟨hk2, ?_⟩
    have hrk := hRm k hk2
    have h8 : τ.1 8 k = nI (kr_rn (km_gr (σ.1 1) m (-1)) (kb_D (σ.1 1) n m o) t k) := by rw [o1 8 (by decide), b4 k hk2]; exact (kr_rn_rb hNN hk2).1
    rw [if_neg (nI_ge hk2 (by omega))]
    simp (disch := omega) only [kn_chk, kn_clamp, h8, kw_let_def, km_next, show vp_nar .boolean (1 : Int32) = 1 from rfl]
    refine ⟨_, rfl, rfl, fun u hu => ?_, o2, fun q hq => (kw_si_o hq).trans (o1 q hq)⟩
    dsimp only
    rw [kw_si_1]
    show _ = kx_fl (kr_anyTo (fun i => decide (kr_rn (km_gr (σ.1 1) m (-1)) (kb_D (σ.1 1) n m o) t i = u)) k || decide (kr_rn (km_gr (σ.1 1) m (-1)) (kb_D (σ.1 1) n m o) t k = u))
    by_cases e : u = kr_rn (km_gr (σ.1 1) m (-1)) (kb_D (σ.1 1) n m o) t k
    · rw [e, kw_upd_e, decide_eq_true rfl, Bool.or_true]; rfl
    · rw [kw_upd_n e, decide_eq_false (fun q => e q.symm), Bool.or_false]
      exact h1 u hu)
  have e1 : ρ2.1 1 = σ.1 1 := by rw [d3 1 (by decide), b3 1 (by decide)]
  obtain ⟨ρ3, hρ3, f1, f2, f3⟩ := kw_for (body := fun s => bX10_apartOf_69 (nI t) s.1 s.2) (fun k s => s.1 = nI k ∧ (∀ u, u < k → s.2.2 2 u = km_enc (kr_one o u)) ∧ kx_oL ρ2 s.2 2) (fun x => km_rw x 2 (kr_one o) ∧ kx_oL ρ2 x 2) 12 (by decide) (s0 := ((0 : Int32), ρ2)) ⟨rfl, fun u hu => absurd hu (Nat.not_lt_zero _), rfl, fun _ _ => rfl⟩ (fun k s hk hp => by
    obtain ⟨v, τ⟩ := s
    obtain ⟨rfl, h1, o1, o2⟩ := hp
    dsimp only at h1 o1 o2 ⊢
    unfold bX10_apartOf_69
    by_cases hk2 : k < 12
    case neg =>
      right
      obtain rfl : k = 12 := by omega
      rw [if_pos (by decide)]
      exact ⟨_, rfl, h1, o1, o2⟩
    left
    refine ⟨hk2, ?_⟩
    rw [kn_12, if_neg (nI_ge hk2 (by decide)), o1, e1, hok.2.1]
    simp (disch := omega) only [kn_eq, kn_chk, kn_clamp, kw_let_def, km_next]
    have fin : ∀ v : Int64, v = km_enc (kr_one o k) → ∃ t, (some (Sum.inl (nI (k + 1), kw_sl τ 2 k v)) : Option ((Int32 × kw_M) ⊕ kw_M)) = some (Sum.inl t) ∧ t.1 = nI (k + 1) ∧ (∀ u, u < k + 1 → t.2.2 2 u = km_enc (kr_one o u)) ∧ kx_oL ρ2 t.2 2 := fun v hv => by
      refine ⟨_, rfl, rfl, fun u hu => ?_, o1, fun q hq => (kw_sl_o hq).trans (o2 q hq)⟩
      dsimp only
      rw [kw_sl_2]
      by_cases e : u = k
      · rw [e, kw_updL_e, hv]
      · rw [kw_updL_n e]; exact h1 u (by omega)
    by_cases e : k = o
    · rw [if_pos e]
      exact fin 0 (by unfold kr_one; rw [if_pos e]; rfl)
    · rw [if_neg e]
      exact fin _ (by unfold kr_one; rw [if_neg e]; rfl))
  obtain ⟨ρ4, hρ4, g1, g2, g3⟩ := kw_for (body := fun s => bX10_apartOf_106 (nI t) s.1 s.2) (fun k s => s.1 = nI (1 + k) ∧ km_rw s.2 2 (kr_bf (kr_H (km_gr (σ.1 1) m (-1)) (kr_used (km_gr (σ.1 1) m (-1)) (kb_D (σ.1 1) n m o) t N)) (kr_one o) k) ∧ kx_oL ρ2 s.2 2) (fun x => km_rw x 2 (kr_bf (kr_H (km_gr (σ.1 1) m (-1)) (kr_used (km_gr (σ.1 1) m (-1)) (kb_D (σ.1 1) n m o) t N)) (kr_one o) (n - 1 + n)) ∧ kx_oL ρ2 x 2) (n - 1 + n) (by omega) (s0 := ((1 : Int32), ρ3)) ⟨rfl, f1, f2, f3⟩ (fun k s hk hp => by
    obtain ⟨v, τ⟩ := s
    obtain ⟨rfl, h1, o1, o2⟩ := hp
    dsimp only at h1 o1 o2 ⊢
    unfold bX10_apartOf_106 fX10_towns
    rw [o1, e1, hok.1.1, Option.bind_some, kn_2, kn_mul]
    by_cases hk2 : k < n - 1 + n
    case neg =>
      right
      obtain rfl : k = n - 1 + n := by omega
      rw [if_pos (nI_le (by omega) (by omega))]
      exact ⟨_, rfl, h1, o1, o2⟩
    left
    refine ⟨hk2, ?_⟩
    have hin := kb_ap_in (U := kr_used (km_gr (σ.1 1) m (-1)) (kb_D (σ.1 1) n m o) t N) hok (show k ≤ 24 by omega)
    obtain ⟨τ2, s1, s2, s3, s4⟩ := km_apRound (σ := τ) (n := n) (m := m) (a1 := nI t) (v3 := nI (1 + k)) (U := kr_used (km_gr (σ.1 1) m (-1)) (kb_D (σ.1 1) n m o) t N) (by rw [o1, e1]; exact hok.1) (fun r hr => by rw [o1]; exact d1 r hr) h1 hin (by decide)
    rw [o1, e1] at s2
    rw [if_neg (nI_ge (by omega) (by omega)), s1, Option.bind_some, kw_let_def, km_next]
    exact ⟨_, rfl, rfl, s2, s3.trans o1, fun q hq => (s4 q hq).trans (o2 q hq)⟩)
  rw [kb_ap_all hok hNN n] at g1
  have bap : kr_bd (kb_ap (σ.1 1) n m o t N t) := kr_bd_in (kb_ap_in (U := kr_used (km_gr (σ.1 1) m (-1)) (kb_D (σ.1 1) n m o) t N) hok (show n - 1 ≤ 24 by omega)) (by decide) t
  have r3 : ρ4.2 3 t = km_enc (kb_D (σ.1 1) n m o t) := by rw [g3 3 (by decide), d2, b2]; exact hrow t (by omega)
  have hD := kb_row hok
  rw [hρ1, Option.bind_some, hρ2, Option.bind_some, hρ3, Option.bind_some, hρ4, Option.bind_some, kn_chk (by omega) (by decide), kn_clamp (by omega), g1 t (by omega), r3]
  simp only [km_enc_e bap]
  refine ⟨kr_plus (kb_D (σ.1 1) n m o t) (kb_ap (σ.1 1) n m o t N t), ρ4, ?_, ?_, fun c h8 h16 => by rw [g2, d3 c h16]; exact b3 c h8, fun q => absurd q hz, fun _ q => absurd q hto, fun _ _ => ⟨N, hN, hNN, rfl⟩⟩
  · cases hq : kb_D (σ.1 1) n m o t with
    | none => exact absurd hq hz
    | some x =>
      have hx := hD t x hq
      cases hq2 : kb_ap (σ.1 1) n m o t N t with
      | none => rw [if_pos rfl]; rfl
      | some y =>
        have hy := bap y hq2
        have hy2 := kb_ap_in (U := kr_used (km_gr (σ.1 1) m (-1)) (kb_D (σ.1 1) n m o) t N) hok (show n - 1 ≤ 24 by omega) t y hq2
        rw [if_neg (by simp), show km_enc (some x) = Int64.ofInt x from rfl, show km_enc (some y) = Int64.ofInt y from rfl, kw_addL (by omega) (by omega) (by omega) (by omega)]
        rfl
  · intro z hz'
    cases hq : kb_D (σ.1 1) n m o t with
    | none => exact absurd hq hz
    | some x =>
      have hx := hD t x hq
      cases hq2 : kb_ap (σ.1 1) n m o t N t with
      | none => rw [hq, hq2] at hz'; cases hz'
      | some y =>
        have hy2 := kb_ap_in (U := kr_used (km_gr (σ.1 1) m (-1)) (kb_D (σ.1 1) n m o) t N) hok (show n - 1 ≤ 24 by omega) t y hq2
        rw [hq, hq2] at hz'
        cases hz'
        omega
