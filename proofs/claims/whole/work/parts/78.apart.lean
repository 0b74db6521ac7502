/-! Two ways apart: the class. -/
theorem kr_used_iff {g : kr_G} {d : kr_D} {t N r : Nat} : kr_used g d t N r = true ↔ ∃ k, k < N ∧ kr_rn g d t k = r := by
  constructor
  · intro hu
    refine Decidable.byContradiction fun hc => ?_
    unfold kr_used at hu
    rw [kr_anyTo_f N (fun k hk => decide_eq_false (fun e => hc ⟨k, hk, e⟩))] at hu
    cases hu
  · rintro ⟨k, hk, e⟩
    exact kr_anyTo_t N k hk (decide_eq_true e)
theorem kw_neg64 {x : Int32} (h1 : -1000000000 ≤ x.toInt) (h2 : x.toInt ≤ 1000000000) : (-x).toInt64 = Int64.ofInt (-x.toInt) := by
  rw [kw_64of, Jvm.Kit.i32_neg (by omega)]
theorem kx_stepApart {σ : kw_M} {F : Nat → Int32} {n m : Nat} {U : Nat → Bool} {w : Int64} {d : kr_D} {B : Int} (hrd : kx_rd σ 12 F m) (hw : kb_wf F n m) (hb : ∀ r, r < m → kw_bL w r = U r) (h43 : kx_rw σ 43 d) (hd : kr_in d B) (hB : B ≤ 800000000000000) : ∃ b τ, fX6_stepApart w σ = some (kx_fl b, τ) ∧ kx_rw τ 43 (kr_rnd (kr_H (km_gr F m (-1)) U) d m) ∧ kx_oL σ τ 43 ∧ (b = false → kr_rnd (kr_H (km_gr F m (-1)) U) d m = d) := by
  have hm := hw.2.2.2.1.1
  have hlen := kr_H_len (U := U) (km_wf_len hw.2.2.2.1 (-1))
  obtain ⟨x, hx, b, e1, e2, e3, e4⟩ := kw_for (body := fun s => bX6_stepApart_6 w s.1 s.2.1 s.2.2) (fun k s => ∃ b : Bool, s.1 = kx_fl b ∧ s.2.1 = nI k ∧ kx_rw s.2.2 43 (kr_rnd (kr_H (km_gr F m (-1)) U) d k) ∧ kx_oL σ s.2.2 43 ∧ (b = false → kr_rnd (kr_H (km_gr F m (-1)) U) d k = d)) (fun x => ∃ b : Bool, x.1 = kx_fl b ∧ kx_rw x.2 43 (kr_rnd (kr_H (km_gr F m (-1)) U) d m) ∧ kx_oL σ x.2 43 ∧ (b = false → kr_rnd (kr_H (km_gr F m (-1)) U) d m = d)) m (by omega) (s0 := ((0 : Int32), (0 : Int32), σ)) ⟨false, rfl, rfl, h43, ⟨rfl, fun _ _ => rfl⟩, fun _ => rfl⟩ (fun k s hk hp => by
    obtain ⟨v3, v4, τ⟩ := s
    obtain ⟨b, e1, e2, e3, ⟨o1, o2⟩, e5⟩ := hp
    dsimp only at e1 e2 e3 o1 o2 e5 ⊢
    subst e1 e2
    unfold bX6_stepApart_6
    rw [show τ.1 12 1 = nI m by rw [o1]; exact hrd.2.1.trans hw.2.2.2.1.2.1]
    by_cases hkm : k < m
    case neg =>
      right
      obtain rfl : k = m := by omega
      rw [if_pos (nI_le (Nat.le_refl k) (by omega))]
      exact ⟨_, rfl, b, rfl, e3, ⟨o1, o2⟩, e5⟩
    left
    refine ⟨hkm, ?_⟩
    have hrdτ : kx_rd τ 12 F m := kx_rd_fr hrd (by rw [o1]) (by rw [o1]) (by rw [o1]) (by rw [o1]) (o2 12 (by decide))
    obtain ⟨hfr, hto, hl1, hl2⟩ := hw.2.2.2.1.2.2 k hkm
    obtain ⟨x18, x19, x20⟩ := hrdτ.2.2.1 k hkm
    have f18 : τ.1 18 k = F (28 + 4 * k + 0) := x18
    have f19 : τ.1 19 k = F (28 + 4 * k + 1) := x19
    have f20 : τ.1 20 k = F (28 + 4 * k + 2) := x20
    have n18 : F (28 + 4 * k + 0) = nI (F (28 + 4 * k + 0)).toNatClampNeg := kw_in_nI_of hfr (by decide)
    have n19 : F (28 + 4 * k + 1) = nI (F (28 + 4 * k + 1)).toNatClampNeg := kw_in_nI_of hto (by decide)
    have hu : (kr_H (km_gr F m (-1)) U).2.2.2.2 k = decide (F (28 + 4 * k + 3) = 1) := by
      show decide (F (28 + 4 * k + 3) = 1 ∧ ¬ nI k = -1) = _
      rw [decide_eq_decide]
      exact ⟨fun q => q.1, fun q => ⟨q, kb_neg1 (by omega)⟩⟩
    have hin : kr_in (kr_rnd (kr_H (km_gr F m (-1)) U) d k) 900000000000000 := by
      refine kr_in_mono (kr_in_rnd hd (by decide) hlen k (by show k ≤ m; omega)) ?_
      have : (k : Int) ≤ 36 := by omega
      omega
    have hbd := fun t => kr_bd_in hin (by decide) t
    have es : kr_rnd (kr_H (km_gr F m (-1)) U) d (k + 1) = kr_rlx (kr_H (km_gr F m (-1)) U) (kr_rnd (kr_H (km_gr F m (-1)) U) d k) k := rfl
    rw [if_neg (nI_ge hkm (by omega)), kx_isOpenR hrdτ hw.2.2.2.1 hkm, Option.bind_some, es, kr_rlx_lw, hu]
    simp only [kx_fl_0, kw_let_def, km_next, kw_dnL (show k < 36 by omega), hb k hkm]
    by_cases ho : F (28 + 4 * k + 3) = 1
    · rw [decide_eq_true ho, kn_tf, kn_tt]
      have bby : kr_bd (kr_by (kr_H (km_gr F m (-1)) U) (kr_rnd (kr_H (km_gr F m (-1)) U) d k) k) := fun z hz => by
        have := kr_by_in hin (hlen k hkm) z hz
        omega
      have fin : ∀ (tt : Nat) (τ2 : kw_M), tt = (kr_H (km_gr F m (-1)) U).2.2.1 k → kx_rw τ2 43 (kr_lw (kr_rnd (kr_H (km_gr F m (-1)) U) d k) tt (kr_by (kr_H (km_gr F m (-1)) U) (kr_rnd (kr_H (km_gr F m (-1)) U) d k) k)) → kx_oL τ τ2 43 → ∃ t, (some (Sum.inl (kx_fl b ||| kx_fl (kr_ls (kr_by (kr_H (km_gr F m (-1)) U) (kr_rnd (kr_H (km_gr F m (-1)) U) d k) k) (kr_rnd (kr_H (km_gr F m (-1)) U) d k tt)), nI (k + 1), τ2)) : Option ((Int32 × Int32 × kw_M) ⊕ (Int32 × kw_M))) = some (Sum.inl t) ∧ ∃ b : Bool, t.1 = kx_fl b ∧ t.2.1 = nI (k + 1) ∧ kx_rw t.2.2 43 (kr_lw (kr_rnd (kr_H (km_gr F m (-1)) U) d k) ((kr_H (km_gr F m (-1)) U).2.2.1 k) (kr_by (kr_H (km_gr F m (-1)) U) (kr_rnd (kr_H (km_gr F m (-1)) U) d k) k)) ∧ kx_oL σ t.2.2 43 ∧ (b = false → kr_lw (kr_rnd (kr_H (km_gr F m (-1)) U) d k) ((kr_H (km_gr F m (-1)) U).2.2.1 k) (kr_by (kr_H (km_gr F m (-1)) U) (kr_rnd (kr_H (km_gr F m (-1)) U) d k) k) = d) := fun tt τ2 htt l2 l3 => by
        subst htt
        rw [kx_or]
        refine ⟨_, rfl, _, rfl, rfl, l2, ⟨l3.1.trans o1, fun q hq => (l3.2 q hq).trans (o2 q hq)⟩, fun q => ?_⟩
        obtain ⟨q1, q2⟩ : b = false ∧ kr_ls (kr_by (kr_H (km_gr F m (-1)) U) (kr_rnd (kr_H (km_gr F m (-1)) U) d k) k) (kr_rnd (kr_H (km_gr F m (-1)) U) d k ((kr_H (km_gr F m (-1)) U).2.2.1 k)) = false := by
          revert q
          cases b <;> cases kr_ls (kr_by (kr_H (km_gr F m (-1)) U) (kr_rnd (kr_H (km_gr F m (-1)) U) d k) k) (kr_rnd (kr_H (km_gr F m (-1)) U) d k ((kr_H (km_gr F m (-1)) U).2.2.1 k)) <;> simp
        rw [kr_ls_lw q2]
        exact e5 q1
      cases hU : U k with
      | false =>
        have hby : kr_by (kr_H (km_gr F m (-1)) U) (kr_rnd (kr_H (km_gr F m (-1)) U) d k) k = kr_plus (kr_rnd (kr_H (km_gr F m (-1)) U) d k (F (28 + 4 * k + 0)).toNatClampNeg) (some (F (28 + 4 * k + 2)).toInt) := by
          show kr_plus (kr_rnd (kr_H (km_gr F m (-1)) U) d k (if U k = true then _ else _)) (some (if U k = true then _ else _)) = _
          rw [hU, kn_ft, kn_ft]
          rfl
        have htt : (F (28 + 4 * k + 1)).toNatClampNeg = (kr_H (km_gr F m (-1)) U).2.2.1 k := by
          show _ = (if U k = true then _ else _)
          rw [hU, kn_ft]
          rfl
        obtain ⟨τ2, l1, l2, l3⟩ := kx_lower (x := kr_by (kr_H (km_gr F m (-1)) U) (kr_rnd (kr_H (km_gr F m (-1)) U) d k) k) e3 (kw_in_lt hto) (hbd _) bby
        rw [kn_ff, kn_chk (by omega) (by decide), kn_clamp (by omega), f18, f19, f20, kw_chk_t hfr, e3 _ (kw_in_lt hfr), kx_enc32, kx_joined (hbd _) (kr_bd32 _), Option.bind_some, ← hby, n19, l1, Option.bind_some]
        exact fin _ τ2 htt l2 l3
      | true =>
        have hby : kr_by (kr_H (km_gr F m (-1)) U) (kr_rnd (kr_H (km_gr F m (-1)) U) d k) k = kr_plus (kr_rnd (kr_H (km_gr F m (-1)) U) d k (F (28 + 4 * k + 1)).toNatClampNeg) (some (-(F (28 + 4 * k + 2)).toInt)) := by
          show kr_plus (kr_rnd (kr_H (km_gr F m (-1)) U) d k (if U k = true then _ else _)) (some (if U k = true then _ else _)) = _
          rw [hU, kn_tt, kn_tt]
          rfl
        have htt : (F (28 + 4 * k + 0)).toNatClampNeg = (kr_H (km_gr F m (-1)) U).2.2.1 k := by
          show _ = (if U k = true then _ else _)
          rw [hU, kn_tt]
          rfl
        have bneg : kr_bd (some (-(F (28 + 4 * k + 2)).toInt)) := fun z hz => by cases hz; omega
        obtain ⟨τ2, l1, l2, l3⟩ := kx_lower (x := kr_by (kr_H (km_gr F m (-1)) U) (kr_rnd (kr_H (km_gr F m (-1)) U) d k) k) e3 (kw_in_lt hfr) (hbd _) bby
        rw [kn_tf, kn_chk (by omega) (by decide), kn_clamp (by omega), f18, f19, f20, kw_chk_t hto, e3 _ (kw_in_lt hto), kw_neg64 hl1 hl2, show Int64.ofInt (-(F (28 + 4 * k + 2)).toInt) = kx_enc (some (-(F (28 + 4 * k + 2)).toInt)) from rfl, kx_joined (hbd _) bneg, Option.bind_some, ← hby, n18, l1, Option.bind_some]
        exact fin _ τ2 htt l2 l3
    · rw [decide_eq_false ho, kn_ff, kn_ft]
      exact ⟨_, rfl, b, rfl, rfl, e3, ⟨o1, o2⟩, e5⟩)
  unfold fX6_stepApart
  rw [hx, Option.bind_some, e1, kn_chkB]
  exact ⟨b, x.2, rfl, e2, e3, e4⟩
/-- the second way's row -/
def kb_ap (F : Nat → Int32) (n m o t N : Nat) : kr_D := kr_bf (kr_H (km_gr F m (-1)) (kr_used (km_gr F m (-1)) (kb_D F n m o) t N)) (kr_one o) (n - 1)
theorem kb_ap_all {F : Nat → Int32} {n m o t N : Nat} (hok : kb_ok F n m o) (h : kr_N (km_gr F m (-1)) (kb_D F n m o) o t N) (j : Nat) : kr_bf (kr_H (km_gr F m (-1)) (kr_used (km_gr F m (-1)) (kb_D F n m o) t N)) (kr_one o) (n - 1 + j) = kb_ap F n m o t N :=
  kr_bf_all0 (kr_H_good0 hok.2.2.2.1 (kb_tn hok.1 (-1)) hok.2.2.1 (fun r _ hu => kr_used_tight h hu)) (kr_H_tn (kb_tn hok.1 (-1))) hok.2.2.1 j
theorem kb_ap_in {F : Nat → Int32} {n m o : Nat} {U : Nat → Bool} (hok : kb_ok F n m o) {i : Nat} (hi : i ≤ 24) : kr_in (kr_bf (kr_H (km_gr F m (-1)) U) (kr_one o) i) 864000000000 := by
  refine kr_in_mono (km_bf_in (g := kr_H (km_gr F m (-1)) U) (o := o) hok.1.2.2.2.1.1 (kr_H_len (km_wf_len hok.1.2.2.2.1 (-1))) i) ?_
  have : (i : Int) ≤ 24 := by omega
  omega
theorem kx_apart {σ : kw_M} {F : Nat → Int32} {n m o t N : Nat} (hok : kb_ok F n m o) (hsh : kx_sh σ 1 12 F n m o) (ht : t < n) (hN : N < n) (h : kr_N (km_gr F m (-1)) (kb_D F n m o) o t N) : ∃ τ, fX6_twoApart (nI t) σ = some (kx_enc (kr_plus (kb_D F n m o t) (kb_ap F n m o t N t)), τ) ∧ (∀ c, c ≠ 42 → τ.1 c = σ.1 c) ∧ ∀ c, c ≠ 43 → τ.2 c = σ.2 c := by
  have h2 := hok.1.2.1
  have h12 := hok.1.2.2.1
  have hm := hok.1.2.2.2.1.1
  have hon := hok.2.2.1
  have hnX : σ.1 12 0 = nI n := hsh.1.1.trans hok.1.1
  have hoX : σ.1 1 2 = nI o := hsh.2.1.1.trans hok.2.1
  obtain ⟨τ, a1, a2, a3, a4⟩ := kx_findWay hok hsh ht (by omega) h
  have a1' : fX6_findWay (nI t) σ = some (nI N, τ) := by
    unfold fX9_findWay at a1
    cases hq : fX6_findWay (nI t) σ with
    | none => rw [hq] at a1; cases a1
    | some x =>
      rw [hq, Option.bind_some] at a1
      rw [← a1]
  obtain ⟨w, hw1, hw2⟩ := kw_for (body := fun s => bX6_twoApart_19 (nI t) (nI N) τ s.1 s.2) (fun k s => s.2 = nI k ∧ ∀ i, i < 64 → (kw_bL s.1 i = true ↔ ∃ j, j < k ∧ kr_rn (km_gr F m (-1)) (kb_D F n m o) t (N - 1 - j) = i)) (fun x => ∀ i, i < 64 → (kw_bL x i = true ↔ ∃ j, j < N ∧ kr_rn (km_gr F m (-1)) (kb_D F n m o) t (N - 1 - j) = i)) N (by omega) (s0 := ((0 : Int64), (0 : Int32))) ⟨rfl, fun i _ => ⟨fun q => absurd ((kw_bL_0 i).symm.trans q) (by decide), fun ⟨j, hj, _⟩ => absurd hj (Nat.not_lt_zero _)⟩⟩ (fun k s hk hp => by
    obtain ⟨v, v7⟩ := s
    obtain ⟨rfl, hb⟩ := hp
    dsimp only at hb ⊢
    unfold bX6_twoApart_19
    by_cases hkN : k < N
    case neg =>
      right
      obtain rfl : k = N := by omega
      rw [if_pos (nI_le (Nat.le_refl k) (by omega))]
      exact ⟨_, rfl, hb⟩
    left
    refine ⟨hkN, ?_⟩
    obtain ⟨r1, r2⟩ := kr_rn_rb h (show N - 1 - k < N by omega)
    have r2' : kr_rn (km_gr F m (-1)) (kb_D F n m o) t (N - 1 - k) < m := r2
    rw [if_neg (nI_ge hkN (by omega)), kn_chk (by omega) (by decide), kn_clamp (by omega), a4 k hkN, r1, kw_let_def, kw_let_def, km_next]
    refine ⟨_, rfl, rfl, fun i hi => ?_⟩
    dsimp only
    rw [kw_bL_or, kw_upL (by omega) i hi, Bool.or_eq_true, hb i hi, decide_eq_true_eq]
    constructor
    · rintro (⟨j, hj, e⟩ | e)
      · exact ⟨j, by omega, e⟩
      · exact ⟨k, by omega, e.symm⟩
    · rintro ⟨j, hj, e⟩
      by_cases q : j = k
      · subst q; exact Or.inr e.symm
      · exact Or.inl ⟨j, by omega, e⟩)
  have hbits : ∀ r, r < m → kw_bL w r = kr_used (km_gr F m (-1)) (kb_D F n m o) t N r := fun r hr => by
    rw [Bool.eq_iff_iff, hw2 r (by omega), kr_used_iff]
    constructor
    · rintro ⟨j, hj, e⟩
      exact ⟨N - 1 - j, by omega, e⟩
    · rintro ⟨j, hj, e⟩
      exact ⟨N - 1 - j, by omega, by rw [show N - 1 - (N - 1 - j) = j by omega]; exact e⟩
  obtain ⟨σ1, b1, b2, b3, b4⟩ := kx_beginRow (σ := τ) (o := o) (by omega)
  have hoτ : τ.1 1 2 = nI o := by rw [a3 1 (by decide)]; exact hoX
  obtain ⟨x, hx, x1, x2⟩ := kw_for (body := fun s => bX6_twoApart_64 (nI t) w s.1 s.2.1 s.2.2) (fun k s => ∃ b : Bool, s.1 = kx_fl b ∧ s.2.1 = nI k ∧ kx_rw s.2.2 43 (kr_bf (kr_H (km_gr F m (-1)) (kr_used (km_gr F m (-1)) (kb_D F n m o) t N)) (kr_one o) k) ∧ kx_oL τ s.2.2 43 ∧ (b = false → ∀ j, kr_bf (kr_H (km_gr F m (-1)) (kr_used (km_gr F m (-1)) (kb_D F n m o) t N)) (kr_one o) (k + j) = kr_bf (kr_H (km_gr F m (-1)) (kr_used (km_gr F m (-1)) (kb_D F n m o) t N)) (kr_one o) k)) (fun x => kx_rw x 43 (kr_bf (kr_H (km_gr F m (-1)) (kr_used (km_gr F m (-1)) (kb_D F n m o) t N)) (kr_one o) n) ∧ kx_oL τ x 43) n (by omega) (s0 := ((1 : Int32), (0 : Int32), σ1)) ⟨true, rfl, rfl, b2, ⟨b3, b4⟩, fun q => by cases q⟩ (fun k s hk hp => by
    obtain ⟨v4, v5, ρ⟩ := s
    obtain ⟨b, e1, e2, e3, ⟨o1, o2⟩, e5⟩ := hp
    dsimp only at e1 e2 e3 o1 o2 e5 ⊢
    subst e1 e2
    unfold bX6_twoApart_64
    rw [show ρ.1 12 0 = nI n by rw [o1, a3 12 (by decide)]; exact hnX]
    by_cases hkn : k < n
    case neg =>
      right
      obtain rfl : k = n := by omega
      rw [if_pos (nI_le (Nat.le_refl k) (by omega))]
      exact ⟨_, rfl, e3, o1, o2⟩
    rw [if_neg (nI_ge hkn (by omega))]
    simp only [kx_fl_0]
    cases b with
    | false =>
      right
      rw [kn_ff]
      refine ⟨_, rfl, ?_, o1, o2⟩
      have hh := e5 rfl (n - k)
      rw [show k + (n - k) = n by omega] at hh
      rw [hh]
      exact e3
    | true =>
      left
      refine ⟨hkn, ?_⟩
      obtain ⟨b', τ2, s1, s2, ⟨s3, s3'⟩, s4⟩ := kx_stepApart (n := n) (kx_rd_fr hsh.1 (by rw [o1, a3 12 (by decide)]) (by rw [o1]; exact a3 18 (by decide)) (by rw [o1]; exact a3 19 (by decide)) (by rw [o1]; exact a3 20 (by decide)) (by rw [o2 12 (by decide), a2])) hok.1 hbits e3 (kb_ap_in hok (show k ≤ 24 by omega)) (by decide)
      rw [kn_tf, s1, Option.bind_some, kw_let_def, km_next]
      refine ⟨_, rfl, b', rfl, rfl, s2, ⟨s3.trans o1, fun q hq => (s3' q hq).trans (o2 q hq)⟩, fun q => ?_⟩
      have hfix : kr_bf (kr_H (km_gr F m (-1)) (kr_used (km_gr F m (-1)) (kb_D F n m o) t N)) (kr_one o) (k + 1) = kr_bf (kr_H (km_gr F m (-1)) (kr_used (km_gr F m (-1)) (kb_D F n m o) t N)) (kr_one o) k := s4 q
      intro j
      rw [show k + 1 + j = k + (j + 1) by omega, kr_bf_fix hfix, hfix])
  have hall := kb_ap_all hok h 1
  rw [show n - 1 + 1 = n by omega] at hall
  rw [hall] at x1
  unfold fX6_twoApart jX6_twoApart_93
  rw [a1', Option.bind_some]
  dsimp only
  rw [hw1, Option.bind_some, hoτ, b1, Option.bind_some, hx, Option.bind_some, kn_chk (by omega) (by decide), kn_clamp (by omega), x1 t (by omega), x2.2 16 (by decide), a2, show σ.2 16 t = kx_enc (kb_D F n m o t) from hsh.2.2.2.2.1 t (by omega), kx_joined (b := kb_ap F n m o t N t) (kr_row_bd (kb_row hok) t) (kr_bd_in (kb_ap_in (U := kr_used (km_gr F m (-1)) (kb_D F n m o) t N) hok (show n - 1 ≤ 24 by omega)) (by decide) t), Option.bind_some]
  exact ⟨x, rfl, fun c hc => by rw [x2.1]; exact a3 c hc, fun c hc => by rw [x2.2 c hc, a2]⟩
