/-! The next longer way: the class's rest, and its dive along shortest ways. -/
/-- what the search reads -/
def kx_nx (σ : kw_M) (F : Nat → Int32) (n m o t : Nat) : Prop := kx_rd σ 12 F m ∧ (∀ q, q < 12 → σ.2 16 q = kx_enc (kb_D F n m o q)) ∧ σ.1 7 2 = nI t ∧ ∀ r, r < m → kw_bL (σ.2 7 4) r = kb_us F r
/-- nothing but best and rest changes -/
def kx_oN (σ τ : kw_M) : Prop := τ.1 = σ.1 ∧ (∀ c, c ≠ 7 → c ≠ 47 → τ.2 c = σ.2 c) ∧ ∀ i, i ≠ 3 → τ.2 7 i = σ.2 7 i
theorem kx_oN_r (σ : kw_M) : kx_oN σ σ := ⟨rfl, fun _ _ _ => rfl, fun _ _ => rfl⟩
theorem kx_oN_t {a b c : kw_M} (h : kx_oN a b) (g : kx_oN b c) : kx_oN a c := ⟨g.1.trans h.1, fun q h1 h2 => (g.2.1 q h1 h2).trans (h.2.1 q h1 h2), fun q hq => (g.2.2 q hq).trans (h.2.2 q hq)⟩
theorem kx_oN_L {σ τ : kw_M} (h : kx_oL σ τ 47) : kx_oN σ τ := ⟨h.1, fun c _ h2 => h.2 c h2, fun i _ => by rw [h.2 7 (by decide)]⟩
theorem kx_oN_7 {σ τ : kw_M} (h : kx_o7 3 σ τ) : kx_oN σ τ := ⟨h.1, fun c h1 _ => h.2.1 c h1, h.2.2⟩
theorem kx_nx_o {σ τ : kw_M} {F : Nat → Int32} {n m o t : Nat} (h : kx_nx σ F n m o t) (ho : kx_oN σ τ) : kx_nx τ F n m o t := ⟨kx_rd_fr h.1 (by rw [ho.1]) (by rw [ho.1]) (by rw [ho.1]) (by rw [ho.1]) (ho.2.1 12 (by decide) (by decide)), fun q hq => by rw [ho.2.1 16 (by decide) (by decide)]; exact h.2.1 q hq, by rw [ho.1]; exact h.2.2.1, fun r hr => by rw [ho.2.2 4 (by decide)]; exact h.2.2.2 r hr⟩
theorem kx_isUseful {σ : kw_M} {F : Nat → Int32} {n m o t r : Nat} (hn : kx_nx σ F n m o t) (hm : m ≤ 36) (hr : r < m) : fX1_isUseful (nI r) σ = some (kx_fl (kb_us F r)) := by
  unfold fX1_isUseful
  simp only [kw_dnL (w := σ.2 7 4) (show r < 36 by omega), hn.2.2.2 r hr]
  cases kb_us F r
  · rw [kn_ff]
    rfl
  · rw [kn_tf]
    rfl
theorem kb_us_op {F : Nat → Int32} {m : Nat} (hm : m ≤ 36) : ∀ r, r < (km_gr F m (-1)).1 → kb_us F r = true → (km_gr F m (-1)).2.2.2.2 r = true := fun r hr h => by
  rw [kb_op (F := F) hm hr]
  unfold kb_us at h
  rw [Bool.and_eq_true] at h
  exact h.1
theorem kb_us_tw0 {F : Nat → Int32} : ∀ (k r : Nat), r < k → F (28 + 4 * r + 3) = 1 → ∃ j, j ≤ r ∧ kb_us F j = true ∧ F (28 + 4 * j + 0) = F (28 + 4 * r + 0) ∧ F (28 + 4 * j + 1) = F (28 + 4 * r + 1) ∧ F (28 + 4 * j + 2) = F (28 + 4 * r + 2)
  | 0, r, h, _ => absurd h (Nat.not_lt_zero _)
  | k + 1, r, h, c4 => by
    cases hany : kr_anyTo (kb_tw F r) r with
    | false =>
      refine ⟨r, Nat.le_refl _, ?_, rfl, rfl, rfl⟩
      unfold kb_us
      rw [decide_eq_true c4, hany]
      rfl
    | true =>
      obtain ⟨j, hj, hjt⟩ : ∃ j, j < r ∧ kb_tw F r j = true := Classical.byContradiction (fun hno => by
        rw [kr_anyTo_f r (fun j hj => by
          cases q : kb_tw F r j with
          | false => rfl
          | true => exact absurd ⟨j, hj, q⟩ hno)] at hany
        cases hany)
      unfold kb_tw at hjt
      rw [Bool.and_eq_true, Bool.and_eq_true, Bool.and_eq_true, decide_eq_true_eq, decide_eq_true_eq, decide_eq_true_eq, decide_eq_true_eq] at hjt
      obtain ⟨j0, j1, j2, j3⟩ := hjt
      obtain ⟨i, i1, i2, i3, i4, i5⟩ := kb_us_tw0 k j (by omega) j3
      exact ⟨i, by omega, i2, i3.trans j0, i4.trans j1, i5.trans j2⟩
theorem kb_us_tw {F : Nat → Int32} {m : Nat} (hm : m ≤ 36) : ∀ r, r < (km_gr F m (-1)).1 → (km_gr F m (-1)).2.2.2.2 r = true → ∃ j, j < (km_gr F m (-1)).1 ∧ kb_us F j = true ∧ (km_gr F m (-1)).2.1 j = (km_gr F m (-1)).2.1 r ∧ (km_gr F m (-1)).2.2.1 j = (km_gr F m (-1)).2.2.1 r ∧ (km_gr F m (-1)).2.2.2.1 j = (km_gr F m (-1)).2.2.2.1 r := fun r hr h => by
  rw [kb_op (F := F) hm hr, decide_eq_true_eq] at h
  obtain ⟨j, j1, j2, j3, j4, j5⟩ := kb_us_tw0 (r + 1) r (by omega) h
  refine ⟨j, Nat.lt_of_le_of_lt j1 hr, j2, ?_, ?_, ?_⟩
  · show (F (28 + 4 * j + 0)).toNatClampNeg = (F (28 + 4 * r + 0)).toNatClampNeg
    rw [j3]
  · show (F (28 + 4 * j + 1)).toNatClampNeg = (F (28 + 4 * r + 1)).toNatClampNeg
    rw [j4]
  · show (F (28 + 4 * j + 2)).toInt = (F (28 + 4 * r + 2)).toInt
    rw [j5]
/-- the graph of rest: useful roads from towns not seen, turned round -/
def kb_rsg (F : Nat → Int32) (m : Nat) (U : Nat → Bool) : kr_G := kr_ro (km_gr F m (-1)) (kb_us F) U
theorem kr_rlx_l2 {g : kr_G} {d : kr_D} {r : Nat} (hu : g.2.2.2.2 r = true) : kr_lw d (g.2.2.1 r) (kr_by g d r) = kr_rlx g d r ∧ kr_ls (kr_by g d r) (d (g.2.2.1 r)) = kr_chg g d r := by
  unfold kr_rlx kr_chg kr_by
  rw [if_pos hu, hu, Bool.true_and]
  cases ha : d (g.2.1 r) with
  | none => exact ⟨kr_ls_lw rfl, rfl⟩
  | some a =>
    cases hb : d (g.2.2.1 r) with
    | none =>
      refine ⟨?_, rfl⟩
      funext q
      unfold kr_lw kr_set
      by_cases e : q = g.2.2.1 r
      · rw [if_pos e, hb]
        dsimp only
        rw [if_pos e]
        rfl
      · rw [if_neg e]
        dsimp only
        rw [if_neg e]
    | some b =>
      refine ⟨?_, rfl⟩
      show kr_lw d (g.2.2.1 r) (some (a + g.2.2.2.1 r)) = if a + g.2.2.2.1 r < b then kr_set d (g.2.2.1 r) (a + g.2.2.2.1 r) else d
      by_cases hlt : a + g.2.2.2.1 r < b
      · rw [if_pos hlt]
        funext q
        unfold kr_lw kr_set
        by_cases e : q = g.2.2.1 r
        · rw [if_pos e, if_pos e, hb]
          unfold kr_mn
          rw [show kr_ls (some (a + g.2.2.2.1 r)) (some b) = true from decide_eq_true hlt, kn_tt]
        · rw [if_neg e, if_neg e]
      · rw [if_neg hlt]
        exact kr_ls_lw (by rw [hb]; exact decide_eq_false hlt)
theorem kx_rest_r {σ : kw_M} {F : Nat → Int32} {n m o t : Nat} {U : Nat → Bool} {w v4 : Int32} {d : kr_D} {B : Int} (hw : kb_wf F n m) (hn : kx_nx σ F n m o t) (hbw : ∀ q, q < 32 → kw_bI w q = U q) (h47 : kx_rw σ 47 d) (hB : kr_in d B) (hB2 : B ≤ 900000000000000) : ∃ τ, kw_loop (fun s => bX1_settleRest_43 w v4 s.1 s.2.1 s.2.2) kw_F ((0 : Int32), (0 : Int32), σ) = some (kx_fl (kr_any (kb_rsg F m U) d m), τ) ∧ kx_rw τ 47 (kr_rnd (kb_rsg F m U) d m) ∧ kx_oL σ τ 47 := by
  have hm := hw.2.2.2.1.1
  have hlen : ∀ r, r < (kb_rsg F m U).1 → -1000000000 ≤ (kb_rsg F m U).2.2.2.1 r ∧ (kb_rsg F m U).2.2.2.1 r ≤ 1000000000 := km_wf_len hw.2.2.2.1 (-1)
  have hin : ∀ k, k ≤ m → kr_in (kr_rnd (kb_rsg F m U) d k) 1000000000000000 := fun k hk => by
    refine kr_in_mono (kr_in_rnd hB (M := 1000000000) (by decide) hlen k hk) ?_
    have h2 : (k : Int) ≤ 36 := by omega
    omega
  obtain ⟨x, hx, e1, e2, e3⟩ := kw_for (body := fun s => bX1_settleRest_43 w v4 s.1 s.2.1 s.2.2) (fun k s => s.1 = kx_fl (kr_any (kb_rsg F m U) d k) ∧ s.2.1 = nI k ∧ kx_rw s.2.2 47 (kr_rnd (kb_rsg F m U) d k) ∧ kx_oL σ s.2.2 47) (fun x => x.1 = kx_fl (kr_any (kb_rsg F m U) d m) ∧ kx_rw x.2 47 (kr_rnd (kb_rsg F m U) d m) ∧ kx_oL σ x.2 47) m (by omega) (s0 := ((0 : Int32), (0 : Int32), σ)) ⟨rfl, rfl, h47, rfl, fun _ _ => rfl⟩ (fun k s hk hp => by
    obtain ⟨v3, v5, τ⟩ := s
    obtain ⟨e1, e2, e3, o1, o2⟩ := hp
    dsimp only at e1 e2 e3 o1 o2 ⊢
    subst e1 e2
    have hnτ := kx_nx_o hn (kx_oN_L ⟨o1, o2⟩)
    unfold bX1_settleRest_43
    rw [show τ.1 12 1 = nI m from hnτ.1.2.1.trans hw.2.2.2.1.2.1]
    by_cases hkm : k < m
    case neg =>
      right
      obtain rfl : k = m := by omega
      rw [if_pos (nI_le (Nat.le_refl k) (by omega))]
      exact ⟨_, rfl, rfl, e3, o1, o2⟩
    left
    refine ⟨hkm, ?_⟩
    obtain ⟨hfr, hto, hl1, hl2⟩ := hw.2.2.2.1.2.2 k hkm
    have hfl := kw_in_lt hfr
    have htl := kw_in_lt hto
    obtain ⟨x18, x19, x20⟩ := hnτ.1.2.2.1 k hkm
    have e18 : τ.1 18 k = nI (F (28 + 4 * k + 0)).toNatClampNeg := (show τ.1 18 k = F (28 + 4 * k + 0) from x18).trans (kw_in_nI_of hfr (by decide))
    have e19 : τ.1 19 k = nI (F (28 + 4 * k + 1)).toNatClampNeg := (show τ.1 19 k = F (28 + 4 * k + 1) from x19).trans (kw_in_nI_of hto (by decide))
    have e20 : (τ.1 20 k).toInt64 = kx_enc (some (F (28 + 4 * k + 2)).toInt) := by rw [show τ.1 20 k = F (28 + 4 * k + 2) from x20]; exact kx_enc32 _
    have hgu : (kb_rsg F m U).2.2.2.2 k = (kb_us F k && !U (F (28 + 4 * k + 0)).toNatClampNeg) := rfl
    have hrs : kr_rnd (kb_rsg F m U) d (k + 1) = kr_rlx (kb_rsg F m U) (kr_rnd (kb_rsg F m U) d k) k := rfl
    have has : kr_any (kb_rsg F m U) d (k + 1) = (kr_any (kb_rsg F m U) d k || kr_chg (kb_rsg F m U) (kr_rnd (kb_rsg F m U) d k) k) := rfl
    have skip : (kb_rsg F m U).2.2.2.2 k = false → ∃ s', (some (Sum.inl (kx_fl (kr_any (kb_rsg F m U) d k), nI (k + 1), τ)) : Option ((Int32 × Int32 × kw_M) ⊕ (Int32 × kw_M))) = some (Sum.inl s') ∧ s'.1 = kx_fl (kr_any (kb_rsg F m U) d (k + 1)) ∧ s'.2.1 = nI (k + 1) ∧ kx_rw s'.2.2 47 (kr_rnd (kb_rsg F m U) d (k + 1)) ∧ kx_oL σ s'.2.2 47 := fun q => by
      have hc : kr_chg (kb_rsg F m U) (kr_rnd (kb_rsg F m U) d k) k = false := by
        unfold kr_chg
        rw [q]
        rfl
      refine ⟨_, rfl, ?_, rfl, ?_, o1, o2⟩
      · rw [has, hc, Bool.or_false]
      · rw [hrs, kr_chg_f hc]
        exact e3
    rw [if_neg (nI_ge hkm (by omega)), kn_chk (by omega) (by decide), kn_clamp (by omega), kw_let_def, e18, kw_dnI (by omega), hbw _ (by omega), kx_isUseful hnτ hm hkm, Option.bind_some]
    simp only [kx_fl_0, kw_let_def, km_next]
    cases c1 : U (F (28 + 4 * k + 0)).toNatClampNeg with
    | true =>
      rw [kn_tf]
      exact skip (by rw [hgu, c1, Bool.not_true, Bool.and_false])
    | false =>
      rw [kn_ff]
      cases c2 : kb_us F k with
      | false =>
        rw [kn_ff]
        exact skip (by rw [hgu, c2]; rfl)
      | true =>
        have hgo : (kb_rsg F m U).2.2.2.2 k = true := by
          rw [hgu, c1, c2]
          rfl
        have hby : kr_by (kb_rsg F m U) (kr_rnd (kb_rsg F m U) d k) k = kr_plus (kr_rnd (kb_rsg F m U) d k (F (28 + 4 * k + 1)).toNatClampNeg) (some (F (28 + 4 * k + 2)).toInt) := rfl
        have bby : kr_bd (kr_by (kb_rsg F m U) (kr_rnd (kb_rsg F m U) d k) k) := fun z hz => by
          have := kr_by_in (hin k (by omega)) (hlen k hkm) z hz
          omega
        obtain ⟨τ2, l1, l2, l3, l4⟩ := kx_lower e3 hfl (kr_bd_in (hin k (by omega)) (by decide) _) bby
        obtain ⟨q1, q2⟩ := kr_rlx_l2 (g := kb_rsg F m U) (d := kr_rnd (kb_rsg F m U) d k) (r := k) hgo
        have q1' : kr_lw (kr_rnd (kb_rsg F m U) d k) (F (28 + 4 * k + 0)).toNatClampNeg (kr_by (kb_rsg F m U) (kr_rnd (kb_rsg F m U) d k) k) = kr_rlx (kb_rsg F m U) (kr_rnd (kb_rsg F m U) d k) k := q1
        have q2' : kr_ls (kr_by (kb_rsg F m U) (kr_rnd (kb_rsg F m U) d k) k) (kr_rnd (kb_rsg F m U) d k (F (28 + 4 * k + 0)).toNatClampNeg) = kr_chg (kb_rsg F m U) (kr_rnd (kb_rsg F m U) d k) k := q2
        rw [kn_tf, e19, kn_chk (by omega) (by decide), kn_clamp (by omega), e3 _ htl, e20, kx_joined (kr_bd_in (hin k (by omega)) (by decide) _) (kr_bd32 _), Option.bind_some, ← hby, l1, Option.bind_some]
        dsimp only
        rw [kx_or, q2']
        refine ⟨_, rfl, ?_, rfl, ?_, l3.trans o1, fun q hq => (l4 q hq).trans (o2 q hq)⟩
        · rw [has]
        · rw [hrs, ← q1']
          exact l2)
  refine ⟨x.2, ?_, e2, e3⟩
  rw [hx, ← e1]
theorem kx_rest {σ : kw_M} {F : Nat → Int32} {n m o t : Nat} {U : Nat → Bool} {w : Int32} (hok : kb_ok F n m o) (ht : t < n) (hn : kx_nx σ F n m o t) (hbw : ∀ q, q < 32 → kw_bI w q = U q) : ∃ τ, fX1_settleRest w σ = some τ ∧ kx_rw τ 47 (kr_dst (kb_rsg F m U) n t) ∧ kx_oL σ τ 47 := by
  have hw := hok.1
  have h12 := hw.2.2.1
  have hm := hw.2.2.2.1.1
  have hg := hok.2.2.2.1
  have htn := kb_tn hw (-1)
  have hlen : ∀ r, r < (kb_rsg F m U).1 → -1000000000 ≤ (kb_rsg F m U).2.2.2.1 r ∧ (kb_rsg F m U).2.2.2.1 r ≤ 1000000000 := km_wf_len hw.2.2.2.1 (-1)
  have hb : ∀ i, i ≤ 12 → kr_in (kr_bf (kb_rsg F m U) (kr_one t) i) 900000000000000 := fun i hi => by
    refine kr_in_mono (km_bf_in (g := kb_rsg F m U) hm hlen i) ?_
    have : (i : Int) ≤ 12 := by omega
    omega
  obtain ⟨σ1, a1, a2, a3, a4⟩ := kx_beginRowC (σ := σ) (o := t) (c := 47) (by omega)
  obtain ⟨x, hx, x1, x2, x3⟩ := kw_for (body := fun s => bX1_settleRest_25 w s.1 s.2.1 s.2.2) (fun k s => ∃ b : Bool, s.1 = kx_fl b ∧ s.2.1 = nI k ∧ kx_rw s.2.2 47 (kr_bf (kb_rsg F m U) (kr_one t) k) ∧ kx_oL σ s.2.2 47 ∧ (b = false → ∀ j, kr_bf (kb_rsg F m U) (kr_one t) (k + j) = kr_bf (kb_rsg F m U) (kr_one t) k)) (fun x => kx_rw x 47 (kr_bf (kb_rsg F m U) (kr_one t) n) ∧ kx_oL σ x 47) n (by omega) (s0 := ((1 : Int32), (0 : Int32), σ1)) ⟨true, rfl, rfl, a2, ⟨a3, a4⟩, fun q => by cases q⟩ (fun k s hk hp => by
    obtain ⟨v3, v4, τ⟩ := s
    obtain ⟨b, e1, e2, e3, ⟨o1, o2⟩, e5⟩ := hp
    dsimp only at e1 e2 e3 o1 o2 e5 ⊢
    subst e1 e2
    have hnτ := kx_nx_o hn (kx_oN_L ⟨o1, o2⟩)
    unfold bX1_settleRest_25
    rw [show τ.1 12 0 = nI n from hnτ.1.1.trans hw.1]
    by_cases hkN : k < n
    case neg =>
      right
      obtain rfl : k = n := by omega
      rw [if_pos (nI_le (Nat.le_refl k) (by omega))]
      exact ⟨_, rfl, e3, o1, o2⟩
    rw [if_neg (nI_ge hkN (by omega))]
    simp only [kx_fl_0]
    cases b with
    | false =>
      right
      rw [kn_ff]
      refine ⟨_, rfl, ?_, o1, o2⟩
      have h := e5 rfl (n - k)
      rw [show k + (n - k) = n by omega] at h
      rw [h]
      exact e3
    | true =>
      left
      refine ⟨hkN, ?_⟩
      obtain ⟨τ2, s1, s2, s3, s4⟩ := kx_rest_r (v4 := nI k) hw hnτ hbw e3 (hb k (by omega)) (Int.le_refl _)
      rw [kn_tf, s1, Option.bind_some, kw_let_def, km_next]
      refine ⟨_, rfl, _, rfl, rfl, s2, ⟨s3.trans o1, fun q hq => (s4 q hq).trans (o2 q hq)⟩, fun q j => ?_⟩
      have hfix : kr_bf (kb_rsg F m U) (kr_one t) (k + 1) = kr_bf (kb_rsg F m U) (kr_one t) k := kr_any_f m q
      rw [show k + 1 + j = k + (j + 1) by omega, kr_bf_fix hfix, hfix])
  unfold fX1_settleRest
  rw [hn.2.2.1, a1, Option.bind_some, hx, Option.bind_some]
  refine ⟨x, rfl, ?_, x2, x3⟩
  have hall := kr_bf_all (g := kb_rsg F m U) (n := n) (o := t) (kr_ro_good hg (kb_us_op hm)) (kr_rv_tn htn) ht 1
  rw [show n - 1 + 1 = n by omega] at hall
  rw [hall] at x1
  exact x1
