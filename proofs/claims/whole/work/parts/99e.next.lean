/-! The next longer way: the class. -/
def kb_tw (F : Nat → Int32) (r q : Nat) : Bool := decide (F (28 + 4 * q + 0) = F (28 + 4 * r + 0)) && (decide (F (28 + 4 * q + 1) = F (28 + 4 * r + 1)) && (decide (F (28 + 4 * q + 2) = F (28 + 4 * r + 2)) && decide (F (28 + 4 * q + 3) = 1)))
def kb_us (F : Nat → Int32) (r : Nat) : Bool := decide (F (28 + 4 * r + 3) = 1) && !kr_anyTo (kb_tw F r) r
theorem kx_twin {σ : kw_M} {F : Nat → Int32} {m r : Nat} (hrd : kx_rd σ 12 F m) (hw : km_wf F m) (hr : r < m) : fX1_hasTwinBefore (nI r) σ = some (kx_fl (kr_anyTo (kb_tw F r) r)) := by
  have hm := hw.1
  obtain ⟨y18, y19, y20⟩ := hrd.2.2.1 r hr
  have f18 : σ.1 18 r = F (28 + 4 * r + 0) := y18
  have f19 : σ.1 19 r = F (28 + 4 * r + 1) := y19
  have f20 : σ.1 20 r = F (28 + 4 * r + 2) := y20
  obtain ⟨x, hx, e⟩ := kw_for (body := fun s => bX1_hasTwinBefore_10 (nI r) σ s) (fun k s => s = nI k ∧ kr_anyTo (kb_tw F r) k = false) (fun x => Sum.elim (fun a => some a) (fun _ => some (0 : Int32)) x = some (kx_fl (kr_anyTo (kb_tw F r) r))) r (by omega) (s0 := (0 : Int32)) ⟨rfl, rfl⟩ (fun k s hk hp => by
    obtain ⟨rfl, h1⟩ := hp
    unfold bX1_hasTwinBefore_10 jX1_hasTwinBefore_49_L10 jX1_hasTwinBefore_50_L10
    by_cases hkr : k < r
    case neg =>
      right
      obtain rfl : k = r := by omega
      rw [if_pos (nI_le (Nat.le_refl k) (by omega))]
      refine ⟨_, rfl, ?_⟩
      rw [h1]
      rfl
    obtain ⟨x18, x19, x20⟩ := hrd.2.2.1 k (by omega)
    have e18 : σ.1 18 k = F (28 + 4 * k + 0) := x18
    have e19 : σ.1 19 k = F (28 + 4 * k + 1) := x19
    have e20 : σ.1 20 k = F (28 + 4 * k + 2) := x20
    have nx : kb_tw F r k = false → kr_anyTo (kb_tw F r) (k + 1) = false := fun q => by
      show (kr_anyTo (kb_tw F r) k || kb_tw F r k) = false
      rw [h1, q]
      rfl
    rw [if_neg (nI_ge hkr (by omega)), kx_isOpenR hrd hw (by omega)]
    simp (disch := omega) only [kn_chk, kn_clamp, e18, e19, e20, f18, f19, f20, Option.bind_some, kx_fl_0, kw_let_def, km_next, if_true]
    rw [if_neg (show ¬ (1 : Int32) = 0 by decide)]
    by_cases c0 : F (28 + 4 * k + 0) = F (28 + 4 * r + 0)
    case neg =>
      left
      rw [if_neg c0]
      exact ⟨hkr, _, rfl, rfl, nx (by unfold kb_tw; rw [decide_eq_false c0]; rfl)⟩
    rw [if_pos c0]
    by_cases c1 : F (28 + 4 * k + 1) = F (28 + 4 * r + 1)
    case neg =>
      left
      rw [if_neg c1]
      exact ⟨hkr, _, rfl, rfl, nx (by unfold kb_tw; rw [decide_eq_false c1, Bool.false_and, Bool.and_false])⟩
    rw [if_pos c1]
    by_cases c2 : F (28 + 4 * k + 2) = F (28 + 4 * r + 2)
    case neg =>
      left
      rw [if_neg c2]
      exact ⟨hkr, _, rfl, rfl, nx (by unfold kb_tw; rw [decide_eq_false c2, Bool.false_and, Bool.and_false, Bool.and_false])⟩
    rw [if_pos c2]
    by_cases c3 : F (28 + 4 * k + 3) = 1
    case neg =>
      left
      rw [decide_eq_false c3, kn_ff]
      exact ⟨hkr, _, rfl, rfl, nx (by unfold kb_tw; rw [decide_eq_false c3, Bool.and_false, Bool.and_false, Bool.and_false])⟩
    right
    rw [decide_eq_true c3, kn_tf]
    refine ⟨_, rfl, ?_⟩
    rw [kr_anyTo_t r k hkr (by unfold kb_tw; rw [decide_eq_true c0, decide_eq_true c1, decide_eq_true c2, decide_eq_true c3]; rfl)]
    rfl)
  unfold fX1_hasTwinBefore
  rw [hx, Option.bind_some]
  exact e
/-- nothing but best changes -/
def kx_o7 (j : Nat) (σ τ : kw_M) : Prop := τ.1 = σ.1 ∧ (∀ c, c ≠ 7 → τ.2 c = σ.2 c) ∧ ∀ i, i ≠ j → τ.2 7 i = σ.2 7 i
theorem kx_o7_r (j : Nat) (σ : kw_M) : kx_o7 j σ σ := ⟨rfl, fun _ _ => rfl, fun _ _ => rfl⟩
theorem kx_o7_t {j : Nat} {a b c : kw_M} (h : kx_o7 j a b) (g : kx_o7 j b c) : kx_o7 j a c := ⟨g.1.trans h.1, fun q hq => (g.2.1 q hq).trans (h.2.1 q hq), fun q hq => (g.2.2 q hq).trans (h.2.2 q hq)⟩
theorem kx_o7_sl (j : Nat) (σ : kw_M) (x : Int64) : kx_o7 j σ (kw_sl σ 7 j x) := ⟨rfl, fun c hc => kw_sl_o hc, fun i hi => by rw [kw_sl_2, kw_updL_n hi]⟩
theorem kx_findUseful {σ : kw_M} {F : Nat → Int32} {m : Nat} (hrd : kx_rd σ 12 F m) (hw : km_wf F m) : ∃ τ, fX1_findUseful σ = some τ ∧ kx_o7 4 σ τ ∧ ∀ r, r < m → kw_bL (τ.2 7 4) r = kb_us F r := by
  have hm := hw.1
  obtain ⟨x, hx, e1, e2⟩ := kw_for (body := fun s => bX1_findUseful_7 s.1 s.2) (fun k s => s.1 = nI k ∧ kx_o7 4 σ s.2 ∧ ∀ i, i < 64 → kw_bL (s.2.2 7 4) i = (decide (i < k) && kb_us F i)) (fun x => kx_o7 4 σ x ∧ ∀ r, r < m → kw_bL (x.2 7 4) r = kb_us F r) m (by omega) (s0 := ((0 : Int32), kw_sl σ 7 4 (0 : Int64))) ⟨rfl, kx_o7_sl 4 σ 0, fun i hi => by
    dsimp only
    rw [kw_sl_2, kw_updL_e, kw_bL_0, decide_eq_false (Nat.not_lt_zero i)]
    rfl⟩ (fun k s hk hp => by
    obtain ⟨v, τ⟩ := s
    obtain ⟨rfl, ho, h4⟩ := hp
    dsimp only at ho h4 ⊢
    unfold bX1_findUseful_7
    rw [show τ.1 12 1 = nI m by rw [ho.1]; exact hrd.2.1.trans hw.2.1]
    by_cases hkm : k < m
    case neg =>
      right
      obtain rfl : k = m := by omega
      rw [if_pos (nI_le (Nat.le_refl k) (by omega))]
      exact ⟨_, rfl, ho, fun r hr => by rw [h4 r (by omega), decide_eq_true hr, Bool.true_and]⟩
    left
    refine ⟨hkm, ?_⟩
    have hrdτ : kx_rd τ 12 F m := kx_rd_fr hrd (by rw [ho.1]) (by rw [ho.1]) (by rw [ho.1]) (by rw [ho.1]) (ho.2.1 12 (by decide))
    rw [if_neg (nI_ge hkm (by omega)), kx_isOpenR hrdτ hw hkm, Option.bind_some, kx_twin hrdτ hw hkm]
    simp only [kx_fl_0, kw_let_def, km_next, Option.bind_some]
    have same : kb_us F k = false → ∀ i, i < 64 → kw_bL (τ.2 7 4) i = (decide (i < k + 1) && kb_us F i) := fun q i hi => by
      rw [h4 i hi]
      by_cases e : i = k
      · subst e
        rw [q, Bool.and_false, Bool.and_false]
      · rw [decide_eq_decide.mpr (show i < k ↔ i < k + 1 by omega)]
    by_cases c : F (28 + 4 * k + 3) = 1
    case neg =>
      rw [decide_eq_false c, kn_ff]
      exact ⟨_, rfl, rfl, ho, same (by unfold kb_us; rw [decide_eq_false c]; rfl)⟩
    rw [decide_eq_true c, kn_tf]
    cases q : kr_anyTo (kb_tw F k) k with
    | true =>
      rw [kn_tf]
      exact ⟨_, rfl, rfl, ho, same (by unfold kb_us; rw [q, Bool.not_true, Bool.and_false])⟩
    | false =>
      rw [kn_ff]
      refine ⟨_, rfl, rfl, kx_o7_t ho (kx_o7_sl 4 τ _), fun i hi => ?_⟩
      dsimp only
      rw [kw_sl_2, kw_updL_e, kw_bL_or, kw_upL (by omega) i hi, h4 i hi]
      by_cases e : i = k
      · subst e
        rw [decide_eq_true rfl, Bool.or_true, decide_eq_true (show i < i + 1 by omega), Bool.true_and]
        unfold kb_us
        rw [decide_eq_true c, q]
        rfl
      · rw [decide_eq_false e, Bool.or_false, decide_eq_decide.mpr (show i < k ↔ i < k + 1 by omega)])
  unfold fX1_findUseful
  rw [kw_let_def, hx, Option.bind_some]
  exact ⟨x, rfl, e1, e2⟩
def kx_nx (σ : kw_M) (F : Nat → Int32) (n m o t : Nat) : Prop := kx_rd σ 12 F m ∧ kx_prt σ F n m ∧ (∀ q, q < 12 → σ.2 16 q = kx_enc (kb_D F n m o q)) ∧ σ.1 7 2 = nI t ∧ ∀ r, r < m → kw_bL (σ.2 7 4) r = kb_us F r
theorem kx_nx_o {σ τ : kw_M} {F : Nat → Int32} {n m o t : Nat} (h : kx_nx σ F n m o t) (ho : kx_o7 3 σ τ) : kx_nx τ F n m o t := by
  obtain ⟨h1, h2, h3, h4, h5⟩ := h
  refine ⟨kx_rd_fr h1 (by rw [ho.1]) (by rw [ho.1]) (by rw [ho.1]) (by rw [ho.1]) (ho.2.1 12 (by decide)), kx_prt_eq h2 ho.1 (ho.2.1 39 (by decide)), fun q hq => by rw [ho.2.1 16 (by decide)]; exact h3 q hq, by rw [ho.1]; exact h4, fun r hr => by rw [ho.2.2 4 (by decide)]; exact h5 r hr⟩
theorem kx_mayHelp {σ : kw_M} {F : Nat → Int32} {n m o t u : Nat} {L a D : Int} {B : Option Int} (hw : kb_wf F n m) (hn : kx_nx σ F n m o t) (ht : t < n) (hu : u < n) (ha : kb_D F n m o u = some a) (hD : kb_D F n m o t = some D) (h3 : σ.2 7 3 = kx_enc (kr_plus B (some (-D)))) (hB : kr_b12 B) (hL : -20000000000 ≤ L ∧ L ≤ 20000000000) : fX1_mayHelp (nI u) (Int64.ofInt (L - a)) σ = some (kx_fl (match kb_D F n m u t with
  | none => false
  | some p => kr_ls (some (L + p)) B)) := by
  have h12 := hw.2.2.1
  have ba := kb_D_in2 hw.2.2.2.1 h12 u a ha
  have bD := kb_D_in2 hw.2.2.2.1 h12 t D hD
  obtain ⟨_, hprt, h16, h72, _⟩ := hn
  unfold fX1_mayHelp
  rw [h72, kx_span hprt hu h12 (by omega), Option.bind_some]
  cases hp : kb_D F n m u t with
  | none =>
    rw [if_pos (show kx_enc none = -9000000000000000000 from rfl)]
    rfl
  | some p =>
    have bp := kb_D_in2 hw.2.2.2.1 h12 t p hp
    dsimp only
    rw [if_neg (by
      rw [show (-9000000000000000000 : Int64) = kx_enc none from rfl, kx_enc_eq (fun z hz => by cases hz; omega) kr_bd_none]
      exact fun q => by cases q), kn_chk (by omega) (by decide), kn_chk (by omega) (by decide), kn_clamp (by omega), kn_clamp (by omega), h16 u (by omega), h16 t (by omega), ha, hD, h3, show kx_enc (some a) = Int64.ofInt a from rfl, show kx_enc (some p) = Int64.ofInt p from rfl, show kx_enc (some D) = Int64.ofInt D from rfl, kw_addL (by omega) (by omega) (by omega) (by omega), kw_addL (by omega) (by omega) (by omega) (by omega), kw_subL (by omega) (by omega) (by omega) (by omega), show L - a + a + p - D = L + p - D by omega, show Int64.ofInt (L + p - D) = kx_enc (some (L + p - D)) from rfl, kx_isLess (fun z hz => by cases hz; omega) (fun z hz => by have := kr_plus_in hB (B := 400000000000) (fun z hz => by cases hz; omega) z hz; omega), Option.bind_some, kr_ls_sh]
    cases kr_ls (some (L + p)) B <;> decide
theorem kx_dive {F : Nat → Int32} {n m o t : Nat} {D : Int} (hok : kb_ok F n m o) (ht : t < n) (hD : kb_D F n m o t = some D) : ∀ (f N d u : Nat) (U : Nat → Bool) (w : Int32) (L a : Int) (B : Option Int) (σ : kw_M), d + f = 12 → f < N → u < n → kb_D F n m o u = some a → (∀ q, q < 32 → kw_bI w q = U q) → (-(d * 1000000000 : Int) ≤ L ∧ L ≤ d * 1000000000) → kr_b12 B → kx_nx σ F n m o t → σ.2 7 3 = kx_enc (kr_plus B (some (-D))) → ∃ τ, fRX1_dive N (nI u) w (Int64.ofInt (L - a)) (nI d) σ = some τ ∧ kx_o7 3 σ τ ∧ τ.2 7 3 = kx_enc (kr_plus (kr_mn B (kr_sx (km_gr F m (-1)) t D f u U L)) (some (-D))) := by
  have hw := hok.1
  have h12 := hw.2.2.1
  have hm := hw.2.2.2.1.1
  have hg := hok.2.2.2.1
  have htn := kb_tn hw (-1)
  have hon := hok.2.2.1
  have hlen := km_wf_len hw.2.2.2.1 (-1)
  have bD := kb_D_in2 hw.2.2.2.1 h12 t D hD
  have atGoal : ∀ (N d : Nat) (w : Int32) (L a : Int) (B : Option Int) (σ : kw_M) (f : Nat) (U : Nat → Bool), kb_D F n m o t = some a → (-20000000000 ≤ L ∧ L ≤ 20000000000) → kr_b12 B → kx_nx σ F n m o t → σ.2 7 3 = kx_enc (kr_plus B (some (-D))) → ∃ τ, fFX1_dive (fRX1_dive N) (nI t) w (Int64.ofInt (L - a)) (nI d) σ = some τ ∧ kx_o7 3 σ τ ∧ τ.2 7 3 = kx_enc (kr_plus (kr_mn B (kr_sx (km_gr F m (-1)) t D f t U L)) (some (-D))) := by
    intro N d w L a B σ f U ha hL hB hn h3
    rw [hD] at ha
    cases ha
    unfold fFX1_dive
    have h0 : (Int64.ofInt (L - D) ≤ 0) = (L ≤ D) := by
      rw [Int64.le_iff_toInt_le, km_toInt (by omega) (by omega), show (0 : Int64).toInt = 0 by decide]
      exact propext ⟨fun q => by omega, fun q => by omega⟩
    rw [hn.2.2.2.1, if_pos rfl, kr_sx_g]
    simp only [h0]
    by_cases q : L ≤ D
    · rw [if_pos q, if_neg (by omega), kr_mn_n]
      exact ⟨σ, rfl, kx_o7_r 3 σ, h3⟩
    · rw [if_neg q, if_pos (by omega), h3, show Int64.ofInt (L - D) = kx_enc (some (L - D)) from rfl, kx_isLess (fun z hz => by cases hz; omega) (fun z hz => by have := kr_plus_in hB (B := 400000000000) (fun z hz => by cases hz; omega) z hz; omega), Option.bind_some, kr_ls_sh]
      simp only [kx_fl_0, kw_let_def]
      cases hl : kr_ls (some L) B with
      | false =>
        rw [kn_ff, kr_mn_no hl]
        exact ⟨σ, rfl, kx_o7_r 3 σ, h3⟩
      | true =>
        rw [kn_tf, kr_mn_ls hl]
        refine ⟨_, rfl, kx_o7_sl 3 σ _, ?_⟩
        rw [kw_sl_2, kw_updL_e]
        rfl
  intro f
  induction f with
  | zero =>
    intro N d u U w L a B σ hdf hfN hu ha hbw hL hB hn h3
    obtain ⟨N, rfl⟩ : ∃ k, N = k + 1 := ⟨N - 1, by omega⟩
    show ∃ τ, fFX1_dive (fRX1_dive N) (nI u) w (Int64.ofInt (L - a)) (nI d) σ = some τ ∧ _
    have hd : (d : Int) ≤ 12 := by omega
    by_cases e : u = t
    · subst e
      exact atGoal N d w L a B σ 0 U ha (by omega) hB hn h3
    · unfold fFX1_dive
      rw [hn.2.2.2.1, if_neg (show ¬ nI u = nI t by rw [kn_eq (by omega) (by omega)]; exact e), if_neg (show ¬ nI d < (12 : Int32) by rw [kn_12, kn_lt (by omega) (by omega)]; omega), kr_sx_0 e, kr_mn_n]
      exact ⟨σ, rfl, kx_o7_r 3 σ, h3⟩
  | succ f ih =>
    intro N d u U w L a B σ hdf hfN hu ha hbw hL hB hn h3
    obtain ⟨N, rfl⟩ : ∃ k, N = k + 1 := ⟨N - 1, by omega⟩
    show ∃ τ, fFX1_dive (fRX1_dive N) (nI u) w (Int64.ofInt (L - a)) (nI d) σ = some τ ∧ _
    have hd : (d : Int) ≤ 11 := by omega
    by_cases e : u = t
    · subst e
      exact atGoal N d w L a B σ (f + 1) U ha (by omega) hB hn h3
    unfold fFX1_dive
    rw [hn.2.2.2.1, if_neg (show ¬ nI u = nI t by rw [kn_eq (by omega) (by omega)]; exact e), if_pos (show nI d < (12 : Int32) by rw [kn_12, kn_lt (by omega) (by omega)]; omega), kr_sx_s e, ← kr_fm_b]
    have ba := kb_D_in2 hw.2.2.2.1 h12 u a ha
    have hb12 : ∀ k, k ≤ m → kr_b12 (kr_fm B (kr_sv (km_gr F m (-1)) t D f u U L) k) := fun k hk => kr_b12_fm hB k (fun i hi => kr_sv_b12 (d := d) hlen (by show i < m; omega) (by omega) hL)
    obtain ⟨x, hx, x1, x2⟩ := kw_for (body := fun s => bX1_dive_51 (fRX1_dive N) (nI u) w (Int64.ofInt (L - a)) (nI d) s.1 s.2) (fun k s => s.1 = nI k ∧ kx_o7 3 σ s.2 ∧ s.2.2 7 3 = kx_enc (kr_plus (kr_fm B (kr_sv (km_gr F m (-1)) t D f u U L) k) (some (-D)))) (fun x => kx_o7 3 σ x ∧ x.2 7 3 = kx_enc (kr_plus (kr_fm B (kr_sv (km_gr F m (-1)) t D f u U L) m) (some (-D)))) m (by omega) (s0 := ((0 : Int32), σ)) ⟨rfl, kx_o7_r 3 σ, h3⟩ (fun k s hk hp => by
      obtain ⟨v, τ⟩ := s
      obtain ⟨rfl, ho, h3τ⟩ := hp
      dsimp only at ho h3τ ⊢
      have hnτ := kx_nx_o hn ho
      unfold bX1_dive_51
      rw [show τ.1 12 1 = nI m from hnτ.1.2.1.trans hw.2.2.2.1.2.1]
      by_cases hkm : k < m
      case neg =>
        right
        obtain rfl : k = m := by omega
        rw [if_pos (nI_le (Nat.le_refl k) (by omega))]
        exact ⟨_, rfl, ho, h3τ⟩
      left
      refine ⟨hkm, ?_⟩
      obtain ⟨hfr, hto, hl1, hl2⟩ := hw.2.2.2.1.2.2 k hkm
      obtain ⟨x18, x19, x20⟩ := hnτ.1.2.2.1 k hkm
      have e18 : τ.1 18 k = F (28 + 4 * k + 0) := x18
      have e19 : τ.1 19 k = nI (F (28 + 4 * k + 1)).toNatClampNeg := (show τ.1 19 k = F (28 + 4 * k + 1) from x19).trans (kw_in_nI_of hto (by decide))
      have hu2 := kb_op (F := F) hm hkm
      have hton : (F (28 + 4 * k + 1)).toNatClampNeg < n := (hw.2.2.2.2 k hkm).2.1
      have skip : kr_ls (kr_sv (km_gr F m (-1)) t D f u U L k) (kr_fm B (kr_sv (km_gr F m (-1)) t D f u U L) k) = false → ∃ s', (some (Sum.inl (nI (k + 1), τ)) : Option ((Int32 × kw_M) ⊕ kw_M)) = some (Sum.inl s') ∧ s'.1 = nI (k + 1) ∧ kx_o7 3 σ s'.2 ∧ s'.2.2 7 3 = kx_enc (kr_plus (kr_fm B (kr_sv (km_gr F m (-1)) t D f u U L) (k + 1)) (some (-D))) := fun q => ⟨_, rfl, rfl, ho, by rw [kr_fm_s, kr_mn_no q]; exact h3τ⟩
      have skip0 : ¬ ((km_gr F m (-1)).2.2.2.2 k = true ∧ (km_gr F m (-1)).2.1 k = u ∧ U ((km_gr F m (-1)).2.2.1 k) = false) → ∃ s', (some (Sum.inl (nI (k + 1), τ)) : Option ((Int32 × kw_M) ⊕ kw_M)) = some (Sum.inl s') ∧ s'.1 = nI (k + 1) ∧ kx_o7 3 σ s'.2 ∧ s'.2.2 7 3 = kx_enc (kr_plus (kr_fm B (kr_sv (km_gr F m (-1)) t D f u U L) (k + 1)) (some (-D))) := fun q => skip (by rw [kr_sv_no q]; rfl)
      unfold jX1_dive_96_L51 jX1_dive_97_L51
      rw [if_neg (nI_ge hkm (by omega))]
      simp (disch := omega) only [kn_chk, kn_clamp, kw_let_def, e18, e19, kw_in_eq hfr (show u < 12 by omega), kw_dnI (show (F (28 + 4 * k + 1)).toNatClampNeg < 32 by omega), kx_fl_0, hbw _ (show (F (28 + 4 * k + 1)).toNatClampNeg < 32 by omega), kw_dnL (w := τ.2 7 4) (show k < 36 by omega), hnτ.2.2.2.2 k hkm, km_next, if_true]
      rw [if_neg (show ¬ (1 : Int32) = 0 by decide)]
      by_cases c1 : (F (28 + 4 * k + 0)).toNatClampNeg = u
      case neg =>
        rw [if_neg c1]
        exact skip0 (fun q => c1 q.2.1)
      rw [if_pos c1]
      cases c2 : U (F (28 + 4 * k + 1)).toNatClampNeg with
      | true =>
        rw [kn_tf]
        exact skip0 (fun q => by
          have q3 : U (F (28 + 4 * k + 1)).toNatClampNeg = false := q.2.2
          rw [c2] at q3
          cases q3)
      | false =>
        rw [kn_ff]
        cases c3 : kb_us F k with
        | false =>
          rw [kn_ff]
          by_cases c4 : F (28 + 4 * k + 3) = 1
          case neg => exact skip0 (fun q => c4 (by have := q.1; rw [hu2, decide_eq_true_eq] at this; exact this))
          -- a twin before
          have hany : kr_anyTo (kb_tw F k) k = true := by
            cases q : kr_anyTo (kb_tw F k) k with
            | true => rfl
            | false =>
              unfold kb_us at c3
              rw [decide_eq_true c4, q] at c3
              cases c3
          obtain ⟨j, hj, hjt⟩ : ∃ j, j < k ∧ kb_tw F k j = true := Classical.byContradiction (fun hno => by
            rw [kr_anyTo_f k (fun j hj => by
              cases q : kb_tw F k j with
              | false => rfl
              | true => exact absurd ⟨j, hj, q⟩ hno)] at hany
            cases hany)
          unfold kb_tw at hjt
          rw [Bool.and_eq_true, Bool.and_eq_true, Bool.and_eq_true, decide_eq_true_eq, decide_eq_true_eq, decide_eq_true_eq, decide_eq_true_eq] at hjt
          obtain ⟨j0, j1, j2, j3⟩ := hjt
          have huj := kb_op (F := F) hm (show j < m by omega)
          have ev : kr_sv (km_gr F m (-1)) t D f u U L k = kr_sv (km_gr F m (-1)) t D f u U L j := by
            have g1 : (km_gr F m (-1)).2.1 j = (km_gr F m (-1)).2.1 k := by show (F (28 + 4 * j + 0)).toNatClampNeg = (F (28 + 4 * k + 0)).toNatClampNeg; rw [j0]
            have g2 : (km_gr F m (-1)).2.2.1 j = (km_gr F m (-1)).2.2.1 k := by show (F (28 + 4 * j + 1)).toNatClampNeg = (F (28 + 4 * k + 1)).toNatClampNeg; rw [j1]
            have g3 : (km_gr F m (-1)).2.2.2.1 j = (km_gr F m (-1)).2.2.2.1 k := by show (F (28 + 4 * j + 2)).toInt = (F (28 + 4 * k + 2)).toInt; rw [j2]
            unfold kr_sv
            rw [g1, g2, g3, hu2, huj, decide_eq_true c4, decide_eq_true j3]
          exact skip (by rw [ev]; exact kr_fm_le k j hj)
        | true =>
          rw [kn_tf]
          have c4 : F (28 + 4 * k + 3) = 1 := by
            unfold kb_us at c3
            rw [Bool.and_eq_true, decide_eq_true_eq] at c3
            exact c3.1
          have hopen : (km_gr F m (-1)).2.2.2.2 k = true := by rw [hu2]; exact decide_eq_true c4
          have hfu : (km_gr F m (-1)).2.1 k = u := c1
          have hUf : U ((km_gr F m (-1)).2.2.1 k) = false := c2
          obtain ⟨b, hb, _⟩ := kr_D_rd (n := n) (o := o) hg htn hon (show k < (km_gr F m (-1)).1 from hkm) hopen (a := a) (by rw [hfu]; exact ha)
          have hb' : kb_D F n m o (F (28 + 4 * k + 1)).toNatClampNeg = some b := hb
          have bb := kb_D_in2 hw.2.2.2.1 h12 _ b hb'
          have hsl : kr_slack (km_gr F m (-1)) (kb_D F n m o) k = some (a + (F (28 + 4 * k + 2)).toInt - b) := by
            unfold kr_slack
            rw [hfu, ha, show kb_D F n m o ((km_gr F m (-1)).2.2.1 k) = some b from hb]
            rfl
          have hpl : Int64.ofInt (L - a) + kx_enc (some (a + (F (28 + 4 * k + 2)).toInt - b)) = Int64.ofInt (L + (F (28 + 4 * k + 2)).toInt - b) := by
            rw [show kx_enc (some (a + (F (28 + 4 * k + 2)).toInt - b)) = Int64.ofInt (a + (F (28 + 4 * k + 2)).toInt - b) from rfl, kw_addL (by omega) (by omega) (by omega) (by omega)]
            congr 1
            omega
          rw [kx_slack hnτ.1 hw.2.2.2.1 hkm hnτ.2.2.1 (kb_row hok), hsl]
          simp only [Option.bind_some, hpl]
          rw [kx_mayHelp hw hnτ ht hton hb' hD h3τ (hb12 k (by omega)) (L := L + (F (28 + 4 * k + 2)).toInt) (by omega), Option.bind_some]
          simp only [kx_fl_0]
          have esv := kr_sv_in (goal := t) (f := f) (thr := D) (L := L) hopen hfu hUf
          have low : ∀ z, kr_sv (km_gr F m (-1)) t D f u U L k = some z → ∃ p, kb_D F n m (F (28 + 4 * k + 1)).toNatClampNeg t = some p ∧ L + (F (28 + 4 * k + 2)).toInt + p ≤ z := fun z hz => by
            rw [esv] at hz
            exact kr_sx_lo hg htn ht _ _ _ _ _ hton hz
          cases hp : kb_D F n m (F (28 + 4 * k + 1)).toNatClampNeg t with
          | none =>
            dsimp only
            rw [kn_ff]
            refine skip ?_
            cases q : kr_sv (km_gr F m (-1)) t D f u U L k with
            | none => rfl
            | some z =>
              obtain ⟨p, hp', _⟩ := low z q
              rw [hp] at hp'
              cases hp'
          | some p =>
            dsimp only
            have hlsb : kr_ls (some (L + (F (28 + 4 * k + 2)).toInt + p)) (kr_fm B (kr_sv (km_gr F m (-1)) t D f u U L) k) = false ∨ kr_ls (some (L + (F (28 + 4 * k + 2)).toInt + p)) (kr_fm B (kr_sv (km_gr F m (-1)) t D f u U L) k) = true := by
              cases kr_ls (some (L + (F (28 + 4 * k + 2)).toInt + p)) (kr_fm B (kr_sv (km_gr F m (-1)) t D f u U L) k)
              · exact Or.inl rfl
              · exact Or.inr rfl
            rcases hlsb with hls | hls
            · rw [if_pos hls]
              refine skip ?_
              cases q : kr_sv (km_gr F m (-1)) t D f u U L k with
              | none => rfl
              | some z =>
                obtain ⟨p', hp', hle⟩ := low z q
                rw [hp] at hp'
                cases hp'
                cases hf : kr_fm B (kr_sv (km_gr F m (-1)) t D f u U L) k with
                | none => rw [hf] at hls; cases hls
                | some y =>
                  rw [hf] at hls
                  have h1 : decide (L + (F (28 + 4 * k + 2)).toInt + p < y) = false := hls
                  rw [decide_eq_false_iff_not] at h1
                  show decide (z < y) = false
                  rw [decide_eq_false_iff_not]
                  omega
            · rw [if_neg (show ¬ kr_ls (some (L + (F (28 + 4 * k + 2)).toInt + p)) (kr_fm B (kr_sv (km_gr F m (-1)) t D f u U L) k) = false by rw [hls]; decide)]
              obtain ⟨τ2, r1, r2, r3⟩ := ih N (d + 1) (F (28 + 4 * k + 1)).toNatClampNeg (fun q => U q || decide (q = (F (28 + 4 * k + 1)).toNatClampNeg)) (w ||| ((1 : Int32) <<< (nI (F (28 + 4 * k + 1)).toNatClampNeg &&& 31))) (L + (F (28 + 4 * k + 2)).toInt) b (kr_fm B (kr_sv (km_gr F m (-1)) t D f u U L) k) τ (by omega) (by omega) hton hb' (fun q hq => by rw [kw_bI_or, kw_upI (by omega) q hq, hbw q hq]) (by omega) (hb12 k (by omega)) hnτ h3τ
              rw [r1, Option.bind_some]
              refine ⟨_, rfl, rfl, kx_o7_t ho r2, ?_⟩
              rw [kr_fm_s, esv]
              exact r3)
    rw [hx, Option.bind_some]
    exact ⟨x, rfl, x1, x2⟩
