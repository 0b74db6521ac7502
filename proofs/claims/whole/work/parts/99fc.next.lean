/-! The next longer way: the class's dive along shortest ways. -/
/-- within what lengths may come up there -/
def kr_bT (v : Option Int) : Prop := ∀ z, v = some z → -1000000000000 ≤ z ∧ z ≤ 1000000000000
theorem kr_bT_mn {a b : Option Int} (ha : kr_bT a) (hb : kr_bT b) : kr_bT (kr_mn a b) := by
  unfold kr_mn
  split
  · exact hb
  · exact ha
theorem kr_bT_fm {b : Option Int} {v : Nat → Option Int} (hb : kr_bT b) : ∀ k : Nat, (∀ i, i < k → kr_bT (v i)) → kr_bT (kr_fm b v k)
  | 0, _ => hb
  | k + 1, h => kr_bT_mn (kr_bT_fm hb k (fun i hi => h i (by omega))) (h k (by omega))
theorem kr_bT_bd {a : Option Int} (h : kr_bT a) : kr_bd a := fun z hz => by have := h z hz; omega
theorem kr_bT_none : kr_bT none := fun z hz => by cases hz
/-- the least length by road r on from u, whose distance is a -/
def kb_al (F : Nat → Int32) (n m t : Nat) (U : Nat → Bool) (a : Int) (r : Nat) : Option Int := kr_plus (some (a + (F (28 + 4 * r + 2)).toInt)) (kr_dst (kb_rsg F m U) n t (F (28 + 4 * r + 1)).toNatClampNeg)
def kb_on (F : Nat → Int32) (u r : Nat) : Bool := decide ((F (28 + 4 * r + 0)).toNatClampNeg = u) && kb_us F r
def kb_as (F : Nat → Int32) (n m t : Nat) (U : Nat → Bool) (a D : Int) (u r : Nat) : Bool := kb_on F u r && decide (kb_al F n m t U a r = some D)
def kb_v1 (F : Nat → Int32) (n m t : Nat) (U : Nat → Bool) (a D : Int) (u r : Nat) : Option Int := if kb_on F u r = true then (if kb_al F n m t U a r = some D then none else kb_al F n m t U a r) else none
def kb_v2 (F : Nat → Int32) (n m t : Nat) (U : Nat → Bool) (a D : Int) (u f r : Nat) : Option Int := if kb_as F n m t U a D u r = true then kr_sx (km_gr F m (-1)) t D f (F (28 + 4 * r + 1)).toNatClampNeg (fun q => U q || decide (q = (F (28 + 4 * r + 1)).toNatClampNeg)) (a + (F (28 + 4 * r + 2)).toInt) else none
theorem kb_rsg_in {F : Nat → Int32} {n m t : Nat} {U : Nat → Bool} (hw : kb_wf F n m) : kr_in (kr_dst (kb_rsg F m U) n t) 400000000000 := by
  have hlen : ∀ r, r < (kb_rsg F m U).1 → -1000000000 ≤ (kb_rsg F m U).2.2.2.1 r ∧ (kb_rsg F m U).2.2.2.1 r ≤ 1000000000 := km_wf_len hw.2.2.2.1 (-1)
  refine kr_in_mono (km_bf_in (g := kb_rsg F m U) (o := t) hw.2.2.2.1.1 hlen (n - 1)) ?_
  have : ((n - 1 : Nat) : Int) ≤ 11 := by have := hw.2.2.1; omega
  omega
theorem kb_al_b {F : Nat → Int32} {n m t r : Nat} {U : Nat → Bool} {a : Int} (hw : kb_wf F n m) (ha : -400000000000 ≤ a ∧ a ≤ 400000000000) (hr : r < m) : kr_bT (kb_al F n m t U a r) := fun z hz => by
  obtain ⟨_, _, hl1, hl2⟩ := hw.2.2.2.1.2.2 r hr
  unfold kb_al at hz
  cases hp : kr_dst (kb_rsg F m U) n t (F (28 + 4 * r + 1)).toNatClampNeg with
  | none =>
    rw [hp] at hz
    cases hz
  | some p =>
    rw [hp] at hz
    have hz' : some (a + (F (28 + 4 * r + 2)).toInt + p) = some z := hz
    cases hz'
    have := kb_rsg_in hw _ p hp
    omega
theorem kb_v1_b {F : Nat → Int32} {n m t u r : Nat} {U : Nat → Bool} {a D : Int} (hw : kb_wf F n m) (ha : -400000000000 ≤ a ∧ a ≤ 400000000000) (hr : r < m) : kr_bT (kb_v1 F n m t U a D u r) := by
  unfold kb_v1
  split
  · split
    · exact kr_bT_none
    · exact kb_al_b hw ha hr
  · exact kr_bT_none
theorem kb_v2_b {F : Nat → Int32} {n m t u f r : Nat} {U : Nat → Bool} {a D : Int} (hw : kb_wf F n m) (ha : -400000000000 ≤ a ∧ a ≤ 400000000000) (hf : f ≤ 12) (hr : r < m) : kr_bT (kb_v2 F n m t U a D u f r) := by
  unfold kb_v2
  split
  · intro z hz
    have h := kr_sx_bd (km_wf_len hw.2.2.2.1 (-1)) _ _ _ _ _ hz
    obtain ⟨_, _, hl1, hl2⟩ := hw.2.2.2.1.2.2 r hr
    have : (f : Int) ≤ 12 := by omega
    omega
  · exact kr_bT_none
/-- the first loop of dive: what leaves the shortest ways, and the roads on along them -/
theorem kx_dive1 {σ : kw_M} {F : Nat → Int32} {n m o t u : Nat} {U : Nat → Bool} {a D : Int} {B : Option Int} {rec : Int32 → Int32 → Int32 → kw_M → Option kw_M} {w v3 : Int32} (hok : kb_ok F n m o) (ht : t < n) (hu : u < n) (ha : kb_D F n m o u = some a) (hD : kb_D F n m o t = some D) (hB : kr_bT B) (hn : kx_nx σ F n m o t) (h47 : kx_rw σ 47 (kr_dst (kb_rsg F m U) n t)) (h3 : σ.2 7 3 = kx_enc B) : ∃ x, kw_loop (fun s => bX1_dive_35 rec (nI u) w v3 s.1 s.2.1 s.2.2) kw_F ((0 : Int64), (0 : Int32), σ) = some x ∧ (∀ i, i < 64 → kw_bL x.1 i = (decide (i < m) && kb_as F n m t U a D u i)) ∧ kx_o7 3 σ x.2 ∧ x.2.2 7 3 = kx_enc (kr_fm B (kb_v1 F n m t U a D u) m) := by
  have hw := hok.1
  have h12 := hw.2.2.1
  have hm := hw.2.2.2.1.1
  have bA := kb_D_in2 hw.2.2.2.1 h12 u a ha
  have bD := kb_D_in2 hw.2.2.2.1 h12 t D hD
  have hbk : ∀ k, k ≤ m → kr_bT (kr_fm B (kb_v1 F n m t U a D u) k) := fun k hk => kr_bT_fm hB k (fun i hi => kb_v1_b hw bA (by omega))
  refine kw_for (body := fun s => bX1_dive_35 rec (nI u) w v3 s.1 s.2.1 s.2.2) (fun k s => s.2.1 = nI k ∧ (∀ i, i < 64 → kw_bL s.1 i = (decide (i < k) && kb_as F n m t U a D u i)) ∧ kx_o7 3 σ s.2.2 ∧ s.2.2.2 7 3 = kx_enc (kr_fm B (kb_v1 F n m t U a D u) k)) (fun x => (∀ i, i < 64 → kw_bL x.1 i = (decide (i < m) && kb_as F n m t U a D u i)) ∧ kx_o7 3 σ x.2 ∧ x.2.2 7 3 = kx_enc (kr_fm B (kb_v1 F n m t U a D u) m)) m (by omega) (s0 := ((0 : Int64), (0 : Int32), σ)) ⟨rfl, fun i hi => by
    dsimp only
    rw [kw_bL_0, decide_eq_false (Nat.not_lt_zero i)]
    rfl, kx_o7_r 3 σ, h3⟩ (fun k s hk hp => by
    obtain ⟨v5, v7, τ⟩ := s
    obtain ⟨e1, hb, ho, h3τ⟩ := hp
    dsimp only at e1 hb ho h3τ ⊢
    subst e1
    have hnτ := kx_nx_o hn (kx_oN_7 ho)
    unfold bX1_dive_35
    rw [show τ.1 12 1 = nI m from hnτ.1.2.1.trans hw.2.2.2.1.2.1]
    by_cases hkm : k < m
    case neg =>
      right
      obtain rfl : k = m := by omega
      rw [if_pos (nI_le (Nat.le_refl k) (by omega))]
      exact ⟨_, rfl, hb, ho, h3τ⟩
    left
    refine ⟨hkm, ?_⟩
    obtain ⟨hfr, hto, hl1, hl2⟩ := hw.2.2.2.1.2.2 k hkm
    have hfl := kw_in_lt hfr
    have htl := kw_in_lt hto
    obtain ⟨x18, x19, x20⟩ := hnτ.1.2.2.1 k hkm
    have e18 : τ.1 18 k = F (28 + 4 * k + 0) := x18
    have e19 : τ.1 19 k = nI (F (28 + 4 * k + 1)).toNatClampNeg := (show τ.1 19 k = F (28 + 4 * k + 1) from x19).trans (kw_in_nI_of hto (by decide))
    have e20 : τ.1 20 k = F (28 + 4 * k + 2) := x20
    have same : kb_as F n m t U a D u k = false → ∀ i, i < 64 → kw_bL v5 i = (decide (i < k + 1) && kb_as F n m t U a D u i) := fun q i hi => by
      rw [hb i hi]
      by_cases e : i = k
      · rw [e, q, Bool.and_false, Bool.and_false]
      · rw [decide_eq_decide.mpr (show i < k ↔ i < k + 1 by omega)]
    have skip : kb_on F u k = false → ∃ s', (some (Sum.inl (v5, nI (k + 1), τ)) : Option ((Int64 × Int32 × kw_M) ⊕ (Int64 × kw_M))) = some (Sum.inl s') ∧ s'.2.1 = nI (k + 1) ∧ (∀ i, i < 64 → kw_bL s'.1 i = (decide (i < k + 1) && kb_as F n m t U a D u i)) ∧ kx_o7 3 σ s'.2.2 ∧ s'.2.2.2 7 3 = kx_enc (kr_fm B (kb_v1 F n m t U a D u) (k + 1)) := fun q => by
      refine ⟨_, rfl, rfl, same (by unfold kb_as; rw [q]; rfl), ho, ?_⟩
      rw [kr_fm_s, show kb_v1 F n m t U a D u k = none by unfold kb_v1; rw [q, kn_ft], kr_mn_n]
      exact h3τ
    rw [if_neg (nI_ge hkm (by omega)), kn_chk (by omega) (by decide), kn_clamp (by omega), kx_isUseful hnτ hm hkm, e18]
    simp only [kw_in_eq hfr (show u < 12 by omega), Option.bind_some, kx_fl_0, kw_let_def, km_next]
    by_cases c1 : (F (28 + 4 * k + 0)).toNatClampNeg = u
    case neg =>
      rw [if_neg c1]
      exact skip (by unfold kb_on; rw [decide_eq_false c1]; rfl)
    rw [if_pos c1]
    cases c2 : kb_us F k with
    | false =>
      rw [kn_ff]
      exact skip (by unfold kb_on; rw [c2, Bool.and_false])
    | true =>
      have hon : kb_on F u k = true := by
        unfold kb_on
        rw [decide_eq_true c1, c2]
        rfl
      have bal := kr_bT_bd (kb_al_b (t := t) (U := U) hw bA hkm)
      have hrow : τ.2 47 (F (28 + 4 * k + 1)).toNatClampNeg = kx_enc (kr_dst (kb_rsg F m U) n t (F (28 + 4 * k + 1)).toNatClampNeg) := by
        rw [ho.2.1 47 (by decide)]
        exact h47 _ htl
      have hsum : τ.2 16 u + (F (28 + 4 * k + 2)).toInt64 = kx_enc (some (a + (F (28 + 4 * k + 2)).toInt)) := by
        rw [hnτ.2.1 u (by omega), ha]
        exact km_add (by omega) (by omega)
      have hal : kr_plus (some (a + (F (28 + 4 * k + 2)).toInt)) (kr_dst (kb_rsg F m U) n t (F (28 + 4 * k + 1)).toNatClampNeg) = kb_al F n m t U a k := rfl
      rw [kn_tf, kn_chk (by omega) (by decide), e19, kn_chk (by omega) (by decide), kn_clamp (by omega), kn_clamp (by omega), e20, hsum, hrow, kx_joined (fun z hz => by cases hz; omega) (kr_bd_in (kb_rsg_in hw) (by decide) _), Option.bind_some, hal, hnτ.2.2.1, kn_chk (by omega) (by decide), kn_clamp (by omega), hnτ.2.1 t (by omega), hD, h3τ]
      simp only [kx_enc_eq bal (show kr_bd (some D) from fun z hz => by cases hz; omega)]
      by_cases c3 : kb_al F n m t U a k = some D
      · rw [if_pos c3]
        refine ⟨_, rfl, rfl, fun i hi => ?_, ho, ?_⟩
        · dsimp only
          rw [kw_bL_or, hb i hi, kw_upL (by omega) i hi]
          by_cases e : i = k
          · rw [e, decide_eq_true rfl, Bool.or_true, decide_eq_true (show k < k + 1 by omega)]
            unfold kb_as
            rw [hon, decide_eq_true c3]
            rfl
          · rw [decide_eq_false e, Bool.or_false, decide_eq_decide.mpr (show i < k ↔ i < k + 1 by omega)]
        · rw [kr_fm_s, show kb_v1 F n m t U a D u k = none by unfold kb_v1; rw [hon, kn_tt, if_pos c3], kr_mn_n]
          exact h3τ
      · have hv1 : kb_v1 F n m t U a D u k = kb_al F n m t U a k := by
          unfold kb_v1
          rw [hon, kn_tt, if_neg c3]
        have hsm := same (by unfold kb_as; rw [decide_eq_false c3, Bool.and_false])
        rw [if_neg c3, kx_isLess bal (kr_bT_bd (hbk k (by omega))), Option.bind_some]
        simp only [kx_fl_0]
        cases hl : kr_ls (kb_al F n m t U a k) (kr_fm B (kb_v1 F n m t U a D u) k) with
        | false =>
          rw [kn_ff]
          refine ⟨_, rfl, rfl, hsm, ho, ?_⟩
          rw [kr_fm_s, hv1, kr_mn_no hl]
          exact h3τ
        | true =>
          rw [kn_tf]
          refine ⟨_, rfl, rfl, hsm, kx_o7_t ho (kx_o7_sl 3 τ _), ?_⟩
          dsimp only
          rw [kw_sl_2, kw_updL_e, kr_fm_s, hv1, kr_mn_ls hl])
theorem kx_dive {F : Nat → Int32} {n m o t : Nat} {D : Int} (hok : kb_ok F n m o) (ht : t < n) (hD : kb_D F n m o t = some D) : ∀ (f N d u : Nat) (U : Nat → Bool) (w : Int32) (a : Int) (B : Option Int) (σ : kw_M), d + f = 12 → f < N → u < n → kb_D F n m o u = some a → (∀ q, q < 32 → kw_bI w q = U q) → (u ≠ t → U t = false) → kr_cntb U 12 = d + 1 → kr_bT B → kx_nx σ F n m o t → σ.2 7 3 = kx_enc B → ∃ τ, fRX1_dive N (nI u) w (nI d) σ = some τ ∧ kx_oN σ τ ∧ τ.2 7 3 = kx_enc (kr_mn B (kr_sx (km_gr F m (-1)) t D f u U a)) := by
  have hw := hok.1
  have h12 := hw.2.2.1
  have hm := hw.2.2.2.1.1
  have hg := hok.2.2.2.1
  have htn := kb_tn hw (-1)
  have hon := hok.2.2.1
  intro f
  induction f with
  | zero =>
    intro N d u U w a B σ hdf hfN hu ha hbw hUt hcnt hB hn h3
    have := kr_cntb_le U 12
    omega
  | succ f ih =>
    intro N d u U w a B σ hdf hfN hu ha hbw hUt hcnt hB hn h3
    have hcl := kr_cntb_le U 12
    have bA := kb_D_in2 hw.2.2.2.1 h12 u a ha
    obtain ⟨N, rfl⟩ : ∃ k, N = k + 1 := ⟨N - 1, by omega⟩
    show ∃ τ, fFX1_dive (fRX1_dive N) (nI u) w (nI d) σ = some τ ∧ _
    unfold fFX1_dive
    rw [hn.2.2.1]
    by_cases e : u = t
    · subst e
      rw [hD] at ha
      cases ha
      rw [if_pos rfl, kr_sx_g, if_neg (by omega), kr_mn_n]
      exact ⟨σ, rfl, kx_oN_r σ, h3⟩
    rw [if_neg (show ¬ nI u = nI t by rw [kn_eq (by omega) (by omega)]; exact e), if_pos (show nI d < (12 : Int32) by rw [kn_12, kn_lt (by omega) (by omega)]; omega), kr_sx_s e]
    obtain ⟨σ1, r1, r2, r3⟩ := kx_rest (U := U) hok ht hn hbw
    have hn1 := kx_nx_o hn (kx_oN_L r3)
    have h31 : σ1.2 7 3 = kx_enc B := by rw [r3.2 7 (by decide)]; exact h3
    obtain ⟨y, y1, y2, y3, y4⟩ := kx_dive1 (U := U) (rec := fRX1_dive N) (w := w) (v3 := nI d) hok ht hu ha hD hB hn1 r2 h31
    rw [r1, Option.bind_some, y1, Option.bind_some]
    have hn2 := kx_nx_o hn1 (kx_oN_7 y3)
    have hb1 : kr_bT (kr_fm B (kb_v1 F n m t U a D u) m) := kr_bT_fm hB m (fun i hi => kb_v1_b hw bA hi)
    have hb2 : ∀ k, k ≤ m → kr_bT (kr_fm (kr_fm B (kb_v1 F n m t U a D u) m) (kb_v2 F n m t U a D u f) k) := fun k hk => kr_bT_fm hb1 k (fun i hi => kb_v2_b hw bA (by omega) (by omega))
    -- what a useful road on from u gives
    have key : ∀ r, r < m → kb_on F u r = true → (kb_al F n m t U a r = none ∧ kr_sv (km_gr F m (-1)) t D f u U a r = none) ∨ (kb_al F n m t U a r ≠ some D ∧ kr_sv (km_gr F m (-1)) t D f u U a r = kb_al F n m t U a r) ∨ (kb_al F n m t U a r = some D ∧ U (F (28 + 4 * r + 1)).toNatClampNeg = false ∧ kb_D F n m o (F (28 + 4 * r + 1)).toNatClampNeg = some (a + (F (28 + 4 * r + 2)).toInt) ∧ kr_sv (km_gr F m (-1)) t D f u U a r = kb_v2 F n m t U a D u f r) := fun r hr hor => by
      have hor' := hor
      unfold kb_on at hor'
      rw [Bool.and_eq_true, decide_eq_true_eq] at hor'
      rcases kr_sv_rest (g := km_gr F m (-1)) (uf := kb_us F) (U := U) (n := n) (o := o) (t := t) (u := u) (f := f) (r := r) (a := a) (D := D) hg htn h12 hon ht (kb_us_op hm) (kb_us_tw hm) (hUt e) ha hD (by omega) hr hor'.2 hor'.1 with ⟨k1, k2⟩ | ⟨p, k1, k2, k3⟩
      · left
        refine ⟨?_, k2⟩
        unfold kb_al
        rw [show kr_dst (kb_rsg F m U) n t (F (28 + 4 * r + 1)).toNatClampNeg = none from k1]
        rfl
      · right
        have hal : kb_al F n m t U a r = some (a + (F (28 + 4 * r + 2)).toInt + p) := by
          unfold kb_al
          rw [show kr_dst (kb_rsg F m U) n t (F (28 + 4 * r + 1)).toNatClampNeg = some p from k1]
          rfl
        rcases k3 with ⟨k4, k5⟩ | ⟨k4, k5⟩
        · left
          have k4' : D < a + (F (28 + 4 * r + 2)).toInt + p := k4
          refine ⟨fun q => ?_, k5.trans hal.symm⟩
          rw [hal] at q
          cases q
          omega
        · right
          have k4' : a + (F (28 + 4 * r + 2)).toInt + p = D := k4
          have hal2 : kb_al F n m t U a r = some D := by rw [hal, k4']
          refine ⟨hal2, k2, k5, ?_⟩
          have has : kb_as F n m t U a D u r = true := by
            unfold kb_as
            rw [hor, decide_eq_true hal2]
            rfl
          unfold kb_v2
          rw [has, kn_tt]
          exact kr_sv_in (kb_us_op hm r hr hor'.2) hor'.1 k2
    have comb : kr_fm (kr_fm B (kb_v1 F n m t U a D u) m) (kb_v2 F n m t U a D u f) m = kr_mn B (kr_fm none (kr_sv (km_gr F m (-1)) t D f u U a) m) := by
      refine kr_fm_two (fun i hi z hz => ?_) (fun i hi z hz => ?_) (fun i hi z hz => ?_)
      · unfold kb_v1 at hz
        by_cases c : kb_on F u i = true
        · rw [if_pos c] at hz
          by_cases c2 : kb_al F n m t U a i = some D
          · rw [if_pos c2] at hz
            cases hz
          · rw [if_neg c2] at hz
            rcases key i hi c with ⟨k1, k2⟩ | ⟨k1, k2⟩ | ⟨k1, k2⟩
            · rw [k1] at hz
              cases hz
            · rw [k2]
              exact hz
            · exact absurd k1 c2
        · rw [if_neg c] at hz
          cases hz
      · have hz' := hz
        unfold kb_v2 at hz'
        by_cases c : kb_as F n m t U a D u i = true
        · have c' := c
          unfold kb_as at c'
          rw [Bool.and_eq_true, decide_eq_true_eq] at c'
          rcases key i hi c'.1 with ⟨k1, k2⟩ | ⟨k1, k2⟩ | ⟨k1, k2, k3, k4⟩
          · rw [c'.2] at k1
            cases k1
          · exact absurd c'.2 k1
          · rw [k4]
            exact hz
        · rw [if_neg c] at hz'
          cases hz'
      · obtain ⟨s1, s2, s3, s4⟩ := kr_sv_some hz
        obtain ⟨j, j1, j2, j3, j4, j5⟩ := kb_us_tw hm i hi s1
        have ev : kr_sv (km_gr F m (-1)) t D f u U a j = some z := by
          rw [← hz]
          unfold kr_sv
          rw [j3, j4, j5, s1, kb_us_op hm j j1 j2]
        have hj : kb_on F u j = true := by
          unfold kb_on
          rw [j2, decide_eq_true (show (F (28 + 4 * j + 0)).toNatClampNeg = u from j3.trans s2)]
          rfl
        refine ⟨j, j1, ?_⟩
        rcases key j j1 hj with ⟨k1, k2⟩ | ⟨k1, k2⟩ | ⟨k1, k2, k3, k4⟩
        · rw [ev] at k2
          cases k2
        · left
          unfold kb_v1
          rw [hj, kn_tt, if_neg k1, ← k2]
          exact ev
        · right
          rw [← k4]
          exact ev
    obtain ⟨x, hx, x1, x2⟩ := kw_for (body := fun s => bX1_dive_163 (fRX1_dive N) w (nI d) y.1 s.1 s.2) (fun k s => s.1 = nI k ∧ kx_oN y.2 s.2 ∧ s.2.2 7 3 = kx_enc (kr_fm (kr_fm B (kb_v1 F n m t U a D u) m) (kb_v2 F n m t U a D u f) k)) (fun x => kx_oN y.2 x ∧ x.2 7 3 = kx_enc (kr_fm (kr_fm B (kb_v1 F n m t U a D u) m) (kb_v2 F n m t U a D u f) m)) m (by omega) (s0 := ((0 : Int32), y.2)) ⟨rfl, kx_oN_r _, y4⟩ (fun k s hk hp => by
      obtain ⟨v, τ⟩ := s
      obtain ⟨e1, ho, h3τ⟩ := hp
      dsimp only at e1 ho h3τ ⊢
      subst e1
      have hnτ := kx_nx_o hn2 ho
      unfold bX1_dive_163
      rw [show τ.1 12 1 = nI m from hnτ.1.2.1.trans hw.2.2.2.1.2.1]
      by_cases hkm : k < m
      case neg =>
        right
        obtain rfl : k = m := by omega
        rw [if_pos (nI_le (Nat.le_refl k) (by omega))]
        exact ⟨_, rfl, ho, h3τ⟩
      left
      refine ⟨hkm, ?_⟩
      obtain ⟨hfr, hto, hl1, hl2⟩ := hw.2.2.2.1.2.2 k hkm
      have htl := kw_in_lt hto
      obtain ⟨x18, x19, x20⟩ := hnτ.1.2.2.1 k hkm
      have e19 : τ.1 19 k = nI (F (28 + 4 * k + 1)).toNatClampNeg := (show τ.1 19 k = F (28 + 4 * k + 1) from x19).trans (kw_in_nI_of hto (by decide))
      have hton : (F (28 + 4 * k + 1)).toNatClampNeg < n := (hw.2.2.2.2 k hkm).2.1
      rw [if_neg (nI_ge hkm (by omega))]
      simp only [kw_dnL (w := y.1) (show k < 36 by omega), y2 k (by omega), decide_eq_true hkm, Bool.true_and, kw_let_def, km_next]
      cases c : kb_as F n m t U a D u k with
      | false =>
        rw [kn_ff]
        refine ⟨_, rfl, rfl, ho, ?_⟩
        rw [kr_fm_s, show kb_v2 F n m t U a D u f k = none by unfold kb_v2; rw [c, kn_ft], kr_mn_n]
        exact h3τ
      | true =>
        have c' := c
        unfold kb_as at c'
        rw [Bool.and_eq_true, decide_eq_true_eq] at c'
        rcases key k hkm c'.1 with ⟨k1, k2⟩ | ⟨k1, k2⟩ | ⟨k1, k2, k3, k4⟩
        · rw [c'.2] at k1
          cases k1
        · exact absurd c'.2 k1
        have hc2 := kr_cntb_add (U := U) (a := (F (28 + 4 * k + 1)).toNatClampNeg) (N := 12) (by omega) k2
        obtain ⟨τ2, q1, q2, q3⟩ := ih N (d + 1) (F (28 + 4 * k + 1)).toNatClampNeg (fun q => U q || decide (q = (F (28 + 4 * k + 1)).toNatClampNeg)) (w ||| ((1 : Int32) <<< (nI (F (28 + 4 * k + 1)).toNatClampNeg &&& 31))) (a + (F (28 + 4 * k + 2)).toInt) (kr_fm (kr_fm B (kb_v1 F n m t U a D u) m) (kb_v2 F n m t U a D u f) k) τ (by omega) (by omega) hton k3 (fun q hq => by rw [kw_bI_or, kw_upI (by omega) q hq, hbw q hq]) (fun q => by
          rw [hUt e, decide_eq_false (fun c => q c.symm)]
          rfl) (by rw [hc2, hcnt]) (hb2 k (by omega)) hnτ h3τ
        rw [kn_tf, kn_chk (by omega) (by decide), kn_clamp (by omega), e19, q1, Option.bind_some]
        refine ⟨_, rfl, rfl, kx_oN_t ho q2, ?_⟩
        dsimp only
        rw [kr_fm_s, show kb_v2 F n m t U a D u f k = kr_sx (km_gr F m (-1)) t D f (F (28 + 4 * k + 1)).toNatClampNeg (fun q => U q || decide (q = (F (28 + 4 * k + 1)).toNatClampNeg)) (a + (F (28 + 4 * k + 2)).toInt) by unfold kb_v2; rw [c, kn_tt]]
        exact q3)
    rw [hx, Option.bind_some]
    refine ⟨x, rfl, kx_oN_t (kx_oN_L r3) (kx_oN_t (kx_oN_7 y3) x1), ?_⟩
    rw [x2, comb]
    rfl
