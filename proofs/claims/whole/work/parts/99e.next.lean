/-! The next longer way: the class. -/
def kb_tw (F : Nat → Int32) (r q : Nat) : Bool := decide (F (28 + 4 * q + 0) = F (28 + 4 * r + 0)) && (decide (F (28 + 4 * q + 1) = F (28 + 4 * r + 1)) && (decide (F (28 + 4 * q + 2) = F (28 + 4 * r + 2)) && decide (F (28 + 4 * q + 3) = 1)))
def kb_us (F : Nat → Int32) (r : Nat) : Bool := decide (F (28 + 4 * r + 3) = 1) && !kr_anyTo (kb_tw F r) r
theorem kx_twin {σ : kw_M} {F : Nat → Int32} {m r : Nat} (hrd : kx_rd σ 12 F m) (hw : km_wf F m) (hr : r < m) : fX1_hasTwinBefore (nI r) σ = some (kx_fl (kr_anyTo (kb_tw F r) r)) := by
  have hm := hw.1
  obtain ⟨y18, y19, y20⟩ := hrd.2.2.1 r hr
  have f18 : σ.1 18 r = F (28 + 4 * r + 0) := y18
  have f19 : σ.1 19 r = F (28 + 4 * r + 1) := y19
  have f20 : σ.1 20 r = F (28 + 4 * r + 2) := y20
  obtain ⟨x, hx, e⟩ := kw_for (body := fun s => bX1_hasTwinBefore_10 (nI r) σ s) (fun k s => s = nI k ∧ kr_anyTo (kb_tw F r) k = false) (fun x => Sum.elim (fun a => some a) (fun _ => some (0 : Int32)) x = some (kx_fl (kr_anyTo (kb_tw F r) r))) r (by omega) (s0 := (0 : Int32)) ⟨rfl, rfl⟩ (fun k s hk hp => by
    obtain ⟨rfl, h1⟩ := hp
    unfold bX1_hasTwinBefore_10 jX1_hasTwinBefore_49_L10 jX1_hasTwinBefore_50_L10
    by_cases hkr : k < r
    case neg =>
      right
      obtain rfl : k = r := by omega
      rw [if_pos (nI_le (Nat.le_refl k) (by omega))]
      refine ⟨_, rfl, ?_⟩
      rw [h1]
      rfl
    obtain ⟨x18, x19, x20⟩ := hrd.2.2.1 k (by omega)
    have e18 : σ.1 18 k = F (28 + 4 * k + 0) := x18
    have e19 : σ.1 19 k = F (28 + 4 * k + 1) := x19
    have e20 : σ.1 20 k = F (28 + 4 * k + 2) := x20
    have nx : kb_tw F r k = false → kr_anyTo (kb_tw F r) (k + 1) = false := fun q => by
      show (kr_anyTo (kb_tw F r) k || kb_tw F r k) = false
      rw [h1, q]
      rfl
    rw [if_neg (nI_ge hkr (by omega)), kx_isOpenR hrd hw (by omega)]
    simp (disch := omega) only [kn_chk, kn_clamp, e18, e19, e20, f18, f19, f20, Option.bind_some, kx_fl_0, kw_let_def, km_next, if_true]
    rw [if_neg (show ¬ (1 : Int32) = 0 by decide)]
    by_cases c0 : F (28 + 4 * k + 0) = F (28 + 4 * r + 0)
    case neg =>
      left
      rw [if_neg c0]
      exact ⟨hkr, _, rfl, rfl, nx (by unfold kb_tw; rw [decide_eq_false c0]; rfl)⟩
    rw [if_pos c0]
    by_cases c1 : F (28 + 4 * k + 1) = F (28 + 4 * r + 1)
    case neg =>
      left
      rw [if_neg c1]
      exact ⟨hkr, _, rfl, rfl, nx (by unfold kb_tw; rw [decide_eq_false c1, Bool.false_and, Bool.and_false])⟩
    rw [if_pos c1]
    by_cases c2 : F (28 + 4 * k + 2) = F (28 + 4 * r + 2)
    case neg =>
      left
      rw [if_neg c2]
      exact ⟨hkr, _, rfl, rfl, nx (by unfold kb_tw; rw [decide_eq_false c2, Bool.false_and, Bool.and_false, Bool.and_false])⟩
    rw [if_pos c2]
    by_cases c3 : F (28 + 4 * k + 3) = 1
    case neg =>
      left
      rw [decide_eq_false c3, kn_ff]
      exact ⟨hkr, _, rfl, rfl, nx (by unfold kb_tw; rw [decide_eq_false c3, Bool.and_false, Bool.and_false, Bool.and_false])⟩
    right
    rw [decide_eq_true c3, kn_tf]
    refine ⟨_, rfl, ?_⟩
    rw [kr_anyTo_t r k hkr (by unfold kb_tw; rw [decide_eq_true c0, decide_eq_true c1, decide_eq_true c2, decide_eq_true c3]; rfl)]
    rfl)
  unfold fX1_hasTwinBefore
  rw [hx, Option.bind_some]
  exact e
/-- nothing but best changes -/
def kx_o7 (j : Nat) (σ τ : kw_M) : Prop := τ.1 = σ.1 ∧ (∀ c, c ≠ 7 → τ.2 c = σ.2 c) ∧ ∀ i, i ≠ j → τ.2 7 i = σ.2 7 i
theorem kx_o7_r (j : Nat) (σ : kw_M) : kx_o7 j σ σ := ⟨rfl, fun _ _ => rfl, fun _ _ => rfl⟩
theorem kx_o7_t {j : Nat} {a b c : kw_M} (h : kx_o7 j a b) (g : kx_o7 j b c) : kx_o7 j a c := ⟨g.1.trans h.1, fun q hq => (g.2.1 q hq).trans (h.2.1 q hq), fun q hq => (g.2.2 q hq).trans (h.2.2 q hq)⟩
theorem kx_o7_sl (j : Nat) (σ : kw_M) (x : Int64) : kx_o7 j σ (kw_sl σ 7 j x) := ⟨rfl, fun c hc => kw_sl_o hc, fun i hi => by rw [kw_sl_2, kw_updL_n hi]⟩
theorem kx_findUseful {σ : kw_M} {F : Nat → Int32} {m : Nat} (hrd : kx_rd σ 12 F m) (hw : km_wf F m) : ∃ τ, fX1_findUseful σ = some τ ∧ kx_o7 4 σ τ ∧ ∀ r, r < m → kw_bL (τ.2 7 4) r = kb_us F r := by
  have hm := hw.1
  obtain ⟨x, hx, e1, e2⟩ := kw_for (body := fun s => bX1_findUseful_7 s.1 s.2) (fun k s => s.1 = nI k ∧ kx_o7 4 σ s.2 ∧ ∀ i, i < 64 → kw_bL (s.2.2 7 4) i = (decide (i < k) && kb_us F i)) (fun x => kx_o7 4 σ x ∧ ∀ r, r < m → kw_bL (x.2 7 4) r = kb_us F r) m (by omega) (s0 := ((0 : Int32), kw_sl σ 7 4 (0 : Int64))) ⟨rfl, kx_o7_sl 4 σ 0, fun i hi => by
    dsimp only
    rw [kw_sl_2, kw_updL_e, kw_bL_0, decide_eq_false (Nat.not_lt_zero i)]
    rfl⟩ (fun k s hk hp => by
    obtain ⟨v, τ⟩ := s
    obtain ⟨rfl, ho, h4⟩ := hp
    dsimp only at ho h4 ⊢
    unfold bX1_findUseful_7
    rw [show τ.1 12 1 = nI m by rw [ho.1]; exact hrd.2.1.trans hw.2.1]
    by_cases hkm : k < m
    case neg =>
      right
      obtain rfl : k = m := by omega
      rw [if_pos (nI_le (Nat.le_refl k) (by omega))]
      exact ⟨_, rfl, ho, fun r hr => by rw [h4 r (by omega), decide_eq_true hr, Bool.true_and]⟩
    left
    refine ⟨hkm, ?_⟩
    have hrdτ : kx_rd τ 12 F m := kx_rd_fr hrd (by rw [ho.1]) (by rw [ho.1]) (by rw [ho.1]) (by rw [ho.1]) (ho.2.1 12 (by decide))
    rw [if_neg (nI_ge hkm (by omega)), kx_isOpenR hrdτ hw hkm, Option.bind_some, kx_twin hrdτ hw hkm]
    simp only [kx_fl_0, kw_let_def, km_next, Option.bind_some]
    have same : kb_us F k = false → ∀ i, i < 64 → kw_bL (τ.2 7 4) i = (decide (i < k + 1) && kb_us F i) := fun q i hi => by
      rw [h4 i hi]
      by_cases e : i = k
      · subst e
        rw [q, Bool.and_false, Bool.and_false]
      · rw [decide_eq_decide.mpr (show i < k ↔ i < k + 1 by omega)]
    by_cases c : F (28 + 4 * k + 3) = 1
    case neg =>
      rw [decide_eq_false c, kn_ff]
      exact ⟨_, rfl, rfl, ho, same (by unfold kb_us; rw [decide_eq_false c]; rfl)⟩
    rw [decide_eq_true c, kn_tf]
    cases q : kr_anyTo (kb_tw F k) k with
    | true =>
      rw [kn_tf]
      exact ⟨_, rfl, rfl, ho, same (by unfold kb_us; rw [q, Bool.not_true, Bool.and_false])⟩
    | false =>
      rw [kn_ff]
      refine ⟨_, rfl, rfl, kx_o7_t ho (kx_o7_sl 4 τ _), fun i hi => ?_⟩
      dsimp only
      rw [kw_sl_2, kw_updL_e, kw_bL_or, kw_upL (by omega) i hi, h4 i hi]
      by_cases e : i = k
      · subst e
        rw [decide_eq_true rfl, Bool.or_true, decide_eq_true (show i < i + 1 by omega), Bool.true_and]
        unfold kb_us
        rw [decide_eq_true c, q]
        rfl
      · rw [decide_eq_false e, Bool.or_false, decide_eq_decide.mpr (show i < k ↔ i < k + 1 by omega)])
  unfold fX1_findUseful
  rw [kw_let_def, hx, Option.bind_some]
  exact ⟨x, rfl, e1, e2⟩
