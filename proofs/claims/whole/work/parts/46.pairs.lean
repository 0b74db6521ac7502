/-! Questions: what they may change; the lengths between all towns. -/
/-- the class after a question -/
def kx_q (σ τ : kw_M) (F : Nat → Int32) (n m : Nat) : Prop := kx_kO σ τ ∧ kx_kN σ τ ∧ kx_pr τ F n m
/-- the reference after a question -/
def km_q (σ τ : kw_M) : Prop := τ.1 1 = σ.1 1 ∧ τ.1 0 1 = σ.1 0 1 ∧ τ.1 0 6 = σ.1 0 6 ∧ τ.1 5 = σ.1 5
theorem km_q_r (σ : kw_M) : km_q σ σ := ⟨rfl, rfl, rfl, rfl⟩
theorem km_q_e {σ τ : kw_M} (h : τ.1 = σ.1) : km_q σ τ := by
  unfold km_q
  rw [h]
  exact ⟨rfl, rfl, rfl, rfl⟩
theorem km_q_t {a b c : kw_M} (h : km_q a b) (g : km_q b c) : km_q a c := ⟨g.1.trans h.1, g.2.1.trans h.2.1, g.2.2.1.trans h.2.2.1, g.2.2.2.trans h.2.2.2⟩
theorem kw_Rel_a {σX σM τX τM : kw_M} {n m o : Nat} (hok : kb_ok (σM.1 1) n m o) (hsh : kx_sh σX 1 12 (σM.1 1) n m o) (hkp : kx_kp σX σM) (htp : kx_tp σX σM) (hx : kx_q σX τX (σM.1 1) n m) (hm : km_q σM τM) : kw_Rel τX τM := by
  have km : km_kO σM τM := ⟨fun j _ _ => by rw [hm.1], hm.2.1, hm.2.2.1, hm.2.2.2⟩
  refine ⟨n, m, o, by rw [hm.1]; exact hok, by rw [hm.1]; exact kx_sh_N hsh hx.2.1, kx_kp_O hkp hx.1 km, kx_tp_O htp hx.1 km, by rw [hm.1]; exact hx.2.2⟩
/-- pairs that are right -/
def kx_prt (σ : kw_M) (F : Nat → Int32) (n m : Nat) : Prop := σ.1 5 0 = 1 ∧ σ.1 5 1 = nI n ∧ ∀ a, a < n → ∀ b, b < 12 → σ.2 39 (a * 12 + b) = kx_enc (kb_D F n m a b)
theorem kx_right {σ : kw_M} {F : Nat → Int32} {n m o : Nat} (hok : kb_ok F n m o) (hsh : kx_sh σ 1 12 F n m o) (hpr : kx_pr σ F n m) : ∃ τ, fX9_rightPairs σ = some τ ∧ kx_prt τ F n m ∧ (∀ c, c ≠ 5 → τ.1 c = σ.1 c) ∧ ∀ c, c ≠ 39 → c ≠ 40 → τ.2 c = σ.2 c := by
  have h12 := hok.1.2.2.1
  have hnX : σ.1 12 0 = nI n := hsh.1.1.trans hok.1.1
  unfold fX9_rightPairs
  rcases hpr with h0 | ⟨h1, h2, h3⟩
  case inr =>
    rw [if_neg (by rw [h1]; decide)]
    exact ⟨σ, rfl, ⟨h1, h2, h3⟩, fun _ _ => rfl, fun _ _ _ => rfl⟩
  rw [if_pos h0]
  unfold fX2_fillFrom
  rw [kw_let_def, hnX]
  obtain ⟨x, hx, g1, g2, g3, g4⟩ := kw_for (body := fun s => bX2_fillFrom_10 s.1 s.2) (fun k s => s.1 = nI k ∧ (∀ c, c ≠ 5 → s.2.1 c = σ.1 c) ∧ s.2.1 5 1 = nI n ∧ (∀ c, c ≠ 39 → c ≠ 40 → s.2.2 c = σ.2 c) ∧ ∀ a, a < k → ∀ b, b < 12 → s.2.2 39 (a * 12 + b) = kx_enc (kb_D F n m a b)) (fun x => (∀ c, c ≠ 5 → x.1 c = σ.1 c) ∧ x.1 5 1 = nI n ∧ (∀ c, c ≠ 39 → c ≠ 40 → x.2 c = σ.2 c) ∧ ∀ a, a < n → ∀ b, b < 12 → x.2 39 (a * 12 + b) = kx_enc (kb_D F n m a b)) n (by omega) (s0 := ((0 : Int32), kw_si σ 5 1 (nI n))) ⟨rfl, fun c hc => kw_si_o hc, by dsimp only; rw [kw_si_1, kw_upd_e], fun _ _ _ => rfl, fun a ha => absurd ha (Nat.not_lt_zero _)⟩ (fun k s hk hp => by
    obtain ⟨v, τ⟩ := s
    obtain ⟨rfl, c1, c2, c3, c4⟩ := hp
    dsimp only at c1 c2 c3 c4 ⊢
    unfold bX2_fillFrom_10
    rw [c2]
    by_cases h : k < n
    · left
      refine ⟨h, ?_⟩
      have hrd : kx_rd τ 12 F m := kx_rd_fr hsh.1 (c1 12 (by decide)) (c1 _ (by decide)) (c1 _ (by decide)) (c1 _ (by decide)) (c3 12 (by decide) (by decide))
      rw [if_neg (nI_ge h (by omega)), kx_settle' (by decide) hrd hok.1 hok.2.2.2.1 h, Option.bind_some]
      have p1 : ¬ nI (k * 12) < 0 := nI_pos (by omega)
      have p2 : k * 12 + (nI 12).toNatClampNeg ≤ 144 := by rw [kn_clamp (by decide)]; omega
      simp (disch := omega) only [kn_12, kn_mul, kw_chk_t p1, kn_clamp (show k * 12 < 2147483648 by omega), kw_let_def, km_next]
      rw [kw_chk_t p2]
      refine ⟨_, rfl, rfl, c1, c2, fun c h39 h40 => ?_, fun a ha b hb => ?_⟩
      · dsimp only
        rw [kw_rl_o h39, kx_row_o h40]
        exact c3 c h39 h40
      · dsimp only
        rw [kw_rl_2]
        unfold va_cpy
        by_cases e : a = k
        · subst e
          rw [if_pos (by omega), show 0 + (a * 12 + b - a * 12) = b by omega, kx_row_at hb]
          rfl
        · rw [if_neg (by omega), kx_row_o (by decide)]
          exact c4 a (by omega) b hb
    · right
      obtain rfl : k = n := by omega
      exact ⟨τ, by rw [if_pos (nI_le (Nat.le_refl k) (by omega))], c1, c2, c3, c4⟩)
  rw [hx, Option.bind_some, kw_let_def, Option.bind_some]
  refine ⟨_, rfl, ⟨?_, ?_, ?_⟩, fun c hc => (kw_si_o hc).trans (g1 c hc), g3⟩
  · rw [kw_si_1, kw_upd_e]
  · rw [kw_si_1, kw_upd_n (by decide)]
    exact g2
  · exact g4
theorem kx_prt_q {σ τ : kw_M} {F : Nat → Int32} {n m : Nat} (h : kx_prt τ F n m) (h1 : ∀ c, c ≠ 5 → τ.1 c = σ.1 c) (h2 : ∀ c, c ≠ 39 → c ≠ 40 → τ.2 c = σ.2 c) : kx_q σ τ F n m := ⟨⟨fun c hc => h1 c (by omega), fun c hc => h2 c (by omega) (by omega)⟩, ⟨fun c hc => h1 c (by omega), fun c hc => h2 c (by omega) (by omega)⟩, Or.inr h⟩
theorem kx_span {σ : kw_M} {F : Nat → Int32} {n m a b : Nat} (h : kx_prt σ F n m) (ha : a < n) (h12 : n ≤ 12) (hb : b < 12) : fX2_span (nI a) (nI b) σ = some (kx_enc (kb_D F n m a b)) := by
  unfold fX2_span
  simp (disch := omega) only [kn_12, kn_mul, nI_add, kn_chk, kn_clamp]
  rw [h.2.2 a ha b hb]
theorem kx_comesTo {σ : kw_M} {F : Nat → Int32} {n m a b : Nat} (h : kx_prt σ F n m) (hw : km_wf F m) (ha : a < n) (h12 : n ≤ 12) (hb : b < 12) : fX2_comesTo (nI a) (nI b) σ = some (kx_fl (kb_D F n m a b).isSome) := by
  unfold fX2_comesTo
  rw [kx_span h ha h12 hb, Option.bind_some]
  simp only [kx_enc_e (kb_D_bd hw h12 b)]
  cases kb_D F n m a b with
  | none => rw [if_pos rfl]; rfl
  | some z => rw [if_neg (by simp)]; rfl
/-- the reference's pairs -/
theorem km_pairs {σ : kw_M} {n m o : Nat} (hok : kb_ok (σ.1 1) n m o) : ∃ τ, fX10_findsPairs σ = some τ ∧ τ.1 = σ.1 ∧ (∀ c, c ≠ 2 → c ≠ 15 → τ.2 c = σ.2 c) ∧ ∀ a, a < n → ∀ b, b < 12 → τ.2 15 (12 * a + b) = km_enc (kb_D (σ.1 1) n m a b) := by
  have h2 := hok.1.2.1
  have h12 := hok.1.2.2.1
  obtain ⟨x, hx, h⟩ := kw_for (body := fun s => bX10_findsPairs_2 s.1 s.2) (fun k s => s.1 = nI k ∧ s.2.1 = σ.1 ∧ (∀ c, c ≠ 2 → c ≠ 15 → s.2.2 c = σ.2 c) ∧ ∀ a, a < k → ∀ b, b < 12 → s.2.2 15 (12 * a + b) = km_enc (kb_D (σ.1 1) n m a b)) (fun x => x.1 = σ.1 ∧ (∀ c, c ≠ 2 → c ≠ 15 → x.2 c = σ.2 c) ∧ ∀ a, a < n → ∀ b, b < 12 → x.2 15 (12 * a + b) = km_enc (kb_D (σ.1 1) n m a b)) n (by omega) (s0 := ((0 : Int32), σ)) ⟨rfl, rfl, fun _ _ _ => rfl, fun a ha => absurd ha (Nat.not_lt_zero _)⟩ (fun k s hk hp => by
    obtain ⟨v, τ⟩ := s
    obtain ⟨rfl, c1, c2, c3⟩ := hp
    dsimp only at c1 c2 c3 ⊢
    unfold bX10_findsPairs_2 fX10_towns
    rw [c1, hok.1.1, Option.bind_some]
    by_cases h : k < n
    · left
      refine ⟨h, ?_⟩
      rw [if_neg (nI_ge h (by omega)), km_finds (by rw [c1]; exact hok.1.2.2.2.1) (by rw [c1]; exact hok.1.1) (by omega) h12 (by omega), Option.bind_some, c1]
      obtain ⟨y, hy, d1, d2, d3, d4⟩ := kw_for (body := fun s => bX10_findsPairs_18 (nI k) s.1 s.2) (fun j s => s.1 = nI j ∧ s.2.1 = σ.1 ∧ (∀ c, c ≠ 15 → s.2.2 c = (km_row τ (kr_bf (km_gr (σ.1 1) m (-1)) (kr_one k) (n - 1))).2 c) ∧ (∀ i, (i < 12 * k ∨ 12 * k + j ≤ i) → s.2.2 15 i = τ.2 15 i) ∧ ∀ b, b < j → s.2.2 15 (12 * k + b) = km_enc (kb_D (σ.1 1) n m k b)) (fun x => x.1 = σ.1 ∧ (∀ c, c ≠ 15 → x.2 c = (km_row τ (kr_bf (km_gr (σ.1 1) m (-1)) (kr_one k) (n - 1))).2 c) ∧ (∀ i, (i < 12 * k ∨ 12 * k + 12 ≤ i) → x.2 15 i = τ.2 15 i) ∧ ∀ b, b < 12 → x.2 15 (12 * k + b) = km_enc (kb_D (σ.1 1) n m k b)) 12 (by decide) (s0 := ((0 : Int32), km_row τ (kr_bf (km_gr (σ.1 1) m (-1)) (kr_one k) (n - 1)))) ⟨rfl, c1, fun _ _ => rfl, fun i _ => by dsimp only; unfold km_row; rw [kw_rl_o (by decide)], fun b hb => absurd hb (Nat.not_lt_zero _)⟩ (fun j s hj hp => by
        obtain ⟨v, ρ⟩ := s
        obtain ⟨rfl, d1, d2, d3, d4⟩ := hp
        dsimp only at d1 d2 d3 d4 ⊢
        unfold bX10_findsPairs_18
        by_cases hj2 : j < 12
        · left
          refine ⟨hj2, ?_⟩
          rw [kn_12, if_neg (nI_ge hj2 (by decide))]
          simp (disch := omega) only [kn_mul, nI_add, kn_chk, kn_clamp, kw_let_def, km_next]
          refine ⟨_, rfl, rfl, d1, fun c hc => ?_, fun i hi => ?_, fun b hb => ?_⟩
          · dsimp only
            rw [kw_sl_o hc]
            exact d2 c hc
          · dsimp only
            rw [kw_sl_2, kw_updL_n (by omega)]
            exact d3 i (by omega)
          · dsimp only
            rw [kw_sl_2]
            by_cases e : b = j
            · subst e
              rw [kw_updL_e, d2 2 (by decide), km_row_at hj2]
              rfl
            · rw [kw_updL_n (by omega)]
              exact d4 b (by omega)
        · right
          obtain rfl : j = 12 := by omega
          exact ⟨ρ, by rw [if_pos (by decide)], d1, d2, d3, d4⟩)
      rw [hy, Option.bind_some, kw_let_def, km_next]
      refine ⟨_, rfl, rfl, d1, fun c h2' h15 => ?_, fun a ha b hb => ?_⟩
      · dsimp only
        rw [d2 c h15]
        unfold km_row
        rw [kw_rl_o h2']
        exact c2 c h2' h15
      · dsimp only
        by_cases e : a = k
        · subst e
          exact d4 b hb
        · rw [d3 _ (by omega)]
          exact c3 a (by omega) b hb
    · right
      obtain rfl : k = n := by omega
      exact ⟨τ, by rw [if_pos (nI_le (Nat.le_refl k) (by omega))], c1, c2, c3⟩)
  unfold fX10_findsPairs
  rw [hx]
  exact ⟨x, rfl, h⟩
