/-! Texts: the numbers of a clause, as the reference reads them. -/
def km_C (b : Nat) (σ τ : kw_M) : Prop := (∀ c, c ≠ 0 → c ≠ 7 → τ.1 c = σ.1 c) ∧ (∀ c, c ≠ 0 → τ.2 c = σ.2 c) ∧ (∀ j, j ≠ 7 → j ≠ 9 → j ≠ 10 → j ≠ 11 → τ.1 0 j = σ.1 0 j) ∧ ∀ s, s < b → τ.1 7 s = σ.1 7 s
theorem km_C_N {b : Nat} {σ τ : kw_M} (h : km_N σ τ) : km_C b σ τ := ⟨fun c h1 _ => h.1 c h1, h.2.1, h.2.2, fun s _ => by rw [h.1 7 (by decide)]⟩
theorem km_C_t {b b' : Nat} {x y z : kw_M} (h : km_C b x y) (g : km_C b' y z) (hb : b ≤ b') : km_C b x z := ⟨fun c h1 h2 => (g.1 c h1 h2).trans (h.1 c h1 h2), fun c h1 => (g.2.1 c h1).trans (h.2.1 c h1), fun j h1 h2 h3 h4 => (g.2.2.1 j h1 h2 h3 h4).trans (h.2.2.1 j h1 h2 h3 h4), fun s hs => (g.2.2.2 s (by omega)).trans (h.2.2.2 s hs)⟩
theorem km_C_7 {b s : Nat} {σ : kw_M} {x : Int32} (hb : b ≤ s) : km_C b σ (kw_si σ 7 s x) := ⟨fun c _ h2 => kw_si_o h2, fun c _ => rfl, fun j _ _ _ _ => by rw [kw_si_o (by decide)], fun i hi => by rw [kw_si_1, kw_upd_n (by omega)]⟩
theorem km_T_C {σ τ : kw_M} {B : Nat → Nat} {e p q b : Nat} (h : km_T σ B e p) (hn : km_C b σ τ) (hq : τ.1 0 7 = nI q) : km_T τ B e q := ⟨by rw [hn.2.2.1 8 (by decide) (by decide) (by decide) (by decide)]; exact h.1, hq, fun i hi => by rw [hn.1 5 (by decide) (by decide)]; exact h.2.2 i hi⟩
theorem km_keeps {σ : kw_M} {k i : Nat} {v : Int} (hk : k < 24) (hi : i < 3) (h12 : σ.1 0 12 = nI k) (hv : σ.2 0 14 = Int64.ofInt v) : fX10_keepsNumber (nI i) σ = some (1, kw_si σ 7 (3 * k + i) (Int32.ofInt v)) := by
  unfold fX10_keepsNumber
  rw [h12, hv, kn_3, kn_mul, nI_add, kn_chk (show 3 * k + i < 72 by omega) (by decide), kn_clamp (by omega), kw_let_def, Int64.toInt32_ofInt]
/-- a number is read and kept, then K -/
theorem km_num1 {σ : kw_M} {B : Nat → Nat} {e p tw k i c : Nat} {lo hi : Int64} {K : kw_M → Option (Int32 × kw_M)} (hB : kt_B B e) (hp : p ≤ e) (T : km_T σ B e p) (h12 : σ.1 0 12 = nI k) (hk : k < 24) (hi3 : i < 3) (hlo : lo.toInt = kt_lo c) (hhi : hi.toInt = kt_hi tw c) : (∀ f, kt_n (kt_lo c) (kt_hi tw c) B e p = .inl f → ∃ τ, ((fX10_readsNumber lo hi σ).bind fun r => if r.1 = (0 : Int32) then (some ((0 : Int32), r.2)) else (fX10_keepsNumber (nI i) r.2).bind fun r4 => if r4.1 = (0 : Int32) then (some ((0 : Int32), r4.2)) else K r4.2) = some (0, τ) ∧ km_N σ τ ∧ τ.1 0 9 = f) ∧ (∀ v q, kt_n (kt_lo c) (kt_hi tw c) B e p = .inr (v, q) → ∃ τ, ((fX10_readsNumber lo hi σ).bind fun r => if r.1 = (0 : Int32) then (some ((0 : Int32), r.2)) else (fX10_keepsNumber (nI i) r.2).bind fun r4 => if r4.1 = (0 : Int32) then (some ((0 : Int32), r4.2)) else K r4.2) = K τ ∧ km_C (3 * k + i) σ τ ∧ km_T τ B e q ∧ τ.1 0 12 = nI k ∧ τ.1 7 (3 * k + i) = Int32.ofInt v ∧ q ≤ e) := by
  obtain ⟨b, τ, n1, n2, n3, n4⟩ := km_number (lo := lo) (hi := hi) hB hp T
  rw [hlo, hhi] at n3 n4
  rw [n1, Option.bind_some]
  dsimp only
  refine ⟨fun f hf => ?_, fun v q hq => ?_⟩
  · obtain ⟨rfl, t1⟩ := n3 f hf
    rw [if_pos rfl]
    exact ⟨τ, rfl, n2, t1⟩
  · obtain ⟨rfl, t1, t2, t3⟩ := n4 v q hq
    have e12 : τ.1 0 12 = nI k := by rw [n2.2.2 12 (by decide) (by decide) (by decide) (by decide)]; exact h12
    rw [if_neg (show ¬ (1 : Int32) = 0 by decide), km_keeps hk hi3 e12 t1, Option.bind_some]
    dsimp only
    rw [if_neg (show ¬ (1 : Int32) = 0 by decide)]
    refine ⟨_, rfl, km_C_t (km_C_N n2) (km_C_7 (Nat.le_refl _)) (Nat.le_refl _), ?_, ?_, ?_, (kt_n_in hq).2.2⟩
    · exact km_T_C T (km_C_t (km_C_N n2) (km_C_7 (Nat.le_refl _)) (Nat.le_refl _)) (by rw [kw_si_o (by decide)]; exact t2)
    · rw [kw_si_o (by decide)]; exact e12
    · rw [kw_si_1, kw_upd_e]
theorem kt_nums_0 {tw : Nat} {B : Nat → Nat} {e i p : Nat} {prev : Int} : kt_nums tw B e [] i prev p = .inr ([], p) := rfl
def kt_Out (tw : Nat) (B : Nat → Nat) (e p k : Nat) (cs : List Nat) (b : Int32) (τ : kw_M) : Prop := (∀ f, kt_nums tw B e cs 0 0 p = .inl f → b = 0 ∧ τ.1 0 9 = f) ∧ (∀ vs q, kt_nums tw B e cs 0 0 p = .inr (vs, q) → b = 1 ∧ τ.1 0 7 = nI q ∧ ∀ j, j < cs.length → τ.1 7 (3 * k + j) = Int32.ofInt (vs.getD j 0))
theorem km_rd1 {σ : kw_M} {B : Nat → Nat} {e p tw k c : Nat} {lo hi : Int64} (hB : kt_B B e) (hp : p ≤ e) (T : km_T σ B e p) (h12 : σ.1 0 12 = nI k) (hk : k < 24) (hlo : lo.toInt = kt_lo c) (hhi : hi.toInt = kt_hi tw c) : ∃ b τ, ((fX10_readsNumber lo hi σ).bind fun r9 => if r9.1 = (0 : Int32) then (some ((0 : Int32), r9.2)) else (fX10_keepsNumber (0 : Int32) r9.2).bind fun r11 => if r11.1 = (0 : Int32) then (some ((0 : Int32), r11.2)) else some ((1 : Int32), r11.2)) = some (b, τ) ∧ km_C (3 * k) σ τ ∧ kt_Out tw B e p k [c] b τ := by
  obtain ⟨a1, a2⟩ := km_num1 (i := 0) (K := fun s => some ((1 : Int32), s)) hB hp T h12 hk (by decide) hlo hhi
  unfold kt_Out
  cases hn : kt_n (kt_lo c) (kt_hi tw c) B e p with
  | inl f =>
    obtain ⟨τ, t1, t2, t3⟩ := a1 f hn
    rw [kt_nums_l hn]
    refine ⟨0, τ, t1, km_C_N t2, fun g hg => ?_, fun vs q hq => (by cases hq)⟩
    obtain rfl := Sum.inl.inj hg
    exact ⟨rfl, t3⟩
  | inr vq =>
    obtain ⟨v, q⟩ := vq
    obtain ⟨τ, t1, t2, t3, t4, t5, t6⟩ := a2 v q hn
    rw [kt_nums_r hn (by omega), kt_nums_0]
    refine ⟨1, τ, t1, t2, fun g hg => (by cases hg), fun vs q' hq => ?_⟩
    have h' : ([v], q) = (vs, q') := Sum.inr.inj hq
    have d1 : [v] = vs := congrArg Prod.fst h'
    have d2 : q = q' := congrArg Prod.snd h'
    subst d1 d2
    refine ⟨rfl, t3.2.1, fun j hj => ?_⟩
    have j0 : j = 0 := by
      have : j < 1 := hj
      omega
    subst j0
    exact t5
theorem km_rd2 {σ : kw_M} {B : Nat → Nat} {e p tw k c : Nat} {lo hi : Int64} (hB : kt_B B e) (hp : p ≤ e) (T : km_T σ B e p) (h12 : σ.1 0 12 = nI k) (hk : k < 24) (hlo : lo.toInt = kt_lo c) (hhi : hi.toInt = kt_hi tw c) : ∃ b τ, ((fX10_readsNumber lo hi σ).bind fun r31 => if r31.1 = (0 : Int32) then (some ((0 : Int32), r31.2)) else (fX10_keepsNumber (0 : Int32) r31.2).bind fun r33 => if r33.1 = (0 : Int32) then (some ((0 : Int32), r33.2)) else (fX10_readsNumber (-1000000000 : Int64) (1000000000 : Int64) r33.2).bind fun r35 => if r35.1 = (0 : Int32) then (some ((0 : Int32), r35.2)) else (fX10_keepsNumber (1 : Int32) r35.2).bind fun r37 => if r37.1 = (0 : Int32) then (some ((0 : Int32), r37.2)) else some ((1 : Int32), r37.2)) = some (b, τ) ∧ km_C (3 * k) σ τ ∧ kt_Out tw B e p k [c, 108] b τ := by
  obtain ⟨a1, a2⟩ := km_num1 (i := 0) (K := fun s => (fX10_readsNumber (-1000000000 : Int64) (1000000000 : Int64) s).bind fun r35 => if r35.1 = (0 : Int32) then (some ((0 : Int32), r35.2)) else (fX10_keepsNumber (nI 1) r35.2).bind fun r37 => if r37.1 = (0 : Int32) then (some ((0 : Int32), r37.2)) else some ((1 : Int32), r37.2)) hB hp T h12 hk (by decide) hlo hhi
  unfold kt_Out
  cases hn : kt_n (kt_lo c) (kt_hi tw c) B e p with
  | inl f =>
    obtain ⟨τ, t1, t2, t3⟩ := a1 f hn
    rw [kt_nums_l hn]
    refine ⟨0, τ, t1, km_C_N t2, fun g hg => ?_, fun vs q hq => (by cases hq)⟩
    obtain rfl := Sum.inl.inj hg
    exact ⟨rfl, t3⟩
  | inr vq =>
    obtain ⟨v, q⟩ := vq
    obtain ⟨τ, t1, t2, t3, t4, t5, t6⟩ := a2 v q hn
    obtain ⟨b1, b2⟩ := km_num1 (tw := tw) (i := 1) (c := 108) (lo := -1000000000) (hi := 1000000000) (K := fun s => some ((1 : Int32), s)) hB t6 t3 t4 hk (by decide) (by decide) (show (1000000000 : Int64).toInt = 1000000000 by decide)
    rw [kt_nums_r hn (by omega)]
    cases hn2 : kt_n (kt_lo 108) (kt_hi tw 108) B e q with
    | inl f =>
      obtain ⟨τ2, u1, u2, u3⟩ := b1 f hn2
      rw [kt_nums_l hn2]
      refine ⟨0, τ2, t1.trans u1, km_C_t t2 (km_C_N (b := 3 * k) u2) (by omega), fun g hg => ?_, fun vs q hq => (by cases hq)⟩
      obtain rfl := Sum.inl.inj hg
      exact ⟨rfl, u3⟩
    | inr vq2 =>
      obtain ⟨v2, q2⟩ := vq2
      obtain ⟨τ2, u1, u2, u3, u4, u5, u6⟩ := b2 v2 q2 hn2
      rw [kt_nums_r hn2 (by omega), kt_nums_0]
      refine ⟨1, τ2, t1.trans u1, km_C_t t2 u2 (by omega), fun g hg => (by cases hg), fun vs q' hq => ?_⟩
      have h' : ([v, v2], q2) = (vs, q') := Sum.inr.inj hq
      have d1 : [v, v2] = vs := congrArg Prod.fst h'
      have d2 : q2 = q' := congrArg Prod.snd h'
      subst d1 d2
      refine ⟨rfl, u3.2.1, fun j hj => ?_⟩
      have hj2 : j < 2 := hj
      rcases (show j = 0 ∨ j = 1 by omega) with rfl | rfl
      · rw [u2.2.2.2 (3 * k + 0) (by omega)]
        exact t5
      · exact u5
theorem kt_64eq {a b : Int} (ha : -1000000000 ≤ a ∧ a ≤ 1000000000) (hb : -1000000000 ≤ b ∧ b ≤ 1000000000) : (Int64.ofInt a = Int64.ofInt b) = (a = b) := by
  refine propext ⟨fun h => ?_, fun h => by rw [h]⟩
  have h1 : (Int64.ofInt a).toInt = (Int64.ofInt b).toInt := by rw [h]
  rw [km_toInt (by omega) (by omega), km_toInt (by omega) (by omega)] at h1
  exact h1
theorem km_road {σ : kw_M} {B : Nat → Nat} {e p tw k : Nat} (hB : kt_B B e) (hp : p ≤ e) (T : km_T σ B e p) (h12 : σ.1 0 12 = nI k) (hk : k < 24) (htw : 2 ≤ tw ∧ tw ≤ 12) : ∃ b τ, fX10_readsRoad (nI tw) σ = some (b, τ) ∧ (b = 0 ∨ b = 1) ∧ km_C (3 * k) σ τ ∧ kt_Out tw B e p k [116, 116, 108] b τ := by
  have hlo : (0 : Int64).toInt = kt_lo 116 := by decide
  have hhi : ((nI tw - 1).toInt64).toInt = kt_hi tw 116 := by
    rw [kn_1, kn_sub (by omega), Int32.toInt_toInt64, nI_toInt (by omega)]
    show ((tw - 1 : Nat) : Int) = (tw : Int) - 1
    omega
  obtain ⟨b, τ, n1, n2, n3, n4⟩ := km_number (lo := 0) (hi := (nI tw - 1).toInt64) hB hp T
  rw [hlo, hhi] at n3 n4
  unfold fX10_readsRoad kt_Out
  rw [n1, Option.bind_some]
  dsimp only
  cases hn : kt_n (kt_lo 116) (kt_hi tw 116) B e p with
  | inl f =>
    obtain ⟨rfl, t1⟩ := n3 f hn
    rw [if_pos rfl, kt_nums_l hn]
    refine ⟨0, τ, rfl, Or.inl rfl, km_C_N n2, fun g hg => ?_, fun vs q hq => (by cases hq)⟩
    obtain rfl := Sum.inl.inj hg
    exact ⟨rfl, t1⟩
  | inr vq =>
    obtain ⟨v, q⟩ := vq
    obtain ⟨rfl, t1, t2, t3⟩ := n4 v q hn
    obtain ⟨hin, hpq, hqe⟩ := kt_n_in hn
    have e12 : τ.1 0 12 = nI k := by rw [n2.2.2 12 (by decide) (by decide) (by decide) (by decide)]; exact h12
    have K0 : fX10_keepsNumber 0 τ = some (1, kw_si τ 7 (3 * k + 0) (Int32.ofInt v)) := km_keeps (i := 0) hk (by decide) e12 t1
    have C0 : km_C (3 * k) σ (kw_si τ 7 (3 * k + 0) (Int32.ofInt v)) := km_C_t (km_C_N n2) (km_C_7 (b := 3 * k) (by omega)) (Nat.le_refl _)
    have T0 : km_T (kw_si τ 7 (3 * k + 0) (Int32.ofInt v)) B e q := km_T_C T C0 (by rw [kw_si_o (by decide)]; exact t2)
    have s0 : (kw_si τ 7 (3 * k + 0) (Int32.ofInt v)).1 7 (3 * k + 0) = Int32.ofInt v := by rw [kw_si_1, kw_upd_e]
    have e120 : (kw_si τ 7 (3 * k + 0) (Int32.ofInt v)).1 0 12 = nI k := by rw [kw_si_o (by decide)]; exact e12
    rw [if_neg (show ¬ (1 : Int32) = 0 by decide), kw_let_def, t1, K0, Option.bind_some]
    dsimp only
    rw [if_neg (show ¬ (1 : Int32) = 0 by decide), kt_nums_r hn (by omega)]
    generalize kw_si τ 7 (3 * k + 0) (Int32.ofInt v) = σ1 at C0 T0 s0 e120 ⊢
    obtain ⟨b', τ', m1, m2, m3, m4⟩ := km_number (lo := 0) (hi := (nI tw - 1).toInt64) hB hqe T0
    rw [hlo, hhi] at m3 m4
    rw [m1, Option.bind_some]
    dsimp only
    cases hn2 : kt_n (kt_lo 116) (kt_hi tw 116) B e q with
    | inl f =>
      obtain ⟨rfl, u1⟩ := m3 f hn2
      rw [if_pos rfl, kt_nums_l hn2]
      refine ⟨0, τ', rfl, Or.inl rfl, km_C_t C0 (km_C_N (b := 3 * k) m2) (Nat.le_refl _), fun g hg => ?_, fun vs q hq => (by cases hq)⟩
      obtain rfl := Sum.inl.inj hg
      exact ⟨rfl, u1⟩
    | inr vq2 =>
      obtain ⟨v2, q2⟩ := vq2
      obtain ⟨rfl, u1, u2, u3⟩ := m4 v2 q2 hn2
      obtain ⟨hin2, hpq2, hqe2⟩ := kt_n_in hn2
      have hbv := kt_bnd htw.2 hin
      have hbv2 := kt_bnd htw.2 hin2
      have f12 : τ'.1 0 12 = nI k := by rw [m2.2.2 12 (by decide) (by decide) (by decide) (by decide)]; exact e120
      rw [if_neg (show ¬ (1 : Int32) = 0 by decide), u1, u3]
      simp only [kt_64eq hbv2 hbv]
      by_cases h6 : v2 = v
      · rw [if_pos h6, km_wrong6, Option.bind_some]
        dsimp only
        rw [kw_chk_t (Or.inl rfl), kt_nums_6 hn2 ⟨rfl, rfl, h6.symm⟩]
        refine ⟨0, _, rfl, Or.inl rfl, km_C_t C0 (km_C_N (b := 3 * k) (km_N_t m2 (km_N_si (Or.inr (Or.inl rfl))))) (Nat.le_refl _), fun g hg => ?_, fun vs q hq => (by cases hq)⟩
        obtain rfl := Sum.inl.inj hg
        exact ⟨rfl, by rw [kw_si_1, kw_upd_e]⟩
      · have K1 : fX10_keepsNumber 1 τ' = some (1, kw_si τ' 7 (3 * k + 1) (Int32.ofInt v2)) := km_keeps (i := 1) hk (by decide) f12 u1
        have C1 : km_C (3 * k + 1) σ1 (kw_si τ' 7 (3 * k + 1) (Int32.ofInt v2)) := km_C_t (km_C_N m2) (km_C_7 (Nat.le_refl _)) (Nat.le_refl _)
        have T1 : km_T (kw_si τ' 7 (3 * k + 1) (Int32.ofInt v2)) B e q2 := km_T_C T0 C1 (by rw [kw_si_o (by decide)]; exact u2)
        have g12 : (kw_si τ' 7 (3 * k + 1) (Int32.ofInt v2)).1 0 12 = nI k := by rw [kw_si_o (by decide)]; exact f12
        have s1 : (kw_si τ' 7 (3 * k + 1) (Int32.ofInt v2)).1 7 (3 * k + 1) = Int32.ofInt v2 := by rw [kw_si_1, kw_upd_e]
        rw [if_neg h6, K1, Option.bind_some]
        dsimp only
        rw [if_neg (show ¬ (1 : Int32) = 0 by decide), kt_nums_r hn2 (fun z => h6 z.2.2.symm)]
        obtain ⟨b1, b2⟩ := km_num1 (tw := tw) (i := 2) (c := 108) (lo := -1000000000) (hi := 1000000000) (K := fun s => some ((1 : Int32), s)) hB hqe2 T1 g12 hk (by decide) (by decide) (show (1000000000 : Int64).toInt = 1000000000 by decide)
        cases hn3 : kt_n (kt_lo 108) (kt_hi tw 108) B e q2 with
        | inl f =>
          obtain ⟨τ3, w1, w2, w3⟩ := b1 f hn3
          rw [kt_nums_l hn3]
          refine ⟨0, τ3, w1, Or.inl rfl, km_C_t C0 (km_C_t C1 (km_C_N (b := 3 * k + 1) w2) (Nat.le_refl _)) (by omega), fun g hg => ?_, fun vs q hq => (by cases hq)⟩
          obtain rfl := Sum.inl.inj hg
          exact ⟨rfl, w3⟩
        | inr vq3 =>
          obtain ⟨v3, q3⟩ := vq3
          obtain ⟨τ3, w1, w2, w3, w4, w5, w6⟩ := b2 v3 q3 hn3
          rw [kt_nums_r hn3 (by omega), kt_nums_0]
          refine ⟨1, τ3, w1, Or.inr rfl, km_C_t C0 (km_C_t C1 w2 (by omega)) (by omega), fun g hg => (by cases hg), fun vs q' hq => ?_⟩
          have h' : ([v, v2, v3], q3) = (vs, q') := Sum.inr.inj hq
          have d1 : [v, v2, v3] = vs := congrArg Prod.fst h'
          have d2 : q3 = q' := congrArg Prod.snd h'
          subst d1 d2
          refine ⟨rfl, w3.2.1, fun j hj => ?_⟩
          have hj2 : j < 3 := hj
          rcases (show j = 0 ∨ j = 1 ∨ j = 2 by omega) with rfl | rfl | rfl
          · rw [w2.2.2.2 (3 * k + 0) (by omega), C1.2.2.2 (3 * k + 0) (by omega)]
            exact s0
          · rw [w2.2.2.2 (3 * k + 1) (by omega)]
            exact s1
          · exact w5
