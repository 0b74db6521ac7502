/-! Rounds through some towns: the reference's orders. -/
theorem kn_la_le (p : Nat → Nat) (k : Nat) : ∀ j, kn_la p k j ≤ j - 1
  | 0 => Nat.le_refl _
  | j + 1 => by
    show (if p k ≤ p j then j else kn_la p k j) ≤ j
    have := kn_la_le p k j
    by_cases q : p k ≤ p j
    · rw [if_pos q]; exact Nat.le_refl _
    · rw [if_neg q]; omega
theorem kn_pv_s (p : Nat → Nat) (j : Nat) : kn_pv p (j + 1) = if p j ≤ p (j + 1) then some j else kn_pv p j := rfl
theorem kn_la_s (p : Nat → Nat) (k j : Nat) : kn_la p k (j + 1) = if p k ≤ p j then j else kn_la p k j := rfl
theorem kn_rvs_s (p : Nat → Nat) (a b j : Nat) : kn_rvs p a b (j + 1) = kn_sw (kn_rvs p a b j) (a + j) (b - j) := rfl
theorem kn_pv_lt (p : Nat → Nat) : ∀ j k, kn_pv p j = some k → k < j
  | 0, k, h => by cases h
  | j + 1, k, h => by
    rw [kn_pv_s] at h
    by_cases q : p j ≤ p (j + 1)
    · rw [if_pos q] at h; cases h; omega
    · rw [if_neg q] at h; have := kn_pv_lt p j k h; omega
theorem kn_Tle {T : Nat → Nat} {c : Nat} (hT : ∀ i, i < c → T i < 12) (hm : ∀ i j, i < j → j < c → T i < T j) {a b : Nat} (ha : a < c) (hb : b < c) : (nI (T a) ≤ nI (T b)) = (a ≤ b) := by
  rw [kn_le (by have := hT a ha; omega) (by have := hT b hb; omega)]
  refine propext ⟨fun h => ?_, fun h => ?_⟩
  · exact Nat.le_of_not_lt fun q => by have := hm b a q ha; omega
  · by_cases e : a = b
    · rw [e]; exact Nat.le_refl _
    · have := hm a b (by omega) hb; omega
/-- the reference's order: ranks p of the towns T -/
def km_od (σ : kw_M) (c : Nat) (T p : Nat → Nat) : Prop := ∀ i, i < c → σ.1 19 i = nI (T (p i))
theorem km_chp {σ : kw_M} {a b : Nat} (ha : a < 6) (hb : b < 6) : fX10_changesPlaces (nI a) (nI b) σ = some (kw_si (kw_si σ 19 a (σ.1 19 b)) 19 b (σ.1 19 a)) := by
  unfold fX10_changesPlaces
  simp only [kn_chk ha (by decide), kn_chk hb (by decide), kn_clamp (show a < 2147483648 by omega), kn_clamp (show b < 2147483648 by omega), kw_let_def]
theorem km_od_sw {σ : kw_M} {c a b : Nat} {T p : Nat → Nat} (h : km_od σ c T p) (ha : a < c) (hb : b < c) : km_od (kw_si (kw_si σ 19 a (σ.1 19 b)) 19 b (σ.1 19 a)) c T (kn_sw p a b) := by
  intro i hi
  rw [kw_si_1, kw_si_1]
  unfold kn_sw
  by_cases e : i = b
  · rw [e, kw_upd_e, if_pos rfl]; exact h a ha
  · rw [kw_upd_n e, if_neg e]
    by_cases e2 : i = a
    · rw [e2, kw_upd_e, if_pos rfl]; exact h b hb
    · rw [kw_upd_n e2, if_neg e2]; exact h i hi
theorem kn_sw_lt {p : Nat → Nat} {c a b : Nat} (h : ∀ i, i < c → p i < c) (ha : a < c) (hb : b < c) : ∀ i, i < c → kn_sw p a b i < c := by
  intro i hi
  unfold kn_sw
  by_cases e : i = b
  · rw [if_pos e]; exact h a ha
  · rw [if_neg e]
    by_cases e2 : i = a
    · rw [if_pos e2]; exact h b hb
    · rw [if_neg e2]; exact h i hi
theorem kn_x2 : ∀ c, c < 7 → nI c - 2 = nI (c - 1 - 0) - (if c = 0 then 2 else 1) := by decide
theorem kn_m1 (i : Nat) : nI (i + 1) - 1 = nI i := by
  rw [kn_1, kn_sub (by omega)]
  rfl
theorem kn_neg {i : Nat} (h : i < 2147483648) : ¬ nI i < (0 : Int32) := by
  rw [kn_0, kn_lt h (by decide)]
  omega
theorem km_nextOrder {σ : kw_M} {c : Nat} {T p : Nat → Nat} (hc : c ≤ 6) (hT : ∀ i, i < c → T i < 12) (hm : ∀ i j, i < j → j < c → T i < T j) (hp : ∀ i, i < c → p i < c) (h0 : σ.1 0 31 = nI c) (ho : km_od σ c T p) : (kn_np c p = none → fX10_nextOrder σ = some (0, σ)) ∧ (∀ q, kn_np c p = some q → ∃ τ, fX10_nextOrder σ = some (1, τ) ∧ km_od τ c T q ∧ (∀ x, x ≠ 19 → τ.1 x = σ.1 x) ∧ τ.2 = σ.2) := by
  obtain ⟨x, hx, hx1, hx2⟩ := kw_for (body := fun s => bX10_nextOrder_7 σ s) (fun k s => k ≤ c - 1 ∧ kn_pv p (c - 1) = kn_pv p (c - 1 - k) ∧ s = nI (c - 1 - k) - (if c = 0 then 2 else 1)) (fun x => (kn_pv p (c - 1) = none → x < 0) ∧ ∀ k, kn_pv p (c - 1) = some k → x = nI k) (c - 1) (by omega) (s0 := nI c - 2) ⟨by omega, rfl, kn_x2 c (by omega)⟩ (fun k s hk hP => by
    obtain ⟨h1, h2, h3⟩ := hP
    cases hj : c - 1 - k with
    | zero =>
      right
      rw [hj] at h2 h3
      have hneg : s < 0 := by
        rw [h3]
        by_cases e : c = 0
        · rw [if_pos e]; decide
        · rw [if_neg e]; decide
      unfold bX10_nextOrder_7
      rw [if_pos hneg]
      refine ⟨s, rfl, fun _ => hneg, fun k hk => ?_⟩
      rw [h2] at hk
      cases hk
    | succ i =>
      rw [hj, if_neg (show ¬ c = 0 by omega), kn_m1] at h3
      rw [hj] at h2
      rw [h3]
      unfold bX10_nextOrder_7
      rw [if_neg (kn_neg (by omega)), km_next, kn_chk (show i < 6 by omega) (by decide), kn_chk (show i + 1 < 6 by omega) (by decide), kn_clamp (show i < 2147483648 by omega), kn_clamp (show i + 1 < 2147483648 by omega), ho i (by omega), ho (i + 1) (by omega), kw_let_def]
      simp only [kn_Tle hT hm (hp i (by omega)) (hp (i + 1) (by omega))]
      rw [kn_pv_s] at h2
      by_cases q : p i ≤ p (i + 1)
      · right
        rw [if_pos q]
        rw [if_pos q] at h2
        refine ⟨_, rfl, fun e => ?_, fun k hk => ?_⟩
        · rw [h2] at e; cases e
        · rw [h2] at hk; cases hk; rfl
      · left
        rw [if_neg q] at h2
        rw [if_neg q]
        refine ⟨by omega, _, rfl, by omega, ?_, ?_⟩
        · rw [h2, show c - 1 - (k + 1) = i by omega]
        · rw [if_neg (show ¬ c = 0 by omega), show c - 1 - (k + 1) = i by omega])
  unfold fX10_nextOrder kn_np
  rw [h0, kw_let_def, hx, Option.bind_some]
  cases hpv : kn_pv p (c - 1) with
  | none =>
    refine ⟨fun _ => ?_, fun q hq => by cases hq⟩
    unfold jX10_nextOrder_35
    rw [if_neg (Int32.not_le.mpr (hx1 hpv))]
  | some k =>
    refine ⟨fun h => (by cases h), fun q hq => ?_⟩
    have hkc := kn_pv_lt p _ _ hpv
    obtain rfl := hx2 k hpv
    cases hq
    unfold jX10_nextOrder_35
    rw [if_pos (show (0 : Int32) ≤ nI k by rw [kn_0, kn_le (by decide) (by omega)]; omega), h0, kn_1, kn_sub (show 1 ≤ c by omega), kw_let_def]
    obtain ⟨y, hy, hy1⟩ := kw_for (body := fun s => bX10_nextOrder_48 (nI k) σ s) (fun j s => s = nI (c - 1 - j) ∧ kn_la p k c = kn_la p k (c - j)) (fun y => y = nI (kn_la p k c)) (c - 1 - k) (by omega) (s0 := nI (c - 1)) ⟨rfl, rfl⟩ (fun j s hj hP => by
      obtain ⟨rfl, h2⟩ := hP
      obtain ⟨i, hi⟩ : ∃ i, c - j = i + 1 := ⟨c - j - 1, by omega⟩
      rw [show c - 1 - j = i by omega]
      unfold bX10_nextOrder_48
      rw [kn_chk (show i < 6 by omega) (by decide), kn_chk (show k < 6 by omega) (by decide), kn_clamp (show i < 2147483648 by omega), kn_clamp (show k < 2147483648 by omega), ho i (by omega), ho k (by omega), kw_let_def]
      simp only [kn_Tle hT hm (hp k (by omega)) (hp i (by omega))]
      rw [hi, kn_la_s] at h2
      by_cases q : p k ≤ p i
      · right
        rw [if_pos q]
        rw [if_pos q] at h2
        exact ⟨_, rfl, by rw [h2]⟩
      · left
        rw [if_neg q] at h2
        rw [if_neg q]
        have hik : i ≠ k := fun e => q (by rw [e]; exact Nat.le_refl _)
        refine ⟨by omega, _, rfl, ?_, ?_⟩
        · obtain ⟨i', rfl⟩ : ∃ i', i = i' + 1 := ⟨i - 1, by omega⟩
          rw [kn_m1, show c - 1 - (j + 1) = i' by omega]
        · rw [h2, show c - (j + 1) = i by omega])
    have hla : kn_la p k c < c := by have := kn_la_le p k c; omega
    rw [hy, Option.bind_some, hy1, km_chp (by omega) (by omega), Option.bind_some, kw_let_def, kw_let_def]
    have e0 : (kw_si (kw_si σ 19 k (σ.1 19 (kn_la p k c))) 19 (kn_la p k c) (σ.1 19 k)).1 0 31 = nI c := by
      rw [kw_si_o (by decide), kw_si_o (by decide)]; exact h0
    rw [e0, kn_sub (show 1 ≤ c by omega), nI_add]
    obtain ⟨τ, ht, t1, t2, t3⟩ := kw_for (body := fun s => bX10_nextOrder_88 s.1 s.2.1 s.2.2) (fun j s => s.1 = nI (k + 1 + j) ∧ s.2.1 = nI (c - 1 - j) ∧ km_od s.2.2 c T (kn_rvs (kn_sw p k (kn_la p k c)) (k + 1) (c - 1) j) ∧ (∀ x, x ≠ 19 → s.2.2.1 x = σ.1 x) ∧ s.2.2.2 = σ.2) (fun τ => km_od τ c T (kn_rvs (kn_sw p k (kn_la p k c)) (k + 1) (c - 1) ((c - 1 - k) / 2)) ∧ (∀ x, x ≠ 19 → τ.1 x = σ.1 x) ∧ τ.2 = σ.2) ((c - 1 - k) / 2) (by omega) (s0 := (nI (k + 1), nI (c - 1), kw_si (kw_si σ 19 k (σ.1 19 (kn_la p k c))) 19 (kn_la p k c) (σ.1 19 k))) ⟨rfl, rfl, km_od_sw ho (by omega) hla, fun x hx => by rw [kw_si_o hx, kw_si_o hx], rfl⟩ (fun j s hj hP => by
      obtain ⟨v, w, τ⟩ := s
      obtain ⟨h1, h2, h3, h4, h5⟩ := hP
      dsimp only at h1 h2 h3 h4 h5 ⊢
      subst h1 h2
      unfold bX10_nextOrder_88
      by_cases q : j < (c - 1 - k) / 2
      case neg =>
        right
        obtain rfl : j = (c - 1 - k) / 2 := by omega
        rw [if_pos (by rw [kn_le (by omega) (by omega)]; omega)]
        exact ⟨_, rfl, h3, h4, h5⟩
      left
      rw [if_neg (by rw [kn_le (by omega) (by omega)]; omega), km_chp (by omega) (by omega), Option.bind_some, kw_let_def, kw_let_def, km_next, kn_1, kn_sub (by omega)]
      refine ⟨q, _, rfl, rfl, ?_, ?_, fun x hx => ?_, ?_⟩
      · show nI (c - 1 - j - 1) = nI (c - 1 - (j + 1))
        rw [show c - 1 - j - 1 = c - 1 - (j + 1) by omega]
      · rw [kn_rvs_s]
        exact km_od_sw h3 (by omega) (by omega)
      · show (kw_si (kw_si τ 19 _ _) 19 _ _).1 x = _
        rw [kw_si_o hx, kw_si_o hx]; exact h4 x hx
      · exact h5)
    rw [ht, Option.bind_some]
    exact ⟨τ, rfl, t1, t2, t3⟩
