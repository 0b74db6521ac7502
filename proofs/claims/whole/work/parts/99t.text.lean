/-! Texts: words. -/
def kt_wv (B : Nat → Nat) (p : Nat) : Nat → Int
  | 0 => 0
  | k + 1 => 32 * kt_wv B p k + (B (p + k) : Int) - 97 + 1
theorem kt_wv_s (B : Nat → Nat) (p k : Nat) : kt_wv B p (k + 1) = 32 * kt_wv B p k + (B (p + k) : Int) - 97 + 1 := rfl
theorem kt_wv_in {B : Nat → Nat} {p : Nat} : ∀ k : Nat, (∀ i, i < k → 97 ≤ B (p + i) ∧ B (p + i) ≤ 122) → 0 ≤ kt_wv B p k ∧ kt_wv B p k < 32 ^ k
  | 0, _ => by
    show (0 : Int) ≤ 0 ∧ (0 : Int) < 32 ^ 0
    decide
  | k + 1, h => by
    obtain ⟨h1, h2⟩ := kt_wv_in k (fun i hi => h i (by omega))
    have h3 := h k (by omega)
    rw [kt_wv_s, Int.pow_succ]
    omega
theorem kt_wv_b {B : Nat → Nat} {p k : Nat} (hk : k ≤ 8) (h : ∀ i, i < k → 97 ≤ B (p + i) ∧ B (p + i) ≤ 122) : 0 ≤ kt_wv B p k ∧ kt_wv B p k ≤ 1099511627776 := by
  obtain ⟨h1, h2⟩ := kt_wv_in k h
  have h3 : ∀ k, k < 9 → (32 : Int) ^ k ≤ 1099511627776 := by decide
  have := h3 k (by omega)
  omega
theorem kt_wv_inj {B C : Nat → Nat} {p q : Nat} : ∀ k L : Nat, (∀ i, i < k → 97 ≤ B (p + i) ∧ B (p + i) ≤ 122) → (∀ i, i < L → 97 ≤ C (q + i) ∧ C (q + i) ≤ 122) → kt_wv B p k = kt_wv C q L → k = L ∧ ∀ i, i < k → B (p + i) = C (q + i)
  | 0, 0, _, _, _ => ⟨rfl, fun i hi => absurd hi (Nat.not_lt_zero _)⟩
  | 0, L + 1, _, hC, h => by
    obtain ⟨h1, h2⟩ := kt_wv_in (p := q) L (fun i hi => hC i (by omega))
    have h3 := hC L (by omega)
    rw [kt_wv_s] at h
    have h' : (0 : Int) = 32 * kt_wv C q L + (C (q + L) : Int) - 97 + 1 := h
    omega
  | k + 1, 0, hB, _, h => by
    obtain ⟨h1, h2⟩ := kt_wv_in (p := p) k (fun i hi => hB i (by omega))
    have h3 := hB k (by omega)
    rw [kt_wv_s] at h
    have h' : 32 * kt_wv B p k + (B (p + k) : Int) - 97 + 1 = (0 : Int) := h
    omega
  | k + 1, L + 1, hB, hC, h => by
    have h3 := hB k (by omega)
    have h4 := hC L (by omega)
    rw [kt_wv_s, kt_wv_s] at h
    obtain ⟨i1, i2⟩ := kt_wv_inj k L (fun i hi => hB i (by omega)) (fun i hi => hC i (by omega)) (by omega)
    subst i1
    refine ⟨rfl, fun i hi => ?_⟩
    by_cases e : i = k
    · subst e; omega
    · exact i2 i (by omega)
def kt_ln (j : Nat) : Nat := kw_slen.getD j 0
def kt_ch (j i : Nat) : Nat := (kw_sc j i).toNatClampNeg
def kt_W (j : Nat) : Int := kt_wv (kt_ch j) 0 (kt_ln j)
theorem kt_words : ∀ j, j < 9 → kt_ln j ≤ 6 ∧ ∀ i, i < kt_ln j → kw_sc j i = nI (kt_ch j i) ∧ 97 ≤ kt_ch j i ∧ kt_ch j i ≤ 122 := by decide
theorem kt_Ws : kt_W 0 = 21487059 ∧ kt_W 1 = 605220 ∧ kt_W 2 = 12345 ∧ kt_W 3 = 408362632 ∧ kt_W 4 = 3554917 ∧ kt_W 5 = 508078 ∧ kt_W 6 = 522493230 ∧ kt_W 7 = 24170600 ∧ kt_W 8 = 217652404 := by decide
theorem kt_fsl {j : Nat} (hj : j < 15) : kw_fsl (100 + j) = some (nI (kt_ln j)) := by
  unfold kw_fsl
  rw [if_pos (by omega), show 100 + j - 100 = j by omega]
  rfl
theorem kt_fsc {j i : Nat} (hj : j < 15) (hi : i < kt_ln j) (h32 : kt_ln j < 2147483648) : kw_fsc (100 + j) (nI i) = some (kw_sc j i) := by
  unfold kw_fsc
  rw [show 100 + j - 100 = j by omega, if_pos ⟨by omega, kn_neg (by omega), by
    show nI i < nI (kt_ln j)
    rw [kn_lt (by omega) h32]
    exact hi⟩, kn_clamp (by omega)]
/-- the run of letters is the j-th word -/
def kt_is (B : Nat → Nat) (p wl j : Nat) : Bool := decide (wl = kt_ln j ∧ ∀ i, i < kt_ln j → B (p + i) = kt_ch j i)
theorem kx_isWord {σ : kw_M} {B : Nat → Nat} {e p wl tw j : Nat} (hB : kt_B B e) (hp : p + wl ≤ e) (T : kx_T σ B e (p + wl) tw) (hj : j < 9) : fX3_isWord (100 + j) (nI p) σ = some (kx_fl (kt_is B p wl j)) := by
  have he := hB.1
  obtain ⟨g1, g2, g3, g4, g5, g6⟩ := T
  obtain ⟨w1, w2⟩ := kt_words j hj
  unfold fX3_isWord
  rw [kt_fsl (by omega), Option.bind_some, g3, kn_sub (by omega), show p + wl - p = wl by omega]
  by_cases hl : wl = kt_ln j
  case neg =>
    rw [if_neg (by rw [kn_eq (by omega) (by omega)]; exact hl)]
    unfold kt_is
    rw [decide_eq_false (fun q => hl q.1)]
    rfl
  rw [if_pos (by rw [hl])]
  obtain ⟨x, hx, hQ⟩ := kw_for (body := fun s => bX3_isWord_17 (100 + j) (nI p) (100 + j) σ s) (fun k s => s = nI k ∧ ∀ i, i < k → B (p + i) = kt_ch j i) (fun x => (x = .inr () ∧ ∀ i, i < kt_ln j → B (p + i) = kt_ch j i) ∨ (x = .inl (0 : Int32) ∧ ∃ i, i < kt_ln j ∧ ¬ B (p + i) = kt_ch j i)) (kt_ln j) (by omega) (s0 := (0 : Int32)) ⟨rfl, fun i hi => absurd hi (Nat.not_lt_zero _)⟩ (fun k s hk hP => by
    obtain ⟨rfl, h2⟩ := hP
    unfold bX3_isWord_17
    rw [kt_fsl (by omega), Option.bind_some]
    by_cases hkl : k < kt_ln j
    case neg =>
      right
      obtain rfl : k = kt_ln j := by omega
      rw [if_pos (nI_le (Nat.le_refl _) (by omega))]
      exact ⟨_, rfl, Or.inl ⟨rfl, h2⟩⟩
    obtain ⟨c1, c2, c3⟩ := w2 k hkl
    have hb := hB.2 (p + k)
    rw [if_neg (nI_ge hkl (by omega)), kw_chk_t g1, nI_add, kn_chk (show p + k < 240 by omega) (by decide), kt_fsc (by omega) hkl (by omega), Option.bind_some, kn_clamp (by omega), g6 (p + k) (by omega), c1]
    by_cases heq : B (p + k) = kt_ch j k
    · left
      refine ⟨hkl, ?_⟩
      rw [if_pos (by rw [heq]), kw_let_def, km_next]
      refine ⟨_, rfl, rfl, fun i hi => ?_⟩
      by_cases ei : i = k
      · rw [ei]; exact heq
      · exact h2 i (by omega)
    · right
      rw [if_neg (by rw [kn_eq (by omega) (by omega)]; exact heq)]
      exact ⟨_, rfl, Or.inr ⟨rfl, k, hkl, heq⟩⟩)
  rw [hx, Option.bind_some]
  unfold kt_is
  rcases hQ with ⟨rfl, hall⟩ | ⟨rfl, i, hi, hne⟩
  · rw [Sum.elim_inr, decide_eq_true ⟨hl, hall⟩]
    rfl
  · rw [Sum.elim_inl, decide_eq_false (fun q => hne (q.2 i hi))]
    rfl
/-- the word's number in the reference tells the word -/
theorem kt_isW {B : Nat → Nat} {e p j : Nat} (hl : ∀ i, i < kt_rl (kt_l B e) e p → kt_l B e (p + i) = true) (hj : j < 9) : ((if kt_rl (kt_l B e) e p ≤ 8 then Int64.ofInt (kt_wv B p (kt_rl (kt_l B e) e p)) else (-1 : Int64)) = Int64.ofInt (kt_W j)) = (kt_is B p (kt_rl (kt_l B e) e p) j = true) := by
  obtain ⟨w1, w2⟩ := kt_words j hj
  have hL : ∀ i, i < kt_ln j → 97 ≤ kt_ch j (0 + i) ∧ kt_ch j (0 + i) ≤ 122 := fun i hi => by
    rw [Nat.zero_add]
    exact (w2 i hi).2
  have hl' : ∀ i, i < kt_rl (kt_l B e) e p → 97 ≤ B (p + i) ∧ B (p + i) ≤ 122 := fun i hi => (of_decide_eq_true (hl i hi)).2
  obtain ⟨b1, b2⟩ := kt_wv_b (k := kt_ln j) (by omega) hL
  unfold kt_is
  rw [decide_eq_true_iff]
  by_cases h8 : kt_rl (kt_l B e) e p ≤ 8
  · rw [if_pos h8]
    obtain ⟨a1, a2⟩ := kt_wv_b h8 hl'
    refine propext ⟨fun h => ?_, fun h => ?_⟩
    · have h1 : (Int64.ofInt (kt_wv B p (kt_rl (kt_l B e) e p))).toInt = (Int64.ofInt (kt_W j)).toInt := by rw [h]
      unfold kt_W at h1
      rw [km_toInt (by omega) (by omega), km_toInt (by omega) (by omega)] at h1
      obtain ⟨i1, i2⟩ := kt_wv_inj _ _ hl' hL h1
      refine ⟨i1, fun i hi => ?_⟩
      have := i2 i (by omega)
      rw [Nat.zero_add] at this
      exact this
    · have e1 : ∀ k, k ≤ kt_ln j → kt_wv B p k = kt_wv (kt_ch j) 0 k := fun k => by
        induction k with
        | zero => exact fun _ => rfl
        | succ k ih =>
          intro hk
          rw [kt_wv_s, kt_wv_s, ih (by omega), h.2 k (by omega), Nat.zero_add]
      rw [h.1, e1 _ (Nat.le_refl _)]
      rfl
  · rw [if_neg h8]
    refine propext ⟨fun h => ?_, fun h => absurd h.1 (by omega)⟩
    have h1 : (-1 : Int64).toInt = (Int64.ofInt (kt_W j)).toInt := by rw [h]
    unfold kt_W at h1
    rw [km_toInt (by omega) (by omega), show (-1 : Int64).toInt = -1 by decide] at h1
    omega
theorem kx_letters {σ : kw_M} {B : Nat → Nat} {e p tw : Nat} {a1 x1 : Int32} (hB : kt_B B e) (hp : p ≤ e) (T : kx_T σ B e p tw) : ∃ τ, kw_loop (fun s => bX3_readWord_5 a1 x1 s) kw_F σ = some τ ∧ kx_N σ τ ∧ kx_T τ B e (p + kt_rl (kt_l B e) e p) tw := by
  obtain ⟨r1, r2, r3⟩ := kt_rl_p (kt_l_e B e) hp
  have he := hB.1
  refine kw_for (body := fun s => bX3_readWord_5 a1 x1 s) (fun k s => kx_N σ s ∧ kx_T s B e (p + k) tw) (fun τ => kx_N σ τ ∧ kx_T τ B e (p + kt_rl (kt_l B e) e p) tw) (kt_rl (kt_l B e) e p) (by omega) (s0 := σ) ⟨kx_N_r σ, T⟩ (fun k s hk hP => ?_)
  obtain ⟨h1, hT⟩ := hP
  obtain ⟨g1, g2, g3, g4, g5, g6⟩ := hT
  have hb := hB.2 (p + k)
  unfold bX3_readWord_5
  rw [g2, g3]
  by_cases hkd : k < kt_rl (kt_l B e) e p
  case neg =>
    right
    obtain rfl : k = kt_rl (kt_l B e) e p := by omega
    have hT : kx_T s B e (p + kt_rl (kt_l B e) e p) tw := ⟨g1, g2, g3, g4, g5, g6⟩
    by_cases hE : e ≤ p + kt_rl (kt_l B e) e p
    · rw [if_pos (nI_le hE (by omega))]
      exact ⟨_, rfl, h1, hT⟩
    · rw [if_neg (nI_ge (by omega) (by omega)), kw_chk_t g1, kn_chk (show p + kt_rl (kt_l B e) e p < 240 by omega) (by decide), kn_clamp (by omega), g6 _ (by omega), kw_chk_t g1]
      by_cases hlo : B (p + kt_rl (kt_l B e) e p) < 97
      · rw [if_pos (by rw [show (97 : Int32) = nI 97 by decide, kn_lt (by omega) (by omega)]; exact hlo)]
        exact ⟨_, rfl, h1, hT⟩
      · have hhi : 122 < B (p + kt_rl (kt_l B e) e p) := by
          have := of_decide_eq_false r3
          omega
        rw [if_neg (by rw [show (97 : Int32) = nI 97 by decide, kn_lt (by omega) (by omega)]; exact hlo), if_pos (by rw [show (122 : Int32) = nI 122 by decide, kn_lt (by omega) (by omega)]; exact hhi)]
        exact ⟨_, rfl, h1, hT⟩
  left
  have hd := of_decide_eq_true (r2 k hkd)
  rw [if_neg (nI_ge (by omega) (by omega)), kw_chk_t g1, kn_chk (show p + k < 240 by omega) (by decide), kn_clamp (by omega), g6 _ (by omega), kw_chk_t g1, if_neg (by rw [show (97 : Int32) = nI 97 by decide, kn_lt (by omega) (by omega)]; omega), if_neg (by rw [show (122 : Int32) = nI 122 by decide, kn_lt (by omega) (by omega)]; omega), kw_let_def, km_next]
  refine ⟨hkd, _, rfl, kx_N_t h1 (kx_N_si (Or.inl rfl)), ?_⟩
  exact kx_T_N ⟨g1, g2, g3, g4, g5, g6⟩ (kx_N_si (Or.inl rfl)) (by rw [kw_si_1, kw_upd_e]; rfl) (by rw [kw_si_1, kw_upd_n (by decide)]; exact g4)
theorem kt_ofW (x : Int) (b : Nat) (hb : b < 2147483648) : ((((32 : Int64) * Int64.ofInt x) + (nI b).toInt64) - (97 : Int64)) + (1 : Int64) = Int64.ofInt (32 * x + (b : Int) - 97 + 1) := by
  rw [kw_natL hb, show (32 : Int64) = Int64.ofInt 32 by decide, show (97 : Int64) = Int64.ofInt 97 by decide, show (1 : Int64) = Int64.ofInt 1 by decide, Int64.ofInt_add, Int64.ofInt_sub, Int64.ofInt_add, Int64.ofInt_mul]
theorem km_word {σ : kw_M} {B : Nat → Nat} {e p : Nat} (hB : kt_B B e) (hp : p ≤ e) (T : km_T σ B e p) : ∃ τ, fX10_readsWord σ = some τ ∧ km_N σ τ ∧ km_T τ B e (p + kt_rl (kt_l B e) e p) ∧ τ.1 0 11 = nI p ∧ τ.2 0 13 = (if kt_rl (kt_l B e) e p ≤ 8 then Int64.ofInt (kt_wv B p (kt_rl (kt_l B e) e p)) else (-1 : Int64)) := by
  obtain ⟨r1, r2, r3⟩ := kt_rl_p (kt_l_e B e) hp
  have he := hB.1
  unfold fX10_readsWord
  rw [kw_let_def, kw_let_def, T.2.1]
  have n0 : km_N σ (kw_sl (kw_si σ 0 11 (nI p)) 0 13 0) := km_N_t (km_N_si (Or.inr (Or.inr (Or.inr rfl)))) km_N_sl
  have T0 : km_T (kw_sl (kw_si σ 0 11 (nI p)) 0 13 0) B e p := km_T_N T n0 (by rw [kw_sl_1, kw_si_1, kw_upd_n (by decide)]; exact T.2.1)
  have a0 : (kw_sl (kw_si σ 0 11 (nI p)) 0 13 0).1 0 11 = nI p := by rw [kw_sl_1, kw_si_1, kw_upd_e]
  have v0 : (kw_sl (kw_si σ 0 11 (nI p)) 0 13 0).2 0 13 = Int64.ofInt (kt_wv B p 0) := by rw [kw_sl_2, kw_updL_e]; rfl
  generalize kw_sl (kw_si σ 0 11 (nI p)) 0 13 0 = σ0 at n0 T0 a0 v0 ⊢
  obtain ⟨x, hx, q1, q2, q3, q4⟩ := kw_for (body := fun s => bX10_readsWord_13 s) (fun k s => km_N σ0 s ∧ km_T s B e (p + k) ∧ s.1 0 11 = nI p ∧ s.2 0 13 = Int64.ofInt (kt_wv B p (if k ≤ 8 then k else 8))) (fun τ => km_N σ0 τ ∧ km_T τ B e (p + kt_rl (kt_l B e) e p) ∧ τ.1 0 11 = nI p ∧ τ.2 0 13 = Int64.ofInt (kt_wv B p (if kt_rl (kt_l B e) e p ≤ 8 then kt_rl (kt_l B e) e p else 8))) (kt_rl (kt_l B e) e p) (by omega) (s0 := σ0) ⟨km_N_r _, T0, a0, v0⟩ (fun k s hk hP => by
    obtain ⟨h1, hT, h3, h4⟩ := hP
    unfold bX10_readsWord_13
    rw [km_here hB (by omega) hT, Option.bind_some, Option.bind_some, km_inl hB, Option.bind_some]
    simp only [kx_fl_0]
    by_cases hkd : k < kt_rl (kt_l B e) e p
    case neg =>
      right
      obtain rfl : k = kt_rl (kt_l B e) e p := by omega
      rw [r3, kn_ff]
      exact ⟨_, rfl, h1, hT, h3, h4⟩
    left
    refine ⟨hkd, ?_⟩
    have hd := of_decide_eq_true (r2 k hkd)
    rw [r2 k hkd, kn_tf, hT.2.1, h3, kn_sub (by omega), show p + k - p = k by omega]
    by_cases h8 : 8 ≤ k
    · rw [if_pos (by rw [show (8 : Int32) = nI 8 by decide, kn_le (by omega) (by omega)]; exact h8), kw_let_def, km_next]
      refine ⟨_, rfl, km_N_t h1 (km_N_si (Or.inl rfl)), km_T_N hT (km_N_si (Or.inl rfl)) (by rw [kw_si_1, kw_upd_e]; rfl), by rw [kw_si_1, kw_upd_n (by decide)]; exact h3, ?_⟩
      rw [kw_si_2, h4]
      by_cases e8 : k = 8
      · rw [if_pos (by omega), if_neg (by omega), e8]
      · rw [if_neg (by omega), if_neg (by omega)]
    · rw [if_neg (by rw [show (8 : Int32) = nI 8 by decide, kn_le (by omega) (by omega)]; exact h8), kw_let_def, kw_let_def, kw_sl_1, hT.2.1, km_next]
      refine ⟨_, rfl, km_N_t h1 (km_N_t km_N_sl (km_N_si (Or.inl rfl))), km_T_N hT (km_N_t km_N_sl (km_N_si (Or.inl rfl))) (by rw [kw_si_1, kw_upd_e]; rfl), by rw [kw_si_1, kw_upd_n (by decide), kw_sl_1]; exact h3, ?_⟩
      rw [kw_si_2, kw_sl_2, kw_updL_e, h4, if_pos (by omega), if_pos (by omega), kt_wv_s]
      unfold kt_c
      rw [if_pos hd.1]
      exact kt_ofW _ _ (by have := hB.2 (p + k); omega))
  rw [hx, Option.bind_some, q2.2.1, q3, kn_sub (by omega), show p + kt_rl (kt_l B e) e p - p = kt_rl (kt_l B e) e p by omega]
  by_cases h8 : kt_rl (kt_l B e) e p ≤ 8
  · rw [if_pos (by rw [show (8 : Int32) = nI 8 by decide, kn_le (by omega) (by omega)]; exact h8), if_pos h8]
    rw [if_pos h8] at q4
    exact ⟨x, rfl, km_N_t n0 q1, q2, q3, q4⟩
  · rw [if_neg (by rw [show (8 : Int32) = nI 8 by decide, kn_le (by omega) (by omega)]; exact h8), if_neg h8, kw_let_def]
    exact ⟨_, rfl, km_N_t n0 (km_N_t q1 km_N_sl), km_T_N q2 km_N_sl q2.2.1, q3, by rw [kw_sl_2, kw_updL_e]⟩
