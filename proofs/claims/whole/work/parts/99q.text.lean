/-! Texts: how the class reads a number. -/
def kx_T (σ : kw_M) (B : Nat → Nat) (e p tw : Nat) : Prop := σ.1 4 4 = 35 ∧ σ.1 4 5 = nI e ∧ σ.1 4 6 = nI p ∧ σ.1 4 7 = 0 ∧ σ.1 4 0 = nI tw ∧ ∀ i, i < e → σ.1 35 i = nI (B i)
def kx_N (σ τ : kw_M) : Prop := τ.2 = σ.2 ∧ (∀ c, c ≠ 4 → τ.1 c = σ.1 c) ∧ ∀ j, j ≠ 6 → j ≠ 7 → τ.1 4 j = σ.1 4 j
theorem kx_N_r (σ : kw_M) : kx_N σ σ := ⟨rfl, fun _ _ => rfl, fun _ _ _ => rfl⟩
theorem kx_N_t {a b c : kw_M} (h : kx_N a b) (g : kx_N b c) : kx_N a c := ⟨g.1.trans h.1, fun q hq => (g.2.1 q hq).trans (h.2.1 q hq), fun j h1 h2 => (g.2.2 j h1 h2).trans (h.2.2 j h1 h2)⟩
theorem kx_N_si {σ : kw_M} {j : Nat} {x : Int32} (hj : j = 6 ∨ j = 7) : kx_N σ (kw_si σ 4 j x) := ⟨rfl, fun c hc => kw_si_o hc, fun i h1 h2 => by rw [kw_si_1, kw_upd_n (by omega)]⟩
theorem kx_T_N {σ τ : kw_M} {B : Nat → Nat} {e p q tw : Nat} (h : kx_T σ B e p tw) (hn : kx_N σ τ) (hq : τ.1 4 6 = nI q) (h7 : τ.1 4 7 = 0) : kx_T τ B e q tw := ⟨by rw [hn.2.2 4 (by decide) (by decide)]; exact h.1, by rw [hn.2.2 5 (by decide) (by decide)]; exact h.2.1, hq, h7, by rw [hn.2.2 0 (by decide) (by decide)]; exact h.2.2.2.2.1, fun i hi => by rw [hn.2.1 35 (by decide)]; exact h.2.2.2.2.2 i hi⟩
theorem kx_tell {σ : kw_M} {c p : Nat} : fX3_tellFault (nI c) (nI p) σ = some (kw_si σ 4 7 (kt_f c p)) := by
  unfold fX3_tellFault
  rw [kw_let_def]
  rfl
theorem kx_tell1 {σ : kw_M} {p : Nat} : fX3_tellFault 1 (nI p) σ = some (kw_si σ 4 7 (kt_f 1 p)) := kx_tell (c := 1)
theorem kx_tell2 {σ : kw_M} {p : Nat} : fX3_tellFault 2 (nI p) σ = some (kw_si σ 4 7 (kt_f 2 p)) := kx_tell (c := 2)
theorem kx_tell3 {σ : kw_M} {p : Nat} : fX3_tellFault 3 (nI p) σ = some (kw_si σ 4 7 (kt_f 3 p)) := kx_tell (c := 3)
theorem kx_tell4 {σ : kw_M} {p : Nat} : fX3_tellFault 4 (nI p) σ = some (kw_si σ 4 7 (kt_f 4 p)) := kx_tell (c := 4)
theorem kx_tell6 {σ : kw_M} {p : Nat} : fX3_tellFault 6 (nI p) σ = some (kw_si σ 4 7 (kt_f 6 p)) := kx_tell (c := 6)
theorem kt_ofX (x : Int) (b : Nat) (h1 : 48 ≤ b) (hb : b < 256) : (Int64.ofInt x * (10 : Int64)) + (nI b - (48 : Int32)).toInt64 = Int64.ofInt (10 * x + (b : Int) - 48) := by
  rw [show (48 : Int32) = nI 48 by decide, kn_sub h1, kw_natL (by omega), show (10 : Int64) = Int64.ofInt 10 by decide, ← Int64.ofInt_mul, ← Int64.ofInt_add]
  congr 1
  omega
theorem kx_digits {σ : kw_M} {B : Nat → Nat} {e q tw : Nat} {v1 : Int32} (hB : kt_B B e) (hq : q ≤ e) (h : kx_T σ B e q tw) : ∃ x, kw_loop (fun s => bX3_readValue_52 v1 (nI q) s.1 s.2) kw_F ((0 : Int64), σ) = some x ∧ (kt_rl (kt_d B e) e q ≤ 10 → ∃ τ, x = .inr (Int64.ofInt (kt_dv B q (kt_rl (kt_d B e) e q)), τ) ∧ kx_N σ τ ∧ τ.1 4 6 = nI (q + kt_rl (kt_d B e) e q) ∧ τ.1 4 7 = 0) ∧ (10 < kt_rl (kt_d B e) e q → ∃ τ, x = .inl ((0 : Int64), τ) ∧ kx_N σ τ ∧ τ.1 4 7 = kt_f 2 (q + 10)) := by
  obtain ⟨r1, r2, r3⟩ := kt_rl_p (kt_d_e B e) hq
  have he := hB.1
  refine kw_for (body := fun s => bX3_readValue_52 v1 (nI q) s.1 s.2) (fun k s => k ≤ 10 ∧ s.1 = Int64.ofInt (kt_dv B q k) ∧ kx_N σ s.2 ∧ s.2.1 4 6 = nI (q + k) ∧ s.2.1 4 7 = 0) (fun x => (kt_rl (kt_d B e) e q ≤ 10 → ∃ τ, x = .inr (Int64.ofInt (kt_dv B q (kt_rl (kt_d B e) e q)), τ) ∧ kx_N σ τ ∧ τ.1 4 6 = nI (q + kt_rl (kt_d B e) e q) ∧ τ.1 4 7 = 0) ∧ (10 < kt_rl (kt_d B e) e q → ∃ τ, x = .inl ((0 : Int64), τ) ∧ kx_N σ τ ∧ τ.1 4 7 = kt_f 2 (q + 10))) (kt_rl (kt_d B e) e q) (by omega) (s0 := ((0 : Int64), σ)) ⟨by decide, rfl, kx_N_r σ, h.2.2.1, h.2.2.2.1⟩ (fun k s hk hP => ?_)
  obtain ⟨v, τ⟩ := s
  obtain ⟨h1, h5, h2, h3, h4⟩ := hP
  dsimp only at h1 h5 h2 h3 h4 ⊢
  subst h5
  have hT := kx_T_N h h2 h3 h4
  obtain ⟨g1, g2, g3, g4, g5, g6⟩ := hT
  have hb := hB.2 (q + k)
  unfold bX3_readValue_52
  rw [g2, g3]
  by_cases hkd : k < kt_rl (kt_d B e) e q
  case neg =>
    right
    obtain rfl : k = kt_rl (kt_d B e) e q := by omega
    have fin : ∃ x, (some (Sum.inr (Sum.inr (Int64.ofInt (kt_dv B q (kt_rl (kt_d B e) e q)), τ))) : Option ((Int64 × kw_M) ⊕ ((Int64 × kw_M) ⊕ (Int64 × kw_M)))) = some (Sum.inr x) ∧ (kt_rl (kt_d B e) e q ≤ 10 → ∃ τ, x = .inr (Int64.ofInt (kt_dv B q (kt_rl (kt_d B e) e q)), τ) ∧ kx_N σ τ ∧ τ.1 4 6 = nI (q + kt_rl (kt_d B e) e q) ∧ τ.1 4 7 = 0) ∧ (10 < kt_rl (kt_d B e) e q → ∃ τ, x = .inl ((0 : Int64), τ) ∧ kx_N σ τ ∧ τ.1 4 7 = kt_f 2 (q + 10)) := ⟨_, rfl, fun _ => ⟨τ, rfl, h2, h3, h4⟩, fun q => absurd h1 (by omega)⟩
    by_cases hE : e ≤ q + kt_rl (kt_d B e) e q
    · rw [if_pos (nI_le hE (by omega))]
      exact fin
    · rw [if_neg (nI_ge (by omega) (by omega)), kw_chk_t g1, kn_chk (show q + kt_rl (kt_d B e) e q < 240 by omega) (by decide), kn_clamp (by omega), g6 _ (by omega), kw_chk_t g1]
      by_cases hlo : B (q + kt_rl (kt_d B e) e q) < 48
      · rw [if_pos (by rw [show (48 : Int32) = nI 48 by decide, kn_lt (by omega) (by omega)]; exact hlo)]
        exact fin
      · have hhi : 57 < B (q + kt_rl (kt_d B e) e q) := by
          have := of_decide_eq_false r3
          omega
        rw [if_neg (by rw [show (48 : Int32) = nI 48 by decide, kn_lt (by omega) (by omega)]; exact hlo), if_pos (by rw [show (57 : Int32) = nI 57 by decide, kn_lt (by omega) (by omega)]; exact hhi)]
        exact fin
  have hd := of_decide_eq_true (r2 k hkd)
  rw [if_neg (nI_ge (by omega) (by omega)), kw_chk_t g1, kn_chk (show q + k < 240 by omega) (by decide), kn_clamp (by omega), g6 _ (by omega), kw_chk_t g1, kw_chk_t g1, if_neg (by rw [show (48 : Int32) = nI 48 by decide, kn_lt (by omega) (by omega)]; omega), if_neg (by rw [show (57 : Int32) = nI 57 by decide, kn_lt (by omega) (by omega)]; omega), kn_sub (by omega), show q + k - q = k by omega]
  by_cases hk10 : k = 10
  · right
    rw [hk10, if_pos (by decide), kx_tell2, Option.bind_some]
    refine ⟨_, rfl, fun z => absurd z (by omega), fun _ => ⟨_, rfl, kx_N_t h2 (kx_N_si (Or.inr rfl)), ?_⟩⟩
    rw [kw_si_1, kw_upd_e]
  · left
    refine ⟨hkd, ?_⟩
    rw [if_neg (by
      rw [show (10 : Int32) = nI 10 by decide, kn_eq (by omega) (by omega)]
      omega), kw_let_def, kw_let_def, km_next, kt_ofX _ _ hd.2.1 hb]
    refine ⟨_, rfl, by omega, rfl, kx_N_t h2 (kx_N_si (Or.inl rfl)), ?_, ?_⟩
    · show (kw_si τ 4 6 (nI (q + k + 1))).1 4 6 = _
      rw [kw_si_1, kw_upd_e]; rfl
    · show (kw_si τ 4 6 (nI (q + k + 1))).1 4 7 = _
      rw [kw_si_1, kw_upd_n (by decide)]; exact h4
theorem kx_value {σ : kw_M} {B : Nat → Nat} {e p tw : Nat} (hB : kt_B B e) (hp : p < e) (h : kx_T σ B e (p + 1) tw) : ∃ v τ, fX3_readValue σ = some (v, τ) ∧ kx_N σ τ ∧ (kt_rl (kt_d B e) e (kt_q B e p) = 0 → τ.1 4 7 = kt_f 1 (kt_q B e p)) ∧ (10 < kt_rl (kt_d B e) e (kt_q B e p) → τ.1 4 7 = kt_f 2 (kt_q B e p + 10)) ∧ (0 < kt_rl (kt_d B e) e (kt_q B e p) → kt_rl (kt_d B e) e (kt_q B e p) ≤ 10 → τ.1 4 7 = 0 ∧ τ.1 4 6 = nI (kt_q B e p + kt_rl (kt_d B e) e (kt_q B e p)) ∧ v = Int64.ofInt (if kt_s B e (p + 1) = true then -(kt_dv B (kt_q B e p) (kt_rl (kt_d B e) e (kt_q B e p))) else kt_dv B (kt_q B e p) (kt_rl (kt_d B e) e (kt_q B e p)))) := by
  have he := hB.1
  have hq := kt_q_le (B := B) hp
  obtain ⟨r1, r2, r3⟩ := kt_rl_p (kt_d_e B e) hq
  have key : ∀ (σ2 : kw_M), kx_N σ σ2 → kx_T σ2 B e (kt_q B e p) tw → ∃ v τ, jX3_readValue_45 (kx_fl (kt_s B e (p + 1))) σ2 = some (v, τ) ∧ kx_N σ τ ∧ (kt_rl (kt_d B e) e (kt_q B e p) = 0 → τ.1 4 7 = kt_f 1 (kt_q B e p)) ∧ (10 < kt_rl (kt_d B e) e (kt_q B e p) → τ.1 4 7 = kt_f 2 (kt_q B e p + 10)) ∧ (0 < kt_rl (kt_d B e) e (kt_q B e p) → kt_rl (kt_d B e) e (kt_q B e p) ≤ 10 → τ.1 4 7 = 0 ∧ τ.1 4 6 = nI (kt_q B e p + kt_rl (kt_d B e) e (kt_q B e p)) ∧ v = Int64.ofInt (if kt_s B e (p + 1) = true then -(kt_dv B (kt_q B e p) (kt_rl (kt_d B e) e (kt_q B e p))) else kt_dv B (kt_q B e p) (kt_rl (kt_d B e) e (kt_q B e p)))) := fun σ2 n2 T2 => by
    unfold jX3_readValue_45
    obtain ⟨x, x1, x2, x3⟩ := kx_digits (v1 := kx_fl (kt_s B e (p + 1))) hB hq T2
    rw [T2.2.2.1, kw_let_def, x1, Option.bind_some]
    by_cases hd10 : 10 < kt_rl (kt_d B e) e (kt_q B e p)
    · obtain ⟨τ, rfl, t1, t2⟩ := x3 hd10
      rw [Sum.elim_inl]
      exact ⟨_, _, rfl, kx_N_t n2 t1, fun z => absurd z (by omega), fun _ => t2, fun _ z => absurd z (by omega)⟩
    obtain ⟨τ, rfl, t1, t2, t3⟩ := x2 (by omega)
    rw [Sum.elim_inr]
    unfold jX3_readValue_146 jX3_readValue_163
    dsimp only
    rw [t2]
    simp only [kx_fl_0, kn_eq (show kt_q B e p + kt_rl (kt_d B e) e (kt_q B e p) < 2147483648 by omega) (show kt_q B e p < 2147483648 by omega)]
    by_cases hd0 : kt_rl (kt_d B e) e (kt_q B e p) = 0
    · rw [if_pos (by omega), kx_tell1, Option.bind_some]
      have n3 : kx_N σ (kw_si τ 4 7 (kt_f 1 (kt_q B e p + kt_rl (kt_d B e) e (kt_q B e p)))) := kx_N_t n2 (kx_N_t t1 (kx_N_si (Or.inr rfl)))
      have e7 : (kw_si τ 4 7 (kt_f 1 (kt_q B e p + kt_rl (kt_d B e) e (kt_q B e p)))).1 4 7 = kt_f 1 (kt_q B e p) := by
        rw [kw_si_1, kw_upd_e, hd0, Nat.add_zero]
      cases kt_s B e (p + 1) with
      | false =>
        rw [kn_ff]
        exact ⟨_, _, rfl, n3, fun _ => e7, fun z => absurd z (by omega), fun z => absurd z (by omega)⟩
      | true =>
        rw [kn_tf]
        exact ⟨_, _, rfl, n3, fun _ => e7, fun z => absurd z (by omega), fun z => absurd z (by omega)⟩
    · rw [if_neg (by omega)]
      cases kt_s B e (p + 1) with
      | false =>
        rw [kn_ff, kn_ft]
        exact ⟨_, _, rfl, kx_N_t n2 t1, fun z => absurd z hd0, fun z => absurd z hd10, fun _ _ => ⟨t3, t2, rfl⟩⟩
      | true =>
        rw [kn_tf, kn_tt]
        exact ⟨_, _, rfl, kx_N_t n2 t1, fun z => absurd z hd0, fun z => absurd z hd10, fun _ _ => ⟨t3, t2, (Int64.ofInt_neg _).symm⟩⟩
  obtain ⟨g1, g2, g3, g4, g5, g6⟩ := h
  have T0 : kx_T σ B e (p + 1) tw := ⟨g1, g2, g3, g4, g5, g6⟩
  have no : kt_s B e (p + 1) = false → ∃ v τ, jX3_readValue_29 σ = some (v, τ) ∧ kx_N σ τ ∧ (kt_rl (kt_d B e) e (kt_q B e p) = 0 → τ.1 4 7 = kt_f 1 (kt_q B e p)) ∧ (10 < kt_rl (kt_d B e) e (kt_q B e p) → τ.1 4 7 = kt_f 2 (kt_q B e p + 10)) ∧ (0 < kt_rl (kt_d B e) e (kt_q B e p) → kt_rl (kt_d B e) e (kt_q B e p) ≤ 10 → τ.1 4 7 = 0 ∧ τ.1 4 6 = nI (kt_q B e p + kt_rl (kt_d B e) e (kt_q B e p)) ∧ v = Int64.ofInt (if kt_s B e (p + 1) = true then -(kt_dv B (kt_q B e p) (kt_rl (kt_d B e) e (kt_q B e p))) else kt_dv B (kt_q B e p) (kt_rl (kt_d B e) e (kt_q B e p)))) := fun hs => by
    unfold jX3_readValue_29 jX3_readValue_30
    rw [if_pos rfl]
    have hq1 : kt_q B e p = p + 1 := by unfold kt_q; rw [hs, kn_ft]
    have k2 := key σ (kx_N_r σ) (by rw [hq1]; exact T0)
    rw [hs] at k2 ⊢
    exact k2
  unfold fX3_readValue
  rw [g2, g3]
  by_cases hE : e ≤ p + 1
  · rw [if_pos (nI_le hE (by omega))]
    exact no (decide_eq_false (fun z => absurd z.1 (by omega)))
  · have hb := hB.2 (p + 1)
    rw [if_neg (nI_ge (by omega) (by omega)), kw_chk_t g1, kn_chk (show p + 1 < 240 by omega) (by decide), kn_clamp (by omega), g6 _ (by omega)]
    by_cases h45 : B (p + 1) = 45
    · have hs : kt_s B e (p + 1) = true := decide_eq_true ⟨by omega, h45⟩
      have hq1 : kt_q B e p = p + 2 := by unfold kt_q; rw [hs, kn_tt]
      rw [if_pos (by rw [h45]; decide)]
      unfold jX3_readValue_30
      rw [if_neg (show ¬ (1 : Int32) = 0 by decide), kw_let_def, g3, km_next]
      have k2 := key (kw_si σ 4 6 (nI (p + 1 + 1))) (kx_N_si (Or.inl rfl)) (by rw [hq1]; exact kx_T_N T0 (kx_N_si (Or.inl rfl)) (by rw [kw_si_1, kw_upd_e]) (by rw [kw_si_1, kw_upd_n (by decide)]; exact g4))
      rw [hs] at k2 ⊢
      exact k2
    · rw [if_neg (fun z => h45 (by
        rw [show (45 : Int32) = nI 45 by decide, kn_eq (by omega) (by omega)] at z
        exact z))]
      exact no (decide_eq_false (fun z => h45 z.2))
/-- the class reads a number -/
theorem kx_number {σ : kw_M} {B : Nat → Nat} {e p tw k i : Nat} {ch : Int32} {lo hi : Int} (hB : kt_B B e) (hp : p ≤ e) (h : kx_T σ B e p tw) (hk : k < 24) (hi3 : i < 3) (ht : ∀ (v : Int) (τ : kw_M), -10000000000 ≤ v → v ≤ 10000000000 → τ.1 4 0 = nI tw → fX3_isTold ch (Int64.ofInt v) τ = some (kx_fl (decide (lo ≤ v ∧ v ≤ hi)))) : (∀ f, kt_n lo hi B e p = .inl f → ∃ τ, fX3_readNumber (nI k) (nI i) ch σ = some τ ∧ kx_N σ τ ∧ τ.1 4 7 = f) ∧ (∀ v q, kt_n lo hi B e p = .inr (v, q) → ∃ τ, kx_N σ τ ∧ τ.1 4 6 = nI q ∧ τ.1 4 7 = 0 ∧ fX3_readNumber (nI k) (nI i) ch σ = (if ch = (110 : Int32) then jX3_readNumber_113 (nI i) ch (nI (p + 1)) (nI (3 * k + i)) (kw_si (kw_si τ 37 (3 * k + i) (Int32.ofInt v)) 4 0 (Int32.ofInt v)) else jX3_readNumber_113 (nI i) ch (nI (p + 1)) (nI (3 * k + i)) (kw_si τ 37 (3 * k + i) (Int32.ofInt v)))) := by
  have he := hB.1
  obtain ⟨g1, g2, g3, g4, g5, g6⟩ := h
  have T0 : kx_T σ B e p tw := ⟨g1, g2, g3, g4, g5, g6⟩
  unfold fX3_readNumber kt_n kt_num
  rw [g2, g3]
  have bad : ∃ τ, jX3_readNumber_25 σ = some τ ∧ kx_N σ τ ∧ τ.1 4 7 = kt_f 1 p := by
    unfold jX3_readNumber_25
    rw [g3, kx_tell1, Option.bind_some]
    exact ⟨_, rfl, kx_N_si (Or.inr rfl), by rw [kw_si_1, kw_upd_e]⟩
  by_cases h32 : p < e ∧ B p = 32
  case neg =>
    rw [if_neg h32]
    refine ⟨fun f hf => ?_, fun v q hq => (by dsimp only at hq; cases hq)⟩
    obtain rfl := Sum.inl.inj hf
    by_cases hE : e ≤ p
    · rw [if_pos (nI_le hE (by omega))]
      exact bad
    · have hb := hB.2 p
      rw [if_neg (nI_ge (by omega) (by omega)), kw_chk_t g1, kn_chk (show p < 240 by omega) (by decide), kn_clamp (by omega), g6 _ (by omega), if_neg (fun z => h32 ⟨by omega, by
        rw [show (32 : Int32) = nI 32 by decide, kn_eq (by omega) (by omega)] at z
        exact z⟩)]
      exact bad
  have T1 : kx_T (kw_si σ 4 6 (nI (p + 1))) B e (p + 1) tw := kx_T_N T0 (kx_N_si (Or.inl rfl)) (by rw [kw_si_1, kw_upd_e]) (by rw [kw_si_1, kw_upd_n (by decide)]; exact g4)
  obtain ⟨v, τ, v1, v2, v3, v4, v5⟩ := kx_value hB h32.1 T1
  have nτ : kx_N σ τ := kx_N_t (kx_N_si (Or.inl rfl)) v2
  rw [if_pos h32, if_neg (nI_ge h32.1 (by omega)), kw_chk_t g1, kn_chk (show p < 240 by omega) (by decide), kn_clamp (by omega), g6 p h32.1, h32.2, if_pos (show nI 32 = (32 : Int32) by decide), kw_let_def, km_next, kw_si_1, kw_upd_e, kw_let_def, v1, Option.bind_some]
  dsimp only
  have hq := kt_q_le (B := B) h32.1
  obtain ⟨r1, r2, r3⟩ := kt_rl_p (kt_d_e B e) hq
  by_cases hd0 : kt_rl (kt_d B e) e (kt_q B e p) = 0
  · rw [if_pos hd0, v3 hd0, if_neg (kt_f_ne 1 (by decide) (by decide) _ (by omega))]
    refine ⟨fun f hf => ?_, fun v q hq => (by dsimp only at hq; cases hq)⟩
    obtain rfl := Sum.inl.inj hf
    exact ⟨_, rfl, nτ, v3 hd0⟩
  rw [if_neg hd0]
  by_cases hd10 : 10 < kt_rl (kt_d B e) e (kt_q B e p)
  · rw [if_pos hd10, v4 hd10, if_neg (kt_f_ne 2 (by decide) (by decide) _ (by omega))]
    refine ⟨fun f hf => ?_, fun v q hq => (by dsimp only at hq; cases hq)⟩
    obtain rfl := Sum.inl.inj hf
    exact ⟨_, rfl, nτ, v4 hd10⟩
  obtain ⟨w1, w2, w3⟩ := v5 (by omega) (by omega)
  have hbv := kt_dv_b (B := B) (e := e) (p := kt_q B e p) (k := kt_rl (kt_d B e) e (kt_q B e p)) (by omega) r2
  have hvb : -10000000000 ≤ (if kt_s B e (p + 1) = true then -(kt_dv B (kt_q B e p) (kt_rl (kt_d B e) e (kt_q B e p))) else kt_dv B (kt_q B e p) (kt_rl (kt_d B e) e (kt_q B e p))) ∧ (if kt_s B e (p + 1) = true then -(kt_dv B (kt_q B e p) (kt_rl (kt_d B e) e (kt_q B e p))) else kt_dv B (kt_q B e p) (kt_rl (kt_d B e) e (kt_q B e p))) ≤ 10000000000 := by
    cases kt_s B e (p + 1) with
    | false => rw [kn_ft]; omega
    | true => rw [kn_tt]; omega
  rw [if_neg hd10, w1, if_pos rfl, w3]
  generalize (if kt_s B e (p + 1) = true then -(kt_dv B (kt_q B e p) (kt_rl (kt_d B e) e (kt_q B e p))) else kt_dv B (kt_q B e p) (kt_rl (kt_d B e) e (kt_q B e p))) = u at hvb ⊢
  rw [ht u τ hvb.1 hvb.2 (by rw [nτ.2.2 0 (by decide) (by decide)]; exact g5), Option.bind_some]
  simp only [kx_fl_0]
  by_cases hin : lo ≤ u ∧ u ≤ hi
  case neg =>
    rw [if_neg hin, decide_eq_false hin, kn_ff, kx_tell3, Option.bind_some]
    refine ⟨fun f hf => ?_, fun v q hq => (by cases hq)⟩
    obtain rfl := Sum.inl.inj hf
    exact ⟨_, rfl, kx_N_t nτ (kx_N_si (Or.inr rfl)), by rw [kw_si_1, kw_upd_e]⟩
  rw [if_pos hin, decide_eq_true hin, kn_tf]
  refine ⟨fun f hf => (by cases hf), fun v q hq => ?_⟩
  cases hq
  refine ⟨τ, nτ, w2, w1, ?_⟩
  rw [kn_3, kn_mul, nI_add, kw_let_def, show k * 3 + i = 3 * k + i by omega, kn_chk (show 3 * k + i < 72 by omega) (by decide), kn_clamp (by omega), kw_let_def, kw_let_def, Int64.toInt32_ofInt]
