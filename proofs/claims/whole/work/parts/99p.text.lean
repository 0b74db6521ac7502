/-! Texts: bytes, runs, numbers; how the reference reads a number. -/
def kt_l (B : Nat → Nat) (e p : Nat) : Bool := decide (p < e ∧ 97 ≤ B p ∧ B p ≤ 122)
def kt_d (B : Nat → Nat) (e p : Nat) : Bool := decide (p < e ∧ 48 ≤ B p ∧ B p ≤ 57)
def kt_run (f : Nat → Bool) : Nat → Nat → Nat
  | 0, _ => 0
  | j + 1, p => if f p = true then kt_run f j (p + 1) + 1 else 0
theorem kt_run_s (f : Nat → Bool) (j p : Nat) : kt_run f (j + 1) p = if f p = true then kt_run f j (p + 1) + 1 else 0 := rfl
theorem kt_run_p {f : Nat → Bool} : ∀ j p : Nat, kt_run f j p ≤ j ∧ (∀ i, i < kt_run f j p → f (p + i) = true) ∧ (kt_run f j p < j → f (p + kt_run f j p) = false)
  | 0, p => ⟨Nat.le_refl _, fun i hi => absurd hi (Nat.not_lt_zero _), fun h => absurd h (Nat.lt_irrefl _)⟩
  | j + 1, p => by
    obtain ⟨h1, h2, h3⟩ := kt_run_p (f := f) j (p + 1)
    rw [kt_run_s]
    cases q : f p with
    | true =>
      rw [kn_tt]
      refine ⟨by omega, fun i hi => ?_, fun h => ?_⟩
      · cases i with
        | zero => exact q
        | succ i =>
          rw [show p + (i + 1) = p + 1 + i by omega]
          exact h2 i (by omega)
      · rw [show p + (kt_run f j (p + 1) + 1) = p + 1 + kt_run f j (p + 1) by omega]
        exact h3 (by omega)
    | false =>
      rw [kn_ft]
      exact ⟨Nat.zero_le _, fun i hi => absurd hi (Nat.not_lt_zero _), fun _ => q⟩
/-- how long f holds from p on, up to e -/
def kt_rl (f : Nat → Bool) (e p : Nat) : Nat := kt_run f (e - p) p
theorem kt_rl_p {f : Nat → Bool} {e p : Nat} (he : f e = false) (hp : p ≤ e) : p + kt_rl f e p ≤ e ∧ (∀ i, i < kt_rl f e p → f (p + i) = true) ∧ f (p + kt_rl f e p) = false := by
  obtain ⟨h1, h2, h3⟩ := kt_run_p (f := f) (e - p) p
  unfold kt_rl
  refine ⟨by omega, h2, ?_⟩
  by_cases q : kt_run f (e - p) p < e - p
  · exact h3 q
  · rw [show p + kt_run f (e - p) p = e by omega]
    exact he
theorem kt_l_e (B : Nat → Nat) (e : Nat) : kt_l B e e = false := decide_eq_false (fun h => absurd h.1 (Nat.lt_irrefl _))
theorem kt_d_e (B : Nat → Nat) (e : Nat) : kt_d B e e = false := decide_eq_false (fun h => absurd h.1 (Nat.lt_irrefl _))
def kt_B (B : Nat → Nat) (e : Nat) : Prop := e ≤ 200 ∧ ∀ i, B i < 256
/-- what is answered for a fault -/
def kt_f (c p : Nat) : Int32 := ((-1000 : Int32) * nI c) - nI p
theorem kt_f_ne : ∀ c, c < 7 → 0 < c → ∀ p, p < 256 → ¬ kt_f c p = 0 := by decide +kernel
/-- digits -/
def kt_dv (B : Nat → Nat) (p : Nat) : Nat → Int
  | 0 => 0
  | k + 1 => 10 * kt_dv B p k + (B (p + k) : Int) - 48
theorem kt_dv_s (B : Nat → Nat) (p k : Nat) : kt_dv B p (k + 1) = 10 * kt_dv B p k + (B (p + k) : Int) - 48 := rfl
theorem kt_dv_in {B : Nat → Nat} {e p : Nat} : ∀ k : Nat, k ≤ 10 → (∀ i, i < k → kt_d B e (p + i) = true) → 0 ≤ kt_dv B p k ∧ kt_dv B p k < 10 ^ k
  | 0, _, _ => by
    show (0 : Int) ≤ 0 ∧ (0 : Int) < 10 ^ 0
    decide
  | k + 1, hk, h => by
    obtain ⟨h1, h2⟩ := kt_dv_in k (by omega) (fun i hi => h i (by omega))
    have h3 := of_decide_eq_true (h k (by omega))
    rw [kt_dv_s, Int.pow_succ]
    omega
theorem kt_dv_b {B : Nat → Nat} {e p k : Nat} (hk : k ≤ 10) (h : ∀ i, i < k → kt_d B e (p + i) = true) : 0 ≤ kt_dv B p k ∧ kt_dv B p k ≤ 10000000000 := by
  obtain ⟨h1, h2⟩ := kt_dv_in k hk h
  have h3 : ∀ k, k < 11 → (10 : Int) ^ k ≤ 10000000000 := by decide
  have := h3 k (by omega)
  omega
/-- a sign -/
def kt_s (B : Nat → Nat) (e p : Nat) : Bool := decide (p < e ∧ B p = 45)
def kt_q (B : Nat → Nat) (e p : Nat) : Nat := if kt_s B e (p + 1) = true then p + 2 else p + 1
/-- a blank and a number: a fault, or the number and where it ends -/
def kt_num (B : Nat → Nat) (e p : Nat) : Int32 ⊕ (Int × Nat) :=
  if p < e ∧ B p = 32 then
    (if kt_rl (kt_d B e) e (kt_q B e p) = 0 then .inl (kt_f 1 (kt_q B e p)) else
      if 10 < kt_rl (kt_d B e) e (kt_q B e p) then .inl (kt_f 2 (kt_q B e p + 10)) else
        .inr (if kt_s B e (p + 1) = true then -(kt_dv B (kt_q B e p) (kt_rl (kt_d B e) e (kt_q B e p))) else kt_dv B (kt_q B e p) (kt_rl (kt_d B e) e (kt_q B e p)), kt_q B e p + kt_rl (kt_d B e) e (kt_q B e p)))
  else .inl (kt_f 1 p)
def kt_n (lo hi : Int) (B : Nat → Nat) (e p : Nat) : Int32 ⊕ (Int × Nat) := match kt_num B e p with
  | .inl f => .inl f
  | .inr (v, q) => if lo ≤ v ∧ v ≤ hi then .inr (v, q) else .inl (kt_f 3 (p + 1))
theorem kt_q_le {B : Nat → Nat} {e p : Nat} (h : p < e) : kt_q B e p ≤ e := by
  unfold kt_q
  cases hs : kt_s B e (p + 1) with
  | true =>
    have := of_decide_eq_true hs
    rw [kn_tt]
    omega
  | false =>
    rw [kn_ft]
    omega
/-- the reference's place in a text -/
def km_T (σ : kw_M) (B : Nat → Nat) (e p : Nat) : Prop := σ.1 0 8 = nI e ∧ σ.1 0 7 = nI p ∧ ∀ i, i < e → σ.1 5 i &&& 255 = nI (B i)
def kt_c (B : Nat → Nat) (e p : Nat) : Int32 := if p < e then nI (B p) else -1
theorem km_here {σ : kw_M} {B : Nat → Nat} {e p : Nat} (hB : kt_B B e) (hp : p ≤ e) (h : km_T σ B e p) : fX10_here σ = some (kt_c B e p) := by
  have := hB.1
  unfold fX10_here kt_c
  rw [h.1, h.2.1]
  by_cases q : p < e
  · rw [if_neg (nI_ge q (by omega)), kn_chk (show p < 240 by omega) (by decide), kn_clamp (by omega), h.2.2 p q, if_pos q]
  · rw [if_pos (nI_le (by omega) (by omega)), if_neg q]
theorem kt_c_in {B : Nat → Nat} {e p : Nat} (hB : kt_B B e) {a b : Nat} (σ : kw_M) : fX10_in (kt_c B e p).toInt64 (Int64.ofNat a) (Int64.ofNat b) σ = some (kx_fl (decide ((Int64.ofNat a).toInt ≤ (kt_c B e p).toInt ∧ (kt_c B e p).toInt ≤ (Int64.ofNat b).toInt))) := by
  rw [km_in, Int32.toInt_toInt64]
theorem km_inl {B : Nat → Nat} {e p : Nat} (hB : kt_B B e) (σ : kw_M) : fX10_in (kt_c B e p).toInt64 97 122 σ = some (kx_fl (kt_l B e p)) := by
  have := hB.2 p
  rw [km_in, Int32.toInt_toInt64, show (97 : Int64).toInt = 97 by decide, show (122 : Int64).toInt = 122 by decide]
  unfold kt_c kt_l
  by_cases q : p < e
  · rw [if_pos q, nI_toInt (by omega)]
    congr 2
    exact decide_eq_decide.mpr ⟨fun h => ⟨q, by omega, by omega⟩, fun h => ⟨by omega, by omega⟩⟩
  · rw [if_neg q, decide_eq_false (show ¬ (97 ≤ (-1 : Int32).toInt ∧ (-1 : Int32).toInt ≤ 122) by decide), decide_eq_false (fun h => q h.1)]
theorem km_ind {B : Nat → Nat} {e p : Nat} (hB : kt_B B e) (σ : kw_M) : fX10_in (kt_c B e p).toInt64 48 57 σ = some (kx_fl (kt_d B e p)) := by
  have := hB.2 p
  rw [km_in, Int32.toInt_toInt64, show (48 : Int64).toInt = 48 by decide, show (57 : Int64).toInt = 57 by decide]
  unfold kt_c kt_d
  by_cases q : p < e
  · rw [if_pos q, nI_toInt (by omega)]
    congr 2
    exact decide_eq_decide.mpr ⟨fun h => ⟨q, by omega, by omega⟩, fun h => ⟨by omega, by omega⟩⟩
  · rw [if_neg q, decide_eq_false (show ¬ (48 ≤ (-1 : Int32).toInt ∧ (-1 : Int32).toInt ≤ 57) by decide), decide_eq_false (fun h => q h.1)]
theorem kt_c_eq {B : Nat → Nat} {e p c : Nat} (hB : kt_B B e) (hc : c < 256) : (kt_c B e p = nI c) = (p < e ∧ B p = c) := by
  have := hB.2 p
  unfold kt_c
  by_cases q : p < e
  · rw [if_pos q, kn_eq (by omega) (by omega)]
    exact propext ⟨fun h => ⟨q, h⟩, fun h => h.2⟩
  · rw [if_neg q]
    exact propext ⟨fun h => absurd h.symm (kb_neg1 (by omega)), fun h => absurd h.1 q⟩
/-- what the reference leaves as it is where it reads -/
def km_N (σ τ : kw_M) : Prop := (∀ c, c ≠ 0 → τ.1 c = σ.1 c) ∧ (∀ c, c ≠ 0 → τ.2 c = σ.2 c) ∧ ∀ j, j ≠ 7 → j ≠ 9 → j ≠ 10 → j ≠ 11 → τ.1 0 j = σ.1 0 j
theorem km_N_r (σ : kw_M) : km_N σ σ := ⟨fun _ _ => rfl, fun _ _ => rfl, fun _ _ _ _ _ => rfl⟩
theorem km_N_t {a b c : kw_M} (h : km_N a b) (g : km_N b c) : km_N a c := ⟨fun q hq => (g.1 q hq).trans (h.1 q hq), fun q hq => (g.2.1 q hq).trans (h.2.1 q hq), fun j h1 h2 h3 h4 => (g.2.2 j h1 h2 h3 h4).trans (h.2.2 j h1 h2 h3 h4)⟩
theorem km_N_si {σ : kw_M} {j : Nat} {x : Int32} (hj : j = 7 ∨ j = 9 ∨ j = 10 ∨ j = 11) : km_N σ (kw_si σ 0 j x) := ⟨fun c hc => kw_si_o hc, fun c _ => rfl, fun i h1 h2 h3 h4 => by rw [kw_si_1, kw_upd_n (by omega)]⟩
theorem km_N_sl {σ : kw_M} {j : Nat} {x : Int64} : km_N σ (kw_sl σ 0 j x) := ⟨fun c hc => rfl, fun c hc => kw_sl_o hc, fun i h1 h2 h3 h4 => rfl⟩
theorem km_T_N {σ τ : kw_M} {B : Nat → Nat} {e p q : Nat} (h : km_T σ B e p) (hn : km_N σ τ) (hq : τ.1 0 7 = nI q) : km_T τ B e q := ⟨by rw [hn.2.2 8 (by decide) (by decide) (by decide) (by decide)]; exact h.1, hq, fun i hi => by rw [hn.1 5 (by decide)]; exact h.2.2 i hi⟩
theorem kt_ofI (x : Int) (b : Nat) (hb : b < 2147483648) : (((10 : Int64) * Int64.ofInt x) + (nI b).toInt64) - (48 : Int64) = Int64.ofInt (10 * x + (b : Int) - 48) := by
  rw [kw_natL hb, show (10 : Int64) = Int64.ofInt 10 by decide, show (48 : Int64) = Int64.ofInt 48 by decide, Int64.ofInt_sub, Int64.ofInt_add, Int64.ofInt_mul]
theorem km_digits {σ : kw_M} {B : Nat → Nat} {e q : Nat} {lo hi : Int64} {v5 : Int32} (hB : kt_B B e) (hq : q ≤ e) (h : km_T σ B e q) (h0 : σ.2 0 14 = 0) : ∃ x, kw_loop (fun s => bX10_readsNumber_88 lo hi v5 (nI q) s) kw_F σ = some x ∧ (kt_rl (kt_d B e) e q ≤ 10 → ∃ τ, x = .inr τ ∧ km_N σ τ ∧ τ.1 0 7 = nI (q + kt_rl (kt_d B e) e q) ∧ τ.1 0 10 = σ.1 0 10 ∧ τ.2 0 14 = Int64.ofInt (kt_dv B q (kt_rl (kt_d B e) e q))) ∧ (10 < kt_rl (kt_d B e) e q → ∃ τ, x = .inl ((0 : Int32), τ) ∧ km_N σ τ ∧ τ.1 0 9 = kt_f 2 (q + 10)) := by
  obtain ⟨r1, r2, r3⟩ := kt_rl_p (kt_d_e B e) hq
  have he := hB.1
  refine kw_for (body := fun s => bX10_readsNumber_88 lo hi v5 (nI q) s) (fun k s => k ≤ 10 ∧ km_N σ s ∧ s.1 0 7 = nI (q + k) ∧ s.1 0 10 = σ.1 0 10 ∧ s.2 0 14 = Int64.ofInt (kt_dv B q k)) (fun x => (kt_rl (kt_d B e) e q ≤ 10 → ∃ τ, x = .inr τ ∧ km_N σ τ ∧ τ.1 0 7 = nI (q + kt_rl (kt_d B e) e q) ∧ τ.1 0 10 = σ.1 0 10 ∧ τ.2 0 14 = Int64.ofInt (kt_dv B q (kt_rl (kt_d B e) e q))) ∧ (10 < kt_rl (kt_d B e) e q → ∃ τ, x = .inl ((0 : Int32), τ) ∧ km_N σ τ ∧ τ.1 0 9 = kt_f 2 (q + 10))) (kt_rl (kt_d B e) e q) (by omega) (s0 := σ) ⟨by decide, km_N_r σ, h.2.1, rfl, h0⟩ (fun k s hk hP => ?_)
  obtain ⟨h1, h2, h3, h4, h5⟩ := hP
  have hT := km_T_N h h2 h3
  unfold bX10_readsNumber_88
  rw [km_here hB (by omega) hT, Option.bind_some, km_ind hB, Option.bind_some]
  simp only [kx_fl_0]
  by_cases hkd : k < kt_rl (kt_d B e) e q
  case neg =>
    right
    obtain rfl : k = kt_rl (kt_d B e) e q := by omega
    rw [r3, kn_ff]
    exact ⟨_, rfl, fun _ => ⟨s, rfl, h2, h3, h4, h5⟩, fun q => absurd h1 (by omega)⟩
  have hd := r2 k hkd
  have hd' := of_decide_eq_true hd
  rw [hd, kn_tf, h3]
  by_cases hk10 : k = 10
  · right
    rw [hk10, show (10 : Int32) = nI 10 by decide, nI_add, if_pos rfl]
    unfold fX10_wrongAt
    rw [kw_let_def, Option.bind_some]
    dsimp only
    rw [kw_chk_t (Or.inl rfl)]
    refine ⟨_, rfl, fun z => absurd z (by omega), fun _ => ⟨_, rfl, km_N_t h2 (km_N_si (Or.inr (Or.inl rfl))), ?_⟩⟩
    rw [kw_si_1, kw_upd_e]
    rfl
  · left
    refine ⟨hkd, ?_⟩
    rw [if_neg (by
      rw [show (10 : Int32) = nI 10 by decide, nI_add, kn_eq (by omega) (by omega)]
      omega), Option.bind_some, kw_let_def, kw_let_def, kw_sl_1, h3, km_next, h5]
    refine ⟨_, rfl, by omega, km_N_t h2 (km_N_t km_N_sl (km_N_si (Or.inl rfl))), ?_, ?_, ?_⟩
    · rw [kw_si_1, kw_upd_e]; rfl
    · rw [kw_si_1, kw_upd_n (by decide), kw_sl_1]; exact h4
    · rw [kw_si_2, kw_sl_2, kw_updL_e, kt_dv_s]
      unfold kt_c
      rw [if_pos hd'.1]
      exact kt_ofI _ _ (by omega)
theorem km_wrong {σ : kw_M} {c p : Nat} : fX10_wrongAt (nI c) (nI p) σ = some (0, kw_si σ 0 9 (kt_f c p)) := by
  unfold fX10_wrongAt
  rw [kw_let_def]
  rfl
theorem km_wrong1 {σ : kw_M} {p : Nat} : fX10_wrongAt 1 (nI p) σ = some (0, kw_si σ 0 9 (kt_f 1 p)) := km_wrong (c := 1)
theorem km_wrong3 {σ : kw_M} {p : Nat} : fX10_wrongAt 3 (nI p) σ = some (0, kw_si σ 0 9 (kt_f 3 p)) := km_wrong (c := 3)
theorem km_wrong4 {σ : kw_M} {p : Nat} : fX10_wrongAt 4 (nI p) σ = some (0, kw_si σ 0 9 (kt_f 4 p)) := km_wrong (c := 4)
theorem km_wrong6 {σ : kw_M} {p : Nat} : fX10_wrongAt 6 (nI p) σ = some (0, kw_si σ 0 9 (kt_f 6 p)) := km_wrong (c := 6)
/-- the reference reads a number -/
theorem km_number {σ : kw_M} {B : Nat → Nat} {e p : Nat} {lo hi : Int64} (hB : kt_B B e) (hp : p ≤ e) (h : km_T σ B e p) : ∃ b τ, fX10_readsNumber lo hi σ = some (b, τ) ∧ km_N σ τ ∧ (∀ f, kt_n lo.toInt hi.toInt B e p = .inl f → b = 0 ∧ τ.1 0 9 = f) ∧ (∀ v q, kt_n lo.toInt hi.toInt B e p = .inr (v, q) → b = 1 ∧ τ.2 0 14 = Int64.ofInt v ∧ τ.1 0 7 = nI q ∧ τ.1 0 10 = nI (p + 1)) := by
  have he := hB.1
  unfold fX10_readsNumber fX10_takesSign
  rw [km_here hB hp h, Option.bind_some, h.2.1, show (32 : Int32) = nI 32 by decide]
  simp only [kt_c_eq hB (show 32 < 256 by decide)]
  by_cases h32 : p < e ∧ B p = 32
  case neg =>
    rw [if_neg h32, km_wrong1, Option.bind_some]
    dsimp only
    rw [kw_chk_t (Or.inl rfl), Option.bind_some]
    dsimp only
    rw [if_pos rfl]
    refine ⟨_, _, rfl, km_N_si (Or.inr (Or.inl rfl)), fun f hf => ?_, fun v q hq => ?_⟩
    · unfold kt_n kt_num at hf
      rw [if_neg h32] at hf
      obtain rfl := Sum.inl.inj hf
      exact ⟨rfl, by rw [kw_si_1, kw_upd_e]⟩
    · unfold kt_n kt_num at hq
      rw [if_neg h32] at hq
      cases hq
  rw [if_pos h32, km_next, kw_let_def, Option.bind_some]
  dsimp only
  rw [if_neg (show ¬ (1 : Int32) = 0 by decide), kw_let_def, kw_si_1, kw_upd_e]
  have n1 : km_N σ (kw_si (kw_si σ 0 7 (nI (p + 1))) 0 10 (nI (p + 1))) := km_N_t (km_N_si (Or.inl rfl)) (km_N_si (Or.inr (Or.inr (Or.inl rfl))))
  have T1 : km_T (kw_si (kw_si σ 0 7 (nI (p + 1))) 0 10 (nI (p + 1))) B e (p + 1) := km_T_N h n1 (by rw [kw_si_1, kw_upd_n (by decide), kw_si_1, kw_upd_e])
  have a1 : (kw_si (kw_si σ 0 7 (nI (p + 1))) 0 10 (nI (p + 1))).1 0 10 = nI (p + 1) := by rw [kw_si_1, kw_upd_e]
  generalize kw_si (kw_si σ 0 7 (nI (p + 1))) 0 10 (nI (p + 1)) = σ1 at n1 T1 a1 ⊢
  rw [km_here hB (by omega) T1, Option.bind_some, show (45 : Int32) = nI 45 by decide]
  simp only [kt_c_eq hB (show 45 < 256 by decide)]
  have hs : (p + 1 < e ∧ B (p + 1) = 45) = (kt_s B e (p + 1) = true) := by
    unfold kt_s
    rw [decide_eq_true_iff]
  simp only [hs]
  -- behind the sign
  have key : ∀ (t0 : Int32) (σ2 : kw_M), km_N σ σ2 → km_T σ2 B e (kt_q B e p) → σ2.1 0 10 = nI (p + 1) → t0 = kx_fl (kt_s B e (p + 1)) → ∃ b τ, jX10_readsNumber_50 lo hi t0 σ2 = some (b, τ) ∧ km_N σ τ ∧ (∀ f, kt_n lo.toInt hi.toInt B e p = .inl f → b = 0 ∧ τ.1 0 9 = f) ∧ (∀ v q, kt_n lo.toInt hi.toInt B e p = .inr (v, q) → b = 1 ∧ τ.2 0 14 = Int64.ofInt v ∧ τ.1 0 7 = nI q ∧ τ.1 0 10 = nI (p + 1)) := fun t0 σ2 n2 T2 a2 ht0 => by
    have hq := kt_q_le (B := B) h32.1
    obtain ⟨r1, r2, r3⟩ := kt_rl_p (kt_d_e B e) hq
    unfold jX10_readsNumber_50
    rw [T2.2.1, kw_let_def, km_here hB hq T2, Option.bind_some, km_ind hB, Option.bind_some]
    simp only [kx_fl_0]
    unfold kt_n kt_num
    rw [if_pos h32]
    by_cases hd0 : kt_rl (kt_d B e) e (kt_q B e p) = 0
    · have : kt_d B e (kt_q B e p) = false := by
        rw [hd0, Nat.add_zero] at r3
        exact r3
      rw [if_pos hd0, this, kn_ff, km_wrong1, Option.bind_some]
      dsimp only
      rw [kw_chk_t (Or.inl rfl)]
      refine ⟨_, _, rfl, km_N_t n2 (km_N_si (Or.inr (Or.inl rfl))), fun f hf => ?_, fun v q hq => (by cases hq)⟩
      obtain rfl := Sum.inl.inj hf
      exact ⟨rfl, by rw [kw_si_1, kw_upd_e]⟩
    have hdt : kt_d B e (kt_q B e p) = true := r2 0 (by omega)
    obtain ⟨x, x1, x2, x3⟩ := km_digits (σ := kw_sl σ2 0 14 0) (q := kt_q B e p) (lo := lo) (hi := hi) (v5 := t0) hB hq (km_T_N T2 km_N_sl T2.2.1) (by rw [kw_sl_2, kw_updL_e])
    rw [if_neg hd0, hdt, kn_tf, kw_let_def, x1, Option.bind_some]
    by_cases hd10 : 10 < kt_rl (kt_d B e) e (kt_q B e p)
    · obtain ⟨τ, rfl, t1, t2⟩ := x3 hd10
      rw [if_pos hd10, Sum.elim_inl]
      refine ⟨_, _, rfl, km_N_t n2 (km_N_t km_N_sl t1), fun f hf => ?_, fun v q hq => (by cases hq)⟩
      obtain rfl := Sum.inl.inj hf
      exact ⟨rfl, t2⟩
    obtain ⟨τ, rfl, t1, t2, t3, t4⟩ := x2 (by omega)
    have hbv := kt_dv_b (B := B) (e := e) (p := kt_q B e p) (k := kt_rl (kt_d B e) e (kt_q B e p)) (by omega) r2
    have nτ : km_N σ τ := km_N_t n2 (km_N_t km_N_sl t1)
    have a3 : τ.1 0 10 = nI (p + 1) := by rw [t3, kw_sl_1]; exact a2
    rw [if_neg hd10, Sum.elim_inr, ht0]
    simp only [kx_fl_0]
    -- the bounds
    have fin : ∀ (v : Int) (τ1 : kw_M), km_N σ τ1 → τ1.1 0 7 = nI (kt_q B e p + kt_rl (kt_d B e) e (kt_q B e p)) → τ1.1 0 10 = nI (p + 1) → τ1.2 0 14 = Int64.ofInt v → -10000000000 ≤ v ∧ v ≤ 10000000000 → ∃ b τ, jX10_readsNumber_176 lo hi τ1 = some (b, τ) ∧ km_N σ τ ∧ (∀ f, (if lo.toInt ≤ v ∧ v ≤ hi.toInt then Sum.inr (v, kt_q B e p + kt_rl (kt_d B e) e (kt_q B e p)) else Sum.inl (kt_f 3 (p + 1)) : Int32 ⊕ (Int × Nat)) = .inl f → b = 0 ∧ τ.1 0 9 = f) ∧ (∀ w q, (if lo.toInt ≤ v ∧ v ≤ hi.toInt then Sum.inr (v, kt_q B e p + kt_rl (kt_d B e) e (kt_q B e p)) else Sum.inl (kt_f 3 (p + 1)) : Int32 ⊕ (Int × Nat)) = .inr (w, q) → b = 1 ∧ τ.2 0 14 = Int64.ofInt w ∧ τ.1 0 7 = nI q ∧ τ.1 0 10 = nI (p + 1)) := fun v τ1 m1 m2 m3 m4 m5 => by
      unfold jX10_readsNumber_176
      rw [m4, m3, km_in, Option.bind_some, km_toInt (by omega) (by omega)]
      simp only [kx_fl_0]
      by_cases hin : lo.toInt ≤ v ∧ v ≤ hi.toInt
      · rw [if_pos hin, decide_eq_true hin, kn_tf]
        refine ⟨_, _, rfl, m1, fun f hf => (by cases hf), fun w q hq => ?_⟩
        cases hq
        exact ⟨rfl, m4, m2, m3⟩
      · rw [if_neg hin, decide_eq_false hin, kn_ff, km_wrong3, Option.bind_some]
        dsimp only
        rw [if_pos rfl]
        refine ⟨_, _, rfl, km_N_t m1 (km_N_si (Or.inr (Or.inl rfl))), fun f hf => ?_, fun w q hq => (by cases hq)⟩
        obtain rfl := Sum.inl.inj hf
        exact ⟨rfl, by rw [kw_si_1, kw_upd_e]⟩
    cases hsg : kt_s B e (p + 1) with
    | false =>
      rw [kn_ff, kn_ft]
      exact fin _ τ nτ t2 a3 t4 (by omega)
    | true =>
      rw [kn_tf, kn_tt, kw_let_def]
      refine fin _ _ (km_N_t nτ km_N_sl) (by rw [kw_sl_1]; exact t2) (by rw [kw_sl_1]; exact a3) ?_ (by omega)
      rw [kw_sl_2, kw_updL_e, t4, Int64.ofInt_neg]
  unfold jX10_readsNumber_33
  rw [if_neg (show ¬ (1 : Int32) = 0 by decide), if_pos rfl]
  cases hsg : kt_s B e (p + 1) with
  | false =>
    rw [kn_ft]
    refine key _ σ1 n1 ?_ a1 (by rw [hsg]; rfl)
    unfold kt_q
    rw [hsg, kn_ft]
    exact T1
  | true =>
    rw [kn_tt, kw_let_def, T1.2.1, km_next]
    refine key _ _ (km_N_t n1 (km_N_si (Or.inl rfl))) ?_ (by rw [kw_si_1, kw_upd_n (by decide)]; exact a1) (by rw [hsg]; rfl)
    unfold kt_q
    rw [hsg, kn_tt]
    exact km_T_N T1 (km_N_si (Or.inl rfl)) (by rw [kw_si_1, kw_upd_e])
