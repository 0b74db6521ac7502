/-! Tools: loops by an invariant; numbers; one cell after the other. -/
theorem kw_for_f {S X : Type} {body : S → Option (S ⊕ X)} (P : Nat → S → Prop) (Q : X → Prop) (n : Nat) (hs : ∀ k s, k ≤ n → P k s → (k < n ∧ ∃ t, body s = some (.inl t) ∧ P (k + 1) t) ∨ ∃ x, body s = some (.inr x) ∧ Q x) : ∀ (j k F : Nat) (s : S), k + j = n → j < F → P k s → ∃ x, kw_loop body F s = some x ∧ Q x
  | 0, k, F, s, hk, hF, hp => by
    obtain ⟨G, rfl⟩ : ∃ G, F = G + 1 := ⟨F - 1, by omega⟩
    rcases hs k s (by omega) hp with ⟨h1, _⟩ | ⟨x, h1, h2⟩
    · omega
    · refine ⟨x, ?_, h2⟩
      show (body s).bind _ = _
      rw [h1]
      rfl
  | j + 1, k, F, s, hk, hF, hp => by
    obtain ⟨G, rfl⟩ : ∃ G, F = G + 1 := ⟨F - 1, by omega⟩
    rcases hs k s (by omega) hp with ⟨h1, t, h2, h3⟩ | ⟨x, h1, h2⟩
    · obtain ⟨x, h4, h5⟩ := kw_for_f P Q n hs j (k + 1) G t (by omega) (by omega) h3
      refine ⟨x, ?_, h5⟩
      show (body s).bind _ = _
      rw [h2]
      exact h4
    · refine ⟨x, ?_, h2⟩
      show (body s).bind _ = _
      rw [h1]
      rfl
/-- a loop by an invariant: each round goes on, below n, or leaves -/
theorem kw_for {S X : Type} {body : S → Option (S ⊕ X)} (P : Nat → S → Prop) (Q : X → Prop) (n : Nat) (hn : n < 1000000000000) {s0 : S} (h0 : P 0 s0) (hs : ∀ k s, k ≤ n → P k s → (k < n ∧ ∃ t, body s = some (.inl t) ∧ P (k + 1) t) ∨ ∃ x, body s = some (.inr x) ∧ Q x) : ∃ x, kw_loop body kw_F s0 = some x ∧ Q x :=
  kw_for_f P Q n hs n 0 kw_F s0 (by omega) (kw_F_big hn) h0
theorem kn_chk {β : Type} {k N : Nat} {b : Option β} (h : k < N) (hN : N < 2147483648) : kw_chk (kw_in (nI k) N) b = b := kw_chk_t (kw_in_nI h hN)
theorem kn_chkB {β : Type} {b : Bool} {c : Option β} : kw_chk (kw_isB (kx_fl b)) c = c := by
  cases b
  · exact kw_chk_t (Or.inl rfl)
  · exact kw_chk_t (Or.inr rfl)
theorem kn_le {a b : Nat} (ha : a < 2147483648) (hb : b < 2147483648) : (nI a ≤ nI b) = (a ≤ b) := by
  refine propext ⟨fun h => ?_, fun h => nI_le h hb⟩
  exact Nat.le_of_not_lt fun q => nI_ge q ha h
theorem kn_lt {a b : Nat} (ha : a < 2147483648) (hb : b < 2147483648) : (nI a < nI b) = (a < b) := by
  refine propext ?_
  rw [Int32.lt_iff_toInt_lt, nI_toInt ha, nI_toInt hb]
  omega
theorem kn_eq {a b : Nat} (ha : a < 2147483648) (hb : b < 2147483648) : (nI a = nI b) = (a = b) := propext (nI_eq ha hb)
theorem kn_clamp {n : Nat} (h : n < 2147483648) : (nI n).toNatClampNeg = n := nI_clamp h
theorem kn_mul (a b : Nat) : nI a * nI b = nI (a * b) := (Int32.ofNat_mul a b).symm
theorem kn_sub {a b : Nat} (h : b ≤ a) : nI a - nI b = nI (a - b) := by
  obtain ⟨c, rfl⟩ : ∃ c, a = b + c := ⟨a - b, by omega⟩
  rw [show b + c - b = c by omega, ← nI_add]
  show nI b + nI c - nI b = nI c
  rw [Int32.add_comm, Int32.add_sub_cancel]
theorem kn_0 : (0 : Int32) = nI 0 := by decide
theorem kn_1 : (1 : Int32) = nI 1 := by decide
theorem kn_2 : (2 : Int32) = nI 2 := by decide
theorem kn_3 : (3 : Int32) = nI 3 := by decide
theorem kn_4 : (4 : Int32) = nI 4 := by decide
theorem kn_5 : (5 : Int32) = nI 5 := by decide
theorem kn_12 : (12 : Int32) = nI 12 := by decide
theorem kn_16 : (16 : Int32) = nI 16 := by decide
theorem kn_28 : (28 : Int32) = nI 28 := by decide
theorem kn_36 : (36 : Int32) = nI 36 := by decide
theorem kn_100 : (100 : Int32) = nI 100 := by decide
theorem kn_172 : (172 : Int32) = nI 172 := by decide
theorem kn_208 : (208 : Int32) = nI 208 := by decide
theorem kn_pred {n : Nat} (h : 0 < n) : nI n + (-1 : Int32) = nI (n - 1) := by
  rw [← kn_sub (by omega : 1 ≤ n), Int32.sub_eq_add_neg]
  rfl
theorem kw_ri_ri (σ : kw_M) (c : Nat) (f g : Nat → Int32) : kw_ri (kw_ri σ c f) c g = kw_ri σ c g := by
  refine Prod.ext ?_ rfl
  funext q
  simp only [kw_ri]
  by_cases h : q = c
  · rw [if_pos h, if_pos h]
  · rw [if_neg h, if_neg h, if_neg h]
theorem kw_si_ri (σ : kw_M) (c k : Nat) (f : Nat → Int32) (x : Int32) : kw_si (kw_ri σ c f) c k x = kw_ri σ c (upd f k x) := by
  unfold kw_si
  rw [kw_ri_1, kw_ri_ri]
theorem kw_ri_id (σ : kw_M) (c : Nat) : kw_ri σ c (σ.1 c) = σ := by
  refine Prod.ext ?_ rfl
  funext q
  simp only [kw_ri]
  by_cases h : q = c
  · rw [if_pos h, h]
  · rw [if_neg h]
theorem kw_rl_rl (σ : kw_M) (c : Nat) (f g : Nat → Int64) : kw_rl (kw_rl σ c f) c g = kw_rl σ c g := by
  refine Prod.ext rfl ?_
  funext q
  simp only [kw_rl]
  by_cases h : q = c
  · rw [if_pos h, if_pos h]
  · rw [if_neg h, if_neg h, if_neg h]
theorem kw_sl_rl (σ : kw_M) (c k : Nat) (f : Nat → Int64) (x : Int64) : kw_sl (kw_rl σ c f) c k x = kw_rl σ c (vp_updL f k x) := by
  unfold kw_sl
  rw [kw_rl_2, kw_rl_rl]
theorem kw_rl_id (σ : kw_M) (c : Nat) : kw_rl σ c (σ.2 c) = σ := by
  refine Prod.ext rfl ?_
  funext q
  simp only [kw_rl]
  by_cases h : q = c
  · rw [if_pos h, h]
  · rw [if_neg h]
theorem kw_upd_e (f : Nat → Int32) (k : Nat) (x : Int32) : upd f k x k = x := if_pos rfl
theorem kw_upd_n {f : Nat → Int32} {k j : Nat} {x : Int32} (h : j ≠ k) : upd f k x j = f j := if_neg h
theorem kw_updL_e (f : Nat → Int64) (k : Nat) (x : Int64) : vp_updL f k x k = x := if_pos rfl
theorem kw_updL_n {f : Nat → Int64} {k j : Nat} {x : Int64} (h : j ≠ k) : vp_updL f k x j = f j := if_neg h
theorem kx_fl_0 (b : Bool) : (kx_fl b = 0) = (b = false) := by cases b <;> simp [kx_fl]
theorem kx_fl_1 (b : Bool) : (kx_fl b = 1) = (b = true) := by cases b <;> simp [kx_fl]
theorem kx_fl_eq (a b : Bool) : (kx_fl a = kx_fl b) = (a = b) := by cases a <;> cases b <;> simp [kx_fl]
