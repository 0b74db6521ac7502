/-! Loops in closed form; numbers of loops. -/
theorem kw_loop_run {S X : Type} {body : S → Option (S ⊕ X)} (st : Nat → S) {x : X} : ∀ (n i F : Nat), (∀ k, i ≤ k → k < i + n → body (st k) = some (.inl (st (k + 1)))) → body (st (i + n)) = some (.inr x) → n < F → kw_loop body F (st i) = some x
  | 0, i, F, _, he, hF => by
    obtain ⟨G, rfl⟩ : ∃ G, F = G + 1 := ⟨F - 1, by omega⟩
    rw [Nat.add_zero] at he
    show (body (st i)).bind _ = _
    rw [he]
    rfl
  | n + 1, i, F, hs, he, hF => by
    obtain ⟨G, rfl⟩ : ∃ G, F = G + 1 := ⟨F - 1, by omega⟩
    show (body (st i)).bind _ = _
    rw [hs i (Nat.le_refl _) (by omega)]
    show kw_loop body G (st (i + 1)) = some x
    exact kw_loop_run st n (i + 1) G (fun k h1 h2 => hs k (by omega) (by omega)) (by rw [show i + 1 + n = i + (n + 1) by omega]; exact he) (by omega)
theorem kw_F_big {n : Nat} (h : n < 1000000000000) : n < kw_F := Nat.lt_trans h (show 1000000000000 + 1 ≤ kw_F from Nat.le_of_ble_eq_true rfl)
/-- a loop that is left at the n-th round, its state after k rounds given -/
theorem kw_loop_at {S X : Type} {body : S → Option (S ⊕ X)} (st : Nat → S) {x : X} (n : Nat) (hs : ∀ k, k < n → body (st k) = some (.inl (st (k + 1)))) (he : body (st n) = some (.inr x)) (hn : n < 1000000000000) : kw_loop body kw_F (st 0) = some x :=
  kw_loop_run st n 0 kw_F (fun k _ h => hs k (by omega)) (by rw [Nat.zero_add]; exact he) (kw_F_big hn)
theorem kw_in_nI {n N : Nat} (h : n < N) (hN : N < 2 ^ 31) : kw_in (nI n) N := vp_in_nI h hN
theorem kw_let_def {α β : Type} (a : α) (f : α → β) : kw_let a f = f a := rfl
/-- the reference's copies: a block of 708 over another -/
def km_cpyk (σ : kw_M) (a b k : Nat) : kw_M := kw_ri σ 1 (va_cpy (σ.1 1) (σ.1 1) (708 * a) (708 * b) k)
theorem km_copies_step {σ : kw_M} {a b k : Nat} (ha : a < 4) (hb : b < 4) (hab : a ≠ b) (hk : k < 708) : bX10_copies_2 (nI a) (nI b) (nI k) (km_cpyk σ a b k) = some (.inl (nI (k + 1), km_cpyk σ a b (k + 1))) := by
  have e1 : (708 : Int32) = nI 708 := by decide
  have ea : nI 708 * nI a + nI k = nI (708 * a + k) := by rw [show nI 708 * nI a = nI (708 * a) from (Int32.ofNat_mul 708 a).symm, nI_add]
  have eb : nI 708 * nI b + nI k = nI (708 * b + k) := by rw [show nI 708 * nI b = nI (708 * b) from (Int32.ofNat_mul 708 b).symm, nI_add]
  unfold bX10_copies_2
  rw [e1, if_neg (nI_ge hk (by decide)), ea, eb, kw_chk_t (kw_in_nI (by omega) (by decide)), kw_chk_t (kw_in_nI (by omega) (by decide)), kw_let_def, kw_let_def, nI_clamp (by omega), nI_clamp (by omega), show (1 : Int32) = nI 1 by decide, nI_add]
  refine congrArg (fun z => some (Sum.inl (nI (k + 1), z))) ?_
  unfold km_cpyk kw_si
  refine Prod.ext ?_ rfl
  funext c
  by_cases hc : c = 1
  · subst hc
    simp only [kw_ri, if_true]
    funext j
    unfold upd va_cpy
    by_cases hj : j = 708 * b + k
    · subst hj
      have n1 : ¬ (708 * b ≤ 708 * a + k ∧ 708 * a + k < 708 * b + k) := by omega
      have n2 : 708 * b ≤ 708 * b + k ∧ 708 * b + k < 708 * b + (k + 1) := by omega
      rw [if_pos rfl, if_neg n1, if_pos n2, show 708 * b + k - 708 * b = k by omega]
    · rw [if_neg hj]
      by_cases h2 : 708 * b ≤ j ∧ j < 708 * b + k
      · rw [if_pos h2, if_pos (by omega)]
      · rw [if_neg h2, if_neg (by omega)]
  · simp only [kw_ri, hc, if_false]
theorem km_cpyk_0 (σ : kw_M) (a b : Nat) : km_cpyk σ a b 0 = σ := by
  unfold km_cpyk kw_ri
  refine Prod.ext ?_ rfl
  funext c
  by_cases hc : c = 1
  · subst hc
    simp only [if_true]
    funext j
    unfold va_cpy
    rw [if_neg (by omega)]
  · simp only [hc, if_false]
theorem km_copies {σ : kw_M} {a b : Nat} (ha : a < 4) (hb : b < 4) (hab : a ≠ b) : fX10_copies (nI a) (nI b) σ = some (km_cpyk σ a b 708) := by
  unfold fX10_copies
  have h := kw_loop_at (body := fun s => bX10_copies_2 (nI a) (nI b) s.1 s.2) (fun k => (nI k, km_cpyk σ a b k)) (x := km_cpyk σ a b 708) 708 (fun k hk => km_copies_step ha hb hab hk) (by
    show bX10_copies_2 (nI a) (nI b) (nI 708) (km_cpyk σ a b 708) = _
    unfold bX10_copies_2
    rw [if_pos (by decide)]) (by decide)
  have h0 : ((nI 0, km_cpyk σ a b 0) : Int32 × kw_M) = ((0 : Int32), σ) := by rw [km_cpyk_0]; rfl
  simp only [h0] at h
  rw [h]
  rfl
