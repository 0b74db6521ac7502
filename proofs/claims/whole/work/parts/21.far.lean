/-! What is too far: the reference's isTooFar, the class's allInts. -/
/-- the first place below n at which p holds, if there is one -/
theorem kw_first (p : Nat → Bool) : ∀ n : Nat, ∃ e, e ≤ n ∧ (∀ k, k < e → p k = false) ∧ (e = n ∨ (e < n ∧ p e = true))
  | 0 => ⟨0, Nat.le_refl _, fun k hk => absurd hk (Nat.not_lt_zero k), Or.inl rfl⟩
  | n + 1 => by
    obtain ⟨e, h1, h2, h3⟩ := kw_first p n
    rcases h3 with h3 | ⟨h3, h4⟩
    · subst h3
      cases hp : p e with
      | true => exact ⟨e, by omega, h2, Or.inr ⟨by omega, hp⟩⟩
      | false =>
        refine ⟨e + 1, Nat.le_refl _, fun k hk => ?_, Or.inl rfl⟩
        by_cases hke : k = e
        · rw [hke]; exact hp
        · exact h2 k (by omega)
    · exact ⟨e, by omega, h2, Or.inr ⟨by omega, h4⟩⟩
/-- a length that no int holds -/
def kr_bad (d : kr_D) (t : Nat) : Bool := match d t with
  | none => false
  | some z => decide (z < -2147483648 ∨ 2147483647 < z)
def kr_anyTo (p : Nat → Bool) : Nat → Bool
  | 0 => false
  | n + 1 => kr_anyTo p n || p n
theorem kr_anyTo_f {p : Nat → Bool} : ∀ n : Nat, (∀ k, k < n → p k = false) → kr_anyTo p n = false
  | 0, _ => rfl
  | n + 1, h => by
    show (kr_anyTo p n || p n) = false
    rw [kr_anyTo_f n (fun k hk => h k (by omega)), h n (by omega)]
    rfl
theorem kr_anyTo_t {p : Nat → Bool} : ∀ (n e : Nat), e < n → p e = true → kr_anyTo p n = true
  | 0, _, he, _ => absurd he (Nat.not_lt_zero _)
  | n + 1, e, he, hp => by
    show (kr_anyTo p n || p n) = true
    by_cases h : e = n
    · subst h
      rw [hp, Bool.or_true]
    · rw [kr_anyTo_t n e (by omega) hp, Bool.true_or]
theorem km_i32 {z : Int} (h1 : -900000000000000 ≤ z) (h2 : z ≤ 900000000000000) : (Int64.ofInt z = (Int64.ofInt z).toInt32.toInt64) ↔ ¬ (z < -2147483648 ∨ 2147483647 < z) := by
  have hz : (Int64.ofInt z).toInt = z := km_toInt (by omega) (by omega)
  constructor
  · intro q hbad
    have q1 := congrArg Int64.toInt q
    rw [hz, Int32.toInt_toInt64] at q1
    have a1 := Int32.le_toInt (Int64.ofInt z).toInt32
    have a2 := Int32.toInt_lt (Int64.ofInt z).toInt32
    omega
  · intro hok
    apply Int64.toInt_inj.mp
    rw [Int32.toInt_toInt64, Jvm.Kit.i32_of_i64 (by rw [hz]; omega) (by rw [hz]; omega)]
theorem km_tooFar {σ : kw_M} {d : kr_D} {n : Nat} (hrow : ∀ t, t < 12 → σ.2 3 t = km_enc (d t)) (hn : σ.1 1 0 = nI n) (h12 : n ≤ 12) (hb : kr_in d 900000000000000) : fX10_isTooFar σ = some (kx_fl (kr_anyTo (kr_bad d) n)) := by
  obtain ⟨e, he, hok, hst⟩ := kw_first (kr_bad d) n
  have hgo : ∀ k, k < n → bX10_isTooFar_2 σ (nI k) = if kr_bad d k = true then some (.inr (.inl 1)) else some (.inl (nI (k + 1))) := fun k hk => by
    unfold bX10_isTooFar_2 fX10_towns
    rw [hn, Option.bind_some, if_neg (nI_ge hk (by omega)), kw_chk_t (kw_in_nI (show k < 12 by omega) (by decide)), nI_clamp (by omega), hrow k (by omega), kw_let_def, km_next]
    cases hd : d k with
    | none =>
      rw [if_pos (show (900000000000000000 : Int64) ≤ km_enc none from Int64.le_refl _)]
      unfold kr_bad
      rw [hd, if_neg (by decide)]
    | some z =>
      have hz := hb _ _ hd
      have hzi : (km_enc (some z)).toInt = z := km_toInt (by omega) (by omega)
      rw [if_neg (fun q => by
        have q2 := Int64.le_iff_toInt_le.mp q
        rw [hzi, km_far] at q2
        omega)]
      unfold kr_bad
      rw [hd, show km_enc (some z) = Int64.ofInt z from rfl]
      dsimp only
      by_cases hbad : z < -2147483648 ∨ 2147483647 < z
      · rw [if_neg (fun q => (km_i32 hz.1 hz.2).mp q hbad), if_pos (decide_eq_true hbad)]
      · rw [if_pos ((km_i32 hz.1 hz.2).mpr hbad), if_neg (by simp [hbad])]
  unfold fX10_isTooFar
  rcases hst with hst | ⟨hst, hbad⟩
  · subst hst
    have h := kw_loop_at (body := fun s => bX10_isTooFar_2 σ s) (fun k => nI k) (x := .inr ()) e (fun k hk => by
      have h1 := hgo k hk
      rw [hok k hk] at h1
      exact h1) (by
      show bX10_isTooFar_2 σ (nI e) = _
      unfold bX10_isTooFar_2 fX10_towns
      rw [hn, Option.bind_some, if_pos (nI_le (Nat.le_refl e) (by omega))]) (by omega)
    rw [show (0 : Int32) = nI 0 by decide, h, Option.bind_some, kr_anyTo_f e hok]
    rfl
  · have h := kw_loop_at (body := fun s => bX10_isTooFar_2 σ s) (fun k => nI k) (x := .inl 1) e (fun k hk => by
      have h1 := hgo k (by omega)
      rw [hok k hk] at h1
      exact h1) (by
      have h1 := hgo e hst
      rw [hbad] at h1
      exact h1) (by omega)
    rw [show (0 : Int32) = nI 0 by decide, h, Option.bind_some, kr_anyTo_t n e hst hbad]
    rfl
