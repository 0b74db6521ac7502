/-! The class's allInts in closed form. -/
theorem kx_allInts {σ : kw_M} {d : kr_D} {n : Nat} (hrow : ∀ t, t < 12 → σ.2 11 t = kx_enc (d t)) (hn : σ.1 10 0 = nI n) (h12 : n ≤ 12) (hb : kr_in d 900000000000000) : fX4_allInts σ = some (kx_fl (!kr_anyTo (kr_bad d) n)) := by
  obtain ⟨e, he, hok, hst⟩ := kw_first (kr_bad d) n
  have lo : (-2147483648 : Int64).toInt = -2147483648 := by decide
  have hi : (2147483647 : Int64).toInt = 2147483647 := by decide
  have hgo : ∀ k, k < n → bX4_allInts_2 σ (nI k) = if kr_bad d k = true then some (.inr (.inl 0)) else some (.inl (nI (k + 1))) := fun k hk => by
    unfold bX4_allInts_2
    rw [hn, if_neg (nI_ge hk (by omega))]
    simp only [kw_chk_t (kw_in_nI (show k < 12 by omega) (by decide)), nI_clamp (show k < 2 ^ 31 by omega), hrow k (by omega), kw_let_def, km_next]
    cases hd : d k with
    | none =>
      have hbf : kr_bad d k = false := by unfold kr_bad; rw [hd]
      rw [if_pos (show kx_enc none = -9000000000000000000 from rfl), hbf, if_neg (by decide)]
    | some z =>
      have hz := hb _ _ hd
      have hzi : (kx_enc (some z)).toInt = z := km_toInt (by omega) (by omega)
      have hno : ¬ kx_enc (some z) = -9000000000000000000 := fun q => by
        have := (kx_enc_no (o := some z) (fun y hy => by cases hy; omega)).mp q
        cases this
      have hbe : kr_bad d k = decide (z < -2147483648 ∨ 2147483647 < z) := by unfold kr_bad; rw [hd]
      rw [if_neg hno, hbe]
      by_cases h1 : z < -2147483648
      · rw [if_pos (Int64.lt_iff_toInt_lt.mpr (by rw [hzi, lo]; exact h1)), if_pos (decide_eq_true (Or.inl h1))]
      · rw [if_neg (fun q => by
          have q2 := Int64.lt_iff_toInt_lt.mp q
          rw [hzi, lo] at q2
          exact h1 q2)]
        by_cases h2 : 2147483647 < z
        · rw [if_neg (fun q => by
            have q2 := Int64.le_iff_toInt_le.mp q
            rw [hzi, hi] at q2
            omega), if_pos (decide_eq_true (Or.inr h2))]
        · rw [if_pos (Int64.le_iff_toInt_le.mpr (by rw [hzi, hi]; omega)), if_neg (by simp [h1, h2])]
  unfold fX4_allInts
  rcases hst with hst | ⟨hst, hbad⟩
  · subst hst
    have h := kw_loop_at (body := fun s => bX4_allInts_2 σ s) (fun k => nI k) (x := .inr ()) e (fun k hk => by
      have h1 := hgo k hk
      rw [hok k hk] at h1
      exact h1) (by
      show bX4_allInts_2 σ (nI e) = _
      unfold bX4_allInts_2
      rw [hn, if_pos (nI_le (Nat.le_refl e) (by omega))]) (by omega)
    rw [show (0 : Int32) = nI 0 by decide, h, Option.bind_some, kr_anyTo_f e hok]
    rfl
  · have h := kw_loop_at (body := fun s => bX4_allInts_2 σ s) (fun k => nI k) (x := .inl 0) e (fun k hk => by
      have h1 := hgo k (by omega)
      rw [hok k hk] at h1
      exact h1) (by
      have h1 := hgo e hst
      rw [hbad] at h1
      exact h1) (by omega)
    rw [show (0 : Int32) = nI 0 by decide, h, Option.bind_some, kr_anyTo_t n e hst hbad]
    rfl
