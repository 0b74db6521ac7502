/-! narrow: the same answer. -/
/-- whether one comes to t by roads no longer than L -/
def kb_rL (F : Nat → Int32) (n m o t : Nat) (L : Int) : Bool := (kr_bf (kr_gL (km_gr F m (-1)) L) (kr_one o) (n - 1) t).isSome
def kb_nS (F : Nat → Int32) (n m o t k : Nat) (y : Int) : Prop := ∃ r, r < k ∧ F (28 + 4 * r + 3) = 1 ∧ (F (28 + 4 * r + 2)).toInt = y ∧ kb_rL F n m o t y = true
theorem kb_rL_th {F : Nat → Int32} {n m o t : Nat} {L : Int} (hok : kb_ok F n m o) (hL : -1000000000 ≤ L) : kr_th L (kr_nb (km_gr F m (-1)) o n t) = kb_rL F n m o t L := by
  rw [kr_th_nb _ _ hL]
  have h2 := hok.1.2.1
  have := kr_bf_all (n := n) (o := o) (kr_gL_good (km_gr F m (-1)) L) (fun r hr => kb_tn hok.1 (-1) r hr) hok.2.2.1 1
  rw [show n - 1 + 1 = n by omega] at this
  rw [this]
  rfl
theorem kb_rL_D {F : Nat → Int32} {n m o t : Nat} {L : Int} (hok : kb_ok F n m o) (h : kb_rL F n m o t L = true) : kb_D F n m o t ≠ none := by
  unfold kb_rL at h
  cases hq : kr_bf (kr_gL (km_gr F m (-1)) L) (kr_one o) (n - 1) t with
  | none => rw [hq] at h; cases h
  | some z =>
    obtain ⟨l, l1, _⟩ := kr_D_wk (g := kr_gL (km_gr F m (-1)) L) (n := n) hq
    have sub : ∀ (l : List Nat) (u v : Nat), kr_wk (kr_gL (km_gr F m (-1)) L) u l v → kr_wk (km_gr F m (-1)) u l v := fun l => by
      induction l with
      | nil => exact fun u v hw => hw
      | cons r l ih =>
        rintro u v ⟨h1, h2, h3, h4⟩
        have h2' : ((km_gr F m (-1)).2.2.2.2 r && decide ((km_gr F m (-1)).2.2.2.1 r ≤ L)) = true := h2
        rw [Bool.and_eq_true] at h2'
        exact ⟨h1, h2'.1, h3, ih _ v h4⟩
    obtain ⟨y, hy, _⟩ := kr_D_le (n := n) hok.2.2.2.1 (kb_tn hok.1 (-1)) hok.2.2.1 (sub l o t l1)
    intro q
    have hy' : kb_D F n m o t = some y := hy
    rw [q] at hy'
    cases hy'
theorem kb_n_M {F : Nat → Int32} {n m o t : Nat} (hok : kb_ok F n m o) (hne : t ≠ o) : kr_isM (kb_nS F n m o t m) (kr_nb (km_gr F m (-1)) o n t) := by
  have hlen := km_wf_len hok.1.2.2.2.1 (-1)
  cases hq : kr_nb (km_gr F m (-1)) o n t with
  | none =>
    rintro y ⟨r, h1, _, h3, h4⟩
    have hl := hlen r h1
    have hl' : -1000000000 ≤ (F (28 + 4 * r + 2)).toInt := hl.1
    rw [← kb_rL_th hok (by omega), hq] at h4
    cases h4
  | some z =>
    obtain ⟨b1, b2⟩ := (kr_nb_inv (o := o) hlen n).2 t z hq
    obtain ⟨r, r1, r2, r3⟩ := b2 hne
    refine ⟨⟨r, r1, (of_decide_eq_true r2).1, r3, ?_⟩, ?_⟩
    · rw [← kb_rL_th hok b1.1, hq]
      exact decide_eq_true (Int.le_refl z)
    · rintro y ⟨q, h1, _, h3, h4⟩
      have hl' : -1000000000 ≤ (F (28 + 4 * q + 2)).toInt := (hlen q h1).1
      rw [← kb_rL_th hok (by omega), hq] at h4
      exact of_decide_eq_true h4
theorem km_narrow {σ : kw_M} {n m o t : Nat} (hok : kb_ok (σ.1 1) n m o) (ht : t < n) (hrow : ∀ t, t < 12 → σ.2 3 t = km_enc (kb_D (σ.1 1) n m o t)) : fX10_narrowOf (nI t) σ = some (km_enc (if t = o then none else kr_nb (km_gr (σ.1 1) m (-1)) o n t)) := by
  have h12 := hok.1.2.2.1
  have hm := hok.1.2.2.2.1.1
  have hon := hok.2.2.1
  have hw := hok.1.2.2.2.1
  unfold fX10_narrowOf
  rw [hok.2.1]
  simp (disch := omega) only [kn_eq, kn_chk, kn_clamp, hrow, km_enc_e (kr_row_bd (kb_row hok) t)]
  by_cases e : t = o
  · rw [if_pos e, if_pos e]; rfl
  rw [if_neg e, if_neg e]
  have hM := kb_n_M (t := t) hok e
  by_cases hz : kb_D (σ.1 1) n m o t = none
  · rw [if_pos hz]
    cases hq : kr_nb (km_gr (σ.1 1) m (-1)) o n t with
    | none => rfl
    | some z =>
      rw [hq] at hM
      obtain ⟨r, _, _, _, h4⟩ := hM.1
      exact absurd hz (kb_rL_D hok h4)
  rw [if_neg hz]
  obtain ⟨x, hx, v, x1, x2⟩ := kw_for (body := fun s => bX10_narrowOf_34 (nI t) σ s.1 s.2) (fun k s => ∃ v : Option Int, s.1 = km_enc v ∧ s.2 = nI k ∧ kr_isM (kb_nS (σ.1 1) n m o t k) v) (fun x => ∃ v : Option Int, x = km_enc v ∧ kr_isM (kb_nS (σ.1 1) n m o t m) v) m (by omega) (s0 := ((900000000000000000 : Int64), (0 : Int32))) ⟨none, rfl, rfl, fun y hy => by
      obtain ⟨r, hr, _⟩ := hy
      exact absurd hr (Nat.not_lt_zero _)⟩ (fun k s hk hp => by
    obtain ⟨v2, v4⟩ := s
    obtain ⟨v, e1, e2, e3⟩ := hp
    dsimp only at e1 e2 ⊢
    subst e1 e2
    unfold bX10_narrowOf_34
    rw [hw.2.1]
    by_cases hkm : k < m
    case neg =>
      right
      obtain rfl : k = m := by omega
      rw [if_pos (nI_le (Nat.le_refl k) (by omega))]
      exact ⟨_, rfl, v, rfl, e3⟩
    left
    refine ⟨hkm, ?_⟩
    obtain ⟨hfr, hto, hl1, hl2⟩ := hw.2.2 k hkm
    have bv : kr_bd v := fun z hz => by
      rw [hz] at e3
      obtain ⟨r, r1, _, r3, _⟩ := e3.1
      obtain ⟨_, _, q1, q2⟩ := hw.2.2 r (by omega)
      omega
    obtain ⟨w, c1, c2⟩ := km_comesBy (σ := σ) (L := σ.1 1 (28 + 4 * k + 2)) hok
    rw [if_neg (nI_ge hkm (by omega)), km_isOpen (by omega), Option.bind_some, km_of2 (by omega), Option.bind_some, Option.bind_some, c1, Option.bind_some, km_has (by omega), Option.bind_some, Option.bind_some]
    simp only [kw_let_def, km_next, kx_fl_0]
    have ebit : kw_bI w t = kb_rL (σ.1 1) n m o t (σ.1 1 (28 + 4 * k + 2)).toInt := c2 t (by omega)
    have elen : (σ.1 1 (28 + 4 * k + 2)).toInt64 = km_enc (some (σ.1 1 (28 + 4 * k + 2)).toInt) := kw_64of _
    rw [ebit, elen]
    simp only [km_enc_le bv (kr_bd32 _)]
    -- the set with one road more
    have keep : (∀ y, ¬ (σ.1 1 (28 + 4 * k + 3) = 1 ∧ (σ.1 1 (28 + 4 * k + 2)).toInt = y ∧ kb_rL (σ.1 1) n m o t y = true) ∨ ∃ z, v = some z ∧ z ≤ (σ.1 1 (28 + 4 * k + 2)).toInt) → ∃ t_1, (some (Sum.inl (km_enc v, nI (k + 1))) : Option ((Int64 × Int32) ⊕ Int64)) = some (Sum.inl t_1) ∧ ∃ v, t_1.1 = km_enc v ∧ t_1.2 = nI (k + 1) ∧ kr_isM (kb_nS (σ.1 1) n m o t (k + 1)) v := fun hq => by
      refine ⟨_, rfl, v, rfl, rfl, ?_⟩
      cases v with
      | none =>
        rintro y ⟨r, r1, r2, r3, r4⟩
        by_cases er : r = k
        · subst er
          rcases hq y with q | ⟨z, q, _⟩
          · exact q ⟨r2, r3, r4⟩
          · cases q
        · exact e3 y ⟨r, by omega, r2, r3, r4⟩
      | some z =>
        obtain ⟨⟨r, r1, r2, r3, r4⟩, hmin⟩ := e3
        refine ⟨⟨r, by omega, r2, r3, r4⟩, ?_⟩
        rintro y ⟨q, q1, q2, q3, q4⟩
        by_cases er : q = k
        · subst er
          rcases hq y with w | ⟨z', w, hw2⟩
          · exact absurd ⟨q2, q3, q4⟩ w
          · cases w
            omega
        · exact hmin y ⟨q, by omega, q2, q3, q4⟩
    by_cases ho : σ.1 1 (28 + 4 * k + 3) = 1
    · rw [if_pos ho, if_neg (show ¬ (1 : Int32) = 0 by decide)]
      cases hl : kr_ls (some (σ.1 1 (28 + 4 * k + 2)).toInt) v with
      | false =>
        rw [kn_ff]
        refine keep (fun y => Or.inr ?_)
        cases v with
        | none => cases hl
        | some z =>
          simp only [kr_ls, decide_eq_false_iff_not] at hl
          exact ⟨z, rfl, by omega⟩
      | true =>
        rw [kn_tf]
        cases hr : kb_rL (σ.1 1) n m o t (σ.1 1 (28 + 4 * k + 2)).toInt with
        | false =>
          rw [kn_ff]
          refine keep (fun y => Or.inl (fun q => ?_))
          rw [← q.2.1, hr] at q
          cases q.2.2
        | true =>
          rw [kn_tf]
          refine ⟨_, rfl, some (σ.1 1 (28 + 4 * k + 2)).toInt, rfl, rfl, ⟨k, by omega, ho, rfl, hr⟩, ?_⟩
          rintro y ⟨q, q1, q2, q3, q4⟩
          by_cases er : q = k
          · subst er; omega
          · cases v with
            | none => exact absurd ⟨q, by omega, q2, q3, q4⟩ (e3 y)
            | some z =>
              have := e3.2 y ⟨q, by omega, q2, q3, q4⟩
              simp only [kr_ls, decide_eq_true_eq] at hl
              omega
    · rw [if_neg ho, if_pos rfl]
      exact keep (fun y => Or.inl (fun q => ho q.1)))
  rw [hx, Option.bind_some, x1, kr_isM_u x2 hM]
