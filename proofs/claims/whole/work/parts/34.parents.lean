/-! Parents: the class's findParents, the reference's parentOf. -/
theorem kj_fill17 (σ : kw_M) : ∃ τ, fXJ7_fill_53178 (-1) σ = some τ ∧ τ.2 = σ.2 ∧ (∀ c, c ≠ 17 → τ.1 c = σ.1 c) ∧ ∀ t, t < 12 → τ.1 17 t = -1 := by
  obtain ⟨x, hx, h2, hc, ht⟩ := kw_for (body := fun s => bJ7_fill_53178_5 (-1) (12 : Int32) s.1 s.2) (fun k s => s.1 = nI k ∧ s.2.2 = σ.2 ∧ (∀ c, c ≠ 17 → s.2.1 c = σ.1 c) ∧ ∀ t, t < k → s.2.1 17 t = -1) (fun x => x.2 = σ.2 ∧ (∀ c, c ≠ 17 → x.1 c = σ.1 c) ∧ ∀ t, t < 12 → x.1 17 t = -1) 12 (by decide) (s0 := ((0 : Int32), σ)) ⟨rfl, rfl, fun _ _ => rfl, fun t ht => absurd ht (Nat.not_lt_zero _)⟩ (fun k s hk hp => by
    obtain ⟨v, τ⟩ := s
    obtain ⟨rfl, h2, hc, ht⟩ := hp
    dsimp only at h2 hc ht ⊢
    unfold bJ7_fill_53178_5
    by_cases h : k < 12
    · left
      refine ⟨h, (nI (k + 1), kw_si τ 17 k (-1)), ?_, rfl, h2, fun c hc' => (kw_si_o hc').trans (hc c hc'), fun t ht' => ?_⟩
      · rw [kn_12, if_neg (nI_ge h (by decide))]
        simp (disch := omega) only [kn_chk, kn_clamp, kw_let_def, km_next]
      · dsimp only
        rw [kw_si_1]
        by_cases e : t = k
        · rw [e, kw_upd_e]
        · rw [kw_upd_n e]
          exact ht t (by omega)
    · right
      obtain rfl : k = 12 := by omega
      exact ⟨τ, by rw [if_pos (by decide)], h2, hc, ht⟩)
  unfold fXJ7_fill_53178
  rw [hx]
  exact ⟨x, rfl, h2, hc, ht⟩
theorem kx_findParents {σ : kw_M} {F : Nat → Int32} {d : kr_D} {m : Nat} (hrd : kx_rd σ 12 F m) (hw : km_wf F m) (hrow : ∀ t, t < 12 → σ.2 16 t = kx_enc (d t)) (hd : kr_row d) : ∃ τ, fX7_findParents σ = some τ ∧ τ.2 = σ.2 ∧ (∀ c, c ≠ 17 → τ.1 c = σ.1 c) ∧ ∀ t, t < 12 → τ.1 17 t = kx_pe (kr_par (km_gr F m (-1)) d t) := by
  have hm := hw.1
  obtain ⟨σ1, e1, e2, e3, e4⟩ := kj_fill17 σ
  have hm1 : σ1.1 12 1 = nI m := by rw [e3 12 (by decide)]; exact hrd.2.1.trans hw.2.1
  obtain ⟨x, hx, h2, hc, ht⟩ := kw_for (body := fun s => bX7_findParents_18 s.1 s.2) (fun k s => s.1 = nI (m - k) - 1 ∧ s.2.2 = σ.2 ∧ (∀ c, c ≠ 17 → s.2.1 c = σ.1 c) ∧ ∀ t, t < 12 → s.2.1 17 t = kx_pe (kr_low (fun r => decide (m - k ≤ r) && (kr_tight (km_gr F m (-1)) d r && decide ((km_gr F m (-1)).2.2.1 r = t))) m)) (fun x => x.2 = σ.2 ∧ (∀ c, c ≠ 17 → x.1 c = σ.1 c) ∧ ∀ t, t < 12 → x.1 17 t = kx_pe (kr_par (km_gr F m (-1)) d t)) m (by omega) (s0 := (nI m - 1, σ1)) ⟨by rw [Nat.sub_zero], e2, e3, fun t ht => by
      rw [e4 t ht, kr_low_n m (fun r hr => by rw [decide_eq_false (by omega), Bool.false_and])]
      rfl⟩ (fun k s hk hp => by
    obtain ⟨v, τ⟩ := s
    obtain ⟨hv, h2, hc, ht⟩ := hp
    dsimp only at hv h2 hc ht ⊢
    subst hv
    have hrd' : kx_rd τ 12 F m := kx_rd_fr hrd (hc 12 (by decide)) (hc _ (by decide)) (hc _ (by decide)) (hc _ (by decide)) (by rw [h2])
    have hrow' : ∀ t, t < 12 → τ.2 16 t = kx_enc (d t) := fun t ht => by rw [h2]; exact hrow t ht
    unfold bX7_findParents_18
    by_cases h : k < m
    · left
      refine ⟨h, ?_⟩
      have ev : nI (m - k) - 1 = nI (m - k - 1) := by rw [kn_1, kn_sub (by omega)]
      have ev2 : ∀ y : Nat, nI y + (-1 : Int32) = nI y - 1 := fun y => (Int32.sub_eq_add_neg (nI y) 1).symm
      have hlow : ∀ t, kr_low (fun r => decide (m - (k + 1) ≤ r) && (kr_tight (km_gr F m (-1)) d r && decide ((km_gr F m (-1)).2.2.1 r = t))) m = if (kr_tight (km_gr F m (-1)) d (m - k - 1) && decide ((km_gr F m (-1)).2.2.1 (m - k - 1) = t)) = true then some (m - k - 1) else kr_low (fun r => decide (m - k ≤ r) && (kr_tight (km_gr F m (-1)) d r && decide ((km_gr F m (-1)).2.2.1 r = t))) m := fun t => by
        have := kr_low_from (p := fun r => (kr_tight (km_gr F m (-1)) d r && decide ((km_gr F m (-1)).2.2.1 r = t))) (m := m) (a := m - k - 1) (by omega)
        rw [show m - k - 1 + 1 = m - k by omega] at this
        exact this
      rw [ev, if_neg (nI_pos (by omega)), kx_tight hrd' hw (by omega) hrow' hd, Option.bind_some]
      simp only [kx_fl_0]
      obtain ⟨a, b, c⟩ := hrd'.2.2.1 (m - k - 1) (by omega)
      have eb : τ.1 19 (m - k - 1) = F (28 + 4 * (m - k - 1) + 1) := b
      obtain ⟨_, hto, _, _⟩ := hw.2.2 (m - k - 1) (by omega)
      cases htg : kr_tight (km_gr F m (-1)) d (m - k - 1) with
      | false =>
        rw [if_pos rfl, kw_let_def, ev2]
        refine ⟨_, rfl, by rw [show m - (k + 1) = m - k - 1 by omega], h2, hc, fun t ht' => ?_⟩
        dsimp only
        rw [ht t ht', hlow t, htg, Bool.false_and, if_neg (by decide)]
      | true =>
        rw [if_neg (by decide)]
        simp (disch := omega) only [kn_chk, kn_clamp, eb, kw_chk_t hto, kw_let_def, ev2]
        refine ⟨_, rfl, by rw [show m - (k + 1) = m - k - 1 by omega], h2, fun c hc' => (kw_si_o hc').trans (hc c hc'), fun t ht' => ?_⟩
        dsimp only
        rw [kw_si_1, hlow t, htg, Bool.true_and]
        have etg : (km_gr F m (-1)).2.2.1 (m - k - 1) = (F (28 + 4 * (m - k - 1) + 1)).toNatClampNeg := rfl
        rw [etg]
        by_cases e : (F (28 + 4 * (m - k - 1) + 1)).toNatClampNeg = t
        · rw [e, kw_upd_e, if_pos (decide_eq_true rfl)]
          rfl
        · rw [kw_upd_n (fun q => e q.symm), if_neg (by simp [e])]
          exact ht t ht'
    · right
      obtain rfl : k = m := by omega
      rw [Nat.sub_self] at ht ⊢
      refine ⟨τ, by rw [if_pos (by decide)], h2, hc, fun t ht' => ?_⟩
      rw [ht t ht']
      refine congrArg kx_pe ?_
      show _ = kr_low _ k
      refine congrArg (fun p => kr_low p k) ?_
      funext r
      rw [decide_eq_true (Nat.zero_le r), Bool.true_and])
  unfold fX7_findParents
  rw [e1, Option.bind_some, kw_let_def, hm1, hx]
  exact ⟨x, rfl, h2, hc, ht⟩
theorem km_parentOf {σ : kw_M} {d : kr_D} {m t : Nat} (hw : km_wf (σ.1 1) m) (ht : t < 12) (hrow : ∀ t, t < 12 → σ.2 3 t = km_enc (d t)) (hd : kr_row d) : fX10_parentOf (nI t) σ = some (kx_pe (kr_par (km_gr (σ.1 1) m (-1)) d t)) := by
  have hm := hw.1
  have hgo : ∀ k, k < m → bX10_parentOf_2 (nI t) σ (nI k) = if (kr_tight (km_gr (σ.1 1) m (-1)) d k && decide ((km_gr (σ.1 1) m (-1)).2.2.1 k = t)) = true then some (.inr (.inl (nI k))) else some (.inl (nI (k + 1))) := fun k hk => by
    unfold bX10_parentOf_2
    rw [hw.2.1, if_neg (nI_ge hk (by omega)), km_tight hw hk hrow hd, Option.bind_some, km_of1 (by omega), Option.bind_some, kw_let_def, km_next]
    simp only [kx_fl_0]
    obtain ⟨_, hto, _, _⟩ := hw.2.2 k hk
    have hto' := kw_in_lt hto
    have e : (σ.1 1 (28 + 4 * k + 1) = nI t) = ((km_gr (σ.1 1) m (-1)).2.2.1 k = t) := by
      show _ = ((σ.1 1 (28 + 4 * k + 1)).toNatClampNeg = t)
      refine propext ⟨fun q => by rw [q, kn_clamp (by omega)], fun q => ?_⟩
      rw [kw_in_nI_of hto (by decide), q]
    simp only [e]
    cases kr_tight (km_gr (σ.1 1) m (-1)) d k with
    | false => rw [if_pos rfl, Bool.false_and, if_neg (by decide)]
    | true =>
      rw [if_neg (by decide), Bool.true_and]
      simp only [decide_eq_true_eq]
  obtain ⟨x, hx, hq⟩ := kw_for (body := fun s => bX10_parentOf_2 (nI t) σ s) (fun k s => s = nI k ∧ ∀ r, r < k → (kr_tight (km_gr (σ.1 1) m (-1)) d r && decide ((km_gr (σ.1 1) m (-1)).2.2.1 r = t)) = false) (fun x => Sum.elim (fun x8r => some x8r) (fun _ => some (-1 : Int32)) x = some (kx_pe (kr_par (km_gr (σ.1 1) m (-1)) d t))) m (by omega) (s0 := (0 : Int32)) ⟨rfl, fun r hr => absurd hr (Nat.not_lt_zero _)⟩ (fun k s hk hp => by
    obtain ⟨rfl, hr⟩ := hp
    by_cases h : k < m
    · rw [hgo k h]
      cases hb : (kr_tight (km_gr (σ.1 1) m (-1)) d k && decide ((km_gr (σ.1 1) m (-1)).2.2.1 k = t)) with
      | true =>
        right
        refine ⟨_, by rw [if_pos rfl], ?_⟩
        have : kr_par (km_gr (σ.1 1) m (-1)) d t = some k := kr_low_s m k h hb hr
        rw [this]
        rfl
      | false =>
        left
        refine ⟨h, _, by rw [if_neg (by decide)], rfl, fun r hr' => ?_⟩
        by_cases e : r = k
        · rw [e]; exact hb
        · exact hr r (by omega)
    · right
      obtain rfl : k = m := by omega
      refine ⟨.inr (), ?_, ?_⟩
      · unfold bX10_parentOf_2
        rw [hw.2.1, if_pos (nI_le (Nat.le_refl k) (by omega))]
      · have : kr_par (km_gr (σ.1 1) k (-1)) d t = none := kr_low_n k hr
        rw [this]
        rfl)
  unfold fX10_parentOf
  rw [hx, Option.bind_some]
  exact hq
