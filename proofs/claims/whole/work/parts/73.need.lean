/-! How many roads all ways use. -/
theorem kr_cntb_rm {p : Nat → Bool} {a : Nat} : ∀ m : Nat, kr_cntb p m = kr_cntb (fun r => p r && !decide (r = a)) m + (if a < m ∧ p a = true then 1 else 0)
  | 0 => by rw [if_neg (by omega)]; rfl
  | m + 1 => by
    have ih := kr_cntb_rm (p := p) (a := a) m
    show (if p m = true then kr_cntb p m + 1 else kr_cntb p m) = (if (p m && !decide (m = a)) = true then kr_cntb (fun r => p r && !decide (r = a)) m + 1 else kr_cntb (fun r => p r && !decide (r = a)) m) + _
    by_cases e : m = a
    · subst e
      rw [decide_eq_true rfl, Bool.not_true, Bool.and_false, kn_ft]
      rw [if_neg (by omega)] at ih
      by_cases hp : p m = true
      · rw [if_pos hp, if_pos ⟨by omega, hp⟩]; omega
      · rw [if_neg hp, if_neg (fun q => hp q.2)]; omega
    · rw [decide_eq_false e, Bool.not_false, Bool.and_true]
      by_cases hq : a < m ∧ p a = true
      · rw [if_pos hq] at ih
        rw [if_pos (show a < m + 1 ∧ p a = true from ⟨by omega, hq.2⟩)]
        by_cases hp : p m = true
        · rw [if_pos hp, if_pos hp]; omega
        · rw [if_neg hp, if_neg hp]; omega
      · rw [if_neg hq] at ih
        rw [if_neg (show ¬ (a < m + 1 ∧ p a = true) from fun w => hq ⟨by omega, w.2⟩)]
        by_cases hp : p m = true
        · rw [if_pos hp, if_pos hp]; omega
        · rw [if_neg hp, if_neg hp]; omega
/-- counted along distinct places that have all of them -/
theorem kr_cntb_inj {R : Nat → Nat} {m : Nat} : ∀ (N : Nat) (p : Nat → Bool), (∀ i, i < N → R i < m) → (∀ i j, i < j → j < N → R i ≠ R j) → (∀ r, r < m → p r = true → ∃ i, i < N ∧ R i = r) → kr_cntb (fun i => p (R i)) N = kr_cntb p m
  | 0, p, _, _, h => by
    have : ∀ k : Nat, k ≤ m → kr_cntb p k = 0 := fun k => by
      induction k with
      | zero => exact fun _ => rfl
      | succ k ih =>
        intro hk
        unfold kr_cntb
        have hp : ¬ p k = true := fun q => by
          obtain ⟨i, hi, _⟩ := h k (by omega) q
          omega
        rw [if_neg hp]
        exact ih (by omega)
    exact (this m (Nat.le_refl _)).symm
  | N + 1, p, h1, h2, h3 => by
    have ih := kr_cntb_inj N (fun r => p r && !decide (r = R N)) (fun i hi => h1 i (by omega)) (fun i j hi hj => h2 i j hi (by omega)) (fun r hr hp => by
      have hp' : (p r && !decide (r = R N)) = true := hp
      rw [Bool.and_eq_true] at hp'
      obtain ⟨i, hi, e⟩ := h3 r hr hp'.1
      refine ⟨i, ?_, e⟩
      by_cases q : i = N
      · rw [q] at e
        rw [decide_eq_true e.symm] at hp'
        cases hp'.2
      · omega)
    rw [kr_cntb_rm (p := p) (a := R N) m, ← ih]
    show (if p (R N) = true then kr_cntb (fun i => p (R i)) N + 1 else kr_cntb (fun i => p (R i)) N) = _
    have e : kr_cntb (fun i => p (R i) && !decide (R i = R N)) N = kr_cntb (fun i => p (R i)) N := kr_cntb_eq N (fun i hi => by
      rw [decide_eq_false (h2 i N hi (by omega)), Bool.not_false, Bool.and_true])
    rw [e]
    by_cases hp : p (R N) = true
    · rw [if_pos hp, if_pos ⟨h1 N (by omega), hp⟩]
    · rw [if_neg hp, if_neg (fun q => hp q.2)]
      rfl
theorem kr_bk_add {g : kr_G} {d : kr_D} {t i j : Nat} (h : kr_bk g d t i = kr_bk g d t j) : ∀ k : Nat, kr_bk g d t (i + k) = kr_bk g d t (j + k)
  | 0 => h
  | k + 1 => by
    show (match kr_par g d (kr_bk g d t (i + k)) with
      | some r => g.2.1 r
      | none => kr_bk g d t (i + k)) = (match kr_par g d (kr_bk g d t (j + k)) with
      | some r => g.2.1 r
      | none => kr_bk g d t (j + k))
    rw [kr_bk_add h k]
theorem kr_rn_par {g : kr_G} {d : kr_D} {o t N k : Nat} (h : kr_N g d o t N) (hk : k < N) : kr_par g d (kr_bk g d t k) = some (kr_rn g d t k) := by
  obtain ⟨_, r, hr⟩ := h.2 k hk
  unfold kr_rn
  rw [hr]
  rfl
theorem kr_rn_inj {g : kr_G} {d : kr_D} {o t N i j : Nat} (h : kr_N g d o t N) (hij : i < j) (hj : j < N) : kr_rn g d t i ≠ kr_rn g d t j := fun e => by
  have h1 := (kr_par_some (kr_rn_par h (show i < N by omega))).2.2
  have h2 := (kr_par_some (kr_rn_par h hj)).2.2
  rw [e, h2] at h1
  have h3 := kr_bk_add (k := N - j) h1.symm
  rw [show j + (N - j) = N by omega, h.1] at h3
  exact (h.2 (i + (N - j)) (by omega)).1 h3
/-- a road that all ways use lies on the way -/
theorem kb_nd_way {F : Nat → Int32} {n m o t r N : Nat} (hok : kb_ok F n m o) (ht : t < n) (hz : kb_D F n m o t ≠ none) (hr : r < m) (hN : N < n) (h : kr_N (km_gr F m (-1)) (kb_D F n m o) o t N) (hnd : kb_nd F n m o t r = true) : ∃ k, k < N ∧ kr_rn (km_gr F m (-1)) (kb_D F n m o) t k = r := by
  refine Decidable.byContradiction fun hc => ?_
  have hm := hok.1.2.2.2.1.1
  rw [kb_nd_iff hok ht hz hr, decide_eq_true_eq] at hnd
  have walk : ∀ j : Nat, j ≤ N → ∃ y, kr_W (kr_T (km_gr F m (-1)) (kb_D F n m o) (nI r)) o j (kr_bk (km_gr F m (-1)) (kb_D F n m o) t (N - j)) y := fun j => by
    induction j with
    | zero =>
      intro _
      exact ⟨0, by rw [Nat.sub_zero]; exact h.1, rfl⟩
    | succ j ih =>
      intro hj
      obtain ⟨y, hy⟩ := ih (by omega)
      have hk : N - (j + 1) < N := by omega
      obtain ⟨p1, p2, p3⟩ := kr_par_some (kr_rn_par h hk)
      have hfrom : kr_bk (km_gr F m (-1)) (kb_D F n m o) t (N - j) = (km_gr F m (-1)).2.1 (kr_rn (km_gr F m (-1)) (kb_D F n m o) t (N - (j + 1))) := by
        rw [show N - j = N - (j + 1) + 1 by omega]
        exact kr_bk_s (kr_rn_par h hk)
      rw [hfrom] at hy
      refine ⟨_, kr_rn (km_gr F m (-1)) (kb_D F n m o) t (N - (j + 1)), p1, ?_, p3, y, hy, rfl⟩
      show (decide (¬ nI (kr_rn (km_gr F m (-1)) (kb_D F n m o) t (N - (j + 1))) = nI r) && kr_tight (km_gr F m (-1)) (kb_D F n m o) (kr_rn (km_gr F m (-1)) (kb_D F n m o) t (N - (j + 1)))) = true
      have p1' : kr_rn (km_gr F m (-1)) (kb_D F n m o) t (N - (j + 1)) < m := p1
      rw [p2, Bool.and_true]
      exact decide_eq_true (fun e => hc ⟨N - (j + 1), hk, (nI_eq (by omega) (by omega)).mp e⟩)
  obtain ⟨y, hy⟩ := walk N (Nat.le_refl _)
  rw [Nat.sub_self] at hy
  have := (kr_ca_pos (g := kr_T (km_gr F m (-1)) (kb_D F n m o) (nI r)) (o := o) (t := t) (n - 1)).mpr ⟨N, by omega, y, hy⟩
  omega
theorem kw_neededCount {σX σM : kw_M} {n m o t : Nat} (hok : kb_ok (σM.1 1) n m o) (hsh : kx_sh σX 1 12 (σM.1 1) n m o) (ht : t < n) (hrow : ∀ t, t < 12 → σM.2 3 t = km_enc (kb_D (σM.1 1) n m o t)) (hz : kb_D (σM.1 1) n m o t ≠ none) : ∃ c τX τM, c ≤ 36 ∧ fX9_neededCount (nI t) σX = some (nI c, τX) ∧ fX10_neededMany (nI t) σM = some (nI c, τM) ∧ (∀ c, c ≠ 42 → τX.1 c = σX.1 c) ∧ (∀ c, c ≠ 41 → τX.2 c = σX.2 c) ∧ τM.1 = σM.1 := by
  have h12 := hok.1.2.2.1
  have hm := hok.1.2.2.2.1.1
  have hw := hok.1.2.2.2.1
  obtain ⟨N, hN, hNN⟩ := kb_N hok ht hz
  obtain ⟨τ, a1, a2, a3, a4⟩ := kx_findWay hok hsh ht (by omega) hNN
  have hRx : ∀ i, i < N → kr_rn (km_gr (σM.1 1) m (-1)) (kb_D (σM.1 1) n m o) t (N - 1 - i) < m := fun i hi => (kr_rn_rb hNN (by omega)).2
  obtain ⟨x, hx, x1, x2⟩ := kw_for (body := fun s => bX9_neededCount_11 (nI t) (nI N) s.1 s.2.1 s.2.2) (fun k s => s.1 = nI (kr_cntb (fun i => kb_nd (σM.1 1) n m o t (kr_rn (km_gr (σM.1 1) m (-1)) (kb_D (σM.1 1) n m o) t (N - 1 - i))) k) ∧ s.2.1 = nI k ∧ kx_oL τ s.2.2 41) (fun x => x.1 = nI (kr_cntb (fun i => kb_nd (σM.1 1) n m o t (kr_rn (km_gr (σM.1 1) m (-1)) (kb_D (σM.1 1) n m o) t (N - 1 - i))) N) ∧ kx_oL τ x.2 41) N (by omega) (s0 := ((0 : Int32), (0 : Int32), τ)) ⟨rfl, rfl, rfl, fun _ _ => rfl⟩ (fun k s hk hp => by
    obtain ⟨v3, v4, ρ⟩ := s
    obtain ⟨e1, e2, o1, o2⟩ := hp
    dsimp only at e1 e2 o1 o2 ⊢
    subst e1 e2
    unfold bX9_neededCount_11
    by_cases hkN : k < N
    case neg =>
      right
      obtain rfl : k = N := by omega
      rw [if_pos (nI_le (Nat.le_refl k) (by omega))]
      exact ⟨_, rfl, rfl, o1, o2⟩
    left
    refine ⟨hkN, ?_⟩
    have hsρ : kx_sh ρ 1 12 (σM.1 1) n m o := kx_sh_N hsh ⟨fun c hc => by rw [o1]; exact a3 c (by omega), fun c hc => by rw [o2 c (by omega), a2]⟩
    rw [if_neg (nI_ge hkN (by omega)), kn_chk (by omega) (by decide), kn_clamp (by omega), o1, a4 k hkN, (kr_rn_rb hNN (show N - 1 - k < N by omega)).1, kx_isNeeded hok hsρ (hRx k hkN) ht, Option.bind_some]
    simp only [kx_fl_0, kw_let_def, km_next]
    have es : kr_cntb (fun i => kb_nd (σM.1 1) n m o t (kr_rn (km_gr (σM.1 1) m (-1)) (kb_D (σM.1 1) n m o) t (N - 1 - i))) (k + 1) = if kb_nd (σM.1 1) n m o t (kr_rn (km_gr (σM.1 1) m (-1)) (kb_D (σM.1 1) n m o) t (N - 1 - k)) = true then kr_cntb (fun i => kb_nd (σM.1 1) n m o t (kr_rn (km_gr (σM.1 1) m (-1)) (kb_D (σM.1 1) n m o) t (N - 1 - i))) k + 1 else kr_cntb (fun i => kb_nd (σM.1 1) n m o t (kr_rn (km_gr (σM.1 1) m (-1)) (kb_D (σM.1 1) n m o) t (N - 1 - i))) k := rfl
    rw [es]
    cases kb_nd (σM.1 1) n m o t (kr_rn (km_gr (σM.1 1) m (-1)) (kb_D (σM.1 1) n m o) t (N - 1 - k)) with
    | false => rw [kn_ff, kn_ft]; exact ⟨_, rfl, rfl, rfl, o1, fun q hq => by dsimp only; rw [kx_row_o hq]; exact o2 q hq⟩
    | true => rw [kn_tf, kn_tt]; exact ⟨_, rfl, rfl, rfl, o1, fun q hq => by dsimp only; rw [kx_row_o hq]; exact o2 q hq⟩)
  obtain ⟨y, hy, y1, y2⟩ := kw_for (body := fun s => bX10_neededMany_20 (nI t) s.1 s.2.1 s.2.2) (fun k s => s.1 = nI (kr_cntb (kb_nd (σM.1 1) n m o t) k) ∧ s.2.1 = nI k ∧ km_o3 σM s.2.2) (fun x => x.1 = nI (kr_cntb (kb_nd (σM.1 1) n m o t) m) ∧ km_o3 σM x.2) m (by omega) (s0 := ((0 : Int32), (0 : Int32), σM)) ⟨rfl, rfl, rfl, fun _ _ _ _ => rfl⟩ (fun k s hk hp => by
    obtain ⟨v3, v4, ρ⟩ := s
    obtain ⟨e1, e2, o1, o2⟩ := hp
    dsimp only at e1 e2 o1 o2 ⊢
    subst e1 e2
    unfold bX10_neededMany_20
    rw [show ρ.1 1 1 = nI m by rw [o1]; exact hw.2.1]
    by_cases hkm : k < m
    case neg =>
      right
      obtain rfl : k = m := by omega
      rw [if_pos (nI_le (Nat.le_refl k) (by omega))]
      exact ⟨_, rfl, rfl, o1, o2⟩
    left
    refine ⟨hkm, ?_⟩
    have hrowρ : ∀ t, t < 12 → ρ.2 3 t = km_enc (kb_D (σM.1 1) n m o t) := fun t ht => by rw [o2 3 (by decide) (by decide) (by decide)]; exact hrow t ht
    obtain ⟨ρ2, n1, n2, n3⟩ := km_isNeeded (σ := ρ) (n := n) (m := m) (o := o) (r := k) (t := t) (by rw [o1]; exact hok) (by rw [o1]; exact hrowρ) hkm ht (by rw [o1]; exact hz)
    rw [o1] at n1
    rw [if_neg (nI_ge hkm (by omega)), km_tight (by rw [o1]; exact hw) hkm hrowρ (kb_row hok), Option.bind_some, n1, Option.bind_some, o1]
    simp only [kx_fl_0, kw_let_def, km_next]
    have es : kr_cntb (kb_nd (σM.1 1) n m o t) (k + 1) = if kb_nd (σM.1 1) n m o t k = true then kr_cntb (kb_nd (σM.1 1) n m o t) k + 1 else kr_cntb (kb_nd (σM.1 1) n m o t) k := rfl
    rw [es]
    have o3 : km_o3 σM ρ2 := ⟨n2.trans o1, fun q h9 h10 h11 => by rw [n3 q h9 h10 h11]; exact o2 q h9 h10 h11⟩
    cases hnd : kb_nd (σM.1 1) n m o t k with
    | false =>
      rw [kn_ft]
      cases kr_tight (km_gr (σM.1 1) m (-1)) (kb_D (σM.1 1) n m o) k with
      | false => rw [kn_ff]; exact ⟨_, rfl, rfl, rfl, o1, o2⟩
      | true => rw [kn_tf, kn_ff]; exact ⟨_, rfl, rfl, rfl, o3⟩
    | true =>
      rw [kn_tt, kb_nd_tight hok ht hz hkm hnd, kn_tf, kn_tf]
      exact ⟨_, rfl, rfl, rfl, o3⟩)
  have ecnt : kr_cntb (fun i => kb_nd (σM.1 1) n m o t (kr_rn (km_gr (σM.1 1) m (-1)) (kb_D (σM.1 1) n m o) t (N - 1 - i))) N = kr_cntb (kb_nd (σM.1 1) n m o t) m := kr_cntb_inj (R := fun i => kr_rn (km_gr (σM.1 1) m (-1)) (kb_D (σM.1 1) n m o) t (N - 1 - i)) N (kb_nd (σM.1 1) n m o t) hRx (fun i j hi hj e => kr_rn_inj hNN (show N - 1 - j < N - 1 - i by omega) (by omega) e.symm) (fun r hr hp => by
    obtain ⟨k, hk, e⟩ := kb_nd_way hok ht hz hr hN hNN hp
    refine ⟨N - 1 - k, by omega, ?_⟩
    show kr_rn (km_gr (σM.1 1) m (-1)) (kb_D (σM.1 1) n m o) t (N - 1 - (N - 1 - k)) = r
    rw [show N - 1 - (N - 1 - k) = k by omega]
    exact e)
  have hle := kr_cntb_le (kb_nd (σM.1 1) n m o t) m
  refine ⟨kr_cntb (kb_nd (σM.1 1) n m o t) m, x.2, y.2, by omega, ?_, ?_, fun c hc => by rw [x2.1]; exact a3 c hc, fun c hc => by rw [x2.2 c hc, a2], y2.1⟩
  · unfold fX9_neededCount
    rw [a1, Option.bind_some]
    dsimp only
    rw [hx, Option.bind_some, x1, ecnt]
  · unfold fX10_neededMany
    rw [kn_chk (by omega) (by decide), kn_clamp (by omega), hrow t (by omega)]
    simp only [km_enc_e (kr_row_bd (kb_row hok) t)]
    rw [if_neg hz, hy, Option.bind_some, y1]
