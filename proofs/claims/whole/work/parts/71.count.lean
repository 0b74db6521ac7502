/-! How many ways as short: the reference's countsWays, the class's waysAsShort. -/
def kn_rw (σ : kw_M) (c : Nat) (f : Nat → Nat) : Prop := ∀ t, t < 12 → σ.2 c t = Int64.ofNat (f t)
theorem kn_addL (a b : Nat) : Int64.ofNat a + Int64.ofNat b = Int64.ofNat (a + b) := (Int64.ofNat_add a b).symm
theorem kn_toIntL {a : Nat} (h : a < 9000000000000000000) : (Int64.ofNat a).toInt = a := Int64.toInt_ofNat_of_lt (by omega)
theorem kr_ct_le {g : kr_G} {o : Nat} (hm : g.1 ≤ 36) : ∀ k t : Nat, kr_ct g o k t ≤ 36 ^ k
  | 0, t => by
    unfold kr_ct
    by_cases h : t = o
    · rw [if_pos h]; decide
    · rw [if_neg h]; decide
  | k + 1, t => by
    have ih := kr_ct_le (o := o) hm k
    have step : ∀ j : Nat, kr_cs g (kr_ct g o k) j t ≤ j * 36 ^ k := fun j => by
      induction j with
      | zero => exact Nat.zero_le _
      | succ j ihj =>
        rw [kr_cs_s, Nat.succ_mul]
        by_cases hu : g.2.2.2.2 j = true
        · rw [if_pos hu]
          have := ih (g.2.1 j)
          by_cases e : t = g.2.2.1 j
          · rw [if_pos e]; omega
          · rw [if_neg e]; omega
        · rw [if_neg hu]; exact Nat.le_trans ihj (Nat.le_add_right _ _)
    have h1 := step g.1
    have h2 : g.1 * 36 ^ k ≤ 36 * 36 ^ k := Nat.mul_le_mul_right _ hm
    show kr_cs g (kr_ct g o k) g.1 t ≤ 36 ^ (k + 1)
    rw [Nat.pow_succ, Nat.mul_comm (36 ^ k) 36]
    omega
theorem kr_ca_lt {g : kr_G} {o t : Nat} (hm : g.1 ≤ 36) {k : Nat} (hk : k ≤ 11) : kr_ca g o t k < 9000000000000000000 := by
  have h : ∀ j : Nat, j ≤ 11 → kr_ca g o t j ≤ (j + 1) * 36 ^ 11 := fun j => by
    induction j with
    | zero =>
      intro _
      have := kr_ct_le (g := g) (o := o) hm 0 t
      show kr_ct g o 0 t ≤ _
      have h36 : (36 : Nat) ^ 0 = 1 := rfl
      have h11 : (36 : Nat) ^ 11 = 131621703842267136 := by decide
      omega
    | succ j ih =>
      intro hj
      have h1 := ih (by omega)
      have h2 := kr_ct_le (g := g) (o := o) hm (j + 1) t
      have h3 : (36 : Nat) ^ (j + 1) ≤ 36 ^ 11 := Nat.pow_le_pow_right (by decide) hj
      show kr_ca g o t j + kr_ct g o (j + 1) t ≤ (j + 1 + 1) * 36 ^ 11
      rw [Nat.succ_mul]
      omega
  have h1 := h k hk
  have h11 : (36 : Nat) ^ 11 = 131621703842267136 := by decide
  have h2 : (k + 1) * 36 ^ 11 ≤ 12 * 36 ^ 11 := Nat.mul_le_mul_right _ (by omega)
  omega
/-- the cells 9, 10, 11 of the reference alone -/
def km_o3 (σ τ : kw_M) : Prop := τ.1 = σ.1 ∧ ∀ q, q ≠ 9 → q ≠ 10 → q ≠ 11 → τ.2 q = σ.2 q
theorem km_cw1 {σ : kw_M} {o : Nat} {b : Int32} {g : kr_G} (ho : σ.1 1 2 = nI o) (ho2 : o < 12) : ∃ τ, kw_loop (fun s => bX10_countsWays_2 b s.1 s.2) kw_F ((0 : Int32), σ) = some τ ∧ kn_rw τ 9 (kr_ct g o 0) ∧ kn_rw τ 11 (kr_ct g o 0) ∧ km_o3 σ τ := by
  obtain ⟨x, hx, h1, h2, h3⟩ := kw_for (body := fun s => bX10_countsWays_2 b s.1 s.2) (fun k s => s.1 = nI k ∧ (∀ t, t < k → s.2.2 9 t = Int64.ofNat (kr_ct g o 0 t)) ∧ (∀ t, t < k → s.2.2 11 t = Int64.ofNat (kr_ct g o 0 t)) ∧ km_o3 σ s.2) (fun x => kn_rw x 9 (kr_ct g o 0) ∧ kn_rw x 11 (kr_ct g o 0) ∧ km_o3 σ x) 12 (by decide) (s0 := ((0 : Int32), σ)) ⟨rfl, fun t ht => absurd ht (Nat.not_lt_zero _), fun t ht => absurd ht (Nat.not_lt_zero _), rfl, fun _ _ _ _ => rfl⟩ (fun k s hk hp => by
    obtain ⟨v, τ⟩ := s
    obtain ⟨rfl, h1, h2, o1, o2⟩ := hp
    dsimp only at h1 h2 o1 o2 ⊢
    unfold bX10_countsWays_2 jX10_countsWays_28_L2
    by_cases hk2 : k < 12
    case neg =>
      right
      obtain rfl : k = 12 := by omega
      rw [if_pos (by decide)]
      exact ⟨_, rfl, h1, h2, o1, o2⟩
    left
    refine ⟨hk2, ?_⟩
    rw [kn_12, if_neg (nI_ge hk2 (by decide)), o1, ho]
    simp (disch := omega) only [kn_eq, kn_chk, kn_clamp, kw_let_def, km_next, kw_sl_2, kw_updL_e]
    have fin : ∀ v : Int64, v = Int64.ofNat (kr_ct g o 0 k) → ∃ t, (some (Sum.inl (nI (k + 1), kw_sl (kw_sl τ 9 k v) 11 k v)) : Option ((Int32 × kw_M) ⊕ kw_M)) = some (Sum.inl t) ∧ t.1 = nI (k + 1) ∧ (∀ u, u < k + 1 → t.2.2 9 u = Int64.ofNat (kr_ct g o 0 u)) ∧ (∀ u, u < k + 1 → t.2.2 11 u = Int64.ofNat (kr_ct g o 0 u)) ∧ km_o3 σ t.2 := fun v hv => by
      refine ⟨_, rfl, rfl, fun u hu => ?_, fun u hu => ?_, o1, fun q h9 h10 h11 => ?_⟩
      · dsimp only
        rw [kw_sl_o (by decide), kw_sl_2]
        by_cases e : u = k
        · rw [e, kw_updL_e, hv]
        · rw [kw_updL_n e]; exact h1 u (by omega)
      · dsimp only
        rw [kw_sl_2, kw_sl_o (by decide)]
        by_cases e : u = k
        · rw [e, kw_updL_e, hv]
        · rw [kw_updL_n e]; exact h2 u (by omega)
      · dsimp only
        rw [kw_sl_o h11, kw_sl_o h9]
        exact o2 q h9 h10 h11
    by_cases e : k = o
    · rw [if_pos e]
      exact fin 1 (by show 1 = Int64.ofNat (if k = o then 1 else 0); rw [if_pos e]; rfl)
    · rw [if_neg e]
      exact fin 0 (by show 0 = Int64.ofNat (if k = o then 1 else 0); rw [if_neg e]; rfl))
  exact ⟨x, hx, h1, h2, h3⟩
theorem km_cw2 {σ : kw_M} {n m : Nat} {b v2 : Int32} {d : kr_D} {c a : Nat → Nat} (hw : kb_wf (σ.1 1) n m) (hrow : ∀ t, t < 12 → σ.2 3 t = km_enc (d t)) (hd : kr_row d) (h9 : kn_rw σ 9 c) (h11 : kn_rw σ 11 a) : ∃ τ, ((kw_loop (fun s => bX10_countsWays_59 b v2 s.1 s.2) kw_F ((0 : Int32), σ)).bind fun x15 => (kw_loop (fun s => bX10_countsWays_80 b v2 s.1 s.2) kw_F ((0 : Int32), x15)).bind fun x30 => kw_loop (fun s => bX10_countsWays_145 b v2 s.1 s.2) kw_F ((0 : Int32), x30)) = some τ ∧ kn_rw τ 9 (kr_cs (kr_T (km_gr (σ.1 1) m (-1)) d b) c m) ∧ kn_rw τ 11 (fun t => a t + kr_cs (kr_T (km_gr (σ.1 1) m (-1)) d b) c m t) ∧ km_o3 σ τ := by
  have hm := hw.2.2.2.1.1
  obtain ⟨x, hx, x1, x2, x3⟩ := kw_for (body := fun s => bX10_countsWays_59 b v2 s.1 s.2) (fun k s => s.1 = nI k ∧ (∀ t, t < k → s.2.2 10 t = 0) ∧ kx_oL σ s.2 10) (fun x => (∀ t, t < 12 → x.2 10 t = 0) ∧ kx_oL σ x 10) 12 (by decide) (s0 := ((0 : Int32), σ)) ⟨rfl, fun t ht => absurd ht (Nat.not_lt_zero _), rfl, fun _ _ => rfl⟩ (fun k s hk hp => by
    obtain ⟨v, τ⟩ := s
    obtain ⟨rfl, h1, o1, o2⟩ := hp
    dsimp only at h1 o1 o2 ⊢
    unfold bX10_countsWays_59
    by_cases hk2 : k < 12
    case neg =>
      right
      obtain rfl : k = 12 := by omega
      rw [if_pos (by decide)]
      exact ⟨_, rfl, h1, o1, o2⟩
    left
    refine ⟨hk2, ?_⟩
    rw [kn_12, if_neg (nI_ge hk2 (by decide))]
    simp (disch := omega) only [kn_chk, kn_clamp, kw_let_def, km_next]
    refine ⟨_, rfl, rfl, fun u hu => ?_, o1, fun q hq => (kw_sl_o hq).trans (o2 q hq)⟩
    dsimp only
    rw [kw_sl_2]
    by_cases e : u = k
    · rw [e, kw_updL_e]
    · rw [kw_updL_n e]; exact h1 u (by omega))
  obtain ⟨y, hy, y1, y2, y3⟩ := kw_for (body := fun s => bX10_countsWays_80 b v2 s.1 s.2) (fun k s => s.1 = nI k ∧ kn_rw s.2 10 (kr_cs (kr_T (km_gr (σ.1 1) m (-1)) d b) c k) ∧ kx_oL σ s.2 10) (fun x => kn_rw x 10 (kr_cs (kr_T (km_gr (σ.1 1) m (-1)) d b) c m) ∧ kx_oL σ x 10) m (by omega) (s0 := ((0 : Int32), x)) ⟨rfl, fun t ht => x1 t ht, x2, x3⟩ (fun k s hk hp => by
    obtain ⟨v, τ⟩ := s
    obtain ⟨rfl, e3, o1, o2⟩ := hp
    dsimp only at e3 o1 o2 ⊢
    unfold bX10_countsWays_80
    rw [show τ.1 1 1 = nI m by rw [o1]; exact hw.2.2.2.1.2.1]
    by_cases hkm : k < m
    case neg =>
      right
      obtain rfl : k = m := by omega
      rw [if_pos (nI_le (Nat.le_refl k) (by omega))]
      exact ⟨_, rfl, e3, o1, o2⟩
    left
    refine ⟨hkm, ?_⟩
    obtain ⟨hfr, hto, hl1, hl2⟩ := hw.2.2.2.1.2.2 k hkm
    have hu : (kr_T (km_gr (σ.1 1) m (-1)) d b).2.2.2.2 k = (decide (¬ nI k = b) && kr_tight (km_gr (σ.1 1) m (-1)) d k) := rfl
    have hd9 : τ.2 9 (σ.1 1 (28 + 4 * k + 0)).toNatClampNeg = Int64.ofNat (c (σ.1 1 (28 + 4 * k + 0)).toNatClampNeg) := by rw [o2 9 (by decide)]; exact h9 _ (kw_in_lt hfr)
    have hd10 := e3 _ (kw_in_lt hto)
    rw [if_neg (nI_ge hkm (by omega)), km_tight (by rw [o1]; exact hw.2.2.2.1) hkm (fun t ht => by rw [o2 3 (by decide)]; exact hrow t ht) hd, Option.bind_some, km_of1 (by omega), km_of0 (by omega), o1]
    simp only [Option.bind_some, kw_let_def, km_next, kw_chk_t hfr, kw_chk_t hto, hd9, hd10, kx_fl_0, kn_addL]
    rw [kr_cs_s, hu]
    by_cases hb : nI k = b
    · rw [if_pos hb, decide_eq_false (fun q => q hb), Bool.false_and, kn_ft]
      exact ⟨_, rfl, rfl, e3, o1, o2⟩
    · rw [if_neg hb, decide_eq_true hb, Bool.true_and]
      cases kr_tight (km_gr (σ.1 1) m (-1)) d k with
      | false =>
        rw [kn_ff, kn_ft]
        exact ⟨_, rfl, rfl, e3, o1, o2⟩
      | true =>
        rw [kn_tf, kn_tt]
        refine ⟨_, rfl, rfl, fun q hq => ?_, o1, fun q hq => (kw_sl_o hq).trans (o2 q hq)⟩
        dsimp only
        rw [kw_sl_2]
        show _ = Int64.ofNat (if q = (σ.1 1 (28 + 4 * k + 1)).toNatClampNeg then kr_cs (kr_T (km_gr (σ.1 1) m (-1)) d b) c k q + c (σ.1 1 (28 + 4 * k + 0)).toNatClampNeg else kr_cs (kr_T (km_gr (σ.1 1) m (-1)) d b) c k q)
        by_cases e : q = (σ.1 1 (28 + 4 * k + 1)).toNatClampNeg
        · rw [if_pos e, e, kw_updL_e]
        · rw [kw_updL_n e, if_neg e]
          exact e3 q hq)
  obtain ⟨w, hw', w1, w2, w3⟩ := kw_for (body := fun s => bX10_countsWays_145 b v2 s.1 s.2) (fun k s => s.1 = nI k ∧ (∀ t, t < 12 → s.2.2 9 t = if t < k then Int64.ofNat (kr_cs (kr_T (km_gr (σ.1 1) m (-1)) d b) c m t) else y.2 9 t) ∧ (∀ t, t < 12 → s.2.2 11 t = if t < k then Int64.ofNat (a t + kr_cs (kr_T (km_gr (σ.1 1) m (-1)) d b) c m t) else Int64.ofNat (a t)) ∧ s.2.2 10 = y.2 10 ∧ km_o3 σ s.2) (fun x => kn_rw x 9 (kr_cs (kr_T (km_gr (σ.1 1) m (-1)) d b) c m) ∧ kn_rw x 11 (fun t => a t + kr_cs (kr_T (km_gr (σ.1 1) m (-1)) d b) c m t) ∧ km_o3 σ x) 12 (by decide) (s0 := ((0 : Int32), y)) ⟨rfl, fun t ht => by rw [if_neg (Nat.not_lt_zero _)], fun t ht => by rw [if_neg (Nat.not_lt_zero _)]; show y.2 11 t = _; rw [y3 11 (by decide)]; exact h11 t ht, rfl, y2, fun q h9' h10 h11' => y3 q h10⟩ (fun k s hk hp => by
    obtain ⟨v, τ⟩ := s
    obtain ⟨rfl, e9, e11, e10, o1, o2⟩ := hp
    dsimp only at e9 e11 e10 o1 o2 ⊢
    unfold bX10_countsWays_145
    by_cases hk2 : k < 12
    case neg =>
      right
      obtain rfl : k = 12 := by omega
      rw [if_pos (by decide)]
      refine ⟨_, rfl, fun t ht => ?_, fun t ht => ?_, o1, o2⟩
      · rw [e9 t ht, if_pos ht]
      · rw [e11 t ht, if_pos ht]
    left
    refine ⟨hk2, ?_⟩
    have h10k : τ.2 10 k = Int64.ofNat (kr_cs (kr_T (km_gr (σ.1 1) m (-1)) d b) c m k) := by rw [e10]; exact y1 k hk2
    have h11k : τ.2 11 k = Int64.ofNat (a k) := by rw [e11 k hk2, if_neg (Nat.lt_irrefl _)]
    rw [kn_12, if_neg (nI_ge hk2 (by decide))]
    simp (disch := first | omega | decide) only [kn_chk, kn_clamp, kw_let_def, km_next, kw_sl_2, kw_updL_e, kw_sl_o, h10k, h11k, kn_addL]
    refine ⟨_, rfl, rfl, fun t ht => ?_, fun t ht => ?_, ?_, o1, fun q h9' h10 h11' => ?_⟩
    · dsimp only
      rw [kw_sl_o (by decide), kw_sl_2]
      by_cases e : t = k
      · rw [e, kw_updL_e, if_pos (by omega)]
      · rw [kw_updL_n e, e9 t ht]
        by_cases q : t < k
        · rw [if_pos q, if_pos (by omega)]
        · rw [if_neg q, if_neg (by omega)]
    · dsimp only
      rw [kw_sl_2, kw_sl_o (by decide)]
      by_cases e : t = k
      · rw [e, kw_updL_e, if_pos (by omega)]
      · rw [kw_updL_n e, e11 t ht]
        by_cases q : t < k
        · rw [if_pos q, if_pos (by omega)]
        · rw [if_neg q, if_neg (by omega)]
    · dsimp only
      rw [kw_sl_o (by decide), kw_sl_o (by decide)]
      exact e10
    · dsimp only
      rw [kw_sl_o h11', kw_sl_o h9']
      exact o2 q h9' h10 h11')
  rw [hx, Option.bind_some, hy, Option.bind_some, hw']
  exact ⟨w, rfl, w1, w2, w3⟩
theorem km_counts {σ : kw_M} {n m o : Nat} {b : Int32} {d : kr_D} (hw : kb_wf (σ.1 1) n m) (ho : σ.1 1 2 = nI o) (hon : o < n) (hrow : ∀ t, t < 12 → σ.2 3 t = km_enc (d t)) (hd : kr_row d) : ∃ τ, fX10_countsWays b σ = some τ ∧ (∀ t, t < 12 → τ.2 11 t = Int64.ofNat (kr_ca (kr_T (km_gr (σ.1 1) m (-1)) d b) o t (n - 1))) ∧ km_o3 σ τ := by
  have h12 := hw.2.2.1
  obtain ⟨σ1, a1, a2, a3, a4, a5⟩ := km_cw1 (b := b) (g := kr_T (km_gr (σ.1 1) m (-1)) d b) ho (by omega)
  obtain ⟨x, hx, x1, x2⟩ := kw_for (body := fun s => bX10_countsWays_49 b s.1 s.2) (fun k s => s.1 = nI (1 + k) ∧ kn_rw s.2 9 (kr_ct (kr_T (km_gr (σ.1 1) m (-1)) d b) o k) ∧ kn_rw s.2 11 (fun t => kr_ca (kr_T (km_gr (σ.1 1) m (-1)) d b) o t k) ∧ km_o3 σ s.2) (fun x => (∀ t, t < 12 → x.2 11 t = Int64.ofNat (kr_ca (kr_T (km_gr (σ.1 1) m (-1)) d b) o t (n - 1))) ∧ km_o3 σ x) (n - 1) (by omega) (s0 := ((1 : Int32), σ1)) ⟨rfl, a2, a3, a4, a5⟩ (fun k s hk hp => by
    obtain ⟨v, τ⟩ := s
    obtain ⟨rfl, e9, e11, o1, o2⟩ := hp
    dsimp only at e9 e11 o1 o2 ⊢
    unfold bX10_countsWays_49 fX10_towns
    rw [o1, hw.1, Option.bind_some]
    have h2 := hw.2.1
    by_cases hkn : k < n - 1
    case neg =>
      right
      obtain rfl : k = n - 1 := by omega
      rw [if_pos (nI_le (by omega) (by omega))]
      exact ⟨_, rfl, e11, o1, o2⟩
    left
    refine ⟨hkn, ?_⟩
    obtain ⟨τ2, t1, t2, t3, t4, t5⟩ := km_cw2 (σ := τ) (n := n) (m := m) (b := b) (v2 := nI (1 + k)) (d := d) (by rw [o1]; exact hw) (fun t ht => by rw [o2 3 (by decide) (by decide) (by decide)]; exact hrow t ht) hd e9 e11
    rw [o1] at t2 t3
    rw [if_neg (nI_ge (by omega) (by omega))]
    cases hA : kw_loop (fun s => bX10_countsWays_59 b (nI (1 + k)) s.1 s.2) kw_F ((0 : Int32), τ) with
    | none => rw [hA] at t1; cases t1
    | some A =>
      rw [hA, Option.bind_some] at t1
      rw [Option.bind_some]
      cases hB : kw_loop (fun s => bX10_countsWays_80 b (nI (1 + k)) s.1 s.2) kw_F ((0 : Int32), A) with
      | none => rw [hB] at t1; cases t1
      | some B =>
        rw [hB, Option.bind_some] at t1
        rw [Option.bind_some, t1, Option.bind_some, kw_let_def, km_next]
        exact ⟨_, rfl, rfl, t2, t3, t4.trans o1, fun q h9 h10 h11 => by dsimp only; rw [t5 q h9 h10 h11]; exact o2 q h9 h10 h11⟩)
  unfold fX10_countsWays
  rw [a1, Option.bind_some, hx]
  exact ⟨x, rfl, x1, x2⟩
