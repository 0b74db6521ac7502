/-! hops. -/
/-- a row of the class in cell c -/
def kx_rw (σ : kw_M) (c : Nat) (d : kr_D) : Prop := ∀ t, t < 12 → σ.2 c t = kx_enc (d t)
def kx_oL (σ τ : kw_M) (c : Nat) : Prop := τ.1 = σ.1 ∧ ∀ q, q ≠ c → τ.2 q = σ.2 q
theorem kr_ls_lw {f : kr_D} {t : Nat} {x : Option Int} (h : kr_ls x (f t) = false) : kr_lw f t x = f := by
  funext q
  unfold kr_lw
  by_cases e : q = t
  · rw [if_pos e, e]
    unfold kr_mn
    rw [h, kn_ft]
  · rw [if_neg e]
theorem kx_lower {σ : kw_M} {c t : Nat} {f : kr_D} {x : Option Int} (hr : kx_rw σ c f) (ht : t < 12) (hf : kr_bd (f t)) (hx : kr_bd x) : ∃ τ, fX4_lower c (nI t) (kx_enc x) σ = some (kx_fl (kr_ls x (f t)), τ) ∧ kx_rw τ c (kr_lw f t x) ∧ kx_oL σ τ c := by
  unfold fX4_lower
  rw [kn_chk (by omega) (by decide), kn_clamp (by omega), hr t ht, kx_isLess hx hf, Option.bind_some]
  simp only [kx_fl_0]
  cases h : kr_ls x (f t) with
  | false =>
    rw [kn_ff, kr_ls_lw h]
    exact ⟨σ, rfl, hr, rfl, fun _ _ => rfl⟩
  | true =>
    rw [kn_tf, kw_let_def]
    refine ⟨_, rfl, fun q hq => ?_, rfl, fun q hq => kw_sl_o hq⟩
    rw [kw_sl_2]
    unfold kr_lw
    by_cases e : q = t
    · subst e
      rw [kw_updL_e, if_pos rfl]
      unfold kr_mn
      rw [h, kn_tt]
    · rw [kw_updL_n e, if_neg e]
      exact hr q hq
theorem kx_or (a b : Bool) : kx_fl a ||| kx_fl b = kx_fl (a || b) := by cases a <;> cases b <;> decide
theorem kx_stepAll {σ : kw_M} {F : Nat → Int32} {n m : Nat} {d f : kr_D} {B : Int} (hrd : kx_rd σ 12 F m) (hw : kb_wf F n m) (h43 : kx_rw σ 43 d) (h44 : kx_rw σ 44 f) (hd : kr_in d B) (hf : kr_in f (B + 1000000000)) (hB : B ≤ 900000000000000) : ∃ b τ, fX4_stepAll σ = some (kx_fl b, τ) ∧ kx_rw τ 44 (kr_sk (km_gr F m (-1)) d f m) ∧ kx_oL σ τ 44 ∧ (b = false → kr_sk (km_gr F m (-1)) d f m = f) := by
  have hm := hw.2.2.2.1.1
  have hlen := km_wf_len hw.2.2.2.1 (-1)
  obtain ⟨x, hx, b, e1, e2, e3, e4⟩ := kw_for (body := fun s => bX4_stepAll_5 s.1 s.2.1 s.2.2) (fun k s => ∃ b : Bool, s.1 = kx_fl b ∧ s.2.1 = nI k ∧ kx_rw s.2.2 44 (kr_sk (km_gr F m (-1)) d f k) ∧ kx_oL σ s.2.2 44 ∧ (b = false → kr_sk (km_gr F m (-1)) d f k = f)) (fun x => ∃ b : Bool, x.1 = kx_fl b ∧ kx_rw x.2 44 (kr_sk (km_gr F m (-1)) d f m) ∧ kx_oL σ x.2 44 ∧ (b = false → kr_sk (km_gr F m (-1)) d f m = f)) m (by omega) (s0 := ((0 : Int32), (0 : Int32), σ)) ⟨false, rfl, rfl, h44, ⟨rfl, fun _ _ => rfl⟩, fun _ => rfl⟩ (fun k s hk hp => by
    obtain ⟨v3, v4, τ⟩ := s
    obtain ⟨b, e1, e2, e3, ⟨o1, o2⟩, e5⟩ := hp
    dsimp only at e1 e2 e3 o1 o2 e5 ⊢
    subst e1 e2
    unfold bX4_stepAll_5
    rw [show τ.1 12 1 = nI m by rw [o1]; exact hrd.2.1.trans hw.2.2.2.1.2.1]
    by_cases hkm : k < m
    case neg =>
      right
      obtain rfl : k = m := by omega
      rw [if_pos (nI_le (Nat.le_refl k) (by omega))]
      exact ⟨_, rfl, b, rfl, e3, ⟨o1, o2⟩, e5⟩
    left
    refine ⟨hkm, ?_⟩
    have hrdτ : kx_rd τ 12 F m := kx_rd_fr hrd (by rw [o1]) (by rw [o1]) (by rw [o1]) (by rw [o1]) (o2 12 (by decide))
    obtain ⟨hfr, hto, hl1, hl2⟩ := hw.2.2.2.1.2.2 k hkm
    obtain ⟨x18, x19, x20⟩ := hrdτ.2.2.1 k hkm
    have e18 : τ.1 18 k = F (28 + 4 * k + 0) := x18
    have e19 : τ.1 19 k = nI (F (28 + 4 * k + 1)).toNatClampNeg := (show τ.1 19 k = F (28 + 4 * k + 1) from x19).trans (kw_in_nI_of hto (by decide))
    have e20 : (τ.1 20 k).toInt64 = kx_enc (some (F (28 + 4 * k + 2)).toInt) := by rw [show τ.1 20 k = F (28 + 4 * k + 2) from x20]; exact kx_enc32 _
    have hu : (km_gr F m (-1)).2.2.2.2 k = decide (F (28 + 4 * k + 3) = 1) := by
      show decide (F (28 + 4 * k + 3) = 1 ∧ ¬ nI k = -1) = _
      rw [decide_eq_decide]
      exact ⟨fun q => q.1, fun q => ⟨q, kb_neg1 (by omega)⟩⟩
    rw [if_neg (nI_ge hkm (by omega)), kx_isOpenR hrdτ hw.2.2.2.1 hkm, Option.bind_some]
    simp only [kx_fl_0, kw_let_def, km_next]
    rw [kr_sk_s, hu]
    by_cases ho : F (28 + 4 * k + 3) = 1
    · rw [decide_eq_true ho, kn_tf, kn_tt, kn_chk (by omega) (by decide), kn_clamp (by omega), e18, kw_chk_t hfr, show τ.2 43 (F (28 + 4 * k + 0)).toNatClampNeg = kx_enc (d (F (28 + 4 * k + 0)).toNatClampNeg) by rw [o2 43 (by decide)]; exact h43 _ (kw_in_lt hfr), e20, kx_joined (kr_bd_in hd (by omega) _) (kr_bd32 _), Option.bind_some, e19]
      have hby : kr_by (km_gr F m (-1)) d k = kr_plus (d (F (28 + 4 * k + 0)).toNatClampNeg) (some (F (28 + 4 * k + 2)).toInt) := rfl
      have bby : kr_bd (kr_by (km_gr F m (-1)) d k) := fun z hz => by
        have := kr_by_in hd (hlen k hkm) z hz
        omega
      have bsk : kr_bd (kr_sk (km_gr F m (-1)) d f k (F (28 + 4 * k + 1)).toNatClampNeg) := kr_bd_in (kr_sk_in hd hf hlen k (by show k ≤ m; omega)) (by omega) _
      obtain ⟨τ2, l1, l2, l3, l4⟩ := kx_lower e3 (kw_in_lt hto) bsk bby
      rw [← hby, l1, Option.bind_some]
      dsimp only
      rw [kx_or]
      refine ⟨_, rfl, _, rfl, rfl, l2, ⟨l3.trans o1, fun q hq => (l4 q hq).trans (o2 q hq)⟩, fun q => ?_⟩
      obtain ⟨q1, q2⟩ : b = false ∧ kr_ls (kr_by (km_gr F m (-1)) d k) (kr_sk (km_gr F m (-1)) d f k (F (28 + 4 * k + 1)).toNatClampNeg) = false := by
        revert q
        cases b <;> cases kr_ls (kr_by (km_gr F m (-1)) d k) (kr_sk (km_gr F m (-1)) d f k (F (28 + 4 * k + 1)).toNatClampNeg) <;> simp
      exact (kr_ls_lw q2).trans (e5 q1)
    · rw [decide_eq_false ho, kn_ff, kn_ft]
      exact ⟨_, rfl, b, rfl, rfl, e3, ⟨o1, o2⟩, e5⟩)
  unfold fX4_stepAll
  rw [hx, Option.bind_some, e1, kn_chkB]
  exact ⟨b, x.2, rfl, e2, e3, e4⟩
theorem kx_beginRowC {σ : kw_M} {o c : Nat} (ho : o < 12) : ∃ τ, fX4_beginRow c (nI o) σ = some τ ∧ kx_rw τ c (kr_one o) ∧ kx_oL σ τ c := by
  unfold fX4_beginRow
  rw [kj_fill, Option.bind_some, kn_chk (by omega) (by decide), kn_clamp (by omega), kw_let_def, kx_row_one σ c ho]
  exact ⟨_, rfl, fun t ht => kx_row_at ht, rfl, fun q hq => kx_row_o hq⟩
theorem kx_beginRow {σ : kw_M} {o : Nat} (ho : o < 12) : ∃ τ, fX4_beginRow 43 (nI o) σ = some τ ∧ kx_rw τ 43 (kr_one o) ∧ kx_oL σ τ 43 := kx_beginRowC ho
theorem kx_foundIs {σ : kw_M} {d : kr_D} (h : kx_rw σ 44 d) : ∃ τ, fX6_foundIsKnown σ = some τ ∧ kx_rw τ 43 d ∧ kx_oL σ τ 43 := by
  unfold fX6_foundIsKnown
  rw [kw_let_def]
  refine ⟨_, rfl, fun t ht => ?_, rfl, fun q hq => kw_rl_o hq⟩
  rw [kw_rl_2]
  unfold va_cpy
  rw [if_pos (by omega), show 0 + (t - 0) = t by omega]
  exact h t ht
theorem kr_cu_s (g : kr_G) (o i : Nat) : kr_cu g o (i + 1) = kr_sk g (kr_cu g o i) (kr_cu g o i) g.1 := rfl
theorem kr_cu_fix {g : kr_G} {o i : Nat} (h : kr_cu g o (i + 1) = kr_cu g o i) : ∀ j : Nat, kr_cu g o (i + j) = kr_cu g o i
  | 0 => rfl
  | j + 1 => by
    show kr_sk g (kr_cu g o (i + j)) (kr_cu g o (i + j)) g.1 = _
    rw [kr_cu_fix h j]
    exact h
/-- only the rows of reckoning were changed -/
def kx_oK (σ τ : kw_M) : Prop := τ.1 = σ.1 ∧ ∀ q, q ≠ 43 → q ≠ 44 → τ.2 q = σ.2 q
theorem kx_fewRoads {σ : kw_M} {F : Nat → Int32} {n m o t N : Nat} (hrd : kx_rd σ 12 F m) (hw : kb_wf F n m) (ho : σ.1 1 2 = nI o) (hon : o < 12) (ht : t < 12) (hN : N ≤ 36) : ∃ τ, fX6_withFewRoads (nI t) (nI N) σ = some (kx_enc (kr_cu (km_gr F m (-1)) o N t), τ) ∧ kx_oK σ τ := by
  have hlen := km_wf_len hw.2.2.2.1 (-1)
  obtain ⟨σ1, a1, a2, a3, a4⟩ := kx_beginRow (σ := σ) hon
  obtain ⟨x, hx, x1, x2, x3⟩ := kw_for (body := fun s => bX6_withFewRoads_21 (nI t) (nI N) s.1 s.2.1 s.2.2) (fun k s => ∃ b : Bool, s.1 = kx_fl b ∧ s.2.1 = nI k ∧ kx_rw s.2.2 43 (kr_cu (km_gr F m (-1)) o k) ∧ kx_oK σ s.2.2 ∧ (b = false → ∀ j, kr_cu (km_gr F m (-1)) o (k + j) = kr_cu (km_gr F m (-1)) o k)) (fun x => kx_rw x 43 (kr_cu (km_gr F m (-1)) o N) ∧ kx_oK σ x) N (by omega) (s0 := ((1 : Int32), (0 : Int32), σ1)) ⟨true, rfl, rfl, a2, ⟨a3, fun q h1 _ => a4 q h1⟩, fun q => by cases q⟩ (fun k s hk hp => by
    obtain ⟨v4, v5, τ⟩ := s
    obtain ⟨b, e1, e2, e3, ⟨o1, o2⟩, e5⟩ := hp
    dsimp only at e1 e2 e3 o1 o2 e5 ⊢
    subst e1 e2
    unfold bX6_withFewRoads_21
    by_cases hkN : k < N
    case neg =>
      right
      obtain rfl : k = N := by omega
      rw [if_pos (nI_le (Nat.le_refl k) (by omega))]
      exact ⟨_, rfl, e3, o1, o2⟩
    rw [if_neg (nI_ge hkN (by omega))]
    simp only [kx_fl_0]
    cases b with
    | false =>
      right
      rw [kn_ff]
      refine ⟨_, rfl, ?_, o1, o2⟩
      have h := e5 rfl (N - k)
      rw [show k + (N - k) = N by omega] at h
      rw [h]
      exact e3
    | true =>
      left
      refine ⟨hkN, ?_⟩
      rw [kn_tf, kw_let_def]
      have hcin := kr_cu_in (g := km_gr F m (-1)) (o := o) hlen k (by omega)
      have hrdτ : kx_rd (kw_rl τ 44 (va_cpy (τ.2 43) (τ.2 44) 0 0 12)) 12 F m := kx_rd_fr hrd (by rw [kw_rl_1, o1]) (by rw [kw_rl_1, o1]) (by rw [kw_rl_1, o1]) (by rw [kw_rl_1, o1]) (by rw [kw_rl_o (by decide)]; exact o2 12 (by decide) (by decide))
      have h44 : kx_rw (kw_rl τ 44 (va_cpy (τ.2 43) (τ.2 44) 0 0 12)) 44 (kr_cu (km_gr F m (-1)) o k) := fun u hu => by
        rw [kw_rl_2]
        unfold va_cpy
        rw [if_pos (by omega), show 0 + (u - 0) = u by omega]
        exact e3 u hu
      have h43 : kx_rw (kw_rl τ 44 (va_cpy (τ.2 43) (τ.2 44) 0 0 12)) 43 (kr_cu (km_gr F m (-1)) o k) := fun u hu => by
        rw [kw_rl_o (by decide)]
        exact e3 u hu
      obtain ⟨b', τ2, s1, s2, ⟨s3, s3'⟩, s4⟩ := kx_stepAll (n := n) hrdτ hw h43 h44 hcin (kr_in_mono hcin (by decide)) (by decide)
      obtain ⟨τ3, f1, f2, f3, f4⟩ := kx_foundIs s2
      rw [s1, Option.bind_some]
      dsimp only
      rw [f1, Option.bind_some, kw_let_def, km_next]
      refine ⟨_, rfl, b', rfl, rfl, f2, ⟨?_, fun q h1 h2 => ?_⟩, fun q => ?_⟩
      · exact f3.trans (s3.trans o1)
      · dsimp only
        rw [f4 q h1, s3' q h2, kw_rl_o h2]
        exact o2 q h1 h2
      · have hfix : kr_cu (km_gr F m (-1)) o (k + 1) = kr_cu (km_gr F m (-1)) o k := s4 q
        intro j
        rw [show k + 1 + j = k + (j + 1) by omega, kr_cu_fix hfix, hfix])
  unfold fX6_withFewRoads
  rw [ho, a1, Option.bind_some, hx, Option.bind_some, kn_chk (by omega) (by decide), kn_clamp (by omega), x1 t ht]
  exact ⟨x, rfl, x2, x3⟩
def km_rw (σ : kw_M) (c : Nat) (d : kr_D) : Prop := ∀ t, t < 12 → σ.2 c t = km_enc (d t)
theorem km_stands {σ : kw_M} {o : Nat} (ho : o < 12) : ∃ τ, fX10_stands (nI o) σ = some τ ∧ km_rw τ 2 (kr_one o) ∧ kx_oL σ τ 2 := by
  obtain ⟨x, hx, h1, h2⟩ := kw_for (body := fun s => bX10_stands_2 (nI o) s.1 s.2) (fun k s => s.1 = nI k ∧ (∀ t, t < k → s.2.2 2 t = km_enc (kr_one o t)) ∧ kx_oL σ s.2 2) (fun x => km_rw x 2 (kr_one o) ∧ kx_oL σ x 2) 12 (by decide) (s0 := ((0 : Int32), σ)) ⟨rfl, fun t ht => absurd ht (Nat.not_lt_zero _), rfl, fun _ _ => rfl⟩ (fun k s hk hp => by
    obtain ⟨v, τ⟩ := s
    obtain ⟨rfl, h1, o1, o2⟩ := hp
    dsimp only at h1 o1 o2 ⊢
    unfold bX10_stands_2
    by_cases hk2 : k < 12
    case neg =>
      right
      obtain rfl : k = 12 := by omega
      rw [if_pos (by decide)]
      exact ⟨_, rfl, h1, o1, o2⟩
    left
    refine ⟨hk2, ?_⟩
    rw [kn_12, if_neg (nI_ge hk2 (by decide))]
    simp (disch := omega) only [kn_eq, kn_chk, kn_clamp, kw_let_def, km_next]
    have fin : ∀ v : Int64, v = km_enc (kr_one o k) → ∃ t, (some (Sum.inl (nI (k + 1), kw_sl τ 2 k v)) : Option ((Int32 × kw_M) ⊕ kw_M)) = some (Sum.inl t) ∧ t.1 = nI (k + 1) ∧ (∀ u, u < k + 1 → t.2.2 2 u = km_enc (kr_one o u)) ∧ kx_oL σ t.2 2 := fun v hv => by
      refine ⟨_, rfl, rfl, fun u hu => ?_, o1, fun q hq => (kw_sl_o hq).trans (o2 q hq)⟩
      dsimp only
      rw [kw_sl_2]
      by_cases e : u = k
      · rw [e, kw_updL_e, hv]
      · rw [kw_updL_n e]; exact h1 u (by omega)
    by_cases e : k = o
    · rw [if_pos e]
      exact fin 0 (by unfold kr_one; rw [if_pos e]; rfl)
    · rw [if_neg e]
      exact fin _ (by unfold kr_one; rw [if_neg e]; rfl))
  unfold fX10_stands
  rw [hx]
  exact ⟨x, rfl, h1, h2⟩
/-- the reference's rows far and then were changed -/
def km_oK (σ τ : kw_M) : Prop := τ.1 = σ.1 ∧ ∀ q, q ≠ 2 → q ≠ 18 → τ.2 q = σ.2 q
theorem km_goesOn {σ : kw_M} {n m : Nat} {d : kr_D} {B : Int} (hw : kb_wf (σ.1 1) n m) (h2 : km_rw σ 2 d) (hd : kr_in d B) (hB0 : 0 ≤ B) (hB : B ≤ 900000000000000) : ∃ τ, fX10_goesOn σ = some τ ∧ km_rw τ 2 (kr_sk (km_gr (σ.1 1) m (-1)) d (fun _ => none) m) ∧ km_oK σ τ := by
  have hm := hw.2.2.2.1.1
  have hlen := km_wf_len hw.2.2.2.1 (-1)
  obtain ⟨x, hx, hx1, hx2, hx3⟩ := kw_for (body := fun s => bX10_goesOn_2 s.1 s.2) (fun k s => s.1 = nI k ∧ (∀ t, t < k → s.2.2 18 t = 900000000000000000) ∧ kx_oL σ s.2 18) (fun x => (∀ t, t < 12 → x.2 18 t = 900000000000000000) ∧ kx_oL σ x 18) 12 (by decide) (s0 := ((0 : Int32), σ)) ⟨rfl, fun t ht => absurd ht (Nat.not_lt_zero _), rfl, fun _ _ => rfl⟩ (fun k s hk hp => by
    obtain ⟨v, τ⟩ := s
    obtain ⟨rfl, h1, o1, o2⟩ := hp
    dsimp only at h1 o1 o2 ⊢
    unfold bX10_goesOn_2
    by_cases hk2 : k < 12
    case neg =>
      right
      obtain rfl : k = 12 := by omega
      rw [if_pos (by decide)]
      exact ⟨_, rfl, h1, o1, o2⟩
    left
    refine ⟨hk2, ?_⟩
    rw [kn_12, if_neg (nI_ge hk2 (by decide))]
    simp (disch := omega) only [kn_chk, kn_clamp, kw_let_def, km_next]
    refine ⟨_, rfl, rfl, fun u hu => ?_, o1, fun q hq => (kw_sl_o hq).trans (o2 q hq)⟩
    dsimp only
    rw [kw_sl_2]
    by_cases e : u = k
    · rw [e, kw_updL_e]
    · rw [kw_updL_n e]; exact h1 u (by omega))
  obtain ⟨y, hy, hy1, hy2, hy3⟩ := kw_for (body := fun s => bX10_goesOn_25 s.1 s.2) (fun k s => s.1 = nI k ∧ km_rw s.2 18 (kr_sk (km_gr (σ.1 1) m (-1)) d (fun _ => none) k) ∧ kx_oL σ s.2 18) (fun x => km_rw x 18 (kr_sk (km_gr (σ.1 1) m (-1)) d (fun _ => none) m) ∧ kx_oL σ x 18) m (by omega) (s0 := ((0 : Int32), x)) ⟨rfl, fun t ht => hx1 t ht, hx2, hx3⟩ (fun k s hk hp => by
    obtain ⟨v, τ⟩ := s
    obtain ⟨rfl, e3, o1, o2⟩ := hp
    dsimp only at e3 o1 o2 ⊢
    unfold bX10_goesOn_25
    rw [show τ.1 1 1 = nI m by rw [o1]; exact hw.2.2.2.1.2.1]
    by_cases hkm : k < m
    case neg =>
      right
      obtain rfl : k = m := by omega
      rw [if_pos (nI_le (Nat.le_refl k) (by omega))]
      exact ⟨_, rfl, e3, o1, o2⟩
    left
    refine ⟨hkm, ?_⟩
    obtain ⟨hfr, hto, hl1, hl2⟩ := hw.2.2.2.1.2.2 k hkm
    have hu : (km_gr (σ.1 1) m (-1)).2.2.2.2 k = decide (σ.1 1 (28 + 4 * k + 3) = 1) := by
      show decide (σ.1 1 (28 + 4 * k + 3) = 1 ∧ ¬ nI k = -1) = _
      rw [decide_eq_decide]
      exact ⟨fun q => q.1, fun q => ⟨q, kb_neg1 (by omega)⟩⟩
    have hd2 : τ.2 2 (σ.1 1 (28 + 4 * k + 0)).toNatClampNeg = km_enc (d (σ.1 1 (28 + 4 * k + 0)).toNatClampNeg) := by rw [o2 2 (by decide)]; exact h2 _ (kw_in_lt hfr)
    have hd18 : τ.2 18 (σ.1 1 (28 + 4 * k + 1)).toNatClampNeg = km_enc (kr_sk (km_gr (σ.1 1) m (-1)) d (fun _ => none) k (σ.1 1 (28 + 4 * k + 1)).toNatClampNeg) := e3 _ (kw_in_lt hto)
    have bsk : kr_bd (kr_sk (km_gr (σ.1 1) m (-1)) d (fun _ => none) k (σ.1 1 (28 + 4 * k + 1)).toNatClampNeg) := kr_bd_in (kr_sk_in hd (fun t z hz => by cases hz) hlen k (by show k ≤ m; omega)) (by omega) _
    have bd := kr_bd_in hd (by omega) (σ.1 1 (28 + 4 * k + 0)).toNatClampNeg
    rw [if_neg (nI_ge hkm (by omega)), km_isOpen (by omega), Option.bind_some, km_of0 (by omega), km_of1 (by omega), km_of2 (by omega), o1]
    simp only [Option.bind_some, kw_let_def, km_next, kw_chk_t hfr, kw_chk_t hto, hd2, hd18, km_enc_e bd]
    rw [kr_sk_s, hu]
    by_cases ho : σ.1 1 (28 + 4 * k + 3) = 1
    · rw [if_pos ho, if_neg (show ¬ (1 : Int32) = 0 by decide), decide_eq_true ho, kn_tt]
      have hby : kr_by (km_gr (σ.1 1) m (-1)) d k = kr_plus (d (σ.1 1 (28 + 4 * k + 0)).toNatClampNeg) (some (σ.1 1 (28 + 4 * k + 2)).toInt) := rfl
      have htg : (km_gr (σ.1 1) m (-1)).2.2.1 k = (σ.1 1 (28 + 4 * k + 1)).toNatClampNeg := rfl
      rw [hby, htg]
      cases hq : d (σ.1 1 (28 + 4 * k + 0)).toNatClampNeg with
      | none =>
        rw [if_pos rfl, show kr_plus none (some (σ.1 1 (28 + 4 * k + 2)).toInt) = none from rfl, kr_ls_lw rfl]
        exact ⟨_, rfl, rfl, e3, o1, o2⟩
      | some z =>
        have hz := hd _ _ hq
        rw [if_neg (by simp), show km_enc (some z) = Int64.ofInt z from rfl, km_add (by omega) (by omega), show kr_plus (some z) (some (σ.1 1 (28 + 4 * k + 2)).toInt) = some (z + (σ.1 1 (28 + 4 * k + 2)).toInt) from rfl]
        have bz : kr_bd (some (z + (σ.1 1 (28 + 4 * k + 2)).toInt)) := fun w hw => by cases hw; omega
        simp only [show Int64.ofInt (z + (σ.1 1 (28 + 4 * k + 2)).toInt) = km_enc (some (z + (σ.1 1 (28 + 4 * k + 2)).toInt)) from rfl, km_enc_le bsk bz]
        cases hl : kr_ls (some (z + (σ.1 1 (28 + 4 * k + 2)).toInt)) (kr_sk (km_gr (σ.1 1) m (-1)) d (fun _ => none) k (σ.1 1 (28 + 4 * k + 1)).toNatClampNeg) with
        | false =>
          rw [kn_ff, kr_ls_lw hl]
          exact ⟨_, rfl, rfl, e3, o1, o2⟩
        | true =>
          rw [kn_tf]
          refine ⟨_, rfl, rfl, fun q hq' => ?_, o1, fun q hq' => (kw_sl_o hq').trans (o2 q hq')⟩
          dsimp only
          rw [kw_sl_2]
          unfold kr_lw
          by_cases e : q = (σ.1 1 (28 + 4 * k + 1)).toNatClampNeg
          · rw [if_pos e, e, kw_updL_e]
            unfold kr_mn
            rw [hl, kn_tt]
          · rw [kw_updL_n e, if_neg e]
            exact e3 q hq'
    · rw [if_neg ho, if_pos rfl, decide_eq_false ho, kn_ft]
      exact ⟨_, rfl, rfl, e3, o1, o2⟩)
  obtain ⟨w, hw', w1, w2, w3⟩ := kw_for (body := fun s => bX10_goesOn_120 s.1 s.2) (fun k s => s.1 = nI k ∧ (∀ t, t < k → s.2.2 2 t = km_enc (kr_sk (km_gr (σ.1 1) m (-1)) d (fun _ => none) m t)) ∧ s.2.2 18 = y.2 18 ∧ km_oK σ s.2) (fun x => km_rw x 2 (kr_sk (km_gr (σ.1 1) m (-1)) d (fun _ => none) m) ∧ km_oK σ x) 12 (by decide) (s0 := ((0 : Int32), y)) ⟨rfl, fun t ht => absurd ht (Nat.not_lt_zero _), rfl, hy2, fun q _ h18 => hy3 q h18⟩ (fun k s hk hp => by
    obtain ⟨v, τ⟩ := s
    obtain ⟨rfl, h1, h18, o1, o2⟩ := hp
    dsimp only at h1 h18 o1 o2 ⊢
    unfold bX10_goesOn_120
    by_cases hk2 : k < 12
    case neg =>
      right
      obtain rfl : k = 12 := by omega
      rw [if_pos (by decide)]
      exact ⟨_, rfl, h1, o1, o2⟩
    left
    refine ⟨hk2, ?_⟩
    rw [kn_12, if_neg (nI_ge hk2 (by decide))]
    simp (disch := omega) only [kn_chk, kn_clamp, kw_let_def, km_next]
    refine ⟨_, rfl, rfl, fun u hu => ?_, ?_, o1, fun q hq h18' => (kw_sl_o hq).trans (o2 q hq h18')⟩
    · dsimp only
      rw [kw_sl_2]
      by_cases e : u = k
      · rw [e, kw_updL_e, h18]; exact hy1 k hk2
      · rw [kw_updL_n e]; exact h1 u (by omega)
    · exact (kw_sl_o (by decide)).trans h18)
  unfold fX10_goesOn
  rw [hx, Option.bind_some, hy, Option.bind_some, hw', Option.bind_some]
  exact ⟨w, rfl, w1, w2, w3⟩
theorem ko_hops {σX σM : kw_M} {a1 a2 : Int32} (hR : kw_Rel σX σM) : ∃ a τX τM, fX9_hops a1 a2 σX = some (a, τX) ∧ fX10_hops a1 a2 σM = some (a, τM) ∧ kw_Rel τX τM := by
  obtain ⟨n, m, o, hok, hsh, hkp, htp, hpr⟩ := hR
  have same : kw_Rel σX σM := ⟨n, m, o, hok, hsh, hkp, htp, hpr⟩
  have h12 := hok.1.2.2.1
  have hon := hok.2.2.1
  have hnX : σX.1 12 0 = nI n := hsh.1.1.trans hok.1.1
  have hlen := km_wf_len hok.1.2.2.2.1 (-1)
  unfold fX9_hops fX10_hops
  rw [kx_hasTown hnX h12, km_isTown hok.1.1 h12, km_in, Int32.toInt_toInt64]
  simp only [Option.bind_some, kx_fl_0, show (0 : Int64).toInt = 0 by decide, show (36 : Int64).toInt = 36 by decide, Int32.lt_iff_toInt_lt, Int32.le_iff_toInt_le, show (0 : Int32).toInt = 0 by decide, show (36 : Int32).toInt = 36 by decide]
  by_cases t1 : 0 ≤ a1.toInt ∧ a1.toInt < n
  case neg =>
    simp only [decide_eq_false t1, kn_ff]
    exact ⟨_, _, _, rfl, rfl, same⟩
  simp only [decide_eq_true t1, kn_tf]
  by_cases t2 : 0 ≤ a2.toInt ∧ a2.toInt ≤ 36
  case neg =>
    simp only [decide_eq_false t2, kn_ff]
    refine ⟨_, _, _, ?_, rfl, same⟩
    by_cases q : a2.toInt < 0
    · rw [if_pos q]
    · rw [if_neg q, if_neg (by omega)]
  simp only [decide_eq_true t2, kn_tf]
  rw [if_neg (by omega), if_pos (by omega)]
  obtain ⟨t, ht, rfl⟩ := kw_arg (by omega) t1
  obtain ⟨N, hN, rfl⟩ := kw_arg (x := a2) (n := 37) (by omega) ⟨t2.1, by omega⟩
  obtain ⟨τ, f1, f2, f3⟩ := kx_fewRoads (t := t) (N := N) hsh.1 hok.1 (hsh.2.1.1.trans hok.2.1) (by omega) (by omega) (by omega)
  obtain ⟨ρ1, s1, s2, s3, s4⟩ := km_stands (σ := σM) (o := o) (by omega)
  obtain ⟨x, hx, x1, x2, x3⟩ := kw_for (body := fun s => bX10_hops_44 (nI t) (nI N) s.1 s.2.1 s.2.2) (fun k s => s.1 = km_enc (kr_am (km_gr (σM.1 1) m (-1)) o t k) ∧ s.2.1 = nI k ∧ km_rw s.2.2 2 (kr_ex (km_gr (σM.1 1) m (-1)) o k) ∧ s.2.2.1 = σM.1) (fun x => x.1 = km_enc (kr_am (km_gr (σM.1 1) m (-1)) o t N) ∧ x.2.1 = σM.1 ∧ True) N (by omega) (s0 := (km_enc (kr_one o t), (0 : Int32), ρ1)) ⟨rfl, rfl, s2, s3⟩ (fun k s hk hp => by
    obtain ⟨v3, v5, ρ⟩ := s
    obtain ⟨e1, e2, e3, e4⟩ := hp
    dsimp only at e1 e2 e3 e4 ⊢
    subst e1 e2
    unfold bX10_hops_44
    by_cases hkN : k < N
    case neg =>
      right
      obtain rfl : k = N := by omega
      rw [if_pos (nI_le (Nat.le_refl k) (by omega))]
      exact ⟨_, rfl, rfl, e4, trivial⟩
    left
    refine ⟨hkN, ?_⟩
    obtain ⟨ρ2, g1, g2, g3, g4⟩ := km_goesOn (σ := ρ) (n := n) (m := m) (d := kr_ex (km_gr (σM.1 1) m (-1)) o k) (B := 400000000000) (by rw [e4]; exact hok.1) e3 (kr_ex_in hlen k (by omega)) (by decide) (by decide)
    rw [e4] at g2 g3
    have g2' : km_rw ρ2 2 (kr_ex (km_gr (σM.1 1) m (-1)) o (k + 1)) := g2
    have bam : kr_bd (kr_am (km_gr (σM.1 1) m (-1)) o t k) := by rw [← kr_cu_am]; exact kr_bd_in (kr_cu_in hlen k (by omega)) (by decide) t
    have bex : kr_bd (kr_ex (km_gr (σM.1 1) m (-1)) o (k + 1) t) := kr_bd_in (kr_ex_in hlen (k + 1) (by omega)) (by decide) t
    rw [if_neg (nI_ge hkN (by omega)), g1, Option.bind_some, kn_chk (by omega) (by decide), kn_clamp (by omega), g2' t (by omega)]
    simp only [kw_let_def, km_next, km_enc_le bam bex]
    have es : kr_am (km_gr (σM.1 1) m (-1)) o t (k + 1) = kr_mn (kr_am (km_gr (σM.1 1) m (-1)) o t k) (kr_ex (km_gr (σM.1 1) m (-1)) o (k + 1) t) := rfl
    rw [es]
    unfold kr_mn
    cases hl : kr_ls (kr_ex (km_gr (σM.1 1) m (-1)) o (k + 1) t) (kr_am (km_gr (σM.1 1) m (-1)) o t k) with
    | false => rw [kn_ff, kn_ft]; exact ⟨_, rfl, rfl, rfl, g2', g3⟩
    | true => rw [kn_tf, kn_tt]; exact ⟨_, rfl, rfl, rfl, g2', g3⟩)
  rw [f1, Option.bind_some, hok.2.1, s1, Option.bind_some, kn_chk (by omega) (by decide), kw_let_def, kn_clamp (by omega), s2 t (by omega), hx, Option.bind_some, x1, ← kr_cu_am, km_told (kr_bd_in (kr_cu_in hlen N (by omega)) (by decide) t), Option.bind_some]
  refine ⟨_, _, _, rfl, rfl, kw_Rel_a hok hsh hkp htp ⟨?_, ?_, ?_⟩ (km_q_e x2)⟩
  · exact ⟨fun c hc => by rw [f2], fun c hc => f3 c (by omega) (by omega)⟩
  · exact ⟨fun c hc => by rw [f2], fun c hc => f3 c (by omega) (by omega)⟩
  · exact kx_pr_eq hpr (by rw [f2]) (f3 39 (by decide) (by decide)) (fun _ _ _ => rfl)
