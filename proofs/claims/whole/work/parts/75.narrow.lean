/-! narrow: the class's rounds, the reference's search, the same answer. -/
theorem kr_nx_ls {g : kr_G} {d : kr_D} {r : Nat} (hu : g.2.2.2.2 r = true) {a : Int} (hd : d (g.2.1 r) = some a) (h : kr_ls (some (if g.2.2.2.1 r < a then a else g.2.2.2.1 r)) (d (g.2.2.1 r)) = false) : kr_nx g d r = d := by
  unfold kr_nx
  rw [if_pos hu, hd]
  exact kr_ls_lw h
theorem kr_nb_fix {g : kr_G} {o i : Nat} (h : kr_nb g o (i + 1) = kr_nb g o i) : ∀ j : Nat, kr_nb g o (i + j) = kr_nb g o i
  | 0 => rfl
  | j + 1 => by
    show kr_nr g (kr_nb g o (i + j)) g.1 = _
    rw [kr_nb_fix h j]
    exact h
theorem kr_nr_in {g : kr_G} {d : kr_D} (hl : ∀ r, r < g.1 → -1000000000 ≤ g.2.2.2.1 r ∧ g.2.2.2.1 r ≤ 1000000000) (hd : kr_in d 1000000000) : ∀ k : Nat, k ≤ g.1 → kr_in (kr_nr g d k) 1000000000
  | 0, _ => hd
  | k + 1, hk => by
    have ih := kr_nr_in hl hd k (by omega)
    show kr_in (kr_nx g (kr_nr g d k) k) 1000000000
    unfold kr_nx
    by_cases hu : g.2.2.2.2 k = true
    · rw [if_pos hu]
      cases hq : kr_nr g d k (g.2.1 k) with
      | none => exact ih
      | some a =>
        refine kr_lw_in ih (fun z hz => ?_)
        have := Option.some.inj hz
        have h1 := ih _ _ hq
        have h2 := hl k (by omega)
        rw [← this]
        by_cases w : g.2.2.2.1 k < a
        · rw [if_pos w]; omega
        · rw [if_neg w]; omega
    · rw [if_neg hu]; exact ih
theorem kx_narrowRow {σ : kw_M} {F : Nat → Int32} {n m : Nat} {v2 v5 : Int32} {d : kr_D} (hrd : kx_rd σ 12 F m) (hw : kb_wf F n m) (h43 : kx_rw σ 43 d) (hd : kr_in d 1000000000) : ∃ b τ, kw_loop (fun s => bX6_narrowest_55 v2 v5 s.1 s.2.1 s.2.2) kw_F ((0 : Int32), (0 : Int32), σ) = some (kx_fl b, τ) ∧ kx_rw τ 43 (kr_nr (km_gr F m (-1)) d m) ∧ kx_oL σ τ 43 ∧ (b = false → kr_nr (km_gr F m (-1)) d m = d) := by
  have hm := hw.2.2.2.1.1
  have hlen := km_wf_len hw.2.2.2.1 (-1)
  obtain ⟨x, hx, b, e1, e2, e3, e4⟩ := kw_for (body := fun s => bX6_narrowest_55 v2 v5 s.1 s.2.1 s.2.2) (fun k s => ∃ b : Bool, s.1 = kx_fl b ∧ s.2.1 = nI k ∧ kx_rw s.2.2 43 (kr_nr (km_gr F m (-1)) d k) ∧ kx_oL σ s.2.2 43 ∧ (b = false → kr_nr (km_gr F m (-1)) d k = d)) (fun x => ∃ b : Bool, x.1 = kx_fl b ∧ kx_rw x.2 43 (kr_nr (km_gr F m (-1)) d m) ∧ kx_oL σ x.2 43 ∧ (b = false → kr_nr (km_gr F m (-1)) d m = d)) m (by omega) (s0 := ((0 : Int32), (0 : Int32), σ)) ⟨false, rfl, rfl, h43, ⟨rfl, fun _ _ => rfl⟩, fun _ => rfl⟩ (fun k s hk hp => by
    obtain ⟨v3, v4, τ⟩ := s
    obtain ⟨b, e1, e2, e3, ⟨o1, o2⟩, e5⟩ := hp
    dsimp only at e1 e2 e3 o1 o2 e5 ⊢
    subst e1 e2
    unfold bX6_narrowest_55
    rw [show τ.1 12 1 = nI m by rw [o1]; exact hrd.2.1.trans hw.2.2.2.1.2.1]
    by_cases hkm : k < m
    case neg =>
      right
      obtain rfl : k = m := by omega
      rw [if_pos (nI_le (Nat.le_refl k) (by omega))]
      exact ⟨_, rfl, b, rfl, e3, ⟨o1, o2⟩, e5⟩
    left
    refine ⟨hkm, ?_⟩
    have hrdτ : kx_rd τ 12 F m := kx_rd_fr hrd (by rw [o1]) (by rw [o1]) (by rw [o1]) (by rw [o1]) (o2 12 (by decide))
    obtain ⟨hfr, hto, hl1, hl2⟩ := hw.2.2.2.1.2.2 k hkm
    obtain ⟨x18, x19, x20⟩ := hrdτ.2.2.1 k hkm
    have e18 : τ.1 18 k = F (28 + 4 * k + 0) := x18
    have e19 : τ.1 19 k = nI (F (28 + 4 * k + 1)).toNatClampNeg := (show τ.1 19 k = F (28 + 4 * k + 1) from x19).trans (kw_in_nI_of hto (by decide))
    have e20 : (τ.1 20 k).toInt64 = kx_enc (some (F (28 + 4 * k + 2)).toInt) := by rw [show τ.1 20 k = F (28 + 4 * k + 2) from x20]; exact kx_enc32 _
    have hu : (km_gr F m (-1)).2.2.2.2 k = decide (F (28 + 4 * k + 3) = 1) := by
      show decide (F (28 + 4 * k + 3) = 1 ∧ ¬ nI k = -1) = _
      rw [decide_eq_decide]
      exact ⟨fun q => q.1, fun q => ⟨q, kb_neg1 (by omega)⟩⟩
    have hin := kr_nr_in hlen hd k (by show k ≤ m; omega)
    have hbd := fun t => kr_bd_in hin (by decide) t
    have es : kr_nr (km_gr F m (-1)) d (k + 1) = kr_nx (km_gr F m (-1)) (kr_nr (km_gr F m (-1)) d k) k := rfl
    rw [if_neg (nI_ge hkm (by omega)), kn_chk (by omega) (by decide), kn_clamp (by omega), e18, kw_chk_t hfr, kx_isOpenR hrdτ hw.2.2.2.1 hkm, kw_let_def, Option.bind_some, e3 _ (kw_in_lt hfr), es]
    simp only [kx_fl_0, kw_let_def, km_next, kx_enc_e (hbd _)]
    by_cases ho : F (28 + 4 * k + 3) = 1
    · rw [decide_eq_true ho, kn_tf]
      rw [decide_eq_true ho] at hu
      have hfrm : (km_gr F m (-1)).2.1 k = (F (28 + 4 * k + 0)).toNatClampNeg := rfl
      cases hq : kr_nr (km_gr F m (-1)) d k (F (28 + 4 * k + 0)).toNatClampNeg with
      | none =>
        rw [if_pos rfl]
        have : kr_nx (km_gr F m (-1)) (kr_nr (km_gr F m (-1)) d k) k = kr_nr (km_gr F m (-1)) d k := by
          unfold kr_nx
          rw [if_pos hu, hfrm, hq]
        rw [this]
        exact ⟨_, rfl, b, rfl, rfl, e3, ⟨o1, o2⟩, e5⟩
      | some a =>
        have ha := hin _ _ hq
        have ba : kr_bd (some a) := fun z hz => by cases hz; omega
        rw [if_neg (by simp), e20]
        have emax : (if kx_enc (some (F (28 + 4 * k + 2)).toInt) < kx_enc (some a) then kx_enc (some a) else kx_enc (some (F (28 + 4 * k + 2)).toInt)) = kx_enc (some (if (F (28 + 4 * k + 2)).toInt < a then a else (F (28 + 4 * k + 2)).toInt)) := by
          simp only [Int64.lt_iff_toInt_lt, kx_enc_i ba, kx_enc_i (kr_bd32 _)]
          by_cases w : (F (28 + 4 * k + 2)).toInt < a
          · rw [if_pos w, if_pos w]
          · rw [if_neg w, if_neg w]
        have bm : kr_bd (some (if (F (28 + 4 * k + 2)).toInt < a then a else (F (28 + 4 * k + 2)).toInt)) := by
          by_cases w : (F (28 + 4 * k + 2)).toInt < a
          · rw [if_pos w]; exact ba
          · rw [if_neg w]; exact kr_bd32 _
        obtain ⟨τ2, l1, l2, l3, l4⟩ := kx_lower (x := some (if (F (28 + 4 * k + 2)).toInt < a then a else (F (28 + 4 * k + 2)).toInt)) e3 (kw_in_lt hto) (hbd _) bm
        rw [emax, e19, l1, Option.bind_some]
        dsimp only
        rw [kx_or]
        have enx : kr_nx (km_gr F m (-1)) (kr_nr (km_gr F m (-1)) d k) k = kr_lw (kr_nr (km_gr F m (-1)) d k) (F (28 + 4 * k + 1)).toNatClampNeg (some (if (F (28 + 4 * k + 2)).toInt < a then a else (F (28 + 4 * k + 2)).toInt)) := by
          unfold kr_nx
          rw [if_pos hu, hfrm, hq]
          rfl
        rw [enx]
        refine ⟨_, rfl, _, rfl, rfl, l2, ⟨l3.trans o1, fun q hq' => (l4 q hq').trans (o2 q hq')⟩, fun q => ?_⟩
        obtain ⟨q1, q2⟩ : b = false ∧ kr_ls (some (if (F (28 + 4 * k + 2)).toInt < a then a else (F (28 + 4 * k + 2)).toInt)) (kr_nr (km_gr F m (-1)) d k (F (28 + 4 * k + 1)).toNatClampNeg) = false := by
          revert q
          cases b <;> cases kr_ls (some (if (F (28 + 4 * k + 2)).toInt < a then a else (F (28 + 4 * k + 2)).toInt)) (kr_nr (km_gr F m (-1)) d k (F (28 + 4 * k + 1)).toNatClampNeg) <;> simp
        exact (kr_ls_lw q2).trans (e5 q1)
    · rw [decide_eq_false ho, kn_ff]
      have : kr_nx (km_gr F m (-1)) (kr_nr (km_gr F m (-1)) d k) k = kr_nr (km_gr F m (-1)) d k := by
        unfold kr_nx
        rw [hu, decide_eq_false ho, kn_ft]
      rw [this]
      exact ⟨_, rfl, b, rfl, rfl, e3, ⟨o1, o2⟩, e5⟩)
  exact ⟨b, x.2, by rw [hx, ← e1], e2, e3, e4⟩
theorem kx_narrow {σ : kw_M} {F : Nat → Int32} {n m o t : Nat} (hok : kb_ok F n m o) (hsh : kx_sh σ 1 12 F n m o) (ht : t < n) : ∃ τ, fX6_narrowest (nI t) σ = some (kx_enc (if t = o then none else kr_nb (km_gr F m (-1)) o n t), τ) ∧ kx_oL σ τ 43 := by
  have h12 := hok.1.2.2.1
  have hon := hok.2.2.1
  have hlen := km_wf_len hok.1.2.2.2.1 (-1)
  have hnX : σ.1 12 0 = nI n := hsh.1.1.trans hok.1.1
  have hoX : σ.1 1 2 = nI o := hsh.2.1.1.trans hok.2.1
  obtain ⟨σ1, a1, a2, a3, a4⟩ := kx_beginRow (σ := σ) (o := o) (by omega)
  have base : kx_rw (kw_sl σ1 43 o (-1000000000)) 43 (kr_b0 o) := fun u hu => by
    rw [kw_sl_2]
    unfold kr_b0
    by_cases e : u = o
    · rw [if_pos e, e, kw_updL_e]; rfl
    · rw [if_neg e, kw_updL_n e, a2 u hu]
      unfold kr_one
      rw [if_neg e]
  obtain ⟨x, hx, x1, x2⟩ := kw_for (body := fun s => bX6_narrowest_35 (nI t) s.1 s.2.1 s.2.2) (fun k s => ∃ b : Bool, s.1 = kx_fl b ∧ s.2.1 = nI k ∧ kx_rw s.2.2 43 (kr_nb (km_gr F m (-1)) o k) ∧ kx_oL σ s.2.2 43 ∧ (b = false → ∀ j, kr_nb (km_gr F m (-1)) o (k + j) = kr_nb (km_gr F m (-1)) o k)) (fun x => kx_rw x 43 (kr_nb (km_gr F m (-1)) o n) ∧ kx_oL σ x 43) n (by omega) (s0 := ((1 : Int32), (0 : Int32), kw_sl σ1 43 o (-1000000000))) ⟨true, rfl, rfl, base, ⟨a3, fun q hq => (kw_sl_o hq).trans (a4 q hq)⟩, fun q => by cases q⟩ (fun k s hk hp => by
    obtain ⟨v4, v5, τ⟩ := s
    obtain ⟨b, e1, e2, e3, ⟨o1, o2⟩, e5⟩ := hp
    dsimp only at e1 e2 e3 o1 o2 e5 ⊢
    subst e1 e2
    unfold bX6_narrowest_35
    rw [show τ.1 12 0 = nI n by rw [o1]; exact hnX]
    by_cases hkn : k < n
    case neg =>
      right
      obtain rfl : k = n := by omega
      rw [if_pos (nI_le (Nat.le_refl k) (by omega))]
      exact ⟨_, rfl, e3, o1, o2⟩
    rw [if_neg (nI_ge hkn (by omega))]
    simp only [kx_fl_0]
    cases b with
    | false =>
      right
      rw [kn_ff]
      refine ⟨_, rfl, ?_, o1, o2⟩
      have h := e5 rfl (n - k)
      rw [show k + (n - k) = n by omega] at h
      rw [h]
      exact e3
    | true =>
      left
      refine ⟨hkn, ?_⟩
      have hin : kr_in (kr_nb (km_gr F m (-1)) o k) 1000000000 := fun u z hz => ((kr_nb_inv (o := o) hlen k).2 u z hz).1
      obtain ⟨b', τ2, s1, s2, ⟨s3, s3'⟩, s4⟩ := kx_narrowRow (n := n) (v2 := nI t) (v5 := nI k) (kx_rd_fr hsh.1 (by rw [o1]) (by rw [o1]) (by rw [o1]) (by rw [o1]) (o2 12 (by decide))) hok.1 e3 hin
      rw [kn_tf, s1, Option.bind_some]
      dsimp only
      rw [kw_let_def, km_next]
      refine ⟨_, rfl, b', rfl, rfl, s2, ⟨s3.trans o1, fun q hq => (s3' q hq).trans (o2 q hq)⟩, fun q => ?_⟩
      have hfix : kr_nb (km_gr F m (-1)) o (k + 1) = kr_nb (km_gr F m (-1)) o k := s4 q
      intro j
      rw [show k + 1 + j = k + (j + 1) by omega, kr_nb_fix hfix, hfix])
  unfold fX6_narrowest jX6_narrowest_140
  rw [hoX, a1, Option.bind_some, show σ1.1 1 2 = nI o by rw [a3]; exact hoX, kn_chk (by omega) (by decide), kn_clamp (by omega), kw_let_def, hx, Option.bind_some, show x.1 1 2 = nI o by rw [x2.1]; exact hoX]
  simp (disch := omega) only [kn_eq, kn_chk, kn_clamp]
  by_cases e : t = o
  · rw [if_pos e, if_pos e]
    exact ⟨x, rfl, x2⟩
  · rw [if_neg e, if_neg e, x1 t (by omega)]
    exact ⟨x, rfl, x2⟩
/-- the reference's set of towns -/
theorem km_comesBy {σ : kw_M} {n m o : Nat} {L : Int32} (hok : kb_ok (σ.1 1) n m o) : ∃ w, fX10_comesBy L σ = some w ∧ ∀ t, t < 12 → kw_bI w t = (kr_bf (kr_gL (km_gr (σ.1 1) m (-1)) L.toInt) (kr_one o) (n - 1) t).isSome := by
  have h2 := hok.1.2.1
  have h12 := hok.1.2.2.1
  have hm := hok.1.2.2.2.1.1
  have hon := hok.2.2.1
  have hw := hok.1.2.2.2.1
  have row : ∀ (w0 v3 : Int32) (e : kr_D), (∀ t, t < 12 → kw_bI w0 t = (e t).isSome) → ∃ w, kw_loop (fun s => bX10_comesBy_22 L v3 σ s.1 s.2) kw_F (w0, (0 : Int32)) = some w ∧ ∀ t, t < 12 → kw_bI w t = (kr_rnd (kr_gL (km_gr (σ.1 1) m (-1)) L.toInt) e m t).isSome := fun w0 v3 e h0 => by
    refine kw_for (body := fun s => bX10_comesBy_22 L v3 σ s.1 s.2) (fun k s => s.2 = nI k ∧ ∀ t, t < 12 → kw_bI s.1 t = (kr_rnd (kr_gL (km_gr (σ.1 1) m (-1)) L.toInt) e k t).isSome) (fun x => ∀ t, t < 12 → kw_bI x t = (kr_rnd (kr_gL (km_gr (σ.1 1) m (-1)) L.toInt) e m t).isSome) m (by omega) (s0 := (w0, (0 : Int32))) ⟨rfl, h0⟩ (fun k s hk hp => ?_)
    obtain ⟨w, v⟩ := s
    obtain ⟨rfl, hb⟩ := hp
    dsimp only at hb ⊢
    unfold bX10_comesBy_22
    rw [hw.2.1]
    by_cases hkm : k < m
    case neg =>
      right
      obtain rfl : k = m := by omega
      rw [if_pos (nI_le (Nat.le_refl k) (by omega))]
      exact ⟨_, rfl, hb⟩
    left
    refine ⟨hkm, ?_⟩
    obtain ⟨hfr, hto, hl1, hl2⟩ := hw.2.2 k hkm
    have hf' := kw_in_lt hfr
    have ht' := kw_in_lt hto
    have efr := kw_in_nI_of hfr (by decide)
    have eto := kw_in_nI_of hto (by decide)
    have hus : (km_gr (σ.1 1) m (-1)).2.2.2.2 k = decide (σ.1 1 (28 + 4 * k + 3) = 1) := by
      show decide (σ.1 1 (28 + 4 * k + 3) = 1 ∧ ¬ nI k = -1) = _
      rw [decide_eq_decide]
      exact ⟨fun q => q.1, fun q => ⟨q, kb_neg1 (by omega)⟩⟩
    have is := fun t => kr_is_rlx (km_gr (σ.1 1) m (-1)) (kr_rnd (kr_gL (km_gr (σ.1 1) m (-1)) L.toInt) e k) L.toInt k t
    have es : kr_rnd (kr_gL (km_gr (σ.1 1) m (-1)) L.toInt) e (k + 1) = kr_rlx (kr_gL (km_gr (σ.1 1) m (-1)) L.toInt) (kr_rnd (kr_gL (km_gr (σ.1 1) m (-1)) L.toInt) e k) k := rfl
    rw [hus] at is
    rw [if_neg (nI_ge hkm (by omega)), km_isOpen (by omega), Option.bind_some, km_of2 (by omega), Option.bind_some, km_of0 (by omega), Option.bind_some, km_of1 (by omega), Option.bind_some, show fX10_has w (σ.1 1 (28 + 4 * k + 0)) σ = fX10_has w (nI (σ.1 1 (28 + 4 * k + 0)).toNatClampNeg) σ by rw [← efr], km_has (by omega), Option.bind_some, es]
    simp only [kw_let_def, km_next, Int32.lt_iff_toInt_lt, kx_fl_0]
    have skip : (∀ t, (kr_rlx (kr_gL (km_gr (σ.1 1) m (-1)) L.toInt) (kr_rnd (kr_gL (km_gr (σ.1 1) m (-1)) L.toInt) e k) k t).isSome = (kr_rnd (kr_gL (km_gr (σ.1 1) m (-1)) L.toInt) e k t).isSome) → ∃ t, (some (Sum.inl (w, nI (k + 1))) : Option ((Int32 × Int32) ⊕ Int32)) = some (Sum.inl t) ∧ t.2 = nI (k + 1) ∧ ∀ u, u < 12 → kw_bI t.1 u = (kr_rlx (kr_gL (km_gr (σ.1 1) m (-1)) L.toInt) (kr_rnd (kr_gL (km_gr (σ.1 1) m (-1)) L.toInt) e k) k u).isSome := fun hq => ⟨_, rfl, rfl, fun u hu => by rw [hq u]; exact hb u hu⟩
    by_cases ho : σ.1 1 (28 + 4 * k + 3) = 1
    · rw [if_pos ho, if_neg (show ¬ (1 : Int32) = 0 by decide)]
      rw [decide_eq_true ho, Bool.true_and] at is
      by_cases hL : L.toInt < (σ.1 1 (28 + 4 * k + 2)).toInt
      · rw [if_pos hL]
        refine skip (fun t => ?_)
        rw [is t, if_neg (fun z => by
          have z1 : (σ.1 1 (28 + 4 * k + 2)).toInt ≤ L.toInt := of_decide_eq_true z.1
          omega)]
      · rw [if_neg hL]
        have hd : decide ((km_gr (σ.1 1) m (-1)).2.2.2.1 k ≤ L.toInt) = true := decide_eq_true (show (σ.1 1 (28 + 4 * k + 2)).toInt ≤ L.toInt by omega)
        have hfb := hb (σ.1 1 (28 + 4 * k + 0)).toNatClampNeg hf'
        cases hbit : kw_bI w (σ.1 1 (28 + 4 * k + 0)).toNatClampNeg with
        | false =>
          rw [kn_ff]
          refine skip (fun t => ?_)
          rw [is t]
          by_cases q : t = (km_gr (σ.1 1) m (-1)).2.2.1 k
          · rw [if_pos ⟨hd, q⟩, show (kr_rnd (kr_gL (km_gr (σ.1 1) m (-1)) L.toInt) e k ((km_gr (σ.1 1) m (-1)).2.1 k)).isSome = false from (hfb.symm.trans hbit), Bool.or_false]
          · rw [if_neg (fun z => q z.2)]
        | true =>
          rw [kn_tf]
          refine ⟨_, rfl, rfl, fun u hu => ?_⟩
          dsimp only
          rw [kw_bI_or, eto, kw_upI (by omega) u (by omega), is u, hb u hu]
          by_cases q : u = (σ.1 1 (28 + 4 * k + 1)).toNatClampNeg
          · rw [decide_eq_true q, Bool.or_true, if_pos ⟨hd, q⟩, show (kr_rnd (kr_gL (km_gr (σ.1 1) m (-1)) L.toInt) e k ((km_gr (σ.1 1) m (-1)).2.1 k)).isSome = true from (hfb.symm.trans hbit), Bool.or_true]
          · rw [decide_eq_false q, Bool.or_false, if_neg (fun z => q z.2)]
    · rw [if_neg ho, if_pos rfl]
      rw [decide_eq_false ho, Bool.false_and] at is
      exact skip (fun t => by rw [is t, if_neg (fun z => by cases z.1)])
  obtain ⟨x, hx, x1⟩ := kw_for (body := fun s => bX10_comesBy_11 L σ s.1 s.2) (fun k s => s.2 = nI (1 + k) ∧ ∀ t, t < 12 → kw_bI s.1 t = (kr_bf (kr_gL (km_gr (σ.1 1) m (-1)) L.toInt) (kr_one o) k t).isSome) (fun x => ∀ t, t < 12 → kw_bI x t = (kr_bf (kr_gL (km_gr (σ.1 1) m (-1)) L.toInt) (kr_one o) (n - 1) t).isSome) (n - 1) (by omega) (s0 := ((1 : Int32) <<< (nI o &&& 31), (1 : Int32))) ⟨rfl, fun t ht => by
      dsimp only
      rw [kw_upI (by omega) t (by omega)]
      show _ = (if t = o then some 0 else none : Option Int).isSome
      by_cases q : t = o
      · rw [if_pos q, decide_eq_true q]; rfl
      · rw [if_neg q, decide_eq_false q]; rfl⟩ (fun k s hk hp => by
    obtain ⟨w, v⟩ := s
    obtain ⟨rfl, hb⟩ := hp
    dsimp only at hb ⊢
    unfold bX10_comesBy_11 fX10_towns
    rw [hok.1.1, Option.bind_some]
    by_cases hkn : k < n - 1
    case neg =>
      right
      obtain rfl : k = n - 1 := by omega
      rw [if_pos (nI_le (by omega) (by omega))]
      exact ⟨_, rfl, hb⟩
    left
    refine ⟨hkn, ?_⟩
    obtain ⟨w2, r1, r2⟩ := row w (nI (1 + k)) _ hb
    rw [if_neg (nI_ge (by omega) (by omega)), r1, Option.bind_some, kw_let_def, km_next]
    exact ⟨_, rfl, rfl, r2⟩)
  unfold fX10_comesBy
  rw [hok.2.1, kw_let_def, hx]
  exact ⟨x, rfl, x1⟩
