/-! Calls that change the roads or the origin: both sides answer alike and keep the relation. -/
theorem kx_copy10 {σX : kw_M} {F : Nat → Int32} {n m o : Nat} (hok : kb_ok F n m o) (hsh : kx_sh σX 1 12 F n m o) : ∃ τ, fX4_copyFrom 10 12 σX = some τ ∧ kx_rd τ 10 F m ∧ (∀ q, q ≠ 10 → q ≠ 32 → q ≠ 33 → q ≠ 34 → τ.1 q = σX.1 q) ∧ ∀ q, q ≠ 10 → τ.2 q = σX.2 q := by
  obtain ⟨τ, h1, h2, h3, h4⟩ := kx_copy (c0 := 10) (c1 := 12) (Or.inl ⟨rfl, rfl⟩) hsh.1 hok.1.2.2.2.1.2.1 hok.1.2.2.2.1.1
  exact ⟨τ, h1, h2, h3, h4⟩
theorem kx_kO_10 {σ τ : kw_M} (h1 : ∀ q, q ≠ 10 → q ≠ 32 → q ≠ 33 → q ≠ 34 → τ.1 q = σ.1 q) (h2 : ∀ q, q ≠ 10 → τ.2 q = σ.2 q) : kx_kO σ τ ∧ kx_kN σ τ ∧ τ.1 5 = σ.1 5 ∧ τ.2 39 = σ.2 39 :=
  ⟨⟨fun c hc => h1 c (by omega) (by omega) (by omega) (by omega), fun c hc => h2 c (by omega)⟩, ⟨fun c hc => h1 c (by omega) (by omega) (by omega) (by omega), fun c hc => h2 c (by omega)⟩, h1 5 (by decide) (by decide) (by decide) (by decide), h2 39 (by decide)⟩
theorem kn_tf {α : Type} (x y : α) : (if true = false then x else y) = y := if_neg (by decide)
theorem kn_ff {α : Type} (x y : α) : (if false = false then x else y) = x := if_pos rfl
theorem ko_lay {σX σM : kw_M} {a1 a2 a3 : Int32} (hR : kw_Rel σX σM) : ∃ a τX τM, fX9_layRoad a1 a2 a3 σX = some (a, τX) ∧ fX10_lay a1 a2 a3 σM = some (a, τM) ∧ kw_Rel τX τM := by
  obtain ⟨n, m, o, hok, hsh, hkp, htp, hpr⟩ := hR
  have h12 := hok.1.2.2.1
  have hm := hok.1.2.2.2.1.1
  have hnX : σX.1 12 0 = nI n := hsh.1.1.trans hok.1.1
  have hmX : σX.1 12 1 = nI m := hsh.1.2.1.trans hok.1.2.2.2.1.2.1
  unfold fX9_layRoad fX10_lay
  rw [kx_hasTown hnX h12, kx_hasTown hnX h12, km_isTown hok.1.1 h12, km_isTown hok.1.1 h12]
  simp only [Option.bind_some, kx_fl_0]
  by_cases t1 : 0 ≤ a1.toInt ∧ a1.toInt < n
  case neg =>
    simp only [decide_eq_false t1, kn_ff]
    exact ⟨_, _, _, rfl, rfl, n, m, o, hok, hsh, hkp, htp, hpr⟩
  simp only [decide_eq_true t1, kn_tf]
  by_cases t2 : 0 ≤ a2.toInt ∧ a2.toInt < n
  case neg =>
    simp only [decide_eq_false t2, kn_ff]
    exact ⟨_, _, _, rfl, rfl, n, m, o, hok, hsh, hkp, htp, hpr⟩
  simp only [decide_eq_true t2, kn_tf]
  by_cases t3 : a1 = a2
  · rw [if_pos t3, if_pos t3]
    exact ⟨_, _, _, rfl, rfl, n, m, o, hok, hsh, hkp, htp, hpr⟩
  rw [if_neg t3, if_neg t3, kx_isLength, km_isLength]
  simp only [Option.bind_some, kx_fl_0]
  by_cases t4 : -1000000000 ≤ a3.toInt ∧ a3.toInt ≤ 1000000000
  case neg =>
    simp only [decide_eq_false t4, kn_ff]
    exact ⟨_, _, _, rfl, rfl, n, m, o, hok, hsh, hkp, htp, hpr⟩
  simp only [decide_eq_true t4, kn_tf]
  rw [hmX, hok.1.2.2.2.1.2.1]
  simp (disch := omega) only [kn_36, kn_lt, kn_eq]
  by_cases t5 : m = 36
  · rw [if_pos t5, if_neg (by omega)]
    exact ⟨_, _, _, rfl, rfl, n, m, o, hok, hsh, hkp, htp, hpr⟩
  rw [if_neg t5, if_pos (by omega)]
  obtain ⟨A, hA, rfl⟩ := kw_arg (by omega) t1
  obtain ⟨B, hB, rfl⟩ := kw_arg (by omega) t2
  have h36 : m < 36 := by omega
  obtain ⟨σ1, c1, c2, c3, c4⟩ := kx_copy10 hok hsh
  obtain ⟨σ2, d1, d2, d3, d4⟩ := kx_addRoad (a := nI A) (b := nI B) (c := a3) c2 hok.1.2.2.2.1.2.1 h36
  obtain ⟨ρ1, r1, r2, r3, r4⟩ := km_begins' hok
  have hρm : ρ1.1 1 1 = nI m := by rw [r2, kb_beg_o (by decide)]; exact hok.1.2.2.2.1.2.1
  rw [c1, Option.bind_some, d1, Option.bind_some, r1, Option.bind_some, km_comes hρm h36, Option.bind_some]
  dsimp only
  have hG : (kw_ri ρ1 1 (kb_add (ρ1.1 1) m (nI A) (nI B) a3)).1 1 = kb_add (kb_beg (σM.1 1)) m (nI A) (nI B) a3 := by rw [kw_ri_1, r2]
  have x := kb_add_r (F := kb_beg (σM.1 1)) (m := m) (a := nI A) (b := nI B) (c := a3)
  have hwG : kb_wf (kb_add (kb_beg (σM.1 1)) m (nI A) (nI B) a3) n (m + 1) := by
    obtain ⟨a, b, c, ⟨p1, p2, p3⟩, q⟩ := hok.1
    refine ⟨by rw [kb_add_o (by decide) (by omega), kb_beg_o (by decide)]; exact a, b, c, ⟨by omega, kb_add_1, fun r hr => ?_⟩, fun r hr => ?_⟩
    · by_cases e : r = m
      · subst e
        rw [x.1, x.2.1, x.2.2.1]
        exact ⟨kw_in_nI (by omega) (by decide), kw_in_nI (by omega) (by decide), t4.1, t4.2⟩
      · rw [kb_add_o (by omega) (by omega), kb_add_o (by omega) (by omega), kb_add_o (by omega) (by omega), kb_beg_o (by omega), kb_beg_o (by omega), kb_beg_o (by omega)]
        exact p3 r (by omega)
    · by_cases e : r = m
      · subst e
        rw [x.1, x.2.1, x.2.2.2, kn_clamp (by omega), kn_clamp (by omega)]
        exact ⟨hA, hB, Or.inr rfl⟩
      · rw [kb_add_o (by omega) (by omega), kb_add_o (by omega) (by omega), kb_add_o (by omega) (by omega), kb_beg_o (by omega), kb_beg_o (by omega), kb_beg_o (by omega)]
        exact q r (by omega)
  have hgood : kr_good (km_gr (kb_add (kb_beg (σM.1 1)) m (nI A) (nI B) a3) (m + 1) (nI m)) := by
    refine kr_sub_good hok.2.2.2.1 (fun r hr hu => ?_)
    have hr' : r < m + 1 := hr
    have hu' := of_decide_eq_true hu
    have hne : r ≠ m := fun e => hu'.2 (by rw [e])
    have hro : ∀ j, 28 ≤ j → j < 28 + 4 * m → kb_add (kb_beg (σM.1 1)) m (nI A) (nI B) a3 j = σM.1 1 j := fun j h1 h2 => by rw [kb_add_o (by omega) (by omega), kb_beg_o (by omega)]
    have hs := (kb_gr_same (m := m) hro (-1)).2 r (by show r < m; omega)
    refine ⟨by show r < m; omega, decide_eq_true ⟨?_, kb_neg1 (by omega)⟩, hs.1.symm, hs.2.1.symm, hs.2.2.1.symm⟩
    rw [← hro _ (by omega) (by omega)]
    exact hu'.1
  obtain ⟨ρ2, i1, i2, i3⟩ := km_isRing' (σ := kw_ri ρ1 1 (kb_add (ρ1.1 1) m (nI A) (nI B) a3)) (m := m + 1) (n := n) (r := m) (by rw [hG]; exact hwG.2.2.2.1) (by rw [hG]; exact hwG.1) (by have := hok.1.2.1; omega) h12 (by omega)
  rw [i1, Option.bind_some, hG]
  have hfile : ρ2.1 1 = kb_add (kb_beg (σM.1 1)) m (nI A) (nI B) a3 := by rw [i2, hG]
  have k10 := kx_kO_10 (σ := σX) (τ := σ2) (fun q h1 h2 h3 h4 => (d3 q h1 h2 h3 h4).trans (c3 q h1 h2 h3 h4)) (fun q h1 => (d4 q h1).trans (c4 q h1))
  have hor : σ2.1 1 2 = nI o := by
    rw [k10.2.1.1 1 (by omega), hsh.2.1.1]
    exact hok.2.1
  obtain ⟨a, τX, τM, f1, f2, f3, f4⟩ := kw_change (σX := σX) (σM := σM) (σX1 := σ2) (σM1 := ρ2) (n := n) (m := m + 1) (m0 := m) (o := o) (o0 := o) (v := nI m) (ring := kb_ring (kb_add (kb_beg (σM.1 1)) m (nI A) (nI B) a3) n (m + 1) m) hok hsh hkp htp hpr k10.1 k10.2.1 k10.2.2.1 k10.2.2.2 (by
      rw [hfile]
      refine kx_rd_eq d2 ?_ ?_ (fun j h1 h2 => ?_)
      · rw [kb_add_o (by decide) (by omega), kb_add_o (by decide) (by omega), kb_beg_o (by decide)]
      · rw [kb_add_1, kb_add_1]
      · unfold kb_add upd
        rw [kb_beg_o (by omega)]) (by
      refine ⟨fun j h1 h2 => ?_, ?_, ?_, ?_⟩
      · rw [hfile, kb_add_o (by omega) (by omega), kb_beg_o (by omega)]
      · rw [i2, kw_ri_o (by decide), r3 0 (by decide)]
      · rw [i2, kw_ri_o (by decide), r3 0 (by decide)]
      · rw [i2, kw_ri_o (by decide), r3 5 (by decide)]) (fun j hj => by rw [hfile, kb_add_o (by omega) (by omega), kb_beg_2 hj]) (fun t ht => by rw [i3 4 (by decide)]; exact r4 t ht) (fun j hj => by rw [hfile, kb_add_o (by omega) (by omega), kb_beg_o (by omega)]) (by rw [hfile]; exact hwG) (by rw [hfile, kb_add_o (by decide) (by omega), kb_beg_o (by decide)]; exact hok.2.1) hok.2.2.1 (by
      rw [hfile]
      refine Or.inr ⟨m, by omega, rfl, hgood, ?_⟩
      rw [decide_eq_true x.2.2.2, Bool.true_and])
  rw [hor, f1, Option.bind_some, f2, Option.bind_some]
  dsimp only
  by_cases h0 : (0 : Int32) ≤ a
  · rw [if_pos h0, if_pos h0]
    exact ⟨_, _, _, rfl, rfl, f3⟩
  · rw [if_neg h0, if_neg h0]
    exact ⟨_, _, _, rfl, rfl, f3⟩
