/-! Some roads free: the class. -/
theorem kr_plus_in {a b : Option Int} {A B : Int} (ha : ∀ z, a = some z → -A ≤ z ∧ z ≤ A) (hb : ∀ z, b = some z → -B ≤ z ∧ z ≤ B) : ∀ z, kr_plus a b = some z → -(A + B) ≤ z ∧ z ≤ A + B := by
  intro z hz
  cases a with
  | none => cases hz
  | some x =>
    cases b with
    | none => cases hz
    | some y =>
      have h1 := ha x rfl
      have h2 := hb y rfl
      have e : some (x + y) = some z := hz
      cases e
      omega
theorem kr_go_in {p : kr_D} {a : Option Int} {f : kr_D} {C : Int} (hf : kr_in f C) (hx : ∀ t z, kr_plus a (p t) = some z → -C ≤ z ∧ z ≤ C) : ∀ k : Nat, kr_in (kr_go p a f k) C
  | 0 => hf
  | k + 1 => kr_lw_in (kr_go_in hf hx k) (hx k)
theorem kr_fs_in {g : kr_G} {n : Nat} {d f : kr_D} {A : Int} (hp : ∀ u, kr_in (kr_dst g n u) 400000000000) (hd : kr_in d A) (hf : kr_in f (A + 400000000000)) : ∀ k : Nat, kr_in (kr_fs g n d f k) (A + 400000000000)
  | 0 => hf
  | k + 1 => by
    rw [kr_fs_s]
    split
    · exact kr_go_in (kr_fs_in hp hd hf k) (fun t => kr_plus_in (hd _) (hp _ t)) n
    · exact kr_fs_in hp hd hf k
theorem kr_fr_in {g : kr_G} {n o : Nat} (hp : ∀ u, kr_in (kr_dst g n u) 400000000000) : ∀ i : Nat, kr_in (kr_fr g n o i) ((i : Int) * 400000000000 + 400000000000)
  | 0 => kr_in_mono (hp o) (by omega)
  | i + 1 => kr_in_mono (kr_fs_in hp (kr_fr_in hp i) (kr_in_mono (kr_fr_in hp i) (by omega)) g.1) (by omega)
theorem kx_prt_eq {σ τ : kw_M} {F : Nat → Int32} {n m : Nat} (h : kx_prt σ F n m) (h1 : τ.1 = σ.1) (h2 : τ.2 39 = σ.2 39) : kx_prt τ F n m := by
  unfold kx_prt
  rw [h1, h2]
  exact h
theorem kx_goOn {σ : kw_M} {F : Nat → Int32} {n m u : Nat} {a : Option Int} {f : kr_D} {A : Int} (hprt : kx_prt σ F n m) (hw : kb_wf F n m) (hu : u < n) (h44 : kx_rw σ 44 f) (ha : ∀ z, a = some z → -A ≤ z ∧ z ≤ A) (hf : kr_in f (A + 400000000000)) (hA : A ≤ 4000000000000) : ∃ τ, fX6_goOn (nI u) (kx_enc a) (nI n) σ = some τ ∧ kx_rw τ 44 (kr_go (kb_D F n m u) a f n) ∧ kx_oL σ τ 44 := by
  have h12 := hw.2.2.1
  have hp := kb_D_in2 (n := n) (o := u) hw.2.2.2.1 h12
  have ba : kr_bd a := fun z hz => by have := ha z hz; omega
  have hpl : ∀ t z, kr_plus a (kb_D F n m u t) = some z → -(A + 400000000000) ≤ z ∧ z ≤ A + 400000000000 := fun t => kr_plus_in ha (hp t)
  obtain ⟨x, hx, e1, e2⟩ := kw_for (body := fun s => bX6_goOn_3 (nI u) (kx_enc a) (nI n) s.1 s.2) (fun k s => s.1 = nI k ∧ kx_rw s.2 44 (kr_go (kb_D F n m u) a f k) ∧ kx_oL σ s.2 44) (fun x => kx_rw x 44 (kr_go (kb_D F n m u) a f n) ∧ kx_oL σ x 44) n (by omega) (s0 := ((0 : Int32), σ)) ⟨rfl, h44, rfl, fun _ _ => rfl⟩ (fun k s hk hq => by
    obtain ⟨v, τ⟩ := s
    obtain ⟨rfl, e3, o1, o2⟩ := hq
    dsimp only at e3 o1 o2 ⊢
    unfold bX6_goOn_3
    by_cases hkn : k < n
    case neg =>
      right
      obtain rfl : k = n := by omega
      rw [if_pos (nI_le (Nat.le_refl k) (by omega))]
      exact ⟨_, rfl, e3, o1, o2⟩
    left
    refine ⟨hkn, ?_⟩
    have hprτ := kx_prt_eq hprt o1 (o2 39 (by decide))
    have bk : kr_bd (kb_D F n m u k) := kr_bd_in hp (by decide) k
    have bpl : kr_bd (kr_plus a (kb_D F n m u k)) := fun z hz => by have := hpl k z hz; omega
    have bf : kr_bd (kr_go (kb_D F n m u) a f k k) := kr_bd_in (kr_go_in hf hpl k) (by omega) k
    obtain ⟨τ2, l1, l2, l3, l4⟩ := kx_lower e3 (show k < 12 by omega) bf bpl
    rw [if_neg (nI_ge hkn (by omega)), kx_span hprτ hu h12 (by omega), Option.bind_some, kx_joined ba bk, Option.bind_some, l1, Option.bind_some, kw_let_def, km_next]
    exact ⟨_, rfl, rfl, l2, l3.trans o1, fun q hq => (l4 q hq).trans (o2 q hq)⟩)
  unfold fX6_goOn
  rw [hx, Option.bind_some]
  exact ⟨x, rfl, e1, e2⟩
theorem kx_freeStep {σ : kw_M} {F : Nat → Int32} {n m : Nat} {v3 v4 v6 : Int32} {d f : kr_D} {A : Int} (hrd : kx_rd σ 12 F m) (hw : kb_wf F n m) (hprt : kx_prt σ F n m) (h43 : kx_rw σ 43 d) (h44 : kx_rw σ 44 f) (hd : kr_in d A) (hf : kr_in f (A + 400000000000)) (hA : A ≤ 4000000000000) : ∃ τ, kw_loop (fun s => bX6_withFreeRoads_49 v3 v4 v6 s.1 s.2) kw_F ((0 : Int32), σ) = some τ ∧ kx_rw τ 44 (kr_fs (km_gr F m (-1)) n d f m) ∧ kx_oL σ τ 44 := by
  have hm := hw.2.2.2.1.1
  have h12 := hw.2.2.1
  refine kw_for (body := fun s => bX6_withFreeRoads_49 v3 v4 v6 s.1 s.2) (fun k s => s.1 = nI k ∧ kx_rw s.2 44 (kr_fs (km_gr F m (-1)) n d f k) ∧ kx_oL σ s.2 44) (fun x => kx_rw x 44 (kr_fs (km_gr F m (-1)) n d f m) ∧ kx_oL σ x 44) m (by omega) (s0 := ((0 : Int32), σ)) ⟨rfl, h44, rfl, fun _ _ => rfl⟩ (fun k s hk hq => ?_)
  obtain ⟨v, τ⟩ := s
  obtain ⟨rfl, e3, o1, o2⟩ := hq
  dsimp only at e3 o1 o2 ⊢
  unfold bX6_withFreeRoads_49
  rw [show τ.1 12 1 = nI m by rw [o1]; exact hrd.2.1.trans hw.2.2.2.1.2.1]
  by_cases hkm : k < m
  case neg =>
    right
    obtain rfl : k = m := by omega
    rw [if_pos (nI_le (Nat.le_refl k) (by omega))]
    exact ⟨_, rfl, e3, o1, o2⟩
  left
  refine ⟨hkm, ?_⟩
  have hrdτ : kx_rd τ 12 F m := kx_rd_fr hrd (by rw [o1]) (by rw [o1]) (by rw [o1]) (by rw [o1]) (o2 12 (by decide))
  obtain ⟨hfr, hto, hl1, hl2⟩ := hw.2.2.2.1.2.2 k hkm
  obtain ⟨x18, x19, x20⟩ := hrdτ.2.2.1 k hkm
  have e18 : τ.1 18 k = F (28 + 4 * k + 0) := x18
  have e19 : τ.1 19 k = nI (F (28 + 4 * k + 1)).toNatClampNeg := (show τ.1 19 k = F (28 + 4 * k + 1) from x19).trans (kw_in_nI_of hto (by decide))
  have e20 : τ.1 20 k = F (28 + 4 * k + 2) := x20
  have hu : (km_gr F m (-1)).2.2.2.2 k = decide (F (28 + 4 * k + 3) = 1) := by
    show decide (F (28 + 4 * k + 3) = 1 ∧ ¬ nI k = -1) = _
    rw [decide_eq_decide]
    exact ⟨fun q => q.1, fun q => ⟨q, kb_neg1 (by omega)⟩⟩
  have hlk : (km_gr F m (-1)).2.2.2.1 k = (F (28 + 4 * k + 2)).toInt := rfl
  rw [if_neg (nI_ge hkm (by omega)), kx_isOpenR hrdτ hw.2.2.2.1 hkm, Option.bind_some]
  simp only [kx_fl_0, kw_let_def, km_next]
  rw [kr_fs_s, hu, hlk]
  by_cases ho : F (28 + 4 * k + 3) = 1
  case neg =>
    rw [decide_eq_false ho, kn_ff, Bool.false_and, kn_ft]
    exact ⟨_, rfl, rfl, e3, o1, o2⟩
  rw [decide_eq_true ho, kn_tf, kn_chk (by omega) (by decide), kn_clamp (by omega), e20, e18, kw_chk_t hfr, Bool.true_and]
  simp only [Int32.le_iff_toInt_le, show (0 : Int32).toInt = 0 by decide]
  by_cases hl : (F (28 + 4 * k + 2)).toInt ≤ 0
  · rw [if_pos hl, decide_eq_false (by omega), kn_ft]
    exact ⟨_, rfl, rfl, e3, o1, o2⟩
  · rw [if_neg hl, decide_eq_true (by omega), kn_tt, show τ.1 12 0 = nI n by rw [o1]; exact hrd.1.trans hw.1, e19, show τ.2 43 (F (28 + 4 * k + 0)).toNatClampNeg = kx_enc (d (F (28 + 4 * k + 0)).toNatClampNeg) by rw [o2 43 (by decide)]; exact h43 _ (kw_in_lt hfr)]
    obtain ⟨τ2, g1, g2, g3, g4⟩ := kx_goOn (σ := τ) (u := (F (28 + 4 * k + 1)).toNatClampNeg) (a := d (F (28 + 4 * k + 0)).toNatClampNeg) (kx_prt_eq hprt o1 (o2 39 (by decide))) hw (hw.2.2.2.2 k hkm).2.1 e3 (fun z hz => hd _ z hz) (kr_fs_in (fun u => kb_D_in2 hw.2.2.2.1 h12) hd hf k) hA
    rw [g1, Option.bind_some]
    exact ⟨_, rfl, rfl, g2, g3.trans o1, fun q hq => (g4 q hq).trans (o2 q hq)⟩
theorem kx_freeRoads {σ : kw_M} {F : Nat → Int32} {n m o t N : Nat} (hrd : kx_rd σ 12 F m) (hw : kb_wf F n m) (hprt : kx_prt σ F n m) (h16 : ∀ t, t < 12 → σ.2 16 t = kx_enc (kb_D F n m o t)) (ht : t < 12) (hN : N ≤ 3) : ∃ τ, fX6_withFreeRoads (nI t) (nI N) σ = some (kx_enc (kr_fr (km_gr F m (-1)) n o N t), τ) ∧ kx_oK σ τ := by
  have h12 := hw.2.2.1
  have hpp : ∀ u, kr_in (kr_dst (km_gr F m (-1)) n u) 400000000000 := fun u => kb_D_in2 hw.2.2.2.1 h12
  have h0 : kx_rw (kw_rl σ 43 (va_cpy (σ.2 16) (σ.2 43) 0 0 12)) 43 (kr_fr (km_gr F m (-1)) n o 0) := fun u hu => by
    rw [kw_rl_2]
    unfold va_cpy
    rw [if_pos (by omega), show 0 + (u - 0) = u by omega]
    exact h16 u hu
  obtain ⟨x, hx, x1, x2, x3⟩ := kw_for (body := fun s => bX6_withFreeRoads_24 (nI t) (nI N) s.1 s.2) (fun k s => s.1 = nI k ∧ kx_rw s.2 43 (kr_fr (km_gr F m (-1)) n o k) ∧ kx_oK σ s.2) (fun x => kx_rw x 43 (kr_fr (km_gr F m (-1)) n o N) ∧ kx_oK σ x) N (by omega) (s0 := ((0 : Int32), kw_rl σ 43 (va_cpy (σ.2 16) (σ.2 43) 0 0 12))) ⟨rfl, h0, rfl, fun q h1 _ => kw_rl_o h1⟩ (fun k s hk hp => by
    obtain ⟨v, τ⟩ := s
    obtain ⟨rfl, e3, o1, o2⟩ := hp
    dsimp only at e3 o1 o2 ⊢
    unfold bX6_withFreeRoads_24
    by_cases hkN : k < N
    case neg =>
      right
      obtain rfl : k = N := by omega
      rw [if_pos (nI_le (Nat.le_refl k) (by omega))]
      exact ⟨_, rfl, e3, o1, o2⟩
    left
    refine ⟨hkN, ?_⟩
    rw [if_neg (nI_ge hkN (by omega)), kw_let_def]
    have hrdτ : kx_rd (kw_rl τ 44 (va_cpy (τ.2 43) (τ.2 44) 0 0 12)) 12 F m := kx_rd_fr hrd (by rw [kw_rl_1, o1]) (by rw [kw_rl_1, o1]) (by rw [kw_rl_1, o1]) (by rw [kw_rl_1, o1]) (by rw [kw_rl_o (by decide)]; exact o2 12 (by decide) (by decide))
    have hprτ : kx_prt (kw_rl τ 44 (va_cpy (τ.2 43) (τ.2 44) 0 0 12)) F n m := kx_prt_eq hprt (by rw [kw_rl_1, o1]) (by rw [kw_rl_o (by decide)]; exact o2 39 (by decide) (by decide))
    have h44 : kx_rw (kw_rl τ 44 (va_cpy (τ.2 43) (τ.2 44) 0 0 12)) 44 (kr_fr (km_gr F m (-1)) n o k) := fun u hu => by
      rw [kw_rl_2]
      unfold va_cpy
      rw [if_pos (by omega), show 0 + (u - 0) = u by omega]
      exact e3 u hu
    have h43 : kx_rw (kw_rl τ 44 (va_cpy (τ.2 43) (τ.2 44) 0 0 12)) 43 (kr_fr (km_gr F m (-1)) n o k) := fun u hu => by
      rw [kw_rl_o (by decide)]
      exact e3 u hu
    have hk2 : (k : Int) ≤ 3 := by omega
    have hd1 : kr_in (kr_fr (km_gr F m (-1)) n o k) 1600000000000 := kr_in_mono (kr_fr_in hpp k) (by omega)
    obtain ⟨τ2, s1, s2, s3, s3'⟩ := kx_freeStep (n := n) (v3 := nI t) (v4 := nI N) (v6 := nI k) hrdτ hw hprτ h43 h44 hd1 (kr_in_mono hd1 (by decide)) (by decide)
    obtain ⟨τ3, f1, f2, f3, f4⟩ := kx_foundIs s2
    rw [s1, Option.bind_some, f1, Option.bind_some, kw_let_def, km_next]
    refine ⟨_, rfl, rfl, f2, ?_, fun q h1 h2 => ?_⟩
    · exact f3.trans (s3.trans o1)
    · dsimp only
      rw [f4 q h1, s3' q h2, kw_rl_o h2]
      exact o2 q h1 h2)
  unfold fX6_withFreeRoads
  rw [kw_let_def, hx, Option.bind_some, kn_chk (by omega) (by decide), kn_clamp (by omega), x1 t ht]
  exact ⟨x, rfl, x2, x3⟩
