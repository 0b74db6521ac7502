/-! mean. -/
/-- the better of a mean and a ring of length v in k roads -/
def kp_m2 (mu : Option (Int × Nat)) (v : Option Int) (k : Nat) : Option (Int × Nat) := match v, mu with
  | none, mu => mu
  | some z, none => some (z, k)
  | some z, some p => if z * (p.2 : Int) < p.1 * (k : Int) then some (z, k) else some p
def kp_mr (g : kr_G) (t : Nat) (mu : Option (Int × Nat)) : Nat → Option (Int × Nat)
  | 0 => mu
  | k + 1 => kp_m2 (kp_mr g t mu k) (kr_ex g t (k + 1) t) (k + 1)
def kp_ms (g : kr_G) (n : Nat) : Nat → Option (Int × Nat)
  | 0 => none
  | t + 1 => kp_mr g t (kp_ms g n t) n
/-- what such a mean keeps -/
def kp_mok (mu : Option (Int × Nat)) : Prop := ∀ p, mu = some p → 0 < p.1 ∧ p.1 ≤ 400000000000 ∧ 1 ≤ p.2 ∧ p.2 ≤ 12
theorem kr_W_wk {g : kr_G} {o : Nat} : ∀ (i t : Nat) (y : Int), kr_W g o i t y → ∃ l, l.length = i ∧ kr_wk g o l t ∧ kr_wt g l = y
  | 0, t, y, h => ⟨[], rfl, h.1.symm, h.2.symm⟩
  | i + 1, t, y, ⟨r, h1, h2, h3, x, h4, h5⟩ => by
    obtain ⟨l, l1, l2, l3⟩ := kr_W_wk i _ x h4
    refine ⟨l ++ [r], by rw [List.length_append, l1]; rfl, (kr_wk_app l [r] o t).mpr ⟨g.2.1 r, l2, h1, h2, rfl, h3⟩, ?_⟩
    rw [kr_wt_app, l3]
    have : kr_wt g [r] = g.2.2.2.1 r + 0 := rfl
    omega
theorem kr_ex_pos {g : kr_G} {t k : Nat} {z : Int} (hg : kr_good g) (h : kr_ex g t (k + 1) t = some z) : 0 < z := by
  have hm := kr_ex_M g t (k + 1) t
  rw [h] at hm
  obtain ⟨l, l1, l2, l3⟩ := kr_W_wk (k + 1) t z hm.1
  rw [← l3]
  exact hg t l (fun q => by rw [q] at l1; simp at l1) l2
theorem kp_m2_ok {g : kr_G} {t k : Nat} {mu : Option (Int × Nat)} (hg : kr_good g) (hl : ∀ r, r < g.1 → -1000000000 ≤ g.2.2.2.1 r ∧ g.2.2.2.1 r ≤ 1000000000) (hk : k + 1 ≤ 12) (h : kp_mok mu) : kp_mok (kp_m2 mu (kr_ex g t (k + 1) t) (k + 1)) := by
  intro p hp
  cases hv : kr_ex g t (k + 1) t with
  | none =>
    rw [hv] at hp
    exact h p (by cases mu <;> exact hp)
  | some z =>
    have h1 := kr_ex_pos hg hv
    have h2 := kr_ex_in (o := t) hl (k + 1) (by omega) t z hv
    rw [hv] at hp
    cases mu with
    | none =>
      cases hp
      exact ⟨h1, h2.2, by omega, by omega⟩
    | some q =>
      have hp' : (if z * (q.2 : Int) < q.1 * ((k + 1 : Nat) : Int) then some (z, k + 1) else some q) = some p := hp
      by_cases w : z * (q.2 : Int) < q.1 * ((k + 1 : Nat) : Int)
      · rw [if_pos w] at hp'
        cases hp'
        exact ⟨h1, h2.2, by omega, by omega⟩
      · rw [if_neg w] at hp'
        exact h p (by rw [← hp'])
theorem kp_mr_ok {g : kr_G} {t n : Nat} {mu : Option (Int × Nat)} (hg : kr_good g) (hl : ∀ r, r < g.1 → -1000000000 ≤ g.2.2.2.1 r ∧ g.2.2.2.1 r ≤ 1000000000) (hn : n ≤ 12) (h : kp_mok mu) : ∀ k : Nat, k ≤ n → kp_mok (kp_mr g t mu k)
  | 0, _ => h
  | k + 1, hk => kp_m2_ok hg hl (by omega) (kp_mr_ok hg hl hn h k (by omega))
theorem kp_ms_ok {g : kr_G} {n : Nat} (hg : kr_good g) (hl : ∀ r, r < g.1 → -1000000000 ≤ g.2.2.2.1 r ∧ g.2.2.2.1 r ≤ 1000000000) (hn : n ≤ 12) : ∀ t : Nat, kp_mok (kp_ms g n t)
  | 0 => fun p hp => by cases hp
  | t + 1 => kp_mr_ok hg hl hn (kp_ms_ok hg hl hn t) n (Nat.le_refl _)
theorem kw_mulL {a b : Int} (ha1 : -400000000000 ≤ a) (ha2 : a ≤ 400000000000) (hb1 : 0 ≤ b) (hb2 : b ≤ 12) : (Int64.ofInt a * Int64.ofInt b).toInt = a * b := by
  have e1 : (Int64.ofInt a).toInt = a := km_toInt (by omega) (by omega)
  have e2 : (Int64.ofInt b).toInt = b := km_toInt (by omega) (by omega)
  have h1 : -400000000000 * 12 ≤ a * b ∧ a * b ≤ 400000000000 * 12 := by
    have : ∀ c : Nat, c ≤ 12 → -400000000000 * 12 ≤ a * (c : Int) ∧ a * (c : Int) ≤ 400000000000 * 12 := fun c hc => by
      obtain rfl | rfl | rfl | rfl | rfl | rfl | rfl | rfl | rfl | rfl | rfl | rfl | rfl : c = 0 ∨ c = 1 ∨ c = 2 ∨ c = 3 ∨ c = 4 ∨ c = 5 ∨ c = 6 ∨ c = 7 ∨ c = 8 ∨ c = 9 ∨ c = 10 ∨ c = 11 ∨ c = 12 := by omega
      all_goals omega
    have hb := this b.toNat (by omega)
    rw [Int.toNat_of_nonneg hb1] at hb
    exact hb
  rw [Jvm.Kit.i64_mul (by rw [e1, e2]; omega) (by rw [e1, e2]; omega), e1, e2]
theorem kw_natL {k : Nat} (h : k < 2147483648) : (nI k).toInt64 = Int64.ofInt (k : Int) := by
  rw [kw_64of, nI_toInt h]
/-- the class's two cells show a mean -/
def kx_mu (σ : kw_M) (mu : Option (Int × Nat)) : Prop := match mu with
  | none => σ.2 6 3 = 0
  | some p => σ.2 6 2 = Int64.ofInt p.1 ∧ σ.2 6 3 = Int64.ofInt (p.2 : Int)
def kx_o6 (σ τ : kw_M) : Prop := τ.1 = σ.1 ∧ ∀ q, q ≠ 6 → τ.2 q = σ.2 q
theorem kw_ofI0 {z : Int} (h1 : -10000000000000000 ≤ z) (h2 : z ≤ 10000000000000000) : (Int64.ofInt z = 0) = (z = 0) := by
  refine propext ⟨fun h => ?_, fun h => by rw [h]; rfl⟩
  have := congrArg Int64.toInt h
  rw [km_toInt h1 h2] at this
  exact this
theorem kx_takeMean {σ : kw_M} {mu : Option (Int × Nat)} {v : Option Int} {k : Nat} (h : kx_mu σ mu) (hmu : kp_mok mu) (hv : ∀ z, v = some z → -400000000000 ≤ z ∧ z ≤ 400000000000) (hk : k ≤ 12) : ∃ τ, fX6_takeMean (kx_enc v) (nI k) σ = some τ ∧ kx_mu τ (kp_m2 mu v k) ∧ kx_o6 σ τ := by
  have bv : kr_bd v := fun z hz => by have := hv z hz; omega
  unfold fX6_takeMean
  simp only [kx_enc_e bv, kw_let_def]
  have setIt : ∀ z, v = some z → kx_mu (kw_sl (kw_sl σ 6 2 (kx_enc v)) 6 3 (nI k).toInt64) (some (z, k)) ∧ kx_o6 σ (kw_sl (kw_sl σ 6 2 (kx_enc v)) 6 3 (nI k).toInt64) := fun z hz => by
    refine ⟨⟨?_, ?_⟩, rfl, fun q hq => by rw [kw_sl_o hq, kw_sl_o hq]⟩
    · rw [kw_sl_2, kw_updL_n (by decide), kw_sl_2, kw_updL_e, hz]; rfl
    · rw [kw_sl_2, kw_updL_e]; exact kw_natL (by omega)
  cases hq : v with
  | none =>
    rw [if_pos rfl]
    refine ⟨σ, rfl, ?_, rfl, fun _ _ => rfl⟩
    cases mu <;> exact h
  | some z =>
    rw [if_neg (by simp), ← hq]
    obtain ⟨s1, s2⟩ := setIt z hq
    have hz := hv z hq
    cases mu with
    | none =>
      rw [if_pos (show σ.2 6 3 = 0 from h)]
      refine ⟨_, rfl, ?_, s2⟩
      have e : kp_m2 none v k = some (z, k) := by rw [hq]; rfl
      rw [e]
      exact s1
    | some p =>
      obtain ⟨m1, m2⟩ := h
      have hp := hmu p rfl
      have hp2 : (p.2 : Int) ≤ 12 := by omega
      rw [m2, m1]
      simp only [kw_ofI0 (show -10000000000000000 ≤ (p.2 : Int) by omega) (show (p.2 : Int) ≤ 10000000000000000 by omega)]
      rw [if_neg (by omega), kw_natL (by omega), hq, show kx_enc (some z) = Int64.ofInt z from rfl]
      simp only [Int64.le_iff_toInt_le, kw_mulL (show -400000000000 ≤ p.1 by omega) (show p.1 ≤ 400000000000 by omega) (show 0 ≤ (k : Int) by omega) (show (k : Int) ≤ 12 by omega), kw_mulL hz.1 hz.2 (show 0 ≤ (p.2 : Int) by omega) hp2]
      rw [hq] at s1 s2
      by_cases w : p.1 * (k : Int) ≤ z * (p.2 : Int)
      · rw [if_pos w]
        refine ⟨σ, rfl, ?_, rfl, fun _ _ => rfl⟩
        show kx_mu σ (if z * (p.2 : Int) < p.1 * (k : Int) then some (z, k) else some p)
        rw [if_neg (by omega)]
        exact ⟨m1, m2⟩
      · rw [if_neg w]
        refine ⟨kw_sl (kw_sl σ 6 2 (kx_enc (some z))) 6 3 (nI k).toInt64, by rw [kw_natL (by omega)]; rfl, ?_, s2⟩
        show kx_mu _ (if z * (p.2 : Int) < p.1 * (k : Int) then some (z, k) else some p)
        rw [if_pos (by omega)]
        exact s1
/-- the rows of reckoning and the mean were changed -/
def kx_oM (σ τ : kw_M) : Prop := τ.1 = σ.1 ∧ ∀ q, q ≠ 6 → q ≠ 43 → q ≠ 44 → τ.2 q = σ.2 q
theorem kx_mu_fr {σ τ : kw_M} {mu : Option (Int × Nat)} (h : kx_mu σ mu) (e : τ.2 6 = σ.2 6) : kx_mu τ mu := by
  unfold kx_mu at h ⊢
  rw [e]
  exact h
theorem kx_meanRow {σ : kw_M} {F : Nat → Int32} {n m t : Nat} {mu : Option (Int × Nat)} (hrd : kx_rd σ 12 F m) (hw : kb_wf F n m) (hg : kr_good (km_gr F m (-1))) (ht : t < n) (h43 : kx_rw σ 43 (kr_one t)) (hmu : kx_mu σ mu) (hmk : kp_mok mu) : ∃ τ, kw_loop (fun s => bX6_findLeastMean_26 (nI t) s.1 s.2) kw_F ((1 : Int32), σ) = some τ ∧ kx_mu τ (kp_mr (km_gr F m (-1)) t mu n) ∧ kx_oM σ τ := by
  have h12 := hw.2.2.1
  have hlen := km_wf_len hw.2.2.2.1 (-1)
  refine kw_for (body := fun s => bX6_findLeastMean_26 (nI t) s.1 s.2) (fun k s => s.1 = nI (k + 1) ∧ kx_rw s.2 43 (kr_ex (km_gr F m (-1)) t k) ∧ kx_mu s.2 (kp_mr (km_gr F m (-1)) t mu k) ∧ kx_oM σ s.2) (fun x => kx_mu x (kp_mr (km_gr F m (-1)) t mu n) ∧ kx_oM σ x) n (by omega) (s0 := ((1 : Int32), σ)) ⟨rfl, h43, hmu, rfl, fun _ _ _ _ => rfl⟩ (fun k s hk hp => ?_)
  obtain ⟨v, τ⟩ := s
  obtain ⟨rfl, e1, e2, o1, o2⟩ := hp
  dsimp only at e1 e2 o1 o2 ⊢
  unfold bX6_findLeastMean_26
  rw [show τ.1 12 0 = nI n by rw [o1]; exact hrd.1.trans hw.1]
  simp (disch := omega) only [kn_lt]
  by_cases hkn : k < n
  case neg =>
    right
    obtain rfl : k = n := by omega
    rw [if_pos (by omega)]
    exact ⟨_, rfl, e2, o1, o2⟩
  left
  refine ⟨hkn, ?_⟩
  have hexk := kr_ex_in (g := km_gr F m (-1)) (o := t) hlen k (by omega)
  have hrdτ : kx_rd (kj_st τ 44 12 (-9000000000000000000)) 12 F m := kx_rd_fr hrd (by show τ.1 12 = _; rw [o1]) (by show τ.1 _ = _; rw [o1]) (by show τ.1 _ = _; rw [o1]) (by show τ.1 _ = _; rw [o1]) (by unfold kj_st; rw [kw_rl_o (by decide)]; exact o2 12 (by decide) (by decide) (by decide))
  have h43' : kx_rw (kj_st τ 44 12 (-9000000000000000000)) 43 (kr_ex (km_gr F m (-1)) t k) := fun u hu => by
    unfold kj_st
    rw [kw_rl_o (by decide)]
    exact e1 u hu
  have h44' : kx_rw (kj_st τ 44 12 (-9000000000000000000)) 44 (fun _ => none) := fun u hu => by
    unfold kj_st
    rw [kw_rl_2, if_pos hu]
    rfl
  obtain ⟨b, τ2, s1, s2, ⟨s3, s4⟩, _⟩ := kx_stepAll (n := n) hrdτ hw h43' h44' hexk (fun u z hz => by cases hz) (by decide)
  obtain ⟨τ3, f1, f2, f3, f4⟩ := kx_foundIs s2
  have f2' : kx_rw τ3 43 (kr_ex (km_gr F m (-1)) t (k + 1)) := f2
  have hmu3 : kx_mu τ3 (kp_mr (km_gr F m (-1)) t mu k) := kx_mu_fr e2 (by rw [f4 6 (by decide), s4 6 (by decide)]; unfold kj_st; rw [kw_rl_o (by decide)])
  obtain ⟨τ4, t1, t2, t3, t4⟩ := kx_takeMean (v := kr_ex (km_gr F m (-1)) t (k + 1) t) (k := k + 1) hmu3 (kp_mr_ok hg hlen h12 hmk k (by omega)) (fun z hz => kr_ex_in hlen (k + 1) (by omega) t z hz) (by omega)
  rw [if_neg (by omega), kj_fill, Option.bind_some, s1, Option.bind_some]
  dsimp only
  rw [f1, Option.bind_some, kn_chk (by omega) (by decide), kn_clamp (by omega), f2' t (by omega), t1, Option.bind_some, kw_let_def, km_next]
  refine ⟨_, rfl, rfl, fun u hu => ?_, t2, ?_, fun q h6 h43 h44 => ?_⟩
  · dsimp only
    rw [t4 43 (by decide)]
    exact f2' u hu
  · exact t3.trans (f3.trans (s3.trans o1))
  · dsimp only
    rw [t4 q h6, f4 q h43, s4 q h44]
    unfold kj_st
    rw [kw_rl_o h44]
    exact o2 q h6 h43 h44
theorem kx_meanAll {σ : kw_M} {F : Nat → Int32} {n m : Nat} (hrd : kx_rd σ 12 F m) (hw : kb_wf F n m) (hg : kr_good (km_gr F m (-1))) (h0 : σ.2 6 3 = 0) : ∃ τ, kw_loop (fun s => bX6_findLeastMean_7 s.1 s.2) kw_F ((0 : Int32), σ) = some τ ∧ kx_mu τ (kp_ms (km_gr F m (-1)) n n) ∧ kx_oM σ τ := by
  have h12 := hw.2.2.1
  have hlen := km_wf_len hw.2.2.2.1 (-1)
  refine kw_for (body := fun s => bX6_findLeastMean_7 s.1 s.2) (fun k s => s.1 = nI k ∧ kx_mu s.2 (kp_ms (km_gr F m (-1)) n k) ∧ kx_oM σ s.2) (fun x => kx_mu x (kp_ms (km_gr F m (-1)) n n) ∧ kx_oM σ x) n (by omega) (s0 := ((0 : Int32), σ)) ⟨rfl, h0, rfl, fun _ _ _ _ => rfl⟩ (fun k s hk hp => ?_)
  obtain ⟨v, τ⟩ := s
  obtain ⟨rfl, e2, o1, o2⟩ := hp
  dsimp only at e2 o1 o2 ⊢
  unfold bX6_findLeastMean_7
  rw [show τ.1 12 0 = nI n by rw [o1]; exact hrd.1.trans hw.1]
  by_cases hkn : k < n
  case neg =>
    right
    obtain rfl : k = n := by omega
    rw [if_pos (nI_le (Nat.le_refl k) (by omega))]
    exact ⟨_, rfl, e2, o1, o2⟩
  left
  refine ⟨hkn, ?_⟩
  obtain ⟨σ1, a1, a2, a3, a4⟩ := kx_beginRow (σ := τ) (o := k) (by omega)
  obtain ⟨τ2, b1, b2, b3, b4⟩ := kx_meanRow (σ := σ1) (F := F) (n := n) (m := m) (t := k) (mu := kp_ms (km_gr F m (-1)) n k) (kx_rd_fr hrd (by rw [a3, o1]) (by rw [a3, o1]) (by rw [a3, o1]) (by rw [a3, o1]) (by rw [a4 12 (by decide)]; exact o2 12 (by decide) (by decide) (by decide))) hw hg hkn a2 (kx_mu_fr e2 (a4 6 (by decide))) (kp_ms_ok hg hlen h12 k)
  rw [if_neg (nI_ge hkn (by omega)), a1, Option.bind_some, b1, Option.bind_some, kw_let_def, km_next]
  exact ⟨_, rfl, rfl, b2, b3.trans (a3.trans o1), fun q h6 h43 h44 => by rw [b4 q h6 h43 h44, a4 q h43]; exact o2 q h6 h43 h44⟩
