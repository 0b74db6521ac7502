/-! The class's settle in closed form. -/
def kj_st (σ : kw_M) (c k : Nat) (v : Int64) : kw_M := kw_rl σ c (fun t => if t < k then v else σ.2 c t)
theorem kj_st_0 (σ : kw_M) (c : Nat) (v : Int64) : kj_st σ c 0 v = σ := by
  unfold kj_st kw_rl
  refine Prod.ext rfl ?_
  funext q
  by_cases hc : q = c
  · subst hc
    simp
  · simp only [hc, if_false]
theorem kj_st_s (σ : kw_M) (c k : Nat) (v : Int64) : kw_sl (kj_st σ c k v) c k v = kj_st σ c (k + 1) v := by
  unfold kj_st kw_sl
  refine Prod.ext rfl ?_
  funext q
  by_cases hc : q = c
  · subst hc
    simp only [kw_rl, if_true]
    funext j
    unfold vp_updL
    dsimp only
    by_cases hj : j = k
    · subst hj
      rw [if_pos rfl, if_pos (by omega)]
    · rw [if_neg hj]
      by_cases h2 : j < k
      · rw [if_pos h2, if_pos (by omega)]
      · rw [if_neg h2, if_neg (by omega)]
  · simp only [kw_rl, hc, if_false]
/-- Arrays.fill of twelve longs -/
theorem kj_fill (σ : kw_M) (c : Nat) (v : Int64) : fXJ7_fill_d0a16 c v σ = some (kj_st σ c 12 v) := by
  unfold fXJ7_fill_d0a16
  have h := kw_loop_at (body := fun s => bJ7_fill_d0a16_6 c v (12 : Int32) s.1 s.2) (fun k => (nI k, kj_st σ c k v)) (x := kj_st σ c 12 v) 12 (fun k hk => by
    show bJ7_fill_d0a16_6 c v (12 : Int32) (nI k) (kj_st σ c k v) = _
    unfold bJ7_fill_d0a16_6
    rw [show (12 : Int32) = nI 12 by decide, if_neg (nI_ge hk (by decide)), kw_chk_t (kw_in_nI hk (by decide)), kw_let_def, kw_let_def, nI_clamp (by omega), km_next, kj_st_s]) (by
    show bJ7_fill_d0a16_6 c v (12 : Int32) (nI 12) (kj_st σ c 12 v) = _
    unfold bJ7_fill_d0a16_6
    rw [if_pos (by decide)]) (by decide)
  have h0 : ((nI 0, kj_st σ c 0 v) : Int32 × kw_M) = ((0 : Int32), σ) := by rw [kj_st_0]; rfl
  simp only [h0] at h
  rw [h]
  rfl
theorem kx_row_one (σ : kw_M) (c : Nat) {o : Nat} (ho : o < 12) : kw_sl (kj_st σ c 12 (-9000000000000000000)) c o 0 = kx_row σ c (kr_one o) := by
  unfold kj_st kw_sl kx_row
  refine Prod.ext rfl ?_
  funext q
  by_cases hc : q = c
  · subst hc
    simp only [kw_rl, if_true]
    funext j
    unfold vp_updL kr_one
    dsimp only
    by_cases hj : j = o
    · subst hj
      rw [if_pos rfl, if_pos ho, if_pos rfl]
      rfl
    · rw [if_neg hj, if_neg hj]
      rfl
  · simp only [kw_rl, hc, if_false]
/-- whether one of the first k roads makes something less -/
def kr_any (g : kr_G) (d : kr_D) : Nat → Bool
  | 0 => false
  | k + 1 => kr_any g d k || kr_chg g (kr_rnd g d k) k
theorem kr_any_f {g : kr_G} {d : kr_D} : ∀ k : Nat, kr_any g d k = false → kr_rnd g d k = d
  | 0, _ => rfl
  | k + 1, h => by
    have h' : (kr_any g d k || kr_chg g (kr_rnd g d k) k) = false := h
    obtain ⟨h1, h2⟩ := Bool.or_eq_false_iff.mp h'
    show kr_rlx g (kr_rnd g d k) k = d
    rw [kr_chg_f h2]
    exact kr_any_f k h1
theorem kx_wf_len {σ : kw_M} {c m : Nat} (hw : kx_wf σ c m) (but : Int32) : ∀ r, r < (kx_gr σ c m but).1 → -1000000000 ≤ (kx_gr σ c m but).2.2.2.1 r ∧ (kx_gr σ c m but).2.2.2.1 r ≤ 1000000000 := fun r hr => ⟨(hw.2.2 r hr).2.2.1, (hw.2.2 r hr).2.2.2⟩
theorem kx_settle_rnd {σ : kw_M} {d : kr_D} {c0 c3 m : Nat} {but v5 : Int32} {B : Int} (hc : c0 ≠ c3) (hw : kx_wf σ c0 m) (hB : kr_in d B) (hB2 : B ≤ 900000000000000) : kw_loop (fun s => bX4_settle_37 c0 c3 but v5 s.1 s.2.1 s.2.2) kw_F ((0 : Int32), (0 : Int32), kx_row σ c3 d) = some (kx_fl (kr_any (kx_gr σ c0 m but) d m), kx_row σ c3 (kr_rnd (kx_gr σ c0 m but) d m)) := by
  have hk : ∀ k, k ≤ m → kr_in (kr_rnd (kx_gr σ c0 m but) d k) 1000000000000000 := fun k hk => by
    refine kr_in_mono (kr_in_rnd hB (M := 1000000000) (by decide) (kx_wf_len hw but) k hk) ?_
    have := hw.1
    have h2 : (k : Int) ≤ 36 := by omega
    omega
  have h := kw_loop_at (body := fun s => bX4_settle_37 c0 c3 but v5 s.1 s.2.1 s.2.2) (fun k => (kx_fl (kr_any (kx_gr σ c0 m but) d k), nI k, kx_row σ c3 (kr_rnd (kx_gr σ c0 m but) d k))) (x := (kx_fl (kr_any (kx_gr σ c0 m but) d m), kx_row σ c3 (kr_rnd (kx_gr σ c0 m but) d m))) m (fun k hkm => kx_settle_r hc hw hkm (hk k (by omega))) (by
    show bX4_settle_37 c0 c3 but v5 _ (nI m) _ = _
    unfold bX4_settle_37
    rw [show (kx_row σ c3 (kr_rnd (kx_gr σ c0 m but) d m)).1 c0 1 = nI m from hw.2.1, if_pos (nI_le (Nat.le_refl m) (by have := hw.1; omega))]) (by have := hw.1; omega)
  exact h
theorem kr_bf_fix {g : kr_G} {d : kr_D} {i : Nat} (h : kr_bf g d (i + 1) = kr_bf g d i) : ∀ j : Nat, kr_bf g d (i + j) = kr_bf g d i
  | 0 => rfl
  | j + 1 => by
    show kr_rnd g (kr_bf g d (i + j)) g.1 = _
    rw [kr_bf_fix h j]
    exact h
/-- whether the rounds go on behind the i-th -/
def kr_on (g : kr_G) (d : kr_D) : Nat → Bool
  | 0 => true
  | i + 1 => kr_any g (kr_bf g d i) g.1
theorem kr_stop {g : kr_G} {d : kr_D} : ∀ n : Nat, ∃ e, e ≤ n ∧ (∀ k, k < e → kr_on g d k = true) ∧ (e = n ∨ kr_on g d e = false) ∧ kr_bf g d e = kr_bf g d n
  | 0 => ⟨0, Nat.le_refl _, fun k hk => absurd hk (Nat.not_lt_zero k), Or.inl rfl, rfl⟩
  | n + 1 => by
    obtain ⟨e, h1, h2, h3, h4⟩ := kr_stop (g := g) (d := d) n
    cases hon : kr_on g d e with
    | true =>
      have he : e = n := h3.elim id (fun q => by rw [hon] at q; cases q)
      subst he
      refine ⟨e + 1, Nat.le_refl _, fun k hk => ?_, Or.inl rfl, rfl⟩
      by_cases hke : k = e
      · rw [hke]; exact hon
      · exact h2 k (by omega)
    | false =>
      refine ⟨e, by omega, h2, Or.inr hon, ?_⟩
      cases e with
      | zero => cases hon
      | succ i =>
        have hfix : kr_bf g d (i + 1) = kr_bf g d i := kr_any_f g.1 hon
        have a1 := kr_bf_fix hfix (n + 1 - i)
        rw [show i + (n + 1 - i) = n + 1 by omega] at a1
        rw [hfix, a1]
/-- settle: Bellman-Ford from a town, one road left out, as many rounds as there are towns -/
theorem kx_settle {σ : kw_M} {c0 c3 m n o : Nat} {but : Int32} (hc : c0 ≠ c3) (hw : kx_wf σ c0 m) (hn : σ.1 c0 0 = nI n) (h12 : n ≤ 12) (ho : o < 12) : fX4_settle c0 c3 (nI o) but σ = some (kx_row σ c3 (kr_bf (kx_gr σ c0 m but) (kr_one o) n)) := by
  unfold fX4_settle
  rw [kj_fill]
  show kw_chk (kw_in (nI o) 12) _ = _
  rw [kw_chk_t (kw_in_nI ho (by decide)), kw_let_def, nI_clamp (by omega), kx_row_one σ c3 ho]
  have hb : ∀ i, i ≤ 12 → kr_in (kr_bf (kx_gr σ c0 m but) (kr_one o) i) 900000000000000 := fun i hi => by
    refine kr_in_mono (km_bf_in (g := kx_gr σ c0 m but) hw.1 (kx_wf_len hw but) i) ?_
    have : (i : Int) ≤ 12 := by omega
    omega
  obtain ⟨e, he, hgo, hst, hbf⟩ := kr_stop (g := kx_gr σ c0 m but) (d := kr_one o) n
  have h := kw_loop_at (body := fun s => bX4_settle_17 c0 c3 but s.1 s.2.1 s.2.2) (fun i => (kx_fl (kr_on (kx_gr σ c0 m but) (kr_one o) i), nI i, kx_row σ c3 (kr_bf (kx_gr σ c0 m but) (kr_one o) i))) (x := kx_row σ c3 (kr_bf (kx_gr σ c0 m but) (kr_one o) n)) e (fun i hi => by
    show bX4_settle_17 c0 c3 but (kx_fl _) (nI i) _ = _
    unfold bX4_settle_17
    rw [show (kx_row σ c3 (kr_bf (kx_gr σ c0 m but) (kr_one o) i)).1 c0 0 = nI n from hn, if_neg (nI_ge (by omega) (by omega)), hgo i hi, if_neg (by decide), kx_settle_rnd hc hw (hb i (by omega)) (Int.le_refl _)]
    show some (Sum.inl (_, nI i + 1, _)) = _
    rw [km_next]
    rfl) (by
    show bX4_settle_17 c0 c3 but (kx_fl _) (nI e) _ = _
    unfold bX4_settle_17
    rw [show (kx_row σ c3 (kr_bf (kx_gr σ c0 m but) (kr_one o) e)).1 c0 0 = nI n from hn, hbf]
    by_cases hen : e = n
    · subst hen
      rw [if_pos (nI_le (Nat.le_refl e) (by omega))]
    · rw [if_neg (nI_ge (by omega) (by omega)), hst.resolve_left hen, if_pos (by decide)]) (by omega)
  have h0 : kw_loop (fun s => bX4_settle_17 c0 c3 but s.1 s.2.1 s.2.2) kw_F ((1 : Int32), (0 : Int32), kx_row σ c3 (kr_one o)) = some (kx_row σ c3 (kr_bf (kx_gr σ c0 m but) (kr_one o) n)) := h
  rw [h0]
  rfl
