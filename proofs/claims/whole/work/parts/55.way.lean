/-! The way back: goesBack, findWay; way. -/
/-- the road that is k roads back, as it is written -/
def kr_rb (g : kr_G) (d : kr_D) (t k : Nat) : Int32 := kx_pe (kr_par g d (kr_bk g d t k))
/-- N roads back is the origin, and not sooner -/
def kr_N (g : kr_G) (d : kr_D) (o t N : Nat) : Prop := kr_bk g d t N = o ∧ ∀ k, k < N → kr_bk g d t k ≠ o ∧ ∃ r, kr_par g d (kr_bk g d t k) = some r
theorem kr_bk_lt {g : kr_G} {d : kr_D} {n t : Nat} (ht : kr_tn g n) (htn : t < n) : ∀ k : Nat, kr_bk g d t k < n
  | 0 => htn
  | k + 1 => by
    cases h : kr_par g d (kr_bk g d t k) with
    | some r =>
      rw [kr_bk_s h]
      exact (ht r (kr_par_some h).1).1
    | none =>
      have e : kr_bk g d t (k + 1) = kr_bk g d t k := by
        show (match kr_par g d (kr_bk g d t k) with
          | some r => g.2.1 r
          | none => kr_bk g d t k) = _
        rw [h]
      rw [e]
      exact kr_bk_lt ht htn k
theorem kx_pe_neg {r m : Nat} {g : kr_G} {d : kr_D} {t : Nat} (hm : g.1 = m) (h36 : m ≤ 36) (h : kr_par g d t = some r) : ¬ kx_pe (kr_par g d t) = -1 := by
  rw [h]
  have := (kr_par_some h).1
  exact kb_neg1 (by omega)
theorem km_goesBack {σ : kw_M} {m n o t N : Nat} {d : kr_D} (hw : kb_wf (σ.1 1) n m) (ho : σ.1 1 2 = nI o) (hon : o < n) (htn : t < n) (hrow : ∀ t, t < 12 → σ.2 3 t = km_enc (d t)) (hd : kr_row d) (hz : d t ≠ none) (hN : N < 12) (h : kr_N (km_gr (σ.1 1) m (-1)) d o t N) : ∃ τ, fX10_goesBack (nI t) σ = some (nI N, τ) ∧ τ.2 = σ.2 ∧ (∀ c, c ≠ 8 → τ.1 c = σ.1 c) ∧ ∀ k, k < N → τ.1 8 k = kr_rb (km_gr (σ.1 1) m (-1)) d t k := by
  have hm := hw.2.2.2.1.1
  have h12 := hw.2.2.1
  have htw := kb_tn hw (-1)
  obtain ⟨x, hx, e1, e2, e3, e4⟩ := kw_for (body := fun s => bX10_goesBack_19 s.1 s.2.1 s.2.2) (fun k s => s.1 = nI k ∧ s.2.1 = nI (kr_bk (km_gr (σ.1 1) m (-1)) d t k) ∧ s.2.2.2 = σ.2 ∧ (∀ c, c ≠ 8 → s.2.2.1 c = σ.1 c) ∧ ∀ i, i < k → s.2.2.1 8 i = kr_rb (km_gr (σ.1 1) m (-1)) d t i) (fun x => x.1 = nI N ∧ x.2.2 = σ.2 ∧ (∀ c, c ≠ 8 → x.2.1 c = σ.1 c) ∧ ∀ k, k < N → x.2.1 8 k = kr_rb (km_gr (σ.1 1) m (-1)) d t k) N (by omega) (s0 := ((0 : Int32), nI t, σ)) ⟨rfl, rfl, rfl, fun _ _ => rfl, fun i hi => absurd hi (Nat.not_lt_zero _)⟩ (fun k s hk hp => by
    obtain ⟨v2, v3, τ⟩ := s
    obtain ⟨rfl, rfl, h2, hc, hr⟩ := hp
    dsimp only at h2 hc hr ⊢
    have hbl := kr_bk_lt (d := d) htw htn k
    unfold bX10_goesBack_19
    rw [hc 1 (by decide), ho]
    simp only [kn_eq (show kr_bk (km_gr (σ.1 1) m (-1)) d t k < 2147483648 by omega) (show o < 2147483648 by omega)]
    by_cases hkN : k < N
    · left
      refine ⟨hkN, ?_⟩
      obtain ⟨hne, r, hpr⟩ := h.2 k hkN
      have hr36 : r < 36 := by
        have := (kr_par_some hpr).1
        have : r < m := this
        omega
      have hwτ : km_wf (τ.1 1) m := by rw [hc 1 (by decide)]; exact hw.2.2.2.1
      have hp2 : fX10_parentOf (nI (kr_bk (km_gr (σ.1 1) m (-1)) d t k)) τ = some (nI r) := by
        rw [km_parentOf hwτ (by omega) (fun u hu => by rw [h2]; exact hrow u hu) hd, hc 1 (by decide), hpr]
        rfl
      obtain ⟨hfr, _, _, _⟩ := hw.2.2.2.1.2.2 r (kr_par_some hpr).1
      rw [if_neg hne, hp2, Option.bind_some, kn_chk (by omega) (by decide), kn_clamp (by omega), kw_let_def, kw_si_1, kw_upd_e, km_of0 hr36, Option.bind_some, kw_let_def, km_next, kw_si_o (by decide), hc 1 (by decide)]
      refine ⟨_, rfl, rfl, ?_, h2, fun c hc' => (kw_si_o hc').trans (hc c hc'), fun i hi => ?_⟩
      · dsimp only
        rw [kr_bk_s hpr]
        exact kw_in_nI_of hfr (by decide)
      · dsimp only
        rw [kw_si_1]
        by_cases e : i = k
        · subst e
          rw [kw_upd_e]
          unfold kr_rb
          rw [hpr]
          rfl
        · rw [kw_upd_n e]
          exact hr i (by omega)
    · right
      obtain rfl : k = N := by omega
      rw [if_pos h.1]
      exact ⟨_, rfl, rfl, h2, hc, hr⟩)
  unfold fX10_goesBack
  rw [kn_chk (by omega) (by decide), kn_clamp (by omega), hrow t (by omega)]
  simp only [km_enc_e (kr_row_bd hd t)]
  rw [if_neg hz, hx, Option.bind_some]
  exact ⟨x.2, by rw [e1], e2, e3, e4⟩
theorem km_goesBack_no {σ : kw_M} {t : Nat} {d : kr_D} (ht : t < 12) (hrow : σ.2 3 t = km_enc (d t)) (hz : d t = none) : fX10_goesBack (nI t) σ = some (-1, σ) := by
  unfold fX10_goesBack
  rw [kn_chk (by omega) (by decide), kn_clamp (by omega), hrow, hz, if_pos (show km_enc none = 900000000000000000 from rfl)]
/-- the class's first loop: the roads back -/
theorem kx_findWay1 {σ : kw_M} {F : Nat → Int32} {m n o t N : Nat} {d : kr_D} (hw : kb_wf F n m) (hrd : kx_rd σ 12 F m) (htn : t < n) (hpar : ∀ t, t < 12 → σ.1 17 t = kx_pe (kr_par (km_gr F m (-1)) d t)) (hN : N < 12) (h : kr_N (km_gr F m (-1)) d o t N) (ho : kr_par (km_gr F m (-1)) d o = none) : ∃ τ, kw_loop (fun s => bX6_findWay_5 s.1 s.2.1 s.2.2) kw_F ((0 : Int32), nI t, σ) = some (nI N, τ) ∧ τ.2 = σ.2 ∧ (∀ c, c ≠ 42 → τ.1 c = σ.1 c) ∧ ∀ k, k < N → τ.1 42 k = kr_rb (km_gr F m (-1)) d t k := by
  have hm := hw.2.2.2.1.1
  have h12 := hw.2.2.1
  have htw := kb_tn hw (-1)
  obtain ⟨x, hx, e1, e2, e3, e4⟩ := kw_for (body := fun s => bX6_findWay_5 s.1 s.2.1 s.2.2) (fun k s => s.1 = nI k ∧ s.2.1 = nI (kr_bk (km_gr F m (-1)) d t k) ∧ s.2.2.2 = σ.2 ∧ (∀ c, c ≠ 42 → s.2.2.1 c = σ.1 c) ∧ ∀ i, i < k → s.2.2.1 42 i = kr_rb (km_gr F m (-1)) d t i) (fun x => x.1 = nI N ∧ x.2.2 = σ.2 ∧ (∀ c, c ≠ 42 → x.2.1 c = σ.1 c) ∧ ∀ k, k < N → x.2.1 42 k = kr_rb (km_gr F m (-1)) d t k) N (by omega) (s0 := ((0 : Int32), nI t, σ)) ⟨rfl, rfl, rfl, fun _ _ => rfl, fun i hi => absurd hi (Nat.not_lt_zero _)⟩ (fun k s hk hp => by
    obtain ⟨v2, v3, τ⟩ := s
    obtain ⟨rfl, rfl, h2, hc, hr⟩ := hp
    dsimp only at h2 hc hr ⊢
    have hbl := kr_bk_lt (d := d) htw htn k
    have h17 : τ.1 17 (kr_bk (km_gr F m (-1)) d t k) = kx_pe (kr_par (km_gr F m (-1)) d (kr_bk (km_gr F m (-1)) d t k)) := by
      rw [hc 17 (by decide)]
      exact hpar _ (by omega)
    unfold bX6_findWay_5
    rw [if_neg (by simp (disch := omega) only [kn_12, kn_le]; omega), kn_chk (by omega) (by decide), kn_clamp (show kr_bk (km_gr F m (-1)) d t k < 2147483648 by omega)]
    by_cases hkN : k < N
    · left
      refine ⟨hkN, ?_⟩
      obtain ⟨hne, r, hpr⟩ := h.2 k hkN
      have hrm : r < m := (kr_par_some hpr).1
      obtain ⟨hfr, _, _, _⟩ := hw.2.2.2.1.2.2 r hrm
      have e18 : τ.1 18 r = F (28 + 4 * r + 0) := by
        rw [hc 18 (by decide)]
        exact (hrd.2.2.1 r hrm).1
      have h17r : τ.1 17 (kr_bk (km_gr F m (-1)) d t k) = nI r := h17.trans (by rw [hpr]; rfl)
      rw [h17r, if_neg (kb_neg1 (by omega)), kn_chk (show k < 12 by omega) (by decide), kn_clamp (show k < 2147483648 by omega), kw_let_def, kw_si_o (by decide), h17r, kn_chk (show r < 36 by omega) (by decide), kw_let_def, kw_si_o (by decide), kn_clamp (show r < 2147483648 by omega), e18, kw_let_def, km_next]
      refine ⟨_, rfl, rfl, ?_, h2, fun c hc' => (kw_si_o hc').trans (hc c hc'), fun i hi => ?_⟩
      · dsimp only
        rw [kr_bk_s hpr]
        exact kw_in_nI_of hfr (by decide)
      · dsimp only
        rw [kw_si_1]
        by_cases e : i = k
        · subst e
          rw [kw_upd_e]
          unfold kr_rb
          rw [hpr]
          rfl
        · rw [kw_upd_n e]
          exact hr i (by omega)
    · right
      obtain rfl : k = N := by omega
      rw [h17, h.1, ho, if_pos (show kx_pe none = -1 from rfl)]
      exact ⟨_, rfl, rfl, h2, hc, hr⟩)
  exact ⟨x.2, by rw [hx, ← e1], e2, e3, e4⟩
/-- and turned round -/
theorem kx_findWay2 {σ : kw_M} {N : Nat} (hN : N < 12) : ∃ τ, jX6_findWay_58 (nI N) σ = some (nI N, τ) ∧ τ.2 = σ.2 ∧ (∀ c, c ≠ 42 → τ.1 c = σ.1 c) ∧ ∀ k, k < N → τ.1 42 k = σ.1 42 (N - 1 - k) := by
  obtain ⟨x, hx, e2, e3, e4⟩ := kw_for (body := fun s => bX6_findWay_61 (nI N) s.1 s.2) (fun k s => s.1 = nI k ∧ s.2.2 = σ.2 ∧ (∀ c, c ≠ 42 → s.2.1 c = σ.1 c) ∧ ∀ i, i < N → s.2.1 42 i = if i < k ∨ N ≤ i + k then σ.1 42 (N - 1 - i) else σ.1 42 i) (fun x => x.2 = σ.2 ∧ (∀ c, c ≠ 42 → x.1 c = σ.1 c) ∧ ∀ k, k < N → x.1 42 k = σ.1 42 (N - 1 - k)) (N / 2) (by omega) (s0 := ((0 : Int32), σ)) ⟨rfl, rfl, fun _ _ => rfl, fun i hi => by rw [if_neg (by omega)]⟩ (fun k s hk hp => by
    obtain ⟨v, τ⟩ := s
    obtain ⟨rfl, h2, hc, hr⟩ := hp
    dsimp only at h2 hc hr ⊢
    unfold bX6_findWay_61
    rw [kn_2, pk_div (by omega) (by decide) (by decide)]
    by_cases h : k < N / 2
    · left
      refine ⟨h, ?_⟩
      have e1 : nI N - 1 - nI k = nI (N - 1 - k) := by rw [kn_1, kn_sub (by omega), kn_sub (by omega)]
      rw [if_neg (nI_ge h (by omega)), e1]
      simp (disch := omega) only [kn_chk, kn_clamp, kw_let_def, km_next]
      refine ⟨_, rfl, rfl, h2, fun c hc' => by dsimp only; rw [kw_si_o hc', kw_si_o hc']; exact hc c hc', fun i hi => ?_⟩
      dsimp only
      rw [kw_si_1, kw_si_1]
      by_cases i1 : i = k
      · subst i1
        rw [kw_upd_e, if_pos (by omega), hr _ (by omega), if_neg (by omega)]
      · rw [kw_upd_n i1]
        by_cases i2 : i = N - 1 - k
        · subst i2
          rw [kw_upd_e, if_pos (by omega), hr k (by omega), if_neg (by omega), show N - 1 - (N - 1 - k) = k by omega]
        · rw [kw_upd_n i2, hr i hi]
          by_cases q : i < k ∨ N ≤ i + k
          · rw [if_pos q, if_pos (by omega)]
          · rw [if_neg q, if_neg (by omega)]
    · right
      obtain rfl : k = N / 2 := by omega
      rw [if_pos (nI_le (Nat.le_refl _) (by omega))]
      refine ⟨_, rfl, h2, hc, fun i hi => ?_⟩
      rw [hr i hi]
      by_cases q : i < N / 2 ∨ N ≤ i + N / 2
      · rw [if_pos q]
      · rw [if_neg q, show N - 1 - i = i by omega])
  unfold jX6_findWay_58
  rw [hx]
  exact ⟨x, rfl, e2, e3, e4⟩
theorem kx_findWay {σ : kw_M} {F : Nat → Int32} {m n o t N : Nat} (hok : kb_ok F n m o) (hsh : kx_sh σ 1 12 F n m o) (htn : t < n) (hN : N < 12) (h : kr_N (km_gr F m (-1)) (kb_D F n m o) o t N) : ∃ τ, fX9_findWay (nI t) σ = some (nI N, τ) ∧ τ.2 = σ.2 ∧ (∀ c, c ≠ 42 → τ.1 c = σ.1 c) ∧ ∀ k, k < N → τ.1 42 k = kr_rb (km_gr F m (-1)) (kb_D F n m o) t (N - 1 - k) := by
  obtain ⟨τ1, a1, a2, a3, a4⟩ := kx_findWay1 (n := n) hok.1 hsh.1 htn (fun t ht => hsh.2.2.2.2.2.1 t ht) hN h (kr_par_o hok.2.2.2.1 (kb_tn hok.1 (-1)) hok.2.2.1)
  obtain ⟨τ2, b1, b2, b3, b4⟩ := kx_findWay2 (σ := τ1) hN
  unfold fX9_findWay fX6_findWay
  rw [a1, Option.bind_some, b1, Option.bind_some]
  exact ⟨τ2, rfl, b2.trans a2, fun c hc => (b3 c hc).trans (a3 c hc), fun k hk => by rw [b4 k hk, a4 _ (by omega)]⟩
theorem kx_q_42 {σ τ : kw_M} {F : Nat → Int32} {n m : Nat} (hpr : kx_pr σ F n m) (h2 : τ.2 = σ.2) (h1 : ∀ c, c ≠ 42 → τ.1 c = σ.1 c) : kx_q σ τ F n m := ⟨⟨fun c hc => h1 c (by omega), fun c _ => by rw [h2]⟩, ⟨fun c hc => h1 c (by omega), fun c _ => by rw [h2]⟩, kx_pr_eq hpr (h1 5 (by decide)) (by rw [h2]) (fun _ _ _ => rfl)⟩
theorem km_q_8 {σ τ : kw_M} (h1 : ∀ c, c ≠ 8 → τ.1 c = σ.1 c) : km_q σ τ := ⟨h1 1 (by decide), by rw [h1 0 (by decide)], by rw [h1 0 (by decide)], h1 5 (by decide)⟩
/-- so many roads the way has -/
theorem kb_N {F : Nat → Int32} {n m o t : Nat} (hok : kb_ok F n m o) (htn : t < n) (hz : kb_D F n m o t ≠ none) : ∃ N, N < n ∧ kr_N (km_gr F m (-1)) (kb_D F n m o) o t N := by
  cases h : kb_D F n m o t with
  | none => exact absurd h hz
  | some z =>
    obtain ⟨N, h1, h2, h3⟩ := kr_back_o hok.2.2.2.1 (kb_tn hok.1 (-1)) hok.2.2.1 htn h
    exact ⟨N, h1, h2, h3⟩
theorem ko_way {σX σM : kw_M} {a1 a2 : Int32} (hR : kw_Rel σX σM) : ∃ a τX τM, fX9_way a1 a2 σX = some (a, τX) ∧ fX10_way a1 a2 σM = some (a, τM) ∧ kw_Rel τX τM := by
  obtain ⟨n, m, o, hok, hsh, hkp, htp, hpr⟩ := hR
  have h2 := hok.1.2.1
  have h12 := hok.1.2.2.1
  have hon := hok.2.2.1
  have hnX : σX.1 12 0 = nI n := hsh.1.1.trans hok.1.1
  have same : kw_Rel σX σM := ⟨n, m, o, hok, hsh, hkp, htp, hpr⟩
  have hxq : kx_q σX σX (σM.1 1) n m := ⟨kx_kO_r _, kx_kN_r _, hpr⟩
  unfold fX9_way fX10_way
  rw [kx_hasTown hnX h12, km_isTown hok.1.1 h12]
  simp only [Option.bind_some, kx_fl_0]
  have e0 : (a2 < (0 : Int32)) = ¬ (0 : Int32) ≤ a2 := propext (Int32.not_le).symm
  simp only [e0]
  by_cases h0 : (0 : Int32) ≤ a2
  case neg =>
    rw [if_pos h0, if_neg h0]
    refine ⟨_, _, σM, rfl, ?_, same⟩
    by_cases t1 : 0 ≤ a1.toInt ∧ a1.toInt < n
    · rw [decide_eq_true t1, kn_tf]
    · rw [decide_eq_false t1, kn_ff]
  rw [if_neg (fun q => q h0), if_pos h0]
  by_cases t1 : 0 ≤ a1.toInt ∧ a1.toInt < n
  case neg =>
    simp only [decide_eq_false t1, kn_ff]
    exact ⟨_, _, _, rfl, rfl, same⟩
  simp only [decide_eq_true t1, kn_tf]
  obtain ⟨t, ht, rfl⟩ := kw_arg (by omega) t1
  obtain ⟨ρ, s1, s2, s3, s4⟩ := km_settles' hok.1.2.2.2.1 hok.1.1 (by omega) h12 hok.2.1 (by omega)
  rw [kx_hasDistance (hsh.2.2.2.2.1 t (by omega)) (kr_row_bd (kb_row hok) t) (by omega), Option.bind_some, s1, Option.bind_some]
  simp only [kx_fl_0]
  by_cases hz : kb_D (σM.1 1) n m o t = none
  · rw [hz, km_goesBack_no (d := kb_D (σM.1 1) n m o) (by omega) (s3 t (by omega)) hz, Option.bind_some, if_pos (show Option.isSome (none : Option Int) = false from rfl)]
    exact ⟨_, _, _, rfl, rfl, kw_Rel_a hok hsh hkp htp hxq (km_q_e s2)⟩
  · have hsome : (kb_D (σM.1 1) n m o t).isSome = true := by
      cases hq : kb_D (σM.1 1) n m o t with
      | none => exact absurd hq hz
      | some z => rfl
    obtain ⟨N, hN, hNN⟩ := kb_N hok ht hz
    obtain ⟨τ, a1', a2', a3, a4⟩ := kx_findWay hok hsh ht (by omega) hNN
    obtain ⟨ρ2, b1, b2, b3, b4⟩ := km_goesBack (σ := ρ) (n := n) (m := m) (o := o) (t := t) (N := N) (d := kb_D (σM.1 1) n m o) (by rw [s2]; exact hok.1) (by rw [s2]; exact hok.2.1) hon ht s3 (kb_row hok) hz (by omega) (by rw [s2]; exact hNN)
    have rel : kw_Rel τ ρ2 := kw_Rel_a hok hsh hkp htp (kx_q_42 hpr a2' a3) (km_q_t (km_q_e s2) (km_q_8 b3))
    rw [hsome, if_neg (by decide), a1', Option.bind_some, b1, Option.bind_some]
    dsimp only
    rw [if_neg (kb_neg1 (by omega))]
    by_cases hle : nI N ≤ a2
    · rw [if_pos hle, if_pos hle]
      exact ⟨_, _, _, rfl, rfl, rel⟩
    · rw [if_neg hle, if_neg hle]
      rw [Int32.le_iff_toInt_le] at h0 hle
      rw [nI_toInt (by omega)] at hle
      rw [show (0 : Int32).toInt = 0 by decide] at h0
      obtain ⟨i, hi, rfl⟩ := kw_arg (n := N) (by omega) ⟨h0, by omega⟩
      have e1 : nI N - 1 - nI i = nI (N - 1 - i) := by rw [kn_1, kn_sub (by omega), kn_sub (by omega)]
      rw [e1, kn_chk (by omega) (by decide), kn_chk (by omega) (by decide), kn_clamp (by omega), kn_clamp (by omega), a4 i hi, b4 _ (by omega), s2]
      exact ⟨_, _, _, rfl, rfl, rel⟩
