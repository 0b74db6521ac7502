/-! What hangs below a town in the tree; check. -/
theorem kr_par_dn {g : kr_G} {d : kr_D} {t : Nat} (h : d t = none) : kr_par g d t = none := by
  cases hp : kr_par g d t with
  | none => rfl
  | some r =>
    obtain ⟨a, _, h2⟩ := kr_par_from hp
    rw [h] at h2
    cases h2
theorem kr_bk_stay {g : kr_G} {d : kr_D} {t N : Nat} (h : kr_par g d (kr_bk g d t N) = none) : ∀ j : Nat, kr_bk g d t (N + j) = kr_bk g d t N
  | 0 => rfl
  | j + 1 => by
    show (match kr_par g d (kr_bk g d t (N + j)) with
      | some r => g.2.1 r
      | none => kr_bk g d t (N + j)) = _
    rw [kr_bk_stay h j, h]
/-- whether one comes by town b on the way back from a -/
def kr_hit (g : kr_G) (d : kr_D) (a b : Nat) : Bool := kr_anyTo (fun k => decide (kr_bk g d a k = b)) 12
theorem kr_hit_end {g : kr_G} {d : kr_D} {a b e : Nat} (h1 : ∀ k, k < e → kr_bk g d a k ≠ b) (h2 : kr_bk g d a e = b ∨ kr_par g d (kr_bk g d a e) = none) (he : e < 12) : kr_hit g d a b = decide (kr_bk g d a e = b) := by
  unfold kr_hit
  by_cases q : kr_bk g d a e = b
  · rw [decide_eq_true q]
    exact kr_anyTo_t 12 e he (decide_eq_true q)
  · rw [decide_eq_false q]
    refine kr_anyTo_f 12 (fun k _ => decide_eq_false ?_)
    by_cases hk : k < e
    · exact h1 k hk
    · rcases h2 with h2 | h2
      · exact absurd h2 q
      · rw [show k = e + (k - e) by omega, kr_bk_stay h2]
        exact q
theorem kx_comesBy {σ : kw_M} {F : Nat → Int32} {n m o a b : Nat} (hok : kb_ok F n m o) (hsh : kx_sh σ 1 12 F n m o) (ha : a < n) (hb : b < n) : fX7_comesBy (nI a) (nI b) σ = some (kx_fl (kr_hit (km_gr F m (-1)) (kb_D F n m o) a b)) := by
  have hm := hok.1.2.2.2.1.1
  have h12 := hok.1.2.2.1
  have htw := kb_tn hok.1 (-1)
  have hpo := kr_par_o hok.2.2.2.1 htw hok.2.2.1
  obtain ⟨N, hN, hpN, hpk⟩ : ∃ N, N < 12 ∧ kr_par (km_gr F m (-1)) (kb_D F n m o) (kr_bk (km_gr F m (-1)) (kb_D F n m o) a N) = none ∧ ∀ k, k < N → ∃ r, kr_par (km_gr F m (-1)) (kb_D F n m o) (kr_bk (km_gr F m (-1)) (kb_D F n m o) a k) = some r := by
    by_cases hz : kb_D F n m o a = none
    · exact ⟨0, by omega, kr_par_dn hz, fun k hk => absurd hk (Nat.not_lt_zero _)⟩
    · obtain ⟨N, h1, h2, h3⟩ := kb_N hok ha hz
      exact ⟨N, by omega, by rw [h2]; exact hpo, fun k hk => (h3 k hk).2⟩
  obtain ⟨x, hx, e, hxe, he, hh⟩ := kw_for (body := fun s => bX7_comesBy_5 (nI b) σ s.1 s.2) (fun k s => s.1 = nI (kr_bk (km_gr F m (-1)) (kb_D F n m o) a k) ∧ s.2 = nI k ∧ ∀ i, i < k → kr_bk (km_gr F m (-1)) (kb_D F n m o) a i ≠ b) (fun x => ∃ e, x = nI (kr_bk (km_gr F m (-1)) (kb_D F n m o) a e) ∧ e < 12 ∧ kr_hit (km_gr F m (-1)) (kb_D F n m o) a b = decide (kr_bk (km_gr F m (-1)) (kb_D F n m o) a e = b)) N (by omega) (s0 := (nI a, (0 : Int32))) ⟨rfl, rfl, fun i hi => absurd hi (Nat.not_lt_zero _)⟩ (fun k s hk hp => by
    obtain ⟨v3, v4⟩ := s
    obtain ⟨rfl, rfl, hi⟩ := hp
    dsimp only at hi ⊢
    have hbl := kr_bk_lt (d := kb_D F n m o) htw ha k
    have h17 : σ.1 17 (kr_bk (km_gr F m (-1)) (kb_D F n m o) a k) = kx_pe (kr_par (km_gr F m (-1)) (kb_D F n m o) (kr_bk (km_gr F m (-1)) (kb_D F n m o) a k)) := hsh.2.2.2.2.2.1 _ (by omega)
    unfold bX7_comesBy_5
    rw [if_neg (by simp (disch := omega) only [kn_12, kn_le]; omega)]
    simp only [kn_eq (show kr_bk (km_gr F m (-1)) (kb_D F n m o) a k < 2147483648 by omega) (show b < 2147483648 by omega)]
    by_cases hb2 : kr_bk (km_gr F m (-1)) (kb_D F n m o) a k = b
    · right
      rw [if_pos hb2]
      exact ⟨_, rfl, k, rfl, by omega, kr_hit_end hi (Or.inl hb2) (by omega)⟩
    · rw [if_neg hb2, kn_chk (by omega) (by decide), kn_clamp (by omega)]
      by_cases hkN : k < N
      · left
        refine ⟨hkN, ?_⟩
        obtain ⟨r, hpr⟩ := hpk k hkN
        have hrm : r < m := (kr_par_some hpr).1
        obtain ⟨hfr, _, _, _⟩ := hok.1.2.2.2.1.2.2 r hrm
        have e18 : σ.1 18 r = F (28 + 4 * r + 0) := (hsh.1.2.2.1 r hrm).1
        have h17r : σ.1 17 (kr_bk (km_gr F m (-1)) (kb_D F n m o) a k) = nI r := h17.trans (by rw [hpr]; rfl)
        rw [h17r, if_neg (kb_neg1 (by omega)), kn_chk (by omega) (by decide), kw_let_def, kn_clamp (by omega), e18, kw_let_def, km_next]
        refine ⟨_, rfl, ?_, rfl, fun i hi' => ?_⟩
        · dsimp only
          rw [kr_bk_s hpr]
          exact kw_in_nI_of hfr (by decide)
        · by_cases q : i = k
          · rw [q]; exact hb2
          · exact hi i (by omega)
      · right
        obtain rfl : k = N := by omega
        rw [h17, hpN, if_pos (show kx_pe none = -1 from rfl)]
        exact ⟨_, rfl, k, rfl, by omega, kr_hit_end hi (Or.inr hpN) (by omega)⟩)
  have hbl := kr_bk_lt (d := kb_D F n m o) htw ha e
  unfold fX7_comesBy jX7_comesBy_48
  rw [hx, Option.bind_some, hxe, hh]
  simp only [kn_eq (show kr_bk (km_gr F m (-1)) (kb_D F n m o) a e < 2147483648 by omega) (show b < 2147483648 by omega)]
  by_cases q : kr_bk (km_gr F m (-1)) (kb_D F n m o) a e = b
  · rw [if_pos q, decide_eq_true q]; rfl
  · rw [if_neg q, decide_eq_false q]; rfl
def kr_blw (g : kr_G) (d : kr_D) (b t : Nat) : Bool := !decide (t = b) && kr_hit g d t b
theorem kx_below {σ : kw_M} {F : Nat → Int32} {n m o b : Nat} (hok : kb_ok F n m o) (hsh : kx_sh σ 1 12 F n m o) (hb : b < n) : fX7_belowCount (nI b) σ = some (nI (kr_cntb (kr_blw (km_gr F m (-1)) (kb_D F n m o) b) n)) := by
  have h12 := hok.1.2.2.1
  have hnX : σ.1 12 0 = nI n := hsh.1.1.trans hok.1.1
  unfold fX7_belowCount
  rw [kw_cntl (body := fun s => bX7_belowCount_4 (nI b) σ s.1 s.2) (kr_blw (km_gr F m (-1)) (kb_D F n m o) b) n (by omega) (fun k c hk => ?_) (fun c => ?_)]
  · rfl
  · dsimp only
    unfold bX7_belowCount_4
    rw [hnX, if_neg (nI_ge hk (by omega)), kx_comesBy hok hsh hk hb, Option.bind_some]
    simp only [kw_let_def, km_next, kn_eq (show k < 2147483648 by omega) (show b < 2147483648 by omega), kx_fl_0]
    unfold kr_blw
    by_cases q : k = b
    · rw [if_pos q, decide_eq_true q, Bool.not_true, Bool.false_and, if_neg (by decide)]
    · rw [if_neg q, decide_eq_false q, Bool.not_false, Bool.true_and]
      cases kr_hit (km_gr F m (-1)) (kb_D F n m o) k b <;> simp
  · dsimp only
    unfold bX7_belowCount_4
    rw [hnX, if_pos (nI_le (Nat.le_refl n) (by omega))]
theorem km_below {σ : kw_M} {n m o b : Nat} (hok : kb_ok (σ.1 1) n m o) (hrow : ∀ t, t < 12 → σ.2 3 t = km_enc (kb_D (σ.1 1) n m o t)) (hb : b < n) : fX10_belowOf (nI b) σ = some (nI (kr_cntb (kr_blw (km_gr (σ.1 1) m (-1)) (kb_D (σ.1 1) n m o) b) n)) := by
  have hm := hok.1.2.2.2.1.1
  have h12 := hok.1.2.2.1
  have hon := hok.2.2.1
  have htw := kb_tn hok.1 (-1)
  have hpo := kr_par_o hok.2.2.2.1 htw hok.2.2.1
  have hin : ∀ a, a < n → kb_D (σ.1 1) n m o a ≠ none → ∀ v2 v3 : Int32, ∃ y, kw_loop (fun s => bX10_belowOf_36 (nI b) v2 v3 σ s) kw_F (nI a) = some (nI y) ∧ y < 12 ∧ kr_hit (km_gr (σ.1 1) m (-1)) (kb_D (σ.1 1) n m o) a b = decide (y = b) := fun a ha hz v2 v3 => by
    obtain ⟨N, hN, h2, h3⟩ := kb_N hok ha hz
    obtain ⟨x, hx, e, hxe, he, hh⟩ := kw_for (body := fun s => bX10_belowOf_36 (nI b) v2 v3 σ s) (fun k s => s = nI (kr_bk (km_gr (σ.1 1) m (-1)) (kb_D (σ.1 1) n m o) a k) ∧ ∀ i, i < k → kr_bk (km_gr (σ.1 1) m (-1)) (kb_D (σ.1 1) n m o) a i ≠ b) (fun x => ∃ e, x = nI (kr_bk (km_gr (σ.1 1) m (-1)) (kb_D (σ.1 1) n m o) a e) ∧ e < 12 ∧ kr_hit (km_gr (σ.1 1) m (-1)) (kb_D (σ.1 1) n m o) a b = decide (kr_bk (km_gr (σ.1 1) m (-1)) (kb_D (σ.1 1) n m o) a e = b)) N (by omega) (s0 := nI a) ⟨rfl, fun i hi => absurd hi (Nat.not_lt_zero _)⟩ (fun k s hk hp => by
      obtain ⟨rfl, hi⟩ := hp
      have hbl := kr_bk_lt (d := kb_D (σ.1 1) n m o) htw ha k
      unfold bX10_belowOf_36
      rw [hok.2.1]
      simp only [kn_eq (show kr_bk (km_gr (σ.1 1) m (-1)) (kb_D (σ.1 1) n m o) a k < 2147483648 by omega) (show b < 2147483648 by omega), kn_eq (show kr_bk (km_gr (σ.1 1) m (-1)) (kb_D (σ.1 1) n m o) a k < 2147483648 by omega) (show o < 2147483648 by omega)]
      by_cases hb2 : kr_bk (km_gr (σ.1 1) m (-1)) (kb_D (σ.1 1) n m o) a k = b
      · right
        rw [if_pos hb2]
        exact ⟨_, rfl, k, rfl, by omega, kr_hit_end hi (Or.inl hb2) (by omega)⟩
      · rw [if_neg hb2]
        by_cases hkN : k < N
        · left
          refine ⟨hkN, ?_⟩
          obtain ⟨hne, r, hpr⟩ := h3 k hkN
          have hrm : r < m := (kr_par_some hpr).1
          obtain ⟨hfr, _, _, _⟩ := hok.1.2.2.2.1.2.2 r hrm
          have hp2 : fX10_parentOf (nI (kr_bk (km_gr (σ.1 1) m (-1)) (kb_D (σ.1 1) n m o) a k)) σ = some (nI r) := by
            rw [km_parentOf hok.1.2.2.2.1 (by omega) hrow (kb_row hok), hpr]
            rfl
          rw [if_neg hne, hp2, Option.bind_some, km_of0 (by omega), Option.bind_some]
          refine ⟨_, rfl, ?_, fun i hi' => ?_⟩
          · rw [kr_bk_s hpr]
            exact kw_in_nI_of hfr (by decide)
          · by_cases q : i = k
            · rw [q]; exact hb2
            · exact hi i (by omega)
        · right
          obtain rfl : k = N := by omega
          rw [if_pos h2]
          exact ⟨_, rfl, k, rfl, by omega, kr_hit_end hi (Or.inr (by rw [h2]; exact hpo)) (by omega)⟩)
    have hbl := kr_bk_lt (d := kb_D (σ.1 1) n m o) htw ha e
    exact ⟨_, by rw [hx, hxe], by omega, hh⟩
  unfold fX10_belowOf
  rw [kw_cntl (body := fun s => bX10_belowOf_4 (nI b) σ s.1 s.2) (kr_blw (km_gr (σ.1 1) m (-1)) (kb_D (σ.1 1) n m o) b) n (by omega) (fun k c hk => ?_) (fun c => ?_)]
  · rfl
  · dsimp only
    unfold bX10_belowOf_4 fX10_towns
    rw [hok.1.1, Option.bind_some, if_neg (nI_ge hk (by omega)), kn_chk (by omega) (by decide), kn_clamp (show k < 2147483648 by omega), hrow k (by omega)]
    simp only [kw_let_def, km_next, kn_eq (show k < 2147483648 by omega) (show b < 2147483648 by omega), km_enc_e (kr_row_bd (kb_row hok) k)]
    unfold kr_blw
    by_cases q : k = b
    · rw [if_pos q, decide_eq_true q, Bool.not_true, Bool.false_and, if_neg (by decide)]
    · rw [if_neg q, decide_eq_false q, Bool.not_false, Bool.true_and]
      by_cases hz : kb_D (σ.1 1) n m o k = none
      · have hh : kr_hit (km_gr (σ.1 1) m (-1)) (kb_D (σ.1 1) n m o) k b = false := by
          rw [kr_hit_end (e := 0) (fun i hi => absurd hi (Nat.not_lt_zero _)) (Or.inr (kr_par_dn hz)) (by decide)]
          exact decide_eq_false q
        rw [if_pos hz, hh, if_neg (by decide)]
      · obtain ⟨y, y1, y2, y3⟩ := hin k hk hz (nI c) (nI k)
        rw [if_neg hz, y1, Option.bind_some, y3]
        unfold jX10_belowOf_69_L4
        simp only [kw_let_def, km_next, kn_eq (show y < 2147483648 by omega) (show b < 2147483648 by omega), decide_eq_true_eq]
        by_cases qy : y = b
        · rw [if_pos qy, if_pos qy]
        · rw [if_neg qy, if_neg qy]
  · dsimp only
    unfold bX10_belowOf_4 fX10_towns
    rw [hok.1.1, Option.bind_some, if_pos (nI_le (Nat.le_refl n) (by omega))]
/-- a town without a distance has nothing below it -/
theorem kr_below_no {F : Nat → Int32} {n m o b : Nat} (hok : kb_ok F n m o) (hz : kb_D F n m o b = none) : kr_cntb (kr_blw (km_gr F m (-1)) (kb_D F n m o) b) n = 0 := by
  have hall : ∀ t, t < n → kr_blw (km_gr F m (-1)) (kb_D F n m o) b t = false := fun t ht => by
    unfold kr_blw
    by_cases q : t = b
    · rw [decide_eq_true q]; rfl
    · rw [decide_eq_false q, Bool.not_false, Bool.true_and]
      refine kr_anyTo_f 12 (fun k hk => decide_eq_false (fun e => ?_))
      by_cases hzt : kb_D F n m o t = none
      · have := kr_bk_stay (g := km_gr F m (-1)) (d := kb_D F n m o) (t := t) (N := 0) (kr_par_dn hzt) k
        rw [Nat.zero_add] at this
        rw [this] at e
        exact q e
      · have hall2 : ∀ k : Nat, kb_D F n m o (kr_bk (km_gr F m (-1)) (kb_D F n m o) t k) ≠ none := fun k => by
          induction k with
          | zero => exact hzt
          | succ k ih =>
            cases hp : kr_par (km_gr F m (-1)) (kb_D F n m o) (kr_bk (km_gr F m (-1)) (kb_D F n m o) t k) with
            | some r =>
              obtain ⟨a, h1, _⟩ := kr_par_from hp
              rw [kr_bk_s hp, h1]
              simp
            | none =>
              rw [kr_bk_stay hp 1]
              exact ih
        exact hall2 k (by rw [e]; exact hz)
  have : ∀ k : Nat, k ≤ n → kr_cntb (kr_blw (km_gr F m (-1)) (kb_D F n m o) b) k = 0 := fun k => by
    induction k with
    | zero => exact fun _ => rfl
    | succ k ih =>
      intro hk
      unfold kr_cntb
      rw [hall k (by omega), if_neg (by decide)]
      exact ih (by omega)
  exact this n (Nat.le_refl _)
