/-! drawn: two loops side by side. -/
theorem kw_for2_f {S X S' X' : Type} {bX : S → Option (S ⊕ X)} {bM : S' → Option (S' ⊕ X')} (P : Nat → S → S' → Prop) (Q : X → X' → Prop) (n : Nat) (hs : ∀ k s s', k ≤ n → P k s s' → (k < n ∧ ∃ t t', bX s = some (.inl t) ∧ bM s' = some (.inl t') ∧ P (k + 1) t t') ∨ ∃ x x', bX s = some (.inr x) ∧ bM s' = some (.inr x') ∧ Q x x') : ∀ (j k F : Nat) (s : S) (s' : S'), k + j = n → j < F → P k s s' → ∃ x x', kw_loop bX F s = some x ∧ kw_loop bM F s' = some x' ∧ Q x x'
  | 0, k, F, s, s', hk, hF, hp => by
    obtain ⟨G, rfl⟩ : ∃ G, F = G + 1 := ⟨F - 1, by omega⟩
    rcases hs k s s' (by omega) hp with ⟨h1, _⟩ | ⟨x, x', h1, h2, h3⟩
    · omega
    · refine ⟨x, x', ?_, ?_, h3⟩
      · show (bX s).bind _ = _
        rw [h1]; rfl
      · show (bM s').bind _ = _
        rw [h2]; rfl
  | j + 1, k, F, s, s', hk, hF, hp => by
    obtain ⟨G, rfl⟩ : ∃ G, F = G + 1 := ⟨F - 1, by omega⟩
    rcases hs k s s' (by omega) hp with ⟨h1, t, t', h2, h3, h4⟩ | ⟨x, x', h1, h2, h3⟩
    · obtain ⟨x, x', g1, g2, g3⟩ := kw_for2_f P Q n hs j (k + 1) G t t' (by omega) (by omega) h4
      refine ⟨x, x', ?_, ?_, g3⟩
      · show (bX s).bind _ = _
        rw [h2]; exact g1
      · show (bM s').bind _ = _
        rw [h3]; exact g2
    · refine ⟨x, x', ?_, ?_, h3⟩
      · show (bX s).bind _ = _
        rw [h1]; rfl
      · show (bM s').bind _ = _
        rw [h2]; rfl
/-- two loops side by side, that go on and leave together -/
theorem kw_for2 {S X S' X' : Type} {bX : S → Option (S ⊕ X)} {bM : S' → Option (S' ⊕ X')} (P : Nat → S → S' → Prop) (Q : X → X' → Prop) (n : Nat) (hn : n < 1000000000000) {s0 : S} {s0' : S'} (h0 : P 0 s0 s0') (hs : ∀ k s s', k ≤ n → P k s s' → (k < n ∧ ∃ t t', bX s = some (.inl t) ∧ bM s' = some (.inl t') ∧ P (k + 1) t t') ∨ ∃ x x', bX s = some (.inr x) ∧ bM s' = some (.inr x') ∧ Q x x') : ∃ x x', kw_loop bX kw_F s0 = some x ∧ kw_loop bM kw_F s0' = some x' ∧ Q x x' :=
  kw_for2_f P Q n hs n 0 kw_F s0 s0' (by omega) (kw_F_big hn) h0
def kb_next (l : Nat) : Nat := (25173 * l + 13849) % 65536
theorem kb_next_lt (l : Nat) : kb_next l < 65536 := Nat.mod_lt _ (by decide)
theorem kb_next_e {l : Nat} (h : l < 65536) : (((25173 : Int32) * nI l) + (13849 : Int32)) - (((25173 : Int32) * nI l) + (13849 : Int32)) / (65536 : Int32) * (65536 : Int32) = nI (kb_next l) := by
  rw [show (25173 : Int32) = nI 25173 by decide, show (13849 : Int32) = nI 13849 by decide, show (65536 : Int32) = nI 65536 by decide, kn_mul, nI_add]
  exact pk_rem (by omega) (by decide) (by decide)
/-- the length that a draw makes -/
def kb_clamp (f x : Int32) : Int32 := if (-100 : Int32) < (if (f + x) - 10 < 10000 then (f + x) - 10 else 10000) then (if (f + x) - 10 < 10000 then (f + x) - 10 else 10000) else -100
theorem kb_min_e (y : Int32) (σ : kw_M) : fX10_min 10000 y σ = some (if y < 10000 then y else 10000) := by
  unfold fX10_min
  by_cases h : y < 10000
  · rw [if_pos h, if_pos (Int32.le_of_lt h)]
  · rw [if_neg h]
    by_cases h2 : y ≤ 10000
    · rw [if_pos h2]
      exact congrArg some (Int32.le_antisymm h2 (Int32.not_lt.mp h))
    · rw [if_neg h2]
theorem kb_max_e (y : Int32) (σ : kw_M) : fX10_max (-100) y σ = some (if -100 < y then y else -100) := by
  unfold fX10_max
  by_cases h : -100 < y
  · rw [if_pos h, if_pos (Int32.le_of_lt h)]
  · rw [if_neg h]
    by_cases h2 : -100 ≤ y
    · rw [if_pos h2]
      exact congrArg some (Int32.le_antisymm (Int32.not_lt.mp h) h2)
    · rw [if_neg h2]
theorem kb_clamp_in (f x : Int32) : -1000000000 ≤ (kb_clamp f x).toInt ∧ (kb_clamp f x).toInt ≤ 1000000000 := by
  have e1 : (-100 : Int32).toInt = -100 := by decide
  have e2 : (10000 : Int32).toInt = 10000 := by decide
  unfold kb_clamp
  by_cases h1 : (f + x) - 10 < 10000
  · rw [if_pos h1]
    rw [Int32.lt_iff_toInt_lt, e2] at h1
    by_cases h2 : -100 < (f + x) - 10
    · rw [if_pos h2]
      rw [Int32.lt_iff_toInt_lt, e1] at h2
      omega
    · rw [if_neg h2, e1]; omega
  · rw [if_neg h1, if_pos (by decide), e2]; omega
/-- a road aside is turned -/
theorem kx_flipR {σ : kw_M} {F : Nat → Int32} {m r : Nat} (h : kx_rd σ 10 F m) (hr : r < m) (hm : m ≤ 36) {b : Bool} (hb : F (28 + 4 * r + 3) = kx_fl (!b)) : kx_rd (kw_sl σ 10 2 (σ.2 10 2 ^^^ ((1 : Int64) <<< ((nI r).toInt64 &&& 63)))) 10 (upd F (28 + 4 * r + 3) (kx_fl b)) m := by
  obtain ⟨g0, g1, g2, g3⟩ := h
  refine ⟨?_, ?_, fun i hi => ?_, fun i hi => ?_⟩
  · rw [kw_sl_1, kw_upd_n (by omega)]; exact g0
  · rw [kw_sl_1, kw_upd_n (by omega)]; exact g1
  · rw [kw_sl_1, kw_upd_n (by omega), kw_upd_n (by omega), kw_upd_n (by omega)]
    exact g2 i hi
  · rw [kw_sl_2, kw_updL_e, kw_bL_xor, kw_upL (by omega) i hi, g3 i hi]
    by_cases e : i = r
    · subst e
      rw [kw_upd_e, decide_eq_true (show i = i from rfl), Bool.xor_true, hb]
      cases b <;> simp [kx_fl, hr]
    · rw [decide_eq_false e, Bool.xor_false, kw_upd_n (by omega)]
/-- what a draw leaves in the class -/
def kx_dr (σX τ : kw_M) : Prop := kx_kO σX τ ∧ kx_kN σX τ ∧ τ.1 5 = σX.1 5 ∧ τ.2 39 = σX.2 39
theorem kx_dr_t {a b c : kw_M} (h : kx_dr a b) (g : kx_dr b c) : kx_dr a c := ⟨kx_kO_t h.1 g.1, kx_kN_t h.2.1 g.2.1, g.2.2.1.trans h.2.2.1, g.2.2.2.trans h.2.2.2⟩
/-- the class judges a draw, and takes it back if it may not be -/
theorem kx_draw1 {σX τ0 σ : kw_M} {F : Nat → Int32} {n m o r w : Nat} {x : Int32} (hok : kb_ok F n m o) (hr : r < m) (hw : (w = 2 ∧ -1000000000 ≤ x.toInt ∧ x.toInt ≤ 1000000000) ∨ (w = 3 ∧ (x = 0 ∨ x = 1))) (hd0 : kx_dr σX τ0) (hrd0 : kx_rd τ0 10 F m) (hd : kx_dr τ0 σ) (hrd : kx_rd σ 10 (upd F (28 + 4 * r + w) x) m) (h32 : σ.1 32 = τ0.1 32) (h33 : σ.1 33 = τ0.1 33) (h34 : ∀ i, i ≠ r → σ.1 34 i = τ0.1 34 i) (h10 : σ.1 10 = τ0.1 10) (ho : σX.1 1 2 = nI o) : ∃ τ, jX9_drawChange_67 (nI r) (τ0.2 10 2) (τ0.1 34 r) σ = some τ ∧ kx_dr τ0 τ ∧ (¬ kb_judge (upd (kb_beg F) (28 + 4 * r + w) x) n m o (kb_rg (upd (kb_beg F) (28 + 4 * r + w) x) n m r) = 0 → kx_rd τ 10 F m) ∧ (kb_judge (upd (kb_beg F) (28 + 4 * r + w) x) n m o (kb_rg (upd (kb_beg F) (28 + 4 * r + w) x) n m r) = 0 → kx_rd τ 10 (upd F (28 + 4 * r + w) x) m) := by
  have hm := hok.1.2.2.2.1.1
  have hw4 : w < 4 := by omega
  have hwG := kb_up_wf (x := x) hok.1 hr hw
  have hrdG : kx_rd σ 10 (upd (kb_beg F) (28 + 4 * r + w) x) m := by
    refine kx_rd_eq hrd ?_ ?_ (fun j h1 h2 => ?_)
    · rw [kw_upd_n (by omega), kw_upd_n (by omega), kb_beg_o (by decide)]
    · rw [kw_upd_n (by omega), kw_upd_n (by omega), kb_beg_o (by decide)]
    · unfold upd
      rw [kb_beg_o (by omega)]
  have hh : kb_hand (upd (kb_beg F) (28 + 4 * r + w) x) n m (nI r) (kb_rg (upd (kb_beg F) (28 + 4 * r + w) x) n m r) := Or.inr ⟨r, hr, rfl, kb_one_good hok hw4, rfl⟩
  obtain ⟨τ, j1, j2, j3, j4⟩ := kx_judge hrdG hwG hh hok.2.2.1
  have hor : σ.1 1 2 = nI o := by
    rw [hd.2.1.1 1 (by omega), hd0.2.1.1 1 (by omega)]
    exact ho
  have hdτ : kx_dr τ0 τ := kx_dr_t hd ⟨⟨fun c _ => by rw [j2], fun c hc => j3 c (by omega) (by omega)⟩, ⟨fun c _ => by rw [j2], fun c hc => j3 c (by omega) (by omega)⟩, by rw [j2], j3 39 (by decide) (by decide)⟩
  unfold jX9_drawChange_67
  rw [hor, j1, Option.bind_some]
  dsimp only
  by_cases hj : kb_judge (upd (kb_beg F) (28 + 4 * r + w) x) n m o (kb_rg (upd (kb_beg F) (28 + 4 * r + w) x) n m r) = 0
  · rw [if_pos hj]
    exact ⟨τ, rfl, hdτ, fun q => absurd hj q, fun _ => kx_rd_fr hrd (by rw [j2]) (by rw [j2]) (by rw [j2]) (by rw [j2]) (j3 10 (by decide) (by decide))⟩
  · rw [if_neg hj, kw_let_def, kn_chk (by omega) (by decide), kn_clamp (by omega), kw_let_def]
    refine ⟨_, rfl, ?_, fun _ => ?_, fun q => absurd q hj⟩
    · refine kx_dr_t hdτ ⟨⟨fun c hc => ?_, fun c hc => ?_⟩, ⟨fun c hc => ?_, fun c hc => ?_⟩, ?_, ?_⟩
      · rw [kw_si_o (by omega)]; rfl
      · rw [kw_si_2]; exact kw_sl_o (by omega)
      · rw [kw_si_o (by omega)]; rfl
      · rw [kw_si_2]; exact kw_sl_o (by omega)
      · rw [kw_si_o (by decide)]; rfl
      · rw [kw_si_2]; exact kw_sl_o (by decide)
    · obtain ⟨g0, g1, g2, g3⟩ := hrd0
      refine ⟨?_, ?_, fun i hi => ⟨?_, ?_, ?_⟩, fun i hi => ?_⟩
      · rw [kw_si_o (by decide), kw_sl_1, j2, h10]; exact g0
      · rw [kw_si_o (by decide), kw_sl_1, j2, h10]; exact g1
      · show (kw_si _ 34 r _).1 32 i = _
        rw [kw_si_o (by decide), kw_sl_1, j2, h32]; exact (g2 i hi).1
      · show (kw_si _ 34 r _).1 33 i = _
        rw [kw_si_o (by decide), kw_sl_1, j2, h33]; exact (g2 i hi).2.1
      · show (kw_si _ 34 r _).1 34 i = _
        rw [kw_si_1]
        have y := (g2 i hi).2.2
        have y' : τ0.1 34 i = F (28 + 4 * i + 2) := y
        by_cases e : i = r
        · subst e
          rw [kw_upd_e]; exact y'
        · rw [kw_upd_n e, kw_sl_1, j2, h34 i e]; exact y'
      · rw [kw_si_2, kw_sl_2, kw_updL_e]; exact g3 i hi
