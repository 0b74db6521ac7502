/-! Towns, roads, lengths as arguments; a road more, another length, open or closed: both sides. -/
theorem km_sub1 {n : Nat} (h : n < 2147483648) : ((nI n - (1 : Int32)).toInt64).toInt = (n : Int) - 1 := by
  rw [Int32.toInt_toInt64]
  cases n with
  | zero => decide
  | succ k =>
    rw [kn_1, kn_sub (by omega), nI_toInt (by omega)]
    omega
theorem km_isTown {σ : kw_M} {n : Nat} {x : Int32} (hn : σ.1 1 0 = nI n) (h12 : n ≤ 12) : fX10_isTown x σ = some (kx_fl (decide (0 ≤ x.toInt ∧ x.toInt < n))) := by
  unfold fX10_isTown fX10_towns
  rw [Option.bind_some, km_in, Option.bind_some, kn_chkB, hn, km_sub1 (by omega), Int32.toInt_toInt64]
  refine congrArg (fun z => some (kx_fl z)) ?_
  rw [decide_eq_decide, show (0 : Int64).toInt = 0 by decide]
  omega
theorem km_isRoad {σ : kw_M} {m : Nat} {x : Int32} (hm : σ.1 1 1 = nI m) (h36 : m ≤ 36) : fX10_isRoad x σ = some (kx_fl (decide (0 ≤ x.toInt ∧ x.toInt < m))) := by
  unfold fX10_isRoad
  rw [km_in, Option.bind_some, kn_chkB, hm, km_sub1 (by omega), Int32.toInt_toInt64]
  refine congrArg (fun z => some (kx_fl z)) ?_
  rw [decide_eq_decide, show (0 : Int64).toInt = 0 by decide]
  omega
theorem kx_hasTown {σ : kw_M} {n : Nat} {x : Int32} (hn : σ.1 12 0 = nI n) (h12 : n ≤ 12) : fX4_hasTown x σ = some (kx_fl (decide (0 ≤ x.toInt ∧ x.toInt < n))) := by
  unfold fX4_hasTown
  rw [hn]
  simp only [Int32.lt_iff_toInt_lt, Int32.le_iff_toInt_le, nI_toInt (show n < 2 ^ 31 by omega), show (0 : Int32).toInt = 0 by decide]
  by_cases h1 : x.toInt < 0
  · rw [if_pos h1, decide_eq_false (by omega)]; rfl
  · rw [if_neg h1]
    by_cases h2 : (n : Int) ≤ x.toInt
    · rw [if_pos h2, decide_eq_false (by omega)]; rfl
    · rw [if_neg h2, decide_eq_true (by omega)]; rfl
theorem kx_hasRoad {σ : kw_M} {m : Nat} {x : Int32} (hm : σ.1 12 1 = nI m) (h36 : m ≤ 36) : fX4_hasRoad x σ = some (kx_fl (decide (0 ≤ x.toInt ∧ x.toInt < m))) := by
  unfold fX4_hasRoad
  rw [hm]
  simp only [Int32.lt_iff_toInt_lt, Int32.le_iff_toInt_le, nI_toInt (show m < 2 ^ 31 by omega), show (0 : Int32).toInt = 0 by decide]
  by_cases h1 : x.toInt < 0
  · rw [if_pos h1, decide_eq_false (by omega)]; rfl
  · rw [if_neg h1]
    by_cases h2 : (m : Int) ≤ x.toInt
    · rw [if_pos h2, decide_eq_false (by omega)]; rfl
    · rw [if_neg h2, decide_eq_true (by omega)]; rfl
theorem kw_arg {x : Int32} {n : Nat} (hn : n < 2147483648) (h : 0 ≤ x.toInt ∧ x.toInt < n) : ∃ t, t < n ∧ x = nI t := by
  refine ⟨x.toInt.toNat, by omega, ?_⟩
  apply Int32.toInt_inj.mp
  rw [nI_toInt (by omega)]
  omega
theorem kx_isLength {σ : kw_M} {x : Int32} : fX9_isLength x σ = some (kx_fl (decide (-1000000000 ≤ x.toInt ∧ x.toInt ≤ 1000000000))) := by
  unfold fX9_isLength
  simp only [Int32.lt_iff_toInt_lt, show (-1000000000 : Int32).toInt = -1000000000 by decide, show (1000000000 : Int32).toInt = 1000000000 by decide]
  by_cases h1 : x.toInt < -1000000000
  · rw [if_pos h1, decide_eq_false (by omega)]; rfl
  · rw [if_neg h1]
    by_cases h2 : 1000000000 < x.toInt
    · rw [if_pos h2, decide_eq_false (by omega)]; rfl
    · rw [if_neg h2, decide_eq_true (by omega)]; rfl
theorem km_isLength {σ : kw_M} {x : Int32} : fX10_isLength x.toInt64 σ = some (kx_fl (decide (-1000000000 ≤ x.toInt ∧ x.toInt ≤ 1000000000))) := by
  unfold fX10_isLength
  rw [km_in, Option.bind_some, kn_chkB, Int32.toInt_toInt64, show (-1000000000 : Int64).toInt = -1000000000 by decide, show (1000000000 : Int64).toInt = 1000000000 by decide]
/-- a graph whose roads are among another's is good with it -/
theorem kr_sub_wk {g h : kr_G} (hs : ∀ r, r < h.1 → h.2.2.2.2 r = true → r < g.1 ∧ g.2.2.2.2 r = true ∧ g.2.1 r = h.2.1 r ∧ g.2.2.1 r = h.2.2.1 r ∧ g.2.2.2.1 r = h.2.2.2.1 r) : ∀ (l : List Nat) (u v : Nat), kr_wk h u l v → kr_wk g u l v ∧ kr_wt g l = kr_wt h l
  | [], _, _, hw => ⟨hw, rfl⟩
  | r :: l, u, v, ⟨h1, h2, h3, h4⟩ => by
    obtain ⟨e0, e1, e2, e3, e4⟩ := hs r h1 h2
    obtain ⟨h5, h6⟩ := kr_sub_wk hs l _ v h4
    refine ⟨⟨e0, e1, by rw [e2]; exact h3, by rw [e3]; exact h5⟩, ?_⟩
    show g.2.2.2.1 r + kr_wt g l = h.2.2.2.1 r + kr_wt h l
    rw [e4, h6]
theorem kr_sub_good {g h : kr_G} (hg : kr_good g) (hs : ∀ r, r < h.1 → h.2.2.2.2 r = true → r < g.1 ∧ g.2.2.2.2 r = true ∧ g.2.1 r = h.2.1 r ∧ g.2.2.1 r = h.2.2.1 r ∧ g.2.2.2.1 r = h.2.2.2.1 r) : kr_good h := fun u l hne hw => by
  obtain ⟨h1, h2⟩ := kr_sub_wk hs l u u hw
  rw [← h2]
  exact hg u l hne h1
/-- the file after begins -/
def kb_beg (F : Nat → Int32) : Nat → Int32 := va_cpy F F 0 1416 708
theorem kb_beg_o {F : Nat → Int32} {j : Nat} (h : j < 1416) : kb_beg F j = F j := by
  unfold kb_beg va_cpy
  rw [if_neg (by omega)]
theorem kb_beg_2 {F : Nat → Int32} {j : Nat} (h : j < 708) : kb_beg F (1416 + j) = F j := by
  unfold kb_beg va_cpy
  rw [if_pos (by omega), show 0 + (1416 + j - 1416) = j by omega]
theorem km_begins' {σ : kw_M} {n m o : Nat} (h : kb_ok (σ.1 1) n m o) : ∃ τ, fX10_begins σ = some τ ∧ τ.1 1 = kb_beg (σ.1 1) ∧ (∀ c, c ≠ 1 → τ.1 c = σ.1 c) ∧ ∀ t, t < 12 → τ.2 4 t = km_enc (kb_D (σ.1 1) n m o t) := by
  obtain ⟨a, b, c, _⟩ := h
  have h2 := a.2.1
  have h12 := a.2.2.1
  obtain ⟨τ, e1, e2, e3⟩ := km_begins a.2.2.2.1 a.1 (by omega) h12 b (by omega)
  refine ⟨τ, e1, ?_, fun q hq => ?_, e3⟩
  · rw [e2]
    unfold km_cpyk
    rw [kw_ri_1]
    rfl
  · rw [e2]
    exact kw_ri_o hq
/-- a road more -/
def kb_add (F : Nat → Int32) (m : Nat) (a b c : Int32) : Nat → Int32 := upd (upd (upd (upd (upd F 1 (nI (m + 1))) (28 + 4 * m + 0) a) (28 + 4 * m + 1) b) (28 + 4 * m + 2) c) (28 + 4 * m + 3) 1
theorem kb_add_o {F : Nat → Int32} {m j : Nat} {a b c : Int32} (h1 : j ≠ 1) (h2 : j < 28 + 4 * m ∨ 28 + 4 * m + 3 < j) : kb_add F m a b c j = F j := by
  unfold kb_add
  simp (disch := omega) only [kw_upd_n]
theorem kb_add_1 {F : Nat → Int32} {m : Nat} {a b c : Int32} : kb_add F m a b c 1 = nI (m + 1) := by
  unfold kb_add
  simp (disch := omega) only [kw_upd_n, kw_upd_e]
theorem kb_add_r {F : Nat → Int32} {m : Nat} {a b c : Int32} : kb_add F m a b c (28 + 4 * m + 0) = a ∧ kb_add F m a b c (28 + 4 * m + 1) = b ∧ kb_add F m a b c (28 + 4 * m + 2) = c ∧ kb_add F m a b c (28 + 4 * m + 3) = 1 := by
  unfold kb_add
  refine ⟨?_, ?_, ?_, ?_⟩ <;> simp (disch := omega) only [kw_upd_n, kw_upd_e]
theorem km_sets {σ : kw_M} {r w : Nat} {x : Int32} (hr : r < 36) (hw : w < 4) : fX10_sets (nI r) (nI w) x σ = some (kw_ri σ 1 (upd (σ.1 1) (28 + 4 * r + w) x)) := by
  unfold fX10_sets
  simp (disch := omega) only [kn_28, kn_4, kn_mul, nI_add, kn_chk, kn_clamp, kw_let_def, kw_si_d]
theorem km_comes {σ : kw_M} {m : Nat} {a b c : Int32} (hm : σ.1 1 1 = nI m) (h36 : m < 36) : fX10_comes a b c σ = some (nI m, kw_ri σ 1 (kb_add (σ.1 1) m a b c)) := by
  unfold fX10_comes
  rw [kw_let_def, hm, kw_let_def, km_next, kw_si_d]
  rw [show (0 : Int32) = nI 0 by decide, km_sets h36 (by decide), Option.bind_some, kw_ri_1, kw_ri_ri]
  rw [show fX10_sets (nI m) 1 b = fX10_sets (nI m) (nI 1) b from rfl, km_sets h36 (by decide), Option.bind_some, kw_ri_1, kw_ri_ri]
  rw [show fX10_sets (nI m) 2 c = fX10_sets (nI m) (nI 2) c from rfl, km_sets h36 (by decide), Option.bind_some, kw_ri_1, kw_ri_ri]
  rw [show fX10_sets (nI m) 3 1 = fX10_sets (nI m) (nI 3) 1 from rfl, km_sets h36 (by decide), Option.bind_some, kw_ri_1, kw_ri_ri]
  rfl
theorem kx_addRoad {σ : kw_M} {F : Nat → Int32} {m : Nat} {a b c : Int32} (h : kx_rd σ 10 F m) (h1 : F 1 = nI m) (h36 : m < 36) : ∃ τ, fX4_addRoad a b c σ = some (nI m, τ) ∧ kx_rd τ 10 (kb_add F m a b c) (m + 1) ∧ (∀ q, q ≠ 10 → q ≠ 32 → q ≠ 33 → q ≠ 34 → τ.1 q = σ.1 q) ∧ ∀ q, q ≠ 10 → τ.2 q = σ.2 q := by
  obtain ⟨g0, g1, g2, g3⟩ := h
  rw [h1] at g1
  have e3 : kx_rf 10 3 = 32 := by decide
  have e4 : kx_rf 10 4 = 33 := by decide
  have e5 : kx_rf 10 5 = 34 := by decide
  rw [e3, e4, e5] at g2
  unfold fX4_addRoad
  rw [g1, if_pos (by simp (disch := omega) only [kn_36, kn_lt]; omega), kn_chk (by omega) (by decide), kn_clamp (by omega)]
  simp (disch := first | omega | decide) only [kw_let_def, kw_si_o, g1, kn_chk, kn_clamp, kw_si_2, kw_sl_1, kw_si_1, kw_upd_e, km_next]
  have em : nI (m + 1) - 1 = nI m := by rw [kn_1, kn_sub (by omega)]; rfl
  rw [em]
  refine ⟨_, rfl, ⟨?_, ?_, fun r hr => ?_, fun i hi => ?_⟩, fun q h10 h32 h33 h34 => ?_, fun q h10 => ?_⟩
  · rw [kw_si_1, kw_upd_n (by decide), kw_sl_1, kw_si_o (by decide), kw_si_o (by decide), kw_si_o (by decide), kb_add_o (by decide) (by omega)]
    exact g0
  · rw [kw_si_1, kw_upd_e, kb_add_1]
  · rw [e3, e4, e5]
    simp (disch := decide) only [kw_si_o, kw_sl_1, kw_si_1]
    by_cases q : r = m
    · subst q
      obtain ⟨x1, x2, x3, x4⟩ := kb_add_r (F := F) (m := r) (a := a) (b := b) (c := c)
      rw [x1, x2, x3, kw_upd_e, kw_upd_e, kw_upd_e]
      exact ⟨rfl, rfl, rfl⟩
    · rw [kw_upd_n q, kw_upd_n q, kw_upd_n q, kb_add_o (by omega) (by omega), kb_add_o (by omega) (by omega), kb_add_o (by omega) (by omega)]
      exact g2 r (by omega)
  · rw [kw_si_2, kw_sl_2, kw_updL_e, kw_bL_or, kw_upL h36 i hi, g3 i hi]
    by_cases q : i = m
    · subst q
      rw [decide_eq_true (show i = i from rfl), Bool.or_true, kb_add_r.2.2.2, decide_eq_true ⟨by omega, rfl⟩]
    · rw [decide_eq_false q, Bool.or_false, decide_eq_decide, kb_add_o (by omega) (by omega)]
      exact ⟨fun z => ⟨by omega, z.2⟩, fun z => ⟨by omega, z.2⟩⟩
  · simp only [kw_si_o h10, kw_sl_1, kw_si_o h34, kw_si_o h33, kw_si_o h32]
  · rw [kw_si_2, kw_sl_o h10, kw_si_2, kw_si_2, kw_si_2]
