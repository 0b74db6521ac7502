/-! Rows of lengths: Bellman-Ford over roads by number; the reference's finds. -/
/-- a graph: how many roads; from, to, length, whether a road may be used -/
abbrev kr_G : Type := Nat × (Nat → Nat) × (Nat → Nat) × (Nat → Int) × (Nat → Bool)
abbrev kr_D : Type := Nat → Option Int
def kr_set (d : kr_D) (t : Nat) (z : Int) : kr_D := fun q => if q = t then some z else d q
/-- one road: the length by it, if that is less -/
def kr_rlx (g : kr_G) (d : kr_D) (r : Nat) : kr_D := if g.2.2.2.2 r = true then (match d (g.2.1 r), d (g.2.2.1 r) with
  | none, _ => d
  | some a, none => kr_set d (g.2.2.1 r) (a + g.2.2.2.1 r)
  | some a, some b => if a + g.2.2.2.1 r < b then kr_set d (g.2.2.1 r) (a + g.2.2.2.1 r) else d) else d
/-- the first k roads, one behind the other -/
def kr_rnd (g : kr_G) (d : kr_D) : Nat → kr_D
  | 0 => d
  | k + 1 => kr_rlx g (kr_rnd g d k) k
/-- so many rounds over all roads -/
def kr_bf (g : kr_G) (d : kr_D) : Nat → kr_D
  | 0 => d
  | i + 1 => kr_rnd g (kr_bf g d i) g.1
def kr_one (o : Nat) : kr_D := fun t => if t = o then some 0 else none
/-- all lengths of a row lie within a bound -/
def kr_in (d : kr_D) (B : Int) : Prop := ∀ t z, d t = some z → -B ≤ z ∧ z ≤ B
theorem kr_in_set {d : kr_D} {B z : Int} {t : Nat} (h : kr_in d B) (h1 : -B ≤ z) (h2 : z ≤ B) : kr_in (kr_set d t z) B := by
  intro q w hq
  unfold kr_set at hq
  by_cases hqt : q = t
  · rw [if_pos hqt] at hq
    cases hq
    exact ⟨h1, h2⟩
  · rw [if_neg hqt] at hq
    exact h q w hq
theorem kr_in_mono {d : kr_D} {B C : Int} (h : kr_in d B) (hBC : B ≤ C) : kr_in d C := fun t z hz => by
  have := h t z hz
  omega
theorem kr_in_rlx {g : kr_G} {d : kr_D} {B M : Int} {r : Nat} (h : kr_in d B) (hM : 0 ≤ M) (hl : -M ≤ g.2.2.2.1 r ∧ g.2.2.2.1 r ≤ M) : kr_in (kr_rlx g d r) (B + M) := by
  have h0 : kr_in d (B + M) := kr_in_mono h (by omega)
  unfold kr_rlx
  by_cases hu : g.2.2.2.2 r = true
  · rw [if_pos hu]
    cases ha : d (g.2.1 r) with
    | none => exact h0
    | some a =>
      have h1 := h _ _ ha
      cases hb : d (g.2.2.1 r) with
      | none => exact kr_in_set h0 (by omega) (by omega)
      | some b =>
        show kr_in (if a + g.2.2.2.1 r < b then kr_set d (g.2.2.1 r) (a + g.2.2.2.1 r) else d) (B + M)
        by_cases hlt : a + g.2.2.2.1 r < b
        · rw [if_pos hlt]
          exact kr_in_set h0 (by omega) (by omega)
        · rw [if_neg hlt]
          exact h0
  · rw [if_neg hu]
    exact h0
theorem kr_in_rnd {g : kr_G} {d : kr_D} {B M : Int} (h : kr_in d B) (hM : 0 ≤ M) (hl : ∀ r, r < g.1 → -M ≤ g.2.2.2.1 r ∧ g.2.2.2.1 r ≤ M) : ∀ k : Nat, k ≤ g.1 → kr_in (kr_rnd g d k) (B + k * M)
  | 0, _ => by
    have : B + ((0 : Nat) : Int) * M = B := by rw [Int.natCast_zero, Int.zero_mul, Int.add_zero]
    rw [this]
    exact h
  | k + 1, hk => by
    have h1 := kr_in_rlx (r := k) (kr_in_rnd h hM hl k (by omega)) hM (hl k (by omega))
    have e : B + k * M + M = B + ((k + 1 : Nat) : Int) * M := by rw [Int.natCast_add, Int.add_mul]; omega
    rw [e] at h1
    exact h1
/-- the reference's file: road r's w-th number -/
theorem km_of {σ : kw_M} {r w : Nat} (hr : r < 36) (hw : w < 4) : fX10_of (nI r) (nI w) σ = some (σ.1 1 (28 + 4 * r + w)) := by
  have e : ((28 : Int32) + (4 : Int32) * nI r) + nI w = nI (28 + 4 * r + w) := by
    rw [show (28 : Int32) = nI 28 by decide, show (4 : Int32) = nI 4 by decide, show nI 4 * nI r = nI (4 * r) from (Int32.ofNat_mul 4 r).symm, nI_add, nI_add]
  unfold fX10_of
  rw [e, kw_chk_t (kw_in_nI (by omega) (by decide)), nI_clamp (by omega)]
theorem km_isOpen {σ : kw_M} {r : Nat} (hr : r < 36) : fX10_isOpen (nI r) σ = some (if σ.1 1 (28 + 4 * r + 3) = 1 then 1 else 0) := by
  unfold fX10_isOpen
  rw [show (3 : Int32) = nI 3 by decide, km_of hr (by decide)]
  show (if σ.1 1 (28 + 4 * r + 3) = 1 then some (1 : Int32) else some 0) = _
  by_cases h : σ.1 1 (28 + 4 * r + 3) = 1
  · rw [if_pos h, if_pos h]
  · rw [if_neg h, if_neg h]
/-- how the reference writes a length: none is 9 * 10^17 -/
def km_enc (o : Option Int) : Int64 := match o with
  | none => 900000000000000000
  | some z => Int64.ofInt z
/-- the reference's row of lengths in its cell 2 -/
def km_row (σ : kw_M) (d : kr_D) : kw_M := kw_rl σ 2 (fun t => if t < 12 then km_enc (d t) else σ.2 2 t)
def km_st0 (σ : kw_M) (o k : Nat) : kw_M := kw_rl σ 2 (fun t => if t < k then km_enc (kr_one o t) else σ.2 2 t)
theorem km_st0_0 (σ : kw_M) (o : Nat) : km_st0 σ o 0 = σ := by
  unfold km_st0 kw_rl
  refine Prod.ext rfl ?_
  funext c
  by_cases hc : c = 2
  · subst hc
    simp
  · simp only [hc, if_false]
theorem km_st0_s (σ : kw_M) (o k : Nat) : kw_sl (km_st0 σ o k) 2 k (km_enc (kr_one o k)) = km_st0 σ o (k + 1) := by
  unfold km_st0 kw_sl
  refine Prod.ext rfl ?_
  funext c
  by_cases hc : c = 2
  · subst hc
    simp only [kw_rl, if_true]
    funext j
    unfold vp_updL
    by_cases hj : j = k
    · subst hj
      rw [if_pos rfl, if_pos (by omega)]
    · rw [if_neg hj]
      dsimp only
      by_cases h2 : j < k
      · rw [if_pos h2, if_pos (by omega)]
      · rw [if_neg h2, if_neg (by omega)]
  · simp only [kw_rl, hc, if_false]
theorem km_finds_1 {σ : kw_M} {o : Nat} (ho : o < 12) (v2 : Int32) : kw_loop (fun s => bX10_finds_2 (nI o) v2 s.1 s.2) kw_F ((0 : Int32), σ) = some (km_row σ (kr_one o)) := by
  have h := kw_loop_at (body := fun s => bX10_finds_2 (nI o) v2 s.1 s.2) (fun k => (nI k, km_st0 σ o k)) (x := km_row σ (kr_one o)) 12 (fun k hk => by
    show bX10_finds_2 (nI o) v2 (nI k) (km_st0 σ o k) = _
    unfold bX10_finds_2
    rw [show (12 : Int32) = nI 12 by decide, if_neg (nI_ge hk (by decide))]
    by_cases hko : k = o
    · subst hko
      rw [if_pos rfl, kw_chk_t (kw_in_nI hk (by decide)), kw_let_def, kw_let_def, nI_clamp (by omega), show (1 : Int32) = nI 1 by decide, nI_add]
      have e : km_enc (kr_one k k) = 0 := by unfold kr_one; rw [if_pos rfl]; rfl
      rw [← e, km_st0_s]
    · rw [if_neg (fun q => hko ((nI_eq (by omega) (by omega)).mp q)), kw_chk_t (kw_in_nI hk (by decide)), kw_let_def, kw_let_def, nI_clamp (by omega), show (1 : Int32) = nI 1 by decide, nI_add]
      have e : km_enc (kr_one o k) = 900000000000000000 := by unfold kr_one; rw [if_neg hko]; rfl
      rw [← e, km_st0_s]) (by
    show bX10_finds_2 (nI o) v2 (nI 12) (km_st0 σ o 12) = _
    unfold bX10_finds_2
    rw [if_pos (by decide)]
    rfl) (by decide)
  have h0 : ((nI 0, km_st0 σ o 0) : Int32 × kw_M) = ((0 : Int32), σ) := by rw [km_st0_0]; rfl
  simp only [h0] at h
  exact h
