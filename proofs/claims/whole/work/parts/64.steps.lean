/-! One road more: steps, as rows and as sets of lengths. -/
def kr_mn (a b : Option Int) : Option Int := if kr_ls b a = true then b else a
def kr_lw (f : kr_D) (t : Nat) (x : Option Int) : kr_D := fun q => if q = t then kr_mn (f t) x else f q
def kr_by (g : kr_G) (d : kr_D) (r : Nat) : Option Int := kr_plus (d (g.2.1 r)) (some (g.2.2.2.1 r))
/-- the first k roads, each from d, into f -/
def kr_sk (g : kr_G) (d f : kr_D) : Nat → kr_D
  | 0 => f
  | k + 1 => if g.2.2.2.2 k = true then kr_lw (kr_sk g d f k) (g.2.2.1 k) (kr_by g d k) else kr_sk g d f k
theorem kr_sk_s (g : kr_G) (d f : kr_D) (k : Nat) : kr_sk g d f (k + 1) = if g.2.2.2.2 k = true then kr_lw (kr_sk g d f k) (g.2.2.1 k) (kr_by g d k) else kr_sk g d f k := rfl
/-- just so many roads -/
def kr_ex (g : kr_G) (o : Nat) : Nat → kr_D
  | 0 => kr_one o
  | i + 1 => kr_sk g (kr_ex g o i) (fun _ => none) g.1
/-- at most so many -/
def kr_cu (g : kr_G) (o : Nat) : Nat → kr_D
  | 0 => kr_one o
  | i + 1 => kr_sk g (kr_cu g o i) (kr_cu g o i) g.1
/-- v is the least of a set of lengths -/
def kr_isM (S : Int → Prop) (v : Option Int) : Prop := match v with
  | none => ∀ y, ¬ S y
  | some z => S z ∧ ∀ y, S y → z ≤ y
theorem kr_isM_u {S : Int → Prop} {v w : Option Int} (hv : kr_isM S v) (hw : kr_isM S w) : v = w := by
  cases v with
  | none =>
    cases w with
    | none => rfl
    | some y => exact absurd hw.1 (hv y)
  | some x =>
    cases w with
    | none => exact absurd hv.1 (hw x)
    | some y =>
      have h1 := hv.2 y hw.1
      have h2 := hw.2 x hv.1
      exact congrArg some (by omega)
theorem kr_isM_c {S T : Int → Prop} {v : Option Int} (h : kr_isM S v) (e : ∀ y, S y ↔ T y) : kr_isM T v := by
  cases v with
  | none => exact fun y hy => h y ((e y).mpr hy)
  | some z => exact ⟨(e z).mp h.1, fun y hy => h.2 y ((e y).mpr hy)⟩
theorem kr_isM_mn {S T : Int → Prop} {a b : Option Int} (ha : kr_isM S a) (hb : kr_isM T b) : kr_isM (fun y => S y ∨ T y) (kr_mn a b) := by
  unfold kr_mn
  cases a with
  | none =>
    cases b with
    | none => exact fun y hy => hy.elim (ha y) (hb y)
    | some y =>
      rw [if_pos (show kr_ls (some y) none = true from rfl)]
      exact ⟨Or.inr hb.1, fun z hz => hz.elim (fun q => absurd q (ha z)) (hb.2 z)⟩
  | some x =>
    cases b with
    | none =>
      rw [if_neg (show ¬ kr_ls none (some x) = true from (by decide : ¬ false = true))]
      exact ⟨Or.inl ha.1, fun z hz => hz.elim (ha.2 z) (fun q => absurd q (hb z))⟩
    | some y =>
      simp only [kr_ls, decide_eq_true_eq]
      by_cases q : y < x
      · rw [if_pos q]
        exact ⟨Or.inr hb.1, fun z hz => hz.elim (fun w => by have := ha.2 z w; omega) (hb.2 z)⟩
      · rw [if_neg q]
        exact ⟨Or.inl ha.1, fun z hz => hz.elim (ha.2 z) (fun w => by have := hb.2 z w; omega)⟩
theorem kr_isM_pl {S : Int → Prop} {a : Option Int} (L : Int) (ha : kr_isM S a) : kr_isM (fun y => ∃ x, S x ∧ y = x + L) (kr_plus a (some L)) := by
  cases a with
  | none => exact fun y ⟨x, hx, _⟩ => ha x hx
  | some x => exact ⟨⟨x, ha.1, rfl⟩, fun y ⟨z, hz, hy⟩ => by have := ha.2 z hz; omega⟩
theorem kr_isM_sk {g : kr_G} {d f : kr_D} {Sd Sf : Nat → Int → Prop} (hd : ∀ t, kr_isM (Sd t) (d t)) (hf : ∀ t, kr_isM (Sf t) (f t)) : ∀ (k t : Nat), kr_isM (fun y => Sf t y ∨ ∃ r, r < k ∧ g.2.2.2.2 r = true ∧ g.2.2.1 r = t ∧ ∃ x, Sd (g.2.1 r) x ∧ y = x + g.2.2.2.1 r) (kr_sk g d f k t)
  | 0, t => kr_isM_c (hf t) (fun y => ⟨Or.inl, fun h => h.elim id (fun ⟨r, hr, _⟩ => absurd hr (Nat.not_lt_zero _))⟩)
  | k + 1, t => by
    have ih := kr_isM_sk (g := g) hd hf k
    rw [kr_sk_s]
    by_cases hu : g.2.2.2.2 k = true
    · rw [if_pos hu]
      unfold kr_lw
      by_cases ht : t = g.2.2.1 k
      · subst ht
        rw [if_pos rfl]
        refine kr_isM_c (kr_isM_mn (ih _) (kr_isM_pl (g.2.2.2.1 k) (hd (g.2.1 k)))) (fun y => ?_)
        constructor
        · rintro ((h | ⟨r, h1, h2⟩) | h)
          · exact Or.inl h
          · exact Or.inr ⟨r, by omega, h2⟩
          · exact Or.inr ⟨k, by omega, hu, rfl, h⟩
        · rintro (h | ⟨r, h1, h2, h3, h4⟩)
          · exact Or.inl (Or.inl h)
          · by_cases e : r = k
            · subst e
              exact Or.inr h4
            · exact Or.inl (Or.inr ⟨r, by omega, h2, h3, h4⟩)
      · rw [if_neg ht]
        refine kr_isM_c (ih t) (fun y => ?_)
        constructor
        · rintro (h | ⟨r, h1, h2⟩)
          · exact Or.inl h
          · exact Or.inr ⟨r, by omega, h2⟩
        · rintro (h | ⟨r, h1, h2, h3, h4⟩)
          · exact Or.inl h
          · by_cases e : r = k
            · subst e
              exact absurd h3.symm ht
            · exact Or.inr ⟨r, by omega, h2, h3, h4⟩
    · rw [if_neg hu]
      refine kr_isM_c (ih t) (fun y => ?_)
      constructor
      · rintro (h | ⟨r, h1, h2⟩)
        · exact Or.inl h
        · exact Or.inr ⟨r, by omega, h2⟩
      · rintro (h | ⟨r, h1, h2, h3, h4⟩)
        · exact Or.inl h
        · by_cases e : r = k
          · subst e
            exact absurd h2 hu
          · exact Or.inr ⟨r, by omega, h2, h3, h4⟩
/-- lengths of ways of just i roads from o to t -/
def kr_W (g : kr_G) (o : Nat) : Nat → Nat → Int → Prop
  | 0, t, y => t = o ∧ y = 0
  | i + 1, t, y => ∃ r, r < g.1 ∧ g.2.2.2.2 r = true ∧ g.2.2.1 r = t ∧ ∃ x, kr_W g o i (g.2.1 r) x ∧ y = x + g.2.2.2.1 r
theorem kr_isM_one (g : kr_G) (o t : Nat) : kr_isM (kr_W g o 0 t) (kr_one o t) := by
  unfold kr_one
  by_cases h : t = o
  · rw [if_pos h]
    exact ⟨⟨h, rfl⟩, fun y hy => by have : y = 0 := hy.2; omega⟩
  · rw [if_neg h]
    exact fun y hy => h hy.1
theorem kr_ex_M (g : kr_G) (o : Nat) : ∀ i t : Nat, kr_isM (kr_W g o i t) (kr_ex g o i t)
  | 0, t => kr_isM_one g o t
  | i + 1, t => kr_isM_c (kr_isM_sk (g := g) (f := fun _ => none) (Sf := fun _ _ => False) (kr_ex_M g o i) (fun _ => (fun y hy => hy : ∀ y : Int, ¬ False)) g.1 t) (fun y => ⟨fun h => h.elim False.elim id, Or.inr⟩)
theorem kr_cu_M (g : kr_G) (o : Nat) : ∀ i t : Nat, kr_isM (fun y => ∃ j, j ≤ i ∧ kr_W g o j t y) (kr_cu g o i t)
  | 0, t => kr_isM_c (kr_isM_one g o t) (fun y => ⟨fun h => ⟨0, Nat.le_refl _, h⟩, fun ⟨j, hj, h⟩ => by
      obtain rfl : j = 0 := by omega
      exact h⟩)
  | i + 1, t => by
    refine kr_isM_c (kr_isM_sk (kr_cu_M g o i) (kr_cu_M g o i) g.1 t) (fun y => ?_)
    constructor
    · rintro (⟨j, hj, h⟩ | ⟨r, h1, h2, h3, x, ⟨j, hj, hx⟩, hy⟩)
      · exact ⟨j, by omega, h⟩
      · exact ⟨j + 1, by omega, r, h1, h2, h3, x, hx, hy⟩
    · rintro ⟨j, hj, h⟩
      cases j with
      | zero => exact Or.inl ⟨0, by omega, h⟩
      | succ j =>
        obtain ⟨r, h1, h2, h3, x, hx, hy⟩ := h
        exact Or.inr ⟨r, h1, h2, h3, x, ⟨j, by omega, hx⟩, hy⟩
/-- the least over at most k roads, kept as one goes -/
def kr_am (g : kr_G) (o t : Nat) : Nat → Option Int
  | 0 => kr_one o t
  | k + 1 => kr_mn (kr_am g o t k) (kr_ex g o (k + 1) t)
theorem kr_am_M (g : kr_G) (o t : Nat) : ∀ k : Nat, kr_isM (fun y => ∃ j, j ≤ k ∧ kr_W g o j t y) (kr_am g o t k)
  | 0 => kr_cu_M g o 0 t
  | k + 1 => by
    refine kr_isM_c (kr_isM_mn (kr_am_M g o t k) (kr_ex_M g o (k + 1) t)) (fun y => ?_)
    constructor
    · rintro (⟨j, hj, h⟩ | h)
      · exact ⟨j, by omega, h⟩
      · exact ⟨k + 1, by omega, h⟩
    · rintro ⟨j, hj, h⟩
      by_cases e : j = k + 1
      · rw [e] at h; exact Or.inr h
      · exact Or.inl ⟨j, by omega, h⟩
theorem kr_cu_am (g : kr_G) (o k t : Nat) : kr_cu g o k t = kr_am g o t k := kr_isM_u (kr_cu_M g o k t) (kr_am_M g o t k)
theorem kr_W_bd {g : kr_G} {o : Nat} (hl : ∀ r, r < g.1 → -1000000000 ≤ g.2.2.2.1 r ∧ g.2.2.2.1 r ≤ 1000000000) : ∀ (i t : Nat) (y : Int), kr_W g o i t y → -(i * 1000000000 : Int) ≤ y ∧ y ≤ i * 1000000000
  | 0, t, y, h => by
    have : y = 0 := h.2
    omega
  | i + 1, t, y, ⟨r, h1, _, _, x, h4, h5⟩ => by
    have ih := kr_W_bd hl i _ x h4
    have := hl r h1
    omega
theorem kr_ex_in {g : kr_G} {o : Nat} (hl : ∀ r, r < g.1 → -1000000000 ≤ g.2.2.2.1 r ∧ g.2.2.2.1 r ≤ 1000000000) (i : Nat) (hi : i ≤ 400) : kr_in (kr_ex g o i) 400000000000 := fun t z hz => by
  have h := kr_ex_M g o i t
  rw [hz] at h
  have := kr_W_bd hl i t z h.1
  have : (i : Int) ≤ 400 := by omega
  omega
theorem kr_cu_in {g : kr_G} {o : Nat} (hl : ∀ r, r < g.1 → -1000000000 ≤ g.2.2.2.1 r ∧ g.2.2.2.1 r ≤ 1000000000) (i : Nat) (hi : i ≤ 400) : kr_in (kr_cu g o i) 400000000000 := fun t z hz => by
  have h := kr_cu_M g o i t
  rw [hz] at h
  obtain ⟨j, hj, hw⟩ := h.1
  have := kr_W_bd hl j t z hw
  have : (j : Int) ≤ 400 := by omega
  omega
theorem kr_by_in {g : kr_G} {d : kr_D} {B : Int} {r : Nat} (hd : kr_in d B) (hl : -1000000000 ≤ g.2.2.2.1 r ∧ g.2.2.2.1 r ≤ 1000000000) : ∀ z, kr_by g d r = some z → -(B + 1000000000) ≤ z ∧ z ≤ B + 1000000000 := fun z hz => by
  unfold kr_by at hz
  cases hq : d (g.2.1 r) with
  | none => rw [hq] at hz; cases hz
  | some x =>
    rw [hq] at hz
    cases hz
    have := hd _ _ hq
    omega
theorem kr_lw_in {f : kr_D} {t : Nat} {x : Option Int} {B : Int} (hf : kr_in f B) (hx : ∀ z, x = some z → -B ≤ z ∧ z ≤ B) : kr_in (kr_lw f t x) B := fun q z hz => by
  unfold kr_lw at hz
  by_cases e : q = t
  · rw [if_pos e] at hz
    unfold kr_mn at hz
    by_cases w : kr_ls x (f t) = true
    · rw [if_pos w] at hz; exact hx z hz
    · rw [if_neg w] at hz; exact hf t z hz
  · rw [if_neg e] at hz; exact hf q z hz
theorem kr_sk_in {g : kr_G} {d f : kr_D} {B : Int} (hd : kr_in d B) (hf : kr_in f (B + 1000000000)) (hl : ∀ r, r < g.1 → -1000000000 ≤ g.2.2.2.1 r ∧ g.2.2.2.1 r ≤ 1000000000) : ∀ k : Nat, k ≤ g.1 → kr_in (kr_sk g d f k) (B + 1000000000)
  | 0, _ => hf
  | k + 1, hk => by
    rw [kr_sk_s]
    have ih := kr_sk_in hd hf hl k (by omega)
    by_cases hu : g.2.2.2.2 k = true
    · rw [if_pos hu]
      exact kr_lw_in ih (kr_by_in hd (hl k (by omega)))
    · rw [if_neg hu]; exact ih
