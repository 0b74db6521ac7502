/-! Some roads free: the rows of the class and the layers of the reference are the least of one set. -/
def kr_wkS (g : kr_G) (u v : Nat) (y : Int) : Prop := ∃ l, kr_wk g u l v ∧ kr_wt g l = y
theorem kr_dst_M {g : kr_G} {n o : Nat} (hg : kr_good g) (ht : kr_tn g n) (ho : o < n) (t : Nat) : kr_isM (kr_wkS g o t) (kr_dst g n o t) := by
  cases h : kr_dst g n o t with
  | none =>
    intro y ⟨l, hl, _⟩
    obtain ⟨z, hz, _⟩ := kr_D_le hg ht ho hl
    rw [h] at hz
    cases hz
  | some z =>
    refine ⟨kr_D_wk h, fun y ⟨l, hl, e⟩ => ?_⟩
    obtain ⟨w, hw, hle⟩ := kr_D_le hg ht ho hl
    rw [h] at hw
    cases hw
    omega
theorem kr_isM_pl2 {S T : Int → Prop} {a b : Option Int} (ha : kr_isM S a) (hb : kr_isM T b) : kr_isM (fun y => ∃ x z, S x ∧ T z ∧ y = x + z) (kr_plus a b) := by
  cases a with
  | none => exact fun y ⟨x, z, hx, _⟩ => ha x hx
  | some x =>
    cases b with
    | none => exact fun y ⟨x', z, _, hz, _⟩ => hb z hz
    | some z => exact ⟨⟨x, z, ha.1, hb.1, rfl⟩, fun y ⟨x', z', hx, hz, hy⟩ => by have := ha.2 x' hx; have := hb.2 z' hz; omega⟩
/-- lengths of ways with at most i roads free -/
def kr_fS (g : kr_G) (o : Nat) : Nat → Nat → Int → Prop
  | 0, t, y => kr_wkS g o t y
  | i + 1, t, y => kr_fS g o i t y ∨ ∃ r, r < g.1 ∧ g.2.2.2.2 r = true ∧ 0 < g.2.2.2.1 r ∧ ∃ x z, kr_fS g o i (g.2.1 r) x ∧ kr_wkS g (g.2.2.1 r) t z ∧ y = x + z
/-- the class: on from a town, by pairs -/
def kr_go (p : kr_D) (a : Option Int) (f : kr_D) : Nat → kr_D
  | 0 => f
  | t + 1 => kr_lw (kr_go p a f t) t (kr_plus a (p t))
theorem kr_go_s (p : kr_D) (a : Option Int) (f : kr_D) (t : Nat) : kr_go p a f (t + 1) = kr_lw (kr_go p a f t) t (kr_plus a (p t)) := rfl
theorem kr_go_at (p : kr_D) (a : Option Int) (f : kr_D) (t : Nat) : ∀ k : Nat, kr_go p a f k t = if t < k then kr_mn (f t) (kr_plus a (p t)) else f t
  | 0 => by rw [if_neg (Nat.not_lt_zero _)]; rfl
  | k + 1 => by
    rw [kr_go_s]
    unfold kr_lw
    by_cases e : t = k
    · subst e
      rw [if_pos rfl, if_pos (by omega), kr_go_at p a f t t, if_neg (Nat.lt_irrefl t)]
    · rw [if_neg e, kr_go_at p a f t k]
      by_cases q : t < k
      · rw [if_pos q, if_pos (by omega)]
      · rw [if_neg q, if_neg (by omega)]
def kr_fs (g : kr_G) (n : Nat) (d f : kr_D) : Nat → kr_D
  | 0 => f
  | r + 1 => if (g.2.2.2.2 r && decide (0 < g.2.2.2.1 r)) = true then kr_go (kr_dst g n (g.2.2.1 r)) (d (g.2.1 r)) (kr_fs g n d f r) n else kr_fs g n d f r
theorem kr_fs_s (g : kr_G) (n : Nat) (d f : kr_D) (r : Nat) : kr_fs g n d f (r + 1) = if (g.2.2.2.2 r && decide (0 < g.2.2.2.1 r)) = true then kr_go (kr_dst g n (g.2.2.1 r)) (d (g.2.1 r)) (kr_fs g n d f r) n else kr_fs g n d f r := rfl
def kr_fr (g : kr_G) (n o : Nat) : Nat → kr_D
  | 0 => kr_dst g n o
  | i + 1 => kr_fs g n (kr_fr g n o i) (kr_fr g n o i) g.1
theorem kr_fs_M {g : kr_G} {n : Nat} {d f : kr_D} {Sd Sf : Nat → Int → Prop} (hg : kr_good g) (ht : kr_tn g n) (hd : ∀ t, t < n → kr_isM (Sd t) (d t)) (hf : ∀ t, t < n → kr_isM (Sf t) (f t)) : ∀ k : Nat, k ≤ g.1 → ∀ t, t < n → kr_isM (fun y => Sf t y ∨ ∃ r, r < k ∧ g.2.2.2.2 r = true ∧ 0 < g.2.2.2.1 r ∧ ∃ x z, Sd (g.2.1 r) x ∧ kr_wkS g (g.2.2.1 r) t z ∧ y = x + z) (kr_fs g n d f k t)
  | 0, _, t, htn => kr_isM_c (hf t htn) (fun y => ⟨Or.inl, fun h => h.elim id (fun ⟨r, hr, _⟩ => absurd hr (Nat.not_lt_zero _))⟩)
  | k + 1, hk, t, htn => by
    have ih := kr_fs_M hg ht hd hf k (by omega) t htn
    rw [kr_fs_s]
    by_cases hu : (g.2.2.2.2 k && decide (0 < g.2.2.2.1 k)) = true
    · rw [if_pos hu, kr_go_at, if_pos htn]
      rw [Bool.and_eq_true, decide_eq_true_eq] at hu
      refine kr_isM_c (kr_isM_mn ih (kr_isM_pl2 (hd _ (ht k (by omega)).1) (kr_dst_M hg ht (ht k (by omega)).2 t))) (fun y => ?_)
      constructor
      · rintro ((h | ⟨r, h1, h2⟩) | h)
        · exact Or.inl h
        · exact Or.inr ⟨r, by omega, h2⟩
        · exact Or.inr ⟨k, by omega, hu.1, hu.2, h⟩
      · rintro (h | ⟨r, h1, h2, h3, h4⟩)
        · exact Or.inl (Or.inl h)
        · by_cases e : r = k
          · subst e
            exact Or.inr h4
          · exact Or.inl (Or.inr ⟨r, by omega, h2, h3, h4⟩)
    · rw [if_neg hu]
      refine kr_isM_c ih (fun y => ?_)
      constructor
      · rintro (h | ⟨r, h1, h2⟩)
        · exact Or.inl h
        · exact Or.inr ⟨r, by omega, h2⟩
      · rintro (h | ⟨r, h1, h2, h3, h4⟩)
        · exact Or.inl h
        · by_cases e : r = k
          · subst e
            exact absurd (by rw [Bool.and_eq_true, decide_eq_true_eq]; exact ⟨h2, h3⟩) hu
          · exact Or.inr ⟨r, by omega, h2, h3, h4⟩
theorem kr_fr_M {g : kr_G} {n o : Nat} (hg : kr_good g) (ht : kr_tn g n) (ho : o < n) : ∀ i t : Nat, t < n → kr_isM (kr_fS g o i t) (kr_fr g n o i t)
  | 0, t, _ => kr_dst_M hg ht ho t
  | i + 1, t, htn => kr_fs_M hg ht (fun t h => kr_fr_M hg ht ho i t h) (fun t h => kr_fr_M hg ht ho i t h) g.1 (Nat.le_refl _) t htn
/-- the layers: place 4 t + k, roads 8 r + 2 k + b -/
def kr_L (g : kr_G) (s : Nat) : kr_G := (8 * g.1, fun j => 4 * g.2.1 (j / 8) + j / 2 % 4, fun j => 4 * g.2.2.1 (j / 8) + (if j % 2 = 1 ∧ j / 2 % 4 < 3 then j / 2 % 4 + 1 else j / 2 % 4), fun j => if j % 2 = 1 then 0 else g.2.2.2.1 (j / 8), fun j => g.2.2.2.2 (j / 8) && decide (j / 2 % 4 ≤ s) && (decide (j % 2 = 0) || (decide (j / 2 % 4 < s) && decide (0 < g.2.2.2.1 (j / 8)))))
theorem kr_L0 (g : kr_G) (s r : Nat) {k : Nat} (hk : k < 4) : (kr_L g s).2.1 (8 * r + 2 * k) = 4 * g.2.1 r + k ∧ (kr_L g s).2.2.1 (8 * r + 2 * k) = 4 * g.2.2.1 r + k ∧ (kr_L g s).2.2.2.1 (8 * r + 2 * k) = g.2.2.2.1 r ∧ (kr_L g s).2.2.2.2 (8 * r + 2 * k) = (g.2.2.2.2 r && decide (k ≤ s)) := by
  unfold kr_L
  dsimp only
  rw [show (8 * r + 2 * k) / 8 = r by omega, show (8 * r + 2 * k) / 2 % 4 = k by omega, show (8 * r + 2 * k) % 2 = 0 by omega, if_neg (by omega), if_neg (by omega)]
  refine ⟨rfl, rfl, rfl, ?_⟩
  rw [decide_eq_true (show (0 : Nat) = 0 from rfl), Bool.true_or, Bool.and_true]
theorem kr_L1 (g : kr_G) (s r : Nat) {k : Nat} (hk : k < 3) : (kr_L g s).2.1 (8 * r + 2 * k + 1) = 4 * g.2.1 r + k ∧ (kr_L g s).2.2.1 (8 * r + 2 * k + 1) = 4 * g.2.2.1 r + (k + 1) ∧ (kr_L g s).2.2.2.1 (8 * r + 2 * k + 1) = 0 ∧ ((kr_L g s).2.2.2.2 (8 * r + 2 * k + 1) = true ↔ g.2.2.2.2 r = true ∧ k < s ∧ 0 < g.2.2.2.1 r) := by
  unfold kr_L
  dsimp only
  rw [show (8 * r + 2 * k + 1) / 8 = r by omega, show (8 * r + 2 * k + 1) / 2 % 4 = k by omega, show (8 * r + 2 * k + 1) % 2 = 1 by omega, if_pos ⟨rfl, hk⟩, if_pos rfl]
  refine ⟨rfl, rfl, rfl, ?_⟩
  simp only [Bool.and_eq_true, Bool.or_eq_true, decide_eq_true_eq]
  constructor
  · rintro ⟨⟨h1, h2⟩, h3 | h3⟩
    · exact absurd h3 (by decide)
    · exact ⟨h1, h3⟩
  · rintro ⟨h1, h2, h3⟩
    exact ⟨⟨h1, by omega⟩, Or.inr ⟨h2, h3⟩⟩
theorem kr_L_tn {g : kr_G} {n s : Nat} (ht : kr_tn g n) : kr_tn (kr_L g s) (4 * n) := fun j hj => by
  have hj' : j < 8 * g.1 := hj
  have h := ht (j / 8) (by omega)
  constructor
  · show 4 * g.2.1 (j / 8) + j / 2 % 4 < 4 * n
    omega
  · show 4 * g.2.2.1 (j / 8) + (if j % 2 = 1 ∧ j / 2 % 4 < 3 then j / 2 % 4 + 1 else j / 2 % 4) < 4 * n
    split <;> omega
theorem kr_L_lift {g : kr_G} {s k : Nat} (hk : k < 4) (hs : k ≤ s) : ∀ (l : List Nat) (u v : Nat), kr_wk g u l v → kr_wk (kr_L g s) (4 * u + k) (l.map (fun r => 8 * r + 2 * k)) (4 * v + k) ∧ kr_wt (kr_L g s) (l.map (fun r => 8 * r + 2 * k)) = kr_wt g l
  | [], u, v, h => by
    have h' : u = v := h
    subst h'
    exact ⟨rfl, rfl⟩
  | r :: l, u, v, h => by
    obtain ⟨h1, h2, h3, h4⟩ := h
    obtain ⟨i1, i2⟩ := kr_L_lift hk hs l _ v h4
    obtain ⟨a1, a2, a3, a4⟩ := kr_L0 g s r hk
    rw [List.map_cons]
    refine ⟨⟨?_, ?_, ?_, ?_⟩, ?_⟩
    · show 8 * r + 2 * k < 8 * g.1
      omega
    · rw [a4, h2, decide_eq_true hs]; rfl
    · rw [a1, h3]
    · rw [a2]; exact i1
    · show (kr_L g s).2.2.2.1 (8 * r + 2 * k) + _ = g.2.2.2.1 r + kr_wt g l
      rw [a3, i2]
theorem kr_L_road {g : kr_G} {s j : Nat} (hs : s ≤ 3) (hj : j < (kr_L g s).1) (hu : (kr_L g s).2.2.2.2 j = true) : (∃ r k, k ≤ s ∧ j = 8 * r + 2 * k ∧ r < g.1 ∧ g.2.2.2.2 r = true) ∨ ∃ r k, k < s ∧ j = 8 * r + 2 * k + 1 ∧ r < g.1 ∧ g.2.2.2.2 r = true ∧ 0 < g.2.2.2.1 r := by
  have hj' : j < 8 * g.1 := hj
  by_cases hb : j % 2 = 0
  · left
    have e : j = 8 * (j / 8) + 2 * (j / 2 % 4) := by omega
    rw [e, (kr_L0 g s (j / 8) (by omega)).2.2.2, Bool.and_eq_true, decide_eq_true_eq] at hu
    exact ⟨j / 8, j / 2 % 4, hu.2, e, by omega, hu.1⟩
  · right
    have e : j = 8 * (j / 8) + 2 * (j / 2 % 4) + 1 := by omega
    have hks : j / 2 % 4 < s := by
      have hu' : (g.2.2.2.2 (j / 8) && decide (j / 2 % 4 ≤ s) && (decide (j % 2 = 0) || (decide (j / 2 % 4 < s) && decide (0 < g.2.2.2.1 (j / 8))))) = true := hu
      rw [decide_eq_false hb, Bool.false_or, Bool.and_eq_true, Bool.and_eq_true, Bool.and_eq_true, decide_eq_true_eq, decide_eq_true_eq] at hu'
      exact hu'.2.1
    rw [e, (kr_L1 g s (j / 8) (k := j / 2 % 4) (by omega)).2.2.2] at hu
    exact ⟨j / 8, j / 2 % 4, hks, e, by omega, hu.1, hu.2.2⟩
theorem kr_L_down {g : kr_G} {s : Nat} (hs : s ≤ 3) : ∀ (l : List Nat) (u v : Nat), kr_wk (kr_L g s) u l v → u % 4 ≤ v % 4 ∧ (u % 4 = v % 4 → kr_wk g (u / 4) (l.map (· / 8)) (v / 4) ∧ kr_wt (kr_L g s) l = kr_wt g (l.map (· / 8)))
  | [], u, v, h => by
    have h' : u = v := h
    subst h'
    exact ⟨Nat.le_refl _, fun _ => ⟨rfl, rfl⟩⟩
  | j :: l, u, v, h => by
    obtain ⟨h1, h2, h3, h4⟩ := h
    obtain ⟨i1, i2⟩ := kr_L_down hs l _ v h4
    rcases kr_L_road hs h1 h2 with ⟨r, k, hk, rfl, hr, ho⟩ | ⟨r, k, hk, rfl, hr, ho, hl⟩
    · obtain ⟨a1, a2, a3, a4⟩ := kr_L0 g s r (k := k) (by omega)
      rw [a1] at h3
      rw [a2] at i1 i2
      refine ⟨by omega, fun e => ?_⟩
      obtain ⟨b1, b2⟩ := i2 (by omega)
      rw [List.map_cons, show (8 * r + 2 * k) / 8 = r by omega]
      refine ⟨⟨hr, ho, by omega, ?_⟩, ?_⟩
      · rw [show (4 * g.2.2.1 r + k) / 4 = g.2.2.1 r by omega] at b1
        exact b1
      · show (kr_L g s).2.2.2.1 (8 * r + 2 * k) + kr_wt (kr_L g s) l = g.2.2.2.1 r + kr_wt g (l.map (· / 8))
        rw [a3, b2]
    · obtain ⟨a1, a2, a3, a4⟩ := kr_L1 g s r (k := k) (by omega)
      rw [a1] at h3
      rw [a2] at i1
      exact ⟨by omega, fun e => by omega⟩
theorem kr_L_good {g : kr_G} {s : Nat} (hs : s ≤ 3) (hg : kr_good g) : kr_good (kr_L g s) := fun u l hne hw => by
  obtain ⟨h1, h2⟩ := (kr_L_down hs l u u hw).2 rfl
  rw [h2]
  exact hg _ _ (fun e => hne (List.map_eq_nil_iff.mp e)) h1
theorem kr_fS_mono {g : kr_G} {o t : Nat} {y : Int} {i : Nat} (h : kr_fS g o i t y) : ∀ j : Nat, kr_fS g o (i + j) t y
  | 0 => h
  | j + 1 => Or.inl (kr_fS_mono h j)
theorem kr_wkS_r {g : kr_G} {u r : Nat} {y : Int} (hr : r < g.1) (ho : g.2.2.2.2 r = true) (h : kr_wkS g u (g.2.1 r) y) : kr_wkS g u (g.2.2.1 r) (y + g.2.2.2.1 r) := by
  obtain ⟨l, h1, h2⟩ := h
  refine ⟨l ++ [r], (kr_wk_app _ _ _ _).mpr ⟨_, h1, hr, ho, rfl, rfl⟩, ?_⟩
  rw [kr_wt_app, h2]
  show y + (g.2.2.2.1 r + 0) = _
  omega
theorem kr_fS_road {g : kr_G} {o r : Nat} (hr : r < g.1) (ho : g.2.2.2.2 r = true) : ∀ (i : Nat) (y : Int), kr_fS g o i (g.2.1 r) y → kr_fS g o i (g.2.2.1 r) (y + g.2.2.2.1 r)
  | 0, y, h => kr_wkS_r hr ho h
  | i + 1, y, h => by
    rcases h with h | ⟨q, q1, q2, q3, x, z, h1, h2, h3⟩
    · exact Or.inl (kr_fS_road hr ho i y h)
    · exact Or.inr ⟨q, q1, q2, q3, x, z + g.2.2.2.1 r, h1, kr_wkS_r hr ho h2, by omega⟩
/-- what is appended at a walk's end -/
theorem kr_wk_end {g : kr_G} (P : Nat → Int → Prop) (u : Nat) (h0 : P u 0) (hs : ∀ r y, r < g.1 → g.2.2.2.2 r = true → P (g.2.1 r) y → P (g.2.2.1 r) (y + g.2.2.2.1 r)) {l : List Nat} {v : Nat} (h : kr_wk g u l v) : P v (kr_wt g l) := by
  have gen : ∀ (l : List Nat) (w v : Nat) (y : Int), P w y → kr_wk g w l v → P v (y + kr_wt g l) := by
    intro l
    induction l with
    | nil =>
      intro w v y hp hw
      have e : w = v := hw
      subst e
      rw [show y + kr_wt g [] = y from Int.add_zero y]
      exact hp
    | cons r l ih =>
      intro w v y hp hw
      obtain ⟨h1, h2, h3, h4⟩ := hw
      subst h3
      have := ih _ v _ (hs r y h1 h2 hp) h4
      rw [show y + kr_wt g (r :: l) = y + g.2.2.2.1 r + kr_wt g l by show y + (g.2.2.2.1 r + kr_wt g l) = _; omega]
      exact this
  have := gen l u v 0 h0 h
  rw [Int.zero_add] at this
  exact this
theorem kr_L_fS {g : kr_G} {o s t : Nat} {y : Int} (hs : s ≤ 3) : (∃ k, k ≤ s ∧ kr_wkS (kr_L g s) (4 * o) (4 * t + k) y) ↔ kr_fS g o s t y := by
  constructor
  · rintro ⟨k, hk, l, hl, rfl⟩
    have := kr_wk_end (g := kr_L g s) (fun v y => kr_fS g o (v % 4) (v / 4) y) (4 * o) (by
      show kr_fS g o (4 * o % 4) (4 * o / 4) 0
      rw [show 4 * o % 4 = 0 by omega, show 4 * o / 4 = o by omega]
      exact ⟨[], rfl, rfl⟩) (fun j y hj hu hp => by
      rcases kr_L_road hs hj hu with ⟨r, k, hk, rfl, hr, ho⟩ | ⟨r, k, hk, rfl, hr, ho, hl⟩
      · obtain ⟨a1, a2, a3, a4⟩ := kr_L0 g s r (k := k) (by omega)
        rw [a1, show (4 * g.2.1 r + k) % 4 = k by omega, show (4 * g.2.1 r + k) / 4 = g.2.1 r by omega] at hp
        rw [a2, a3, show (4 * g.2.2.1 r + k) % 4 = k by omega, show (4 * g.2.2.1 r + k) / 4 = g.2.2.1 r by omega]
        exact kr_fS_road hr ho k y hp
      · obtain ⟨a1, a2, a3, a4⟩ := kr_L1 g s r (k := k) (by omega)
        rw [a1, show (4 * g.2.1 r + k) % 4 = k by omega, show (4 * g.2.1 r + k) / 4 = g.2.1 r by omega] at hp
        rw [a2, a3, show (4 * g.2.2.1 r + (k + 1)) % 4 = k + 1 by omega, show (4 * g.2.2.1 r + (k + 1)) / 4 = g.2.2.1 r by omega]
        exact Or.inr ⟨r, hr, ho, hl, y, 0, hp, ⟨[], rfl, rfl⟩, rfl⟩) hl
    rw [show (4 * t + k) % 4 = k by omega, show (4 * t + k) / 4 = t by omega] at this
    have h2 := kr_fS_mono this (s - k)
    rw [show k + (s - k) = s by omega] at h2
    exact h2
  · suffices H : ∀ (i t : Nat) (y : Int), i ≤ s → kr_fS g o i t y → ∃ k, k ≤ i ∧ kr_wkS (kr_L g s) (4 * o) (4 * t + k) y from fun h => H s t y (Nat.le_refl s) h
    intro i
    induction i with
    | zero =>
      intro t y hi h
      obtain ⟨l, h1, h2⟩ := h
      obtain ⟨a1, a2⟩ := kr_L_lift (s := s) (k := 0) (by decide) (by omega) l o t h1
      exact ⟨0, Nat.le_refl 0, _, a1, a2.trans h2⟩
    | succ i ih =>
      intro t y hi h
      rcases h with h | ⟨r, q1, q2, q3, x, z, h1, ⟨l, h2, h4⟩, h3⟩
      · obtain ⟨k, hk, h'⟩ := ih t y (by omega) h
        exact ⟨k, by omega, h'⟩
      · obtain ⟨k, hk, l0, w1, w2⟩ := ih _ x (by omega) h1
        obtain ⟨a1, a2⟩ := kr_L_lift (s := s) (k := k + 1) (by omega) (by omega) l _ t h2
        obtain ⟨b1, b2, b3, b4⟩ := kr_L1 g s r (k := k) (by omega)
        refine ⟨k + 1, by omega, l0 ++ ((8 * r + 2 * k + 1) :: l.map (fun r => 8 * r + 2 * (k + 1))), (kr_wk_app _ _ _ _).mpr ⟨_, w1, ?_, b4.mpr ⟨q2, by omega, q3⟩, b1, ?_⟩, ?_⟩
        · show 8 * r + 2 * k + 1 < 8 * g.1
          omega
        · rw [b2]; exact a1
        · rw [kr_wt_app, w2]
          show x + ((kr_L g s).2.2.2.1 (8 * r + 2 * k + 1) + kr_wt (kr_L g s) (l.map (fun r => 8 * r + 2 * (k + 1)))) = y
          rw [b3, a2, h4, h3]
          omega
/-- the least of the first k layers -/
def kr_lst (d : kr_D) (t : Nat) : Nat → Option Int
  | 0 => none
  | k + 1 => kr_mn (kr_lst d t k) (d (4 * t + k))
theorem kr_lst_s (d : kr_D) (t k : Nat) : kr_lst d t (k + 1) = kr_mn (kr_lst d t k) (d (4 * t + k)) := rfl
theorem kr_lst_M {d : kr_D} {t : Nat} {S : Nat → Int → Prop} (h : ∀ k, kr_isM (S k) (d (4 * t + k))) : ∀ k : Nat, kr_isM (fun y => ∃ j, j < k ∧ S j y) (kr_lst d t k)
  | 0 => fun y ⟨j, hj, _⟩ => absurd hj (Nat.not_lt_zero _)
  | k + 1 => by
    rw [kr_lst_s]
    refine kr_isM_c (kr_isM_mn (kr_lst_M h k) (h k)) (fun y => ?_)
    constructor
    · rintro (⟨j, h1, h2⟩ | h2)
      · exact ⟨j, by omega, h2⟩
      · exact ⟨k, by omega, h2⟩
    · rintro ⟨j, h1, h2⟩
      by_cases e : j = k
      · subst e; exact Or.inr h2
      · exact Or.inl ⟨j, by omega, h2⟩
theorem kr_free {g : kr_G} {n o s t : Nat} (hg : kr_good g) (ht : kr_tn g n) (ho : o < n) (htn : t < n) (hs : s ≤ 3) : kr_lst (kr_bf (kr_L g s) (kr_one (4 * o)) (4 * n)) t (s + 1) = kr_fr g n o s t := by
  have e : kr_bf (kr_L g s) (kr_one (4 * o)) (4 * n) = kr_dst (kr_L g s) (4 * n) (4 * o) := by
    have := kr_bf_all (kr_L_good hs hg) (kr_L_tn (s := s) ht) (show 4 * o < 4 * n by omega) 1
    rw [show 4 * n - 1 + 1 = 4 * n by omega] at this
    exact this
  rw [e]
  refine kr_isM_u (kr_isM_c (kr_lst_M (S := fun k y => kr_wkS (kr_L g s) (4 * o) (4 * t + k) y) (fun k => kr_dst_M (kr_L_good hs hg) (kr_L_tn (s := s) ht) (show 4 * o < 4 * n by omega) _) (s + 1)) (fun y => ?_)) (kr_fr_M hg ht ho s t htn)
  rw [← kr_L_fS hs]
  constructor
  · rintro ⟨k, h1, h2⟩
    exact ⟨k, by omega, h2⟩
  · rintro ⟨k, h1, h2⟩
    exact ⟨k, by omega, h2⟩
