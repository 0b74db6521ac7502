/-! Ways as short: by tight roads, one left out; how many. -/
/-- the tight roads but one -/
def kr_T (g : kr_G) (d : kr_D) (b : Int32) : kr_G := (g.1, g.2.1, g.2.2.1, g.2.2.2.1, fun r => decide (¬ nI r = b) && kr_tight g d r)
def kr_cs (g : kr_G) (c : Nat → Nat) : Nat → (Nat → Nat)
  | 0 => fun _ => 0
  | j + 1 => if g.2.2.2.2 j = true then (fun q => if q = g.2.2.1 j then kr_cs g c j q + c (g.2.1 j) else kr_cs g c j q) else kr_cs g c j
/-- how many ways of k roads from o -/
def kr_ct (g : kr_G) (o : Nat) : Nat → (Nat → Nat)
  | 0 => fun t => if t = o then 1 else 0
  | k + 1 => kr_cs g (kr_ct g o k) g.1
/-- of at most k roads, together -/
def kr_ca (g : kr_G) (o t : Nat) : Nat → Nat
  | 0 => kr_ct g o 0 t
  | k + 1 => kr_ca g o t k + kr_ct g o (k + 1) t
theorem kr_cs_s (g : kr_G) (c : Nat → Nat) (j : Nat) : kr_cs g c (j + 1) = if g.2.2.2.2 j = true then (fun q => if q = g.2.2.1 j then kr_cs g c j q + c (g.2.1 j) else kr_cs g c j q) else kr_cs g c j := rfl
theorem kr_cs_pos {g : kr_G} {c : Nat → Nat} {t : Nat} : ∀ j : Nat, 0 < kr_cs g c j t ↔ ∃ r, r < j ∧ g.2.2.2.2 r = true ∧ g.2.2.1 r = t ∧ 0 < c (g.2.1 r)
  | 0 => ⟨fun h => absurd h (Nat.lt_irrefl 0), fun ⟨r, h, _⟩ => absurd h (Nat.not_lt_zero _)⟩
  | j + 1 => by
    have ih := kr_cs_pos (g := g) (c := c) (t := t) j
    rw [kr_cs_s]
    by_cases hu : g.2.2.2.2 j = true
    · rw [if_pos hu]
      by_cases ht : t = g.2.2.1 j
      · rw [if_pos ht]
        constructor
        · intro h
          by_cases h0 : 0 < c (g.2.1 j)
          · exact ⟨j, by omega, hu, ht.symm, h0⟩
          · obtain ⟨r, h1, h2⟩ := ih.mp (by omega)
            exact ⟨r, by omega, h2⟩
        · rintro ⟨r, h1, h2, h3, h4⟩
          by_cases e : r = j
          · subst e; omega
          · have := ih.mpr ⟨r, by omega, h2, h3, h4⟩
            omega
      · rw [if_neg ht]
        constructor
        · intro h
          obtain ⟨r, h1, h2⟩ := ih.mp h
          exact ⟨r, by omega, h2⟩
        · rintro ⟨r, h1, h2, h3, h4⟩
          by_cases e : r = j
          · subst e; exact absurd h3.symm ht
          · exact ih.mpr ⟨r, by omega, h2, h3, h4⟩
    · rw [if_neg hu]
      constructor
      · intro h
        obtain ⟨r, h1, h2⟩ := ih.mp h
        exact ⟨r, by omega, h2⟩
      · rintro ⟨r, h1, h2, h3, h4⟩
        by_cases e : r = j
        · subst e; exact absurd h2 hu
        · exact ih.mpr ⟨r, by omega, h2, h3, h4⟩
theorem kr_ct_pos {g : kr_G} {o : Nat} : ∀ k t : Nat, 0 < kr_ct g o k t ↔ ∃ y, kr_W g o k t y
  | 0, t => by
    unfold kr_ct
    by_cases h : t = o
    · rw [if_pos h]
      exact ⟨fun _ => ⟨0, h, rfl⟩, fun _ => by omega⟩
    · rw [if_neg h]
      exact ⟨fun q => absurd q (Nat.lt_irrefl 0), fun ⟨y, hy⟩ => absurd hy.1 h⟩
  | k + 1, t => by
    refine Iff.trans (kr_cs_pos (g := g) (c := kr_ct g o k) (t := t) g.1) ?_
    constructor
    · rintro ⟨r, h1, h2, h3, h4⟩
      obtain ⟨x, hx⟩ := (kr_ct_pos k _).mp h4
      exact ⟨_, r, h1, h2, h3, x, hx, rfl⟩
    · rintro ⟨y, r, h1, h2, h3, x, hx, _⟩
      exact ⟨r, h1, h2, h3, (kr_ct_pos k _).mpr ⟨x, hx⟩⟩
theorem kr_ca_pos {g : kr_G} {o t : Nat} : ∀ k : Nat, 0 < kr_ca g o t k ↔ ∃ j, j ≤ k ∧ ∃ y, kr_W g o j t y
  | 0 => by
    refine Iff.trans (kr_ct_pos 0 t) ⟨fun h => ⟨0, Nat.le_refl _, h⟩, fun ⟨j, hj, h⟩ => ?_⟩
    obtain rfl : j = 0 := by omega
    exact h
  | k + 1 => by
    have ih := kr_ca_pos (g := g) (o := o) (t := t) k
    have h1 := kr_ct_pos (g := g) (o := o) (k + 1) t
    have e : kr_ca g o t (k + 1) = kr_ca g o t k + kr_ct g o (k + 1) t := rfl
    rw [e]
    constructor
    · intro h
      by_cases h0 : 0 < kr_ca g o t k
      · obtain ⟨j, hj, hy⟩ := ih.mp h0
        exact ⟨j, by omega, hy⟩
      · exact ⟨k + 1, Nat.le_refl _, h1.mp (by omega)⟩
    · rintro ⟨j, hj, hy⟩
      by_cases ej : j = k + 1
      · subst ej
        have := h1.mpr hy
        omega
      · have := ih.mpr ⟨j, by omega, hy⟩
        omega
theorem kr_wk_W {g : kr_G} {o : Nat} : ∀ (k : Nat) (l : List Nat) (t : Nat), l.length = k → kr_wk g o l t → kr_W g o k t (kr_wt g l) := by
  intro k
  induction k with
  | zero =>
    intro l t hl hw
    cases l with
    | nil => exact ⟨(show o = t from hw).symm, rfl⟩
    | cons a l => simp at hl
  | succ k ih =>
    intro l t hl hw
    rcases List.eq_nil_or_concat l with h | ⟨l', r, h⟩
    · rw [h] at hl; simp at hl
    · rw [List.concat_eq_append] at h
      subst h
      obtain ⟨w, h3, h4, h5, h6, h7⟩ := (kr_wk_app l' [r] o t).mp hw
      have hl' : l'.length = k := by rw [List.length_append] at hl; simpa using hl
      rw [← h6] at h3
      refine ⟨r, h4, h5, h7, kr_wt g l', ih l' _ hl' h3, ?_⟩
      rw [kr_wt_app]
      have : kr_wt g [r] = g.2.2.2.1 r + 0 := rfl
      omega
/-- ways by tight roads are as long as the distance -/
theorem kr_T_D {g : kr_G} {n o : Nat} {b : Int32} (hg : kr_good g) (ht : kr_tn g n) (ho : o < n) : ∀ (k t : Nat) (y : Int), kr_W (kr_T g (kr_dst g n o) b) o k t y → kr_dst g n o t = some y
  | 0, t, y, h => by
    rw [h.1, kr_D_o hg ht ho, h.2]
  | k + 1, t, y, ⟨r, h1, h2, h3, x, h4, h5⟩ => by
    have ih := kr_T_D hg ht ho k _ x h4
    have h2' : (decide (¬ nI r = b) && kr_tight g (kr_dst g n o) r) = true := h2
    rw [Bool.and_eq_true] at h2'
    obtain ⟨_, a, ha, hb⟩ := kr_tight_iff.mp h2'.2
    have h3' : g.2.2.1 r = t := h3
    have ih' : kr_dst g n o (g.2.1 r) = some x := ih
    rw [ih'] at ha
    have : x = a := Option.some.inj ha
    rw [h3'] at hb
    rw [hb, h5, this]
    rfl
/-- a way as long as the distance goes by tight roads alone -/
theorem kr_all_tight {g : kr_G} {n o : Nat} (hg : kr_good g) (ht : kr_tn g n) (ho : o < n) : ∀ (k : Nat) (l : List Nat) (t : Nat), l.length = k → kr_wk g o l t → kr_dst g n o t = some (kr_wt g l) → ∀ r, r ∈ l → kr_tight g (kr_dst g n o) r = true := by
  intro k
  induction k with
  | zero =>
    intro l t hl _ _ r hr
    cases l with
    | nil => cases hr
    | cons a l => simp at hl
  | succ k ih =>
    intro l t hl hw hd r hr
    rcases List.eq_nil_or_concat l with h | ⟨l', q, h⟩
    · rw [h] at hl; simp at hl
    · rw [List.concat_eq_append] at h
      subst h
      obtain ⟨w, h3, h4, h5, h6, h7⟩ := (kr_wk_app l' [q] o t).mp hw
      have h7' : g.2.2.1 q = t := h7
      have hl' : l'.length = k := by rw [List.length_append] at hl; simpa using hl
      rw [← h6] at h3
      obtain ⟨a, h8, h9⟩ := kr_D_le hg ht ho h3
      obtain ⟨b, h10, h11⟩ := kr_D_rd hg ht ho h4 h5 h8
      rw [h7', hd] at h10
      have h12 := Option.some.inj h10
      rw [kr_wt_app] at h12
      have h13 : kr_wt g [q] = g.2.2.2.1 q + 0 := rfl
      have ha : a = kr_wt g l' := by omega
      rw [List.mem_append] at hr
      rcases hr with hr | hr
      · exact ih l' _ hl' h3 (by rw [h8, ha]) r hr
      · have : r = q := by simpa using hr
        rw [this]
        refine kr_tight_iff.mpr ⟨h5, a, h8, ?_⟩
        rw [h7', hd, kr_wt_app]
        exact congrArg some (by omega)
/-- a walk, its roads all in another graph of the same towns -/
theorem kr_wk_mem {g h : kr_G} (e1 : h.1 = g.1) (e2 : h.2.1 = g.2.1) (e3 : h.2.2.1 = g.2.2.1) (e4 : h.2.2.2.1 = g.2.2.2.1) : ∀ (l : List Nat) (u v : Nat), kr_wk g u l v → (∀ r, r ∈ l → h.2.2.2.2 r = true) → kr_wk h u l v ∧ kr_wt h l = kr_wt g l
  | [], _, _, hw, _ => ⟨hw, rfl⟩
  | r :: l, u, v, ⟨h1, h2, h3, h4⟩, hm => by
    rw [← e3] at h4
    obtain ⟨h5, h6⟩ := kr_wk_mem e1 e2 e3 e4 l (h.2.2.1 r) v (by rw [e3]; rw [e3] at h4; exact h4) (fun q hq => hm q (List.mem_cons_of_mem _ hq))
    refine ⟨⟨by rw [e1]; exact h1, hm r List.mem_cons_self, by rw [e2]; exact h3, h5⟩, ?_⟩
    show h.2.2.2.1 r + kr_wt h l = g.2.2.2.1 r + kr_wt g l
    rw [e4, h6]
theorem kr_T_good {g : kr_G} {d : kr_D} {b : Int32} (hg : kr_good g) : kr_good (kr_T g d b) := kr_sub_good hg (fun r hr hu => by
  have hu' : (decide (¬ nI r = b) && kr_tight g d r) = true := hu
  rw [Bool.and_eq_true] at hu'
  exact ⟨hr, (kr_tight_iff.mp hu'.2).1, rfl, rfl, rfl⟩)
/-- the distance stays without a road just if a way as short goes without it -/
theorem kr_need {F : Nat → Int32} {n m o t : Nat} {b : Int32} (hok : kb_ok F n m o) (hb : b = -1 ∨ ∃ r, r < m ∧ b = nI r) (ht : t < n) {z : Int} (hz : kb_D F n m o t = some z) : (kr_bf (km_gr F m b) (kr_one o) (n - 1) t = some z) ↔ 0 < kr_ca (kr_T (km_gr F m (-1)) (kb_D F n m o) b) o t (n - 1) := by
  have hm := hok.1.2.2.2.1.1
  have hg := hok.2.2.2.1
  have htn := kb_tn hok.1 (-1)
  have hon := hok.2.2.1
  have hsub : ∀ r, r < m → (km_gr F m b).2.2.2.2 r = true → (km_gr F m (-1)).2.2.2.2 r = true ∧ ¬ nI r = b := fun r hr hu => by
    have hu' := of_decide_eq_true hu
    exact ⟨decide_eq_true ⟨hu'.1, kb_neg1 (by omega)⟩, hu'.2⟩
  have hgb : kr_good (km_gr F m b) := kr_sub_good hg (fun r hr hu => ⟨hr, (hsub r hr hu).1, rfl, rfl, rfl⟩)
  have htb := kb_tn hok.1 b
  constructor
  · intro h
    obtain ⟨l, l1, l2⟩ := kr_D_wk (g := km_gr F m b) (n := n) h
    obtain ⟨w1, w2⟩ := kr_sub_wk (g := km_gr F m (-1)) (h := km_gr F m b) (fun r hr hu => ⟨hr, (hsub r hr hu).1, rfl, rfl, rfl⟩) l o t l1
    have htight := kr_all_tight (n := n) hg htn hon l.length l t rfl w1 (show kb_D F n m o t = _ by rw [hz, w2, l2])
    have hmem : ∀ r, r ∈ l → ¬ nI r = b := fun r hr => by
      have : ∀ (l : List Nat) (u v : Nat), kr_wk (km_gr F m b) u l v → r ∈ l → ¬ nI r = b := fun l => by
        induction l with
        | nil => intro _ _ _ hq; cases hq
        | cons a l ih =>
          intro u v hw hq
          obtain ⟨q1, q2, q3, q4⟩ := hw
          rcases List.mem_cons.mp hq with e | hq
          · rw [e]; exact (hsub a q1 q2).2
          · exact ih _ _ q4 hq
      exact this l o t l1 hr
    obtain ⟨T1, T2⟩ := kr_wk_mem (g := km_gr F m (-1)) (h := kr_T (km_gr F m (-1)) (kb_D F n m o) b) rfl rfl rfl rfl l o t w1 (fun r hr => by
      show (decide (¬ nI r = b) && kr_tight (km_gr F m (-1)) (kb_D F n m o) r) = true
      rw [decide_eq_true (hmem r hr), Bool.true_and]
      exact htight r hr)
    obtain ⟨l', s1, s2, s3⟩ := kr_short (kr_T_good hg) (show kr_tn (kr_T (km_gr F m (-1)) (kb_D F n m o) b) n from fun r hr => htn r hr) hon l.length l t (Nat.le_refl _) T1
    exact (kr_ca_pos (n - 1)).mpr ⟨l'.length, by omega, _, kr_wk_W l'.length l' t rfl s1⟩
  · intro h
    obtain ⟨j, hj, y, hy⟩ := (kr_ca_pos (n - 1)).mp h
    have hD := kr_T_D (n := n) hg htn hon j t y hy
    have hyz : y = z := Option.some.inj ((show kb_D F n m o t = some y from hD).symm.trans hz)
    obtain ⟨l, l1, l2, l3⟩ := kr_W_wk j t y hy
    obtain ⟨v1, v2⟩ := kr_sub_wk (g := km_gr F m b) (h := kr_T (km_gr F m (-1)) (kb_D F n m o) b) (fun r hr hu => by
      have hu' : (decide (¬ nI r = b) && kr_tight (km_gr F m (-1)) (kb_D F n m o) r) = true := hu
      rw [Bool.and_eq_true, decide_eq_true_eq] at hu'
      have hus := (kr_tight_iff.mp hu'.2).1
      exact ⟨hr, decide_eq_true ⟨(of_decide_eq_true hus).1, hu'.1⟩, rfl, rfl, rfl⟩) l o t l2
    obtain ⟨x, x1, x2⟩ := kr_D_le (n := n) hgb htb hon v1
    obtain ⟨l2', m1, m2⟩ := kr_D_wk (g := km_gr F m b) (n := n) x1
    obtain ⟨w1, w2⟩ := kr_sub_wk (g := km_gr F m (-1)) (h := km_gr F m b) (fun r hr hu => ⟨hr, (hsub r hr hu).1, rfl, rfl, rfl⟩) l2' o t m1
    obtain ⟨u, u1, u2⟩ := kr_D_le (n := n) hg htn hon w1
    have huz : u = z := Option.some.inj ((show kb_D F n m o t = some u from u1).symm.trans hz)
    have hxz : x = z := by omega
    rw [← hxz]
    exact x1
