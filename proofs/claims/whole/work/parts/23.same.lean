/-! Two graphs with the same roads: the same rows. -/
def kr_same (g h : kr_G) : Prop := g.1 = h.1 ∧ ∀ r, r < g.1 → g.2.1 r = h.2.1 r ∧ g.2.2.1 r = h.2.2.1 r ∧ g.2.2.2.1 r = h.2.2.2.1 r ∧ g.2.2.2.2 r = h.2.2.2.2 r
theorem kr_same_rlx {g h : kr_G} (hs : kr_same g h) {r : Nat} (hr : r < g.1) (d : kr_D) : kr_rlx g d r = kr_rlx h d r := by
  obtain ⟨h1, h2, h3, h4⟩ := hs.2 r hr
  unfold kr_rlx
  rw [h1, h2, h3, h4]
theorem kr_same_rnd {g h : kr_G} (hs : kr_same g h) (d : kr_D) : ∀ k : Nat, k ≤ g.1 → kr_rnd g d k = kr_rnd h d k
  | 0, _ => rfl
  | k + 1, hk => by
    show kr_rlx g (kr_rnd g d k) k = kr_rlx h (kr_rnd h d k) k
    rw [kr_same_rnd hs d k (by omega), kr_same_rlx hs (by omega)]
theorem kr_same_bf {g h : kr_G} (hs : kr_same g h) (d : kr_D) : ∀ i : Nat, kr_bf g d i = kr_bf h d i
  | 0 => rfl
  | i + 1 => by
    show kr_rnd g (kr_bf g d i) g.1 = kr_rnd h (kr_bf h d i) h.1
    rw [kr_same_bf hs d i, kr_same_rnd hs _ g.1 (Nat.le_refl _), hs.1]
theorem kr_same_wk {g h : kr_G} (hs : kr_same g h) : ∀ (l : List Nat) (u v : Nat), kr_wk g u l v → kr_wk h u l v ∧ kr_wt g l = kr_wt h l
  | [], _, _, hw => ⟨hw, rfl⟩
  | r :: l, u, v, ⟨h1, h2, h3, h4⟩ => by
    obtain ⟨e1, e2, e3, e4⟩ := hs.2 r h1
    rw [e2] at h4
    obtain ⟨h5, h6⟩ := kr_same_wk hs l _ v h4
    refine ⟨⟨by rw [← hs.1]; exact h1, by rw [← e4]; exact h2, by rw [← e1]; exact h3, h5⟩, ?_⟩
    show g.2.2.2.1 r + kr_wt g l = h.2.2.2.1 r + kr_wt h l
    rw [e3, h6]
theorem kr_same_symm {g h : kr_G} (hs : kr_same g h) : kr_same h g := ⟨hs.1.symm, fun r hr => by
  obtain ⟨h1, h2, h3, h4⟩ := hs.2 r (by rw [hs.1]; exact hr)
  exact ⟨h1.symm, h2.symm, h3.symm, h4.symm⟩⟩
theorem kr_same_good {g h : kr_G} (hs : kr_same g h) (hg : kr_good g) : kr_good h := fun u l hne hw => by
  obtain ⟨h1, h2⟩ := kr_same_wk (kr_same_symm hs) l u u hw
  rw [h2]
  exact hg u l hne h1
/-- the class's settle and the reference's finds come to the same row -/
theorem kr_settle_finds {g h : kr_G} {n o : Nat} (hs : kr_same g h) (hg : kr_good g) (ht : kr_tn g n) (ho : o < n) : kr_bf g (kr_one o) n = kr_bf h (kr_one o) (n - 1) := by
  have h1 := kr_bf_all hg ht ho 1
  rw [show n - 1 + 1 = n by omega] at h1
  rw [h1, kr_same_bf hs]
