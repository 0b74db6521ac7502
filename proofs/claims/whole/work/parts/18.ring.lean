/-! A road more: only rings by it must be asked. -/
/-- the same roads, but r may not be used -/
def kr_wo (g g' : kr_G) (r : Nat) : Prop := g'.1 = g.1 ∧ (∀ q, q < g.1 → g'.2.1 q = g.2.1 q ∧ g'.2.2.1 q = g.2.2.1 q ∧ g'.2.2.2.1 q = g.2.2.2.1 q ∧ (g'.2.2.2.2 q = true ↔ g.2.2.2.2 q = true ∧ q ≠ r))
theorem kr_wo_in {g g' : kr_G} {r : Nat} (h : kr_wo g g' r) : ∀ (l : List Nat) (u v : Nat), kr_wk g' u l v → kr_wk g u l v ∧ kr_wt g' l = kr_wt g l
  | [], _, _, hw => ⟨hw, rfl⟩
  | q :: l, u, v, ⟨h1, h2, h3, h4⟩ => by
    have hq : q < g.1 := by rw [← h.1]; exact h1
    obtain ⟨e1, e2, e3, e4⟩ := h.2 q hq
    rw [e2] at h4
    obtain ⟨h5, h6⟩ := kr_wo_in h l _ v h4
    refine ⟨⟨hq, (e4.mp h2).1, by rw [← e1]; exact h3, h5⟩, ?_⟩
    show g'.2.2.2.1 q + kr_wt g' l = g.2.2.2.1 q + kr_wt g l
    rw [e3, h6]
/-- a walk without r, or up to its first use of r -/
theorem kr_first {g g' : kr_G} {r : Nat} (h : kr_wo g g' r) : ∀ (l : List Nat) (u v : Nat), kr_wk g u l v → (kr_wk g' u l v ∧ kr_wt g' l = kr_wt g l) ∨ ∃ a b, l = a ++ r :: b ∧ kr_wk g' u a (g.2.1 r) ∧ kr_wt g' a = kr_wt g a ∧ kr_wk g (g.2.2.1 r) b v
  | [], _, _, hw => Or.inl ⟨hw, rfl⟩
  | q :: l, u, v, ⟨h1, h2, h3, h4⟩ => by
    by_cases hqr : q = r
    · subst hqr
      exact Or.inr ⟨[], l, rfl, h3.symm, rfl, h4⟩
    · obtain ⟨e1, e2, e3, e4⟩ := h.2 q h1
      have hq' : q < g'.1 := by rw [h.1]; exact h1
      rcases kr_first h l _ v h4 with ⟨h5, h6⟩ | ⟨a, b, h5, h6, h7, h8⟩
      · refine Or.inl ⟨⟨hq', e4.mpr ⟨h2, hqr⟩, by rw [e1]; exact h3, by rw [e2]; exact h5⟩, ?_⟩
        show g'.2.2.2.1 q + kr_wt g' l = g.2.2.2.1 q + kr_wt g l
        rw [e3, h6]
      · refine Or.inr ⟨q :: a, b, by rw [h5]; rfl, ⟨hq', e4.mpr ⟨h2, hqr⟩, by rw [e1]; exact h3, by rw [e2]; exact h6⟩, ?_, h8⟩
        show g'.2.2.2.1 q + kr_wt g' a = g.2.2.2.1 q + kr_wt g a
        rw [e3, h7]
/-- every way back beside r is long enough: then every way back is -/
theorem kr_back {g g' : kr_G} {r : Nat} (h : kr_wo g g' r) (hb : ∀ l, kr_wk g' (g.2.2.1 r) l (g.2.1 r) → 0 < kr_wt g' l + g.2.2.2.1 r) : ∀ (k : Nat) (l : List Nat), l.length ≤ k → kr_wk g (g.2.2.1 r) l (g.2.1 r) → 0 < kr_wt g l + g.2.2.2.1 r := by
  intro k
  induction k with
  | zero =>
    intro l hl hw
    rcases kr_first h l _ _ hw with ⟨h5, h6⟩ | ⟨a, b, h5, -⟩
    · rw [← h6]
      exact hb l h5
    · rw [h5] at hl
      simp at hl
  | succ k ih =>
    intro l hl hw
    rcases kr_first h l _ _ hw with ⟨h5, h6⟩ | ⟨a, b, h5, h6, h7, h8⟩
    · rw [← h6]
      exact hb l h5
    · have h9 := hb a h6
      have h10 := ih b (by rw [h5] at hl; simp at hl; omega) h8
      rw [h5, kr_wt_app]
      show 0 < kr_wt g a + (g.2.2.2.1 r + kr_wt g b) + g.2.2.2.1 r
      omega
/-- no bad ring without r, and none by it: no bad ring -/
theorem kr_good_add {g g' : kr_G} {r : Nat} (h : kr_wo g g' r) (hg : kr_good g') (hb : ∀ l, kr_wk g' (g.2.2.1 r) l (g.2.1 r) → 0 < kr_wt g' l + g.2.2.2.1 r) : kr_good g := by
  intro u l hne hw
  rcases kr_first h l _ _ hw with ⟨h5, h6⟩ | ⟨a, b, h5, h6, h7, h8⟩
  · rw [← h6]
    exact hg u l hne h5
  · have h9 : kr_wk g (g.2.2.1 r) (b ++ a) (g.2.1 r) := (kr_wk_app _ _ _ _).mpr ⟨u, h8, (kr_wo_in h a _ _ h6).1⟩
    have h10 := kr_back h hb _ _ (Nat.le_refl _) h9
    rw [kr_wt_app] at h10
    rw [h5, kr_wt_app]
    show 0 < kr_wt g a + (g.2.2.2.1 r + kr_wt g b)
    omega
/-- fewer roads: what was good stays good -/
theorem kr_good_wo {g g' : kr_G} {r : Nat} (h : kr_wo g g' r) (hg : kr_good g) : kr_good g' := by
  intro u l hne hw
  obtain ⟨h1, h2⟩ := kr_wo_in h l u u hw
  rw [h2]
  exact hg u l hne h1
/-- what the rounds say of the way back by which r would make a ring -/
theorem kr_ring_ok {g g' : kr_G} {r n : Nat} (h : kr_wo g g' r) (hg : kr_good g') (ht : kr_tn g' n) (hr : r < g.1) (hd : ∀ z, kr_bf g' (kr_one (g.2.2.1 r)) (n - 1) (g.2.1 r) = some z → 0 < z + g.2.2.2.1 r) : kr_good g := by
  refine kr_good_add h hg (fun l hl => ?_)
  have hto : g.2.2.1 r < n := by
    have h1 := (ht r (by rw [h.1]; exact hr)).2
    rw [(h.2 r hr).2.1] at h1
    exact h1
  obtain ⟨l', h3, h4, h5⟩ := kr_short hg ht hto l.length l _ (Nat.le_refl _) hl
  obtain ⟨z, h6, h7⟩ := kr_cpl g' (g.2.2.1 r) (n - 1) l' _ (by omega) h3
  have := hd z h6
  omega
/-- and where they say otherwise there is a bad ring -/
theorem kr_ring_bad {g g' : kr_G} {r i : Nat} (h : kr_wo g g' r) (hr : r < g.1) (hu : g.2.2.2.2 r = true) {z : Int} (hz : kr_bf g' (kr_one (g.2.2.1 r)) i (g.2.1 r) = some z) (hle : z + g.2.2.2.1 r ≤ 0) : ¬ kr_good g := by
  intro hg
  obtain ⟨l, h1, h2⟩ := kr_snd_bf g' (g.2.2.1 r) i _ _ hz
  obtain ⟨h3, h4⟩ := kr_wo_in h l _ _ h1
  have h5 := hg (g.2.1 r) (r :: l) (by simp) ⟨hr, hu, rfl, h3⟩
  have h6 : kr_wt g (r :: l) = g.2.2.2.1 r + kr_wt g l := rfl
  rw [h6, ← h4, h2] at h5
  omega
