/-! Walks by roads, and what the rounds find of them. -/
/-- the roads l lead from u to v -/
def kr_wk (g : kr_G) : Nat → List Nat → Nat → Prop
  | u, [], v => u = v
  | u, r :: l, v => r < g.1 ∧ g.2.2.2.2 r = true ∧ g.2.1 r = u ∧ kr_wk g (g.2.2.1 r) l v
def kr_wt (g : kr_G) : List Nat → Int
  | [] => 0
  | r :: l => g.2.2.2.1 r + kr_wt g l
theorem kr_wt_app (g : kr_G) : ∀ a b : List Nat, kr_wt g (a ++ b) = kr_wt g a + kr_wt g b
  | [], b => by show kr_wt g b = 0 + kr_wt g b; omega
  | r :: a, b => by
    show g.2.2.2.1 r + kr_wt g (a ++ b) = g.2.2.2.1 r + kr_wt g a + kr_wt g b
    rw [kr_wt_app g a b]
    omega
theorem kr_wk_app {g : kr_G} : ∀ (a b : List Nat) (u v : Nat), kr_wk g u (a ++ b) v ↔ ∃ w, kr_wk g u a w ∧ kr_wk g w b v
  | [], b, u, v => ⟨fun h => ⟨u, rfl, h⟩, fun ⟨w, h1, h2⟩ => by
    have h1' : u = w := h1
    subst h1'
    exact h2⟩
  | r :: a, b, u, v => by
    constructor
    · intro h
      obtain ⟨h1, h2, h3, h4⟩ := h
      obtain ⟨w, h5, h6⟩ := (kr_wk_app a b _ v).mp h4
      exact ⟨w, ⟨h1, h2, h3, h5⟩, h6⟩
    · intro ⟨w, ⟨h1, h2, h3, h5⟩, h6⟩
      exact ⟨h1, h2, h3, (kr_wk_app a b _ v).mpr ⟨w, h5, h6⟩⟩
/-- a row's lengths are lengths of walks from o -/
def kr_snd (g : kr_G) (o : Nat) (d : kr_D) : Prop := ∀ t z, d t = some z → ∃ l, kr_wk g o l t ∧ kr_wt g l = z
theorem kr_snd_one (g : kr_G) (o : Nat) : kr_snd g o (kr_one o) := by
  intro t z h
  unfold kr_one at h
  by_cases ht : t = o
  · rw [if_pos ht] at h
    cases h
    exact ⟨[], ht.symm, rfl⟩
  · rw [if_neg ht] at h
    cases h
theorem kr_snd_set {g : kr_G} {o r : Nat} {d : kr_D} (h : kr_snd g o d) (hr : r < g.1) (hu : g.2.2.2.2 r = true) {a : Int} (ha : d (g.2.1 r) = some a) : kr_snd g o (kr_set d (g.2.2.1 r) (a + g.2.2.2.1 r)) := by
  intro t z hz
  unfold kr_set at hz
  by_cases ht : t = g.2.2.1 r
  · rw [if_pos ht] at hz
    cases hz
    obtain ⟨l, h1, h2⟩ := h _ _ ha
    refine ⟨l ++ [r], (kr_wk_app l [r] o t).mpr ⟨_, h1, hr, hu, rfl, ht.symm⟩, ?_⟩
    rw [kr_wt_app, h2]
    show a + (g.2.2.2.1 r + 0) = a + g.2.2.2.1 r
    omega
  · rw [if_neg ht] at hz
    exact h t z hz
theorem kr_snd_rlx {g : kr_G} {o r : Nat} {d : kr_D} (h : kr_snd g o d) (hr : r < g.1) : kr_snd g o (kr_rlx g d r) := by
  unfold kr_rlx
  by_cases hu : g.2.2.2.2 r = true
  · rw [if_pos hu]
    cases ha : d (g.2.1 r) with
    | none => exact h
    | some a =>
      cases hb : d (g.2.2.1 r) with
      | none => exact kr_snd_set h hr hu ha
      | some b =>
        show kr_snd g o (if a + g.2.2.2.1 r < b then kr_set d (g.2.2.1 r) (a + g.2.2.2.1 r) else d)
        by_cases hlt : a + g.2.2.2.1 r < b
        · rw [if_pos hlt]
          exact kr_snd_set h hr hu ha
        · rw [if_neg hlt]
          exact h
  · rw [if_neg hu]
    exact h
theorem kr_snd_rnd {g : kr_G} {o : Nat} {d : kr_D} (h : kr_snd g o d) : ∀ k : Nat, k ≤ g.1 → kr_snd g o (kr_rnd g d k)
  | 0, _ => h
  | k + 1, hk => kr_snd_rlx (kr_snd_rnd h k (by omega)) (by omega)
theorem kr_snd_bf (g : kr_G) (o : Nat) : ∀ i : Nat, kr_snd g o (kr_bf g (kr_one o) i)
  | 0 => kr_snd_one g o
  | i + 1 => kr_snd_rnd (kr_snd_bf g o i) g.1 (Nat.le_refl _)
/-- a row is at most another, place by place -/
def kr_le (d e : kr_D) : Prop := ∀ t z, e t = some z → ∃ y, d t = some y ∧ y ≤ z
theorem kr_le_rf (d : kr_D) : kr_le d d := fun _ z h => ⟨z, h, Int.le_refl z⟩
theorem kr_le_tr {a b c : kr_D} (h1 : kr_le a b) (h2 : kr_le b c) : kr_le a c := fun t z h => by
  obtain ⟨y, h3, h4⟩ := h2 t z h
  obtain ⟨x, h5, h6⟩ := h1 t y h3
  exact ⟨x, h5, Int.le_trans h6 h4⟩
theorem kr_le_set {d : kr_D} {t : Nat} {z : Int} (h : ∀ y, d t = some y → z ≤ y) : kr_le (kr_set d t z) d := by
  intro q y hq
  unfold kr_set
  by_cases hqt : q = t
  · rw [if_pos hqt]
    exact ⟨z, rfl, h y (by rw [← hqt]; exact hq)⟩
  · rw [if_neg hqt]
    exact ⟨y, hq, Int.le_refl y⟩
theorem kr_le_rlx (g : kr_G) (d : kr_D) (r : Nat) : kr_le (kr_rlx g d r) d := by
  unfold kr_rlx
  by_cases hu : g.2.2.2.2 r = true
  · rw [if_pos hu]
    cases ha : d (g.2.1 r) with
    | none => exact kr_le_rf d
    | some a =>
      cases hb : d (g.2.2.1 r) with
      | none => exact kr_le_set (fun y hy => by rw [hb] at hy; cases hy)
      | some b =>
        show kr_le (if a + g.2.2.2.1 r < b then kr_set d (g.2.2.1 r) (a + g.2.2.2.1 r) else d) d
        by_cases hlt : a + g.2.2.2.1 r < b
        · rw [if_pos hlt]
          exact kr_le_set (fun y hy => by rw [hb] at hy; cases hy; omega)
        · rw [if_neg hlt]
          exact kr_le_rf d
  · rw [if_neg hu]
    exact kr_le_rf d
theorem kr_le_rnd (g : kr_G) (d : kr_D) : ∀ (k j : Nat), kr_le (kr_rnd g d (k + j)) (kr_rnd g d k)
  | _, 0 => kr_le_rf _
  | k, j + 1 => kr_le_tr (kr_le_rlx g (kr_rnd g d (k + j)) (k + j)) (kr_le_rnd g d k j)
/-- behind a road its end is no farther than by it -/
theorem kr_rlx_to {g : kr_G} {d : kr_D} {r : Nat} (hu : g.2.2.2.2 r = true) {a : Int} (ha : d (g.2.1 r) = some a) : ∃ y, kr_rlx g d r (g.2.2.1 r) = some y ∧ y ≤ a + g.2.2.2.1 r := by
  unfold kr_rlx
  rw [if_pos hu, ha]
  cases hb : d (g.2.2.1 r) with
  | none => exact ⟨_, by show kr_set d _ _ _ = _; unfold kr_set; rw [if_pos rfl], Int.le_refl _⟩
  | some b =>
    show ∃ y, (if a + g.2.2.2.1 r < b then kr_set d (g.2.2.1 r) (a + g.2.2.2.1 r) else d) (g.2.2.1 r) = some y ∧ y ≤ a + g.2.2.2.1 r
    by_cases hlt : a + g.2.2.2.1 r < b
    · rw [if_pos hlt]
      exact ⟨_, by unfold kr_set; rw [if_pos rfl], Int.le_refl _⟩
    · rw [if_neg hlt]
      exact ⟨b, hb, by omega⟩
/-- a round takes every road once -/
theorem kr_rnd_to {g : kr_G} {d : kr_D} {r : Nat} (hr : r < g.1) (hu : g.2.2.2.2 r = true) {a : Int} (ha : d (g.2.1 r) = some a) : ∃ y, kr_rnd g d g.1 (g.2.2.1 r) = some y ∧ y ≤ a + g.2.2.2.1 r := by
  have h1 := kr_le_rnd g d 0 r
  rw [Nat.zero_add] at h1
  obtain ⟨a', h2, h3⟩ := h1 _ _ ha
  obtain ⟨y, h4, h5⟩ := kr_rlx_to (d := kr_rnd g d r) hu h2
  have h6 := kr_le_rnd g d (r + 1) (g.1 - (r + 1))
  rw [show r + 1 + (g.1 - (r + 1)) = g.1 by omega] at h6
  obtain ⟨z, h7, h8⟩ := h6 _ y h4
  exact ⟨z, h7, by omega⟩
/-- i rounds find what walks of at most i roads have -/
theorem kr_cpl (g : kr_G) (o : Nat) : ∀ (i : Nat) (l : List Nat) (t : Nat), l.length ≤ i → kr_wk g o l t → ∃ z, kr_bf g (kr_one o) i t = some z ∧ z ≤ kr_wt g l := by
  intro i
  induction i with
  | zero =>
    intro l t hl hw
    cases l with
    | nil =>
      have h : o = t := hw
      subst h
      exact ⟨0, by show kr_one o o = some 0; unfold kr_one; rw [if_pos rfl], Int.le_refl 0⟩
    | cons r l => exact absurd hl (by simp)
  | succ i ih =>
    intro l t hl hw
    rcases List.eq_nil_or_concat l with rfl | ⟨l', r, rfl⟩
    · obtain ⟨z, h1, h2⟩ := ih [] t (Nat.zero_le _) hw
      obtain ⟨y, h3, h4⟩ := kr_le_rnd g (kr_bf g (kr_one o) i) 0 g.1 t z h1
      rw [Nat.zero_add] at h3
      exact ⟨y, h3, by omega⟩
    · rw [List.concat_eq_append] at hw hl ⊢
      obtain ⟨w, h1, hr, hu, hf, ht⟩ := (kr_wk_app l' [r] o t).mp hw
      have ht' : g.2.2.1 r = t := ht
      have hl' : l'.length ≤ i := by rw [List.length_append] at hl; simp at hl; omega
      obtain ⟨a, h2, h3⟩ := ih l' w hl' h1
      obtain ⟨y, h4, h5⟩ := kr_rnd_to (d := kr_bf g (kr_one o) i) hr hu (by rw [hf]; exact h2)
      rw [ht'] at h4
      refine ⟨y, h4, ?_⟩
      rw [kr_wt_app]
      show y ≤ kr_wt g l' + (g.2.2.2.1 r + 0)
      omega
