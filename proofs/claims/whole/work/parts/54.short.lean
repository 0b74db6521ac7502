/-! Distances: what they keep where every ring is longer than nothing. -/
def kr_dst (g : kr_G) (n o : Nat) : kr_D := kr_bf g (kr_one o) (n - 1)
theorem kr_D_le {g : kr_G} {n o : Nat} (hg : kr_good g) (ht : kr_tn g n) (ho : o < n) {l : List Nat} {t : Nat} (hl : kr_wk g o l t) : ∃ z, kr_dst g n o t = some z ∧ z ≤ kr_wt g l := by
  obtain ⟨l', h1, h2, h3⟩ := kr_short hg ht ho l.length l t (Nat.le_refl _) hl
  obtain ⟨z, h4, h5⟩ := kr_cpl g o (n - 1) l' t (by omega) h1
  exact ⟨z, h4, by omega⟩
theorem kr_D_wk {g : kr_G} {n o t : Nat} {z : Int} (h : kr_dst g n o t = some z) : ∃ l, kr_wk g o l t ∧ kr_wt g l = z := kr_snd_bf g o (n - 1) t z h
theorem kr_D_o {g : kr_G} {n o : Nat} (hg : kr_good g) (ht : kr_tn g n) (ho : o < n) : kr_dst g n o o = some 0 := by
  obtain ⟨z, h1, h2⟩ := kr_D_le (l := []) (t := o) hg ht ho rfl
  obtain ⟨l, h3, h4⟩ := kr_D_wk h1
  have h5 : kr_wt g ([] : List Nat) = 0 := rfl
  cases l with
  | nil =>
    have h6 : kr_wt g ([] : List Nat) = z := h4
    rw [h1, ← h6, h5]
  | cons r l =>
    have := hg o (r :: l) (by simp) h3
    omega
theorem kr_D_rd {g : kr_G} {n o r : Nat} {a : Int} (hg : kr_good g) (ht : kr_tn g n) (ho : o < n) (hr : r < g.1) (hu : g.2.2.2.2 r = true) (ha : kr_dst g n o (g.2.1 r) = some a) : ∃ b, kr_dst g n o (g.2.2.1 r) = some b ∧ b ≤ a + g.2.2.2.1 r := by
  obtain ⟨l, h1, h2⟩ := kr_D_wk ha
  obtain ⟨z, h3, h4⟩ := kr_D_le (l := l ++ [r]) (t := g.2.2.1 r) hg ht ho ((kr_wk_app l [r] o _).mpr ⟨g.2.1 r, h1, hr, hu, rfl, rfl⟩)
  refine ⟨z, h3, ?_⟩
  rw [kr_wt_app, h2] at h4
  have h5 : kr_wt g [r] = g.2.2.2.1 r + 0 := rfl
  omega
theorem kr_tight_iff {g : kr_G} {d : kr_D} {r : Nat} : kr_tight g d r = true ↔ g.2.2.2.2 r = true ∧ ∃ a, d (g.2.1 r) = some a ∧ d (g.2.2.1 r) = some (a + g.2.2.2.1 r) := by
  unfold kr_tight
  rw [Bool.and_eq_true, decide_eq_true_eq]
  constructor
  · rintro ⟨h1, h2⟩
    refine ⟨h1, ?_⟩
    unfold kr_slack at h2
    cases ha : d (g.2.1 r) with
    | none => rw [ha] at h2; cases h2
    | some a =>
      cases hb : d (g.2.2.1 r) with
      | none => rw [ha, hb] at h2; cases h2
      | some b =>
        rw [ha, hb] at h2
        have h3 := Option.some.inj h2
        exact ⟨a, rfl, by congr 1; omega⟩
  · rintro ⟨h1, a, h2, h3⟩
    refine ⟨h1, ?_⟩
    unfold kr_slack
    rw [h2, h3]
    exact congrArg some (by omega)
theorem kr_D_tight {g : kr_G} {n o t : Nat} {z : Int} (hg : kr_good g) (ht : kr_tn g n) (ho : o < n) (h : kr_dst g n o t = some z) (hne : t ≠ o) : ∃ r, r < g.1 ∧ kr_tight g (kr_dst g n o) r = true ∧ g.2.2.1 r = t := by
  obtain ⟨l, h1, h2⟩ := kr_D_wk h
  rcases List.eq_nil_or_concat l with hl | ⟨l', r, hl⟩
  · subst hl
    exact absurd (show t = o from h1.symm) hne
  · rw [hl, List.concat_eq_append] at h1 h2
    obtain ⟨w, h3, h4, h5, h6, h7⟩ := (kr_wk_app l' [r] o t).mp h1
    have h7' : g.2.2.1 r = t := h7
    rw [← h6] at h3
    obtain ⟨a, h8, h9⟩ := kr_D_le hg ht ho h3
    obtain ⟨b, h10, h11⟩ := kr_D_rd hg ht ho h4 h5 h8
    rw [h7', h] at h10
    have h12 := Option.some.inj h10
    rw [kr_wt_app] at h2
    have h13 : kr_wt g [r] = g.2.2.2.1 r + 0 := rfl
    refine ⟨r, h4, kr_tight_iff.mpr ⟨h5, a, h8, ?_⟩, h7'⟩
    rw [h7', h]
    exact congrArg some (by omega)
theorem kr_D_root {g : kr_G} {n o r : Nat} (hg : kr_good g) (ht : kr_tn g n) (ho : o < n) (hr : r < g.1) (h : kr_tight g (kr_dst g n o) r = true) : g.2.2.1 r ≠ o := fun e => by
  obtain ⟨h1, a, h2, h3⟩ := kr_tight_iff.mp h
  rw [e, kr_D_o hg ht ho] at h3
  have h4 := Option.some.inj h3
  obtain ⟨l, h5, h6⟩ := kr_D_wk h2
  have h7 := hg o (l ++ [r]) (by simp) ((kr_wk_app l [r] o o).mpr ⟨g.2.1 r, h5, hr, h1, rfl, e⟩)
  rw [kr_wt_app, h6] at h7
  have h8 : kr_wt g [r] = g.2.2.2.1 r + 0 := rfl
  omega
theorem kr_par_some {g : kr_G} {d : kr_D} {t r : Nat} (h : kr_par g d t = some r) : r < g.1 ∧ kr_tight g d r = true ∧ g.2.2.1 r = t := by
  rcases kr_low_c (fun r => kr_tight g d r && decide (g.2.2.1 r = t)) g.1 with ⟨h1, _⟩ | ⟨q, h1, h2, h3, _⟩
  · exact absurd (h.symm.trans h1) (by simp)
  · obtain rfl : r = q := Option.some.inj (h.symm.trans h1)
    have h3' : (kr_tight g d r && decide (g.2.2.1 r = t)) = true := h3
    rw [Bool.and_eq_true, decide_eq_true_eq] at h3'
    exact ⟨h2, h3'.1, h3'.2⟩
theorem kr_par_none {g : kr_G} {d : kr_D} {t : Nat} (h : kr_par g d t = none) {r : Nat} (hr : r < g.1) (hti : kr_tight g d r = true) : g.2.2.1 r ≠ t := fun e => by
  rcases kr_low_c (fun r => kr_tight g d r && decide (g.2.2.1 r = t)) g.1 with ⟨_, h1⟩ | ⟨q, h1, _⟩
  · have h2 := h1 r hr
    have h2' : (kr_tight g d r && decide (g.2.2.1 r = t)) = false := h2
    rw [hti, decide_eq_true e] at h2'
    cases h2'
  · exact absurd (h.symm.trans h1) (by simp)
theorem kr_par_o {g : kr_G} {n o : Nat} (hg : kr_good g) (ht : kr_tn g n) (ho : o < n) : kr_par g (kr_dst g n o) o = none := by
  cases h : kr_par g (kr_dst g n o) o with
  | none => rfl
  | some r =>
    obtain ⟨h1, h2, h3⟩ := kr_par_some h
    exact absurd h3 (kr_D_root hg ht ho h1 h2)
theorem kr_par_t {g : kr_G} {n o t : Nat} {z : Int} (hg : kr_good g) (ht : kr_tn g n) (ho : o < n) (h : kr_dst g n o t = some z) (hne : t ≠ o) : ∃ r, kr_par g (kr_dst g n o) t = some r := by
  obtain ⟨r, h1, h2, h3⟩ := kr_D_tight hg ht ho h hne
  cases hp : kr_par g (kr_dst g n o) t with
  | none => exact absurd h3 (kr_par_none hp h1 h2)
  | some q => exact ⟨q, rfl⟩
/-- the town that is k roads back -/
def kr_bk (g : kr_G) (d : kr_D) (t : Nat) : Nat → Nat
  | 0 => t
  | k + 1 => match kr_par g d (kr_bk g d t k) with
    | some r => g.2.1 r
    | none => kr_bk g d t k
theorem kr_bk_s {g : kr_G} {d : kr_D} {t k r : Nat} (h : kr_par g d (kr_bk g d t k) = some r) : kr_bk g d t (k + 1) = g.2.1 r := by
  show (match kr_par g d (kr_bk g d t k) with
    | some r => g.2.1 r
    | none => kr_bk g d t k) = _
  rw [h]
theorem kr_par_from {g : kr_G} {d : kr_D} {t r : Nat} (h : kr_par g d t = some r) : ∃ a, d (g.2.1 r) = some a ∧ d t = some (a + g.2.2.2.1 r) := by
  obtain ⟨h1, h2, h3⟩ := kr_par_some h
  obtain ⟨_, a, h4, h5⟩ := kr_tight_iff.mp h2
  exact ⟨a, h4, by rw [← h3]; exact h5⟩
/-- back by parents: a walk, as long as the distances say -/
theorem kr_bk_wk {g : kr_G} {d : kr_D} {t i : Nat} : ∀ j : Nat, (∀ k, k < i + j → ∃ r, kr_par g d (kr_bk g d t k) = some r) → (∃ z, d (kr_bk g d t i) = some z) → ∃ l, l.length = j ∧ kr_wk g (kr_bk g d t (i + j)) l (kr_bk g d t i) ∧ ∀ z, d (kr_bk g d t i) = some z → d (kr_bk g d t (i + j)) = some (z - kr_wt g l)
  | 0, _, _ => ⟨[], rfl, rfl, fun z hz => by
      have e : kr_wt g ([] : List Nat) = 0 := rfl
      rw [e, Int.sub_zero]
      exact hz⟩
  | j + 1, hp, hz => by
    obtain ⟨l, h1, h2, h3⟩ := kr_bk_wk j (fun k hk => hp k (by omega)) hz
    obtain ⟨r, hr⟩ := hp (i + j) (by omega)
    obtain ⟨p1, p2, p3⟩ := kr_par_some hr
    obtain ⟨a, q1, q2⟩ := kr_par_from hr
    have e : kr_bk g d t (i + (j + 1)) = g.2.1 r := kr_bk_s hr
    refine ⟨r :: l, by rw [List.length_cons, h1], ?_, fun z hz' => ?_⟩
    · rw [e]
      exact ⟨p1, (kr_tight_iff.mp p2).1, rfl, by rw [p3]; exact h2⟩
    · have h4 := h3 z hz'
      rw [q2] at h4
      have h5 := Option.some.inj h4
      rw [e, q1]
      refine congrArg some ?_
      have e2 : kr_wt g (r :: l) = g.2.2.2.1 r + kr_wt g l := rfl
      omega
/-- a town that has a distance: by fewer roads than there are towns one is back at the origin -/
theorem kr_back_o {g : kr_G} {n o t : Nat} {z : Int} (hg : kr_good g) (ht : kr_tn g n) (ho : o < n) (htn : t < n) (h : kr_dst g n o t = some z) : ∃ N, N < n ∧ kr_bk g (kr_dst g n o) t N = o ∧ ∀ k, k < N → kr_bk g (kr_dst g n o) t k ≠ o ∧ ∃ r, kr_par g (kr_dst g n o) (kr_bk g (kr_dst g n o) t k) = some r := by
  -- as long as the origin isn't met there is a distance, and a parent
  have inv : ∀ k : Nat, (∀ i, i < k → kr_bk g (kr_dst g n o) t i ≠ o) → (∃ y, kr_dst g n o (kr_bk g (kr_dst g n o) t k) = some y) ∧ kr_bk g (kr_dst g n o) t k < n ∧ ∀ i, i < k → ∃ r, kr_par g (kr_dst g n o) (kr_bk g (kr_dst g n o) t i) = some r := fun k => by
    induction k with
    | zero => exact fun _ => ⟨⟨z, h⟩, htn, fun i hi => absurd hi (Nat.not_lt_zero _)⟩
    | succ k ih =>
      intro hk
      obtain ⟨⟨y, hy⟩, h2, h3⟩ := ih (fun i hi => hk i (by omega))
      obtain ⟨r, hr⟩ := kr_par_t hg ht ho hy (hk k (by omega))
      obtain ⟨a, q1, q2⟩ := kr_par_from hr
      refine ⟨⟨a, by rw [kr_bk_s hr]; exact q1⟩, ?_, fun i hi => ?_⟩
      · rw [kr_bk_s hr]
        exact (ht r (kr_par_some hr).1).1
      · by_cases e : i = k
        · rw [e]; exact ⟨r, hr⟩
        · exact h3 i (by omega)
  obtain ⟨e, e1, e2, e3⟩ := kw_first (fun k => decide (kr_bk g (kr_dst g n o) t k = o)) n
  have e2' : ∀ k, k < e → kr_bk g (kr_dst g n o) t k ≠ o := fun k hk => of_decide_eq_false (e2 k hk)
  rcases e3 with e3 | ⟨e3, e4⟩
  · exfalso
    subst e3
    have hall := fun k (hk : k ≤ e) => inv k (fun i hi => e2' i (by omega))
    obtain ⟨i, j, hij, hj, hf⟩ := kr_pigeon e (fun k => kr_bk g (kr_dst g e o) t k) (fun i hi => (hall i hi).2.1)
    have hf' : kr_bk g (kr_dst g e o) t i = kr_bk g (kr_dst g e o) t j := hf
    obtain ⟨d, rfl⟩ : ∃ d, j = i + d := ⟨j - i, by omega⟩
    obtain ⟨l, l1, l2, l3⟩ := kr_bk_wk (i := i) d (fun k hk => (hall (i + d) hj).2.2 k hk) (hall i (by omega)).1
    obtain ⟨y, hy⟩ := (hall i (by omega)).1
    have l4 := l3 y hy
    rw [← hf', hy] at l4
    have l5 := Option.some.inj l4
    rw [← hf'] at l2
    have := hg _ l (by intro q; rw [q] at l1; simp at l1; omega) l2
    omega
  · exact ⟨e, e3, of_decide_eq_true e4, fun k hk => ⟨e2' k hk, (inv e (fun i hi => e2' i hi)).2.2 k hk⟩⟩
