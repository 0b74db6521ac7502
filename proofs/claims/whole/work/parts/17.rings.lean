/-! Where no ring is of length 0 or less, rounds but one find all. -/
theorem kr_pigeon : ∀ (n : Nat) (f : Nat → Nat), (∀ i, i ≤ n → f i < n) → ∃ i j, i < j ∧ j ≤ n ∧ f i = f j
  | 0, f, h => absurd (h 0 (Nat.le_refl 0)) (Nat.not_lt_zero _)
  | n + 1, f, h => by
    by_cases hex : ∃ i, i ≤ n ∧ f i = f (n + 1)
    · obtain ⟨i, h1, h2⟩ := hex
      exact ⟨i, n + 1, by omega, Nat.le_refl _, h2⟩
    · have hne : ∀ i, i ≤ n → f i ≠ f (n + 1) := fun i hi he => hex ⟨i, hi, he⟩
      obtain ⟨i, j, h1, h2, h3⟩ := kr_pigeon n (fun i => if f i < f (n + 1) then f i else f i - 1) (fun i hi => by
        have a1 := h i (by omega)
        have a2 := h (n + 1) (Nat.le_refl _)
        have a3 := hne i hi
        split <;> omega)
      have b1 := hne i (by omega)
      have b2 := hne j h2
      refine ⟨i, j, h1, by omega, ?_⟩
      split at h3 <;> split at h3 <;> omega
/-- every ring is longer than nothing -/
def kr_good (g : kr_G) : Prop := ∀ (u : Nat) (l : List Nat), l ≠ [] → kr_wk g u l u → 0 < kr_wt g l
def kr_tn (g : kr_G) (n : Nat) : Prop := ∀ r, r < g.1 → g.2.1 r < n ∧ g.2.2.1 r < n
/-- the town behind the first i roads -/
def kr_tw (g : kr_G) : Nat → List Nat → Nat → Nat
  | u, _, 0 => u
  | u, [], _ + 1 => u
  | _, r :: l, i + 1 => kr_tw g (g.2.2.1 r) l i
theorem kr_tw_lt {g : kr_G} {n : Nat} (hg : kr_tn g n) : ∀ (l : List Nat) (u v i : Nat), u < n → kr_wk g u l v → kr_tw g u l i < n
  | _, _, _, 0, hu, _ => by unfold kr_tw; exact hu
  | [], _, _, _ + 1, hu, _ => by unfold kr_tw; exact hu
  | r :: l, _, v, i + 1, _, hw => by
    unfold kr_tw
    exact kr_tw_lt hg l _ v i (hg r hw.1).2 hw.2.2.2
theorem kr_wk_split {g : kr_G} : ∀ (l : List Nat) (u v i : Nat), kr_wk g u l v → i ≤ l.length → kr_wk g u (l.take i) (kr_tw g u l i) ∧ kr_wk g (kr_tw g u l i) (l.drop i) v
  | l, u, v, 0, hw, _ => by
    have e : kr_tw g u l 0 = u := by unfold kr_tw; rfl
    rw [e]
    exact ⟨rfl, hw⟩
  | [], _, _, i + 1, _, hi => absurd hi (by simp)
  | r :: l, u, v, i + 1, hw, hi => by
    obtain ⟨h1, h2, h3, h4⟩ := hw
    obtain ⟨h5, h6⟩ := kr_wk_split l (g.2.2.1 r) v i h4 (by simpa using hi)
    have e : kr_tw g u (r :: l) (i + 1) = kr_tw g (g.2.2.1 r) l i := by rw [kr_tw]
    rw [e]
    exact ⟨⟨h1, h2, h3, h5⟩, h6⟩
theorem kr_wk_fn {g : kr_G} : ∀ (l : List Nat) (u v w : Nat), kr_wk g u l v → kr_wk g u l w → v = w
  | [], _, _, _, h1, h2 => (show _ = _ from h1).symm.trans h2
  | _ :: l, _, v, w, h1, h2 => kr_wk_fn l _ v w h1.2.2.2 h2.2.2.2
/-- a walk that is no longer and has fewer roads than there are towns -/
theorem kr_short {g : kr_G} {n o : Nat} (hg : kr_good g) (ht : kr_tn g n) (ho : o < n) : ∀ (k : Nat) (l : List Nat) (t : Nat), l.length ≤ k → kr_wk g o l t → ∃ l', kr_wk g o l' t ∧ l'.length < n ∧ kr_wt g l' ≤ kr_wt g l := by
  intro k
  induction k with
  | zero =>
    intro l t hl hw
    exact ⟨l, hw, by omega, Int.le_refl _⟩
  | succ k ih =>
    intro l t hl hw
    by_cases hln : l.length < n
    · exact ⟨l, hw, hln, Int.le_refl _⟩
    · obtain ⟨i, j, hij, hjn, he⟩ := kr_pigeon n (fun i => kr_tw g o l i) (fun i _ => kr_tw_lt ht l o t i ho hw)
      obtain ⟨a1, a2⟩ := kr_wk_split l o t i hw (by omega)
      obtain ⟨b1, b2⟩ := kr_wk_split l o t j hw (by omega)
      have et : l.take i ++ (l.take j).drop i = l.take j := by
        have h1 : (l.take j).take i = l.take i := by rw [List.take_take, Nat.min_eq_left (by omega)]
        rw [← h1, List.take_append_drop]
      rw [← et] at b1
      obtain ⟨w, c1, c2⟩ := (kr_wk_app _ _ _ _).mp b1
      have hw1 : w = kr_tw g o l i := kr_wk_fn _ _ _ _ c1 a1
      have he' : kr_tw g o l i = kr_tw g o l j := he
      rw [hw1, ← he'] at c2
      have hlen : ((l.take j).drop i).length = j - i := by rw [List.length_drop, List.length_take, Nat.min_eq_left (by omega)]
      have hpos := hg _ _ (fun q => by rw [q] at hlen; simp at hlen; omega) c2
      have hw2 : kr_wk g o (l.take i ++ l.drop j) t := (kr_wk_app _ _ _ _).mpr ⟨_, a1, by rw [he']; exact b2⟩
      have hlen2 : (l.take i ++ l.drop j).length ≤ k := by rw [List.length_append, List.length_take, List.length_drop, Nat.min_eq_left (by omega)]; omega
      obtain ⟨l', d1, d2, d3⟩ := ih _ t hlen2 hw2
      refine ⟨l', d1, d2, Int.le_trans d3 ?_⟩
      have e1 : kr_wt g l = kr_wt g (l.take i) + kr_wt g ((l.take j).drop i) + kr_wt g (l.drop j) := by
        rw [← kr_wt_app, et, ← kr_wt_app, List.take_append_drop]
      rw [kr_wt_app, e1]
      omega
/-- rounds but one are enough -/
theorem kr_bf_all {g : kr_G} {n o : Nat} (hg : kr_good g) (ht : kr_tn g n) (ho : o < n) : ∀ j : Nat, kr_bf g (kr_one o) (n - 1 + j) = kr_bf g (kr_one o) (n - 1) := by
  intro j
  have hmono : ∀ i, kr_le (kr_bf g (kr_one o) (n - 1 + i)) (kr_bf g (kr_one o) (n - 1)) := by
    intro i
    induction i with
    | zero => exact kr_le_rf _
    | succ i ih =>
      have h1 := kr_le_rnd g (kr_bf g (kr_one o) (n - 1 + i)) 0 g.1
      rw [Nat.zero_add] at h1
      exact kr_le_tr h1 ih
  have hback : kr_le (kr_bf g (kr_one o) (n - 1)) (kr_bf g (kr_one o) (n - 1 + j)) := by
    intro t z hz
    obtain ⟨l, h1, h2⟩ := kr_snd_bf g o (n - 1 + j) t z hz
    obtain ⟨l', h3, h4, h5⟩ := kr_short hg ht ho l.length l t (Nat.le_refl _) h1
    obtain ⟨y, h6, h7⟩ := kr_cpl g o (n - 1) l' t (by omega) h3
    exact ⟨y, h6, by omega⟩
  funext t
  cases h1 : kr_bf g (kr_one o) (n - 1 + j) t with
  | none =>
    cases h2 : kr_bf g (kr_one o) (n - 1) t with
    | none => rfl
    | some y =>
      obtain ⟨z, h3, -⟩ := hmono j t y h2
      rw [h1] at h3
      cases h3
  | some z =>
    obtain ⟨y, h2, h3⟩ := hback t z h1
    obtain ⟨x, h4, h5⟩ := hmono j t y h2
    rw [h1] at h4
    cases h4
    rw [h2]
    have : z = y := by omega
    rw [this]
