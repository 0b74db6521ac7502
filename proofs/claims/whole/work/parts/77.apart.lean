/-! Two ways apart: the roads of the way turned round; no ring below nothing. -/
/-- rings that one comes to from o aren't below nothing -/
def kr_good0 (g : kr_G) (o : Nat) : Prop := ∀ (u : Nat) (l0 l : List Nat), kr_wk g o l0 u → kr_wk g u l u → 0 ≤ kr_wt g l
theorem kr_short0 {g : kr_G} {n o : Nat} (hg : kr_good0 g o) (ht : kr_tn g n) (ho : o < n) : ∀ (k : Nat) (l : List Nat) (t : Nat), l.length ≤ k → kr_wk g o l t → ∃ l', kr_wk g o l' t ∧ l'.length < n ∧ kr_wt g l' ≤ kr_wt g l := by
  intro k
  induction k with
  | zero =>
    intro l t hl hw
    exact ⟨l, hw, by omega, Int.le_refl _⟩
  | succ k ih =>
    intro l t hl hw
    by_cases hln : l.length < n
    · exact ⟨l, hw, hln, Int.le_refl _⟩
    · obtain ⟨i, j, hij, hjn, he⟩ := kr_pigeon n (fun i => kr_tw g o l i) (fun i _ => kr_tw_lt ht l o t i ho hw)
      obtain ⟨a1, a2⟩ := kr_wk_split l o t i hw (by omega)
      obtain ⟨b1, b2⟩ := kr_wk_split l o t j hw (by omega)
      have et : l.take i ++ (l.take j).drop i = l.take j := by
        have h1 : (l.take j).take i = l.take i := by rw [List.take_take, Nat.min_eq_left (by omega)]
        rw [← h1, List.take_append_drop]
      rw [← et] at b1
      obtain ⟨w, c1, c2⟩ := (kr_wk_app _ _ _ _).mp b1
      have hw1 : w = kr_tw g o l i := kr_wk_fn _ _ _ _ c1 a1
      have he' : kr_tw g o l i = kr_tw g o l j := he
      rw [hw1, ← he'] at c2
      have hpos := hg _ _ _ a1 c2
      have hw2 : kr_wk g o (l.take i ++ l.drop j) t := (kr_wk_app _ _ _ _).mpr ⟨_, a1, by rw [he']; exact b2⟩
      have hlen2 : (l.take i ++ l.drop j).length ≤ k := by rw [List.length_append, List.length_take, List.length_drop, Nat.min_eq_left (by omega)]; omega
      obtain ⟨l', d1, d2, d3⟩ := ih _ t hlen2 hw2
      refine ⟨l', d1, d2, Int.le_trans d3 ?_⟩
      have e1 : kr_wt g l = kr_wt g (l.take i) + kr_wt g ((l.take j).drop i) + kr_wt g (l.drop j) := by
        rw [← kr_wt_app, et, ← kr_wt_app, List.take_append_drop]
      rw [kr_wt_app, e1]
      omega
theorem kr_bf_all0 {g : kr_G} {n o : Nat} (hg : kr_good0 g o) (ht : kr_tn g n) (ho : o < n) (j : Nat) : kr_bf g (kr_one o) (n - 1 + j) = kr_bf g (kr_one o) (n - 1) := by
  have hmono : ∀ i, kr_le (kr_bf g (kr_one o) (n - 1 + i)) (kr_bf g (kr_one o) (n - 1)) := by
    intro i
    induction i with
    | zero => exact kr_le_rf _
    | succ i ih =>
      have h1 := kr_le_rnd g (kr_bf g (kr_one o) (n - 1 + i)) 0 g.1
      rw [Nat.zero_add] at h1
      exact kr_le_tr h1 ih
  have hback : kr_le (kr_bf g (kr_one o) (n - 1)) (kr_bf g (kr_one o) (n - 1 + j)) := by
    intro t z hz
    obtain ⟨l, h1, h2⟩ := kr_snd_bf g o (n - 1 + j) t z hz
    obtain ⟨l', h3, h4, h5⟩ := kr_short0 hg ht ho l.length l t (Nat.le_refl _) h1
    obtain ⟨y, h6, h7⟩ := kr_cpl g o (n - 1) l' t (by omega) h3
    exact ⟨y, h6, by omega⟩
  funext t
  cases h1 : kr_bf g (kr_one o) (n - 1 + j) t with
  | none =>
    cases h2 : kr_bf g (kr_one o) (n - 1) t with
    | none => rfl
    | some y =>
      obtain ⟨z, h3, -⟩ := hmono j t y h2
      rw [h1] at h3
      cases h3
  | some z =>
    obtain ⟨y, h2, h3⟩ := hback t z h1
    obtain ⟨x, h4, h5⟩ := hmono j t y h2
    rw [h1] at h4
    cases h4
    rw [h2]
    have : z = y := by omega
    rw [this]
/-- some roads turned round -/
def kr_H (g : kr_G) (U : Nat → Bool) : kr_G := (g.1, fun r => if U r = true then g.2.2.1 r else g.2.1 r, fun r => if U r = true then g.2.1 r else g.2.2.1 r, fun r => if U r = true then -g.2.2.2.1 r else g.2.2.2.1 r, g.2.2.2.2)
theorem kr_H_pot {g : kr_G} {n o : Nat} {U : Nat → Bool} (hg : kr_good g) (ht : kr_tn g n) (ho : o < n) (hU : ∀ r, r < g.1 → U r = true → kr_tight g (kr_dst g n o) r = true) : ∀ (l : List Nat) (u v : Nat) (a : Int), kr_dst g n o u = some a → kr_wk (kr_H g U) u l v → ∃ b, kr_dst g n o v = some b ∧ b ≤ a + kr_wt (kr_H g U) l
  | [], u, v, a, ha, hw => by
    have e : u = v := hw
    subst e
    exact ⟨a, ha, by show a ≤ a + 0; omega⟩
  | r :: l, u, v, a, ha, ⟨h1, h2, h3, h4⟩ => by
    have h1' : r < g.1 := h1
    have h2' : g.2.2.2.2 r = true := h2
    have ew : kr_wt (kr_H g U) (r :: l) = (if U r = true then -g.2.2.2.1 r else g.2.2.2.1 r) + kr_wt (kr_H g U) l := rfl
    rw [ew]
    have h3' : (if U r = true then g.2.2.1 r else g.2.1 r) = u := h3
    have h4' : kr_wk (kr_H g U) (if U r = true then g.2.1 r else g.2.2.1 r) l v := h4
    by_cases hq : U r = true
    · rw [if_pos hq] at h3' h4' ⊢
      obtain ⟨_, x, x1, x2⟩ := kr_tight_iff.mp (hU r h1' hq)
      rw [h3', ha] at x2
      have hax := Option.some.inj x2
      obtain ⟨b, b1, b2⟩ := kr_H_pot hg ht ho hU l _ v x x1 h4'
      exact ⟨b, b1, by omega⟩
    · rw [if_neg hq] at h3' h4' ⊢
      obtain ⟨y, y1, y2⟩ := kr_D_rd hg ht ho h1' h2' (by rw [h3']; exact ha)
      obtain ⟨b, b1, b2⟩ := kr_H_pot hg ht ho hU l _ v y y1 h4'
      exact ⟨b, b1, by omega⟩
theorem kr_H_good0 {g : kr_G} {n o : Nat} {U : Nat → Bool} (hg : kr_good g) (ht : kr_tn g n) (ho : o < n) (hU : ∀ r, r < g.1 → U r = true → kr_tight g (kr_dst g n o) r = true) : kr_good0 (kr_H g U) o := fun u l0 l h0 h => by
  obtain ⟨a, a1, _⟩ := kr_H_pot hg ht ho hU l0 o u 0 (kr_D_o hg ht ho) h0
  obtain ⟨b, b1, b2⟩ := kr_H_pot hg ht ho hU l u u a a1 h
  rw [a1] at b1
  have := Option.some.inj b1
  omega
theorem kr_H_tn {g : kr_G} {n : Nat} {U : Nat → Bool} (ht : kr_tn g n) : kr_tn (kr_H g U) n := fun r hr => by
  have h := ht r hr
  show (if U r = true then g.2.2.1 r else g.2.1 r) < n ∧ (if U r = true then g.2.1 r else g.2.2.1 r) < n
  by_cases hq : U r = true
  · rw [if_pos hq, if_pos hq]; exact ⟨h.2, h.1⟩
  · rw [if_neg hq, if_neg hq]; exact h
theorem kr_rlx_lw (g : kr_G) (d : kr_D) (r : Nat) : kr_rlx g d r = if g.2.2.2.2 r = true then kr_lw d (g.2.2.1 r) (kr_by g d r) else d := by
  unfold kr_rlx
  by_cases hu : g.2.2.2.2 r = true
  · rw [if_pos hu, if_pos hu]
    unfold kr_by
    cases h1 : d (g.2.1 r) with
    | none => exact (kr_ls_lw (x := none) rfl).symm
    | some a =>
      have hset : ∀ z : Int, kr_ls (some z) (d (g.2.2.1 r)) = true → kr_set d (g.2.2.1 r) z = kr_lw d (g.2.2.1 r) (some z) := fun z hz => by
        funext q
        unfold kr_set kr_lw
        by_cases e : q = g.2.2.1 r
        · rw [if_pos e, if_pos e]
          unfold kr_mn
          rw [if_pos hz]
        · rw [if_neg e, if_neg e]
      cases h2 : d (g.2.2.1 r) with
      | none => exact hset _ (by rw [h2]; rfl)
      | some b =>
        show (if a + g.2.2.2.1 r < b then kr_set d (g.2.2.1 r) (a + g.2.2.2.1 r) else d) = kr_lw d (g.2.2.1 r) (some (a + g.2.2.2.1 r))
        by_cases w : a + g.2.2.2.1 r < b
        · rw [if_pos w]
          exact hset _ (by rw [h2]; exact decide_eq_true w)
        · rw [if_neg w]
          exact (kr_ls_lw (by rw [h2]; exact decide_eq_false w)).symm
  · rw [if_neg hu, if_neg hu]
/-- the roads of the way -/
def kr_used (g : kr_G) (d : kr_D) (t N r : Nat) : Bool := kr_anyTo (fun k => decide (kr_rn g d t k = r)) N
theorem kr_used_tight {g : kr_G} {d : kr_D} {o t N r : Nat} (h : kr_N g d o t N) (hu : kr_used g d t N r = true) : kr_tight g d r = true := by
  have : ∃ k, k < N ∧ kr_rn g d t k = r := by
    refine Decidable.byContradiction fun hc => ?_
    unfold kr_used at hu
    rw [kr_anyTo_f N (fun k hk => decide_eq_false (fun e => hc ⟨k, hk, e⟩))] at hu
    cases hu
  obtain ⟨k, hk, rfl⟩ := this
  exact (kr_par_some (kr_rn_par h hk)).2.1
theorem kr_H_len {g : kr_G} {U : Nat → Bool} (hl : ∀ r, r < g.1 → -1000000000 ≤ g.2.2.2.1 r ∧ g.2.2.2.1 r ≤ 1000000000) : ∀ r, r < (kr_H g U).1 → -1000000000 ≤ (kr_H g U).2.2.2.1 r ∧ (kr_H g U).2.2.2.1 r ≤ 1000000000 := fun r hr => by
  have h := hl r hr
  show -1000000000 ≤ (if U r = true then -g.2.2.2.1 r else g.2.2.2.1 r) ∧ (if U r = true then -g.2.2.2.1 r else g.2.2.2.1 r) ≤ 1000000000
  by_cases hq : U r = true
  · rw [if_pos hq]; omega
  · rw [if_neg hq]; omega
