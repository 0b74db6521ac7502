/-! The next longer way: what both sides search for. -/
theorem kr_mn_n (a : Option Int) : kr_mn a none = a := by
  unfold kr_mn
  exact if_neg (show ¬ false = true by decide)
theorem kr_isM_1 (v : Option Int) : kr_isM (fun y => v = some y) v := by
  cases v with
  | none => exact fun y h => by cases h
  | some z => exact ⟨rfl, fun y h => by cases h; omega⟩
theorem kr_mn_as (a b c : Option Int) : kr_mn (kr_mn a b) c = kr_mn a (kr_mn b c) :=
  kr_isM_u (kr_isM_c (kr_isM_mn (kr_isM_mn (kr_isM_1 a) (kr_isM_1 b)) (kr_isM_1 c)) (fun _ => or_assoc)) (kr_isM_mn (kr_isM_1 a) (kr_isM_mn (kr_isM_1 b) (kr_isM_1 c)))
theorem kr_mn_no {a b : Option Int} (h : kr_ls b a = false) : kr_mn a b = a := by
  unfold kr_mn
  rw [h, kn_ft]
theorem kr_mn_ls {a b : Option Int} (h : kr_ls b a = true) : kr_mn a b = b := by
  unfold kr_mn
  rw [h, kn_tt]
theorem kr_ls_mnl {y a b : Option Int} (h : kr_ls y a = false) : kr_ls y (kr_mn a b) = false := by
  unfold kr_mn
  cases hb : kr_ls b a with
  | false => rw [kn_ft]; exact h
  | true =>
    rw [kn_tt]
    cases q : kr_ls y b with
    | false => rfl
    | true => rw [kr_ls_t q hb] at h; cases h
theorem kr_ls_mnr {y a b : Option Int} (h : kr_ls y b = false) : kr_ls y (kr_mn a b) = false := by
  unfold kr_mn
  cases hb : kr_ls b a with
  | true => rw [kn_tt]; exact h
  | false =>
    rw [kn_ft]
    cases q : kr_ls y a with
    | false => rfl
    | true =>
      rcases kr_ls_tri a b with e | e | e
      · rw [kr_ls_t q e] at h; cases h
      · rw [e, h] at q; cases q
      · rw [e] at hb; cases hb
/-- the least of b and the first k values -/
def kr_fm (b : Option Int) (v : Nat → Option Int) : Nat → Option Int
  | 0 => b
  | k + 1 => kr_mn (kr_fm b v k) (v k)
theorem kr_fm_s (b : Option Int) (v : Nat → Option Int) (k : Nat) : kr_fm b v (k + 1) = kr_mn (kr_fm b v k) (v k) := rfl
theorem kr_fm_b (b : Option Int) (v : Nat → Option Int) : ∀ k : Nat, kr_fm b v k = kr_mn b (kr_fm none v k)
  | 0 => (kr_mn_n b).symm
  | k + 1 => by rw [kr_fm_s, kr_fm_s, kr_fm_b b v k, kr_mn_as]
theorem kr_fm_le {b : Option Int} {v : Nat → Option Int} : ∀ (k i : Nat), i < k → kr_ls (v i) (kr_fm b v k) = false
  | 0, i, h => absurd h (Nat.not_lt_zero _)
  | k + 1, i, h => by
    rw [kr_fm_s]
    by_cases e : i = k
    · subst e
      exact kr_ls_mnr (kr_ls_i _)
    · exact kr_ls_mnl (kr_fm_le k i (by omega))
theorem kr_fm_some {v : Nat → Option Int} {z : Int} : ∀ k : Nat, kr_fm none v k = some z → ∃ i, i < k ∧ v i = some z
  | 0, h => by cases h
  | k + 1, h => by
    rw [kr_fm_s] at h
    unfold kr_mn at h
    cases q : kr_ls (v k) (kr_fm none v k) with
    | true => rw [q, kn_tt] at h; exact ⟨k, by omega, h⟩
    | false =>
      rw [q, kn_ft] at h
      obtain ⟨i, hi, e⟩ := kr_fm_some k h
      exact ⟨i, by omega, e⟩
/-- the least length of a way on from u to the goal, by towns not in U, longer than thr, L gone so far, by at most f roads -/
def kr_sx (g : kr_G) (goal : Nat) (thr : Int) : Nat → Nat → (Nat → Bool) → Int → Option Int
  | 0, u, _, L => if u = goal then (if thr < L then some L else none) else none
  | f + 1, u, U, L => if u = goal then (if thr < L then some L else none) else kr_fm none (fun r => if (g.2.2.2.2 r && (decide (g.2.1 r = u) && !U (g.2.2.1 r))) = true then kr_sx g goal thr f (g.2.2.1 r) (fun q => U q || decide (q = g.2.2.1 r)) (L + g.2.2.2.1 r) else none) g.1
def kr_sv (g : kr_G) (goal : Nat) (thr : Int) (f u : Nat) (U : Nat → Bool) (L : Int) (r : Nat) : Option Int := if (g.2.2.2.2 r && (decide (g.2.1 r = u) && !U (g.2.2.1 r))) = true then kr_sx g goal thr f (g.2.2.1 r) (fun q => U q || decide (q = g.2.2.1 r)) (L + g.2.2.2.1 r) else none
theorem kr_sx_s {g : kr_G} {goal f u : Nat} {thr L : Int} {U : Nat → Bool} (h : u ≠ goal) : kr_sx g goal thr (f + 1) u U L = kr_fm none (kr_sv g goal thr f u U L) g.1 := by
  show (if u = goal then (if thr < L then some L else none) else kr_fm none (kr_sv g goal thr f u U L) g.1) = _
  rw [if_neg h]
theorem kr_sx_0 {g : kr_G} {goal u : Nat} {thr L : Int} {U : Nat → Bool} (h : u ≠ goal) : kr_sx g goal thr 0 u U L = none := by
  show (if u = goal then (if thr < L then some L else none) else none) = _
  rw [if_neg h]
theorem kr_sx_g {g : kr_G} {goal : Nat} {thr L : Int} {U : Nat → Bool} : ∀ f : Nat, kr_sx g goal thr f goal U L = if thr < L then some L else none
  | 0 => if_pos rfl
  | f + 1 => if_pos rfl
theorem kr_sv_some {g : kr_G} {goal f u r : Nat} {thr L z : Int} {U : Nat → Bool} (h : kr_sv g goal thr f u U L r = some z) : g.2.2.2.2 r = true ∧ g.2.1 r = u ∧ U (g.2.2.1 r) = false ∧ kr_sx g goal thr f (g.2.2.1 r) (fun q => U q || decide (q = g.2.2.1 r)) (L + g.2.2.2.1 r) = some z := by
  unfold kr_sv at h
  by_cases c : (g.2.2.2.2 r && (decide (g.2.1 r = u) && !U (g.2.2.1 r))) = true
  · rw [if_pos c] at h
    rw [Bool.and_eq_true, Bool.and_eq_true, decide_eq_true_eq, Bool.not_eq_true'] at c
    exact ⟨c.1, c.2.1, c.2.2, h⟩
  · rw [if_neg c] at h
    cases h
theorem kr_sv_in {g : kr_G} {goal f u r : Nat} {thr L : Int} {U : Nat → Bool} (h1 : g.2.2.2.2 r = true) (h2 : g.2.1 r = u) (h3 : U (g.2.2.1 r) = false) : kr_sv g goal thr f u U L r = kr_sx g goal thr f (g.2.2.1 r) (fun q => U q || decide (q = g.2.2.1 r)) (L + g.2.2.2.1 r) := by
  unfold kr_sv
  rw [if_pos (by rw [h1, decide_eq_true h2, h3]; rfl)]
theorem kr_sv_no {g : kr_G} {goal f u r : Nat} {thr L : Int} {U : Nat → Bool} (h : ¬ (g.2.2.2.2 r = true ∧ g.2.1 r = u ∧ U (g.2.2.1 r) = false)) : kr_sv g goal thr f u U L r = none := by
  cases q : kr_sv g goal thr f u U L r with
  | none => rfl
  | some z => exact absurd ⟨(kr_sv_some q).1, (kr_sv_some q).2.1, (kr_sv_some q).2.2.1⟩ h
theorem kr_sx_lo {g : kr_G} {n goal : Nat} {thr : Int} (hg : kr_good g) (ht : kr_tn g n) (hgo : goal < n) : ∀ (f u : Nat) (U : Nat → Bool) (L z : Int), u < n → kr_sx g goal thr f u U L = some z → ∃ p, kr_dst g n u goal = some p ∧ L + p ≤ z := by
  intro f
  induction f with
  | zero =>
    intro u U L z hu h
    by_cases e : u = goal
    · subst e
      rw [kr_sx_g] at h
      by_cases q : thr < L
      · rw [if_pos q] at h
        cases h
        exact ⟨0, kr_D_o hg ht hu, by omega⟩
      · rw [if_neg q] at h
        cases h
    · rw [kr_sx_0 e] at h
      cases h
  | succ f ih =>
    intro u U L z hu h
    by_cases e : u = goal
    · subst e
      rw [kr_sx_g] at h
      by_cases q : thr < L
      · rw [if_pos q] at h
        cases h
        exact ⟨0, kr_D_o hg ht hu, by omega⟩
      · rw [if_neg q] at h
        cases h
    · rw [kr_sx_s e] at h
      obtain ⟨r, hr, hv⟩ := kr_fm_some _ h
      obtain ⟨h1, h2, h3, h4⟩ := kr_sv_some hv
      obtain ⟨p, hp, hle⟩ := ih _ _ _ _ (ht r hr).2 h4
      obtain ⟨l, hl, hwt⟩ := kr_D_wk hp
      obtain ⟨p', hp', hle'⟩ := kr_D_le hg ht hu (l := r :: l) (t := goal) ⟨hr, h1, h2, hl⟩
      have hle2 : p' ≤ g.2.2.2.1 r + kr_wt g l := hle'
      exact ⟨p', hp', by omega⟩
theorem kr_sx_bd {g : kr_G} {goal : Nat} {thr : Int} (hl : ∀ r, r < g.1 → -1000000000 ≤ g.2.2.2.1 r ∧ g.2.2.2.1 r ≤ 1000000000) : ∀ (f u : Nat) (U : Nat → Bool) (L z : Int), kr_sx g goal thr f u U L = some z → L - f * 1000000000 ≤ z ∧ z ≤ L + f * 1000000000 := by
  intro f
  induction f with
  | zero =>
    intro u U L z h
    by_cases e : u = goal
    · subst e
      rw [kr_sx_g] at h
      by_cases q : thr < L
      · rw [if_pos q] at h
        cases h
        omega
      · rw [if_neg q] at h
        cases h
    · rw [kr_sx_0 e] at h
      cases h
  | succ f ih =>
    intro u U L z h
    by_cases e : u = goal
    · subst e
      rw [kr_sx_g] at h
      by_cases q : thr < L
      · rw [if_pos q] at h
        cases h
        omega
      · rw [if_neg q] at h
        cases h
    · rw [kr_sx_s e] at h
      obtain ⟨r, hr, hv⟩ := kr_fm_some _ h
      obtain ⟨h1, h2, h3, h4⟩ := kr_sv_some hv
      have := ih _ _ _ _ h4
      have := hl r hr
      omega
/-- within what lengths of twelve roads can be -/
def kr_b12 (v : Option Int) : Prop := ∀ z, v = some z → -20000000000 ≤ z ∧ z ≤ 20000000000
theorem kr_b12_mn {a b : Option Int} (ha : kr_b12 a) (hb : kr_b12 b) : kr_b12 (kr_mn a b) := by
  unfold kr_mn
  split
  · exact hb
  · exact ha
theorem kr_b12_fm {b : Option Int} {v : Nat → Option Int} (hb : kr_b12 b) : ∀ k : Nat, (∀ i, i < k → kr_b12 (v i)) → kr_b12 (kr_fm b v k)
  | 0, _ => hb
  | k + 1, h => kr_b12_mn (kr_b12_fm hb k (fun i hi => h i (by omega))) (h k (by omega))
theorem kr_b12_bd {a : Option Int} (h : kr_b12 a) : kr_bd a := fun z hz => by have := h z hz; omega
theorem kr_sv_b12 {g : kr_G} {goal f u d r : Nat} {thr L : Int} {U : Nat → Bool} (hl : ∀ r, r < g.1 → -1000000000 ≤ g.2.2.2.1 r ∧ g.2.2.2.1 r ≤ 1000000000) (hr : r < g.1) (hdf : d + f ≤ 11) (hL : -(d * 1000000000 : Int) ≤ L ∧ L ≤ d * 1000000000) : kr_b12 (kr_sv g goal thr f u U L r) := fun z hz => by
  have h := kr_sx_bd hl _ _ _ _ _ (kr_sv_some hz).2.2.2
  have := hl r hr
  have : (d : Int) + f ≤ 11 := by omega
  omega
theorem kr_ls_sh (a : Int) (B : Option Int) (D : Int) : kr_ls (some (a - D)) (kr_plus B (some (-D))) = kr_ls (some a) B := by
  cases B with
  | none => rfl
  | some b =>
    show decide (a - D < b + -D) = decide (a < b)
    rw [decide_eq_decide]
    omega
