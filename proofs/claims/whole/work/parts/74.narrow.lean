/-! The least length that lets one through: thresholds. -/
/-- the roads no longer than L, each counted as one -/
def kr_gL (g : kr_G) (L : Int) : kr_G := (g.1, g.2.1, g.2.2.1, fun _ => 1, fun r => g.2.2.2.2 r && decide (g.2.2.2.1 r ≤ L))
theorem kr_wt_len {g : kr_G} {L : Int} : ∀ l : List Nat, kr_wt (kr_gL g L) l = l.length
  | [] => rfl
  | r :: l => by
    show 1 + kr_wt (kr_gL g L) l = ((l.length + 1 : Nat) : Int)
    rw [kr_wt_len l]
    omega
theorem kr_gL_good (g : kr_G) (L : Int) : kr_good (kr_gL g L) := fun u l hne _ => by
  rw [kr_wt_len]
  cases l with
  | nil => exact absurd rfl hne
  | cons a l => simp only [List.length_cons]; omega
/-- one road: no less than its length, no less than what comes to it -/
def kr_nx (g : kr_G) (d : kr_D) (r : Nat) : kr_D := if g.2.2.2.2 r = true then (match d (g.2.1 r) with
  | none => d
  | some a => kr_lw d (g.2.2.1 r) (some (if g.2.2.2.1 r < a then a else g.2.2.2.1 r))) else d
def kr_nr (g : kr_G) (d : kr_D) : Nat → kr_D
  | 0 => d
  | k + 1 => kr_nx g (kr_nr g d k) k
def kr_b0 (o : Nat) : kr_D := fun t => if t = o then some (-1000000000) else none
def kr_nb (g : kr_G) (o : Nat) : Nat → kr_D
  | 0 => kr_b0 o
  | i + 1 => kr_nr g (kr_nb g o i) g.1
def kr_th (L : Int) (v : Option Int) : Bool := match v with
  | none => false
  | some z => decide (z ≤ L)
theorem kr_th_mn (L : Int) (a b : Option Int) : kr_th L (kr_mn a b) = (kr_th L a || kr_th L b) := by
  unfold kr_mn
  cases a with
  | none =>
    cases b with
    | none => rfl
    | some y => rw [if_pos (show kr_ls (some y) none = true from rfl)]; rfl
  | some x =>
    cases b with
    | none => rw [if_neg (show ¬ kr_ls none (some x) = true from (by decide : ¬ false = true))]; simp [kr_th]
    | some y =>
      simp only [kr_ls, decide_eq_true_eq]
      by_cases q : y < x
      · rw [if_pos q]
        simp only [kr_th]
        by_cases h : y ≤ L
        · rw [decide_eq_true h, Bool.or_true]
        · rw [decide_eq_false h, decide_eq_false (by omega)]; rfl
      · rw [if_neg q]
        simp only [kr_th]
        by_cases h : x ≤ L
        · rw [decide_eq_true h, Bool.true_or]
        · rw [decide_eq_false h, decide_eq_false (by omega)]; rfl
theorem kr_is_rlx (g : kr_G) (e : kr_D) (L : Int) (r t : Nat) : (kr_rlx (kr_gL g L) e r t).isSome = if (g.2.2.2.2 r && decide (g.2.2.2.1 r ≤ L)) = true ∧ t = g.2.2.1 r then ((e t).isSome || (e (g.2.1 r)).isSome) else (e t).isSome := by
  have hset : ∀ (z : Int), (kr_set e (g.2.2.1 r) z t).isSome = if t = g.2.2.1 r then true else (e t).isSome := fun z => by
    unfold kr_set
    by_cases q : t = g.2.2.1 r
    · rw [if_pos q, if_pos q]; rfl
    · rw [if_neg q, if_neg q]
  have ek : kr_rlx (kr_gL g L) e r = (if (g.2.2.2.2 r && decide (g.2.2.2.1 r ≤ L)) = true then (match e (g.2.1 r), e (g.2.2.1 r) with
    | none, _ => e
    | some a, none => kr_set e (g.2.2.1 r) (a + 1)
    | some a, some b => if a + 1 < b then kr_set e (g.2.2.1 r) (a + 1) else e) else e) := rfl
  rw [ek]
  by_cases hu : (g.2.2.2.2 r && decide (g.2.2.2.1 r ≤ L)) = true
  · rw [if_pos hu]
    cases h1 : e (g.2.1 r) with
    | none =>
      dsimp only
      by_cases q : t = g.2.2.1 r
      · rw [if_pos ⟨hu, q⟩]; simp
      · rw [if_neg (fun w => q w.2)]
    | some a =>
      cases h2 : e (g.2.2.1 r) with
      | none =>
        dsimp only
        rw [hset]
        by_cases q : t = g.2.2.1 r
        · rw [if_pos q, if_pos ⟨hu, q⟩]; simp
        · rw [if_neg q, if_neg (fun w => q w.2)]
      | some b =>
        dsimp only
        by_cases w : a + 1 < b
        · rw [if_pos w, hset]
          by_cases q : t = g.2.2.1 r
          · rw [if_pos q, if_pos (show (g.2.2.2.2 r && decide (g.2.2.2.1 r ≤ L)) = true ∧ t = g.2.2.1 r from ⟨hu, q⟩)]; simp
          · rw [if_neg q, if_neg (show ¬ ((g.2.2.2.2 r && decide (g.2.2.2.1 r ≤ L)) = true ∧ t = g.2.2.1 r) from fun w => q w.2)]
        · rw [if_neg w]
          by_cases q : t = g.2.2.1 r
          · rw [if_pos (show (g.2.2.2.2 r && decide (g.2.2.2.1 r ≤ L)) = true ∧ t = g.2.2.1 r from ⟨hu, q⟩), q, h2]; rfl
          · rw [if_neg (show ¬ ((g.2.2.2.2 r && decide (g.2.2.2.1 r ≤ L)) = true ∧ t = g.2.2.1 r) from fun w => q w.2)]
  · rw [if_neg hu, if_neg (fun w => hu w.1)]
theorem kr_th_nx {g : kr_G} {d e : kr_D} {L : Int} (h : ∀ t, kr_th L (d t) = (e t).isSome) (r t : Nat) : kr_th L (kr_nx g d r t) = (kr_rlx (kr_gL g L) e r t).isSome := by
  have hrl := kr_is_rlx g e L r t
  rw [hrl, ← h t, ← h (g.2.1 r)]
  unfold kr_nx
  by_cases hu : g.2.2.2.2 r = true
  · rw [if_pos hu, hu, Bool.true_and]
    cases h1 : d (g.2.1 r) with
    | none =>
      have e0 : kr_th L (none : Option Int) = false := rfl
      rw [e0, Bool.or_false]
      by_cases q : decide (g.2.2.2.1 r ≤ L) = true ∧ t = g.2.2.1 r
      · rw [if_pos q]
      · rw [if_neg q]
    | some a =>
      dsimp only
      unfold kr_lw
      by_cases q : t = g.2.2.1 r
      · rw [if_pos q, ← q, kr_th_mn]
        by_cases hl : g.2.2.2.1 r ≤ L
        · rw [if_pos (show decide (g.2.2.2.1 r ≤ L) = true ∧ t = t from ⟨decide_eq_true hl, rfl⟩)]
          refine congrArg (fun z => kr_th L (d t) || z) ?_
          simp only [kr_th]
          rw [decide_eq_decide]
          by_cases w : g.2.2.2.1 r < a
          · rw [if_pos w]
          · rw [if_neg w]; omega
        · rw [if_neg (show ¬ (decide (g.2.2.2.1 r ≤ L) = true ∧ t = t) from fun w => hl (of_decide_eq_true w.1))]
          have : kr_th L (some (if g.2.2.2.1 r < a then a else g.2.2.2.1 r)) = false := by
            simp only [kr_th]
            rw [decide_eq_false]
            by_cases w : g.2.2.2.1 r < a
            · rw [if_pos w]; omega
            · rw [if_neg w]; exact hl
          rw [this, Bool.or_false]
      · rw [if_neg q, if_neg (fun w => q w.2)]
  · rw [if_neg hu]
    have : g.2.2.2.2 r = false := by simpa using hu
    rw [this, Bool.false_and, if_neg (fun w => by cases w.1)]
theorem kr_th_nb (g : kr_G) (o : Nat) {L : Int} (hL : -1000000000 ≤ L) : ∀ i t : Nat, kr_th L (kr_nb g o i t) = (kr_bf (kr_gL g L) (kr_one o) i t).isSome
  | 0, t => by
    show kr_th L (if t = o then some (-1000000000) else none) = (if t = o then some 0 else none : Option Int).isSome
    by_cases h : t = o
    · rw [if_pos h, if_pos h]
      exact decide_eq_true hL
    · rw [if_neg h, if_neg h]; rfl
  | i + 1, t => by
    have ih := kr_th_nb g o hL i
    have : ∀ k t : Nat, kr_th L (kr_nr g (kr_nb g o i) k t) = (kr_rnd (kr_gL g L) (kr_bf (kr_gL g L) (kr_one o) i) k t).isSome := fun k => by
      induction k with
      | zero => exact ih
      | succ k ihk => exact fun t => kr_th_nx ihk k t
    exact this g.1 t
/-- what the rounds keep: the origin lowest, all others lengths of roads -/
theorem kr_nb_inv {g : kr_G} {o : Nat} (hl : ∀ r, r < g.1 → -1000000000 ≤ g.2.2.2.1 r ∧ g.2.2.2.1 r ≤ 1000000000) : ∀ i : Nat, kr_nb g o i o = some (-1000000000) ∧ ∀ t z, kr_nb g o i t = some z → (-1000000000 ≤ z ∧ z ≤ 1000000000) ∧ (t ≠ o → ∃ r, r < g.1 ∧ g.2.2.2.2 r = true ∧ g.2.2.2.1 r = z)
  | 0 => ⟨if_pos rfl, fun t z h => by
      have h' : (if t = o then some (-1000000000) else none) = some z := h
      by_cases q : t = o
      · rw [if_pos q] at h'
        cases h'
        exact ⟨by omega, fun w => absurd q w⟩
      · rw [if_neg q] at h'; cases h'⟩
  | i + 1 => by
    have step : ∀ k : Nat, k ≤ g.1 → kr_nr g (kr_nb g o i) k o = some (-1000000000) ∧ ∀ t z, kr_nr g (kr_nb g o i) k t = some z → (-1000000000 ≤ z ∧ z ≤ 1000000000) ∧ (t ≠ o → ∃ r, r < g.1 ∧ g.2.2.2.2 r = true ∧ g.2.2.2.1 r = z) := fun k => by
      induction k with
      | zero => exact fun _ => kr_nb_inv hl i
      | succ k ih =>
        intro hk
        obtain ⟨h1, h2⟩ := ih (by omega)
        have hlk := hl k (by omega)
        show kr_nx g (kr_nr g (kr_nb g o i) k) k o = _ ∧ ∀ t z, kr_nx g (kr_nr g (kr_nb g o i) k) k t = some z → _
        generalize kr_nr g (kr_nb g o i) k = d at h1 h2 ⊢
        unfold kr_nx
        by_cases hu : g.2.2.2.2 k = true
        · rw [if_pos hu]
          cases hd : d (g.2.1 k) with
          | none => exact ⟨h1, h2⟩
          | some a =>
            have ha := h2 _ _ hd
            have hv : (-1000000000 ≤ (if g.2.2.2.1 k < a then a else g.2.2.2.1 k) ∧ (if g.2.2.2.1 k < a then a else g.2.2.2.1 k) ≤ 1000000000) ∧ ∃ r, r < g.1 ∧ g.2.2.2.2 r = true ∧ g.2.2.2.1 r = (if g.2.2.2.1 k < a then a else g.2.2.2.1 k) := by
              by_cases w : g.2.2.2.1 k < a
              · rw [if_pos w]
                refine ⟨ha.1, ha.2 (fun e => ?_)⟩
                rw [e, h1] at hd
                have := Option.some.inj hd
                omega
              · rw [if_neg w]
                exact ⟨hlk, k, by omega, hu, rfl⟩
            dsimp only
            refine ⟨?_, fun t z hz => ?_⟩
            · unfold kr_lw
              by_cases q : o = g.2.2.1 k
              · rw [if_pos q, ← q, h1]
                unfold kr_mn
                rw [if_neg (by simp only [kr_ls, decide_eq_true_eq]; omega)]
              · rw [if_neg q]; exact h1
            · unfold kr_lw at hz
              by_cases q : t = g.2.2.1 k
              · rw [if_pos q] at hz
                unfold kr_mn at hz
                by_cases w : kr_ls (some (if g.2.2.2.1 k < a then a else g.2.2.2.1 k)) (d (g.2.2.1 k)) = true
                · rw [if_pos w] at hz
                  have := Option.some.inj hz
                  rw [← this]
                  exact ⟨hv.1, fun _ => hv.2⟩
                · rw [if_neg w, ← q] at hz
                  exact h2 t z hz
              · rw [if_neg q] at hz
                exact h2 t z hz
        · rw [if_neg hu]; exact ⟨h1, h2⟩
    exact step g.1 (Nat.le_refl _)
