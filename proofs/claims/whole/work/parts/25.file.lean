/-! The reference's file as a state: watches, events, touched towns; what notesEvent and touches do to it. -/
/-- beyond a limit: no length is beyond all -/
def kb_bey (d : Option Int) (l : Int32) : Bool := match d with
  | none => true
  | some z => decide (l.toInt < z)
/-- less: no length is more than any -/
def kr_ls (a b : Option Int) : Bool := match a, b with
  | none, _ => false
  | some _, none => true
  | some x, some y => decide (x < y)
def kb_i32 (d : Option Int) : Int32 := match d with
  | none => 0
  | some z => Int32.ofInt z
def kb_is (d : Option Int) : Int32 := match d with
  | none => 0
  | some _ => 1
def kb_flag (F : Nat → Int32) (d : Option Int) (t : Nat) : Int32 := kx_fl (kb_bey d (F (172 + 3 * t + 1)))
/-- an event of town t is noted -/
def kb_note (F : Nat → Int32) (d : Option Int) (t : Nat) : Nat → Int32 :=
  if F 4 = 100 then upd F (172 + 3 * t + 2) (kb_flag F d t) else
  upd (upd (upd (upd (upd (upd (upd F (172 + 3 * t + 2) (kb_flag F d t)) (208 + 5 * (F 4).toNatClampNeg) (F 3)) (208 + 5 * (F 4).toNatClampNeg + 1) (nI t)) (208 + 5 * (F 4).toNatClampNeg + 2) (kb_flag F d t)) (208 + 5 * (F 4).toNatClampNeg + 3) (kb_i32 d)) (208 + 5 * (F 4).toNatClampNeg + 4) (kb_is d)) 4 (F 4 + 1)
/-- whether town t has an event to note -/
def kb_due (F : Nat → Int32) (d : Option Int) (t : Nat) : Prop := F (172 + 3 * t) = 1 ∧ ¬ kb_flag F d t = kx_fl (decide (F (172 + 3 * t + 2) = 1))
def kb_notes (F : Nat → Int32) (D : kr_D) : Nat → (Nat → Int32)
  | 0 => F
  | t + 1 => if F (172 + 3 * t) = 1 ∧ ¬ kb_flag F (D t) t = kx_fl (decide (F (172 + 3 * t + 2) = 1)) then kb_note (kb_notes F D t) (D t) t else kb_notes F D t
/-- a town is put among those that stand from off on, k of them, behind those that are not more -/
def kb_ins (T : Nat → Int32) (off : Nat) (t : Int32) (ls : Int32 → Bool) : Nat → (Nat → Int32)
  | 0 => upd T off t
  | k + 1 => if ls (T (off + k)) = true then kb_ins (upd T (off + k + 1) (T (off + k))) off t ls k else upd T (off + k + 1) t
/-- shifts that an insertion makes: the same recursion, with the array as it goes along -/
theorem kb_ins_s (T : Nat → Int32) (off : Nat) (t : Int32) (ls : Int32 → Bool) (k : Nat) : kb_ins T off t ls (k + 1) = if ls (T (off + k)) = true then kb_ins (upd T (off + k + 1) (T (off + k))) off t ls k else upd T (off + k + 1) t := rfl
def kb_tch (T : Nat → Int32) (off : Nat) (D E : kr_D) : Nat → Nat × (Nat → Int32)
  | 0 => (0, T)
  | t + 1 => if D t = E t then kb_tch T off D E t else ((kb_tch T off D E t).1 + 1, kb_ins (kb_tch T off D E t).2 off (nI t) (fun x => kr_ls (D t) (D x.toNatClampNeg)) (kb_tch T off D E t).1)
theorem kb_ins_far {off : Nat} {t : Int32} {ls : Int32 → Bool} : ∀ (k : Nat) (T : Nat → Int32) (j : Nat), (j < off ∨ off + k < j) → kb_ins T off t ls k j = T j
  | 0, T, j, h => kw_upd_n (by omega)
  | k + 1, T, j, h => by
    rw [kb_ins_s]
    by_cases hl : ls (T (off + k)) = true
    · rw [if_pos hl, kb_ins_far k _ j (by omega)]
      exact kw_upd_n (by omega)
    · rw [if_neg hl]
      exact kw_upd_n (by omega)
/-- two arrays with the same towns: the same towns after it -/
theorem kb_ins_two {off off' : Nat} {t : Int32} {ls : Int32 → Bool} : ∀ (k : Nat) (T T' : Nat → Int32), (∀ i, i < k → T (off + i) = T' (off' + i)) → ∀ i, i ≤ k → kb_ins T off t ls k (off + i) = kb_ins T' off' t ls k (off' + i)
  | 0, T, T', h, i, hi => by
    obtain rfl : i = 0 := by omega
    show upd T off t off = upd T' off' t off'
    rw [kw_upd_e, kw_upd_e]
  | k + 1, T, T', h, i, hi => by
    rw [kb_ins_s, kb_ins_s, ← h k (by omega)]
    by_cases hl : ls (T (off + k)) = true
    · rw [if_pos hl, if_pos hl]
      by_cases hk : i ≤ k
      · refine kb_ins_two k _ _ (fun j hj => ?_) i hk
        rw [kw_upd_n (by omega), kw_upd_n (by omega)]
        exact h j (by omega)
      · obtain rfl : i = k + 1 := by omega
        rw [kb_ins_far k _ _ (by omega), kb_ins_far k _ _ (by omega)]
        rw [show off + (k + 1) = off + k + 1 by omega, show off' + (k + 1) = off' + k + 1 by omega, kw_upd_e, kw_upd_e]
    · rw [if_neg hl, if_neg hl]
      by_cases hk : i ≤ k
      · rw [kw_upd_n (by omega), kw_upd_n (by omega)]
        exact h i (by omega)
      · obtain rfl : i = k + 1 := by omega
        rw [show off + (k + 1) = off + k + 1 by omega, show off' + (k + 1) = off' + k + 1 by omega, kw_upd_e, kw_upd_e]
theorem kb_ins_all {off : Nat} {t : Int32} {ls : Int32 → Bool} (V : Int32 → Prop) (ht : V t) : ∀ (k : Nat) (T : Nat → Int32), (∀ i, i < k → V (T (off + i))) → ∀ i, i ≤ k → V (kb_ins T off t ls k (off + i))
  | 0, T, h, i, hi => by
    obtain rfl : i = 0 := by omega
    show V (upd T off t off)
    rw [kw_upd_e]
    exact ht
  | k + 1, T, h, i, hi => by
    rw [kb_ins_s]
    by_cases hl : ls (T (off + k)) = true
    · rw [if_pos hl]
      by_cases hk : i ≤ k
      · refine kb_ins_all V ht k _ (fun j hj => ?_) i hk
        rw [kw_upd_n (by omega)]
        exact h j (by omega)
      · obtain rfl : i = k + 1 := by omega
        rw [kb_ins_far k _ _ (by omega), show off + (k + 1) = off + k + 1 by omega, kw_upd_e]
        exact h k (by omega)
    · rw [if_neg hl]
      by_cases hk : i ≤ k
      · rw [kw_upd_n (by omega)]
        exact h i (by omega)
      · obtain rfl : i = k + 1 := by omega
        rw [show off + (k + 1) = off + k + 1 by omega, kw_upd_e]
        exact ht
/-- towns below t -/
def kb_bel (t : Nat) (x : Int32) : Prop := ∃ a, a < t ∧ x = nI a
theorem kb_bel_s {t : Nat} {x : Int32} (h : kb_bel t x) : kb_bel (t + 1) x := by
  obtain ⟨a, h1, h2⟩ := h
  exact ⟨a, by omega, h2⟩
theorem kb_tch_inv (T : Nat → Int32) (off : Nat) (D E : kr_D) : ∀ t : Nat, (kb_tch T off D E t).1 ≤ t ∧ (∀ i, i < (kb_tch T off D E t).1 → kb_bel t ((kb_tch T off D E t).2 (off + i))) ∧ (∀ j, (j < off ∨ off + t ≤ j) → (kb_tch T off D E t).2 j = T j)
  | 0 => ⟨Nat.le_refl _, fun i hi => absurd hi (Nat.not_lt_zero _), fun _ _ => rfl⟩
  | t + 1 => by
    obtain ⟨h1, h2, h3⟩ := kb_tch_inv T off D E t
    unfold kb_tch
    by_cases hd : D t = E t
    · rw [if_pos hd]
      exact ⟨by omega, fun i hi => kb_bel_s (h2 i hi), fun j hj => h3 j (by omega)⟩
    · rw [if_neg hd]
      refine ⟨by dsimp only; omega, fun i hi => ?_, fun j hj => ?_⟩
      · exact kb_ins_all (kb_bel (t + 1)) ⟨t, by omega, rfl⟩ _ _ (fun j hj => kb_bel_s (h2 j hj)) i (by dsimp only at hi; omega)
      · dsimp only
        rw [kb_ins_far _ _ _ (by omega)]
        exact h3 j (by omega)
theorem kb_tch_two (T T' : Nat → Int32) (off off' : Nat) (D E : kr_D) : ∀ t : Nat, (kb_tch T off D E t).1 = (kb_tch T' off' D E t).1 ∧ ∀ i, i < (kb_tch T off D E t).1 → (kb_tch T off D E t).2 (off + i) = (kb_tch T' off' D E t).2 (off' + i)
  | 0 => ⟨rfl, fun i hi => absurd hi (Nat.not_lt_zero _)⟩
  | t + 1 => by
    obtain ⟨h1, h2⟩ := kb_tch_two T T' off off' D E t
    unfold kb_tch
    by_cases hd : D t = E t
    · rw [if_pos hd, if_pos hd]
      exact ⟨h1, h2⟩
    · rw [if_neg hd, if_neg hd]
      refine ⟨by dsimp only; omega, fun i hi => ?_⟩
      dsimp only at hi ⊢
      rw [← h1]
      exact kb_ins_two _ _ _ h2 i (by omega)
/-- how many towns are others -/
def kb_cnt (D E : kr_D) : Nat → Nat
  | 0 => 0
  | t + 1 => if D t = E t then kb_cnt D E t else kb_cnt D E t + 1
theorem kb_tch_cnt (T : Nat → Int32) (off : Nat) (D E : kr_D) : ∀ t : Nat, (kb_tch T off D E t).1 = kb_cnt D E t
  | 0 => rfl
  | t + 1 => by
    have h := kb_tch_cnt T off D E t
    unfold kb_tch kb_cnt
    by_cases hd : D t = E t
    · rw [if_pos hd, if_pos hd, h]
    · rw [if_neg hd, if_neg hd]
      dsimp only
      rw [h]
