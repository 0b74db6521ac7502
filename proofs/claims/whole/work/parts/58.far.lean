/-! Reckoned from the pairs: reach, middle, group, comers, ring. -/
def kp_bd (P : Nat → kr_D) (n : Nat) : Prop := ∀ a, a < n → kr_row (P a)
/-- the class's pairs are P -/
def kx_P (σ : kw_M) (P : Nat → kr_D) (n : Nat) : Prop := σ.1 5 1 = nI n ∧ ∀ a, a < n → ∀ b, b < 12 → σ.2 39 (a * 12 + b) = kx_enc (P a b)
/-- the reference's pairs are P -/
def km_P (σ : kw_M) (P : Nat → kr_D) (n : Nat) : Prop := σ.1 1 0 = nI n ∧ ∀ a, a < n → ∀ b, b < 12 → σ.2 15 (12 * a + b) = km_enc (P a b)
theorem kx_P_span {σ : kw_M} {P : Nat → kr_D} {n a b : Nat} (h : kx_P σ P n) (ha : a < n) (h12 : n ≤ 12) (hb : b < 12) : fX2_span (nI a) (nI b) σ = some (kx_enc (P a b)) := by
  unfold fX2_span
  simp (disch := omega) only [kn_12, kn_mul, nI_add, kn_chk, kn_clamp]
  rw [h.2 a ha b hb]
theorem kx_P_comes {σ : kw_M} {P : Nat → kr_D} {n a b : Nat} (h : kx_P σ P n) (hP : kp_bd P n) (ha : a < n) (h12 : n ≤ 12) (hb : b < 12) : fX2_comesTo (nI a) (nI b) σ = some (kx_fl (P a b).isSome) := by
  unfold fX2_comesTo
  rw [kx_P_span h ha h12 hb, Option.bind_some]
  simp only [kx_enc_e (kr_row_bd (hP a ha) b)]
  cases P a b with
  | none => rw [if_pos rfl]; rfl
  | some z => rw [if_neg (by simp)]; rfl
/-- the farthest town that one comes to, among the first k -/
def kp_up (x y : Option Int) : Option Int := match x, y with
  | none, y => y
  | some x, none => some x
  | some x, some y => if x ≤ y then some y else some x
def kp_rch (P : Nat → kr_D) (a : Nat) : Nat → Option Int
  | 0 => none
  | k + 1 => if k = a then kp_rch P a k else kp_up (P a k) (kp_rch P a k)
theorem kp_rch_s (P : Nat → kr_D) (a k : Nat) : kp_rch P a (k + 1) = if k = a then kp_rch P a k else kp_up (P a k) (kp_rch P a k) := rfl
theorem kp_rch_bd {P : Nat → kr_D} {n a : Nat} (hP : kr_row (P a)) : ∀ k : Nat, kr_bd (kp_rch P a k)
  | 0 => kr_bd_none
  | k + 1 => by
    have ih := kp_rch_bd (n := n) hP k
    have hb := kr_row_bd hP k
    unfold kp_rch
    by_cases e : k = a
    · rw [if_pos e]; exact ih
    · rw [if_neg e]
      cases h1 : P a k with
      | none => exact ih
      | some x =>
        rw [h1] at hb
        cases h2 : kp_rch P a k with
        | none => exact hb
        | some y =>
          rw [h2] at ih
          show kr_bd (if x ≤ y then some y else some x)
          by_cases q : x ≤ y
          · rw [if_pos q]; exact ih
          · rw [if_neg q]; exact hb
theorem kx_reach {σ : kw_M} {P : Nat → kr_D} {n a : Nat} (h : kx_P σ P n) (hP : kp_bd P n) (ha : a < n) (h12 : n ≤ 12) : fX2_reachOf (nI a) σ = some (kx_enc (kp_rch P a n)) := by
  have hr := kw_loop_at (body := fun s => bX2_reachOf_7 (nI a) σ s.1 s.2) (fun k => (kx_enc (kp_rch P a k), nI k)) (x := kx_enc (kp_rch P a n)) n (fun k hk => by
    show bX2_reachOf_7 (nI a) σ (kx_enc (kp_rch P a k)) (nI k) = _
    unfold bX2_reachOf_7 jX2_reachOf_52_L7
    rw [h.1, if_neg (nI_ge hk (by omega)), kx_P_comes h hP ha h12 (by omega), Option.bind_some, kx_P_span h ha h12 (by omega), Option.bind_some]
    have bk := kp_rch_bd (n := n) (hP a ha) k
    have bp := kr_row_bd (hP a ha) k
    simp only [kn_eq (show k < 2147483648 by omega) (show a < 2147483648 by omega), kw_let_def, km_next, kx_fl_0, kx_enc_e bk, Option.bind_some]
    show _ = some (Sum.inl (kx_enc (kp_rch P a (k + 1)), nI (k + 1)))
    rw [kp_rch_s]
    by_cases e : k = a
    · rw [if_pos e, if_pos e]
    · rw [if_neg e, if_neg e]
      cases h1 : P a k with
      | none => rw [if_pos (show Option.isSome (none : Option Int) = false from rfl)]; rfl
      | some x =>
        rw [h1] at bp
        rw [if_neg (show ¬ Option.isSome (some x) = false by simp)]
        cases h2 : kp_rch P a k with
        | none => rw [if_pos rfl]; rfl
        | some y =>
          rw [h2] at bk
          rw [if_neg (by simp)]
          simp only [Int64.le_iff_toInt_le, kx_enc_i bk, kx_enc_i bp]
          show _ = some (Sum.inl (kx_enc (if x ≤ y then some y else some x), nI (k + 1)))
          by_cases q : x ≤ y
          · rw [if_pos q, if_pos q]
          · rw [if_neg q, if_neg q]) (by
    show bX2_reachOf_7 (nI a) σ (kx_enc (kp_rch P a n)) (nI n) = _
    unfold bX2_reachOf_7
    rw [h.1, if_pos (nI_le (Nat.le_refl n) (by omega))]) (by omega)
  have hr' : kw_loop (fun s => bX2_reachOf_7 (nI a) σ s.1 s.2) kw_F ((-9000000000000000000 : Int64), (0 : Int32)) = some (kx_enc (kp_rch P a n)) := hr
  unfold fX2_reachOf
  rw [hr']
  rfl
theorem km_reach {σ : kw_M} {P : Nat → kr_D} {n a : Nat} (h : km_P σ P n) (hP : kp_bd P n) (ha : a < n) (h12 : n ≤ 12) : fX10_reachOf (nI a) σ = some (km_enc (kp_rch P a n)) := by
  have hr := kw_loop_at (body := fun s => bX10_reachOf_7 (nI a) σ s.1 s.2) (fun k => (km_enc (kp_rch P a k), nI k)) (x := km_enc (kp_rch P a n)) n (fun k hk => by
    show bX10_reachOf_7 (nI a) σ (km_enc (kp_rch P a k)) (nI k) = _
    unfold bX10_reachOf_7 jX10_reachOf_69_L7 fX10_towns
    have bk := kp_rch_bd (n := n) (hP a ha) k
    have bp := kr_row_bd (hP a ha) k
    have hpk := h.2 a ha k (by omega)
    rw [h.1, Option.bind_some, if_neg (nI_ge hk (by omega))]
    simp (disch := omega) only [kn_12, kn_mul, nI_add, kn_chk, kn_clamp, hpk, kn_eq, kw_let_def, km_next, km_enc_e bk, km_enc_e bp, km_enc_le bp bk]
    show _ = some (Sum.inl (km_enc (kp_rch P a (k + 1)), nI (k + 1)))
    rw [kp_rch_s]
    by_cases e : k = a
    · rw [if_pos e, if_pos e]
    · rw [if_neg e, if_neg e]
      cases h1 : P a k with
      | none => rw [if_pos rfl]; rfl
      | some x =>
        rw [if_neg (by simp)]
        cases h2 : kp_rch P a k with
        | none => rw [if_pos rfl]; rfl
        | some y =>
          rw [if_neg (by simp)]
          simp only [kr_ls, decide_eq_false_iff_not]
          show _ = some (Sum.inl (km_enc (if x ≤ y then some y else some x), nI (k + 1)))
          by_cases q : x ≤ y
          · rw [if_pos (by omega), if_pos q]
          · rw [if_neg (by omega), if_neg q]) (by
    show bX10_reachOf_7 (nI a) σ (km_enc (kp_rch P a n)) (nI n) = _
    unfold bX10_reachOf_7 fX10_towns
    rw [h.1, Option.bind_some, if_pos (nI_le (Nat.le_refl n) (by omega))]) (by omega)
  have hr' : kw_loop (fun s => bX10_reachOf_7 (nI a) σ s.1 s.2) kw_F ((900000000000000000 : Int64), (0 : Int32)) = some (km_enc (kp_rch P a n)) := hr
  unfold fX10_reachOf
  rw [hr']
  rfl
theorem kx_toAll {σ : kw_M} {P : Nat → kr_D} {n a : Nat} (h : kx_P σ P n) (hP : kp_bd P n) (ha : a < n) (h12 : n ≤ 12) : fX2_comesToAll (nI a) σ = some (kx_fl (!kr_anyTo (fun t => !(P a t).isSome) n)) := by
  obtain ⟨x, hx, hq⟩ := kw_for (body := fun s => bX2_comesToAll_2 (nI a) σ s) (fun k s => s = nI k ∧ ∀ i, i < k → (!(P a i).isSome) = false) (fun x => Sum.elim (fun x5r => some x5r) (fun _ => some (1 : Int32)) x = some (kx_fl (!kr_anyTo (fun t => !(P a t).isSome) n))) n (by omega) (s0 := (0 : Int32)) ⟨rfl, fun i hi => absurd hi (Nat.not_lt_zero _)⟩ (fun k s hk hp => by
    obtain ⟨rfl, hi⟩ := hp
    unfold bX2_comesToAll_2
    rw [h.1]
    by_cases hkn : k < n
    · rw [if_neg (nI_ge hkn (by omega)), kx_P_comes h hP ha h12 (by omega), Option.bind_some]
      simp only [kx_fl_0, kw_let_def, km_next]
      cases hs : (P a k).isSome with
      | false =>
        right
        rw [kn_ff]
        refine ⟨_, rfl, ?_⟩
        rw [kr_anyTo_t n k hkn (by rw [hs]; rfl)]
        rfl
      | true =>
        left
        rw [kn_tf]
        refine ⟨hkn, _, rfl, rfl, fun i hi' => ?_⟩
        by_cases e : i = k
        · rw [e, hs]; rfl
        · exact hi i (by omega)
    · right
      obtain rfl : k = n := by omega
      rw [if_pos (nI_le (Nat.le_refl k) (by omega))]
      refine ⟨_, rfl, ?_⟩
      rw [kr_anyTo_f k hi]
      rfl)
  unfold fX2_comesToAll
  rw [hx, Option.bind_some]
  exact hq
theorem km_toAll {σ : kw_M} {P : Nat → kr_D} {n a : Nat} (h : km_P σ P n) (hP : kp_bd P n) (ha : a < n) (h12 : n ≤ 12) : fX10_comesToAll (nI a) σ = some (kx_fl (!kr_anyTo (fun t => !(P a t).isSome) n)) := by
  obtain ⟨x, hx, hq⟩ := kw_for (body := fun s => bX10_comesToAll_2 (nI a) σ s) (fun k s => s = nI k ∧ ∀ i, i < k → (!(P a i).isSome) = false) (fun x => Sum.elim (fun x5r => some x5r) (fun _ => some (1 : Int32)) x = some (kx_fl (!kr_anyTo (fun t => !(P a t).isSome) n))) n (by omega) (s0 := (0 : Int32)) ⟨rfl, fun i hi => absurd hi (Nat.not_lt_zero _)⟩ (fun k s hk hp => by
    obtain ⟨rfl, hi⟩ := hp
    unfold bX10_comesToAll_2 fX10_towns
    rw [h.1, Option.bind_some]
    by_cases hkn : k < n
    · have hpk := h.2 a ha k (by omega)
      rw [if_neg (nI_ge hkn (by omega))]
      simp (disch := omega) only [kn_12, kn_mul, nI_add, kn_chk, kn_clamp, hpk, kw_let_def, km_next, km_enc_e (kr_row_bd (hP a ha) k)]
      cases hs : P a k with
      | none =>
        right
        rw [if_pos rfl]
        refine ⟨_, rfl, ?_⟩
        rw [kr_anyTo_t n k hkn (by rw [hs]; rfl)]
        rfl
      | some z =>
        left
        rw [if_neg (by simp)]
        refine ⟨hkn, _, rfl, rfl, fun i hi' => ?_⟩
        by_cases e : i = k
        · rw [e, hs]; rfl
        · exact hi i (by omega)
    · right
      obtain rfl : k = n := by omega
      rw [if_pos (nI_le (Nat.le_refl k) (by omega))]
      refine ⟨_, rfl, ?_⟩
      rw [kr_anyTo_f k hi]
      rfl)
  unfold fX10_comesToAll
  rw [hx, Option.bind_some]
  exact hq
theorem kx_group {σ : kw_M} {P : Nat → kr_D} {n a : Nat} (h : kx_P σ P n) (hP : kp_bd P n) (ha : a < n) (h12 : n ≤ 12) : fX2_groupOf (nI a) σ = some (nI ((kr_low (fun t => (P t a).isSome && (P a t).isSome) a).getD a)) := by
  obtain ⟨x, hx, hq⟩ := kw_for (body := fun s => bX2_groupOf_2 (nI a) σ s) (fun k s => s = nI k ∧ ∀ i, i < k → ((P i a).isSome && (P a i).isSome) = false) (fun x => Sum.elim (fun x5r => some x5r) (fun _ => some (nI a)) x = some (nI ((kr_low (fun t => (P t a).isSome && (P a t).isSome) a).getD a))) a (by omega) (s0 := (0 : Int32)) ⟨rfl, fun i hi => absurd hi (Nat.not_lt_zero _)⟩ (fun k s hk hp => by
    obtain ⟨rfl, hi⟩ := hp
    unfold bX2_groupOf_2
    by_cases hkn : k < a
    · rw [if_neg (nI_ge hkn (by omega)), kx_P_comes h hP (by omega) h12 (by omega), Option.bind_some, kx_P_comes h hP ha h12 (by omega), Option.bind_some]
      simp only [kx_fl_0, kw_let_def, km_next]
      have go : ((P k a).isSome && (P a k).isSome) = false → (k < a ∧ ∃ t, (some (Sum.inl (nI (k + 1))) : Option (Int32 ⊕ (Int32 ⊕ Unit))) = some (Sum.inl t) ∧ t = nI (k + 1) ∧ ∀ i, i < k + 1 → ((P i a).isSome && (P a i).isSome) = false) := fun q => ⟨hkn, _, rfl, rfl, fun i hi' => by
        by_cases e : i = k
        · rw [e]; exact q
        · exact hi i (by omega)⟩
      cases h1 : (P k a).isSome with
      | false =>
        left
        rw [kn_ff]
        exact go (by rw [h1]; rfl)
      | true =>
        rw [kn_tf]
        cases h2 : (P a k).isSome with
        | false =>
          left
          rw [kn_ff]
          exact go (by rw [h2, Bool.and_false])
        | true =>
          right
          rw [kn_tf]
          refine ⟨_, rfl, ?_⟩
          rw [kr_low_s a k hkn (by rw [h1, h2]; rfl) hi]
          rfl
    · right
      obtain rfl : k = a := by omega
      rw [if_pos (nI_le (Nat.le_refl k) (by omega))]
      refine ⟨_, rfl, ?_⟩
      rw [kr_low_n k hi]
      rfl)
  unfold fX2_groupOf
  rw [hx, Option.bind_some]
  exact hq
theorem km_group {σ : kw_M} {P : Nat → kr_D} {n a : Nat} (h : km_P σ P n) (hP : kp_bd P n) (ha : a < n) (h12 : n ≤ 12) : fX10_groupOf (nI a) σ = some (nI ((kr_low (fun t => (P t a).isSome && (P a t).isSome) a).getD a)) := by
  obtain ⟨x, hx, hq⟩ := kw_for (body := fun s => bX10_groupOf_2 (nI a) σ s) (fun k s => s = nI k ∧ ∀ i, i < k → ((P i a).isSome && (P a i).isSome) = false) (fun x => Sum.elim (fun x5r => some x5r) (fun _ => some (nI a)) x = some (nI ((kr_low (fun t => (P t a).isSome && (P a t).isSome) a).getD a))) a (by omega) (s0 := (0 : Int32)) ⟨rfl, fun i hi => absurd hi (Nat.not_lt_zero _)⟩ (fun k s hk hp => by
    obtain ⟨rfl, hi⟩ := hp
    unfold bX10_groupOf_2
    by_cases hkn : k < a
    · have p1 := h.2 a ha k (by omega)
      have p2 := h.2 k (by omega) a (by omega)
      rw [if_neg (nI_ge hkn (by omega))]
      simp (disch := omega) only [kn_12, kn_mul, nI_add, kn_chk, kn_clamp, p1, p2, kw_let_def, km_next, km_enc_ge (kr_row_bd (hP a ha) k), km_enc_ge (kr_row_bd (hP k (show k < n by omega)) a)]
      have go : ((P k a).isSome && (P a k).isSome) = false → (k < a ∧ ∃ t, (some (Sum.inl (nI (k + 1))) : Option (Int32 ⊕ (Int32 ⊕ Unit))) = some (Sum.inl t) ∧ t = nI (k + 1) ∧ ∀ i, i < k + 1 → ((P i a).isSome && (P a i).isSome) = false) := fun q => ⟨hkn, _, rfl, rfl, fun i hi' => by
        by_cases e : i = k
        · rw [e]; exact q
        · exact hi i (by omega)⟩
      cases h1 : P a k with
      | none =>
        left
        rw [if_pos rfl]
        exact go (by rw [h1]; simp)
      | some z =>
        rw [if_neg (by simp)]
        cases h2 : P k a with
        | none =>
          left
          rw [if_pos rfl]
          exact go (by rw [h2]; simp)
        | some y =>
          right
          rw [if_neg (by simp)]
          refine ⟨_, rfl, ?_⟩
          rw [kr_low_s a k hkn (by rw [h1, h2]; rfl) hi]
          rfl
    · right
      obtain rfl : k = a := by omega
      rw [if_pos (nI_le (Nat.le_refl k) (by omega))]
      refine ⟨_, rfl, ?_⟩
      rw [kr_low_n k hi]
      rfl)
  unfold fX10_groupOf
  rw [hx, Option.bind_some]
  exact hq
theorem kx_comers {σ : kw_M} {P : Nat → kr_D} {n a : Nat} (h : kx_P σ P n) (hP : kp_bd P n) (ha : a < n) (h12 : n ≤ 12) : fX2_comersTo (nI a) σ = some (nI (kr_cntb (fun t => !decide (t = a) && (P t a).isSome) n)) := by
  unfold fX2_comersTo
  rw [kw_cntl (body := fun s => bX2_comersTo_4 (nI a) σ s.1 s.2) (fun t => !decide (t = a) && (P t a).isSome) n (by omega) (fun k c hk => ?_) (fun c => ?_)]
  · rfl
  · dsimp only
    unfold bX2_comersTo_4
    rw [h.1, if_neg (nI_ge hk (by omega)), kx_P_comes h hP hk h12 (by omega), Option.bind_some]
    simp only [kw_let_def, km_next, kn_eq (show k < 2147483648 by omega) (show a < 2147483648 by omega), kx_fl_0]
    by_cases q : k = a
    · rw [if_pos q, decide_eq_true q, Bool.not_true, Bool.false_and, if_neg (by decide)]
    · rw [if_neg q, decide_eq_false q, Bool.not_false, Bool.true_and]
      cases (P k a).isSome <;> simp
  · dsimp only
    unfold bX2_comersTo_4
    rw [h.1, if_pos (nI_le (Nat.le_refl n) (by omega))]
theorem km_comers {σ : kw_M} {P : Nat → kr_D} {n a : Nat} (h : km_P σ P n) (hP : kp_bd P n) (ha : a < n) (h12 : n ≤ 12) : fX10_comeTo (nI a) σ = some (nI (kr_cntb (fun t => !decide (t = a) && (P t a).isSome) n)) := by
  unfold fX10_comeTo
  rw [kw_cntl (body := fun s => bX10_comeTo_4 (nI a) σ s.1 s.2) (fun t => !decide (t = a) && (P t a).isSome) n (by omega) (fun k c hk => ?_) (fun c => ?_)]
  · rfl
  · dsimp only
    unfold bX10_comeTo_4 fX10_towns
    have p1 := h.2 k hk a (by omega)
    rw [h.1, Option.bind_some, if_neg (nI_ge hk (by omega))]
    simp (disch := omega) only [kn_12, kn_mul, nI_add, kn_chk, kn_clamp, p1, kn_eq, kw_let_def, km_next, km_enc_ge (kr_row_bd (hP k hk) a)]
    by_cases q : k = a
    · rw [if_pos q, decide_eq_true q, Bool.not_true, Bool.false_and, if_neg (by decide)]
    · rw [if_neg q, decide_eq_false q, Bool.not_false, Bool.true_and]
      cases P k a <;> simp
  · dsimp only
    unfold bX10_comeTo_4 fX10_towns
    rw [h.1, Option.bind_some, if_pos (nI_le (Nat.le_refl n) (by omega))]
