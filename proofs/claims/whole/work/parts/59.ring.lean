/-! middle, ring. -/
theorem kp_rch_some {P : Nat → kr_D} {a t : Nat} (hta : t ≠ a) (hs : (P a t).isSome = true) : ∀ k : Nat, t < k → (kp_rch P a k).isSome = true
  | 0, h => absurd h (Nat.not_lt_zero _)
  | k + 1, h => by
    rw [kp_rch_s]
    by_cases e : t = k
    · subst e
      rw [if_neg hta]
      cases h1 : P a t with
      | none => rw [h1] at hs; cases hs
      | some x =>
        cases h2 : kp_rch P a t with
        | none => rfl
        | some y =>
          show (if x ≤ y then some y else some x).isSome = true
          by_cases q : x ≤ y
          · rw [if_pos q]; rfl
          · rw [if_neg q]; rfl
    · have ih := kp_rch_some hta hs k (by omega)
      by_cases e2 : k = a
      · rw [if_pos e2]; exact ih
      · rw [if_neg e2]
        cases h2 : kp_rch P a k with
        | none => rw [h2] at ih; cases ih
        | some y =>
          cases h1 : P a k with
          | none => rfl
          | some x =>
            show (if x ≤ y then some y else some x).isSome = true
            by_cases q : x ≤ y
            · rw [if_pos q]; rfl
            · rw [if_neg q]; rfl
def kp_all (P : Nat → kr_D) (n a : Nat) : Bool := !kr_anyTo (fun t => !(P a t).isSome) n
theorem kp_all_rch {P : Nat → kr_D} {n a : Nat} (hn : 2 ≤ n) (h : kp_all P n a = true) : (kp_rch P a n).isSome = true := by
  have hall : ∀ t, t < n → (P a t).isSome = true := fun t ht => by
    cases q : (P a t).isSome with
    | true => rfl
    | false =>
      unfold kp_all at h
      rw [kr_anyTo_t n t ht (by rw [q]; rfl)] at h
      cases h
  by_cases e : a = 0
  · exact kp_rch_some (t := 1) (by omega) (hall 1 (by omega)) n (by omega)
  · exact kp_rch_some (t := 0) (by omega) (hall 0 (by omega)) n (by omega)
/-- the town in the middle, among the first k -/
def kp_mid (P : Nat → kr_D) (n : Nat) : Nat → Option Nat
  | 0 => none
  | k + 1 => if kp_all P n k = true then (match kp_mid P n k with
    | none => some k
    | some b => if kr_ls (kp_rch P k n) (kp_rch P b n) = true then some k else some b) else kp_mid P n k
theorem kp_mid_lt (P : Nat → kr_D) (n : Nat) : ∀ k b : Nat, kp_mid P n k = some b → b < k
  | 0, b, h => by cases h
  | k + 1, b, h => by
    unfold kp_mid at h
    by_cases ha : kp_all P n k = true
    · rw [if_pos ha] at h
      cases hm : kp_mid P n k with
      | none =>
        rw [hm] at h
        cases h
        omega
      | some c =>
        rw [hm] at h
        have := kp_mid_lt P n k c hm
        dsimp only at h
        by_cases q : kr_ls (kp_rch P k n) (kp_rch P c n) = true
        · rw [if_pos q] at h; cases h; omega
        · rw [if_neg q] at h; cases h; omega
    · rw [if_neg ha] at h
      have := kp_mid_lt P n k b h
      omega
def kp_me (o : Option Nat) : Int32 := match o with
  | none => -2
  | some b => nI b
def kp_ml (P : Nat → kr_D) (n : Nat) (o : Option Nat) : Option Int := match o with
  | none => none
  | some b => kp_rch P b n
theorem kp_mid_s (P : Nat → kr_D) (n k : Nat) : kp_mid P n (k + 1) = if kp_all P n k = true then (match kp_mid P n k with
    | none => some k
    | some b => if kr_ls (kp_rch P k n) (kp_rch P b n) = true then some k else some b) else kp_mid P n k := rfl
theorem kx_middle {σ : kw_M} {P : Nat → kr_D} {n : Nat} (h : kx_P σ P n) (hP : kp_bd P n) (h2 : 2 ≤ n) (h12 : n ≤ 12) : fX2_middleTown σ = some (kp_me (kp_mid P n n)) := by
  have hr := kw_loop_at (body := fun s => bX2_middleTown_10 σ s.1 s.2.1 s.2.2) (fun k => (kp_me (kp_mid P n k), kx_enc (kp_ml P n (kp_mid P n k)), nI k)) (x := kp_me (kp_mid P n n)) n (fun k hk => by
    show bX2_middleTown_10 σ (kp_me (kp_mid P n k)) (kx_enc (kp_ml P n (kp_mid P n k))) (nI k) = _
    unfold bX2_middleTown_10
    have bk := kp_rch_bd (n := n) (hP k hk) n
    have bl : kr_bd (kp_ml P n (kp_mid P n k)) := by
      cases hm : kp_mid P n k with
      | none => exact kr_bd_none
      | some b =>
        have := kp_mid_lt P n k b hm
        exact kp_rch_bd (n := n) (hP b (by omega)) n
    rw [h.1, if_neg (nI_ge hk (by omega)), kx_toAll h hP hk h12, Option.bind_some, kx_reach h hP hk h12, Option.bind_some, kx_isLess bk bl, Option.bind_some]
    simp only [kx_fl_0, kw_let_def, km_next, Option.bind_some]
    show _ = some (Sum.inl (kp_me (kp_mid P n (k + 1)), kx_enc (kp_ml P n (kp_mid P n (k + 1))), nI (k + 1)))
    rw [kp_mid_s]
    cases ha : kp_all P n k with
    | false => rw [show (!kr_anyTo (fun t => !(P k t).isSome) n) = false from ha, kn_ff, if_neg (by decide)]
    | true =>
      rw [show (!kr_anyTo (fun t => !(P k t).isSome) n) = true from ha, kn_tf, if_pos rfl]
      have hs := kp_all_rch h2 ha
      cases hm : kp_mid P n k with
      | none =>
        have e : kr_ls (kp_rch P k n) (kp_ml P n none) = true := by
          cases hq : kp_rch P k n with
          | none => rw [hq] at hs; cases hs
          | some x => rfl
        rw [e, kn_tf]
        rfl
      | some b =>
        show (if kr_ls (kp_rch P k n) (kp_rch P b n) = false then _ else _) = _
        cases hl : kr_ls (kp_rch P k n) (kp_rch P b n) with
        | false => rw [kn_ff]; dsimp only; rw [hl, if_neg (by decide)]
        | true => rw [kn_tf]; dsimp only; rw [hl, if_pos rfl]; rfl) (by
    show bX2_middleTown_10 σ (kp_me (kp_mid P n n)) (kx_enc (kp_ml P n (kp_mid P n n))) (nI n) = _
    unfold bX2_middleTown_10
    rw [h.1, if_pos (nI_le (Nat.le_refl n) (by omega))]) (by omega)
  have hr' : kw_loop (fun s => bX2_middleTown_10 σ s.1 s.2.1 s.2.2) kw_F ((-2 : Int32), (-9000000000000000000 : Int64), (0 : Int32)) = some (kp_me (kp_mid P n n)) := hr
  unfold fX2_middleTown
  rw [hr']
  rfl
theorem km_middle {σ : kw_M} {P : Nat → kr_D} {n : Nat} (h : km_P σ P n) (hP : kp_bd P n) (h2 : 2 ≤ n) (h12 : n ≤ 12) : kw_loop (fun s => bX10_middle_9 σ s.1 s.2) kw_F ((-2 : Int32), (0 : Int32)) = some (kp_me (kp_mid P n n)) := by
  have hr := kw_loop_at (body := fun s => bX10_middle_9 σ s.1 s.2) (fun k => (kp_me (kp_mid P n k), nI k)) (x := kp_me (kp_mid P n n)) n (fun k hk => by
    show bX10_middle_9 σ (kp_me (kp_mid P n k)) (nI k) = _
    unfold bX10_middle_9 fX10_towns
    have bk := kp_rch_bd (n := n) (hP k hk) n
    rw [h.1, Option.bind_some, if_neg (nI_ge hk (by omega)), km_toAll h hP hk h12, Option.bind_some, km_reach h hP hk h12, Option.bind_some]
    simp only [kx_fl_0, kw_let_def, km_next]
    show _ = some (Sum.inl (kp_me (kp_mid P n (k + 1)), nI (k + 1)))
    rw [kp_mid_s]
    cases ha : kp_all P n k with
    | false => rw [show (!kr_anyTo (fun t => !(P k t).isSome) n) = false from ha, kn_ff, if_neg (by decide)]
    | true =>
      rw [show (!kr_anyTo (fun t => !(P k t).isSome) n) = true from ha, kn_tf, if_pos rfl]
      cases hm : kp_mid P n k with
      | none =>
        rw [if_pos (show kp_me none < 0 by decide)]
        rfl
      | some b =>
        have hb := kp_mid_lt P n k b hm
        have bb := kp_rch_bd (n := n) (hP b (by omega)) n
        rw [if_neg (show ¬ kp_me (some b) < 0 from nI_pos (by omega))]
        show ((fX10_reachOf (nI b) σ).bind fun r10 => _) = _
        rw [km_reach h hP (by omega) h12, Option.bind_some]
        simp only [km_enc_le bb bk]
        cases hl : kr_ls (kp_rch P k n) (kp_rch P b n) with
        | false => rw [kn_ff, if_neg (by decide)]
        | true => rw [kn_tf, if_pos rfl]; rfl) (by
    show bX10_middle_9 σ (kp_me (kp_mid P n n)) (nI n) = _
    unfold bX10_middle_9 fX10_towns
    rw [h.1, Option.bind_some, if_pos (nI_le (Nat.le_refl n) (by omega))]) (by omega)
  exact hr
theorem kx_enc32 (x : Int32) : x.toInt64 = kx_enc (some x.toInt) := by
  apply Int64.toInt_inj.mp
  have h1 := Int32.le_toInt x
  have h2 := Int32.toInt_lt x
  rw [Int32.toInt_toInt64]
  exact (km_toInt (by omega) (by omega)).symm
theorem kr_bd32 (x : Int32) : kr_bd (some x.toInt) := fun z hz => by
  cases hz
  have h1 := Int32.le_toInt x
  have h2 := Int32.toInt_lt x
  omega
/-- the least ring by a town, among the first k roads -/
def kp_ro (F : Nat → Int32) (P : Nat → kr_D) (t r : Nat) : Option Int := kr_plus (some (F (28 + 4 * r + 2)).toInt) (P (F (28 + 4 * r + 1)).toNatClampNeg t)
def kp_rg (F : Nat → Int32) (P : Nat → kr_D) (t : Nat) : Nat → Option Int
  | 0 => none
  | k + 1 => if F (28 + 4 * k + 3) = 1 ∧ (F (28 + 4 * k + 0)).toNatClampNeg = t ∧ kr_ls (kp_ro F P t k) (kp_rg F P t k) = true then kp_ro F P t k else kp_rg F P t k
theorem kp_rg_s (F : Nat → Int32) (P : Nat → kr_D) (t k : Nat) : kp_rg F P t (k + 1) = if F (28 + 4 * k + 3) = 1 ∧ (F (28 + 4 * k + 0)).toNatClampNeg = t ∧ kr_ls (kp_ro F P t k) (kp_rg F P t k) = true then kp_ro F P t k else kp_rg F P t k := rfl
theorem kp_ro_bd {F : Nat → Int32} {P : Nat → kr_D} {n m t r : Nat} (hw : kb_wf F n m) (hP : kp_bd P n) (hr : r < m) : kr_bd (kp_ro F P t r) := by
  obtain ⟨_, _, h1, h2⟩ := hw.2.2.2.1.2.2 r hr
  have hb := hP _ (hw.2.2.2.2 r hr).2.1
  unfold kp_ro
  cases hq : P (F (28 + 4 * r + 1)).toNatClampNeg t with
  | none => exact kr_bd_none
  | some y =>
    have := hb t y hq
    intro z hz
    cases hz
    omega
theorem kp_rg_bd {F : Nat → Int32} {P : Nat → kr_D} {n m t : Nat} (hw : kb_wf F n m) (hP : kp_bd P n) : ∀ k : Nat, k ≤ m → kr_bd (kp_rg F P t k)
  | 0, _ => kr_bd_none
  | k + 1, hk => by
    rw [kp_rg_s]
    by_cases q : F (28 + 4 * k + 3) = 1 ∧ (F (28 + 4 * k + 0)).toNatClampNeg = t ∧ kr_ls (kp_ro F P t k) (kp_rg F P t k) = true
    · rw [if_pos q]; exact kp_ro_bd hw hP (by omega)
    · rw [if_neg q]; exact kp_rg_bd hw hP k (by omega)
theorem kx_ring {σ : kw_M} {F : Nat → Int32} {P : Nat → kr_D} {n m t : Nat} (hrd : kx_rd σ 12 F m) (hw : kb_wf F n m) (h : kx_P σ P n) (hP : kp_bd P n) (ht : t < n) : fX2_ringOf (nI t) σ = some (kx_enc (kp_rg F P t m)) := by
  have hm := hw.2.2.2.1.1
  have h12 := hw.2.2.1
  have hr := kw_loop_at (body := fun s => bX2_ringOf_7 (nI t) σ s.1 s.2) (fun k => (kx_enc (kp_rg F P t k), nI k)) (x := kx_enc (kp_rg F P t m)) m (fun k hk => by
    show bX2_ringOf_7 (nI t) σ (kx_enc (kp_rg F P t k)) (nI k) = _
    unfold bX2_ringOf_7
    obtain ⟨hfr, hto, _, _⟩ := hw.2.2.2.1.2.2 k hk
    obtain ⟨x18, x19, x20⟩ := hrd.2.2.1 k hk
    have e18 : σ.1 18 k = F (28 + 4 * k + 0) := x18
    have e19 : σ.1 19 k = nI (F (28 + 4 * k + 1)).toNatClampNeg := (show σ.1 19 k = F (28 + 4 * k + 1) from x19).trans (kw_in_nI_of hto (by decide))
    have e20 : (σ.1 20 k).toInt64 = kx_enc (some (F (28 + 4 * k + 2)).toInt) := by rw [show σ.1 20 k = F (28 + 4 * k + 2) from x20]; exact kx_enc32 _
    have hton := (hw.2.2.2.2 k hk).2.1
    have b1 := kr_row_bd (hP _ hton) t
    have b2 := kp_ro_bd (t := t) hw hP hk
    have b3 := kp_rg_bd (t := t) hw hP k (by omega)
    rw [hrd.2.1.trans hw.2.2.2.1.2.1, if_neg (nI_ge hk (by omega)), kx_isOpenR hrd hw.2.2.2.1 hk, Option.bind_some, kn_chk (by omega) (by decide), kn_clamp (by omega), e18, e19, kx_P_span h hton h12 (by omega), Option.bind_some, e20, kx_joined (kr_bd32 _) b1, Option.bind_some, show kr_plus (some (F (28 + 4 * k + 2)).toInt) (P (F (28 + 4 * k + 1)).toNatClampNeg t) = kp_ro F P t k from rfl, kx_isLess b2 b3, Option.bind_some]
    simp only [kx_fl_0, kw_let_def, km_next, kw_in_eq hfr (show t < 12 by omega)]
    show _ = some (Sum.inl (kx_enc (kp_rg F P t (k + 1)), nI (k + 1)))
    rw [kp_rg_s]
    by_cases q1 : F (28 + 4 * k + 3) = 1
    · rw [decide_eq_true q1, kn_tf]
      by_cases q2 : (F (28 + 4 * k + 0)).toNatClampNeg = t
      · rw [if_pos q2]
        cases q3 : kr_ls (kp_ro F P t k) (kp_rg F P t k) with
        | false => rw [kn_ff, if_neg (fun z => by cases z.2.2)]
        | true => rw [kn_tf, if_pos ⟨q1, q2, rfl⟩]
      · rw [if_neg q2, if_neg (fun z => q2 z.2.1)]
    · rw [decide_eq_false q1, kn_ff, if_neg (fun z => q1 z.1)]) (by
    show bX2_ringOf_7 (nI t) σ (kx_enc (kp_rg F P t m)) (nI m) = _
    unfold bX2_ringOf_7
    rw [hrd.2.1.trans hw.2.2.2.1.2.1, if_pos (nI_le (Nat.le_refl m) (by omega))]) (by omega)
  have hr' : kw_loop (fun s => bX2_ringOf_7 (nI t) σ s.1 s.2) kw_F ((-9000000000000000000 : Int64), (0 : Int32)) = some (kx_enc (kp_rg F P t m)) := hr
  unfold fX2_ringOf
  rw [hr']
  rfl
theorem km_plus {x : Int32} {y : Int} (hy : kr_bd (some y)) : x.toInt64 + km_enc (some y) = km_enc (some (x.toInt + y)) := by
  rw [Int64.add_comm]
  have h := hy y rfl
  show Int64.ofInt y + x.toInt64 = Int64.ofInt (x.toInt + y)
  rw [km_add h.1 h.2, Int.add_comm]
theorem km_ring {σ : kw_M} {P : Nat → kr_D} {n m t : Nat} (hw : kb_wf (σ.1 1) n m) (h : km_P σ P n) (hP : kp_bd P n) (ht : t < n) : fX10_ringOf (nI t) σ = some (km_enc (kp_rg (σ.1 1) P t m)) := by
  have hm := hw.2.2.2.1.1
  have h12 := hw.2.2.1
  have hr := kw_loop_at (body := fun s => bX10_ringOf_7 (nI t) σ s.1 s.2) (fun k => (km_enc (kp_rg (σ.1 1) P t k), nI k)) (x := km_enc (kp_rg (σ.1 1) P t m)) m (fun k hk => by
    show bX10_ringOf_7 (nI t) σ (km_enc (kp_rg (σ.1 1) P t k)) (nI k) = _
    unfold bX10_ringOf_7
    obtain ⟨hfr, hto, _, _⟩ := hw.2.2.2.1.2.2 k hk
    have eto := kw_in_nI_of hto (by decide)
    have hton := (hw.2.2.2.2 k hk).2.1
    have b1 := kr_row_bd (hP _ hton) t
    have b2 := kp_ro_bd (t := t) hw hP hk
    have b3 := kp_rg_bd (t := t) hw hP k (by omega)
    have hpk := h.2 _ hton t (by omega)
    have eix : (12 : Int32) * σ.1 1 (28 + 4 * k + 1) + nI t = nI (12 * (σ.1 1 (28 + 4 * k + 1)).toNatClampNeg + t) := by
      rw [kn_12, ← nI_add, ← kn_mul, ← eto]
    rw [hw.2.2.2.1.2.1, if_neg (nI_ge hk (by omega)), km_isOpen (by omega), Option.bind_some, km_of0 (by omega), Option.bind_some, km_of1 (by omega), Option.bind_some, km_of2 (by omega), Option.bind_some, Option.bind_some, eix, kn_chk (by omega) (by decide), kn_chk (by omega) (by decide), kn_clamp (by omega), hpk]
    simp only [kw_let_def, km_next, kw_in_eq hfr (show t < 12 by omega), km_enc_e b1]
    show _ = some (Sum.inl (km_enc (kp_rg (σ.1 1) P t (k + 1)), nI (k + 1)))
    rw [kp_rg_s]
    by_cases q1 : σ.1 1 (28 + 4 * k + 3) = 1
    · rw [if_pos q1, if_neg (show ¬ (1 : Int32) = 0 by decide)]
      by_cases q2 : (σ.1 1 (28 + 4 * k + 0)).toNatClampNeg = t
      · rw [if_pos q2]
        unfold kp_ro at b2 ⊢
        cases hq : P (σ.1 1 (28 + 4 * k + 1)).toNatClampNeg t with
        | none => rw [if_pos rfl, if_neg (fun z => by cases z.2.2)]
        | some y =>
          rw [hq] at b1 b2
          rw [if_neg (by simp), km_plus b1]
          have e2 : kr_plus (some (σ.1 1 (28 + 4 * k + 2)).toInt) (some y) = some ((σ.1 1 (28 + 4 * k + 2)).toInt + y) := rfl
          rw [e2] at b2 ⊢
          simp only [km_enc_le b3 b2]
          cases q3 : kr_ls (some ((σ.1 1 (28 + 4 * k + 2)).toInt + y)) (kp_rg (σ.1 1) P t k) with
          | false => rw [kn_ff, if_neg (fun z => by cases z.2.2)]
          | true => rw [kn_tf, if_pos ⟨q1, q2, rfl⟩]
      · rw [if_neg q2, if_neg (fun z => q2 z.2.1)]
    · rw [if_neg q1, if_pos rfl, if_neg (fun z => q1 z.1)]) (by
    show bX10_ringOf_7 (nI t) σ (km_enc (kp_rg (σ.1 1) P t m)) (nI m) = _
    unfold bX10_ringOf_7
    rw [hw.2.2.2.1.2.1, if_pos (nI_le (Nat.le_refl m) (by omega))]) (by omega)
  have hr' : kw_loop (fun s => bX10_ringOf_7 (nI t) σ s.1 s.2) kw_F ((900000000000000000 : Int64), (0 : Int32)) = some (km_enc (kp_rg (σ.1 1) P t m)) := hr
  unfold fX10_ringOf
  rw [hr']
  rfl
