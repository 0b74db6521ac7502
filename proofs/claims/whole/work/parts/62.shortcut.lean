/-! shortcut: what one more road would save. -/
theorem kw_subL {a b : Int} (ha1 : -10000000000000000 ≤ a) (ha2 : a ≤ 10000000000000000) (hb1 : -10000000000000000 ≤ b) (hb2 : b ≤ 10000000000000000) : Int64.ofInt a - Int64.ofInt b = Int64.ofInt (a - b) := by
  apply Int64.toInt_inj.mp
  rw [Jvm.Kit.i64_sub (by rw [km_toInt ha1 ha2, km_toInt hb1 hb2]; omega) (by rw [km_toInt ha1 ha2, km_toInt hb1 hb2]; omega), km_toInt ha1 ha2, km_toInt hb1 hb2, Int64.toInt_ofInt_of_le (by omega) (by omega)]
theorem kw_64of (x : Int32) : x.toInt64 = Int64.ofInt x.toInt := kx_enc32 x
/-- what town t saves -/
def kp_s1 (P : Nat → kr_D) (D : kr_D) (L : Int) (a b t : Nat) : Int := match D a, D t, P b t with
  | some x, some y, some z => if y ≤ x + L + z then 0 else y - (x + L + z)
  | _, _, _ => 0
def kp_sv (P : Nat → kr_D) (D : kr_D) (L : Int) (a b : Nat) : Nat → Int
  | 0 => 0
  | k + 1 => kp_sv P D L a b k + kp_s1 P D L a b k
def kp_bring (P : Nat → kr_D) (L : Int) (a b : Nat) : Bool := match P b a with
  | none => false
  | some z => decide (z + L ≤ 0)
/-- what a road from a to b saves, all towns together -/
def kp_v (P : Nat → kr_D) (D : kr_D) (L : Int) (n a b : Nat) : Int := if a = b ∨ D a = none ∨ kp_bring P L a b = true then 0 else kp_sv P D L a b n
theorem kp_s1_bd {P : Nat → kr_D} {D : kr_D} {L : Int} {n a b t : Nat} (hP : kp_bt P n) (hD : kr_in D 400000000000) (hL : -1000000000 ≤ L ∧ L ≤ 1000000000) (hb : b < n) : 0 ≤ kp_s1 P D L a b t ∧ kp_s1 P D L a b t ≤ 2000000000000 := by
  unfold kp_s1
  cases h1 : D a with
  | none => exact (show (0 : Int) ≤ 0 ∧ (0 : Int) ≤ 2000000000000 by decide)
  | some x =>
    cases h2 : D t with
    | none => exact (show (0 : Int) ≤ 0 ∧ (0 : Int) ≤ 2000000000000 by decide)
    | some y =>
      cases h3 : P b t with
      | none => exact (show (0 : Int) ≤ 0 ∧ (0 : Int) ≤ 2000000000000 by decide)
      | some z =>
        have e1 := hD a x h1
        have e2 := hD t y h2
        have e3 := hP b hb t z h3
        dsimp only
        by_cases q : y ≤ x + L + z
        · rw [if_pos q]; omega
        · rw [if_neg q]; omega
theorem kp_sv_bd {P : Nat → kr_D} {D : kr_D} {L : Int} {n a b : Nat} (hP : kp_bt P n) (hD : kr_in D 400000000000) (hL : -1000000000 ≤ L ∧ L ≤ 1000000000) (hb : b < n) : ∀ k : Nat, 0 ≤ kp_sv P D L a b k ∧ kp_sv P D L a b k ≤ k * 2000000000000
  | 0 => by unfold kp_sv; omega
  | k + 1 => by
    have h1 := kp_sv_bd hP hD hL hb (a := a) k
    have h2 := kp_s1_bd hP hD hL hb (a := a) (t := k)
    unfold kp_sv
    omega
theorem kx_savedBy {σ : kw_M} {P : Nat → kr_D} {D : kr_D} {n a b : Nat} {L : Int32} (h : kx_P σ P n) (hP : kp_bt P n) (hn : σ.1 12 0 = nI n) (h12 : n ≤ 12) (hrow : ∀ t, t < 12 → σ.2 16 t = kx_enc (D t)) (hD : kr_in D 400000000000) (hL : -1000000000 ≤ L.toInt ∧ L.toInt ≤ 1000000000) (ha : a < n) (hb : b < n) (hDa : D a ≠ none) : fX9_savedBy (nI a) (nI b) L σ = some (Int64.ofInt (kp_sv P D L.toInt a b n)) := by
  have hDr : kr_row D := kr_in_mono hD (by decide)
  have hr := kw_loop_at (body := fun s => bX9_savedBy_6 (nI a) (nI b) L σ s.1 s.2) (fun k => (Int64.ofInt (kp_sv P D L.toInt a b k), nI k)) (x := Int64.ofInt (kp_sv P D L.toInt a b n)) n (fun k hk => by
    show bX9_savedBy_6 (nI a) (nI b) L σ (Int64.ofInt (kp_sv P D L.toInt a b k)) (nI k) = _
    unfold bX9_savedBy_6
    have b1 := kp_sv_bd hP hD hL hb (a := a) k
    have hk12 : (k : Int) ≤ 12 := by omega
    rw [hn, if_neg (nI_ge hk (by omega)), kx_P_span h hb h12 (by omega), Option.bind_some, kx_hasDistance (hrow k (by omega)) (kr_row_bd hDr k) (by omega), Option.bind_some]
    simp (disch := omega) only [kx_enc_e (kr_row_bd (kp_bt_bd hP b hb) k), kx_fl_0, kw_let_def, km_next, kn_chk, kn_clamp, hrow]
    show _ = some (Sum.inl (Int64.ofInt (kp_sv P D L.toInt a b k + kp_s1 P D L.toInt a b k), nI (k + 1)))
    have z0 : ∀ v : Int, v = 0 → Int64.ofInt (kp_sv P D L.toInt a b k + v) = Int64.ofInt (kp_sv P D L.toInt a b k) := fun v hv => by rw [hv, Int.add_zero]
    unfold kp_s1
    cases h3 : P b k with
    | none =>
      rw [if_pos rfl]
      cases h1 : D a <;> cases h2 : D k <;> rw [z0 _ rfl]
    | some z =>
      rw [if_neg (by simp)]
      have e3 := hP b hb k z h3
      cases h2 : D k with
      | none =>
        rw [if_pos (show Option.isSome (none : Option Int) = false from rfl)]
        cases h1 : D a <;> rw [z0 _ rfl]
      | some y =>
        rw [if_neg (show ¬ Option.isSome (some y) = false by simp)]
        cases h1 : D a with
        | none => exact absurd h1 hDa
        | some x =>
          have e1 := hD a x h1
          have e2 := hD k y h2
          dsimp only
          rw [show kx_enc (some x) = Int64.ofInt x from rfl, show kx_enc (some y) = Int64.ofInt y from rfl, show kx_enc (some z) = Int64.ofInt z from rfl, kw_64of, kw_addL (by omega) (by omega) (by omega) (by omega), kw_addL (by omega) (by omega) (by omega) (by omega), kw_subL (by omega) (by omega) (by omega) (by omega)]
          have hs : (Int64.ofInt (y - (x + L.toInt + z))).toInt = y - (x + L.toInt + z) := km_toInt (by omega) (by omega)
          simp only [Int64.lt_iff_toInt_lt, hs, show (0 : Int64).toInt = 0 by decide]
          by_cases q : y ≤ x + L.toInt + z
          · rw [if_pos q]
            by_cases q2 : y - (x + L.toInt + z) < 0
            · rw [if_pos q2, show (0 : Int64) = Int64.ofInt 0 by decide, kw_addL (by omega) (by omega) (by decide) (by decide)]
            · rw [if_neg q2, show y - (x + L.toInt + z) = 0 by omega, kw_addL (by omega) (by omega) (by decide) (by decide)]
          · rw [if_neg q, if_neg (by omega), kw_addL (by omega) (by omega) (by omega) (by omega)]) (by
    show bX9_savedBy_6 (nI a) (nI b) L σ (Int64.ofInt (kp_sv P D L.toInt a b n)) (nI n) = _
    unfold bX9_savedBy_6
    rw [hn, if_pos (nI_le (Nat.le_refl n) (by omega))]) (by omega)
  have hr' : kw_loop (fun s => bX9_savedBy_6 (nI a) (nI b) L σ s.1 s.2) kw_F ((0 : Int64), (0 : Int32)) = some (Int64.ofInt (kp_sv P D L.toInt a b n)) := hr
  unfold fX9_savedBy
  rw [hr']
  rfl
theorem km_savedBy {σ : kw_M} {P : Nat → kr_D} {D : kr_D} {n a b : Nat} {L : Int32} (h : km_P σ P n) (hP : kp_bt P n) (h12 : n ≤ 12) (hrow : ∀ t, t < 12 → σ.2 3 t = km_enc (D t)) (hD : kr_in D 400000000000) (hL : -1000000000 ≤ L.toInt ∧ L.toInt ≤ 1000000000) (ha : a < n) (hb : b < n) (hDa : D a ≠ none) : fX10_savedBy (nI a) (nI b) L σ = some (Int64.ofInt (if kp_bring P L.toInt a b = true then 0 else kp_sv P D L.toInt a b n)) := by
  have hDr : kr_row D := kr_in_mono hD (by decide)
  have hr := kw_loop_at (body := fun s => bX10_savedBy_45 (nI a) (nI b) L σ s.1 s.2) (fun k => (Int64.ofInt (kp_sv P D L.toInt a b k), nI k)) (x := Int64.ofInt (kp_sv P D L.toInt a b n)) n (fun k hk => by
    show bX10_savedBy_45 (nI a) (nI b) L σ (Int64.ofInt (kp_sv P D L.toInt a b k)) (nI k) = _
    unfold bX10_savedBy_45 fX10_towns
    have b1 := kp_sv_bd hP hD hL hb (a := a) k
    have hk12 : (k : Int) ≤ 12 := by omega
    have hpk := h.2 b hb k (by omega)
    rw [h.1, Option.bind_some, if_neg (nI_ge hk (by omega))]
    simp (disch := omega) only [kn_12, kn_mul, nI_add, kn_chk, kn_clamp, hpk, hrow, km_enc_e (kr_row_bd hDr _), km_enc_e (kr_row_bd (kp_bt_bd hP b hb) k), kw_let_def, km_next]
    show _ = some (Sum.inl (Int64.ofInt (kp_sv P D L.toInt a b k + kp_s1 P D L.toInt a b k), nI (k + 1)))
    have z0 : ∀ v : Int, v = 0 → Int64.ofInt (kp_sv P D L.toInt a b k + v) = Int64.ofInt (kp_sv P D L.toInt a b k) := fun v hv => by rw [hv, Int.add_zero]
    unfold kp_s1
    cases h2 : D k with
    | none =>
      rw [if_pos rfl]
      cases h1 : D a <;> cases h3 : P b k <;> rw [z0 _ rfl]
    | some y =>
      rw [if_neg (by simp)]
      cases h3 : P b k with
      | none =>
        rw [if_pos rfl]
        cases h1 : D a <;> rw [z0 _ rfl]
      | some z =>
        rw [if_neg (by simp)]
        have e3 := hP b hb k z h3
        cases h1 : D a with
        | none => exact absurd h1 hDa
        | some x =>
          have e1 := hD a x h1
          have e2 := hD k y h2
          dsimp only
          rw [show km_enc (some x) = Int64.ofInt x from rfl, show km_enc (some y) = Int64.ofInt y from rfl, show km_enc (some z) = Int64.ofInt z from rfl, kw_64of, kw_addL (by omega) (by omega) (by omega) (by omega), kw_addL (by omega) (by omega) (by omega) (by omega), kw_addL (by omega) (by omega) (by omega) (by omega), kw_subL (by omega) (by omega) (by omega) (by omega)]
          have hs : (Int64.ofInt (x + L.toInt + z)).toInt = x + L.toInt + z := km_toInt (by omega) (by omega)
          have hy : (Int64.ofInt y).toInt = y := km_toInt (by omega) (by omega)
          simp only [Int64.le_iff_toInt_le, hs, hy]
          by_cases q : y ≤ x + L.toInt + z
          · rw [if_pos q, if_pos q, Int.add_zero]
          · rw [if_neg q, if_neg q, show kp_sv P D L.toInt a b k + y - (x + L.toInt + z) = kp_sv P D L.toInt a b k + (y - (x + L.toInt + z)) by omega]) (by
    show bX10_savedBy_45 (nI a) (nI b) L σ (Int64.ofInt (kp_sv P D L.toInt a b n)) (nI n) = _
    unfold bX10_savedBy_45 fX10_towns
    rw [h.1, Option.bind_some, if_pos (nI_le (Nat.le_refl n) (by omega))]) (by omega)
  have hr' : jX10_savedBy_39 (nI a) (nI b) L σ = some (Int64.ofInt (kp_sv P D L.toInt a b n)) := by
    have hr2 : kw_loop (fun s => bX10_savedBy_45 (nI a) (nI b) L σ s.1 s.2) kw_F ((0 : Int64), (0 : Int32)) = some (Int64.ofInt (kp_sv P D L.toInt a b n)) := hr
    unfold jX10_savedBy_39
    rw [hr2]
    rfl
  unfold fX10_savedBy
  have hpa := h.2 b hb a (by omega)
  simp (disch := omega) only [kn_12, kn_mul, nI_add, kn_chk, kn_clamp, hpa, hr', km_enc_ge (kr_row_bd (kp_bt_bd hP b hb) a)]
  cases h3 : P b a with
  | none =>
    have hb0 : kp_bring P L.toInt a b = false := by unfold kp_bring; rw [h3]
    rw [if_pos rfl, hb0, kn_ft]
  | some z =>
    have e3 := hP b hb a z h3
    have hb0 : kp_bring P L.toInt a b = decide (z + L.toInt ≤ 0) := by unfold kp_bring; rw [h3]
    rw [if_neg (by simp), show km_enc (some z) = Int64.ofInt z from rfl, kw_64of, kw_addL (by omega) (by omega) (by omega) (by omega), hb0]
    have hs : (Int64.ofInt (z + L.toInt)).toInt = z + L.toInt := km_toInt (by omega) (by omega)
    simp only [Int64.lt_iff_toInt_lt, hs, show (0 : Int64).toInt = 0 by decide]
    by_cases q : 0 < z + L.toInt
    · rw [if_pos q, decide_eq_false (show ¬ z + L.toInt ≤ 0 by omega), kn_ft]
    · rw [if_neg q, decide_eq_true (show z + L.toInt ≤ 0 by omega), kn_tt]
      rfl
theorem kx_bring {σ : kw_M} {P : Nat → kr_D} {n a b : Nat} {L : Int32} (h : kx_P σ P n) (hP : kp_bt P n) (h12 : n ≤ 12) (ha : a < n) (hb : b < n) (hL : -1000000000 ≤ L.toInt ∧ L.toInt ≤ 1000000000) : fX2_wouldMakeBadRing (nI a) (nI b) L σ = some (kx_fl (kp_bring P L.toInt a b)) := by
  unfold fX2_wouldMakeBadRing
  rw [kx_P_comes h (kp_bt_bd hP) hb h12 (by omega), Option.bind_some, kx_P_span h hb h12 (by omega), Option.bind_some]
  simp only [kx_fl_0]
  unfold kp_bring
  cases h3 : P b a with
  | none => rw [if_pos (show Option.isSome (none : Option Int) = false from rfl)]; rfl
  | some z =>
    have e3 := hP b hb a z h3
    rw [if_neg (show ¬ Option.isSome (some z) = false by simp), show kx_enc (some z) = Int64.ofInt z from rfl, kw_64of, kw_addL (by omega) (by omega) (by omega) (by omega)]
    have hs : (Int64.ofInt (z + L.toInt)).toInt = z + L.toInt := km_toInt (by omega) (by omega)
    simp only [Int64.lt_iff_toInt_lt, hs, show (0 : Int64).toInt = 0 by decide]
    by_cases q : 0 < z + L.toInt
    · rw [if_pos q, decide_eq_false (by omega)]; rfl
    · rw [if_neg q, decide_eq_true (by omega)]; rfl
def kp_st (v : Nat → Nat → Int) (a b : Nat) (s : Int × Nat × Nat) : Int × Nat × Nat := if s.1 < v a b then (v a b, a, b) else s
def kp_ro2 (v : Nat → Nat → Int) (a : Nat) (s : Int × Nat × Nat) : Nat → Int × Nat × Nat
  | 0 => s
  | b + 1 => kp_st v a b (kp_ro2 v a s b)
def kp_sc (v : Nat → Nat → Int) (n : Nat) : Nat → Int × Nat × Nat
  | 0 => (0, 0, 0)
  | a + 1 => kp_ro2 v a (kp_sc v n a) n
def kp_ok3 (n : Nat) (s : Int × Nat × Nat) : Prop := 0 ≤ s.1 ∧ s.1 ≤ 100000000000000 ∧ s.2.1 < n ∧ s.2.2 < n
theorem kp_v_bd {P : Nat → kr_D} {D : kr_D} {L : Int} {n a b : Nat} (hP : kp_bt P n) (hD : kr_in D 400000000000) (hL : -1000000000 ≤ L ∧ L ≤ 1000000000) (hb : b < n) (h12 : n ≤ 12) : 0 ≤ kp_v P D L n a b ∧ kp_v P D L n a b ≤ 100000000000000 := by
  unfold kp_v
  have h1 := kp_sv_bd hP hD hL hb (a := a) n
  have : (n : Int) ≤ 12 := by omega
  by_cases q : a = b ∨ D a = none ∨ kp_bring P L a b = true
  · rw [if_pos q]; omega
  · rw [if_neg q]; omega
theorem kp_st_ok {v : Nat → Nat → Int} {n a b : Nat} {s : Int × Nat × Nat} (hv : 0 ≤ v a b ∧ v a b ≤ 100000000000000) (ha : a < n) (hb : b < n) (h : kp_ok3 n s) : kp_ok3 n (kp_st v a b s) := by
  unfold kp_st
  by_cases q : s.1 < v a b
  · rw [if_pos q]; exact ⟨hv.1, hv.2, ha, hb⟩
  · rw [if_neg q]; exact h
theorem kp_ro2_ok {v : Nat → Nat → Int} {n a : Nat} {s : Int × Nat × Nat} (hv : ∀ b, b < n → 0 ≤ v a b ∧ v a b ≤ 100000000000000) (ha : a < n) (h : kp_ok3 n s) : ∀ b : Nat, b ≤ n → kp_ok3 n (kp_ro2 v a s b)
  | 0, _ => h
  | b + 1, hb => kp_st_ok (hv b (by omega)) ha (by omega) (kp_ro2_ok hv ha h b (by omega))
theorem kp_sc_ok {v : Nat → Nat → Int} {n : Nat} (hn : 0 < n) (hv : ∀ a b, a < n → b < n → 0 ≤ v a b ∧ v a b ≤ 100000000000000) : ∀ a : Nat, a ≤ n → kp_ok3 n (kp_sc v n a)
  | 0, _ => ⟨Int.le_refl 0, (show (0 : Int) ≤ 100000000000000 by decide), hn, hn⟩
  | a + 1, ha => kp_ro2_ok (fun b hb => hv a b (by omega) hb) (by omega) (kp_sc_ok hn hv a (by omega)) n (Nat.le_refl _)
