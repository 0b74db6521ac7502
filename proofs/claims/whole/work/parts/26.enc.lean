/-! How lengths are written: comparisons of both ways of writing. -/
def kr_bd (o : Option Int) : Prop := ∀ z, o = some z → -10000000000000000 ≤ z ∧ z ≤ 10000000000000000
theorem kr_bd_in {d : kr_D} {B : Int} (h : kr_in d B) (hB : B ≤ 10000000000000000) (t : Nat) : kr_bd (d t) := fun z hz => by
  have := h t z hz
  omega
theorem kr_bd_none : kr_bd none := fun z hz => by cases hz
theorem km_enc_i {z : Int} (h : kr_bd (some z)) : (km_enc (some z)).toInt = z := km_toInt (h z rfl).1 (h z rfl).2
theorem kx_enc_i {z : Int} (h : kr_bd (some z)) : (kx_enc (some z)).toInt = z := km_toInt (h z rfl).1 (h z rfl).2
theorem km_enc_n : (km_enc none).toInt = 900000000000000000 := km_far
theorem km_enc_eq {a b : Option Int} (ha : kr_bd a) (hb : kr_bd b) : (km_enc a = km_enc b) = (a = b) := by
  refine propext ⟨fun h => ?_, fun h => by rw [h]⟩
  have h2 := congrArg Int64.toInt h
  cases a with
  | none =>
    cases b with
    | none => rfl
    | some y =>
      rw [km_enc_n, km_enc_i hb] at h2
      have := hb y rfl
      omega
  | some x =>
    cases b with
    | none =>
      rw [km_enc_n, km_enc_i ha] at h2
      have := ha x rfl
      omega
    | some y =>
      rw [km_enc_i ha, km_enc_i hb] at h2
      rw [h2]
theorem kx_enc_eq {a b : Option Int} (ha : kr_bd a) (hb : kr_bd b) : (kx_enc a = kx_enc b) = (a = b) := by
  refine propext ⟨fun h => ?_, fun h => by rw [h]⟩
  cases b with
  | none => exact (kx_enc_no ha).mp h
  | some y =>
    cases a with
    | none => exact ((kx_enc_no hb).mp h.symm).symm
    | some x =>
      have h2 := congrArg Int64.toInt h
      rw [kx_enc_i ha, kx_enc_i hb] at h2
      rw [h2]
theorem kx_enc_e {a : Option Int} (ha : kr_bd a) : (kx_enc a = -9000000000000000000) = (a = none) := propext (kx_enc_no ha)
theorem km_enc_e {a : Option Int} (ha : kr_bd a) : (km_enc a = 900000000000000000) = (a = none) := propext (km_enc_far ha)
theorem km_enc_le {a b : Option Int} (ha : kr_bd a) (hb : kr_bd b) : (km_enc a ≤ km_enc b) = (kr_ls b a = false) := by
  refine propext ?_
  rw [Int64.le_iff_toInt_le]
  cases a with
  | none =>
    cases b with
    | none => simp [kr_ls]
    | some y =>
      rw [km_enc_n, km_enc_i hb]
      have := hb y rfl
      simp only [kr_ls, Bool.true_eq_false, iff_false]
      omega
  | some x =>
    have h1 := ha x rfl
    cases b with
    | none =>
      rw [km_enc_n, km_enc_i ha]
      simp only [kr_ls, iff_true]
      omega
    | some y =>
      rw [km_enc_i ha, km_enc_i hb]
      simp only [kr_ls, decide_eq_false_iff_not]
      omega
theorem km_enc_lt {a b : Option Int} (ha : kr_bd a) (hb : kr_bd b) : (km_enc a < km_enc b) = (kr_ls a b = true) := by
  refine propext ?_
  rw [← Bool.not_eq_false, ← km_enc_le hb ha]
  exact (Int64.not_le).symm
theorem km_enc_ge {a : Option Int} (ha : kr_bd a) : (900000000000000000 ≤ km_enc a) = (a = none) := by
  refine propext ?_
  rw [Int64.le_iff_toInt_le, km_far]
  cases a with
  | none => rw [km_enc_n]; simp
  | some x =>
    have h1 := ha x rfl
    rw [km_enc_i ha]
    simp only [reduceCtorEq, iff_false]
    omega
theorem km_enc_ltf {a : Option Int} (ha : kr_bd a) : (km_enc a < 900000000000000000) = (a ≠ none) := by
  refine propext ?_
  rw [← Int64.not_le, km_enc_ge ha]
theorem km_enc_bey {a : Option Int} (ha : kr_bd a) (x : Int32) : (km_enc a ≤ x.toInt64) = (kb_bey a x = false) := by
  refine propext ?_
  rw [Int64.le_iff_toInt_le, Int32.toInt_toInt64]
  have h1 := Int32.le_toInt x
  have h2 := Int32.toInt_lt x
  cases a with
  | none =>
    rw [km_enc_n]
    simp only [kb_bey, Bool.true_eq_false, iff_false]
    omega
  | some z =>
    rw [km_enc_i ha]
    simp only [kb_bey, decide_eq_false_iff_not]
    omega
theorem kx_enc_bey {z : Int} (ha : kr_bd (some z)) (x : Int32) : (kx_enc (some z) ≤ x.toInt64) = (kb_bey (some z) x = false) := by
  refine propext ?_
  rw [Int64.le_iff_toInt_le, Int32.toInt_toInt64, kx_enc_i ha]
  simp only [kb_bey, decide_eq_false_iff_not]
  omega
theorem kx_isLess {a b : Option Int} (ha : kr_bd a) (hb : kr_bd b) (σ : kw_M) : fX9_isLess (kx_enc a) (kx_enc b) σ = some (kx_fl (kr_ls a b)) := by
  unfold fX9_isLess
  simp only [kx_enc_e ha, kx_enc_e hb]
  cases a with
  | none => rw [if_pos rfl]; rfl
  | some x =>
    rw [if_neg (by simp)]
    cases b with
    | none => rw [if_pos rfl]; rfl
    | some y =>
      rw [if_neg (by simp)]
      simp only [Int64.le_iff_toInt_le, kx_enc_i ha, kx_enc_i hb]
      by_cases h : y ≤ x
      · rw [if_pos h, show kr_ls (some x) (some y) = false by simp only [kr_ls, decide_eq_false_iff_not]; omega]; rfl
      · rw [if_neg h, show kr_ls (some x) (some y) = true by simp only [kr_ls, decide_eq_true_eq]; omega]; rfl
/-- two lengths one behind the other -/
def kr_plus (a b : Option Int) : Option Int := match a, b with
  | some x, some y => some (x + y)
  | _, _ => none
theorem kx_joined {a b : Option Int} (ha : kr_bd a) (hb : kr_bd b) (σ : kw_M) : fX9_joined (kx_enc a) (kx_enc b) σ = some (kx_enc (kr_plus a b)) := by
  unfold fX9_joined
  simp only [kx_enc_e ha, kx_enc_e hb]
  cases a with
  | none => rw [if_pos rfl]; rfl
  | some x =>
    rw [if_neg (by simp)]
    cases b with
    | none => rw [if_pos rfl]; rfl
    | some y =>
      rw [if_neg (by simp)]
      have h1 := ha x rfl
      have h2 := hb y rfl
      refine congrArg some (Int64.toInt_inj.mp ?_)
      have e : (kx_enc (kr_plus (some x) (some y))).toInt = x + y := Int64.toInt_ofInt_of_le (by omega) (by omega)
      rw [e]
      have := Jvm.Kit.i64_add (x := kx_enc (some x)) (y := kx_enc (some y)) (by rw [kx_enc_i ha, kx_enc_i hb]; omega) (by rw [kx_enc_i ha, kx_enc_i hb]; omega)
      rw [this, kx_enc_i ha, kx_enc_i hb]
theorem km_told {a : Option Int} (ha : kr_bd a) (σ : kw_M) : fX10_told (km_enc a) σ = some (kx_enc a) := by
  unfold fX10_told
  simp only [km_enc_ltf ha]
  cases a with
  | none => rw [if_neg (by simp)]; rfl
  | some x => rw [if_pos (by simp)]; rfl
theorem km_in (a b c : Int64) (σ : kw_M) : fX10_in a b c σ = some (kx_fl (decide (b.toInt ≤ a.toInt ∧ a.toInt ≤ c.toInt))) := by
  unfold fX10_in
  simp only [Int64.lt_iff_toInt_lt]
  by_cases h1 : a.toInt < b.toInt
  · rw [if_pos h1, decide_eq_false (by omega)]; rfl
  · rw [if_neg h1]
    by_cases h2 : c.toInt < a.toInt
    · rw [if_pos h2, decide_eq_false (by omega)]; rfl
    · rw [if_neg h2, decide_eq_true (by omega)]; rfl
