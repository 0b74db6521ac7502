/-! The reference's finds: one road, one round, all rounds. -/
theorem km_toInt {z : Int} (h1 : -10000000000000000 ≤ z) (h2 : z ≤ 10000000000000000) : (Int64.ofInt z).toInt = z := Int64.toInt_ofInt_of_le (by omega) (by omega)
theorem km_far : (900000000000000000 : Int64).toInt = 900000000000000000 := by decide
theorem km_enc_far {o : Option Int} (h : ∀ z, o = some z → -10000000000000000 ≤ z ∧ z ≤ 10000000000000000) : km_enc o = 900000000000000000 ↔ o = none := by
  cases o with
  | none => exact ⟨fun _ => rfl, fun _ => rfl⟩
  | some z =>
    refine ⟨fun q => ?_, fun q => by cases q⟩
    have h1 := h z rfl
    have h2 := congrArg Int64.toInt q
    rw [km_far] at h2
    have h3 : (Int64.ofInt z).toInt = z := km_toInt h1.1 h1.2
    have h4 : z = 900000000000000000 := h3.symm.trans h2
    omega
theorem km_add {a : Int} {x : Int32} (h1 : -10000000000000000 ≤ a) (h2 : a ≤ 10000000000000000) : Int64.ofInt a + x.toInt64 = Int64.ofInt (a + x.toInt) := by
  have hx1 := Int32.le_toInt x
  have hx2 := Int32.toInt_lt x
  apply Int64.toInt_inj.mp
  have h3 := km_toInt h1 h2
  have h4 := Int32.toInt_toInt64 x
  rw [Jvm.Kit.i64_add (by rw [h3, h4]; omega) (by rw [h3, h4]; omega), h3, h4, Int64.toInt_ofInt_of_le (by omega) (by omega)]
/-- the roads of the reference's file, but one -/
def km_gr (F : Nat → Int32) (m : Nat) (but : Int32) : kr_G := (m, fun r => (F (28 + 4 * r + 0)).toNatClampNeg, fun r => (F (28 + 4 * r + 1)).toNatClampNeg, fun r => (F (28 + 4 * r + 2)).toInt, fun r => decide (F (28 + 4 * r + 3) = 1 ∧ ¬ nI r = but))
def km_wf (F : Nat → Int32) (m : Nat) : Prop := m ≤ 36 ∧ F 1 = nI m ∧ ∀ r, r < m → kw_in (F (28 + 4 * r + 0)) 12 ∧ kw_in (F (28 + 4 * r + 1)) 12 ∧ -1000000000 ≤ (F (28 + 4 * r + 2)).toInt ∧ (F (28 + 4 * r + 2)).toInt ≤ 1000000000
theorem kw_in_lt {i : Int32} {n : Nat} (h : kw_in i n) : i.toNatClampNeg < n := Nat.not_le.mp fun q => h (Or.inr q)
theorem km_row_at {σ : kw_M} {d : kr_D} {t : Nat} (h : t < 12) : (km_row σ d).2 2 t = km_enc (d t) := by
  unfold km_row
  rw [kw_rl_2, if_pos h]
theorem km_row_set {σ : kw_M} {d : kr_D} {t : Nat} (h : t < 12) (z : Int) : kw_sl (km_row σ d) 2 t (Int64.ofInt z) = km_row σ (kr_set d t z) := by
  unfold km_row kw_sl
  refine Prod.ext rfl ?_
  funext c
  by_cases hc : c = 2
  · subst hc
    simp only [kw_rl, if_true]
    funext j
    unfold vp_updL kr_set
    dsimp only
    by_cases hj : j = t
    · subst hj
      rw [if_pos rfl, if_pos h, if_pos rfl]
      rfl
    · rw [if_neg hj]
      by_cases h2 : j < 12
      · rw [if_pos h2, if_pos h2, if_neg hj]
      · rw [if_neg h2, if_neg h2]
  · simp only [kw_rl, hc, if_false]
theorem km_next (r : Nat) : nI r + (1 : Int32) = nI (r + 1) := by rw [show (1 : Int32) = nI 1 by decide, nI_add]
theorem km_finds_r {σ : kw_M} {d : kr_D} {m r : Nat} {but v3 : Int32} (hw : km_wf (σ.1 1) m) (hr : r < m) (hB : kr_in d 1000000000000000) : bX10_finds_45 but v3 (nI r) (km_row σ d) = some (.inl (nI (r + 1), km_row σ (kr_rlx (km_gr (σ.1 1) m but) d r))) := by
  obtain ⟨hm, h1, hrd⟩ := hw
  obtain ⟨hf, ht, hl1, hl2⟩ := hrd r hr
  have hB' : ∀ t z, d t = some z → -10000000000000000 ≤ z ∧ z ≤ 10000000000000000 := fun t z hz => by have := hB t z hz; omega
  have hf' := kw_in_lt hf
  have ht' := kw_in_lt ht
  unfold bX10_finds_45
  rw [show (km_row σ d).1 1 1 = nI m from h1, if_neg (nI_ge hr (by omega))]
  by_cases hb : nI r = but
  · have e : kr_rlx (km_gr (σ.1 1) m but) d r = d := by
      unfold kr_rlx
      rw [if_neg]
      show ¬ decide (σ.1 1 (28 + 4 * r + 3) = 1 ∧ ¬ nI r = but) = true
      simp [hb]
    rw [if_pos hb, kw_let_def, km_next, e]
  · rw [if_neg hb, km_isOpen (by omega)]
    show (if (if (km_row σ d).1 1 (28 + 4 * r + 3) = 1 then (1 : Int32) else 0) = 0 then _ else _) = _
    rw [show (km_row σ d).1 = σ.1 from rfl]
    by_cases ho : σ.1 1 (28 + 4 * r + 3) = 1
    · rw [if_pos ho, if_neg (by decide)]
      have hu : (km_gr (σ.1 1) m but).2.2.2.2 r = true := by
        show decide (σ.1 1 (28 + 4 * r + 3) = 1 ∧ ¬ nI r = but) = true
        simp [ho, hb]
      have o0 := km_of (σ := km_row σ d) (r := r) (w := 0) (by omega) (by decide)
      have o1 := km_of (σ := km_row σ d) (r := r) (w := 1) (by omega) (by decide)
      have o2 := km_of (σ := km_row σ d) (r := r) (w := 2) (by omega) (by decide)
      rw [show nI 0 = (0 : Int32) by decide] at o0
      rw [show nI 1 = (1 : Int32) by decide] at o1
      rw [show nI 2 = (2 : Int32) by decide] at o2
      rw [show (km_row σ d).1 = σ.1 from rfl] at o0 o1 o2
      simp only [o0, o1, o2, Option.bind_some, kw_chk_t hf, kw_chk_t ht, kw_let_def, km_row_at hf', km_row_at ht', km_next]
      unfold kr_rlx
      rw [if_pos hu]
      show _ = some (Sum.inl (nI (r + 1), km_row σ (match d (σ.1 1 (28 + 4 * r + 0)).toNatClampNeg, d (σ.1 1 (28 + 4 * r + 1)).toNatClampNeg with
        | none, _ => d
        | some a, none => kr_set d (σ.1 1 (28 + 4 * r + 1)).toNatClampNeg (a + (σ.1 1 (28 + 4 * r + 2)).toInt)
        | some a, some b => if a + (σ.1 1 (28 + 4 * r + 2)).toInt < b then kr_set d (σ.1 1 (28 + 4 * r + 1)).toNatClampNeg (a + (σ.1 1 (28 + 4 * r + 2)).toInt) else d)))
      cases ha : d (σ.1 1 (28 + 4 * r + 0)).toNatClampNeg with
      | none =>
        rw [if_pos ((km_enc_far (fun z hz => by cases hz)).mpr rfl)]
      | some a =>
        have hab := hB _ _ ha
        rw [if_neg (fun q => by
          have := (km_enc_far (o := some a) (fun z hz => by cases hz; omega)).mp q
          cases this)]
        rw [show km_enc (some a) = Int64.ofInt a from rfl, km_add (by omega) (by omega)]
        have hs : (Int64.ofInt (a + (σ.1 1 (28 + 4 * r + 2)).toInt)).toInt = a + (σ.1 1 (28 + 4 * r + 2)).toInt := km_toInt (by omega) (by omega)
        cases hbq : d (σ.1 1 (28 + 4 * r + 1)).toNatClampNeg with
        | none =>
          rw [if_neg (fun q => by
            have q2 := Int64.le_iff_toInt_le.mp q
            rw [hs, show km_enc none = 900000000000000000 from rfl, km_far] at q2
            omega)]
          rw [km_row_set ht']
        | some b =>
          have hbb := hB _ _ hbq
          have hbi : (km_enc (some b)).toInt = b := km_toInt (by omega) (by omega)
          by_cases hlt : a + (σ.1 1 (28 + 4 * r + 2)).toInt < b
          · rw [if_neg (fun q => by
              have q2 := Int64.le_iff_toInt_le.mp q
              rw [hs, hbi] at q2
              omega), km_row_set ht']
            dsimp only
            rw [if_pos hlt]
          · rw [if_pos (Int64.le_iff_toInt_le.mpr (by rw [hs, hbi]; omega))]
            dsimp only
            rw [if_neg hlt]
    · rw [if_neg ho, if_pos rfl, kw_let_def, km_next]
      have e : kr_rlx (km_gr (σ.1 1) m but) d r = d := by
        unfold kr_rlx
        rw [if_neg]
        show ¬ decide (σ.1 1 (28 + 4 * r + 3) = 1 ∧ ¬ nI r = but) = true
        simp [ho]
      rw [e]
