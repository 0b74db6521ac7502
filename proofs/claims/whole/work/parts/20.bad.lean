/-! The class's isOpen and makesBadRing in closed form. -/
theorem kx_isOpen {σ : kw_M} {c m r : Nat} (hm : m ≤ 36) (h1 : σ.1 c 1 = nI m) (hr : r < m) : fX4_isOpen c (nI r) σ = some (if kx_op (σ.2 c 2) r then 1 else 0) := by
  unfold fX4_isOpen
  rw [if_neg (nI_pos (by omega)), h1, if_neg (nI_ge hr (by omega))]
  by_cases ho : ((σ.2 c 2 >>> ((nI r).toInt64 &&& 63)) &&& (1 : Int64)) = (0 : Int64)
  · rw [if_pos ho, if_neg (fun q => q ho)]
  · rw [if_neg ho, if_pos ho]
theorem kx_isOpen_no {σ : kw_M} {c m : Nat} {x : Int32} (h1 : σ.1 c 1 = nI m) (hx : x < 0 ∨ nI m ≤ x) : fX4_isOpen c x σ = some 0 := by
  unfold fX4_isOpen
  by_cases h : x < 0
  · rw [if_pos h]
  · rw [if_neg h, h1, if_pos (hx.resolve_left h)]
/-- makesBadRing of a road aside -/
theorem kx_bad {σ : kw_M} {m n r : Nat} (hw : kx_wf σ 10 m) (hn : σ.1 10 0 = nI n) (h12 : n ≤ 12) (hr : r < m) (ho : kx_op (σ.2 10 2) r) : fX4_makesBadRing (nI r) σ = some ((match kr_bf (kx_gr σ 10 m (nI r)) (kr_one (σ.1 33 r).toNatClampNeg) n ((σ.1 32 r).toNatClampNeg) with
    | none => (0 : Int32)
    | some z => if 0 < z + (σ.1 34 r).toInt then 0 else 1), kx_row σ 41 (kr_bf (kx_gr σ 10 m (nI r)) (kr_one (σ.1 33 r).toNatClampNeg) n)) := by
  have e3 : kx_rf 10 3 = 32 := by decide
  have e4 : kx_rf 10 4 = 33 := by decide
  have e5 : kx_rf 10 5 = 34 := by decide
  obtain ⟨hf, ht, hl1, hl2⟩ := hw.2.2 r hr
  rw [e3] at hf
  rw [e4] at ht
  rw [e5] at hl1 hl2
  have hm := hw.1
  have hf' := kw_in_lt hf
  have ht' := kw_in_lt ht
  have hse := kx_settle (c0 := 10) (c3 := 41) (but := nI r) (by decide) hw hn h12 ht'
  rw [← kw_in_nI_of ht (by decide)] at hse
  have hci : (nI r).toNatClampNeg = r := nI_clamp (by omega)
  have hb : kr_in (kr_bf (kx_gr σ 10 m (nI r)) (kr_one (σ.1 33 r).toNatClampNeg) n) 900000000000000 := by
    refine kr_in_mono (km_bf_in (g := kx_gr σ 10 m (nI r)) hw.1 (kx_wf_len hw (nI r)) n) ?_
    have : (n : Int) ≤ 12 := by omega
    omega
  unfold fX4_makesBadRing
  rw [kx_isOpen hm hw.2.1 hr, Option.bind_some, if_pos ho, if_neg (by decide), kw_chk_t (kw_in_nI (show r < 36 by omega) (by decide)), hci, hse, Option.bind_some]
  generalize kr_bf (kx_gr σ 10 m (nI r)) (kr_one (σ.1 33 r).toNatClampNeg) n = D at hb
  rw [show (kx_row σ 41 D).1 = σ.1 from rfl, kw_chk_t hf, kw_let_def, kx_row_at hf']
  cases hz : D (σ.1 32 r).toNatClampNeg with
  | none => rw [if_pos (show kx_enc none = -9000000000000000000 from rfl)]
  | some z =>
    have hzb := hb _ _ hz
    rw [if_neg (fun q => by
      have := (kx_enc_no (o := some z) (fun y hy => by cases hy; omega)).mp q
      cases this)]
    rw [show kx_enc (some z) = Int64.ofInt z from rfl, km_add (by omega) (by omega)]
    have hs : (Int64.ofInt (z + (σ.1 34 r).toInt)).toInt = z + (σ.1 34 r).toInt := km_toInt (by omega) (by omega)
    dsimp only
    by_cases hlt : 0 < z + (σ.1 34 r).toInt
    · rw [if_pos hlt, if_pos (Int64.lt_iff_toInt_lt.mpr (by rw [hs]; exact hlt))]
    · rw [if_neg hlt, if_neg (fun q => by
        have q2 := Int64.lt_iff_toInt_lt.mp q
        rw [hs] at q2
        exact hlt q2)]
theorem kx_bad_closed {σ : kw_M} {m r : Nat} (hm : m ≤ 36) (h1 : σ.1 10 1 = nI m) (hr : r < m) (ho : ¬ kx_op (σ.2 10 2) r) : fX4_makesBadRing (nI r) σ = some (0, σ) := by
  unfold fX4_makesBadRing
  rw [kx_isOpen hm h1 hr, Option.bind_some, if_neg ho, if_pos rfl]
theorem kx_bad_none {σ : kw_M} {m : Nat} (h1 : σ.1 10 1 = nI m) : fX4_makesBadRing (-1) σ = some (0, σ) := by
  unfold fX4_makesBadRing
  rw [kx_isOpen_no h1 (Or.inl (by decide)), Option.bind_some, if_pos rfl]
