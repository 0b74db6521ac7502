/-! The class's settle: one road, one round. -/
def kx_enc (o : Option Int) : Int64 := match o with
  | none => -9000000000000000000
  | some z => Int64.ofInt z
/-- a row of the class in its cell c -/
def kx_row (σ : kw_M) (c : Nat) (d : kr_D) : kw_M := kw_rl σ c (fun t => if t < 12 then kx_enc (d t) else σ.2 c t)
theorem kx_no : (-9000000000000000000 : Int64).toInt = -9000000000000000000 := by decide
theorem kx_enc_no {o : Option Int} (h : ∀ z, o = some z → -10000000000000000 ≤ z ∧ z ≤ 10000000000000000) : kx_enc o = -9000000000000000000 ↔ o = none := by
  cases o with
  | none => exact ⟨fun _ => rfl, fun _ => rfl⟩
  | some z =>
    refine ⟨fun q => ?_, fun q => by cases q⟩
    have h1 := h z rfl
    have h2 := congrArg Int64.toInt q
    rw [kx_no] at h2
    have h3 : (Int64.ofInt z).toInt = z := km_toInt h1.1 h1.2
    have h4 : z = -9000000000000000000 := h3.symm.trans h2
    omega
theorem kx_row_at {σ : kw_M} {c : Nat} {d : kr_D} {t : Nat} (h : t < 12) : (kx_row σ c d).2 c t = kx_enc (d t) := by
  unfold kx_row
  rw [kw_rl_2, if_pos h]
theorem kx_row_o {σ : kw_M} {c q : Nat} {d : kr_D} (h : q ≠ c) : (kx_row σ c d).2 q = σ.2 q := kw_rl_o h
theorem kx_row_set {σ : kw_M} {c : Nat} {d : kr_D} {t : Nat} (h : t < 12) (z : Int) : kw_sl (kx_row σ c d) c t (Int64.ofInt z) = kx_row σ c (kr_set d t z) := by
  unfold kx_row kw_sl
  refine Prod.ext rfl ?_
  funext q
  by_cases hc : q = c
  · subst hc
    simp only [kw_rl, if_true]
    funext j
    unfold vp_updL kr_set
    dsimp only
    by_cases hj : j = t
    · subst hj
      rw [if_pos rfl, if_pos h, if_pos rfl]
      rfl
    · rw [if_neg hj]
      by_cases h2 : j < 12
      · rw [if_pos h2, if_pos h2, if_neg hj]
      · rw [if_neg h2, if_neg h2]
  · simp only [kw_rl, hc, if_false]
/-- whether the class's road r is open -/
abbrev kx_op (w : Int64) (r : Nat) : Prop := ¬ ((w >>> ((nI r).toInt64 &&& 63)) &&& (1 : Int64)) = (0 : Int64)
/-- the roads of the class's Roads in the cell c, but one -/
def kx_gr (σ : kw_M) (c m : Nat) (but : Int32) : kr_G := (m, fun r => (σ.1 (kx_rf c 3) r).toNatClampNeg, fun r => (σ.1 (kx_rf c 4) r).toNatClampNeg, fun r => (σ.1 (kx_rf c 5) r).toInt, fun r => decide (kx_op (σ.2 c 2) r ∧ ¬ nI r = but))
def kx_wf (σ : kw_M) (c m : Nat) : Prop := m ≤ 36 ∧ σ.1 c 1 = nI m ∧ ∀ r, r < m → kw_in (σ.1 (kx_rf c 3) r) 12 ∧ kw_in (σ.1 (kx_rf c 4) r) 12 ∧ -1000000000 ≤ (σ.1 (kx_rf c 5) r).toInt ∧ (σ.1 (kx_rf c 5) r).toInt ≤ 1000000000
/-- whether a road makes something less -/
def kr_chg (g : kr_G) (d : kr_D) (r : Nat) : Bool := g.2.2.2.2 r && (match d (g.2.1 r), d (g.2.2.1 r) with
  | none, _ => false
  | some _, none => true
  | some a, some b => decide (a + g.2.2.2.1 r < b))
theorem kr_chg_f {g : kr_G} {d : kr_D} {r : Nat} (h : kr_chg g d r = false) : kr_rlx g d r = d := by
  unfold kr_chg at h
  unfold kr_rlx
  by_cases hu : g.2.2.2.2 r = true
  · rw [if_pos hu]
    rw [hu, Bool.true_and] at h
    cases ha : d (g.2.1 r) with
    | none => rfl
    | some a =>
      cases hb : d (g.2.2.1 r) with
      | none => rw [ha, hb] at h; cases h
      | some b =>
        rw [ha, hb] at h
        show (if a + g.2.2.2.1 r < b then _ else d) = d
        rw [if_neg (of_decide_eq_false h)]
  · rw [if_neg hu]
def kx_fl (b : Bool) : Int32 := if b = true then 1 else 0
theorem kx_settle_r {σ : kw_M} {d : kr_D} {c0 c3 m r : Nat} {but v5 : Int32} {fl : Bool} (hc : c0 ≠ c3) (hw : kx_wf σ c0 m) (hr : r < m) (hB : kr_in d 1000000000000000) : bX4_settle_37 c0 c3 but v5 (kx_fl fl) (nI r) (kx_row σ c3 d) = some (.inl (kx_fl (fl || kr_chg (kx_gr σ c0 m but) d r), nI (r + 1), kx_row σ c3 (kr_rlx (kx_gr σ c0 m but) d r))) := by
  obtain ⟨hm, h1, hrd⟩ := hw
  obtain ⟨hf, ht, hl1, hl2⟩ := hrd r hr
  have hB' : ∀ t z, d t = some z → -10000000000000000 ≤ z ∧ z ≤ 10000000000000000 := fun t z hz => by have := hB t z hz; omega
  have hf' := kw_in_lt hf
  have ht' := kw_in_lt ht
  have hci : (nI r).toNatClampNeg = r := nI_clamp (by omega)
  have skip : kr_chg (kx_gr σ c0 m but) d r = false → (some (Sum.inl (kx_fl fl, nI (r + 1), kx_row σ c3 d)) : Option ((Int32 × Int32 × kw_M) ⊕ (Int32 × kw_M))) = some (.inl (kx_fl (fl || kr_chg (kx_gr σ c0 m but) d r), nI (r + 1), kx_row σ c3 (kr_rlx (kx_gr σ c0 m but) d r))) := fun h => by rw [kr_chg_f h, h, Bool.or_false]
  unfold bX4_settle_37 jX4_settle_126_L37
  rw [show (kx_row σ c3 d).1 = σ.1 from rfl, h1, if_neg (nI_ge hr (by omega)), kx_row_o hc]
  simp only [hci, kw_chk_t (kw_in_nI (show r < 36 by omega) (by decide)), kw_chk_t hf, kw_chk_t ht, kw_let_def, kx_row_at hf', kx_row_at ht', km_next]
  have hfr : (kx_gr σ c0 m but).2.1 r = (σ.1 (kx_rf c0 3) r).toNatClampNeg := rfl
  have hto : (kx_gr σ c0 m but).2.2.1 r = (σ.1 (kx_rf c0 4) r).toNatClampNeg := rfl
  have hln : (kx_gr σ c0 m but).2.2.2.1 r = (σ.1 (kx_rf c0 5) r).toInt := rfl
  have hus : (kx_gr σ c0 m but).2.2.2.2 r = decide (kx_op (σ.2 c0 2) r ∧ ¬ nI r = but) := rfl
  cases ha : d (σ.1 (kx_rf c0 3) r).toNatClampNeg with
  | none =>
    rw [if_pos (show kx_enc none = -9000000000000000000 from rfl)]
    refine skip ?_
    unfold kr_chg
    rw [hfr, ha]
    simp
  | some a =>
    have hab := hB _ _ ha
    rw [if_neg (fun q => by
      have := (kx_enc_no (o := some a) (fun z hz => by cases hz; omega)).mp q
      cases this)]
    by_cases hb : nI r = but
    · rw [if_pos hb]
      refine skip ?_
      unfold kr_chg
      rw [hus]
      simp [hb]
    · rw [if_neg hb]
      by_cases ho : ((σ.2 c0 2 >>> ((nI r).toInt64 &&& 63)) &&& (1 : Int64)) = (0 : Int64)
      · rw [if_pos ho]
        refine skip ?_
        unfold kr_chg
        rw [hus]
        simp [kx_op, ho]
      · rw [if_neg ho]
        have hu : (kx_gr σ c0 m but).2.2.2.2 r = true := by rw [hus]; exact decide_eq_true ⟨ho, hb⟩
        rw [show kx_enc (some a) = Int64.ofInt a from rfl, km_add (by omega) (by omega)]
        have hs : (Int64.ofInt (a + (σ.1 (kx_rf c0 5) r).toInt)).toInt = a + (σ.1 (kx_rf c0 5) r).toInt := km_toInt (by omega) (by omega)
        have go : kr_chg (kx_gr σ c0 m but) d r = true → kr_rlx (kx_gr σ c0 m but) d r = kr_set d (σ.1 (kx_rf c0 4) r).toNatClampNeg (a + (σ.1 (kx_rf c0 5) r).toInt) → (some (Sum.inl ((1 : Int32), nI (r + 1), kw_sl (kx_row σ c3 d) c3 (σ.1 (kx_rf c0 4) r).toNatClampNeg (Int64.ofInt (a + (σ.1 (kx_rf c0 5) r).toInt)))) : Option ((Int32 × Int32 × kw_M) ⊕ (Int32 × kw_M))) = some (.inl (kx_fl (fl || kr_chg (kx_gr σ c0 m but) d r), nI (r + 1), kx_row σ c3 (kr_rlx (kx_gr σ c0 m but) d r))) := fun g1 g2 => by
          rw [g1, g2, Bool.or_true, kx_row_set ht']
          rfl
        cases hbq : d (σ.1 (kx_rf c0 4) r).toNatClampNeg with
        | none =>
          rw [if_pos (show kx_enc none = -9000000000000000000 from rfl)]
          refine go ?_ ?_
          · unfold kr_chg
            rw [hu, hfr, hto, ha, hbq]
            rfl
          · unfold kr_rlx
            rw [if_pos hu, hfr, hto, ha, hbq, hln]
        | some b =>
          have hbb := hB _ _ hbq
          have hbi : (kx_enc (some b)).toInt = b := km_toInt (by omega) (by omega)
          rw [if_neg (fun q => by
            have := (kx_enc_no (o := some b) (fun z hz => by cases hz; omega)).mp q
            cases this)]
          by_cases hlt : a + (σ.1 (kx_rf c0 5) r).toInt < b
          · rw [if_neg (fun q => by
              have q2 := Int64.le_iff_toInt_le.mp q
              rw [hs, hbi] at q2
              omega)]
            refine go ?_ ?_
            · unfold kr_chg
              rw [hu, hfr, hto, ha, hbq, hln]
              simp [hlt]
            · unfold kr_rlx
              rw [if_pos hu, hfr, hto, ha, hbq, hln]
              dsimp only
              rw [if_pos hlt]
          · rw [if_pos (Int64.le_iff_toInt_le.mpr (by rw [hs, hbi]; omega))]
            refine skip ?_
            unfold kr_chg
            rw [hu, hfr, hto, ha, hbq, hln]
            simp [hlt]
