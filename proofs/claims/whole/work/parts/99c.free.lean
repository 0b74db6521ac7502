/-! Some roads free: the reference, and the call. -/
def km_r48 (σ : kw_M) (d : kr_D) : Prop := ∀ j, j < 48 → σ.2 17 j = km_enc (d j)
theorem km_offers {σ : kw_M} {j : Nat} {d : kr_D} {x : Option Int} (h : km_r48 σ d) (hj : j < 48) (bd : kr_bd (d j)) (bx : kr_bd x) : ∃ τ, fX10_offers (nI j) (km_enc x) σ = some τ ∧ km_r48 τ (kr_lw d j x) ∧ kx_oL σ τ 17 := by
  unfold fX10_offers
  rw [kn_chk hj (by decide), kn_clamp (by omega), h j hj]
  simp only [km_enc_le bd bx, kw_let_def]
  cases hl : kr_ls x (d j) with
  | false =>
    rw [kn_ff, kr_ls_lw hl]
    exact ⟨_, rfl, h, rfl, fun _ _ => rfl⟩
  | true =>
    rw [kn_tf]
    refine ⟨_, rfl, fun q hq => ?_, rfl, fun q hq => kw_sl_o hq⟩
    rw [kw_sl_2]
    unfold kr_lw
    by_cases e : q = j
    · rw [if_pos e, e, kw_updL_e]
      unfold kr_mn
      rw [hl, kn_tt]
    · rw [kw_updL_n e, if_neg e]
      exact h q hq
theorem kr_rnd_s (g : kr_G) (d : kr_D) (k : Nat) : kr_rnd g d (k + 1) = kr_rlx g (kr_rnd g d k) k := rfl
theorem kr_rnd_skip {g : kr_G} {d : kr_D} {a : Nat} : ∀ c : Nat, (∀ j, a ≤ j → j < a + c → g.2.2.2.2 j = false) → kr_rnd g d (a + c) = kr_rnd g d a
  | 0, _ => rfl
  | c + 1, h => by
    rw [← Nat.add_assoc, kr_rnd_s, kr_rlx_lw, h (a + c) (by omega) (by omega), kn_ft]
    exact kr_rnd_skip c (fun j h1 h2 => h j h1 (by omega))
theorem kr_bf_in8 {g : kr_G} {o : Nat} (hg : g.1 ≤ 288) (hl : ∀ r, r < g.1 → -1000000000 ≤ g.2.2.2.1 r ∧ g.2.2.2.1 r ≤ 1000000000) : ∀ i : Nat, kr_in (kr_bf g (kr_one o) i) (i * 288000000000)
  | 0 => by
    intro t z hz
    unfold kr_bf kr_one at hz
    by_cases h : t = o
    · rw [if_pos h] at hz
      cases hz
      omega
    · rw [if_neg h] at hz
      cases hz
  | i + 1 => by
    refine kr_in_mono (kr_in_rnd (kr_bf_in8 hg hl i) (M := 1000000000) (by decide) hl g.1 (Nat.le_refl _)) ?_
    have h2 : (g.1 : Int) ≤ 288 := by omega
    have e : ((i + 1 : Nat) : Int) = (i : Int) + 1 := by omega
    rw [e]
    omega
theorem kr_L_len {g : kr_G} {s : Nat} (hl : ∀ r, r < g.1 → -1000000000 ≤ g.2.2.2.1 r ∧ g.2.2.2.1 r ≤ 1000000000) : ∀ r, r < (kr_L g s).1 → -1000000000 ≤ (kr_L g s).2.2.2.1 r ∧ (kr_L g s).2.2.2.1 r ≤ 1000000000 := fun j hj => by
  have hj' : j < 8 * g.1 := hj
  have h := hl (j / 8) (by omega)
  show -1000000000 ≤ (if j % 2 = 1 then 0 else g.2.2.2.1 (j / 8)) ∧ (if j % 2 = 1 then 0 else g.2.2.2.1 (j / 8)) ≤ 1000000000
  split <;> omega
theorem kr_L_cl {g : kr_G} {s j : Nat} (h : g.2.2.2.2 (j / 8) = false ∨ s < j / 2 % 4) : (kr_L g s).2.2.2.2 j = false := by
  show (g.2.2.2.2 (j / 8) && decide (j / 2 % 4 ≤ s) && (decide (j % 2 = 0) || (decide (j / 2 % 4 < s) && decide (0 < g.2.2.2.1 (j / 8))))) = false
  rcases h with h | h
  · rw [h]; rfl
  · rw [decide_eq_false (show ¬ j / 2 % 4 ≤ s by omega), Bool.and_false, Bool.false_and]
theorem kb_op {F : Nat → Int32} {m r : Nat} (hm : m ≤ 36) (hr : r < m) : (km_gr F m (-1)).2.2.2.2 r = decide (F (28 + 4 * r + 3) = 1) := by
  show decide (F (28 + 4 * r + 3) = 1 ∧ ¬ nI r = -1) = _
  rw [decide_eq_decide]
  exact ⟨fun q => q.1, fun q => ⟨q, kb_neg1 (by omega)⟩⟩
theorem km_freeRoad {σ : kw_M} {F : Nat → Int32} {n m r s : Nat} {v1 v3 : Int32} {d : kr_D} (hF : σ.1 1 = F) (hw : kb_wf F n m) (hr : r < m) (hs : s ≤ 3) (h17 : km_r48 σ (kr_rnd (kr_L (km_gr F m (-1)) s) d (8 * r))) (hin : ∀ j, j ≤ 8 * m → kr_in (kr_rnd (kr_L (km_gr F m (-1)) s) d j) 900000000000000) : ∃ τ, kw_loop (fun q => bX10_free_92 v1 (nI s) v3 (nI r) q.1 q.2) kw_F ((0 : Int32), σ) = some τ ∧ km_r48 τ (kr_rnd (kr_L (km_gr F m (-1)) s) d (8 * r + 8)) ∧ kx_oL σ τ 17 := by
  have hm := hw.2.2.2.1.1
  have h12 := hw.2.2.1
  obtain ⟨hfr, hto, hl1, hl2⟩ := hw.2.2.2.1.2.2 r hr
  obtain ⟨hf12, ht12, _⟩ := hw.2.2.2.2 r hr
  have eA : F (28 + 4 * r + 0) = nI (F (28 + 4 * r + 0)).toNatClampNeg := kw_in_nI_of hfr (by decide)
  have eB : F (28 + 4 * r + 1) = nI (F (28 + 4 * r + 1)).toNatClampNeg := kw_in_nI_of hto (by decide)
  have hu := kb_op (F := F) hm hr
  by_cases ho : F (28 + 4 * r + 3) = 1
  case neg =>
    have e8 : kr_rnd (kr_L (km_gr F m (-1)) s) d (8 * r + 8) = kr_rnd (kr_L (km_gr F m (-1)) s) d (8 * r) := kr_rnd_skip 8 (fun j h1 h2 => kr_L_cl (Or.inl (by rw [show j / 8 = r by omega, hu]; exact decide_eq_false ho)))
    rw [e8]
    refine kw_for (body := fun q => bX10_free_92 v1 (nI s) v3 (nI r) q.1 q.2) (fun k q => q = ((0 : Int32), σ)) (fun x => km_r48 x (kr_rnd (kr_L (km_gr F m (-1)) s) d (8 * r)) ∧ kx_oL σ x 17) 0 (by decide) rfl (fun k q hk hq => ?_)
    right
    subst hq
    dsimp only
    unfold bX10_free_92
    rw [if_neg (show ¬ nI s < (0 : Int32) by rw [kn_0, kn_lt (by omega) (by omega)]; omega), km_isOpen (by omega), Option.bind_some, hF, if_neg ho, if_pos rfl]
    exact ⟨_, rfl, h17, rfl, fun _ _ => rfl⟩
  have e8 : kr_rnd (kr_L (km_gr F m (-1)) s) d (8 * r + 8) = kr_rnd (kr_L (km_gr F m (-1)) s) d (8 * r + 2 * (s + 1)) := by
    rw [show 8 * r + 8 = 8 * r + 2 * (s + 1) + (8 - 2 * (s + 1)) by omega]
    exact kr_rnd_skip _ (fun j h1 h2 => kr_L_cl (Or.inr (by omega)))
  rw [e8]
  refine kw_for (body := fun q => bX10_free_92 v1 (nI s) v3 (nI r) q.1 q.2) (fun k q => q.1 = nI k ∧ km_r48 q.2 (kr_rnd (kr_L (km_gr F m (-1)) s) d (8 * r + 2 * k)) ∧ kx_oL σ q.2 17) (fun x => km_r48 x (kr_rnd (kr_L (km_gr F m (-1)) s) d (8 * r + 2 * (s + 1))) ∧ kx_oL σ x 17) (s + 1) (by omega) (s0 := ((0 : Int32), σ)) ⟨rfl, h17, rfl, fun _ _ => rfl⟩ (fun k q hk hq => ?_)
  obtain ⟨v, τ⟩ := q
  obtain ⟨rfl, e3, o1, o2⟩ := hq
  dsimp only at e3 o1 o2 ⊢
  unfold bX10_free_92
  simp (disch := omega) only [kn_lt, kn_le]
  by_cases hks : k < s + 1
  case neg =>
    right
    obtain rfl : k = s + 1 := by omega
    rw [if_pos (by omega)]
    exact ⟨_, rfl, e3, o1, o2⟩
  left
  refine ⟨hks, ?_⟩
  have hF2 : τ.1 1 = F := by rw [o1]; exact hF
  obtain ⟨a1, a2, a3, a4⟩ := kr_L0 (km_gr F m (-1)) s r (k := k) (by omega)
  have es1 : kr_rnd (kr_L (km_gr F m (-1)) s) d (8 * r + 2 * k + 1) = kr_lw (kr_rnd (kr_L (km_gr F m (-1)) s) d (8 * r + 2 * k)) (4 * (F (28 + 4 * r + 1)).toNatClampNeg + k) (kr_plus (kr_rnd (kr_L (km_gr F m (-1)) s) d (8 * r + 2 * k) (4 * (F (28 + 4 * r + 0)).toNatClampNeg + k)) (some (F (28 + 4 * r + 2)).toInt)) := by
    rw [kr_rnd_s, kr_rlx_lw, a4, hu, decide_eq_true ho, decide_eq_true (show k ≤ s by omega), Bool.true_and, kn_tt]
    unfold kr_by
    rw [a1, a2, a3]
    rfl
  have hin1 := hin (8 * r + 2 * k) (by omega)
  have hin2 := hin (8 * r + 2 * k + 1) (by omega)
  rw [if_neg (by omega), km_isOpen (by omega), Option.bind_some, hF2, if_pos ho, if_neg (show ¬ (1 : Int32) = 0 by decide), km_of0 (by omega), Option.bind_some, hF2, eA, kn_4, kn_mul, nI_add, kn_chk (by omega) (by decide), kn_clamp (by omega), kw_let_def, e3 _ (by omega)]
  simp only [km_enc_e (kr_bd_in hin1 (by decide) _)]
  have es2 : kr_rnd (kr_L (km_gr F m (-1)) s) d (8 * r + 2 * (k + 1)) = kr_rlx (kr_L (km_gr F m (-1)) s) (kr_rnd (kr_L (km_gr F m (-1)) s) d (8 * r + 2 * k + 1)) (8 * r + 2 * k + 1) := rfl
  cases hz : kr_rnd (kr_L (km_gr F m (-1)) s) d (8 * r + 2 * k) (4 * (F (28 + 4 * r + 0)).toNatClampNeg + k) with
  | none =>
    rw [hz, show kr_plus none (some (F (28 + 4 * r + 2)).toInt) = none from rfl, kr_ls_lw rfl] at es1
    rw [if_pos rfl, kw_let_def, km_next]
    refine ⟨_, rfl, rfl, ?_, o1, o2⟩
    rw [es2, kr_rlx_lw]
    by_cases h3 : k < 3
    · obtain ⟨b1, b2, b3, b4⟩ := kr_L1 (km_gr F m (-1)) s r (k := k) h3
      have : kr_by (kr_L (km_gr F m (-1)) s) (kr_rnd (kr_L (km_gr F m (-1)) s) d (8 * r + 2 * k + 1)) (8 * r + 2 * k + 1) = none := by
        unfold kr_by
        rw [b1, es1, show (km_gr F m (-1)).2.1 r = (F (28 + 4 * r + 0)).toNatClampNeg from rfl, hz]
        rfl
      rw [this, kr_ls_lw rfl, es1]
      split <;> exact e3
    · rw [if_neg (fun q => by
        rcases kr_L_road hs (show 8 * r + 2 * k + 1 < 8 * m by omega) q with ⟨r', k', h1, h2, _⟩ | ⟨r', k', h1, h2, _⟩ <;> omega), es1]
      exact e3
  | some z =>
    have hz2 := hin1 _ _ hz
    rw [hz, show kr_plus (some z) (some (F (28 + 4 * r + 2)).toInt) = some (z + (F (28 + 4 * r + 2)).toInt) from rfl] at es1
    have bz : kr_bd (some (z + (F (28 + 4 * r + 2)).toInt)) := fun w hw' => by cases hw'; omega
    obtain ⟨τ2, f1, f2, f3, f4⟩ := km_offers (σ := τ) (j := 4 * (F (28 + 4 * r + 1)).toNatClampNeg + k) e3 (by omega) (kr_bd_in hin1 (by decide) _) bz
    rw [← es1] at f2
    have hF3 : τ2.1 1 = F := by rw [f3]; exact hF2
    rw [if_neg (by simp), km_of1 (by omega), Option.bind_some, km_of2 (by omega), Option.bind_some, hF2, eB, kn_mul, nI_add, show km_enc (some z) = Int64.ofInt z from rfl, km_add (by omega) (by omega), show Int64.ofInt (z + (F (28 + 4 * r + 2)).toInt) = km_enc (some (z + (F (28 + 4 * r + 2)).toInt)) from rfl, f1, Option.bind_some, kw_let_def, km_next]
    by_cases hk2 : s ≤ k
    · rw [if_pos hk2]
      refine ⟨_, rfl, rfl, ?_, f3.trans o1, fun q hq => (f4 q hq).trans (o2 q hq)⟩
      rw [es2, kr_rlx_lw, if_neg (fun q => by
        rcases kr_L_road hs (show 8 * r + 2 * k + 1 < 8 * m by omega) q with ⟨r', k', h1, h2, _⟩ | ⟨r', k', h1, h2, _⟩ <;> omega)]
      exact f2
    · obtain ⟨b1, b2, b3, b4⟩ := kr_L1 (km_gr F m (-1)) s r (k := k) (by omega)
      rw [if_neg hk2, km_of2 (by omega), Option.bind_some, hF3]
      simp only [Int32.le_iff_toInt_le, show (0 : Int32).toInt = 0 by decide]
      by_cases hl : (F (28 + 4 * r + 2)).toInt ≤ 0
      · rw [if_pos hl]
        refine ⟨_, rfl, rfl, ?_, f3.trans o1, fun q hq => (f4 q hq).trans (o2 q hq)⟩
        rw [es2, kr_rlx_lw, if_neg (fun q => by
          have : 0 < (F (28 + 4 * r + 2)).toInt := (b4.mp q).2.2
          omega)]
        exact f2
      · have hd1 : kr_rnd (kr_L (km_gr F m (-1)) s) d (8 * r + 2 * k + 1) (4 * (F (28 + 4 * r + 0)).toNatClampNeg + k) = some z := by
          rw [es1]
          unfold kr_lw
          by_cases e : 4 * (F (28 + 4 * r + 0)).toNatClampNeg + k = 4 * (F (28 + 4 * r + 1)).toNatClampNeg + k
          · rw [if_pos e, ← e, hz]
            unfold kr_mn
            rw [if_neg (by show ¬ decide (z + (F (28 + 4 * r + 2)).toInt < z) = true; rw [decide_eq_true_eq]; omega)]
          · rw [if_neg e]
            exact hz
        have es3 : kr_rnd (kr_L (km_gr F m (-1)) s) d (8 * r + 2 * (k + 1)) = kr_lw (kr_rnd (kr_L (km_gr F m (-1)) s) d (8 * r + 2 * k + 1)) (4 * (F (28 + 4 * r + 1)).toNatClampNeg + k + 1) (some z) := by
          rw [es2, kr_rlx_lw, if_pos (b4.mpr ⟨by rw [hu]; exact decide_eq_true ho, by omega, by show 0 < (F (28 + 4 * r + 2)).toInt; omega⟩)]
          unfold kr_by
          rw [b1, b2, b3, show (km_gr F m (-1)).2.1 r = (F (28 + 4 * r + 0)).toNatClampNeg from rfl, hd1, show kr_plus (some z) (some 0) = some (z + 0) from rfl, Int.add_zero]
          rfl
        obtain ⟨τ3, g1, g2, g3, g4⟩ := km_offers (σ := τ2) (j := 4 * (F (28 + 4 * r + 1)).toNatClampNeg + k + 1) (x := some z) f2 (by omega) (kr_bd_in hin2 (by decide) _) (fun w hw' => by cases hw'; omega)
        rw [if_neg hl, km_of1 (by omega), Option.bind_some, hF3, eB, kn_mul, nI_add, km_next, show Int64.ofInt z = km_enc (some z) from rfl, g1, Option.bind_some]
        refine ⟨_, rfl, rfl, ?_, g3.trans (f3.trans o1), fun q hq => (g4 q hq).trans ((f4 q hq).trans (o2 q hq))⟩
        rw [es3]
        exact g2
theorem km_freeRound {σ : kw_M} {F : Nat → Int32} {n m s : Nat} {v1 v3 : Int32} {d : kr_D} (hF : σ.1 1 = F) (hw : kb_wf F n m) (hs : s ≤ 3) (h17 : km_r48 σ d) (hin : ∀ j, j ≤ 8 * m → kr_in (kr_rnd (kr_L (km_gr F m (-1)) s) d j) 900000000000000) : ∃ τ, kw_loop (fun q => bX10_free_78 v1 (nI s) v3 q.1 q.2) kw_F ((0 : Int32), σ) = some τ ∧ km_r48 τ (kr_rnd (kr_L (km_gr F m (-1)) s) d (8 * m)) ∧ kx_oL σ τ 17 := by
  have hm := hw.2.2.2.1.1
  refine kw_for (body := fun q => bX10_free_78 v1 (nI s) v3 q.1 q.2) (fun k q => q.1 = nI k ∧ km_r48 q.2 (kr_rnd (kr_L (km_gr F m (-1)) s) d (8 * k)) ∧ kx_oL σ q.2 17) (fun x => km_r48 x (kr_rnd (kr_L (km_gr F m (-1)) s) d (8 * m)) ∧ kx_oL σ x 17) m (by omega) (s0 := ((0 : Int32), σ)) ⟨rfl, h17, rfl, fun _ _ => rfl⟩ (fun k q hk hq => ?_)
  obtain ⟨v, τ⟩ := q
  obtain ⟨rfl, e3, o1, o2⟩ := hq
  dsimp only at e3 o1 o2 ⊢
  unfold bX10_free_78
  have hF2 : τ.1 1 = F := by rw [o1]; exact hF
  rw [hF2, hw.2.2.2.1.2.1]
  by_cases hkm : k < m
  case neg =>
    right
    obtain rfl : k = m := by omega
    rw [if_pos (nI_le (Nat.le_refl k) (by omega))]
    exact ⟨_, rfl, e3, o1, o2⟩
  left
  refine ⟨hkm, ?_⟩
  obtain ⟨τ2, f1, f2, f3, f4⟩ := km_freeRoad (v1 := v1) (v3 := v3) hF2 hw hkm hs e3 hin
  rw [if_neg (nI_ge hkm (by omega)), f1, Option.bind_some, kw_let_def, km_next]
  exact ⟨_, rfl, rfl, f2, f3.trans o1, fun q hq => (f4 q hq).trans (o2 q hq)⟩
theorem ko_free {σX σM : kw_M} {a1 a2 : Int32} (hR : kw_Rel σX σM) : ∃ a τX τM, fX9_free a1 a2 σX = some (a, τX) ∧ fX10_free a1 a2 σM = some (a, τM) ∧ kw_Rel τX τM := by
  obtain ⟨n, m, o, hok, hsh, hkp, htp, hpr⟩ := hR
  have same : kw_Rel σX σM := ⟨n, m, o, hok, hsh, hkp, htp, hpr⟩
  have h12 := hok.1.2.2.1
  have hon := hok.2.2.1
  have hm := hok.1.2.2.2.1.1
  have hnX : σX.1 12 0 = nI n := hsh.1.1.trans hok.1.1
  have hlen := km_wf_len hok.1.2.2.2.1 (-1)
  have hg := hok.2.2.2.1
  have htn := kb_tn hok.1 (-1)
  unfold fX9_free fX10_free
  rw [kx_hasTown hnX h12, km_isTown hok.1.1 h12, km_in, Int32.toInt_toInt64]
  simp only [Option.bind_some, kx_fl_0, show (0 : Int64).toInt = 0 by decide, show (3 : Int64).toInt = 3 by decide, Int32.lt_iff_toInt_lt, Int32.le_iff_toInt_le, show (0 : Int32).toInt = 0 by decide, show (3 : Int32).toInt = 3 by decide]
  by_cases t1 : 0 ≤ a1.toInt ∧ a1.toInt < n
  case neg =>
    simp only [decide_eq_false t1, kn_ff]
    exact ⟨_, _, _, rfl, rfl, same⟩
  simp only [decide_eq_true t1, kn_tf]
  by_cases t2 : 0 ≤ a2.toInt ∧ a2.toInt ≤ 3
  case neg =>
    simp only [decide_eq_false t2, kn_ff]
    refine ⟨_, _, _, ?_, rfl, same⟩
    by_cases q : a2.toInt < 0
    · rw [if_pos q]
    · rw [if_neg q, if_neg (by omega)]
  simp only [decide_eq_true t2, kn_tf]
  rw [if_neg (by omega), if_pos (by omega)]
  obtain ⟨t, ht, rfl⟩ := kw_arg (by omega) t1
  obtain ⟨N, hN, rfl⟩ := kw_arg (x := a2) (n := 4) (by omega) ⟨t2.1, by omega⟩
  obtain ⟨σ1, r1, r2, r3, r4⟩ := kx_right hok hsh hpr
  have hrd1 : kx_rd σ1 12 (σM.1 1) m := kx_rd_fr hsh.1 (r3 12 (by decide)) (r3 18 (by decide)) (r3 19 (by decide)) (r3 20 (by decide)) (r4 12 (by decide) (by decide))
  obtain ⟨τ, f1, f2, f3⟩ := kx_freeRoads (t := t) (N := N) (o := o) hrd1 hok.1 r2 (fun u hu => by rw [r4 16 (by decide) (by decide)]; exact hsh.2.2.2.2.1 u hu) (by omega) (by omega)
  have hLin : ∀ i, i ≤ 48 → ∀ j, j ≤ 8 * m → kr_in (kr_rnd (kr_L (km_gr (σM.1 1) m (-1)) N) (kr_bf (kr_L (km_gr (σM.1 1) m (-1)) N) (kr_one (4 * o)) i) j) 900000000000000 := fun i hi j hj => by
    refine kr_in_mono (kr_in_rnd (kr_bf_in8 (show 8 * m ≤ 288 by omega) (kr_L_len hlen) i) (M := 1000000000) (by decide) (kr_L_len hlen) j hj) ?_
    have : (j : Int) ≤ 288 := by omega
    have : (i : Int) ≤ 48 := by omega
    omega
  obtain ⟨ρ1, hρ1, c1, c2, c3⟩ := kw_for (body := fun s => bX10_free_26 (nI t) (nI N) s.1 s.2) (fun k s => s.1 = nI k ∧ (∀ u, u < k → s.2.2 17 u = km_enc (kr_one (4 * o) u)) ∧ kx_oL σM s.2 17) (fun x => km_r48 x (kr_one (4 * o)) ∧ kx_oL σM x 17) 48 (by decide) (s0 := ((0 : Int32), σM)) ⟨rfl, fun u hu => absurd hu (Nat.not_lt_zero _), rfl, fun _ _ => rfl⟩ (fun k s hk hp => by
    obtain ⟨v, τ⟩ := s
    obtain ⟨rfl, h1, o1, o2⟩ := hp
    dsimp only at h1 o1 o2 ⊢
    unfold bX10_free_26
    by_cases hk2 : k < 48
    case neg =>
      right
      obtain rfl : k = 48 := by omega
      rw [if_pos (by decide)]
      exact ⟨_, rfl, h1, o1, o2⟩
    left
    refine ⟨hk2, ?_⟩
    rw [show (48 : Int32) = nI 48 by decide, if_neg (nI_ge hk2 (by decide)), o1, hok.2.1, kn_4, kn_mul]
    simp (disch := omega) only [kn_eq, kn_chk, kn_clamp, kw_let_def, km_next]
    have fin : ∀ v : Int64, v = km_enc (kr_one (4 * o) k) → ∃ t, (some (Sum.inl (nI (k + 1), kw_sl τ 17 k v)) : Option ((Int32 × kw_M) ⊕ kw_M)) = some (Sum.inl t) ∧ t.1 = nI (k + 1) ∧ (∀ u, u < k + 1 → t.2.2 17 u = km_enc (kr_one (4 * o) u)) ∧ kx_oL σM t.2 17 := fun v hv => by
      refine ⟨_, rfl, rfl, fun u hu => ?_, o1, fun q hq => (kw_sl_o hq).trans (o2 q hq)⟩
      dsimp only
      rw [kw_sl_2]
      by_cases e : u = k
      · rw [e, kw_updL_e, hv]
      · rw [kw_updL_n e]; exact h1 u (by omega)
    by_cases e : k = 4 * o
    · rw [if_pos e]
      exact fin 0 (by unfold kr_one; rw [if_pos e]; rfl)
    · rw [if_neg e]
      exact fin _ (by unfold kr_one; rw [if_neg e]; rfl))
  obtain ⟨ρ2, hρ2, d1, d2, d3⟩ := kw_for (body := fun s => bX10_free_65 (nI t) (nI N) s.1 s.2) (fun k s => s.1 = nI k ∧ km_r48 s.2 (kr_bf (kr_L (km_gr (σM.1 1) m (-1)) N) (kr_one (4 * o)) k) ∧ kx_oL σM s.2 17) (fun x => km_r48 x (kr_bf (kr_L (km_gr (σM.1 1) m (-1)) N) (kr_one (4 * o)) (4 * n)) ∧ kx_oL σM x 17) (4 * n) (by omega) (s0 := ((0 : Int32), ρ1)) ⟨rfl, c1, c2, c3⟩ (fun k s hk hp => by
    obtain ⟨v, τ⟩ := s
    obtain ⟨rfl, h1, o1, o2⟩ := hp
    dsimp only at h1 o1 o2 ⊢
    unfold bX10_free_65 fX10_towns
    rw [o1, hok.1.1, Option.bind_some, kn_4, kn_mul]
    by_cases hk2 : k < 4 * n
    case neg =>
      right
      obtain rfl : k = 4 * n := by omega
      rw [if_pos (nI_le (Nat.le_refl _) (by omega))]
      exact ⟨_, rfl, h1, o1, o2⟩
    left
    refine ⟨hk2, ?_⟩
    obtain ⟨τ2, s1, s2, s3, s4⟩ := km_freeRound (σ := τ) (v1 := nI t) (v3 := nI k) (F := σM.1 1) (by rw [o1]) hok.1 (show N ≤ 3 by omega) h1 (hLin k (by omega))
    rw [if_neg (nI_ge hk2 (by omega)), s1, Option.bind_some, kw_let_def, km_next]
    exact ⟨_, rfl, rfl, s2, s3.trans o1, fun q hq => (s4 q hq).trans (o2 q hq)⟩)
  have hD : ∀ j, kr_bd (kr_bf (kr_L (km_gr (σM.1 1) m (-1)) N) (kr_one (4 * o)) (4 * n) j) := fun j => kr_bd_in (hLin (4 * n) (by omega) 0 (by omega)) (by decide) j
  have hlst : ∀ k, kr_bd (kr_lst (kr_bf (kr_L (km_gr (σM.1 1) m (-1)) N) (kr_one (4 * o)) (4 * n)) t k) := fun k => by
    induction k with
    | zero => exact kr_bd_none
    | succ k ih =>
      rw [kr_lst_s]
      unfold kr_mn
      split
      · exact hD _
      · exact ih
  obtain ⟨x, hx, x1⟩ := kw_for (body := fun s => bX10_free_226 (nI t) (nI N) ρ2 s.1 s.2) (fun k s => s.1 = km_enc (kr_lst (kr_bf (kr_L (km_gr (σM.1 1) m (-1)) N) (kr_one (4 * o)) (4 * n)) t k) ∧ s.2 = nI k) (fun x => x = km_enc (kr_lst (kr_bf (kr_L (km_gr (σM.1 1) m (-1)) N) (kr_one (4 * o)) (4 * n)) t (N + 1))) (N + 1) (by omega) (s0 := ((900000000000000000 : Int64), (0 : Int32))) ⟨rfl, rfl⟩ (fun k s hk hp => by
    obtain ⟨v, v5⟩ := s
    obtain ⟨e1, e2⟩ := hp
    dsimp only at e1 e2 ⊢
    subst e1 e2
    unfold bX10_free_226
    simp only [kn_lt (show N < 2147483648 by omega) (show k < 2147483648 by omega)]
    by_cases hk2 : k < N + 1
    case neg =>
      right
      obtain rfl : k = N + 1 := by omega
      rw [if_pos (by omega)]
      exact ⟨_, rfl, rfl⟩
    left
    refine ⟨hk2, ?_⟩
    rw [if_neg (by omega), kn_4, kn_mul, nI_add, kn_chk (by omega) (by decide), kn_clamp (by omega), d1 _ (by omega)]
    simp only [km_enc_le (hlst k) (hD _), kw_let_def, km_next]
    rw [kr_lst_s]
    unfold kr_mn
    cases hl : kr_ls (kr_bf (kr_L (km_gr (σM.1 1) m (-1)) N) (kr_one (4 * o)) (4 * n) (4 * t + k)) (kr_lst (kr_bf (kr_L (km_gr (σM.1 1) m (-1)) N) (kr_one (4 * o)) (4 * n)) t k) with
    | false => rw [kn_ff, kn_ft]; exact ⟨_, rfl, rfl, rfl⟩
    | true => rw [kn_tf, kn_tt]; exact ⟨_, rfl, rfl, rfl⟩)
  rw [r1, Option.bind_some, f1, Option.bind_some, hρ1, Option.bind_some, hρ2, Option.bind_some, hx, Option.bind_some, x1, km_told (hlst _), Option.bind_some, kr_free hg htn hon ht (show N ≤ 3 by omega)]
  refine ⟨_, _, _, rfl, rfl, kw_Rel_a hok hsh hkp htp ⟨?_, ?_, ?_⟩ (km_q_e d2)⟩
  · exact ⟨fun c hc => by rw [f2]; exact r3 c (by omega), fun c hc => (f3 c (by omega) (by omega)).trans (r4 c (by omega) (by omega))⟩
  · exact ⟨fun c hc => by rw [f2]; exact r3 c (by omega), fun c hc => (f3 c (by omega) (by omega)).trans (r4 c (by omega) (by omega))⟩
  · exact Or.inr (kx_prt_eq r2 f2 (f3 39 (by decide) (by decide)))
