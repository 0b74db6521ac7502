/-! Calls that change one road, and the origin. -/
theorem kb_up_wf {F : Nat → Int32} {n m r w : Nat} {x : Int32} (h : kb_wf F n m) (hr : r < m) (hw : (w = 2 ∧ -1000000000 ≤ x.toInt ∧ x.toInt ≤ 1000000000) ∨ (w = 3 ∧ (x = 0 ∨ x = 1))) : kb_wf (upd (kb_beg F) (28 + 4 * r + w) x) n m := by
  obtain ⟨a, b, c, ⟨p1, p2, p3⟩, q⟩ := h
  refine ⟨by rw [kw_upd_n (by omega), kb_beg_o (by decide)]; exact a, b, c, ⟨p1, by rw [kw_upd_n (by omega), kb_beg_o (by decide)]; exact p2, fun i hi => ?_⟩, fun i hi => ?_⟩
  · obtain ⟨x1, x2, x3, x4⟩ := p3 i hi
    rw [kw_upd_n (by omega), kw_upd_n (by omega), kb_beg_o (by omega), kb_beg_o (by omega)]
    refine ⟨x1, x2, ?_⟩
    by_cases e : 28 + 4 * i + 2 = 28 + 4 * r + w
    · rw [e, kw_upd_e]
      have : w = 2 := by omega
      rcases hw with ⟨_, h1, h2⟩ | ⟨h1, _⟩
      · exact ⟨h1, h2⟩
      · omega
    · rw [kw_upd_n e, kb_beg_o (by omega)]
      exact ⟨x3, x4⟩
  · obtain ⟨x1, x2, x3⟩ := q i hi
    rw [kw_upd_n (by omega), kw_upd_n (by omega), kb_beg_o (by omega), kb_beg_o (by omega)]
    refine ⟨x1, x2, ?_⟩
    by_cases e : 28 + 4 * i + 3 = 28 + 4 * r + w
    · rw [e, kw_upd_e]
      rcases hw with ⟨h1, _⟩ | ⟨_, h2⟩
      · omega
      · exact h2
    · rw [kw_upd_n e, kb_beg_o (by omega)]
      exact x3
theorem ko_road {σX σM σX1 ρ1 ρ2 : kw_M} {n m o r w : Nat} {x : Int32} (hok : kb_ok (σM.1 1) n m o) (hsh : kx_sh σX 1 12 (σM.1 1) n m o) (hkp : kx_kp σX σM) (htp : kx_tp σX σM) (hpr : kx_pr σX (σM.1 1) n m) (hr : r < m) (hw : (w = 2 ∧ -1000000000 ≤ x.toInt ∧ x.toInt ≤ 1000000000) ∨ (w = 3 ∧ (x = 0 ∨ x = 1))) (k10 : kx_kO σX σX1 ∧ kx_kN σX σX1 ∧ σX1.1 5 = σX.1 5 ∧ σX1.2 39 = σX.2 39) (hrd : kx_rd σX1 10 (upd (σM.1 1) (28 + 4 * r + w) x) m) (r2 : ρ1.1 1 = kb_beg (σM.1 1)) (r3 : ∀ c, c ≠ 1 → ρ1.1 c = σM.1 c) (r4 : ∀ t, t < 12 → ρ1.2 4 t = km_enc (kb_D (σM.1 1) n m o t)) (i2 : ρ2.1 = (kw_ri ρ1 1 (upd (kb_beg (σM.1 1)) (28 + 4 * r + w) x)).1) (i3 : ρ2.2 4 = ρ1.2 4) : ∃ a τX τM, fX9_doChange (nI r) (nI o) σX1 = some (a, τX) ∧ fX10_ends (kx_fl (decide (upd (kb_beg (σM.1 1)) (28 + 4 * r + w) x (28 + 4 * r + 3) = 1) && kb_ring (upd (kb_beg (σM.1 1)) (28 + 4 * r + w) x) n m r)) ρ2 = some (a, τM) ∧ kw_Rel τX τM := by
  have hm := hok.1.2.2.2.1.1
  have hwG := kb_up_wf hok.1 hr hw
  have hfile : ρ2.1 1 = upd (kb_beg (σM.1 1)) (28 + 4 * r + w) x := by rw [i2, kw_ri_1]
  have hw4 : w < 4 := by omega
  have hgood : kr_good (km_gr (upd (kb_beg (σM.1 1)) (28 + 4 * r + w) x) m (nI r)) := by
    refine kr_sub_good hok.2.2.2.1 (fun i hi hu => ?_)
    have hi' : i < m := hi
    have hu' := of_decide_eq_true hu
    have hne : i ≠ r := fun e => hu'.2 (by rw [e])
    have hro : ∀ k, k < 4 → upd (kb_beg (σM.1 1)) (28 + 4 * r + w) x (28 + 4 * i + k) = σM.1 1 (28 + 4 * i + k) := fun k hk => by rw [kw_upd_n (by omega), kb_beg_o (by omega)]
    refine ⟨hi', decide_eq_true ⟨?_, kb_neg1 (by omega)⟩, ?_, ?_, ?_⟩
    · rw [← hro 3 (by decide)]
      exact hu'.1
    · show (σM.1 1 (28 + 4 * i + 0)).toNatClampNeg = (upd (kb_beg (σM.1 1)) (28 + 4 * r + w) x (28 + 4 * i + 0)).toNatClampNeg
      rw [hro 0 (by decide)]
    · show (σM.1 1 (28 + 4 * i + 1)).toNatClampNeg = (upd (kb_beg (σM.1 1)) (28 + 4 * r + w) x (28 + 4 * i + 1)).toNatClampNeg
      rw [hro 1 (by decide)]
    · show (σM.1 1 (28 + 4 * i + 2)).toInt = (upd (kb_beg (σM.1 1)) (28 + 4 * r + w) x (28 + 4 * i + 2)).toInt
      rw [hro 2 (by decide)]
  obtain ⟨a, τX, τM, f1, f2, f3, f4⟩ := kw_change (σX := σX) (σM := σM) (σX1 := σX1) (σM1 := ρ2) (n := n) (m := m) (m0 := m) (o := o) (o0 := o) (v := nI r) (ring := decide (upd (kb_beg (σM.1 1)) (28 + 4 * r + w) x (28 + 4 * r + 3) = 1) && kb_ring (upd (kb_beg (σM.1 1)) (28 + 4 * r + w) x) n m r) hok hsh hkp htp hpr k10.1 k10.2.1 k10.2.2.1 k10.2.2.2 (by
      rw [hfile]
      refine kx_rd_eq hrd ?_ ?_ (fun j h1 h2 => ?_)
      · rw [kw_upd_n (by omega), kw_upd_n (by omega), kb_beg_o (by decide)]
      · rw [kw_upd_n (by omega), kw_upd_n (by omega), kb_beg_o (by decide)]
      · unfold upd
        rw [kb_beg_o (by omega)]) (by
      refine ⟨fun j h1 h2 => ?_, ?_, ?_, ?_⟩
      · rw [hfile, kw_upd_n (by omega), kb_beg_o (by omega)]
      · rw [i2, kw_ri_o (by decide), r3 0 (by decide)]
      · rw [i2, kw_ri_o (by decide), r3 0 (by decide)]
      · rw [i2, kw_ri_o (by decide), r3 5 (by decide)]) (fun j hj => by rw [hfile, kw_upd_n (by omega), kb_beg_2 hj]) (fun t ht => by rw [i3]; exact r4 t ht) (fun j hj => by rw [hfile, kw_upd_n (by omega), kb_beg_o (by omega)]) (by rw [hfile]; exact hwG) (by rw [hfile, kw_upd_n (by omega), kb_beg_o (by decide)]; exact hok.2.1) hok.2.2.1 (by
      rw [hfile]
      exact Or.inr ⟨r, hr, rfl, hgood, rfl⟩)
  exact ⟨a, τX, τM, f1, f2, f3⟩
theorem km_ring_j {α : Type} {b : Bool} {f : Int32 → Option α} {g : Option α} (h : g = f 0) : (if kx_fl b = 0 then g else f 1) = f (kx_fl b) := by
  cases b
  · rw [if_pos (show kx_fl false = 0 by decide), h]; rfl
  · rw [if_neg (show ¬ kx_fl true = 0 by decide)]; rfl
theorem ko_length {σX σM : kw_M} {a1 a2 : Int32} (hR : kw_Rel σX σM) : ∃ a τX τM, fX9_changeLength a1 a2 σX = some (a, τX) ∧ fX10_length a1 a2 σM = some (a, τM) ∧ kw_Rel τX τM := by
  obtain ⟨n, m, o, hok, hsh, hkp, htp, hpr⟩ := hR
  have h12 := hok.1.2.2.1
  have hm := hok.1.2.2.2.1.1
  have hmX : σX.1 12 1 = nI m := hsh.1.2.1.trans hok.1.2.2.2.1.2.1
  unfold fX9_changeLength fX10_length
  rw [kx_hasRoad hmX hm, km_isRoad hok.1.2.2.2.1.2.1 hm, kx_isLength, km_isLength]
  simp only [Option.bind_some, kx_fl_0]
  by_cases t1 : 0 ≤ a1.toInt ∧ a1.toInt < m
  case neg =>
    simp only [decide_eq_false t1, kn_ff]
    exact ⟨_, _, _, rfl, rfl, n, m, o, hok, hsh, hkp, htp, hpr⟩
  simp only [decide_eq_true t1, kn_tf]
  by_cases t4 : -1000000000 ≤ a2.toInt ∧ a2.toInt ≤ 1000000000
  case neg =>
    simp only [decide_eq_false t4, kn_ff]
    exact ⟨_, _, _, rfl, rfl, n, m, o, hok, hsh, hkp, htp, hpr⟩
  simp only [decide_eq_true t4, kn_tf]
  obtain ⟨r, hr, rfl⟩ := kw_arg (by omega) t1
  have hfar : σX.1 20 r = σM.1 1 (28 + 4 * r + 2) := (hsh.1.2.2.1 r hr).2.2
  rw [kn_chk (by omega) (by decide), kn_clamp (by omega), hfar, km_of2 (by omega), Option.bind_some]
  by_cases t5 : σM.1 1 (28 + 4 * r + 2) = a2
  · rw [if_pos t5, if_pos t5]
    exact ⟨_, _, _, rfl, rfl, n, m, o, hok, hsh, hkp, htp, hpr⟩
  rw [if_neg t5, if_neg t5]
  obtain ⟨σ1, c1, c2, c3, c4⟩ := kx_copy10 hok hsh
  obtain ⟨ρ1, r1, r2, r3, r4⟩ := km_begins' hok
  rw [c1, Option.bind_some, kw_let_def, r1, Option.bind_some, show fX10_sets (nI r) 2 a2 = fX10_sets (nI r) (nI 2) a2 from rfl, km_sets (by omega) (by decide), Option.bind_some, r2, km_isOpen (by omega), Option.bind_some, kw_ri_1]
  have hw : (2 = 2 ∧ -1000000000 ≤ a2.toInt ∧ a2.toInt ≤ 1000000000) ∨ (2 = 3 ∧ (a2 = 0 ∨ a2 = 1)) := Or.inl ⟨rfl, t4⟩
  have hwG := kb_up_wf (r := r) hok.1 hr hw
  have k10 := kx_kO_10 (σ := σX) (τ := kw_si σ1 34 r a2) (fun q h1 h2 h3 h4 => (kw_si_o h4).trans (c3 q h1 h2 h3 h4)) (fun q h1 => c4 q h1)
  have hor : (kw_si σ1 34 r a2).1 1 2 = nI o := by
    rw [k10.2.1.1 1 (by omega), hsh.2.1.1]
    exact hok.2.1
  have hrd : kx_rd (kw_si σ1 34 r a2) 10 (upd (σM.1 1) (28 + 4 * r + 2) a2) m := by
    obtain ⟨g0, g1, g2, g3⟩ := c2
    refine ⟨?_, ?_, fun i hi => ?_, fun i hi => ?_⟩
    · rw [kw_si_o (by decide), kw_upd_n (by omega)]; exact g0
    · rw [kw_si_o (by decide), kw_upd_n (by omega)]; exact g1
    · obtain ⟨y1, y2, y3⟩ := g2 i hi
      refine ⟨?_, ?_, ?_⟩
      · rw [kw_si_o (by decide), kw_upd_n (by omega)]; exact y1
      · rw [kw_si_o (by decide), kw_upd_n (by omega)]; exact y2
      · show (kw_si σ1 34 r a2).1 34 i = _
        rw [kw_si_1]
        by_cases e : i = r
        · rw [e, kw_upd_e, kw_upd_e]
        · rw [kw_upd_n e, kw_upd_n (by omega)]; exact y3
    · rw [kw_si_2, g3 i hi, kw_upd_n (by omega)]
  have hop3 : upd (kb_beg (σM.1 1)) (28 + 4 * r + 2) a2 (28 + 4 * r + 3) = σM.1 1 (28 + 4 * r + 3) := by rw [kw_upd_n (by omega), kb_beg_o (by omega)]
  rw [hor, hop3]
  by_cases ho : σM.1 1 (28 + 4 * r + 3) = 1
  · rw [if_pos ho, if_neg (by decide)]
    obtain ⟨ρ2, i1, i2, i3⟩ := km_isRing' (σ := kw_ri ρ1 1 (upd (kb_beg (σM.1 1)) (28 + 4 * r + 2) a2)) (m := m) (n := n) (r := r) (by rw [kw_ri_1]; exact hwG.2.2.2.1) (by rw [kw_ri_1]; exact hwG.1) (by have := hok.1.2.1; omega) h12 hr
    obtain ⟨a, τX, τM, f1, f2, f3⟩ := ko_road (w := 2) (x := a2) hok hsh hkp htp hpr hr hw k10 hrd r2 r3 r4 i2 (i3 4 (by decide))
    rw [hop3, decide_eq_true ho, Bool.true_and] at f2
    rw [f1, Option.bind_some, i1, Option.bind_some, kw_ri_1]
    dsimp only
    unfold jX10_length_63
    rw [km_ring_j (f := fun v => jX10_length_64 v ρ2) rfl]
    unfold jX10_length_64
    rw [f2]
    exact ⟨a, τX, τM, rfl, rfl, f3⟩
  · rw [if_neg ho, if_pos rfl]
    obtain ⟨a, τX, τM, f1, f2, f3⟩ := ko_road (ρ2 := kw_ri ρ1 1 (upd (kb_beg (σM.1 1)) (28 + 4 * r + 2) a2)) (w := 2) (x := a2) hok hsh hkp htp hpr hr hw k10 hrd r2 r3 r4 rfl rfl
    rw [hop3, decide_eq_false ho, Bool.false_and] at f2
    have f2' : fX10_ends 0 (kw_ri ρ1 1 (upd (kb_beg (σM.1 1)) (28 + 4 * r + 2) a2)) = some (a, τM) := f2
    unfold jX10_length_63 jX10_length_64
    rw [f1, Option.bind_some, f2', Option.bind_some]
    exact ⟨a, τX, τM, rfl, rfl, f3⟩
theorem kx_isOpenR {σ : kw_M} {F : Nat → Int32} {m r : Nat} (hrd : kx_rd σ 12 F m) (hw : km_wf F m) (hr : r < m) : fX4_isOpen 12 (nI r) σ = some (kx_fl (decide (F (28 + 4 * r + 3) = 1))) := by
  rw [kx_isOpen hw.1 (hrd.2.1.trans hw.2.1) hr]
  simp only [kx_rd_op hrd hw.1 hr]
  by_cases h : F (28 + 4 * r + 3) = 1
  · rw [if_pos h, decide_eq_true h]; rfl
  · rw [if_neg h, decide_eq_false h]; rfl
theorem ko_turn {σX σM : kw_M} {a1 : Int32} {b : Bool} (hR : kw_Rel σX σM) : ∃ a τX τM, fX9_turnRoad a1 (kx_fl b) σX = some (a, τX) ∧ fX10_turns a1 (kx_fl b) σM = some (a, τM) ∧ kw_Rel τX τM := by
  obtain ⟨n, m, o, hok, hsh, hkp, htp, hpr⟩ := hR
  have h12 := hok.1.2.2.1
  have hm := hok.1.2.2.2.1.1
  have hmX : σX.1 12 1 = nI m := hsh.1.2.1.trans hok.1.2.2.2.1.2.1
  unfold fX9_turnRoad fX10_turns
  rw [kx_hasRoad hmX hm, km_isRoad hok.1.2.2.2.1.2.1 hm]
  simp only [Option.bind_some, kx_fl_0]
  by_cases t1 : 0 ≤ a1.toInt ∧ a1.toInt < m
  case neg =>
    simp only [decide_eq_false t1, kn_ff]
    exact ⟨_, _, _, rfl, rfl, n, m, o, hok, hsh, hkp, htp, hpr⟩
  simp only [decide_eq_true t1, kn_tf]
  obtain ⟨r, hr, rfl⟩ := kw_arg (by omega) t1
  have h01 := (hok.1.2.2.2.2 r hr).2.2
  have h3 : σM.1 1 (28 + 4 * r + 3) = kx_fl (decide (σM.1 1 (28 + 4 * r + 3) = 1)) := by
    rcases h01 with h | h
    · rw [h]; rfl
    · rw [h]; rfl
  rw [kx_isOpenR hsh.1 hok.1.2.2.2.1 hr, Option.bind_some, km_of3 (by omega), Option.bind_some]
  have h3e : (σM.1 1 (28 + 4 * r + 3) = kx_fl b) = (decide (σM.1 1 (28 + 4 * r + 3) = 1) = b) := by
    rw [← kx_fl_eq, ← h3]
  simp only [kx_fl_eq, h3e]
  by_cases t5 : decide (σM.1 1 (28 + 4 * r + 3) = 1) = b
  · rw [if_pos t5, if_pos t5]
    exact ⟨_, _, _, rfl, rfl, n, m, o, hok, hsh, hkp, htp, hpr⟩
  rw [if_neg t5, if_neg t5]
  obtain ⟨σ1, c1, c2, c3, c4⟩ := kx_copy10 hok hsh
  obtain ⟨ρ1, r1, r2, r3, r4⟩ := km_begins' hok
  unfold fX4_flip
  rw [c1, Option.bind_some, kw_let_def, Option.bind_some, r1, Option.bind_some, show fX10_sets (nI r) 3 (kx_fl b) = fX10_sets (nI r) (nI 3) (kx_fl b) from rfl, km_sets (by omega) (by decide), Option.bind_some, r2]
  have hw : (3 = 2 ∧ -1000000000 ≤ (kx_fl b).toInt ∧ (kx_fl b).toInt ≤ 1000000000) ∨ (3 = 3 ∧ (kx_fl b = 0 ∨ kx_fl b = 1)) := Or.inr ⟨rfl, by cases b <;> decide⟩
  have hwG := kb_up_wf (r := r) hok.1 hr hw
  have k10 := kx_kO_10 (σ := σX) (τ := kw_sl σ1 10 2 (σ1.2 10 2 ^^^ ((1 : Int64) <<< ((nI r).toInt64 &&& 63)))) (fun q h1 h2 h3 h4 => c3 q h1 h2 h3 h4) (fun q h1 => (kw_sl_o h1).trans (c4 q h1))
  have hor : (kw_sl σ1 10 2 (σ1.2 10 2 ^^^ ((1 : Int64) <<< ((nI r).toInt64 &&& 63)))).1 1 2 = nI o := by
    rw [k10.2.1.1 1 (by omega), hsh.2.1.1]
    exact hok.2.1
  have hrd : kx_rd (kw_sl σ1 10 2 (σ1.2 10 2 ^^^ ((1 : Int64) <<< ((nI r).toInt64 &&& 63)))) 10 (upd (σM.1 1) (28 + 4 * r + 3) (kx_fl b)) m := by
    obtain ⟨g0, g1, g2, g3⟩ := c2
    refine ⟨?_, ?_, fun i hi => ?_, fun i hi => ?_⟩
    · rw [kw_sl_1, kw_upd_n (by omega)]; exact g0
    · rw [kw_sl_1, kw_upd_n (by omega)]; exact g1
    · rw [kw_sl_1, kw_upd_n (by omega), kw_upd_n (by omega), kw_upd_n (by omega)]
      exact g2 i hi
    · rw [kw_sl_2, kw_updL_e, kw_bL_xor, kw_upL (by omega) i hi, g3 i hi]
      by_cases e : i = r
      · subst e
        rw [kw_upd_e, decide_eq_true (show i = i from rfl), Bool.xor_true]
        have hb : b = !decide (σM.1 1 (28 + 4 * i + 3) = 1) := by
          cases b <;> cases hq : decide (σM.1 1 (28 + 4 * i + 3) = 1)
          · exact absurd hq t5
          · rfl
          · rfl
          · exact absurd hq t5
        rw [show decide (i < m ∧ σM.1 1 (28 + 4 * i + 3) = 1) = decide (σM.1 1 (28 + 4 * i + 3) = 1) from decide_eq_decide.mpr ⟨fun z => z.2, fun z => ⟨hr, z⟩⟩, show decide (i < m ∧ kx_fl b = 1) = b from by cases b <;> simp [kx_fl, hr]]
        exact hb.symm
      · rw [decide_eq_false e, Bool.xor_false, kw_upd_n (by omega)]
  have hop3 : upd (kb_beg (σM.1 1)) (28 + 4 * r + 3) (kx_fl b) (28 + 4 * r + 3) = kx_fl b := kw_upd_e _ _ _
  rw [hor]
  simp only [kx_fl_1]
  cases b with
  | true =>
    rw [if_pos rfl]
    obtain ⟨ρ2, i1, i2, i3⟩ := km_isRing' (σ := kw_ri ρ1 1 (upd (kb_beg (σM.1 1)) (28 + 4 * r + 3) (kx_fl true))) (m := m) (n := n) (r := r) (by rw [kw_ri_1]; exact hwG.2.2.2.1) (by rw [kw_ri_1]; exact hwG.1) (by have := hok.1.2.1; omega) h12 hr
    obtain ⟨a, τX, τM, f1, f2, f3⟩ := ko_road (w := 3) (x := kx_fl true) hok hsh hkp htp hpr hr hw k10 hrd r2 r3 r4 i2 (i3 4 (by decide))
    rw [hop3, decide_eq_true (show kx_fl true = 1 from rfl), Bool.true_and] at f2
    rw [f1, Option.bind_some, i1, Option.bind_some, kw_ri_1]
    dsimp only
    unfold jX10_turns_52
    rw [km_ring_j (f := fun v => jX10_turns_53 v ρ2) rfl]
    unfold jX10_turns_53
    rw [f2]
    exact ⟨a, τX, τM, rfl, rfl, f3⟩
  | false =>
    rw [if_neg (by decide)]
    obtain ⟨a, τX, τM, f1, f2, f3⟩ := ko_road (ρ2 := kw_ri ρ1 1 (upd (kb_beg (σM.1 1)) (28 + 4 * r + 3) (kx_fl false))) (w := 3) (x := kx_fl false) hok hsh hkp htp hpr hr hw k10 hrd r2 r3 r4 rfl rfl
    rw [hop3, decide_eq_false (show ¬ kx_fl false = 1 by decide), Bool.false_and] at f2
    have f2' : fX10_ends 0 (kw_ri ρ1 1 (upd (kb_beg (σM.1 1)) (28 + 4 * r + 3) (kx_fl false))) = some (a, τM) := f2
    unfold jX10_turns_52 jX10_turns_53
    rw [f1, Option.bind_some, f2', Option.bind_some]
    exact ⟨a, τX, τM, rfl, rfl, f3⟩
theorem ko_origin {σX σM : kw_M} {a1 : Int32} (hR : kw_Rel σX σM) : ∃ a τX τM, fX9_moveOrigin a1 σX = some (a, τX) ∧ fX10_origin a1 σM = some (a, τM) ∧ kw_Rel τX τM := by
  obtain ⟨n, m, o, hok, hsh, hkp, htp, hpr⟩ := hR
  have h12 := hok.1.2.2.1
  have hm := hok.1.2.2.2.1.1
  have hnX : σX.1 12 0 = nI n := hsh.1.1.trans hok.1.1
  unfold fX9_moveOrigin fX10_origin
  rw [kx_hasTown hnX h12, km_isTown hok.1.1 h12]
  simp only [Option.bind_some, kx_fl_0]
  by_cases t1 : 0 ≤ a1.toInt ∧ a1.toInt < n
  case neg =>
    simp only [decide_eq_false t1, kn_ff]
    exact ⟨_, _, _, rfl, rfl, n, m, o, hok, hsh, hkp, htp, hpr⟩
  simp only [decide_eq_true t1, kn_tf]
  obtain ⟨t, ht, rfl⟩ := kw_arg (by omega) t1
  have horX : σX.1 1 2 = nI o := hsh.2.1.1.trans hok.2.1
  have hon := hok.2.2.1
  rw [horX, hok.2.1]
  simp (disch := omega) only [kn_eq]
  by_cases t5 : o = t
  · rw [if_pos t5, if_pos t5.symm]
    exact ⟨_, _, _, rfl, rfl, n, m, o, hok, hsh, hkp, htp, hpr⟩
  rw [if_neg t5, if_neg (fun q => t5 q.symm)]
  obtain ⟨σ1, c1, c2, c3, c4⟩ := kx_copy10 hok hsh
  obtain ⟨ρ1, r1, r2, r3, r4⟩ := km_begins' hok
  rw [c1, Option.bind_some, r1, Option.bind_some, kw_let_def, kw_si_d, r2]
  have k10 := kx_kO_10 c3 c4
  have hroad : ∀ j, 28 ≤ j → j < 28 + 4 * m → (upd (kb_beg (σM.1 1)) 2 (nI t)) j = σM.1 1 j := fun j h1 h2 => by rw [kw_upd_n (by omega), kb_beg_o (by omega)]
  obtain ⟨a, τX, τM, f1, f2, f3, f4⟩ := kw_change (σX := σX) (σM := σM) (σX1 := σ1) (σM1 := kw_ri ρ1 1 (upd (kb_beg (σM.1 1)) 2 (nI t))) (n := n) (m := m) (m0 := m) (o := t) (o0 := o) (v := -1) (ring := false) hok hsh hkp htp hpr k10.1 k10.2.1 k10.2.2.1 k10.2.2.2 (by
      rw [kw_ri_1]
      refine kx_rd_eq c2 ?_ ?_ hroad
      · rw [kw_upd_n (by omega), kb_beg_o (by decide)]
      · rw [kw_upd_n (by omega), kb_beg_o (by decide)]) (by
      refine ⟨fun j h1 h2 => ?_, ?_, ?_, ?_⟩
      · rw [kw_ri_1, kw_upd_n (by omega), kb_beg_o (by omega)]
      · rw [kw_ri_o (by decide), r3 0 (by decide)]
      · rw [kw_ri_o (by decide), r3 0 (by decide)]
      · rw [kw_ri_o (by decide), r3 5 (by decide)]) (fun j hj => by rw [kw_ri_1, kw_upd_n (by omega), kb_beg_2 hj]) (fun t ht => by rw [kw_ri_2]; exact r4 t ht) (fun j hj => by rw [kw_ri_1, kw_upd_n (by omega), kb_beg_o (by omega)]) (by
      rw [kw_ri_1]
      refine kb_wf_eq hok.1 ?_ ?_ hroad
      · rw [kw_upd_n (by omega), kb_beg_o (by decide)]
      · rw [kw_upd_n (by omega), kb_beg_o (by decide)]) (by rw [kw_ri_1, kw_upd_e]) ht (by
      rw [kw_ri_1]
      exact Or.inl ⟨rfl, rfl, kr_same_good (kr_same_symm (kb_gr_same hroad (-1))) hok.2.2.2.1⟩)
  have f2' : fX10_ends 0 (kw_ri ρ1 1 (upd (kb_beg (σM.1 1)) 2 (nI t))) = some (a, τM) := f2
  rw [f1, Option.bind_some, f2', Option.bind_some]
  exact ⟨a, τX, τM, rfl, rfl, f3⟩
