/-! One road is changed: the reference alone; ifLength. -/
/-- what a change answers -/
def kb_ans (F G : Nat → Int32) (n m o : Nat) (ring : Bool) : Int32 := if kb_judge G n m o ring = 0 then nI (kb_cnt (kb_D G n m o) (kb_D F n m o) n) else kb_judge G n m o ring
def kb_rg (G : Nat → Int32) (n m r : Nat) : Bool := decide (G (28 + 4 * r + 3) = 1) && kb_ring G n m r
theorem kb_one_good {F : Nat → Int32} {n m o r w : Nat} {x : Int32} (hok : kb_ok F n m o) (hw : w < 4) : kr_good (km_gr (upd (kb_beg F) (28 + 4 * r + w) x) m (nI r)) := by
  have hm := hok.1.2.2.2.1.1
  refine kr_sub_good hok.2.2.2.1 (fun i hi hu => ?_)
  have hi' : i < m := hi
  have hu' := of_decide_eq_true hu
  have hne : i ≠ r := fun e => hu'.2 (by rw [e])
  have hro : ∀ k, k < 4 → upd (kb_beg F) (28 + 4 * r + w) x (28 + 4 * i + k) = F (28 + 4 * i + k) := fun k hk => by rw [kw_upd_n (by omega), kb_beg_o (by omega)]
  refine ⟨hi', decide_eq_true ⟨?_, kb_neg1 (by omega)⟩, ?_, ?_, ?_⟩
  · rw [← hro 3 (by decide)]
    exact hu'.1
  · show (F (28 + 4 * i + 0)).toNatClampNeg = (upd (kb_beg F) (28 + 4 * r + w) x (28 + 4 * i + 0)).toNatClampNeg
    rw [hro 0 (by decide)]
  · show (F (28 + 4 * i + 1)).toNatClampNeg = (upd (kb_beg F) (28 + 4 * r + w) x (28 + 4 * i + 1)).toNatClampNeg
    rw [hro 1 (by decide)]
  · show (F (28 + 4 * i + 2)).toInt = (upd (kb_beg F) (28 + 4 * r + w) x (28 + 4 * i + 2)).toInt
    rw [hro 2 (by decide)]
theorem km_one {σM ρ1 ρ2 : kw_M} {n m o r w : Nat} {x : Int32} (hok : kb_ok (σM.1 1) n m o) (hr : r < m) (hw : (w = 2 ∧ -1000000000 ≤ x.toInt ∧ x.toInt ≤ 1000000000) ∨ (w = 3 ∧ (x = 0 ∨ x = 1))) (r3 : ∀ c, c ≠ 1 → ρ1.1 c = σM.1 c) (r4 : ∀ t, t < 12 → ρ1.2 4 t = km_enc (kb_D (σM.1 1) n m o t)) (i2 : ρ2.1 = (kw_ri ρ1 1 (upd (kb_beg (σM.1 1)) (28 + 4 * r + w) x)).1) (i3 : ρ2.2 4 = ρ1.2 4) : ∃ τM, fX10_ends (kx_fl (kb_rg (upd (kb_beg (σM.1 1)) (28 + 4 * r + w) x) n m r)) ρ2 = some (kb_ans (σM.1 1) (upd (kb_beg (σM.1 1)) (28 + 4 * r + w) x) n m o (kb_rg (upd (kb_beg (σM.1 1)) (28 + 4 * r + w) x) n m r), τM) ∧ (¬ kb_judge (upd (kb_beg (σM.1 1)) (28 + 4 * r + w) x) n m o (kb_rg (upd (kb_beg (σM.1 1)) (28 + 4 * r + w) x) n m r) = 0 → ∀ j, j < 708 → τM.1 1 j = σM.1 1 j) ∧ (kb_judge (upd (kb_beg (σM.1 1)) (28 + 4 * r + w) x) n m o (kb_rg (upd (kb_beg (σM.1 1)) (28 + 4 * r + w) x) n m r) = 0 → kb_ok (τM.1 1) n m o ∧ (∀ j, j < 3 → τM.1 1 j = σM.1 1 j) ∧ τM.1 1 5 = σM.1 1 5 ∧ ∀ j, 28 ≤ j → j < 172 → τM.1 1 j = upd (σM.1 1) (28 + 4 * r + w) x j) ∧ (∀ j, ((708 ≤ j ∧ j < 1416) ∨ 2124 ≤ j) → τM.1 1 j = σM.1 1 j) ∧ ∀ c, c ≠ 1 → τM.1 c = σM.1 c := by
  have hm := hok.1.2.2.2.1.1
  have h2 := hok.1.2.1
  have h12 := hok.1.2.2.1
  have hon := hok.2.2.1
  have hw4 : w < 4 := by omega
  have hwG := kb_up_wf hok.1 hr hw
  have hfile : ρ2.1 1 = upd (kb_beg (σM.1 1)) (28 + 4 * r + w) x := by rw [i2, kw_ri_1]
  have hcell : ∀ c, c ≠ 1 → ρ2.1 c = σM.1 c := fun c hc => by rw [i2, kw_ri_o hc, r3 c hc]
  have hgood := kb_one_good (r := r) (x := x) hok hw4
  obtain ⟨e', he2, he⟩ := hok.2.2.2.2.2.2.1
  have heG : ρ2.1 1 4 = nI e' := by rw [hfile, kw_upd_n (by omega), kb_beg_o (by decide)]; exact he
  have hE : ∀ u, kr_bd (kb_D (σM.1 1) n m o u) := fun u => kb_D_bd hok.1.2.2.2.1 h12 u
  have hends := km_ends (σ := ρ2) (n := n) (m := m) (o := o) (E := kb_D (σM.1 1) n m o) (by rw [hfile]; exact hwG.2.2.2.1) (by rw [hfile]; exact hwG.1) (by omega) h12 (by rw [hfile, kw_upd_n (by omega), kb_beg_o (by decide)]; exact hok.2.1) (by omega) heG he2 (fun u hu => by rw [i3]; exact r4 u hu) hE
  have big : ∀ j, ((708 ≤ j ∧ j < 1416) ∨ 2124 ≤ j) → ρ2.1 1 j = σM.1 1 j := fun j hj => by
    rw [hfile, kw_upd_n (by omega)]
    unfold kb_beg va_cpy
    rw [if_neg (by omega)]
  have back : ∀ τM : kw_M, km_fr ρ2 τM → τM.1 1 = va_cpy (ρ2.1 1) (ρ2.1 1) 1416 0 708 → (∀ j, j < 708 → τM.1 1 j = σM.1 1 j) ∧ (∀ j, ((708 ≤ j ∧ j < 1416) ∨ 2124 ≤ j) → τM.1 1 j = σM.1 1 j) ∧ ∀ c, c ≠ 1 → τM.1 c = σM.1 c := fun τM f1 f2 => by
    refine ⟨fun j hj => ?_, fun j hj => ?_, fun c hc => (f1 c hc).trans (hcell c hc)⟩
    · rw [f2]
      unfold va_cpy
      rw [if_pos (by omega), show 1416 + (j - 0) = 1416 + j by omega, hfile, kw_upd_n (by omega), kb_beg_2 hj]
    · rw [f2]
      unfold va_cpy
      rw [if_neg (by omega)]
      exact big j hj
  rw [hfile] at hends
  cases hrg : kb_rg (upd (kb_beg (σM.1 1)) (28 + 4 * r + w) x) n m r with
  | true =>
    obtain ⟨τM, m1, m2, m3⟩ := km_ends_ring (σ := ρ2)
    obtain ⟨b1, b2, b3⟩ := back τM m2 m3
    have ej : kb_judge (upd (kb_beg (σM.1 1)) (28 + 4 * r + w) x) n m o true = -3 := if_pos rfl
    refine ⟨τM, ?_, fun _ => b1, fun q => absurd (ej.symm.trans q) (by decide), b2, b3⟩
    unfold kb_ans
    rw [ej, if_neg (by decide)]
    exact m1
  | false =>
    have hg : kr_good (km_gr (upd (kb_beg (σM.1 1)) (28 + 4 * r + w) x) m (-1)) := kb_hand_good (v := nI r) hwG (Or.inr ⟨r, hr, rfl, hgood, hrg.symm⟩)
    cases hb : kr_anyTo (kr_bad (kb_D (upd (kb_beg (σM.1 1)) (28 + 4 * r + w) x) n m o)) n with
    | true =>
      obtain ⟨τM, m1, m2, m3⟩ := hends.1 hb
      obtain ⟨b1, b2, b3⟩ := back τM m2 (by rw [hfile]; exact m3)
      have ej : kb_judge (upd (kb_beg (σM.1 1)) (28 + 4 * r + w) x) n m o false = -4 := by
        unfold kb_judge
        rw [if_neg (by decide), if_pos hb]
      refine ⟨τM, ?_, fun _ => b1, fun q => absurd (ej.symm.trans q) (by decide), b2, b3⟩
      unfold kb_ans
      rw [ej, if_neg (by decide)]
      exact m1
    | false =>
      obtain ⟨τM, m1, m2, m3⟩ := hends.2 hb
      have ej : kb_judge (upd (kb_beg (σM.1 1)) (28 + 4 * r + w) x) n m o false = 0 := by
        unfold kb_judge
        rw [if_neg (by decide), hb, if_neg (by decide)]
      have hch : kb_chg (σM.1 1) (upd (kb_beg (σM.1 1)) (28 + 4 * r + w) x) := fun j hj => by rw [kw_upd_n (by omega), kb_beg_o (by omega)]
      have heU : upd (kb_beg (σM.1 1)) (28 + 4 * r + w) x 4 = nI e' := by rw [← hfile]; exact heG
      have lowj : ∀ j, (j < 3 ∨ j = 5 ∨ (28 ≤ j ∧ j < 172)) → τM.1 1 j = upd (kb_beg (σM.1 1)) (28 + 4 * r + w) x j := fun j hj => by
        rw [m3]
        exact kb_end_o heU he2 h12 (Or.inl ⟨by omega, by omega, by omega, by omega, by omega, fun t ht => by omega⟩)
      refine ⟨τM, ?_, fun q => absurd ej q, fun _ => ⟨?_, ?_, ?_, ?_⟩, fun j hj => ?_, fun c hc => (m2 c hc).trans (hcell c hc)⟩
      · unfold kb_ans
        rw [ej, if_pos rfl]
        exact m1
      · rw [m3]
        exact kb_end_ok hok hch hwG (by rw [kw_upd_n (by omega), kb_beg_o (by decide)]; exact hok.2.1) hon hg hb
      · intro j hj
        rw [lowj j (by omega), kw_upd_n (by omega), kb_beg_o (by omega)]
      · rw [lowj 5 (by omega), kw_upd_n (by omega), kb_beg_o (by omega)]
      · intro j h1 h2
        rw [lowj j (by omega)]
        unfold upd
        rw [kb_beg_o (by omega)]
      · rw [m3, kb_end_o heU he2 h12 (Or.inr (by omega)), ← hfile]
        exact big j hj
/-- the reference's length at a road and a length that is another -/
theorem km_length1 {σM : kw_M} {n m o r : Nat} {x : Int32} (hok : kb_ok (σM.1 1) n m o) (hr : r < m) (hx : -1000000000 ≤ x.toInt ∧ x.toInt ≤ 1000000000) (hne : ¬ σM.1 1 (28 + 4 * r + 2) = x) : ∃ ρ1 ρ2, (∀ c, c ≠ 1 → ρ1.1 c = σM.1 c) ∧ (∀ t, t < 12 → ρ1.2 4 t = km_enc (kb_D (σM.1 1) n m o t)) ∧ ρ2.1 = (kw_ri ρ1 1 (upd (kb_beg (σM.1 1)) (28 + 4 * r + 2) x)).1 ∧ ρ2.2 4 = ρ1.2 4 ∧ fX10_length (nI r) x σM = (fX10_ends (kx_fl (kb_rg (upd (kb_beg (σM.1 1)) (28 + 4 * r + 2) x) n m r)) ρ2).bind (fun r => some (r.1, r.2)) := by
  have hm := hok.1.2.2.2.1.1
  have h12 := hok.1.2.2.1
  have hr1 : 0 ≤ (nI r).toInt ∧ (nI r).toInt < m := by rw [nI_toInt (by omega)]; omega
  have hwG := kb_up_wf (w := 2) (r := r) hok.1 hr (Or.inl ⟨rfl, hx⟩)
  obtain ⟨ρ1, r1, r2, r3, r4⟩ := km_begins' hok
  have hop3 : upd (kb_beg (σM.1 1)) (28 + 4 * r + 2) x (28 + 4 * r + 3) = σM.1 1 (28 + 4 * r + 3) := by rw [kw_upd_n (by omega), kb_beg_o (by omega)]
  have e0 : fX10_length (nI r) x σM = (if (if σM.1 1 (28 + 4 * r + 3) = 1 then (1 : Int32) else 0) = 0 then jX10_length_63 (kw_ri ρ1 1 (upd (kb_beg (σM.1 1)) (28 + 4 * r + 2) x)) else (fX10_isRing (nI r) (kw_ri ρ1 1 (upd (kb_beg (σM.1 1)) (28 + 4 * r + 2) x))).bind fun r12 => if r12.1 = (0 : Int32) then jX10_length_63 r12.2 else jX10_length_64 (1 : Int32) r12.2) := by
    unfold fX10_length
    rw [km_isRoad hok.1.2.2.2.1.2.1 hm, km_isLength]
    simp only [Option.bind_some, kx_fl_0, decide_eq_true hr1, decide_eq_true hx, kn_tf]
    rw [km_of2 (by omega), Option.bind_some, if_neg hne, r1, Option.bind_some, show fX10_sets (nI r) 2 x = fX10_sets (nI r) (nI 2) x from rfl, km_sets (by omega) (by decide), Option.bind_some, r2, km_isOpen (by omega), Option.bind_some, kw_ri_1, hop3]
  rw [e0]
  unfold kb_rg
  rw [hop3]
  by_cases ho : σM.1 1 (28 + 4 * r + 3) = 1
  · obtain ⟨ρ2, i1, i2, i3⟩ := km_isRing' (σ := kw_ri ρ1 1 (upd (kb_beg (σM.1 1)) (28 + 4 * r + 2) x)) (m := m) (n := n) (r := r) (by rw [kw_ri_1]; exact hwG.2.2.2.1) (by rw [kw_ri_1]; exact hwG.1) (by have := hok.1.2.1; omega) h12 hr
    refine ⟨ρ1, ρ2, r3, r4, i2, i3 4 (by decide), ?_⟩
    rw [if_pos ho, if_neg (by decide), i1, Option.bind_some, kw_ri_1, decide_eq_true ho, Bool.true_and]
    dsimp only
    unfold jX10_length_63
    rw [km_ring_j (f := fun v => jX10_length_64 v ρ2) rfl]
    rfl
  · refine ⟨ρ1, kw_ri ρ1 1 (upd (kb_beg (σM.1 1)) (28 + 4 * r + 2) x), r3, r4, rfl, rfl, ?_⟩
    rw [if_neg ho, if_pos rfl, decide_eq_false ho, Bool.false_and]
    rfl
theorem km_turns1 {σM : kw_M} {n m o r : Nat} {b : Bool} (hok : kb_ok (σM.1 1) n m o) (hr : r < m) (hne : ¬ σM.1 1 (28 + 4 * r + 3) = kx_fl b) : ∃ ρ1 ρ2, (∀ c, c ≠ 1 → ρ1.1 c = σM.1 c) ∧ (∀ t, t < 12 → ρ1.2 4 t = km_enc (kb_D (σM.1 1) n m o t)) ∧ ρ2.1 = (kw_ri ρ1 1 (upd (kb_beg (σM.1 1)) (28 + 4 * r + 3) (kx_fl b))).1 ∧ ρ2.2 4 = ρ1.2 4 ∧ fX10_turns (nI r) (kx_fl b) σM = (fX10_ends (kx_fl (kb_rg (upd (kb_beg (σM.1 1)) (28 + 4 * r + 3) (kx_fl b)) n m r)) ρ2).bind (fun r => some (r.1, r.2)) := by
  have hm := hok.1.2.2.2.1.1
  have h12 := hok.1.2.2.1
  have hr1 : 0 ≤ (nI r).toInt ∧ (nI r).toInt < m := by rw [nI_toInt (by omega)]; omega
  have hwG := kb_up_wf (w := 3) (r := r) (x := kx_fl b) hok.1 hr (Or.inr ⟨rfl, by cases b <;> decide⟩)
  obtain ⟨ρ1, r1, r2, r3, r4⟩ := km_begins' hok
  have hop3 : upd (kb_beg (σM.1 1)) (28 + 4 * r + 3) (kx_fl b) (28 + 4 * r + 3) = kx_fl b := kw_upd_e _ _ _
  have e0 : fX10_turns (nI r) (kx_fl b) σM = (if kx_fl b = 1 then (fX10_isRing (nI r) (kw_ri ρ1 1 (upd (kb_beg (σM.1 1)) (28 + 4 * r + 3) (kx_fl b)))).bind fun r9 => if r9.1 = (0 : Int32) then jX10_turns_52 r9.2 else jX10_turns_53 (1 : Int32) r9.2 else jX10_turns_52 (kw_ri ρ1 1 (upd (kb_beg (σM.1 1)) (28 + 4 * r + 3) (kx_fl b)))) := by
    unfold fX10_turns
    rw [km_isRoad hok.1.2.2.2.1.2.1 hm]
    simp only [Option.bind_some, kx_fl_0, decide_eq_true hr1, kn_tf]
    rw [km_of3 (by omega), Option.bind_some, if_neg hne, r1, Option.bind_some, show fX10_sets (nI r) 3 (kx_fl b) = fX10_sets (nI r) (nI 3) (kx_fl b) from rfl, km_sets (by omega) (by decide), Option.bind_some, r2]
  rw [e0]
  unfold kb_rg
  rw [hop3]
  cases b with
  | true =>
    obtain ⟨ρ2, i1, i2, i3⟩ := km_isRing' (σ := kw_ri ρ1 1 (upd (kb_beg (σM.1 1)) (28 + 4 * r + 3) (kx_fl true))) (m := m) (n := n) (r := r) (by rw [kw_ri_1]; exact hwG.2.2.2.1) (by rw [kw_ri_1]; exact hwG.1) (by have := hok.1.2.1; omega) h12 hr
    refine ⟨ρ1, ρ2, r3, r4, i2, i3 4 (by decide), ?_⟩
    rw [if_pos (show kx_fl true = 1 from rfl), i1, Option.bind_some, kw_ri_1, decide_eq_true (show kx_fl true = 1 from rfl), Bool.true_and]
    dsimp only
    unfold jX10_turns_52
    rw [km_ring_j (f := fun v => jX10_turns_53 v ρ2) rfl]
    rfl
  | false =>
    refine ⟨ρ1, kw_ri ρ1 1 (upd (kb_beg (σM.1 1)) (28 + 4 * r + 3) (kx_fl false)), r3, r4, rfl, rfl, ?_⟩
    rw [if_neg (show ¬ kx_fl false = 1 by decide), decide_eq_false (show ¬ kx_fl false = 1 by decide), Bool.false_and]
    rfl
