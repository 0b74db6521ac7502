/-! A State of the class shows a block of the file; what the block keeps. -/
theorem kb_gr_same {F G : Nat → Int32} {m : Nat} (h : ∀ j, 28 ≤ j → j < 28 + 4 * m → G j = F j) (but : Int32) : kr_same (km_gr G m but) (km_gr F m but) := by
  refine ⟨rfl, fun r hr => ?_⟩
  have hr' : r < m := hr
  refine ⟨?_, ?_, ?_, ?_⟩
  · show (G (28 + 4 * r + 0)).toNatClampNeg = (F (28 + 4 * r + 0)).toNatClampNeg
    rw [h _ (by omega) (by omega)]
  · show (G (28 + 4 * r + 1)).toNatClampNeg = (F (28 + 4 * r + 1)).toNatClampNeg
    rw [h _ (by omega) (by omega)]
  · show (G (28 + 4 * r + 2)).toInt = (F (28 + 4 * r + 2)).toInt
    rw [h _ (by omega) (by omega)]
  · show decide (G (28 + 4 * r + 3) = 1 ∧ ¬ nI r = but) = decide (F (28 + 4 * r + 3) = 1 ∧ ¬ nI r = but)
    rw [h _ (by omega) (by omega)]
theorem kb_D_same {F G : Nat → Int32} {m : Nat} (h : ∀ j, 28 ≤ j → j < 28 + 4 * m → G j = F j) (n o : Nat) : kb_D G n m o = kb_D F n m o := kr_same_bf (kb_gr_same h (-1)) _ _
theorem kr_same_slack {g h : kr_G} (hs : kr_same g h) {d : kr_D} {r : Nat} (hr : r < g.1) : kr_slack g d r = kr_slack h d r := by
  obtain ⟨e1, e2, e3, e4⟩ := hs.2 r hr
  unfold kr_slack
  rw [e1, e2, e3]
theorem kr_same_tight {g h : kr_G} (hs : kr_same g h) {d : kr_D} {r : Nat} (hr : r < g.1) : kr_tight g d r = kr_tight h d r := by
  unfold kr_tight
  rw [kr_same_slack hs hr, (hs.2 r hr).2.2.2]
theorem kr_low_eq {p q : Nat → Bool} : ∀ k : Nat, (∀ r, r < k → p r = q r) → kr_low p k = kr_low q k
  | 0, _ => rfl
  | k + 1, h => by
    unfold kr_low
    rw [kr_low_eq k (fun r hr => h r (by omega)), h k (by omega)]
theorem kr_same_par {g h : kr_G} (hs : kr_same g h) (d : kr_D) (t : Nat) : kr_par g d t = kr_par h d t := by
  unfold kr_par
  rw [← hs.1]
  refine kr_low_eq g.1 (fun r hr => ?_)
  rw [kr_same_tight hs hr, (hs.2 r hr).2.1]
/-- the touched towns, shown by the class -/
def kx_tc (σ : kw_M) (s T : Nat) (F : Nat → Int32) : Prop := σ.1 s 7 = F 6 ∧ ∀ i, i < (F 6).toNatClampNeg → σ.1 T i = F (16 + i)
/-- State s, whose first cell is B, shows F -/
def kx_sh (σ : kw_M) (s B : Nat) (F : Nat → Int32) (n m o : Nat) : Prop := kx_rd σ B F m ∧ (σ.1 s 2 = F 2 ∧ σ.1 s 3 = F 3 ∧ σ.1 s 4 = F 5) ∧ kx_wt σ s B F ∧ kx_tc σ s (B + 3) F ∧ (∀ t, t < 12 → σ.2 (B + 4) t = kx_enc (kb_D F n m o t)) ∧ (∀ t, t < 12 → σ.1 (B + 5) t = kx_pe (kr_par (km_gr F m (-1)) (kb_D F n m o) t)) ∧ kx_lg σ (B + 1) (B + 9) F
/-- what a block of the file keeps -/
def kb_ok (F : Nat → Int32) (n m o : Nat) : Prop := kb_wf F n m ∧ F 2 = nI o ∧ o < n ∧ kr_good (km_gr F m (-1)) ∧ kr_anyTo (kr_bad (kb_D F n m o)) n = false ∧ (∀ t, t < 12 → (F (172 + 3 * t) = 0 ∨ F (172 + 3 * t) = 1) ∧ (F (172 + 3 * t) = 1 → t < n ∧ F (172 + 3 * t + 2) = kb_flag F (kb_D F n m o t) t)) ∧ (∃ e, e ≤ 100 ∧ F 4 = nI e) ∧ (∃ k, k ≤ 12 ∧ F 6 = nI k) ∧ ∃ x, x < 65536 ∧ F 5 = nI x
theorem kb_wf_eq {F G : Nat → Int32} {n m : Nat} (h : kb_wf F n m) (h0 : G 0 = F 0) (h1 : G 1 = F 1) (hr : ∀ j, 28 ≤ j → j < 28 + 4 * m → G j = F j) : kb_wf G n m := by
  obtain ⟨a, b, c, ⟨d1, d2, d3⟩, e⟩ := h
  refine ⟨h0.trans a, b, c, ⟨d1, h1.trans d2, fun r hr' => ?_⟩, fun r hr' => ?_⟩
  · rw [hr _ (by omega) (by omega), hr _ (by omega) (by omega), hr _ (by omega) (by omega)]
    exact d3 r hr'
  · rw [hr _ (by omega) (by omega), hr _ (by omega) (by omega), hr _ (by omega) (by omega)]
    exact e r hr'
theorem kx_rd_eq {σ : kw_M} {F G : Nat → Int32} {R m : Nat} (h : kx_rd σ R F m) (h0 : G 0 = F 0) (h1 : G 1 = F 1) (hr : ∀ j, 28 ≤ j → j < 28 + 4 * m → G j = F j) : kx_rd σ R G m := by
  obtain ⟨a, b, c, d⟩ := h
  refine ⟨a.trans h0.symm, b.trans h1.symm, fun r hr' => ?_, fun i hi => ?_⟩
  · rw [hr _ (by omega) (by omega), hr _ (by omega) (by omega), hr _ (by omega) (by omega)]
    exact c r hr'
  · rw [d i hi, decide_eq_decide]
    by_cases q : i < m
    · rw [hr _ (by omega) (by omega)]
    · exact ⟨fun z => absurd z.1 q, fun z => absurd z.1 q⟩
theorem kb_ok_eq {F G : Nat → Int32} {n m o : Nat} (h : kb_ok F n m o) (hj : ∀ j, j < 708 → G j = F j) : kb_ok G n m o := by
  obtain ⟨a, b, c, d, e, f, g1, g2, g3⟩ := h
  have hm := a.2.2.2.1.1
  have hr : ∀ j, 28 ≤ j → j < 28 + 4 * m → G j = F j := fun j _ _ => hj j (by omega)
  have hD := kb_D_same hr n o
  refine ⟨kb_wf_eq a (hj 0 (by omega)) (hj 1 (by omega)) hr, (hj 2 (by omega)).trans b, c, kr_same_good (kr_same_symm (kb_gr_same hr (-1))) d, by rw [hD]; exact e, fun t ht => ?_, by rw [hj 4 (by omega)]; exact g1, by rw [hj 6 (by omega)]; exact g2, by rw [hj 5 (by omega)]; exact g3⟩
  unfold kb_flag at f ⊢
  rw [hD, hj _ (by omega), hj _ (by omega), hj _ (by omega)]
  exact f t ht
theorem kx_sh_eq {σ : kw_M} {F G : Nat → Int32} {s B n m o : Nat} (hok : kb_ok F n m o) (h : kx_sh σ s B F n m o) (hj : ∀ j, j < 708 → G j = F j) : kx_sh σ s B G n m o := by
  obtain ⟨a, b, c, d, e, f, g⟩ := h
  have hm := hok.1.2.2.2.1.1
  obtain ⟨e', he, he2⟩ := hok.2.2.2.2.2.2.1
  obtain ⟨k', hk, hk2⟩ := hok.2.2.2.2.2.2.2.1
  have hr : ∀ j, 28 ≤ j → j < 28 + 4 * m → G j = F j := fun j _ _ => hj j (by omega)
  have hD := kb_D_same hr n o
  refine ⟨kx_rd_eq a (hj 0 (by omega)) (hj 1 (by omega)) hr, by rw [hj 2 (by omega), hj 3 (by omega), hj 5 (by omega)]; exact b, ⟨fun i hi => ?_, fun t ht => ?_⟩, ⟨by rw [hj 6 (by omega)]; exact d.1, fun i hi => ?_⟩, fun t ht => by rw [hD]; exact e t ht, fun t ht => ?_, kx_lg_fr g he2 he (hj 4 (by omega)) (fun j _ _ => hj j (by omega)) rfl (fun _ _ => rfl)⟩
  · rw [c.1 i hi, decide_eq_decide]
    by_cases q : i < 12
    · rw [hj _ (by omega)]
    · exact ⟨fun z => absurd z.1 q, fun z => absurd z.1 q⟩
  · rw [hj _ (by omega), hj _ (by omega)]
    exact c.2 t ht
  · rw [hj 6 (by omega)] at hi
    have hi' := hi
    rw [hk2, kn_clamp (by omega)] at hi'
    rw [hj _ (by omega)]
    exact d.2 i hi
  · rw [hD, kr_same_par (kb_gr_same hr (-1))]
    exact f t ht
/-- only the cells of the State count -/
theorem kx_sh_fr {σ τ : kw_M} {F : Nat → Int32} {s B n m o : Nat} (hB : B = 12 ∨ B = 22) (h : kx_sh σ s B F n m o) (hs : τ.1 s = σ.1 s) (hi : ∀ c, B ≤ c → c < B + 9 → τ.1 c = σ.1 c) (hl0 : τ.2 B = σ.2 B) (hl4 : τ.2 (B + 4) = σ.2 (B + 4)) (hl9 : τ.2 (B + 9) = σ.2 (B + 9)) : kx_sh τ s B F n m o := by
  obtain ⟨a, b, c, d, e, f, g⟩ := h
  have r3 : kx_rf B 3 = B + 6 := by rcases hB with rfl | rfl <;> decide
  have r4 : kx_rf B 4 = B + 7 := by rcases hB with rfl | rfl <;> decide
  have r5 : kx_rf B 5 = B + 8 := by rcases hB with rfl | rfl <;> decide
  refine ⟨kx_rd_fr a (hi B (by omega) (by omega)) (by rw [r3]; exact hi _ (by omega) (by omega)) (by rw [r4]; exact hi _ (by omega) (by omega)) (by rw [r5]; exact hi _ (by omega) (by omega)) hl0, by rw [hs]; exact b, ?_, ?_, ?_, ?_, ?_⟩
  · unfold kx_wt
    rw [hs, hi (B + 2) (by omega) (by omega)]
    exact c
  · unfold kx_tc
    rw [hs, hi (B + 3) (by omega) (by omega)]
    exact d
  · rw [hl4]
    exact e
  · rw [hi (B + 5) (by omega) (by omega)]
    exact f
  · unfold kx_lg
    rw [hl9, hi (B + 1) (by omega) (by omega)]
    exact g
