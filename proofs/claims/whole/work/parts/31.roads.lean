/-! The class's Roads beside the file's roads: shown, copied, settled. -/
/-- the Roads in cell R show the roads of F -/
def kx_rd (σ : kw_M) (R : Nat) (F : Nat → Int32) (m : Nat) : Prop := σ.1 R 0 = F 0 ∧ σ.1 R 1 = F 1 ∧ (∀ r, r < m → σ.1 (kx_rf R 3) r = F (28 + 4 * r + 0) ∧ σ.1 (kx_rf R 4) r = F (28 + 4 * r + 1) ∧ σ.1 (kx_rf R 5) r = F (28 + 4 * r + 2)) ∧ ∀ i, i < 64 → kw_bL (σ.2 R 2) i = decide (i < m ∧ F (28 + 4 * i + 3) = 1)
theorem kx_rd_wf {σ : kw_M} {R m : Nat} {F : Nat → Int32} (h : kx_rd σ R F m) (hw : km_wf F m) : kx_wf σ R m := by
  obtain ⟨h0, h1, h2, h3⟩ := h
  refine ⟨hw.1, h1.trans hw.2.1, fun r hr => ?_⟩
  obtain ⟨a, b, c⟩ := h2 r hr
  rw [a, b, c]
  exact hw.2.2 r hr
theorem kx_rd_op {σ : kw_M} {R m r : Nat} {F : Nat → Int32} (h : kx_rd σ R F m) (hm : m ≤ 36) (hr : r < m) : kx_op (σ.2 R 2) r = (F (28 + 4 * r + 3) = 1) := by
  rw [kx_op_bit (by omega), h.2.2.2 r (by omega), decide_eq_true_eq]
  exact propext ⟨fun q => q.2, fun q => ⟨hr, q⟩⟩
theorem kx_rd_same {σ : kw_M} {R m : Nat} {F : Nat → Int32} (h : kx_rd σ R F m) (hm : m ≤ 36) (but : Int32) : kr_same (kx_gr σ R m but) (km_gr F m but) := by
  refine ⟨rfl, fun r hr => ?_⟩
  have hr' : r < m := hr
  obtain ⟨a, b, c⟩ := h.2.2.1 r hr'
  refine ⟨?_, ?_, ?_, ?_⟩
  · show (σ.1 (kx_rf R 3) r).toNatClampNeg = (F (28 + 4 * r + 0)).toNatClampNeg
    rw [a]
  · show (σ.1 (kx_rf R 4) r).toNatClampNeg = (F (28 + 4 * r + 1)).toNatClampNeg
    rw [b]
  · show (σ.1 (kx_rf R 5) r).toInt = (F (28 + 4 * r + 2)).toInt
    rw [c]
  · show decide (kx_op (σ.2 R 2) r ∧ ¬ nI r = but) = decide (F (28 + 4 * r + 3) = 1 ∧ ¬ nI r = but)
    have := kx_rd_op h hm hr'
    exact decide_eq_decide.mpr (by rw [this])
/-- what the file's roads and towns alone decide -/
theorem kx_rd_fr {σ τ : kw_M} {R m : Nat} {F : Nat → Int32} (h : kx_rd σ R F m) (h0 : τ.1 R = σ.1 R) (h3 : τ.1 (kx_rf R 3) = σ.1 (kx_rf R 3)) (h4 : τ.1 (kx_rf R 4) = σ.1 (kx_rf R 4)) (h5 : τ.1 (kx_rf R 5) = σ.1 (kx_rf R 5)) (h2 : τ.2 R = σ.2 R) : kx_rd τ R F m := by
  unfold kx_rd
  rw [h0, h3, h4, h5, h2]
  exact h
theorem kx_copy {σ : kw_M} {c0 c1 m : Nat} {F : Nat → Int32} (hc : (c0 = 10 ∧ c1 = 12) ∨ (c0 = 12 ∧ c1 = 10) ∨ (c0 = 22 ∧ c1 = 12) ∨ (c0 = 12 ∧ c1 = 22)) (h : kx_rd σ c1 F m) (h1 : F 1 = nI m) (hm : m ≤ 36) : ∃ τ, fX4_copyFrom c0 c1 σ = some τ ∧ kx_rd τ c0 F m ∧ (∀ c, c ≠ c0 → c ≠ kx_rf c0 3 → c ≠ kx_rf c0 4 → c ≠ kx_rf c0 5 → τ.1 c = σ.1 c) ∧ (∀ c, c ≠ c0 → τ.2 c = σ.2 c) := by
  obtain ⟨g0, g1, g2, g3⟩ := h
  rw [h1] at g1
  have p1 : ¬ nI m < 0 := nI_pos (by omega)
  have p2 : (0 : Int32).toNatClampNeg + m ≤ 36 := by rw [show (0 : Int32).toNatClampNeg = 0 by decide]; omega
  have cp : ∀ (f g : Nat → Int32) (r : Nat), r < m → va_cpy f g 0 0 m r = f r := fun f g r hr => by
    unfold va_cpy
    rw [if_pos (by omega), show 0 + (r - 0) = r by omega]
  rcases hc with ⟨rfl, rfl⟩ | ⟨rfl, rfl⟩ | ⟨rfl, rfl⟩ | ⟨rfl, rfl⟩
  all_goals
    simp only [show kx_rf 10 3 = 32 by decide, show kx_rf 10 4 = 33 by decide, show kx_rf 10 5 = 34 by decide, show kx_rf 12 3 = 18 by decide, show kx_rf 12 4 = 19 by decide, show kx_rf 12 5 = 20 by decide, show kx_rf 22 3 = 28 by decide, show kx_rf 22 4 = 29 by decide, show kx_rf 22 5 = 30 by decide] at g2 ⊢
    unfold fX4_copyFrom
    simp (disch := decide) only [kw_let_def, kw_si_o, kw_si_1, kw_sl_1, kw_ri_o, kw_ri_1, kw_upd_n, kw_upd_e, kw_si_2, kw_sl_2, kw_sl_o, kw_ri_2, g1, show kx_rf 10 3 = 32 by decide, show kx_rf 10 4 = 33 by decide, show kx_rf 10 5 = 34 by decide, show kx_rf 12 3 = 18 by decide, show kx_rf 12 4 = 19 by decide, show kx_rf 12 5 = 20 by decide, show kx_rf 22 3 = 28 by decide, show kx_rf 22 4 = 29 by decide, show kx_rf 22 5 = 30 by decide, kw_chk_t p1, kw_chk_t p2, nI_clamp (show m < 2 ^ 31 by omega)]
    refine ⟨_, rfl, ⟨?_, ?_, fun r hr => ⟨?_, ?_, ?_⟩, fun i hi => ?_⟩, fun c e0 e1 e2 e3 => ?_, fun c e0 => ?_⟩
    · simp (disch := decide) only [kw_si_o, kw_si_1, kw_sl_1, kw_ri_o, kw_ri_1, kw_upd_n, kw_upd_e]
      exact g0
    · simp (disch := decide) only [kw_si_o, kw_si_1, kw_sl_1, kw_ri_o, kw_ri_1, kw_upd_n, kw_upd_e]
      exact h1.symm
    · simp (disch := decide) only [show kx_rf 10 3 = 32 by decide, show kx_rf 12 3 = 18 by decide, show kx_rf 22 3 = 28 by decide, kw_si_o, kw_sl_1, kw_ri_o, kw_ri_1]
      rw [cp _ _ r hr]
      exact (g2 r hr).1
    · simp (disch := decide) only [show kx_rf 10 4 = 33 by decide, show kx_rf 12 4 = 19 by decide, show kx_rf 22 4 = 29 by decide, kw_si_o, kw_sl_1, kw_ri_o, kw_ri_1]
      rw [cp _ _ r hr]
      exact (g2 r hr).2.1
    · simp (disch := decide) only [show kx_rf 10 5 = 34 by decide, show kx_rf 12 5 = 20 by decide, show kx_rf 22 5 = 30 by decide, kw_si_o, kw_sl_1, kw_ri_o, kw_ri_1]
      rw [cp _ _ r hr]
      exact (g2 r hr).2.2
    · simp (disch := decide) only [kw_ri_2, kw_sl_2, kw_updL_e, kw_si_2, kw_sl_o]
      exact g3 i hi
    · rw [kw_ri_o e3, kw_ri_o e2, kw_ri_o e1, kw_sl_1, kw_si_o e0, kw_si_o e0]
    · simp only [kw_ri_2]
      rw [kw_sl_o e0, kw_si_2, kw_si_2]
