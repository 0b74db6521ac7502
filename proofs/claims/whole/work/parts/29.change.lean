/-! The reference: begins, ends. -/
/-- the row from the origin -/
def kb_D (F : Nat → Int32) (n m o : Nat) : kr_D := kr_bf (km_gr F m (-1)) (kr_one o) (n - 1)
theorem kb_D_in {F : Nat → Int32} {n m o : Nat} (hw : km_wf F m) (h12 : n ≤ 12) : kr_in (kb_D F n m o) 900000000000000 := by
  refine kr_in_mono (km_bf_in (g := km_gr F m (-1)) (o := o) hw.1 (km_wf_len hw (-1)) (n - 1)) ?_
  have : ((n - 1 : Nat) : Int) ≤ 11 := by omega
  omega
theorem kb_D_bd {F : Nat → Int32} {n m o : Nat} (hw : km_wf F m) (h12 : n ≤ 12) (t : Nat) : kr_bd (kb_D F n m o t) := kr_bd_in (kb_D_in hw h12) (by decide) t
theorem km_settles' {σ : kw_M} {m n o : Nat} (hw : km_wf (σ.1 1) m) (hn : σ.1 1 0 = nI n) (h1 : 1 ≤ n) (h12 : n ≤ 12) (ho : σ.1 1 2 = nI o) (ho2 : o < 12) : ∃ τ, fX10_settles σ = some τ ∧ τ.1 = σ.1 ∧ (∀ t, t < 12 → τ.2 3 t = km_enc (kb_D (σ.1 1) n m o t)) ∧ ∀ c, c ≠ 2 → c ≠ 3 → τ.2 c = σ.2 c := by
  refine ⟨_, km_settles hw hn h1 h12 ho ho2, rfl, fun t ht => ?_, fun c h2 h3 => ?_⟩
  · unfold kw_cp
    rw [kw_rl_2, if_pos ht, km_row_at ht]
    rfl
  · unfold kw_cp
    rw [kw_rl_o h3]
    exact kw_rl_o h2
theorem km_begins_2 (σ : kw_M) : kw_loop (fun s => bX10_begins_6 s.1 s.2) kw_F ((0 : Int32), σ) = some (kw_cp σ 3 4 12) := by
  have h := kw_loop_at (body := fun s => bX10_begins_6 s.1 s.2) (fun k => (nI k, kw_cp σ 3 4 k)) (x := kw_cp σ 3 4 12) 12 (fun k hk => by
    show bX10_begins_6 (nI k) (kw_cp σ 3 4 k) = _
    unfold bX10_begins_6
    rw [show (12 : Int32) = nI 12 by decide, if_neg (nI_ge hk (by decide))]
    simp (disch := omega) only [kn_chk, kn_clamp, kw_let_def, km_next, kw_cp_s σ (show (3 : Nat) ≠ 4 by decide) k]) (by
    show bX10_begins_6 (nI 12) (kw_cp σ 3 4 12) = _
    unfold bX10_begins_6
    rw [if_pos (by decide)]) (by decide)
  have h0 : ((nI 0, kw_cp σ 3 4 0) : Int32 × kw_M) = ((0 : Int32), σ) := by rw [kw_cp_0]; rfl
  simp only [h0] at h
  exact h
theorem km_begins {σ : kw_M} {m n o : Nat} (hw : km_wf (σ.1 1) m) (hn : σ.1 1 0 = nI n) (h1 : 1 ≤ n) (h12 : n ≤ 12) (ho : σ.1 1 2 = nI o) (ho2 : o < 12) : ∃ τ, fX10_begins σ = some τ ∧ τ.1 = (km_cpyk σ 0 2 708).1 ∧ ∀ t, t < 12 → τ.2 4 t = km_enc (kb_D (σ.1 1) n m o t) := by
  obtain ⟨τ, e1, e2, e3, e4⟩ := km_settles' hw hn h1 h12 ho ho2
  unfold fX10_begins
  rw [e1, Option.bind_some, km_begins_2, Option.bind_some, show (0 : Int32) = nI 0 by decide, show (2 : Int32) = nI 2 by decide, km_copies (by decide) (by decide) (by decide), Option.bind_some]
  refine ⟨_, rfl, ?_, fun t ht => ?_⟩
  · unfold km_cpyk kw_ri kw_cp
    dsimp only
    rw [show (kw_rl τ 4 (fun t => if t < 12 then τ.2 3 t else τ.2 4 t)).1 = τ.1 from rfl, e2]
  · show (kw_cp τ 3 4 12).2 4 t = _
    unfold kw_cp
    rw [kw_rl_2, if_pos ht]
    exact e3 t ht
/-- what stays of a memory of the reference but the file -/
def km_fr (σ τ : kw_M) : Prop := ∀ c, c ≠ 1 → τ.1 c = σ.1 c
/-- ends with a ring, or too far: all is laid back -/
theorem km_ends_no {σ : kw_M} {v : Int32} (hv : v < 0) : ∃ τ, jX10_ends_29 v σ = some (v, τ) ∧ km_fr σ τ ∧ τ.1 1 = va_cpy (σ.1 1) (σ.1 1) 1416 0 708 := by
  unfold jX10_ends_29
  rw [if_neg (Int32.not_le.mpr hv), show (0 : Int32) = nI 0 by decide, show (2 : Int32) = nI 2 by decide, km_copies (by decide) (by decide) (by decide), Option.bind_some]
  refine ⟨_, rfl, fun c hc => ?_, ?_⟩
  · unfold km_cpyk
    rw [kw_ri_o hc]
  · unfold km_cpyk
    rw [kw_ri_1]
theorem km_ends_ring {σ : kw_M} : ∃ τ, fX10_ends 1 σ = some (-3, τ) ∧ km_fr σ τ ∧ τ.1 1 = va_cpy (σ.1 1) (σ.1 1) 1416 0 708 := by
  unfold fX10_ends
  rw [if_neg (by decide)]
  unfold jX10_ends_10
  rw [if_neg (by decide)]
  exact km_ends_no (by decide)
/-- the file after a change that stays -/
def kb_end (F : Nat → Int32) (D E : kr_D) (n : Nat) : Nat → Int32 := upd (kb_tch (kb_notes (upd F 3 (F 3 + 1)) D n) 16 D E n).2 6 (nI (kb_cnt D E n))
theorem km_ends {σ : kw_M} {m n o e : Nat} {E : kr_D} (hw : km_wf (σ.1 1) m) (hn : σ.1 1 0 = nI n) (h1 : 1 ≤ n) (h12 : n ≤ 12) (ho : σ.1 1 2 = nI o) (ho2 : o < 12) (he : σ.1 1 4 = nI e) (he2 : e ≤ 100) (hold : ∀ u, u < 12 → σ.2 4 u = km_enc (E u)) (hE : ∀ u, kr_bd (E u)) :
    (kr_anyTo (kr_bad (kb_D (σ.1 1) n m o)) n = true → ∃ τ, fX10_ends 0 σ = some (-4, τ) ∧ km_fr σ τ ∧ τ.1 1 = va_cpy (σ.1 1) (σ.1 1) 1416 0 708) ∧
    (kr_anyTo (kr_bad (kb_D (σ.1 1) n m o)) n = false → ∃ τ, fX10_ends 0 σ = some (nI (kb_cnt (kb_D (σ.1 1) n m o) E n), τ) ∧ km_fr σ τ ∧ τ.1 1 = kb_end (σ.1 1) (kb_D (σ.1 1) n m o) E n) := by
  obtain ⟨τ, e1, e2, e3, e4⟩ := km_settles' hw hn h1 h12 ho ho2
  have hfar := km_tooFar (σ := τ) (d := kb_D (σ.1 1) n m o) e3 (by rw [e2]; exact hn) h12 (kb_D_in hw h12)
  have hD := fun t => kb_D_bd (o := o) hw h12 t
  have h0 : fX10_ends 0 σ = (if kx_fl (kr_anyTo (kr_bad (kb_D (σ.1 1) n m o)) n) = 0 then jX10_ends_29 0 τ else jX10_ends_29 (-4) τ) := by
    unfold fX10_ends
    rw [if_pos rfl]
    unfold jX10_ends_10
    rw [if_pos rfl, e1, Option.bind_some, hfar, Option.bind_some]
  rw [h0]
  constructor
  · intro hb
    rw [hb, if_neg (by decide)]
    obtain ⟨ρ, g1, g2, g3⟩ := km_ends_no (σ := τ) (v := -4) (by decide)
    refine ⟨ρ, g1, fun c hc => ?_, ?_⟩
    · rw [g2 c hc, e2]
    · rw [g3, e2]
  · intro hb
    rw [hb, if_pos (by decide)]
    unfold jX10_ends_29
    rw [if_pos (by decide), kw_let_def]
    rw [km_notes (σ := kw_si τ 1 3 (τ.1 1 3 + 1)) (D := kb_D (σ.1 1) n m o) (n := n) (e := e) (fun t ht => e3 t ht) hD (by rw [kw_si_1, kw_upd_n (by decide), e2]; exact hn) h12 (by rw [kw_si_1, kw_upd_n (by decide), e2]; exact he) he2, Option.bind_some]
    rw [kw_si_1, e2]
    have hnn : kb_notes (upd (σ.1 1) 3 (σ.1 1 3 + 1)) (kb_D (σ.1 1) n m o) n 0 = nI n := by
      obtain ⟨e', g1, g2, g3, g4⟩ := kb_notes_inv (F := upd (σ.1 1) 3 (σ.1 1 3 + 1)) (D := kb_D (σ.1 1) n m o) (e := e) (by rw [kw_upd_n (by decide)]; exact he) he2 n (by omega)
      rw [g4 0 (Or.inl ⟨by omega, by omega, fun u hu => by omega⟩), kw_upd_n (by decide)]
      exact hn
    rw [km_touches (σ := kw_ri (kw_si τ 1 3 (σ.1 1 3 + 1)) 1 (kb_notes (upd (σ.1 1) 3 (σ.1 1 3 + 1)) (kb_D (σ.1 1) n m o) n)) (D := kb_D (σ.1 1) n m o) (E := E) (n := n) (fun t ht => e3 t ht) hD (fun t ht => (congrFun (e4 4 (by decide) (by decide)) t).trans (hold t ht)) hE (by rw [kw_ri_1]; exact hnn) h12, Option.bind_some, kw_ri_1, kb_tch_cnt]
    refine ⟨_, rfl, fun c hc => ?_, ?_⟩
    · dsimp only
      rw [kw_ri_ri, kw_ri_o hc, kw_si_o hc, e2]
    · dsimp only
      rw [kw_ri_ri, kw_ri_1]
      rfl
