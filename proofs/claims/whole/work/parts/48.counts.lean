/-! Loops that count. -/
theorem kw_cntl {body : Int32 × Int32 → Option ((Int32 × Int32) ⊕ Int32)} (p : Nat → Bool) (n : Nat) (hn : n ≤ 1000) (hb : ∀ k c, k < n → body (nI c, nI k) = some (.inl (nI (if p k = true then c + 1 else c), nI (k + 1)))) (he : ∀ c, body (nI c, nI n) = some (.inr (nI c))) : kw_loop body kw_F ((0 : Int32), (0 : Int32)) = some (nI (kr_cntb p n)) :=
  kw_loop_at (body := body) (fun k => (nI (kr_cntb p k), nI k)) n (fun k hk => hb k _ hk) (he _) (by omega)
theorem kr_cntb_eq {p q : Nat → Bool} : ∀ k : Nat, (∀ r, r < k → p r = q r) → kr_cntb p k = kr_cntb q k
  | 0, _ => rfl
  | k + 1, h => by
    unfold kr_cntb
    rw [kr_cntb_eq k (fun r hr => h r (by omega)), h k (by omega)]
theorem kx_hasDistance {σ : kw_M} {t : Nat} {d : Option Int} (hrow : σ.2 16 t = kx_enc d) (hd : kr_bd d) (ht : t < 12) : fX7_hasDistance (nI t) σ = some (kx_fl d.isSome) := by
  unfold fX7_hasDistance
  simp (disch := omega) only [kn_chk, kn_clamp, hrow, kx_enc_e hd]
  cases d with
  | none => rw [if_pos rfl]; rfl
  | some z => rw [if_neg (by simp)]; rfl
theorem kx_settledCount {σ : kw_M} {d : kr_D} {n : Nat} (hn : σ.1 12 0 = nI n) (h12 : n ≤ 12) (hrow : ∀ t, t < 12 → σ.2 16 t = kx_enc (d t)) (hd : kr_row d) : fX7_settledCount σ = some (nI (kr_cntb (fun t => (d t).isSome) n)) := by
  unfold fX7_settledCount
  rw [kw_cntl (body := fun s => bX7_settledCount_4 σ s.1 s.2) (fun t => (d t).isSome) n (by omega) (fun k c hk => ?_) (fun c => ?_)]
  · rfl
  · dsimp only
    unfold bX7_settledCount_4
    rw [hn, if_neg (nI_ge hk (by omega)), kx_hasDistance (hrow k (by omega)) (kr_row_bd hd k) (by omega), Option.bind_some]
    simp only [kx_fl_0, kw_let_def, km_next]
    cases (d k).isSome <;> simp
  · dsimp only
    unfold bX7_settledCount_4
    rw [hn, if_pos (nI_le (Nat.le_refl n) (by omega))]
theorem km_reached {σ : kw_M} {d : kr_D} {n : Nat} (hn : σ.1 1 0 = nI n) (h12 : n ≤ 12) (hrow : ∀ t, t < 12 → σ.2 3 t = km_enc (d t)) (hd : kr_row d) : fX10_reached σ = some (nI (kr_cntb (fun t => (d t).isSome) n)) := by
  unfold fX10_reached
  rw [kw_cntl (body := fun s => bX10_reached_4 σ s.1 s.2) (fun t => (d t).isSome) n (by omega) (fun k c hk => ?_) (fun c => ?_)]
  · rfl
  · dsimp only
    unfold bX10_reached_4 fX10_towns
    rw [hn, Option.bind_some, if_neg (nI_ge hk (by omega))]
    simp (disch := omega) only [kn_chk, kn_clamp, hrow, km_enc_ge (kr_row_bd hd _), kw_let_def, km_next]
    cases d k <;> simp
  · dsimp only
    unfold bX10_reached_4 fX10_towns
    rw [hn, Option.bind_some, if_pos (nI_le (Nat.le_refl n) (by omega))]
theorem kx_tightCount {σ : kw_M} {F : Nat → Int32} {d : kr_D} {m : Nat} (hrd : kx_rd σ 12 F m) (hw : km_wf F m) (hrow : ∀ t, t < 12 → σ.2 16 t = kx_enc (d t)) (hd : kr_row d) : fX7_tightCount σ = some (nI (kr_cntb (fun r => kr_tight (km_gr F m (-1)) d r) m)) := by
  have hm := hw.1
  unfold fX7_tightCount
  rw [kw_cntl (body := fun s => bX7_tightCount_4 σ s.1 s.2) (fun r => kr_tight (km_gr F m (-1)) d r) m (by omega) (fun k c hk => ?_) (fun c => ?_)]
  · rfl
  · dsimp only
    unfold bX7_tightCount_4
    rw [hrd.2.1.trans hw.2.1, if_neg (nI_ge hk (by omega)), kx_tight hrd hw hk hrow hd, Option.bind_some]
    simp only [kx_fl_0, kw_let_def, km_next]
    cases kr_tight (km_gr F m (-1)) d k <;> simp
  · dsimp only
    unfold bX7_tightCount_4
    rw [hrd.2.1.trans hw.2.1, if_pos (nI_le (Nat.le_refl m) (by omega))]
theorem km_tightMany {σ : kw_M} {d : kr_D} {m : Nat} (hw : km_wf (σ.1 1) m) (hrow : ∀ t, t < 12 → σ.2 3 t = km_enc (d t)) (hd : kr_row d) : fX10_tightMany σ = some (nI (kr_cntb (fun r => kr_tight (km_gr (σ.1 1) m (-1)) d r) m)) := by
  have hm := hw.1
  unfold fX10_tightMany
  rw [kw_cntl (body := fun s => bX10_tightMany_4 σ s.1 s.2) (fun r => kr_tight (km_gr (σ.1 1) m (-1)) d r) m (by omega) (fun k c hk => ?_) (fun c => ?_)]
  · rfl
  · dsimp only
    unfold bX10_tightMany_4
    rw [hw.2.1, if_neg (nI_ge hk (by omega)), km_tight hw hk hrow hd, Option.bind_some]
    simp only [kx_fl_0, kw_let_def, km_next]
    cases kr_tight (km_gr (σ.1 1) m (-1)) d k <;> simp
  · dsimp only
    unfold bX10_tightMany_4
    rw [hw.2.1, if_pos (nI_le (Nat.le_refl m) (by omega))]
theorem kw_in_eq {x : Int32} {t : Nat} (h : kw_in x 12) (ht : t < 12) : (x = nI t) = (x.toNatClampNeg = t) := by
  refine propext ⟨fun q => by rw [q, kn_clamp (by omega)], fun q => ?_⟩
  rw [kw_in_nI_of h (by decide), q]
/-- tight roads to a town -/
def kr_tto (g : kr_G) (d : kr_D) (t r : Nat) : Bool := kr_tight g d r && decide (g.2.2.1 r = t)
theorem kx_tightTo {σ : kw_M} {F : Nat → Int32} {d : kr_D} {m t : Nat} (hrd : kx_rd σ 12 F m) (hw : km_wf F m) (ht : t < 12) (hrow : ∀ t, t < 12 → σ.2 16 t = kx_enc (d t)) (hd : kr_row d) : fX7_tightTo (nI t) σ = some (nI (kr_cntb (kr_tto (km_gr F m (-1)) d t) m)) := by
  have hm := hw.1
  unfold fX7_tightTo
  rw [kw_cntl (body := fun s => bX7_tightTo_4 (nI t) σ s.1 s.2) (kr_tto (km_gr F m (-1)) d t) m (by omega) (fun k c hk => ?_) (fun c => ?_)]
  · rfl
  · dsimp only
    unfold bX7_tightTo_4
    have e19 : σ.1 19 k = F (28 + 4 * k + 1) := (hrd.2.2.1 k hk).2.1
    obtain ⟨_, hto, _, _⟩ := hw.2.2 k hk
    rw [hrd.2.1.trans hw.2.1, if_neg (nI_ge hk (by omega)), kn_chk (by omega) (by decide), kn_clamp (by omega), e19, kx_tight hrd hw hk hrow hd, Option.bind_some]
    simp only [kx_fl_0, kw_let_def, km_next, kw_in_eq hto ht]
    unfold kr_tto
    rw [show (km_gr F m (-1)).2.2.1 k = (F (28 + 4 * k + 1)).toNatClampNeg from rfl]
    by_cases e : (F (28 + 4 * k + 1)).toNatClampNeg = t
    · rw [if_pos e, decide_eq_true e, Bool.and_true]
      cases kr_tight (km_gr F m (-1)) d k <;> simp
    · rw [if_neg e, decide_eq_false e, Bool.and_false, if_neg (by decide)]
  · dsimp only
    unfold bX7_tightTo_4
    rw [hrd.2.1.trans hw.2.1, if_pos (nI_le (Nat.le_refl m) (by omega))]
theorem km_tightTo {σ : kw_M} {d : kr_D} {m t : Nat} (hw : km_wf (σ.1 1) m) (ht : t < 12) (hrow : ∀ t, t < 12 → σ.2 3 t = km_enc (d t)) (hd : kr_row d) : fX10_tightTo (nI t) σ = some (nI (kr_cntb (kr_tto (km_gr (σ.1 1) m (-1)) d t) m)) := by
  have hm := hw.1
  unfold fX10_tightTo
  rw [kw_cntl (body := fun s => bX10_tightTo_4 (nI t) σ s.1 s.2) (kr_tto (km_gr (σ.1 1) m (-1)) d t) m (by omega) (fun k c hk => ?_) (fun c => ?_)]
  · rfl
  · dsimp only
    unfold bX10_tightTo_4
    obtain ⟨_, hto, _, _⟩ := hw.2.2 k hk
    rw [hw.2.1, if_neg (nI_ge hk (by omega)), km_tight hw hk hrow hd, Option.bind_some, km_of1 (by omega), Option.bind_some]
    simp only [kx_fl_0, kw_let_def, km_next, kw_in_eq hto ht]
    unfold kr_tto
    rw [show (km_gr (σ.1 1) m (-1)).2.2.1 k = (σ.1 1 (28 + 4 * k + 1)).toNatClampNeg from rfl]
    by_cases e : (σ.1 1 (28 + 4 * k + 1)).toNatClampNeg = t
    · rw [if_pos e, decide_eq_true e, Bool.and_true]
      cases kr_tight (km_gr (σ.1 1) m (-1)) d k <;> simp
    · rw [if_neg e, decide_eq_false e, Bool.and_false]
      cases kr_tight (km_gr (σ.1 1) m (-1)) d k <;> simp
  · dsimp only
    unfold bX10_tightTo_4
    rw [hw.2.1, if_pos (nI_le (Nat.le_refl m) (by omega))]
theorem km_openMany {σ : kw_M} {n m : Nat} (hw : kb_wf (σ.1 1) n m) : fX10_openMany σ = some (nI (kr_cntb (fun r => decide (σ.1 1 (28 + 4 * r + 3) = 1)) m)) := by
  have hm := hw.2.2.2.1.1
  unfold fX10_openMany
  rw [kw_cntl (body := fun s => bX10_openMany_4 σ s.1 s.2) (fun r => decide (σ.1 1 (28 + 4 * r + 3) = 1)) m (by omega) (fun k c hk => ?_) (fun c => ?_)]
  · rfl
  · dsimp only
    unfold bX10_openMany_4
    rw [hw.2.2.2.1.2.1, if_neg (nI_ge hk (by omega)), km_of3 (by omega), Option.bind_some, kw_let_def, kw_let_def, km_next]
    rcases (hw.2.2.2.2 k hk).2.2 with h | h
    · rw [h, if_neg (by decide), kn_0, nI_add, Nat.add_zero]
    · rw [h, if_pos (by decide), km_next]
  · dsimp only
    unfold bX10_openMany_4
    rw [hw.2.2.2.1.2.1, if_pos (nI_le (Nat.le_refl m) (by omega))]
theorem kx_countOthers {σ : kw_M} {D E : kr_D} {n : Nat} (hrow : ∀ u, u < 12 → σ.2 11 u = kx_enc (D u)) (hD : kr_row D) (hold : ∀ u, u < 12 → σ.2 16 u = kx_enc (E u)) (hE : kr_row E) (hn : σ.1 12 0 = nI n) (h12 : n ≤ 12) : fX7_countOthers σ = some (nI (kb_cnt D E n)) := by
  unfold fX7_countOthers
  have e : ∀ k : Nat, kb_cnt D E k = kr_cntb (fun t => decide (¬ D t = E t)) k := fun k => by
    induction k with
    | zero => rfl
    | succ k ih =>
      unfold kb_cnt kr_cntb
      rw [ih]
      by_cases q : D k = E k
      · rw [if_pos q, if_neg (by simp [q])]
      · rw [if_neg q, if_pos (by simp [q])]
  rw [e, kw_cntl (body := fun s => bX7_countOthers_4 σ s.1 s.2) (fun t => decide (¬ D t = E t)) n (by omega) (fun k c hk => ?_) (fun c => ?_)]
  · rfl
  · dsimp only
    unfold bX7_countOthers_4
    rw [hn, if_neg (nI_ge hk (by omega))]
    simp (disch := omega) only [kn_chk, kn_clamp, hrow, hold, kx_enc_eq (kr_row_bd hE _) (kr_row_bd hD _), kw_let_def, km_next]
    by_cases q : D k = E k
    · rw [if_pos q.symm, if_neg (by simp [q])]
    · rw [if_neg (fun z => q z.symm), if_pos (by simp [q])]
  · dsimp only
    unfold bX7_countOthers_4
    rw [hn, if_pos (nI_le (Nat.le_refl n) (by omega))]
