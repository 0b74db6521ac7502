/-! Notes and touched towns: what they leave as it was; the reference's loops. -/
theorem kb_note_o {F : Nat → Int32} {d : Option Int} {t e j : Nat} (he : F 4 = nI e) (he2 : e ≤ 100) (ht : t < 12) (h : (j < 208 ∧ j ≠ 4 ∧ j ≠ 172 + 3 * t + 2) ∨ 708 ≤ j ∨ (208 ≤ j ∧ j < 208 + 5 * e)) : kb_note F d t j = F j := by
  unfold kb_note
  by_cases h100 : F 4 = 100
  · rw [if_pos h100, kw_upd_n (by omega)]
  · have he3 : e < 100 := Nat.lt_of_le_of_ne he2 (fun q => h100 (by rw [he, q]; rfl))
    rw [if_neg h100, he, kn_clamp (by omega)]
    simp (disch := omega) only [kw_upd_n]
theorem kb_note_f {F : Nat → Int32} {d : Option Int} {t e : Nat} (he : F 4 = nI e) (he2 : e ≤ 100) (ht : t < 12) : kb_note F d t (172 + 3 * t + 2) = kb_flag F d t := by
  unfold kb_note
  by_cases h100 : F 4 = 100
  · rw [if_pos h100, kw_upd_e]
  · have he3 : e < 100 := Nat.lt_of_le_of_ne he2 (fun q => h100 (by rw [he, q]; rfl))
    rw [if_neg h100, he, kn_clamp (by omega)]
    simp (disch := omega) only [kw_upd_n, kw_upd_e]
theorem kb_note_4 {F : Nat → Int32} {d : Option Int} {t e : Nat} (he : F 4 = nI e) (he2 : e ≤ 100) : kb_note F d t 4 = nI (if e = 100 then 100 else e + 1) := by
  unfold kb_note
  by_cases h100 : F 4 = 100
  · have he3 : e = 100 := (nI_eq (by omega) (by decide)).mp (he.symm.trans h100)
    rw [if_pos h100, if_pos he3, kw_upd_n (by omega)]
    exact h100
  · have he3 : ¬ e = 100 := (fun q => h100 (by rw [he, q]; rfl))
    rw [if_neg h100, if_neg he3, kw_upd_e, he, km_next]
/-- the new event -/
theorem kb_note_e {F : Nat → Int32} {d : Option Int} {t e : Nat} (he : F 4 = nI e) (he2 : e < 100) : kb_note F d t (208 + 5 * e) = F 3 ∧ kb_note F d t (208 + 5 * e + 1) = nI t ∧ kb_note F d t (208 + 5 * e + 2) = kb_flag F d t ∧ kb_note F d t (208 + 5 * e + 3) = kb_i32 d ∧ kb_note F d t (208 + 5 * e + 4) = kb_is d := by
  have h100 : ¬ F 4 = 100 := fun q => by
    have := (nI_eq (a := e) (b := 100) (by omega) (by decide)).mp (he.symm.trans q)
    omega
  unfold kb_note
  rw [if_neg h100, he, kn_clamp (by omega)]
  refine ⟨?_, ?_, ?_, ?_, ?_⟩ <;> simp (disch := omega) only [kw_upd_n, kw_upd_e]
theorem kb_notes_inv {F : Nat → Int32} {D : kr_D} {e : Nat} (he : F 4 = nI e) (he2 : e ≤ 100) : ∀ k : Nat, k ≤ 12 → ∃ e', kb_notes F D k 4 = nI e' ∧ e ≤ e' ∧ e' ≤ 100 ∧ (∀ j, ((j < 208 ∧ j ≠ 4 ∧ ∀ t, t < k → j ≠ 172 + 3 * t + 2) ∨ 708 ≤ j ∨ (208 ≤ j ∧ j < 208 + 5 * e)) → kb_notes F D k j = F j)
  | 0, _ => ⟨e, he, Nat.le_refl _, he2, fun _ _ => rfl⟩
  | k + 1, hk => by
    obtain ⟨e', h1, h2, h3, h4⟩ := kb_notes_inv (D := D) he he2 k (by omega)
    unfold kb_notes
    by_cases hd : F (172 + 3 * k) = 1 ∧ ¬ kb_flag F (D k) k = kx_fl (decide (F (172 + 3 * k + 2) = 1))
    · rw [if_pos hd]
      refine ⟨_, kb_note_4 h1 h3, ?_, ?_, fun j hj => ?_⟩
      · split <;> omega
      · split <;> omega
      · rw [kb_note_o h1 h3 (by omega) ?_]
        · refine h4 j ?_
          rcases hj with ⟨a, b, c⟩ | hj | hj
          · exact Or.inl ⟨a, b, fun t ht => c t (by omega)⟩
          · exact Or.inr (Or.inl hj)
          · exact Or.inr (Or.inr hj)
        · rcases hj with ⟨a, b, c⟩ | hj | hj
          · exact Or.inl ⟨a, b, c k (by omega)⟩
          · exact Or.inr (Or.inl hj)
          · exact Or.inr (Or.inr ⟨hj.1, by omega⟩)
    · rw [if_neg hd]
      refine ⟨e', h1, h2, h3, fun j hj => h4 j ?_⟩
      rcases hj with ⟨a, b, c⟩ | hj | hj
      · exact Or.inl ⟨a, b, fun t ht => c t (by omega)⟩
      · exact Or.inr (Or.inl hj)
      · exact Or.inr (Or.inr hj)
theorem kb_notes_flag {F : Nat → Int32} {D : kr_D} {e : Nat} (he : F 4 = nI e) (he2 : e ≤ 100) (d : Option Int) {k t : Nat} (hk : k ≤ 12) (ht : t < 12) : kb_flag (kb_notes F D k) d t = kb_flag F d t := by
  obtain ⟨e', h1, h2, h3, h4⟩ := kb_notes_inv (D := D) he he2 k hk
  unfold kb_flag
  rw [h4 (172 + 3 * t + 1) (Or.inl ⟨by omega, by omega, fun u hu => by omega⟩)]
theorem km_notes_step {σ : kw_M} {D : kr_D} {n e k : Nat} (hrow : ∀ t, t < 12 → σ.2 3 t = km_enc (D t)) (hD : ∀ t, kr_bd (D t)) (hn : σ.1 1 0 = nI n) (h12 : n ≤ 12) (he : σ.1 1 4 = nI e) (he2 : e ≤ 100) (hk : k < n) : bX10_ends_57 (nI k) (kw_ri σ 1 (kb_notes (σ.1 1) D k)) = some (.inl (nI (k + 1), kw_ri σ 1 (kb_notes (σ.1 1) D (k + 1)))) := by
  obtain ⟨e', h1, h2, h3, h4⟩ := kb_notes_inv (D := D) he he2 k (by omega)
  have hr2 : (kw_ri σ 1 (kb_notes (σ.1 1) D k)).2 3 k = km_enc (D k) := hrow k (by omega)
  have f0 : kb_notes (σ.1 1) D k 0 = nI n := (h4 0 (Or.inl ⟨by omega, by omega, fun u hu => by omega⟩)).trans hn
  have f1 : kb_notes (σ.1 1) D k (172 + 3 * k) = σ.1 1 (172 + 3 * k) := h4 _ (Or.inl ⟨by omega, by omega, fun u hu => by omega⟩)
  have f2 : kb_notes (σ.1 1) D k (172 + 3 * k + 2) = σ.1 1 (172 + 3 * k + 2) := h4 _ (Or.inl ⟨by omega, by omega, fun u hu => by omega⟩)
  have hj : ∀ x : Int32, (x = 0 ∨ x = 1) → jX10_ends_109_L57 (nI k) x (kb_flag (σ.1 1) (D k) k) (kw_ri σ 1 (kb_notes (σ.1 1) D k)) = if kb_flag (σ.1 1) (D k) k = x then some (.inl (nI (k + 1), kw_ri σ 1 (kb_notes (σ.1 1) D k))) else some (.inl (nI (k + 1), kw_ri σ 1 (kb_note (kb_notes (σ.1 1) D k) (D k) k))) := fun x _ => by
    unfold jX10_ends_109_L57
    rw [km_notesEvent (e := e') hr2 (hD k) (by omega) (by rw [kw_ri_1]; exact h1) h3, Option.bind_some, kw_let_def, kw_ri_1, kw_ri_ri, km_next]
    rfl
  unfold bX10_ends_57 fX10_towns
  rw [kw_ri_1, f0, Option.bind_some, if_neg (nI_ge hk (by omega))]
  simp (disch := omega) only [kn_172, kn_3, kn_mul, nI_add, kn_2, kn_chk, kn_clamp, f1, f2, km_isBeyond hr2 (hD k) (show k < 12 by omega), kw_ri_1, kb_notes_flag he he2, Option.bind_some, kw_let_def, km_next]
  have e2 : kb_notes (σ.1 1) D (k + 1) = if σ.1 1 (172 + 3 * k) = 1 ∧ ¬ kb_flag (σ.1 1) (D k) k = kx_fl (decide (σ.1 1 (172 + 3 * k + 2) = 1)) then kb_note (kb_notes (σ.1 1) D k) (D k) k else kb_notes (σ.1 1) D k := rfl
  rw [e2]
  by_cases hw : σ.1 1 (172 + 3 * k) = 1
  · rw [if_pos hw]
    by_cases hb : σ.1 1 (172 + 3 * k + 2) = 1
    · rw [if_pos hb, hj 1 (Or.inr rfl), decide_eq_true hb]
      by_cases hf : kb_flag (σ.1 1) (D k) k = 1
      · rw [if_pos hf, if_neg (fun q => q.2 hf)]
      · rw [if_neg hf, if_pos ⟨hw, hf⟩]
    · rw [if_neg hb, hj 0 (Or.inl rfl), decide_eq_false hb]
      by_cases hf : kb_flag (σ.1 1) (D k) k = 0
      · rw [if_pos hf, if_neg (fun q => q.2 hf)]
      · rw [if_neg hf, if_pos ⟨hw, hf⟩]
  · rw [if_neg hw, if_neg (fun q => hw q.1)]
theorem km_notes {σ : kw_M} {D : kr_D} {n e : Nat} (hrow : ∀ t, t < 12 → σ.2 3 t = km_enc (D t)) (hD : ∀ t, kr_bd (D t)) (hn : σ.1 1 0 = nI n) (h12 : n ≤ 12) (he : σ.1 1 4 = nI e) (he2 : e ≤ 100) : kw_loop (fun s => bX10_ends_57 s.1 s.2) kw_F ((0 : Int32), σ) = some (kw_ri σ 1 (kb_notes (σ.1 1) D n)) := by
  obtain ⟨e', h1, h2, h3, h4⟩ := kb_notes_inv (D := D) he he2 n (by omega)
  have h := kw_loop_at (body := fun s => bX10_ends_57 s.1 s.2) (fun k => (nI k, kw_ri σ 1 (kb_notes (σ.1 1) D k))) (x := kw_ri σ 1 (kb_notes (σ.1 1) D n)) n (fun k hk => km_notes_step hrow hD hn h12 he he2 hk) (by
    show bX10_ends_57 (nI n) _ = _
    unfold bX10_ends_57 fX10_towns
    rw [kw_ri_1, h4 0 (Or.inl ⟨by omega, by omega, fun u hu => by omega⟩), hn, Option.bind_some, if_pos (nI_le (Nat.le_refl n) (by omega))]) (by omega)
  have h0 : ((nI 0, kw_ri σ 1 (kb_notes (σ.1 1) D 0)) : Int32 × kw_M) = ((0 : Int32), σ) := by
    show ((nI 0, kw_ri σ 1 (σ.1 1)) : Int32 × kw_M) = _
    rw [kw_ri_id]
    rfl
  simp only [h0] at h
  exact h
theorem km_ins {σ : kw_M} {D : kr_D} {t n0 : Nat} {v1 : Int32} {T : Nat → Int32} (hrow : ∀ u, u < 12 → σ.2 3 u = km_enc (D u)) (hD : ∀ u, kr_bd (D u)) (ht : t < 12) (hn0 : n0 < 12) (hT : ∀ i, i < n0 → kb_bel 12 (T (16 + i))) : ∃ k T', kw_loop (fun s => bX10_touches_33 v1 (nI t) s.1 s.2) kw_F (nI n0, kw_ri σ 1 T) = some (nI k, kw_ri σ 1 T') ∧ k ≤ 11 ∧ upd T' (16 + k) (nI t) = kb_ins T 16 (nI t) (fun x => kr_ls (D t) (D x.toNatClampNeg)) n0 := by
  obtain ⟨x, hx, k, T', rfl, hk, hR⟩ := kw_for (body := fun s => bX10_touches_33 v1 (nI t) s.1 s.2) (fun j s => ∃ k T', k + j = n0 ∧ s = (nI k, kw_ri σ 1 T') ∧ (∀ i, i < k → kb_bel 12 (T' (16 + i))) ∧ kb_ins T' 16 (nI t) (fun x => kr_ls (D t) (D x.toNatClampNeg)) k = kb_ins T 16 (nI t) (fun x => kr_ls (D t) (D x.toNatClampNeg)) n0) (fun x => ∃ k T', x = (nI k, kw_ri σ 1 T') ∧ k ≤ 11 ∧ upd T' (16 + k) (nI t) = kb_ins T 16 (nI t) (fun x => kr_ls (D t) (D x.toNatClampNeg)) n0) n0 (by omega) (s0 := (nI n0, kw_ri σ 1 T)) ⟨n0, T, by omega, rfl, hT, rfl⟩ (fun j s hj hp => by
    obtain ⟨k, T', hk, rfl, hb, hR⟩ := hp
    dsimp only
    unfold bX10_touches_33
    cases k with
    | zero =>
      right
      refine ⟨(nI 0, kw_ri σ 1 T'), by rw [if_pos (by decide)], 0, T', rfl, by omega, hR⟩
    | succ k =>
      obtain ⟨a, ha, hTa⟩ := hb k (by omega)
      have e1 : 16 + (k + 1) - 1 = 16 + k := by omega
      rw [if_neg (by simp (disch := omega) only [kn_0, kn_le]; omega)]
      simp (disch := omega) only [kn_16, kn_1, nI_add, kn_sub, e1, Nat.add_sub_cancel, kn_chk, kn_clamp, kw_ri_1, hTa, kw_ri_2, hrow, km_enc_le (hD _) (hD _), kw_let_def, kw_si_d, kw_ri_ri]
      rw [kb_ins_s, hTa, kn_clamp (by omega)] at hR
      cases hl : kr_ls (D t) (D a) with
      | true =>
        left
        rw [hl, if_pos rfl] at hR
        refine ⟨by omega, (nI k, kw_ri σ 1 (upd T' (16 + (k + 1)) (nI a))), ?_, k, _, by omega, rfl, fun i hi => ?_, hR⟩
        · rw [if_neg (by simp)]
        · rw [kw_upd_n (by omega)]
          exact hb i (by omega)
      | false =>
        right
        rw [hl, if_neg (by simp)] at hR
        refine ⟨(nI (k + 1), kw_ri σ 1 T'), by rw [if_pos rfl], k + 1, T', rfl, by omega, hR⟩)
  exact ⟨k, T', hx, hk, hR⟩
theorem kb_tch_s (T : Nat → Int32) (off : Nat) (D E : kr_D) (t : Nat) : kb_tch T off D E (t + 1) = if D t = E t then kb_tch T off D E t else ((kb_tch T off D E t).1 + 1, kb_ins (kb_tch T off D E t).2 off (nI t) (fun x => kr_ls (D t) (D x.toNatClampNeg)) (kb_tch T off D E t).1) := rfl
theorem km_touches {σ : kw_M} {D E : kr_D} {n : Nat} (hrow : ∀ u, u < 12 → σ.2 3 u = km_enc (D u)) (hD : ∀ u, kr_bd (D u)) (hold : ∀ u, u < 12 → σ.2 4 u = km_enc (E u)) (hE : ∀ u, kr_bd (E u)) (hn : σ.1 1 0 = nI n) (h12 : n ≤ 12) : fX10_touches σ = some (nI (kb_tch (σ.1 1) 16 D E n).1, kw_ri σ 1 (upd (kb_tch (σ.1 1) 16 D E n).2 6 (nI (kb_tch (σ.1 1) 16 D E n).1))) := by
  have h := kw_loop_at (body := fun s => bX10_touches_4 s.1 s.2.1 s.2.2) (fun k => (nI (kb_tch (σ.1 1) 16 D E k).1, nI k, kw_ri σ 1 (kb_tch (σ.1 1) 16 D E k).2)) (x := (nI (kb_tch (σ.1 1) 16 D E n).1, kw_ri σ 1 (kb_tch (σ.1 1) 16 D E n).2)) n (fun k hk => by
    obtain ⟨h1, h2, h3⟩ := kb_tch_inv (σ.1 1) 16 D E k
    show bX10_touches_4 (nI (kb_tch (σ.1 1) 16 D E k).1) (nI k) (kw_ri σ 1 (kb_tch (σ.1 1) 16 D E k).2) = _
    unfold bX10_touches_4 fX10_towns
    rw [kw_ri_1, h3 0 (by omega), hn, Option.bind_some, if_neg (nI_ge hk (by omega))]
    simp (disch := omega) only [kn_chk, kn_clamp, kw_ri_2, hrow, hold, km_enc_eq (hD _) (hE _), kw_let_def, km_next, kb_tch_s]
    by_cases hd : D k = E k
    · rw [if_pos hd, if_pos hd]
    · rw [if_neg hd, if_neg hd]
      obtain ⟨q, T', g1, g2, g3⟩ := km_ins (σ := σ) (D := D) (t := k) (n0 := (kb_tch (σ.1 1) 16 D E k).1) (v1 := nI (kb_tch (σ.1 1) 16 D E k).1) (T := (kb_tch (σ.1 1) 16 D E k).2) hrow hD (by omega) (by omega) (fun i hi => by
        obtain ⟨a, ha, hb⟩ := h2 i hi
        exact ⟨a, by omega, hb⟩)
      rw [g1, Option.bind_some]
      unfold jX10_touches_90_L4
      simp (disch := omega) only [kn_16, kn_1, nI_add, kn_chk, kn_clamp, kw_si_d, kw_ri_1, kw_ri_ri, kw_let_def, g3]) (by
    obtain ⟨h1, h2, h3⟩ := kb_tch_inv (σ.1 1) 16 D E n
    show bX10_touches_4 (nI (kb_tch (σ.1 1) 16 D E n).1) (nI n) (kw_ri σ 1 (kb_tch (σ.1 1) 16 D E n).2) = _
    unfold bX10_touches_4 fX10_towns
    rw [kw_ri_1, h3 0 (by omega), hn, Option.bind_some, if_pos (nI_le (Nat.le_refl n) (by omega))]) (by omega)
  have h0 : ((nI (kb_tch (σ.1 1) 16 D E 0).1, nI 0, kw_ri σ 1 (kb_tch (σ.1 1) 16 D E 0).2) : Int32 × Int32 × kw_M) = ((0 : Int32), (0 : Int32), σ) := by
    show ((nI 0, nI 0, kw_ri σ 1 (σ.1 1)) : Int32 × Int32 × kw_M) = _
    rw [kw_ri_id]
    rfl
  simp only [h0] at h
  unfold fX10_touches
  rw [h, Option.bind_some, kw_let_def, kw_si_d, kw_ri_1, kw_ri_ri]
