/-! The reference: isBeyond, notesEvent, the events of a change, touches, in closed form. -/
theorem kw_si_d (σ : kw_M) (c k : Nat) (x : Int32) : kw_si σ c k x = kw_ri σ c (upd (σ.1 c) k x) := rfl
theorem kw_sl_d (σ : kw_M) (c k : Nat) (x : Int64) : kw_sl σ c k x = kw_rl σ c (vp_updL (σ.2 c) k x) := rfl
theorem kw_ri_2 (σ : kw_M) (c : Nat) (f : Nat → Int32) : (kw_ri σ c f).2 = σ.2 := rfl
theorem kw_rl_1 (σ : kw_M) (c : Nat) (f : Nat → Int64) : (kw_rl σ c f).1 = σ.1 := rfl
theorem km_isBeyond {σ : kw_M} {t : Nat} {d : Option Int} (hrow : σ.2 3 t = km_enc d) (hd : kr_bd d) (ht : t < 12) : fX10_isBeyond (nI t) σ = some (kb_flag (σ.1 1) d t) := by
  unfold fX10_isBeyond kb_flag
  simp (disch := omega) only [kn_172, kn_3, kn_1, kn_mul, nI_add, kn_chk, kn_clamp, hrow, km_enc_bey hd]
  cases h : kb_bey d (σ.1 1 (172 + 3 * t + 1)) with
  | true => rw [if_neg (by simp)]; rfl
  | false => rw [if_pos rfl]; rfl
theorem km_flag_01 (F : Nat → Int32) (d : Option Int) (t : Nat) : kb_flag F d t = 0 ∨ kb_flag F d t = 1 := by
  unfold kb_flag kx_fl
  cases kb_bey d (F (172 + 3 * t + 1)) <;> simp
theorem km_notesEvent {σ : kw_M} {t e : Nat} {d : Option Int} (hrow : σ.2 3 t = km_enc d) (hd : kr_bd d) (ht : t < 12) (he : σ.1 1 4 = nI e) (he2 : e ≤ 100) : fX10_notesEvent (nI t) σ = some (kw_ri σ 1 (kb_note (σ.1 1) d t)) := by
  have h1 : fX10_notesEvent (nI t) σ = jX10_notesEvent_26 (nI t) (kb_flag (σ.1 1) d t) (nI (172 + 3 * t + 2)) σ := by
    unfold fX10_notesEvent
    simp (disch := omega) only [kn_172, kn_3, kn_2, kn_mul, nI_add, km_isBeyond hrow hd ht, Option.bind_some]
    rcases km_flag_01 (σ.1 1) d t with h | h
    · rw [h, if_pos rfl]
    · rw [h, if_neg (by decide)]
  rw [h1]
  unfold jX10_notesEvent_26
  simp (disch := omega) only [kn_chk, kn_clamp, kw_let_def, kw_si_d, kw_ri_1, kw_ri_ri, kw_upd_n]
  unfold kb_note
  by_cases h100 : σ.1 1 4 = 100
  · rw [if_pos h100, if_pos h100]
  · rw [if_neg h100, if_neg h100]
    have he3 : e < 100 := Nat.lt_of_le_of_ne he2 (fun q => h100 (by rw [he, q]; rfl))
    simp (disch := omega) only [he, kn_208, kn_5, kn_2, kn_3, kn_4, kn_mul, nI_add, km_next, kn_chk, kn_clamp]
    have hrow2 : ∀ G : Nat → Int32, (kw_ri σ 1 G).2 3 t = km_enc d := fun G => hrow
    simp (disch := omega) only [km_isBeyond (hrow2 _) hd ht, Option.bind_some, kw_ri_1]
    have hfl : ∀ x y : Int32, kb_flag (upd (upd (upd (σ.1 1) (172 + 3 * t + 2) (kb_flag (σ.1 1) d t)) (208 + 5 * e) x) (208 + 5 * e + 1) y) d t = kb_flag (σ.1 1) d t := fun x y => by
      unfold kb_flag
      simp (disch := omega) only [kw_upd_n]
    rw [hfl]
    have h2 : ∀ τ : kw_M, (if kb_flag (σ.1 1) d t = 0 then jX10_notesEvent_93 (nI t) (nI (208 + 5 * e)) 0 (nI (208 + 5 * e + 2)) τ else jX10_notesEvent_93 (nI t) (nI (208 + 5 * e)) 1 (nI (208 + 5 * e + 2)) τ) = jX10_notesEvent_93 (nI t) (nI (208 + 5 * e)) (kb_flag (σ.1 1) d t) (nI (208 + 5 * e + 2)) τ := fun τ => by
      rcases km_flag_01 (σ.1 1) d t with h | h
      · rw [h, if_pos rfl]
      · rw [h, if_neg (by decide)]
    rw [h2]
    unfold jX10_notesEvent_93 jX10_notesEvent_125 jX10_notesEvent_151
    simp (disch := omega) only [kn_3, kn_4, nI_add, kn_chk, kn_clamp, kw_let_def, kw_si_d, kw_ri_1, kw_ri_ri, kw_ri_2, hrow, km_enc_e hd, kw_upd_n, he, km_next]
    cases d with
    | none =>
      rw [if_pos rfl, if_pos rfl]
      rfl
    | some z =>
      rw [if_neg (by simp), if_neg (by simp)]
      have hz : (km_enc (some z)).toInt32 = Int32.ofInt z := by
        show (Int64.ofInt z).toInt32 = Int32.ofInt z
        exact Int64.toInt32_ofInt
      rw [hz]
      rfl
