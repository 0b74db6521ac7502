/-! The class's log beside the file's events. -/
def kb_far (F : Nat → Int32) (i : Nat) : Int64 := if F (208 + 5 * i + 4) = 0 then -9000000000000000000 else (F (208 + 5 * i + 3)).toInt64
def kx_lg (σ : kw_M) (L C : Nat) (F : Nat → Int32) : Prop := σ.1 L 0 = F 4 ∧ ∀ i, i < (F 4).toNatClampNeg → σ.2 C (i * 4) = (F (208 + 5 * i)).toInt64 ∧ σ.2 C (i * 4 + 1) = (F (208 + 5 * i + 1)).toInt64 ∧ σ.2 C (i * 4 + 2) = (F (208 + 5 * i + 2)).toInt64 ∧ σ.2 C (i * 4 + 3) = kb_far F i
/-- only the size and the events that are there count -/
theorem kx_lg_fr {σ τ : kw_M} {L C e : Nat} {F G : Nat → Int32} (h : kx_lg σ L C F) (he : F 4 = nI e) (he2 : e ≤ 100) (h4 : G 4 = F 4) (hF : ∀ j, 208 ≤ j → j < 208 + 5 * e → G j = F j) (h0 : τ.1 L 0 = σ.1 L 0) (hC : ∀ j, j < 4 * e → τ.2 C j = σ.2 C j) : kx_lg τ L C G := by
  obtain ⟨h1, h2⟩ := h
  rw [he, kn_clamp (by omega)] at h2
  refine ⟨by rw [h0, h1, h4], fun i hi => ?_⟩
  rw [h4, he, kn_clamp (by omega)] at hi
  obtain ⟨a, b, c, d⟩ := h2 i hi
  unfold kb_far at d ⊢
  rw [hC _ (by omega), hC _ (by omega), hC _ (by omega), hC _ (by omega), hF _ (by omega) (by omega), hF _ (by omega) (by omega), hF _ (by omega) (by omega), hF _ (by omega) (by omega), hF _ (by omega) (by omega)]
  exact ⟨a, b, c, d⟩
theorem kw_i32_64 {z : Int} (h1 : -2147483648 ≤ z) (h2 : z ≤ 2147483647) : (Int32.ofInt z).toInt64 = Int64.ofInt z := by
  apply Int64.toInt_inj.mp
  rw [Int32.toInt_toInt64, Int64.toInt_ofInt_of_le (by omega) (by omega), Int32.toInt_ofInt_of_le (by omega) (by omega)]
theorem kx_write {σ : kw_M} {F : Nat → Int32} {e t : Nat} {d : Option Int} (h : kx_lg σ 13 21 F) (he : F 4 = nI e) (he2 : e ≤ 100) (ht : t < 12) (hd : ∀ z, d = some z → -2147483648 ≤ z ∧ z ≤ 2147483647) : ∃ τ, fX0_write (F 3) (nI t) (kb_flag F d t) (kx_enc d) σ = some τ ∧ kx_lg τ 13 21 (kb_note F d t) ∧ (∀ c, c ≠ 13 → τ.1 c = σ.1 c) ∧ ∀ c, c ≠ 21 → τ.2 c = σ.2 c := by
  have hs : σ.1 13 0 = nI e := h.1.trans he
  unfold fX0_write
  rw [hs, kn_100]
  by_cases h100 : e < 100
  · rw [if_pos (by simp (disch := omega) only [kn_lt]; omega)]
    have hj : ∀ τ : kw_M, (if kb_flag F d t = 0 then jX0_write_55 (kx_enc d) (nI (e * 4)) 0 (nI (e * 4 + 2)) τ else jX0_write_55 (kx_enc d) (nI (e * 4)) 1 (nI (e * 4 + 2)) τ) = jX0_write_55 (kx_enc d) (nI (e * 4)) (kb_flag F d t).toInt64 (nI (e * 4 + 2)) τ := fun τ => by
      rcases km_flag_01 F d t with q | q
      · rw [q, if_pos rfl]; rfl
      · rw [q, if_neg (by decide)]; rfl
    simp (disch := omega) only [kw_let_def, kn_4, kn_mul, kn_2, nI_add, km_next, kn_chk, kn_clamp]
    first
    | rw [hj]
    | (simp only [← kn_4, ← kn_2] at hj ⊢
       rw [hj])
    unfold jX0_write_55
    simp (disch := omega) only [kw_let_def, kn_3, nI_add, kn_chk, kn_clamp, kw_sl_d, kw_rl_2, kw_rl_rl, kw_rl_1, hs, km_next]
    refine ⟨_, rfl, ⟨?_, fun i hi => ?_⟩, fun c hc => ?_, fun c hc => ?_⟩
    · rw [kw_si_1, kw_upd_e, kb_note_4 he he2, if_neg (by omega)]
    · rw [kb_note_4 he he2, if_neg (by omega), kn_clamp (by omega)] at hi
      rw [kw_si_2, kw_rl_2]
      by_cases q : i = e
      · subst q
        obtain ⟨a1, a2, a3, a4, a5⟩ := kb_note_e (d := d) (t := t) he h100
        unfold kb_far
        rw [a1, a2, a3, a4, a5]
        refine ⟨?_, ?_, ?_, ?_⟩
        · simp (disch := omega) only [kw_updL_n, kw_updL_e]
        · simp (disch := omega) only [kw_updL_n, kw_updL_e]
        · simp (disch := omega) only [kw_updL_n, kw_updL_e]
        · rw [kw_updL_e]
          cases d with
          | none => rw [if_pos (by rfl)]; rfl
          | some z =>
            rw [if_neg (show ¬ kb_is (some z) = 0 from (by decide : ¬ (1 : Int32) = 0))]
            exact (kw_i32_64 (hd z rfl).1 (hd z rfl).2).symm
      · have hie : i < e := by omega
        have g := h.2 i (by rw [he, kn_clamp (by omega)]; exact hie)
        unfold kb_far at g ⊢
        rw [kb_note_o he he2 ht (Or.inr (Or.inr ⟨by omega, by omega⟩)), kb_note_o he he2 ht (Or.inr (Or.inr ⟨by omega, by omega⟩)), kb_note_o he he2 ht (Or.inr (Or.inr ⟨by omega, by omega⟩)), kb_note_o he he2 ht (Or.inr (Or.inr ⟨by omega, by omega⟩)), kb_note_o he he2 ht (Or.inr (Or.inr ⟨by omega, by omega⟩))]
        simp (disch := omega) only [kw_updL_n]
        exact g
    · rw [kw_si_o hc, kw_rl_1]
    · rw [kw_si_2, kw_rl_o hc]
  · obtain rfl : e = 100 := by omega
    rw [if_neg (by decide)]
    refine ⟨σ, rfl, kx_lg_fr h he he2 ?_ (fun j h1 h2 => kb_note_o he he2 ht (Or.inr (Or.inr ⟨h1, h2⟩))) rfl (fun _ _ => rfl), fun _ _ => rfl, fun _ _ => rfl⟩
    rw [kb_note_4 he he2, he]
    rfl
/-- the limits that are watched, shown by the class -/
def kx_wt (σ : kw_M) (s B : Nat) (F : Nat → Int32) : Prop := (∀ i, i < 32 → kw_bI (σ.1 s 5) i = decide (i < 12 ∧ F (172 + 3 * i) = 1)) ∧ ∀ t, t < 12 → F (172 + 3 * t) = 1 → σ.1 (B + 2) t = F (172 + 3 * t + 1)
theorem kx_writeEvents {σ : kw_M} {F : Nat → Int32} {D : kr_D} {n e : Nat} {w : Int32} (hn : σ.1 12 0 = nI n) (h12 : n ≤ 12) (hl : kx_lg σ 13 21 F) (he : F 4 = nI e) (he2 : e ≤ 100) (h3 : σ.1 1 3 = F 3) (hrow : ∀ t, t < 12 → σ.2 16 t = kx_enc (D t)) (hD : ∀ t, t < n → ∀ z, D t = some z → -2147483648 ≤ z ∧ z ≤ 2147483647) (hlim : ∀ t, t < 12 → F (172 + 3 * t) = 1 → σ.1 14 t = F (172 + 3 * t + 1)) (hw : ∀ t, t < n → (kw_bI w t = true ↔ F (172 + 3 * t) = 1 ∧ ¬ kb_flag F (D t) t = kx_fl (decide (F (172 + 3 * t + 2) = 1)))) : ∃ τ, fX7_writeEvents w σ = some τ ∧ kx_lg τ 13 21 (kb_notes F D n) ∧ (∀ c, c ≠ 13 → τ.1 c = σ.1 c) ∧ ∀ c, c ≠ 21 → τ.2 c = σ.2 c := by
  obtain ⟨x, hx, h⟩ := kw_for (body := fun s => bX7_writeEvents_2 w s.1 s.2) (fun k s => s.1 = nI k ∧ kx_lg s.2 13 21 (kb_notes F D k) ∧ (∀ c, c ≠ 13 → s.2.1 c = σ.1 c) ∧ ∀ c, c ≠ 21 → s.2.2 c = σ.2 c) (fun x => kx_lg x 13 21 (kb_notes F D n) ∧ (∀ c, c ≠ 13 → x.1 c = σ.1 c) ∧ ∀ c, c ≠ 21 → x.2 c = σ.2 c) n (by omega) (s0 := ((0 : Int32), σ)) ⟨rfl, hl, fun _ _ => rfl, fun _ _ => rfl⟩ (fun k s hk hp => by
    obtain ⟨v, τ⟩ := s
    obtain ⟨rfl, hlg, c1, c2⟩ := hp
    dsimp only at hlg c1 c2 ⊢
    unfold bX7_writeEvents_2
    rw [c1 12 (by decide), hn]
    by_cases h : k < n
    · left
      refine ⟨h, ?_⟩
      rw [if_neg (nI_ge h (by omega)), kw_dnI (by omega)]
      simp only [kx_fl_0, kw_let_def, km_next]
      have es : kb_notes F D (k + 1) = if F (172 + 3 * k) = 1 ∧ ¬ kb_flag F (D k) k = kx_fl (decide (F (172 + 3 * k + 2) = 1)) then kb_note (kb_notes F D k) (D k) k else kb_notes F D k := rfl
      rw [es]
      cases hb : kw_bI w k with
      | false =>
        rw [if_pos rfl, if_neg (fun q => by
          have := (hw k h).mpr q
          rw [hb] at this
          cases this)]
        exact ⟨_, rfl, rfl, hlg, c1, c2⟩
      | true =>
        have hdue := (hw k h).mp hb
        have hbd : kr_bd (D k) := fun z hz => by
          have := hD k h z hz
          omega
        obtain ⟨e', g1, g2, g3, g4⟩ := kb_notes_inv (D := D) he he2 k (by omega)
        have hrow' : τ.2 16 k = kx_enc (D k) := by rw [c2 16 (by decide)]; exact hrow k (by omega)
        rw [if_neg (by decide), if_pos hdue, kx_isBeyond hrow' hbd (by omega), Option.bind_some, kn_chk (by omega) (by decide), kn_clamp (by omega), hrow']
        have efl : kx_fl (kb_bey (D k) (τ.1 14 k)) = kb_flag (kb_notes F D k) (D k) k := by
          rw [kb_notes_flag he he2 (D k) (by omega) (by omega), c1 14 (by decide), hlim k (by omega) hdue.1]
          rfl
        have e3 : τ.1 1 3 = kb_notes F D k 3 := by
          rw [c1 1 (by decide), h3, g4 3 (Or.inl ⟨by omega, by omega, fun u hu => by omega⟩)]
        rw [efl, e3]
        obtain ⟨ρ, f1, f2, f3, f4⟩ := kx_write (d := D k) (t := k) hlg g1 g3 (by omega) (hD k h)
        rw [f1, Option.bind_some]
        refine ⟨_, rfl, rfl, f2, fun c hc => (f3 c hc).trans (c1 c hc), fun c hc => (f4 c hc).trans (c2 c hc)⟩
    · right
      obtain rfl : k = n := by omega
      exact ⟨τ, by rw [if_pos (nI_le (Nat.le_refl k) (by omega))], hlg, c1, c2⟩)
  unfold fX7_writeEvents
  rw [hx]
  exact ⟨x, rfl, h⟩
