/-! The class takes a change over; the block that it then shows. -/
theorem kb_notes_flags {F : Nat → Int32} {D : kr_D} {e : Nat} (he : F 4 = nI e) (he2 : e ≤ 100) (hw : ∀ t, t < 12 → F (172 + 3 * t) = 1 → F (172 + 3 * t + 2) = 0 ∨ F (172 + 3 * t + 2) = 1) : ∀ k : Nat, k ≤ 12 → ∀ t, t < k → F (172 + 3 * t) = 1 → kb_notes F D k (172 + 3 * t + 2) = kb_flag F (D t) t
  | 0, _, t, ht, _ => absurd ht (Nat.not_lt_zero _)
  | k + 1, hk, t, ht, hwt => by
    obtain ⟨e', g1, g2, g3, g4⟩ := kb_notes_inv (D := D) he he2 k (by omega)
    have es : kb_notes F D (k + 1) = if F (172 + 3 * k) = 1 ∧ ¬ kb_flag F (D k) k = kx_fl (decide (F (172 + 3 * k + 2) = 1)) then kb_note (kb_notes F D k) (D k) k else kb_notes F D k := rfl
    rw [es]
    by_cases hd : F (172 + 3 * k) = 1 ∧ ¬ kb_flag F (D k) k = kx_fl (decide (F (172 + 3 * k + 2) = 1))
    · rw [if_pos hd]
      by_cases q : t = k
      · subst q
        rw [kb_note_f g1 g3 (by omega), kb_notes_flag he he2 _ (by omega) (by omega)]
      · rw [kb_note_o g1 g3 (by omega) (Or.inl ⟨by omega, by omega, by omega⟩)]
        exact kb_notes_flags he he2 hw k (by omega) t (by omega) hwt
    · rw [if_neg hd]
      by_cases q : t = k
      · subst q
        rw [g4 _ (Or.inl ⟨by omega, by omega, fun u hu => by omega⟩)]
        have h2 : kb_flag F (D t) t = kx_fl (decide (F (172 + 3 * t + 2) = 1)) := Decidable.byContradiction fun z => hd ⟨hwt, z⟩
        rw [h2]
        rcases hw t (by omega) hwt with w0 | w1
        · rw [w0]; rfl
        · rw [w1]; rfl
      · exact kb_notes_flags he he2 hw k (by omega) t (by omega) hwt
/-- the file after a change: what stays -/
theorem kb_end_o {F : Nat → Int32} {D E : kr_D} {n e : Nat} (he : F 4 = nI e) (he2 : e ≤ 100) (hn : n ≤ 12) {j : Nat} (hj : ((j < 208 ∧ j ≠ 3 ∧ j ≠ 4 ∧ j ≠ 6 ∧ (j < 16 ∨ 28 ≤ j) ∧ ∀ t, t < n → j ≠ 172 + 3 * t + 2) ∨ 708 ≤ j)) : kb_end F D E n j = F j := by
  have he' : upd F 3 (F 3 + 1) 4 = nI e := by rw [kw_upd_n (by decide)]; exact he
  obtain ⟨e', g1, g2, g3, g4⟩ := kb_notes_inv (F := upd F 3 (F 3 + 1)) (D := D) he' he2 n hn
  obtain ⟨h1, h2, h3⟩ := kb_tch_inv (kb_notes (upd F 3 (F 3 + 1)) D n) 16 D E n
  unfold kb_end
  rcases hj with ⟨a, b, c, d, x, f⟩ | hj
  · rw [kw_upd_n d, h3 j (by omega), g4 j (Or.inl ⟨a, c, f⟩), kw_upd_n b]
  · rw [kw_upd_n (by omega), h3 j (by omega), g4 j (Or.inr (Or.inl hj)), kw_upd_n (by omega)]
theorem kb_end_n {F : Nat → Int32} {D E : kr_D} {n j : Nat} (hn : n ≤ 12) (hj : j = 3 ∨ j = 4 ∨ 28 ≤ j) : kb_end F D E n j = kb_notes (upd F 3 (F 3 + 1)) D n j := by
  obtain ⟨h1, h2, h3⟩ := kb_tch_inv (kb_notes (upd F 3 (F 3 + 1)) D n) 16 D E n
  unfold kb_end
  rw [kw_upd_n (by omega), h3 j (by omega)]
theorem kb_cnt_le (D E : kr_D) (n : Nat) : kb_cnt D E n ≤ n := by
  rw [← kb_tch_cnt (fun _ => 0) 0]
  exact (kb_tch_inv _ _ _ _ _).1
/-- what differs between the block before and the block with the change: roads, how many, the origin -/
def kb_chg (F G : Nat → Int32) : Prop := ∀ j, (j = 0 ∨ (3 ≤ j ∧ j < 28) ∨ (172 ≤ j ∧ j < 708)) → G j = F j
theorem kb_end_ok {F G : Nat → Int32} {n m m0 o o0 : Nat} (hok : kb_ok F n m0 o0) (hch : kb_chg F G) (hw : kb_wf G n m) (ho : G 2 = nI o) (hon : o < n) (hg : kr_good (km_gr G m (-1))) (hbad : kr_anyTo (kr_bad (kb_D G n m o)) n = false) : kb_ok (kb_end G (kb_D G n m o) (kb_D F n m0 o0) n) n m o := by
  obtain ⟨a, b, c, d, e, f, ⟨e', he2, he⟩, g2, g3⟩ := hok
  have hn := hw.2.2.1
  have hm := hw.2.2.2.1.1
  have heG : G 4 = nI e' := by rw [hch 4 (by omega)]; exact he
  have hroad : ∀ j, 28 ≤ j → j < 28 + 4 * m → kb_end G (kb_D G n m o) (kb_D F n m0 o0) n j = G j := fun j h1 h2 => kb_end_o heG he2 hn (Or.inl ⟨by omega, by omega, by omega, by omega, by omega, fun t ht => by omega⟩)
  have o1 : ∀ j, j < 3 → kb_end G (kb_D G n m o) (kb_D F n m0 o0) n j = G j := fun j h1 => kb_end_o heG he2 hn (Or.inl ⟨by omega, by omega, by omega, by omega, by omega, fun t ht => by omega⟩)
  have ow : ∀ t, t < 12 → kb_end G (kb_D G n m o) (kb_D F n m0 o0) n (172 + 3 * t) = F (172 + 3 * t) := fun t ht => (kb_end_o heG he2 hn (Or.inl ⟨by omega, by omega, by omega, by omega, by omega, fun u hu => by omega⟩)).trans (hch _ (by omega))
  have ol : ∀ t, t < 12 → kb_end G (kb_D G n m o) (kb_D F n m0 o0) n (172 + 3 * t + 1) = G (172 + 3 * t + 1) := fun t ht => kb_end_o heG he2 hn (Or.inl ⟨by omega, by omega, by omega, by omega, by omega, fun u hu => by omega⟩)
  have hD := kb_D_same hroad n o
  have heU : upd G 3 (G 3 + 1) 4 = nI e' := by rw [kw_upd_n (by decide)]; exact heG
  refine ⟨kb_wf_eq hw (o1 0 (by omega)) (o1 1 (by omega)) hroad, (o1 2 (by omega)).trans ho, hon, kr_same_good (kr_same_symm (kb_gr_same hroad (-1))) hg, by rw [hD]; exact hbad, fun t ht => ?_, ?_, ?_, ?_⟩
  · rw [ow t ht]
    refine ⟨(f t ht).1, fun q => ?_⟩
    obtain ⟨htn, hfl⟩ := (f t ht).2 q
    refine ⟨htn, ?_⟩
    have e1 : kb_flag (kb_end G (kb_D G n m o) (kb_D F n m0 o0) n) (kb_D (kb_end G (kb_D G n m o) (kb_D F n m0 o0) n) n m o t) t = kb_flag (upd G 3 (G 3 + 1)) (kb_D G n m o t) t := by
      rw [hD]
      unfold kb_flag
      rw [ol t ht, kw_upd_n (by omega)]
    rw [e1, kb_end_n hn (by omega)]
    refine kb_notes_flags heU he2 (fun u hu hq => ?_) n hn t htn ?_
    · rw [kw_upd_n (by omega), hch _ (by omega)] at hq
      rw [kw_upd_n (by omega), hch _ (by omega), ((f u hu).2 hq).2]
      exact km_flag_01 _ _ _
    · rw [kw_upd_n (by omega), hch _ (by omega)]
      exact q
  · obtain ⟨e'', h1, h2, h3, h4⟩ := kb_notes_inv (F := upd G 3 (G 3 + 1)) (D := kb_D G n m o) heU he2 n hn
    exact ⟨e'', h3, by rw [kb_end_n hn (by omega)]; exact h1⟩
  · have := kb_cnt_le (kb_D G n m o) (kb_D F n m0 o0) n
    exact ⟨_, by omega, kw_upd_e _ _ _⟩
  · rw [kb_end_o heG he2 hn (Or.inl ⟨by omega, by omega, by omega, by omega, by omega, fun u hu => by omega⟩), hch 5 (by omega)]
    exact g3
theorem kr_bad_i {d : kr_D} {n t : Nat} (h : kr_anyTo (kr_bad d) n = false) (ht : t < n) : ∀ z, d t = some z → -2147483648 ≤ z ∧ z ≤ 2147483647 := fun z hz => by
  have hb : kr_bad d t = false := by
    cases q : kr_bad d t with
    | false => rfl
    | true =>
      rw [kr_anyTo_t n t ht q] at h
      cases h
  unfold kr_bad at hb
  rw [hz] at hb
  have := of_decide_eq_false hb
  omega
theorem kx_takeOver {σ : kw_M} {F G : Nat → Int32} {n m m0 o o0 : Nat} (hok : kb_ok F n m0 o0) (hsh : kx_sh σ 1 12 F n m0 o0) (hch : kb_chg F G) (hrd : kx_rd σ 10 G m) (hw : kb_wf G n m) (ho : G 2 = nI o) (hbad : kr_anyTo (kr_bad (kb_D G n m o)) n = false) (hrow : ∀ t, t < 12 → σ.2 11 t = kx_enc (kb_D G n m o t)) : ∃ τ, fX7_takeOver (nI o) σ = some τ ∧ kx_sh τ 1 12 (kb_end G (kb_D G n m o) (kb_D F n m0 o0) n) n m o ∧ τ.1 1 7 = nI (kb_cnt (kb_D G n m o) (kb_D F n m0 o0) n) ∧ (∀ c, c ≠ 1 → c ≠ 12 → c ≠ 13 → c ≠ 15 → c ≠ 17 → c ≠ 18 → c ≠ 19 → c ≠ 20 → τ.1 c = σ.1 c) ∧ (∀ c, c ≠ 12 → c ≠ 16 → c ≠ 21 → τ.2 c = σ.2 c) := by
  obtain ⟨s1, s2, s3, s4, s5, s6, s7⟩ := hsh
  obtain ⟨a, b, c, d, ebad, f, ⟨e', he2, he⟩, g2, g3⟩ := hok
  have hn := hw.2.2.1
  have hm := hw.2.2.2.1.1
  have hDin : kr_row (kb_D G n m o) := kb_D_in hw.2.2.2.1 hn
  have hEin : kr_row (kb_D F n m0 o0) := kb_D_in a.2.2.2.1 hn
  have hn12 : σ.1 12 0 = nI n := s1.1.trans a.1
  have heG : G 4 = nI e' := by rw [hch 4 (by omega)]; exact he
  have heU : upd G 3 (G 3 + 1) 4 = nI e' := by rw [kw_upd_n (by decide)]; exact heG
  obtain ⟨w1, b1, b2⟩ := kx_beyondBits hn12 hn s5 hEin
  obtain ⟨σ2, t1, ⟨t2, t3, t4⟩, t5, t6⟩ := kx_markTouched (D := kb_D G n m o) (E := kb_D F n m0 o0) hrow hDin s5 hEin hn12 hn
  have hrd2 : kx_rd σ2 10 G m := kx_rd_fr hrd (t3 10 (by decide) (by decide)) (t3 _ (by decide) (by decide)) (t3 _ (by decide) (by decide)) (t3 _ (by decide) (by decide)) (by rw [t2])
  obtain ⟨σ3, c1, c2, c3, c4⟩ := kx_copy (c0 := 12) (c1 := 10) (Or.inr (Or.inl ⟨rfl, rfl⟩)) hrd2 hw.2.2.2.1.2.1 hm
  have c3' : ∀ q, q ≠ 12 → q ≠ 18 → q ≠ 19 → q ≠ 20 → σ3.1 q = σ2.1 q := c3
  unfold fX7_takeOver
  rw [b1, Option.bind_some, t1, Option.bind_some, c1, Option.bind_some, kw_let_def, kw_let_def]
  have hd5 : ∀ t, t < 12 → (kw_rl (kw_si σ3 1 2 (nI o)) 16 (va_cpy ((kw_si σ3 1 2 (nI o)).2 11) ((kw_si σ3 1 2 (nI o)).2 16) 0 0 12)).2 16 t = kx_enc (kb_D G n m o t) := fun t ht => by
    rw [kw_rl_2]
    unfold va_cpy
    rw [if_pos (by omega), show 0 + (t - 0) = t by omega]
    show σ3.2 11 t = _
    rw [c4 11 (by decide), t2]
    exact hrow t ht
  have q5 : ∀ q, q ≠ 1 → (kw_rl (kw_si σ3 1 2 (nI o)) 16 (va_cpy ((kw_si σ3 1 2 (nI o)).2 11) ((kw_si σ3 1 2 (nI o)).2 16) 0 0 12)).1 q = σ3.1 q := fun q hq => by
    rw [kw_rl_1]
    exact kw_si_o hq
  have hrd5 : kx_rd (kw_rl (kw_si σ3 1 2 (nI o)) 16 (va_cpy ((kw_si σ3 1 2 (nI o)).2 11) ((kw_si σ3 1 2 (nI o)).2 16) 0 0 12)) 12 G m := kx_rd_fr c2 (q5 12 (by decide)) (q5 _ (by decide)) (q5 _ (by decide)) (q5 _ (by decide)) (kw_rl_o (by decide))
  obtain ⟨σ6, p1, p2, p3, p4⟩ := kx_findParents hrd5 hw.2.2.2.1 hd5 hDin
  rw [p1, Option.bind_some, kw_let_def]
  have cell1 : ∀ k, k ≠ 7 → k ≠ 2 → σ6.1 1 k = σ.1 1 k := fun k h7 h2 => by
    rw [p3 1 (by decide)]
    show (kw_si σ3 1 2 (nI o)).1 1 k = _
    rw [kw_si_1, kw_upd_n h2, c3' 1 (by decide) (by decide) (by decide) (by decide)]
    exact t4 k h7
  have e63 : σ6.1 1 3 = G 3 := (cell1 3 (by decide) (by decide)).trans (s2.2.1.trans (hch 3 (by omega)).symm)
  have s7lim : ∀ q, q ≠ 1 → q ≠ 12 → q ≠ 15 → q ≠ 17 → q ≠ 18 → q ≠ 19 → q ≠ 20 → (kw_si σ6 1 3 (σ6.1 1 3 + 1)).1 q = σ.1 q := fun q h1 h12 h15 h17 h18 h19 h20 => by
    rw [kw_si_o h1, p3 q h17]
    show (kw_si σ3 1 2 (nI o)).1 q = _
    rw [kw_si_o h1, c3' q h12 h18 h19 h20]
    exact t3 q h1 h15
  have hrow7 : ∀ t, t < 12 → (kw_si σ6 1 3 (σ6.1 1 3 + 1)).2 16 t = kx_enc (kb_D G n m o t) := fun t ht => by
    rw [kw_si_2, p2]
    exact hd5 t ht
  have hrd7 : kx_rd (kw_si σ6 1 3 (σ6.1 1 3 + 1)) 12 G m := kx_rd_fr hrd5 ((kw_si_o (by decide)).trans (p3 _ (by decide))) ((kw_si_o (by decide)).trans (p3 _ (by decide))) ((kw_si_o (by decide)).trans (p3 _ (by decide))) ((kw_si_o (by decide)).trans (p3 _ (by decide))) (by rw [kw_si_2, p2])
  have hn7 : (kw_si σ6 1 3 (σ6.1 1 3 + 1)).1 12 0 = nI n := hrd7.1.trans hw.1
  obtain ⟨w2, d1, d2⟩ := kx_beyondBits hn7 hn hrow7 hDin
  rw [d1, Option.bind_some]
  have hw5 : (kw_si σ6 1 3 (σ6.1 1 3 + 1)).1 1 5 = σ.1 1 5 := by
    rw [kw_si_1, kw_upd_n (by decide)]
    exact cell1 5 (by decide) (by decide)
  have h14 : (kw_si σ6 1 3 (σ6.1 1 3 + 1)).1 14 = σ.1 14 := s7lim 14 (by decide) (by decide) (by decide) (by decide) (by decide) (by decide) (by decide)
  have hl7 : kx_lg (kw_si σ6 1 3 (σ6.1 1 3 + 1)) 13 21 (upd G 3 (G 3 + 1)) := by
    refine kx_lg_fr s7 he he2 (by rw [kw_upd_n (by decide), hch 4 (by omega)]) (fun j h1 h2 => by rw [kw_upd_n (by omega), hch j (by omega)]) (by rw [s7lim 13 (by decide) (by decide) (by decide) (by decide) (by decide) (by decide) (by decide)]) (fun j hj => ?_)
    rw [kw_si_2, p2]
    show (kw_rl (kw_si σ3 1 2 (nI o)) 16 _).2 21 j = σ.2 21 j
    rw [kw_rl_o (by decide), kw_si_2, c4 21 (by decide), t2]
  obtain ⟨τ, v1, v2, v3, v4⟩ := kx_writeEvents (w := w1 ^^^ w2) (D := kb_D G n m o) hn7 hn hl7 heU he2 (by rw [kw_si_1, kw_upd_e, kw_upd_e, e63]) hrow7 (fun t ht => kr_bad_i hbad ht) (fun t ht hq => by
    rw [h14, kw_upd_n (by omega), hch _ (by omega)]
    rw [kw_upd_n (by omega), hch _ (by omega)] at hq
    exact s3.2 t ht hq) (fun t ht => by
    rw [kw_bI_xor, b2 t (by omega), d2 t (by omega), hw5, h14, s3.1 t (by omega), decide_eq_true ht, Bool.true_and, kw_upd_n (by omega), kw_upd_n (by omega), hch (172 + 3 * t) (by omega), hch (172 + 3 * t + 2) (by omega)]
    unfold kb_flag
    rw [kw_upd_n (by omega), hch (172 + 3 * t + 1) (by omega)]
    by_cases hq : F (172 + 3 * t) = 1
    · rw [decide_eq_true (show t < 12 ∧ F (172 + 3 * t) = 1 from ⟨by omega, hq⟩), Bool.true_and, Bool.true_and, s3.2 t (by omega) hq, ((f t (by omega)).2 hq).2]
      unfold kb_flag
      rw [kx_fl_eq, show decide (kx_fl (kb_bey (kb_D F n m0 o0 t) (F (172 + 3 * t + 1))) = 1) = kb_bey (kb_D F n m0 o0 t) (F (172 + 3 * t + 1)) from by cases kb_bey (kb_D F n m0 o0 t) (F (172 + 3 * t + 1)) <;> decide]
      constructor
      · intro z
        refine ⟨hq, fun y => ?_⟩
        rw [y, Bool.xor_self] at z
        cases z
      · intro z
        cases h1 : kb_bey (kb_D F n m0 o0 t) (F (172 + 3 * t + 1)) <;> cases h2 : kb_bey (kb_D G n m o t) (F (172 + 3 * t + 1))
        · exact absurd (h2.trans h1.symm) z.2
        · rfl
        · rfl
        · exact absurd (h2.trans h1.symm) z.2
    · rw [decide_eq_false (fun z => hq z.2), Bool.false_and, Bool.false_and]
      exact ⟨fun z => (by cases z), fun z => absurd z.1 hq⟩)
  rw [v1, Option.bind_some]
  have hroad : ∀ j, 28 ≤ j → j < 28 + 4 * m → kb_end G (kb_D G n m o) (kb_D F n m0 o0) n j = G j := fun j h1 h2 => kb_end_o heG he2 hn (Or.inl ⟨by omega, by omega, by omega, by omega, by omega, fun t ht => by omega⟩)
  have o1 : ∀ j, (j < 3 ∨ j = 5) → kb_end G (kb_D G n m o) (kb_D F n m0 o0) n j = G j := fun j h1 => kb_end_o heG he2 hn (Or.inl ⟨by omega, by omega, by omega, by omega, by omega, fun t ht => by omega⟩)
  have ow : ∀ t, t < 12 → kb_end G (kb_D G n m o) (kb_D F n m0 o0) n (172 + 3 * t) = F (172 + 3 * t) := fun t ht => (kb_end_o heG he2 hn (Or.inl ⟨by omega, by omega, by omega, by omega, by omega, fun u hu => by omega⟩)).trans (hch _ (by omega))
  have ol : ∀ t, t < 12 → kb_end G (kb_D G n m o) (kb_D F n m0 o0) n (172 + 3 * t + 1) = F (172 + 3 * t + 1) := fun t ht => (kb_end_o heG he2 hn (Or.inl ⟨by omega, by omega, by omega, by omega, by omega, fun u hu => by omega⟩)).trans (hch _ (by omega))
  have hD := kb_D_same hroad n o
  have hcnt := kb_cnt_le (kb_D G n m o) (kb_D F n m0 o0) n
  have e6 : kb_end G (kb_D G n m o) (kb_D F n m0 o0) n 6 = nI (kb_cnt (kb_D G n m o) (kb_D F n m0 o0) n) := kw_upd_e _ _ _
  have t17 : τ.1 1 7 = nI (kb_cnt (kb_D G n m o) (kb_D F n m0 o0) n) := by
    rw [v3 1 (by decide), kw_si_1, kw_upd_n (by decide), p3 1 (by decide)]
    show (kw_si σ3 1 2 (nI o)).1 1 7 = _
    rw [kw_si_1, kw_upd_n (by decide), c3' 1 (by decide) (by decide) (by decide) (by decide)]
    exact t5
  refine ⟨τ, rfl, ⟨?_, ⟨?_, ?_, ?_⟩, ⟨?_, ?_⟩, ⟨?_, ?_⟩, ?_, ?_, ?_⟩, t17, ?_, ?_⟩
  · exact kx_rd_eq (kx_rd_fr hrd7 (v3 _ (by decide)) (v3 _ (by decide)) (v3 _ (by decide)) (v3 _ (by decide)) (v4 _ (by decide))) (o1 0 (by omega)) (o1 1 (by omega)) hroad
  · rw [v3 1 (by decide), kw_si_1, kw_upd_n (by decide), p3 1 (by decide), o1 2 (by omega), ho]
    show (kw_si σ3 1 2 (nI o)).1 1 2 = _
    rw [kw_si_1, kw_upd_e]
  · rw [v3 1 (by decide), kw_si_1, kw_upd_e, e63, kb_end_n hn (by omega)]
    obtain ⟨e'', h1, h2, h3, h4⟩ := kb_notes_inv (F := upd G 3 (G 3 + 1)) (D := kb_D G n m o) heU he2 n hn
    rw [h4 3 (Or.inl ⟨by omega, by omega, fun u hu => by omega⟩), kw_upd_e]
  · rw [v3 1 (by decide), kw_si_1, kw_upd_n (by decide), cell1 4 (by decide) (by decide), o1 5 (by omega), hch 5 (by omega)]
    exact s2.2.2
  · intro i hi
    rw [v3 1 (by decide), hw5, s3.1 i hi, decide_eq_decide]
    by_cases q : i < 12
    · rw [ow i q]
    · exact ⟨fun z => absurd z.1 q, fun z => absurd z.1 q⟩
  · intro t ht hq
    rw [ow t ht] at hq
    rw [v3 (12 + 2) (by decide), ol t ht]
    show (kw_si σ6 1 3 (σ6.1 1 3 + 1)).1 14 t = _
    rw [h14]
    exact s3.2 t ht hq
  · rw [t17, e6]
  · intro i hi
    rw [e6, kn_clamp (by omega)] at hi
    rw [v3 (12 + 3) (by decide)]
    show (kw_si σ6 1 3 (σ6.1 1 3 + 1)).1 15 i = _
    rw [kw_si_o (by decide), p3 15 (by decide)]
    show (kw_si σ3 1 2 (nI o)).1 15 i = _
    rw [kw_si_o (by decide), c3' 15 (by decide) (by decide) (by decide) (by decide), t6 i hi]
    unfold kb_end
    rw [kw_upd_n (by omega)]
    obtain ⟨x1, x2⟩ := kb_tch_two (σ.1 15) (kb_notes (upd G 3 (G 3 + 1)) (kb_D G n m o) n) 0 16 (kb_D G n m o) (kb_D F n m0 o0) n
    exact x2 i (by rw [kb_tch_cnt]; exact hi)
  · intro t ht
    rw [v4 (12 + 4) (by decide), hD]
    exact hrow7 t ht
  · intro t ht
    rw [v3 (12 + 5) (by decide), hD, kr_same_par (kb_gr_same hroad (-1))]
    show (kw_si σ6 1 3 (σ6.1 1 3 + 1)).1 17 t = _
    rw [kw_si_o (by decide)]
    exact p4 t ht
  · obtain ⟨e'', h1, h2, h3, h4⟩ := kb_notes_inv (F := upd G 3 (G 3 + 1)) (D := kb_D G n m o) heU he2 n hn
    exact kx_lg_fr v2 h1 h3 (kb_end_n hn (by omega)) (fun j h5 _ => kb_end_n hn (by omega)) rfl (fun _ _ => rfl)
  · intro q h1 h12 h13 h15 h17 h18 h19 h20
    rw [v3 q h13]
    exact s7lim q h1 h12 h15 h17 h18 h19 h20
  · intro q h12 h16 h21
    rw [v4 q h21, kw_si_2, p2]
    show (kw_rl (kw_si σ3 1 2 (nI o)) 16 _).2 q = σ.2 q
    rw [kw_rl_o h16, kw_si_2, c4 q h12, t2]
