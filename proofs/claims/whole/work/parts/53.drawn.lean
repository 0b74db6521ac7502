/-! drawn. -/
theorem ko_drawn {σX σM : kw_M} {a1 a2 : Int32} (hR : kw_Rel σX σM) : ∃ a τX τM, fX9_drawn a1 a2 σX = some (a, τX) ∧ fX10_drawn a1 a2 σM = some (a, τM) ∧ kw_Rel τX τM := by
  obtain ⟨n, m, o, hok, hsh, hkp, htp, hpr⟩ := hR
  have h2 := hok.1.2.1
  have h12 := hok.1.2.2.1
  have hm := hok.1.2.2.2.1.1
  have hw := hok.1.2.2.2.1
  have hon := hok.2.2.1
  have hmX : σX.1 12 1 = nI m := hsh.1.2.1.trans hok.1.2.2.2.1.2.1
  have hnX : σX.1 12 0 = nI n := hsh.1.1.trans hok.1.1
  have same : kw_Rel σX σM := ⟨n, m, o, hok, hsh, hkp, htp, hpr⟩
  unfold fX9_drawn fX10_drawn
  rw [kx_hasTown hnX h12, km_isTown hok.1.1 h12, km_in, Int32.toInt_toInt64, hmX, hw.2.1]
  simp only [Option.bind_some, kx_fl_0, show (1 : Int64).toInt = 1 by decide, show (60 : Int64).toInt = 60 by decide, Int32.lt_iff_toInt_lt, show (1 : Int32).toInt = 1 by decide, show (60 : Int32).toInt = 60 by decide, show (0 : Int32).toInt = 0 by decide, nI_toInt (show m < 2 ^ 31 by omega)]
  by_cases t1 : 1 ≤ a1.toInt ∧ a1.toInt ≤ 60
  case neg =>
    simp only [decide_eq_false t1, kn_ff]
    refine ⟨_, _, _, ?_, rfl, same⟩
    by_cases q : a1.toInt < 1
    · rw [if_pos q]
    · rw [if_neg q, if_pos (by omega)]
  simp only [decide_eq_true t1, kn_tf]
  rw [if_neg (by omega), if_neg (by omega)]
  by_cases t2 : 0 ≤ a2.toInt ∧ a2.toInt < n
  case neg =>
    simp only [decide_eq_false t2, kn_ff]
    exact ⟨_, _, _, rfl, rfl, same⟩
  simp only [decide_eq_true t2, kn_tf]
  simp only [show (nI m = (0 : Int32)) = (m = 0) from kn_e0 (by omega)]
  by_cases t3 : m = 0
  · rw [if_pos t3, if_neg (by omega)]
    exact ⟨_, _, _, rfl, rfl, same⟩
  rw [if_neg t3, if_pos (by omega)]
  obtain ⟨N, hN, rfl⟩ := kw_arg (x := a1) (n := 61) (by omega) ⟨by omega, by omega⟩
  obtain ⟨t, ht, rfl⟩ := kw_arg (by omega) t2
  obtain ⟨x0, hx0, hx1⟩ := hok.2.2.2.2.2.2.2.2
  obtain ⟨σ1, c1, c2, c3, c4⟩ := kx_copy10 hok hsh
  obtain ⟨ρ6, p1, p2, p3, p4⟩ := km_copies' (σ := σM) (a := 0) (b := 3) (by decide) (by decide) (by decide)
  rw [show fX10_copies 0 3 σM = fX10_copies (nI 0) (nI 3) σM from rfl, p1, Option.bind_some, c1, Option.bind_some, kw_let_def]
  have hF6 : ∀ j, j < 2124 → ρ6.1 1 j = σM.1 1 j := fun j hj => by rw [p2]; exact kb_try_0 hj
  have hok6 : kb_ok (ρ6.1 1) n m o := kb_ok_eq hok (fun j hj => hF6 j (by omega))
  have k10 : kx_dr σX σ1 := kx_kO_10 c3 c4
  have hoX : σX.1 1 2 = nI o := hsh.2.1.1.trans hok.2.1
  have hx4 : σ1.1 1 4 = nI x0 := by
    rw [k10.2.1.1 1 (by omega)]
    exact hsh.2.1.2.2.trans hx1
  rw [hx4]
  obtain ⟨τ, ρ, l1, l2, hokR, hrdR, hdr, hcells, hbig⟩ := kw_for2 (bX := fun s => bX9_drawn_67 (nI N) (nI t) s.1 s.2.1 s.2.2) (bM := fun s => bX10_drawn_44 (nI N) (nI t) s.1 s.2.1 s.2.2) (fun k s s' => ∃ l, l < 65536 ∧ s.1 = nI l ∧ s.2.1 = nI k ∧ s'.2.1 = nI k ∧ kb_ok (s'.2.2.1 1) n m o ∧ s'.2.2.1 1 5 = nI l ∧ kx_rd s.2.2 10 (s'.2.2.1 1) m ∧ kx_dr σX s.2.2 ∧ (∀ c, c ≠ 1 → s'.2.2.1 c = σM.1 c) ∧ ∀ j, ((708 ≤ j ∧ j < 1416) ∨ 2124 ≤ j) → s'.2.2.1 1 j = ρ6.1 1 j) (fun x x' => kb_ok (x'.1 1) n m o ∧ kx_rd x 10 (x'.1 1) m ∧ kx_dr σX x ∧ (∀ c, c ≠ 1 → x'.1 c = σM.1 c) ∧ ∀ j, ((708 ≤ j ∧ j < 1416) ∨ 2124 ≤ j) → x'.1 1 j = ρ6.1 1 j) N (by omega) (s0 := (nI x0, (0 : Int32), σ1)) (s0' := ((0 : Int32), (0 : Int32), ρ6)) ⟨x0, hx0, rfl, rfl, rfl, hok6, (hF6 5 (by omega)).trans hx1, kx_rd_eq c2 (hF6 0 (by omega)) (hF6 1 (by omega)) (fun j h1 h2 => hF6 j (by omega)), k10, p3, fun _ _ => rfl⟩ (fun k s s' hk hp => by
    obtain ⟨v3, v4, τ⟩ := s
    obtain ⟨d3, d4, ρ⟩ := s'
    obtain ⟨l, hl, e1, e2, e3, hokR, h5, hrdR, hdr, hcells, hbig⟩ := hp
    dsimp only at e1 e2 e3 hokR h5 hrdR hdr hcells hbig ⊢
    subst e1 e2 e3
    unfold bX9_drawn_67 bX10_drawn_44
    by_cases h : k < N
    case neg =>
      right
      obtain rfl : k = N := by omega
      exact ⟨τ, ρ, by rw [if_pos (nI_le (Nat.le_refl k) (by omega))], by rw [if_pos (nI_le (Nat.le_refl k) (by omega))], hokR, hrdR, hdr, hcells, hbig⟩
    left
    refine ⟨h, ?_⟩
    have hmτ : τ.1 12 1 = nI m := by rw [hdr.2.1.1 12 (by omega)]; exact hmX
    have hr : kb_next l % m < m := Nat.mod_lt _ (by omega)
    have hl1 := kb_next_lt l
    have hl2 := kb_next_lt (kb_next l)
    have pm : ¬ nI m = (0 : Int32) := by rw [kn_e0 (by omega)]; exact t3
    rw [if_neg (nI_ge h (by omega)), if_neg (nI_ge h (by omega))]
    unfold fX9_drawAfter fX10_draws fX10_nextLot
    rw [kb_next_e hl, Option.bind_some, hmτ, kw_chk_t pm, kw_let_def, pk_rem (by omega) (by omega) (by omega), kb_next_e hl1, Option.bind_some]
    rw [h5, kb_next_e hl, kw_let_def, Option.bind_some, kw_si_1, kw_upd_e]
    have e11 : upd (ρ.1 1) 5 (nI (kb_next l)) 1 = nI m := by rw [kw_upd_n (by decide)]; exact hokR.1.2.2.2.1.2.1
    dsimp only
    rw [e11, kw_chk_t pm, kw_let_def, pk_rem (by omega) (by omega) (by omega)]
    simp only [kw_si_1, kw_upd_e, kb_next_e hl1, kw_let_def, Option.bind_some]
    rw [show (8 : Int32) = nI 8 by decide, pk_rem (by omega) (by decide) (by decide)]
    have hρ2 : (kw_si (kw_si ρ 1 5 (nI (kb_next l))) 1 5 (nI (kb_next (kb_next l)))).1 1 = upd (ρ.1 1) 5 (nI (kb_next (kb_next l))) := by
      rw [kw_si_1, kw_si_1]
      funext j
      unfold upd
      by_cases q : j = 5
      · rw [if_pos q, if_pos q]
      · rw [if_neg q, if_neg q, if_neg q]
    generalize hρ2e : kw_si (kw_si ρ 1 5 (nI (kb_next l))) 1 5 (nI (kb_next (kb_next l))) = ρ2 at hρ2 ⊢
    have hcell2 : ∀ c, c ≠ 1 → ρ2.1 c = σM.1 c := fun c hc => by rw [← hρ2e, kw_si_o hc, kw_si_o hc]; exact hcells c hc
    have hbig2 : ∀ j, ((708 ≤ j ∧ j < 1416) ∨ 2124 ≤ j) → ρ2.1 1 j = ρ6.1 1 j := fun j hj => by rw [hρ2, kw_upd_n (by omega)]; exact hbig j hj
    have hok2 : kb_ok (ρ2.1 1) n m o := by
      rw [hρ2]
      refine kb_ok_w hokR (fun j hj => kw_upd_n (by omega)) ⟨_, hl2, kw_upd_e _ _ _⟩ (fun u hu => ?_)
      unfold kb_flag
      rw [kw_upd_n (by omega), kw_upd_n (by omega), kw_upd_n (by omega)]
      exact hokR.2.2.2.2.2.1 u hu
    have hrd2 : kx_rd τ 10 (ρ2.1 1) m := by
      rw [hρ2]
      exact kx_rd_eq hrdR (kw_upd_n (by decide)) (kw_upd_n (by decide)) (fun j h1 h2 => kw_upd_n (by omega))
    have h52 : ρ2.1 1 5 = nI (kb_next (kb_next l)) := by rw [hρ2, kw_upd_e]
    generalize hrr : kb_next l % m = r at hr ⊢
    unfold fX9_drawChange
    rw [kw_let_def, kn_chk (by omega) (by decide), kn_clamp (by omega), kw_let_def, show (8 : Int32) = nI 8 by decide, pk_rem (by omega) (by decide) (by decide)]
    have f34 : τ.1 34 r = ρ2.1 1 (28 + 4 * r + 2) := (hrd2.2.2.1 r hr).2.2
    -- from a change on both sides to the next round
    have fin : ∀ (w : Nat) (x : Int32) (τ' ρ' : kw_M) (a : Int32), kx_dr σX τ' → w < 4 → (¬ kb_judge (upd (kb_beg (ρ2.1 1)) (28 + 4 * r + w) x) n m o (kb_rg (upd (kb_beg (ρ2.1 1)) (28 + 4 * r + w) x) n m r) = 0 → kx_rd τ' 10 (ρ2.1 1) m) → (kb_judge (upd (kb_beg (ρ2.1 1)) (28 + 4 * r + w) x) n m o (kb_rg (upd (kb_beg (ρ2.1 1)) (28 + 4 * r + w) x) n m r) = 0 → kx_rd τ' 10 (upd (ρ2.1 1) (28 + 4 * r + w) x) m) → (¬ kb_judge (upd (kb_beg (ρ2.1 1)) (28 + 4 * r + w) x) n m o (kb_rg (upd (kb_beg (ρ2.1 1)) (28 + 4 * r + w) x) n m r) = 0 → ∀ j, j < 708 → ρ'.1 1 j = ρ2.1 1 j) → (kb_judge (upd (kb_beg (ρ2.1 1)) (28 + 4 * r + w) x) n m o (kb_rg (upd (kb_beg (ρ2.1 1)) (28 + 4 * r + w) x) n m r) = 0 → kb_ok (ρ'.1 1) n m o ∧ (∀ j, j < 3 → ρ'.1 1 j = ρ2.1 1 j) ∧ ρ'.1 1 5 = ρ2.1 1 5 ∧ ∀ j, 28 ≤ j → j < 172 → ρ'.1 1 j = upd (ρ2.1 1) (28 + 4 * r + w) x j) → (∀ j, ((708 ≤ j ∧ j < 1416) ∨ 2124 ≤ j) → ρ'.1 1 j = ρ2.1 1 j) → (∀ c, c ≠ 1 → ρ'.1 c = ρ2.1 c) → ∃ t t', some (Sum.inl (nI (kb_next (kb_next l)), nI k + 1, τ')) = (some (.inl t) : Option ((Int32 × Int32 × kw_M) ⊕ kw_M)) ∧ (if a < 0 then some (Sum.inl (d3, nI k + 1, ρ')) else some (Sum.inl (d3 + 1, nI k + 1, ρ'))) = (some (.inl t') : Option ((Int32 × Int32 × kw_M) ⊕ kw_M)) ∧ ∃ l, l < 65536 ∧ t.1 = nI l ∧ t.2.1 = nI (k + 1) ∧ t'.2.1 = nI (k + 1) ∧ kb_ok (t'.2.2.1 1) n m o ∧ t'.2.2.1 1 5 = nI l ∧ kx_rd t.2.2 10 (t'.2.2.1 1) m ∧ kx_dr σX t.2.2 ∧ (∀ c, c ≠ 1 → t'.2.2.1 c = σM.1 c) ∧ ∀ j, ((708 ≤ j ∧ j < 1416) ∨ 2124 ≤ j) → t'.2.2.1 1 j = ρ6.1 1 j := fun w x τ' ρ' a q1 hw4 q2 q3 q4 q5 q6 q7 => by
      have key : kb_ok (ρ'.1 1) n m o ∧ ρ'.1 1 5 = nI (kb_next (kb_next l)) ∧ kx_rd τ' 10 (ρ'.1 1) m := by
        by_cases hj : kb_judge (upd (kb_beg (ρ2.1 1)) (28 + 4 * r + w) x) n m o (kb_rg (upd (kb_beg (ρ2.1 1)) (28 + 4 * r + w) x) n m r) = 0
        · obtain ⟨z1, z2, z3, z4⟩ := q5 hj
          refine ⟨z1, z3.trans h52, kx_rd_eq (q3 hj) ?_ ?_ (fun j h1 h2 => z4 j h1 (by omega))⟩
          · rw [z2 0 (by omega), kw_upd_n (by omega)]
          · rw [z2 1 (by omega), kw_upd_n (by omega)]
        · have z := q4 hj
          exact ⟨kb_ok_eq hok2 z, (z 5 (by omega)).trans h52, kx_rd_eq (q2 hj) (z 0 (by omega)) (z 1 (by omega)) (fun j h1 h2 => z j (by omega))⟩
      rw [km_next]
      by_cases ha : a < 0
      · rw [if_pos ha]
        exact ⟨_, _, rfl, rfl, _, hl2, rfl, rfl, rfl, key.1, key.2.1, key.2.2, q1, fun c hc => (q7 c hc).trans (hcell2 c hc), fun j hj => (q6 j hj).trans (hbig2 j hj)⟩
      · rw [if_neg ha]
        exact ⟨_, _, rfl, rfl, _, hl2, rfl, rfl, rfl, key.1, key.2.1, key.2.2, q1, fun c hc => (q7 c hc).trans (hcell2 c hc), fun j hj => (q6 j hj).trans (hbig2 j hj)⟩
    have hτ0 : kx_dr τ τ := ⟨kx_kO_r _, kx_kN_r _, rfl, rfl⟩
    simp only [show (nI (kb_next (kb_next l) % 8) = (0 : Int32)) = (kb_next (kb_next l) % 8 = 0) from kn_e0 (by omega)]
    by_cases h8 : kb_next (kb_next l) % 8 = 0
    · rw [if_pos h8, if_pos h8, km_of3 (by omega), Option.bind_some]
      unfold fX4_flip
      rw [kw_let_def, Option.bind_some]
      obtain ⟨b, hb⟩ : ∃ b : Bool, ρ2.1 1 (28 + 4 * r + 3) = kx_fl (!b) := by
        rcases (hok2.1.2.2.2.2 r hr).2.2 with q | q
        · exact ⟨true, q⟩
        · exact ⟨false, q⟩
      have e1b : (1 : Int32) - ρ2.1 1 (28 + 4 * r + 3) = kx_fl b := by rw [hb]; cases b <;> decide
      rw [e1b]
      obtain ⟨ρa, ρb, y1, y2, y3, y4, y5⟩ := km_turns1 (b := b) hok2 hr (by rw [hb]; cases b <;> decide)
      obtain ⟨ρ', g1, g2, g3, g4, g5⟩ := km_one hok2 hr (Or.inr ⟨rfl, by cases b <;> decide⟩) y1 y2 y3 y4
      rw [g1, Option.bind_some] at y5
      rw [y5, Option.bind_some]
      have k1 : kx_dr τ (kw_sl τ 10 2 (τ.2 10 2 ^^^ ((1 : Int64) <<< ((nI r).toInt64 &&& 63)))) := ⟨⟨fun _ _ => rfl, fun c hc => kw_sl_o (by omega)⟩, ⟨fun _ _ => rfl, fun c hc => kw_sl_o (by omega)⟩, rfl, kw_sl_o (by decide)⟩
      obtain ⟨τ', f1, f2, f3, f4⟩ := kx_draw1 (σX := σX) (τ0 := τ) (w := 3) (x := kx_fl b) hok2 hr (Or.inr ⟨rfl, by cases b <;> decide⟩) hdr hrd2 k1 (kx_flipR hrd2 hr hm hb) rfl rfl (fun _ _ => rfl) rfl hoX
      rw [f1, Option.bind_some]
      exact fin 3 (kx_fl b) τ' ρ' _ (kx_dr_t hdr f2) (by decide) f3 f4 g2 g3 g4 g5
    · rw [if_neg h8, if_neg h8, km_of2 (by omega), Option.bind_some, show (41 : Int32) = nI 41 by decide, pk_rem (by omega) (by decide) (by decide), kb_min_e, Option.bind_some, kb_max_e, Option.bind_some, f34, kw_let_def, kw_let_def, kw_let_def]
      have hcl := kb_clamp_in (ρ2.1 1 (28 + 4 * r + 2)) (nI (kb_next (kb_next l) % 41))
      have k1 : kx_dr τ (kw_si τ 34 r (kb_clamp (ρ2.1 1 (28 + 4 * r + 2)) (nI (kb_next (kb_next l) % 41)))) := ⟨⟨fun c hc => kw_si_o (by omega), fun _ _ => rfl⟩, ⟨fun c hc => kw_si_o (by omega), fun _ _ => rfl⟩, kw_si_o (by decide), rfl⟩
      obtain ⟨τ', f1, f2, f3, f4⟩ := kx_draw1 (σX := σX) (τ0 := τ) (w := 2) (x := kb_clamp (ρ2.1 1 (28 + 4 * r + 2)) (nI (kb_next (kb_next l) % 41))) hok2 hr (Or.inl ⟨rfl, hcl⟩) hdr hrd2 k1 (kx_set34 hrd2) (kw_si_o (by decide)) (kw_si_o (by decide)) (fun i hi => by rw [kw_si_1, kw_upd_n hi]) (kw_si_o (by decide)) hoX
      rw [f34] at f1
      have f1' : jX9_drawChange_67 (nI r) (τ.2 10 2) (ρ2.1 1 (28 + 4 * r + 2)) (kw_si τ 34 r (if (-100 : Int32) < (if ρ2.1 1 (28 + 4 * r + 2) + nI (kb_next (kb_next l) % 41) - 10 < 10000 then ρ2.1 1 (28 + 4 * r + 2) + nI (kb_next (kb_next l) % 41) - 10 else 10000) then (if ρ2.1 1 (28 + 4 * r + 2) + nI (kb_next (kb_next l) % 41) - 10 < 10000 then ρ2.1 1 (28 + 4 * r + 2) + nI (kb_next (kb_next l) % 41) - 10 else 10000) else -100)) = some τ' := f1
      rw [f1', Option.bind_some]
      have ecl : (if (-100 : Int32) < (if ρ2.1 1 (28 + 4 * r + 2) + nI (kb_next (kb_next l) % 41) - 10 < 10000 then ρ2.1 1 (28 + 4 * r + 2) + nI (kb_next (kb_next l) % 41) - 10 else 10000) then (if ρ2.1 1 (28 + 4 * r + 2) + nI (kb_next (kb_next l) % 41) - 10 < 10000 then ρ2.1 1 (28 + 4 * r + 2) + nI (kb_next (kb_next l) % 41) - 10 else 10000) else -100) = kb_clamp (ρ2.1 1 (28 + 4 * r + 2)) (nI (kb_next (kb_next l) % 41)) := rfl
      rw [ecl]
      by_cases hsame : ρ2.1 1 (28 + 4 * r + 2) = kb_clamp (ρ2.1 1 (28 + 4 * r + 2)) (nI (kb_next (kb_next l) % 41))
      · have hr1 : 0 ≤ (nI r).toInt ∧ (nI r).toInt < m := by rw [nI_toInt (by omega)]; omega
        have e0 : fX10_length (nI r) (kb_clamp (ρ2.1 1 (28 + 4 * r + 2)) (nI (kb_next (kb_next l) % 41))) ρ2 = some (-2, ρ2) := by
          unfold fX10_length
          rw [km_isRoad hok2.1.2.2.2.1.2.1 hm, km_isLength]
          simp only [Option.bind_some, kx_fl_0, decide_eq_true hr1, decide_eq_true hcl, kn_tf]
          rw [km_of2 (by omega), Option.bind_some, if_pos hsame]
        rw [e0, Option.bind_some]
        have hup : ∀ j, upd (ρ2.1 1) (28 + 4 * r + 2) (kb_clamp (ρ2.1 1 (28 + 4 * r + 2)) (nI (kb_next (kb_next l) % 41))) j = ρ2.1 1 j := fun j => by
          unfold upd
          by_cases q : j = 28 + 4 * r + 2
          · rw [if_pos q, q]; exact hsame.symm
          · rw [if_neg q]
        exact fin 2 _ τ' ρ2 (-2) (kx_dr_t hdr f2) (by decide) f3 f4 (fun _ _ _ => rfl) (fun _ => ⟨hok2, fun _ _ => rfl, rfl, fun j _ _ => (hup j).symm⟩) (fun _ _ => rfl) (fun _ _ => rfl)
      · obtain ⟨ρa, ρb, y1, y2, y3, y4, y5⟩ := km_length1 hok2 hr hcl hsame
        obtain ⟨ρ', g1, g2, g3, g4, g5⟩ := km_one hok2 hr (Or.inl ⟨rfl, hcl⟩) y1 y2 y3 y4
        rw [g1, Option.bind_some] at y5
        rw [y5, Option.bind_some]
        exact fin 2 _ τ' ρ' _ (kx_dr_t hdr f2) (by decide) f3 f4 g2 g3 g4 g5)
  rw [l1, Option.bind_some, l2, Option.bind_some]
  have horτ : τ.1 1 2 = nI o := by rw [hdr.2.1.1 1 (by omega)]; exact hoX
  obtain ⟨ρs, s1, s2, s3, s4⟩ := km_settles' hokR.1.2.2.2.1 hokR.1.1 (by omega) h12 hokR.2.1 (by omega)
  obtain ⟨ρ9, b1, b2, b3, b4⟩ := km_copies' (σ := ρs) (a := 3) (b := 0) (by decide) (by decide) (by decide)
  rw [horτ, kx_settle' (by decide) hrdR hokR.1 hokR.2.2.2.1 hon, Option.bind_some, s1, Option.bind_some, show fX10_copies 3 0 ρs = fX10_copies (nI 3) (nI 0) ρs from rfl, b1, Option.bind_some, kn_chk (by omega) (by decide), kn_chk (by omega) (by decide), kn_clamp (by omega), kx_row_at (by omega), b4, s3 t (by omega), km_told (kb_D_bd hokR.1.2.2.2.1 h12 t), Option.bind_some]
  refine ⟨_, _, _, rfl, rfl, ?_⟩
  have low : ∀ j, j < 708 → ρ9.1 1 j = σM.1 1 j := fun j hj' => by
    rw [b2]
    unfold va_cpy
    rw [if_pos (by omega), show 708 * 3 + (j - 708 * 0) = 2124 + j by omega, s2, hbig _ (by omega), p2]
    exact kb_try_3 hj'
  have km : km_kO σM ρ9 := ⟨fun j h1 h2 => by
    rw [b2]
    unfold va_cpy
    rw [if_neg (by omega), s2, hbig j (by omega)]
    exact hF6 j (by omega), by rw [b3 0 (by decide), s2, hcells 0 (by decide)], by rw [b3 0 (by decide), s2, hcells 0 (by decide)], by rw [b3 5 (by decide), s2, hcells 5 (by decide)]⟩
  have kO : kx_kO σX (kx_row τ 11 (kr_bf (km_gr (ρ.1 1) m (-1)) (kr_one o) (n - 1))) := kx_kO_t hdr.1 ⟨fun _ _ => rfl, fun c hc => kx_row_o (by omega)⟩
  have kN : kx_kN σX (kx_row τ 11 (kr_bf (km_gr (ρ.1 1) m (-1)) (kr_one o) (n - 1))) := kx_kN_t hdr.2.1 ⟨fun _ _ => rfl, fun c hc => kx_row_o (by omega)⟩
  exact ⟨n, m, o, kb_ok_eq hok low, kx_sh_eq hok (kx_sh_N hsh kN) low, kx_kp_O hkp kO km, kx_tp_O htp kO km, kx_pr_eq hpr hdr.2.2.1 ((kx_row_o (by decide)).trans hdr.2.2.2) (fun j h1 h2 => low j (by omega))⟩
