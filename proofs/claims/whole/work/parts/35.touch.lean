/-! The class: what is beyond, which towns are touched. -/
theorem kx_isBeyond {σ : kw_M} {t : Nat} {d : Option Int} (hrow : σ.2 16 t = kx_enc d) (hd : kr_bd d) (ht : t < 12) : fX7_isBeyond (nI t) σ = some (kx_fl (kb_bey d (σ.1 14 t))) := by
  unfold fX7_isBeyond
  simp (disch := omega) only [kn_chk, kn_clamp, hrow, kx_enc_e hd]
  cases d with
  | none => rw [if_pos rfl]; rfl
  | some z =>
    rw [if_neg (by simp)]
    simp only [kx_enc_bey hd]
    cases h : kb_bey (some z) (σ.1 14 t) with
    | true => rw [if_neg (by decide)]; rfl
    | false => rw [if_pos rfl]; rfl
theorem kx_isWatched {σ : kw_M} {t : Nat} (ht : t < 32) : fX7_isWatched (nI t) σ = some (kx_fl (kw_bI (σ.1 1 5) t)) := by
  unfold fX7_isWatched
  rw [kw_dnI ht]
  cases kw_bI (σ.1 1 5) t
  · rw [if_pos (by decide)]; rfl
  · rw [if_neg (by decide)]; rfl
theorem kx_beyondBits {σ : kw_M} {d : kr_D} {n : Nat} (hn : σ.1 12 0 = nI n) (h12 : n ≤ 12) (hrow : ∀ t, t < 12 → σ.2 16 t = kx_enc (d t)) (hd : kr_row d) : ∃ w, fX7_beyondBits σ = some w ∧ ∀ i, i < 32 → kw_bI w i = (decide (i < n) && kw_bI (σ.1 1 5) i && kb_bey (d i) (σ.1 14 i)) := by
  obtain ⟨x, hx, hb⟩ := kw_for (body := fun s => bX7_beyondBits_4 σ s.1 s.2) (fun k s => s.2 = nI k ∧ ∀ i, i < 32 → kw_bI s.1 i = (decide (i < k) && kw_bI (σ.1 1 5) i && kb_bey (d i) (σ.1 14 i))) (fun x => ∀ i, i < 32 → kw_bI x i = (decide (i < n) && kw_bI (σ.1 1 5) i && kb_bey (d i) (σ.1 14 i))) n (by omega) (s0 := ((0 : Int32), (0 : Int32))) ⟨rfl, fun i _ => by rw [decide_eq_false (Nat.not_lt_zero i)]; exact kw_bI_0 i⟩ (fun k s hk hp => by
    obtain ⟨w, v⟩ := s
    obtain ⟨rfl, hb⟩ := hp
    dsimp only at hb ⊢
    unfold bX7_beyondBits_4
    rw [hn]
    by_cases h : k < n
    · left
      refine ⟨h, ?_⟩
      rw [if_neg (nI_ge h (by omega)), kx_isWatched (by omega), Option.bind_some, kx_isBeyond (hrow k (by omega)) (kr_row_bd hd _) (by omega), Option.bind_some]
      simp only [kx_fl_0, kw_let_def, km_next]
      have skip : (kw_bI (σ.1 1 5) k && kb_bey (d k) (σ.1 14 k)) = false → ∀ i, i < 32 → kw_bI w i = (decide (i < k + 1) && kw_bI (σ.1 1 5) i && kb_bey (d i) (σ.1 14 i)) := fun e i hi => by
        rw [hb i hi]
        by_cases q : i = k
        · subst q
          rw [Bool.and_assoc, Bool.and_assoc, e, Bool.and_false, Bool.and_false]
        · by_cases q2 : i < k
          · rw [decide_eq_true q2, decide_eq_true (by omega)]
          · rw [decide_eq_false q2, decide_eq_false (by omega)]
      cases hw : kw_bI (σ.1 1 5) k with
      | false =>
        rw [if_pos rfl]
        exact ⟨_, rfl, rfl, skip (by rw [hw]; rfl)⟩
      | true =>
        rw [if_neg (by decide)]
        cases hy : kb_bey (d k) (σ.1 14 k) with
        | false =>
          rw [if_pos rfl]
          exact ⟨_, rfl, rfl, skip (by rw [hy, Bool.and_false])⟩
        | true =>
          rw [if_neg (by decide)]
          refine ⟨_, rfl, rfl, fun i hi => ?_⟩
          dsimp only
          rw [kw_bI_or, kw_upI (by omega) i hi, hb i hi]
          by_cases q : i = k
          · subst q
            rw [hw, hy, decide_eq_true (show i = i from rfl), decide_eq_true (show i < i + 1 by omega)]
            simp
          · rw [decide_eq_false q, Bool.or_false]
            by_cases q2 : i < k
            · rw [decide_eq_true q2, decide_eq_true (by omega)]
            · rw [decide_eq_false q2, decide_eq_false (by omega)]
    · right
      obtain rfl : k = n := by omega
      exact ⟨w, by rw [if_pos (nI_le (Nat.le_refl k) (by omega))], hb⟩)
  unfold fX7_beyondBits
  rw [hx]
  exact ⟨x, rfl, hb⟩
theorem kx_ins {σ : kw_M} {D : kr_D} {t n0 : Nat} {T : Nat → Int32} (hrow : ∀ u, u < 12 → σ.2 11 u = kx_enc (D u)) (hD : kr_row D) (ht : t < 12) (hn0 : n0 < 12) (hT : ∀ i, i < n0 → kb_bel 12 (T (0 + i))) : ∃ k T', kw_loop (fun s => bX7_putTouched_5 (nI t) s.1 s.2) kw_F (nI n0, kw_ri σ 15 T) = some (nI k, kw_ri σ 15 T') ∧ k ≤ 11 ∧ upd T' (0 + k) (nI t) = kb_ins T 0 (nI t) (fun x => kr_ls (D t) (D x.toNatClampNeg)) n0 := by
  obtain ⟨x, hx, k, T', rfl, hk, hR⟩ := kw_for (body := fun s => bX7_putTouched_5 (nI t) s.1 s.2) (fun j s => ∃ k T', k + j = n0 ∧ s = (nI k, kw_ri σ 15 T') ∧ (∀ i, i < k → kb_bel 12 (T' (0 + i))) ∧ kb_ins T' 0 (nI t) (fun x => kr_ls (D t) (D x.toNatClampNeg)) k = kb_ins T 0 (nI t) (fun x => kr_ls (D t) (D x.toNatClampNeg)) n0) (fun x => ∃ k T', x = (nI k, kw_ri σ 15 T') ∧ k ≤ 11 ∧ upd T' (0 + k) (nI t) = kb_ins T 0 (nI t) (fun x => kr_ls (D t) (D x.toNatClampNeg)) n0) n0 (by omega) (s0 := (nI n0, kw_ri σ 15 T)) ⟨n0, T, by omega, rfl, hT, rfl⟩ (fun j s hj hp => by
    obtain ⟨k, T', hk, rfl, hb, hR⟩ := hp
    dsimp only
    unfold bX7_putTouched_5
    cases k with
    | zero =>
      right
      refine ⟨(nI 0, kw_ri σ 15 T'), by rw [if_pos (by decide)], 0, T', rfl, by omega, hR⟩
    | succ k =>
      obtain ⟨a, ha, hTa⟩ := hb k (by omega)
      rw [Nat.zero_add] at hTa
      have e1 : nI (k + 1) - 1 = nI k := by rw [kn_1, kn_sub (by omega)]; rfl
      have e2 : nI (k + 1) + (-1 : Int32) = nI k := by rw [kn_pred (by omega)]; rfl
      rw [if_neg (by simp (disch := omega) only [kn_0, kn_le]; omega)]
      simp (disch := omega) only [e1, e2, kn_chk, kn_clamp, kw_ri_1, hTa, kw_ri_2, hrow, kx_isLess (kr_row_bd hD _) (kr_row_bd hD _), kw_let_def, kw_si_d, kw_ri_ri, Option.bind_some, kx_fl_0]
      rw [kb_ins_s, Nat.zero_add, hTa, kn_clamp (by omega)] at hR
      cases hl : kr_ls (D t) (D a) with
      | true =>
        left
        rw [hl, if_pos rfl] at hR
        refine ⟨by omega, (nI k, kw_ri σ 15 (upd T' (k + 1) (nI a))), ?_, k, _, by omega, rfl, fun i hi => ?_, hR⟩
        · rw [if_neg (by simp)]
        · rw [kw_upd_n (by omega)]
          exact hb i (by omega)
      | false =>
        right
        rw [hl, if_neg (by simp)] at hR
        refine ⟨(nI (k + 1), kw_ri σ 15 T'), by rw [if_pos rfl], k + 1, T', rfl, by omega, ?_⟩
        rw [Nat.zero_add]
        exact hR)
  exact ⟨k, T', hx, hk, hR⟩
/-- a memory but the touched towns -/
def kx_tco (σ τ : kw_M) : Prop := τ.2 = σ.2 ∧ (∀ c, c ≠ 1 → c ≠ 15 → τ.1 c = σ.1 c) ∧ ∀ k, k ≠ 7 → τ.1 1 k = σ.1 1 k
theorem kx_markTouched {σ : kw_M} {D E : kr_D} {n : Nat} (hrow : ∀ u, u < 12 → σ.2 11 u = kx_enc (D u)) (hD : kr_row D) (hold : ∀ u, u < 12 → σ.2 16 u = kx_enc (E u)) (hE : kr_row E) (hn : σ.1 12 0 = nI n) (h12 : n ≤ 12) : ∃ τ, fX7_markTouched σ = some τ ∧ kx_tco σ τ ∧ τ.1 1 7 = nI (kb_cnt D E n) ∧ ∀ i, i < kb_cnt D E n → τ.1 15 i = (kb_tch (σ.1 15) 0 D E n).2 (0 + i) := by
  obtain ⟨x, hx, h1, h2, h3⟩ := kw_for (body := fun s => bX7_markTouched_7 s.1 s.2) (fun k s => s.1 = nI k ∧ kx_tco σ s.2 ∧ s.2.1 1 7 = nI (kb_tch (σ.1 15) 0 D E k).1 ∧ s.2.1 15 = (kb_tch (σ.1 15) 0 D E k).2) (fun x => kx_tco σ x ∧ x.1 1 7 = nI (kb_tch (σ.1 15) 0 D E n).1 ∧ x.1 15 = (kb_tch (σ.1 15) 0 D E n).2) n (by omega) (s0 := ((0 : Int32), kw_si σ 1 7 0)) ⟨rfl, ⟨rfl, fun c hc _ => kw_si_o hc, fun k hk => by dsimp only; rw [kw_si_1, kw_upd_n hk]⟩, by dsimp only; rw [kw_si_1, kw_upd_e]; rfl, kw_si_o (by decide)⟩ (fun k s hk hp => by
    obtain ⟨v, τ⟩ := s
    obtain ⟨rfl, hc, h7, h15⟩ := hp
    dsimp only at hc h7 h15 ⊢
    obtain ⟨c1, c2, c3⟩ := hc
    have hn' : τ.1 12 0 = nI n := by rw [c2 12 (by decide) (by decide)]; exact hn
    obtain ⟨g1, g2, g3⟩ := kb_tch_inv (σ.1 15) 0 D E k
    unfold bX7_markTouched_7
    rw [hn']
    by_cases h : k < n
    · left
      refine ⟨h, ?_⟩
      rw [if_neg (nI_ge h (by omega))]
      simp (disch := omega) only [kn_chk, kn_clamp, c1, hrow, hold, kx_enc_eq (kr_row_bd hE _) (kr_row_bd hD _), kw_let_def, km_next, kb_tch_s]
      by_cases hd : E k = D k
      · rw [if_pos hd, if_pos hd.symm]
        exact ⟨_, rfl, rfl, ⟨c1, c2, c3⟩, h7, h15⟩
      · rw [if_neg hd, if_neg (fun q => hd q.symm)]
        obtain ⟨q, T', f1, f2, f3⟩ := kx_ins (σ := τ) (D := D) (t := k) (n0 := (kb_tch (σ.1 15) 0 D E k).1) (T := (kb_tch (σ.1 15) 0 D E k).2) (fun u hu => by rw [c1]; exact hrow u hu) hD (by omega) (by omega) (fun i hi => by
          obtain ⟨a, ha, hb⟩ := g2 i hi
          exact ⟨a, by omega, hb⟩)
        rw [← h15, kw_ri_id] at f1
        unfold fX7_putTouched
        rw [kw_let_def, h7, f1, Option.bind_some]
        unfold jX7_putTouched_48
        simp (disch := omega) only [kn_chk, kn_clamp, kw_let_def, Option.bind_some]
        rw [Nat.zero_add] at f3
        refine ⟨_, rfl, rfl, ⟨c1, fun c hc hc15 => ?_, fun j hj => ?_⟩, ?_, ?_⟩
        · dsimp only
          rw [kw_si_o hc, kw_si_o hc15, kw_ri_o hc15]
          exact c2 c hc hc15
        · dsimp only
          rw [kw_si_1, kw_upd_n hj, kw_si_o (by decide), kw_ri_o (by decide)]
          exact c3 j hj
        · dsimp only
          rw [kw_si_1, kw_upd_e, kw_si_o (by decide), kw_ri_o (by decide), h7, km_next]
        · dsimp only
          rw [kw_si_o (by decide), kw_si_1, kw_ri_1, f3]
    · right
      obtain rfl : k = n := by omega
      exact ⟨τ, by rw [if_pos (nI_le (Nat.le_refl k) (by omega))], ⟨c1, c2, c3⟩, h7, h15⟩)
  unfold fX7_markTouched
  rw [kw_let_def, hx]
  refine ⟨x, rfl, h1, by rw [h2, kb_tch_cnt], fun i _ => by rw [h3, Nat.zero_add]⟩
