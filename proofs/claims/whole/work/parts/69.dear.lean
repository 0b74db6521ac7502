/-! The dearest road: the reference, and both together. -/
theorem km_dearLoop {σ : kw_M} {n m o t N : Nat} {R : Nat → Nat} (hok : kb_ok (σ.1 1) n m o) (ht : t < n) (hN0 : 0 < N) (hN : N < 12) (hR : ∀ i, i < N → R i < m) (h8 : ∀ i, i < N → σ.1 8 i = nI (R i)) : ∃ a τ, kw_loop (fun s => bX10_dearestOf_22 (nI t) (nI N) s.1 s.2.1 s.2.2.1 s.2.2.2) kw_F ((-1 : Int32), (0 : Int64), (0 : Int32), σ) = some (nI a, τ) ∧ kp_top (kb_wo_ (σ.1 1) n m o t) R (fun i => i < N) a ∧ kx_oL σ τ 2 := by
  have hm := hok.1.2.2.2.1.1
  have h2 := hok.1.2.1
  have h12 := hok.1.2.2.1
  have hon := hok.2.2.1
  have hbd := fun r => kb_bd hok.1.2.2.2.1 h12 (nI r) o t
  have stp : ∀ (k : Nat) (v3 : Int32) (v4 : Int64) (τ : kw_M), k < N → kx_oL σ τ 2 → (k = 0 ∧ v3 = -1 ∨ ∃ a, a < m ∧ v3 = nI a ∧ v4 = km_enc (kb_wo_ (σ.1 1) n m o t a) ∧ kp_top (kb_wo_ (σ.1 1) n m o t) R (fun i => i < k) a) → ∃ a τ2, a < m ∧ bX10_dearestOf_22 (nI t) (nI N) v3 v4 (nI k) τ = some (.inl (nI a, km_enc (kb_wo_ (σ.1 1) n m o t a), nI (k + 1), τ2)) ∧ kp_top (kb_wo_ (σ.1 1) n m o t) R (fun i => i < k + 1) a ∧ kx_oL σ τ2 2 := fun k v3 v4 τ hk ho hv => by
    obtain ⟨o1, o2⟩ := ho
    have hRk := hR k hk
    have hT : ∀ i, i < k + 1 ↔ i < k ∨ i = k := fun i => by omega
    have oo : kx_oL σ (km_row τ (kr_bf (km_gr (σ.1 1) m (nI (R k))) (kr_one o) (n - 1))) 2 := ⟨o1, fun q hq => by unfold km_row; rw [kw_rl_o hq]; exact o2 q hq⟩
    have r1 : (km_row τ (kr_bf (km_gr (σ.1 1) m (nI (R k))) (kr_one o) (n - 1))).1 = σ.1 := o1
    have r2 : (km_row τ (kr_bf (km_gr (σ.1 1) m (nI (R k))) (kr_one o) (n - 1))).2 2 t = km_enc (kb_wo_ (σ.1 1) n m o t (R k)) := km_row_at (by omega)
    unfold bX10_dearestOf_22 jX10_dearestOf_88_L22
    rw [if_neg (nI_ge hk (by omega))]
    simp (disch := omega) only [kn_chk, kn_clamp]
    rw [o1, h8 k hk, hok.2.1, km_finds (by rw [o1]; exact hok.1.2.2.2.1) (by rw [o1]; exact hok.1.1) (by omega) h12 (by omega), Option.bind_some, o1]
    simp (disch := omega) only [kw_let_def, km_next, kn_chk, kn_clamp, r1, r2, h8 k hk]
    rcases hv with ⟨rfl, rfl⟩ | ⟨a, ha, rfl, rfl, htop⟩
    · rw [if_pos rfl]
      exact ⟨R 0, _, hRk, rfl, kp_top_one (fun i => by omega), oo⟩
    · rw [if_neg (kb_neg1 (show a < 2147483648 by omega))]
      simp only [km_enc_lt (a := kb_wo_ (σ.1 1) n m o t (R k)) (b := kb_wo_ (σ.1 1) n m o t a) (hbd (R k)) (hbd a), km_enc_eq (a := kb_wo_ (σ.1 1) n m o t (R k)) (b := kb_wo_ (σ.1 1) n m o t a) (hbd (R k)) (hbd a), kn_le (show R k < 2147483648 by omega) (show a < 2147483648 by omega)]
      cases hl : kr_ls (kb_wo_ (σ.1 1) n m o t (R k)) (kb_wo_ (σ.1 1) n m o t a) with
      | true =>
        rw [kn_tt]
        exact ⟨a, _, ha, rfl, kp_top_old htop hT (Or.inl (Or.inl hl)), oo⟩
      | false =>
        rw [kn_ft]
        by_cases he : kb_wo_ (σ.1 1) n m o t (R k) = kb_wo_ (σ.1 1) n m o t a
        · rw [if_pos he]
          by_cases hr : R k ≤ a
          · rw [if_pos hr]
            refine ⟨R k, _, hRk, rfl, kp_top_new htop hT ?_, oo⟩
            by_cases q : R k = a
            · exact Or.inr q
            · exact Or.inl (Or.inr ⟨he, by omega⟩)
          · rw [if_neg hr]
            exact ⟨a, _, ha, rfl, kp_top_old htop hT (Or.inl (Or.inr ⟨he.symm, by omega⟩)), oo⟩
        · rw [if_neg he]
          refine ⟨R k, _, hRk, rfl, kp_top_new htop hT (Or.inl (Or.inl ?_)), oo⟩
          rcases kr_ls_tri (kb_wo_ (σ.1 1) n m o t (R k)) (kb_wo_ (σ.1 1) n m o t a) with q | q | q
          · rw [hl] at q; cases q
          · exact absurd q he
          · exact q
  obtain ⟨x, hx, a, x1, x2, x3⟩ := kw_for (body := fun s => bX10_dearestOf_22 (nI t) (nI N) s.1 s.2.1 s.2.2.1 s.2.2.2) (fun k s => s.2.2.1 = nI k ∧ kx_oL σ s.2.2.2 2 ∧ (k = 0 ∧ s.1 = -1 ∨ ∃ a, a < m ∧ s.1 = nI a ∧ s.2.1 = km_enc (kb_wo_ (σ.1 1) n m o t a) ∧ kp_top (kb_wo_ (σ.1 1) n m o t) R (fun i => i < k) a)) (fun x => ∃ a, x.1 = nI a ∧ kp_top (kb_wo_ (σ.1 1) n m o t) R (fun i => i < N) a ∧ kx_oL σ x.2 2) N (by omega) (s0 := ((-1 : Int32), (0 : Int64), (0 : Int32), σ)) ⟨rfl, ⟨rfl, fun _ _ => rfl⟩, Or.inl ⟨rfl, rfl⟩⟩ (fun k s hk hp => by
    obtain ⟨v3, v4, v6, τ⟩ := s
    obtain ⟨e1, e2, e3⟩ := hp
    dsimp only at e1 e2 e3 ⊢
    subst e1
    by_cases hkN : k < N
    · left
      obtain ⟨a, τ2, s1, s2, s3, s4⟩ := stp k v3 v4 τ hkN e2 e3
      exact ⟨hkN, _, s2, rfl, s4, Or.inr ⟨a, s1, rfl, rfl, s3⟩⟩
    · right
      obtain rfl : k = N := by omega
      unfold bX10_dearestOf_22
      rw [if_pos (nI_le (Nat.le_refl k) (by omega))]
      rcases e3 with ⟨q, _⟩ | ⟨a, _, q1, _, q2⟩
      · omega
      · exact ⟨_, rfl, a, q1, q2, e2⟩)
  exact ⟨a, x.2, by rw [hx, ← x1], x2, x3⟩
/-- the road back as a number -/
def kr_rn (g : kr_G) (d : kr_D) (t k : Nat) : Nat := (kr_par g d (kr_bk g d t k)).getD 0
theorem kr_rn_rb {g : kr_G} {d : kr_D} {o t N k : Nat} (h : kr_N g d o t N) (hk : k < N) : kr_rb g d t k = nI (kr_rn g d t k) ∧ kr_rn g d t k < g.1 := by
  obtain ⟨_, r, hr⟩ := h.2 k hk
  unfold kr_rb kr_rn
  rw [hr]
  exact ⟨rfl, (kr_par_some hr).1⟩
/-- dearest: both sides; the reference's row dist lies in cell 3 -/
theorem kw_dearest {σX σM : kw_M} {n m o t : Nat} (hok : kb_ok (σM.1 1) n m o) (hsh : kx_sh σX 1 12 (σM.1 1) n m o) (ht : t < n) (hrow : ∀ t, t < 12 → σM.2 3 t = km_enc (kb_D (σM.1 1) n m o t)) : ∃ a τX τM, fX9_dearestRoad (nI t) σX = some (a, τX) ∧ fX10_dearestOf (nI t) σM = some (a, τM) ∧ (∀ c, c ≠ 42 → τX.1 c = σX.1 c) ∧ (∀ c, c ≠ 41 → τX.2 c = σX.2 c) ∧ ∀ c, c ≠ 8 → τM.1 c = σM.1 c := by
  have h12 := hok.1.2.2.1
  have hm := hok.1.2.2.2.1.1
  have hon := hok.2.2.1
  have hpo := kr_par_o hok.2.2.2.1 (kb_tn hok.1 (-1)) hok.2.2.1
  unfold fX9_dearestRoad fX10_dearestOf
  by_cases hz : kb_D (σM.1 1) n m o t = none
  · -- no way: the class's findWay is empty
    have hN0 : kr_par (km_gr (σM.1 1) m (-1)) (kb_D (σM.1 1) n m o) t = none := kr_par_dn hz
    have h17 : σX.1 17 t = -1 := by
      have := hsh.2.2.2.2.2.1 t (by omega)
      rw [hN0] at this
      exact this
    obtain ⟨x, hx, x1⟩ := kw_for (body := fun s => bX6_findWay_5 s.1 s.2.1 s.2.2) (fun k s => k = 0 ∧ s = ((0 : Int32), nI t, σX)) (fun x => x = ((0 : Int32), σX)) 0 (by decide) (s0 := ((0 : Int32), nI t, σX)) ⟨rfl, rfl⟩ (fun k s hk hp => by
      obtain ⟨rfl, rfl⟩ := hp
      right
      dsimp only
      unfold bX6_findWay_5
      rw [if_neg (by decide), kn_chk (by omega) (by decide), kn_clamp (by omega), h17, if_pos rfl]
      exact ⟨_, rfl, rfl⟩)
    obtain ⟨τ2, b1, b2, b3, _⟩ := kx_findWay2 (σ := σX) (N := 0) (by decide)
    have hl : kw_loop (fun s => bX9_dearestRoad_15 (nI t) (nI 0) s.1 s.2.1 s.2.2.1 s.2.2.2) kw_F ((-2 : Int32), (0 : Int64), (0 : Int32), τ2) = some (-2, τ2) := by
      obtain ⟨y, hy, y1⟩ := kw_for (body := fun s => bX9_dearestRoad_15 (nI t) (nI 0) s.1 s.2.1 s.2.2.1 s.2.2.2) (fun k s => k = 0 ∧ s = ((-2 : Int32), (0 : Int64), (0 : Int32), τ2)) (fun x => x = ((-2 : Int32), τ2)) 0 (by decide) (s0 := ((-2 : Int32), (0 : Int64), (0 : Int32), τ2)) ⟨rfl, rfl⟩ (fun k s hk hp => by
        obtain ⟨rfl, rfl⟩ := hp
        right
        dsimp only
        unfold bX9_dearestRoad_15
        rw [if_pos (by decide)]
        exact ⟨_, rfl, rfl⟩)
      rw [hy, y1]
    unfold fX9_findWay fX6_findWay
    rw [hx, x1, Option.bind_some]
    dsimp only
    rw [show jX6_findWay_58 0 σX = jX6_findWay_58 (nI 0) σX from rfl, b1, Option.bind_some, Option.bind_some]
    dsimp only
    rw [hl, Option.bind_some, km_goesBack_no (d := kb_D (σM.1 1) n m o) (by omega) (hrow t (by omega)) hz, Option.bind_some, if_neg (show ¬ (1 : Int32) ≤ -1 by decide)]
    exact ⟨_, _, _, rfl, rfl, b3, fun c _ => by rw [b2], fun _ _ => rfl⟩
  · obtain ⟨N, hN, hNN⟩ := kb_N hok ht hz
    obtain ⟨τ, a1, a2, a3, a4⟩ := kx_findWay hok hsh ht (by omega) hNN
    obtain ⟨ρ, b1, b2, b3, b4⟩ := km_goesBack (σ := σM) hok.1 hok.2.1 hon ht hrow (kb_row hok) hz (by omega) hNN
    rw [a1, Option.bind_some, b1, Option.bind_some]
    dsimp only
    by_cases h0 : N = 0
    · subst h0
      have hl : kw_loop (fun s => bX9_dearestRoad_15 (nI t) (nI 0) s.1 s.2.1 s.2.2.1 s.2.2.2) kw_F ((-2 : Int32), (0 : Int64), (0 : Int32), τ) = some (-2, τ) := by
        obtain ⟨y, hy, y1⟩ := kw_for (body := fun s => bX9_dearestRoad_15 (nI t) (nI 0) s.1 s.2.1 s.2.2.1 s.2.2.2) (fun k s => k = 0 ∧ s = ((-2 : Int32), (0 : Int64), (0 : Int32), τ)) (fun x => x = ((-2 : Int32), τ)) 0 (by decide) (s0 := ((-2 : Int32), (0 : Int64), (0 : Int32), τ)) ⟨rfl, rfl⟩ (fun k s hk hp => by
          obtain ⟨rfl, rfl⟩ := hp
          right
          dsimp only
          unfold bX9_dearestRoad_15
          rw [if_pos (by decide)]
          exact ⟨_, rfl, rfl⟩)
        rw [hy, y1]
      rw [hl, Option.bind_some, if_neg (by decide)]
      exact ⟨_, _, _, rfl, rfl, a3, fun c _ => by rw [a2], b3⟩
    · have hsτ : kx_sh τ 1 12 (σM.1 1) n m o := kx_sh_N hsh ⟨fun c hc => a3 c (by omega), fun c _ => by rw [a2]⟩
      have hRx : ∀ i, i < N → kr_rn (km_gr (σM.1 1) m (-1)) (kb_D (σM.1 1) n m o) t (N - 1 - i) < m := fun i hi => (kr_rn_rb hNN (by omega)).2
      obtain ⟨a, τ2, c1, c2, c3⟩ := kx_dearLoop (R := fun i => kr_rn (km_gr (σM.1 1) m (-1)) (kb_D (σM.1 1) n m o) t (N - 1 - i)) hok hsτ ht (by omega) (by omega) hRx (fun i hi => by rw [a4 i hi]; exact (kr_rn_rb hNN (by omega)).1)
      have hokρ : kb_ok (ρ.1 1) n m o := by rw [b3 1 (by decide)]; exact hok
      obtain ⟨a', ρ2, d1, d2, d3⟩ := km_dearLoop (σ := ρ) (R := fun i => kr_rn (km_gr (σM.1 1) m (-1)) (kb_D (σM.1 1) n m o) t i) hokρ ht (by omega) (by omega) (fun i hi => (kr_rn_rb hNN hi).2) (fun i hi => by rw [b4 i hi]; exact (kr_rn_rb hNN hi).1)
      rw [b3 1 (by decide)] at d2
      have ea : a = a' := by
        refine kp_top_u (S := fun i => i < N) (R := fun i => kr_rn (km_gr (σM.1 1) m (-1)) (kb_D (σM.1 1) n m o) t i) ?_ d2
        obtain ⟨⟨i, hi, ei⟩, h1⟩ := c2
        refine ⟨⟨N - 1 - i, by show N - 1 - i < N; omega, ei⟩, fun j hj => ?_⟩
        have hj' : j < N := hj
        have := h1 (N - 1 - j) (by show N - 1 - j < N; omega)
        dsimp only at this
        rw [show N - 1 - (N - 1 - j) = j by omega] at this
        exact this
      subst ea
      rw [c1, Option.bind_some, if_pos (by simp (disch := omega) only [kn_1, kn_le]; omega), d1, Option.bind_some]
      exact ⟨_, _, _, rfl, rfl, fun c hc => by dsimp only; rw [c3.1]; exact a3 c hc, fun c hc => by dsimp only; rw [c3.2 c hc, a2], fun c hc => by dsimp only; rw [d3.1]; exact b3 c hc⟩
