/-! The next longer way: both answers. -/
def kb_nxt (F : Nat → Int32) (n m o t : Nat) : Option Int := match kb_D F n m o t with
  | none => none
  | some D => kr_sx (km_gr F m (-1)) t D 12 o (fun q => decide (q = o)) 0
theorem kb_nxt_b {F : Nat → Int32} {n m o t : Nat} (hok : kb_ok F n m o) : kr_b12 (kb_nxt F n m o t) := fun z hz => by
  unfold kb_nxt at hz
  cases hD : kb_D F n m o t with
  | none => rw [hD] at hz; cases hz
  | some D =>
    rw [hD] at hz
    have := kr_sx_bd (km_wf_len hok.1.2.2.2.1 (-1)) _ _ _ _ _ hz
    omega
theorem kb_D_o {F : Nat → Int32} {n m o : Nat} (hok : kb_ok F n m o) : kb_D F n m o o = some 0 := kr_D_o hok.2.2.2.1 (kb_tn hok.1 (-1)) hok.2.2.1
theorem kx_findNext {σ : kw_M} {F : Nat → Int32} {n m o t : Nat} {D : Int} (hok : kb_ok F n m o) (hsh : kx_sh σ 1 12 F n m o) (hpr : kx_pr σ F n m) (ht : t < n) (hD : kb_D F n m o t = some D) : ∃ τ, fX1_findNext (nI t) σ = some (kx_enc (kb_nxt F n m o t), τ) ∧ kx_q σ τ F n m := by
  have hw := hok.1
  have h12 := hw.2.2.1
  have hon := hok.2.2.1
  unfold fX1_findNext
  rw [kw_let_def, kw_let_def]
  have a1 : ∀ c, c ≠ 7 → (kw_sl (kw_si σ 7 2 (nI t)) 7 3 (-9000000000000000000 : Int64)).1 c = σ.1 c := fun c hc => by rw [kw_sl_1, kw_si_o hc]
  have a2 : ∀ c, c ≠ 7 → (kw_sl (kw_si σ 7 2 (nI t)) 7 3 (-9000000000000000000 : Int64)).2 c = σ.2 c := fun c hc => by rw [kw_sl_o hc, kw_si_2]
  have hrd : kx_rd (kw_sl (kw_si σ 7 2 (nI t)) 7 3 (-9000000000000000000 : Int64)) 12 F m := kx_rd_fr hsh.1 (a1 12 (by decide)) (a1 18 (by decide)) (a1 19 (by decide)) (a1 20 (by decide)) (a2 12 (by decide))
  obtain ⟨σ2, u1, u2, u3⟩ := kx_findUseful hrd hw.2.2.2.1
  have b1 : ∀ c, c ≠ 7 → σ2.1 c = σ.1 c := fun c hc => by rw [u2.1]; exact a1 c hc
  have b2 : ∀ c, c ≠ 7 → σ2.2 c = σ.2 c := fun c hc => by rw [u2.2.1 c hc]; exact a2 c hc
  have h16 : ∀ q, q < 12 → σ2.2 16 q = kx_enc (kb_D F n m o q) := fun q hq => by rw [b2 16 (by decide)]; exact hsh.2.2.2.2.1 q hq
  have hn : kx_nx σ2 F n m o t := ⟨kx_rd_fr hrd (by rw [u2.1]) (by rw [u2.1]) (by rw [u2.1]) (by rw [u2.1]) (u2.2.1 12 (by decide)), h16, by rw [u2.1, kw_sl_1, kw_si_1, kw_upd_e], u3⟩
  have h73 : σ2.2 7 3 = kx_enc none := by rw [u2.2.2 3 (by decide), kw_sl_2, kw_updL_e]; rfl
  have ho2 : σ2.1 1 2 = nI o := by rw [b1 1 (by decide)]; exact hsh.2.1.1.trans hok.2.1
  have hcnt : kr_cntb (fun q => decide (q = o)) 12 = 0 + 1 := by
    have h := kr_cntb_add (U := fun _ => false) (a := o) (N := 12) (by omega) rfl
    have h0 : kr_cntb (fun _ => false) 12 = 0 := by decide
    rw [h0] at h
    exact h
  obtain ⟨σ3, d1, d2, d3⟩ := kx_dive hok ht hD 12 20 0 o (fun q => decide (q = o)) ((1 : Int32) <<< (nI o &&& 31)) 0 none σ2 (by decide) (by decide) hon (kb_D_o hok) (fun q hq => kw_upI (by omega) q hq) (fun q => decide_eq_false (fun c => q c.symm)) hcnt kr_bT_none hn h73
  have e : fX1_dive (nI o) ((1 : Int32) <<< (nI o &&& 31)) (0 : Int32) σ2 = some σ3 := d1
  have emn : kr_mn none (kr_sx (km_gr F m (-1)) t D 12 o (fun q => decide (q = o)) 0) = kb_nxt F n m o t := by
    unfold kb_nxt
    rw [hD]
    dsimp only
    cases kr_sx (km_gr F m (-1)) t D 12 o (fun q => decide (q = o)) 0 <;> rfl
  rw [emn] at d3
  rw [u1, Option.bind_some, ho2, e, Option.bind_some, d3]
  have c1 : ∀ c, c ≠ 7 → σ3.1 c = σ.1 c := fun c h7 => by rw [d2.1, b1 c h7]
  have c2 : ∀ c, c ≠ 7 → c ≠ 47 → σ3.2 c = σ.2 c := fun c h7 h47 => by rw [d2.2.1 c h7 h47, b2 c h7]
  refine ⟨σ3, rfl, ⟨fun c hc => c1 c (by omega), fun c hc => c2 c (by omega) (by omega)⟩, ⟨fun c hc => c1 c (by omega), fun c hc => c2 c (by omega) (by omega)⟩, ?_⟩
  unfold kx_pr
  rw [c1 5 (by decide), c2 39 (by decide) (by decide)]
  exact hpr
theorem km_findsLeft {σ : kw_M} {n m t : Nat} (hw : kb_wf (σ.1 1) n m) (ht : t < n) : ∃ τ, fX10_findsLeft (nI t) σ = some τ ∧ τ.1 = σ.1 ∧ (∀ c, c ≠ 2 → c ≠ 12 → τ.2 c = σ.2 c) ∧ ∀ q, q < n → τ.2 12 q = km_enc (kb_D (σ.1 1) n m q t) := by
  have h2 := hw.2.1
  have h12 := hw.2.2.1
  obtain ⟨x, hx, e1, e2, e3⟩ := kw_for (body := fun s => bX10_findsLeft_2 (nI t) s.1 s.2) (fun k s => s.1 = nI k ∧ s.2.1 = σ.1 ∧ (∀ c, c ≠ 2 → c ≠ 12 → s.2.2 c = σ.2 c) ∧ ∀ q, q < k → s.2.2 12 q = km_enc (kb_D (σ.1 1) n m q t)) (fun x => x.1 = σ.1 ∧ (∀ c, c ≠ 2 → c ≠ 12 → x.2 c = σ.2 c) ∧ ∀ q, q < n → x.2 12 q = km_enc (kb_D (σ.1 1) n m q t)) n (by omega) (s0 := ((0 : Int32), σ)) ⟨rfl, rfl, fun _ _ _ => rfl, fun q hq => absurd hq (Nat.not_lt_zero _)⟩ (fun k s hk hp => by
    obtain ⟨v, τ⟩ := s
    obtain ⟨rfl, o1, o2, h1⟩ := hp
    dsimp only at o1 o2 h1 ⊢
    unfold bX10_findsLeft_2 fX10_towns
    rw [o1, hw.1, Option.bind_some]
    by_cases hkn : k < n
    case neg =>
      right
      obtain rfl : k = n := by omega
      rw [if_pos (nI_le (Nat.le_refl k) (by omega))]
      exact ⟨_, rfl, o1, o2, h1⟩
    left
    refine ⟨hkn, ?_⟩
    rw [if_neg (nI_ge hkn (by omega)), km_finds (n := n) (by rw [o1]; exact hw.2.2.2.1) (by rw [o1]; exact hw.1) (by omega) h12 (by omega), Option.bind_some, kn_chk (by omega) (by decide), kn_chk (by omega) (by decide), kn_clamp (by omega), kn_clamp (by omega), km_row_at (by omega), kw_let_def, km_next, o1]
    refine ⟨_, rfl, rfl, o1, fun c hc1 hc2 => ?_, fun q hq => ?_⟩
    · dsimp only
      rw [kw_sl_o hc2]
      unfold km_row
      rw [kw_rl_o hc1]
      exact o2 c hc1 hc2
    · dsimp only
      rw [kw_sl_2]
      by_cases e : q = k
      · rw [e, kw_updL_e]
        rfl
      · rw [kw_updL_n e]
        unfold km_row
        rw [kw_rl_o (by decide)]
        exact h1 q (by omega))
  unfold fX10_findsLeft
  rw [hx, Option.bind_some]
  exact ⟨x, rfl, e1, e2, e3⟩
theorem km_nextOf {σ : kw_M} {n m o t : Nat} (hok : kb_ok (σ.1 1) n m o) (ht : t < n) (hrow : ∀ t, t < 12 → σ.2 3 t = km_enc (kb_D (σ.1 1) n m o t)) : ∃ τ, fX10_nextOf (nI t) σ = some (km_enc (kb_nxt (σ.1 1) n m o t), τ) ∧ ∀ c, c ≠ 13 → c ≠ 14 → τ.1 c = σ.1 c := by
  have hw := hok.1
  have h12 := hw.2.2.1
  have hm := hw.2.2.2.1.1
  have hon := hok.2.2.1
  unfold fX10_nextOf
  rw [kn_chk (by omega) (by decide), kn_clamp (by omega), hrow t (by omega), hok.2.1]
  simp only [km_enc_e (kb_D_bd hw.2.2.2.1 h12 t), kn_eq (show t < 2147483648 by omega) (show o < 2147483648 by omega)]
  cases hD : kb_D (σ.1 1) n m o t with
  | none =>
    rw [if_pos rfl]
    refine ⟨σ, ?_, fun _ _ _ => rfl⟩
    unfold kb_nxt
    rw [hD]
    rfl
  | some D =>
    rw [if_neg (by simp)]
    have eN : kb_nxt (σ.1 1) n m o t = kr_sx (km_gr (σ.1 1) m (-1)) t D 12 o (fun q => decide (q = o)) 0 := by
      unfold kb_nxt
      rw [hD]
    by_cases hto : t = o
    · rw [if_pos hto]
      refine ⟨σ, ?_, fun _ _ _ => rfl⟩
      subst hto
      have h0 := kb_D_o hok
      rw [hD] at h0
      cases h0
      rw [eN, kr_sx_g, if_neg (by omega)]
      rfl
    · rw [if_neg hto]
      obtain ⟨ρ, f1, f2, f3, f4⟩ := km_findsLeft hw ht
      rw [f1, Option.bind_some, f2, hok.2.1, kw_let_def, kw_let_def, kw_let_def]
      have hcnt : kr_cntb (fun q => decide (q = o)) 12 = 0 + 1 := by
        have h := kr_cntb_add (U := fun _ => false) (a := o) (N := 12) (by omega) rfl
        have h0 : kr_cntb (fun _ => false) 12 = 0 := by decide
        rw [h0] at h
        exact h
      have hnm : km_nm (kw_si (kw_si ρ 13 0 (nI o)) 14 0 0) (σ.1 1) n m o t := by
        refine ⟨?_, fun q hq => ?_, fun q hq => ?_⟩
        · rw [kw_si_o (by decide), kw_si_o (by decide), f2]
        · rw [kw_si_2, kw_si_2, f3 3 (by decide) (by decide)]
          exact hrow q hq
        · rw [kw_si_2, kw_si_2]
          exact f4 q hq
      obtain ⟨K, τ, k1, k2, k3, k4⟩ := km_EX_all hok ht hD 11 0 o (fun q => decide (q = o)) ((1 : Int32) <<< (nI o &&& 31)) 0 none (by decide) hon (fun q => hto q.symm) hcnt (fun q hq => kw_upI (by omega) q hq) (by decide) (fun z hz => by cases hz) m 0 _ (by omega) hnm (by rw [kw_si_o (by decide), kw_si_1, kw_upd_e]) (by rw [kw_si_1, kw_upd_e]; rfl)
      have hpop : bX10_nextOf_71 (nI t) (km_enc (kr_fm none (kr_sv (km_gr (σ.1 1) m (-1)) t D 11 o (fun q => decide (q = o)) 0) m)) (Int64.ofInt 0) (nI 0) ((1 : Int32) <<< (nI o &&& 31)) τ = some (.inl (km_enc (kr_fm none (kr_sv (km_gr (σ.1 1) m (-1)) t D 11 o (fun q => decide (q = o)) 0) m), Int64.ofInt 0, (-1 : Int32), (1 : Int32) <<< (nI o &&& 31), τ)) := by
        unfold bX10_nextOf_71
        rw [if_neg (show ¬ nI 0 < (0 : Int32) by decide), kn_chk (by decide) (by decide), kn_clamp (by decide), kw_let_def, k4, show τ.1 1 1 = nI m by rw [k3.2.1 1 (by decide) (by decide), hnm.1]; exact hw.2.2.2.1.2.1, if_pos rfl, kw_let_def, show nI 0 - (1 : Int32) = -1 by decide, if_neg (show ¬ (0 : Int32) ≤ -1 by decide)]
      have hend : bX10_nextOf_71 (nI t) (km_enc (kr_fm none (kr_sv (km_gr (σ.1 1) m (-1)) t D 11 o (fun q => decide (q = o)) 0) m)) (Int64.ofInt 0) (-1 : Int32) ((1 : Int32) <<< (nI o &&& 31)) τ = some (.inr (km_enc (kr_fm none (kr_sv (km_gr (σ.1 1) m (-1)) t D 11 o (fun q => decide (q = o)) 0) m), τ)) := by
        unfold bX10_nextOf_71
        rw [if_pos (show (-1 : Int32) < 0 by decide)]
      have hK : K ≤ 1000000000000000000000 := by
        have h1 : m * 38 ^ 11 ≤ 36 * 38 ^ 11 := Nat.mul_le_mul_right _ hm
        have h2 : 36 * 38 ^ 11 ≤ 1000000000000000000000 := by decide
        omega
      obtain ⟨R, hR⟩ : ∃ R, kw_F = K + (R + 1 + 1) := ⟨kw_F - 2 - K, by unfold kw_F; omega⟩
      have hloop : kw_loop (fun s => bX10_nextOf_71 (nI t) s.1 s.2.1 s.2.2.1 s.2.2.2.1 s.2.2.2.2) kw_F ((900000000000000000 : Int64), (0 : Int64), (0 : Int32), (1 : Int32) <<< (nI o &&& 31), kw_si (kw_si ρ 13 0 (nI o)) 14 0 0) = some (km_enc (kr_fm none (kr_sv (km_gr (σ.1 1) m (-1)) t D 11 o (fun q => decide (q = o)) 0) m), τ) := by
        rw [hR]
        refine (kw_st_loop (R + 1 + 1) K _ k2).trans ?_
        rw [kw_loop_s]
        dsimp only
        rw [hpop, Option.bind_some]
        dsimp only
        rw [kw_loop_s]
        dsimp only
        rw [hend, Option.bind_some]
      rw [hloop, Option.bind_some, eN, kr_sx_s (fun q => hto q.symm)]
      refine ⟨τ, rfl, fun c h13 h14 => ?_⟩
      rw [k3.2.1 c h13 h14, kw_si_o h14, kw_si_o h13, f2]
