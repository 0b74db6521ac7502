/-! Texts: the numbers of a clause. -/
def kt_lo (c : Nat) : Int := if c = 110 then 2 else if c = 108 then -1000000000 else 0
def kt_hi (tw c : Nat) : Int := if c = 110 then 12 else if c = 108 then 1000000000 else if c = 114 then 35 else (tw : Int) - 1
theorem kx_told {tw c : Nat} (htw : tw ≤ 12) (hc : c = 110 ∨ c = 108 ∨ c = 114 ∨ c = 116) (v : Int) (τ : kw_M) (h1 : -10000000000 ≤ v) (h2 : v ≤ 10000000000) (h0 : τ.1 4 0 = nI tw) : fX3_isTold (nI c) (Int64.ofInt v) τ = some (kx_fl (decide (kt_lo c ≤ v ∧ v ≤ kt_hi tw c))) := by
  have e := km_toInt (z := v) (by omega) (by omega)
  unfold fX3_isTold
  rw [h0]
  simp only [Int64.lt_iff_toInt_lt, Int64.le_iff_toInt_le, e, show (2 : Int64).toInt = 2 by decide, show (12 : Int64).toInt = 12 by decide, show (0 : Int64).toInt = 0 by decide, show (36 : Int64).toInt = 36 by decide, show (-1000000000 : Int64).toInt = -1000000000 by decide, show (1000000000 : Int64).toInt = 1000000000 by decide, Int32.toInt_toInt64, nI_toInt (show tw < 2147483648 by omega)]
  have fin : ∀ (a b : Prop) [Decidable a] [Decidable b] (P : Prop) [Decidable P], (P ↔ ¬ a ∧ ¬ b) → (if a then some (0 : Int32) else if b then some 0 else some 1) = some (kx_fl (decide P)) := fun a b _ _ P _ hP => by
    by_cases ha : a
    · rw [if_pos ha, decide_eq_false (fun q => (hP.mp q).1 ha)]; rfl
    · rw [if_neg ha]
      by_cases hb : b
      · rw [if_pos hb, decide_eq_false (fun q => (hP.mp q).2 hb)]; rfl
      · rw [if_neg hb, decide_eq_true (hP.mpr ⟨ha, hb⟩)]; rfl
  rcases hc with rfl | rfl | rfl | rfl
  · rw [if_pos (by decide)]
    exact fin _ _ _ (by show (2 : Int) ≤ v ∧ v ≤ 12 ↔ _; omega)
  · rw [if_neg (by decide), if_neg (by decide), if_neg (by decide)]
    exact fin _ _ _ (by show (-1000000000 : Int) ≤ v ∧ v ≤ 1000000000 ↔ _; omega)
  · rw [if_neg (by decide), if_pos (by decide)]
    exact fin _ _ _ (by show (0 : Int) ≤ v ∧ v ≤ 35 ↔ _; omega)
  · rw [if_neg (by decide), if_neg (by decide), if_pos (by decide)]
    exact fin _ _ _ (by show (0 : Int) ≤ v ∧ v ≤ (tw : Int) - 1 ↔ _; omega)
def kt_nums (tw : Nat) (B : Nat → Nat) (e : Nat) : List Nat → Nat → Int → Nat → Int32 ⊕ (List Int × Nat)
  | [], _, _, p => .inr ([], p)
  | c :: cs, i, prev, p => match kt_n (kt_lo c) (kt_hi tw c) B e p with
    | .inl f => .inl f
    | .inr (v, q) => if c = 116 ∧ i = 1 ∧ prev = v then .inl (kt_f 6 (p + 1)) else match kt_nums tw B e cs (i + 1) v q with
      | .inl f => .inl f
      | .inr (vs, q') => .inr (v :: vs, q')
theorem kt_nums_l {tw : Nat} {B : Nat → Nat} {e c i p : Nat} {cs : List Nat} {prev : Int} {f : Int32} (h : kt_n (kt_lo c) (kt_hi tw c) B e p = .inl f) : kt_nums tw B e (c :: cs) i prev p = .inl f := by
  unfold kt_nums
  rw [h]
theorem kt_nums_6 {tw : Nat} {B : Nat → Nat} {e c i p q : Nat} {cs : List Nat} {prev v : Int} (h : kt_n (kt_lo c) (kt_hi tw c) B e p = .inr (v, q)) (h6 : c = 116 ∧ i = 1 ∧ prev = v) : kt_nums tw B e (c :: cs) i prev p = .inl (kt_f 6 (p + 1)) := by
  unfold kt_nums
  rw [h]
  dsimp only
  rw [if_pos h6]
theorem kt_nums_r {tw : Nat} {B : Nat → Nat} {e c i p q : Nat} {cs : List Nat} {prev v : Int} (h : kt_n (kt_lo c) (kt_hi tw c) B e p = .inr (v, q)) (h6 : ¬ (c = 116 ∧ i = 1 ∧ prev = v)) : kt_nums tw B e (c :: cs) i prev p = match kt_nums tw B e cs (i + 1) v q with
      | .inl f => .inl f
      | .inr (vs, q') => .inr (v :: vs, q') := by
  conv => lhs; unfold kt_nums
  rw [h]
  dsimp only
  rw [if_neg h6]
theorem kt_n_in {lo hi : Int} {B : Nat → Nat} {e p q : Nat} {v : Int} (h : kt_n lo hi B e p = .inr (v, q)) : (lo ≤ v ∧ v ≤ hi) ∧ p < q ∧ q ≤ e := by
  unfold kt_n kt_num at h
  by_cases h32 : p < e ∧ B p = 32
  case neg =>
    rw [if_neg h32] at h
    dsimp only at h
    cases h
  rw [if_pos h32] at h
  have hq := kt_q_le (B := B) h32.1
  obtain ⟨r1, r2, r3⟩ := kt_rl_p (kt_d_e B e) hq
  have hpq : p < kt_q B e p := by
    unfold kt_q
    split <;> omega
  by_cases hd0 : kt_rl (kt_d B e) e (kt_q B e p) = 0
  · rw [if_pos hd0] at h
    dsimp only at h
    cases h
  rw [if_neg hd0] at h
  by_cases hd10 : 10 < kt_rl (kt_d B e) e (kt_q B e p)
  · rw [if_pos hd10] at h
    dsimp only at h
    cases h
  rw [if_neg hd10] at h
  dsimp only at h
  generalize (if kt_s B e (p + 1) = true then -(kt_dv B (kt_q B e p) (kt_rl (kt_d B e) e (kt_q B e p))) else kt_dv B (kt_q B e p) (kt_rl (kt_d B e) e (kt_q B e p))) = u at h
  by_cases hin : lo ≤ u ∧ u ≤ hi
  · rw [if_pos hin] at h
    have h' := Sum.inr.inj h
    have e1 : u = v := congrArg Prod.fst h'
    have e2 : kt_q B e p + kt_rl (kt_d B e) e (kt_q B e p) = q := congrArg Prod.snd h'
    rw [← e1, ← e2]
    exact ⟨hin, by omega, r1⟩
  · rw [if_neg hin] at h
    cases h
theorem kt_n_ne {lo hi : Int} {B : Nat → Nat} {e p : Nat} {f : Int32} (hB : kt_B B e) (hp : p ≤ e) (h : kt_n lo hi B e p = .inl f) : ¬ f = 0 := by
  have he := hB.1
  unfold kt_n kt_num at h
  by_cases h32 : p < e ∧ B p = 32
  case neg =>
    rw [if_neg h32] at h
    have h' := Sum.inl.inj h
    rw [← h']
    exact kt_f_ne 1 (by decide) (by decide) _ (by omega)
  rw [if_pos h32] at h
  have hq := kt_q_le (B := B) h32.1
  by_cases hd0 : kt_rl (kt_d B e) e (kt_q B e p) = 0
  · rw [if_pos hd0] at h
    have h' := Sum.inl.inj h
    rw [← h']
    exact kt_f_ne 1 (by decide) (by decide) _ (by omega)
  rw [if_neg hd0] at h
  by_cases hd10 : 10 < kt_rl (kt_d B e) e (kt_q B e p)
  · rw [if_pos hd10] at h
    have h' := Sum.inl.inj h
    rw [← h']
    exact kt_f_ne 2 (by decide) (by decide) _ (by omega)
  rw [if_neg hd10] at h
  dsimp only at h
  generalize (if kt_s B e (p + 1) = true then -(kt_dv B (kt_q B e p) (kt_rl (kt_d B e) e (kt_q B e p))) else kt_dv B (kt_q B e p) (kt_rl (kt_d B e) e (kt_q B e p))) = u at h
  by_cases hin : lo ≤ u ∧ u ≤ hi
  · rw [if_pos hin] at h
    cases h
  · rw [if_neg hin] at h
    have h' := Sum.inl.inj h
    rw [← h']
    exact kt_f_ne 3 (by decide) (by decide) _ (by omega)
theorem kt_of32 {a b : Int} (ha : -1000000000 ≤ a ∧ a ≤ 1000000000) (hb : -1000000000 ≤ b ∧ b ≤ 1000000000) : (Int32.ofInt a = Int32.ofInt b) = (a = b) := by
  refine propext ⟨fun h => ?_, fun h => by rw [h]⟩
  have h1 : (Int32.ofInt a).toInt = (Int32.ofInt b).toInt := by rw [h]
  rw [Int32.toInt_ofInt_of_le (by omega) (by omega), Int32.toInt_ofInt_of_le (by omega) (by omega)] at h1
  exact h1
theorem kt_bnd {tw c : Nat} {v : Int} (htw : tw ≤ 12) (h : kt_lo c ≤ v ∧ v ≤ kt_hi tw c) : -1000000000 ≤ v ∧ v ≤ 1000000000 := by
  unfold kt_lo kt_hi at h
  by_cases c1 : c = 110
  · rw [if_pos c1, if_pos c1] at h; omega
  rw [if_neg c1, if_neg c1] at h
  by_cases c2 : c = 108
  · rw [if_pos c2, if_pos c2] at h; omega
  rw [if_neg c2, if_neg c2] at h
  by_cases c3 : c = 114
  · rw [if_pos c3] at h; omega
  rw [if_neg c3] at h; omega
/-- what the class leaves as it is where it reads numbers -/
def kx_C (b : Nat) (σ τ : kw_M) : Prop := τ.2 = σ.2 ∧ (∀ c, c ≠ 4 → c ≠ 37 → τ.1 c = σ.1 c) ∧ (∀ j, j ≠ 6 → j ≠ 7 → τ.1 4 j = σ.1 4 j) ∧ ∀ s, s < b → τ.1 37 s = σ.1 37 s
theorem kx_C_N {b : Nat} {σ τ : kw_M} (h : kx_N σ τ) : kx_C b σ τ := ⟨h.1, fun c h1 _ => h.2.1 c h1, h.2.2, fun s _ => by rw [h.2.1 37 (by decide)]⟩
theorem kx_C_t {b b' : Nat} {x y z : kw_M} (h : kx_C b x y) (g : kx_C b' y z) (hb : b ≤ b') : kx_C b x z := ⟨g.1.trans h.1, fun c h1 h2 => (g.2.1 c h1 h2).trans (h.2.1 c h1 h2), fun j h1 h2 => (g.2.2.1 j h1 h2).trans (h.2.2.1 j h1 h2), fun s hs => (g.2.2.2 s (by omega)).trans (h.2.2.2 s hs)⟩
theorem kx_C_37 {b s : Nat} {σ : kw_M} {x : Int32} (hb : b ≤ s) : kx_C b σ (kw_si σ 37 s x) := ⟨rfl, fun c _ h2 => kw_si_o h2, fun j _ _ => by rw [kw_si_o (by decide)], fun i hi => by rw [kw_si_1, kw_upd_n (by omega)]⟩
theorem kx_stop {τ : kw_M} {k i len c2 N : Nat} (hsl : kw_fsl c2 = some (nI len)) (hi : i ≤ len) (hlen : len ≤ 3) (h7 : ¬ τ.1 4 7 = 0) : kw_loop (fun s => bX3_readClause_26 (nI k) c2 s.1 s.2) (N + 1) (nI i, τ) = some τ := by
  rw [kw_loop_s]
  dsimp only
  unfold bX3_readClause_26
  rw [hsl, Option.bind_some]
  by_cases q : len ≤ i
  · rw [if_pos (nI_le q (by omega)), Option.bind_some]
  · rw [if_neg (nI_ge (by omega) (by omega)), if_neg h7, Option.bind_some]
theorem kx_nums {B : Nat → Nat} {e tw k c2 len : Nat} {C : Nat → Nat} (hB : kt_B B e) (htw : 2 ≤ tw ∧ tw ≤ 12) (hk : k < 24) (hlen : len ≤ 3) (hsl : kw_fsl c2 = some (nI len)) (hsc : ∀ i, i < len → kw_fsc c2 (nI i) = some (nI (C i))) (hC : ∀ i, i < len → C i = 108 ∨ C i = 114 ∨ C i = 116) : ∀ (cs : List Nat) (i : Nat) (prev : Int) (p : Nat) (σ : kw_M) (N : Nat), i + cs.length = len → (∀ j, j < cs.length → cs.getD j 0 = C (i + j)) → p ≤ e → kx_T σ B e p tw → (i = 1 → σ.1 37 (3 * k) = Int32.ofInt prev ∧ -1000000000 ≤ prev ∧ prev ≤ 1000000000) → cs.length + 2 ≤ N → ∃ τ, kw_loop (fun s => bX3_readClause_26 (nI k) c2 s.1 s.2) N (nI i, σ) = some τ ∧ kx_C (3 * k + i) σ τ ∧ (∀ f, kt_nums tw B e cs i prev p = .inl f → τ.1 4 7 = f ∧ ¬ f = 0) ∧ (∀ vs q, kt_nums tw B e cs i prev p = .inr (vs, q) → τ.1 4 6 = nI q ∧ τ.1 4 7 = 0 ∧ q ≤ e ∧ vs.length = cs.length ∧ ∀ j, j < cs.length → τ.1 37 (3 * k + i + j) = Int32.ofInt (vs.getD j 0))
  | [], i, prev, p, σ, N, hi, _, hp, T, _, hN => by
    obtain ⟨N, rfl⟩ : ∃ M, N = M + 1 := ⟨N - 1, by omega⟩
    have hi' : i = len := hi
    refine ⟨σ, ?_, kx_C_N (kx_N_r σ), fun f hf => (by cases hf), fun vs q hq => ?_⟩
    · rw [kw_loop_s]
      dsimp only
      unfold bX3_readClause_26
      rw [hsl, Option.bind_some, if_pos (nI_le (by omega) (by omega)), Option.bind_some]
    · have hq' : (Sum.inr ([], p) : Int32 ⊕ (List Int × Nat)) = .inr (vs, q) := hq
      have h' := Sum.inr.inj hq'
      have e1 : [] = vs := congrArg Prod.fst h'
      have e2 : p = q := congrArg Prod.snd h'
      subst e1 e2
      exact ⟨T.2.2.1, T.2.2.2.1, hp, rfl, fun j hj => absurd hj (Nat.not_lt_zero _)⟩
  | c :: cs, i, prev, p, σ, N, hi, hc, hp, T, hpv, hN => by
    rw [List.length_cons] at hi hN
    obtain ⟨N, rfl⟩ : ∃ M, N = M + 1 + 1 := ⟨N - 2, by omega⟩
    have hcC : c = C i := hc 0 (by rw [List.length_cons]; omega)
    have hcs : ∀ j, j < cs.length → cs.getD j 0 = C (i + 1 + j) := fun j hj => by
      have := hc (j + 1) (by rw [List.length_cons]; omega)
      rw [show i + 1 + j = i + (j + 1) by omega]
      exact this
    have hcc := hC i (by omega)
    have he := hB.1
    rw [← hcC] at hcc
    obtain ⟨n1, n2⟩ := kx_number (ch := nI c) (lo := kt_lo c) (hi := kt_hi tw c) hB hp T hk (show i < 3 by omega) (fun v τ h1 h2 h3 => kx_told htw.2 (by omega) v τ h1 h2 h3)
    have step : ∀ τ, fX3_readNumber (nI k) (nI i) (nI c) σ = some τ → kw_loop (fun s => bX3_readClause_26 (nI k) c2 s.1 s.2) (N + 1 + 1) (nI i, σ) = kw_loop (fun s => bX3_readClause_26 (nI k) c2 s.1 s.2) (N + 1) (nI (i + 1), τ) := fun τ hτ => by
      rw [kw_loop_s]
      dsimp only
      unfold bX3_readClause_26
      rw [hsl, Option.bind_some, if_neg (nI_ge (by omega) (by omega)), T.2.2.2.1, if_pos rfl, hsc i (by omega), Option.bind_some, ← hcC, hτ, Option.bind_some, kw_let_def, km_next, Option.bind_some]
    cases hn : kt_n (kt_lo c) (kt_hi tw c) B e p with
    | inl f =>
      obtain ⟨τ, t1, t2, t3⟩ := n1 f hn
      have hf0 := kt_n_ne hB hp hn
      rw [step τ t1, kx_stop hsl (by omega) hlen (by rw [t3]; exact hf0), kt_nums_l hn]
      refine ⟨τ, rfl, kx_C_N t2, fun g hg => ?_, fun vs q hq => (by cases hq)⟩
      obtain rfl := Sum.inl.inj hg
      exact ⟨t3, hf0⟩
    | inr vq =>
      obtain ⟨v, q⟩ := vq
      obtain ⟨τ, t1, t2, t3, t4⟩ := n2 v q hn
      obtain ⟨hin, hpq, hqe⟩ := kt_n_in hn
      have hbv := kt_bnd htw.2 hin
      have hne : ¬ nI c = (110 : Int32) := by
        rw [show (110 : Int32) = nI 110 by decide, kn_eq (by omega) (by decide)]
        omega
      rw [if_neg hne] at t4
      have fr : kx_C (3 * k + i) σ (kw_si τ 37 (3 * k + i) (Int32.ofInt v)) := kx_C_t (kx_C_N t1) (kx_C_37 (Nat.le_refl _)) (Nat.le_refl _)
      by_cases h6 : c = 116 ∧ i = 1 ∧ prev = v
      · rw [kt_nums_6 hn h6]
        obtain ⟨rfl, rfl, rfl⟩ := h6
        obtain ⟨p1, p2, p3⟩ := hpv rfl
        have e1 : fX3_readNumber (nI k) (nI 1) (nI 116) σ = some (kw_si (kw_si τ 37 (3 * k + 1) (Int32.ofInt prev)) 4 7 (kt_f 6 (p + 1))) := by
          rw [t4]
          unfold jX3_readNumber_113
          rw [if_pos (show nI 116 = (116 : Int32) by decide), if_pos (show nI 1 = (1 : Int32) by decide), kn_m1, kn_chk (show 3 * k < 72 by omega) (by decide), kn_chk (show 3 * k + 1 < 72 by omega) (by decide), kn_clamp (by omega), kn_clamp (by omega), kw_si_1, kw_upd_e, kw_upd_n (by omega), t1.2.1 37 (by decide), p1, if_pos rfl, kx_tell6, Option.bind_some]
        have hf0 := kt_f_ne 6 (by decide) (by decide) (p + 1) (by omega)
        rw [step _ e1, kx_stop hsl (by omega) hlen (by rw [kw_si_1, kw_upd_e]; exact hf0)]
        refine ⟨_, rfl, kx_C_t fr (kx_C_N (kx_N_si (Or.inr rfl))) (Nat.le_refl _), fun g hg => ?_, fun vs q hq => (by cases hq)⟩
        obtain rfl := Sum.inl.inj hg
        exact ⟨by rw [kw_si_1, kw_upd_e], hf0⟩
      · have e1 : fX3_readNumber (nI k) (nI i) (nI c) σ = some (kw_si τ 37 (3 * k + i) (Int32.ofInt v)) := by
          rw [t4]
          unfold jX3_readNumber_113
          by_cases c116 : c = 116
          · rw [if_pos (by rw [c116]; decide)]
            by_cases i1 : i = 1
            · obtain ⟨p1, p2, p3⟩ := hpv i1
              have hne2 : ¬ Int32.ofInt prev = Int32.ofInt v := by
                rw [kt_of32 ⟨p2, p3⟩ hbv]
                exact fun z => h6 ⟨c116, i1, z⟩
              rw [if_pos (by rw [i1]; decide), i1, kn_m1, kn_chk (show 3 * k < 72 by omega) (by decide), kn_chk (show 3 * k + 1 < 72 by omega) (by decide), kn_clamp (by omega), kn_clamp (by omega), kw_si_1, kw_upd_e, kw_upd_n (by omega), t1.2.1 37 (by decide), p1, if_neg hne2]
            · rw [if_neg (by
                rw [show (1 : Int32) = nI 1 by decide, kn_eq (by omega) (by decide)]
                exact i1)]
          · rw [if_neg (by
              rw [show (116 : Int32) = nI 116 by decide, kn_eq (by omega) (by decide)]
              exact c116)]
        have T1 : kx_T (kw_si τ 37 (3 * k + i) (Int32.ofInt v)) B e q tw := by
          obtain ⟨g1, g2, g3, g4, g5, g6⟩ := kx_T_N T t1 t2 t3
          exact ⟨by rw [kw_si_o (by decide)]; exact g1, by rw [kw_si_o (by decide)]; exact g2, by rw [kw_si_o (by decide)]; exact g3, by rw [kw_si_o (by decide)]; exact g4, by rw [kw_si_o (by decide)]; exact g5, fun s hs => by rw [kw_si_o (by decide)]; exact g6 s hs⟩
        obtain ⟨τ2, u1, u2, u3, u4⟩ := kx_nums hB htw hk hlen hsl hsc hC cs (i + 1) v q (kw_si τ 37 (3 * k + i) (Int32.ofInt v)) (N + 1) (by omega) hcs hqe T1 (fun h1 => by
          have i0 : i = 0 := by omega
          rw [i0, Nat.add_zero, kw_si_1, kw_upd_e]
          exact ⟨rfl, hbv.1, hbv.2⟩) (by omega)
        rw [step _ e1, u1, kt_nums_r hn h6]
        refine ⟨τ2, rfl, kx_C_t fr u2 (by omega), fun g hg => ?_, fun vs q' hq => ?_⟩
        · cases hr : kt_nums tw B e cs (i + 1) v q with
          | inl f =>
            rw [hr] at hg
            have h' : f = g := Sum.inl.inj hg
            rw [← h']
            exact u3 f hr
          | inr w =>
            rw [hr] at hg
            obtain ⟨ws, q2⟩ := w
            cases hg
        · cases hr : kt_nums tw B e cs (i + 1) v q with
          | inl f =>
            rw [hr] at hq
            cases hq
          | inr w =>
            rw [hr] at hq
            obtain ⟨ws, q2⟩ := w
            have h' : (v :: ws, q2) = (vs, q') := Sum.inr.inj hq
            have d1 : v :: ws = vs := congrArg Prod.fst h'
            have d2 : q2 = q' := congrArg Prod.snd h'
            obtain ⟨w1, w2, w3, w4, w5⟩ := u4 ws q2 hr
            subst d1 d2
            refine ⟨w1, w2, w3, by rw [List.length_cons, List.length_cons, w4], fun j hj => ?_⟩
            rw [List.length_cons] at hj
            cases j with
            | zero =>
              rw [Nat.add_zero, u2.2.2.2 (3 * k + i) (by omega), kw_si_1, kw_upd_e]
              rfl
            | succ j =>
              rw [show 3 * k + i + (j + 1) = 3 * k + (i + 1) + j by omega]
              exact w5 j (by omega)
