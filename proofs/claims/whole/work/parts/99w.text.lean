/-! Texts: both sides read a text alike. -/
def kx_E (σ τ : kw_M) : Prop := τ.2 = σ.2 ∧ ∀ c, c ≠ 4 → c ≠ 36 → c ≠ 37 → τ.1 c = σ.1 c
def km_E (σ τ : kw_M) : Prop := (∀ c, c ≠ 0 → c ≠ 7 → τ.1 c = σ.1 c) ∧ (∀ c, c ≠ 0 → c ≠ 6 → τ.2 c = σ.2 c) ∧ ∀ j, j ≠ 7 → j ≠ 9 → j ≠ 10 → j ≠ 11 → j ≠ 12 → j ≠ 17 → τ.1 0 j = σ.1 0 j
theorem kx_E_r (σ : kw_M) : kx_E σ σ := ⟨rfl, fun _ _ _ _ => rfl⟩
theorem kx_E_t {x y z : kw_M} (h : kx_E x y) (g : kx_E y z) : kx_E x z := ⟨g.1.trans h.1, fun c h1 h2 h3 => (g.2 c h1 h2 h3).trans (h.2 c h1 h2 h3)⟩
theorem kx_E_D {k : Nat} {σ τ : kw_M} (h : kx_D k σ τ) : kx_E σ τ := ⟨h.1, h.2.1⟩
theorem kx_E_4 {σ : kw_M} {j : Nat} {x : Int32} : kx_E σ (kw_si σ 4 j x) := ⟨rfl, fun c h1 _ _ => kw_si_o h1⟩
theorem km_E_r (σ : kw_M) : km_E σ σ := ⟨fun _ _ _ => rfl, fun _ _ _ => rfl, fun _ _ _ _ _ _ _ => rfl⟩
theorem km_E_t {x y z : kw_M} (h : km_E x y) (g : km_E y z) : km_E x z := ⟨fun c h1 h2 => (g.1 c h1 h2).trans (h.1 c h1 h2), fun c h1 h2 => (g.2.1 c h1 h2).trans (h.2.1 c h1 h2), fun j h1 h2 h3 h4 h5 h6 => (g.2.2 j h1 h2 h3 h4 h5 h6).trans (h.2.2 j h1 h2 h3 h4 h5 h6)⟩
theorem km_E_D {k : Nat} {σ τ : kw_M} (h : km_D k σ τ) : km_E σ τ := ⟨h.1, h.2.1, h.2.2.1⟩
theorem km_E_N {σ τ : kw_M} (h : km_N σ τ) : km_E σ τ := ⟨fun c h1 _ => h.1 c h1, fun c h1 _ => h.2.1 c h1, fun j h1 h2 h3 h4 _ _ => h.2.2 j h1 h2 h3 h4⟩
/-- what stands where a text was read: a fault alike, or clauses alike -/
def kt_End (net : Bool) (σX σM : kw_M) (v5 : Int32) (τX : kw_M) (b : Int32) (τM : kw_M) : Prop := kx_E σX τX ∧ km_E σM τM ∧ ((b = 0 ∧ ∃ f ρ, ¬ f = 0 ∧ jX3_readText_68 v5 τX = some (f, ρ) ∧ kx_E σX ρ ∧ τM.1 0 9 = f) ∨ (b = 1 ∧ v5 = 0 ∧ τX.1 4 7 = 0 ∧ ∃ K tw, K ≤ 24 ∧ (2 ≤ tw ∧ tw ≤ 12) ∧ τX.1 4 1 = nI K ∧ τM.1 0 12 = nI K ∧ τX.1 4 0 = nI tw ∧ (net = true → τM.1 0 17 = nI tw) ∧ (net = false → τM.1 1 0 = nI tw) ∧ ∀ i, i < K → kt_C net tw τX τM i))
theorem kx_stopX {N k : Nat} {τ : kw_M} (hk : k < 2147483648) : kw_loop (fun s => bX3_readText_42 s.1 s.2.1 s.2.2) (N + 1) ((0 : Int32), nI k, τ) = some ((0 : Int32), τ) := by
  rw [kw_loop_s]
  dsimp only
  unfold bX3_readText_42
  by_cases h : (24 : Int32) ≤ nI k
  · rw [if_pos h, Option.bind_some]
  · rw [if_neg h, if_pos rfl, Option.bind_some]
theorem km_stopM {N : Nat} {a2 : Int32} {τ : kw_M} : kw_loop (fun s => bX10_readsText_31 a2 s.1 s.2) (N + 1) ((0 : Int32), τ) = some ((0 : Int32), τ) := by
  rw [kw_loop_s]
  dsimp only
  unfold bX10_readsText_31
  rw [if_pos rfl, Option.bind_some]
theorem kt_C_f {net : Bool} {tw i : Nat} {σX σM τX τM : kw_M} (h : kt_C net tw σX σM i) (h36 : τX.1 36 = σX.1 36) (h37 : τX.1 37 = σX.1 37) (h6 : τM.2 6 = σM.2 6) (h7 : τM.1 7 = σM.1 7) : kt_C net tw τX τM i := by
  unfold kt_C at h ⊢
  rw [h36, h37, h6, h7]
  exact h
theorem kt_loop {net : Bool} {B : Nat → Nat} {e : Nat} (hB : kt_B B e) : ∀ (j k p tw : Nat) (σX σM : kw_M) (N N' : Nat), k + j = 24 → kt_R net B e k p tw σX σM → j + 2 ≤ N → j + 3 ≤ N' → ∃ v5 τX b ρ b' τM, kw_loop (fun s => bX3_readText_42 s.1 s.2.1 s.2.2) N ((1 : Int32), nI k, σX) = some (v5, τX) ∧ fX10_readsClause (kx_fl net) σM = some (b, ρ) ∧ (b = 0 ∨ b = 1) ∧ kw_loop (fun s => bX10_readsText_31 (kx_fl net) s.1 s.2) N' (b, ρ) = some (b', τM) ∧ kt_End net σX σM v5 τX b' τM
  | 0, k, p, tw, σX, σM, N, N', hk, R, hN, hN' => by
    obtain ⟨N, rfl⟩ : ∃ M, N = M + 1 := ⟨N - 1, by omega⟩
    obtain ⟨N', rfl⟩ : ∃ M, N' = M + 1 := ⟨N' - 1, by omega⟩
    obtain ⟨hp, htw, TX, TM, h8, h12, h17, h10, hC⟩ := R
    have he := hB.1
    have k24 : k = 24 := by omega
    have hf0 := kt_f_ne 4 (by decide) (by decide) p (by omega)
    refine ⟨1, σX, 0, kw_si σM 0 9 (kt_f 4 p), 0, kw_si σM 0 9 (kt_f 4 p), ?_, ?_, Or.inl rfl, km_stopM, kx_E_r _, km_E_N (km_N_si (Or.inr (Or.inl rfl))), Or.inl ⟨rfl, kt_f 4 p, kw_si σX 4 7 (kt_f 4 p), hf0, ?_, kx_E_4, by rw [kw_si_1, kw_upd_e]⟩⟩
    · rw [kw_loop_s]
      dsimp only
      unfold bX3_readText_42
      rw [if_pos (by rw [k24]; decide), Option.bind_some]
    · unfold fX10_readsClause
      rw [h12, if_pos (by rw [k24]; decide), TM.2.1, km_wrong4, Option.bind_some]
      dsimp only
      rw [kw_chk_t (Or.inl rfl)]
    · unfold jX3_readText_68
      rw [if_neg (show ¬ (1 : Int32) = 0 by decide), TX.2.2.1, kx_tell4, Option.bind_some, kw_si_1, kw_upd_e]
  | j + 1, k, p, tw, σX, σM, N, N', hk, R, hN, hN' => by
    obtain ⟨N, rfl⟩ : ∃ M, N = M + 1 + 1 := ⟨N - 2, by omega⟩
    obtain ⟨N', rfl⟩ : ∃ M, N' = M + 1 + 1 := ⟨N' - 2, by omega⟩
    have he := hB.1
    have hk24 : k < 24 := by omega
    have step : ∀ g τ, fX3_readClause (nI k) σX = some (g, τ) → kw_loop (fun s => bX3_readText_42 s.1 s.2.1 s.2.2) (N + 1 + 1) ((1 : Int32), nI k, σX) = kw_loop (fun s => bX3_readText_42 s.1 s.2.1 s.2.2) (N + 1) (g, nI (k + 1), τ) := fun g τ hτ => by
      rw [kw_loop_s]
      dsimp only
      unfold bX3_readText_42
      rw [if_neg (by rw [show (24 : Int32) = nI 24 by decide, kn_le (by omega) (by omega)]; omega), if_neg (show ¬ (1 : Int32) = 0 by decide), hτ, Option.bind_some, kw_let_def, km_next, Option.bind_some]
    rcases kt_clause hB hk24 R with ⟨f, τX, τM, hf0, x1, x2, x3, m1, m2, m3⟩ | ⟨q, tw', τX, τM, x1, x3, m1, m3, R'⟩
    · refine ⟨0, τX, 0, τM, 0, τM, by rw [step _ _ x1, kx_stopX (by omega)], m1, Or.inl rfl, km_stopM, kx_E_D x3, km_E_D m3, Or.inl ⟨rfl, f, τX, hf0, ?_, kx_E_D x3, m2⟩⟩
      unfold jX3_readText_68
      rw [if_pos rfl, x2]
    · obtain ⟨hq, htw', TX, TM, h8, h12, h17, h10, hC⟩ := R'
      obtain ⟨g1, g2, g3, g4, g5, g6⟩ := TX
      have e1 : (kw_si τX 4 1 (nI (k + 1))).1 4 6 = nI q := by rw [kw_si_1, kw_upd_n (by decide)]; exact g3
      have e2 : (kw_si τX 4 1 (nI (k + 1))).1 4 5 = nI e := by rw [kw_si_1, kw_upd_n (by decide)]; exact g2
      have e3 : (kw_si τX 4 1 (nI (k + 1))).1 4 4 = 35 := by rw [kw_si_1, kw_upd_n (by decide)]; exact g1
      have e4 : (kw_si τX 4 1 (nI (k + 1))).1 4 7 = 0 := by rw [kw_si_1, kw_upd_n (by decide)]; exact g4
      have e5 : (kw_si τX 4 1 (nI (k + 1))).1 4 0 = nI tw' := by rw [kw_si_1, kw_upd_n (by decide)]; exact g5
      have e6 : ∀ i, i < e → (kw_si τX 4 1 (nI (k + 1))).1 35 i = nI (B i) := fun i hi => by rw [kw_si_o (by decide)]; exact g6 i hi
      have EX : kx_E σX (kw_si τX 4 1 (nI (k + 1))) := kx_E_t (kx_E_D x3) kx_E_4
      have body : ∀ (ρ : kw_M) (b : Int32), bX10_readsText_31 (kx_fl net) (1 : Int32) τM = some (.inl (b, ρ)) → kw_loop (fun s => bX10_readsText_31 (kx_fl net) s.1 s.2) (N' + 1 + 1) ((1 : Int32), τM) = kw_loop (fun s => bX10_readsText_31 (kx_fl net) s.1 s.2) (N' + 1) (b, ρ) := fun ρ b hb => by
        rw [kw_loop_s]
        dsimp only
        rw [hb, Option.bind_some]
      by_cases hE : q < e
      case neg =>
        -- the end
        have eX : fX3_readClause (nI k) σX = some (0, kw_si τX 4 1 (nI (k + 1))) := by
          rw [x1]
          unfold jX3_readClause_58
          rw [g4, if_pos rfl, km_next, kw_let_def, e1, e2, if_neg (by rw [kn_lt (by omega) (by omega)]; exact hE)]
        refine ⟨0, kw_si τX 4 1 (nI (k + 1)), 1, τM, 1, τM, by rw [step _ _ eX, kx_stopX (by omega)], m1, Or.inr rfl, ?_, EX, km_E_D m3, Or.inr ⟨rfl, rfl, e4, k + 1, tw', by omega, htw', by rw [kw_si_1, kw_upd_e], h12, e5, h17, h10, fun i hi => kt_C_f (hC i hi) (kw_si_o (by decide)) (kw_si_o (by decide)) rfl rfl⟩⟩
        rw [kw_loop_s]
        dsimp only
        unfold bX10_readsText_31
        rw [if_neg (show ¬ (1 : Int32) = 0 by decide), TM.1, TM.2.1, if_pos (nI_le (by omega) (by omega)), Option.bind_some]
      have hb := hB.2 q
      have hM0 : bX10_readsText_31 (kx_fl net) (1 : Int32) τM = ((fX10_takesSign (59 : Int32) τM).bind fun r9 => if r9.1 = (0 : Int32) then (some (.inl ((0 : Int32), r9.2))) else (fX10_readsClause (kx_fl net) r9.2).bind fun r11 => if r11.1 = (0 : Int32) then (some (.inl ((0 : Int32), r11.2))) else some (.inl ((1 : Int32), r11.2))) := by
        unfold bX10_readsText_31
        rw [if_neg (show ¬ (1 : Int32) = 0 by decide), TM.1, TM.2.1, if_neg (nI_ge hE (by omega))]
      have hs : fX10_takesSign (59 : Int32) τM = (if q < e ∧ B q = 59 then some ((1 : Int32), kw_si τM 0 7 (nI (q + 1))) else some ((0 : Int32), kw_si τM 0 9 (kt_f 1 q))) := by
        unfold fX10_takesSign
        rw [km_here hB hq TM, Option.bind_some, show (59 : Int32) = nI 59 by decide]
        simp only [kt_c_eq hB (show 59 < 256 by decide)]
        rw [TM.2.1, km_next, kw_let_def, km_wrong1, Option.bind_some]
        dsimp only
        rw [kw_chk_t (Or.inl rfl)]
      by_cases h59 : B q = 59
      case neg =>
        have hf0 := kt_f_ne 1 (by decide) (by decide) q (by omega)
        have eX : fX3_readClause (nI k) σX = some (0, kw_si (kw_si τX 4 1 (nI (k + 1))) 4 7 (kt_f 1 q)) := by
          rw [x1]
          unfold jX3_readClause_58
          rw [g4, if_pos rfl, km_next, kw_let_def, e1, e2, if_pos (by rw [kn_lt (by omega) (by omega)]; exact hE), kw_chk_t e3, kn_chk (show q < 240 by omega) (by decide), kn_clamp (by omega), e6 q hE, if_neg (by rw [show (59 : Int32) = nI 59 by decide, kn_eq (by omega) (by omega)]; exact h59), kx_tell1, Option.bind_some]
        have eM : bX10_readsText_31 (kx_fl net) (1 : Int32) τM = some (.inl ((0 : Int32), kw_si τM 0 9 (kt_f 1 q))) := by
          rw [hM0, hs, if_neg (fun z => h59 z.2), Option.bind_some]
          dsimp only
          rw [if_pos rfl]
        refine ⟨0, kw_si (kw_si τX 4 1 (nI (k + 1))) 4 7 (kt_f 1 q), 1, τM, 0, kw_si τM 0 9 (kt_f 1 q), by rw [step _ _ eX, kx_stopX (by omega)], m1, Or.inr rfl, by rw [body _ _ eM, km_stopM], kx_E_t EX kx_E_4, km_E_t (km_E_D m3) (km_E_N (km_N_si (Or.inr (Or.inl rfl)))), Or.inl ⟨rfl, kt_f 1 q, kw_si (kw_si τX 4 1 (nI (k + 1))) 4 7 (kt_f 1 q), hf0, ?_, kx_E_t EX kx_E_4, by rw [kw_si_1, kw_upd_e]⟩⟩
        unfold jX3_readText_68
        rw [if_pos rfl, kw_si_1, kw_upd_e]
      · -- a next clause
        have eX : fX3_readClause (nI k) σX = some (1, kw_si (kw_si τX 4 1 (nI (k + 1))) 4 6 (nI (q + 1))) := by
          rw [x1]
          unfold jX3_readClause_58
          rw [g4, if_pos rfl, km_next, kw_let_def, e1, e2, if_pos (by rw [kn_lt (by omega) (by omega)]; exact hE), kw_chk_t e3, kn_chk (show q < 240 by omega) (by decide), kn_clamp (by omega), e6 q hE, h59, if_pos (by decide), km_next, kw_let_def]
        have R2 : kt_R net B e (k + 1) (q + 1) tw' (kw_si (kw_si τX 4 1 (nI (k + 1))) 4 6 (nI (q + 1))) (kw_si τM 0 7 (nI (q + 1))) := by
          refine ⟨by omega, htw', ⟨?_, ?_, ?_, ?_, ?_, fun i hi => ?_⟩, km_T_N TM (km_N_si (Or.inl rfl)) (by rw [kw_si_1, kw_upd_e]), ?_, ?_, fun hn => ?_, fun hn => ?_, fun i hi => kt_C_f (hC i hi) (by rw [kw_si_o (by decide), kw_si_o (by decide)]) (by rw [kw_si_o (by decide), kw_si_o (by decide)]) rfl (by rw [kw_si_o (by decide)])⟩
          · rw [kw_si_1, kw_upd_n (by decide)]; exact e3
          · rw [kw_si_1, kw_upd_n (by decide)]; exact e2
          · rw [kw_si_1, kw_upd_e]
          · rw [kw_si_1, kw_upd_n (by decide)]; exact e4
          · rw [kw_si_1, kw_upd_n (by decide)]; exact e5
          · rw [kw_si_o (by decide)]; exact e6 i hi
          · rw [kw_si_1, kw_upd_n (by decide), kw_si_1, kw_upd_n (by decide)]; exact h8
          · rw [kw_si_1, kw_upd_n (by decide)]; exact h12
          · rw [kw_si_1, kw_upd_n (by decide)]; exact h17 hn
          · rw [kw_si_o (by decide)]; exact h10 hn
        obtain ⟨v5, ρX, b, ρ, b', ρM, i1, i2, i3, i4, i5, i6, i7⟩ := kt_loop hB j (k + 1) (q + 1) tw' _ _ (N + 1) (N' + 1) (by omega) R2 (by omega) (by omega)
        have eM : bX10_readsText_31 (kx_fl net) (1 : Int32) τM = some (.inl (b, ρ)) := by
          rw [hM0, hs, if_pos ⟨hE, h59⟩, Option.bind_some]
          dsimp only
          rw [if_neg (show ¬ (1 : Int32) = 0 by decide), i2, Option.bind_some]
          dsimp only
          rcases i3 with rfl | rfl
          · rw [if_pos rfl]
          · rw [if_neg (show ¬ (1 : Int32) = 0 by decide)]
        have EX2 : kx_E σX ρX := kx_E_t EX (kx_E_t kx_E_4 i5)
        have EM2 : km_E σM ρM := km_E_t (km_E_D m3) (km_E_t (km_E_N (km_N_si (Or.inl rfl))) i6)
        refine ⟨v5, ρX, 1, τM, b', ρM, by rw [step _ _ eX]; exact i1, m1, Or.inr rfl, by rw [body _ _ eM]; exact i4, EX2, EM2, ?_⟩
        rcases i7 with ⟨z1, f, ν, z2, z3, z4, z5⟩ | z
        · exact Or.inl ⟨z1, f, ν, z2, z3, kx_E_t EX (kx_E_t kx_E_4 z4), z5⟩
        · exact Or.inr z
/-- both sides read a text alike -/
theorem kt_text {net : Bool} {B : Nat → Nat} {e tw : Nat} {σX σM : kw_M} (hB : kt_B B e) (htw : 2 ≤ tw ∧ tw ≤ 12) (hX : ∀ i, i < e → σX.1 35 i = nI (B i)) (hM : ∀ i, i < e → σM.1 5 i &&& 255 = nI (B i)) (hn1 : net = true → tw = 2) (hn0 : net = false → σM.1 1 0 = nI tw) : ∃ f τX b τM, fX3_readText (nI e) (kx_fl net) (nI tw) σX = some (f, τX) ∧ fX10_readsText (nI e) (kx_fl net) σM = some (b, τM) ∧ kx_E σX τX ∧ ((∀ c, c ≠ 0 → c ≠ 7 → τM.1 c = σM.1 c) ∧ (∀ c, c ≠ 0 → c ≠ 6 → τM.2 c = σM.2 c) ∧ τM.1 0 1 = σM.1 0 1 ∧ τM.1 0 6 = 0) ∧ ((b = 0 ∧ ¬ f = 0 ∧ τM.1 0 9 = f) ∨ (b = 1 ∧ f = 0 ∧ ∃ K tw, K ≤ 24 ∧ (2 ≤ tw ∧ tw ≤ 12) ∧ τX.1 4 1 = nI K ∧ τM.1 0 12 = nI K ∧ τX.1 4 0 = nI tw ∧ (net = true → τM.1 0 17 = nI tw) ∧ (net = false → τM.1 1 0 = nI tw) ∧ ∀ i, i < K → kt_C net tw τX τM i)) := by
  unfold fX3_readText fX10_readsText
  simp only [kw_let_def]
  rw [kn_chkB]
  have R0 : kt_R net B e 0 0 tw (kw_si (kw_si (kw_si (kw_si (kw_si (kw_si (kw_si σX 4 4 35) 4 5 (nI e)) 4 6 0) 4 7 0) 4 8 (kx_fl net)) 4 0 (nI tw)) 4 1 0) (kw_si (kw_si (kw_si (kw_si (kw_si σM 0 7 0) 0 8 (nI e)) 0 6 0) 0 12 0) 0 17 2) := by
    refine ⟨Nat.zero_le _, htw, ⟨?_, ?_, ?_, ?_, ?_, fun i hi => ?_⟩, ⟨?_, ?_, fun i hi => ?_⟩, ?_, ?_, fun hn => ?_, fun hn => ?_, fun i hi => absurd hi (Nat.not_lt_zero _)⟩
    · simp [kw_si_1, upd]
    · simp [kw_si_1, upd]
    · simp [kw_si_1, upd]; rfl
    · simp [kw_si_1, upd]
    · simp [kw_si_1, upd]
    · simp [kw_si_o]; exact hX i hi
    · simp [kw_si_1, upd]
    · simp [kw_si_1, upd]; rfl
    · simp [kw_si_o]; exact hM i hi
    · simp [kw_si_1, upd]
    · simp [kw_si_1, upd]; rfl
    · rw [hn1 hn]; simp [kw_si_1, upd]; rfl
    · simp [kw_si_o]; exact hn0 hn
  obtain ⟨v5, τX, b, ρ, b', τM, i1, i2, i3, i4, i5, i6, i7⟩ := kt_loop (net := net) hB 24 0 0 tw _ _ kw_F kw_F (by decide) R0 (by unfold kw_F; omega) (by unfold kw_F; omega)
  have i1' : kw_loop (fun s => bX3_readText_42 s.1 s.2.1 s.2.2) kw_F ((1 : Int32), (0 : Int32), kw_si (kw_si (kw_si (kw_si (kw_si (kw_si (kw_si σX 4 4 35) 4 5 (nI e)) 4 6 0) 4 7 0) 4 8 (kx_fl net)) 4 0 (nI tw)) 4 1 0) = some (v5, τX) := i1
  rw [i1', i2, Option.bind_some, Option.bind_some]
  dsimp only
  rw [i4, Option.bind_some]
  have EX : kx_E σX (kw_si (kw_si (kw_si (kw_si (kw_si (kw_si (kw_si σX 4 4 35) 4 5 (nI e)) 4 6 0) 4 7 0) 4 8 (kx_fl net)) 4 0 (nI tw)) 4 1 0) := kx_E_t kx_E_4 (kx_E_t kx_E_4 (kx_E_t kx_E_4 (kx_E_t kx_E_4 (kx_E_t kx_E_4 (kx_E_t kx_E_4 kx_E_4)))))
  have FM : (∀ c, c ≠ 0 → c ≠ 7 → τM.1 c = σM.1 c) ∧ (∀ c, c ≠ 0 → c ≠ 6 → τM.2 c = σM.2 c) ∧ τM.1 0 1 = σM.1 0 1 ∧ τM.1 0 6 = 0 := by
    refine ⟨fun c h1 h2 => ?_, fun c h1 h2 => ?_, ?_, ?_⟩
    · rw [i6.1 c h1 h2, kw_si_o h1, kw_si_o h1, kw_si_o h1, kw_si_o h1, kw_si_o h1]
    · rw [i6.2.1 c h1 h2]; rfl
    · rw [i6.2.2 1 (by decide) (by decide) (by decide) (by decide) (by decide) (by decide)]
      simp [kw_si_1, upd]
    · rw [i6.2.2 6 (by decide) (by decide) (by decide) (by decide) (by decide) (by decide)]
      simp [kw_si_1, upd]
  rcases i7 with ⟨rfl, f, ν, z2, z3, z4, z5⟩ | ⟨rfl, rfl, z3, z4⟩
  · dsimp only
    rw [kw_chk_t (Or.inl rfl)]
    exact ⟨f, ν, _, _, z3, rfl, kx_E_t EX z4, FM, Or.inl ⟨rfl, z2, z5⟩⟩
  · dsimp only
    rw [kw_chk_t (Or.inr rfl)]
    unfold jX3_readText_68
    rw [if_pos rfl, z3]
    exact ⟨_, _, _, _, rfl, rfl, kx_E_t EX i5, FM, Or.inr ⟨rfl, rfl, z4⟩⟩
