/-! Texts: a net's clause; both sides read a clause alike. -/
theorem km_netc {σ : kw_M} {B : Nat → Nat} {e p tw k : Nat} (hB : kt_B B e) (hp : p ≤ e) (hk : k < 24) (htw : 2 ≤ tw ∧ tw ≤ 12) (T : km_T σ B e p) (h12 : σ.1 0 12 = nI k) (h17 : σ.1 0 17 = nI tw) : (kt_no true k B p (kt_rl (kt_l B e) e p) → ∃ τ, fX10_readsNet σ = some (0, τ) ∧ km_D k σ τ ∧ τ.1 0 9 = kt_f 1 p) ∧ (kt_yes true k B p (kt_rl (kt_l B e) e p) 1 → ∃ b τ, fX10_readsNet σ = some (b, τ) ∧ km_D k σ τ ∧ τ.1 0 12 = nI k ∧ τ.1 0 17 = nI tw ∧ τ.2 6 k = Int64.ofInt (kt_W 1) ∧ kt_Out tw B e (p + kt_rl (kt_l B e) e p) k (kt_cs 1) b τ) ∧ (k = 0 → kt_is B p (kt_rl (kt_l B e) e p) 0 = true → ∃ b τ, fX10_readsNet σ = some (b, τ) ∧ km_D k σ τ ∧ (∀ f, kt_n (kt_lo 110) (kt_hi tw 110) B e (p + kt_rl (kt_l B e) e p) = .inl f → b = 0 ∧ τ.1 0 9 = f) ∧ (∀ v q, kt_n (kt_lo 110) (kt_hi tw 110) B e (p + kt_rl (kt_l B e) e p) = .inr (v, q) → b = 1 ∧ τ.1 0 12 = nI k ∧ τ.1 0 17 = Int32.ofInt v ∧ τ.2 6 k = Int64.ofInt (kt_W 0) ∧ τ.1 0 7 = nI q)) := by
  obtain ⟨r1, r2, r3⟩ := kt_rl_p (kt_l_e B e) hp
  obtain ⟨ρ, w1, w2, w3, w4, w5⟩ := km_word hB hp T
  have isW := fun j (hj : j < 9) => kt_isW (B := B) (e := e) (p := p) r2 hj
  have e12 : ρ.1 0 12 = nI k := by rw [w2.2.2 12 (by decide) (by decide) (by decide) (by decide)]; exact h12
  have e17 : ρ.1 0 17 = nI tw := by rw [w2.2.2 17 (by decide) (by decide) (by decide) (by decide)]; exact h17
  obtain ⟨L0, L1, L2, L3, L4, L5, L6, L7, L8⟩ := kt_lits
  rw [← w5] at isW
  unfold fX10_readsNet jX10_readsNet_61
  rw [w1, Option.bind_some]
  generalize hV : ρ.2 0 13 = V at isW ⊢
  rw [e12, kn_chk hk (by decide), kn_clamp (by omega), kw_let_def]
  have D1 : km_D k σ (kw_sl ρ 6 k V) := km_D_t (km_D_N w2) km_D_6
  have T1 : km_T (kw_sl ρ 6 k V) B e (p + kt_rl (kt_l B e) e p) := ⟨w3.1, w3.2.1, w3.2.2⟩
  have f12 : (kw_sl ρ 6 k V).1 0 12 = nI k := e12
  have f17 : (kw_sl ρ 6 k V).1 0 17 = nI tw := e17
  have f11 : (kw_sl ρ 6 k V).1 0 11 = nI p := w4
  have f6 : (kw_sl ρ 6 k V).2 6 k = V := by rw [kw_sl_2, kw_updL_e]
  have f13 : (kw_sl ρ 6 k V).2 0 13 = V := by rw [kw_sl_o (by decide)]; exact hV
  generalize kw_sl ρ 6 k V = s4 at D1 T1 f12 f17 f11 f6 f13 ⊢
  rw [f13, f12]
  simp only [L0, L1, isW 0 (by decide), isW 1 (by decide)]
  refine ⟨fun hno => ?_, fun hyes => ?_, fun k0 hi0 => ?_⟩
  · obtain ⟨n0, n1⟩ := hno.1 rfl
    have bad : ∃ τ, ((fX10_wrongAt (1 : Int32) (s4.1 0 11) s4).bind fun r6 => kw_chk (kw_isB r6.1) <| some (r6.1, r6.2)) = some (0, τ) ∧ km_D k σ τ ∧ τ.1 0 9 = kt_f 1 p := by
      rw [f11, km_wrong1, Option.bind_some]
      dsimp only
      rw [kw_chk_t (Or.inl rfl)]
      exact ⟨_, rfl, km_D_t D1 (km_D_N (km_N_si (Or.inr (Or.inl rfl)))), by rw [kw_si_1, kw_upd_e]⟩
    rw [n1, kn_ft]
    cases hi0 : kt_is B p (kt_rl (kt_l B e) e p) 0 with
    | false =>
      rw [kn_ft]
      exact bad
    | true =>
      rw [kn_tt, if_neg (by
        rw [kn_0, kn_eq (by omega) (by decide)]
        intro k0
        have := n0 k0
        rw [hi0] at this
        cases this)]
      exact bad
  · have hi1 := hyes.2.1
    have hi0 : kt_is B p (kt_rl (kt_l B e) e p) 0 = false := by
      cases q : kt_is B p (kt_rl (kt_l B e) e p) 0 with
      | false => rfl
      | true =>
        have a := (of_decide_eq_true q).1
        have b := (of_decide_eq_true hi1).1
        have c : kt_ln 0 = 5 ∧ kt_ln 1 = 4 := by decide
        omega
    have hV2 : V = Int64.ofInt (kt_W 1) := by rw [isW 1 (by decide)]; exact hi1
    obtain ⟨b, τ, m1, m2, m3, m4⟩ := km_road (tw := tw) hB r1 T1 f12 hk htw
    rw [hi0, kn_ft, hi1, kn_tt, f17, m1, Option.bind_some]
    dsimp only
    rw [kw_chk_t m2]
    exact ⟨b, τ, rfl, km_D_t D1 (km_D_C m3), by rw [m3.2.2.1 12 (by decide) (by decide) (by decide) (by decide)]; exact f12, by rw [m3.2.2.1 17 (by decide) (by decide) (by decide) (by decide)]; exact f17, by rw [m3.2.1 6 (by decide), f6]; exact hV2, m4⟩
  · have hV2 : V = Int64.ofInt (kt_W 0) := by rw [isW 0 (by decide)]; exact hi0
    rw [hi0, kn_tt, if_pos (by rw [k0]; decide)]
    obtain ⟨b, τ, n1, n2, n3, n4⟩ := km_number (lo := 2) (hi := 12) hB r1 T1
    have hlo : (2 : Int64).toInt = kt_lo 110 := by decide
    have hhi : (12 : Int64).toInt = kt_hi tw 110 := by
      show (12 : Int64).toInt = 12
      decide
    rw [hlo, hhi] at n3 n4
    rw [n1, Option.bind_some]
    dsimp only
    cases hn : kt_n (kt_lo 110) (kt_hi tw 110) B e (p + kt_rl (kt_l B e) e p) with
    | inl f =>
      obtain ⟨rfl, t1⟩ := n3 f hn
      rw [if_pos rfl]
      refine ⟨0, τ, rfl, km_D_t D1 (km_D_N n2), fun g hg => ?_, fun v q hq => (by cases hq)⟩
      obtain rfl := Sum.inl.inj hg
      exact ⟨rfl, t1⟩
    | inr vq =>
      obtain ⟨v, q⟩ := vq
      obtain ⟨rfl, t1, t2, t3⟩ := n4 v q hn
      rw [if_neg (show ¬ (1 : Int32) = 0 by decide), kw_let_def, t1, Int64.toInt32_ofInt]
      refine ⟨1, _, rfl, km_D_t D1 (km_D_t (km_D_N n2) (km_D_si (Or.inr rfl))), fun g hg => (by cases hg), fun v' q' hq => ?_⟩
      have h' : (v, q) = (v', q') := Sum.inr.inj hq
      have d1 : v = v' := congrArg Prod.fst h'
      have d2 : q = q' := congrArg Prod.snd h'
      subst d1 d2
      refine ⟨rfl, ?_, by rw [kw_si_1, kw_upd_e], ?_, ?_⟩
      · rw [kw_si_1, kw_upd_n (by decide), n2.2.2 12 (by decide) (by decide) (by decide) (by decide)]; exact f12
      · rw [kw_si_2, n2.2.1 6 (by decide), f6]; exact hV2
      · rw [kw_si_1, kw_upd_n (by decide)]; exact t2
/-- a clause that both have read -/
def kt_C (net : Bool) (tw : Nat) (σX σM : kw_M) (i : Nat) : Prop := ∃ w, w < 9 ∧ σX.1 36 i = nI w ∧ σM.2 6 i = Int64.ofInt (kt_W w) ∧ (net = true → w = 0 ∨ (w = 1 ∧ ∃ (a b : Nat) (l : Int32), a < tw ∧ b < tw ∧ a ≠ b ∧ (-1000000000 ≤ l.toInt ∧ l.toInt ≤ 1000000000) ∧ σX.1 37 (3 * i) = nI a ∧ σX.1 37 (3 * i + 1) = nI b ∧ σX.1 37 (3 * i + 2) = l)) ∧ (net = false → 2 ≤ w) ∧ (1 ≤ w → ∀ j, j < (kt_cs w).length → σX.1 37 (3 * i + j) = σM.1 7 (3 * i + j))
def kt_R (net : Bool) (B : Nat → Nat) (e k p tw : Nat) (σX σM : kw_M) : Prop := p ≤ e ∧ (2 ≤ tw ∧ tw ≤ 12) ∧ kx_T σX B e p tw ∧ km_T σM B e p ∧ σX.1 4 8 = kx_fl net ∧ σM.1 0 12 = nI k ∧ (net = true → σM.1 0 17 = nI tw) ∧ (net = false → σM.1 1 0 = nI tw) ∧ ∀ i, i < k → kt_C net tw σX σM i
theorem kt_C_D {net : Bool} {tw k i : Nat} {σX σM τX τM : kw_M} (h : kt_C net tw σX σM i) (hi : i < k) (dx : kx_D k σX τX) (dm : km_D k σM τM) : kt_C net tw τX τM i := by
  obtain ⟨w, h1, h2, h3, h4, h5, h6⟩ := h
  have hlen := (kt_shape w h1).2.1
  refine ⟨w, h1, by rw [dx.2.2.2.2 i (by omega)]; exact h2, by rw [dm.2.2.2.2 i (by omega)]; exact h3, fun hn => ?_, h5, fun hw j hj => ?_⟩
  · rcases h4 hn with h0 | ⟨g1, a, b, l, g2, g3, g4, g5, g6, g7, g8⟩
    · exact Or.inl h0
    · exact Or.inr ⟨g1, a, b, l, g2, g3, g4, g5, by rw [dx.2.2.2.1 _ (by omega)]; exact g6, by rw [dx.2.2.2.1 _ (by omega)]; exact g7, by rw [dx.2.2.2.1 _ (by omega)]; exact g8⟩
  · rw [dx.2.2.2.1 _ (by omega), dm.2.2.2.1 _ (by omega)]
    exact h6 hw j hj
theorem kt_ofN {a : Int} {n : Nat} (h : 0 ≤ a ∧ a ≤ (n : Int) - 1) (hn : n ≤ 12) : ∃ x, x < n ∧ a = (x : Int) ∧ Int32.ofInt a = nI x := by
  obtain ⟨x, hx⟩ := Int.eq_ofNat_of_zero_le h.1
  refine ⟨x, by omega, hx, ?_⟩
  apply Int32.toInt_inj.mp
  rw [Int32.toInt_ofInt_of_le (by omega) (by omega), nI_toInt (by omega), hx]
theorem kt_road_in {tw : Nat} {B : Nat → Nat} {e p q : Nat} {vs : List Int} (h : kt_nums tw B e [116, 116, 108] 0 0 p = .inr (vs, q)) : ∃ a b l, vs = [a, b, l] ∧ (0 ≤ a ∧ a ≤ (tw : Int) - 1) ∧ (0 ≤ b ∧ b ≤ (tw : Int) - 1) ∧ a ≠ b ∧ (-1000000000 ≤ l ∧ l ≤ 1000000000) := by
  cases h1 : kt_n (kt_lo 116) (kt_hi tw 116) B e p with
  | inl f => rw [kt_nums_l h1] at h; cases h
  | inr x =>
    obtain ⟨a, q1⟩ := x
    rw [kt_nums_r h1 (by omega)] at h
    cases h2 : kt_n (kt_lo 116) (kt_hi tw 116) B e q1 with
    | inl f => rw [kt_nums_l h2] at h; cases h
    | inr y =>
      obtain ⟨b, q2⟩ := y
      by_cases hab : a = b
      · rw [kt_nums_6 h2 ⟨rfl, rfl, hab⟩] at h; cases h
      · rw [kt_nums_r h2 (fun z => hab z.2.2)] at h
        cases h3 : kt_n (kt_lo 108) (kt_hi tw 108) B e q2 with
        | inl f => rw [kt_nums_l h3] at h; cases h
        | inr z =>
          obtain ⟨l, q3⟩ := z
          rw [kt_nums_r h3 (by omega), kt_nums_0] at h
          have h' : ([a, b, l], q3) = (vs, q) := Sum.inr.inj h
          have d1 : [a, b, l] = vs := congrArg Prod.fst h'
          exact ⟨a, b, l, d1.symm, (kt_n_in h1).1, (kt_n_in h2).1, hab, (kt_n_in h3).1⟩
theorem kx_58 {σ : kw_M} {k : Nat} (h : ¬ σ.1 4 7 = 0) : jX3_readClause_58 (nI k) σ = some (0, σ) := by
  unfold jX3_readClause_58
  rw [if_neg h]
/-- both sides read a clause alike -/
theorem kt_clause {net : Bool} {B : Nat → Nat} {e k p tw : Nat} {σX σM : kw_M} (hB : kt_B B e) (hk : k < 24) (R : kt_R net B e k p tw σX σM) : (∃ f τX τM, ¬ f = 0 ∧ fX3_readClause (nI k) σX = some (0, τX) ∧ τX.1 4 7 = f ∧ kx_D k σX τX ∧ fX10_readsClause (kx_fl net) σM = some (0, τM) ∧ τM.1 0 9 = f ∧ km_D k σM τM) ∨ (∃ q tw' τX τM, fX3_readClause (nI k) σX = jX3_readClause_58 (nI k) τX ∧ kx_D k σX τX ∧ fX10_readsClause (kx_fl net) σM = some (1, τM) ∧ km_D k σM τM ∧ kt_R net B e (k + 1) q tw' τX τM) := by
  obtain ⟨hp, htw, TX, TM, h8, h12, h17, h10, hC⟩ := R
  obtain ⟨r1, r2, r3⟩ := kt_rl_p (kt_l_e B e) hp
  obtain ⟨τ, x1, x2, x3⟩ := kx_word (net := net) hB hp hk TX h8
  have he := hB.1
  have ne24 : ¬ nI k = (24 : Int32) := by
    rw [show (24 : Int32) = nI 24 by decide, kn_eq (by omega) (by decide)]
    omega
  -- the reference's clause out of its parts
  have cl0 : ∀ b ρ, (net = false → fX10_readsOrder σM = some (b, ρ)) → (net = true → fX10_readsNet σM = some (b, ρ)) → b = 0 → fX10_readsClause (kx_fl net) σM = some (0, ρ) := fun b ρ g1 g2 hb => by
    unfold fX10_readsClause
    rw [h12, if_neg ne24]
    simp only [kx_fl_0]
    cases net with
    | false =>
      rw [kn_ff, g1 rfl, Option.bind_some]
      dsimp only
      rw [if_pos hb]
    | true =>
      rw [kn_tf, g2 rfl, Option.bind_some]
      dsimp only
      rw [if_pos hb]
  have cl1 : ∀ b ρ, (net = false → fX10_readsOrder σM = some (b, ρ)) → (net = true → fX10_readsNet σM = some (b, ρ)) → b = 1 → ρ.1 0 12 = nI k → fX10_readsClause (kx_fl net) σM = some (1, kw_si ρ 0 12 (nI (k + 1))) := fun b ρ g1 g2 hb hρ => by
    unfold fX10_readsClause
    rw [h12, if_neg ne24]
    simp only [kx_fl_0]
    cases net with
    | false =>
      rw [kn_ff, g1 rfl, Option.bind_some]
      dsimp only
      rw [if_neg (by rw [hb]; decide), kw_let_def, hρ, km_next]
    | true =>
      rw [kn_tf, g2 rfl, Option.bind_some]
      dsimp only
      rw [if_neg (by rw [hb]; decide), kw_let_def, hρ, km_next]
  rcases x3 with ⟨x7, hno⟩ | ⟨w, hyes, x36, TX1⟩
  · left
    have hf0 := kt_f_ne 1 (by decide) (by decide) p (by omega)
    have eX : fX3_readClause (nI k) σX = some (0, τ) := by
      unfold fX3_readClause
      rw [x1, Option.bind_some, x7, if_neg hf0]
    cases net with
    | false =>
      obtain ⟨ρ, m1, m2, m3⟩ := (km_order hB hp hk htw TM h12 (h10 rfl)).1 hno
      exact ⟨_, τ, ρ, hf0, eX, x7, x2, cl0 0 ρ (fun _ => m1) (fun q => by cases q) rfl, m3, m2⟩
    | true =>
      obtain ⟨ρ, m1, m2, m3⟩ := (km_netc hB hp hk htw TM h12 (h17 rfl)).1 hno
      exact ⟨_, τ, ρ, hf0, eX, x7, x2, cl0 0 ρ (fun q => by cases q) (fun _ => m1) rfl, m3, m2⟩
  · have hw9 := hyes.1
    obtain ⟨s1, s2, s3⟩ := kt_shape w hw9
    by_cases hw0 : w = 0
    · -- towns
      subst hw0
      have hnet : net = true := by
        cases net with
        | true => rfl
        | false => exact absurd (hyes.2.2.2 rfl) (by omega)
      subst hnet
      have k0 : k = 0 := by
        rcases hyes.2.2.1 rfl with h | h
        · exact h.2
        · cases h
      obtain ⟨b, ρ, m1, m2, m3, m4⟩ := (km_netc hB hp hk htw TM h12 (h17 rfl)).2.2 k0 hyes.2.1
      obtain ⟨n1, n2⟩ := kx_number (ch := nI 110) (k := k) (i := 0) (lo := kt_lo 110) (hi := kt_hi tw 110) hB r1 TX1 hk (by decide) (fun v τ h1 h2 h3 => kx_told htw.2 (by decide) v τ h1 h2 h3)
      have hF : ∃ N, kw_F = N + 1 + 1 := ⟨kw_F - 2, by unfold kw_F; omega⟩
      obtain ⟨N, hN⟩ := hF
      have step : ∀ τ', fX3_readNumber (nI k) (nI 0) (nI 110) τ = some τ' → kw_loop (fun s => bX3_readClause_26 (nI k) (kt_sh 0) s.1 s.2) kw_F ((0 : Int32), τ) = some τ' := fun τ' hτ => by
        rw [hN, kw_loop_s]
        dsimp only
        unfold bX3_readClause_26
        rw [s1, Option.bind_some, if_neg (show ¬ nI (kt_cs 0).length ≤ (0 : Int32) by decide), TX1.2.2.2.1, if_pos rfl, show kw_fsc (kt_sh 0) (0 : Int32) = some (nI 110) from (s3 0 (by decide)).1, Option.bind_some, show (0 : Int32) = nI 0 by decide, hτ, Option.bind_some, kw_let_def, km_next, Option.bind_some]
        dsimp only
        rw [kw_loop_s]
        dsimp only
        rw [Option.bind_some, if_pos (show nI (kt_cs 0).length ≤ nI (0 + 1) by decide), Option.bind_some]
      cases hn : kt_n (kt_lo 110) (kt_hi tw 110) B e (p + kt_rl (kt_l B e) e p) with
      | inl f =>
        left
        obtain ⟨τ', t1, t2, t3⟩ := n1 f hn
        have hf0 := kt_n_ne hB r1 hn
        obtain ⟨b0, e9⟩ := m3 f hn
        refine ⟨f, τ', ρ, hf0, ?_, t3, kx_D_t x2 (kx_D_N t2), cl0 b ρ (fun q => by cases q) (fun _ => m1) b0, e9, m2⟩
        rw [kx_clause1 hk hw9 x1 TX1.2.2.2.1 x36 (step τ' t1), kx_58 (by rw [t3]; exact hf0)]
      | inr vq =>
        right
        obtain ⟨v, q⟩ := vq
        obtain ⟨τ', t1, t2, t3, t4⟩ := n2 v q hn
        obtain ⟨hin, hpq, hqe⟩ := kt_n_in hn
        have hin' : (2 : Int) ≤ v ∧ v ≤ 12 := hin
        obtain ⟨b1, e12', e17', e6', e7'⟩ := m4 v q hn
        obtain ⟨y, hy1, hy2, hy3⟩ := kt_ofN (a := v - 2) (n := 11) (by omega) (by omega)
        have hv : Int32.ofInt v = nI (y + 2) := by
          apply Int32.toInt_inj.mp
          rw [Int32.toInt_ofInt_of_le (by omega) (by omega), nI_toInt (by omega)]
          omega
        have e1 : fX3_readNumber (nI k) (nI 0) (nI 110) τ = some (kw_si (kw_si τ' 37 (3 * k + 0) (Int32.ofInt v)) 4 0 (Int32.ofInt v)) := by
          rw [t4, if_pos (show nI 110 = (110 : Int32) by decide)]
          unfold jX3_readNumber_113
          rw [if_neg (show ¬ nI 110 = (116 : Int32) by decide)]
        have DX : kx_D k τ (kw_si (kw_si τ' 37 (3 * k + 0) (Int32.ofInt v)) 4 0 (Int32.ofInt v)) := by
          refine kx_D_t (kx_D_N t1) (kx_D_t (kx_D_C (kx_C_37 (by omega))) ⟨rfl, fun c h1 _ _ => kw_si_o h1, fun j h1 _ _ => by rw [kw_si_1, kw_upd_n h1], fun s _ => by rw [kw_si_o (by decide)], fun i _ => by rw [kw_si_o (by decide)]⟩)
        obtain ⟨g1, g2, g3, g4, g5, g6⟩ := kx_T_N TX1 t1 t2 t3
        refine ⟨q, y + 2, _, _, kx_clause1 hk hw9 x1 TX1.2.2.2.1 x36 (step _ e1), kx_D_t x2 DX, cl1 b ρ (fun q => by cases q) (fun _ => m1) b1 e12', km_D_t m2 (km_D_si (Or.inl rfl)), hqe, by omega, ?_, ?_, ?_, ?_, fun _ => ?_, fun q => (by cases q), fun i hi => ?_⟩
        · refine ⟨?_, ?_, ?_, ?_, ?_, fun i hi => ?_⟩
          · rw [kw_si_1, kw_upd_n (by decide), kw_si_o (by decide)]; exact g1
          · rw [kw_si_1, kw_upd_n (by decide), kw_si_o (by decide)]; exact g2
          · rw [kw_si_1, kw_upd_n (by decide), kw_si_o (by decide)]; exact g3
          · rw [kw_si_1, kw_upd_n (by decide), kw_si_o (by decide)]; exact g4
          · rw [kw_si_1, kw_upd_e, hv]
          · rw [kw_si_o (by decide), kw_si_o (by decide)]; exact g6 i hi
        · refine ⟨?_, ?_, fun i hi => ?_⟩
          · rw [kw_si_1, kw_upd_n (by decide), m2.2.2.1 8 (by decide) (by decide) (by decide) (by decide) (by decide) (by decide)]; exact TM.1
          · rw [kw_si_1, kw_upd_n (by decide)]; exact e7'
          · rw [kw_si_o (by decide), m2.1 5 (by decide) (by decide)]; exact TM.2.2 i hi
        · rw [kw_si_1, kw_upd_n (by decide), kw_si_o (by decide), t1.2.2 8 (by decide) (by decide), x2.2.2.1 8 (by decide) (by decide) (by decide)]; exact h8
        · rw [kw_si_1, kw_upd_e]
        · rw [kw_si_1, kw_upd_n (by decide), e17', hv]
        · have i0 : i = k := by omega
          subst i0
          refine ⟨0, by decide, ?_, e6', fun _ => Or.inl rfl, fun q => (by cases q), fun q => absurd q (by decide)⟩
          rw [kw_si_o (by decide), kw_si_o (by decide), t1.2.1 36 (by decide)]
          exact x36
    · -- numbers that are kept
      have hw1 : 1 ≤ w := by omega
      obtain ⟨ρX, u1, u2, u3, u4⟩ := kx_nums (k := k) (C := fun i => (kt_cs w).getD i 0) hB htw hk s2 s1 (fun i hi => (s3 i hi).1) (fun i hi => (s3 i hi).2 hw1) (kt_cs w) 0 0 (p + kt_rl (kt_l B e) e p) τ kw_F (by omega) (fun j hj => by rw [Nat.zero_add]) r1 TX1 (fun q => absurd q (by decide)) (by unfold kw_F; omega)
      have eX := kx_clause1 hk hw9 x1 TX1.2.2.2.1 x36 u1
      have DX : kx_D k σX ρX := kx_D_t x2 (kx_D_C u2)
      have hM : ∃ b ρ, (net = false → fX10_readsOrder σM = some (b, ρ)) ∧ (net = true → fX10_readsNet σM = some (b, ρ)) ∧ km_D k σM ρ ∧ ρ.1 0 12 = nI k ∧ (net = true → ρ.1 0 17 = nI tw) ∧ ρ.2 6 k = Int64.ofInt (kt_W w) ∧ kt_Out tw B e (p + kt_rl (kt_l B e) e p) k (kt_cs w) b ρ := by
        cases net with
        | false =>
          obtain ⟨b, ρ, m1, m2, m3, m4, m5⟩ := (km_order hB hp hk htw TM h12 (h10 rfl)).2 w hyes
          exact ⟨b, ρ, fun _ => m1, fun q => (by cases q), m2, m3, fun q => (by cases q), m4, m5⟩
        | true =>
          have hw : w = 1 := by
            rcases hyes.2.2.1 rfl with h | h
            · exact absurd h.1 hw0
            · exact h
          subst hw
          obtain ⟨b, ρ, m1, m2, m3, m3', m4, m5⟩ := (km_netc hB hp hk htw TM h12 (h17 rfl)).2.1 hyes
          exact ⟨b, ρ, fun q => (by cases q), fun _ => m1, m2, m3, fun _ => m3', m4, m5⟩
      obtain ⟨b, ρ, a1, a2, a3, a4, a5, a6, a7⟩ := hM
      cases hn : kt_nums tw B e (kt_cs w) 0 0 (p + kt_rl (kt_l B e) e p) with
      | inl f =>
        left
        obtain ⟨v1, v2⟩ := u3 f hn
        obtain ⟨o1, o2⟩ := a7.1 f hn
        exact ⟨f, ρX, ρ, v2, by rw [eX, kx_58 (by rw [v1]; exact v2)], v1, DX, cl0 b ρ a1 a2 o1, o2, a3⟩
      | inr vq =>
        right
        obtain ⟨vs, q⟩ := vq
        obtain ⟨v1, v2, v3, v4, v5⟩ := u4 vs q hn
        obtain ⟨o1, o2, o3⟩ := a7.2 vs q hn
        refine ⟨q, tw, ρX, _, eX, DX, cl1 b ρ a1 a2 o1 a4, km_D_t a3 (km_D_si (Or.inl rfl)), v3, htw, ?_, ?_, ?_, ?_, fun hn1 => ?_, fun hn0 => ?_, fun i hi => ?_⟩
        · obtain ⟨g1, g2, g3, g4, g5, g6⟩ := TX1
          exact ⟨by rw [u2.2.2.1 4 (by decide) (by decide)]; exact g1, by rw [u2.2.2.1 5 (by decide) (by decide)]; exact g2, v1, v2, by rw [u2.2.2.1 0 (by decide) (by decide)]; exact g5, fun i hi => by rw [u2.2.1 35 (by decide) (by decide)]; exact g6 i hi⟩
        · refine ⟨?_, ?_, fun i hi => ?_⟩
          · rw [kw_si_1, kw_upd_n (by decide), a3.2.2.1 8 (by decide) (by decide) (by decide) (by decide) (by decide) (by decide)]; exact TM.1
          · rw [kw_si_1, kw_upd_n (by decide)]; exact o2
          · rw [kw_si_o (by decide), a3.1 5 (by decide) (by decide)]; exact TM.2.2 i hi
        · rw [DX.2.2.1 8 (by decide) (by decide) (by decide)]; exact h8
        · rw [kw_si_1, kw_upd_e]
        · rw [kw_si_1, kw_upd_n (by decide)]; exact a5 hn1
        · rw [kw_si_o (by decide), a3.1 1 (by decide) (by decide)]; exact h10 hn0
        · by_cases ik : i = k
          case neg => exact kt_C_D (hC i (by omega)) (show i < k by omega) DX (km_D_t a3 (km_D_si (Or.inl rfl)))
          subst ik
          refine ⟨w, hw9, by rw [u2.2.1 36 (by decide) (by decide)]; exact x36, a6, fun hn1 => ?_, fun hn0 => hyes.2.2.2 hn0, fun _ j hj => ?_⟩
          · right
            have hw : w = 1 := by
              rcases hyes.2.2.1 hn1 with h | h
              · exact absurd h.1 hw0
              · exact h
            subst hw
            obtain ⟨x, y, l, rfl, hx, hy, hxy, hl⟩ := kt_road_in hn
            obtain ⟨a, ha1, ha2, ha3⟩ := kt_ofN hx htw.2
            obtain ⟨c, hc1, hc2, hc3⟩ := kt_ofN hy htw.2
            have z0 := v5 0 (by decide)
            have z1 := v5 1 (by decide)
            have z2 := v5 2 (by decide)
            refine ⟨rfl, a, c, Int32.ofInt l, ha1, hc1, by omega, ?_, ?_, ?_, ?_⟩
            · rw [Int32.toInt_ofInt_of_le (by omega) (by omega)]; exact hl
            · rw [← ha3]; exact z0
            · rw [← hc3]; exact z1
            · exact z2
          · rw [kw_si_o (by decide), o3 j hj]
            have := v5 j hj
            rw [Nat.add_zero] at this
            exact this
