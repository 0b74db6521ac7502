/-! Rounds through some towns: the call. -/
theorem kr_cntb_hi {S : Nat → Bool} {n : Nat} (h : ∀ i, n ≤ i → S i = false) : ∀ d : Nat, kr_cntb S (n + d) = kr_cntb S n
  | 0 => rfl
  | d + 1 => by
    rw [show n + (d + 1) = (n + d) + 1 by omega, kr_cntb_s, h (n + d) (by omega), kn_ft, Nat.add_zero]
    exact kr_cntb_hi h d
theorem kr_cntb_mn (S : Nat → Bool) (n : Nat) : ∀ d : Nat, kr_cntb S n ≤ kr_cntb S (n + d)
  | 0 => Nat.le_refl _
  | d + 1 => by
    rw [show n + (d + 1) = (n + d) + 1 by omega, kr_cntb_s]
    have := kr_cntb_mn S n d
    omega
theorem kw_set_lt {a : Int32} {n : Nat} (hn : n ≤ 12) (h : 0 ≤ a.toInt ∧ a.toInt ≤ 2 ^ n - 1) {q : Nat} (hq : kw_bI a q = true) : q < n := by
  by_cases h32 : q < 32
  · refine Decidable.byContradiction fun hc => ?_
    have h1 : kw_bI (a &&& (-((1 : Int32) <<< (nI n &&& 31)))) q = kw_bI 0 q := by rw [(kw_set_iff hn).mpr h]
    rw [kw_bI_and, kw_maskI n (by omega) q h32, decide_eq_true (by omega), Bool.and_true, kw_bI_0, hq] at h1
    cases h1
  · unfold kw_bI at hq
    rw [BitVec.getLsbD_of_ge _ _ (by omega)] at hq
    cases hq
def kw_M0 : kw_M := (fun _ _ => 0, fun _ _ => 0)
theorem kw_bc32a : ∀ a, a < 64 → ∀ b, b < 64 → fXJ6_bitCount_0f7a4 (nI (64 * a + b)) kw_M0 = some (nI (kr_cntb (fun i => (64 * a + b).testBit i) 12)) := by decide +kernel
theorem kx_bc32 {w : Int32} {S : Nat → Bool} {n : Nat} (h12 : n ≤ 12) (hb : ∀ q, q < 32 → kw_bI w q = S q) (hS : ∀ q, S q = true → q < n) (σ : kw_M) : fXJ6_bitCount_0f7a4 w σ = some (nI (kr_cntb S n)) := by
  have h0 : 0 ≤ w.toInt ∧ w.toInt ≤ 2 ^ n - 1 := (kw_set_iff h12).mp (kw_bI_e fun i hi => by
    rw [kw_bI_and, kw_maskI n (by omega) i hi, kw_bI_0, hb i hi]
    cases hs : S i with
    | false => rfl
    | true =>
      have := hS i hs
      rw [decide_eq_false (by omega)]
      rfl)
  obtain ⟨hpc, h2N⟩ := kw_pow12 n (by omega)
  obtain ⟨x, hx, rfl⟩ := kw_arg (x := w) (n := 4096) (by decide) ⟨h0.1, by omega⟩
  have e : fXJ6_bitCount_0f7a4 (nI x) σ = fXJ6_bitCount_0f7a4 (nI x) kw_M0 := rfl
  have h1 := kw_bc32a (x / 64) (by omega) (x % 64) (by omega)
  rw [show 64 * (x / 64) + x % 64 = x by omega] at h1
  rw [e, h1]
  congr 2
  obtain ⟨d, hd⟩ : ∃ d, 12 = n + d := ⟨12 - n, by omega⟩
  rw [← kr_cntb_hi (S := S) (n := n) (fun i hi => by
    cases hs : S i with
    | false => rfl
    | true => have := hS i hs; omega) d, ← hd]
  refine kr_cntb_eq 12 (fun r hr => ?_)
  rw [← hb r (by omega), kw_bI_nat (by omega)]
/-- the reference gathers the towns of a round -/
theorem km_ogather {σ : kw_M} {a1 a2 : Int32} {n o : Nat} {S : Nat → Bool} (hS : ∀ q, S q = (kw_bI a1 q && !decide (q = o))) (hn : σ.1 1 0 = nI n) (ho : σ.1 1 2 = nI o) (h12 : n ≤ 12) (hon : o < n) (h0 : σ.1 0 31 = 0) : ∃ x, kw_loop (fun s => bX10_round_41 a1 a2 s.1 s.2) kw_F ((0 : Int32), σ) = some x ∧ (kr_cntb S n ≤ 6 → ∃ τ, x = .inr τ ∧ τ.1 0 31 = nI (kr_cntb S n) ∧ km_od τ (kr_cntb S n) (kn_en S n) (fun i => i) ∧ (∀ c, c ≠ 0 → c ≠ 19 → τ.1 c = σ.1 c) ∧ (∀ j, j ≠ 31 → τ.1 0 j = σ.1 0 j) ∧ τ.2 = σ.2) ∧ (6 < kr_cntb S n → ∃ τ, x = .inl ((-9000000000000000000 : Int64), τ) ∧ (∀ c, c ≠ 0 → c ≠ 19 → τ.1 c = σ.1 c) ∧ (∀ j, j ≠ 31 → τ.1 0 j = σ.1 0 j) ∧ τ.2 = σ.2) :=
  kw_for (body := fun s => bX10_round_41 a1 a2 s.1 s.2) (fun k s => s.1 = nI k ∧ kr_cntb S k ≤ 6 ∧ s.2.1 0 31 = nI (kr_cntb S k) ∧ (∀ i, i < kr_cntb S k → s.2.1 19 i = nI (kn_en S k i)) ∧ (∀ c, c ≠ 0 → c ≠ 19 → s.2.1 c = σ.1 c) ∧ (∀ j, j ≠ 31 → s.2.1 0 j = σ.1 0 j) ∧ s.2.2 = σ.2) (fun x => (kr_cntb S n ≤ 6 → ∃ τ, x = .inr τ ∧ τ.1 0 31 = nI (kr_cntb S n) ∧ km_od τ (kr_cntb S n) (kn_en S n) (fun i => i) ∧ (∀ c, c ≠ 0 → c ≠ 19 → τ.1 c = σ.1 c) ∧ (∀ j, j ≠ 31 → τ.1 0 j = σ.1 0 j) ∧ τ.2 = σ.2) ∧ (6 < kr_cntb S n → ∃ τ, x = .inl ((-9000000000000000000 : Int64), τ) ∧ (∀ c, c ≠ 0 → c ≠ 19 → τ.1 c = σ.1 c) ∧ (∀ j, j ≠ 31 → τ.1 0 j = σ.1 0 j) ∧ τ.2 = σ.2)) n (by omega) (s0 := ((0 : Int32), σ)) ⟨rfl, Nat.zero_le _, h0, fun i hi => absurd hi (Nat.not_lt_zero _), fun _ _ _ => rfl, fun _ _ => rfl, rfl⟩ (fun k s hk hP => by
    obtain ⟨v, τ⟩ := s
    obtain ⟨h1, h2, h3, h4, h5, h6, h7⟩ := hP
    dsimp only at h1 h2 h3 h4 h5 h6 h7 ⊢
    subst h1
    unfold bX10_round_41 fX10_towns
    rw [h5 1 (by decide) (by decide), hn, ho, Option.bind_some]
    by_cases hkn : k < n
    case neg =>
      right
      obtain rfl : k = n := by omega
      rw [if_pos (nI_le (Nat.le_refl k) (by omega))]
      exact ⟨_, rfl, fun _ => ⟨τ, rfl, h3, h4, h5, h6, h7⟩, fun q => absurd h2 (by omega)⟩
    rw [if_neg (nI_ge hkn (by omega)), km_has (by omega), Option.bind_some]
    simp only [kx_fl_0, kn_eq (show k < 2147483648 by omega) (show o < 2147483648 by omega), kw_let_def, km_next]
    have skip : S k = false → kr_cntb S (k + 1) = kr_cntb S k ∧ kn_en S (k + 1) = kn_en S k := fun q => by
      rw [kr_cntb_s, kn_en_s, q, kn_ft, kn_ft]
      exact ⟨rfl, rfl⟩
    cases hb : kw_bI a1 k with
    | false =>
      left
      rw [kn_ff]
      obtain ⟨s1, s2⟩ := skip (by rw [hS, hb]; rfl)
      refine ⟨hkn, _, rfl, rfl, ?_, ?_, ?_, h5, h6, h7⟩
      · rw [s1]; exact h2
      · rw [s1]; exact h3
      · rw [s1, s2]; exact h4
    | true =>
      rw [kn_tf]
      by_cases hko : k = o
      · left
        rw [if_pos hko]
        obtain ⟨s1, s2⟩ := skip (by rw [hS, hb, decide_eq_true hko]; rfl)
        refine ⟨hkn, _, rfl, rfl, ?_, ?_, ?_, h5, h6, h7⟩
        · rw [s1]; exact h2
        · rw [s1]; exact h3
        · rw [s1, s2]; exact h4
      · rw [if_neg hko]
        have hSk : S k = true := by rw [hS, hb, decide_eq_false hko]; rfl
        have s1 : kr_cntb S (k + 1) = kr_cntb S k + 1 := by rw [kr_cntb_s, hSk, kn_tt]
        have s2 : kn_en S (k + 1) = fun i => if i = kr_cntb S k then k else kn_en S k i := by rw [kn_en_s, hSk, kn_tt]
        by_cases h66 : kr_cntb S k = 6
        · right
          rw [h3, if_pos (by rw [h66]; decide)]
          refine ⟨_, rfl, fun q => ?_, fun _ => ⟨τ, rfl, h5, h6, h7⟩⟩
          have := kr_cntb_mn S (k + 1) (n - (k + 1))
          rw [show k + 1 + (n - (k + 1)) = n by omega] at this
          omega
        · left
          rw [h3, if_neg (fun q => h66 (by
            rw [show (6 : Int32) = nI 6 by decide, kn_eq (by omega) (by decide)] at q
            exact q)), kn_chk (show kr_cntb S k < 6 by omega) (by decide), kn_clamp (by omega), kw_si_o (by decide), h3, km_next]
          refine ⟨hkn, _, rfl, rfl, by omega, ?_, fun i hi => ?_, fun c hc0 hc19 => ?_, fun j hj => ?_, h7⟩
          · show (kw_si (kw_si τ 19 (kr_cntb S k) (nI k)) 0 31 (nI (kr_cntb S k + 1))).1 0 31 = _
            rw [kw_si_1, kw_upd_e, s1]
          · show (kw_si (kw_si τ 19 (kr_cntb S k) (nI k)) 0 31 (nI (kr_cntb S k + 1))).1 19 i = _
            rw [kw_si_o (by decide), kw_si_1, s2]
            by_cases e : i = kr_cntb S k
            · dsimp only
              rw [e, kw_upd_e, if_pos rfl]
            · dsimp only
              rw [kw_upd_n e, if_neg e]; exact h4 i (by omega)
          · show (kw_si (kw_si τ 19 (kr_cntb S k) (nI k)) 0 31 (nI (kr_cntb S k + 1))).1 c = _
            rw [kw_si_o hc0, kw_si_o hc19]; exact h5 c hc0 hc19
          · show (kw_si (kw_si τ 19 (kr_cntb S k) (nI k)) 0 31 (nI (kr_cntb S k + 1))).1 0 j = _
            rw [kw_si_1, kw_upd_n hj, kw_si_o (by decide)]; exact h6 j hj)
/-- both sides try the same orders -/
theorem kr_tk_tr {P : Nat → Nat → Option Int} {o n : Nat} {S : Nat → Bool} : kr_tk P o (kr_cntb S n) (kn_en S n) (kn_Q (kr_cntb S n)).length = kr_tr P o n (kr_cntb S n) S o 0 [] (none, []) := by
  obtain ⟨e1, e2, e3⟩ := kn_en_p S n
  have hinj : ∀ i j, i < kr_cntb S n → j < kr_cntb S n → kn_en S n i = kn_en S n j → i = j := fun i j hi hj h => by
    rcases Nat.lt_trichotomy i j with q | q | q
    · have := e2 i j q hj; omega
    · exact q
    · have := e2 j i q hi; omega
  unfold kr_tk kr_tr
  rw [kr_os_T hinj e3 (kr_cntb S n) S (fun q h => h), kr_os_c (kr_cntb S n) (fun i => S (kn_en S n i)) (fun _ => true) (fun i hi => (e1 i hi).2), List.take_length, List.foldl_map]
  refine kr_foldl_c (fun s l => ?_) _ _
  have e0 : kr_plus (some 0) (kr_ol P o o (l.map (kn_en S n))) = kr_ol P o o (l.map (kn_en S n)) := by
    cases kr_ol P o o (l.map (kn_en S n)) with
    | none => rfl
    | some z =>
      show some (0 + z) = some z
      rw [Int.zero_add]
  rw [e0]
  rfl
theorem ko_round {σX σM : kw_M} {a1 a2 : Int32} (hR : kw_Rel σX σM) : ∃ a τX τM, fX9_round a1 a2 σX = some (a, τX) ∧ fX10_round a1 a2 σM = some (a, τM) ∧ kw_Rel τX τM := by
  obtain ⟨n, m, o, hok, hsh, hkp, htp, hpr⟩ := hR
  have same : kw_Rel σX σM := ⟨n, m, o, hok, hsh, hkp, htp, hpr⟩
  have h2 := hok.1.2.1
  have h12 := hok.1.2.2.1
  have hon := hok.2.2.1
  have hnX : σX.1 12 0 = nI n := hsh.1.1.trans hok.1.1
  have hoX : σX.1 1 2 = nI o := hsh.2.1.1.trans hok.2.1
  unfold fX9_round fX10_round fX10_towns
  rw [kx_hasAll hnX h12, Option.bind_some, Option.bind_some, hok.1.1, km_in, km_in, Int32.toInt_toInt64, Int32.toInt_toInt64, Int32.toInt_toInt64, kw_topI n (by omega)]
  simp only [Option.bind_some, kx_fl_0, show (0 : Int64).toInt = 0 by decide, show (6 : Int64).toInt = 6 by decide]
  by_cases t1 : 0 ≤ a1.toInt ∧ a1.toInt ≤ 2 ^ n - 1
  case neg =>
    rw [decide_eq_false t1, kn_ff, kn_ff]
    exact ⟨_, _, _, rfl, rfl, same⟩
  rw [decide_eq_true t1, kn_tf, kn_tf]
  by_cases t2 : 0 ≤ a2.toInt ∧ a2.toInt ≤ 6
  case neg =>
    rw [decide_eq_false t2, kn_ff]
    refine ⟨_, _, _, ?_, rfl, same⟩
    by_cases q : a2 < 0
    · rw [if_pos q]
    · rw [if_neg q, if_neg (fun q2 => t2 (by
        rw [Int32.lt_iff_toInt_lt, show (0 : Int32).toInt = 0 by decide] at q
        rw [Int32.le_iff_toInt_le, show (6 : Int32).toInt = 6 by decide] at q2
        omega))]
  rw [decide_eq_true t2, kn_tf]
  obtain ⟨w, hw, rfl⟩ := kw_arg (x := a2) (n := 7) (by omega) ⟨t2.1, by omega⟩
  rw [if_neg (kn_neg (by omega)), if_pos (show nI w ≤ (6 : Int32) by rw [show (6 : Int32) = nI 6 by decide, kn_le (by omega) (by omega)]; omega), kw_let_def, kw_let_def, hoX]
  have hbw : ∀ q, q < 32 → kw_bI (a1 &&& (((1 : Int32) <<< (nI o &&& 31)) ^^^ (-1 : Int32))) q = (kw_bI a1 q && !decide (q = o)) := fun q hq => kw_bI_cl (by omega) hq
  have hSn : ∀ q, (kw_bI a1 q && !decide (q = o)) = true → q < n := fun q hq => kw_set_lt h12 t1 (by rw [Bool.and_eq_true] at hq; exact hq.1)
  generalize hSd : (fun q => (kw_bI a1 q && !decide (q = o))) = S
  have hS : ∀ q, S q = (kw_bI a1 q && !decide (q = o)) := fun q => by rw [← hSd]
  simp only [← hS] at hbw hSn
  generalize a1 &&& (((1 : Int32) <<< (nI o &&& 31)) ^^^ (-1 : Int32)) = x5 at hbw ⊢
  rw [kx_bc32 h12 hbw hSn, Option.bind_some]
  obtain ⟨x, g1, g2, g3⟩ := km_ogather (σ := kw_si σM 0 31 0) (a1 := a1) (a2 := nI w) (S := S) hS (by rw [kw_si_o (by decide)]; exact hok.1.1) (by rw [kw_si_o (by decide)]; exact hok.2.1) h12 hon (by rw [kw_si_1, kw_upd_e])
  rw [g1, Option.bind_some]
  by_cases hc6 : kr_cntb S n ≤ 6
  case neg =>
    obtain ⟨τ, rfl, f1, f2, f3⟩ := g3 (by omega)
    rw [if_neg (by rw [show (6 : Int32) = nI 6 by decide, kn_le (by have := kr_cntb_le S n; omega) (by omega)]; exact hc6), Sum.elim_inl]
    refine ⟨_, _, _, rfl, rfl, kw_Rel_a hok hsh hkp htp ⟨⟨fun _ _ => rfl, fun _ _ => rfl⟩, ⟨fun _ _ => rfl, fun _ _ => rfl⟩, hpr⟩ ⟨?_, ?_, ?_, ?_⟩⟩
    · rw [f1 1 (by decide) (by decide), kw_si_o (by decide)]
    · rw [f2 1 (by decide), kw_si_1, kw_upd_n (by decide)]
    · rw [f2 6 (by decide), kw_si_1, kw_upd_n (by decide)]
    · rw [f1 5 (by decide) (by decide), kw_si_o (by decide)]
  obtain ⟨τ, rfl, f0, fo, f1, f2, f3⟩ := g2 hc6
  rw [if_pos (show nI (kr_cntb S n) ≤ (6 : Int32) by rw [show (6 : Int32) = nI 6 by decide, kn_le (by omega) (by omega)]; exact hc6), Sum.elim_inr]
  have eF : τ.1 1 = σM.1 1 := by rw [f1 1 (by decide) (by decide), kw_si_o (by decide)]
  have hokτ : kb_ok (τ.1 1) n m o := by rw [eF]; exact hok
  obtain ⟨ρ, p1, p2, p3, p4⟩ := km_pairs hokτ
  rw [p1, Option.bind_some]
  obtain ⟨ν, x1, x2, x3, x4⟩ := kx_right hok hsh hpr
  have xq := kx_prt_q x2 x3 x4
  rw [x1, Option.bind_some, x3 1 (by decide), x3 12 (by decide), hoX, hnX]
  have hbt : kp_bt (kb_P (σM.1 1) n m) n := fun a _ => kb_D_in2 hok.1.2.2.2.1 h12
  obtain ⟨e1, e2, e3⟩ := kn_en_p S n
  obtain ⟨ν2, y1, y2, y3, y4, y5⟩ := kx_findRound (w := x5) hok x2 hc6 rfl hbw hSn
  obtain ⟨ρ2, z1, z2, z3, z4⟩ := km_rounds (σ := ρ) (P := kb_P (σM.1 1) n m) (a2 := nI w) (T := kn_en S n) (c := kr_cntb S n) (n := n) (o := o) ⟨by rw [p2, eF]; exact hok.1.1, fun a ha b hb => by rw [p4 a ha b hb, eF]; rfl⟩ hbt h12 hon (by rw [p2, eF]; exact hok.2.1) hc6 (by rw [p2]; exact f0) (fun i hi => (e1 i hi).1) e2 (fun i hi => by rw [p2]; exact fo i hi)
  rw [y1, Option.bind_some, z1, Option.bind_some]
  rw [kr_tk_tr] at z2 ⊢
  have rel : kw_Rel ν2 ρ2 := kw_Rel_a hok hsh hkp htp ⟨kx_kO_t xq.1 ⟨fun c hc => y2 c (by omega) (by omega) (by omega), fun c hc => y3 c (by omega)⟩, kx_kN_t xq.2.1 ⟨fun c hc => y2 c (by omega) (by omega) (by omega), fun c hc => y3 c (by omega)⟩, Or.inr (by
    obtain ⟨u1, u2, u3⟩ := x2
    refine ⟨by rw [y2 5 (by decide) (by decide) (by decide)]; exact u1, by rw [y2 5 (by decide) (by decide) (by decide)]; exact u2, fun a ha b hb => ?_⟩
    rw [y3 39 (by decide)]
    exact u3 a ha b hb)⟩ ⟨by rw [z3 1 (by decide) (by decide), p2, eF], by rw [z3 0 (by decide) (by decide), p2, f2 1 (by decide), kw_si_1, kw_upd_n (by decide)], by rw [z3 0 (by decide) (by decide), p2, f2 6 (by decide), kw_si_1, kw_upd_n (by decide)], by rw [z3 5 (by decide) (by decide), p2, f1 5 (by decide) (by decide), kw_si_o (by decide)]⟩
  generalize kr_tr (kb_P (σM.1 1) n m) o n (kr_cntb S n) S o 0 [] (none, []) = s at y4 y5 z2 ⊢
  have hbd : kr_bd s.1 := fun z hz => by have := y5 z hz; omega
  dsimp only
  unfold jX10_round_194
  rw [km_told hbd, Option.bind_some, kx_bc32 h12 hbw hSn, Option.bind_some, z3 0 (by decide) (by decide), p2, f0]
  by_cases hw0 : nI w = 0
  · rw [if_pos hw0, if_pos hw0]
    refine ⟨_, _, _, rfl, ?_, rel⟩
    by_cases q : km_enc s.1 = 900000000000000000
    · rw [if_pos q]
    · rw [if_neg q]
  rw [if_neg hw0, if_neg hw0]
  have hw1 : w ≠ 0 := fun q => hw0 (by rw [q]; rfl)
  cases hs : s.1 with
  | none =>
    rw [if_pos (show kx_enc none = -9000000000000000000 from rfl), if_pos (show km_enc none = 900000000000000000 from rfl)]
    exact ⟨_, _, _, rfl, rfl, rel⟩
  | some z =>
    rw [hs] at hbd
    have hz := hbd z rfl
    rw [if_neg (fun q => by rw [kx_enc_no (fun y hy => hbd y hy)] at q; cases q), if_neg (km_enc_no hz)]
    by_cases q : nI (kr_cntb S n) < nI w
    · rw [if_pos q, if_pos q]
      exact ⟨_, _, _, rfl, rfl, rel⟩
    · have q' := q
      rw [kn_lt (by omega) (by omega)] at q'
      rw [if_neg q, if_neg q, kn_1, kn_sub (show 1 ≤ w by omega), kn_chk (show w - 1 < 6 by omega) (by decide), kn_chk (show w - 1 < 6 by omega) (by decide), kn_clamp (by omega), y4.2 (by rw [hs]; simp) (w - 1) (by omega), z2 (by rw [hs]; simp) (w - 1) (by omega)]
      exact ⟨_, _, _, rfl, rfl, rel⟩
