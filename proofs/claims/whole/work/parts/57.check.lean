/-! check. -/
theorem kx_canGive {σ : kw_M} {x lo hi : Int32} {s : Nat} (hs : σ.1 3 0 = nI s) (h : s ≤ 240) : fX8_canGive x lo hi σ = some (kx_fl (decide (lo.toInt ≤ x.toInt ∧ x.toInt ≤ hi.toInt ∧ x.toInt ≤ s))) := by
  unfold fX8_canGive
  rw [hs]
  simp only [Int32.lt_iff_toInt_lt, nI_toInt (show s < 2 ^ 31 by omega)]
  by_cases h1 : x.toInt < lo.toInt
  · rw [if_pos h1, decide_eq_false (by omega)]; rfl
  · rw [if_neg h1]
    by_cases h2 : hi.toInt < x.toInt
    · rw [if_pos h2, decide_eq_false (by omega)]; rfl
    · rw [if_neg h2]
      by_cases h3 : (s : Int) < x.toInt
      · rw [if_pos h3, decide_eq_false (by omega)]; rfl
      · rw [if_neg h3, decide_eq_true (by omega)]; rfl
/-- a parent as a byte -/
def kx_pb (o : Option Nat) : Int32 := match o with
  | none => 255
  | some r => nI r
def kb_pok (F : Nat → Int32) (n m o : Nat) (B : Nat → Int32) (t : Nat) : Bool := decide (t < n) && decide (B t = kx_pb (kr_par (km_gr F m (-1)) (kb_D F n m o) t))
theorem kx_isPB {σ : kw_M} {F : Nat → Int32} {n m o t : Nat} {x : Int32} (hok : kb_ok F n m o) (hsh : kx_sh σ 1 12 F n m o) (ht : t < 12) : fX9_isParentByte (nI t) x σ = some (kx_fl (decide (t < n) && decide (x = kx_pb (kr_par (km_gr F m (-1)) (kb_D F n m o) t)))) := by
  have hm := hok.1.2.2.2.1.1
  have h12 := hok.1.2.2.1
  have hnX : σ.1 12 0 = nI n := hsh.1.1.trans hok.1.1
  have h17 : σ.1 17 t = kx_pe (kr_par (km_gr F m (-1)) (kb_D F n m o) t) := hsh.2.2.2.2.2.1 t ht
  unfold fX9_isParentByte jX9_isParentByte_45
  rw [kx_hasTown hnX h12, Option.bind_some, nI_toInt (by omega), kn_chk (by omega) (by decide), kn_clamp (by omega), h17]
  simp only [kx_fl_0]
  by_cases q : t < n
  · rw [decide_eq_true (show 0 ≤ (t : Int) ∧ (t : Int) < n by omega), decide_eq_true q, Bool.true_and, kn_tf]
    cases hp : kr_par (km_gr F m (-1)) (kb_D F n m o) t with
    | none =>
      rw [if_pos (show kx_pe none = -1 from rfl)]
      by_cases q2 : x = 255
      · rw [if_pos q2, decide_eq_true (show x = kx_pb none from q2)]; rfl
      · rw [if_neg q2, decide_eq_false (show ¬ x = kx_pb none from q2)]; rfl
    | some r =>
      have hr : r < m := (kr_par_some hp).1
      rw [if_neg (show ¬ kx_pe (some r) = -1 from kb_neg1 (by omega))]
      by_cases q2 : x = kx_pe (some r)
      · rw [if_pos q2, decide_eq_true (show x = kx_pb (some r) from q2)]; rfl
      · rw [if_neg q2, decide_eq_false (show ¬ x = kx_pb (some r) from q2)]; rfl
  · rw [decide_eq_false (show ¬ (0 ≤ (t : Int) ∧ (t : Int) < n) by omega), decide_eq_false q, Bool.false_and, kn_ff]; rfl
theorem ko_check {σX σM : kw_M} {a1 : Int32} (hR : kw_Rel σX σM) : ∃ a τX τM, fX9_check a1 σX = some (a, τX) ∧ fX10_check a1 σM = some (a, τM) ∧ kw_Rel τX τM := by
  obtain ⟨n, m, o, hok, hsh, hkp, htp, hpr⟩ := hR
  have same : kw_Rel σX σM := ⟨n, m, o, hok, hsh, hkp, htp, hpr⟩
  obtain ⟨s, hs1, hs2, hs3, hs4⟩ := htp
  have h2 := hok.1.2.1
  have h12 := hok.1.2.2.1
  have hm := hok.1.2.2.2.1.1
  have hon := hok.2.2.1
  unfold fX9_check fX10_check
  rw [kx_canGive hs2 hs1, km_in, Int32.toInt_toInt64, hs3]
  simp only [Option.bind_some, kx_fl_0, show (0 : Int64).toInt = 0 by decide, show (12 : Int64).toInt = 12 by decide, show (0 : Int32).toInt = 0 by decide, show (12 : Int32).toInt = 12 by decide, Int32.le_iff_toInt_le, nI_toInt (show s < 2 ^ 31 by omega)]
  by_cases t1 : 0 ≤ a1.toInt ∧ a1.toInt ≤ 12
  case neg =>
    rw [decide_eq_false t1, decide_eq_false (show ¬ (0 ≤ a1.toInt ∧ a1.toInt ≤ 12 ∧ a1.toInt ≤ s) by omega), kn_ff, kn_ff]
    exact ⟨_, _, _, rfl, rfl, same⟩
  rw [decide_eq_true t1, kn_tf]
  by_cases t2 : a1.toInt ≤ s
  case neg =>
    rw [decide_eq_false (show ¬ (0 ≤ a1.toInt ∧ a1.toInt ≤ 12 ∧ a1.toInt ≤ s) by omega), kn_ff, if_neg t2]
    exact ⟨_, _, _, rfl, rfl, same⟩
  rw [decide_eq_true (show 0 ≤ a1.toInt ∧ a1.toInt ≤ 12 ∧ a1.toInt ≤ s by omega), kn_tf, if_pos t2]
  obtain ⟨N, hN, rfl⟩ := kw_arg (x := a1) (n := 13) (by omega) ⟨by omega, by omega⟩
  rw [nI_toInt (by omega)] at t1 t2
  obtain ⟨ρ, s1, s2, s3, s4⟩ := km_settles' hok.1.2.2.2.1 hok.1.1 (by omega) h12 hok.2.1 (by omega)
  have hwρ : km_wf (ρ.1 1) m := by rw [s2]; exact hok.1.2.2.2.1
  -- the class goes up to the first that is wrong
  obtain ⟨x, hx, hq⟩ := kw_for (body := fun q => bX9_check_19 (nI N) σX q) (fun k q => q = nI k ∧ ∀ i, i < k → kb_pok (σM.1 1) n m o (σX.1 35) i = true) (fun x => ∃ e, x = nI e ∧ e ≤ N ∧ (if e = N then -1 else nI e) = kx_pe (kr_low (fun t => !kb_pok (σM.1 1) n m o (σX.1 35) t) N)) N (by omega) (s0 := (0 : Int32)) ⟨rfl, fun i hi => absurd hi (Nat.not_lt_zero _)⟩ (fun k q hk hp => by
    obtain ⟨rfl, hi⟩ := hp
    unfold bX9_check_19
    by_cases h : k < N
    · rw [if_neg (nI_ge h (by omega)), kn_chk (by omega) (by decide), kn_clamp (by omega), kx_isPB hok hsh (by omega), Option.bind_some]
      simp only [kx_fl_0, kw_let_def, km_next]
      cases hpk : kb_pok (σM.1 1) n m o (σX.1 35) k with
      | true =>
        left
        refine ⟨h, _, ?_, rfl, fun i hi' => ?_⟩
        · rw [show (decide (k < n) && decide (σX.1 35 k = kx_pb (kr_par (km_gr (σM.1 1) m (-1)) (kb_D (σM.1 1) n m o) k))) = true from hpk, kn_tf]
        · by_cases e : i = k
          · rw [e]; exact hpk
          · exact hi i (by omega)
      | false =>
        right
        refine ⟨nI k, ?_, k, rfl, by omega, ?_⟩
        · rw [show (decide (k < n) && decide (σX.1 35 k = kx_pb (kr_par (km_gr (σM.1 1) m (-1)) (kb_D (σM.1 1) n m o) k))) = false from hpk, kn_ff]
        · rw [if_neg (by omega), kr_low_s N k h (by rw [hpk]; rfl) (fun i hi' => by rw [hi i hi']; rfl)]
          rfl
    · right
      obtain rfl : k = N := by omega
      refine ⟨nI k, by rw [if_pos (nI_le (Nat.le_refl k) (by omega))], k, rfl, by omega, ?_⟩
      rw [if_pos rfl, kr_low_n k (fun i hi' => by rw [hi i hi']; rfl)]
      rfl)
  obtain ⟨e, he1, he2, he3⟩ := hq
  -- the reference comes down, and keeps the last that is wrong
  obtain ⟨y, hy, hyq⟩ := kw_for (body := fun q => bX10_check_33 ρ q.1 q.2) (fun k q => q.2 = nI (N - k) - 1 ∧ q.1 = kx_pe (kr_low (fun t => decide (N - k ≤ t) && !kb_pok (σM.1 1) n m o (σX.1 35) t) N)) (fun x => x = kx_pe (kr_low (fun t => !kb_pok (σM.1 1) n m o (σX.1 35) t) N)) N (by omega) (s0 := ((-1 : Int32), nI N - 1)) ⟨by rw [Nat.sub_zero], by
      rw [kr_low_n N (fun i hi => by rw [decide_eq_false (by omega), Bool.false_and])]
      rfl⟩ (fun k q hk hp => by
    obtain ⟨v2, v3⟩ := q
    obtain ⟨h3, h4⟩ := hp
    dsimp only at h3 h4 ⊢
    subst h3 h4
    unfold bX10_check_33
    by_cases h : k < N
    · left
      refine ⟨h, ?_⟩
      have ev : nI (N - k) - 1 = nI (N - k - 1) := by rw [kn_1, kn_sub (by omega)]
      have ev2 : nI (N - k - 1) + (-1 : Int32) = nI (N - (k + 1)) - 1 := by rw [show N - (k + 1) = N - k - 1 by omega]; exact (Int32.sub_eq_add_neg (nI (N - k - 1)) 1).symm
      have hlow : kr_low (fun t => decide (N - (k + 1) ≤ t) && !kb_pok (σM.1 1) n m o (σX.1 35) t) N = if (!kb_pok (σM.1 1) n m o (σX.1 35) (N - k - 1)) = true then some (N - k - 1) else kr_low (fun t => decide (N - k ≤ t) && !kb_pok (σM.1 1) n m o (σX.1 35) t) N := by
        have := kr_low_from (p := fun t => !kb_pok (σM.1 1) n m o (σX.1 35) t) (m := N) (a := N - k - 1) (by omega)
        rw [show N - k - 1 + 1 = N - k by omega] at this
        exact this
      have hbyte : σX.1 35 (N - k - 1) = σM.1 5 (N - k - 1) &&& 255 := hs4 _ (by omega)
      unfold fX10_towns
      rw [ev, if_neg (nI_pos (by omega)), s2, hok.1.1, Option.bind_some]
      simp (disch := omega) only [kn_le]
      rw [hlow]
      by_cases hn : n ≤ N - k - 1
      · have hpf : kb_pok (σM.1 1) n m o (σX.1 35) (N - k - 1) = false := by unfold kb_pok; rw [decide_eq_false (by omega), Bool.false_and]
        rw [if_pos hn, kw_let_def, ev2, hpf, if_pos (by rfl)]
        exact ⟨_, rfl, rfl, rfl⟩
      · rw [if_neg hn, kn_chk (by omega) (by decide), km_parentOf hwρ (by omega) s3 (kb_row hok), s2, Option.bind_some, Option.bind_some, kn_clamp (by omega), ← hbyte]
        have hpt : kb_pok (σM.1 1) n m o (σX.1 35) (N - k - 1) = decide (σX.1 35 (N - k - 1) = kx_pb (kr_par (km_gr (σM.1 1) m (-1)) (kb_D (σM.1 1) n m o) (N - k - 1))) := by unfold kb_pok; rw [decide_eq_true (show N - k - 1 < n by omega), Bool.true_and]
        rw [hpt]
        have hj : ∀ z : Int32, jX10_check_75_L33 (kx_pe (kr_low (fun t => decide (N - k ≤ t) && !kb_pok (σM.1 1) n m o (σX.1 35) t) N)) (nI (N - k - 1)) z (σX.1 35 (N - k - 1)) ρ = if σX.1 35 (N - k - 1) = z then some (.inl (kx_pe (kr_low (fun t => decide (N - k ≤ t) && !kb_pok (σM.1 1) n m o (σX.1 35) t) N), nI (N - (k + 1)) - 1)) else some (.inl (nI (N - k - 1), nI (N - (k + 1)) - 1)) := fun z => by
          unfold jX10_check_75_L33
          rw [kw_let_def, kw_let_def, ev2]
        have hsel : ∀ v : Int32, (if σX.1 35 (N - k - 1) = v then some (.inl (kx_pe (kr_low (fun t => decide (N - k ≤ t) && !kb_pok (σM.1 1) n m o (σX.1 35) t) N), nI (N - (k + 1)) - 1)) else some (.inl (nI (N - k - 1), nI (N - (k + 1)) - 1)) : Option ((Int32 × Int32) ⊕ Int32)) = some (.inl (kx_pe (if (!decide (σX.1 35 (N - k - 1) = v)) = true then some (N - k - 1) else kr_low (fun t => decide (N - k ≤ t) && !kb_pok (σM.1 1) n m o (σX.1 35) t) N), nI (N - (k + 1)) - 1)) := fun v => by
          by_cases q : σX.1 35 (N - k - 1) = v
          · rw [if_pos q, decide_eq_true q, if_neg (by decide)]
          · rw [if_neg q, decide_eq_false q, if_pos (by rfl)]
            rfl
        cases hp : kr_par (km_gr (σM.1 1) m (-1)) (kb_D (σM.1 1) n m o) (N - k - 1) with
        | none =>
          rw [if_pos (show kx_pe none = -1 from rfl), hj, hsel]
          exact ⟨_, rfl, rfl, rfl⟩
        | some r =>
          have hr : r < m := (kr_par_some hp).1
          rw [if_neg (show ¬ kx_pe (some r) = -1 from kb_neg1 (by omega)), hj, hsel]
          exact ⟨_, rfl, rfl, rfl⟩
    · right
      obtain rfl : k = N := by omega
      rw [Nat.sub_self, if_pos (by decide)]
      refine ⟨_, rfl, ?_⟩
      refine congrArg (fun p => kx_pe (kr_low p k)) ?_
      funext t
      rw [decide_eq_true (Nat.zero_le t), Bool.true_and])
  rw [hx, Option.bind_some, s1, Option.bind_some, kw_let_def, hy, Option.bind_some, kw_let_def]
  unfold jX9_check_47
  rw [kw_let_def, he1]
  simp only [kn_eq (show e < 2147483648 by omega) (show N < 2147483648 by omega)]
  have hans : (if e = N then some ((-1 : Int32), kw_si σX 3 0 0) else some (nI e, kw_si σX 3 0 0)) = some (kx_pe (kr_low (fun t => !kb_pok (σM.1 1) n m o (σX.1 35) t) N), kw_si σX 3 0 0) := by
    rw [← he3]
    by_cases q : e = N
    · rw [if_pos q, if_pos q]
    · rw [if_neg q, if_neg q]
  rw [hans, hyq]
  have kN : kx_kN σX (kw_si σX 3 0 0) := ⟨fun c hc => kw_si_o (by omega), fun _ _ => rfl⟩
  have low : ∀ j, (kw_si ρ 0 6 0).1 1 j = σM.1 1 j := fun j => by rw [kw_si_o (by decide), s2]
  refine ⟨_, _, _, rfl, rfl, n, m, o, kb_ok_eq hok (fun j _ => low j), kx_sh_eq hok (kx_sh_N hsh kN) (fun j _ => low j), ?_, ⟨0, by omega, ?_, ?_, fun i hi => absurd hi (Nat.not_lt_zero _)⟩, kx_pr_eq hpr (kw_si_o (by decide)) rfl (fun j _ _ => low j)⟩
  · obtain ⟨k1, k2⟩ := hkp
    refine ⟨by rw [kw_si_o (by decide), kw_si_1, kw_upd_n (by decide), s2]; exact k1, ?_⟩
    rw [kw_si_1, kw_upd_n (by decide), s2]
    rcases k2 with k2 | ⟨k2, n', m', o', hok', hsh'⟩
    · exact Or.inl k2
    · refine Or.inr ⟨k2, n', m', o', kb_ok_eq hok' (fun j _ => low _), kx_sh_eq hok' ?_ (fun j _ => low _)⟩
      exact kx_sh_fr (Or.inr rfl) hsh' (kw_si_o (by decide)) (fun c h5 h6 => kw_si_o (by omega)) rfl rfl rfl
  · rw [kw_si_1, kw_upd_e]; rfl
  · rw [kw_si_1, kw_upd_e]; rfl
