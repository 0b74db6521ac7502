/-! meet: the call. -/
def kp_lo (G : Nat → Option Int) (o : Option Nat) : Option Int := match o with
  | none => none
  | some b => G b
def kp_mb (G : Nat → Option Int) : Nat → Option Nat
  | 0 => none
  | k + 1 => if kr_ls (G k) (kp_lo G (kp_mb G k)) = true then some k else kp_mb G k
theorem kp_mb_s (G : Nat → Option Int) (k : Nat) : kp_mb G (k + 1) = if kr_ls (G k) (kp_lo G (kp_mb G k)) = true then some k else kp_mb G k := rfl
theorem kp_mb_lt (G : Nat → Option Int) : ∀ k b : Nat, kp_mb G k = some b → b < k ∧ (G b).isSome = true
  | 0, b, h => by cases h
  | k + 1, b, h => by
    rw [kp_mb_s] at h
    by_cases q : kr_ls (G k) (kp_lo G (kp_mb G k)) = true
    · rw [if_pos q] at h
      cases h
      refine ⟨by omega, ?_⟩
      cases hg : G k with
      | none => rw [hg] at q; cases q
      | some z => rfl
    · rw [if_neg q] at h
      have := kp_mb_lt G k b h
      exact ⟨by omega, this.2⟩
theorem kp_lo_bd {G : Nat → Option Int} (hG : ∀ t, kr_bd (G t)) (o : Option Nat) : kr_bd (kp_lo G o) := by
  cases o with
  | none => exact kr_bd_none
  | some b => exact hG b
theorem kp_ga_bd {P : Nat → kr_D} {S : Nat → Bool} {gr : Bool} {n t : Nat} (hP : kp_bt P n) (h12 : n ≤ 12) : kr_bd (kp_ga P S gr n t) := by
  unfold kp_ga
  by_cases q : kr_anyTo (kp_miss P S t) n = true
  · rw [if_pos q]; exact kr_bd_none
  · rw [if_neg q]
    cases gr with
    | true => rw [if_pos rfl]; exact kp_max_bd hP n (Nat.le_refl _)
    | false =>
      rw [if_neg (by decide)]
      have := kp_sum_bd (S := S) (at0 := t) hP n (Nat.le_refl _)
      intro z hz
      cases hz
      have : (n : Int) ≤ 12 := by omega
      omega
theorem kx_meeting {σ : kw_M} {P : Nat → kr_D} {n : Nat} {a : Int32} {gr : Bool} (h : kx_P σ P n) (hP : kp_bt P n) (h12 : n ≤ 12) (hne : ∃ t, t < n ∧ kw_bI a t = true) : fX2_meetingOf a (kx_fl gr) σ = some (kx_pe (kp_mb (kp_ga P (kw_bI a) gr n) n)) := by
  have hr := kw_loop_at (body := fun s => bX2_meetingOf_10 a (kx_fl gr) σ s.1 s.2.1 s.2.2) (fun k => (kx_pe (kp_mb (kp_ga P (kw_bI a) gr n) k), kx_enc (kp_lo (kp_ga P (kw_bI a) gr n) (kp_mb (kp_ga P (kw_bI a) gr n) k)), nI k)) (x := kx_pe (kp_mb (kp_ga P (kw_bI a) gr n) n)) n (fun k hk => by
    show bX2_meetingOf_10 a (kx_fl gr) σ (kx_pe (kp_mb (kp_ga P (kw_bI a) gr n) k)) (kx_enc (kp_lo (kp_ga P (kw_bI a) gr n) (kp_mb (kp_ga P (kw_bI a) gr n) k))) (nI k) = _
    unfold bX2_meetingOf_10
    rw [h.1, if_neg (nI_ge hk (by omega)), kx_together h hP hk h12 hne, Option.bind_some, kx_isLess (kp_ga_bd hP h12) (kp_lo_bd (fun t => kp_ga_bd hP h12) _), Option.bind_some]
    simp only [kx_fl_0, kw_let_def, km_next]
    show _ = some (Sum.inl (kx_pe (kp_mb (kp_ga P (kw_bI a) gr n) (k + 1)), kx_enc (kp_lo (kp_ga P (kw_bI a) gr n) (kp_mb (kp_ga P (kw_bI a) gr n) (k + 1))), nI (k + 1)))
    rw [kp_mb_s]
    cases hl : kr_ls (kp_ga P (kw_bI a) gr n k) (kp_lo (kp_ga P (kw_bI a) gr n) (kp_mb (kp_ga P (kw_bI a) gr n) k)) with
    | false => rw [kn_ff, kn_ft]
    | true => rw [kn_tf, kn_tt]; rfl) (by
    show bX2_meetingOf_10 a (kx_fl gr) σ (kx_pe (kp_mb (kp_ga P (kw_bI a) gr n) n)) _ (nI n) = _
    unfold bX2_meetingOf_10
    rw [h.1, if_pos (nI_le (Nat.le_refl n) (by omega))]) (by omega)
  have hr' : kw_loop (fun s => bX2_meetingOf_10 a (kx_fl gr) σ s.1 s.2.1 s.2.2) kw_F ((-1 : Int32), (-9000000000000000000 : Int64), (0 : Int32)) = some (kx_pe (kp_mb (kp_ga P (kw_bI a) gr n) n)) := hr
  unfold fX2_meetingOf
  rw [hr']
  rfl
theorem km_meeting {σ : kw_M} {P : Nat → kr_D} {n : Nat} {a a2 : Int32} {gr : Bool} (h : km_P σ P n) (hP : kp_bt P n) (h12 : n ≤ 12) (hne : ∃ t, t < n ∧ kw_bI a t = true) (hgr : gr = !decide (a2 ≤ 1)) : kw_loop (fun s => bX10_meet_48 a a2 σ s.1 s.2.1 s.2.2) kw_F ((-1 : Int32), (900000000000000000 : Int64), (0 : Int32)) = some (kx_pe (kp_mb (kp_ga P (kw_bI a) gr n) n), km_enc (kp_lo (kp_ga P (kw_bI a) gr n) (kp_mb (kp_ga P (kw_bI a) gr n) n))) := by
  have hr := kw_loop_at (body := fun s => bX10_meet_48 a a2 σ s.1 s.2.1 s.2.2) (fun k => (kx_pe (kp_mb (kp_ga P (kw_bI a) gr n) k), km_enc (kp_lo (kp_ga P (kw_bI a) gr n) (kp_mb (kp_ga P (kw_bI a) gr n) k)), nI k)) (x := (kx_pe (kp_mb (kp_ga P (kw_bI a) gr n) n), km_enc (kp_lo (kp_ga P (kw_bI a) gr n) (kp_mb (kp_ga P (kw_bI a) gr n) n)))) n (fun k hk => by
    show bX10_meet_48 a a2 σ (kx_pe (kp_mb (kp_ga P (kw_bI a) gr n) k)) (km_enc (kp_lo (kp_ga P (kw_bI a) gr n) (kp_mb (kp_ga P (kw_bI a) gr n) k))) (nI k) = _
    unfold bX10_meet_48 fX10_towns
    rw [h.1, Option.bind_some, if_neg (nI_ge hk (by omega))]
    have e0 : (if a2 ≤ (1 : Int32) then jX10_meet_71_L48 a a2 (kx_pe (kp_mb (kp_ga P (kw_bI a) gr n) k)) (km_enc (kp_lo (kp_ga P (kw_bI a) gr n) (kp_mb (kp_ga P (kw_bI a) gr n) k))) (nI k) 0 (nI k) a σ else jX10_meet_71_L48 a a2 (kx_pe (kp_mb (kp_ga P (kw_bI a) gr n) k)) (km_enc (kp_lo (kp_ga P (kw_bI a) gr n) (kp_mb (kp_ga P (kw_bI a) gr n) k))) (nI k) 1 (nI k) a σ) = jX10_meet_71_L48 a a2 (kx_pe (kp_mb (kp_ga P (kw_bI a) gr n) k)) (km_enc (kp_lo (kp_ga P (kw_bI a) gr n) (kp_mb (kp_ga P (kw_bI a) gr n) k))) (nI k) (kx_fl gr) (nI k) a σ := by
      by_cases q : a2 ≤ 1
      · rw [if_pos q, hgr, decide_eq_true q]; rfl
      · rw [if_neg q, hgr, decide_eq_false q]; rfl
    rw [e0]
    unfold jX10_meet_71_L48
    rw [km_gather h hP hk h12 hne, Option.bind_some]
    simp only [km_enc_lt (kp_ga_bd hP h12) (kp_lo_bd (fun t => kp_ga_bd hP h12) _), kw_let_def, km_next]
    show _ = some (Sum.inl (kx_pe (kp_mb (kp_ga P (kw_bI a) gr n) (k + 1)), km_enc (kp_lo (kp_ga P (kw_bI a) gr n) (kp_mb (kp_ga P (kw_bI a) gr n) (k + 1))), nI (k + 1)))
    rw [kp_mb_s]
    cases hl : kr_ls (kp_ga P (kw_bI a) gr n k) (kp_lo (kp_ga P (kw_bI a) gr n) (kp_mb (kp_ga P (kw_bI a) gr n) k)) with
    | false => rw [kn_ft, kn_ft]
    | true => rw [kn_tt, kn_tt]; rfl) (by
    show bX10_meet_48 a a2 σ (kx_pe (kp_mb (kp_ga P (kw_bI a) gr n) n)) _ (nI n) = _
    unfold bX10_meet_48 fX10_towns
    rw [h.1, Option.bind_some, if_pos (nI_le (Nat.le_refl n) (by omega))]) (by omega)
  exact hr
/-- the pairs of both sides, at hand -/
theorem kw_pairs {σX σM : kw_M} {n m o : Nat} (hok : kb_ok (σM.1 1) n m o) (hsh : kx_sh σX 1 12 (σM.1 1) n m o) (hpr : kx_pr σX (σM.1 1) n m) : ∃ τ ρ, fX9_rightPairs σX = some τ ∧ kx_P τ (fun a => kb_D (σM.1 1) n m a) n ∧ kx_q σX τ (σM.1 1) n m ∧ (∀ c, c ≠ 5 → τ.1 c = σX.1 c) ∧ (∀ c, c ≠ 39 → c ≠ 40 → τ.2 c = σX.2 c) ∧ τ.1 5 0 = 1 ∧ fX10_findsPairs σM = some ρ ∧ km_P ρ (fun a => kb_D (σM.1 1) n m a) n ∧ ρ.1 = σM.1 ∧ (∀ c, c ≠ 2 → c ≠ 15 → ρ.2 c = σM.2 c) ∧ kp_bt (fun a => kb_D (σM.1 1) n m a) n := by
  obtain ⟨τ, e1, e2, e3, e4⟩ := kx_right hok hsh hpr
  obtain ⟨ρ, p1, p2, p3, p4⟩ := km_pairs hok
  exact ⟨τ, ρ, e1, ⟨e2.2.1, e2.2.2⟩, kx_prt_q e2 e3 e4, e3, e4, e2.1, p1, ⟨by rw [p2]; exact hok.1.1, p4⟩, p2, p3, fun a _ => kb_D_in2 hok.1.2.2.2.1 hok.1.2.2.1⟩
theorem ko_meet {σX σM : kw_M} {a1 a2 : Int32} (hR : kw_Rel σX σM) : ∃ a τX τM, fX9_meet a1 a2 σX = some (a, τX) ∧ fX10_meet a1 a2 σM = some (a, τM) ∧ kw_Rel τX τM := by
  obtain ⟨n, m, o, hok, hsh, hkp, htp, hpr⟩ := hR
  have same : kw_Rel σX σM := ⟨n, m, o, hok, hsh, hkp, htp, hpr⟩
  have h2 := hok.1.2.1
  have h12 := hok.1.2.2.1
  have hnX : σX.1 12 0 = nI n := hsh.1.1.trans hok.1.1
  unfold fX9_meet fX10_meet fX10_towns
  rw [kx_hasAll hnX h12, Option.bind_some, Option.bind_some, hok.1.1, km_in, km_in, Int32.toInt_toInt64, Int32.toInt_toInt64, Int32.toInt_toInt64, kw_topI n (by omega)]
  simp only [Option.bind_some, kx_fl_0, show (0 : Int64).toInt = 0 by decide, show (1 : Int64).toInt = 1 by decide, show (3 : Int64).toInt = 3 by decide]
  by_cases z0 : a1 = 0
  · have : ¬ (1 ≤ a1.toInt ∧ a1.toInt ≤ 2 ^ n - 1) := by
      rw [z0, show (0 : Int32).toInt = 0 by decide]
      omega
    rw [if_pos z0, decide_eq_false this, kn_ff]
    exact ⟨_, _, _, rfl, rfl, same⟩
  rw [if_neg z0]
  have hz : a1.toInt ≠ 0 := fun q => z0 (Int32.toInt_inj.mp (by rw [q]; decide))
  by_cases t1 : 0 ≤ a1.toInt ∧ a1.toInt ≤ 2 ^ n - 1
  case neg =>
    rw [decide_eq_false t1, decide_eq_false (show ¬ (1 ≤ a1.toInt ∧ a1.toInt ≤ 2 ^ n - 1) by omega), kn_ff, kn_ff]
    exact ⟨_, _, _, rfl, rfl, same⟩
  rw [decide_eq_true t1, decide_eq_true (show 1 ≤ a1.toInt ∧ a1.toInt ≤ 2 ^ n - 1 by omega), kn_tf, kn_tf]
  have hne := kw_set_ne h12 t1 z0
  simp only [Int32.lt_iff_toInt_lt, Int32.le_iff_toInt_le, show (0 : Int32).toInt = 0 by decide, show (3 : Int32).toInt = 3 by decide, show (2 : Int32).toInt = 2 by decide]
  by_cases t2 : 0 ≤ a2.toInt ∧ a2.toInt ≤ 3
  case neg =>
    rw [decide_eq_false t2, kn_ff]
    refine ⟨_, _, _, ?_, rfl, same⟩
    by_cases q : a2.toInt < 0
    · rw [if_pos q]
    · rw [if_neg q, if_neg (by omega)]
  rw [decide_eq_true t2, kn_tf, if_neg (by omega), if_pos (by omega)]
  obtain ⟨w, hw, rfl⟩ := kw_arg (x := a2) (n := 4) (by omega) ⟨t2.1, by omega⟩
  rw [nI_toInt (by omega)]
  obtain ⟨τ, ρ, e1, e2, e3, e4, e5, e6, p1, p2, p3, p4, hbt⟩ := kw_pairs hok hsh hpr
  have hgr : (if (w : Int) < 2 then jX9_meet_41 a1 (nI w) 0 σX else jX9_meet_41 a1 (nI w) 1 σX) = jX9_meet_41 a1 (nI w) (kx_fl (!decide (nI w ≤ 1))) σX := by
    by_cases q : (w : Int) < 2
    · rw [if_pos q, decide_eq_true (by rw [kn_1, kn_le (by omega) (by decide)]; omega)]; rfl
    · rw [if_neg q, decide_eq_false (by rw [kn_1, kn_le (by omega) (by decide)]; omega)]; rfl
  rw [hgr]
  unfold jX9_meet_41
  rw [e1, Option.bind_some, kx_meeting e2 hbt h12 hne, Option.bind_some, p1, Option.bind_some, km_meeting (gr := !decide (nI w ≤ 1)) p2 hbt h12 hne rfl, Option.bind_some, kn_2, pk_rem (by omega) (by decide) (by decide)]
  dsimp only
  have rel : kw_Rel τ ρ := kw_Rel_a hok hsh hkp htp e3 (km_q_e p3)
  cases hb : kp_mb (kp_ga (fun a => kb_D (σM.1 1) n m a) (kw_bI a1) (!decide (nI w ≤ 1)) n) n with
  | none =>
    rw [if_pos (show kx_pe none = -1 from rfl), if_pos (show kx_pe none = -1 from rfl)]
    exact ⟨_, _, _, rfl, rfl, rel⟩
  | some b =>
    obtain ⟨hbn, hbs⟩ := kp_mb_lt _ n b hb
    rw [if_neg (show ¬ kx_pe (some b) = -1 from kb_neg1 (by omega)), if_neg (show ¬ kx_pe (some b) = -1 from kb_neg1 (by omega))]
    by_cases q : nI (w % 2) = 0
    · rw [if_pos q, if_pos q]
      exact ⟨_, _, _, rfl, rfl, rel⟩
    · rw [if_neg q, if_neg q, show kx_pe (some b) = nI b from rfl, kx_together e2 hbt hbn h12 hne, Option.bind_some]
      refine ⟨_, _, _, rfl, ?_, rel⟩
      show some (km_enc (kp_ga (fun a => kb_D (σM.1 1) n m a) (kw_bI a1) (!decide (nI w ≤ 1)) n b), ρ) = _
      cases hg : kp_ga (fun a => kb_D (σM.1 1) n m a) (kw_bI a1) (!decide (nI w ≤ 1)) n b with
      | none => rw [hg] at hbs; cases hbs
      | some z => rfl
