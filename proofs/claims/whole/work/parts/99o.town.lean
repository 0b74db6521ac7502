/-! town. -/
theorem kx_q_g {σ τ : kw_M} {F : Nat → Int32} {n m : Nat} (hpr : kx_pr σ F n m) (h1 : ∀ c, c ≠ 42 → τ.1 c = σ.1 c) (h2 : ∀ c, c ≠ 41 → c ≠ 43 → c ≠ 44 → τ.2 c = σ.2 c) : kx_q σ τ F n m := ⟨⟨fun c hc => h1 c (by omega), fun c hc => h2 c (by omega) (by omega) (by omega)⟩, ⟨fun c hc => h1 c (by omega), fun c hc => h2 c (by omega) (by omega) (by omega)⟩, kx_pr_eq hpr (h1 5 (by decide)) (h2 39 (by decide) (by decide) (by decide)) (fun _ _ _ => rfl)⟩
theorem km_q_g {σ τ : kw_M} (h1 : ∀ c, c ≠ 8 → c ≠ 13 → c ≠ 14 → c ≠ 16 → τ.1 c = σ.1 c) : km_q σ τ := ⟨h1 1 (by decide) (by decide) (by decide) (by decide), by rw [h1 0 (by decide) (by decide) (by decide) (by decide)], by rw [h1 0 (by decide) (by decide) (by decide) (by decide)], h1 5 (by decide) (by decide) (by decide) (by decide)⟩
theorem kr_some_of {a : Option Int} (h : ¬ a = none) : a.isSome = true := by
  cases a with
  | none => exact absurd rfl h
  | some z => rfl
/-- what stands behind the reference's settles -/
def kw_TH (σX ρ : kw_M) (n m o : Nat) : Prop := kb_ok (ρ.1 1) n m o ∧ kx_sh σX 1 12 (ρ.1 1) n m o ∧ kx_kp σX ρ ∧ kx_tp σX ρ ∧ kx_pr σX (ρ.1 1) n m ∧ ∀ t, t < 12 → ρ.2 3 t = km_enc (kb_D (ρ.1 1) n m o t)
theorem kw_TH_r {σX ρ τX τM : kw_M} {n m o : Nat} (h : kw_TH σX ρ n m o) (hx : kx_q σX τX (ρ.1 1) n m) (hm : km_q ρ τM) : kw_Rel τX τM := kw_Rel_a h.1 h.2.1 h.2.2.1 h.2.2.2.1 hx hm
theorem kw_TH_s {σX ρ τM : kw_M} {n m o : Nat} (h : kw_TH σX ρ n m o) (hm : km_q ρ τM) : kw_Rel σX τM := kw_TH_r h ⟨kx_kO_r _, kx_kN_r _, h.2.2.2.2.1⟩ hm
theorem kt_way {σX ρ : kw_M} {n m o t : Nat} (h : kw_TH σX ρ n m o) (ht : t < n) : ∃ a τX τM, ((fX7_hasDistance (nI t) σX).bind fun r9 => if r9 = (0 : Int32) then (some ((-2 : Int64), σX)) else (fX9_findWay (nI t) σX).bind fun r11 => some (r11.1.toInt64, r11.2)) = some (a, τX) ∧ ((fX10_goesBack (nI t) ρ).bind fun r12 => if r12.1 = (-1 : Int32) then (some ((-2 : Int64), r12.2)) else (fX10_goesBack (nI t) r12.2).bind fun r14 => some (r14.1.toInt64, r14.2)) = some (a, τM) ∧ kw_Rel τX τM := by
  have H := h
  obtain ⟨hok, hsh, hkp, htp, hpr, hrow⟩ := h
  have h12 := hok.1.2.2.1
  have hon := hok.2.2.1
  rw [kx_hasDistance (hsh.2.2.2.2.1 t (by omega)) (kr_row_bd (kb_row hok) t) (by omega), Option.bind_some]
  simp only [kx_fl_0]
  by_cases hz : kb_D (ρ.1 1) n m o t = none
  · rw [hz, km_goesBack_no (d := kb_D (ρ.1 1) n m o) (by omega) (hrow t (by omega)) hz, Option.bind_some, if_pos (show Option.isSome (none : Option Int) = false from rfl), if_pos rfl]
    exact ⟨_, _, _, rfl, rfl, kw_TH_s H (km_q_r _)⟩
  · obtain ⟨N, hN, hNN⟩ := kb_N hok ht hz
    obtain ⟨τ, a1', a2', a3, a4⟩ := kx_findWay hok hsh ht (by omega) hNN
    obtain ⟨ρ2, b1, b2, b3, b4⟩ := km_goesBack (σ := ρ) (d := kb_D (ρ.1 1) n m o) hok.1 hok.2.1 hon ht hrow (kb_row hok) hz (by omega) hNN
    have e1 : ρ2.1 1 = ρ.1 1 := b3 1 (by decide)
    obtain ⟨ρ3, c1, c2, c3, c4⟩ := km_goesBack (σ := ρ2) (n := n) (m := m) (o := o) (t := t) (N := N) (d := kb_D (ρ.1 1) n m o) (by rw [e1]; exact hok.1) (by rw [e1]; exact hok.2.1) hon ht (by rw [b2]; exact hrow) (kb_row hok) hz (by omega) (by rw [e1]; exact hNN)
    rw [kr_some_of hz, if_neg (by decide), a1', Option.bind_some, b1, Option.bind_some]
    dsimp only
    rw [if_neg (kb_neg1 (by omega)), c1, Option.bind_some]
    exact ⟨_, _, _, rfl, rfl, kw_TH_r H (kx_q_42 hpr a2' a3) (km_q_t (km_q_8 b3) (km_q_8 c3))⟩
theorem kt_ways {σX ρ : kw_M} {n m o t : Nat} (h : kw_TH σX ρ n m o) (ht : t < n) : ∃ a τX τM, ((fX6_waysAsShort (nI t) σX).bind fun r15 => some (r15.1, r15.2)) = some (a, τX) ∧ ((fX10_countsWays (-1 : Int32) ρ).bind fun r18 => kw_chk (kw_in (nI t) 12) <| if (r18.2 11 (nI t).toNatClampNeg) ≤ (1000000000 : Int64) then (some ((r18.2 11 (nI t).toNatClampNeg), r18)) else some ((1000000000 : Int64), r18)) = some (a, τM) ∧ kw_Rel τX τM := by
  have H := h
  obtain ⟨hok, hsh, hkp, htp, hpr, hrow⟩ := h
  have h12 := hok.1.2.2.1
  have hon := hok.2.2.1
  obtain ⟨τ, a1, a2⟩ := kx_ways hok hsh ht
  obtain ⟨ρ2, b1, b2, b3⟩ := km_counts (σ := ρ) (b := -1) (d := kb_D (ρ.1 1) n m o) hok.1 hok.2.1 hon hrow (kb_row hok)
  have hlt := kr_ca_lt (g := kr_T (km_gr (ρ.1 1) m (-1)) (kb_D (ρ.1 1) n m o) (-1)) (o := o) (t := t) hok.1.2.2.2.1.1 (k := n - 1) (by omega)
  rw [a1, Option.bind_some, b1, Option.bind_some, kn_chk (by omega) (by decide), kn_clamp (by omega), b2 t (by omega)]
  refine ⟨_, _, ρ2, rfl, ?_, kw_TH_r H (kx_q_g hpr (fun c _ => by rw [a2.1]) (fun c _ h1 h2 => a2.2 c h1 h2)) (km_q_e b3.1)⟩
  revert hlt
  generalize kr_ca (kr_T (km_gr (ρ.1 1) m (-1)) (kb_D (ρ.1 1) n m o) (-1)) o t (n - 1) = x
  intro hlt
  dsimp only
  simp only [Int64.le_iff_toInt_le, kn_toIntL hlt, show (1000000000 : Int64).toInt = 1000000000 by decide]
  unfold kn_cl
  by_cases q : x < 1000000000
  · rw [if_pos q, if_pos (by omega)]
  · rw [if_neg q]
    by_cases q2 : (x : Int) ≤ 1000000000
    · rw [if_pos q2, show x = 1000000000 by omega]
    · rw [if_neg q2]; rfl
theorem kt_need {σX ρ : kw_M} {n m o t : Nat} (h : kw_TH σX ρ n m o) (ht : t < n) : ∃ a τX τM, ((fX7_hasDistance (nI t) σX).bind fun r17 => if r17 = (0 : Int32) then (some ((-2 : Int64), σX)) else (fX9_neededCount (nI t) σX).bind fun r19 => some (r19.1.toInt64, r19.2)) = some (a, τX) ∧ ((fX10_neededMany (nI t) ρ).bind fun r22 => some (r22.1.toInt64, r22.2)) = some (a, τM) ∧ kw_Rel τX τM := by
  have H := h
  obtain ⟨hok, hsh, hkp, htp, hpr, hrow⟩ := h
  have h12 := hok.1.2.2.1
  have hon := hok.2.2.1
  rw [kx_hasDistance (hsh.2.2.2.2.1 t (by omega)) (kr_row_bd (kb_row hok) t) (by omega), Option.bind_some]
  simp only [kx_fl_0]
  by_cases hz : kb_D (ρ.1 1) n m o t = none
  · unfold fX10_neededMany
    rw [kn_chk (by omega) (by decide), kn_clamp (by omega), hrow t (by omega), hz, if_pos (show km_enc none = 900000000000000000 from rfl), Option.bind_some, if_pos (show Option.isSome (none : Option Int) = false from rfl)]
    exact ⟨_, _, _, rfl, rfl, kw_TH_s H (km_q_r _)⟩
  · obtain ⟨c, τX, τM, hc, e1, e2, e3, e4, e5⟩ := kw_neededCount hok hsh ht hrow hz
    rw [kr_some_of hz, if_neg (by decide), e1, Option.bind_some, e2, Option.bind_some]
    exact ⟨_, _, _, rfl, rfl, kw_TH_r H (kx_q_g hpr e3 (fun c h1 _ _ => e4 c h1)) (km_q_e e5)⟩
theorem kt_next {σX ρ : kw_M} {n m o t : Nat} (h : kw_TH σX ρ n m o) (ht : t < n) : ∃ a τX τM, ((fX7_hasDistance (nI t) σX).bind fun r23 => if r23 = (0 : Int32) then (some ((-9000000000000000000 : Int64), σX)) else (fX1_findNext (nI t) σX).bind fun r25 => some (r25.1, r25.2)) = some (a, τX) ∧ ((fX10_nextOf (nI t) ρ).bind fun r26 => (fX10_told r26.1 r26.2).bind fun r27 => some (r27, r26.2)) = some (a, τM) ∧ kw_Rel τX τM := by
  have H := h
  obtain ⟨hok, hsh, hkp, htp, hpr, hrow⟩ := h
  have h12 := hok.1.2.2.1
  have hon := hok.2.2.1
  obtain ⟨ρ2, b1, b2⟩ := km_nextOf (σ := ρ) hok ht hrow
  have hbd : kr_bd (kb_nxt (ρ.1 1) n m o t) := fun z hz => by have := kb_nxt_b hok z hz; omega
  rw [kx_hasDistance (hsh.2.2.2.2.1 t (by omega)) (kr_row_bd (kb_row hok) t) (by omega), Option.bind_some, b1, Option.bind_some]
  dsimp only
  rw [km_told hbd, Option.bind_some]
  simp only [kx_fl_0]
  have hq : km_q ρ ρ2 := km_q_g (fun c _ h1 h2 _ => b2 c h1 h2)
  by_cases hz : kb_D (ρ.1 1) n m o t = none
  · have e : kb_nxt (ρ.1 1) n m o t = none := by
      unfold kb_nxt
      rw [hz]
    rw [hz, e, if_pos (show Option.isSome (none : Option Int) = false from rfl)]
    exact ⟨_, _, _, rfl, rfl, kw_TH_s H hq⟩
  · obtain ⟨D, hD⟩ : ∃ D, kb_D (ρ.1 1) n m o t = some D := by
      cases q : kb_D (ρ.1 1) n m o t with
      | none => exact absurd q hz
      | some D => exact ⟨D, rfl⟩
    obtain ⟨τ, a1, a2⟩ := kx_findNext hok hsh hpr ht hD
    rw [kr_some_of hz, if_neg (by decide), a1, Option.bind_some]
    exact ⟨_, _, _, rfl, rfl, kw_TH_r H a2 hq⟩
theorem kt_apart {σX ρ : kw_M} {n m o t : Nat} (h : kw_TH σX ρ n m o) (ht : t < n) : ∃ a τX τM, ((fX9_apartLength (nI t) σX).bind fun r44 => some (r44.1, r44.2)) = some (a, τX) ∧ ((fX10_apartOf (nI t) ρ).bind fun r58 => (fX10_told r58.1 r58.2).bind fun r59 => some (r59, r58.2)) = some (a, τM) ∧ kw_Rel τX τM := by
  have H := h
  obtain ⟨hok, hsh, hkp, htp, hpr, hrow⟩ := h
  have h12 := hok.1.2.2.1
  have hon := hok.2.2.1
  have hoX : σX.1 1 2 = nI o := hsh.2.1.1.trans hok.2.1
  obtain ⟨v, ρ2, b1, b2, b3, b4, b5, b6⟩ := km_apart hok ht hrow
  have hq : km_q ρ ρ2 := km_q_g (fun c h1 _ _ h2 => b3 c h1 h2)
  unfold fX9_apartLength
  rw [kx_hasDistance (hsh.2.2.2.2.1 t (by omega)) (kr_row_bd (kb_row hok) t) (by omega), Option.bind_some, b1, Option.bind_some]
  dsimp only
  rw [km_told b2, Option.bind_some, hoX]
  simp only [kx_fl_0, kn_eq (show t < 2147483648 by omega) (show o < 2147483648 by omega)]
  by_cases hz : kb_D (ρ.1 1) n m o t = none
  · rw [hz, b4 hz, if_pos (show Option.isSome (none : Option Int) = false from rfl), Option.bind_some]
    exact ⟨_, _, _, rfl, rfl, kw_TH_s H hq⟩
  · rw [kr_some_of hz, if_neg (show ¬ true = false by decide)]
    by_cases hto : t = o
    · rw [if_pos hto, Option.bind_some, b5 hz hto]
      exact ⟨_, _, _, rfl, rfl, kw_TH_s H hq⟩
    · obtain ⟨N, n1, n2, n3⟩ := b6 hz hto
      obtain ⟨τ, a1, a2, a3⟩ := kx_apart hok hsh ht n1 n2
      rw [if_neg hto, a1, Option.bind_some, Option.bind_some, n3]
      exact ⟨_, _, _, rfl, rfl, kw_TH_r H (kx_q_g hpr a2 (fun c _ h1 _ => a3 c h1)) hq⟩
theorem ko_town {σX σM : kw_M} {a1 a2 : Int32} (hR : kw_Rel σX σM) : ∃ a τX τM, fX9_town a1 a2 σX = some (a, τX) ∧ fX10_town a1 a2 σM = some (a, τM) ∧ kw_Rel τX τM := by
  obtain ⟨n, m, o, hok, hsh, hkp, htp, hpr⟩ := hR
  have same : kw_Rel σX σM := ⟨n, m, o, hok, hsh, hkp, htp, hpr⟩
  have h2 := hok.1.2.1
  have h12 := hok.1.2.2.1
  have hon := hok.2.2.1
  have hnX : σX.1 12 0 = nI n := hsh.1.1.trans hok.1.1
  unfold fX9_town fX10_town
  rw [kx_hasTown hnX h12, km_isTown hok.1.1 h12, Option.bind_some, Option.bind_some]
  simp only [kx_fl_0]
  by_cases t1 : 0 ≤ a1.toInt ∧ a1.toInt < n
  case neg =>
    rw [decide_eq_false t1, kn_ff, kn_ff]
    exact ⟨_, _, _, rfl, rfl, same⟩
  rw [decide_eq_true t1, kn_tf, kn_tf]
  obtain ⟨t, ht, rfl⟩ := kw_arg (by omega) t1
  obtain ⟨ρ, s1, s2, s3, s4⟩ := km_settles' hok.1.2.2.2.1 hok.1.1 (by omega) h12 hok.2.1 (by omega)
  rw [s1, Option.bind_some]
  have H : kw_TH σX ρ n m o := by
    refine ⟨by rw [s2]; exact hok, by rw [s2]; exact hsh, ?_, ?_, by rw [s2]; exact hpr, by rw [s2]; exact s3⟩
    · unfold kx_kp; rw [s2]; exact hkp
    · unfold kx_tp; rw [s2]; exact htp
  clear same s1 s3 s4 s2 hok hsh hkp htp hpr
  have H' := H
  obtain ⟨hok, hsh, hkp, htp, hpr, hrow⟩ := H
  have hw := hok.1.2.2.2.1
  have hbd := kr_row_bd (kb_row hok) t
  have rel : kw_Rel σX ρ := kw_TH_s H' (km_q_r _)
  by_cases q0 : a2 = 0
  · rw [if_pos q0, if_pos q0, kn_chk (by omega) (by decide), kn_chk (by omega) (by decide), kn_clamp (by omega), hrow t (by omega), km_told hbd, Option.bind_some, hsh.2.2.2.2.1 t (by omega)]
    exact ⟨_, _, _, rfl, rfl, rel⟩
  rw [if_neg q0, if_neg q0]
  by_cases q1 : a2 = 1
  · rw [if_pos q1, if_pos q1, kn_chk (by omega) (by decide), kn_clamp (by omega), km_parentOf hw (by omega) hrow (kb_row hok), Option.bind_some, Option.bind_some, show σX.1 17 t = kx_pe (kr_par (km_gr (ρ.1 1) m (-1)) (kb_D (ρ.1 1) n m o) t) from hsh.2.2.2.2.2.1 t (by omega)]
    by_cases q : kx_pe (kr_par (km_gr (ρ.1 1) m (-1)) (kb_D (ρ.1 1) n m o) t) = -1
    · rw [if_pos q, if_pos q]; exact ⟨_, _, _, rfl, rfl, rel⟩
    · rw [if_neg q, if_neg q]; exact ⟨_, _, _, rfl, rfl, rel⟩
  rw [if_neg q1, if_neg q1]
  by_cases q2 : a2 = 2
  · rw [if_pos q2, if_pos q2]; exact kt_way H' ht
  rw [if_neg q2, if_neg q2]
  by_cases q3 : a2 = 3
  · rw [if_pos q3, if_pos q3, kx_tightTo hsh.1 hw (by omega) hsh.2.2.2.2.1 (kb_row hok), Option.bind_some, km_tightTo hw (by omega) hrow (kb_row hok), Option.bind_some]
    exact ⟨_, _, _, rfl, rfl, rel⟩
  rw [if_neg q3, if_neg q3]
  by_cases q4 : a2 = 4
  · rw [if_pos q4, if_pos q4]; exact kt_ways H' ht
  rw [if_neg q4, if_neg q4]
  by_cases q5 : a2 = 5
  · rw [if_pos q5, if_pos q5]; exact kt_need H' ht
  rw [if_neg q5, if_neg q5]
  by_cases q6 : a2 = 6
  · obtain ⟨a, τX, τM, e1, e2, e3, e4, e5⟩ := kw_dearest hok hsh ht hrow
    rw [if_pos q6, if_pos q6, e1, e2, Option.bind_some, Option.bind_some]
    exact ⟨_, _, _, rfl, rfl, kw_TH_r H' (kx_q_g hpr e3 (fun c h1 _ _ => e4 c h1)) (km_q_8 e5)⟩
  rw [if_neg q6, if_neg q6]
  by_cases q7 : a2 = 7
  · rw [if_pos q7, if_pos q7]; exact kt_next H' ht
  rw [if_neg q7, if_neg q7]
  obtain ⟨τ, ν, e1, e2, e3, e4, e5, e6, p1, p2, p3, p4, hbt⟩ := kw_pairs hok hsh hpr
  have hbp : kp_bd (fun a => kb_D (ρ.1 1) n m a) n := kp_bt_bd hbt
  have relp : kw_Rel τ ν := kw_TH_r H' e3 (km_q_e p3)
  by_cases q8 : a2 = 8
  · unfold jX10_town_287
    rw [if_pos q8, if_pos q8, e1, Option.bind_some, p1, Option.bind_some, if_pos q8, kx_reach e2 hbp ht h12, km_reach p2 hbp ht h12, Option.bind_some, Option.bind_some, km_told (kp_rch_bd (n := n) (hbp t ht) n), Option.bind_some]
    exact ⟨_, _, _, rfl, rfl, relp⟩
  rw [if_neg q8, if_neg q8]
  by_cases q9 : a2 = 9
  · have hrd : kx_rd τ 12 (ρ.1 1) m := kx_rd_fr hsh.1 (e4 12 (by decide)) (e4 _ (by decide)) (e4 _ (by decide)) (e4 _ (by decide)) (e5 12 (by decide) (by decide))
    have hwν : kb_wf (ν.1 1) n m := by rw [p3]; exact hok.1
    unfold jX10_town_287
    rw [if_pos q9, if_pos q9, e1, Option.bind_some, p1, Option.bind_some, if_neg q8, if_pos q9, kx_ring hrd hok.1 e2 hbp ht, km_ring hwν p2 hbp ht, Option.bind_some, Option.bind_some, p3, km_told (kp_rg_bd hok.1 hbp m (Nat.le_refl _)), Option.bind_some]
    exact ⟨_, _, _, rfl, rfl, relp⟩
  rw [if_neg q9, if_neg q9]
  by_cases q10 : a2 = 10
  · rw [if_pos q10, if_pos q10, kx_isWatched (by omega), Option.bind_some, kn_172, kn_3, kn_mul, nI_add, kn_chk (show 172 + 3 * t < 2832 by omega) (by decide), km_next, kn_chk (show 172 + 3 * t + 1 < 2832 by omega) (by decide), kn_chk (show t < 12 by omega) (by decide), kn_clamp (show 172 + 3 * t < 2147483648 by omega), kn_clamp (show 172 + 3 * t + 1 < 2147483648 by omega), kn_clamp (show t < 2147483648 by omega), hsh.2.2.1.1 t (by omega)]
    simp only [kx_fl_0]
    by_cases f1 : ρ.1 1 (172 + 3 * t) = 1
    · rw [if_pos f1, decide_eq_true (show t < 12 ∧ ρ.1 1 (172 + 3 * t) = 1 from ⟨by omega, f1⟩), kn_tf, show σX.1 14 t = ρ.1 1 (172 + 3 * t + 1) from hsh.2.2.1.2 t (by omega) f1]
      exact ⟨_, _, _, rfl, rfl, rel⟩
    · rw [if_neg f1, decide_eq_false (show ¬ (t < 12 ∧ ρ.1 1 (172 + 3 * t) = 1) from fun q => f1 q.2), kn_ff]
      exact ⟨_, _, _, rfl, rfl, rel⟩
  rw [if_neg q10, if_neg q10]
  by_cases q11 : a2 = 11
  · rw [if_pos q11, if_pos q11, kx_below hok hsh ht, Option.bind_some, kn_chk (by omega) (by decide), kn_clamp (by omega), hrow t (by omega)]
    simp only [km_enc_e hbd]
    by_cases hz : kb_D (ρ.1 1) n m o t = none
    · rw [if_pos hz, kr_below_no hok hz]
      exact ⟨_, _, _, rfl, rfl, rel⟩
    · rw [if_neg hz, km_below hok hrow ht, Option.bind_some]
      exact ⟨_, _, _, rfl, rfl, rel⟩
  rw [if_neg q11, if_neg q11]
  by_cases q12 : a2 = 12
  · unfold jX10_town_287
    rw [if_pos q12, if_pos q12, e1, Option.bind_some, p1, Option.bind_some, if_neg q8, if_neg q9, if_neg q10, if_neg q11, if_pos q12, kx_group e2 hbp ht h12, km_group p2 hbp ht h12, Option.bind_some, Option.bind_some]
    exact ⟨_, _, _, rfl, rfl, relp⟩
  rw [if_neg q12, if_neg q12]
  by_cases q13 : a2 = 13
  · obtain ⟨τ2, a1', a2'⟩ := kx_narrow hok hsh ht
    have hbn : kr_bd (if t = o then none else kr_nb (km_gr (ρ.1 1) m (-1)) o n t) := by
      by_cases q : t = o
      · rw [if_pos q]; exact kr_bd_none
      · rw [if_neg q]
        intro z hz
        have := ((kr_nb_inv (o := o) (km_wf_len hw (-1)) n).2 t z hz).1
        omega
    rw [if_pos q13, if_pos q13, a1', Option.bind_some, km_narrow hok ht hrow, Option.bind_some, km_told hbn, Option.bind_some]
    exact ⟨_, _, _, rfl, rfl, kw_TH_r H' (kx_q_g hpr (fun c _ => by rw [a2'.1]) (fun c _ h1 _ => a2'.2 c h1)) (km_q_r _)⟩
  rw [if_neg q13, if_neg q13]
  by_cases q14 : a2 = 14
  · rw [if_pos q14, if_pos q14]; exact kt_apart H' ht
  rw [if_neg q14, if_neg q14]
  unfold jX10_town_287
  rw [p1, Option.bind_some, if_neg q8, if_neg q9, if_neg q10, if_neg q11, if_neg q12, if_neg q13, if_neg q14]
  by_cases q15 : a2 = 15
  · rw [if_pos q15, if_pos q15, e1, Option.bind_some, kx_comers e2 hbp ht h12, km_comers p2 hbp ht h12, Option.bind_some, Option.bind_some]
    exact ⟨_, _, _, rfl, rfl, relp⟩
  rw [if_neg q15, if_neg q15]
  exact ⟨_, _, _, rfl, rfl, kw_TH_s H' (km_q_e p3)⟩
