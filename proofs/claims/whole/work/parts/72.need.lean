/-! waysAsShort of the class; needed. -/
def kn_cl (x : Nat) : Nat := if x < 1000000000 then x else 1000000000
theorem kn_cl_le (x : Nat) : kn_cl x ≤ 1000000000 := by
  unfold kn_cl
  split <;> omega
theorem kn_cl_add (x y : Nat) : kn_cl (kn_cl x + kn_cl y) = kn_cl (x + y) := by
  unfold kn_cl
  repeat' split
  all_goals omega
theorem kn_clL (x y : Nat) : (if Int64.ofNat (kn_cl x) + Int64.ofNat (kn_cl y) < (1000000000 : Int64) then Int64.ofNat (kn_cl x) + Int64.ofNat (kn_cl y) else (1000000000 : Int64)) = Int64.ofNat (kn_cl (x + y)) := by
  have h1 := kn_cl_le x
  have h2 := kn_cl_le y
  rw [kn_addL, ← kn_cl_add]
  simp only [Int64.lt_iff_toInt_lt, kn_toIntL (show kn_cl x + kn_cl y < 9000000000000000000 by omega), show (1000000000 : Int64).toInt = 1000000000 by decide]
  rw [show kn_cl (kn_cl x + kn_cl y) = if kn_cl x + kn_cl y < 1000000000 then kn_cl x + kn_cl y else 1000000000 from rfl]
  by_cases q : kn_cl x + kn_cl y < 1000000000
  · rw [if_pos (by omega), if_pos q]
  · rw [if_neg (by omega), if_neg q]
    rfl
theorem kx_ways {σ : kw_M} {F : Nat → Int32} {n m o t : Nat} (hok : kb_ok F n m o) (hsh : kx_sh σ 1 12 F n m o) (ht : t < n) : ∃ τ, fX6_waysAsShort (nI t) σ = some (Int64.ofNat (kn_cl (kr_ca (kr_T (km_gr F m (-1)) (kb_D F n m o) (-1)) o t (n - 1))), τ) ∧ kx_oK σ τ := by
  have hm := hok.1.2.2.2.1.1
  have h2 := hok.1.2.1
  have h12 := hok.1.2.2.1
  have hon := hok.2.2.1
  have hw := hok.1.2.2.2.1
  have hnX : σ.1 12 0 = nI n := hsh.1.1.trans hok.1.1
  have hoX : σ.1 1 2 = nI o := hsh.2.1.1.trans hok.2.1
  have base : kn_rw (kw_sl (kj_st σ 43 12 0) 43 o 1) 43 (fun u => kn_cl (kr_ct (kr_T (km_gr F m (-1)) (kb_D F n m o) (-1)) o 0 u)) := fun u hu => by
    rw [kw_sl_2]
    show _ = Int64.ofNat (kn_cl (if u = o then 1 else 0))
    by_cases e : u = o
    · rw [if_pos e, e, kw_updL_e]; rfl
    · rw [if_neg e, kw_updL_n e]
      unfold kj_st
      rw [kw_rl_2, if_pos hu]; rfl
  have bo : kx_oK σ (kw_sl (kj_st σ 43 12 0) 43 o 1) := ⟨rfl, fun q h43 h44 => by rw [kw_sl_o h43]; unfold kj_st; rw [kw_rl_o h43]⟩
  obtain ⟨x, hx, x1, x2⟩ := kw_for (body := fun s => bX6_waysAsShort_28 (nI t) s.1 s.2.1 s.2.2) (fun k s => s.1 = Int64.ofNat (kn_cl (kr_ca (kr_T (km_gr F m (-1)) (kb_D F n m o) (-1)) o t k)) ∧ s.2.1 = nI (1 + k) ∧ kn_rw s.2.2 43 (fun u => kn_cl (kr_ct (kr_T (km_gr F m (-1)) (kb_D F n m o) (-1)) o k u)) ∧ kx_oK σ s.2.2) (fun x => x.1 = Int64.ofNat (kn_cl (kr_ca (kr_T (km_gr F m (-1)) (kb_D F n m o) (-1)) o t (n - 1))) ∧ kx_oK σ x.2) (n - 1) (by omega) (s0 := ((kw_sl (kj_st σ 43 12 0) 43 o 1).2 43 t, (1 : Int32), kw_sl (kj_st σ 43 12 0) 43 o 1)) ⟨base t (by omega), rfl, base, bo⟩ (fun k s hk hp => by
    obtain ⟨v3, v5, τ⟩ := s
    obtain ⟨e1, e2, e3, o1, o2⟩ := hp
    dsimp only at e1 e2 e3 o1 o2 ⊢
    subst e1 e2
    unfold bX6_waysAsShort_28
    rw [show τ.1 12 0 = nI n by rw [o1]; exact hnX]
    by_cases hkn : k < n - 1
    case neg =>
      right
      obtain rfl : k = n - 1 := by omega
      rw [if_pos (nI_le (by omega) (by omega))]
      exact ⟨_, rfl, rfl, o1, o2⟩
    left
    refine ⟨hkn, ?_⟩
    rw [if_neg (nI_ge (by omega) (by omega)), kj_fill, Option.bind_some]
    obtain ⟨y, hy, y1, y2, y3⟩ := kw_for (body := fun s => bX6_waysAsShort_51 (nI t) (Int64.ofNat (kn_cl (kr_ca (kr_T (km_gr F m (-1)) (kb_D F n m o) (-1)) o t k))) (nI (1 + k)) s.1 s.2) (fun j s => s.1 = nI j ∧ kn_rw s.2 44 (fun u => kn_cl (kr_cs (kr_T (km_gr F m (-1)) (kb_D F n m o) (-1)) (kr_ct (kr_T (km_gr F m (-1)) (kb_D F n m o) (-1)) o k) j u)) ∧ kx_oL τ s.2 44) (fun x => kn_rw x 44 (fun u => kn_cl (kr_ct (kr_T (km_gr F m (-1)) (kb_D F n m o) (-1)) o (k + 1) u)) ∧ kx_oL τ x 44) m (by omega) (s0 := ((0 : Int32), kj_st τ 44 12 0)) ⟨rfl, fun u hu => by unfold kj_st; dsimp only; rw [kw_rl_2, if_pos hu]; rfl, rfl, fun q hq => by unfold kj_st; dsimp only; rw [kw_rl_o hq]⟩ (fun j s hj hp => by
      obtain ⟨v, ρ⟩ := s
      obtain ⟨rfl, f3, p1, p2⟩ := hp
      dsimp only at f3 p1 p2 ⊢
      unfold bX6_waysAsShort_51
      have hρN : kx_sh ρ 1 12 F n m o := kx_sh_N hsh ⟨fun c _ => by rw [p1, o1], fun c hc => by rw [p2 c (by omega)]; exact o2 c (by omega) (by omega)⟩
      rw [show ρ.1 12 1 = nI m from hρN.1.2.1.trans hw.2.1]
      by_cases hjm : j < m
      case neg =>
        right
        obtain rfl : j = m := by omega
        rw [if_pos (nI_le (Nat.le_refl j) (by omega))]
        exact ⟨_, rfl, f3, p1, p2⟩
      left
      refine ⟨hjm, ?_⟩
      obtain ⟨hfr, hto, _, _⟩ := hw.2.2 j hjm
      obtain ⟨x18, x19, _⟩ := hρN.1.2.2.1 j hjm
      have e18 : ρ.1 18 j = F (28 + 4 * j + 0) := x18
      have e19 : ρ.1 19 j = F (28 + 4 * j + 1) := x19
      have hd43 : ρ.2 43 (F (28 + 4 * j + 0)).toNatClampNeg = Int64.ofNat (kn_cl (kr_ct (kr_T (km_gr F m (-1)) (kb_D F n m o) (-1)) o k (F (28 + 4 * j + 0)).toNatClampNeg)) := by rw [p2 43 (by decide)]; exact e3 _ (kw_in_lt hfr)
      have hd44 := f3 _ (kw_in_lt hto)
      have hu : (kr_T (km_gr F m (-1)) (kb_D F n m o) (-1)).2.2.2.2 j = kr_tight (km_gr F m (-1)) (kb_D F n m o) j := by
        show (decide (¬ nI j = -1) && _) = _
        rw [decide_eq_true (kb_neg1 (by omega)), Bool.true_and]
      rw [if_neg (nI_ge hjm (by omega)), kx_tight hρN.1 hw hjm (fun u hu => hρN.2.2.2.2.1 u hu) (kb_row hok), Option.bind_some]
      simp (disch := omega) only [kx_fl_0, kw_let_def, km_next, kn_chk, kn_clamp, e18, e19, kw_chk_t hfr, kw_chk_t hto, hd43, hd44, kn_clL]
      rw [kr_cs_s, hu]
      cases kr_tight (km_gr F m (-1)) (kb_D F n m o) j with
      | false =>
        rw [kn_ff, kn_ft]
        exact ⟨_, rfl, rfl, f3, p1, p2⟩
      | true =>
        rw [kn_tf, kn_tt]
        refine ⟨_, rfl, rfl, fun q hq => ?_, p1, fun q hq => (kw_sl_o hq).trans (p2 q hq)⟩
        dsimp only
        rw [kw_sl_2]
        show _ = Int64.ofNat (kn_cl (if q = (F (28 + 4 * j + 1)).toNatClampNeg then kr_cs (kr_T (km_gr F m (-1)) (kb_D F n m o) (-1)) (kr_ct (kr_T (km_gr F m (-1)) (kb_D F n m o) (-1)) o k) j q + kr_ct (kr_T (km_gr F m (-1)) (kb_D F n m o) (-1)) o k (F (28 + 4 * j + 0)).toNatClampNeg else kr_cs (kr_T (km_gr F m (-1)) (kb_D F n m o) (-1)) (kr_ct (kr_T (km_gr F m (-1)) (kb_D F n m o) (-1)) o k) j q))
        by_cases e : q = (F (28 + 4 * j + 1)).toNatClampNeg
        · rw [if_pos e, e, kw_updL_e]
        · rw [kw_updL_n e, if_neg e]
          exact f3 q hq)
    rw [hy, Option.bind_some]
    unfold fX6_foundIsKnown
    rw [kw_let_def, Option.bind_some, kn_chk (by omega) (by decide), kn_clamp (by omega)]
    have h43 : kn_rw (kw_rl y 43 (va_cpy (y.2 44) (y.2 43) 0 0 12)) 43 (fun u => kn_cl (kr_ct (kr_T (km_gr F m (-1)) (kb_D F n m o) (-1)) o (k + 1) u)) := fun u hu => by
      rw [kw_rl_2]
      unfold va_cpy
      rw [if_pos (by omega), show 0 + (u - 0) = u by omega]
      exact y1 u hu
    rw [h43 t (by omega), kw_let_def, kw_let_def, km_next, kn_clL]
    refine ⟨_, rfl, rfl, rfl, h43, ?_, fun q h43' h44' => ?_⟩
    · exact y2.trans o1
    · dsimp only
      rw [kw_rl_o h43', y3 q h44']
      exact o2 q h43' h44')
  unfold fX6_waysAsShort
  rw [kj_fill, Option.bind_some, show (kj_st σ 43 12 0).1 1 2 = nI o from hoX, kn_chk (by omega) (by decide), kn_clamp (by omega), kw_let_def, kn_chk (by omega) (by decide), kn_clamp (by omega), kw_let_def, hx, Option.bind_some, x1]
  exact ⟨_, rfl, x2⟩
/-- whether all ways as short to t use road r -/
def kb_nd (F : Nat → Int32) (n m o t r : Nat) : Bool := decide (¬ kr_bf (km_gr F m (nI r)) (kr_one o) (n - 1) t = kb_D F n m o t)
theorem kb_nd_iff {F : Nat → Int32} {n m o t r : Nat} (hok : kb_ok F n m o) (ht : t < n) (hz : kb_D F n m o t ≠ none) (hr : r < m) : kb_nd F n m o t r = decide (kr_ca (kr_T (km_gr F m (-1)) (kb_D F n m o) (nI r)) o t (n - 1) = 0) := by
  unfold kb_nd
  rw [decide_eq_decide]
  cases hq : kb_D F n m o t with
  | none => exact absurd hq hz
  | some z =>
    have := kr_need (b := nI r) hok (Or.inr ⟨r, hr, rfl⟩) ht hq
    rw [this]
    omega
/-- a road that all ways use is tight -/
theorem kb_nd_tight {F : Nat → Int32} {n m o t r : Nat} (hok : kb_ok F n m o) (ht : t < n) (hz : kb_D F n m o t ≠ none) (hr : r < m) (h : kb_nd F n m o t r = true) : kr_tight (km_gr F m (-1)) (kb_D F n m o) r = true := by
  cases q : kr_tight (km_gr F m (-1)) (kb_D F n m o) r with
  | true => rfl
  | false =>
    exfalso
    have hm := hok.1.2.2.2.1.1
    rw [kb_nd_iff hok ht hz hr, decide_eq_true_eq] at h
    cases hq : kb_D F n m o t with
    | none => exact absurd hq hz
    | some z =>
      have h1 : 0 < kr_ca (kr_T (km_gr F m (-1)) (kb_D F n m o) (-1)) o t (n - 1) := (kr_need (b := -1) hok (Or.inl rfl) ht hq).mp hq
      obtain ⟨j, hj, y, hy⟩ := (kr_ca_pos (n - 1)).mp h1
      have hT : ∀ (i u : Nat) (x : Int), kr_W (kr_T (km_gr F m (-1)) (kb_D F n m o) (-1)) o i u x → kr_W (kr_T (km_gr F m (-1)) (kb_D F n m o) (nI r)) o i u x := fun i => by
        induction i with
        | zero => exact fun u x hx => hx
        | succ i ih =>
          rintro u x ⟨s, s1, s2, s3, w, s4, s5⟩
          refine ⟨s, s1, ?_, s3, w, ih _ w s4, s5⟩
          have s1' : s < m := s1
          have s2' : (decide (¬ nI s = -1) && kr_tight (km_gr F m (-1)) (kb_D F n m o) s) = true := s2
          rw [Bool.and_eq_true] at s2'
          show (decide (¬ nI s = nI r) && kr_tight (km_gr F m (-1)) (kb_D F n m o) s) = true
          have hne : ¬ nI s = nI r := fun e => by
            have : s = r := (nI_eq (by omega) (by omega)).mp e
            rw [this, q] at s2'
            cases s2'.2
          rw [decide_eq_true hne, s2'.2]
          rfl
      have := (kr_ca_pos (g := kr_T (km_gr F m (-1)) (kb_D F n m o) (nI r)) (o := o) (t := t) (n - 1)).mpr ⟨j, hj, y, hT j t y hy⟩
      omega
theorem kx_isNeeded {σ : kw_M} {F : Nat → Int32} {n m o r t : Nat} (hok : kb_ok F n m o) (hsh : kx_sh σ 1 12 F n m o) (hr : r < m) (ht : t < n) : fX9_isNeeded (nI r) (nI t) σ = some (kx_fl (kb_nd F n m o t r), kx_row σ 41 (kr_bf (km_gr F m (nI r)) (kr_one o) (n - 1))) := by
  have h12 := hok.1.2.2.1
  unfold fX9_isNeeded
  rw [kx_without hok hsh hr (by omega), Option.bind_some, kn_chk (by omega) (by decide), kn_clamp (by omega), kx_row_o (by decide), show σ.2 16 t = kx_enc (kb_D F n m o t) from hsh.2.2.2.2.1 t (by omega)]
  simp only [kx_enc_eq (kb_bd hok.1.2.2.2.1 h12 (nI r) o t) (kr_row_bd (kb_row hok) t)]
  unfold kb_nd
  by_cases q : kr_bf (km_gr F m (nI r)) (kr_one o) (n - 1) t = kb_D F n m o t
  · rw [if_pos q, decide_eq_false (fun z => z q)]; rfl
  · rw [if_neg q, decide_eq_true q]; rfl
theorem km_isNeeded {σ : kw_M} {n m o r t : Nat} (hok : kb_ok (σ.1 1) n m o) (hrow : ∀ t, t < 12 → σ.2 3 t = km_enc (kb_D (σ.1 1) n m o t)) (hr : r < m) (ht : t < n) (hz : kb_D (σ.1 1) n m o t ≠ none) : ∃ τ, fX10_isNeeded (nI r) (nI t) σ = some (kx_fl (kb_nd (σ.1 1) n m o t r), τ) ∧ km_o3 σ τ := by
  have h12 := hok.1.2.2.1
  have hm := hok.1.2.2.2.1.1
  obtain ⟨τ, e1, e2, e3⟩ := km_counts (b := nI r) hok.1 hok.2.1 hok.2.2.1 hrow (kb_row hok)
  unfold fX10_isNeeded
  rw [e1, Option.bind_some, kn_chk (by omega) (by decide), kn_clamp (by omega), e2 t (by omega), kb_nd_iff hok ht hz hr]
  have hlt := kr_ca_lt (g := kr_T (km_gr (σ.1 1) m (-1)) (kb_D (σ.1 1) n m o) (nI r)) (o := o) (t := t) (show m ≤ 36 from hm) (show n - 1 ≤ 11 by omega)
  have e0 : (Int64.ofNat (kr_ca (kr_T (km_gr (σ.1 1) m (-1)) (kb_D (σ.1 1) n m o) (nI r)) o t (n - 1)) = 0) = (kr_ca (kr_T (km_gr (σ.1 1) m (-1)) (kb_D (σ.1 1) n m o) (nI r)) o t (n - 1) = 0) := by
    refine propext ⟨fun h => ?_, fun h => by rw [h]; rfl⟩
    have := congrArg Int64.toInt h
    rw [kn_toIntL hlt, show (0 : Int64).toInt = 0 by decide] at this
    omega
  simp only [e0]
  by_cases q : kr_ca (kr_T (km_gr (σ.1 1) m (-1)) (kb_D (σ.1 1) n m o) (nI r)) o t (n - 1) = 0
  · rw [if_pos q, decide_eq_true q]; exact ⟨_, rfl, e3⟩
  · rw [if_neg q, decide_eq_false q]; exact ⟨_, rfl, e3⟩
theorem ko_needed {σX σM : kw_M} {a1 a2 : Int32} (hR : kw_Rel σX σM) : ∃ a τX τM, fX9_needed a1 a2 σX = some (a, τX) ∧ fX10_needed a1 a2 σM = some (a, τM) ∧ kw_Rel τX τM := by
  obtain ⟨n, m, o, hok, hsh, hkp, htp, hpr⟩ := hR
  have same : kw_Rel σX σM := ⟨n, m, o, hok, hsh, hkp, htp, hpr⟩
  have h2 := hok.1.2.1
  have h12 := hok.1.2.2.1
  have hm := hok.1.2.2.2.1.1
  have hon := hok.2.2.1
  have hw := hok.1.2.2.2.1
  have hnX : σX.1 12 0 = nI n := hsh.1.1.trans hok.1.1
  have hxq : kx_q σX σX (σM.1 1) n m := ⟨kx_kO_r _, kx_kN_r _, hpr⟩
  unfold fX9_needed fX10_needed
  rw [kx_hasTown hnX h12, km_isTown hok.1.1 h12, km_isRoad hw.2.1 hm]
  simp only [Option.bind_some, kx_fl_0]
  rcases kx_isOpenA (x := a1) hsh.1 hw with ⟨r, hr, rfl⟩ | ⟨q1, q2⟩
  case inr =>
    rw [q1, decide_eq_false q2]
    exact ⟨_, _, _, rfl, rfl, same⟩
  have hr1 : 0 ≤ (nI r).toInt ∧ (nI r).toInt < m := by rw [nI_toInt (by omega)]; omega
  rw [kx_isOpenR hsh.1 hw hr, Option.bind_some, km_isOpen (by omega), Option.bind_some]
  simp only [decide_eq_true hr1, kn_tf, kx_fl_0]
  by_cases ho : σM.1 1 (28 + 4 * r + 3) = 1
  case neg =>
    simp only [decide_eq_false ho, kn_ff, if_neg ho, if_true]
    by_cases t2 : 0 ≤ a2.toInt ∧ a2.toInt < n
    · simp only [decide_eq_true t2, kn_tf]
      exact ⟨_, _, _, rfl, rfl, same⟩
    · simp only [decide_eq_false t2, kn_ff]
      exact ⟨_, _, _, rfl, rfl, same⟩
  simp only [decide_eq_true ho, kn_tf, if_pos ho]
  by_cases t2 : 0 ≤ a2.toInt ∧ a2.toInt < n
  case neg =>
    simp only [decide_eq_false t2, kn_ff]
    exact ⟨_, _, _, rfl, rfl, same⟩
  simp only [decide_eq_true t2, kn_tf]
  obtain ⟨t, ht, rfl⟩ := kw_arg (by omega) t2
  obtain ⟨ρ, s1, s2, s3, s4⟩ := km_settles' hw hok.1.1 (by omega) h12 hok.2.1 (by omega)
  have hokρ : kb_ok (ρ.1 1) n m o := by rw [s2]; exact hok
  have hrowρ : ∀ t, t < 12 → ρ.2 3 t = km_enc (kb_D (ρ.1 1) n m o t) := by rw [s2]; exact s3
  rw [if_neg (show ¬ (1 : Int32) = 0 by decide), kx_hasDistance (hsh.2.2.2.2.1 t (by omega)) (kr_row_bd (kb_row hok) t) (by omega), Option.bind_some, s1, Option.bind_some, kn_chk (by omega) (by decide), kn_clamp (by omega), s3 t (by omega)]
  simp only [kx_fl_0, km_enc_e (kr_row_bd (kb_row hok) t)]
  by_cases hz : kb_D (σM.1 1) n m o t = none
  · rw [hz, if_pos rfl, if_pos (show Option.isSome (none : Option Int) = false from rfl)]
    exact ⟨_, _, _, rfl, rfl, kw_Rel_a hok hsh hkp htp hxq (km_q_e s2)⟩
  have hsome : (kb_D (σM.1 1) n m o t).isSome = true := by
    cases hq : kb_D (σM.1 1) n m o t with
    | none => exact absurd hq hz
    | some z => rfl
  rw [hsome, kn_tf, if_neg hz, kx_isNeeded hok hsh hr ht, Option.bind_some, km_tight (by rw [s2]; exact hw) hr s3 (kb_row hok), Option.bind_some, s2]
  simp only [kx_fl_0]
  obtain ⟨ρ2, n1, n2, n3⟩ := km_isNeeded (σ := ρ) hokρ hrowρ hr ht (by rw [s2]; exact hz)
  rw [s2] at n1
  cases htg : kr_tight (km_gr (σM.1 1) m (-1)) (kb_D (σM.1 1) n m o) r with
  | false =>
    have hnf : kb_nd (σM.1 1) n m o t r = false := by
      cases q : kb_nd (σM.1 1) n m o t r with
      | false => rfl
      | true =>
        have := kb_nd_tight hok ht hz hr q
        rw [htg] at this
        cases this
    rw [kn_ff, hnf, kn_ff]
    exact ⟨_, _, _, rfl, rfl, kw_Rel_a hok hsh hkp htp (kx_q_41 hpr _) (km_q_e s2)⟩
  | true =>
    rw [kn_tf, n1, Option.bind_some]
    simp only [kx_fl_0]
    have rel : kw_Rel (kx_row σX 41 (kr_bf (km_gr (σM.1 1) m (nI r)) (kr_one o) (n - 1))) ρ2 := kw_Rel_a hok hsh hkp htp (kx_q_41 hpr _) (km_q_e (n2.trans s2))
    cases kb_nd (σM.1 1) n m o t r with
    | false => rw [kn_ff, kn_ff]; exact ⟨_, _, _, rfl, rfl, rel⟩
    | true => rw [kn_tf, kn_tf]; exact ⟨_, _, _, rfl, rfl, rel⟩
