/-! shortcut: the call. -/
/-- the class's three cells show a best shortcut -/
def kx_sc3 (σ : kw_M) (s : Int × Nat × Nat) : Prop := σ.2 9 2 = Int64.ofInt s.1 ∧ (0 < s.1 → σ.2 9 0 = (nI s.2.1).toInt64 ∧ σ.2 9 1 = (nI s.2.2).toInt64)
def kx_o9 (σ τ : kw_M) : Prop := τ.1 = σ.1 ∧ ∀ c, c ≠ 9 → τ.2 c = σ.2 c
theorem kx_P_fr {σ τ : kw_M} {P : Nat → kr_D} {n : Nat} (h : kx_P σ P n) (h1 : τ.1 5 = σ.1 5) (h2 : τ.2 39 = σ.2 39) : kx_P τ P n := by
  unfold kx_P
  rw [h1, h2]
  exact h
theorem kx_scrow {σ : kw_M} {P : Nat → kr_D} {D : kr_D} {n a : Nat} {L : Int32} {s : Int × Nat × Nat} (h : kx_P σ P n) (hP : kp_bt P n) (hn : σ.1 12 0 = nI n) (h12 : n ≤ 12) (hrow : ∀ t, t < 12 → σ.2 16 t = kx_enc (D t)) (hD : kr_in D 400000000000) (hL : -1000000000 ≤ L.toInt ∧ L.toInt ≤ 1000000000) (ha : a < n) (hs : kp_ok3 n s) (h9 : kx_sc3 σ s) : ∃ τ, kw_loop (fun q => bX9_findShortcut_31 L (nI a) q.1 q.2) kw_F ((0 : Int32), σ) = some τ ∧ kx_o9 σ τ ∧ kx_sc3 τ (kp_ro2 (kp_v P D L.toInt n) a s n) := by
  have hDr : kr_row D := kr_in_mono hD (by decide)
  have hv := fun b (hb : b < n) => kp_v_bd (a := a) hP hD hL hb h12
  exact kw_for (body := fun q => bX9_findShortcut_31 L (nI a) q.1 q.2) (fun b q => q.1 = nI b ∧ kx_o9 σ q.2 ∧ kx_sc3 q.2 (kp_ro2 (kp_v P D L.toInt n) a s b)) (fun x => kx_o9 σ x ∧ kx_sc3 x (kp_ro2 (kp_v P D L.toInt n) a s n)) n (by omega) (s0 := ((0 : Int32), σ)) ⟨rfl, ⟨rfl, fun _ _ => rfl⟩, h9⟩ (fun b q hb hp => by
    obtain ⟨v, τ⟩ := q
    obtain ⟨rfl, ⟨o1, o2⟩, hsc⟩ := hp
    dsimp only at o1 o2 hsc ⊢
    unfold bX9_findShortcut_31
    rw [show τ.1 12 0 = nI n by rw [o1]; exact hn]
    by_cases hbn : b < n
    case neg =>
      right
      obtain rfl : b = n := by omega
      rw [if_pos (nI_le (Nat.le_refl b) (by omega))]
      exact ⟨τ, rfl, ⟨o1, o2⟩, hsc⟩
    left
    refine ⟨hbn, ?_⟩
    have hok := kp_ro2_ok hv ha hs b (by omega)
    have hvb := hv b hbn
    have es : kp_ro2 (kp_v P D L.toInt n) a s (b + 1) = kp_st (kp_v P D L.toInt n) a b (kp_ro2 (kp_v P D L.toInt n) a s b) := rfl
    have hPτ : kx_P τ P n := kx_P_fr h (by rw [o1]) (o2 39 (by decide))
    have hrowτ : ∀ t, t < 12 → τ.2 16 t = kx_enc (D t) := fun t ht => by rw [o2 16 (by decide)]; exact hrow t ht
    have skip : kp_v P D L.toInt n a b = 0 → kx_sc3 τ (kp_ro2 (kp_v P D L.toInt n) a s (b + 1)) := fun hz => by
      rw [es]
      unfold kp_st
      rw [if_neg (by rw [hz]; have := hok.1; omega)]
      exact hsc
    rw [if_neg (nI_ge hbn (by omega)), kx_hasDistance (hrowτ a (by omega)) (kr_row_bd hDr a) (by omega), Option.bind_some, kx_bring hPτ hP h12 ha hbn hL, Option.bind_some]
    simp only [kn_eq (show a < 2147483648 by omega) (show b < 2147483648 by omega), kx_fl_0, kw_let_def, km_next]
    by_cases q1 : a = b
    · rw [if_pos q1]
      exact ⟨_, rfl, rfl, ⟨o1, o2⟩, skip (by unfold kp_v; rw [if_pos (Or.inl q1)])⟩
    rw [if_neg q1]
    by_cases q2 : D a = none
    · rw [q2, if_pos (show Option.isSome (none : Option Int) = false from rfl)]
      exact ⟨_, rfl, rfl, ⟨o1, o2⟩, skip (by unfold kp_v; rw [if_pos (Or.inr (Or.inl q2))])⟩
    have hsome : (D a).isSome = true := by
      cases hq : D a with
      | none => exact absurd hq q2
      | some z => rfl
    rw [hsome, kn_tf]
    cases q3 : kp_bring P L.toInt a b with
    | true =>
      rw [kn_tf]
      exact ⟨_, rfl, rfl, ⟨o1, o2⟩, skip (by unfold kp_v; rw [if_pos (Or.inr (Or.inr q3))])⟩
    | false =>
      rw [kn_ff, kx_savedBy hPτ hP (by rw [o1]; exact hn) h12 hrowτ hD hL ha hbn q2, Option.bind_some]
      have ev : kp_v P D L.toInt n a b = kp_sv P D L.toInt a b n := by
        unfold kp_v
        rw [if_neg (fun z => by
          rcases z with z | z | z
          · exact q1 z
          · exact q2 z
          · rw [q3] at z; cases z)]
      rw [← ev, hsc.1]
      have i1 : (Int64.ofInt (kp_v P D L.toInt n a b)).toInt = kp_v P D L.toInt n a b := km_toInt (by omega) (by omega)
      have i2 : (Int64.ofInt (kp_ro2 (kp_v P D L.toInt n) a s b).1).toInt = (kp_ro2 (kp_v P D L.toInt n) a s b).1 := km_toInt (by have := hok.1; omega) (by have := hok.2.1; omega)
      simp only [Int64.le_iff_toInt_le, i1, i2]
      by_cases q4 : kp_v P D L.toInt n a b ≤ (kp_ro2 (kp_v P D L.toInt n) a s b).1
      · rw [if_pos q4]
        refine ⟨_, rfl, rfl, ⟨o1, o2⟩, ?_⟩
        rw [es]
        unfold kp_st
        rw [if_neg (by omega)]
        exact hsc
      · rw [if_neg q4]
        refine ⟨_, rfl, rfl, ⟨o1, fun c hc => ?_⟩, ?_⟩
        · dsimp only
          rw [kw_sl_o hc, kw_sl_o hc, kw_sl_o hc]
          exact o2 c hc
        · rw [es]
          unfold kp_st
          rw [if_pos (by omega)]
          refine ⟨?_, fun _ => ⟨?_, ?_⟩⟩
          · dsimp only
            rw [kw_sl_2, kw_updL_e]
          · dsimp only
            rw [kw_sl_2, kw_updL_n (by decide), kw_sl_2, kw_updL_n (by decide), kw_sl_2, kw_updL_e]
          · dsimp only
            rw [kw_sl_2, kw_updL_n (by decide), kw_sl_2, kw_updL_e])
theorem kx_scall {σ : kw_M} {P : Nat → kr_D} {D : kr_D} {n : Nat} {L : Int32} (h : kx_P σ P n) (hP : kp_bt P n) (hn : σ.1 12 0 = nI n) (h0 : 0 < n) (h12 : n ≤ 12) (hrow : ∀ t, t < 12 → σ.2 16 t = kx_enc (D t)) (hD : kr_in D 400000000000) (hL : -1000000000 ≤ L.toInt ∧ L.toInt ≤ 1000000000) (h9 : σ.2 9 2 = 0) : ∃ τ, kw_loop (fun q => bX9_findShortcut_14 L q.1 q.2) kw_F ((0 : Int32), σ) = some τ ∧ kx_o9 σ τ ∧ kx_sc3 τ (kp_sc (kp_v P D L.toInt n) n n) := by
  have hv := fun a b (_ : a < n) (hb : b < n) => kp_v_bd (a := a) hP hD hL hb h12
  exact kw_for (body := fun q => bX9_findShortcut_14 L q.1 q.2) (fun a q => q.1 = nI a ∧ kx_o9 σ q.2 ∧ kx_sc3 q.2 (kp_sc (kp_v P D L.toInt n) n a)) (fun x => kx_o9 σ x ∧ kx_sc3 x (kp_sc (kp_v P D L.toInt n) n n)) n (by omega) (s0 := ((0 : Int32), σ)) ⟨rfl, ⟨rfl, fun _ _ => rfl⟩, h9, fun q => absurd (show (0 : Int) < 0 from q) (by decide)⟩ (fun a q ha hp => by
    obtain ⟨v, τ⟩ := q
    obtain ⟨rfl, ⟨o1, o2⟩, hsc⟩ := hp
    dsimp only at o1 o2 hsc ⊢
    unfold bX9_findShortcut_14
    rw [show τ.1 12 0 = nI n by rw [o1]; exact hn]
    by_cases han : a < n
    case neg =>
      right
      obtain rfl : a = n := by omega
      rw [if_pos (nI_le (Nat.le_refl a) (by omega))]
      exact ⟨τ, rfl, ⟨o1, o2⟩, hsc⟩
    left
    refine ⟨han, ?_⟩
    obtain ⟨ρ, r1, ⟨r2, r3⟩, r4⟩ := kx_scrow (L := L) (s := kp_sc (kp_v P D L.toInt n) n a) (kx_P_fr h (by rw [o1]) (o2 39 (by decide))) hP (by rw [o1]; exact hn) h12 (fun t ht => by rw [o2 16 (by decide)]; exact hrow t ht) hD hL han (kp_sc_ok h0 hv a (by omega)) hsc
    rw [if_neg (nI_ge han (by omega)), r1, Option.bind_some, kw_let_def, km_next]
    exact ⟨_, rfl, rfl, ⟨r2.trans o1, fun c hc => (r3 c hc).trans (o2 c hc)⟩, r4⟩)
def km_sc3 (s : Int × Nat × Nat) : Int32 × Int32 × Int64 := (if 0 < s.1 then nI s.2.1 else -2, if 0 < s.1 then nI s.2.2 else -2, Int64.ofInt s.1)
theorem km_scrow {σ : kw_M} {P : Nat → kr_D} {D : kr_D} {n a : Nat} {L a2 : Int32} {s : Int × Nat × Nat} (h : km_P σ P n) (hP : kp_bt P n) (h12 : n ≤ 12) (hrow : ∀ t, t < 12 → σ.2 3 t = km_enc (D t)) (hD : kr_in D 400000000000) (hL : -1000000000 ≤ L.toInt ∧ L.toInt ≤ 1000000000) (ha : a < n) (hs : kp_ok3 n s) : kw_loop (fun q => bX10_shortcut_57 L a2 (nI a) σ q.1 q.2.1 q.2.2.1 q.2.2.2) kw_F ((km_sc3 s).1, (km_sc3 s).2.1, (km_sc3 s).2.2, (0 : Int32)) = some (km_sc3 (kp_ro2 (kp_v P D L.toInt n) a s n)) := by
  have hDr : kr_row D := kr_in_mono hD (by decide)
  have hv := fun b (hb : b < n) => kp_v_bd (a := a) hP hD hL hb h12
  obtain ⟨x, hx, hq⟩ := kw_for (body := fun q => bX10_shortcut_57 L a2 (nI a) σ q.1 q.2.1 q.2.2.1 q.2.2.2) (fun b q => q = ((km_sc3 (kp_ro2 (kp_v P D L.toInt n) a s b)).1, (km_sc3 (kp_ro2 (kp_v P D L.toInt n) a s b)).2.1, (km_sc3 (kp_ro2 (kp_v P D L.toInt n) a s b)).2.2, nI b)) (fun x => x = km_sc3 (kp_ro2 (kp_v P D L.toInt n) a s n)) n (by omega) (s0 := ((km_sc3 s).1, (km_sc3 s).2.1, (km_sc3 s).2.2, (0 : Int32))) rfl (fun b q hb hp => by
    subst hp
    dsimp only
    unfold bX10_shortcut_57 fX10_towns
    rw [h.1, Option.bind_some]
    by_cases hbn : b < n
    case neg =>
      right
      obtain rfl : b = n := by omega
      rw [if_pos (nI_le (Nat.le_refl b) (by omega))]
      exact ⟨_, rfl, rfl⟩
    have hok := kp_ro2_ok hv ha hs b (by omega)
    have hvb := hv b hbn
    rw [if_neg (nI_ge hbn (by omega)), kn_chk (by omega) (by decide), kn_clamp (by omega), hrow a (by omega)]
    simp only [km_enc_ge (kr_row_bd hDr a), kn_eq (show a < 2147483648 by omega) (show b < 2147483648 by omega)]
    by_cases q2 : D a = none
    · right
      rw [if_pos q2]
      refine ⟨_, rfl, ?_⟩
      have hz : ∀ c, b ≤ c → c ≤ n → kp_ro2 (kp_v P D L.toInt n) a s c = kp_ro2 (kp_v P D L.toInt n) a s b := fun c => by
        induction c with
        | zero =>
          intro h1 _
          obtain rfl : b = 0 := by omega
          rfl
        | succ c ih =>
          intro h1 h2
          by_cases e : b = c + 1
          · rw [e]
          · have ih' := ih (by omega) (by omega)
            show kp_st (kp_v P D L.toInt n) a c (kp_ro2 (kp_v P D L.toInt n) a s c) = _
            rw [ih']
            unfold kp_st
            have : kp_v P D L.toInt n a c = 0 := by unfold kp_v; rw [if_pos (Or.inr (Or.inl q2))]
            rw [if_neg (by rw [this]; have := hok.1; omega)]
      rw [hz n (by omega) (Nat.le_refl _)]
    left
    refine ⟨hbn, ?_⟩
    rw [if_neg q2]
    have es : kp_ro2 (kp_v P D L.toInt n) a s (b + 1) = kp_st (kp_v P D L.toInt n) a b (kp_ro2 (kp_v P D L.toInt n) a s b) := rfl
    have i1 : (Int64.ofInt (kp_v P D L.toInt n a b)).toInt = kp_v P D L.toInt n a b := km_toInt (by omega) (by omega)
    have i2 : (Int64.ofInt (kp_ro2 (kp_v P D L.toInt n) a s b).1).toInt = (kp_ro2 (kp_v P D L.toInt n) a s b).1 := km_toInt (by have := hok.1; omega) (by have := hok.2.1; omega)
    have hj : jX10_shortcut_100_L57 L a2 (nI a) (km_sc3 (kp_ro2 (kp_v P D L.toInt n) a s b)).1 (km_sc3 (kp_ro2 (kp_v P D L.toInt n) a s b)).2.1 (km_sc3 (kp_ro2 (kp_v P D L.toInt n) a s b)).2.2 (nI b) (Int64.ofInt (kp_v P D L.toInt n a b)) σ = some (.inl ((km_sc3 (kp_ro2 (kp_v P D L.toInt n) a s (b + 1))).1, (km_sc3 (kp_ro2 (kp_v P D L.toInt n) a s (b + 1))).2.1, (km_sc3 (kp_ro2 (kp_v P D L.toInt n) a s (b + 1))).2.2, nI (b + 1))) := by
      unfold jX10_shortcut_100_L57
      rw [show (km_sc3 (kp_ro2 (kp_v P D L.toInt n) a s b)).2.2 = Int64.ofInt (kp_ro2 (kp_v P D L.toInt n) a s b).1 from rfl]
      simp only [Int64.lt_iff_toInt_lt, i1, i2, kw_let_def, km_next]
      rw [es]
      unfold kp_st
      by_cases q4 : (kp_ro2 (kp_v P D L.toInt n) a s b).1 < kp_v P D L.toInt n a b
      · rw [if_pos q4, if_pos q4]
        unfold km_sc3
        have hpos : 0 < kp_v P D L.toInt n a b := by have := hok.1; omega
        dsimp only
        rw [if_pos hpos, if_pos hpos]
      · rw [if_neg q4, if_neg q4]
        rfl
    by_cases q1 : a = b
    · rw [if_pos q1]
      have hz : kp_v P D L.toInt n a b = 0 := by unfold kp_v; rw [if_pos (Or.inl q1)]
      rw [hz] at hj
      rw [show (0 : Int64) = Int64.ofInt 0 by decide, hj]
      exact ⟨_, rfl, rfl⟩
    · rw [if_neg q1, km_savedBy h hP h12 hrow hD hL ha hbn q2, Option.bind_some]
      have hv2 : (if kp_bring P L.toInt a b = true then (0 : Int) else kp_sv P D L.toInt a b n) = kp_v P D L.toInt n a b := by
        unfold kp_v
        by_cases q3 : kp_bring P L.toInt a b = true
        · rw [if_pos q3, if_pos (Or.inr (Or.inr q3))]
        · rw [if_neg q3, if_neg (fun z => by
            rcases z with z | z | z
            · exact q1 z
            · exact q2 z
            · exact q3 z)]
      rw [hv2, hj]
      exact ⟨_, rfl, rfl⟩)
  rw [hx, hq]
theorem km_scall {σ : kw_M} {P : Nat → kr_D} {D : kr_D} {n : Nat} {L a2 : Int32} (h : km_P σ P n) (hP : kp_bt P n) (h0 : 0 < n) (h12 : n ≤ 12) (hrow : ∀ t, t < 12 → σ.2 3 t = km_enc (D t)) (hD : kr_in D 400000000000) (hL : -1000000000 ≤ L.toInt ∧ L.toInt ≤ 1000000000) : kw_loop (fun q => bX10_shortcut_45 L a2 σ q.1 q.2.1 q.2.2.1 q.2.2.2) kw_F ((-2 : Int32), (-2 : Int32), (0 : Int64), (0 : Int32)) = some (km_sc3 (kp_sc (kp_v P D L.toInt n) n n)) := by
  have hv := fun a b (_ : a < n) (hb : b < n) => kp_v_bd (a := a) hP hD hL hb h12
  obtain ⟨x, hx, hq⟩ := kw_for (body := fun q => bX10_shortcut_45 L a2 σ q.1 q.2.1 q.2.2.1 q.2.2.2) (fun a q => q = ((km_sc3 (kp_sc (kp_v P D L.toInt n) n a)).1, (km_sc3 (kp_sc (kp_v P D L.toInt n) n a)).2.1, (km_sc3 (kp_sc (kp_v P D L.toInt n) n a)).2.2, nI a)) (fun x => x = km_sc3 (kp_sc (kp_v P D L.toInt n) n n)) n (by omega) (s0 := ((-2 : Int32), (-2 : Int32), (0 : Int64), (0 : Int32))) rfl (fun a q ha hp => by
    subst hp
    dsimp only
    unfold bX10_shortcut_45 fX10_towns
    rw [h.1, Option.bind_some]
    by_cases han : a < n
    case neg =>
      right
      obtain rfl : a = n := by omega
      rw [if_pos (nI_le (Nat.le_refl a) (by omega))]
      exact ⟨_, rfl, rfl⟩
    left
    refine ⟨han, ?_⟩
    rw [if_neg (nI_ge han (by omega)), km_scrow h hP h12 hrow hD hL han (kp_sc_ok h0 hv a (by omega)), Option.bind_some, kw_let_def, km_next]
    exact ⟨_, rfl, rfl⟩)
  rw [hx, hq]
theorem ko_shortcut {σX σM : kw_M} {a1 a2 : Int32} (hR : kw_Rel σX σM) : ∃ a τX τM, fX9_shortcut a1 a2 σX = some (a, τX) ∧ fX10_shortcut a1 a2 σM = some (a, τM) ∧ kw_Rel τX τM := by
  obtain ⟨n, m, o, hok, hsh, hkp, htp, hpr⟩ := hR
  have same : kw_Rel σX σM := ⟨n, m, o, hok, hsh, hkp, htp, hpr⟩
  have h2 := hok.1.2.1
  have h12 := hok.1.2.2.1
  have hon := hok.2.2.1
  have hnX : σX.1 12 0 = nI n := hsh.1.1.trans hok.1.1
  unfold fX9_shortcut fX10_shortcut
  rw [kx_isLength, km_isLength, km_in, Int32.toInt_toInt64]
  simp only [Option.bind_some, kx_fl_0, show (0 : Int64).toInt = 0 by decide, show (2 : Int64).toInt = 2 by decide, Int32.lt_iff_toInt_lt, show (0 : Int32).toInt = 0 by decide]
  by_cases t4 : -1000000000 ≤ a1.toInt ∧ a1.toInt ≤ 1000000000
  case neg =>
    rw [decide_eq_false t4, kn_ff, kn_ff]
    exact ⟨_, _, _, rfl, rfl, same⟩
  rw [decide_eq_true t4, kn_tf, kn_tf]
  by_cases t2 : 0 ≤ a2.toInt ∧ a2.toInt ≤ 2
  case neg =>
    rw [decide_eq_false t2, kn_ff]
    refine ⟨_, _, _, ?_, rfl, same⟩
    by_cases q : a2.toInt < 0
    · rw [if_pos q]
    · rw [if_neg q, if_neg (by rw [Int32.le_iff_toInt_le, show (2 : Int32).toInt = 2 by decide]; omega)]
  rw [decide_eq_true t2, kn_tf, if_neg (by omega), if_pos (by rw [Int32.le_iff_toInt_le, show (2 : Int32).toInt = 2 by decide]; omega)]
  obtain ⟨w, hw, rfl⟩ := kw_arg (x := a2) (n := 3) (by omega) ⟨t2.1, by omega⟩
  obtain ⟨ρs, s1, s2, s3, s4⟩ := km_settles' hok.1.2.2.2.1 hok.1.1 (by omega) h12 hok.2.1 (by omega)
  obtain ⟨ρ, p1, p2, p3, p4⟩ := km_pairs (σ := ρs) (n := n) (m := m) (o := o) (by rw [s2]; exact hok)
  rw [s2] at p2 p4
  obtain ⟨τ, e1, e2, e3, e4⟩ := kx_right hok hsh hpr
  have hbt : kp_bt (fun a => kb_D (σM.1 1) n m a) n := fun a _ => kb_D_in2 hok.1.2.2.2.1 h12
  have hD : kr_in (kb_D (σM.1 1) n m o) 400000000000 := kb_D_in2 hok.1.2.2.2.1 h12
  unfold fX9_findShortcut
  rw [s1, Option.bind_some, p1, Option.bind_some, e1, Option.bind_some, kw_let_def]
  have hkP : kx_P (kw_sl τ 9 2 0) (fun a => kb_D (σM.1 1) n m a) n := kx_P_fr (σ := τ) ⟨e2.2.1, e2.2.2⟩ rfl (kw_sl_o (by decide))
  obtain ⟨τ2, f1, ⟨f2, f3⟩, f4⟩ := kx_scall (L := a1) (D := kb_D (σM.1 1) n m o) hkP hbt (by rw [kw_sl_1, e3 12 (by decide)]; exact hnX) (by omega) h12 (fun t ht => by rw [kw_sl_o (by decide), e4 16 (by decide) (by decide)]; exact hsh.2.2.2.2.1 t ht) hD t4 (by rw [kw_sl_2, kw_updL_e])
  rw [f1, Option.bind_some, Option.bind_some]
  have hkm : km_P ρ (fun a => kb_D (σM.1 1) n m a) n := ⟨by rw [p2]; exact hok.1.1, p4⟩
  rw [km_scall (L := a1) (a2 := nI w) (D := kb_D (σM.1 1) n m o) hkm hbt (by omega) h12 (fun t ht => by rw [p3 3 (by decide) (by decide)]; exact s3 t ht) hD t4, Option.bind_some]
  have hv := fun a b (_ : a < n) (hb : b < n) => kp_v_bd (a := a) (b := b) hbt hD t4 hb h12
  have hk3 := kp_sc_ok (v := kp_v (fun a => kb_D (σM.1 1) n m a) (kb_D (σM.1 1) n m o) a1.toInt n) (by omega) hv n (Nat.le_refl _)
  generalize kp_sc (kp_v (fun a => kb_D (σM.1 1) n m a) (kb_D (σM.1 1) n m o) a1.toInt n) n n = S at f4 hk3
  have rel : kw_Rel τ2 ρ := by
    refine kw_Rel_a hok hsh hkp htp ⟨?_, ?_, ?_⟩ (km_q_e p2)
    · exact ⟨fun c hc => by rw [f2]; exact e3 c (by omega), fun c hc => by rw [f3 c (by omega), kw_sl_o (by omega)]; exact e4 c (by omega) (by omega)⟩
    · exact ⟨fun c hc => by rw [f2]; exact e3 c (by omega), fun c hc => by rw [f3 c (by omega), kw_sl_o (by omega)]; exact e4 c (by omega) (by omega)⟩
    · exact Or.inr ⟨by rw [f2]; exact e2.1, by rw [f2]; exact e2.2.1, by rw [f3 39 (by decide), kw_sl_o (by decide)]; exact e2.2.2⟩
  rw [f4.1]
  have i2 : (Int64.ofInt S.1).toInt = S.1 := km_toInt (by have := hk3.1; omega) (by have := hk3.2.1; omega)
  simp (disch := omega) only [Int64.le_iff_toInt_le, i2, show (0 : Int64).toInt = 0 by decide, kn_e0 (show w < 2147483648 by omega), kn_e1 (show w < 2147483648 by omega), kn_chk, kn_clamp]
  unfold km_sc3
  dsimp only
  by_cases hp : 0 < S.1
  · obtain ⟨g0, g1⟩ := f4.2 hp
    rw [if_neg (by omega), if_pos hp, if_pos hp]
    obtain rfl | rfl | rfl : w = 0 ∨ w = 1 ∨ w = 2 := by omega
    · rw [if_pos rfl, g0]
      exact ⟨_, _, _, rfl, rfl, rel⟩
    · rw [if_neg (by decide), if_pos rfl, g1]
      exact ⟨_, _, _, rfl, rfl, rel⟩
    · have hpos : (0 : Int32) ≤ nI S.2.1 := by
        rw [kn_0, kn_le (by decide) (by have := hk3.2.2.1; omega)]
        exact Nat.zero_le _
      rw [if_neg (by decide), if_neg (by decide), if_pos hpos, f4.1]
      exact ⟨_, _, _, rfl, rfl, rel⟩
  · rw [if_pos (by omega), if_neg hp, if_neg hp]
    obtain rfl | rfl | rfl : w = 0 ∨ w = 1 ∨ w = 2 := by omega
    · rw [if_pos rfl]
      exact ⟨_, _, _, rfl, rfl, rel⟩
    · rw [if_neg (by decide), if_pos rfl]
      exact ⟨_, _, _, rfl, rfl, rel⟩
    · rw [if_neg (by decide), if_neg (by decide), if_neg (show ¬ (0 : Int32) ≤ -2 by decide)]
      exact ⟨_, _, _, rfl, rfl, rel⟩
