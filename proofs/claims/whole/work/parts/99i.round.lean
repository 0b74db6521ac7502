/-! Rounds through some towns: the class. -/
def kb_P (F : Nat → Int32) (n m : Nat) : Nat → Nat → Option Int := fun a b => kr_dst (km_gr F m (-1)) n a b
def kr_b13 (v : Option Int) : Prop := ∀ z, v = some z → -4000000000000 ≤ z ∧ z ≤ 4000000000000
def kx_sb (σ : kw_M) (c : Nat) (s : kr_S) : Prop := σ.2 8 5 = kx_enc s.1 ∧ (s.1 ≠ none → ∀ i, i < c → σ.1 45 i = nI (s.2.getD i 0))
def kx_o8 (σ τ : kw_M) (d : Nat) : Prop := (∀ c, c ≠ 45 → c ≠ 46 → τ.1 c = σ.1 c) ∧ (∀ c, c ≠ 8 → τ.2 c = σ.2 c) ∧ ∀ i, i < d → τ.1 46 i = σ.1 46 i
theorem kx_o8_r (σ : kw_M) (d : Nat) : kx_o8 σ σ d := ⟨fun _ _ _ => rfl, fun _ _ => rfl, fun _ _ => rfl⟩
theorem kx_o8_t {a b c : kw_M} {d : Nat} (h : kx_o8 a b d) (g : kx_o8 b c d) : kx_o8 a c d := ⟨fun q h1 h2 => (g.1 q h1 h2).trans (h.1 q h1 h2), fun q hq => (g.2.1 q hq).trans (h.2.1 q hq), fun i hi => (g.2.2 i hi).trans (h.2.2 i hi)⟩
def kx_rx (σ : kw_M) (F : Nat → Int32) (n m o : Nat) : Prop := kx_prt σ F n m ∧ σ.1 8 3 = nI o ∧ σ.1 8 4 = nI n
theorem kx_rx_o {σ τ : kw_M} {F : Nat → Int32} {n m o d : Nat} (h : kx_rx σ F n m o) (ho : kx_o8 σ τ d) : kx_rx τ F n m o := by
  obtain ⟨h1, h2, h3⟩ := h
  refine ⟨?_, by rw [ho.1 8 (by decide) (by decide)]; exact h2, by rw [ho.1 8 (by decide) (by decide)]; exact h3⟩
  unfold kx_prt
  rw [ho.1 5 (by decide) (by decide), ho.2.1 39 (by decide)]
  exact h1
theorem kr_getD_app (x : Nat) : ∀ (l : List Nat) (i : Nat), (l ++ [x]).getD i 0 = if i = l.length then x else l.getD i 0
  | [], 0 => rfl
  | [], i + 1 => by rw [if_neg (by simp)]; rfl
  | a :: l, 0 => by rw [if_neg (by simp)]; rfl
  | a :: l, i + 1 => by
    show (l ++ [x]).getD i 0 = if i + 1 = l.length + 1 then x else l.getD i 0
    rw [kr_getD_app x l i]
    by_cases e : i = l.length
    · rw [if_pos e, if_pos (by omega)]
    · rw [if_neg e, if_neg (by omega)]
theorem kr_cntb_z {S : Nat → Bool} : ∀ n : Nat, kr_cntb S n = 0 → ∀ q, q < n → S q = false
  | 0, _, q, hq => absurd hq (Nat.not_lt_zero _)
  | n + 1, h, q, hq => by
    rw [kr_cntb_s] at h
    by_cases e : q = n
    · subst e
      cases hs : S q with
      | false => rfl
      | true => rw [hs, kn_tt] at h; omega
    · exact kr_cntb_z n (by omega) q (by omega)
theorem kr_cntb_f {S : Nat → Bool} : ∀ n : Nat, (∀ q, q < n → S q = false) → kr_cntb S n = 0
  | 0, _ => rfl
  | n + 1, h => by rw [kr_cntb_s, h n (by omega), kn_ft, kr_cntb_f n (fun q hq => h q (by omega))]
theorem kw_m1 (i : Nat) (hi : i < 32) : kw_bI (-1) i = true := by
  have : ∀ i, i < 32 → kw_bI (-1) i = true := by decide
  exact this i hi
theorem kw_bI_cl {w : Int32} {k q : Nat} (hk : k < 32) (hq : q < 32) : kw_bI (w &&& (((1 : Int32) <<< (nI k &&& 31)) ^^^ (-1 : Int32))) q = (kw_bI w q && !decide (q = k)) := by
  rw [kw_bI_and, kw_bI_xor, kw_upI hk q hq, kw_m1 q hq, Bool.xor_true]
theorem kr_filt_s (S : Nat → Bool) (k : Nat) : (List.range (k + 1)).filter S = (List.range k).filter S ++ (if S k = true then [k] else []) := by
  rw [List.range_succ, List.filter_append]
  by_cases h : S k = true
  · rw [if_pos h, List.filter_cons_of_pos h]; rfl
  · rw [if_neg h, List.filter_cons_of_neg h]; rfl
theorem kr_ls_mono {a b : Int} {v : Option Int} (h : kr_ls (some a) v = false) (hab : a ≤ b) : kr_ls (some b) v = false := by
  cases v with
  | none => cases h
  | some y =>
    have h1 : decide (a < y) = false := h
    rw [decide_eq_false_iff_not] at h1
    show decide (b < y) = false
    rw [decide_eq_false_iff_not]
    omega
theorem kx_rdive {F : Nat → Int32} {n m o c : Nat} (hok : kb_ok F n m o) (hc : c ≤ 6) : ∀ (f N d u : Nat) (S : Nat → Bool) (w : Int32) (gone : Int) (pre : List Nat) (s : kr_S) (σ : kw_M), d + f = c → f < N → u < n → kr_cntb S n = f → (∀ q, q < 32 → kw_bI w q = S q) → (∀ q, S q = true → q < n) → (-(d * 400000000000 : Int) ≤ gone ∧ gone ≤ d * 400000000000) → kr_b13 s.1 → kx_rx σ F n m o → pre.length = d → (∀ i, i < d → σ.1 46 i = nI (pre.getD i 0)) → kx_sb σ c s → ∃ τ, fRX5_dive N (nI u) w (Int64.ofInt gone) (nI d) σ = some τ ∧ kx_o8 σ τ d ∧ kx_sb τ c (kr_tr (kb_P F n m) o n f S u gone pre s) ∧ kr_b13 (kr_tr (kb_P F n m) o n f S u gone pre s).1 := by
  have hw := hok.1
  have h12 := hw.2.2.1
  have hg := hok.2.2.2.1
  have htn := kb_tn hw (-1)
  have hon := hok.2.2.1
  intro f
  induction f with
  | zero =>
    intro N d u S w gone pre s σ hdf hfN hu hcnt hbw hSn hgone hb hrx hpl hpre hsb
    obtain ⟨N, rfl⟩ : ∃ k, N = k + 1 := ⟨N - 1, by omega⟩
    have hd6 : (d : Int) ≤ 6 := by omega
    have bo := kb_D_in2 (n := n) (o := u) hw.2.2.2.1 h12 o
    have hpo := kr_plus_in (a := some gone) (b := kb_D F n m u o) (A := 2400000000000) (B := 400000000000) (fun z hz => by cases hz; omega) bo
    have w0 : w = 0 := kw_bI_e fun i hi => by
      rw [hbw i hi, kw_bI_0]
      cases q : S i with
      | false => rfl
      | true =>
        have := kr_cntb_z n hcnt i (hSn i q)
        rw [q] at this
        cases this
    show ∃ τ, fFX5_dive (fRX5_dive N) (nI u) w (Int64.ofInt gone) (nI d) σ = some τ ∧ _
    unfold fFX5_dive
    rw [hrx.2.1, kx_span hrx.1 hu h12 (by omega), Option.bind_some, show Int64.ofInt gone = kx_enc (some gone) from rfl, kx_joined (fun z hz => by cases hz; omega) (fun z hz => by have := bo z hz; omega), Option.bind_some, hsb.1, kx_isLess (fun z hz => by have := hpo z hz; omega) (fun z hz => by have := hb z hz; omega), Option.bind_some, kr_tr_0]
    simp only [kx_fl_0, kw_let_def]
    have eP : kb_P F n m u o = kb_D F n m u o := rfl
    rw [eP]
    cases hl : kr_ls (kr_plus (some gone) (kb_D F n m u o)) s.1 with
    | false =>
      rw [kn_ff, kr_up_no hl]
      exact ⟨σ, rfl, kx_o8_r σ d, hsb, hb⟩
    | true =>
      rw [kn_tf, if_pos w0]
      have e : kr_up s (kr_plus (some gone) (kb_D F n m u o)) pre = (kr_plus (some gone) (kb_D F n m u o), pre) := by
        unfold kr_up
        rw [hl, kn_tt]
      rw [e]
      refine ⟨_, rfl, ⟨fun q h1 h2 => ?_, fun q hq => ?_, fun i hi => ?_⟩, ⟨?_, fun _ i hi => ?_⟩, fun z hz => by have := hpo z hz; omega⟩
      · rw [kw_ri_o h1, kw_sl_1]
      · show (kw_sl σ 8 5 _).2 q = _
        rw [kw_sl_o hq]
      · rw [kw_ri_o (by decide), kw_sl_1]
      · exact (congrFun (kw_sl_2 σ 8 5 _) 5).trans (kw_updL_e _ _ _)
      · rw [kw_ri_1, kw_sl_1]
        unfold va_cpy
        rw [if_pos (by omega), show 0 + (i - 0) = i by omega]
        exact hpre i (by omega)
  | succ f ih =>
    intro N d u S w gone pre s σ hdf hfN hu hcnt hbw hSn hgone hb hrx hpl hpre hsb
    obtain ⟨N, rfl⟩ : ∃ k, N = k + 1 := ⟨N - 1, by omega⟩
    have hd6 : (d : Int) ≤ 5 := by omega
    have bo := kb_D_in2 (n := n) (o := u) hw.2.2.2.1 h12 o
    have hpo := kr_plus_in (a := some gone) (b := kb_D F n m u o) (A := 2400000000000) (B := 400000000000) (fun z hz => by cases hz; omega) bo
    have w0 : ¬ w = 0 := fun e => by
      have : kr_cntb S n = 0 := kr_cntb_f n (fun q hq => by rw [← hbw q (by omega), e, kw_bI_0])
      omega
    show ∃ τ, fFX5_dive (fRX5_dive N) (nI u) w (Int64.ofInt gone) (nI d) σ = some τ ∧ _
    unfold fFX5_dive
    rw [hrx.2.1, kx_span hrx.1 hu h12 (by omega), Option.bind_some, show Int64.ofInt gone = kx_enc (some gone) from rfl, kx_joined (fun z hz => by cases hz; omega) (fun z hz => by have := bo z hz; omega), Option.bind_some, hsb.1, kx_isLess (fun z hz => by have := hpo z hz; omega) (fun z hz => by have := hb z hz; omega), Option.bind_some]
    simp only [kx_fl_0, kw_let_def]
    cases hl : kr_ls (kr_plus (some gone) (kb_D F n m u o)) s.1 with
    | false =>
      rw [kn_ff]
      have e : kr_tr (kb_P F n m) o n (f + 1) S u gone pre s = s := kr_tr_same (fun l => by
        cases hz : kr_ol (kb_P F n m) o u l with
        | none => rfl
        | some z =>
          obtain ⟨p, hp, hle⟩ := kr_ol_lo hg htn l u z hu hz
          have hp' : kb_D F n m u o = some p := hp
          rw [hp'] at hl
          have h1 : kr_ls (some (gone + p)) s.1 = false := hl
          exact kr_ls_mono (b := gone + z) h1 (by omega))
      rw [e]
      exact ⟨σ, rfl, kx_o8_r σ d, hsb, hb⟩
    | true =>
      rw [kn_tf, if_neg w0, if_pos (show nI d < (6 : Int32) by rw [show (6 : Int32) = nI 6 by decide, kn_lt (by omega) (by omega)]; omega), kr_tr_s]
      obtain ⟨x, hx, x1, x2, x3⟩ := kw_for (body := fun q => bX5_dive_68 (fRX5_dive N) (nI u) w (kx_enc (some gone)) (nI d) q.1 q.2) (fun k q => q.1 = nI k ∧ kx_o8 σ q.2 d ∧ kx_sb q.2 c (((List.range k).filter S).foldl (fun s t => kr_tn1 (kb_P F n m) o n f S u gone pre s t) s) ∧ kr_b13 (((List.range k).filter S).foldl (fun s t => kr_tn1 (kb_P F n m) o n f S u gone pre s t) s).1) (fun x => kx_o8 σ x d ∧ kx_sb x c (((List.range n).filter S).foldl (fun s t => kr_tn1 (kb_P F n m) o n f S u gone pre s t) s) ∧ kr_b13 (((List.range n).filter S).foldl (fun s t => kr_tn1 (kb_P F n m) o n f S u gone pre s t) s).1) n (by omega) (s0 := ((0 : Int32), σ)) ⟨rfl, kx_o8_r σ d, hsb, hb⟩ (fun k q hk hp => by
        obtain ⟨v, τ⟩ := q
        obtain ⟨rfl, ho, hs, hbk⟩ := hp
        dsimp only at ho hs hbk ⊢
        have hrxτ := kx_rx_o hrx ho
        unfold bX5_dive_68
        rw [hrxτ.2.2]
        by_cases hkn : k < n
        case neg =>
          right
          obtain rfl : k = n := by omega
          rw [if_pos (nI_le (Nat.le_refl k) (by omega))]
          exact ⟨_, rfl, ho, hs, hbk⟩
        left
        refine ⟨hkn, ?_⟩
        rw [if_neg (nI_ge hkn (by omega)), kw_dnI (by omega), hbw k (by omega), kr_filt_s]
        simp only [kx_fl_0, kw_let_def, km_next]
        cases hS : S k with
        | false =>
          rw [kn_ff, kn_ft, List.append_nil]
          exact ⟨_, rfl, rfl, ho, hs, hbk⟩
        | true =>
          rw [kn_tf, kn_tt, List.foldl_append, kx_comesTo hrxτ.1 hw.2.2.2.1 hu h12 (by omega), Option.bind_some]
          simp only [kx_fl_0, List.foldl_cons, List.foldl_nil]
          have eP : kb_P F n m u k = kb_D F n m u k := rfl
          cases hxk : kb_D F n m u k with
          | none =>
            have e1 : ∀ s', kr_tn1 (kb_P F n m) o n f S u gone pre s' k = s' := fun s' => by
              unfold kr_tn1
              rw [eP, hxk]
            rw [e1, show (none : Option Int).isSome = false from rfl, kn_ff]
            exact ⟨_, rfl, rfl, ho, hs, hbk⟩
          | some x =>
            have bx := kb_D_in2 hw.2.2.2.1 h12 k x hxk
            have e1 : ∀ s', kr_tn1 (kb_P F n m) o n f S u gone pre s' k = kr_tr (kb_P F n m) o n f (fun q => S q && !decide (q = k)) k (gone + x) (pre ++ [k]) s' := fun s' => by
              unfold kr_tn1
              rw [eP, hxk]
            have ho14 : kx_o8 σ (kw_si τ 46 d (nI k)) d := ⟨fun q h1 h2 => by rw [kw_si_o h2]; exact ho.1 q h1 h2, fun q hq => by rw [kw_si_2]; exact ho.2.1 q hq, fun i hi => by rw [kw_si_1, kw_upd_n (by omega)]; exact ho.2.2 i hi⟩
            have hrx14 := kx_rx_o hrx ho14
            have hcnt2 : kr_cntb (fun q => S q && !decide (q = k)) n = f := by
              have := kr_cntb_rm (p := S) (a := k) n
              rw [if_pos ⟨hkn, hS⟩] at this
              omega
            rw [e1, show (some x).isSome = true from rfl, kn_tf, kn_chk (by omega) (by decide), kn_clamp (by omega), kx_span hrx14.1 hu h12 (by omega), Option.bind_some, hxk, show kx_enc (some gone) = Int64.ofInt gone from rfl, show kx_enc (some x) = Int64.ofInt x from rfl, kw_addL (by omega) (by omega) (by omega) (by omega)]
            obtain ⟨τ2, r1, r2, r3, r4⟩ := ih N (d + 1) k (fun q => S q && !decide (q = k)) (w &&& (((1 : Int32) <<< (nI k &&& 31)) ^^^ (-1 : Int32))) (gone + x) (pre ++ [k]) (((List.range k).filter S).foldl (fun s t => kr_tn1 (kb_P F n m) o n f S u gone pre s t) s) (kw_si τ 46 d (nI k)) (by omega) (by omega) hkn hcnt2 (fun q hq => by rw [kw_bI_cl (by omega) hq, hbw q hq]) (fun q hq => hSn q (by rw [Bool.and_eq_true] at hq; exact hq.1)) (by omega) hbk hrx14 (by rw [List.length_append, hpl]; rfl) (fun i hi => by
              rw [kr_getD_app, kw_si_1, hpl]
              by_cases e : i = d
              · rw [if_pos e, e, kw_upd_e]
              · rw [if_neg e, kw_upd_n e, ho.2.2 i (by omega)]
                exact hpre i (by omega)) ⟨by rw [kw_si_2]; exact hs.1, fun hne i hi => by rw [kw_si_o (by decide)]; exact hs.2 hne i hi⟩
            rw [r1, Option.bind_some]
            exact ⟨_, rfl, rfl, kx_o8_t ho14 ⟨r2.1, r2.2.1, fun i hi => r2.2.2 i (by omega)⟩, r3, r4⟩)
      rw [hx, Option.bind_some]
      exact ⟨x, rfl, x1, x2, x3⟩
theorem kx_findRound {σ : kw_M} {F : Nat → Int32} {n m o c : Nat} {S : Nat → Bool} {w : Int32} (hok : kb_ok F n m o) (hprt : kx_prt σ F n m) (hc : c ≤ 6) (hcnt : kr_cntb S n = c) (hbw : ∀ q, q < 32 → kw_bI w q = S q) (hSn : ∀ q, S q = true → q < n) : ∃ τ, fX5_findRound (nI o) w (nI n) σ = some (kx_enc (kr_tr (kb_P F n m) o n c S o 0 [] (none, [])).1, τ) ∧ (∀ c, c ≠ 8 → c ≠ 45 → c ≠ 46 → τ.1 c = σ.1 c) ∧ (∀ c, c ≠ 8 → τ.2 c = σ.2 c) ∧ kx_sb τ c (kr_tr (kb_P F n m) o n c S o 0 [] (none, [])) ∧ kr_b13 (kr_tr (kb_P F n m) o n c S o 0 [] (none, [])).1 := by
  have hon := hok.2.2.1
  have hrx : kx_rx (kw_sl (kw_si (kw_si σ 8 3 (nI o)) 8 4 (nI n)) 8 5 (-9000000000000000000 : Int64)) F n m o := by
    refine ⟨?_, ?_, ?_⟩
    · unfold kx_prt
      rw [kw_sl_1, kw_si_o (by decide), kw_si_o (by decide), kw_sl_o (by decide), kw_si_2, kw_si_2]
      exact hprt
    · rw [kw_sl_1, kw_si_1, kw_upd_n (by decide), kw_si_1, kw_upd_e]
    · rw [kw_sl_1, kw_si_1, kw_upd_e]
  obtain ⟨τ, d1, d2, d3, d4⟩ := kx_rdive hok hc c 20 0 o S w 0 [] (none, []) _ (by omega) (by omega) hon hcnt hbw hSn (by decide) (fun z hz => by cases hz) hrx rfl (fun i hi => absurd hi (Nat.not_lt_zero _)) ⟨by rw [kw_sl_2, kw_updL_e]; rfl, fun h => absurd rfl h⟩
  have e : fX5_dive (nI o) w (0 : Int64) (0 : Int32) (kw_sl (kw_si (kw_si σ 8 3 (nI o)) 8 4 (nI n)) 8 5 (-9000000000000000000 : Int64)) = some τ := d1
  unfold fX5_findRound
  rw [kw_let_def, kw_let_def, kw_let_def, e, Option.bind_some, d3.1]
  refine ⟨τ, rfl, fun q h8 h45 h46 => ?_, fun q hq => ?_, d3, d4⟩
  · rw [d2.1 q h45 h46, kw_sl_1, kw_si_o h8, kw_si_o h8]
  · rw [d2.2.1 q hq, kw_sl_o hq, kw_si_2, kw_si_2]
