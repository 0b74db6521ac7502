/-! Rounds through some towns: the reference's search. -/
theorem kr_take_s {α : Type} (d : α) : ∀ (L : List α) (k : Nat), k < L.length → L.take (k + 1) = L.take k ++ [L.getD k d]
  | [], k, h => absurd h (Nat.not_lt_zero _)
  | a :: L, 0, _ => rfl
  | a :: L, k + 1, h => by
    show a :: L.take (k + 1) = a :: (L.take k ++ [L.getD k d])
    rw [kr_take_s d L k (Nat.lt_of_succ_lt_succ h)]
theorem kr_drop_s {α : Type} (d : α) : ∀ (L : List α) (k : Nat), k < L.length → L.drop k = L.getD k d :: L.drop (k + 1)
  | [], k, h => absurd h (Nat.not_lt_zero _)
  | a :: L, 0, _ => rfl
  | a :: L, k + 1, h => by
    show L.drop k = L.getD k d :: L.drop (k + 1)
    exact kr_drop_s d L k (Nat.lt_of_succ_lt_succ h)
theorem kr_map_getD (T : Nat → Nat) : ∀ (l : List Nat) (i : Nat), i < l.length → (l.map T).getD i 0 = T (l.getD i 0)
  | [], i, h => absurd h (Nat.not_lt_zero _)
  | a :: l, 0, _ => rfl
  | a :: l, i + 1, h => by
    show (l.map T).getD i 0 = T (l.getD i 0)
    exact kr_map_getD T l i (Nat.lt_of_succ_lt_succ h)
theorem km_enc_no {z : Int} (h : -10000000000000000 ≤ z ∧ z ≤ 10000000000000000) : ¬ km_enc (some z) = 900000000000000000 := fun e => by
  have e' : km_enc (some z) = km_enc none := e
  rw [km_enc_eq (fun y hy => by cases hy; exact h) kr_bd_none] at e'
  cases e'
theorem km_roundLong {σ : kw_M} {P : Nat → kr_D} {n o c : Nat} {L : List Nat} (hP : km_P σ P n) (hbt : kp_bt P n) (h12 : n ≤ 12) (hon : o < n) (hso : σ.1 1 2 = nI o) (hc : c ≤ 6) (h0 : σ.1 0 31 = nI c) (hl : L.length = c) (hL : ∀ i, i < c → L.getD i 0 < n ∧ σ.1 19 i = nI (L.getD i 0)) : fX10_roundLong σ = some (km_enc (kr_ol P o o L)) ∧ kr_b13 (kr_ol P o o L) := by
  obtain ⟨x, hx, hQ⟩ := kw_for (body := fun s => bX10_roundLong_12 σ s.1 s.2.1 s.2.2) (fun k s => ∃ sum u, s = (Int64.ofInt sum, nI u, nI k) ∧ u < n ∧ (-(k * 400000000000 : Int) ≤ sum ∧ sum ≤ k * 400000000000) ∧ kr_ol P o o L = kr_plus (some sum) (kr_ol P o u (L.drop k))) (fun x => Sum.elim (fun v => v = 900000000000000000 ∧ kr_ol P o o L = none) (fun q => ∃ sum u, q = (Int64.ofInt sum, nI u) ∧ u < n ∧ (-2400000000000 ≤ sum ∧ sum ≤ 2400000000000) ∧ kr_ol P o o L = kr_plus (some sum) (P u o)) x) c (by omega) (s0 := ((0 : Int64), nI o, (0 : Int32))) ⟨0, o, rfl, hon, by decide, by
      show kr_ol P o o L = kr_plus (some 0) (kr_ol P o o L)
      cases kr_ol P o o L with
      | none => rfl
      | some z =>
        show some z = some (0 + z)
        rw [Int.zero_add]⟩ (fun k s hk hP' => by
    obtain ⟨sum, u, rfl, hu, hs, he⟩ := hP'
    dsimp only
    unfold bX10_roundLong_12
    rw [h0]
    by_cases hkc : k < c
    case neg =>
      right
      obtain rfl : k = c := by omega
      rw [if_pos (nI_le (Nat.le_refl k) (by omega))]
      refine ⟨_, rfl, sum, u, rfl, hu, by omega, ?_⟩
      rw [he, List.drop_eq_nil_of_le (by omega)]
      rfl
    obtain ⟨ht, htv⟩ := hL k hkc
    have hq := hP.2 u hu (L.getD k 0) (by omega)
    rw [kr_drop_s 0 L k (by omega)] at he
    have he' : kr_ol P o o L = kr_plus (some sum) (kr_plus (P u (L.getD k 0)) (kr_ol P o (L.getD k 0) (L.drop (k + 1)))) := he
    rw [if_neg (nI_ge hkc (by omega)), kn_chk (show k < 6 by omega) (by decide), kn_clamp (by omega), htv, kn_12, kn_mul, nI_add, kn_chk (show 12 * u + L.getD k 0 < 144 by omega) (by decide), kn_clamp (by omega), hq]
    cases hv : P u (L.getD k 0) with
    | none =>
      right
      rw [if_pos (show km_enc none = 900000000000000000 from rfl)]
      refine ⟨_, rfl, rfl, ?_⟩
      rw [he', hv]
      rfl
    | some z =>
      left
      have bz := hbt u hu _ z hv
      rw [if_neg (km_enc_no (by omega)), show km_enc (some z) = Int64.ofInt z from rfl, kw_addL (by omega) (by omega) (by omega) (by omega), kw_let_def, kw_let_def, kw_let_def, km_next]
      refine ⟨hkc, _, rfl, sum + z, L.getD k 0, rfl, ht, by omega, ?_⟩
      rw [he', hv, kr_plus_as]
      rfl)
  unfold fX10_roundLong
  rw [hso, kw_let_def, hx, Option.bind_some]
  cases x with
  | inl v =>
    obtain ⟨rfl, h2⟩ := hQ
    rw [h2]
    exact ⟨rfl, fun z hz => by cases hz⟩
  | inr q =>
    obtain ⟨sum, u, rfl, hu, hs, he⟩ := hQ
    rw [he]
    have hq := hP.2 u hu o (by omega)
    show (kw_chk (kw_in ((12 : Int32) * nI u + nI o) 144) _) = _ ∧ _
    rw [kn_12, kn_mul, nI_add, kn_chk (show 12 * u + o < 144 by omega) (by decide), kn_clamp (by omega), hq]
    cases hv : P u o with
    | none =>
      rw [if_pos (show km_enc none = 900000000000000000 from rfl)]
      exact ⟨rfl, fun z hz => by cases hz⟩
    | some z =>
      have bz := hbt u hu _ z hv
      rw [if_neg (km_enc_no (by omega))]
      refine ⟨?_, fun y hy => ?_⟩
      · show some (Int64.ofInt sum + Int64.ofInt z) = some (Int64.ofInt (sum + z))
        rw [kw_addL (by omega) (by omega) (by omega) (by omega)]
      · have : some (sum + z) = some y := hy
        cases this
        omega
theorem kn_ch_at (c : Nat) : ∀ (L : List (List Nat)) (k : Nat), kn_ch c L = true → k < L.length → (k + 1 = L.length → kn_np c (fun i => (L.getD k []).getD i 0) = none) ∧ (k + 1 < L.length → ∃ q, kn_np c (fun i => (L.getD k []).getD i 0) = some q ∧ ∀ i, i < c → q i = (L.getD (k + 1) []).getD i 0)
  | [], k, _, h => absurd h (Nat.not_lt_zero _)
  | a :: L, 0, h, _ => by
    unfold kn_ch at h
    rw [Bool.and_eq_true] at h
    obtain ⟨h1, _⟩ := h
    have e0 : (a :: L).getD 0 [] = a := rfl
    rw [e0]
    cases hn : kn_np c (fun i => a.getD i 0) with
    | none =>
      rw [hn] at h1
      refine ⟨fun _ => rfl, fun e => ?_⟩
      cases L with
      | nil => exact absurd e (Nat.lt_irrefl 1)
      | cons b L => exact absurd (show false = true from h1) (by decide)
    | some q =>
      rw [hn] at h1
      cases L with
      | nil => exact absurd (show false = true from h1) (by decide)
      | cons b L =>
        refine ⟨fun e => ?_, fun _ => ⟨q, rfl, fun i hi => ?_⟩⟩
        · rw [List.length_cons, List.length_cons] at e; omega
        · have h2 : kn_eqL c q b = true := h1
          unfold kn_eqL at h2
          have h3 := List.all_eq_true.mp h2 i (List.mem_range.mpr hi)
          exact eq_of_beq h3
  | a :: L, k + 1, h, hk => by
    unfold kn_ch at h
    rw [Bool.and_eq_true] at h
    have ih := kn_ch_at c L k h.2 (Nat.lt_of_succ_lt_succ hk)
    have e1 : (a :: L).getD (k + 1) [] = L.getD k [] := rfl
    have e2 : (a :: L).getD (k + 1 + 1) [] = L.getD (k + 1) [] := rfl
    rw [e1, e2, List.length_cons]
    exact ⟨fun e => ih.1 (by omega), fun e => ih.2 (by omega)⟩
/-- what the reference has tried behind k orders -/
def kr_tk (P : Nat → Nat → Option Int) (o c : Nat) (T : Nat → Nat) (k : Nat) : kr_S := ((kn_Q c).take k).foldl (fun s l => kr_up s (kr_ol P o o (l.map T)) (l.map T)) (none, [])
theorem kr_tk_s {P : Nat → Nat → Option Int} {o c : Nat} {T : Nat → Nat} {k : Nat} (h : k < (kn_Q c).length) : kr_tk P o c T (k + 1) = kr_up (kr_tk P o c T k) (kr_ol P o o (((kn_Q c).getD k []).map T)) (((kn_Q c).getD k []).map T) := by
  unfold kr_tk
  rw [kr_take_s [] (kn_Q c) k h, List.foldl_append]
  rfl
theorem kr_up_yes {s : kr_S} {v : Option Int} {l : List Nat} (h : kr_ls v s.1 = true) : kr_up s v l = (v, l) := by
  unfold kr_up
  rw [h, kn_tt]
theorem kn_Q_at {c : Nat} (hc : c < 7) : (kn_Q c).getD 0 [] = List.range c ∧ (∀ k, k < (kn_Q c).length → ((kn_Q c).getD k []).length = c ∧ ∀ i, i < c → ((kn_Q c).getD k []).getD i 0 < c) ∧ 0 < (kn_Q c).length ∧ (kn_Q c).length ≤ 720 ∧ kn_ch c (kn_Q c) = true := by
  have h := kn_okQ_all c hc
  unfold kn_okQ at h
  rw [Bool.and_eq_true, Bool.and_eq_true, Bool.and_eq_true, Bool.and_eq_true, decide_eq_true_iff, decide_eq_true_iff] at h
  obtain ⟨h1, h2, h3, h4, h5⟩ := h
  refine ⟨?_, fun k hk => ?_, h3, h4, h5⟩
  · have e := eq_of_beq h1
    rw [← e]
    cases kn_Q c with
    | nil => rfl
    | cons a L => rfl
  · have hmem : (kn_Q c).getD k [] ∈ kn_Q c := by
      rw [List.getD_eq_getElem?_getD, List.getElem?_eq_getElem hk]
      exact List.getElem_mem hk
    have h6 := List.all_eq_true.mp h2 _ hmem
    rw [Bool.and_eq_true] at h6
    have hlen : ((kn_Q c).getD k []).length = c := eq_of_beq h6.1
    refine ⟨hlen, fun i hi => ?_⟩
    have hmi : ((kn_Q c).getD k []).getD i 0 ∈ (kn_Q c).getD k [] := by
      rw [List.getD_eq_getElem?_getD (l := (kn_Q c).getD k []), List.getElem?_eq_getElem (by omega)]
      exact List.getElem_mem (by omega)
    have h7 := List.all_eq_true.mp h6.2 _ hmi
    exact of_decide_eq_true h7
theorem kn_range_getD : ∀ c, c < 7 → ∀ i, i < c → (List.range c).getD i 0 = i := by decide
theorem km_bestOrder {σ : kw_M} {c : Nat} {a2 : Int32} {v : Int64} (hc : c ≤ 6) (h0 : σ.1 0 31 = nI c) : ∃ τ, kw_loop (fun s => bX10_round_144 a2 v s.1 s.2) kw_F ((0 : Int32), σ) = some τ ∧ (∀ i, i < c → τ.1 20 i = σ.1 19 i) ∧ (∀ x, x ≠ 20 → τ.1 x = σ.1 x) ∧ τ.2 = σ.2 :=
  kw_for (body := fun s => bX10_round_144 a2 v s.1 s.2) (fun k s => s.1 = nI k ∧ (∀ i, i < k → s.2.1 20 i = σ.1 19 i) ∧ (∀ x, x ≠ 20 → s.2.1 x = σ.1 x) ∧ s.2.2 = σ.2) (fun τ => (∀ i, i < c → τ.1 20 i = σ.1 19 i) ∧ (∀ x, x ≠ 20 → τ.1 x = σ.1 x) ∧ τ.2 = σ.2) c (by omega) (s0 := ((0 : Int32), σ)) ⟨rfl, fun i hi => absurd hi (Nat.not_lt_zero _), fun _ _ => rfl, rfl⟩ (fun k s hk hP => by
    obtain ⟨w, τ⟩ := s
    obtain ⟨h1, h2, h3, h4⟩ := hP
    dsimp only at h1 h2 h3 h4 ⊢
    subst h1
    unfold bX10_round_144
    rw [h3 0 (by decide), h0]
    by_cases q : k < c
    case neg =>
      right
      obtain rfl : k = c := by omega
      rw [if_pos (nI_le (Nat.le_refl k) (by omega))]
      exact ⟨_, rfl, h2, h3, h4⟩
    left
    rw [if_neg (nI_ge q (by omega)), kn_chk (show k < 6 by omega) (by decide), kn_clamp (by omega), kw_let_def, kw_let_def, km_next]
    refine ⟨q, _, rfl, rfl, fun i hi => ?_, fun x hx => ?_, h4⟩
    · show (kw_si τ 20 k (τ.1 19 k)).1 20 i = _
      rw [kw_si_1]
      by_cases e : i = k
      · rw [e, kw_upd_e, h3 19 (by decide)]
      · rw [kw_upd_n e]; exact h2 i (by omega)
    · show (kw_si τ 20 k (τ.1 19 k)).1 x = _
      rw [kw_si_o hx]; exact h3 x hx)
theorem km_rounds {σ : kw_M} {P : Nat → kr_D} {n o c : Nat} {T : Nat → Nat} {a2 : Int32} (hP : km_P σ P n) (hbt : kp_bt P n) (h12 : n ≤ 12) (hon : o < n) (hso : σ.1 1 2 = nI o) (hc : c ≤ 6) (h0 : σ.1 0 31 = nI c) (hT : ∀ i, i < c → T i < n) (hm : ∀ i j, i < j → j < c → T i < T j) (ho : km_od σ c T (fun i => i)) : ∃ τ, kw_loop (fun s => bX10_round_120 a2 s.1 s.2.1 s.2.2) kw_F ((900000000000000000 : Int64), (1 : Int32), σ) = some (km_enc (kr_tk P o c T (kn_Q c).length).1, τ) ∧ ((kr_tk P o c T (kn_Q c).length).1 ≠ none → ∀ i, i < c → τ.1 20 i = nI ((kr_tk P o c T (kn_Q c).length).2.getD i 0)) ∧ (∀ x, x ≠ 19 → x ≠ 20 → τ.1 x = σ.1 x) ∧ τ.2 = σ.2 := by
  obtain ⟨q1, q2, q3, q4, q5⟩ := kn_Q_at (c := c) (by omega)
  have hT12 : ∀ i, i < c → T i < 12 := fun i hi => by have := hT i hi; omega
  obtain ⟨x, hx, ⟨τ, rfl, r1, r2, r3⟩⟩ := kw_for (body := fun s => bX10_round_120 a2 s.1 s.2.1 s.2.2) (fun k s => s.1 = km_enc (kr_tk P o c T k).1 ∧ s.2.1 = (if k < (kn_Q c).length then 1 else 0) ∧ (k < (kn_Q c).length → km_od s.2.2 c T (fun i => ((kn_Q c).getD k []).getD i 0)) ∧ ((kr_tk P o c T k).1 ≠ none → ∀ i, i < c → s.2.2.1 20 i = nI ((kr_tk P o c T k).2.getD i 0)) ∧ kr_b13 (kr_tk P o c T k).1 ∧ (∀ x, x ≠ 19 → x ≠ 20 → s.2.2.1 x = σ.1 x) ∧ s.2.2.2 = σ.2) (fun x => ∃ τ, x = (km_enc (kr_tk P o c T (kn_Q c).length).1, τ) ∧ ((kr_tk P o c T (kn_Q c).length).1 ≠ none → ∀ i, i < c → τ.1 20 i = nI ((kr_tk P o c T (kn_Q c).length).2.getD i 0)) ∧ (∀ x, x ≠ 19 → x ≠ 20 → τ.1 x = σ.1 x) ∧ τ.2 = σ.2) (kn_Q c).length (by omega) (s0 := ((900000000000000000 : Int64), (1 : Int32), σ)) ⟨rfl, by rw [if_pos q3], fun _ i hi => by
      rw [q1]
      show σ.1 19 i = nI (T ((List.range c).getD i 0))
      rw [kn_range_getD c (by omega) i hi]
      exact ho i hi, fun h => absurd rfl h, fun z hz => (by cases hz), fun _ _ _ => rfl, rfl⟩ (fun k s hk hP' => by
    obtain ⟨v3, v5, τ⟩ := s
    obtain ⟨h1, h2, h3, h4, h5, h6, h7⟩ := hP'
    dsimp only at h1 h2 h3 h4 h5 h6 h7 ⊢
    subst h1 h2
    unfold bX10_round_120
    by_cases hkn : k < (kn_Q c).length
    case neg =>
      right
      obtain rfl : k = (kn_Q c).length := by omega
      rw [if_neg (Nat.lt_irrefl _), if_pos rfl]
      exact ⟨_, rfl, τ, rfl, h4, h6, h7⟩
    left
    refine ⟨hkn, ?_⟩
    obtain ⟨hlen, hlt⟩ := q2 k hkn
    have hod := h3 hkn
    have hPτ : km_P τ P n := ⟨by rw [h6 1 (by decide) (by decide)]; exact hP.1, fun a ha b hb => by rw [h7]; exact hP.2 a ha b hb⟩
    have h0τ : τ.1 0 31 = nI c := by rw [h6 0 (by decide) (by decide)]; exact h0
    obtain ⟨e1, e2⟩ := km_roundLong (L := ((kn_Q c).getD k []).map T) hPτ hbt h12 hon (by rw [h6 1 (by decide) (by decide)]; exact hso) hc h0τ (by rw [List.length_map]; exact hlen) (fun i hi => by
      rw [kr_map_getD T _ i (by omega)]
      exact ⟨hT _ (hlt i hi), hod i hi⟩)
    rw [if_pos hkn, if_neg (show ¬ (1 : Int32) = 0 by decide), e1, Option.bind_some]
    have hch := kn_ch_at c (kn_Q c) k q5 hkn
    -- the next order, from a memory that holds this one
    have nx : ∀ (ρ : kw_M), (∀ x, x ≠ 20 → ρ.1 x = τ.1 x) → ρ.2 = τ.2 → ∃ b ρ', fX10_nextOrder ρ = some (b, ρ') ∧ b = (if k + 1 < (kn_Q c).length then 1 else 0) ∧ (k + 1 < (kn_Q c).length → km_od ρ' c T (fun i => ((kn_Q c).getD (k + 1) []).getD i 0)) ∧ ρ'.1 20 = ρ.1 20 ∧ (∀ x, x ≠ 19 → x ≠ 20 → ρ'.1 x = σ.1 x) ∧ ρ'.2 = σ.2 := fun ρ hρ1 hρ2 => by
      have hodρ : km_od ρ c T (fun i => ((kn_Q c).getD k []).getD i 0) := fun i hi => by
        rw [hρ1 19 (by decide)]; exact hod i hi
      obtain ⟨n1, n2⟩ := km_nextOrder (σ := ρ) hc hT12 hm hlt (by rw [hρ1 0 (by decide)]; exact h0τ) hodρ
      by_cases hk1 : k + 1 < (kn_Q c).length
      · obtain ⟨q, hq, hqe⟩ := hch.2 hk1
        obtain ⟨ρ', m1, m2, m3, m4⟩ := n2 q hq
        refine ⟨_, ρ', m1, by rw [if_pos hk1], fun _ i hi => ?_, m3 20 (by decide), fun x hx hx2 => ?_, by rw [m4, hρ2, h7]⟩
        · rw [m2 i hi, hqe i hi]
        · rw [m3 x hx, hρ1 x hx2]; exact h6 x hx hx2
      · refine ⟨_, ρ, n1 (hch.1 (by omega)), by rw [if_neg hk1], fun q => absurd q hk1, rfl, fun x hx hx2 => ?_, by rw [hρ2, h7]⟩
        rw [hρ1 x hx2]; exact h6 x hx hx2
    have hbd : ∀ v, kr_b13 v → kr_bd v := fun v hv z hz => by have := hv z hz; omega
    rw [kr_tk_s hkn]
    have hlt2 := km_enc_lt (hbd _ e2) (hbd _ h5)
    cases hl : kr_ls (kr_ol P o o (((kn_Q c).getD k []).map T)) (kr_tk P o c T k).1 with
    | false =>
      rw [hl] at hlt2
      rw [if_pos (Int64.not_lt.mp (by rw [hlt2]; decide)), kr_up_no hl]
      obtain ⟨b, ρ', m1, m2, m3, m4, m5, m6⟩ := nx τ (fun _ _ => rfl) rfl
      unfold jX10_round_173_L120
      rw [m1, Option.bind_some]
      refine ⟨_, rfl, rfl, m2, m3, fun hne i hi => ?_, h5, m5, m6⟩
      show ρ'.1 20 i = _
      rw [m4]
      exact h4 hne i hi
    | true =>
      rw [hl] at hlt2
      rw [if_neg (Int64.not_le.mpr (by rw [hlt2])), kr_up_yes hl]
      obtain ⟨τ2, b1, b2, b3, b4⟩ := km_bestOrder (σ := τ) (a2 := a2) (v := km_enc (kr_ol P o o (((kn_Q c).getD k []).map T))) hc h0τ
      obtain ⟨b, ρ', m1, m2, m3, m4, m5, m6⟩ := nx τ2 b3 b4
      rw [b1, Option.bind_some]
      unfold jX10_round_173_L120
      rw [m1, Option.bind_some]
      refine ⟨_, rfl, rfl, m2, m3, fun hne i hi => ?_, e2, m5, m6⟩
      show ρ'.1 20 i = _
      rw [m4, b2 i hi, hod i hi, kr_map_getD T _ i (by omega)])
  exact ⟨τ, hx, r1, r2, r3⟩
