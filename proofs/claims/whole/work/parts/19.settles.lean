/-! The reference's settles and isRing in closed form. -/
/-- the first k longs of the cell b over those of the cell c -/
def kw_cp (σ : kw_M) (b c k : Nat) : kw_M := kw_rl σ c (fun t => if t < k then σ.2 b t else σ.2 c t)
theorem kw_cp_0 (σ : kw_M) (b c : Nat) : kw_cp σ b c 0 = σ := by
  unfold kw_cp kw_rl
  refine Prod.ext rfl ?_
  funext q
  by_cases hc : q = c
  · subst hc
    simp
  · simp only [hc, if_false]
theorem kw_cp_s (σ : kw_M) {b c : Nat} (hbc : b ≠ c) (k : Nat) : kw_sl (kw_cp σ b c k) c k ((kw_cp σ b c k).2 b k) = kw_cp σ b c (k + 1) := by
  have e : (kw_cp σ b c k).2 b = σ.2 b := kw_rl_o hbc
  rw [e]
  unfold kw_cp kw_sl
  refine Prod.ext rfl ?_
  funext q
  by_cases hc : q = c
  · subst hc
    simp only [kw_rl, if_true]
    funext j
    unfold vp_updL
    dsimp only
    by_cases hj : j = k
    · subst hj
      rw [if_pos rfl, if_pos (by omega)]
    · rw [if_neg hj]
      by_cases h2 : j < k
      · rw [if_pos h2, if_pos (by omega)]
      · rw [if_neg h2, if_neg (by omega)]
  · simp only [kw_rl, hc, if_false]
theorem km_settles_2 (σ : kw_M) : kw_loop (fun s => bX10_settles_13 s.1 s.2) kw_F ((0 : Int32), σ) = some (kw_cp σ 2 3 12) := by
  have h := kw_loop_at (body := fun s => bX10_settles_13 s.1 s.2) (fun k => (nI k, kw_cp σ 2 3 k)) (x := kw_cp σ 2 3 12) 12 (fun k hk => by
    show bX10_settles_13 (nI k) (kw_cp σ 2 3 k) = _
    unfold bX10_settles_13
    rw [show (12 : Int32) = nI 12 by decide, if_neg (nI_ge hk (by decide)), kw_chk_t (kw_in_nI hk (by decide)), kw_let_def, kw_let_def, nI_clamp (by omega), km_next, kw_cp_s σ (by decide)]) (by
    show bX10_settles_13 (nI 12) (kw_cp σ 2 3 12) = _
    unfold bX10_settles_13
    rw [if_pos (by decide)]) (by decide)
  have h0 : ((nI 0, kw_cp σ 2 3 0) : Int32 × kw_M) = ((0 : Int32), σ) := by rw [kw_cp_0]; rfl
  simp only [h0] at h
  exact h
/-- settles: the row from the origin, in far and in dist -/
theorem km_settles {σ : kw_M} {m n o : Nat} (hw : km_wf (σ.1 1) m) (hn : σ.1 1 0 = nI n) (h1 : 1 ≤ n) (h12 : n ≤ 12) (ho : σ.1 1 2 = nI o) (ho2 : o < 12) : fX10_settles σ = some (kw_cp (km_row σ (kr_bf (km_gr (σ.1 1) m (-1)) (kr_one o) (n - 1))) 2 3 12) := by
  unfold fX10_settles
  rw [ho, km_finds hw hn h1 h12 ho2, Option.bind_some, km_settles_2, Option.bind_some]
theorem kw_in_nI_of {i : Int32} {n : Nat} (h : kw_in i n) (hn : n < 2 ^ 31) : i = nI i.toNatClampNeg := by
  obtain ⟨j, h1, h2⟩ := nI_of (x := i) (fun q => h (Or.inl q))
  rw [h2, nI_clamp h1]
/-- isRing: by the row from the road's end, the road left out -/
theorem km_isRing {σ : kw_M} {m n r : Nat} (hw : km_wf (σ.1 1) m) (hn : σ.1 1 0 = nI n) (h1 : 1 ≤ n) (h12 : n ≤ 12) (hr : r < m) : fX10_isRing (nI r) σ = some ((match kr_bf (km_gr (σ.1 1) m (nI r)) (kr_one ((σ.1 1 (28 + 4 * r + 1)).toNatClampNeg)) (n - 1) ((σ.1 1 (28 + 4 * r + 0)).toNatClampNeg) with
    | none => (0 : Int32)
    | some z => if 0 < z + (σ.1 1 (28 + 4 * r + 2)).toInt then 0 else 1), km_row σ (kr_bf (km_gr (σ.1 1) m (nI r)) (kr_one ((σ.1 1 (28 + 4 * r + 1)).toNatClampNeg)) (n - 1))) := by
  obtain ⟨hf, ht, hl1, hl2⟩ := hw.2.2 r hr
  have hm := hw.1
  have hf' := kw_in_lt hf
  have ht' := kw_in_lt ht
  have o1 := km_of (σ := σ) (r := r) (w := 1) (by omega) (by decide)
  rw [show nI 1 = (1 : Int32) by decide] at o1
  unfold fX10_isRing
  have hfi := km_finds (but := nI r) hw hn h1 h12 ht'
  rw [← kw_in_nI_of ht (by decide)] at hfi
  rw [o1, Option.bind_some, hfi, Option.bind_some]
  have hb : kr_in (kr_bf (km_gr (σ.1 1) m (nI r)) (kr_one ((σ.1 1 (28 + 4 * r + 1)).toNatClampNeg)) (n - 1)) 900000000000000 := by
    refine kr_in_mono (km_bf_in (g := km_gr (σ.1 1) m (nI r)) hw.1 (km_wf_len hw (nI r)) (n - 1)) ?_
    have : ((n - 1 : Nat) : Int) ≤ 12 := by omega
    omega
  generalize kr_bf (km_gr (σ.1 1) m (nI r)) (kr_one ((σ.1 1 (28 + 4 * r + 1)).toNatClampNeg)) (n - 1) = D at hb
  have o0 := km_of (σ := km_row σ D) (r := r) (w := 0) (by omega) (by decide)
  have o2 := km_of (σ := km_row σ D) (r := r) (w := 2) (by omega) (by decide)
  rw [show nI 0 = (0 : Int32) by decide] at o0
  rw [show nI 2 = (2 : Int32) by decide] at o2
  rw [show (km_row σ D).1 = σ.1 from rfl] at o0 o2
  simp only [o0, o2, Option.bind_some, kw_chk_t hf, km_row_at hf']
  show _ = some ((match D (σ.1 1 (28 + 4 * r + 0)).toNatClampNeg with
    | none => (0 : Int32)
    | some z => if 0 < z + (σ.1 1 (28 + 4 * r + 2)).toInt then 0 else 1), km_row σ D)
  cases hz : D (σ.1 1 (28 + 4 * r + 0)).toNatClampNeg with
  | none => rw [if_pos (show (900000000000000000 : Int64) ≤ km_enc none from Int64.le_refl _)]
  | some z =>
    have hzb := hb _ _ hz
    have hzi : (km_enc (some z)).toInt = z := km_toInt (by omega) (by omega)
    rw [if_neg (fun q => by
      have q2 := Int64.le_iff_toInt_le.mp q
      rw [hzi, km_far] at q2
      omega)]
    rw [show km_enc (some z) = Int64.ofInt z from rfl, km_add (by omega) (by omega)]
    have hs : (Int64.ofInt (z + (σ.1 1 (28 + 4 * r + 2)).toInt)).toInt = z + (σ.1 1 (28 + 4 * r + 2)).toInt := km_toInt (by omega) (by omega)
    dsimp only
    by_cases hlt : 0 < z + (σ.1 1 (28 + 4 * r + 2)).toInt
    · rw [if_pos hlt, if_pos (Int64.lt_iff_toInt_lt.mpr (by rw [hs]; exact hlt))]
    · rw [if_neg hlt, if_neg (fun q => by
        have q2 := Int64.lt_iff_toInt_lt.mp q
        rw [hs] at q2
        exact hlt q2)]
