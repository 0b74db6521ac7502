/-! The next longer way: the reference's search, step by step. -/
def kw_st {S X : Type} (body : S → Option (S ⊕ X)) : Nat → S → S → Prop
  | 0, s, t => s = t
  | k + 1, s, t => ∃ u, body s = some (.inl u) ∧ kw_st body k u t
theorem kw_st_t {S X : Type} {body : S → Option (S ⊕ X)} {b : Nat} {t u : S} (h2 : kw_st body b t u) : ∀ (a : Nat) (s : S), kw_st body a s t → kw_st body (a + b) s u
  | 0, s, h => by
    have e : s = t := h
    rw [e, Nat.zero_add]
    exact h2
  | a + 1, s, h => by
    obtain ⟨v, h1, h3⟩ := h
    rw [show a + 1 + b = a + b + 1 by omega]
    exact ⟨v, h1, kw_st_t h2 a v h3⟩
theorem kw_st_c {S X : Type} {body : S → Option (S ⊕ X)} {k : Nat} {s u t : S} (h1 : body s = some (.inl u)) (h2 : kw_st body k u t) : kw_st body (k + 1) s t := ⟨u, h1, h2⟩
theorem kw_loop_s {S X : Type} (body : S → Option (S ⊕ X)) (n : Nat) (s : S) : kw_loop body (n + 1) s = (body s).bind (fun o => match o with | .inl t => kw_loop body n t | .inr x => some x) := rfl
theorem kw_st_loop {S X : Type} {body : S → Option (S ⊕ X)} {t : S} (F : Nat) : ∀ (k : Nat) (s : S), kw_st body k s t → kw_loop body (k + F) s = kw_loop body F t
  | 0, s, h => by
    have e : s = t := h
    rw [e, Nat.zero_add]
  | k + 1, s, h => by
    obtain ⟨v, h1, h3⟩ := h
    rw [show k + 1 + F = k + F + 1 by omega, kw_loop_s, h1, Option.bind_some]
    exact kw_st_loop F k v h3
theorem kw_pop {w : Int32} {x : Nat} (hx : x < 32) (h : kw_bI w x = false) : (w ||| ((1 : Int32) <<< (nI x &&& 31))) &&& (((1 : Int32) <<< (nI x &&& 31)) ^^^ (-1 : Int32)) = w := by
  refine kw_bI_e fun i hi => ?_
  have hm1 : kw_bI (-1) i = true := by
    have : ∀ i, i < 32 → kw_bI (-1) i = true := by decide
    exact this i hi
  rw [kw_bI_and, kw_bI_or, kw_bI_xor, kw_upI hx i hi, hm1]
  by_cases e : i = x
  · subst e
    rw [h, decide_eq_true rfl]
    rfl
  · rw [decide_eq_false e]
    cases kw_bI w i <;> rfl
theorem kr_cntb_add {U : Nat → Bool} {a N : Nat} (ha : a < N) (h : U a = false) : kr_cntb (fun q => U q || decide (q = a)) N = kr_cntb U N + 1 := by
  rw [kr_cntb_rm (p := fun q => U q || decide (q = a)) (a := a) N, if_pos ⟨ha, by rw [decide_eq_true rfl, Bool.or_true]⟩]
  congr 1
  refine kr_cntb_eq N (fun r _ => ?_)
  by_cases e : r = a
  · subst e
    rw [h, decide_eq_true rfl]
    rfl
  · rw [decide_eq_false e, Bool.or_false, Bool.not_false, Bool.and_true]
/-- stacks below d stand, nothing else changes -/
def km_ndn (d : Nat) (σ τ : kw_M) : Prop := τ.2 = σ.2 ∧ (∀ c, c ≠ 13 → c ≠ 14 → τ.1 c = σ.1 c) ∧ (∀ i, i ≤ d → τ.1 13 i = σ.1 13 i) ∧ ∀ i, i < d → τ.1 14 i = σ.1 14 i
theorem km_ndn_r (d : Nat) (σ : kw_M) : km_ndn d σ σ := ⟨rfl, fun _ _ _ => rfl, fun _ _ => rfl, fun _ _ => rfl⟩
theorem km_ndn_t {d : Nat} {a b c : kw_M} (h : km_ndn d a b) (g : km_ndn d b c) : km_ndn d a c := ⟨g.1.trans h.1, fun q h1 h2 => (g.2.1 q h1 h2).trans (h.2.1 q h1 h2), fun i hi => (g.2.2.1 i hi).trans (h.2.2.1 i hi), fun i hi => (g.2.2.2 i hi).trans (h.2.2.2 i hi)⟩
def km_nm (σ : kw_M) (F : Nat → Int32) (n m o t : Nat) : Prop := σ.1 1 = F ∧ (∀ q, q < 12 → σ.2 3 q = km_enc (kb_D F n m o q)) ∧ ∀ q, q < n → σ.2 12 q = km_enc (kb_D F n m q t)
theorem km_nm_o {σ τ : kw_M} {F : Nat → Int32} {n m o t : Nat} (h : km_nm σ F n m o t) (h2 : τ.2 = σ.2) (h1 : τ.1 1 = σ.1 1) : km_nm τ F n m o t := by
  unfold km_nm
  rw [h1, h2]
  exact h
def km_EX (F : Nat → Int32) (n m o t : Nat) (D : Int) (f : Nat) : Prop := ∀ (d u : Nat) (U : Nat → Bool) (w : Int32) (L : Int) (B : Option Int), d + f = 11 → u < n → u ≠ t → kr_cntb U 12 = d + 1 → (∀ q, q < 32 → kw_bI w q = U q) → (-(d * 1000000000 : Int) ≤ L ∧ L ≤ d * 1000000000) → kr_b12 B → ∀ (j r : Nat) (σ : kw_M), r + j = m → km_nm σ F n m o t → σ.1 13 d = nI u → σ.1 14 d = nI r → ∃ K τ, K ≤ j * 38 ^ f ∧ kw_st (fun s => bX10_nextOf_71 (nI t) s.1 s.2.1 s.2.2.1 s.2.2.2.1 s.2.2.2.2) K (km_enc (kr_fm B (kr_sv (km_gr F m (-1)) t D f u U L) r), Int64.ofInt L, nI d, w, σ) (km_enc (kr_fm B (kr_sv (km_gr F m (-1)) t D f u U L) m), Int64.ofInt L, nI d, w, τ) ∧ km_ndn d σ τ ∧ τ.1 14 d = nI m
theorem km_EX_of {F : Nat → Int32} {n m o t : Nat} {D : Int} (hok : kb_ok F n m o) (ht : t < n) (hD : kb_D F n m o t = some D) {f : Nat} (hf : f = 0 ∨ ∃ f', f = f' + 1 ∧ km_EX F n m o t D f') : km_EX F n m o t D f := by
  have hw := hok.1
  have h12 := hw.2.2.1
  have hm := hw.2.2.2.1.1
  have hg := hok.2.2.2.1
  have htn := kb_tn hw (-1)
  have hlen := km_wf_len hw.2.2.2.1 (-1)
  have bD := kb_D_in2 hw.2.2.2.1 h12 t D hD
  have h38 : 1 ≤ 38 ^ f := Nat.one_le_pow _ _ (by decide)
  intro d u U w L B hdf hu hut hcnt hbw hL hB j
  have hd : (d : Int) ≤ 11 := by omega
  have hb12 : ∀ k, k ≤ m → kr_b12 (kr_fm B (kr_sv (km_gr F m (-1)) t D f u U L) k) := fun k hk => kr_b12_fm hB k (fun i hi => kr_sv_b12 (d := d) hlen (by show i < m; omega) (by omega) hL)
  induction j with
  | zero =>
    intro r σ hr hnm h13 h14
    obtain rfl : r = m := by omega
    exact ⟨0, σ, by omega, rfl, km_ndn_r d σ, h14⟩
  | succ j ihj =>
    intro r σ hr hnm h13 h14
    have hrm : r < m := by omega
    obtain ⟨hfr, hto0, hl1, hl2⟩ := hw.2.2.2.1.2.2 r hrm
    obtain ⟨to, hto, hton⟩ : ∃ to, F (28 + 4 * r + 1) = nI to ∧ to < n := ⟨_, kw_in_nI_of hto0 (by decide), (hw.2.2.2.2 r hrm).2.1⟩
    have hgt : (km_gr F m (-1)).2.2.1 r = to := by
      show (F (28 + 4 * r + 1)).toNatClampNeg = to
      rw [hto, kn_clamp (by omega)]
    have hgl : (km_gr F m (-1)).2.2.2.1 r = (F (28 + 4 * r + 2)).toInt := rfl
    have hgf : (km_gr F m (-1)).2.1 r = (F (28 + 4 * r + 0)).toNatClampNeg := rfl
    have hu2 := kb_op (F := F) hm hrm
    have bBr := kr_b12_bd (hb12 r (by omega))
    have hsv0 : ¬ (F (28 + 4 * r + 3) = 1 ∧ (F (28 + 4 * r + 0)).toNatClampNeg = u ∧ U to = false) → kr_fm B (kr_sv (km_gr F m (-1)) t D f u U L) (r + 1) = kr_fm B (kr_sv (km_gr F m (-1)) t D f u U L) r := fun q => by
      rw [kr_fm_s, kr_sv_no (fun c => q ⟨by have := c.1; rw [hu2, decide_eq_true_eq] at this; exact this, c.2.1, by rw [← hgt]; exact c.2.2⟩), kr_mn_n]
    have key : bX10_nextOf_71 (nI t) (km_enc (kr_fm B (kr_sv (km_gr F m (-1)) t D f u U L) r)) (Int64.ofInt L) (nI d) w σ = some (.inl (km_enc (kr_fm B (kr_sv (km_gr F m (-1)) t D f u U L) (r + 1)), Int64.ofInt L, nI d, w, kw_si σ 14 d (nI (r + 1)))) ∨ (F (28 + 4 * r + 3) = 1 ∧ (F (28 + 4 * r + 0)).toNatClampNeg = u ∧ U to = false ∧ to ≠ t ∧ bX10_nextOf_71 (nI t) (km_enc (kr_fm B (kr_sv (km_gr F m (-1)) t D f u U L) r)) (Int64.ofInt L) (nI d) w σ = some (.inl (km_enc (kr_fm B (kr_sv (km_gr F m (-1)) t D f u U L) r), Int64.ofInt (L + (F (28 + 4 * r + 2)).toInt), nI (d + 1), w ||| ((1 : Int32) <<< (nI to &&& 31)), kw_si (kw_si (kw_si σ 14 d (nI (r + 1))) 13 (d + 1) (nI to)) 14 (d + 1) 0))) := by
      have s1 : (kw_si σ 14 d (nI (r + 1))).1 1 = F := by rw [kw_si_o (by decide)]; exact hnm.1
      have s13 : (kw_si σ 14 d (nI (r + 1))).1 13 d = nI u := by rw [kw_si_o (by decide)]; exact h13
      have s3 : (kw_si σ 14 d (nI (r + 1))).2 3 t = km_enc (some D) := by rw [kw_si_2, hnm.2.1 t (by omega), hD]
      have s12 : (kw_si σ 14 d (nI (r + 1))).2 12 to = km_enc (kb_D F n m to t) := by rw [kw_si_2]; exact hnm.2.2 to hton
      have bL : kr_bd (some (L + (F (28 + 4 * r + 2)).toInt)) := fun z hz => by cases hz; omega
      have eL : Int64.ofInt L + (F (28 + 4 * r + 2)).toInt64 = km_enc (some (L + (F (28 + 4 * r + 2)).toInt)) := km_add (by omega) (by omega)
      unfold bX10_nextOf_71 jX10_nextOf_256_L71
      rw [if_neg (show ¬ nI d < (0 : Int32) by rw [kn_0, kn_lt (by omega) (by omega)]; omega), kn_chk (by omega) (by decide), kn_clamp (by omega), kw_let_def, h14, show σ.1 1 1 = nI m by rw [hnm.1]; exact hw.2.2.2.1.2.1, if_neg (show ¬ nI r = nI m by rw [kn_eq (by omega) (by omega)]; omega), km_next, kw_let_def, km_isOpen (by omega), Option.bind_some, s1]
      by_cases c0 : F (28 + 4 * r + 3) = 1
      case neg =>
        left
        rw [if_neg c0, if_pos rfl, hsv0 (fun q => c0 q.1)]
      rw [if_pos c0, if_neg (show ¬ (1 : Int32) = 0 by decide), km_of0 (by omega), Option.bind_some, s1, s13]
      simp only [kw_in_eq hfr (show u < 12 by omega)]
      by_cases c1 : (F (28 + 4 * r + 0)).toNatClampNeg = u
      case neg =>
        left
        rw [if_neg c1, hsv0 (fun q => c1 q.2.1)]
      rw [if_pos c1, km_of1 (by omega), Option.bind_some, s1, hto, km_has (by omega), Option.bind_some, hbw to (by omega)]
      simp only [kx_fl_0]
      cases c2 : U to with
      | true =>
        left
        rw [kn_tf, hsv0 (fun q => by rw [c2] at q; cases q.2.2)]
      | false =>
        rw [kn_ff, km_of2 (by omega), Option.bind_some, s1, kw_let_def, Option.bind_some, eL]
        simp only [kn_eq (show to < 2147483648 by omega) (show t < 2147483648 by omega)]
        have esv : kr_sv (km_gr F m (-1)) t D f u U L r = kr_sx (km_gr F m (-1)) t D f to (fun q => U q || decide (q = to)) (L + (F (28 + 4 * r + 2)).toInt) := by
          rw [kr_sv_in (by rw [hu2]; exact decide_eq_true c0) c1 (by rw [hgt]; exact c2), hgt]
          rfl
        by_cases c3 : to = t
        · left
          subst c3
          rw [if_pos rfl, kn_chk (by omega) (by decide)]
          simp only [kn_clamp (show to < 2147483648 by omega), s3]
          simp only [km_enc_le bL (show kr_bd (some D) from fun z hz => by cases hz; omega), km_enc_le bBr bL, if_true]
          rw [kr_sx_g] at esv
          rw [kr_fm_s, esv]
          by_cases q : D < L + (F (28 + 4 * r + 2)).toInt
          · rw [if_neg (show ¬ kr_ls (some D) (some (L + (F (28 + 4 * r + 2)).toInt)) = false by
              show ¬ decide (D < L + (F (28 + 4 * r + 2)).toInt) = false
              rw [decide_eq_true q]
              decide), if_pos q]
            cases hl : kr_ls (some (L + (F (28 + 4 * r + 2)).toInt)) (kr_fm B (kr_sv (km_gr F m (-1)) to D f u U L) r) with
            | false => rw [kn_ff, kr_mn_no hl]
            | true => rw [kn_tf, kr_mn_ls hl]
          · rw [if_pos (show kr_ls (some D) (some (L + (F (28 + 4 * r + 2)).toInt)) = false from decide_eq_false q), if_neg q, kr_mn_n]
        · rw [if_neg c3, if_neg c3, kn_chk (by omega) (by decide), kn_clamp (by omega), s12]
          have low : ∀ z, kr_sv (km_gr F m (-1)) t D f u U L r = some z → ∃ p, kb_D F n m to t = some p ∧ L + (F (28 + 4 * r + 2)).toInt + p ≤ z := fun z hz => by
            rw [esv] at hz
            exact kr_sx_lo hg htn ht _ _ _ _ _ hton hz
          simp only [km_enc_e (kr_bd_in (kb_D_in2 (n := n) (o := to) hw.2.2.2.1 h12) (by decide) t)]
          cases hp : kb_D F n m to t with
          | none =>
            left
            rw [if_pos rfl, kr_fm_s, kr_mn_no]
            cases q : kr_sv (km_gr F m (-1)) t D f u U L r with
            | none => rfl
            | some z =>
              obtain ⟨p, hp', _⟩ := low z q
              rw [hp] at hp'
              cases hp'
          | some p =>
            have bp := kb_D_in2 hw.2.2.2.1 h12 t p hp
            rw [if_neg (by simp), show km_enc (some (L + (F (28 + 4 * r + 2)).toInt)) = Int64.ofInt (L + (F (28 + 4 * r + 2)).toInt) from rfl, show km_enc (some p) = Int64.ofInt p from rfl, kw_addL (by omega) (by omega) (by omega) (by omega), show Int64.ofInt (L + (F (28 + 4 * r + 2)).toInt + p) = km_enc (some (L + (F (28 + 4 * r + 2)).toInt + p)) from rfl]
            simp only [km_enc_lt (show kr_bd (some (L + (F (28 + 4 * r + 2)).toInt + p)) from fun z hz => by cases hz; omega) bBr]
            cases hls : kr_ls (some (L + (F (28 + 4 * r + 2)).toInt + p)) (kr_fm B (kr_sv (km_gr F m (-1)) t D f u U L) r) with
            | false =>
              left
              rw [kn_ft, kr_fm_s, kr_mn_no]
              cases q : kr_sv (km_gr F m (-1)) t D f u U L r with
              | none => rfl
              | some z =>
                obtain ⟨p', hp', hle⟩ := low z q
                rw [hp] at hp'
                cases hp'
                cases hf2 : kr_fm B (kr_sv (km_gr F m (-1)) t D f u U L) r with
                | none => rw [hf2] at hls; cases hls
                | some y =>
                  rw [hf2] at hls
                  have h1 : decide (L + (F (28 + 4 * r + 2)).toInt + p < y) = false := hls
                  rw [decide_eq_false_iff_not] at h1
                  show decide (z < y) = false
                  rw [decide_eq_false_iff_not]
                  omega
            | true =>
              right
              refine ⟨c0, c1, trivial, c3, ?_⟩
              have hd2 := kr_cntb_le (fun q => U q || decide (q = to)) 12
              rw [kr_cntb_add (by omega) c2] at hd2
              rw [kn_tt, km_next, kw_let_def, kn_chk (by omega) (by decide), kn_clamp (by omega), kw_let_def, kw_let_def, kw_let_def]
    have nd12 : km_ndn d σ (kw_si σ 14 d (nI (r + 1))) := ⟨rfl, fun c _ h2 => kw_si_o h2, fun i _ => by rw [kw_si_o (by decide)], fun i hi => by rw [kw_si_1, kw_upd_n (by omega)]⟩
    rcases key with hb | ⟨c0, c1, c2, c3, hb⟩
    · obtain ⟨K, τ, k1, k2, k3, k4⟩ := ihj (r + 1) (kw_si σ 14 d (nI (r + 1))) (by omega) (km_nm_o hnm rfl (kw_si_o (by decide))) (by rw [kw_si_o (by decide)]; exact h13) (by rw [kw_si_1, kw_upd_e])
      refine ⟨K + 1, τ, ?_, ⟨_, hb, k2⟩, km_ndn_t nd12 k3, k4⟩
      rw [Nat.succ_mul]
      omega
    · have hcnt2 := kr_cntb_add (U := U) (a := to) (N := 12) (by omega) c2
      have hd2 := kr_cntb_le (fun q => U q || decide (q = to)) 12
      rw [hcnt2] at hd2
      rcases hf with hf0 | ⟨f', rfl, hEX⟩
      · omega
      have nm31 : km_nm (kw_si (kw_si (kw_si σ 14 d (nI (r + 1))) 13 (d + 1) (nI to)) 14 (d + 1) 0) F n m o t := km_nm_o hnm rfl (by rw [kw_si_o (by decide), kw_si_o (by decide), kw_si_o (by decide)])
      obtain ⟨K1, τ1, k1, k2, k3, k4⟩ := hEX (d + 1) to (fun q => U q || decide (q = to)) (w ||| ((1 : Int32) <<< (nI to &&& 31))) (L + (F (28 + 4 * r + 2)).toInt) (kr_fm B (kr_sv (km_gr F m (-1)) t D (f' + 1) u U L) r) (by omega) hton c3 (by rw [hcnt2]; omega) (fun q hq => by rw [kw_bI_or, kw_upI (by omega) q hq, hbw q hq]) (by omega) (hb12 r (by omega)) m 0 _ (by omega) nm31 (by rw [kw_si_o (by decide), kw_si_1, kw_upd_e]) (by rw [kw_si_1, kw_upd_e]; rfl)
      have e14 : τ1.1 14 d = nI (r + 1) := by rw [k3.2.2.2 d (by omega), kw_si_1, kw_upd_n (by omega), kw_si_o (by decide), kw_si_1, kw_upd_e]
      have e13 : τ1.1 13 (d + 1) = nI to := by rw [k3.2.2.1 (d + 1) (Nat.le_refl _), kw_si_o (by decide), kw_si_1, kw_upd_e]
      have e1 : τ1.1 1 = F := by rw [k3.2.1 1 (by decide) (by decide)]; exact nm31.1
      have esv : kr_fm B (kr_sv (km_gr F m (-1)) t D (f' + 1) u U L) (r + 1) = kr_fm (kr_fm B (kr_sv (km_gr F m (-1)) t D (f' + 1) u U L) r) (kr_sv (km_gr F m (-1)) t D f' to (fun q => U q || decide (q = to)) (L + (F (28 + 4 * r + 2)).toInt)) m := by
        rw [kr_fm_s, kr_sv_in (by rw [hu2]; exact decide_eq_true c0) c1 (by rw [hgt]; exact c2), hgt, kr_sx_s c3, ← kr_fm_b]
        rfl
      have hpop : bX10_nextOf_71 (nI t) (km_enc (kr_fm B (kr_sv (km_gr F m (-1)) t D (f' + 1) u U L) (r + 1))) (Int64.ofInt (L + (F (28 + 4 * r + 2)).toInt)) (nI (d + 1)) (w ||| ((1 : Int32) <<< (nI to &&& 31))) τ1 = some (.inl (km_enc (kr_fm B (kr_sv (km_gr F m (-1)) t D (f' + 1) u U L) (r + 1)), Int64.ofInt L, nI d, w, τ1)) := by
        unfold bX10_nextOf_71
        rw [if_neg (show ¬ nI (d + 1) < (0 : Int32) by rw [kn_0, kn_lt (by omega) (by omega)]; omega), kn_chk (by omega) (by decide), kn_clamp (by omega), kw_let_def, k4, show τ1.1 1 1 = nI m by rw [e1]; exact hw.2.2.2.1.2.1, if_pos rfl, kw_let_def, show nI (d + 1) - (1 : Int32) = nI d by rw [kn_1, kn_sub (by omega), Nat.add_sub_cancel], if_pos (show (0 : Int32) ≤ nI d by rw [kn_0, kn_le (by omega) (by omega)]; omega), km_next, kn_chk (by omega) (by decide), kn_clamp (by omega), e13, kw_pop (by omega) (by rw [hbw to (by omega)]; exact c2), kw_let_def, kn_chk (by omega) (by decide), kn_clamp (by omega), e14, show nI (r + 1) - (1 : Int32) = nI r by rw [kn_1, kn_sub (by omega), Nat.add_sub_cancel], km_of2 (by omega), Option.bind_some, e1, ← km_add (by omega) (by omega), Int64.add_sub_cancel, kw_let_def]
      have nd31 : km_ndn d σ (kw_si (kw_si (kw_si σ 14 d (nI (r + 1))) 13 (d + 1) (nI to)) 14 (d + 1) 0) := by
        refine ⟨rfl, fun c h1 h2 => by rw [kw_si_o h2, kw_si_o h1, kw_si_o h2], fun i hi => by rw [kw_si_o (by decide), kw_si_1, kw_upd_n (by omega), kw_si_o (by decide)], fun i hi => by rw [kw_si_1, kw_upd_n (by omega), kw_si_o (by decide), kw_si_1, kw_upd_n (by omega)]⟩
      have nd1 : km_ndn d σ τ1 := km_ndn_t nd31 ⟨k3.1, k3.2.1, fun i hi => k3.2.2.1 i (by omega), fun i hi => k3.2.2.2 i (by omega)⟩
      obtain ⟨K2, τ2, q1, q2, q3, q4⟩ := ihj (r + 1) τ1 (by omega) (km_nm_o hnm nd1.1 (nd1.2.1 1 (by decide) (by decide))) (by rw [nd1.2.2.1 d (Nat.le_refl d)]; exact h13) e14
      rw [← esv] at k2
      refine ⟨K1 + (K2 + 1) + 1, τ2, ?_, ⟨_, hb, kw_st_t (kw_st_c (body := fun s => bX10_nextOf_71 (nI t) s.1 s.2.1 s.2.2.1 s.2.2.2.1 s.2.2.2.2) (s := (km_enc (kr_fm B (kr_sv (km_gr F m (-1)) t D (f' + 1) u U L) (r + 1)), Int64.ofInt (L + (F (28 + 4 * r + 2)).toInt), nI (d + 1), w ||| ((1 : Int32) <<< (nI to &&& 31)), τ1)) hpop q2) K1 _ k2⟩, km_ndn_t nd1 q3, q4⟩
      have h1 : 1 ≤ 38 ^ f' := Nat.one_le_pow _ _ (by decide)
      have h2 : m * 38 ^ f' ≤ 36 * 38 ^ f' := Nat.mul_le_mul_right _ hm
      rw [Nat.succ_mul]
      rw [Nat.pow_succ] at q1 ⊢
      omega
theorem km_EX_all {F : Nat → Int32} {n m o t : Nat} {D : Int} (hok : kb_ok F n m o) (ht : t < n) (hD : kb_D F n m o t = some D) : ∀ f : Nat, km_EX F n m o t D f
  | 0 => km_EX_of hok ht hD (Or.inl rfl)
  | f + 1 => km_EX_of hok ht hD (Or.inr ⟨f, rfl, km_EX_all hok ht hD f⟩)
