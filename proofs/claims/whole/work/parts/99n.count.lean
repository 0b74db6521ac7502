/-! count. -/
theorem kn_ush (w : Int64) (s : UInt64) : ((w.toUInt64 >>> s).toInt64).toBitVec.toNat = w.toBitVec.toNat >>> (s.toNat % 64) := by
  show (w.toUInt64 >>> s).toNat = _
  rw [UInt64.toNat_shiftRight]
  rfl
theorem kn_uand (a b : Int64) : (a &&& b).toBitVec.toNat = a.toBitVec.toNat &&& b.toBitVec.toNat := by
  rw [Int64.toBitVec_and, BitVec.toNat_and]
theorem kn_uadd {a b : Int64} (h : a.toBitVec.toNat + b.toBitVec.toNat < 18446744073709551616) : (a + b).toBitVec.toNat = a.toBitVec.toNat + b.toBitVec.toNat := by
  rw [Int64.toBitVec_add, BitVec.toNat_add]
  exact Nat.mod_eq_of_lt h
theorem kn_usub {a b : Int64} (h : b.toBitVec.toNat ≤ a.toBitVec.toNat) : (a - b).toBitVec.toNat = a.toBitVec.toNat - b.toBitVec.toNat := by
  rw [Int64.toBitVec_sub, BitVec.toNat_sub_of_le (BitVec.le_def.mpr h)]
theorem kn_vb_s (k x : Nat) : kn_vb (k + 1) x = kr_cntb (fun i => (x % 256).testBit i) 8 + 256 * kn_vb k (x / 256) := rfl
theorem kn_cnt64 (x : Nat) : kr_cntb (fun i => x.testBit i) 64 = kr_cntb (fun i => (x % 256).testBit i) 8 + kr_cntb (fun i => (x / 256 % 256).testBit i) 8 + kr_cntb (fun i => (x / 256 / 256 % 256).testBit i) 8 + kr_cntb (fun i => (x / 256 / 256 / 256 % 256).testBit i) 8 + kr_cntb (fun i => (x / 256 / 256 / 256 / 256 % 256).testBit i) 8 + kr_cntb (fun i => (x / 256 / 256 / 256 / 256 / 256 % 256).testBit i) 8 + kr_cntb (fun i => (x / 256 / 256 / 256 / 256 / 256 / 256 % 256).testBit i) 8 + kr_cntb (fun i => (x / 256 / 256 / 256 / 256 / 256 / 256 / 256 % 256).testBit i) 8 := by
  have h := kn_cnt8 x 56
  rw [kn_cnt8 (x / 256) 48, kn_cnt8 (x / 256 / 256) 40, kn_cnt8 (x / 256 / 256 / 256) 32, kn_cnt8 (x / 256 / 256 / 256 / 256) 24, kn_cnt8 (x / 256 / 256 / 256 / 256 / 256) 16, kn_cnt8 (x / 256 / 256 / 256 / 256 / 256 / 256) 8, kn_cnt8 (x / 256 / 256 / 256 / 256 / 256 / 256 / 256) 0] at h
  have h0 : kr_cntb (fun i => (x / 256 / 256 / 256 / 256 / 256 / 256 / 256 / 256).testBit i) 0 = 0 := rfl
  rw [h0] at h
  refine h.trans ?_
  simp only [Nat.add_assoc, Nat.add_zero]
theorem kn_m85 : (6148914691236517205 : Int64).toBitVec.toNat = kn_mk 85 8 := by decide
theorem kn_m51 : (3689348814741910323 : Int64).toBitVec.toNat = kn_mk 51 8 := by decide
theorem kn_m15 : (1085102592571150095 : Int64).toBitVec.toNat = kn_mk 15 8 := by decide
theorem kn_v51 : kn_mk 51 8 = 3689348814741910323 := by decide
theorem kn_p8 : (256 : Nat) ^ 8 = 18446744073709551616 := by decide
theorem kn_shk {k : Nat} {w : Int64} {s : UInt64} (hs : s.toNat = k) (hk : k < 64) : ((w.toUInt64 >>> s).toInt64).toBitVec.toNat = w.toBitVec.toNat / 2 ^ k := by
  rw [kn_ush, hs, Nat.mod_eq_of_lt hk, Nat.shiftRight_eq_div_pow]
theorem kx_bc64 (w : Int64) (σ : kw_M) : fXJ13_bitCount_95d88 w σ = some (nI (kr_cntb (fun i => w.toBitVec.toNat.testBit i) 64)) := by
  have hN : w.toBitVec.toNat < 18446744073709551616 := w.toBitVec.isLt
  have hb := (kn_bytes 8 w.toBitVec.toNat (by rw [kn_p8]; exact hN)).1
  unfold fXJ13_bitCount_95d88
  rw [kw_let_def]
  have e1 : ((w.toUInt64 >>> ((1 : Int32).toInt64.toUInt64 &&& Int64.toUInt64 63)).toInt64).toBitVec.toNat = w.toBitVec.toNat / 2 ^ 1 := kn_shk (by decide) (by decide)
  generalize (w.toUInt64 >>> ((1 : Int32).toInt64.toUInt64 &&& Int64.toUInt64 63)).toInt64 = x1 at e1 ⊢
  rw [kw_let_def]
  have e2 : (w - (x1 &&& (6148914691236517205 : Int64))).toBitVec.toNat = kn_g1 (kn_mk 85 8) w.toBitVec.toNat := by
    have h3 : (w.toBitVec.toNat / 2 ^ 1) &&& kn_mk 85 8 ≤ w.toBitVec.toNat / 2 ^ 1 := Nat.and_le_left
    have h4 : w.toBitVec.toNat / 2 ^ 1 ≤ w.toBitVec.toNat := Nat.div_le_self _ _
    rw [kn_usub (by rw [kn_uand, e1, kn_m85]; exact Nat.le_trans h3 h4), kn_uand, e1, kn_m85]
    rfl
  generalize w - (x1 &&& (6148914691236517205 : Int64)) = x2 at e2 ⊢
  rw [kw_let_def]
  have e3 : ((x2.toUInt64 >>> ((2 : Int32).toInt64.toUInt64 &&& Int64.toUInt64 63)).toInt64).toBitVec.toNat = x2.toBitVec.toNat / 2 ^ 2 := kn_shk (by decide) (by decide)
  generalize (x2.toUInt64 >>> ((2 : Int32).toInt64.toUInt64 &&& Int64.toUInt64 63)).toInt64 = x3 at e3 ⊢
  rw [kw_let_def]
  have e4 : ((x2 &&& (3689348814741910323 : Int64)) + (x3 &&& (3689348814741910323 : Int64))).toBitVec.toNat = kn_g2 (kn_mk 51 8) (kn_g1 (kn_mk 85 8) w.toBitVec.toNat) ∧ ((x2 &&& (3689348814741910323 : Int64)) + (x3 &&& (3689348814741910323 : Int64))).toBitVec.toNat ≤ 7378697629483820646 := by
    have h3 : x2.toBitVec.toNat &&& kn_mk 51 8 ≤ kn_mk 51 8 := Nat.and_le_right
    have h4 : (x2.toBitVec.toNat / 2 ^ 2) &&& kn_mk 51 8 ≤ kn_mk 51 8 := Nat.and_le_right
    have hv := kn_v51
    have hs : (x2 &&& (3689348814741910323 : Int64)).toBitVec.toNat + (x3 &&& (3689348814741910323 : Int64)).toBitVec.toNat ≤ 7378697629483820646 := by
      rw [kn_uand, kn_uand, e3, kn_m51]
      omega
    rw [kn_uadd (by omega)]
    refine ⟨?_, hs⟩
    rw [kn_uand, kn_uand, e3, kn_m51, e2]
    rfl
  generalize (x2 &&& (3689348814741910323 : Int64)) + (x3 &&& (3689348814741910323 : Int64)) = x4 at e4 ⊢
  rw [kw_let_def]
  have e5 : ((x4.toUInt64 >>> ((4 : Int32).toInt64.toUInt64 &&& Int64.toUInt64 63)).toInt64).toBitVec.toNat = x4.toBitVec.toNat / 2 ^ 4 := kn_shk (by decide) (by decide)
  generalize (x4.toUInt64 >>> ((4 : Int32).toInt64.toUInt64 &&& Int64.toUInt64 63)).toInt64 = x5 at e5 ⊢
  rw [kw_let_def]
  have e6 : ((x4 + x5) &&& (1085102592571150095 : Int64)).toBitVec.toNat = kn_vb 8 w.toBitVec.toNat := by
    have h4 : x4.toBitVec.toNat / 2 ^ 4 ≤ x4.toBitVec.toNat := Nat.div_le_self _ _
    have h5 := e4.2
    rw [kn_uand, kn_uadd (by rw [e5]; omega), e5, kn_m15, ← hb, ← e4.1]
    rfl
  generalize (x4 + x5) &&& (1085102592571150095 : Int64) = x6 at e6 ⊢
  have A := fun (u v : Nat) (hv : v = kn_vb 8 w.toBitVec.toNat + kn_vb 8 w.toBitVec.toNat / 256) (hu : u = v + v / 65536) => kn_ar (kn_c8 (w.toBitVec.toNat % 256)) (kn_c8 (w.toBitVec.toNat / 256 % 256)) (kn_c8 (w.toBitVec.toNat / 256 / 256 % 256)) (kn_c8 (w.toBitVec.toNat / 256 / 256 / 256 % 256)) (kn_c8 (w.toBitVec.toNat / 256 / 256 / 256 / 256 % 256)) (kn_c8 (w.toBitVec.toNat / 256 / 256 / 256 / 256 / 256 % 256)) (kn_c8 (w.toBitVec.toNat / 256 / 256 / 256 / 256 / 256 / 256 % 256)) (kn_c8 (w.toBitVec.toNat / 256 / 256 / 256 / 256 / 256 / 256 / 256 % 256)) (kn_vb_s 7 _) (kn_vb_s 6 _) (kn_vb_s 5 _) (kn_vb_s 4 _) (kn_vb_s 3 _) (kn_vb_s 2 _) (kn_vb_s 1 _) ((kn_vb_s 0 _).trans (by rw [show kn_vb 0 (w.toBitVec.toNat / 256 / 256 / 256 / 256 / 256 / 256 / 256 / 256) = 0 from rfl, Nat.mul_zero, Nat.add_zero])) hv hu
  generalize kn_vb 8 w.toBitVec.toNat = v6 at e6 A
  rw [kw_let_def]
  have e7 : ((x6.toUInt64 >>> ((8 : Int32).toInt64.toUInt64 &&& Int64.toUInt64 63)).toInt64).toBitVec.toNat = x6.toBitVec.toNat / 2 ^ 8 := kn_shk (by decide) (by decide)
  generalize (x6.toUInt64 >>> ((8 : Int32).toInt64.toUInt64 &&& Int64.toUInt64 63)).toInt64 = x7 at e7 ⊢
  obtain ⟨a1, a2, a3, a4, a5⟩ := A _ _ rfl rfl
  rw [kw_let_def]
  have e8 : (x6 + x7).toBitVec.toNat = v6 + v6 / 256 := by
    rw [kn_uadd (by rw [e7, e6]; exact Nat.lt_trans a2 (by decide)), e7, e6]
  generalize x6 + x7 = x8 at e8 ⊢
  rw [kw_let_def]
  have e9 : ((x8.toUInt64 >>> ((16 : Int32).toInt64.toUInt64 &&& Int64.toUInt64 63)).toInt64).toBitVec.toNat = x8.toBitVec.toNat / 2 ^ 16 := kn_shk (by decide) (by decide)
  generalize (x8.toUInt64 >>> ((16 : Int32).toInt64.toUInt64 &&& Int64.toUInt64 63)).toInt64 = x9 at e9 ⊢
  rw [kw_let_def]
  have e10 : (x8 + x9).toBitVec.toNat = v6 + v6 / 256 + (v6 + v6 / 256) / 65536 := by
    rw [kn_uadd (by rw [e9, e8]; exact Nat.lt_trans a3 (by decide)), e9, e8]
  generalize x8 + x9 = x10 at e10 ⊢
  rw [kw_let_def]
  have e11 : ((x10.toUInt64 >>> ((32 : Int32).toInt64.toUInt64 &&& Int64.toUInt64 63)).toInt64).toBitVec.toNat = x10.toBitVec.toNat / 2 ^ 32 := kn_shk (by decide) (by decide)
  generalize (x10.toUInt64 >>> ((32 : Int32).toInt64.toUInt64 &&& Int64.toUInt64 63)).toInt64 = x11 at e11 ⊢
  rw [kw_let_def]
  have e12 : (x10 + x11).toBitVec.toNat = v6 + v6 / 256 + (v6 + v6 / 256) / 65536 + (v6 + v6 / 256 + (v6 + v6 / 256) / 65536) / 4294967296 := by
    rw [kn_uadd (by rw [e11, e10]; exact Nat.lt_trans a4 (by decide)), e11, e10]
  generalize x10 + x11 = x12 at e12 ⊢
  have hc := kr_cntb_le (fun i => w.toBitVec.toNat.testBit i) 64
  have hc2 : kr_cntb (fun i => w.toBitVec.toNat.testBit i) 64 = x12.toBitVec.toNat % 128 := by
    rw [e12, a5, ← kn_cnt64]
    omega
  refine congrArg some (Int32.toBitVec_inj.mp (BitVec.eq_of_toNat_eq ?_))
  rw [Int32.toBitVec_and, BitVec.toNat_and, Int64.toBitVec_toInt32, BitVec.signExtend_eq_setWidth_of_le _ (by decide), BitVec.toNat_setWidth, show (127 : Int32).toBitVec.toNat = 2 ^ 7 - 1 by decide, Nat.and_two_pow_sub_one_eq_mod]
  show _ = (BitVec.ofNat 32 (kr_cntb (fun i => w.toBitVec.toNat.testBit i) 64)).toNat
  rw [BitVec.toNat_ofNat, hc2]
  have hm : ∀ y : Nat, y % 4294967296 % 128 = y % 128 % 4294967296 := fun y => by omega
  exact hm _
theorem kx_bcR {σ : kw_M} {F : Nat → Int32} {m : Nat} (hrd : kx_rd σ 12 F m) (hm : m ≤ 36) : fXJ13_bitCount_95d88 (σ.2 12 2) σ = some (nI (kr_cntb (fun r => decide (F (28 + 4 * r + 3) = 1)) m)) := by
  rw [kx_bc64]
  congr 2
  have e : kr_cntb (fun i => (σ.2 12 2).toBitVec.toNat.testBit i) 64 = kr_cntb (fun i => decide (i < m ∧ F (28 + 4 * i + 3) = 1)) 64 := kr_cntb_eq 64 (fun i hi => hrd.2.2.2 i hi)
  rw [e]
  obtain ⟨d, hd⟩ : ∃ d, 64 = m + d := ⟨64 - m, by omega⟩
  rw [hd, kr_cntb_hi (fun i hi => decide_eq_false (fun q => by omega)) d]
  refine kr_cntb_eq m (fun i hi => ?_)
  rw [decide_eq_decide]
  exact ⟨fun q => q.2, fun q => ⟨hi, q⟩⟩
/-- the reference's watches, and those beyond -/
theorem km_watches {σ : kw_M} {n : Nat} {b : Bool} (hn : σ.1 1 0 = nI n) (h12 : n ≤ 12) : ∃ w, fX10_watches (kx_fl b) σ = some w ∧ ∀ i, i < 32 → kw_bI w i = (decide (i < n) && decide (σ.1 1 (172 + 3 * i) = 1) && (!b || decide (σ.1 1 (172 + 3 * i + 2) = 1))) := by
  obtain ⟨x, hx, hb⟩ := kw_for (body := fun s => bX10_watches_4 (kx_fl b) σ s.1 s.2) (fun k s => s.2 = nI k ∧ ∀ i, i < 32 → kw_bI s.1 i = (decide (i < k) && decide (σ.1 1 (172 + 3 * i) = 1) && (!b || decide (σ.1 1 (172 + 3 * i + 2) = 1)))) (fun x => ∀ i, i < 32 → kw_bI x i = (decide (i < n) && decide (σ.1 1 (172 + 3 * i) = 1) && (!b || decide (σ.1 1 (172 + 3 * i + 2) = 1)))) n (by omega) (s0 := ((0 : Int32), (0 : Int32))) ⟨rfl, fun i _ => by rw [decide_eq_false (Nat.not_lt_zero i)]; exact kw_bI_0 i⟩ (fun k s hk hp => by
    obtain ⟨w, v⟩ := s
    obtain ⟨rfl, hb⟩ := hp
    dsimp only at hb ⊢
    unfold bX10_watches_4 fX10_towns
    rw [hn, Option.bind_some]
    by_cases h : k < n
    case neg =>
      right
      obtain rfl : k = n := by omega
      rw [if_pos (nI_le (Nat.le_refl k) (by omega))]
      exact ⟨_, rfl, hb⟩
    left
    refine ⟨h, ?_⟩
    rw [if_neg (nI_ge h (by omega)), kn_172, kn_3, kn_mul, nI_add, kn_chk (show 172 + 3 * k < 2832 by omega) (by decide), kn_2, nI_add, kn_chk (show 172 + 3 * k + 2 < 2832 by omega) (by decide), kn_clamp (by omega), kn_clamp (by omega)]
    simp only [kx_fl_0, kw_let_def, km_next]
    have skip : (decide (σ.1 1 (172 + 3 * k) = 1) && (!b || decide (σ.1 1 (172 + 3 * k + 2) = 1))) = false → ∀ i, i < 32 → kw_bI w i = (decide (i < k + 1) && decide (σ.1 1 (172 + 3 * i) = 1) && (!b || decide (σ.1 1 (172 + 3 * i + 2) = 1))) := fun e i hi => by
      rw [hb i hi]
      by_cases q : i = k
      · subst q
        rw [Bool.and_assoc, Bool.and_assoc, e, Bool.and_false, Bool.and_false]
      · by_cases q2 : i < k
        · rw [decide_eq_true q2, decide_eq_true (show i < k + 1 by omega)]
        · rw [decide_eq_false q2, decide_eq_false (show ¬ i < k + 1 by omega)]
    have take : (decide (σ.1 1 (172 + 3 * k) = 1) && (!b || decide (σ.1 1 (172 + 3 * k + 2) = 1))) = true → ∀ i, i < 32 → kw_bI (w ||| ((1 : Int32) <<< (nI k &&& 31))) i = (decide (i < k + 1) && decide (σ.1 1 (172 + 3 * i) = 1) && (!b || decide (σ.1 1 (172 + 3 * i + 2) = 1))) := fun e i hi => by
      rw [kw_bI_or, hb i hi, kw_upI (by omega) i hi]
      by_cases q : i = k
      · subst q
        rw [Bool.and_assoc, Bool.and_assoc, e, decide_eq_true (show i = i from rfl), decide_eq_true (show i < i + 1 by omega), Bool.or_true]
        rfl
      · rw [decide_eq_false q, Bool.or_false]
        by_cases q2 : i < k
        · rw [decide_eq_true q2, decide_eq_true (show i < k + 1 by omega)]
        · rw [decide_eq_false q2, decide_eq_false (show ¬ i < k + 1 by omega)]
    by_cases f1 : σ.1 1 (172 + 3 * k) = 1
    case neg =>
      rw [if_neg f1]
      exact ⟨_, rfl, rfl, skip (by rw [decide_eq_false f1]; rfl)⟩
    rw [if_pos f1]
    cases b with
    | false =>
      rw [kn_ff]
      exact ⟨_, rfl, rfl, take (by rw [decide_eq_true f1]; rfl)⟩
    | true =>
      rw [kn_tf]
      by_cases f2 : σ.1 1 (172 + 3 * k + 2) = 1
      · rw [if_pos f2]
        exact ⟨_, rfl, rfl, take (by rw [decide_eq_true f1, decide_eq_true f2]; rfl)⟩
      · rw [if_neg f2]
        exact ⟨_, rfl, rfl, skip (by rw [decide_eq_true f1, decide_eq_false f2]; rfl)⟩)
  unfold fX10_watches
  rw [hx, Option.bind_some]
  exact ⟨x, rfl, hb⟩
theorem ko_count {σX σM : kw_M} {a1 : Int32} (hR : kw_Rel σX σM) : ∃ a τX τM, fX9_count a1 σX = some (a, τX) ∧ fX10_count a1 σM = some (a, τM) ∧ kw_Rel τX τM := by
  obtain ⟨n, m, o, hok, hsh, hkp, htp, hpr⟩ := hR
  have h2 := hok.1.2.1
  have h12 := hok.1.2.2.1
  have hon := hok.2.2.1
  have hw := hok.1.2.2.2.1
  have hm := hw.1
  have hnX : σX.1 12 0 = nI n := hsh.1.1.trans hok.1.1
  have hxq : kx_q σX σX (σM.1 1) n m := ⟨kx_kO_r _, kx_kN_r _, hpr⟩
  obtain ⟨ρ, s1, s2, s3, s4⟩ := km_settles' hw hok.1.1 (by omega) h12 hok.2.1 (by omega)
  have rel : kw_Rel σX ρ := kw_Rel_a hok hsh hkp htp hxq (km_q_e s2)
  have hrowX : ∀ t, t < 12 → σX.2 16 t = kx_enc (kb_D (σM.1 1) n m o t) := hsh.2.2.2.2.1
  unfold fX9_count fX10_count fX10_towns
  rw [s1, Option.bind_some, Option.bind_some, s2]
  by_cases q0 : a1 = 0
  · rw [if_pos q0, if_pos q0, hsh.1.1]; exact ⟨_, _, _, rfl, rfl, rel⟩
  rw [if_neg q0, if_neg q0]
  by_cases q1 : a1 = 1
  · rw [if_pos q1, if_pos q1, hsh.1.2.1]; exact ⟨_, _, _, rfl, rfl, rel⟩
  rw [if_neg q1, if_neg q1]
  by_cases q2 : a1 = 2
  · rw [if_pos q2, if_pos q2, kx_bcR hsh.1 hm, Option.bind_some, km_openMany (σ := ρ) (n := n) (m := m) (by rw [s2]; exact hok.1), Option.bind_some, s2]
    exact ⟨_, _, _, rfl, rfl, rel⟩
  rw [if_neg q2, if_neg q2]
  by_cases q3 : a1 = 3
  · rw [if_pos q3, if_pos q3, hsh.2.1.1]; exact ⟨_, _, _, rfl, rfl, rel⟩
  rw [if_neg q3, if_neg q3]
  by_cases q4 : a1 = 4
  · rw [if_pos q4, if_pos q4, hsh.2.2.2.1.1]; exact ⟨_, _, _, rfl, rfl, rel⟩
  rw [if_neg q4, if_neg q4]
  by_cases q5 : a1 = 5
  · rw [if_pos q5, if_pos q5, hsh.2.1.2.1]; exact ⟨_, _, _, rfl, rfl, rel⟩
  rw [if_neg q5, if_neg q5]
  by_cases q6 : a1 = 6
  · rw [if_pos q6, if_pos q6, kx_settledCount hnX h12 hrowX (kb_row hok), Option.bind_some, km_reached (σ := ρ) (d := kb_D (σM.1 1) n m o) (n := n) (by rw [s2]; exact hok.1.1) h12 s3 (kb_row hok), Option.bind_some]
    exact ⟨_, _, _, rfl, rfl, rel⟩
  rw [if_neg q6, if_neg q6]
  by_cases q7 : a1 = 7
  · rw [if_pos q7, if_pos q7, kx_tightCount hsh.1 hw hrowX (kb_row hok), Option.bind_some, km_tightMany (σ := ρ) (d := kb_D (σM.1 1) n m o) (m := m) (by rw [s2]; exact hw) s3 (kb_row hok), Option.bind_some, s2]
    exact ⟨_, _, _, rfl, rfl, rel⟩
  rw [if_neg q7, if_neg q7]
  by_cases q8 : a1 = 8
  · rw [if_pos q8, if_pos q8, hsh.2.2.2.2.2.2.1]; exact ⟨_, _, _, rfl, rfl, rel⟩
  rw [if_neg q8, if_neg q8]
  have hwt := hsh.2.2.1
  have hfl := hok.2.2.2.2.2.1
  by_cases q9 : a1 = 9
  · obtain ⟨w, w1, w2⟩ := km_watches (σ := ρ) (n := n) (b := false) (by rw [s2]; exact hok.1.1) h12
    have w1' : fX10_watches (0 : Int32) ρ = some w := w1
    have e : σX.1 1 5 = w := kw_bI_e fun i hi => by
      rw [hwt.1 i hi, w2 i hi, s2]
      by_cases hi12 : i < 12 ∧ σM.1 1 (172 + 3 * i) = 1
      · have := ((hfl i hi12.1).2 hi12.2).1
        rw [decide_eq_true hi12, decide_eq_true this, decide_eq_true hi12.2]
        rfl
      · rw [decide_eq_false hi12]
        by_cases hin : i < n
        · rw [decide_eq_false (fun q => hi12 ⟨by omega, q⟩), Bool.and_false]; rfl
        · rw [decide_eq_false hin]; rfl
    rw [if_pos q9, if_pos q9, w1', Option.bind_some, e]
    exact ⟨_, _, _, rfl, rfl, rel⟩
  rw [if_neg q9, if_neg q9]
  by_cases q10 : a1 = 10
  · obtain ⟨w, w1, w2⟩ := km_watches (σ := ρ) (n := n) (b := true) (by rw [s2]; exact hok.1.1) h12
    obtain ⟨v, v1, v2⟩ := kx_beyondBits (σ := σX) (d := kb_D (σM.1 1) n m o) hnX h12 hrowX (kb_row hok)
    have w1' : fX10_watches (1 : Int32) ρ = some w := w1
    have e : v = w := kw_bI_e fun i hi => by
      rw [v2 i hi, w2 i hi, s2, hwt.1 i hi]
      by_cases hin : i < n
      case neg =>
        rw [decide_eq_false hin]
        rfl
      by_cases f1 : σM.1 1 (172 + 3 * i) = 1
      case neg =>
        rw [decide_eq_false f1, decide_eq_false (show ¬ (i < 12 ∧ σM.1 1 (172 + 3 * i) = 1) from fun q => f1 q.2), Bool.and_false]
        rfl
      have g1 := ((hfl i (by omega)).2 f1).2
      have g2 : σX.1 14 i = σM.1 1 (172 + 3 * i + 1) := hwt.2 i (by omega) f1
      rw [decide_eq_true hin, decide_eq_true f1, decide_eq_true (show i < 12 ∧ σM.1 1 (172 + 3 * i) = 1 from ⟨by omega, f1⟩), g1, g2]
      unfold kb_flag
      simp only [kx_fl_1, Bool.not_true, Bool.false_or, Bool.true_and]
      cases kb_bey (kb_D (σM.1 1) n m o i) (σM.1 1 (172 + 3 * i + 1)) <;> rfl
    rw [if_pos q10, if_pos q10, w1', v1, Option.bind_some, Option.bind_some, e]
    exact ⟨_, _, _, rfl, rfl, rel⟩
  rw [if_neg q10, if_neg q10]
  by_cases q11 : a1 = 11
  · obtain ⟨τ, e1, e2, e3, e4⟩ := kx_right hok hsh hpr
    have hokρ : kb_ok (ρ.1 1) n m o := by rw [s2]; exact hok
    obtain ⟨ν, p1, p2, p3, p4⟩ := km_pairs hokρ
    have hbd : kp_bd (fun a => kb_D (σM.1 1) n m a) n := kp_bt_bd (fun a _ => kb_D_in2 hw h12)
    have hXP : kx_P τ (fun a => kb_D (σM.1 1) n m a) n := ⟨e2.2.1, e2.2.2⟩
    have hMP : km_P ν (fun a => kb_D (σM.1 1) n m a) n := ⟨by rw [p2, s2]; exact hok.1.1, fun a ha b hb => by rw [p4 a ha b hb, s2]⟩
    rw [if_pos q11, if_pos q11, e1, Option.bind_some, kx_middle hXP hbd h2 h12, Option.bind_some]
    unfold fX10_middle
    rw [p1, Option.bind_some, km_middle hMP hbd h2 h12, Option.bind_some, Option.bind_some]
    exact ⟨_, _, _, rfl, rfl, kw_Rel_a hok hsh hkp htp (kx_prt_q e2 e3 e4) (km_q_e (p2.trans s2))⟩
  rw [if_neg q11, if_neg q11]
  by_cases q12 : a1 = 12
  · obtain ⟨s, t1, t2, t3, t4⟩ := htp
    rw [if_pos q12, if_pos q12, t2, t3]; exact ⟨_, _, _, rfl, rfl, rel⟩
  rw [if_neg q12, if_neg q12]
  by_cases q13 : a1 = 13
  · rw [if_pos q13, if_pos q13, hsh.2.1.2.2]; exact ⟨_, _, _, rfl, rfl, rel⟩
  rw [if_neg q13, if_neg q13]
  exact ⟨_, _, _, rfl, rfl, rel⟩
