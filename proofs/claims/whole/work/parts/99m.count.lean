/-! How many bits of a long are up. -/
def kn_g1 (M x : Nat) : Nat := x - ((x / 2) &&& M)
def kn_g2 (M x : Nat) : Nat := (x &&& M) + ((x / 4) &&& M)
def kn_g3 (M x : Nat) : Nat := (x + x / 16) &&& M
theorem kn_and_b {a m : Nat} (ha : a < 256) (hm : m < 256) (y M : Nat) : (a + 256 * y) &&& (m + 256 * M) = (a &&& m) + 256 * (y &&& M) := by
  have h1 : ((a + 256 * y) &&& (m + 256 * M)) % 2 ^ 8 = ((a + 256 * y) % 2 ^ 8) &&& ((m + 256 * M) % 2 ^ 8) := Nat.and_mod_two_pow
  have h2 : ((a + 256 * y) &&& (m + 256 * M)) >>> 8 = ((a + 256 * y) >>> 8) &&& ((m + 256 * M) >>> 8) := Nat.shiftRight_and_distrib
  rw [Nat.shiftRight_eq_div_pow, Nat.shiftRight_eq_div_pow, Nat.shiftRight_eq_div_pow] at h2
  have e1 : (a + 256 * y) % 2 ^ 8 = a := by omega
  have e2 : (m + 256 * M) % 2 ^ 8 = m := by omega
  have e3 : (a + 256 * y) / 2 ^ 8 = y := by omega
  have e4 : (m + 256 * M) / 2 ^ 8 = M := by omega
  rw [e1, e2] at h1
  rw [e3, e4] at h2
  rw [← h1, ← h2]
  omega
theorem kn_b1 : ∀ a, a < 256 → ∀ c, c < 2 → ((a / 2 + 128 * c) &&& 85 = (a / 2) &&& 85) ∧ ((a / 2) &&& 85) ≤ a := by decide +kernel
theorem kn_b2 : ∀ a, a < 256 → ∀ c, c < 4 → ((a / 4 + 64 * c) &&& 51 = (a / 4) &&& 51) := by decide +kernel
theorem kn_b3 : ∀ a, a < 256 → (kn_g2 51 (kn_g1 85 a)) ≤ 68 ∧ (kn_g2 51 (kn_g1 85 a)) % 16 ≤ 4 ∧ kn_g1 85 a < 256 ∧ kn_g3 15 (kn_g2 51 (kn_g1 85 a)) = kr_cntb (fun i => a.testBit i) 8 := by decide +kernel
theorem kn_b4 : ∀ a, a < 69 → ∀ c, c < 5 → (a + a / 16 + 16 * c) &&& 15 = (a + a / 16) &&& 15 := by decide +kernel
theorem kn_s1 {a : Nat} (ha : a < 256) (y M : Nat) : kn_g1 (85 + 256 * M) (a + 256 * y) = kn_g1 85 a + 256 * kn_g1 M y := by
  unfold kn_g1
  obtain ⟨h1, h2⟩ := kn_b1 a ha (y % 2) (by omega)
  have h3 : (y / 2) &&& M ≤ y / 2 := Nat.and_le_left
  rw [show (a + 256 * y) / 2 = (a / 2 + 128 * (y % 2)) + 256 * (y / 2) by omega, kn_and_b (by omega) (by decide), h1]
  omega
theorem kn_s2 {a : Nat} (ha : a < 256) (y M : Nat) : kn_g2 (51 + 256 * M) (a + 256 * y) = kn_g2 51 a + 256 * kn_g2 M y := by
  unfold kn_g2
  have h1 := kn_b2 a ha (y % 4) (by omega)
  rw [show (a + 256 * y) / 4 = (a / 4 + 64 * (y % 4)) + 256 * (y / 4) by omega, kn_and_b ha (by decide), kn_and_b (by omega) (by decide), h1]
  omega
theorem kn_s3 {a : Nat} (ha : a < 69) (y M : Nat) (hy : y % 16 ≤ 4) : kn_g3 (15 + 256 * M) (a + 256 * y) = kn_g3 15 a + 256 * kn_g3 M y := by
  unfold kn_g3
  have h1 := kn_b4 a ha (y % 16) (by omega)
  rw [show a + 256 * y + (a + 256 * y) / 16 = (a + a / 16 + 16 * (y % 16)) + 256 * (y + y / 16) by omega, kn_and_b (by omega) (by decide), h1]
/-- masks of k bytes -/
def kn_mk (b : Nat) : Nat → Nat
  | 0 => 0
  | k + 1 => b + 256 * kn_mk b k
/-- the bytes' counts, a byte each -/
def kn_vb : Nat → Nat → Nat
  | 0, _ => 0
  | k + 1, x => kr_cntb (fun i => (x % 256).testBit i) 8 + 256 * kn_vb k (x / 256)
theorem kn_bytes : ∀ (k x : Nat), x < 256 ^ k → kn_g3 (kn_mk 15 k) (kn_g2 (kn_mk 51 k) (kn_g1 (kn_mk 85 k) x)) = kn_vb k x ∧ kn_g2 (kn_mk 51 k) (kn_g1 (kn_mk 85 k) x) % 16 ≤ 4
  | 0, x, h => by
    have : x = 0 := by
      have : (256 : Nat) ^ 0 = 1 := rfl
      omega
    subst this
    decide
  | k + 1, x, h => by
    have h' : x / 256 < 256 ^ k := by
      rw [Nat.pow_succ] at h
      exact Nat.div_lt_of_lt_mul (by rw [Nat.mul_comm]; exact h)
    obtain ⟨i1, i2⟩ := kn_bytes k (x / 256) h'
    obtain ⟨b1, b2, b3, b4⟩ := kn_b3 (x % 256) (by omega)
    have e : x = x % 256 + 256 * (x / 256) := by omega
    show kn_g3 (15 + 256 * kn_mk 15 k) (kn_g2 (51 + 256 * kn_mk 51 k) (kn_g1 (85 + 256 * kn_mk 85 k) x)) = kr_cntb (fun i => (x % 256).testBit i) 8 + 256 * kn_vb k (x / 256) ∧ kn_g2 (51 + 256 * kn_mk 51 k) (kn_g1 (85 + 256 * kn_mk 85 k) x) % 16 ≤ 4
    have q : kn_g2 (51 + 256 * kn_mk 51 k) (kn_g1 (85 + 256 * kn_mk 85 k) x) = kn_g2 51 (kn_g1 85 (x % 256)) + 256 * kn_g2 (kn_mk 51 k) (kn_g1 (kn_mk 85 k) (x / 256)) := by
      conv => lhs; rw [e]
      rw [kn_s1 (by omega), kn_s2 b3]
    rw [q, kn_s3 (by omega) _ _ i2, i1, b4]
    exact ⟨rfl, by omega⟩
theorem kr_cntb_two (p : Nat → Bool) (a : Nat) : ∀ b : Nat, kr_cntb p (a + b) = kr_cntb p a + kr_cntb (fun i => p (a + i)) b
  | 0 => rfl
  | b + 1 => by
    rw [show a + (b + 1) = (a + b) + 1 by omega, kr_cntb_s, kr_cntb_s, kr_cntb_two p a b, Nat.add_assoc]
theorem kn_cnt8 (x b : Nat) : kr_cntb (fun i => x.testBit i) (8 + b) = kr_cntb (fun i => (x % 256).testBit i) 8 + kr_cntb (fun i => (x / 256).testBit i) b := by
  rw [kr_cntb_two]
  congr 1
  · refine kr_cntb_eq 8 (fun i hi => ?_)
    rw [show (256 : Nat) = 2 ^ 8 from rfl, Nat.testBit_mod_two_pow, decide_eq_true hi, Bool.true_and]
  · refine kr_cntb_eq b (fun i hi => ?_)
    rw [show (256 : Nat) = 2 ^ 8 from rfl, Nat.testBit_div_two_pow, Nat.add_comm]
theorem kn_c8 (x : Nat) : kr_cntb (fun i => x.testBit i) 8 ≤ 8 := kr_cntb_le _ 8
theorem kn_ar {p0 p1 p2 p3 p4 p5 p6 p7 v w u V1 V2 V3 V4 V5 V6 V7 : Nat} (c0 : p0 ≤ 8) (c1 : p1 ≤ 8) (c2 : p2 ≤ 8) (c3 : p3 ≤ 8) (c4 : p4 ≤ 8) (c5 : p5 ≤ 8) (c6 : p6 ≤ 8) (c7 : p7 ≤ 8) (h0 : v = p0 + 256 * V1) (h1 : V1 = p1 + 256 * V2) (h2 : V2 = p2 + 256 * V3) (h3 : V3 = p3 + 256 * V4) (h4 : V4 = p4 + 256 * V5) (h5 : V5 = p5 + 256 * V6) (h6 : V6 = p6 + 256 * V7) (h7 : V7 = p7) (hw : w = v + v / 256) (hu : u = w + w / 65536) : v < 1152921504606846976 ∧ w < 2305843009213693952 ∧ u < 4611686018427387904 ∧ u + u / 4294967296 < 9223372036854775808 ∧ (u + u / 4294967296) % 128 = (p0 + p1 + p2 + p3 + p4 + p5 + p6 + p7) % 128 := by
  have b7 : V7 ≤ 8 := by omega
  have b6 : V6 ≤ 2056 := by omega
  have b5 : V5 ≤ 526344 := by omega
  have b4 : V4 ≤ 134744072 := by omega
  have b3 : V3 ≤ 34494482440 := by omega
  have b2 : V2 ≤ 8830587504648 := by omega
  have b1 : V1 ≤ 2260630401189896 := by omega
  have b0 : v ≤ 578721382704613384 := by omega
  have e1 : v / 256 = V1 := by omega
  have w1 : w = (p0 + p1) + 256 * (V1 + V2) := by omega
  have w2 : V1 + V2 = (p1 + p2) + 256 * (V2 + V3) := by omega
  clear b7 b6 b5 b4
  have e2 : w / 65536 = V2 + V3 := by
    generalize V2 + V3 = y at w2
    generalize V1 + V2 = z at w1 w2
    omega
  have u1 : u = (p0 + p1 + p2 + p3) + 256 * (V1 + V2 + V3 + V4) := by omega
  have u2 : V1 + V2 + V3 + V4 = (p1 + p2 + p3 + p4) + 256 * (V2 + V3 + V4 + V5) := by omega
  have u3 : V2 + V3 + V4 + V5 = (p2 + p3 + p4 + p5) + 256 * (V3 + V4 + V5 + V6) := by omega
  have u4 : V3 + V4 + V5 + V6 = (p3 + p4 + p5 + p6) + 256 * (V4 + V5 + V6 + V7) := by omega
  have uB : u < 4611686018427387904 := by omega
  have e3 : u / 4294967296 = V4 + V5 + V6 + V7 := by
    have s0 : p0 + p1 + p2 + p3 ≤ 32 := by omega
    have s1 : p1 + p2 + p3 + p4 ≤ 32 := by omega
    have s2 : p2 + p3 + p4 + p5 ≤ 32 := by omega
    have s3 : p3 + p4 + p5 + p6 ≤ 32 := by omega
    revert u1 u2 u3 u4 s0 s1 s2 s3
    generalize p0 + p1 + p2 + p3 = a0
    generalize p1 + p2 + p3 + p4 = a1
    generalize p2 + p3 + p4 + p5 = a2
    generalize p3 + p4 + p5 + p6 = a3
    generalize V4 + V5 + V6 + V7 = y4
    generalize V3 + V4 + V5 + V6 = y3
    generalize V2 + V3 + V4 + V5 = y2
    generalize V1 + V2 + V3 + V4 = y1
    clear h0 h1 h2 h3 h4 h5 h6 h7 w1 w2 e1 e2 hu hw c0 c1 c2 c3 c4 c5 c6 c7 b3 b2 b1 b0 uB
    intro u1 u2 u3 u4 s0 s1 s2 s3
    subst u4
    subst u3
    subst u2
    subst u1
    omega
  have v4 : V4 + V5 + V6 + V7 = (p4 + p5 + p6 + p7) + 256 * (V5 + V6 + V7) := by omega
  refine ⟨by omega, by omega, uB, by omega, ?_⟩
  rw [e3, u1, v4]
  clear h0 h1 h2 h3 h4 h5 h6 h7 w1 w2 e1 e2 hu hw b3 b2 b1 b0 uB u1 u2 u3 u4 v4 e3
  omega
