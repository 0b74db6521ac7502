/-! Bits of ints and longs. -/
def kw_bL (w : Int64) (r : Nat) : Bool := w.toBitVec.getLsbD r
def kw_bI (w : Int32) (r : Nat) : Bool := w.toBitVec.getLsbD r
theorem kw_shL : ∀ r : Nat, r < 36 → (nI r).toInt64 &&& 63 = Int64.ofNat r := by decide
theorem kw_shL2 : ∀ r : Nat, r < 36 → ((Int64.ofNat r).toBitVec.smod 64).toNat = r := by decide
theorem kw_shI : ∀ r : Nat, r < 32 → (nI r &&& 31) = nI r := by decide
theorem kw_shI2 : ∀ r : Nat, r < 32 → ((nI r).toBitVec.smod 32).toNat = r := by decide
theorem kw_bL_e {v w : Int64} (h : ∀ i, i < 64 → kw_bL v i = kw_bL w i) : v = w := by
  apply Int64.toBitVec_inj.mp
  exact BitVec.eq_of_getLsbD_eq h
theorem kw_bI_e {v w : Int32} (h : ∀ i, i < 32 → kw_bI v i = kw_bI w i) : v = w := by
  apply Int32.toBitVec_inj.mp
  exact BitVec.eq_of_getLsbD_eq h
theorem kw_bL_1 (i : Nat) : kw_bL 1 i = decide (i = 0) := by
  unfold kw_bL
  show (1#64).getLsbD i = _
  simp
theorem kw_bI_1 (i : Nat) : kw_bI 1 i = decide (i = 0) := by
  unfold kw_bI
  show (1#32).getLsbD i = _
  simp
theorem kw_bL_0 (i : Nat) : kw_bL 0 i = false := by
  unfold kw_bL
  show (0#64).getLsbD i = _
  simp
theorem kw_bI_0 (i : Nat) : kw_bI 0 i = false := by
  unfold kw_bI
  show (0#32).getLsbD i = _
  simp
theorem kw_bL_and (v w : Int64) (i : Nat) : kw_bL (v &&& w) i = (kw_bL v i && kw_bL w i) := by
  unfold kw_bL
  rw [Int64.toBitVec_and, BitVec.getLsbD_and]
theorem kw_bL_or (v w : Int64) (i : Nat) : kw_bL (v ||| w) i = (kw_bL v i || kw_bL w i) := by
  unfold kw_bL
  rw [Int64.toBitVec_or, BitVec.getLsbD_or]
theorem kw_bL_xor (v w : Int64) (i : Nat) : kw_bL (v ^^^ w) i = (kw_bL v i ^^ kw_bL w i) := by
  unfold kw_bL
  rw [Int64.toBitVec_xor, BitVec.getLsbD_xor]
theorem kw_bI_and (v w : Int32) (i : Nat) : kw_bI (v &&& w) i = (kw_bI v i && kw_bI w i) := by
  unfold kw_bI
  rw [Int32.toBitVec_and, BitVec.getLsbD_and]
theorem kw_bI_or (v w : Int32) (i : Nat) : kw_bI (v ||| w) i = (kw_bI v i || kw_bI w i) := by
  unfold kw_bI
  rw [Int32.toBitVec_or, BitVec.getLsbD_or]
theorem kw_bI_xor (v w : Int32) (i : Nat) : kw_bI (v ^^^ w) i = (kw_bI v i ^^ kw_bI w i) := by
  unfold kw_bI
  rw [Int32.toBitVec_xor, BitVec.getLsbD_xor]
/-- bit r, shifted down -/
theorem kw_dnL {w : Int64} {r : Nat} (hr : r < 36) : (((w >>> ((nI r).toInt64 &&& 63)) &&& (1 : Int64)) = (0 : Int64)) = (kw_bL w r = false) := by
  have hs : ∀ i, i < 64 → kw_bL (w >>> ((nI r).toInt64 &&& 63) &&& 1) i = (kw_bL w r && decide (i = 0)) := fun i hi => by
    rw [kw_bL_and, kw_bL_1, kw_shL r hr]
    by_cases h0 : i = 0
    · subst h0
      unfold kw_bL
      rw [Int64.toBitVec_shiftRight, show ∀ (x y : BitVec 64), x.sshiftRight' y = x.sshiftRight y.toNat from fun _ _ => rfl, kw_shL2 r hr, BitVec.getLsbD_sshiftRight]
      have h64 : ¬ 64 ≤ 0 := by omega
      simp [show r < 64 by omega]
    · simp [h0]
  refine propext ⟨fun h => ?_, fun h => ?_⟩
  · have h1 := hs 0 (by omega)
    rw [h, kw_bL_0] at h1
    simpa using h1.symm
  · refine kw_bL_e fun i hi => ?_
    rw [hs i hi, h, kw_bL_0]
    rfl
theorem kw_dnI {w : Int32} {r : Nat} (hr : r < 32) : (w >>> (nI r &&& 31)) &&& (1 : Int32) = kx_fl (kw_bI w r) := by
  refine kw_bI_e fun i hi => ?_
  rw [kw_bI_and, kw_bI_1, kw_shI r hr]
  by_cases h0 : i = 0
  · subst h0
    have e : kw_bI (w >>> nI r) 0 = kw_bI w r := by
      unfold kw_bI
      rw [Int32.toBitVec_shiftRight, show ∀ (x y : BitVec 32), x.sshiftRight' y = x.sshiftRight y.toNat from fun _ _ => rfl, kw_shI2 r hr, BitVec.getLsbD_sshiftRight]
      simp [show r < 32 by omega]
    rw [e]
    cases kw_bI w r <;> decide
  · rw [decide_eq_false h0, Bool.and_false]
    cases kw_bI w r
    · exact (kw_bI_0 i).symm
    · show false = kw_bI 1 i
      rw [kw_bI_1, decide_eq_false h0]
/-- a bit alone -/
theorem kw_upL {r : Nat} (hr : r < 36) (i : Nat) (hi : i < 64) : kw_bL ((1 : Int64) <<< ((nI r).toInt64 &&& 63)) i = decide (i = r) := by
  rw [kw_shL r hr]
  unfold kw_bL
  rw [Int64.toBitVec_shiftLeft]
  rw [show (1 : Int64).toBitVec = 1#64 from rfl, show ∀ (x y : BitVec 64), x <<< y = x <<< y.toNat from fun _ _ => rfl, kw_shL2 r hr, BitVec.getLsbD_shiftLeft]
  by_cases h : i = r
  · subst h
    simp [hi]
  · by_cases h2 : i < r
    · simp [h2, h]
    · simp [h2, h, show ¬ i - r = 0 by omega]
theorem kw_upI {r : Nat} (hr : r < 32) (i : Nat) (hi : i < 32) : kw_bI ((1 : Int32) <<< (nI r &&& 31)) i = decide (i = r) := by
  rw [kw_shI r hr]
  unfold kw_bI
  rw [Int32.toBitVec_shiftLeft]
  rw [show (1 : Int32).toBitVec = 1#32 from rfl, show ∀ (x y : BitVec 32), x <<< y = x <<< y.toNat from fun _ _ => rfl, kw_shI2 r hr, BitVec.getLsbD_shiftLeft]
  by_cases h : i = r
  · subst h
    simp [hi]
  · by_cases h2 : i < r
    · simp [h2, h]
    · simp [h2, h, show ¬ i - r = 0 by omega]
theorem kx_op_bit {w : Int64} {r : Nat} (hr : r < 36) : kx_op w r = (kw_bL w r = true) := by
  unfold kx_op
  rw [kw_dnL hr, Bool.not_eq_false]
