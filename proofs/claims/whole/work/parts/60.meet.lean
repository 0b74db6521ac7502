/-! meet. -/
theorem kb_D_in2 {F : Nat → Int32} {n m o : Nat} (hw : km_wf F m) (h12 : n ≤ 12) : kr_in (kb_D F n m o) 400000000000 := by
  refine kr_in_mono (km_bf_in (g := km_gr F m (-1)) (o := o) hw.1 (km_wf_len hw (-1)) (n - 1)) ?_
  have : ((n - 1 : Nat) : Int) ≤ 11 := by omega
  omega
def kp_bt (P : Nat → kr_D) (n : Nat) : Prop := ∀ a, a < n → kr_in (P a) 400000000000
theorem kp_bt_bd {P : Nat → kr_D} {n : Nat} (h : kp_bt P n) : kp_bd P n := fun a ha => kr_in_mono (h a ha) (by decide)
theorem kw_maskI : ∀ n, n < 13 → ∀ i, i < 32 → kw_bI (-((1 : Int32) <<< (nI n &&& 31))) i = decide (n ≤ i) := by decide
theorem kw_topI : ∀ n, n < 13 → (((1 : Int32) <<< (nI n &&& 31)) - (1 : Int32)).toInt = 2 ^ n - 1 := by decide
theorem kw_bI_nat {x : Nat} (hx : x < 4294967296) (i : Nat) : kw_bI (nI x) i = x.testBit i := by
  unfold kw_bI
  show (BitVec.ofNat 32 x).getLsbD i = _
  rw [BitVec.getLsbD_ofNat]
  by_cases hi : i < 32
  · rw [decide_eq_true hi, Bool.true_and]
  · rw [decide_eq_false hi, Bool.false_and, Nat.testBit_lt_two_pow]
    have h32 : (2 : Nat) ^ 32 ≤ 2 ^ i := Nat.pow_le_pow_right (by decide) (by omega)
    exact Nat.lt_of_lt_of_le hx h32
theorem kw_pow12 : ∀ n, n < 13 → ((2 ^ n : Nat) : Int) = 2 ^ n ∧ (2 : Nat) ^ n ≤ 4096 := by decide
/-- a set of towns among the first n -/
theorem kw_set_iff {a : Int32} {n : Nat} (hn : n ≤ 12) : ((a &&& (-((1 : Int32) <<< (nI n &&& 31)))) = 0) ↔ 0 ≤ a.toInt ∧ a.toInt ≤ 2 ^ n - 1 := by
  obtain ⟨hpc, h2N⟩ := kw_pow12 n (by omega)
  have h2n : (2 : Int) ^ n ≤ 4096 := by omega
  constructor
  · intro h
    have hb : ∀ i, i < 32 → n ≤ i → kw_bI a i = false := fun i hi hni => by
      have h1 : kw_bI (a &&& (-((1 : Int32) <<< (nI n &&& 31)))) i = kw_bI 0 i := by rw [h]
      rw [kw_bI_and, kw_maskI n (by omega) i hi, decide_eq_true hni, Bool.and_true, kw_bI_0] at h1
      exact h1
    have hlt : a.toBitVec.toNat < 2 ^ n := by
      refine Nat.lt_pow_two_of_testBit _ (fun i hi => ?_)
      by_cases hi2 : i < 32
      · exact hb i hi2 hi
      · exact Nat.testBit_lt_two_pow (Nat.lt_of_lt_of_le a.toBitVec.isLt (Nat.pow_le_pow_right (by decide) (show 32 ≤ i by omega)))
    have h3 : a.toBitVec.toNat < 4096 := Nat.lt_of_lt_of_le hlt h2N
    have e : a = nI a.toBitVec.toNat := by
      apply Int32.toBitVec_inj.mp
      show a.toBitVec = BitVec.ofNat 32 a.toBitVec.toNat
      rw [BitVec.ofNat_toNat, BitVec.setWidth_eq]
    rw [e, nI_toInt (by omega)]
    refine ⟨by omega, ?_⟩
    have : ((a.toBitVec.toNat : Nat) : Int) < 2 ^ n := by rw [← hpc]; exact Int.ofNat_lt.mpr hlt
    omega
  · intro h
    obtain ⟨x, hx, rfl⟩ := kw_arg (x := a) (n := 4096) (by decide) ⟨h.1, by omega⟩
    rw [nI_toInt (by omega)] at h
    have hxn : x < 2 ^ n := by
      have h1 : (x : Int) < 2 ^ n := by omega
      rw [← hpc] at h1
      exact Int.ofNat_lt.mp h1
    refine kw_bI_e fun i hi => ?_
    rw [kw_bI_and, kw_maskI n (by omega) i hi, kw_bI_0, kw_bI_nat (by omega)]
    by_cases hni : n ≤ i
    · rw [Nat.testBit_lt_two_pow (Nat.lt_of_lt_of_le hxn (Nat.pow_le_pow_right (by decide) hni)), Bool.false_and]
    · rw [decide_eq_false hni, Bool.and_false]
theorem kx_hasAll {σ : kw_M} {n : Nat} {a : Int32} (hn : σ.1 12 0 = nI n) (h12 : n ≤ 12) : fX4_hasAll a σ = some (kx_fl (decide (0 ≤ a.toInt ∧ a.toInt ≤ 2 ^ n - 1))) := by
  unfold fX4_hasAll
  rw [hn]
  simp only [kw_set_iff h12]
  by_cases h : 0 ≤ a.toInt ∧ a.toInt ≤ 2 ^ n - 1
  · rw [if_pos h, decide_eq_true h]; rfl
  · rw [if_neg h, decide_eq_false h]; rfl
theorem km_has {σ : kw_M} {a : Int32} {t : Nat} (ht : t < 32) : fX10_has a (nI t) σ = some (kx_fl (kw_bI a t)) := by
  unfold fX10_has
  rw [kw_dnI ht]
  cases kw_bI a t
  · rw [if_neg (by decide)]; rfl
  · rw [if_pos (by decide)]; rfl
/-- the sum, and the greatest, of the lengths from the first k towns of S to one -/
def kp_sum (P : Nat → kr_D) (S : Nat → Bool) (at0 : Nat) : Nat → Int
  | 0 => 0
  | k + 1 => if S k = true then kp_sum P S at0 k + (P k at0).getD 0 else kp_sum P S at0 k
def kp_max (P : Nat → kr_D) (S : Nat → Bool) (at0 : Nat) : Nat → Option Int
  | 0 => none
  | k + 1 => if S k = true then kp_up (P k at0) (kp_max P S at0 k) else kp_max P S at0 k
def kp_miss (P : Nat → kr_D) (S : Nat → Bool) (at0 t : Nat) : Bool := S t && !(P t at0).isSome
def kp_ga (P : Nat → kr_D) (S : Nat → Bool) (gr : Bool) (n at0 : Nat) : Option Int := if kr_anyTo (kp_miss P S at0) n = true then none else if gr = true then kp_max P S at0 n else some (kp_sum P S at0 n)
theorem kp_sum_s (P : Nat → kr_D) (S : Nat → Bool) (at0 k : Nat) : kp_sum P S at0 (k + 1) = if S k = true then kp_sum P S at0 k + (P k at0).getD 0 else kp_sum P S at0 k := rfl
theorem kp_max_s (P : Nat → kr_D) (S : Nat → Bool) (at0 k : Nat) : kp_max P S at0 (k + 1) = if S k = true then kp_up (P k at0) (kp_max P S at0 k) else kp_max P S at0 k := rfl
theorem kp_sum_bd {P : Nat → kr_D} {S : Nat → Bool} {n at0 : Nat} (h : kp_bt P n) : ∀ k : Nat, k ≤ n → -(k * 400000000000 : Int) ≤ kp_sum P S at0 k ∧ kp_sum P S at0 k ≤ k * 400000000000
  | 0, _ => by unfold kp_sum; omega
  | k + 1, hk => by
    obtain ⟨h1, h2⟩ := kp_sum_bd (S := S) (at0 := at0) h k (by omega)
    rw [kp_sum_s]
    have hp : -400000000000 ≤ (P k at0).getD 0 ∧ (P k at0).getD 0 ≤ 400000000000 := by
      cases hq : P k at0 with
      | none => exact ⟨by decide, by decide⟩
      | some z => exact h k (by omega) at0 z hq
    by_cases hs : S k = true
    · rw [if_pos hs]; omega
    · rw [if_neg hs]; omega
theorem kp_max_bd {P : Nat → kr_D} {S : Nat → Bool} {n at0 : Nat} (h : kp_bt P n) : ∀ k : Nat, k ≤ n → kr_bd (kp_max P S at0 k)
  | 0, _ => kr_bd_none
  | k + 1, hk => by
    have ih := kp_max_bd (S := S) (at0 := at0) h k (by omega)
    have hb := kr_row_bd (kp_bt_bd h k (by omega)) at0
    rw [kp_max_s]
    by_cases hs : S k = true
    · rw [if_pos hs]
      cases h1 : P k at0 with
      | none => exact ih
      | some x =>
        rw [h1] at hb
        cases h2 : kp_max P S at0 k with
        | none => exact hb
        | some y =>
          rw [h2] at ih
          show kr_bd (if x ≤ y then some y else some x)
          by_cases q : x ≤ y
          · rw [if_pos q]; exact ih
          · rw [if_neg q]; exact hb
    · rw [if_neg hs]; exact ih
theorem kp_max_some {P : Nat → kr_D} {S : Nat → Bool} {at0 t : Nat} (hS : S t = true) (hs : (P t at0).isSome = true) : ∀ k : Nat, t < k → (kp_max P S at0 k).isSome = true
  | 0, h => absurd h (Nat.not_lt_zero _)
  | k + 1, h => by
    rw [kp_max_s]
    have up : ∀ x y : Option Int, (x.isSome = true ∨ y.isSome = true) → (kp_up x y).isSome = true := fun x y hxy => by
      cases x with
      | none =>
        rcases hxy with q | q
        · cases q
        · exact q
      | some a =>
        cases y with
        | none => rfl
        | some b =>
          show (if a ≤ b then some b else some a).isSome = true
          by_cases q : a ≤ b
          · rw [if_pos q]; rfl
          · rw [if_neg q]; rfl
    by_cases e : t = k
    · subst e
      rw [if_pos hS]
      exact up _ _ (Or.inl hs)
    · have ih := kp_max_some hS hs k (by omega)
      by_cases q : S k = true
      · rw [if_pos q]
        exact up _ _ (Or.inr ih)
      · rw [if_neg q]; exact ih
/-- a set that isn't empty has a town -/
theorem kw_set_ne {a : Int32} {n : Nat} (hn : n ≤ 12) (h : 0 ≤ a.toInt ∧ a.toInt ≤ 2 ^ n - 1) (h0 : ¬ a = 0) : ∃ t, t < n ∧ kw_bI a t = true := by
  refine Decidable.byContradiction fun hc => h0 (kw_bI_e fun i hi => ?_)
  rw [kw_bI_0]
  cases hq : kw_bI a i with
  | false => rfl
  | true =>
    exfalso
    by_cases hin : i < n
    · exact hc ⟨i, hin, hq⟩
    · have h1 : kw_bI (a &&& (-((1 : Int32) <<< (nI n &&& 31)))) i = kw_bI 0 i := by rw [(kw_set_iff hn).mpr h]
      rw [kw_bI_and, kw_maskI n (by omega) i hi, decide_eq_true (by omega), Bool.and_true, kw_bI_0, hq] at h1
      cases h1
theorem kn_ft {α : Type} (x y : α) : (if false = true then x else y) = y := if_neg (by decide)
theorem kn_tt {α : Type} (x y : α) : (if true = true then x else y) = x := if_pos rfl
def kx_mx (o : Option Int) : Int64 := match o with
  | none => -9000000000000000000
  | some x => Int64.ofInt x
theorem kw_addL {a b : Int} (ha1 : -10000000000000000 ≤ a) (ha2 : a ≤ 10000000000000000) (hb1 : -10000000000000000 ≤ b) (hb2 : b ≤ 10000000000000000) : Int64.ofInt a + Int64.ofInt b = Int64.ofInt (a + b) := by
  apply Int64.toInt_inj.mp
  rw [Jvm.Kit.i64_add (by rw [km_toInt ha1 ha2, km_toInt hb1 hb2]; omega) (by rw [km_toInt ha1 ha2, km_toInt hb1 hb2]; omega), km_toInt ha1 ha2, km_toInt hb1 hb2, Int64.toInt_ofInt_of_le (by omega) (by omega)]
theorem kx_together {σ : kw_M} {P : Nat → kr_D} {n t : Nat} {a : Int32} {gr : Bool} (h : kx_P σ P n) (hP : kp_bt P n) (ht : t < n) (h12 : n ≤ 12) (hne : ∃ t, t < n ∧ kw_bI a t = true) : fX2_comeTogether a (nI t) (kx_fl gr) σ = some (kx_enc (kp_ga P (kw_bI a) gr n t)) := by
  have hPb := kp_bt_bd hP
  have key : kw_loop (fun s => bX2_comeTogether_16 a (nI t) (kx_fl gr) σ s.1 s.2) kw_F ((if gr = true then (-9000000000000000000 : Int64) else 0), (0 : Int32)) = some (if kr_anyTo (kp_miss P (kw_bI a) t) n = true then .inl (-9000000000000000000) else .inr (if gr = true then kx_mx (kp_max P (kw_bI a) t n) else Int64.ofInt (kp_sum P (kw_bI a) t n))) := by
    obtain ⟨x, hx, hq⟩ := kw_for (body := fun s => bX2_comeTogether_16 a (nI t) (kx_fl gr) σ s.1 s.2) (fun k s => s.2 = nI k ∧ s.1 = (if gr = true then kx_mx (kp_max P (kw_bI a) t k) else Int64.ofInt (kp_sum P (kw_bI a) t k)) ∧ ∀ i, i < k → kp_miss P (kw_bI a) t i = false) (fun x => x = (if kr_anyTo (kp_miss P (kw_bI a) t) n = true then .inl (-9000000000000000000) else .inr (if gr = true then kx_mx (kp_max P (kw_bI a) t n) else Int64.ofInt (kp_sum P (kw_bI a) t n)))) n (by omega) (s0 := ((if gr = true then (-9000000000000000000 : Int64) else 0), (0 : Int32))) ⟨rfl, by cases gr <;> rfl, fun i hi => absurd hi (Nat.not_lt_zero _)⟩ (fun k s hk hp => by
      obtain ⟨v4, v6⟩ := s
      obtain ⟨e1, e2, hi⟩ := hp
      dsimp only at e1 e2 hi ⊢
      subst e1 e2
      unfold bX2_comeTogether_16
      rw [h.1]
      by_cases hkn : k < n
      · have bs := kp_sum_bd (S := kw_bI a) (at0 := t) hP k (by omega)
        have bm := kp_max_bd (S := kw_bI a) (at0 := t) hP k (by omega)
        have hext : kp_miss P (kw_bI a) t k = false → ∀ i, i < k + 1 → kp_miss P (kw_bI a) t i = false := fun q i hi' => by
          by_cases e : i = k
          · rw [e]; exact q
          · exact hi i (by omega)
        rw [if_neg (nI_ge hkn (by omega)), kw_dnI (by omega), kx_P_comes h hPb hkn h12 (by omega), Option.bind_some, kx_P_span h hkn h12 (by omega), Option.bind_some, Option.bind_some]
        simp only [kx_fl_0, kw_let_def, km_next]
        cases hS : kw_bI a k with
        | false =>
          left
          rw [kn_ff]
          refine ⟨hkn, _, rfl, rfl, ?_, hext (by unfold kp_miss; rw [hS]; rfl)⟩
          dsimp only
          rw [kp_max_s, kp_sum_s, hS, kn_ft, kn_ft]
        | true =>
          rw [kn_tf]
          cases hq : P k t with
          | none =>
            right
            rw [if_pos (show Option.isSome (none : Option Int) = false from rfl)]
            refine ⟨_, rfl, ?_⟩
            rw [kr_anyTo_t n k hkn (by unfold kp_miss; rw [hS, hq]; rfl), if_pos rfl]
          | some z =>
            left
            have hz := hP k hkn t z hq
            rw [if_neg (show ¬ Option.isSome (some z) = false by simp)]
            refine ⟨hkn, ?_⟩
            have hm : kp_miss P (kw_bI a) t k = false := by unfold kp_miss; rw [hS, hq]; rfl
            cases gr with
            | false =>
              rw [kn_ff, kn_ft]
              refine ⟨_, rfl, rfl, ?_, hext hm⟩
              dsimp only
              rw [kn_ft, kp_sum_s, if_pos hS, hq]
              exact kw_addL (by omega) (by omega) (by omega) (by omega)
            | true =>
              rw [kn_tf, kn_tt]
              refine ⟨_, rfl, rfl, ?_, hext hm⟩
              dsimp only
              rw [kn_tt, kp_max_s, if_pos hS, hq]
              have bz : kr_bd (some z) := fun y hy => by cases hy; omega
              have ez : (kx_enc (some z)).toInt = z := kx_enc_i bz
              simp only [Int64.lt_iff_toInt_lt, ez]
              cases hmx : kp_max P (kw_bI a) t k with
              | none =>
                rw [show (kx_mx none).toInt = -9000000000000000000 by decide, if_neg (by omega)]
                rfl
              | some y =>
                rw [hmx] at bm
                have ey : (kx_mx (some y)).toInt = y := km_toInt (bm y rfl).1 (bm y rfl).2
                rw [ey]
                show _ = kx_mx (if z ≤ y then some y else some z)
                by_cases q : z < y
                · rw [if_pos q, if_pos (by omega)]
                · rw [if_neg q]
                  by_cases q2 : z ≤ y
                  · rw [if_pos q2, show y = z by omega]; rfl
                  · rw [if_neg q2]; rfl
      · right
        obtain rfl : k = n := by omega
        rw [if_pos (nI_le (Nat.le_refl k) (by omega))]
        refine ⟨_, rfl, ?_⟩
        rw [kr_anyTo_f k hi, kn_ft])
    rw [hx, hq]
  have e0 : fX2_comeTogether a (nI t) (kx_fl gr) σ = jX2_comeTogether_11 a (nI t) (kx_fl gr) (if gr = true then (-9000000000000000000 : Int64) else 0) σ := by
    unfold fX2_comeTogether
    cases gr
    · rw [if_pos (by decide), if_neg (by decide)]
    · rw [if_neg (by decide), if_pos rfl]
  rw [e0]
  unfold jX2_comeTogether_11
  rw [key, Option.bind_some]
  unfold kp_ga
  cases hm : kr_anyTo (kp_miss P (kw_bI a) t) n with
  | true => rw [kn_tt, kn_tt]; rfl
  | false =>
    rw [kn_ft, kn_ft]
    cases gr with
    | false => rw [kn_ft, kn_ft]; rfl
    | true =>
      rw [kn_tt, kn_tt]
      obtain ⟨u, hu, hSu⟩ := hne
      have hsu : (P u t).isSome = true := by
        cases q : (P u t).isSome with
        | true => rfl
        | false =>
          rw [kr_anyTo_t n u hu (by unfold kp_miss; rw [hSu, q]; rfl)] at hm
          cases hm
      have := kp_max_some hSu hsu n hu
      cases hmx : kp_max P (kw_bI a) t n with
      | none => rw [hmx] at this; cases this
      | some y => rfl
theorem km_gather {σ : kw_M} {P : Nat → kr_D} {n t : Nat} {a : Int32} {gr : Bool} (h : km_P σ P n) (hP : kp_bt P n) (ht : t < n) (h12 : n ≤ 12) (hne : ∃ t, t < n ∧ kw_bI a t = true) : fX10_gather a (nI t) (kx_fl gr) σ = some (km_enc (kp_ga P (kw_bI a) gr n t)) := by
  have hPb := kp_bt_bd hP
  obtain ⟨x, hx, hq⟩ := kw_for (body := fun s => bX10_gather_9 a (nI t) (kx_fl gr) σ s.1 s.2.1 s.2.2) (fun k s => s.2.2 = nI k ∧ (if gr = true then s.1 = (match kp_max P (kw_bI a) t k with
      | none => 0
      | some x => Int64.ofInt x) ∧ s.2.1 = kx_fl (kp_max P (kw_bI a) t k).isSome else s.1 = Int64.ofInt (kp_sum P (kw_bI a) t k)) ∧ ∀ i, i < k → kp_miss P (kw_bI a) t i = false) (fun x => Sum.elim (fun z => some z) (fun z => some z) x = some (km_enc (kp_ga P (kw_bI a) gr n t))) n (by omega) (s0 := ((0 : Int64), (0 : Int32), (0 : Int32))) ⟨rfl, by cases gr; exact rfl; exact ⟨rfl, rfl⟩, fun i hi => absurd hi (Nat.not_lt_zero _)⟩ (fun k s hk hp => by
    obtain ⟨v4, v5, v6⟩ := s
    obtain ⟨e1, e2, hi⟩ := hp
    dsimp only at e1 e2 hi ⊢
    subst e1
    unfold bX10_gather_9 fX10_towns
    rw [h.1, Option.bind_some]
    by_cases hkn : k < n
    · have bs := kp_sum_bd (S := kw_bI a) (at0 := t) hP k (by omega)
      have bm := kp_max_bd (S := kw_bI a) (at0 := t) hP k (by omega)
      have hpk := h.2 k hkn t (by omega)
      have hext : kp_miss P (kw_bI a) t k = false → ∀ i, i < k + 1 → kp_miss P (kw_bI a) t i = false := fun q i hi' => by
        by_cases e : i = k
        · rw [e]; exact q
        · exact hi i (by omega)
      rw [if_neg (nI_ge hkn (by omega)), km_has (by omega), Option.bind_some]
      simp (disch := omega) only [kn_12, kn_mul, nI_add, kn_chk, kn_clamp, hpk, kx_fl_0, kw_let_def, km_next, km_enc_e (kr_row_bd (hPb k hkn) t)]
      cases hS : kw_bI a k with
      | false =>
        left
        rw [kn_ff]
        refine ⟨hkn, _, rfl, rfl, ?_, hext (by unfold kp_miss; rw [hS]; rfl)⟩
        dsimp only
        rw [kp_max_s, kp_sum_s, hS, kn_ft, kn_ft]
        exact e2
      | true =>
        rw [kn_tf]
        cases hq : P k t with
        | none =>
          right
          rw [if_pos rfl]
          refine ⟨_, rfl, ?_⟩
          unfold kp_ga
          rw [kr_anyTo_t n k hkn (by unfold kp_miss; rw [hS, hq]; rfl), if_pos rfl]
          rfl
        | some z =>
          left
          have hz := hP k hkn t z hq
          have bz : kr_bd (some z) := fun y hy => by cases hy; omega
          rw [if_neg (by simp)]
          refine ⟨hkn, ?_⟩
          have hm : kp_miss P (kw_bI a) t k = false := by unfold kp_miss; rw [hS, hq]; rfl
          cases gr with
          | false =>
            rw [kn_ft] at e2
            subst e2
            rw [kn_ff]
            refine ⟨_, rfl, rfl, ?_, hext hm⟩
            dsimp only
            rw [kn_ft, kp_sum_s, if_pos hS, hq]
            exact kw_addL (by omega) (by omega) (by omega) (by omega)
          | true =>
            rw [kn_tt] at e2
            obtain ⟨e2, e3⟩ := e2
            subst e3
            rw [kn_tf]
            simp only [kx_fl_0]
            cases hmx : kp_max P (kw_bI a) t k with
            | none =>
              rw [if_pos (show Option.isSome (none : Option Int) = false from rfl)]
              refine ⟨_, rfl, rfl, ?_, hext hm⟩
              dsimp only
              rw [if_pos trivial, kp_max_s, if_pos hS, hq, hmx]
              exact ⟨rfl, rfl⟩
            | some y =>
              rw [hmx] at bm e2
              subst e2
              rw [if_neg (show ¬ Option.isSome (some y) = false by simp)]
              dsimp only
              simp only [Int64.le_iff_toInt_le, km_enc_i bz, show (Int64.ofInt y).toInt = y from km_toInt (bm y rfl).1 (bm y rfl).2]
              by_cases q : y ≤ z
              · rw [if_pos q]
                refine ⟨_, rfl, rfl, ?_, hext hm⟩
                dsimp only
                rw [if_pos trivial, kp_max_s, if_pos hS, hq, hmx]
                show km_enc (some z) = (match (if z ≤ y then some y else some z) with
                  | none => 0
                  | some x => Int64.ofInt x) ∧ (1 : Int32) = kx_fl (if z ≤ y then some y else some z).isSome
                by_cases q2 : z ≤ y
                · rw [if_pos q2, show y = z by omega]; exact ⟨rfl, rfl⟩
                · rw [if_neg q2]; exact ⟨rfl, rfl⟩
              · rw [if_neg q]
                refine ⟨_, rfl, rfl, ?_, hext hm⟩
                dsimp only
                rw [if_pos trivial, kp_max_s, if_pos hS, hq, hmx]
                show Int64.ofInt y = (match (if z ≤ y then some y else some z) with
                  | none => 0
                  | some x => Int64.ofInt x) ∧ (1 : Int32) = kx_fl (if z ≤ y then some y else some z).isSome
                rw [if_pos (by omega)]
                exact ⟨rfl, rfl⟩
    · right
      obtain rfl : k = n := by omega
      rw [if_pos (nI_le (Nat.le_refl k) (by omega))]
      refine ⟨_, rfl, ?_⟩
      unfold kp_ga
      have hm := kr_anyTo_f k hi
      rw [hm, kn_ft]
      cases gr with
      | false =>
        rw [kn_ft] at e2
        subst e2
        rw [kn_ft]
        rfl
      | true =>
        rw [kn_tt] at e2
        rw [kn_tt]
        obtain ⟨u, hu, hSu⟩ := hne
        have hsu : (P u t).isSome = true := by
          cases q : (P u t).isSome with
          | true => rfl
          | false =>
            have := hi u hu
            unfold kp_miss at this
            rw [hSu, q] at this
            cases this
        have := kp_max_some hSu hsu k hu
        cases hmx : kp_max P (kw_bI a) t k with
        | none => rw [hmx] at this; cases this
        | some y =>
          rw [hmx] at e2
          rw [e2.1]
          rfl)
  unfold fX10_gather
  rw [hx, Option.bind_some]
  exact hq
