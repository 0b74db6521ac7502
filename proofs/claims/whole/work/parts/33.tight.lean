/-! Slack, tight roads, parents: both sides. -/
def kr_slack (g : kr_G) (d : kr_D) (r : Nat) : Option Int := match d (g.2.1 r), d (g.2.2.1 r) with
  | some a, some b => some (a + g.2.2.2.1 r - b)
  | _, _ => none
def kr_tight (g : kr_G) (d : kr_D) (r : Nat) : Bool := g.2.2.2.2 r && decide (kr_slack g d r = some 0)
/-- the lowest below k at which p holds -/
def kr_low (p : Nat → Bool) : Nat → Option Nat
  | 0 => none
  | k + 1 => match kr_low p k with
    | some r => some r
    | none => if p k = true then some k else none
theorem kr_low_n {p : Nat → Bool} : ∀ k : Nat, (∀ r, r < k → p r = false) → kr_low p k = none
  | 0, _ => rfl
  | k + 1, h => by
    unfold kr_low
    rw [kr_low_n k (fun r hr => h r (by omega))]
    dsimp only
    rw [h k (by omega), if_neg (by decide)]
theorem kr_low_s {p : Nat → Bool} : ∀ k r : Nat, r < k → p r = true → (∀ q, q < r → p q = false) → kr_low p k = some r
  | 0, _, h, _, _ => absurd h (Nat.not_lt_zero _)
  | k + 1, r, hr, hp, hq => by
    unfold kr_low
    by_cases h : r < k
    · rw [kr_low_s k r h hp hq]
    · obtain rfl : r = k := by omega
      rw [kr_low_n r hq]
      dsimp only
      rw [if_pos hp]
theorem kr_low_c (p : Nat → Bool) (k : Nat) : (kr_low p k = none ∧ ∀ r, r < k → p r = false) ∨ ∃ r, kr_low p k = some r ∧ r < k ∧ p r = true ∧ ∀ q, q < r → p q = false := by
  obtain ⟨e, h1, h2, h3⟩ := kw_first p k
  rcases h3 with h3 | ⟨h3, h4⟩
  · subst h3
    exact Or.inl ⟨kr_low_n e h2, h2⟩
  · exact Or.inr ⟨e, kr_low_s k e h3 h4 h2, h3, h4, h2⟩
theorem kr_low_from {p : Nat → Bool} {m a : Nat} (ha : a < m) : kr_low (fun r => decide (a ≤ r) && p r) m = if p a = true then some a else kr_low (fun r => decide (a + 1 ≤ r) && p r) m := by
  by_cases hp : p a = true
  · rw [if_pos hp]
    refine kr_low_s m a ha (by simp [hp]) (fun q hq => ?_)
    rw [decide_eq_false (by omega), Bool.false_and]
  · rw [if_neg hp]
    have hp' : p a = false := by simpa using hp
    have e : (fun r => decide (a ≤ r) && p r) = (fun r => decide (a + 1 ≤ r) && p r) := by
      funext r
      by_cases hr : r = a
      · subst hr
        rw [hp', Bool.and_false, Bool.and_false]
      · by_cases h2 : a ≤ r
        · rw [decide_eq_true h2, decide_eq_true (by omega)]
        · rw [decide_eq_false h2, decide_eq_false (by omega)]
    rw [e]
def kx_pe (o : Option Nat) : Int32 := match o with
  | none => -1
  | some r => nI r
def kr_par (g : kr_G) (d : kr_D) (t : Nat) : Option Nat := kr_low (fun r => kr_tight g d r && decide (g.2.2.1 r = t)) g.1
/-- how many below k -/
def kr_cntb (p : Nat → Bool) : Nat → Nat
  | 0 => 0
  | k + 1 => if p k = true then kr_cntb p k + 1 else kr_cntb p k
theorem kr_cntb_le (p : Nat → Bool) : ∀ k : Nat, kr_cntb p k ≤ k
  | 0 => Nat.le_refl _
  | k + 1 => by
    have := kr_cntb_le p k
    unfold kr_cntb
    split <;> omega
theorem km_of0 {σ : kw_M} {r : Nat} (hr : r < 36) : fX10_of (nI r) 0 σ = some (σ.1 1 (28 + 4 * r + 0)) := km_of (w := 0) hr (by decide)
theorem km_of1 {σ : kw_M} {r : Nat} (hr : r < 36) : fX10_of (nI r) 1 σ = some (σ.1 1 (28 + 4 * r + 1)) := km_of (w := 1) hr (by decide)
theorem km_of2 {σ : kw_M} {r : Nat} (hr : r < 36) : fX10_of (nI r) 2 σ = some (σ.1 1 (28 + 4 * r + 2)) := km_of (w := 2) hr (by decide)
theorem km_of3 {σ : kw_M} {r : Nat} (hr : r < 36) : fX10_of (nI r) 3 σ = some (σ.1 1 (28 + 4 * r + 3)) := km_of (w := 3) hr (by decide)
theorem kr_sub {a b : Int} {x : Int32} (ha : kr_bd (some a)) (hb : kr_bd (some b)) : (Int64.ofInt a + x.toInt64) - Int64.ofInt b = Int64.ofInt (a + x.toInt - b) := by
  have h1 := ha a rfl
  have h2 := hb b rfl
  have h3 := Int32.le_toInt x
  have h4 := Int32.toInt_lt x
  rw [km_add h1.1 h1.2]
  have e1 : (Int64.ofInt (a + x.toInt)).toInt = a + x.toInt := Int64.toInt_ofInt_of_le (by omega) (by omega)
  have e2 : (Int64.ofInt b).toInt = b := km_toInt h2.1 h2.2
  apply Int64.toInt_inj.mp
  rw [Jvm.Kit.i64_sub (by rw [e1, e2]; omega) (by rw [e1, e2]; omega), e1, e2, Int64.toInt_ofInt_of_le (by omega) (by omega)]
/-- rows whose lengths are written in so many digits -/
def kr_row (d : kr_D) : Prop := kr_in d 900000000000000
theorem kr_row_bd {d : kr_D} (h : kr_row d) (t : Nat) : kr_bd (d t) := kr_bd_in h (by decide) t
theorem kr_slack_bd {g : kr_G} {d : kr_D} {r : Nat} (h : kr_row d) (hl : -1000000000 ≤ g.2.2.2.1 r ∧ g.2.2.2.1 r ≤ 1000000000) : kr_bd (kr_slack g d r) := by
  intro z hz
  unfold kr_slack at hz
  cases ha : d (g.2.1 r) with
  | none => rw [ha] at hz; cases hz
  | some a =>
    cases hb : d (g.2.2.1 r) with
    | none => rw [ha, hb] at hz; cases hz
    | some b =>
      rw [ha, hb] at hz
      cases hz
      have h1 := h _ _ ha
      have h2 := h _ _ hb
      omega
theorem km_slack {σ : kw_M} {d : kr_D} {m r : Nat} (hw : km_wf (σ.1 1) m) (hr : r < m) (hrow : ∀ t, t < 12 → σ.2 3 t = km_enc (d t)) (hd : kr_row d) : fX10_slackOf (nI r) σ = some (km_enc (kr_slack (km_gr (σ.1 1) m (-1)) d r)) := by
  have hm := hw.1
  obtain ⟨hf, ht, hl1, hl2⟩ := hw.2.2 r hr
  have hf' := kw_in_lt hf
  have ht' := kw_in_lt ht
  unfold fX10_slackOf
  simp (disch := omega) only [km_of0, km_of1, km_of2, Option.bind_some, kw_chk_t hf, kw_chk_t ht, hrow, km_enc_e (kr_row_bd hd _)]
  unfold kr_slack
  rw [show (km_gr (σ.1 1) m (-1)).2.1 r = (σ.1 1 (28 + 4 * r + 0)).toNatClampNeg from rfl, show (km_gr (σ.1 1) m (-1)).2.2.1 r = (σ.1 1 (28 + 4 * r + 1)).toNatClampNeg from rfl, show (km_gr (σ.1 1) m (-1)).2.2.2.1 r = (σ.1 1 (28 + 4 * r + 2)).toInt from rfl]
  cases ha : d (σ.1 1 (28 + 4 * r + 0)).toNatClampNeg with
  | none => rw [if_pos rfl]; rfl
  | some a =>
    rw [if_neg (by simp)]
    cases hb : d (σ.1 1 (28 + 4 * r + 1)).toNatClampNeg with
    | none => rw [if_pos rfl]; rfl
    | some b =>
      rw [if_neg (by simp)]
      exact congrArg some (kr_sub (by rw [← ha]; exact kr_row_bd hd _) (by rw [← hb]; exact kr_row_bd hd _))
theorem kr_enc0m {o : Option Int} (h : kr_bd o) : (km_enc o = 0) = (o = some 0) := by
  have e : (0 : Int64) = km_enc (some 0) := rfl
  rw [e, km_enc_eq h (fun z hz => by cases hz; omega)]
theorem kr_enc0x {o : Option Int} (h : kr_bd o) : (kx_enc o = 0) = (o = some 0) := by
  have e : (0 : Int64) = kx_enc (some 0) := rfl
  rw [e, kx_enc_eq h (fun z hz => by cases hz; omega)]
theorem kr_tight_m {F : Nat → Int32} {m r : Nat} {d : kr_D} (hr : r < m) (hm : m ≤ 36) : kr_tight (km_gr F m (-1)) d r = (decide (F (28 + 4 * r + 3) = 1) && decide (kr_slack (km_gr F m (-1)) d r = some 0)) := by
  unfold kr_tight
  refine congrArg (fun z => z && _) ?_
  show decide (F (28 + 4 * r + 3) = 1 ∧ ¬ nI r = -1) = _
  rw [decide_eq_decide]
  exact ⟨fun q => q.1, fun q => ⟨q, kb_neg1 (by omega)⟩⟩
theorem km_tight {σ : kw_M} {d : kr_D} {m r : Nat} (hw : km_wf (σ.1 1) m) (hr : r < m) (hrow : ∀ t, t < 12 → σ.2 3 t = km_enc (d t)) (hd : kr_row d) : fX10_isTight (nI r) σ = some (kx_fl (kr_tight (km_gr (σ.1 1) m (-1)) d r)) := by
  have hm := hw.1
  unfold fX10_isTight
  rw [km_isOpen (by omega), Option.bind_some, kr_tight_m hr hm]
  by_cases ho : σ.1 1 (28 + 4 * r + 3) = 1
  · rw [if_pos ho, if_neg (by decide), km_slack hw hr hrow hd, Option.bind_some, decide_eq_true ho, Bool.true_and]
    simp only [kr_enc0m (kr_slack_bd (g := km_gr (σ.1 1) m (-1)) hd (km_wf_len hw (-1) r hr))]
    by_cases hs : kr_slack (km_gr (σ.1 1) m (-1)) d r = some 0
    · rw [if_pos hs, decide_eq_true hs]; rfl
    · rw [if_neg hs, decide_eq_false hs]; rfl
  · rw [if_neg ho, if_pos rfl, decide_eq_false ho]; rfl
theorem kx_slack {σ : kw_M} {F : Nat → Int32} {d : kr_D} {m r : Nat} (hrd : kx_rd σ 12 F m) (hw : km_wf F m) (hr : r < m) (hrow : ∀ t, t < 12 → σ.2 16 t = kx_enc (d t)) (hd : kr_row d) : fX7_slackOf (nI r) σ = some (kx_enc (kr_slack (km_gr F m (-1)) d r)) := by
  have hm := hw.1
  obtain ⟨a, b, c⟩ := hrd.2.2.1 r hr
  have ea : σ.1 18 r = F (28 + 4 * r + 0) := a
  have eb : σ.1 19 r = F (28 + 4 * r + 1) := b
  have ec : σ.1 20 r = F (28 + 4 * r + 2) := c
  obtain ⟨hf, ht, hl1, hl2⟩ := hw.2.2 r hr
  have hf' := kw_in_lt hf
  have ht' := kw_in_lt ht
  unfold fX7_slackOf
  simp (disch := omega) only [kn_chk, kn_clamp, ea, eb, ec, kw_chk_t hf, kw_chk_t ht, kw_let_def, hrow, kx_enc_e (kr_row_bd hd _)]
  unfold kr_slack
  rw [show (km_gr F m (-1)).2.1 r = (F (28 + 4 * r + 0)).toNatClampNeg from rfl, show (km_gr F m (-1)).2.2.1 r = (F (28 + 4 * r + 1)).toNatClampNeg from rfl, show (km_gr F m (-1)).2.2.2.1 r = (F (28 + 4 * r + 2)).toInt from rfl]
  cases ha : d (F (28 + 4 * r + 0)).toNatClampNeg with
  | none => rw [if_pos rfl]; rfl
  | some a =>
    rw [if_neg (by simp)]
    cases hb : d (F (28 + 4 * r + 1)).toNatClampNeg with
    | none => rw [if_pos rfl]; rfl
    | some b =>
      rw [if_neg (by simp)]
      exact congrArg some (kr_sub (by rw [← ha]; exact kr_row_bd hd _) (by rw [← hb]; exact kr_row_bd hd _))
theorem kx_tight {σ : kw_M} {F : Nat → Int32} {d : kr_D} {m r : Nat} (hrd : kx_rd σ 12 F m) (hw : km_wf F m) (hr : r < m) (hrow : ∀ t, t < 12 → σ.2 16 t = kx_enc (d t)) (hd : kr_row d) : fX7_isTight (nI r) σ = some (kx_fl (kr_tight (km_gr F m (-1)) d r)) := by
  have hm := hw.1
  unfold fX7_isTight
  rw [kx_isOpen hm (hrd.2.1.trans hw.2.1) hr, Option.bind_some, kr_tight_m hr hm]
  simp only [kx_rd_op hrd hm hr]
  by_cases ho : F (28 + 4 * r + 3) = 1
  · rw [if_pos ho, if_neg (by decide), kx_slack hrd hw hr hrow hd, Option.bind_some, decide_eq_true ho, Bool.true_and]
    simp only [kr_enc0x (kr_slack_bd (g := km_gr F m (-1)) hd (km_wf_len hw (-1) r hr))]
    by_cases hs : kr_slack (km_gr F m (-1)) d r = some 0
    · rw [if_pos hs, decide_eq_true hs]; rfl
    · rw [if_neg hs, decide_eq_false hs]; rfl
  · rw [if_neg ho, if_pos rfl, decide_eq_false ho]; rfl
