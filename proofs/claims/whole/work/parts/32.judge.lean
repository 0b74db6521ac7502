/-! A change is judged: rings, and what is too far; the class aside, the reference in its file. -/
def kb_wf (F : Nat → Int32) (n m : Nat) : Prop := F 0 = nI n ∧ 2 ≤ n ∧ n ≤ 12 ∧ km_wf F m ∧ ∀ r, r < m → (F (28 + 4 * r + 0)).toNatClampNeg < n ∧ (F (28 + 4 * r + 1)).toNatClampNeg < n ∧ (F (28 + 4 * r + 3) = 0 ∨ F (28 + 4 * r + 3) = 1)
theorem kb_tn {F : Nat → Int32} {n m : Nat} (h : kb_wf F n m) (but : Int32) : kr_tn (km_gr F m but) n := fun r hr => ⟨(h.2.2.2.2 r hr).1, (h.2.2.2.2 r hr).2.1⟩
theorem kb_neg1 {q : Nat} (h : q < 2147483648) : ¬ nI q = -1 := fun e => by
  have h1 := congrArg Int32.toInt e
  rw [nI_toInt h, show (-1 : Int32).toInt = -1 by decide] at h1
  omega
theorem kb_wo {F : Nat → Int32} {m r : Nat} (hm : m ≤ 36) (hr : r < m) : kr_wo (km_gr F m (-1)) (km_gr F m (nI r)) r := by
  refine ⟨rfl, fun q hq => ⟨rfl, rfl, rfl, ?_⟩⟩
  have hq' : q < m := hq
  show decide (F (28 + 4 * q + 3) = 1 ∧ ¬ nI q = nI r) = true ↔ decide (F (28 + 4 * q + 3) = 1 ∧ ¬ nI q = -1) = true ∧ q ≠ r
  rw [decide_eq_true_eq, decide_eq_true_eq, nI_eq (by omega) (by omega)]
  exact ⟨fun a => ⟨⟨a.1, kb_neg1 (by omega)⟩, a.2⟩, fun a => ⟨a.1.1, a.2⟩⟩
/-- whether road r makes a ring that is not longer than nothing -/
def kb_ring (F : Nat → Int32) (n m r : Nat) : Bool := match kr_bf (km_gr F m (nI r)) (kr_one ((F (28 + 4 * r + 1)).toNatClampNeg)) (n - 1) ((F (28 + 4 * r + 0)).toNatClampNeg) with
  | none => false
  | some z => decide (z + (F (28 + 4 * r + 2)).toInt ≤ 0)
theorem kb_ring_fl (F : Nat → Int32) (n m r : Nat) : (match kr_bf (km_gr F m (nI r)) (kr_one ((F (28 + 4 * r + 1)).toNatClampNeg)) (n - 1) ((F (28 + 4 * r + 0)).toNatClampNeg) with
    | none => (0 : Int32)
    | some z => if 0 < z + (F (28 + 4 * r + 2)).toInt then 0 else 1) = kx_fl (kb_ring F n m r) := by
  unfold kb_ring
  cases kr_bf (km_gr F m (nI r)) (kr_one ((F (28 + 4 * r + 1)).toNatClampNeg)) (n - 1) ((F (28 + 4 * r + 0)).toNatClampNeg) with
  | none => rfl
  | some z =>
    dsimp only
    by_cases h : 0 < z + (F (28 + 4 * r + 2)).toInt
    · rw [if_pos h, decide_eq_false (by omega)]; rfl
    · rw [if_neg h, decide_eq_true (by omega)]; rfl
theorem km_isRing' {σ : kw_M} {m n r : Nat} (hw : km_wf (σ.1 1) m) (hn : σ.1 1 0 = nI n) (h1 : 1 ≤ n) (h12 : n ≤ 12) (hr : r < m) : ∃ τ, fX10_isRing (nI r) σ = some (kx_fl (kb_ring (σ.1 1) n m r), τ) ∧ τ.1 = σ.1 ∧ ∀ c, c ≠ 2 → τ.2 c = σ.2 c := by
  refine ⟨km_row σ (kr_bf (km_gr (σ.1 1) m (nI r)) (kr_one ((σ.1 1 (28 + 4 * r + 1)).toNatClampNeg)) (n - 1)), (km_isRing hw hn h1 h12 hr).trans ?_, rfl, fun c hc => ?_⟩
  · exact congrArg (fun z => some (z, km_row σ (kr_bf (km_gr (σ.1 1) m (nI r)) (kr_one ((σ.1 1 (28 + 4 * r + 1)).toNatClampNeg)) (n - 1)))) (kb_ring_fl (σ.1 1) n m r)
  · exact kw_rl_o hc
/-- a road that is open and makes no bad ring: all is good with it -/
theorem kb_good_in {F : Nat → Int32} {n m r : Nat} (hw : kb_wf F n m) (hr : r < m) (hg : kr_good (km_gr F m (nI r))) (h : kb_ring F n m r = false) : kr_good (km_gr F m (-1)) := by
  refine kr_ring_ok (n := n) (kb_wo hw.2.2.2.1.1 hr) hg (kb_tn hw _) hr (fun z hz => ?_)
  have hz' : kr_bf (km_gr F m (nI r)) (kr_one ((F (28 + 4 * r + 1)).toNatClampNeg)) (n - 1) ((F (28 + 4 * r + 0)).toNatClampNeg) = some z := hz
  unfold kb_ring at h
  rw [hz'] at h
  have h2 := of_decide_eq_false h
  show 0 < z + (F (28 + 4 * r + 2)).toInt
  omega
theorem kb_good_cl {F : Nat → Int32} {m r : Nat} (hm : m ≤ 36) (hr : r < m) (hg : kr_good (km_gr F m (nI r))) (h : ¬ F (28 + 4 * r + 3) = 1) : kr_good (km_gr F m (-1)) := by
  refine kr_same_good (g := km_gr F m (nI r)) ⟨rfl, fun q hq => ⟨rfl, rfl, rfl, ?_⟩⟩ hg
  have hq' : q < m := hq
  show decide (F (28 + 4 * q + 3) = 1 ∧ ¬ nI q = nI r) = decide (F (28 + 4 * q + 3) = 1 ∧ ¬ nI q = -1)
  rw [decide_eq_decide, nI_eq (by omega) (by omega)]
  exact ⟨fun a => ⟨a.1, kb_neg1 (by omega)⟩, fun a => ⟨a.1, fun e => h (e ▸ a.1)⟩⟩
/-- the road at hand, and whether it makes a bad ring -/
def kb_hand (F : Nat → Int32) (n m : Nat) (v : Int32) (ring : Bool) : Prop := (v = -1 ∧ ring = false ∧ kr_good (km_gr F m (-1))) ∨ ∃ r, r < m ∧ v = nI r ∧ kr_good (km_gr F m (nI r)) ∧ ring = (decide (F (28 + 4 * r + 3) = 1) && kb_ring F n m r)
theorem kb_hand_good {F : Nat → Int32} {n m : Nat} {v : Int32} (hw : kb_wf F n m) (h : kb_hand F n m v false) : kr_good (km_gr F m (-1)) := by
  rcases h with ⟨_, _, h⟩ | ⟨r, hr, _, hg, h⟩
  · exact h
  · by_cases ho : F (28 + 4 * r + 3) = 1
    · rw [decide_eq_true ho, Bool.true_and] at h
      exact kb_good_in hw hr hg h.symm
    · exact kb_good_cl hw.2.2.2.1.1 hr hg ho
theorem kx_bad' {σ : kw_M} {F : Nat → Int32} {n m : Nat} {v : Int32} {ring : Bool} (hrd : kx_rd σ 10 F m) (hw : kb_wf F n m) (h : kb_hand F n m v ring) : ∃ τ, fX4_makesBadRing v σ = some (kx_fl ring, τ) ∧ τ.1 = σ.1 ∧ ∀ c, c ≠ 41 → τ.2 c = σ.2 c := by
  have hm := hw.2.2.2.1.1
  have h1 : σ.1 10 1 = nI m := hrd.2.1.trans hw.2.2.2.1.2.1
  rcases h with ⟨rfl, rfl, hg⟩ | ⟨r, hr, rfl, hg, rfl⟩
  · exact ⟨σ, kx_bad_none h1, rfl, fun _ _ => rfl⟩
  · by_cases ho : F (28 + 4 * r + 3) = 1
    · have ho' : kx_op (σ.2 10 2) r := by rw [kx_rd_op hrd hm hr]; exact ho
      rw [decide_eq_true ho, Bool.true_and]
      refine ⟨kx_row σ 41 (kr_bf (km_gr F m (nI r)) (kr_one (F (28 + 4 * r + 1)).toNatClampNeg) (n - 1)), (kx_bad (kx_rd_wf hrd hw.2.2.2.1) (hrd.1.trans hw.1) hw.2.2.1 hr ho').trans ?_, rfl, fun c hc => kw_rl_o hc⟩
      obtain ⟨a, b, c⟩ := hrd.2.2.1 r hr
      have ea : σ.1 32 r = F (28 + 4 * r + 0) := a
      have eb : σ.1 33 r = F (28 + 4 * r + 1) := b
      have ec : σ.1 34 r = F (28 + 4 * r + 2) := c
      have hs := kx_rd_same hrd hm (nI r)
      have heq := kr_settle_finds (o := (F (28 + 4 * r + 1)).toNatClampNeg) hs (kr_same_good (kr_same_symm hs) hg) (n := n) (fun q hq => by
        obtain ⟨x1, x2, _, _⟩ := hs.2 q hq
        rw [x1, x2]
        exact kb_tn hw (nI r) q hq) (hw.2.2.2.2 r hr).2.1
      rw [ea, eb, ec, heq]
      exact congrArg (fun z => some (z, kx_row σ 41 (kr_bf (km_gr F m (nI r)) (kr_one (F (28 + 4 * r + 1)).toNatClampNeg) (n - 1)))) (kb_ring_fl F n m r)
    · rw [decide_eq_false ho, Bool.false_and]
      have ho' : ¬ kx_op (σ.2 10 2) r := by rw [kx_rd_op hrd hm hr]; exact ho
      exact ⟨σ, kx_bad_closed hm h1 hr ho', rfl, fun _ _ => rfl⟩
/-- the row from a town in the class is the reference's -/
theorem kx_settle' {σ : kw_M} {F : Nat → Int32} {R c3 n m o : Nat} (hc : R ≠ c3) (hrd : kx_rd σ R F m) (hw : kb_wf F n m) {but : Int32} (hg : kr_good (km_gr F m but)) (ho : o < n) : fX4_settle R c3 (nI o) but σ = some (kx_row σ c3 (kr_bf (km_gr F m but) (kr_one o) (n - 1))) := by
  have h12 := hw.2.2.1
  rw [kx_settle hc (kx_rd_wf hrd hw.2.2.2.1) (hrd.1.trans hw.1) h12 (by omega)]
  have hs := kx_rd_same hrd hw.2.2.2.1.1 but
  rw [kr_settle_finds (o := o) hs (kr_same_good (kr_same_symm hs) hg) (n := n) (fun q hq => by
    obtain ⟨x1, x2, _, _⟩ := hs.2 q hq
    rw [x1, x2]
    exact kb_tn hw but q hq) ho]
def kb_judge (F : Nat → Int32) (n m o : Nat) (ring : Bool) : Int32 := if ring = true then -3 else if kr_anyTo (kr_bad (kb_D F n m o)) n = true then -4 else 0
theorem kx_judge {σ : kw_M} {F : Nat → Int32} {n m o : Nat} {v : Int32} {ring : Bool} (hrd : kx_rd σ 10 F m) (hw : kb_wf F n m) (h : kb_hand F n m v ring) (ho : o < n) : ∃ τ, fX9_judgeAside v (nI o) σ = some (kb_judge F n m o ring, τ) ∧ τ.1 = σ.1 ∧ (∀ c, c ≠ 41 → c ≠ 11 → τ.2 c = σ.2 c) ∧ (ring = false → ∀ t, t < 12 → τ.2 11 t = kx_enc (kb_D F n m o t)) := by
  obtain ⟨τ, e1, e2, e3⟩ := kx_bad' hrd hw h
  unfold fX9_judgeAside kb_judge
  rw [e1, Option.bind_some]
  cases ring with
  | true =>
    rw [if_neg (show ¬ kx_fl true = 0 by decide), if_pos rfl]
    exact ⟨τ, rfl, e2, fun c hc _ => e3 c hc, fun q => by cases q⟩
  | false =>
    have hg := kb_hand_good hw h
    rw [if_pos (by rfl)]
    have hrd' : kx_rd τ 10 F m := kx_rd_fr hrd (by rw [e2]) (by rw [e2]) (by rw [e2]) (by rw [e2]) (e3 10 (by decide))
    dsimp only
    rw [kx_settle' (by decide) hrd' hw hg ho, Option.bind_some]
    have hrow : ∀ t, t < 12 → (kx_row τ 11 (kb_D F n m o)).2 11 t = kx_enc (kb_D F n m o t) := fun t ht => kx_row_at ht
    have hai := kx_allInts (σ := kx_row τ 11 (kb_D F n m o)) hrow (hrd'.1.trans hw.1) hw.2.2.1 (kb_D_in hw.2.2.2.1 hw.2.2.1)
    have hai' : fX4_allInts (kx_row τ 11 (kr_bf (km_gr F m (-1)) (kr_one o) (n - 1))) = some (kx_fl (!kr_anyTo (kr_bad (kb_D F n m o)) n)) := hai
    rw [hai', Option.bind_some]
    rw [if_neg (show ¬ false = true by decide)]
    refine ⟨kx_row τ 11 (kb_D F n m o), ?_, e2, fun c h41 h11 => ?_, fun _ => hrow⟩
    · cases kr_anyTo (kr_bad (kb_D F n m o)) n
      · rw [if_neg (show ¬ kx_fl (!false) = 0 by decide), if_neg (by decide)]; rfl
      · rw [if_pos (show kx_fl (!true) = 0 by decide), if_pos rfl]; rfl
    · rw [kx_row_o h11, e3 c h41]
