/-! Which cells the orders leave as they are: those of the texts that were read. -/
def kq {β : Type} (Q : β → Prop) (o : Option β) : Prop := ∀ r, o = some r → Q r
theorem kq_some {β : Type} {Q : β → Prop} {x : β} (h : Q x) : kq Q (some x) := fun r hr => by
  cases hr
  exact h
theorem kq_letV {α β : Type} {Q : β → Prop} {a : α} {f : α → Option β} (h : ∀ x, kq Q (f x)) : kq Q (kw_let a f) := h a
theorem kq_chk {β : Type} {Q : β → Prop} {c : Prop} [Decidable c] {b : Option β} (h : kq Q b) : kq Q (kw_chk c b) := fun r hr => h r (kw_chk_e hr).2
theorem kq_ite {β : Type} {Q : β → Prop} {c : Prop} [Decidable c] {a b : Option β} (h1 : kq Q a) (h2 : kq Q b) : kq Q (if c then a else b) := by
  by_cases hc : c
  · rw [if_pos hc]; exact h1
  · rw [if_neg hc]; exact h2
theorem kq_bind {α β : Type} {P : α → Prop} {Q : β → Prop} {o : Option α} {f : α → Option β} (h1 : kq P o) (h2 : ∀ x, P x → kq Q (f x)) : kq Q (o.bind f) := fun r hr => by
  obtain ⟨x, e1, e2⟩ := kw_bind_e hr
  exact h2 x (h1 x e1) r e2
theorem kq_bindV {α β : Type} {Q : β → Prop} {o : Option α} {f : α → Option β} (h2 : ∀ x, kq Q (f x)) : kq Q (o.bind f) := fun r hr => by
  obtain ⟨x, e1, e2⟩ := kw_bind_e hr
  exact h2 x r e2
theorem kq_loop {S X : Type} {P : S → Prop} {K : X → Prop} {body : S → Option (S ⊕ X)} (hb : ∀ s, P s → kq (fun o => Sum.elim P K o) (body s)) : ∀ (n : Nat) (s : S), P s → kq K (kw_loop body n s)
  | 0, s, _ => fun r hr => by cases hr
  | n + 1, s, hs => fun r hr => by
    obtain ⟨o, e1, e2⟩ := kw_bind_e hr
    have h1 := hb s hs o e1
    cases o with
    | inl t => exact kq_loop hb n t h1 r e2
    | inr x =>
      cases e2
      exact h1
def kqX (σ0 σ : kw_M) : Prop := σ.1 4 = σ0.1 4 ∧ σ.1 36 = σ0.1 36 ∧ σ.1 37 = σ0.1 37
def kqM (σ0 σ : kw_M) : Prop := σ.1 0 = σ0.1 0 ∧ σ.1 7 = σ0.1 7 ∧ σ.2 6 = σ0.2 6
theorem kqX_si {σ0 σ : kw_M} {c k : Nat} {x : Int32} (h : kqX σ0 σ) (h1 : 4 ≠ c) (h2 : 36 ≠ c) (h3 : 37 ≠ c) : kqX σ0 (kw_si σ c k x) := ⟨(kw_si_o h1).trans h.1, (kw_si_o h2).trans h.2.1, (kw_si_o h3).trans h.2.2⟩
theorem kqX_ri {σ0 σ : kw_M} {c : Nat} {f : Nat → Int32} (h : kqX σ0 σ) (h1 : 4 ≠ c) (h2 : 36 ≠ c) (h3 : 37 ≠ c) : kqX σ0 (kw_ri σ c f) := ⟨(kw_ri_o h1).trans h.1, (kw_ri_o h2).trans h.2.1, (kw_ri_o h3).trans h.2.2⟩
theorem kqX_sl {σ0 σ : kw_M} {c k : Nat} {x : Int64} (h : kqX σ0 σ) : kqX σ0 (kw_sl σ c k x) := h
theorem kqX_rl {σ0 σ : kw_M} {c : Nat} {f : Nat → Int64} (h : kqX σ0 σ) : kqX σ0 (kw_rl σ c f) := h
theorem kqM_si {σ0 σ : kw_M} {c k : Nat} {x : Int32} (h : kqM σ0 σ) (h1 : 0 ≠ c) (h2 : 7 ≠ c) : kqM σ0 (kw_si σ c k x) := ⟨(kw_si_o h1).trans h.1, (kw_si_o h2).trans h.2.1, h.2.2⟩
theorem kqM_ri {σ0 σ : kw_M} {c : Nat} {f : Nat → Int32} (h : kqM σ0 σ) (h1 : 0 ≠ c) (h2 : 7 ≠ c) : kqM σ0 (kw_ri σ c f) := ⟨(kw_ri_o h1).trans h.1, (kw_ri_o h2).trans h.2.1, h.2.2⟩
theorem kqM_sl {σ0 σ : kw_M} {c k : Nat} {x : Int64} (h : kqM σ0 σ) (h1 : 6 ≠ c) : kqM σ0 (kw_sl σ c k x) := ⟨h.1, h.2.1, (kw_sl_o h1).trans h.2.2⟩
theorem kqM_rl {σ0 σ : kw_M} {c : Nat} {f : Nat → Int64} (h : kqM σ0 σ) (h1 : 6 ≠ c) : kqM σ0 (kw_rl σ c f) := ⟨h.1, h.2.1, (kw_rl_o h1).trans h.2.2⟩
theorem kqX_let {β : Type} {Q : β → Prop} {σ0 a : kw_M} {f : kw_M → Option β} (h1 : kqX σ0 a) (h2 : ∀ s, kqX σ0 s → kq Q (f s)) : kq Q (kw_let a f) := h2 a h1
theorem kqM_let {β : Type} {Q : β → Prop} {σ0 a : kw_M} {f : kw_M → Option β} (h1 : kqM σ0 a) (h2 : ∀ s, kqM σ0 s → kq Q (f s)) : kq Q (kw_let a f) := h2 a h1
theorem kqX_fX4_addRoad {σ0 σ : kw_M} {a1 : Int32} {a2 : Int32} {a3 : Int32} (h : kqX σ0 σ) : kq (fun r => kqX σ0 r.2) (fX4_addRoad a1 a2 a3 σ) := by
  unfold fX4_addRoad
  refine kq_ite ?_ ?_
  · refine kq_chk ?_
    refine kqX_let (kqX_si h (by decide) (by decide) (by decide)) (fun s3 hs3 => ?_)
    refine kq_chk ?_
    refine kqX_let (kqX_si hs3 (by decide) (by decide) (by decide)) (fun s5 hs5 => ?_)
    refine kq_chk ?_
    refine kqX_let (kqX_si hs5 (by decide) (by decide) (by decide)) (fun s7 hs7 => ?_)
    refine kqX_let (kqX_sl hs7) (fun s8 hs8 => ?_)
    refine kqX_let (kqX_si hs8 (by decide) (by decide) (by decide)) (fun s9 hs9 => ?_)
    exact kq_some hs9
  · exact kq_some h
theorem kqX_bJ7_fill_d0a16_6 {σ0 σ : kw_M} {c0 : Nat} {v1 : Int64} {v4 : Int32} {v3 : Int32} (h : kqX σ0 σ) : kq (fun o => Sum.elim (fun r => kqX σ0 r.2) (fun r => kqX σ0 r) o) (bJ7_fill_d0a16_6 c0 v1 v4 v3 σ) := by
  unfold bJ7_fill_d0a16_6
  refine kq_ite ?_ ?_
  · exact kq_some h
  · refine kq_chk ?_
    refine kqX_let (kqX_sl h) (fun s3 hs3 => ?_)
    refine kq_letV (fun x4 => ?_)
    exact kq_some hs3
theorem kqX_fXJ7_fill_d0a16 {σ0 σ : kw_M} {c0 : Nat} {a1 : Int64} (h : kqX σ0 σ) : kq (fun r => kqX σ0 r) (fXJ7_fill_d0a16 c0 a1 σ) := by
  unfold fXJ7_fill_d0a16
  refine kq_bind (kq_loop (P := fun r => kqX σ0 r.2) (K := fun r => kqX σ0 r) (fun _ hs => kqX_bJ7_fill_d0a16_6 hs) _ _ h) (fun x5 hx5 => ?_)
  exact kq_some hx5
theorem kqX_jX4_settle_126_L37 {σ0 σ : kw_M} {c0 : Nat} {c3 : Nat} {v2 : Int32} {v5 : Int32} {v6 : Int32} {v7 : Int64} (h : kqX σ0 σ) : kq (fun o => Sum.elim (fun r => kqX σ0 r.2.2) (fun r => kqX σ0 r.2) o) (jX4_settle_126_L37 c0 c3 v2 v5 v6 v7 σ) := by
  unfold jX4_settle_126_L37
  refine kq_chk ?_
  refine kq_chk ?_
  refine kqX_let (kqX_sl h) (fun s20 hs20 => ?_)
  refine kq_letV (fun x21 => ?_)
  exact kq_some hs20
theorem kqX_bX4_settle_37 {σ0 σ : kw_M} {c0 : Nat} {c3 : Nat} {v2 : Int32} {v5 : Int32} {v4 : Int32} {v6 : Int32} (h : kqX σ0 σ) : kq (fun o => Sum.elim (fun r => kqX σ0 r.2.2) (fun r => kqX σ0 r.2) o) (bX4_settle_37 c0 c3 v2 v5 v4 v6 σ) := by
  unfold bX4_settle_37
  refine kq_ite ?_ ?_
  · exact kq_some h
  · refine kq_chk ?_
    refine kq_chk ?_
    refine kq_letV (fun x9 => ?_)
    refine kq_ite ?_ ?_
    · refine kq_letV (fun x11 => ?_)
      exact kq_some h
    · refine kq_ite ?_ ?_
      · refine kq_letV (fun x13 => ?_)
        exact kq_some h
      · refine kq_ite ?_ ?_
        · refine kq_letV (fun x24 => ?_)
          exact kq_some h
        · refine kq_chk ?_
          refine kq_letV (fun x16 => ?_)
          refine kq_ite ?_ ?_
          · exact kqX_jX4_settle_126_L37 h
          · refine kq_ite ?_ ?_
            · refine kq_letV (fun x23 => ?_)
              exact kq_some h
            · exact kqX_jX4_settle_126_L37 h
theorem kqX_bX4_settle_17 {σ0 σ : kw_M} {c0 : Nat} {c3 : Nat} {v2 : Int32} {v4 : Int32} {v5 : Int32} (h : kqX σ0 σ) : kq (fun o => Sum.elim (fun r => kqX σ0 r.2.2) (fun r => kqX σ0 r) o) (bX4_settle_17 c0 c3 v2 v4 v5 σ) := by
  unfold bX4_settle_17
  refine kq_ite ?_ ?_
  · exact kq_some h
  · refine kq_ite ?_ ?_
    · exact kq_some h
    · refine kq_bind (kq_loop (P := fun r => kqX σ0 r.2.2) (K := fun r => kqX σ0 r.2) (fun _ hs => kqX_bX4_settle_37 hs) _ _ h) (fun x25 hx25 => ?_)
      refine kq_letV (fun x26 => ?_)
      exact kq_some hx25
theorem kqX_fX4_settle {σ0 σ : kw_M} {c0 : Nat} {c3 : Nat} {a1 : Int32} {a2 : Int32} (h : kqX σ0 σ) : kq (fun r => kqX σ0 r) (fX4_settle c0 c3 a1 a2 σ) := by
  unfold fX4_settle
  refine kq_bind (kqX_fXJ7_fill_d0a16 h) (fun r1 hr1 => ?_)
  refine kq_chk ?_
  refine kqX_let (kqX_sl hr1) (fun s3 hs3 => ?_)
  refine kq_bind (kq_loop (P := fun r => kqX σ0 r.2.2) (K := fun r => kqX σ0 r) (fun _ hs => kqX_bX4_settle_17 hs) _ _ hs3) (fun x27 hx27 => ?_)
  exact kq_some hx27
theorem kqX_fX4_makesBadRing {σ0 σ : kw_M} {a1 : Int32} (h : kqX σ0 σ) : kq (fun r => kqX σ0 r.2) (fX4_makesBadRing a1 σ) := by
  unfold fX4_makesBadRing
  refine kq_bindV (fun r1 => ?_)
  refine kq_ite ?_ ?_
  · exact kq_some h
  · refine kq_chk ?_
    refine kq_bind (kqX_fX4_settle h) (fun r4 hr4 => ?_)
    refine kq_chk ?_
    refine kq_letV (fun x6 => ?_)
    refine kq_ite ?_ ?_
    · exact kq_some hr4
    · refine kq_ite ?_ ?_
      · exact kq_some hr4
      · exact kq_some hr4
theorem kqX_fX4_copyFrom {σ0 σ : kw_M} {c0 : Nat} {c1 : Nat} (hc : c0 = 10 ∨ c0 = 12) (h : kqX σ0 σ) : kq (fun r => kqX σ0 r) (fX4_copyFrom c0 c1 σ) := by
  rcases hc with rfl | rfl
  · unfold fX4_copyFrom
    refine kqX_let (kqX_si h (by decide) (by decide) (by decide)) (fun s1 hs1 => ?_)
    refine kqX_let (kqX_si hs1 (by decide) (by decide) (by decide)) (fun s2 hs2 => ?_)
    refine kqX_let (kqX_sl hs2) (fun s3 hs3 => ?_)
    refine kq_chk ?_
    refine kq_chk ?_
    refine kq_chk ?_
    refine kqX_let (kqX_ri hs3 (by decide) (by decide) (by decide)) (fun s7 hs7 => ?_)
    refine kq_chk ?_
    refine kq_chk ?_
    refine kq_chk ?_
    refine kqX_let (kqX_ri hs7 (by decide) (by decide) (by decide)) (fun s11 hs11 => ?_)
    refine kq_chk ?_
    refine kq_chk ?_
    refine kq_chk ?_
    refine kqX_let (kqX_ri hs11 (by decide) (by decide) (by decide)) (fun s15 hs15 => ?_)
    exact kq_some hs15
  · unfold fX4_copyFrom
    refine kqX_let (kqX_si h (by decide) (by decide) (by decide)) (fun s1 hs1 => ?_)
    refine kqX_let (kqX_si hs1 (by decide) (by decide) (by decide)) (fun s2 hs2 => ?_)
    refine kqX_let (kqX_sl hs2) (fun s3 hs3 => ?_)
    refine kq_chk ?_
    refine kq_chk ?_
    refine kq_chk ?_
    refine kqX_let (kqX_ri hs3 (by decide) (by decide) (by decide)) (fun s7 hs7 => ?_)
    refine kq_chk ?_
    refine kq_chk ?_
    refine kq_chk ?_
    refine kqX_let (kqX_ri hs7 (by decide) (by decide) (by decide)) (fun s11 hs11 => ?_)
    refine kq_chk ?_
    refine kq_chk ?_
    refine kq_chk ?_
    refine kqX_let (kqX_ri hs11 (by decide) (by decide) (by decide)) (fun s15 hs15 => ?_)
    exact kq_some hs15
theorem kqX_bJ7_fill_53178_5 {σ0 σ : kw_M} {v1 : Int32} {v3 : Int32} {v2 : Int32} (h : kqX σ0 σ) : kq (fun o => Sum.elim (fun r => kqX σ0 r.2) (fun r => kqX σ0 r) o) (bJ7_fill_53178_5 v1 v3 v2 σ) := by
  unfold bJ7_fill_53178_5
  refine kq_ite ?_ ?_
  · exact kq_some h
  · refine kq_chk ?_
    refine kqX_let (kqX_si h (by decide) (by decide) (by decide)) (fun s3 hs3 => ?_)
    refine kq_letV (fun x4 => ?_)
    exact kq_some hs3
theorem kqX_fXJ7_fill_53178 {σ0 σ : kw_M} {a1 : Int32} (h : kqX σ0 σ) : kq (fun r => kqX σ0 r) (fXJ7_fill_53178 a1 σ) := by
  unfold fXJ7_fill_53178
  refine kq_bind (kq_loop (P := fun r => kqX σ0 r.2) (K := fun r => kqX σ0 r) (fun _ hs => kqX_bJ7_fill_53178_5 hs) _ _ h) (fun x5 hx5 => ?_)
  exact kq_some hx5
theorem kqX_bX7_findParents_18 {σ0 σ : kw_M} {v1 : Int32} (h : kqX σ0 σ) : kq (fun o => Sum.elim (fun r => kqX σ0 r.2) (fun r => kqX σ0 r) o) (bX7_findParents_18 v1 σ) := by
  unfold bX7_findParents_18
  refine kq_ite ?_ ?_
  · exact kq_some h
  · refine kq_bindV (fun r4 => ?_)
    refine kq_ite ?_ ?_
    · refine kq_letV (fun x6 => ?_)
      exact kq_some h
    · refine kq_chk ?_
      refine kq_chk ?_
      refine kqX_let (kqX_si h (by decide) (by decide) (by decide)) (fun s9 hs9 => ?_)
      refine kq_letV (fun x10 => ?_)
      exact kq_some hs9
theorem kqX_fX7_findParents {σ0 σ : kw_M}  (h : kqX σ0 σ) : kq (fun r => kqX σ0 r) (fX7_findParents σ) := by
  unfold fX7_findParents
  refine kq_bind (kqX_fXJ7_fill_53178 h) (fun r1 hr1 => ?_)
  refine kq_letV (fun x2 => ?_)
  refine kq_bind (kq_loop (P := fun r => kqX σ0 r.2) (K := fun r => kqX σ0 r) (fun _ hs => kqX_bX7_findParents_18 hs) _ _ hr1) (fun x11 hx11 => ?_)
  exact kq_some hx11
theorem kqX_fX9_judgeAside {σ0 σ : kw_M} {a1 : Int32} {a2 : Int32} (h : kqX σ0 σ) : kq (fun r => kqX σ0 r.2) (fX9_judgeAside a1 a2 σ) := by
  unfold fX9_judgeAside
  refine kq_bind (kqX_fX4_makesBadRing h) (fun r1 hr1 => ?_)
  refine kq_ite ?_ ?_
  · refine kq_bind (kqX_fX4_settle hr1) (fun r3 hr3 => ?_)
    refine kq_bindV (fun r4 => ?_)
    refine kq_ite ?_ ?_
    · exact kq_some hr3
    · exact kq_some hr3
  · exact kq_some hr1
theorem kqX_bX7_putTouched_5 {σ0 σ : kw_M} {v1 : Int32} {v3 : Int32} (h : kqX σ0 σ) : kq (fun o => Sum.elim (fun r => kqX σ0 r.2) (fun r => kqX σ0 r.2) o) (bX7_putTouched_5 v1 v3 σ) := by
  unfold bX7_putTouched_5
  refine kq_ite ?_ ?_
  · exact kq_some h
  · refine kq_chk ?_
    refine kq_chk ?_
    refine kq_chk ?_
    refine kq_bindV (fun r6 => ?_)
    refine kq_ite ?_ ?_
    · exact kq_some h
    · refine kq_chk ?_
      refine kqX_let (kqX_si h (by decide) (by decide) (by decide)) (fun s9 hs9 => ?_)
      refine kq_letV (fun x10 => ?_)
      exact kq_some hs9
theorem kqX_jX7_putTouched_48 {σ0 σ : kw_M} {v1 : Int32} {v3 : Int32} (h : kqX σ0 σ) : kq (fun r => kqX σ0 r) (jX7_putTouched_48 v1 v3 σ) := by
  unfold jX7_putTouched_48
  refine kq_chk ?_
  refine kqX_let (kqX_si h (by decide) (by decide) (by decide)) (fun s13 hs13 => ?_)
  refine kqX_let (kqX_si hs13 (by decide) (by decide) (by decide)) (fun s14 hs14 => ?_)
  exact kq_some hs14
theorem kqX_fX7_putTouched {σ0 σ : kw_M} {a1 : Int32} (h : kqX σ0 σ) : kq (fun r => kqX σ0 r) (fX7_putTouched a1 σ) := by
  unfold fX7_putTouched
  refine kq_letV (fun x1 => ?_)
  refine kq_bind (kq_loop (P := fun r => kqX σ0 r.2) (K := fun r => kqX σ0 r.2) (fun _ hs => kqX_bX7_putTouched_5 hs) _ _ h) (fun x11 hx11 => ?_)
  exact kqX_jX7_putTouched_48 hx11
theorem kqX_bX7_markTouched_7 {σ0 σ : kw_M} {v2 : Int32} (h : kqX σ0 σ) : kq (fun o => Sum.elim (fun r => kqX σ0 r.2) (fun r => kqX σ0 r) o) (bX7_markTouched_7 v2 σ) := by
  unfold bX7_markTouched_7
  refine kq_ite ?_ ?_
  · exact kq_some h
  · refine kq_chk ?_
    refine kq_ite ?_ ?_
    · refine kq_letV (fun x5 => ?_)
      exact kq_some h
    · refine kq_bind (kqX_fX7_putTouched h) (fun r6 hr6 => ?_)
      refine kq_letV (fun x7 => ?_)
      exact kq_some hr6
theorem kqX_fX7_markTouched {σ0 σ : kw_M}  (h : kqX σ0 σ) : kq (fun r => kqX σ0 r) (fX7_markTouched σ) := by
  unfold fX7_markTouched
  refine kqX_let (kqX_si h (by decide) (by decide) (by decide)) (fun s1 hs1 => ?_)
  refine kq_bind (kq_loop (P := fun r => kqX σ0 r.2) (K := fun r => kqX σ0 r) (fun _ hs => kqX_bX7_markTouched_7 hs) _ _ hs1) (fun x8 hx8 => ?_)
  exact kq_some hx8
theorem kqX_jX0_write_55 {σ0 σ : kw_M} {v4 : Int64} {v6 : Int32} {t0 : Int64} {t1 : Int32} (h : kqX σ0 σ) : kq (fun r => kqX σ0 r) (jX0_write_55 v4 v6 t0 t1 σ) := by
  unfold jX0_write_55
  refine kq_chk ?_
  refine kqX_let (kqX_sl h) (fun s9 hs9 => ?_)
  refine kq_chk ?_
  refine kqX_let (kqX_sl hs9) (fun s11 hs11 => ?_)
  refine kqX_let (kqX_si hs11 (by decide) (by decide) (by decide)) (fun s12 hs12 => ?_)
  exact kq_some hs12
theorem kqX_fX0_write {σ0 σ : kw_M} {a1 : Int32} {a2 : Int32} {a3 : Int32} {a4 : Int64} (h : kqX σ0 σ) : kq (fun r => kqX σ0 r) (fX0_write a1 a2 a3 a4 σ) := by
  unfold fX0_write
  refine kq_ite ?_ ?_
  · refine kq_letV (fun x2 => ?_)
    refine kq_chk ?_
    refine kqX_let (kqX_sl h) (fun s4 hs4 => ?_)
    refine kq_chk ?_
    refine kqX_let (kqX_sl hs4) (fun s6 hs6 => ?_)
    refine kq_ite ?_ ?_
    · exact kqX_jX0_write_55 hs6
    · exact kqX_jX0_write_55 hs6
  · exact kq_some h
theorem kqX_bX7_writeEvents_2 {σ0 σ : kw_M} {v1 : Int32} {v2 : Int32} (h : kqX σ0 σ) : kq (fun o => Sum.elim (fun r => kqX σ0 r.2) (fun r => kqX σ0 r) o) (bX7_writeEvents_2 v1 v2 σ) := by
  unfold bX7_writeEvents_2
  refine kq_ite ?_ ?_
  · exact kq_some h
  · refine kq_ite ?_ ?_
    · refine kq_letV (fun x3 => ?_)
      exact kq_some h
    · refine kq_bindV (fun r4 => ?_)
      refine kq_chk ?_
      refine kq_bind (kqX_fX0_write h) (fun r6 hr6 => ?_)
      refine kq_letV (fun x7 => ?_)
      exact kq_some hr6
theorem kqX_fX7_writeEvents {σ0 σ : kw_M} {a1 : Int32} (h : kqX σ0 σ) : kq (fun r => kqX σ0 r) (fX7_writeEvents a1 σ) := by
  unfold fX7_writeEvents
  refine kq_bind (kq_loop (P := fun r => kqX σ0 r.2) (K := fun r => kqX σ0 r) (fun _ hs => kqX_bX7_writeEvents_2 hs) _ _ h) (fun x8 hx8 => ?_)
  exact kq_some hx8
theorem kqX_fX7_takeOver {σ0 σ : kw_M} {a2 : Int32} (h : kqX σ0 σ) : kq (fun r => kqX σ0 r) (fX7_takeOver a2 σ) := by
  unfold fX7_takeOver
  refine kq_bindV (fun r1 => ?_)
  refine kq_bind (kqX_fX7_markTouched h) (fun r2 hr2 => ?_)
  refine kq_bind (kqX_fX4_copyFrom (by decide) hr2) (fun r3 hr3 => ?_)
  refine kqX_let (kqX_si hr3 (by decide) (by decide) (by decide)) (fun s4 hs4 => ?_)
  refine kqX_let (kqX_rl hs4) (fun s5 hs5 => ?_)
  refine kq_bind (kqX_fX7_findParents hs5) (fun r6 hr6 => ?_)
  refine kqX_let (kqX_si hr6 (by decide) (by decide) (by decide)) (fun s7 hs7 => ?_)
  refine kq_bindV (fun r8 => ?_)
  refine kq_bind (kqX_fX7_writeEvents hs7) (fun r9 hr9 => ?_)
  exact kq_some hr9
theorem kqX_fX9_doChange {σ0 σ : kw_M} {a1 : Int32} {a2 : Int32} (h : kqX σ0 σ) : kq (fun r => kqX σ0 r.2) (fX9_doChange a1 a2 σ) := by
  unfold fX9_doChange
  refine kq_bind (kqX_fX9_judgeAside h) (fun r1 hr1 => ?_)
  refine kq_ite ?_ ?_
  · refine kq_bind (kqX_fX7_takeOver hr1) (fun r3 hr3 => ?_)
    refine kqX_let (kqX_si hr3 (by decide) (by decide) (by decide)) (fun s4 hs4 => ?_)
    exact kq_some hs4
  · exact kq_some hr1
theorem kqX_fX9_layRoad {σ0 σ : kw_M} {a1 : Int32} {a2 : Int32} {a3 : Int32} (h : kqX σ0 σ) : kq (fun r => kqX σ0 r.2) (fX9_layRoad a1 a2 a3 σ) := by
  unfold fX9_layRoad
  refine kq_bindV (fun r1 => ?_)
  refine kq_ite ?_ ?_
  · exact kq_some h
  · refine kq_bindV (fun r3 => ?_)
    refine kq_ite ?_ ?_
    · exact kq_some h
    · refine kq_ite ?_ ?_
      · exact kq_some h
      · refine kq_bindV (fun r6 => ?_)
        refine kq_ite ?_ ?_
        · exact kq_some h
        · refine kq_ite ?_ ?_
          · refine kq_bind (kqX_fX4_copyFrom (by decide) h) (fun r9 hr9 => ?_)
            refine kq_bind (kqX_fX4_addRoad hr9) (fun r10 hr10 => ?_)
            refine kq_bind (kqX_fX9_doChange hr10) (fun r11 hr11 => ?_)
            refine kq_ite ?_ ?_
            · exact kq_some hr11
            · exact kq_some hr11
          · exact kq_some h
theorem kqX_fX9_changeLength {σ0 σ : kw_M} {a1 : Int32} {a2 : Int32} (h : kqX σ0 σ) : kq (fun r => kqX σ0 r.2) (fX9_changeLength a1 a2 σ) := by
  unfold fX9_changeLength
  refine kq_bindV (fun r1 => ?_)
  refine kq_ite ?_ ?_
  · exact kq_some h
  · refine kq_bindV (fun r3 => ?_)
    refine kq_ite ?_ ?_
    · exact kq_some h
    · refine kq_chk ?_
      refine kq_ite ?_ ?_
      · exact kq_some h
      · refine kq_bind (kqX_fX4_copyFrom (by decide) h) (fun r7 hr7 => ?_)
        refine kqX_let (kqX_si hr7 (by decide) (by decide) (by decide)) (fun s8 hs8 => ?_)
        refine kq_bind (kqX_fX9_doChange hs8) (fun r9 hr9 => ?_)
        exact kq_some hr9
theorem kqX_fX4_flip {σ0 σ : kw_M} {a1 : Int32} (h : kqX σ0 σ) : kq (fun r => kqX σ0 r) (fX4_flip a1 σ) := by
  unfold fX4_flip
  refine kqX_let (kqX_sl h) (fun s1 hs1 => ?_)
  exact kq_some hs1
theorem kqX_fX9_turnRoad {σ0 σ : kw_M} {a1 : Int32} {a2 : Int32} (h : kqX σ0 σ) : kq (fun r => kqX σ0 r.2) (fX9_turnRoad a1 a2 σ) := by
  unfold fX9_turnRoad
  refine kq_bindV (fun r1 => ?_)
  refine kq_ite ?_ ?_
  · exact kq_some h
  · refine kq_bindV (fun r3 => ?_)
    refine kq_ite ?_ ?_
    · exact kq_some h
    · refine kq_bind (kqX_fX4_copyFrom (by decide) h) (fun r5 hr5 => ?_)
      refine kq_bind (kqX_fX4_flip hr5) (fun r6 hr6 => ?_)
      refine kq_bind (kqX_fX9_doChange hr6) (fun r7 hr7 => ?_)
      exact kq_some hr7
theorem kqX_fX9_moveOrigin {σ0 σ : kw_M} {a1 : Int32} (h : kqX σ0 σ) : kq (fun r => kqX σ0 r.2) (fX9_moveOrigin a1 σ) := by
  unfold fX9_moveOrigin
  refine kq_bindV (fun r1 => ?_)
  refine kq_ite ?_ ?_
  · exact kq_some h
  · refine kq_ite ?_ ?_
    · exact kq_some h
    · refine kq_bind (kqX_fX4_copyFrom (by decide) h) (fun r4 hr4 => ?_)
      refine kq_bind (kqX_fX9_doChange hr4) (fun r5 hr5 => ?_)
      exact kq_some hr5
theorem kqX_fX9_watchTown {σ0 σ : kw_M} {a1 : Int32} {a2 : Int32} (h : kqX σ0 σ) : kq (fun r => kqX σ0 r.2) (fX9_watchTown a1 a2 σ) := by
  unfold fX9_watchTown
  refine kq_bindV (fun r1 => ?_)
  refine kq_ite ?_ ?_
  · exact kq_some h
  · refine kq_bindV (fun r3 => ?_)
    refine kq_ite ?_ ?_
    · exact kq_some h
    · refine kqX_let (kqX_si h (by decide) (by decide) (by decide)) (fun s5 hs5 => ?_)
      refine kq_chk ?_
      refine kqX_let (kqX_si hs5 (by decide) (by decide) (by decide)) (fun s7 hs7 => ?_)
      refine kq_bindV (fun r8 => ?_)
      refine kq_ite ?_ ?_
      · exact kq_some hs7
      · exact kq_some hs7
theorem kqX_fX9_forgetTown {σ0 σ : kw_M} {a1 : Int32} (h : kqX σ0 σ) : kq (fun r => kqX σ0 r.2) (fX9_forgetTown a1 σ) := by
  unfold fX9_forgetTown
  refine kq_bindV (fun r1 => ?_)
  refine kq_ite ?_ ?_
  · exact kq_some h
  · refine kq_bindV (fun r3 => ?_)
    refine kq_ite ?_ ?_
    · exact kq_some h
    · refine kqX_let (kqX_si h (by decide) (by decide) (by decide)) (fun s5 hs5 => ?_)
      exact kq_some hs5
theorem kqM_bX10_copies_2 {σ0 σ : kw_M} {v1 : Int32} {v2 : Int32} {v3 : Int32} (h : kqM σ0 σ) : kq (fun o => Sum.elim (fun r => kqM σ0 r.2) (fun r => kqM σ0 r) o) (bX10_copies_2 v1 v2 v3 σ) := by
  unfold bX10_copies_2
  refine kq_ite ?_ ?_
  · exact kq_some h
  · refine kq_chk ?_
    refine kq_chk ?_
    refine kqM_let (kqM_si h (by decide) (by decide)) (fun s4 hs4 => ?_)
    refine kq_letV (fun x5 => ?_)
    exact kq_some hs4
theorem kqM_fX10_copies {σ0 σ : kw_M} {a1 : Int32} {a2 : Int32} (h : kqM σ0 σ) : kq (fun r => kqM σ0 r) (fX10_copies a1 a2 σ) := by
  unfold fX10_copies
  refine kq_bind (kq_loop (P := fun r => kqM σ0 r.2) (K := fun r => kqM σ0 r) (fun _ hs => kqM_bX10_copies_2 hs) _ _ h) (fun x6 hx6 => ?_)
  exact kq_some hx6
theorem kqM_fX10_sets {σ0 σ : kw_M} {a1 : Int32} {a2 : Int32} {a3 : Int32} (h : kqM σ0 σ) : kq (fun r => kqM σ0 r) (fX10_sets a1 a2 a3 σ) := by
  unfold fX10_sets
  refine kq_chk ?_
  refine kqM_let (kqM_si h (by decide) (by decide)) (fun s2 hs2 => ?_)
  exact kq_some hs2
theorem kqM_bX10_finds_2 {σ0 σ : kw_M} {v1 : Int32} {v2 : Int32} {v3 : Int32} (h : kqM σ0 σ) : kq (fun o => Sum.elim (fun r => kqM σ0 r.2) (fun r => kqM σ0 r) o) (bX10_finds_2 v1 v2 v3 σ) := by
  unfold bX10_finds_2
  refine kq_ite ?_ ?_
  · exact kq_some h
  · refine kq_ite ?_ ?_
    · refine kq_chk ?_
      refine kqM_let (kqM_sl h (by decide)) (fun s7 hs7 => ?_)
      refine kq_letV (fun x8 => ?_)
      exact kq_some hs7
    · refine kq_chk ?_
      refine kqM_let (kqM_sl h (by decide)) (fun s4 hs4 => ?_)
      refine kq_letV (fun x5 => ?_)
      exact kq_some hs4
theorem kqM_bX10_finds_45 {σ0 σ : kw_M} {v2 : Int32} {v3 : Int32} {v4 : Int32} (h : kqM σ0 σ) : kq (fun o => Sum.elim (fun r => kqM σ0 r.2) (fun r => kqM σ0 r) o) (bX10_finds_45 v2 v3 v4 σ) := by
  unfold bX10_finds_45
  refine kq_ite ?_ ?_
  · exact kq_some h
  · refine kq_ite ?_ ?_
    · refine kq_letV (fun x14 => ?_)
      exact kq_some h
    · refine kq_bindV (fun r15 => ?_)
      refine kq_ite ?_ ?_
      · refine kq_letV (fun x17 => ?_)
        exact kq_some h
      · refine kq_bindV (fun r18 => ?_)
        refine kq_chk ?_
        refine kq_ite ?_ ?_
        · refine kq_letV (fun x33 => ?_)
          exact kq_some h
        · refine kq_bindV (fun r21 => ?_)
          refine kq_chk ?_
          refine kq_bindV (fun r23 => ?_)
          refine kq_letV (fun x24 => ?_)
          refine kq_bindV (fun r25 => ?_)
          refine kq_chk ?_
          refine kq_ite ?_ ?_
          · refine kq_letV (fun x28 => ?_)
            exact kq_some h
          · refine kq_bindV (fun r29 => ?_)
            refine kq_chk ?_
            refine kqM_let (kqM_sl h (by decide)) (fun s31 hs31 => ?_)
            refine kq_letV (fun x32 => ?_)
            exact kq_some hs31
theorem kqM_bX10_finds_34 {σ0 σ : kw_M} {v2 : Int32} {v3 : Int32} (h : kqM σ0 σ) : kq (fun o => Sum.elim (fun r => kqM σ0 r.2) (fun r => kqM σ0 r) o) (bX10_finds_34 v2 v3 σ) := by
  unfold bX10_finds_34
  refine kq_bindV (fun r10 => ?_)
  refine kq_ite ?_ ?_
  · exact kq_some h
  · refine kq_bind (kq_loop (P := fun r => kqM σ0 r.2) (K := fun r => kqM σ0 r) (fun _ hs => kqM_bX10_finds_45 hs) _ _ h) (fun x34 hx34 => ?_)
    refine kq_letV (fun x35 => ?_)
    exact kq_some hx34
theorem kqM_fX10_finds {σ0 σ : kw_M} {a1 : Int32} {a2 : Int32} (h : kqM σ0 σ) : kq (fun r => kqM σ0 r) (fX10_finds a1 a2 σ) := by
  unfold fX10_finds
  refine kq_bind (kq_loop (P := fun r => kqM σ0 r.2) (K := fun r => kqM σ0 r) (fun _ hs => kqM_bX10_finds_2 hs) _ _ h) (fun x9 hx9 => ?_)
  refine kq_bind (kq_loop (P := fun r => kqM σ0 r.2) (K := fun r => kqM σ0 r) (fun _ hs => kqM_bX10_finds_34 hs) _ _ hx9) (fun x36 hx36 => ?_)
  exact kq_some hx36
theorem kqM_bX10_settles_13 {σ0 σ : kw_M} {v1 : Int32} (h : kqM σ0 σ) : kq (fun o => Sum.elim (fun r => kqM σ0 r.2) (fun r => kqM σ0 r) o) (bX10_settles_13 v1 σ) := by
  unfold bX10_settles_13
  refine kq_ite ?_ ?_
  · exact kq_some h
  · refine kq_chk ?_
    refine kqM_let (kqM_sl h (by decide)) (fun s4 hs4 => ?_)
    refine kq_letV (fun x5 => ?_)
    exact kq_some hs4
theorem kqM_fX10_settles {σ0 σ : kw_M}  (h : kqM σ0 σ) : kq (fun r => kqM σ0 r) (fX10_settles σ) := by
  unfold fX10_settles
  refine kq_bind (kqM_fX10_finds h) (fun r1 hr1 => ?_)
  refine kq_bind (kq_loop (P := fun r => kqM σ0 r.2) (K := fun r => kqM σ0 r) (fun _ hs => kqM_bX10_settles_13 hs) _ _ hr1) (fun x6 hx6 => ?_)
  exact kq_some hx6
theorem kqM_fX10_isRing {σ0 σ : kw_M} {a1 : Int32} (h : kqM σ0 σ) : kq (fun r => kqM σ0 r.2) (fX10_isRing a1 σ) := by
  unfold fX10_isRing
  refine kq_bindV (fun r1 => ?_)
  refine kq_bind (kqM_fX10_finds h) (fun r2 hr2 => ?_)
  refine kq_bindV (fun r3 => ?_)
  refine kq_chk ?_
  refine kq_ite ?_ ?_
  · exact kq_some hr2
  · refine kq_bindV (fun r6 => ?_)
    refine kq_chk ?_
    refine kq_bindV (fun r8 => ?_)
    refine kq_ite ?_ ?_
    · exact kq_some hr2
    · exact kq_some hr2
theorem kqM_jX10_notesEvent_151 {σ0 σ : kw_M} {t0 : Int32} {t1 : Int32} (h : kqM σ0 σ) : kq (fun r => kqM σ0 r) (jX10_notesEvent_151 t0 t1 σ) := by
  unfold jX10_notesEvent_151
  refine kq_chk ?_
  refine kqM_let (kqM_si h (by decide) (by decide)) (fun s22 hs22 => ?_)
  refine kqM_let (kqM_si hs22 (by decide) (by decide)) (fun s23 hs23 => ?_)
  exact kq_some hs23
theorem kqM_jX10_notesEvent_125 {σ0 σ : kw_M} {v1 : Int32} {v2 : Int32} {t0 : Int32} {t1 : Int32} (h : kqM σ0 σ) : kq (fun r => kqM σ0 r) (jX10_notesEvent_125 v1 v2 t0 t1 σ) := by
  unfold jX10_notesEvent_125
  refine kq_chk ?_
  refine kqM_let (kqM_si h (by decide) (by decide)) (fun s18 hs18 => ?_)
  refine kq_chk ?_
  refine kq_ite ?_ ?_
  · exact kqM_jX10_notesEvent_151 hs18
  · exact kqM_jX10_notesEvent_151 hs18
theorem kqM_jX10_notesEvent_93 {σ0 σ : kw_M} {v1 : Int32} {v2 : Int32} {t0 : Int32} {t1 : Int32} (h : kqM σ0 σ) : kq (fun r => kqM σ0 r) (jX10_notesEvent_93 v1 v2 t0 t1 σ) := by
  unfold jX10_notesEvent_93
  refine kq_chk ?_
  refine kqM_let (kqM_si h (by decide) (by decide)) (fun s14 hs14 => ?_)
  refine kq_chk ?_
  refine kq_ite ?_ ?_
  · exact kqM_jX10_notesEvent_125 hs14
  · exact kqM_jX10_notesEvent_125 hs14
theorem kqM_jX10_notesEvent_26 {σ0 σ : kw_M} {v1 : Int32} {t0 : Int32} {t1 : Int32} (h : kqM σ0 σ) : kq (fun r => kqM σ0 r) (jX10_notesEvent_26 v1 t0 t1 σ) := by
  unfold jX10_notesEvent_26
  refine kq_chk ?_
  refine kqM_let (kqM_si h (by decide) (by decide)) (fun s4 hs4 => ?_)
  refine kq_ite ?_ ?_
  · exact kq_some hs4
  · refine kq_letV (fun x6 => ?_)
    refine kq_chk ?_
    refine kqM_let (kqM_si hs4 (by decide) (by decide)) (fun s8 hs8 => ?_)
    refine kq_chk ?_
    refine kqM_let (kqM_si hs8 (by decide) (by decide)) (fun s10 hs10 => ?_)
    refine kq_bindV (fun r11 => ?_)
    refine kq_ite ?_ ?_
    · exact kqM_jX10_notesEvent_93 hs10
    · exact kqM_jX10_notesEvent_93 hs10
theorem kqM_fX10_notesEvent {σ0 σ : kw_M} {a1 : Int32} (h : kqM σ0 σ) : kq (fun r => kqM σ0 r) (fX10_notesEvent a1 σ) := by
  unfold fX10_notesEvent
  refine kq_bindV (fun r1 => ?_)
  refine kq_ite ?_ ?_
  · exact kqM_jX10_notesEvent_26 h
  · exact kqM_jX10_notesEvent_26 h
theorem kqM_bX10_touches_33 {σ0 σ : kw_M} {v1 : Int32} {v2 : Int32} {v3 : Int32} (h : kqM σ0 σ) : kq (fun o => Sum.elim (fun r => kqM σ0 r.2) (fun r => kqM σ0 r.2) o) (bX10_touches_33 v1 v2 v3 σ) := by
  unfold bX10_touches_33
  refine kq_ite ?_ ?_
  · exact kq_some h
  · refine kq_chk ?_
    refine kq_chk ?_
    refine kq_chk ?_
    refine kq_ite ?_ ?_
    · exact kq_some h
    · refine kq_chk ?_
      refine kqM_let (kqM_si h (by decide) (by decide)) (fun s11 hs11 => ?_)
      refine kq_letV (fun x12 => ?_)
      exact kq_some hs11
theorem kqM_jX10_touches_90_L4 {σ0 σ : kw_M} {v1 : Int32} {v2 : Int32} {v3 : Int32} (h : kqM σ0 σ) : kq (fun o => Sum.elim (fun r => kqM σ0 r.2.2) (fun r => kqM σ0 r.2) o) (jX10_touches_90_L4 v1 v2 v3 σ) := by
  unfold jX10_touches_90_L4
  refine kq_chk ?_
  refine kqM_let (kqM_si h (by decide) (by decide)) (fun s15 hs15 => ?_)
  refine kq_letV (fun x16 => ?_)
  refine kq_letV (fun x17 => ?_)
  exact kq_some hs15
theorem kqM_bX10_touches_4 {σ0 σ : kw_M} {v1 : Int32} {v2 : Int32} (h : kqM σ0 σ) : kq (fun o => Sum.elim (fun r => kqM σ0 r.2.2) (fun r => kqM σ0 r.2) o) (bX10_touches_4 v1 v2 σ) := by
  unfold bX10_touches_4
  refine kq_bindV (fun r1 => ?_)
  refine kq_ite ?_ ?_
  · exact kq_some h
  · refine kq_chk ?_
    refine kq_ite ?_ ?_
    · refine kq_letV (fun x18 => ?_)
      exact kq_some h
    · refine kq_bind (kq_loop (P := fun r => kqM σ0 r.2) (K := fun r => kqM σ0 r.2) (fun _ hs => kqM_bX10_touches_33 hs) _ _ h) (fun x13 hx13 => ?_)
      exact kqM_jX10_touches_90_L4 hx13
theorem kqM_fX10_touches {σ0 σ : kw_M}  (h : kqM σ0 σ) : kq (fun r => kqM σ0 r.2) (fX10_touches σ) := by
  unfold fX10_touches
  refine kq_bind (kq_loop (P := fun r => kqM σ0 r.2.2) (K := fun r => kqM σ0 r.2) (fun _ hs => kqM_bX10_touches_4 hs) _ _ h) (fun x19 hx19 => ?_)
  refine kqM_let (kqM_si hx19 (by decide) (by decide)) (fun s20 hs20 => ?_)
  exact kq_some hs20
theorem kqM_bX10_begins_6 {σ0 σ : kw_M} {v1 : Int32} (h : kqM σ0 σ) : kq (fun o => Sum.elim (fun r => kqM σ0 r.2) (fun r => kqM σ0 r) o) (bX10_begins_6 v1 σ) := by
  unfold bX10_begins_6
  refine kq_ite ?_ ?_
  · exact kq_some h
  · refine kq_chk ?_
    refine kqM_let (kqM_sl h (by decide)) (fun s4 hs4 => ?_)
    refine kq_letV (fun x5 => ?_)
    exact kq_some hs4
theorem kqM_fX10_begins {σ0 σ : kw_M}  (h : kqM σ0 σ) : kq (fun r => kqM σ0 r) (fX10_begins σ) := by
  unfold fX10_begins
  refine kq_bind (kqM_fX10_settles h) (fun r1 hr1 => ?_)
  refine kq_bind (kq_loop (P := fun r => kqM σ0 r.2) (K := fun r => kqM σ0 r) (fun _ hs => kqM_bX10_begins_6 hs) _ _ hr1) (fun x6 hx6 => ?_)
  refine kq_bind (kqM_fX10_copies hx6) (fun r7 hr7 => ?_)
  exact kq_some hr7
theorem kqM_jX10_ends_109_L57 {σ0 σ : kw_M} {v3 : Int32} {t0 : Int32} {t1 : Int32} (h : kqM σ0 σ) : kq (fun o => Sum.elim (fun r => kqM σ0 r.2) (fun r => kqM σ0 r) o) (jX10_ends_109_L57 v3 t0 t1 σ) := by
  unfold jX10_ends_109_L57
  refine kq_ite ?_ ?_
  · refine kq_letV (fun x14 => ?_)
    exact kq_some h
  · refine kq_bind (kqM_fX10_notesEvent h) (fun r15 hr15 => ?_)
    refine kq_letV (fun x16 => ?_)
    exact kq_some hr15
theorem kqM_bX10_ends_57 {σ0 σ : kw_M} {v3 : Int32} (h : kqM σ0 σ) : kq (fun o => Sum.elim (fun r => kqM σ0 r.2) (fun r => kqM σ0 r) o) (bX10_ends_57 v3 σ) := by
  unfold bX10_ends_57
  refine kq_bindV (fun r5 => ?_)
  refine kq_ite ?_ ?_
  · exact kq_some h
  · refine kq_chk ?_
    refine kq_ite ?_ ?_
    · refine kq_bindV (fun r10 => ?_)
      refine kq_chk ?_
      refine kq_ite ?_ ?_
      · exact kqM_jX10_ends_109_L57 h
      · exact kqM_jX10_ends_109_L57 h
    · refine kq_letV (fun x9 => ?_)
      exact kq_some h
theorem kqM_jX10_ends_29 {σ0 σ : kw_M} {v2 : Int32} (h : kqM σ0 σ) : kq (fun r => kqM σ0 r.2) (jX10_ends_29 v2 σ) := by
  unfold jX10_ends_29
  refine kq_ite ?_ ?_
  · refine kqM_let (kqM_si h (by decide) (by decide)) (fun s4 hs4 => ?_)
    refine kq_bind (kq_loop (P := fun r => kqM σ0 r.2) (K := fun r => kqM σ0 r) (fun _ hs => kqM_bX10_ends_57 hs) _ _ hs4) (fun x17 hx17 => ?_)
    refine kq_bind (kqM_fX10_touches hx17) (fun r18 hr18 => ?_)
    exact kq_some hr18
  · refine kq_bind (kqM_fX10_copies h) (fun r19 hr19 => ?_)
    exact kq_some hr19
theorem kqM_jX10_ends_10 {σ0 σ : kw_M} {t0 : Int32} (h : kqM σ0 σ) : kq (fun r => kqM σ0 r.2) (jX10_ends_10 t0 σ) := by
  unfold jX10_ends_10
  refine kq_ite ?_ ?_
  · refine kq_bind (kqM_fX10_settles h) (fun r20 hr20 => ?_)
    refine kq_bindV (fun r21 => ?_)
    refine kq_ite ?_ ?_
    · exact kqM_jX10_ends_29 hr20
    · exact kqM_jX10_ends_29 hr20
  · exact kqM_jX10_ends_29 h
theorem kqM_fX10_ends {σ0 σ : kw_M} {a1 : Int32} (h : kqM σ0 σ) : kq (fun r => kqM σ0 r.2) (fX10_ends a1 σ) := by
  unfold fX10_ends
  refine kq_ite ?_ ?_
  · exact kqM_jX10_ends_10 h
  · exact kqM_jX10_ends_10 h
theorem kqM_fX10_comes {σ0 σ : kw_M} {a1 : Int32} {a2 : Int32} {a3 : Int32} (h : kqM σ0 σ) : kq (fun r => kqM σ0 r.2) (fX10_comes a1 a2 a3 σ) := by
  unfold fX10_comes
  refine kq_letV (fun x1 => ?_)
  refine kqM_let (kqM_si h (by decide) (by decide)) (fun s2 hs2 => ?_)
  refine kq_bind (kqM_fX10_sets hs2) (fun r3 hr3 => ?_)
  refine kq_bind (kqM_fX10_sets hr3) (fun r4 hr4 => ?_)
  refine kq_bind (kqM_fX10_sets hr4) (fun r5 hr5 => ?_)
  refine kq_bind (kqM_fX10_sets hr5) (fun r6 hr6 => ?_)
  exact kq_some hr6
theorem kqM_fX10_lay {σ0 σ : kw_M} {a1 : Int32} {a2 : Int32} {a3 : Int32} (h : kqM σ0 σ) : kq (fun r => kqM σ0 r.2) (fX10_lay a1 a2 a3 σ) := by
  unfold fX10_lay
  refine kq_bindV (fun r1 => ?_)
  refine kq_ite ?_ ?_
  · exact kq_some h
  · refine kq_bindV (fun r3 => ?_)
    refine kq_ite ?_ ?_
    · exact kq_some h
    · refine kq_ite ?_ ?_
      · exact kq_some h
      · refine kq_bindV (fun r6 => ?_)
        refine kq_ite ?_ ?_
        · exact kq_some h
        · refine kq_ite ?_ ?_
          · exact kq_some h
          · refine kq_bind (kqM_fX10_begins h) (fun r9 hr9 => ?_)
            refine kq_bind (kqM_fX10_comes hr9) (fun r10 hr10 => ?_)
            refine kq_bind (kqM_fX10_isRing hr10) (fun r11 hr11 => ?_)
            refine kq_bind (kqM_fX10_ends hr11) (fun r12 hr12 => ?_)
            refine kq_ite ?_ ?_
            · exact kq_some hr12
            · exact kq_some hr12
theorem kqM_jX10_length_64 {σ0 σ : kw_M} {t0 : Int32} (h : kqM σ0 σ) : kq (fun r => kqM σ0 r.2) (jX10_length_64 t0 σ) := by
  unfold jX10_length_64
  refine kq_bind (kqM_fX10_ends h) (fun r11 hr11 => ?_)
  exact kq_some hr11
theorem kqM_jX10_length_63 {σ0 σ : kw_M}  (h : kqM σ0 σ) : kq (fun r => kqM σ0 r.2) (jX10_length_63 σ) := by
  unfold jX10_length_63
  exact kqM_jX10_length_64 h
theorem kqM_fX10_length {σ0 σ : kw_M} {a1 : Int32} {a2 : Int32} (h : kqM σ0 σ) : kq (fun r => kqM σ0 r.2) (fX10_length a1 a2 σ) := by
  unfold fX10_length
  refine kq_bindV (fun r1 => ?_)
  refine kq_ite ?_ ?_
  · exact kq_some h
  · refine kq_bindV (fun r3 => ?_)
    refine kq_ite ?_ ?_
    · exact kq_some h
    · refine kq_bindV (fun r5 => ?_)
      refine kq_ite ?_ ?_
      · exact kq_some h
      · refine kq_bind (kqM_fX10_begins h) (fun r7 hr7 => ?_)
        refine kq_bind (kqM_fX10_sets hr7) (fun r8 hr8 => ?_)
        refine kq_bindV (fun r9 => ?_)
        refine kq_ite ?_ ?_
        · exact kqM_jX10_length_63 hr8
        · refine kq_bind (kqM_fX10_isRing hr8) (fun r12 hr12 => ?_)
          refine kq_ite ?_ ?_
          · exact kqM_jX10_length_63 hr12
          · exact kqM_jX10_length_64 hr12
theorem kqM_jX10_turns_53 {σ0 σ : kw_M} {t0 : Int32} (h : kqM σ0 σ) : kq (fun r => kqM σ0 r.2) (jX10_turns_53 t0 σ) := by
  unfold jX10_turns_53
  refine kq_bind (kqM_fX10_ends h) (fun r8 hr8 => ?_)
  exact kq_some hr8
theorem kqM_jX10_turns_52 {σ0 σ : kw_M}  (h : kqM σ0 σ) : kq (fun r => kqM σ0 r.2) (jX10_turns_52 σ) := by
  unfold jX10_turns_52
  exact kqM_jX10_turns_53 h
theorem kqM_fX10_turns {σ0 σ : kw_M} {a1 : Int32} {a2 : Int32} (h : kqM σ0 σ) : kq (fun r => kqM σ0 r.2) (fX10_turns a1 a2 σ) := by
  unfold fX10_turns
  refine kq_bindV (fun r1 => ?_)
  refine kq_ite ?_ ?_
  · exact kq_some h
  · refine kq_bindV (fun r3 => ?_)
    refine kq_ite ?_ ?_
    · exact kq_some h
    · refine kq_bind (kqM_fX10_begins h) (fun r5 hr5 => ?_)
      refine kq_bind (kqM_fX10_sets hr5) (fun r6 hr6 => ?_)
      refine kq_ite ?_ ?_
      · refine kq_bind (kqM_fX10_isRing hr6) (fun r9 hr9 => ?_)
        refine kq_ite ?_ ?_
        · exact kqM_jX10_turns_52 hr9
        · exact kqM_jX10_turns_53 hr9
      · exact kqM_jX10_turns_52 hr6
theorem kqM_fX10_close {σ0 σ : kw_M} {a1 : Int32} (h : kqM σ0 σ) : kq (fun r => kqM σ0 r.2) (fX10_close a1 σ) := by
  unfold fX10_close
  refine kq_bind (kqM_fX10_turns h) (fun r1 hr1 => ?_)
  exact kq_some hr1
theorem kqM_fX10_open {σ0 σ : kw_M} {a1 : Int32} (h : kqM σ0 σ) : kq (fun r => kqM σ0 r.2) (fX10_open a1 σ) := by
  unfold fX10_open
  refine kq_bind (kqM_fX10_turns h) (fun r1 hr1 => ?_)
  exact kq_some hr1
theorem kqM_fX10_origin {σ0 σ : kw_M} {a1 : Int32} (h : kqM σ0 σ) : kq (fun r => kqM σ0 r.2) (fX10_origin a1 σ) := by
  unfold fX10_origin
  refine kq_bindV (fun r1 => ?_)
  refine kq_ite ?_ ?_
  · exact kq_some h
  · refine kq_ite ?_ ?_
    · exact kq_some h
    · refine kq_bind (kqM_fX10_begins h) (fun r4 hr4 => ?_)
      refine kqM_let (kqM_si hr4 (by decide) (by decide)) (fun s5 hs5 => ?_)
      refine kq_bind (kqM_fX10_ends hs5) (fun r6 hr6 => ?_)
      exact kq_some hr6
theorem kqM_fX10_watch {σ0 σ : kw_M} {a1 : Int32} {a2 : Int32} (h : kqM σ0 σ) : kq (fun r => kqM σ0 r.2) (fX10_watch a1 a2 σ) := by
  unfold fX10_watch
  refine kq_bindV (fun r1 => ?_)
  refine kq_ite ?_ ?_
  · exact kq_some h
  · refine kq_bindV (fun r3 => ?_)
    refine kq_ite ?_ ?_
    · exact kq_some h
    · refine kq_bind (kqM_fX10_settles h) (fun r5 hr5 => ?_)
      refine kq_letV (fun x6 => ?_)
      refine kq_chk ?_
      refine kqM_let (kqM_si hr5 (by decide) (by decide)) (fun s8 hs8 => ?_)
      refine kq_chk ?_
      refine kqM_let (kqM_si hs8 (by decide) (by decide)) (fun s10 hs10 => ?_)
      refine kq_bindV (fun r11 => ?_)
      refine kq_ite ?_ ?_
      · refine kq_chk ?_
        refine kqM_let (kqM_si hs10 (by decide) (by decide)) (fun s14 hs14 => ?_)
        exact kq_some hs14
      · refine kq_chk ?_
        refine kqM_let (kqM_si hs10 (by decide) (by decide)) (fun s16 hs16 => ?_)
        exact kq_some hs16
theorem kqM_bX10_forget_27 {σ0 σ : kw_M} {v1 : Int32} {v2 : Int32} (h : kqM σ0 σ) : kq (fun o => Sum.elim (fun r => kqM σ0 r.2) (fun r => kqM σ0 r) o) (bX10_forget_27 v1 v2 σ) := by
  unfold bX10_forget_27
  refine kq_ite ?_ ?_
  · exact kq_some h
  · refine kq_chk ?_
    refine kqM_let (kqM_si h (by decide) (by decide)) (fun s7 hs7 => ?_)
    refine kq_letV (fun x8 => ?_)
    exact kq_some hs7
theorem kqM_fX10_forget {σ0 σ : kw_M} {a1 : Int32} (h : kqM σ0 σ) : kq (fun r => kqM σ0 r.2) (fX10_forget a1 σ) := by
  unfold fX10_forget
  refine kq_bindV (fun r1 => ?_)
  refine kq_ite ?_ ?_
  · exact kq_some h
  · refine kq_chk ?_
    refine kq_ite ?_ ?_
    · exact kq_some h
    · refine kq_bind (kq_loop (P := fun r => kqM σ0 r.2) (K := fun r => kqM σ0 r) (fun _ hs => kqM_bX10_forget_27 hs) _ _ h) (fun x9 hx9 => ?_)
      exact kq_some hx9
