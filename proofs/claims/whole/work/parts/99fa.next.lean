/-! The next longer way along shortest ways alone: ways on by towns that are not seen. -/
/-- the roads turned round, those of us alone -/
def kr_rv (g : kr_G) (us : Nat → Bool) : kr_G := (g.1, g.2.2.1, g.2.1, g.2.2.2.1, us)
theorem kr_rv_wk {g : kr_G} {us : Nat → Bool} (hus : ∀ r, r < g.1 → us r = true → g.2.2.2.2 r = true) : ∀ (l : List Nat) (u v : Nat), kr_wk (kr_rv g us) u l v → kr_wk g v l.reverse u ∧ kr_wt g l.reverse = kr_wt (kr_rv g us) l ∧ ∀ r, r ∈ l → us r = true
  | [], u, v, h => ⟨(show u = v from h).symm, rfl, fun r hr => by cases hr⟩
  | r :: l, u, v, h => by
    obtain ⟨h1, h2, h3, h4⟩ := h
    obtain ⟨i1, i2, i3⟩ := kr_rv_wk hus l _ v h4
    have h3' : g.2.2.1 r = u := h3
    refine ⟨?_, ?_, ?_⟩
    · rw [List.reverse_cons]
      exact (kr_wk_app _ _ _ _).mpr ⟨g.2.1 r, i1, h1, hus r h1 h2, rfl, h3'⟩
    · rw [List.reverse_cons, kr_wt_app, i2]
      show kr_wt (kr_rv g us) l + (g.2.2.2.1 r + 0) = g.2.2.2.1 r + kr_wt (kr_rv g us) l
      omega
    · intro q hq
      rcases List.mem_cons.mp hq with e | e
      · rw [e]
        exact h2
      · exact i3 q e
theorem kr_rv_good {g : kr_G} {us : Nat → Bool} (hg : kr_good g) (hus : ∀ r, r < g.1 → us r = true → g.2.2.2.2 r = true) : kr_good (kr_rv g us) := fun u l hne hw => by
  obtain ⟨h1, h2, _⟩ := kr_rv_wk hus l u u hw
  have h := hg u l.reverse (fun q => hne (List.reverse_eq_nil_iff.mp q)) h1
  rw [h2] at h
  exact h
theorem kr_rv_tn {g : kr_G} {us : Nat → Bool} {n : Nat} (h : kr_tn g n) : kr_tn (kr_rv g us) n := fun r hr => ⟨(h r hr).2, (h r hr).1⟩
/-- the roads l lead from v to t by no town twice, and by none of U -/
def kr_sw (g : kr_G) (t : Nat) : (Nat → Bool) → Nat → List Nat → Prop
  | _, v, [] => v = t
  | U, v, r :: l => r < g.1 ∧ g.2.2.2.2 r = true ∧ g.2.1 r = v ∧ U (g.2.2.1 r) = false ∧ kr_sw g t (fun q => U q || decide (q = g.2.2.1 r)) (g.2.2.1 r) l
theorem kr_sw_t {g : kr_G} {t : Nat} : ∀ (l : List Nat) (U : Nat → Bool) (v : Nat), U t = true → kr_sw g t U v l → l = [] ∧ v = t
  | [], _, _, _, h => ⟨rfl, h⟩
  | r :: l, U, v, hU, h => by
    obtain ⟨_, _, _, h4, h5⟩ := h
    have i := (kr_sw_t l _ _ (show (U t || decide (t = g.2.2.1 r)) = true by rw [hU]; rfl) h5).2
    rw [i, hU] at h4
    cases h4
theorem kr_sw_n {g : kr_G} {t n : Nat} (ht : kr_tn g n) (hn : n ≤ 12) : ∀ (l : List Nat) (U : Nat → Bool) (v : Nat), kr_sw g t U v l → l.length + kr_cntb U 12 ≤ 12
  | [], U, v, _ => by
    have := kr_cntb_le U 12
    show 0 + kr_cntb U 12 ≤ 12
    omega
  | r :: l, U, v, h => by
    obtain ⟨h1, _, _, h4, h5⟩ := h
    have i := kr_sw_n ht hn l _ _ h5
    rw [kr_cntb_add (by have := (ht r h1).2; omega) h4] at i
    show l.length + 1 + kr_cntb U 12 ≤ 12
    omega
/-- a way that is no longer and goes by no town twice -/
theorem kr_simple {g : kr_G} {t : Nat} (hg : kr_good g) : ∀ (k : Nat) (l : List Nat) (U : Nat → Bool) (v : Nat), l.length ≤ k → kr_wk g v l t → (∀ r, r ∈ l → U (g.2.1 r) = false) → U t = false → ∃ l', kr_sw g t (fun q => U q || decide (q = v)) v l' ∧ kr_wt g l' ≤ kr_wt g l := by
  intro k
  induction k with
  | zero =>
    intro l U v hl hw _ _
    have e : l = [] := List.eq_nil_of_length_eq_zero (by omega)
    subst e
    exact ⟨[], hw, Int.le_refl _⟩
  | succ k ih =>
    intro l U v hl hw hU ht
    by_cases hvt : v = t
    · refine ⟨[], hvt, ?_⟩
      cases l with
      | nil => exact Int.le_refl _
      | cons r l =>
        have h0 := hg v (r :: l) (by simp) (by have h := hw; rw [← hvt] at h; exact h)
        show (0 : Int) ≤ kr_wt g (r :: l)
        omega
    cases l with
    | nil => exact absurd hw hvt
    | cons r l =>
      obtain ⟨h1, h2, h3, h4⟩ := hw
      have hl' : l.length ≤ k := by
        rw [List.length_cons] at hl
        omega
      by_cases hx : ∃ q, q ∈ l ∧ g.2.1 q = v
      · obtain ⟨q, hq, hqv⟩ := hx
        obtain ⟨s, e, rfl⟩ := List.append_of_mem hq
        obtain ⟨w, w1, w2⟩ := (kr_wk_app s (q :: e) _ _).mp h4
        have hwv : w = v := w2.2.2.1.symm.trans hqv
        rw [hwv] at w1 w2
        have hpos := hg v (r :: s) (by simp) ⟨h1, h2, h3, w1⟩
        obtain ⟨l', s1, s2⟩ := ih (q :: e) U v (by rw [List.length_append] at hl'; omega) w2 (fun p hp => hU p (List.mem_cons_of_mem _ (List.mem_append_right _ hp))) ht
        refine ⟨l', s1, ?_⟩
        have e1 : kr_wt g (r :: (s ++ q :: e)) = kr_wt g (r :: s) + kr_wt g (q :: e) := kr_wt_app g (r :: s) (q :: e)
        omega
      · have hto : U (g.2.2.1 r) = false ∧ g.2.2.1 r ≠ v := by
          cases l with
          | nil =>
            have e : g.2.2.1 r = t := h4
            rw [e]
            exact ⟨ht, fun c => hvt c.symm⟩
          | cons q l2 =>
            have e : g.2.1 q = g.2.2.1 r := h4.2.2.1
            rw [← e]
            exact ⟨hU q (by simp), fun c => hx ⟨q, by simp, c⟩⟩
        obtain ⟨l', s1, s2⟩ := ih l (fun q => U q || decide (q = v)) (g.2.2.1 r) hl' h4 (fun p hp => by
          show (U (g.2.1 p) || decide (g.2.1 p = v)) = false
          rw [hU p (List.mem_cons_of_mem _ hp), decide_eq_false (fun c => hx ⟨p, hp, c⟩)]
          rfl) (by
          show (U t || decide (t = v)) = false
          rw [ht, decide_eq_false (fun c => hvt c.symm)]
          rfl)
        refine ⟨r :: l', ⟨h1, h2, h3, ?_, s1⟩, ?_⟩
        · show (U (g.2.2.1 r) || decide (g.2.2.1 r = v)) = false
          rw [hto.1, decide_eq_false hto.2]
          rfl
        · show g.2.2.2.1 r + kr_wt g l' ≤ g.2.2.2.1 r + kr_wt g l
          omega
theorem kr_sx_up {g : kr_G} {t : Nat} {D : Int} : ∀ (l : List Nat) (f v : Nat) (U : Nat → Bool) (L : Int), U v = true → kr_sw g t U v l → l.length ≤ f → D < L + kr_wt g l → ∃ z, kr_sx g t D f v U L = some z ∧ z ≤ L + kr_wt g l := by
  intro l
  induction l with
  | nil =>
    intro f v U L _ h _ hD
    have e : v = t := h
    have hD' : D < L + 0 := hD
    rw [e, kr_sx_g, if_pos (by omega)]
    exact ⟨L, rfl, by show L ≤ L + 0; omega⟩
  | cons r l ih =>
    intro f v U L hUv h hf hD
    have hvt : v ≠ t := fun e => by
      rw [e] at hUv
      have c := (kr_sw_t (r :: l) U v hUv h).1
      cases c
    obtain ⟨h1, h2, h3, h4, h5⟩ := h
    rw [List.length_cons] at hf
    obtain ⟨f, rfl⟩ : ∃ k, f = k + 1 := ⟨f - 1, by omega⟩
    have hD' : D < L + (g.2.2.2.1 r + kr_wt g l) := hD
    obtain ⟨z, i1, i2⟩ := ih f (g.2.2.1 r) (fun q => U q || decide (q = g.2.2.1 r)) (L + g.2.2.2.1 r) (by show (U (g.2.2.1 r) || decide (g.2.2.1 r = g.2.2.1 r)) = true; rw [decide_eq_true rfl, Bool.or_true]) h5 (by omega) (by omega)
    rw [kr_sx_s hvt]
    have e : kr_sv g t D f v U L r = some z := (kr_sv_in h2 h3 h4).trans i1
    have hle := kr_fm_le (b := none) (v := kr_sv g t D f v U L) g.1 r h1
    rw [e] at hle
    cases hq : kr_fm none (kr_sv g t D f v U L) g.1 with
    | none =>
      rw [hq] at hle
      cases hle
    | some y =>
      rw [hq] at hle
      have h6 : decide (z < y) = false := hle
      rw [decide_eq_false_iff_not] at h6
      refine ⟨y, rfl, ?_⟩
      show y ≤ L + (g.2.2.2.1 r + kr_wt g l)
      omega
/-- every road has one of us that is alike, where it begins outside U -/
def kr_tws (g : kr_G) (us U : Nat → Bool) : Prop := ∀ r, r < g.1 → g.2.2.2.2 r = true → U (g.2.1 r) = false → ∃ j, j < g.1 ∧ us j = true ∧ g.2.1 j = g.2.1 r ∧ g.2.2.1 j = g.2.2.1 r ∧ g.2.2.2.1 j = g.2.2.2.1 r
theorem kr_rv_rd {g : kr_G} {us U : Nat → Bool} {n t r : Nat} {p : Int} (hg : kr_good (kr_rv g us)) (ht : kr_tn g n) (htn : t < n) (htw : kr_tws g us U) (hr : r < g.1) (ho : g.2.2.2.2 r = true) (hU : U (g.2.1 r) = false) (hp : kr_dst (kr_rv g us) n t (g.2.2.1 r) = some p) : ∃ b, kr_dst (kr_rv g us) n t (g.2.1 r) = some b ∧ b ≤ p + g.2.2.2.1 r := by
  obtain ⟨j, j1, j2, j3, j4, j5⟩ := htw r hr ho hU
  obtain ⟨b, hb, hle⟩ := kr_D_rd (g := kr_rv g us) (n := n) (o := t) (r := j) (a := p) hg (kr_rv_tn ht) htn j1 j2 (by show kr_dst (kr_rv g us) n t (g.2.2.1 j) = some p; rw [j4]; exact hp)
  have hb' : kr_dst (kr_rv g us) n t (g.2.1 j) = some b := hb
  rw [j3] at hb'
  have hle' : b ≤ p + g.2.2.2.1 j := hle
  rw [j5] at hle'
  exact ⟨b, hb', hle'⟩
theorem kr_sw_lo {g : kr_G} {us U : Nat → Bool} {n t : Nat} (hg : kr_good (kr_rv g us)) (ht : kr_tn g n) (htn : t < n) (htw : kr_tws g us U) : ∀ (l : List Nat) (u : Nat) (V : Nat → Bool), U u = false → (∀ q, U q = true → V q = true) → kr_sw g t V u l → ∃ p, kr_dst (kr_rv g us) n t u = some p ∧ p ≤ kr_wt g l
  | [], u, V, hu, hUV, h => by
    have e : u = t := h
    rw [e]
    exact ⟨0, kr_D_o hg (kr_rv_tn ht) htn, Int.le_refl _⟩
  | r :: l, u, V, hu, hUV, h => by
    obtain ⟨h1, h2, h3, h4, h5⟩ := h
    have hUto : U (g.2.2.1 r) = false := by
      cases q : U (g.2.2.1 r) with
      | false => rfl
      | true =>
        rw [hUV _ q] at h4
        cases h4
    obtain ⟨p, hp, hle⟩ := kr_sw_lo hg ht htn htw l (g.2.2.1 r) _ hUto (fun q hq => by show (V q || decide (q = g.2.2.1 r)) = true; rw [hUV q hq]; rfl) h5
    obtain ⟨b, hb, hble⟩ := kr_rv_rd hg ht htn htw h1 h2 (by rw [h3]; exact hu) hp
    rw [h3] at hb
    refine ⟨b, hb, ?_⟩
    show b ≤ g.2.2.2.1 r + kr_wt g l
    omega
theorem kr_sx_lo2 {g : kr_G} {us U : Nat → Bool} {n t : Nat} {D : Int} (hg : kr_good (kr_rv g us)) (ht : kr_tn g n) (htn : t < n) (htw : kr_tws g us U) : ∀ (f u : Nat) (V : Nat → Bool) (L z : Int), U u = false → (∀ q, U q = true → V q = true) → kr_sx g t D f u V L = some z → ∃ p, kr_dst (kr_rv g us) n t u = some p ∧ L + p ≤ z := by
  have hend : ∀ (f : Nat) (V : Nat → Bool) (L z : Int), kr_sx g t D f t V L = some z → ∃ p, kr_dst (kr_rv g us) n t t = some p ∧ L + p ≤ z := fun f V L z h => by
    rw [kr_sx_g] at h
    by_cases q : D < L
    · rw [if_pos q] at h
      cases h
      exact ⟨0, kr_D_o hg (kr_rv_tn ht) htn, by omega⟩
    · rw [if_neg q] at h
      cases h
  intro f
  induction f with
  | zero =>
    intro u V L z hu hUV h
    by_cases e : u = t
    · rw [e] at h
      rw [e]
      exact hend 0 V L z h
    · rw [kr_sx_0 e] at h
      cases h
  | succ f ih =>
    intro u V L z hu hUV h
    by_cases e : u = t
    · rw [e] at h
      rw [e]
      exact hend (f + 1) V L z h
    · rw [kr_sx_s e] at h
      obtain ⟨r, hr, hv⟩ := kr_fm_some _ h
      obtain ⟨h1, h2, h3, h4⟩ := kr_sv_some hv
      have hUto : U (g.2.2.1 r) = false := by
        cases q : U (g.2.2.1 r) with
        | false => rfl
        | true =>
          rw [hUV _ q] at h3
          cases h3
      obtain ⟨p, hp, hle⟩ := ih (g.2.2.1 r) _ _ _ hUto (fun q hq => by show (V q || decide (q = g.2.2.1 r)) = true; rw [hUV q hq]; rfl) h4
      obtain ⟨b, hb, hble⟩ := kr_rv_rd hg ht htn htw hr h1 (by rw [h2]; exact hu) hp
      rw [h2] at hb
      exact ⟨b, hb, by omega⟩
theorem kr_rv_seen {g : kr_G} {us U : Nat → Bool} {n t w : Nat} (hus : ∀ r, us r = true → U (g.2.1 r) = false) (htU : U t = false) (hw : U w = true) : kr_dst (kr_rv g us) n t w = none := by
  cases h : kr_dst (kr_rv g us) n t w with
  | none => rfl
  | some z =>
    obtain ⟨l, hl, _⟩ := kr_D_wk h
    rcases List.eq_nil_or_concat l with rfl | ⟨l', r, rfl⟩
    · have e : t = w := hl
      rw [e, hw] at htU
      cases htU
    · rw [List.concat_eq_append] at hl
      obtain ⟨x, x1, x2, x3, x4, x5⟩ := (kr_wk_app l' [r] t w).mp hl
      have e : g.2.1 r = w := x5
      have c := hus r x3
      rw [e, hw] at c
      cases c
/-- the roads of uf that begin outside U, turned round -/
def kr_ro (g : kr_G) (uf U : Nat → Bool) : kr_G := kr_rv g (fun r => uf r && !U (g.2.1 r))
theorem kr_ro_op {g : kr_G} {uf U : Nat → Bool} (huf : ∀ r, r < g.1 → uf r = true → g.2.2.2.2 r = true) : ∀ r, r < g.1 → (uf r && !U (g.2.1 r)) = true → g.2.2.2.2 r = true := fun r hr h => huf r hr (by rw [Bool.and_eq_true] at h; exact h.1)
theorem kr_ro_good {g : kr_G} {uf U : Nat → Bool} (hg : kr_good g) (huf : ∀ r, r < g.1 → uf r = true → g.2.2.2.2 r = true) : kr_good (kr_ro g uf U) := kr_rv_good hg (kr_ro_op huf)
/-- what a road on from u gives -/
theorem kr_sv_rest {g : kr_G} {uf U : Nat → Bool} {n o t u f r : Nat} {a D : Int} (hg : kr_good g) (ht : kr_tn g n) (h12 : n ≤ 12) (hon : o < n) (htn : t < n) (huf : ∀ r, r < g.1 → uf r = true → g.2.2.2.2 r = true) (htw : ∀ r, r < g.1 → g.2.2.2.2 r = true → ∃ j, j < g.1 ∧ uf j = true ∧ g.2.1 j = g.2.1 r ∧ g.2.2.1 j = g.2.2.1 r ∧ g.2.2.2.1 j = g.2.2.2.1 r) (hUt : U t = false) (ha : kr_dst g n o u = some a) (hD : kr_dst g n o t = some D) (hcnt : 11 ≤ f + kr_cntb U 12) (hr : r < g.1) (hur : uf r = true) (hfr : g.2.1 r = u) : (kr_dst (kr_ro g uf U) n t (g.2.2.1 r) = none ∧ kr_sv g t D f u U a r = none) ∨ ∃ p, kr_dst (kr_ro g uf U) n t (g.2.2.1 r) = some p ∧ U (g.2.2.1 r) = false ∧ ((D < a + g.2.2.2.1 r + p ∧ kr_sv g t D f u U a r = some (a + g.2.2.2.1 r + p)) ∨ (a + g.2.2.2.1 r + p = D ∧ kr_dst g n o (g.2.2.1 r) = some (a + g.2.2.2.1 r))) := by
  have hop := huf r hr hur
  have hgr := kr_rv_good hg (kr_ro_op (U := U) huf)
  have husU : ∀ q, (uf q && !U (g.2.1 q)) = true → U (g.2.1 q) = false := fun q hq => by
    rw [Bool.and_eq_true, Bool.not_eq_true'] at hq
    exact hq.2
  have htw' : kr_tws g (fun r => uf r && !U (g.2.1 r)) U := fun q q1 q2 q3 => by
    obtain ⟨j, j1, j2, j3, j4, j5⟩ := htw q q1 q2
    refine ⟨j, j1, ?_, j3, j4, j5⟩
    show (uf j && !U (g.2.1 j)) = true
    rw [j2, j3, q3]
    rfl
  unfold kr_ro
  cases hUw : U (g.2.2.1 r) with
  | true =>
    left
    exact ⟨kr_rv_seen husU hUt hUw, kr_sv_no (fun q => by rw [hUw] at q; cases q.2.2)⟩
  | false =>
    have hsub : ∀ q, U q = true → (U q || decide (q = g.2.2.1 r)) = true := fun q hq => by
      rw [hq]
      rfl
    have esv := kr_sv_in (goal := t) (f := f) (thr := D) (L := a) hop hfr hUw
    have low : ∀ z, kr_sv g t D f u U a r = some z → ∃ p, kr_dst (kr_rv g (fun r => uf r && !U (g.2.1 r))) n t (g.2.2.1 r) = some p ∧ a + g.2.2.2.1 r + p ≤ z := fun z hz => by
      rw [esv] at hz
      exact kr_sx_lo2 hgr ht htn htw' f _ _ _ _ hUw hsub hz
    cases hp : kr_dst (kr_rv g (fun r => uf r && !U (g.2.1 r))) n t (g.2.2.1 r) with
    | none =>
      left
      refine ⟨rfl, ?_⟩
      cases q : kr_sv g t D f u U a r with
      | none => rfl
      | some z =>
        obtain ⟨p, hp', _⟩ := low z q
        rw [hp] at hp'
        cases hp'
    | some p =>
      right
      refine ⟨p, rfl, rfl, ?_⟩
      obtain ⟨l, hl, hlw⟩ := kr_D_wk hp
      obtain ⟨l1, l2, l3⟩ := kr_rv_wk (kr_ro_op huf) l _ _ hl
      have l2' : kr_wt g l.reverse = p := l2.trans hlw
      obtain ⟨la, la1, la2⟩ := kr_D_wk ha
      obtain ⟨D1, d1, d2⟩ := kr_D_le hg ht hon (l := la ++ r :: l.reverse) (t := t) ((kr_wk_app _ _ _ _).mpr ⟨u, la1, hr, hop, hfr, l1⟩)
      rw [hD] at d1
      cases d1
      rw [kr_wt_app, la2] at d2
      have d2' : D ≤ a + (g.2.2.2.1 r + kr_wt g l.reverse) := d2
      by_cases hlt : D < a + g.2.2.2.1 r + p
      · left
        refine ⟨hlt, ?_⟩
        obtain ⟨l', s1, s2⟩ := kr_simple hg l.reverse.length l.reverse U (g.2.2.1 r) (Nat.le_refl _) l1 (fun q hq => husU q (l3 q (List.mem_reverse.mp hq))) hUt
        have hn := kr_sw_n ht h12 l' _ _ s1
        rw [kr_cntb_add (by have := (ht r hr).2; omega) hUw] at hn
        obtain ⟨p1, p2, p3⟩ := kr_sw_lo hgr ht htn htw' l' (g.2.2.1 r) _ hUw hsub s1
        rw [hp] at p2
        cases p2
        obtain ⟨z, z1, z2⟩ := kr_sx_up (D := D) l' f (g.2.2.1 r) _ (a + g.2.2.2.1 r) (by show (U (g.2.2.1 r) || decide (g.2.2.1 r = g.2.2.1 r)) = true; rw [decide_eq_true rfl, Bool.or_true]) s1 (by omega) (by omega)
        have z3 := esv.trans z1
        obtain ⟨p4, p5, p6⟩ := low z z3
        rw [hp] at p5
        cases p5
        rw [z3, show z = a + g.2.2.2.1 r + p by omega]
      · right
        refine ⟨by omega, ?_⟩
        obtain ⟨b, b1, b2⟩ := kr_D_rd hg ht hon hr hop (a := a) (by rw [hfr]; exact ha)
        obtain ⟨lb, lb1, lb2⟩ := kr_D_wk b1
        obtain ⟨D2, e1, e2⟩ := kr_D_le hg ht hon (l := lb ++ l.reverse) (t := t) ((kr_wk_app _ _ _ _).mpr ⟨_, lb1, l1⟩)
        rw [hD] at e1
        cases e1
        rw [kr_wt_app, lb2, l2'] at e2
        rw [b1, show b = a + g.2.2.2.1 r by omega]
theorem kr_isM_fm {v : Nat → Option Int} {b : Option Int} : ∀ k : Nat, kr_isM (fun y => b = some y ∨ ∃ i, i < k ∧ v i = some y) (kr_fm b v k)
  | 0 => kr_isM_c (kr_isM_1 b) (fun y => ⟨Or.inl, fun h => h.elim id (fun ⟨i, hi, _⟩ => absurd hi (Nat.not_lt_zero _))⟩)
  | k + 1 => kr_isM_c (kr_isM_mn (kr_isM_fm k) (kr_isM_1 (v k))) (fun y => by
    constructor
    · intro h
      rcases h with (h | ⟨i, hi, h⟩) | h
      · exact Or.inl h
      · exact Or.inr ⟨i, by omega, h⟩
      · exact Or.inr ⟨k, by omega, h⟩
    · intro h
      rcases h with h | ⟨i, hi, h⟩
      · exact Or.inl (Or.inl h)
      · by_cases e : i = k
        · rw [e] at h
          exact Or.inr h
        · exact Or.inl (Or.inr ⟨i, by omega, h⟩))
theorem kr_fm_two {b : Option Int} {v1 v2 s : Nat → Option Int} {k : Nat} (h1 : ∀ i, i < k → ∀ z, v1 i = some z → s i = some z) (h2 : ∀ i, i < k → ∀ z, v2 i = some z → s i = some z) (h3 : ∀ i, i < k → ∀ z, s i = some z → ∃ j, j < k ∧ (v1 j = some z ∨ v2 j = some z)) : kr_fm (kr_fm b v1 k) v2 k = kr_mn b (kr_fm none s k) := by
  rw [kr_fm_b (kr_fm b v1 k) v2 k, ← kr_fm_b b s k]
  refine kr_isM_u (kr_isM_c (kr_isM_mn (kr_isM_fm (b := b) (v := v1) k) (kr_isM_fm (b := none) (v := v2) k)) (fun y => ?_)) (kr_isM_fm (b := b) (v := s) k)
  constructor
  · intro h
    rcases h with (h | ⟨i, hi, h⟩) | (h | ⟨i, hi, h⟩)
    · exact Or.inl h
    · exact Or.inr ⟨i, hi, h1 i hi y h⟩
    · cases h
    · exact Or.inr ⟨i, hi, h2 i hi y h⟩
  · intro h
    rcases h with h | ⟨i, hi, h⟩
    · exact Or.inl (Or.inl h)
    · obtain ⟨j, hj, q⟩ := h3 i hi y h
      rcases q with q | q
      · exact Or.inl (Or.inr ⟨j, hj, q⟩)
      · exact Or.inr (Or.inr ⟨j, hj, q⟩)
