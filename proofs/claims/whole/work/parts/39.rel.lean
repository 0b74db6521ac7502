/-! The relation of the two memories; a change keeps it. -/
def kx_kp (σX σM : kw_M) : Prop := σX.1 0 2 = σM.1 0 1 ∧ (σM.1 0 1 = 0 ∨ (σM.1 0 1 = 1 ∧ ∃ n m o, kb_ok (fun j => σM.1 1 (708 + j)) n m o ∧ kx_sh σX 2 22 (fun j => σM.1 1 (708 + j)) n m o))
def kx_tp (σX σM : kw_M) : Prop := ∃ s, s ≤ 240 ∧ σX.1 3 0 = nI s ∧ σM.1 0 6 = nI s ∧ ∀ i, i < s → σX.1 35 i = σM.1 5 i &&& 255
def kx_pr (σ : kw_M) (F : Nat → Int32) (n m : Nat) : Prop := σ.1 5 0 = 0 ∨ (σ.1 5 0 = 1 ∧ σ.1 5 1 = nI n ∧ ∀ a, a < n → ∀ b, b < 12 → σ.2 39 (a * 12 + b) = kx_enc (kr_bf (km_gr F m (-1)) (kr_one a) (n - 1) b))
def kw_Rel (σX σM : kw_M) : Prop := ∃ n m o, kb_ok (σM.1 1) n m o ∧ kx_sh σX 1 12 (σM.1 1) n m o ∧ kx_kp σX σM ∧ kx_tp σX σM ∧ kx_pr σX (σM.1 1) n m
/-- the class's cells but those of the State now, of what is aside, and of reckoning -/
def kx_kO (σ τ : kw_M) : Prop := (∀ c, (c = 0 ∨ c = 2 ∨ c = 3 ∨ (22 ≤ c ∧ c < 31) ∨ c = 35) → τ.1 c = σ.1 c) ∧ ∀ c, (c = 22 ∨ c = 26 ∨ c = 31) → τ.2 c = σ.2 c
/-- the cells of the State now -/
def kx_kN (σ τ : kw_M) : Prop := (∀ c, (c = 1 ∨ (12 ≤ c ∧ c < 21)) → τ.1 c = σ.1 c) ∧ ∀ c, (c = 12 ∨ c = 16 ∨ c = 21) → τ.2 c = σ.2 c
theorem kx_kO_r (σ : kw_M) : kx_kO σ σ := ⟨fun _ _ => rfl, fun _ _ => rfl⟩
theorem kx_kN_r (σ : kw_M) : kx_kN σ σ := ⟨fun _ _ => rfl, fun _ _ => rfl⟩
theorem kx_kO_t {a b c : kw_M} (h : kx_kO a b) (g : kx_kO b c) : kx_kO a c := ⟨fun q hq => (g.1 q hq).trans (h.1 q hq), fun q hq => (g.2 q hq).trans (h.2 q hq)⟩
theorem kx_kN_t {a b c : kw_M} (h : kx_kN a b) (g : kx_kN b c) : kx_kN a c := ⟨fun q hq => (g.1 q hq).trans (h.1 q hq), fun q hq => (g.2 q hq).trans (h.2 q hq)⟩
/-- what the reference keeps beside the block now: the block kept, whether, and the tape -/
def km_kO (σ τ : kw_M) : Prop := (∀ j, 708 ≤ j → j < 1416 → τ.1 1 j = σ.1 1 j) ∧ τ.1 0 1 = σ.1 0 1 ∧ τ.1 0 6 = σ.1 0 6 ∧ τ.1 5 = σ.1 5
theorem km_kO_r (σ : kw_M) : km_kO σ σ := ⟨fun _ _ _ => rfl, rfl, rfl, rfl⟩
theorem km_kO_t {a b c : kw_M} (h : km_kO a b) (g : km_kO b c) : km_kO a c := ⟨fun j h1 h2 => (g.1 j h1 h2).trans (h.1 j h1 h2), g.2.1.trans h.2.1, g.2.2.1.trans h.2.2.1, g.2.2.2.trans h.2.2.2⟩
theorem kx_sh_N {σ τ : kw_M} {F : Nat → Int32} {n m o : Nat} (h : kx_sh σ 1 12 F n m o) (k : kx_kN σ τ) : kx_sh τ 1 12 F n m o := kx_sh_fr (Or.inl rfl) h (k.1 1 (by omega)) (fun c h1 h2 => k.1 c (by omega)) (k.2 _ (by omega)) (k.2 _ (by omega)) (k.2 _ (by omega))
theorem kx_kp_O {σX σM τX τM : kw_M} (h : kx_kp σX σM) (kx : kx_kO σX τX) (km : km_kO σM τM) : kx_kp τX τM := by
  obtain ⟨h1, h2⟩ := h
  refine ⟨by rw [kx.1 0 (by omega), km.2.1]; exact h1, ?_⟩
  rw [km.2.1]
  rcases h2 with h2 | ⟨h2, n, m, o, h3, h4⟩
  · exact Or.inl h2
  · refine Or.inr ⟨h2, n, m, o, kb_ok_eq h3 (fun j hj => km.1 _ (by omega) (by omega)), kx_sh_eq h3 ?_ (fun j hj => km.1 _ (by omega) (by omega))⟩
    exact kx_sh_fr (Or.inr rfl) h4 (kx.1 2 (by omega)) (fun c h5 h6 => kx.1 c (by omega)) (kx.2 _ (by omega)) (kx.2 _ (by omega)) (kx.2 _ (by omega))
theorem kx_tp_O {σX σM τX τM : kw_M} (h : kx_tp σX σM) (kx : kx_kO σX τX) (km : km_kO σM τM) : kx_tp τX τM := by
  obtain ⟨s, h1, h2, h3, h4⟩ := h
  refine ⟨s, h1, by rw [kx.1 3 (by omega)]; exact h2, by rw [km.2.2.1]; exact h3, ?_⟩
  rw [kx.1 35 (by omega), km.2.2.2]
  exact h4
theorem kx_pr_eq {σ τ : kw_M} {F G : Nat → Int32} {n m : Nat} (h : kx_pr σ F n m) (h5 : τ.1 5 = σ.1 5) (h39 : τ.2 39 = σ.2 39) (hF : ∀ j, 28 ≤ j → j < 28 + 4 * m → G j = F j) : kx_pr τ G n m := by
  unfold kx_pr
  rw [h5, h39]
  rcases h with h | ⟨h1, h2, h3⟩
  · exact Or.inl h
  · refine Or.inr ⟨h1, h2, fun a ha b hb => ?_⟩
    rw [kr_same_bf (kb_gr_same hF (-1))]
    exact h3 a ha b hb
/-- nothing was changed but cells of reckoning -/
theorem kw_Rel_q {σX σM τX τM : kw_M} (h : kw_Rel σX σM) (kO : kx_kO σX τX) (kN : kx_kN σX τX) (h5 : τX.1 5 = σX.1 5) (h39 : τX.2 39 = σX.2 39) (km : km_kO σM τM) (h1 : ∀ j, j < 708 → τM.1 1 j = σM.1 1 j) : kw_Rel τX τM := by
  obtain ⟨n, m, o, a, b, c, d, e⟩ := h
  have hm := a.1.2.2.2.1.1
  exact ⟨n, m, o, kb_ok_eq a h1, kx_sh_eq a (kx_sh_N b kN) h1, kx_kp_O c kO km, kx_tp_O d kO km, kx_pr_eq e h5 h39 (fun j _ _ => h1 j (by omega))⟩
/-- a change, at the point at which it is judged -/
theorem kw_change {σX σM σX1 σM1 : kw_M} {n m m0 o o0 : Nat} {v : Int32} {ring : Bool} (hok : kb_ok (σM.1 1) n m0 o0) (hsh : kx_sh σX 1 12 (σM.1 1) n m0 o0) (hkp : kx_kp σX σM) (htp : kx_tp σX σM) (hpr : kx_pr σX (σM.1 1) n m0) (kO : kx_kO σX σX1) (kN : kx_kN σX σX1) (h5 : σX1.1 5 = σX.1 5) (h39 : σX1.2 39 = σX.2 39) (hrd : kx_rd σX1 10 (σM1.1 1) m) (km : km_kO σM σM1) (hold : ∀ j, j < 708 → σM1.1 1 (1416 + j) = σM.1 1 j) (hrow : ∀ t, t < 12 → σM1.2 4 t = km_enc (kb_D (σM.1 1) n m0 o0 t)) (hch : kb_chg (σM.1 1) (σM1.1 1)) (hw : kb_wf (σM1.1 1) n m) (ho : σM1.1 1 2 = nI o) (hon : o < n) (hh : kb_hand (σM1.1 1) n m v ring) : ∃ a τX τM, fX9_doChange v (nI o) σX1 = some (a, τX) ∧ fX10_ends (kx_fl ring) σM1 = some (a, τM) ∧ kw_Rel τX τM ∧ (a = -3 ∨ a = -4 ∨ ∃ k, k ≤ 12 ∧ a = nI k) := by
  have hn := hw.2.2.1
  obtain ⟨τ, j1, j2, j3, j4⟩ := kx_judge hrd hw hh hon
  obtain ⟨e', he2, he⟩ := hok.2.2.2.2.2.2.1
  have heG : σM1.1 1 4 = nI e' := by rw [hch 4 (by omega)]; exact he
  have kOτ : kx_kO σX τ := kx_kO_t kO ⟨fun c _ => by rw [j2], fun c hc => j3 c (by omega) (by omega)⟩
  have kNτ : kx_kN σX τ := kx_kN_t kN ⟨fun c _ => by rw [j2], fun c hc => j3 c (by omega) (by omega)⟩
  have hE : ∀ u, kr_bd (kb_D (σM.1 1) n m0 o0 u) := fun u => kb_D_bd hok.1.2.2.2.1 hn u
  have hends := km_ends (σ := σM1) (E := kb_D (σM.1 1) n m0 o0) hw.2.2.2.1 hw.1 (by have := hw.2.1; omega) hn ho (by omega) heG he2 hrow hE
  unfold fX9_doChange
  rw [j1, Option.bind_some]
  have back : ∀ τM : kw_M, km_fr σM1 τM → τM.1 1 = va_cpy (σM1.1 1) (σM1.1 1) 1416 0 708 → kw_Rel τ τM := fun τM f1 f2 => by
    have hlow : ∀ j, j < 708 → τM.1 1 j = σM.1 1 j := fun j hj => by
      rw [f2]
      unfold va_cpy
      rw [if_pos (by omega), show 1416 + (j - 0) = 1416 + j by omega]
      exact hold j hj
    have km' : km_kO σM τM := by
      refine ⟨fun j h1 h2 => ?_, ?_, ?_, ?_⟩
      · rw [f2]
        unfold va_cpy
        rw [if_neg (by omega)]
        exact km.1 j h1 h2
      · rw [f1 0 (by decide)]
        exact km.2.1
      · rw [f1 0 (by decide)]
        exact km.2.2.1
      · rw [f1 5 (by decide)]
        exact km.2.2.2
    exact kw_Rel_q ⟨n, m0, o0, hok, hsh, hkp, htp, hpr⟩ kOτ kNτ (by rw [j2]; exact h5) (by rw [j3 39 (by decide) (by decide)]; exact h39) km' hlow
  cases ring with
  | true =>
    obtain ⟨τM, m1, m2, m3⟩ := km_ends_ring (σ := σM1)
    have ej : kb_judge (σM1.1 1) n m o true = -3 := if_pos rfl
    rw [ej, if_neg (show ¬ (-3 : Int32) = 0 by decide)]
    exact ⟨-3, τ, τM, rfl, m1, back τM m2 m3, Or.inl rfl⟩
  | false =>
    cases hb : kr_anyTo (kr_bad (kb_D (σM1.1 1) n m o)) n with
    | true =>
      obtain ⟨τM, m1, m2, m3⟩ := hends.1 hb
      have ej : kb_judge (σM1.1 1) n m o false = -4 := by
        unfold kb_judge
        rw [if_neg (by decide), if_pos hb]
      rw [ej, if_neg (show ¬ (-4 : Int32) = 0 by decide)]
      exact ⟨-4, τ, τM, rfl, m1, back τM m2 m3, Or.inr (Or.inl rfl)⟩
    | false =>
      obtain ⟨τM, m1, m2, m3⟩ := hends.2 hb
      have ej : kb_judge (σM1.1 1) n m o false = 0 := by
        unfold kb_judge
        rw [if_neg (by decide), hb, if_neg (by decide)]
      rw [ej, if_pos rfl]
      have hrdτ : kx_rd τ 10 (σM1.1 1) m := kx_rd_fr hrd (by rw [j2]) (by rw [j2]) (by rw [j2]) (by rw [j2]) (j3 10 (by decide) (by decide))
      obtain ⟨ρ, t1, t2, t3, t4, t5⟩ := kx_takeOver hok (kx_sh_N hsh kNτ) hch hrdτ hw ho hb (j4 rfl)
      dsimp only
      rw [t1, Option.bind_some, kw_let_def]
      refine ⟨nI (kb_cnt (kb_D (σM1.1 1) n m o) (kb_D (σM.1 1) n m0 o0) n), kw_si ρ 5 0 0, τM, ?_, m1, ?_, Or.inr (Or.inr ⟨_, by have := kb_cnt_le (kb_D (σM1.1 1) n m o) (kb_D (σM.1 1) n m0 o0) n; omega, rfl⟩)⟩
      · rw [kw_si_o (by decide), t3]
      · have kO' : kx_kO σX (kw_si ρ 5 0 0) := by
          refine kx_kO_t kOτ ⟨fun c hc => ?_, fun c hc => ?_⟩
          · rw [kw_si_o (by omega)]
            exact t4 c (by omega) (by omega) (by omega) (by omega) (by omega) (by omega) (by omega) (by omega)
          · rw [kw_si_2]
            exact t5 c (by omega) (by omega) (by omega)
        have km' : km_kO σM τM := by
          refine ⟨fun j h1 h2 => ?_, ?_, ?_, ?_⟩
          · rw [m3, kb_end_o heG he2 hn (Or.inr h1)]
            exact km.1 j h1 h2
          · rw [m2 0 (by decide)]
            exact km.2.1
          · rw [m2 0 (by decide)]
            exact km.2.2.1
          · rw [m2 5 (by decide)]
            exact km.2.2.2
        refine ⟨n, m, o, ?_, ?_, kx_kp_O hkp kO' km', kx_tp_O htp kO' km', Or.inl ?_⟩
        · rw [m3]
          exact kb_end_ok hok hch hw ho hon (kb_hand_good hw hh) hb
        · rw [m3]
          exact kx_sh_N t2 ⟨fun c hc => kw_si_o (by omega), fun c hc => rfl⟩
        · rw [kw_si_1, kw_upd_e]
