/-! The dearest road to lose. -/
/-- length and road: a is before b (greater length, then lower number) -/
def kp_bf (la : Option Int) (ra : Nat) (lb : Option Int) (rb : Nat) : Prop := kr_ls lb la = true ∨ (la = lb ∧ ra < rb)
/-- r is the first of the roads R i, i < k, by that order -/
def kp_top (L : Nat → Option Int) (R : Nat → Nat) (S : Nat → Prop) (r : Nat) : Prop := (∃ i, S i ∧ R i = r) ∧ ∀ i, S i → R i = r ∨ kp_bf (L r) r (L (R i)) (R i)
theorem kr_ls_t {a b c : Option Int} (h1 : kr_ls a b = true) (h2 : kr_ls b c = true) : kr_ls a c = true := by
  cases a with
  | none => cases h1
  | some x =>
    cases b with
    | none => cases h2
    | some y =>
      cases c with
      | none => rfl
      | some z =>
        simp only [kr_ls, decide_eq_true_eq] at h1 h2 ⊢
        omega
theorem kr_ls_i (a : Option Int) : kr_ls a a = false := by
  cases a with
  | none => rfl
  | some x => simp [kr_ls]
theorem kr_ls_tri (a b : Option Int) : kr_ls a b = true ∨ a = b ∨ kr_ls b a = true := by
  cases a with
  | none =>
    cases b with
    | none => exact Or.inr (Or.inl rfl)
    | some y => exact Or.inr (Or.inr rfl)
  | some x =>
    cases b with
    | none => exact Or.inl rfl
    | some y =>
      simp only [kr_ls, decide_eq_true_eq]
      by_cases h : x = y
      · exact Or.inr (Or.inl (by rw [h]))
      · by_cases h2 : x < y
        · exact Or.inl h2
        · exact Or.inr (Or.inr (by omega))
theorem kp_bf_as {la lb : Option Int} {ra rb : Nat} (h1 : kp_bf la ra lb rb) (h2 : kp_bf lb rb la ra) : False := by
  rcases h1 with h1 | ⟨e1, h1⟩
  · rcases h2 with h2 | ⟨e2, h2⟩
    · have := kr_ls_t h1 h2
      rw [kr_ls_i] at this
      cases this
    · rw [e2, kr_ls_i] at h1
      cases h1
  · rcases h2 with h2 | ⟨e2, h2⟩
    · rw [e1, kr_ls_i] at h2
      cases h2
    · omega
theorem kp_bf_t {la lb lc : Option Int} {ra rb rc : Nat} (h1 : kp_bf la ra lb rb) (h2 : kp_bf lb rb lc rc) : kp_bf la ra lc rc := by
  rcases h1 with h1 | ⟨e1, h1⟩
  · rcases h2 with h2 | ⟨e2, h2⟩
    · exact Or.inl (kr_ls_t h2 h1)
    · rw [e2] at h1; exact Or.inl h1
  · rcases h2 with h2 | ⟨e2, h2⟩
    · rw [e1]; exact Or.inl h2
    · exact Or.inr ⟨e1.trans e2, by omega⟩
theorem kp_top_u {L : Nat → Option Int} {R : Nat → Nat} {S : Nat → Prop} {a b : Nat} (ha : kp_top L R S a) (hb : kp_top L R S b) : a = b := by
  obtain ⟨⟨i, hi, ei⟩, h1⟩ := ha
  obtain ⟨⟨j, hj, ej⟩, h2⟩ := hb
  rcases h1 j hj with e | h
  · rw [← e, ej]
  · rcases h2 i hi with e | h'
    · rw [← ei, e]
    · rw [ej] at h
      rw [ei] at h'
      exact absurd h' (fun q => kp_bf_as h q)
/-- one road more -/
theorem kp_top_new {L : Nat → Option Int} {R : Nat → Nat} {S T : Nat → Prop} {a k : Nat} (h : kp_top L R S a) (hT : ∀ i, T i ↔ S i ∨ i = k) (hb : kp_bf (L (R k)) (R k) (L a) a ∨ R k = a) : kp_top L R T (R k) := by
  refine ⟨⟨k, (hT k).mpr (Or.inr rfl), rfl⟩, fun i hi => ?_⟩
  rcases (hT i).mp hi with h1 | rfl
  · rcases hb with hb | hb
    · rcases h.2 i h1 with e | h2
      · rw [e]; exact Or.inr hb
      · exact Or.inr (kp_bf_t hb h2)
    · rw [hb]
      exact h.2 i h1
  · exact Or.inl rfl
theorem kp_top_old {L : Nat → Option Int} {R : Nat → Nat} {S T : Nat → Prop} {a k : Nat} (h : kp_top L R S a) (hT : ∀ i, T i ↔ S i ∨ i = k) (hb : kp_bf (L a) a (L (R k)) (R k) ∨ R k = a) : kp_top L R T a := by
  obtain ⟨⟨i, hi, ei⟩, h1⟩ := h
  refine ⟨⟨i, (hT i).mpr (Or.inl hi), ei⟩, fun j hj => ?_⟩
  rcases (hT j).mp hj with h2 | rfl
  · exact h1 j h2
  · rcases hb with hb | hb
    · exact Or.inr hb
    · exact Or.inl hb
theorem kp_top_one {L : Nat → Option Int} {R : Nat → Nat} {T : Nat → Prop} {k : Nat} (hT : ∀ i, T i ↔ i = k) : kp_top L R T (R k) := ⟨⟨k, (hT k).mpr rfl, rfl⟩, fun i hi => Or.inl (by rw [(hT i).mp hi])⟩
def kb_wo_ (F : Nat → Int32) (n m o t r : Nat) : Option Int := kr_bf (km_gr F m (nI r)) (kr_one o) (n - 1) t
/-- the class's loop over the way's roads -/
theorem kx_dearLoop {σ : kw_M} {F : Nat → Int32} {n m o t N : Nat} {R : Nat → Nat} (hok : kb_ok F n m o) (hsh : kx_sh σ 1 12 F n m o) (ht : t < n) (hN0 : 0 < N) (hN : N < 12) (hR : ∀ i, i < N → R i < m) (h42 : ∀ i, i < N → σ.1 42 i = nI (R i)) : ∃ a τ, kw_loop (fun s => bX9_dearestRoad_15 (nI t) (nI N) s.1 s.2.1 s.2.2.1 s.2.2.2) kw_F ((-2 : Int32), (0 : Int64), (0 : Int32), σ) = some (nI a, τ) ∧ kp_top (kb_wo_ F n m o t) R (fun i => i < N) a ∧ kx_oL σ τ 41 := by
  have hm := hok.1.2.2.2.1.1
  have h12 := hok.1.2.2.1
  have hbd := fun r => kb_bd hok.1.2.2.2.1 h12 (nI r) o t
  have stp : ∀ (k : Nat) (v3 : Int32) (v4 : Int64) (τ : kw_M), k < N → kx_oL σ τ 41 → (k = 0 ∧ v3 = -2 ∨ ∃ a, a < m ∧ v3 = nI a ∧ v4 = kx_enc (kb_wo_ F n m o t a) ∧ kp_top (kb_wo_ F n m o t) R (fun i => i < k) a) → ∃ a τ2, a < m ∧ bX9_dearestRoad_15 (nI t) (nI N) v3 v4 (nI k) τ = some (.inl (nI a, kx_enc (kb_wo_ F n m o t a), nI (k + 1), τ2)) ∧ kp_top (kb_wo_ F n m o t) R (fun i => i < k + 1) a ∧ kx_oL σ τ2 41 := fun k v3 v4 τ hk ho hv => by
    obtain ⟨o1, o2⟩ := ho
    have hshτ : kx_sh τ 1 12 F n m o := kx_sh_N hsh ⟨fun c _ => by rw [o1], fun c hc => o2 c (by omega)⟩
    have hRk := hR k hk
    have hT : ∀ i, i < k + 1 ↔ i < k ∨ i = k := fun i => by omega
    have oo : kx_oL σ (kx_row τ 41 (kr_bf (km_gr F m (nI (R k))) (kr_one o) (n - 1))) 41 := ⟨o1, fun q hq => by rw [kx_row_o hq]; exact o2 q hq⟩
    unfold bX9_dearestRoad_15 jX9_dearestRoad_53_L15
    rw [if_neg (nI_ge hk (by omega)), kn_chk (by omega) (by decide), kn_clamp (by omega), o1, h42 k hk, kw_let_def, kx_without hok hshτ hRk (by omega), Option.bind_some]
    simp only [kw_let_def, km_next]
    rcases hv with ⟨rfl, rfl⟩ | ⟨a, ha, rfl, rfl, htop⟩
    · rw [if_pos rfl, if_neg (show ¬ (1 : Int32) = 0 by decide)]
      exact ⟨R 0, _, hRk, rfl, kp_top_one (fun i => by omega), oo⟩
    · have hne : ¬ nI a = (-2 : Int32) := fun q => by
        have h1 := congrArg Int32.toInt q
        rw [nI_toInt (by omega), show (-2 : Int32).toInt = -2 by decide] at h1
        omega
      rw [if_neg hne, if_pos trivial, kx_isLess (a := kb_wo_ F n m o t a) (b := kr_bf (km_gr F m (nI (R k))) (kr_one o) (n - 1) t) (hbd a) (hbd (R k)), Option.bind_some]
      simp only [kx_fl_0]
      have eL : kr_bf (km_gr F m (nI (R k))) (kr_one o) (n - 1) t = kb_wo_ F n m o t (R k) := rfl
      rw [eL]
      cases hl : kr_ls (kb_wo_ F n m o t a) (kb_wo_ F n m o t (R k)) with
      | true =>
        rw [kn_tf]
        exact ⟨R k, _, hRk, rfl, kp_top_new htop hT (Or.inl (Or.inl hl)), oo⟩
      | false =>
        rw [kn_ff]
        simp only [kx_enc_eq (hbd (R k)) (hbd a), show kr_bf (km_gr F m (nI (R k))) (kr_one o) (n - 1) t = kb_wo_ F n m o t (R k) from rfl, kn_le (show a < 2147483648 by omega) (show R k < 2147483648 by omega)]
        have eqs : (kx_enc (kb_wo_ F n m o t (R k)) = kx_enc (kb_wo_ F n m o t a)) = (kb_wo_ F n m o t (R k) = kb_wo_ F n m o t a) := kx_enc_eq (hbd (R k)) (hbd a)
        simp only [eqs]
        by_cases he : kb_wo_ F n m o t (R k) = kb_wo_ F n m o t a
        · rw [if_pos he]
          by_cases hr : a ≤ R k
          · rw [if_pos hr]
            refine ⟨a, _, ha, rfl, kp_top_old htop hT ?_, oo⟩
            by_cases q : R k = a
            · exact Or.inr q
            · exact Or.inl (Or.inr ⟨he.symm, by omega⟩)
          · rw [if_neg hr]
            exact ⟨R k, _, hRk, rfl, kp_top_new htop hT (Or.inl (Or.inr ⟨he, by omega⟩)), oo⟩
        · rw [if_neg he]
          refine ⟨a, _, ha, rfl, kp_top_old htop hT (Or.inl (Or.inl ?_)), oo⟩
          rcases kr_ls_tri (kb_wo_ F n m o t a) (kb_wo_ F n m o t (R k)) with q | q | q
          · rw [hl] at q; cases q
          · exact absurd q.symm he
          · exact q
  obtain ⟨x, hx, a, x1, x2, x3⟩ := kw_for (body := fun s => bX9_dearestRoad_15 (nI t) (nI N) s.1 s.2.1 s.2.2.1 s.2.2.2) (fun k s => s.2.2.1 = nI k ∧ kx_oL σ s.2.2.2 41 ∧ (k = 0 ∧ s.1 = -2 ∨ ∃ a, a < m ∧ s.1 = nI a ∧ s.2.1 = kx_enc (kb_wo_ F n m o t a) ∧ kp_top (kb_wo_ F n m o t) R (fun i => i < k) a)) (fun x => ∃ a, x.1 = nI a ∧ kp_top (kb_wo_ F n m o t) R (fun i => i < N) a ∧ kx_oL σ x.2 41) N (by omega) (s0 := ((-2 : Int32), (0 : Int64), (0 : Int32), σ)) ⟨rfl, ⟨rfl, fun _ _ => rfl⟩, Or.inl ⟨rfl, rfl⟩⟩ (fun k s hk hp => by
    obtain ⟨v3, v4, v6, τ⟩ := s
    obtain ⟨e1, e2, e3⟩ := hp
    dsimp only at e1 e2 e3 ⊢
    subst e1
    by_cases hkN : k < N
    · left
      obtain ⟨a, τ2, s1, s2, s3, s4⟩ := stp k v3 v4 τ hkN e2 e3
      exact ⟨hkN, _, s2, rfl, s4, Or.inr ⟨a, s1, rfl, rfl, s3⟩⟩
    · right
      obtain rfl : k = N := by omega
      unfold bX9_dearestRoad_15
      rw [if_pos (nI_le (Nat.le_refl k) (by omega))]
      rcases e3 with ⟨q, _⟩ | ⟨a, _, q1, _, q2⟩
      · omega
      · exact ⟨_, rfl, a, q1, q2, e2⟩)
  exact ⟨a, x.2, by rw [hx, ← x1], x2, x3⟩
