/-! Texts: a clause. -/
def kt_no (net : Bool) (k : Nat) (B : Nat → Nat) (p wl : Nat) : Prop := (net = true → (k = 0 → kt_is B p wl 0 = false) ∧ kt_is B p wl 1 = false) ∧ (net = false → ∀ w, 2 ≤ w → w ≤ 8 → kt_is B p wl w = false)
def kt_yes (net : Bool) (k : Nat) (B : Nat → Nat) (p wl w : Nat) : Prop := w < 9 ∧ kt_is B p wl w = true ∧ (net = true → (w = 0 ∧ k = 0) ∨ w = 1) ∧ (net = false → 2 ≤ w)
theorem kx_netWord {σ : kw_M} {B : Nat → Nat} {e p wl tw k : Nat} (hB : kt_B B e) (hp : p + wl ≤ e) (hk : k < 24) (T : kx_T σ B e (p + wl) tw) : ∃ r, fX3_netWord (nI p) (nI k) σ = some r ∧ ((r = -1 ∧ kt_no true k B p wl) ∨ ∃ w, r = nI w ∧ kt_yes true k B p wl w) := by
  have i0 := kx_isWord (j := 0) hB hp T (by decide)
  have i1 := kx_isWord (j := 1) hB hp T (by decide)
  have road : (k = 0 → kt_is B p wl 0 = false) → ∃ r, jX3_netWord_16 (nI p) σ = some r ∧ ((r = -1 ∧ kt_no true k B p wl) ∨ ∃ w, r = nI w ∧ kt_yes true k B p wl w) := fun h0 => by
    unfold jX3_netWord_16
    rw [i1, Option.bind_some]
    simp only [kx_fl_0]
    cases hr : kt_is B p wl 1 with
    | false =>
      rw [kn_ff]
      exact ⟨_, rfl, Or.inl ⟨rfl, fun _ => ⟨h0, hr⟩, fun q => (by cases q)⟩⟩
    | true =>
      rw [kn_tf]
      exact ⟨_, rfl, Or.inr ⟨1, rfl, by decide, hr, fun _ => Or.inr rfl, fun q => (by cases q)⟩⟩
  unfold fX3_netWord
  by_cases k0 : k = 0
  · rw [if_pos (by rw [k0]; decide), i0, Option.bind_some]
    simp only [kx_fl_0]
    cases ht : kt_is B p wl 0 with
    | false =>
      rw [kn_ff]
      exact road (fun _ => ht)
    | true =>
      rw [kn_tf]
      exact ⟨_, rfl, Or.inr ⟨0, rfl, by decide, ht, fun _ => Or.inl ⟨rfl, k0⟩, fun q => (by cases q)⟩⟩
  · rw [if_neg (by rw [kn_0, kn_eq (by omega) (by decide)]; exact k0)]
    exact road (fun q => absurd q k0)
theorem kx_orderText {w : Nat} (h2 : 2 ≤ w) (h8 : w ≤ 8) (σ : kw_M) : fX3_orderText (nI w) σ = some (100 + w) := by
  have e : fX3_orderText (nI w) σ = fX3_orderText (nI w) kw_M0 := rfl
  have h : ∀ w, w < 9 → 2 ≤ w → fX3_orderText (nI w) kw_M0 = some (100 + w) := by decide
  rw [e, h w (by omega) h2]
theorem kx_orderWord {σ : kw_M} {B : Nat → Nat} {e p wl tw k : Nat} (hB : kt_B B e) (hp : p + wl ≤ e) (T : kx_T σ B e (p + wl) tw) : ∃ r, fX3_orderWord (nI p) σ = some r ∧ ((r = -1 ∧ kt_no false k B p wl) ∨ ∃ w, r = nI w ∧ kt_yes false k B p wl w) := by
  obtain ⟨x, hx, hQ⟩ := kw_for (body := fun s => bX3_orderWord_2 (nI p) σ s) (fun j s => s = nI (2 + j) ∧ ∀ w, 2 ≤ w → w < 2 + j → kt_is B p wl w = false) (fun x => (x = .inr () ∧ ∀ w, 2 ≤ w → w ≤ 8 → kt_is B p wl w = false) ∨ ∃ w, 2 ≤ w ∧ w ≤ 8 ∧ x = .inl (nI w) ∧ kt_is B p wl w = true) 7 (by decide) (s0 := (2 : Int32)) ⟨rfl, fun w h1 h2 => absurd h2 (by omega)⟩ (fun j s hj hP => by
    obtain ⟨rfl, h2⟩ := hP
    unfold bX3_orderWord_2
    by_cases hj7 : j < 7
    case neg =>
      right
      rw [if_pos (by rw [show (8 : Int32) = nI 8 by decide, kn_lt (by omega) (by omega)]; omega)]
      exact ⟨_, rfl, Or.inl ⟨rfl, fun w h1 h3 => h2 w h1 (by omega)⟩⟩
    rw [if_neg (by rw [show (8 : Int32) = nI 8 by decide, kn_lt (by omega) (by omega)]; omega), kx_orderText (by omega) (by omega), Option.bind_some, kx_isWord hB hp T (by omega), Option.bind_some]
    simp only [kx_fl_0, kw_let_def, km_next]
    cases hi : kt_is B p wl (2 + j) with
    | false =>
      left
      rw [kn_ff]
      refine ⟨hj7, _, rfl, rfl, fun w h1 h3 => ?_⟩
      by_cases e : w = 2 + j
      · rw [e]; exact hi
      · exact h2 w h1 (by omega)
    | true =>
      right
      rw [kn_tf]
      exact ⟨_, rfl, Or.inr ⟨2 + j, by omega, by omega, rfl, hi⟩⟩)
  unfold fX3_orderWord
  rw [hx, Option.bind_some]
  rcases hQ with ⟨rfl, h1⟩ | ⟨w, h1, h2, rfl, h3⟩
  · rw [Sum.elim_inr]
    exact ⟨_, rfl, Or.inl ⟨rfl, fun q => (by cases q), fun _ => h1⟩⟩
  · rw [Sum.elim_inl]
    exact ⟨_, rfl, Or.inr ⟨w, rfl, by omega, h3, fun q => (by cases q), fun _ => h1⟩⟩
/-- what the class leaves as it is where it reads a clause -/
def kx_D (k : Nat) (σ τ : kw_M) : Prop := τ.2 = σ.2 ∧ (∀ c, c ≠ 4 → c ≠ 36 → c ≠ 37 → τ.1 c = σ.1 c) ∧ (∀ j, j ≠ 0 → j ≠ 6 → j ≠ 7 → τ.1 4 j = σ.1 4 j) ∧ (∀ s, s < 3 * k → τ.1 37 s = σ.1 37 s) ∧ ∀ i, i ≠ k → τ.1 36 i = σ.1 36 i
theorem kx_D_N {k : Nat} {σ τ : kw_M} (h : kx_N σ τ) : kx_D k σ τ := ⟨h.1, fun c h1 _ _ => h.2.1 c h1, fun j _ h1 h2 => h.2.2 j h1 h2, fun s _ => by rw [h.2.1 37 (by decide)], fun i _ => by rw [h.2.1 36 (by decide)]⟩
theorem kx_D_C {k : Nat} {σ τ : kw_M} (h : kx_C (3 * k) σ τ) : kx_D k σ τ := ⟨h.1, fun c h1 _ h2 => h.2.1 c h1 h2, fun j _ h1 h2 => h.2.2.1 j h1 h2, h.2.2.2, fun i _ => by rw [h.2.1 36 (by decide) (by decide)]⟩
theorem kx_D_t {k : Nat} {x y z : kw_M} (h : kx_D k x y) (g : kx_D k y z) : kx_D k x z := ⟨g.1.trans h.1, fun c h1 h2 h3 => (g.2.1 c h1 h2 h3).trans (h.2.1 c h1 h2 h3), fun j h1 h2 h3 => (g.2.2.1 j h1 h2 h3).trans (h.2.2.1 j h1 h2 h3), fun s hs => (g.2.2.2.1 s hs).trans (h.2.2.2.1 s hs), fun i hi => (g.2.2.2.2 i hi).trans (h.2.2.2.2 i hi)⟩
theorem kx_D_36 {k : Nat} {σ : kw_M} {x : Int32} : kx_D k σ (kw_si σ 36 k x) := ⟨rfl, fun c _ h2 _ => kw_si_o h2, fun j _ _ _ => by rw [kw_si_o (by decide)], fun s _ => by rw [kw_si_o (by decide)], fun i hi => by rw [kw_si_1, kw_upd_n hi]⟩
/-- the class reads a word -/
theorem kx_word {σ : kw_M} {B : Nat → Nat} {e p tw k : Nat} {net : Bool} (hB : kt_B B e) (hp : p ≤ e) (hk : k < 24) (T : kx_T σ B e p tw) (h8 : σ.1 4 8 = kx_fl net) : ∃ τ, fX3_readWord (nI k) σ = some τ ∧ kx_D k σ τ ∧ ((τ.1 4 7 = kt_f 1 p ∧ kt_no net k B p (kt_rl (kt_l B e) e p)) ∨ ∃ w, kt_yes net k B p (kt_rl (kt_l B e) e p) w ∧ τ.1 36 k = nI w ∧ kx_T τ B e (p + kt_rl (kt_l B e) e p) tw) := by
  obtain ⟨r1, r2, r3⟩ := kt_rl_p (kt_l_e B e) hp
  obtain ⟨τ, l1, l2, l3⟩ := kx_letters (a1 := nI k) (x1 := nI p) hB hp T
  have e8 : τ.1 4 8 = kx_fl net := by rw [l2.2.2 8 (by decide) (by decide)]; exact h8
  unfold fX3_readWord
  rw [T.2.2.1, kw_let_def, l1, Option.bind_some]
  unfold jX3_readWord_57
  rw [e8]
  simp only [kx_fl_0]
  have fin : ∀ r, ((r = -1 ∧ kt_no net k B p (kt_rl (kt_l B e) e p)) ∨ ∃ w, r = nI w ∧ kt_yes net k B p (kt_rl (kt_l B e) e p) w) → ∃ τ', jX3_readWord_78 (nI k) (nI p) r τ = some τ' ∧ kx_D k σ τ' ∧ ((τ'.1 4 7 = kt_f 1 p ∧ kt_no net k B p (kt_rl (kt_l B e) e p)) ∨ ∃ w, kt_yes net k B p (kt_rl (kt_l B e) e p) w ∧ τ'.1 36 k = nI w ∧ kx_T τ' B e (p + kt_rl (kt_l B e) e p) tw) := fun r hr => by
    unfold jX3_readWord_78
    rcases hr with ⟨rfl, h1⟩ | ⟨w, rfl, h1⟩
    · rw [if_pos rfl, kx_tell1, Option.bind_some]
      exact ⟨_, rfl, kx_D_N (kx_N_t l2 (kx_N_si (Or.inr rfl))), Or.inl ⟨by rw [kw_si_1, kw_upd_e], h1⟩⟩
    · have hw9 := h1.1
      rw [if_neg (kb_neg1 (by omega)), kn_chk hk (by decide), kn_clamp (by omega), kw_let_def]
      refine ⟨_, rfl, kx_D_t (kx_D_N l2) kx_D_36, Or.inr ⟨w, h1, by rw [kw_si_1, kw_upd_e], ?_⟩⟩
      obtain ⟨g1, g2, g3, g4, g5, g6⟩ := l3
      exact ⟨by rw [kw_si_o (by decide)]; exact g1, by rw [kw_si_o (by decide)]; exact g2, by rw [kw_si_o (by decide)]; exact g3, by rw [kw_si_o (by decide)]; exact g4, by rw [kw_si_o (by decide)]; exact g5, fun s hs => by rw [kw_si_o (by decide)]; exact g6 s hs⟩
  cases net with
  | false =>
    rw [kn_ff]
    obtain ⟨r, o1, o2⟩ := kx_orderWord (k := k) hB r1 l3
    rw [o1, Option.bind_some]
    exact fin r o2
  | true =>
    rw [kn_tf]
    obtain ⟨r, o1, o2⟩ := kx_netWord (k := k) hB r1 hk l3
    rw [o1, Option.bind_some]
    exact fin r o2
/-- the kinds of a word's numbers -/
def kt_cs (w : Nat) : List Nat := [[110], [116, 116, 108], [116, 116, 108], [114, 108], [114], [114], [116], [116, 108], [116]].getD w []
def kt_sh (w : Nat) : Nat := [109, 110, 110, 111, 113, 113, 114, 112, 114].getD w 0
theorem kx_shape {w : Nat} (hw : w < 9) (σ : kw_M) : fX3_shapeOf (nI w) σ = some (kt_sh w) := by
  have e : fX3_shapeOf (nI w) σ = fX3_shapeOf (nI w) kw_M0 := rfl
  have h : ∀ w, w < 9 → fX3_shapeOf (nI w) kw_M0 = some (kt_sh w) := by decide
  rw [e, h w hw]
theorem kt_shape : ∀ w, w < 9 → kw_fsl (kt_sh w) = some (nI (kt_cs w).length) ∧ (kt_cs w).length ≤ 3 ∧ ∀ i, i < (kt_cs w).length → kw_fsc (kt_sh w) (nI i) = some (nI ((kt_cs w).getD i 0)) ∧ (1 ≤ w → (kt_cs w).getD i 0 = 108 ∨ (kt_cs w).getD i 0 = 114 ∨ (kt_cs w).getD i 0 = 116) := by decide
/-- the class reads a clause: behind the word -/
theorem kx_clause1 {σ τ : kw_M} {k w : Nat} (hk : k < 24) (hw : w < 9) (h1 : fX3_readWord (nI k) σ = some τ) (h7 : τ.1 4 7 = 0) (h36 : τ.1 36 k = nI w) {ρ : kw_M} (hl : kw_loop (fun s => bX3_readClause_26 (nI k) (kt_sh w) s.1 s.2) kw_F ((0 : Int32), τ) = some ρ) : fX3_readClause (nI k) σ = jX3_readClause_58 (nI k) ρ := by
  unfold fX3_readClause
  rw [h1, Option.bind_some, h7, if_pos rfl, kn_chk hk (by decide), kn_clamp (by omega), h36, kx_shape hw, Option.bind_some, hl, Option.bind_some]
/-- what the reference leaves as it is where it reads a clause -/
def km_D (k : Nat) (σ τ : kw_M) : Prop := (∀ c, c ≠ 0 → c ≠ 7 → τ.1 c = σ.1 c) ∧ (∀ c, c ≠ 0 → c ≠ 6 → τ.2 c = σ.2 c) ∧ (∀ j, j ≠ 7 → j ≠ 9 → j ≠ 10 → j ≠ 11 → j ≠ 12 → j ≠ 17 → τ.1 0 j = σ.1 0 j) ∧ (∀ s, s < 3 * k → τ.1 7 s = σ.1 7 s) ∧ ∀ i, i ≠ k → τ.2 6 i = σ.2 6 i
theorem km_D_N {k : Nat} {σ τ : kw_M} (h : km_N σ τ) : km_D k σ τ := ⟨fun c h1 _ => h.1 c h1, fun c h1 _ => h.2.1 c h1, fun j h1 h2 h3 h4 _ _ => h.2.2 j h1 h2 h3 h4, fun s _ => by rw [h.1 7 (by decide)], fun i _ => by rw [h.2.1 6 (by decide)]⟩
theorem km_D_C {k : Nat} {σ τ : kw_M} (h : km_C (3 * k) σ τ) : km_D k σ τ := ⟨h.1, fun c h1 _ => h.2.1 c h1, fun j h1 h2 h3 h4 _ _ => h.2.2.1 j h1 h2 h3 h4, h.2.2.2, fun i _ => by rw [h.2.1 6 (by decide)]⟩
theorem km_D_t {k : Nat} {x y z : kw_M} (h : km_D k x y) (g : km_D k y z) : km_D k x z := ⟨fun c h1 h2 => (g.1 c h1 h2).trans (h.1 c h1 h2), fun c h1 h2 => (g.2.1 c h1 h2).trans (h.2.1 c h1 h2), fun j h1 h2 h3 h4 h5 h6 => (g.2.2.1 j h1 h2 h3 h4 h5 h6).trans (h.2.2.1 j h1 h2 h3 h4 h5 h6), fun s hs => (g.2.2.2.1 s hs).trans (h.2.2.2.1 s hs), fun i hi => (g.2.2.2.2 i hi).trans (h.2.2.2.2 i hi)⟩
theorem km_D_6 {k : Nat} {σ : kw_M} {x : Int64} : km_D k σ (kw_sl σ 6 k x) := ⟨fun _ _ _ => rfl, fun c _ h2 => kw_sl_o h2, fun j _ _ _ _ _ _ => rfl, fun s _ => rfl, fun i hi => by rw [kw_sl_2, kw_updL_n hi]⟩
theorem km_D_si {k j : Nat} {σ : kw_M} {x : Int32} (hj : j = 12 ∨ j = 17) : km_D k σ (kw_si σ 0 j x) := ⟨fun c h1 _ => kw_si_o h1, fun c _ _ => rfl, fun i h1 h2 h3 h4 h5 h6 => by rw [kw_si_1, kw_upd_n (by omega)], fun s _ => by rw [kw_si_o (by decide)], fun i _ => rfl⟩
theorem kt_lits : (21487059 : Int64) = Int64.ofInt (kt_W 0) ∧ (605220 : Int64) = Int64.ofInt (kt_W 1) ∧ (12345 : Int64) = Int64.ofInt (kt_W 2) ∧ (408362632 : Int64) = Int64.ofInt (kt_W 3) ∧ (3554917 : Int64) = Int64.ofInt (kt_W 4) ∧ (508078 : Int64) = Int64.ofInt (kt_W 5) ∧ (522493230 : Int64) = Int64.ofInt (kt_W 6) ∧ (24170600 : Int64) = Int64.ofInt (kt_W 7) ∧ (217652404 : Int64) = Int64.ofInt (kt_W 8) := by decide
/-- the reference reads an order's word and numbers -/
theorem km_order {σ : kw_M} {B : Nat → Nat} {e p tw k : Nat} (hB : kt_B B e) (hp : p ≤ e) (hk : k < 24) (htw : 2 ≤ tw ∧ tw ≤ 12) (T : km_T σ B e p) (h12 : σ.1 0 12 = nI k) (h10 : σ.1 1 0 = nI tw) : (kt_no false k B p (kt_rl (kt_l B e) e p) → ∃ τ, fX10_readsOrder σ = some (0, τ) ∧ km_D k σ τ ∧ τ.1 0 9 = kt_f 1 p) ∧ (∀ w, kt_yes false k B p (kt_rl (kt_l B e) e p) w → ∃ b τ, fX10_readsOrder σ = some (b, τ) ∧ km_D k σ τ ∧ τ.1 0 12 = nI k ∧ τ.2 6 k = Int64.ofInt (kt_W w) ∧ kt_Out tw B e (p + kt_rl (kt_l B e) e p) k (kt_cs w) b τ) := by
  obtain ⟨r1, r2, r3⟩ := kt_rl_p (kt_l_e B e) hp
  obtain ⟨ρ, w1, w2, w3, w4, w5⟩ := km_word hB hp T
  have isW := fun j (hj : j < 9) => kt_isW (B := B) (e := e) (p := p) r2 hj
  have e12 : ρ.1 0 12 = nI k := by rw [w2.2.2 12 (by decide) (by decide) (by decide) (by decide)]; exact h12
  have e10 : ρ.1 1 0 = nI tw := by rw [w2.1 1 (by decide)]; exact h10
  obtain ⟨L0, L1, L2, L3, L4, L5, L6, L7, L8⟩ := kt_lits
  unfold fX10_readsOrder fX10_towns
  rw [w1, Option.bind_some, kw_let_def, w5]
  rw [← w5] at isW
  rw [← w5]
  generalize hV : ρ.2 0 13 = V at isW ⊢
  rw [e12, kn_chk hk (by decide), kn_clamp (by omega), kw_let_def, Option.bind_some]
  have D1 : km_D k σ (kw_sl ρ 6 k V) := km_D_t (km_D_N w2) km_D_6
  have T1 : km_T (kw_sl ρ 6 k V) B e (p + kt_rl (kt_l B e) e p) := ⟨w3.1, w3.2.1, w3.2.2⟩
  have f12 : (kw_sl ρ 6 k V).1 0 12 = nI k := e12
  have f10 : (kw_sl ρ 6 k V).1 1 0 = nI tw := e10
  have f11 : (kw_sl ρ 6 k V).1 0 11 = nI p := w4
  have f6 : (kw_sl ρ 6 k V).2 6 k = V := by rw [kw_sl_2, kw_updL_e]
  generalize kw_sl ρ 6 k V = s4 at D1 T1 f12 f10 f11 f6 ⊢
  rw [f10]
  refine ⟨fun hno => ?_, fun w hyes => ?_⟩
  · have ne : ∀ j, 2 ≤ j → j ≤ 8 → ¬ V = Int64.ofInt (kt_W j) := fun j h1 h2 q => by
      rw [isW j (by omega), hno.2 rfl j h1 h2] at q
      cases q
    rw [if_neg (by rw [L2]; exact ne 2 (by decide) (by decide)), if_neg (by rw [L3]; exact ne 3 (by decide) (by decide)), if_neg (by rw [L4]; exact ne 4 (by decide) (by decide)), if_neg (by rw [L5]; exact ne 5 (by decide) (by decide)), if_neg (by rw [L6]; exact ne 6 (by decide) (by decide)), if_neg (by rw [L8]; exact ne 8 (by decide) (by decide)), if_neg (by rw [L7]; exact ne 7 (by decide) (by decide)), f11, km_wrong1, Option.bind_some]
    dsimp only
    rw [kw_chk_t (Or.inl rfl)]
    exact ⟨_, rfl, km_D_t D1 (km_D_N (km_N_si (Or.inr (Or.inl rfl)))), by rw [kw_si_1, kw_upd_e]⟩
  · obtain ⟨y1, y2, _, y4⟩ := hyes
    have hV2 : V = Int64.ofInt (kt_W w) := by rw [isW w y1]; exact y2
    have h2 := y4 rfl
    have pk : ∀ (b : Int32) (τ : kw_M), km_C (3 * k) s4 τ → km_D k σ τ ∧ τ.1 0 12 = nI k ∧ τ.2 6 k = Int64.ofInt (kt_W w) := fun b τ hC => ⟨km_D_t D1 (km_D_C hC), by rw [hC.2.2.1 12 (by decide) (by decide) (by decide) (by decide)]; exact f12, by rw [hC.2.1 6 (by decide), f6]; exact hV2⟩
    have hhi : ((nI tw - 1).toInt64).toInt = kt_hi tw 116 := by
      rw [kn_1, kn_sub (by omega), Int32.toInt_toInt64, nI_toInt (by omega)]
      show ((tw - 1 : Nat) : Int) = (tw : Int) - 1
      omega
    have h114 : (35 : Int64).toInt = kt_hi tw 114 := by
      show (35 : Int64).toInt = 35
      decide
    rcases (show w = 2 ∨ w = 3 ∨ w = 4 ∨ w = 5 ∨ w = 6 ∨ w = 7 ∨ w = 8 by omega) with rfl | rfl | rfl | rfl | rfl | rfl | rfl
    · rw [if_pos (by rw [L2]; exact hV2)]
      obtain ⟨b, τ, m1, m2, m3, m4⟩ := km_road (tw := tw) hB r1 T1 f12 hk htw
      rw [m1, Option.bind_some]
      dsimp only
      rw [kw_chk_t m2]
      exact ⟨b, τ, rfl, (pk b τ m3).1, (pk b τ m3).2.1, (pk b τ m3).2.2, m4⟩
    · have ne : ∀ x : Int64, ¬ Int64.ofInt (kt_W 3) = x → ¬ V = x := fun x h q => h (by rw [← hV2]; exact q)
      rw [if_neg (ne _ (by decide)), if_pos (by rw [L3]; exact hV2)]
      obtain ⟨b, τ, m1, m3, m4⟩ := km_rd2 (tw := tw) (c := 114) (lo := 0) (hi := 35) hB r1 T1 f12 hk (by decide) h114
      exact ⟨b, τ, m1, (pk b τ m3).1, (pk b τ m3).2.1, (pk b τ m3).2.2, m4⟩
    · have ne : ∀ x : Int64, ¬ Int64.ofInt (kt_W 4) = x → ¬ V = x := fun x h q => h (by rw [← hV2]; exact q)
      rw [if_neg (ne _ (by decide)), if_neg (ne _ (by decide)), if_pos (by rw [L4]; exact hV2)]
      obtain ⟨b, τ, m1, m3, m4⟩ := km_rd1 (tw := tw) (c := 114) (lo := 0) (hi := 35) hB r1 T1 f12 hk (by decide) h114
      exact ⟨b, τ, m1, (pk b τ m3).1, (pk b τ m3).2.1, (pk b τ m3).2.2, m4⟩
    · have ne : ∀ x : Int64, ¬ Int64.ofInt (kt_W 5) = x → ¬ V = x := fun x h q => h (by rw [← hV2]; exact q)
      rw [if_neg (ne _ (by decide)), if_neg (ne _ (by decide)), if_neg (ne _ (by decide)), if_pos (by rw [L5]; exact hV2)]
      obtain ⟨b, τ, m1, m3, m4⟩ := km_rd1 (tw := tw) (c := 114) (lo := 0) (hi := 35) hB r1 T1 f12 hk (by decide) h114
      exact ⟨b, τ, m1, (pk b τ m3).1, (pk b τ m3).2.1, (pk b τ m3).2.2, m4⟩
    · have ne : ∀ x : Int64, ¬ Int64.ofInt (kt_W 6) = x → ¬ V = x := fun x h q => h (by rw [← hV2]; exact q)
      rw [if_neg (ne _ (by decide)), if_neg (ne _ (by decide)), if_neg (ne _ (by decide)), if_neg (ne _ (by decide)), if_pos (by rw [L6]; exact hV2)]
      obtain ⟨b, τ, m1, m3, m4⟩ := km_rd1 (tw := tw) (c := 116) (lo := 0) (hi := (nI tw - 1).toInt64) hB r1 T1 f12 hk (by decide) hhi
      exact ⟨b, τ, m1, (pk b τ m3).1, (pk b τ m3).2.1, (pk b τ m3).2.2, m4⟩
    · have ne : ∀ x : Int64, ¬ Int64.ofInt (kt_W 7) = x → ¬ V = x := fun x h q => h (by rw [← hV2]; exact q)
      rw [if_neg (ne _ (by decide)), if_neg (ne _ (by decide)), if_neg (ne _ (by decide)), if_neg (ne _ (by decide)), if_neg (ne _ (by decide)), if_neg (ne _ (by decide)), if_pos (by rw [L7]; exact hV2)]
      obtain ⟨b, τ, m1, m3, m4⟩ := km_rd2 (tw := tw) (c := 116) (lo := 0) (hi := (nI tw - 1).toInt64) hB r1 T1 f12 hk (by decide) hhi
      exact ⟨b, τ, m1, (pk b τ m3).1, (pk b τ m3).2.1, (pk b τ m3).2.2, m4⟩
    · have ne : ∀ x : Int64, ¬ Int64.ofInt (kt_W 8) = x → ¬ V = x := fun x h q => h (by rw [← hV2]; exact q)
      rw [if_neg (ne _ (by decide)), if_neg (ne _ (by decide)), if_neg (ne _ (by decide)), if_neg (ne _ (by decide)), if_neg (ne _ (by decide)), if_pos (by rw [L8]; exact hV2)]
      obtain ⟨b, τ, m1, m3, m4⟩ := km_rd1 (tw := tw) (c := 116) (lo := 0) (hi := (nI tw - 1).toInt64) hB r1 T1 f12 hk (by decide) hhi
      exact ⟨b, τ, m1, (pk b τ m3).1, (pk b τ m3).2.1, (pk b τ m3).2.2, m4⟩
