/-! What both systems compute with: a memory of ints and longs by cells; conditions, names for values, calls, loops; the cells of the class; the text constants. -/
abbrev kw_M : Type := (Nat → Nat → Int32) × (Nat → Nat → Int64)
/-- a cell: an array (kind, length), or an object (class, fields: (0,_) int, (1,_) long, (2,r) the cell r for ever, (3,_) a cell by its number) -/
abbrev kw_C : Type := (Nat × Nat) ⊕ (Nat × List (Nat × Nat))
def kw_ri (σ : kw_M) (c : Nat) (f : Nat → Int32) : kw_M := (fun q => if q = c then f else σ.1 q, σ.2)
def kw_rl (σ : kw_M) (c : Nat) (f : Nat → Int64) : kw_M := (σ.1, fun q => if q = c then f else σ.2 q)
def kw_si (σ : kw_M) (c k : Nat) (x : Int32) : kw_M := kw_ri σ c (upd (σ.1 c) k x)
def kw_sl (σ : kw_M) (c k : Nat) (x : Int64) : kw_M := kw_rl σ c (vp_updL (σ.2 c) k x)
theorem kw_si_1 (σ : kw_M) (c k : Nat) (x : Int32) : (kw_si σ c k x).1 c = upd (σ.1 c) k x := by simp [kw_si, kw_ri]
theorem kw_si_o {σ : kw_M} {c k q : Nat} {x : Int32} (h : q ≠ c) : (kw_si σ c k x).1 q = σ.1 q := by simp [kw_si, kw_ri, h]
theorem kw_si_2 (σ : kw_M) (c k : Nat) (x : Int32) : (kw_si σ c k x).2 = σ.2 := rfl
theorem kw_sl_2 (σ : kw_M) (c k : Nat) (x : Int64) : (kw_sl σ c k x).2 c = vp_updL (σ.2 c) k x := by simp [kw_sl, kw_rl]
theorem kw_sl_o {σ : kw_M} {c k q : Nat} {x : Int64} (h : q ≠ c) : (kw_sl σ c k x).2 q = σ.2 q := by simp [kw_sl, kw_rl, h]
theorem kw_sl_1 (σ : kw_M) (c k : Nat) (x : Int64) : (kw_sl σ c k x).1 = σ.1 := rfl
theorem kw_ri_1 (σ : kw_M) (c : Nat) (f : Nat → Int32) : (kw_ri σ c f).1 c = f := by simp [kw_ri]
theorem kw_ri_o {σ : kw_M} {c q : Nat} {f : Nat → Int32} (h : q ≠ c) : (kw_ri σ c f).1 q = σ.1 q := by simp [kw_ri, h]
theorem kw_rl_2 (σ : kw_M) (c : Nat) (f : Nat → Int64) : (kw_rl σ c f).2 c = f := by simp [kw_rl]
theorem kw_rl_o {σ : kw_M} {c q : Nat} {f : Nat → Int64} (h : q ≠ c) : (kw_rl σ c f).2 q = σ.2 q := by simp [kw_rl, h]
def kw_slen : List Nat := [5, 4, 3, 6, 5, 4, 6, 5, 6, 1, 3, 2, 2, 1, 1]
def kw_sbyt : List (List Int32) := [[116, 111, 119, 110, 115], [114, 111, 97, 100], [108, 97, 121], [108, 101, 110, 103, 116, 104], [99, 108, 111, 115, 101], [111, 112, 101, 110], [111, 114, 105, 103, 105, 110], [119, 97, 116, 99, 104], [102, 111, 114, 103, 101, 116], [110], [116, 116, 108], [114, 108], [116, 108], [114], [116]]
/-! What a piece of code computes: conditions, names for values, calls, loops. -/
def kw_let {α β : Type} (a : α) (f : α → β) : β := f a
theorem kw_let_e {α β : Type} {a : α} {f : α → Option β} {r : β} (h : kw_let a f = some r) : ∃ x, a = x ∧ f x = some r := ⟨a, rfl, h⟩
theorem kw_bind_e {α β : Type} {o : Option α} {f : α → Option β} {r : β} (h : o.bind f = some r) : ∃ x, o = some x ∧ f x = some r := by
  cases o with
  | none => cases h
  | some x => exact ⟨x, rfl, h⟩
/-- a check that the machine makes: else nothing is said -/
def kw_chk {β : Type} (c : Prop) [Decidable c] (b : Option β) : Option β := if c then b else none
theorem kw_chk_e {β : Type} {c : Prop} [Decidable c] {b : Option β} {r : β} (h : kw_chk c b = some r) : c ∧ b = some r := by
  unfold kw_chk at h
  by_cases hc : c
  · rw [if_pos hc] at h; exact ⟨hc, h⟩
  · rw [if_neg hc] at h; cases h
theorem kw_chk_t {β : Type} {c : Prop} [Decidable c] {b : Option β} (h : c) : kw_chk c b = b := if_pos h
def kw_loop {S X : Type} (body : S → Option (S ⊕ X)) : Nat → S → Option X
  | 0, _ => none
  | n + 1, s => (body s).bind (fun o => match o with
    | .inl t => kw_loop body n t
    | .inr x => some x)
def kw_F : Nat := 1000000000000000000000000000000
theorem kw_loop_e {S X : Type} {body : S → Option (S ⊕ X)} {P : S → Prop} {K : X → Prop} (hb : ∀ s o, body s = some o → Sum.elim P K o → P s) : ∀ (n : Nat) (s : S) (x : X), kw_loop body n s = some x → K x → P s
  | 0, _, _, h, _ => by cases h
  | n + 1, s, x, h, hx => by
    obtain ⟨o, h1, h2⟩ := kw_bind_e h
    cases o with
    | inl t => exact hb s _ h1 (kw_loop_e hb n t x h2 hx)
    | inr y =>
      cases h2
      exact hb s _ h1 hx
theorem kw_se_l {α β γ : Type} {f : α → γ} {g : β → γ} {x : α} {r : γ} (h : Sum.elim f g (.inl x) = r) : f x = r := h
theorem kw_se_r {α β γ : Type} {f : α → γ} {g : β → γ} {x : β} {r : γ} (h : Sum.elim f g (.inr x) = r) : g x = r := h
abbrev kw_in (i : Int32) (n : Nat) : Prop := ¬ (i < 0 ∨ n ≤ i.toNatClampNeg)
abbrev kw_isB (x : Int32) : Prop := x = 0 ∨ x = 1
def kwLX : List kw_C := [.inr (9, [(2, 1), (2, 2), (0, 0), (2, 3), (2, 4), (2, 5), (2, 6), (2, 7), (2, 8), (2, 9), (2, 10), (2, 11)]), .inr (7, [(2, 12), (2, 13), (0, 0), (0, 0), (0, 0), (0, 0), (2, 14), (0, 0), (2, 15), (2, 16), (2, 17)]), .inr (7, [(2, 22), (2, 23), (0, 0), (0, 0), (0, 0), (0, 0), (2, 24), (0, 0), (2, 25), (2, 26), (2, 27)]), .inr (8, [(0, 0), (2, 35)]), .inr (3, [(0, 0), (0, 0), (2, 36), (2, 37), (3, 0), (0, 0), (0, 0), (0, 0), (0, 0)]), .inr (2, [(0, 0), (0, 0), (2, 39), (2, 40)]), .inr (6, [(2, 41), (2, 42), (1, 0), (1, 0), (2, 43), (2, 44)]), .inr (1, [(2, 1), (2, 47), (0, 0), (1, 0), (1, 0)]), .inr (5, [(2, 45), (2, 46), (2, 5), (0, 0), (0, 0), (1, 0)]), .inl (1, 3), .inr (4, [(0, 0), (0, 0), (1, 0), (2, 32), (2, 33), (2, 34)]), .inl (1, 12), .inr (4, [(0, 0), (0, 0), (1, 0), (2, 18), (2, 19), (2, 20)]), .inr (0, [(0, 0), (2, 21)]), .inl (0, 12), .inl (0, 12), .inl (1, 12), .inl (0, 12), .inl (0, 36), .inl (0, 36), .inl (0, 36), .inl (1, 400), .inr (4, [(0, 0), (0, 0), (1, 0), (2, 28), (2, 29), (2, 30)]), .inr (0, [(0, 0), (2, 31)]), .inl (0, 12), .inl (0, 12), .inl (1, 12), .inl (0, 12), .inl (0, 36), .inl (0, 36), .inl (0, 36), .inl (1, 400), .inl (0, 36), .inl (0, 36), .inl (0, 36), .inl (0, 240), .inl (0, 24), .inl (0, 72), .inl (0, 0), .inl (1, 144), .inl (1, 12), .inl (1, 12), .inl (0, 12), .inl (1, 12), .inl (1, 12), .inl (0, 6), .inl (0, 6), .inl (1, 12)]
def kwTX (c : Nat) : kw_C := kwLX.getD c (.inl (0, 0))
/-- the cell that field k of a cell holds -/
def kx_rf (c k : Nat) : Nat := match kwTX c with
  | .inr o => (o.2.getD k (0, 0)).2
  | _ => 0
def kw_sc (j k : Nat) : Int32 := (kw_sbyt.getD j []).getD k 0
/-- length() of the text whose cell is c -/
def kw_fsl (c : Nat) : Option Int32 := if 100 ≤ c ∧ c < 115 then some (Int32.ofNat (kw_slen.getD (c - 100) 0)) else none
/-- charAt(x) of the text whose cell is c -/
def kw_fsc (c : Nat) (x : Int32) : Option Int32 := if (100 ≤ c ∧ c < 115) ∧ ¬ x < 0 ∧ x < Int32.ofNat (kw_slen.getD (c - 100) 0) then some (kw_sc (c - 100) x.toNatClampNeg) else none
