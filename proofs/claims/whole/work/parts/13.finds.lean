/-! The reference's finds and settles in closed form. -/
theorem km_wf_len {F : Nat → Int32} {m : Nat} (hw : km_wf F m) (but : Int32) : ∀ r, r < (km_gr F m but).1 → -1000000000 ≤ (km_gr F m but).2.2.2.1 r ∧ (km_gr F m but).2.2.2.1 r ≤ 1000000000 := fun r hr => ⟨(hw.2.2 r hr).2.2.1, (hw.2.2 r hr).2.2.2⟩
theorem km_finds_rnd {σ : kw_M} {d : kr_D} {m : Nat} {but v3 : Int32} {B : Int} (hw : km_wf (σ.1 1) m) (hB : kr_in d B) (hB2 : B ≤ 900000000000000) : kw_loop (fun s => bX10_finds_45 but v3 s.1 s.2) kw_F ((0 : Int32), km_row σ d) = some (km_row σ (kr_rnd (km_gr (σ.1 1) m but) d m)) := by
  have hk : ∀ k, k ≤ m → kr_in (kr_rnd (km_gr (σ.1 1) m but) d k) 1000000000000000 := fun k hk => by
    refine kr_in_mono (kr_in_rnd hB (M := 1000000000) (by decide) (km_wf_len hw but) k hk) ?_
    have := hw.1
    have h2 : (k : Int) ≤ 36 := by omega
    omega
  have h := kw_loop_at (body := fun s => bX10_finds_45 but v3 s.1 s.2) (fun k => (nI k, km_row σ (kr_rnd (km_gr (σ.1 1) m but) d k))) (x := km_row σ (kr_rnd (km_gr (σ.1 1) m but) d m)) m (fun k hkm => km_finds_r hw hkm (hk k (by omega))) (by
    show bX10_finds_45 but v3 (nI m) _ = _
    unfold bX10_finds_45
    rw [show (km_row σ (kr_rnd (km_gr (σ.1 1) m but) d m)).1 1 1 = nI m from hw.2.1, if_pos (nI_le (Nat.le_refl m) (by have := hw.1; omega))]) (by have := hw.1; omega)
  exact h
theorem km_bf_in {g : kr_G} {o : Nat} (hg : g.1 ≤ 36) (hl : ∀ r, r < g.1 → -1000000000 ≤ g.2.2.2.1 r ∧ g.2.2.2.1 r ≤ 1000000000) : ∀ i : Nat, kr_in (kr_bf g (kr_one o) i) (i * 36000000000)
  | 0 => by
    intro t z hz
    unfold kr_bf kr_one at hz
    by_cases h : t = o
    · rw [if_pos h] at hz
      cases hz
      omega
    · rw [if_neg h] at hz
      cases hz
  | i + 1 => by
    refine kr_in_mono (kr_in_rnd (km_bf_in hg hl i) (M := 1000000000) (by decide) hl g.1 (Nat.le_refl _)) ?_
    have h2 : (g.1 : Int) ≤ 36 := by omega
    have e : ((i + 1 : Nat) : Int) = (i : Int) + 1 := by omega
    rw [e]
    omega
/-- finds: Bellman-Ford from a town, one road left out, a round less than there are towns -/
theorem km_finds {σ : kw_M} {m n o : Nat} {but : Int32} (hw : km_wf (σ.1 1) m) (hn : σ.1 1 0 = nI n) (h1 : 1 ≤ n) (h12 : n ≤ 12) (ho : o < 12) : fX10_finds (nI o) but σ = some (km_row σ (kr_bf (km_gr (σ.1 1) m but) (kr_one o) (n - 1))) := by
  unfold fX10_finds
  rw [km_finds_1 ho]
  have hb : ∀ i, i ≤ 12 → kr_in (kr_bf (km_gr (σ.1 1) m but) (kr_one o) i) 900000000000000 := fun i hi => by
    refine kr_in_mono (km_bf_in (g := km_gr (σ.1 1) m but) hw.1 (km_wf_len hw but) i) ?_
    have : (i : Int) ≤ 12 := by omega
    omega
  have h := kw_loop_at (body := fun s => bX10_finds_34 but s.1 s.2) (fun i => (nI (1 + i), km_row σ (kr_bf (km_gr (σ.1 1) m but) (kr_one o) i))) (x := km_row σ (kr_bf (km_gr (σ.1 1) m but) (kr_one o) (n - 1))) (n - 1) (fun i hi => by
    show bX10_finds_34 but (nI (1 + i)) _ = _
    unfold bX10_finds_34 fX10_towns
    rw [show (km_row σ (kr_bf (km_gr (σ.1 1) m but) (kr_one o) i)).1 1 0 = nI n from hn]
    show (if nI n ≤ nI (1 + i) then _ else _) = _
    rw [if_neg (nI_ge (by omega) (by omega)), km_finds_rnd hw (hb i (by omega)) (Int.le_refl _)]
    show some (Sum.inl (nI (1 + i) + 1, _)) = _
    rw [km_next]
    rfl) (by
    show bX10_finds_34 but (nI (1 + (n - 1))) _ = _
    unfold bX10_finds_34 fX10_towns
    rw [show (km_row σ (kr_bf (km_gr (σ.1 1) m but) (kr_one o) (n - 1))).1 1 0 = nI n from hn]
    show (if nI n ≤ nI (1 + (n - 1)) then _ else _) = _
    rw [if_pos (nI_le (by omega) (by omega))]) (by omega)
  show ((kw_loop (fun s => bX10_finds_34 but s.1 s.2) kw_F ((1 : Int32), km_row σ (kr_one o))).bind fun x => some x) = _
  have h0 : kw_loop (fun s => bX10_finds_34 but s.1 s.2) kw_F ((1 : Int32), km_row σ (kr_one o)) = some (km_row σ (kr_bf (km_gr (σ.1 1) m but) (kr_one o) (n - 1))) := h
  rw [h0]
  rfl
