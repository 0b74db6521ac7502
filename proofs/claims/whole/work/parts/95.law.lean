/-! The law: two systems in one heap; a call of one leaves the other as it is. -/
def kl_A (E E' : kw_E) : Nat → Prop := fun q => kw_A E 48 q ∨ kw_A E' 21 q
def kl_W (E E' : kw_E) (σX σM : kw_M) : va_W := kw_cells E kwTX 48 σX ++ kw_cells E' kwTM 21 σM
/-- the text constants and the statics, apart from the cells of A -/
def kl_St (E : kw_E) (A : Nat → Prop) (U : State) : Prop :=
  vk_S 15 kw_slen kw_sbyt (fun j => E.2.2.2 (100 + j)) (fun j => E.2.2.2 (200 + j)) A U U.heap ∧ (∀ (j : Nat) (q : String × Nat × String), kw_strs[j]? = some q → vk_R q.1 q.2.1 q.2.2 (E.2.2.2 (100 + j)) U) ∧ va_Z "java/lang/String" "COMPACT_STRINGS" "Z" (.int 1) A U U.heap ∧ ∃ w : Value, (w = .null ∨ ∃ a, w = .ref a) ∧ va_Z "jdk/internal/util/Preconditions" "SIOOBE_FORMATTER" "Ljava/util/function/BiFunction;" w A U U.heap
theorem kl_St.to {E : kw_E} {A : Nat → Prop} {s U : State} {H : Heap} {locs : List Loc} (hW : s.WarmedH U.vm) (hS : va_S A s.heap H locs) (hU : U.heap = H) (h : kl_St E A s) : kl_St E A U := by
  subst hU
  obtain ⟨h1, h2, h3, w, hw, h4⟩ := h
  exact ⟨(h1.kept hS.2.1).moved hW.alike, fun j q hq => (h2 j q hq).warm hW, (h3.kept hS.2.1).moved hW.alike, w, hw, (h4.kept hS.2.1).moved hW.alike⟩
theorem kl_St.part {E : kw_E} {A : Nat → Prop} {N : Nat} {U : State} (h : kl_St E A U) (hA : ∀ q, kw_A E N q → A q) : kw_St E N U := by
  obtain ⟨h1, h2, h3, w, hw, h4⟩ := h
  exact ⟨h1.narrow hA, h2, h3.narrow hA, w, hw, h4.narrow hA⟩
/-- what holds of the law's own frame -/
def kl_Cx (E E' : kw_E) (p : Program) (s : State) (m : MethodId) (meth : Method) (c : Code) (b L : Nat) (xs : Nat → Int32) (cells slots : Nat) : Prop :=
  p.tables.exec = Jvm.exec ∧ c.code = code ∧ c.maxLocals = 4 ∧ s.vm.findClass RL = some m.cls ∧ (∀ w ∈ kw_all, w.before #[Value.ref b] s = true) ∧ va_K E.2.1 vwCl (kw_tys E.2.2.1) s ∧ (cells ≤ 600000 ∧ slots ≤ 7302250) ∧ kw_Nt s ∧ (kl_St E (kl_A E E') s ∧ kl_St E' (kl_A E E') s) ∧ (va_X b L xs s s.heap ∧ b < s.heap.size ∧ ¬ kl_A E E' b) ∧ (E'.1 = E.1 ∧ E'.2.1 = E.2.1 ∧ E'.2.2.1 = E.2.2.1) ∧ meth.sig.returnType = ret ∧ meth.locks = false
def kl_S (E E' : kw_E) (s : State) (σX σM : kw_M) (H : Heap) (locs : List Loc) : Prop := va_P E.2.1 vwCl (kl_W E E' σX σM) H ∧ va_D (kl_A E E') (kl_W E E' σX σM) ∧ va_S (kl_A E E') s.heap H locs
theorem kw_cells_len (E : kw_E) (τ : Nat → kw_C) (N : Nat) (σ : kw_M) : (kw_cells E τ N σ).length = N := by simp [kw_cells]
theorem kw_cells_ad {E : kw_E} {τ : Nat → kw_C} {N : Nat} {σ : kw_M} {k : Nat} {q : Nat × va_E} (h : (kw_cells E τ N σ)[k]? = some q) : k < N ∧ q.1 = E.2.2.2 k := by
  have hk : k < N := by
    have := (List.getElem?_eq_some_iff.mp h).1
    rwa [kw_cells_len] at this
  rw [kw_at hk rfl] at h
  cases h
  exact ⟨hk, rfl⟩
theorem kl_atX {E E' : kw_E} {σX σM : kw_M} {k : Nat} {q : Nat × va_E} (h : (kw_cells E kwTX 48 σX)[k]? = some q) : (kl_W E E' σX σM)[k]? = some q := by
  rw [kl_W, List.getElem?_append_left (by rw [kw_cells_len]; exact (kw_cells_ad h).1)]
  exact h
theorem kl_atM {E E' : kw_E} {σX σM : kw_M} {k : Nat} {q : Nat × va_E} (h : (kw_cells E' kwTM 21 σM)[k]? = some q) : (kl_W E E' σX σM)[48 + k]? = some q := by
  rw [kl_W, List.getElem?_append_right (by rw [kw_cells_len]; omega), kw_cells_len, show 48 + k - 48 = k by omega]
  exact h
theorem kl_at {E E' : kw_E} {σX σM : kw_M} {k : Nat} {q : Nat × va_E} (h : (kl_W E E' σX σM)[k]? = some q) : (kw_cells E kwTX 48 σX)[k]? = some q ∨ (48 ≤ k ∧ (kw_cells E' kwTM 21 σM)[k - 48]? = some q) := by
  by_cases hk : k < 48
  · rw [kl_W, List.getElem?_append_left (by rw [kw_cells_len]; exact hk)] at h
    exact Or.inl h
  · rw [kl_W, List.getElem?_append_right (by rw [kw_cells_len]; omega), kw_cells_len] at h
    exact Or.inr ⟨by omega, h⟩
/-- the addresses of the two systems are apart -/
theorem kl_apart {E E' : kw_E} {A : Nat → Prop} {σX σM : kw_M} (hD : va_D A (kl_W E E' σX σM)) {k j : Nat} (hk : k < 48) (hj : j < 21) : E.2.2.2 k ≠ E'.2.2.2 j := by
  intro h
  have h1 := kl_atX (E' := E') (σM := σM) (kw_at (E := E) (τ := kwTX) (N := 48) (σ := σX) hk rfl)
  have h2 := kl_atM (E := E) (σX := σX) (kw_at (E := E') (τ := kwTM) (N := 21) (σ := σM) hj rfl)
  have := hD.1 _ _ _ _ h1 h2 h
  omega
theorem kl_own {E E' : kw_E} {A : Nat → Prop} {σX σM : kw_M} (hD : va_D A (kl_W E E' σX σM)) : va_D (kw_A E 48) (kw_cells E kwTX 48 σX) ∧ va_D (kw_A E' 21) (kw_cells E' kwTM 21 σM) := by
  refine ⟨⟨fun i j p q h1 h2 h3 => hD.1 i j p q (kl_atX h1) (kl_atX h2) h3, fun k q h => ⟨k, (kw_cells_ad h).1, (kw_cells_ad h).2⟩⟩, ⟨fun i j p q h1 h2 h3 => ?_, fun k q h => ⟨k, (kw_cells_ad h).1, (kw_cells_ad h).2⟩⟩⟩
  have := hD.1 _ _ p q (kl_atM h1) (kl_atM h2) h3
  omega
theorem kl_glue {E E' : kw_E} {σX σM : kw_M} {H : Heap} (hx : ∀ k j : Nat, k < 48 → j < 21 → E.2.2.2 k ≠ E'.2.2.2 j) (hPX : va_P E.2.1 vwCl (kw_cells E kwTX 48 σX) H) (hPM : va_P E.2.1 vwCl (kw_cells E' kwTM 21 σM) H) (hDX : va_D (kw_A E 48) (kw_cells E kwTX 48 σX)) (hDM : va_D (kw_A E' 21) (kw_cells E' kwTM 21 σM)) : va_P E.2.1 vwCl (kl_W E E' σX σM) H ∧ va_D (kl_A E E') (kl_W E E' σX σM) := by
  refine ⟨va_P.app hPX hPM, va_D.app (hDX.weaken (fun _ _ _ h => Or.inl h)) (hDM.weaken (fun _ _ _ h => Or.inr h)) (fun i j p q h1 h2 => ?_)⟩
  rw [(kw_cells_ad h1).2, (kw_cells_ad h2).2]
  exact hx i j (kw_cells_ad h1).1 (kw_cells_ad h2).1
theorem kl_intsM (ad : Nat → Nat) {As : List Value} (h : As.map (kw_tr ad) = As) (cb : Nat) : (Value.ref cb :: As).map (kw_tr ad) = .ref (ad cb) :: As := by rw [List.map_cons, h]; rfl
section KL
variable {E E' : kw_E} {p : Program} {e : Env} {s : State} {m : MethodId} {below : List Frame} {meth : Method} {c : Code} {b L : Nat} {xs : Nat → Int32} {H : Heap} {locs : List Loc} {cells slots : Nat} {Q : State → Prop} {pc : Nat} {ls : Array Slot} {lv : List (Nat × Value)} {σX σM : kw_M}
theorem kl_callX (C : kl_Cx E E' p s m meth c b L xs cells slots) (hl : lv_has ls 4 lv) (hS : kl_S E E' s σX σM H locs) {μ1 : kw_Mt} {n d : Nat} (hd : d ≤ 1000) (hm : kw_MV μ1 n) (As rest : List Value) (hAs : ∀ ad, As.map (kw_tr ad) = As) {u : Option Value} (hu : ∀ ad, u.map (kw_tr ad) = u) {σX1 : kw_M} (hM : kw_Met E kwTX 48 d μ1 (.ref 0 :: As) σX u σX1) {i : Nat} (hlink : Cond.methodLink RL i μ1.1 ∈ kw_all) {T : u_T} {Nf : Nat} (hcl : vwCl[9]? = some (μ1.1.cls, T, Nf)) (hn : As.length = n) (hcat : (rest.map fun v => v.category).sum ≤ 8) (hdg : decode code pc = .ok (.invokevirtual i, 3)) {st0 : List Value} (hst : As.reverse ++ .ref (E.2.2.2 0) :: rest = st0)
    (kk : ∀ (H1 : Heap) (locs1 : List Loc), kl_S E E' s σX1 σM H1 locs1 → W p E.1 e room_1 s m #[Value.ref b] below meth c H1 locs1 cells slots Q (F0 m (pc + 3) ls (u.toList ++ rest))) : W p E.1 e room_1 s m #[Value.ref b] below meth c H locs cells slots Q (F0 m pc ls st0) := by
  subst hst
  obtain ⟨hP, hD, hSS⟩ := hS
  have hts := C.2.2.2.2.1
  have hPX : va_P E.2.1 vwCl (kw_cells E kwTX 48 σX) H := fun k q hk => hP k q (kl_atX hk)
  have hPM : va_P E.2.1 vwCl (kw_cells E' kwTM 21 σM) H := fun k q hk => hP _ q (kl_atM hk)
  obtain ⟨hDX, hDM⟩ := kl_own hD
  have hap := fun k j (hk : k < 48) (hj : j < 21) => kl_apart hD hk hj
  have hR : (kw_rm d).frames + 1 ≤ room_1.frames ∧ 8 + (μ1.2.2.1 + 11) + (kw_rm d).locals ≤ room_1.locals := by
    have h1 := hm.1.2.2.2
    refine ⟨?_, ?_⟩
    · show d + 1 ≤ 2048
      omega
    · show 8 + (μ1.2.2.1 + 11) + 64 * d ≤ 84000
      omega
  have hrec := va_recv C.2.2.2.2.2.1 hPX hcl (kw_at (E := E) (τ := kwTX) (N := 48) (σ := σX) (c := 0) (by decide) eX_0)
  have hMet : Met E.1 μ1.1 (kw_ws μ1) (kw_rm d) (va_Pc (.ref (E.2.2.2 0) :: As) (kw_Wd E kwTX 48 σX)) (kw_Q E kwTX 48 u σX1) 0 0 (kw_A E 48) := by
    have h := hM
    unfold kw_Met at h
    rw [kl_intsM _ (hAs _)] at h
    exact h
  have run := va_runV (p := p) (e := e) (below := below) (meth := meth) (locs := locs) (cells := cells) (slots := slots) (g := F0 m pc ls (As.reverse ++ .ref (E.2.2.2 0) :: rest)) (As := As) (rest := rest) (C := μ1.1.cls) ⟨C.1, C.2.1, C.2.2.1, C.2.2.2.1, hts⟩ hMet ⟨callB_of n hts (kw_good hm.1) rfl rfl rfl (hts _ hm.1.1) (hts _ hlink) hm.1.2.2.1 hR, hts _ hm.2.1, hts _ hm.2.2⟩ ⟨kw_blind E kwTX 48 _ σX, hrec, fun U hU hW => ⟨rfl, by rw [hU]; exact hPX, va_K.moved hW.alike C.2.2.2.2.2.1, hDX, C.2.2.2.2.2.2.2.1.warm hW, (C.2.2.2.2.2.2.2.2.1.1.to hW hSS hU).part (fun q h => Or.inl h)⟩⟩ rfl hn hl.1 rfl (lv_room hcat) hdg ⟨C.2.2.2.2.2.2.1.1, C.2.2.2.2.2.2.1.2⟩
  intro T0 hT X
  obtain ⟨v, st₀, t, T', L0, h0, X', hL, e1, e2, ⟨⟨hv, hp, hK, hD1, -⟩, hz, hk⟩, st⟩ := run T0 hT X
  rw [hu] at hv
  cases hv
  rw [h0] at hz hk
  have hPM1 : va_P E.2.1 vwCl (kw_cells E' kwTM 21 σM) T'.heap := hPM.kept (fun k q hq => by
    have h1 := kw_cells_ad hq
    rw [e1, hk q.1 (hPM k q hq).lt (fun ⟨j, hj, hjq⟩ => hap j k hj h1.1 (by rw [← hjq, h1.2]))])
  have hglue := kl_glue (E := E) (E' := E') (σX := σX1) (σM := σM) (H := T'.heap) hap (by rw [e1]; exact hp) hPM1 hD1 hDM
  obtain ⟨t2, a1, b1⟩ := kk T'.heap (locs ++ L0) ⟨hglue.1, hglue.2, Nat.le_trans hSS.1 (by rw [e1]; exact hz), fun q h1 h2 => by rw [e1, hk q (Nat.lt_of_lt_of_le h1 hSS.1) (fun z => h2 (Or.inl z))]; exact hSS.2.1 q h1 h2, fun q hq => by
      rcases List.mem_append.mp hq with h | h
      · exact hSS.2.2 q h
      · exact Or.inl (hL q h)⟩ T' rfl X'
  exact ⟨t2, st t2 a1, b1⟩
theorem kl_callM (C : kl_Cx E E' p s m meth c b L xs cells slots) (hl : lv_has ls 4 lv) (hS : kl_S E E' s σX σM H locs) {μ1 : kw_Mt} {n d : Nat} (hd : d ≤ 1000) (hm : kw_MV μ1 n) (As rest : List Value) (hAs : ∀ ad, As.map (kw_tr ad) = As) {u : Option Value} (hu : ∀ ad, u.map (kw_tr ad) = u) {σM1 : kw_M} (hM : kw_Met E' kwTM 21 d μ1 (.ref 0 :: As) σM u σM1) {i : Nat} (hlink : Cond.methodLink RL i μ1.1 ∈ kw_all) {T : u_T} {Nf : Nat} (hcl : vwCl[10]? = some (μ1.1.cls, T, Nf)) (hn : As.length = n) (hcat : (rest.map fun v => v.category).sum ≤ 8) (hdg : decode code pc = .ok (.invokevirtual i, 3)) {st0 : List Value} (hst : As.reverse ++ .ref (E'.2.2.2 0) :: rest = st0)
    (kk : ∀ (H1 : Heap) (locs1 : List Loc), kl_S E E' s σX σM1 H1 locs1 → W p E.1 e room_1 s m #[Value.ref b] below meth c H1 locs1 cells slots Q (F0 m (pc + 3) ls (u.toList ++ rest))) : W p E.1 e room_1 s m #[Value.ref b] below meth c H locs cells slots Q (F0 m pc ls st0) := by
  subst hst
  obtain ⟨hP, hD, hSS⟩ := hS
  have hts := C.2.2.2.2.1
  have hEq := C.2.2.2.2.2.2.2.2.2.2.1
  have hPX : va_P E.2.1 vwCl (kw_cells E kwTX 48 σX) H := fun k q hk => hP k q (kl_atX hk)
  have hPM : va_P E'.2.1 vwCl (kw_cells E' kwTM 21 σM) H := fun k q hk => by rw [hEq.2.1]; exact hP _ q (kl_atM hk)
  obtain ⟨hDX, hDM⟩ := kl_own hD
  have hap := fun k j (hk : k < 48) (hj : j < 21) => kl_apart hD hk hj
  have hK' : va_K E'.2.1 vwCl (kw_tys E'.2.2.1) s := by rw [hEq.2.1, hEq.2.2]; exact C.2.2.2.2.2.1
  have hR : (kw_rm d).frames + 1 ≤ room_1.frames ∧ 8 + (μ1.2.2.1 + 11) + (kw_rm d).locals ≤ room_1.locals := by
    have h1 := hm.1.2.2.2
    refine ⟨?_, ?_⟩
    · show d + 1 ≤ 2048
      omega
    · show 8 + (μ1.2.2.1 + 11) + 64 * d ≤ 84000
      omega
  have hrec := va_recv hK' hPM hcl (kw_at (E := E') (τ := kwTM) (N := 21) (σ := σM) (c := 0) (by decide) eM_0)
  have hMet : Met E.1 μ1.1 (kw_ws μ1) (kw_rm d) (va_Pc (.ref (E'.2.2.2 0) :: As) (kw_Wd E' kwTM 21 σM)) (kw_Q E' kwTM 21 u σM1) 0 0 (kw_A E' 21) := by
    have h := hM
    unfold kw_Met at h
    rw [kl_intsM _ (hAs _), hEq.1] at h
    exact h
  have run := va_runV (p := p) (e := e) (below := below) (meth := meth) (locs := locs) (cells := cells) (slots := slots) (g := F0 m pc ls (As.reverse ++ .ref (E'.2.2.2 0) :: rest)) (As := As) (rest := rest) (C := μ1.1.cls) ⟨C.1, C.2.1, C.2.2.1, C.2.2.2.1, hts⟩ hMet ⟨callB_of n hts (kw_good hm.1) rfl rfl rfl (hts _ hm.1.1) (hts _ hlink) hm.1.2.2.1 hR, hts _ hm.2.1, hts _ hm.2.2⟩ ⟨kw_blind E' kwTM 21 _ σM, hrec, fun U hU hW => ⟨rfl, by rw [hU]; exact hPM, va_K.moved hW.alike hK', hDM, C.2.2.2.2.2.2.2.1.warm hW, (C.2.2.2.2.2.2.2.2.1.2.to hW hSS hU).part (fun q h => Or.inr h)⟩⟩ rfl hn hl.1 rfl (lv_room hcat) hdg ⟨C.2.2.2.2.2.2.1.1, C.2.2.2.2.2.2.1.2⟩
  intro T0 hT X
  obtain ⟨v, st₀, t, T', L0, h0, X', hL, e1, e2, ⟨⟨hv, hp, hK, hD1, -⟩, hz, hk⟩, st⟩ := run T0 hT X
  rw [hu] at hv
  cases hv
  rw [h0] at hz hk
  have hPX1 : va_P E.2.1 vwCl (kw_cells E kwTX 48 σX) T'.heap := hPX.kept (fun k q hq => by
    have h1 := kw_cells_ad hq
    rw [e1, hk q.1 (hPX k q hq).lt (fun ⟨j, hj, hjq⟩ => hap k j h1.1 hj (by rw [← hjq, h1.2]))])
  have hglue := kl_glue (E := E) (E' := E') (σX := σX) (σM := σM1) (H := T'.heap) hap hPX1 (by rw [e1, ← hEq.2.1]; exact hp) hDX hD1
  obtain ⟨t2, a1, b1⟩ := kk T'.heap (locs ++ L0) ⟨hglue.1, hglue.2, Nat.le_trans hSS.1 (by rw [e1]; exact hz), fun q h1 h2 => by rw [e1, hk q (Nat.lt_of_lt_of_le h1 hSS.1) (fun z => h2 (Or.inr z))]; exact hSS.2.1 q h1 h2, fun q hq => by
      rcases List.mem_append.mp hq with h | h
      · exact hSS.2.2 q h
      · exact Or.inr (hL q h)⟩ T' rfl X'
  exact ⟨t2, st t2 a1, b1⟩
end KL
