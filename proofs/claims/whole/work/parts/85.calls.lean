/-! The flat machine: entry, returns, calls, arraycopy, loops. -/
theorem kw_args_map (ad : Nat → Nat) : ∀ (As : List Value) (i : Nat), lv_args i (As.map (kw_tr ad)) = (lv_args i As).map (kw_trl ad)
  | [], _ => rfl
  | v :: vs, i => by
    show (i, kw_tr ad v) :: lv_args (if (kw_tr ad v).category = 2 then i + 2 else i + 1) (vs.map (kw_tr ad)) = (i, kw_tr ad v) :: (lv_args (if v.category = 2 then i + 2 else i + 1) vs).map (kw_trl ad)
    rw [kw_cat, kw_args_map ad vs]
theorem kw_sl_len (ad : Nat → Nat) : ∀ As : List Value, (lg_sl (As.map (kw_tr ad))).length = (lg_sl As).length
  | [] => rfl
  | v :: vs => by
    have ih := kw_sl_len ad vs
    unfold lg_sl at ih ⊢
    simp only [List.map_cons, List.flatMap_cons, List.length_append, ih, kw_cat]
    split <;> rfl
theorem kw_enter {E : kw_E} {τ : Nat → kw_C} {N d : Nat} {μ : kw_Mt} {As : List Value} {σ : kw_M} {v : Option Value} {σ2 : kw_M} (hy : plainName μ.1.cls = true) (hn : (lg_sl As).length ≤ μ.2.2.1) (h : kw_G E τ N d μ 0 (lv_args 0 As) [] σ v σ2) : kw_Met E τ N d μ As σ v σ2 := by
  refine Met.ofW (cc := μ.2.1) (maxL := μ.2.2.1) (ret := μ.2.2.2) hy rfl ?_
  intro p e s m args below meth c s₁ B hml hv
  obtain ⟨rfl, hP, hK, hD, hNt, hSt⟩ := hv
  have hts := atoms_spec (ws := kw_ws μ) B.pre
  have hown : s.vm.findClass μ.1.cls = some m.cls := findClass_of_methodNamed B.named
  have hr := B.returns
  have hlocks := B.notSynchronized
  have hl := lv_entry (As.map (kw_tr E.2.2.2)) (n := μ.2.2.1) (by rw [kw_sl_len]; exact hn)
  rw [lg_entry_eq]
  rw [kw_args_map] at hl
  refine h p e _ s m _ below meth c s.heap [] _ 0 0 _ ⟨B.exec, B.bytes, hml, hown, fun w hw => hts w (List.mem_cons_of_mem _ hw), hK, Nat.le_refl _, Nat.le_refl _, Nat.zero_le _, Nat.zero_le _, hNt, hSt⟩ hl hP hD va_S.rf (fun H1 locs1 pc1 ls1 hP1 hD1 hS1 hret => ?_)
  cases v with
  | none =>
    obtain ⟨h1, h2⟩ := hret
    exact W.vret B.exec B.bytes (hr.trans h2) (fun t ht hW => ⟨⟨rfl, by rw [ht]; exact hP1, va_K.moved hW.alike hK, hD1, hNt.warm hW, hSt.to hW hS1 ht⟩, hS1.F ht⟩) hS1.2.2 h1
  | some x =>
    cases x with
    | int x =>
      obtain ⟨h1, ty, h2, h3⟩ := hret
      exact W.zret B.exec B.bytes (hr.trans h2) h3 (fun t ht hW => ⟨⟨rfl, by rw [ht]; exact hP1, va_K.moved hW.alike hK, hD1, hNt.warm hW, hSt.to hW hS1 ht⟩, hS1.F ht⟩) hS1.2.2 h1
    | long x =>
      obtain ⟨h1, h2⟩ := hret
      exact W.lret B.exec B.bytes (hr.trans h2) (fun t ht hW => ⟨⟨rfl, by rw [ht]; exact hP1, va_K.moved hW.alike hK, hD1, hNt.warm hW, hSt.to hW hS1 ht⟩, hS1.F ht⟩) hS1.2.2 h1
    | ref x =>
      obtain ⟨h1, rt, h2, h3⟩ := hret
      exact W.aret B.exec B.bytes (hr.trans h2) h3 (Or.inr ⟨_, rfl⟩) (fun t ht hW => ⟨⟨rfl, by rw [ht]; exact hP1, va_K.moved hW.alike hK, hD1, hNt.warm hW, hSt.to hW hS1 ht⟩, hS1.F ht⟩) hS1.2.2 h1
    | float x => exact absurd hret id
    | double x => exact absurd hret id
    | null => exact absurd hret id
    | retAddr x => exact absurd hret id
/-- what a call of a method needs of the tables -/
def kw_MB (μ : kw_Mt) (n : Nat) : Prop := Cond.initialized μ.1.cls ∈ kw_all ∧ Cond.code μ.1 μ.2.1 μ.2.2.1 μ.2.2.2 ∈ kw_all ∧ (μ.1.cls ≠ "java/lang/invoke/MethodHandle" ∧ μ.1.cls ≠ "java/lang/invoke/VarHandle" ∧ (parseMethodDescriptor μ.1.desc).map (fun d => d.parameters.length) = some n) ∧ μ.2.2.1 ≤ 45
def kw_MV (μ : kw_Mt) (n : Nat) : Prop := kw_MB μ n ∧ Cond.instanceMethod μ.1 ∈ kw_all ∧ Cond.selects μ.1.cls μ.1 μ.1 ∈ kw_all
def kw_MS (μ : kw_Mt) (n : Nat) : Prop := kw_MB μ n ∧ Cond.static μ.1 ∈ kw_all
theorem kw_good {μ : kw_Mt} {n : Nat} (h : kw_MB μ n) : GoodIn kw_all (kw_ws μ) := by
  intro w hw
  rcases List.mem_cons.mp hw with rfl | h2
  · exact ⟨h.2.1, good_of_word (kw_all_good _ h.2.1)⟩
  · exact ⟨h2, good_of_word (kw_all_good _ h2)⟩
theorem kw_blind (E : kw_E) (τ : Nat → kw_C) (N : Nat) (As : List Value) (σ : kw_M) : FrameBlind (va_Pc As (kw_Wd E τ N σ)) := by
  intro a U g mk q
  obtain ⟨q0, qP, qK, qD, qN, qS⟩ := q
  exact ⟨q0, qP, va_K.moved (u := U) (U := U.calling g mk a) (Vm.Alike.refl U.vm) qK, qD, kw_Nt.same (u := U) (U := U.calling g mk a) rfl qN, kw_St.same (u := U) (U := U.calling g mk a) rfl rfl qS⟩
theorem kw_cont {E : kw_E} {τ : Nat → kw_C} {N : Nat} {p : Program} {e : Env} {R : Room} {s : State} {m : MethodId} {args : Array Value} {below : List Frame} {meth : Method} {c : Code} {H : Heap} {locs : List Loc} {cells slots : Nat} {Q : State → Prop} {pc : Nat} {ls : Array Slot} {rest st0 : List Value} {a : Array Value} {u : Option Value} {σ1 : kw_M}
    (hr : va_Run p E.1 e R s m args below meth c H locs cells slots 0 0 (F0 m pc ls st0) rest (kw_Q E τ N u σ1 a) (kw_A E N)) (hS : va_S (kw_A E N) s.heap H locs)
    (kk : ∀ (H1 : Heap) (locs1 : List Loc), va_P E.2.1 vwCl (kw_cells E τ N σ1) H1 → va_D (kw_A E N) (kw_cells E τ N σ1) → va_S (kw_A E N) s.heap H1 locs1 → W p E.1 e R s m args below meth c H1 locs1 cells slots Q (F0 m (pc + 3) ls ((u.map (kw_tr E.2.2.2)).toList ++ rest))) : W p E.1 e R s m args below meth c H locs cells slots Q (F0 m pc ls st0) := by
  intro T hT X
  obtain ⟨v, st₀, t, T', L, h0, X', hL, e1, e2, ⟨⟨hv, hp, hK, hD, -⟩, hz, hk⟩, st⟩ := hr T hT X
  cases hv
  rw [h0] at hz hk
  obtain ⟨t2, a1, b1⟩ := kk T'.heap (locs ++ L) (by rw [e1]; exact hp) hD
    ⟨Nat.le_trans hS.1 (by rw [e1]; exact hz), fun q h1 h2 => by rw [e1, hk q (Nat.lt_of_lt_of_le h1 hS.1) h2]; exact hS.2.1 q h1 h2, fun q hq => by
      rcases List.mem_append.mp hq with h | h
      · exact hS.2.2 q h
      · exact hL q h⟩ T' rfl X'
  exact ⟨t2, st t2 a1, b1⟩
section KG
variable {E : kw_E} {τ : Nat → kw_C} {N d : Nat} {μ : kw_Mt} {pc : Nat} {lv : List (Nat × Value)} {st : List Value} {σ : kw_M} {v : Option Value} {σ2 : kw_M}
theorem kw_out (ad : Nat → Nat) (u : Option Value) (st : List Value) : (u.map (kw_tr ad)).toList ++ st.map (kw_tr ad) = (u.toList ++ st).map (kw_tr ad) := by cases u <;> rfl
theorem kg_callV {d2 : Nat} (hd2 : d + 1 = d2) {μ1 : kw_Mt} {n : Nat} (hm : kw_MV μ1 n) (As : List Value) (st : List Value) {cb : Nat} {u : Option Value} {σ1 : kw_M} (hM : kw_Met E τ N d μ1 (.ref cb :: As) σ u σ1) {own : String} (ho : μ.1.cls = own) {i : Nat} (hlink : Cond.methodLink own i μ1.1 ∈ kw_all) {ci : Nat} {T : u_T} {Nf : Nat} (hcl : vwCl[ci]? = some (μ1.1.cls, T, Nf)) (hc : cb < N) {fs : List (Nat × Nat)} (hx : τ cb = .inr (ci, fs)) (hn : As.length = n) (hcat : (st.map fun v => v.category).sum ≤ 8) (hdg : decode μ.2.1 pc = .ok (.invokevirtual i, 3)) {st0 : List Value} (hst : As.reverse ++ .ref cb :: st = st0) {st2 : List Value} (hst2 : u.toList ++ st = st2) {pc2 : Nat} (hp : pc + 3 = pc2) (k : kw_G E τ N d2 μ pc2 lv st2 σ1 v σ2) : kw_G E τ N d2 μ pc lv st0 σ v σ2 := by
  subst hd2
  subst hst2
  subst hp
  subst hst
  intro p e R s m args below meth c H locs ls cells slots Q C hl hP hD hS kk
  have hts := C.2.2.2.2.1
  have hown : s.vm.findClass own = some m.cls := ho ▸ C.2.2.2.1
  have hR : (kw_rm d).frames + 1 ≤ R.frames ∧ 8 + (μ1.2.2.1 + 11) + (kw_rm d).locals ≤ R.locals := ⟨C.2.2.2.2.2.2.1, by
    have h1 := hm.1.2.2.2
    have h2 : 64 * (d + 1) ≤ R.locals := C.2.2.2.2.2.2.2.1
    show 8 + (μ1.2.2.1 + 11) + 64 * d ≤ R.locals
    omega⟩
  refine kw_cont (τ := τ) (σ1 := σ1) (u := u) (rest := st.map (kw_tr E.2.2.2)) (va_runV (As := As.map (kw_tr E.2.2.2)) (rest := st.map (kw_tr E.2.2.2)) (C := μ1.1.cls) ⟨C.1, C.2.1, C.2.2.1, hown, hts⟩ hM ⟨callB_of n hts (kw_good hm.1) rfl rfl rfl (hts _ hm.1.1) (hts _ hlink) hm.1.2.2.1 hR, hts _ hm.2.1, hts _ hm.2.2⟩ ⟨kw_blind E τ N _ σ, va_recv C.2.2.2.2.2.1 hP hcl (kw_at hc hx), fun U hU hW => ⟨rfl, by rw [hU]; exact hP, va_K.moved hW.alike C.2.2.2.2.2.1, hD, C.2.2.2.2.2.2.2.2.2.2.1.warm hW, C.2.2.2.2.2.2.2.2.2.2.2.to hW hS hU⟩⟩ rfl (by rw [List.length_map]; exact hn) hl.1 ?_ (lv_room (by rw [kw_cats]; exact hcat)) hdg ⟨C.2.2.2.2.2.2.2.2.1, C.2.2.2.2.2.2.2.2.2.1⟩) hS (fun H1 locs1 hP1 hD1 hS1 => ?_)
  · show (As.reverse ++ .ref cb :: st).map (kw_tr E.2.2.2) = _
    rw [List.map_append, List.map_reverse]
    rfl
  · rw [kw_out]
    exact k p e R s m args below meth c H1 locs1 ls cells slots Q C hl hP1 hD1 hS1 kk
theorem kg_callS {d2 : Nat} (hd2 : d + 1 = d2) {μ1 : kw_Mt} {n : Nat} (hm : kw_MS μ1 n) (As : List Value) (st : List Value) {u : Option Value} {σ1 : kw_M} (hM : kw_Met E τ N d μ1 As σ u σ1) {own : String} (ho : μ.1.cls = own) {i : Nat} (hlink : Cond.methodLink own i μ1.1 ∈ kw_all) (hn : As.length = n) (hcat : (st.map fun v => v.category).sum ≤ 8) (hdg : decode μ.2.1 pc = .ok (.invokestatic i, 3)) {st0 : List Value} (hst : As.reverse ++ st = st0) {st2 : List Value} (hst2 : u.toList ++ st = st2) {pc2 : Nat} (hp : pc + 3 = pc2) (k : kw_G E τ N d2 μ pc2 lv st2 σ1 v σ2) : kw_G E τ N d2 μ pc lv st0 σ v σ2 := by
  subst hd2
  subst hst2
  subst hp
  subst hst
  intro p e R s m args below meth c H locs ls cells slots Q C hl hP hD hS kk
  have hts := C.2.2.2.2.1
  have hown : s.vm.findClass own = some m.cls := ho ▸ C.2.2.2.1
  have hR : (kw_rm d).frames + 1 ≤ R.frames ∧ 8 + (μ1.2.2.1 + 11) + (kw_rm d).locals ≤ R.locals := ⟨C.2.2.2.2.2.2.1, by
    have h1 := hm.1.2.2.2
    have h2 : 64 * (d + 1) ≤ R.locals := C.2.2.2.2.2.2.2.1
    show 8 + (μ1.2.2.1 + 11) + 64 * d ≤ R.locals
    omega⟩
  refine kw_cont (τ := τ) (σ1 := σ1) (u := u) (rest := st.map (kw_tr E.2.2.2)) (va_runS (As := As.map (kw_tr E.2.2.2)) (rest := st.map (kw_tr E.2.2.2)) ⟨C.1, C.2.1, C.2.2.1, hown, hts⟩ hM ⟨callB_of n hts (kw_good hm.1) rfl rfl rfl (hts _ hm.1.1) (hts _ hlink) hm.1.2.2.1 hR, hts _ hm.2⟩ ⟨kw_blind E τ N _ σ, fun U hU hW => ⟨rfl, by rw [hU]; exact hP, va_K.moved hW.alike C.2.2.2.2.2.1, hD, C.2.2.2.2.2.2.2.2.2.2.1.warm hW, C.2.2.2.2.2.2.2.2.2.2.2.to hW hS hU⟩⟩ rfl (by rw [List.length_map]; exact hn) hl.1 ?_ (lv_room (by rw [kw_cats]; exact hcat)) hdg ⟨C.2.2.2.2.2.2.2.2.1, C.2.2.2.2.2.2.2.2.2.1⟩) hS (fun H1 locs1 hP1 hD1 hS1 => ?_)
  · show (As.reverse ++ st).map (kw_tr E.2.2.2) = _
    rw [List.map_append, List.map_reverse]
  · rw [kw_out]
    exact k p e R s m args below meth c H1 locs1 ls cells slots Q C hl hP1 hD1 hS1 kk
theorem kg_callN {d2 : Nat} (hd2 : d + 1 = d2) {μ1 : kw_Mt} {n : Nat} (hm : kw_MS μ1 n) (As : List Value) (st : List Value) {u : Option Value} {σ1 : kw_M} (hM : kw_Met E τ N d μ1 As σ u σ1) {own host : String} (ho : μ.1.cls = own) {i : Nat} (hlink : Cond.methodLinkNest own i μ1.1 host ∈ kw_nests) (hn : As.length = n) (hcat : (st.map fun v => v.category).sum ≤ 8) (hdg : decode μ.2.1 pc = .ok (.invokestatic i, 3)) {st0 : List Value} (hst : As.reverse ++ st = st0) {st2 : List Value} (hst2 : u.toList ++ st = st2) {pc2 : Nat} (hp : pc + 3 = pc2) (k : kw_G E τ N d2 μ pc2 lv st2 σ1 v σ2) : kw_G E τ N d2 μ pc lv st0 σ v σ2 := by
  subst hd2
  subst hst2
  subst hp
  subst hst
  intro p e R s m args below meth c H locs ls cells slots Q C hl hP hD hS kk
  have hts := C.2.2.2.2.1
  have hown : s.vm.findClass own = some m.cls := ho ▸ C.2.2.2.1
  have hR : (kw_rm d).frames + 1 ≤ R.frames ∧ 8 + (μ1.2.2.1 + 11) + (kw_rm d).locals ≤ R.locals := ⟨C.2.2.2.2.2.2.1, by
    have h1 := hm.1.2.2.2
    have h2 : 64 * (d + 1) ≤ R.locals := C.2.2.2.2.2.2.2.1
    show 8 + (μ1.2.2.1 + 11) + 64 * d ≤ R.locals
    omega⟩
  refine kw_cont (τ := τ) (σ1 := σ1) (u := u) (rest := st.map (kw_tr E.2.2.2)) (va_runSN (As := As.map (kw_tr E.2.2.2)) (rest := st.map (kw_tr E.2.2.2)) ⟨C.1, C.2.1, C.2.2.1, hown, hts⟩ hM ⟨va_cnB n hts (kw_good hm.1) rfl rfl rfl (C.2.2.2.2.2.2.2.2.2.2.1 _ hlink) (hts _ hm.1.1) hm.1.2.2.1 hR, hts _ hm.2, trivial⟩ ⟨kw_blind E τ N _ σ, fun U hU hW => ⟨rfl, by rw [hU]; exact hP, va_K.moved hW.alike C.2.2.2.2.2.1, hD, C.2.2.2.2.2.2.2.2.2.2.1.warm hW, C.2.2.2.2.2.2.2.2.2.2.2.to hW hS hU⟩⟩ rfl (by rw [List.length_map]; exact hn) hl.1 ?_ (lv_room (by rw [kw_cats]; exact hcat)) hdg ⟨C.2.2.2.2.2.2.2.2.1, C.2.2.2.2.2.2.2.2.2.1⟩) hS (fun H1 locs1 hP1 hD1 hS1 => ?_)
  · show (As.reverse ++ st).map (kw_tr E.2.2.2) = _
    rw [List.map_append, List.map_reverse]
  · rw [kw_out]
    exact k p e R s m args below meth c H1 locs1 ls cells slots Q C hl hP1 hD1 hS1 kk
def kw_CP (own : String) (i : Nat) : Prop := Cond.methodLink own i arraycopyName ∈ kw_all ∧ Cond.native arraycopyName ∈ kw_all ∧ Cond.static arraycopyName ∈ kw_all ∧ Cond.initialized "java/lang/System" ∈ kw_all
theorem kg_copyi {d2 : Nat} (hd2 : d + 1 = d2) {own : String} (ho : μ.1.cls = own) {i : Nat} (hw : kw_CP own i) {c0 c1 n0 n1 : Nat} (hc0 : c0 < N) (hx0 : τ c0 = .inl (0, n0)) (hc1 : c1 < N) (hx1 : τ c1 = .inl (0, n1)) {sp dp n : Int32} (h1 : ¬ sp < 0) (h2 : ¬ dp < 0) (h3 : ¬ n < 0) (h4 : sp.toNatClampNeg + n.toNatClampNeg ≤ n0) (h5 : dp.toNatClampNeg + n.toNatClampNeg ≤ n1) (hcat : (st.map fun v => v.category).sum ≤ 8) {σ1 : kw_M} {sn dn nn : Nat} (hsn : sp.toNatClampNeg = sn) (hdn : dp.toNatClampNeg = dn) (hnn : n.toNatClampNeg = nn) (hs : kw_ri σ c1 (va_cpy (σ.1 c0) (σ.1 c1) sn dn nn) = σ1) (hdg : decode μ.2.1 pc = .ok (.invokestatic i, 3)) {pc2 : Nat} (hp : pc + 3 = pc2) (k : kw_G E τ N d2 μ pc2 lv st σ1 v σ2) : kw_G E τ N d2 μ pc lv (.int n :: .int dp :: .ref c1 :: .int sp :: .ref c0 :: st) σ v σ2 := by
  subst hd2
  subst hsn
  subst hdn
  subst hnn
  subst hp
  subst hs
  intro p e R s m args below meth c H locs ls cells slots Q C hl hP hD hS kk
  have hts := C.2.2.2.2.1
  refine va_copyi C.1 C.2.1 (C.2.2.1.trans hl.1.symm) (own := own) (ho ▸ C.2.2.2.1) (hts _ hw.1) (hts _ hw.2.1) (hts _ hw.2.2.1) (hts _ hw.2.2.2) C.2.2.2.2.2.1 hP hD hS c0 c1 0 0 (ty := .int) (kw_at hc0 hx0) (kw_at hc1 hx1) rfl rfl rfl h1 h2 h3 h4 h5 (fun _ _ => rfl) (Nat.le_trans (Nat.le_add_left 1 d) C.2.2.2.2.2.2.1) ?_ hdg (fun H1 locs1 hP1 hD1 hS1 => ?_)
  · have h2 : 64 * (d + 1) ≤ R.locals := C.2.2.2.2.2.2.2.1
    have h3 : ((st.map (kw_tr E.2.2.2)).map fun v => v.category).sum ≤ 8 := by rw [kw_cats]; exact hcat
    have h4 : nativeFrameWords "java/lang/System" "arraycopy" 5 = 7 := by decide +kernel
    rw [h4]
    omega
  · have hset := kw_set (E := E) (τ := τ) (N := N) (σ := σ) (σ' := kw_ri σ c1 (va_cpy (σ.1 c0) (σ.1 c1) sp.toNatClampNeg dp.toNatClampNeg n.toNatClampNeg)) hc1 hx1 (e' := .inl (E.2.2.1 0, n1, .inl (va_cpy (σ.1 c0) (σ.1 c1) sp.toNatClampNeg dp.toNatClampNeg n.toNatClampNeg))) (by show Sum.inl (E.2.2.1 0, n1, Sum.inl ((kw_ri σ c1 _).1 c1)) = _; rw [kw_ri_1]) (fun q hq => kw_ri_o hq) (fun _ _ => rfl)
    exact k p e R s m args below meth c H1 locs1 ls cells slots Q C hl (hset ▸ hP1) (hset ▸ hD1) hS1 kk
theorem kg_copyl {d2 : Nat} (hd2 : d + 1 = d2) {own : String} (ho : μ.1.cls = own) {i : Nat} (hw : kw_CP own i) {c0 c1 n0 n1 : Nat} (hc0 : c0 < N) (hx0 : τ c0 = .inl (1, n0)) (hc1 : c1 < N) (hx1 : τ c1 = .inl (1, n1)) {sp dp n : Int32} (h1 : ¬ sp < 0) (h2 : ¬ dp < 0) (h3 : ¬ n < 0) (h4 : sp.toNatClampNeg + n.toNatClampNeg ≤ n0) (h5 : dp.toNatClampNeg + n.toNatClampNeg ≤ n1) (hcat : (st.map fun v => v.category).sum ≤ 8) {σ1 : kw_M} {sn dn nn : Nat} (hsn : sp.toNatClampNeg = sn) (hdn : dp.toNatClampNeg = dn) (hnn : n.toNatClampNeg = nn) (hs : kw_rl σ c1 (va_cpy (σ.2 c0) (σ.2 c1) sn dn nn) = σ1) (hdg : decode μ.2.1 pc = .ok (.invokestatic i, 3)) {pc2 : Nat} (hp : pc + 3 = pc2) (k : kw_G E τ N d2 μ pc2 lv st σ1 v σ2) : kw_G E τ N d2 μ pc lv (.int n :: .int dp :: .ref c1 :: .int sp :: .ref c0 :: st) σ v σ2 := by
  subst hd2
  subst hsn
  subst hdn
  subst hnn
  subst hp
  subst hs
  intro p e R s m args below meth c H locs ls cells slots Q C hl hP hD hS kk
  have hts := C.2.2.2.2.1
  refine va_copyl C.1 C.2.1 (C.2.2.1.trans hl.1.symm) (own := own) (ho ▸ C.2.2.2.1) (hts _ hw.1) (hts _ hw.2.1) (hts _ hw.2.2.1) (hts _ hw.2.2.2) C.2.2.2.2.2.1 hP hD hS c0 c1 1 1 (ty := .long) (kw_at hc0 hx0) (kw_at hc1 hx1) rfl rfl rfl h1 h2 h3 h4 h5 (fun _ _ => rfl) (Nat.le_trans (Nat.le_add_left 1 d) C.2.2.2.2.2.2.1) ?_ hdg (fun H1 locs1 hP1 hD1 hS1 => ?_)
  · have h2 : 64 * (d + 1) ≤ R.locals := C.2.2.2.2.2.2.2.1
    have h3 : ((st.map (kw_tr E.2.2.2)).map fun v => v.category).sum ≤ 8 := by rw [kw_cats]; exact hcat
    have h4 : nativeFrameWords "java/lang/System" "arraycopy" 5 = 7 := by decide +kernel
    rw [h4]
    omega
  · have hset := kw_set (E := E) (τ := τ) (N := N) (σ := σ) (σ' := kw_rl σ c1 (va_cpy (σ.2 c0) (σ.2 c1) sp.toNatClampNeg dp.toNatClampNeg n.toNatClampNeg)) hc1 hx1 (e' := .inl (E.2.2.1 1, n1, .inr (.inl (va_cpy (σ.2 c0) (σ.2 c1) sp.toNatClampNeg dp.toNatClampNeg n.toNatClampNeg)))) (by show Sum.inl (E.2.2.1 1, n1, Sum.inr (Sum.inl ((kw_rl σ c1 _).2 c1))) = _; rw [kw_rl_2]) (fun _ _ => rfl) (fun q hq => kw_rl_o hq)
    exact k p e R s m args below meth c H1 locs1 ls cells slots Q C hl (hset ▸ hP1) (hset ▸ hD1) hS1 kk
end KG
theorem kw_neI {x k : Int32} {n : Int} (hk : k.toInt = n) (h : ¬ x = k) : ¬ x.toInt = n := fun e => h (Int32.toInt_inj.mp (e.trans hk.symm))
theorem kw_words {ws : List Cond} (ps : List Nat) (hp : ws = ps.filterMap (fun i => lw_tbl[i]?)) (hg : ws.all goodWord = true) : ∀ w ∈ ws, w ∈ kw_all := by
  intro w hw
  have h1 := List.all_eq_true.mp hg w hw
  rw [hp] at hw
  obtain ⟨i, -, hi⟩ := List.mem_filterMap.mp hw
  exact kw_word i hi h1
theorem kw_isB_n {x : Int32} (h : kw_isB x) : narrow .boolean (.int x) = .int x := by rcases h with rfl | rfl <;> rfl
theorem kw_isB_f {x : Int32} (h : kw_isB x) : fits .boolean (.int x) = true := by rcases h with rfl | rfl <;> rfl
