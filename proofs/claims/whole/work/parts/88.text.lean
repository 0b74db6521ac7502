/-! Text constants in the flat machine: the JDK's String.length and charAt over them; a field that holds another cell by its number. -/
theorem kw_enterR {E : kw_E} {τ : Nat → kw_C} {N d : Nat} {μ : kw_Mt} {as : List Value} {lv : List (Nat × Value)} {σ : kw_M} {v : Option Value} {σ2 : kw_M} (hy : plainName μ.1.cls = true) (hn : (lg_sl as).length ≤ μ.2.2.1) (ks : List Nat) (hpick : lv_pick (lv_args 0 as) ks = lv.map (kw_trl E.2.2.2)) (h : kw_G E τ N d μ 0 lv [] σ v σ2) : Met E.1 μ.1 (kw_ws μ) (kw_rm d) (va_Pc as (kw_Wd E τ N σ)) (kw_Q E τ N v σ2) 0 0 (kw_A E N) := by
  refine Met.ofW (cc := μ.2.1) (maxL := μ.2.2.1) (ret := μ.2.2.2) hy rfl ?_
  intro p e s m args below meth c s₁ B hml hv
  obtain ⟨rfl, hP, hK, hD, hNt, hSt⟩ := hv
  have hts := atoms_spec (ws := kw_ws μ) B.pre
  have hown : s.vm.findClass μ.1.cls = some m.cls := findClass_of_methodNamed B.named
  have hr := B.returns
  have hlocks := B.notSynchronized
  have hl := lv_sub (lv_entry as (n := μ.2.2.1) hn) ks hpick
  rw [lg_entry_eq]
  refine h p e _ s m _ below meth c s.heap [] _ 0 0 _ ⟨B.exec, B.bytes, hml, hown, fun w hw => hts w (List.mem_cons_of_mem _ hw), hK, Nat.le_refl _, Nat.le_refl _, Nat.zero_le _, Nat.zero_le _, hNt, hSt⟩ hl hP hD va_S.rf (fun H1 locs1 pc1 ls1 hP1 hD1 hS1 hret => ?_)
  cases v with
  | none =>
    obtain ⟨h1, h2⟩ := hret
    exact W.vret B.exec B.bytes (hr.trans h2) (fun t ht hW => ⟨⟨rfl, by rw [ht]; exact hP1, va_K.moved hW.alike hK, hD1, hNt.warm hW, hSt.to hW hS1 ht⟩, hS1.F ht⟩) hS1.2.2 h1
  | some x =>
    cases x with
    | int x =>
      obtain ⟨h1, ty, h2, h3⟩ := hret
      exact W.zret B.exec B.bytes (hr.trans h2) h3 (fun t ht hW => ⟨⟨rfl, by rw [ht]; exact hP1, va_K.moved hW.alike hK, hD1, hNt.warm hW, hSt.to hW hS1 ht⟩, hS1.F ht⟩) hS1.2.2 h1
    | long x =>
      obtain ⟨h1, h2⟩ := hret
      exact W.lret B.exec B.bytes (hr.trans h2) (fun t ht hW => ⟨⟨rfl, by rw [ht]; exact hP1, va_K.moved hW.alike hK, hD1, hNt.warm hW, hSt.to hW hS1 ht⟩, hS1.F ht⟩) hS1.2.2 h1
    | ref x =>
      obtain ⟨h1, rt, h2, h3⟩ := hret
      exact W.aret B.exec B.bytes (hr.trans h2) h3 (Or.inr ⟨_, rfl⟩) (fun t ht hW => ⟨⟨rfl, by rw [ht]; exact hP1, va_K.moved hW.alike hK, hD1, hNt.warm hW, hSt.to hW hS1 ht⟩, hS1.F ht⟩) hS1.2.2 h1
    | float x => exact absurd hret id
    | double x => exact absurd hret id
    | null => exact absurd hret id
    | retAddr x => exact absurd hret id
section KT
variable {E : kw_E} {τ : Nat → kw_C} {N d : Nat} {μ : kw_Mt} {pc : Nat} {lv : List (Nat × Value)} {st : List Value} {σ : kw_M} {v : Option Value} {σ2 : kw_M}
theorem kg_ldcS {own tx : String} {i : Nat} (j c0 : Nat) (ho : μ.1.cls = own) (hj : kw_strs[j]? = some (own, i, tx)) (hc : 100 + j = c0) (hdg : decode μ.2.1 pc = .ok (.ldc i, 2)) {pc2 : Nat} (hp : pc + 2 = pc2) (k : kw_G E τ N d μ pc2 lv (.ref c0 :: st) σ v σ2) : kw_G E τ N d μ pc lv st σ v σ2 := by
  subst hp
  subst hc
  intro p e R s m args below meth c H locs ls cells slots Q C hl hP hD hS kk
  exact va_ldcS C.1 C.2.1 (own := own) (ho ▸ C.2.2.2.1) (C.2.2.2.2.2.2.2.2.2.2.2.2.1 j _ hj) hdg (k p e R s m args below meth c H locs ls cells slots Q C hl hP hD hS kk)
theorem kg_sval {own : String} {i j : Nat} (hj : j < 15) (ho : μ.1.cls = own) (hw : Cond.fieldLink own i "java/lang/String" "value" "[B" ∈ kw_all) (hdg : decode μ.2.1 pc = .ok (.getfield i, 3)) {pc2 : Nat} (hp : pc + 3 = pc2) (k : kw_G E τ N d μ pc2 lv (.ref (200 + j) :: st) σ v σ2) : kw_G E τ N d μ pc lv (.ref (100 + j) :: st) σ v σ2 := by
  subst hp
  intro p e R s m args below meth c H locs ls cells slots Q C hl hP hD hS kk
  exact vk_getf C.1 C.2.1 (C.2.2.2.2.2.2.2.2.2.2.2.1.1 j hj).2.2.1 hS (ho ▸ C.2.2.2.1) (C.2.2.2.2.1 _ hw) (fun _ z => z) hdg (k p e R s m args below meth c H locs ls cells slots Q C hl hP hD hS kk)
theorem kg_scod {own : String} {i j : Nat} (hj : j < 15) (ho : μ.1.cls = own) (hw : Cond.fieldLink own i "java/lang/String" "coder" "B" ∈ kw_all) (hdg : decode μ.2.1 pc = .ok (.getfield i, 3)) {pc2 : Nat} (hp : pc + 3 = pc2) (k : kw_G E τ N d μ pc2 lv (.int 0 :: st) σ v σ2) : kw_G E τ N d μ pc lv (.ref (100 + j) :: st) σ v σ2 := by
  subst hp
  intro p e R s m args below meth c H locs ls cells slots Q C hl hP hD hS kk
  exact vk_getf C.1 C.2.1 (C.2.2.2.2.2.2.2.2.2.2.2.1.1 j hj).2.1 hS (ho ▸ C.2.2.2.1) (C.2.2.2.2.1 _ hw) (fun _ z => z) hdg (k p e R s m args below meth c H locs ls cells slots Q C hl hP hD hS kk)
theorem kg_stl {j : Nat} (hj : j < 15) (hdg : decode μ.2.1 pc = .ok (.arraylength, 1)) {pc2 : Nat} (hp : pc + 1 = pc2) (k : kw_G E τ N d μ pc2 lv (.int (Int32.ofNat (kw_slen.getD j 0)) :: st) σ v σ2) : kw_G E τ N d μ pc lv (.ref (200 + j) :: st) σ v σ2 := by
  subst hp
  intro p e R s m args below meth c H locs ls cells slots Q C hl hP hD hS kk
  exact va_tlen C.1 C.2.1 (C.2.2.2.2.2.2.2.2.2.2.2.1.1 j hj).2.2.2 hS rfl hdg (k p e R s m args below meth c H locs ls cells slots Q C hl hP hD hS kk)
theorem kg_stb {j : Nat} (hj : j < 15) {i : Int32} (hin : vp_in i (kw_slen.getD j 0)) (hdg : decode μ.2.1 pc = .ok (.baload, 1)) {pc2 : Nat} (hp : pc + 1 = pc2) (k : kw_G E τ N d μ pc2 lv (.int ((kw_sbyt.getD j []).getD i.toNatClampNeg 0) :: st) σ v σ2) : kw_G E τ N d μ pc lv (.int i :: .ref (200 + j) :: st) σ v σ2 := by
  subst hp
  intro p e R s m args below meth c H locs ls cells slots Q C hl hP hD hS kk
  exact va_tb C.1 C.2.1 (C.2.2.2.2.2.2.2.2.2.2.2.1.1 j hj).2.2.2 hS hin rfl hdg (k p e R s m args below meth c H locs ls cells slots Q C hl hP hD hS kk)
theorem kg_gcs {own : String} {i : Nat} (ho : μ.1.cls = own) (hw : Cond.fieldLink own i "java/lang/String" "COMPACT_STRINGS" "Z" ∈ kw_all) (hdg : decode μ.2.1 pc = .ok (.getstatic i, 3)) {pc2 : Nat} (hp : pc + 3 = pc2) (k : kw_G E τ N d μ pc2 lv (.int 1 :: st) σ v σ2) : kw_G E τ N d μ pc lv st σ v σ2 := by
  subst hp
  intro p e R s m args below meth c H locs ls cells slots Q C hl hP hD hS kk
  exact va_gets C.1 C.2.1 C.2.2.2.2.2.2.2.2.2.2.2.2.2.1 hS (ho ▸ C.2.2.2.1) (C.2.2.2.2.1 _ hw) (fun _ z => z) hdg (k p e R s m args below meth c H locs ls cells slots Q C hl hP hD hS kk)
theorem kg_i2c {x y : Int32} (hdg : decode μ.2.1 pc = .ok (.i2c, 1)) (hy : (x.toUInt32 % 65536).toInt32 = y) {pc2 : Nat} (hp : pc + 1 = pc2) (k : kw_G E τ N d μ pc2 lv (.int y :: st) σ v σ2) : kw_G E τ N d μ pc lv (.int x :: st) σ v σ2 := by
  subst hp
  intro p e R s m args below meth c H locs ls cells slots Q C hl hP hD hS kk
  exact lv_i2c C.1 C.2.1 hdg hy (k p e R s m args below meth c H locs ls cells slots Q C hl hP hD hS kk)
theorem kg_callT {d2 : Nat} (hd2 : d + 1 = d2) {μ1 : kw_Mt} {n : Nat} (hm : kw_MV μ1 n) (hT : μ1.1.cls = "java/lang/String") (As : List Value) (st : List Value) {j : Nat} (hj : j < 15) {u : Option Value} {σ1 : kw_M} (hM : kw_Met E τ N d μ1 (.ref (100 + j) :: As) σ u σ1) {own : String} (ho : μ.1.cls = own) {i : Nat} (hlink : Cond.methodLink own i μ1.1 ∈ kw_all) (hn : As.length = n) (hcat : (st.map fun v => v.category).sum ≤ 8) (hdg : decode μ.2.1 pc = .ok (.invokevirtual i, 3)) {st0 : List Value} (hst : As.reverse ++ .ref (100 + j) :: st = st0) {st2 : List Value} (hst2 : u.toList ++ st = st2) {pc2 : Nat} (hp : pc + 3 = pc2) (k : kw_G E τ N d2 μ pc2 lv st2 σ1 v σ2) : kw_G E τ N d2 μ pc lv st0 σ v σ2 := by
  subst hd2
  subst hst2
  subst hp
  subst hst
  intro p e R s m args below meth c H locs ls cells slots Q C hl hP hD hS kk
  have hts := C.2.2.2.2.1
  have hown : s.vm.findClass own = some m.cls := ho ▸ C.2.2.2.1
  have hrec := vk_recv (i := j) C.2.2.2.2.2.2.2.2.2.2.2.1 hj hS
  have hR : (kw_rm d).frames + 1 ≤ R.frames ∧ 8 + (μ1.2.2.1 + 11) + (kw_rm d).locals ≤ R.locals := ⟨C.2.2.2.2.2.2.1, by
    have h1 := hm.1.2.2.2
    have h2 : 64 * (d + 1) ≤ R.locals := C.2.2.2.2.2.2.2.1
    show 8 + (μ1.2.2.1 + 11) + 64 * d ≤ R.locals
    omega⟩
  refine kw_cont (τ := τ) (σ1 := σ1) (u := u) (rest := st.map (kw_tr E.2.2.2)) (va_runV (As := As.map (kw_tr E.2.2.2)) (rest := st.map (kw_tr E.2.2.2)) (C := μ1.1.cls) ⟨C.1, C.2.1, C.2.2.1, hown, hts⟩ hM ⟨callB_of n hts (kw_good hm.1) rfl rfl rfl (hts _ hm.1.1) (hts _ hlink) hm.1.2.2.1 hR, hts _ hm.2.1, hts _ hm.2.2⟩ ⟨kw_blind E τ N _ σ, by rw [hT]; exact hrec, fun U hU hW => ⟨rfl, by rw [hU]; exact hP, va_K.moved hW.alike C.2.2.2.2.2.1, hD, C.2.2.2.2.2.2.2.2.2.2.1.warm hW, C.2.2.2.2.2.2.2.2.2.2.2.to hW hS hU⟩⟩ rfl (by rw [List.length_map]; exact hn) hl.1 ?_ (lv_room (by rw [kw_cats]; exact hcat)) hdg ⟨C.2.2.2.2.2.2.2.2.1, C.2.2.2.2.2.2.2.2.2.1⟩) hS (fun H1 locs1 hP1 hD1 hS1 => ?_)
  · show (As.reverse ++ .ref (100 + j) :: st).map (kw_tr E.2.2.2) = _
    rw [List.map_append, List.map_reverse]
    rfl
  · rw [kw_out]
    exact k p e R s m args below meth c H1 locs1 ls cells slots Q C hl hP1 hD1 hS1 kk
/-- String.checkIndex's middle: the formatter, the check by Preconditions, its answer thrown away -/
theorem kg_sio {d2 : Nat} (hd2 : d + 1 = d2) {own : String} {f i : Nat} (ho : μ.1.cls = own) (hw : Cond.fieldLink own f "jdk/internal/util/Preconditions" "SIOOBE_FORMATTER" "Ljava/util/function/BiFunction;" ∈ kw_all) {μ1 : kw_Mt} (hm : kw_MS μ1 3) (hlink : Cond.methodLink own i μ1.1 ∈ kw_all) {x n : Int32} (hM : ∀ w : Value, w = .null ∨ (∃ a, w = .ref a) → Met E.1 μ1.1 (kw_ws μ1) (kw_rm d) (va_Pc [.int x, .int n, w] (kw_Wd E τ N σ)) (kw_Q E τ N (some (.int x)) σ) 0 0 (kw_A E N)) (hcat : (st.map fun v => v.category).sum ≤ 8) (hd0 : decode μ.2.1 pc = .ok (.getstatic f, 3)) (hd1 : decode μ.2.1 (pc + 3) = .ok (.invokestatic i, 3)) (hd3 : decode μ.2.1 (pc + 3 + 3) = .ok (.pop, 1)) {pc2 : Nat} (hp : pc + 3 + 3 + 1 = pc2) (k : kw_G E τ N d2 μ pc2 lv st σ v σ2) : kw_G E τ N d2 μ pc lv (.int n :: .int x :: st) σ v σ2 := by
  subst hd2
  subst hp
  intro p e R s m args below meth c H locs ls cells slots Q C hl hP hD hS kk
  have hts := C.2.2.2.2.1
  have hown : s.vm.findClass own = some m.cls := ho ▸ C.2.2.2.1
  have hR : (kw_rm d).frames + 1 ≤ R.frames ∧ 8 + (μ1.2.2.1 + 11) + (kw_rm d).locals ≤ R.locals := ⟨C.2.2.2.2.2.2.1, by
    have h1 := hm.1.2.2.2
    have h2 : 64 * (d + 1) ≤ R.locals := C.2.2.2.2.2.2.2.1
    show 8 + (μ1.2.2.1 + 11) + 64 * d ≤ R.locals
    omega⟩
  obtain ⟨w, hw1, hZ⟩ := C.2.2.2.2.2.2.2.2.2.2.2.2.2.2
  refine va_gets C.1 C.2.1 hZ hS hown (hts _ hw) (fun _ z => z) hd0 ?_
  refine kw_cont (τ := τ) (σ1 := σ) (u := some (.int x)) (rest := st.map (kw_tr E.2.2.2)) (va_runS (As := [.int x, .int n, w]) (rest := st.map (kw_tr E.2.2.2)) ⟨C.1, C.2.1, C.2.2.1, hown, hts⟩ (hM w hw1) ⟨callB_of 3 hts (kw_good hm.1) rfl rfl rfl (hts _ hm.1.1) (hts _ hlink) hm.1.2.2.1 hR, hts _ hm.2⟩ ⟨kw_blind E τ N _ σ, fun U hU hW => ⟨rfl, by rw [hU]; exact hP, va_K.moved hW.alike C.2.2.2.2.2.1, hD, C.2.2.2.2.2.2.2.2.2.2.1.warm hW, C.2.2.2.2.2.2.2.2.2.2.2.to hW hS hU⟩⟩ rfl rfl hl.1 rfl (lv_room (by rw [kw_cats]; exact hcat)) hd1 ⟨C.2.2.2.2.2.2.2.2.1, C.2.2.2.2.2.2.2.2.2.1⟩) hS (fun H1 locs1 hP1 hD1 hS1 => ?_)
  refine lv_pop C.1 C.2.1 hd3 rfl ?_
  exact k p e R s m args below meth c H1 locs1 ls cells slots Q C hl hP1 hD1 hS1 kk
/-- a field of references that may change: the cell's number stands in the memory -/
theorem kg_getD {ci : Nat} {C0 : String} {T : u_T} {Nf : Nat} (hcl : kw_CL ci C0 T Nf) {own : String} (ho : μ.1.cls = own) {i : Nat} (k0 : Nat) (hk : k0 < Nf) (hw : Cond.fieldLink own i (T k0).1 (T k0).2.1 (T k0).2.2.1 ∈ kw_all) {cn : Nat} (hc : cn < N) {fs : List (Nat × Nat)} (hx : τ cn = .inr (ci, fs)) {z : Nat} (hf : fs[k0]? = some (3, z)) {x : Int32} {r : Nat} (hq : σ.1 cn k0 = x) (hr : x.toNatClampNeg = r) (hdg : decode μ.2.1 pc = .ok (.getfield i, 3)) {pc2 : Nat} (hp : pc + 3 = pc2) (k : kw_G E τ N d μ pc2 lv (.ref r :: st) σ v σ2) : kw_G E τ N d μ pc lv (.ref cn :: st) σ v σ2 := kg_get hcl ho k0 hk hw hc hx hf (fun ad => by show Value.ref (ad (σ.1 cn k0).toNatClampNeg) = Value.ref (ad r); rw [hq, hr]) hdg hp k
theorem kg_putD {ci : Nat} {C0 : String} {T : u_T} {Nf : Nat} (hcl : kw_CL ci C0 T Nf) {own : String} (ho : μ.1.cls = own) {i : Nat} (k0 : Nat) (hk : k0 < Nf) (hw : Cond.fieldLink own i (T k0).1 (T k0).2.1 (T k0).2.2.1 ∈ kw_all) (hfin : (T k0).2.2.2 = false) {cn : Nat} (hc : cn < N) {fs : List (Nat × Nat)} (hx : τ cn = .inr (ci, fs)) {z : Nat} (hf : fs[k0]? = some (3, z)) {x : Int32} {r : Nat} (hr : x.toNatClampNeg = r) {σ1 : kw_M} {ty : FieldType} (hd : parseFieldDescriptor (T k0).2.2.1 = some ty) (hn : ∀ a, narrow ty (.ref a) = .ref a) (hft : ∀ a, fits ty (.ref a) = true) (hs : kw_si σ cn k0 x = σ1) (hdg : decode μ.2.1 pc = .ok (.putfield i, 3)) {pc2 : Nat} (hp : pc + 3 = pc2) (k : kw_G E τ N d μ pc2 lv st σ1 v σ2) : kw_G E τ N d μ pc lv (.ref r :: .ref cn :: st) σ v σ2 := by
  subst hp
  subst hs
  subst hr
  intro p e R s m args below meth c H locs ls cells slots Q C hl hP hD hS kk
  obtain ⟨ty0, hty⟩ := hcl.2.2.1
  have he : kw_e E (kw_si σ cn k0 x) cn (.inr (ci, fs)) = .inr (ci, (kw_fs E.2.2.2 σ cn fs).set k0 (.ref (E.2.2.2 x.toNatClampNeg))) := by
    show Sum.inr (ci, kw_fs E.2.2.2 (kw_si σ cn k0 x) cn fs) = _
    rw [kw_fs_set (σ := σ) (σ' := kw_si σ cn k0 x) hf (v := (.ref (E.2.2.2 x.toNatClampNeg))) (by show Value.ref (E.2.2.2 ((kw_si σ cn k0 x).1 cn k0).toNatClampNeg) = _; rw [kw_si_1]; simp [upd]) (fun j hj => by rw [kw_si_1]; simp [upd, hj]) (fun _ _ => rfl)]
  refine va_put C.1 C.2.1 (own := own) C.2.2.2.2.1 hcl.2.1 ty0 hty hcl.2.2.2 (ho ▸ C.2.2.2.1) C.2.2.2.2.2.1 hP hD hS cn (kw_at hc hx) hcl.1 k0 hk (C.2.2.2.2.1 _ hw) (fun _ z => z) hfin hd (hn _) (hft _) (by rw [kw_fs, List.length_map, List.length_range]; exact (List.getElem?_eq_some_iff.mp hf).1) hdg (fun H1 locs1 hP1 hD1 hS1 => ?_)
  have hset := kw_set (E := E) (σ := σ) (σ' := kw_si σ cn k0 x) hc hx he (fun q hq => kw_si_o hq) (fun _ _ => rfl)
  have hP1 : va_P E.2.1 vwCl (kw_cells E τ N (kw_si σ cn k0 x)) H1 := hset ▸ hP1
  have hD1 : va_D (kw_A E N) (kw_cells E τ N (kw_si σ cn k0 x)) := hset ▸ hD1
  exact k p e R s m args below meth c H1 locs1 ls cells slots Q C hl hP1 hD1 hS1 kk
end KT
