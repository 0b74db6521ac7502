/-! Constructors: a world that grows. A row an instruction. -/
theorem kl_St.nar {E : kw_E} {A A' : Nat → Prop} {U : State} (h : kl_St E A U) (hA : ∀ q, A' q → A q) : kl_St E A' U := by
  obtain ⟨h1, h2, h3, w, hw, h4⟩ := h
  exact ⟨h1.narrow hA, h2, h3.narrow hA, w, hw, h4.narrow hA⟩
theorem kl_St.same {E : kw_E} {A : Nat → Prop} {u U : State} (hv : U.vm = u.vm) (hh : U.heap = u.heap) (h : kl_St E A u) : kl_St E A U := by
  obtain ⟨h1, h2, h3, w, hw, h4⟩ := h
  have ha : u.vm.Alike U.vm := by rw [hv]; exact Vm.Alike.refl _
  unfold kl_St
  rw [hh]
  exact ⟨h1.moved ha, fun j q hq => (h2 j q hq).same hv, h3.moved ha, w, hw, h4.moved ha⟩
def kc_Wd (E : kw_E) (ws0 : va_W) (sz : Nat) (U : State) : Prop := U.heap.size = sz ∧ va_P E.2.1 vwCl ws0 U.heap ∧ va_K E.2.1 vwCl (kw_tys E.2.2.1) U ∧ va_D (fun _ => True) ws0 ∧ kw_Nt U ∧ kl_St E (va_A ws0 sz) U
def kc_Q (E : kw_E) (A : Nat → Prop) (V : (Nat → Nat) → va_W) : Array Value → State → Outcome → State → Prop := va_Qv (S := Nat → Nat) (fun _ => True) (fun qs t => va_P E.2.1 vwCl (V qs) t.heap ∧ va_D A (V qs)) A
def kc_rm (d mc ms : Nat) : Room := { frames := d, cells := mc, slots := ms, locals := 64 * d }
def kc_Met (E : kw_E) (d mc ms : Nat) (μ : kw_Mt) (As : List Value) (ws0 : va_W) (V : (Nat → Nat) → va_W) : Prop := ∀ sz : Nat, Met E.1 μ.1 (kw_ws μ) (kc_rm d mc ms) (va_Pc As (kc_Wd E ws0 sz)) (kc_Q E (va_A ws0 sz) V) mc ms (va_A ws0 sz)
theorem kc_blind (E : kw_E) (ws0 : va_W) (sz : Nat) (As : List Value) : FrameBlind (va_Pc As (kc_Wd E ws0 sz)) := by
  intro a U g mk q
  obtain ⟨q0, q1, qP, qK, qD, qN, qS⟩ := q
  exact ⟨q0, q1, qP, va_K.moved (u := U) (U := U.calling g mk a) (Vm.Alike.refl U.vm) qK, qD, kw_Nt.same (u := U) (U := U.calling g mk a) rfl qN, kl_St.same (u := U) (U := U.calling g mk a) rfl rfl qS⟩
def kc_Cx (E : kw_E) (μ : kw_Mt) (ws0 : va_W) (p : Program) (s : State) (m : MethodId) (args : Array Value) (meth : Method) (c : Code) : Prop :=
  p.tables.exec = Jvm.exec ∧ c.code = μ.2.1 ∧ c.maxLocals = μ.2.2.1 ∧ s.vm.findClass μ.1.cls = some m.cls ∧ (∀ w ∈ kw_all, w.before args s = true) ∧ va_K E.2.1 vwCl (kw_tys E.2.2.1) s ∧ kw_Nt s ∧ kl_St E (va_A ws0 s.heap.size) s ∧ meth.name = "<init>" ∧ meth.sig.returnType = none ∧ meth.locks = false
def kc_G (E : kw_E) (d mc ms : Nat) (μ : kw_Mt) (ws0 : va_W) (V : (Nat → Nat) → va_W) (pc : Nat) (lv : List (Nat × Value)) (st : List Value) (ws : va_W) (cl sl : Nat) : Prop :=
  ∀ (p : Program) (e : Env) (s : State) (m : MethodId) (args : Array Value) (below : List Frame) (meth : Method) (c : Code) (H : Heap) (locs : List Loc) (ls : Array Slot),
    kc_Cx E μ ws0 p s m args meth c → lv_has ls μ.2.2.1 lv → va_P E.2.1 vwCl ws H → va_D (va_A ws0 s.heap.size) ws → va_S (va_A ws0 s.heap.size) s.heap H locs →
    W p E.1 e (kc_rm d mc ms) s m args below meth c H locs cl sl (MQ below (kc_Q E (va_A ws0 s.heap.size) V) args s mc ms (va_A ws0 s.heap.size)) (F0 m pc ls st)
theorem kc_enter {E : kw_E} {d mc ms : Nat} {μ : kw_Mt} {As : List Value} {ws0 : va_W} {V : (Nat → Nat) → va_W} (hy : plainName μ.1.cls = true) (hret : μ.2.2.2 = none) (hnm : μ.1.name = "<init>") (hn : (lg_sl As).length ≤ μ.2.2.1) (h : kc_G E d mc ms μ ws0 V 0 (lv_args 0 As) [] ws0 0 0) : kc_Met E d mc ms μ As ws0 V := by
  intro sz
  refine Met.ofW (cc := μ.2.1) (maxL := μ.2.2.1) (ret := μ.2.2.2) hy rfl ?_
  intro p e s m args below meth c s₁ B hml hv
  obtain ⟨rfl, hsz, hP, hK, hD0, hNt, hSt⟩ := hv
  subst hsz
  have hts := atoms_spec (ws := kw_ws μ) B.pre
  have hown : s.vm.findClass μ.1.cls = some m.cls := findClass_of_methodNamed B.named
  have hin : meth.name = "<init>" := ((name_of_methodNamed B.named B.method).1).trans hnm
  have hl := lv_entry As (n := μ.2.2.1) hn
  rw [lg_entry_eq]
  exact h p e s m _ below meth c s.heap [] _ ⟨B.exec, B.bytes, hml, hown, fun w hw => hts w (List.mem_cons_of_mem _ hw), hK, hNt, hSt, hin, B.returns.trans hret, B.notSynchronized⟩ hl hP hD0.self va_S.rf
section KC
variable {E : kw_E} {d mc ms : Nat} {μ : kw_Mt} {ws0 : va_W} {V : (Nat → Nat) → va_W} {pc : Nat} {lv : List (Nat × Value)} {st : List Value} {ws : va_W} {cl sl : Nat}
theorem kc_aload_n (j : Nat) {n : Fin 4} {i x : Nat} (hdg : decode μ.2.1 pc = .ok (.aload_n n, 1)) (hi : (n : Nat) = i) (hj : lv[j]? = some (i, .ref x)) {pc2 : Nat} (hp : pc + 1 = pc2) (k : kc_G E d mc ms μ ws0 V pc2 lv (.ref x :: st) ws cl sl) : kc_G E d mc ms μ ws0 V pc lv st ws cl sl := by
  subst hp
  intro p e s m args below meth c H locs ls C hl hP hD hS
  exact lv_aload_n C.1 C.2.1 hdg hi (lv_at hl j hj) (k p e s m args below meth c H locs ls C hl hP hD hS)
theorem kc_dup {v : Value} (hv : v.category = 1) (hdg : decode μ.2.1 pc = .ok (.dup, 1)) {pc2 : Nat} (hp : pc + 1 = pc2) (k : kc_G E d mc ms μ ws0 V pc2 lv (v :: v :: st) ws cl sl) : kc_G E d mc ms μ ws0 V pc lv (v :: st) ws cl sl := by
  subst hp
  intro p e s m args below meth c H locs ls C hl hP hD hS
  exact lv_dup C.1 C.2.1 hdg hv (k p e s m args below meth c H locs ls C hl hP hD hS)
theorem kc_iconst {n : Int} {x : Int32} (hdg : decode μ.2.1 pc = .ok (.iconst n, 1)) (hv : Int32.ofInt n = x) {pc2 : Nat} (hp : pc + 1 = pc2) (k : kc_G E d mc ms μ ws0 V pc2 lv (.int x :: st) ws cl sl) : kc_G E d mc ms μ ws0 V pc lv st ws cl sl := by
  subst hp
  intro p e s m args below meth c H locs ls C hl hP hD hS
  exact lv_iconst C.1 C.2.1 hdg hv (k p e s m args below meth c H locs ls C hl hP hD hS)
theorem kc_bipush {n : Int} {x : Int32} (hdg : decode μ.2.1 pc = .ok (.bipush n, 2)) (hv : (Int8.ofInt n).toInt32 = x) {pc2 : Nat} (hp : pc + 2 = pc2) (k : kc_G E d mc ms μ ws0 V pc2 lv (.int x :: st) ws cl sl) : kc_G E d mc ms μ ws0 V pc lv st ws cl sl := by
  subst hp
  intro p e s m args below meth c H locs ls C hl hP hD hS
  exact lv_bipush C.1 C.2.1 hdg hv (k p e s m args below meth c H locs ls C hl hP hD hS)
theorem kc_sipush {n : Int} {x : Int32} (hdg : decode μ.2.1 pc = .ok (.sipush n, 3)) (hv : (Int16.ofInt n).toInt32 = x) {pc2 : Nat} (hp : pc + 3 = pc2) (k : kc_G E d mc ms μ ws0 V pc2 lv (.int x :: st) ws cl sl) : kc_G E d mc ms μ ws0 V pc lv st ws cl sl := by
  subst hp
  intro p e s m args below meth c H locs ls C hl hP hD hS
  exact lv_sipush C.1 C.2.1 hdg hv (k p e s m args below meth c H locs ls C hl hP hD hS)
theorem kc_obj {own : String} (ho : μ.1.cls = own) {i : Nat} (hw : Cond.methodLink own i objectInit ∈ kw_all) (w1 : Cond.instanceMethod objectInit ∈ kw_all) (w2 : Cond.code objectInit ⟨#[0xb1]⟩ 1 none ∈ kw_all) (hd1 : 1 ≤ d) {x : Nat} (hcat : (st.map fun v => v.category).sum ≤ 8) (hdg : decode μ.2.1 pc = .ok (.invokespecial i, 3)) {pc2 : Nat} (hp : pc + 3 = pc2) (k : kc_G E d mc ms μ ws0 V pc2 lv st ws cl sl) : kc_G E d mc ms μ ws0 V pc lv (.ref x :: st) ws cl sl := by
  subst hp
  subst ho
  intro p e s m args below meth c H locs ls C hl hP hD hS
  have hts := C.2.2.2.2.1
  have h8 := lv_room (m := m) (pc := pc) (ls := ls) (rest := .ref x :: st) hcat
  refine W.objInit C.1 C.2.1 C.2.2.2.1 (hts _ hw) (hts _ w1) (hts _ w2) (g := F0 m pc ls (.ref x :: st)) rfl (by rw [C.2.2.1]; exact hl.1) rfl hdg hd1 (by show _ ≤ 64 * d; omega) ?_
  refine W.eq (g2 := F0 m (pc + 3) ls st) rfl ?_
  exact k p e s m args below meth c H locs ls C hl hP hD hS
theorem kc_newa (t : Nat) {atype : ArrayType} {ty : FieldType} (hty : newarray.typeOf atype = ty) (ht : ∀ aC : Nat → ClassId, (kw_tys aC)[t]? = some (aC t, ty)) (hra : ∀ (U : State) (c : ClassId), va_RA U c ty → U.vm.findClass ("[" ++ ty.toString) = some c) (hw : Cond.arrayClass (newarray.typeOf atype) ∈ kw_all) {n : Int32} {N' : Nat} {a0 : vp_A} (ha : ∀ cA : ClassId, vp_cell cA a0 = arrV cA N' (fun _ => defaultValue ty)) (hn : ¬ n < 0) (hN : n.toNatClampNeg = N') (hbytes : N' * componentBytes ty ≤ 536870912) (hc : cl + 1 ≤ mc) (hs : sl + N' ≤ ms) (hdg : decode μ.2.1 pc = .ok (.newarray atype, 2)) {pc2 : Nat} (hp : pc + 2 = pc2) (k : ∀ q : Nat, kc_G E d mc ms μ ws0 V pc2 lv (.ref q :: st) (ws ++ [(q, .inl (E.2.2.1 t, a0))]) (cl + 1) (sl + N')) : kc_G E d mc ms μ ws0 V pc lv (.int n :: st) ws cl sl := by
  subst hp
  intro p e s m args below meth c H locs ls C hl hP hD hS
  have hts := C.2.2.2.2.1
  have hK := C.2.2.2.2.2.1
  refine va_newa C.1 C.2.1 (hts _ hw) hty hK hP hD hS (fun q h => Or.inr h) ha hn hN hbytes hc hs hdg (fun q cA H1 hK1 hP1 hD1 hS1 => ?_)
  have e1 := hra s cA (hK1.2 4 (cA, ty) rfl).2
  have e2 := hra s (E.2.2.1 t) (hK.2 t _ (ht E.2.2.1)).2
  obtain rfl : cA = E.2.2.1 t := Option.some.inj (e1.symm.trans e2)
  exact k q p e s m args below meth c H1 locs ls C hl hP1 hD1 hS1
theorem kc_new {ci : Nat} {C0 : String} {T : u_T} {Nf : Nat} (hcl : kw_CL ci C0 T Nf) (ty : Nat → FieldType) (hty : ∀ k, k < Nf → parseFieldDescriptor (T k).2.2.1 = some (ty k)) {own : String} (ho : μ.1.cls = own) {i : Nat} (w1 : Cond.classLink own i C0 ∈ kw_all) (w2 : Cond.instantiable C0 Nf ∈ kw_all) (w3 : Cond.initialized C0 ∈ kw_all) {fs : List Value} (hfs : ∀ j, j < Nf → defaultValue (ty j) = vp_V fs j) (hc : cl + 1 ≤ mc) (hs : sl + Nf ≤ ms) (hdg : decode μ.2.1 pc = .ok (.new i, 3)) {pc2 : Nat} (hp : pc + 3 = pc2) (k : ∀ q : Nat, kc_G E d mc ms μ ws0 V pc2 lv (.ref q :: st) (ws ++ [(q, .inr (ci, fs))]) (cl + 1) (sl + Nf)) : kc_G E d mc ms μ ws0 V pc lv st ws cl sl := by
  subst hp
  subst ho
  intro p e s m args below meth c H locs ls C hl hP hD hS
  have hts := C.2.2.2.2.1
  exact va_new C.1 C.2.1 hts hcl.2.1 ty hty C.2.2.2.1 (hts _ w1) (hts _ w2) (hts _ w3) C.2.2.2.2.2.1 hP hD hS (fun q h => Or.inr h) hcl.1 hfs hc hs hdg (fun q H1 hP1 hD1 hS1 => k q p e s m args below meth c H1 locs ls C hl hP1 hD1 hS1)
theorem kc_putF {ci : Nat} {C0 : String} {T : u_T} {Nf : Nat} (hcl : kw_CL ci C0 T Nf) (ho : μ.1.cls = C0) {i : Nat} (k0 : Nat) (hk : k0 < Nf) (hw : Cond.fieldLink C0 i (T k0).1 (T k0).2.1 (T k0).2.2.1 ∈ kw_all) (hfin : (T k0).2.2.2 = true) (hdecl : (T k0).1 = C0) {ty : FieldType} (hd : parseFieldDescriptor (T k0).2.2.1 = some ty) {v : Value} (hn : narrow ty v = v) (hfit : fits ty v = true) (q0 : Nat) {a : Nat} {fs : List Value} (he : ws[q0]? = some (a, .inr (ci, fs))) (hl0 : k0 < fs.length) {ws2 : va_W} (h2 : ws.set q0 (a, .inr (ci, fs.set k0 v)) = ws2) (hdg : decode μ.2.1 pc = .ok (.putfield i, 3)) {pc2 : Nat} (hp : pc + 3 = pc2) (k : kc_G E d mc ms μ ws0 V pc2 lv st ws2 cl sl) : kc_G E d mc ms μ ws0 V pc lv (v :: .ref a :: st) ws cl sl := by
  subst hp
  subst h2
  subst ho
  intro p e s m args below meth c H locs ls C hl hP hD hS
  have hts := C.2.2.2.2.1
  obtain ⟨ty0, hty⟩ := hcl.2.2.1
  exact va_putF C.1 C.2.1 hts hcl.2.1 ty0 hty hcl.2.2.2 C.2.2.2.1 C.2.2.2.2.2.1 hP hD hS q0 he hcl.1 k0 hk (hts _ hw) (fun _ h => h) hfin C.2.2.2.2.2.2.2.2.1 hdecl hd hn hfit hl0 hdg (fun H1 locs1 hP1 hD1 hS1 => k p e s m args below meth c H1 locs1 ls C hl hP1 hD1 hS1)
theorem kc_putV {ci : Nat} {C0 : String} {T : u_T} {Nf : Nat} (hcl : kw_CL ci C0 T Nf) (ho : μ.1.cls = C0) {i : Nat} (k0 : Nat) (hk : k0 < Nf) (hw : Cond.fieldLink C0 i (T k0).1 (T k0).2.1 (T k0).2.2.1 ∈ kw_all) (hfin : (T k0).2.2.2 = false) {ty : FieldType} (hd : parseFieldDescriptor (T k0).2.2.1 = some ty) {v : Value} (hn : narrow ty v = v) (hfit : fits ty v = true) (q0 : Nat) {a : Nat} {fs : List Value} (he : ws[q0]? = some (a, .inr (ci, fs))) (hl0 : k0 < fs.length) {ws2 : va_W} (h2 : ws.set q0 (a, .inr (ci, fs.set k0 v)) = ws2) (hdg : decode μ.2.1 pc = .ok (.putfield i, 3)) {pc2 : Nat} (hp : pc + 3 = pc2) (k : kc_G E d mc ms μ ws0 V pc2 lv st ws2 cl sl) : kc_G E d mc ms μ ws0 V pc lv (v :: .ref a :: st) ws cl sl := by
  subst hp
  subst h2
  subst ho
  intro p e s m args below meth c H locs ls C hl hP hD hS
  have hts := C.2.2.2.2.1
  obtain ⟨ty0, hty⟩ := hcl.2.2.1
  exact va_put C.1 C.2.1 hts hcl.2.1 ty0 hty hcl.2.2.2 C.2.2.2.1 C.2.2.2.2.2.1 hP hD hS q0 he hcl.1 k0 hk (hts _ hw) (fun _ h => h) hfin hd hn hfit hl0 hdg (fun H1 locs1 hP1 hD1 hS1 => k p e s m args below meth c H1 locs1 ls C hl hP1 hD1 hS1)
theorem kc_get {ci : Nat} {C0 : String} {T : u_T} {Nf : Nat} (hcl : kw_CL ci C0 T Nf) {own : String} (ho : μ.1.cls = own) {i : Nat} (k0 : Nat) (hk : k0 < Nf) (hw : Cond.fieldLink own i (T k0).1 (T k0).2.1 (T k0).2.2.1 ∈ kw_all) (q0 : Nat) {a : Nat} {fs : List Value} (he : ws[q0]? = some (a, .inr (ci, fs))) {v : Value} (hv : fs[k0]? = some v) (hdg : decode μ.2.1 pc = .ok (.getfield i, 3)) {pc2 : Nat} (hp : pc + 3 = pc2) (k : kc_G E d mc ms μ ws0 V pc2 lv (v :: st) ws cl sl) : kc_G E d mc ms μ ws0 V pc lv (.ref a :: st) ws cl sl := by
  subst hp
  subst ho
  intro p e s m args below meth c H locs ls C hl hP hD hS
  have hts := C.2.2.2.2.1
  exact va_get C.1 C.2.1 hts hcl.2.1 C.2.2.2.1 C.2.2.2.2.2.1 hP q0 he hcl.1 k0 hk (hts _ hw) (fun _ h => h) hv hdg (k p e s m args below meth c H locs ls C hl hP hD hS)
theorem kc_iast (q0 : Nat) {a n : Nat} {f : Nat → Int32} (he : ws[q0]? = some (a, .inl (E.2.2.1 0, n, .inl f))) {i x : Int32} (hin : vp_in i n) {ws2 : va_W} (h2 : ws.set q0 (a, .inl (E.2.2.1 0, n, .inl (upd f i.toNatClampNeg x))) = ws2) (hdg : decode μ.2.1 pc = .ok (.iastore, 1)) {pc2 : Nat} (hp : pc + 1 = pc2) (k : kc_G E d mc ms μ ws0 V pc2 lv st ws2 cl sl) : kc_G E d mc ms μ ws0 V pc lv (.int x :: .int i :: .ref a :: st) ws cl sl := by
  subst hp
  subst h2
  intro p e s m args below meth c H locs ls C hl hP hD hS
  exact va_iast C.1 C.2.1 C.2.2.2.2.2.1 hP hD hS q0 0 he rfl hin hdg (fun H1 locs1 hP1 hD1 hS1 => k p e s m args below meth c H1 locs1 ls C hl hP1 hD1 hS1)
/-- what a call of a constructor needs of the tables -/
def kc_MI (μ1 : kw_Mt) (n : Nat) : Prop := kw_MB μ1 n ∧ μ1.2.2.2 = none ∧ μ1.1.name = "<init>" ∧ Cond.instanceMethod μ1.1 ∈ kw_all
theorem kc_call {d1 mc1 ms1 : Nat} {μ1 : kw_Mt} {n b : Nat} {As : List Value} {wc wr : va_W} {V1 : (Nat → Nat) → va_W} (hM : kc_Met E d1 mc1 ms1 μ1 (.ref b :: As) wc V1) (hd : d1 + 1 ≤ d) (hm : kc_MI μ1 n) {own : String} (ho : μ.1.cls = own) {i : Nat} (hlink : Cond.methodLink own i μ1.1 ∈ kw_all) (hn : As.length = n) (hcat : (st.map fun v => v.category).sum ≤ 8) (hcc : cl + mc1 ≤ mc) (hss : sl + ms1 ≤ ms) (isC isR : List Nat) (hC : isC.map (fun i => ws[i]?) = wc.map some) (hCf : isC.filterMap (fun i => ws[i]?) = wc) (hR : isR.map (fun i => ws[i]?) = wr.map some) (hnC : va_nd isC = true) (hnd : va_nd isR = true) (hdis : ∀ i ∈ isR, i ∉ isC) (hdg : decode μ.2.1 pc = .ok (.invokespecial i, 3)) {st0 : List Value} (hst : As.reverse ++ .ref b :: st = st0) {pc2 : Nat} (hp : pc + 3 = pc2) (k : ∀ qs : Nat → Nat, kc_G E d mc ms μ ws0 V pc2 lv st (wr ++ V1 qs) (cl + mc1) (sl + ms1)) : kc_G E d mc ms μ ws0 V pc lv st0 ws cl sl := by
  subst hp
  subst ho
  subst hst
  intro p e s m args below meth c H locs ls C hl hP hD hS
  have hts := C.2.2.2.2.1
  have hPc := hP.sub isC hCf
  have hDc := hD.sub isC hnC hC
  have hFc := va_free hD hS (fun q h => Or.inr h) isC hC
  have hRm : (kc_rm d1 mc1 ms1).frames + 1 ≤ (kc_rm d mc ms).frames ∧ 8 + (μ1.2.2.1 + 11) + (kc_rm d1 mc1 ms1).locals ≤ (kc_rm d mc ms).locals := by
    have h1 := hm.1.2.2.2
    refine ⟨hd, ?_⟩
    show 8 + (μ1.2.2.1 + 11) + 64 * d1 ≤ 64 * d
    omega
  have hws : kw_ws μ1 = Cond.code μ1.1 μ1.2.1 μ1.2.2.1 none :: kw_all := by
    unfold kw_ws
    rw [hm.2.1]
  refine va_callv (va_runI (As := As) (rest := st) ⟨C.1, C.2.1, C.2.2.1, C.2.2.2.1, hts⟩ (hM H.size) ⟨callB_of n hts (kw_good hm.1) hws rfl rfl (hts _ hm.1.1) (hts _ hlink) hm.1.2.2.1 hRm, hm.2.2.1, hts _ hm.2.2.2⟩ ⟨kc_blind E wc H.size _, fun U hU hW => ⟨rfl, by rw [hU], by rw [hU]; exact hPc, va_K.moved hW.alike C.2.2.2.2.2.1, hDc.weaken (fun _ _ _ _ => trivial), C.2.2.2.2.2.2.1.warm hW, (C.2.2.2.2.2.2.2.1.to hW hS hU).nar hFc⟩⟩ rfl hn hl.1 rfl (lv_room hcat) hdg ⟨hcc, hss⟩) hS (fun q _ h => hFc q h) hFc (fun qs t H1 locs1 ht hvm _ hB hz1 hk1 hS1 => ?_)
  obtain ⟨hP1, hD1⟩ := hB
  rw [ht] at hP1
  obtain ⟨hP2, hD2⟩ := va_join (wr := wr) (w1 := V1 qs) hP hD isC isR hC hR hnd hdis hk1 hFc hP1 hD1
  exact k qs p e s m args below meth c H1 locs1 ls C hl hP2 hD2 hS1
theorem kc_callN {d1 mc1 ms1 : Nat} {μ1 : kw_Mt} {n b : Nat} {As : List Value} {wc wr : va_W} {V1 : (Nat → Nat) → va_W} (hM : kc_Met E d1 mc1 ms1 μ1 (.ref b :: As) wc V1) (hd : d1 + 1 ≤ d) (hm : kc_MI μ1 n) {own host : String} (ho : μ.1.cls = own) {i : Nat} (hlink : Cond.methodLinkNest own i μ1.1 host ∈ kw_nests) (hn : As.length = n) (hcat : (st.map fun v => v.category).sum ≤ 8) (hcc : cl + mc1 ≤ mc) (hss : sl + ms1 ≤ ms) (isC isR : List Nat) (hC : isC.map (fun i => ws[i]?) = wc.map some) (hCf : isC.filterMap (fun i => ws[i]?) = wc) (hR : isR.map (fun i => ws[i]?) = wr.map some) (hnC : va_nd isC = true) (hnd : va_nd isR = true) (hdis : ∀ i ∈ isR, i ∉ isC) (hdg : decode μ.2.1 pc = .ok (.invokespecial i, 3)) {st0 : List Value} (hst : As.reverse ++ .ref b :: st = st0) {pc2 : Nat} (hp : pc + 3 = pc2) (k : ∀ qs : Nat → Nat, kc_G E d mc ms μ ws0 V pc2 lv st (wr ++ V1 qs) (cl + mc1) (sl + ms1)) : kc_G E d mc ms μ ws0 V pc lv st0 ws cl sl := by
  subst hp
  subst ho
  subst hst
  intro p e s m args below meth c H locs ls C hl hP hD hS
  have hts := C.2.2.2.2.1
  have hPc := hP.sub isC hCf
  have hDc := hD.sub isC hnC hC
  have hFc := va_free hD hS (fun q h => Or.inr h) isC hC
  have hRm : (kc_rm d1 mc1 ms1).frames + 1 ≤ (kc_rm d mc ms).frames ∧ 8 + (μ1.2.2.1 + 11) + (kc_rm d1 mc1 ms1).locals ≤ (kc_rm d mc ms).locals := by
    have h1 := hm.1.2.2.2
    refine ⟨hd, ?_⟩
    show 8 + (μ1.2.2.1 + 11) + 64 * d1 ≤ 64 * d
    omega
  have hws : kw_ws μ1 = Cond.code μ1.1 μ1.2.1 μ1.2.2.1 none :: kw_all := by
    unfold kw_ws
    rw [hm.2.1]
  refine va_callv (va_runIN (As := As) (rest := st) ⟨C.1, C.2.1, C.2.2.1, C.2.2.2.1, hts⟩ (hM H.size) ⟨va_cnB n hts (kw_good hm.1) hws rfl rfl (C.2.2.2.2.2.2.1 _ hlink) (hts _ hm.1.1) hm.1.2.2.1 hRm, hm.2.2.1, hts _ hm.2.2.2⟩ ⟨kc_blind E wc H.size _, fun U hU hW => ⟨rfl, by rw [hU], by rw [hU]; exact hPc, va_K.moved hW.alike C.2.2.2.2.2.1, hDc.weaken (fun _ _ _ _ => trivial), C.2.2.2.2.2.2.1.warm hW, (C.2.2.2.2.2.2.2.1.to hW hS hU).nar hFc⟩⟩ rfl hn hl.1 rfl (lv_room hcat) hdg ⟨hcc, hss⟩) hS (fun q _ h => hFc q h) hFc (fun qs t H1 locs1 ht hvm _ hB hz1 hk1 hS1 => ?_)
  obtain ⟨hP1, hD1⟩ := hB
  rw [ht] at hP1
  obtain ⟨hP2, hD2⟩ := va_join (wr := wr) (w1 := V1 qs) hP hD isC isR hC hR hnd hdis hk1 hFc hP1 hD1
  exact k qs p e s m args below meth c H1 locs1 ls C hl hP2 hD2 hS1
theorem kc_ret {qs : Nat → Nat} (is : List Nat) (hs : is.filterMap (fun i => ws[i]?) = V qs) (hm : is.map (fun i => ws[i]?) = (V qs).map some) (hnd : va_nd is = true) (hc : cl ≤ mc) (hsl : sl ≤ ms) (hdg : decode μ.2.1 pc = .ok (.return_, 1)) : kc_G E d mc ms μ ws0 V pc lv [] ws cl sl := by
  intro p e s m args below meth c H locs ls C hl hP hD hS
  have hP9 := hP.sub is hs
  have hD9 := hD.sub is hnd hm
  have hlocks := C.2.2.2.2.2.2.2.2.2.2
  refine W.widen hc hsl ?_
  exact W.vret C.1 C.2.1 C.2.2.2.2.2.2.2.2.2.1 (fun t ht hW => ⟨⟨qs, rfl, trivial, by rw [ht]; exact hP9, hD9⟩, hS.F ht⟩) hS.2.2 hdg hlocks
/-- a call of a method of a flat machine whose cells are the whole world -/
theorem kc_flat {ES : kw_E} {τ : Nat → kw_C} {N d1 : Nat} {σ σ1 : kw_M} (hE1 : ES.1 = E.1) (hE2 : ES.2.1 = E.2.1) (hE3 : ES.2.2.1 = E.2.2.1) (hA1 : ∀ j, ES.2.2.2 (100 + j) = E.2.2.2 (100 + j)) (hA2 : ∀ j, ES.2.2.2 (200 + j) = E.2.2.2 (200 + j)) {μ1 : kw_Mt} {n cb : Nat} {As Bs : List Value} (hM : kw_Met ES τ N d1 μ1 (.ref cb :: As) σ none σ1) (hd : d1 + 1 ≤ d) (hm : kw_MV μ1 n) {own : String} (ho : μ.1.cls = own) {i : Nat} (hlink : Cond.methodLink own i μ1.1 ∈ kw_all) {ci : Nat} {T : u_T} {Nf : Nat} (hcl : vwCl[ci]? = some (μ1.1.cls, T, Nf)) (hcb : cb < N) {fs : List (Nat × Nat)} (hx : τ cb = .inr (ci, fs)) (hBs : As.map (kw_tr ES.2.2.2) = Bs) (hn : As.length = n) (hcat : (st.map fun v => v.category).sum ≤ 8) (hcc : cl ≤ mc) (hss : sl ≤ ms) (hdg : decode μ.2.1 pc = .ok (.invokevirtual i, 3)) {a : Nat} (ha : ES.2.2.2 cb = a) {st0 : List Value} (hst : Bs.reverse ++ .ref a :: st = st0) {pc2 : Nat} (hp : pc + 3 = pc2) (k : kc_G E d mc ms μ ws0 V pc2 lv st (kw_cells ES τ N σ1) cl sl) : kc_G E d mc ms μ ws0 V pc lv st0 (kw_cells ES τ N σ) cl sl := by
  subst hp
  subst ho
  subst hst
  subst hBs
  subst ha
  intro p e s m args below meth c H locs ls C hl hP hD hS
  have hts := C.2.2.2.2.1
  have hK : va_K ES.2.1 vwCl (kw_tys ES.2.2.1) s := by rw [hE2, hE3]; exact C.2.2.2.2.2.1
  have hPS : va_P ES.2.1 vwCl (kw_cells ES τ N σ) H := by rw [hE2]; exact hP
  have hA : ∀ q, kw_A ES N q → va_A ws0 s.heap.size q := fun q ⟨j, hj, hq⟩ => by
    have := hD.2 j _ (kw_at (E := ES) (τ := τ) (N := N) (σ := σ) hj rfl)
    rw [hq]
    exact this
  have hDS : va_D (kw_A ES N) (kw_cells ES τ N σ) := ⟨hD.1, fun j q hq => ⟨j, (kw_cells_ad hq).1, (kw_cells_ad hq).2⟩⟩
  have hrec := va_recv hK hPS hcl (kw_at (E := ES) (τ := τ) (N := N) (σ := σ) (c := cb) hcb hx)
  have hRm : (kw_rm d1).frames + 1 ≤ (kc_rm d mc ms).frames ∧ 8 + (μ1.2.2.1 + 11) + (kw_rm d1).locals ≤ (kc_rm d mc ms).locals := by
    have h1 := hm.1.2.2.2
    refine ⟨hd, ?_⟩
    show 8 + (μ1.2.2.1 + 11) + 64 * d1 ≤ 64 * d
    omega
  have hMet : Met E.1 μ1.1 (kw_ws μ1) (kw_rm d1) (va_Pc (.ref (ES.2.2.2 cb) :: As.map (kw_tr ES.2.2.2)) (kw_Wd ES τ N σ)) (kw_Q ES τ N none σ1) 0 0 (kw_A ES N) := by
    have h := hM
    unfold kw_Met at h
    rw [hE1] at h
    exact h
  have hSt : ∀ U : State, U.heap = H → s.WarmedH U.vm → kw_St ES N U := fun U hU hW => by
    obtain ⟨h1, h2, h3, w, hw, h4⟩ := (C.2.2.2.2.2.2.2.1.to hW hS hU).nar hA
    unfold kw_St
    rw [show (fun j => ES.2.2.2 (100 + j)) = (fun j => E.2.2.2 (100 + j)) from funext hA1, show (fun j => ES.2.2.2 (200 + j)) = (fun j => E.2.2.2 (200 + j)) from funext hA2]
    exact ⟨h1, fun j q hq => by rw [hA1]; exact h2 j q hq, h3, w, hw, h4⟩
  have run := va_runV (p := p) (e := e) (below := below) (meth := meth) (locs := locs) (cells := cl) (slots := sl) (g := F0 m pc ls ((As.map (kw_tr ES.2.2.2)).reverse ++ .ref (ES.2.2.2 cb) :: st)) (As := As.map (kw_tr ES.2.2.2)) (rest := st) (C := μ1.1.cls) ⟨C.1, C.2.1, C.2.2.1, C.2.2.2.1, hts⟩ hMet ⟨callB_of n hts (kw_good hm.1) rfl rfl rfl (hts _ hm.1.1) (hts _ hlink) hm.1.2.2.1 hRm, hts _ hm.2.1, hts _ hm.2.2⟩ ⟨kw_blind ES τ N _ σ, hrec, fun U hU hW => ⟨rfl, by rw [hU]; exact hPS, va_K.moved hW.alike hK, hDS, C.2.2.2.2.2.2.1.warm hW, hSt U hU hW⟩⟩ rfl (by rw [List.length_map]; exact hn) hl.1 rfl (lv_room hcat) hdg ⟨hcc, hss⟩
  intro T0 hT X
  obtain ⟨v, st₀, t, T', L0, h0, X', hL, e1, e2, ⟨⟨hv, hp1, hK1, hD1, -⟩, hz, hk⟩, stp⟩ := run T0 hT X
  cases hv
  rw [h0] at hz hk
  obtain ⟨t2, a1, b1⟩ := k p e s m args below meth c T'.heap (locs ++ L0) ls C hl (by rw [e1, ← hE2]; exact hp1) (hD1.weaken (fun _ q _ h => hA q.1 h)) ⟨Nat.le_trans hS.1 (by rw [e1]; exact hz), fun q h1 h2 => by rw [e1, hk q (Nat.lt_of_lt_of_le h1 hS.1) (fun z => h2 (hA q z))]; exact hS.2.1 q h1 h2, fun q hq => by
      rcases List.mem_append.mp hq with h | h
      · exact hS.2.2 q h
      · exact hA _ (hL q h)⟩ T' rfl X'
  exact ⟨t2, stp t2 a1, b1⟩
end KC
