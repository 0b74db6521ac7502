/-! THE FLAT MACHINE: after the constructors nothing is made, so a system is a fixed list of cells; what changes is a memory of ints and longs. kw_G: the machine at a pc with these locals, stack and memory comes to a return with value v and memory σ'. Ways: a row an instruction (kg_..). -/
abbrev kw_E : Type := Launch × va_G × (Nat → ClassId) × (Nat → Nat)
abbrev kw_Mt : Type := MethodName × ByteArray × Nat × Option FieldType
def kw_tr (ad : Nat → Nat) (v : Value) : Value := match v with
  | .ref c => .ref (ad c)
  | w => w
def kw_trl (ad : Nat → Nat) (q : Nat × Value) : Nat × Value := (q.1, kw_tr ad q.2)
def kw_all : List Cond := lw_tbl.filter goodWord
theorem kw_word {w : Cond} (i : Nat) (h : lw_tbl[i]? = some w) (hg : goodWord w = true) : w ∈ kw_all := List.mem_filter.mpr ⟨List.mem_of_getElem? h, hg⟩
theorem kw_all_good : ∀ w ∈ kw_all, goodWord w = true := fun _ h => (List.mem_filter.mp h).2
/-- a link to a private member of a nest mate: a word that isn't carried by itself -/
def kw_isNest (w : Cond) : Bool := match w with
  | .methodLinkNest .. => true
  | _ => false
def kw_nests : List Cond := lw_tbl.filter kw_isNest
theorem kw_nword {w : Cond} (i : Nat) (h : lw_tbl[i]? = some w) (hg : kw_isNest w = true) : w ∈ kw_nests := List.mem_filter.mpr ⟨List.mem_of_getElem? h, hg⟩
def kw_Nt (U : State) : Prop := ∀ w ∈ kw_nests, va_Nw w U
theorem kw_Nt.warm {s U : State} (hW : s.WarmedH U.vm) (h : kw_Nt s) : kw_Nt U := by
  intro w hw
  have h1 := h w hw
  have h2 := (List.mem_filter.mp hw).2
  cases w <;> first | exact va_Nw.warmM hW h1 | (simp [kw_isNest] at h2)
theorem kw_Nt.same {u U : State} (hv : u.vm = U.vm) (h : kw_Nt u) : kw_Nt U := by
  intro w hw
  have h1 := h w hw
  have h2 := (List.mem_filter.mp hw).2
  cases w <;> first | exact va_Nw.same rfl hv h1 | (simp [kw_isNest] at h2)
def kw_tys (aC : Nat → ClassId) : List (ClassId × FieldType) := [(aC 0, .int), (aC 1, .long), (aC 2, .byte), (aC 3, .boolean)]
def kw_fv (ad : Nat → Nat) (σ : kw_M) (c k : Nat) (f : Nat × Nat) : Value := match f.1 with
  | 0 => .int (σ.1 c k)
  | 1 => .long (σ.2 c k)
  | 2 => .ref (ad f.2)
  | _ => .ref (ad (σ.1 c k).toNatClampNeg)
def kw_fs (ad : Nat → Nat) (σ : kw_M) (c : Nat) (fs : List (Nat × Nat)) : List Value := (List.range fs.length).map (fun k => kw_fv ad σ c k (fs.getD k (0, 0)))
def kw_e (E : kw_E) (σ : kw_M) (c : Nat) (x : kw_C) : va_E := match x with
  | .inl a => .inl (E.2.2.1 a.1, a.2, if a.1 = 1 then .inr (.inl (σ.2 c)) else .inl (σ.1 c))
  | .inr o => .inr (o.1, kw_fs E.2.2.2 σ c o.2)
def kw_cells (E : kw_E) (τ : Nat → kw_C) (N : Nat) (σ : kw_M) : va_W := (List.range N).map (fun c => (E.2.2.2 c, kw_e E σ c (τ c)))
def kw_A (E : kw_E) (N : Nat) : Nat → Prop := fun q => ∃ k, k < N ∧ q = E.2.2.2 k
/-- the text constants: class, entry, text; the k-th stands at 100 + k, its bytes at 200 + k -/
def kw_strs : List (String × Nat × String) := [("KeptWays$Reader", 79, "towns"), ("KeptWays$Reader", 84, "road"), ("KeptWays$Reader", 89, "lay"), ("KeptWays$Reader", 91, "length"), ("KeptWays$Reader", 92, "close"), ("KeptWays$Reader", 94, "open"), ("KeptWays$Reader", 96, "origin"), ("KeptWays$Reader", 98, "watch"), ("KeptWays$Reader", 100, "forget"), ("KeptWays$Reader", 102, "n"), ("KeptWays$Reader", 104, "ttl"), ("KeptWays$Reader", 106, "\x72l"), ("KeptWays$Reader", 108, "tl"), ("KeptWays$Reader", 110, "\x72"), ("KeptWays$Reader", 112, "t")]
def kw_St (E : kw_E) (N : Nat) (U : State) : Prop :=
  vk_S 15 kw_slen kw_sbyt (fun j => E.2.2.2 (100 + j)) (fun j => E.2.2.2 (200 + j)) (kw_A E N) U U.heap ∧ (∀ (j : Nat) (q : String × Nat × String), kw_strs[j]? = some q → vk_R q.1 q.2.1 q.2.2 (E.2.2.2 (100 + j)) U) ∧ va_Z "java/lang/String" "COMPACT_STRINGS" "Z" (.int 1) (kw_A E N) U U.heap ∧ ∃ w : Value, (w = .null ∨ ∃ a, w = .ref a) ∧ va_Z "jdk/internal/util/Preconditions" "SIOOBE_FORMATTER" "Ljava/util/function/BiFunction;" w (kw_A E N) U U.heap
theorem kw_St.to {E : kw_E} {N : Nat} {s U : State} {H : Heap} {locs : List Loc} (hW : s.WarmedH U.vm) (hS : va_S (kw_A E N) s.heap H locs) (hU : U.heap = H) (h : kw_St E N s) : kw_St E N U := by
  subst hU
  obtain ⟨h1, h2, h3, w, hw, h4⟩ := h
  exact ⟨(h1.kept hS.2.1).moved hW.alike, fun j q hq => (h2 j q hq).warm hW, (h3.kept hS.2.1).moved hW.alike, w, hw, (h4.kept hS.2.1).moved hW.alike⟩
theorem kw_St.same {E : kw_E} {N : Nat} {u U : State} (hv : U.vm = u.vm) (hh : U.heap = u.heap) (h : kw_St E N u) : kw_St E N U := by
  obtain ⟨h1, h2, h3, w, hw, h4⟩ := h
  have ha : u.vm.Alike U.vm := by rw [hv]; exact Vm.Alike.refl _
  unfold kw_St
  rw [hh]
  exact ⟨h1.moved ha, fun j q hq => (h2 j q hq).same hv, h3.moved ha, w, hw, h4.moved ha⟩
theorem kw_at {E : kw_E} {τ : Nat → kw_C} {N : Nat} {σ : kw_M} {c : Nat} {x : kw_C} (h : c < N) (hx : τ c = x) : (kw_cells E τ N σ)[c]? = some (E.2.2.2 c, kw_e E σ c x) := by
  subst hx
  simp [kw_cells, h]
theorem kw_e_eq {E : kw_E} {σ σ' : kw_M} {c : Nat} {x : kw_C} (h1 : σ'.1 c = σ.1 c) (h2 : σ'.2 c = σ.2 c) : kw_e E σ' c x = kw_e E σ c x := by
  have h : ∀ k f, kw_fv E.2.2.2 σ' c k f = kw_fv E.2.2.2 σ c k f := fun k f => by unfold kw_fv; rw [h1, h2]
  cases x with
  | inl a => simp only [kw_e, h1, h2]
  | inr o => simp only [kw_e, kw_fs, h]
theorem kw_set {E : kw_E} {τ : Nat → kw_C} {N : Nat} {σ σ' : kw_M} {c : Nat} {x : kw_C} {e' : va_E} (h : c < N) (hx : τ c = x) (he : kw_e E σ' c x = e') (h1 : ∀ q, q ≠ c → σ'.1 q = σ.1 q) (h2 : ∀ q, q ≠ c → σ'.2 q = σ.2 q) : (kw_cells E τ N σ).set c (E.2.2.2 c, e') = kw_cells E τ N σ' := by
  subst hx
  apply List.ext_getElem?
  intro i
  rw [List.getElem?_set]
  by_cases hi : c = i
  · subst hi
    simp [kw_cells, h, he]
  · rw [if_neg hi]
    by_cases hN : i < N
    · rw [kw_at hN rfl, kw_at hN rfl, kw_e_eq (h1 i (fun q => hi q.symm)) (h2 i (fun q => hi q.symm))]
    · simp [kw_cells, hN]
theorem kw_fs_get {ad : Nat → Nat} {σ : kw_M} {c k : Nat} {fs : List (Nat × Nat)} {f : Nat × Nat} (h : fs[k]? = some f) : (kw_fs ad σ c fs)[k]? = some (kw_fv ad σ c k f) := by
  have hk : k < fs.length := (List.getElem?_eq_some_iff.mp h).1
  have hd : fs.getD k (0, 0) = f := by rw [List.getD_eq_getElem?_getD, h]; rfl
  simp only [kw_fs, List.getElem?_map, List.getElem?_range hk, Option.map_some, hd]
theorem kw_fs_set {ad : Nat → Nat} {σ σ' : kw_M} {c k : Nat} {fs : List (Nat × Nat)} {f : Nat × Nat} {v : Value} (h : fs[k]? = some f) (hv : kw_fv ad σ' c k f = v) (h1 : ∀ j, j ≠ k → σ'.1 c j = σ.1 c j) (h2 : ∀ j, j ≠ k → σ'.2 c j = σ.2 c j) : kw_fs ad σ' c fs = (kw_fs ad σ c fs).set k v := by
  apply List.ext_getElem?
  intro i
  rw [List.getElem?_set]
  have hk : k < fs.length := (List.getElem?_eq_some_iff.mp h).1
  by_cases hi : k = i
  · subst hi
    rw [kw_fs_get h, hv, if_pos rfl, if_pos (by simp [kw_fs, hk])]
  · rw [if_neg hi]
    by_cases hN : i < fs.length
    · obtain ⟨g, hg⟩ : ∃ g, fs[i]? = some g := ⟨fs[i], List.getElem?_eq_getElem hN⟩
      rw [kw_fs_get hg, kw_fs_get hg]
      unfold kw_fv
      rw [h1 i (fun q => hi q.symm), h2 i (fun q => hi q.symm)]
    · simp [kw_fs, hN]
/-- the fields' places and names, as the words have them -/
def kw_CL (ci : Nat) (C : String) (T : u_T) (N : Nat) : Prop := vwCl[ci]? = some (C, T, N) ∧ (∀ w ∈ u_ws C T N, w ∈ kw_all) ∧ (∃ ty0 : Nat → FieldType, ∀ k, k < N → parseFieldDescriptor (T k).2.2.1 = some (ty0 k)) ∧ ∀ a, a < N → ∀ b, b < N → a ≠ b → (T a).2.1 ≠ (T b).2.1
def kw_rm (d : Nat) : Room := { frames := d, cells := 0, slots := 0, locals := 64 * d }
def kw_ws (μ : kw_Mt) : List Cond := Cond.code μ.1 μ.2.1 μ.2.2.1 μ.2.2.2 :: kw_all
def kw_Cx (E : kw_E) (N d : Nat) (μ : kw_Mt) (p : Program) (R : Room) (s : State) (m : MethodId) (args : Array Value) (c : Code) (cells slots : Nat) : Prop :=
  p.tables.exec = Jvm.exec ∧ c.code = μ.2.1 ∧ c.maxLocals = μ.2.2.1 ∧ s.vm.findClass μ.1.cls = some m.cls ∧ (∀ w ∈ kw_all, w.before args s = true) ∧ va_K E.2.1 vwCl (kw_tys E.2.2.1) s ∧ d ≤ R.frames ∧ 64 * d ≤ R.locals ∧ cells ≤ R.cells ∧ slots ≤ R.slots ∧ kw_Nt s ∧ kw_St E N s
def kw_rets (μ : kw_Mt) (pc : Nat) (v : Option Value) : Prop := match v with
  | none => decode μ.2.1 pc = .ok (.return_, 1) ∧ μ.2.2.2 = none
  | some (.int x) => decode μ.2.1 pc = .ok (.ireturn, 1) ∧ ∃ ty, μ.2.2.2 = some ty ∧ narrow ty (.int x) = .int x
  | some (.long _) => decode μ.2.1 pc = .ok (.lreturn, 1) ∧ μ.2.2.2 = some .long
  | some (.ref _) => decode μ.2.1 pc = .ok (.areturn, 1) ∧ ∃ rt, μ.2.2.2 = some rt ∧ ((∃ n, rt = .object n) ∨ ∃ t, rt = .array t)
  | _ => False
def kw_G (E : kw_E) (τ : Nat → kw_C) (N d : Nat) (μ : kw_Mt) (pc : Nat) (lv : List (Nat × Value)) (st : List Value) (σ : kw_M) (v : Option Value) (σ' : kw_M) : Prop :=
  ∀ (p : Program) (e : Env) (R : Room) (s : State) (m : MethodId) (args : Array Value) (below : List Frame) (meth : Method) (c : Code) (H : Heap) (locs : List Loc) (ls : Array Slot) (cells slots : Nat) (Q : State → Prop),
    kw_Cx E N d μ p R s m args c cells slots → lv_has ls μ.2.2.1 (lv.map (kw_trl E.2.2.2)) → va_P E.2.1 vwCl (kw_cells E τ N σ) H → va_D (kw_A E N) (kw_cells E τ N σ) → va_S (kw_A E N) s.heap H locs →
    (∀ (H1 : Heap) (locs1 : List Loc) (pc1 : Nat) (ls1 : Array Slot), va_P E.2.1 vwCl (kw_cells E τ N σ') H1 → va_D (kw_A E N) (kw_cells E τ N σ') → va_S (kw_A E N) s.heap H1 locs1 → kw_rets μ pc1 v → W p E.1 e R s m args below meth c H1 locs1 cells slots Q (F0 m pc1 ls1 (v.toList.map (kw_tr E.2.2.2)))) →
    W p E.1 e R s m args below meth c H locs cells slots Q (F0 m pc ls (st.map (kw_tr E.2.2.2)))
def kw_Wd (E : kw_E) (τ : Nat → kw_C) (N : Nat) (σ : kw_M) (U : State) : Prop := va_P E.2.1 vwCl (kw_cells E τ N σ) U.heap ∧ va_K E.2.1 vwCl (kw_tys E.2.2.1) U ∧ va_D (kw_A E N) (kw_cells E τ N σ) ∧ kw_Nt U ∧ kw_St E N U
def kw_Q (E : kw_E) (τ : Nat → kw_C) (N : Nat) (v : Option Value) (σ' : kw_M) : Array Value → State → Outcome → State → Prop := fun _ st oc t => (oc = .returned (v.map (kw_tr E.2.2.2)) ∧ kw_Wd E τ N σ' t) ∧ va_F (kw_A E N) st t
def kw_Met (E : kw_E) (τ : Nat → kw_C) (N d : Nat) (μ : kw_Mt) (As : List Value) (σ : kw_M) (v : Option Value) (σ' : kw_M) : Prop :=
  Met E.1 μ.1 (kw_ws μ) (kw_rm d) (va_Pc (As.map (kw_tr E.2.2.2)) (kw_Wd E τ N σ)) (kw_Q E τ N v σ') 0 0 (kw_A E N)
