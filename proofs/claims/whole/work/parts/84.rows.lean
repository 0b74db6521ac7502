/-! The flat machine, a row an instruction. -/
theorem kw_cat (ad : Nat → Nat) (v : Value) : (kw_tr ad v).category = v.category := by cases v <;> rfl
theorem kw_cats (ad : Nat → Nat) (st : List Value) : (st.map (kw_tr ad)).map (fun v => v.category) = st.map (fun v => v.category) := by rw [List.map_map]; exact List.map_congr_left (fun v _ => kw_cat ad v)
theorem kw_lat {ad : Nat → Nat} {ls : Array Slot} {n : Nat} {lv : List (Nat × Value)} (h : lv_has ls n (lv.map (kw_trl ad))) {k i : Nat} {v : Value} (hk : lv[k]? = some (i, v)) : ls[i]? = some (.val (kw_tr ad v)) := lv_at h k (by rw [List.getElem?_map, hk]; rfl)
theorem kw_flt1 (ad : Nat → Nat) (lv : List (Nat × Value)) (i : Nat) : (lv.map (kw_trl ad)).filter (fun q => !(q.1 == i) && !(q.1 + 1 == i && q.2.category == 2)) = (lv.filter (fun q => !(q.1 == i) && !(q.1 + 1 == i && q.2.category == 2))).map (kw_trl ad) := by
  rw [List.filter_map]
  congr 1
  apply List.filter_congr
  intro q _
  simp only [Function.comp, kw_trl, kw_cat]
theorem kw_flt2 (ad : Nat → Nat) (lv : List (Nat × Value)) (i : Nat) : (lv.map (kw_trl ad)).filter (fun q => !(q.1 == i) && (!(q.1 == i + 1) && !(q.1 + 1 == i && q.2.category == 2))) = (lv.filter (fun q => !(q.1 == i) && (!(q.1 == i + 1) && !(q.1 + 1 == i && q.2.category == 2)))).map (kw_trl ad) := by
  rw [List.filter_map]
  congr 1
  apply List.filter_congr
  intro q _
  simp only [Function.comp, kw_trl, kw_cat]
section KG
variable {E : kw_E} {τ : Nat → kw_C} {N d : Nat} {μ : kw_Mt} {pc : Nat} {lv : List (Nat × Value)} {st : List Value} {σ : kw_M} {v : Option Value} {σ2 : kw_M}
theorem kg_iconst {n : Int} {x : Int32} (hdg : decode μ.2.1 pc = .ok (.iconst n, 1)) (hv : Int32.ofInt n = x) {pc2 : Nat} (hp : pc + 1 = pc2) (k : kw_G E τ N d μ pc2 lv (.int x :: st) σ v σ2) : kw_G E τ N d μ pc lv st σ v σ2 := by
  subst hp
  intro p e R s m args below meth c H locs ls cells slots Q C hl hP hD hS kk
  exact lv_iconst C.1 C.2.1 hdg hv (k p e R s m args below meth c H locs ls cells slots Q C hl hP hD hS kk)
theorem kg_bipush {n : Int} {x : Int32} (hdg : decode μ.2.1 pc = .ok (.bipush n, 2)) (hv : (Int8.ofInt n).toInt32 = x) {pc2 : Nat} (hp : pc + 2 = pc2) (k : kw_G E τ N d μ pc2 lv (.int x :: st) σ v σ2) : kw_G E τ N d μ pc lv st σ v σ2 := by
  subst hp
  intro p e R s m args below meth c H locs ls cells slots Q C hl hP hD hS kk
  exact lv_bipush C.1 C.2.1 hdg hv (k p e R s m args below meth c H locs ls cells slots Q C hl hP hD hS kk)
theorem kg_sipush {n : Int} {x : Int32} (hdg : decode μ.2.1 pc = .ok (.sipush n, 3)) (hv : (Int16.ofInt n).toInt32 = x) {pc2 : Nat} (hp : pc + 3 = pc2) (k : kw_G E τ N d μ pc2 lv (.int x :: st) σ v σ2) : kw_G E τ N d μ pc lv st σ v σ2 := by
  subst hp
  intro p e R s m args below meth c H locs ls cells slots Q C hl hP hD hS kk
  exact lv_sipush C.1 C.2.1 hdg hv (k p e R s m args below meth c H locs ls cells slots Q C hl hP hD hS kk)
theorem kg_lconst {n : Fin 2} {x : Int64} (hdg : decode μ.2.1 pc = .ok (.lconst n, 1)) (hv : Int64.ofNat (n : Nat) = x) {pc2 : Nat} (hp : pc + 1 = pc2) (k : kw_G E τ N d μ pc2 lv (.long x :: st) σ v σ2) : kw_G E τ N d μ pc lv st σ v σ2 := by
  subst hp
  intro p e R s m args below meth c H locs ls cells slots Q C hl hP hD hS kk
  exact lv_lconst C.1 C.2.1 hdg hv (k p e R s m args below meth c H locs ls cells slots Q C hl hP hD hS kk)
theorem kg_ldc {own : String} (ho : μ.1.cls = own) {i : Nat} {x : Int32} (hw : Cond.constant own i x ∈ kw_all) (hdg : decode μ.2.1 pc = .ok (.ldc i, 2)) {pc2 : Nat} (hp : pc + 2 = pc2) (k : kw_G E τ N d μ pc2 lv (.int x :: st) σ v σ2) : kw_G E τ N d μ pc lv st σ v σ2 := by
  subst hp
  intro p e R s m args below meth c H locs ls cells slots Q C hl hP hD hS kk
  exact lv_ldc C.1 C.2.1 (own := own) (ho ▸ C.2.2.2.1) (C.2.2.2.2.1 _ hw) hdg (k p e R s m args below meth c H locs ls cells slots Q C hl hP hD hS kk)
theorem kg_ldcw {own : String} (ho : μ.1.cls = own) {i : Nat} {x : Int32} (hw : Cond.constant own i x ∈ kw_all) (hdg : decode μ.2.1 pc = .ok (.ldc_w i, 3)) {pc2 : Nat} (hp : pc + 3 = pc2) (k : kw_G E τ N d μ pc2 lv (.int x :: st) σ v σ2) : kw_G E τ N d μ pc lv st σ v σ2 := by
  subst hp
  intro p e R s m args below meth c H locs ls cells slots Q C hl hP hD hS kk
  exact lv_ldcw C.1 C.2.1 (own := own) (ho ▸ C.2.2.2.1) (C.2.2.2.2.1 _ hw) hdg (k p e R s m args below meth c H locs ls cells slots Q C hl hP hD hS kk)
theorem kg_ldc2 {own : String} (ho : μ.1.cls = own) {i : Nat} {x : Int64} (hw : Cond.constantLong own i x ∈ kw_all) (hdg : decode μ.2.1 pc = .ok (.ldc2_w i, 3)) {pc2 : Nat} (hp : pc + 3 = pc2) (k : kw_G E τ N d μ pc2 lv (.long x :: st) σ v σ2) : kw_G E τ N d μ pc lv st σ v σ2 := by
  subst hp
  intro p e R s m args below meth c H locs ls cells slots Q C hl hP hD hS kk
  exact lv_ldc2 C.1 C.2.1 (own := own) (ho ▸ C.2.2.2.1) (C.2.2.2.2.1 _ hw) hdg (k p e R s m args below meth c H locs ls cells slots Q C hl hP hD hS kk)
theorem kg_iload_n (j : Nat) {n : Fin 4} {x : Int32} (hdg : decode μ.2.1 pc = .ok (.iload_n n, 1)) (hj : lv[j]? = some ((n : Nat), .int x)) {pc2 : Nat} (hp : pc + 1 = pc2) (k : kw_G E τ N d μ pc2 lv (.int x :: st) σ v σ2) : kw_G E τ N d μ pc lv st σ v σ2 := by
  subst hp
  intro p e R s m args below meth c H locs ls cells slots Q C hl hP hD hS kk
  exact lv_iload_n C.1 C.2.1 hdg rfl (kw_lat hl hj) (k p e R s m args below meth c H locs ls cells slots Q C hl hP hD hS kk)
theorem kg_iload (j : Nat) {i : Nat} {x : Int32} (hdg : decode μ.2.1 pc = .ok (.iload i, 2)) (hj : lv[j]? = some (i, .int x)) {pc2 : Nat} (hp : pc + 2 = pc2) (k : kw_G E τ N d μ pc2 lv (.int x :: st) σ v σ2) : kw_G E τ N d μ pc lv st σ v σ2 := by
  subst hp
  intro p e R s m args below meth c H locs ls cells slots Q C hl hP hD hS kk
  exact lv_iload C.1 C.2.1 hdg (kw_lat hl hj) (k p e R s m args below meth c H locs ls cells slots Q C hl hP hD hS kk)
theorem kg_lload_n (j : Nat) {n : Fin 4} {x : Int64} (hdg : decode μ.2.1 pc = .ok (.lload_n n, 1)) (hj : lv[j]? = some ((n : Nat), .long x)) {pc2 : Nat} (hp : pc + 1 = pc2) (k : kw_G E τ N d μ pc2 lv (.long x :: st) σ v σ2) : kw_G E τ N d μ pc lv st σ v σ2 := by
  subst hp
  intro p e R s m args below meth c H locs ls cells slots Q C hl hP hD hS kk
  exact lv_lload_n C.1 C.2.1 hdg rfl (kw_lat hl hj) (k p e R s m args below meth c H locs ls cells slots Q C hl hP hD hS kk)
theorem kg_lload (j : Nat) {i : Nat} {x : Int64} (hdg : decode μ.2.1 pc = .ok (.lload i, 2)) (hj : lv[j]? = some (i, .long x)) {pc2 : Nat} (hp : pc + 2 = pc2) (k : kw_G E τ N d μ pc2 lv (.long x :: st) σ v σ2) : kw_G E τ N d μ pc lv st σ v σ2 := by
  subst hp
  intro p e R s m args below meth c H locs ls cells slots Q C hl hP hD hS kk
  exact lv_lload C.1 C.2.1 hdg (kw_lat hl hj) (k p e R s m args below meth c H locs ls cells slots Q C hl hP hD hS kk)
theorem kg_aload_n (j : Nat) {n : Fin 4} {x : Nat} (hdg : decode μ.2.1 pc = .ok (.aload_n n, 1)) (hj : lv[j]? = some ((n : Nat), .ref x)) {pc2 : Nat} (hp : pc + 1 = pc2) (k : kw_G E τ N d μ pc2 lv (.ref x :: st) σ v σ2) : kw_G E τ N d μ pc lv st σ v σ2 := by
  subst hp
  intro p e R s m args below meth c H locs ls cells slots Q C hl hP hD hS kk
  exact lv_aload_n C.1 C.2.1 hdg rfl (kw_lat hl hj) (k p e R s m args below meth c H locs ls cells slots Q C hl hP hD hS kk)
theorem kg_aload (j : Nat) {i : Nat} {x : Nat} (hdg : decode μ.2.1 pc = .ok (.aload i, 2)) (hj : lv[j]? = some (i, .ref x)) {pc2 : Nat} (hp : pc + 2 = pc2) (k : kw_G E τ N d μ pc2 lv (.ref x :: st) σ v σ2) : kw_G E τ N d μ pc lv st σ v σ2 := by
  subst hp
  intro p e R s m args below meth c H locs ls cells slots Q C hl hP hD hS kk
  exact lv_aload C.1 C.2.1 hdg (kw_lat hl hj) (k p e R s m args below meth c H locs ls cells slots Q C hl hP hD hS kk)
theorem kg_istore_n {n : Fin 4} {i : Nat} {x y : Int32} {lv2 : List (Nat × Value)} (hdg : decode μ.2.1 pc = .ok (.istore_n n, 1)) (hi : (n : Nat) = i) (hn : i < μ.2.2.1) (hx : x = y) (h2 : (i, Value.int y) :: lv.filter (fun q => !(q.1 == i) && !(q.1 + 1 == i && q.2.category == 2)) = lv2) {pc2 : Nat} (hp : pc + 1 = pc2) (k : kw_G E τ N d μ pc2 lv2 st σ v σ2) : kw_G E τ N d μ pc lv (.int x :: st) σ v σ2 := by
  subst hp
  subst hx
  intro p e R s m args below meth c H locs ls cells slots Q C hl hP hD hS kk
  exact lv_istore_n C.1 C.2.1 hdg hi hl hn (lv' := lv2.map (kw_trl E.2.2.2)) (by rw [kw_flt1, ← h2]; rfl) (fun ls1 h1 => k p e R s m args below meth c H locs ls1 cells slots Q C h1 hP hD hS kk)
theorem kg_istore {i : Nat} {x y : Int32} {lv2 : List (Nat × Value)} (hdg : decode μ.2.1 pc = .ok (.istore i, 2)) (hn : i < μ.2.2.1) (hx : x = y) (h2 : (i, Value.int y) :: lv.filter (fun q => !(q.1 == i) && !(q.1 + 1 == i && q.2.category == 2)) = lv2) {pc2 : Nat} (hp : pc + 2 = pc2) (k : kw_G E τ N d μ pc2 lv2 st σ v σ2) : kw_G E τ N d μ pc lv (.int x :: st) σ v σ2 := by
  subst hp
  subst hx
  intro p e R s m args below meth c H locs ls cells slots Q C hl hP hD hS kk
  exact lv_istore C.1 C.2.1 hdg hl hn (lv' := lv2.map (kw_trl E.2.2.2)) (by rw [kw_flt1, ← h2]; rfl) (fun ls1 h1 => k p e R s m args below meth c H locs ls1 cells slots Q C h1 hP hD hS kk)
theorem kg_lstore_n {n : Fin 4} {i : Nat} {x y : Int64} {lv2 : List (Nat × Value)} (hdg : decode μ.2.1 pc = .ok (.lstore_n n, 1)) (hi : (n : Nat) = i) (hn : i + 1 < μ.2.2.1) (hx : x = y) (h2 : (i, Value.long y) :: lv.filter (fun q => !(q.1 == i) && (!(q.1 == i + 1) && !(q.1 + 1 == i && q.2.category == 2))) = lv2) {pc2 : Nat} (hp : pc + 1 = pc2) (k : kw_G E τ N d μ pc2 lv2 st σ v σ2) : kw_G E τ N d μ pc lv (.long x :: st) σ v σ2 := by
  subst hp
  subst hx
  intro p e R s m args below meth c H locs ls cells slots Q C hl hP hD hS kk
  exact lv_lstore_n C.1 C.2.1 hdg hi hl hn (lv' := lv2.map (kw_trl E.2.2.2)) (by rw [kw_flt2, ← h2]; rfl) (fun ls1 h1 => k p e R s m args below meth c H locs ls1 cells slots Q C h1 hP hD hS kk)
theorem kg_lstore {i : Nat} {x y : Int64} {lv2 : List (Nat × Value)} (hdg : decode μ.2.1 pc = .ok (.lstore i, 2)) (hn : i + 1 < μ.2.2.1) (hx : x = y) (h2 : (i, Value.long y) :: lv.filter (fun q => !(q.1 == i) && (!(q.1 == i + 1) && !(q.1 + 1 == i && q.2.category == 2))) = lv2) {pc2 : Nat} (hp : pc + 2 = pc2) (k : kw_G E τ N d μ pc2 lv2 st σ v σ2) : kw_G E τ N d μ pc lv (.long x :: st) σ v σ2 := by
  subst hp
  subst hx
  intro p e R s m args below meth c H locs ls cells slots Q C hl hP hD hS kk
  exact lv_lstore C.1 C.2.1 hdg hl hn (lv' := lv2.map (kw_trl E.2.2.2)) (by rw [kw_flt2, ← h2]; rfl) (fun ls1 h1 => k p e R s m args below meth c H locs ls1 cells slots Q C h1 hP hD hS kk)
theorem kg_astore_n {n : Fin 4} {i : Nat} {x y : Nat} {lv2 : List (Nat × Value)} (hdg : decode μ.2.1 pc = .ok (.astore_n n, 1)) (hi : (n : Nat) = i) (hn : i < μ.2.2.1) (hx : x = y) (h2 : (i, Value.ref y) :: lv.filter (fun q => !(q.1 == i) && !(q.1 + 1 == i && q.2.category == 2)) = lv2) {pc2 : Nat} (hp : pc + 1 = pc2) (k : kw_G E τ N d μ pc2 lv2 st σ v σ2) : kw_G E τ N d μ pc lv (.ref x :: st) σ v σ2 := by
  subst hp
  subst hx
  intro p e R s m args below meth c H locs ls cells slots Q C hl hP hD hS kk
  exact lv_astore_n C.1 C.2.1 hdg hi hl hn (lv' := lv2.map (kw_trl E.2.2.2)) (by rw [kw_flt1, ← h2]; rfl) (fun ls1 h1 => k p e R s m args below meth c H locs ls1 cells slots Q C h1 hP hD hS kk)
theorem kg_astore {i : Nat} {x y : Nat} {lv2 : List (Nat × Value)} (hdg : decode μ.2.1 pc = .ok (.astore i, 2)) (hn : i < μ.2.2.1) (hx : x = y) (h2 : (i, Value.ref y) :: lv.filter (fun q => !(q.1 == i) && !(q.1 + 1 == i && q.2.category == 2)) = lv2) {pc2 : Nat} (hp : pc + 2 = pc2) (k : kw_G E τ N d μ pc2 lv2 st σ v σ2) : kw_G E τ N d μ pc lv (.ref x :: st) σ v σ2 := by
  subst hp
  subst hx
  intro p e R s m args below meth c H locs ls cells slots Q C hl hP hD hS kk
  exact lv_astore C.1 C.2.1 hdg hl hn (lv' := lv2.map (kw_trl E.2.2.2)) (by rw [kw_flt1, ← h2]; rfl) (fun ls1 h1 => k p e R s m args below meth c H locs ls1 cells slots Q C h1 hP hD hS kk)
theorem kg_iinc (j : Nat) {i : Nat} {n : Int} {x y : Int32} {lv2 : List (Nat × Value)} (hdg : decode μ.2.1 pc = .ok (.iinc i n, 3)) (hj : lv[j]? = some (i, .int x)) (hn : i < μ.2.2.1) (hx : x + Int32.ofInt n = y) (h2 : (i, Value.int y) :: lv.filter (fun q => !(q.1 == i) && !(q.1 + 1 == i && q.2.category == 2)) = lv2) {pc2 : Nat} (hp : pc + 3 = pc2) (k : kw_G E τ N d μ pc2 lv2 st σ v σ2) : kw_G E τ N d μ pc lv st σ v σ2 := by
  subst hp
  intro p e R s m args below meth c H locs ls cells slots Q C hl hP hD hS kk
  exact lv_iinc C.1 C.2.1 (k := j) hdg hl (by rw [List.getElem?_map, hj]; rfl) hx hn (lv' := lv2.map (kw_trl E.2.2.2)) (by rw [kw_flt1, ← h2]; rfl) (fun ls1 h1 => k p e R s m args below meth c H locs ls1 cells slots Q C h1 hP hD hS kk)
theorem kg_sub (ks : List Nat) {lv2 : List (Nat × Value)} (h2 : lv_pick lv ks = lv2) (k : kw_G E τ N d μ pc lv2 st σ v σ2) : kw_G E τ N d μ pc lv st σ v σ2 := by
  intro p e R s m args below meth c H locs ls cells slots Q C hl hP hD hS kk
  refine k p e R s m args below meth c H locs ls cells slots Q C (lv_sub hl ks ?_) hP hD hS kk
  rw [← h2, lv_pick, lv_pick, List.map_filterMap]
  congr 1
  funext i
  rw [List.getElem?_map]
theorem kg_iadd {x y : Int32} (hdg : decode μ.2.1 pc = .ok (.iadd, 1)) {pc2 : Nat} (hp : pc + 1 = pc2) (k : kw_G E τ N d μ pc2 lv (.int (x + y) :: st) σ v σ2) : kw_G E τ N d μ pc lv (.int y :: .int x :: st) σ v σ2 := by
  subst hp
  intro p e R s m args below meth c H locs ls cells slots Q C hl hP hD hS kk
  exact lv_iadd C.1 C.2.1 hdg (k p e R s m args below meth c H locs ls cells slots Q C hl hP hD hS kk)
theorem kg_isub {x y : Int32} (hdg : decode μ.2.1 pc = .ok (.isub, 1)) {pc2 : Nat} (hp : pc + 1 = pc2) (k : kw_G E τ N d μ pc2 lv (.int (x - y) :: st) σ v σ2) : kw_G E τ N d μ pc lv (.int y :: .int x :: st) σ v σ2 := by
  subst hp
  intro p e R s m args below meth c H locs ls cells slots Q C hl hP hD hS kk
  exact lv_isub C.1 C.2.1 hdg (k p e R s m args below meth c H locs ls cells slots Q C hl hP hD hS kk)
theorem kg_imul {x y : Int32} (hdg : decode μ.2.1 pc = .ok (.imul, 1)) {pc2 : Nat} (hp : pc + 1 = pc2) (k : kw_G E τ N d μ pc2 lv (.int (x * y) :: st) σ v σ2) : kw_G E τ N d μ pc lv (.int y :: .int x :: st) σ v σ2 := by
  subst hp
  intro p e R s m args below meth c H locs ls cells slots Q C hl hP hD hS kk
  exact lv_imul C.1 C.2.1 hdg (k p e R s m args below meth c H locs ls cells slots Q C hl hP hD hS kk)
theorem kg_iand {x y : Int32} (hdg : decode μ.2.1 pc = .ok (.iand, 1)) {pc2 : Nat} (hp : pc + 1 = pc2) (k : kw_G E τ N d μ pc2 lv (.int (x &&& y) :: st) σ v σ2) : kw_G E τ N d μ pc lv (.int y :: .int x :: st) σ v σ2 := by
  subst hp
  intro p e R s m args below meth c H locs ls cells slots Q C hl hP hD hS kk
  exact lv_iand C.1 C.2.1 hdg (k p e R s m args below meth c H locs ls cells slots Q C hl hP hD hS kk)
theorem kg_ior {x y : Int32} (hdg : decode μ.2.1 pc = .ok (.ior, 1)) {pc2 : Nat} (hp : pc + 1 = pc2) (k : kw_G E τ N d μ pc2 lv (.int (x ||| y) :: st) σ v σ2) : kw_G E τ N d μ pc lv (.int y :: .int x :: st) σ v σ2 := by
  subst hp
  intro p e R s m args below meth c H locs ls cells slots Q C hl hP hD hS kk
  exact lv_ior C.1 C.2.1 hdg (k p e R s m args below meth c H locs ls cells slots Q C hl hP hD hS kk)
theorem kg_ixor {x y : Int32} (hdg : decode μ.2.1 pc = .ok (.ixor, 1)) {pc2 : Nat} (hp : pc + 1 = pc2) (k : kw_G E τ N d μ pc2 lv (.int (x ^^^ y) :: st) σ v σ2) : kw_G E τ N d μ pc lv (.int y :: .int x :: st) σ v σ2 := by
  subst hp
  intro p e R s m args below meth c H locs ls cells slots Q C hl hP hD hS kk
  exact lv_ixor C.1 C.2.1 hdg (k p e R s m args below meth c H locs ls cells slots Q C hl hP hD hS kk)
theorem kg_ishl {x y : Int32} (hdg : decode μ.2.1 pc = .ok (.ishl, 1)) {pc2 : Nat} (hp : pc + 1 = pc2) (k : kw_G E τ N d μ pc2 lv (.int (x <<< (y &&& 31)) :: st) σ v σ2) : kw_G E τ N d μ pc lv (.int y :: .int x :: st) σ v σ2 := by
  subst hp
  intro p e R s m args below meth c H locs ls cells slots Q C hl hP hD hS kk
  exact lv_ishl C.1 C.2.1 hdg (k p e R s m args below meth c H locs ls cells slots Q C hl hP hD hS kk)
theorem kg_ishr {x y : Int32} (hdg : decode μ.2.1 pc = .ok (.ishr, 1)) {pc2 : Nat} (hp : pc + 1 = pc2) (k : kw_G E τ N d μ pc2 lv (.int (x >>> (y &&& 31)) :: st) σ v σ2) : kw_G E τ N d μ pc lv (.int y :: .int x :: st) σ v σ2 := by
  subst hp
  intro p e R s m args below meth c H locs ls cells slots Q C hl hP hD hS kk
  exact lv_ishr C.1 C.2.1 hdg (k p e R s m args below meth c H locs ls cells slots Q C hl hP hD hS kk)
theorem kg_iushr {x y z : Int32} (hdg : decode μ.2.1 pc = .ok (.iushr, 1)) (hz : (x.toUInt32 >>> (y.toUInt32 &&& Int32.toUInt32 31)).toInt32 = z) {pc2 : Nat} (hp : pc + 1 = pc2) (k : kw_G E τ N d μ pc2 lv (.int z :: st) σ v σ2) : kw_G E τ N d μ pc lv (.int y :: .int x :: st) σ v σ2 := by
  subst hp
  intro p e R s m args below meth c H locs ls cells slots Q C hl hP hD hS kk
  exact lv_iushr C.1 C.2.1 hdg hz (k p e R s m args below meth c H locs ls cells slots Q C hl hP hD hS kk)
theorem kg_idiv {x y : Int32} (hdg : decode μ.2.1 pc = .ok (.idiv, 1)) (hne : ¬ y = 0) {pc2 : Nat} (hp : pc + 1 = pc2) (k : kw_G E τ N d μ pc2 lv (.int (x / y) :: st) σ v σ2) : kw_G E τ N d μ pc lv (.int y :: .int x :: st) σ v σ2 := by
  subst hp
  intro p e R s m args below meth c H locs ls cells slots Q C hl hP hD hS kk
  exact lv_idiv C.1 C.2.1 hdg hne (k p e R s m args below meth c H locs ls cells slots Q C hl hP hD hS kk)
theorem kg_irem {x y : Int32} (hdg : decode μ.2.1 pc = .ok (.irem, 1)) (hne : ¬ y = 0) {pc2 : Nat} (hp : pc + 1 = pc2) (k : kw_G E τ N d μ pc2 lv (.int (x - x / y * y) :: st) σ v σ2) : kw_G E τ N d μ pc lv (.int y :: .int x :: st) σ v σ2 := by
  subst hp
  intro p e R s m args below meth c H locs ls cells slots Q C hl hP hD hS kk
  exact lv_irem C.1 C.2.1 hdg hne (k p e R s m args below meth c H locs ls cells slots Q C hl hP hD hS kk)
theorem kg_ladd {x y : Int64} (hdg : decode μ.2.1 pc = .ok (.ladd, 1)) {pc2 : Nat} (hp : pc + 1 = pc2) (k : kw_G E τ N d μ pc2 lv (.long (x + y) :: st) σ v σ2) : kw_G E τ N d μ pc lv (.long y :: .long x :: st) σ v σ2 := by
  subst hp
  intro p e R s m args below meth c H locs ls cells slots Q C hl hP hD hS kk
  exact lv_ladd C.1 C.2.1 hdg (k p e R s m args below meth c H locs ls cells slots Q C hl hP hD hS kk)
theorem kg_lsub {x y : Int64} (hdg : decode μ.2.1 pc = .ok (.lsub, 1)) {pc2 : Nat} (hp : pc + 1 = pc2) (k : kw_G E τ N d μ pc2 lv (.long (x - y) :: st) σ v σ2) : kw_G E τ N d μ pc lv (.long y :: .long x :: st) σ v σ2 := by
  subst hp
  intro p e R s m args below meth c H locs ls cells slots Q C hl hP hD hS kk
  exact lv_lsub C.1 C.2.1 hdg (k p e R s m args below meth c H locs ls cells slots Q C hl hP hD hS kk)
theorem kg_lmul {x y : Int64} (hdg : decode μ.2.1 pc = .ok (.lmul, 1)) {pc2 : Nat} (hp : pc + 1 = pc2) (k : kw_G E τ N d μ pc2 lv (.long (x * y) :: st) σ v σ2) : kw_G E τ N d μ pc lv (.long y :: .long x :: st) σ v σ2 := by
  subst hp
  intro p e R s m args below meth c H locs ls cells slots Q C hl hP hD hS kk
  exact lv_lmul C.1 C.2.1 hdg (k p e R s m args below meth c H locs ls cells slots Q C hl hP hD hS kk)
theorem kg_land {x y : Int64} (hdg : decode μ.2.1 pc = .ok (.land, 1)) {pc2 : Nat} (hp : pc + 1 = pc2) (k : kw_G E τ N d μ pc2 lv (.long (x &&& y) :: st) σ v σ2) : kw_G E τ N d μ pc lv (.long y :: .long x :: st) σ v σ2 := by
  subst hp
  intro p e R s m args below meth c H locs ls cells slots Q C hl hP hD hS kk
  exact lv_land C.1 C.2.1 hdg (k p e R s m args below meth c H locs ls cells slots Q C hl hP hD hS kk)
theorem kg_lor {x y : Int64} (hdg : decode μ.2.1 pc = .ok (.lor, 1)) {pc2 : Nat} (hp : pc + 1 = pc2) (k : kw_G E τ N d μ pc2 lv (.long (x ||| y) :: st) σ v σ2) : kw_G E τ N d μ pc lv (.long y :: .long x :: st) σ v σ2 := by
  subst hp
  intro p e R s m args below meth c H locs ls cells slots Q C hl hP hD hS kk
  exact lv_lor C.1 C.2.1 hdg (k p e R s m args below meth c H locs ls cells slots Q C hl hP hD hS kk)
theorem kg_lxor {x y : Int64} (hdg : decode μ.2.1 pc = .ok (.lxor, 1)) {pc2 : Nat} (hp : pc + 1 = pc2) (k : kw_G E τ N d μ pc2 lv (.long (x ^^^ y) :: st) σ v σ2) : kw_G E τ N d μ pc lv (.long y :: .long x :: st) σ v σ2 := by
  subst hp
  intro p e R s m args below meth c H locs ls cells slots Q C hl hP hD hS kk
  exact lv_lxor C.1 C.2.1 hdg (k p e R s m args below meth c H locs ls cells slots Q C hl hP hD hS kk)
theorem kg_ldiv {x y : Int64} (hdg : decode μ.2.1 pc = .ok (.ldiv, 1)) (hne : ¬ y = 0) {pc2 : Nat} (hp : pc + 1 = pc2) (k : kw_G E τ N d μ pc2 lv (.long (x / y) :: st) σ v σ2) : kw_G E τ N d μ pc lv (.long y :: .long x :: st) σ v σ2 := by
  subst hp
  intro p e R s m args below meth c H locs ls cells slots Q C hl hP hD hS kk
  exact lv_ldiv C.1 C.2.1 hdg hne (k p e R s m args below meth c H locs ls cells slots Q C hl hP hD hS kk)
theorem kg_lrem {x y : Int64} (hdg : decode μ.2.1 pc = .ok (.lrem, 1)) (hne : ¬ y = 0) {pc2 : Nat} (hp : pc + 1 = pc2) (k : kw_G E τ N d μ pc2 lv (.long (x - x / y * y) :: st) σ v σ2) : kw_G E τ N d μ pc lv (.long y :: .long x :: st) σ v σ2 := by
  subst hp
  intro p e R s m args below meth c H locs ls cells slots Q C hl hP hD hS kk
  exact lv_lrem C.1 C.2.1 hdg hne (k p e R s m args below meth c H locs ls cells slots Q C hl hP hD hS kk)
theorem kg_lshl {x : Int64} {y : Int32} (hdg : decode μ.2.1 pc = .ok (.lshl, 1)) {pc2 : Nat} (hp : pc + 1 = pc2) (k : kw_G E τ N d μ pc2 lv (.long (x <<< (y.toInt64 &&& 63)) :: st) σ v σ2) : kw_G E τ N d μ pc lv (.int y :: .long x :: st) σ v σ2 := by
  subst hp
  intro p e R s m args below meth c H locs ls cells slots Q C hl hP hD hS kk
  exact lv_lshl C.1 C.2.1 hdg rfl (k p e R s m args below meth c H locs ls cells slots Q C hl hP hD hS kk)
theorem kg_lshr {x : Int64} {y : Int32} (hdg : decode μ.2.1 pc = .ok (.lshr, 1)) {pc2 : Nat} (hp : pc + 1 = pc2) (k : kw_G E τ N d μ pc2 lv (.long (x >>> (y.toInt64 &&& 63)) :: st) σ v σ2) : kw_G E τ N d μ pc lv (.int y :: .long x :: st) σ v σ2 := by
  subst hp
  intro p e R s m args below meth c H locs ls cells slots Q C hl hP hD hS kk
  exact lv_lshr C.1 C.2.1 hdg rfl (k p e R s m args below meth c H locs ls cells slots Q C hl hP hD hS kk)
theorem kg_ineg {x : Int32} (hdg : decode μ.2.1 pc = .ok (.ineg, 1)) {pc2 : Nat} (hp : pc + 1 = pc2) (k : kw_G E τ N d μ pc2 lv (.int (-x) :: st) σ v σ2) : kw_G E τ N d μ pc lv (.int x :: st) σ v σ2 := by
  subst hp
  intro p e R s m args below meth c H locs ls cells slots Q C hl hP hD hS kk
  exact lv_ineg C.1 C.2.1 hdg (k p e R s m args below meth c H locs ls cells slots Q C hl hP hD hS kk)
theorem kg_lneg {x : Int64} (hdg : decode μ.2.1 pc = .ok (.lneg, 1)) {pc2 : Nat} (hp : pc + 1 = pc2) (k : kw_G E τ N d μ pc2 lv (.long (-x) :: st) σ v σ2) : kw_G E τ N d μ pc lv (.long x :: st) σ v σ2 := by
  subst hp
  intro p e R s m args below meth c H locs ls cells slots Q C hl hP hD hS kk
  exact lv_lneg C.1 C.2.1 hdg (k p e R s m args below meth c H locs ls cells slots Q C hl hP hD hS kk)
theorem kg_i2l {x : Int32} (hdg : decode μ.2.1 pc = .ok (.i2l, 1)) {pc2 : Nat} (hp : pc + 1 = pc2) (k : kw_G E τ N d μ pc2 lv (.long x.toInt64 :: st) σ v σ2) : kw_G E τ N d μ pc lv (.int x :: st) σ v σ2 := by
  subst hp
  intro p e R s m args below meth c H locs ls cells slots Q C hl hP hD hS kk
  exact lv_i2l C.1 C.2.1 hdg rfl (k p e R s m args below meth c H locs ls cells slots Q C hl hP hD hS kk)
theorem kg_l2i {x : Int64} (hdg : decode μ.2.1 pc = .ok (.l2i, 1)) {pc2 : Nat} (hp : pc + 1 = pc2) (k : kw_G E τ N d μ pc2 lv (.int x.toInt32 :: st) σ v σ2) : kw_G E τ N d μ pc lv (.long x :: st) σ v σ2 := by
  subst hp
  intro p e R s m args below meth c H locs ls cells slots Q C hl hP hD hS kk
  exact lv_l2i C.1 C.2.1 hdg rfl (k p e R s m args below meth c H locs ls cells slots Q C hl hP hD hS kk)
theorem kg_i2b {x : Int32} (hdg : decode μ.2.1 pc = .ok (.i2b, 1)) {pc2 : Nat} (hp : pc + 1 = pc2) (k : kw_G E τ N d μ pc2 lv (.int x.toInt8.toInt32 :: st) σ v σ2) : kw_G E τ N d μ pc lv (.int x :: st) σ v σ2 := by
  subst hp
  intro p e R s m args below meth c H locs ls cells slots Q C hl hP hD hS kk
  exact lv_i2b C.1 C.2.1 hdg rfl (k p e R s m args below meth c H locs ls cells slots Q C hl hP hD hS kk)
theorem kg_lcmp {x y : Int64} (hdg : decode μ.2.1 pc = .ok (.lcmp, 1)) {pc2 : Nat} (hp : pc + 1 = pc2) (k : kw_G E τ N d μ pc2 lv (.int (lg_cmp x y) :: st) σ v σ2) : kw_G E τ N d μ pc lv (.long y :: .long x :: st) σ v σ2 := by
  subst hp
  intro p e R s m args below meth c H locs ls cells slots Q C hl hP hD hS kk
  exact W.lcmp C.1 C.2.1 hdg (k p e R s m args below meth c H locs ls cells slots Q C hl hP hD hS kk)
theorem kg_dup {x : Value} (hdg : decode μ.2.1 pc = .ok (.dup, 1)) (hx : x.category = 1) {pc2 : Nat} (hp : pc + 1 = pc2) (k : kw_G E τ N d μ pc2 lv (x :: x :: st) σ v σ2) : kw_G E τ N d μ pc lv (x :: st) σ v σ2 := by
  subst hp
  intro p e R s m args below meth c H locs ls cells slots Q C hl hP hD hS kk
  exact lv_dup C.1 C.2.1 hdg (by rw [kw_cat]; exact hx) (k p e R s m args below meth c H locs ls cells slots Q C hl hP hD hS kk)
theorem kg_pop {x : Value} (hdg : decode μ.2.1 pc = .ok (.pop, 1)) (hx : x.category = 1) {pc2 : Nat} (hp : pc + 1 = pc2) (k : kw_G E τ N d μ pc2 lv st σ v σ2) : kw_G E τ N d μ pc lv (x :: st) σ v σ2 := by
  subst hp
  intro p e R s m args below meth c H locs ls cells slots Q C hl hP hD hS kk
  exact lv_pop C.1 C.2.1 hdg (by rw [kw_cat]; exact hx) (k p e R s m args below meth c H locs ls cells slots Q C hl hP hD hS kk)
theorem kg_goto {off : Int} (tgt : Nat) (hdg : decode μ.2.1 pc = .ok (.goto off, 3)) (ht : (pc : Int) + off = (tgt : Int)) (k : kw_G E τ N d μ tgt lv st σ v σ2) : kw_G E τ N d μ pc lv st σ v σ2 := by
  intro p e R s m args below meth c H locs ls cells slots Q C hl hP hD hS kk
  exact lv_goto C.1 C.2.1 hdg ht (k p e R s m args below meth c H locs ls cells slots Q C hl hP hD hS kk)
theorem kg_if_eq {x : Int32} {off : Int} (tgt : Nat) (hdg : decode μ.2.1 pc = .ok (.ifCond .eq off, 3)) (ht : (pc : Int) + off = (tgt : Int)) {pc2 : Nat} (hp : pc + 3 = pc2) (kt : x = 0 → kw_G E τ N d μ tgt lv st σ v σ2) (kf : ¬ x = 0 → kw_G E τ N d μ pc2 lv st σ v σ2) : kw_G E τ N d μ pc lv (.int x :: st) σ v σ2 := by
  subst hp
  intro p e R s m args below meth c H locs ls cells slots Q C hl hP hD hS kk
  exact lv_if_eq C.1 C.2.1 hdg ht (fun q => kt q p e R s m args below meth c H locs ls cells slots Q C hl hP hD hS kk) (fun q => kf q p e R s m args below meth c H locs ls cells slots Q C hl hP hD hS kk)
theorem kg_icmp_eq {x y : Int32} {off : Int} (tgt : Nat) (hdg : decode μ.2.1 pc = .ok (.if_icmp .eq off, 3)) (ht : (pc : Int) + off = (tgt : Int)) {pc2 : Nat} (hp : pc + 3 = pc2) (kt : x = y → kw_G E τ N d μ tgt lv st σ v σ2) (kf : ¬ x = y → kw_G E τ N d μ pc2 lv st σ v σ2) : kw_G E τ N d μ pc lv (.int y :: .int x :: st) σ v σ2 := by
  subst hp
  intro p e R s m args below meth c H locs ls cells slots Q C hl hP hD hS kk
  exact lv_icmp_eq C.1 C.2.1 hdg ht (fun q => kt q p e R s m args below meth c H locs ls cells slots Q C hl hP hD hS kk) (fun q => kf q p e R s m args below meth c H locs ls cells slots Q C hl hP hD hS kk)
theorem kg_lcmp_eq {x y : Int64} {off : Int} (tgt : Nat) (hd0 : decode μ.2.1 pc = .ok (.lcmp, 1)) (hdg : decode μ.2.1 (pc + 1) = .ok (.ifCond .eq off, 3)) (ht : ((pc + 1 : Nat) : Int) + off = (tgt : Int)) {pc2 : Nat} (hp : pc + 4 = pc2) (kt : x = y → kw_G E τ N d μ tgt lv st σ v σ2) (kf : ¬ x = y → kw_G E τ N d μ pc2 lv st σ v σ2) : kw_G E τ N d μ pc lv (.long y :: .long x :: st) σ v σ2 :=
  kg_lcmp hd0 rfl (kg_if_eq tgt hdg ht hp (fun q => kt ((lg_cmp_eq x y).mp q)) (fun q => kf (fun z => q ((lg_cmp_eq x y).mpr z))))
theorem kg_if_ne {x : Int32} {off : Int} (tgt : Nat) (hdg : decode μ.2.1 pc = .ok (.ifCond .ne off, 3)) (ht : (pc : Int) + off = (tgt : Int)) {pc2 : Nat} (hp : pc + 3 = pc2) (kt : ¬ x = 0 → kw_G E τ N d μ tgt lv st σ v σ2) (kf : x = 0 → kw_G E τ N d μ pc2 lv st σ v σ2) : kw_G E τ N d μ pc lv (.int x :: st) σ v σ2 := by
  subst hp
  intro p e R s m args below meth c H locs ls cells slots Q C hl hP hD hS kk
  exact lv_if_ne C.1 C.2.1 hdg ht (fun q => kt q p e R s m args below meth c H locs ls cells slots Q C hl hP hD hS kk) (fun q => kf q p e R s m args below meth c H locs ls cells slots Q C hl hP hD hS kk)
theorem kg_icmp_ne {x y : Int32} {off : Int} (tgt : Nat) (hdg : decode μ.2.1 pc = .ok (.if_icmp .ne off, 3)) (ht : (pc : Int) + off = (tgt : Int)) {pc2 : Nat} (hp : pc + 3 = pc2) (kt : ¬ x = y → kw_G E τ N d μ tgt lv st σ v σ2) (kf : x = y → kw_G E τ N d μ pc2 lv st σ v σ2) : kw_G E τ N d μ pc lv (.int y :: .int x :: st) σ v σ2 := by
  subst hp
  intro p e R s m args below meth c H locs ls cells slots Q C hl hP hD hS kk
  exact lv_icmp_ne C.1 C.2.1 hdg ht (fun q => kt q p e R s m args below meth c H locs ls cells slots Q C hl hP hD hS kk) (fun q => kf q p e R s m args below meth c H locs ls cells slots Q C hl hP hD hS kk)
theorem kg_lcmp_ne {x y : Int64} {off : Int} (tgt : Nat) (hd0 : decode μ.2.1 pc = .ok (.lcmp, 1)) (hdg : decode μ.2.1 (pc + 1) = .ok (.ifCond .ne off, 3)) (ht : ((pc + 1 : Nat) : Int) + off = (tgt : Int)) {pc2 : Nat} (hp : pc + 4 = pc2) (kt : ¬ x = y → kw_G E τ N d μ tgt lv st σ v σ2) (kf : x = y → kw_G E τ N d μ pc2 lv st σ v σ2) : kw_G E τ N d μ pc lv (.long y :: .long x :: st) σ v σ2 :=
  kg_lcmp hd0 rfl (kg_if_ne tgt hdg ht hp (fun q => kt (fun z => q ((lg_cmp_eq x y).mpr z))) (fun q => kf ((lg_cmp_eq x y).mp q)))
theorem kg_if_lt {x : Int32} {off : Int} (tgt : Nat) (hdg : decode μ.2.1 pc = .ok (.ifCond .lt off, 3)) (ht : (pc : Int) + off = (tgt : Int)) {pc2 : Nat} (hp : pc + 3 = pc2) (kt : x < 0 → kw_G E τ N d μ tgt lv st σ v σ2) (kf : ¬ x < 0 → kw_G E τ N d μ pc2 lv st σ v σ2) : kw_G E τ N d μ pc lv (.int x :: st) σ v σ2 := by
  subst hp
  intro p e R s m args below meth c H locs ls cells slots Q C hl hP hD hS kk
  exact lv_if_lt C.1 C.2.1 hdg ht (fun q => kt q p e R s m args below meth c H locs ls cells slots Q C hl hP hD hS kk) (fun q => kf q p e R s m args below meth c H locs ls cells slots Q C hl hP hD hS kk)
theorem kg_icmp_lt {x y : Int32} {off : Int} (tgt : Nat) (hdg : decode μ.2.1 pc = .ok (.if_icmp .lt off, 3)) (ht : (pc : Int) + off = (tgt : Int)) {pc2 : Nat} (hp : pc + 3 = pc2) (kt : x < y → kw_G E τ N d μ tgt lv st σ v σ2) (kf : ¬ x < y → kw_G E τ N d μ pc2 lv st σ v σ2) : kw_G E τ N d μ pc lv (.int y :: .int x :: st) σ v σ2 := by
  subst hp
  intro p e R s m args below meth c H locs ls cells slots Q C hl hP hD hS kk
  exact lv_icmp_lt C.1 C.2.1 hdg ht (fun q => kt q p e R s m args below meth c H locs ls cells slots Q C hl hP hD hS kk) (fun q => kf q p e R s m args below meth c H locs ls cells slots Q C hl hP hD hS kk)
theorem kg_lcmp_lt {x y : Int64} {off : Int} (tgt : Nat) (hd0 : decode μ.2.1 pc = .ok (.lcmp, 1)) (hdg : decode μ.2.1 (pc + 1) = .ok (.ifCond .lt off, 3)) (ht : ((pc + 1 : Nat) : Int) + off = (tgt : Int)) {pc2 : Nat} (hp : pc + 4 = pc2) (kt : x < y → kw_G E τ N d μ tgt lv st σ v σ2) (kf : ¬ x < y → kw_G E τ N d μ pc2 lv st σ v σ2) : kw_G E τ N d μ pc lv (.long y :: .long x :: st) σ v σ2 :=
  kg_lcmp hd0 rfl (kg_if_lt tgt hdg ht hp (fun q => kt ((lg_cmp_lt x y).mp q)) (fun q => kf (fun z => q ((lg_cmp_lt x y).mpr z))))
theorem kg_if_ge {x : Int32} {off : Int} (tgt : Nat) (hdg : decode μ.2.1 pc = .ok (.ifCond .ge off, 3)) (ht : (pc : Int) + off = (tgt : Int)) {pc2 : Nat} (hp : pc + 3 = pc2) (kt : 0 ≤ x → kw_G E τ N d μ tgt lv st σ v σ2) (kf : ¬ 0 ≤ x → kw_G E τ N d μ pc2 lv st σ v σ2) : kw_G E τ N d μ pc lv (.int x :: st) σ v σ2 := by
  subst hp
  intro p e R s m args below meth c H locs ls cells slots Q C hl hP hD hS kk
  exact lv_if_ge C.1 C.2.1 hdg ht (fun q => kt q p e R s m args below meth c H locs ls cells slots Q C hl hP hD hS kk) (fun q => kf q p e R s m args below meth c H locs ls cells slots Q C hl hP hD hS kk)
theorem kg_icmp_ge {x y : Int32} {off : Int} (tgt : Nat) (hdg : decode μ.2.1 pc = .ok (.if_icmp .ge off, 3)) (ht : (pc : Int) + off = (tgt : Int)) {pc2 : Nat} (hp : pc + 3 = pc2) (kt : y ≤ x → kw_G E τ N d μ tgt lv st σ v σ2) (kf : ¬ y ≤ x → kw_G E τ N d μ pc2 lv st σ v σ2) : kw_G E τ N d μ pc lv (.int y :: .int x :: st) σ v σ2 := by
  subst hp
  intro p e R s m args below meth c H locs ls cells slots Q C hl hP hD hS kk
  exact lv_icmp_ge C.1 C.2.1 hdg ht (fun q => kt q p e R s m args below meth c H locs ls cells slots Q C hl hP hD hS kk) (fun q => kf q p e R s m args below meth c H locs ls cells slots Q C hl hP hD hS kk)
theorem kg_lcmp_ge {x y : Int64} {off : Int} (tgt : Nat) (hd0 : decode μ.2.1 pc = .ok (.lcmp, 1)) (hdg : decode μ.2.1 (pc + 1) = .ok (.ifCond .ge off, 3)) (ht : ((pc + 1 : Nat) : Int) + off = (tgt : Int)) {pc2 : Nat} (hp : pc + 4 = pc2) (kt : y ≤ x → kw_G E τ N d μ tgt lv st σ v σ2) (kf : ¬ y ≤ x → kw_G E τ N d μ pc2 lv st σ v σ2) : kw_G E τ N d μ pc lv (.long y :: .long x :: st) σ v σ2 :=
  kg_lcmp hd0 rfl (kg_if_ge tgt hdg ht hp (fun q => kt ((lg_cmp_ge x y).mp q)) (fun q => kf (fun z => q ((lg_cmp_ge x y).mpr z))))
theorem kg_if_gt {x : Int32} {off : Int} (tgt : Nat) (hdg : decode μ.2.1 pc = .ok (.ifCond .gt off, 3)) (ht : (pc : Int) + off = (tgt : Int)) {pc2 : Nat} (hp : pc + 3 = pc2) (kt : 0 < x → kw_G E τ N d μ tgt lv st σ v σ2) (kf : ¬ 0 < x → kw_G E τ N d μ pc2 lv st σ v σ2) : kw_G E τ N d μ pc lv (.int x :: st) σ v σ2 := by
  subst hp
  intro p e R s m args below meth c H locs ls cells slots Q C hl hP hD hS kk
  exact lv_if_gt C.1 C.2.1 hdg ht (fun q => kt q p e R s m args below meth c H locs ls cells slots Q C hl hP hD hS kk) (fun q => kf q p e R s m args below meth c H locs ls cells slots Q C hl hP hD hS kk)
theorem kg_icmp_gt {x y : Int32} {off : Int} (tgt : Nat) (hdg : decode μ.2.1 pc = .ok (.if_icmp .gt off, 3)) (ht : (pc : Int) + off = (tgt : Int)) {pc2 : Nat} (hp : pc + 3 = pc2) (kt : y < x → kw_G E τ N d μ tgt lv st σ v σ2) (kf : ¬ y < x → kw_G E τ N d μ pc2 lv st σ v σ2) : kw_G E τ N d μ pc lv (.int y :: .int x :: st) σ v σ2 := by
  subst hp
  intro p e R s m args below meth c H locs ls cells slots Q C hl hP hD hS kk
  exact lv_icmp_gt C.1 C.2.1 hdg ht (fun q => kt q p e R s m args below meth c H locs ls cells slots Q C hl hP hD hS kk) (fun q => kf q p e R s m args below meth c H locs ls cells slots Q C hl hP hD hS kk)
theorem kg_lcmp_gt {x y : Int64} {off : Int} (tgt : Nat) (hd0 : decode μ.2.1 pc = .ok (.lcmp, 1)) (hdg : decode μ.2.1 (pc + 1) = .ok (.ifCond .gt off, 3)) (ht : ((pc + 1 : Nat) : Int) + off = (tgt : Int)) {pc2 : Nat} (hp : pc + 4 = pc2) (kt : y < x → kw_G E τ N d μ tgt lv st σ v σ2) (kf : ¬ y < x → kw_G E τ N d μ pc2 lv st σ v σ2) : kw_G E τ N d μ pc lv (.long y :: .long x :: st) σ v σ2 :=
  kg_lcmp hd0 rfl (kg_if_gt tgt hdg ht hp (fun q => kt ((lg_cmp_gt x y).mp q)) (fun q => kf (fun z => q ((lg_cmp_gt x y).mpr z))))
theorem kg_if_le {x : Int32} {off : Int} (tgt : Nat) (hdg : decode μ.2.1 pc = .ok (.ifCond .le off, 3)) (ht : (pc : Int) + off = (tgt : Int)) {pc2 : Nat} (hp : pc + 3 = pc2) (kt : x ≤ 0 → kw_G E τ N d μ tgt lv st σ v σ2) (kf : ¬ x ≤ 0 → kw_G E τ N d μ pc2 lv st σ v σ2) : kw_G E τ N d μ pc lv (.int x :: st) σ v σ2 := by
  subst hp
  intro p e R s m args below meth c H locs ls cells slots Q C hl hP hD hS kk
  exact lv_if_le C.1 C.2.1 hdg ht (fun q => kt q p e R s m args below meth c H locs ls cells slots Q C hl hP hD hS kk) (fun q => kf q p e R s m args below meth c H locs ls cells slots Q C hl hP hD hS kk)
theorem kg_icmp_le {x y : Int32} {off : Int} (tgt : Nat) (hdg : decode μ.2.1 pc = .ok (.if_icmp .le off, 3)) (ht : (pc : Int) + off = (tgt : Int)) {pc2 : Nat} (hp : pc + 3 = pc2) (kt : x ≤ y → kw_G E τ N d μ tgt lv st σ v σ2) (kf : ¬ x ≤ y → kw_G E τ N d μ pc2 lv st σ v σ2) : kw_G E τ N d μ pc lv (.int y :: .int x :: st) σ v σ2 := by
  subst hp
  intro p e R s m args below meth c H locs ls cells slots Q C hl hP hD hS kk
  exact lv_icmp_le C.1 C.2.1 hdg ht (fun q => kt q p e R s m args below meth c H locs ls cells slots Q C hl hP hD hS kk) (fun q => kf q p e R s m args below meth c H locs ls cells slots Q C hl hP hD hS kk)
theorem kg_lcmp_le {x y : Int64} {off : Int} (tgt : Nat) (hd0 : decode μ.2.1 pc = .ok (.lcmp, 1)) (hdg : decode μ.2.1 (pc + 1) = .ok (.ifCond .le off, 3)) (ht : ((pc + 1 : Nat) : Int) + off = (tgt : Int)) {pc2 : Nat} (hp : pc + 4 = pc2) (kt : x ≤ y → kw_G E τ N d μ tgt lv st σ v σ2) (kf : ¬ x ≤ y → kw_G E τ N d μ pc2 lv st σ v σ2) : kw_G E τ N d μ pc lv (.long y :: .long x :: st) σ v σ2 :=
  kg_lcmp hd0 rfl (kg_if_le tgt hdg ht hp (fun q => kt ((lg_cmp_le x y).mp q)) (fun q => kf (fun z => q ((lg_cmp_le x y).mpr z))))
theorem kg_tsIn {dflt lo hi : Int} {offs : Array Int} {len : Nat} {x : Int32} {off : Int} (tgt : Nat) (hdg : decode μ.2.1 pc = .ok (.tableswitch dflt lo hi offs, len)) (h1 : ¬ x.toInt < lo) (h2 : ¬ hi < x.toInt) (ho : offs[(x.toInt - lo).toNat]? = some off) (ht : (pc : Int) + off = (tgt : Int)) (k : kw_G E τ N d μ tgt lv st σ v σ2) : kw_G E τ N d μ pc lv (.int x :: st) σ v σ2 := by
  intro p e R s m args below meth c H locs ls cells slots Q C hl hP hD hS kk
  exact lv_tableIn C.1 C.2.1 hdg h1 h2 ho ht (k p e R s m args below meth c H locs ls cells slots Q C hl hP hD hS kk)
theorem kg_tsOut {dflt lo hi : Int} {offs : Array Int} {len : Nat} {x : Int32} (tgt : Nat) (hdg : decode μ.2.1 pc = .ok (.tableswitch dflt lo hi offs, len)) (h : x.toInt < lo ∨ hi < x.toInt) (ht : (pc : Int) + dflt = (tgt : Int)) (k : kw_G E τ N d μ tgt lv st σ v σ2) : kw_G E τ N d μ pc lv (.int x :: st) σ v σ2 := by
  intro p e R s m args below meth c H locs ls cells slots Q C hl hP hD hS kk
  exact lv_tableOut C.1 C.2.1 hdg h ht (k p e R s m args below meth c H locs ls cells slots Q C hl hP hD hS kk)
theorem kg_lsw {dflt : Int} {ps : Array (Int × Int)} {len : Nat} {x : Int32} {off : Int} (tgt : Nat) (hdg : decode μ.2.1 pc = .ok (.lookupswitch dflt ps, len)) (hp : (ps.toList.zip (ps.toList.drop 1)).all (fun (a, next) => a.1 < next.1) = true) (ho : Op.lookupswitch.offset ps.toList dflt x.toInt = off) (ht : (pc : Int) + off = (tgt : Int)) (k : kw_G E τ N d μ tgt lv st σ v σ2) : kw_G E τ N d μ pc lv (.int x :: st) σ v σ2 := by
  intro p e R s m args below meth c H locs ls cells slots Q C hl hP hD hS kk
  exact lv_lookup C.1 C.2.1 hdg hp ho ht (k p e R s m args below meth c H locs ls cells slots Q C hl hP hD hS kk)
theorem kg_vret (hdg : decode μ.2.1 pc = .ok (.return_, 1)) (hr : μ.2.2.2 = none) : kw_G E τ N d μ pc lv [] σ none σ := by
  intro p e R s m args below meth c H locs ls cells slots Q C hl hP hD hS kk
  exact kk H locs pc ls hP hD hS ⟨hdg, hr⟩
theorem kg_iret {x : Int32} {ty : FieldType} (hdg : decode μ.2.1 pc = .ok (.ireturn, 1)) (hr : μ.2.2.2 = some ty) (hn : narrow ty (.int x) = .int x) : kw_G E τ N d μ pc lv [.int x] σ (some (.int x)) σ := by
  intro p e R s m args below meth c H locs ls cells slots Q C hl hP hD hS kk
  exact kk H locs pc ls hP hD hS ⟨hdg, ty, hr, hn⟩
theorem kg_lret {x : Int64} (hdg : decode μ.2.1 pc = .ok (.lreturn, 1)) (hr : μ.2.2.2 = some .long) : kw_G E τ N d μ pc lv [.long x] σ (some (.long x)) σ := by
  intro p e R s m args below meth c H locs ls cells slots Q C hl hP hD hS kk
  exact kk H locs pc ls hP hD hS ⟨hdg, hr⟩
theorem kg_aret {x : Nat} {rt : FieldType} (hdg : decode μ.2.1 pc = .ok (.areturn, 1)) (hr : μ.2.2.2 = some rt) (hn : (∃ n, rt = .object n) ∨ ∃ t, rt = .array t) : kw_G E τ N d μ pc lv [.ref x] σ (some (.ref x)) σ := by
  intro p e R s m args below meth c H locs ls cells slots Q C hl hP hD hS kk
  exact kk H locs pc ls hP hD hS ⟨hdg, rt, hr, hn⟩
theorem kg_get {ci : Nat} {C0 : String} {T : u_T} {Nf : Nat} (hcl : kw_CL ci C0 T Nf) {own : String} (ho : μ.1.cls = own) {i : Nat} (k0 : Nat) (hk : k0 < Nf) (hw : Cond.fieldLink own i (T k0).1 (T k0).2.1 (T k0).2.2.1 ∈ kw_all) {cn : Nat} (hc : cn < N) {fs : List (Nat × Nat)} (hx : τ cn = .inr (ci, fs)) {f : Nat × Nat} (hf : fs[k0]? = some f) {y : Value} (hy : ∀ ad, kw_fv ad σ cn k0 f = kw_tr ad y) (hdg : decode μ.2.1 pc = .ok (.getfield i, 3)) {pc2 : Nat} (hp : pc + 3 = pc2) (k : kw_G E τ N d μ pc2 lv (y :: st) σ v σ2) : kw_G E τ N d μ pc lv (.ref cn :: st) σ v σ2 := by
  subst hp
  intro p e R s m args below meth c H locs ls cells slots Q C hl hP hD hS kk
  refine va_get C.1 C.2.1 (own := own) C.2.2.2.2.1 hcl.2.1 (ho ▸ C.2.2.2.1) C.2.2.2.2.2.1 hP cn (kw_at hc hx) hcl.1 k0 hk (C.2.2.2.2.1 _ hw) (fun _ z => z) (kw_fs_get hf) hdg ?_
  rw [hy]
  exact k p e R s m args below meth c H locs ls cells slots Q C hl hP hD hS kk
theorem kg_geti {ci : Nat} {C0 : String} {T : u_T} {Nf : Nat} (hcl : kw_CL ci C0 T Nf) {own : String} (ho : μ.1.cls = own) {i : Nat} (k0 : Nat) (hk : k0 < Nf) (hw : Cond.fieldLink own i (T k0).1 (T k0).2.1 (T k0).2.2.1 ∈ kw_all) {cn : Nat} (hc : cn < N) {fs : List (Nat × Nat)} (hx : τ cn = .inr (ci, fs)) {z : Nat} (hf : fs[k0]? = some (0, z)) (hdg : decode μ.2.1 pc = .ok (.getfield i, 3)) {pc2 : Nat} (hp : pc + 3 = pc2) (k : kw_G E τ N d μ pc2 lv (.int (σ.1 cn k0) :: st) σ v σ2) : kw_G E τ N d μ pc lv (.ref cn :: st) σ v σ2 := kg_get hcl ho k0 hk hw hc hx hf (fun _ => rfl) hdg hp k
theorem kg_getl {ci : Nat} {C0 : String} {T : u_T} {Nf : Nat} (hcl : kw_CL ci C0 T Nf) {own : String} (ho : μ.1.cls = own) {i : Nat} (k0 : Nat) (hk : k0 < Nf) (hw : Cond.fieldLink own i (T k0).1 (T k0).2.1 (T k0).2.2.1 ∈ kw_all) {cn : Nat} (hc : cn < N) {fs : List (Nat × Nat)} (hx : τ cn = .inr (ci, fs)) {z : Nat} (hf : fs[k0]? = some (1, z)) (hdg : decode μ.2.1 pc = .ok (.getfield i, 3)) {pc2 : Nat} (hp : pc + 3 = pc2) (k : kw_G E τ N d μ pc2 lv (.long (σ.2 cn k0) :: st) σ v σ2) : kw_G E τ N d μ pc lv (.ref cn :: st) σ v σ2 := kg_get hcl ho k0 hk hw hc hx hf (fun _ => rfl) hdg hp k
theorem kg_getr {ci : Nat} {C0 : String} {T : u_T} {Nf : Nat} (hcl : kw_CL ci C0 T Nf) {own : String} (ho : μ.1.cls = own) {i : Nat} (k0 : Nat) (hk : k0 < Nf) (hw : Cond.fieldLink own i (T k0).1 (T k0).2.1 (T k0).2.2.1 ∈ kw_all) {cn : Nat} (hc : cn < N) {fs : List (Nat × Nat)} (hx : τ cn = .inr (ci, fs)) {r : Nat} (hf : fs[k0]? = some (2, r)) (hdg : decode μ.2.1 pc = .ok (.getfield i, 3)) {pc2 : Nat} (hp : pc + 3 = pc2) (k : kw_G E τ N d μ pc2 lv (.ref r :: st) σ v σ2) : kw_G E τ N d μ pc lv (.ref cn :: st) σ v σ2 := kg_get hcl ho k0 hk hw hc hx hf (fun _ => rfl) hdg hp k
theorem kg_getd {ci : Nat} {C0 : String} {T : u_T} {Nf : Nat} (hcl : kw_CL ci C0 T Nf) {own : String} (ho : μ.1.cls = own) {i : Nat} (k0 : Nat) (hk : k0 < Nf) (hw : Cond.fieldLink own i (T k0).1 (T k0).2.1 (T k0).2.2.1 ∈ kw_all) {cn : Nat} (hc : cn < N) {fs : List (Nat × Nat)} (hx : τ cn = .inr (ci, fs)) {z : Nat} (hf : fs[k0]? = some (3, z)) (hdg : decode μ.2.1 pc = .ok (.getfield i, 3)) {pc2 : Nat} (hp : pc + 3 = pc2) (k : kw_G E τ N d μ pc2 lv (.ref (σ.1 cn k0).toNatClampNeg :: st) σ v σ2) : kw_G E τ N d μ pc lv (.ref cn :: st) σ v σ2 := kg_get hcl ho k0 hk hw hc hx hf (fun _ => rfl) hdg hp k
theorem kg_puti {ci : Nat} {C0 : String} {T : u_T} {Nf : Nat} (hcl : kw_CL ci C0 T Nf) {own : String} (ho : μ.1.cls = own) {i : Nat} (k0 : Nat) (hk : k0 < Nf) (hw : Cond.fieldLink own i (T k0).1 (T k0).2.1 (T k0).2.2.1 ∈ kw_all) (hfin : (T k0).2.2.2 = false) {cn : Nat} (hc : cn < N) {fs : List (Nat × Nat)} (hx : τ cn = .inr (ci, fs)) {z : Nat} (hf : fs[k0]? = some (0, z)) {x : Int32} {σ1 : kw_M} {ty : FieldType} (hd : parseFieldDescriptor (T k0).2.2.1 = some ty) (hn : narrow ty (.int x) = .int x) (hft : fits ty (.int x) = true) (hs : kw_si σ cn k0 x = σ1) (hdg : decode μ.2.1 pc = .ok (.putfield i, 3)) {pc2 : Nat} (hp : pc + 3 = pc2) (k : kw_G E τ N d μ pc2 lv st σ1 v σ2) : kw_G E τ N d μ pc lv (.int x :: .ref cn :: st) σ v σ2 := by
  subst hp
  subst hs
  intro p e R s m args below meth c H locs ls cells slots Q C hl hP hD hS kk
  obtain ⟨ty0, hty⟩ := hcl.2.2.1
  have he : kw_e E (kw_si σ cn k0 x) cn (.inr (ci, fs)) = .inr (ci, (kw_fs E.2.2.2 σ cn fs).set k0 (.int x)) := by
    show Sum.inr (ci, kw_fs E.2.2.2 (kw_si σ cn k0 x) cn fs) = _
    rw [kw_fs_set (σ := σ) (σ' := kw_si σ cn k0 x) hf (v := (.int x)) (by show Value.int ((kw_si σ cn k0 x).1 cn k0) = _; rw [kw_si_1]; simp [upd]) (fun j hj => by rw [kw_si_1]; simp [upd, hj]) (fun _ _ => rfl)]
  refine va_put C.1 C.2.1 (own := own) C.2.2.2.2.1 hcl.2.1 ty0 hty hcl.2.2.2 (ho ▸ C.2.2.2.1) C.2.2.2.2.2.1 hP hD hS cn (kw_at hc hx) hcl.1 k0 hk (C.2.2.2.2.1 _ hw) (fun _ z => z) hfin hd hn hft (by rw [kw_fs, List.length_map, List.length_range]; exact (List.getElem?_eq_some_iff.mp hf).1) hdg (fun H1 locs1 hP1 hD1 hS1 => ?_)
  have hset := kw_set (E := E) (σ := σ) (σ' := kw_si σ cn k0 x) hc hx he (fun q hq => kw_si_o hq) (fun _ _ => rfl)
  have hP1 : va_P E.2.1 vwCl (kw_cells E τ N (kw_si σ cn k0 x)) H1 := hset ▸ hP1
  have hD1 : va_D (kw_A E N) (kw_cells E τ N (kw_si σ cn k0 x)) := hset ▸ hD1
  exact k p e R s m args below meth c H1 locs1 ls cells slots Q C hl hP1 hD1 hS1 kk
theorem kg_putl {ci : Nat} {C0 : String} {T : u_T} {Nf : Nat} (hcl : kw_CL ci C0 T Nf) {own : String} (ho : μ.1.cls = own) {i : Nat} (k0 : Nat) (hk : k0 < Nf) (hw : Cond.fieldLink own i (T k0).1 (T k0).2.1 (T k0).2.2.1 ∈ kw_all) (hfin : (T k0).2.2.2 = false) {cn : Nat} (hc : cn < N) {fs : List (Nat × Nat)} (hx : τ cn = .inr (ci, fs)) {z : Nat} (hf : fs[k0]? = some (1, z)) {x : Int64} {σ1 : kw_M} {ty : FieldType} (hd : parseFieldDescriptor (T k0).2.2.1 = some ty) (hn : narrow ty (.long x) = .long x) (hft : fits ty (.long x) = true) (hs : kw_sl σ cn k0 x = σ1) (hdg : decode μ.2.1 pc = .ok (.putfield i, 3)) {pc2 : Nat} (hp : pc + 3 = pc2) (k : kw_G E τ N d μ pc2 lv st σ1 v σ2) : kw_G E τ N d μ pc lv (.long x :: .ref cn :: st) σ v σ2 := by
  subst hp
  subst hs
  intro p e R s m args below meth c H locs ls cells slots Q C hl hP hD hS kk
  obtain ⟨ty0, hty⟩ := hcl.2.2.1
  have he : kw_e E (kw_sl σ cn k0 x) cn (.inr (ci, fs)) = .inr (ci, (kw_fs E.2.2.2 σ cn fs).set k0 (.long x)) := by
    show Sum.inr (ci, kw_fs E.2.2.2 (kw_sl σ cn k0 x) cn fs) = _
    rw [kw_fs_set (σ := σ) (σ' := kw_sl σ cn k0 x) hf (v := (.long x)) (by show Value.long ((kw_sl σ cn k0 x).2 cn k0) = _; rw [kw_sl_2]; simp [vp_updL]) (fun _ _ => rfl) (fun j hj => by rw [kw_sl_2]; simp [vp_updL, hj])]
  refine va_put C.1 C.2.1 (own := own) C.2.2.2.2.1 hcl.2.1 ty0 hty hcl.2.2.2 (ho ▸ C.2.2.2.1) C.2.2.2.2.2.1 hP hD hS cn (kw_at hc hx) hcl.1 k0 hk (C.2.2.2.2.1 _ hw) (fun _ z => z) hfin hd hn hft (by rw [kw_fs, List.length_map, List.length_range]; exact (List.getElem?_eq_some_iff.mp hf).1) hdg (fun H1 locs1 hP1 hD1 hS1 => ?_)
  have hset := kw_set (E := E) (σ := σ) (σ' := kw_sl σ cn k0 x) hc hx he (fun _ _ => rfl) (fun q hq => kw_sl_o hq)
  have hP1 : va_P E.2.1 vwCl (kw_cells E τ N (kw_sl σ cn k0 x)) H1 := hset ▸ hP1
  have hD1 : va_D (kw_A E N) (kw_cells E τ N (kw_sl σ cn k0 x)) := hset ▸ hD1
  exact k p e R s m args below meth c H1 locs1 ls cells slots Q C hl hP1 hD1 hS1 kk
theorem kg_iald {cn n : Nat} (hc : cn < N) (hx : τ cn = .inl (0, n)) {i : Int32} (hin : vp_in i n) {j : Nat} (hj : i.toNatClampNeg = j) (hdg : decode μ.2.1 pc = .ok (.iaload, 1)) {pc2 : Nat} (hp : pc + 1 = pc2) (k : kw_G E τ N d μ pc2 lv (.int (σ.1 cn j) :: st) σ v σ2) : kw_G E τ N d μ pc lv (.int i :: .ref cn :: st) σ v σ2 := by
  subst hp
  subst hj
  intro p e R s m args below meth c H locs ls cells slots Q C hl hP hD hS kk
  exact va_iald C.1 C.2.1 C.2.2.2.2.2.1 hP cn 0 (kw_at hc hx) rfl hin hdg (k p e R s m args below meth c H locs ls cells slots Q C hl hP hD hS kk)
theorem kg_iast {cn n : Nat} (hc : cn < N) (hx : τ cn = .inl (0, n)) {i : Int32} {x : Int32} {σ1 : kw_M} (hin : vp_in i n) {j : Nat} (hj : i.toNatClampNeg = j) (hs : kw_si σ cn j x = σ1) (hdg : decode μ.2.1 pc = .ok (.iastore, 1)) {pc2 : Nat} (hp : pc + 1 = pc2) (k : kw_G E τ N d μ pc2 lv st σ1 v σ2) : kw_G E τ N d μ pc lv (.int x :: .int i :: .ref cn :: st) σ v σ2 := by
  subst hp
  subst hj
  subst hs
  intro p e R s m args below meth c H locs ls cells slots Q C hl hP hD hS kk
  refine va_iast C.1 C.2.1 C.2.2.2.2.2.1 hP hD hS cn 0 (kw_at hc hx) rfl hin hdg (fun H1 locs1 hP1 hD1 hS1 => ?_)
  have he : kw_e E (kw_si σ cn i.toNatClampNeg x) cn (.inl (0, n)) = .inl (E.2.2.1 0, n, .inl (upd (σ.1 cn) i.toNatClampNeg x)) := by show Sum.inl (E.2.2.1 0, n, Sum.inl ((kw_si σ cn i.toNatClampNeg x).1 cn)) = _; rw [kw_si_1]
  have hset := kw_set (E := E) (σ := σ) (σ' := kw_si σ cn i.toNatClampNeg x) hc hx he (fun q hq => kw_si_o hq) (fun _ _ => rfl)
  have hP1 : va_P E.2.1 vwCl (kw_cells E τ N (kw_si σ cn i.toNatClampNeg x)) H1 := hset ▸ hP1
  have hD1 : va_D (kw_A E N) (kw_cells E τ N (kw_si σ cn i.toNatClampNeg x)) := hset ▸ hD1
  exact k p e R s m args below meth c H1 locs1 ls cells slots Q C hl hP1 hD1 hS1 kk
theorem kg_lald {cn n : Nat} (hc : cn < N) (hx : τ cn = .inl (1, n)) {i : Int32} (hin : vp_in i n) {j : Nat} (hj : i.toNatClampNeg = j) (hdg : decode μ.2.1 pc = .ok (.laload, 1)) {pc2 : Nat} (hp : pc + 1 = pc2) (k : kw_G E τ N d μ pc2 lv (.long (σ.2 cn j) :: st) σ v σ2) : kw_G E τ N d μ pc lv (.int i :: .ref cn :: st) σ v σ2 := by
  subst hp
  subst hj
  intro p e R s m args below meth c H locs ls cells slots Q C hl hP hD hS kk
  exact va_lald C.1 C.2.1 C.2.2.2.2.2.1 hP cn 1 (kw_at hc hx) rfl hin hdg (k p e R s m args below meth c H locs ls cells slots Q C hl hP hD hS kk)
theorem kg_last {cn n : Nat} (hc : cn < N) (hx : τ cn = .inl (1, n)) {i : Int32} {x : Int64} {σ1 : kw_M} (hin : vp_in i n) {j : Nat} (hj : i.toNatClampNeg = j) (hs : kw_sl σ cn j x = σ1) (hdg : decode μ.2.1 pc = .ok (.lastore, 1)) {pc2 : Nat} (hp : pc + 1 = pc2) (k : kw_G E τ N d μ pc2 lv st σ1 v σ2) : kw_G E τ N d μ pc lv (.long x :: .int i :: .ref cn :: st) σ v σ2 := by
  subst hp
  subst hj
  subst hs
  intro p e R s m args below meth c H locs ls cells slots Q C hl hP hD hS kk
  refine va_last C.1 C.2.1 C.2.2.2.2.2.1 hP hD hS cn 1 (kw_at hc hx) rfl hin hdg (fun H1 locs1 hP1 hD1 hS1 => ?_)
  have he : kw_e E (kw_sl σ cn i.toNatClampNeg x) cn (.inl (1, n)) = .inl (E.2.2.1 1, n, .inr (.inl (vp_updL (σ.2 cn) i.toNatClampNeg x))) := by show Sum.inl (E.2.2.1 1, n, Sum.inr (Sum.inl ((kw_sl σ cn i.toNatClampNeg x).2 cn))) = _; rw [kw_sl_2]
  have hset := kw_set (E := E) (σ := σ) (σ' := kw_sl σ cn i.toNatClampNeg x) hc hx he (fun _ _ => rfl) (fun q hq => kw_sl_o hq)
  have hP1 : va_P E.2.1 vwCl (kw_cells E τ N (kw_sl σ cn i.toNatClampNeg x)) H1 := hset ▸ hP1
  have hD1 : va_D (kw_A E N) (kw_cells E τ N (kw_sl σ cn i.toNatClampNeg x)) := hset ▸ hD1
  exact k p e R s m args below meth c H1 locs1 ls cells slots Q C hl hP1 hD1 hS1 kk
theorem kg_bald {cn n : Nat} (hc : cn < N) (hx : τ cn = .inl (2, n)) {i : Int32} (hin : vp_in i n) {j : Nat} (hj : i.toNatClampNeg = j) (hdg : decode μ.2.1 pc = .ok (.baload, 1)) {pc2 : Nat} (hp : pc + 1 = pc2) (k : kw_G E τ N d μ pc2 lv (.int (σ.1 cn j) :: st) σ v σ2) : kw_G E τ N d μ pc lv (.int i :: .ref cn :: st) σ v σ2 := by
  subst hp
  subst hj
  intro p e R s m args below meth c H locs ls cells slots Q C hl hP hD hS kk
  exact va_bald C.1 C.2.1 C.2.2.2.2.2.1 hP cn 2 (kw_at hc hx) rfl hin hdg (k p e R s m args below meth c H locs ls cells slots Q C hl hP hD hS kk)
theorem kg_bast {cn n : Nat} (hc : cn < N) (hx : τ cn = .inl (2, n)) {i : Int32} {x : Int32} {σ1 : kw_M} (hin : vp_in i n) {j : Nat} (hj : i.toNatClampNeg = j) (hs : kw_si σ cn j (vp_nar .byte x) = σ1) (hdg : decode μ.2.1 pc = .ok (.bastore, 1)) {pc2 : Nat} (hp : pc + 1 = pc2) (k : kw_G E τ N d μ pc2 lv st σ1 v σ2) : kw_G E τ N d μ pc lv (.int x :: .int i :: .ref cn :: st) σ v σ2 := by
  subst hp
  subst hj
  subst hs
  intro p e R s m args below meth c H locs ls cells slots Q C hl hP hD hS kk
  refine va_bast C.1 C.2.1 C.2.2.2.2.2.1 hP hD hS cn 2 (kw_at hc hx) rfl hin hdg (fun H1 locs1 hP1 hD1 hS1 => ?_)
  have he : kw_e E (kw_si σ cn i.toNatClampNeg (vp_nar .byte x)) cn (.inl (2, n)) = .inl (E.2.2.1 2, n, .inl (upd (σ.1 cn) i.toNatClampNeg (vp_nar .byte x))) := by show Sum.inl (E.2.2.1 2, n, Sum.inl ((kw_si σ cn i.toNatClampNeg (vp_nar .byte x)).1 cn)) = _; rw [kw_si_1]
  have hset := kw_set (E := E) (σ := σ) (σ' := kw_si σ cn i.toNatClampNeg (vp_nar .byte x)) hc hx he (fun q hq => kw_si_o hq) (fun _ _ => rfl)
  have hP1 : va_P E.2.1 vwCl (kw_cells E τ N (kw_si σ cn i.toNatClampNeg (vp_nar .byte x))) H1 := hset ▸ hP1
  have hD1 : va_D (kw_A E N) (kw_cells E τ N (kw_si σ cn i.toNatClampNeg (vp_nar .byte x))) := hset ▸ hD1
  exact k p e R s m args below meth c H1 locs1 ls cells slots Q C hl hP1 hD1 hS1 kk
theorem kg_zald {cn n : Nat} (hc : cn < N) (hx : τ cn = .inl (3, n)) {i : Int32} (hin : vp_in i n) {j : Nat} (hj : i.toNatClampNeg = j) (hdg : decode μ.2.1 pc = .ok (.baload, 1)) {pc2 : Nat} (hp : pc + 1 = pc2) (k : kw_G E τ N d μ pc2 lv (.int (σ.1 cn j) :: st) σ v σ2) : kw_G E τ N d μ pc lv (.int i :: .ref cn :: st) σ v σ2 := by
  subst hp
  subst hj
  intro p e R s m args below meth c H locs ls cells slots Q C hl hP hD hS kk
  exact va_zald C.1 C.2.1 C.2.2.2.2.2.1 hP cn 3 (kw_at hc hx) rfl hin hdg (k p e R s m args below meth c H locs ls cells slots Q C hl hP hD hS kk)
theorem kg_zast {cn n : Nat} (hc : cn < N) (hx : τ cn = .inl (3, n)) {i : Int32} {x : Int32} {σ1 : kw_M} (hin : vp_in i n) {j : Nat} (hj : i.toNatClampNeg = j) (hs : kw_si σ cn j (vp_nar .boolean x) = σ1) (hdg : decode μ.2.1 pc = .ok (.bastore, 1)) {pc2 : Nat} (hp : pc + 1 = pc2) (k : kw_G E τ N d μ pc2 lv st σ1 v σ2) : kw_G E τ N d μ pc lv (.int x :: .int i :: .ref cn :: st) σ v σ2 := by
  subst hp
  subst hj
  subst hs
  intro p e R s m args below meth c H locs ls cells slots Q C hl hP hD hS kk
  refine va_zast C.1 C.2.1 C.2.2.2.2.2.1 hP hD hS cn 3 (kw_at hc hx) rfl hin hdg (fun H1 locs1 hP1 hD1 hS1 => ?_)
  have he : kw_e E (kw_si σ cn i.toNatClampNeg (vp_nar .boolean x)) cn (.inl (3, n)) = .inl (E.2.2.1 3, n, .inl (upd (σ.1 cn) i.toNatClampNeg (vp_nar .boolean x))) := by show Sum.inl (E.2.2.1 3, n, Sum.inl ((kw_si σ cn i.toNatClampNeg (vp_nar .boolean x)).1 cn)) = _; rw [kw_si_1]
  have hset := kw_set (E := E) (σ := σ) (σ' := kw_si σ cn i.toNatClampNeg (vp_nar .boolean x)) hc hx he (fun q hq => kw_si_o hq) (fun _ _ => rfl)
  have hP1 : va_P E.2.1 vwCl (kw_cells E τ N (kw_si σ cn i.toNatClampNeg (vp_nar .boolean x))) H1 := hset ▸ hP1
  have hD1 : va_D (kw_A E N) (kw_cells E τ N (kw_si σ cn i.toNatClampNeg (vp_nar .boolean x))) := hset ▸ hD1
  exact k p e R s m args below meth c H1 locs1 ls cells slots Q C hl hP1 hD1 hS1 kk
theorem kg_alen {cn t n : Nat} (hc : cn < N) (hx : τ cn = .inl (t, n)) {ty : FieldType} (ht : ∀ aC : Nat → ClassId, (kw_tys aC)[t]? = some (aC t, ty)) {x : Int32} (hn : Int32.ofNat n = x) (hdg : decode μ.2.1 pc = .ok (.arraylength, 1)) {pc2 : Nat} (hp : pc + 1 = pc2) (k : kw_G E τ N d μ pc2 lv (.int x :: st) σ v σ2) : kw_G E τ N d μ pc lv (.ref cn :: st) σ v σ2 := by
  subst hp
  intro p e R s m args below meth c H locs ls cells slots Q C hl hP hD hS kk
  exact va_alen C.1 C.2.1 C.2.2.2.2.2.1 hP cn t (kw_at hc hx) (ht _) hn hdg (k p e R s m args below meth c H locs ls cells slots Q C hl hP hD hS kk)
end KG
