/-! The flat machine: Math, lushr. -/
def kw_MM (own : String) (i : Nat) (y : MethodName) (bytes : ByteArray) (n : Nat) (ty : FieldType) : Prop := Cond.methodLink own i y ∈ kw_all ∧ Cond.static y ∈ kw_all ∧ Cond.initialized "java/lang/Math" ∈ kw_all ∧ Cond.code y bytes n (some ty) ∈ kw_all
section KG
variable {E : kw_E} {τ : Nat → kw_C} {N d : Nat} {μ : kw_Mt} {pc : Nat} {lv : List (Nat × Value)} {st : List Value} {σ : kw_M} {v : Option Value} {σ2 : kw_M}
theorem kg_mmax_long {d2 : Nat} (hd2 : d + 1 = d2) {own : String} (ho : μ.1.cls = own) {i : Nat} (hw : kw_MM own i Lib.MathLoose.max_long.x Lib.MathLoose.max_long.code 4 .long) (hcat : (st.map fun v => v.category).sum ≤ 8) {x y z : Int64} (hz : (if y < x then x else y) = z) (hdg : decode μ.2.1 pc = .ok (.invokestatic i, 3)) {pc2 : Nat} (hp : pc + 3 = pc2) (k : kw_G E τ N d2 μ pc2 lv (.long z :: st) σ v σ2) : kw_G E τ N d2 μ pc lv (.long y :: .long x :: st) σ v σ2 := by
  subst hd2
  subst hp
  subst hz
  intro p e R s m args below meth c H locs ls cells slots Q C hl hP hD hS kk
  have hts := C.2.2.2.2.1
  have h2 : 64 * (d + 1) ≤ R.locals := C.2.2.2.2.2.2.2.1
  have h3 : ((st.map (kw_tr E.2.2.2)).map fun v => v.category).sum ≤ 8 := by rw [kw_cats]; exact hcat
  exact va_mmax_long C.1 C.2.1 (C.2.2.1.trans hl.1.symm) (own := own) (ho ▸ C.2.2.2.1) (hts _ hw.1) (hts _ hw.2.1) (hts _ hw.2.2.1) (hts _ hw.2.2.2) (Nat.le_trans (Nat.le_add_left 1 d) C.2.2.2.2.2.2.1) (by omega) C.2.2.2.2.2.2.2.2.1 C.2.2.2.2.2.2.2.2.2.1 hdg (k p e R s m args below meth c H locs ls cells slots Q C hl hP hD hS kk)
theorem kg_mmin_long {d2 : Nat} (hd2 : d + 1 = d2) {own : String} (ho : μ.1.cls = own) {i : Nat} (hw : kw_MM own i Lib.MathLoose.min_long.x Lib.MathLoose.min_long.code 4 .long) (hcat : (st.map fun v => v.category).sum ≤ 8) {x y z : Int64} (hz : (if y < x then y else x) = z) (hdg : decode μ.2.1 pc = .ok (.invokestatic i, 3)) {pc2 : Nat} (hp : pc + 3 = pc2) (k : kw_G E τ N d2 μ pc2 lv (.long z :: st) σ v σ2) : kw_G E τ N d2 μ pc lv (.long y :: .long x :: st) σ v σ2 := by
  subst hd2
  subst hp
  subst hz
  intro p e R s m args below meth c H locs ls cells slots Q C hl hP hD hS kk
  have hts := C.2.2.2.2.1
  have h2 : 64 * (d + 1) ≤ R.locals := C.2.2.2.2.2.2.2.1
  have h3 : ((st.map (kw_tr E.2.2.2)).map fun v => v.category).sum ≤ 8 := by rw [kw_cats]; exact hcat
  exact va_mmin_long C.1 C.2.1 (C.2.2.1.trans hl.1.symm) (own := own) (ho ▸ C.2.2.2.1) (hts _ hw.1) (hts _ hw.2.1) (hts _ hw.2.2.1) (hts _ hw.2.2.2) (Nat.le_trans (Nat.le_add_left 1 d) C.2.2.2.2.2.2.1) (by omega) C.2.2.2.2.2.2.2.2.1 C.2.2.2.2.2.2.2.2.2.1 hdg (k p e R s m args below meth c H locs ls cells slots Q C hl hP hD hS kk)
theorem kg_mabs_long {d2 : Nat} (hd2 : d + 1 = d2) {own : String} (ho : μ.1.cls = own) {i : Nat} (hw : kw_MM own i Lib.MathLoose.abs_long.x Lib.MathLoose.abs_long.code 2 .long) (hcat : (st.map fun v => v.category).sum ≤ 8) {x z : Int64} (hz : (if 0 < x then x else -x) = z) (hdg : decode μ.2.1 pc = .ok (.invokestatic i, 3)) {pc2 : Nat} (hp : pc + 3 = pc2) (k : kw_G E τ N d2 μ pc2 lv (.long z :: st) σ v σ2) : kw_G E τ N d2 μ pc lv (.long x :: st) σ v σ2 := by
  subst hd2
  subst hp
  subst hz
  intro p e R s m args below meth c H locs ls cells slots Q C hl hP hD hS kk
  have hts := C.2.2.2.2.1
  have h2 : 64 * (d + 1) ≤ R.locals := C.2.2.2.2.2.2.2.1
  have h3 : ((st.map (kw_tr E.2.2.2)).map fun v => v.category).sum ≤ 8 := by rw [kw_cats]; exact hcat
  exact va_mabs_long C.1 C.2.1 (C.2.2.1.trans hl.1.symm) (own := own) (ho ▸ C.2.2.2.1) (hts _ hw.1) (hts _ hw.2.1) (hts _ hw.2.2.1) (hts _ hw.2.2.2) (Nat.le_trans (Nat.le_add_left 1 d) C.2.2.2.2.2.2.1) (by omega) C.2.2.2.2.2.2.2.2.1 C.2.2.2.2.2.2.2.2.2.1 hdg (k p e R s m args below meth c H locs ls cells slots Q C hl hP hD hS kk)
theorem kg_mmax {d2 : Nat} (hd2 : d + 1 = d2) {own : String} (ho : μ.1.cls = own) {i : Nat} (hw : kw_MM own i Lib.Math.max.name Lib.Math.max.code 2 .int) (hcat : (st.map fun v => v.category).sum ≤ 8) {x y z : Int32} (hz : (if x < y then y else x) = z) (hdg : decode μ.2.1 pc = .ok (.invokestatic i, 3)) {pc2 : Nat} (hp : pc + 3 = pc2) (k : kw_G E τ N d2 μ pc2 lv (.int z :: st) σ v σ2) : kw_G E τ N d2 μ pc lv (.int y :: .int x :: st) σ v σ2 := by
  subst hd2
  subst hp
  subst hz
  intro p e R s m args below meth c H locs ls cells slots Q C hl hP hD hS kk
  have hts := C.2.2.2.2.1
  have h2 : 64 * (d + 1) ≤ R.locals := C.2.2.2.2.2.2.2.1
  have h3 : ((st.map (kw_tr E.2.2.2)).map fun v => v.category).sum ≤ 8 := by rw [kw_cats]; exact hcat
  exact va_mmax C.1 C.2.1 (C.2.2.1.trans hl.1.symm) (own := own) (ho ▸ C.2.2.2.1) (hts _ hw.1) (hts _ hw.2.1) (hts _ hw.2.2.1) (hts _ hw.2.2.2) (Nat.le_trans (Nat.le_add_left 1 d) C.2.2.2.2.2.2.1) (by omega) C.2.2.2.2.2.2.2.2.1 C.2.2.2.2.2.2.2.2.2.1 hdg (k p e R s m args below meth c H locs ls cells slots Q C hl hP hD hS kk)
theorem kg_mmin {d2 : Nat} (hd2 : d + 1 = d2) {own : String} (ho : μ.1.cls = own) {i : Nat} (hw : kw_MM own i Lib.Math.min.name Lib.Math.min.code 2 .int) (hcat : (st.map fun v => v.category).sum ≤ 8) {x y z : Int32} (hz : (if y < x then y else x) = z) (hdg : decode μ.2.1 pc = .ok (.invokestatic i, 3)) {pc2 : Nat} (hp : pc + 3 = pc2) (k : kw_G E τ N d2 μ pc2 lv (.int z :: st) σ v σ2) : kw_G E τ N d2 μ pc lv (.int y :: .int x :: st) σ v σ2 := by
  subst hd2
  subst hp
  subst hz
  intro p e R s m args below meth c H locs ls cells slots Q C hl hP hD hS kk
  have hts := C.2.2.2.2.1
  have h2 : 64 * (d + 1) ≤ R.locals := C.2.2.2.2.2.2.2.1
  have h3 : ((st.map (kw_tr E.2.2.2)).map fun v => v.category).sum ≤ 8 := by rw [kw_cats]; exact hcat
  exact va_mmin C.1 C.2.1 (C.2.2.1.trans hl.1.symm) (own := own) (ho ▸ C.2.2.2.1) (hts _ hw.1) (hts _ hw.2.1) (hts _ hw.2.2.1) (hts _ hw.2.2.2) (Nat.le_trans (Nat.le_add_left 1 d) C.2.2.2.2.2.2.1) (by omega) C.2.2.2.2.2.2.2.2.1 C.2.2.2.2.2.2.2.2.2.1 hdg (k p e R s m args below meth c H locs ls cells slots Q C hl hP hD hS kk)
theorem kg_lushr {x z : Int64} {y : Int32} (hdg : decode μ.2.1 pc = .ok (.lushr, 1)) (hz : (x.toUInt64 >>> (y.toInt64.toUInt64 &&& Int64.toUInt64 63)).toInt64 = z) {pc2 : Nat} (hp : pc + 1 = pc2) (k : kw_G E τ N d μ pc2 lv (.long z :: st) σ v σ2) : kw_G E τ N d μ pc lv (.int y :: .long x :: st) σ v σ2 := by
  subst hp
  intro p e R s m args below meth c H locs ls cells slots Q C hl hP hD hS kk
  exact lv_lushr C.1 C.2.1 hdg hz (k p e R s m args below meth c H locs ls cells slots Q C hl hP hD hS kk)
end KG
