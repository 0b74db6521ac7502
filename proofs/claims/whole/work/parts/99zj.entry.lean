/-! What holds at the law's entry: classes, array classes, text constants, statics. -/
theorem kz_ac {args : Array Value} {s : State} {ty : FieldType} (h : (Cond.arrayClass ty).before args s = true) : ∃ (c : ClassId) (k : Class) (comp : ClassId), s.vm.findClass ("[" ++ ty.toString) = some c ∧ s.vm.classes[c]? = some k ∧ k.kind = .array comp ty := by
  simp only [Cond.before, Cond.holds, Cond.value] at h
  cases hc : s.vm.findClass ("[" ++ ty.toString) with
  | none => simp [hc] at h
  | some c =>
    cases hk : s.vm.classes[c]? with
    | none => simp [hc, hk] at h
    | some k =>
      simp [hc, hk] at h
      cases hkind : k.kind with
      | array comp t =>
        rw [hkind] at h
        simp at h
        exact ⟨c, k, comp, rfl, hk, by rw [hkind, h]⟩
      | _ => rw [hkind] at h; simp at h
theorem kz_at {args : Array Value} {s : State} {ty : FieldType} (h : (Cond.arrayClass ty).before args s = true) : ∃ c : ClassId, ArrOfT s c ty ∧ s.vm.findClass ("[" ++ ty.toString) = some c := by
  obtain ⟨c, k, comp, h1, h2, h3⟩ := kz_ac h
  exact ⟨c, fun n z => ⟨fun k h => (by cases h), k, h2, comp, h3⟩, h1⟩
theorem kz_all {args : Array Value} {s : State} (hts : ∀ w ∈ lw_tbl, w.before args s = true) : ∀ w ∈ kw_all, w.before args s = true := fun w hw => hts w (List.mem_filter.mp hw).1
theorem kz_nt {args : Array Value} {s : State} (hts : ∀ w ∈ lw_tbl, w.before args s = true) : kw_Nt s := by
  intro w hw
  have h1 := hts w (List.mem_filter.mp hw).1
  have h2 := (List.mem_filter.mp hw).2
  cases w <;> first | exact va_Nw.of rfl h1 | (simp [kw_isNest] at h2)
theorem kz_K {args : Array Value} {s : State} (hts : ∀ w ∈ kw_all, w.before args s = true) : ∃ (D : va_G) (aC : Nat → ClassId), va_K D vwCl (kw_tys aC) s := by
  obtain ⟨c0, i0, h0⟩ := u_known (C := RX0) (T := TX0) (N := 2) (n := 2) hts clX0.2.1 (hts _ wiRX0)
  obtain ⟨c1, i1, h1⟩ := u_known (C := RX1) (T := TX1) (N := 5) (n := 5) hts clX1.2.1 (hts _ wiRX1)
  obtain ⟨c2, i2, h2⟩ := u_known (C := RX2) (T := TX2) (N := 4) (n := 4) hts clX2.2.1 (hts _ wiRX2)
  obtain ⟨c3, i3, h3⟩ := u_known (C := RX3) (T := TX3) (N := 9) (n := 9) hts clX3.2.1 (hts _ wiRX3)
  obtain ⟨c4, i4, h4⟩ := u_known (C := RX4) (T := TX4) (N := 6) (n := 6) hts clX4.2.1 (hts _ wiRX4)
  obtain ⟨c5, i5, h5⟩ := u_known (C := RX5) (T := TX5) (N := 6) (n := 6) hts clX5.2.1 (hts _ wiRX5)
  obtain ⟨c6, i6, h6⟩ := u_known (C := RX6) (T := TX6) (N := 6) (n := 6) hts clX6.2.1 (hts _ wiRX6)
  obtain ⟨c7, i7, h7⟩ := u_known (C := RX7) (T := TX7) (N := 11) (n := 11) hts clX7.2.1 (hts _ wiRX7)
  obtain ⟨c8, i8, h8⟩ := u_known (C := RX8) (T := TX8) (N := 2) (n := 2) hts clX8.2.1 (hts _ wiRX8)
  obtain ⟨c9, i9, h9⟩ := u_known (C := RX9) (T := TX9) (N := 12) (n := 12) hts clX9.2.1 (hts _ wiRX9)
  obtain ⟨c10, i10, h10⟩ := u_known (C := RX10) (T := TX10) (N := 32) (n := 32) hts clX10.2.1 (hts _ wiRX10)
  obtain ⟨a0, r0, f0⟩ := kz_at (ty := .int) (hts _ wa_int)
  obtain ⟨a1, r1, f1⟩ := kz_at (ty := .long) (hts _ wa_long)
  obtain ⟨a2, r2, f2⟩ := kz_at (ty := .byte) (hts _ wa_byte)
  obtain ⟨a3, r3, f3⟩ := kz_at (ty := .boolean) (hts _ wa_boolean)
  refine ⟨(fun k => match k with | 0 => c0 | 1 => c1 | 2 => c2 | 3 => c3 | 4 => c4 | 5 => c5 | 6 => c6 | 7 => c7 | 8 => c8 | 9 => c9 | _ => c10, fun k => match k with | 0 => i0 | 1 => i1 | 2 => i2 | 3 => i3 | 4 => i4 | 5 => i5 | 6 => i6 | 7 => i7 | 8 => i8 | 9 => i9 | _ => i10), fun k => match k with | 0 => a0 | 1 => a1 | 2 => a2 | _ => a3, ?_, ?_⟩
  · intro k q hq
    match k, hq with
    | 0, hq => cases hq; exact h0
    | 1, hq => cases hq; exact h1
    | 2, hq => cases hq; exact h2
    | 3, hq => cases hq; exact h3
    | 4, hq => cases hq; exact h4
    | 5, hq => cases hq; exact h5
    | 6, hq => cases hq; exact h6
    | 7, hq => cases hq; exact h7
    | 8, hq => cases hq; exact h8
    | 9, hq => cases hq; exact h9
    | 10, hq => cases hq; exact h10
    | k + 11, hq => simp [vwCl] at hq
  · intro k q hq
    match k, hq with
    | 0, hq => cases hq; exact ⟨r0, f0⟩
    | 1, hq => cases hq; exact ⟨r1, f1⟩
    | 2, hq => cases hq; exact ⟨r2, f2⟩
    | 3, hq => cases hq; exact ⟨r3, f3⟩
    | k + 4, hq => simp [kw_tys] at hq

def kz_tm (i : Nat) : Term := .string "KeptWays$Reader" ([79, 84, 89, 91, 92, 94, 96, 98, 100, 102, 104, 106, 108, 110, 112].getD i 0)
def kz_gv : List Cond := flatC (Jvm.Cond.and given_1 narrow_1)
set_option maxRecDepth 100000 in
theorem kz_m1 : ∀ i, i < 15 → Cond.exactly (kz_tm i) "java/lang/String" ∈ kz_gv := by decide +kernel
set_option maxRecDepth 100000 in
theorem kz_m2 : ∀ i, i < 15 → Cond.eq (.field (kz_tm i) "java/lang/String" "coder" "B") (.int 0) ∈ kz_gv := by decide +kernel
set_option maxRecDepth 100000 in
theorem kz_m3 : ∀ i, i < 15 → Cond.arrayOf (.field (kz_tm i) "java/lang/String" "value" "[B") .byte ∈ kz_gv := by decide +kernel
set_option maxRecDepth 100000 in
theorem kz_m4 : ∀ i, i < 15 → Cond.eq (.length (.field (kz_tm i) "java/lang/String" "value" "[B")) (.int (Int32.ofNat (kw_slen.getD i 0))) ∈ kz_gv := by decide +kernel
set_option maxRecDepth 100000 in
theorem kz_m5 : ∀ i, i < 15 → ∀ j, j < kw_slen.getD i 0 → Cond.eq (.elem (.field (kz_tm i) "java/lang/String" "value" "[B") (.int (Int32.ofNat j))) (.int ((kw_sbyt.getD i []).getD j 0)) ∈ kz_gv := by decide +kernel
set_option maxRecDepth 100000 in
theorem kz_m6 : ∀ j, j < 15 → ∀ i, i < j → Cond.not (Cond.eq (kz_tm i) (kz_tm j)) ∈ kz_gv := by decide +kernel
theorem kz_m7 : Cond.eq (.static "java/lang/String" "COMPACT_STRINGS" "Z") (.int 1) ∈ kz_gv := by decide +kernel
theorem kz_m8 : Cond.isRef (.static "jdk/internal/util/Preconditions" "SIOOBE_FORMATTER" "Ljava/util/function/BiFunction;") ∈ kz_gv := by decide +kernel
theorem kz_l7 : Cond.laysStatic "java/lang/String" "COMPACT_STRINGS" "Z" ∈ lw_tbl := List.mem_of_getElem? (i := 528) (by decide +kernel)
theorem kz_l8 : Cond.laysStatic "jdk/internal/util/Preconditions" "SIOOBE_FORMATTER" "Ljava/util/function/BiFunction;" ∈ lw_tbl := List.mem_of_getElem? (i := 544) (by decide +kernel)
theorem kz_n7 : Cond.initialized "java/lang/String" ∈ lw_tbl := List.mem_of_getElem? (i := 123) (by decide +kernel)
theorem kz_n8 : Cond.initialized "jdk/internal/util/Preconditions" ∈ lw_tbl := List.mem_of_getElem? (i := 125) (by decide +kernel)
theorem kz_sr {j : Nat} {q : String × Nat × String} (h : kw_strs[j]? = some q) : Cond.stringRef q.1 q.2.1 q.2.2 ∈ lw_tbl ∧ kz_tm j = .string q.1 q.2.1 ∧ j < 15 := by
  match j, h with
  | 0, h => cases h; exact ⟨List.mem_of_getElem? (i := 514) (by decide +kernel), rfl, by decide⟩
  | 1, h => cases h; exact ⟨List.mem_of_getElem? (i := 567) (by decide +kernel), rfl, by decide⟩
  | 2, h => cases h; exact ⟨List.mem_of_getElem? (i := 575) (by decide +kernel), rfl, by decide⟩
  | 3, h => cases h; exact ⟨List.mem_of_getElem? (i := 576) (by decide +kernel), rfl, by decide⟩
  | 4, h => cases h; exact ⟨List.mem_of_getElem? (i := 577) (by decide +kernel), rfl, by decide⟩
  | 5, h => cases h; exact ⟨List.mem_of_getElem? (i := 578) (by decide +kernel), rfl, by decide⟩
  | 6, h => cases h; exact ⟨List.mem_of_getElem? (i := 579) (by decide +kernel), rfl, by decide⟩
  | 7, h => cases h; exact ⟨List.mem_of_getElem? (i := 580) (by decide +kernel), rfl, by decide⟩
  | 8, h => cases h; exact ⟨List.mem_of_getElem? (i := 581) (by decide +kernel), rfl, by decide⟩
  | 9, h => cases h; exact ⟨List.mem_of_getElem? (i := 589) (by decide +kernel), rfl, by decide⟩
  | 10, h => cases h; exact ⟨List.mem_of_getElem? (i := 590) (by decide +kernel), rfl, by decide⟩
  | 11, h => cases h; exact ⟨List.mem_of_getElem? (i := 591) (by decide +kernel), rfl, by decide⟩
  | 12, h => cases h; exact ⟨List.mem_of_getElem? (i := 592) (by decide +kernel), rfl, by decide⟩
  | 13, h => cases h; exact ⟨List.mem_of_getElem? (i := 593) (by decide +kernel), rfl, by decide⟩
  | 14, h => cases h; exact ⟨List.mem_of_getElem? (i := 594) (by decide +kernel), rfl, by decide⟩
  | j + 15, h => simp [kw_strs] at h

/-- the text constants and the statics, as the law finds them -/
theorem kz_St {args : Array Value} {s : State} (l : Launch) (D : va_G) (aC : Nat → ClassId) (hts : ∀ w ∈ lw_tbl, w.before args s = true) (hgv : (Jvm.Cond.and given_1 narrow_1).before args s = true) : ∃ ad : Nat → Nat, kl_St (l, D, aC, ad) (fun q => s.heap.size ≤ q) s := by
  have hs : ∀ c ∈ kz_gv, c.before args s = true := flat_of_before _ hgv
  have hA : ∀ a : Nat, a < s.heap.size → ¬ (fun q : Nat => s.heap.size ≤ q) a := fun a h => Nat.not_le.mpr h
  obtain ⟨adK, adV, hV, hE⟩ := vk_Sof (args := args) (s := s) (N := 15) (tm := kz_tm) (len := kw_slen) (byt := kw_sbyt) (A := fun q : Nat => s.heap.size ≤ q) (by decide +kernel) (fun i h => hs _ (kz_m1 i h)) (fun i h => hs _ (kz_m2 i h)) (fun i h => hs _ (kz_m3 i h)) (fun i h => hs _ (kz_m4 i h)) (fun i h j hj => hs _ (kz_m5 i h j hj)) (fun i j hi hj hn => by
    by_cases hlt : i < j
    · exact Or.inl (hs _ (kz_m6 j hj i hlt))
    · exact Or.inr (hs _ (kz_m6 i hi j (by omega)))) hA
  refine ⟨fun n => if n < 200 then adK (n - 100) else adV (n - 200), ?_⟩
  have e1 : ∀ i, i < 15 → (if 100 + i < 200 then adK (100 + i - 100) else adV (100 + i - 200)) = adK i := fun i hi => by rw [if_pos (by omega), show 100 + i - 100 = i by omega]
  have e2 : ∀ i, i < 15 → (if 200 + i < 200 then adK (200 + i - 100) else adV (200 + i - 200)) = adV i := fun i hi => by rw [if_neg (by omega), show 200 + i - 200 = i by omega]
  refine ⟨⟨fun i hi => ?_, fun i j hi hj h => ?_⟩, fun j q hq => ?_, va_Zof (hts _ kz_l7) (hts _ kz_n7) (va_eqt (hs _ kz_m7)) hA, ?_⟩
  · have h := hV.1 i hi
    rw [← e1 i hi, ← e2 i hi] at h
    exact h
  · refine hV.2 i j hi hj ?_
    rw [← e1 i hi, ← e1 j hj]
    exact h
  · obtain ⟨h1, h2, h3⟩ := kz_sr hq
    refine vk_R.of (hts _ h1) ?_
    rw [← h2, hE j h3]
    exact congrArg (fun a => some (Value.ref a)) (e1 j h3).symm
  · rcases va_Zqof (hts _ kz_l8) (hts _ kz_n8) (hs _ kz_m8) hA with h | ⟨t, h⟩
    · exact ⟨.null, Or.inl rfl, h⟩
    · exact ⟨.ref t, Or.inr ⟨t, rfl⟩, h⟩
theorem kl_St_up {E : kw_E} {N : Nat} {l : List Nat} {A : Nat → Prop} {U : State} (hN : N ≤ 100) (h : kl_St E A U) : kl_St (kc_E E N l) A U := by
  obtain ⟨h1, h2, h3, h4⟩ := h
  unfold kl_St
  rw [show (fun j => (kc_E E N l).2.2.2 (100 + j)) = (fun j => E.2.2.2 (100 + j)) from funext fun j => kc_E_up (by omega), show (fun j => (kc_E E N l).2.2.2 (200 + j)) = (fun j => E.2.2.2 (200 + j)) from funext fun j => kc_E_up (by omega)]
  exact ⟨h1, fun j q hq => by rw [kc_E_up (by omega)]; exact h2 j q hq, h3, h4⟩
theorem kz_app (wX : va_W) (x : Nat × va_E) {n : Nat} (hn : wX.length = n) : (List.range n).map (fun i => (wX ++ [x])[i]?) = wX.map some := by
  subst hn
  apply List.ext_getElem?
  intro i
  by_cases h : i < wX.length
  · simp [h, List.getElem?_append_left h]
  · simp [h]
