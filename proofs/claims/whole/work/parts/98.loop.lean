/-! THE CLAIM OUT OF ONE WALK OF THE LAW'S BODY. Your part is whole_start (and what it stands on); all else here is the same for every law, but numbers. -/
def R_law : String := "KeptWaysLaw"
def lw_P (b : Addr) (xs : List Int32) (args : Array Value) (s : State) : Prop := args = #[.ref b] ∧ s.IntsAt b xs ∧ xs.length ≤ 3072 ∧ (Jvm.Cond.and given_1 narrow_1).before args s = true
def lw_Q (_ : Array Value) (s : State) (o : Outcome) (t : State) : Prop := o = .returned (some (.int 1)) ∧ Framed s o t [] 600000 7302250
def lw_Z (below : List Frame) (a : Array Value) (s : State) : State → Prop := fun t => ∃ o, t.status = .running ∧ Ended t below o ∧ lw_Q a s o t
/-- the law's own end, with 1 on the stack, nothing written that was there before, its room as the claim has it -/
theorem lw_ret {p : Program} {l : Launch} {e : Env} {s : State} {m : MethodId} {below : List Frame} {meth : Method} {c : Code} {b : Nat} (hx : p.tables.exec = Jvm.exec) (hb : c.code = code) (hr : meth.sig.returnType = ret) (hlocks : meth.locks = false) {pc : Nat} {H : Heap} {ls : Array Slot} (hdg : decode code pc = .ok (.ireturn, 1)) : W p l e room_1 s m #[Value.ref b] below meth c H [] 600000 7302250 (lw_Z below #[Value.ref b] s) (F0 m pc ls [.int 1]) := by
  intro T hT X
  obtain ⟨fs, hret, hrun, hended, hW, hframe⟩ := X.leave (v := some (.int 1)) (hlocks := hlocks) (fun h => by rw [hr] at h; cases h)
  have hmeth' : T.vm.method? m = some meth := X.method'
  refine ⟨T.setFrames fs, ?_, .returned (some (.int 1)), hrun, hended, rfl, ⟨_, rfl⟩, hW, hframe⟩
  jvm_step X.here [X.here.top, hx, hb, hdg, hmeth', hr, ret, narrow_b1]
  (try refine ⟨rfl, ?_⟩); (try refine ⟨rfl, ?_⟩)
  first | (intro acts; rw [hret _ acts rfl rfl rfl]) | rw [hret _ _ rfl rfl rfl]
  exact Steps.refl _
/-- what holds at the law's entry: the machine, the code, the tables' words (any of lw_tbl by 'hts w (by decide +kernel)'), the script of L ints xs at the cell b, what the Statement gives of the start (any of its parts by flat_of_before) -/
def lw_At (p : Program) (s : State) (m : MethodId) (meth : Method) (c : Code) (b L : Nat) (xs : Nat → Int32) : Prop :=
  p.tables.exec = Jvm.exec ∧ c.code = code ∧ meth.sig.returnType = ret ∧ c.maxLocals = 4 ∧ s.vm.findClass R_law = some m.cls ∧ (∀ w ∈ lw_tbl, w.before #[Value.ref b] s = true) ∧ va_X b L xs s s.heap ∧ b < s.heap.size ∧ meth.locks = false ∧ (Jvm.Cond.and given_1 narrow_1).before #[Value.ref b] s = true

/-- the law's loop: from alike states it comes to its end with true -/
theorem kl_loop {E E' : kw_E} {p : Program} {e : Env} {s : State} {m : MethodId} {below : List Frame} {meth : Method} {c : Code} {b L : Nat} {xs : Nat → Int32} {cells slots : Nat} {Rel : kw_M → kw_M → Prop} (ok : kl_ok Rel) (hL : L ≤ 3072) (hnew : ∀ q, kl_A E E' q → s.heap.size ≤ q) (C : kl_Cx E E' p s m meth c b L xs cells slots) : ∀ (n k : Nat) (σX σM : kw_M) (H : Heap) (locs : List Loc) (ls : Array Slot), L < 6 * k + 6 * n → 6 * k ≤ 3078 → Rel σX σM → kl_S E E' s σX σM H locs → lv_has ls 4 [(3, .int (nI (6 * k))), (2, .ref (E'.2.2.2 0)), (1, .ref (E.2.2.2 0)), (0, .ref b)] → W p E.1 e room_1 s m #[Value.ref b] below meth c H locs cells slots (lw_Z below #[Value.ref b] s) (F0 m 18 ls []) := by
  intro n
  induction n with
  | zero =>
    intro k σX σM H locs ls hn hk hR hS hl
    have hX0 := C.2.2.2.2.2.2.2.2.2.1
    refine lv_iload_n C.1 C.2.1 dL_law_18 rfl (lv_at hl 0 rfl) ?_
    refine lv_aload_n C.1 C.2.1 dL_law_19 rfl (lv_at hl 3 rfl) ?_
    refine va_slen C.1 C.2.1 hX0.1 hX0.2.1 hX0.2.2 hS.2.2 dL_law_20 ?_
    refine lv_bipush (v := 6) C.1 C.2.1 dL_law_21 (by decide) ?_
    refine lv_isub C.1 C.2.1 dL_law_23 ?_
    have h6 : (6 : Int32).toInt = 6 := by decide
    have hLi : (Int32.ofNat L).toInt = (L : Int) := nI_toInt (by omega)
    have hki : (nI (6 * k)).toInt = ((6 * k : Nat) : Int) := nI_toInt (by omega)
    have hsub : (Int32.ofNat L - 6).toInt = (L : Int) - 6 := by rw [Jvm.Kit.i32_sub (by rw [hLi, h6]; omega) (by rw [hLi, h6]; omega), hLi, h6]
    refine lv_icmp_gt (tgt := 1179) C.1 C.2.1 dL_law_24 rfl (fun q => ?_) (fun q => ?_)
    · refine va_forget (fun q hq => hnew _ (hS.2.2.2.2 q hq)) ?_
      refine lv_iconst (v := 1) C.1 C.2.1 dL_law_1179 (by decide) ?_
      refine W.widen (k := 600000) (n := 7302250) C.2.2.2.2.2.2.1.1 C.2.2.2.2.2.2.1.2 ?_
      exact lw_ret C.1 C.2.1 C.2.2.2.2.2.2.2.2.2.2.2.1 C.2.2.2.2.2.2.2.2.2.2.2.2 dL_law_1180
    · exact absurd (Int32.lt_iff_toInt_lt.mpr (by rw [hsub, hki]; omega)) q
  | succ n ih =>
    intro k σX σM H locs ls hn hk hR hS hl
    have hX0 := C.2.2.2.2.2.2.2.2.2.1
    refine lv_iload_n C.1 C.2.1 dL_law_18 rfl (lv_at hl 0 rfl) ?_
    refine lv_aload_n C.1 C.2.1 dL_law_19 rfl (lv_at hl 3 rfl) ?_
    refine va_slen C.1 C.2.1 hX0.1 hX0.2.1 hX0.2.2 hS.2.2 dL_law_20 ?_
    refine lv_bipush (v := 6) C.1 C.2.1 dL_law_21 (by decide) ?_
    refine lv_isub C.1 C.2.1 dL_law_23 ?_
    have h6 : (6 : Int32).toInt = 6 := by decide
    have hLi : (Int32.ofNat L).toInt = (L : Int) := nI_toInt (by omega)
    have hki : (nI (6 * k)).toInt = ((6 * k : Nat) : Int) := nI_toInt (by omega)
    have hsub : (Int32.ofNat L - 6).toInt = (L : Int) - 6 := by rw [Jvm.Kit.i32_sub (by rw [hLi, h6]; omega) (by rw [hLi, h6]; omega), hLi, h6]
    refine lv_icmp_gt (tgt := 1179) C.1 C.2.1 dL_law_24 rfl (fun q => ?_) (fun q => ?_)
    · refine va_forget (fun q hq => hnew _ (hS.2.2.2.2 q hq)) ?_
      refine lv_iconst (v := 1) C.1 C.2.1 dL_law_1179 (by decide) ?_
      refine W.widen (k := 600000) (n := 7302250) C.2.2.2.2.2.2.1.1 C.2.2.2.2.2.2.1.2 ?_
      exact lw_ret C.1 C.2.1 C.2.2.2.2.2.2.2.2.2.2.2.1 C.2.2.2.2.2.2.2.2.2.2.2.2 dL_law_1180
    · have hle : 6 * k + 6 ≤ L := by
        have h1 := Int32.not_lt.mp q
        have h2 := Int32.le_iff_toInt_le.mp h1
        rw [hsub, hki] at h2
        omega
      have hin : ∀ j, j < 6 → vp_in (nI (6 * k + j)) L := fun j hj => vp_in_nI (by omega) (by omega)
      have e1 : ∀ j : Nat, nI (6 * k) + nI j = nI (6 * k + j) := fun j => nI_add _ _
      refine kl_step ok C hl hS hR (hin 0 (by omega)) (by rw [show (1 : Int32) = nI 1 from rfl, e1]; exact hin 1 (by omega)) (by rw [show (2 : Int32) = nI 2 from rfl, e1]; exact hin 2 (by omega)) (by rw [show (3 : Int32) = nI 3 from rfl, e1]; exact hin 3 (by omega)) (by rw [show (4 : Int32) = nI 4 from rfl, e1]; exact hin 4 (by omega)) (by rw [show (5 : Int32) = nI 5 from rfl, e1]; exact hin 5 (by omega)) (fun σX1 σM1 H1 locs1 hR1 hS1 => ?_)
      refine lv_iinc C.1 C.2.1 (k := 0) (v := nI (6 * (k + 1))) (lv' := [(3, .int (nI (6 * (k + 1)))), (2, .ref (E'.2.2.2 0)), (1, .ref (E.2.2.2 0)), (0, .ref b)]) dL_law_1173 hl rfl (by rw [show Int32.ofInt 6 = nI 6 by decide, e1]; congr 1) (by decide) rfl (fun ls1 hl1 => ?_)
      refine lv_goto (tgt := 18) C.1 C.2.1 dL_law_1176 rfl ?_
      exact ih (k + 1) σX1 σM1 H1 locs1 ls1 (by omega) (by omega) hR1 hS1 hl1
