/-! The constructor of a State: roads, log, settle, findParents. -/
theorem kc_perm {E : kw_E} {d mc ms : Nat} {μ : kw_Mt} {ws0 : va_W} {V : (Nat → Nat) → va_W} {pc : Nat} {lv : List (Nat × Value)} {st : List Value} {ws ws2 : va_W} {cl sl : Nat} (is : List Nat) (hs : is.filterMap (fun i => ws[i]?) = ws2) (hm : is.map (fun i => ws[i]?) = ws2.map some) (hnd : va_nd is = true) (k : kc_G E d mc ms μ ws0 V pc lv st ws2 cl sl) : kc_G E d mc ms μ ws0 V pc lv st ws cl sl := by
  intro p e s m args below meth c H locs ls C hl hP hD hS
  exact k p e s m args below meth c H locs ls C hl (hP.sub is hs) (hD.sub is hnd hm) hS
theorem kc_retW {E : kw_E} {d mc ms : Nat} {μ : kw_Mt} {ws0 : va_W} {V : (Nat → Nat) → va_W} {pc : Nat} {lv : List (Nat × Value)} {ws : va_W} {cl sl : Nat} {qs : Nat → Nat} (hw : ws = V qs) (hc : cl ≤ mc) (hsl : sl ≤ ms) (hdg : decode μ.2.1 pc = .ok (.return_, 1)) : kc_G E d mc ms μ ws0 V pc lv [] ws cl sl := by
  subst hw
  intro p e s m args below meth c H locs ls C hl hP hD hS
  have hlocks := C.2.2.2.2.2.2.2.2.2.2
  refine W.widen hc hsl ?_
  exact W.vret C.1 C.2.1 C.2.2.2.2.2.2.2.2.2.1 (fun t ht hW => ⟨⟨qs, rfl, trivial, by rw [ht]; exact hP, hD⟩, hS.F ht⟩) hS.2.2 hdg hlocks
def kc_ad (ad : Nat → Nat) (N : Nat) (l : List Nat) : Nat → Nat := fun j => if j < N then l.getD j 0 else ad j
def kc_E (E : kw_E) (N : Nat) (l : List Nat) : kw_E := (E.1, E.2.1, E.2.2.1, kc_ad E.2.2.2 N l)
theorem kc_E_up {E : kw_E} {N : Nat} {l : List Nat} {j : Nat} (h : N ≤ j) : (kc_E E N l).2.2.2 j = E.2.2.2 j := if_neg (Nat.not_lt.mpr h)
def kwS0 : kw_M := (fun c => match c with
  | 0 => fun k => match k with
    | 4 => 1
    | _ => 0
  | 1 => fun k => match k with
    | 0 => 2
    | _ => 0
  | _ => fun _ => 0, fun _ _ => 0)
def kwS1 : kw_M := kw_sl (kj_st kwS0 5 12 (-9000000000000000000)) 5 0 0
def kwS2 : kw_M := (fun c => if c = 6 then (fun t => if t < 12 then -1 else 0) else kwS1.1 c, kwS1.2)
theorem kwS_fill : fG_fillI 6 (-1) kwS1 = some kwS2 := by
  obtain ⟨τ, h, h1, h2, h3, h4⟩ := kj_fillI kwS1 6 (-1)
  rw [h]
  refine congrArg some (Prod.ext (funext fun c => ?_) h4)
  show τ.1 c = if c = 6 then (fun t => if t < 12 then -1 else 0) else kwS1.1 c
  by_cases hc : c = 6
  · rw [if_pos hc]
    subst hc
    funext t
    by_cases ht : t < 12
    · rw [if_pos ht]; exact h1 t ht
    · rw [if_neg ht, h2 t ht]; rfl
  · rw [if_neg hc]; exact h3 c hc
theorem wmRX7_43 : Cond.methodLink RX7 43 yX4_settle ∈ kw_all := kw_word 214 (by decide +kernel) rfl
set_option maxRecDepth 20000 in
theorem kcX7 {E : kw_E} (b : Nat) : kc_Met E 3 10 564 μX7_init [.ref b] [(b, .inr (7, [.null, .null, .int 0, .int 0, .int 0, .int 0, .null, .int 0, .null, .null, .null]))] (fun qs => kw_cells (kc_E E 11 [b, qs 0, qs 1, qs 2, qs 3, qs 4, qs 5, qs 6, qs 7, qs 8, qs 9]) kwTS 11 kwS2) := by
  refine kc_enter plRX7 rfl rfl (Nat.le_of_ble_eq_true rfl) ?_
  show kc_G E _ _ _ _ _ _ 0 [(0, .ref b)] [] _ 0 0
  refine kc_aload_n 0 dX7_init_0 rfl rfl (pc2 := 1) rfl ?_
  refine kc_obj (own := RX7) rfl woRX7 wo_im wo_cd (Nat.le_of_ble_eq_true rfl) (Nat.le_of_ble_eq_true rfl) dX7_init_1 (pc2 := 4) rfl ?_
  refine kc_aload_n 0 dX7_init_4 rfl rfl (pc2 := 5) rfl ?_
  refine kc_new clX4 tyX4 tyX4_ok (own := RX7) rfl wcRX7_9 wiRX4 wnRX4 (fs := [.int 0, .int 0, .long 0, .null, .null, .null]) df4 (Nat.le_of_ble_eq_true rfl) (Nat.le_of_ble_eq_true rfl) dX7_init_5 (pc2 := 8) rfl (fun q0 => ?_)
  refine kc_dup rfl dX7_init_8 (pc2 := 9) rfl ?_
  refine kc_callN (kcX4 q0) (Nat.le_of_ble_eq_true rfl) miX4_init (own := RX7) rfl  wmRX7_11 (As := []) rfl (Nat.le_of_ble_eq_true rfl) (Nat.le_of_ble_eq_true rfl) (Nat.le_of_ble_eq_true rfl) [1] [0] (wr := [(b, .inr (7, [.null, .null, .int 0, .int 0, .int 0, .int 0, .null, .int 0, .null, .null, .null]))]) rfl rfl rfl rfl rfl (by decide) dX7_init_9 rfl (pc2 := 12) rfl (fun q1 => ?_)
  show kc_G E _ _ _ _ _ _ _ _ _ [(b, .inr (7, [.null, .null, .int 0, .int 0, .int 0, .int 0, .null, .int 0, .null, .null, .null])), (q0, .inr (4, [.int 2, .int 0, .long 0, .ref (q1 0), .ref (q1 1), .ref (q1 2)])), ((q1 0), .inl (E.2.2.1 0, 36, .inl (fun _ => 0))), ((q1 1), .inl (E.2.2.1 0, 36, .inl (fun _ => 0))), ((q1 2), .inl (E.2.2.1 0, 36, .inl (fun _ => 0)))] _ _
  refine kc_putF clX7 rfl 0 (Nat.le_of_ble_eq_true rfl) wfRX7_12 rfl rfl (ty := (.object "KeptWays$Roads")) (by decide +kernel) rfl rfl 0 (a := b) (fs := [.null, .null, .int 0, .int 0, .int 0, .int 0, .null, .int 0, .null, .null, .null]) rfl (Nat.le_of_ble_eq_true rfl) (ws2 := [(b, .inr (7, [.ref q0, .null, .int 0, .int 0, .int 0, .int 0, .null, .int 0, .null, .null, .null])), (q0, .inr (4, [.int 2, .int 0, .long 0, .ref (q1 0), .ref (q1 1), .ref (q1 2)])), ((q1 0), .inl (E.2.2.1 0, 36, .inl (fun _ => 0))), ((q1 1), .inl (E.2.2.1 0, 36, .inl (fun _ => 0))), ((q1 2), .inl (E.2.2.1 0, 36, .inl (fun _ => 0)))]) rfl dX7_init_12 (pc2 := 15) rfl ?_
  refine kc_aload_n 0 dX7_init_15 rfl rfl (pc2 := 16) rfl ?_
  refine kc_new clX0 tyX0 tyX0_ok (own := RX7) rfl wcRX7_18 wiRX0 wnRX0 (fs := [.int 0, .null]) df0 (Nat.le_of_ble_eq_true rfl) (Nat.le_of_ble_eq_true rfl) dX7_init_16 (pc2 := 19) rfl (fun q2 => ?_)
  refine kc_dup rfl dX7_init_19 (pc2 := 20) rfl ?_
  refine kc_callN (kcX0 q2) (Nat.le_of_ble_eq_true rfl) miX0_init (own := RX7) rfl  wmRX7_20 (As := []) rfl (Nat.le_of_ble_eq_true rfl) (Nat.le_of_ble_eq_true rfl) (Nat.le_of_ble_eq_true rfl) [5] [0, 1, 2, 3, 4] (wr := [(b, .inr (7, [.ref q0, .null, .int 0, .int 0, .int 0, .int 0, .null, .int 0, .null, .null, .null])), (q0, .inr (4, [.int 2, .int 0, .long 0, .ref (q1 0), .ref (q1 1), .ref (q1 2)])), ((q1 0), .inl (E.2.2.1 0, 36, .inl (fun _ => 0))), ((q1 1), .inl (E.2.2.1 0, 36, .inl (fun _ => 0))), ((q1 2), .inl (E.2.2.1 0, 36, .inl (fun _ => 0)))]) rfl rfl rfl rfl rfl (by decide) dX7_init_20 rfl (pc2 := 23) rfl (fun q3 => ?_)
  show kc_G E _ _ _ _ _ _ _ _ _ [(b, .inr (7, [.ref q0, .null, .int 0, .int 0, .int 0, .int 0, .null, .int 0, .null, .null, .null])), (q0, .inr (4, [.int 2, .int 0, .long 0, .ref (q1 0), .ref (q1 1), .ref (q1 2)])), ((q1 0), .inl (E.2.2.1 0, 36, .inl (fun _ => 0))), ((q1 1), .inl (E.2.2.1 0, 36, .inl (fun _ => 0))), ((q1 2), .inl (E.2.2.1 0, 36, .inl (fun _ => 0))), (q2, .inr (0, [.int 0, .ref (q3 0)])), ((q3 0), .inl (E.2.2.1 1, 400, .inr (.inl (fun _ => 0))))] _ _
  refine kc_putF clX7 rfl 1 (Nat.le_of_ble_eq_true rfl) wfRX7_21 rfl rfl (ty := (.object "KeptWays$Log")) (by decide +kernel) rfl rfl 0 (a := b) (fs := [.ref q0, .null, .int 0, .int 0, .int 0, .int 0, .null, .int 0, .null, .null, .null]) rfl (Nat.le_of_ble_eq_true rfl) (ws2 := [(b, .inr (7, [.ref q0, .ref q2, .int 0, .int 0, .int 0, .int 0, .null, .int 0, .null, .null, .null])), (q0, .inr (4, [.int 2, .int 0, .long 0, .ref (q1 0), .ref (q1 1), .ref (q1 2)])), ((q1 0), .inl (E.2.2.1 0, 36, .inl (fun _ => 0))), ((q1 1), .inl (E.2.2.1 0, 36, .inl (fun _ => 0))), ((q1 2), .inl (E.2.2.1 0, 36, .inl (fun _ => 0))), (q2, .inr (0, [.int 0, .ref (q3 0)])), ((q3 0), .inl (E.2.2.1 1, 400, .inr (.inl (fun _ => 0))))]) rfl dX7_init_23 (pc2 := 26) rfl ?_
  refine kc_aload_n 0 dX7_init_26 rfl rfl (pc2 := 27) rfl ?_
  refine kc_iconst (x := 1) dX7_init_27 (by decide) (pc2 := 28) rfl ?_
  refine kc_putV clX7 rfl 4 (Nat.le_of_ble_eq_true rfl) wfRX7_25 rfl (ty := .int) (by decide +kernel) rfl rfl 0 (a := b) (fs := [.ref q0, .ref q2, .int 0, .int 0, .int 0, .int 0, .null, .int 0, .null, .null, .null]) rfl (Nat.le_of_ble_eq_true rfl) (ws2 := [(b, .inr (7, [.ref q0, .ref q2, .int 0, .int 0, .int 1, .int 0, .null, .int 0, .null, .null, .null])), (q0, .inr (4, [.int 2, .int 0, .long 0, .ref (q1 0), .ref (q1 1), .ref (q1 2)])), ((q1 0), .inl (E.2.2.1 0, 36, .inl (fun _ => 0))), ((q1 1), .inl (E.2.2.1 0, 36, .inl (fun _ => 0))), ((q1 2), .inl (E.2.2.1 0, 36, .inl (fun _ => 0))), (q2, .inr (0, [.int 0, .ref (q3 0)])), ((q3 0), .inl (E.2.2.1 1, 400, .inr (.inl (fun _ => 0))))]) rfl dX7_init_28 (pc2 := 31) rfl ?_
  refine kc_aload_n 0 dX7_init_31 rfl rfl (pc2 := 32) rfl ?_
  refine kc_bipush (x := 12) dX7_init_32 (by decide) (pc2 := 34) rfl ?_
  refine kc_newa 0 (ty := .int) rfl (fun _ => rfl) ra_int wa_int (N' := 12) (a0 := (12, .inl (fun _ => 0))) (fun _ => rfl) (by decide) (by decide) (Nat.le_of_ble_eq_true rfl) (Nat.le_of_ble_eq_true rfl) (Nat.le_of_ble_eq_true rfl) dX7_init_34 (pc2 := 36) rfl (fun q4 => ?_)
  refine kc_putF clX7 rfl 6 (Nat.le_of_ble_eq_true rfl) wfRX7_29 rfl rfl (ty := .array .int) (by decide +kernel) rfl rfl 0 (a := b) (fs := [.ref q0, .ref q2, .int 0, .int 0, .int 1, .int 0, .null, .int 0, .null, .null, .null]) rfl (Nat.le_of_ble_eq_true rfl) (ws2 := [(b, .inr (7, [.ref q0, .ref q2, .int 0, .int 0, .int 1, .int 0, .ref q4, .int 0, .null, .null, .null])), (q0, .inr (4, [.int 2, .int 0, .long 0, .ref (q1 0), .ref (q1 1), .ref (q1 2)])), ((q1 0), .inl (E.2.2.1 0, 36, .inl (fun _ => 0))), ((q1 1), .inl (E.2.2.1 0, 36, .inl (fun _ => 0))), ((q1 2), .inl (E.2.2.1 0, 36, .inl (fun _ => 0))), (q2, .inr (0, [.int 0, .ref (q3 0)])), ((q3 0), .inl (E.2.2.1 1, 400, .inr (.inl (fun _ => 0)))), (q4, .inl (E.2.2.1 0, 12, .inl (fun _ => 0)))]) rfl dX7_init_36 (pc2 := 39) rfl ?_
  refine kc_aload_n 0 dX7_init_39 rfl rfl (pc2 := 40) rfl ?_
  refine kc_bipush (x := 12) dX7_init_40 (by decide) (pc2 := 42) rfl ?_
  refine kc_newa 0 (ty := .int) rfl (fun _ => rfl) ra_int wa_int (N' := 12) (a0 := (12, .inl (fun _ => 0))) (fun _ => rfl) (by decide) (by decide) (Nat.le_of_ble_eq_true rfl) (Nat.le_of_ble_eq_true rfl) (Nat.le_of_ble_eq_true rfl) dX7_init_42 (pc2 := 44) rfl (fun q5 => ?_)
  refine kc_putF clX7 rfl 8 (Nat.le_of_ble_eq_true rfl) wfRX7_33 rfl rfl (ty := .array .int) (by decide +kernel) rfl rfl 0 (a := b) (fs := [.ref q0, .ref q2, .int 0, .int 0, .int 1, .int 0, .ref q4, .int 0, .null, .null, .null]) rfl (Nat.le_of_ble_eq_true rfl) (ws2 := [(b, .inr (7, [.ref q0, .ref q2, .int 0, .int 0, .int 1, .int 0, .ref q4, .int 0, .ref q5, .null, .null])), (q0, .inr (4, [.int 2, .int 0, .long 0, .ref (q1 0), .ref (q1 1), .ref (q1 2)])), ((q1 0), .inl (E.2.2.1 0, 36, .inl (fun _ => 0))), ((q1 1), .inl (E.2.2.1 0, 36, .inl (fun _ => 0))), ((q1 2), .inl (E.2.2.1 0, 36, .inl (fun _ => 0))), (q2, .inr (0, [.int 0, .ref (q3 0)])), ((q3 0), .inl (E.2.2.1 1, 400, .inr (.inl (fun _ => 0)))), (q4, .inl (E.2.2.1 0, 12, .inl (fun _ => 0))), (q5, .inl (E.2.2.1 0, 12, .inl (fun _ => 0)))]) rfl dX7_init_44 (pc2 := 47) rfl ?_
  refine kc_aload_n 0 dX7_init_47 rfl rfl (pc2 := 48) rfl ?_
  refine kc_bipush (x := 12) dX7_init_48 (by decide) (pc2 := 50) rfl ?_
  refine kc_newa 1 (ty := .long) rfl (fun _ => rfl) ra_long wa_long (N' := 12) (a0 := (12, .inr (.inl (fun _ => 0)))) (fun _ => rfl) (by decide) (by decide) (Nat.le_of_ble_eq_true rfl) (Nat.le_of_ble_eq_true rfl) (Nat.le_of_ble_eq_true rfl) dX7_init_50 (pc2 := 52) rfl (fun q6 => ?_)
  refine kc_putF clX7 rfl 9 (Nat.le_of_ble_eq_true rfl) wfRX7_36 rfl rfl (ty := .array .long) (by decide +kernel) rfl rfl 0 (a := b) (fs := [.ref q0, .ref q2, .int 0, .int 0, .int 1, .int 0, .ref q4, .int 0, .ref q5, .null, .null]) rfl (Nat.le_of_ble_eq_true rfl) (ws2 := [(b, .inr (7, [.ref q0, .ref q2, .int 0, .int 0, .int 1, .int 0, .ref q4, .int 0, .ref q5, .ref q6, .null])), (q0, .inr (4, [.int 2, .int 0, .long 0, .ref (q1 0), .ref (q1 1), .ref (q1 2)])), ((q1 0), .inl (E.2.2.1 0, 36, .inl (fun _ => 0))), ((q1 1), .inl (E.2.2.1 0, 36, .inl (fun _ => 0))), ((q1 2), .inl (E.2.2.1 0, 36, .inl (fun _ => 0))), (q2, .inr (0, [.int 0, .ref (q3 0)])), ((q3 0), .inl (E.2.2.1 1, 400, .inr (.inl (fun _ => 0)))), (q4, .inl (E.2.2.1 0, 12, .inl (fun _ => 0))), (q5, .inl (E.2.2.1 0, 12, .inl (fun _ => 0))), (q6, .inl (E.2.2.1 1, 12, .inr (.inl (fun _ => 0))))]) rfl dX7_init_52 (pc2 := 55) rfl ?_
  refine kc_aload_n 0 dX7_init_55 rfl rfl (pc2 := 56) rfl ?_
  refine kc_bipush (x := 12) dX7_init_56 (by decide) (pc2 := 58) rfl ?_
  refine kc_newa 0 (ty := .int) rfl (fun _ => rfl) ra_int wa_int (N' := 12) (a0 := (12, .inl (fun _ => 0))) (fun _ => rfl) (by decide) (by decide) (Nat.le_of_ble_eq_true rfl) (Nat.le_of_ble_eq_true rfl) (Nat.le_of_ble_eq_true rfl) dX7_init_58 (pc2 := 60) rfl (fun q7 => ?_)
  refine kc_putF clX7 rfl 10 (Nat.le_of_ble_eq_true rfl) wfRX7_40 rfl rfl (ty := .array .int) (by decide +kernel) rfl rfl 0 (a := b) (fs := [.ref q0, .ref q2, .int 0, .int 0, .int 1, .int 0, .ref q4, .int 0, .ref q5, .ref q6, .null]) rfl (Nat.le_of_ble_eq_true rfl) (ws2 := [(b, .inr (7, [.ref q0, .ref q2, .int 0, .int 0, .int 1, .int 0, .ref q4, .int 0, .ref q5, .ref q6, .ref q7])), (q0, .inr (4, [.int 2, .int 0, .long 0, .ref (q1 0), .ref (q1 1), .ref (q1 2)])), ((q1 0), .inl (E.2.2.1 0, 36, .inl (fun _ => 0))), ((q1 1), .inl (E.2.2.1 0, 36, .inl (fun _ => 0))), ((q1 2), .inl (E.2.2.1 0, 36, .inl (fun _ => 0))), (q2, .inr (0, [.int 0, .ref (q3 0)])), ((q3 0), .inl (E.2.2.1 1, 400, .inr (.inl (fun _ => 0)))), (q4, .inl (E.2.2.1 0, 12, .inl (fun _ => 0))), (q5, .inl (E.2.2.1 0, 12, .inl (fun _ => 0))), (q6, .inl (E.2.2.1 1, 12, .inr (.inl (fun _ => 0)))), (q7, .inl (E.2.2.1 0, 12, .inl (fun _ => 0)))]) rfl dX7_init_60 (pc2 := 63) rfl ?_
  refine kc_aload_n 0 dX7_init_63 rfl rfl (pc2 := 64) rfl ?_
  refine kc_get clX7 (own := RX7) rfl 0 (Nat.le_of_ble_eq_true rfl) wfRX7_12 0 (a := b) (fs := [.ref q0, .ref q2, .int 0, .int 0, .int 1, .int 0, .ref q4, .int 0, .ref q5, .ref q6, .ref q7]) rfl (v := .ref q0) rfl dX7_init_64 (pc2 := 67) rfl ?_
  refine kc_iconst (x := 0) dX7_init_67 (by decide) (pc2 := 68) rfl ?_
  refine kc_iconst (x := (-1)) dX7_init_68 (by decide) (pc2 := 69) rfl ?_
  refine kc_aload_n 0 dX7_init_69 rfl rfl (pc2 := 70) rfl ?_
  refine kc_get clX7 (own := RX7) rfl 9 (Nat.le_of_ble_eq_true rfl) wfRX7_36 0 (a := b) (fs := [.ref q0, .ref q2, .int 0, .int 0, .int 1, .int 0, .ref q4, .int 0, .ref q5, .ref q6, .ref q7]) rfl (v := .ref q6) rfl dX7_init_70 (pc2 := 73) rfl ?_
  refine kc_perm [0, 1, 5, 7, 8, 9, 10, 2, 3, 4, 6] (ws2 := kw_cells (kc_E E 11 [b, q0, q2, q4, q5, q6, q7, (q1 0), (q1 1), (q1 2), (q3 0)]) kwTS 11 kwS0) rfl rfl rfl ?_
  refine kc_flat (E := E) (μ := μX7_init) (ES := kc_E E 11 [b, q0, q2, q4, q5, q6, q7, (q1 0), (q1 1), (q1 2), (q3 0)]) rfl rfl rfl (fun j => kc_E_up (by omega)) (fun j => kc_E_up (by omega)) (σ1 := kwS1) (As := [.int 0, .int (-1), .ref 5]) (gS_settle (d := 0) kwS0 rfl rfl) (Nat.le_of_ble_eq_true rfl) mVX4_settle (own := RX7) rfl wmRX7_43 (ci := 4) rfl tS_1 eS_1 rfl rfl (Nat.le_of_ble_eq_true rfl) (Nat.le_of_ble_eq_true rfl) (Nat.le_of_ble_eq_true rfl) dX7_init_73 rfl (st := []) rfl (pc2 := 76) rfl ?_
  refine kc_aload_n 0 dX7_init_76 rfl rfl (pc2 := 77) rfl ?_
  refine kc_flat (E := E) (μ := μX7_init) (ES := kc_E E 11 [b, q0, q2, q4, q5, q6, q7, (q1 0), (q1 1), (q1 2), (q3 0)]) rfl rfl rfl (fun j => kc_E_up (by omega)) (fun j => kc_E_up (by omega)) (σ1 := kwS2) (As := []) (gS_findParents (d := 0) kwS1 kwS_fill rfl) (Nat.le_of_ble_eq_true rfl) mVX7_findParents (own := RX7) rfl lmRX7_47 (ci := 7) rfl tS_0 eS_0 rfl rfl (Nat.le_of_ble_eq_true rfl) (Nat.le_of_ble_eq_true rfl) (Nat.le_of_ble_eq_true rfl) dX7_init_77 rfl (st := []) rfl (pc2 := 80) rfl ?_
  exact kc_retW (qs := fun k => [q0, q2, q4, q5, q6, q7, (q1 0), (q1 1), (q1 2), (q3 0)].getD k 0) rfl (Nat.le_of_ble_eq_true rfl) (Nat.le_of_ble_eq_true rfl) dX7_init_80

