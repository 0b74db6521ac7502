/-! THE LAW, from its entry. -/
theorem kz_room {μ : kw_Mt} {n d mc ms : Nat} (h : kw_MB μ n) (hd : d ≤ 1000) : (kc_rm d mc ms).frames + 1 ≤ room_1.frames ∧ 8 + (μ.2.2.1 + 11) + (kc_rm d mc ms).locals ≤ room_1.locals := by
  have h1 := h.2.2.2
  refine ⟨?_, ?_⟩
  · show d + 1 ≤ 2048
    omega
  · show 8 + (μ.2.2.1 + 11) + 64 * d ≤ 84000
    omega
theorem kz_ws {μ : kw_Mt} {n : Nat} (h : kc_MI μ n) : kw_ws μ = Cond.code μ.1 μ.2.1 μ.2.2.1 none :: kw_all := by
  unfold kw_ws
  rw [h.2.1]
set_option maxRecDepth 100000 in
set_option maxHeartbeats 4000000 in
/-- YOUR PART: from the entry, for every script of at most 3072 ints, the law comes to its end with true -/
theorem whole_start {p : Program} {e : Env} {s : State} {m : MethodId} {below : List Frame} {meth : Method} {c : Code} (l : Launch) (hflags : l.flags = flags0) {b L : Nat} {xs : Nat → Int32} (hL : L ≤ 3072) (C0 : lw_At p s m meth c b L xs) : W p l e room_1 s m #[Value.ref b] below meth c s.heap [] 0 0 (lw_Z below #[Value.ref b] s) (entryFrame m ([Value.ref b] : List Value).toArray 4) := by
  obtain ⟨hx, hb, hr, hml, hown, htb, hX, hbl, hlocks, hgv⟩ := id C0
  have hown : s.vm.findClass RL = some m.cls := hown
  have hts := kz_all htb
  have hNt : kw_Nt s := kz_nt htb
  obtain ⟨D, aC, hK⟩ := kz_K hts
  obtain ⟨ad, hSt⟩ := kz_St l D aC htb hgv
  obtain ⟨E, hE⟩ : ∃ E : kw_E, E = (l, D, aC, ad) := ⟨_, rfl⟩
  rw [← hE] at hSt
  obtain rfl : E.1 = l := by rw [hE]
  have hK : va_K E.2.1 vwCl (kw_tys E.2.2.1) s := by rw [hE]; exact hK
  clear hE
  have hA : ∀ q : Nat, s.heap.size ≤ q → (fun q : Nat => s.heap.size ≤ q) q := fun _ h => h
  have hS : va_S (fun q : Nat => s.heap.size ≤ q) s.heap s.heap [] := va_S.rf
  have hP : va_P E.2.1 vwCl [] s.heap := fun k q h => by simp at h
  have hD : va_D (fun q : Nat => s.heap.size ≤ q) [] := ⟨fun i j p q h => by simp at h, fun k q h => by simp at h⟩
  have hl := lv_entry ([.ref b]) (n := 4) (Nat.le_of_ble_eq_true rfl)
  rw [lg_entry_eq]
  generalize (lg_sl ([.ref b]) ++ List.replicate (4 - (lg_sl ([.ref b])).length) Slot.unset).toArray = ls at hl ⊢
  have hl : lv_has ls 4 [(0, .ref b)] := hl
  refine va_new (ci := 9) (fs := [.null, .null, .int 0, .null, .null, .null, .null, .null, .null, .null, .null, .null]) (C := RX9) (T := TX9) (N := 12) hx hb hts clX9.2.1 tyX9 tyX9_ok hown (hts _ wcRL_7) (hts _ wiRX9) (hts _ wnRX9) hK hP hD hS hA rfl df9 (Nat.le_of_ble_eq_true rfl) (Nat.le_of_ble_eq_true rfl) dL_law_0 (fun q0 H hP hD hS => ?_)
  have hP : va_P E.2.1 vwCl [(q0, .inr (9, [.null, .null, .int 0, .null, .null, .null, .null, .null, .null, .null, .null, .null]))] H := hP
  have hD : va_D (fun q : Nat => s.heap.size ≤ q) [(q0, .inr (9, [.null, .null, .int 0, .null, .null, .null, .null, .null, .null, .null, .null, .null]))] := hD
  refine lv_dup hx hb dL_law_3 rfl ?_
  have hPc := hP.sub (ws' := [(q0, .inr (9, [.null, .null, .int 0, .null, .null, .null, .null, .null, .null, .null, .null, .null]))]) [0] rfl
  have hDc := hD.sub (ws' := [(q0, .inr (9, [.null, .null, .int 0, .null, .null, .null, .null, .null, .null, .null, .null, .null]))]) [0] (by decide) rfl
  have hFc := va_free (wc := [(q0, .inr (9, [.null, .null, .int 0, .null, .null, .null, .null, .null, .null, .null, .null, .null]))]) hD hS hA [0] rfl
  refine va_callv (va_runI (As := []) (rest := [.ref q0]) ⟨hx, hb, hml, hown, hts⟩ (kcX9 (E := E) q0 H.size) ⟨callB_of 0 hts (kw_good miX9_init.1) (kz_ws miX9_init) rfl rfl (hts _ miX9_init.1.1) (hts _ wmRL_9) miX9_init.1.2.2.1 (kz_room miX9_init.1 (Nat.le_of_ble_eq_true rfl)), rfl, hts _ miX9_init.2.2.2⟩ ⟨kc_blind E _ H.size _, fun U hU hW => ⟨rfl, by rw [hU], by rw [hU]; exact hPc, va_K.moved hW.alike hK, hDc.weaken (fun _ _ _ _ => trivial), hNt.warm hW, (hSt.to hW hS hU).nar hFc⟩⟩ rfl rfl hl.1 rfl (lv_room (Nat.le_of_ble_eq_true rfl)) dL_law_4 ⟨(Nat.le_of_ble_eq_true rfl), (Nat.le_of_ble_eq_true rfl)⟩) hS (fun q _ h => hFc q h) hFc (fun qs t H1 locs ht hvm _ hB hz1 hk1 hS => ?_)
  obtain ⟨hP1, hD1⟩ := hB
  rw [ht] at hP1
  obtain ⟨hP, hD⟩ := va_join (wr := []) (w1 := kw_cells (kc_E E 48 [q0, qs 0, qs 1, qs 2, qs 3, qs 4, qs 5, qs 6, qs 7, qs 8, qs 9, qs 10, qs 11, qs 12, qs 13, qs 14, qs 15, qs 16, qs 17, qs 18, qs 19, qs 20, qs 21, qs 22, qs 23, qs 24, qs 25, qs 26, qs 27, qs 28, qs 29, qs 30, qs 31, qs 32, qs 33, qs 34, qs 35, qs 36, qs 37, qs 38, qs 39, qs 40, qs 41, qs 42, qs 43, qs 44, qs 45, qs 46]) kwTX 48 kwX0) hP hD [0] [] rfl rfl (by decide) (by decide) hk1 hFc hP1 hD1
  rw [List.nil_append] at hP hD
  have hq0 : (kc_E E 48 [q0, qs 0, qs 1, qs 2, qs 3, qs 4, qs 5, qs 6, qs 7, qs 8, qs 9, qs 10, qs 11, qs 12, qs 13, qs 14, qs 15, qs 16, qs 17, qs 18, qs 19, qs 20, qs 21, qs 22, qs 23, qs 24, qs 25, qs 26, qs 27, qs 28, qs 29, qs 30, qs 31, qs 32, qs 33, qs 34, qs 35, qs 36, qs 37, qs 38, qs 39, qs 40, qs 41, qs 42, qs 43, qs 44, qs 45, qs 46]).2.2.2 0 = q0 := rfl
  have hSX : kl_St (kc_E E 48 [q0, qs 0, qs 1, qs 2, qs 3, qs 4, qs 5, qs 6, qs 7, qs 8, qs 9, qs 10, qs 11, qs 12, qs 13, qs 14, qs 15, qs 16, qs 17, qs 18, qs 19, qs 20, qs 21, qs 22, qs 23, qs 24, qs 25, qs 26, qs 27, qs 28, qs 29, qs 30, qs 31, qs 32, qs 33, qs 34, qs 35, qs 36, qs 37, qs 38, qs 39, qs 40, qs 41, qs 42, qs 43, qs 44, qs 45, qs 46]) (fun q => s.heap.size ≤ q) s := kl_St_up (Nat.le_of_ble_eq_true rfl) hSt
  have hEX : (kc_E E 48 [q0, qs 0, qs 1, qs 2, qs 3, qs 4, qs 5, qs 6, qs 7, qs 8, qs 9, qs 10, qs 11, qs 12, qs 13, qs 14, qs 15, qs 16, qs 17, qs 18, qs 19, qs 20, qs 21, qs 22, qs 23, qs 24, qs 25, qs 26, qs 27, qs 28, qs 29, qs 30, qs 31, qs 32, qs 33, qs 34, qs 35, qs 36, qs 37, qs 38, qs 39, qs 40, qs 41, qs 42, qs 43, qs 44, qs 45, qs 46]).1 = E.1 ∧ (kc_E E 48 [q0, qs 0, qs 1, qs 2, qs 3, qs 4, qs 5, qs 6, qs 7, qs 8, qs 9, qs 10, qs 11, qs 12, qs 13, qs 14, qs 15, qs 16, qs 17, qs 18, qs 19, qs 20, qs 21, qs 22, qs 23, qs 24, qs 25, qs 26, qs 27, qs 28, qs 29, qs 30, qs 31, qs 32, qs 33, qs 34, qs 35, qs 36, qs 37, qs 38, qs 39, qs 40, qs 41, qs 42, qs 43, qs 44, qs 45, qs 46]).2.1 = E.2.1 ∧ (kc_E E 48 [q0, qs 0, qs 1, qs 2, qs 3, qs 4, qs 5, qs 6, qs 7, qs 8, qs 9, qs 10, qs 11, qs 12, qs 13, qs 14, qs 15, qs 16, qs 17, qs 18, qs 19, qs 20, qs 21, qs 22, qs 23, qs 24, qs 25, qs 26, qs 27, qs 28, qs 29, qs 30, qs 31, qs 32, qs 33, qs 34, qs 35, qs 36, qs 37, qs 38, qs 39, qs 40, qs 41, qs 42, qs 43, qs 44, qs 45, qs 46]).2.2.1 = E.2.2.1 := ⟨rfl, rfl, rfl⟩
  generalize kc_E E 48 [q0, qs 0, qs 1, qs 2, qs 3, qs 4, qs 5, qs 6, qs 7, qs 8, qs 9, qs 10, qs 11, qs 12, qs 13, qs 14, qs 15, qs 16, qs 17, qs 18, qs 19, qs 20, qs 21, qs 22, qs 23, qs 24, qs 25, qs 26, qs 27, qs 28, qs 29, qs 30, qs 31, qs 32, qs 33, qs 34, qs 35, qs 36, qs 37, qs 38, qs 39, qs 40, qs 41, qs 42, qs 43, qs 44, qs 45, qs 46] = EX at hP hD hq0 hSX hEX
  clear hP1 hD1 hk1 hFc hPc hDc
  refine lv_astore_n (lv' := [(1, .ref q0), (0, .ref b)]) hx hb dL_law_7 rfl hl (by decide) rfl (fun ls hl => ?_)
  refine va_new (ci := 10) (fs := [.null, .int 0, .null, .null, .null, .null, .int 0, .int 0, .int 0, .int 0, .int 0, .int 0, .int 0, .long 0, .long 0, .null, .null, .int 0, .null, .null, .null, .null, .null, .null, .null, .null, .null, .null, .null, .null, .null, .int 0]) (C := RX10) (T := TX10) (N := 32) hx hb hts clX10.2.1 tyX10 tyX10_ok hown (hts _ wcRL_10) (hts _ wiRX10) (hts _ wnRX10) hK hP hD hS hA rfl df10 (Nat.le_of_ble_eq_true rfl) (Nat.le_of_ble_eq_true rfl) dL_law_8 (fun q1 H hP hD hS => ?_)
  refine lv_dup hx hb dL_law_11 rfl ?_
  have hlen : (kw_cells EX kwTX 48 kwX0).length = 48 := kw_cells_len _ _ _ _
  have hat : (kw_cells EX kwTX 48 kwX0 ++ [(q1, .inr (10, [.null, .int 0, .null, .null, .null, .null, .int 0, .int 0, .int 0, .int 0, .int 0, .int 0, .int 0, .long 0, .long 0, .null, .null, .int 0, .null, .null, .null, .null, .null, .null, .null, .null, .null, .null, .null, .null, .null, .int 0]))])[48]? = some (q1, .inr (10, [.null, .int 0, .null, .null, .null, .null, .int 0, .int 0, .int 0, .int 0, .int 0, .int 0, .int 0, .long 0, .long 0, .null, .null, .int 0, .null, .null, .null, .null, .null, .null, .null, .null, .null, .null, .null, .null, .null, .int 0])) := by
    rw [List.getElem?_append_right (by rw [hlen]; exact Nat.le_refl _), hlen]
    rfl
  have hC : [48].map (fun i => (kw_cells EX kwTX 48 kwX0 ++ [(q1, .inr (10, [.null, .int 0, .null, .null, .null, .null, .int 0, .int 0, .int 0, .int 0, .int 0, .int 0, .int 0, .long 0, .long 0, .null, .null, .int 0, .null, .null, .null, .null, .null, .null, .null, .null, .null, .null, .null, .null, .null, .int 0]))])[i]?) = ([(q1, .inr (10, [.null, .int 0, .null, .null, .null, .null, .int 0, .int 0, .int 0, .int 0, .int 0, .int 0, .int 0, .long 0, .long 0, .null, .null, .int 0, .null, .null, .null, .null, .null, .null, .null, .null, .null, .null, .null, .null, .null, .int 0]))] : va_W).map some := by
    show [(kw_cells EX kwTX 48 kwX0 ++ [(q1, .inr (10, [.null, .int 0, .null, .null, .null, .null, .int 0, .int 0, .int 0, .int 0, .int 0, .int 0, .int 0, .long 0, .long 0, .null, .null, .int 0, .null, .null, .null, .null, .null, .null, .null, .null, .null, .null, .null, .null, .null, .int 0]))])[48]?] = _
    rw [hat]
    rfl
  have hCf : [48].filterMap (fun i => (kw_cells EX kwTX 48 kwX0 ++ [(q1, .inr (10, [.null, .int 0, .null, .null, .null, .null, .int 0, .int 0, .int 0, .int 0, .int 0, .int 0, .int 0, .long 0, .long 0, .null, .null, .int 0, .null, .null, .null, .null, .null, .null, .null, .null, .null, .null, .null, .null, .null, .int 0]))])[i]?) = ([(q1, .inr (10, [.null, .int 0, .null, .null, .null, .null, .int 0, .int 0, .int 0, .int 0, .int 0, .int 0, .int 0, .long 0, .long 0, .null, .null, .int 0, .null, .null, .null, .null, .null, .null, .null, .null, .null, .null, .null, .null, .null, .int 0]))] : va_W) := by
    rw [List.filterMap_cons_some (b := (q1, .inr (10, [.null, .int 0, .null, .null, .null, .null, .int 0, .int 0, .int 0, .int 0, .int 0, .int 0, .int 0, .long 0, .long 0, .null, .null, .int 0, .null, .null, .null, .null, .null, .null, .null, .null, .null, .null, .null, .null, .null, .int 0]))) hat]
    rfl
  have hPc := hP.sub (ws' := [(q1, .inr (10, [.null, .int 0, .null, .null, .null, .null, .int 0, .int 0, .int 0, .int 0, .int 0, .int 0, .int 0, .long 0, .long 0, .null, .null, .int 0, .null, .null, .null, .null, .null, .null, .null, .null, .null, .null, .null, .null, .null, .int 0]))]) [48] hCf
  have hDc := hD.sub (ws' := [(q1, .inr (10, [.null, .int 0, .null, .null, .null, .null, .int 0, .int 0, .int 0, .int 0, .int 0, .int 0, .int 0, .long 0, .long 0, .null, .null, .int 0, .null, .null, .null, .null, .null, .null, .null, .null, .null, .null, .null, .null, .null, .int 0]))]) [48] (by decide) hC
  have hFc := va_free (wc := [(q1, .inr (10, [.null, .int 0, .null, .null, .null, .null, .int 0, .int 0, .int 0, .int 0, .int 0, .int 0, .int 0, .long 0, .long 0, .null, .null, .int 0, .null, .null, .null, .null, .null, .null, .null, .null, .null, .null, .null, .null, .null, .int 0]))]) hD hS hA [48] hC
  refine va_callv (va_runI (As := []) (rest := [.ref q1]) ⟨hx, hb, hml, hown, hts⟩ (kcX10 (E := E) q1 H.size) ⟨callB_of 0 hts (kw_good miX10_init.1) (kz_ws miX10_init) rfl rfl (hts _ miX10_init.1.1) (hts _ wmRL_12) miX10_init.1.2.2.1 (kz_room miX10_init.1 (Nat.le_of_ble_eq_true rfl)), rfl, hts _ miX10_init.2.2.2⟩ ⟨kc_blind E _ H.size _, fun U hU hW => ⟨rfl, by rw [hU], by rw [hU]; exact hPc, va_K.moved hW.alike hK, hDc.weaken (fun _ _ _ _ => trivial), hNt.warm hW, (hSt.to hW hS hU).nar hFc⟩⟩ rfl rfl hl.1 rfl (lv_room (Nat.le_of_ble_eq_true rfl)) dL_law_12 ⟨(Nat.le_of_ble_eq_true rfl), (Nat.le_of_ble_eq_true rfl)⟩) hS (fun q _ h => hFc q h) hFc (fun ps t H1 locs ht hvm _ hB hz1 hk1 hS => ?_)
  obtain ⟨hP1, hD1⟩ := hB
  rw [ht] at hP1
  obtain ⟨hP, hD⟩ := va_join (wr := kw_cells EX kwTX 48 kwX0) (w1 := kw_cells (kc_E E 21 [q1, ps 0, ps 1, ps 2, ps 3, ps 4, ps 5, ps 6, ps 7, ps 8, ps 9, ps 10, ps 11, ps 12, ps 13, ps 14, ps 15, ps 16, ps 17, ps 18, ps 19]) kwTM 21 kwM0) hP hD [48] (List.range 48) hC (kz_app _ _ hlen) (by decide) (by decide) hk1 hFc hP1 hD1
  have hq1 : (kc_E E 21 [q1, ps 0, ps 1, ps 2, ps 3, ps 4, ps 5, ps 6, ps 7, ps 8, ps 9, ps 10, ps 11, ps 12, ps 13, ps 14, ps 15, ps 16, ps 17, ps 18, ps 19]).2.2.2 0 = q1 := rfl
  have hSM : kl_St (kc_E E 21 [q1, ps 0, ps 1, ps 2, ps 3, ps 4, ps 5, ps 6, ps 7, ps 8, ps 9, ps 10, ps 11, ps 12, ps 13, ps 14, ps 15, ps 16, ps 17, ps 18, ps 19]) (fun q => s.heap.size ≤ q) s := kl_St_up (Nat.le_of_ble_eq_true rfl) hSt
  have hEM : (kc_E E 21 [q1, ps 0, ps 1, ps 2, ps 3, ps 4, ps 5, ps 6, ps 7, ps 8, ps 9, ps 10, ps 11, ps 12, ps 13, ps 14, ps 15, ps 16, ps 17, ps 18, ps 19]).1 = EX.1 ∧ (kc_E E 21 [q1, ps 0, ps 1, ps 2, ps 3, ps 4, ps 5, ps 6, ps 7, ps 8, ps 9, ps 10, ps 11, ps 12, ps 13, ps 14, ps 15, ps 16, ps 17, ps 18, ps 19]).2.1 = EX.2.1 ∧ (kc_E E 21 [q1, ps 0, ps 1, ps 2, ps 3, ps 4, ps 5, ps 6, ps 7, ps 8, ps 9, ps 10, ps 11, ps 12, ps 13, ps 14, ps 15, ps 16, ps 17, ps 18, ps 19]).2.2.1 = EX.2.2.1 := ⟨hEX.1.symm, hEX.2.1.symm, hEX.2.2.symm⟩
  generalize kc_E E 21 [q1, ps 0, ps 1, ps 2, ps 3, ps 4, ps 5, ps 6, ps 7, ps 8, ps 9, ps 10, ps 11, ps 12, ps 13, ps 14, ps 15, ps 16, ps 17, ps 18, ps 19] = EM at hP hD hq1 hSM hEM
  clear hP1 hD1 hk1 hFc hPc hDc
  have hD : va_D (fun q : Nat => s.heap.size ≤ q) (kl_W EX EM kwX0 kwM0) := hD
  have hP : va_P EX.2.1 vwCl (kl_W EX EM kwX0 kwM0) H1 := by rw [hEX.2.1]; exact hP
  have hK : va_K EX.2.1 vwCl (kw_tys EX.2.2.1) s := by rw [hEX.2.1, hEX.2.2]; exact hK
  refine va_forget (fun q hq => hS.2.2 q hq) ?_
  have hnew : ∀ q, kl_A EX EM q → s.heap.size ≤ q := by
    rintro q (⟨k, hk, rfl⟩ | ⟨k, hk, rfl⟩)
    · exact hD.2 k _ (kl_atX (kw_at (E := EX) (τ := kwTX) (N := 48) (σ := kwX0) hk rfl))
    · exact hD.2 (48 + k) _ (kl_atM (kw_at (E := EM) (τ := kwTM) (N := 21) (σ := kwM0) hk rfl))
  have hS9 : kl_S EX EM s kwX0 kwM0 H1 [] := by
    refine ⟨hP, ⟨hD.1, fun k q h => ?_⟩, hS.1, fun q h1 _ => hS.2.1 q h1 (Nat.not_le.mpr h1), fun q h => absurd h List.not_mem_nil⟩
    rcases kl_at h with h | ⟨_, h⟩
    · exact Or.inl ⟨k, (kw_cells_ad h).1, (kw_cells_ad h).2⟩
    · exact Or.inr ⟨k - 48, (kw_cells_ad h).1, (kw_cells_ad h).2⟩
  refine lv_astore_n (lv' := [(2, .ref q1), (1, .ref q0), (0, .ref b)]) hx hb dL_law_15 rfl hl (by decide) rfl (fun ls hl => ?_)
  refine lv_iconst (v := nI (6 * 0)) hx hb dL_law_16 (by decide) ?_
  refine lv_istore_n (lv' := [(3, .int (nI (6 * 0))), (2, .ref q1), (1, .ref q0), (0, .ref b)]) hx hb dL_law_17 rfl hl (by decide) rfl (fun ls hl => ?_)
  rw [← hq0, ← hq1] at hl
  rw [← hEX.1]
  exact kl_loop (E := EX) (E' := EM) kz_ok hL hnew ⟨hx, hb, hml, hown, hts, hK, ⟨(Nat.le_of_ble_eq_true rfl), (Nat.le_of_ble_eq_true rfl)⟩, hNt, ⟨hSX.nar hnew, hSM.nar hnew⟩, ⟨hX, hbl, fun h => absurd (hnew b h) (Nat.not_le.mpr hbl)⟩, hEM, hr, hlocks⟩ (L + 1) 0 kwX0 kwM0 H1 [] ls (by omega) (by omega) kz_first hS9 hl
