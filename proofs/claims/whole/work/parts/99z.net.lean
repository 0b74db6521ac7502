/-! net: the file emptied; the roads come one by one. -/
theorem km_empties {σ : kw_M} : ∃ τ, fX10_empties σ = some τ ∧ (∀ j, τ.1 1 j = if j = 0 then σ.1 0 17 else if j = 5 then σ.1 1 5 else if j < 708 then 0 else σ.1 1 j) ∧ (∀ c, c ≠ 1 → τ.1 c = σ.1 c) ∧ τ.2 = σ.2 := by
  obtain ⟨x, hx, x1, x2, x3⟩ := kw_for (body := fun s => bX10_empties_9 (σ.1 1 5) s.1 s.2) (fun k s => s.1 = nI k ∧ (∀ j, s.2.1 1 j = if j < k then 0 else σ.1 1 j) ∧ (∀ c, c ≠ 1 → s.2.1 c = σ.1 c) ∧ s.2.2 = σ.2) (fun x => (∀ j, x.1 1 j = if j < 708 then 0 else σ.1 1 j) ∧ (∀ c, c ≠ 1 → x.1 c = σ.1 c) ∧ x.2 = σ.2) 708 (by decide) (s0 := ((0 : Int32), σ)) ⟨rfl, fun j => by rw [if_neg (Nat.not_lt_zero _)], fun _ _ => rfl, rfl⟩ (fun k s hk hP => by
    obtain ⟨v, τ⟩ := s
    obtain ⟨h1, h2, h3, h4⟩ := hP
    dsimp only at h1 h2 h3 h4 ⊢
    subst h1
    unfold bX10_empties_9
    rw [show (708 : Int32) = nI 708 by decide]
    by_cases hk7 : k < 708
    case neg =>
      right
      obtain rfl : k = 708 := by omega
      rw [if_pos (nI_le (Nat.le_refl _) (by omega))]
      exact ⟨_, rfl, h2, h3, h4⟩
    left
    rw [if_neg (nI_ge hk7 (by omega)), kn_chk (show k < 2832 by omega) (by decide), kn_clamp (by omega), kw_let_def, kw_let_def, km_next]
    refine ⟨hk7, _, rfl, rfl, fun j => ?_, fun c hc => ?_, h4⟩
    · show (kw_si τ 1 k 0).1 1 j = _
      rw [kw_si_1]
      by_cases e : j = k
      · rw [e, kw_upd_e, if_pos (by omega)]
      · rw [kw_upd_n e, h2 j]
        by_cases q : j < k
        · rw [if_pos q, if_pos (by omega)]
        · rw [if_neg q, if_neg (by omega)]
    · show (kw_si τ 1 k 0).1 c = _
      rw [kw_si_o hc]; exact h3 c hc)
  unfold fX10_empties
  rw [kw_let_def, hx, Option.bind_some, kw_let_def, kw_let_def]
  refine ⟨_, rfl, fun j => ?_, fun c hc => ?_, x3⟩
  · rw [kw_si_1]
    by_cases e0 : j = 0
    · rw [e0, kw_upd_e, if_pos rfl, kw_si_o (by decide), x2 0 (by decide)]
    · rw [kw_upd_n e0, if_neg e0, kw_si_1]
      by_cases e5 : j = 5
      · rw [e5, kw_upd_e, if_pos rfl]
      · rw [kw_upd_n e5, if_neg e5]; exact x1 j
  · rw [kw_si_o hc, kw_si_o hc]; exact x2 c hc
theorem kr_good_0 (F : Nat → Int32) (but : Int32) : kr_good (km_gr F 0 but) := fun u l hne hw => by
  cases l with
  | nil => exact absurd rfl hne
  | cons r l =>
    have h : r < 0 := hw.1
    omega
/-- a road more in a file that is good -/
theorem kb_more {F : Nat → Int32} {n m A B : Nat} {c : Int32} (hw : kb_wf F n m) (hg : kr_good (km_gr F m (-1))) (h36 : m < 36) (hA : A < n) (hB : B < n) (hc : -1000000000 ≤ c.toInt ∧ c.toInt ≤ 1000000000) : kb_wf (kb_add F m (nI A) (nI B) c) n (m + 1) ∧ kr_good (km_gr (kb_add F m (nI A) (nI B) c) (m + 1) (nI m)) := by
  have h12 := hw.2.2.1
  have x := kb_add_r (F := F) (m := m) (a := nI A) (b := nI B) (c := c)
  constructor
  · obtain ⟨a, b, c, ⟨p1, p2, p3⟩, q⟩ := hw
    refine ⟨by rw [kb_add_o (by decide) (by omega)]; exact a, b, c, ⟨by omega, kb_add_1, fun r hr => ?_⟩, fun r hr => ?_⟩
    · by_cases e : r = m
      · subst e
        rw [x.1, x.2.1, x.2.2.1]
        exact ⟨kw_in_nI (by omega) (by decide), kw_in_nI (by omega) (by decide), hc.1, hc.2⟩
      · rw [kb_add_o (by omega) (by omega), kb_add_o (by omega) (by omega), kb_add_o (by omega) (by omega)]
        exact p3 r (by omega)
    · by_cases e : r = m
      · subst e
        rw [x.1, x.2.1, x.2.2.2, kn_clamp (by omega), kn_clamp (by omega)]
        exact ⟨hA, hB, Or.inr rfl⟩
      · rw [kb_add_o (by omega) (by omega), kb_add_o (by omega) (by omega), kb_add_o (by omega) (by omega)]
        exact q r (by omega)
  · refine kr_sub_good hg (fun r hr hu => ?_)
    have hr' : r < m + 1 := hr
    have hu' := of_decide_eq_true hu
    have hne : r ≠ m := fun e => hu'.2 (by rw [e])
    have hro : ∀ j, 28 ≤ j → j < 28 + 4 * m → kb_add F m (nI A) (nI B) c j = F j := fun j h1 h2 => by rw [kb_add_o (by omega) (by omega)]
    have hs := (kb_gr_same (m := m) hro (-1)).2 r (by show r < m; omega)
    refine ⟨by show r < m; omega, decide_eq_true ⟨?_, kb_neg1 (by omega)⟩, hs.1.symm, hs.2.1.symm, hs.2.2.1.symm⟩
    rw [← hro _ (by omega) (by omega)]
    exact hu'.1
/-- the roads that have come so far -/
def kn_I (n k m : Nat) (ρX ρM σX σM : kw_M) : Prop := kb_wf (σM.1 1) n m ∧ kr_good (km_gr (σM.1 1) m (-1)) ∧ kx_rd σX 10 (σM.1 1) m ∧ m ≤ k ∧ ((∀ c, c ≠ 10 → c ≠ 32 → c ≠ 33 → c ≠ 34 → σX.1 c = ρX.1 c) ∧ ∀ c, c ≠ 10 → c ≠ 41 → σX.2 c = ρX.2 c) ∧ (∀ c, c ≠ 1 → σM.1 c = ρM.1 c) ∧ (∀ c, c ≠ 2 → σM.2 c = ρM.2 c) ∧ ∀ j, j ≠ 1 → (j < 28 ∨ 172 ≤ j) → σM.1 1 j = ρM.1 1 j
def kn_fX (ρX σX : kw_M) : Prop := (∀ c, c ≠ 10 → c ≠ 32 → c ≠ 33 → c ≠ 34 → σX.1 c = ρX.1 c) ∧ ∀ c, c ≠ 10 → c ≠ 41 → σX.2 c = ρX.2 c
def kn_fM (ρM σM : kw_M) : Prop := (∀ c, c ≠ 1 → σM.1 c = ρM.1 c) ∧ (∀ c, c ≠ 2 → σM.2 c = ρM.2 c) ∧ ∀ j, j ≠ 1 → (j < 28 ∨ 172 ≤ j) → σM.1 1 j = ρM.1 1 j
theorem kn_roads {n K : Nat} {ρX ρM : kw_M} (hK : K ≤ 24) (hX1 : ρX.1 4 1 = nI K) (hM1 : ρM.1 0 12 = nI K) (hC : ∀ i, i < K → kt_C true n ρX ρM i) : ∀ (j k m : Nat) (σX σM : kw_M) (N N' : Nat), k + j = K → kn_I n k m ρX ρM σX σM → j + 2 ≤ N → j + 3 ≤ N' → ∃ x y, kw_loop (fun s => bX9_buildNet_16 s.1 s.2) N (nI k, σX) = some x ∧ kw_loop (fun s => bX10_net_38 s.1 s.2.1 s.2.2) N' ((0 : Int32), nI k, σM) = some y ∧ ((∃ τX τM, x = .inl ((-3 : Int32), τX) ∧ y = ((1 : Int32), τM) ∧ kn_fX ρX τX ∧ kn_fM ρM τM) ∨ ∃ m τX τM, x = .inr τX ∧ y = ((0 : Int32), τM) ∧ kn_I n K m ρX ρM τX τM)
  | 0, k, m, σX, σM, N, N', hk, I, hN, hN' => by
    obtain ⟨N, rfl⟩ : ∃ M, N = M + 1 := ⟨N - 1, by omega⟩
    obtain ⟨N', rfl⟩ : ∃ M, N' = M + 1 := ⟨N' - 1, by omega⟩
    have hkK : k = K := by omega
    subst hkK
    have I' := I
    obtain ⟨i1, i2, i3, i4, i5, i6, i7, i8⟩ := I
    refine ⟨_, _, ?_, ?_, Or.inr ⟨m, σX, σM, rfl, rfl, I'⟩⟩
    · rw [kw_loop_s]
      dsimp only
      unfold bX9_buildNet_16
      rw [i5.1 4 (by decide) (by decide) (by decide) (by decide), hX1, if_pos (nI_le (Nat.le_refl _) (by omega)), Option.bind_some]
    · rw [kw_loop_s]
      dsimp only
      unfold bX10_net_38
      rw [i6 0 (by decide), hM1, if_pos (nI_le (Nat.le_refl _) (by omega)), Option.bind_some]
  | j + 1, k, m, σX, σM, N, N', hk, I, hN, hN' => by
    obtain ⟨N, rfl⟩ : ∃ M, N = M + 1 + 1 := ⟨N - 2, by omega⟩
    obtain ⟨N', rfl⟩ : ∃ M, N' = M + 1 + 1 := ⟨N' - 2, by omega⟩
    have hkK : k < K := by omega
    obtain ⟨i1, i2, i3, i4, i5, i6, i7, i8⟩ := I
    obtain ⟨w, c1, c2, c3, c4, _, c6⟩ := hC k hkK
    have e4 : σX.1 4 = ρX.1 4 := i5.1 4 (by decide) (by decide) (by decide) (by decide)
    have e36 : σX.1 36 = ρX.1 36 := i5.1 36 (by decide) (by decide) (by decide) (by decide)
    have e37 : σX.1 37 = ρX.1 37 := i5.1 37 (by decide) (by decide) (by decide) (by decide)
    have stepX : ∀ s, bX9_buildNet_16 (nI k) σX = some (.inl s) → kw_loop (fun s => bX9_buildNet_16 s.1 s.2) (N + 1 + 1) (nI k, σX) = kw_loop (fun s => bX9_buildNet_16 s.1 s.2) (N + 1) s := fun s hs => by
      rw [kw_loop_s]
      dsimp only
      rw [hs, Option.bind_some]
    have stepM : ∀ s, bX10_net_38 0 (nI k) σM = some (.inl s) → kw_loop (fun s => bX10_net_38 s.1 s.2.1 s.2.2) (N' + 1 + 1) ((0 : Int32), nI k, σM) = kw_loop (fun s => bX10_net_38 s.1 s.2.1 s.2.2) (N' + 1) s := fun s hs => by
      rw [kw_loop_s]
      dsimp only
      rw [hs, Option.bind_some]
    have bX : bX9_buildNet_16 (nI k) σX = (if nI w = (1 : Int32) then ((fX3_number (nI k) (0 : Int32) σX).bind fun r5 => (fX3_number (nI k) (1 : Int32) σX).bind fun r6 => (fX3_number (nI k) (2 : Int32) σX).bind fun r7 => (fX4_addRoad r5 r6 r7 σX).bind fun r8 => if r8.1 < (0 : Int32) then (kw_let (nI k + (1 : Int32)) fun x10 => some (.inl (x10, r8.2))) else (fX4_makesBadRing r8.1 r8.2).bind fun r11 => if r11.1 = (0 : Int32) then (kw_let (nI k + (1 : Int32)) fun x13 => some (.inl (x13, r11.2))) else some (.inr (.inl ((-3 : Int32), r11.2)))) else kw_let (nI k + (1 : Int32)) fun x14 => some (.inl (x14, σX))) := by
      unfold bX9_buildNet_16
      rw [e4, hX1, if_neg (nI_ge hkK (by omega)), kn_chk (show k < 24 by omega) (by decide), kn_clamp (by omega), e36, c2]
    have bM : bX10_net_38 0 (nI k) σM = (if Int64.ofInt (kt_W w) = (605220 : Int64) then ((fX10_comes (σM.1 7 (3 * k)) (σM.1 7 (3 * k + 1)) (σM.1 7 (3 * k + 2)) σM).bind fun r15 => (fX10_isRing r15.1 r15.2).bind fun r16 => some (.inl (r16.1, nI (k + 1), r16.2))) else some (.inl ((0 : Int32), nI (k + 1), σM))) := by
      unfold bX10_net_38
      rw [i6 0 (by decide), hM1, if_neg (nI_ge hkK (by omega)), if_pos rfl, kn_chk (show k < 24 by omega) (by decide), kn_clamp (show k < 2147483648 by omega), i7 6 (by decide), c3, kn_3, kn_mul, km_next, km_next, kn_2, nI_add, kn_chk (show 3 * k < 72 by omega) (by decide), kn_chk (show 3 * k + 1 < 72 by omega) (by decide), kn_chk (show 3 * k + 2 < 72 by omega) (by decide), kn_clamp (show 3 * k < 2147483648 by omega), kn_clamp (show 3 * k + 1 < 2147483648 by omega), kn_clamp (show 3 * k + 2 < 2147483648 by omega)]
      rfl
    rcases c4 rfl with rfl | ⟨rfl, A, B, l, hA, hB, hAB, hl, z0, z1, z2⟩
    · -- towns: nothing comes
      rw [if_neg (show ¬ nI 0 = (1 : Int32) by decide), kw_let_def, km_next] at bX
      rw [if_neg (show ¬ Int64.ofInt (kt_W 0) = 605220 by decide)] at bM
      rw [stepX _ bX, stepM _ bM]
      exact kn_roads hK hX1 hM1 hC j (k + 1) m σX σM (N + 1) (N' + 1) (by omega) ⟨i1, i2, i3, by omega, i5, i6, i7, i8⟩ (by omega) (by omega)
    · have h36 : m < 36 := by omega
      have y0 : σM.1 7 (3 * k) = nI A := by
        rw [i6 7 (by decide), ← z0]
        exact (c6 (by decide) 0 (by decide)).symm
      have y1 : σM.1 7 (3 * k + 1) = nI B := by
        rw [i6 7 (by decide), ← z1]
        exact (c6 (by decide) 1 (by decide)).symm
      have y2 : σM.1 7 (3 * k + 2) = l := by
        rw [i6 7 (by decide), ← z2]
        exact (c6 (by decide) 2 (by decide)).symm
      have n0 : fX3_number (nI k) (0 : Int32) σX = some (nI A) := by
        rw [← z0, ← e37]
        exact kx_number37 (i := 0) (show k < 24 by omega) (by decide)
      have n1 : fX3_number (nI k) (1 : Int32) σX = some (nI B) := by
        rw [← z1, ← e37]
        exact kx_number37 (i := 1) (show k < 24 by omega) (by decide)
      have n2 : fX3_number (nI k) (2 : Int32) σX = some l := by
        rw [← z2, ← e37]
        exact kx_number37 (i := 2) (show k < 24 by omega) (by decide)
      obtain ⟨σ2, d1, d2, d3, d4⟩ := kx_addRoad (a := nI A) (b := nI B) (c := l) i3 i1.2.2.2.1.2.1 h36
      obtain ⟨hwG, hgood⟩ := kb_more (c := l) i1 i2 h36 hA hB hl
      have x := kb_add_r (F := σM.1 1) (m := m) (a := nI A) (b := nI B) (c := l)
      have hG : (kw_ri σM 1 (kb_add (σM.1 1) m (nI A) (nI B) l)).1 1 = kb_add (σM.1 1) m (nI A) (nI B) l := kw_ri_1 _ _ _
      obtain ⟨ρ2, q1, q2, q3⟩ := km_isRing' (σ := kw_ri σM 1 (kb_add (σM.1 1) m (nI A) (nI B) l)) (m := m + 1) (n := n) (r := m) (by rw [hG]; exact hwG.2.2.2.1) (by rw [hG]; exact hwG.1) (by have := i1.2.1; omega) i1.2.2.1 (by omega)
      rw [hG] at q1
      have hh : kb_hand (kb_add (σM.1 1) m (nI A) (nI B) l) n (m + 1) (nI m) (kb_ring (kb_add (σM.1 1) m (nI A) (nI B) l) n (m + 1) m) := Or.inr ⟨m, by omega, rfl, hgood, by rw [decide_eq_true x.2.2.2, Bool.true_and]⟩
      obtain ⟨σ3, b1, b2, b3⟩ := kx_bad' d2 hwG hh
      have hfile : ρ2.1 1 = kb_add (σM.1 1) m (nI A) (nI B) l := by rw [q2, hG]
      rw [if_pos (show nI 1 = (1 : Int32) by decide), n0, n1, n2, Option.bind_some, Option.bind_some, Option.bind_some, d1, Option.bind_some] at bX
      dsimp only at bX
      rw [if_neg (kn_neg (by omega)), b1, Option.bind_some] at bX
      dsimp only at bX
      simp only [kx_fl_0, kw_let_def, km_next] at bX
      rw [if_pos (show Int64.ofInt (kt_W 1) = 605220 by decide), y0, y1, y2, km_comes i1.2.2.2.1.2.1 h36, Option.bind_some] at bM
      dsimp only at bM
      rw [q1, Option.bind_some] at bM
      dsimp only at bM
      have FX : kn_fX ρX σ3 := ⟨fun c h1 h2 h3 h4 => by rw [b2, d3 c h1 h2 h3 h4]; exact i5.1 c h1 h2 h3 h4, fun c h1 h2 => by rw [b3 c h2, d4 c h1]; exact i5.2 c h1 h2⟩
      have FM : kn_fM ρM ρ2 := ⟨fun c hc => by rw [q2, kw_ri_o hc]; exact i6 c hc, fun c hc => by rw [q3 c hc]; exact i7 c hc, fun j h1 h2 => by rw [hfile, kb_add_o h1 (by omega)]; exact i8 j h1 h2⟩
      cases hring : kb_ring (kb_add (σM.1 1) m (nI A) (nI B) l) n (m + 1) m with
      | true =>
        rw [hring, kn_tf] at bX
        rw [hring] at bM
        refine ⟨_, _, ?_, ?_, Or.inl ⟨σ3, ρ2, rfl, rfl, FX, FM⟩⟩
        · rw [kw_loop_s]
          dsimp only
          rw [bX, Option.bind_some]
        · rw [stepM _ bM, kw_loop_s]
          dsimp only
          unfold bX10_net_38
          by_cases hle : (ρ2.1 0 12) ≤ nI (k + 1)
          · rw [if_pos hle, Option.bind_some]; rfl
          · rw [if_neg hle, if_neg (show ¬ kx_fl true = 0 by decide), Option.bind_some]; rfl
      | false =>
        rw [hring, kn_ff] at bX
        rw [hring] at bM
        rw [stepX _ bX, stepM _ bM]
        refine kn_roads hK hX1 hM1 hC j (k + 1) (m + 1) σ3 ρ2 (N + 1) (N' + 1) (by omega) ⟨?_, ?_, ?_, by omega, FX, FM.1, FM.2.1, FM.2.2⟩ (by omega) (by omega)
        · rw [hfile]; exact hwG
        · rw [hfile]; exact kb_good_in hwG (by omega) hgood hring
        · rw [hfile]
          exact kx_rd_fr d2 (by rw [b2]) (by rw [b2]) (by rw [b2]) (by rw [b2]) (b3 10 (by decide))
