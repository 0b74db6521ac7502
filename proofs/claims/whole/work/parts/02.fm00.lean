/-! The reference: what each method computes (written by program from its bytecode). -/
def fX10_in (a0 : Int64) (a1 : Int64) (a2 : Int64) (σ : kw_M) : Option (Int32) :=
 if a0 < a1 then
 (some (0 : Int32))
 else
 if a2 < a0 then
 (some (0 : Int32))
 else
 some (1 : Int32)
def fX10_min (a0 : Int32) (a1 : Int32) (σ : kw_M) : Option (Int32) :=
 if a1 ≤ a0 then
 (some a1)
 else
 some a0
def fX10_max (a0 : Int32) (a1 : Int32) (σ : kw_M) : Option (Int32) :=
 if a0 ≤ a1 then
 (some a1)
 else
 some a0
def fX10_has (a0 : Int32) (a1 : Int32) (σ : kw_M) : Option (Int32) :=
 if ((a0 >>> (a1 &&& 31)) &&& (1 : Int32)) = (1 : Int32) then
 (some (1 : Int32))
 else
 some (0 : Int32)
def bX10_copies_2 (v1 : Int32) (v2 : Int32) (v3 : Int32) (σ : kw_M) : Option ((Int32 × kw_M) ⊕ (kw_M)) :=
 if (708 : Int32) ≤ v3 then
 (some (.inr σ))
 else
 kw_chk (kw_in (((708 : Int32) * v1) + v3) 2832) <|
 kw_chk (kw_in (((708 : Int32) * v2) + v3) 2832) <|
 kw_let (kw_si σ 1 (((708 : Int32) * v2) + v3).toNatClampNeg (σ.1 1 (((708 : Int32) * v1) + v3).toNatClampNeg)) fun s4 =>
 kw_let (v3 + (1 : Int32)) fun x5 =>
 some (.inl (x5, s4))
def fX10_copies (a1 : Int32) (a2 : Int32) (σ : kw_M) : Option (kw_M) :=
 (kw_loop (fun s => bX10_copies_2 a1 a2 s.1 s.2) kw_F ((0 : Int32), σ)).bind fun x6 =>
 some x6
def fX10_towns (σ : kw_M) : Option (Int32) :=
 some (σ.1 1 0)
def fX10_of (a1 : Int32) (a2 : Int32) (σ : kw_M) : Option (Int32) :=
 kw_chk (kw_in (((28 : Int32) + ((4 : Int32) * a1)) + a2) 2832) <|
 some (σ.1 1 (((28 : Int32) + ((4 : Int32) * a1)) + a2).toNatClampNeg)
def fX10_sets (a1 : Int32) (a2 : Int32) (a3 : Int32) (σ : kw_M) : Option (kw_M) :=
 kw_chk (kw_in (((28 : Int32) + ((4 : Int32) * a1)) + a2) 2832) <|
 kw_let (kw_si σ 1 (((28 : Int32) + ((4 : Int32) * a1)) + a2).toNatClampNeg a3) fun s2 =>
 some s2
def fX10_isOpen (a1 : Int32) (σ : kw_M) : Option (Int32) :=
 (fX10_of a1 (3 : Int32) σ).bind fun r1 =>
 if r1 = (1 : Int32) then
 (some (1 : Int32))
 else
 some (0 : Int32)
def fX10_isTown (a1 : Int32) (σ : kw_M) : Option (Int32) :=
 (fX10_towns σ).bind fun r1 =>
 (fX10_in a1.toInt64 (0 : Int64) ((r1 - (1 : Int32)).toInt64) σ).bind fun r2 =>
 kw_chk (kw_isB r2) <| some r2
def fX10_isRoad (a1 : Int32) (σ : kw_M) : Option (Int32) :=
 (fX10_in a1.toInt64 (0 : Int64) (((σ.1 1 1) - (1 : Int32)).toInt64) σ).bind fun r1 =>
 kw_chk (kw_isB r1) <| some r1
def fX10_isLength (a0 : Int64) (σ : kw_M) : Option (Int32) :=
 (fX10_in a0 (-1000000000 : Int64) (1000000000 : Int64) σ).bind fun r1 =>
 kw_chk (kw_isB r1) <| some r1
def bX10_finds_2 (v1 : Int32) (v2 : Int32) (v3 : Int32) (σ : kw_M) : Option ((Int32 × kw_M) ⊕ (kw_M)) :=
 if (12 : Int32) ≤ v3 then
 (some (.inr σ))
 else
 if v3 = v1 then
 (kw_chk (kw_in v3 12) <|
 kw_let (kw_sl σ 2 v3.toNatClampNeg (0 : Int64)) fun s7 =>
 kw_let (v3 + (1 : Int32)) fun x8 =>
 some (.inl (x8, s7)))
 else
 kw_chk (kw_in v3 12) <|
 kw_let (kw_sl σ 2 v3.toNatClampNeg (900000000000000000 : Int64)) fun s4 =>
 kw_let (v3 + (1 : Int32)) fun x5 =>
 some (.inl (x5, s4))
def bX10_finds_45 (v2 : Int32) (v3 : Int32) (v4 : Int32) (σ : kw_M) : Option ((Int32 × kw_M) ⊕ (kw_M)) :=
 if (σ.1 1 1) ≤ v4 then
 (some (.inr σ))
 else
 if v4 = v2 then
 (kw_let (v4 + (1 : Int32)) fun x14 =>
 some (.inl (x14, σ)))
 else
 (fX10_isOpen v4 σ).bind fun r15 =>
 if r15 = (0 : Int32) then
 (kw_let (v4 + (1 : Int32)) fun x17 =>
 some (.inl (x17, σ)))
 else
 (fX10_of v4 (0 : Int32) σ).bind fun r18 =>
 kw_chk (kw_in r18 12) <|
 if (σ.2 2 r18.toNatClampNeg) = (900000000000000000 : Int64) then
 (kw_let (v4 + (1 : Int32)) fun x33 =>
 some (.inl (x33, σ)))
 else
 (fX10_of v4 (0 : Int32) σ).bind fun r21 =>
 kw_chk (kw_in r21 12) <|
 (fX10_of v4 (2 : Int32) σ).bind fun r23 =>
 kw_let ((σ.2 2 r21.toNatClampNeg) + r23.toInt64) fun x24 =>
 (fX10_of v4 (1 : Int32) σ).bind fun r25 =>
 kw_chk (kw_in r25 12) <|
 if (σ.2 2 r25.toNatClampNeg) ≤ x24 then
 (kw_let (v4 + (1 : Int32)) fun x28 =>
 some (.inl (x28, σ)))
 else
 (fX10_of v4 (1 : Int32) σ).bind fun r29 =>
 kw_chk (kw_in r29 12) <|
 kw_let (kw_sl σ 2 r29.toNatClampNeg x24) fun s31 =>
 kw_let (v4 + (1 : Int32)) fun x32 =>
 some (.inl (x32, s31))
def bX10_finds_34 (v2 : Int32) (v3 : Int32) (σ : kw_M) : Option ((Int32 × kw_M) ⊕ (kw_M)) :=
 (fX10_towns σ).bind fun r10 =>
 if r10 ≤ v3 then
 (some (.inr σ))
 else
 (kw_loop (fun s => bX10_finds_45 v2 v3 s.1 s.2) kw_F ((0 : Int32), σ)).bind fun x34 =>
 kw_let (v3 + (1 : Int32)) fun x35 =>
 some (.inl (x35, x34))
def fX10_finds (a1 : Int32) (a2 : Int32) (σ : kw_M) : Option (kw_M) :=
 (kw_loop (fun s => bX10_finds_2 a1 a2 s.1 s.2) kw_F ((0 : Int32), σ)).bind fun x9 =>
 (kw_loop (fun s => bX10_finds_34 a2 s.1 s.2) kw_F ((1 : Int32), x9)).bind fun x36 =>
 some x36
def bX10_settles_13 (v1 : Int32) (σ : kw_M) : Option ((Int32 × kw_M) ⊕ (kw_M)) :=
 if (12 : Int32) ≤ v1 then
 (some (.inr σ))
 else
 kw_chk (kw_in v1 12) <|
 kw_let (kw_sl σ 3 v1.toNatClampNeg (σ.2 2 v1.toNatClampNeg)) fun s4 =>
 kw_let (v1 + (1 : Int32)) fun x5 =>
 some (.inl (x5, s4))
def fX10_settles (σ : kw_M) : Option (kw_M) :=
 (fX10_finds (σ.1 1 2) (-1 : Int32) σ).bind fun r1 =>
 (kw_loop (fun s => bX10_settles_13 s.1 s.2) kw_F ((0 : Int32), r1)).bind fun x6 =>
 some x6
def fX10_told (a0 : Int64) (σ : kw_M) : Option (Int64) :=
 if a0 < (900000000000000000 : Int64) then
 (some a0)
 else
 some (-9000000000000000000 : Int64)
def fX10_isRing (a1 : Int32) (σ : kw_M) : Option (Int32 × kw_M) :=
 (fX10_of a1 (1 : Int32) σ).bind fun r1 =>
 (fX10_finds r1 a1 σ).bind fun r2 =>
 (fX10_of a1 (0 : Int32) r2).bind fun r3 =>
 kw_chk (kw_in r3 12) <|
 if (900000000000000000 : Int64) ≤ (r2.2 2 r3.toNatClampNeg) then
 (some ((0 : Int32), r2))
 else
 (fX10_of a1 (0 : Int32) r2).bind fun r6 =>
 kw_chk (kw_in r6 12) <|
 (fX10_of a1 (2 : Int32) r2).bind fun r8 =>
 if (0 : Int64) < ((r2.2 2 r6.toNatClampNeg) + r8.toInt64) then
 (some ((0 : Int32), r2))
 else
 some ((1 : Int32), r2)
def bX10_isTooFar_2 (σ : kw_M) (v1 : Int32) : Option ((Int32) ⊕ ((Int32) ⊕ (Unit))) :=
 (fX10_towns σ).bind fun r1 =>
 if r1 ≤ v1 then
 (some (.inr (.inr ())))
 else
 kw_chk (kw_in v1 12) <|
 if (900000000000000000 : Int64) ≤ (σ.2 3 v1.toNatClampNeg) then
 (kw_let (v1 + (1 : Int32)) fun x5 =>
 some (.inl x5))
 else
 if (σ.2 3 v1.toNatClampNeg) = ((σ.2 3 v1.toNatClampNeg).toInt32).toInt64 then
 (kw_let (v1 + (1 : Int32)) fun x7 =>
 some (.inl x7))
 else
 some (.inr (.inl (1 : Int32)))
def fX10_isTooFar (σ : kw_M) : Option (Int32) :=
 (kw_loop (fun s => bX10_isTooFar_2 σ s) kw_F (0 : Int32)).bind fun x8 =>
 Sum.elim (fun x8r => some x8r) (fun x8 =>
 some (0 : Int32)) x8
def fX10_isBeyond (a1 : Int32) (σ : kw_M) : Option (Int32) :=
 kw_chk (kw_in a1 12) <|
 kw_chk (kw_in (((172 : Int32) + ((3 : Int32) * a1)) + (1 : Int32)) 2832) <|
 if (σ.2 3 a1.toNatClampNeg) ≤ (σ.1 1 (((172 : Int32) + ((3 : Int32) * a1)) + (1 : Int32)).toNatClampNeg).toInt64 then
 (some (0 : Int32))
 else
 some (1 : Int32)
def jX10_notesEvent_151 (t0 : Int32) (t1 : Int32) (σ : kw_M) : Option (kw_M) :=
 kw_chk (kw_in t1 2832) <|
 kw_let (kw_si σ 1 t1.toNatClampNeg t0) fun s22 =>
 kw_let (kw_si s22 1 4 ((s22.1 1 4) + (1 : Int32))) fun s23 =>
 some s23
def jX10_notesEvent_125 (v1 : Int32) (v2 : Int32) (t0 : Int32) (t1 : Int32) (σ : kw_M) : Option (kw_M) :=
 kw_chk (kw_in t1 2832) <|
 kw_let (kw_si σ 1 t1.toNatClampNeg t0) fun s18 =>
 kw_chk (kw_in v1 12) <|
 if (s18.2 3 v1.toNatClampNeg) = (900000000000000000 : Int64) then
 (jX10_notesEvent_151 (0 : Int32) (v2 + (4 : Int32)) s18)
 else
 jX10_notesEvent_151 (1 : Int32) (v2 + (4 : Int32)) s18
def jX10_notesEvent_93 (v1 : Int32) (v2 : Int32) (t0 : Int32) (t1 : Int32) (σ : kw_M) : Option (kw_M) :=
 kw_chk (kw_in t1 2832) <|
 kw_let (kw_si σ 1 t1.toNatClampNeg t0) fun s14 =>
 kw_chk (kw_in v1 12) <|
 if (s14.2 3 v1.toNatClampNeg) = (900000000000000000 : Int64) then
 (jX10_notesEvent_125 v1 v2 (0 : Int32) (v2 + (3 : Int32)) s14)
 else
 jX10_notesEvent_125 v1 v2 ((s14.2 3 v1.toNatClampNeg).toInt32) (v2 + (3 : Int32)) s14
def jX10_notesEvent_26 (v1 : Int32) (t0 : Int32) (t1 : Int32) (σ : kw_M) : Option (kw_M) :=
 kw_chk (kw_in t1 2832) <|
 kw_let (kw_si σ 1 t1.toNatClampNeg t0) fun s4 =>
 if (s4.1 1 4) = (100 : Int32) then
 (some s4)
 else
 kw_let ((208 : Int32) + ((5 : Int32) * (s4.1 1 4))) fun x6 =>
 kw_chk (kw_in x6 2832) <|
 kw_let (kw_si s4 1 x6.toNatClampNeg (s4.1 1 3)) fun s8 =>
 kw_chk (kw_in (x6 + (1 : Int32)) 2832) <|
 kw_let (kw_si s8 1 (x6 + (1 : Int32)).toNatClampNeg v1) fun s10 =>
 (fX10_isBeyond v1 s10).bind fun r11 =>
 if r11 = (0 : Int32) then
 (jX10_notesEvent_93 v1 x6 (0 : Int32) (x6 + (2 : Int32)) s10)
 else
 jX10_notesEvent_93 v1 x6 (1 : Int32) (x6 + (2 : Int32)) s10
def fX10_notesEvent (a1 : Int32) (σ : kw_M) : Option (kw_M) :=
 (fX10_isBeyond a1 σ).bind fun r1 =>
 if r1 = (0 : Int32) then
 (jX10_notesEvent_26 a1 (0 : Int32) (((172 : Int32) + ((3 : Int32) * a1)) + (2 : Int32)) σ)
 else
 jX10_notesEvent_26 a1 (1 : Int32) (((172 : Int32) + ((3 : Int32) * a1)) + (2 : Int32)) σ
def bX10_touches_33 (v1 : Int32) (v2 : Int32) (v3 : Int32) (σ : kw_M) : Option ((Int32 × kw_M) ⊕ (Int32 × kw_M)) :=
 if v3 ≤ (0 : Int32) then
 (some (.inr (v3, σ)))
 else
 kw_chk (kw_in (((16 : Int32) + v3) - (1 : Int32)) 2832) <|
 kw_chk (kw_in (σ.1 1 (((16 : Int32) + v3) - (1 : Int32)).toNatClampNeg) 12) <|
 kw_chk (kw_in v2 12) <|
 if (σ.2 3 (σ.1 1 (((16 : Int32) + v3) - (1 : Int32)).toNatClampNeg).toNatClampNeg) ≤ (σ.2 3 v2.toNatClampNeg) then
 (some (.inr (v3, σ)))
 else
 kw_chk (kw_in ((16 : Int32) + v3) 2832) <|
 kw_let (kw_si σ 1 ((16 : Int32) + v3).toNatClampNeg (σ.1 1 (((16 : Int32) + v3) - (1 : Int32)).toNatClampNeg)) fun s11 =>
 kw_let (v3 - (1 : Int32)) fun x12 =>
 some (.inl (x12, s11))
def jX10_touches_90_L4 (v1 : Int32) (v2 : Int32) (v3 : Int32) (σ : kw_M) : Option ((Int32 × Int32 × kw_M) ⊕ (Int32 × kw_M)) :=
 kw_chk (kw_in ((16 : Int32) + v3) 2832) <|
 kw_let (kw_si σ 1 ((16 : Int32) + v3).toNatClampNeg v2) fun s15 =>
 kw_let (v1 + (1 : Int32)) fun x16 =>
 kw_let (v2 + (1 : Int32)) fun x17 =>
 some (.inl (x16, x17, s15))
def bX10_touches_4 (v1 : Int32) (v2 : Int32) (σ : kw_M) : Option ((Int32 × Int32 × kw_M) ⊕ (Int32 × kw_M)) :=
 (fX10_towns σ).bind fun r1 =>
 if r1 ≤ v2 then
 (some (.inr (v1, σ)))
 else
 kw_chk (kw_in v2 12) <|
 if (σ.2 3 v2.toNatClampNeg) = (σ.2 4 v2.toNatClampNeg) then
 (kw_let (v2 + (1 : Int32)) fun x18 =>
 some (.inl (v1, x18, σ)))
 else
 (kw_loop (fun s => bX10_touches_33 v1 v2 s.1 s.2) kw_F (v1, σ)).bind fun x13 =>
 jX10_touches_90_L4 v1 v2 x13.1 x13.2
def fX10_touches (σ : kw_M) : Option (Int32 × kw_M) :=
 (kw_loop (fun s => bX10_touches_4 s.1 s.2.1 s.2.2) kw_F ((0 : Int32), (0 : Int32), σ)).bind fun x19 =>
 kw_let (kw_si x19.2 1 6 x19.1) fun s20 =>
 some (x19.1, s20)
def bX10_begins_6 (v1 : Int32) (σ : kw_M) : Option ((Int32 × kw_M) ⊕ (kw_M)) :=
 if (12 : Int32) ≤ v1 then
 (some (.inr σ))
 else
 kw_chk (kw_in v1 12) <|
 kw_let (kw_sl σ 4 v1.toNatClampNeg (σ.2 3 v1.toNatClampNeg)) fun s4 =>
 kw_let (v1 + (1 : Int32)) fun x5 =>
 some (.inl (x5, s4))
def fX10_begins (σ : kw_M) : Option (kw_M) :=
 (fX10_settles σ).bind fun r1 =>
 (kw_loop (fun s => bX10_begins_6 s.1 s.2) kw_F ((0 : Int32), r1)).bind fun x6 =>
 (fX10_copies (0 : Int32) (2 : Int32) x6).bind fun r7 =>
 some r7
def jX10_ends_109_L57 (v3 : Int32) (t0 : Int32) (t1 : Int32) (σ : kw_M) : Option ((Int32 × kw_M) ⊕ (kw_M)) :=
 if t1 = t0 then
 (kw_let (v3 + (1 : Int32)) fun x14 =>
 some (.inl (x14, σ)))
 else
 (fX10_notesEvent v3 σ).bind fun r15 =>
 kw_let (v3 + (1 : Int32)) fun x16 =>
 some (.inl (x16, r15))
def bX10_ends_57 (v3 : Int32) (σ : kw_M) : Option ((Int32 × kw_M) ⊕ (kw_M)) :=
 (fX10_towns σ).bind fun r5 =>
 if r5 ≤ v3 then
 (some (.inr σ))
 else
 kw_chk (kw_in ((172 : Int32) + ((3 : Int32) * v3)) 2832) <|
 if (σ.1 1 ((172 : Int32) + ((3 : Int32) * v3)).toNatClampNeg) = (1 : Int32) then
 ((fX10_isBeyond v3 σ).bind fun r10 =>
 kw_chk (kw_in (((172 : Int32) + ((3 : Int32) * v3)) + (2 : Int32)) 2832) <|
 if (σ.1 1 (((172 : Int32) + ((3 : Int32) * v3)) + (2 : Int32)).toNatClampNeg) = (1 : Int32) then
 (jX10_ends_109_L57 v3 (1 : Int32) r10 σ)
 else
 jX10_ends_109_L57 v3 (0 : Int32) r10 σ)
 else
 kw_let (v3 + (1 : Int32)) fun x9 =>
 some (.inl (x9, σ))
def jX10_ends_29 (v2 : Int32) (σ : kw_M) : Option (Int32 × kw_M) :=
 if (0 : Int32) ≤ v2 then
 (kw_let (kw_si σ 1 3 ((σ.1 1 3) + (1 : Int32))) fun s4 =>
 (kw_loop (fun s => bX10_ends_57 s.1 s.2) kw_F ((0 : Int32), s4)).bind fun x17 =>
 (fX10_touches x17).bind fun r18 =>
 some (r18.1, r18.2))
 else
 (fX10_copies (2 : Int32) (0 : Int32) σ).bind fun r19 =>
 some (v2, r19)
def jX10_ends_10 (t0 : Int32) (σ : kw_M) : Option (Int32 × kw_M) :=
 if t0 = (0 : Int32) then
 ((fX10_settles σ).bind fun r20 =>
 (fX10_isTooFar r20).bind fun r21 =>
 if r21 = (0 : Int32) then
 (jX10_ends_29 t0 r20)
 else
 jX10_ends_29 (-4 : Int32) r20)
 else
 jX10_ends_29 t0 σ
def fX10_ends (a1 : Int32) (σ : kw_M) : Option (Int32 × kw_M) :=
 if a1 = (0 : Int32) then
 (jX10_ends_10 (0 : Int32) σ)
 else
 jX10_ends_10 (-3 : Int32) σ
def fX10_comes (a1 : Int32) (a2 : Int32) (a3 : Int32) (σ : kw_M) : Option (Int32 × kw_M) :=
 kw_let (σ.1 1 1) fun x1 =>
 kw_let (kw_si σ 1 1 (x1 + (1 : Int32))) fun s2 =>
 (fX10_sets x1 (0 : Int32) a1 s2).bind fun r3 =>
 (fX10_sets x1 (1 : Int32) a2 r3).bind fun r4 =>
 (fX10_sets x1 (2 : Int32) a3 r4).bind fun r5 =>
 (fX10_sets x1 (3 : Int32) (1 : Int32) r5).bind fun r6 =>
 some (x1, r6)
def fX10_lay (a1 : Int32) (a2 : Int32) (a3 : Int32) (σ : kw_M) : Option (Int32 × kw_M) :=
 (fX10_isTown a1 σ).bind fun r1 =>
 if r1 = (0 : Int32) then
 (some ((-1 : Int32), σ))
 else
 (fX10_isTown a2 σ).bind fun r3 =>
 if r3 = (0 : Int32) then
 (some ((-1 : Int32), σ))
 else
 if a1 = a2 then
 (some ((-1 : Int32), σ))
 else
 (fX10_isLength a3.toInt64 σ).bind fun r6 =>
 if r6 = (0 : Int32) then
 (some ((-1 : Int32), σ))
 else
 if (σ.1 1 1) = (36 : Int32) then
 (some ((-5 : Int32), σ))
 else
 (fX10_begins σ).bind fun r9 =>
 (fX10_comes a1 a2 a3 r9).bind fun r10 =>
 (fX10_isRing r10.1 r10.2).bind fun r11 =>
 (fX10_ends r11.1 r11.2).bind fun r12 =>
 if (0 : Int32) ≤ r12.1 then
 (some (r10.1, r12.2))
 else
 some (r12.1, r12.2)
def jX10_length_64 (t0 : Int32) (σ : kw_M) : Option (Int32 × kw_M) :=
 (fX10_ends t0 σ).bind fun r11 =>
 some (r11.1, r11.2)
def jX10_length_63 (σ : kw_M) : Option (Int32 × kw_M) :=
 jX10_length_64 (0 : Int32) σ
def fX10_length (a1 : Int32) (a2 : Int32) (σ : kw_M) : Option (Int32 × kw_M) :=
 (fX10_isRoad a1 σ).bind fun r1 =>
 if r1 = (0 : Int32) then
 (some ((-1 : Int32), σ))
 else
 (fX10_isLength a2.toInt64 σ).bind fun r3 =>
 if r3 = (0 : Int32) then
 (some ((-1 : Int32), σ))
 else
 (fX10_of a1 (2 : Int32) σ).bind fun r5 =>
 if r5 = a2 then
 (some ((-2 : Int32), σ))
 else
 (fX10_begins σ).bind fun r7 =>
 (fX10_sets a1 (2 : Int32) a2 r7).bind fun r8 =>
 (fX10_isOpen a1 r8).bind fun r9 =>
 if r9 = (0 : Int32) then
 (jX10_length_63 r8)
 else
 (fX10_isRing a1 r8).bind fun r12 =>
 if r12.1 = (0 : Int32) then
 (jX10_length_63 r12.2)
 else
 jX10_length_64 (1 : Int32) r12.2
def jX10_turns_53 (t0 : Int32) (σ : kw_M) : Option (Int32 × kw_M) :=
 (fX10_ends t0 σ).bind fun r8 =>
 some (r8.1, r8.2)
def jX10_turns_52 (σ : kw_M) : Option (Int32 × kw_M) :=
 jX10_turns_53 (0 : Int32) σ
def fX10_turns (a1 : Int32) (a2 : Int32) (σ : kw_M) : Option (Int32 × kw_M) :=
 (fX10_isRoad a1 σ).bind fun r1 =>
 if r1 = (0 : Int32) then
 (some ((-1 : Int32), σ))
 else
 (fX10_of a1 (3 : Int32) σ).bind fun r3 =>
 if r3 = a2 then
 (some ((-2 : Int32), σ))
 else
 (fX10_begins σ).bind fun r5 =>
 (fX10_sets a1 (3 : Int32) a2 r5).bind fun r6 =>
 if a2 = (1 : Int32) then
 ((fX10_isRing a1 r6).bind fun r9 =>
 if r9.1 = (0 : Int32) then
 (jX10_turns_52 r9.2)
 else
 jX10_turns_53 (1 : Int32) r9.2)
 else
 jX10_turns_52 r6
def fX10_close (a1 : Int32) (σ : kw_M) : Option (Int32 × kw_M) :=
 (fX10_turns a1 (0 : Int32) σ).bind fun r1 =>
 some (r1.1, r1.2)
def fX10_open (a1 : Int32) (σ : kw_M) : Option (Int32 × kw_M) :=
 (fX10_turns a1 (1 : Int32) σ).bind fun r1 =>
 some (r1.1, r1.2)
def fX10_origin (a1 : Int32) (σ : kw_M) : Option (Int32 × kw_M) :=
 (fX10_isTown a1 σ).bind fun r1 =>
 if r1 = (0 : Int32) then
 (some ((-1 : Int32), σ))
 else
 if a1 = (σ.1 1 2) then
 (some ((-2 : Int32), σ))
 else
 (fX10_begins σ).bind fun r4 =>
 kw_let (kw_si r4 1 2 a1) fun s5 =>
 (fX10_ends (0 : Int32) s5).bind fun r6 =>
 some (r6.1, r6.2)
def fX10_touched (a1 : Int32) (σ : kw_M) : Option (Int32) :=
 if (0 : Int32) ≤ a1 then
 (if (σ.1 1 6) ≤ a1 then
 (some (-4 : Int32))
 else
 kw_chk (kw_in ((16 : Int32) + a1) 2832) <|
 some (σ.1 1 ((16 : Int32) + a1).toNatClampNeg))
 else
 some (-1 : Int32)
def bX10_types_2 (v1 : Int32) (v2 : Int32) (σ : kw_M) : Option ((Int32 × kw_M) ⊕ (kw_M)) :=
 if v2 < (0 : Int32) then
 (some (.inr σ))
 else
 kw_chk (kw_in (σ.1 0 6) 240) <|
 kw_let (kw_si σ 5 (σ.1 0 6).toNatClampNeg (vp_nar .byte ((v1 >>> (((8 : Int32) * v2) &&& 31)).toInt8.toInt32))) fun s3 =>
 kw_let (kw_si s3 0 6 ((s3.1 0 6) + (1 : Int32))) fun s4 =>
 kw_let (v2 + (-1 : Int32)) fun x5 =>
 some (.inl (x5, s4))
def fX10_types (a1 : Int32) (σ : kw_M) : Option (kw_M) :=
 (kw_loop (fun s => bX10_types_2 a1 s.1 s.2) kw_F ((3 : Int32), σ)).bind fun x6 =>
 some x6
def fX10_feed (a1 : Int32) (a2 : Int32) (a3 : Int32) (a4 : Int32) (a5 : Int32) (σ : kw_M) : Option (Int32 × kw_M) :=
 if ((σ.1 0 6) + (20 : Int32)) ≤ (240 : Int32) then
 ((fX10_types a1 σ).bind fun r2 =>
 (fX10_types a2 r2).bind fun r3 =>
 (fX10_types a3 r3).bind fun r4 =>
 (fX10_types a4 r4).bind fun r5 =>
 (fX10_types a5 r5).bind fun r6 =>
 some ((r6.1 0 6), r6))
 else
 some ((-1 : Int32), σ)
def fX10_here (σ : kw_M) : Option (Int32) :=
 if (σ.1 0 8) ≤ (σ.1 0 7) then
 (some (-1 : Int32))
 else
 kw_chk (kw_in (σ.1 0 7) 240) <|
 some ((σ.1 5 (σ.1 0 7).toNatClampNeg) &&& (255 : Int32))
def fX10_wrongAt (a1 : Int32) (a2 : Int32) (σ : kw_M) : Option (Int32 × kw_M) :=
 kw_let (kw_si σ 0 9 (((-1000 : Int32) * a1) - a2)) fun s1 =>
 some ((0 : Int32), s1)
def fX10_takesSign (a1 : Int32) (σ : kw_M) : Option (Int32 × kw_M) :=
 (fX10_here σ).bind fun r1 =>
 if r1 = a1 then
 (kw_let (kw_si σ 0 7 ((σ.1 0 7) + (1 : Int32))) fun s3 =>
 some ((1 : Int32), s3))
 else
 (fX10_wrongAt (1 : Int32) (σ.1 0 7) σ).bind fun r4 =>
 kw_chk (kw_isB r4.1) <| some (r4.1, r4.2)
def bX10_readsWord_13 (σ : kw_M) : Option ((kw_M) ⊕ (kw_M)) :=
 (fX10_here σ).bind fun r3 =>
 (fX10_in r3.toInt64 (97 : Int64) (122 : Int64) σ).bind fun r4 =>
 if r4 = (0 : Int32) then
 (some (.inr σ))
 else
 if (8 : Int32) ≤ ((σ.1 0 7) - (σ.1 0 11)) then
 (kw_let (kw_si σ 0 7 ((σ.1 0 7) + (1 : Int32))) fun s7 =>
 some (.inl s7))
 else
 (fX10_here σ).bind fun r8 =>
 kw_let (kw_sl σ 0 13 (((((32 : Int64) * (σ.2 0 13)) + r8.toInt64) - (97 : Int64)) + (1 : Int64))) fun s9 =>
 kw_let (kw_si s9 0 7 ((s9.1 0 7) + (1 : Int32))) fun s10 =>
 some (.inl s10)
def fX10_readsWord (σ : kw_M) : Option (kw_M) :=
 kw_let (kw_si σ 0 11 (σ.1 0 7)) fun s1 =>
 kw_let (kw_sl s1 0 13 (0 : Int64)) fun s2 =>
 (kw_loop (fun s => bX10_readsWord_13 s) kw_F s2).bind fun x11 =>
 if ((x11.1 0 7) - (x11.1 0 11)) ≤ (8 : Int32) then
 (some x11)
 else
 kw_let (kw_sl x11 0 13 (-1 : Int64)) fun s13 =>
 some s13
def bX10_readsNumber_88 (v1 : Int64) (v3 : Int64) (v5 : Int32) (v6 : Int32) (σ : kw_M) : Option ((kw_M) ⊕ ((Int32 × kw_M) ⊕ (kw_M))) :=
 (fX10_here σ).bind fun r12 =>
 (fX10_in r12.toInt64 (48 : Int64) (57 : Int64) σ).bind fun r13 =>
 if r13 = (0 : Int32) then
 (some (.inr (.inr σ)))
 else
 if (σ.1 0 7) = (v6 + (10 : Int32)) then
 ((fX10_wrongAt (2 : Int32) (σ.1 0 7) σ).bind fun r19 =>
 kw_chk (kw_isB r19.1) <| some (.inr (.inl (r19.1, r19.2))))
 else
 (fX10_here σ).bind fun r16 =>
 kw_let (kw_sl σ 0 14 ((((10 : Int64) * (σ.2 0 14)) + r16.toInt64) - (48 : Int64))) fun s17 =>
 kw_let (kw_si s17 0 7 ((s17.1 0 7) + (1 : Int32))) fun s18 =>
 some (.inl s18)
def jX10_readsNumber_176 (v1 : Int64) (v3 : Int64) (σ : kw_M) : Option (Int32 × kw_M) :=
 (fX10_in (σ.2 0 14) v1 v3 σ).bind fun r23 =>
 if r23 = (0 : Int32) then
 ((fX10_wrongAt (3 : Int32) (σ.1 0 10) σ).bind fun r25 =>
 if r25.1 = (0 : Int32) then
 (some ((0 : Int32), r25.2))
 else
 some ((1 : Int32), r25.2))
 else
 some ((1 : Int32), σ)
def jX10_readsNumber_50 (v1 : Int64) (v3 : Int64) (v5 : Int32) (σ : kw_M) : Option (Int32 × kw_M) :=
 kw_let (σ.1 0 7) fun x7 =>
 (fX10_here σ).bind fun r8 =>
 (fX10_in r8.toInt64 (48 : Int64) (57 : Int64) σ).bind fun r9 =>
 if r9 = (0 : Int32) then
 ((fX10_wrongAt (1 : Int32) (σ.1 0 7) σ).bind fun r28 =>
 kw_chk (kw_isB r28.1) <| some (r28.1, r28.2))
 else
 kw_let (kw_sl σ 0 14 (0 : Int64)) fun s11 =>
 (kw_loop (fun s => bX10_readsNumber_88 v1 v3 v5 x7 s) kw_F s11).bind fun x21 =>
 Sum.elim (fun x21r => some x21r) (fun x21 =>
 if v5 = (0 : Int32) then
 (jX10_readsNumber_176 v1 v3 x21)
 else
 kw_let (kw_sl x21 0 14 (-(x21.2 0 14))) fun s27 =>
 jX10_readsNumber_176 v1 v3 s27) x21
def jX10_readsNumber_33 (v1 : Int64) (v3 : Int64) (t0 : Int32) (σ : kw_M) : Option (Int32 × kw_M) :=
 if t0 = (0 : Int32) then
 (jX10_readsNumber_50 v1 v3 t0 σ)
 else
 kw_let (kw_si σ 0 7 ((σ.1 0 7) + (1 : Int32))) fun s30 =>
 jX10_readsNumber_50 v1 v3 t0 s30
def fX10_readsNumber (a1 : Int64) (a2 : Int64) (σ : kw_M) : Option (Int32 × kw_M) :=
 (fX10_takesSign (32 : Int32) σ).bind fun r1 =>
 if r1.1 = (0 : Int32) then
 (some ((0 : Int32), r1.2))
 else
 kw_let (kw_si r1.2 0 10 (r1.2.1 0 7)) fun s3 =>
 (fX10_here s3).bind fun r4 =>
 if r4 = (45 : Int32) then
 (jX10_readsNumber_33 a1 a2 (1 : Int32) s3)
 else
 jX10_readsNumber_33 a1 a2 (0 : Int32) s3
def fX10_keepsNumber (a1 : Int32) (σ : kw_M) : Option (Int32 × kw_M) :=
 kw_chk (kw_in (((3 : Int32) * (σ.1 0 12)) + a1) 72) <|
 kw_let (kw_si σ 7 (((3 : Int32) * (σ.1 0 12)) + a1).toNatClampNeg ((σ.2 0 14).toInt32)) fun s2 =>
 some ((1 : Int32), s2)
def fX10_readsRoad (a1 : Int32) (σ : kw_M) : Option (Int32 × kw_M) :=
 (fX10_readsNumber (0 : Int64) ((a1 - (1 : Int32)).toInt64) σ).bind fun r1 =>
 if r1.1 = (0 : Int32) then
 (some ((0 : Int32), r1.2))
 else
 kw_let (r1.2.2 0 14) fun x3 =>
 (fX10_keepsNumber (0 : Int32) r1.2).bind fun r4 =>
 if r4.1 = (0 : Int32) then
 (some ((0 : Int32), r4.2))
 else
 (fX10_readsNumber (0 : Int64) ((a1 - (1 : Int32)).toInt64) r4.2).bind fun r6 =>
 if r6.1 = (0 : Int32) then
 (some ((0 : Int32), r6.2))
 else
 if (r6.2.2 0 14) = x3 then
 ((fX10_wrongAt (6 : Int32) (r6.2.1 0 10) r6.2).bind fun r15 =>
 kw_chk (kw_isB r15.1) <| some (r15.1, r15.2))
 else
 (fX10_keepsNumber (1 : Int32) r6.2).bind fun r9 =>
 if r9.1 = (0 : Int32) then
 (some ((0 : Int32), r9.2))
 else
 (fX10_readsNumber (-1000000000 : Int64) (1000000000 : Int64) r9.2).bind fun r11 =>
 if r11.1 = (0 : Int32) then
 (some ((0 : Int32), r11.2))
 else
 (fX10_keepsNumber (2 : Int32) r11.2).bind fun r13 =>
 if r13.1 = (0 : Int32) then
 (some ((0 : Int32), r13.2))
 else
 some ((1 : Int32), r13.2)
def jX10_readsNet_61 (σ : kw_M) : Option (Int32 × kw_M) :=
 if (σ.2 0 13) = (605220 : Int64) then
 ((fX10_readsRoad (σ.1 0 17) σ).bind fun r8 =>
 kw_chk (kw_isB r8.1) <| some (r8.1, r8.2))
 else
 (fX10_wrongAt (1 : Int32) (σ.1 0 11) σ).bind fun r6 =>
 kw_chk (kw_isB r6.1) <| some (r6.1, r6.2)
def fX10_readsNet (σ : kw_M) : Option (Int32 × kw_M) :=
 (fX10_readsWord σ).bind fun r1 =>
 kw_chk (kw_in (r1.1 0 12) 24) <|
 kw_let (kw_sl r1 6 (r1.1 0 12).toNatClampNeg (r1.2 0 13)) fun s3 =>
 if (s3.2 0 13) = (21487059 : Int64) then
 (if (s3.1 0 12) = (0 : Int32) then
 ((fX10_readsNumber (2 : Int64) (12 : Int64) s3).bind fun r11 =>
 if r11.1 = (0 : Int32) then
 (some ((0 : Int32), r11.2))
 else
 kw_let (kw_si r11.2 0 17 ((r11.2.2 0 14).toInt32)) fun s13 =>
 some ((1 : Int32), s13))
 else
 jX10_readsNet_61 s3)
 else
 jX10_readsNet_61 s3
def jX10_readsOrder_108 (σ : kw_M) : Option (Int32 × kw_M) :=
 (fX10_readsNumber (0 : Int64) (35 : Int64) σ).bind fun r9 =>
 if r9.1 = (0 : Int32) then
 (some ((0 : Int32), r9.2))
 else
 (fX10_keepsNumber (0 : Int32) r9.2).bind fun r11 =>
 if r11.1 = (0 : Int32) then
 (some ((0 : Int32), r11.2))
 else
 some ((1 : Int32), r11.2)
def jX10_readsOrder_149 (v3 : Int32) (σ : kw_M) : Option (Int32 × kw_M) :=
 (fX10_readsNumber (0 : Int64) ((v3 - (1 : Int32)).toInt64) σ).bind fun r15 =>
 if r15.1 = (0 : Int32) then
 (some ((0 : Int32), r15.2))
 else
 (fX10_keepsNumber (0 : Int32) r15.2).bind fun r17 =>
 if r17.1 = (0 : Int32) then
 (some ((0 : Int32), r17.2))
 else
 some ((1 : Int32), r17.2)
def fX10_readsOrder (σ : kw_M) : Option (Int32 × kw_M) :=
 (fX10_readsWord σ).bind fun r1 =>
 kw_let (r1.2 0 13) fun x2 =>
 kw_chk (kw_in (r1.1 0 12) 24) <|
 kw_let (kw_sl r1 6 (r1.1 0 12).toNatClampNeg x2) fun s4 =>
 (fX10_towns s4).bind fun r5 =>
 if x2 = (12345 : Int64) then
 ((fX10_readsRoad r5 s4).bind fun r39 =>
 kw_chk (kw_isB r39.1) <| some (r39.1, r39.2))
 else
 if x2 = (408362632 : Int64) then
 ((fX10_readsNumber (0 : Int64) (35 : Int64) s4).bind fun r31 =>
 if r31.1 = (0 : Int32) then
 (some ((0 : Int32), r31.2))
 else
 (fX10_keepsNumber (0 : Int32) r31.2).bind fun r33 =>
 if r33.1 = (0 : Int32) then
 (some ((0 : Int32), r33.2))
 else
 (fX10_readsNumber (-1000000000 : Int64) (1000000000 : Int64) r33.2).bind fun r35 =>
 if r35.1 = (0 : Int32) then
 (some ((0 : Int32), r35.2))
 else
 (fX10_keepsNumber (1 : Int32) r35.2).bind fun r37 =>
 if r37.1 = (0 : Int32) then
 (some ((0 : Int32), r37.2))
 else
 some ((1 : Int32), r37.2))
 else
 if x2 = (3554917 : Int64) then
 (jX10_readsOrder_108 s4)
 else
 if x2 = (508078 : Int64) then
 (jX10_readsOrder_108 s4)
 else
 if x2 = (522493230 : Int64) then
 (jX10_readsOrder_149 r5 s4)
 else
 if x2 = (217652404 : Int64) then
 (jX10_readsOrder_149 r5 s4)
 else
 if x2 = (24170600 : Int64) then
 ((fX10_readsNumber (0 : Int64) ((r5 - (1 : Int32)).toInt64) s4).bind fun r23 =>
 if r23.1 = (0 : Int32) then
 (some ((0 : Int32), r23.2))
 else
 (fX10_keepsNumber (0 : Int32) r23.2).bind fun r25 =>
 if r25.1 = (0 : Int32) then
 (some ((0 : Int32), r25.2))
 else
 (fX10_readsNumber (-1000000000 : Int64) (1000000000 : Int64) r25.2).bind fun r27 =>
 if r27.1 = (0 : Int32) then
 (some ((0 : Int32), r27.2))
 else
 (fX10_keepsNumber (1 : Int32) r27.2).bind fun r29 =>
 if r29.1 = (0 : Int32) then
 (some ((0 : Int32), r29.2))
 else
 some ((1 : Int32), r29.2))
 else
 (fX10_wrongAt (1 : Int32) (s4.1 0 11) s4).bind fun r21 =>
 kw_chk (kw_isB r21.1) <| some (r21.1, r21.2)
def fX10_readsClause (a1 : Int32) (σ : kw_M) : Option (Int32 × kw_M) :=
 if (σ.1 0 12) = (24 : Int32) then
 ((fX10_wrongAt (4 : Int32) (σ.1 0 7) σ).bind fun r9 =>
 kw_chk (kw_isB r9.1) <| some (r9.1, r9.2))
 else
 if a1 = (0 : Int32) then
 ((fX10_readsOrder σ).bind fun r3 =>
 if r3.1 = (0 : Int32) then
 (some ((0 : Int32), r3.2))
 else
 kw_let (kw_si r3.2 0 12 ((r3.2.1 0 12) + (1 : Int32))) fun s5 =>
 some ((1 : Int32), s5))
 else
 (fX10_readsNet σ).bind fun r6 =>
 if r6.1 = (0 : Int32) then
 (some ((0 : Int32), r6.2))
 else
 kw_let (kw_si r6.2 0 12 ((r6.2.1 0 12) + (1 : Int32))) fun s8 =>
 some ((1 : Int32), s8)
def bX10_readsText_31 (v2 : Int32) (v3 : Int32) (σ : kw_M) : Option ((Int32 × kw_M) ⊕ (Int32 × kw_M)) :=
 if v3 = (0 : Int32) then
 (some (.inr (v3, σ)))
 else
 if (σ.1 0 8) ≤ (σ.1 0 7) then
 (some (.inr (v3, σ)))
 else
 (fX10_takesSign (59 : Int32) σ).bind fun r9 =>
 if r9.1 = (0 : Int32) then
 (some (.inl ((0 : Int32), r9.2)))
 else
 (fX10_readsClause v2 r9.2).bind fun r11 =>
 if r11.1 = (0 : Int32) then
 (some (.inl ((0 : Int32), r11.2)))
 else
 some (.inl ((1 : Int32), r11.2))
def fX10_readsText (a1 : Int32) (a2 : Int32) (σ : kw_M) : Option (Int32 × kw_M) :=
 kw_let (kw_si σ 0 7 (0 : Int32)) fun s1 =>
 kw_let (kw_si s1 0 8 a1) fun s2 =>
 kw_let (kw_si s2 0 6 (0 : Int32)) fun s3 =>
 kw_let (kw_si s3 0 12 (0 : Int32)) fun s4 =>
 kw_let (kw_si s4 0 17 (2 : Int32)) fun s5 =>
 (fX10_readsClause a2 s5).bind fun r6 =>
 (kw_loop (fun s => bX10_readsText_31 a2 s.1 s.2) kw_F (r6.1, r6.2)).bind fun x13 =>
 kw_chk (kw_isB x13.1) <| some (x13.1, x13.2)
def fX10_isText (a1 : Int32) (σ : kw_M) : Option (Int32) :=
 (fX10_in a1.toInt64 (1 : Int64) (200 : Int64) σ).bind fun r1 =>
 if r1 = (0 : Int32) then
 (some (0 : Int32))
 else
 if (σ.1 0 6) < a1 then
 (some (0 : Int32))
 else
 some (1 : Int32)
def bX10_empties_9 (v1 : Int32) (v2 : Int32) (σ : kw_M) : Option ((Int32 × kw_M) ⊕ (kw_M)) :=
 if (708 : Int32) ≤ v2 then
 (some (.inr σ))
 else
 kw_chk (kw_in v2 2832) <|
 kw_let (kw_si σ 1 v2.toNatClampNeg (0 : Int32)) fun s4 =>
 kw_let (v2 + (1 : Int32)) fun x5 =>
 some (.inl (x5, s4))
def fX10_empties (σ : kw_M) : Option (kw_M) :=
 kw_let (σ.1 1 5) fun x1 =>
 (kw_loop (fun s => bX10_empties_9 x1 s.1 s.2) kw_F ((0 : Int32), σ)).bind fun x6 =>
 kw_let (kw_si x6 1 5 x1) fun s7 =>
 kw_let (kw_si s7 1 0 (s7.1 0 17)) fun s8 =>
 some s8
def bX10_net_38 (v2 : Int32) (v3 : Int32) (σ : kw_M) : Option ((Int32 × Int32 × kw_M) ⊕ (Int32 × kw_M)) :=
 if (σ.1 0 12) ≤ v3 then
 (some (.inr (v2, σ)))
 else
 if v2 = (0 : Int32) then
 (kw_chk (kw_in v3 24) <|
 if (σ.2 6 v3.toNatClampNeg) = (605220 : Int64) then
 (kw_chk (kw_in ((3 : Int32) * v3) 72) <|
 kw_chk (kw_in (((3 : Int32) * v3) + (1 : Int32)) 72) <|
 kw_chk (kw_in (((3 : Int32) * v3) + (2 : Int32)) 72) <|
 (fX10_comes (σ.1 7 ((3 : Int32) * v3).toNatClampNeg) (σ.1 7 (((3 : Int32) * v3) + (1 : Int32)).toNatClampNeg) (σ.1 7 (((3 : Int32) * v3) + (2 : Int32)).toNatClampNeg) σ).bind fun r15 =>
 (fX10_isRing r15.1 r15.2).bind fun r16 =>
 kw_let (v3 + (1 : Int32)) fun x17 =>
 some (.inl (r16.1, x17, r16.2)))
 else
 kw_let (v3 + (1 : Int32)) fun x11 =>
 some (.inl (v2, x11, σ)))
 else
 some (.inr (v2, σ))
def jX10_net_139 (v3 : Int32) (σ : kw_M) : Option (Int32 × kw_M) :=
 if (0 : Int32) ≤ v3 then
 (kw_let (kw_si σ 0 1 (0 : Int32)) fun s23 =>
 some ((s23.1 0 12), s23))
 else
 (fX10_copies (2 : Int32) (0 : Int32) σ).bind fun r24 =>
 some (v3, r24)
def jX10_net_125 (v2 : Int32) (v3 : Int32) (σ : kw_M) : Option (Int32 × kw_M) :=
 if v2 = (0 : Int32) then
 ((fX10_isTooFar σ).bind fun r25 =>
 if r25 = (0 : Int32) then
 (jX10_net_139 v3 σ)
 else
 jX10_net_139 (-4 : Int32) σ)
 else
 jX10_net_139 v3 σ
def jX10_net_116 (v2 : Int32) (t0 : Int32) (σ : kw_M) : Option (Int32 × kw_M) :=
 if v2 = (0 : Int32) then
 ((fX10_settles σ).bind fun r27 =>
 jX10_net_125 v2 t0 r27)
 else
 jX10_net_125 v2 t0 σ
def jX10_net_106 (v2 : Int32) (σ : kw_M) : Option (Int32 × kw_M) :=
 if v2 = (0 : Int32) then
 (jX10_net_116 v2 (0 : Int32) σ)
 else
 jX10_net_116 v2 (-3 : Int32) σ
def fX10_net (a1 : Int32) (σ : kw_M) : Option (Int32 × kw_M) :=
 (fX10_isText a1 σ).bind fun r1 =>
 if r1 = (0 : Int32) then
 (some ((-1 : Int32), σ))
 else
 (fX10_readsText a1 (1 : Int32) σ).bind fun r3 =>
 if r3.1 = (0 : Int32) then
 (some ((r3.2.1 0 9), r3.2))
 else
 (fX10_copies (0 : Int32) (2 : Int32) r3.2).bind fun r5 =>
 (fX10_empties r5).bind fun r6 =>
 (kw_loop (fun s => bX10_net_38 s.1 s.2.1 s.2.2) kw_F ((0 : Int32), (0 : Int32), r6)).bind fun x18 =>
 jX10_net_106 x18.1 x18.2
def fX10_watch (a1 : Int32) (a2 : Int32) (σ : kw_M) : Option (Int32 × kw_M) :=
 (fX10_isTown a1 σ).bind fun r1 =>
 if r1 = (0 : Int32) then
 (some ((-1 : Int32), σ))
 else
 (fX10_isLength a2.toInt64 σ).bind fun r3 =>
 if r3 = (0 : Int32) then
 (some ((-1 : Int32), σ))
 else
 (fX10_settles σ).bind fun r5 =>
 kw_let ((172 : Int32) + ((3 : Int32) * a1)) fun x6 =>
 kw_chk (kw_in x6 2832) <|
 kw_let (kw_si r5 1 x6.toNatClampNeg (1 : Int32)) fun s8 =>
 kw_chk (kw_in (x6 + (1 : Int32)) 2832) <|
 kw_let (kw_si s8 1 (x6 + (1 : Int32)).toNatClampNeg a2) fun s10 =>
 (fX10_isBeyond a1 s10).bind fun r11 =>
 if r11 = (0 : Int32) then
 (kw_chk (kw_in (x6 + (2 : Int32)) 2832) <|
 kw_let (kw_si s10 1 (x6 + (2 : Int32)).toNatClampNeg (0 : Int32)) fun s14 =>
 some ((s14.1 1 (x6 + (2 : Int32)).toNatClampNeg), s14))
 else
 kw_chk (kw_in (x6 + (2 : Int32)) 2832) <|
 kw_let (kw_si s10 1 (x6 + (2 : Int32)).toNatClampNeg (1 : Int32)) fun s16 =>
 some ((s16.1 1 (x6 + (2 : Int32)).toNatClampNeg), s16)
def bX10_forget_27 (v1 : Int32) (v2 : Int32) (σ : kw_M) : Option ((Int32 × kw_M) ⊕ (kw_M)) :=
 if (3 : Int32) ≤ v2 then
 (some (.inr σ))
 else
 kw_chk (kw_in (((172 : Int32) + ((3 : Int32) * v1)) + v2) 2832) <|
 kw_let (kw_si σ 1 (((172 : Int32) + ((3 : Int32) * v1)) + v2).toNatClampNeg (0 : Int32)) fun s7 =>
 kw_let (v2 + (1 : Int32)) fun x8 =>
 some (.inl (x8, s7))
def fX10_forget (a1 : Int32) (σ : kw_M) : Option (Int32 × kw_M) :=
 (fX10_isTown a1 σ).bind fun r1 =>
 if r1 = (0 : Int32) then
 (some ((0 : Int32), σ))
 else
 kw_chk (kw_in ((172 : Int32) + ((3 : Int32) * a1)) 2832) <|
 if (σ.1 1 ((172 : Int32) + ((3 : Int32) * a1)).toNatClampNeg) = (0 : Int32) then
 (some ((0 : Int32), σ))
 else
 (kw_loop (fun s => bX10_forget_27 a1 s.1 s.2) kw_F ((0 : Int32), σ)).bind fun x9 =>
 some ((1 : Int32), x9)
def fX10_does (a1 : Int32) (σ : kw_M) : Option (Int32 × kw_M) :=
 kw_chk (kw_in a1 24) <|
 kw_let (σ.2 6 a1.toNatClampNeg) fun x2 =>
 kw_chk (kw_in ((3 : Int32) * a1) 72) <|
 kw_let (σ.1 7 ((3 : Int32) * a1).toNatClampNeg) fun x4 =>
 kw_chk (kw_in (((3 : Int32) * a1) + (1 : Int32)) 72) <|
 kw_let (σ.1 7 (((3 : Int32) * a1) + (1 : Int32)).toNatClampNeg) fun x6 =>
 if x2 = (12345 : Int64) then
 (kw_chk (kw_in (((3 : Int32) * a1) + (2 : Int32)) 72) <|
 (fX10_lay x4 x6 (σ.1 7 (((3 : Int32) * a1) + (2 : Int32)).toNatClampNeg) σ).bind fun r26 =>
 if r26.1 < (0 : Int32) then
 (some ((0 : Int32), r26.2))
 else
 some ((1 : Int32), r26.2))
 else
 if x2 = (408362632 : Int64) then
 ((fX10_length x4 x6 σ).bind fun r23 =>
 if r23.1 < (0 : Int32) then
 (some ((0 : Int32), r23.2))
 else
 some ((1 : Int32), r23.2))
 else
 if x2 = (3554917 : Int64) then
 ((fX10_close x4 σ).bind fun r21 =>
 if r21.1 < (0 : Int32) then
 (some ((0 : Int32), r21.2))
 else
 some ((1 : Int32), r21.2))
 else
 if x2 = (508078 : Int64) then
 ((fX10_open x4 σ).bind fun r19 =>
 if r19.1 < (0 : Int32) then
 (some ((0 : Int32), r19.2))
 else
 some ((1 : Int32), r19.2))
 else
 if x2 = (522493230 : Int64) then
 ((fX10_origin x4 σ).bind fun r17 =>
 if r17.1 < (0 : Int32) then
 (some ((0 : Int32), r17.2))
 else
 some ((1 : Int32), r17.2))
 else
 if x2 = (24170600 : Int64) then
 ((fX10_watch x4 x6 σ).bind fun r15 =>
 if r15.1 < (0 : Int32) then
 (some ((0 : Int32), r15.2))
 else
 some ((1 : Int32), r15.2))
 else
 (fX10_forget x4 σ).bind fun r13 =>
 kw_chk (kw_isB r13.1) <| some (r13.1, r13.2)
def bX10_orders_26 (v2 : Int32) (σ : kw_M) : Option ((Int32 × kw_M) ⊕ (Int32 × kw_M)) :=
 if (σ.1 0 12) ≤ v2 then
 (some (.inr (v2, σ)))
 else
 (fX10_does v2 σ).bind fun r6 =>
 if r6.1 = (0 : Int32) then
 (some (.inr (v2, r6.2)))
 else
 kw_let (v2 + (1 : Int32)) fun x8 =>
 some (.inl (x8, r6.2))
def fX10_orders (a1 : Int32) (σ : kw_M) : Option (Int32 × kw_M) :=
 (fX10_isText a1 σ).bind fun r1 =>
 if r1 = (0 : Int32) then
 (some ((-1 : Int32), σ))
 else
 (fX10_readsText a1 (0 : Int32) σ).bind fun r3 =>
 if r3.1 = (0 : Int32) then
 (some ((r3.2.1 0 9), r3.2))
 else
 (kw_loop (fun s => bX10_orders_26 s.1 s.2) kw_F ((0 : Int32), r3.2)).bind fun x9 =>
 some (x9.1, x9.2)
def fX10_slackOf (a1 : Int32) (σ : kw_M) : Option (Int64) :=
 (fX10_of a1 (0 : Int32) σ).bind fun r1 =>
 kw_chk (kw_in r1 12) <|
 if (σ.2 3 r1.toNatClampNeg) = (900000000000000000 : Int64) then
 (some (900000000000000000 : Int64))
 else
 (fX10_of a1 (1 : Int32) σ).bind fun r4 =>
 kw_chk (kw_in r4 12) <|
 if (σ.2 3 r4.toNatClampNeg) = (900000000000000000 : Int64) then
 (some (900000000000000000 : Int64))
 else
 (fX10_of a1 (0 : Int32) σ).bind fun r7 =>
 kw_chk (kw_in r7 12) <|
 (fX10_of a1 (2 : Int32) σ).bind fun r9 =>
 (fX10_of a1 (1 : Int32) σ).bind fun r10 =>
 kw_chk (kw_in r10 12) <|
 some (((σ.2 3 r7.toNatClampNeg) + r9.toInt64) - (σ.2 3 r10.toNatClampNeg))
def fX10_isTight (a1 : Int32) (σ : kw_M) : Option (Int32) :=
 (fX10_isOpen a1 σ).bind fun r1 =>
 if r1 = (0 : Int32) then
 (some (0 : Int32))
 else
 (fX10_slackOf a1 σ).bind fun r3 =>
 if r3 = (0 : Int64) then
 (some (1 : Int32))
 else
 some (0 : Int32)
def bX10_tightTo_4 (v1 : Int32) (σ : kw_M) (v2 : Int32) (v3 : Int32) : Option ((Int32 × Int32) ⊕ (Int32)) :=
 if (σ.1 1 1) ≤ v3 then
 (some (.inr v2))
 else
 (fX10_isTight v3 σ).bind fun r2 =>
 if r2 = (0 : Int32) then
 (kw_let (v3 + (1 : Int32)) fun x4 =>
 some (.inl (v2, x4)))
 else
 (fX10_of v3 (1 : Int32) σ).bind fun r5 =>
 if r5 = v1 then
 (kw_let (v2 + (1 : Int32)) fun x8 =>
 kw_let (v3 + (1 : Int32)) fun x9 =>
 some (.inl (x8, x9)))
 else
 kw_let (v3 + (1 : Int32)) fun x7 =>
 some (.inl (v2, x7))
def fX10_tightTo (a1 : Int32) (σ : kw_M) : Option (Int32) :=
 (kw_loop (fun s => bX10_tightTo_4 a1 σ s.1 s.2) kw_F ((0 : Int32), (0 : Int32))).bind fun x10 =>
 some x10
def bX10_parentOf_2 (v1 : Int32) (σ : kw_M) (v2 : Int32) : Option ((Int32) ⊕ ((Int32) ⊕ (Unit))) :=
 if (σ.1 1 1) ≤ v2 then
 (some (.inr (.inr ())))
 else
 (fX10_isTight v2 σ).bind fun r2 =>
 if r2 = (0 : Int32) then
 (kw_let (v2 + (1 : Int32)) fun x4 =>
 some (.inl x4))
 else
 (fX10_of v2 (1 : Int32) σ).bind fun r5 =>
 if r5 = v1 then
 (some (.inr (.inl v2)))
 else
 kw_let (v2 + (1 : Int32)) fun x7 =>
 some (.inl x7)
def fX10_parentOf (a1 : Int32) (σ : kw_M) : Option (Int32) :=
 (kw_loop (fun s => bX10_parentOf_2 a1 σ s) kw_F (0 : Int32)).bind fun x8 =>
 Sum.elim (fun x8r => some x8r) (fun x8 =>
 some (-1 : Int32)) x8
def bX10_goesBack_19 (v2 : Int32) (v3 : Int32) (σ : kw_M) : Option ((Int32 × Int32 × kw_M) ⊕ (Int32 × kw_M)) :=
 if v3 = (σ.1 1 2) then
 (some (.inr (v2, σ)))
 else
 (fX10_parentOf v3 σ).bind fun r4 =>
 kw_chk (kw_in v2 12) <|
 kw_let (kw_si σ 8 v2.toNatClampNeg r4) fun s6 =>
 (fX10_of (s6.1 8 v2.toNatClampNeg) (0 : Int32) s6).bind fun r7 =>
 kw_let (v2 + (1 : Int32)) fun x8 =>
 some (.inl (x8, r7, s6))
def fX10_goesBack (a1 : Int32) (σ : kw_M) : Option (Int32 × kw_M) :=
 kw_chk (kw_in a1 12) <|
 if (σ.2 3 a1.toNatClampNeg) = (900000000000000000 : Int64) then
 (some ((-1 : Int32), σ))
 else
 (kw_loop (fun s => bX10_goesBack_19 s.1 s.2.1 s.2.2) kw_F ((0 : Int32), a1, σ)).bind fun x9 =>
 some (x9.1, x9.2)
def jX10_countsWays_28_L2 (v1 : Int32) (v2 : Int32) (t0 : Int64) (t1 : Int32) (σ : kw_M) : Option ((Int32 × kw_M) ⊕ (kw_M)) :=
 kw_chk (kw_in t1 12) <|
 kw_let (kw_sl σ 9 t1.toNatClampNeg t0) fun s4 =>
 kw_chk (kw_in v2 12) <|
 kw_let (kw_sl s4 11 v2.toNatClampNeg (s4.2 9 v2.toNatClampNeg)) fun s6 =>
 kw_let (v2 + (1 : Int32)) fun x7 =>
 some (.inl (x7, s6))
def bX10_countsWays_2 (v1 : Int32) (v2 : Int32) (σ : kw_M) : Option ((Int32 × kw_M) ⊕ (kw_M)) :=
 if (12 : Int32) ≤ v2 then
 (some (.inr σ))
 else
 if v2 = (σ.1 1 2) then
 (jX10_countsWays_28_L2 v1 v2 (1 : Int64) v2 σ)
 else
 jX10_countsWays_28_L2 v1 v2 (0 : Int64) v2 σ
def bX10_countsWays_59 (v1 : Int32) (v2 : Int32) (v3 : Int32) (σ : kw_M) : Option ((Int32 × kw_M) ⊕ (kw_M)) :=
 if (12 : Int32) ≤ v3 then
 (some (.inr σ))
 else
 kw_chk (kw_in v3 12) <|
 kw_let (kw_sl σ 10 v3.toNatClampNeg (0 : Int64)) fun s13 =>
 kw_let (v3 + (1 : Int32)) fun x14 =>
 some (.inl (x14, s13))
def bX10_countsWays_80 (v1 : Int32) (v2 : Int32) (v3 : Int32) (σ : kw_M) : Option ((Int32 × kw_M) ⊕ (kw_M)) :=
 if (σ.1 1 1) ≤ v3 then
 (some (.inr σ))
 else
 if v3 = v1 then
 (kw_let (v3 + (1 : Int32)) fun x18 =>
 some (.inl (x18, σ)))
 else
 (fX10_isTight v3 σ).bind fun r19 =>
 if r19 = (0 : Int32) then
 (kw_let (v3 + (1 : Int32)) fun x21 =>
 some (.inl (x21, σ)))
 else
 (fX10_of v3 (1 : Int32) σ).bind fun r22 =>
 (fX10_of v3 (1 : Int32) σ).bind fun r23 =>
 kw_chk (kw_in r23 12) <|
 (fX10_of v3 (0 : Int32) σ).bind fun r25 =>
 kw_chk (kw_in r25 12) <|
 kw_chk (kw_in r22 12) <|
 kw_let (kw_sl σ 10 r22.toNatClampNeg ((σ.2 10 r23.toNatClampNeg) + (σ.2 9 r25.toNatClampNeg))) fun s28 =>
 kw_let (v3 + (1 : Int32)) fun x29 =>
 some (.inl (x29, s28))
def bX10_countsWays_145 (v1 : Int32) (v2 : Int32) (v3 : Int32) (σ : kw_M) : Option ((Int32 × kw_M) ⊕ (kw_M)) :=
 if (12 : Int32) ≤ v3 then
 (some (.inr σ))
 else
 kw_chk (kw_in v3 12) <|
 kw_let (kw_sl σ 9 v3.toNatClampNeg (σ.2 10 v3.toNatClampNeg)) fun s33 =>
 kw_let (kw_sl s33 11 v3.toNatClampNeg ((s33.2 11 v3.toNatClampNeg) + (s33.2 9 v3.toNatClampNeg))) fun s34 =>
 kw_let (v3 + (1 : Int32)) fun x35 =>
 some (.inl (x35, s34))
def bX10_countsWays_49 (v1 : Int32) (v2 : Int32) (σ : kw_M) : Option ((Int32 × kw_M) ⊕ (kw_M)) :=
 (fX10_towns σ).bind fun r9 =>
 if r9 ≤ v2 then
 (some (.inr σ))
 else
 (kw_loop (fun s => bX10_countsWays_59 v1 v2 s.1 s.2) kw_F ((0 : Int32), σ)).bind fun x15 =>
 (kw_loop (fun s => bX10_countsWays_80 v1 v2 s.1 s.2) kw_F ((0 : Int32), x15)).bind fun x30 =>
 (kw_loop (fun s => bX10_countsWays_145 v1 v2 s.1 s.2) kw_F ((0 : Int32), x30)).bind fun x36 =>
 kw_let (v2 + (1 : Int32)) fun x37 =>
 some (.inl (x37, x36))
def fX10_countsWays (a1 : Int32) (σ : kw_M) : Option (kw_M) :=
 (kw_loop (fun s => bX10_countsWays_2 a1 s.1 s.2) kw_F ((0 : Int32), σ)).bind fun x8 =>
 (kw_loop (fun s => bX10_countsWays_49 a1 s.1 s.2) kw_F ((1 : Int32), x8)).bind fun x38 =>
 some x38
def fX10_isNeeded (a1 : Int32) (a2 : Int32) (σ : kw_M) : Option (Int32 × kw_M) :=
 (fX10_countsWays a1 σ).bind fun r1 =>
 kw_chk (kw_in a2 12) <|
 if (r1.2 11 a2.toNatClampNeg) = (0 : Int64) then
 (some ((1 : Int32), r1))
 else
 some ((0 : Int32), r1)
def bX10_neededMany_20 (v1 : Int32) (v2 : Int32) (v3 : Int32) (σ : kw_M) : Option ((Int32 × Int32 × kw_M) ⊕ (Int32 × kw_M)) :=
 if (σ.1 1 1) ≤ v3 then
 (some (.inr (v2, σ)))
 else
 (fX10_isTight v3 σ).bind fun r4 =>
 if r4 = (0 : Int32) then
 (kw_let (v3 + (1 : Int32)) fun x6 =>
 some (.inl (v2, x6, σ)))
 else
 (fX10_isNeeded v3 v1 σ).bind fun r7 =>
 if r7.1 = (0 : Int32) then
 (kw_let (v3 + (1 : Int32)) fun x9 =>
 some (.inl (v2, x9, r7.2)))
 else
 kw_let (v2 + (1 : Int32)) fun x10 =>
 kw_let (v3 + (1 : Int32)) fun x11 =>
 some (.inl (x10, x11, r7.2))
def fX10_neededMany (a1 : Int32) (σ : kw_M) : Option (Int32 × kw_M) :=
 kw_chk (kw_in a1 12) <|
 if (σ.2 3 a1.toNatClampNeg) = (900000000000000000 : Int64) then
 (some ((-2 : Int32), σ))
 else
 (kw_loop (fun s => bX10_neededMany_20 a1 s.1 s.2.1 s.2.2) kw_F ((0 : Int32), (0 : Int32), σ)).bind fun x12 =>
 some (x12.1, x12.2)
def jX10_dearestOf_88_L22 (v1 : Int32) (v2 : Int32) (v6 : Int32) (σ : kw_M) : Option ((Int32 × Int64 × Int32 × kw_M) ⊕ (Int32 × kw_M)) :=
 kw_chk (kw_in v6 12) <|
 kw_let (σ.1 8 v6.toNatClampNeg) fun x8 =>
 kw_chk (kw_in v1 12) <|
 kw_let (σ.2 2 v1.toNatClampNeg) fun x10 =>
 kw_let (v6 + (1 : Int32)) fun x11 =>
 some (.inl (x8, x10, x11, σ))
def bX10_dearestOf_22 (v1 : Int32) (v2 : Int32) (v3 : Int32) (v4 : Int64) (v6 : Int32) (σ : kw_M) : Option ((Int32 × Int64 × Int32 × kw_M) ⊕ (Int32 × kw_M)) :=
 if v2 ≤ v6 then
 (some (.inr (v3, σ)))
 else
 kw_chk (kw_in v6 12) <|
 (fX10_finds (σ.1 1 2) (σ.1 8 v6.toNatClampNeg) σ).bind fun r5 =>
 if v3 = (-1 : Int32) then
 (jX10_dearestOf_88_L22 v1 v2 v6 r5)
 else
 kw_chk (kw_in v1 12) <|
 if (r5.2 2 v1.toNatClampNeg) < v4 then
 (kw_let (v6 + (1 : Int32)) fun x14 =>
 some (.inl (v3, v4, x14, r5)))
 else
 if (r5.2 2 v1.toNatClampNeg) = v4 then
 (if (r5.1 8 v6.toNatClampNeg) ≤ v3 then
 (jX10_dearestOf_88_L22 v1 v2 v6 r5)
 else
 kw_let (v6 + (1 : Int32)) fun x17 =>
 some (.inl (v3, v4, x17, r5)))
 else
 jX10_dearestOf_88_L22 v1 v2 v6 r5
def fX10_dearestOf (a1 : Int32) (σ : kw_M) : Option (Int32 × kw_M) :=
 (fX10_goesBack a1 σ).bind fun r1 =>
 if (1 : Int32) ≤ r1.1 then
 ((kw_loop (fun s => bX10_dearestOf_22 a1 r1.1 s.1 s.2.1 s.2.2.1 s.2.2.2) kw_F ((-1 : Int32), (0 : Int64), (0 : Int32), r1.2)).bind fun x18 =>
 some (x18.1, x18.2))
 else
 some ((-2 : Int32), r1.2)
def bX10_belowOf_36 (v1 : Int32) (v2 : Int32) (v3 : Int32) (σ : kw_M) (v4 : Int32) : Option ((Int32) ⊕ (Int32)) :=
 if v4 = v1 then
 (some (.inr v4))
 else
 if v4 = (σ.1 1 2) then
 (some (.inr v4))
 else
 (fX10_parentOf v4 σ).bind fun r9 =>
 (fX10_of r9 (0 : Int32) σ).bind fun r10 =>
 some (.inl r10)
def jX10_belowOf_69_L4 (v1 : Int32) (v2 : Int32) (v3 : Int32) (v4 : Int32) (σ : kw_M) : Option ((Int32 × Int32) ⊕ (Int32)) :=
 if v4 = v1 then
 (kw_let (v2 + (1 : Int32)) fun x14 =>
 kw_let (v3 + (1 : Int32)) fun x15 =>
 some (.inl (x14, x15)))
 else
 kw_let (v3 + (1 : Int32)) fun x13 =>
 some (.inl (v2, x13))
def bX10_belowOf_4 (v1 : Int32) (σ : kw_M) (v2 : Int32) (v3 : Int32) : Option ((Int32 × Int32) ⊕ (Int32)) :=
 (fX10_towns σ).bind fun r1 =>
 if r1 ≤ v3 then
 (some (.inr v2))
 else
 if v3 = v1 then
 (kw_let (v3 + (1 : Int32)) fun x4 =>
 some (.inl (v2, x4)))
 else
 kw_chk (kw_in v3 12) <|
 if (σ.2 3 v3.toNatClampNeg) = (900000000000000000 : Int64) then
 (kw_let (v3 + (1 : Int32)) fun x16 =>
 some (.inl (v2, x16)))
 else
 (kw_loop (fun s => bX10_belowOf_36 v1 v2 v3 σ s) kw_F v3).bind fun x11 =>
 jX10_belowOf_69_L4 v1 v2 v3 x11 σ
def fX10_belowOf (a1 : Int32) (σ : kw_M) : Option (Int32) :=
 (kw_loop (fun s => bX10_belowOf_4 a1 σ s.1 s.2) kw_F ((0 : Int32), (0 : Int32))).bind fun x17 =>
 some x17
def bX10_findsLeft_2 (v1 : Int32) (v2 : Int32) (σ : kw_M) : Option ((Int32 × kw_M) ⊕ (kw_M)) :=
 (fX10_towns σ).bind fun r1 =>
 if r1 ≤ v2 then
 (some (.inr σ))
 else
 (fX10_finds v2 (-1 : Int32) σ).bind fun r3 =>
 kw_chk (kw_in v1 12) <|
 kw_chk (kw_in v2 12) <|
 kw_let (kw_sl r3 12 v2.toNatClampNeg (r3.2 2 v1.toNatClampNeg)) fun s6 =>
 kw_let (v2 + (1 : Int32)) fun x7 =>
 some (.inl (x7, s6))
def fX10_findsLeft (a1 : Int32) (σ : kw_M) : Option (kw_M) :=
 (kw_loop (fun s => bX10_findsLeft_2 a1 s.1 s.2) kw_F ((0 : Int32), σ)).bind fun x8 =>
 some x8
def jX10_nextOf_256_L71 (v1 : Int32) (v2 : Int64) (v4 : Int64) (v6 : Int32) (v7 : Int32) (v9 : Int64) (v11 : Int32) (σ : kw_M) : Option ((Int64 × Int64 × Int32 × Int32 × kw_M) ⊕ (Int64 × kw_M)) :=
 if v11 = v1 then
 (some (.inl (v2, v4, v6, v7, σ)))
 else
 kw_chk (kw_in v11 12) <|
 if (σ.2 12 v11.toNatClampNeg) = (900000000000000000 : Int64) then
 (some (.inl (v2, v4, v6, v7, σ)))
 else
 if (v9 + (σ.2 12 v11.toNatClampNeg)) < v2 then
 (kw_let (v6 + (1 : Int32)) fun x28 =>
 kw_chk (kw_in x28 13) <|
 kw_let (kw_si σ 13 x28.toNatClampNeg v11) fun s30 =>
 kw_let (kw_si s30 14 x28.toNatClampNeg (0 : Int32)) fun s31 =>
 kw_let (v7 ||| ((1 : Int32) <<< (v11 &&& 31))) fun x32 =>
 some (.inl (v2, v9, x28, x32, s31)))
 else
 some (.inl (v2, v4, v6, v7, σ))
def bX10_nextOf_71 (v1 : Int32) (v2 : Int64) (v4 : Int64) (v6 : Int32) (v7 : Int32) (σ : kw_M) : Option ((Int64 × Int64 × Int32 × Int32 × kw_M) ⊕ (Int64 × kw_M)) :=
 if v6 < (0 : Int32) then
 (some (.inr (v2, σ)))
 else
 kw_chk (kw_in v6 13) <|
 kw_let (σ.1 14 v6.toNatClampNeg) fun x10 =>
 if x10 = (σ.1 1 1) then
 (kw_let (v6 - (1 : Int32)) fun x36 =>
 if (0 : Int32) ≤ x36 then
 (kw_chk (kw_in (x36 + (1 : Int32)) 13) <|
 kw_let (v7 &&& (((1 : Int32) <<< ((σ.1 13 (x36 + (1 : Int32)).toNatClampNeg) &&& 31)) ^^^ (-1 : Int32))) fun x39 =>
 kw_chk (kw_in x36 13) <|
 (fX10_of ((σ.1 14 x36.toNatClampNeg) - (1 : Int32)) (2 : Int32) σ).bind fun r41 =>
 kw_let (v4 - r41.toInt64) fun x42 =>
 some (.inl (v2, x42, x36, x39, σ)))
 else
 some (.inl (v2, v4, x36, v7, σ)))
 else
 kw_let (kw_si σ 14 v6.toNatClampNeg (x10 + (1 : Int32))) fun s12 =>
 (fX10_isOpen x10 s12).bind fun r13 =>
 if r13 = (0 : Int32) then
 (some (.inl (v2, v4, v6, v7, s12)))
 else
 (fX10_of x10 (0 : Int32) s12).bind fun r15 =>
 if r15 = (s12.1 13 v6.toNatClampNeg) then
 ((fX10_of x10 (1 : Int32) s12).bind fun r17 =>
 (fX10_has v7 r17 s12).bind fun r18 =>
 if r18 = (0 : Int32) then
 ((fX10_of x10 (2 : Int32) s12).bind fun r20 =>
 kw_let (v4 + r20.toInt64) fun x21 =>
 (fX10_of x10 (1 : Int32) s12).bind fun r22 =>
 if r22 = v1 then
 (kw_chk (kw_in v1 12) <|
 if x21 ≤ (s12.2 3 v1.toNatClampNeg) then
 (jX10_nextOf_256_L71 v1 v2 v4 v6 v7 x21 r22 s12)
 else
 if v2 ≤ x21 then
 (jX10_nextOf_256_L71 v1 v2 v4 v6 v7 x21 r22 s12)
 else
 jX10_nextOf_256_L71 v1 x21 v4 v6 v7 x21 r22 s12)
 else
 jX10_nextOf_256_L71 v1 v2 v4 v6 v7 x21 r22 s12)
 else
 some (.inl (v2, v4, v6, v7, s12)))
 else
 some (.inl (v2, v4, v6, v7, s12))
def fX10_nextOf (a1 : Int32) (σ : kw_M) : Option (Int64 × kw_M) :=
 kw_chk (kw_in a1 12) <|
 if (σ.2 3 a1.toNatClampNeg) = (900000000000000000 : Int64) then
 (some ((900000000000000000 : Int64), σ))
 else
 if a1 = (σ.1 1 2) then
 (some ((900000000000000000 : Int64), σ))
 else
 (fX10_findsLeft a1 σ).bind fun r4 =>
 kw_let ((1 : Int32) <<< ((r4.1 1 2) &&& 31)) fun x5 =>
 kw_let (kw_si r4 13 0 (r4.1 1 2)) fun s6 =>
 kw_let (kw_si s6 14 0 (0 : Int32)) fun s7 =>
 (kw_loop (fun s => bX10_nextOf_71 a1 s.1 s.2.1 s.2.2.1 s.2.2.2.1 s.2.2.2.2) kw_F ((900000000000000000 : Int64), (0 : Int64), (0 : Int32), x5, s7)).bind fun x43 =>
 some (x43.1, x43.2)
def bX10_findsPairs_18 (v1 : Int32) (v2 : Int32) (σ : kw_M) : Option ((Int32 × kw_M) ⊕ (kw_M)) :=
 if (12 : Int32) ≤ v2 then
 (some (.inr σ))
 else
 kw_chk (kw_in v2 12) <|
 kw_chk (kw_in (((12 : Int32) * v1) + v2) 144) <|
 kw_let (kw_sl σ 15 (((12 : Int32) * v1) + v2).toNatClampNeg (σ.2 2 v2.toNatClampNeg)) fun s7 =>
 kw_let (v2 + (1 : Int32)) fun x8 =>
 some (.inl (x8, s7))
def bX10_findsPairs_2 (v1 : Int32) (σ : kw_M) : Option ((Int32 × kw_M) ⊕ (kw_M)) :=
 (fX10_towns σ).bind fun r1 =>
 if r1 ≤ v1 then
 (some (.inr σ))
 else
 (fX10_finds v1 (-1 : Int32) σ).bind fun r3 =>
 (kw_loop (fun s => bX10_findsPairs_18 v1 s.1 s.2) kw_F ((0 : Int32), r3)).bind fun x9 =>
 kw_let (v1 + (1 : Int32)) fun x10 =>
 some (.inl (x10, x9))
def fX10_findsPairs (σ : kw_M) : Option (kw_M) :=
 (kw_loop (fun s => bX10_findsPairs_2 s.1 s.2) kw_F ((0 : Int32), σ)).bind fun x11 =>
 some x11
def jX10_reachOf_69_L7 (v1 : Int32) (v4 : Int32) (σ : kw_M) : Option ((Int64 × Int32) ⊕ (Int64)) :=
 kw_chk (kw_in (((12 : Int32) * v1) + v4) 144) <|
 kw_let (σ.2 15 (((12 : Int32) * v1) + v4).toNatClampNeg) fun x9 =>
 kw_let (v4 + (1 : Int32)) fun x10 =>
 some (.inl (x9, x10))
def bX10_reachOf_7 (v1 : Int32) (σ : kw_M) (v2 : Int64) (v4 : Int32) : Option ((Int64 × Int32) ⊕ (Int64)) :=
 (fX10_towns σ).bind fun r1 =>
 if r1 ≤ v4 then
 (some (.inr v2))
 else
 if v4 = v1 then
 (kw_let (v4 + (1 : Int32)) fun x4 =>
 some (.inl (v2, x4)))
 else
 kw_chk (kw_in (((12 : Int32) * v1) + v4) 144) <|
 if (σ.2 15 (((12 : Int32) * v1) + v4).toNatClampNeg) = (900000000000000000 : Int64) then
 (kw_let (v4 + (1 : Int32)) fun x13 =>
 some (.inl (v2, x13)))
 else
 if v2 = (900000000000000000 : Int64) then
 (jX10_reachOf_69_L7 v1 v4 σ)
 else
 if (σ.2 15 (((12 : Int32) * v1) + v4).toNatClampNeg) ≤ v2 then
 (kw_let (v4 + (1 : Int32)) fun x12 =>
 some (.inl (v2, x12)))
 else
 jX10_reachOf_69_L7 v1 v4 σ
def fX10_reachOf (a1 : Int32) (σ : kw_M) : Option (Int64) :=
 (kw_loop (fun s => bX10_reachOf_7 a1 σ s.1 s.2) kw_F ((900000000000000000 : Int64), (0 : Int32))).bind fun x14 =>
 some x14
def bX10_comesToAll_2 (v1 : Int32) (σ : kw_M) (v2 : Int32) : Option ((Int32) ⊕ ((Int32) ⊕ (Unit))) :=
 (fX10_towns σ).bind fun r1 =>
 if r1 ≤ v2 then
 (some (.inr (.inr ())))
 else
 kw_chk (kw_in (((12 : Int32) * v1) + v2) 144) <|
 if (σ.2 15 (((12 : Int32) * v1) + v2).toNatClampNeg) = (900000000000000000 : Int64) then
 (some (.inr (.inl (0 : Int32))))
 else
 kw_let (v2 + (1 : Int32)) fun x5 =>
 some (.inl x5)
def fX10_comesToAll (a1 : Int32) (σ : kw_M) : Option (Int32) :=
 (kw_loop (fun s => bX10_comesToAll_2 a1 σ s) kw_F (0 : Int32)).bind fun x6 =>
 Sum.elim (fun x6r => some x6r) (fun x6 =>
 some (1 : Int32)) x6
def bX10_middle_9 (σ : kw_M) (v1 : Int32) (v2 : Int32) : Option ((Int32 × Int32) ⊕ (Int32)) :=
 (fX10_towns σ).bind fun r2 =>
 if r2 ≤ v2 then
 (some (.inr v1))
 else
 (fX10_comesToAll v2 σ).bind fun r4 =>
 if r4 = (0 : Int32) then
 (kw_let (v2 + (1 : Int32)) fun x6 =>
 some (.inl (v1, x6)))
 else
 if v1 < (0 : Int32) then
 (kw_let (v2 + (1 : Int32)) fun x8 =>
 some (.inl (v2, x8)))
 else
 (fX10_reachOf v2 σ).bind fun r9 =>
 (fX10_reachOf v1 σ).bind fun r10 =>
 if r10 ≤ r9 then
 (kw_let (v2 + (1 : Int32)) fun x12 =>
 some (.inl (v1, x12)))
 else
 kw_let (v2 + (1 : Int32)) fun x13 =>
 some (.inl (v2, x13))
def fX10_middle (σ : kw_M) : Option (Int32 × kw_M) :=
 (fX10_findsPairs σ).bind fun r1 =>
 (kw_loop (fun s => bX10_middle_9 r1 s.1 s.2) kw_F ((-2 : Int32), (0 : Int32))).bind fun x14 =>
 some (x14, r1)
def bX10_ringOf_7 (v1 : Int32) (σ : kw_M) (v2 : Int64) (v4 : Int32) : Option ((Int64 × Int32) ⊕ (Int64)) :=
 if (σ.1 1 1) ≤ v4 then
 (some (.inr v2))
 else
 (fX10_isOpen v4 σ).bind fun r2 =>
 if r2 = (0 : Int32) then
 (kw_let (v4 + (1 : Int32)) fun x4 =>
 some (.inl (v2, x4)))
 else
 (fX10_of v4 (0 : Int32) σ).bind fun r5 =>
 if r5 = v1 then
 ((fX10_of v4 (1 : Int32) σ).bind fun r8 =>
 kw_chk (kw_in (((12 : Int32) * r8) + v1) 144) <|
 if (σ.2 15 (((12 : Int32) * r8) + v1).toNatClampNeg) = (900000000000000000 : Int64) then
 (kw_let (v4 + (1 : Int32)) fun x18 =>
 some (.inl (v2, x18)))
 else
 (fX10_of v4 (2 : Int32) σ).bind fun r11 =>
 (fX10_of v4 (1 : Int32) σ).bind fun r12 =>
 kw_chk (kw_in (((12 : Int32) * r12) + v1) 144) <|
 kw_let (r11.toInt64 + (σ.2 15 (((12 : Int32) * r12) + v1).toNatClampNeg)) fun x14 =>
 if v2 ≤ x14 then
 (kw_let (v4 + (1 : Int32)) fun x16 =>
 some (.inl (v2, x16)))
 else
 kw_let (v4 + (1 : Int32)) fun x17 =>
 some (.inl (x14, x17)))
 else
 kw_let (v4 + (1 : Int32)) fun x7 =>
 some (.inl (v2, x7))
def fX10_ringOf (a1 : Int32) (σ : kw_M) : Option (Int64) :=
 (kw_loop (fun s => bX10_ringOf_7 a1 σ s.1 s.2) kw_F ((900000000000000000 : Int64), (0 : Int32))).bind fun x19 =>
 some x19
def bX10_groupOf_2 (v1 : Int32) (σ : kw_M) (v2 : Int32) : Option ((Int32) ⊕ ((Int32) ⊕ (Unit))) :=
 if v1 ≤ v2 then
 (some (.inr (.inr ())))
 else
 kw_chk (kw_in (((12 : Int32) * v1) + v2) 144) <|
 if (900000000000000000 : Int64) ≤ (σ.2 15 (((12 : Int32) * v1) + v2).toNatClampNeg) then
 (kw_let (v2 + (1 : Int32)) fun x4 =>
 some (.inl x4))
 else
 kw_chk (kw_in (((12 : Int32) * v2) + v1) 144) <|
 if (900000000000000000 : Int64) ≤ (σ.2 15 (((12 : Int32) * v2) + v1).toNatClampNeg) then
 (kw_let (v2 + (1 : Int32)) fun x7 =>
 some (.inl x7))
 else
 some (.inr (.inl v2))
def fX10_groupOf (a1 : Int32) (σ : kw_M) : Option (Int32) :=
 (kw_loop (fun s => bX10_groupOf_2 a1 σ s) kw_F (0 : Int32)).bind fun x8 =>
 Sum.elim (fun x8r => some x8r) (fun x8 =>
 some a1) x8
def bX10_comeTo_4 (v1 : Int32) (σ : kw_M) (v2 : Int32) (v3 : Int32) : Option ((Int32 × Int32) ⊕ (Int32)) :=
 (fX10_towns σ).bind fun r1 =>
 if r1 ≤ v3 then
 (some (.inr v2))
 else
 if v3 = v1 then
 (kw_let (v3 + (1 : Int32)) fun x4 =>
 some (.inl (v2, x4)))
 else
 kw_chk (kw_in (((12 : Int32) * v3) + v1) 144) <|
 if (900000000000000000 : Int64) ≤ (σ.2 15 (((12 : Int32) * v3) + v1).toNatClampNeg) then
 (kw_let (v3 + (1 : Int32)) fun x7 =>
 some (.inl (v2, x7)))
 else
 kw_let (v2 + (1 : Int32)) fun x8 =>
 kw_let (v3 + (1 : Int32)) fun x9 =>
 some (.inl (x8, x9))
def fX10_comeTo (a1 : Int32) (σ : kw_M) : Option (Int32) :=
 (kw_loop (fun s => bX10_comeTo_4 a1 σ s.1 s.2) kw_F ((0 : Int32), (0 : Int32))).bind fun x10 =>
 some x10
def bX10_comesBy_22 (v1 : Int32) (v3 : Int32) (σ : kw_M) (v2 : Int32) (v4 : Int32) : Option ((Int32 × Int32) ⊕ (Int32)) :=
 if (σ.1 1 1) ≤ v4 then
 (some (.inr v2))
 else
 (fX10_isOpen v4 σ).bind fun r5 =>
 if r5 = (0 : Int32) then
 (kw_let (v4 + (1 : Int32)) fun x7 =>
 some (.inl (v2, x7)))
 else
 (fX10_of v4 (2 : Int32) σ).bind fun r8 =>
 if v1 < r8 then
 (kw_let (v4 + (1 : Int32)) fun x10 =>
 some (.inl (v2, x10)))
 else
 (fX10_of v4 (0 : Int32) σ).bind fun r11 =>
 (fX10_has v2 r11 σ).bind fun r12 =>
 if r12 = (0 : Int32) then
 (kw_let (v4 + (1 : Int32)) fun x14 =>
 some (.inl (v2, x14)))
 else
 (fX10_of v4 (1 : Int32) σ).bind fun r15 =>
 kw_let (v2 ||| ((1 : Int32) <<< (r15 &&& 31))) fun x16 =>
 kw_let (v4 + (1 : Int32)) fun x17 =>
 some (.inl (x16, x17))
def bX10_comesBy_11 (v1 : Int32) (σ : kw_M) (v2 : Int32) (v3 : Int32) : Option ((Int32 × Int32) ⊕ (Int32)) :=
 (fX10_towns σ).bind fun r2 =>
 if r2 ≤ v3 then
 (some (.inr v2))
 else
 (kw_loop (fun s => bX10_comesBy_22 v1 v3 σ s.1 s.2) kw_F (v2, (0 : Int32))).bind fun x18 =>
 kw_let (v3 + (1 : Int32)) fun x19 =>
 some (.inl (x18, x19))
def fX10_comesBy (a1 : Int32) (σ : kw_M) : Option (Int32) :=
 kw_let ((1 : Int32) <<< ((σ.1 1 2) &&& 31)) fun x1 =>
 (kw_loop (fun s => bX10_comesBy_11 a1 σ s.1 s.2) kw_F (x1, (1 : Int32))).bind fun x20 =>
 some x20
def bX10_narrowOf_34 (v1 : Int32) (σ : kw_M) (v2 : Int64) (v4 : Int32) : Option ((Int64 × Int32) ⊕ (Int64)) :=
 if (σ.1 1 1) ≤ v4 then
 (some (.inr v2))
 else
 (fX10_isOpen v4 σ).bind fun r5 =>
 if r5 = (0 : Int32) then
 (kw_let (v4 + (1 : Int32)) fun x7 =>
 some (.inl (v2, x7)))
 else
 (fX10_of v4 (2 : Int32) σ).bind fun r8 =>
 if v2 ≤ r8.toInt64 then
 (kw_let (v4 + (1 : Int32)) fun x10 =>
 some (.inl (v2, x10)))
 else
 (fX10_of v4 (2 : Int32) σ).bind fun r11 =>
 (fX10_comesBy r11 σ).bind fun r12 =>
 (fX10_has r12 v1 σ).bind fun r13 =>
 if r13 = (0 : Int32) then
 (kw_let (v4 + (1 : Int32)) fun x15 =>
 some (.inl (v2, x15)))
 else
 (fX10_of v4 (2 : Int32) σ).bind fun r16 =>
 kw_let (v4 + (1 : Int32)) fun x17 =>
 some (.inl (r16.toInt64, x17))
def fX10_narrowOf (a1 : Int32) (σ : kw_M) : Option (Int64) :=
 if a1 = (σ.1 1 2) then
 (some (900000000000000000 : Int64))
 else
 kw_chk (kw_in a1 12) <|
 if (σ.2 3 a1.toNatClampNeg) = (900000000000000000 : Int64) then
 (some (900000000000000000 : Int64))
 else
 (kw_loop (fun s => bX10_narrowOf_34 a1 σ s.1 s.2) kw_F ((900000000000000000 : Int64), (0 : Int32))).bind fun x18 =>
 some x18
def bX10_apartOf_23 (v1 : Int32) (v2 : Int32) (v3 : Int32) (σ : kw_M) : Option ((Int32 × kw_M) ⊕ (kw_M)) :=
 if (36 : Int32) ≤ v3 then
 (some (.inr σ))
 else
 kw_chk (kw_in v3 36) <|
 kw_let (kw_si σ 16 v3.toNatClampNeg (vp_nar .boolean (0 : Int32))) fun s6 =>
 kw_let (v3 + (1 : Int32)) fun x7 =>
 some (.inl (x7, s6))
def bX10_apartOf_44 (v1 : Int32) (v2 : Int32) (v3 : Int32) (σ : kw_M) : Option ((Int32 × kw_M) ⊕ (kw_M)) :=
 if v2 ≤ v3 then
 (some (.inr σ))
 else
 kw_chk (kw_in v3 12) <|
 kw_chk (kw_in (σ.1 8 v3.toNatClampNeg) 36) <|
 kw_let (kw_si σ 16 (σ.1 8 v3.toNatClampNeg).toNatClampNeg (vp_nar .boolean (1 : Int32))) fun s12 =>
 kw_let (v3 + (1 : Int32)) fun x13 =>
 some (.inl (x13, s12))
def bX10_apartOf_69 (v1 : Int32) (v3 : Int32) (σ : kw_M) : Option ((Int32 × kw_M) ⊕ (kw_M)) :=
 if (12 : Int32) ≤ v3 then
 (some (.inr σ))
 else
 if v3 = (σ.1 1 2) then
 (kw_chk (kw_in v3 12) <|
 kw_let (kw_sl σ 2 v3.toNatClampNeg (0 : Int64)) fun s21 =>
 kw_let (v3 + (1 : Int32)) fun x22 =>
 some (.inl (x22, s21)))
 else
 kw_chk (kw_in v3 12) <|
 kw_let (kw_sl σ 2 v3.toNatClampNeg (900000000000000000 : Int64)) fun s18 =>
 kw_let (v3 + (1 : Int32)) fun x19 =>
 some (.inl (x19, s18))
def jX10_apartOf_252_L119 (v1 : Int32) (v3 : Int32) (v4 : Int32) (v6 : Int32) (t0 : Int32) (t1 : Int64) (σ : kw_M) : Option ((Int32 × kw_M) ⊕ (kw_M)) :=
 kw_let (t1 + t0.toInt64) fun x40 =>
 kw_chk (kw_in v6 12) <|
 if (σ.2 2 v6.toNatClampNeg) ≤ x40 then
 (kw_let (v4 + (1 : Int32)) fun x43 =>
 some (.inl (x43, σ)))
 else
 kw_let (kw_sl σ 2 v6.toNatClampNeg x40) fun s44 =>
 kw_let (v4 + (1 : Int32)) fun x45 =>
 some (.inl (x45, s44))
def jX10_apartOf_198_L119 (v1 : Int32) (v3 : Int32) (v4 : Int32) (v5 : Int32) (t0 : Int32) (σ : kw_M) : Option ((Int32 × kw_M) ⊕ (kw_M)) :=
 kw_chk (kw_in v5 12) <|
 if (σ.2 2 v5.toNatClampNeg) = (900000000000000000 : Int64) then
 (kw_let (v4 + (1 : Int32)) fun x47 =>
 some (.inl (x47, σ)))
 else
 kw_chk (kw_in v4 36) <|
 if (σ.1 16 v4.toNatClampNeg) = (0 : Int32) then
 ((fX10_of v4 (2 : Int32) σ).bind fun r39 =>
 jX10_apartOf_252_L119 v1 v3 v4 t0 r39 (σ.2 2 v5.toNatClampNeg) σ)
 else
 (fX10_of v4 (2 : Int32) σ).bind fun r46 =>
 jX10_apartOf_252_L119 v1 v3 v4 t0 (-r46) (σ.2 2 v5.toNatClampNeg) σ
def jX10_apartOf_169_L119 (v1 : Int32) (v3 : Int32) (v4 : Int32) (t0 : Int32) (σ : kw_M) : Option ((Int32 × kw_M) ⊕ (kw_M)) :=
 kw_chk (kw_in v4 36) <|
 if (σ.1 16 v4.toNatClampNeg) = (0 : Int32) then
 ((fX10_of v4 (1 : Int32) σ).bind fun r34 =>
 jX10_apartOf_198_L119 v1 v3 v4 t0 r34 σ)
 else
 (fX10_of v4 (0 : Int32) σ).bind fun r48 =>
 jX10_apartOf_198_L119 v1 v3 v4 t0 r48 σ
def bX10_apartOf_119 (v1 : Int32) (v3 : Int32) (v4 : Int32) (σ : kw_M) : Option ((Int32 × kw_M) ⊕ (kw_M)) :=
 if (σ.1 1 1) ≤ v4 then
 (some (.inr σ))
 else
 (fX10_isOpen v4 σ).bind fun r27 =>
 if r27 = (0 : Int32) then
 (kw_let (v4 + (1 : Int32)) fun x50 =>
 some (.inl (x50, σ)))
 else
 kw_chk (kw_in v4 36) <|
 if (σ.1 16 v4.toNatClampNeg) = (0 : Int32) then
 ((fX10_of v4 (0 : Int32) σ).bind fun r31 =>
 jX10_apartOf_169_L119 v1 v3 v4 r31 σ)
 else
 (fX10_of v4 (1 : Int32) σ).bind fun r49 =>
 jX10_apartOf_169_L119 v1 v3 v4 r49 σ
def bX10_apartOf_106 (v1 : Int32) (v3 : Int32) (σ : kw_M) : Option ((Int32 × kw_M) ⊕ (kw_M)) :=
 (fX10_towns σ).bind fun r24 =>
 if ((2 : Int32) * r24) ≤ v3 then
 (some (.inr σ))
 else
 (kw_loop (fun s => bX10_apartOf_119 v1 v3 s.1 s.2) kw_F ((0 : Int32), σ)).bind fun x51 =>
 kw_let (v3 + (1 : Int32)) fun x52 =>
 some (.inl (x52, x51))
def fX10_apartOf (a1 : Int32) (σ : kw_M) : Option (Int64 × kw_M) :=
 (fX10_goesBack a1 σ).bind fun r1 =>
 if r1.1 = (-1 : Int32) then
 (some ((900000000000000000 : Int64), r1.2))
 else
 if r1.1 = (0 : Int32) then
 (some ((0 : Int64), r1.2))
 else
 (kw_loop (fun s => bX10_apartOf_23 a1 r1.1 s.1 s.2) kw_F ((0 : Int32), r1.2)).bind fun x8 =>
 (kw_loop (fun s => bX10_apartOf_44 a1 r1.1 s.1 s.2) kw_F ((0 : Int32), x8)).bind fun x14 =>
 (kw_loop (fun s => bX10_apartOf_69 a1 s.1 s.2) kw_F ((0 : Int32), x14)).bind fun x23 =>
 (kw_loop (fun s => bX10_apartOf_106 a1 s.1 s.2) kw_F ((1 : Int32), x23)).bind fun x53 =>
 kw_chk (kw_in a1 12) <|
 if (x53.2 2 a1.toNatClampNeg) = (900000000000000000 : Int64) then
 (some ((900000000000000000 : Int64), x53))
 else
 some (((x53.2 3 a1.toNatClampNeg) + (x53.2 2 a1.toNatClampNeg)), x53)
def jX10_town_287 (v1 : Int32) (v2 : Int32) (σ : kw_M) : Option (Int64 × kw_M) :=
 (fX10_findsPairs σ).bind fun r29 =>
 if v2 = (8 : Int32) then
 ((fX10_reachOf v1 r29).bind fun r31 =>
 (fX10_told r31 r29).bind fun r32 =>
 some (r32, r29))
 else
 if v2 = (9 : Int32) then
 ((fX10_ringOf v1 r29).bind fun r34 =>
 (fX10_told r34 r29).bind fun r35 =>
 some (r35, r29))
 else
 if v2 = (10 : Int32) then
 (some ((-9000000000000000000 : Int64), r29))
 else
 if v2 = (11 : Int32) then
 (some ((-9000000000000000000 : Int64), r29))
 else
 if v2 = (12 : Int32) then
 ((fX10_groupOf v1 r29).bind fun r39 =>
 some (r39.toInt64, r29))
 else
 if v2 = (13 : Int32) then
 (some ((-9000000000000000000 : Int64), r29))
 else
 if v2 = (14 : Int32) then
 (some ((-9000000000000000000 : Int64), r29))
 else
 if v2 = (15 : Int32) then
 ((fX10_comeTo v1 r29).bind fun r43 =>
 some (r43.toInt64, r29))
 else
 some ((-9000000000000000000 : Int64), r29)
def fX10_town (a1 : Int32) (a2 : Int32) (σ : kw_M) : Option (Int64 × kw_M) :=
 (fX10_isTown a1 σ).bind fun r1 =>
 if r1 = (0 : Int32) then
 (some ((-9000000000000000000 : Int64), σ))
 else
 (fX10_settles σ).bind fun r3 =>
 if a2 = (0 : Int32) then
 (kw_chk (kw_in a1 12) <|
 (fX10_told (r3.2 3 a1.toNatClampNeg) r3).bind fun r6 =>
 some (r6, r3))
 else
 if a2 = (1 : Int32) then
 ((fX10_parentOf a1 r3).bind fun r8 =>
 if r8 = (-1 : Int32) then
 (some ((-2 : Int64), r3))
 else
 (fX10_parentOf a1 r3).bind fun r10 =>
 some (r10.toInt64, r3))
 else
 if a2 = (2 : Int32) then
 ((fX10_goesBack a1 r3).bind fun r12 =>
 if r12.1 = (-1 : Int32) then
 (some ((-2 : Int64), r12.2))
 else
 (fX10_goesBack a1 r12.2).bind fun r14 =>
 some (r14.1.toInt64, r14.2))
 else
 if a2 = (3 : Int32) then
 ((fX10_tightTo a1 r3).bind fun r16 =>
 some (r16.toInt64, r3))
 else
 if a2 = (4 : Int32) then
 ((fX10_countsWays (-1 : Int32) r3).bind fun r18 =>
 kw_chk (kw_in a1 12) <|
 if (r18.2 11 a1.toNatClampNeg) ≤ (1000000000 : Int64) then
 (some ((r18.2 11 a1.toNatClampNeg), r18))
 else
 some ((1000000000 : Int64), r18))
 else
 if a2 = (5 : Int32) then
 ((fX10_neededMany a1 r3).bind fun r22 =>
 some (r22.1.toInt64, r22.2))
 else
 if a2 = (6 : Int32) then
 ((fX10_dearestOf a1 r3).bind fun r24 =>
 some (r24.1.toInt64, r24.2))
 else
 if a2 = (7 : Int32) then
 ((fX10_nextOf a1 r3).bind fun r26 =>
 (fX10_told r26.1 r26.2).bind fun r27 =>
 some (r27, r26.2))
 else
 if a2 = (8 : Int32) then
 (jX10_town_287 a1 a2 r3)
 else
 if a2 = (9 : Int32) then
 (jX10_town_287 a1 a2 r3)
 else
 if a2 = (10 : Int32) then
 (kw_chk (kw_in ((172 : Int32) + ((3 : Int32) * a1)) 2832) <|
 if (r3.1 1 ((172 : Int32) + ((3 : Int32) * a1)).toNatClampNeg) = (1 : Int32) then
 (kw_chk (kw_in (((172 : Int32) + ((3 : Int32) * a1)) + (1 : Int32)) 2832) <|
 some ((r3.1 1 (((172 : Int32) + ((3 : Int32) * a1)) + (1 : Int32)).toNatClampNeg).toInt64, r3))
 else
 some ((-9000000000000000000 : Int64), r3))
 else
 if a2 = (11 : Int32) then
 (kw_chk (kw_in a1 12) <|
 if (r3.2 3 a1.toNatClampNeg) = (900000000000000000 : Int64) then
 (some ((0 : Int64), r3))
 else
 (fX10_belowOf a1 r3).bind fun r52 =>
 some (r52.toInt64, r3))
 else
 if a2 = (12 : Int32) then
 (jX10_town_287 a1 a2 r3)
 else
 if a2 = (13 : Int32) then
 ((fX10_narrowOf a1 r3).bind fun r55 =>
 (fX10_told r55 r3).bind fun r56 =>
 some (r56, r3))
 else
 if a2 = (14 : Int32) then
 ((fX10_apartOf a1 r3).bind fun r58 =>
 (fX10_told r58.1 r58.2).bind fun r59 =>
 some (r59, r58.2))
 else
 jX10_town_287 a1 a2 r3
def bX10_openMany_4 (σ : kw_M) (v1 : Int32) (v2 : Int32) : Option ((Int32 × Int32) ⊕ (Int32)) :=
 if (σ.1 1 1) ≤ v2 then
 (some (.inr v1))
 else
 (fX10_of v2 (3 : Int32) σ).bind fun r2 =>
 kw_let (v1 + r2) fun x3 =>
 kw_let (v2 + (1 : Int32)) fun x4 =>
 some (.inl (x3, x4))
def fX10_openMany (σ : kw_M) : Option (Int32) :=
 (kw_loop (fun s => bX10_openMany_4 σ s.1 s.2) kw_F ((0 : Int32), (0 : Int32))).bind fun x5 =>
 some x5
def bX10_reached_4 (σ : kw_M) (v1 : Int32) (v2 : Int32) : Option ((Int32 × Int32) ⊕ (Int32)) :=
 (fX10_towns σ).bind fun r1 =>
 if r1 ≤ v2 then
 (some (.inr v1))
 else
 kw_chk (kw_in v2 12) <|
 if (900000000000000000 : Int64) ≤ (σ.2 3 v2.toNatClampNeg) then
 (kw_let (v2 + (1 : Int32)) fun x5 =>
 some (.inl (v1, x5)))
 else
 kw_let (v1 + (1 : Int32)) fun x6 =>
 kw_let (v2 + (1 : Int32)) fun x7 =>
 some (.inl (x6, x7))
def fX10_reached (σ : kw_M) : Option (Int32) :=
 (kw_loop (fun s => bX10_reached_4 σ s.1 s.2) kw_F ((0 : Int32), (0 : Int32))).bind fun x8 =>
 some x8
def bX10_tightMany_4 (σ : kw_M) (v1 : Int32) (v2 : Int32) : Option ((Int32 × Int32) ⊕ (Int32)) :=
 if (σ.1 1 1) ≤ v2 then
 (some (.inr v1))
 else
 (fX10_isTight v2 σ).bind fun r2 =>
 if r2 = (0 : Int32) then
 (kw_let (v2 + (1 : Int32)) fun x4 =>
 some (.inl (v1, x4)))
 else
 kw_let (v1 + (1 : Int32)) fun x5 =>
 kw_let (v2 + (1 : Int32)) fun x6 =>
 some (.inl (x5, x6))
def fX10_tightMany (σ : kw_M) : Option (Int32) :=
 (kw_loop (fun s => bX10_tightMany_4 σ s.1 s.2) kw_F ((0 : Int32), (0 : Int32))).bind fun x7 =>
 some x7
def bX10_watches_4 (v1 : Int32) (σ : kw_M) (v2 : Int32) (v3 : Int32) : Option ((Int32 × Int32) ⊕ (Int32)) :=
 (fX10_towns σ).bind fun r1 =>
 if r1 ≤ v3 then
 (some (.inr v2))
 else
 kw_chk (kw_in ((172 : Int32) + ((3 : Int32) * v3)) 2832) <|
 if (σ.1 1 ((172 : Int32) + ((3 : Int32) * v3)).toNatClampNeg) = (1 : Int32) then
 (if v1 = (0 : Int32) then
 (kw_let (v2 ||| ((1 : Int32) <<< (v3 &&& 31))) fun x7 =>
 kw_let (v3 + (1 : Int32)) fun x8 =>
 some (.inl (x7, x8)))
 else
 kw_chk (kw_in (((172 : Int32) + ((3 : Int32) * v3)) + (2 : Int32)) 2832) <|
 if (σ.1 1 (((172 : Int32) + ((3 : Int32) * v3)) + (2 : Int32)).toNatClampNeg) = (1 : Int32) then
 (kw_let (v2 ||| ((1 : Int32) <<< (v3 &&& 31))) fun x12 =>
 kw_let (v3 + (1 : Int32)) fun x13 =>
 some (.inl (x12, x13)))
 else
 kw_let (v3 + (1 : Int32)) fun x11 =>
 some (.inl (v2, x11)))
 else
 kw_let (v3 + (1 : Int32)) fun x5 =>
 some (.inl (v2, x5))
def fX10_watches (a1 : Int32) (σ : kw_M) : Option (Int32) :=
 (kw_loop (fun s => bX10_watches_4 a1 σ s.1 s.2) kw_F ((0 : Int32), (0 : Int32))).bind fun x14 =>
 some x14
def fX10_count (a1 : Int32) (σ : kw_M) : Option (Int32 × kw_M) :=
 (fX10_settles σ).bind fun r1 =>
 if a1 = (0 : Int32) then
 ((fX10_towns r1).bind fun r3 =>
 some (r3, r1))
 else
 if a1 = (1 : Int32) then
 (some ((r1.1 1 1), r1))
 else
 if a1 = (2 : Int32) then
 ((fX10_openMany r1).bind fun r6 =>
 some (r6, r1))
 else
 if a1 = (3 : Int32) then
 (some ((r1.1 1 2), r1))
 else
 if a1 = (4 : Int32) then
 (some ((r1.1 1 6), r1))
 else
 if a1 = (5 : Int32) then
 (some ((r1.1 1 3), r1))
 else
 if a1 = (6 : Int32) then
 ((fX10_reached r1).bind fun r11 =>
 some (r11, r1))
 else
 if a1 = (7 : Int32) then
 ((fX10_tightMany r1).bind fun r13 =>
 some (r13, r1))
 else
 if a1 = (8 : Int32) then
 (some ((r1.1 1 4), r1))
 else
 if a1 = (9 : Int32) then
 ((fX10_watches (0 : Int32) r1).bind fun r16 =>
 some (r16, r1))
 else
 if a1 = (10 : Int32) then
 ((fX10_watches (1 : Int32) r1).bind fun r18 =>
 some (r18, r1))
 else
 if a1 = (11 : Int32) then
 ((fX10_middle r1).bind fun r20 =>
 some (r20.1, r20.2))
 else
 if a1 = (12 : Int32) then
 (some ((r1.1 0 6), r1))
 else
 if a1 = (13 : Int32) then
 (some ((r1.1 1 5), r1))
 else
 some ((-1 : Int32), r1)
def fX10_road (a1 : Int32) (a2 : Int32) (σ : kw_M) : Option (Int64 × kw_M) :=
 (fX10_isRoad a1 σ).bind fun r1 =>
 if r1 = (0 : Int32) then
 (some ((-9000000000000000000 : Int64), σ))
 else
 (fX10_in a2.toInt64 (0 : Int64) (5 : Int64) σ).bind fun r3 =>
 if r3 = (0 : Int32) then
 (some ((-9000000000000000000 : Int64), σ))
 else
 if (4 : Int32) ≤ a2 then
 ((fX10_settles σ).bind fun r6 =>
 if a2 = (4 : Int32) then
 ((fX10_isTight a1 r6).bind fun r11 =>
 if r11 = (0 : Int32) then
 (some ((0 : Int64), r6))
 else
 some ((1 : Int64), r6))
 else
 (fX10_of a1 (1 : Int32) r6).bind fun r8 =>
 (fX10_parentOf r8 r6).bind fun r9 =>
 if r9 = a1 then
 (some ((1 : Int64), r6))
 else
 some ((0 : Int64), r6))
 else
 (fX10_of a1 a2 σ).bind fun r13 =>
 some (r13.toInt64, σ)
def fX10_change (a1 : Int32) (a2 : Int32) (σ : kw_M) : Option (Int64 × kw_M) :=
 (fX10_isRoad a1 σ).bind fun r1 =>
 if r1 = (0 : Int32) then
 (some ((-9000000000000000000 : Int64), σ))
 else
 (fX10_in a2.toInt64 (0 : Int64) (2 : Int64) σ).bind fun r3 =>
 if r3 = (0 : Int32) then
 (some ((-9000000000000000000 : Int64), σ))
 else
 (fX10_isOpen a1 σ).bind fun r5 =>
 if r5 = (0 : Int32) then
 (some ((-9000000000000000000 : Int64), σ))
 else
 (fX10_settles σ).bind fun r7 =>
 (fX10_slackOf a1 r7).bind fun r8 =>
 if a2 = (0 : Int32) then
 ((fX10_told r8 r7).bind fun r16 =>
 some (r16, r7))
 else
 if a2 = (2 : Int32) then
 (if r8 = (900000000000000000 : Int64) then
 (some ((-1 : Int64), r7))
 else
 some (r8, r7))
 else
 if r8 = (0 : Int64) then
 ((fX10_of a1 (1 : Int32) r7).bind fun r12 =>
 (fX10_tightTo r12 r7).bind fun r13 =>
 if r13 = (1 : Int32) then
 (some ((0 : Int64), r7))
 else
 some ((-1 : Int64), r7))
 else
 some ((-1 : Int64), r7)
def fX10_way (a1 : Int32) (a2 : Int32) (σ : kw_M) : Option (Int32 × kw_M) :=
 (fX10_isTown a1 σ).bind fun r1 =>
 if r1 = (0 : Int32) then
 (some ((-1 : Int32), σ))
 else
 if (0 : Int32) ≤ a2 then
 ((fX10_settles σ).bind fun r4 =>
 (fX10_goesBack a1 r4).bind fun r5 =>
 if r5.1 = (-1 : Int32) then
 (some ((-1 : Int32), r5.2))
 else
 if r5.1 ≤ a2 then
 (some ((-4 : Int32), r5.2))
 else
 kw_chk (kw_in ((r5.1 - (1 : Int32)) - a2) 12) <|
 some ((r5.2.1 8 ((r5.1 - (1 : Int32)) - a2).toNatClampNeg), r5.2))
 else
 some ((-1 : Int32), σ)
def fX10_needed (a1 : Int32) (a2 : Int32) (σ : kw_M) : Option (Int32 × kw_M) :=
 (fX10_isRoad a1 σ).bind fun r1 =>
 if r1 = (0 : Int32) then
 (some ((-1 : Int32), σ))
 else
 (fX10_isTown a2 σ).bind fun r3 =>
 if r3 = (0 : Int32) then
 (some ((-1 : Int32), σ))
 else
 (fX10_isOpen a1 σ).bind fun r5 =>
 if r5 = (0 : Int32) then
 (some ((-1 : Int32), σ))
 else
 (fX10_settles σ).bind fun r7 =>
 kw_chk (kw_in a2 12) <|
 if (r7.2 3 a2.toNatClampNeg) = (900000000000000000 : Int64) then
 (some ((-1 : Int32), r7))
 else
 (fX10_isTight a1 r7).bind fun r10 =>
 if r10 = (0 : Int32) then
 (some ((0 : Int32), r7))
 else
 (fX10_isNeeded a1 a2 r7).bind fun r12 =>
 if r12.1 = (0 : Int32) then
 (some ((0 : Int32), r12.2))
 else
 some ((1 : Int32), r12.2)
def fX10_without (a1 : Int32) (a2 : Int32) (σ : kw_M) : Option (Int64 × kw_M) :=
 (fX10_isRoad a1 σ).bind fun r1 =>
 if r1 = (0 : Int32) then
 (some ((-9000000000000000000 : Int64), σ))
 else
 (fX10_isTown a2 σ).bind fun r3 =>
 if r3 = (0 : Int32) then
 (some ((-9000000000000000000 : Int64), σ))
 else
 (fX10_isOpen a1 σ).bind fun r5 =>
 if r5 = (0 : Int32) then
 (some ((-9000000000000000000 : Int64), σ))
 else
 (fX10_finds (σ.1 1 2) a1 σ).bind fun r7 =>
 kw_chk (kw_in a2 12) <|
 (fX10_told (r7.2 2 a2.toNatClampNeg) r7).bind fun r9 =>
 some (r9, r7)
def fX10_between (a1 : Int32) (a2 : Int32) (σ : kw_M) : Option (Int64 × kw_M) :=
 (fX10_isTown a1 σ).bind fun r1 =>
 if r1 = (0 : Int32) then
 (some ((-9000000000000000000 : Int64), σ))
 else
 (fX10_isTown a2 σ).bind fun r3 =>
 if r3 = (0 : Int32) then
 (some ((-9000000000000000000 : Int64), σ))
 else
 (fX10_finds a1 (-1 : Int32) σ).bind fun r5 =>
 kw_chk (kw_in a2 12) <|
 (fX10_told (r5.2 2 a2.toNatClampNeg) r5).bind fun r7 =>
 some (r7, r5)
def fX10_offers (a1 : Int32) (a2 : Int64) (σ : kw_M) : Option (kw_M) :=
 kw_chk (kw_in a1 48) <|
 if (σ.2 17 a1.toNatClampNeg) ≤ a2 then
 (some σ)
 else
 kw_let (kw_sl σ 17 a1.toNatClampNeg a2) fun s3 =>
 some s3
def bX10_free_26 (v1 : Int32) (v2 : Int32) (v3 : Int32) (σ : kw_M) : Option ((Int32 × kw_M) ⊕ (kw_M)) :=
 if (48 : Int32) ≤ v3 then
 (some (.inr σ))
 else
 if v3 = ((4 : Int32) * (σ.1 1 2)) then
 (kw_chk (kw_in v3 48) <|
 kw_let (kw_sl σ 17 v3.toNatClampNeg (0 : Int64)) fun s11 =>
 kw_let (v3 + (1 : Int32)) fun x12 =>
 some (.inl (x12, s11)))
 else
 kw_chk (kw_in v3 48) <|
 kw_let (kw_sl σ 17 v3.toNatClampNeg (900000000000000000 : Int64)) fun s8 =>
 kw_let (v3 + (1 : Int32)) fun x9 =>
 some (.inl (x9, s8))
def bX10_free_92 (v1 : Int32) (v2 : Int32) (v3 : Int32) (v4 : Int32) (v5 : Int32) (σ : kw_M) : Option ((Int32 × kw_M) ⊕ (kw_M)) :=
 if v2 < v5 then
 (some (.inr σ))
 else
 (fX10_isOpen v4 σ).bind fun r18 =>
 if r18 = (0 : Int32) then
 (some (.inr σ))
 else
 (fX10_of v4 (0 : Int32) σ).bind fun r20 =>
 kw_chk (kw_in (((4 : Int32) * r20) + v5) 48) <|
 kw_let (σ.2 17 (((4 : Int32) * r20) + v5).toNatClampNeg) fun x22 =>
 if x22 = (900000000000000000 : Int64) then
 (kw_let (v5 + (1 : Int32)) fun x35 =>
 some (.inl (x35, σ)))
 else
 (fX10_of v4 (1 : Int32) σ).bind fun r24 =>
 (fX10_of v4 (2 : Int32) σ).bind fun r25 =>
 (fX10_offers (((4 : Int32) * r24) + v5) (x22 + r25.toInt64) σ).bind fun r26 =>
 if v2 ≤ v5 then
 (kw_let (v5 + (1 : Int32)) fun x28 =>
 some (.inl (x28, r26)))
 else
 (fX10_of v4 (2 : Int32) r26).bind fun r29 =>
 if r29 ≤ (0 : Int32) then
 (kw_let (v5 + (1 : Int32)) fun x31 =>
 some (.inl (x31, r26)))
 else
 (fX10_of v4 (1 : Int32) r26).bind fun r32 =>
 (fX10_offers ((((4 : Int32) * r32) + v5) + (1 : Int32)) x22 r26).bind fun r33 =>
 kw_let (v5 + (1 : Int32)) fun x34 =>
 some (.inl (x34, r33))
def bX10_free_78 (v1 : Int32) (v2 : Int32) (v3 : Int32) (v4 : Int32) (σ : kw_M) : Option ((Int32 × kw_M) ⊕ (kw_M)) :=
 if (σ.1 1 1) ≤ v4 then
 (some (.inr σ))
 else
 (kw_loop (fun s => bX10_free_92 v1 v2 v3 v4 s.1 s.2) kw_F ((0 : Int32), σ)).bind fun x36 =>
 kw_let (v4 + (1 : Int32)) fun x37 =>
 some (.inl (x37, x36))
def bX10_free_65 (v1 : Int32) (v2 : Int32) (v3 : Int32) (σ : kw_M) : Option ((Int32 × kw_M) ⊕ (kw_M)) :=
 (fX10_towns σ).bind fun r14 =>
 if ((4 : Int32) * r14) ≤ v3 then
 (some (.inr σ))
 else
 (kw_loop (fun s => bX10_free_78 v1 v2 v3 s.1 s.2) kw_F ((0 : Int32), σ)).bind fun x38 =>
 kw_let (v3 + (1 : Int32)) fun x39 =>
 some (.inl (x39, x38))
def bX10_free_226 (v1 : Int32) (v2 : Int32) (σ : kw_M) (v3 : Int64) (v5 : Int32) : Option ((Int64 × Int32) ⊕ (Int64)) :=
 if v2 < v5 then
 (some (.inr v3))
 else
 kw_chk (kw_in (((4 : Int32) * v1) + v5) 48) <|
 if v3 ≤ (σ.2 17 (((4 : Int32) * v1) + v5).toNatClampNeg) then
 (kw_let (v5 + (1 : Int32)) fun x44 =>
 some (.inl (v3, x44)))
 else
 kw_let (σ.2 17 (((4 : Int32) * v1) + v5).toNatClampNeg) fun x45 =>
 kw_let (v5 + (1 : Int32)) fun x46 =>
 some (.inl (x45, x46))
def fX10_free (a1 : Int32) (a2 : Int32) (σ : kw_M) : Option (Int64 × kw_M) :=
 (fX10_isTown a1 σ).bind fun r1 =>
 if r1 = (0 : Int32) then
 (some ((-9000000000000000000 : Int64), σ))
 else
 (fX10_in a2.toInt64 (0 : Int64) (3 : Int64) σ).bind fun r3 =>
 if r3 = (0 : Int32) then
 (some ((-9000000000000000000 : Int64), σ))
 else
 (kw_loop (fun s => bX10_free_26 a1 a2 s.1 s.2) kw_F ((0 : Int32), σ)).bind fun x13 =>
 (kw_loop (fun s => bX10_free_65 a1 a2 s.1 s.2) kw_F ((0 : Int32), x13)).bind fun x40 =>
 (kw_loop (fun s => bX10_free_226 a1 a2 x40 s.1 s.2) kw_F ((900000000000000000 : Int64), (0 : Int32))).bind fun x47 =>
 (fX10_told x47 x40).bind fun r48 =>
 some (r48, x40)
def bX10_goesOn_2 (v1 : Int32) (σ : kw_M) : Option ((Int32 × kw_M) ⊕ (kw_M)) :=
 if (12 : Int32) ≤ v1 then
 (some (.inr σ))
 else
 kw_chk (kw_in v1 12) <|
 kw_let (kw_sl σ 18 v1.toNatClampNeg (900000000000000000 : Int64)) fun s3 =>
 kw_let (v1 + (1 : Int32)) fun x4 =>
 some (.inl (x4, s3))
def bX10_goesOn_25 (v1 : Int32) (σ : kw_M) : Option ((Int32 × kw_M) ⊕ (kw_M)) :=
 if (σ.1 1 1) ≤ v1 then
 (some (.inr σ))
 else
 (fX10_isOpen v1 σ).bind fun r7 =>
 if r7 = (0 : Int32) then
 (kw_let (v1 + (1 : Int32)) fun x9 =>
 some (.inl (x9, σ)))
 else
 (fX10_of v1 (0 : Int32) σ).bind fun r10 =>
 kw_chk (kw_in r10 12) <|
 if (σ.2 2 r10.toNatClampNeg) = (900000000000000000 : Int64) then
 (kw_let (v1 + (1 : Int32)) fun x25 =>
 some (.inl (x25, σ)))
 else
 (fX10_of v1 (0 : Int32) σ).bind fun r13 =>
 kw_chk (kw_in r13 12) <|
 (fX10_of v1 (2 : Int32) σ).bind fun r15 =>
 kw_let ((σ.2 2 r13.toNatClampNeg) + r15.toInt64) fun x16 =>
 (fX10_of v1 (1 : Int32) σ).bind fun r17 =>
 kw_chk (kw_in r17 12) <|
 if (σ.2 18 r17.toNatClampNeg) ≤ x16 then
 (kw_let (v1 + (1 : Int32)) fun x20 =>
 some (.inl (x20, σ)))
 else
 (fX10_of v1 (1 : Int32) σ).bind fun r21 =>
 kw_chk (kw_in r21 12) <|
 kw_let (kw_sl σ 18 r21.toNatClampNeg x16) fun s23 =>
 kw_let (v1 + (1 : Int32)) fun x24 =>
 some (.inl (x24, s23))
def bX10_goesOn_120 (v1 : Int32) (σ : kw_M) : Option ((Int32 × kw_M) ⊕ (kw_M)) :=
 if (12 : Int32) ≤ v1 then
 (some (.inr σ))
 else
 kw_chk (kw_in v1 12) <|
 kw_let (kw_sl σ 2 v1.toNatClampNeg (σ.2 18 v1.toNatClampNeg)) fun s29 =>
 kw_let (v1 + (1 : Int32)) fun x30 =>
 some (.inl (x30, s29))
def fX10_goesOn (σ : kw_M) : Option (kw_M) :=
 (kw_loop (fun s => bX10_goesOn_2 s.1 s.2) kw_F ((0 : Int32), σ)).bind fun x5 =>
 (kw_loop (fun s => bX10_goesOn_25 s.1 s.2) kw_F ((0 : Int32), x5)).bind fun x26 =>
 (kw_loop (fun s => bX10_goesOn_120 s.1 s.2) kw_F ((0 : Int32), x26)).bind fun x31 =>
 some x31
def bX10_stands_2 (v1 : Int32) (v2 : Int32) (σ : kw_M) : Option ((Int32 × kw_M) ⊕ (kw_M)) :=
 if (12 : Int32) ≤ v2 then
 (some (.inr σ))
 else
 if v2 = v1 then
 (kw_chk (kw_in v2 12) <|
 kw_let (kw_sl σ 2 v2.toNatClampNeg (0 : Int64)) fun s7 =>
 kw_let (v2 + (1 : Int32)) fun x8 =>
 some (.inl (x8, s7)))
 else
 kw_chk (kw_in v2 12) <|
 kw_let (kw_sl σ 2 v2.toNatClampNeg (900000000000000000 : Int64)) fun s4 =>
 kw_let (v2 + (1 : Int32)) fun x5 =>
 some (.inl (x5, s4))
def fX10_stands (a1 : Int32) (σ : kw_M) : Option (kw_M) :=
 (kw_loop (fun s => bX10_stands_2 a1 s.1 s.2) kw_F ((0 : Int32), σ)).bind fun x9 =>
 some x9
def bX10_hops_44 (v1 : Int32) (v2 : Int32) (v3 : Int64) (v5 : Int32) (σ : kw_M) : Option ((Int64 × Int32 × kw_M) ⊕ (Int64 × kw_M)) :=
 if v2 ≤ v5 then
 (some (.inr (v3, σ)))
 else
 (fX10_goesOn σ).bind fun r9 =>
 kw_chk (kw_in v1 12) <|
 if v3 ≤ (r9.2 2 v1.toNatClampNeg) then
 (kw_let (v5 + (1 : Int32)) fun x12 =>
 some (.inl (v3, x12, r9)))
 else
 kw_let (r9.2 2 v1.toNatClampNeg) fun x13 =>
 kw_let (v5 + (1 : Int32)) fun x14 =>
 some (.inl (x13, x14, r9))
def fX10_hops (a1 : Int32) (a2 : Int32) (σ : kw_M) : Option (Int64 × kw_M) :=
 (fX10_isTown a1 σ).bind fun r1 =>
 if r1 = (0 : Int32) then
 (some ((-9000000000000000000 : Int64), σ))
 else
 (fX10_in a2.toInt64 (0 : Int64) (36 : Int64) σ).bind fun r3 =>
 if r3 = (0 : Int32) then
 (some ((-9000000000000000000 : Int64), σ))
 else
 (fX10_stands (σ.1 1 2) σ).bind fun r5 =>
 kw_chk (kw_in a1 12) <|
 kw_let (r5.2 2 a1.toNatClampNeg) fun x7 =>
 (kw_loop (fun s => bX10_hops_44 a1 a2 s.1 s.2.1 s.2.2) kw_F (x7, (0 : Int32), r5)).bind fun x15 =>
 (fX10_told x15.1 x15.2).bind fun r16 =>
 some (r16, x15.2)
def bX10_common_6 (σ : kw_M) (v4 : Int64) (v6 : Int64) : Option ((Int64 × Int64) ⊕ (Int64)) :=
 if v6 = (0 : Int64) then
 (some (.inr v4))
 else
 kw_chk (¬ v6 = 0) <|
 kw_let (v4 - v4 / v6 * v6) fun x3 =>
 some (.inl (v6, x3))
def fX10_common (a0 : Int64) (a1 : Int64) (σ : kw_M) : Option (Int64) :=
 (kw_loop (fun s => bX10_common_6 σ s.1 s.2) kw_F (a0, a1)).bind fun x4 =>
 some x4
def jX10_mean_99_L42 (v1 : Int32) (v6 : Int32) (v7 : Int32) (σ : kw_M) : Option ((Int64 × Int64 × Int32 × kw_M) ⊕ (Int64 × Int64 × kw_M)) :=
 kw_chk (kw_in v6 12) <|
 kw_let (σ.2 2 v6.toNatClampNeg) fun x14 =>
 kw_let (v7 + (1 : Int32)) fun x15 =>
 some (.inl (x14, v7.toInt64, x15, σ))
def bX10_mean_42 (v1 : Int32) (v6 : Int32) (v2 : Int64) (v4 : Int64) (v7 : Int32) (σ : kw_M) : Option ((Int64 × Int64 × Int32 × kw_M) ⊕ (Int64 × Int64 × kw_M)) :=
 (fX10_towns σ).bind fun r6 =>
 if r6 < v7 then
 (some (.inr (v2, v4, σ)))
 else
 (fX10_goesOn σ).bind fun r8 =>
 kw_chk (kw_in v6 12) <|
 if (r8.2 2 v6.toNatClampNeg) = (900000000000000000 : Int64) then
 (kw_let (v7 + (1 : Int32)) fun x11 =>
 some (.inl (v2, v4, x11, r8)))
 else
 if v2 = (900000000000000000 : Int64) then
 (jX10_mean_99_L42 v1 v6 v7 r8)
 else
 if ((r8.2 2 v6.toNatClampNeg) * v4) < (v2 * v7.toInt64) then
 (jX10_mean_99_L42 v1 v6 v7 r8)
 else
 kw_let (v7 + (1 : Int32)) fun x17 =>
 some (.inl (v2, v4, x17, r8))
def bX10_mean_24 (v1 : Int32) (v2 : Int64) (v4 : Int64) (v6 : Int32) (σ : kw_M) : Option ((Int64 × Int64 × Int32 × kw_M) ⊕ (Int64 × Int64 × kw_M)) :=
 (fX10_towns σ).bind fun r3 =>
 if r3 ≤ v6 then
 (some (.inr (v2, v4, σ)))
 else
 (fX10_stands v6 σ).bind fun r5 =>
 (kw_loop (fun s => bX10_mean_42 v1 v6 s.1 s.2.1 s.2.2.1 s.2.2.2) kw_F (v2, v4, (1 : Int32), r5)).bind fun x18 =>
 kw_let (v6 + (1 : Int32)) fun x19 =>
 some (.inl (x18.1, x18.2.1, x19, x18.2.2))
def fX10_mean (a1 : Int32) (σ : kw_M) : Option (Int64 × kw_M) :=
 (fX10_in a1.toInt64 (0 : Int64) (1 : Int64) σ).bind fun r1 =>
 if r1 = (0 : Int32) then
 (some ((-9000000000000000000 : Int64), σ))
 else
 (kw_loop (fun s => bX10_mean_24 a1 s.1 s.2.1 s.2.2.1 s.2.2.2) kw_F ((900000000000000000 : Int64), (1 : Int64), (0 : Int32), σ)).bind fun x20 =>
 if x20.1 = (900000000000000000 : Int64) then
 (some ((-9000000000000000000 : Int64), x20.2.2))
 else
 (fX10_common x20.1 x20.2.1 x20.2.2).bind fun r22 =>
 if a1 = (0 : Int32) then
 (kw_chk (¬ r22 = 0) <|
 some ((x20.1 / r22), x20.2.2))
 else
 kw_chk (¬ r22 = 0) <|
 some ((x20.2.1 / r22), x20.2.2)
def bX10_roundLong_12 (σ : kw_M) (v1 : Int64) (v3 : Int32) (v4 : Int32) : Option ((Int64 × Int32 × Int32) ⊕ ((Int64) ⊕ (Int64 × Int32))) :=
 if (σ.1 0 31) ≤ v4 then
 (some (.inr (.inr (v1, v3))))
 else
 kw_chk (kw_in v4 6) <|
 kw_chk (kw_in (((12 : Int32) * v3) + (σ.1 19 v4.toNatClampNeg)) 144) <|
 if (σ.2 15 (((12 : Int32) * v3) + (σ.1 19 v4.toNatClampNeg)).toNatClampNeg) = (900000000000000000 : Int64) then
 (some (.inr (.inl (900000000000000000 : Int64))))
 else
 kw_let (v1 + (σ.2 15 (((12 : Int32) * v3) + (σ.1 19 v4.toNatClampNeg)).toNatClampNeg)) fun x6 =>
 kw_let (σ.1 19 v4.toNatClampNeg) fun x7 =>
 kw_let (v4 + (1 : Int32)) fun x8 =>
 some (.inl (x6, x7, x8))
def fX10_roundLong (σ : kw_M) : Option (Int64) :=
 kw_let (σ.1 1 2) fun x1 =>
 (kw_loop (fun s => bX10_roundLong_12 σ s.1 s.2.1 s.2.2) kw_F ((0 : Int64), x1, (0 : Int32))).bind fun x9 =>
 Sum.elim (fun x9r => some x9r) (fun x9 =>
 kw_chk (kw_in (((12 : Int32) * x9.2) + (σ.1 1 2)) 144) <|
 if (σ.2 15 (((12 : Int32) * x9.2) + (σ.1 1 2)).toNatClampNeg) = (900000000000000000 : Int64) then
 (some (900000000000000000 : Int64))
 else
 some (x9.1 + (σ.2 15 (((12 : Int32) * x9.2) + (σ.1 1 2)).toNatClampNeg))) x9
def fX10_changesPlaces (a1 : Int32) (a2 : Int32) (σ : kw_M) : Option (kw_M) :=
 kw_chk (kw_in a1 6) <|
 kw_let (σ.1 19 a1.toNatClampNeg) fun x2 =>
 kw_chk (kw_in a2 6) <|
 kw_let (kw_si σ 19 a1.toNatClampNeg (σ.1 19 a2.toNatClampNeg)) fun s4 =>
 kw_let (kw_si s4 19 a2.toNatClampNeg x2) fun s5 =>
 some s5
def bX10_nextOrder_7 (σ : kw_M) (v1 : Int32) : Option ((Int32) ⊕ (Int32)) :=
 if v1 < (0 : Int32) then
 (some (.inr v1))
 else
 kw_chk (kw_in v1 6) <|
 kw_chk (kw_in (v1 + (1 : Int32)) 6) <|
 if (σ.1 19 v1.toNatClampNeg) ≤ (σ.1 19 (v1 + (1 : Int32)).toNatClampNeg) then
 (some (.inr v1))
 else
 kw_let (v1 - (1 : Int32)) fun x6 =>
 some (.inl x6)
def bX10_nextOrder_48 (v1 : Int32) (σ : kw_M) (v2 : Int32) : Option ((Int32) ⊕ (Int32)) :=
 kw_chk (kw_in v2 6) <|
 kw_chk (kw_in v1 6) <|
 if (σ.1 19 v1.toNatClampNeg) ≤ (σ.1 19 v2.toNatClampNeg) then
 (some (.inr v2))
 else
 kw_let (v2 - (1 : Int32)) fun x13 =>
 some (.inl x13)
def bX10_nextOrder_88 (v3 : Int32) (v4 : Int32) (σ : kw_M) : Option ((Int32 × Int32 × kw_M) ⊕ (kw_M)) :=
 if v4 ≤ v3 then
 (some (.inr σ))
 else
 (fX10_changesPlaces v3 v4 σ).bind fun r19 =>
 kw_let (v3 + (1 : Int32)) fun x20 =>
 kw_let (v4 - (1 : Int32)) fun x21 =>
 some (.inl (x20, x21, r19))
def jX10_nextOrder_35 (v1 : Int32) (σ : kw_M) : Option (Int32 × kw_M) :=
 if (0 : Int32) ≤ v1 then
 (kw_let ((σ.1 0 31) - (1 : Int32)) fun x9 =>
 (kw_loop (fun s => bX10_nextOrder_48 v1 σ s) kw_F x9).bind fun x14 =>
 (fX10_changesPlaces v1 x14 σ).bind fun r15 =>
 kw_let (v1 + (1 : Int32)) fun x16 =>
 kw_let ((r15.1 0 31) - (1 : Int32)) fun x17 =>
 (kw_loop (fun s => bX10_nextOrder_88 s.1 s.2.1 s.2.2) kw_F (x16, x17, r15)).bind fun x22 =>
 some ((1 : Int32), x22))
 else
 some ((0 : Int32), σ)
def fX10_nextOrder (σ : kw_M) : Option (Int32 × kw_M) :=
 kw_let ((σ.1 0 31) - (2 : Int32)) fun x1 =>
 (kw_loop (fun s => bX10_nextOrder_7 σ s) kw_F x1).bind fun x7 =>
 jX10_nextOrder_35 x7 σ
def bX10_round_41 (v1 : Int32) (v2 : Int32) (v3 : Int32) (σ : kw_M) : Option ((Int32 × kw_M) ⊕ ((Int64 × kw_M) ⊕ (kw_M))) :=
 (fX10_towns σ).bind fun r7 =>
 if r7 ≤ v3 then
 (some (.inr (.inr σ)))
 else
 (fX10_has v1 v3 σ).bind fun r9 =>
 if r9 = (0 : Int32) then
 (kw_let (v3 + (1 : Int32)) fun x11 =>
 some (.inl (x11, σ)))
 else
 if v3 = (σ.1 1 2) then
 (kw_let (v3 + (1 : Int32)) fun x18 =>
 some (.inl (x18, σ)))
 else
 if (σ.1 0 31) = (6 : Int32) then
 (some (.inr (.inl ((-9000000000000000000 : Int64), σ))))
 else
 kw_chk (kw_in (σ.1 0 31) 6) <|
 kw_let (kw_si σ 19 (σ.1 0 31).toNatClampNeg v3) fun s15 =>
 kw_let (kw_si s15 0 31 ((s15.1 0 31) + (1 : Int32))) fun s16 =>
 kw_let (v3 + (1 : Int32)) fun x17 =>
 some (.inl (x17, s16))
def jX10_round_173_L120 (v2 : Int32) (v3 : Int64) (σ : kw_M) : Option ((Int64 × Int32 × kw_M) ⊕ (Int64 × kw_M)) :=
 (fX10_nextOrder σ).bind fun r24 =>
 some (.inl (v3, r24.1, r24.2))
def bX10_round_144 (v2 : Int32) (v3 : Int64) (v8 : Int32) (σ : kw_M) : Option ((Int32 × kw_M) ⊕ (kw_M)) :=
 if (σ.1 0 31) ≤ v8 then
 (some (.inr σ))
 else
 kw_chk (kw_in v8 6) <|
 kw_let (kw_si σ 20 v8.toNatClampNeg (σ.1 19 v8.toNatClampNeg)) fun s27 =>
 kw_let (v8 + (1 : Int32)) fun x28 =>
 some (.inl (x28, s27))
def bX10_round_120 (v2 : Int32) (v3 : Int64) (v5 : Int32) (σ : kw_M) : Option ((Int64 × Int32 × kw_M) ⊕ (Int64 × kw_M)) :=
 if v5 = (0 : Int32) then
 (some (.inr (v3, σ)))
 else
 (fX10_roundLong σ).bind fun r22 =>
 if v3 ≤ r22 then
 (jX10_round_173_L120 v2 v3 σ)
 else
 (kw_loop (fun s => bX10_round_144 v2 r22 s.1 s.2) kw_F ((0 : Int32), σ)).bind fun x29 =>
 jX10_round_173_L120 v2 r22 x29
def jX10_round_194 (v3 : Int64) (σ : kw_M) : Option (Int64 × kw_M) :=
 (fX10_told v3 σ).bind fun r32 =>
 some (r32, σ)
def fX10_round (a1 : Int32) (a2 : Int32) (σ : kw_M) : Option (Int64 × kw_M) :=
 (fX10_towns σ).bind fun r1 =>
 (fX10_in a1.toInt64 (0 : Int64) ((((1 : Int32) <<< (r1 &&& 31)) - (1 : Int32)).toInt64) σ).bind fun r2 =>
 if r2 = (0 : Int32) then
 (some ((-9000000000000000000 : Int64), σ))
 else
 (fX10_in a2.toInt64 (0 : Int64) (6 : Int64) σ).bind fun r4 =>
 if r4 = (0 : Int32) then
 (some ((-9000000000000000000 : Int64), σ))
 else
 kw_let (kw_si σ 0 31 (0 : Int32)) fun s6 =>
 (kw_loop (fun s => bX10_round_41 a1 a2 s.1 s.2) kw_F ((0 : Int32), s6)).bind fun x19 =>
 Sum.elim (fun x19r => some x19r) (fun x19 =>
 (fX10_findsPairs x19).bind fun r20 =>
 (kw_loop (fun s => bX10_round_120 a2 s.1 s.2.1 s.2.2) kw_F ((900000000000000000 : Int64), (1 : Int32), r20)).bind fun x30 =>
 if x30.1 = (900000000000000000 : Int64) then
 (jX10_round_194 x30.1 x30.2)
 else
 if a2 = (0 : Int32) then
 (jX10_round_194 x30.1 x30.2)
 else
 if (x30.2.1 0 31) < a2 then
 (some ((-4 : Int64), x30.2))
 else
 kw_chk (kw_in (a2 - (1 : Int32)) 6) <|
 some ((x30.2.1 20 (a2 - (1 : Int32)).toNatClampNeg).toInt64, x30.2)) x19
def bX10_gather_9 (v1 : Int32) (v2 : Int32) (v3 : Int32) (σ : kw_M) (v4 : Int64) (v6 : Int32) (v7 : Int32) : Option ((Int64 × Int32 × Int32) ⊕ ((Int64) ⊕ (Int64))) :=
 (fX10_towns σ).bind fun r1 =>
 if r1 ≤ v7 then
 (some (.inr (.inr v4)))
 else
 (fX10_has v1 v7 σ).bind fun r3 =>
 if r3 = (0 : Int32) then
 (kw_let (v7 + (1 : Int32)) fun x16 =>
 some (.inl (v4, v6, x16)))
 else
 kw_chk (kw_in (((12 : Int32) * v7) + v2) 144) <|
 kw_let (σ.2 15 (((12 : Int32) * v7) + v2).toNatClampNeg) fun x6 =>
 if x6 = (900000000000000000 : Int64) then
 (some (.inr (.inl (900000000000000000 : Int64))))
 else
 if v3 = (0 : Int32) then
 (kw_let (v4 + x6) fun x9 =>
 kw_let (v7 + (1 : Int32)) fun x10 =>
 some (.inl (x9, (1 : Int32), x10)))
 else
 if v6 = (0 : Int32) then
 (kw_let (v7 + (1 : Int32)) fun x12 =>
 some (.inl (x6, (1 : Int32), x12)))
 else
 if v4 ≤ x6 then
 (kw_let (v7 + (1 : Int32)) fun x14 =>
 some (.inl (x6, (1 : Int32), x14)))
 else
 kw_let (v7 + (1 : Int32)) fun x15 =>
 some (.inl (v4, (1 : Int32), x15))
def fX10_gather (a1 : Int32) (a2 : Int32) (a3 : Int32) (σ : kw_M) : Option (Int64) :=
 (kw_loop (fun s => bX10_gather_9 a1 a2 a3 σ s.1 s.2.1 s.2.2) kw_F ((0 : Int64), (0 : Int32), (0 : Int32))).bind fun x17 =>
 Sum.elim (fun x17r => some x17r) (fun x17 =>
 some x17) x17
def jX10_meet_71_L48 (v1 : Int32) (v2 : Int32) (v3 : Int32) (v4 : Int64) (v6 : Int32) (t0 : Int32) (t1 : Int32) (t2 : Int32) (σ : kw_M) : Option ((Int32 × Int64 × Int32) ⊕ (Int32 × Int64)) :=
 (fX10_gather t2 t1 t0 σ).bind fun r10 =>
 if r10 < v4 then
 (kw_let (v6 + (1 : Int32)) fun x12 =>
 some (.inl (v6, r10, x12)))
 else
 kw_let (v6 + (1 : Int32)) fun x13 =>
 some (.inl (v3, v4, x13))
def bX10_meet_48 (v1 : Int32) (v2 : Int32) (σ : kw_M) (v3 : Int32) (v4 : Int64) (v6 : Int32) : Option ((Int32 × Int64 × Int32) ⊕ (Int32 × Int64)) :=
 (fX10_towns σ).bind fun r7 =>
 if r7 ≤ v6 then
 (some (.inr (v3, v4)))
 else
 if v2 ≤ (1 : Int32) then
 (jX10_meet_71_L48 v1 v2 v3 v4 v6 (0 : Int32) v6 v1 σ)
 else
 jX10_meet_71_L48 v1 v2 v3 v4 v6 (1 : Int32) v6 v1 σ
def fX10_meet (a1 : Int32) (a2 : Int32) (σ : kw_M) : Option (Int64 × kw_M) :=
 (fX10_towns σ).bind fun r1 =>
 (fX10_in a1.toInt64 (1 : Int64) ((((1 : Int32) <<< (r1 &&& 31)) - (1 : Int32)).toInt64) σ).bind fun r2 =>
 if r2 = (0 : Int32) then
 (some ((-9000000000000000000 : Int64), σ))
 else
 (fX10_in a2.toInt64 (0 : Int64) (3 : Int64) σ).bind fun r4 =>
 if r4 = (0 : Int32) then
 (some ((-9000000000000000000 : Int64), σ))
 else
 (fX10_findsPairs σ).bind fun r6 =>
 (kw_loop (fun s => bX10_meet_48 a1 a2 r6 s.1 s.2.1 s.2.2) kw_F ((-1 : Int32), (900000000000000000 : Int64), (0 : Int32))).bind fun x14 =>
 if x14.1 = (-1 : Int32) then
 (some ((-9000000000000000000 : Int64), r6))
 else
 if (a2 - a2 / (2 : Int32) * (2 : Int32)) = (0 : Int32) then
 (some (x14.1.toInt64, r6))
 else
 some (x14.2, r6)
def fX10_through (a1 : Int32) (a2 : Int32) (σ : kw_M) : Option (Int64 × kw_M) :=
 (fX10_isTown a1 σ).bind fun r1 =>
 if r1 = (0 : Int32) then
 (some ((-9000000000000000000 : Int64), σ))
 else
 (fX10_isTown a2 σ).bind fun r3 =>
 if r3 = (0 : Int32) then
 (some ((-9000000000000000000 : Int64), σ))
 else
 (fX10_settles σ).bind fun r5 =>
 (fX10_finds a2 (-1 : Int32) r5).bind fun r6 =>
 kw_chk (kw_in a2 12) <|
 if (r6.2 3 a2.toNatClampNeg) = (900000000000000000 : Int64) then
 (some ((-9000000000000000000 : Int64), r6))
 else
 kw_chk (kw_in a1 12) <|
 if (r6.2 2 a1.toNatClampNeg) = (900000000000000000 : Int64) then
 (some ((-9000000000000000000 : Int64), r6))
 else
 some (((r6.2 3 a2.toNatClampNeg) + (r6.2 2 a1.toNatClampNeg)), r6)
def bX10_savedBy_45 (v1 : Int32) (v2 : Int32) (v3 : Int32) (σ : kw_M) (v4 : Int64) (v6 : Int32) : Option ((Int64 × Int32) ⊕ (Int64)) :=
 (fX10_towns σ).bind fun r3 =>
 if r3 ≤ v6 then
 (some (.inr v4))
 else
 kw_chk (kw_in v6 12) <|
 if (σ.2 3 v6.toNatClampNeg) = (900000000000000000 : Int64) then
 (kw_let (v6 + (1 : Int32)) fun x7 =>
 some (.inl (v4, x7)))
 else
 kw_chk (kw_in (((12 : Int32) * v2) + v6) 144) <|
 if (σ.2 15 (((12 : Int32) * v2) + v6).toNatClampNeg) = (900000000000000000 : Int64) then
 (kw_let (v6 + (1 : Int32)) fun x16 =>
 some (.inl (v4, x16)))
 else
 kw_chk (kw_in v1 12) <|
 kw_let (((σ.2 3 v1.toNatClampNeg) + v3.toInt64) + (σ.2 15 (((12 : Int32) * v2) + v6).toNatClampNeg)) fun x11 =>
 if (σ.2 3 v6.toNatClampNeg) ≤ x11 then
 (kw_let (v6 + (1 : Int32)) fun x13 =>
 some (.inl (v4, x13)))
 else
 kw_let ((v4 + (σ.2 3 v6.toNatClampNeg)) - x11) fun x14 =>
 kw_let (v6 + (1 : Int32)) fun x15 =>
 some (.inl (x14, x15))
def jX10_savedBy_39 (v1 : Int32) (v2 : Int32) (v3 : Int32) (σ : kw_M) : Option (Int64) :=
 (kw_loop (fun s => bX10_savedBy_45 v1 v2 v3 σ s.1 s.2) kw_F ((0 : Int64), (0 : Int32))).bind fun x17 =>
 some x17
def fX10_savedBy (a1 : Int32) (a2 : Int32) (a3 : Int32) (σ : kw_M) : Option (Int64) :=
 kw_chk (kw_in (((12 : Int32) * a2) + a1) 144) <|
 if (900000000000000000 : Int64) ≤ (σ.2 15 (((12 : Int32) * a2) + a1).toNatClampNeg) then
 (jX10_savedBy_39 a1 a2 a3 σ)
 else
 if (0 : Int64) < ((σ.2 15 (((12 : Int32) * a2) + a1).toNatClampNeg) + a3.toInt64) then
 (jX10_savedBy_39 a1 a2 a3 σ)
 else
 some (0 : Int64)
def jX10_shortcut_100_L57 (v1 : Int32) (v2 : Int32) (v7 : Int32) (v3 : Int32) (v4 : Int32) (v5 : Int64) (v8 : Int32) (t0 : Int64) (σ : kw_M) : Option ((Int32 × Int32 × Int64 × Int32) ⊕ (Int32 × Int32 × Int64)) :=
 if v5 < t0 then
 (kw_let (v8 + (1 : Int32)) fun x16 =>
 some (.inl (v7, v8, t0, x16)))
 else
 kw_let (v8 + (1 : Int32)) fun x17 =>
 some (.inl (v3, v4, v5, x17))
def bX10_shortcut_57 (v1 : Int32) (v2 : Int32) (v7 : Int32) (σ : kw_M) (v3 : Int32) (v4 : Int32) (v5 : Int64) (v8 : Int32) : Option ((Int32 × Int32 × Int64 × Int32) ⊕ (Int32 × Int32 × Int64)) :=
 (fX10_towns σ).bind fun r9 =>
 if r9 ≤ v8 then
 (some (.inr (v3, v4, v5)))
 else
 kw_chk (kw_in v7 12) <|
 if (900000000000000000 : Int64) ≤ (σ.2 3 v7.toNatClampNeg) then
 (some (.inr (v3, v4, v5)))
 else
 if v7 = v8 then
 (jX10_shortcut_100_L57 v1 v2 v7 v3 v4 v5 v8 (0 : Int64) σ)
 else
 (fX10_savedBy v7 v8 v1 σ).bind fun r14 =>
 jX10_shortcut_100_L57 v1 v2 v7 v3 v4 v5 v8 r14 σ
def bX10_shortcut_45 (v1 : Int32) (v2 : Int32) (σ : kw_M) (v3 : Int32) (v4 : Int32) (v5 : Int64) (v7 : Int32) : Option ((Int32 × Int32 × Int64 × Int32) ⊕ (Int32 × Int32 × Int64)) :=
 (fX10_towns σ).bind fun r7 =>
 if r7 ≤ v7 then
 (some (.inr (v3, v4, v5)))
 else
 (kw_loop (fun s => bX10_shortcut_57 v1 v2 v7 σ s.1 s.2.1 s.2.2.1 s.2.2.2) kw_F (v3, v4, v5, (0 : Int32))).bind fun x18 =>
 kw_let (v7 + (1 : Int32)) fun x19 =>
 some (.inl (x18.1, x18.2.1, x18.2.2, x19))
def fX10_shortcut (a1 : Int32) (a2 : Int32) (σ : kw_M) : Option (Int64 × kw_M) :=
 (fX10_isLength a1.toInt64 σ).bind fun r1 =>
 if r1 = (0 : Int32) then
 (some ((-9000000000000000000 : Int64), σ))
 else
 (fX10_in a2.toInt64 (0 : Int64) (2 : Int64) σ).bind fun r3 =>
 if r3 = (0 : Int32) then
 (some ((-9000000000000000000 : Int64), σ))
 else
 (fX10_settles σ).bind fun r5 =>
 (fX10_findsPairs r5).bind fun r6 =>
 (kw_loop (fun s => bX10_shortcut_45 a1 a2 r6 s.1 s.2.1 s.2.2.1 s.2.2.2) kw_F ((-2 : Int32), (-2 : Int32), (0 : Int64), (0 : Int32))).bind fun x20 =>
 if a2 = (0 : Int32) then
 (some (x20.1.toInt64, r6))
 else
 if a2 = (1 : Int32) then
 (some (x20.2.1.toInt64, r6))
 else
 if (0 : Int32) ≤ x20.1 then
 (some (x20.2.2, r6))
 else
 some ((-2 : Int64), r6)
def fX10_event (a1 : Int32) (a2 : Int32) (σ : kw_M) : Option (Int64) :=
 (fX10_in a1.toInt64 (0 : Int64) (((σ.1 1 4) - (1 : Int32)).toInt64) σ).bind fun r1 =>
 if r1 = (0 : Int32) then
 (some (-9000000000000000000 : Int64))
 else
 (fX10_in a2.toInt64 (0 : Int64) (3 : Int64) σ).bind fun r3 =>
 if r3 = (0 : Int32) then
 (some (-9000000000000000000 : Int64))
 else
 kw_let ((208 : Int32) + ((5 : Int32) * a1)) fun x5 =>
 if a2 = (3 : Int32) then
 (kw_chk (kw_in (x5 + (4 : Int32)) 2832) <|
 if (σ.1 1 (x5 + (4 : Int32)).toNatClampNeg) = (0 : Int32) then
 (some (-9000000000000000000 : Int64))
 else
 kw_chk (kw_in (x5 + a2) 2832) <|
 some ((σ.1 1 (x5 + a2).toNatClampNeg).toInt64))
 else
 kw_chk (kw_in (x5 + a2) 2832) <|
 some ((σ.1 1 (x5 + a2).toNatClampNeg).toInt64)
def fX10_ifLength (a1 : Int32) (a2 : Int32) (σ : kw_M) : Option (Int32 × kw_M) :=
 (fX10_isRoad a1 σ).bind fun r1 =>
 if r1 = (0 : Int32) then
 (some ((-1 : Int32), σ))
 else
 (fX10_isLength a2.toInt64 σ).bind fun r3 =>
 if r3 = (0 : Int32) then
 (some ((-1 : Int32), σ))
 else
 (fX10_isOpen a1 σ).bind fun r5 =>
 if r5 = (0 : Int32) then
 (some ((-6 : Int32), σ))
 else
 (fX10_copies (0 : Int32) (3 : Int32) σ).bind fun r7 =>
 (fX10_length a1 a2 r7).bind fun r8 =>
 (fX10_copies (3 : Int32) (0 : Int32) r8.2).bind fun r9 =>
 some (r8.1, r9)
def fX10_nextLot (σ : kw_M) : Option (Int32 × kw_M) :=
 kw_let (kw_si σ 1 5 ((((25173 : Int32) * (σ.1 1 5)) + (13849 : Int32)) - (((25173 : Int32) * (σ.1 1 5)) + (13849 : Int32)) / (65536 : Int32) * (65536 : Int32))) fun s1 =>
 some ((s1.1 1 5), s1)
def fX10_draws (σ : kw_M) : Option (Int32 × kw_M) :=
 (fX10_nextLot σ).bind fun r1 =>
 kw_chk (¬ (r1.2.1 1 1) = 0) <|
 kw_let (r1.1 - r1.1 / (r1.2.1 1 1) * (r1.2.1 1 1)) fun x3 =>
 (fX10_nextLot r1.2).bind fun r4 =>
 if (r4.1 - r4.1 / (8 : Int32) * (8 : Int32)) = (0 : Int32) then
 ((fX10_of x3 (3 : Int32) r4.2).bind fun r10 =>
 (fX10_turns x3 ((1 : Int32) - r10) r4.2).bind fun r11 =>
 some (r11.1, r11.2))
 else
 (fX10_of x3 (2 : Int32) r4.2).bind fun r6 =>
 (fX10_min (10000 : Int32) ((r6 + (r4.1 - r4.1 / (41 : Int32) * (41 : Int32))) - (10 : Int32)) r4.2).bind fun r7 =>
 (fX10_max (-100 : Int32) r7 r4.2).bind fun r8 =>
 (fX10_length x3 r8 r4.2).bind fun r9 =>
 some (r9.1, r9.2)
def bX10_drawn_44 (v1 : Int32) (v2 : Int32) (v3 : Int32) (v4 : Int32) (σ : kw_M) : Option ((Int32 × Int32 × kw_M) ⊕ (kw_M)) :=
 if v1 ≤ v4 then
 (some (.inr σ))
 else
 (fX10_draws σ).bind fun r8 =>
 if r8.1 < (0 : Int32) then
 (kw_let (v4 + (1 : Int32)) fun x10 =>
 some (.inl (v3, x10, r8.2)))
 else
 kw_let (v3 + (1 : Int32)) fun x11 =>
 kw_let (v4 + (1 : Int32)) fun x12 =>
 some (.inl (x11, x12, r8.2))
def fX10_drawn (a1 : Int32) (a2 : Int32) (σ : kw_M) : Option (Int64 × kw_M) :=
 (fX10_in a1.toInt64 (1 : Int64) (60 : Int64) σ).bind fun r1 =>
 if r1 = (0 : Int32) then
 (some ((-9000000000000000000 : Int64), σ))
 else
 (fX10_isTown a2 σ).bind fun r3 =>
 if r3 = (0 : Int32) then
 (some ((-9000000000000000000 : Int64), σ))
 else
 if (σ.1 1 1) = (0 : Int32) then
 (some ((-9000000000000000000 : Int64), σ))
 else
 (fX10_copies (0 : Int32) (3 : Int32) σ).bind fun r6 =>
 (kw_loop (fun s => bX10_drawn_44 a1 a2 s.1 s.2.1 s.2.2) kw_F ((0 : Int32), (0 : Int32), r6)).bind fun x13 =>
 (fX10_settles x13).bind fun r14 =>
 (fX10_copies (3 : Int32) (0 : Int32) r14).bind fun r15 =>
 kw_chk (kw_in a2 12) <|
 (fX10_told (r15.2 3 a2.toNatClampNeg) r15).bind fun r17 =>
 some (r17, r15)
def fX10_seed (a1 : Int32) (σ : kw_M) : Option (Int32 × kw_M) :=
 (fX10_in a1.toInt64 (0 : Int64) (65535 : Int64) σ).bind fun r1 =>
 if r1 = (0 : Int32) then
 (some ((0 : Int32), σ))
 else
 kw_let (kw_si σ 1 5 a1) fun s3 =>
 some ((1 : Int32), s3)
def fX10_keep (σ : kw_M) : Option (Int32 × kw_M) :=
 kw_let (kw_si σ 0 1 (1 : Int32)) fun s1 =>
 (fX10_copies (0 : Int32) (1 : Int32) s1).bind fun r2 =>
 some ((r2.1 1 3), r2)
def fX10_undo (σ : kw_M) : Option (Int32 × kw_M) :=
 if (σ.1 0 1) = (0 : Int32) then
 (some ((0 : Int32), σ))
 else
 (fX10_copies (1 : Int32) (0 : Int32) σ).bind fun r2 =>
 some ((1 : Int32), r2)
def jX10_check_75_L33 (v2 : Int32) (v3 : Int32) (t0 : Int32) (t1 : Int32) (σ : kw_M) : Option ((Int32 × Int32) ⊕ (Int32)) :=
 if t1 = t0 then
 (kw_let (v3 + (-1 : Int32)) fun x15 =>
 some (.inl (v2, x15)))
 else
 kw_let (v3 + (-1 : Int32)) fun x16 =>
 some (.inl (v3, x16))
def bX10_check_33 (σ : kw_M) (v2 : Int32) (v3 : Int32) : Option ((Int32 × Int32) ⊕ (Int32)) :=
 if v3 < (0 : Int32) then
 (some (.inr v2))
 else
 (fX10_towns σ).bind fun r7 =>
 if r7 ≤ v3 then
 (kw_let (v3 + (-1 : Int32)) fun x9 =>
 some (.inl (v3, x9)))
 else
 kw_chk (kw_in v3 240) <|
 (fX10_parentOf v3 σ).bind fun r11 =>
 if r11 = (-1 : Int32) then
 (jX10_check_75_L33 v2 v3 (255 : Int32) ((σ.1 5 v3.toNatClampNeg) &&& (255 : Int32)) σ)
 else
 (fX10_parentOf v3 σ).bind fun r13 =>
 jX10_check_75_L33 v2 v3 r13 ((σ.1 5 v3.toNatClampNeg) &&& (255 : Int32)) σ
def fX10_check (a1 : Int32) (σ : kw_M) : Option (Int32 × kw_M) :=
 (fX10_in a1.toInt64 (0 : Int64) (12 : Int64) σ).bind fun r1 =>
 if r1 = (0 : Int32) then
 (some ((-2 : Int32), σ))
 else
 if a1 ≤ (σ.1 0 6) then
 ((fX10_settles σ).bind fun r4 =>
 kw_let (a1 - (1 : Int32)) fun x5 =>
 (kw_loop (fun s => bX10_check_33 r4 s.1 s.2) kw_F ((-1 : Int32), x5)).bind fun x17 =>
 kw_let (kw_si r4 0 6 (0 : Int32)) fun s18 =>
 some (x17, s18))
 else
 some ((-2 : Int32), σ)
