/-! The class: what each method computes (written by program from its bytecode). -/
def bX8_addInt_3 (v1 : Int32) (v2 : Int32) (σ : kw_M) : Option ((Int32 × kw_M) ⊕ (kw_M)) :=
 if v2 < (0 : Int32) then
 (some (.inr σ))
 else
 if (240 : Int32) ≤ (σ.1 3 0) then
 (some (.inr σ))
 else
 kw_chk (kw_in (σ.1 3 0) 240) <|
 kw_let (kw_si σ 35 (σ.1 3 0).toNatClampNeg ((v1 >>> (v2 &&& 31)) &&& (255 : Int32))) fun s4 =>
 kw_let (kw_si s4 3 0 ((s4.1 3 0) + (1 : Int32))) fun s5 =>
 kw_let (v2 + (-8 : Int32)) fun x6 =>
 some (.inl (x6, s5))
def fX8_addInt (a1 : Int32) (σ : kw_M) : Option (kw_M) :=
 (kw_loop (fun s => bX8_addInt_3 a1 s.1 s.2) kw_F ((24 : Int32), σ)).bind fun x7 =>
 some x7
def fX9_feed (a1 : Int32) (a2 : Int32) (a3 : Int32) (a4 : Int32) (a5 : Int32) (σ : kw_M) : Option (Int32 × kw_M) :=
 if ((σ.1 3 0) + (20 : Int32)) ≤ (240 : Int32) then
 ((fX8_addInt a1 σ).bind fun r2 =>
 (fX8_addInt a2 r2).bind fun r3 =>
 (fX8_addInt a3 r3).bind fun r4 =>
 (fX8_addInt a4 r4).bind fun r5 =>
 (fX8_addInt a5 r5).bind fun r6 =>
 some ((r6.1 3 0), r6))
 else
 some ((-1 : Int32), σ)
def fX8_canGive (a1 : Int32) (a2 : Int32) (a3 : Int32) (σ : kw_M) : Option (Int32) :=
 if a1 < a2 then
 (some (0 : Int32))
 else
 if a3 < a1 then
 (some (0 : Int32))
 else
 if (σ.1 3 0) < a1 then
 (some (0 : Int32))
 else
 some (1 : Int32)
def bX3_isWord_17 (c2 : Nat) (v1 : Int32) (v2 : Nat) (σ : kw_M) (v3 : Int32) : Option ((Int32) ⊕ ((Int32) ⊕ (Unit))) :=
 (kw_fsl v2).bind fun r3 =>
 if r3 ≤ v3 then
 (some (.inr (.inr ())))
 else
 kw_chk ((σ.1 4 4) = (35 : Int32)) <|
 kw_chk (kw_in (v1 + v3) 240) <|
 (kw_fsc v2 v3).bind fun r7 =>
 if (σ.1 35 (v1 + v3).toNatClampNeg) = r7 then
 (kw_let (v3 + (1 : Int32)) fun x9 =>
 some (.inl x9))
 else
 some (.inr (.inl (0 : Int32)))
def fX3_isWord (c2 : Nat) (a1 : Int32) (σ : kw_M) : Option (Int32) :=
 (kw_fsl c2).bind fun r1 =>
 if ((σ.1 4 6) - a1) = r1 then
 ((kw_loop (fun s => bX3_isWord_17 c2 a1 c2 σ s) kw_F (0 : Int32)).bind fun x10 =>
 Sum.elim (fun x10r => some x10r) (fun x10 =>
 some (1 : Int32)) x10)
 else
 some (0 : Int32)
def jX3_netWord_16 (v1 : Int32) (σ : kw_M) : Option (Int32) :=
 (fX3_isWord 101 v1 σ).bind fun r2 =>
 if r2 = (0 : Int32) then
 (some (-1 : Int32))
 else
 some (1 : Int32)
def fX3_netWord (a1 : Int32) (a2 : Int32) (σ : kw_M) : Option (Int32) :=
 if a2 = (0 : Int32) then
 ((fX3_isWord 100 a1 σ).bind fun r4 =>
 if r4 = (0 : Int32) then
 (jX3_netWord_16 a1 σ)
 else
 some (0 : Int32))
 else
 jX3_netWord_16 a1 σ
def fX3_orderText (a0 : Int32) (σ : kw_M) : Option (Nat) :=
 if a0 = (2 : Int32) then
 (some 102)
 else
 if a0 = (3 : Int32) then
 (some 103)
 else
 if a0 = (4 : Int32) then
 (some 104)
 else
 if a0 = (5 : Int32) then
 (some 105)
 else
 if a0 = (6 : Int32) then
 (some 106)
 else
 if a0 = (7 : Int32) then
 (some 107)
 else
 some 108
def bX3_orderWord_2 (v1 : Int32) (σ : kw_M) (v2 : Int32) : Option ((Int32) ⊕ ((Int32) ⊕ (Unit))) :=
 if (8 : Int32) < v2 then
 (some (.inr (.inr ())))
 else
 (fX3_orderText v2 σ).bind fun r2 =>
 (fX3_isWord r2 v1 σ).bind fun r3 =>
 if r3 = (0 : Int32) then
 (kw_let (v2 + (1 : Int32)) fun x5 =>
 some (.inl x5))
 else
 some (.inr (.inl v2))
def fX3_orderWord (a1 : Int32) (σ : kw_M) : Option (Int32) :=
 (kw_loop (fun s => bX3_orderWord_2 a1 σ s) kw_F (2 : Int32)).bind fun x6 =>
 Sum.elim (fun x6r => some x6r) (fun x6 =>
 some (-1 : Int32)) x6
def fX3_tellFault (a1 : Int32) (a2 : Int32) (σ : kw_M) : Option (kw_M) :=
 kw_let (kw_si σ 4 7 (((-1000 : Int32) * a1) - a2)) fun s1 =>
 some s1
def bX3_readWord_5 (v1 : Int32) (v2 : Int32) (σ : kw_M) : Option ((kw_M) ⊕ (kw_M)) :=
 if (σ.1 4 5) ≤ (σ.1 4 6) then
 (some (.inr σ))
 else
 kw_chk ((σ.1 4 4) = (35 : Int32)) <|
 kw_chk (kw_in (σ.1 4 6) 240) <|
 if (σ.1 35 (σ.1 4 6).toNatClampNeg) < (97 : Int32) then
 (some (.inr σ))
 else
 kw_chk ((σ.1 4 4) = (35 : Int32)) <|
 if (122 : Int32) < (σ.1 35 (σ.1 4 6).toNatClampNeg) then
 (some (.inr σ))
 else
 kw_let (kw_si σ 4 6 ((σ.1 4 6) + (1 : Int32))) fun s8 =>
 some (.inl s8)
def jX3_readWord_78 (v1 : Int32) (v2 : Int32) (t0 : Int32) (σ : kw_M) : Option (kw_M) :=
 if t0 = (-1 : Int32) then
 ((fX3_tellFault (1 : Int32) v2 σ).bind fun r15 =>
 some r15)
 else
 kw_chk (kw_in v1 24) <|
 kw_let (kw_si σ 36 v1.toNatClampNeg t0) fun s14 =>
 some s14
def jX3_readWord_57 (v1 : Int32) (v2 : Int32) (σ : kw_M) : Option (kw_M) :=
 if (σ.1 4 8) = (0 : Int32) then
 ((fX3_orderWord v2 σ).bind fun r11 =>
 jX3_readWord_78 v1 v2 r11 σ)
 else
 (fX3_netWord v2 v1 σ).bind fun r16 =>
 jX3_readWord_78 v1 v2 r16 σ
def fX3_readWord (a1 : Int32) (σ : kw_M) : Option (kw_M) :=
 kw_let (σ.1 4 6) fun x1 =>
 (kw_loop (fun s => bX3_readWord_5 a1 x1 s) kw_F σ).bind fun x9 =>
 jX3_readWord_57 a1 x1 x9
def fX3_shapeOf (a0 : Int32) (σ : kw_M) : Option (Nat) :=
 if a0 = (0 : Int32) then
 (some 109)
 else
 if a0 = (1 : Int32) then
 (some 110)
 else
 if a0 = (2 : Int32) then
 (some 110)
 else
 if a0 = (3 : Int32) then
 (some 111)
 else
 if a0 = (4 : Int32) then
 (some 113)
 else
 if a0 = (5 : Int32) then
 (some 113)
 else
 if a0 = (6 : Int32) then
 (some 114)
 else
 if a0 = (7 : Int32) then
 (some 112)
 else
 some 114
def bX3_readValue_52 (v1 : Int32) (v2 : Int32) (v3 : Int64) (σ : kw_M) : Option ((Int64 × kw_M) ⊕ ((Int64 × kw_M) ⊕ (Int64 × kw_M))) :=
 if (σ.1 4 5) ≤ (σ.1 4 6) then
 (some (.inr (.inr (v3, σ))))
 else
 kw_chk ((σ.1 4 4) = (35 : Int32)) <|
 kw_chk (kw_in (σ.1 4 6) 240) <|
 if (σ.1 35 (σ.1 4 6).toNatClampNeg) < (48 : Int32) then
 (some (.inr (.inr (v3, σ))))
 else
 kw_chk ((σ.1 4 4) = (35 : Int32)) <|
 if (57 : Int32) < (σ.1 35 (σ.1 4 6).toNatClampNeg) then
 (some (.inr (.inr (v3, σ))))
 else
 if ((σ.1 4 6) - v2) = (10 : Int32) then
 ((fX3_tellFault (2 : Int32) (σ.1 4 6) σ).bind fun r14 =>
 some (.inr (.inl ((0 : Int64), r14))))
 else
 kw_chk ((σ.1 4 4) = (35 : Int32)) <|
 kw_let ((v3 * (10 : Int64)) + ((σ.1 35 (σ.1 4 6).toNatClampNeg) - (48 : Int32)).toInt64) fun x12 =>
 kw_let (kw_si σ 4 6 ((σ.1 4 6) + (1 : Int32))) fun s13 =>
 some (.inl (x12, s13))
def jX3_readValue_163 (v1 : Int32) (v3 : Int64) (σ : kw_M) : Option (Int64 × kw_M) :=
 if v1 = (0 : Int32) then
 (some (v3, σ))
 else
 some ((-v3), σ)
def jX3_readValue_146 (v1 : Int32) (v2 : Int32) (v3 : Int64) (σ : kw_M) : Option (Int64 × kw_M) :=
 if (σ.1 4 6) = v2 then
 ((fX3_tellFault (1 : Int32) (σ.1 4 6) σ).bind fun r18 =>
 jX3_readValue_163 v1 v3 r18)
 else
 jX3_readValue_163 v1 v3 σ
def jX3_readValue_45 (v1 : Int32) (σ : kw_M) : Option (Int64 × kw_M) :=
 kw_let (σ.1 4 6) fun x3 =>
 (kw_loop (fun s => bX3_readValue_52 v1 x3 s.1 s.2) kw_F ((0 : Int64), σ)).bind fun x15 =>
 Sum.elim (fun x15r => some x15r) (fun x15 =>
 jX3_readValue_146 v1 x3 x15.1 x15.2) x15
def jX3_readValue_30 (t0 : Int32) (σ : kw_M) : Option (Int64 × kw_M) :=
 if t0 = (0 : Int32) then
 (jX3_readValue_45 t0 σ)
 else
 kw_let (kw_si σ 4 6 ((σ.1 4 6) + (1 : Int32))) fun s19 =>
 jX3_readValue_45 t0 s19
def jX3_readValue_29 (σ : kw_M) : Option (Int64 × kw_M) :=
 jX3_readValue_30 (0 : Int32) σ
def fX3_readValue (σ : kw_M) : Option (Int64 × kw_M) :=
 if (σ.1 4 5) ≤ (σ.1 4 6) then
 (jX3_readValue_29 σ)
 else
 kw_chk ((σ.1 4 4) = (35 : Int32)) <|
 kw_chk (kw_in (σ.1 4 6) 240) <|
 if (σ.1 35 (σ.1 4 6).toNatClampNeg) = (45 : Int32) then
 (jX3_readValue_30 (1 : Int32) σ)
 else
 jX3_readValue_29 σ
def fX3_isTold (a1 : Int32) (a2 : Int64) (σ : kw_M) : Option (Int32) :=
 if a1 = (110 : Int32) then
 (if a2 < (2 : Int64) then
 (some (0 : Int32))
 else
 if (12 : Int64) < a2 then
 (some (0 : Int32))
 else
 some (1 : Int32))
 else
 if a1 = (114 : Int32) then
 (if a2 < (0 : Int64) then
 (some (0 : Int32))
 else
 if (36 : Int64) ≤ a2 then
 (some (0 : Int32))
 else
 some (1 : Int32))
 else
 if a1 = (116 : Int32) then
 (if a2 < (0 : Int64) then
 (some (0 : Int32))
 else
 if (σ.1 4 0).toInt64 ≤ a2 then
 (some (0 : Int32))
 else
 some (1 : Int32))
 else
 if a2 < (-1000000000 : Int64) then
 (some (0 : Int32))
 else
 if (1000000000 : Int64) < a2 then
 (some (0 : Int32))
 else
 some (1 : Int32)
def jX3_readNumber_25 (σ : kw_M) : Option (kw_M) :=
 (fX3_tellFault (1 : Int32) (σ.1 4 6) σ).bind fun r2 =>
 some r2
def jX3_readNumber_113 (v2 : Int32) (v3 : Int32) (v4 : Int32) (v7 : Int32) (σ : kw_M) : Option (kw_M) :=
 if v3 = (116 : Int32) then
 (if v2 = (1 : Int32) then
 (kw_chk (kw_in (v7 - (1 : Int32)) 72) <|
 kw_chk (kw_in v7 72) <|
 if (σ.1 37 (v7 - (1 : Int32)).toNatClampNeg) = (σ.1 37 v7.toNatClampNeg) then
 ((fX3_tellFault (6 : Int32) v4 σ).bind fun r21 =>
 some r21)
 else
 some σ)
 else
 some σ)
 else
 some σ
def fX3_readNumber (a1 : Int32) (a2 : Int32) (a3 : Int32) (σ : kw_M) : Option (kw_M) :=
 if (σ.1 4 5) ≤ (σ.1 4 6) then
 (jX3_readNumber_25 σ)
 else
 kw_chk ((σ.1 4 4) = (35 : Int32)) <|
 kw_chk (kw_in (σ.1 4 6) 240) <|
 if (σ.1 35 (σ.1 4 6).toNatClampNeg) = (32 : Int32) then
 (kw_let (kw_si σ 4 6 ((σ.1 4 6) + (1 : Int32))) fun s6 =>
 kw_let (s6.1 4 6) fun x7 =>
 (fX3_readValue s6).bind fun r8 =>
 if (r8.2.1 4 7) = (0 : Int32) then
 ((fX3_isTold a3 r8.1 r8.2).bind fun r10 =>
 if r10 = (0 : Int32) then
 ((fX3_tellFault (3 : Int32) x7 r8.2).bind fun r23 =>
 some r23)
 else
 kw_let ((a1 * (3 : Int32)) + a2) fun x12 =>
 kw_chk (kw_in x12 72) <|
 kw_let (kw_si r8.2 37 x12.toNatClampNeg r8.1.toInt32) fun s14 =>
 if a3 = (110 : Int32) then
 (kw_let (kw_si s14 4 0 r8.1.toInt32) fun s22 =>
 jX3_readNumber_113 a2 a3 x7 x12 s22)
 else
 jX3_readNumber_113 a2 a3 x7 x12 s14)
 else
 some r8.2)
 else
 jX3_readNumber_25 σ
def bX3_readClause_26 (v1 : Int32) (v2 : Nat) (v3 : Int32) (σ : kw_M) : Option ((Int32 × kw_M) ⊕ (kw_M)) :=
 (kw_fsl v2).bind fun r5 =>
 if r5 ≤ v3 then
 (some (.inr σ))
 else
 if (σ.1 4 7) = (0 : Int32) then
 ((kw_fsc v2 v3).bind fun r8 =>
 (fX3_readNumber v1 v3 r8 σ).bind fun r9 =>
 kw_let (v3 + (1 : Int32)) fun x10 =>
 some (.inl (x10, r9)))
 else
 some (.inr σ)
def jX3_readClause_58 (v1 : Int32) (σ : kw_M) : Option (Int32 × kw_M) :=
 if (σ.1 4 7) = (0 : Int32) then
 (kw_let (kw_si σ 4 1 (v1 + (1 : Int32))) fun s13 =>
 if (s13.1 4 6) < (s13.1 4 5) then
 (kw_chk ((s13.1 4 4) = (35 : Int32)) <|
 kw_chk (kw_in (s13.1 4 6) 240) <|
 if (s13.1 35 (s13.1 4 6).toNatClampNeg) = (59 : Int32) then
 (kw_let (kw_si s13 4 6 ((s13.1 4 6) + (1 : Int32))) fun s18 =>
 some ((1 : Int32), s18))
 else
 (fX3_tellFault (1 : Int32) (s13.1 4 6) s13).bind fun r19 =>
 some ((0 : Int32), r19))
 else
 some ((0 : Int32), s13))
 else
 some ((0 : Int32), σ)
def fX3_readClause (a1 : Int32) (σ : kw_M) : Option (Int32 × kw_M) :=
 (fX3_readWord a1 σ).bind fun r1 =>
 if (r1.1 4 7) = (0 : Int32) then
 (kw_chk (kw_in a1 24) <|
 (fX3_shapeOf (r1.1 36 a1.toNatClampNeg) r1).bind fun r4 =>
 (kw_loop (fun s => bX3_readClause_26 a1 r4 s.1 s.2) kw_F ((0 : Int32), r1)).bind fun x11 =>
 jX3_readClause_58 a1 x11)
 else
 some ((0 : Int32), r1)
def bX3_readText_42 (v5 : Int32) (v6 : Int32) (σ : kw_M) : Option ((Int32 × Int32 × kw_M) ⊕ (Int32 × kw_M)) :=
 if (24 : Int32) ≤ v6 then
 (some (.inr (v5, σ)))
 else
 if v5 = (0 : Int32) then
 (some (.inr (v5, σ)))
 else
 (fX3_readClause v6 σ).bind fun r11 =>
 kw_let (v6 + (1 : Int32)) fun x12 =>
 some (.inl (r11.1, x12, r11.2))
def jX3_readText_68 (v5 : Int32) (σ : kw_M) : Option (Int32 × kw_M) :=
 if v5 = (0 : Int32) then
 (some ((σ.1 4 7), σ))
 else
 (fX3_tellFault (4 : Int32) (σ.1 4 6) σ).bind fun r15 =>
 some ((r15.1 4 7), r15)
def fX3_readText (a2 : Int32) (a3 : Int32) (a4 : Int32) (σ : kw_M) : Option (Int32 × kw_M) :=
 kw_let (kw_si σ 4 4 (35 : Int32)) fun s1 =>
 kw_let (kw_si s1 4 5 a2) fun s2 =>
 kw_let (kw_si s2 4 6 (0 : Int32)) fun s3 =>
 kw_let (kw_si s3 4 7 (0 : Int32)) fun s4 =>
 kw_chk (kw_isB a3) <|
 kw_let (kw_si s4 4 8 a3) fun s6 =>
 kw_let (kw_si s6 4 0 a4) fun s7 =>
 kw_let (kw_si s7 4 1 (0 : Int32)) fun s8 =>
 (kw_loop (fun s => bX3_readText_42 s.1 s.2.1 s.2.2) kw_F ((1 : Int32), (0 : Int32), s8)).bind fun x13 =>
 jX3_readText_68 x13.1 x13.2
def fX4_beginWith (a1 : Int32) (σ : kw_M) : Option (kw_M) :=
 kw_let (kw_si σ 10 0 a1) fun s1 =>
 kw_let (kw_si s1 10 1 (0 : Int32)) fun s2 =>
 kw_let (kw_sl s2 10 2 (0 : Int64)) fun s3 =>
 some s3
def fX3_number (a1 : Int32) (a2 : Int32) (σ : kw_M) : Option (Int32) :=
 kw_chk (kw_in ((a1 * (3 : Int32)) + a2) 72) <|
 some (σ.1 37 ((a1 * (3 : Int32)) + a2).toNatClampNeg)
def fX4_addRoad (a1 : Int32) (a2 : Int32) (a3 : Int32) (σ : kw_M) : Option (Int32 × kw_M) :=
 if (σ.1 10 1) < (36 : Int32) then
 (kw_chk (kw_in (σ.1 10 1) 36) <|
 kw_let (kw_si σ 32 (σ.1 10 1).toNatClampNeg a1) fun s3 =>
 kw_chk (kw_in (s3.1 10 1) 36) <|
 kw_let (kw_si s3 33 (s3.1 10 1).toNatClampNeg a2) fun s5 =>
 kw_chk (kw_in (s5.1 10 1) 36) <|
 kw_let (kw_si s5 34 (s5.1 10 1).toNatClampNeg a3) fun s7 =>
 kw_let (kw_sl s7 10 2 ((s7.2 10 2) ||| ((1 : Int64) <<< ((s7.1 10 1).toInt64 &&& 63)))) fun s8 =>
 kw_let (kw_si s8 10 1 ((s8.1 10 1) + (1 : Int32))) fun s9 =>
 some (((s9.1 10 1) - (1 : Int32)), s9))
 else
 some ((-1 : Int32), σ)
def fX4_isOpen (c0 : Nat) (a1 : Int32) (σ : kw_M) : Option (Int32) :=
 if a1 < (0 : Int32) then
 (some (0 : Int32))
 else
 if (σ.1 c0 1) ≤ a1 then
 (some (0 : Int32))
 else
 if (((σ.2 c0 2) >>> (a1.toInt64 &&& 63)) &&& (1 : Int64)) = (0 : Int64) then
 (some (0 : Int32))
 else
 some (1 : Int32)
def bJ7_fill_d0a16_6 (c0 : Nat) (v1 : Int64) (v4 : Int32) (v3 : Int32) (σ : kw_M) : Option ((Int32 × kw_M) ⊕ (kw_M)) :=
 if v4 ≤ v3 then
 (some (.inr σ))
 else
 kw_chk (kw_in v3 12) <|
 kw_let (kw_sl σ c0 v3.toNatClampNeg v1) fun s3 =>
 kw_let (v3 + (1 : Int32)) fun x4 =>
 some (.inl (x4, s3))
def fXJ7_fill_d0a16 (c0 : Nat) (a1 : Int64) (σ : kw_M) : Option (kw_M) :=
 (kw_loop (fun s => bJ7_fill_d0a16_6 c0 a1 (12 : Int32) s.1 s.2) kw_F ((0 : Int32), σ)).bind fun x5 =>
 some x5
def jX4_settle_126_L37 (c0 : Nat) (c3 : Nat) (v2 : Int32) (v5 : Int32) (v6 : Int32) (v7 : Int64) (σ : kw_M) : Option ((Int32 × Int32 × kw_M) ⊕ (Int32 × kw_M)) :=
 kw_chk (kw_in v6 36) <|
 kw_chk (kw_in (σ.1 (kx_rf c0 4) v6.toNatClampNeg) 12) <|
 kw_let (kw_sl σ c3 (σ.1 (kx_rf c0 4) v6.toNatClampNeg).toNatClampNeg (v7 + (σ.1 (kx_rf c0 5) v6.toNatClampNeg).toInt64)) fun s20 =>
 kw_let (v6 + (1 : Int32)) fun x21 =>
 some (.inl ((1 : Int32), x21, s20))
def bX4_settle_37 (c0 : Nat) (c3 : Nat) (v2 : Int32) (v5 : Int32) (v4 : Int32) (v6 : Int32) (σ : kw_M) : Option ((Int32 × Int32 × kw_M) ⊕ (Int32 × kw_M)) :=
 if (σ.1 c0 1) ≤ v6 then
 (some (.inr (v4, σ)))
 else
 kw_chk (kw_in v6 36) <|
 kw_chk (kw_in (σ.1 (kx_rf c0 3) v6.toNatClampNeg) 12) <|
 kw_let (σ.2 c3 (σ.1 (kx_rf c0 3) v6.toNatClampNeg).toNatClampNeg) fun x9 =>
 if x9 = (-9000000000000000000 : Int64) then
 (kw_let (v6 + (1 : Int32)) fun x11 =>
 some (.inl (v4, x11, σ)))
 else
 if v6 = v2 then
 (kw_let (v6 + (1 : Int32)) fun x13 =>
 some (.inl (v4, x13, σ)))
 else
 if (((σ.2 c0 2) >>> (v6.toInt64 &&& 63)) &&& (1 : Int64)) = (0 : Int64) then
 (kw_let (v6 + (1 : Int32)) fun x24 =>
 some (.inl (v4, x24, σ)))
 else
 kw_chk (kw_in (σ.1 (kx_rf c0 4) v6.toNatClampNeg) 12) <|
 kw_let (σ.2 c3 (σ.1 (kx_rf c0 4) v6.toNatClampNeg).toNatClampNeg) fun x16 =>
 if x16 = (-9000000000000000000 : Int64) then
 (jX4_settle_126_L37 c0 c3 v2 v5 v6 x9 σ)
 else
 if x16 ≤ (x9 + (σ.1 (kx_rf c0 5) v6.toNatClampNeg).toInt64) then
 (kw_let (v6 + (1 : Int32)) fun x23 =>
 some (.inl (v4, x23, σ)))
 else
 jX4_settle_126_L37 c0 c3 v2 v5 v6 x9 σ
def bX4_settle_17 (c0 : Nat) (c3 : Nat) (v2 : Int32) (v4 : Int32) (v5 : Int32) (σ : kw_M) : Option ((Int32 × Int32 × kw_M) ⊕ (kw_M)) :=
 if (σ.1 c0 0) ≤ v5 then
 (some (.inr σ))
 else
 if v4 = (0 : Int32) then
 (some (.inr σ))
 else
 (kw_loop (fun s => bX4_settle_37 c0 c3 v2 v5 s.1 s.2.1 s.2.2) kw_F ((0 : Int32), (0 : Int32), σ)).bind fun x25 =>
 kw_let (v5 + (1 : Int32)) fun x26 =>
 some (.inl (x25.1, x26, x25.2))
def fX4_settle (c0 : Nat) (c3 : Nat) (a1 : Int32) (a2 : Int32) (σ : kw_M) : Option (kw_M) :=
 (fXJ7_fill_d0a16 c3 (-9000000000000000000 : Int64) σ).bind fun r1 =>
 kw_chk (kw_in a1 12) <|
 kw_let (kw_sl r1 c3 a1.toNatClampNeg (0 : Int64)) fun s3 =>
 (kw_loop (fun s => bX4_settle_17 c0 c3 a2 s.1 s.2.1 s.2.2) kw_F ((1 : Int32), (0 : Int32), s3)).bind fun x27 =>
 some x27
def fX4_makesBadRing (a1 : Int32) (σ : kw_M) : Option (Int32 × kw_M) :=
 (fX4_isOpen 10 a1 σ).bind fun r1 =>
 if r1 = (0 : Int32) then
 (some ((0 : Int32), σ))
 else
 kw_chk (kw_in a1 36) <|
 (fX4_settle 10 41 (σ.1 33 a1.toNatClampNeg) a1 σ).bind fun r4 =>
 kw_chk (kw_in (r4.1 32 a1.toNatClampNeg) 12) <|
 kw_let (r4.2 41 (r4.1 32 a1.toNatClampNeg).toNatClampNeg) fun x6 =>
 if x6 = (-9000000000000000000 : Int64) then
 (some ((0 : Int32), r4))
 else
 if (0 : Int64) < (x6 + (r4.1 34 a1.toNatClampNeg).toInt64) then
 (some ((0 : Int32), r4))
 else
 some ((1 : Int32), r4)
def bX4_allInts_2 (σ : kw_M) (v2 : Int32) : Option ((Int32) ⊕ ((Int32) ⊕ (Unit))) :=
 if (σ.1 10 0) ≤ v2 then
 (some (.inr (.inr ())))
 else
 kw_chk (kw_in v2 12) <|
 if (σ.2 11 v2.toNatClampNeg) = (-9000000000000000000 : Int64) then
 (kw_let (v2 + (1 : Int32)) fun x4 =>
 some (.inl x4))
 else
 if (σ.2 11 v2.toNatClampNeg) < (-2147483648 : Int64) then
 (some (.inr (.inl (0 : Int32))))
 else
 if (σ.2 11 v2.toNatClampNeg) ≤ (2147483647 : Int64) then
 (kw_let (v2 + (1 : Int32)) fun x7 =>
 some (.inl x7))
 else
 some (.inr (.inl (0 : Int32)))
def fX4_allInts (σ : kw_M) : Option (Int32) :=
 (kw_loop (fun s => bX4_allInts_2 σ s) kw_F (0 : Int32)).bind fun x8 =>
 Sum.elim (fun x8r => some x8r) (fun x8 =>
 some (1 : Int32)) x8
def fX4_copyFrom (c0 : Nat) (c1 : Nat) (σ : kw_M) : Option (kw_M) :=
 kw_let (kw_si σ c0 0 (σ.1 c1 0)) fun s1 =>
 kw_let (kw_si s1 c0 1 (s1.1 c1 1)) fun s2 =>
 kw_let (kw_sl s2 c0 2 (s2.2 c1 2)) fun s3 =>
 kw_chk (¬ (s3.1 c0 1) < 0) <|
 kw_chk ((0 : Int32).toNatClampNeg + (s3.1 c0 1).toNatClampNeg ≤ 36) <|
 kw_chk ((0 : Int32).toNatClampNeg + (s3.1 c0 1).toNatClampNeg ≤ 36) <|
 kw_let (kw_ri s3 (kx_rf c0 3) (va_cpy (s3.1 (kx_rf c1 3)) (s3.1 (kx_rf c0 3)) 0 0 (s3.1 c0 1).toNatClampNeg)) fun s7 =>
 kw_chk (¬ (s7.1 c0 1) < 0) <|
 kw_chk ((0 : Int32).toNatClampNeg + (s7.1 c0 1).toNatClampNeg ≤ 36) <|
 kw_chk ((0 : Int32).toNatClampNeg + (s7.1 c0 1).toNatClampNeg ≤ 36) <|
 kw_let (kw_ri s7 (kx_rf c0 4) (va_cpy (s7.1 (kx_rf c1 4)) (s7.1 (kx_rf c0 4)) 0 0 (s7.1 c0 1).toNatClampNeg)) fun s11 =>
 kw_chk (¬ (s11.1 c0 1) < 0) <|
 kw_chk ((0 : Int32).toNatClampNeg + (s11.1 c0 1).toNatClampNeg ≤ 36) <|
 kw_chk ((0 : Int32).toNatClampNeg + (s11.1 c0 1).toNatClampNeg ≤ 36) <|
 kw_let (kw_ri s11 (kx_rf c0 5) (va_cpy (s11.1 (kx_rf c1 5)) (s11.1 (kx_rf c0 5)) 0 0 (s11.1 c0 1).toNatClampNeg)) fun s15 =>
 some s15
def bJ7_fill_53178_5 (v1 : Int32) (v3 : Int32) (v2 : Int32) (σ : kw_M) : Option ((Int32 × kw_M) ⊕ (kw_M)) :=
 if v3 ≤ v2 then
 (some (.inr σ))
 else
 kw_chk (kw_in v2 12) <|
 kw_let (kw_si σ 17 v2.toNatClampNeg v1) fun s3 =>
 kw_let (v2 + (1 : Int32)) fun x4 =>
 some (.inl (x4, s3))
def fXJ7_fill_53178 (a1 : Int32) (σ : kw_M) : Option (kw_M) :=
 (kw_loop (fun s => bJ7_fill_53178_5 a1 (12 : Int32) s.1 s.2) kw_F ((0 : Int32), σ)).bind fun x5 =>
 some x5
def fX7_slackOf (a1 : Int32) (σ : kw_M) : Option (Int64) :=
 kw_chk (kw_in a1 36) <|
 kw_chk (kw_in (σ.1 18 a1.toNatClampNeg) 12) <|
 kw_let (σ.2 16 (σ.1 18 a1.toNatClampNeg).toNatClampNeg) fun x3 =>
 kw_chk (kw_in (σ.1 19 a1.toNatClampNeg) 12) <|
 kw_let (σ.2 16 (σ.1 19 a1.toNatClampNeg).toNatClampNeg) fun x5 =>
 if x3 = (-9000000000000000000 : Int64) then
 (some (-9000000000000000000 : Int64))
 else
 if x5 = (-9000000000000000000 : Int64) then
 (some (-9000000000000000000 : Int64))
 else
 some ((x3 + (σ.1 20 a1.toNatClampNeg).toInt64) - x5)
def fX7_isTight (a1 : Int32) (σ : kw_M) : Option (Int32) :=
 (fX4_isOpen 12 a1 σ).bind fun r1 =>
 if r1 = (0 : Int32) then
 (some (0 : Int32))
 else
 (fX7_slackOf a1 σ).bind fun r3 =>
 if r3 = (0 : Int64) then
 (some (1 : Int32))
 else
 some (0 : Int32)
def bX7_findParents_18 (v1 : Int32) (σ : kw_M) : Option ((Int32 × kw_M) ⊕ (kw_M)) :=
 if v1 < (0 : Int32) then
 (some (.inr σ))
 else
 (fX7_isTight v1 σ).bind fun r4 =>
 if r4 = (0 : Int32) then
 (kw_let (v1 + (-1 : Int32)) fun x6 =>
 some (.inl (x6, σ)))
 else
 kw_chk (kw_in v1 36) <|
 kw_chk (kw_in (σ.1 19 v1.toNatClampNeg) 12) <|
 kw_let (kw_si σ 17 (σ.1 19 v1.toNatClampNeg).toNatClampNeg v1) fun s9 =>
 kw_let (v1 + (-1 : Int32)) fun x10 =>
 some (.inl (x10, s9))
def fX7_findParents (σ : kw_M) : Option (kw_M) :=
 (fXJ7_fill_53178 (-1 : Int32) σ).bind fun r1 =>
 kw_let ((r1.1 12 1) - (1 : Int32)) fun x2 =>
 (kw_loop (fun s => bX7_findParents_18 s.1 s.2) kw_F (x2, r1)).bind fun x11 =>
 some x11
def fX7_beginWith (σ : kw_M) : Option (kw_M) :=
 (fX4_copyFrom 12 10 σ).bind fun r1 =>
 kw_let (kw_si r1 13 0 (0 : Int32)) fun s2 =>
 kw_let (kw_si s2 1 2 (0 : Int32)) fun s3 =>
 kw_let (kw_si s3 1 3 (0 : Int32)) fun s4 =>
 kw_let (kw_si s4 1 5 (0 : Int32)) fun s5 =>
 kw_let (kw_si s5 1 7 (0 : Int32)) fun s6 =>
 kw_let (kw_rl s6 16 (va_cpy (s6.2 11) (s6.2 16) 0 0 12)) fun s7 =>
 (fX7_findParents s7).bind fun r8 =>
 some r8
def bX9_buildNet_16 (v1 : Int32) (σ : kw_M) : Option ((Int32 × kw_M) ⊕ ((Int32 × kw_M) ⊕ (kw_M))) :=
 if (σ.1 4 1) ≤ v1 then
 (some (.inr (.inr σ)))
 else
 kw_chk (kw_in v1 24) <|
 if (σ.1 36 v1.toNatClampNeg) = (1 : Int32) then
 ((fX3_number v1 (0 : Int32) σ).bind fun r5 =>
 (fX3_number v1 (1 : Int32) σ).bind fun r6 =>
 (fX3_number v1 (2 : Int32) σ).bind fun r7 =>
 (fX4_addRoad r5 r6 r7 σ).bind fun r8 =>
 if r8.1 < (0 : Int32) then
 (kw_let (v1 + (1 : Int32)) fun x10 =>
 some (.inl (x10, r8.2)))
 else
 (fX4_makesBadRing r8.1 r8.2).bind fun r11 =>
 if r11.1 = (0 : Int32) then
 (kw_let (v1 + (1 : Int32)) fun x13 =>
 some (.inl (x13, r11.2)))
 else
 some (.inr (.inl ((-3 : Int32), r11.2))))
 else
 kw_let (v1 + (1 : Int32)) fun x14 =>
 some (.inl (x14, σ))
def fX9_buildNet (σ : kw_M) : Option (Int32 × kw_M) :=
 (fX4_beginWith (σ.1 4 0) σ).bind fun r1 =>
 (kw_loop (fun s => bX9_buildNet_16 s.1 s.2) kw_F ((0 : Int32), r1)).bind fun x15 =>
 Sum.elim (fun x15r => some x15r) (fun x15 =>
 (fX4_settle 10 11 (0 : Int32) (-1 : Int32) x15).bind fun r16 =>
 (fX4_allInts r16).bind fun r17 =>
 if r17 = (0 : Int32) then
 (some ((-4 : Int32), r16))
 else
 (fX7_beginWith r16).bind fun r19 =>
 kw_let (kw_si r19 0 2 (0 : Int32)) fun s20 =>
 kw_let (kw_si s20 5 0 (0 : Int32)) fun s21 =>
 some ((s21.1 4 1), s21)) x15
def fX9_net (a1 : Int32) (σ : kw_M) : Option (Int32 × kw_M) :=
 (fX8_canGive a1 (1 : Int32) (200 : Int32) σ).bind fun r1 =>
 if r1 = (0 : Int32) then
 (some ((-1 : Int32), σ))
 else
 (fX3_readText a1 (1 : Int32) (2 : Int32) σ).bind fun r3 =>
 kw_let (kw_si r3.2 3 0 (0 : Int32)) fun s4 =>
 if r3.1 = (0 : Int32) then
 ((fX9_buildNet s4).bind fun r6 =>
 some (r6.1, r6.2))
 else
 some (r3.1, s4)
def fX4_hasTown (a1 : Int32) (σ : kw_M) : Option (Int32) :=
 if a1 < (0 : Int32) then
 (some (0 : Int32))
 else
 if (σ.1 12 0) ≤ a1 then
 (some (0 : Int32))
 else
 some (1 : Int32)
def fX9_isLength (a0 : Int32) (σ : kw_M) : Option (Int32) :=
 if a0 < (-1000000000 : Int32) then
 (some (0 : Int32))
 else
 if (1000000000 : Int32) < a0 then
 (some (0 : Int32))
 else
 some (1 : Int32)
def fX9_judgeAside (a1 : Int32) (a2 : Int32) (σ : kw_M) : Option (Int32 × kw_M) :=
 (fX4_makesBadRing a1 σ).bind fun r1 =>
 if r1.1 = (0 : Int32) then
 ((fX4_settle 10 11 a2 (-1 : Int32) r1.2).bind fun r3 =>
 (fX4_allInts r3).bind fun r4 =>
 if r4 = (0 : Int32) then
 (some ((-4 : Int32), r3))
 else
 some ((0 : Int32), r3))
 else
 some ((-3 : Int32), r1.2)
def fX7_isWatched (a1 : Int32) (σ : kw_M) : Option (Int32) :=
 if (((σ.1 1 5) >>> (a1 &&& 31)) &&& (1 : Int32)) = (0 : Int32) then
 (some (0 : Int32))
 else
 some (1 : Int32)
def fX7_isBeyond (a1 : Int32) (σ : kw_M) : Option (Int32) :=
 kw_chk (kw_in a1 12) <|
 if (σ.2 16 a1.toNatClampNeg) = (-9000000000000000000 : Int64) then
 (some (1 : Int32))
 else
 if (σ.2 16 a1.toNatClampNeg) ≤ (σ.1 14 a1.toNatClampNeg).toInt64 then
 (some (0 : Int32))
 else
 some (1 : Int32)
def bX7_beyondBits_4 (σ : kw_M) (v1 : Int32) (v2 : Int32) : Option ((Int32 × Int32) ⊕ (Int32)) :=
 if (σ.1 12 0) ≤ v2 then
 (some (.inr v1))
 else
 (fX7_isWatched v2 σ).bind fun r2 =>
 if r2 = (0 : Int32) then
 (kw_let (v2 + (1 : Int32)) fun x4 =>
 some (.inl (v1, x4)))
 else
 (fX7_isBeyond v2 σ).bind fun r5 =>
 if r5 = (0 : Int32) then
 (kw_let (v2 + (1 : Int32)) fun x7 =>
 some (.inl (v1, x7)))
 else
 kw_let (v1 ||| ((1 : Int32) <<< (v2 &&& 31))) fun x8 =>
 kw_let (v2 + (1 : Int32)) fun x9 =>
 some (.inl (x8, x9))
def fX7_beyondBits (σ : kw_M) : Option (Int32) :=
 (kw_loop (fun s => bX7_beyondBits_4 σ s.1 s.2) kw_F ((0 : Int32), (0 : Int32))).bind fun x10 =>
 some x10
def fX9_isLess (a0 : Int64) (a1 : Int64) (σ : kw_M) : Option (Int32) :=
 if a0 = (-9000000000000000000 : Int64) then
 (some (0 : Int32))
 else
 if a1 = (-9000000000000000000 : Int64) then
 (some (1 : Int32))
 else
 if a1 ≤ a0 then
 (some (0 : Int32))
 else
 some (1 : Int32)
def bX7_putTouched_5 (v1 : Int32) (v3 : Int32) (σ : kw_M) : Option ((Int32 × kw_M) ⊕ (Int32 × kw_M)) :=
 if v3 ≤ (0 : Int32) then
 (some (.inr (v3, σ)))
 else
 kw_chk (kw_in v1 12) <|
 kw_chk (kw_in (v3 - (1 : Int32)) 12) <|
 kw_chk (kw_in (σ.1 15 (v3 - (1 : Int32)).toNatClampNeg) 12) <|
 (fX9_isLess (σ.2 11 v1.toNatClampNeg) (σ.2 11 (σ.1 15 (v3 - (1 : Int32)).toNatClampNeg).toNatClampNeg) σ).bind fun r6 =>
 if r6 = (0 : Int32) then
 (some (.inr (v3, σ)))
 else
 kw_chk (kw_in v3 12) <|
 kw_let (kw_si σ 15 v3.toNatClampNeg (σ.1 15 (v3 - (1 : Int32)).toNatClampNeg)) fun s9 =>
 kw_let (v3 + (-1 : Int32)) fun x10 =>
 some (.inl (x10, s9))
def jX7_putTouched_48 (v1 : Int32) (v3 : Int32) (σ : kw_M) : Option (kw_M) :=
 kw_chk (kw_in v3 12) <|
 kw_let (kw_si σ 15 v3.toNatClampNeg v1) fun s13 =>
 kw_let (kw_si s13 1 7 ((s13.1 1 7) + (1 : Int32))) fun s14 =>
 some s14
def fX7_putTouched (a1 : Int32) (σ : kw_M) : Option (kw_M) :=
 kw_let (σ.1 1 7) fun x1 =>
 (kw_loop (fun s => bX7_putTouched_5 a1 s.1 s.2) kw_F (x1, σ)).bind fun x11 =>
 jX7_putTouched_48 a1 x11.1 x11.2
def bX7_markTouched_7 (v2 : Int32) (σ : kw_M) : Option ((Int32 × kw_M) ⊕ (kw_M)) :=
 if (σ.1 12 0) ≤ v2 then
 (some (.inr σ))
 else
 kw_chk (kw_in v2 12) <|
 if (σ.2 16 v2.toNatClampNeg) = (σ.2 11 v2.toNatClampNeg) then
 (kw_let (v2 + (1 : Int32)) fun x5 =>
 some (.inl (x5, σ)))
 else
 (fX7_putTouched v2 σ).bind fun r6 =>
 kw_let (v2 + (1 : Int32)) fun x7 =>
 some (.inl (x7, r6))
def fX7_markTouched (σ : kw_M) : Option (kw_M) :=
 kw_let (kw_si σ 1 7 (0 : Int32)) fun s1 =>
 (kw_loop (fun s => bX7_markTouched_7 s.1 s.2) kw_F ((0 : Int32), s1)).bind fun x8 =>
 some x8
def jX0_write_55 (v4 : Int64) (v6 : Int32) (t0 : Int64) (t1 : Int32) (σ : kw_M) : Option (kw_M) :=
 kw_chk (kw_in t1 400) <|
 kw_let (kw_sl σ 21 t1.toNatClampNeg t0) fun s9 =>
 kw_chk (kw_in (v6 + (3 : Int32)) 400) <|
 kw_let (kw_sl s9 21 (v6 + (3 : Int32)).toNatClampNeg v4) fun s11 =>
 kw_let (kw_si s11 13 0 ((s11.1 13 0) + (1 : Int32))) fun s12 =>
 some s12
def fX0_write (a1 : Int32) (a2 : Int32) (a3 : Int32) (a4 : Int64) (σ : kw_M) : Option (kw_M) :=
 if (σ.1 13 0) < (100 : Int32) then
 (kw_let ((σ.1 13 0) * (4 : Int32)) fun x2 =>
 kw_chk (kw_in x2 400) <|
 kw_let (kw_sl σ 21 x2.toNatClampNeg a1.toInt64) fun s4 =>
 kw_chk (kw_in (x2 + (1 : Int32)) 400) <|
 kw_let (kw_sl s4 21 (x2 + (1 : Int32)).toNatClampNeg a2.toInt64) fun s6 =>
 if a3 = (0 : Int32) then
 (jX0_write_55 a4 x2 (0 : Int64) (x2 + (2 : Int32)) s6)
 else
 jX0_write_55 a4 x2 (1 : Int64) (x2 + (2 : Int32)) s6)
 else
 some σ
def bX7_writeEvents_2 (v1 : Int32) (v2 : Int32) (σ : kw_M) : Option ((Int32 × kw_M) ⊕ (kw_M)) :=
 if (σ.1 12 0) ≤ v2 then
 (some (.inr σ))
 else
 if ((v1 >>> (v2 &&& 31)) &&& (1 : Int32)) = (0 : Int32) then
 (kw_let (v2 + (1 : Int32)) fun x3 =>
 some (.inl (x3, σ)))
 else
 (fX7_isBeyond v2 σ).bind fun r4 =>
 kw_chk (kw_in v2 12) <|
 (fX0_write (σ.1 1 3) v2 r4 (σ.2 16 v2.toNatClampNeg) σ).bind fun r6 =>
 kw_let (v2 + (1 : Int32)) fun x7 =>
 some (.inl (x7, r6))
def fX7_writeEvents (a1 : Int32) (σ : kw_M) : Option (kw_M) :=
 (kw_loop (fun s => bX7_writeEvents_2 a1 s.1 s.2) kw_F ((0 : Int32), σ)).bind fun x8 =>
 some x8
def fX7_takeOver (a2 : Int32) (σ : kw_M) : Option (kw_M) :=
 (fX7_beyondBits σ).bind fun r1 =>
 (fX7_markTouched σ).bind fun r2 =>
 (fX4_copyFrom 12 10 r2).bind fun r3 =>
 kw_let (kw_si r3 1 2 a2) fun s4 =>
 kw_let (kw_rl s4 16 (va_cpy (s4.2 11) (s4.2 16) 0 0 12)) fun s5 =>
 (fX7_findParents s5).bind fun r6 =>
 kw_let (kw_si r6 1 3 ((r6.1 1 3) + (1 : Int32))) fun s7 =>
 (fX7_beyondBits s7).bind fun r8 =>
 (fX7_writeEvents (r1 ^^^ r8) s7).bind fun r9 =>
 some r9
def fX9_doChange (a1 : Int32) (a2 : Int32) (σ : kw_M) : Option (Int32 × kw_M) :=
 (fX9_judgeAside a1 a2 σ).bind fun r1 =>
 if r1.1 = (0 : Int32) then
 ((fX7_takeOver a2 r1.2).bind fun r3 =>
 kw_let (kw_si r3 5 0 (0 : Int32)) fun s4 =>
 some ((s4.1 1 7), s4))
 else
 some (r1.1, r1.2)
def fX9_layRoad (a1 : Int32) (a2 : Int32) (a3 : Int32) (σ : kw_M) : Option (Int32 × kw_M) :=
 (fX4_hasTown a1 σ).bind fun r1 =>
 if r1 = (0 : Int32) then
 (some ((-1 : Int32), σ))
 else
 (fX4_hasTown a2 σ).bind fun r3 =>
 if r3 = (0 : Int32) then
 (some ((-1 : Int32), σ))
 else
 if a1 = a2 then
 (some ((-1 : Int32), σ))
 else
 (fX9_isLength a3 σ).bind fun r6 =>
 if r6 = (0 : Int32) then
 (some ((-1 : Int32), σ))
 else
 if (σ.1 12 1) < (36 : Int32) then
 ((fX4_copyFrom 10 12 σ).bind fun r9 =>
 (fX4_addRoad a1 a2 a3 r9).bind fun r10 =>
 (fX9_doChange r10.1 (r10.2.1 1 2) r10.2).bind fun r11 =>
 if (0 : Int32) ≤ r11.1 then
 (some (r10.1, r11.2))
 else
 some (r11.1, r11.2))
 else
 some ((-5 : Int32), σ)
def fX4_hasRoad (a1 : Int32) (σ : kw_M) : Option (Int32) :=
 if a1 < (0 : Int32) then
 (some (0 : Int32))
 else
 if (σ.1 12 1) ≤ a1 then
 (some (0 : Int32))
 else
 some (1 : Int32)
def fX9_changeLength (a1 : Int32) (a2 : Int32) (σ : kw_M) : Option (Int32 × kw_M) :=
 (fX4_hasRoad a1 σ).bind fun r1 =>
 if r1 = (0 : Int32) then
 (some ((-1 : Int32), σ))
 else
 (fX9_isLength a2 σ).bind fun r3 =>
 if r3 = (0 : Int32) then
 (some ((-1 : Int32), σ))
 else
 kw_chk (kw_in a1 36) <|
 if (σ.1 20 a1.toNatClampNeg) = a2 then
 (some ((-2 : Int32), σ))
 else
 (fX4_copyFrom 10 12 σ).bind fun r7 =>
 kw_let (kw_si r7 34 a1.toNatClampNeg a2) fun s8 =>
 (fX9_doChange a1 (s8.1 1 2) s8).bind fun r9 =>
 some (r9.1, r9.2)
def fX4_flip (a1 : Int32) (σ : kw_M) : Option (kw_M) :=
 kw_let (kw_sl σ 10 2 ((σ.2 10 2) ^^^ ((1 : Int64) <<< (a1.toInt64 &&& 63)))) fun s1 =>
 some s1
def fX9_turnRoad (a1 : Int32) (a2 : Int32) (σ : kw_M) : Option (Int32 × kw_M) :=
 (fX4_hasRoad a1 σ).bind fun r1 =>
 if r1 = (0 : Int32) then
 (some ((-1 : Int32), σ))
 else
 (fX4_isOpen 12 a1 σ).bind fun r3 =>
 if r3 = a2 then
 (some ((-2 : Int32), σ))
 else
 (fX4_copyFrom 10 12 σ).bind fun r5 =>
 (fX4_flip a1 r5).bind fun r6 =>
 (fX9_doChange a1 (r6.1 1 2) r6).bind fun r7 =>
 some (r7.1, r7.2)
def fX9_moveOrigin (a1 : Int32) (σ : kw_M) : Option (Int32 × kw_M) :=
 (fX4_hasTown a1 σ).bind fun r1 =>
 if r1 = (0 : Int32) then
 (some ((-1 : Int32), σ))
 else
 if (σ.1 1 2) = a1 then
 (some ((-2 : Int32), σ))
 else
 (fX4_copyFrom 10 12 σ).bind fun r4 =>
 (fX9_doChange (-1 : Int32) a1 r4).bind fun r5 =>
 some (r5.1, r5.2)
def fX9_watchTown (a1 : Int32) (a2 : Int32) (σ : kw_M) : Option (Int32 × kw_M) :=
 (fX4_hasTown a1 σ).bind fun r1 =>
 if r1 = (0 : Int32) then
 (some ((-1 : Int32), σ))
 else
 (fX9_isLength a2 σ).bind fun r3 =>
 if r3 = (0 : Int32) then
 (some ((-1 : Int32), σ))
 else
 kw_let (kw_si σ 1 5 ((σ.1 1 5) ||| ((1 : Int32) <<< (a1 &&& 31)))) fun s5 =>
 kw_chk (kw_in a1 12) <|
 kw_let (kw_si s5 14 a1.toNatClampNeg a2) fun s7 =>
 (fX7_isBeyond a1 s7).bind fun r8 =>
 if r8 = (0 : Int32) then
 (some ((0 : Int32), s7))
 else
 some ((1 : Int32), s7)
def fX9_forgetTown (a1 : Int32) (σ : kw_M) : Option (Int32 × kw_M) :=
 (fX4_hasTown a1 σ).bind fun r1 =>
 if r1 = (0 : Int32) then
 (some ((0 : Int32), σ))
 else
 (fX7_isWatched a1 σ).bind fun r3 =>
 if r3 = (0 : Int32) then
 (some ((0 : Int32), σ))
 else
 kw_let (kw_si σ 1 5 ((σ.1 1 5) &&& (((1 : Int32) <<< (a1 &&& 31)) ^^^ (-1 : Int32)))) fun s5 =>
 some ((1 : Int32), s5)
def fX9_doOrder (a1 : Int32) (σ : kw_M) : Option (Int32 × kw_M) :=
 (fX3_number a1 (0 : Int32) σ).bind fun r1 =>
 (fX3_number a1 (1 : Int32) σ).bind fun r2 =>
 kw_chk (kw_in a1 24) <|
 if (σ.1 36 a1.toNatClampNeg) = (2 : Int32) then
 ((fX3_number a1 (2 : Int32) σ).bind fun r5 =>
 (fX9_layRoad r1 r2 r5 σ).bind fun r6 =>
 if r6.1 < (0 : Int32) then
 (some ((0 : Int32), r6.2))
 else
 some ((1 : Int32), r6.2))
 else
 if (σ.1 36 a1.toNatClampNeg) = (3 : Int32) then
 ((fX9_changeLength r1 r2 σ).bind fun r9 =>
 if r9.1 < (0 : Int32) then
 (some ((0 : Int32), r9.2))
 else
 some ((1 : Int32), r9.2))
 else
 if (σ.1 36 a1.toNatClampNeg) = (4 : Int32) then
 ((fX9_turnRoad r1 (0 : Int32) σ).bind fun r12 =>
 if r12.1 < (0 : Int32) then
 (some ((0 : Int32), r12.2))
 else
 some ((1 : Int32), r12.2))
 else
 if (σ.1 36 a1.toNatClampNeg) = (5 : Int32) then
 ((fX9_turnRoad r1 (1 : Int32) σ).bind fun r15 =>
 if r15.1 < (0 : Int32) then
 (some ((0 : Int32), r15.2))
 else
 some ((1 : Int32), r15.2))
 else
 if (σ.1 36 a1.toNatClampNeg) = (6 : Int32) then
 ((fX9_moveOrigin r1 σ).bind fun r18 =>
 if r18.1 < (0 : Int32) then
 (some ((0 : Int32), r18.2))
 else
 some ((1 : Int32), r18.2))
 else
 if (σ.1 36 a1.toNatClampNeg) = (7 : Int32) then
 ((fX9_watchTown r1 r2 σ).bind fun r21 =>
 if r21.1 < (0 : Int32) then
 (some ((0 : Int32), r21.2))
 else
 some ((1 : Int32), r21.2))
 else
 if (σ.1 36 a1.toNatClampNeg) = (8 : Int32) then
 ((fX9_forgetTown r1 σ).bind fun r24 =>
 kw_chk (kw_isB r24.1) <| some (r24.1, r24.2))
 else
 some ((0 : Int32), σ)
def bX9_orders_60 (v3 : Int32) (σ : kw_M) : Option ((Int32 × kw_M) ⊕ (Int32 × kw_M)) :=
 if (σ.1 4 1) ≤ v3 then
 (some (.inr (v3, σ)))
 else
 (fX9_doOrder v3 σ).bind fun r7 =>
 if r7.1 = (0 : Int32) then
 (some (.inr (v3, r7.2)))
 else
 kw_let (v3 + (1 : Int32)) fun x9 =>
 some (.inl (x9, r7.2))
def fX9_orders (a1 : Int32) (σ : kw_M) : Option (Int32 × kw_M) :=
 (fX8_canGive a1 (1 : Int32) (200 : Int32) σ).bind fun r1 =>
 if r1 = (0 : Int32) then
 (some ((-1 : Int32), σ))
 else
 (fX3_readText a1 (0 : Int32) (σ.1 12 0) σ).bind fun r3 =>
 kw_let (kw_si r3.2 3 0 (0 : Int32)) fun s4 =>
 if r3.1 = (0 : Int32) then
 ((kw_loop (fun s => bX9_orders_60 s.1 s.2) kw_F ((0 : Int32), s4)).bind fun x10 =>
 some (x10.1, x10.2))
 else
 some (r3.1, s4)
def fX9_lay (a1 : Int32) (a2 : Int32) (a3 : Int32) (σ : kw_M) : Option (Int32 × kw_M) :=
 (fX9_layRoad a1 a2 a3 σ).bind fun r1 =>
 some (r1.1, r1.2)
def fX9_length (a1 : Int32) (a2 : Int32) (σ : kw_M) : Option (Int32 × kw_M) :=
 (fX9_changeLength a1 a2 σ).bind fun r1 =>
 some (r1.1, r1.2)
def fX9_close (a1 : Int32) (σ : kw_M) : Option (Int32 × kw_M) :=
 (fX9_turnRoad a1 (0 : Int32) σ).bind fun r1 =>
 some (r1.1, r1.2)
def fX9_open (a1 : Int32) (σ : kw_M) : Option (Int32 × kw_M) :=
 (fX9_turnRoad a1 (1 : Int32) σ).bind fun r1 =>
 some (r1.1, r1.2)
def fX9_origin (a1 : Int32) (σ : kw_M) : Option (Int32 × kw_M) :=
 (fX9_moveOrigin a1 σ).bind fun r1 =>
 some (r1.1, r1.2)
def fXJ13_bitCount_95d88 (a0 : Int64) (σ : kw_M) : Option (Int32) :=
 kw_let ((a0.toUInt64 >>> ((1 : Int32).toInt64.toUInt64 &&& Int64.toUInt64 63)).toInt64) fun x1 =>
 kw_let (a0 - (x1 &&& (6148914691236517205 : Int64))) fun x2 =>
 kw_let ((x2.toUInt64 >>> ((2 : Int32).toInt64.toUInt64 &&& Int64.toUInt64 63)).toInt64) fun x3 =>
 kw_let ((x2 &&& (3689348814741910323 : Int64)) + (x3 &&& (3689348814741910323 : Int64))) fun x4 =>
 kw_let ((x4.toUInt64 >>> ((4 : Int32).toInt64.toUInt64 &&& Int64.toUInt64 63)).toInt64) fun x5 =>
 kw_let ((x4 + x5) &&& (1085102592571150095 : Int64)) fun x6 =>
 kw_let ((x6.toUInt64 >>> ((8 : Int32).toInt64.toUInt64 &&& Int64.toUInt64 63)).toInt64) fun x7 =>
 kw_let (x6 + x7) fun x8 =>
 kw_let ((x8.toUInt64 >>> ((16 : Int32).toInt64.toUInt64 &&& Int64.toUInt64 63)).toInt64) fun x9 =>
 kw_let (x8 + x9) fun x10 =>
 kw_let ((x10.toUInt64 >>> ((32 : Int32).toInt64.toUInt64 &&& Int64.toUInt64 63)).toInt64) fun x11 =>
 kw_let (x10 + x11) fun x12 =>
 some (x12.toInt32 &&& (127 : Int32))
def fX7_hasDistance (a1 : Int32) (σ : kw_M) : Option (Int32) :=
 kw_chk (kw_in a1 12) <|
 if (σ.2 16 a1.toNatClampNeg) = (-9000000000000000000 : Int64) then
 (some (0 : Int32))
 else
 some (1 : Int32)
def bX7_settledCount_4 (σ : kw_M) (v1 : Int32) (v2 : Int32) : Option ((Int32 × Int32) ⊕ (Int32)) :=
 if (σ.1 12 0) ≤ v2 then
 (some (.inr v1))
 else
 (fX7_hasDistance v2 σ).bind fun r2 =>
 if r2 = (0 : Int32) then
 (kw_let (v2 + (1 : Int32)) fun x4 =>
 some (.inl (v1, x4)))
 else
 kw_let (v1 + (1 : Int32)) fun x5 =>
 kw_let (v2 + (1 : Int32)) fun x6 =>
 some (.inl (x5, x6))
def fX7_settledCount (σ : kw_M) : Option (Int32) :=
 (kw_loop (fun s => bX7_settledCount_4 σ s.1 s.2) kw_F ((0 : Int32), (0 : Int32))).bind fun x7 =>
 some x7
def bX7_tightCount_4 (σ : kw_M) (v1 : Int32) (v2 : Int32) : Option ((Int32 × Int32) ⊕ (Int32)) :=
 if (σ.1 12 1) ≤ v2 then
 (some (.inr v1))
 else
 (fX7_isTight v2 σ).bind fun r2 =>
 if r2 = (0 : Int32) then
 (kw_let (v2 + (1 : Int32)) fun x4 =>
 some (.inl (v1, x4)))
 else
 kw_let (v1 + (1 : Int32)) fun x5 =>
 kw_let (v2 + (1 : Int32)) fun x6 =>
 some (.inl (x5, x6))
def fX7_tightCount (σ : kw_M) : Option (Int32) :=
 (kw_loop (fun s => bX7_tightCount_4 σ s.1 s.2) kw_F ((0 : Int32), (0 : Int32))).bind fun x7 =>
 some x7
def bX2_fillFrom_10 (v2 : Int32) (σ : kw_M) : Option ((Int32 × kw_M) ⊕ (kw_M)) :=
 if (σ.1 5 1) ≤ v2 then
 (some (.inr σ))
 else
 (fX4_settle 12 40 v2 (-1 : Int32) σ).bind fun r3 =>
 kw_chk (¬ (v2 * (12 : Int32)) < 0) <|
 kw_chk ((v2 * (12 : Int32)).toNatClampNeg + (12 : Int32).toNatClampNeg ≤ 144) <|
 kw_let (kw_rl r3 39 (va_cpy (r3.2 40) (r3.2 39) 0 (v2 * (12 : Int32)).toNatClampNeg 12)) fun s6 =>
 kw_let (v2 + (1 : Int32)) fun x7 =>
 some (.inl (x7, s6))
def fX2_fillFrom (σ : kw_M) : Option (kw_M) :=
 kw_let (kw_si σ 5 1 (σ.1 12 0)) fun s1 =>
 (kw_loop (fun s => bX2_fillFrom_10 s.1 s.2) kw_F ((0 : Int32), s1)).bind fun x8 =>
 kw_let (kw_si x8 5 0 (1 : Int32)) fun s9 =>
 some s9
def fX9_rightPairs (σ : kw_M) : Option (kw_M) :=
 if (σ.1 5 0) = (0 : Int32) then
 ((fX2_fillFrom σ).bind fun r2 =>
 some r2)
 else
 some σ
def fX2_span (a1 : Int32) (a2 : Int32) (σ : kw_M) : Option (Int64) :=
 kw_chk (kw_in ((a1 * (12 : Int32)) + a2) 144) <|
 some (σ.2 39 ((a1 * (12 : Int32)) + a2).toNatClampNeg)
def fX2_comesTo (a1 : Int32) (a2 : Int32) (σ : kw_M) : Option (Int32) :=
 (fX2_span a1 a2 σ).bind fun r1 =>
 if r1 = (-9000000000000000000 : Int64) then
 (some (0 : Int32))
 else
 some (1 : Int32)
def bX2_comesToAll_2 (v1 : Int32) (σ : kw_M) (v2 : Int32) : Option ((Int32) ⊕ ((Int32) ⊕ (Unit))) :=
 if (σ.1 5 1) ≤ v2 then
 (some (.inr (.inr ())))
 else
 (fX2_comesTo v1 v2 σ).bind fun r2 =>
 if r2 = (0 : Int32) then
 (some (.inr (.inl (0 : Int32))))
 else
 kw_let (v2 + (1 : Int32)) fun x4 =>
 some (.inl x4)
def fX2_comesToAll (a1 : Int32) (σ : kw_M) : Option (Int32) :=
 (kw_loop (fun s => bX2_comesToAll_2 a1 σ s) kw_F (0 : Int32)).bind fun x5 =>
 Sum.elim (fun x5r => some x5r) (fun x5 =>
 some (1 : Int32)) x5
def jX2_reachOf_52_L7 (v1 : Int32) (v4 : Int32) (σ : kw_M) : Option ((Int64 × Int32) ⊕ (Int64)) :=
 (fX2_span v1 v4 σ).bind fun r8 =>
 kw_let (v4 + (1 : Int32)) fun x9 =>
 some (.inl (r8, x9))
def bX2_reachOf_7 (v1 : Int32) (σ : kw_M) (v2 : Int64) (v4 : Int32) : Option ((Int64 × Int32) ⊕ (Int64)) :=
 if (σ.1 5 1) ≤ v4 then
 (some (.inr v2))
 else
 if v4 = v1 then
 (kw_let (v4 + (1 : Int32)) fun x3 =>
 some (.inl (v2, x3)))
 else
 (fX2_comesTo v1 v4 σ).bind fun r4 =>
 if r4 = (0 : Int32) then
 (kw_let (v4 + (1 : Int32)) fun x6 =>
 some (.inl (v2, x6)))
 else
 if v2 = (-9000000000000000000 : Int64) then
 (jX2_reachOf_52_L7 v1 v4 σ)
 else
 (fX2_span v1 v4 σ).bind fun r10 =>
 if r10 ≤ v2 then
 (kw_let (v4 + (1 : Int32)) fun x12 =>
 some (.inl (v2, x12)))
 else
 jX2_reachOf_52_L7 v1 v4 σ
def fX2_reachOf (a1 : Int32) (σ : kw_M) : Option (Int64) :=
 (kw_loop (fun s => bX2_reachOf_7 a1 σ s.1 s.2) kw_F ((-9000000000000000000 : Int64), (0 : Int32))).bind fun x13 =>
 some x13
def bX2_middleTown_10 (σ : kw_M) (v1 : Int32) (v2 : Int64) (v4 : Int32) : Option ((Int32 × Int64 × Int32) ⊕ (Int32)) :=
 if (σ.1 5 1) ≤ v4 then
 (some (.inr v1))
 else
 (fX2_comesToAll v4 σ).bind fun r2 =>
 if r2 = (0 : Int32) then
 (kw_let (v4 + (1 : Int32)) fun x4 =>
 some (.inl (v1, v2, x4)))
 else
 (fX2_reachOf v4 σ).bind fun r5 =>
 (fX9_isLess r5 v2 σ).bind fun r6 =>
 if r6 = (0 : Int32) then
 (kw_let (v4 + (1 : Int32)) fun x8 =>
 some (.inl (v1, v2, x8)))
 else
 (fX2_reachOf v4 σ).bind fun r9 =>
 kw_let (v4 + (1 : Int32)) fun x10 =>
 some (.inl (v4, r9, x10))
def fX2_middleTown (σ : kw_M) : Option (Int32) :=
 (kw_loop (fun s => bX2_middleTown_10 σ s.1 s.2.1 s.2.2) kw_F ((-2 : Int32), (-9000000000000000000 : Int64), (0 : Int32))).bind fun x11 =>
 some x11
def fX9_count (a1 : Int32) (σ : kw_M) : Option (Int32 × kw_M) :=
 if a1 = (0 : Int32) then
 (some ((σ.1 12 0), σ))
 else
 if a1 = (1 : Int32) then
 (some ((σ.1 12 1), σ))
 else
 if a1 = (2 : Int32) then
 ((fXJ13_bitCount_95d88 (σ.2 12 2) σ).bind fun r4 =>
 some (r4, σ))
 else
 if a1 = (3 : Int32) then
 (some ((σ.1 1 2), σ))
 else
 if a1 = (4 : Int32) then
 (some ((σ.1 1 7), σ))
 else
 if a1 = (5 : Int32) then
 (some ((σ.1 1 3), σ))
 else
 if a1 = (6 : Int32) then
 ((fX7_settledCount σ).bind fun r9 =>
 some (r9, σ))
 else
 if a1 = (7 : Int32) then
 ((fX7_tightCount σ).bind fun r11 =>
 some (r11, σ))
 else
 if a1 = (8 : Int32) then
 (some ((σ.1 13 0), σ))
 else
 if a1 = (9 : Int32) then
 (some ((σ.1 1 5), σ))
 else
 if a1 = (10 : Int32) then
 ((fX7_beyondBits σ).bind fun r15 =>
 some (r15, σ))
 else
 if a1 = (11 : Int32) then
 ((fX9_rightPairs σ).bind fun r17 =>
 (fX2_middleTown r17).bind fun r18 =>
 some (r18, r17))
 else
 if a1 = (12 : Int32) then
 (some ((σ.1 3 0), σ))
 else
 if a1 = (13 : Int32) then
 (some ((σ.1 1 4), σ))
 else
 some ((-1 : Int32), σ)
def fX9_road (a1 : Int32) (a2 : Int32) (σ : kw_M) : Option (Int64) :=
 (fX4_hasRoad a1 σ).bind fun r1 =>
 if r1 = (0 : Int32) then
 (some (-9000000000000000000 : Int64))
 else
 if a2 = (0 : Int32) then
 (kw_chk (kw_in a1 36) <|
 some ((σ.1 18 a1.toNatClampNeg).toInt64))
 else
 if a2 = (1 : Int32) then
 (kw_chk (kw_in a1 36) <|
 some ((σ.1 19 a1.toNatClampNeg).toInt64))
 else
 if a2 = (2 : Int32) then
 (kw_chk (kw_in a1 36) <|
 some ((σ.1 20 a1.toNatClampNeg).toInt64))
 else
 if a2 = (3 : Int32) then
 ((fX4_isOpen 12 a1 σ).bind fun r10 =>
 if r10 = (0 : Int32) then
 (some (0 : Int64))
 else
 some (1 : Int64))
 else
 if a2 = (4 : Int32) then
 ((fX7_isTight a1 σ).bind fun r13 =>
 if r13 = (0 : Int32) then
 (some (0 : Int64))
 else
 some (1 : Int64))
 else
 if a2 = (5 : Int32) then
 (kw_chk (kw_in a1 36) <|
 kw_chk (kw_in (σ.1 19 a1.toNatClampNeg) 12) <|
 if (σ.1 17 (σ.1 19 a1.toNatClampNeg).toNatClampNeg) = a1 then
 (some (1 : Int64))
 else
 some (0 : Int64))
 else
 some (-9000000000000000000 : Int64)
def bX7_tightTo_4 (v1 : Int32) (σ : kw_M) (v2 : Int32) (v3 : Int32) : Option ((Int32 × Int32) ⊕ (Int32)) :=
 if (σ.1 12 1) ≤ v3 then
 (some (.inr v2))
 else
 kw_chk (kw_in v3 36) <|
 if (σ.1 19 v3.toNatClampNeg) = v1 then
 ((fX7_isTight v3 σ).bind fun r5 =>
 if r5 = (0 : Int32) then
 (kw_let (v3 + (1 : Int32)) fun x7 =>
 some (.inl (v2, x7)))
 else
 kw_let (v2 + (1 : Int32)) fun x8 =>
 kw_let (v3 + (1 : Int32)) fun x9 =>
 some (.inl (x8, x9)))
 else
 kw_let (v3 + (1 : Int32)) fun x4 =>
 some (.inl (v2, x4))
def fX7_tightTo (a1 : Int32) (σ : kw_M) : Option (Int32) :=
 (kw_loop (fun s => bX7_tightTo_4 a1 σ s.1 s.2) kw_F ((0 : Int32), (0 : Int32))).bind fun x10 =>
 some x10
def fX9_change (a1 : Int32) (a2 : Int32) (σ : kw_M) : Option (Int64) :=
 (fX4_isOpen 12 a1 σ).bind fun r1 =>
 if r1 = (0 : Int32) then
 (some (-9000000000000000000 : Int64))
 else
 (fX7_slackOf a1 σ).bind fun r3 =>
 if a2 = (0 : Int32) then
 (some r3)
 else
 if a2 = (1 : Int32) then
 (if r3 = (0 : Int64) then
 (kw_chk (kw_in a1 36) <|
 (fX7_tightTo (σ.1 19 a1.toNatClampNeg) σ).bind fun r8 =>
 if r8 = (1 : Int32) then
 (some (0 : Int64))
 else
 some (-1 : Int64))
 else
 some (-1 : Int64))
 else
 if a2 = (2 : Int32) then
 (if r3 = (-9000000000000000000 : Int64) then
 (some (-1 : Int64))
 else
 some r3)
 else
 some (-9000000000000000000 : Int64)
def bX6_findWay_5 (v3 : Int32) (v4 : Int32) (σ : kw_M) : Option ((Int32 × Int32 × kw_M) ⊕ (Int32 × kw_M)) :=
 if (12 : Int32) ≤ v3 then
 (some (.inr (v3, σ)))
 else
 kw_chk (kw_in v4 12) <|
 if (σ.1 17 v4.toNatClampNeg) = (-1 : Int32) then
 (some (.inr (v3, σ)))
 else
 kw_chk (kw_in v3 12) <|
 kw_let (kw_si σ 42 v3.toNatClampNeg (σ.1 17 v4.toNatClampNeg)) fun s5 =>
 kw_chk (kw_in (s5.1 17 v4.toNatClampNeg) 36) <|
 kw_let (s5.1 18 (s5.1 17 v4.toNatClampNeg).toNatClampNeg) fun x7 =>
 kw_let (v3 + (1 : Int32)) fun x8 =>
 some (.inl (x8, x7, s5))
def bX6_findWay_61 (v3 : Int32) (v4 : Int32) (σ : kw_M) : Option ((Int32 × kw_M) ⊕ (kw_M)) :=
 if (v3 / (2 : Int32)) ≤ v4 then
 (some (.inr σ))
 else
 kw_chk (kw_in ((v3 - (1 : Int32)) - v4) 12) <|
 kw_let (σ.1 42 ((v3 - (1 : Int32)) - v4).toNatClampNeg) fun x12 =>
 kw_chk (kw_in v4 12) <|
 kw_let (kw_si σ 42 ((v3 - (1 : Int32)) - v4).toNatClampNeg (σ.1 42 v4.toNatClampNeg)) fun s14 =>
 kw_let (kw_si s14 42 v4.toNatClampNeg x12) fun s15 =>
 kw_let (v4 + (1 : Int32)) fun x16 =>
 some (.inl (x16, s15))
def jX6_findWay_58 (v3 : Int32) (σ : kw_M) : Option (Int32 × kw_M) :=
 (kw_loop (fun s => bX6_findWay_61 v3 s.1 s.2) kw_F ((0 : Int32), σ)).bind fun x17 =>
 some (v3, x17)
def fX6_findWay (a2 : Int32) (σ : kw_M) : Option (Int32 × kw_M) :=
 (kw_loop (fun s => bX6_findWay_5 s.1 s.2.1 s.2.2) kw_F ((0 : Int32), a2, σ)).bind fun x9 =>
 jX6_findWay_58 x9.1 x9.2
def fX9_findWay (a1 : Int32) (σ : kw_M) : Option (Int32 × kw_M) :=
 (fX6_findWay a1 σ).bind fun r1 =>
 some (r1.1, r1.2)
def fX6_foundIsKnown (σ : kw_M) : Option (kw_M) :=
 kw_let (kw_rl σ 43 (va_cpy (σ.2 44) (σ.2 43) 0 0 12)) fun s1 =>
 some s1
def bX6_waysAsShort_51 (v2 : Int32) (v3 : Int64) (v5 : Int32) (v6 : Int32) (σ : kw_M) : Option ((Int32 × kw_M) ⊕ (kw_M)) :=
 if (σ.1 12 1) ≤ v6 then
 (some (.inr σ))
 else
 (fX7_isTight v6 σ).bind fun r9 =>
 if r9 = (0 : Int32) then
 (kw_let (v6 + (1 : Int32)) fun x11 =>
 some (.inl (x11, σ)))
 else
 kw_chk (kw_in v6 36) <|
 kw_let (σ.1 19 v6.toNatClampNeg) fun x13 =>
 kw_chk (kw_in x13 12) <|
 kw_chk (kw_in (σ.1 18 v6.toNatClampNeg) 12) <|
 kw_let (if ((σ.2 44 x13.toNatClampNeg) + (σ.2 43 (σ.1 18 v6.toNatClampNeg).toNatClampNeg)) < (1000000000 : Int64) then ((σ.2 44 x13.toNatClampNeg) + (σ.2 43 (σ.1 18 v6.toNatClampNeg).toNatClampNeg)) else (1000000000 : Int64)) fun x16 =>
 kw_let (kw_sl σ 44 x13.toNatClampNeg x16) fun s17 =>
 kw_let (v6 + (1 : Int32)) fun x18 =>
 some (.inl (x18, s17))
def bX6_waysAsShort_28 (v2 : Int32) (v3 : Int64) (v5 : Int32) (σ : kw_M) : Option ((Int64 × Int32 × kw_M) ⊕ (Int64 × kw_M)) :=
 if (σ.1 12 0) ≤ v5 then
 (some (.inr (v3, σ)))
 else
 (fXJ7_fill_d0a16 44 (0 : Int64) σ).bind fun r7 =>
 (kw_loop (fun s => bX6_waysAsShort_51 v2 v3 v5 s.1 s.2) kw_F ((0 : Int32), r7)).bind fun x19 =>
 (fX6_foundIsKnown x19).bind fun r20 =>
 kw_chk (kw_in v2 12) <|
 kw_let (if (v3 + (r20.2 43 v2.toNatClampNeg)) < (1000000000 : Int64) then (v3 + (r20.2 43 v2.toNatClampNeg)) else (1000000000 : Int64)) fun x22 =>
 kw_let (v5 + (1 : Int32)) fun x23 =>
 some (.inl (x22, x23, r20))
def fX6_waysAsShort (a2 : Int32) (σ : kw_M) : Option (Int64 × kw_M) :=
 (fXJ7_fill_d0a16 43 (0 : Int64) σ).bind fun r1 =>
 kw_chk (kw_in (r1.1 1 2) 12) <|
 kw_let (kw_sl r1 43 (r1.1 1 2).toNatClampNeg (1 : Int64)) fun s3 =>
 kw_chk (kw_in a2 12) <|
 kw_let (s3.2 43 a2.toNatClampNeg) fun x5 =>
 (kw_loop (fun s => bX6_waysAsShort_28 a2 s.1 s.2.1 s.2.2) kw_F (x5, (1 : Int32), s3)).bind fun x24 =>
 some (x24.1, x24.2)
def fX9_distanceWithout (a1 : Int32) (a2 : Int32) (σ : kw_M) : Option (Int64 × kw_M) :=
 (fX4_settle 12 41 (σ.1 1 2) a1 σ).bind fun r1 =>
 kw_chk (kw_in a2 12) <|
 some ((r1.2 41 a2.toNatClampNeg), r1)
def fX9_isNeeded (a1 : Int32) (a2 : Int32) (σ : kw_M) : Option (Int32 × kw_M) :=
 (fX9_distanceWithout a1 a2 σ).bind fun r1 =>
 kw_chk (kw_in a2 12) <|
 if r1.1 = (r1.2.2 16 a2.toNatClampNeg) then
 (some ((0 : Int32), r1.2))
 else
 some ((1 : Int32), r1.2)
def bX9_neededCount_11 (v1 : Int32) (v2 : Int32) (v3 : Int32) (v4 : Int32) (σ : kw_M) : Option ((Int32 × Int32 × kw_M) ⊕ (Int32 × kw_M)) :=
 if v2 ≤ v4 then
 (some (.inr (v3, σ)))
 else
 kw_chk (kw_in v4 12) <|
 (fX9_isNeeded (σ.1 42 v4.toNatClampNeg) v1 σ).bind fun r4 =>
 if r4.1 = (0 : Int32) then
 (kw_let (v4 + (1 : Int32)) fun x6 =>
 some (.inl (v3, x6, r4.2)))
 else
 kw_let (v3 + (1 : Int32)) fun x7 =>
 kw_let (v4 + (1 : Int32)) fun x8 =>
 some (.inl (x7, x8, r4.2))
def fX9_neededCount (a1 : Int32) (σ : kw_M) : Option (Int32 × kw_M) :=
 (fX9_findWay a1 σ).bind fun r1 =>
 (kw_loop (fun s => bX9_neededCount_11 a1 r1.1 s.1 s.2.1 s.2.2) kw_F ((0 : Int32), (0 : Int32), r1.2)).bind fun x9 =>
 some (x9.1, x9.2)
def jX9_dearestRoad_53_L15 (v1 : Int32) (v2 : Int32) (v3 : Int32) (v4 : Int64) (v6 : Int32) (v7 : Int32) (v8 : Int64) (t0 : Int32) (σ : kw_M) : Option ((Int32 × Int64 × Int32 × kw_M) ⊕ (Int32 × kw_M)) :=
 if t0 = (0 : Int32) then
 ((fX9_isLess v4 v8 σ).bind fun r9 =>
 if r9 = (0 : Int32) then
 (if v8 = v4 then
 (if v3 ≤ v7 then
 (kw_let (v6 + (1 : Int32)) fun x15 =>
 some (.inl (v3, v4, x15, σ)))
 else
 kw_let (v6 + (1 : Int32)) fun x16 =>
 some (.inl (v7, v8, x16, σ)))
 else
 kw_let (v6 + (1 : Int32)) fun x13 =>
 some (.inl (v3, v4, x13, σ)))
 else
 kw_let (v6 + (1 : Int32)) fun x11 =>
 some (.inl (v7, v8, x11, σ)))
 else
 kw_let (v6 + (1 : Int32)) fun x8 =>
 some (.inl (v7, v8, x8, σ))
def bX9_dearestRoad_15 (v1 : Int32) (v2 : Int32) (v3 : Int32) (v4 : Int64) (v6 : Int32) (σ : kw_M) : Option ((Int32 × Int64 × Int32 × kw_M) ⊕ (Int32 × kw_M)) :=
 if v2 ≤ v6 then
 (some (.inr (v3, σ)))
 else
 kw_chk (kw_in v6 12) <|
 kw_let (σ.1 42 v6.toNatClampNeg) fun x4 =>
 (fX9_distanceWithout x4 v1 σ).bind fun r5 =>
 if v3 = (-2 : Int32) then
 (jX9_dearestRoad_53_L15 v1 v2 v3 v4 v6 x4 r5.1 (1 : Int32) r5.2)
 else
 jX9_dearestRoad_53_L15 v1 v2 v3 v4 v6 x4 r5.1 (0 : Int32) r5.2
def fX9_dearestRoad (a1 : Int32) (σ : kw_M) : Option (Int32 × kw_M) :=
 (fX9_findWay a1 σ).bind fun r1 =>
 (kw_loop (fun s => bX9_dearestRoad_15 a1 r1.1 s.1 s.2.1 s.2.2.1 s.2.2.2) kw_F ((-2 : Int32), (0 : Int64), (0 : Int32), r1.2)).bind fun x17 =>
 some (x17.1, x17.2)
def jX1_hasTwinBefore_50_L10 (v1 : Int32) (v3 : Int32) (t0 : Int32) (σ : kw_M) : Option ((Int32) ⊕ ((Int32) ⊕ (Unit))) :=
 if t0 = (0 : Int32) then
 (kw_let (v3 + (1 : Int32)) fun x6 =>
 some (.inl x6))
 else
 kw_chk (kw_in v3 36) <|
 kw_chk (kw_in v1 36) <|
 if (σ.1 20 v3.toNatClampNeg) = (σ.1 20 v1.toNatClampNeg) then
 ((fX4_isOpen 12 v3 σ).bind fun r11 =>
 if r11 = (0 : Int32) then
 (kw_let (v3 + (1 : Int32)) fun x13 =>
 some (.inl x13))
 else
 some (.inr (.inl (1 : Int32))))
 else
 kw_let (v3 + (1 : Int32)) fun x10 =>
 some (.inl x10)
def jX1_hasTwinBefore_49_L10 (v1 : Int32) (v3 : Int32) (σ : kw_M) : Option ((Int32) ⊕ ((Int32) ⊕ (Unit))) :=
 jX1_hasTwinBefore_50_L10 v1 v3 (0 : Int32) σ
def bX1_hasTwinBefore_10 (v1 : Int32) (σ : kw_M) (v3 : Int32) : Option ((Int32) ⊕ ((Int32) ⊕ (Unit))) :=
 if v1 ≤ v3 then
 (some (.inr (.inr ())))
 else
 kw_chk (kw_in v3 36) <|
 kw_chk (kw_in v1 36) <|
 if (σ.1 18 v3.toNatClampNeg) = (σ.1 18 v1.toNatClampNeg) then
 (if (σ.1 19 v3.toNatClampNeg) = (σ.1 19 v1.toNatClampNeg) then
 (jX1_hasTwinBefore_50_L10 v1 v3 (1 : Int32) σ)
 else
 jX1_hasTwinBefore_49_L10 v1 v3 σ)
 else
 jX1_hasTwinBefore_49_L10 v1 v3 σ
def fX1_hasTwinBefore (a1 : Int32) (σ : kw_M) : Option (Int32) :=
 (kw_loop (fun s => bX1_hasTwinBefore_10 a1 σ s) kw_F (0 : Int32)).bind fun x15 =>
 Sum.elim (fun x15r => some x15r) (fun x15 =>
 some (0 : Int32)) x15
def bX1_findUseful_7 (v1 : Int32) (σ : kw_M) : Option ((Int32 × kw_M) ⊕ (kw_M)) :=
 if (σ.1 12 1) ≤ v1 then
 (some (.inr σ))
 else
 (fX4_isOpen 12 v1 σ).bind fun r3 =>
 if r3 = (0 : Int32) then
 (kw_let (v1 + (1 : Int32)) fun x5 =>
 some (.inl (x5, σ)))
 else
 (fX1_hasTwinBefore v1 σ).bind fun r6 =>
 if r6 = (0 : Int32) then
 (kw_let (kw_sl σ 7 4 ((σ.2 7 4) ||| ((1 : Int64) <<< (v1.toInt64 &&& 63)))) fun s9 =>
 kw_let (v1 + (1 : Int32)) fun x10 =>
 some (.inl (x10, s9)))
 else
 kw_let (v1 + (1 : Int32)) fun x8 =>
 some (.inl (x8, σ))
def fX1_findUseful (σ : kw_M) : Option (kw_M) :=
 kw_let (kw_sl σ 7 4 (0 : Int64)) fun s1 =>
 (kw_loop (fun s => bX1_findUseful_7 s.1 s.2) kw_F ((0 : Int32), s1)).bind fun x11 =>
 some x11
def fX4_beginRow (c2 : Nat) (a1 : Int32) (σ : kw_M) : Option (kw_M) :=
 (fXJ7_fill_d0a16 c2 (-9000000000000000000 : Int64) σ).bind fun r1 =>
 kw_chk (kw_in a1 12) <|
 kw_let (kw_sl r1 c2 a1.toNatClampNeg (0 : Int64)) fun s3 =>
 some s3
def fX1_isUseful (a1 : Int32) (σ : kw_M) : Option (Int32) :=
 if (((σ.2 7 4) >>> (a1.toInt64 &&& 63)) &&& (1 : Int64)) = (0 : Int64) then
 (some (0 : Int32))
 else
 some (1 : Int32)
def fX9_joined (a0 : Int64) (a1 : Int64) (σ : kw_M) : Option (Int64) :=
 if a0 = (-9000000000000000000 : Int64) then
 (some (-9000000000000000000 : Int64))
 else
 if a1 = (-9000000000000000000 : Int64) then
 (some (-9000000000000000000 : Int64))
 else
 some (a0 + a1)
def fX4_lower (c0 : Nat) (a1 : Int32) (a2 : Int64) (σ : kw_M) : Option (Int32 × kw_M) :=
 kw_chk (kw_in a1 12) <|
 (fX9_isLess a2 (σ.2 c0 a1.toNatClampNeg) σ).bind fun r2 =>
 if r2 = (0 : Int32) then
 (some ((0 : Int32), σ))
 else
 kw_let (kw_sl σ c0 a1.toNatClampNeg a2) fun s4 =>
 some ((1 : Int32), s4)
def bX1_settleRest_43 (v1 : Int32) (v4 : Int32) (v3 : Int32) (v5 : Int32) (σ : kw_M) : Option ((Int32 × Int32 × kw_M) ⊕ (Int32 × kw_M)) :=
 if (σ.1 12 1) ≤ v5 then
 (some (.inr (v3, σ)))
 else
 kw_chk (kw_in v5 36) <|
 kw_let (σ.1 18 v5.toNatClampNeg) fun x6 =>
 if ((v1 >>> (x6 &&& 31)) &&& (1 : Int32)) = (0 : Int32) then
 ((fX1_isUseful v5 σ).bind fun r9 =>
 if r9 = (0 : Int32) then
 (kw_let (v5 + (1 : Int32)) fun x11 =>
 some (.inl (v3, x11, σ)))
 else
 kw_chk (kw_in (σ.1 19 v5.toNatClampNeg) 12) <|
 (fX9_joined (σ.2 47 (σ.1 19 v5.toNatClampNeg).toNatClampNeg) ((σ.1 20 v5.toNatClampNeg).toInt64) σ).bind fun r13 =>
 (fX4_lower 47 x6 r13 σ).bind fun r14 =>
 kw_let (v3 ||| r14.1) fun x15 =>
 kw_let (v5 + (1 : Int32)) fun x16 =>
 some (.inl (x15, x16, r14.2)))
 else
 kw_let (v5 + (1 : Int32)) fun x8 =>
 some (.inl (v3, x8, σ))
def bX1_settleRest_25 (v1 : Int32) (v3 : Int32) (v4 : Int32) (σ : kw_M) : Option ((Int32 × Int32 × kw_M) ⊕ (kw_M)) :=
 if (σ.1 12 0) ≤ v4 then
 (some (.inr σ))
 else
 if v3 = (0 : Int32) then
 (some (.inr σ))
 else
 (kw_loop (fun s => bX1_settleRest_43 v1 v4 s.1 s.2.1 s.2.2) kw_F ((0 : Int32), (0 : Int32), σ)).bind fun x17 =>
 kw_let (v4 + (1 : Int32)) fun x18 =>
 some (.inl (x17.1, x18, x17.2))
def fX1_settleRest (a1 : Int32) (σ : kw_M) : Option (kw_M) :=
 (fX4_beginRow 47 (σ.1 7 2) σ).bind fun r1 =>
 (kw_loop (fun s => bX1_settleRest_25 a1 s.1 s.2.1 s.2.2) kw_F ((1 : Int32), (0 : Int32), r1)).bind fun x19 =>
 some x19
def bX1_dive_35 (rec : Int32 → Int32 → Int32 → kw_M → Option kw_M) (v1 : Int32) (v2 : Int32) (v3 : Int32) (v5 : Int64) (v7 : Int32) (σ : kw_M) : Option ((Int64 × Int32 × kw_M) ⊕ (Int64 × kw_M)) :=
 if (σ.1 12 1) ≤ v7 then
 (some (.inr (v5, σ)))
 else
 kw_chk (kw_in v7 36) <|
 if (σ.1 18 v7.toNatClampNeg) = v1 then
 ((fX1_isUseful v7 σ).bind fun r8 =>
 if r8 = (0 : Int32) then
 (kw_let (v7 + (1 : Int32)) fun x22 =>
 some (.inl (v5, x22, σ)))
 else
 kw_chk (kw_in v1 12) <|
 kw_chk (kw_in (σ.1 19 v7.toNatClampNeg) 12) <|
 (fX9_joined ((σ.2 16 v1.toNatClampNeg) + (σ.1 20 v7.toNatClampNeg).toInt64) (σ.2 47 (σ.1 19 v7.toNatClampNeg).toNatClampNeg) σ).bind fun r12 =>
 kw_chk (kw_in (σ.1 7 2) 12) <|
 if r12 = (σ.2 16 (σ.1 7 2).toNatClampNeg) then
 (kw_let (v5 ||| ((1 : Int64) <<< (v7.toInt64 &&& 63))) fun x20 =>
 kw_let (v7 + (1 : Int32)) fun x21 =>
 some (.inl (x20, x21, σ)))
 else
 (fX9_isLess r12 (σ.2 7 3) σ).bind fun r15 =>
 if r15 = (0 : Int32) then
 (kw_let (v7 + (1 : Int32)) fun x17 =>
 some (.inl (v5, x17, σ)))
 else
 kw_let (kw_sl σ 7 3 r12) fun s18 =>
 kw_let (v7 + (1 : Int32)) fun x19 =>
 some (.inl (v5, x19, s18)))
 else
 kw_let (v7 + (1 : Int32)) fun x7 =>
 some (.inl (v5, x7, σ))
def bX1_dive_163 (rec : Int32 → Int32 → Int32 → kw_M → Option kw_M) (v2 : Int32) (v3 : Int32) (v5 : Int64) (v7 : Int32) (σ : kw_M) : Option ((Int32 × kw_M) ⊕ (kw_M)) :=
 if (σ.1 12 1) ≤ v7 then
 (some (.inr σ))
 else
 if ((v5 >>> (v7.toInt64 &&& 63)) &&& (1 : Int64)) = (0 : Int64) then
 (kw_let (v7 + (1 : Int32)) fun x26 =>
 some (.inl (x26, σ)))
 else
 kw_chk (kw_in v7 36) <|
 (rec (σ.1 19 v7.toNatClampNeg) (v2 ||| ((1 : Int32) <<< ((σ.1 19 v7.toNatClampNeg) &&& 31))) (v3 + (1 : Int32)) σ).bind fun r28 =>
 kw_let (v7 + (1 : Int32)) fun x29 =>
 some (.inl (x29, r28))
def fFX1_dive (rec : Int32 → Int32 → Int32 → kw_M → Option kw_M) (a1 : Int32) (a2 : Int32) (a3 : Int32) (σ : kw_M) : Option (kw_M) :=
 if a1 = (σ.1 7 2) then
 (some σ)
 else
 if a3 < (12 : Int32) then
 ((fX1_settleRest a2 σ).bind fun r3 =>
 (kw_loop (fun s => bX1_dive_35 rec a1 a2 a3 s.1 s.2.1 s.2.2) kw_F ((0 : Int64), (0 : Int32), r3)).bind fun x23 =>
 (kw_loop (fun s => bX1_dive_163 rec a2 a3 x23.1 s.1 s.2) kw_F ((0 : Int32), x23.2)).bind fun x30 =>
 some x30)
 else
 some σ
def fRX1_dive : Nat → Int32 → Int32 → Int32 → kw_M → Option kw_M
  | 0, _, _, _, _ => none
  | n + 1, a1, a2, a3, σ => fFX1_dive (fRX1_dive n) a1 a2 a3 σ
def fX1_dive (a1 : Int32) (a2 : Int32) (a3 : Int32) (σ : kw_M) : Option kw_M := fRX1_dive 20 a1 a2 a3 σ
def fX1_findNext (a1 : Int32) (σ : kw_M) : Option (Int64 × kw_M) :=
 kw_let (kw_si σ 7 2 a1) fun s1 =>
 kw_let (kw_sl s1 7 3 (-9000000000000000000 : Int64)) fun s2 =>
 (fX1_findUseful s2).bind fun r3 =>
 (fX1_dive (r3.1 1 2) ((1 : Int32) <<< ((r3.1 1 2) &&& 31)) (0 : Int32) r3).bind fun r4 =>
 some ((r4.2 7 3), r4)
def bX2_ringOf_7 (v2 : Int32) (σ : kw_M) (v3 : Int64) (v5 : Int32) : Option ((Int64 × Int32) ⊕ (Int64)) :=
 if (σ.1 12 1) ≤ v5 then
 (some (.inr v3))
 else
 (fX4_isOpen 12 v5 σ).bind fun r2 =>
 if r2 = (0 : Int32) then
 (kw_let (v5 + (1 : Int32)) fun x4 =>
 some (.inl (v3, x4)))
 else
 kw_chk (kw_in v5 36) <|
 if (σ.1 18 v5.toNatClampNeg) = v2 then
 ((fX2_span (σ.1 19 v5.toNatClampNeg) v2 σ).bind fun r8 =>
 (fX9_joined ((σ.1 20 v5.toNatClampNeg).toInt64) r8 σ).bind fun r9 =>
 (fX9_isLess r9 v3 σ).bind fun r10 =>
 if r10 = (0 : Int32) then
 (kw_let (v5 + (1 : Int32)) fun x12 =>
 some (.inl (v3, x12)))
 else
 kw_let (v5 + (1 : Int32)) fun x13 =>
 some (.inl (r9, x13)))
 else
 kw_let (v5 + (1 : Int32)) fun x7 =>
 some (.inl (v3, x7))
def fX2_ringOf (a2 : Int32) (σ : kw_M) : Option (Int64) :=
 (kw_loop (fun s => bX2_ringOf_7 a2 σ s.1 s.2) kw_F ((-9000000000000000000 : Int64), (0 : Int32))).bind fun x14 =>
 some x14
def bX7_comesBy_5 (v2 : Int32) (σ : kw_M) (v3 : Int32) (v4 : Int32) : Option ((Int32 × Int32) ⊕ (Int32)) :=
 if (12 : Int32) ≤ v4 then
 (some (.inr v3))
 else
 if v3 = v2 then
 (some (.inr v3))
 else
 kw_chk (kw_in v3 12) <|
 if (σ.1 17 v3.toNatClampNeg) = (-1 : Int32) then
 (some (.inr v3))
 else
 kw_chk (kw_in (σ.1 17 v3.toNatClampNeg) 36) <|
 kw_let (σ.1 18 (σ.1 17 v3.toNatClampNeg).toNatClampNeg) fun x6 =>
 kw_let (v4 + (1 : Int32)) fun x7 =>
 some (.inl (x6, x7))
def jX7_comesBy_48 (v2 : Int32) (v3 : Int32) (σ : kw_M) : Option (Int32) :=
 if v3 = v2 then
 (some (1 : Int32))
 else
 some (0 : Int32)
def fX7_comesBy (a1 : Int32) (a2 : Int32) (σ : kw_M) : Option (Int32) :=
 (kw_loop (fun s => bX7_comesBy_5 a2 σ s.1 s.2) kw_F (a1, (0 : Int32))).bind fun x8 =>
 jX7_comesBy_48 a2 x8 σ
def bX7_belowCount_4 (v1 : Int32) (σ : kw_M) (v2 : Int32) (v3 : Int32) : Option ((Int32 × Int32) ⊕ (Int32)) :=
 if (σ.1 12 0) ≤ v3 then
 (some (.inr v2))
 else
 if v3 = v1 then
 (kw_let (v3 + (1 : Int32)) fun x3 =>
 some (.inl (v2, x3)))
 else
 (fX7_comesBy v3 v1 σ).bind fun r4 =>
 if r4 = (0 : Int32) then
 (kw_let (v3 + (1 : Int32)) fun x6 =>
 some (.inl (v2, x6)))
 else
 kw_let (v2 + (1 : Int32)) fun x7 =>
 kw_let (v3 + (1 : Int32)) fun x8 =>
 some (.inl (x7, x8))
def fX7_belowCount (a1 : Int32) (σ : kw_M) : Option (Int32) :=
 (kw_loop (fun s => bX7_belowCount_4 a1 σ s.1 s.2) kw_F ((0 : Int32), (0 : Int32))).bind fun x9 =>
 some x9
def bX2_groupOf_2 (v1 : Int32) (σ : kw_M) (v2 : Int32) : Option ((Int32) ⊕ ((Int32) ⊕ (Unit))) :=
 if v1 ≤ v2 then
 (some (.inr (.inr ())))
 else
 (fX2_comesTo v2 v1 σ).bind fun r2 =>
 if r2 = (0 : Int32) then
 (kw_let (v2 + (1 : Int32)) fun x4 =>
 some (.inl x4))
 else
 (fX2_comesTo v1 v2 σ).bind fun r5 =>
 if r5 = (0 : Int32) then
 (kw_let (v2 + (1 : Int32)) fun x7 =>
 some (.inl x7))
 else
 some (.inr (.inl v2))
def fX2_groupOf (a1 : Int32) (σ : kw_M) : Option (Int32) :=
 (kw_loop (fun s => bX2_groupOf_2 a1 σ s) kw_F (0 : Int32)).bind fun x8 =>
 Sum.elim (fun x8r => some x8r) (fun x8 =>
 some a1) x8
def bX6_narrowest_55 (v2 : Int32) (v5 : Int32) (v4 : Int32) (v6 : Int32) (σ : kw_M) : Option ((Int32 × Int32 × kw_M) ⊕ (Int32 × kw_M)) :=
 if (σ.1 12 1) ≤ v6 then
 (some (.inr (v4, σ)))
 else
 kw_chk (kw_in v6 36) <|
 kw_chk (kw_in (σ.1 18 v6.toNatClampNeg) 12) <|
 kw_let (σ.2 43 (σ.1 18 v6.toNatClampNeg).toNatClampNeg) fun x9 =>
 (fX4_isOpen 12 v6 σ).bind fun r10 =>
 if r10 = (0 : Int32) then
 (kw_let (v6 + (1 : Int32)) fun x12 =>
 some (.inl (v4, x12, σ)))
 else
 if x9 = (-9000000000000000000 : Int64) then
 (kw_let (v6 + (1 : Int32)) fun x14 =>
 some (.inl (v4, x14, σ)))
 else
 kw_let (if (σ.1 20 v6.toNatClampNeg).toInt64 < x9 then x9 else (σ.1 20 v6.toNatClampNeg).toInt64) fun x15 =>
 (fX4_lower 43 (σ.1 19 v6.toNatClampNeg) x15 σ).bind fun r16 =>
 kw_let (v4 ||| r16.1) fun x17 =>
 kw_let (v6 + (1 : Int32)) fun x18 =>
 some (.inl (x17, x18, r16.2))
def bX6_narrowest_35 (v2 : Int32) (v4 : Int32) (v5 : Int32) (σ : kw_M) : Option ((Int32 × Int32 × kw_M) ⊕ (kw_M)) :=
 if (σ.1 12 0) ≤ v5 then
 (some (.inr σ))
 else
 if v4 = (0 : Int32) then
 (some (.inr σ))
 else
 (kw_loop (fun s => bX6_narrowest_55 v2 v5 s.1 s.2.1 s.2.2) kw_F ((0 : Int32), (0 : Int32), σ)).bind fun x19 =>
 kw_let (v5 + (1 : Int32)) fun x20 =>
 some (.inl (x19.1, x20, x19.2))
def jX6_narrowest_140 (v2 : Int32) (σ : kw_M) : Option (Int64 × kw_M) :=
 if v2 = (σ.1 1 2) then
 (some ((-9000000000000000000 : Int64), σ))
 else
 kw_chk (kw_in v2 12) <|
 some ((σ.2 43 v2.toNatClampNeg), σ)
def fX6_narrowest (a2 : Int32) (σ : kw_M) : Option (Int64 × kw_M) :=
 (fX4_beginRow 43 (σ.1 1 2) σ).bind fun r1 =>
 kw_chk (kw_in (r1.1 1 2) 12) <|
 kw_let (kw_sl r1 43 (r1.1 1 2).toNatClampNeg (-1000000000 : Int64)) fun s3 =>
 (kw_loop (fun s => bX6_narrowest_35 a2 s.1 s.2.1 s.2.2) kw_F ((1 : Int32), (0 : Int32), s3)).bind fun x21 =>
 jX6_narrowest_140 a2 x21
def bX6_stepApart_6 (v2 : Int64) (v4 : Int32) (v5 : Int32) (σ : kw_M) : Option ((Int32 × Int32 × kw_M) ⊕ (Int32 × kw_M)) :=
 if (σ.1 12 1) ≤ v5 then
 (some (.inr (v4, σ)))
 else
 (fX4_isOpen 12 v5 σ).bind fun r2 =>
 if r2 = (0 : Int32) then
 (kw_let (v5 + (1 : Int32)) fun x17 =>
 some (.inl (v4, x17, σ)))
 else
 if ((v2 >>> (v5.toInt64 &&& 63)) &&& (1 : Int64)) = (0 : Int64) then
 (kw_chk (kw_in v5 36) <|
 kw_chk (kw_in (σ.1 18 v5.toNatClampNeg) 12) <|
 (fX9_joined (σ.2 43 (σ.1 18 v5.toNatClampNeg).toNatClampNeg) ((σ.1 20 v5.toNatClampNeg).toInt64) σ).bind fun r7 =>
 (fX4_lower 43 (σ.1 19 v5.toNatClampNeg) r7 σ).bind fun r8 =>
 kw_let (v4 ||| r8.1) fun x9 =>
 kw_let (v5 + (1 : Int32)) fun x10 =>
 some (.inl (x9, x10, r8.2)))
 else
 kw_chk (kw_in v5 36) <|
 kw_chk (kw_in (σ.1 19 v5.toNatClampNeg) 12) <|
 (fX9_joined (σ.2 43 (σ.1 19 v5.toNatClampNeg).toNatClampNeg) ((-(σ.1 20 v5.toNatClampNeg)).toInt64) σ).bind fun r13 =>
 (fX4_lower 43 (σ.1 18 v5.toNatClampNeg) r13 σ).bind fun r14 =>
 kw_let (v4 ||| r14.1) fun x15 =>
 kw_let (v5 + (1 : Int32)) fun x16 =>
 some (.inl (x15, x16, r14.2))
def fX6_stepApart (a2 : Int64) (σ : kw_M) : Option (Int32 × kw_M) :=
 (kw_loop (fun s => bX6_stepApart_6 a2 s.1 s.2.1 s.2.2) kw_F ((0 : Int32), (0 : Int32), σ)).bind fun x18 =>
 kw_chk (kw_isB x18.1) <| some (x18.1, x18.2)
def bX6_twoApart_19 (v2 : Int32) (v6 : Int32) (σ : kw_M) (v4 : Int64) (v7 : Int32) : Option ((Int64 × Int32) ⊕ (Int64)) :=
 if v6 ≤ v7 then
 (some (.inr v4))
 else
 kw_chk (kw_in v7 12) <|
 kw_let (v4 ||| ((1 : Int64) <<< ((σ.1 42 v7.toNatClampNeg).toInt64 &&& 63))) fun x4 =>
 kw_let (v7 + (1 : Int32)) fun x5 =>
 some (.inl (x4, x5))
def bX6_twoApart_64 (v2 : Int32) (v4 : Int64) (v7 : Int32) (v8 : Int32) (σ : kw_M) : Option ((Int32 × Int32 × kw_M) ⊕ (kw_M)) :=
 if (σ.1 12 0) ≤ v8 then
 (some (.inr σ))
 else
 if v7 = (0 : Int32) then
 (some (.inr σ))
 else
 (fX6_stepApart v4 σ).bind fun r10 =>
 kw_let (v8 + (1 : Int32)) fun x11 =>
 some (.inl (r10.1, x11, r10.2))
def jX6_twoApart_93 (v2 : Int32) (σ : kw_M) : Option (Int64 × kw_M) :=
 kw_chk (kw_in v2 12) <|
 (fX9_joined (σ.2 16 v2.toNatClampNeg) (σ.2 43 v2.toNatClampNeg) σ).bind fun r14 =>
 some (r14, σ)
def fX6_twoApart (a2 : Int32) (σ : kw_M) : Option (Int64 × kw_M) :=
 (fX6_findWay a2 σ).bind fun r1 =>
 (kw_loop (fun s => bX6_twoApart_19 a2 r1.1 r1.2 s.1 s.2) kw_F ((0 : Int64), (0 : Int32))).bind fun x6 =>
 (fX4_beginRow 43 (r1.2.1 1 2) r1.2).bind fun r7 =>
 (kw_loop (fun s => bX6_twoApart_64 a2 x6 s.1 s.2.1 s.2.2) kw_F ((1 : Int32), (0 : Int32), r7)).bind fun x12 =>
 jX6_twoApart_93 a2 x12
def fX9_apartLength (a1 : Int32) (σ : kw_M) : Option (Int64 × kw_M) :=
 (fX7_hasDistance a1 σ).bind fun r1 =>
 if r1 = (0 : Int32) then
 (some ((-9000000000000000000 : Int64), σ))
 else
 if a1 = (σ.1 1 2) then
 (some ((0 : Int64), σ))
 else
 (fX6_twoApart a1 σ).bind fun r4 =>
 some (r4.1, r4.2)
def bX2_comersTo_4 (v1 : Int32) (σ : kw_M) (v2 : Int32) (v3 : Int32) : Option ((Int32 × Int32) ⊕ (Int32)) :=
 if (σ.1 5 1) ≤ v3 then
 (some (.inr v2))
 else
 if v3 = v1 then
 (kw_let (v3 + (1 : Int32)) fun x3 =>
 some (.inl (v2, x3)))
 else
 (fX2_comesTo v3 v1 σ).bind fun r4 =>
 if r4 = (0 : Int32) then
 (kw_let (v3 + (1 : Int32)) fun x6 =>
 some (.inl (v2, x6)))
 else
 kw_let (v2 + (1 : Int32)) fun x7 =>
 kw_let (v3 + (1 : Int32)) fun x8 =>
 some (.inl (x7, x8))
def fX2_comersTo (a1 : Int32) (σ : kw_M) : Option (Int32) :=
 (kw_loop (fun s => bX2_comersTo_4 a1 σ s.1 s.2) kw_F ((0 : Int32), (0 : Int32))).bind fun x9 =>
 some x9
def fX9_town (a1 : Int32) (a2 : Int32) (σ : kw_M) : Option (Int64 × kw_M) :=
 (fX4_hasTown a1 σ).bind fun r1 =>
 if r1 = (0 : Int32) then
 (some ((-9000000000000000000 : Int64), σ))
 else
 if a2 = (0 : Int32) then
 (kw_chk (kw_in a1 12) <|
 some ((σ.2 16 a1.toNatClampNeg), σ))
 else
 if a2 = (1 : Int32) then
 (kw_chk (kw_in a1 12) <|
 if (σ.1 17 a1.toNatClampNeg) = (-1 : Int32) then
 (some ((-2 : Int64), σ))
 else
 some ((σ.1 17 a1.toNatClampNeg).toInt64, σ))
 else
 if a2 = (2 : Int32) then
 ((fX7_hasDistance a1 σ).bind fun r9 =>
 if r9 = (0 : Int32) then
 (some ((-2 : Int64), σ))
 else
 (fX9_findWay a1 σ).bind fun r11 =>
 some (r11.1.toInt64, r11.2))
 else
 if a2 = (3 : Int32) then
 ((fX7_tightTo a1 σ).bind fun r13 =>
 some (r13.toInt64, σ))
 else
 if a2 = (4 : Int32) then
 ((fX6_waysAsShort a1 σ).bind fun r15 =>
 some (r15.1, r15.2))
 else
 if a2 = (5 : Int32) then
 ((fX7_hasDistance a1 σ).bind fun r17 =>
 if r17 = (0 : Int32) then
 (some ((-2 : Int64), σ))
 else
 (fX9_neededCount a1 σ).bind fun r19 =>
 some (r19.1.toInt64, r19.2))
 else
 if a2 = (6 : Int32) then
 ((fX9_dearestRoad a1 σ).bind fun r21 =>
 some (r21.1.toInt64, r21.2))
 else
 if a2 = (7 : Int32) then
 ((fX7_hasDistance a1 σ).bind fun r23 =>
 if r23 = (0 : Int32) then
 (some ((-9000000000000000000 : Int64), σ))
 else
 (fX1_findNext a1 σ).bind fun r25 =>
 some (r25.1, r25.2))
 else
 if a2 = (8 : Int32) then
 ((fX9_rightPairs σ).bind fun r27 =>
 (fX2_reachOf a1 r27).bind fun r28 =>
 some (r28, r27))
 else
 if a2 = (9 : Int32) then
 ((fX9_rightPairs σ).bind fun r30 =>
 (fX2_ringOf a1 r30).bind fun r31 =>
 some (r31, r30))
 else
 if a2 = (10 : Int32) then
 ((fX7_isWatched a1 σ).bind fun r33 =>
 if r33 = (0 : Int32) then
 (some ((-9000000000000000000 : Int64), σ))
 else
 kw_chk (kw_in a1 12) <|
 some ((σ.1 14 a1.toNatClampNeg).toInt64, σ))
 else
 if a2 = (11 : Int32) then
 ((fX7_belowCount a1 σ).bind fun r37 =>
 some (r37.toInt64, σ))
 else
 if a2 = (12 : Int32) then
 ((fX9_rightPairs σ).bind fun r39 =>
 (fX2_groupOf a1 r39).bind fun r40 =>
 some (r40.toInt64, r39))
 else
 if a2 = (13 : Int32) then
 ((fX6_narrowest a1 σ).bind fun r42 =>
 some (r42.1, r42.2))
 else
 if a2 = (14 : Int32) then
 ((fX9_apartLength a1 σ).bind fun r44 =>
 some (r44.1, r44.2))
 else
 if a2 = (15 : Int32) then
 ((fX9_rightPairs σ).bind fun r46 =>
 (fX2_comersTo a1 r46).bind fun r47 =>
 some (r47.toInt64, r46))
 else
 some ((-9000000000000000000 : Int64), σ)
def fX9_way (a1 : Int32) (a2 : Int32) (σ : kw_M) : Option (Int32 × kw_M) :=
 if a2 < (0 : Int32) then
 (some ((-1 : Int32), σ))
 else
 (fX4_hasTown a1 σ).bind fun r2 =>
 if r2 = (0 : Int32) then
 (some ((-1 : Int32), σ))
 else
 (fX7_hasDistance a1 σ).bind fun r4 =>
 if r4 = (0 : Int32) then
 (some ((-1 : Int32), σ))
 else
 (fX9_findWay a1 σ).bind fun r6 =>
 if r6.1 ≤ a2 then
 (some ((-4 : Int32), r6.2))
 else
 kw_chk (kw_in a2 12) <|
 some ((r6.2.1 42 a2.toNatClampNeg), r6.2)
def fX9_needed (a1 : Int32) (a2 : Int32) (σ : kw_M) : Option (Int32 × kw_M) :=
 (fX4_isOpen 12 a1 σ).bind fun r1 =>
 if r1 = (0 : Int32) then
 (some ((-1 : Int32), σ))
 else
 (fX4_hasTown a2 σ).bind fun r3 =>
 if r3 = (0 : Int32) then
 (some ((-1 : Int32), σ))
 else
 (fX7_hasDistance a2 σ).bind fun r5 =>
 if r5 = (0 : Int32) then
 (some ((-1 : Int32), σ))
 else
 (fX9_isNeeded a1 a2 σ).bind fun r7 =>
 if r7.1 = (0 : Int32) then
 (some ((0 : Int32), r7.2))
 else
 some ((1 : Int32), r7.2)
def fX9_touched (a1 : Int32) (σ : kw_M) : Option (Int32) :=
 if (0 : Int32) ≤ a1 then
 (if (σ.1 1 7) ≤ a1 then
 (some (-4 : Int32))
 else
 kw_chk (kw_in a1 12) <|
 some (σ.1 15 a1.toNatClampNeg))
 else
 some (-1 : Int32)
def fX9_without (a1 : Int32) (a2 : Int32) (σ : kw_M) : Option (Int64 × kw_M) :=
 (fX4_isOpen 12 a1 σ).bind fun r1 =>
 if r1 = (0 : Int32) then
 (some ((-9000000000000000000 : Int64), σ))
 else
 (fX4_hasTown a2 σ).bind fun r3 =>
 if r3 = (0 : Int32) then
 (some ((-9000000000000000000 : Int64), σ))
 else
 (fX9_distanceWithout a1 a2 σ).bind fun r5 =>
 some (r5.1, r5.2)
def fX9_between (a1 : Int32) (a2 : Int32) (σ : kw_M) : Option (Int64 × kw_M) :=
 (fX4_hasTown a1 σ).bind fun r1 =>
 if r1 = (0 : Int32) then
 (some ((-9000000000000000000 : Int64), σ))
 else
 (fX4_hasTown a2 σ).bind fun r3 =>
 if r3 = (0 : Int32) then
 (some ((-9000000000000000000 : Int64), σ))
 else
 (fX9_rightPairs σ).bind fun r5 =>
 (fX2_span a1 a2 r5).bind fun r6 =>
 some (r6, r5)
def bX6_goOn_3 (v2 : Int32) (v3 : Int64) (v5 : Int32) (v6 : Int32) (σ : kw_M) : Option ((Int32 × kw_M) ⊕ (kw_M)) :=
 if v5 ≤ v6 then
 (some (.inr σ))
 else
 (fX2_span v2 v6 σ).bind fun r2 =>
 (fX9_joined v3 r2 σ).bind fun r3 =>
 (fX4_lower 44 v6 r3 σ).bind fun r4 =>
 kw_let (v6 + (1 : Int32)) fun x5 =>
 some (.inl (x5, r4.2))
def fX6_goOn (a2 : Int32) (a3 : Int64) (a4 : Int32) (σ : kw_M) : Option (kw_M) :=
 (kw_loop (fun s => bX6_goOn_3 a2 a3 a4 s.1 s.2) kw_F ((0 : Int32), σ)).bind fun x6 =>
 some x6
def bX6_withFreeRoads_49 (v3 : Int32) (v4 : Int32) (v6 : Int32) (v7 : Int32) (σ : kw_M) : Option ((Int32 × kw_M) ⊕ (kw_M)) :=
 if (σ.1 12 1) ≤ v7 then
 (some (.inr σ))
 else
 (fX4_isOpen 12 v7 σ).bind fun r5 =>
 if r5 = (0 : Int32) then
 (kw_let (v7 + (1 : Int32)) fun x7 =>
 some (.inl (x7, σ)))
 else
 kw_chk (kw_in v7 36) <|
 if (σ.1 20 v7.toNatClampNeg) ≤ (0 : Int32) then
 (kw_let (v7 + (1 : Int32)) fun x10 =>
 some (.inl (x10, σ)))
 else
 kw_chk (kw_in (σ.1 18 v7.toNatClampNeg) 12) <|
 (fX6_goOn (σ.1 19 v7.toNatClampNeg) (σ.2 43 (σ.1 18 v7.toNatClampNeg).toNatClampNeg) (σ.1 12 0) σ).bind fun r12 =>
 kw_let (v7 + (1 : Int32)) fun x13 =>
 some (.inl (x13, r12))
def bX6_withFreeRoads_24 (v3 : Int32) (v4 : Int32) (v6 : Int32) (σ : kw_M) : Option ((Int32 × kw_M) ⊕ (kw_M)) :=
 if v4 ≤ v6 then
 (some (.inr σ))
 else
 kw_let (kw_rl σ 44 (va_cpy (σ.2 43) (σ.2 44) 0 0 12)) fun s3 =>
 (kw_loop (fun s => bX6_withFreeRoads_49 v3 v4 v6 s.1 s.2) kw_F ((0 : Int32), s3)).bind fun x14 =>
 (fX6_foundIsKnown x14).bind fun r15 =>
 kw_let (v6 + (1 : Int32)) fun x16 =>
 some (.inl (x16, r15))
def fX6_withFreeRoads (a3 : Int32) (a4 : Int32) (σ : kw_M) : Option (Int64 × kw_M) :=
 kw_let (kw_rl σ 43 (va_cpy (σ.2 16) (σ.2 43) 0 0 12)) fun s1 =>
 (kw_loop (fun s => bX6_withFreeRoads_24 a3 a4 s.1 s.2) kw_F ((0 : Int32), s1)).bind fun x17 =>
 kw_chk (kw_in a3 12) <|
 some ((x17.2 43 a3.toNatClampNeg), x17)
def fX9_free (a1 : Int32) (a2 : Int32) (σ : kw_M) : Option (Int64 × kw_M) :=
 (fX4_hasTown a1 σ).bind fun r1 =>
 if r1 = (0 : Int32) then
 (some ((-9000000000000000000 : Int64), σ))
 else
 if a2 < (0 : Int32) then
 (some ((-9000000000000000000 : Int64), σ))
 else
 if a2 ≤ (3 : Int32) then
 ((fX9_rightPairs σ).bind fun r5 =>
 (fX6_withFreeRoads a1 a2 r5).bind fun r6 =>
 some (r6.1, r6.2))
 else
 some ((-9000000000000000000 : Int64), σ)
def bX4_stepAll_5 (v3 : Int32) (v4 : Int32) (σ : kw_M) : Option ((Int32 × Int32 × kw_M) ⊕ (Int32 × kw_M)) :=
 if (σ.1 12 1) ≤ v4 then
 (some (.inr (v3, σ)))
 else
 (fX4_isOpen 12 v4 σ).bind fun r2 =>
 if r2 = (0 : Int32) then
 (kw_let (v4 + (1 : Int32)) fun x4 =>
 some (.inl (v3, x4, σ)))
 else
 kw_chk (kw_in v4 36) <|
 kw_chk (kw_in (σ.1 18 v4.toNatClampNeg) 12) <|
 (fX9_joined (σ.2 43 (σ.1 18 v4.toNatClampNeg).toNatClampNeg) ((σ.1 20 v4.toNatClampNeg).toInt64) σ).bind fun r7 =>
 (fX4_lower 44 (σ.1 19 v4.toNatClampNeg) r7 σ).bind fun r8 =>
 kw_let (v3 ||| r8.1) fun x9 =>
 kw_let (v4 + (1 : Int32)) fun x10 =>
 some (.inl (x9, x10, r8.2))
def fX4_stepAll (σ : kw_M) : Option (Int32 × kw_M) :=
 (kw_loop (fun s => bX4_stepAll_5 s.1 s.2.1 s.2.2) kw_F ((0 : Int32), (0 : Int32), σ)).bind fun x11 =>
 kw_chk (kw_isB x11.1) <| some (x11.1, x11.2)
def bX6_withFewRoads_21 (v2 : Int32) (v3 : Int32) (v4 : Int32) (v5 : Int32) (σ : kw_M) : Option ((Int32 × Int32 × kw_M) ⊕ (kw_M)) :=
 if v3 ≤ v5 then
 (some (.inr σ))
 else
 if v4 = (0 : Int32) then
 (some (.inr σ))
 else
 kw_let (kw_rl σ 44 (va_cpy (σ.2 43) (σ.2 44) 0 0 12)) fun s4 =>
 (fX4_stepAll s4).bind fun r5 =>
 (fX6_foundIsKnown r5.2).bind fun r6 =>
 kw_let (v5 + (1 : Int32)) fun x7 =>
 some (.inl (r5.1, x7, r6))
def fX6_withFewRoads (a2 : Int32) (a3 : Int32) (σ : kw_M) : Option (Int64 × kw_M) :=
 (fX4_beginRow 43 (σ.1 1 2) σ).bind fun r1 =>
 (kw_loop (fun s => bX6_withFewRoads_21 a2 a3 s.1 s.2.1 s.2.2) kw_F ((1 : Int32), (0 : Int32), r1)).bind fun x8 =>
 kw_chk (kw_in a2 12) <|
 some ((x8.2 43 a2.toNatClampNeg), x8)
def fX9_hops (a1 : Int32) (a2 : Int32) (σ : kw_M) : Option (Int64 × kw_M) :=
 (fX4_hasTown a1 σ).bind fun r1 =>
 if r1 = (0 : Int32) then
 (some ((-9000000000000000000 : Int64), σ))
 else
 if a2 < (0 : Int32) then
 (some ((-9000000000000000000 : Int64), σ))
 else
 if a2 ≤ (36 : Int32) then
 ((fX6_withFewRoads a1 a2 σ).bind fun r5 =>
 some (r5.1, r5.2))
 else
 some ((-9000000000000000000 : Int64), σ)
def fX4_hasAll (a1 : Int32) (σ : kw_M) : Option (Int32) :=
 if (a1 &&& (-((1 : Int32) <<< ((σ.1 12 0) &&& 31)))) = (0 : Int32) then
 (some (1 : Int32))
 else
 some (0 : Int32)
def bX2_comeTogether_16 (v1 : Int32) (v2 : Int32) (v3 : Int32) (σ : kw_M) (v4 : Int64) (v6 : Int32) : Option ((Int64 × Int32) ⊕ ((Int64) ⊕ (Int64))) :=
 if (σ.1 5 1) ≤ v6 then
 (some (.inr (.inr v4)))
 else
 if ((v1 >>> (v6 &&& 31)) &&& (1 : Int32)) = (0 : Int32) then
 (kw_let (v6 + (1 : Int32)) fun x13 =>
 some (.inl (v4, x13)))
 else
 (fX2_comesTo v6 v2 σ).bind fun r4 =>
 if r4 = (0 : Int32) then
 (some (.inr (.inl (-9000000000000000000 : Int64))))
 else
 if v3 = (0 : Int32) then
 ((fX2_span v6 v2 σ).bind fun r7 =>
 kw_let (v4 + r7) fun x8 =>
 kw_let (v6 + (1 : Int32)) fun x9 =>
 some (.inl (x8, x9)))
 else
 (fX2_span v6 v2 σ).bind fun r10 =>
 kw_let (if r10 < v4 then v4 else r10) fun x11 =>
 kw_let (v6 + (1 : Int32)) fun x12 =>
 some (.inl (x11, x12))
def jX2_comeTogether_11 (v1 : Int32) (v2 : Int32) (v3 : Int32) (t0 : Int64) (σ : kw_M) : Option (Int64) :=
 (kw_loop (fun s => bX2_comeTogether_16 v1 v2 v3 σ s.1 s.2) kw_F (t0, (0 : Int32))).bind fun x14 =>
 Sum.elim (fun x14r => some x14r) (fun x14 =>
 some x14) x14
def fX2_comeTogether (a1 : Int32) (a2 : Int32) (a3 : Int32) (σ : kw_M) : Option (Int64) :=
 if a3 = (0 : Int32) then
 (jX2_comeTogether_11 a1 a2 a3 (0 : Int64) σ)
 else
 jX2_comeTogether_11 a1 a2 a3 (-9000000000000000000 : Int64) σ
def bX2_meetingOf_10 (v1 : Int32) (v2 : Int32) (σ : kw_M) (v3 : Int32) (v4 : Int64) (v6 : Int32) : Option ((Int32 × Int64 × Int32) ⊕ (Int32)) :=
 if (σ.1 5 1) ≤ v6 then
 (some (.inr v3))
 else
 (fX2_comeTogether v1 v6 v2 σ).bind fun r2 =>
 (fX9_isLess r2 v4 σ).bind fun r3 =>
 if r3 = (0 : Int32) then
 (kw_let (v6 + (1 : Int32)) fun x5 =>
 some (.inl (v3, v4, x5)))
 else
 kw_let (v6 + (1 : Int32)) fun x6 =>
 some (.inl (v6, r2, x6))
def fX2_meetingOf (a1 : Int32) (a2 : Int32) (σ : kw_M) : Option (Int32) :=
 (kw_loop (fun s => bX2_meetingOf_10 a1 a2 σ s.1 s.2.1 s.2.2) kw_F ((-1 : Int32), (-9000000000000000000 : Int64), (0 : Int32))).bind fun x7 =>
 some x7
def jX9_meet_41 (v1 : Int32) (v2 : Int32) (t0 : Int32) (σ : kw_M) : Option (Int64 × kw_M) :=
 (fX9_rightPairs σ).bind fun r7 =>
 (fX2_meetingOf v1 t0 r7).bind fun r8 =>
 if r8 = (-1 : Int32) then
 (some ((-9000000000000000000 : Int64), r7))
 else
 if (v2 - v2 / (2 : Int32) * (2 : Int32)) = (0 : Int32) then
 (some (r8.toInt64, r7))
 else
 (fX2_comeTogether v1 r8 t0 r7).bind fun r11 =>
 some (r11, r7)
def fX9_meet (a1 : Int32) (a2 : Int32) (σ : kw_M) : Option (Int64 × kw_M) :=
 if a1 = (0 : Int32) then
 (some ((-9000000000000000000 : Int64), σ))
 else
 (fX4_hasAll a1 σ).bind fun r2 =>
 if r2 = (0 : Int32) then
 (some ((-9000000000000000000 : Int64), σ))
 else
 if a2 < (0 : Int32) then
 (some ((-9000000000000000000 : Int64), σ))
 else
 if a2 ≤ (3 : Int32) then
 (if a2 < (2 : Int32) then
 (jX9_meet_41 a1 a2 (0 : Int32) σ)
 else
 jX9_meet_41 a1 a2 (1 : Int32) σ)
 else
 some ((-9000000000000000000 : Int64), σ)
def fX9_through (a1 : Int32) (a2 : Int32) (σ : kw_M) : Option (Int64 × kw_M) :=
 (fX4_hasTown a1 σ).bind fun r1 =>
 if r1 = (0 : Int32) then
 (some ((-9000000000000000000 : Int64), σ))
 else
 (fX4_hasTown a2 σ).bind fun r3 =>
 if r3 = (0 : Int32) then
 (some ((-9000000000000000000 : Int64), σ))
 else
 kw_chk (kw_in a2 12) <|
 (fX9_rightPairs σ).bind fun r6 =>
 (fX2_span a2 a1 r6).bind fun r7 =>
 (fX9_joined (σ.2 16 a2.toNatClampNeg) r7 r6).bind fun r8 =>
 some (r8, r6)
def fX2_wouldMakeBadRing (a1 : Int32) (a2 : Int32) (a3 : Int32) (σ : kw_M) : Option (Int32) :=
 (fX2_comesTo a2 a1 σ).bind fun r1 =>
 if r1 = (0 : Int32) then
 (some (0 : Int32))
 else
 (fX2_span a2 a1 σ).bind fun r3 =>
 if (0 : Int64) < (r3 + a3.toInt64) then
 (some (0 : Int32))
 else
 some (1 : Int32)
def bX9_savedBy_6 (v1 : Int32) (v2 : Int32) (v3 : Int32) (σ : kw_M) (v4 : Int64) (v6 : Int32) : Option ((Int64 × Int32) ⊕ (Int64)) :=
 if (σ.1 12 0) ≤ v6 then
 (some (.inr v4))
 else
 (fX2_span v2 v6 σ).bind fun r2 =>
 if r2 = (-9000000000000000000 : Int64) then
 (kw_let (v6 + (1 : Int32)) fun x4 =>
 some (.inl (v4, x4)))
 else
 (fX7_hasDistance v6 σ).bind fun r5 =>
 if r5 = (0 : Int32) then
 (kw_let (v6 + (1 : Int32)) fun x7 =>
 some (.inl (v4, x7)))
 else
 kw_chk (kw_in v6 12) <|
 kw_chk (kw_in v1 12) <|
 kw_let (if ((σ.2 16 v6.toNatClampNeg) - (((σ.2 16 v1.toNatClampNeg) + v3.toInt64) + r2)) < (0 : Int64) then (0 : Int64) else ((σ.2 16 v6.toNatClampNeg) - (((σ.2 16 v1.toNatClampNeg) + v3.toInt64) + r2))) fun x10 =>
 kw_let (v4 + x10) fun x11 =>
 kw_let (v6 + (1 : Int32)) fun x12 =>
 some (.inl (x11, x12))
def fX9_savedBy (a1 : Int32) (a2 : Int32) (a3 : Int32) (σ : kw_M) : Option (Int64) :=
 (kw_loop (fun s => bX9_savedBy_6 a1 a2 a3 σ s.1 s.2) kw_F ((0 : Int64), (0 : Int32))).bind fun x13 =>
 some x13
def bX9_findShortcut_31 (v1 : Int32) (v3 : Int32) (v4 : Int32) (σ : kw_M) : Option ((Int32 × kw_M) ⊕ (kw_M)) :=
 if (σ.1 12 0) ≤ v4 then
 (some (.inr σ))
 else
 if v3 = v4 then
 (kw_let (v4 + (1 : Int32)) fun x6 =>
 some (.inl (x6, σ)))
 else
 (fX7_hasDistance v3 σ).bind fun r7 =>
 if r7 = (0 : Int32) then
 (kw_let (v4 + (1 : Int32)) fun x9 =>
 some (.inl (x9, σ)))
 else
 (fX2_wouldMakeBadRing v3 v4 v1 σ).bind fun r10 =>
 if r10 = (0 : Int32) then
 ((fX9_savedBy v3 v4 v1 σ).bind fun r12 =>
 if r12 ≤ (σ.2 9 2) then
 (kw_let (v4 + (1 : Int32)) fun x14 =>
 some (.inl (x14, σ)))
 else
 kw_let (kw_sl σ 9 0 v3.toInt64) fun s15 =>
 kw_let (kw_sl s15 9 1 v4.toInt64) fun s16 =>
 kw_let (kw_sl s16 9 2 r12) fun s17 =>
 kw_let (v4 + (1 : Int32)) fun x18 =>
 some (.inl (x18, s17)))
 else
 kw_let (v4 + (1 : Int32)) fun x19 =>
 some (.inl (x19, σ))
def bX9_findShortcut_14 (v1 : Int32) (v3 : Int32) (σ : kw_M) : Option ((Int32 × kw_M) ⊕ (kw_M)) :=
 if (σ.1 12 0) ≤ v3 then
 (some (.inr σ))
 else
 (kw_loop (fun s => bX9_findShortcut_31 v1 v3 s.1 s.2) kw_F ((0 : Int32), σ)).bind fun x20 =>
 kw_let (v3 + (1 : Int32)) fun x21 =>
 some (.inl (x21, x20))
def fX9_findShortcut (a1 : Int32) (σ : kw_M) : Option (kw_M) :=
 (fX9_rightPairs σ).bind fun r1 =>
 kw_let (kw_sl r1 9 2 (0 : Int64)) fun s2 =>
 (kw_loop (fun s => bX9_findShortcut_14 a1 s.1 s.2) kw_F ((0 : Int32), s2)).bind fun x22 =>
 some x22
def fX9_shortcut (a1 : Int32) (a2 : Int32) (σ : kw_M) : Option (Int64 × kw_M) :=
 (fX9_isLength a1 σ).bind fun r1 =>
 if r1 = (0 : Int32) then
 (some ((-9000000000000000000 : Int64), σ))
 else
 if a2 < (0 : Int32) then
 (some ((-9000000000000000000 : Int64), σ))
 else
 if a2 ≤ (2 : Int32) then
 ((fX9_findShortcut a1 σ).bind fun r5 =>
 if (r5.2 9 2) ≤ (0 : Int64) then
 (some ((-2 : Int64), r5))
 else
 kw_chk (kw_in a2 3) <|
 some ((r5.2 9 a2.toNatClampNeg), r5))
 else
 some ((-9000000000000000000 : Int64), σ)
def fX6_takeMean (a1 : Int64) (a2 : Int32) (σ : kw_M) : Option (kw_M) :=
 if a1 = (-9000000000000000000 : Int64) then
 (some σ)
 else
 if (σ.2 6 3) = (0 : Int64) then
 (kw_let (kw_sl σ 6 2 a1) fun s3 =>
 kw_let (kw_sl s3 6 3 a2.toInt64) fun s4 =>
 some s4)
 else
 if ((σ.2 6 2) * a2.toInt64) ≤ (a1 * (σ.2 6 3)) then
 (some σ)
 else
 kw_let (kw_sl σ 6 2 a1) fun s6 =>
 kw_let (kw_sl s6 6 3 a2.toInt64) fun s7 =>
 some s7
def bX6_commonDivisor_15 (σ : kw_M) (v4 : Int64) (v6 : Int64) (v8 : Int32) : Option ((Int64 × Int64 × Int32) ⊕ (Int64)) :=
 if (200 : Int32) ≤ v8 then
 (some (.inr v4))
 else
 if v6 = (0 : Int64) then
 (some (.inr v4))
 else
 kw_chk (¬ v6 = 0) <|
 kw_let (v4 - v4 / v6 * v6) fun x6 =>
 kw_let (v8 + (1 : Int32)) fun x7 =>
 some (.inl (v6, x6, x7))
def jX6_commonDivisor_51 (v4 : Int64) (σ : kw_M) : Option (Int64) :=
 kw_let (if v4 < (1 : Int64) then (1 : Int64) else v4) fun x9 =>
 some x9
def fX6_commonDivisor (a0 : Int64) (a1 : Int64) (σ : kw_M) : Option (Int64) :=
 kw_let (if 0 < a0 then a0 else -a0) fun x1 =>
 kw_let (if 0 < a1 then a1 else -a1) fun x2 =>
 (kw_loop (fun s => bX6_commonDivisor_15 σ s.1 s.2.1 s.2.2) kw_F (x1, x2, (0 : Int32))).bind fun x8 =>
 jX6_commonDivisor_51 x8 σ
def bX6_findLeastMean_26 (v2 : Int32) (v3 : Int32) (σ : kw_M) : Option ((Int32 × kw_M) ⊕ (kw_M)) :=
 if (σ.1 12 0) < v3 then
 (some (.inr σ))
 else
 (fXJ7_fill_d0a16 44 (-9000000000000000000 : Int64) σ).bind fun r5 =>
 (fX4_stepAll r5).bind fun r6 =>
 (fX6_foundIsKnown r6.2).bind fun r7 =>
 kw_chk (kw_in v2 12) <|
 (fX6_takeMean (r7.2 43 v2.toNatClampNeg) v3 r7).bind fun r9 =>
 kw_let (v3 + (1 : Int32)) fun x10 =>
 some (.inl (x10, r9))
def bX6_findLeastMean_7 (v2 : Int32) (σ : kw_M) : Option ((Int32 × kw_M) ⊕ (kw_M)) :=
 if (σ.1 12 0) ≤ v2 then
 (some (.inr σ))
 else
 (fX4_beginRow 43 v2 σ).bind fun r3 =>
 (kw_loop (fun s => bX6_findLeastMean_26 v2 s.1 s.2) kw_F ((1 : Int32), r3)).bind fun x11 =>
 kw_let (v2 + (1 : Int32)) fun x12 =>
 some (.inl (x12, x11))
def fX6_findLeastMean (σ : kw_M) : Option (Int32 × kw_M) :=
 kw_let (kw_sl σ 6 3 (0 : Int64)) fun s1 =>
 (kw_loop (fun s => bX6_findLeastMean_7 s.1 s.2) kw_F ((0 : Int32), s1)).bind fun x13 =>
 if (x13.2 6 3) = (0 : Int64) then
 (some ((0 : Int32), x13))
 else
 (fX6_commonDivisor (x13.2 6 2) (x13.2 6 3) x13).bind fun r15 =>
 kw_chk (¬ r15 = 0) <|
 kw_let (kw_sl x13 6 2 ((x13.2 6 2) / r15)) fun s17 =>
 kw_chk (¬ r15 = 0) <|
 kw_let (kw_sl s17 6 3 ((s17.2 6 3) / r15)) fun s19 =>
 some ((1 : Int32), s19)
def fX9_mean (a1 : Int32) (σ : kw_M) : Option (Int64 × kw_M) :=
 if a1 < (0 : Int32) then
 (some ((-9000000000000000000 : Int64), σ))
 else
 if (1 : Int32) < a1 then
 (some ((-9000000000000000000 : Int64), σ))
 else
 (fX6_findLeastMean σ).bind fun r3 =>
 if r3.1 = (0 : Int32) then
 (some ((-9000000000000000000 : Int64), r3.2))
 else
 if a1 = (0 : Int32) then
 (some ((r3.2.2 6 2), r3.2))
 else
 some ((r3.2.2 6 3), r3.2)
def fXJ6_bitCount_0f7a4 (a0 : Int32) (σ : kw_M) : Option (Int32) :=
 kw_let ((a0.toUInt32 >>> ((1 : Int32).toUInt32 &&& Int32.toUInt32 31)).toInt32) fun x1 =>
 kw_let (a0 - (x1 &&& (1431655765 : Int32))) fun x2 =>
 kw_let ((x2.toUInt32 >>> ((2 : Int32).toUInt32 &&& Int32.toUInt32 31)).toInt32) fun x3 =>
 kw_let ((x2 &&& (858993459 : Int32)) + (x3 &&& (858993459 : Int32))) fun x4 =>
 kw_let ((x4.toUInt32 >>> ((4 : Int32).toUInt32 &&& Int32.toUInt32 31)).toInt32) fun x5 =>
 kw_let ((x4 + x5) &&& (252645135 : Int32)) fun x6 =>
 kw_let ((x6.toUInt32 >>> ((8 : Int32).toUInt32 &&& Int32.toUInt32 31)).toInt32) fun x7 =>
 kw_let (x6 + x7) fun x8 =>
 kw_let ((x8.toUInt32 >>> ((16 : Int32).toUInt32 &&& Int32.toUInt32 31)).toInt32) fun x9 =>
 kw_let (x8 + x9) fun x10 =>
 some (x10 &&& (63 : Int32))
def bX5_dive_68 (rec : Int32 → Int32 → Int64 → Int32 → kw_M → Option kw_M) (v1 : Int32) (v2 : Int32) (v3 : Int64) (v5 : Int32) (v8 : Int32) (σ : kw_M) : Option ((Int32 × kw_M) ⊕ (kw_M)) :=
 if (σ.1 8 4) ≤ v8 then
 (some (.inr σ))
 else
 if ((v2 >>> (v8 &&& 31)) &&& (1 : Int32)) = (0 : Int32) then
 (kw_let (v8 + (1 : Int32)) fun x9 =>
 some (.inl (x9, σ)))
 else
 (fX2_comesTo v1 v8 σ).bind fun r10 =>
 if r10 = (0 : Int32) then
 (kw_let (v8 + (1 : Int32)) fun x12 =>
 some (.inl (x12, σ)))
 else
 kw_chk (kw_in v5 6) <|
 kw_let (kw_si σ 46 v5.toNatClampNeg v8) fun s14 =>
 (fX2_span v1 v8 s14).bind fun r15 =>
 (rec v8 (v2 &&& (((1 : Int32) <<< (v8 &&& 31)) ^^^ (-1 : Int32))) (v3 + r15) (v5 + (1 : Int32)) s14).bind fun r16 =>
 kw_let (v8 + (1 : Int32)) fun x17 =>
 some (.inl (x17, r16))
def fFX5_dive (rec : Int32 → Int32 → Int64 → Int32 → kw_M → Option kw_M) (a1 : Int32) (a2 : Int32) (a3 : Int64) (a4 : Int32) (σ : kw_M) : Option (kw_M) :=
 (fX2_span a1 (σ.1 8 3) σ).bind fun r1 =>
 (fX9_joined a3 r1 σ).bind fun r2 =>
 (fX9_isLess r2 (σ.2 8 5) σ).bind fun r3 =>
 if r3 = (0 : Int32) then
 (some σ)
 else
 if a2 = (0 : Int32) then
 (kw_let (kw_sl σ 8 5 r2) fun s19 =>
 kw_let (kw_ri s19 45 (va_cpy (s19.1 46) (s19.1 45) 0 0 6)) fun s20 =>
 some s20)
 else
 if a4 < (6 : Int32) then
 ((kw_loop (fun s => bX5_dive_68 rec a1 a2 a3 a4 s.1 s.2) kw_F ((0 : Int32), σ)).bind fun x18 =>
 some x18)
 else
 some σ
def fRX5_dive : Nat → Int32 → Int32 → Int64 → Int32 → kw_M → Option kw_M
  | 0, _, _, _, _, _ => none
  | n + 1, a1, a2, a3, a4, σ => fFX5_dive (fRX5_dive n) a1 a2 a3 a4 σ
def fX5_dive (a1 : Int32) (a2 : Int32) (a3 : Int64) (a4 : Int32) (σ : kw_M) : Option kw_M := fRX5_dive 20 a1 a2 a3 a4 σ
def fX5_findRound (a1 : Int32) (a2 : Int32) (a3 : Int32) (σ : kw_M) : Option (Int64 × kw_M) :=
 kw_let (kw_si σ 8 3 a1) fun s1 =>
 kw_let (kw_si s1 8 4 a3) fun s2 =>
 kw_let (kw_sl s2 8 5 (-9000000000000000000 : Int64)) fun s3 =>
 (fX5_dive a1 a2 (0 : Int64) (0 : Int32) s3).bind fun r4 =>
 some ((r4.2 8 5), r4)
def fX9_round (a1 : Int32) (a2 : Int32) (σ : kw_M) : Option (Int64 × kw_M) :=
 (fX4_hasAll a1 σ).bind fun r1 =>
 if r1 = (0 : Int32) then
 (some ((-9000000000000000000 : Int64), σ))
 else
 if a2 < (0 : Int32) then
 (some ((-9000000000000000000 : Int64), σ))
 else
 if a2 ≤ (6 : Int32) then
 (kw_let (a1 &&& (((1 : Int32) <<< ((σ.1 1 2) &&& 31)) ^^^ (-1 : Int32))) fun x5 =>
 (fXJ6_bitCount_0f7a4 x5 σ).bind fun r6 =>
 if r6 ≤ (6 : Int32) then
 ((fX9_rightPairs σ).bind fun r8 =>
 (fX5_findRound (r8.1 1 2) x5 (r8.1 12 0) r8).bind fun r9 =>
 if a2 = (0 : Int32) then
 (some (r9.1, r9.2))
 else
 if r9.1 = (-9000000000000000000 : Int64) then
 (some (r9.1, r9.2))
 else
 (fXJ6_bitCount_0f7a4 x5 r9.2).bind fun r12 =>
 if r12 < a2 then
 (some ((-4 : Int64), r9.2))
 else
 kw_chk (kw_in (a2 - (1 : Int32)) 6) <|
 some ((r9.2.1 45 (a2 - (1 : Int32)).toNatClampNeg).toInt64, r9.2))
 else
 some ((-9000000000000000000 : Int64), σ))
 else
 some ((-9000000000000000000 : Int64), σ)
def fX9_watch (a1 : Int32) (a2 : Int32) (σ : kw_M) : Option (Int32 × kw_M) :=
 (fX9_watchTown a1 a2 σ).bind fun r1 =>
 some (r1.1, r1.2)
def fX9_forget (a1 : Int32) (σ : kw_M) : Option (Int32 × kw_M) :=
 (fX9_forgetTown a1 σ).bind fun r1 =>
 kw_chk (kw_isB r1.1) <| some (r1.1, r1.2)
def fX9_event (a1 : Int32) (a2 : Int32) (σ : kw_M) : Option (Int64) :=
 if a1 < (0 : Int32) then
 (some (-9000000000000000000 : Int64))
 else
 if (σ.1 13 0) ≤ a1 then
 (some (-9000000000000000000 : Int64))
 else
 if a2 < (0 : Int32) then
 (some (-9000000000000000000 : Int64))
 else
 if a2 < (4 : Int32) then
 (kw_chk (kw_in ((a1 * (4 : Int32)) + a2) 400) <|
 some (σ.2 21 ((a1 * (4 : Int32)) + a2).toNatClampNeg))
 else
 some (-9000000000000000000 : Int64)
def bX7_countOthers_4 (σ : kw_M) (v2 : Int32) (v3 : Int32) : Option ((Int32 × Int32) ⊕ (Int32)) :=
 if (σ.1 12 0) ≤ v3 then
 (some (.inr v2))
 else
 kw_chk (kw_in v3 12) <|
 if (σ.2 16 v3.toNatClampNeg) = (σ.2 11 v3.toNatClampNeg) then
 (kw_let (v3 + (1 : Int32)) fun x4 =>
 some (.inl (v2, x4)))
 else
 kw_let (v2 + (1 : Int32)) fun x5 =>
 kw_let (v3 + (1 : Int32)) fun x6 =>
 some (.inl (x5, x6))
def fX7_countOthers (σ : kw_M) : Option (Int32) :=
 (kw_loop (fun s => bX7_countOthers_4 σ s.1 s.2) kw_F ((0 : Int32), (0 : Int32))).bind fun x7 =>
 some x7
def fX9_ifLength (a1 : Int32) (a2 : Int32) (σ : kw_M) : Option (Int32 × kw_M) :=
 (fX4_hasRoad a1 σ).bind fun r1 =>
 if r1 = (0 : Int32) then
 (some ((-1 : Int32), σ))
 else
 (fX9_isLength a2 σ).bind fun r3 =>
 if r3 = (0 : Int32) then
 (some ((-1 : Int32), σ))
 else
 (fX4_isOpen 12 a1 σ).bind fun r5 =>
 if r5 = (0 : Int32) then
 (some ((-6 : Int32), σ))
 else
 kw_chk (kw_in a1 36) <|
 if (σ.1 20 a1.toNatClampNeg) = a2 then
 (some ((-2 : Int32), σ))
 else
 (fX4_copyFrom 10 12 σ).bind fun r9 =>
 kw_let (kw_si r9 34 a1.toNatClampNeg a2) fun s10 =>
 (fX9_judgeAside a1 (s10.1 1 2) s10).bind fun r11 =>
 if r11.1 = (0 : Int32) then
 ((fX7_countOthers r11.2).bind fun r13 =>
 some (r13, r11.2))
 else
 some (r11.1, r11.2)
def fX9_drawAfter (a0 : Int32) (σ : kw_M) : Option (Int32) :=
 some ((((25173 : Int32) * a0) + (13849 : Int32)) - (((25173 : Int32) * a0) + (13849 : Int32)) / (65536 : Int32) * (65536 : Int32))
def jX9_drawChange_67 (v1 : Int32) (v3 : Int64) (v5 : Int32) (σ : kw_M) : Option (kw_M) :=
 (fX9_judgeAside v1 (σ.1 1 2) σ).bind fun r8 =>
 if r8.1 = (0 : Int32) then
 (some r8.2)
 else
 kw_let (kw_sl r8.2 10 2 v3) fun s10 =>
 kw_chk (kw_in v1 36) <|
 kw_let (kw_si s10 34 v1.toNatClampNeg v5) fun s12 =>
 some s12
def fX9_drawChange (a1 : Int32) (a2 : Int32) (σ : kw_M) : Option (kw_M) :=
 kw_let (σ.2 10 2) fun x1 =>
 kw_chk (kw_in a1 36) <|
 kw_let (σ.1 34 a1.toNatClampNeg) fun x3 =>
 if (a2 - a2 / (8 : Int32) * (8 : Int32)) = (0 : Int32) then
 ((fX4_flip a1 σ).bind fun r13 =>
 jX9_drawChange_67 a1 x1 x3 r13)
 else
 kw_let (if ((x3 + (a2 - a2 / (41 : Int32) * (41 : Int32))) - (10 : Int32)) < (10000 : Int32) then ((x3 + (a2 - a2 / (41 : Int32) * (41 : Int32))) - (10 : Int32)) else (10000 : Int32)) fun x5 =>
 kw_let (if (-100 : Int32) < x5 then x5 else (-100 : Int32)) fun x6 =>
 kw_let (kw_si σ 34 a1.toNatClampNeg x6) fun s7 =>
 jX9_drawChange_67 a1 x1 x3 s7
def bX9_drawn_67 (v1 : Int32) (v2 : Int32) (v3 : Int32) (v4 : Int32) (σ : kw_M) : Option ((Int32 × Int32 × kw_M) ⊕ (kw_M)) :=
 if v1 ≤ v4 then
 (some (.inr σ))
 else
 (fX9_drawAfter v3 σ).bind fun r9 =>
 kw_chk (¬ (σ.1 12 1) = 0) <|
 kw_let (r9 - r9 / (σ.1 12 1) * (σ.1 12 1)) fun x11 =>
 (fX9_drawAfter r9 σ).bind fun r12 =>
 (fX9_drawChange x11 r12 σ).bind fun r13 =>
 kw_let (v4 + (1 : Int32)) fun x14 =>
 some (.inl (r12, x14, r13))
def fX9_drawn (a1 : Int32) (a2 : Int32) (σ : kw_M) : Option (Int64 × kw_M) :=
 if a1 < (1 : Int32) then
 (some ((-9000000000000000000 : Int64), σ))
 else
 if (60 : Int32) < a1 then
 (some ((-9000000000000000000 : Int64), σ))
 else
 (fX4_hasTown a2 σ).bind fun r3 =>
 if r3 = (0 : Int32) then
 (some ((-9000000000000000000 : Int64), σ))
 else
 if (0 : Int32) < (σ.1 12 1) then
 ((fX4_copyFrom 10 12 σ).bind fun r6 =>
 kw_let (r6.1 1 4) fun x7 =>
 (kw_loop (fun s => bX9_drawn_67 a1 a2 s.1 s.2.1 s.2.2) kw_F (x7, (0 : Int32), r6)).bind fun x15 =>
 (fX4_settle 10 11 (x15.1 1 2) (-1 : Int32) x15).bind fun r16 =>
 kw_chk (kw_in a2 12) <|
 some ((r16.2 11 a2.toNatClampNeg), r16))
 else
 some ((-9000000000000000000 : Int64), σ)
def fX9_seed (a1 : Int32) (σ : kw_M) : Option (Int32 × kw_M) :=
 if a1 < (0 : Int32) then
 (some ((0 : Int32), σ))
 else
 if a1 < (65536 : Int32) then
 (kw_let (kw_si σ 1 4 a1) fun s3 =>
 some ((1 : Int32), s3))
 else
 some ((0 : Int32), σ)
def fX0_copyFrom (c0 : Nat) (c1 : Nat) (σ : kw_M) : Option (kw_M) :=
 kw_let (kw_si σ c0 0 (σ.1 c1 0)) fun s1 =>
 kw_chk (¬ ((s1.1 c0 0) * (4 : Int32)) < 0) <|
 kw_chk ((0 : Int32).toNatClampNeg + ((s1.1 c0 0) * (4 : Int32)).toNatClampNeg ≤ 400) <|
 kw_chk ((0 : Int32).toNatClampNeg + ((s1.1 c0 0) * (4 : Int32)).toNatClampNeg ≤ 400) <|
 kw_let (kw_rl s1 (kx_rf c0 1) (va_cpy (s1.2 (kx_rf c1 1)) (s1.2 (kx_rf c0 1)) 0 0 ((s1.1 c0 0) * (4 : Int32)).toNatClampNeg)) fun s5 =>
 some s5
def fX7_copyFrom (c0 : Nat) (c1 : Nat) (σ : kw_M) : Option (kw_M) :=
 (fX4_copyFrom (kx_rf c0 0) (kx_rf c1 0) σ).bind fun r1 =>
 (fX0_copyFrom (kx_rf c0 1) (kx_rf c1 1) r1).bind fun r2 =>
 kw_let (kw_si r2 c0 2 (r2.1 c1 2)) fun s3 =>
 kw_let (kw_si s3 c0 3 (s3.1 c1 3)) fun s4 =>
 kw_let (kw_si s4 c0 4 (s4.1 c1 4)) fun s5 =>
 kw_let (kw_si s5 c0 5 (s5.1 c1 5)) fun s6 =>
 kw_let (kw_si s6 c0 7 (s6.1 c1 7)) fun s7 =>
 kw_let (kw_ri s7 (kx_rf c0 6) (va_cpy (s7.1 (kx_rf c1 6)) (s7.1 (kx_rf c0 6)) 0 0 12)) fun s8 =>
 kw_let (kw_ri s8 (kx_rf c0 8) (va_cpy (s8.1 (kx_rf c1 8)) (s8.1 (kx_rf c0 8)) 0 0 12)) fun s9 =>
 kw_let (kw_rl s9 (kx_rf c0 9) (va_cpy (s9.2 (kx_rf c1 9)) (s9.2 (kx_rf c0 9)) 0 0 12)) fun s10 =>
 kw_let (kw_ri s10 (kx_rf c0 10) (va_cpy (s10.1 (kx_rf c1 10)) (s10.1 (kx_rf c0 10)) 0 0 12)) fun s11 =>
 some s11
def fX9_keep (σ : kw_M) : Option (Int32 × kw_M) :=
 (fX7_copyFrom 2 1 σ).bind fun r1 =>
 kw_let (kw_si r1 0 2 (1 : Int32)) fun s2 =>
 some ((s2.1 1 3), s2)
def fX9_undo (σ : kw_M) : Option (Int32 × kw_M) :=
 if (σ.1 0 2) = (0 : Int32) then
 (some ((0 : Int32), σ))
 else
 (fX7_copyFrom 1 2 σ).bind fun r2 =>
 kw_let (kw_si r2 5 0 (0 : Int32)) fun s3 =>
 some ((1 : Int32), s3)
def jX9_isParentByte_45 (t0 : Int32) (t1 : Int32) (σ : kw_M) : Option (Int32) :=
 if t1 = t0 then
 (some (1 : Int32))
 else
 some (0 : Int32)
def fX9_isParentByte (a1 : Int32) (a2 : Int32) (σ : kw_M) : Option (Int32) :=
 (fX4_hasTown a1 σ).bind fun r1 =>
 if r1 = (0 : Int32) then
 (some (0 : Int32))
 else
 kw_chk (kw_in a1 12) <|
 if (σ.1 17 a1.toNatClampNeg) = (-1 : Int32) then
 (jX9_isParentByte_45 (255 : Int32) a2 σ)
 else
 jX9_isParentByte_45 (σ.1 17 a1.toNatClampNeg) a2 σ
def bX9_check_19 (v1 : Int32) (σ : kw_M) (v2 : Int32) : Option ((Int32) ⊕ (Int32)) :=
 if v1 ≤ v2 then
 (some (.inr v2))
 else
 kw_chk (kw_in v2 240) <|
 (fX9_isParentByte v2 (σ.1 35 v2.toNatClampNeg) σ).bind fun r5 =>
 if r5 = (0 : Int32) then
 (some (.inr v2))
 else
 kw_let (v2 + (1 : Int32)) fun x7 =>
 some (.inl x7)
def jX9_check_47 (v1 : Int32) (v2 : Int32) (σ : kw_M) : Option (Int32 × kw_M) :=
 kw_let (kw_si σ 3 0 (0 : Int32)) fun s9 =>
 if v2 = v1 then
 (some ((-1 : Int32), s9))
 else
 some (v2, s9)
def fX9_check (a1 : Int32) (σ : kw_M) : Option (Int32 × kw_M) :=
 (fX8_canGive a1 (0 : Int32) (12 : Int32) σ).bind fun r1 =>
 if r1 = (0 : Int32) then
 (some ((-2 : Int32), σ))
 else
 (kw_loop (fun s => bX9_check_19 a1 σ s) kw_F (0 : Int32)).bind fun x8 =>
 jX9_check_47 a1 x8 σ
