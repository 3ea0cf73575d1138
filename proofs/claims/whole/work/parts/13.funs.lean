/-! ===== what each method does, printed off its code: over the memory alone ===== -/
def f_J_fill_5 (x0 : Nat) (nx0 : Nat) (x1 : Int32)  : Nat → Int32 → Int32 → mM → Option (mM)
  | 0, _, _, _ => none
  | n + 1, l2, l3, M => (if l3 ≤ l2 then
  some M
else
  (wr M x0 nx0 l2 x1).bind fun M2 =>
  f_J_fill_5 x0 nx0 x1  n (l2 + 1) l3 M2)
def f_J_fill (x0 : Nat) (nx0 : Nat) (x1 : Int32) (M : mM) : Option (mM) := f_J_fill_5 x0 nx0 x1  FUEL 0 (Int32.ofNat nx0) M
def f_Text_addNumber_49 (x1 : Int32) (k3 : Int32 → mM → Option (mM)) (l2 : Int32) (M : mM) : Option (mM) := k3 (l2 + (-8)) M
def f_Text_addNumber_3 (x1 : Int32)  : Nat → Int32 → mM → Option (mM)
  | 0, _, _ => none
  | n + 1, l2, M => (if l2 < 0 then
  some M
else
  (if (M.2.1 1 1) < 0 then
  f_Text_addNumber_49 x1 (f_Text_addNumber_3 x1  n) l2 M
else
  (if 400 ≤ (M.2.1 1 1) then
  f_Text_addNumber_49 x1 (f_Text_addNumber_3 x1  n) l2 M
else
  (wrB M 2 400 (M.2.1 1 1) (Int8.toInt32 (Int32.toInt8 (x1 >>> (l2 &&& 31))))).bind fun M4 =>
  (pI M4 1 1 ((M4.2.1 1 1) + 1)).bind fun M5 =>
  f_Text_addNumber_49 x1 (f_Text_addNumber_3 x1  n) l2 M5)))
def f_Text_addNumber (x1 : Int32) (M : mM) : Option (mM) := f_Text_addNumber_3 x1  FUEL 24 M
def f_GraveRails_feed (x1 : Int32) (x2 : Int32) (x3 : Int32) (x4 : Int32) (x5 : Int32) (M : mM) : Option (Int32 × mM) := (if (M.2.1 1 1) ≤ 380 then
  (f_Text_addNumber x1 M).bind fun M2 =>
  (f_Text_addNumber x2 M2).bind fun M3 =>
  (f_Text_addNumber x3 M3).bind fun M4 =>
  (f_Text_addNumber x4 M4).bind fun M5 =>
  (f_Text_addNumber x5 M5).bind fun M6 =>
  some ((M6.2.1 1 1), M6)
else
  some ((-1), M))
def f_GraveRails_end (x1 : Int32) (M : mM) : Option (Int32 × mM) := (if x1 < 0 then
  some ((-1), M)
else
  (if x1 ≤ (M.2.1 1 1) then
  (pI M 1 1 x1).bind fun M3 =>
  some (x1, M3)
else
  some ((-1), M)))
def f_Yard_clear (S : Nat) (M : mM) : Option (mM) := (pI M S 0 0).bind fun M1 =>
  (pI M1 S 1 0).bind fun M2 =>
  (pI M2 S 2 0).bind fun M3 =>
  (pI M3 S 8 0).bind fun M4 =>
  (pI M4 S 10 0).bind fun M5 =>
  (f_J_fill (S + 4) 11 (-1) M5).bind fun M6 =>
  (f_J_fill (S + 5) 11 0 M6).bind fun M7 =>
  (f_J_fill (S + 6) 80 0 M7).bind fun M8 =>
  some M8
def f_Text_passNumber_117  (k10 : mM → Option (mM)) (s1 : Int32) (M : mM) : Option (mM) := (pI M 1 5 s1).bind fun M11 =>
  (pI M11 1 3 ((M11.2.1 1 3) + 1)).bind fun M12 =>
  k10  M12
def f_Text_passNumber_87  (k10 : mM → Option (mM)) (s0 : Int32) (M : mM) : Option (mM) := (if s0 = 0 then
  f_Text_passNumber_117  k10 (-1) M
else
  (rd M 2 400 (M.2.1 1 3)).bind fun v13 =>
  f_Text_passNumber_117  k10 ((((M.2.1 1 5) * 10) + v13) - 48) M)
def f_Text_passNumber_86  (k10 : mM → Option (mM))  (M : mM) : Option (mM) := f_Text_passNumber_87  k10 0 M
def f_Text_passNumber_10   : Nat → mM → Option (mM)
  | 0, _ => none
  | n + 1, M => (if (M.2.1 1 1) ≤ (M.2.1 1 3) then
  some M
else
  (if 400 ≤ (M.2.1 1 3) then
  some M
else
  (rd M 2 400 (M.2.1 1 3)).bind fun v5 =>
  (if v5 < 48 then
  some M
else
  (rd M 2 400 (M.2.1 1 3)).bind fun v7 =>
  (if 57 < v7 then
  some M
else
  (if 5 ≤ ((M.2.1 1 3) - (M.2.1 1 2)) then
  f_Text_passNumber_86  (f_Text_passNumber_10   n)  M
else
  (if (M.2.1 1 5) = (-1) then
  f_Text_passNumber_86  (f_Text_passNumber_10   n)  M
else
  f_Text_passNumber_87  (f_Text_passNumber_10   n) 1 M))))))
def f_Text_passNumber  (M : mM) : Option (mM) := (pI M 1 4 1).bind fun M1 =>
  (pI M1 1 5 0).bind fun M2 =>
  f_Text_passNumber_10   FUEL  M2
def f_Text_passWord_5   : Nat → mM → Option (mM)
  | 0, _ => none
  | n + 1, M => (if (M.2.1 1 1) ≤ (M.2.1 1 3) then
  some M
else
  (if 400 ≤ (M.2.1 1 3) then
  some M
else
  (rd M 2 400 (M.2.1 1 3)).bind fun v4 =>
  (if v4 < 97 then
  some M
else
  (rd M 2 400 (M.2.1 1 3)).bind fun v6 =>
  (if 122 < v6 then
  some M
else
  (pI M 1 3 ((M.2.1 1 3) + 1)).bind fun M8 =>
  f_Text_passWord_5   n  M8))))
def f_Text_passWord  (M : mM) : Option (mM) := (pI M 1 4 2).bind fun M1 =>
  f_Text_passWord_5   FUEL  M1
def f_Text_passSign_37 (x1 : Int32)  (s0 : Int32) (M : mM) : Option (mM) := (if s0 = 0 then
  some M
else
  (if (M.2.1 1 1) ≤ (M.2.1 1 3) then
  some M
else
  (if 400 ≤ (M.2.1 1 3) then
  some M
else
  (rd M 2 400 (M.2.1 1 3)).bind fun v8 =>
  (if v8 = 61 then
  (pI M 1 5 (x1 + 256)).bind fun M10 =>
  (pI M10 1 3 ((M10.2.1 1 3) + 1)).bind fun M11 =>
  some M11
else
  some M))))
def f_Text_passSign_32 (x1 : Int32)   (M : mM) : Option (mM) := f_Text_passSign_37 x1  1 M
def f_Text_passSign (x1 : Int32) (M : mM) : Option (mM) := (pI M 1 4 3).bind fun M1 =>
  (pI M1 1 5 x1).bind fun M2 =>
  (pI M2 1 3 ((M2.2.1 1 2) + 1)).bind fun M3 =>
  (if x1 = 60 then
  f_Text_passSign_32 x1   M3
else
  (if x1 = 62 then
  f_Text_passSign_32 x1   M3
else
  f_Text_passSign_37 x1  0 M3))
def f_Text_advance_102    (M : mM) : Option (mM) := (pI M 1 4 0).bind fun M6 =>
  some M6
def f_Text_advance_156   (l1 : Int32) (M : mM) : Option (mM) := (f_Text_passSign l1 M).bind fun M11 =>
  some M11
def f_Text_advance_137   (l1 : Int32) (M : mM) : Option (mM) := (if l1 < 97 then
  f_Text_advance_156   l1 M
else
  (if 122 < l1 then
  f_Text_advance_156   l1 M
else
  (f_Text_passWord  M).bind fun M13 =>
  some M13))
def f_Text_advance_71    (M : mM) : Option (mM) := (pI M 1 3 (M.2.1 1 2)).bind fun M4 =>
  (if (M4.2.1 1 1) ≤ (M4.2.1 1 2) then
  f_Text_advance_102    M4
else
  (if (M4.2.1 1 2) < 400 then
  (rd M4 2 400 (M4.2.1 1 2)).bind fun v8 =>
  (if v8 < 48 then
  f_Text_advance_137   v8 M4
else
  (if 57 < v8 then
  f_Text_advance_137   v8 M4
else
  (f_Text_passNumber  M4).bind fun M15 =>
  some M15))
else
  f_Text_advance_102    M4))
def f_Text_advance_21   : Nat → mM → Option (mM)
  | 0, _ => none
  | n + 1, M => (if (M.2.1 1 1) ≤ (M.2.1 1 2) then
  f_Text_advance_71    M
else
  (if 400 ≤ (M.2.1 1 2) then
  f_Text_advance_71    M
else
  (rd M 2 400 (M.2.1 1 2)).bind fun v17 =>
  (if v17 = 32 then
  (pI M 1 2 ((M.2.1 1 2) + 1)).bind fun M19 =>
  f_Text_advance_21   n  M19
else
  f_Text_advance_71    M)))
def f_Text_advance  (M : mM) : Option (mM) := (if (M.2.1 1 4) = 4 then
  some M
else
  (pI M 1 2 (if 0 < (M.2.1 1 3) then (M.2.1 1 3) else 0)).bind fun M2 =>
  f_Text_advance_21   FUEL  M2)
def f_Text_rewind  (M : mM) : Option (mM) := (pI M 1 3 0).bind fun M1 =>
  (pI M1 1 6 0).bind fun M2 =>
  (pI M2 1 4 0).bind fun M3 =>
  (f_Text_advance  M3).bind fun M4 =>
  some M4
def f_Text_wordAmong_132 (x1 : Nat) (k23 : Int32 → Int32 → Int32 → Int32 → mM → Option (Int32 × mM)) (l2 : Int32) (l3 : Int32) (l4 : Int32) (l5 : Int32) (M : mM) : Option (Int32 × mM) := k23 l2 l3 l4 (l5 + 1) M
def f_Text_wordAmong_67 (x1 : Nat) (k23 : Int32 → Int32 → Int32 → Int32 → mM → Option (Int32 × mM)) (l2 : Int32) (l5 : Int32) (M : mM) : Option (Int32 × mM) := f_Text_wordAmong_132 x1 k23 (l2 + 1) (M.2.1 1 2) 1 l5 M
def f_Text_wordAmong_52 (x1 : Nat) (k23 : Int32 → Int32 → Int32 → Int32 → mM → Option (Int32 × mM)) (l2 : Int32) (l3 : Int32) (l4 : Int32) (l5 : Int32) (M : mM) : Option (Int32 × mM) := (if l4 = 0 then
  f_Text_wordAmong_67 x1 k23 l2 l5 M
else
  (if l3 = (M.2.1 1 3) then
  some (l2, M)
else
  f_Text_wordAmong_67 x1 k23 l2 l5 M))
def f_Text_wordAmong_127 (x1 : Nat) (k23 : Int32 → Int32 → Int32 → Int32 → mM → Option (Int32 × mM)) (l2 : Int32) (l3 : Int32) (l5 : Int32) (s0 : Int32) (M : mM) : Option (Int32 × mM) := f_Text_wordAmong_132 x1 k23 l2 (l3 + 1) s0 l5 M
def f_Text_wordAmong_126 (x1 : Nat) (k23 : Int32 → Int32 → Int32 → Int32 → mM → Option (Int32 × mM)) (l2 : Int32) (l3 : Int32) (l5 : Int32) (M : mM) : Option (Int32 × mM) := f_Text_wordAmong_127 x1 k23 l2 l3 l5 0 M
def f_Text_wordAmong_23 (x1 : Nat)  : Nat → Int32 → Int32 → Int32 → Int32 → mM → Option (Int32 × mM)
  | 0, _, _, _, _, _ => none
  | n + 1, l2, l3, l4, l5, M => (if (f_len x1) < l5 then
  some ((-1), M)
else
  (if l5 = (f_len x1) then
  f_Text_wordAmong_52 x1 (f_Text_wordAmong_23 x1  n) l2 l3 l4 l5 M
else
  (f_cha x1 l5).bind fun v6 =>
  (if v6 = 32 then
  f_Text_wordAmong_52 x1 (f_Text_wordAmong_23 x1  n) l2 l3 l4 l5 M
else
  (if l4 = 0 then
  f_Text_wordAmong_126 x1 (f_Text_wordAmong_23 x1  n) l2 l3 l5 M
else
  (if l3 < 0 then
  f_Text_wordAmong_126 x1 (f_Text_wordAmong_23 x1  n) l2 l3 l5 M
else
  (if (M.2.1 1 3) ≤ l3 then
  f_Text_wordAmong_126 x1 (f_Text_wordAmong_23 x1  n) l2 l3 l5 M
else
  (if 400 ≤ l3 then
  f_Text_wordAmong_126 x1 (f_Text_wordAmong_23 x1  n) l2 l3 l5 M
else
  (rd M 2 400 l3).bind fun v12 =>
  (f_cha x1 l5).bind fun v13 =>
  (if v12 = v13 then
  f_Text_wordAmong_127 x1 (f_Text_wordAmong_23 x1  n) l2 l3 l5 1 M
else
  f_Text_wordAmong_126 x1 (f_Text_wordAmong_23 x1  n) l2 l3 l5 M))))))))
def f_Text_wordAmong (x1 : Nat) (M : mM) : Option (Int32 × mM) := (if (M.2.1 1 4) = 2 then
  f_Text_wordAmong_23 x1  FUEL 0 (M.2.1 1 2) 1 0 M
else
  some ((-1), M))
def f_Text_refuse_22 (x1 : Int32)   (M : mM) : Option (mM) := (pI M 1 4 4).bind fun M2 =>
  some M2
def f_Text_refuse (x1 : Int32) (M : mM) : Option (mM) := (if (M.2.1 1 6) = 0 then
  (pI M 1 6 ((1 + (8 * (M.2.1 1 2))) + x1)).bind fun M3 =>
  f_Text_refuse_22 x1   M3
else
  f_Text_refuse_22 x1   M)
def f_YardReader_isFull (x1 : Int32) (M : mM) : Option (Int32 × mM) := (if x1 = 1 then
  (if (M.2.1 4 2) < 10 then
  some (0, M)
else
  some (1, M))
else if x1 = 2 then
  some (0, M)
else if x1 = 3 then
  (if (M.2.1 4 8) < 6 then
  some (0, M)
else
  some (1, M))
else if x1 = 4 then
  some (0, M)
else if x1 = 5 then
  (if (M.2.1 4 10) < 6 then
  some (0, M)
else
  some (1, M))
else some (0, M))
def f_Text_numberFrom_39 (x1 : Int32) (x2 : Int32)   (M : mM) : Option (Int32 × mM) := (f_Text_refuse 1 M).bind fun M3 =>
  some ((-1), M3)
def f_Text_numberFrom (x1 : Int32) (x2 : Int32) (M : mM) : Option (Int32 × mM) := (if (M.2.1 1 4) = 1 then
  (if (M.2.1 1 5) = (-1) then
  f_Text_numberFrom_39 x1 x2   M
else
  (if (M.2.1 1 5) < x1 then
  f_Text_numberFrom_39 x1 x2   M
else
  (if (M.2.1 1 5) ≤ x2 then
  some ((M.2.1 1 5), M)
else
  f_Text_numberFrom_39 x1 x2   M)))
else
  (f_Text_refuse 0 M).bind fun M6 =>
  some ((-1), M6))
def f_YardReader_readSize  (M : mM) : Option (mM) := (f_Text_numberFrom 1 4 M).bind fun r1 =>
  (f_Text_advance  r1.2).bind fun M2 =>
  (f_Text_numberFrom 2 20 M2).bind fun r3 =>
  (f_Text_advance  r3.2).bind fun M4 =>
  (if (M4.2.1 1 6) = 0 then
  (pI M4 4 0 r1.1).bind fun M6 =>
  (pI M6 4 1 r3.1).bind fun M7 =>
  some M7
else
  some M4)
def f_Yard_isTaken_38 (S : Nat) (x1 : Int32) (x2 : Int32) (k2 : Int32 → mM → Option (Int32 × mM)) (l3 : Int32) (M : mM) : Option (Int32 × mM) := k2 (l3 + 1) M
def f_Yard_isTaken_2 (S : Nat) (x1 : Int32) (x2 : Int32)  : Nat → Int32 → mM → Option (Int32 × mM)
  | 0, _, _ => none
  | n + 1, l3, M => (if (M.2.1 S 2) ≤ l3 then
  some (0, M)
else
  (if 11 ≤ l3 then
  some (0, M)
else
  (rd M (S + 1) 11 l3).bind fun v3 =>
  (if v3 = x1 then
  (rd M (S + 2) 11 l3).bind fun v5 =>
  (if v5 = x2 then
  some (1, M)
else
  f_Yard_isTaken_38 S x1 x2 (f_Yard_isTaken_2 S x1 x2  n) l3 M)
else
  f_Yard_isTaken_38 S x1 x2 (f_Yard_isTaken_2 S x1 x2  n) l3 M)))
def f_Yard_isTaken (S : Nat) (x1 : Int32) (x2 : Int32) (M : mM) : Option (Int32 × mM) := f_Yard_isTaken_2 S x1 x2  FUEL 0 M
def f_Yard_addGrave (S : Nat) (x1 : Int32) (x2 : Int32) (x3 : Int32) (M : mM) : Option (mM) := (if (M.2.1 S 2) < 0 then
  some M
else
  (if 10 ≤ (M.2.1 S 2) then
  some M
else
  (wr M (S + 1) 11 (M.2.1 S 2) x1).bind fun M3 =>
  (wr M3 (S + 2) 11 (M3.2.1 S 2) x2).bind fun M4 =>
  (wr M4 (S + 3) 11 (M4.2.1 S 2) x3).bind fun M5 =>
  (pI M5 S 2 ((M5.2.1 S 2) + 1)).bind fun M6 =>
  some M6))
def f_YardReader_readGrave_103   (l1 : Int32) (l2 : Int32) (l3 : Int32) (M : mM) : Option (mM) := (f_Text_advance  M).bind fun M8 =>
  (if (M8.2.1 1 6) = 0 then
  (f_Yard_addGrave 4 l1 l2 l3 M8).bind fun M10 =>
  some M10
else
  some M8)
def f_YardReader_readGrave_73   (l1 : Int32) (l2 : Int32) (M : mM) : Option (mM) := (f_Text_advance  M).bind fun M5 =>
  (f_Text_wordAmong 1 M5).bind fun r6 =>
  (if r6.1 = (-1) then
  (f_Text_refuse 0 r6.2).bind fun M11 =>
  f_YardReader_readGrave_103   l1 l2 r6.1 M11
else
  f_YardReader_readGrave_103   l1 l2 r6.1 r6.2)
def f_YardReader_readGrave  (M : mM) : Option (mM) := (f_Text_numberFrom 0 ((M.2.1 4 0) - 1) M).bind fun r1 =>
  (f_Text_advance  r1.2).bind fun M2 =>
  (f_Text_numberFrom 0 ((M2.2.1 4 1) - 1) M2).bind fun r3 =>
  (if (r3.2.2.1 1 6) = 0 then
  (f_Yard_isTaken 4 r1.1 r3.1 r3.2).bind fun r12 =>
  (if r12.1 = 0 then
  f_YardReader_readGrave_73   r1.1 r3.1 r12.2
else
  (f_Text_refuse 1 r12.2).bind fun M14 =>
  f_YardReader_readGrave_73   r1.1 r3.1 M14)
else
  f_YardReader_readGrave_73   r1.1 r3.1 r3.2)
def f_Yard_pairOf (S : Nat) (x1 : Int32) (M : mM) : Option (Int32 × mM) := (if x1 < 0 then
  some ((-1), M)
else
  (if 11 ≤ x1 then
  some ((-1), M)
else
  (rd M (S + 4) 11 x1).bind fun v3 =>
  some (v3, M)))
def f_YardReader_readUnpaired_53 (x1 : Int32)  (l2 : Int32) (M : mM) : Option (Int32 × mM) := (f_Text_advance  M).bind fun M3 =>
  some (l2, M3)
def f_YardReader_readUnpaired_45 (x1 : Int32)  (l2 : Int32) (M : mM) : Option (Int32 × mM) := (f_Text_refuse 1 M).bind fun M5 =>
  f_YardReader_readUnpaired_53 x1  l2 M5
def f_YardReader_readUnpaired (x1 : Int32) (M : mM) : Option (Int32 × mM) := (f_Text_numberFrom 0 ((M.2.1 4 2) - 1) M).bind fun r1 =>
  (if (r1.2.2.1 1 6) = 0 then
  (if r1.1 = x1 then
  f_YardReader_readUnpaired_45 x1  r1.1 r1.2
else
  (f_Yard_pairOf 4 r1.1 r1.2).bind fun r6 =>
  (if r6.1 = (-1) then
  f_YardReader_readUnpaired_53 x1  r1.1 r6.2
else
  f_YardReader_readUnpaired_45 x1  r1.1 r6.2))
else
  f_YardReader_readUnpaired_53 x1  r1.1 r1.2)
def f_Yard_addPair (S : Nat) (x1 : Int32) (x2 : Int32) (M : mM) : Option (mM) := (if x1 < 0 then
  some M
else
  (if 11 ≤ x1 then
  some M
else
  (if x2 < 0 then
  some M
else
  (if 11 ≤ x2 then
  some M
else
  (wr M (S + 4) 11 x1 x2).bind fun M5 =>
  (wr M5 (S + 4) 11 x2 x1).bind fun M6 =>
  some M6))))
def f_YardReader_readPair  (M : mM) : Option (mM) := (f_YardReader_readUnpaired (-1) M).bind fun r1 =>
  (f_YardReader_readUnpaired r1.1 r1.2).bind fun r2 =>
  (if (r2.2.2.1 1 6) = 0 then
  (f_Yard_addPair 4 r1.1 r2.1 r2.2).bind fun M4 =>
  some M4
else
  some r2.2)
def f_Yard_rootAt_24 (S : Nat) (x1 : Int32) (x2 : Int32)  (s0 : Int32) (M : mM) : Option (Int32 × mM) := (if s0 = 0 then
  some (0, M)
else
  (rd M (S + 6) 80 ((x1 * 20) + x2)).bind fun v3 =>
  some (v3, M))
def f_Yard_rootAt_23 (S : Nat) (x1 : Int32) (x2 : Int32)   (M : mM) : Option (Int32 × mM) := f_Yard_rootAt_24 S x1 x2  0 M
def f_Yard_rootAt (S : Nat) (x1 : Int32) (x2 : Int32) (M : mM) : Option (Int32 × mM) := (if x1 < 0 then
  f_Yard_rootAt_23 S x1 x2   M
else
  (if 4 ≤ x1 then
  f_Yard_rootAt_23 S x1 x2   M
else
  (if x2 < 0 then
  f_Yard_rootAt_23 S x1 x2   M
else
  (if 20 ≤ x2 then
  f_Yard_rootAt_23 S x1 x2   M
else
  f_Yard_rootAt_24 S x1 x2  1 M))))
def f_Yard_hasPlace (S : Nat) (x1 : Int32) (x2 : Int32) (M : mM) : Option (Int32 × mM) := (if x1 < 0 then
  some (0, M)
else
  (if (M.2.1 S 0) ≤ x1 then
  some (0, M)
else
  (if 4 ≤ x1 then
  some (0, M)
else
  (if x2 < 0 then
  some (0, M)
else
  (if (M.2.1 S 1) ≤ x2 then
  some (0, M)
else
  (if 20 ≤ x2 then
  some (0, M)
else
  some (1, M)))))))
def f_Yard_addRoot (S : Nat) (x1 : Int32) (x2 : Int32) (x3 : Int32) (M : mM) : Option (mM) := (f_Yard_hasPlace S x1 x2 M).bind fun r1 =>
  (if r1.1 = 0 then
  some r1.2
else
  (wr r1.2 (S + 6) 80 ((x1 * 20) + x2) x3).bind fun M3 =>
  (pI M3 S 8 ((M3.2.1 S 8) + 1)).bind fun M4 =>
  some M4)
def f_YardReader_readRoot_73   (l1 : Int32) (l2 : Int32) (M : mM) : Option (mM) := (f_Text_advance  M).bind fun M5 =>
  (f_Text_numberFrom 1 9 M5).bind fun r6 =>
  (f_Text_advance  r6.2).bind fun M7 =>
  (if (M7.2.1 1 6) = 0 then
  (f_Yard_addRoot 4 l1 l2 r6.1 M7).bind fun M9 =>
  some M9
else
  some M7)
def f_YardReader_readRoot  (M : mM) : Option (mM) := (f_Text_numberFrom 0 ((M.2.1 4 0) - 1) M).bind fun r1 =>
  (f_Text_advance  r1.2).bind fun M2 =>
  (f_Text_numberFrom 0 ((M2.2.1 4 1) - 1) M2).bind fun r3 =>
  (if (r3.2.2.1 1 6) = 0 then
  (f_Yard_rootAt 4 r1.1 r3.1 r3.2).bind fun r10 =>
  (if r10.1 = 0 then
  f_YardReader_readRoot_73   r1.1 r3.1 r10.2
else
  (f_Text_refuse 1 r10.2).bind fun M12 =>
  f_YardReader_readRoot_73   r1.1 r3.1 M12)
else
  f_YardReader_readRoot_73   r1.1 r3.1 r3.2)
def f_Yard_makeHeavy (S : Nat) (x1 : Int32) (M : mM) : Option (mM) := (if x1 < 0 then
  some M
else
  (if 11 ≤ x1 then
  some M
else
  (wr M (S + 5) 11 x1 1).bind fun M3 =>
  some M3))
def f_YardReader_readHeavy  (M : mM) : Option (mM) := (f_Text_numberFrom 0 ((M.2.1 4 2) - 1) M).bind fun r1 =>
  (f_Text_advance  r1.2).bind fun M2 =>
  (if (M2.2.1 1 6) = 0 then
  (f_Yard_makeHeavy 4 r1.1 M2).bind fun M4 =>
  some M4
else
  some M2)
def f_Yard_isFlood_2 (S : Nat) (x1 : Int32)  : Nat → Int32 → mM → Option (Int32 × mM)
  | 0, _, _ => none
  | n + 1, l2, M => (if (M.2.1 S 10) ≤ l2 then
  some (0, M)
else
  (if 6 ≤ l2 then
  some (0, M)
else
  (rd M (S + 7) 6 l2).bind fun v3 =>
  (if v3 = x1 then
  some (1, M)
else
  f_Yard_isFlood_2 S x1  n (l2 + 1) M)))
def f_Yard_isFlood (S : Nat) (x1 : Int32) (M : mM) : Option (Int32 × mM) := f_Yard_isFlood_2 S x1  FUEL 0 M
def f_Yard_addFlood (S : Nat) (x1 : Int32) (M : mM) : Option (mM) := (if (M.2.1 S 10) < 0 then
  some M
else
  (if 6 ≤ (M.2.1 S 10) then
  some M
else
  (wr M (S + 7) 6 (M.2.1 S 10) x1).bind fun M3 =>
  (pI M3 S 10 ((M3.2.1 S 10) + 1)).bind fun M4 =>
  some M4))
def f_YardReader_readFlood_40   (l1 : Int32) (M : mM) : Option (mM) := (f_Text_advance  M).bind fun M3 =>
  (if (M3.2.1 1 6) = 0 then
  (f_Yard_addFlood 4 l1 M3).bind fun M5 =>
  some M5
else
  some M3)
def f_YardReader_readFlood  (M : mM) : Option (mM) := (f_Text_numberFrom 0 99 M).bind fun r1 =>
  (if (r1.2.2.1 1 6) = 0 then
  (f_Yard_isFlood 4 r1.1 r1.2).bind fun r6 =>
  (if r6.1 = 0 then
  f_YardReader_readFlood_40   r1.1 r6.2
else
  (f_Text_refuse 1 r6.2).bind fun M8 =>
  f_YardReader_readFlood_40   r1.1 M8)
else
  f_YardReader_readFlood_40   r1.1 r1.2)
def f_YardReader_readClause_69 (x1 : Int32)   (M : mM) : Option (mM) := (f_Text_refuse 4 M).bind fun M7 =>
  some M7
def f_YardReader_readClause_50 (x1 : Int32)  (l2 : Int32) (s0 : Int32) (M : mM) : Option (mM) := (if 40 ≤ x1 then
  f_YardReader_readClause_69 x1   M
else
  (if s0 = 0 then
  (f_YardReader_isFull l2 M).bind fun r9 =>
  (if r9.1 = 0 then
  (f_Text_advance  r9.2).bind fun M11 =>
  (if l2 = 0 then
  (f_YardReader_readSize  M11).bind fun M12 =>
  some M12
else if l2 = 1 then
  (f_YardReader_readGrave  M11).bind fun M14 =>
  some M14
else if l2 = 2 then
  (f_YardReader_readPair  M11).bind fun M16 =>
  some M16
else if l2 = 3 then
  (f_YardReader_readRoot  M11).bind fun M18 =>
  some M18
else if l2 = 4 then
  (f_YardReader_readHeavy  M11).bind fun M20 =>
  some M20
else (f_YardReader_readFlood  M11).bind fun M22 =>
  some M22)
else
  f_YardReader_readClause_69 x1   r9.2)
else
  f_YardReader_readClause_69 x1   M))
def f_YardReader_readClause_42 (x1 : Int32)  (l2 : Int32) (s0 : Int32) (s1 : Int32) (M : mM) : Option (mM) := (if s0 = s1 then
  f_YardReader_readClause_50 x1  l2 0 M
else
  f_YardReader_readClause_50 x1  l2 1 M)
def f_YardReader_readClause_33 (x1 : Int32)  (l2 : Int32) (s0 : Int32) (M : mM) : Option (mM) := (if x1 = 0 then
  f_YardReader_readClause_42 x1  l2 s0 1 M
else
  f_YardReader_readClause_42 x1  l2 s0 0 M)
def f_YardReader_readClause (x1 : Int32) (M : mM) : Option (mM) := (f_Text_wordAmong 0 M).bind fun r1 =>
  (if r1.1 = (-1) then
  (f_Text_refuse 0 r1.2).bind fun M23 =>
  some M23
else
  (if r1.1 = 0 then
  f_YardReader_readClause_33 x1  r1.1 1 r1.2
else
  f_YardReader_readClause_33 x1  r1.1 0 r1.2))
def f_Text_isSign (x1 : Int32) (M : mM) : Option (Int32 × mM) := (if (M.2.1 1 4) = 3 then
  (if (M.2.1 1 5) = x1 then
  some (1, M)
else
  some (0, M))
else
  some (0, M))
def f_Text_takeMore  (M : mM) : Option (Int32 × mM) := (if (M.2.1 1 4) = 0 then
  some (0, M)
else
  (f_Text_isSign 59 M).bind fun r2 =>
  (if r2.1 = 0 then
  (f_Text_refuse 0 r2.2).bind fun M5 =>
  some (0, M5)
else
  (f_Text_advance  r2.2).bind fun M4 =>
  some (1, M4)))
def f_YardReader_readYard_47    (M : mM) : Option (Int32 × mM) := some ((M.2.1 1 6), M)
def f_YardReader_readYard_18   : Nat → Int32 → Int32 → mM → Option (Int32 × mM)
  | 0, _, _, _ => none
  | n + 1, l1, l2, M => (if 40 < l2 then
  f_YardReader_readYard_47    M
else
  (if l1 = 0 then
  f_YardReader_readYard_47    M
else
  (f_YardReader_readClause l2 M).bind fun M5 =>
  (f_Text_takeMore  M5).bind fun r6 =>
  f_YardReader_readYard_18   n r6.1 (l2 + 1) r6.2))
def f_YardReader_readYard  (M : mM) : Option (Int32 × mM) := (f_Yard_clear 4 M).bind fun M1 =>
  (f_Text_rewind  M1).bind fun M2 =>
  f_YardReader_readYard_18   FUEL 1 0 M2
def f_Yard_copyFrom (S : Nat) (x1 : Nat) (M : mM) : Option (mM) := (pI M S 0 (M.2.1 x1 0)).bind fun M1 =>
  (pI M1 S 1 (M1.2.1 x1 1)).bind fun M2 =>
  (pI M2 S 2 (M2.2.1 x1 2)).bind fun M3 =>
  (pI M3 S 8 (M3.2.1 x1 8)).bind fun M4 =>
  (pI M4 S 10 (M4.2.1 x1 10)).bind fun M5 =>
  (pC M5 (x1 + 1) (S + 1) 11).bind fun M6 =>
  (pC M6 (x1 + 2) (S + 2) 11).bind fun M7 =>
  (pC M7 (x1 + 3) (S + 3) 11).bind fun M8 =>
  (pC M8 (x1 + 4) (S + 4) 11).bind fun M9 =>
  (pC M9 (x1 + 5) (S + 5) 11).bind fun M10 =>
  (pC M10 (x1 + 6) (S + 6) 80).bind fun M11 =>
  (pC M11 (x1 + 7) (S + 7) 6).bind fun M12 =>
  some M12
def f_State_add (S : Nat) (x1 : Int32) (x2 : Int32) (x3 : Int32) (M : mM) : Option (mM) := (if (M.2.1 S 1) < 0 then
  some M
else
  (if (M.2.1 S 1) < 11 then
  (wr M (S + 1) 11 (M.2.1 S 1) x1).bind fun M3 =>
  (wr M3 (S + 2) 11 (M.2.1 S 1) x2).bind fun M4 =>
  (wr M4 (S + 3) 11 (M.2.1 S 1) x3).bind fun M5 =>
  (wr M5 (S + 4) 11 (M.2.1 S 1) 0).bind fun M6 =>
  (wr M6 (S + 5) 11 (M.2.1 S 1) (-1)).bind fun M7 =>
  (wr M7 (S + 6) 11 (M.2.1 S 1) (M7.2.1 S 0)).bind fun M8 =>
  (wr M8 (S + 7) 11 (M.2.1 S 1) 0).bind fun M9 =>
  (wr M9 (S + 8) 11 (M.2.1 S 1) x1).bind fun M10 =>
  (wr M10 (S + 9) 11 (M.2.1 S 1) x2).bind fun M11 =>
  (pI M11 S 1 ((M.2.1 S 1) + 1)).bind fun M12 =>
  some M12
else
  some M))
def f_State_startOf_17 (S : Nat) (x1 : Nat)  : Nat → Int32 → mM → Option (mM)
  | 0, _, _ => none
  | n + 1, l2, M => (if (M.2.1 x1 2) ≤ l2 then
  some M
else
  (if 10 ≤ l2 then
  some M
else
  (rd M (x1 + 1) 11 l2).bind fun v6 =>
  (rd M (x1 + 2) 11 l2).bind fun v7 =>
  (rd M (x1 + 3) 11 l2).bind fun v8 =>
  (f_State_add S v6 v7 v8 M).bind fun M9 =>
  f_State_startOf_17 S x1  n (l2 + 1) M9))
def f_State_startOf (S : Nat) (x1 : Nat) (M : mM) : Option (mM) := (pI M S 0 0).bind fun M1 =>
  (pI M1 S 1 0).bind fun M2 =>
  (pI M2 S 2 0).bind fun M3 =>
  f_State_startOf_17 S x1  FUEL 0 M3
def f_GraveRails_yard  (M : mM) : Option (Int32 × mM) := (f_YardReader_readYard  M).bind fun r1 =>
  (pI r1.2 1 1 0).bind fun M2 =>
  (if r1.1 = 0 then
  (f_Yard_copyFrom 21 4 M2).bind fun M4 =>
  (f_State_startOf 29 21 M4).bind fun M5 =>
  (pI M5 39 0 0).bind fun M6 =>
  (pI M6 44 0 0).bind fun M7 =>
  (pZ M7 269 0 0).bind fun M8 =>
  some ((M8.2.1 21 2), M8)
else
  some (((-2) - r1.1), M2))
def f_Rule_clear (S : Nat) (M : mM) : Option (mM) := (pI M S 1 0).bind fun M1 =>
  (pI M1 S 5 0).bind fun M2 =>
  some M2
def f_Rule_openClause (S : Nat) (M : mM) : Option (mM) := (if (M.2.1 S 5) < 0 then
  some M
else
  (if 12 ≤ (M.2.1 S 5) then
  some M
else
  (wr M (S + 2) 12 (M.2.1 S 5) (M.2.1 S 1)).bind fun M3 =>
  some M3))
def f_RuleReader_countOne_17    (M : mM) : Option (mM) := (pI M 12 2 ((M.2.1 12 2) + 1)).bind fun M2 =>
  some M2
def f_RuleReader_countOne  (M : mM) : Option (mM) := (if (M.2.1 12 2) < 60 then
  f_RuleReader_countOne_17    M
else
  (f_Text_refuse 3 M).bind fun M3 =>
  f_RuleReader_countOne_17    M3)
def f_Rule_emit (S : Nat) (x1 : Int32) (M : mM) : Option (mM) := (if (M.2.1 S 1) < 0 then
  some M
else
  (if 400 ≤ (M.2.1 S 1) then
  some M
else
  (wr M (S + 1) 400 (M.2.1 S 1) x1).bind fun M3 =>
  (pI M3 S 1 ((M3.2.1 S 1) + 1)).bind fun M4 =>
  some M4))
def f_RuleReader_readValue_52   (l1 : Int32) (M : mM) : Option (mM) := (f_RuleReader_countOne  M).bind fun M4 =>
  (f_Text_advance  M4).bind fun M5 =>
  (nnl ruL (M5.2.2.2 12 1)).bind fun y6 =>
  (f_Rule_emit y6 l1 M5).bind fun M7 =>
  some M7
def f_RuleReader_readValue  (M : mM) : Option (mM) := (if (M.2.1 1 4) = 1 then
  (f_Text_numberFrom 0 99999 M).bind fun r9 =>
  f_RuleReader_readValue_52   (1000 + r9.1) r9.2
else
  (f_Text_wordAmong 3 M).bind fun r2 =>
  (if r2.1 = (-1) then
  (f_Text_refuse 0 r2.2).bind fun M8 =>
  f_RuleReader_readValue_52   r2.1 M8
else
  f_RuleReader_readValue_52   r2.1 r2.2))
def f_RuleReader_signAmong_22 (x1 : Int32) (x2 : Int32) (x3 : Int32) (x4 : Int32) (x5 : Int32)  (s0 : Int32) (M : mM) : Option (Int32 × mM) := (if s0 = x1 then
  some (s0, M)
else
  (if s0 = x2 then
  some (s0, M)
else
  (if s0 = x3 then
  some (s0, M)
else
  (if s0 = x4 then
  some (s0, M)
else
  (if s0 = x5 then
  some (s0, M)
else
  some ((-1), M))))))
def f_RuleReader_signAmong (x1 : Int32) (x2 : Int32) (x3 : Int32) (x4 : Int32) (x5 : Int32) (M : mM) : Option (Int32 × mM) := (if (M.2.1 1 4) = 3 then
  f_RuleReader_signAmong_22 x1 x2 x3 x4 x5  (M.2.1 1 5) M
else
  f_RuleReader_signAmong_22 x1 x2 x3 x4 x5  (-1) M)
def f_RuleReader_readSum_108  (k9 : Int32 → Int32 → Int32 → Int32 → mM → Option (mM)) (l1 : Int32) (l2 : Int32) (l3 : Int32) (l4 : Int32) (M : mM) : Option (mM) := k9 l1 l2 l3 (l4 + 1) M
def f_RuleReader_readSum_96  (k9 : Int32 → Int32 → Int32 → Int32 → mM → Option (mM)) (l1 : Int32) (l2 : Int32) (l4 : Int32) (s0 : Int32) (M : mM) : Option (mM) := (if s0 = 0 then
  f_RuleReader_readSum_108  k9 l1 l2 s0 l4 M
else
  (f_Text_advance  M).bind fun M9 =>
  f_RuleReader_readSum_108  k9 l1 l2 s0 l4 M9)
def f_RuleReader_readSum_91  (k9 : Int32 → Int32 → Int32 → Int32 → mM → Option (mM)) (l1 : Int32) (l2 : Int32) (l4 : Int32) (M : mM) : Option (mM) := f_RuleReader_readSum_96  k9 l1 l2 l4 1 M
def f_RuleReader_readSum_81  (k9 : Int32 → Int32 → Int32 → Int32 → mM → Option (mM)) (l1 : Int32) (l2 : Int32) (l4 : Int32) (M : mM) : Option (mM) := (if l2 = (-1) then
  (if l1 = (-1) then
  f_RuleReader_readSum_96  k9 l1 l2 l4 0 M
else
  f_RuleReader_readSum_91  k9 l1 l2 l4 M)
else
  f_RuleReader_readSum_91  k9 l1 l2 l4 M)
def f_RuleReader_readSum_69  (k9 : Int32 → Int32 → Int32 → Int32 → mM → Option (mM)) (l2 : Int32) (l4 : Int32) (M : mM) : Option (mM) := (f_RuleReader_signAmong 43 45 (-1) (-1) (-1) M).bind fun r12 =>
  f_RuleReader_readSum_81  k9 r12.1 l2 l4 r12.2
def f_RuleReader_readSum_38  (k9 : Int32 → Int32 → Int32 → Int32 → mM → Option (mM)) (l1 : Int32) (l4 : Int32) (M : mM) : Option (mM) := (f_RuleReader_signAmong 42 47 37 (-1) (-1) M).bind fun r5 =>
  (if r5.1 = (-1) then
  (if l1 = (-1) then
  f_RuleReader_readSum_69  k9 r5.1 l4 r5.2
else
  (nnl ruL (r5.2.2.2.2 12 1)).bind fun y13 =>
  (f_Rule_emit y13 l1 r5.2).bind fun M14 =>
  f_RuleReader_readSum_69  k9 r5.1 l4 M14)
else
  f_RuleReader_readSum_81  k9 l1 r5.1 l4 r5.2)
def f_RuleReader_readSum_9   : Nat → Int32 → Int32 → Int32 → Int32 → mM → Option (mM)
  | 0, _, _, _, _, _ => none
  | n + 1, l1, l2, l3, l4, M => (if 400 ≤ l4 then
  some M
else
  (if l3 = 0 then
  some M
else
  (f_RuleReader_readValue  M).bind fun M3 =>
  (if l2 = (-1) then
  f_RuleReader_readSum_38  (f_RuleReader_readSum_9   n) l1 l4 M3
else
  (nnl ruL (M3.2.2.2 12 1)).bind fun y15 =>
  (f_Rule_emit y15 l2 M3).bind fun M16 =>
  f_RuleReader_readSum_38  (f_RuleReader_readSum_9   n) l1 l4 M16)))
def f_RuleReader_readSum  (M : mM) : Option (mM) := f_RuleReader_readSum_9   FUEL (-1) (-1) 1 0 M
def f_Rule_openTest (S : Nat) (M : mM) : Option (mM) := (if (M.2.1 S 5) < 0 then
  some M
else
  (if 12 ≤ (M.2.1 S 5) then
  some M
else
  (wr M (S + 3) 12 (M.2.1 S 5) (M.2.1 S 1)).bind fun M3 =>
  some M3))
def f_Text_takeWord (x1 : Nat) (M : mM) : Option (Int32 × mM) := (f_Text_wordAmong x1 M).bind fun r1 =>
  (if r1.1 = (-1) then
  some (0, r1.2)
else
  (f_Text_advance  r1.2).bind fun M3 =>
  some (1, M3))
def f_RuleReader_readFact_170 (g_RuleReader_readTest : Int32 → mM → Option mM) (g_RuleReader_readFact : Int32 → mM → Option mM) (x1 : Int32)  (l4 : Int32) (M : mM) : Option (mM) := (f_RuleReader_countOne  M).bind fun M10 =>
  (f_Text_advance  M10).bind fun M11 =>
  (f_RuleReader_readSum  M11).bind fun M12 =>
  (nnl ruL (M12.2.2.2 12 1)).bind fun y13 =>
  (f_Rule_emit y13 l4 M12).bind fun M14 =>
  some M14
def f_RuleReader_readFact_126 (g_RuleReader_readTest : Int32 → mM → Option mM) (g_RuleReader_readFact : Int32 → mM → Option mM) (x1 : Int32)   (M : mM) : Option (mM) := (f_Text_advance  M).bind fun M20 =>
  some M20
def f_RuleReader_readFact_60 (g_RuleReader_readTest : Int32 → mM → Option mM) (g_RuleReader_readFact : Int32 → mM → Option mM) (x1 : Int32)  (l2 : Int32) (l3 : Int32) (M : mM) : Option (mM) := (if l2 = 0 then
  (if l3 = 0 then
  (f_RuleReader_readSum  M).bind fun M7 =>
  (f_RuleReader_signAmong 60 316 61 318 62 M7).bind fun r8 =>
  (if r8.1 = (-1) then
  (f_Text_refuse 0 r8.2).bind fun M15 =>
  f_RuleReader_readFact_170 g_RuleReader_readTest g_RuleReader_readFact x1  r8.1 M15
else
  f_RuleReader_readFact_170 g_RuleReader_readTest g_RuleReader_readFact x1  r8.1 r8.2)
else
  (f_Text_advance  M).bind fun M16 =>
  (g_RuleReader_readTest (x1 + 1) M16).bind fun M17 =>
  (f_Text_isSign 93 M17).bind fun r18 =>
  (if r18.1 = 0 then
  (f_Text_refuse 0 r18.2).bind fun M21 =>
  f_RuleReader_readFact_126 g_RuleReader_readTest g_RuleReader_readFact x1   M21
else
  f_RuleReader_readFact_126 g_RuleReader_readTest g_RuleReader_readFact x1   r18.2))
else
  (f_Text_advance  M).bind fun M22 =>
  (g_RuleReader_readFact (x1 + 1) M22).bind fun M23 =>
  (nnl ruL (M23.2.2.2 12 1)).bind fun y24 =>
  (f_Rule_emit y24 33 M23).bind fun M25 =>
  some M25)
def f_RuleReader_readFact_40 (g_RuleReader_readTest : Int32 → mM → Option mM) (g_RuleReader_readFact : Int32 → mM → Option mM) (x1 : Int32)  (l2 : Int32) (s0 : Int32) (M : mM) : Option (mM) := (if s0 = 0 then
  f_RuleReader_readFact_60 g_RuleReader_readTest g_RuleReader_readFact x1  l2 s0 M
else
  (if x1 < 10 then
  f_RuleReader_readFact_60 g_RuleReader_readTest g_RuleReader_readFact x1  l2 s0 M
else
  (f_Text_refuse 2 M).bind fun M27 =>
  some M27))
def f_RuleReader_readFact_35 (g_RuleReader_readTest : Int32 → mM → Option mM) (g_RuleReader_readFact : Int32 → mM → Option mM) (x1 : Int32)  (l2 : Int32) (M : mM) : Option (mM) := f_RuleReader_readFact_40 g_RuleReader_readTest g_RuleReader_readFact x1  l2 1 M
def f_RuleReader_readFact_18 (g_RuleReader_readTest : Int32 → mM → Option mM) (g_RuleReader_readFact : Int32 → mM → Option mM) (x1 : Int32)  (s0 : Int32) (M : mM) : Option (mM) := (if s0 = 0 then
  (f_Text_isSign 91 M).bind fun r28 =>
  (if r28.1 = 0 then
  f_RuleReader_readFact_40 g_RuleReader_readTest g_RuleReader_readFact x1  s0 0 r28.2
else
  f_RuleReader_readFact_35 g_RuleReader_readTest g_RuleReader_readFact x1  s0 r28.2)
else
  f_RuleReader_readFact_35 g_RuleReader_readTest g_RuleReader_readFact x1  s0 M)
def f_RuleReader_readFact_b (g_RuleReader_readTest : Int32 → mM → Option mM) (g_RuleReader_readFact : Int32 → mM → Option mM) (x1 : Int32) (M : mM) : Option (mM) := (f_Text_wordAmong 5 M).bind fun r1 =>
  (if r1.1 = (-1) then
  f_RuleReader_readFact_18 g_RuleReader_readTest g_RuleReader_readFact x1  0 r1.2
else
  f_RuleReader_readFact_18 g_RuleReader_readTest g_RuleReader_readFact x1  1 r1.2)
def f_RuleReader_readTest_76 (g_RuleReader_readTest : Int32 → mM → Option mM) (g_RuleReader_readFact : Int32 → mM → Option mM) (x1 : Int32) (k4 : Int32 → Int32 → mM → Option (mM)) (l3 : Int32) (M : mM) : Option (mM) := (f_Text_takeWord 7 M).bind fun r6 =>
  k4 r6.1 (l3 + 1) r6.2
def f_RuleReader_readTest_63 (g_RuleReader_readTest : Int32 → mM → Option mM) (g_RuleReader_readFact : Int32 → mM → Option mM) (x1 : Int32) (k4 : Int32 → Int32 → mM → Option (mM)) (l3 : Int32) (M : mM) : Option (mM) := (if l3 ≤ 0 then
  f_RuleReader_readTest_76 g_RuleReader_readTest g_RuleReader_readFact x1 k4 l3 M
else
  (nnl ruL (M.2.2.2 12 1)).bind fun y7 =>
  (f_Rule_emit y7 124 M).bind fun M8 =>
  f_RuleReader_readTest_76 g_RuleReader_readTest g_RuleReader_readFact x1 k4 l3 M8)
def f_RuleReader_readTest_23 (g_RuleReader_readTest : Int32 → mM → Option mM) (g_RuleReader_readFact : Int32 → mM → Option mM) (x1 : Int32) (k4 : Int32 → Int32 → mM → Option (mM)) : Nat → Int32 → Int32 → mM → Option (mM)
  | 0, _, _, _ => none
  | n + 1, l3, l4, M => (if 400 ≤ l4 then
  f_RuleReader_readTest_63 g_RuleReader_readTest g_RuleReader_readFact x1 k4 l3 M
else
  (f_Text_takeWord 6 M).bind fun r9 =>
  (if r9.1 = 0 then
  f_RuleReader_readTest_63 g_RuleReader_readTest g_RuleReader_readFact x1 k4 l3 r9.2
else
  (g_RuleReader_readFact x1 r9.2).bind fun M11 =>
  (nnl ruL (M11.2.2.2 12 1)).bind fun y12 =>
  (f_Rule_emit y12 38 M11).bind fun M13 =>
  f_RuleReader_readTest_23 g_RuleReader_readTest g_RuleReader_readFact x1 k4 n l3 (l4 + 1) M13))
def f_RuleReader_readTest_4 (g_RuleReader_readTest : Int32 → mM → Option mM) (g_RuleReader_readFact : Int32 → mM → Option mM) (x1 : Int32)  : Nat → Int32 → Int32 → mM → Option (mM)
  | 0, _, _, _ => none
  | n + 1, l2, l3, M => (if 400 ≤ l3 then
  some M
else
  (if l2 = 0 then
  some M
else
  (g_RuleReader_readFact x1 M).bind fun M3 =>
  f_RuleReader_readTest_23 g_RuleReader_readTest g_RuleReader_readFact x1 (f_RuleReader_readTest_4 g_RuleReader_readTest g_RuleReader_readFact x1  n) FUEL l3 0 M3))
def f_RuleReader_readTest_b (g_RuleReader_readTest : Int32 → mM → Option mM) (g_RuleReader_readFact : Int32 → mM → Option mM) (x1 : Int32) (M : mM) : Option (mM) := f_RuleReader_readTest_4 g_RuleReader_readTest g_RuleReader_readFact x1  FUEL 1 0 M
def f_rec : Nat → (Int32 → mM → Option mM) × (Int32 → mM → Option mM)
  | 0 => (fun _ _ => none, fun _ _ => none)
  | n + 1 => (f_RuleReader_readTest_b (f_rec n).1 (f_rec n).2, f_RuleReader_readFact_b (f_rec n).1 (f_rec n).2)
def f_RuleReader_readTest (n : Nat) : Int32 → mM → Option mM := (f_rec n).1
def f_RuleReader_readFact (n : Nat) : Int32 → mM → Option mM := (f_rec n).2
def f_Rule_closeClause (S : Nat) (M : mM) : Option (mM) := (if (M.2.1 S 5) < 0 then
  some M
else
  (if 12 ≤ (M.2.1 S 5) then
  some M
else
  (wr M (S + 4) 12 (M.2.1 S 5) (M.2.1 S 1)).bind fun M3 =>
  (pI M3 S 5 ((M3.2.1 S 5) + 1)).bind fun M4 =>
  some M4))
def f_RuleReader_readRule_143 (x1 : Nat)   (M : mM) : Option (Int32 × mM) := some ((M.2.1 1 6), M)
def f_RuleReader_readRule_122 (x1 : Nat) (k32 : Int32 → Int32 → mM → Option (Int32 × mM)) (l3 : Int32) (M : mM) : Option (Int32 × mM) := (nnl ruL (M.2.2.2 12 1)).bind fun y19 =>
  (f_Rule_closeClause y19 M).bind fun M20 =>
  (f_Text_takeMore  M20).bind fun r21 =>
  k32 r21.1 (l3 + 1) r21.2
def f_RuleReader_readRule_80 (x1 : Nat) (k32 : Int32 → Int32 → mM → Option (Int32 × mM)) (l3 : Int32) (M : mM) : Option (Int32 × mM) := (f_Text_advance  M).bind fun M11 =>
  (nnl ruL (M11.2.2.2 12 1)).bind fun y12 =>
  (f_Rule_openClause y12 M11).bind fun M13 =>
  (f_RuleReader_readSum  M13).bind fun M14 =>
  (nnl ruL (M14.2.2.2 12 1)).bind fun y15 =>
  (f_Rule_openTest y15 M14).bind fun M16 =>
  (f_Text_takeWord 4 M16).bind fun r17 =>
  (if r17.1 = 0 then
  f_RuleReader_readRule_122 x1 k32 l3 r17.2
else
  (f_RuleReader_readTest 40 0 r17.2).bind fun M22 =>
  f_RuleReader_readRule_122 x1 k32 l3 M22)
def f_RuleReader_readRule_32 (x1 : Nat)  : Nat → Int32 → Int32 → mM → Option (Int32 × mM)
  | 0, _, _, _ => none
  | n + 1, l2, l3, M => (if 12 < l3 then
  f_RuleReader_readRule_143 x1   M
else
  (if l2 = 0 then
  f_RuleReader_readRule_143 x1   M
else
  (f_Text_wordAmong 2 M).bind fun r8 =>
  (if r8.1 = (-1) then
  (f_Text_refuse 0 r8.2).bind fun M24 =>
  f_RuleReader_readRule_80 x1 (f_RuleReader_readRule_32 x1  n) l3 M24
else
  (if l3 < 12 then
  f_RuleReader_readRule_80 x1 (f_RuleReader_readRule_32 x1  n) l3 r8.2
else
  (f_Text_refuse 4 r8.2).bind fun M23 =>
  f_RuleReader_readRule_80 x1 (f_RuleReader_readRule_32 x1  n) l3 M23))))
def f_RuleReader_readRule_9 (x1 : Nat)   (M : mM) : Option (Int32 × mM) := (nnl ruL (M.2.2.2 12 1)).bind fun y2 =>
  (f_Rule_clear y2 M).bind fun M3 =>
  (pI M3 12 2 0).bind fun M4 =>
  (f_Text_rewind  M4).bind fun M5 =>
  f_RuleReader_readRule_32 x1  FUEL 1 0 M5
def f_RuleReader_readRule (x1 : Nat) (M : mM) : Option (Int32 × mM) := (pR M 12 1 (some x1)).bind fun M1 =>
  f_RuleReader_readRule_9 x1   M1
def f_GraveRails_rule  (M : mM) : Option (Int32 × mM) := (if (M.2.1 0 4) < 0 then
  some ((-1), M)
else
  (if (M.2.1 0 4) < 6 then
  (ix 6 (M.2.1 0 4)).bind fun j3 =>
  (f_RuleReader_readRule (308 + 6 * j3) M).bind fun r4 =>
  (pI r4.2 1 1 0).bind fun M5 =>
  (if r4.1 = 0 then
  (pI M5 0 4 ((M5.2.1 0 4) + 1)).bind fun M7 =>
  some (((M7.2.1 0 4) - 1), M7)
else
  some (((-2) - r4.1), M5))
else
  some ((-1), M)))
def f_GraveRails_force (x1 : Int32) (M : mM) : Option (Int32 × mM) := (if x1 < (-1) then
  some ((-2), M)
else
  (if x1 < (M.2.1 0 4) then
  (pI M 20 3 x1).bind fun M3 =>
  (pZ M3 269 0 0).bind fun M4 =>
  some ((M.2.1 20 3), M4)
else
  some ((-2), M)))
def f_State_has (S : Nat) (x1 : Int32) (M : mM) : Option (Int32 × mM) := (if x1 < 0 then
  some (0, M)
else
  (if (M.2.1 S 1) ≤ x1 then
  some (0, M)
else
  (if 11 ≤ x1 then
  some (0, M)
else
  some (1, M))))
def f_GraveRails_grave (x1 : Int32) (x2 : Int32) (M : mM) : Option (Int32 × mM) := (f_State_has 29 x1 M).bind fun r1 =>
  (if r1.1 = 0 then
  some ((-2), r1.2)
else
  (if x2 = 0 then
  (rd r1.2 30 11 x1).bind fun v3 =>
  some (v3, r1.2)
else if x2 = 1 then
  (rd r1.2 31 11 x1).bind fun v5 =>
  some (v5, r1.2)
else if x2 = 2 then
  (rd r1.2 32 11 x1).bind fun v7 =>
  some (v7, r1.2)
else if x2 = 3 then
  (rd r1.2 33 11 x1).bind fun v9 =>
  some (v9, r1.2)
else if x2 = 4 then
  (rd r1.2 34 11 x1).bind fun v11 =>
  some (v11, r1.2)
else if x2 = 5 then
  (rd r1.2 35 11 x1).bind fun v13 =>
  some (v13, r1.2)
else if x2 = 6 then
  (f_Yard_pairOf 21 x1 r1.2).bind fun r15 =>
  some (r15.1, r15.2)
else if x2 = 7 then
  (rd r1.2 36 11 x1).bind fun v17 =>
  some (v17, r1.2)
else some ((-2), r1.2)))
def f_Yard_isHeavy (S : Nat) (x1 : Int32) (M : mM) : Option (Int32 × mM) := (if x1 < 0 then
  some (0, M)
else
  (if 11 ≤ x1 then
  some (0, M)
else
  (rd M (S + 5) 11 x1).bind fun v3 =>
  (if v3 = 0 then
  some (0, M)
else
  some (1, M))))
def f_State_graveAt_44 (S : Nat) (x1 : Int32) (x2 : Int32) (k8 : Int32 → mM → Option (Int32 × mM)) (l3 : Int32) (M : mM) : Option (Int32 × mM) := k8 (l3 + 1) M
def f_State_graveAt_8 (S : Nat) (x1 : Int32) (x2 : Int32)  : Nat → Int32 → mM → Option (Int32 × mM)
  | 0, _, _ => none
  | n + 1, l3, M => (if (M.2.1 S 1) ≤ l3 then
  some ((-1), M)
else
  (if 11 ≤ l3 then
  some ((-1), M)
else
  (rd M (S + 2) 11 l3).bind fun v4 =>
  (if v4 = x2 then
  (rd M (S + 1) 11 l3).bind fun v6 =>
  (if v6 = x1 then
  some (l3, M)
else
  f_State_graveAt_44 S x1 x2 (f_State_graveAt_8 S x1 x2  n) l3 M)
else
  f_State_graveAt_44 S x1 x2 (f_State_graveAt_8 S x1 x2  n) l3 M)))
def f_State_graveAt (S : Nat) (x1 : Int32) (x2 : Int32) (M : mM) : Option (Int32 × mM) := (if 0 ≤ x2 then
  f_State_graveAt_8 S x1 x2  FUEL 0 M
else
  some ((-1), M))
def f_GraveRails_stone (x1 : Int32) (x2 : Int32) (M : mM) : Option (Int32 × mM) := (f_State_has 29 x1 M).bind fun r1 =>
  (if r1.1 = 0 then
  some ((-2), r1.2)
else
  (if x2 = 0 then
  (rd r1.2 37 11 x1).bind fun v3 =>
  some (v3, r1.2)
else if x2 = 1 then
  (rd r1.2 38 11 x1).bind fun v5 =>
  some (v5, r1.2)
else if x2 = 2 then
  (f_Yard_isHeavy 21 x1 r1.2).bind fun r7 =>
  (if r7.1 = 0 then
  some (0, r7.2)
else
  some (1, r7.2))
else if x2 = 3 then
  (rd r1.2 37 11 x1).bind fun v10 =>
  (rd r1.2 38 11 x1).bind fun v11 =>
  (f_State_graveAt 29 v10 v11 r1.2).bind fun r12 =>
  some (r12.1, r12.2)
else some ((-2), r1.2)))
def f_GraveRails_at (x1 : Int32) (x2 : Int32) (M : mM) : Option (Int32 × mM) := (f_Yard_hasPlace 21 x1 x2 M).bind fun r1 =>
  (if r1.1 = 0 then
  some ((-2), r1.2)
else
  (f_State_graveAt 29 x1 x2 r1.2).bind fun r3 =>
  some (r3.1, r3.2))
def f_GraveRails_root (x1 : Int32) (x2 : Int32) (M : mM) : Option (Int32 × mM) := (f_Yard_hasPlace 21 x1 x2 M).bind fun r1 =>
  (if r1.1 = 0 then
  some ((-1), r1.2)
else
  (f_Yard_rootAt 21 x1 x2 r1.2).bind fun r3 =>
  some (r3.1, r3.2))
def f_Yard_isTold (S : Nat) (M : mM) : Option (Int32 × mM) := (if (M.2.1 S 0) ≤ 0 then
  some (0, M)
else
  some (1, M))
def f_Acts_nextOne  (M : mM) : Option (Option Nat × mM) := (if (M.2.1 44 1) < 0 then
  some (none, M)
else
  (if 20 ≤ (M.2.1 44 1) then
  some (none, M)
else
  (ix 20 (M.2.1 44 1)).bind fun j3 =>
  some ((some (46 + 10 * j3)), M)))
def f_State_copyFrom (S : Nat) (x1 : Nat) (M : mM) : Option (mM) := (pI M S 0 (M.2.1 x1 0)).bind fun M1 =>
  (pI M1 S 1 (M1.2.1 x1 1)).bind fun M2 =>
  (pI M2 S 2 (M2.2.1 x1 2)).bind fun M3 =>
  (pC M3 (x1 + 1) (S + 1) 11).bind fun M4 =>
  (pC M4 (x1 + 2) (S + 2) 11).bind fun M5 =>
  (pC M5 (x1 + 3) (S + 3) 11).bind fun M6 =>
  (pC M6 (x1 + 4) (S + 4) 11).bind fun M7 =>
  (pC M7 (x1 + 5) (S + 5) 11).bind fun M8 =>
  (pC M8 (x1 + 6) (S + 6) 11).bind fun M9 =>
  (pC M9 (x1 + 7) (S + 7) 11).bind fun M10 =>
  (pC M10 (x1 + 8) (S + 8) 11).bind fun M11 =>
  (pC M11 (x1 + 9) (S + 9) 11).bind fun M12 =>
  some M12
def f_Acts_keep (x1 : Nat) (M : mM) : Option (mM) := (f_Acts_nextOne  M).bind fun r1 =>
  (if r1.1 = none then
  some r1.2
else
  (nnl stL r1.1).bind fun y2 =>
  (f_State_copyFrom y2 x1 r1.2).bind fun M3 =>
  (pI M3 44 1 (((M3.2.1 44 1) + 1) - ((M3.2.1 44 1) + 1) / 20 * 20)).bind fun M4 =>
  (pI M4 44 0 (if 20 < ((M4.2.1 44 0) + 1) then 20 else ((M4.2.1 44 0) + 1))).bind fun M5 =>
  some M5)
def f_GraveRails_ruleInForce  (M : mM) : Option (Option Nat × mM) := (if (M.2.1 20 3) < 0 then
  some (none, M)
else
  (if (M.2.1 0 4) ≤ (M.2.1 20 3) then
  some (none, M)
else
  (if 6 ≤ (M.2.1 20 3) then
  some (none, M)
else
  (ix 6 (M.2.1 20 3)).bind fun j4 =>
  some ((some (308 + 6 * j4)), M))))
def f_Course_start_13 (x1 : Nat) (x2 : Nat) (x3 : Option Nat)   (M : mM) : Option (mM) := (pR M 246 5 (some x1)).bind fun M1 =>
  (pR M1 246 6 x3).bind fun M2 =>
  (pI M2 246 2 0).bind fun M3 =>
  (pI M3 246 3 0).bind fun M4 =>
  (pZ M4 246 4 0).bind fun M5 =>
  (f_State_copyFrom 247 x2 M5).bind fun M6 =>
  some M6
def f_Course_start (x1 : Nat) (x2 : Nat) (x3 : Option Nat) (M : mM) : Option (mM) := f_Course_start_13 x1 x2 x3   M
def f_GraveRails_startFromNow  (M : mM) : Option (mM) := (f_GraveRails_ruleInForce  M).bind fun r1 =>
  (f_Course_start 21 29 r1.1 r1.2).bind fun M2 =>
  some M2
def f_State_lies (S : Nat) (x1 : Int32) (M : mM) : Option (Int32 × mM) := (if x1 < 0 then
  some (0, M)
else
  (if (M.2.1 S 1) ≤ x1 then
  some (0, M)
else
  (if 11 ≤ x1 then
  some (0, M)
else
  (rd M (S + 2) 11 x1).bind fun v4 =>
  (if v4 = (-1) then
  some (0, M)
else
  some (1, M)))))
def f_Course_takeOrder_139  (k7 : Int32 → mM → Option (mM)) (l1 : Int32) (M : mM) : Option (mM) := k7 (l1 + 1) M
def f_Course_takeOrder_115  (k7 : Int32 → mM → Option (mM)) (l1 : Int32) (l2 : Int32) (l3 : Int32) (M : mM) : Option (mM) := (wr M 267 11 l3 l2).bind fun M9 =>
  (wr M9 266 11 l3 l1).bind fun M10 =>
  (pI M10 246 10 ((M10.2.1 246 10) + 1)).bind fun M11 =>
  f_Course_takeOrder_139  k7 l1 M11
def f_Course_takeOrder_65  (k7 : Int32 → mM → Option (mM)) : Nat → Int32 → Int32 → Int32 → mM → Option (mM)
  | 0, _, _, _, _ => none
  | n + 1, l1, l2, l3, M => (if l3 ≤ 0 then
  f_Course_takeOrder_115  k7 l1 l2 l3 M
else
  (rd M 267 11 (l3 - 1)).bind fun v12 =>
  (if v12 ≤ l2 then
  f_Course_takeOrder_115  k7 l1 l2 l3 M
else
  (rd M 267 11 (l3 - 1)).bind fun v14 =>
  (wr M 267 11 l3 v14).bind fun M15 =>
  (rd M15 266 11 (l3 - 1)).bind fun v16 =>
  (wr M15 266 11 l3 v16).bind fun M17 =>
  f_Course_takeOrder_65  k7 n l1 l2 (l3 + (-1)) M17))
def f_Course_takeOrder_7   : Nat → Int32 → mM → Option (mM)
  | 0, _, _ => none
  | n + 1, l1, M => (if (M.2.1 247 1) ≤ l1 then
  some M
else
  (if 11 ≤ (M.2.1 246 10) then
  some M
else
  (f_State_lies 247 l1 M).bind fun r4 =>
  (if r4.1 = 0 then
  f_Course_takeOrder_139  (f_Course_takeOrder_7   n) l1 r4.2
else
  (rd r4.2 249 11 l1).bind fun v6 =>
  (rd r4.2 248 11 l1).bind fun v7 =>
  f_Course_takeOrder_65  (f_Course_takeOrder_7   n) FUEL l1 ((v6 * 4) + v7) (r4.2.2.1 246 10) r4.2)))
def f_Course_takeOrder  (M : mM) : Option (mM) := (pI M 246 10 0).bind fun M1 =>
  f_Course_takeOrder_7   FUEL 0 M1
def f_Course_drop (x1 : Int32) (M : mM) : Option (mM) := (f_State_lies 247 x1 M).bind fun r1 =>
  (if r1.1 = 0 then
  some r1.2
else
  (wr r1.2 248 11 x1 (-1)).bind fun M3 =>
  (wr M3 249 11 x1 (-1)).bind fun M4 =>
  (wr M4 251 11 x1 0).bind fun M5 =>
  (wr M5 252 11 x1 (M5.2.1 247 0)).bind fun M6 =>
  (pI M6 247 2 ((M6.2.1 247 2) + 1)).bind fun M7 =>
  (if (M7.2.1 246 2) < 0 then
  some M7
else
  (if 11 ≤ (M7.2.1 246 2) then
  some M7
else
  (wr M7 257 11 (M7.2.1 246 2) x1).bind fun M10 =>
  (pI M10 246 2 ((M10.2.1 246 2) + 1)).bind fun M11 =>
  some M11)))
def f_Course_floodRows_66  (k6 : Int32 → mM → Option (mM)) (l1 : Int32) (M : mM) : Option (mM) := k6 (l1 + 1) M
def f_Course_floodRows_6   : Nat → Int32 → mM → Option (mM)
  | 0, _, _ => none
  | n + 1, l1, M => (if (M.2.1 246 10) ≤ l1 then
  some M
else
  (if 11 ≤ l1 then
  some M
else
  (rd M 266 11 l1).bind fun v4 =>
  (f_State_lies 247 v4 M).bind fun r5 =>
  (if r5.1 = 0 then
  f_Course_floodRows_66  (f_Course_floodRows_6   n) l1 r5.2
else
  (rd r5.2 249 11 v4).bind fun v7 =>
  (if 1 < v7 then
  f_Course_floodRows_66  (f_Course_floodRows_6   n) l1 r5.2
else
  (f_Course_drop v4 r5.2).bind fun M9 =>
  (pI M9 246 3 ((M9.2.1 246 3) + 1)).bind fun M10 =>
  f_Course_floodRows_66  (f_Course_floodRows_6   n) l1 M10))))
def f_Course_floodRows  (M : mM) : Option (mM) := (f_Course_takeOrder  M).bind fun M1 =>
  f_Course_floodRows_6   FUEL 0 M1
def f_Course_fartherBy (x1 : Int32) (M : mM) : Option (Int32 × mM) := (nnl ydL (M.2.2.2 246 5)).bind fun y1 =>
  (f_Yard_pairOf y1 x1 M).bind fun r2 =>
  (f_State_lies 247 x1 r2.2).bind fun r3 =>
  (if r3.1 = 0 then
  some (0, r3.2)
else
  (f_State_lies 247 r2.1 r3.2).bind fun r5 =>
  (if r5.1 = 0 then
  some (0, r5.2)
else
  (rd r5.2 249 11 r2.1).bind fun v7 =>
  (rd r5.2 249 11 x1).bind fun v8 =>
  some ((v7 - v8), r5.2)))
def f_State_countBehind_49 (S : Nat) (x1 : Int32) (x2 : Int32) (k5 : Int32 → Int32 → mM → Option (Int32 × mM)) (l4 : Int32) (s0 : Int32) (s1 : Int32) (M : mM) : Option (Int32 × mM) := k5 (s0 + s1) (l4 + 1) M
def f_State_countBehind_48 (S : Nat) (x1 : Int32) (x2 : Int32) (k5 : Int32 → Int32 → mM → Option (Int32 × mM)) (l4 : Int32) (s0 : Int32) (M : mM) : Option (Int32 × mM) := f_State_countBehind_49 S x1 x2 k5 l4 s0 0 M
def f_State_countBehind_5 (S : Nat) (x1 : Int32) (x2 : Int32)  : Nat → Int32 → Int32 → mM → Option (Int32 × mM)
  | 0, _, _, _ => none
  | n + 1, l3, l4, M => (if (M.2.1 S 1) ≤ l4 then
  some (l3, M)
else
  (if 11 ≤ l4 then
  some (l3, M)
else
  (rd M (S + 1) 11 l4).bind fun v3 =>
  (if v3 = x1 then
  (rd M (S + 2) 11 l4).bind fun v5 =>
  (if v5 ≤ x2 then
  f_State_countBehind_48 S x1 x2 (f_State_countBehind_5 S x1 x2  n) l4 l3 M
else
  f_State_countBehind_49 S x1 x2 (f_State_countBehind_5 S x1 x2  n) l4 l3 1 M)
else
  f_State_countBehind_48 S x1 x2 (f_State_countBehind_5 S x1 x2  n) l4 l3 M)))
def f_State_countBehind (S : Nat) (x1 : Int32) (x2 : Int32) (M : mM) : Option (Int32 × mM) := f_State_countBehind_5 S x1 x2  FUEL 0 0 M
def f_Course_fillWords_218 (x1 : Int32)  (s1 : Int32) (s2 : Int64) (M : mM) : Option (mM) := (wrL M 268 12 s1 s2).bind fun M25 =>
  (wrL M25 268 12 11 (Int32.toInt64 (M25.2.1 247 2))).bind fun M26 =>
  some M26
def f_Course_fillWords_182 (x1 : Int32)  (l2 : Int32) (l3 : Int32) (s1 : Int32) (s2 : Int64) (M : mM) : Option (mM) := (wrL M 268 12 s1 s2).bind fun M21 =>
  (f_State_countBehind 247 l2 l3 M21).bind fun r22 =>
  (wrL r22.2 268 12 9 (Int32.toInt64 r22.1)).bind fun M23 =>
  (if (M23.2.1 246 7) = 0 then
  f_Course_fillWords_218 x1  10 0 M23
else
  f_Course_fillWords_218 x1  10 1 M23)
def f_Course_fillWords_142 (x1 : Int32)  (l2 : Int32) (l3 : Int32) (s1 : Int32) (s2 : Int64) (M : mM) : Option (mM) := (wrL M 268 12 s1 s2).bind fun M16 =>
  (f_Course_fartherBy x1 M16).bind fun r17 =>
  (wrL r17.2 268 12 7 (Int32.toInt64 r17.1)).bind fun M18 =>
  (f_State_graveAt 247 l2 (l3 - 1) M18).bind fun r19 =>
  (if r19.1 = (-1) then
  f_Course_fillWords_182 x1  l2 l3 8 0 r19.2
else
  f_Course_fillWords_182 x1  l2 l3 8 1 r19.2)
def f_Course_fillWords_117 (x1 : Int32)  (l2 : Int32) (l3 : Int32) (s1 : Int32) (s2 : Int64) (M : mM) : Option (mM) := (wrL M 268 12 s1 s2).bind fun M13 =>
  (rd M13 250 11 x1).bind fun v14 =>
  (if v14 = 2 then
  f_Course_fillWords_142 x1  l2 l3 6 1 M13
else
  f_Course_fillWords_142 x1  l2 l3 6 0 M13)
def f_Course_fillWords (x1 : Int32) (M : mM) : Option (mM) := (f_State_has 247 x1 M).bind fun r1 =>
  (if r1.1 = 0 then
  some r1.2
else
  (rd r1.2 248 11 x1).bind fun v3 =>
  (rd r1.2 249 11 x1).bind fun v4 =>
  (wrL r1.2 268 12 0 (Int32.toInt64 x1)).bind fun M5 =>
  (wrL M5 268 12 1 (Int32.toInt64 v3)).bind fun M6 =>
  (wrL M6 268 12 2 (Int32.toInt64 v4)).bind fun M7 =>
  (wrL M7 268 12 3 (Int32.toInt64 (M7.2.1 247 0))).bind fun M8 =>
  (rd M8 253 11 x1).bind fun v9 =>
  (wrL M8 268 12 4 (Int32.toInt64 ((M8.2.1 247 0) - v9))).bind fun M10 =>
  (rd M10 250 11 x1).bind fun v11 =>
  (if v11 = 1 then
  f_Course_fillWords_117 x1  v3 v4 5 1 M10
else
  f_Course_fillWords_117 x1  v3 v4 5 0 M10))
def f_Rule_join (x0 : Int32) (x1 : Int64) (x3 : Int64) (M : mM) : Option (Int64 × mM) := (if x0 = 37 then
  (if (lg_cmp x3 0) = 0 then
  some (0, M)
else
  if x3 = 0 then none else some ((x1 - x1 / x3 * x3), M))
else if x0 = 38 then
  some ((x1 &&& x3), M)
else if x0 = 42 then
  some ((x1 * x3), M)
else if x0 = 43 then
  some ((x1 + x3), M)
else if x0 = 45 then
  some ((x1 - x3), M)
else if x0 = 47 then
  (if (lg_cmp x3 0) = 0 then
  some (0, M)
else
  if x3 = 0 then none else some ((x1 / x3), M))
else if x0 = 60 then
  (if 0 ≤ (lg_cmp x1 x3) then
  some (0, M)
else
  some (1, M))
else if x0 = 61 then
  (if (lg_cmp x1 x3) = 0 then
  some (1, M)
else
  some (0, M))
else if x0 = 62 then
  (if (lg_cmp x1 x3) ≤ 0 then
  some (0, M)
else
  some (1, M))
else if x0 = 124 then
  some ((x1 ||| x3), M)
else if x0 = 316 then
  (if 0 < (lg_cmp x1 x3) then
  some (0, M)
else
  some (1, M))
else if x0 = 318 then
  (if (lg_cmp x1 x3) < 0 then
  some (0, M)
else
  some (1, M))
else some (0, M))
def f_Rule_worth_181 (S : Nat) (x1 : Int32) (x2 : Int32)  (l4 : Int32) (M : mM) : Option (Int64 × mM) := (if l4 < 1 then
  some (0, M)
else
  (rdL M (S + 5) 64 0).bind fun v3 =>
  some (v3, M))
def f_Rule_worth_175 (S : Nat) (x1 : Int32) (x2 : Int32) (k10 : Int32 → Int32 → mM → Option (Int64 × mM)) (l4 : Int32) (l5 : Int32) (M : mM) : Option (Int64 × mM) := k10 l4 (l5 + 1) M
def f_Rule_worth_93 (S : Nat) (x1 : Int32) (x2 : Int32) (k10 : Int32 → Int32 → mM → Option (Int64 × mM)) (l4 : Int32) (l5 : Int32) (s1 : Int32) (s2 : Int64) (M : mM) : Option (Int64 × mM) := (wrL M (S + 5) 64 s1 s2).bind fun M10 =>
  f_Rule_worth_175 S x1 x2 k10 (l4 + 1) l5 M10
def f_Rule_worth_55 (S : Nat) (x1 : Int32) (x2 : Int32) (k10 : Int32 → Int32 → mM → Option (Int64 × mM)) (l4 : Int32) (l5 : Int32) (l6 : Int32) (M : mM) : Option (Int64 × mM) := (if 64 ≤ l4 then
  f_Rule_worth_175 S x1 x2 k10 l4 l5 M
else
  (if l6 < 1000 then
  (rdL M 268 12 l6).bind fun v9 =>
  f_Rule_worth_93 S x1 x2 k10 l4 l5 l4 v9 M
else
  f_Rule_worth_93 S x1 x2 k10 l4 l5 l4 (Int32.toInt64 (l6 - 1000)) M))
def f_Rule_worth_100 (S : Nat) (x1 : Int32) (x2 : Int32) (k10 : Int32 → Int32 → mM → Option (Int64 × mM)) (l4 : Int32) (l5 : Int32) (l6 : Int32) (M : mM) : Option (Int64 × mM) := (if l6 = 33 then
  (if l4 < 1 then
  f_Rule_worth_175 S x1 x2 k10 l4 l5 M
else
  (rdL M (S + 5) 64 (l4 - 1)).bind fun v19 =>
  (wrL M (S + 5) 64 (l4 - 1) (1 - v19)).bind fun M20 =>
  f_Rule_worth_175 S x1 x2 k10 l4 l5 M20)
else
  (if l4 < 2 then
  f_Rule_worth_175 S x1 x2 k10 l4 l5 M
else
  (rdL M (S + 5) 64 ((l4 + (-1)) - 1)).bind fun v14 =>
  (rdL M (S + 5) 64 (l4 + (-1))).bind fun v15 =>
  (f_Rule_join l6 v14 v15 M).bind fun r16 =>
  (wrL r16.2 (S + 5) 64 ((l4 + (-1)) - 1) r16.1).bind fun M17 =>
  f_Rule_worth_175 S x1 x2 k10 (l4 + (-1)) l5 M17))
def f_Rule_worth_10 (S : Nat) (x1 : Int32) (x2 : Int32)  : Nat → Int32 → Int32 → mM → Option (Int64 × mM)
  | 0, _, _, _ => none
  | n + 1, l4, l5, M => (if x2 ≤ l5 then
  f_Rule_worth_181 S x1 x2  l4 M
else
  (if 400 ≤ l5 then
  f_Rule_worth_181 S x1 x2  l4 M
else
  (rd M (S + 1) 400 l5).bind fun v5 =>
  (if 1000 ≤ v5 then
  f_Rule_worth_55 S x1 x2 (f_Rule_worth_10 S x1 x2  n) l4 l5 v5 M
else
  (if v5 < 0 then
  f_Rule_worth_100 S x1 x2 (f_Rule_worth_10 S x1 x2  n) l4 l5 v5 M
else
  (if 12 ≤ v5 then
  f_Rule_worth_100 S x1 x2 (f_Rule_worth_10 S x1 x2  n) l4 l5 v5 M
else
  f_Rule_worth_55 S x1 x2 (f_Rule_worth_10 S x1 x2  n) l4 l5 v5 M)))))
def f_Rule_worth (S : Nat) (x1 : Int32) (x2 : Int32) (M : mM) : Option (Int64 × mM) := f_Rule_worth_10 S x1 x2  FUEL 0 (if 0 < x1 then x1 else 0) M
def f_Rule_stepsBy_63 (S : Nat)  (l2 : Int32) (M : mM) : Option (Int32 × mM) := (rd M (S + 2) 12 l2).bind fun v7 =>
  (rd M (S + 3) 12 l2).bind fun v8 =>
  (f_Rule_worth S v7 v8 M).bind fun r9 =>
  some ((Int64.toInt32 (if (if r9.1 < 9 then r9.1 else 9) < 0 then 0 else (if r9.1 < 9 then r9.1 else 9))), r9.2)
def f_Rule_stepsBy_36 (S : Nat) (k2 : Int32 → mM → Option (Int32 × mM)) (l2 : Int32) (s0 : Int32) (M : mM) : Option (Int32 × mM) := (if s0 = 0 then
  f_Rule_stepsBy_63 S  l2 M
else
  (rd M (S + 3) 12 l2).bind fun v10 =>
  (rd M (S + 4) 12 l2).bind fun v11 =>
  (f_Rule_worth S v10 v11 M).bind fun r12 =>
  (if (lg_cmp r12.1 0) = 0 then
  k2 (l2 + 1) r12.2
else
  f_Rule_stepsBy_63 S  l2 r12.2))
def f_Rule_stepsBy_2 (S : Nat)  : Nat → Int32 → mM → Option (Int32 × mM)
  | 0, _, _ => none
  | n + 1, l2, M => (if (M.2.1 S 5) ≤ l2 then
  some (0, M)
else
  (if 12 ≤ l2 then
  some (0, M)
else
  (rd M (S + 3) 12 l2).bind fun v3 =>
  (rd M (S + 4) 12 l2).bind fun v4 =>
  (if v4 ≤ v3 then
  f_Rule_stepsBy_36 S (f_Rule_stepsBy_2 S  n) l2 0 M
else
  f_Rule_stepsBy_36 S (f_Rule_stepsBy_2 S  n) l2 1 M)))
def f_Rule_stepsBy (S : Nat) (M : mM) : Option (Int32 × mM) := f_Rule_stepsBy_2 S  FUEL 0 M
def f_Course_laneRound_49 (x1 : Int32) (x2 : Int32) (x3 : Int32)   (M : mM) : Option (Int32 × mM) := (nnl ydL (M.2.2.2 246 5)).bind fun y6 =>
  (if (M.2.1 y6 0) ≤ (x2 + 1) then
  some ((-1), M)
else
  (f_State_graveAt 247 (x2 + 1) x3 M).bind fun r8 =>
  (if r8.1 = (-1) then
  some ((x2 + 1), r8.2)
else
  some ((-1), r8.2)))
def f_Course_laneRound (x1 : Int32) (x2 : Int32) (x3 : Int32) (M : mM) : Option (Int32 × mM) := (f_State_has 247 x1 M).bind fun r1 =>
  (if r1.1 = 0 then
  some ((-1), r1.2)
else
  (rd r1.2 250 11 x1).bind fun v3 =>
  (if v3 = 3 then
  (if x2 ≤ 0 then
  f_Course_laneRound_49 x1 x2 x3   r1.2
else
  (f_State_graveAt 247 (x2 - 1) x3 r1.2).bind fun r10 =>
  (if r10.1 = (-1) then
  some ((x2 - 1), r10.2)
else
  f_Course_laneRound_49 x1 x2 x3   r10.2))
else
  some ((-1), r1.2)))
def f_Course_comeTo (x1 : Int32) (x2 : Int32) (x3 : Int32) (M : mM) : Option (mM) := (f_State_has 247 x1 M).bind fun r1 =>
  (if r1.1 = 0 then
  some r1.2
else
  (wr r1.2 248 11 x1 x2).bind fun M3 =>
  (wr M3 249 11 x1 x3).bind fun M4 =>
  (nnl ydL (M4.2.2.2 246 5)).bind fun y5 =>
  (f_Yard_rootAt y5 x2 x3 M4).bind fun r6 =>
  (wr r6.2 251 11 x1 r6.1).bind fun M7 =>
  some M7)
def f_Course_goStep_92 (x1 : Int32)  (l2 : Int32) (l3 : Int32) (M : mM) : Option (Int32 × mM) := (f_Course_comeTo x1 l3 l2 M).bind fun M8 =>
  (rd M8 251 11 x1).bind fun v9 =>
  (if v9 = 0 then
  some (1, M8)
else
  some (0, M8))
def f_Course_goStep (x1 : Int32) (M : mM) : Option (Int32 × mM) := (f_State_lies 247 x1 M).bind fun r1 =>
  (if r1.1 = 0 then
  some (0, r1.2)
else
  (rd r1.2 249 11 x1).bind fun v3 =>
  (if 0 ≤ (v3 - 1) then
  (rd r1.2 248 11 x1).bind fun v5 =>
  (f_State_graveAt 247 v5 (v3 - 1) r1.2).bind fun r6 =>
  (if r6.1 = (-1) then
  f_Course_goStep_92 x1  (v3 - 1) v5 r6.2
else
  (f_Course_laneRound r6.1 v5 (v3 - 1) r6.2).bind fun r11 =>
  (if r11.1 = (-1) then
  some (0, r11.2)
else
  (rd r11.2 254 11 x1).bind fun v13 =>
  (wr r11.2 254 11 x1 (v13 + 1)).bind fun M14 =>
  f_Course_goStep_92 x1  (v3 - 1) r11.1 M14))
else
  (f_Course_drop x1 r1.2).bind fun M15 =>
  some (0, M15)))
def f_Course_takeTurn_107 (x1 : Int32)  : Nat → Int32 → Int32 → Int32 → mM → Option (mM)
  | 0, _, _, _, _ => none
  | n + 1, l2, l3, l4, M => (if l2 ≤ l4 then
  some M
else
  (if 9 ≤ l4 then
  some M
else
  (if l3 = 0 then
  some M
else
  (f_Course_goStep x1 M).bind fun r14 =>
  f_Course_takeTurn_107 x1  n l2 r14.1 (l4 + 1) r14.2)))
def f_Course_takeTurn_102 (x1 : Int32)  (l2 : Int32) (M : mM) : Option (mM) := f_Course_takeTurn_107 x1  FUEL l2 1 0 M
def f_Course_takeTurn_77 (x1 : Int32)  (s0 : Int32) (M : mM) : Option (mM) := (if (M.2.2.2 246 6) = none then
  f_Course_takeTurn_102 x1  s0 M
else
  (f_Course_fillWords x1 M).bind fun M15 =>
  (nnl ruL (M15.2.2.2 246 6)).bind fun y16 =>
  (f_Rule_stepsBy y16 M15).bind fun r17 =>
  f_Course_takeTurn_102 x1  r17.1 r17.2)
def f_Course_takeTurn (x1 : Int32) (M : mM) : Option (mM) := (f_State_lies 247 x1 M).bind fun r1 =>
  (if r1.1 = 0 then
  some r1.2
else
  (rd r1.2 251 11 x1).bind fun v3 =>
  (if v3 ≤ 0 then
  (rd r1.2 250 11 x1).bind fun v5 =>
  (if v5 = 3 then
  some r1.2
else
  (f_Course_fartherBy x1 r1.2).bind fun r7 =>
  (if r7.1 ≤ 0 then
  (rd r7.2 250 11 x1).bind fun v9 =>
  (if v9 = 0 then
  f_Course_takeTurn_77 x1  1 r7.2
else
  f_Course_takeTurn_77 x1  2 r7.2)
else
  some r7.2))
else
  (rd r1.2 251 11 x1).bind fun v20 =>
  (wr r1.2 251 11 x1 (v20 - 1)).bind fun M21 =>
  some M21))
def f_Course_moveStones_155  (k20 : Int32 → Int32 → mM → Option (mM)) (l1 : Int32) (l2 : Int32) (M : mM) : Option (mM) := k20 l1 (l2 + 1) M
def f_Course_moveStones_154  (k20 : Int32 → Int32 → mM → Option (mM)) (l1 : Int32) (l2 : Int32) (s1 : Int32) (s2 : Int32) (M : mM) : Option (mM) := (wr M 255 11 s1 s2).bind fun M15 =>
  f_Course_moveStones_155  k20 l1 l2 M15
def f_Course_moveStones_107  (k20 : Int32 → Int32 → mM → Option (mM)) (l1 : Int32) (l2 : Int32) (M : mM) : Option (mM) := (rd M 256 11 l2).bind fun v10 =>
  (wr M 256 11 l2 (v10 - 1)).bind fun M11 =>
  (rd M11 256 11 l2).bind fun v12 =>
  (if v12 = (-1) then
  f_Course_moveStones_154  k20 l1 l2 l2 (-1) M11
else
  (rd M11 255 11 l2).bind fun v14 =>
  f_Course_moveStones_154  k20 l1 l2 l2 v14 M11)
def f_Course_moveStones_74  (k20 : Int32 → Int32 → mM → Option (mM)) (l1 : Int32) (l2 : Int32) (s0 : Int32) (M : mM) : Option (mM) := (rd M 256 11 l2).bind fun v6 =>
  (if v6 = (-1) then
  f_Course_moveStones_155  k20 l1 l2 M
else
  (if s0 = 0 then
  f_Course_moveStones_155  k20 l1 l2 M
else
  (if l1 = 0 then
  (nnl ydL (M.2.2.2 246 5)).bind fun y16 =>
  (f_Yard_isHeavy y16 l2 M).bind fun r17 =>
  (if r17.1 = 0 then
  f_Course_moveStones_107  k20 l1 l2 r17.2
else
  f_Course_moveStones_155  k20 l1 l2 r17.2)
else
  f_Course_moveStones_107  k20 l1 l2 M)))
def f_Course_moveStones_69  (k20 : Int32 → Int32 → mM → Option (mM)) (l1 : Int32) (l2 : Int32) (M : mM) : Option (mM) := f_Course_moveStones_74  k20 l1 l2 1 M
def f_Course_moveStones_20   : Nat → Int32 → Int32 → mM → Option (mM)
  | 0, _, _, _ => none
  | n + 1, l1, l2, M => (if (M.2.1 247 1) ≤ l2 then
  some M
else
  (if 11 ≤ l2 then
  some M
else
  (f_State_lies 247 l2 M).bind fun r4 =>
  (if r4.1 = 0 then
  f_Course_moveStones_69  (f_Course_moveStones_20   n) l1 l2 r4.2
else
  (rd r4.2 249 11 l2).bind fun v19 =>
  (rd r4.2 256 11 l2).bind fun v20 =>
  (if v20 ≤ v19 then
  f_Course_moveStones_74  (f_Course_moveStones_20   n) l1 l2 0 r4.2
else
  f_Course_moveStones_69  (f_Course_moveStones_20   n) l1 l2 r4.2))))
def f_Course_moveStones_17   (s0 : Int32) (M : mM) : Option (mM) := f_Course_moveStones_20   FUEL s0 0 M
def f_Course_moveStones  (M : mM) : Option (mM) := (if ((M.2.1 247 0) - (M.2.1 247 0) / 2 * 2) = 0 then
  f_Course_moveStones_17   1 M
else
  f_Course_moveStones_17   0 M)
def f_Course_goYear_80    (M : mM) : Option (mM) := (f_Course_moveStones  M).bind fun M6 =>
  (pI M6 247 0 ((M6.2.1 247 0) + 1)).bind fun M7 =>
  some M7
def f_Course_goYear_50   : Nat → Int32 → mM → Option (mM)
  | 0, _, _ => none
  | n + 1, l1, M => (if (M.2.1 246 10) ≤ l1 then
  f_Course_goYear_80    M
else
  (if 11 ≤ l1 then
  f_Course_goYear_80    M
else
  (rd M 266 11 l1).bind fun v9 =>
  (f_Course_takeTurn v9 M).bind fun M10 =>
  f_Course_goYear_50   n (l1 + 1) M10))
def f_Course_goYear_44    (M : mM) : Option (mM) := (f_Course_takeOrder  M).bind fun M4 =>
  f_Course_goYear_50   FUEL 0 M4
def f_Course_goYear_30   (s1 : Int32) (M : mM) : Option (mM) := (pZ M 246 7 s1).bind fun M2 =>
  (if (M2.2.1 246 7) = 0 then
  f_Course_goYear_44    M2
else
  (f_Course_floodRows  M2).bind fun M11 =>
  f_Course_goYear_44    M11)
def f_Course_goYear_25    (M : mM) : Option (mM) := f_Course_goYear_30   1 M
def f_Course_goYear  (M : mM) : Option (mM) := (if (M.2.1 246 4) = 0 then
  (nnl ydL (M.2.2.2 246 5)).bind fun y12 =>
  (f_Yard_isFlood y12 (M.2.1 247 0) M).bind fun r13 =>
  (if r13.1 = 0 then
  f_Course_goYear_30   0 r13.2
else
  f_Course_goYear_25    r13.2)
else
  f_Course_goYear_25    M)
def f_GraveRails_year  (M : mM) : Option (Int32 × mM) := (f_Yard_isTold 21 M).bind fun r1 =>
  (if r1.1 = 0 then
  some ((-1), r1.2)
else
  (if (r1.2.2.1 29 0) < 999 then
  (f_Acts_keep 29 r1.2).bind fun M4 =>
  (f_GraveRails_startFromNow  M4).bind fun M5 =>
  (f_Course_goYear  M5).bind fun M6 =>
  (f_State_copyFrom 29 247 M6).bind fun M7 =>
  some ((M7.2.1 246 2), M7)
else
  some ((-1), r1.2)))
def f_GraveRails_isFree (x1 : Int32) (x2 : Int32) (M : mM) : Option (Int32 × mM) := (f_Yard_hasPlace 21 x1 x2 M).bind fun r1 =>
  (if r1.1 = 0 then
  some (0, r1.2)
else
  (f_State_graveAt 29 x1 x2 r1.2).bind fun r3 =>
  (if r3.1 = (-1) then
  some (1, r3.2)
else
  some (0, r3.2)))
def f_GraveRails_dig (x1 : Int32) (x2 : Int32) (x3 : Int32) (M : mM) : Option (Int32 × mM) := (f_GraveRails_isFree x1 x2 M).bind fun r1 =>
  (if r1.1 = 0 then
  some ((-1), r1.2)
else
  (if x3 < 0 then
  some ((-1), r1.2)
else
  (if 3 < x3 then
  some ((-1), r1.2)
else
  (if (r1.2.2.1 29 1) < 10 then
  (f_Acts_keep 29 r1.2).bind fun M6 =>
  (f_State_add 29 x1 x2 x3 M6).bind fun M7 =>
  some (((M7.2.1 29 1) - 1), M7)
else
  some ((-1), r1.2)))))
def f_GraveRails_pay (x1 : Int32) (M : mM) : Option (Int32 × mM) := (f_State_has 29 x1 M).bind fun r1 =>
  (if r1.1 = 0 then
  some (0, r1.2)
else
  (rd r1.2 32 11 x1).bind fun v3 =>
  (if v3 = 2 then
  (f_State_lies 29 x1 r1.2).bind fun r5 =>
  (if r5.1 = 0 then
  some (0, r5.2)
else
  (f_Acts_keep 29 r5.2).bind fun M7 =>
  (wr M7 32 11 x1 0).bind fun M8 =>
  some (1, M8))
else
  some (0, r1.2)))
def f_Course_freeze_108 (x1 : Int32) (k7 : Int32 → Int32 → Int32 → mM → Option (Int32 × mM)) (l2 : Int32) (l3 : Int32) (l4 : Int32) (M : mM) : Option (Int32 × mM) := k7 l2 l3 (l4 + 1) M
def f_Course_freeze_105 (x1 : Int32) (k7 : Int32 → Int32 → Int32 → mM → Option (Int32 × mM)) (l2 : Int32) (l3 : Int32) (l4 : Int32) (M : mM) : Option (Int32 × mM) := f_Course_freeze_108 x1 k7 l2 (l3 + 1) l4 M
def f_Course_freeze_75 (x1 : Int32) (k7 : Int32 → Int32 → Int32 → mM → Option (Int32 × mM)) (l2 : Int32) (l3 : Int32) (l4 : Int32) (l5 : Int32) (s0 : Int32) (M : mM) : Option (Int32 × mM) := (if s0 = 0 then
  (if l4 ≤ l3 then
  f_Course_freeze_105 x1 k7 l2 l3 l4 M
else
  (f_Course_comeTo l5 x1 l3 M).bind fun M10 =>
  f_Course_freeze_105 x1 k7 (l2 + 1) l3 l4 M10)
else
  f_Course_freeze_105 x1 k7 l2 l4 l4 M)
def f_Course_freeze_70 (x1 : Int32) (k7 : Int32 → Int32 → Int32 → mM → Option (Int32 × mM)) (l2 : Int32) (l3 : Int32) (l4 : Int32) (l5 : Int32) (M : mM) : Option (Int32 × mM) := f_Course_freeze_75 x1 k7 l2 l3 l4 l5 1 M
def f_Course_freeze_7 (x1 : Int32)  : Nat → Int32 → Int32 → Int32 → mM → Option (Int32 × mM)
  | 0, _, _, _, _ => none
  | n + 1, l2, l3, l4, M => (nnl ydL (M.2.2.2 246 5)).bind fun y1 =>
  (if (M.2.1 y1 1) ≤ l4 then
  some (l2, M)
else
  (f_State_graveAt 247 x1 l4 M).bind fun r3 =>
  (f_State_has 247 r3.1 r3.2).bind fun r4 =>
  (if r4.1 = 0 then
  f_Course_freeze_108 x1 (f_Course_freeze_7 x1  n) l2 l3 l4 r4.2
else
  (rd r4.2 250 11 r3.1).bind fun v6 =>
  (if v6 = 3 then
  f_Course_freeze_70 x1 (f_Course_freeze_7 x1  n) l2 l3 l4 r3.1 r4.2
else
  (rd r4.2 251 11 r3.1).bind fun v11 =>
  (if v11 ≤ 0 then
  f_Course_freeze_75 x1 (f_Course_freeze_7 x1  n) l2 l3 l4 r3.1 0 r4.2
else
  f_Course_freeze_70 x1 (f_Course_freeze_7 x1  n) l2 l3 l4 r3.1 r4.2))))
def f_Course_freeze (x1 : Int32) (M : mM) : Option (Int32 × mM) := f_Course_freeze_7 x1  FUEL 0 0 0 M
def f_GraveRails_frost (x1 : Int32) (M : mM) : Option (Int32 × mM) := (if x1 < 0 then
  some ((-1), M)
else
  (if x1 < (M.2.1 21 0) then
  (f_GraveRails_startFromNow  M).bind fun M3 =>
  (f_Course_freeze x1 M3).bind fun r4 =>
  (if r4.1 = 0 then
  some ((-1), r4.2)
else
  (f_Acts_keep 29 r4.2).bind fun M6 =>
  (f_State_copyFrom 29 247 M6).bind fun M7 =>
  some (r4.1, M7))
else
  some ((-1), M)))
def f_Acts_takeBack (x1 : Nat) (M : mM) : Option (Int32 × mM) := (if 0 < (M.2.1 44 0) then
  (pI M 44 1 ((((M.2.1 44 1) + 20) - 1) - (((M.2.1 44 1) + 20) - 1) / 20 * 20)).bind fun M2 =>
  (pI M2 44 0 ((M2.2.1 44 0) - 1)).bind fun M3 =>
  (f_Acts_nextOne  M3).bind fun r4 =>
  (if r4.1 = none then
  some (1, r4.2)
else
  (nnl stL r4.1).bind fun y5 =>
  (f_State_copyFrom x1 y5 r4.2).bind fun M6 =>
  some (1, M6))
else
  some (0, M))
def f_GraveRails_undo  (M : mM) : Option (Int32 × mM) := (f_Acts_takeBack 29 M).bind fun r1 =>
  (if r1.1 = 0 then
  some ((-1), r1.2)
else
  some ((r1.2.2.1 44 0), r1.2))
def f_GraveRails_ahead_44 (x1 : Int32) (x2 : Int32) (x3 : Int32)  : Nat → Int32 → mM → Option (Int32 × mM)
  | 0, _, _ => none
  | n + 1, l4, M => (if x2 ≤ l4 then
  (if x3 = 0 then
  (rd M 248 11 x1).bind fun v11 =>
  some (v11, M)
else
  (rd M 249 11 x1).bind fun v10 =>
  some (v10, M))
else
  (f_Course_goYear  M).bind fun M12 =>
  f_GraveRails_ahead_44 x1 x2 x3  n (l4 + 1) M12)
def f_GraveRails_ahead (x1 : Int32) (x2 : Int32) (x3 : Int32) (M : mM) : Option (Int32 × mM) := (f_State_has 29 x1 M).bind fun r1 =>
  (if r1.1 = 0 then
  some ((-2), r1.2)
else
  (if x2 < 0 then
  some ((-2), r1.2)
else
  (if 200 < x2 then
  some ((-2), r1.2)
else
  (if x3 < 0 then
  some ((-2), r1.2)
else
  (if x3 ≤ 1 then
  (f_GraveRails_startFromNow  r1.2).bind fun M7 =>
  f_GraveRails_ahead_44 x1 x2 x3  FUEL 0 M7
else
  some ((-2), r1.2))))))
def f_GraveRails_fall_56 (x1 : Int32)   (M : mM) : Option (Int32 × mM) := (f_State_lies 247 x1 M).bind fun r5 =>
  (if r5.1 = 0 then
  (rd r5.2 252 11 x1).bind fun v7 =>
  some (v7, r5.2)
else
  some ((-2), r5.2))
def f_GraveRails_fall_22 (x1 : Int32)  : Nat → Int32 → mM → Option (Int32 × mM)
  | 0, _, _ => none
  | n + 1, l2, M => (if 200 ≤ l2 then
  f_GraveRails_fall_56 x1   M
else
  (f_State_lies 247 x1 M).bind fun r8 =>
  (if r8.1 = 0 then
  f_GraveRails_fall_56 x1   r8.2
else
  (f_Course_goYear  r8.2).bind fun M10 =>
  f_GraveRails_fall_22 x1  n (l2 + 1) M10))
def f_GraveRails_fall (x1 : Int32) (M : mM) : Option (Int32 × mM) := (f_State_has 29 x1 M).bind fun r1 =>
  (if r1.1 = 0 then
  some ((-1), r1.2)
else
  (f_GraveRails_startFromNow  r1.2).bind fun M3 =>
  f_GraveRails_fall_22 x1  FUEL 0 M3)
def f_GraveRails_abreast_50 (x1 : Int32) (x2 : Int32)  : Nat → Int32 → mM → Option (Int32 × mM)
  | 0, _, _ => none
  | n + 1, l4, M => (if 200 < l4 then
  some ((-2), M)
else
  (f_State_lies 247 x1 M).bind fun r8 =>
  (if r8.1 = 0 then
  some ((-2), r8.2)
else
  (f_State_lies 247 x2 r8.2).bind fun r10 =>
  (if r10.1 = 0 then
  some ((-2), r10.2)
else
  (rd r10.2 249 11 x1).bind fun v12 =>
  (rd r10.2 249 11 x2).bind fun v13 =>
  (if v12 = v13 then
  some ((r10.2.2.1 247 0), r10.2)
else
  (f_Course_goYear  r10.2).bind fun M15 =>
  f_GraveRails_abreast_50 x1 x2  n (l4 + 1) M15))))
def f_GraveRails_abreast (x1 : Int32) (x2 : Int32) (M : mM) : Option (Int32 × mM) := (f_State_has 29 x1 M).bind fun r1 =>
  (if r1.1 = 0 then
  some ((-1), r1.2)
else
  (f_State_has 29 x2 r1.2).bind fun r3 =>
  (if r3.1 = 0 then
  some ((-1), r3.2)
else
  (if x1 = x2 then
  some ((-1), r3.2)
else
  (f_GraveRails_startFromNow  r3.2).bind fun M6 =>
  f_GraveRails_abreast_50 x1 x2  FUEL 0 M6)))
def f_GraveRails_fallsWithOneDugAt_71 (x1 : Int32) (x2 : Int32) (x3 : Int32)  (l5 : Int32) (M : mM) : Option (Int32 × mM) := (f_State_has 247 x1 M).bind fun r4 =>
  (if r4.1 = 0 then
  some (0, r4.2)
else
  (f_State_has 247 l5 r4.2).bind fun r6 =>
  (if r6.1 = 0 then
  some (0, r6.2)
else
  (f_State_lies 247 x1 r6.2).bind fun r8 =>
  (if r8.1 = 0 then
  (f_State_lies 247 l5 r8.2).bind fun r10 =>
  (if r10.1 = 0 then
  (rd r10.2 252 11 x1).bind fun v12 =>
  (rd r10.2 252 11 l5).bind fun v13 =>
  (if v12 = v13 then
  some (1, r10.2)
else
  some (0, r10.2))
else
  some (0, r10.2))
else
  some (0, r8.2))))
def f_GraveRails_fallsWithOneDugAt_31 (x1 : Int32) (x2 : Int32) (x3 : Int32)  : Nat → Int32 → Int32 → mM → Option (Int32 × mM)
  | 0, _, _, _ => none
  | n + 1, l5, l6, M => (if 200 ≤ l6 then
  f_GraveRails_fallsWithOneDugAt_71 x1 x2 x3  l5 M
else
  (f_State_lies 247 x1 M).bind fun r15 =>
  (if r15.1 = 0 then
  f_GraveRails_fallsWithOneDugAt_71 x1 x2 x3  l5 r15.2
else
  (f_State_lies 247 l5 r15.2).bind fun r17 =>
  (if r17.1 = 0 then
  f_GraveRails_fallsWithOneDugAt_71 x1 x2 x3  l5 r17.2
else
  (f_Course_goYear  r17.2).bind fun M19 =>
  f_GraveRails_fallsWithOneDugAt_31 x1 x2 x3  n l5 (l6 + 1) M19)))
def f_GraveRails_fallsWithOneDugAt (x1 : Int32) (x2 : Int32) (x3 : Int32) (M : mM) : Option (Int32 × mM) := (f_GraveRails_startFromNow  M).bind fun M1 =>
  (f_State_add 247 x2 x3 0 M1).bind fun M2 =>
  f_GraveRails_fallsWithOneDugAt_31 x1 x2 x3  FUEL (M1.2.1 247 1) 0 M2
def f_GraveRails_begin_123 (x1 : Int32) (x2 : Int32) (k38 : Int32 → Int32 → Int32 → Int32 → mM → Option (Int32 × mM)) (k56 : Int32 → Int32 → Int32 → Int32 → Int32 → mM → Option (Int32 × mM)) (l3 : Int32) (l4 : Int32) (l5 : Int32) (l6 : Int32) (l7 : Int32) (M : mM) : Option (Int32 × mM) := k56 l3 l4 l5 l6 (l7 + 1) M
def f_GraveRails_begin_118 (x1 : Int32) (x2 : Int32) (k38 : Int32 → Int32 → Int32 → Int32 → mM → Option (Int32 × mM)) (k56 : Int32 → Int32 → Int32 → Int32 → Int32 → mM → Option (Int32 × mM)) (l3 : Int32) (l4 : Int32) (l6 : Int32) (l7 : Int32) (s0 : Int32) (M : mM) : Option (Int32 × mM) := f_GraveRails_begin_123 x1 x2 k38 k56 (l3 + 1) l4 s0 l6 l7 M
def f_GraveRails_begin_105 (x1 : Int32) (x2 : Int32) (k38 : Int32 → Int32 → Int32 → Int32 → mM → Option (Int32 × mM)) (k56 : Int32 → Int32 → Int32 → Int32 → Int32 → mM → Option (Int32 × mM)) (l3 : Int32) (l5 : Int32) (l6 : Int32) (l7 : Int32) (s0 : Int32) (M : mM) : Option (Int32 × mM) := (if l3 = 0 then
  f_GraveRails_begin_118 x1 x2 k38 k56 l3 s0 l6 l7 l7 M
else
  f_GraveRails_begin_118 x1 x2 k38 k56 l3 s0 l6 l7 l5 M)
def f_GraveRails_begin_56 (x1 : Int32) (x2 : Int32) (k38 : Int32 → Int32 → Int32 → Int32 → mM → Option (Int32 × mM)) : Nat → Int32 → Int32 → Int32 → Int32 → Int32 → mM → Option (Int32 × mM)
  | 0, _, _, _, _, _, _ => none
  | n + 1, l3, l4, l5, l6, l7, M => (if (M.2.1 21 1) ≤ l7 then
  k38 l3 l4 l5 (l6 + 1) M
else
  (f_GraveRails_isFree l6 l7 M).bind fun r9 =>
  (if r9.1 = 0 then
  f_GraveRails_begin_123 x1 x2 k38 (f_GraveRails_begin_56 x1 x2 k38 n) l3 l4 l5 l6 l7 r9.2
else
  (f_GraveRails_fallsWithOneDugAt x1 l6 l7 r9.2).bind fun r11 =>
  (if r11.1 = 0 then
  f_GraveRails_begin_123 x1 x2 k38 (f_GraveRails_begin_56 x1 x2 k38 n) l3 l4 l5 l6 l7 r11.2
else
  (if l3 = 0 then
  f_GraveRails_begin_105 x1 x2 k38 (f_GraveRails_begin_56 x1 x2 k38 n) l3 l5 l6 l7 l6 r11.2
else
  f_GraveRails_begin_105 x1 x2 k38 (f_GraveRails_begin_56 x1 x2 k38 n) l3 l5 l6 l7 l4 r11.2))))
def f_GraveRails_begin_38 (x1 : Int32) (x2 : Int32)  : Nat → Int32 → Int32 → Int32 → Int32 → mM → Option (Int32 × mM)
  | 0, _, _, _, _, _ => none
  | n + 1, l3, l4, l5, l6, M => (if (M.2.1 21 0) ≤ l6 then
  (if x2 = 0 then
  some (l3, M)
else
  (if x2 = 1 then
  some (l4, M)
else
  some (l5, M)))
else
  f_GraveRails_begin_56 x1 x2 (f_GraveRails_begin_38 x1 x2  n) FUEL l3 l4 l5 l6 0 M)
def f_GraveRails_begin (x1 : Int32) (x2 : Int32) (M : mM) : Option (Int32 × mM) := (f_State_has 29 x1 M).bind fun r1 =>
  (if r1.1 = 0 then
  some ((-1), r1.2)
else
  (if x2 < 0 then
  some ((-1), r1.2)
else
  (if x2 ≤ 2 then
  f_GraveRails_begin_38 x1 x2  FUEL 0 (-2) (-2) 0 r1.2
else
  some ((-1), r1.2))))
def f_Yard_becomeBare (S : Nat) (x1 : Nat) (M : mM) : Option (mM) := (pI M S 0 (M.2.1 x1 0)).bind fun M1 =>
  (pI M1 S 1 (M1.2.1 x1 1)).bind fun M2 =>
  (pC M2 (x1 + 6) (S + 6) 80).bind fun M3 =>
  some M3
def f_GraveRails_dug_158 (x1 : Int32) (x2 : Int32) (x3 : Int32) (x4 : Int32) (k113 : Int32 → Int32 → Int32 → Int32 → mM → Option (Int32 × mM)) (l5 : Int32) (l6 : Int32) (l7 : Int32) (l8 : Int32) (M : mM) : Option (Int32 × mM) := (f_Course_goYear  M).bind fun M17 =>
  k113 l5 l6 l7 (l8 + 1) M17
def f_GraveRails_dug_152 (x1 : Int32) (x2 : Int32) (x3 : Int32) (x4 : Int32) (k113 : Int32 → Int32 → Int32 → Int32 → mM → Option (Int32 × mM)) (l5 : Int32) (l8 : Int32) (s0 : Int32) (M : mM) : Option (Int32 × mM) := f_GraveRails_dug_158 x1 x2 x3 x4 k113 l5 s0 l8 l8 M
def f_GraveRails_dug_113 (x1 : Int32) (x2 : Int32) (x3 : Int32) (x4 : Int32)  : Nat → Int32 → Int32 → Int32 → Int32 → mM → Option (Int32 × mM)
  | 0, _, _, _, _, _ => none
  | n + 1, l5, l6, l7, l8, M => (if 40 < l8 then
  (if x4 = 0 then
  some (l5, M)
else
  (if x4 = 1 then
  some (l6, M)
else
  some (l7, M)))
else
  (rd M 249 11 0).bind fun v15 =>
  (if v15 = x3 then
  (if (l5 + 1) = 1 then
  f_GraveRails_dug_152 x1 x2 x3 x4 (f_GraveRails_dug_113 x1 x2 x3 x4  n) (l5 + 1) l8 l8 M
else
  f_GraveRails_dug_152 x1 x2 x3 x4 (f_GraveRails_dug_113 x1 x2 x3 x4  n) (l5 + 1) l8 l6 M)
else
  f_GraveRails_dug_158 x1 x2 x3 x4 (f_GraveRails_dug_113 x1 x2 x3 x4  n) l5 l6 l7 l8 M))
def f_GraveRails_dug (x1 : Int32) (x2 : Int32) (x3 : Int32) (x4 : Int32) (M : mM) : Option (Int32 × mM) := (if x1 < 0 then
  some ((-1), M)
else
  (if 2 < x1 then
  some ((-1), M)
else
  (f_Yard_hasPlace 21 x2 x3 M).bind fun r3 =>
  (if r3.1 = 0 then
  some ((-1), r3.2)
else
  (if x4 < 0 then
  some ((-1), r3.2)
else
  (if x4 ≤ 2 then
  (f_Yard_becomeBare 290 21 r3.2).bind fun M7 =>
  (f_State_startOf 298 290 M7).bind fun M8 =>
  (f_State_add 298 x2 ((M8.2.1 290 1) - 1) x1 M8).bind fun M9 =>
  (f_GraveRails_ruleInForce  M9).bind fun r10 =>
  (f_Course_start 290 298 r10.1 r10.2).bind fun M11 =>
  f_GraveRails_dug_113 x1 x2 x3 x4  FUEL 0 (-2) (-2) 0 M11
else
  some ((-1), r3.2))))))
def f_GraveRails_war_91 (x1 : Int32) (k34 : Int32 → Int32 → mM → Option (Int32 × mM)) (k42 : Int32 → Int32 → Int32 → mM → Option (Int32 × mM)) (l3 : Int32) (l4 : Int32) (s0 : Int32) (s1 : Int32) (M : mM) : Option (Int32 × mM) := k42 (s0 + s1) l3 (l4 + 1) M
def f_GraveRails_war_42 (x1 : Int32) (k34 : Int32 → Int32 → mM → Option (Int32 × mM)) : Nat → Int32 → Int32 → Int32 → mM → Option (Int32 × mM)
  | 0, _, _, _, _ => none
  | n + 1, l2, l3, l4, M => (if (M.2.1 21 0) ≤ l4 then
  (f_Course_goYear  M).bind fun M8 =>
  k34 l2 (l3 + 1) M8
else
  (f_State_graveAt 247 l4 ((M.2.1 21 1) - 1) M).bind fun r9 =>
  (if r9.1 = (-1) then
  f_GraveRails_war_91 x1 k34 (f_GraveRails_war_42 x1 k34 n) l3 l4 l2 1 r9.2
else
  f_GraveRails_war_91 x1 k34 (f_GraveRails_war_42 x1 k34 n) l3 l4 l2 0 r9.2))
def f_GraveRails_war_34 (x1 : Int32)  : Nat → Int32 → Int32 → mM → Option (Int32 × mM)
  | 0, _, _, _ => none
  | n + 1, l2, l3, M => (if x1 ≤ l3 then
  some (l2, M)
else
  f_GraveRails_war_42 x1 (f_GraveRails_war_34 x1  n) FUEL l2 l3 0 M)
def f_GraveRails_war (x1 : Int32) (M : mM) : Option (Int32 × mM) := (f_Yard_isTold 21 M).bind fun r1 =>
  (if r1.1 = 0 then
  some ((-1), r1.2)
else
  (if x1 < 1 then
  some ((-1), r1.2)
else
  (if x1 ≤ 50 then
  (f_GraveRails_startFromNow  r1.2).bind fun M5 =>
  f_GraveRails_war_34 x1  FUEL 0 0 M5
else
  some ((-1), r1.2))))
def f_GraveRails_order_56 (x1 : Int32)   (M : mM) : Option (Int32 × mM) := (if (M.2.1 246 2) ≤ x1 then
  some ((-2), M)
else
  (if 11 ≤ x1 then
  some ((-2), M)
else
  (rd M 257 11 x1).bind fun v8 =>
  some (v8, M)))
def f_GraveRails_order_25 (x1 : Int32)  : Nat → Int32 → mM → Option (Int32 × mM)
  | 0, _, _ => none
  | n + 1, l2, M => (if 200 ≤ l2 then
  f_GraveRails_order_56 x1   M
else
  (if x1 < (M.2.1 246 2) then
  f_GraveRails_order_56 x1   M
else
  (f_Course_goYear  M).bind fun M10 =>
  f_GraveRails_order_25 x1  n (l2 + 1) M10))
def f_GraveRails_order (x1 : Int32) (M : mM) : Option (Int32 × mM) := (f_Yard_isTold 21 M).bind fun r1 =>
  (if r1.1 = 0 then
  some ((-1), r1.2)
else
  (if 0 ≤ x1 then
  (f_GraveRails_startFromNow  r1.2).bind fun M4 =>
  f_GraveRails_order_25 x1  FUEL 0 M4
else
  some ((-1), r1.2)))
def f_Sights_add (S : Nat) (x1 : Int32) (x2 : Int32) (x3 : Int32) (M : mM) : Option (mM) := (if (M.2.1 S 0) < 0 then
  some M
else
  (if 10 ≤ (M.2.1 S 0) then
  some M
else
  (wr M (S + 1) 10 (M.2.1 S 0) x1).bind fun M3 =>
  (wr M3 (S + 2) 10 (M3.2.1 S 0) x2).bind fun M4 =>
  (wr M4 (S + 3) 10 (M4.2.1 S 0) x3).bind fun M5 =>
  (pI M5 S 0 ((M5.2.1 S 0) + 1)).bind fun M6 =>
  some M6))
def f_GraveRails_sight (x1 : Int32) (x2 : Int32) (x3 : Int32) (M : mM) : Option (Int32 × mM) := (if x1 = (-1) then
  (pI M 39 0 0).bind fun M11 =>
  (pZ M11 269 0 0).bind fun M12 =>
  some (0, M12)
else
  (if x1 < 0 then
  some ((-2), M)
else
  (if (M.2.1 21 2) ≤ x1 then
  some ((-2), M)
else
  (if x2 < 0 then
  some ((-2), M)
else
  (if (M.2.1 21 1) ≤ x2 then
  some ((-2), M)
else
  (if x3 < 0 then
  some ((-2), M)
else
  (if 99 < x3 then
  some ((-2), M)
else
  (if (M.2.1 39 0) < 10 then
  (f_Sights_add 39 x1 x2 x3 M).bind fun M9 =>
  (pZ M9 269 0 0).bind fun M10 =>
  some ((M10.2.1 39 0), M10)
else
  some ((-2), M)))))))))
def f_Sets_takeOpen_61  (k7 : Int32 → mM → Option (mM)) (l1 : Int32) (s1 : Int32) (s2 : Int32) (M : mM) : Option (mM) := (pI M 269 6 (s1 ||| s2)).bind fun M8 =>
  k7 (l1 + 1) M8
def f_Sets_takeOpen_54  (k7 : Int32 → mM → Option (mM)) (l1 : Int32) (s1 : Int32) (M : mM) : Option (mM) := f_Sets_takeOpen_61  k7 l1 s1 (1 <<< (l1 &&& 31)) M
def f_Sets_takeOpen_7   : Nat → Int32 → mM → Option (mM)
  | 0, _, _ => none
  | n + 1, l1, M => (nnl ydL (M.2.2.2 269 8)).bind fun y2 =>
  (if (M.2.1 y2 2) ≤ l1 then
  some M
else
  (if 11 ≤ l1 then
  some M
else
  (nnl ydL (M.2.2.2 269 8)).bind fun y5 =>
  (rd M (y5 + 3) 11 l1).bind fun v6 =>
  (if v6 = 0 then
  f_Sets_takeOpen_54  (f_Sets_takeOpen_7   n) l1 (M.2.1 269 6) M
else
  (nnl ydL (M.2.2.2 269 8)).bind fun y9 =>
  (rd M (y9 + 3) 11 l1).bind fun v10 =>
  (if v10 = 2 then
  f_Sets_takeOpen_54  (f_Sets_takeOpen_7   n) l1 (M.2.1 269 6) M
else
  f_Sets_takeOpen_61  (f_Sets_takeOpen_7   n) l1 (M.2.1 269 6) 0 M))))
def f_Sets_takeOpen  (M : mM) : Option (mM) := (pI M 269 6 0).bind fun M1 =>
  f_Sets_takeOpen_7   FUEL 0 M1
def f_Sets_startWith_69 (x1 : Int32)   (M : mM) : Option (mM) := (nnl ydL (M.2.2.2 269 8)).bind fun y4 =>
  (f_Course_start y4 280 (M.2.2.2 269 9) M).bind fun M5 =>
  some M5
def f_Sets_startWith_63 (x1 : Int32) (k13 : Int32 → mM → Option (mM)) (l3 : Int32) (M : mM) : Option (mM) := k13 (l3 + 1) M
def f_Sets_startWith_62 (x1 : Int32) (k13 : Int32 → mM → Option (mM)) (l3 : Int32) (s1 : Int32) (s2 : Int32) (M : mM) : Option (mM) := (wr M 283 11 s1 s2).bind fun M9 =>
  f_Sets_startWith_63 x1 k13 l3 M9
def f_Sets_startWith_13 (x1 : Int32)  : Nat → Int32 → mM → Option (mM)
  | 0, _, _ => none
  | n + 1, l3, M => (if (M.2.1 280 1) ≤ l3 then
  f_Sets_startWith_69 x1   M
else
  (if 11 ≤ l3 then
  f_Sets_startWith_69 x1   M
else
  (if (((M.2.1 269 6) >>> (l3 &&& 31)) &&& 1) = 0 then
  f_Sets_startWith_63 x1 (f_Sets_startWith_13 x1  n) l3 M
else
  (if ((x1 >>> (l3 &&& 31)) &&& 1) = 0 then
  f_Sets_startWith_62 x1 (f_Sets_startWith_13 x1  n) l3 l3 0 M
else
  f_Sets_startWith_62 x1 (f_Sets_startWith_13 x1  n) l3 l3 2 M))))
def f_Sets_startWith (x1 : Int32) (M : mM) : Option (mM) := (nnl ydL (M.2.2.2 269 8)).bind fun y1 =>
  (f_State_startOf 280 y1 M).bind fun M2 =>
  f_Sets_startWith_13 x1  FUEL 0 M2
def f_Sights_last_4 (S : Nat)  : Nat → Int32 → Int32 → mM → Option (Int32 × mM)
  | 0, _, _, _ => none
  | n + 1, l1, l2, M => (if (M.2.1 S 0) ≤ l2 then
  some (l1, M)
else
  (if 10 ≤ l2 then
  some (l1, M)
else
  (rd M (S + 3) 10 l2).bind fun v3 =>
  f_Sights_last_4 S  n (if l1 < v3 then v3 else l1) (l2 + 1) M))
def f_Sights_last (S : Nat) (M : mM) : Option (Int32 × mM) := f_Sights_last_4 S  FUEL (-1) 0 M
def f_Sights_agree_64 (S : Nat) (x1 : Nat) (k2 : Int32 → mM → Option (Int32 × mM)) (l2 : Int32) (M : mM) : Option (Int32 × mM) := k2 (l2 + 1) M
def f_Sights_agree_2 (S : Nat) (x1 : Nat)  : Nat → Int32 → mM → Option (Int32 × mM)
  | 0, _, _ => none
  | n + 1, l2, M => (if (M.2.1 S 0) ≤ l2 then
  some (1, M)
else
  (if 10 ≤ l2 then
  some (1, M)
else
  (rd M (S + 3) 10 l2).bind fun v3 =>
  (if v3 = (M.2.1 x1 0) then
  (rd M (S + 1) 10 l2).bind fun v5 =>
  (f_State_lies x1 v5 M).bind fun r6 =>
  (if r6.1 = 0 then
  some (0, r6.2)
else
  (rd r6.2 (S + 1) 10 l2).bind fun v8 =>
  (rd r6.2 (x1 + 2) 11 v8).bind fun v9 =>
  (rd r6.2 (S + 2) 10 l2).bind fun v10 =>
  (if v9 = v10 then
  f_Sights_agree_64 S x1 (f_Sights_agree_2 S x1  n) l2 r6.2
else
  some (0, r6.2)))
else
  f_Sights_agree_64 S x1 (f_Sights_agree_2 S x1  n) l2 M)))
def f_Sights_agree (S : Nat) (x1 : Nat) (M : mM) : Option (Int32 × mM) := f_Sights_agree_2 S x1  FUEL 0 M
def f_Sets_isSeen_56 (x1 : Int32) (x2 : Nat) (k18 : Int32 → Int32 → Int32 → mM → Option (Int32 × mM)) (l4 : Int32) (l5 : Int32) (l6 : Int32) (M : mM) : Option (Int32 × mM) := k18 l4 l5 (l6 + 1) M
def f_Sets_isSeen_18 (x1 : Int32) (x2 : Nat)  : Nat → Int32 → Int32 → Int32 → mM → Option (Int32 × mM)
  | 0, _, _, _, _ => none
  | n + 1, l4, l5, l6, M => (if l4 < l6 then
  if l5 = 0 ∨ l5 = 1 then some (l5, M) else none
else
  (if l5 = 0 then
  if l5 = 0 ∨ l5 = 1 then some (l5, M) else none
else
  (f_Sights_agree x2 247 M).bind fun r7 =>
  (if l4 ≤ l6 then
  f_Sets_isSeen_56 x1 x2 (f_Sets_isSeen_18 x1 x2  n) l4 r7.1 l6 r7.2
else
  (if r7.1 = 0 then
  f_Sets_isSeen_56 x1 x2 (f_Sets_isSeen_18 x1 x2  n) l4 r7.1 l6 r7.2
else
  (f_Course_goYear  r7.2).bind fun M10 =>
  f_Sets_isSeen_56 x1 x2 (f_Sets_isSeen_18 x1 x2  n) l4 r7.1 l6 M10))))
def f_Sets_isSeen (x1 : Int32) (x2 : Nat) (M : mM) : Option (Int32 × mM) := (f_Sets_startWith x1 M).bind fun M1 =>
  (f_Sights_last x2 M1).bind fun r2 =>
  f_Sets_isSeen_18 x1 x2  FUEL r2.1 1 0 r2.2
def f_Sets_find_104 (x1 : Nat) (x2 : Option Nat) (k37 : Int32 → mM → Option (mM)) (l4 : Int32) (M : mM) : Option (mM) := k37 (l4 + 1) M
def f_Sets_find_37 (x1 : Nat) (x2 : Option Nat)  : Nat → Int32 → mM → Option (mM)
  | 0, _, _ => none
  | n + 1, l4, M => (if 1024 ≤ l4 then
  (pI M 269 2 (-1)).bind fun M7 =>
  (pZ M7 269 0 1).bind fun M8 =>
  some M8
else
  (if (l4 &&& ((M.2.1 269 6) ^^^ (-1))) = 0 then
  (f_Sets_isSeen l4 (x1 + 19) M).bind fun r10 =>
  (if r10.1 = 0 then
  f_Sets_find_104 x1 x2 (f_Sets_find_37 x1 x2  n) l4 r10.2
else
  (if 1024 ≤ (r10.2.2.1 269 1) then
  f_Sets_find_104 x1 x2 (f_Sets_find_37 x1 x2  n) l4 r10.2
else
  (wr r10.2 270 1024 (r10.2.2.1 269 1) l4).bind fun M13 =>
  (pI M13 269 1 ((M13.2.1 269 1) + 1)).bind fun M14 =>
  f_Sets_find_104 x1 x2 (f_Sets_find_37 x1 x2  n) l4 M14))
else
  f_Sets_find_104 x1 x2 (f_Sets_find_37 x1 x2  n) l4 M))
def f_Sets_find (x1 : Nat) (x2 : Option Nat) (M : mM) : Option (mM) := (if (M.2.1 269 0) = 0 then
  (pR M 269 8 (some (x1 + 1))).bind fun M2 =>
  (pR M2 269 9 x2).bind fun M3 =>
  (f_Sets_takeOpen  M3).bind fun M4 =>
  (pI M4 269 1 0).bind fun M5 =>
  f_Sets_find_37 x1 x2  FUEL 0 M5
else
  some M)
def f_Sets_inAll_18   : Nat → Int32 → Int32 → mM → Option (Int32 × mM)
  | 0, _, _, _ => none
  | n + 1, l1, l2, M => (if (M.2.1 269 1) ≤ l2 then
  some (l1, M)
else
  (if 1024 ≤ l2 then
  some (l1, M)
else
  (rd M 270 1024 l2).bind fun v4 =>
  f_Sets_inAll_18   n (l1 &&& v4) (l2 + 1) M))
def f_Sets_inAll_15   (s0 : Int32) (M : mM) : Option (Int32 × mM) := f_Sets_inAll_18   FUEL s0 0 M
def f_Sets_inAll  (M : mM) : Option (Int32 × mM) := (if (M.2.1 269 1) ≤ 0 then
  f_Sets_inAll_15   0 M
else
  f_Sets_inAll_15   (M.2.1 269 6) M)
def f_Sets_inNone_18   : Nat → Int32 → Int32 → mM → Option (Int32 × mM)
  | 0, _, _, _ => none
  | n + 1, l1, l2, M => (if (M.2.1 269 1) ≤ l2 then
  some (l1, M)
else
  (if 1024 ≤ l2 then
  some (l1, M)
else
  (rd M 270 1024 l2).bind fun v4 =>
  f_Sets_inNone_18   n (l1 &&& (v4 ^^^ (-1))) (l2 + 1) M))
def f_Sets_inNone_15   (s0 : Int32) (M : mM) : Option (Int32 × mM) := f_Sets_inNone_18   FUEL s0 0 M
def f_Sets_inNone  (M : mM) : Option (Int32 × mM) := (if (M.2.1 269 1) ≤ 0 then
  f_Sets_inNone_15   0 M
else
  f_Sets_inNone_15   (M.2.1 269 6) M)
def f_GraveRails_unpaid (x1 : Int32) (M : mM) : Option (Int32 × mM) := (f_Yard_isTold 21 M).bind fun r1 =>
  (if r1.1 = 0 then
  some ((-1), r1.2)
else
  (if x1 < 0 then
  some ((-1), r1.2)
else
  (if x1 ≤ 2 then
  (f_GraveRails_ruleInForce  r1.2).bind fun r5 =>
  (f_Sets_find 20 r5.1 r5.2).bind fun M6 =>
  (if x1 = 0 then
  some ((M6.2.1 269 1), M6)
else
  (if x1 = 1 then
  (f_Sets_inAll  M6).bind fun r10 =>
  some (r10.1, r10.2)
else
  (f_Sets_inNone  M6).bind fun r9 =>
  some (r9.1, r9.2)))
else
  some ((-1), r1.2))))
def f_Sets_countCells_68 (x1 : Nat) (k2 : Int32 → mM → Option (mM)) (l2 : Int32) (M : mM) : Option (mM) := k2 (l2 + 1) M
def f_Sets_countCells_43 (x1 : Nat) (k2 : Int32 → mM → Option (mM)) (l2 : Int32) (s0 : Int32) (s1 : Int32) (M : mM) : Option (mM) := (if (s0 + s1) < 0 then
  f_Sets_countCells_68 x1 k2 l2 M
else
  (if 231 ≤ (s0 + s1) then
  f_Sets_countCells_68 x1 k2 l2 M
else
  (rd M 271 231 (s0 + s1)).bind fun v8 =>
  (wr M 271 231 (s0 + s1) (v8 + 1)).bind fun M9 =>
  f_Sets_countCells_68 x1 k2 l2 M9))
def f_Sets_countCells_2 (x1 : Nat)  : Nat → Int32 → mM → Option (mM)
  | 0, _, _ => none
  | n + 1, l2, M => (nnl ydL (M.2.2.2 269 8)).bind fun y1 =>
  (if (M.2.1 y1 2) ≤ l2 then
  some M
else
  (if 11 ≤ l2 then
  some M
else
  (f_State_lies x1 l2 M).bind fun r4 =>
  (if r4.1 = 0 then
  f_Sets_countCells_43 x1 (f_Sets_countCells_2 x1  n) l2 (l2 * 21) 0 r4.2
else
  (rd r4.2 (x1 + 2) 11 l2).bind fun v10 =>
  f_Sets_countCells_43 x1 (f_Sets_countCells_2 x1  n) l2 (l2 * 21) (v10 + 1) r4.2)))
def f_Sets_countCells (x1 : Nat) (M : mM) : Option (mM) := f_Sets_countCells_2 x1  FUEL 0 M
def f_Sets_mostAlike_45 (x1 : Int32) (k4 : Int32 → Int32 → mM → Option (Int32 × mM)) (l2 : Int32) (l3 : Int32) (M : mM) : Option (Int32 × mM) := k4 l2 (l3 + 1) M
def f_Sets_mostAlike_4 (x1 : Int32)  : Nat → Int32 → Int32 → mM → Option (Int32 × mM)
  | 0, _, _, _ => none
  | n + 1, l2, l3, M => (if 20 < l3 then
  some (l2, M)
else
  (if ((x1 * 21) + l3) < 0 then
  f_Sets_mostAlike_45 x1 (f_Sets_mostAlike_4 x1  n) l2 l3 M
else
  (if 231 ≤ ((x1 * 21) + l3) then
  f_Sets_mostAlike_45 x1 (f_Sets_mostAlike_4 x1  n) l2 l3 M
else
  (rd M 271 231 ((x1 * 21) + l3)).bind fun v4 =>
  f_Sets_mostAlike_45 x1 (f_Sets_mostAlike_4 x1  n) (if l2 < v4 then v4 else l2) l3 M)))
def f_Sets_mostAlike (x1 : Int32) (M : mM) : Option (Int32 × mM) := f_Sets_mostAlike_4 x1  FUEL 0 0 M
def f_Sets_part_166 (x1 : Int32) (k114 : Int32 → mM → Option (mM)) (l3 : Int32) (M : mM) : Option (mM) := k114 (l3 + 1) M
def f_Sets_part_155 (x1 : Int32) (k114 : Int32 → mM → Option (mM)) (l3 : Int32) (l4 : Int32) (M : mM) : Option (mM) := (pI M 269 3 l3).bind fun M12 =>
  (pI M12 269 4 l4).bind fun M13 =>
  f_Sets_part_166 x1 k114 l3 M13
def f_Sets_part_114 (x1 : Int32)  : Nat → Int32 → mM → Option (mM)
  | 0, _, _ => none
  | n + 1, l3, M => (nnl ydL (M.2.2.2 269 8)).bind fun y7 =>
  (if (M.2.1 y7 2) ≤ l3 then
  some M
else
  (if 11 ≤ l3 then
  some M
else
  (f_Sets_mostAlike l3 M).bind fun r10 =>
  (if (r10.2.2.1 269 3) = (-1) then
  f_Sets_part_155 x1 (f_Sets_part_114 x1  n) l3 r10.1 r10.2
else
  (if (r10.2.2.1 269 4) ≤ r10.1 then
  f_Sets_part_166 x1 (f_Sets_part_114 x1  n) l3 r10.2
else
  f_Sets_part_155 x1 (f_Sets_part_114 x1  n) l3 r10.1 r10.2))))
def f_Sets_part_102 (x1 : Int32)   (M : mM) : Option (mM) := (pI M 269 3 (-1)).bind fun M5 =>
  (pI M5 269 4 0).bind fun M6 =>
  f_Sets_part_114 x1  FUEL 0 M6
def f_Sets_part_88 (x1 : Int32) (k24 : Int32 → mM → Option (mM)) (l3 : Int32) (M : mM) : Option (mM) := (f_Sets_countCells 247 M).bind fun M19 =>
  k24 (l3 + 1) M19
def f_Sets_part_55 (x1 : Int32) (k24 : Int32 → mM → Option (mM)) : Nat → Int32 → Int32 → mM → Option (mM)
  | 0, _, _, _ => none
  | n + 1, l3, l4, M => (if x1 ≤ l4 then
  f_Sets_part_88 x1 k24 l3 M
else
  (if (M.2.1 247 1) ≤ (M.2.1 247 2) then
  f_Sets_part_88 x1 k24 l3 M
else
  (f_Course_goYear  M).bind fun M21 =>
  f_Sets_part_55 x1 k24 n l3 (l4 + 1) M21))
def f_Sets_part_24 (x1 : Int32)  : Nat → Int32 → mM → Option (mM)
  | 0, _, _ => none
  | n + 1, l3, M => (if (M.2.1 269 1) ≤ l3 then
  f_Sets_part_102 x1   M
else
  (if 1024 ≤ l3 then
  f_Sets_part_102 x1   M
else
  (rd M 270 1024 l3).bind fun v16 =>
  (f_Sets_startWith v16 M).bind fun M17 =>
  f_Sets_part_55 x1 (f_Sets_part_24 x1  n) FUEL l3 0 M17))
def f_Sets_part (x1 : Int32) (M : mM) : Option (mM) := (if x1 = (M.2.1 269 2) then
  some M
else
  (pI M 269 2 x1).bind fun M2 =>
  (f_J_fill 271 231 0 M2).bind fun M3 =>
  f_Sets_part_24 x1  FUEL 0 M3)
def f_GraveRails_look (x1 : Int32) (x2 : Int32) (M : mM) : Option (Int32 × mM) := (f_Yard_isTold 21 M).bind fun r1 =>
  (if r1.1 = 0 then
  some ((-1), r1.2)
else
  (if x1 < 0 then
  some ((-1), r1.2)
else
  (if 99 < x1 then
  some ((-1), r1.2)
else
  (if x2 < 0 then
  some ((-1), r1.2)
else
  (if x2 ≤ 1 then
  (f_GraveRails_ruleInForce  r1.2).bind fun r7 =>
  (f_Sets_find 20 r7.1 r7.2).bind fun M8 =>
  (if (M8.2.1 269 1) = 0 then
  some ((-2), M8)
else
  (if (M8.2.1 21 2) = 0 then
  some ((-2), M8)
else
  (f_Sets_part x1 M8).bind fun M11 =>
  (if x2 = 0 then
  some ((M11.2.1 269 3), M11)
else
  some ((M11.2.1 269 4), M11))))
else
  some ((-1), r1.2))))))
def f_GraveRails_seed (x1 : Int32) (M : mM) : Option (Int32 × mM) := (if 0 ≤ x1 then
  (pI M 20 4 x1).bind fun M2 =>
  some ((M.2.1 20 4), M2)
else
  some ((-1), M))
def f_GraveRails_drawn_140 (x1 : Int32) (x2 : Int32) (x3 : Int32) (x4 : Int32) (k80 : Int64 → Int32 → Int32 → Int32 → mM → Option (Int32 × mM)) (k93 : Int64 → Int32 → Int32 → Int32 → Int32 → mM → Option (Int32 × mM)) (l5 : Int64) (l7 : Int32) (l8 : Int32) (l9 : Int32) (l10 : Int32) (s1 : Int32) (M : mM) : Option (Int32 × mM) := (pZ M 246 4 s1).bind fun M16 =>
  (f_Course_goYear  M16).bind fun M17 =>
  k93 l5 l7 l8 l9 (l10 + 1) M17
def f_GraveRails_drawn_93 (x1 : Int32) (x2 : Int32) (x3 : Int32) (x4 : Int32) (k80 : Int64 → Int32 → Int32 → Int32 → mM → Option (Int32 × mM)) : Nat → Int64 → Int32 → Int32 → Int32 → Int32 → mM → Option (Int32 × mM)
  | 0, _, _, _, _, _, _ => none
  | n + 1, l5, l7, l8, l9, l10, M => (if x2 ≤ l10 then
  k80 l5 (l7 + (M.2.1 246 2)) (l8 + (M.2.1 246 3)) (l9 + 1) M
else
  (if 0 ≤ (lg_cmp (((((l5 * 1103515245) + 12345) - ((l5 * 1103515245) + 12345) / 2147483648 * 2147483648) / 65536) - ((((l5 * 1103515245) + 12345) - ((l5 * 1103515245) + 12345) / 2147483648 * 2147483648) / 65536) / 100 * 100) (Int32.toInt64 x3)) then
  f_GraveRails_drawn_140 x1 x2 x3 x4 k80 (f_GraveRails_drawn_93 x1 x2 x3 x4 k80 n) (((l5 * 1103515245) + 12345) - ((l5 * 1103515245) + 12345) / 2147483648 * 2147483648) l7 l8 l9 l10 0 M
else
  f_GraveRails_drawn_140 x1 x2 x3 x4 k80 (f_GraveRails_drawn_93 x1 x2 x3 x4 k80 n) (((l5 * 1103515245) + 12345) - ((l5 * 1103515245) + 12345) / 2147483648 * 2147483648) l7 l8 l9 l10 1 M))
def f_GraveRails_drawn_80 (x1 : Int32) (x2 : Int32) (x3 : Int32) (x4 : Int32)  : Nat → Int64 → Int32 → Int32 → Int32 → mM → Option (Int32 × mM)
  | 0, _, _, _, _, _ => none
  | n + 1, l5, l7, l8, l9, M => (if x1 ≤ l9 then
  (if x4 = 0 then
  some (l7, M)
else
  some (l8, M))
else
  (f_GraveRails_startFromNow  M).bind fun M13 =>
  f_GraveRails_drawn_93 x1 x2 x3 x4 (f_GraveRails_drawn_80 x1 x2 x3 x4  n) FUEL l5 l7 l8 l9 0 M13)
def f_GraveRails_drawn (x1 : Int32) (x2 : Int32) (x3 : Int32) (x4 : Int32) (M : mM) : Option (Int32 × mM) := (f_Yard_isTold 21 M).bind fun r1 =>
  (if r1.1 = 0 then
  some ((-1), r1.2)
else
  (if x1 < 1 then
  some ((-1), r1.2)
else
  (if 10 < x1 then
  some ((-1), r1.2)
else
  (if x2 < 1 then
  some ((-1), r1.2)
else
  (if 60 < x2 then
  some ((-1), r1.2)
else
  (if x3 < 0 then
  some ((-1), r1.2)
else
  (if 0 < (lg_cmp (Int32.toInt64 x3) 100) then
  some ((-1), r1.2)
else
  (if x4 < 0 then
  some ((-1), r1.2)
else
  (if x4 ≤ 1 then
  f_GraveRails_drawn_80 x1 x2 x3 x4  FUEL (Int32.toInt64 (r1.2.2.1 20 4)) 0 0 0 r1.2
else
  some ((-1), r1.2))))))))))
def f_State_whoIsHeld_35 (S : Nat) (k4 : Int32 → Int32 → mM → Option (Int32 × mM)) (l2 : Int32) (s0 : Int32) (s1 : Int32) (M : mM) : Option (Int32 × mM) := k4 (s0 ||| s1) (l2 + 1) M
def f_State_whoIsHeld_4 (S : Nat)  : Nat → Int32 → Int32 → mM → Option (Int32 × mM)
  | 0, _, _, _ => none
  | n + 1, l1, l2, M => (if (M.2.1 S 1) ≤ l2 then
  some (l1, M)
else
  (if 11 ≤ l2 then
  some (l1, M)
else
  (rd M (S + 4) 11 l2).bind fun v3 =>
  (if v3 ≤ 0 then
  f_State_whoIsHeld_35 S (f_State_whoIsHeld_4 S  n) l2 l1 0 M
else
  f_State_whoIsHeld_35 S (f_State_whoIsHeld_4 S  n) l2 l1 (1 <<< (l2 &&& 31)) M)))
def f_State_whoIsHeld (S : Nat) (M : mM) : Option (Int32 × mM) := f_State_whoIsHeld_4 S  FUEL 0 0 M
def f_State_allRounds_4 (S : Nat)  : Nat → Int32 → Int32 → mM → Option (Int32 × mM)
  | 0, _, _, _ => none
  | n + 1, l1, l2, M => (if (M.2.1 S 1) ≤ l2 then
  some (l1, M)
else
  (if 11 ≤ l2 then
  some (l1, M)
else
  (rd M (S + 7) 11 l2).bind fun v3 =>
  f_State_allRounds_4 S  n (l1 + v3) (l2 + 1) M))
def f_State_allRounds (S : Nat) (M : mM) : Option (Int32 × mM) := f_State_allRounds_4 S  FUEL 0 0 M
def f_GraveRails_count (x1 : Int32) (M : mM) : Option (Int32 × mM) := (if x1 = 0 then
  some ((M.2.1 21 0), M)
else if x1 = 1 then
  some ((M.2.1 21 1), M)
else if x1 = 2 then
  some ((M.2.1 29 1), M)
else if x1 = 3 then
  some ((M.2.1 0 4), M)
else if x1 = 4 then
  some ((M.2.1 20 3), M)
else if x1 = 5 then
  some ((M.2.1 29 0), M)
else if x1 = 6 then
  some ((M.2.1 29 2), M)
else if x1 = 7 then
  (f_State_whoIsHeld 29 M).bind fun r8 =>
  some (r8.1, r8.2)
else if x1 = 8 then
  some ((M.2.1 39 0), M)
else if x1 = 9 then
  some ((M.2.1 44 0), M)
else if x1 = 10 then
  some ((M.2.1 20 4), M)
else if x1 = 11 then
  some ((M.2.1 1 1), M)
else if x1 = 12 then
  (f_State_allRounds 29 M).bind fun r14 =>
  some (r14.1, r14.2)
else some ((-1), M))
def f_GraveRails_imageNumber (x1 : Int32) (M : mM) : Option (Option Nat × mM) := (if x1 < 0 then
  some (none, M)
else
  (if 4 ≤ x1 then
  some (none, M)
else
  (ix 4 x1).bind fun j3 =>
  some ((some (344 + 23 * j3)), M)))
def f_Sights_copyFrom (S : Nat) (x1 : Nat) (M : mM) : Option (mM) := (pI M S 0 (M.2.1 x1 0)).bind fun M1 =>
  (pC M1 (x1 + 1) (S + 1) 10).bind fun M2 =>
  (pC M2 (x1 + 2) (S + 2) 10).bind fun M3 =>
  (pC M3 (x1 + 3) (S + 3) 10).bind fun M4 =>
  some M4
def f_World_copyFrom (S : Nat) (x1 : Nat) (M : mM) : Option (mM) := (f_Yard_copyFrom (S + 1) (x1 + 1) M).bind fun M1 =>
  (f_State_copyFrom (S + 9) (x1 + 9) M1).bind fun M2 =>
  (f_Sights_copyFrom (S + 19) (x1 + 19) M2).bind fun M3 =>
  (pI M3 S 3 (M3.2.1 x1 3)).bind fun M4 =>
  (pI M4 S 4 (M4.2.1 x1 4)).bind fun M5 =>
  some M5
def f_GraveRails_image (x1 : Int32) (M : mM) : Option (Int32 × mM) := (f_GraveRails_imageNumber x1 M).bind fun r1 =>
  (if r1.1 = none then
  some ((-1), r1.2)
else
  (nnl woL r1.1).bind fun y2 =>
  (f_World_copyFrom y2 20 r1.2).bind fun M3 =>
  (pZ M3 y2 5 1).bind fun M4 =>
  some ((M4.2.1 29 0), M4))
def f_GraveRails_back (x1 : Int32) (M : mM) : Option (Int32 × mM) := (f_GraveRails_imageNumber x1 M).bind fun r1 =>
  (if r1.1 = none then
  some ((-1), r1.2)
else
  (nnl woL r1.1).bind fun y2 =>
  (if (r1.2.2.1 y2 5) = 0 then
  some ((-1), r1.2)
else
  (f_World_copyFrom 20 y2 r1.2).bind fun M4 =>
  (pI M4 44 0 0).bind fun M5 =>
  (pZ M5 269 0 0).bind fun M6 =>
  some ((M6.2.1 29 0), M6)))
def f_Model_four_3 (x1 : Int32)  : Nat → Int32 → mM → Option (mM)
  | 0, _, _ => none
  | n + 1, l2, M => (if l2 < 0 then
  some M
else
  (wrB M 437 400 (M.2.1 436 1) (Int8.toInt32 (Int32.toInt8 (x1 >>> (l2 &&& 31))))).bind fun M2 =>
  (pI M2 436 1 ((M2.2.1 436 1) + 1)).bind fun M3 =>
  f_Model_four_3 x1  n (l2 + (-8)) M3)
def f_Model_four (x1 : Int32) (M : mM) : Option (mM) := f_Model_four_3 x1  FUEL 24 M
def f_Model_feed (x1 : Int32) (x2 : Int32) (x3 : Int32) (x4 : Int32) (x5 : Int32) (M : mM) : Option (Int32 × mM) := (if ((M.2.1 436 1) + 20) ≤ 400 then
  (f_Model_four x1 M).bind fun M2 =>
  (f_Model_four x2 M2).bind fun M3 =>
  (f_Model_four x3 M3).bind fun M4 =>
  (f_Model_four x4 M4).bind fun M5 =>
  (f_Model_four x5 M5).bind fun M6 =>
  some ((M6.2.1 436 1), M6)
else
  some ((-1), M))
def f_Model_end (x1 : Int32) (M : mM) : Option (Int32 × mM) := (if x1 < 0 then
  some ((-1), M)
else
  (if x1 ≤ (M.2.1 436 1) then
  (pI M 436 1 x1).bind fun M3 =>
  some (x1, M3)
else
  some ((-1), M)))
def f_Model_see_38    (M : mM) : Option (Int32 × mM) := (if (M.2.1 436 1) ≤ (M.2.1 436 8) then
  some ((-1), M)
else
  (rd M 437 400 (M.2.1 436 8)).bind fun v3 =>
  some ((v3 &&& 255), M))
def f_Model_see_0   : Nat → mM → Option (Int32 × mM)
  | 0, _ => none
  | n + 1, M => (if (M.2.1 436 1) ≤ (M.2.1 436 8) then
  f_Model_see_38    M
else
  (rd M 437 400 (M.2.1 436 8)).bind fun v4 =>
  (if v4 = 32 then
  (pI M 436 8 ((M.2.1 436 8) + 1)).bind fun M6 =>
  f_Model_see_0   n  M6
else
  f_Model_see_38    M))
def f_Model_see  (M : mM) : Option (Int32 × mM) := f_Model_see_0   FUEL  M
def f_Model_isLetter (x1 : Int32) (M : mM) : Option (Int32 × mM) := (if (M.2.1 436 1) ≤ x1 then
  some (0, M)
else
  (rd M 437 400 x1).bind fun v2 =>
  (if v2 < 97 then
  some (0, M)
else
  (rd M 437 400 x1).bind fun v4 =>
  (if 122 < v4 then
  some (0, M)
else
  some (1, M))))
def f_Model_isWord_50 (x1 : Int64) (k10 : Int64 → Int32 → mM → Option (Int32 × mM)) (l3 : Int64) (l5 : Int32) (M : mM) : Option (Int32 × mM) := k10 l3 (l5 + 1) M
def f_Model_isWord_10 (x1 : Int64)  : Nat → Int64 → Int32 → mM → Option (Int32 × mM)
  | 0, _, _, _ => none
  | n + 1, l3, l5, M => (f_Model_isLetter ((M.2.1 436 8) + l5) M).bind fun r2 =>
  (if r2.1 = 0 then
  (if l5 ≤ 0 then
  some (0, r2.2)
else
  (if 8 ≤ l5 then
  some (0, r2.2)
else
  (if (lg_cmp l3 x1) = 0 then
  some (1, r2.2)
else
  some (0, r2.2))))
else
  (if 8 ≤ l5 then
  f_Model_isWord_50 x1 (f_Model_isWord_10 x1  n) l3 l5 r2.2
else
  (rd r2.2 437 400 ((r2.2.2.1 436 8) + l5)).bind fun v8 =>
  f_Model_isWord_50 x1 (f_Model_isWord_10 x1  n) ((l3 <<< (Int32.toInt64 8 &&& 63)) ||| (Int32.toInt64 v8)) l5 r2.2))
def f_Model_isWord (x1 : Int64) (M : mM) : Option (Int32 × mM) := (f_Model_see  M).bind fun r1 =>
  f_Model_isWord_10 x1  FUEL 0 0 r1.2
def f_Model_isYardWord  (M : mM) : Option (Int32 × mM) := (f_Model_isWord 2036429412 M).bind fun r1 =>
  (if r1.1 = 0 then
  (f_Model_isWord 444300621413 r1.2).bind fun r3 =>
  (if r3.1 = 0 then
  (f_Model_isWord 1885432178 r3.2).bind fun r5 =>
  (if r5.1 = 0 then
  (f_Model_isWord 1919905652 r5.2).bind fun r7 =>
  (if r7.1 = 0 then
  (f_Model_isWord 448377484921 r7.2).bind fun r9 =>
  (if r9.1 = 0 then
  (f_Model_isWord 439905906532 r9.2).bind fun r11 =>
  (if r11.1 = 0 then
  some (0, r11.2)
else
  some (1, r11.2))
else
  some (1, r9.2))
else
  some (1, r7.2))
else
  some (1, r5.2))
else
  some (1, r3.2))
else
  some (1, r1.2))
def f_Model_fails (x1 : Int32) (x2 : Int32) (M : mM) : Option (Int32 × mM) := (if (M.2.1 436 9) = 0 then
  (pI M 436 9 ((1 + (8 * x2)) + x1)).bind fun M2 =>
  some (0, M2)
else
  some (0, M))
def f_Model_passWord_0   : Nat → mM → Option (mM)
  | 0, _ => none
  | n + 1, M => (f_Model_isLetter (M.2.1 436 8) M).bind fun r1 =>
  (if r1.1 = 0 then
  some r1.2
else
  (pI r1.2 436 8 ((r1.2.2.1 436 8) + 1)).bind fun M3 =>
  f_Model_passWord_0   n  M3)
def f_Model_passWord  (M : mM) : Option (mM) := f_Model_passWord_0   FUEL  M
def f_Model_isDigit (x1 : Int32) (M : mM) : Option (Int32 × mM) := (if (M.2.1 436 1) ≤ x1 then
  some (0, M)
else
  (rd M 437 400 x1).bind fun v2 =>
  (if v2 < 48 then
  some (0, M)
else
  (rd M 437 400 x1).bind fun v4 =>
  (if 57 < v4 then
  some (0, M)
else
  some (1, M))))
def f_Model_in (x0 : Int64) (x2 : Int64) (x4 : Int64) (M : mM) : Option (Int32 × mM) := (if (lg_cmp x0 x2) < 0 then
  some (0, M)
else
  (if 0 < (lg_cmp x0 x4) then
  some (0, M)
else
  some (1, M)))
def f_Model_numberHere_117 (x1 : Int32) (x2 : Int32)  (l3 : Int32) (M : mM) : Option (Int32 × mM) := (f_Model_fails 1 l3 M).bind fun r8 =>
  (if r8.1 = 0 then
  some (0, r8.2)
else
  some (1, r8.2))
def f_Model_numberHere_75 (x1 : Int32) (x2 : Int32) (k34 : Int32 → Int32 → mM → Option (Int32 × mM)) (l3 : Int32) (l4 : Int32) (M : mM) : Option (Int32 × mM) := (pI M 436 8 ((M.2.1 436 8) + 1)).bind fun M13 =>
  k34 l3 l4 M13
def f_Model_numberHere_34 (x1 : Int32) (x2 : Int32)  : Nat → Int32 → Int32 → mM → Option (Int32 × mM)
  | 0, _, _, _ => none
  | n + 1, l3, l4, M => (f_Model_isDigit (M.2.1 436 8) M).bind fun r4 =>
  (if r4.1 = 0 then
  (pI r4.2 436 10 l4).bind fun M6 =>
  (if 5 < ((M6.2.1 436 8) - l3) then
  f_Model_numberHere_117 x1 x2  l3 M6
else
  (f_Model_in (Int32.toInt64 l4) (Int32.toInt64 x1) (Int32.toInt64 x2) M6).bind fun r10 =>
  (if r10.1 = 0 then
  f_Model_numberHere_117 x1 x2  l3 r10.2
else
  some (1, r10.2)))
else
  (if 5 ≤ ((r4.2.2.1 436 8) - l3) then
  f_Model_numberHere_75 x1 x2 (f_Model_numberHere_34 x1 x2  n) l3 l4 r4.2
else
  (rd r4.2 437 400 (r4.2.2.1 436 8)).bind fun v14 =>
  f_Model_numberHere_75 x1 x2 (f_Model_numberHere_34 x1 x2  n) l3 (((10 * l4) + v14) - 48) r4.2))
def f_Model_numberHere (x1 : Int32) (x2 : Int32) (M : mM) : Option (Int32 × mM) := (f_Model_see  M).bind fun r1 =>
  (f_Model_isDigit (r1.2.2.1 436 8) r1.2).bind fun r2 =>
  (if r2.1 = 0 then
  (f_Model_fails 0 (r2.2.2.1 436 8) r2.2).bind fun r15 =>
  if r15.1 = 0 ∨ r15.1 = 1 then some (r15.1, r15.2) else none
else
  f_Model_numberHere_34 x1 x2  FUEL (r2.2.2.1 436 8) 0 r2.2)
def f_Model_cellHere (x1 : Int32) (x2 : Int32) (x3 : Int32) (M : mM) : Option (Int32 × mM) := (f_Model_numberHere x2 x3 M).bind fun r1 =>
  (if r1.1 = 0 then
  some (0, r1.2)
else
  (wr r1.2 442 155 x1 (r1.2.2.1 436 10)).bind fun M3 =>
  some (1, M3))
def f_Model_isYardHere (x1 : Int32) (M : mM) : Option (Int32 × mM) := (rd M 442 155 0).bind fun v1 =>
  (if v1 ≤ 0 then
  (f_Model_passWord  M).bind fun M3 =>
  (f_Model_cellHere 0 1 4 M3).bind fun r4 =>
  (if r4.1 = 0 then
  some (0, r4.2)
else
  (f_Model_cellHere 1 2 20 r4.2).bind fun r6 =>
  (if r6.1 = 0 then
  some (0, r6.2)
else
  some (1, r6.2)))
else
  (f_Model_fails 4 x1 M).bind fun r8 =>
  if r8.1 = 0 ∨ r8.1 = 1 then some (r8.1, r8.2) else none)
def f_Model_takesWord (x1 : Int64) (M : mM) : Option (Int32 × mM) := (f_Model_isWord x1 M).bind fun r1 =>
  (if r1.1 = 0 then
  some (0, r1.2)
else
  (f_Model_passWord  r1.2).bind fun M3 =>
  some (1, M3))
def f_Model_kindHere  (M : mM) : Option (Int32 × mM) := (f_Model_takesWord 482854660462 M).bind fun r1 =>
  (if r1.1 = 0 then
  (f_Model_takesWord 426953501796 r1.2).bind fun r3 =>
  (if r3.1 = 0 then
  (f_Model_takesWord 129117192284516 r3.2).bind fun r5 =>
  (if r5.1 = 0 then
  (f_Model_takesWord 126943688025203 r5.2).bind fun r7 =>
  (if r7.1 = 0 then
  some ((-1), r7.2)
else
  some (3, r7.2))
else
  some (2, r5.2))
else
  some (1, r3.2))
else
  some (0, r1.2))
def f_Model_isGraveHere_154 (x1 : Int32) (k88 : Int32 → Int32 → Int32 → mM → Option (Int32 × mM)) (l2 : Int32) (l3 : Int32) (l4 : Int32) (M : mM) : Option (Int32 × mM) := k88 l2 l3 (l4 + 1) M
def f_Model_isGraveHere_88 (x1 : Int32)  : Nat → Int32 → Int32 → Int32 → mM → Option (Int32 × mM)
  | 0, _, _, _, _ => none
  | n + 1, l2, l3, l4, M => (rd M 442 155 2).bind fun v12 =>
  (if v12 ≤ l4 then
  (f_Model_see  M).bind fun r14 =>
  (f_Model_kindHere  r14.2).bind fun r15 =>
  (if 0 ≤ r15.1 then
  (wr r15.2 442 155 (l2 + 2) r15.1).bind fun M17 =>
  (wr M17 442 155 (l2 + 3) 0).bind fun M18 =>
  (wr M18 442 155 (l2 + 4) (-1)).bind fun M19 =>
  (wr M19 442 155 (l2 + 5) 0).bind fun M20 =>
  (wr M20 442 155 (l2 + 6) (-1)).bind fun M21 =>
  (wr M21 442 155 (l2 + 7) 0).bind fun M22 =>
  (wr M22 442 155 (l2 + 8) 0).bind fun M23 =>
  (rd M23 442 155 2).bind fun v24 =>
  (rd M23 442 155 l2).bind fun v25 =>
  (wr M23 442 155 (109 + (2 * v24)) v25).bind fun M26 =>
  (rd M26 442 155 2).bind fun v27 =>
  (rd M26 442 155 (l2 + 1)).bind fun v28 =>
  (wr M26 442 155 ((109 + (2 * v27)) + 1) v28).bind fun M29 =>
  (rd M29 442 155 2).bind fun v30 =>
  (wr M29 442 155 2 (v30 + 1)).bind fun M31 =>
  some (1, M31)
else
  (f_Model_fails 0 (r14.2.2.1 436 8) r15.2).bind fun r32 =>
  if r32.1 = 0 ∨ r32.1 = 1 then some (r32.1, r32.2) else none)
else
  (rd M 442 155 (10 + (9 * l4))).bind fun v34 =>
  (rd M 442 155 l2).bind fun v35 =>
  (if v34 = v35 then
  (rd M 442 155 ((10 + (9 * l4)) + 1)).bind fun v37 =>
  (rd M 442 155 (l2 + 1)).bind fun v38 =>
  (if v37 = v38 then
  (f_Model_fails 1 l3 M).bind fun r40 =>
  if r40.1 = 0 ∨ r40.1 = 1 then some (r40.1, r40.2) else none
else
  f_Model_isGraveHere_154 x1 (f_Model_isGraveHere_88 x1  n) l2 l3 l4 M)
else
  f_Model_isGraveHere_154 x1 (f_Model_isGraveHere_88 x1  n) l2 l3 l4 M))
def f_Model_isGraveHere (x1 : Int32) (M : mM) : Option (Int32 × mM) := (rd M 442 155 2).bind fun v1 =>
  (if v1 = 10 then
  (f_Model_fails 4 x1 M).bind fun r42 =>
  if r42.1 = 0 ∨ r42.1 = 1 then some (r42.1, r42.2) else none
else
  (f_Model_passWord  M).bind fun M3 =>
  (rd M3 442 155 2).bind fun v4 =>
  (rd M3 442 155 0).bind fun v5 =>
  (f_Model_cellHere (10 + (9 * v4)) 0 (v5 - 1) M3).bind fun r6 =>
  (if r6.1 = 0 then
  some (0, r6.2)
else
  (f_Model_see  r6.2).bind fun r8 =>
  (rd r8.2 442 155 1).bind fun v9 =>
  (f_Model_cellHere ((10 + (9 * v4)) + 1) 0 (v9 - 1) r8.2).bind fun r10 =>
  (if r10.1 = 0 then
  some (0, r10.2)
else
  f_Model_isGraveHere_88 x1  FUEL (10 + (9 * v4)) (r8.2.2.1 436 8) 0 r10.2)))
def f_Model_singleHere  (M : mM) : Option (Int32 × mM) := (f_Model_see  M).bind fun r1 =>
  (rd r1.2 442 155 2).bind fun v2 =>
  (f_Model_numberHere 0 (v2 - 1) r1.2).bind fun r3 =>
  (if r3.1 = 0 then
  some (0, r3.2)
else
  (rd r3.2 442 155 ((10 + (9 * (r3.2.2.1 436 10))) + 6)).bind fun v5 =>
  (if v5 < 0 then
  some (1, r3.2)
else
  (f_Model_fails 1 (r1.2.2.1 436 8) r3.2).bind fun r7 =>
  (if r7.1 = 0 then
  some (0, r7.2)
else
  some (1, r7.2))))
def f_Model_isPairHere  (M : mM) : Option (Int32 × mM) := (f_Model_passWord  M).bind fun M1 =>
  (f_Model_singleHere  M1).bind fun r2 =>
  (if r2.1 = 0 then
  some (0, r2.2)
else
  (f_Model_see  r2.2).bind fun r4 =>
  (f_Model_singleHere  r4.2).bind fun r5 =>
  (if r5.1 = 0 then
  some (0, r5.2)
else
  (if (r5.2.2.1 436 10) = (r2.2.2.1 436 10) then
  (f_Model_fails 1 (r4.2.2.1 436 8) r5.2).bind fun r10 =>
  if r10.1 = 0 ∨ r10.1 = 1 then some (r10.1, r10.2) else none
else
  (wr r5.2 442 155 ((10 + (9 * (r2.2.2.1 436 10))) + 6) (r5.2.2.1 436 10)).bind fun M8 =>
  (wr M8 442 155 ((10 + (9 * (M8.2.1 436 10))) + 6) (r2.2.2.1 436 10)).bind fun M9 =>
  some (1, M9))))
def f_Model_isRootHere_154 (x1 : Int32) (k88 : Int32 → Int32 → Int32 → mM → Option (Int32 × mM)) (l2 : Int32) (l3 : Int32) (l4 : Int32) (M : mM) : Option (Int32 × mM) := k88 l2 l3 (l4 + 1) M
def f_Model_isRootHere_88 (x1 : Int32)  : Nat → Int32 → Int32 → Int32 → mM → Option (Int32 × mM)
  | 0, _, _, _, _ => none
  | n + 1, l2, l3, l4, M => (rd M 442 155 5).bind fun v12 =>
  (if v12 ≤ l4 then
  (f_Model_cellHere (l2 + 2) 1 9 M).bind fun r14 =>
  (if r14.1 = 0 then
  some (0, r14.2)
else
  (rd r14.2 442 155 5).bind fun v16 =>
  (wr r14.2 442 155 5 (v16 + 1)).bind fun M17 =>
  some (1, M17))
else
  (rd M 442 155 (131 + (3 * l4))).bind fun v18 =>
  (rd M 442 155 l2).bind fun v19 =>
  (if v18 = v19 then
  (rd M 442 155 ((131 + (3 * l4)) + 1)).bind fun v21 =>
  (rd M 442 155 (l2 + 1)).bind fun v22 =>
  (if v21 = v22 then
  (f_Model_fails 1 l3 M).bind fun r24 =>
  if r24.1 = 0 ∨ r24.1 = 1 then some (r24.1, r24.2) else none
else
  f_Model_isRootHere_154 x1 (f_Model_isRootHere_88 x1  n) l2 l3 l4 M)
else
  f_Model_isRootHere_154 x1 (f_Model_isRootHere_88 x1  n) l2 l3 l4 M))
def f_Model_isRootHere (x1 : Int32) (M : mM) : Option (Int32 × mM) := (rd M 442 155 5).bind fun v1 =>
  (if v1 = 6 then
  (f_Model_fails 4 x1 M).bind fun r26 =>
  if r26.1 = 0 ∨ r26.1 = 1 then some (r26.1, r26.2) else none
else
  (f_Model_passWord  M).bind fun M3 =>
  (rd M3 442 155 5).bind fun v4 =>
  (rd M3 442 155 0).bind fun v5 =>
  (f_Model_cellHere (131 + (3 * v4)) 0 (v5 - 1) M3).bind fun r6 =>
  (if r6.1 = 0 then
  some (0, r6.2)
else
  (f_Model_see  r6.2).bind fun r8 =>
  (rd r8.2 442 155 1).bind fun v9 =>
  (f_Model_cellHere ((131 + (3 * v4)) + 1) 0 (v9 - 1) r8.2).bind fun r10 =>
  (if r10.1 = 0 then
  some (0, r10.2)
else
  f_Model_isRootHere_88 x1  FUEL (131 + (3 * v4)) (r8.2.2.1 436 8) 0 r10.2)))
def f_Model_isHeavyHere  (M : mM) : Option (Int32 × mM) := (f_Model_passWord  M).bind fun M1 =>
  (rd M1 442 155 2).bind fun v2 =>
  (f_Model_numberHere 0 (v2 - 1) M1).bind fun r3 =>
  (if r3.1 = 0 then
  some (0, r3.2)
else
  (wr r3.2 442 155 ((10 + (9 * (r3.2.2.1 436 10))) + 8) 1).bind fun M5 =>
  some (1, M5))
def f_Model_isFloodHere_58 (x1 : Int32)  : Nat → Int32 → Int32 → mM → Option (Int32 × mM)
  | 0, _, _, _ => none
  | n + 1, l2, l3, M => (rd M 442 155 6).bind fun v8 =>
  (if v8 ≤ l3 then
  (rd M 442 155 6).bind fun v10 =>
  (wr M 442 155 6 (v10 + 1)).bind fun M11 =>
  some (1, M11)
else
  (rd M 442 155 (149 + l3)).bind fun v12 =>
  (rd M 442 155 6).bind fun v13 =>
  (rd M 442 155 (149 + v13)).bind fun v14 =>
  (if v12 = v14 then
  (f_Model_fails 1 l2 M).bind fun r16 =>
  if r16.1 = 0 ∨ r16.1 = 1 then some (r16.1, r16.2) else none
else
  f_Model_isFloodHere_58 x1  n l2 (l3 + 1) M))
def f_Model_isFloodHere (x1 : Int32) (M : mM) : Option (Int32 × mM) := (rd M 442 155 6).bind fun v1 =>
  (if v1 = 6 then
  (f_Model_fails 4 x1 M).bind fun r18 =>
  if r18.1 = 0 ∨ r18.1 = 1 then some (r18.1, r18.2) else none
else
  (f_Model_passWord  M).bind fun M3 =>
  (f_Model_see  M3).bind fun r4 =>
  (rd r4.2 442 155 6).bind fun v5 =>
  (f_Model_cellHere (149 + v5) 0 99 r4.2).bind fun r6 =>
  (if r6.1 = 0 then
  some (0, r6.2)
else
  f_Model_isFloodHere_58 x1  FUEL (r4.2.2.1 436 8) 0 r6.2))
def f_Model_yardLineHere (x1 : Int32) (M : mM) : Option (Int32 × mM) := (f_Model_isWord 2036429412 M).bind fun r1 =>
  (if r1.1 = 0 then
  (rd r1.2 442 155 0).bind fun v3 =>
  (if v3 = 0 then
  (f_Model_fails 4 x1 r1.2).bind fun r23 =>
  if r23.1 = 0 ∨ r23.1 = 1 then some (r23.1, r23.2) else none
else
  (f_Model_isWord 444300621413 r1.2).bind fun r5 =>
  (if r5.1 = 0 then
  (f_Model_isWord 1885432178 r5.2).bind fun r7 =>
  (if r7.1 = 0 then
  (f_Model_isWord 1919905652 r7.2).bind fun r9 =>
  (if r9.1 = 0 then
  (f_Model_isWord 448377484921 r9.2).bind fun r11 =>
  (if r11.1 = 0 then
  (f_Model_isFloodHere x1 r11.2).bind fun r13 =>
  if r13.1 = 0 ∨ r13.1 = 1 then some (r13.1, r13.2) else none
else
  (f_Model_isHeavyHere  r11.2).bind fun r15 =>
  if r15.1 = 0 ∨ r15.1 = 1 then some (r15.1, r15.2) else none)
else
  (f_Model_isRootHere x1 r9.2).bind fun r17 =>
  if r17.1 = 0 ∨ r17.1 = 1 then some (r17.1, r17.2) else none)
else
  (f_Model_isPairHere  r7.2).bind fun r19 =>
  if r19.1 = 0 ∨ r19.1 = 1 then some (r19.1, r19.2) else none)
else
  (f_Model_isGraveHere x1 r5.2).bind fun r21 =>
  if r21.1 = 0 ∨ r21.1 = 1 then some (r21.1, r21.2) else none))
else
  (f_Model_isYardHere x1 r1.2).bind fun r25 =>
  if r25.1 = 0 ∨ r25.1 = 1 then some (r25.1, r25.2) else none)
def f_Model_makes (x1 : Int32) (M : mM) : Option (Int32 × mM) := (if (M.2.1 436 12) = 60 then
  (f_Model_fails 3 x1 M).bind fun r3 =>
  if r3.1 = 0 ∨ r3.1 = 1 then some (r3.1, r3.2) else none
else
  (pI M 436 12 ((M.2.1 436 12) + 1)).bind fun M2 =>
  some (1, M2))
def f_Model_puts (x1 : Int32) (x2 : Int32) (M : mM) : Option (mM) := (rd M 439 7 (M.2.1 436 11)).bind fun v1 =>
  (wr M 438 2400 ((400 * (M.2.1 436 11)) + v1) (x1 + (16 * x2))).bind fun M2 =>
  (rd M2 439 7 (M2.2.1 436 11)).bind fun v3 =>
  (wr M2 439 7 (M2.2.1 436 11) (v3 + 1)).bind fun M4 =>
  some M4
def f_Model_wordHere  (M : mM) : Option (Int32 × mM) := (f_Model_isWord 444300621413 M).bind fun r1 =>
  (if r1.1 = 0 then
  (f_Model_isWord 1818324581 r1.2).bind fun r3 =>
  (if r3.1 = 0 then
  (f_Model_isWord 1667591276 r3.2).bind fun r5 =>
  (if r5.1 = 0 then
  (f_Model_isWord 2036687218 r5.2).bind fun r7 =>
  (if r7.1 = 0 then
  (f_Model_isWord 6383461 r7.2).bind fun r9 =>
  (if r9.1 = 0 then
  (f_Model_isWord 426953501796 r9.2).bind fun r11 =>
  (if r11.1 = 0 then
  (f_Model_isWord 129117192284516 r11.2).bind fun r13 =>
  (if r13.1 = 0 then
  (f_Model_isWord 1885432178 r13.2).bind fun r15 =>
  (if r15.1 = 0 then
  (f_Model_isWord 418363302244 r15.2).bind fun r17 =>
  (if r17.1 = 0 then
  (f_Model_isWord 108187682958948 r17.2).bind fun r19 =>
  (if r19.1 = 0 then
  (f_Model_isWord 439905906532 r19.2).bind fun r21 =>
  (if r21.1 = 0 then
  (f_Model_isWord 112568616904046 r21.2).bind fun r23 =>
  (if r23.1 = 0 then
  some ((-1), r23.2)
else
  some (11, r23.2))
else
  some (10, r21.2))
else
  some (9, r19.2))
else
  some (8, r17.2))
else
  some (7, r15.2))
else
  some (6, r13.2))
else
  some (5, r11.2))
else
  some (4, r9.2))
else
  some (3, r7.2))
else
  some (2, r5.2))
else
  some (1, r3.2))
else
  some (0, r1.2))
def f_Model_value  (M : mM) : Option (Int32 × mM) := (f_Model_see  M).bind fun r1 =>
  (f_Model_isDigit (r1.2.2.1 436 8) r1.2).bind fun r2 =>
  (if r2.1 = 0 then
  (f_Model_wordHere  r2.2).bind fun r4 =>
  (if 0 ≤ r4.1 then
  (f_Model_makes (r1.2.2.1 436 8) r4.2).bind fun r6 =>
  (if r6.1 = 0 then
  some (0, r6.2)
else
  (f_Model_passWord  r6.2).bind fun M8 =>
  (f_Model_puts 1 r4.1 M8).bind fun M9 =>
  some (1, M9))
else
  (f_Model_fails 0 (r1.2.2.1 436 8) r4.2).bind fun r10 =>
  if r10.1 = 0 ∨ r10.1 = 1 then some (r10.1, r10.2) else none)
else
  (f_Model_numberHere 0 99999 r2.2).bind fun r12 =>
  (if r12.1 = 0 then
  some (0, r12.2)
else
  (f_Model_makes (r1.2.2.1 436 8) r12.2).bind fun r14 =>
  (if r14.1 = 0 then
  some (0, r14.2)
else
  (f_Model_puts 0 (r14.2.2.1 436 10) r14.2).bind fun M16 =>
  some (1, M16))))
def f_Model_term_74  (k9 : mM → Option (Int32 × mM)) (s0 : Int32) (M : mM) : Option (Int32 × mM) := (pI M 436 8 ((M.2.1 436 8) + 1)).bind fun M9 =>
  (f_Model_value  M9).bind fun r10 =>
  (if r10.1 = 0 then
  some (0, r10.2)
else
  (f_Model_puts s0 0 r10.2).bind fun M12 =>
  k9  M12)
def f_Model_term_36  (k9 : mM → Option (Int32 × mM))  (M : mM) : Option (Int32 × mM) := (rd M 437 400 (M.2.1 436 8)).bind fun v5 =>
  (if v5 = 42 then
  f_Model_term_74  k9 4 M
else
  (rd M 437 400 (M.2.1 436 8)).bind fun v7 =>
  (if v7 = 47 then
  f_Model_term_74  k9 5 M
else
  f_Model_term_74  k9 14 M))
def f_Model_term_9   : Nat → mM → Option (Int32 × mM)
  | 0, _ => none
  | n + 1, M => (f_Model_see  M).bind fun r3 =>
  (if r3.1 = 42 then
  f_Model_term_36  (f_Model_term_9   n)  r3.2
else
  (f_Model_see  r3.2).bind fun r13 =>
  (if r13.1 = 47 then
  f_Model_term_36  (f_Model_term_9   n)  r13.2
else
  (f_Model_see  r13.2).bind fun r15 =>
  (if r15.1 = 37 then
  f_Model_term_36  (f_Model_term_9   n)  r15.2
else
  some (1, r15.2))))
def f_Model_term  (M : mM) : Option (Int32 × mM) := (f_Model_value  M).bind fun r1 =>
  (if r1.1 = 0 then
  some (0, r1.2)
else
  f_Model_term_9   FUEL  r1.2)
def f_Model_sum_46  (k9 : mM → Option (Int32 × mM)) (s0 : Int32) (M : mM) : Option (Int32 × mM) := (pI M 436 8 ((M.2.1 436 8) + 1)).bind fun M7 =>
  (f_Model_term  M7).bind fun r8 =>
  (if r8.1 = 0 then
  some (0, r8.2)
else
  (f_Model_puts s0 0 r8.2).bind fun M10 =>
  k9  M10)
def f_Model_sum_27  (k9 : mM → Option (Int32 × mM))  (M : mM) : Option (Int32 × mM) := (rd M 437 400 (M.2.1 436 8)).bind fun v5 =>
  (if v5 = 43 then
  f_Model_sum_46  k9 2 M
else
  f_Model_sum_46  k9 3 M)
def f_Model_sum_9   : Nat → mM → Option (Int32 × mM)
  | 0, _ => none
  | n + 1, M => (f_Model_see  M).bind fun r3 =>
  (if r3.1 = 43 then
  f_Model_sum_27  (f_Model_sum_9   n)  r3.2
else
  (f_Model_see  r3.2).bind fun r11 =>
  (if r11.1 = 45 then
  f_Model_sum_27  (f_Model_sum_9   n)  r11.2
else
  some (1, r11.2)))
def f_Model_sum  (M : mM) : Option (Int32 × mM) := (f_Model_term  M).bind fun r1 =>
  (if r1.1 = 0 then
  some (0, r1.2)
else
  f_Model_sum_9   FUEL  r1.2)
def f_Model_opens (x1 : Int32) (M : mM) : Option (Int32 × mM) := (if (M.2.1 436 13) = 10 then
  (f_Model_fails 2 (M.2.1 436 8) M).bind fun r5 =>
  if r5.1 = 0 ∨ r5.1 = 1 then some (r5.1, r5.2) else none
else
  (pI M 436 13 ((M.2.1 436 13) + 1)).bind fun M2 =>
  (wr M2 443 400 (M2.2.1 436 16) x1).bind fun M3 =>
  (pI M3 436 16 ((M3.2.1 436 16) + 1)).bind fun M4 =>
  some (1, M4))
def f_Model_compare_152   (s0 : Int32) (M : mM) : Option (Int32 × mM) := (f_Model_sum  M).bind fun r13 =>
  (if r13.1 = 0 then
  some (0, r13.2)
else
  (f_Model_puts (6 + s0) 0 r13.2).bind fun M15 =>
  some (1, M15))
def f_Model_compare_105   (l1 : Int32) (l2 : Int32) (l3 : Int32) (M : mM) : Option (Int32 × mM) := (f_Model_makes l2 M).bind fun r8 =>
  (if r8.1 = 0 then
  some (0, r8.2)
else
  (if l1 = 60 then
  (if l3 = 0 then
  f_Model_compare_152   0 r8.2
else
  f_Model_compare_152   1 r8.2)
else
  (if l1 = 61 then
  f_Model_compare_152   2 r8.2
else
  (if l3 = 0 then
  f_Model_compare_152   4 r8.2
else
  f_Model_compare_152   3 r8.2))))
def f_Model_compare_90   (l1 : Int32) (l2 : Int32) (s0 : Int32) (M : mM) : Option (Int32 × mM) := (if s0 = 0 then
  f_Model_compare_105   l1 l2 s0 M
else
  (pI M 436 8 ((M.2.1 436 8) + 1)).bind fun M17 =>
  f_Model_compare_105   l1 l2 s0 M17)
def f_Model_compare_89   (l1 : Int32) (l2 : Int32) (M : mM) : Option (Int32 × mM) := f_Model_compare_90   l1 l2 0 M
def f_Model_compare_44   (l1 : Int32) (l2 : Int32) (M : mM) : Option (Int32 × mM) := (pI M 436 8 ((M.2.1 436 8) + 1)).bind fun M5 =>
  (if l1 = 61 then
  f_Model_compare_89   l1 l2 M5
else
  (if (M5.2.1 436 1) ≤ (M5.2.1 436 8) then
  f_Model_compare_89   l1 l2 M5
else
  (rd M5 437 400 (M5.2.1 436 8)).bind fun v19 =>
  (if v19 = 61 then
  f_Model_compare_90   l1 l2 1 M5
else
  f_Model_compare_89   l1 l2 M5)))
def f_Model_compare  (M : mM) : Option (Int32 × mM) := (f_Model_sum  M).bind fun r1 =>
  (if r1.1 = 0 then
  some (0, r1.2)
else
  (f_Model_see  r1.2).bind fun r3 =>
  (if r3.1 = 60 then
  f_Model_compare_44   r3.1 (r3.2.2.1 436 8) r3.2
else
  (if r3.1 = 61 then
  f_Model_compare_44   r3.1 (r3.2.2.1 436 8) r3.2
else
  (if r3.1 = 62 then
  f_Model_compare_44   r3.1 (r3.2.2.1 436 8) r3.2
else
  (f_Model_fails 0 (r3.2.2.1 436 8) r3.2).bind fun r23 =>
  if r23.1 = 0 ∨ r23.1 = 1 then some (r23.1, r23.2) else none))))
def f_Model_fact_2   : Nat → Int32 → mM → Option (Int32 × mM)
  | 0, _, _ => none
  | n + 1, l1, M => (if l1 = 0 then
  (f_Model_compare  M).bind fun r2 =>
  if r2.1 = 0 ∨ r2.1 = 1 then some (r2.1, r2.2) else none
else
  (f_Model_see  M).bind fun r4 =>
  (f_Model_isWord 7237492 r4.2).bind fun r5 =>
  (if r5.1 = 0 then
  (if r4.1 = 91 then
  (f_Model_opens 91 r5.2).bind fun r8 =>
  (if r8.1 = 0 then
  some (0, r8.2)
else
  (pI r8.2 436 8 ((r8.2.2.1 436 8) + 1)).bind fun M10 =>
  f_Model_fact_2   n 1 M10)
else
  f_Model_fact_2   n 0 r5.2)
else
  (f_Model_opens 11 r5.2).bind fun r11 =>
  (if r11.1 = 0 then
  some (0, r11.2)
else
  (f_Model_passWord  r11.2).bind fun M13 =>
  f_Model_fact_2   n 1 M13)))
def f_Model_fact  (M : mM) : Option (Int32 × mM) := f_Model_fact_2   FUEL 1 M
def f_Model_strength (x0 : Int32) (M : mM) : Option (Int32 × mM) := (if x0 = 13 then
  some (1, M)
else
  (if x0 = 12 then
  some (2, M)
else
  (if x0 = 11 then
  some (3, M)
else
  some (0, M))))
def f_Model_settles_0 (x1 : Int32)  : Nat → mM → Option (mM)
  | 0, _ => none
  | n + 1, M => (if (M.2.1 436 16) ≤ 0 then
  some M
else
  (rd M 443 400 ((M.2.1 436 16) - 1)).bind fun v2 =>
  (f_Model_strength v2 M).bind fun r3 =>
  (if r3.1 < x1 then
  some r3.2
else
  (pI r3.2 436 16 ((r3.2.2.1 436 16) - 1)).bind fun M5 =>
  (rd M5 443 400 (M5.2.1 436 16)).bind fun v6 =>
  (f_Model_puts v6 0 M5).bind fun M7 =>
  (rd M7 443 400 (M7.2.1 436 16)).bind fun v8 =>
  (if v8 = 11 then
  (pI M7 436 13 ((M7.2.1 436 13) - 1)).bind fun M10 =>
  f_Model_settles_0 x1  n  M10
else
  f_Model_settles_0 x1  n  M7)))
def f_Model_settles (x1 : Int32) (M : mM) : Option (mM) := f_Model_settles_0 x1  FUEL  M
def f_Model_isInside_2   : Nat → Int32 → mM → Option (Int32 × mM)
  | 0, _, _ => none
  | n + 1, l1, M => (if (M.2.1 436 16) ≤ l1 then
  some (0, M)
else
  (rd M 443 400 l1).bind fun v2 =>
  (if v2 = 91 then
  some (1, M)
else
  f_Model_isInside_2   n (l1 + 1) M))
def f_Model_isInside  (M : mM) : Option (Int32 × mM) := f_Model_isInside_2   FUEL 0 M
def f_Model_closes_5   : Nat → mM → Option (mM)
  | 0, _ => none
  | n + 1, M => (f_Model_see  M).bind fun r2 =>
  (if r2.1 = 93 then
  (f_Model_isInside  r2.2).bind fun r4 =>
  (if r4.1 = 0 then
  some r4.2
else
  (f_Model_settles 1 r4.2).bind fun M6 =>
  (pI M6 436 16 ((M6.2.1 436 16) - 1)).bind fun M7 =>
  (pI M7 436 13 ((M7.2.1 436 13) - 1)).bind fun M8 =>
  (pI M8 436 8 ((M8.2.1 436 8) + 1)).bind fun M9 =>
  (f_Model_settles 3 M9).bind fun M10 =>
  f_Model_closes_5   n  M10)
else
  some r2.2)
def f_Model_closes  (M : mM) : Option (mM) := (f_Model_settles 3 M).bind fun M1 =>
  f_Model_closes_5   FUEL  M1
def f_Model_tested_76  (k12 : Int32 → mM → Option (Int32 × mM)) (l1 : Int32) (s0 : Int32) (M : mM) : Option (Int32 × mM) := (f_Model_passWord  M).bind fun M18 =>
  (f_Model_strength s0 M18).bind fun r19 =>
  (f_Model_settles r19.1 r19.2).bind fun M20 =>
  (wr M20 443 400 (M20.2.1 436 16) s0).bind fun M21 =>
  (pI M21 436 16 ((M21.2.1 436 16) + 1)).bind fun M22 =>
  k12 l1 M22
def f_Model_tested_54  (k12 : Int32 → mM → Option (Int32 × mM)) (s0 : Int32) (M : mM) : Option (Int32 × mM) := (if s0 = 0 then
  k12 s0 M
else
  (f_Model_isWord 6385252 M).bind fun r16 =>
  (if r16.1 = 0 then
  f_Model_tested_76  k12 s0 13 r16.2
else
  f_Model_tested_76  k12 s0 12 r16.2))
def f_Model_tested_49  (k12 : Int32 → mM → Option (Int32 × mM))  (M : mM) : Option (Int32 × mM) := f_Model_tested_54  k12 1 M
def f_Model_tested_12   : Nat → Int32 → mM → Option (Int32 × mM)
  | 0, _, _ => none
  | n + 1, l1, M => (if l1 = 0 then
  (f_Model_isInside  M).bind fun r4 =>
  (if r4.1 = 0 then
  (f_Model_settles 1 r4.2).bind fun M6 =>
  some (1, M6)
else
  (f_Model_see  r4.2).bind fun r7 =>
  (f_Model_fails 0 (r7.2.2.1 436 8) r7.2).bind fun r8 =>
  if r8.1 = 0 ∨ r8.1 = 1 then some (r8.1, r8.2) else none)
else
  (f_Model_fact  M).bind fun r10 =>
  (if r10.1 = 0 then
  some (0, r10.2)
else
  (f_Model_closes  r10.2).bind fun M12 =>
  (f_Model_isWord 6385252 M12).bind fun r13 =>
  (if r13.1 = 0 then
  (f_Model_isWord 28530 r13.2).bind fun r23 =>
  (if r23.1 = 0 then
  f_Model_tested_54  (f_Model_tested_12   n) 0 r23.2
else
  f_Model_tested_49  (f_Model_tested_12   n)  r23.2)
else
  f_Model_tested_49  (f_Model_tested_12   n)  r13.2)))
def f_Model_tested  (M : mM) : Option (Int32 × mM) := (pI M 436 16 0).bind fun M1 =>
  (pI M1 436 13 0).bind fun M2 =>
  f_Model_tested_12   FUEL 1 M2
def f_Model_isGoHere_110   (l1 : Int32) (M : mM) : Option (Int32 × mM) := (rd M 439 7 (M.2.1 436 11)).bind fun v12 =>
  (wr M 440 288 (l1 + 3) v12).bind fun M13 =>
  (rd M13 441 6 (M13.2.1 436 11)).bind fun v14 =>
  (wr M13 441 6 (M13.2.1 436 11) (v14 + 1)).bind fun M15 =>
  some (1, M15)
def f_Model_isGoHere  (M : mM) : Option (Int32 × mM) := (f_Model_passWord  M).bind fun M1 =>
  (rd M1 441 6 (M1.2.1 436 11)).bind fun v2 =>
  (rd M1 439 7 (M1.2.1 436 11)).bind fun v3 =>
  (wr M1 440 288 ((48 * (M1.2.1 436 11)) + (4 * v2)) v3).bind fun M4 =>
  (f_Model_sum  M4).bind fun r5 =>
  (if r5.1 = 0 then
  some (0, r5.2)
else
  (rd r5.2 439 7 (r5.2.2.1 436 11)).bind fun v7 =>
  (wr r5.2 440 288 (((48 * (M1.2.1 436 11)) + (4 * v2)) + 1) v7).bind fun M8 =>
  (wr M8 440 288 (((48 * (M1.2.1 436 11)) + (4 * v2)) + 2) (-1)).bind fun M9 =>
  (f_Model_takesWord 26982 M9).bind fun r10 =>
  (if r10.1 = 0 then
  f_Model_isGoHere_110   ((48 * (M1.2.1 436 11)) + (4 * v2)) r10.2
else
  (rd r10.2 439 7 (r10.2.2.1 436 11)).bind fun v16 =>
  (wr r10.2 440 288 (((48 * (M1.2.1 436 11)) + (4 * v2)) + 2) v16).bind fun M17 =>
  (f_Model_tested  M17).bind fun r18 =>
  (if r18.1 = 0 then
  some (0, r18.2)
else
  f_Model_isGoHere_110   ((48 * (M1.2.1 436 11)) + (4 * v2)) r18.2)))
def f_Model_clauseHere_71   (l1 : Int32) (l2 : Int32) (s0 : Int32) (s1 : Int32) (M : mM) : Option (Int32 × mM) := (if s0 = s1 then
  (f_Model_fails 4 l1 M).bind fun r14 =>
  if r14.1 = 0 ∨ r14.1 = 1 then some (r14.1, r14.2) else none
else
  (pI M 436 14 ((M.2.1 436 14) + 1)).bind fun M8 =>
  (if l2 = 0 then
  (f_Model_isGoHere  M8).bind fun r10 =>
  if r10.1 = 0 ∨ r10.1 = 1 then some (r10.1, r10.2) else none
else
  (f_Model_yardLineHere l1 M8).bind fun r12 =>
  if r12.1 = 0 ∨ r12.1 = 1 then some (r12.1, r12.2) else none))
def f_Model_clauseHere_56   (l1 : Int32) (l2 : Int32) (M : mM) : Option (Int32 × mM) := (if l2 = 0 then
  f_Model_clauseHere_71   l1 l2 (M.2.1 436 14) 12 M
else
  f_Model_clauseHere_71   l1 l2 (M.2.1 436 14) 40 M)
def f_Model_clauseHere_49   (l1 : Int32) (M : mM) : Option (Int32 × mM) := (f_Model_fails 0 l1 M).bind fun r16 =>
  if r16.1 = 0 ∨ r16.1 = 1 then some (r16.1, r16.2) else none
def f_Model_clauseHere_24   (l1 : Int32) (s0 : Int32) (M : mM) : Option (Int32 × mM) := (if s0 = 0 then
  (f_Model_isWord 26479 M).bind fun r4 =>
  (if r4.1 = 0 then
  f_Model_clauseHere_49   l1 r4.2
else
  f_Model_clauseHere_56   l1 s0 r4.2)
else
  (f_Model_isYardWord  M).bind fun r18 =>
  (if r18.1 = 0 then
  f_Model_clauseHere_49   l1 r18.2
else
  f_Model_clauseHere_56   l1 s0 r18.2))
def f_Model_clauseHere  (M : mM) : Option (Int32 × mM) := (f_Model_see  M).bind fun r1 =>
  (if (r1.2.2.1 436 11) = 6 then
  f_Model_clauseHere_24   (r1.2.2.1 436 8) 1 r1.2
else
  f_Model_clauseHere_24   (r1.2.2.1 436 8) 0 r1.2)
def f_Model_readsAll_88    (M : mM) : Option (Int32 × mM) := (pI M 436 1 0).bind fun M9 =>
  (if (M9.2.1 436 9) = 0 then
  some (1, M9)
else
  some (0, M9))
def f_Model_readsAll_66   (l1 : Int32) (M : mM) : Option (Int32 × mM) := (if l1 = 0 then
  f_Model_readsAll_88    M
else
  (f_Model_see  M).bind fun r11 =>
  (if r11.1 = (-1) then
  f_Model_readsAll_88    r11.2
else
  (f_Model_fails 0 (r11.2.2.1 436 8) r11.2).bind fun r13 =>
  f_Model_readsAll_88    r13.2))
def f_Model_readsAll_35   : Nat → Int32 → mM → Option (Int32 × mM)
  | 0, _, _ => none
  | n + 1, l1, M => (if l1 = 0 then
  f_Model_readsAll_66   l1 M
else
  (f_Model_see  M).bind fun r14 =>
  (if r14.1 = 59 then
  (pI r14.2 436 8 ((r14.2.2.1 436 8) + 1)).bind fun M16 =>
  (f_Model_clauseHere  M16).bind fun r17 =>
  f_Model_readsAll_35   n r17.1 r17.2
else
  f_Model_readsAll_66   l1 r14.2))
def f_Model_readsAll  (M : mM) : Option (Int32 × mM) := (wr M 439 7 (M.2.1 436 11) 0).bind fun M1 =>
  (pI M1 436 14 0).bind fun M2 =>
  (pI M2 436 8 0).bind fun M3 =>
  (pI M3 436 9 0).bind fun M4 =>
  (pI M4 436 12 0).bind fun M5 =>
  (f_Model_clauseHere  M5).bind fun r6 =>
  f_Model_readsAll_35   FUEL r6.1 r6.2
def f_Model_rule  (M : mM) : Option (Int32 × mM) := (if (M.2.1 436 2) = 6 then
  some ((-1), M)
else
  (pI M 436 11 (M.2.1 436 2)).bind fun M2 =>
  (wr M2 441 6 (M2.2.1 436 11) 0).bind fun M3 =>
  (f_Model_readsAll  M3).bind fun r4 =>
  (if r4.1 = 0 then
  some (((-2) - (r4.2.2.1 436 9)), r4.2)
else
  (pI r4.2 436 2 ((r4.2.2.1 436 2) + 1)).bind fun M6 =>
  some (((M6.2.1 436 2) - 1), M6)))
def f_Model_graveOf (x1 : Int32) (x2 : Int32) (M : mM) : Option (Int32 × mM) := (rd M 446 226 ((10 + (9 * x1)) + x2)).bind fun v1 =>
  some (v1, M)
def f_Model_yard_94   : Nat → Int32 → mM → Option (Int32 × mM)
  | 0, _, _ => none
  | n + 1, l1, M => (rd M 446 226 2).bind fun v8 =>
  (if v8 ≤ l1 then
  (pI M 436 30 0).bind fun M10 =>
  (rd M10 446 226 2).bind fun v11 =>
  some (v11, M10)
else
  (f_Model_graveOf l1 0 M).bind fun r12 =>
  (wr r12.2 446 226 (186 + (4 * l1)) r12.1).bind fun M13 =>
  (f_Model_graveOf l1 1 M13).bind fun r14 =>
  (wr r14.2 446 226 ((186 + (4 * l1)) + 1) r14.1).bind fun M15 =>
  (f_Model_graveOf l1 2 M15).bind fun r16 =>
  (wr r16.2 446 226 ((186 + (4 * l1)) + 2) r16.1).bind fun M17 =>
  (f_Model_graveOf l1 6 M17).bind fun r18 =>
  (wr r18.2 446 226 ((186 + (4 * l1)) + 3) r18.1).bind fun M19 =>
  f_Model_yard_94   n (l1 + 1) M19)
def f_Model_yard_73  (k44 : Int32 → mM → Option (Int32 × mM)) (l1 : Int32) (s1 : Int32) (s2 : Int32) (M : mM) : Option (Int32 × mM) := (wr M 446 226 s1 s2).bind fun M21 =>
  k44 (l1 + 1) M21
def f_Model_yard_44   : Nat → Int32 → mM → Option (Int32 × mM)
  | 0, _, _ => none
  | n + 1, l1, M => (if 226 ≤ l1 then
  (rd M 446 226 2).bind fun v6 =>
  (wr M 446 226 4 v6).bind fun M7 =>
  f_Model_yard_94   FUEL 0 M7
else
  (if 155 ≤ l1 then
  f_Model_yard_73  (f_Model_yard_44   n) l1 l1 0 M
else
  (rd M 442 155 l1).bind fun v22 =>
  f_Model_yard_73  (f_Model_yard_44   n) l1 l1 v22 M))
def f_Model_yard_8   : Nat → Int32 → mM → Option (Int32 × mM)
  | 0, _, _ => none
  | n + 1, l1, M => (if 10 ≤ l1 then
  (f_Model_readsAll  M).bind fun r3 =>
  (if r3.1 = 0 then
  some (((-2) - (r3.2.2.1 436 9)), r3.2)
else
  f_Model_yard_44   FUEL 0 r3.2)
else
  (wr M 442 155 l1 0).bind fun M23 =>
  f_Model_yard_8   n (l1 + 1) M23)
def f_Model_yard  (M : mM) : Option (Int32 × mM) := (pI M 436 11 6).bind fun M1 =>
  f_Model_yard_8   FUEL 0 M1
def f_Model_isRule (x1 : Int32) (M : mM) : Option (Int32 × mM) := (if x1 < 0 then
  some (0, M)
else
  (if (M.2.1 436 2) ≤ x1 then
  some (0, M)
else
  some (1, M)))
def f_Model_force_16 (x1 : Int32)   (M : mM) : Option (Int32 × mM) := (pI M 436 21 x1).bind fun M2 =>
  some ((M.2.1 436 21), M2)
def f_Model_force (x1 : Int32) (M : mM) : Option (Int32 × mM) := (if x1 = (-1) then
  f_Model_force_16 x1   M
else
  (f_Model_isRule x1 M).bind fun r3 =>
  (if r3.1 = 0 then
  some ((-2), r3.2)
else
  f_Model_force_16 x1   r3.2))
def f_Model_isGrave (x1 : Int32) (M : mM) : Option (Int32 × mM) := (if x1 < 0 then
  some (0, M)
else
  (rd M 446 226 2).bind fun v2 =>
  (if v2 ≤ x1 then
  some (0, M)
else
  some (1, M)))
def f_Model_grave (x1 : Int32) (x2 : Int32) (M : mM) : Option (Int32 × mM) := (f_Model_isGrave x1 M).bind fun r1 =>
  (if r1.1 = 0 then
  some ((-2), r1.2)
else
  (f_Model_in (Int32.toInt64 x2) 0 7 r1.2).bind fun r3 =>
  (if r3.1 = 0 then
  some ((-2), r3.2)
else
  (f_Model_graveOf x1 x2 r3.2).bind fun r5 =>
  some (r5.1, r5.2)))
def f_Model_graveAt_34 (x1 : Int32) (x2 : Int32) (k2 : Int32 → mM → Option (Int32 × mM)) (l3 : Int32) (M : mM) : Option (Int32 × mM) := k2 (l3 + 1) M
def f_Model_graveAt_2 (x1 : Int32) (x2 : Int32)  : Nat → Int32 → mM → Option (Int32 × mM)
  | 0, _, _ => none
  | n + 1, l3, M => (rd M 446 226 2).bind fun v1 =>
  (if v1 ≤ l3 then
  some ((-1), M)
else
  (f_Model_graveOf l3 0 M).bind fun r3 =>
  (if r3.1 = x1 then
  (f_Model_graveOf l3 1 r3.2).bind fun r5 =>
  (if r5.1 = x2 then
  some (l3, r5.2)
else
  f_Model_graveAt_34 x1 x2 (f_Model_graveAt_2 x1 x2  n) l3 r5.2)
else
  f_Model_graveAt_34 x1 x2 (f_Model_graveAt_2 x1 x2  n) l3 r3.2))
def f_Model_graveAt (x1 : Int32) (x2 : Int32) (M : mM) : Option (Int32 × mM) := f_Model_graveAt_2 x1 x2  FUEL 0 M
def f_Model_stone (x1 : Int32) (x2 : Int32) (M : mM) : Option (Int32 × mM) := (f_Model_isGrave x1 M).bind fun r1 =>
  (if r1.1 = 0 then
  some ((-2), r1.2)
else
  (f_Model_in (Int32.toInt64 x2) 0 3 r1.2).bind fun r3 =>
  (if r3.1 = 0 then
  some ((-2), r3.2)
else
  (rd r3.2 446 226 (109 + (2 * x1))).bind fun v5 =>
  (rd r3.2 446 226 ((109 + (2 * x1)) + 1)).bind fun v6 =>
  (if x2 = 0 then
  some (v5, r3.2)
else
  (if x2 = 1 then
  some (v6, r3.2)
else
  (if x2 = 2 then
  (f_Model_graveOf x1 8 r3.2).bind fun r12 =>
  some (r12.1, r12.2)
else
  (if 0 ≤ v5 then
  (f_Model_graveAt v5 v6 r3.2).bind fun r11 =>
  some (r11.1, r11.2)
else
  some ((-1), r3.2)))))))
def f_Model_isPlace (x1 : Int32) (x2 : Int32) (M : mM) : Option (Int32 × mM) := (if x1 < 0 then
  some (0, M)
else
  (rd M 446 226 0).bind fun v2 =>
  (if v2 ≤ x1 then
  some (0, M)
else
  (if x2 < 0 then
  some (0, M)
else
  (rd M 446 226 1).bind fun v5 =>
  (if v5 ≤ x2 then
  some (0, M)
else
  some (1, M)))))
def f_Model_at (x1 : Int32) (x2 : Int32) (M : mM) : Option (Int32 × mM) := (f_Model_isPlace x1 x2 M).bind fun r1 =>
  (if r1.1 = 0 then
  some ((-2), r1.2)
else
  (f_Model_graveAt x1 x2 r1.2).bind fun r3 =>
  some (r3.1, r3.2))
def f_Model_rootAt_61 (x1 : Int32) (x2 : Int32) (k2 : Int32 → mM → Option (Int32 × mM)) (l3 : Int32) (M : mM) : Option (Int32 × mM) := k2 (l3 + 1) M
def f_Model_rootAt_2 (x1 : Int32) (x2 : Int32)  : Nat → Int32 → mM → Option (Int32 × mM)
  | 0, _, _ => none
  | n + 1, l3, M => (rd M 446 226 5).bind fun v1 =>
  (if v1 ≤ l3 then
  some (0, M)
else
  (rd M 446 226 (131 + (3 * l3))).bind fun v3 =>
  (if v3 = x1 then
  (rd M 446 226 ((131 + (3 * l3)) + 1)).bind fun v5 =>
  (if v5 = x2 then
  (rd M 446 226 ((131 + (3 * l3)) + 2)).bind fun v7 =>
  some (v7, M)
else
  f_Model_rootAt_61 x1 x2 (f_Model_rootAt_2 x1 x2  n) l3 M)
else
  f_Model_rootAt_61 x1 x2 (f_Model_rootAt_2 x1 x2  n) l3 M))
def f_Model_rootAt (x1 : Int32) (x2 : Int32) (M : mM) : Option (Int32 × mM) := f_Model_rootAt_2 x1 x2  FUEL 0 M
def f_Model_root (x1 : Int32) (x2 : Int32) (M : mM) : Option (Int32 × mM) := (f_Model_isPlace x1 x2 M).bind fun r1 =>
  (if r1.1 = 0 then
  some ((-1), r1.2)
else
  (f_Model_rootAt x1 x2 r1.2).bind fun r3 =>
  some (r3.1, r3.2))
def f_Model_undo_21   : Nat → Int32 → mM → Option (Int32 × mM)
  | 0, _, _ => none
  | n + 1, l1, M => (if 131 ≤ l1 then
  some ((M.2.1 436 30), M)
else
  (rd M 449 2620 ((131 * (M.2.1 436 30)) + l1)).bind fun v4 =>
  (wr M 446 226 l1 v4).bind fun M5 =>
  f_Model_undo_21   n (l1 + 1) M5)
def f_Model_undo  (M : mM) : Option (Int32 × mM) := (if (M.2.1 436 30) = 0 then
  some ((-1), M)
else
  (pI M 436 30 ((M.2.1 436 30) - 1)).bind fun M2 =>
  f_Model_undo_21   FUEL 0 M2)
def f_Model_isYard  (M : mM) : Option (Int32 × mM) := (rd M 446 226 0).bind fun v1 =>
  (if v1 ≤ 0 then
  some (0, M)
else
  some (1, M))
def f_Model_keepsAct_54   : Nat → Int32 → mM → Option (mM)
  | 0, _, _ => none
  | n + 1, l1, M => (if 131 ≤ l1 then
  (pI M 436 30 ((M.2.1 436 30) + 1)).bind fun M3 =>
  some M3
else
  (rd M 446 226 l1).bind fun v4 =>
  (wr M 449 2620 ((131 * (M.2.1 436 30)) + l1) v4).bind fun M5 =>
  f_Model_keepsAct_54   n (l1 + 1) M5)
def f_Model_keepsAct_52    (M : mM) : Option (mM) := f_Model_keepsAct_54   FUEL 0 M
def f_Model_keepsAct_13   : Nat → Int32 → mM → Option (mM)
  | 0, _, _ => none
  | n + 1, l1, M => (if 2620 ≤ l1 then
  (pI M 436 30 ((M.2.1 436 30) - 1)).bind fun M7 =>
  f_Model_keepsAct_52    M7
else
  (rd M 449 2620 l1).bind fun v8 =>
  (wr M 449 2620 (l1 - 131) v8).bind fun M9 =>
  f_Model_keepsAct_13   n (l1 + 1) M9)
def f_Model_keepsAct  (M : mM) : Option (mM) := (if (M.2.1 436 30) = 20 then
  f_Model_keepsAct_13   FUEL 131 M
else
  f_Model_keepsAct_52    M)
def f_Model_isFlood_46  (k7 : Int32 → Int32 → mM → Option (Int32 × mM)) (l2 : Int32) (s0 : Int32) (M : mM) : Option (Int32 × mM) := k7 s0 (l2 + 1) M
def f_Model_isFlood_41  (k7 : Int32 → Int32 → mM → Option (Int32 × mM)) (l2 : Int32) (M : mM) : Option (Int32 × mM) := f_Model_isFlood_46  k7 l2 1 M
def f_Model_isFlood_7   : Nat → Int32 → Int32 → mM → Option (Int32 × mM)
  | 0, _, _, _ => none
  | n + 1, l1, l2, M => (rd M 446 226 6).bind fun v1 =>
  (if v1 ≤ l2 then
  if l1 = 0 ∨ l1 = 1 then some (l1, M) else none
else
  (if l1 = 0 then
  (rd M 446 226 (149 + l2)).bind fun v5 =>
  (rd M 446 226 3).bind fun v6 =>
  (if v5 = v6 then
  f_Model_isFlood_41  (f_Model_isFlood_7   n) l2 M
else
  f_Model_isFlood_46  (f_Model_isFlood_7   n) l2 0 M)
else
  f_Model_isFlood_41  (f_Model_isFlood_7   n) l2 M))
def f_Model_isFlood  (M : mM) : Option (Int32 × mM) := f_Model_isFlood_7   FUEL (M.2.1 436 26) 0 M
def f_Model_sorts_61 (x1 : Int32) (k7 : Int32 → mM → Option (mM)) (k14 : Int32 → Int32 → mM → Option (mM)) (l2 : Int32) (l3 : Int32) (M : mM) : Option (mM) := k14 l2 (l3 + 1) M
def f_Model_sorts_14 (x1 : Int32) (k7 : Int32 → mM → Option (mM)) : Nat → Int32 → Int32 → mM → Option (mM)
  | 0, _, _, _ => none
  | n + 1, l2, l3, M => (rd M 446 226 0).bind fun v3 =>
  (if v3 ≤ l3 then
  k7 (l2 + 1) M
else
  (f_Model_graveAt l3 l2 M).bind fun r5 =>
  (if 0 ≤ r5.1 then
  (wr r5.2 448 11 (r5.2.2.1 436 28) r5.1).bind fun M7 =>
  (pI M7 436 28 ((M7.2.1 436 28) + 1)).bind fun M8 =>
  f_Model_sorts_61 x1 k7 (f_Model_sorts_14 x1 k7 n) l2 l3 M8
else
  f_Model_sorts_61 x1 k7 (f_Model_sorts_14 x1 k7 n) l2 l3 r5.2))
def f_Model_sorts_7 (x1 : Int32)  : Nat → Int32 → mM → Option (mM)
  | 0, _, _ => none
  | n + 1, l2, M => (if x1 < l2 then
  some M
else
  f_Model_sorts_14 x1 (f_Model_sorts_7 x1  n) FUEL l2 0 M)
def f_Model_sorts (x1 : Int32) (M : mM) : Option (mM) := (pI M 436 28 0).bind fun M1 =>
  f_Model_sorts_7 x1  FUEL 0 M1
def f_Model_falls (x1 : Int32) (M : mM) : Option (mM) := (wr M 446 226 (10 + (9 * x1)) (-1)).bind fun M1 =>
  (wr M1 446 226 ((10 + (9 * x1)) + 1) (-1)).bind fun M2 =>
  (wr M2 446 226 ((10 + (9 * x1)) + 3) 0).bind fun M3 =>
  (rd M3 446 226 3).bind fun v4 =>
  (wr M3 446 226 ((10 + (9 * x1)) + 4) v4).bind fun M5 =>
  (wr M5 447 11 (M5.2.1 436 24) x1).bind fun M6 =>
  (pI M6 436 24 ((M6.2.1 436 24) + 1)).bind fun M7 =>
  some M7
def f_Model_isFallen (x1 : Int32) (M : mM) : Option (Int32 × mM) := (f_Model_graveOf x1 0 M).bind fun r1 =>
  (if 0 ≤ r1.1 then
  some (0, r1.2)
else
  some (1, r1.2))
def f_Model_isNearer (x1 : Int32) (M : mM) : Option (Int32 × mM) := (f_Model_graveOf x1 6 M).bind fun r1 =>
  (if r1.1 < 0 then
  some (0, r1.2)
else
  (f_Model_isFallen r1.1 r1.2).bind fun r3 =>
  (if r3.1 = 0 then
  (f_Model_graveOf x1 1 r3.2).bind fun r5 =>
  (f_Model_graveOf r1.1 1 r5.2).bind fun r6 =>
  (if r6.1 ≤ r5.1 then
  some (0, r6.2)
else
  some (1, r6.2))
else
  some (0, r3.2)))
def f_Model_behindOf_50 (x1 : Int32) (k4 : Int32 → Int32 → mM → Option (Int32 × mM)) (l3 : Int32) (s0 : Int32) (s1 : Int32) (M : mM) : Option (Int32 × mM) := k4 (s0 + s1) (l3 + 1) M
def f_Model_behindOf_49 (x1 : Int32) (k4 : Int32 → Int32 → mM → Option (Int32 × mM)) (l3 : Int32) (s0 : Int32) (M : mM) : Option (Int32 × mM) := f_Model_behindOf_50 x1 k4 l3 s0 0 M
def f_Model_behindOf_4 (x1 : Int32)  : Nat → Int32 → Int32 → mM → Option (Int32 × mM)
  | 0, _, _, _ => none
  | n + 1, l2, l3, M => (rd M 446 226 2).bind fun v1 =>
  (if v1 ≤ l3 then
  some (l2, M)
else
  (f_Model_graveOf l3 0 M).bind fun r3 =>
  (f_Model_graveOf x1 0 r3.2).bind fun r4 =>
  (if r3.1 = r4.1 then
  (f_Model_graveOf l3 1 r4.2).bind fun r6 =>
  (f_Model_graveOf x1 1 r6.2).bind fun r7 =>
  (if r6.1 ≤ r7.1 then
  f_Model_behindOf_49 x1 (f_Model_behindOf_4 x1  n) l3 l2 r7.2
else
  f_Model_behindOf_50 x1 (f_Model_behindOf_4 x1  n) l3 l2 1 r7.2)
else
  f_Model_behindOf_49 x1 (f_Model_behindOf_4 x1  n) l3 l2 r4.2))
def f_Model_behindOf (x1 : Int32) (M : mM) : Option (Int32 × mM) := f_Model_behindOf_4 x1  FUEL 0 0 M
def f_Model_fallenMany_28  (k4 : Int32 → Int32 → mM → Option (Int32 × mM)) (l2 : Int32) (s0 : Int32) (s1 : Int32) (M : mM) : Option (Int32 × mM) := k4 (s0 + s1) (l2 + 1) M
def f_Model_fallenMany_4   : Nat → Int32 → Int32 → mM → Option (Int32 × mM)
  | 0, _, _, _ => none
  | n + 1, l1, l2, M => (rd M 446 226 2).bind fun v1 =>
  (if v1 ≤ l2 then
  some (l1, M)
else
  (f_Model_isFallen l2 M).bind fun r3 =>
  (if r3.1 = 0 then
  f_Model_fallenMany_28  (f_Model_fallenMany_4   n) l2 l1 0 r3.2
else
  f_Model_fallenMany_28  (f_Model_fallenMany_4   n) l2 l1 1 r3.2))
def f_Model_fallenMany  (M : mM) : Option (Int32 × mM) := f_Model_fallenMany_4   FUEL 0 0 M
def f_Model_push (x1 : Int64) (M : mM) : Option (mM) := (wrL M 444 64 (M.2.1 436 18) x1).bind fun M1 =>
  (pI M1 436 18 ((M1.2.1 436 18) + 1)).bind fun M2 =>
  some M2
def f_Model_pop  (M : mM) : Option (Int64 × mM) := (pI M 436 18 ((M.2.1 436 18) - 1)).bind fun M1 =>
  (rdL M1 444 64 (M1.2.1 436 18)).bind fun v2 =>
  some (v2, M1)
def f_Model_one (x0 : Int32) (x1 : Int64) (x3 : Int64) (M : mM) : Option (Int64 × mM) := (if x0 = 2 then
  some ((x1 + x3), M)
else if x0 = 3 then
  some ((x1 - x3), M)
else if x0 = 4 then
  some ((x1 * x3), M)
else if x0 = 5 then
  (if (lg_cmp x3 0) = 0 then
  some (0, M)
else
  if x3 = 0 then none else some ((x1 / x3), M))
else if x0 = 6 then
  (if 0 ≤ (lg_cmp x1 x3) then
  some (0, M)
else
  some (1, M))
else if x0 = 7 then
  (if 0 < (lg_cmp x1 x3) then
  some (0, M)
else
  some (1, M))
else if x0 = 8 then
  (if (lg_cmp x1 x3) = 0 then
  some (1, M)
else
  some (0, M))
else if x0 = 9 then
  (if (lg_cmp x1 x3) < 0 then
  some (0, M)
else
  some (1, M))
else if x0 = 10 then
  (if (lg_cmp x1 x3) ≤ 0 then
  some (0, M)
else
  some (1, M))
else if x0 = 11 then
  some ((x1 ||| x3), M)
else if x0 = 12 then
  some ((x1 &&& x3), M)
else if x0 = 13 then
  some ((x1 ||| x3), M)
else if x0 = 14 then
  (if (lg_cmp x3 0) = 0 then
  some (0, M)
else
  if x3 = 0 then none else some ((x1 - x1 / x3 * x3), M))
else some ((x1 ||| x3), M))
def f_Model_reckons_129 (x1 : Int32) (x2 : Int32) (x3 : Int32) (k8 : Int32 → mM → Option (Int64 × mM)) (l4 : Int32) (M : mM) : Option (Int64 × mM) := k8 (l4 + 1) M
def f_Model_reckons_8 (x1 : Int32) (x2 : Int32) (x3 : Int32)  : Nat → Int32 → mM → Option (Int64 × mM)
  | 0, _, _ => none
  | n + 1, l4, M => (if x3 ≤ l4 then
  (f_Model_pop  M).bind fun r3 =>
  some (r3.1, r3.2)
else
  (rd M 438 2400 ((400 * x1) + l4)).bind fun v4 =>
  (rd M 438 2400 ((400 * x1) + l4)).bind fun v5 =>
  (if (v4 &&& 15) = 0 then
  (f_Model_push (Int32.toInt64 (v5 >>> (4 &&& 31))) M).bind fun M17 =>
  f_Model_reckons_129 x1 x2 x3 (f_Model_reckons_8 x1 x2 x3  n) l4 M17
else
  (if (v4 &&& 15) = 1 then
  (rdL M 445 12 (v5 >>> (4 &&& 31))).bind fun v15 =>
  (f_Model_push v15 M).bind fun M16 =>
  f_Model_reckons_129 x1 x2 x3 (f_Model_reckons_8 x1 x2 x3  n) l4 M16
else
  (if (v4 &&& 15) = 11 then
  (f_Model_pop  M).bind fun r13 =>
  (f_Model_push (1 - r13.1) r13.2).bind fun M14 =>
  f_Model_reckons_129 x1 x2 x3 (f_Model_reckons_8 x1 x2 x3  n) l4 M14
else
  (f_Model_pop  M).bind fun r9 =>
  (f_Model_pop  r9.2).bind fun r10 =>
  (f_Model_one (v4 &&& 15) r10.1 r9.1 r10.2).bind fun r11 =>
  (f_Model_push r11.1 r11.2).bind fun M12 =>
  f_Model_reckons_129 x1 x2 x3 (f_Model_reckons_8 x1 x2 x3  n) l4 M12))))
def f_Model_reckons (x1 : Int32) (x2 : Int32) (x3 : Int32) (M : mM) : Option (Int64 × mM) := (pI M 436 18 0).bind fun M1 =>
  f_Model_reckons_8 x1 x2 x3  FUEL x2 M1
def f_Model_stepsOf_332 (x1 : Int32)  (l5 : Int32) (M : mM) : Option (Int32 × mM) := (rd M 440 288 l5).bind fun v34 =>
  (rd M 440 288 (l5 + 1)).bind fun v35 =>
  (f_Model_reckons (M.2.1 436 21) v34 v35 M).bind fun r36 =>
  (if 0 ≤ (lg_cmp r36.1 0) then
  (if (lg_cmp r36.1 9) ≤ 0 then
  some ((Int64.toInt32 r36.1), r36.2)
else
  some (9, r36.2))
else
  some (0, r36.2))
def f_Model_stepsOf_258 (x1 : Int32)  : Nat → Int32 → mM → Option (Int32 × mM)
  | 0, _, _ => none
  | n + 1, l4, M => (rd M 441 6 (M.2.1 436 21)).bind fun v30 =>
  (if v30 ≤ l4 then
  some (0, M)
else
  (rd M 440 288 (((48 * (M.2.1 436 21)) + (4 * l4)) + 2)).bind fun v32 =>
  (if v32 < 0 then
  f_Model_stepsOf_332 x1  ((48 * (M.2.1 436 21)) + (4 * l4)) M
else
  (rd M 440 288 (((48 * (M.2.1 436 21)) + (4 * l4)) + 2)).bind fun v39 =>
  (rd M 440 288 (((48 * (M.2.1 436 21)) + (4 * l4)) + 3)).bind fun v40 =>
  (f_Model_reckons (M.2.1 436 21) v39 v40 M).bind fun r41 =>
  (if (lg_cmp r41.1 1) = 0 then
  f_Model_stepsOf_332 x1  ((48 * (M.2.1 436 21)) + (4 * l4)) r41.2
else
  f_Model_stepsOf_258 x1  n (l4 + 1) r41.2)))
def f_Model_stepsOf_242 (x1 : Int32)  (s1 : Int32) (s2 : Int64) (M : mM) : Option (Int32 × mM) := (wrL M 445 12 s1 s2).bind fun M27 =>
  (f_Model_fallenMany  M27).bind fun r28 =>
  (wrL r28.2 445 12 11 (Int32.toInt64 r28.1)).bind fun M29 =>
  f_Model_stepsOf_258 x1  FUEL 0 M29
def f_Model_stepsOf_210 (x1 : Int32)  (s1 : Int32) (s2 : Int64) (M : mM) : Option (Int32 × mM) := (wrL M 445 12 s1 s2).bind fun M22 =>
  (f_Model_behindOf x1 M22).bind fun r23 =>
  (wrL r23.2 445 12 9 (Int32.toInt64 r23.1)).bind fun M24 =>
  (f_Model_isFlood  M24).bind fun r25 =>
  (if r25.1 = 0 then
  f_Model_stepsOf_242 x1  10 0 r25.2
else
  f_Model_stepsOf_242 x1  10 1 r25.2)
def f_Model_stepsOf_209 (x1 : Int32)  (s1 : Int32) (M : mM) : Option (Int32 × mM) := f_Model_stepsOf_210 x1  s1 0 M
def f_Model_stepsOf_168 (x1 : Int32)  (s1 : Int32) (s2 : Int64) (M : mM) : Option (Int32 × mM) := (wrL M 445 12 s1 s2).bind fun M19 =>
  (f_Model_graveOf x1 1 M19).bind fun r20 =>
  (if r20.1 ≤ 0 then
  f_Model_stepsOf_209 x1  8 r20.2
else
  (f_Model_graveOf x1 0 r20.2).bind fun r43 =>
  (f_Model_graveOf x1 1 r43.2).bind fun r44 =>
  (f_Model_graveAt r43.1 (r44.1 - 1) r44.2).bind fun r45 =>
  (if r45.1 < 0 then
  f_Model_stepsOf_209 x1  8 r45.2
else
  f_Model_stepsOf_210 x1  8 1 r45.2))
def f_Model_stepsOf_150 (x1 : Int32)  (s1 : Int32) (M : mM) : Option (Int32 × mM) := f_Model_stepsOf_168 x1  s1 0 M
def f_Model_stepsOf_131 (x1 : Int32)  (l3 : Int32) (s1 : Int32) (s2 : Int64) (M : mM) : Option (Int32 × mM) := (wrL M 445 12 s1 s2).bind fun M17 =>
  (if l3 < 0 then
  f_Model_stepsOf_150 x1  7 M17
else
  (f_Model_isFallen l3 M17).bind fun r47 =>
  (if r47.1 = 0 then
  (f_Model_graveOf l3 1 r47.2).bind fun r49 =>
  (f_Model_graveOf x1 1 r49.2).bind fun r50 =>
  f_Model_stepsOf_168 x1  7 (Int32.toInt64 (r49.1 - r50.1)) r50.2
else
  f_Model_stepsOf_150 x1  7 r47.2))
def f_Model_stepsOf_114 (x1 : Int32)  (l2 : Int32) (l3 : Int32) (s1 : Int32) (s2 : Int64) (M : mM) : Option (Int32 × mM) := (wrL M 445 12 s1 s2).bind fun M15 =>
  (if l2 = 2 then
  f_Model_stepsOf_131 x1  l3 6 1 M15
else
  f_Model_stepsOf_131 x1  l3 6 0 M15)
def f_Model_stepsOf (x1 : Int32) (M : mM) : Option (Int32 × mM) := (f_Model_graveOf x1 2 M).bind fun r1 =>
  (if 0 ≤ (r1.2.2.1 436 21) then
  (f_Model_graveOf x1 6 r1.2).bind fun r3 =>
  (wrL r3.2 445 12 0 (Int32.toInt64 x1)).bind fun M4 =>
  (f_Model_graveOf x1 0 M4).bind fun r5 =>
  (wrL r5.2 445 12 1 (Int32.toInt64 r5.1)).bind fun M6 =>
  (f_Model_graveOf x1 1 M6).bind fun r7 =>
  (wrL r7.2 445 12 2 (Int32.toInt64 r7.1)).bind fun M8 =>
  (rd M8 446 226 3).bind fun v9 =>
  (wrL M8 445 12 3 (Int32.toInt64 v9)).bind fun M10 =>
  (rd M10 446 226 3).bind fun v11 =>
  (f_Model_graveOf x1 5 M10).bind fun r12 =>
  (wrL r12.2 445 12 4 (Int32.toInt64 (v11 - r12.1))).bind fun M13 =>
  (if r1.1 = 1 then
  f_Model_stepsOf_114 x1  r1.1 r3.1 5 1 M13
else
  f_Model_stepsOf_114 x1  r1.1 r3.1 5 0 M13)
else
  (if r1.1 = 0 then
  some (1, r1.2)
else
  some (2, r1.2)))
def f_Model_comesInto (x1 : Int32) (x2 : Int32) (x3 : Int32) (M : mM) : Option (Int32 × mM) := (wr M 446 226 (10 + (9 * x1)) x2).bind fun M1 =>
  (wr M1 446 226 ((10 + (9 * x1)) + 1) x3).bind fun M2 =>
  (f_Model_rootAt x2 x3 M2).bind fun r3 =>
  (wr r3.2 446 226 ((10 + (9 * x1)) + 3) r3.1).bind fun M4 =>
  (rd M4 446 226 ((10 + (9 * x1)) + 3)).bind fun v5 =>
  (if v5 = 0 then
  some (1, M4)
else
  some (0, M4))
def f_Model_isFree (x1 : Int32) (x2 : Int32) (M : mM) : Option (Int32 × mM) := (f_Model_isPlace x1 x2 M).bind fun r1 =>
  (if r1.1 = 0 then
  some (0, r1.2)
else
  (f_Model_graveAt x1 x2 r1.2).bind fun r3 =>
  (if 0 ≤ r3.1 then
  some (0, r3.2)
else
  some (1, r3.2)))
def f_Model_steps_98 (x1 : Int32)  (l3 : Int32) (s0 : Int32) (M : mM) : Option (Int32 × mM) := (if 0 ≤ s0 then
  (rd M 446 226 ((10 + (9 * x1)) + 7)).bind fun v13 =>
  (wr M 446 226 ((10 + (9 * x1)) + 7) (v13 + 1)).bind fun M14 =>
  (f_Model_comesInto x1 s0 l3 M14).bind fun r15 =>
  if r15.1 = 0 ∨ r15.1 = 1 then some (r15.1, r15.2) else none
else
  some (0, M))
def f_Model_steps (x1 : Int32) (M : mM) : Option (Int32 × mM) := (f_Model_graveOf x1 0 M).bind fun r1 =>
  (f_Model_graveOf x1 1 r1.2).bind fun r2 =>
  (if 0 ≤ (r2.1 - 1) then
  (f_Model_graveAt r1.1 (r2.1 - 1) r2.2).bind fun r4 =>
  (if 0 ≤ r4.1 then
  (f_Model_graveOf r4.1 2 r4.2).bind fun r6 =>
  (if r6.1 = 3 then
  (f_Model_isFree (r1.1 - 1) (r2.1 - 1) r6.2).bind fun r8 =>
  (if r8.1 = 0 then
  (f_Model_isFree (r1.1 + 1) (r2.1 - 1) r8.2).bind fun r10 =>
  (if r10.1 = 0 then
  f_Model_steps_98 x1  (r2.1 - 1) (-1) r10.2
else
  f_Model_steps_98 x1  (r2.1 - 1) (r1.1 + 1) r10.2)
else
  f_Model_steps_98 x1  (r2.1 - 1) (r1.1 - 1) r8.2)
else
  f_Model_steps_98 x1  (r2.1 - 1) (-1) r6.2)
else
  (f_Model_comesInto x1 r1.1 (r2.1 - 1) r4.2).bind fun r17 =>
  if r17.1 = 0 ∨ r17.1 = 1 then some (r17.1, r17.2) else none)
else
  (f_Model_falls x1 r2.2).bind fun M19 =>
  some (0, M19))
def f_Model_turns_59 (x1 : Int32)  : Nat → Int32 → Int32 → Int32 → mM → Option (mM)
  | 0, _, _, _, _ => none
  | n + 1, l2, l3, l4, M => (if l2 ≤ l4 then
  some M
else
  (if l3 = 0 then
  some M
else
  (f_Model_steps x1 M).bind fun r10 =>
  f_Model_turns_59 x1  n l2 r10.1 (l4 + 1) r10.2))
def f_Model_turns (x1 : Int32) (M : mM) : Option (mM) := (f_Model_graveOf x1 2 M).bind fun r1 =>
  (if r1.1 = 3 then
  some r1.2
else
  (f_Model_graveOf x1 3 r1.2).bind fun r3 =>
  (if r3.1 ≤ 0 then
  (f_Model_isNearer x1 r3.2).bind fun r5 =>
  (if r5.1 = 0 then
  (f_Model_stepsOf x1 r5.2).bind fun r7 =>
  f_Model_turns_59 x1  FUEL r7.1 1 0 r7.2
else
  some r5.2)
else
  (rd r3.2 446 226 ((10 + (9 * x1)) + 3)).bind fun v11 =>
  (wr r3.2 446 226 ((10 + (9 * x1)) + 3) (v11 - 1)).bind fun M12 =>
  some M12))
def f_Model_stonesGo_119  (k2 : Int32 → mM → Option (mM)) (l1 : Int32) (M : mM) : Option (mM) := k2 (l1 + 1) M
def f_Model_stonesGo_89  (k2 : Int32 → mM → Option (mM)) (l1 : Int32) (l2 : Int32) (M : mM) : Option (mM) := (rd M 446 226 (l2 + 1)).bind fun v8 =>
  (wr M 446 226 (l2 + 1) (v8 - 1)).bind fun M9 =>
  (rd M9 446 226 (l2 + 1)).bind fun v10 =>
  (if 0 ≤ v10 then
  f_Model_stonesGo_119  k2 l1 M9
else
  (wr M9 446 226 l2 (-1)).bind fun M12 =>
  f_Model_stonesGo_119  k2 l1 M12)
def f_Model_stonesGo_58  (k2 : Int32 → mM → Option (mM)) (l1 : Int32) (l2 : Int32) (s0 : Int32) (M : mM) : Option (mM) := (if s0 = 0 then
  f_Model_stonesGo_119  k2 l1 M
else
  (f_Model_graveOf l1 8 M).bind fun r6 =>
  (if r6.1 = 1 then
  (rd r6.2 446 226 3).bind fun v13 =>
  (if (v13 - v13 / 2 * 2) = 1 then
  f_Model_stonesGo_119  k2 l1 r6.2
else
  f_Model_stonesGo_89  k2 l1 l2 r6.2)
else
  f_Model_stonesGo_89  k2 l1 l2 r6.2))
def f_Model_stonesGo_57  (k2 : Int32 → mM → Option (mM)) (l1 : Int32) (l2 : Int32) (M : mM) : Option (mM) := f_Model_stonesGo_58  k2 l1 l2 0 M
def f_Model_stonesGo_53  (k2 : Int32 → mM → Option (mM)) (l1 : Int32) (l2 : Int32) (M : mM) : Option (mM) := f_Model_stonesGo_58  k2 l1 l2 1 M
def f_Model_stonesGo_2   : Nat → Int32 → mM → Option (mM)
  | 0, _, _ => none
  | n + 1, l1, M => (rd M 446 226 2).bind fun v1 =>
  (if v1 ≤ l1 then
  some M
else
  (rd M 446 226 (109 + (2 * l1))).bind fun v3 =>
  (if v3 < 0 then
  f_Model_stonesGo_57  (f_Model_stonesGo_2   n) l1 (109 + (2 * l1)) M
else
  (f_Model_isFallen l1 M).bind fun r15 =>
  (if r15.1 = 0 then
  (f_Model_graveOf l1 1 r15.2).bind fun r17 =>
  (rd r17.2 446 226 ((109 + (2 * l1)) + 1)).bind fun v18 =>
  (if v18 ≤ r17.1 then
  f_Model_stonesGo_57  (f_Model_stonesGo_2   n) l1 (109 + (2 * l1)) r17.2
else
  f_Model_stonesGo_53  (f_Model_stonesGo_2   n) l1 (109 + (2 * l1)) r17.2)
else
  f_Model_stonesGo_53  (f_Model_stonesGo_2   n) l1 (109 + (2 * l1)) r15.2)))
def f_Model_stonesGo  (M : mM) : Option (mM) := f_Model_stonesGo_2   FUEL 0 M
def f_Model_passes_70   : Nat → Int32 → mM → Option (Int32 × mM)
  | 0, _, _ => none
  | n + 1, l1, M => (if (M.2.1 436 28) ≤ l1 then
  (f_Model_stonesGo  M).bind fun M8 =>
  (rd M8 446 226 3).bind fun v9 =>
  (wr M8 446 226 3 (v9 + 1)).bind fun M10 =>
  some ((M10.2.1 436 24), M10)
else
  (rd M 448 11 l1).bind fun v11 =>
  (f_Model_turns v11 M).bind fun M12 =>
  f_Model_passes_70   n (l1 + 1) M12)
def f_Model_passes_56    (M : mM) : Option (Int32 × mM) := (rd M 446 226 1).bind fun v5 =>
  (f_Model_sorts (v5 - 1) M).bind fun M6 =>
  f_Model_passes_70   FUEL 0 M6
def f_Model_passes_24   : Nat → Int32 → mM → Option (Int32 × mM)
  | 0, _, _ => none
  | n + 1, l1, M => (if (M.2.1 436 28) ≤ l1 then
  (pI M 436 25 (M.2.1 436 24)).bind fun M15 =>
  f_Model_passes_56    M15
else
  (rd M 448 11 l1).bind fun v16 =>
  (f_Model_falls v16 M).bind fun M17 =>
  f_Model_passes_24   n (l1 + 1) M17)
def f_Model_passes  (M : mM) : Option (Int32 × mM) := (pI M 436 24 0).bind fun M1 =>
  (pI M1 436 25 0).bind fun M2 =>
  (f_Model_isFlood  M2).bind fun r3 =>
  (if r3.1 = 0 then
  f_Model_passes_56    r3.2
else
  (f_Model_sorts 1 r3.2).bind fun M13 =>
  f_Model_passes_24   FUEL 0 M13)
def f_Model_year  (M : mM) : Option (Int32 × mM) := (f_Model_isYard  M).bind fun r1 =>
  (if r1.1 = 0 then
  some ((-1), r1.2)
else
  (rd r1.2 446 226 3).bind fun v3 =>
  (if v3 = 999 then
  some ((-1), r1.2)
else
  (f_Model_keepsAct  r1.2).bind fun M5 =>
  (f_Model_passes  M5).bind fun r6 =>
  some (r6.1, r6.2)))
def f_Model_digs_21 (x1 : Int32) (x2 : Int32) (x3 : Int32)  : Nat → Int32 → Int32 → Int32 → mM → Option (mM)
  | 0, _, _, _, _ => none
  | n + 1, l4, l5, l6, M => (if 9 ≤ l6 then
  (wr M 446 226 l5 x1).bind fun M3 =>
  (wr M3 446 226 (l5 + 1) x2).bind fun M4 =>
  (wr M4 446 226 (l5 + 2) x3).bind fun M5 =>
  (wr M5 446 226 (l5 + 4) (-1)).bind fun M6 =>
  (rd M6 446 226 3).bind fun v7 =>
  (wr M6 446 226 (l5 + 5) v7).bind fun M8 =>
  (wr M8 446 226 (l5 + 6) (-1)).bind fun M9 =>
  (wr M9 446 226 (109 + (2 * l4)) x1).bind fun M10 =>
  (wr M10 446 226 ((109 + (2 * l4)) + 1) x2).bind fun M11 =>
  (rd M11 446 226 2).bind fun v12 =>
  (wr M11 446 226 2 (v12 + 1)).bind fun M13 =>
  some M13
else
  (wr M 446 226 (l5 + l6) 0).bind fun M14 =>
  f_Model_digs_21 x1 x2 x3  n l4 l5 (l6 + 1) M14)
def f_Model_digs (x1 : Int32) (x2 : Int32) (x3 : Int32) (M : mM) : Option (mM) := (rd M 446 226 2).bind fun v1 =>
  f_Model_digs_21 x1 x2 x3  FUEL v1 (10 + (9 * v1)) 0 M
def f_Model_dig (x1 : Int32) (x2 : Int32) (x3 : Int32) (M : mM) : Option (Int32 × mM) := (f_Model_isPlace x1 x2 M).bind fun r1 =>
  (if r1.1 = 0 then
  some ((-1), r1.2)
else
  (f_Model_in (Int32.toInt64 x3) 0 3 r1.2).bind fun r3 =>
  (if r3.1 = 0 then
  some ((-1), r3.2)
else
  (f_Model_graveAt x1 x2 r3.2).bind fun r5 =>
  (if 0 ≤ r5.1 then
  some ((-1), r5.2)
else
  (rd r5.2 446 226 2).bind fun v7 =>
  (if v7 = 10 then
  some ((-1), r5.2)
else
  (f_Model_keepsAct  r5.2).bind fun M9 =>
  (f_Model_digs x1 x2 x3 M9).bind fun M10 =>
  (rd M10 446 226 2).bind fun v11 =>
  some ((v11 - 1), M10)))))
def f_Model_pay (x1 : Int32) (M : mM) : Option (Int32 × mM) := (f_Model_isGrave x1 M).bind fun r1 =>
  (if r1.1 = 0 then
  some (0, r1.2)
else
  (f_Model_isFallen x1 r1.2).bind fun r3 =>
  (if r3.1 = 0 then
  (f_Model_graveOf x1 2 r3.2).bind fun r5 =>
  (if r5.1 = 2 then
  (f_Model_keepsAct  r5.2).bind fun M7 =>
  (wr M7 446 226 ((10 + (9 * x1)) + 2) 0).bind fun M8 =>
  some (1, M8)
else
  some (0, r5.2))
else
  some (0, r3.2)))
def f_Model_freezes_121 (x1 : Int32) (x2 : Int32) (k8 : Int32 → Int32 → Int32 → mM → Option (Int32 × mM)) (l3 : Int32) (l4 : Int32) (l5 : Int32) (M : mM) : Option (Int32 × mM) := k8 l3 l4 (l5 + 1) M
def f_Model_freezes_119 (x1 : Int32) (x2 : Int32) (k8 : Int32 → Int32 → Int32 → mM → Option (Int32 × mM)) (l3 : Int32) (l5 : Int32) (s0 : Int32) (M : mM) : Option (Int32 × mM) := f_Model_freezes_121 x1 x2 k8 l3 s0 l5 M
def f_Model_freezes_103 (x1 : Int32) (x2 : Int32) (k8 : Int32 → Int32 → Int32 → mM → Option (Int32 × mM)) (l3 : Int32) (l4 : Int32) (l5 : Int32) (l7 : Int32) (M : mM) : Option (Int32 × mM) := (if l7 = 0 then
  f_Model_freezes_119 x1 x2 k8 l3 l5 (l5 + 1) M
else
  f_Model_freezes_119 x1 x2 k8 l3 l5 (l4 + 1) M)
def f_Model_freezes_82 (x1 : Int32) (x2 : Int32) (k8 : Int32 → Int32 → Int32 → mM → Option (Int32 × mM)) (l4 : Int32) (l5 : Int32) (l6 : Int32) (l7 : Int32) (s0 : Int32) (s1 : Int32) (M : mM) : Option (Int32 × mM) := (if l7 = 0 then
  f_Model_freezes_103 x1 x2 k8 (s0 + s1) l4 l5 l7 M
else
  (if x2 = 0 then
  f_Model_freezes_103 x1 x2 k8 (s0 + s1) l4 l5 l7 M
else
  (f_Model_comesInto l6 x1 l4 M).bind fun r11 =>
  f_Model_freezes_103 x1 x2 k8 (s0 + s1) l4 l5 l7 r11.2))
def f_Model_freezes_69 (x1 : Int32) (x2 : Int32) (k8 : Int32 → Int32 → Int32 → mM → Option (Int32 × mM)) (l3 : Int32) (l4 : Int32) (l5 : Int32) (l6 : Int32) (s0 : Int32) (M : mM) : Option (Int32 × mM) := (if s0 = 0 then
  f_Model_freezes_82 x1 x2 k8 l4 l5 l6 s0 l3 0 M
else
  f_Model_freezes_82 x1 x2 k8 l4 l5 l6 s0 l3 1 M)
def f_Model_freezes_68 (x1 : Int32) (x2 : Int32) (k8 : Int32 → Int32 → Int32 → mM → Option (Int32 × mM)) (l3 : Int32) (l4 : Int32) (l5 : Int32) (l6 : Int32) (M : mM) : Option (Int32 × mM) := f_Model_freezes_69 x1 x2 k8 l3 l4 l5 l6 0 M
def f_Model_freezes_8 (x1 : Int32) (x2 : Int32)  : Nat → Int32 → Int32 → Int32 → mM → Option (Int32 × mM)
  | 0, _, _, _, _ => none
  | n + 1, l3, l4, l5, M => (rd M 446 226 1).bind fun v1 =>
  (if v1 ≤ l5 then
  some (l3, M)
else
  (f_Model_graveAt x1 l5 M).bind fun r3 =>
  (if 0 ≤ r3.1 then
  (f_Model_graveOf r3.1 2 r3.2).bind fun r5 =>
  (if r5.1 = 3 then
  f_Model_freezes_68 x1 x2 (f_Model_freezes_8 x1 x2  n) l3 l4 l5 r3.1 r5.2
else
  (f_Model_graveOf r3.1 3 r5.2).bind fun r12 =>
  (if r12.1 = 0 then
  (if l5 ≤ l4 then
  f_Model_freezes_68 x1 x2 (f_Model_freezes_8 x1 x2  n) l3 l4 l5 r3.1 r12.2
else
  f_Model_freezes_69 x1 x2 (f_Model_freezes_8 x1 x2  n) l3 l4 l5 r3.1 1 r12.2)
else
  f_Model_freezes_68 x1 x2 (f_Model_freezes_8 x1 x2  n) l3 l4 l5 r3.1 r12.2))
else
  f_Model_freezes_121 x1 x2 (f_Model_freezes_8 x1 x2  n) l3 l4 l5 r3.2))
def f_Model_freezes (x1 : Int32) (x2 : Int32) (M : mM) : Option (Int32 × mM) := f_Model_freezes_8 x1 x2  FUEL 0 0 0 M
def f_Model_frost (x1 : Int32) (M : mM) : Option (Int32 × mM) := (f_Model_isPlace x1 0 M).bind fun r1 =>
  (if r1.1 = 0 then
  some ((-1), r1.2)
else
  (f_Model_freezes x1 0 r1.2).bind fun r3 =>
  (if r3.1 = 0 then
  some ((-1), r3.2)
else
  (f_Model_keepsAct  r3.2).bind fun M5 =>
  (f_Model_freezes x1 1 M5).bind fun r6 =>
  some (r6.1, r6.2)))
def f_Model_keeps_2   : Nat → Int32 → mM → Option (mM)
  | 0, _, _ => none
  | n + 1, l1, M => (if 131 ≤ l1 then
  some M
else
  (rd M 446 226 l1).bind fun v2 =>
  (wr M 450 131 l1 v2).bind fun M3 =>
  f_Model_keeps_2   n (l1 + 1) M3)
def f_Model_keeps  (M : mM) : Option (mM) := f_Model_keeps_2   FUEL 0 M
def f_Model_laysBack_2   : Nat → Int32 → mM → Option (mM)
  | 0, _, _ => none
  | n + 1, l1, M => (if 131 ≤ l1 then
  some M
else
  (rd M 450 131 l1).bind fun v2 =>
  (wr M 446 226 l1 v2).bind fun M3 =>
  f_Model_laysBack_2   n (l1 + 1) M3)
def f_Model_laysBack  (M : mM) : Option (mM) := f_Model_laysBack_2   FUEL 0 M
def f_Model_ahead_40 (x1 : Int32) (x2 : Int32) (x3 : Int32)  : Nat → Int32 → mM → Option (Int32 × mM)
  | 0, _, _ => none
  | n + 1, l4, M => (if x2 ≤ l4 then
  (f_Model_graveOf x1 x3 M).bind fun r9 =>
  (f_Model_laysBack  r9.2).bind fun M10 =>
  some (r9.1, M10)
else
  (f_Model_passes  M).bind fun r11 =>
  f_Model_ahead_40 x1 x2 x3  n (l4 + 1) r11.2)
def f_Model_ahead (x1 : Int32) (x2 : Int32) (x3 : Int32) (M : mM) : Option (Int32 × mM) := (f_Model_isGrave x1 M).bind fun r1 =>
  (if r1.1 = 0 then
  some ((-2), r1.2)
else
  (f_Model_in (Int32.toInt64 x2) 0 200 r1.2).bind fun r3 =>
  (if r3.1 = 0 then
  some ((-2), r3.2)
else
  (f_Model_in (Int32.toInt64 x3) 0 1 r3.2).bind fun r5 =>
  (if r5.1 = 0 then
  some ((-2), r5.2)
else
  (f_Model_keeps  r5.2).bind fun M7 =>
  f_Model_ahead_40 x1 x2 x3  FUEL 0 M7)))
def f_Model_fallOf_28 (x1 : Int32)   (M : mM) : Option (Int32 × mM) := (f_Model_graveOf x1 4 M).bind fun r2 =>
  some (r2.1, r2.2)
def f_Model_fallOf_2 (x1 : Int32)  : Nat → Int32 → mM → Option (Int32 × mM)
  | 0, _, _ => none
  | n + 1, l2, M => (if 200 ≤ l2 then
  f_Model_fallOf_28 x1   M
else
  (f_Model_isFallen x1 M).bind fun r3 =>
  (if r3.1 = 0 then
  (f_Model_passes  r3.2).bind fun r5 =>
  f_Model_fallOf_2 x1  n (l2 + 1) r5.2
else
  f_Model_fallOf_28 x1   r3.2))
def f_Model_fallOf (x1 : Int32) (M : mM) : Option (Int32 × mM) := f_Model_fallOf_2 x1  FUEL 0 M
def f_Model_fall (x1 : Int32) (M : mM) : Option (Int32 × mM) := (f_Model_isGrave x1 M).bind fun r1 =>
  (if r1.1 = 0 then
  some ((-1), r1.2)
else
  (f_Model_keeps  r1.2).bind fun M3 =>
  (f_Model_fallOf x1 M3).bind fun r4 =>
  (f_Model_laysBack  r4.2).bind fun M5 =>
  (if 0 ≤ r4.1 then
  some (r4.1, M5)
else
  some ((-2), M5)))
def f_Model_areAbreast (x1 : Int32) (x2 : Int32) (M : mM) : Option (Int32 × mM) := (f_Model_isFallen x1 M).bind fun r1 =>
  (if r1.1 = 0 then
  (f_Model_isFallen x2 r1.2).bind fun r3 =>
  (if r3.1 = 0 then
  (f_Model_graveOf x1 0 r3.2).bind fun r5 =>
  (f_Model_graveOf x2 0 r5.2).bind fun r6 =>
  (if r5.1 = r6.1 then
  some (0, r6.2)
else
  (f_Model_graveOf x1 1 r6.2).bind fun r8 =>
  (f_Model_graveOf x2 1 r8.2).bind fun r9 =>
  (if r8.1 = r9.1 then
  some (1, r9.2)
else
  some (0, r9.2)))
else
  some (0, r3.2))
else
  some (0, r1.2))
def f_Model_abreast_72 (x1 : Int32) (x2 : Int32)  (l3 : Int32) (M : mM) : Option (Int32 × mM) := (f_Model_laysBack  M).bind fun M8 =>
  some (l3, M8)
def f_Model_abreast_61 (x1 : Int32) (x2 : Int32) (k33 : Int32 → Int32 → mM → Option (Int32 × mM)) (l3 : Int32) (l4 : Int32) (M : mM) : Option (Int32 × mM) := (f_Model_passes  M).bind fun r12 =>
  k33 l3 (l4 + 1) r12.2
def f_Model_abreast_33 (x1 : Int32) (x2 : Int32)  : Nat → Int32 → Int32 → mM → Option (Int32 × mM)
  | 0, _, _, _ => none
  | n + 1, l3, l4, M => (if 200 < l4 then
  f_Model_abreast_72 x1 x2  l3 M
else
  (if 0 ≤ l3 then
  f_Model_abreast_72 x1 x2  l3 M
else
  (f_Model_areAbreast x1 x2 M).bind fun r10 =>
  (if r10.1 = 0 then
  f_Model_abreast_61 x1 x2 (f_Model_abreast_33 x1 x2  n) l3 l4 r10.2
else
  (rd r10.2 446 226 3).bind fun v13 =>
  f_Model_abreast_61 x1 x2 (f_Model_abreast_33 x1 x2  n) v13 l4 r10.2)))
def f_Model_abreast (x1 : Int32) (x2 : Int32) (M : mM) : Option (Int32 × mM) := (f_Model_isGrave x1 M).bind fun r1 =>
  (if r1.1 = 0 then
  some ((-1), r1.2)
else
  (f_Model_isGrave x2 r1.2).bind fun r3 =>
  (if r3.1 = 0 then
  some ((-1), r3.2)
else
  (if x1 = x2 then
  some ((-1), r3.2)
else
  (f_Model_keeps  r3.2).bind fun M6 =>
  f_Model_abreast_33 x1 x2  FUEL (-2) 0 M6)))
def f_Model_fallTogether_44 (x1 : Int32) (x2 : Int32) (x3 : Int32)  (s0 : Int32) (M : mM) : Option (Int32 × mM) := (f_Model_laysBack  M).bind fun M5 =>
  if s0 = 0 ∨ s0 = 1 then some (s0, M5) else none
def f_Model_fallTogether_43 (x1 : Int32) (x2 : Int32) (x3 : Int32)   (M : mM) : Option (Int32 × mM) := f_Model_fallTogether_44 x1 x2 x3  0 M
def f_Model_fallTogether (x1 : Int32) (x2 : Int32) (x3 : Int32) (M : mM) : Option (Int32 × mM) := (rd M 446 226 2).bind fun v1 =>
  (f_Model_digs x2 x3 0 M).bind fun M2 =>
  (f_Model_fallOf x1 M2).bind fun r3 =>
  (if r3.1 < 0 then
  f_Model_fallTogether_43 x1 x2 x3   r3.2
else
  (f_Model_graveOf v1 4 r3.2).bind fun r7 =>
  (if r7.1 = r3.1 then
  f_Model_fallTogether_44 x1 x2 x3  1 r7.2
else
  f_Model_fallTogether_43 x1 x2 x3   r7.2))
def f_Model_begin_136 (x1 : Int32) (x2 : Int32) (k54 : Int32 → Int32 → Int32 → mM → Option (Int32 × mM)) (l3 : Int32) (l4 : Int32) (l5 : Int32) (M : mM) : Option (Int32 × mM) := k54 l3 l4 (l5 + 1) M
def f_Model_begin_131 (x1 : Int32) (x2 : Int32) (k54 : Int32 → Int32 → Int32 → mM → Option (Int32 × mM)) (l3 : Int32) (l5 : Int32) (s0 : Int32) (M : mM) : Option (Int32 × mM) := f_Model_begin_136 x1 x2 k54 (l3 + 1) s0 l5 M
def f_Model_begin_54 (x1 : Int32) (x2 : Int32)  : Nat → Int32 → Int32 → Int32 → mM → Option (Int32 × mM)
  | 0, _, _, _, _ => none
  | n + 1, l3, l4, l5, M => (rd M 446 226 0).bind fun v8 =>
  (rd M 446 226 1).bind fun v9 =>
  (if (v8 * v9) ≤ l5 then
  (if x2 = 0 then
  some (l3, M)
else
  (if l3 = 0 then
  some ((-2), M)
else
  (if x2 = 1 then
  (rd M 446 226 1).bind fun v16 =>
  if v16 = 0 then none else some ((l4 / v16), M)
else
  (rd M 446 226 1).bind fun v14 =>
  if v14 = 0 then none else some ((l4 - l4 / v14 * v14), M))))
else
  (rd M 446 226 1).bind fun v18 =>
  if v18 = 0 then none else (rd M 446 226 1).bind fun v20 =>
  if v20 = 0 then none else (f_Model_graveAt (l5 / v18) (l5 - l5 / v20 * v20) M).bind fun r22 =>
  (if 0 ≤ r22.1 then
  f_Model_begin_136 x1 x2 (f_Model_begin_54 x1 x2  n) l3 l4 l5 r22.2
else
  (f_Model_fallTogether x1 (l5 / v18) (l5 - l5 / v20 * v20) r22.2).bind fun r24 =>
  (if r24.1 = 0 then
  f_Model_begin_136 x1 x2 (f_Model_begin_54 x1 x2  n) l3 l4 l5 r24.2
else
  (if l3 = 0 then
  f_Model_begin_131 x1 x2 (f_Model_begin_54 x1 x2  n) l3 l5 l5 r24.2
else
  f_Model_begin_131 x1 x2 (f_Model_begin_54 x1 x2  n) l3 l5 l4 r24.2))))
def f_Model_begin (x1 : Int32) (x2 : Int32) (M : mM) : Option (Int32 × mM) := (f_Model_isGrave x1 M).bind fun r1 =>
  (if r1.1 = 0 then
  some ((-1), r1.2)
else
  (f_Model_in (Int32.toInt64 x2) 0 2 r1.2).bind fun r3 =>
  (if r3.1 = 0 then
  some ((-1), r3.2)
else
  (f_Model_isFallen x1 r3.2).bind fun r5 =>
  (if r5.1 = 0 then
  (f_Model_keeps  r5.2).bind fun M7 =>
  f_Model_begin_54 x1 x2  FUEL 0 (-2) 0 M7
else
  (if x2 = 0 then
  some (0, r5.2)
else
  some ((-2), r5.2)))))
def f_Model_dug_147 (x1 : Int32) (x2 : Int32) (x3 : Int32) (x4 : Int32) (k99 : Int32 → Int32 → Int32 → Int32 → Int32 → mM → Option (Int32 × mM)) (l5 : Int32) (l6 : Int32) (l7 : Int32) (l8 : Int32) (l9 : Int32) (M : mM) : Option (Int32 × mM) := (f_Model_passes  M).bind fun r21 =>
  k99 l5 l6 l7 l8 (l9 + 1) r21.2
def f_Model_dug_138 (x1 : Int32) (x2 : Int32) (x3 : Int32) (x4 : Int32) (k99 : Int32 → Int32 → Int32 → Int32 → Int32 → mM → Option (Int32 × mM)) (l5 : Int32) (l6 : Int32) (l9 : Int32) (s0 : Int32) (M : mM) : Option (Int32 × mM) := f_Model_dug_147 x1 x2 x3 x4 k99 l5 (l6 + 1) s0 l9 l9 M
def f_Model_dug_99 (x1 : Int32) (x2 : Int32) (x3 : Int32) (x4 : Int32)  : Nat → Int32 → Int32 → Int32 → Int32 → Int32 → mM → Option (Int32 × mM)
  | 0, _, _, _, _, _, _ => none
  | n + 1, l5, l6, l7, l8, l9, M => (if 40 < l9 then
  (f_Model_laysBack  M).bind fun M15 =>
  (wr M15 446 226 6 l5).bind fun M16 =>
  (if x4 = 0 then
  some (l6, M16)
else
  (if x4 = 1 then
  some (l7, M16)
else
  some (l8, M16)))
else
  (f_Model_graveOf 0 0 M).bind fun r19 =>
  (if r19.1 = x2 then
  (f_Model_graveOf 0 1 r19.2).bind fun r22 =>
  (if r22.1 = x3 then
  (if l6 = 0 then
  f_Model_dug_138 x1 x2 x3 x4 (f_Model_dug_99 x1 x2 x3 x4  n) l5 l6 l9 l9 r22.2
else
  f_Model_dug_138 x1 x2 x3 x4 (f_Model_dug_99 x1 x2 x3 x4  n) l5 l6 l9 l7 r22.2)
else
  f_Model_dug_147 x1 x2 x3 x4 (f_Model_dug_99 x1 x2 x3 x4  n) l5 l6 l7 l8 l9 r22.2)
else
  f_Model_dug_147 x1 x2 x3 x4 (f_Model_dug_99 x1 x2 x3 x4  n) l5 l6 l7 l8 l9 r19.2))
def f_Model_dug (x1 : Int32) (x2 : Int32) (x3 : Int32) (x4 : Int32) (M : mM) : Option (Int32 × mM) := (f_Model_in (Int32.toInt64 x1) 0 2 M).bind fun r1 =>
  (if r1.1 = 0 then
  some ((-1), r1.2)
else
  (f_Model_isPlace x2 x3 r1.2).bind fun r3 =>
  (if r3.1 = 0 then
  some ((-1), r3.2)
else
  (f_Model_in (Int32.toInt64 x4) 0 2 r3.2).bind fun r5 =>
  (if r5.1 = 0 then
  some ((-1), r5.2)
else
  (rd r5.2 446 226 6).bind fun v7 =>
  (f_Model_keeps  r5.2).bind fun M8 =>
  (wr M8 446 226 2 0).bind fun M9 =>
  (wr M9 446 226 3 0).bind fun M10 =>
  (wr M10 446 226 6 0).bind fun M11 =>
  (rd M11 446 226 1).bind fun v12 =>
  (f_Model_digs x2 (v12 - 1) x1 M11).bind fun M13 =>
  f_Model_dug_99 x1 x2 x3 x4  FUEL v7 0 (-2) (-2) 0 M13)))
def f_Model_sight (x1 : Int32) (x2 : Int32) (x3 : Int32) (M : mM) : Option (Int32 × mM) := (if x1 = (-1) then
  (wr M 446 226 185 0).bind fun M18 =>
  some (0, M18)
else
  (if x1 < 0 then
  some ((-2), M)
else
  (rd M 446 226 4).bind fun v3 =>
  (if v3 ≤ x1 then
  some ((-2), M)
else
  (f_Model_isPlace 0 x2 M).bind fun r5 =>
  (if r5.1 = 0 then
  some ((-2), r5.2)
else
  (f_Model_in (Int32.toInt64 x3) 0 99 r5.2).bind fun r7 =>
  (if r7.1 = 0 then
  some ((-2), r7.2)
else
  (rd r7.2 446 226 185).bind fun v9 =>
  (if v9 = 10 then
  some ((-2), r7.2)
else
  (rd r7.2 446 226 185).bind fun v11 =>
  (wr r7.2 446 226 (155 + (3 * v11)) x1).bind fun M12 =>
  (wr M12 446 226 ((155 + (3 * v11)) + 1) x2).bind fun M13 =>
  (wr M13 446 226 ((155 + (3 * v11)) + 2) x3).bind fun M14 =>
  (rd M14 446 226 185).bind fun v15 =>
  (wr M14 446 226 185 (v15 + 1)).bind fun M16 =>
  (rd M16 446 226 185).bind fun v17 =>
  some (v17, M16)))))))
def f_Model_inQuestion_57  (k4 : Int32 → Int32 → mM → Option (Int32 × mM)) (l2 : Int32) (s0 : Int32) (s1 : Int32) (M : mM) : Option (Int32 × mM) := k4 (s0 ||| s1) (l2 + 1) M
def f_Model_inQuestion_50  (k4 : Int32 → Int32 → mM → Option (Int32 × mM)) (l2 : Int32) (s0 : Int32) (M : mM) : Option (Int32 × mM) := f_Model_inQuestion_57  k4 l2 s0 (1 <<< (l2 &&& 31)) M
def f_Model_inQuestion_4   : Nat → Int32 → Int32 → mM → Option (Int32 × mM)
  | 0, _, _, _ => none
  | n + 1, l1, l2, M => (rd M 446 226 4).bind fun v1 =>
  (if v1 ≤ l2 then
  some (l1, M)
else
  (rd M 446 226 ((186 + (4 * l2)) + 2)).bind fun v3 =>
  (if v3 = 0 then
  f_Model_inQuestion_50  (f_Model_inQuestion_4   n) l2 l1 M
else
  (rd M 446 226 ((186 + (4 * l2)) + 2)).bind fun v5 =>
  (if v5 = 2 then
  f_Model_inQuestion_50  (f_Model_inQuestion_4   n) l2 l1 M
else
  f_Model_inQuestion_57  (f_Model_inQuestion_4   n) l2 l1 0 M)))
def f_Model_inQuestion  (M : mM) : Option (Int32 × mM) := f_Model_inQuestion_4   FUEL 0 0 M
def f_Model_isOf (x0 : Int32) (x1 : Int32) (M : mM) : Option (Int32 × mM) := (if ((x0 >>> (x1 &&& 31)) &&& 1) = 1 then
  some (1, M)
else
  some (0, M))
def f_Model_beginsBy_84 (x1 : Int32) (k16 : Int32 → mM → Option (mM)) (l2 : Int32) (l3 : Int32) (s1 : Int32) (s2 : Int32) (s3 : Int32) (M : mM) : Option (mM) := (f_Model_digs s1 s2 s3 M).bind fun M11 =>
  (rd M11 446 226 (l3 + 3)).bind fun v12 =>
  (wr M11 446 226 ((10 + (9 * l2)) + 6) v12).bind fun M13 =>
  k16 (l2 + 1) M13
def f_Model_beginsBy_16 (x1 : Int32)  : Nat → Int32 → mM → Option (mM)
  | 0, _, _ => none
  | n + 1, l2, M => (rd M 446 226 4).bind fun v3 =>
  (if v3 ≤ l2 then
  some M
else
  (rd M 446 226 (186 + (4 * l2))).bind fun v5 =>
  (rd M 446 226 ((186 + (4 * l2)) + 1)).bind fun v6 =>
  (f_Model_inQuestion  M).bind fun r7 =>
  (f_Model_isOf r7.1 l2 r7.2).bind fun r8 =>
  (if r8.1 = 0 then
  (rd r8.2 446 226 ((186 + (4 * l2)) + 2)).bind fun v10 =>
  f_Model_beginsBy_84 x1 (f_Model_beginsBy_16 x1  n) l2 (186 + (4 * l2)) v5 v6 v10 r8.2
else
  (f_Model_isOf x1 l2 r8.2).bind fun r14 =>
  (if r14.1 = 0 then
  f_Model_beginsBy_84 x1 (f_Model_beginsBy_16 x1  n) l2 (186 + (4 * l2)) v5 v6 0 r14.2
else
  f_Model_beginsBy_84 x1 (f_Model_beginsBy_16 x1  n) l2 (186 + (4 * l2)) v5 v6 2 r14.2)))
def f_Model_beginsBy (x1 : Int32) (M : mM) : Option (mM) := (wr M 446 226 2 0).bind fun M1 =>
  (wr M1 446 226 3 0).bind fun M2 =>
  f_Model_beginsBy_16 x1  FUEL 0 M2
def f_Model_lastSight_52  (k4 : Int32 → Int32 → mM → Option (Int32 × mM)) (l2 : Int32) (s0 : Int32) (M : mM) : Option (Int32 × mM) := k4 s0 (l2 + 1) M
def f_Model_lastSight_4   : Nat → Int32 → Int32 → mM → Option (Int32 × mM)
  | 0, _, _, _ => none
  | n + 1, l1, l2, M => (rd M 446 226 185).bind fun v1 =>
  (if v1 ≤ l2 then
  some (l1, M)
else
  (rd M 446 226 ((155 + (3 * l2)) + 2)).bind fun v3 =>
  (if v3 ≤ l1 then
  f_Model_lastSight_52  (f_Model_lastSight_4   n) l2 l1 M
else
  (rd M 446 226 ((155 + (3 * l2)) + 2)).bind fun v5 =>
  f_Model_lastSight_52  (f_Model_lastSight_4   n) l2 v5 M))
def f_Model_lastSight  (M : mM) : Option (Int32 × mM) := f_Model_lastSight_4   FUEL 0 0 M
def f_Model_isSeenSo_63  (k2 : Int32 → mM → Option (Int32 × mM)) (l1 : Int32) (M : mM) : Option (Int32 × mM) := k2 (l1 + 1) M
def f_Model_isSeenSo_2   : Nat → Int32 → mM → Option (Int32 × mM)
  | 0, _, _ => none
  | n + 1, l1, M => (rd M 446 226 185).bind fun v1 =>
  (if v1 ≤ l1 then
  some (1, M)
else
  (rd M 446 226 ((155 + (3 * l1)) + 2)).bind fun v3 =>
  (rd M 446 226 3).bind fun v4 =>
  (if v3 = v4 then
  (rd M 446 226 (155 + (3 * l1))).bind fun v6 =>
  (f_Model_graveOf v6 1 M).bind fun r7 =>
  (rd r7.2 446 226 ((155 + (3 * l1)) + 1)).bind fun v8 =>
  (if r7.1 = v8 then
  f_Model_isSeenSo_63  (f_Model_isSeenSo_2   n) l1 r7.2
else
  some (0, r7.2))
else
  f_Model_isSeenSo_63  (f_Model_isSeenSo_2   n) l1 M))
def f_Model_isSeenSo  (M : mM) : Option (Int32 × mM) := f_Model_isSeenSo_2   FUEL 0 M
def f_Model_fitsSights_15 (x1 : Int32)  : Nat → Int32 → Int32 → mM → Option (Int32 × mM)
  | 0, _, _, _ => none
  | n + 1, l2, l3, M => (if l3 = 0 then
  if l3 = 0 ∨ l3 = 1 then some (l3, M) else none
else
  (rd M 446 226 3).bind fun v6 =>
  (if l2 ≤ v6 then
  if l3 = 0 ∨ l3 = 1 then some (l3, M) else none
else
  (f_Model_passes  M).bind fun r9 =>
  (f_Model_isSeenSo  r9.2).bind fun r10 =>
  f_Model_fitsSights_15 x1  n l2 r10.1 r10.2))
def f_Model_fitsSights (x1 : Int32) (M : mM) : Option (Int32 × mM) := (f_Model_beginsBy x1 M).bind fun M1 =>
  (f_Model_lastSight  M1).bind fun r2 =>
  (f_Model_isSeenSo  r2.2).bind fun r3 =>
  f_Model_fitsSights_15 x1  FUEL r2.1 r3.1 r3.2
def f_Model_gathersFit_60  (k16 : Int32 → Int32 → mM → Option (mM)) (l1 : Int32) (l2 : Int32) (M : mM) : Option (mM) := k16 l1 (l2 + 1) M
def f_Model_gathersFit_16   : Nat → Int32 → Int32 → mM → Option (mM)
  | 0, _, _, _ => none
  | n + 1, l1, l2, M => (if l1 < l2 then
  (f_Model_laysBack  M).bind fun M5 =>
  some M5
else
  (if (l2 &&& (l1 ^^^ (-1))) = 0 then
  (f_Model_fitsSights l2 M).bind fun r7 =>
  (if r7.1 = 0 then
  f_Model_gathersFit_60  (f_Model_gathersFit_16   n) l1 l2 r7.2
else
  (wr r7.2 451 1024 (r7.2.2.1 436 33) l2).bind fun M9 =>
  (pI M9 436 33 ((M9.2.1 436 33) + 1)).bind fun M10 =>
  f_Model_gathersFit_60  (f_Model_gathersFit_16   n) l1 l2 M10)
else
  f_Model_gathersFit_60  (f_Model_gathersFit_16   n) l1 l2 M))
def f_Model_gathersFit  (M : mM) : Option (mM) := (f_Model_inQuestion  M).bind fun r1 =>
  (f_Model_keeps  r1.2).bind fun M2 =>
  (pI M2 436 33 0).bind fun M3 =>
  f_Model_gathersFit_16   FUEL r1.1 0 M3
def f_Model_unpaid_35 (x1 : Int32)  : Nat → Int32 → Int32 → Int32 → mM → Option (Int32 × mM)
  | 0, _, _, _, _ => none
  | n + 1, l2, l3, l4, M => (if (M.2.1 436 33) ≤ l4 then
  (if x1 = 0 then
  some ((M.2.1 436 33), M)
else
  (if (M.2.1 436 33) = 0 then
  some (0, M)
else
  (if x1 = 1 then
  some (l2, M)
else
  (f_Model_inQuestion  M).bind fun r11 =>
  some ((r11.1 &&& (l3 ^^^ (-1))), r11.2))))
else
  (rd M 451 1024 l4).bind fun v12 =>
  (rd M 451 1024 l4).bind fun v13 =>
  f_Model_unpaid_35 x1  n (l2 &&& v12) (l3 ||| v13) (l4 + 1) M)
def f_Model_unpaid (x1 : Int32) (M : mM) : Option (Int32 × mM) := (f_Model_isYard  M).bind fun r1 =>
  (if r1.1 = 0 then
  some ((-1), r1.2)
else
  (f_Model_in (Int32.toInt64 x1) 0 2 r1.2).bind fun r3 =>
  (if r3.1 = 0 then
  some ((-1), r3.2)
else
  (f_Model_gathersFit  r3.2).bind fun M5 =>
  (f_Model_inQuestion  M5).bind fun r6 =>
  f_Model_unpaid_35 x1  FUEL r6.1 0 0 r6.2))
def f_Model_countsCells_103 (x1 : Int32) (k28 : Int32 → mM → Option (mM)) (k66 : Int32 → Int32 → mM → Option (mM)) (l2 : Int32) (l3 : Int32) (s1 : Int32) (s2 : Int32) (M : mM) : Option (mM) := (rd M 452 210 (s1 + s2)).bind fun v14 =>
  (wr M 452 210 (s1 + s2) (v14 + 1)).bind fun M15 =>
  k66 l2 (l3 + 1) M15
def f_Model_countsCells_66 (x1 : Int32) (k28 : Int32 → mM → Option (mM)) : Nat → Int32 → Int32 → mM → Option (mM)
  | 0, _, _, _ => none
  | n + 1, l2, l3, M => (rd M 446 226 4).bind fun v9 =>
  (if v9 ≤ l3 then
  k28 (l2 + 1) M
else
  (f_Model_isFallen l3 M).bind fun r11 =>
  (if r11.1 = 0 then
  (f_Model_graveOf l3 1 r11.2).bind fun r13 =>
  f_Model_countsCells_103 x1 k28 (f_Model_countsCells_66 x1 k28 n) l2 l3 (21 * l3) r13.1 r13.2
else
  f_Model_countsCells_103 x1 k28 (f_Model_countsCells_66 x1 k28 n) l2 l3 (21 * l3) 20 r11.2))
def f_Model_countsCells_46 (x1 : Int32) (k28 : Int32 → mM → Option (mM)) : Nat → Int32 → mM → Option (mM)
  | 0, _, _ => none
  | n + 1, l2, M => (rd M 446 226 3).bind fun v7 =>
  (if x1 ≤ v7 then
  f_Model_countsCells_66 x1 k28 FUEL l2 0 M
else
  (f_Model_passes  M).bind fun r16 =>
  f_Model_countsCells_46 x1 k28 n l2 r16.2)
def f_Model_countsCells_28 (x1 : Int32)  : Nat → Int32 → mM → Option (mM)
  | 0, _, _ => none
  | n + 1, l2, M => (if (M.2.1 436 33) ≤ l2 then
  (f_Model_laysBack  M).bind fun M4 =>
  some M4
else
  (rd M 451 1024 l2).bind fun v5 =>
  (f_Model_beginsBy v5 M).bind fun M6 =>
  f_Model_countsCells_46 x1 (f_Model_countsCells_28 x1  n) FUEL l2 M6)
def f_Model_countsCells_2 (x1 : Int32)  : Nat → Int32 → mM → Option (mM)
  | 0, _, _ => none
  | n + 1, l2, M => (if 210 ≤ l2 then
  (f_Model_keeps  M).bind fun M2 =>
  f_Model_countsCells_28 x1  FUEL 0 M2
else
  (wr M 452 210 l2 0).bind fun M17 =>
  f_Model_countsCells_2 x1  n (l2 + 1) M17)
def f_Model_countsCells (x1 : Int32) (M : mM) : Option (mM) := f_Model_countsCells_2 x1  FUEL 0 M
def f_Model_look_149 (x1 : Int32) (x2 : Int32) (k60 : Int32 → Int32 → Int32 → mM → Option (Int32 × mM)) (l3 : Int32) (l4 : Int32) (l5 : Int32) (M : mM) : Option (Int32 × mM) := k60 l3 l4 (l5 + 1) M
def f_Model_look_142 (x1 : Int32) (x2 : Int32) (k60 : Int32 → Int32 → Int32 → mM → Option (Int32 × mM)) (l5 : Int32) (l6 : Int32) (M : mM) : Option (Int32 × mM) := f_Model_look_149 x1 x2 k60 l5 l6 l5 M
def f_Model_look_120 (x1 : Int32) (x2 : Int32) (k60 : Int32 → Int32 → Int32 → mM → Option (Int32 × mM)) (k77 : Int32 → Int32 → Int32 → Int32 → Int32 → mM → Option (Int32 × mM)) (l3 : Int32) (l4 : Int32) (l5 : Int32) (l7 : Int32) (s0 : Int32) (M : mM) : Option (Int32 × mM) := k77 l3 l4 l5 s0 (l7 + 1) M
def f_Model_look_77 (x1 : Int32) (x2 : Int32) (k60 : Int32 → Int32 → Int32 → mM → Option (Int32 × mM)) : Nat → Int32 → Int32 → Int32 → Int32 → Int32 → mM → Option (Int32 × mM)
  | 0, _, _, _, _, _, _ => none
  | n + 1, l3, l4, l5, l6, l7, M => (if 20 < l7 then
  (if l3 < 0 then
  f_Model_look_142 x1 x2 k60 l5 l6 M
else
  (if l6 < l4 then
  f_Model_look_142 x1 x2 k60 l5 l6 M
else
  f_Model_look_149 x1 x2 k60 l3 l4 l5 M))
else
  (rd M 452 210 ((21 * l5) + l7)).bind fun v16 =>
  (if v16 ≤ l6 then
  f_Model_look_120 x1 x2 k60 (f_Model_look_77 x1 x2 k60 n) l3 l4 l5 l7 l6 M
else
  (rd M 452 210 ((21 * l5) + l7)).bind fun v18 =>
  f_Model_look_120 x1 x2 k60 (f_Model_look_77 x1 x2 k60 n) l3 l4 l5 l7 v18 M))
def f_Model_look_60 (x1 : Int32) (x2 : Int32)  : Nat → Int32 → Int32 → Int32 → mM → Option (Int32 × mM)
  | 0, _, _, _, _ => none
  | n + 1, l3, l4, l5, M => (rd M 446 226 4).bind fun v10 =>
  (if v10 ≤ l5 then
  (if x2 = 0 then
  some (l3, M)
else
  some (l4, M))
else
  f_Model_look_77 x1 x2 (f_Model_look_60 x1 x2  n) FUEL l3 l4 l5 0 0 M)
def f_Model_look (x1 : Int32) (x2 : Int32) (M : mM) : Option (Int32 × mM) := (f_Model_isYard  M).bind fun r1 =>
  (if r1.1 = 0 then
  some ((-1), r1.2)
else
  (f_Model_in (Int32.toInt64 x1) 0 99 r1.2).bind fun r3 =>
  (if r3.1 = 0 then
  some ((-1), r3.2)
else
  (f_Model_in (Int32.toInt64 x2) 0 1 r3.2).bind fun r5 =>
  (if r5.1 = 0 then
  some ((-1), r5.2)
else
  (f_Model_gathersFit  r5.2).bind fun M7 =>
  (if (M7.2.1 436 33) = 0 then
  some ((-2), M7)
else
  (f_Model_countsCells x1 M7).bind fun M9 =>
  f_Model_look_60 x1 x2  FUEL (-2) (-2) 0 M9))))
def f_Model_war_71 (x1 : Int32) (k29 : Int32 → Int32 → mM → Option (Int32 × mM)) (k37 : Int32 → Int32 → Int32 → mM → Option (Int32 × mM)) (l3 : Int32) (l4 : Int32) (s0 : Int32) (s1 : Int32) (M : mM) : Option (Int32 × mM) := k37 (s0 + s1) l3 (l4 + 1) M
def f_Model_war_37 (x1 : Int32) (k29 : Int32 → Int32 → mM → Option (Int32 × mM)) : Nat → Int32 → Int32 → Int32 → mM → Option (Int32 × mM)
  | 0, _, _, _, _ => none
  | n + 1, l2, l3, l4, M => (rd M 446 226 0).bind fun v8 =>
  (if v8 ≤ l4 then
  (f_Model_passes  M).bind fun r10 =>
  k29 l2 (l3 + 1) r10.2
else
  (rd M 446 226 1).bind fun v11 =>
  (f_Model_graveAt l4 (v11 - 1) M).bind fun r12 =>
  (if 0 ≤ r12.1 then
  f_Model_war_71 x1 k29 (f_Model_war_37 x1 k29 n) l3 l4 l2 0 r12.2
else
  f_Model_war_71 x1 k29 (f_Model_war_37 x1 k29 n) l3 l4 l2 1 r12.2))
def f_Model_war_29 (x1 : Int32)  : Nat → Int32 → Int32 → mM → Option (Int32 × mM)
  | 0, _, _, _ => none
  | n + 1, l2, l3, M => (if x1 ≤ l3 then
  (f_Model_laysBack  M).bind fun M7 =>
  some (l2, M7)
else
  f_Model_war_37 x1 (f_Model_war_29 x1  n) FUEL l2 l3 0 M)
def f_Model_war (x1 : Int32) (M : mM) : Option (Int32 × mM) := (f_Model_isYard  M).bind fun r1 =>
  (if r1.1 = 0 then
  some ((-1), r1.2)
else
  (f_Model_in (Int32.toInt64 x1) 1 50 r1.2).bind fun r3 =>
  (if r3.1 = 0 then
  some ((-1), r3.2)
else
  (f_Model_keeps  r3.2).bind fun M5 =>
  f_Model_war_29 x1  FUEL 0 0 M5))
def f_Model_order_74 (x1 : Int32)  (l2 : Int32) (M : mM) : Option (Int32 × mM) := (f_Model_laysBack  M).bind fun M6 =>
  some (l2, M6)
def f_Model_order_61 (x1 : Int32) (k25 : Int32 → Int32 → Int32 → mM → Option (Int32 × mM)) (l2 : Int32) (l3 : Int32) (l4 : Int32) (M : mM) : Option (Int32 × mM) := k25 l2 (l3 + (M.2.1 436 24)) (l4 + 1) M
def f_Model_order_25 (x1 : Int32)  : Nat → Int32 → Int32 → Int32 → mM → Option (Int32 × mM)
  | 0, _, _, _, _ => none
  | n + 1, l2, l3, l4, M => (if 200 ≤ l4 then
  f_Model_order_74 x1  l2 M
else
  (if 0 ≤ l2 then
  f_Model_order_74 x1  l2 M
else
  (f_Model_passes  M).bind fun r8 =>
  (if (l3 + (r8.2.2.1 436 24)) ≤ x1 then
  f_Model_order_61 x1 (f_Model_order_25 x1  n) l2 l3 l4 r8.2
else
  (rd r8.2 447 11 (x1 - l3)).bind fun v10 =>
  f_Model_order_61 x1 (f_Model_order_25 x1  n) v10 l3 l4 r8.2)))
def f_Model_order (x1 : Int32) (M : mM) : Option (Int32 × mM) := (f_Model_isYard  M).bind fun r1 =>
  (if r1.1 = 0 then
  some ((-1), r1.2)
else
  (if 0 ≤ x1 then
  (f_Model_keeps  r1.2).bind fun M4 =>
  f_Model_order_25 x1  FUEL (-2) 0 0 M4
else
  some ((-1), r1.2)))
def f_Model_seed (x1 : Int32) (M : mM) : Option (Int32 × mM) := (if 0 ≤ x1 then
  (pI M 436 22 x1).bind fun M2 =>
  some ((M.2.1 436 22), M2)
else
  some ((-1), M))
def f_Model_draw (x1 : Int32) (M : mM) : Option (Int32 × mM) := (pL M 436 35 ((((M.2.2.1 436 35) * 1103515245) + 12345) - (((M.2.2.1 436 35) * 1103515245) + 12345) / 2147483648 * 2147483648)).bind fun M1 =>
  if (Int32.toInt64 x1) = 0 then none else some ((Int64.toInt32 (((M1.2.2.1 436 35) / 65536) - ((M1.2.2.1 436 35) / 65536) / (Int32.toInt64 x1) * (Int32.toInt64 x1))), M1)
def f_Model_drawn_109 (x1 : Int32) (x2 : Int32) (x3 : Int32) (x4 : Int32) (k78 : Int32 → Int32 → Int32 → mM → Option (Int32 × mM)) (k87 : Int32 → Int32 → Int32 → Int32 → mM → Option (Int32 × mM)) (l5 : Int32) (l6 : Int32) (l7 : Int32) (l8 : Int32) (s1 : Int32) (M : mM) : Option (Int32 × mM) := (pZ M 436 26 s1).bind fun M20 =>
  (f_Model_passes  M20).bind fun r21 =>
  k87 (l5 + r21.1) (l6 + (r21.2.2.1 436 25)) l7 (l8 + 1) r21.2
def f_Model_drawn_87 (x1 : Int32) (x2 : Int32) (x3 : Int32) (x4 : Int32) (k78 : Int32 → Int32 → Int32 → mM → Option (Int32 × mM)) : Nat → Int32 → Int32 → Int32 → Int32 → mM → Option (Int32 × mM)
  | 0, _, _, _, _, _ => none
  | n + 1, l5, l6, l7, l8, M => (if x2 ≤ l8 then
  (f_Model_laysBack  M).bind fun M17 =>
  k78 l5 l6 (l7 + 1) M17
else
  (f_Model_draw 100 M).bind fun r18 =>
  (if x3 ≤ r18.1 then
  f_Model_drawn_109 x1 x2 x3 x4 k78 (f_Model_drawn_87 x1 x2 x3 x4 k78 n) l5 l6 l7 l8 0 r18.2
else
  f_Model_drawn_109 x1 x2 x3 x4 k78 (f_Model_drawn_87 x1 x2 x3 x4 k78 n) l5 l6 l7 l8 1 r18.2))
def f_Model_drawn_78 (x1 : Int32) (x2 : Int32) (x3 : Int32) (x4 : Int32)  : Nat → Int32 → Int32 → Int32 → mM → Option (Int32 × mM)
  | 0, _, _, _, _ => none
  | n + 1, l5, l6, l7, M => (if x1 ≤ l7 then
  (pZ M 436 26 0).bind fun M14 =>
  (if x4 = 0 then
  some (l5, M14)
else
  some (l6, M14))
else
  f_Model_drawn_87 x1 x2 x3 x4 (f_Model_drawn_78 x1 x2 x3 x4  n) FUEL l5 l6 l7 0 M)
def f_Model_drawn (x1 : Int32) (x2 : Int32) (x3 : Int32) (x4 : Int32) (M : mM) : Option (Int32 × mM) := (f_Model_isYard  M).bind fun r1 =>
  (if r1.1 = 0 then
  some ((-1), r1.2)
else
  (f_Model_in (Int32.toInt64 x1) 1 10 r1.2).bind fun r3 =>
  (if r3.1 = 0 then
  some ((-1), r3.2)
else
  (f_Model_in (Int32.toInt64 x2) 1 60 r3.2).bind fun r5 =>
  (if r5.1 = 0 then
  some ((-1), r5.2)
else
  (f_Model_in (Int32.toInt64 x3) 0 100 r5.2).bind fun r7 =>
  (if r7.1 = 0 then
  some ((-1), r7.2)
else
  (f_Model_in (Int32.toInt64 x4) 0 1 r7.2).bind fun r9 =>
  (if r9.1 = 0 then
  some ((-1), r9.2)
else
  (pL r9.2 436 35 (Int32.toInt64 (r9.2.2.1 436 22))).bind fun M11 =>
  (f_Model_keeps  M11).bind fun M12 =>
  f_Model_drawn_78 x1 x2 x3 x4  FUEL 0 0 0 M12)))))
def f_Model_count_126 (x1 : Int32) (k99 : Int32 → Int32 → mM → Option (Int32 × mM)) (l3 : Int32) (s0 : Int32) (s1 : Int32) (M : mM) : Option (Int32 × mM) := k99 (s0 ||| s1) (l3 + 1) M
def f_Model_count_99 (x1 : Int32)  : Nat → Int32 → Int32 → mM → Option (Int32 × mM)
  | 0, _, _, _ => none
  | n + 1, l2, l3, M => (rd M 446 226 2).bind fun v13 =>
  (if v13 ≤ l3 then
  some (l2, M)
else
  (f_Model_graveOf l3 3 M).bind fun r15 =>
  (if r15.1 ≤ 0 then
  f_Model_count_126 x1 (f_Model_count_99 x1  n) l3 l2 0 r15.2
else
  f_Model_count_126 x1 (f_Model_count_99 x1  n) l3 l2 (1 <<< (l3 &&& 31)) r15.2))
def f_Model_count_162 (x1 : Int32)  : Nat → Int32 → Int32 → mM → Option (Int32 × mM)
  | 0, _, _, _ => none
  | n + 1, l2, l3, M => (rd M 446 226 2).bind fun v23 =>
  (if v23 ≤ l3 then
  some (l2, M)
else
  (f_Model_graveOf l3 7 M).bind fun r25 =>
  f_Model_count_162 x1  n (l2 + r25.1) (l3 + 1) r25.2)
def f_Model_count (x1 : Int32) (M : mM) : Option (Int32 × mM) := (if x1 = 0 then
  (rd M 446 226 x1).bind fun v1 =>
  some (v1, M)
else if x1 = 1 then
  (rd M 446 226 x1).bind fun v3 =>
  some (v3, M)
else if x1 = 2 then
  (rd M 446 226 x1).bind fun v5 =>
  some (v5, M)
else if x1 = 3 then
  some ((M.2.1 436 2), M)
else if x1 = 4 then
  some ((M.2.1 436 21), M)
else if x1 = 5 then
  (rd M 446 226 3).bind fun v9 =>
  some (v9, M)
else if x1 = 6 then
  (f_Model_fallenMany  M).bind fun r11 =>
  some (r11.1, r11.2)
else if x1 = 7 then
  f_Model_count_99 x1  FUEL 0 0 M
else if x1 = 8 then
  (rd M 446 226 185).bind fun v18 =>
  some (v18, M)
else if x1 = 9 then
  some ((M.2.1 436 30), M)
else if x1 = 10 then
  some ((M.2.1 436 22), M)
else if x1 = 11 then
  some ((M.2.1 436 1), M)
else if x1 = 12 then
  f_Model_count_162 x1  FUEL 0 0 M
else some ((-1), M))
def f_Model_image_43 (x1 : Int32)  : Nat → Int32 → mM → Option (Int32 × mM)
  | 0, _, _ => none
  | n + 1, l2, M => (if 226 ≤ l2 then
  (rd M 446 226 3).bind fun v7 =>
  some (v7, M)
else
  (rd M 446 226 l2).bind fun v8 =>
  (wr M 453 904 ((226 * x1) + l2) v8).bind fun M9 =>
  f_Model_image_43 x1  n (l2 + 1) M9)
def f_Model_image (x1 : Int32) (M : mM) : Option (Int32 × mM) := (f_Model_in (Int32.toInt64 x1) 0 3 M).bind fun r1 =>
  (if r1.1 = 0 then
  some ((-1), r1.2)
else
  (wrZ r1.2 456 4 x1 1).bind fun M3 =>
  (wr M3 454 4 x1 (M3.2.1 436 21)).bind fun M4 =>
  (wr M4 455 4 x1 (M4.2.1 436 22)).bind fun M5 =>
  f_Model_image_43 x1  FUEL 0 M5)
def f_Model_back_50 (x1 : Int32)  : Nat → Int32 → mM → Option (Int32 × mM)
  | 0, _, _ => none
  | n + 1, l2, M => (if 226 ≤ l2 then
  (rd M 446 226 3).bind fun v11 =>
  some (v11, M)
else
  (rd M 453 904 ((226 * x1) + l2)).bind fun v12 =>
  (wr M 446 226 l2 v12).bind fun M13 =>
  f_Model_back_50 x1  n (l2 + 1) M13)
def f_Model_back (x1 : Int32) (M : mM) : Option (Int32 × mM) := (f_Model_in (Int32.toInt64 x1) 0 3 M).bind fun r1 =>
  (if r1.1 = 0 then
  some ((-1), r1.2)
else
  (rd r1.2 456 4 x1).bind fun v3 =>
  (if v3 = 0 then
  some ((-1), r1.2)
else
  (rd r1.2 454 4 x1).bind fun v5 =>
  (pI r1.2 436 21 v5).bind fun M6 =>
  (rd M6 455 4 x1).bind fun v7 =>
  (pI M6 436 22 v7).bind fun M8 =>
  (pI M8 436 30 0).bind fun M9 =>
  f_Model_back_50 x1  FUEL 0 M9))
def f_J_law_1021 (X : mX)  (k18 : Int32 → mM → Option (Int32 × mM)) (l3 : Int32) (M : mM) : Option (Int32 × mM) := k18 (l3 + 6) M
def f_J_law_18 (X : mX)   : Nat → Int32 → mM → Option (Int32 × mM)
  | 0, _, _ => none
  | n + 1, l3, M => (if ((Int32.ofNat X.1) - 6) < l3 then
  some (1, M)
else
  (rdS X l3).bind fun v2 =>
  (if (v2 &&& 31) = 0 then
  (rdS X (l3 + 1)).bind fun v3 =>
  (rdS X (l3 + 2)).bind fun v4 =>
  (rdS X (l3 + 3)).bind fun v5 =>
  (rdS X (l3 + 4)).bind fun v6 =>
  (rdS X (l3 + 5)).bind fun v7 =>
  (f_GraveRails_feed v3 v4 v5 v6 v7 M).bind fun r8 =>
  (rdS X (l3 + 1)).bind fun v9 =>
  (rdS X (l3 + 2)).bind fun v10 =>
  (rdS X (l3 + 3)).bind fun v11 =>
  (rdS X (l3 + 4)).bind fun v12 =>
  (rdS X (l3 + 5)).bind fun v13 =>
  (f_Model_feed v9 v10 v11 v12 v13 r8.2).bind fun r14 =>
  (if r8.1 = r14.1 then
  f_J_law_1021 X  (f_J_law_18 X   n) l3 r14.2
else
  some (0, r14.2))
else if (v2 &&& 31) = 1 then
  (rdS X (l3 + 1)).bind fun v17 =>
  (f_GraveRails_end v17 M).bind fun r18 =>
  (rdS X (l3 + 1)).bind fun v19 =>
  (f_Model_end v19 r18.2).bind fun r20 =>
  (if r18.1 = r20.1 then
  f_J_law_1021 X  (f_J_law_18 X   n) l3 r20.2
else
  some (0, r20.2))
else if (v2 &&& 31) = 2 then
  (f_GraveRails_yard  M).bind fun r23 =>
  (f_Model_yard  r23.2).bind fun r24 =>
  (if r23.1 = r24.1 then
  f_J_law_1021 X  (f_J_law_18 X   n) l3 r24.2
else
  some (0, r24.2))
else if (v2 &&& 31) = 3 then
  (f_GraveRails_rule  M).bind fun r27 =>
  (f_Model_rule  r27.2).bind fun r28 =>
  (if r27.1 = r28.1 then
  f_J_law_1021 X  (f_J_law_18 X   n) l3 r28.2
else
  some (0, r28.2))
else if (v2 &&& 31) = 4 then
  (rdS X (l3 + 1)).bind fun v31 =>
  (f_GraveRails_force v31 M).bind fun r32 =>
  (rdS X (l3 + 1)).bind fun v33 =>
  (f_Model_force v33 r32.2).bind fun r34 =>
  (if r32.1 = r34.1 then
  f_J_law_1021 X  (f_J_law_18 X   n) l3 r34.2
else
  some (0, r34.2))
else if (v2 &&& 31) = 5 then
  (rdS X (l3 + 1)).bind fun v37 =>
  (rdS X (l3 + 2)).bind fun v38 =>
  (f_GraveRails_grave v37 v38 M).bind fun r39 =>
  (rdS X (l3 + 1)).bind fun v40 =>
  (rdS X (l3 + 2)).bind fun v41 =>
  (f_Model_grave v40 v41 r39.2).bind fun r42 =>
  (if r39.1 = r42.1 then
  f_J_law_1021 X  (f_J_law_18 X   n) l3 r42.2
else
  some (0, r42.2))
else if (v2 &&& 31) = 6 then
  (rdS X (l3 + 1)).bind fun v45 =>
  (rdS X (l3 + 2)).bind fun v46 =>
  (f_GraveRails_stone v45 v46 M).bind fun r47 =>
  (rdS X (l3 + 1)).bind fun v48 =>
  (rdS X (l3 + 2)).bind fun v49 =>
  (f_Model_stone v48 v49 r47.2).bind fun r50 =>
  (if r47.1 = r50.1 then
  f_J_law_1021 X  (f_J_law_18 X   n) l3 r50.2
else
  some (0, r50.2))
else if (v2 &&& 31) = 7 then
  (rdS X (l3 + 1)).bind fun v53 =>
  (rdS X (l3 + 2)).bind fun v54 =>
  (f_GraveRails_at v53 v54 M).bind fun r55 =>
  (rdS X (l3 + 1)).bind fun v56 =>
  (rdS X (l3 + 2)).bind fun v57 =>
  (f_Model_at v56 v57 r55.2).bind fun r58 =>
  (if r55.1 = r58.1 then
  f_J_law_1021 X  (f_J_law_18 X   n) l3 r58.2
else
  some (0, r58.2))
else if (v2 &&& 31) = 8 then
  (rdS X (l3 + 1)).bind fun v61 =>
  (rdS X (l3 + 2)).bind fun v62 =>
  (f_GraveRails_root v61 v62 M).bind fun r63 =>
  (rdS X (l3 + 1)).bind fun v64 =>
  (rdS X (l3 + 2)).bind fun v65 =>
  (f_Model_root v64 v65 r63.2).bind fun r66 =>
  (if r63.1 = r66.1 then
  f_J_law_1021 X  (f_J_law_18 X   n) l3 r66.2
else
  some (0, r66.2))
else if (v2 &&& 31) = 9 then
  (f_GraveRails_year  M).bind fun r69 =>
  (f_Model_year  r69.2).bind fun r70 =>
  (if r69.1 = r70.1 then
  f_J_law_1021 X  (f_J_law_18 X   n) l3 r70.2
else
  some (0, r70.2))
else if (v2 &&& 31) = 10 then
  (rdS X (l3 + 1)).bind fun v73 =>
  (rdS X (l3 + 2)).bind fun v74 =>
  (rdS X (l3 + 3)).bind fun v75 =>
  (f_GraveRails_dig v73 v74 v75 M).bind fun r76 =>
  (rdS X (l3 + 1)).bind fun v77 =>
  (rdS X (l3 + 2)).bind fun v78 =>
  (rdS X (l3 + 3)).bind fun v79 =>
  (f_Model_dig v77 v78 v79 r76.2).bind fun r80 =>
  (if r76.1 = r80.1 then
  f_J_law_1021 X  (f_J_law_18 X   n) l3 r80.2
else
  some (0, r80.2))
else if (v2 &&& 31) = 11 then
  (rdS X (l3 + 1)).bind fun v83 =>
  (f_GraveRails_pay v83 M).bind fun r84 =>
  (rdS X (l3 + 1)).bind fun v85 =>
  (f_Model_pay v85 r84.2).bind fun r86 =>
  (if r84.1 = r86.1 then
  f_J_law_1021 X  (f_J_law_18 X   n) l3 r86.2
else
  some (0, r86.2))
else if (v2 &&& 31) = 12 then
  (rdS X (l3 + 1)).bind fun v89 =>
  (f_GraveRails_frost v89 M).bind fun r90 =>
  (rdS X (l3 + 1)).bind fun v91 =>
  (f_Model_frost v91 r90.2).bind fun r92 =>
  (if r90.1 = r92.1 then
  f_J_law_1021 X  (f_J_law_18 X   n) l3 r92.2
else
  some (0, r92.2))
else if (v2 &&& 31) = 13 then
  (f_GraveRails_undo  M).bind fun r95 =>
  (f_Model_undo  r95.2).bind fun r96 =>
  (if r95.1 = r96.1 then
  f_J_law_1021 X  (f_J_law_18 X   n) l3 r96.2
else
  some (0, r96.2))
else if (v2 &&& 31) = 14 then
  (rdS X (l3 + 1)).bind fun v99 =>
  (rdS X (l3 + 2)).bind fun v100 =>
  (rdS X (l3 + 3)).bind fun v101 =>
  (f_GraveRails_ahead v99 v100 v101 M).bind fun r102 =>
  (rdS X (l3 + 1)).bind fun v103 =>
  (rdS X (l3 + 2)).bind fun v104 =>
  (rdS X (l3 + 3)).bind fun v105 =>
  (f_Model_ahead v103 v104 v105 r102.2).bind fun r106 =>
  (if r102.1 = r106.1 then
  f_J_law_1021 X  (f_J_law_18 X   n) l3 r106.2
else
  some (0, r106.2))
else if (v2 &&& 31) = 15 then
  (rdS X (l3 + 1)).bind fun v109 =>
  (f_GraveRails_fall v109 M).bind fun r110 =>
  (rdS X (l3 + 1)).bind fun v111 =>
  (f_Model_fall v111 r110.2).bind fun r112 =>
  (if r110.1 = r112.1 then
  f_J_law_1021 X  (f_J_law_18 X   n) l3 r112.2
else
  some (0, r112.2))
else if (v2 &&& 31) = 16 then
  (rdS X (l3 + 1)).bind fun v115 =>
  (rdS X (l3 + 2)).bind fun v116 =>
  (f_GraveRails_abreast v115 v116 M).bind fun r117 =>
  (rdS X (l3 + 1)).bind fun v118 =>
  (rdS X (l3 + 2)).bind fun v119 =>
  (f_Model_abreast v118 v119 r117.2).bind fun r120 =>
  (if r117.1 = r120.1 then
  f_J_law_1021 X  (f_J_law_18 X   n) l3 r120.2
else
  some (0, r120.2))
else if (v2 &&& 31) = 17 then
  (rdS X (l3 + 1)).bind fun v123 =>
  (rdS X (l3 + 2)).bind fun v124 =>
  (f_GraveRails_begin v123 v124 M).bind fun r125 =>
  (rdS X (l3 + 1)).bind fun v126 =>
  (rdS X (l3 + 2)).bind fun v127 =>
  (f_Model_begin v126 v127 r125.2).bind fun r128 =>
  (if r125.1 = r128.1 then
  f_J_law_1021 X  (f_J_law_18 X   n) l3 r128.2
else
  some (0, r128.2))
else if (v2 &&& 31) = 18 then
  (rdS X (l3 + 1)).bind fun v131 =>
  (rdS X (l3 + 2)).bind fun v132 =>
  (rdS X (l3 + 3)).bind fun v133 =>
  (rdS X (l3 + 4)).bind fun v134 =>
  (f_GraveRails_dug v131 v132 v133 v134 M).bind fun r135 =>
  (rdS X (l3 + 1)).bind fun v136 =>
  (rdS X (l3 + 2)).bind fun v137 =>
  (rdS X (l3 + 3)).bind fun v138 =>
  (rdS X (l3 + 4)).bind fun v139 =>
  (f_Model_dug v136 v137 v138 v139 r135.2).bind fun r140 =>
  (if r135.1 = r140.1 then
  f_J_law_1021 X  (f_J_law_18 X   n) l3 r140.2
else
  some (0, r140.2))
else if (v2 &&& 31) = 19 then
  (rdS X (l3 + 1)).bind fun v143 =>
  (rdS X (l3 + 2)).bind fun v144 =>
  (rdS X (l3 + 3)).bind fun v145 =>
  (f_GraveRails_sight v143 v144 v145 M).bind fun r146 =>
  (rdS X (l3 + 1)).bind fun v147 =>
  (rdS X (l3 + 2)).bind fun v148 =>
  (rdS X (l3 + 3)).bind fun v149 =>
  (f_Model_sight v147 v148 v149 r146.2).bind fun r150 =>
  (if r146.1 = r150.1 then
  f_J_law_1021 X  (f_J_law_18 X   n) l3 r150.2
else
  some (0, r150.2))
else if (v2 &&& 31) = 20 then
  (rdS X (l3 + 1)).bind fun v153 =>
  (f_GraveRails_unpaid v153 M).bind fun r154 =>
  (rdS X (l3 + 1)).bind fun v155 =>
  (f_Model_unpaid v155 r154.2).bind fun r156 =>
  (if r154.1 = r156.1 then
  f_J_law_1021 X  (f_J_law_18 X   n) l3 r156.2
else
  some (0, r156.2))
else if (v2 &&& 31) = 21 then
  (rdS X (l3 + 1)).bind fun v159 =>
  (rdS X (l3 + 2)).bind fun v160 =>
  (f_GraveRails_look v159 v160 M).bind fun r161 =>
  (rdS X (l3 + 1)).bind fun v162 =>
  (rdS X (l3 + 2)).bind fun v163 =>
  (f_Model_look v162 v163 r161.2).bind fun r164 =>
  (if r161.1 = r164.1 then
  f_J_law_1021 X  (f_J_law_18 X   n) l3 r164.2
else
  some (0, r164.2))
else if (v2 &&& 31) = 22 then
  (rdS X (l3 + 1)).bind fun v167 =>
  (f_GraveRails_war v167 M).bind fun r168 =>
  (rdS X (l3 + 1)).bind fun v169 =>
  (f_Model_war v169 r168.2).bind fun r170 =>
  (if r168.1 = r170.1 then
  f_J_law_1021 X  (f_J_law_18 X   n) l3 r170.2
else
  some (0, r170.2))
else if (v2 &&& 31) = 23 then
  (rdS X (l3 + 1)).bind fun v173 =>
  (f_GraveRails_order v173 M).bind fun r174 =>
  (rdS X (l3 + 1)).bind fun v175 =>
  (f_Model_order v175 r174.2).bind fun r176 =>
  (if r174.1 = r176.1 then
  f_J_law_1021 X  (f_J_law_18 X   n) l3 r176.2
else
  some (0, r176.2))
else if (v2 &&& 31) = 24 then
  (rdS X (l3 + 1)).bind fun v179 =>
  (f_GraveRails_seed v179 M).bind fun r180 =>
  (rdS X (l3 + 1)).bind fun v181 =>
  (f_Model_seed v181 r180.2).bind fun r182 =>
  (if r180.1 = r182.1 then
  f_J_law_1021 X  (f_J_law_18 X   n) l3 r182.2
else
  some (0, r182.2))
else if (v2 &&& 31) = 25 then
  (rdS X (l3 + 1)).bind fun v185 =>
  (rdS X (l3 + 2)).bind fun v186 =>
  (rdS X (l3 + 3)).bind fun v187 =>
  (rdS X (l3 + 4)).bind fun v188 =>
  (f_GraveRails_drawn v185 v186 v187 v188 M).bind fun r189 =>
  (rdS X (l3 + 1)).bind fun v190 =>
  (rdS X (l3 + 2)).bind fun v191 =>
  (rdS X (l3 + 3)).bind fun v192 =>
  (rdS X (l3 + 4)).bind fun v193 =>
  (f_Model_drawn v190 v191 v192 v193 r189.2).bind fun r194 =>
  (if r189.1 = r194.1 then
  f_J_law_1021 X  (f_J_law_18 X   n) l3 r194.2
else
  some (0, r194.2))
else if (v2 &&& 31) = 26 then
  (rdS X (l3 + 1)).bind fun v197 =>
  (f_GraveRails_count v197 M).bind fun r198 =>
  (rdS X (l3 + 1)).bind fun v199 =>
  (f_Model_count v199 r198.2).bind fun r200 =>
  (if r198.1 = r200.1 then
  f_J_law_1021 X  (f_J_law_18 X   n) l3 r200.2
else
  some (0, r200.2))
else if (v2 &&& 31) = 27 then
  (rdS X (l3 + 1)).bind fun v203 =>
  (f_GraveRails_image v203 M).bind fun r204 =>
  (rdS X (l3 + 1)).bind fun v205 =>
  (f_Model_image v205 r204.2).bind fun r206 =>
  (if r204.1 = r206.1 then
  f_J_law_1021 X  (f_J_law_18 X   n) l3 r206.2
else
  some (0, r206.2))
else if (v2 &&& 31) = 28 then
  (rdS X (l3 + 1)).bind fun v209 =>
  (f_GraveRails_back v209 M).bind fun r210 =>
  (rdS X (l3 + 1)).bind fun v211 =>
  (f_Model_back v211 r210.2).bind fun r212 =>
  (if r210.1 = r212.1 then
  f_J_law_1021 X  (f_J_law_18 X   n) l3 r212.2
else
  some (0, r212.2))
else f_J_law_1021 X  (f_J_law_18 X   n) l3 M))
