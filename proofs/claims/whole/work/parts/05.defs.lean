def in9 (t : Nat) : Int32 := if t = 0 ∨ t = 3 ∨ t = 9 then 1 else 0
def in2 (t : Nat) : Int32 := if t = 1 ∨ t = 2 then 1 else 0
def in3 (t : Nat) : Int32 := if t = 3 then 1 else 0
def in1 (t : Nat) : Int32 := if t = 1 then 1 else 0
def in0 (t : Nat) : Int32 := if t = 0 then 1 else 0
def isStr (t : Nat) : Bool := decide (t < 4)
def slen (t : Nat) : Nat := stLen.getD t 0
def sby (t : Nat) (i : Int32) : Int32 := (stByt.getD t []).getD i.toNatClampNeg 0
def okR (σ : St) : Bool := decide (rc σ 4 9 < 110 ∧ rc σ 5 1 < 110) && (List.range 10).all (fun j => decide (rc σ 10 j < 110 + σ.1 ∧ rc σ 20 j < 110 + σ.1))
def nrole (σ : St) (t : Nat) : St := (σ.1 + 1, va_up σ.2.1 (110 + σ.1) (fun j => if j = 5 then nI t else 0), σ.2.2)
noncomputable def f_J6_bitCount_0f7a4 (x0 : Int32) : Option (Int32) :=
  nm (x0 - (((x0 : Int32).toUInt32 >>> ((1 : Int32).toUInt32 &&& Int32.toUInt32 31)).toInt32 &&& 1431655765)) fun y1 =>
  nm ((y1 &&& 858993459) + (((y1 : Int32).toUInt32 >>> ((2 : Int32).toUInt32 &&& Int32.toUInt32 31)).toInt32 &&& 858993459)) fun y2 =>
  nm ((y2 + ((y2 : Int32).toUInt32 >>> ((4 : Int32).toUInt32 &&& Int32.toUInt32 31)).toInt32) &&& 252645135) fun y3 =>
  nm (y3 + ((y3 : Int32).toUInt32 >>> ((8 : Int32).toUInt32 &&& Int32.toUInt32 31)).toInt32) fun y4 =>
  nm (y4 + ((y4 : Int32).toUInt32 >>> ((16 : Int32).toUInt32 &&& Int32.toUInt32 31)).toInt32) fun y5 =>
  some (y5 &&& 63)
noncomputable def b_J7_fill_53178_5 (c0 : Nat) (x1 : Int32) (x2 : Int32) (x3 : Int32) (σ : St) : Option ((Int32 × St) ⊕ (St)) :=
  if x2 < x3 then
  (chk (inb x2 (alen c0)) <|
  nm (wr σ c0 x2 x1) fun σ2 =>
  some (.inl ((x2 + 1), σ2)))
  else
  (some (.inr (σ)))
noncomputable def f_J7_fill_53178_5 (c0 : Nat) (x1 : Int32) (x2 : Int32) (x3 : Int32) (σ : St) : Option (St) := it (fun z : Int32 × St => b_J7_fill_53178_5 c0 x1 z.1 x3 z.2) (x2, σ)
noncomputable def f_J7_fill_53178 (c0 : Nat) (x1 : Int32) (σ : St) : Option (St) :=
  chk (isIA c0) (f_J7_fill_53178_5 c0 x1 0 (Int32.ofNat (alen c0)) σ)
noncomputable def f_J7_rangeCheck_23922 (x0 : Int32) (x1 : Int32) (x2 : Int32) : Option (Unit) :=
  if x2 < x1 then
  (none)
  else
  (if x1 < 0 then
  (none)
  else
  (if x0 < x2 then
  (none)
  else
  (some ())))
noncomputable def b_J7_fill_fda19_10 (c0 : Nat) (x2 : Int32) (x3 : Int32) (x4 : Int32) (σ : St) : Option ((Int32 × St) ⊕ (St)) :=
  if x4 < x2 then
  (chk (inb x4 (alen c0)) <|
  nm (wr σ c0 x4 x3) fun σ5 =>
  some (.inl ((x4 + 1), σ5)))
  else
  (some (.inr (σ)))
noncomputable def f_J7_fill_fda19_10 (c0 : Nat) (x2 : Int32) (x3 : Int32) (x4 : Int32) (σ : St) : Option (St) := it (fun z : Int32 × St => b_J7_fill_fda19_10 c0 x2 x3 z.1 z.2) (x4, σ)
noncomputable def f_J7_fill_fda19 (c0 : Nat) (x1 : Int32) (x2 : Int32) (x3 : Int32) (σ : St) : Option (St) :=
  chk (isIA c0) (bd (f_J7_rangeCheck_23922 (Int32.ofNat (alen c0)) x1 x2) fun r1 =>
  f_J7_fill_fda19_10 c0 x2 x3 x1 σ)
noncomputable def f_X7_add (c0 : Nat) (x1 : Int32) (σ : St) : Option (St) :=
  chk (isRow c0) (if (fd σ c0 1) < (Int32.ofNat (alen (c0 + 1))) then
  (chk (inb (fd σ c0 1) (alen (c0 + 1))) <|
  nm (wr σ (c0 + 1) (fd σ c0 1) x1) fun σ2 =>
  nm (fw σ2 c0 1 ((fd σ2 c0 1) + 1)) fun σ4 =>
  some σ4)
  else
  (some σ))
noncomputable def f_X10_isOff (x1 : Int32) (σ : St) : Option (Int32) :=
  chk (inb x1 10) <|
  chk (isRole σ ((rd σ 10 x1).toNatClampNeg)) <|
  if (fd σ ((rd σ 10 x1).toNatClampNeg) 1) = 3 then
  (some 1)
  else
  (some 0)
noncomputable def f_X10_name (x1 : Int32) (x2 : Int32) (σ : St) : Option (St) :=
  chk (inb (x1 - 97) 26) <|
  nm (wr σ 30 (x1 - 97) x2) fun σ1 =>
  some σ1
noncomputable def f_X10_joined_92  : Option (Int32) :=
  some 1
noncomputable def f_X10_joined (x0 : Int32) (x1 : Int32) (x2 : Int32) : Option (Int32) :=
  if x0 = 38 then
  (if x1 = 0 then
  (some 0)
  else
  (if x2 = 0 then
  (some 0)
  else
  (some 1)))
  else
  (if x0 = 42 then
  (some (x1 * x2))
  else
  (if x0 = 43 then
  (some (x1 + x2))
  else
  (if x0 = 45 then
  (some (x1 - x2))
  else
  (if x0 = 47 then
  (if x2 = 0 then
  (some 0)
  else
  (some (x1 / x2)))
  else
  (if x0 = 60 then
  (if x1 < x2 then
  (some 1)
  else
  (some 0))
  else
  (if x0 = 61 then
  (if x1 = x2 then
  (some 1)
  else
  (some 0))
  else
  (if x0 = 62 then
  (if x2 < x1 then
  (some 1)
  else
  (some 0))
  else
  (if x0 = 124 then
  (if x1 = 0 then
  (if x2 = 0 then
  (some 0)
  else
  (f_X10_joined_92 ))
  else
  (f_X10_joined_92 ))
  else
  (if x2 = 0 then
  (some 0)
  else
  (some (x1 - (x1 / x2) * x2)))))))))))
noncomputable def f_X10_worthOf_162 (σ : St) : Option (Int32 × St) :=
  chk (inb 0 50) <|
  some ((rd σ 31 0), σ)
noncomputable def f_X10_worthOf_156 (c1 : Nat) (x2 : Int32) (x3 : Int32) (σ : St) : Option ((Int32 × Int32 × St) ⊕ (Int32 × St)) :=
  some (.inl (x2, (x3 + 1), σ))
noncomputable def f_X10_worthOf_121 (c1 : Nat) (x2 : Int32) (x3 : Int32) (x4 : Int32) (σ : St) : Option ((Int32 × Int32 × St) ⊕ (Int32 × St)) :=
  if x2 < 2 then
  (f_X10_worthOf_156 c1 x2 x3 σ)
  else
  (chk (inb ((x2 + (-1)) - 1) 50) <|
  chk (inb (x2 + (-1)) 50) <|
  bd (f_X10_joined x4 (rd σ 31 ((x2 + (-1)) - 1)) (rd σ 31 (x2 + (-1)))) fun r21 =>
  nm (wr σ 31 ((x2 + (-1)) - 1) r21) fun σ24 =>
  f_X10_worthOf_156 c1 (x2 + (-1)) x3 σ24)
noncomputable def f_X10_worthOf_117 (c1 : Nat) (x2 : Int32) (x3 : Int32) (s0 : Int32) (s1 : Int32) (σ : St) : Option ((Int32 × Int32 × St) ⊕ (Int32 × St)) :=
  chk (inb s1 50) <|
  nm (wr σ 31 s1 s0) fun σ16 =>
  f_X10_worthOf_156 c1 x2 x3 σ16
noncomputable def f_X10_worthOf_82 (c1 : Nat) (x2 : Int32) (x3 : Int32) (x4 : Int32) (σ : St) : Option ((Int32 × Int32 × St) ⊕ (Int32 × St)) :=
  if x4 = 33 then
  (if x2 < 1 then
  (f_X10_worthOf_121 c1 x2 x3 x4 σ)
  else
  (chk (inb (x2 - 1) 50) <|
  if (rd σ 31 (x2 - 1)) = 0 then
  (f_X10_worthOf_117 c1 x2 x3 1 (x2 - 1) σ)
  else
  (f_X10_worthOf_117 c1 x2 x3 0 (x2 - 1) σ)))
  else
  (f_X10_worthOf_121 c1 x2 x3 x4 σ)
noncomputable def b_X10_worthOf_4 (c1 : Nat) (x2 : Int32) (x3 : Int32) (σ : St) : Option ((Int32 × Int32 × St) ⊕ (Int32 × St)) :=
  if x3 < (fd σ c1 1) then
  (chk (inb x3 (alen (c1 + 1))) <|
  if (rd σ (c1 + 1) x3) < 256 then
  (if (rd σ (c1 + 1) x3) < 97 then
  (f_X10_worthOf_82 c1 x2 x3 (rd σ (c1 + 1) x3) σ)
  else
  (if 122 < (rd σ (c1 + 1) x3) then
  (f_X10_worthOf_82 c1 x2 x3 (rd σ (c1 + 1) x3) σ)
  else
  (chk (inb ((rd σ (c1 + 1) x3) - 97) 26) <|
  chk (inb x2 50) <|
  nm (wr σ 31 x2 (rd σ 30 ((rd σ (c1 + 1) x3) - 97))) fun σ8 =>
  f_X10_worthOf_156 c1 (x2 + 1) x3 σ8)))
  else
  (chk (inb x2 50) <|
  nm (wr σ 31 x2 ((rd σ (c1 + 1) x3) - 256)) fun σ10 =>
  f_X10_worthOf_156 c1 (x2 + 1) x3 σ10))
  else
  ((f_X10_worthOf_162 σ).map .inr)
noncomputable def f_X10_worthOf_4 (c1 : Nat) (x2 : Int32) (x3 : Int32) (σ : St) : Option (Int32 × St) := it (fun z : Int32 × Int32 × St => b_X10_worthOf_4 c1 z.1 z.2.1 z.2.2) (x2, x3, σ)
noncomputable def f_X10_worthOf (c1 : Nat) (σ : St) : Option (Int32 × St) :=
  chk (isRow c1) (f_X10_worthOf_4 c1 0 0 σ)
noncomputable def f_X10_held (x0 : Int32) (x1 : Int32) : Option (Int32) :=
  some (if 0 < (if x0 < x1 then x0 else x1) then (if x0 < x1 then x0 else x1) else 0)
noncomputable def f_X10_changeOf (x1 : Int32) (x2 : Int32) (x3 : Int32) (σ : St) : Option (Int32 × St) :=
  chk (inb x1 10) <|
  chk (isRole σ ((rd σ 10 x1).toNatClampNeg)) <|
  chk (inb x2 10) <|
  chk (isRole σ ((rd σ 10 x2).toNatClampNeg)) <|
  if (fd σ 58 1) = 0 then
  (some ((2 + (if 0 ≤ ((fd σ ((rd σ 10 x1).toNatClampNeg) 4) - (fd σ ((rd σ 10 x2).toNatClampNeg) 4)) then ((fd σ ((rd σ 10 x1).toNatClampNeg) 4) - (fd σ ((rd σ 10 x2).toNatClampNeg) 4)) else 0 - ((fd σ ((rd σ 10 x1).toNatClampNeg) 4) - (fd σ ((rd σ 10 x2).toNatClampNeg) 4)))), σ))
  else
  (bd (f_X10_name 119 (fd σ ((rd σ 10 x1).toNatClampNeg) 4) σ) fun σ8 =>
  chk (isRole σ8 ((rd σ 10 x2).toNatClampNeg)) <|
  bd (f_X10_name 118 (fd σ8 ((rd σ 10 x2).toNatClampNeg) 4) σ8) fun σ12 =>
  chk (isRole σ12 ((rd σ 10 x1).toNatClampNeg)) <|
  bd (f_X10_name 107 (fd σ12 ((rd σ 10 x1).toNatClampNeg) 1) σ12) fun σ16 =>
  chk (isRole σ16 ((rd σ 10 x2).toNatClampNeg)) <|
  bd (f_X10_name 113 (fd σ16 ((rd σ 10 x2).toNatClampNeg) 1) σ16) fun σ20 =>
  bd (f_X10_name 115 x3 σ20) fun σ23 =>
  bd2 (f_X10_worthOf 58 σ23) fun r24 σ26 =>
  bd (f_X10_held r24 99) fun r27 =>
  some (r27, σ26))
noncomputable def f_X10_earlier_10 (x0 : Int32) (x1 : Int32) : Option (Int32) :=
  some (if x0 < x1 then x1 else x0)
noncomputable def f_X10_earlier (x0 : Int32) (x1 : Int32) : Option (Int32) :=
  if x0 = (-1) then
  (f_X10_earlier_10 x0 x1)
  else
  (if x1 = (-1) then
  (f_X10_earlier_10 x0 x1)
  else
  (some (if x1 < x0 then x1 else x0)))
noncomputable def f_X10_namePlayerAndPart (x1 : Int32) (x2 : Int32) (σ : St) : Option (St) :=
  chk (inb x2 10) <|
  chk (isRole σ ((rd σ 10 x2).toNatClampNeg)) <|
  chk (inb x1 6) <|
  bd (f_X10_name 103 (rd σ 16 x1) σ) fun σ6 =>
  bd (f_X10_name 97 (rd σ6 17 x1) σ6) fun σ9 =>
  chk (isRole σ9 ((rd σ 10 x2).toNatClampNeg)) <|
  bd (f_X10_name 110 (fd σ9 ((rd σ 10 x2).toNatClampNeg) 2) σ9) fun σ13 =>
  chk (isRole σ13 ((rd σ 10 x2).toNatClampNeg)) <|
  bd (f_X10_name 121 (fd σ13 ((rd σ 10 x2).toNatClampNeg) 3) σ13) fun σ17 =>
  chk (isRole σ17 ((rd σ 10 x2).toNatClampNeg)) <|
  bd (f_X10_name 107 (fd σ17 ((rd σ 10 x2).toNatClampNeg) 1) σ17) fun σ21 =>
  some σ21
noncomputable def f_X10_isAble (x1 : Int32) (x2 : Int32) (σ : St) : Option (Int32 × St) :=
  if (fd σ 56 1) = 0 then
  (chk (inb x1 6) <|
  chk (inb x2 10) <|
  chk (isRole σ ((rd σ 10 x2).toNatClampNeg)) <|
  if (rd σ 16 x1) < (fd σ ((rd σ 10 x2).toNatClampNeg) 2) then
  (some (0, σ))
  else
  (some (1, σ)))
  else
  (bd (f_X10_namePlayerAndPart x1 x2 σ) fun σ4 =>
  bd2 (f_X10_worthOf 56 σ4) fun r5 σ7 =>
  if r5 = 0 then
  (some (0, σ7))
  else
  (some (1, σ7)))
noncomputable def f_X10_meetingLine_126 (x1 : Int32) (x2 : Int32) (x3 : Int32) (x4 : Int32) (σ : St) : Option ((Int32 × Int32) ⊕ (Int32)) :=
  some (.inl (x3, (x4 + 1)))
noncomputable def f_X10_meetingLine_120 (x1 : Int32) (x2 : Int32) (x3 : Int32) (x4 : Int32) (x5 : Int32) (σ : St) : Option ((Int32 × Int32) ⊕ ((Int32 × Int32) ⊕ (Int32))) :=
  some (.inl (x3, (x5 + 1)))
noncomputable def b_X10_meetingLine_20 (x1 : Int32) (x2 : Int32) (x3 : Int32) (x4 : Int32) (x5 : Int32) (σ : St) : Option ((Int32 × Int32) ⊕ ((Int32 × Int32) ⊕ (Int32))) :=
  if x5 < (fd σ 1 2) then
  (chk (inb x4 40) <|
  if (rd σ 12 x4) = x1 then
  (chk (inb x5 40) <|
  nm (if (rd σ 13 x4) < (rd σ 13 x5) then (rd σ 13 x5) else (rd σ 13 x4)) fun y8 =>
  if (rd σ 12 x5) = x2 then
  (if (if (rd σ 14 x5) < (rd σ 14 x4) then (rd σ 14 x5) else (rd σ 14 x4)) < y8 then
  (f_X10_meetingLine_120 x1 x2 x3 x4 x5 σ)
  else
  (bd (f_X10_earlier x3 y8) fun r11 =>
  f_X10_meetingLine_120 x1 x2 r11 x4 x5 σ))
  else
  (f_X10_meetingLine_120 x1 x2 x3 x4 x5 σ))
  else
  ((f_X10_meetingLine_126 x1 x2 x3 x4 σ).map .inr))
  else
  ((f_X10_meetingLine_126 x1 x2 x3 x4 σ).map .inr)
noncomputable def f_X10_meetingLine_20 (x1 : Int32) (x2 : Int32) (x3 : Int32) (x4 : Int32) (x5 : Int32) (σ : St) : Option ((Int32 × Int32) ⊕ (Int32)) := it (fun z : Int32 × Int32 => b_X10_meetingLine_20 x1 x2 z.1 x4 z.2 σ) (x3, x5)
noncomputable def b_X10_meetingLine_5 (x1 : Int32) (x2 : Int32) (x3 : Int32) (x4 : Int32) (σ : St) : Option ((Int32 × Int32) ⊕ (Int32)) :=
  if x4 < (fd σ 1 2) then
  (f_X10_meetingLine_20 x1 x2 x3 x4 0 σ)
  else
  (some (.inr (x3)))
noncomputable def f_X10_meetingLine_5 (x1 : Int32) (x2 : Int32) (x3 : Int32) (x4 : Int32) (σ : St) : Option (Int32) := it (fun z : Int32 × Int32 => b_X10_meetingLine_5 x1 x2 z.1 z.2 σ) (x3, x4)
noncomputable def f_X10_meetingLine (x1 : Int32) (x2 : Int32) (σ : St) : Option (Int32) :=
  f_X10_meetingLine_5 x1 x2 (-1) 0 σ
noncomputable def f_X10_shareOf_32 (σ : St) : Option (Int32) :=
  some 2
noncomputable def f_X10_shareOf (x1 : Int32) (x2 : Int32) (σ : St) : Option (Int32) :=
  chk (inb x1 10) <|
  chk (isRole σ ((rd σ 10 x1).toNatClampNeg)) <|
  if (fd σ ((rd σ 10 x1).toNatClampNeg) 1) = 4 then
  (f_X10_shareOf_32 σ)
  else
  (chk (inb x2 10) <|
  chk (isRole σ ((rd σ 10 x2).toNatClampNeg)) <|
  if (fd σ ((rd σ 10 x2).toNatClampNeg) 1) = 4 then
  (f_X10_shareOf_32 σ)
  else
  (some 1))
noncomputable def f_X10_isSameSide (x1 : Int32) (x2 : Int32) (σ : St) : Option (Int32) :=
  chk (inb x1 40) <|
  chk (inb x2 40) <|
  if ((rd σ 15 x1) &&& 1) = ((rd σ 15 x2) >>> ((1 : Int32) &&& 31)) then
  (some 1)
  else
  (some 0)
noncomputable def f_X10_nearLine_171 (x1 : Int32) (x2 : Int32) (x3 : Int32) (x4 : Int32) (x5 : Int32) (x6 : Int32) (σ : St) : Option ((Int32 × Int32) ⊕ (Int32 × St)) :=
  some (.inl (x5, (x6 + 1)))
noncomputable def f_X10_nearLine_165 (x1 : Int32) (x2 : Int32) (x3 : Int32) (x4 : Int32) (x5 : Int32) (x6 : Int32) (x7 : Int32) (σ : St) : Option ((Int32 × Int32) ⊕ ((Int32 × Int32) ⊕ (Int32 × St))) :=
  some (.inl (x5, (x7 + 1)))
noncomputable def f_X10_nearLine_120 (x1 : Int32) (x2 : Int32) (x3 : Int32) (x4 : Int32) (x5 : Int32) (x6 : Int32) (x7 : Int32) (x8 : Int32) (s0 : Int32) (σ : St) : Option ((Int32 × Int32) ⊕ ((Int32 × Int32) ⊕ (Int32 × St))) :=
  chk (inb x7 40) <|
  if (rd σ 12 x7) = x2 then
  (if x8 < 0 then
  (f_X10_nearLine_165 x1 x2 x3 x4 x5 x6 x7 σ)
  else
  (if x8 < s0 then
  (bd (f_X10_earlier x5 (rd σ 13 x7)) fun r30 =>
  f_X10_nearLine_165 x1 x2 x3 x4 r30 x6 x7 σ)
  else
  (f_X10_nearLine_165 x1 x2 x3 x4 x5 x6 x7 σ)))
  else
  (f_X10_nearLine_165 x1 x2 x3 x4 x5 x6 x7 σ)
noncomputable def b_X10_nearLine_52 (x1 : Int32) (x2 : Int32) (x3 : Int32) (x4 : Int32) (x5 : Int32) (x6 : Int32) (x7 : Int32) (σ : St) : Option ((Int32 × Int32) ⊕ ((Int32 × Int32) ⊕ (Int32 × St))) :=
  if x7 < (fd σ 1 2) then
  (chk (inb x6 40) <|
  if (rd σ 12 x6) = x1 then
  (chk (inb x7 40) <|
  bd (f_X10_isSameSide x6 x7 σ) fun r22 =>
  if r22 = 0 then
  (f_X10_nearLine_120 x1 x2 x3 x4 x5 x6 x7 (((rd σ 13 x7) - (rd σ 14 x6)) - 1) x3 σ)
  else
  (f_X10_nearLine_120 x1 x2 x3 x4 x5 x6 x7 (((rd σ 13 x7) - (rd σ 14 x6)) - 1) x4 σ))
  else
  ((f_X10_nearLine_171 x1 x2 x3 x4 x5 x6 σ).map .inr))
  else
  ((f_X10_nearLine_171 x1 x2 x3 x4 x5 x6 σ).map .inr)
noncomputable def f_X10_nearLine_52 (x1 : Int32) (x2 : Int32) (x3 : Int32) (x4 : Int32) (x5 : Int32) (x6 : Int32) (x7 : Int32) (σ : St) : Option ((Int32 × Int32) ⊕ (Int32 × St)) := it (fun z : Int32 × Int32 => b_X10_nearLine_52 x1 x2 x3 x4 z.1 x6 z.2 σ) (x5, x7)
noncomputable def b_X10_nearLine_37 (x1 : Int32) (x2 : Int32) (x3 : Int32) (x4 : Int32) (x5 : Int32) (x6 : Int32) (σ : St) : Option ((Int32 × Int32) ⊕ (Int32 × St)) :=
  if x6 < (fd σ 1 2) then
  (f_X10_nearLine_52 x1 x2 x3 x4 x5 x6 0 σ)
  else
  (some (.inr ((x5, σ))))
noncomputable def f_X10_nearLine_37 (x1 : Int32) (x2 : Int32) (x3 : Int32) (x4 : Int32) (x5 : Int32) (x6 : Int32) (σ : St) : Option (Int32 × St) := it (fun z : Int32 × Int32 => b_X10_nearLine_37 x1 x2 x3 x4 z.1 z.2 σ) (x5, x6)
noncomputable def f_X10_nearLine (x1 : Int32) (x2 : Int32) (σ : St) : Option (Int32 × St) :=
  bd2 (f_X10_changeOf x1 x2 0 σ) fun r1 σ3 =>
  bd (f_X10_shareOf x1 x2 σ3) fun r4 =>
  chk (decide (¬ r4 = 0)) <|
  bd2 (f_X10_changeOf x1 x2 1 σ3) fun r8 σ10 =>
  bd (f_X10_shareOf x1 x2 σ10) fun r11 =>
  chk (decide (¬ r11 = 0)) <|
  f_X10_nearLine_37 x1 x2 (r1 / r4) (r8 / r11) (-1) 0 σ10
noncomputable def f_X4_weight_40 (x1 : Int32) (x2 : Int32) (x3 : Int32) (σ : St) : Option ((Int32 × Int32) ⊕ (Int32)) :=
  some (.inl (x2, (x3 + 1)))
noncomputable def b_X4_weight_4 (x1 : Int32) (x2 : Int32) (x3 : Int32) (σ : St) : Option ((Int32 × Int32) ⊕ (Int32)) :=
  if x3 < (fd σ 1 2) then
  (chk (inb x3 40) <|
  if (rd σ 12 x3) = x1 then
  (f_X4_weight_40 x1 (x2 + (((rd σ 14 x3) - (rd σ 13 x3)) + 1)) x3 σ)
  else
  (f_X4_weight_40 x1 x2 x3 σ))
  else
  (some (.inr (x2)))
noncomputable def f_X4_weight_4 (x1 : Int32) (x2 : Int32) (x3 : Int32) (σ : St) : Option (Int32) := it (fun z : Int32 × Int32 => b_X4_weight_4 x1 z.1 z.2 σ) (x2, x3)
noncomputable def f_X4_weight (x1 : Int32) (σ : St) : Option (Int32) :=
  f_X4_weight_4 x1 0 0 σ
noncomputable def f_X10_wishOf (x1 : Int32) (x2 : Int32) (σ : St) : Option (Int32 × St) :=
  if (fd σ 60 1) = 0 then
  (chk (inb x1 6) <|
  some ((rd σ 16 x1), σ))
  else
  (bd (f_X10_namePlayerAndPart x1 x2 σ) fun σ4 =>
  bd (f_X4_weight x2 σ4) fun r5 =>
  bd (f_X10_name 108 r5 σ4) fun σ10 =>
  bd2 (f_X10_worthOf 60 σ10) fun r11 σ13 =>
  bd (f_X10_held r11 999) fun r14 =>
  some (r14, σ13))
noncomputable def f_X11_isWithin (x0 : Int32) (x1 : Int32) : Option (Int32) :=
  if x0 < 0 then
  (some 0)
  else
  (if x0 < x1 then
  (some 1)
  else
  (some 0))
noncomputable def f_X4_hasPart (x1 : Int32) (σ : St) : Option (Int32) :=
  bd (f_X11_isWithin x1 (fd σ 1 1)) fun r1 =>
  chk (isB r1) <|
  some r1
noncomputable def f_X11_error (x1 : Int32) (σ : St) : Option (Int32 × St) :=
  chk (inb x1 6) <|
  nm (wr σ 9 x1 ((rd σ 9 x1) + 1)) fun σ2 =>
  some (((-1000000) - x1), σ2)
noncomputable def f_X4_isSet (x1 : Int32) (σ : St) : Option (Int32) :=
  bd (f_X11_isWithin x1 ((1 : Int32) <<< ((fd σ 1 3) &&& 31))) fun r1 =>
  chk (isB r1) <|
  some r1
noncomputable def f_X4_allParts (σ : St) : Option (Int32) :=
  some (((1 : Int32) <<< ((fd σ 1 1) &&& 31)) - 1)
noncomputable def f_X4_knows (x1 : Int32) (x2 : Int32) (σ : St) : Option (Int32) :=
  chk (inb x1 6) <|
  if (((rd σ 18 x1) >>> (x2 &&& 31)) &&& 1) = 0 then
  (some 0)
  else
  (some 1)
noncomputable def f_X8_costOf (x1 : Int32) (x2 : Int32) (x3 : Int32) (σ : St) : Option (Int32 × St) :=
  if x1 = 0 then
  (bd2 (f_X10_wishOf x2 x3 σ) fun r2 σ4 =>
  some ((-r2), σ4))
  else
  (if x1 = 1 then
  (bd (f_X4_knows x2 x3 σ) fun r6 =>
  if r6 = 0 then
  (bd (f_X4_weight x3 σ) fun r10 =>
  some (r10, σ))
  else
  (some (0, σ)))
  else
  (if x1 = 2 then
  (bd (f_X4_weight x3 σ) fun r14 =>
  some (r14, σ))
  else
  (chk (inb x3 10) <|
  if (rd σ 11 x3) = x2 then
  (some (0, σ))
  else
  (some (1, σ)))))
noncomputable def f_X8_ask_44 (x1 : Int32) (x2 : Int32) (x3 : Int32) (s0 : Int32) (s1 : Int32) (cs2 : Nat) (σ : St) : Option ((Int32 × St) ⊕ (St)) :=
  chk (inb s1 10) <|
  nm (wr σ cs2 s1 s0) fun σ11 =>
  some (.inl ((x3 + 1), σ11))
noncomputable def b_X8_ask_2 (x1 : Int32) (x2 : Int32) (x3 : Int32) (σ : St) : Option ((Int32 × St) ⊕ (St)) :=
  if x3 < (fd σ 1 1) then
  (chk (inb x1 6) <|
  bd2 (f_X10_isAble x1 x3 σ) fun r4 σ6 =>
  if r4 = 0 then
  (f_X8_ask_44 x1 x2 x3 100000000 x3 (40 + x1.toNatClampNeg) σ6)
  else
  (bd2 (f_X8_costOf x2 x1 x3 σ6) fun r8 σ10 =>
  f_X8_ask_44 x1 x2 x3 r8 x3 (40 + x1.toNatClampNeg) σ10))
  else
  (some (.inr (σ)))
noncomputable def f_X8_ask_2 (x1 : Int32) (x2 : Int32) (x3 : Int32) (σ : St) : Option (St) := it (fun z : Int32 × St => b_X8_ask_2 x1 x2 z.1 z.2) (x3, σ)
noncomputable def f_X8_ask (x1 : Int32) (x2 : Int32) (σ : St) : Option (St) :=
  f_X8_ask_2 x1 x2 0 σ
noncomputable def f_X8_gather_52 (x1 : Int32) (x2 : Int32) (x3 : Int32) (σ : St) : Option ((Int32 × St) ⊕ (St)) :=
  some (.inl ((x3 + 1), σ))
noncomputable def b_X8_gather_7 (x1 : Int32) (x2 : Int32) (x3 : Int32) (σ : St) : Option ((Int32 × St) ⊕ (St)) :=
  if x3 < (fd σ 1 3) then
  (if ((x1 >>> (x3 &&& 31)) &&& 1) = 0 then
  (f_X8_gather_52 x1 x2 x3 σ)
  else
  (chk (inb (fd σ 4 5) 6) <|
  nm (wr σ 35 (fd σ 4 5) x3) fun σ4 =>
  nm (fw σ4 4 5 ((fd σ4 4 5) + 1)) fun σ6 =>
  bd (f_X8_ask x3 x2 σ6) fun σ9 =>
  f_X8_gather_52 x1 x2 x3 σ9))
  else
  (some (.inr (σ)))
noncomputable def f_X8_gather_7 (x1 : Int32) (x2 : Int32) (x3 : Int32) (σ : St) : Option (St) := it (fun z : Int32 × St => b_X8_gather_7 x1 x2 z.1 z.2) (x3, σ)
noncomputable def f_X8_gather (x1 : Int32) (x2 : Int32) (σ : St) : Option (St) :=
  nm (fw σ 4 5 0) fun σ1 =>
  f_X8_gather_7 x1 x2 0 σ1
noncomputable def f_X8_price_123 (x1 : Int32) (x2 : Int32) (σ : St) : Option ((Int32 × St) ⊕ (St)) :=
  some (.inl ((x2 + 1), σ))
noncomputable def f_X8_price_116 (x1 : Int32) (x2 : Int32) (x3 : Int32) (x4 : Int32) (x5 : Int32) (x6 : Int32) (s0 : Int32) (s1 : Int32) (σ : St) : Option ((Int32 × St) ⊕ ((Int32 × St) ⊕ (St))) :=
  chk (inb s1 1024) <|
  nm (wr σ 37 s1 s0) fun σ15 =>
  some (.inl ((x6 + 1), σ15))
noncomputable def f_X8_price_86 (x1 : Int32) (x2 : Int32) (x3 : Int32) (x4 : Int32) (x5 : Int32) (x6 : Int32) (s0 : Int32) (σ : St) : Option ((Int32 × St) ⊕ ((Int32 × St) ⊕ (St))) :=
  if s0 = 0 then
  (f_X8_price_116 x1 x2 x3 x4 x5 x6 100000000 (x6 ||| x3) σ)
  else
  (chk (inb x6 1024) <|
  f_X8_price_116 x1 x2 x3 x4 x5 x6 ((rd σ 37 x6) + x4) (x6 ||| x3) σ)
noncomputable def f_X8_price_85 (x1 : Int32) (x2 : Int32) (x3 : Int32) (x4 : Int32) (x5 : Int32) (x6 : Int32) (σ : St) : Option ((Int32 × St) ⊕ ((Int32 × St) ⊕ (St))) :=
  f_X8_price_86 x1 x2 x3 x4 x5 x6 0 σ
noncomputable def b_X8_price_48 (x1 : Int32) (x2 : Int32) (x3 : Int32) (x4 : Int32) (x5 : Int32) (x6 : Int32) (σ : St) : Option ((Int32 × St) ⊕ ((Int32 × St) ⊕ (St))) :=
  if x6 < x3 then
  (if x4 < 100000000 then
  (chk (inb x6 1024) <|
  if (rd σ 37 x6) < 100000000 then
  (if (x5 &&& x6) = 0 then
  (f_X8_price_86 x1 x2 x3 x4 x5 x6 1 σ)
  else
  (f_X8_price_85 x1 x2 x3 x4 x5 x6 σ))
  else
  (f_X8_price_85 x1 x2 x3 x4 x5 x6 σ))
  else
  (f_X8_price_85 x1 x2 x3 x4 x5 x6 σ))
  else
  ((f_X8_price_123 x1 x2 σ).map .inr)
noncomputable def f_X8_price_48 (x1 : Int32) (x2 : Int32) (x3 : Int32) (x4 : Int32) (x5 : Int32) (x6 : Int32) (σ : St) : Option ((Int32 × St) ⊕ (St)) := it (fun z : Int32 × St => b_X8_price_48 x1 x2 x3 x4 x5 z.1 z.2) (x6, σ)
noncomputable def b_X8_price_9 (x1 : Int32) (x2 : Int32) (σ : St) : Option ((Int32 × St) ⊕ (St)) :=
  if x2 < (fd σ 1 1) then
  (chk (inb x1 6) <|
  chk (inb x2 10) <|
  f_X8_price_48 x1 x2 ((1 : Int32) <<< (x2 &&& 31)) (rd σ (40 + x1.toNatClampNeg) x2) (rd σ 32 x2) 0 σ)
  else
  (some (.inr (σ)))
noncomputable def f_X8_price_9 (x1 : Int32) (x2 : Int32) (σ : St) : Option (St) := it (fun z : Int32 × St => b_X8_price_9 x1 z.1 z.2) (x2, σ)
noncomputable def f_X8_price (x1 : Int32) (σ : St) : Option (St) :=
  chk (inb 0 1024) <|
  nm (wr σ 37 0 0) fun σ1 =>
  f_X8_price_9 x1 0 σ1
noncomputable def f_X8_together (x0 : Int32) (x1 : Int32) (x2 : Int32) : Option (Int32) :=
  if x0 = 2 then
  (some (if x1 < x2 then x2 else x1))
  else
  (some (x1 + x2))
noncomputable def f_X8_addToTeam_149 (x1 : Int32) (x2 : Int32) (x3 : Int32) (c4 : Nat) (c5 : Nat) (x6 : Int32) (σ : St) : Option ((Int32 × St) ⊕ (St)) :=
  some (.inl ((x6 + 1), σ))
noncomputable def f_X8_addToTeam_144 (x1 : Int32) (x2 : Int32) (x3 : Int32) (c4 : Nat) (c5 : Nat) (x6 : Int32) (x7 : Int32) (x8 : Int32) (s0 : Int32) (σ : St) : Option ((Int32 × St) ⊕ ((Int32 × St) ⊕ (St))) :=
  some (.inl (s0, σ))
noncomputable def f_X8_addToTeam_128 (x1 : Int32) (x2 : Int32) (x3 : Int32) (c4 : Nat) (c5 : Nat) (x6 : Int32) (x7 : Int32) (x8 : Int32) (x9 : Int32) (σ : St) : Option ((Int32 × St) ⊕ ((Int32 × St) ⊕ (St))) :=
  if x9 = 0 then
  (f_X8_addToTeam_144 x1 x2 x3 c4 c5 x6 x7 x8 (-1) σ)
  else
  (f_X8_addToTeam_144 x1 x2 x3 c4 c5 x6 x7 x8 ((x9 - 1) &&& x7) σ)
noncomputable def b_X8_addToTeam_72 (x1 : Int32) (x2 : Int32) (x3 : Int32) (c4 : Nat) (c5 : Nat) (x6 : Int32) (x7 : Int32) (x8 : Int32) (x9 : Int32) (σ : St) : Option ((Int32 × St) ⊕ ((Int32 × St) ⊕ (St))) :=
  if x9 < x8 then
  ((f_X8_addToTeam_149 x1 x2 x3 c4 c5 x6 σ).map .inr)
  else
  (chk (inb x9 1024) <|
  if (rd σ c4 x9) < 100000000 then
  (chk (inb x6 1024) <|
  bd (f_X8_together x1 (rd σ 37 x6) (rd σ c4 x9)) fun r17 =>
  chk (inb (x6 ||| x9) 1024) <|
  nm (wr σ c5 (x6 ||| x9) (if r17 < (rd σ c5 (x6 ||| x9)) then r17 else (rd σ c5 (x6 ||| x9)))) fun σ21 =>
  f_X8_addToTeam_128 x1 x2 x3 c4 c5 x6 x7 x8 x9 σ21)
  else
  (f_X8_addToTeam_128 x1 x2 x3 c4 c5 x6 x7 x8 x9 σ))
noncomputable def f_X8_addToTeam_72 (x1 : Int32) (x2 : Int32) (x3 : Int32) (c4 : Nat) (c5 : Nat) (x6 : Int32) (x7 : Int32) (x8 : Int32) (x9 : Int32) (σ : St) : Option ((Int32 × St) ⊕ (St)) := it (fun z : Int32 × St => b_X8_addToTeam_72 x1 x2 x3 c4 c5 x6 x7 x8 z.1 z.2) (x9, σ)
noncomputable def f_X8_addToTeam_66 (x1 : Int32) (x2 : Int32) (x3 : Int32) (c4 : Nat) (c5 : Nat) (x6 : Int32) (x7 : Int32) (s0 : Int32) (σ : St) : Option ((Int32 × St) ⊕ (St)) :=
  f_X8_addToTeam_72 x1 x2 x3 c4 c5 x6 x7 s0 x7 σ
noncomputable def b_X8_addToTeam_32 (x1 : Int32) (x2 : Int32) (x3 : Int32) (c4 : Nat) (c5 : Nat) (x6 : Int32) (σ : St) : Option ((Int32 × St) ⊕ (St)) :=
  if x3 < x6 then
  (some (.inr (σ)))
  else
  (chk (inb x6 1024) <|
  if (rd σ 37 x6) < 100000000 then
  (if x2 = 0 then
  (f_X8_addToTeam_66 x1 x2 x3 c4 c5 x6 (x3 ^^^ x6) (x3 ^^^ x6) σ)
  else
  (f_X8_addToTeam_66 x1 x2 x3 c4 c5 x6 (x3 ^^^ x6) 0 σ))
  else
  (f_X8_addToTeam_149 x1 x2 x3 c4 c5 x6 σ))
noncomputable def f_X8_addToTeam_32 (x1 : Int32) (x2 : Int32) (x3 : Int32) (c4 : Nat) (c5 : Nat) (x6 : Int32) (σ : St) : Option (St) := it (fun z : Int32 × St => b_X8_addToTeam_32 x1 x2 x3 c4 c5 z.1 z.2) (x6, σ)
noncomputable def f_X8_addToTeam (x1 : Int32) (x2 : Int32) (x3 : Int32) (σ : St) : Option (St) :=
  chk (inb (x2 + 1) 6) <|
  chk (inb x2 6) <|
  bd (f_J7_fill_fda19 (46 + x2.toNatClampNeg) 0 (x3 + 1) 100000000 σ) fun σ7 =>
  f_X8_addToTeam_32 x1 x2 x3 (46 + (x2 + 1).toNatClampNeg) (46 + x2.toNatClampNeg) 0 σ7
noncomputable def f_X8_leastShare_54 (x1 : Int32) (x3 : Int32) (x4 : Int32) (c5 : Nat) (x6 : Int32) (σ : St) : Option ((Int32) ⊕ (Int32)) :=
  some (.inl (x6 + 1))
noncomputable def b_X8_leastShare_13 (x1 : Int32) (x3 : Int32) (x4 : Int32) (c5 : Nat) (x6 : Int32) (σ : St) : Option ((Int32) ⊕ (Int32)) :=
  if x6 < x3 then
  (if (x6 &&& (x3 ^^^ (-1))) = 0 then
  (chk (inb x6 1024) <|
  chk (inb (x3 ^^^ x6) 1024) <|
  bd (f_X8_together x1 (rd σ 37 x6) (rd σ c5 (x3 ^^^ x6))) fun r7 =>
  if x4 < r7 then
  (f_X8_leastShare_54 x1 x3 x4 c5 x6 σ)
  else
  (some (.inr (x6))))
  else
  (f_X8_leastShare_54 x1 x3 x4 c5 x6 σ))
  else
  (some (.inr (x3)))
noncomputable def f_X8_leastShare_13 (x1 : Int32) (x3 : Int32) (x4 : Int32) (c5 : Nat) (x6 : Int32) (σ : St) : Option (Int32) := it (fun z : Int32 => b_X8_leastShare_13 x1 x3 x4 c5 z σ) x6
noncomputable def f_X8_leastShare (x1 : Int32) (x2 : Int32) (x3 : Int32) (x4 : Int32) (σ : St) : Option (Int32) :=
  chk (inb (x2 + 1) 6) <|
  f_X8_leastShare_13 x1 x3 x4 (46 + (x2 + 1).toNatClampNeg) 0 σ
noncomputable def f_X8_give_28 (x1 : Int32) (x2 : Int32) (x3 : Int32) (σ : St) : Option ((Int32 × St) ⊕ (St)) :=
  some (.inl ((x3 + 1), σ))
noncomputable def b_X8_give_2 (x1 : Int32) (x2 : Int32) (x3 : Int32) (σ : St) : Option ((Int32 × St) ⊕ (St)) :=
  if x3 < (fd σ 1 1) then
  (if ((x1 >>> (x3 &&& 31)) &&& 1) = 0 then
  (f_X8_give_28 x1 x2 x3 σ)
  else
  (chk (inb x3 10) <|
  nm (wr σ 39 x3 x2) fun σ3 =>
  f_X8_give_28 x1 x2 x3 σ3))
  else
  (some (.inr (σ)))
noncomputable def f_X8_give_2 (x1 : Int32) (x2 : Int32) (x3 : Int32) (σ : St) : Option (St) := it (fun z : Int32 × St => b_X8_give_2 x1 x2 z.1 z.2) (x3, σ)
noncomputable def f_X8_give (x1 : Int32) (x2 : Int32) (σ : St) : Option (St) :=
  f_X8_give_2 x1 x2 0 σ
noncomputable def f_X8_dealOut_94 (x3 : Int32) (σ : St) : Option (St) :=
  chk (inb ((fd σ 4 5) - 1) 6) <|
  bd (f_X8_give x3 (rd σ 35 ((fd σ 4 5) - 1)) σ) fun σ19 =>
  some σ19
noncomputable def f_X8_dealOut_85 (x1 : Int32) (x3 : Int32) (x5 : Int32) (s0 : Int32) (s1 : Int32) (σ : St) : Option ((Int32 × Int32 × Int32 × St) ⊕ (St)) :=
  some (.inl (x3, (s1 - s0), (x5 + 1), σ))
noncomputable def b_X8_dealOut_15 (x1 : Int32) (x3 : Int32) (x4 : Int32) (x5 : Int32) (σ : St) : Option ((Int32 × Int32 × Int32 × St) ⊕ (St)) :=
  if x5 < ((fd σ 4 5) - 1) then
  (chk (inb x5 6) <|
  bd (f_X8_price (rd σ 35 x5) σ) fun σ7 =>
  bd (f_X8_leastShare x1 x5 x3 x4 σ7) fun r8 =>
  bd (f_X8_give r8 (rd σ7 35 x5) σ7) fun σ13 =>
  if x1 = 2 then
  (f_X8_dealOut_85 x1 (x3 ^^^ r8) x5 0 x4 σ13)
  else
  (chk (inb r8 1024) <|
  f_X8_dealOut_85 x1 (x3 ^^^ r8) x5 (rd σ13 37 r8) x4 σ13))
  else
  ((f_X8_dealOut_94 x3 σ).map .inr)
noncomputable def f_X8_dealOut_15 (x1 : Int32) (x3 : Int32) (x4 : Int32) (x5 : Int32) (σ : St) : Option (St) := it (fun z : Int32 × Int32 × Int32 × St => b_X8_dealOut_15 x1 z.1 z.2.1 z.2.2.1 z.2.2.2) (x3, x4, x5, σ)
noncomputable def f_X8_dealOut (x1 : Int32) (x2 : Int32) (σ : St) : Option (St) :=
  chk (inb x2 1024) <|
  f_X8_dealOut_15 x1 x2 (rd σ 46 x2) 0 σ
noncomputable def f_X11_isMissing (x1 : Int32) (σ : St) : Option (Int32) :=
  chk (inb x1 4) <|
  if (rd σ 8 x1) = 0 then
  (some 1)
  else
  (some 0)
noncomputable def f_X4_hasPlayer (x1 : Int32) (σ : St) : Option (Int32) :=
  bd (f_X11_isWithin x1 (fd σ 1 3)) fun r1 =>
  chk (isB r1) <|
  some r1
noncomputable def f_X4_isPlayerOrNobody_13 (σ : St) : Option (Int32) :=
  some 1
noncomputable def f_X4_isPlayerOrNobody (x1 : Int32) (σ : St) : Option (Int32) :=
  if x1 = (-1) then
  (f_X4_isPlayerOrNobody_13 σ)
  else
  (bd (f_X4_hasPlayer x1 σ) fun r2 =>
  if r2 = 0 then
  (some 0)
  else
  (f_X4_isPlayerOrNobody_13 σ))
noncomputable def f_X11_block_88 (c2 : Nat) (x3 : Int32) (σ : St) : Option (Int32 × St) :=
  chk (cpok 0 0 x3 (alen (c2 + 1)) 10) <|
  nm (cpy σ (c2 + 1) 0 11 0 x3) fun σ30 =>
  some (x3, σ30)
noncomputable def f_X11_block_76 (σ : St) : Option (Int32 × St) :=
  bd2 (f_X11_error 5 σ) fun r26 σ28 =>
  some (r26, σ28)
noncomputable def b_X11_block_53 (c2 : Nat) (x3 : Int32) (x4 : Int32) (σ : St) : Option ((Int32) ⊕ (Int32 × St)) :=
  if x4 < x3 then
  (chk (inb x4 (alen (c2 + 1))) <|
  bd (f_X4_isPlayerOrNobody (rd σ (c2 + 1) x4) σ) fun r21 =>
  if r21 = 0 then
  ((f_X11_block_76 σ).map .inr)
  else
  (some (.inl (x4 + 1))))
  else
  ((f_X11_block_88 c2 x3 σ).map .inr)
noncomputable def f_X11_block_53 (c2 : Nat) (x3 : Int32) (x4 : Int32) (σ : St) : Option (Int32 × St) := it (fun z : Int32 => b_X11_block_53 c2 x3 z σ) x4
noncomputable def f_X11_block (x1 : Int32) (σ : St) : Option (Int32 × St) :=
  bd (f_X11_isWithin x1 4) fun r1 =>
  if r1 = 0 then
  (bd2 (f_X11_error 1 σ) fun r15 σ17 =>
  some (r15, σ17))
  else
  (bd (f_X11_isMissing x1 σ) fun r5 =>
  if r5 = 0 then
  (chk (inb x1 4) <|
  nm (if (fd σ 1 1) < (fd σ (76 + 2 * x1.toNatClampNeg) 1) then (fd σ 1 1) else (fd σ (76 + 2 * x1.toNatClampNeg) 1)) fun y11 =>
  f_X11_block_53 (76 + 2 * x1.toNatClampNeg) y11 0 σ)
  else
  (bd2 (f_X11_error 2 σ) fun r12 σ14 =>
  some (r12, σ14)))
noncomputable def f_X4_covers (x1 : Int32) (x2 : Int32) (σ : St) : Option (Int32) :=
  chk (inb x1 40) <|
  if x2 < (rd σ 13 x1) then
  (some 0)
  else
  (if (rd σ 14 x1) < x2 then
  (some 0)
  else
  (some 1))
noncomputable def f_X4_isOnStage_36 (x1 : Int32) (x2 : Int32) (x3 : Int32) (σ : St) : Option ((Int32) ⊕ (Int32)) :=
  some (.inl (x3 + 1))
noncomputable def b_X4_isOnStage_2 (x1 : Int32) (x2 : Int32) (x3 : Int32) (σ : St) : Option ((Int32) ⊕ (Int32)) :=
  if x3 < (fd σ 1 2) then
  (chk (inb x3 40) <|
  chk (inb (rd σ 12 x3) 10) <|
  if (rd σ 11 (rd σ 12 x3)) = x1 then
  (bd (f_X4_covers x3 x2 σ) fun r5 =>
  if r5 = 0 then
  (f_X4_isOnStage_36 x1 x2 x3 σ)
  else
  (some (.inr (1))))
  else
  (f_X4_isOnStage_36 x1 x2 x3 σ))
  else
  (some (.inr (0)))
noncomputable def f_X4_isOnStage_2 (x1 : Int32) (x2 : Int32) (x3 : Int32) (σ : St) : Option (Int32) := it (fun z : Int32 => b_X4_isOnStage_2 x1 x2 z σ) x3
noncomputable def f_X4_isOnStage (x1 : Int32) (x2 : Int32) (σ : St) : Option (Int32) :=
  f_X4_isOnStage_2 x1 x2 0 σ
noncomputable def f_X11_busy_47 (x1 : Int32) (x2 : Int32) (x3 : Int32) (σ : St) : Option ((Int32 × Int32) ⊕ (Int32 × St)) :=
  some (.inl (x2, (x3 + 1)))
noncomputable def b_X11_busy_21 (x1 : Int32) (x2 : Int32) (x3 : Int32) (σ : St) : Option ((Int32 × Int32) ⊕ (Int32 × St)) :=
  if x3 < (fd σ 1 0) then
  (bd (f_X4_isOnStage x1 x3 σ) fun r9 =>
  if r9 = 0 then
  (f_X11_busy_47 x1 x2 x3 σ)
  else
  (f_X11_busy_47 x1 (x2 + 1) x3 σ))
  else
  (some (.inr ((x2, σ))))
noncomputable def f_X11_busy_21 (x1 : Int32) (x2 : Int32) (x3 : Int32) (σ : St) : Option (Int32 × St) := it (fun z : Int32 × Int32 => b_X11_busy_21 x1 z.1 z.2 σ) (x2, x3)
noncomputable def f_X11_busy (x1 : Int32) (σ : St) : Option (Int32 × St) :=
  bd (f_X4_hasPlayer x1 σ) fun r1 =>
  if r1 = 0 then
  (bd2 (f_X11_error 1 σ) fun r5 σ7 =>
  some (r5, σ7))
  else
  (f_X11_busy_21 x1 0 0 σ)
noncomputable def f_X11_can_22 (σ : St) : Option (Int32 × St) :=
  bd2 (f_X11_error 1 σ) fun r13 σ15 =>
  some (r13, σ15)
noncomputable def f_X11_can (x1 : Int32) (x2 : Int32) (σ : St) : Option (Int32 × St) :=
  bd (f_X4_hasPlayer x1 σ) fun r1 =>
  if r1 = 0 then
  (f_X11_can_22 σ)
  else
  (bd (f_X4_hasPart x2 σ) fun r5 =>
  if r5 = 0 then
  (f_X11_can_22 σ)
  else
  (bd2 (f_X10_isAble x1 x2 σ) fun r9 σ11 =>
  if r9 = 0 then
  (some (0, σ11))
  else
  (some (1, σ11))))
noncomputable def f_X11_cast_22 (σ : St) : Option (Int32 × St) :=
  bd2 (f_X11_error 1 σ) fun r11 σ13 =>
  some (r11, σ13)
noncomputable def f_X11_cast (x1 : Int32) (x2 : Int32) (σ : St) : Option (Int32 × St) :=
  bd (f_X4_hasPart x1 σ) fun r1 =>
  if r1 = 0 then
  (f_X11_cast_22 σ)
  else
  (bd (f_X4_isPlayerOrNobody x2 σ) fun r5 =>
  if r5 = 0 then
  (f_X11_cast_22 σ)
  else
  (chk (inb x1 10) <|
  nm (wr σ 11 x1 x2) fun σ10 =>
  some ((rd σ 11 x1), σ10)))
noncomputable def f_X8_countWithOneMore_84 (c1 : Nat) (σ : St) : Option (St) :=
  chk (decide (c1 < 2 ^ 31)) <|
  nm (fw σ 4 9 (nI c1)) fun σ15 =>
  some σ15
noncomputable def f_X8_countWithOneMore_78 (c1 : Nat) (x2 : Int32) (x3 : Int32) (σ : St) : Option ((Int32 × St) ⊕ (St)) :=
  some (.inl ((x3 + 1), σ))
noncomputable def f_X8_countWithOneMore_73 (c1 : Nat) (x2 : Int32) (x3 : Int32) (x4 : Int32) (s0 : Int32) (σ : St) : Option ((Int32 × St) ⊕ ((Int32 × St) ⊕ (St))) :=
  some (.inl (s0, σ))
noncomputable def b_X8_countWithOneMore_36 (c1 : Nat) (x2 : Int32) (x3 : Int32) (x4 : Int32) (x5 : Int32) (σ : St) : Option ((Int32 × St) ⊕ ((Int32 × St) ⊕ (St))) :=
  if x5 < 0 then
  ((f_X8_countWithOneMore_78 c1 x2 x3 σ).map .inr)
  else
  (chk (inb (x3 ||| x5) 1024) <|
  chk (isLeast (rc σ 4 9)) <|
  chk (inb x5 1024) <|
  nm (wr σ c1 (x3 ||| x5) ((rd σ c1 (x3 ||| x5)) + (rd σ (rc σ 4 9) x5))) fun σ13 =>
  if x5 = 0 then
  (f_X8_countWithOneMore_73 c1 x2 x3 x4 (-1) σ13)
  else
  (f_X8_countWithOneMore_73 c1 x2 x3 x4 ((x5 - 1) &&& x4) σ13))
noncomputable def f_X8_countWithOneMore_36 (c1 : Nat) (x2 : Int32) (x3 : Int32) (x4 : Int32) (x5 : Int32) (σ : St) : Option ((Int32 × St) ⊕ (St)) := it (fun z : Int32 × St => b_X8_countWithOneMore_36 c1 x2 x3 x4 z.1 z.2) (x5, σ)
noncomputable def b_X8_countWithOneMore_11 (c1 : Nat) (x2 : Int32) (x3 : Int32) (σ : St) : Option ((Int32 × St) ⊕ (St)) :=
  if x2 < x3 then
  ((f_X8_countWithOneMore_84 c1 σ).map .inr)
  else
  (chk (inb x3 1024) <|
  if (rd σ 37 x3) < 100000000 then
  (f_X8_countWithOneMore_36 c1 x2 x3 (x2 ^^^ x3) (x2 ^^^ x3) σ)
  else
  (f_X8_countWithOneMore_78 c1 x2 x3 σ))
noncomputable def f_X8_countWithOneMore_11 (c1 : Nat) (x2 : Int32) (x3 : Int32) (σ : St) : Option (St) := it (fun z : Int32 × St => b_X8_countWithOneMore_11 c1 x2 z.1 z.2) (x3, σ)
noncomputable def f_X8_countWithOneMore (c1 : Nat) (x2 : Int32) (σ : St) : Option (St) :=
  chk (isLeast c1) (bd (f_J7_fill_fda19 c1 0 (x2 + 1) 0 σ) fun σ3 =>
  f_X8_countWithOneMore_11 c1 x2 0 σ3)
noncomputable def f_X11_isPair (x1 : Int32) (x2 : Int32) (σ : St) : Option (Int32) :=
  bd (f_X4_hasPart x1 σ) fun r1 =>
  if r1 = 0 then
  (some 0)
  else
  (bd (f_X4_hasPart x2 σ) fun r5 =>
  if r5 = 0 then
  (some 0)
  else
  (if x1 = x2 then
  (some 0)
  else
  (some 1)))
noncomputable def f_X11_change_17 (σ : St) : Option (Int32 × St) :=
  bd2 (f_X11_error 1 σ) fun r12 σ14 =>
  some (r12, σ14)
noncomputable def f_X11_change (x1 : Int32) (x2 : Int32) (x3 : Int32) (σ : St) : Option (Int32 × St) :=
  bd (f_X11_isPair x1 x2 σ) fun r1 =>
  if r1 = 0 then
  (f_X11_change_17 σ)
  else
  (bd (f_X11_isWithin x3 2) fun r5 =>
  if r5 = 0 then
  (f_X11_change_17 σ)
  else
  (bd2 (f_X10_changeOf x1 x2 x3 σ) fun r9 σ11 =>
  some (r9, σ11)))
noncomputable def f_X4_allPlayers (σ : St) : Option (Int32) :=
  some (((1 : Int32) <<< ((fd σ 1 3) &&& 31)) - 1)
noncomputable def f_X4_usesWithText_24 (x1 : Int32) (x2 : Int32) (σ : St) : Option ((Int32 × Int32) ⊕ (Int32)) :=
  some (.inl (x1, (x2 + 1)))
noncomputable def b_X4_usesWithText_4 (x1 : Int32) (x2 : Int32) (σ : St) : Option ((Int32 × Int32) ⊕ (Int32)) :=
  if x2 < 3 then
  (chk (inb x2 3) <|
  if 0 < (fd σ (56 + 2 * x2.toNatClampNeg) 1) then
  (f_X4_usesWithText_24 (x1 + 1) x2 σ)
  else
  (f_X4_usesWithText_24 x1 x2 σ))
  else
  (some (.inr (x1)))
noncomputable def f_X4_usesWithText_4 (x1 : Int32) (x2 : Int32) (σ : St) : Option (Int32) := it (fun z : Int32 × Int32 => b_X4_usesWithText_4 z.1 z.2 σ) (x1, x2)
noncomputable def f_X4_usesWithText (σ : St) : Option (Int32) :=
  f_X4_usesWithText_4 0 0 σ
noncomputable def f_X4_partsGiven_25 (x1 : Int32) (x2 : Int32) (σ : St) : Option ((Int32 × Int32) ⊕ (Int32)) :=
  some (.inl (x1, (x2 + 1)))
noncomputable def b_X4_partsGiven_4 (x1 : Int32) (x2 : Int32) (σ : St) : Option ((Int32 × Int32) ⊕ (Int32)) :=
  if x2 < (fd σ 1 1) then
  (chk (inb x2 10) <|
  if (rd σ 11 x2) = (-1) then
  (f_X4_partsGiven_25 x1 x2 σ)
  else
  (f_X4_partsGiven_25 (x1 + 1) x2 σ))
  else
  (some (.inr (x1)))
noncomputable def f_X4_partsGiven_4 (x1 : Int32) (x2 : Int32) (σ : St) : Option (Int32) := it (fun z : Int32 × Int32 => b_X4_partsGiven_4 z.1 z.2 σ) (x1, x2)
noncomputable def f_X4_partsGiven (σ : St) : Option (Int32) :=
  f_X4_partsGiven_4 0 0 σ
noncomputable def f_X11_count (x1 : Int32) (σ : St) : Option (Int32 × St) :=
  if x1 = 0 then
  (some ((fd σ 1 0), σ))
  else
  (if x1 = 1 then
  (some ((fd σ 1 1), σ))
  else
  (if x1 = 2 then
  (some ((fd σ 1 2), σ))
  else
  (if x1 = 3 then
  (some ((fd σ 1 3), σ))
  else
  (if x1 = 4 then
  (some ((fd σ 52 1), σ))
  else
  (if x1 = 5 then
  (some ((fd σ 54 1), σ))
  else
  (if x1 = 6 then
  (some ((fd σ 74 1), σ))
  else
  (if x1 = 7 then
  (bd (f_X4_usesWithText σ) fun r9 =>
  some (r9, σ))
  else
  (if x1 = 8 then
  (bd (f_X4_partsGiven σ) fun r13 =>
  some (r13, σ))
  else
  (bd2 (f_X11_error 1 σ) fun r16 σ18 =>
  some (r16, σ18))))))))))
noncomputable def f_X4_seenOn_42 (x1 : Int32) (x2 : Int32) (x3 : Int32) (σ : St) : Option ((Int32 × Int32) ⊕ (Int32)) :=
  some (.inl (x2, (x3 + 1)))
noncomputable def b_X4_seenOn_4 (x1 : Int32) (x2 : Int32) (x3 : Int32) (σ : St) : Option ((Int32 × Int32) ⊕ (Int32)) :=
  if x3 < (fd σ 1 2) then
  (bd (f_X4_covers x3 x1 σ) fun r2 =>
  if r2 = 0 then
  (f_X4_seenOn_42 x1 x2 x3 σ)
  else
  (chk (inb x3 40) <|
  chk (inb (rd σ 12 x3) 10) <|
  chk (isRole σ ((rd σ 10 (rd σ 12 x3)).toNatClampNeg)) <|
  if (fd σ ((rd σ 10 (rd σ 12 x3)).toNatClampNeg) 1) = 3 then
  (f_X4_seenOn_42 x1 x2 x3 σ)
  else
  (f_X4_seenOn_42 x1 (x2 + 1) x3 σ)))
  else
  (some (.inr (x2)))
noncomputable def f_X4_seenOn_4 (x1 : Int32) (x2 : Int32) (x3 : Int32) (σ : St) : Option (Int32) := it (fun z : Int32 × Int32 => b_X4_seenOn_4 x1 z.1 z.2 σ) (x2, x3)
noncomputable def f_X4_seenOn (x1 : Int32) (σ : St) : Option (Int32) :=
  f_X4_seenOn_4 x1 0 0 σ
noncomputable def b_X11_crowd_4 (x1 : Int32) (x2 : Int32) (σ : St) : Option ((Int32 × Int32) ⊕ (Int32)) :=
  if x2 < (fd σ 1 0) then
  (bd (f_X4_seenOn x2 σ) fun r2 =>
  some (.inl ((if x1 < r2 then r2 else x1), (x2 + 1))))
  else
  (some (.inr (x1)))
noncomputable def f_X11_crowd_4 (x1 : Int32) (x2 : Int32) (σ : St) : Option (Int32) := it (fun z : Int32 × Int32 => b_X11_crowd_4 z.1 z.2 σ) (x1, x2)
noncomputable def f_X11_crowd (σ : St) : Option (Int32) :=
  f_X11_crowd_4 0 0 σ
noncomputable def f_X4_hasLine (x1 : Int32) (σ : St) : Option (Int32) :=
  bd (f_X11_isWithin x1 (fd σ 1 0)) fun r1 =>
  chk (isB r1) <|
  some r1
noncomputable def f_X4_isTaken_54 (x1 : Int32) (x2 : Int32) (x3 : Int32) (x4 : Int32) (x5 : Int32) (σ : St) : Option ((Int32) ⊕ (Int32)) :=
  some (.inl (x5 + 1))
noncomputable def b_X4_isTaken_3 (x1 : Int32) (x2 : Int32) (x3 : Int32) (x4 : Int32) (x5 : Int32) (σ : St) : Option ((Int32) ⊕ (Int32)) :=
  if x5 < (fd σ 1 2) then
  (if x5 = x4 then
  (f_X4_isTaken_54 x1 x2 x3 x4 x5 σ)
  else
  (chk (inb x5 40) <|
  if (rd σ 12 x5) = x1 then
  (if x3 < (rd σ 13 x5) then
  (f_X4_isTaken_54 x1 x2 x3 x4 x5 σ)
  else
  (if (rd σ 14 x5) < x2 then
  (f_X4_isTaken_54 x1 x2 x3 x4 x5 σ)
  else
  (some (.inr (1)))))
  else
  (f_X4_isTaken_54 x1 x2 x3 x4 x5 σ)))
  else
  (some (.inr (0)))
noncomputable def f_X4_isTaken_3 (x1 : Int32) (x2 : Int32) (x3 : Int32) (x4 : Int32) (x5 : Int32) (σ : St) : Option (Int32) := it (fun z : Int32 => b_X4_isTaken_3 x1 x2 x3 x4 z σ) x5
noncomputable def f_X4_isTaken (x1 : Int32) (x2 : Int32) (x3 : Int32) (x4 : Int32) (σ : St) : Option (Int32) :=
  f_X4_isTaken_3 x1 x2 x3 x4 0 σ
noncomputable def f_X4_addEntry (x1 : Int32) (x2 : Int32) (x3 : Int32) (x4 : Int32) (σ : St) : Option (Int32 × St) :=
  chk (inb (fd σ 1 2) 40) <|
  nm (wr σ 12 (fd σ 1 2) x1) fun σ1 =>
  chk (inb (fd σ1 1 2) 40) <|
  nm (wr σ1 13 (fd σ1 1 2) x2) fun σ3 =>
  chk (inb (fd σ3 1 2) 40) <|
  nm (wr σ3 14 (fd σ3 1 2) x3) fun σ5 =>
  chk (inb (fd σ5 1 2) 40) <|
  nm (wr σ5 15 (fd σ5 1 2) x4) fun σ7 =>
  nm (fw σ7 1 2 ((fd σ7 1 2) + 1)) fun σ9 =>
  some (((fd σ9 1 2) - 1), σ9)
noncomputable def f_X11_entry_47 (σ : St) : Option (Int32 × St) :=
  bd2 (f_X11_error 1 σ) fun r32 σ34 =>
  some (r32, σ34)
noncomputable def f_X11_entry (x1 : Int32) (x2 : Int32) (x3 : Int32) (x4 : Int32) (σ : St) : Option (Int32 × St) :=
  bd (f_X4_hasPart x1 σ) fun r1 =>
  if r1 = 0 then
  (f_X11_entry_47 σ)
  else
  (bd (f_X4_hasLine x2 σ) fun r5 =>
  if r5 = 0 then
  (f_X11_entry_47 σ)
  else
  (bd (f_X4_hasLine x3 σ) fun r9 =>
  if r9 = 0 then
  (f_X11_entry_47 σ)
  else
  (if x3 < x2 then
  (f_X11_entry_47 σ)
  else
  (bd (f_X11_isWithin x4 4) fun r14 =>
  if r14 = 0 then
  (f_X11_entry_47 σ)
  else
  (bd (f_X4_isTaken x1 x2 x3 (-1) σ) fun r18 =>
  if r18 = 0 then
  (if (fd σ 1 2) < 40 then
  (bd2 (f_X4_addEntry x1 x2 x3 x4 σ) fun r23 σ25 =>
  some (r23, σ25))
  else
  (bd2 (f_X11_error 4 σ) fun r26 σ28 =>
  some (r26, σ28)))
  else
  (bd2 (f_X11_error 3 σ) fun r29 σ31 =>
  some (r29, σ31)))))))
noncomputable def f_X4_hasEntry (x1 : Int32) (σ : St) : Option (Int32) :=
  bd (f_X11_isWithin x1 (fd σ 1 2)) fun r1 =>
  chk (isB r1) <|
  some r1
noncomputable def f_X11_entryIs_19 (σ : St) : Option (Int32 × St) :=
  bd2 (f_X11_error 1 σ) fun r16 σ18 =>
  some (r16, σ18)
noncomputable def f_X11_entryIs (x1 : Int32) (x2 : Int32) (σ : St) : Option (Int32 × St) :=
  bd (f_X4_hasEntry x1 σ) fun r1 =>
  if r1 = 0 then
  (f_X11_entryIs_19 σ)
  else
  (bd (f_X11_isWithin x2 4) fun r5 =>
  if r5 = 0 then
  (f_X11_entryIs_19 σ)
  else
  (if x2 = 0 then
  (chk (inb x1 40) <|
  some ((rd σ 12 x1), σ))
  else
  (if x2 = 1 then
  (chk (inb x1 40) <|
  some ((rd σ 13 x1), σ))
  else
  (if x2 = 2 then
  (chk (inb x1 40) <|
  some ((rd σ 14 x1), σ))
  else
  (chk (inb x1 40) <|
  some ((rd σ 15 x1), σ))))))
noncomputable def f_X11_feed_77 (σ : St) : Option (Int32 × St) :=
  some ((fd σ 52 1), σ)
noncomputable def b_X11_feed_43 (x1 : Int64) (x3 : Int32) (x4 : Int32) (σ : St) : Option ((Int32 × St) ⊕ (Int32 × St)) :=
  if x4 < x3 then
  (bd (f_X7_add 52 ((((x1).toUInt64 >>> (((8 * x4) : Int32).toInt64.toUInt64 &&& Int64.toUInt64 63)).toInt64).toInt32 &&& 255) σ) fun σ14 =>
  some (.inl ((x4 + 1), σ14)))
  else
  ((f_X11_feed_77 σ).map .inr)
noncomputable def f_X11_feed_43 (x1 : Int64) (x3 : Int32) (x4 : Int32) (σ : St) : Option (Int32 × St) := it (fun z : Int32 × St => b_X11_feed_43 x1 x3 z.1 z.2) (x4, σ)
noncomputable def f_X11_feed_11 (σ : St) : Option (Int32 × St) :=
  bd2 (f_X11_error 1 σ) fun r7 σ9 =>
  some (r7, σ9)
noncomputable def f_X11_feed (x1 : Int64) (x3 : Int32) (σ : St) : Option (Int32 × St) :=
  if x3 < 1 then
  (f_X11_feed_11 σ)
  else
  (if 8 < x3 then
  (f_X11_feed_11 σ)
  else
  (if 50 < ((fd σ 52 1) + x3) then
  (bd2 (f_X11_error 4 σ) fun r4 σ6 =>
  some (r4, σ6))
  else
  (f_X11_feed_43 x1 x3 0 σ)))
noncomputable def f_X11_shiftError (x1 : Int32) (x2 : Int32) (σ : St) : Option (Int32) :=
  bd (f_X4_hasEntry x1 σ) fun r1 =>
  if r1 = 0 then
  (some 1)
  else
  (chk (inb x1 40) <|
  if (lg_cmp ((rd σ 13 x1).toInt64 + x2.toInt64) 0) < 0 then
  (some 1)
  else
  (if (lg_cmp ((rd σ 14 x1).toInt64 + x2.toInt64) ((fd σ 1 0).toInt64)) < 0 then
  (bd (f_X4_isTaken (rd σ 12 x1) (((rd σ 13 x1).toInt64 + x2.toInt64).toInt32) (((rd σ 14 x1).toInt64 + x2.toInt64).toInt32) x1 σ) fun r8 =>
  if r8 = 0 then
  (some 0)
  else
  (some 3))
  else
  (some 1)))
noncomputable def f_X4_delay (x1 : Int32) (x2 : Int32) (σ : St) : Option (St) :=
  chk (inb x1 40) <|
  nm (wr σ 13 x1 ((rd σ 13 x1) + x2)) fun σ2 =>
  nm (wr σ2 14 x1 ((rd σ2 14 x1) + x2)) fun σ3 =>
  some σ3
noncomputable def f_X7_become (c0 : Nat) (c1 : Nat) (σ : St) : Option (St) :=
  chk (isRow c1) (chk (isRow c0) (chk (cpok 0 0 (fd σ c1 1) (alen (c1 + 1)) (alen (c0 + 1))) <|
  nm (cpy σ (c1 + 1) 0 (c0 + 1) 0 (fd σ c1 1)) fun σ2 =>
  nm (fw σ2 c0 1 (fd σ2 c1 1)) fun σ3 =>
  some σ3))
noncomputable def f_X11_know_22 (σ : St) : Option (Int32 × St) :=
  bd2 (f_X11_error 1 σ) fun r15 σ17 =>
  some (r15, σ17)
noncomputable def f_X11_know (x1 : Int32) (x2 : Int32) (x3 : Int32) (σ : St) : Option (Int32 × St) :=
  bd (f_X4_hasPlayer x1 σ) fun r1 =>
  if r1 = 0 then
  (f_X11_know_22 σ)
  else
  (bd (f_X4_hasPart x2 σ) fun r5 =>
  if r5 = 0 then
  (f_X11_know_22 σ)
  else
  (bd (f_X4_knows x1 x2 σ) fun r9 =>
  if r9 = x3 then
  (some (0, σ))
  else
  (chk (inb x1 6) <|
  nm (wr σ 18 x1 ((rd σ 18 x1) ^^^ ((1 : Int32) <<< (x2 &&& 31)))) fun σ14 =>
  some (1, σ14))))
noncomputable def f_X8_weighSets_66 (x1 : Int32) (σ : St) : Option ((Int32 × St) ⊕ (St)) :=
  some (.inl ((x1 + 1), σ))
noncomputable def b_X8_weighSets_36 (x1 : Int32) (x2 : Int32) (x3 : Int32) (x4 : Int32) (σ : St) : Option ((Int32 × St) ⊕ ((Int32 × St) ⊕ (St))) :=
  if x4 < x2 then
  (chk (inb x4 1024) <|
  chk (inb (x4 ||| x2) 1024) <|
  nm (wr σ 37 (x4 ||| x2) ((rd σ 37 x4) + x3)) fun σ10 =>
  some (.inl ((x4 + 1), σ10)))
  else
  ((f_X8_weighSets_66 x1 σ).map .inr)
noncomputable def f_X8_weighSets_36 (x1 : Int32) (x2 : Int32) (x3 : Int32) (x4 : Int32) (σ : St) : Option ((Int32 × St) ⊕ (St)) := it (fun z : Int32 × St => b_X8_weighSets_36 x1 x2 x3 z.1 z.2) (x4, σ)
noncomputable def b_X8_weighSets_9 (x1 : Int32) (σ : St) : Option ((Int32 × St) ⊕ (St)) :=
  if x1 < (fd σ 1 1) then
  (bd (f_X4_weight x1 σ) fun r4 =>
  f_X8_weighSets_36 x1 ((1 : Int32) <<< (x1 &&& 31)) r4 0 σ)
  else
  (some (.inr (σ)))
noncomputable def f_X8_weighSets_9 (x1 : Int32) (σ : St) : Option (St) := it (fun z : Int32 × St => b_X8_weighSets_9 z.1 z.2) (x1, σ)
noncomputable def f_X8_weighSets (σ : St) : Option (St) :=
  chk (inb 0 1024) <|
  nm (wr σ 37 0 0) fun σ1 =>
  f_X8_weighSets_9 0 σ1
noncomputable def f_X8_isLess (x1 : Int32) (x2 : Int32) (σ : St) : Option (Int32) :=
  chk (inb x1 1024) <|
  chk (inb x2 1024) <|
  if (rd σ 37 x1) = (rd σ 37 x2) then
  (bd (f_J6_bitCount_0f7a4 x1) fun r4 =>
  bd (f_J6_bitCount_0f7a4 x2) fun r7 =>
  if (r4 - r7) = 0 then
  (if x1 < x2 then
  (some 1)
  else
  (some 0))
  else
  (if (r4 - r7) < 0 then
  (some 1)
  else
  (some 0)))
  else
  (if (rd σ 37 x1) < (rd σ 37 x2) then
  (some 1)
  else
  (some 0))
noncomputable def f_X8_leftOut_43 (x1 : Int32) (x2 : Int32) (x3 : Int32) (σ : St) : Option ((Int32 × Int32) ⊕ (Int32 × St)) :=
  some (.inl (x2, (x3 + 1)))
noncomputable def b_X8_leftOut_16 (x1 : Int32) (x2 : Int32) (x3 : Int32) (σ : St) : Option ((Int32 × Int32) ⊕ (Int32 × St)) :=
  if x3 < x1 then
  (chk (isLeast (rc σ 4 9)) <|
  chk (inb (x1 ^^^ x3) 1024) <|
  if 0 < (rd σ (rc σ 4 9) (x1 ^^^ x3)) then
  (bd (f_X8_isLess x3 x2 σ) fun r11 =>
  if r11 = 0 then
  (f_X8_leftOut_43 x1 x2 x3 σ)
  else
  (f_X8_leftOut_43 x1 x3 x3 σ))
  else
  (f_X8_leftOut_43 x1 x2 x3 σ))
  else
  (some (.inr ((x2, σ))))
noncomputable def f_X8_leftOut_16 (x1 : Int32) (x2 : Int32) (x3 : Int32) (σ : St) : Option (Int32 × St) := it (fun z : Int32 × Int32 => b_X8_leftOut_16 x1 z.1 z.2 σ) (x2, x3)
noncomputable def f_X8_leftOut (σ : St) : Option (Int32 × St) :=
  bd (f_X8_weighSets σ) fun σ3 =>
  bd (f_X4_allParts σ3) fun r4 =>
  f_X8_leftOut_16 r4 r4 0 σ3
noncomputable def f_X4_weightOfSet_28 (x1 : Int32) (x2 : Int32) (x3 : Int32) (σ : St) : Option ((Int32 × Int32) ⊕ (Int32)) :=
  some (.inl (x2, (x3 + 1)))
noncomputable def b_X4_weightOfSet_4 (x1 : Int32) (x2 : Int32) (x3 : Int32) (σ : St) : Option ((Int32 × Int32) ⊕ (Int32)) :=
  if x3 < (fd σ 1 1) then
  (if ((x1 >>> (x3 &&& 31)) &&& 1) = 0 then
  (f_X4_weightOfSet_28 x1 x2 x3 σ)
  else
  (bd (f_X4_weight x3 σ) fun r3 =>
  f_X4_weightOfSet_28 x1 (x2 + r3) x3 σ))
  else
  (some (.inr (x2)))
noncomputable def f_X4_weightOfSet_4 (x1 : Int32) (x2 : Int32) (x3 : Int32) (σ : St) : Option (Int32) := it (fun z : Int32 × Int32 => b_X4_weightOfSet_4 x1 z.1 z.2 σ) (x2, x3)
noncomputable def f_X4_weightOfSet (x1 : Int32) (σ : St) : Option (Int32) :=
  f_X4_weightOfSet_4 x1 0 0 σ
noncomputable def b_X4_lastLine_4 (x1 : Int32) (x2 : Int32) (σ : St) : Option ((Int32 × Int32) ⊕ (Int32)) :=
  if x2 < (fd σ 1 2) then
  (chk (inb x2 40) <|
  some (.inl ((if x1 < (rd σ 14 x2) then (rd σ 14 x2) else x1), (x2 + 1))))
  else
  (some (.inr (x1)))
noncomputable def f_X4_lastLine_4 (x1 : Int32) (x2 : Int32) (σ : St) : Option (Int32) := it (fun z : Int32 × Int32 => b_X4_lastLine_4 z.1 z.2 σ) (x1, x2)
noncomputable def f_X4_lastLine (σ : St) : Option (Int32) :=
  f_X4_lastLine_4 (-1) 0 σ
noncomputable def f_X11_lines_13 (σ : St) : Option (Int32 × St) :=
  bd2 (f_X11_error 1 σ) fun r11 σ13 =>
  some (r11, σ13)
noncomputable def f_X11_lines (x1 : Int32) (σ : St) : Option (Int32 × St) :=
  if x1 < 10 then
  (f_X11_lines_13 σ)
  else
  (if 200 < x1 then
  (f_X11_lines_13 σ)
  else
  (bd (f_X4_lastLine σ) fun r3 =>
  if r3 < x1 then
  (nm (fw σ 1 0 x1) fun σ7 =>
  some ((fd σ 1 0), σ7))
  else
  (bd2 (f_X11_error 3 σ) fun r8 σ10 =>
  some (r8, σ10))))
noncomputable def f_X11_lowestBits (x0 : Int32) (x1 : Int32) : Option (Int32) :=
  if x1 = 8 then
  (some x0.toInt8.toInt32)
  else
  (if x1 = 16 then
  (some x0.toInt16.toInt32)
  else
  (some x0))
noncomputable def f_X7_holds (c0 : Nat) (x1 : Int32) (x2 : Int32) (σ : St) : Option (Int32) :=
  chk (isRow c0) (if x1 < 0 then
  (some 0)
  else
  (if x2 < 0 then
  (some 0)
  else
  (if 0 < (lg_cmp (x1.toInt64 + x2.toInt64) ((fd σ c0 1).toInt64)) then
  (some 0)
  else
  (some 1))))
noncomputable def f_X11_move_96 (σ : St) : Option (Int32 × St) :=
  bd2 (f_X11_error 1 σ) fun r43 σ45 =>
  some (r43, σ45)
noncomputable def f_X11_move_38 (σ : St) : Option (Int32 × St) :=
  bd2 (f_X11_error 2 σ) fun r40 σ42 =>
  some (r40, σ42)
noncomputable def f_X11_move_16 (σ : St) : Option (Int32 × St) :=
  bd2 (f_X11_error 1 σ) fun r37 σ39 =>
  some (r37, σ39)
noncomputable def f_X11_move (x1 : Int32) (x2 : Int32) (x3 : Int32) (x4 : Int32) (x5 : Int32) (σ : St) : Option (Int32 × St) :=
  bd (f_X11_isWithin x1 4) fun r1 =>
  if r1 = 0 then
  (f_X11_move_16 σ)
  else
  (bd (f_X11_isWithin x3 4) fun r5 =>
  if r5 = 0 then
  (f_X11_move_16 σ)
  else
  (bd (f_X11_isMissing x1 σ) fun r9 =>
  if r9 = 0 then
  (bd (f_X11_isMissing x3 σ) fun r13 =>
  if r13 = 0 then
  (chk (inb x1 4) <|
  chk (inb x3 4) <|
  if (rd σ 8 x1) = (rd σ 8 x3) then
  (bd (f_X7_holds (76 + 2 * x1.toNatClampNeg) x2 x5 σ) fun r21 =>
  if r21 = 0 then
  (f_X11_move_96 σ)
  else
  (bd (f_X7_holds (76 + 2 * x3.toNatClampNeg) x4 x5 σ) fun r26 =>
  if r26 = 0 then
  (f_X11_move_96 σ)
  else
  (chk (cpok x2 x4 x5 (alen ((76 + 2 * x1.toNatClampNeg) + 1)) (alen ((76 + 2 * x3.toNatClampNeg) + 1))) <|
  nm (cpy σ ((76 + 2 * x1.toNatClampNeg) + 1) x2 ((76 + 2 * x3.toNatClampNeg) + 1) x4 x5) fun σ33 =>
  some (x5, σ33))))
  else
  (bd2 (f_X11_error 5 σ) fun r34 σ36 =>
  some (r34, σ36)))
  else
  (f_X11_move_38 σ))
  else
  (f_X11_move_38 σ)))
noncomputable def f_X8_findShares_114 (x3 : Int32) (x4 : Int32) (x5 : Int32) (σ : St) : Option ((Int32 × Int32 × St) ⊕ (Int32 × St)) :=
  some (.inl (x4, (x5 + 1), σ))
noncomputable def b_X8_findShares_59 (x3 : Int32) (x4 : Int32) (x5 : Int32) (σ : St) : Option ((Int32 × Int32 × St) ⊕ (Int32 × St)) :=
  if x3 < x5 then
  (chk (isB x4) <|
  some (.inr ((x4, σ))))
  else
  (chk (inb x5 1024) <|
  if (rd σ 37 x5) < 100000000 then
  (chk (isLeast (rc σ 4 9)) <|
  chk (inb (x3 ^^^ x5) 1024) <|
  if 0 < (rd σ (rc σ 4 9) (x3 ^^^ x5)) then
  (nm (fw σ 4 12 ((fd σ 4 12) ||| x5)) fun σ24 =>
  nm (fw σ24 4 13 ((fd σ24 4 13) &&& x5)) fun σ25 =>
  f_X8_findShares_114 x3 1 x5 σ25)
  else
  (f_X8_findShares_114 x3 x4 x5 σ))
  else
  (f_X8_findShares_114 x3 x4 x5 σ))
noncomputable def f_X8_findShares_59 (x3 : Int32) (x4 : Int32) (x5 : Int32) (σ : St) : Option (Int32 × St) := it (fun z : Int32 × Int32 × St => b_X8_findShares_59 x3 z.1 z.2.1 z.2.2) (x4, x5, σ)
noncomputable def f_X8_findShares (x1 : Int32) (x2 : Int32) (σ : St) : Option (Int32 × St) :=
  bd (f_X4_allParts σ) fun r1 =>
  nm (fw σ 4 12 0) fun σ4 =>
  if x2 = 0 then
  (nm (fw σ4 4 13 0) fun σ13 =>
  chk (isLeast (rc σ13 4 9)) <|
  chk (inb r1 1024) <|
  if 0 < (rd σ13 (rc σ13 4 9) r1) then
  (some (1, σ13))
  else
  (some (0, σ13)))
  else
  (nm (fw σ4 4 13 r1) fun σ6 =>
  bd (f_X8_ask x1 3 σ6) fun σ9 =>
  bd (f_X8_price x1 σ9) fun σ12 =>
  f_X8_findShares_59 r1 0 0 σ12)
noncomputable def f_X11_on_47 (x1 : Int32) (x2 : Int32) (x3 : Int32) (σ : St) : Option ((Int32 × Int32) ⊕ (Int32 × St)) :=
  some (.inl (x2, (x3 + 1)))
noncomputable def b_X11_on_21 (x1 : Int32) (x2 : Int32) (x3 : Int32) (σ : St) : Option ((Int32 × Int32) ⊕ (Int32 × St)) :=
  if x3 < (fd σ 1 2) then
  (bd (f_X4_covers x3 x1 σ) fun r9 =>
  if r9 = 0 then
  (f_X11_on_47 x1 x2 x3 σ)
  else
  (f_X11_on_47 x1 (x2 + 1) x3 σ))
  else
  (some (.inr ((x2, σ))))
noncomputable def f_X11_on_21 (x1 : Int32) (x2 : Int32) (x3 : Int32) (σ : St) : Option (Int32 × St) := it (fun z : Int32 × Int32 => b_X11_on_21 x1 z.1 z.2 σ) (x2, x3)
noncomputable def f_X11_on (x1 : Int32) (σ : St) : Option (Int32 × St) :=
  bd (f_X4_hasLine x1 σ) fun r1 =>
  if r1 = 0 then
  (bd2 (f_X11_error 1 σ) fun r5 σ7 =>
  some (r5, σ7))
  else
  (f_X11_on_21 x1 0 0 σ)
noncomputable def f_X4_entriesOf_25 (x1 : Int32) (x2 : Int32) (x3 : Int32) (σ : St) : Option ((Int32 × Int32) ⊕ (Int32)) :=
  some (.inl (x2, (x3 + 1)))
noncomputable def b_X4_entriesOf_4 (x1 : Int32) (x2 : Int32) (x3 : Int32) (σ : St) : Option ((Int32 × Int32) ⊕ (Int32)) :=
  if x3 < (fd σ 1 2) then
  (chk (inb x3 40) <|
  if (rd σ 12 x3) = x1 then
  (f_X4_entriesOf_25 x1 (x2 + 1) x3 σ)
  else
  (f_X4_entriesOf_25 x1 x2 x3 σ))
  else
  (some (.inr (x2)))
noncomputable def f_X4_entriesOf_4 (x1 : Int32) (x2 : Int32) (x3 : Int32) (σ : St) : Option (Int32) := it (fun z : Int32 × Int32 => b_X4_entriesOf_4 x1 z.1 z.2 σ) (x2, x3)
noncomputable def f_X4_entriesOf (x1 : Int32) (σ : St) : Option (Int32) :=
  f_X4_entriesOf_4 x1 0 0 σ
noncomputable def f_X11_partIs_20 (σ : St) : Option (Int32 × St) :=
  bd2 (f_X11_error 1 σ) fun r22 σ24 =>
  some (r22, σ24)
noncomputable def f_X11_partIs (x1 : Int32) (x2 : Int32) (σ : St) : Option (Int32 × St) :=
  bd (f_X4_hasPart x1 σ) fun r1 =>
  if r1 = 0 then
  (f_X11_partIs_20 σ)
  else
  (bd (f_X11_isWithin x2 6) fun r5 =>
  if r5 = 0 then
  (f_X11_partIs_20 σ)
  else
  (chk (inb x1 10) <|
  chk (isRole σ ((rd σ 10 x1).toNatClampNeg)) <|
  if x2 = 0 then
  (some ((fd σ ((rd σ 10 x1).toNatClampNeg) 1), σ))
  else
  (if x2 = 1 then
  (some ((fd σ ((rd σ 10 x1).toNatClampNeg) 2), σ))
  else
  (if x2 = 2 then
  (some ((fd σ ((rd σ 10 x1).toNatClampNeg) 3), σ))
  else
  (if x2 = 3 then
  (some ((fd σ ((rd σ 10 x1).toNatClampNeg) 4), σ))
  else
  (if x2 = 4 then
  (bd (f_X4_weight x1 σ) fun r16 =>
  some (r16, σ))
  else
  (bd (f_X4_entriesOf x1 σ) fun r19 =>
  some (r19, σ))))))))
noncomputable def f_X4_addPlayer (x1 : Int32) (x2 : Int32) (σ : St) : Option (Int32 × St) :=
  chk (inb (fd σ 1 3) 6) <|
  nm (wr σ 16 (fd σ 1 3) x1) fun σ1 =>
  chk (inb (fd σ1 1 3) 6) <|
  nm (wr σ1 17 (fd σ1 1 3) x2) fun σ3 =>
  chk (inb (fd σ3 1 3) 6) <|
  nm (wr σ3 18 (fd σ3 1 3) 0) fun σ5 =>
  nm (fw σ5 1 3 ((fd σ5 1 3) + 1)) fun σ7 =>
  some (((fd σ7 1 3) - 1), σ7)
noncomputable def f_X11_player_18 (σ : St) : Option (Int32 × St) :=
  bd2 (f_X11_error 1 σ) fun r16 σ18 =>
  some (r16, σ18)
noncomputable def f_X11_player (x1 : Int32) (x2 : Int32) (σ : St) : Option (Int32 × St) :=
  bd (f_X11_isWithin x1 10) fun r1 =>
  if r1 = 0 then
  (f_X11_player_18 σ)
  else
  (bd (f_X11_isWithin x2 100) fun r5 =>
  if r5 = 0 then
  (f_X11_player_18 σ)
  else
  (if (fd σ 1 3) < 6 then
  (bd2 (f_X4_addPlayer x1 x2 σ) fun r10 σ12 =>
  some (r10, σ12))
  else
  (bd2 (f_X11_error 4 σ) fun r13 σ15 =>
  some (r13, σ15))))
noncomputable def f_X11_put (x1 : Int32) (x2 : Int32) (x3 : Int32) (σ : St) : Option (Int32 × St) :=
  bd (f_X11_isWithin x1 4) fun r1 =>
  if r1 = 0 then
  (bd2 (f_X11_error 1 σ) fun r27 σ29 =>
  some (r27, σ29))
  else
  (bd (f_X11_isMissing x1 σ) fun r5 =>
  if r5 = 0 then
  (chk (inb x1 4) <|
  bd (f_X11_isWithin x2 (fd σ (76 + 2 * x1.toNatClampNeg) 1)) fun r11 =>
  if r11 = 0 then
  (bd2 (f_X11_error 1 σ) fun r21 σ23 =>
  some (r21, σ23))
  else
  (bd (f_X11_lowestBits x3 (rd σ 8 x1)) fun r16 =>
  chk (inb x2 (alen ((76 + 2 * x1.toNatClampNeg) + 1))) <|
  nm (wr σ ((76 + 2 * x1.toNatClampNeg) + 1) x2 r16) fun σ19 =>
  some (1, σ19)))
  else
  (bd2 (f_X11_error 2 σ) fun r24 σ26 =>
  some (r24, σ26)))
noncomputable def f_X11_sheet_88 (x1 : Int32) (s0 : Int32) (cs1 : Nat) (σ : St) : Option (Int32 × St) :=
  nm (fw σ cs1 1 s0) fun σ26 =>
  chk (inb x1 4) <|
  bd (f_J7_fill_53178 ((76 + 2 * x1.toNatClampNeg) + 1) 0 σ26) fun σ31 =>
  some (1, σ31)
noncomputable def f_X11_sheet_66 (x1 : Int32) (x2 : Int32) (x3 : Int32) (σ : St) : Option (Int32 × St) :=
  chk (inb x1 4) <|
  nm (wr σ 8 x1 x2) fun σ22 =>
  if x2 = 0 then
  (f_X11_sheet_88 x1 0 (76 + 2 * x1.toNatClampNeg) σ22)
  else
  (f_X11_sheet_88 x1 x3 (76 + 2 * x1.toNatClampNeg) σ22)
noncomputable def f_X11_sheet_50 (x1 : Int32) (x2 : Int32) (x3 : Int32) (σ : St) : Option (Int32 × St) :=
  if x2 = 0 then
  (f_X11_sheet_66 x1 x2 x3 σ)
  else
  (if 24 < x3 then
  (bd2 (f_X11_error 1 σ) fun r19 σ21 =>
  some (r19, σ21))
  else
  (f_X11_sheet_66 x1 x2 x3 σ))
noncomputable def f_X11_sheet_36 (x1 : Int32) (x2 : Int32) (x3 : Int32) (σ : St) : Option (Int32 × St) :=
  if x2 = 0 then
  (f_X11_sheet_50 x1 x2 x3 σ)
  else
  (if x3 < 0 then
  (bd2 (f_X11_error 3 σ) fun r14 σ16 =>
  some (r14, σ16))
  else
  (f_X11_sheet_50 x1 x2 x3 σ))
noncomputable def f_X11_sheet_30 (σ : St) : Option (Int32 × St) :=
  bd2 (f_X11_error 1 σ) fun r9 σ11 =>
  some (r9, σ11)
noncomputable def f_X11_sheet (x1 : Int32) (x2 : Int32) (x3 : Int32) (σ : St) : Option (Int32 × St) :=
  bd (f_X11_isWithin x1 4) fun r1 =>
  if r1 = 0 then
  (f_X11_sheet_30 σ)
  else
  (if x2 = 0 then
  (f_X11_sheet_36 x1 x2 x3 σ)
  else
  (if x2 = 8 then
  (f_X11_sheet_36 x1 x2 x3 σ)
  else
  (if x2 = 16 then
  (f_X11_sheet_36 x1 x2 x3 σ)
  else
  (if x2 = 32 then
  (f_X11_sheet_36 x1 x2 x3 σ)
  else
  (f_X11_sheet_30 σ)))))
noncomputable def f_X11_shift (x1 : Int32) (x2 : Int32) (σ : St) : Option (Int32 × St) :=
  bd (f_X11_shiftError x1 x2 σ) fun r1 =>
  if r1 = 0 then
  (bd (f_X4_delay x1 x2 σ) fun σ7 =>
  chk (inb x1 40) <|
  some ((rd σ7 13 x1), σ7))
  else
  (bd2 (f_X11_error r1 σ) fun r9 σ11 =>
  some (r9, σ11))
noncomputable def f_X11_tell (x1 : Int32) (σ : St) : Option (Int32 × St) :=
  if (fd σ 54 1) < 20 then
  (bd (f_X7_add 54 x1 σ) fun σ4 =>
  some ((fd σ4 54 1), σ4))
  else
  (bd2 (f_X11_error 4 σ) fun r5 σ7 =>
  some (r5, σ7))
noncomputable def f_X5_next (σ : St) : Option (Int32) :=
  chk (isRow (rc σ 5 1)) <|
  if (fd σ 5 3) < (fd σ (rc σ 5 1) 1) then
  (chk (inb (fd σ 5 3) (alen ((rc σ 5 1) + 1))) <|
  some (rd σ ((rc σ 5 1) + 1) (fd σ 5 3)))
  else
  (some (-1))
noncomputable def f_X5_isDigit (x0 : Int32) : Option (Int32) :=
  if x0 < 48 then
  (some 0)
  else
  (if 57 < x0 then
  (some 0)
  else
  (some 1))
noncomputable def f_X5_readNumber_48 (x1 : Int32) (σ : St) : Option (St) :=
  bd (f_X7_add 72 (256 + x1) σ) fun σ17 =>
  some σ17
noncomputable def b_X5_readNumber_4 (x1 : Int32) (x2 : Int32) (σ : St) : Option ((Int32 × Int32 × St) ⊕ (St)) :=
  if x2 < 4 then
  (bd (f_X5_next σ) fun r3 =>
  bd (f_X5_isDigit r3) fun r6 =>
  if r6 = 0 then
  ((f_X5_readNumber_48 x1 σ).map .inr)
  else
  (bd (f_X5_next σ) fun r11 =>
  nm (fw σ 5 3 ((fd σ 5 3) + 1)) fun σ14 =>
  some (.inl ((((x1 * 10) + r11) - 48), (x2 + 1), σ14))))
  else
  ((f_X5_readNumber_48 x1 σ).map .inr)
noncomputable def f_X5_readNumber_4 (x1 : Int32) (x2 : Int32) (σ : St) : Option (St) := it (fun z : Int32 × Int32 × St => b_X5_readNumber_4 z.1 z.2.1 z.2.2) (x1, x2, σ)
noncomputable def f_X5_readNumber (σ : St) : Option (St) :=
  f_X5_readNumber_4 0 0 σ
noncomputable def f_X5_readClosing_16 (σ : St) : Option (St) :=
  nm (fw σ 5 4 1) fun σ7 =>
  some σ7
noncomputable def f_X5_readClosing (σ : St) : Option (St) :=
  if (fd σ 5 4) = 0 then
  (bd (f_X5_next σ) fun r2 =>
  if r2 = 41 then
  (nm (fw σ 5 3 ((fd σ 5 3) + 1)) fun σ6 =>
  some σ6)
  else
  (f_X5_readClosing_16 σ))
  else
  (f_X5_readClosing_16 σ)
noncomputable def f_X5_levelOf (x0 : Int32) : Option (Int32) :=
  if x0 = 37 then
  (some 4)
  else
  (if x0 = 38 then
  (some 1)
  else
  (if x0 = 42 then
  (some 4)
  else
  (if x0 = 43 then
  (some 3)
  else
  (if x0 = 45 then
  (some 3)
  else
  (if x0 = 47 then
  (some 4)
  else
  (if x0 = 60 then
  (some 2)
  else
  (if x0 = 61 then
  (some 2)
  else
  (if x0 = 62 then
  (some 2)
  else
  (if x0 = 124 then
  (some 0)
  else
  (some (-1)))))))))))
noncomputable def f_X11_told_10 (σ : St) : Option (Int32 × St) :=
  bd2 (f_X11_error 1 σ) fun r4 σ6 =>
  some (r4, σ6)
noncomputable def f_X11_told (x1 : Int32) (σ : St) : Option (Int32 × St) :=
  if x1 < 1 then
  (f_X11_told_10 σ)
  else
  (if 5 < x1 then
  (f_X11_told_10 σ)
  else
  (chk (inb x1 6) <|
  some ((rd σ 9 x1), σ)))
noncomputable def f_X11_trace (x1 : Int32) (σ : St) : Option (Int32 × St) :=
  bd (f_X11_isWithin x1 (fd σ 74 1)) fun r1 =>
  if r1 = 0 then
  (bd2 (f_X11_error 2 σ) fun r6 σ8 =>
  some (r6, σ8))
  else
  (chk (inb x1 40) <|
  some ((rd σ 75 x1), σ))
noncomputable def f_X11_wish_22 (σ : St) : Option (Int32 × St) :=
  bd2 (f_X11_error 1 σ) fun r12 σ14 =>
  some (r12, σ14)
noncomputable def f_X11_wish (x1 : Int32) (x2 : Int32) (σ : St) : Option (Int32 × St) :=
  bd (f_X4_hasPlayer x1 σ) fun r1 =>
  if r1 = 0 then
  (f_X11_wish_22 σ)
  else
  (bd (f_X4_hasPart x2 σ) fun r5 =>
  if r5 = 0 then
  (f_X11_wish_22 σ)
  else
  (bd2 (f_X10_wishOf x1 x2 σ) fun r9 σ11 =>
  some (r9, σ11)))
noncomputable def f_X12_above (x0 : Int32) : Option (Int32) :=
  if x0 = 0 then
  (some (-1))
  else
  (if x0 = 1 then
  (some 0)
  else
  (if x0 = 2 then
  (some 0)
  else
  (if x0 = 3 then
  (some 1)
  else
  (if x0 = 4 then
  (some 2)
  else
  (if x0 = 5 then
  (some 1)
  else
  (some 0))))))
noncomputable def f_X12_allParts (σ : St) : Option (Int32) :=
  chk (inb 1 466) <|
  some (((1 : Int32) <<< ((rd σ 84 1) &&& 31)) - 1)
noncomputable def f_X12_in (x0 : Int32) (x1 : Int32) (x2 : Int32) : Option (Int32) :=
  if x0 < x1 then
  (some 0)
  else
  (if x2 < x0 then
  (some 0)
  else
  (some 1))
noncomputable def f_X12_isPart (x1 : Int32) (σ : St) : Option (Int32) :=
  chk (inb 1 466) <|
  bd (f_X12_in x1 0 ((rd σ 84 1) - 1)) fun r2 =>
  chk (isB r2) <|
  some r2
noncomputable def f_X12_finds (x1 : Int32) (σ : St) : Option (Int32 × St) :=
  chk (inb x1 6) <|
  nm (wr σ 86 x1 ((rd σ 86 x1) + 1)) fun σ2 =>
  some (((-1000000) - x1), σ2)
noncomputable def f_X12_its (x1 : Int32) (x2 : Int32) (σ : St) : Option (Int32) :=
  chk (inb ((10 + (5 * x1)) + x2) 466) <|
  some (rd σ 84 ((10 + (5 * x1)) + x2))
noncomputable def f_X12_isUnder_19 (x1 : Int32) (x2 : Int32) : Option (Int32) :=
  if x2 = x1 then
  (some 1)
  else
  (some 0)
noncomputable def b_X12_isUnder_2 (x1 : Int32) (x2 : Int32) : Option ((Int32) ⊕ (Int32)) :=
  if x2 < 0 then
  ((f_X12_isUnder_19 x1 x2).map .inr)
  else
  (if x2 = x1 then
  ((f_X12_isUnder_19 x1 x2).map .inr)
  else
  (bd (f_X12_above x2) fun r5 =>
  some (.inl r5)))
noncomputable def f_X12_isUnder_2 (x1 : Int32) (x2 : Int32) : Option (Int32) := it (fun z : Int32 => b_X12_isUnder_2 x1 z) x2
noncomputable def f_X12_isUnder (x0 : Int32) (x1 : Int32) : Option (Int32) :=
  f_X12_isUnder_2 x1 x0
noncomputable def f_X12_entryOf (x1 : Int32) (x2 : Int32) (σ : St) : Option (Int32) :=
  chk (inb ((60 + (4 * x1)) + x2) 466) <|
  some (rd σ 84 ((60 + (4 * x1)) + x2))
noncomputable def f_X12_weight_44 (x1 : Int32) (x3 : Int32) (s0 : Int32) (s1 : Int32) (σ : St) : Option ((Int32 × Int32) ⊕ (Int32)) :=
  some (.inl ((s1 + s0), (x3 + 1)))
noncomputable def b_X12_weight_4 (x1 : Int32) (x2 : Int32) (x3 : Int32) (σ : St) : Option ((Int32 × Int32) ⊕ (Int32)) :=
  chk (inb 2 466) <|
  if x3 < (rd σ 84 2) then
  (bd (f_X12_entryOf x3 0 σ) fun r3 =>
  if r3 = x1 then
  (bd (f_X12_entryOf x3 2 σ) fun r7 =>
  bd (f_X12_entryOf x3 1 σ) fun r10 =>
  f_X12_weight_44 x1 x3 ((r7 - r10) + 1) x2 σ)
  else
  (f_X12_weight_44 x1 x3 0 x2 σ))
  else
  (some (.inr (x2)))
noncomputable def f_X12_weight_4 (x1 : Int32) (x2 : Int32) (x3 : Int32) (σ : St) : Option (Int32) := it (fun z : Int32 × Int32 => b_X12_weight_4 x1 z.1 z.2 σ) (x2, x3)
noncomputable def f_X12_weight (x1 : Int32) (σ : St) : Option (Int32) :=
  f_X12_weight_4 x1 0 0 σ
noncomputable def f_X12_as_17 (σ : St) : Option (Int32 × St) :=
  bd2 (f_X12_finds 1 σ) fun r22 σ24 =>
  some (r22, σ24)
noncomputable def f_X12_as (x1 : Int32) (x2 : Int32) (σ : St) : Option (Int32 × St) :=
  bd (f_X12_isPart x1 σ) fun r1 =>
  if r1 = 0 then
  (f_X12_as_17 σ)
  else
  (bd (f_X12_in x2 0 5) fun r5 =>
  if r5 = 0 then
  (f_X12_as_17 σ)
  else
  (bd (f_X12_its x1 0 σ) fun r9 =>
  bd (f_X12_isUnder r9 x2) fun r12 =>
  if r12 = 0 then
  (bd2 (f_X12_finds 5 σ) fun r16 σ18 =>
  some (r16, σ18))
  else
  (bd (f_X12_weight x1 σ) fun r19 =>
  some (r19, σ))))
noncomputable def f_X12_meetAt_150 (x1 : Int32) (x2 : Int32) (x3 : Int32) (x4 : Int32) (σ : St) : Option ((Int32 × Int32) ⊕ (Int32)) :=
  some (.inl (x3, (x4 + 1)))
noncomputable def f_X12_meetAt_144 (x1 : Int32) (x2 : Int32) (x3 : Int32) (x4 : Int32) (x5 : Int32) (σ : St) : Option ((Int32 × Int32) ⊕ ((Int32 × Int32) ⊕ (Int32))) :=
  some (.inl (x3, (x5 + 1)))
noncomputable def f_X12_meetAt_143 (x1 : Int32) (x2 : Int32) (x4 : Int32) (x5 : Int32) (s0 : Int32) (σ : St) : Option ((Int32 × Int32) ⊕ ((Int32 × Int32) ⊕ (Int32))) :=
  f_X12_meetAt_144 x1 x2 s0 x4 x5 σ
noncomputable def f_X12_meetAt_142 (x1 : Int32) (x2 : Int32) (x3 : Int32) (x4 : Int32) (x5 : Int32) (σ : St) : Option ((Int32 × Int32) ⊕ ((Int32 × Int32) ⊕ (Int32))) :=
  f_X12_meetAt_143 x1 x2 x4 x5 x3 σ
noncomputable def f_X12_meetAt_137 (x1 : Int32) (x2 : Int32) (x4 : Int32) (x5 : Int32) (x6 : Int32) (σ : St) : Option ((Int32 × Int32) ⊕ ((Int32 × Int32) ⊕ (Int32))) :=
  f_X12_meetAt_143 x1 x2 x4 x5 x6 σ
noncomputable def f_X12_meetAt_120 (x1 : Int32) (x2 : Int32) (x3 : Int32) (x4 : Int32) (x5 : Int32) (x6 : Int32) (s0 : Int32) (σ : St) : Option ((Int32 × Int32) ⊕ ((Int32 × Int32) ⊕ (Int32))) :=
  if s0 = 0 then
  (f_X12_meetAt_142 x1 x2 x3 x4 x5 σ)
  else
  (if x3 < 0 then
  (f_X12_meetAt_137 x1 x2 x4 x5 x6 σ)
  else
  (if x6 < x3 then
  (f_X12_meetAt_137 x1 x2 x4 x5 x6 σ)
  else
  (f_X12_meetAt_142 x1 x2 x3 x4 x5 σ)))
noncomputable def f_X12_meetAt_119 (x1 : Int32) (x2 : Int32) (x3 : Int32) (x4 : Int32) (x5 : Int32) (x6 : Int32) (σ : St) : Option ((Int32 × Int32) ⊕ ((Int32 × Int32) ⊕ (Int32))) :=
  f_X12_meetAt_120 x1 x2 x3 x4 x5 x6 0 σ
noncomputable def f_X12_meetAt_89 (x1 : Int32) (x2 : Int32) (x3 : Int32) (x4 : Int32) (x5 : Int32) (s0 : Int32) (σ : St) : Option ((Int32 × Int32) ⊕ ((Int32 × Int32) ⊕ (Int32))) :=
  bd (f_X12_entryOf x4 2 σ) fun r27 =>
  if r27 < s0 then
  (f_X12_meetAt_119 x1 x2 x3 x4 x5 s0 σ)
  else
  (bd (f_X12_entryOf x5 2 σ) fun r31 =>
  if r31 < s0 then
  (f_X12_meetAt_119 x1 x2 x3 x4 x5 s0 σ)
  else
  (f_X12_meetAt_120 x1 x2 x3 x4 x5 s0 1 σ))
noncomputable def b_X12_meetAt_19 (x1 : Int32) (x2 : Int32) (x3 : Int32) (x4 : Int32) (x5 : Int32) (σ : St) : Option ((Int32 × Int32) ⊕ ((Int32 × Int32) ⊕ (Int32))) :=
  chk (inb 2 466) <|
  if x5 < (rd σ 84 2) then
  (bd (f_X12_entryOf x4 0 σ) fun r6 =>
  if r6 = x1 then
  (bd (f_X12_entryOf x5 0 σ) fun r10 =>
  if r10 = x2 then
  (bd (f_X12_entryOf x4 1 σ) fun r14 =>
  bd (f_X12_entryOf x5 1 σ) fun r17 =>
  if r17 < r14 then
  (bd (f_X12_entryOf x4 1 σ) fun r24 =>
  f_X12_meetAt_89 x1 x2 x3 x4 x5 r24 σ)
  else
  (bd (f_X12_entryOf x5 1 σ) fun r21 =>
  f_X12_meetAt_89 x1 x2 x3 x4 x5 r21 σ))
  else
  (f_X12_meetAt_144 x1 x2 x3 x4 x5 σ))
  else
  (f_X12_meetAt_144 x1 x2 x3 x4 x5 σ))
  else
  ((f_X12_meetAt_150 x1 x2 x3 x4 σ).map .inr)
noncomputable def f_X12_meetAt_19 (x1 : Int32) (x2 : Int32) (x3 : Int32) (x4 : Int32) (x5 : Int32) (σ : St) : Option ((Int32 × Int32) ⊕ (Int32)) := it (fun z : Int32 × Int32 => b_X12_meetAt_19 x1 x2 z.1 x4 z.2 σ) (x3, x5)
noncomputable def b_X12_meetAt_5 (x1 : Int32) (x2 : Int32) (x3 : Int32) (x4 : Int32) (σ : St) : Option ((Int32 × Int32) ⊕ (Int32)) :=
  chk (inb 2 466) <|
  if x4 < (rd σ 84 2) then
  (f_X12_meetAt_19 x1 x2 x3 x4 0 σ)
  else
  (some (.inr (x3)))
noncomputable def f_X12_meetAt_5 (x1 : Int32) (x2 : Int32) (x3 : Int32) (x4 : Int32) (σ : St) : Option (Int32) := it (fun z : Int32 × Int32 => b_X12_meetAt_5 x1 x2 z.1 z.2 σ) (x3, x4)
noncomputable def f_X12_meetAt (x1 : Int32) (x2 : Int32) (σ : St) : Option (Int32) :=
  f_X12_meetAt_5 x1 x2 (-1) 0 σ
noncomputable def f_X12_done (x0 : Int32) (x1 : Int32) (x2 : Int32) : Option (Int32) :=
  if x0 = 38 then
  (if x1 = 0 then
  (some 0)
  else
  (if x2 = 0 then
  (some 0)
  else
  (some 1)))
  else
  (if x0 = 42 then
  (some (x1 * x2))
  else
  (if x0 = 43 then
  (some (x1 + x2))
  else
  (if x0 = 45 then
  (some (x1 - x2))
  else
  (if x0 = 47 then
  (if x2 = 0 then
  (some 0)
  else
  (some (x1 / x2)))
  else
  (if x0 = 60 then
  (if x1 < x2 then
  (some 1)
  else
  (some 0))
  else
  (if x0 = 61 then
  (if x1 = x2 then
  (some 1)
  else
  (some 0))
  else
  (if x0 = 62 then
  (if x2 < x1 then
  (some 1)
  else
  (some 0))
  else
  (if x0 = 124 then
  (if (x1 ||| x2) = 0 then
  (some 0)
  else
  (some 1))
  else
  (if x2 = 0 then
  (some 0)
  else
  (some (x1 - (x1 / x2) * x2)))))))))))
noncomputable def f_X12_comesTo_148 (σ : St) : Option (Int32 × St) :=
  chk (inb 0 52) <|
  some ((rd σ 93 0), σ)
noncomputable def f_X12_comesTo_142 (x2 : Int32) (x3 : Int32) (x4 : Int32) (σ : St) : Option ((Int32 × Int32 × St) ⊕ (Int32 × St)) :=
  some (.inl (x3, (x4 + 1), σ))
noncomputable def f_X12_comesTo_105 (x2 : Int32) (x3 : Int32) (x4 : Int32) (s0 : Int32) (s1 : Int32) (σ : St) : Option ((Int32 × Int32 × St) ⊕ (Int32 × St)) :=
  chk (inb s1 52) <|
  nm (wr σ 93 s1 s0) fun σ19 =>
  f_X12_comesTo_142 x2 x3 x4 σ19
noncomputable def f_X12_comesTo_67 (x2 : Int32) (x3 : Int32) (x4 : Int32) (s0 : Int32) (s1 : Int32) (σ : St) : Option ((Int32 × Int32 × St) ⊕ (Int32 × St)) :=
  chk (inb s1 52) <|
  nm (wr σ 93 s1 s0) fun σ17 =>
  f_X12_comesTo_142 x2 (x3 + 1) x4 σ17
noncomputable def b_X12_comesTo_14 (x2 : Int32) (x3 : Int32) (x4 : Int32) (σ : St) : Option ((Int32 × Int32 × St) ⊕ (Int32 × St)) :=
  chk (inb x2 466) <|
  if (rd σ 84 x2) < x4 then
  ((f_X12_comesTo_148 σ).map .inr)
  else
  (chk (inb (x2 + x4) 466) <|
  if (-100) < (rd σ 84 (x2 + x4)) then
  (if (rd σ 84 (x2 + x4)) < 0 then
  (chk (inb ((-1) - (rd σ 84 (x2 + x4))) 6) <|
  f_X12_comesTo_67 x2 x3 x4 (rd σ 90 ((-1) - (rd σ 84 (x2 + x4)))) x3 σ)
  else
  (f_X12_comesTo_67 x2 x3 x4 (rd σ 84 (x2 + x4)) x3 σ))
  else
  (if (rd σ 84 (x2 + x4)) = (-133) then
  (chk (inb (x3 - 1) 52) <|
  if (rd σ 93 (x3 - 1)) = 0 then
  (f_X12_comesTo_105 x2 x3 x4 1 (x3 - 1) σ)
  else
  (f_X12_comesTo_105 x2 x3 x4 0 (x3 - 1) σ))
  else
  (chk (inb ((x3 + (-1)) - 1) 52) <|
  chk (inb (x3 + (-1)) 52) <|
  bd (f_X12_done ((-100) - (rd σ 84 (x2 + x4))) (rd σ 93 ((x3 + (-1)) - 1)) (rd σ 93 (x3 + (-1)))) fun r9 =>
  nm (wr σ 93 ((x3 + (-1)) - 1) r9) fun σ12 =>
  f_X12_comesTo_142 x2 (x3 + (-1)) x4 σ12)))
noncomputable def f_X12_comesTo_14 (x2 : Int32) (x3 : Int32) (x4 : Int32) (σ : St) : Option (Int32 × St) := it (fun z : Int32 × Int32 × St => b_X12_comesTo_14 x2 z.1 z.2.1 z.2.2) (x3, x4, σ)
noncomputable def f_X12_comesTo (x1 : Int32) (σ : St) : Option (Int32 × St) :=
  f_X12_comesTo_14 (310 + (52 * x1)) 0 1 σ
noncomputable def f_X12_held (x0 : Int32) (x1 : Int32) : Option (Int32) :=
  if x0 < 0 then
  (some 0)
  else
  (if x1 < x0 then
  (some x1)
  else
  (some x0))
noncomputable def f_X12_changeOf (x1 : Int32) (x2 : Int32) (x3 : Int32) (σ : St) : Option (Int32 × St) :=
  bd (f_X12_its x1 3 σ) fun r1 =>
  bd (f_X12_its x2 3 σ) fun r4 =>
  chk (inb 362 466) <|
  if (rd σ 84 362) = 0 then
  (if (r1 - r4) < 0 then
  (some ((2 + (-(r1 - r4))), σ))
  else
  (some ((2 + (r1 - r4)), σ)))
  else
  (bd (f_X12_its x1 3 σ) fun r9 =>
  chk (inb 0 6) <|
  nm (wr σ 90 0 r9) fun σ12 =>
  bd (f_X12_its x2 3 σ12) fun r14 =>
  chk (inb 1 6) <|
  nm (wr σ12 90 1 r14) fun σ17 =>
  bd (f_X12_its x1 0 σ17) fun r19 =>
  chk (inb 2 6) <|
  nm (wr σ17 90 2 r19) fun σ22 =>
  bd (f_X12_its x2 0 σ22) fun r24 =>
  chk (inb 3 6) <|
  nm (wr σ22 90 3 r24) fun σ27 =>
  chk (inb 4 6) <|
  nm (wr σ27 90 4 x3) fun σ29 =>
  bd2 (f_X12_comesTo 1 σ29) fun r31 σ33 =>
  bd (f_X12_held r31 99) fun r34 =>
  some (r34, σ33))
noncomputable def f_X12_nearAt_232 (x1 : Int32) (x2 : Int32) (x3 : Int32) (x4 : Int32) (σ : St) : Option ((Int32 × Int32 × St) ⊕ (Int32 × St)) :=
  some (.inl (x3, (x4 + 1), σ))
noncomputable def f_X12_nearAt_226 (x1 : Int32) (x2 : Int32) (x3 : Int32) (x4 : Int32) (x5 : Int32) (σ : St) : Option ((Int32 × Int32 × St) ⊕ ((Int32 × Int32 × St) ⊕ (Int32 × St))) :=
  some (.inl (x3, (x5 + 1), σ))
noncomputable def f_X12_nearAt_225 (x1 : Int32) (x2 : Int32) (x4 : Int32) (x5 : Int32) (s0 : Int32) (σ : St) : Option ((Int32 × Int32 × St) ⊕ ((Int32 × Int32 × St) ⊕ (Int32 × St))) :=
  f_X12_nearAt_226 x1 x2 s0 x4 x5 σ
noncomputable def f_X12_nearAt_224 (x1 : Int32) (x2 : Int32) (x3 : Int32) (x4 : Int32) (x5 : Int32) (σ : St) : Option ((Int32 × Int32 × St) ⊕ ((Int32 × Int32 × St) ⊕ (Int32 × St))) :=
  f_X12_nearAt_225 x1 x2 x4 x5 x3 σ
noncomputable def f_X12_nearAt_214 (x1 : Int32) (x2 : Int32) (x4 : Int32) (x5 : Int32) (σ : St) : Option ((Int32 × Int32 × St) ⊕ ((Int32 × Int32 × St) ⊕ (Int32 × St))) :=
  bd (f_X12_entryOf x5 1 σ) fun r60 =>
  f_X12_nearAt_225 x1 x2 x4 x5 r60 σ
noncomputable def f_X12_nearAt_192 (x1 : Int32) (x2 : Int32) (x3 : Int32) (x4 : Int32) (x5 : Int32) (s0 : Int32) (σ : St) : Option ((Int32 × Int32 × St) ⊕ ((Int32 × Int32 × St) ⊕ (Int32 × St))) :=
  if s0 = 0 then
  (f_X12_nearAt_224 x1 x2 x3 x4 x5 σ)
  else
  (if x3 < 0 then
  (f_X12_nearAt_214 x1 x2 x4 x5 σ)
  else
  (bd (f_X12_entryOf x5 1 σ) fun r56 =>
  if r56 < x3 then
  (f_X12_nearAt_214 x1 x2 x4 x5 σ)
  else
  (f_X12_nearAt_224 x1 x2 x3 x4 x5 σ)))
noncomputable def f_X12_nearAt_163 (x1 : Int32) (x2 : Int32) (x3 : Int32) (x4 : Int32) (x5 : Int32) (s0 : Int32) (σ : St) : Option ((Int32 × Int32 × St) ⊕ ((Int32 × Int32 × St) ⊕ (Int32 × St))) :=
  bd (f_X12_entryOf x5 1 σ) fun r47 =>
  bd (f_X12_entryOf x4 2 σ) fun r50 =>
  if ((r47 - r50) - 1) < s0 then
  (f_X12_nearAt_192 x1 x2 x3 x4 x5 1 σ)
  else
  (f_X12_nearAt_192 x1 x2 x3 x4 x5 0 σ)
noncomputable def f_X12_nearAt_154 (x1 : Int32) (x2 : Int32) (x3 : Int32) (x4 : Int32) (x5 : Int32) (x7 : Int32) (σ : St) : Option ((Int32 × Int32 × St) ⊕ ((Int32 × Int32 × St) ⊕ (Int32 × St))) :=
  f_X12_nearAt_163 x1 x2 x3 x4 x5 (x7 / 2) σ
noncomputable def f_X12_nearAt_130 (x1 : Int32) (x2 : Int32) (x3 : Int32) (x4 : Int32) (x5 : Int32) (σ : St) : Option ((Int32 × Int32 × St) ⊕ ((Int32 × Int32 × St) ⊕ (Int32 × St))) :=
  f_X12_nearAt_163 x1 x2 x3 x4 x5 0 σ
noncomputable def f_X12_nearAt_98 (x1 : Int32) (x2 : Int32) (x3 : Int32) (x4 : Int32) (x5 : Int32) (s0 : Int32) (σ : St) : Option ((Int32 × Int32 × St) ⊕ ((Int32 × Int32 × St) ⊕ (Int32 × St))) :=
  bd2 (f_X12_changeOf x1 x2 s0 σ) fun r28 σ30 =>
  bd (f_X12_its x1 0 σ30) fun r31 =>
  if r31 = 3 then
  (f_X12_nearAt_130 x1 x2 x3 x4 x5 σ30)
  else
  (bd (f_X12_its x2 0 σ30) fun r35 =>
  if r35 = 3 then
  (f_X12_nearAt_130 x1 x2 x3 x4 x5 σ30)
  else
  (bd (f_X12_its x1 0 σ30) fun r39 =>
  if r39 = 4 then
  (f_X12_nearAt_154 x1 x2 x3 x4 x5 r28 σ30)
  else
  (bd (f_X12_its x2 0 σ30) fun r43 =>
  if r43 = 4 then
  (f_X12_nearAt_154 x1 x2 x3 x4 x5 r28 σ30)
  else
  (f_X12_nearAt_163 x1 x2 x3 x4 x5 r28 σ30))))
noncomputable def b_X12_nearAt_19 (x1 : Int32) (x2 : Int32) (x3 : Int32) (x4 : Int32) (x5 : Int32) (σ : St) : Option ((Int32 × Int32 × St) ⊕ ((Int32 × Int32 × St) ⊕ (Int32 × St))) :=
  chk (inb 2 466) <|
  if x5 < (rd σ 84 2) then
  (bd (f_X12_entryOf x4 0 σ) fun r6 =>
  if r6 = x1 then
  (bd (f_X12_entryOf x5 0 σ) fun r10 =>
  if r10 = x2 then
  (bd (f_X12_entryOf x5 1 σ) fun r14 =>
  bd (f_X12_entryOf x4 2 σ) fun r17 =>
  if r17 < r14 then
  (bd (f_X12_entryOf x4 3 σ) fun r21 =>
  bd (f_X12_entryOf x5 3 σ) fun r24 =>
  if (r21 &&& 1) = (r24 >>> ((1 : Int32) &&& 31)) then
  (f_X12_nearAt_98 x1 x2 x3 x4 x5 1 σ)
  else
  (f_X12_nearAt_98 x1 x2 x3 x4 x5 0 σ))
  else
  (f_X12_nearAt_226 x1 x2 x3 x4 x5 σ))
  else
  (f_X12_nearAt_226 x1 x2 x3 x4 x5 σ))
  else
  (f_X12_nearAt_226 x1 x2 x3 x4 x5 σ))
  else
  ((f_X12_nearAt_232 x1 x2 x3 x4 σ).map .inr)
noncomputable def f_X12_nearAt_19 (x1 : Int32) (x2 : Int32) (x3 : Int32) (x4 : Int32) (x5 : Int32) (σ : St) : Option ((Int32 × Int32 × St) ⊕ (Int32 × St)) := it (fun z : Int32 × Int32 × St => b_X12_nearAt_19 x1 x2 z.1 x4 z.2.1 z.2.2) (x3, x5, σ)
noncomputable def b_X12_nearAt_5 (x1 : Int32) (x2 : Int32) (x3 : Int32) (x4 : Int32) (σ : St) : Option ((Int32 × Int32 × St) ⊕ (Int32 × St)) :=
  chk (inb 2 466) <|
  if x4 < (rd σ 84 2) then
  (f_X12_nearAt_19 x1 x2 x3 x4 0 σ)
  else
  (some (.inr ((x3, σ))))
noncomputable def f_X12_nearAt_5 (x1 : Int32) (x2 : Int32) (x3 : Int32) (x4 : Int32) (σ : St) : Option (Int32 × St) := it (fun z : Int32 × Int32 × St => b_X12_nearAt_5 x1 x2 z.1 z.2.1 z.2.2) (x3, x4, σ)
noncomputable def f_X12_nearAt (x1 : Int32) (x2 : Int32) (σ : St) : Option (Int32 × St) :=
  f_X12_nearAt_5 x1 x2 (-1) 0 σ
noncomputable def f_X12_layTwo_142 (x1 : Int32) (x2 : Int32) (x4 : Int32) (x5 : Int32) (σ : St) : Option (St) :=
  chk (inb ((10 * x1) + x2) 100) <|
  nm (wr σ 88 ((10 * x1) + x2) x4) fun σ40 =>
  chk (inb ((10 * x2) + x1) 100) <|
  nm (wr σ40 88 ((10 * x2) + x1) x4) fun σ42 =>
  nm (wr σ42 89 ((10 * x1) + x2) x5) fun σ44 =>
  nm (wr σ44 89 ((10 * x2) + x1) x5) fun σ45 =>
  if x4 = 0 then
  (some σ45)
  else
  (chk (inb x1 10) <|
  nm (wr σ45 87 x1 ((rd σ45 87 x1) ||| ((1 : Int32) <<< (x2 &&& 31)))) fun σ48 =>
  chk (inb x2 10) <|
  nm (wr σ48 87 x2 ((rd σ48 87 x2) ||| ((1 : Int32) <<< (x1 &&& 31)))) fun σ50 =>
  some σ50)
noncomputable def f_X12_layTwo_140 (x1 : Int32) (x2 : Int32) (x5 : Int32) (s0 : Int32) (σ : St) : Option (St) :=
  f_X12_layTwo_142 x1 x2 s0 x5 σ
noncomputable def f_X12_layTwo_128 (x1 : Int32) (x2 : Int32) (s0 : Int32) (σ : St) : Option (St) :=
  if s0 < 0 then
  (f_X12_layTwo_140 x1 x2 s0 0 σ)
  else
  (f_X12_layTwo_140 x1 x2 s0 3 σ)
noncomputable def f_X12_layTwo_126 (x1 : Int32) (x2 : Int32) (x6 : Int32) (σ : St) : Option (St) :=
  f_X12_layTwo_128 x1 x2 x6 σ
noncomputable def f_X12_layTwo_121 (x1 : Int32) (x2 : Int32) (x7 : Int32) (σ : St) : Option (St) :=
  f_X12_layTwo_128 x1 x2 x7 σ
noncomputable def f_X12_layTwo_77 (x1 : Int32) (x2 : Int32) (x3 : Int32) (x4 : Int32) (s0 : Int32) (σ : St) : Option (St) :=
  if x3 = 0 then
  (if s0 < 0 then
  (bd2 (f_X12_nearAt x1 x2 σ) fun r30 σ32 =>
  bd2 (f_X12_nearAt x2 x1 σ32) fun r33 σ35 =>
  if r30 < 0 then
  (f_X12_layTwo_121 x1 x2 r33 σ35)
  else
  (if r33 < 0 then
  (f_X12_layTwo_126 x1 x2 r30 σ35)
  else
  (if r33 < r30 then
  (f_X12_layTwo_121 x1 x2 r33 σ35)
  else
  (f_X12_layTwo_126 x1 x2 r30 σ35))))
  else
  (f_X12_layTwo_142 x1 x2 x4 s0 σ))
  else
  (f_X12_layTwo_142 x1 x2 x4 s0 σ)
noncomputable def f_X12_layTwo_61 (x1 : Int32) (x2 : Int32) (x3 : Int32) (s0 : Int32) (σ : St) : Option (St) :=
  if x3 = 0 then
  (bd (f_X12_meetAt x1 x2 σ) fun r25 =>
  f_X12_layTwo_77 x1 x2 x3 s0 r25 σ)
  else
  (f_X12_layTwo_77 x1 x2 x3 s0 (-1) σ)
noncomputable def f_X12_layTwo_51 (x1 : Int32) (x2 : Int32) (s0 : Int32) (σ : St) : Option (St) :=
  if s0 = 0 then
  (f_X12_layTwo_61 x1 x2 s0 2 σ)
  else
  (f_X12_layTwo_61 x1 x2 s0 0 σ)
noncomputable def f_X12_layTwo_50 (x1 : Int32) (x2 : Int32) (σ : St) : Option (St) :=
  f_X12_layTwo_51 x1 x2 0 σ
noncomputable def f_X12_layTwo_46 (x1 : Int32) (x2 : Int32) (σ : St) : Option (St) :=
  f_X12_layTwo_51 x1 x2 1 σ
noncomputable def f_X12_layTwo_23 (x1 : Int32) (x2 : Int32) (σ : St) : Option (St) :=
  bd (f_X12_its x2 0 σ) fun r12 =>
  if r12 = 3 then
  (bd (f_X12_its x1 0 σ) fun r16 =>
  bd (f_X12_isUnder r16 1) fun r19 =>
  if r19 = 0 then
  (f_X12_layTwo_46 x1 x2 σ)
  else
  (f_X12_layTwo_50 x1 x2 σ))
  else
  (f_X12_layTwo_50 x1 x2 σ)
noncomputable def f_X12_layTwo (x1 : Int32) (x2 : Int32) (σ : St) : Option (St) :=
  bd (f_X12_its x1 0 σ) fun r1 =>
  if r1 = 3 then
  (bd (f_X12_its x2 0 σ) fun r5 =>
  bd (f_X12_isUnder r5 1) fun r8 =>
  if r8 = 0 then
  (f_X12_layTwo_46 x1 x2 σ)
  else
  (f_X12_layTwo_23 x1 x2 σ))
  else
  (f_X12_layTwo_23 x1 x2 σ)
noncomputable def f_X12_lay_72 (x1 : Int32) (σ : St) : Option ((Int32 × St) ⊕ (St)) :=
  some (.inl ((x1 + 1), σ))
noncomputable def b_X12_lay_50 (x1 : Int32) (x2 : Int32) (σ : St) : Option ((Int32 × St) ⊕ ((Int32 × St) ⊕ (St))) :=
  chk (inb 1 466) <|
  if x2 < (rd σ 84 1) then
  (bd (f_X12_layTwo x1 x2 σ) fun σ14 =>
  some (.inl ((x2 + 1), σ14)))
  else
  ((f_X12_lay_72 x1 σ).map .inr)
noncomputable def f_X12_lay_50 (x1 : Int32) (x2 : Int32) (σ : St) : Option ((Int32 × St) ⊕ (St)) := it (fun z : Int32 × St => b_X12_lay_50 x1 z.1 z.2) (x2, σ)
noncomputable def b_X12_lay_36 (x1 : Int32) (σ : St) : Option ((Int32 × St) ⊕ (St)) :=
  chk (inb 1 466) <|
  if x1 < (rd σ 84 1) then
  (f_X12_lay_50 x1 (x1 + 1) σ)
  else
  (some (.inr (σ)))
noncomputable def f_X12_lay_36 (x1 : Int32) (σ : St) : Option (St) := it (fun z : Int32 × St => b_X12_lay_36 z.1 z.2) (x1, σ)
noncomputable def f_X12_lay_34 (σ : St) : Option (St) :=
  f_X12_lay_36 0 σ
noncomputable def b_X12_lay_15 (x1 : Int32) (σ : St) : Option ((Int32 × St) ⊕ (St)) :=
  if x1 < 10 then
  (chk (inb x1 10) <|
  nm (wr σ 87 x1 0) fun σ5 =>
  some (.inl ((x1 + 1), σ5)))
  else
  ((f_X12_lay_34 σ).map .inr)
noncomputable def f_X12_lay_15 (x1 : Int32) (σ : St) : Option (St) := it (fun z : Int32 × St => b_X12_lay_15 z.1 z.2) (x1, σ)
noncomputable def f_X12_lay (σ : St) : Option (St) :=
  if (fd σ 6 4) = 0 then
  (nm (fw σ 6 4 1) fun σ2 =>
  f_X12_lay_15 0 σ2)
  else
  (some σ)
noncomputable def f_X12_playerOf (x1 : Int32) (x2 : Int32) (σ : St) : Option (Int32) :=
  chk (inb ((220 + (3 * x1)) + x2) 466) <|
  some (rd σ 84 ((220 + (3 * x1)) + x2))
noncomputable def f_X12_names (x1 : Int32) (x2 : Int32) (σ : St) : Option (St) :=
  bd (f_X12_playerOf x1 0 σ) fun r1 =>
  chk (inb 0 6) <|
  nm (wr σ 90 0 r1) fun σ4 =>
  bd (f_X12_playerOf x1 1 σ4) fun r6 =>
  chk (inb 1 6) <|
  nm (wr σ4 90 1 r6) fun σ9 =>
  bd (f_X12_its x2 1 σ9) fun r11 =>
  chk (inb 2 6) <|
  nm (wr σ9 90 2 r11) fun σ14 =>
  bd (f_X12_its x2 2 σ14) fun r16 =>
  chk (inb 3 6) <|
  nm (wr σ14 90 3 r16) fun σ19 =>
  bd (f_X12_its x2 0 σ19) fun r21 =>
  chk (inb 4 6) <|
  nm (wr σ19 90 4 r21) fun σ24 =>
  some σ24
noncomputable def f_X12_isAble (x1 : Int32) (x2 : Int32) (σ : St) : Option (Int32 × St) :=
  chk (inb 310 466) <|
  if (rd σ 84 310) = 0 then
  (bd (f_X12_playerOf x1 0 σ) fun r10 =>
  bd (f_X12_its x2 1 σ) fun r13 =>
  if r10 < r13 then
  (some (0, σ))
  else
  (some (1, σ)))
  else
  (bd (f_X12_names x1 x2 σ) fun σ5 =>
  bd2 (f_X12_comesTo 0 σ5) fun r6 σ8 =>
  if r6 = 0 then
  (some (0, σ8))
  else
  (some (1, σ8)))
noncomputable def f_X12_findBar_150 (x1 : Int32) (σ : St) : Option ((Int32 × St) ⊕ (St)) :=
  some (.inl ((x1 + 1), σ))
noncomputable def f_X12_findBar_144 (x1 : Int32) (x2 : Int32) (x3 : Int32) (σ : St) : Option ((Int32) ⊕ ((Int32 × St) ⊕ (St))) :=
  some (.inl (x3 + 1))
noncomputable def f_X12_findBar_102 (x1 : Int32) (x3 : Int32) (σ : St) : Option (St) :=
  chk (inb ((10 * x1) + x3) 100) <|
  chk (inb 0 4) <|
  nm (wr σ 94 0 (rd σ 88 ((10 * x1) + x3))) fun σ33 =>
  chk (inb 2 4) <|
  nm (wr σ33 94 2 x3) fun σ35 =>
  chk (inb 3 4) <|
  nm (wr σ35 94 3 (rd σ35 89 ((10 * x1) + x3))) fun σ37 =>
  some σ37
noncomputable def b_X12_findBar_65 (x1 : Int32) (x2 : Int32) (x3 : Int32) (σ : St) : Option ((Int32) ⊕ ((Int32 × St) ⊕ (St))) :=
  chk (inb 1 466) <|
  if x3 < (rd σ 84 1) then
  (bd (f_X12_its x3 4 σ) fun r22 =>
  if r22 = x2 then
  (chk (inb ((10 * x1) + x3) 100) <|
  if (rd σ 88 ((10 * x1) + x3)) = 0 then
  (f_X12_findBar_144 x1 x2 x3 σ)
  else
  (((f_X12_findBar_102 x1 x3 σ).map .inr).map .inr))
  else
  (f_X12_findBar_144 x1 x2 x3 σ))
  else
  ((f_X12_findBar_150 x1 σ).map .inr)
noncomputable def f_X12_findBar_65 (x1 : Int32) (x2 : Int32) (x3 : Int32) (σ : St) : Option ((Int32 × St) ⊕ (St)) := it (fun z : Int32 => b_X12_findBar_65 x1 x2 z σ) x3
noncomputable def f_X12_findBar_53 (σ : St) : Option (St) :=
  chk (inb 0 4) <|
  nm (wr σ 94 0 1) fun σ30 =>
  some σ30
noncomputable def b_X12_findBar_13 (x1 : Int32) (σ : St) : Option ((Int32 × St) ⊕ (St)) :=
  chk (inb 1 466) <|
  if x1 < (rd σ 84 1) then
  (bd (f_X12_its x1 4 σ) fun r8 =>
  if r8 < 0 then
  (f_X12_findBar_150 x1 σ)
  else
  (chk (inb 1 4) <|
  nm (wr σ 94 1 x1) fun σ12 =>
  bd2 (f_X12_isAble r8 x1 σ12) fun r14 σ16 =>
  if r14 = 0 then
  ((f_X12_findBar_53 σ16).map .inr)
  else
  (f_X12_findBar_65 x1 r8 (x1 + 1) σ16)))
  else
  (some (.inr (σ)))
noncomputable def f_X12_findBar_13 (x1 : Int32) (σ : St) : Option (St) := it (fun z : Int32 × St => b_X12_findBar_13 z.1 z.2) (x1, σ)
noncomputable def f_X12_findBar (σ : St) : Option (St) :=
  bd (f_X12_lay σ) fun σ3 =>
  chk (inb 0 4) <|
  nm (wr σ3 94 0 0) fun σ4 =>
  f_X12_findBar_13 0 σ4
noncomputable def f_X12_bars_62 (x1 : Int32) (σ : St) : Option (Int32 × St) :=
  chk (inb x1 4) <|
  some ((rd σ 94 x1), σ)
noncomputable def f_X12_bars_54 (σ : St) : Option (Int32 × St) :=
  bd2 (f_X12_finds 2 σ) fun r17 σ19 =>
  some (r17, σ19)
noncomputable def f_X12_bars (x1 : Int32) (σ : St) : Option (Int32 × St) :=
  bd (f_X12_in x1 0 3) fun r1 =>
  if r1 = 0 then
  (bd2 (f_X12_finds 1 σ) fun r14 σ16 =>
  some (r14, σ16))
  else
  (bd (f_X12_findBar σ) fun σ7 =>
  if x1 = 0 then
  (chk (inb 0 4) <|
  some ((rd σ7 94 0), σ7))
  else
  (chk (inb 0 4) <|
  if (rd σ7 94 0) = 0 then
  (f_X12_bars_54 σ7)
  else
  (if (rd σ7 94 0) = 1 then
  (if 1 < x1 then
  (f_X12_bars_54 σ7)
  else
  (f_X12_bars_62 x1 σ7))
  else
  (f_X12_bars_62 x1 σ7))))
noncomputable def f_X12_isTroupe (x1 : Int32) (σ : St) : Option (Int32) :=
  if x1 < 0 then
  (some 0)
  else
  (chk (inb 3 466) <|
  if (x1 >>> ((rd σ 84 3) &&& 31)) = 0 then
  (some 1)
  else
  (some 0))
noncomputable def f_X12_findSets_126 (x2 : Int32) (x3 : Int32) (s0 : Int32) (s1 : Int32) (σ : St) : Option ((Int32 × St) ⊕ (St)) :=
  chk (inb s1 1024) <|
  nm (wr σ 98 s1 (vp_nar .boolean s0)) fun σ21 =>
  some (.inl ((x3 + 1), σ21))
noncomputable def f_X12_findSets_125 (x2 : Int32) (x3 : Int32) (s0 : Int32) (σ : St) : Option ((Int32 × St) ⊕ (St)) :=
  f_X12_findSets_126 x2 x3 0 s0 σ
noncomputable def f_X12_findSets_73 (x2 : Int32) (x3 : Int32) (x4 : Int32) (σ : St) : Option ((Int32 × St) ⊕ (St)) :=
  chk (inb (x3 &&& (((1 : Int32) <<< (x4 &&& 31)) ^^^ (-1))) 1024) <|
  if (rd σ 98 (x3 &&& (((1 : Int32) <<< (x4 &&& 31)) ^^^ (-1)))) = 0 then
  (f_X12_findSets_125 x2 x3 x3 σ)
  else
  (if ((x2 >>> (x4 &&& 31)) &&& 1) = 1 then
  (chk (inb x4 10) <|
  if ((rd σ 87 x4) &&& (x3 &&& (((1 : Int32) <<< (x4 &&& 31)) ^^^ (-1)))) = 0 then
  (f_X12_findSets_126 x2 x3 1 x3 σ)
  else
  (f_X12_findSets_125 x2 x3 x3 σ))
  else
  (f_X12_findSets_125 x2 x3 x3 σ))
noncomputable def b_X12_findSets_59 (x2 : Int32) (x3 : Int32) (x4 : Int32) (σ : St) : Option ((Int32) ⊕ ((Int32 × St) ⊕ (St))) :=
  if 1 < (x3 >>> (x4 &&& 31)) then
  (some (.inl (x4 + 1)))
  else
  ((f_X12_findSets_73 x2 x3 x4 σ).map .inr)
noncomputable def f_X12_findSets_59 (x2 : Int32) (x3 : Int32) (x4 : Int32) (σ : St) : Option ((Int32 × St) ⊕ (St)) := it (fun z : Int32 => b_X12_findSets_59 x2 x3 z σ) x4
noncomputable def b_X12_findSets_48 (x2 : Int32) (x3 : Int32) (σ : St) : Option ((Int32 × St) ⊕ (St)) :=
  bd (f_X12_allParts σ) fun r10 =>
  if r10 < x3 then
  (some (.inr (σ)))
  else
  (f_X12_findSets_59 x2 x3 0 σ)
noncomputable def f_X12_findSets_48 (x2 : Int32) (x3 : Int32) (σ : St) : Option (St) := it (fun z : Int32 × St => b_X12_findSets_48 x2 z.1 z.2) (x3, σ)
noncomputable def f_X12_findSets_39 (x2 : Int32) (σ : St) : Option (St) :=
  chk (inb 0 1024) <|
  nm (wr σ 98 0 (vp_nar .boolean 1)) fun σ8 =>
  f_X12_findSets_48 x2 1 σ8
noncomputable def f_X12_findSets_31 (x1 : Int32) (x3 : Int32) (s0 : Int32) (s1 : Int32) (σ : St) : Option ((Int32 × Int32 × St) ⊕ (St)) :=
  some (.inl ((s1 ||| s0), (x3 + 1), σ))
noncomputable def b_X12_findSets_4 (x1 : Int32) (x2 : Int32) (x3 : Int32) (σ : St) : Option ((Int32 × Int32 × St) ⊕ (St)) :=
  chk (inb 1 466) <|
  if x3 < (rd σ 84 1) then
  (bd2 (f_X12_isAble x1 x3 σ) fun r4 σ6 =>
  if r4 = 0 then
  (f_X12_findSets_31 x1 x3 0 x2 σ6)
  else
  (f_X12_findSets_31 x1 x3 ((1 : Int32) <<< (x3 &&& 31)) x2 σ6))
  else
  ((f_X12_findSets_39 x2 σ).map .inr)
noncomputable def f_X12_findSets_4 (x1 : Int32) (x2 : Int32) (x3 : Int32) (σ : St) : Option (St) := it (fun z : Int32 × Int32 × St => b_X12_findSets_4 x1 z.1 z.2.1 z.2.2) (x2, x3, σ)
noncomputable def f_X12_findSets (x1 : Int32) (σ : St) : Option (St) :=
  f_X12_findSets_4 x1 0 0 σ
noncomputable def f_X12_wishOf (x1 : Int32) (x2 : Int32) (σ : St) : Option (Int32 × St) :=
  chk (inb 414 466) <|
  if (rd σ 84 414) = 0 then
  (bd (f_X12_playerOf x1 0 σ) fun r17 =>
  some (r17, σ))
  else
  (bd (f_X12_names x1 x2 σ) fun σ5 =>
  bd (f_X12_weight x2 σ5) fun r6 =>
  chk (inb 5 6) <|
  nm (wr σ5 90 5 r6) fun σ9 =>
  bd2 (f_X12_comesTo 2 σ9) fun r11 σ13 =>
  bd (f_X12_held r11 999) fun r14 =>
  some (r14, σ13))
noncomputable def f_X12_findCosts_133 (x3 : Int32) (x4 : Int32) (σ : St) : Option ((Int32 × St) ⊕ (St)) :=
  chk (inb (x3 &&& (((1 : Int32) <<< (x4 &&& 31)) ^^^ (-1))) 1024) <|
  chk (inb x4 10) <|
  chk (inb x3 1024) <|
  nm (wr σ 99 x3 ((rd σ 99 (x3 &&& (((1 : Int32) <<< (x4 &&& 31)) ^^^ (-1)))) + (rd σ 102 x4))) fun σ32 =>
  some (.inl ((x3 + 1), σ32))
noncomputable def b_X12_findCosts_119 (x3 : Int32) (x4 : Int32) (σ : St) : Option ((Int32) ⊕ ((Int32 × St) ⊕ (St))) :=
  if 1 < (x3 >>> (x4 &&& 31)) then
  (some (.inl (x4 + 1)))
  else
  ((f_X12_findCosts_133 x3 x4 σ).map .inr)
noncomputable def f_X12_findCosts_119 (x3 : Int32) (x4 : Int32) (σ : St) : Option ((Int32 × St) ⊕ (St)) := it (fun z : Int32 => b_X12_findCosts_119 x3 z σ) x4
noncomputable def b_X12_findCosts_108 (x3 : Int32) (σ : St) : Option ((Int32 × St) ⊕ (St)) :=
  bd (f_X12_allParts σ) fun r24 =>
  if r24 < x3 then
  (some (.inr (σ)))
  else
  (f_X12_findCosts_119 x3 0 σ)
noncomputable def f_X12_findCosts_108 (x3 : Int32) (σ : St) : Option (St) := it (fun z : Int32 × St => b_X12_findCosts_108 z.1 z.2) (x3, σ)
noncomputable def f_X12_findCosts_99 (σ : St) : Option (St) :=
  chk (inb 0 1024) <|
  nm (wr σ 99 0 0) fun σ22 =>
  f_X12_findCosts_108 1 σ22
noncomputable def f_X12_findCosts_92 (x1 : Int32) (x2 : Int32) (x3 : Int32) (s0 : Int32) (s1 : Int32) (σ : St) : Option ((Int32 × St) ⊕ (St)) :=
  chk (inb s1 10) <|
  nm (wr σ 102 s1 s0) fun σ20 =>
  some (.inl ((x3 + 1), σ20))
noncomputable def b_X12_findCosts_2 (x1 : Int32) (x2 : Int32) (x3 : Int32) (σ : St) : Option ((Int32 × St) ⊕ (St)) :=
  chk (inb 1 466) <|
  if x3 < (rd σ 84 1) then
  (if x2 = 0 then
  (bd2 (f_X12_wishOf x1 x3 σ) fun r17 σ19 =>
  f_X12_findCosts_92 x1 x2 x3 (-r17) x3 σ19)
  else
  (if x2 = 1 then
  (bd (f_X12_playerOf x1 2 σ) fun r12 =>
  if ((r12 >>> (x3 &&& 31)) &&& 1) = 1 then
  (f_X12_findCosts_92 x1 x2 x3 0 x3 σ)
  else
  (chk (inb x3 10) <|
  f_X12_findCosts_92 x1 x2 x3 (rd σ 103 x3) x3 σ))
  else
  (if x2 = 2 then
  (chk (inb x3 10) <|
  f_X12_findCosts_92 x1 x2 x3 (rd σ 103 x3) x3 σ)
  else
  (bd (f_X12_its x3 4 σ) fun r7 =>
  if r7 = x1 then
  (f_X12_findCosts_92 x1 x2 x3 0 x3 σ)
  else
  (f_X12_findCosts_92 x1 x2 x3 1 x3 σ)))))
  else
  ((f_X12_findCosts_99 σ).map .inr)
noncomputable def f_X12_findCosts_2 (x1 : Int32) (x2 : Int32) (x3 : Int32) (σ : St) : Option (St) := it (fun z : Int32 × St => b_X12_findCosts_2 x1 x2 z.1 z.2) (x3, σ)
noncomputable def f_X12_findCosts (x1 : Int32) (x2 : Int32) (σ : St) : Option (St) :=
  f_X12_findCosts_2 x1 x2 0 σ
noncomputable def f_X12_joined (x0 : Int32) (x1 : Int32) (x2 : Int32) : Option (Int32) :=
  if x0 = 2 then
  (if x2 < x1 then
  (some x1)
  else
  (some x2))
  else
  (some (x1 + x2))
noncomputable def f_X12_findSums_256 (x1 : Int32) (x2 : Int32) (x3 : Int32) (σ : St) : Option ((Int32 × St) ⊕ (St)) :=
  some (.inl ((x3 + (-1)), σ))
noncomputable def f_X12_findSums_235 (x1 : Int32) (x2 : Int32) (x3 : Int32) (x4 : Int32) (x5 : Int32) (x6 : Int32) (σ : St) : Option ((Int32 × St) ⊕ ((Int32 × St) ⊕ (St))) :=
  chk (inb ((1024 * x3) + x5) 7168) <|
  nm (wr σ 100 ((1024 * x3) + x5) x6) fun σ43 =>
  some (.inl ((x5 + 1), σ43))
noncomputable def f_X12_findSums_223 (x1 : Int32) (x2 : Int32) (x3 : Int32) (x4 : Int32) (x5 : Int32) (x6 : Int32) (x7 : Int32) (σ : St) : Option ((Int32 × Int32) ⊕ ((Int32 × St) ⊕ ((Int32 × St) ⊕ (St)))) :=
  some (.inl (x6, ((x7 - 1) &&& x5)))
noncomputable def f_X12_findSums_221 (x1 : Int32) (x2 : Int32) (x3 : Int32) (x4 : Int32) (x5 : Int32) (x7 : Int32) (s0 : Int32) (σ : St) : Option ((Int32 × Int32) ⊕ ((Int32 × St) ⊕ ((Int32 × St) ⊕ (St)))) :=
  f_X12_findSums_223 x1 x2 x3 x4 x5 s0 x7 σ
noncomputable def b_X12_findSums_148 (x1 : Int32) (x2 : Int32) (x3 : Int32) (x4 : Int32) (x5 : Int32) (x6 : Int32) (x7 : Int32) (σ : St) : Option ((Int32 × Int32) ⊕ ((Int32 × St) ⊕ ((Int32 × St) ⊕ (St)))) :=
  if 0 < x7 then
  (chk (inb ((1024 * (x3 + 1)) + (x5 &&& (x7 ^^^ (-1)))) 7168) <|
  chk (inb x7 1024) <|
  if (rd σ 98 x7) = 0 then
  (f_X12_findSums_223 x1 x2 x3 x4 x5 x6 x7 σ)
  else
  (if (rd σ 100 ((1024 * (x3 + 1)) + (x5 &&& (x7 ^^^ (-1))))) < 1000000000 then
  (bd (f_X12_joined x1 (rd σ 99 x7) (rd σ 100 ((1024 * (x3 + 1)) + (x5 &&& (x7 ^^^ (-1)))))) fun r39 =>
  if r39 < x6 then
  (f_X12_findSums_221 x1 x2 x3 x4 x5 x7 r39 σ)
  else
  (f_X12_findSums_221 x1 x2 x3 x4 x5 x7 x6 σ))
  else
  (f_X12_findSums_223 x1 x2 x3 x4 x5 x6 x7 σ)))
  else
  ((f_X12_findSums_235 x1 x2 x3 x4 x5 x6 σ).map .inr)
noncomputable def f_X12_findSums_148 (x1 : Int32) (x2 : Int32) (x3 : Int32) (x4 : Int32) (x5 : Int32) (x6 : Int32) (x7 : Int32) (σ : St) : Option ((Int32 × St) ⊕ ((Int32 × St) ⊕ (St))) := it (fun z : Int32 × Int32 => b_X12_findSums_148 x1 x2 x3 x4 x5 z.1 z.2 σ) (x6, x7)
noncomputable def f_X12_findSums_146 (x1 : Int32) (x2 : Int32) (x3 : Int32) (x4 : Int32) (x5 : Int32) (x6 : Int32) (s0 : Int32) (σ : St) : Option ((Int32 × St) ⊕ ((Int32 × St) ⊕ (St))) :=
  f_X12_findSums_148 x1 x2 x3 x4 x5 x6 s0 σ
noncomputable def b_X12_findSums_109 (x1 : Int32) (x2 : Int32) (x3 : Int32) (x4 : Int32) (x5 : Int32) (σ : St) : Option ((Int32 × St) ⊕ ((Int32 × St) ⊕ (St))) :=
  bd (f_X12_allParts σ) fun r26 =>
  if r26 < x5 then
  ((f_X12_findSums_256 x1 x2 x3 σ).map .inr)
  else
  (chk (inb ((1024 * (x3 + 1)) + x5) 7168) <|
  if x4 = 0 then
  (f_X12_findSums_146 x1 x2 x3 x4 x5 (rd σ 100 ((1024 * (x3 + 1)) + x5)) 0 σ)
  else
  (f_X12_findSums_146 x1 x2 x3 x4 x5 (rd σ 100 ((1024 * (x3 + 1)) + x5)) x5 σ))
noncomputable def f_X12_findSums_109 (x1 : Int32) (x2 : Int32) (x3 : Int32) (x4 : Int32) (x5 : Int32) (σ : St) : Option ((Int32 × St) ⊕ (St)) := it (fun z : Int32 × St => b_X12_findSums_109 x1 x2 x3 x4 z.1 z.2) (x5, σ)
noncomputable def f_X12_findSums_106 (x1 : Int32) (x2 : Int32) (x3 : Int32) (x4 : Int32) (σ : St) : Option ((Int32 × St) ⊕ (St)) :=
  f_X12_findSums_109 x1 x2 x3 x4 0 σ
noncomputable def f_X12_findSums_88 (x1 : Int32) (x2 : Int32) (x3 : Int32) (s0 : Int32) (σ : St) : Option ((Int32 × St) ⊕ (St)) :=
  if s0 = 0 then
  (f_X12_findSums_106 x1 x2 x3 s0 σ)
  else
  (bd (f_X12_findSets x3 σ) fun σ22 =>
  bd (f_X12_findCosts x3 x1 σ22) fun σ25 =>
  f_X12_findSums_106 x1 x2 x3 s0 σ25)
noncomputable def b_X12_findSums_70 (x1 : Int32) (x2 : Int32) (x3 : Int32) (σ : St) : Option ((Int32 × St) ⊕ (St)) :=
  if x3 < 0 then
  (some (.inr (σ)))
  else
  (if ((x2 >>> (x3 &&& 31)) &&& 1) = 1 then
  (f_X12_findSums_88 x1 x2 x3 1 σ)
  else
  (f_X12_findSums_88 x1 x2 x3 0 σ))
noncomputable def f_X12_findSums_70 (x1 : Int32) (x2 : Int32) (x3 : Int32) (σ : St) : Option (St) := it (fun z : Int32 × St => b_X12_findSums_70 x1 x2 z.1 z.2) (x3, σ)
noncomputable def f_X12_findSums_68 (x1 : Int32) (x2 : Int32) (σ : St) : Option (St) :=
  f_X12_findSums_70 x1 x2 5 σ
noncomputable def f_X12_findSums_61 (x1 : Int32) (x2 : Int32) (x3 : Int32) (s0 : Int32) (s1 : Int32) (σ : St) : Option ((Int32 × St) ⊕ (St)) :=
  chk (inb s1 7168) <|
  nm (wr σ 100 s1 s0) fun σ15 =>
  some (.inl ((x3 + 1), σ15))
noncomputable def b_X12_findSums_35 (x1 : Int32) (x2 : Int32) (x3 : Int32) (σ : St) : Option ((Int32 × St) ⊕ (St)) :=
  if x3 < 1024 then
  (if x3 = 0 then
  (f_X12_findSums_61 x1 x2 x3 0 (6144 + x3) σ)
  else
  (f_X12_findSums_61 x1 x2 x3 1000000000 (6144 + x3) σ))
  else
  ((f_X12_findSums_68 x1 x2 σ).map .inr)
noncomputable def f_X12_findSums_35 (x1 : Int32) (x2 : Int32) (x3 : Int32) (σ : St) : Option (St) := it (fun z : Int32 × St => b_X12_findSums_35 x1 x2 z.1 z.2) (x3, σ)
noncomputable def f_X12_findSums_33 (x1 : Int32) (x2 : Int32) (σ : St) : Option (St) :=
  f_X12_findSums_35 x1 x2 0 σ
noncomputable def b_X12_findSums_6 (x1 : Int32) (x2 : Int32) (x3 : Int32) (σ : St) : Option ((Int32 × St) ⊕ (St)) :=
  chk (inb 1 466) <|
  if x3 < (rd σ 84 1) then
  (bd (f_X12_weight x3 σ) fun r7 =>
  chk (inb x3 10) <|
  nm (wr σ 103 x3 r7) fun σ10 =>
  some (.inl ((x3 + 1), σ10)))
  else
  ((f_X12_findSums_33 x1 x2 σ).map .inr)
noncomputable def f_X12_findSums_6 (x1 : Int32) (x2 : Int32) (x3 : Int32) (σ : St) : Option (St) := it (fun z : Int32 × St => b_X12_findSums_6 x1 x2 z.1 z.2) (x3, σ)
noncomputable def f_X12_findSums (x1 : Int32) (x2 : Int32) (σ : St) : Option (St) :=
  bd (f_X12_lay σ) fun σ3 =>
  f_X12_findSums_6 x1 x2 0 σ3
noncomputable def f_X12_isBest (x1 : Int32) (x2 : Int32) (x3 : Int32) (x4 : Int32) (x5 : Int32) (x6 : Int32) (σ : St) : Option (Int32) :=
  chk (inb ((1024 * (x2 + 1)) + (x3 &&& (x4 ^^^ (-1)))) 7168) <|
  chk (inb x4 1024) <|
  if (rd σ 98 x4) = 0 then
  (some 0)
  else
  (if (rd σ 100 ((1024 * (x2 + 1)) + (x3 &&& (x4 ^^^ (-1))))) < 1000000000 then
  (bd (f_X12_joined x1 x5 (rd σ 99 x4)) fun r5 =>
  bd (f_X12_joined x1 r5 (rd σ 100 ((1024 * (x2 + 1)) + (x3 &&& (x4 ^^^ (-1)))))) fun r8 =>
  if x6 < r8 then
  (some 0)
  else
  (some 1))
  else
  (some 0))
noncomputable def f_X12_findBest_169 (x1 : Int32) (x2 : Int32) (x3 : Int32) (x4 : Int32) (x5 : Int32) (x6 : Int32) (σ : St) : Option ((Int32 × Int32 × Int32 × St) ⊕ (Int32 × St)) :=
  some (.inl (x3, x5, (x6 + 1), σ))
noncomputable def f_X12_findBest_147 (x1 : Int32) (x2 : Int32) (x3 : Int32) (x4 : Int32) (x5 : Int32) (x6 : Int32) (x7 : Int32) (σ : St) : Option ((Int32 × Int32 × Int32 × St) ⊕ (Int32 × St)) :=
  chk (inb x7 1024) <|
  bd (f_X12_joined x1 x5 (rd σ 99 x7)) fun r30 =>
  f_X12_findBest_169 x1 x2 (x3 &&& (x7 ^^^ (-1))) x4 r30 x6 σ
noncomputable def f_X12_findBest_140 (x1 : Int32) (x2 : Int32) (x3 : Int32) (x4 : Int32) (x5 : Int32) (x6 : Int32) (x7 : Int32) (x8 : Int32) (s0 : Int32) (s1 : Int32) (σ : St) : Option ((Int32 × St) ⊕ ((Int32 × Int32 × Int32 × St) ⊕ (Int32 × St))) :=
  chk (inb s1 10) <|
  nm (wr σ 104 s1 s0) fun σ27 =>
  some (.inl ((x8 + 1), σ27))
noncomputable def b_X12_findBest_100 (x1 : Int32) (x2 : Int32) (x3 : Int32) (x4 : Int32) (x5 : Int32) (x6 : Int32) (x7 : Int32) (x8 : Int32) (σ : St) : Option ((Int32 × St) ⊕ ((Int32 × Int32 × Int32 × St) ⊕ (Int32 × St))) :=
  chk (inb 1 466) <|
  if x8 < (rd σ 84 1) then
  (if ((x7 >>> (x8 &&& 31)) &&& 1) = 1 then
  (f_X12_findBest_140 x1 x2 x3 x4 x5 x6 x7 x8 x6 x8 σ)
  else
  (chk (inb x8 10) <|
  f_X12_findBest_140 x1 x2 x3 x4 x5 x6 x7 x8 (rd σ 104 x8) x8 σ))
  else
  ((f_X12_findBest_147 x1 x2 x3 x4 x5 x6 x7 σ).map .inr)
noncomputable def f_X12_findBest_100 (x1 : Int32) (x2 : Int32) (x3 : Int32) (x4 : Int32) (x5 : Int32) (x6 : Int32) (x7 : Int32) (x8 : Int32) (σ : St) : Option ((Int32 × Int32 × Int32 × St) ⊕ (Int32 × St)) := it (fun z : Int32 × St => b_X12_findBest_100 x1 x2 x3 x4 x5 x6 x7 z.1 z.2) (x8, σ)
noncomputable def f_X12_findBest_97 (x1 : Int32) (x2 : Int32) (x3 : Int32) (x4 : Int32) (x5 : Int32) (x6 : Int32) (x7 : Int32) (σ : St) : Option ((Int32 × Int32 × Int32 × St) ⊕ (Int32 × St)) :=
  f_X12_findBest_100 x1 x2 x3 x4 x5 x6 x7 0 σ
noncomputable def b_X12_findBest_69 (x1 : Int32) (x2 : Int32) (x3 : Int32) (x4 : Int32) (x5 : Int32) (x6 : Int32) (x7 : Int32) (σ : St) : Option ((Int32) ⊕ ((Int32 × Int32 × Int32 × St) ⊕ (Int32 × St))) :=
  bd (f_X12_isBest x1 x6 x3 x7 x5 x4 σ) fun r17 =>
  if r17 = 0 then
  (some (.inl ((x7 - x3) &&& x3)))
  else
  ((f_X12_findBest_97 x1 x2 x3 x4 x5 x6 x7 σ).map .inr)
noncomputable def f_X12_findBest_69 (x1 : Int32) (x2 : Int32) (x3 : Int32) (x4 : Int32) (x5 : Int32) (x6 : Int32) (x7 : Int32) (σ : St) : Option ((Int32 × Int32 × Int32 × St) ⊕ (Int32 × St)) := it (fun z : Int32 => b_X12_findBest_69 x1 x2 x3 x4 x5 x6 z σ) x7
noncomputable def b_X12_findBest_34 (x1 : Int32) (x2 : Int32) (x3 : Int32) (x4 : Int32) (x5 : Int32) (x6 : Int32) (σ : St) : Option ((Int32 × Int32 × Int32 × St) ⊕ (Int32 × St)) :=
  if x6 < 6 then
  (if ((x2 >>> (x6 &&& 31)) &&& 1) = 0 then
  (f_X12_findBest_169 x1 x2 x3 x4 x5 x6 σ)
  else
  (bd (f_X12_findSets x6 σ) fun σ13 =>
  bd (f_X12_findCosts x6 x1 σ13) fun σ16 =>
  f_X12_findBest_69 x1 x2 x3 x4 x5 x6 0 σ16))
  else
  (some (.inr ((1, σ))))
noncomputable def f_X12_findBest_34 (x1 : Int32) (x2 : Int32) (x3 : Int32) (x4 : Int32) (x5 : Int32) (x6 : Int32) (σ : St) : Option (Int32 × St) := it (fun z : Int32 × Int32 × Int32 × St => b_X12_findBest_34 x1 x2 z.1 x4 z.2.1 z.2.2.1 z.2.2.2) (x3, x5, x6, σ)
noncomputable def f_X12_findBest (x1 : Int32) (x2 : Int32) (σ : St) : Option (Int32 × St) :=
  bd (f_X12_findSums x1 x2 σ) fun σ3 =>
  bd (f_X12_allParts σ3) fun r4 =>
  chk (inb r4 7168) <|
  if (rd σ3 100 r4) = 1000000000 then
  (some (0, σ3))
  else
  (f_X12_findBest_34 x1 x2 r4 (rd σ3 100 r4) 0 0 σ3)
noncomputable def f_X12_sumOf (x1 : Int32) (x2 : Int32) (σ : St) : Option (Int32) :=
  bd (f_X12_allParts σ) fun r1 =>
  chk (inb r1 7168) <|
  if x1 = 0 then
  (some (-(rd σ 100 r1)))
  else
  (some (rd σ 100 r1))
noncomputable def f_X12_best_33 (σ : St) : Option (Int32 × St) :=
  bd2 (f_X12_finds 1 σ) fun r26 σ28 =>
  some (r26, σ28)
noncomputable def f_X12_best (x1 : Int32) (x2 : Int32) (x3 : Int32) (σ : St) : Option (Int32 × St) :=
  bd (f_X12_in x1 0 3) fun r1 =>
  if r1 = 0 then
  (f_X12_best_33 σ)
  else
  (bd (f_X12_isTroupe x2 σ) fun r5 =>
  if r5 = 0 then
  (f_X12_best_33 σ)
  else
  (chk (inb 1 466) <|
  bd (f_X12_in x3 (-1) ((rd σ 84 1) - 1)) fun r10 =>
  if r10 = 0 then
  (f_X12_best_33 σ)
  else
  (bd2 (f_X12_findBest x1 x2 σ) fun r14 σ16 =>
  if r14 = 0 then
  (bd2 (f_X12_finds 2 σ16) fun r23 σ25 =>
  some (r23, σ25))
  else
  (if x3 < 0 then
  (bd (f_X12_sumOf x1 x2 σ16) fun r20 =>
  some (r20, σ16))
  else
  (chk (inb x3 10) <|
  some ((rd σ16 104 x3), σ16))))))
noncomputable def b_X12_bits_4 (x0 : Int32) (x1 : Int32) (x2 : Int32) : Option ((Int32 × Int32) ⊕ (Int32)) :=
  if x2 < 10 then
  (some (.inl ((x1 + ((x0 >>> (x2 &&& 31)) &&& 1)), (x2 + 1))))
  else
  (some (.inr (x1)))
noncomputable def f_X12_bits_4 (x0 : Int32) (x1 : Int32) (x2 : Int32) : Option (Int32) := it (fun z : Int32 × Int32 => b_X12_bits_4 x0 z.1 z.2) (x1, x2)
noncomputable def f_X12_bits (x0 : Int32) : Option (Int32) :=
  f_X12_bits_4 x0 0 0
noncomputable def f_X12_isSheet (x0 : Int32) : Option (Int32) :=
  bd (f_X12_in x0 0 3) fun r1 =>
  chk (isB r1) <|
  some r1
noncomputable def b_X12_block_106 (x1 : Int32) (x2 : Int32) (x3 : Int32) (σ : St) : Option ((Int32 × St) ⊕ (Int32 × St)) :=
  if x3 < x2 then
  (chk (inb ((24 * x1) + x3) 96) <|
  chk (inb ((10 + (5 * x3)) + 4) 466) <|
  nm (wr σ 84 ((10 + (5 * x3)) + 4) (rd σ 108 ((24 * x1) + x3))) fun σ29 =>
  some (.inl ((x3 + 1), σ29)))
  else
  (some (.inr ((x2, σ))))
noncomputable def f_X12_block_106 (x1 : Int32) (x2 : Int32) (x3 : Int32) (σ : St) : Option (Int32 × St) := it (fun z : Int32 × St => b_X12_block_106 x1 x2 z.1 z.2) (x3, σ)
noncomputable def f_X12_block_104 (x1 : Int32) (x2 : Int32) (σ : St) : Option (Int32 × St) :=
  f_X12_block_106 x1 x2 0 σ
noncomputable def f_X12_block_92 (σ : St) : Option (Int32 × St) :=
  bd2 (f_X12_finds 5 σ) fun r24 σ26 =>
  some (r24, σ26)
noncomputable def b_X12_block_61 (x1 : Int32) (x2 : Int32) (x3 : Int32) (σ : St) : Option ((Int32) ⊕ (Int32 × St)) :=
  if x3 < x2 then
  (chk (inb ((24 * x1) + x3) 96) <|
  chk (inb 3 466) <|
  bd (f_X12_in (rd σ 108 ((24 * x1) + x3)) (-1) ((rd σ 84 3) - 1)) fun r19 =>
  if r19 = 0 then
  ((f_X12_block_92 σ).map .inr)
  else
  (some (.inl (x3 + 1))))
  else
  ((f_X12_block_104 x1 x2 σ).map .inr)
noncomputable def f_X12_block_61 (x1 : Int32) (x2 : Int32) (x3 : Int32) (σ : St) : Option (Int32 × St) := it (fun z : Int32 => b_X12_block_61 x1 x2 z σ) x3
noncomputable def f_X12_block_58 (x1 : Int32) (s0 : Int32) (σ : St) : Option (Int32 × St) :=
  f_X12_block_61 x1 s0 0 σ
noncomputable def f_X12_block (x1 : Int32) (σ : St) : Option (Int32 × St) :=
  bd (f_X12_isSheet x1) fun r1 =>
  if r1 = 0 then
  (bd2 (f_X12_finds 1 σ) fun r12 σ14 =>
  some (r12, σ14))
  else
  (chk (inb x1 4) <|
  if (rd σ 106 x1) = 0 then
  (bd2 (f_X12_finds 2 σ) fun r9 σ11 =>
  some (r9, σ11))
  else
  (chk (inb 1 466) <|
  if (rd σ 107 x1) < (rd σ 84 1) then
  (f_X12_block_58 x1 (rd σ 107 x1) σ)
  else
  (f_X12_block_58 x1 (rd σ 84 1) σ)))
noncomputable def f_X12_runs (x1 : Int32) (σ : St) : Option (St) :=
  if (fd σ 6 27) < 40 then
  (chk (inb (fd σ 6 27) 40) <|
  nm (wr σ 105 (fd σ 6 27) x1) fun σ2 =>
  nm (fw σ2 6 27 ((fd σ2 6 27) + 1)) fun σ4 =>
  some σ4)
  else
  (some σ)
noncomputable def f_X12_dies (x1 : Int32) (σ : St) : Option (Int32 × St) :=
  if (fd σ 6 28) = 3 then
  (bd (f_X12_runs 40 σ) fun σ7 =>
  bd (f_X12_runs 12 σ7) fun σ10 =>
  some (((x1 - (fd σ10 6 30)) * 3), σ10))
  else
  (bd (f_X12_runs 12 σ) fun σ4 =>
  some ((x1 - (fd σ4 6 30)), σ4))
noncomputable def f_X12_speaks_16 (x1 : Int32) (σ : St) : Option (Int32 × St) :=
  bd (f_X12_runs 30 σ) fun σ15 =>
  bd (f_X12_runs 10 σ15) fun σ18 =>
  some (((x1 + (fd σ18 6 29)) - 1), σ18)
noncomputable def f_X12_speaks (x1 : Int32) (σ : St) : Option (Int32 × St) :=
  if (fd σ 6 28) = 2 then
  (f_X12_speaks_16 x1 σ)
  else
  (if (fd σ 6 28) = 4 then
  (f_X12_speaks_16 x1 σ)
  else
  (if (fd σ 6 28) = 5 then
  (bd (f_X12_runs 60 σ) fun σ9 =>
  bd (f_X12_runs 10 σ9) fun σ12 =>
  some (((x1 + (fd σ12 6 29)) ^^^ 5), σ12))
  else
  (bd (f_X12_runs 10 σ) fun σ6 =>
  some ((x1 + (fd σ6 6 29)), σ6))))
noncomputable def f_X12_walksPart (x1 : Int32) (σ : St) : Option (Int32 × St) :=
  bd (f_X12_runs 11 σ) fun σ3 =>
  bd2 (f_X12_speaks x1 σ3) fun r4 σ6 =>
  some ((r4 * 2), σ6)
noncomputable def f_X12_walksSpoken (x1 : Int32) (σ : St) : Option (Int32 × St) :=
  bd (f_X12_runs 20 σ) fun σ3 =>
  bd2 (f_X12_walksPart x1 σ3) fun r4 σ6 =>
  bd2 (f_X12_dies x1 σ6) fun r7 σ9 =>
  some ((r4 + r7), σ9)
noncomputable def f_X12_walks (x1 : Int32) (σ : St) : Option (Int32 × St) :=
  if (fd σ 6 28) = 3 then
  (bd (f_X12_runs 41 σ) fun σ21 =>
  bd2 (f_X12_walksSpoken (x1 - (fd σ21 6 30)) σ21) fun r22 σ24 =>
  some (r22, σ24))
  else
  (if (fd σ 6 28) = 5 then
  (bd (f_X12_runs 61 σ) fun σ12 =>
  bd2 (f_X12_walksSpoken x1 σ12) fun r13 σ15 =>
  bd2 (f_X12_speaks 1 σ15) fun r16 σ18 =>
  some ((r13 + r16), σ18))
  else
  (if (fd σ 6 28) = 1 then
  (bd2 (f_X12_walksSpoken x1 σ) fun r7 σ9 =>
  some (r7, σ9))
  else
  (bd2 (f_X12_walksPart x1 σ) fun r4 σ6 =>
  some (r4, σ6))))
noncomputable def f_X12_bowsPart (x1 : Int32) (σ : St) : Option (Int32 × St) :=
  bd (f_X12_runs 13 σ) fun σ3 =>
  bd2 (f_X12_walks x1 σ3) fun r4 σ6 =>
  bd2 (f_X12_dies x1 σ6) fun r7 σ9 =>
  some ((r4 ^^^ r7), σ9)
noncomputable def f_X12_bowsMute (x1 : Int32) (σ : St) : Option (Int32 × St) :=
  bd (f_X12_runs 31 σ) fun σ3 =>
  bd2 (f_X12_bowsPart (x1 + 1) σ3) fun r4 σ6 =>
  some (r4, σ6)
noncomputable def f_X12_bows (x1 : Int32) (σ : St) : Option (Int32 × St) :=
  if (fd σ 6 28) = 4 then
  (bd (f_X12_runs 50 σ) fun σ11 =>
  bd2 (f_X12_dies x1 σ11) fun r12 σ14 =>
  bd2 (f_X12_bowsMute x1 σ14) fun r15 σ17 =>
  some ((r12 - r15), σ17))
  else
  (if (fd σ 6 28) = 2 then
  (bd2 (f_X12_bowsMute x1 σ) fun r6 σ8 =>
  some (r6, σ8))
  else
  (bd2 (f_X12_bowsPart x1 σ) fun r3 σ5 =>
  some (r3, σ5)))
noncomputable def f_X12_isPlayer (x1 : Int32) (σ : St) : Option (Int32) :=
  chk (inb 3 466) <|
  bd (f_X12_in x1 0 ((rd σ 84 3) - 1)) fun r2 =>
  chk (isB r2) <|
  some r2
noncomputable def f_X12_isOn_56 (x1 : Int32) (x2 : Int32) (x3 : Int32) (x4 : Int32) (x5 : Int32) (σ : St) : Option ((Int32) ⊕ (Int32)) :=
  some (.inl (x5 + 1))
noncomputable def b_X12_isOn_3 (x1 : Int32) (x2 : Int32) (x3 : Int32) (x4 : Int32) (x5 : Int32) (σ : St) : Option ((Int32) ⊕ (Int32)) :=
  chk (inb 2 466) <|
  if x5 < (rd σ 84 2) then
  (if x5 = x4 then
  (f_X12_isOn_56 x1 x2 x3 x4 x5 σ)
  else
  (bd (f_X12_entryOf x5 0 σ) fun r4 =>
  if r4 = x1 then
  (bd (f_X12_entryOf x5 1 σ) fun r8 =>
  if x3 < r8 then
  (f_X12_isOn_56 x1 x2 x3 x4 x5 σ)
  else
  (bd (f_X12_entryOf x5 2 σ) fun r12 =>
  if r12 < x2 then
  (f_X12_isOn_56 x1 x2 x3 x4 x5 σ)
  else
  (some (.inr (1)))))
  else
  (f_X12_isOn_56 x1 x2 x3 x4 x5 σ)))
  else
  (some (.inr (0)))
noncomputable def f_X12_isOn_3 (x1 : Int32) (x2 : Int32) (x3 : Int32) (x4 : Int32) (x5 : Int32) (σ : St) : Option (Int32) := it (fun z : Int32 => b_X12_isOn_3 x1 x2 x3 x4 z σ) x5
noncomputable def f_X12_isOn (x1 : Int32) (x2 : Int32) (x3 : Int32) (x4 : Int32) (σ : St) : Option (Int32) :=
  f_X12_isOn_3 x1 x2 x3 x4 0 σ
noncomputable def f_X12_busy_97 (x1 : Int32) (x3 : Int32) (s0 : Int32) (s1 : Int32) (σ : St) : Option ((Int32 × Int32) ⊕ (Int32 × St)) :=
  some (.inl ((s1 + s0), (x3 + 1)))
noncomputable def f_X12_busy_86 (x1 : Int32) (x2 : Int32) (x3 : Int32) (x4 : Int32) (σ : St) : Option ((Int32 × Int32) ⊕ (Int32 × St)) :=
  if x4 = 0 then
  (f_X12_busy_97 x1 x3 0 x2 σ)
  else
  (f_X12_busy_97 x1 x3 1 x2 σ)
noncomputable def f_X12_busy_78 (x1 : Int32) (x2 : Int32) (x3 : Int32) (x5 : Int32) (s0 : Int32) (σ : St) : Option ((Int32 × Int32) ⊕ ((Int32 × Int32) ⊕ (Int32 × St))) :=
  some (.inl (s0, (x5 + 1)))
noncomputable def f_X12_busy_77 (x1 : Int32) (x2 : Int32) (x3 : Int32) (x5 : Int32) (σ : St) : Option ((Int32 × Int32) ⊕ ((Int32 × Int32) ⊕ (Int32 × St))) :=
  f_X12_busy_78 x1 x2 x3 x5 0 σ
noncomputable def f_X12_busy_73 (x1 : Int32) (x2 : Int32) (x3 : Int32) (x5 : Int32) (σ : St) : Option ((Int32 × Int32) ⊕ ((Int32 × Int32) ⊕ (Int32 × St))) :=
  f_X12_busy_78 x1 x2 x3 x5 1 σ
noncomputable def b_X12_busy_34 (x1 : Int32) (x2 : Int32) (x3 : Int32) (x4 : Int32) (x5 : Int32) (σ : St) : Option ((Int32 × Int32) ⊕ ((Int32 × Int32) ⊕ (Int32 × St))) :=
  chk (inb 1 466) <|
  if x5 < (rd σ 84 1) then
  (if x4 = 0 then
  (bd (f_X12_its x5 4 σ) fun r14 =>
  if r14 = x1 then
  (bd (f_X12_isOn x5 x3 x3 (-1) σ) fun r18 =>
  if r18 = 0 then
  (f_X12_busy_77 x1 x2 x3 x5 σ)
  else
  (f_X12_busy_73 x1 x2 x3 x5 σ))
  else
  (f_X12_busy_77 x1 x2 x3 x5 σ))
  else
  (f_X12_busy_73 x1 x2 x3 x5 σ))
  else
  ((f_X12_busy_86 x1 x2 x3 x4 σ).map .inr)
noncomputable def f_X12_busy_34 (x1 : Int32) (x2 : Int32) (x3 : Int32) (x4 : Int32) (x5 : Int32) (σ : St) : Option ((Int32 × Int32) ⊕ (Int32 × St)) := it (fun z : Int32 × Int32 => b_X12_busy_34 x1 x2 x3 z.1 z.2 σ) (x4, x5)
noncomputable def b_X12_busy_18 (x1 : Int32) (x2 : Int32) (x3 : Int32) (σ : St) : Option ((Int32 × Int32) ⊕ (Int32 × St)) :=
  chk (inb 0 466) <|
  if x3 < (rd σ 84 0) then
  (f_X12_busy_34 x1 x2 x3 0 0 σ)
  else
  (some (.inr ((x2, σ))))
noncomputable def f_X12_busy_18 (x1 : Int32) (x2 : Int32) (x3 : Int32) (σ : St) : Option (Int32 × St) := it (fun z : Int32 × Int32 => b_X12_busy_18 x1 z.1 z.2 σ) (x2, x3)
noncomputable def f_X12_busy (x1 : Int32) (σ : St) : Option (Int32 × St) :=
  bd (f_X12_isPlayer x1 σ) fun r1 =>
  if r1 = 0 then
  (bd2 (f_X12_finds 1 σ) fun r5 σ7 =>
  some (r5, σ7))
  else
  (f_X12_busy_18 x1 0 0 σ)
noncomputable def f_X12_byteAt (x1 : Int32) (σ : St) : Option (Int32) :=
  chk (inb 4 466) <|
  if x1 < (rd σ 84 4) then
  (chk (inb (240 + x1) 466) <|
  some (rd σ 84 (240 + x1)))
  else
  (some (-1))
noncomputable def f_X12_can_16 (σ : St) : Option (Int32 × St) :=
  bd2 (f_X12_finds 1 σ) fun r13 σ15 =>
  some (r13, σ15)
noncomputable def f_X12_can (x1 : Int32) (x2 : Int32) (σ : St) : Option (Int32 × St) :=
  bd (f_X12_isPlayer x1 σ) fun r1 =>
  if r1 = 0 then
  (f_X12_can_16 σ)
  else
  (bd (f_X12_isPart x2 σ) fun r5 =>
  if r5 = 0 then
  (f_X12_can_16 σ)
  else
  (bd2 (f_X12_isAble x1 x2 σ) fun r9 σ11 =>
  if r9 = 0 then
  (some (0, σ11))
  else
  (some (1, σ11))))
noncomputable def f_X12_cast_27 (x1 : Int32) (x2 : Int32) (σ : St) : Option (Int32 × St) :=
  bd (f_X12_its x1 4 σ) fun r13 =>
  chk (inb ((10 + (5 * x1)) + 4) 466) <|
  nm (wr σ 84 ((10 + (5 * x1)) + 4) x2) fun σ16 =>
  some (r13, σ16)
noncomputable def f_X12_cast_21 (σ : St) : Option (Int32 × St) :=
  bd2 (f_X12_finds 1 σ) fun r10 σ12 =>
  some (r10, σ12)
noncomputable def f_X12_cast (x1 : Int32) (x2 : Int32) (σ : St) : Option (Int32 × St) :=
  bd (f_X12_isPart x1 σ) fun r1 =>
  if r1 = 0 then
  (f_X12_cast_21 σ)
  else
  (if x2 = (-1) then
  (f_X12_cast_27 x1 x2 σ)
  else
  (bd (f_X12_isPlayer x2 σ) fun r6 =>
  if r6 = 0 then
  (f_X12_cast_21 σ)
  else
  (f_X12_cast_27 x1 x2 σ)))
noncomputable def f_X12_findWays_175 (x1 : Int32) (x2 : Int32) (σ : St) : Option ((Int32 × St) ⊕ (St)) :=
  some (.inl ((x2 + 1), σ))
noncomputable def b_X12_findWays_145 (x1 : Int32) (x2 : Int32) (x3 : Int32) (σ : St) : Option ((Int32 × St) ⊕ ((Int32 × St) ⊕ (St))) :=
  bd (f_X12_allParts σ) fun r27 =>
  if r27 < x3 then
  ((f_X12_findWays_175 x1 x2 σ).map .inr)
  else
  (chk (inb (1024 + x3) 2048) <|
  chk (inb x3 2048) <|
  nm (wrL σ x3 (rdL σ (1024 + x3))) fun σ33 =>
  some (.inl ((x3 + 1), σ33)))
noncomputable def f_X12_findWays_145 (x1 : Int32) (x2 : Int32) (x3 : Int32) (σ : St) : Option ((Int32 × St) ⊕ (St)) := it (fun z : Int32 × St => b_X12_findWays_145 x1 x2 z.1 z.2) (x3, σ)
noncomputable def f_X12_findWays_143 (x1 : Int32) (x2 : Int32) (σ : St) : Option ((Int32 × St) ⊕ (St)) :=
  f_X12_findWays_145 x1 x2 0 σ
noncomputable def f_X12_findWays_125 (x1 : Int32) (x2 : Int32) (x3 : Int32) (x4 : Int64) (σ : St) : Option ((Int32 × St) ⊕ ((Int32 × St) ⊕ (St))) :=
  chk (inb (1024 + x3) 2048) <|
  nm (wrL σ (1024 + x3) x4) fun σ25 =>
  some (.inl ((x3 + 1), σ25))
noncomputable def f_X12_findWays_111 (x1 : Int32) (x2 : Int32) (x3 : Int32) (x6 : Int32) (s0 : Int64) (s1 : Int64) (σ : St) : Option ((Int64 × Int32) ⊕ ((Int32 × St) ⊕ ((Int32 × St) ⊕ (St)))) :=
  some (.inl ((s1 + s0), ((x6 - 1) &&& x3)))
noncomputable def b_X12_findWays_79 (x1 : Int32) (x2 : Int32) (x3 : Int32) (x4 : Int64) (x6 : Int32) (σ : St) : Option ((Int64 × Int32) ⊕ ((Int32 × St) ⊕ ((Int32 × St) ⊕ (St)))) :=
  if 0 < x6 then
  (chk (inb x6 1024) <|
  if (rd σ 98 x6) = 0 then
  (f_X12_findWays_111 x1 x2 x3 x6 0 x4 σ)
  else
  (chk (inb (x3 &&& (x6 ^^^ (-1))) 2048) <|
  f_X12_findWays_111 x1 x2 x3 x6 (rdL σ (x3 &&& (x6 ^^^ (-1)))) x4 σ))
  else
  ((f_X12_findWays_125 x1 x2 x3 x4 σ).map .inr)
noncomputable def f_X12_findWays_79 (x1 : Int32) (x2 : Int32) (x3 : Int32) (x4 : Int64) (x6 : Int32) (σ : St) : Option ((Int32 × St) ⊕ ((Int32 × St) ⊕ (St))) := it (fun z : Int64 × Int32 => b_X12_findWays_79 x1 x2 x3 z.1 z.2 σ) (x4, x6)
noncomputable def b_X12_findWays_60 (x1 : Int32) (x2 : Int32) (x3 : Int32) (σ : St) : Option ((Int32 × St) ⊕ ((Int32 × St) ⊕ (St))) :=
  bd (f_X12_allParts σ) fun r14 =>
  if r14 < x3 then
  ((f_X12_findWays_143 x1 x2 σ).map .inr)
  else
  (chk (inb x3 2048) <|
  f_X12_findWays_79 x1 x2 x3 (rdL σ x3) x3 σ)
noncomputable def f_X12_findWays_60 (x1 : Int32) (x2 : Int32) (x3 : Int32) (σ : St) : Option ((Int32 × St) ⊕ (St)) := it (fun z : Int32 × St => b_X12_findWays_60 x1 x2 z.1 z.2) (x3, σ)
noncomputable def b_X12_findWays_36 (x1 : Int32) (x2 : Int32) (σ : St) : Option ((Int32 × St) ⊕ (St)) :=
  if x2 < 6 then
  (if ((x1 >>> (x2 &&& 31)) &&& 1) = 0 then
  (f_X12_findWays_175 x1 x2 σ)
  else
  (bd (f_X12_findSets x2 σ) fun σ13 =>
  f_X12_findWays_60 x1 x2 0 σ13))
  else
  (some (.inr (σ)))
noncomputable def f_X12_findWays_36 (x1 : Int32) (x2 : Int32) (σ : St) : Option (St) := it (fun z : Int32 × St => b_X12_findWays_36 x1 z.1 z.2) (x2, σ)
noncomputable def f_X12_findWays_34 (x1 : Int32) (σ : St) : Option (St) :=
  f_X12_findWays_36 x1 0 σ
noncomputable def f_X12_findWays_27 (x1 : Int32) (x2 : Int32) (s0 : Int64) (s1 : Int32) (σ : St) : Option ((Int32 × St) ⊕ (St)) :=
  chk (inb s1 2048) <|
  nm (wrL σ s1 s0) fun σ7 =>
  some (.inl ((x2 + 1), σ7))
noncomputable def b_X12_findWays_6 (x1 : Int32) (x2 : Int32) (σ : St) : Option ((Int32 × St) ⊕ (St)) :=
  if x2 < 1024 then
  (if x2 = 0 then
  (f_X12_findWays_27 x1 x2 1 x2 σ)
  else
  (f_X12_findWays_27 x1 x2 0 x2 σ))
  else
  ((f_X12_findWays_34 x1 σ).map .inr)
noncomputable def f_X12_findWays_6 (x1 : Int32) (x2 : Int32) (σ : St) : Option (St) := it (fun z : Int32 × St => b_X12_findWays_6 x1 z.1 z.2) (x2, σ)
noncomputable def f_X12_findWays (x1 : Int32) (σ : St) : Option (St) :=
  bd (f_X12_lay σ) fun σ3 =>
  f_X12_findWays_6 x1 0 σ3
noncomputable def f_X12_castings (x1 : Int32) (σ : St) : Option (Int64 × St) :=
  bd (f_X12_isTroupe x1 σ) fun r1 =>
  if r1 = 0 then
  (bd2 (f_X12_finds 1 σ) fun r12 σ14 =>
  some (r12.toInt64, σ14))
  else
  (bd (f_X12_findWays x1 σ) fun σ7 =>
  bd (f_X12_allParts σ7) fun r8 =>
  chk (inb r8 2048) <|
  some ((rdL σ7 r8), σ7))
noncomputable def f_X12_change_40 (σ : St) : Option (Int32 × St) :=
  bd2 (f_X12_finds 1 σ) fun r17 σ19 =>
  some (r17, σ19)
noncomputable def f_X12_change (x1 : Int32) (x2 : Int32) (x3 : Int32) (σ : St) : Option (Int32 × St) :=
  bd (f_X12_isPart x1 σ) fun r1 =>
  if r1 = 0 then
  (f_X12_change_40 σ)
  else
  (bd (f_X12_isPart x2 σ) fun r5 =>
  if r5 = 0 then
  (f_X12_change_40 σ)
  else
  (if x1 = x2 then
  (f_X12_change_40 σ)
  else
  (bd (f_X12_in x3 0 1) fun r10 =>
  if r10 = 0 then
  (f_X12_change_40 σ)
  else
  (bd2 (f_X12_changeOf x1 x2 x3 σ) fun r14 σ16 =>
  some (r14, σ16)))))
noncomputable def b_X12_check_55 (x2 : Int32) (x3 : Int32) (σ : St) : Option ((Int32) ⊕ (Int32 × St)) :=
  if x3 < x2 then
  (chk (inb 1 466) <|
  if x3 < (rd σ 84 1) then
  (chk (inb (290 + x3) 466) <|
  chk (inb x3 10) <|
  if (rd σ 84 (290 + x3)) = (rd σ 104 x3) then
  (some (.inl (x3 + 1)))
  else
  (some (.inr (((1 + x3), σ)))))
  else
  (some (.inr (((1 + x3), σ)))))
  else
  (some (.inr ((0, σ))))
noncomputable def f_X12_check_55 (x2 : Int32) (x3 : Int32) (σ : St) : Option (Int32 × St) := it (fun z : Int32 => b_X12_check_55 x2 z σ) x3
noncomputable def f_X12_check (x1 : Int32) (σ : St) : Option (Int32 × St) :=
  chk (inb 5 466) <|
  nm (wr σ 84 5 0) fun σ2 =>
  bd (f_X12_in x1 0 3) fun r3 =>
  if r3 = 0 then
  (bd2 (f_X12_finds 1 σ2) fun r15 σ17 =>
  some (r15, σ17))
  else
  (chk (inb 3 466) <|
  bd2 (f_X12_findBest x1 (((1 : Int32) <<< ((rd σ2 84 3) &&& 31)) - 1) σ2) fun r8 σ10 =>
  if r8 = 0 then
  (bd2 (f_X12_finds 2 σ10) fun r12 σ14 =>
  some (r12, σ14))
  else
  (f_X12_check_55 (rd σ 84 5) 0 σ10))
noncomputable def f_X12_count_130 (x3 : Int32) (s0 : Int32) (s1 : Int32) (σ : St) : Option ((Int32 × Int32) ⊕ (Int32 × St)) :=
  some (.inl ((s1 + s0), (x3 + 1)))
noncomputable def b_X12_count_105 (x2 : Int32) (x3 : Int32) (σ : St) : Option ((Int32 × Int32) ⊕ (Int32 × St)) :=
  chk (inb 1 466) <|
  if x3 < (rd σ 84 1) then
  (bd (f_X12_its x3 4 σ) fun r19 =>
  if r19 < 0 then
  (f_X12_count_130 x3 0 x2 σ)
  else
  (f_X12_count_130 x3 1 x2 σ))
  else
  (some (.inr ((x2, σ))))
noncomputable def f_X12_count_105 (x2 : Int32) (x3 : Int32) (σ : St) : Option (Int32 × St) := it (fun z : Int32 × Int32 => b_X12_count_105 z.1 z.2 σ) (x2, x3)
noncomputable def f_X12_count_93 (x3 : Int32) (s0 : Int32) (s1 : Int32) (σ : St) : Option ((Int32 × Int32) ⊕ (Int32 × St)) :=
  some (.inl ((s1 + s0), (x3 + 1)))
noncomputable def b_X12_count_66 (x2 : Int32) (x3 : Int32) (σ : St) : Option ((Int32 × Int32) ⊕ (Int32 × St)) :=
  if x3 < 3 then
  (chk (inb (310 + (52 * x3)) 466) <|
  if 0 < (rd σ 84 (310 + (52 * x3))) then
  (f_X12_count_93 x3 1 x2 σ)
  else
  (f_X12_count_93 x3 0 x2 σ))
  else
  (some (.inr ((x2, σ))))
noncomputable def f_X12_count_66 (x2 : Int32) (x3 : Int32) (σ : St) : Option (Int32 × St) := it (fun z : Int32 × Int32 => b_X12_count_66 z.1 z.2 σ) (x2, x3)
noncomputable def f_X12_count_52 (x1 : Int32) (σ : St) : Option (Int32 × St) :=
  chk (inb x1 466) <|
  some ((rd σ 84 x1), σ)
noncomputable def f_X12_count (x1 : Int32) (σ : St) : Option (Int32 × St) :=
  if x1 = 0 then
  (f_X12_count_52 x1 σ)
  else
  (if x1 = 1 then
  (f_X12_count_52 x1 σ)
  else
  (if x1 = 2 then
  (f_X12_count_52 x1 σ)
  else
  (if x1 = 3 then
  (f_X12_count_52 x1 σ)
  else
  (if x1 = 4 then
  (f_X12_count_52 x1 σ)
  else
  (if x1 = 5 then
  (f_X12_count_52 x1 σ)
  else
  (if x1 = 6 then
  (some ((fd σ 6 27), σ))
  else
  (if x1 = 7 then
  (f_X12_count_66 0 0 σ)
  else
  (if x1 = 8 then
  (f_X12_count_105 0 0 σ)
  else
  (bd2 (f_X12_finds 1 σ) fun r10 σ12 =>
  some (r10, σ12))))))))))
noncomputable def f_X12_manyOn_49 (x1 : Int32) (x2 : Int32) (x4 : Int32) (s0 : Int32) (s1 : Int32) (σ : St) : Option ((Int32 × Int32) ⊕ (Int32)) :=
  some (.inl ((s1 + s0), (x4 + 1)))
noncomputable def f_X12_manyOn_48 (x1 : Int32) (x2 : Int32) (x4 : Int32) (s0 : Int32) (σ : St) : Option ((Int32 × Int32) ⊕ (Int32)) :=
  f_X12_manyOn_49 x1 x2 x4 0 s0 σ
noncomputable def f_X12_manyOn_32 (x1 : Int32) (x2 : Int32) (x4 : Int32) (s0 : Int32) (σ : St) : Option ((Int32 × Int32) ⊕ (Int32)) :=
  bd (f_X12_isOn x4 x1 x1 (-1) σ) fun r8 =>
  if r8 = 0 then
  (f_X12_manyOn_48 x1 x2 x4 s0 σ)
  else
  (f_X12_manyOn_49 x1 x2 x4 1 s0 σ)
noncomputable def b_X12_manyOn_5 (x1 : Int32) (x2 : Int32) (x3 : Int32) (x4 : Int32) (σ : St) : Option ((Int32 × Int32) ⊕ (Int32)) :=
  chk (inb 1 466) <|
  if x4 < (rd σ 84 1) then
  (if x2 = 0 then
  (bd (f_X12_its x4 0 σ) fun r4 =>
  if r4 = 3 then
  (f_X12_manyOn_48 x1 x2 x4 x3 σ)
  else
  (f_X12_manyOn_32 x1 x2 x4 x3 σ))
  else
  (f_X12_manyOn_32 x1 x2 x4 x3 σ))
  else
  (some (.inr (x3)))
noncomputable def f_X12_manyOn_5 (x1 : Int32) (x2 : Int32) (x3 : Int32) (x4 : Int32) (σ : St) : Option (Int32) := it (fun z : Int32 × Int32 => b_X12_manyOn_5 x1 x2 z.1 z.2 σ) (x3, x4)
noncomputable def f_X12_manyOn (x1 : Int32) (x2 : Int32) (σ : St) : Option (Int32) :=
  f_X12_manyOn_5 x1 x2 0 0 σ
noncomputable def f_X12_crowd_31 (x2 : Int32) (s0 : Int32) (σ : St) : Option ((Int32 × Int32) ⊕ (Int32)) :=
  some (.inl (s0, (x2 + 1)))
noncomputable def b_X12_crowd_4 (x1 : Int32) (x2 : Int32) (σ : St) : Option ((Int32 × Int32) ⊕ (Int32)) :=
  chk (inb 0 466) <|
  if x2 < (rd σ 84 0) then
  (bd (f_X12_manyOn x2 0 σ) fun r3 =>
  if x1 < r3 then
  (f_X12_crowd_31 x2 r3 σ)
  else
  (f_X12_crowd_31 x2 x1 σ))
  else
  (some (.inr (x1)))
noncomputable def f_X12_crowd_4 (x1 : Int32) (x2 : Int32) (σ : St) : Option (Int32) := it (fun z : Int32 × Int32 => b_X12_crowd_4 z.1 z.2 σ) (x1, x2)
noncomputable def f_X12_crowd (σ : St) : Option (Int32) :=
  f_X12_crowd_4 0 0 σ
noncomputable def f_X12_lays (x1 : Int32) (σ : St) : Option (St) :=
  chk (inb (fd σ 6 10) 52) <|
  nm (wr σ 91 (fd σ 6 10) x1) fun σ1 =>
  nm (fw σ1 6 10 ((fd σ1 6 10) + 1)) fun σ3 =>
  some σ3
noncomputable def b_X12_denies_0 (σ : St) : Option ((St) ⊕ (St)) :=
  if 0 < (fd σ 6 12) then
  (chk (inb ((fd σ 6 12) - 1) 52) <|
  if (rd σ 92 ((fd σ 6 12) - 1)) = 33 then
  (nm (fw σ 6 12 ((fd σ 6 12) - 1)) fun σ11 =>
  bd (f_X12_lays (-133) σ11) fun σ14 =>
  some (.inl σ14))
  else
  (some (.inr (σ))))
  else
  (some (.inr (σ)))
noncomputable def f_X12_denies_0 (σ : St) : Option (St) := it (fun z : St => b_X12_denies_0 z) σ
noncomputable def f_X12_denies (σ : St) : Option (St) :=
  if 0 < (fd σ 6 12) then
  (chk (inb ((fd σ 6 12) - 1) 52) <|
  if (rd σ 92 ((fd σ 6 12) - 1)) = 33 then
  (nm (fw σ 6 12 ((fd σ 6 12) - 1)) fun σ4 =>
  bd (f_X12_lays (-133) σ4) fun σ7 =>
  f_X12_denies_0 σ7)
  else
  (some σ))
  else
  (some σ)
noncomputable def f_X12_entriesOf_30 (x1 : Int32) (x3 : Int32) (s0 : Int32) (s1 : Int32) (σ : St) : Option ((Int32 × Int32) ⊕ (Int32)) :=
  some (.inl ((s1 + s0), (x3 + 1)))
noncomputable def b_X12_entriesOf_4 (x1 : Int32) (x2 : Int32) (x3 : Int32) (σ : St) : Option ((Int32 × Int32) ⊕ (Int32)) :=
  chk (inb 2 466) <|
  if x3 < (rd σ 84 2) then
  (bd (f_X12_entryOf x3 0 σ) fun r3 =>
  if r3 = x1 then
  (f_X12_entriesOf_30 x1 x3 1 x2 σ)
  else
  (f_X12_entriesOf_30 x1 x3 0 x2 σ))
  else
  (some (.inr (x2)))
noncomputable def f_X12_entriesOf_4 (x1 : Int32) (x2 : Int32) (x3 : Int32) (σ : St) : Option (Int32) := it (fun z : Int32 × Int32 => b_X12_entriesOf_4 x1 z.1 z.2 σ) (x2, x3)
noncomputable def f_X12_entriesOf (x1 : Int32) (σ : St) : Option (Int32) :=
  f_X12_entriesOf_4 x1 0 0 σ
noncomputable def f_X12_entry_37 (σ : St) : Option (Int32 × St) :=
  bd2 (f_X12_finds 1 σ) fun r35 σ37 =>
  some (r35, σ37)
noncomputable def f_X12_entry (x1 : Int32) (x2 : Int32) (x3 : Int32) (x4 : Int32) (σ : St) : Option (Int32 × St) :=
  bd (f_X12_isPart x1 σ) fun r1 =>
  if r1 = 0 then
  (f_X12_entry_37 σ)
  else
  (if x2 < 0 then
  (f_X12_entry_37 σ)
  else
  (if x3 < x2 then
  (f_X12_entry_37 σ)
  else
  (chk (inb 0 466) <|
  if x3 < (rd σ 84 0) then
  (bd (f_X12_in x4 0 3) fun r9 =>
  if r9 = 0 then
  (f_X12_entry_37 σ)
  else
  (bd (f_X12_isOn x1 x2 x3 (-1) σ) fun r13 =>
  if r13 = 0 then
  (chk (inb 2 466) <|
  if (rd σ 84 2) = 40 then
  (bd2 (f_X12_finds 4 σ) fun r29 σ31 =>
  some (r29, σ31))
  else
  (chk (inb (60 + (4 * (rd σ 84 2))) 466) <|
  nm (wr σ 84 (60 + (4 * (rd σ 84 2))) x1) fun σ19 =>
  chk (inb ((60 + (4 * (rd σ 84 2))) + 1) 466) <|
  nm (wr σ19 84 ((60 + (4 * (rd σ 84 2))) + 1) x2) fun σ21 =>
  chk (inb ((60 + (4 * (rd σ 84 2))) + 2) 466) <|
  nm (wr σ21 84 ((60 + (4 * (rd σ 84 2))) + 2) x3) fun σ23 =>
  chk (inb ((60 + (4 * (rd σ 84 2))) + 3) 466) <|
  nm (wr σ23 84 ((60 + (4 * (rd σ 84 2))) + 3) x4) fun σ25 =>
  nm (wr σ25 84 2 ((rd σ25 84 2) + 1)) fun σ27 =>
  nm (fw σ27 6 4 0) fun σ28 =>
  some (((rd σ28 84 2) - 1), σ28)))
  else
  (bd2 (f_X12_finds 3 σ) fun r32 σ34 =>
  some (r32, σ34))))
  else
  (f_X12_entry_37 σ))))
noncomputable def f_X12_isEntry (x1 : Int32) (σ : St) : Option (Int32) :=
  chk (inb 2 466) <|
  bd (f_X12_in x1 0 ((rd σ 84 2) - 1)) fun r2 =>
  chk (isB r2) <|
  some r2
noncomputable def f_X12_entryIs_26 (σ : St) : Option (Int32 × St) :=
  bd2 (f_X12_finds 1 σ) fun r12 σ14 =>
  some (r12, σ14)
noncomputable def f_X12_entryIs (x1 : Int32) (x2 : Int32) (σ : St) : Option (Int32 × St) :=
  bd (f_X12_isEntry x1 σ) fun r1 =>
  if r1 = 0 then
  (f_X12_entryIs_26 σ)
  else
  (bd (f_X12_in x2 0 3) fun r5 =>
  if r5 = 0 then
  (f_X12_entryIs_26 σ)
  else
  (bd (f_X12_entryOf x1 x2 σ) fun r9 =>
  some (r9, σ)))
noncomputable def f_X12_feed_87 (σ : St) : Option (Int32 × St) :=
  chk (inb 4 466) <|
  some ((rd σ 84 4), σ)
noncomputable def b_X12_feed_38 (x1 : Int64) (x3 : Int32) (x4 : Int32) (σ : St) : Option ((Int32 × St) ⊕ (Int32 × St)) :=
  if x4 < x3 then
  (chk (inb 4 466) <|
  chk (inb (240 + (rd σ 84 4)) 466) <|
  nm (wr σ 84 (240 + (rd σ 84 4)) ((((x1).toUInt64 >>> (((8 * x4) : Int32).toInt64.toUInt64 &&& Int64.toUInt64 63)).toInt64 &&& 255).toInt32)) fun σ16 =>
  nm (wr σ16 84 4 ((rd σ16 84 4) + 1)) fun σ18 =>
  some (.inl ((x4 + 1), σ18)))
  else
  ((f_X12_feed_87 σ).map .inr)
noncomputable def f_X12_feed_38 (x1 : Int64) (x3 : Int32) (x4 : Int32) (σ : St) : Option (Int32 × St) := it (fun z : Int32 × St => b_X12_feed_38 x1 x3 z.1 z.2) (x4, σ)
noncomputable def f_X12_feed (x1 : Int64) (x3 : Int32) (σ : St) : Option (Int32 × St) :=
  bd (f_X12_in x3 1 8) fun r1 =>
  if r1 = 0 then
  (bd2 (f_X12_finds 1 σ) fun r10 σ12 =>
  some (r10, σ12))
  else
  (chk (inb 4 466) <|
  if 50 < ((rd σ 84 4) + x3) then
  (bd2 (f_X12_finds 4 σ) fun r7 σ9 =>
  some (r7, σ9))
  else
  (f_X12_feed_38 x1 x3 0 σ))
noncomputable def f_X12_isIn_305 (x3 : Int32) (σ : St) : Option (Int32 × St) :=
  if x3 < 0 then
  (some (0, σ))
  else
  (some (1, σ))
noncomputable def f_X12_isIn_291 (x1 : Int32) (x2 : Int32) (x3 : Int32) (s0 : Int32) (s1 : Int32) (σ : St) : Option ((Int32 × St) ⊕ (Int32 × St)) :=
  chk (inb s1 11) <|
  nm (wr σ 96 s1 s0) fun σ44 =>
  chk (inb (x3 + 1) 11) <|
  nm (wr σ44 95 (x3 + 1) (-1)) fun σ46 =>
  some (.inl ((x3 + 1), σ46))
noncomputable def f_X12_isIn_285 (x1 : Int32) (x2 : Int32) (x3 : Int32) (s0 : Int32) (σ : St) : Option ((Int32 × St) ⊕ (Int32 × St)) :=
  chk (inb x3 11) <|
  f_X12_isIn_291 x1 x2 x3 (rd σ 96 x3) s0 σ
noncomputable def f_X12_isIn_251 (x1 : Int32) (x2 : Int32) (x3 : Int32) (x4 : Int32) (x5 : Int32) (σ : St) : Option ((Int32 × St) ⊕ (Int32 × St)) :=
  if x5 = 0 then
  (f_X12_isIn_285 x1 x2 x3 (x3 + 1) σ)
  else
  (chk (inb x3 11) <|
  if x4 = (rd σ 96 x3) then
  (f_X12_isIn_291 x1 x2 x3 ((rd σ 96 x3) + 1) (x3 + 1) σ)
  else
  (f_X12_isIn_285 x1 x2 x3 (x3 + 1) σ))
noncomputable def f_X12_isIn_232 (x1 : Int32) (x2 : Int32) (x3 : Int32) (x4 : Int32) (x5 : Int32) (s0 : Int32) (s1 : Int32) (σ : St) : Option ((Int32 × St) ⊕ (Int32 × St)) :=
  chk (inb s1 11) <|
  nm (wr σ 95 s1 s0) fun σ35 =>
  if x5 = 0 then
  (f_X12_isIn_251 x1 x2 x3 x4 x5 σ35)
  else
  (chk (inb x4 10) <|
  nm (wr σ35 97 x4 ((rd σ35 97 x4) ||| ((1 : Int32) <<< (x3 &&& 31)))) fun σ39 =>
  f_X12_isIn_251 x1 x2 x3 x4 x5 σ39)
noncomputable def f_X12_isIn_202 (x1 : Int32) (x2 : Int32) (x3 : Int32) (x4 : Int32) (x5 : Int32) (s0 : Int32) (σ : St) : Option ((Int32 × St) ⊕ (Int32 × St)) :=
  if s0 = 0 then
  (some (.inl ((x3 + (-1)), σ)))
  else
  (if x5 = 0 then
  (f_X12_isIn_232 x1 x2 x3 x4 x5 (-2) x3 σ)
  else
  (f_X12_isIn_232 x1 x2 x3 x4 x5 x4 x3 σ))
noncomputable def f_X12_isIn_167 (x1 : Int32) (x2 : Int32) (x3 : Int32) (x4 : Int32) (x5 : Int32) (x6 : Int32) (σ : St) : Option ((Int32 × St) ⊕ (Int32 × St)) :=
  if x5 = 0 then
  (chk (inb x3 11) <|
  if (rd σ 95 x3) = (-1) then
  (f_X12_isIn_202 x1 x2 x3 x4 x5 1 σ)
  else
  (f_X12_isIn_202 x1 x2 x3 x4 x5 0 σ))
  else
  (if x6 < x4 then
  (f_X12_isIn_202 x1 x2 x3 x4 x5 0 σ)
  else
  (f_X12_isIn_202 x1 x2 x3 x4 x5 1 σ))
noncomputable def b_X12_isIn_132 (x1 : Int32) (x2 : Int32) (x3 : Int32) (x4 : Int32) (x5 : Int32) (x6 : Int32) (σ : St) : Option ((Int32) ⊕ ((Int32 × St) ⊕ (Int32 × St))) :=
  if x5 = 0 then
  ((f_X12_isIn_167 x1 x2 x3 x4 x5 x6 σ).map .inr)
  else
  (if x6 < x4 then
  ((f_X12_isIn_167 x1 x2 x3 x4 x5 x6 σ).map .inr)
  else
  (chk (inb x4 10) <|
  chk (inb x3 10) <|
  if ((rd σ 97 x4) &&& (rd σ 87 x3)) = 0 then
  ((f_X12_isIn_167 x1 x2 x3 x4 x5 x6 σ).map .inr)
  else
  (some (.inl (x4 + 1)))))
noncomputable def f_X12_isIn_132 (x1 : Int32) (x2 : Int32) (x3 : Int32) (x4 : Int32) (x5 : Int32) (x6 : Int32) (σ : St) : Option ((Int32 × St) ⊕ (Int32 × St)) := it (fun z : Int32 => b_X12_isIn_132 x1 x2 x3 z x5 x6 σ) x4
noncomputable def f_X12_isIn_130 (x1 : Int32) (x2 : Int32) (x3 : Int32) (x4 : Int32) (x5 : Int32) (s0 : Int32) (σ : St) : Option ((Int32 × St) ⊕ (Int32 × St)) :=
  f_X12_isIn_132 x1 x2 x3 x4 x5 s0 σ
noncomputable def f_X12_isIn_106 (x1 : Int32) (x2 : Int32) (x3 : Int32) (x4 : Int32) (s0 : Int32) (σ : St) : Option ((Int32 × St) ⊕ (Int32 × St)) :=
  chk (inb x3 11) <|
  if (rd σ 96 x3) < x2 then
  (f_X12_isIn_130 x1 x2 x3 x4 s0 (rd σ 96 x3) σ)
  else
  (f_X12_isIn_130 x1 x2 x3 x4 s0 (x2 - 1) σ)
noncomputable def f_X12_isIn_82 (x1 : Int32) (x2 : Int32) (x3 : Int32) (σ : St) : Option ((Int32 × St) ⊕ (Int32 × St)) :=
  chk (inb x3 11) <|
  if ((x1 >>> (x3 &&& 31)) &&& 1) = 1 then
  (f_X12_isIn_106 x1 x2 x3 ((rd σ 95 x3) + 1) 1 σ)
  else
  (f_X12_isIn_106 x1 x2 x3 ((rd σ 95 x3) + 1) 0 σ)
noncomputable def b_X12_isIn_40 (x1 : Int32) (x2 : Int32) (x3 : Int32) (σ : St) : Option ((Int32 × St) ⊕ (Int32 × St)) :=
  if x3 < 0 then
  ((f_X12_isIn_305 x3 σ).map .inr)
  else
  (chk (inb 1 466) <|
  if x3 < (rd σ 84 1) then
  (chk (inb x3 11) <|
  if (rd σ 95 x3) < 0 then
  (f_X12_isIn_82 x1 x2 x3 σ)
  else
  (chk (inb (rd σ 95 x3) 10) <|
  nm (wr σ 97 (rd σ 95 x3) ((rd σ 97 (rd σ 95 x3)) &&& (((1 : Int32) <<< (x3 &&& 31)) ^^^ (-1)))) fun σ16 =>
  f_X12_isIn_82 x1 x2 x3 σ16))
  else
  ((f_X12_isIn_305 x3 σ).map .inr))
noncomputable def f_X12_isIn_40 (x1 : Int32) (x2 : Int32) (x3 : Int32) (σ : St) : Option (Int32 × St) := it (fun z : Int32 × St => b_X12_isIn_40 x1 x2 z.1 z.2) (x3, σ)
noncomputable def f_X12_isIn_26 (x1 : Int32) (x2 : Int32) (x3 : Int32) (σ : St) : Option (Int32 × St) :=
  chk (inb 0 11) <|
  nm (wr σ 95 0 (-1)) fun σ5 =>
  nm (wr σ5 96 0 0) fun σ7 =>
  f_X12_isIn_40 x1 x2 x3 σ7
noncomputable def b_X12_isIn_5 (x1 : Int32) (x2 : Int32) (x3 : Int32) (x4 : Int32) (σ : St) : Option ((Int32 × St) ⊕ (Int32 × St)) :=
  if x4 < 10 then
  (chk (inb x4 10) <|
  nm (wr σ 97 x4 0) fun σ3 =>
  some (.inl ((x4 + 1), σ3)))
  else
  ((f_X12_isIn_26 x1 x2 x3 σ).map .inr)
noncomputable def f_X12_isIn_5 (x1 : Int32) (x2 : Int32) (x3 : Int32) (x4 : Int32) (σ : St) : Option (Int32 × St) := it (fun z : Int32 × St => b_X12_isIn_5 x1 x2 x3 z.1 z.2) (x4, σ)
noncomputable def f_X12_isIn (x1 : Int32) (x2 : Int32) (σ : St) : Option (Int32 × St) :=
  f_X12_isIn_5 x1 x2 0 0 σ
noncomputable def b_X12_fewestOf_6 (x1 : Int32) (x2 : Int32) (σ : St) : Option ((Int32 × St) ⊕ (Int32 × St)) :=
  bd2 (f_X12_isIn x1 x2 σ) fun r4 σ6 =>
  if r4 = 0 then
  (some (.inl ((x2 + 1), σ6)))
  else
  (some (.inr ((x2, σ6))))
noncomputable def f_X12_fewestOf_6 (x1 : Int32) (x2 : Int32) (σ : St) : Option (Int32 × St) := it (fun z : Int32 × St => b_X12_fewestOf_6 x1 z.1 z.2) (x2, σ)
noncomputable def f_X12_fewestOf (x1 : Int32) (σ : St) : Option (Int32 × St) :=
  bd (f_X12_lay σ) fun σ3 =>
  f_X12_fewestOf_6 x1 0 σ3
noncomputable def f_X12_fewest (σ : St) : Option (Int32 × St) :=
  bd (f_X12_allParts σ) fun r1 =>
  bd2 (f_X12_fewestOf r1 σ) fun r4 σ6 =>
  some (r4, σ6)
noncomputable def f_X12_group (x1 : Int32) (σ : St) : Option (Int32 × St) :=
  bd (f_X12_isPart x1 σ) fun r1 =>
  if r1 = 0 then
  (bd2 (f_X12_finds 1 σ) fun r12 σ14 =>
  some (r12, σ14))
  else
  (bd (f_X12_allParts σ) fun r5 =>
  bd2 (f_X12_fewestOf r5 σ) fun r8 σ10 =>
  chk (inb x1 11) <|
  some ((rd σ10 95 x1), σ10))
noncomputable def f_X12_hasOpen_32 (x2 : Int32) (s0 : Int32) (σ : St) : Option ((Int32 × Int32) ⊕ (Int32)) :=
  some (.inl (s0, (x2 + 1)))
noncomputable def f_X12_hasOpen_27 (x2 : Int32) (σ : St) : Option ((Int32 × Int32) ⊕ (Int32)) :=
  f_X12_hasOpen_32 x2 1 σ
noncomputable def b_X12_hasOpen_4 (x1 : Int32) (x2 : Int32) (σ : St) : Option ((Int32 × Int32) ⊕ (Int32)) :=
  if x2 < (fd σ 6 12) then
  (if x1 = 0 then
  (chk (inb x2 52) <|
  if (rd σ 92 x2) = 40 then
  (f_X12_hasOpen_27 x2 σ)
  else
  (f_X12_hasOpen_32 x2 0 σ))
  else
  (f_X12_hasOpen_27 x2 σ))
  else
  (chk (isB x1) <|
  some (.inr (x1)))
noncomputable def f_X12_hasOpen_4 (x1 : Int32) (x2 : Int32) (σ : St) : Option (Int32) := it (fun z : Int32 × Int32 => b_X12_hasOpen_4 z.1 z.2 σ) (x1, x2)
noncomputable def f_X12_hasOpen (σ : St) : Option (Int32) :=
  f_X12_hasOpen_4 0 0 σ
noncomputable def f_X12_whyNot (x1 : Int32) (x2 : Int32) (σ : St) : Option (Int32) :=
  bd (f_X12_isEntry x1 σ) fun r1 =>
  if r1 = 0 then
  (some 1)
  else
  (bd (f_X12_entryOf x1 1 σ) fun r5 =>
  bd (f_X12_entryOf x1 2 σ) fun r8 =>
  if (lg_cmp (r5.toInt64 + x2.toInt64) 0) < 0 then
  (some 1)
  else
  (chk (inb 0 466) <|
  if (lg_cmp (r8.toInt64 + x2.toInt64) ((rd σ 84 0).toInt64)) < 0 then
  (bd (f_X12_entryOf x1 0 σ) fun r14 =>
  bd (f_X12_isOn r14 ((r5.toInt64 + x2.toInt64).toInt32) ((r8.toInt64 + x2.toInt64).toInt32) x1 σ) fun r17 =>
  if r17 = 0 then
  (some 0)
  else
  (some 3))
  else
  (some 1)))
noncomputable def f_X12_moves (x1 : Int32) (x2 : Int32) (σ : St) : Option (St) :=
  chk (inb ((60 + (4 * x1)) + 1) 466) <|
  nm (wr σ 84 ((60 + (4 * x1)) + 1) ((rd σ 84 ((60 + (4 * x1)) + 1)) + x2)) fun σ2 =>
  chk (inb ((60 + (4 * x1)) + 2) 466) <|
  nm (wr σ2 84 ((60 + (4 * x1)) + 2) ((rd σ2 84 ((60 + (4 * x1)) + 2)) + x2)) fun σ4 =>
  nm (fw σ4 6 4 0) fun σ5 =>
  some σ5
noncomputable def f_X12_helps (x1 : Int32) (x2 : Int32) (σ : St) : Option (Int32 × St) :=
  bd (f_X12_whyNot x1 x2 σ) fun r1 =>
  if r1 = 0 then
  (bd (f_X12_moves x1 x2 σ) fun σ7 =>
  bd (f_X12_allParts σ7) fun r8 =>
  bd2 (f_X12_fewestOf r8 σ7) fun r11 σ13 =>
  bd (f_X12_moves x1 (-x2) σ13) fun σ16 =>
  some (r11, σ16))
  else
  (bd2 (f_X12_finds r1 σ) fun r17 σ19 =>
  some (r17, σ19))
noncomputable def f_X12_image_27 (σ : St) : Option (Int32 × St) :=
  nm (fw σ 6 2 ((fd σ 6 2) + 1)) fun σ5 =>
  some ((fd σ5 6 2), σ5)
noncomputable def b_X12_image_2 (x1 : Int32) (σ : St) : Option ((Int32 × St) ⊕ (Int32 × St)) :=
  if x1 < 466 then
  (chk (inb x1 466) <|
  nm (wr σ 85 x1 (rd σ 84 x1)) fun σ4 =>
  some (.inl ((x1 + 1), σ4)))
  else
  ((f_X12_image_27 σ).map .inr)
noncomputable def f_X12_image_2 (x1 : Int32) (σ : St) : Option (Int32 × St) := it (fun z : Int32 × St => b_X12_image_2 z.1 z.2) (x1, σ)
noncomputable def f_X12_image (σ : St) : Option (Int32 × St) :=
  f_X12_image_2 0 σ
noncomputable def f_X12_isDigit (x0 : Int32) : Option (Int32) :=
  bd (f_X12_in x0 48 57) fun r1 =>
  chk (isB r1) <|
  some r1
noncomputable def f_X12_rankOf (x0 : Int32) : Option (Int32) :=
  if x0 = 37 then
  (some 5)
  else
  (if x0 = 38 then
  (some 2)
  else
  (if x0 = 42 then
  (some 5)
  else
  (if x0 = 43 then
  (some 4)
  else
  (if x0 = 45 then
  (some 4)
  else
  (if x0 = 47 then
  (some 5)
  else
  (if x0 = 60 then
  (some 3)
  else
  (if x0 = 61 then
  (some 3)
  else
  (if x0 = 62 then
  (some 3)
  else
  (if x0 = 124 then
  (some 1)
  else
  (some 0))))))))))
noncomputable def f_X12_isTested_30 (x1 : Int32) (σ : St) : Option (Int32) :=
  if x1 < 0 then
  (some 0)
  else
  (chk (inb x1 52) <|
  bd (f_X12_rankOf (rd σ 92 x1)) fun r11 =>
  if r11 = 3 then
  (some 1)
  else
  (some 0))
noncomputable def b_X12_isTested_7 (x1 : Int32) (σ : St) : Option ((Int32) ⊕ (Int32)) :=
  if x1 < 0 then
  ((f_X12_isTested_30 x1 σ).map .inr)
  else
  (chk (inb x1 52) <|
  bd (f_X12_rankOf (rd σ 92 x1)) fun r4 =>
  if 3 < r4 then
  (some (.inl (x1 + (-1))))
  else
  ((f_X12_isTested_30 x1 σ).map .inr))
noncomputable def f_X12_isTested_7 (x1 : Int32) (σ : St) : Option (Int32) := it (fun z : Int32 => b_X12_isTested_7 z σ) x1
noncomputable def f_X12_isTested (σ : St) : Option (Int32) :=
  f_X12_isTested_7 ((fd σ 6 12) - 1) σ
noncomputable def f_X12_know_92 (x3 : Int32) (x5 : Int32) (s0 : Int32) (s1 : Int32) (σ : St) : Option (Int32 × St) :=
  chk (inb s1 466) <|
  nm (wr σ 84 s1 s0) fun σ17 =>
  if x5 = x3 then
  (some (0, σ17))
  else
  (some (1, σ17))
noncomputable def f_X12_know_53 (x2 : Int32) (x3 : Int32) (x4 : Int32) (s0 : Int32) (σ : St) : Option (Int32 × St) :=
  if x3 = 0 then
  (chk (inb x4 466) <|
  f_X12_know_92 x3 s0 ((rd σ 84 x4) &&& (((1 : Int32) <<< (x2 &&& 31)) ^^^ (-1))) x4 σ)
  else
  (chk (inb x4 466) <|
  f_X12_know_92 x3 s0 ((rd σ 84 x4) ||| ((1 : Int32) <<< (x2 &&& 31))) x4 σ)
noncomputable def f_X12_know_16 (σ : St) : Option (Int32 × St) :=
  bd2 (f_X12_finds 1 σ) fun r11 σ13 =>
  some (r11, σ13)
noncomputable def f_X12_know (x1 : Int32) (x2 : Int32) (x3 : Int32) (σ : St) : Option (Int32 × St) :=
  bd (f_X12_isPlayer x1 σ) fun r1 =>
  if r1 = 0 then
  (f_X12_know_16 σ)
  else
  (bd (f_X12_isPart x2 σ) fun r5 =>
  if r5 = 0 then
  (f_X12_know_16 σ)
  else
  (chk (inb ((220 + (3 * x1)) + 2) 466) <|
  if (((rd σ 84 ((220 + (3 * x1)) + 2)) >>> (x2 &&& 31)) &&& 1) = 1 then
  (f_X12_know_53 x2 x3 ((220 + (3 * x1)) + 2) 1 σ)
  else
  (f_X12_know_53 x2 x3 ((220 + (3 * x1)) + 2) 0 σ)))
noncomputable def f_X12_weightOf_34 (x1 : Int32) (x3 : Int32) (s0 : Int32) (s1 : Int32) (σ : St) : Option ((Int32 × Int32) ⊕ (Int32)) :=
  some (.inl ((s1 + s0), (x3 + 1)))
noncomputable def b_X12_weightOf_4 (x1 : Int32) (x2 : Int32) (x3 : Int32) (σ : St) : Option ((Int32 × Int32) ⊕ (Int32)) :=
  chk (inb 1 466) <|
  if x3 < (rd σ 84 1) then
  (if ((x1 >>> (x3 &&& 31)) &&& 1) = 1 then
  (chk (inb x3 10) <|
  f_X12_weightOf_34 x1 x3 (rd σ 103 x3) x2 σ)
  else
  (f_X12_weightOf_34 x1 x3 0 x2 σ))
  else
  (some (.inr (x2)))
noncomputable def f_X12_weightOf_4 (x1 : Int32) (x2 : Int32) (x3 : Int32) (σ : St) : Option (Int32) := it (fun z : Int32 × Int32 => b_X12_weightOf_4 x1 z.1 z.2 σ) (x2, x3)
noncomputable def f_X12_weightOf (x1 : Int32) (σ : St) : Option (Int32) :=
  f_X12_weightOf_4 x1 0 0 σ
noncomputable def f_X12_leave_147 (x2 : Int32) (x3 : Int32) (x4 : Int32) (σ : St) : Option (Int32 × St) :=
  if x2 = 0 then
  (some (x4, σ))
  else
  (some (x3, σ))
noncomputable def f_X12_leave_141 (x2 : Int32) (x3 : Int32) (x4 : Int32) (x5 : Int32) (σ : St) : Option ((Int32 × Int32 × Int32) ⊕ (Int32 × St)) :=
  some (.inl (x3, x4, (x5 + 1)))
noncomputable def f_X12_leave_134 (x2 : Int32) (x5 : Int32) (x6 : Int32) (σ : St) : Option ((Int32 × Int32 × Int32) ⊕ (Int32 × St)) :=
  f_X12_leave_141 x2 x5 x6 x5 σ
noncomputable def b_X12_leave_65 (x2 : Int32) (x3 : Int32) (x4 : Int32) (x5 : Int32) (σ : St) : Option ((Int32 × Int32 × Int32) ⊕ (Int32 × St)) :=
  bd (f_X12_allParts σ) fun r23 =>
  if r23 < x5 then
  ((f_X12_leave_147 x2 x3 x4 σ).map .inr)
  else
  (bd (f_X12_allParts σ) fun r28 =>
  chk (inb (r28 &&& (x5 ^^^ (-1))) 2048) <|
  if (lg_cmp (rdL σ (r28 &&& (x5 ^^^ (-1)))) 0) = 0 then
  (f_X12_leave_141 x2 x3 x4 x5 σ)
  else
  (bd (f_X12_weightOf x5 σ) fun r33 =>
  if x3 < 0 then
  (f_X12_leave_134 x2 x5 r33 σ)
  else
  (if r33 < x4 then
  (f_X12_leave_134 x2 x5 r33 σ)
  else
  (if r33 = x4 then
  (bd (f_X12_bits x5) fun r39 =>
  bd (f_X12_bits x3) fun r42 =>
  if r39 < r42 then
  (f_X12_leave_134 x2 x5 r33 σ)
  else
  (f_X12_leave_141 x2 x3 x4 x5 σ))
  else
  (f_X12_leave_141 x2 x3 x4 x5 σ)))))
noncomputable def f_X12_leave_65 (x2 : Int32) (x3 : Int32) (x4 : Int32) (x5 : Int32) (σ : St) : Option (Int32 × St) := it (fun z : Int32 × Int32 × Int32 => b_X12_leave_65 x2 z.1 z.2.1 z.2.2 σ) (x3, x4, x5)
noncomputable def f_X12_leave_57 (x2 : Int32) (σ : St) : Option (Int32 × St) :=
  f_X12_leave_65 x2 (-1) 0 0 σ
noncomputable def b_X12_leave_30 (x2 : Int32) (x3 : Int32) (σ : St) : Option ((Int32 × St) ⊕ (Int32 × St)) :=
  chk (inb 1 466) <|
  if x3 < (rd σ 84 1) then
  (bd (f_X12_weight x3 σ) fun r18 =>
  chk (inb x3 10) <|
  nm (wr σ 103 x3 r18) fun σ21 =>
  some (.inl ((x3 + 1), σ21)))
  else
  ((f_X12_leave_57 x2 σ).map .inr)
noncomputable def f_X12_leave_30 (x2 : Int32) (x3 : Int32) (σ : St) : Option (Int32 × St) := it (fun z : Int32 × St => b_X12_leave_30 x2 z.1 z.2) (x3, σ)
noncomputable def f_X12_leave_17 (σ : St) : Option (Int32 × St) :=
  bd2 (f_X12_finds 1 σ) fun r12 σ14 =>
  some (r12, σ14)
noncomputable def f_X12_leave (x1 : Int32) (x2 : Int32) (σ : St) : Option (Int32 × St) :=
  bd (f_X12_isTroupe x1 σ) fun r1 =>
  if r1 = 0 then
  (f_X12_leave_17 σ)
  else
  (bd (f_X12_in x2 0 1) fun r5 =>
  if r5 = 0 then
  (f_X12_leave_17 σ)
  else
  (bd (f_X12_findWays x1 σ) fun σ11 =>
  f_X12_leave_30 x2 0 σ11))
noncomputable def f_X12_lines_52 (x1 : Int32) (σ : St) : Option (Int32 × St) :=
  chk (inb 0 466) <|
  nm (wr σ 84 0 x1) fun σ20 =>
  some ((rd σ 84 0), σ20)
noncomputable def f_X12_lines_40 (σ : St) : Option (Int32 × St) :=
  bd2 (f_X12_finds 3 σ) fun r16 σ18 =>
  some (r16, σ18)
noncomputable def b_X12_lines_20 (x1 : Int32) (x2 : Int32) (σ : St) : Option ((Int32) ⊕ (Int32 × St)) :=
  chk (inb 2 466) <|
  if x2 < (rd σ 84 2) then
  (bd (f_X12_entryOf x2 2 σ) fun r11 =>
  if r11 < x1 then
  (some (.inl (x2 + 1)))
  else
  ((f_X12_lines_40 σ).map .inr))
  else
  ((f_X12_lines_52 x1 σ).map .inr)
noncomputable def f_X12_lines_20 (x1 : Int32) (x2 : Int32) (σ : St) : Option (Int32 × St) := it (fun z : Int32 => b_X12_lines_20 x1 z σ) x2
noncomputable def f_X12_lines (x1 : Int32) (σ : St) : Option (Int32 × St) :=
  bd (f_X12_in x1 10 200) fun r1 =>
  if r1 = 0 then
  (bd2 (f_X12_finds 1 σ) fun r5 σ7 =>
  some (r5, σ7))
  else
  (f_X12_lines_20 x1 0 σ)
noncomputable def b_X12_move_152 (x3 : Int32) (x4 : Int32) (x5 : Int32) (x6 : Int32) (σ : St) : Option ((Int32 × St) ⊕ (Int32 × St)) :=
  if x6 < x5 then
  (chk (inb x6 24) <|
  chk (inb (((24 * x3) + x4) + x6) 96) <|
  nm (wr σ 108 (((24 * x3) + x4) + x6) (rd σ 109 x6)) fun σ38 =>
  some (.inl ((x6 + 1), σ38)))
  else
  (some (.inr ((x5, σ))))
noncomputable def f_X12_move_152 (x3 : Int32) (x4 : Int32) (x5 : Int32) (x6 : Int32) (σ : St) : Option (Int32 × St) := it (fun z : Int32 × St => b_X12_move_152 x3 x4 x5 z.1 z.2) (x6, σ)
noncomputable def f_X12_move_149 (x3 : Int32) (x4 : Int32) (x5 : Int32) (σ : St) : Option (Int32 × St) :=
  f_X12_move_152 x3 x4 x5 0 σ
noncomputable def b_X12_move_115 (x1 : Int32) (x2 : Int32) (x3 : Int32) (x4 : Int32) (x5 : Int32) (x6 : Int32) (σ : St) : Option ((Int32 × St) ⊕ (Int32 × St)) :=
  if x6 < x5 then
  (chk (inb (((24 * x1) + x2) + x6) 96) <|
  chk (inb x6 24) <|
  nm (wr σ 109 x6 (rd σ 108 (((24 * x1) + x2) + x6))) fun σ34 =>
  some (.inl ((x6 + 1), σ34)))
  else
  ((f_X12_move_149 x3 x4 x5 σ).map .inr)
noncomputable def f_X12_move_115 (x1 : Int32) (x2 : Int32) (x3 : Int32) (x4 : Int32) (x5 : Int32) (x6 : Int32) (σ : St) : Option (Int32 × St) := it (fun z : Int32 × St => b_X12_move_115 x1 x2 x3 x4 x5 z.1 z.2) (x6, σ)
noncomputable def f_X12_move_106 (σ : St) : Option (Int32 × St) :=
  bd2 (f_X12_finds 1 σ) fun r28 σ30 =>
  some (r28, σ30)
noncomputable def f_X12_move_38 (σ : St) : Option (Int32 × St) :=
  bd2 (f_X12_finds 2 σ) fun r25 σ27 =>
  some (r25, σ27)
noncomputable def f_X12_move_14 (σ : St) : Option (Int32 × St) :=
  bd2 (f_X12_finds 1 σ) fun r22 σ24 =>
  some (r22, σ24)
noncomputable def f_X12_move (x1 : Int32) (x2 : Int32) (x3 : Int32) (x4 : Int32) (x5 : Int32) (σ : St) : Option (Int32 × St) :=
  bd (f_X12_isSheet x1) fun r1 =>
  if r1 = 0 then
  (f_X12_move_14 σ)
  else
  (bd (f_X12_isSheet x3) fun r5 =>
  if r5 = 0 then
  (f_X12_move_14 σ)
  else
  (chk (inb x1 4) <|
  if (rd σ 106 x1) = 0 then
  (f_X12_move_38 σ)
  else
  (chk (inb x3 4) <|
  if (rd σ 106 x3) = 0 then
  (f_X12_move_38 σ)
  else
  (if (rd σ 106 x1) = (rd σ 106 x3) then
  (if x5 < 0 then
  (f_X12_move_106 σ)
  else
  (if x2 < 0 then
  (f_X12_move_106 σ)
  else
  (if x4 < 0 then
  (f_X12_move_106 σ)
  else
  (if ((rd σ 107 x1) - x2) < x5 then
  (f_X12_move_106 σ)
  else
  (if ((rd σ 107 x3) - x4) < x5 then
  (f_X12_move_106 σ)
  else
  (f_X12_move_115 x1 x2 x3 x4 x5 0 σ))))))
  else
  (bd2 (f_X12_finds 5 σ) fun r19 σ21 =>
  some (r19, σ21))))))
noncomputable def f_X12_ofThree (x0 : Int32) (x1 : Int32) (x2 : Int32) (x3 : Int32) (x4 : Int32) : Option (Int32) :=
  if x0 = x1 then
  (some x4)
  else
  (if x0 = x2 then
  (some (x4 + 1))
  else
  (if x0 = x3 then
  (some (x4 + 2))
  else
  (some (-1))))
noncomputable def f_X12_nameOf_75 (s0 : Int32) : Option (Int32) :=
  some s0
noncomputable def f_X12_nameOf_71 (s0 : Int32) (s1 : Int32) (s2 : Int32) (s3 : Int32) : Option (Int32) :=
  bd (f_X12_ofThree s3 s2 s1 s0 3) fun r14 =>
  f_X12_nameOf_75 r14
noncomputable def f_X12_nameOf_30 (x0 : Int32) (x1 : Int32) (s0 : Int32) : Option (Int32) :=
  if s0 < 0 then
  (if x0 = 1 then
  (bd (f_X12_ofThree x1 113 115 (-2) 3) fun r11 =>
  f_X12_nameOf_75 r11)
  else
  (if x0 = 2 then
  (f_X12_nameOf_71 108 107 121 x1)
  else
  (f_X12_nameOf_71 (-2) 107 121 x1)))
  else
  (some s0)
noncomputable def f_X12_nameOf (x0 : Int32) (x1 : Int32) : Option (Int32) :=
  if x0 = 1 then
  (bd (f_X12_ofThree x1 119 118 107 0) fun r5 =>
  f_X12_nameOf_30 x0 x1 r5)
  else
  (bd (f_X12_ofThree x1 103 97 110 0) fun r2 =>
  f_X12_nameOf_30 x0 x1 r2)
noncomputable def f_X12_never_161 (x3 : Int32) (x4 : Int32) (x5 : Int32) (x6 : Int32) (σ : St) : Option (Int32 × St) :=
  if x6 = 0 then
  (bd2 (f_X12_finds 2 σ) fun r46 σ48 =>
  some (r46, σ48))
  else
  (if x3 = 0 then
  (bd (f_X12_allParts σ) fun r43 =>
  some ((r43 &&& (x4 ^^^ (-1))), σ))
  else
  (some (x5, σ)))
noncomputable def f_X12_never_155 (x3 : Int32) (x4 : Int32) (x5 : Int32) (x6 : Int32) (x7 : Int32) (x8 : Int32) (σ : St) : Option ((Int32 × Int32 × Int32 × Int32) ⊕ (Int32 × St)) :=
  some (.inl (x4, x5, x6, (x8 + 1)))
noncomputable def f_X12_never_116 (x3 : Int32) (x4 : Int32) (x5 : Int32) (x6 : Int32) (x7 : Int32) (x8 : Int32) (σ : St) : Option ((Int32 × Int32 × Int32 × Int32) ⊕ (Int32 × St)) :=
  bd (f_X12_allParts σ) fun r36 =>
  chk (inb (r36 &&& (x8 ^^^ (-1))) 2048) <|
  if (lg_cmp (rdL σ (r36 &&& (x8 ^^^ (-1)))) 0) = 0 then
  (f_X12_never_155 x3 x4 x5 x6 x7 x8 σ)
  else
  (f_X12_never_155 x3 (x4 ||| x8) (x5 &&& x8) 1 x7 x8 σ)
noncomputable def f_X12_never_98 (x3 : Int32) (x4 : Int32) (x5 : Int32) (x6 : Int32) (x7 : Int32) (x8 : Int32) (s0 : Int32) (s1 : Int32) (σ : St) : Option ((Int32 × Int32 × Int32 × Int32) ⊕ (Int32 × St)) :=
  if s0 < s1 then
  ((f_X12_never_161 x3 x4 x5 x6 σ).map .inr)
  else
  (if 0 < x8 then
  (chk (inb x8 1024) <|
  if (rd σ 98 x8) = 0 then
  (f_X12_never_155 x3 x4 x5 x6 x7 x8 σ)
  else
  (f_X12_never_116 x3 x4 x5 x6 x7 x8 σ))
  else
  (f_X12_never_116 x3 x4 x5 x6 x7 x8 σ))
noncomputable def b_X12_never_83 (x3 : Int32) (x4 : Int32) (x5 : Int32) (x6 : Int32) (x7 : Int32) (x8 : Int32) (σ : St) : Option ((Int32 × Int32 × Int32 × Int32) ⊕ (Int32 × St)) :=
  if x7 = 0 then
  (f_X12_never_98 x3 x4 x5 x6 x7 x8 0 x8 σ)
  else
  (bd (f_X12_allParts σ) fun r28 =>
  f_X12_never_98 x3 x4 x5 x6 x7 x8 r28 x8 σ)
noncomputable def f_X12_never_83 (x3 : Int32) (x4 : Int32) (x5 : Int32) (x6 : Int32) (x7 : Int32) (x8 : Int32) (σ : St) : Option (Int32 × St) := it (fun z : Int32 × Int32 × Int32 × Int32 => b_X12_never_83 x3 z.1 z.2.1 z.2.2.1 x7 z.2.2.2 σ) (x4, x5, x6, x8)
noncomputable def f_X12_never_80 (x3 : Int32) (x4 : Int32) (x5 : Int32) (x6 : Int32) (x7 : Int32) (σ : St) : Option (Int32 × St) :=
  f_X12_never_83 x3 x4 x5 x6 x7 0 σ
noncomputable def f_X12_never_68 (x2 : Int32) (x3 : Int32) (x4 : Int32) (x5 : Int32) (x6 : Int32) (s0 : Int32) (σ : St) : Option (Int32 × St) :=
  if s0 = 0 then
  (f_X12_never_80 x3 x4 x5 x6 s0 σ)
  else
  (bd (f_X12_findSets x2 σ) fun σ26 =>
  f_X12_never_80 x3 x4 x5 x6 s0 σ26)
noncomputable def f_X12_never_25 (σ : St) : Option (Int32 × St) :=
  bd2 (f_X12_finds 1 σ) fun r20 σ22 =>
  some (r20, σ22)
noncomputable def f_X12_never (x1 : Int32) (x2 : Int32) (x3 : Int32) (σ : St) : Option (Int32 × St) :=
  bd (f_X12_isTroupe x1 σ) fun r1 =>
  if r1 = 0 then
  (f_X12_never_25 σ)
  else
  (bd (f_X12_isPlayer x2 σ) fun r5 =>
  if r5 = 0 then
  (f_X12_never_25 σ)
  else
  (bd (f_X12_in x3 0 1) fun r9 =>
  if r9 = 0 then
  (f_X12_never_25 σ)
  else
  (bd (f_X12_findWays (x1 &&& (((1 : Int32) <<< (x2 &&& 31)) ^^^ (-1))) σ) fun σ15 =>
  bd (f_X12_allParts σ15) fun r16 =>
  if ((x1 >>> (x2 &&& 31)) &&& 1) = 1 then
  (f_X12_never_68 x2 x3 0 r16 0 1 σ15)
  else
  (f_X12_never_68 x2 x3 0 r16 0 0 σ15))))
noncomputable def f_X12_on (x1 : Int32) (σ : St) : Option (Int32 × St) :=
  chk (inb 0 466) <|
  bd (f_X12_in x1 0 ((rd σ 84 0) - 1)) fun r2 =>
  if r2 = 0 then
  (bd2 (f_X12_finds 1 σ) fun r6 σ8 =>
  some (r6, σ8))
  else
  (bd (f_X12_manyOn x1 1 σ) fun r9 =>
  some (r9, σ))
noncomputable def f_X12_openMany_40 (x2 : Int32) (s0 : Int32) (s1 : Int32) (σ : St) : Option ((Int32 × Int32) ⊕ (Int32)) :=
  some (.inl ((s1 + s0), (x2 + 1)))
noncomputable def f_X12_openMany_35 (x2 : Int32) (s0 : Int32) (σ : St) : Option ((Int32 × Int32) ⊕ (Int32)) :=
  f_X12_openMany_40 x2 1 s0 σ
noncomputable def b_X12_openMany_4 (x1 : Int32) (x2 : Int32) (σ : St) : Option ((Int32 × Int32) ⊕ (Int32)) :=
  if x2 < (fd σ 6 12) then
  (chk (inb x2 52) <|
  if (rd σ 92 x2) = 33 then
  (f_X12_openMany_35 x2 x1 σ)
  else
  (if (rd σ 92 x2) = 40 then
  (f_X12_openMany_35 x2 x1 σ)
  else
  (f_X12_openMany_40 x2 0 x1 σ)))
  else
  (some (.inr (x1)))
noncomputable def f_X12_openMany_4 (x1 : Int32) (x2 : Int32) (σ : St) : Option (Int32) := it (fun z : Int32 × Int32 => b_X12_openMany_4 z.1 z.2 σ) (x1, x2)
noncomputable def f_X12_openMany (σ : St) : Option (Int32) :=
  f_X12_openMany_4 0 0 σ
noncomputable def f_X12_part_20 (σ : St) : Option (Int32 × St) :=
  bd2 (f_X12_finds 1 σ) fun r26 σ28 =>
  some (r26, σ28)
noncomputable def f_X12_part (x1 : Int32) (x2 : Int32) (σ : St) : Option (Int32 × St) :=
  bd (f_X12_in x1 0 5) fun r1 =>
  if r1 = 0 then
  (f_X12_part_20 σ)
  else
  (bd (f_X12_in x2 0 9999) fun r5 =>
  if r5 = 0 then
  (f_X12_part_20 σ)
  else
  (chk (inb 1 466) <|
  if (rd σ 84 1) = 10 then
  (bd2 (f_X12_finds 4 σ) fun r23 σ25 =>
  some (r23, σ25))
  else
  (chk (inb (10 + (5 * (rd σ 84 1))) 466) <|
  nm (wr σ 84 (10 + (5 * (rd σ 84 1))) x1) fun σ11 =>
  chk (inb ((10 + (5 * (rd σ 84 1))) + 1) 466) <|
  nm (wr σ11 84 ((10 + (5 * (rd σ 84 1))) + 1) (x2 / 1000)) fun σ13 =>
  chk (inb ((10 + (5 * (rd σ 84 1))) + 2) 466) <|
  nm (wr σ13 84 ((10 + (5 * (rd σ 84 1))) + 2) ((x2 / 10) - ((x2 / 10) / 100) * 100)) fun σ15 =>
  chk (inb ((10 + (5 * (rd σ 84 1))) + 3) 466) <|
  nm (wr σ15 84 ((10 + (5 * (rd σ 84 1))) + 3) (x2 - (x2 / 10) * 10)) fun σ17 =>
  chk (inb ((10 + (5 * (rd σ 84 1))) + 4) 466) <|
  nm (wr σ17 84 ((10 + (5 * (rd σ 84 1))) + 4) (-1)) fun σ19 =>
  nm (wr σ19 84 1 ((rd σ19 84 1) + 1)) fun σ21 =>
  nm (fw σ21 6 4 0) fun σ22 =>
  some (((rd σ22 84 1) - 1), σ22))))
noncomputable def f_X12_partIs_17 (σ : St) : Option (Int32 × St) :=
  bd2 (f_X12_finds 1 σ) fun r20 σ22 =>
  some (r20, σ22)
noncomputable def f_X12_partIs (x1 : Int32) (x2 : Int32) (σ : St) : Option (Int32 × St) :=
  bd (f_X12_isPart x1 σ) fun r1 =>
  if r1 = 0 then
  (f_X12_partIs_17 σ)
  else
  (bd (f_X12_in x2 0 5) fun r5 =>
  if r5 = 0 then
  (f_X12_partIs_17 σ)
  else
  (if x2 < 4 then
  (bd (f_X12_its x1 x2 σ) fun r17 =>
  some (r17, σ))
  else
  (if x2 = 4 then
  (bd (f_X12_weight x1 σ) fun r14 =>
  some (r14, σ))
  else
  (bd (f_X12_entriesOf x1 σ) fun r11 =>
  some (r11, σ)))))
noncomputable def f_X12_player_20 (σ : St) : Option (Int32 × St) :=
  bd2 (f_X12_finds 1 σ) fun r21 σ23 =>
  some (r21, σ23)
noncomputable def f_X12_player (x1 : Int32) (x2 : Int32) (σ : St) : Option (Int32 × St) :=
  bd (f_X12_in x1 0 9) fun r1 =>
  if r1 = 0 then
  (f_X12_player_20 σ)
  else
  (bd (f_X12_in x2 0 99) fun r5 =>
  if r5 = 0 then
  (f_X12_player_20 σ)
  else
  (chk (inb 3 466) <|
  if (rd σ 84 3) = 6 then
  (bd2 (f_X12_finds 4 σ) fun r18 σ20 =>
  some (r18, σ20))
  else
  (chk (inb (220 + (3 * (rd σ 84 3))) 466) <|
  nm (wr σ 84 (220 + (3 * (rd σ 84 3))) x1) fun σ11 =>
  chk (inb ((220 + (3 * (rd σ 84 3))) + 1) 466) <|
  nm (wr σ11 84 ((220 + (3 * (rd σ 84 3))) + 1) x2) fun σ13 =>
  chk (inb ((220 + (3 * (rd σ 84 3))) + 2) 466) <|
  nm (wr σ13 84 ((220 + (3 * (rd σ 84 3))) + 2) 0) fun σ15 =>
  nm (wr σ15 84 3 ((rd σ15 84 3) + 1)) fun σ17 =>
  some (((rd σ17 84 3) - 1), σ17))))
noncomputable def f_X12_put_93 (s0 : Int32) (s1 : Int32) (σ : St) : Option (Int32 × St) :=
  chk (inb s1 96) <|
  nm (wr σ 108 s1 s0) fun σ22 =>
  some (1, σ22)
noncomputable def f_X12_put (x1 : Int32) (x2 : Int32) (x3 : Int32) (σ : St) : Option (Int32 × St) :=
  bd (f_X12_isSheet x1) fun r1 =>
  if r1 = 0 then
  (bd2 (f_X12_finds 1 σ) fun r19 σ21 =>
  some (r19, σ21))
  else
  (chk (inb x1 4) <|
  if (rd σ 106 x1) = 0 then
  (bd2 (f_X12_finds 2 σ) fun r16 σ18 =>
  some (r16, σ18))
  else
  (bd (f_X12_in x2 0 ((rd σ 107 x1) - 1)) fun r7 =>
  if r7 = 0 then
  (bd2 (f_X12_finds 1 σ) fun r13 σ15 =>
  some (r13, σ15))
  else
  (if (rd σ 106 x1) = 8 then
  (f_X12_put_93 x3.toInt8.toInt32 ((24 * x1) + x2) σ)
  else
  (if (rd σ 106 x1) = 16 then
  (f_X12_put_93 x3.toInt16.toInt32 ((24 * x1) + x2) σ)
  else
  (f_X12_put_93 x3 ((24 * x1) + x2) σ)))))
noncomputable def f_X12_readsOne_185 (x4 : Int32) (σ : St) : Option (Int32 × St) :=
  bd (f_X12_lays x4 σ) fun σ47 =>
  some (1, σ47)
noncomputable def b_X12_readsOne_128 (x4 : Int32) (x5 : Int32) (σ : St) : Option ((Int32 × St) ⊕ (Int32 × St)) :=
  bd (f_X12_byteAt (fd σ 6 13) σ) fun r31 =>
  bd (f_X12_isDigit r31) fun r34 =>
  if r34 = 0 then
  ((f_X12_readsOne_185 x4 σ).map .inr)
  else
  (if ((fd σ 6 13) - x5) < 4 then
  (bd (f_X12_byteAt (fd σ 6 13) σ) fun r41 =>
  nm (fw σ 6 13 ((fd σ 6 13) + 1)) fun σ44 =>
  some (.inl ((((10 * x4) + r41) - 48), σ44)))
  else
  ((f_X12_readsOne_185 x4 σ).map .inr))
noncomputable def f_X12_readsOne_128 (x4 : Int32) (x5 : Int32) (σ : St) : Option (Int32 × St) := it (fun z : Int32 × St => b_X12_readsOne_128 z.1 x5 z.2) (x4, σ)
noncomputable def f_X12_readsOne_86 (x2 : Int32) (s0 : Int32) (σ : St) : Option (Int32 × St) :=
  if s0 < 0 then
  (bd (f_X12_isDigit x2) fun r23 =>
  if r23 = 0 then
  (some (0, σ))
  else
  (f_X12_readsOne_128 0 (fd σ 6 13) σ))
  else
  (bd (f_X12_lays ((-1) - s0) σ) fun σ29 =>
  nm (fw σ29 6 13 ((fd σ29 6 13) + 1)) fun σ30 =>
  some (1, σ30))
noncomputable def f_X12_readsOne_73 (x1 : Int32) (x2 : Int32) (σ : St) : Option (Int32 × St) :=
  if x2 < 0 then
  (f_X12_readsOne_86 x2 (-1) σ)
  else
  (bd (f_X12_nameOf x1 x2) fun r19 =>
  f_X12_readsOne_86 x2 r19 σ)
noncomputable def f_X12_readsOne_21 (x1 : Int32) (x2 : Int32) (σ : St) : Option ((Int32 × St) ⊕ (Int32 × St)) :=
  bd (f_X12_openMany σ) fun r7 =>
  if r7 = 5 then
  (some (.inr ((0, σ))))
  else
  (chk (inb (fd σ 6 12) 52) <|
  nm (wr σ 92 (fd σ 6 12) x2) fun σ11 =>
  nm (fw σ11 6 12 ((fd σ11 6 12) + 1)) fun σ13 =>
  nm (fw σ13 6 13 ((fd σ13 6 13) + 1)) fun σ14 =>
  bd (f_X12_byteAt (fd σ14 6 13) σ14) fun r15 =>
  some (.inl (r15, σ14)))
noncomputable def b_X12_readsOne_9 (x1 : Int32) (x2 : Int32) (σ : St) : Option ((Int32 × St) ⊕ (Int32 × St)) :=
  if x2 = 33 then
  (f_X12_readsOne_21 x1 x2 σ)
  else
  (if x2 = 40 then
  (f_X12_readsOne_21 x1 x2 σ)
  else
  ((f_X12_readsOne_73 x1 x2 σ).map .inr))
noncomputable def f_X12_readsOne_9 (x1 : Int32) (x2 : Int32) (σ : St) : Option (Int32 × St) := it (fun z : Int32 × St => b_X12_readsOne_9 x1 z.1 z.2) (x2, σ)
noncomputable def f_X12_readsOne (x1 : Int32) (σ : St) : Option (Int32 × St) :=
  bd (f_X12_byteAt (fd σ 6 13) σ) fun r1 =>
  f_X12_readsOne_9 x1 r1 σ
noncomputable def b_X12_settles_0 (x1 : Int32) (σ : St) : Option ((St) ⊕ (St)) :=
  if 0 < (fd σ 6 12) then
  (chk (inb ((fd σ 6 12) - 1) 52) <|
  bd (f_X12_rankOf (rd σ 92 ((fd σ 6 12) - 1))) fun r14 =>
  if r14 < x1 then
  (some (.inr (σ)))
  else
  (nm (fw σ 6 12 ((fd σ 6 12) - 1)) fun σ18 =>
  chk (inb (fd σ18 6 12) 52) <|
  bd (f_X12_lays ((-100) - (rd σ18 92 (fd σ18 6 12))) σ18) fun σ22 =>
  some (.inl σ22)))
  else
  (some (.inr (σ)))
noncomputable def f_X12_settles_0 (x1 : Int32) (σ : St) : Option (St) := it (fun z : St => b_X12_settles_0 x1 z) σ
noncomputable def f_X12_settles (x1 : Int32) (σ : St) : Option (St) :=
  if 0 < (fd σ 6 12) then
  (chk (inb ((fd σ 6 12) - 1) 52) <|
  bd (f_X12_rankOf (rd σ 92 ((fd σ 6 12) - 1))) fun r3 =>
  if r3 < x1 then
  (some σ)
  else
  (nm (fw σ 6 12 ((fd σ 6 12) - 1)) fun σ7 =>
  chk (inb (fd σ7 6 12) 52) <|
  bd (f_X12_lays ((-100) - (rd σ7 92 (fd σ7 6 12))) σ7) fun σ11 =>
  f_X12_settles_0 x1 σ11))
  else
  (some σ)
noncomputable def f_X12_reads_142 (x1 : Int32) (x2 : Int32) (x3 : Int32) (σ : St) : Option ((St) ⊕ (Int32 × St)) :=
  bd (f_X12_settles x3 σ) fun σ46 =>
  chk (inb (fd σ46 6 12) 52) <|
  nm (wr σ46 92 (fd σ46 6 12) x2) fun σ47 =>
  nm (fw σ47 6 12 ((fd σ47 6 12) + 1)) fun σ49 =>
  nm (fw σ49 6 13 ((fd σ49 6 13) + 1)) fun σ50 =>
  some (.inl σ50)
noncomputable def f_X12_reads_94 (σ : St) : Option (Int32 × St) :=
  bd (f_X12_hasOpen σ) fun r51 =>
  if r51 = 0 then
  (bd (f_X12_settles 1 σ) fun σ57 =>
  some (1, σ57))
  else
  (some (0, σ))
noncomputable def f_X12_reads_81 (x1 : Int32) (σ : St) : Option ((St) ⊕ (Int32 × St)) :=
  chk (inb 4 466) <|
  if (fd σ 6 13) = (rd σ 84 4) then
  ((f_X12_reads_94 σ).map .inr)
  else
  (bd (f_X12_byteAt (fd σ 6 13) σ) fun r31 =>
  bd (f_X12_rankOf r31) fun r34 =>
  if r34 = 0 then
  (some (.inr ((0, σ))))
  else
  (if r34 = 3 then
  (bd (f_X12_isTested σ) fun r39 =>
  if r39 = 0 then
  (f_X12_reads_142 x1 r31 r34 σ)
  else
  (some (.inr ((0, σ)))))
  else
  (f_X12_reads_142 x1 r31 r34 σ)))
noncomputable def b_X12_reads_29 (x1 : Int32) (σ : St) : Option ((St) ⊕ ((St) ⊕ (Int32 × St))) :=
  bd (f_X12_byteAt (fd σ 6 13) σ) fun r11 =>
  if r11 = 41 then
  (bd (f_X12_hasOpen σ) fun r16 =>
  if r16 = 0 then
  ((f_X12_reads_81 x1 σ).map .inr)
  else
  (bd (f_X12_settles 1 σ) fun σ23 =>
  nm (fw σ23 6 12 ((fd σ23 6 12) - 1)) fun σ24 =>
  nm (fw σ24 6 13 ((fd σ24 6 13) + 1)) fun σ25 =>
  bd (f_X12_denies σ25) fun σ28 =>
  some (.inl σ28)))
  else
  ((f_X12_reads_81 x1 σ).map .inr)
noncomputable def f_X12_reads_29 (x1 : Int32) (σ : St) : Option ((St) ⊕ (Int32 × St)) := it (fun z : St => b_X12_reads_29 x1 z) σ
noncomputable def b_X12_reads_15 (x1 : Int32) (σ : St) : Option ((St) ⊕ (Int32 × St)) :=
  bd2 (f_X12_readsOne x1 σ) fun r4 σ6 =>
  if r4 = 0 then
  (some (.inr ((0, σ6))))
  else
  (bd (f_X12_denies σ6) fun σ10 =>
  f_X12_reads_29 x1 σ10)
noncomputable def f_X12_reads_15 (x1 : Int32) (σ : St) : Option (Int32 × St) := it (fun z : St => b_X12_reads_15 x1 z) σ
noncomputable def f_X12_reads (x1 : Int32) (σ : St) : Option (Int32 × St) :=
  nm (fw σ 6 10 0) fun σ1 =>
  nm (fw σ1 6 12 0) fun σ2 =>
  nm (fw σ2 6 13 0) fun σ3 =>
  f_X12_reads_15 x1 σ3
noncomputable def f_X12_restore_40 (σ : St) : Option (Int32 × St) :=
  nm (fw σ 6 4 0) fun σ9 =>
  chk (inb 1 466) <|
  some ((rd σ9 84 1), σ9)
noncomputable def b_X12_restore_15 (x1 : Int32) (σ : St) : Option ((Int32 × St) ⊕ (Int32 × St)) :=
  if x1 < 466 then
  (chk (inb x1 466) <|
  nm (wr σ 84 x1 (rd σ 85 x1)) fun σ8 =>
  some (.inl ((x1 + 1), σ8)))
  else
  ((f_X12_restore_40 σ).map .inr)
noncomputable def f_X12_restore_15 (x1 : Int32) (σ : St) : Option (Int32 × St) := it (fun z : Int32 × St => b_X12_restore_15 z.1 z.2) (x1, σ)
noncomputable def f_X12_restore (σ : St) : Option (Int32 × St) :=
  if (fd σ 6 2) = 0 then
  (bd2 (f_X12_finds 2 σ) fun r2 σ4 =>
  some (r2, σ4))
  else
  (f_X12_restore_15 0 σ)
noncomputable def b_X12_sheet_90 (x1 : Int32) (x4 : Int32) (σ : St) : Option ((Int32 × St) ⊕ (Int32 × St)) :=
  if x4 < 24 then
  (chk (inb ((24 * x1) + x4) 96) <|
  nm (wr σ 108 ((24 * x1) + x4) 0) fun σ28 =>
  some (.inl ((x4 + 1), σ28)))
  else
  (some (.inr ((1, σ))))
noncomputable def f_X12_sheet_90 (x1 : Int32) (x4 : Int32) (σ : St) : Option (Int32 × St) := it (fun z : Int32 × St => b_X12_sheet_90 x1 z.1 z.2) (x4, σ)
noncomputable def f_X12_sheet_86 (x1 : Int32) (s0 : Int32) (s1 : Int32) (σ : St) : Option (Int32 × St) :=
  chk (inb s1 4) <|
  nm (wr σ 107 s1 s0) fun σ25 =>
  f_X12_sheet_90 x1 0 σ25
noncomputable def f_X12_sheet_65 (x1 : Int32) (x2 : Int32) (x3 : Int32) (σ : St) : Option (Int32 × St) :=
  chk (inb x1 4) <|
  nm (wr σ 106 x1 x2) fun σ22 =>
  if x2 = 0 then
  (f_X12_sheet_86 x1 0 x1 σ22)
  else
  (f_X12_sheet_86 x1 x3 x1 σ22)
noncomputable def f_X12_sheet_49 (x1 : Int32) (x2 : Int32) (x3 : Int32) (σ : St) : Option (Int32 × St) :=
  if x2 = 0 then
  (f_X12_sheet_65 x1 x2 x3 σ)
  else
  (if 24 < x3 then
  (bd2 (f_X12_finds 1 σ) fun r19 σ21 =>
  some (r19, σ21))
  else
  (f_X12_sheet_65 x1 x2 x3 σ))
noncomputable def f_X12_sheet_35 (x1 : Int32) (x2 : Int32) (x3 : Int32) (σ : St) : Option (Int32 × St) :=
  if x2 = 0 then
  (f_X12_sheet_49 x1 x2 x3 σ)
  else
  (if x3 < 0 then
  (bd2 (f_X12_finds 3 σ) fun r14 σ16 =>
  some (r14, σ16))
  else
  (f_X12_sheet_49 x1 x2 x3 σ))
noncomputable def f_X12_sheet_29 (σ : St) : Option (Int32 × St) :=
  bd2 (f_X12_finds 1 σ) fun r9 σ11 =>
  some (r9, σ11)
noncomputable def f_X12_sheet (x1 : Int32) (x2 : Int32) (x3 : Int32) (σ : St) : Option (Int32 × St) :=
  bd (f_X12_isSheet x1) fun r1 =>
  if r1 = 0 then
  (f_X12_sheet_29 σ)
  else
  (if x2 = 0 then
  (f_X12_sheet_35 x1 x2 x3 σ)
  else
  (if x2 = 8 then
  (f_X12_sheet_35 x1 x2 x3 σ)
  else
  (if x2 = 16 then
  (f_X12_sheet_35 x1 x2 x3 σ)
  else
  (if x2 = 32 then
  (f_X12_sheet_35 x1 x2 x3 σ)
  else
  (f_X12_sheet_29 σ)))))
noncomputable def f_X12_shift (x1 : Int32) (x2 : Int32) (σ : St) : Option (Int32 × St) :=
  bd (f_X12_whyNot x1 x2 σ) fun r1 =>
  if r1 = 0 then
  (bd (f_X12_moves x1 x2 σ) fun σ7 =>
  bd (f_X12_entryOf x1 1 σ7) fun r8 =>
  some (r8, σ7))
  else
  (bd2 (f_X12_finds r1 σ) fun r11 σ13 =>
  some (r11, σ13))
noncomputable def b_X12_take_48 (x3 : Int32) (x4 : Int32) (σ : St) : Option ((Int32 × St) ⊕ (Int32 × St)) :=
  chk (inb 1 466) <|
  if x4 < (rd σ 84 1) then
  (chk (inb x4 10) <|
  chk (inb ((10 + (5 * x4)) + 4) 466) <|
  nm (wr σ 84 ((10 + (5 * x4)) + 4) (rd σ 104 x4)) fun σ25 =>
  some (.inl ((x4 + 1), σ25)))
  else
  (some (.inr ((x3, σ))))
noncomputable def f_X12_take_48 (x3 : Int32) (x4 : Int32) (σ : St) : Option (Int32 × St) := it (fun z : Int32 × St => b_X12_take_48 x3 z.1 z.2) (x4, σ)
noncomputable def f_X12_take_17 (σ : St) : Option (Int32 × St) :=
  bd2 (f_X12_finds 1 σ) fun r19 σ21 =>
  some (r19, σ21)
noncomputable def f_X12_take (x1 : Int32) (x2 : Int32) (σ : St) : Option (Int32 × St) :=
  bd (f_X12_in x1 0 3) fun r1 =>
  if r1 = 0 then
  (f_X12_take_17 σ)
  else
  (bd (f_X12_isTroupe x2 σ) fun r5 =>
  if r5 = 0 then
  (f_X12_take_17 σ)
  else
  (bd2 (f_X12_findBest x1 x2 σ) fun r9 σ11 =>
  if r9 = 0 then
  (bd2 (f_X12_finds 2 σ11) fun r16 σ18 =>
  some (r16, σ18))
  else
  (bd (f_X12_sumOf x1 x2 σ11) fun r13 =>
  f_X12_take_48 r13 0 σ11)))
noncomputable def f_X12_tell (x1 : Int32) (σ : St) : Option (Int32 × St) :=
  chk (inb 5 466) <|
  if (rd σ 84 5) = 20 then
  (bd2 (f_X12_finds 4 σ) fun r6 σ8 =>
  some (r6, σ8))
  else
  (chk (inb (290 + (rd σ 84 5)) 466) <|
  nm (wr σ 84 (290 + (rd σ 84 5)) x1) fun σ3 =>
  nm (wr σ3 84 5 ((rd σ3 84 5) + 1)) fun σ5 =>
  some ((rd σ5 84 5), σ5))
noncomputable def f_X12_text_95 (σ : St) : Option (Int32 × St) :=
  nm (fw σ 6 4 0) fun σ21 =>
  some (1, σ21)
noncomputable def b_X12_text_62 (x3 : Int32) (x4 : Int32) (σ : St) : Option ((Int32 × St) ⊕ (Int32 × St)) :=
  if x4 < (fd σ 6 10) then
  (chk (inb x4 52) <|
  chk (inb ((x3 + 1) + x4) 466) <|
  nm (wr σ 84 ((x3 + 1) + x4) (rd σ 91 x4)) fun σ19 =>
  some (.inl ((x4 + 1), σ19)))
  else
  ((f_X12_text_95 σ).map .inr)
noncomputable def f_X12_text_62 (x3 : Int32) (x4 : Int32) (σ : St) : Option (Int32 × St) := it (fun z : Int32 × St => b_X12_text_62 x3 z.1 z.2) (x4, σ)
noncomputable def f_X12_text (x1 : Int32) (σ : St) : Option (Int32 × St) :=
  bd (f_X12_in x1 0 2) fun r1 =>
  if r1 = 0 then
  (bd2 (f_X12_finds 1 σ) fun r13 σ15 =>
  some (r13, σ15))
  else
  (bd2 (f_X12_reads x1 σ) fun r5 σ7 =>
  chk (inb 4 466) <|
  nm (wr σ7 84 4 0) fun σ8 =>
  if r5 = 0 then
  (some (((-10) - (fd σ8 6 13)), σ8))
  else
  (chk (inb (310 + (52 * x1)) 466) <|
  nm (wr σ8 84 (310 + (52 * x1)) (fd σ8 6 10)) fun σ11 =>
  f_X12_text_62 (310 + (52 * x1)) 0 σ11))
noncomputable def f_X12_told (x1 : Int32) (σ : St) : Option (Int32 × St) :=
  bd (f_X12_in x1 1 5) fun r1 =>
  if r1 = 0 then
  (bd2 (f_X12_finds 1 σ) fun r5 σ7 =>
  some (r5, σ7))
  else
  (chk (inb x1 6) <|
  some ((rd σ 86 x1), σ))
noncomputable def f_X12_trace (x1 : Int32) (σ : St) : Option (Int32 × St) :=
  bd (f_X12_in x1 0 ((fd σ 6 27) - 1)) fun r1 =>
  if r1 = 0 then
  (bd2 (f_X12_finds 2 σ) fun r5 σ7 =>
  some (r5, σ7))
  else
  (chk (inb x1 40) <|
  some ((rd σ 105 x1), σ))
noncomputable def f_X12_two_30 (σ : St) : Option (Int32 × St) :=
  bd2 (f_X12_finds 1 σ) fun r24 σ26 =>
  some (r24, σ26)
noncomputable def f_X12_two (x1 : Int32) (x2 : Int32) (x3 : Int32) (σ : St) : Option (Int32 × St) :=
  bd (f_X12_isPart x1 σ) fun r1 =>
  if r1 = 0 then
  (f_X12_two_30 σ)
  else
  (bd (f_X12_isPart x2 σ) fun r5 =>
  if r5 = 0 then
  (f_X12_two_30 σ)
  else
  (if x1 = x2 then
  (f_X12_two_30 σ)
  else
  (bd (f_X12_in x3 0 1) fun r10 =>
  if r10 = 0 then
  (f_X12_two_30 σ)
  else
  (bd (f_X12_lay σ) fun σ16 =>
  if x3 = 0 then
  (chk (inb ((10 * x1) + x2) 100) <|
  some ((rd σ16 88 ((10 * x1) + x2)), σ16))
  else
  (chk (inb ((10 * x1) + x2) 100) <|
  if (rd σ16 88 ((10 * x1) + x2)) = 0 then
  (bd2 (f_X12_finds 2 σ16) fun r20 σ22 =>
  some (r20, σ22))
  else
  (some ((rd σ16 89 ((10 * x1) + x2)), σ16)))))))
noncomputable def f_X12_voice_17 (σ : St) : Option (Int32 × St) :=
  bd2 (f_X12_finds 1 σ) fun r34 σ36 =>
  some (r34, σ36)
noncomputable def f_X12_voice (x1 : Int32) (x2 : Int32) (x3 : Int32) (σ : St) : Option (Int32 × St) :=
  bd (f_X12_isPart x1 σ) fun r1 =>
  if r1 = 0 then
  (f_X12_voice_17 σ)
  else
  (bd (f_X12_in x2 0 3) fun r5 =>
  if r5 = 0 then
  (f_X12_voice_17 σ)
  else
  (nm (fw σ 6 27 0) fun σ9 =>
  bd (f_X12_its x1 0 σ9) fun r10 =>
  nm (fw σ9 6 28 r10) fun σ13 =>
  nm (fw σ13 6 29 x1) fun σ14 =>
  bd (f_X12_its x1 3 σ14) fun r15 =>
  nm (fw σ14 6 30 r15) fun σ18 =>
  if x2 = 0 then
  (bd2 (f_X12_speaks x3 σ18) fun r31 σ33 =>
  some (r31, σ33))
  else
  (if x2 = 1 then
  (bd2 (f_X12_walks x3 σ18) fun r28 σ30 =>
  some (r28, σ30))
  else
  (if x2 = 2 then
  (bd2 (f_X12_dies x3 σ18) fun r25 σ27 =>
  some (r25, σ27))
  else
  (bd2 (f_X12_bows x3 σ18) fun r22 σ24 =>
  some (r22, σ24))))))
noncomputable def f_X12_wish_25 (σ : St) : Option (Int32 × St) :=
  bd2 (f_X12_finds 1 σ) fun r12 σ14 =>
  some (r12, σ14)
noncomputable def f_X12_wish (x1 : Int32) (x2 : Int32) (σ : St) : Option (Int32 × St) :=
  bd (f_X12_isPlayer x1 σ) fun r1 =>
  if r1 = 0 then
  (f_X12_wish_25 σ)
  else
  (bd (f_X12_isPart x2 σ) fun r5 =>
  if r5 = 0 then
  (f_X12_wish_25 σ)
  else
  (bd2 (f_X12_wishOf x1 x2 σ) fun r9 σ11 =>
  some (r9, σ11)))
noncomputable def f_X12_without (x1 : Int32) (σ : St) : Option (Int32 × St) :=
  bd (f_X12_isPart x1 σ) fun r1 =>
  if r1 = 0 then
  (bd2 (f_X12_finds 1 σ) fun r5 σ7 =>
  some (r5, σ7))
  else
  (bd (f_X12_allParts σ) fun r8 =>
  bd2 (f_X12_fewestOf (r8 &&& (((1 : Int32) <<< (x1 &&& 31)) ^^^ (-1))) σ) fun r11 σ13 =>
  some (r11, σ13))
noncomputable def f_X6_isOf (c0 : Nat) (x1 : Int32) (σ : St) : Option (Int32) :=
  if x1 = 1 then
  (chk (isRole σ c0) <|
  chk (isB (in9 (rc σ c0 5))) <|
  some (in9 (rc σ c0 5)))
  else
  (if x1 = 2 then
  (chk (isRole σ c0) <|
  chk (isB (in2 (rc σ c0 5))) <|
  some (in2 (rc σ c0 5)))
  else
  (if x1 = 3 then
  (chk (isRole σ c0) <|
  chk (isB (in3 (rc σ c0 5))) <|
  some (in3 (rc σ c0 5)))
  else
  (if x1 = 4 then
  (chk (isRole σ c0) <|
  chk (isB (in1 (rc σ c0 5))) <|
  some (in1 (rc σ c0 5)))
  else
  (if x1 = 5 then
  (chk (isRole σ c0) <|
  chk (isB (in0 (rc σ c0 5))) <|
  some (in0 (rc σ c0 5)))
  else
  (some 1)))))
noncomputable def f_X6_speak (c0 : Nat) (x1 : Int32) (σ : St) : Option (Int32 × St) :=
  bd (f_X7_add 74 10 σ) fun σ3 =>
  chk (isRole σ3 c0) <|
  some ((x1 + (fd σ3 c0 0)), σ3)
noncomputable def f_X2_speak (c0 : Nat) (x1 : Int32) (σ : St) : Option (Int32 × St) :=
  bd (f_X7_add 74 30 σ) fun σ3 =>
  chk (isRole σ3 c0) <|
  bd2 (f_X6_speak c0 x1 σ3) fun r5 σ7 =>
  some ((r5 - 1), σ7)
noncomputable def f_X0_speak (c0 : Nat) (x1 : Int32) (σ : St) : Option (Int32 × St) :=
  bd (f_X7_add 74 60 σ) fun σ3 =>
  chk (isRole σ3 c0) <|
  bd2 (f_X6_speak c0 x1 σ3) fun r5 σ7 =>
  some ((r5 ^^^ 5), σ7)
noncomputable def f_X6_die (c0 : Nat) (x1 : Int32) (σ : St) : Option (Int32 × St) :=
  bd (f_X7_add 74 12 σ) fun σ3 =>
  chk (isRole σ3 c0) <|
  some ((x1 - (fd σ3 c0 4)), σ3)
noncomputable def f_X3_die (c0 : Nat) (x1 : Int32) (σ : St) : Option (Int32 × St) :=
  bd (f_X7_add 74 40 σ) fun σ3 =>
  chk (isRole σ3 c0) <|
  bd2 (f_X6_die c0 x1 σ3) fun r5 σ7 =>
  some ((r5 * 3), σ7)
noncomputable def fv_X6_speak (c0 : Nat) (x1 : Int32) (σ : St) : Option (Int32 × St) := if rc σ c0 5 = 0 then f_X0_speak c0 x1 σ else if rc σ c0 5 = 1 then f_X2_speak c0 x1 σ else if rc σ c0 5 = 2 then f_X2_speak c0 x1 σ else if rc σ c0 5 = 3 then f_X6_speak c0 x1 σ else if rc σ c0 5 = 6 then f_X6_speak c0 x1 σ else if rc σ c0 5 = 9 then f_X6_speak c0 x1 σ else none
noncomputable def f_X6_walk (c0 : Nat) (x1 : Int32) (σ : St) : Option (Int32 × St) :=
  bd (f_X7_add 74 11 σ) fun σ3 =>
  chk (isRole σ3 c0) <|
  bd2 (fv_X6_speak c0 x1 σ3) fun r5 σ7 =>
  some ((r5 * 2), σ7)
noncomputable def fv_X9_die (c0 : Nat) (x1 : Int32) (σ : St) : Option (Int32 × St) := if rc σ c0 5 = 0 then f_X6_die c0 x1 σ else if rc σ c0 5 = 3 then f_X3_die c0 x1 σ else if rc σ c0 5 = 9 then f_X6_die c0 x1 σ else none
noncomputable def f_X9_walk (c0 : Nat) (x1 : Int32) (σ : St) : Option (Int32 × St) :=
  bd (f_X7_add 74 20 σ) fun σ3 =>
  chk (isRole σ3 c0) <|
  bd2 (f_X6_walk c0 x1 σ3) fun r5 σ7 =>
  chk (isRole σ7 c0) <|
  bd2 (fv_X9_die c0 x1 σ7) fun r9 σ11 =>
  some ((r5 + r9), σ11)
noncomputable def f_X3_walk (c0 : Nat) (x1 : Int32) (σ : St) : Option (Int32 × St) :=
  bd (f_X7_add 74 41 σ) fun σ3 =>
  chk (isRole σ3 c0) <|
  bd2 (f_X9_walk c0 (x1 - (fd σ3 c0 4)) σ3) fun r5 σ7 =>
  some (r5, σ7)
noncomputable def fv_X0_speak (c0 : Nat) (x1 : Int32) (σ : St) : Option (Int32 × St) := if rc σ c0 5 = 0 then f_X0_speak c0 x1 σ else none
noncomputable def f_X0_walk (c0 : Nat) (x1 : Int32) (σ : St) : Option (Int32 × St) :=
  bd (f_X7_add 74 61 σ) fun σ3 =>
  chk (isRole σ3 c0) <|
  bd2 (f_X9_walk c0 x1 σ3) fun r5 σ7 =>
  chk (isRole σ7 c0) <|
  bd2 (fv_X0_speak c0 1 σ7) fun r9 σ11 =>
  some ((r5 + r9), σ11)
noncomputable def fv_X6_walk (c0 : Nat) (x1 : Int32) (σ : St) : Option (Int32 × St) := if rc σ c0 5 = 0 then f_X0_walk c0 x1 σ else if rc σ c0 5 = 1 then f_X6_walk c0 x1 σ else if rc σ c0 5 = 2 then f_X6_walk c0 x1 σ else if rc σ c0 5 = 3 then f_X3_walk c0 x1 σ else if rc σ c0 5 = 6 then f_X6_walk c0 x1 σ else if rc σ c0 5 = 9 then f_X9_walk c0 x1 σ else none
noncomputable def fv_X6_die (c0 : Nat) (x1 : Int32) (σ : St) : Option (Int32 × St) := if rc σ c0 5 = 0 then f_X6_die c0 x1 σ else if rc σ c0 5 = 1 then f_X6_die c0 x1 σ else if rc σ c0 5 = 2 then f_X6_die c0 x1 σ else if rc σ c0 5 = 3 then f_X3_die c0 x1 σ else if rc σ c0 5 = 6 then f_X6_die c0 x1 σ else if rc σ c0 5 = 9 then f_X6_die c0 x1 σ else none
noncomputable def f_X6_bow (c0 : Nat) (x1 : Int32) (σ : St) : Option (Int32 × St) :=
  bd (f_X7_add 74 13 σ) fun σ3 =>
  chk (isRole σ3 c0) <|
  bd2 (fv_X6_walk c0 x1 σ3) fun r5 σ7 =>
  chk (isRole σ7 c0) <|
  bd2 (fv_X6_die c0 x1 σ7) fun r9 σ11 =>
  some ((r5 ^^^ r9), σ11)
noncomputable def f_X2_bow (c0 : Nat) (x1 : Int32) (σ : St) : Option (Int32 × St) :=
  bd (f_X7_add 74 31 σ) fun σ3 =>
  chk (isRole σ3 c0) <|
  bd2 (f_X6_bow c0 (x1 + 1) σ3) fun r5 σ7 =>
  some (r5, σ7)
noncomputable def fv_X1_die (c0 : Nat) (x1 : Int32) (σ : St) : Option (Int32 × St) := if rc σ c0 5 = 1 then f_X6_die c0 x1 σ else none
noncomputable def f_X1_bow (c0 : Nat) (x1 : Int32) (σ : St) : Option (Int32 × St) :=
  bd (f_X7_add 74 50 σ) fun σ3 =>
  chk (isRole σ3 c0) <|
  bd2 (fv_X1_die c0 x1 σ3) fun r5 σ7 =>
  chk (isRole σ7 c0) <|
  bd2 (f_X2_bow c0 x1 σ7) fun r9 σ11 =>
  some ((r5 - r9), σ11)
noncomputable def fv_X6_bow (c0 : Nat) (x1 : Int32) (σ : St) : Option (Int32 × St) := if rc σ c0 5 = 0 then f_X6_bow c0 x1 σ else if rc σ c0 5 = 1 then f_X1_bow c0 x1 σ else if rc σ c0 5 = 2 then f_X2_bow c0 x1 σ else if rc σ c0 5 = 3 then f_X6_bow c0 x1 σ else if rc σ c0 5 = 6 then f_X6_bow c0 x1 σ else if rc σ c0 5 = 9 then f_X6_bow c0 x1 σ else none
noncomputable def f_X11_voice_19 (σ : St) : Option (Int32 × St) :=
  bd2 (f_X11_error 1 σ) fun r31 σ33 =>
  some (r31, σ33)
noncomputable def f_X11_voice (x1 : Int32) (x2 : Int32) (x3 : Int32) (σ : St) : Option (Int32 × St) :=
  bd (f_X4_hasPart x1 σ) fun r1 =>
  if r1 = 0 then
  (f_X11_voice_19 σ)
  else
  (bd (f_X11_isWithin x2 4) fun r5 =>
  if r5 = 0 then
  (f_X11_voice_19 σ)
  else
  (chk (inb x1 10) <|
  chk (isRole σ ((rd σ 10 x1).toNatClampNeg)) <|
  nm (fw σ 74 1 0) fun σ11 =>
  if x2 = 0 then
  (chk (isRole σ11 ((rd σ 10 x1).toNatClampNeg)) <|
  bd2 (fv_X6_speak ((rd σ 10 x1).toNatClampNeg) x3 σ11) fun r14 σ16 =>
  some (r14, σ16))
  else
  (if x2 = 1 then
  (chk (isRole σ11 ((rd σ 10 x1).toNatClampNeg)) <|
  bd2 (fv_X6_walk ((rd σ 10 x1).toNatClampNeg) x3 σ11) fun r19 σ21 =>
  some (r19, σ21))
  else
  (if x2 = 2 then
  (chk (isRole σ11 ((rd σ 10 x1).toNatClampNeg)) <|
  bd2 (fv_X6_die ((rd σ 10 x1).toNatClampNeg) x3 σ11) fun r24 σ26 =>
  some (r24, σ26))
  else
  (chk (isRole σ11 ((rd σ 10 x1).toNatClampNeg)) <|
  bd2 (fv_X6_bow ((rd σ 10 x1).toNatClampNeg) x3 σ11) fun r28 σ30 =>
  some (r28, σ30))))))
noncomputable def f_X10_areApart_48 (σ : St) : Option (Int32) :=
  some 1
noncomputable def f_X10_areApart_24 (x1 : Int32) (x2 : Int32) (σ : St) : Option (Int32) :=
  bd (f_X10_isOff x2 σ) fun r11 =>
  if r11 = 0 then
  (some 0)
  else
  (chk (inb x1 10) <|
  chk (isRole σ ((rd σ 10 x1).toNatClampNeg)) <|
  bd (f_X6_isOf ((rd σ 10 x1).toNatClampNeg) 1 σ) fun r17 =>
  if r17 = 0 then
  (f_X10_areApart_48 σ)
  else
  (some 0))
noncomputable def f_X10_areApart (x1 : Int32) (x2 : Int32) (σ : St) : Option (Int32) :=
  bd (f_X10_isOff x1 σ) fun r1 =>
  if r1 = 0 then
  (f_X10_areApart_24 x1 x2 σ)
  else
  (chk (inb x2 10) <|
  chk (isRole σ ((rd σ 10 x2).toNatClampNeg)) <|
  bd (f_X6_isOf ((rd σ 10 x2).toNatClampNeg) 1 σ) fun r7 =>
  if r7 = 0 then
  (f_X10_areApart_48 σ)
  else
  (f_X10_areApart_24 x1 x2 σ))
noncomputable def f_X10_howBarred (x1 : Int32) (x2 : Int32) (σ : St) : Option (Int32 × St) :=
  bd (f_X10_areApart x1 x2 σ) fun r1 =>
  if r1 = 0 then
  (bd (f_X10_meetingLine x1 x2 σ) fun r5 =>
  nm (fw σ 3 6 r5) fun σ8 =>
  if (fd σ8 3 6) = (-1) then
  (bd (f_X10_isOff x1 σ8) fun r10 =>
  if r10 = 0 then
  (bd (f_X10_isOff x2 σ8) fun r14 =>
  if r14 = 0 then
  (bd2 (f_X10_nearLine x1 x2 σ8) fun r18 σ20 =>
  bd2 (f_X10_nearLine x2 x1 σ20) fun r21 σ23 =>
  bd (f_X10_earlier r18 r21) fun r24 =>
  nm (fw σ23 3 6 r24) fun σ27 =>
  if (fd σ27 3 6) = (-1) then
  (some (0, σ27))
  else
  (some (3, σ27)))
  else
  (some (0, σ8)))
  else
  (some (0, σ8)))
  else
  (some (2, σ8)))
  else
  (some (0, σ))
noncomputable def f_X10_findBarAbove_49 (x1 : Int32) (x2 : Int32) (x3 : Int32) (σ : St) : Option ((Int32 × St) ⊕ (Int32 × St)) :=
  some (.inl ((x3 + 1), σ))
noncomputable def b_X10_findBarAbove_4 (x1 : Int32) (x2 : Int32) (x3 : Int32) (σ : St) : Option ((Int32 × St) ⊕ (Int32 × St)) :=
  if x3 < (fd σ 1 1) then
  (chk (inb x3 10) <|
  if (rd σ 11 x3) = x2 then
  (nm (fw σ 3 5 x3) fun σ4 =>
  bd2 (f_X10_howBarred x1 x3 σ4) fun r5 σ7 =>
  if r5 = 0 then
  (f_X10_findBarAbove_49 x1 x2 x3 σ7)
  else
  (some (.inr ((r5, σ7)))))
  else
  (f_X10_findBarAbove_49 x1 x2 x3 σ))
  else
  (some (.inr ((0, σ))))
noncomputable def f_X10_findBarAbove_4 (x1 : Int32) (x2 : Int32) (x3 : Int32) (σ : St) : Option (Int32 × St) := it (fun z : Int32 × St => b_X10_findBarAbove_4 x1 x2 z.1 z.2) (x3, σ)
noncomputable def f_X10_findBarAbove (x1 : Int32) (x2 : Int32) (σ : St) : Option (Int32 × St) :=
  f_X10_findBarAbove_4 x1 x2 (x1 + 1) σ
noncomputable def f_X10_findBar_59 (x1 : Int32) (σ : St) : Option ((Int32 × St) ⊕ (Int32 × St)) :=
  some (.inl ((x1 + 1), σ))
noncomputable def f_X10_findBar_52 (x1 : Int32) (s0 : Int32) (σ : St) : Option ((Int32 × St) ⊕ (Int32 × St)) :=
  if s0 = 0 then
  (f_X10_findBar_59 x1 σ)
  else
  (some (.inr ((s0, σ))))
noncomputable def b_X10_findBar_2 (x1 : Int32) (σ : St) : Option ((Int32 × St) ⊕ (Int32 × St)) :=
  if x1 < (fd σ 1 1) then
  (chk (inb x1 10) <|
  if (rd σ 11 x1) = (-1) then
  (f_X10_findBar_59 x1 σ)
  else
  (nm (fw σ 3 4 x1) fun σ4 =>
  bd2 (f_X10_isAble (rd σ 11 x1) x1 σ4) fun r5 σ7 =>
  if r5 = 0 then
  (f_X10_findBar_52 x1 1 σ7)
  else
  (bd2 (f_X10_findBarAbove x1 (rd σ 11 x1) σ7) fun r9 σ11 =>
  f_X10_findBar_52 x1 r9 σ11)))
  else
  (some (.inr ((0, σ))))
noncomputable def f_X10_findBar_2 (x1 : Int32) (σ : St) : Option (Int32 × St) := it (fun z : Int32 × St => b_X10_findBar_2 z.1 z.2) (x1, σ)
noncomputable def f_X10_findBar (σ : St) : Option (Int32 × St) :=
  f_X10_findBar_2 0 σ
noncomputable def f_X10_findBarred_75 (x1 : Int32) (σ : St) : Option ((Int32 × St) ⊕ (St)) :=
  some (.inl ((x1 + 1), σ))
noncomputable def f_X10_findBarred_69 (x1 : Int32) (x2 : Int32) (σ : St) : Option ((Int32 × St) ⊕ ((Int32 × St) ⊕ (St))) :=
  some (.inl ((x2 + 1), σ))
noncomputable def b_X10_findBarred_25 (x1 : Int32) (x2 : Int32) (σ : St) : Option ((Int32 × St) ⊕ ((Int32 × St) ⊕ (St))) :=
  if x2 < (fd σ 1 1) then
  (bd2 (f_X10_howBarred x1 x2 σ) fun r7 σ9 =>
  if r7 = 0 then
  (f_X10_findBarred_69 x1 x2 σ9)
  else
  (chk (inb x1 10) <|
  nm (wr σ9 32 x1 ((rd σ9 32 x1) ||| ((1 : Int32) <<< (x2 &&& 31)))) fun σ12 =>
  chk (inb x2 10) <|
  nm (wr σ12 32 x2 ((rd σ12 32 x2) ||| ((1 : Int32) <<< (x1 &&& 31)))) fun σ14 =>
  f_X10_findBarred_69 x1 x2 σ14))
  else
  ((f_X10_findBarred_75 x1 σ).map .inr)
noncomputable def f_X10_findBarred_25 (x1 : Int32) (x2 : Int32) (σ : St) : Option ((Int32 × St) ⊕ (St)) := it (fun z : Int32 × St => b_X10_findBarred_25 x1 z.1 z.2) (x2, σ)
noncomputable def b_X10_findBarred_10 (x1 : Int32) (σ : St) : Option ((Int32 × St) ⊕ (St)) :=
  if x1 < (fd σ 1 1) then
  (f_X10_findBarred_25 x1 (x1 + 1) σ)
  else
  (some (.inr (σ)))
noncomputable def f_X10_findBarred_10 (x1 : Int32) (σ : St) : Option (St) := it (fun z : Int32 × St => b_X10_findBarred_10 z.1 z.2) (x1, σ)
noncomputable def f_X10_findBarred (σ : St) : Option (St) :=
  bd (f_J7_fill_53178 32 0 σ) fun σ3 =>
  f_X10_findBarred_10 0 σ3
noncomputable def f_X11_as_20 (σ : St) : Option (Int32 × St) :=
  bd2 (f_X11_error 1 σ) fun r21 σ23 =>
  some (r21, σ23)
noncomputable def f_X11_as (x1 : Int32) (x2 : Int32) (σ : St) : Option (Int32 × St) :=
  bd (f_X4_hasPart x1 σ) fun r1 =>
  if r1 = 0 then
  (f_X11_as_20 σ)
  else
  (bd (f_X11_isWithin x2 6) fun r5 =>
  if r5 = 0 then
  (f_X11_as_20 σ)
  else
  (chk (inb x1 10) <|
  chk (isRole σ ((rd σ 10 x1).toNatClampNeg)) <|
  bd (f_X6_isOf ((rd σ 10 x1).toNatClampNeg) x2 σ) fun r11 =>
  if r11 = 0 then
  (bd2 (f_X11_error 5 σ) fun r18 σ20 =>
  some (r18, σ20))
  else
  (bd (f_X4_weight x1 σ) fun r15 =>
  some (r15, σ))))
noncomputable def f_X11_bars_48 (x1 : Int32) (σ : St) : Option (Int32 × St) :=
  if x1 = 1 then
  (some ((fd σ 3 4), σ))
  else
  (if x1 = 2 then
  (some ((fd σ 3 5), σ))
  else
  (some ((fd σ 3 6), σ)))
noncomputable def f_X11_bars_42 (σ : St) : Option (Int32 × St) :=
  bd2 (f_X11_error 2 σ) fun r15 σ17 =>
  some (r15, σ17)
noncomputable def f_X11_bars (x1 : Int32) (σ : St) : Option (Int32 × St) :=
  bd (f_X11_isWithin x1 4) fun r1 =>
  if r1 = 0 then
  (bd2 (f_X11_error 1 σ) fun r12 σ14 =>
  some (r12, σ14))
  else
  (bd2 (f_X10_findBar σ) fun r5 σ7 =>
  if x1 = 0 then
  (some (r5, σ7))
  else
  (if r5 = 0 then
  (f_X11_bars_42 σ7)
  else
  (if r5 = 1 then
  (if 1 < x1 then
  (f_X11_bars_42 σ7)
  else
  (f_X11_bars_48 x1 σ7))
  else
  (f_X11_bars_48 x1 σ7))))
noncomputable def f_X11_two_17 (σ : St) : Option (Int32 × St) :=
  bd2 (f_X11_error 1 σ) fun r17 σ19 =>
  some (r17, σ19)
noncomputable def f_X11_two (x1 : Int32) (x2 : Int32) (x3 : Int32) (σ : St) : Option (Int32 × St) :=
  bd (f_X11_isPair x1 x2 σ) fun r1 =>
  if r1 = 0 then
  (f_X11_two_17 σ)
  else
  (bd (f_X11_isWithin x3 2) fun r5 =>
  if r5 = 0 then
  (f_X11_two_17 σ)
  else
  (bd2 (f_X10_howBarred x1 x2 σ) fun r9 σ11 =>
  if x3 = 0 then
  (some (r9, σ11))
  else
  (if r9 = 0 then
  (bd2 (f_X11_error 2 σ11) fun r14 σ16 =>
  some (r14, σ16))
  else
  (some ((fd σ11 3 6), σ11)))))
noncomputable def f_X8_findBest_157 (x1 : Int32) (x3 : Int32) (s0 : Int32) (σ : St) : Option (Int32 × St) :=
  nm (fw σ 4 11 s0) fun σ32 =>
  bd (f_X8_dealOut x1 x3 σ32) fun σ35 =>
  some (1, σ35)
noncomputable def f_X8_findBest_117 (x1 : Int32) (x3 : Int32) (σ : St) : Option (Int32 × St) :=
  chk (inb x3 1024) <|
  if (rd σ 46 x3) < 100000000 then
  (if x1 = 0 then
  (f_X8_findBest_157 x1 x3 (-(rd σ 46 x3)) σ)
  else
  (f_X8_findBest_157 x1 x3 (rd σ 46 x3) σ))
  else
  (some (0, σ))
noncomputable def b_X8_findBest_87 (x1 : Int32) (x3 : Int32) (x5 : Int32) (σ : St) : Option ((Int32 × St) ⊕ (Int32 × St)) :=
  if x5 < 0 then
  ((f_X8_findBest_117 x1 x3 σ).map .inr)
  else
  (chk (inb x5 6) <|
  bd (f_X8_price (rd σ 35 x5) σ) fun σ25 =>
  bd (f_X8_addToTeam x1 x5 x3 σ25) fun σ28 =>
  some (.inl ((x5 + (-1)), σ28)))
noncomputable def f_X8_findBest_87 (x1 : Int32) (x3 : Int32) (x5 : Int32) (σ : St) : Option (Int32 × St) := it (fun z : Int32 × St => b_X8_findBest_87 x1 x3 z.1 z.2) (x5, σ)
noncomputable def f_X8_findBest (x1 : Int32) (x2 : Int32) (σ : St) : Option (Int32 × St) :=
  bd (f_X4_allParts σ) fun r1 =>
  nm (fw σ 4 11 0) fun σ4 =>
  bd (f_X8_gather x2 x1 σ4) fun σ7 =>
  if (fd σ7 4 5) = 0 then
  (if r1 = 0 then
  (some (1, σ7))
  else
  (some (0, σ7)))
  else
  (bd (f_X10_findBarred σ7) fun σ11 =>
  chk (inb ((fd σ11 4 5) - 1) 6) <|
  bd (f_X8_price (rd σ11 35 ((fd σ11 4 5) - 1)) σ11) fun σ15 =>
  chk (cpok 0 0 (r1 + 1) 1024 1024) <|
  nm (cpy σ15 37 0 (46 + ((fd σ11 4 5) - 1).toNatClampNeg) 0 (r1 + 1)) fun σ18 =>
  f_X8_findBest_87 x1 r1 (((fd σ11 4 5) - 1) - 1) σ18)
noncomputable def f_X11_best_35 (σ : St) : Option (Int32 × St) :=
  bd2 (f_X11_error 1 σ) fun r20 σ22 =>
  some (r20, σ22)
noncomputable def f_X11_best (x1 : Int32) (x2 : Int32) (x3 : Int32) (σ : St) : Option (Int32 × St) :=
  bd (f_X11_isWithin x1 4) fun r1 =>
  if r1 = 0 then
  (f_X11_best_35 σ)
  else
  (bd (f_X4_isSet x2 σ) fun r5 =>
  if r5 = 0 then
  (f_X11_best_35 σ)
  else
  (if x3 < (-1) then
  (f_X11_best_35 σ)
  else
  (if x3 < (fd σ 1 1) then
  (bd2 (f_X8_findBest x1 x2 σ) fun r11 σ13 =>
  if r11 = 0 then
  (bd2 (f_X11_error 2 σ13) fun r17 σ19 =>
  some (r17, σ19))
  else
  (if x3 < 0 then
  (some ((fd σ13 4 11), σ13))
  else
  (chk (inb x3 10) <|
  some ((rd σ13 39 x3), σ13))))
  else
  (f_X11_best_35 σ))))
noncomputable def b_X8_countCastings_52 (x2 : Int32) (x3 : Int32) (σ : St) : Option ((Int32 × St) ⊕ (St)) :=
  if x3 < (fd σ 4 5) then
  (chk (inb x3 6) <|
  bd (f_X8_price (rd σ 35 x3) σ) fun σ22 =>
  chk (inb ((x3 + 1) - ((x3 + 1) / 2) * 2) 6) <|
  bd (f_X8_countWithOneMore (46 + ((x3 + 1) - ((x3 + 1) / 2) * 2).toNatClampNeg) x2 σ22) fun σ27 =>
  some (.inl ((x3 + 1), σ27)))
  else
  (some (.inr (σ)))
noncomputable def f_X8_countCastings_52 (x2 : Int32) (x3 : Int32) (σ : St) : Option (St) := it (fun z : Int32 × St => b_X8_countCastings_52 x2 z.1 z.2) (x3, σ)
noncomputable def f_X8_countCastings (x1 : Int32) (σ : St) : Option (St) :=
  bd (f_X4_allParts σ) fun r1 =>
  bd (f_X8_gather x1 3 σ) fun σ6 =>
  bd (f_X10_findBarred σ6) fun σ9 =>
  nm (fw σ9 4 9 (nI 46)) fun σ10 =>
  chk (isLeast (rc σ10 4 9)) <|
  bd (f_J7_fill_fda19 (rc σ10 4 9) 0 (r1 + 1) 0 σ10) fun σ14 =>
  chk (isLeast (rc σ14 4 9)) <|
  chk (inb 0 1024) <|
  nm (wr σ14 (rc σ14 4 9) 0 1) fun σ16 =>
  f_X8_countCastings_52 r1 0 σ16
noncomputable def f_X11_castings (x1 : Int32) (σ : St) : Option (Int64 × St) :=
  bd (f_X4_isSet x1 σ) fun r1 =>
  if r1 = 0 then
  (bd2 (f_X11_error 1 σ) fun r13 σ15 =>
  some (r13.toInt64, σ15))
  else
  (bd (f_X8_countCastings x1 σ) fun σ7 =>
  chk (isLeast (rc σ7 4 9)) <|
  bd (f_X4_allParts σ7) fun r9 =>
  chk (inb r9 1024) <|
  some ((rd σ7 (rc σ7 4 9) r9).toInt64, σ7))
noncomputable def b_X11_check_62 (x2 : Int32) (x3 : Int32) (σ : St) : Option ((Int32) ⊕ (Int32 × St)) :=
  if x3 < x2 then
  (if x3 < (fd σ 1 1) then
  (chk (inb x3 20) <|
  chk (inb x3 10) <|
  if (rd σ 55 x3) = (rd σ 39 x3) then
  (some (.inl (x3 + 1)))
  else
  (some (.inr (((1 + x3), σ)))))
  else
  (some (.inr (((1 + x3), σ)))))
  else
  (some (.inr ((0, σ))))
noncomputable def f_X11_check_62 (x2 : Int32) (x3 : Int32) (σ : St) : Option (Int32 × St) := it (fun z : Int32 => b_X11_check_62 x2 z σ) x3
noncomputable def f_X11_check (x1 : Int32) (σ : St) : Option (Int32 × St) :=
  nm (fw σ 54 1 0) fun σ1 =>
  bd (f_X11_isWithin x1 4) fun r2 =>
  if r2 = 0 then
  (bd2 (f_X11_error 1 σ1) fun r16 σ18 =>
  some (r16, σ18))
  else
  (bd (f_X4_allPlayers σ1) fun r6 =>
  bd2 (f_X8_findBest x1 r6 σ1) fun r9 σ11 =>
  if r9 = 0 then
  (bd2 (f_X11_error 2 σ11) fun r13 σ15 =>
  some (r13, σ15))
  else
  (f_X11_check_62 (fd σ 54 1) 0 σ11))
noncomputable def f_X11_leave_19 (σ : St) : Option (Int32 × St) :=
  bd2 (f_X11_error 1 σ) fun r19 σ21 =>
  some (r19, σ21)
noncomputable def f_X11_leave (x1 : Int32) (x2 : Int32) (σ : St) : Option (Int32 × St) :=
  bd (f_X4_isSet x1 σ) fun r1 =>
  if r1 = 0 then
  (f_X11_leave_19 σ)
  else
  (bd (f_X11_isWithin x2 2) fun r5 =>
  if r5 = 0 then
  (f_X11_leave_19 σ)
  else
  (bd (f_X8_countCastings x1 σ) fun σ11 =>
  bd2 (f_X8_leftOut σ11) fun r12 σ14 =>
  if x2 = 0 then
  (bd (f_X4_weightOfSet r12 σ14) fun r16 =>
  some (r16, σ14))
  else
  (some (r12, σ14))))
noncomputable def f_X11_never_71 (x3 : Int32) (s0 : Int32) (s1 : Int32) (σ : St) : Option (Int32 × St) :=
  bd2 (f_X8_findShares s1 s0 σ) fun r20 σ22 =>
  if r20 = 0 then
  (bd2 (f_X11_error 2 σ22) fun r28 σ30 =>
  some (r28, σ30))
  else
  (if x3 = 0 then
  (bd (f_X4_allParts σ22) fun r25 =>
  some ((r25 &&& ((fd σ22 4 12) ^^^ (-1))), σ22))
  else
  (some ((fd σ22 4 13), σ22)))
noncomputable def f_X11_never_30 (σ : St) : Option (Int32 × St) :=
  bd2 (f_X11_error 1 σ) fun r17 σ19 =>
  some (r17, σ19)
noncomputable def f_X11_never (x1 : Int32) (x2 : Int32) (x3 : Int32) (σ : St) : Option (Int32 × St) :=
  bd (f_X4_isSet x1 σ) fun r1 =>
  if r1 = 0 then
  (f_X11_never_30 σ)
  else
  (bd (f_X4_hasPlayer x2 σ) fun r5 =>
  if r5 = 0 then
  (f_X11_never_30 σ)
  else
  (bd (f_X11_isWithin x3 2) fun r9 =>
  if r9 = 0 then
  (f_X11_never_30 σ)
  else
  (bd (f_X8_countCastings (x1 &&& (((1 : Int32) <<< (x2 &&& 31)) ^^^ (-1))) σ) fun σ15 =>
  if (x1 &&& ((1 : Int32) <<< (x2 &&& 31))) = 0 then
  (f_X11_never_71 x3 0 x2 σ15)
  else
  (f_X11_never_71 x3 1 x2 σ15))))
noncomputable def f_X11_take_19 (σ : St) : Option (Int32 × St) :=
  bd2 (f_X11_error 1 σ) fun r18 σ20 =>
  some (r18, σ20)
noncomputable def f_X11_take (x1 : Int32) (x2 : Int32) (σ : St) : Option (Int32 × St) :=
  bd (f_X11_isWithin x1 4) fun r1 =>
  if r1 = 0 then
  (f_X11_take_19 σ)
  else
  (bd (f_X4_isSet x2 σ) fun r5 =>
  if r5 = 0 then
  (f_X11_take_19 σ)
  else
  (bd2 (f_X8_findBest x1 x2 σ) fun r9 σ11 =>
  if r9 = 0 then
  (bd2 (f_X11_error 2 σ11) fun r15 σ17 =>
  some (r15, σ17))
  else
  (chk (cpok 0 0 (fd σ11 1 1) 10 10) <|
  nm (cpy σ11 39 0 11 0 (fd σ11 1 1)) fun σ14 =>
  some ((fd σ14 4 11), σ14))))
noncomputable def b_X4_become_1_220 (x2 : Int32) (σ : St) : Option ((Int32 × St) ⊕ (St)) :=
  if x2 < 3 then
  (chk (inb x2 3) <|
  bd (f_X7_become (56 + 2 * x2.toNatClampNeg) (66 + 2 * x2.toNatClampNeg) σ) fun σ39 =>
  some (.inl ((x2 + 1), σ39)))
  else
  (some (.inr (σ)))
noncomputable def f_X4_become_1_220 (x2 : Int32) (σ : St) : Option (St) := it (fun z : Int32 × St => b_X4_become_1_220 z.1 z.2) (x2, σ)
noncomputable def f_X4_become_1_60 (σ : St) : Option (St) :=
  chk (cpok 0 0 (fd σ 1 1) 10 10) <|
  nm (cpy σ 21 0 11 0 (fd σ 1 1)) fun σ12 =>
  chk (cpok 0 0 (fd σ12 1 2) 40 40) <|
  nm (cpy σ12 22 0 12 0 (fd σ12 1 2)) fun σ14 =>
  chk (cpok 0 0 (fd σ14 1 2) 40 40) <|
  nm (cpy σ14 23 0 13 0 (fd σ14 1 2)) fun σ16 =>
  chk (cpok 0 0 (fd σ16 1 2) 40 40) <|
  nm (cpy σ16 24 0 14 0 (fd σ16 1 2)) fun σ18 =>
  chk (cpok 0 0 (fd σ18 1 2) 40 40) <|
  nm (cpy σ18 25 0 15 0 (fd σ18 1 2)) fun σ20 =>
  chk (cpok 0 0 (fd σ20 1 3) 6 6) <|
  nm (cpy σ20 26 0 16 0 (fd σ20 1 3)) fun σ22 =>
  chk (cpok 0 0 (fd σ22 1 3) 6 6) <|
  nm (cpy σ22 27 0 17 0 (fd σ22 1 3)) fun σ24 =>
  chk (cpok 0 0 (fd σ24 1 3) 6 6) <|
  nm (cpy σ24 28 0 18 0 (fd σ24 1 3)) fun σ26 =>
  bd (f_X7_become 52 62 σ26) fun σ29 =>
  bd (f_X7_become 54 64 σ29) fun σ32 =>
  f_X4_become_1_220 0 σ32
noncomputable def b_X4_become_1_34 (x2 : Int32) (σ : St) : Option ((Int32 × St) ⊕ (St)) :=
  if x2 < (fd σ 1 1) then
  (chk (inb x2 10) <|
  chk (isRole σ ((rd σ 20 x2).toNatClampNeg)) <|
  chk (decide ((rd σ 20 x2).toNatClampNeg < 2 ^ 31)) <|
  nm (wr σ 10 x2 (nI ((rd σ 20 x2).toNatClampNeg))) fun σ10 =>
  some (.inl ((x2 + 1), σ10)))
  else
  ((f_X4_become_1_60 σ).map .inr)
noncomputable def f_X4_become_1_34 (x2 : Int32) (σ : St) : Option (St) := it (fun z : Int32 × St => b_X4_become_1_34 z.1 z.2) (x2, σ)
noncomputable def f_X4_become_1 (σ : St) : Option (St) :=
  nm (fw σ 1 0 (fd σ 2 0)) fun σ1 =>
  nm (fw σ1 1 1 (fd σ1 2 1)) fun σ2 =>
  nm (fw σ2 1 2 (fd σ2 2 2)) fun σ3 =>
  nm (fw σ3 1 3 (fd σ3 2 3)) fun σ4 =>
  f_X4_become_1_34 0 σ4
noncomputable def b_X4_become_2_220 (x2 : Int32) (σ : St) : Option ((Int32 × St) ⊕ (St)) :=
  if x2 < 3 then
  (chk (inb x2 3) <|
  bd (f_X7_become (66 + 2 * x2.toNatClampNeg) (56 + 2 * x2.toNatClampNeg) σ) fun σ39 =>
  some (.inl ((x2 + 1), σ39)))
  else
  (some (.inr (σ)))
noncomputable def f_X4_become_2_220 (x2 : Int32) (σ : St) : Option (St) := it (fun z : Int32 × St => b_X4_become_2_220 z.1 z.2) (x2, σ)
noncomputable def f_X4_become_2_60 (σ : St) : Option (St) :=
  chk (cpok 0 0 (fd σ 2 1) 10 10) <|
  nm (cpy σ 11 0 21 0 (fd σ 2 1)) fun σ12 =>
  chk (cpok 0 0 (fd σ12 2 2) 40 40) <|
  nm (cpy σ12 12 0 22 0 (fd σ12 2 2)) fun σ14 =>
  chk (cpok 0 0 (fd σ14 2 2) 40 40) <|
  nm (cpy σ14 13 0 23 0 (fd σ14 2 2)) fun σ16 =>
  chk (cpok 0 0 (fd σ16 2 2) 40 40) <|
  nm (cpy σ16 14 0 24 0 (fd σ16 2 2)) fun σ18 =>
  chk (cpok 0 0 (fd σ18 2 2) 40 40) <|
  nm (cpy σ18 15 0 25 0 (fd σ18 2 2)) fun σ20 =>
  chk (cpok 0 0 (fd σ20 2 3) 6 6) <|
  nm (cpy σ20 16 0 26 0 (fd σ20 2 3)) fun σ22 =>
  chk (cpok 0 0 (fd σ22 2 3) 6 6) <|
  nm (cpy σ22 17 0 27 0 (fd σ22 2 3)) fun σ24 =>
  chk (cpok 0 0 (fd σ24 2 3) 6 6) <|
  nm (cpy σ24 18 0 28 0 (fd σ24 2 3)) fun σ26 =>
  bd (f_X7_become 62 52 σ26) fun σ29 =>
  bd (f_X7_become 64 54 σ29) fun σ32 =>
  f_X4_become_2_220 0 σ32
noncomputable def b_X4_become_2_34 (x2 : Int32) (σ : St) : Option ((Int32 × St) ⊕ (St)) :=
  if x2 < (fd σ 2 1) then
  (chk (inb x2 10) <|
  chk (isRole σ ((rd σ 10 x2).toNatClampNeg)) <|
  chk (decide ((rd σ 10 x2).toNatClampNeg < 2 ^ 31)) <|
  nm (wr σ 20 x2 (nI ((rd σ 10 x2).toNatClampNeg))) fun σ10 =>
  some (.inl ((x2 + 1), σ10)))
  else
  ((f_X4_become_2_60 σ).map .inr)
noncomputable def f_X4_become_2_34 (x2 : Int32) (σ : St) : Option (St) := it (fun z : Int32 × St => b_X4_become_2_34 z.1 z.2) (x2, σ)
noncomputable def f_X4_become_2 (σ : St) : Option (St) :=
  nm (fw σ 2 0 (fd σ 1 0)) fun σ1 =>
  nm (fw σ1 2 1 (fd σ1 1 1)) fun σ2 =>
  nm (fw σ2 2 2 (fd σ2 1 2)) fun σ3 =>
  nm (fw σ3 2 3 (fd σ3 1 3)) fun σ4 =>
  f_X4_become_2_34 0 σ4
noncomputable def f_X4_addPart (c1 : Nat) (σ : St) : Option (Int32 × St) :=
  chk (inb (fd σ 1 1) 10) <|
  chk (isRole σ c1) <|
  chk (decide (c1 < 2 ^ 31)) <|
  nm (wr σ 10 (fd σ 1 1) (nI c1)) fun σ4 =>
  chk (inb (fd σ4 1 1) 10) <|
  nm (wr σ4 11 (fd σ4 1 1) (-1)) fun σ5 =>
  nm (fw σ5 1 1 ((fd σ5 1 1) + 1)) fun σ7 =>
  some (((fd σ7 1 1) - 1), σ7)
noncomputable def f_X11_image (σ : St) : Option (Int32 × St) :=
  bd (f_X4_become_2 σ) fun σ3 =>
  nm (fw σ3 0 9 ((fd σ3 0 9) + 1)) fun σ4 =>
  some ((fd σ4 0 9), σ4)
noncomputable def f_X11_restore (σ : St) : Option (Int32 × St) :=
  if (fd σ 0 9) = 0 then
  (bd2 (f_X11_error 2 σ) fun r5 σ7 =>
  some (r5, σ7))
  else
  (bd (f_X4_become_1 σ) fun σ4 =>
  some ((fd σ4 1 1), σ4))
noncomputable def f_X5_namesOf (x0 : Int32) : Option (Nat) :=
  if x0 = 0 then
  (some 1)
  else
  (if x0 = 1 then
  (some 2)
  else
  (some 3))
noncomputable def f_J1_canEncode_9a6ad (x0 : Int32) : Option (Int32) :=
  if x0 < 0 then
  (some 0)
  else
  (if 255 < x0 then
  (some 0)
  else
  (some 1))
noncomputable def b_J1_indexOfChar_4cfef_7 (c0 : Nat) (x3 : Int32) (x4 : Int32) (x5 : Int32) (σ : St) : Option ((Int32) ⊕ (Int32)) :=
  if x5 < x3 then
  (chk (inb x5 (slen c0)) <|
  if (sby c0 x5) = x4 then
  (some (.inr (x5)))
  else
  (some (.inl (x5 + 1))))
  else
  (some (.inr ((-1))))
noncomputable def f_J1_indexOfChar_4cfef_7 (c0 : Nat) (x3 : Int32) (x4 : Int32) (x5 : Int32) (σ : St) : Option (Int32) := it (fun z : Int32 => b_J1_indexOfChar_4cfef_7 c0 x3 x4 z σ) x5
noncomputable def f_J1_indexOfChar_4cfef (c0 : Nat) (x1 : Int32) (x2 : Int32) (x3 : Int32) (σ : St) : Option (Int32) :=
  chk (isStr c0) (f_J1_indexOfChar_4cfef_7 c0 x3 x1.toInt8.toInt32 x2 σ)
noncomputable def f_J1_indexOf_4cfef (c0 : Nat) (x1 : Int32) (x2 : Int32) (x3 : Int32) (σ : St) : Option (Int32) :=
  chk (isStr c0) (bd (f_J1_canEncode_9a6ad x1) fun r1 =>
  if r1 = 0 then
  (some (-1))
  else
  (nm (if (Int32.ofNat (slen c0)) < x3 then (Int32.ofNat (slen c0)) else x3) fun y5 =>
  if (if x2 < 0 then 0 else x2) < y5 then
  (bd (f_J1_indexOfChar_4cfef c0 x1 (if x2 < 0 then 0 else x2) y5 σ) fun r7 =>
  some r7)
  else
  (some (-1))))
noncomputable def f_J0_coder_7d493 (c0 : Nat) (σ : St) : Option (Int32) :=
  chk (isStr c0) (if (1 : Int32) = 0 then
  (some 1)
  else
  (some 0))
noncomputable def f_J0_isLatin1_aae02 (c0 : Nat) (σ : St) : Option (Int32) :=
  chk (isStr c0) (if (1 : Int32) = 0 then
  (some 0)
  else
  (if (0 : Int32) = 0 then
  (some 1)
  else
  (some 0)))
noncomputable def f_J0_length_8abf5 (c0 : Nat) (σ : St) : Option (Int32) :=
  chk (isStr c0) (bd (f_J0_coder_7d493 c0 σ) fun r1 =>
  some ((Int32.ofNat (slen c0)) >>> (r1 &&& 31)))
noncomputable def f_J0_indexOf_7cf53 (c0 : Nat) (x1 : Int32) (x2 : Int32) (σ : St) : Option (Int32) :=
  chk (isStr c0) (bd (f_J0_isLatin1_aae02 c0 σ) fun r1 =>
  if r1 = 0 then
  (bd (f_J0_length_8abf5 c0 σ) fun r5 =>
  none)
  else
  (bd (f_J0_length_8abf5 c0 σ) fun r8 =>
  bd (f_J1_indexOf_4cfef c0 x1 x2 r8 σ) fun r11 =>
  some r11))
noncomputable def f_J0_indexOf_0f7a4 (c0 : Nat) (x1 : Int32) (σ : St) : Option (Int32) :=
  chk (isStr c0) (bd (f_J0_indexOf_7cf53 c0 x1 0 σ) fun r1 =>
  some r1)
noncomputable def f_X8_settle_130 (F : Int32 → Int32 → Int32 → Int32 → St → Option (Int32 × St)) (x1 : Int32) (x2 : Int32) (x3 : Int32) (x4 : Int32) (x5 : Int32) (σ : St) : Option ((Int32 × St) ⊕ (Int32 × St)) :=
  some (.inl ((x5 + 1), σ))
noncomputable def f_X8_settle_104 (F : Int32 → Int32 → Int32 → Int32 → St → Option (Int32 × St)) (x1 : Int32) (x2 : Int32) (x3 : Int32) (x4 : Int32) (x5 : Int32) (s0 : Int32) (s1 : Int32) (σ : St) : Option ((Int32 × St) ⊕ (Int32 × St)) :=
  bd2 (F s1 s0 x3 x4 σ) fun r15 σ17 =>
  if r15 = 0 then
  (chk (inb x5 10) <|
  nm (wr σ17 34 x5 ((rd σ17 34 x5) &&& (((1 : Int32) <<< (x1 &&& 31)) ^^^ (-1)))) fun σ20 =>
  f_X8_settle_130 F x1 x2 x3 x4 x5 σ20)
  else
  (some (.inr ((1, σ17))))
noncomputable def b_X8_settle_34 (F : Int32 → Int32 → Int32 → Int32 → St → Option (Int32 × St)) (x1 : Int32) (x2 : Int32) (x3 : Int32) (x4 : Int32) (x5 : Int32) (σ : St) : Option ((Int32 × St) ⊕ (Int32 × St)) :=
  if x2 < x5 then
  (some (.inr ((0, σ))))
  else
  (if x5 < x3 then
  (chk (inb x5 10) <|
  chk (inb x1 10) <|
  if ((rd σ 34 x5) &&& (rd σ 32 x1)) = 0 then
  (nm (wr σ 34 x5 ((rd σ 34 x5) ||| ((1 : Int32) <<< (x1 &&& 31)))) fun σ12 =>
  nm (wr σ12 33 x1 x5) fun σ13 =>
  if x5 = x2 then
  (f_X8_settle_104 F x1 x2 x3 x4 x5 (x2 + 1) (x1 + 1) σ13)
  else
  (f_X8_settle_104 F x1 x2 x3 x4 x5 x2 (x1 + 1) σ13))
  else
  (f_X8_settle_130 F x1 x2 x3 x4 x5 σ))
  else
  (some (.inr ((0, σ)))))
noncomputable def f_X8_settle_34 (F : Int32 → Int32 → Int32 → Int32 → St → Option (Int32 × St)) (x1 : Int32) (x2 : Int32) (x3 : Int32) (x4 : Int32) (x5 : Int32) (σ : St) : Option (Int32 × St) := it (fun z : Int32 × St => b_X8_settle_34 F x1 x2 x3 x4 z.1 z.2) (x5, σ)
noncomputable def s_X8_settle (F : Int32 → Int32 → Int32 → Int32 → St → Option (Int32 × St)) (x1 : Int32) (x2 : Int32) (x3 : Int32) (x4 : Int32) (σ : St) : Option (Int32 × St) :=
  if x1 < (fd σ 1 1) then
  (if x1 = x4 then
  (bd2 (F (x1 + 1) x2 x3 x4 σ) fun r3 σ5 =>
  chk (isB r3) <|
  some (r3, σ5))
  else
  (f_X8_settle_34 F x1 x2 x3 x4 0 σ))
  else
  (some (1, σ))
noncomputable def f_X8_settle : Nat → Int32 → Int32 → Int32 → Int32 → St → Option (Int32 × St)
  | 0 => fun _ _ _ _ _ => none
  | n + 1 => s_X8_settle (f_X8_settle n)
noncomputable def f_X8_fewestGroups_47 (σ : St) : Option (Int32 × St) :=
  some ((fd σ 1 1), σ)
noncomputable def b_X8_fewestGroups_9 (x1 : Int32) (x2 : Int32) (σ : St) : Option ((Int32 × St) ⊕ (Int32 × St)) :=
  if (fd σ 1 1) < x2 then
  ((f_X8_fewestGroups_47 σ).map .inr)
  else
  (bd (f_J7_fill_53178 34 0 σ) fun σ8 =>
  bd2 (f_X8_settle 12 0 0 x2 x1 σ8) fun r9 σ11 =>
  if r9 = 0 then
  (some (.inl ((x2 + 1), σ11)))
  else
  (some (.inr ((x2, σ11)))))
noncomputable def f_X8_fewestGroups_9 (x1 : Int32) (x2 : Int32) (σ : St) : Option (Int32 × St) := it (fun z : Int32 × St => b_X8_fewestGroups_9 x1 z.1 z.2) (x2, σ)
noncomputable def f_X8_fewestGroups (x1 : Int32) (σ : St) : Option (Int32 × St) :=
  bd (f_X10_findBarred σ) fun σ3 =>
  f_X8_fewestGroups_9 x1 0 σ3
noncomputable def f_X11_fewest (σ : St) : Option (Int32 × St) :=
  bd2 (f_X8_fewestGroups (-1) σ) fun r1 σ3 =>
  some (r1, σ3)
noncomputable def f_X11_group (x1 : Int32) (σ : St) : Option (Int32 × St) :=
  bd (f_X4_hasPart x1 σ) fun r1 =>
  if r1 = 0 then
  (bd2 (f_X11_error 1 σ) fun r9 σ11 =>
  some (r9, σ11))
  else
  (bd2 (f_X8_fewestGroups (-1) σ) fun r5 σ7 =>
  chk (inb x1 10) <|
  some ((rd σ7 33 x1), σ7))
noncomputable def f_X11_helps (x1 : Int32) (x2 : Int32) (σ : St) : Option (Int32 × St) :=
  bd (f_X11_shiftError x1 x2 σ) fun r1 =>
  if r1 = 0 then
  (bd (f_X4_delay x1 x2 σ) fun σ7 =>
  bd2 (f_X8_fewestGroups (-1) σ7) fun r8 σ10 =>
  bd (f_X4_delay x1 (-x2) σ10) fun σ13 =>
  some (r8, σ13))
  else
  (bd2 (f_X11_error r1 σ) fun r14 σ16 =>
  some (r14, σ16))
noncomputable def f_X11_without (x1 : Int32) (σ : St) : Option (Int32 × St) :=
  bd (f_X4_hasPart x1 σ) fun r1 =>
  if r1 = 0 then
  (bd2 (f_X11_error 1 σ) fun r8 σ10 =>
  some (r8, σ10))
  else
  (bd2 (f_X8_fewestGroups x1 σ) fun r5 σ7 =>
  some (r5, σ7))
noncomputable def b_X5_readLevel_34 (F1 : Int32 → Int32 → St → Option (St)) (F2 : Int32 → St → Option (St)) (x1 : Int32) (x2 : Int32) (x3 : Int32) (x4 : Int32) (σ : St) : Option ((Int32 × St) ⊕ (St)) :=
  if x4 < x3 then
  (if (fd σ 5 4) = 0 then
  (bd (f_X5_next σ) fun r11 =>
  bd (f_X5_levelOf r11) fun r14 =>
  if r14 = x1 then
  (bd (f_X5_next σ) fun r18 =>
  nm (fw σ 5 3 ((fd σ 5 3) + 1)) fun σ21 =>
  bd (F1 (x1 + 1) x2 σ21) fun σ24 =>
  bd (f_X7_add 72 r18 σ24) fun σ27 =>
  some (.inl ((x4 + 1), σ27)))
  else
  (some (.inr (σ))))
  else
  (some (.inr (σ))))
  else
  (some (.inr (σ)))
noncomputable def f_X5_readLevel_34 (F1 : Int32 → Int32 → St → Option (St)) (F2 : Int32 → St → Option (St)) (x1 : Int32) (x2 : Int32) (x3 : Int32) (x4 : Int32) (σ : St) : Option (St) := it (fun z : Int32 × St => b_X5_readLevel_34 F1 F2 x1 x2 x3 z.1 z.2) (x4, σ)
noncomputable def f_X5_readLevel_30 (F1 : Int32 → Int32 → St → Option (St)) (F2 : Int32 → St → Option (St)) (x1 : Int32) (x2 : Int32) (s0 : Int32) (σ : St) : Option (St) :=
  f_X5_readLevel_34 F1 F2 x1 x2 s0 0 σ
noncomputable def s_X5_readLevel (F1 : Int32 → Int32 → St → Option (St)) (F2 : Int32 → St → Option (St)) (x1 : Int32) (x2 : Int32) (σ : St) : Option (St) :=
  if x1 < 5 then
  (bd (F1 (x1 + 1) x2 σ) fun σ4 =>
  if x1 = 2 then
  (f_X5_readLevel_30 F1 F2 x1 x2 1 σ4)
  else
  (f_X5_readLevel_30 F1 F2 x1 x2 50 σ4))
  else
  (bd (F2 x2 σ) fun σ8 =>
  some σ8)
noncomputable def f_X5_readUnit_132 (F1 : Int32 → Int32 → St → Option (St)) (F2 : Int32 → St → Option (St)) (σ : St) : Option (St) :=
  nm (fw σ 5 4 1) fun σ38 =>
  some σ38
noncomputable def f_X5_readUnit_96 (F1 : Int32 → Int32 → St → Option (St)) (F2 : Int32 → St → Option (St)) (x1 : Int32) (x2 : Int32) (σ : St) : Option (St) :=
  if x2 = 40 then
  (if x1 < 5 then
  (nm (fw σ 5 3 ((fd σ 5 3) + 1)) fun σ31 =>
  bd (F1 0 (x1 + 1) σ31) fun σ34 =>
  bd (f_X5_readClosing σ34) fun σ37 =>
  some σ37)
  else
  (f_X5_readUnit_132 F1 F2 σ))
  else
  (f_X5_readUnit_132 F1 F2 σ)
noncomputable def f_X5_readUnit_57 (F1 : Int32 → Int32 → St → Option (St)) (F2 : Int32 → St → Option (St)) (x1 : Int32) (x2 : Int32) (σ : St) : Option (St) :=
  if x2 = 33 then
  (if x1 < 5 then
  (nm (fw σ 5 3 ((fd σ 5 3) + 1)) fun σ22 =>
  bd (F2 (x1 + 1) σ22) fun σ25 =>
  bd (f_X7_add 72 x2 σ25) fun σ28 =>
  some σ28)
  else
  (f_X5_readUnit_96 F1 F2 x1 x2 σ))
  else
  (f_X5_readUnit_96 F1 F2 x1 x2 σ)
noncomputable def s_X5_readUnit (F1 : Int32 → Int32 → St → Option (St)) (F2 : Int32 → St → Option (St)) (x1 : Int32) (σ : St) : Option (St) :=
  bd (f_X5_next σ) fun r1 =>
  bd (f_X5_isDigit r1) fun r4 =>
  if r4 = 0 then
  (if r1 = (-1) then
  (f_X5_readUnit_57 F1 F2 x1 r1 σ)
  else
  (bd (f_J0_indexOf_0f7a4 (rc σ 5 2) ((r1.toUInt32 % 65536).toInt32) σ) fun r9 =>
  if r9 < 0 then
  (f_X5_readUnit_57 F1 F2 x1 r1 σ)
  else
  (bd (f_X7_add 72 r1 σ) fun σ15 =>
  nm (fw σ15 5 3 ((fd σ15 5 3) + 1)) fun σ16 =>
  some σ16)))
  else
  (bd (f_X5_readNumber σ) fun σ19 =>
  some σ19)
noncomputable def f_X5_read : Nat → (Int32 → Int32 → St → Option St) × (Int32 → St → Option St)
  | 0 => (fun _ _ _ => none, fun _ _ => none)
  | n + 1 => (s_X5_readLevel (f_X5_read n).1 (f_X5_read n).2, s_X5_readUnit (f_X5_read n).1 (f_X5_read n).2)
noncomputable def f_X5_readLevel (n : Nat) : Int32 → Int32 → St → Option St := (f_X5_read n).1
noncomputable def f_X5_reads (x2 : Int32) (σ : St) : Option (Int32 × St) :=
  nm (fw σ 5 1 (nI 52)) fun σ1 =>
  bd (f_X5_namesOf x2) fun r2 =>
  chk (decide (r2 < 2 ^ 31)) <|
  nm (fw σ1 5 2 (nI r2)) fun σ5 =>
  nm (fw σ5 5 3 0) fun σ7 =>
  nm (fw σ7 5 4 0) fun σ8 =>
  nm (fw σ8 72 1 0) fun σ9 =>
  bd (f_X5_readLevel 60 0 0 σ9) fun σ12 =>
  if (fd σ12 5 4) = 0 then
  (chk (isRow (rc σ12 5 1)) <|
  if (fd σ12 5 3) = (fd σ12 (rc σ12 5 1) 1) then
  (some (1, σ12))
  else
  (some (0, σ12)))
  else
  (some (0, σ12))
noncomputable def f_X11_text (x1 : Int32) (σ : St) : Option (Int32 × St) :=
  bd (f_X11_isWithin x1 3) fun r1 =>
  if r1 = 0 then
  (bd2 (f_X11_error 1 σ) fun r15 σ17 =>
  some (r15, σ17))
  else
  (bd2 (f_X5_reads x1 σ) fun r5 σ7 =>
  nm (fw σ7 52 1 0) fun σ8 =>
  if r5 = 0 then
  (some (((-10) - (fd σ8 5 3)), σ8))
  else
  (chk (inb x1 3) <|
  bd (f_X7_become (56 + 2 * x1.toNatClampNeg) 72 σ8) fun σ14 =>
  some (1, σ14)))
