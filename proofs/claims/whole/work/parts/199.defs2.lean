noncomputable def f_X6_init (c0 : Nat) (x1 : Int32) (x2 : Int32) (x3 : Int32) (σ : St) : Option St :=
  chk (isRole σ c0) <|
  nm (fw σ c0 0 x1) fun σ1 => chk (isRole σ1 c0) <|
  nm (fw σ1 c0 1 x2) fun σ2 => chk (isRole σ2 c0) <|
  nm (fw σ2 c0 2 (x3 / 1000)) fun σ3 => chk (isRole σ3 c0) <|
  nm (fw σ3 c0 3 ((x3 / 10) - ((x3 / 10) / 100) * 100)) fun σ4 => chk (isRole σ4 c0) <|
  nm (fw σ4 c0 4 (x3 - (x3 / 10) * 10)) fun σ5 => some σ5
noncomputable def f_X11_newRole (x1 : Int32) (x2 : Int32) (σ : St) : Option St :=
  chk (okR σ) <| f_X6_init (110 + σ.1) (fd σ 1 1) x1 x2 (nrole σ (if x1 = 1 then 9 else if x1 = 2 then 2 else if x1 = 3 then 3 else if x1 = 4 then 1 else if x1 = 5 then 0 else 6))
noncomputable def f_X11_part (x1 : Int32) (x2 : Int32) (σ : St) : Option (Int32 × St) :=
  bd (f_X11_isWithin x1 6) fun r1 =>
  if r1 = 0 then (f_X11_error 1 σ) else
  (bd (f_X11_isWithin x2 10000) fun r2 =>
  if r2 = 0 then (f_X11_error 1 σ) else
  (if (fd σ 1 1) < 10 then (bd (f_X11_newRole x1 x2 σ) fun σ1 => f_X4_addPart (110 + σ.1) σ1) else (f_X11_error 4 σ)))
