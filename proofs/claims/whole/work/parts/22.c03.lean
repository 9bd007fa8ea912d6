def ebX6_add_43 (g : Shp) (m : Mem) : Option (Int × Mem) :=
  some (0, m)
def ebX6_add_0 (g : Shp) (x1 x2 : Int) (m : Mem) : Option (Int × Mem) :=
  if x1 ≤ 0 then
    ebX6_add_43 g m
  else
    if 60 ≤ (m 6 2) then
      ebX6_add_43 g m
    else
      ck ((0 : Int) ≤ (m 6 2) ∧ (m 6 2) < 60) <|
      vm (ms m 7 (m 6 2) x1) fun m5 =>
      ck ((0 : Int) ≤ (m5 6 2) ∧ (m5 6 2) < 60) <|
      ck (x2 = 0 ∨ x2 = 1) <|
      vm (ms m5 8 (m5 6 2) x2) fun m9 =>
      vm (ms m9 6 2 (w32 ((m9 6 2) + 1))) fun m10 =>
      ebX6_add_43 g m10
def eX6_add (g : Shp) (x1 x2 : Int) (m : Mem) : Option (Int × Mem) := ebX6_add_0 g x1 x2 m
def ebX6_split_62 (g : Shp) (x1 x2 x3 x4 x5 : Int) (m : Mem) : Option (Int × (Int × Int × Mem)) :=
  vv (w32 (x3 + 1)) fun y1 =>
  some (0, (y1, x5, m))
def ebX6_split_22 (g : Shp) (x1 x2 x3 x4 x5 : Int) (m : Mem) : Option (Int × (Int × Int × Mem)) :=
  ck ((0 : Int) ≤ x4 ∧ x4 < 5) <|
  if (m (x1 + 2) x4) < x3 then
    some (1, (x3, x5, m))
  else
    ck ((0 : Int) ≤ x3 ∧ x3 < 60) <|
    ck ((0 : Int) ≤ (m (x1 + 1) x3) ∧ (m (x1 + 1) x3) < gl g x2) <|
    if (m x2 (m (x1 + 1) x3)) = ((-4)) then
      vv (w32 (x5 + 1)) fun y8 =>
      ebX6_split_62 g x1 x2 x3 x4 y8 m
    else
      bd2 (eX6_add g x5 0 m) fun v9 m10 =>
      ebX6_split_62 g x1 x2 x3 x4 0 m10
def eBX6_split_22 (g : Shp) (x1 x2 x4 : Int) (q : (Int × Int × Mem)) : Option (Int × (Int × Int × Mem)) := ebX6_split_22 g x1 x2 q.1 x4 q.2.1 q.2.2
def ebX6_split_87 (g : Shp) (x1 x2 x3 x4 z1 z2 : Int) (m : Mem) : Option (Int × (Int × Int × Mem)) :=
  bd2 (eX6_add g z1 z2 m) fun v1 m2 =>
  vv (w32 (x4 + 1)) fun y4 =>
  some (0, (x3, y4, m2))
def ebX6_split_68 (g : Shp) (x1 x2 x3 x4 x5 : Int) (m : Mem) : Option (Int × (Int × Int × Mem)) :=
  if (w32 ((m x1 3) - 1)) ≤ x4 then
    ebX6_split_87 g x1 x2 x3 x4 x5 0 m
  else
    ebX6_split_87 g x1 x2 x3 x4 x5 1 m
def ebX6_split_10 (g : Shp) (x1 x2 x3 x4 : Int) (m : Mem) : Option (Int × (Int × Int × Mem)) :=
  if (m x1 3) ≤ x4 then
    some (1, (x3, x4, m))
  else
    bdl (iter (eBX6_split_22 g x1 x2 x4) 100000 (x3, 0, m)) fun cv2 sv3 =>
    ebX6_split_68 g x1 x2 sv3.1 x4 sv3.2.1 sv3.2.2
def eBX6_split_10 (g : Shp) (x1 x2 : Int) (q : (Int × Int × Mem)) : Option (Int × (Int × Int × Mem)) := ebX6_split_10 g x1 x2 q.1 q.2.1 q.2.2
def ebX6_split_96 (g : Shp) (m : Mem) : Option (Int × Mem) :=
  some (0, m)
def ebX6_split_0 (g : Shp) (x1 x2 : Int) (m : Mem) : Option (Int × Mem) :=
  vm (ms m 6 2 0) fun m1 =>
  bdl (iter (eBX6_split_10 g x1 x2) 100000 (0, 0, m1)) fun cv2 sv3 =>
  ebX6_split_96 g sv3.2.2
def eX6_split (g : Shp) (x1 x2 : Int) (m : Mem) : Option (Int × Mem) := ebX6_split_0 g x1 x2 m
def ebX7_clear_0 (g : Shp) (x0 : Int) (m : Mem) : Option (Int × Mem) :=
  ck ((0 : Int) ≤ 0 ∧ 0 < (3 : Int)) <|
  vm (ms m (x0 + 1) 0 2) fun m3 =>
  ck ((0 : Int) ≤ 1 ∧ 1 < (3 : Int)) <|
  vm (ms m3 (x0 + 1) 1 3) fun m6 =>
  ck ((0 : Int) ≤ 2 ∧ 2 < (3 : Int)) <|
  vm (ms m6 (x0 + 1) 2 5) fun m9 =>
  bd2 (eJ7_fill_53178 g (x0 + 2) 6 m9) fun v11 m12 =>
  bd2 (eJ7_fill_53178 g (x0 + 4) 0 m12) fun v15 m16 =>
  vm (ms m16 x0 4 0) fun m18 =>
  vm (ms m18 x0 5 0) fun m19 =>
  some (0, m19)
def eX7_clear (g : Shp) (x0 : Int) (m : Mem) : Option (Int × Mem) := ebX7_clear_0 g x0 m
def ebX7_goesOver_18 (g : Shp) (z0 : Int) (m : Mem) : Option (Int × Mem) :=
  ck (z0 = 0 ∨ z0 = 1) <|
  some (z0, m)
def ebX7_goesOver_0 (g : Shp) (x0 x1 x2 : Int) (m : Mem) : Option (Int × Mem) :=
  ck ((0 : Int) ≤ x2 ∧ x2 < 400) <|
  if (bAnd (m (x0 + 4) x2) (bShl 1 x1)) = 0 then
    ebX7_goesOver_18 g 0 m
  else
    ebX7_goesOver_18 g 1 m
def eX7_goesOver (g : Shp) (x0 x1 x2 : Int) (m : Mem) : Option (Int × Mem) := ebX7_goesOver_0 g x0 x1 x2 m
def ebJ6_bitCount_0f7a4_0 (g : Shp) (x0 : Int) (m : Mem) : Option (Int × Mem) :=
  vv (w32 (x0 - (bAnd (bUshr x0 1) 1431655765))) fun y1 =>
  vv (w32 ((bAnd y1 858993459) + (bAnd (bUshr y1 2) 858993459))) fun y2 =>
  vv (bAnd (w32 (y2 + (bUshr y2 4))) 252645135) fun y3 =>
  vv (w32 (y3 + (bUshr y3 8))) fun y4 =>
  vv (w32 (y4 + (bUshr y4 16))) fun y5 =>
  some (bAnd y5 63, m)
def eJ6_bitCount_0f7a4 (g : Shp) (x0 : Int) (m : Mem) : Option (Int × Mem) := ebJ6_bitCount_0f7a4_0 g x0 m
def ebX7_sharedCells_27 (g : Shp) (x0 x1 x2 : Int) (m : Mem) : Option (Int × (Int × Int × Mem)) :=
  vv (w32 (x2 + 1)) fun y1 =>
  some (0, (x1, y1, m))
def ebX7_sharedCells_4 (g : Shp) (x0 x1 x2 : Int) (m : Mem) : Option (Int × (Int × Int × Mem)) :=
  if 400 ≤ x2 then
    some (1, (x1, x2, m))
  else
    ck ((0 : Int) ≤ x2 ∧ x2 < 400) <|
    bd2 (eJ6_bitCount_0f7a4 g (m (x0 + 4) x2) m) fun v4 m5 =>
    if v4 ≤ 1 then
      ebX7_sharedCells_27 g x0 x1 x2 m5
    else
      vv (w32 (x1 + 1)) fun y8 =>
      ebX7_sharedCells_27 g x0 y8 x2 m5
def eBX7_sharedCells_4 (g : Shp) (x0 : Int) (q : (Int × Int × Mem)) : Option (Int × (Int × Int × Mem)) := ebX7_sharedCells_4 g x0 q.1 q.2.1 q.2.2
def ebX7_sharedCells_33 (g : Shp) (x1 : Int) (m : Mem) : Option (Int × Mem) :=
  some (x1, m)
def ebX7_sharedCells_0 (g : Shp) (x0 : Int) (m : Mem) : Option (Int × Mem) :=
  bdl (iter (eBX7_sharedCells_4 g x0) 100000 (0, 0, m)) fun cv1 sv2 =>
  ebX7_sharedCells_33 g sv2.1 sv2.2.2
def eX7_sharedCells (g : Shp) (x0 : Int) (m : Mem) : Option (Int × Mem) := ebX7_sharedCells_0 g x0 m
def ebX8_append_30 (g : Shp) (m : Mem) : Option (Int × Mem) :=
  some (0, m)
def ebX8_append_0 (g : Shp) (x1 : Int) (m : Mem) : Option (Int × Mem) :=
  if 200 ≤ (m 2 3) then
    ebX8_append_30 g m
  else
    ck ((0 : Int) ≤ (m 2 3) ∧ (m 2 3) < 200) <|
    ck ((0 : Int) ≤ x1 ∧ x1 < 65536) <|
    vm (ms m 3 (m 2 3) x1) fun m5 =>
    vm (ms m5 2 3 (w32 ((m5 2 3) + 1))) fun m6 =>
    ebX8_append_30 g m6
def eX8_append (g : Shp) (x1 : Int) (m : Mem) : Option (Int × Mem) := ebX8_append_0 g x1 m
def ebX8_take_24 (g : Shp) (m : Mem) : Option (Int × Mem) :=
  some (0, m)
def ebX8_take_0 (g : Shp) (x1 : Int) (m : Mem) : Option (Int × Mem) :=
  if (m 2 3) ≤ (m 2 2) then
    ebX8_take_24 g m
  else
    ck ((0 : Int) ≤ (m 2 2) ∧ (m 2 2) < 200) <|
    if (m 3 (m 2 2)) = x1 then
      vm (ms m 2 2 (w32 ((m 2 2) + 1))) fun m5 =>
      some (1, m5)
    else
      ebX8_take_24 g m
def eX8_take (g : Shp) (x1 : Int) (m : Mem) : Option (Int × Mem) := ebX8_take_0 g x1 m
def ebX8_readNumber_5 (g : Shp) (x1 x2 x3 x4 : Int) (m : Mem) : Option (Int × (Int × Int × Mem)) :=
  if 2 ≤ x4 then
    some (1, (x3, x4, m))
  else
    if (m 2 3) ≤ (m 2 2) then
      some (1, (x3, x4, m))
    else
      ck ((0 : Int) ≤ (m 2 2) ∧ (m 2 2) < 200) <|
      if (m 3 (m 2 2)) < 48 then
        some (1, (x3, x4, m))
      else
        ck ((0 : Int) ≤ (m 2 2) ∧ (m 2 2) < 200) <|
        if 57 < (m 3 (m 2 2)) then
          some (1, (x3, x4, m))
        else
          ck ((0 : Int) ≤ (m 2 2) ∧ (m 2 2) < 200) <|
          vv (w32 ((w32 (10 * x3)) + (w32 ((m 3 (m 2 2)) - 48)))) fun y11 =>
          vv (w32 (x4 + 1)) fun y12 =>
          vm (ms m 2 2 (w32 ((m 2 2) + 1))) fun m13 =>
          some (0, (y11, y12, m13))
def eBX8_readNumber_5 (g : Shp) (x1 x2 : Int) (q : (Int × Int × Mem)) : Option (Int × (Int × Int × Mem)) := ebX8_readNumber_5 g x1 x2 q.1 q.2.1 q.2.2
def ebX8_readNumber_104 (g : Shp) (z0 : Int) (m : Mem) : Option (Int × Mem) :=
  some (z0, m)
def ebX8_readNumber_103 (g : Shp) (m : Mem) : Option (Int × Mem) :=
  ebX8_readNumber_104 g ((-1)) m
def ebX8_readNumber_84 (g : Shp) (x1 x2 x3 x4 : Int) (m : Mem) : Option (Int × Mem) :=
  if x4 ≤ 0 then
    ebX8_readNumber_103 g m
  else
    if x3 < x1 then
      ebX8_readNumber_103 g m
    else
      if x2 < x3 then
        ebX8_readNumber_103 g m
      else
        ebX8_readNumber_104 g x3 m
def ebX8_readNumber_0 (g : Shp) (x1 x2 : Int) (m : Mem) : Option (Int × Mem) :=
  bdl (iter (eBX8_readNumber_5 g x1 x2) 100000 (0, 0, m)) fun cv1 sv2 =>
  ebX8_readNumber_84 g x1 x2 sv2.1 sv2.2.1 sv2.2.2
def eX8_readNumber (g : Shp) (x1 x2 : Int) (m : Mem) : Option (Int × Mem) := ebX8_readNumber_0 g x1 x2 m
def ebX8_readNumbers_35 (g : Shp) (x1 x2 x3 x4 : Int) (m : Mem) : Option (Int × (Int × Mem)) :=
  bd2 (eX8_readNumber g x2 x3 m) fun v2 m3 =>
  ck ((0 : Int) ≤ x4 ∧ x4 < 4) <|
  vm (ms m3 4 x4 v2) fun m6 =>
  ck ((0 : Int) ≤ x4 ∧ x4 < 4) <|
  if (m6 4 x4) = ((-1)) then
    some (2, (x4, m6))
  else
    vv (w32 (x4 + 1)) fun y10 =>
    some (0, (y10, m6))
def ebX8_readNumbers_3 (g : Shp) (x1 x2 x3 x4 : Int) (m : Mem) : Option (Int × (Int × Mem)) :=
  if x1 ≤ x4 then
    some (3, (x4, m))
  else
    if 4 ≤ x4 then
      some (3, (x4, m))
    else
      if x4 ≤ 0 then
        ebX8_readNumbers_35 g x1 x2 x3 x4 m
      else
        bd2 (eX8_take g 44 m) fun v5 m6 =>
        if v5 = 0 then
          some (1, (x4, m6))
        else
          ebX8_readNumbers_35 g x1 x2 x3 x4 m6
def eBX8_readNumbers_3 (g : Shp) (x1 x2 x3 : Int) (q : (Int × Mem)) : Option (Int × (Int × Mem)) := ebX8_readNumbers_3 g x1 x2 x3 q.1 q.2
def ebX8_readNumbers_33 (g : Shp) (m : Mem) : Option (Int × Mem) :=
  some (0, m)
def ebX8_readNumbers_59 (g : Shp) (m : Mem) : Option (Int × Mem) :=
  some (0, m)
def ebX8_readNumbers_67 (g : Shp) (m : Mem) : Option (Int × Mem) :=
  some (1, m)
def ebX8_readNumbers_0 (g : Shp) (x1 x2 x3 : Int) (m : Mem) : Option (Int × Mem) :=
  bdl (iter (eBX8_readNumbers_3 g x1 x2 x3) 100000 (0, m)) fun cv1 sv2 =>
  if cv1 = 1 then
    ebX8_readNumbers_33 g sv2.2
  else
    if cv1 = 2 then
      ebX8_readNumbers_59 g sv2.2
    else
      ebX8_readNumbers_67 g sv2.2
def eX8_readNumbers (g : Shp) (x1 x2 x3 : Int) (m : Mem) : Option (Int × Mem) := ebX8_readNumbers_0 g x1 x2 x3 m
def ebX8_readSizes_43 (g : Shp) (m : Mem) : Option (Int × Mem) :=
  some (0, m)
def ebX8_readSizes_0 (g : Shp) (x1 : Int) (m : Mem) : Option (Int × Mem) :=
  bd2 (eX8_readNumbers g 3 1 9 m) fun v1 m2 =>
  if v1 = 0 then
    some (0, m2)
  else
    ck ((0 : Int) ≤ 0 ∧ 0 < (4 : Int)) <|
    ck ((0 : Int) ≤ 1 ∧ 1 < (4 : Int)) <|
    if (m2 4 1) ≤ (m2 4 0) then
      ebX8_readSizes_43 g m2
    else
      ck ((0 : Int) ≤ 1 ∧ 1 < (4 : Int)) <|
      ck ((0 : Int) ≤ 2 ∧ 2 < (4 : Int)) <|
      if (m2 4 1) < (m2 4 2) then
        ck ((0 : Int) ≤ 0 ∧ (0 : Int) ≤ 0 ∧ (0 : Int) ≤ 3 ∧ 0 + 3 ≤ (4 : Int) ∧ 0 + 3 ≤ (3 : Int)) <|
        vm (mcp m2 4 0 (x1 + 1) 0 3) fun m18 =>
        some (1, m18)
      else
        ebX8_readSizes_43 g m2
def eX8_readSizes (g : Shp) (x1 : Int) (m : Mem) : Option (Int × Mem) := ebX8_readSizes_0 g x1 m
def ebX8_readJoint_0 (g : Shp) (x1 : Int) (m : Mem) : Option (Int × Mem) :=
  bd2 (eX8_readNumbers g 1 0 2 m) fun v1 m2 =>
  if v1 = 0 then
    some (0, m2)
  else
    ck ((0 : Int) ≤ 0 ∧ 0 < (4 : Int)) <|
    vm (ms m2 x1 4 (m2 4 0)) fun m7 =>
    some (1, m7)
def eX8_readJoint (g : Shp) (x1 : Int) (m : Mem) : Option (Int × Mem) := ebX8_readJoint_0 g x1 m
def ebX10_isColour_14 (g : Shp) (z0 : Int) (m : Mem) : Option (Int × Mem) :=
  ck (z0 = 0 ∨ z0 = 1) <|
  some (z0, m)
def ebX10_isColour_13 (g : Shp) (m : Mem) : Option (Int × Mem) :=
  ebX10_isColour_14 g 0 m
def ebX10_isColour_0 (g : Shp) (x0 : Int) (m : Mem) : Option (Int × Mem) :=
  if x0 < 0 then
    ebX10_isColour_13 g m
  else
    if 3 ≤ x0 then
      ebX10_isColour_13 g m
    else
      ebX10_isColour_14 g 1 m
def eX10_isColour (g : Shp) (x0 : Int) (m : Mem) : Option (Int × Mem) := ebX10_isColour_0 g x0 m
def ebX8_readBag_23 (g : Shp) (m : Mem) : Option (Int × Mem) :=
  some (0, m)
def ebX8_readBag_0 (g : Shp) (x1 : Int) (m : Mem) : Option (Int × Mem) :=
  bd2 (eX8_readNumbers g 4 0 6 m) fun v1 m2 =>
  if v1 = 0 then
    ebX8_readBag_23 g m2
  else
    ck ((0 : Int) ≤ 0 ∧ 0 < (4 : Int)) <|
    bd2 (eX10_isColour g (m2 4 0) m2) fun v7 m8 =>
    if v7 = 0 then
      ebX8_readBag_23 g m8
    else
      ck ((0 : Int) ≤ 0 ∧ 0 < (4 : Int)) <|
      ck ((0 : Int) ≤ 1 ∧ (0 : Int) ≤ (w32 ((m8 4 0) * 3)) ∧ (0 : Int) ≤ 3 ∧ 1 + 3 ≤ (4 : Int) ∧ (w32 ((m8 4 0) * 3)) + 3 ≤ (9 : Int)) <|
      vm (mcp m8 4 1 (x1 + 2) (w32 ((m8 4 0) * 3)) 3) fun m16 =>
      some (1, m16)
def eX8_readBag (g : Shp) (x1 : Int) (m : Mem) : Option (Int × Mem) := ebX8_readBag_0 g x1 m
def ebX8_readRun_103 (g : Shp) (z0 : Int) (m : Mem) : Option (Int × Mem) :=
  ck (z0 = 0 ∨ z0 = 1) <|
  some (z0, m)
def ebX8_readRun_102 (g : Shp) (m : Mem) : Option (Int × Mem) :=
  ebX8_readRun_103 g 0 m
def ebX8_readRun_68 (g : Shp) (x1 x2 x3 x4 x5 : Int) (m : Mem) : Option (Int × Mem) :=
  bd2 (eX8_readNumber g 1 12 m) fun v1 m2 =>
  if v1 = ((-1)) then
    ebX8_readRun_102 g m2
  else
    bd2 (eX5_go g x1 x4 x5 v1 x2 x3 m2) fun v5 m6 =>
    if v5 = 0 then
      ebX8_readRun_102 g m6
    else
      ebX8_readRun_103 g 1 m6
def ebX8_readRun_0 (g : Shp) (x1 x2 x3 : Int) (m : Mem) : Option (Int × Mem) :=
  bd2 (eX8_take g 114 m) fun v1 m2 =>
  if v1 = 0 then
    bd2 (eX8_take g 108 m2) fun v5 m6 =>
    if v5 = 0 then
      bd2 (eX8_take g 117 m6) fun v9 m10 =>
      if v9 = 0 then
        bd2 (eX8_take g 100 m10) fun v13 m14 =>
        if v13 = 0 then
          some (0, m14)
        else
          ebX8_readRun_68 g x1 x2 x3 0 1 m14
      else
        ebX8_readRun_68 g x1 x2 x3 0 ((-1)) m10
    else
      ebX8_readRun_68 g x1 x2 x3 ((-1)) 0 m6
  else
    ebX8_readRun_68 g x1 x2 x3 1 0 m2
def eX8_readRun (g : Shp) (x1 x2 x3 : Int) (m : Mem) : Option (Int × Mem) := ebX8_readRun_0 g x1 x2 x3 m
def ebX8_readLine_120 (g : Shp) (x1 x2 x3 : Int) (m : Mem) : Option (Int × (Int × Mem)) :=
  vv (w32 (x3 + 1)) fun y1 =>
  some (0, (y1, m))
def ebX8_readLine_58 (g : Shp) (x1 x2 x3 : Int) (m : Mem) : Option (Int × (Int × Mem)) :=
  if 5 ≤ x3 then
    some (3, (x3, m))
  else
    bd2 (eX8_readRun g x2 (x1 + 4) (bShl 1 (m x1 5)) m) fun v3 m4 =>
    if v3 = 0 then
      some (1, (x3, m4))
    else
      if (m4 2 3) ≤ (m4 2 2) then
        ebX8_readLine_120 g x1 x2 x3 m4
      else
        ck ((0 : Int) ≤ (m4 2 2) ∧ (m4 2 2) < 200) <|
        if (m4 3 (m4 2 2)) = 59 then
          some (2, (x3, m4))
        else
          ebX8_readLine_120 g x1 x2 x3 m4
def eBX8_readLine_58 (g : Shp) (x1 x2 : Int) (q : (Int × Mem)) : Option (Int × (Int × Mem)) := ebX8_readLine_58 g x1 x2 q.1 q.2
def ebX8_readLine_28 (g : Shp) (m : Mem) : Option (Int × Mem) :=
  some (0, m)
def ebX8_readLine_81 (g : Shp) (m : Mem) : Option (Int × Mem) :=
  some (0, m)
def ebX8_readLine_108 (g : Shp) (x1 : Int) (m : Mem) : Option (Int × Mem) :=
  vm (ms m x1 5 (w32 ((m x1 5) + 1))) fun m1 =>
  some (1, m1)
def ebX8_readLine_126 (g : Shp) (m : Mem) : Option (Int × Mem) :=
  some (0, m)
def ebX8_readLine_0 (g : Shp) (x1 : Int) (m : Mem) : Option (Int × Mem) :=
  if 3 ≤ (m x1 5) then
    ebX8_readLine_28 g m
  else
    bd2 (eX8_readNumbers g 2 0 19 m) fun v2 m3 =>
    if v2 = 0 then
      ebX8_readLine_28 g m3
    else
      bd2 (eX8_take g 44 m3) fun v6 m7 =>
      if v6 = 0 then
        ebX8_readLine_28 g m7
      else
        ck ((0 : Int) ≤ (m7 x1 5) ∧ (m7 x1 5) < 3) <|
        ck ((0 : Int) ≤ 0 ∧ 0 < (4 : Int)) <|
        ck ((0 : Int) ≤ 1 ∧ 1 < (4 : Int)) <|
        bd2 (eX5_begin g (x1 + 3 + (2 + 3 * (m7 x1 5))) (m7 4 0) (m7 4 1) m7) fun v18 m19 =>
        bdl (iter (eBX8_readLine_58 g x1 (x1 + 3 + (2 + 3 * (m7 x1 5)))) 100000 (0, m19)) fun cv21 sv22 =>
        if cv21 = 1 then
          ebX8_readLine_81 g sv22.2
        else
          if cv21 = 2 then
            ebX8_readLine_108 g x1 sv22.2
          else
            ebX8_readLine_126 g sv22.2
def eX8_readLine (g : Shp) (x1 : Int) (m : Mem) : Option (Int × Mem) := ebX8_readLine_0 g x1 m
set_option maxRecDepth 20000 in
theorem qX6_add_43 {g : Shp} {m : Mem} (h : Sh g m)  : bX6_add_43 g m = ebX6_add_43 g m := by
  unfold bX6_add_43 ebX6_add_43
  rfl
theorem nX6_add_43 {g : Shp} {m : Mem} (h : Sh g m)  {r : Int} {m' : Mem} (hF : ebX6_add_43 g m = some (r, m')) : Sh g m' := by
  unfold ebX6_add_43 at hF
  cases hF
  exact h
set_option maxRecDepth 20000 in
theorem qX6_add_0 {g : Shp} {m : Mem} {x1 x2 : Int} (h : Sh g m)  : bX6_add_0 g 6 x1 x2 m = ebX6_add_0 g x1 x2 m := by
  unfold bX6_add_0 ebX6_add_0
  refine if_c (fun hc1 => ?_) (fun hc1 => ?_)
  · exact qX6_add_43 h
  · refine if_c (fun hc2 => ?_) (fun hc2 => ?_)
    · exact qX6_add_43 h
    · have k3 := s_6_0 h
      rewrite [k3.1, ck_t k3.2.1]
      try rewrite [k3.2.2]
      refine ck_c (fun i4 => ?_)
      refine vm_c (fun m5 em5 => ?_)
      have hm5 := h.s em5 (nRa k3.2.1 (by decide))
      have k6 := s_6_1 hm5
      rewrite [k6.1, ck_t k6.2.1]
      try rewrite [k6.2.2]
      refine ck_c (fun i7 => ?_)
      refine ck_c (fun b8 => ?_)
      refine vm_c (fun m9 em9 => ?_)
      have hm9 := hm5.s em9 (nRa k6.2.1 (by decide))
      refine vm_c (fun m10 em10 => ?_)
      have hm10 := hm9.s em10 (nRf (sk_6 hm9) (by decide) (by decide))
      exact qX6_add_43 hm10 
theorem nX6_add_0 {g : Shp} {m : Mem} {x1 x2 : Int} (h : Sh g m)  {r : Int} {m' : Mem} (hF : ebX6_add_0 g x1 x2 m = some (r, m')) : Sh g m' := by
  unfold ebX6_add_0 at hF
  rcases if_ok hF with ⟨hc1, hF⟩ | ⟨hc1, hF⟩
  · exact nX6_add_43 h  hF
  · rcases if_ok hF with ⟨hc2, hF⟩ | ⟨hc2, hF⟩
    · exact nX6_add_43 h  hF
    · have k3 := s_6_0 h
      obtain ⟨i4, hF⟩ := ck_ok hF
      obtain ⟨m5, em5, hF⟩ := vm_ok hF
      have hm5 := h.s em5 (nRa k3.2.1 (by decide))
      have k6 := s_6_1 hm5
      obtain ⟨i7, hF⟩ := ck_ok hF
      obtain ⟨b8, hF⟩ := ck_ok hF
      obtain ⟨m9, em9, hF⟩ := vm_ok hF
      have hm9 := hm5.s em9 (nRa k6.2.1 (by decide))
      obtain ⟨m10, em10, hF⟩ := vm_ok hF
      have hm10 := hm9.s em10 (nRf (sk_6 hm9) (by decide) (by decide))
      exact nX6_add_43 hm10  hF
theorem qX6_add {g : Shp} {m : Mem} {x1 x2 : Int} (h : Sh g m)  : fX6_add g 6 x1 x2 m = eX6_add g x1 x2 m := qX6_add_0 h 
theorem nX6_add {g : Shp} {m : Mem} {x1 x2 : Int} (h : Sh g m)  {r : Int} {m' : Mem} (hF : eX6_add g x1 x2 m = some (r, m')) : Sh g m' := nX6_add_0 h  hF
set_option maxRecDepth 20000 in
theorem qX6_split_62 {g : Shp} {m : Mem} {x1 x2 x3 x4 x5 : Int} (h : Sh g m) (hx1 : gk g x1 = 6) (hx2 : gk g x2 = 20) : bX6_split_62 g 6 x1 x2 x3 x4 x5 m = ebX6_split_62 g x1 x2 x3 x4 x5 m := by
  unfold bX6_split_62 ebX6_split_62
  refine vv_c (fun y1 ey1 => ?_)
  rfl
theorem nX6_split_62 {g : Shp} {m : Mem} {x1 x2 x3 x4 x5 : Int} (h : Sh g m) (hx1 : gk g x1 = 6) (hx2 : gk g x2 = 20) {c1 : Int} {s1 : (Int × Int × Mem)} (hF : ebX6_split_62 g x1 x2 x3 x4 x5 m = some (c1, s1)) : Sh g s1.2.2 := by
  unfold ebX6_split_62 at hF
  obtain ⟨y1, ey1, hF⟩ := vv_ok hF
  cases hF
  exact h
set_option maxRecDepth 20000 in
theorem qX6_split_22 {g : Shp} {m : Mem} {x1 x2 x3 x4 x5 : Int} (h : Sh g m) (hx1 : gk g x1 = 6) (hx2 : gk g x2 = 20) : bX6_split_22 g 6 x1 x2 x3 x4 x5 m = ebX6_split_22 g x1 x2 x3 x4 x5 m := by
  unfold bX6_split_22 ebX6_split_22
  have k1 := u6_1 h (r := x1) (q := x1 + 2) hx1 rfl
  rewrite [k1.1, ck_t k1.2.1]
  try rewrite [k1.2.2]
  refine ck_c (fun i2 => ?_)
  refine if_c (fun hc3 => ?_) (fun hc3 => ?_)
  · rfl
  · have k4 := u6_0 h (r := x1) (q := x1 + 1) hx1 rfl
    rewrite [k4.1, ck_t k4.2.1]
    try rewrite [k4.2.2]
    refine ck_c (fun i5 => ?_)
    refine ck_c (fun i6 => ?_)
    refine if_c (fun hc7 => ?_) (fun hc7 => ?_)
    · refine vv_c (fun y8 ey8 => ?_)
      exact qX6_split_62 h hx1 hx2
    · refine bd2_q (qX6_add h ) (fun v9 m10 h11 => ?_)
      have hm10 := nX6_add h  ((qX6_add h ).symm.trans h11)
      exact qX6_split_62 hm10 hx1 hx2
theorem nX6_split_22 {g : Shp} {m : Mem} {x1 x2 x3 x4 x5 : Int} (h : Sh g m) (hx1 : gk g x1 = 6) (hx2 : gk g x2 = 20) {c1 : Int} {s1 : (Int × Int × Mem)} (hF : ebX6_split_22 g x1 x2 x3 x4 x5 m = some (c1, s1)) : Sh g s1.2.2 := by
  unfold ebX6_split_22 at hF
  have k1 := u6_1 h (r := x1) (q := x1 + 2) hx1 rfl
  obtain ⟨i2, hF⟩ := ck_ok hF
  rcases if_ok hF with ⟨hc3, hF⟩ | ⟨hc3, hF⟩
  · cases hF
    exact h
  · have k4 := u6_0 h (r := x1) (q := x1 + 1) hx1 rfl
    obtain ⟨i5, hF⟩ := ck_ok hF
    obtain ⟨i6, hF⟩ := ck_ok hF
    rcases if_ok hF with ⟨hc7, hF⟩ | ⟨hc7, hF⟩
    · obtain ⟨y8, ey8, hF⟩ := vv_ok hF
      exact nX6_split_62 h hx1 hx2 hF
    · obtain ⟨v9, m10, h11, hF⟩ := bd2_ok hF
      have hm10 := nX6_add h  h11
      exact nX6_split_62 hm10 hx1 hx2 hF
theorem nlX6_split_22 {g : Shp} {x1 x2 x4 : Int} (hx1 : gk g x1 = 6) (hx2 : gk g x2 = 20) {n : Nat} {s0 s1 : (Int × Int × Mem)} {c1 : Int} (h : Sh g s0.2.2) (hI : iter (eBX6_split_22 g x1 x2 x4) n s0 = some (c1, s1)) : Sh g s1.2.2 :=
  iter_inv (B := eBX6_split_22 g x1 x2 x4) (fun q => Sh g q.2.2) (fun s c s' hs hB => nX6_split_22 hs hx1 hx2 hB) n s0 c1 s1 h hI
theorem qlX6_split_22 {g : Shp} {x1 x2 x4 : Int} (hx1 : gk g x1 = 6) (hx2 : gk g x2 = 20) {n : Nat} {s0 : (Int × Int × Mem)} (h : Sh g s0.2.2) : iter (BX6_split_22 g 6 x1 x2 x4) n s0 = iter (eBX6_split_22 g x1 x2 x4) n s0 :=
  iter_eq (B := BX6_split_22 g 6 x1 x2 x4) (E := eBX6_split_22 g x1 x2 x4) (fun q => Sh g q.2.2) (fun s hs => qX6_split_22 hs hx1 hx2) (fun s c s' hs hB => nX6_split_22 hs hx1 hx2 ((qX6_split_22 hs hx1 hx2).symm.trans hB)) n s0 h
set_option maxRecDepth 20000 in
theorem qX6_split_87 {g : Shp} {m : Mem} {x1 x2 x3 x4 z1 z2 : Int} (h : Sh g m) (hx1 : gk g x1 = 6) (hx2 : gk g x2 = 20) : bX6_split_87 g 6 x1 x2 x3 x4 6 z1 z2 m = ebX6_split_87 g x1 x2 x3 x4 z1 z2 m := by
  unfold bX6_split_87 ebX6_split_87
  refine bd2_q (qX6_add h ) (fun v1 m2 h3 => ?_)
  have hm2 := nX6_add h  ((qX6_add h ).symm.trans h3)
  refine vv_c (fun y4 ey4 => ?_)
  rfl
theorem nX6_split_87 {g : Shp} {m : Mem} {x1 x2 x3 x4 z1 z2 : Int} (h : Sh g m) (hx1 : gk g x1 = 6) (hx2 : gk g x2 = 20) {c1 : Int} {s1 : (Int × Int × Mem)} (hF : ebX6_split_87 g x1 x2 x3 x4 z1 z2 m = some (c1, s1)) : Sh g s1.2.2 := by
  unfold ebX6_split_87 at hF
  obtain ⟨v1, m2, h3, hF⟩ := bd2_ok hF
  have hm2 := nX6_add h  h3
  obtain ⟨y4, ey4, hF⟩ := vv_ok hF
  cases hF
  exact hm2
set_option maxRecDepth 20000 in
theorem qX6_split_68 {g : Shp} {m : Mem} {x1 x2 x3 x4 x5 : Int} (h : Sh g m) (hx1 : gk g x1 = 6) (hx2 : gk g x2 = 20) : bX6_split_68 g 6 x1 x2 x3 x4 x5 m = ebX6_split_68 g x1 x2 x3 x4 x5 m := by
  unfold bX6_split_68 ebX6_split_68
  refine if_c (fun hc1 => ?_) (fun hc1 => ?_)
  · exact qX6_split_87 h hx1 hx2
  · exact qX6_split_87 h hx1 hx2
theorem nX6_split_68 {g : Shp} {m : Mem} {x1 x2 x3 x4 x5 : Int} (h : Sh g m) (hx1 : gk g x1 = 6) (hx2 : gk g x2 = 20) {c1 : Int} {s1 : (Int × Int × Mem)} (hF : ebX6_split_68 g x1 x2 x3 x4 x5 m = some (c1, s1)) : Sh g s1.2.2 := by
  unfold ebX6_split_68 at hF
  rcases if_ok hF with ⟨hc1, hF⟩ | ⟨hc1, hF⟩
  · exact nX6_split_87 h hx1 hx2 hF
  · exact nX6_split_87 h hx1 hx2 hF
set_option maxRecDepth 20000 in
theorem qX6_split_10 {g : Shp} {m : Mem} {x1 x2 x3 x4 : Int} (h : Sh g m) (hx1 : gk g x1 = 6) (hx2 : gk g x2 = 20) : bX6_split_10 g 6 x1 x2 x3 x4 m = ebX6_split_10 g x1 x2 x3 x4 m := by
  unfold bX6_split_10 ebX6_split_10
  refine if_c (fun hc1 => ?_) (fun hc1 => ?_)
  · rfl
  · refine bdl_q (qlX6_split_22 hx1 hx2 (n := 100000) (s0 := (x3, 0, m)) h) (fun cv2 sv3 hi4 => ?_)
    have h5 := nlX6_split_22 hx1 hx2 (s0 := (x3, 0, m)) h ((qlX6_split_22 hx1 hx2 (n := 100000) (s0 := (x3, 0, m)) h).symm.trans hi4)
    exact qX6_split_68 h5 hx1 hx2
theorem nX6_split_10 {g : Shp} {m : Mem} {x1 x2 x3 x4 : Int} (h : Sh g m) (hx1 : gk g x1 = 6) (hx2 : gk g x2 = 20) {c1 : Int} {s1 : (Int × Int × Mem)} (hF : ebX6_split_10 g x1 x2 x3 x4 m = some (c1, s1)) : Sh g s1.2.2 := by
  unfold ebX6_split_10 at hF
  rcases if_ok hF with ⟨hc1, hF⟩ | ⟨hc1, hF⟩
  · cases hF
    exact h
  · obtain ⟨cv2, sv3, hi4, hF⟩ := bdl_ok hF
    have h5 := nlX6_split_22 hx1 hx2 (s0 := (x3, 0, m)) h hi4
    exact nX6_split_68 h5 hx1 hx2 hF
theorem nlX6_split_10 {g : Shp} {x1 x2 : Int} (hx1 : gk g x1 = 6) (hx2 : gk g x2 = 20) {n : Nat} {s0 s1 : (Int × Int × Mem)} {c1 : Int} (h : Sh g s0.2.2) (hI : iter (eBX6_split_10 g x1 x2) n s0 = some (c1, s1)) : Sh g s1.2.2 :=
  iter_inv (B := eBX6_split_10 g x1 x2) (fun q => Sh g q.2.2) (fun s c s' hs hB => nX6_split_10 hs hx1 hx2 hB) n s0 c1 s1 h hI
theorem qlX6_split_10 {g : Shp} {x1 x2 : Int} (hx1 : gk g x1 = 6) (hx2 : gk g x2 = 20) {n : Nat} {s0 : (Int × Int × Mem)} (h : Sh g s0.2.2) : iter (BX6_split_10 g 6 x1 x2) n s0 = iter (eBX6_split_10 g x1 x2) n s0 :=
  iter_eq (B := BX6_split_10 g 6 x1 x2) (E := eBX6_split_10 g x1 x2) (fun q => Sh g q.2.2) (fun s hs => qX6_split_10 hs hx1 hx2) (fun s c s' hs hB => nX6_split_10 hs hx1 hx2 ((qX6_split_10 hs hx1 hx2).symm.trans hB)) n s0 h
set_option maxRecDepth 20000 in
theorem qX6_split_96 {g : Shp} {m : Mem} (h : Sh g m)  : bX6_split_96 g m = ebX6_split_96 g m := by
  unfold bX6_split_96 ebX6_split_96
  rfl
theorem nX6_split_96 {g : Shp} {m : Mem} (h : Sh g m)  {r : Int} {m' : Mem} (hF : ebX6_split_96 g m = some (r, m')) : Sh g m' := by
  unfold ebX6_split_96 at hF
  cases hF
  exact h
set_option maxRecDepth 20000 in
theorem qX6_split_0 {g : Shp} {m : Mem} {x1 x2 : Int} (h : Sh g m) (hx1 : gk g x1 = 6) (hx2 : gk g x2 = 20) : bX6_split_0 g 6 x1 x2 m = ebX6_split_0 g x1 x2 m := by
  unfold bX6_split_0 ebX6_split_0
  refine vm_c (fun m1 em1 => ?_)
  have hm1 := h.s em1 (nRf (sk_6 h) (by decide) (by decide))
  refine bdl_q (qlX6_split_10 hx1 hx2 (n := 100000) (s0 := (0, 0, m1)) hm1) (fun cv2 sv3 hi4 => ?_)
  have h5 := nlX6_split_10 hx1 hx2 (s0 := (0, 0, m1)) hm1 ((qlX6_split_10 hx1 hx2 (n := 100000) (s0 := (0, 0, m1)) hm1).symm.trans hi4)
  exact qX6_split_96 h5 
theorem nX6_split_0 {g : Shp} {m : Mem} {x1 x2 : Int} (h : Sh g m) (hx1 : gk g x1 = 6) (hx2 : gk g x2 = 20) {r : Int} {m' : Mem} (hF : ebX6_split_0 g x1 x2 m = some (r, m')) : Sh g m' := by
  unfold ebX6_split_0 at hF
  obtain ⟨m1, em1, hF⟩ := vm_ok hF
  have hm1 := h.s em1 (nRf (sk_6 h) (by decide) (by decide))
  obtain ⟨cv2, sv3, hi4, hF⟩ := bdl_ok hF
  have h5 := nlX6_split_10 hx1 hx2 (s0 := (0, 0, m1)) hm1 hi4
  exact nX6_split_96 h5  hF
theorem qX6_split {g : Shp} {m : Mem} {x1 x2 : Int} (h : Sh g m) (hx1 : gk g x1 = 6) (hx2 : gk g x2 = 20) : fX6_split g 6 x1 x2 m = eX6_split g x1 x2 m := qX6_split_0 h hx1 hx2
theorem nX6_split {g : Shp} {m : Mem} {x1 x2 : Int} (h : Sh g m) (hx1 : gk g x1 = 6) (hx2 : gk g x2 = 20) {r : Int} {m' : Mem} (hF : eX6_split g x1 x2 m = some (r, m')) : Sh g m' := nX6_split_0 h hx1 hx2 hF
set_option maxRecDepth 20000 in
theorem qX7_clear_0 {g : Shp} {m : Mem} {x0 : Int} (h : Sh g m) (hx0 : gk g x0 = 8) : bX7_clear_0 g x0 m = ebX7_clear_0 g x0 m := by
  unfold bX7_clear_0 ebX7_clear_0
  have k1 := u8_0 h (r := x0) (q := x0 + 1) hx0 rfl
  rewrite [k1.1, ck_t k1.2.1]
  try rewrite [k1.2.2]
  refine ck_c (fun i2 => ?_)
  refine vm_c (fun m3 em3 => ?_)
  have hm3 := h.s em3 (nRa k1.2.1 (by decide))
  have k4 := u8_0 hm3 (r := x0) (q := x0 + 1) hx0 rfl
  rewrite [k4.1, ck_t k4.2.1]
  try rewrite [k4.2.2]
  refine ck_c (fun i5 => ?_)
  refine vm_c (fun m6 em6 => ?_)
  have hm6 := hm3.s em6 (nRa k4.2.1 (by decide))
  have k7 := u8_0 hm6 (r := x0) (q := x0 + 1) hx0 rfl
  rewrite [k7.1, ck_t k7.2.1]
  try rewrite [k7.2.2]
  refine ck_c (fun i8 => ?_)
  refine vm_c (fun m9 em9 => ?_)
  have hm9 := hm6.s em9 (nRa k7.2.1 (by decide))
  have k10 := u8_1 hm9 (r := x0) (q := x0 + 2) hx0 rfl
  rewrite [k10.1, ck_t k10.2.1]
  refine bd2_q (qJ7_fill_53178 hm9 k10.2.1) (fun v11 m12 h13 => ?_)
  have hm12 := nJ7_fill_53178 hm9 k10.2.1 ((qJ7_fill_53178 hm9 k10.2.1).symm.trans h13)
  have k14 := u8_3 hm12 (r := x0) (q := x0 + 4) hx0 rfl
  rewrite [k14.1, ck_t k14.2.1]
  refine bd2_q (qJ7_fill_53178 hm12 k14.2.1) (fun v15 m16 h17 => ?_)
  have hm16 := nJ7_fill_53178 hm12 k14.2.1 ((qJ7_fill_53178 hm12 k14.2.1).symm.trans h17)
  refine vm_c (fun m18 em18 => ?_)
  have hm18 := hm16.s em18 (nRf hx0 (by decide) (by decide))
  refine vm_c (fun m19 em19 => ?_)
  have hm19 := hm18.s em19 (nRf hx0 (by decide) (by decide))
  rfl
theorem nX7_clear_0 {g : Shp} {m : Mem} {x0 : Int} (h : Sh g m) (hx0 : gk g x0 = 8) {r : Int} {m' : Mem} (hF : ebX7_clear_0 g x0 m = some (r, m')) : Sh g m' := by
  unfold ebX7_clear_0 at hF
  have k1 := u8_0 h (r := x0) (q := x0 + 1) hx0 rfl
  obtain ⟨i2, hF⟩ := ck_ok hF
  obtain ⟨m3, em3, hF⟩ := vm_ok hF
  have hm3 := h.s em3 (nRa k1.2.1 (by decide))
  have k4 := u8_0 hm3 (r := x0) (q := x0 + 1) hx0 rfl
  obtain ⟨i5, hF⟩ := ck_ok hF
  obtain ⟨m6, em6, hF⟩ := vm_ok hF
  have hm6 := hm3.s em6 (nRa k4.2.1 (by decide))
  have k7 := u8_0 hm6 (r := x0) (q := x0 + 1) hx0 rfl
  obtain ⟨i8, hF⟩ := ck_ok hF
  obtain ⟨m9, em9, hF⟩ := vm_ok hF
  have hm9 := hm6.s em9 (nRa k7.2.1 (by decide))
  have k10 := u8_1 hm9 (r := x0) (q := x0 + 2) hx0 rfl
  obtain ⟨v11, m12, h13, hF⟩ := bd2_ok hF
  have hm12 := nJ7_fill_53178 hm9 k10.2.1 h13
  have k14 := u8_3 hm12 (r := x0) (q := x0 + 4) hx0 rfl
  obtain ⟨v15, m16, h17, hF⟩ := bd2_ok hF
  have hm16 := nJ7_fill_53178 hm12 k14.2.1 h17
  obtain ⟨m18, em18, hF⟩ := vm_ok hF
  have hm18 := hm16.s em18 (nRf hx0 (by decide) (by decide))
  obtain ⟨m19, em19, hF⟩ := vm_ok hF
  have hm19 := hm18.s em19 (nRf hx0 (by decide) (by decide))
  cases hF
  exact hm19
theorem qX7_clear {g : Shp} {m : Mem} {x0 : Int} (h : Sh g m) (hx0 : gk g x0 = 8) : fX7_clear g x0 m = eX7_clear g x0 m := qX7_clear_0 h hx0
theorem nX7_clear {g : Shp} {m : Mem} {x0 : Int} (h : Sh g m) (hx0 : gk g x0 = 8) {r : Int} {m' : Mem} (hF : eX7_clear g x0 m = some (r, m')) : Sh g m' := nX7_clear_0 h hx0 hF
set_option maxRecDepth 20000 in
theorem qX7_goesOver_18 {g : Shp} {m : Mem} {z0 : Int} (h : Sh g m)  : bX7_goesOver_18 g z0 m = ebX7_goesOver_18 g z0 m := by
  unfold bX7_goesOver_18 ebX7_goesOver_18
  refine ck_c (fun b1 => ?_)
  rfl
theorem nX7_goesOver_18 {g : Shp} {m : Mem} {z0 : Int} (h : Sh g m)  {r : Int} {m' : Mem} (hF : ebX7_goesOver_18 g z0 m = some (r, m')) : Sh g m' := by
  unfold ebX7_goesOver_18 at hF
  obtain ⟨b1, hF⟩ := ck_ok hF
  cases hF
  exact h
set_option maxRecDepth 20000 in
theorem qX7_goesOver_0 {g : Shp} {m : Mem} {x0 x1 x2 : Int} (h : Sh g m) (hx0 : gk g x0 = 8) : bX7_goesOver_0 g x0 x1 x2 m = ebX7_goesOver_0 g x0 x1 x2 m := by
  unfold bX7_goesOver_0 ebX7_goesOver_0
  have k1 := u8_3 h (r := x0) (q := x0 + 4) hx0 rfl
  rewrite [k1.1, ck_t k1.2.1]
  try rewrite [k1.2.2]
  refine ck_c (fun i2 => ?_)
  refine if_c (fun hc3 => ?_) (fun hc3 => ?_)
  · exact qX7_goesOver_18 h
  · exact qX7_goesOver_18 h
theorem nX7_goesOver_0 {g : Shp} {m : Mem} {x0 x1 x2 : Int} (h : Sh g m) (hx0 : gk g x0 = 8) {r : Int} {m' : Mem} (hF : ebX7_goesOver_0 g x0 x1 x2 m = some (r, m')) : Sh g m' := by
  unfold ebX7_goesOver_0 at hF
  have k1 := u8_3 h (r := x0) (q := x0 + 4) hx0 rfl
  obtain ⟨i2, hF⟩ := ck_ok hF
  rcases if_ok hF with ⟨hc3, hF⟩ | ⟨hc3, hF⟩
  · exact nX7_goesOver_18 h  hF
  · exact nX7_goesOver_18 h  hF
theorem qX7_goesOver {g : Shp} {m : Mem} {x0 x1 x2 : Int} (h : Sh g m) (hx0 : gk g x0 = 8) : fX7_goesOver g x0 x1 x2 m = eX7_goesOver g x0 x1 x2 m := qX7_goesOver_0 h hx0
theorem nX7_goesOver {g : Shp} {m : Mem} {x0 x1 x2 : Int} (h : Sh g m) (hx0 : gk g x0 = 8) {r : Int} {m' : Mem} (hF : eX7_goesOver g x0 x1 x2 m = some (r, m')) : Sh g m' := nX7_goesOver_0 h hx0 hF
set_option maxRecDepth 20000 in
theorem qJ6_bitCount_0f7a4_0 {g : Shp} {m : Mem} {x0 : Int} (h : Sh g m)  : bJ6_bitCount_0f7a4_0 g x0 m = ebJ6_bitCount_0f7a4_0 g x0 m := by
  unfold bJ6_bitCount_0f7a4_0 ebJ6_bitCount_0f7a4_0
  refine vv_c (fun y1 ey1 => ?_)
  refine vv_c (fun y2 ey2 => ?_)
  refine vv_c (fun y3 ey3 => ?_)
  refine vv_c (fun y4 ey4 => ?_)
  refine vv_c (fun y5 ey5 => ?_)
  rfl
theorem nJ6_bitCount_0f7a4_0 {g : Shp} {m : Mem} {x0 : Int} (h : Sh g m)  {r : Int} {m' : Mem} (hF : ebJ6_bitCount_0f7a4_0 g x0 m = some (r, m')) : Sh g m' := by
  unfold ebJ6_bitCount_0f7a4_0 at hF
  obtain ⟨y1, ey1, hF⟩ := vv_ok hF
  obtain ⟨y2, ey2, hF⟩ := vv_ok hF
  obtain ⟨y3, ey3, hF⟩ := vv_ok hF
  obtain ⟨y4, ey4, hF⟩ := vv_ok hF
  obtain ⟨y5, ey5, hF⟩ := vv_ok hF
  cases hF
  exact h
theorem qJ6_bitCount_0f7a4 {g : Shp} {m : Mem} {x0 : Int} (h : Sh g m)  : fJ6_bitCount_0f7a4 g x0 m = eJ6_bitCount_0f7a4 g x0 m := qJ6_bitCount_0f7a4_0 h 
theorem nJ6_bitCount_0f7a4 {g : Shp} {m : Mem} {x0 : Int} (h : Sh g m)  {r : Int} {m' : Mem} (hF : eJ6_bitCount_0f7a4 g x0 m = some (r, m')) : Sh g m' := nJ6_bitCount_0f7a4_0 h  hF
set_option maxRecDepth 20000 in
theorem qX7_sharedCells_27 {g : Shp} {m : Mem} {x0 x1 x2 : Int} (h : Sh g m) (hx0 : gk g x0 = 8) : bX7_sharedCells_27 g x0 x1 x2 m = ebX7_sharedCells_27 g x0 x1 x2 m := by
  unfold bX7_sharedCells_27 ebX7_sharedCells_27
  refine vv_c (fun y1 ey1 => ?_)
  rfl
theorem nX7_sharedCells_27 {g : Shp} {m : Mem} {x0 x1 x2 : Int} (h : Sh g m) (hx0 : gk g x0 = 8) {c1 : Int} {s1 : (Int × Int × Mem)} (hF : ebX7_sharedCells_27 g x0 x1 x2 m = some (c1, s1)) : Sh g s1.2.2 := by
  unfold ebX7_sharedCells_27 at hF
  obtain ⟨y1, ey1, hF⟩ := vv_ok hF
  cases hF
  exact h
set_option maxRecDepth 20000 in
theorem qX7_sharedCells_4 {g : Shp} {m : Mem} {x0 x1 x2 : Int} (h : Sh g m) (hx0 : gk g x0 = 8) : bX7_sharedCells_4 g x0 x1 x2 m = ebX7_sharedCells_4 g x0 x1 x2 m := by
  unfold bX7_sharedCells_4 ebX7_sharedCells_4
  refine if_c (fun hc1 => ?_) (fun hc1 => ?_)
  · rfl
  · have k2 := u8_3 h (r := x0) (q := x0 + 4) hx0 rfl
    rewrite [k2.1, ck_t k2.2.1]
    try rewrite [k2.2.2]
    refine ck_c (fun i3 => ?_)
    refine bd2_q (qJ6_bitCount_0f7a4 h ) (fun v4 m5 h6 => ?_)
    have hm5 := nJ6_bitCount_0f7a4 h  ((qJ6_bitCount_0f7a4 h ).symm.trans h6)
    refine if_c (fun hc7 => ?_) (fun hc7 => ?_)
    · exact qX7_sharedCells_27 hm5 hx0
    · refine vv_c (fun y8 ey8 => ?_)
      exact qX7_sharedCells_27 hm5 hx0
theorem nX7_sharedCells_4 {g : Shp} {m : Mem} {x0 x1 x2 : Int} (h : Sh g m) (hx0 : gk g x0 = 8) {c1 : Int} {s1 : (Int × Int × Mem)} (hF : ebX7_sharedCells_4 g x0 x1 x2 m = some (c1, s1)) : Sh g s1.2.2 := by
  unfold ebX7_sharedCells_4 at hF
  rcases if_ok hF with ⟨hc1, hF⟩ | ⟨hc1, hF⟩
  · cases hF
    exact h
  · have k2 := u8_3 h (r := x0) (q := x0 + 4) hx0 rfl
    obtain ⟨i3, hF⟩ := ck_ok hF
    obtain ⟨v4, m5, h6, hF⟩ := bd2_ok hF
    have hm5 := nJ6_bitCount_0f7a4 h  h6
    rcases if_ok hF with ⟨hc7, hF⟩ | ⟨hc7, hF⟩
    · exact nX7_sharedCells_27 hm5 hx0 hF
    · obtain ⟨y8, ey8, hF⟩ := vv_ok hF
      exact nX7_sharedCells_27 hm5 hx0 hF
theorem nlX7_sharedCells_4 {g : Shp} {x0 : Int} (hx0 : gk g x0 = 8) {n : Nat} {s0 s1 : (Int × Int × Mem)} {c1 : Int} (h : Sh g s0.2.2) (hI : iter (eBX7_sharedCells_4 g x0) n s0 = some (c1, s1)) : Sh g s1.2.2 :=
  iter_inv (B := eBX7_sharedCells_4 g x0) (fun q => Sh g q.2.2) (fun s c s' hs hB => nX7_sharedCells_4 hs hx0 hB) n s0 c1 s1 h hI
theorem qlX7_sharedCells_4 {g : Shp} {x0 : Int} (hx0 : gk g x0 = 8) {n : Nat} {s0 : (Int × Int × Mem)} (h : Sh g s0.2.2) : iter (BX7_sharedCells_4 g x0) n s0 = iter (eBX7_sharedCells_4 g x0) n s0 :=
  iter_eq (B := BX7_sharedCells_4 g x0) (E := eBX7_sharedCells_4 g x0) (fun q => Sh g q.2.2) (fun s hs => qX7_sharedCells_4 hs hx0) (fun s c s' hs hB => nX7_sharedCells_4 hs hx0 ((qX7_sharedCells_4 hs hx0).symm.trans hB)) n s0 h
set_option maxRecDepth 20000 in
theorem qX7_sharedCells_33 {g : Shp} {m : Mem} {x1 : Int} (h : Sh g m)  : bX7_sharedCells_33 g x1 m = ebX7_sharedCells_33 g x1 m := by
  unfold bX7_sharedCells_33 ebX7_sharedCells_33
  rfl
theorem nX7_sharedCells_33 {g : Shp} {m : Mem} {x1 : Int} (h : Sh g m)  {r : Int} {m' : Mem} (hF : ebX7_sharedCells_33 g x1 m = some (r, m')) : Sh g m' := by
  unfold ebX7_sharedCells_33 at hF
  cases hF
  exact h
set_option maxRecDepth 20000 in
theorem qX7_sharedCells_0 {g : Shp} {m : Mem} {x0 : Int} (h : Sh g m) (hx0 : gk g x0 = 8) : bX7_sharedCells_0 g x0 m = ebX7_sharedCells_0 g x0 m := by
  unfold bX7_sharedCells_0 ebX7_sharedCells_0
  refine bdl_q (qlX7_sharedCells_4 hx0 (n := 100000) (s0 := (0, 0, m)) h) (fun cv1 sv2 hi3 => ?_)
  have h4 := nlX7_sharedCells_4 hx0 (s0 := (0, 0, m)) h ((qlX7_sharedCells_4 hx0 (n := 100000) (s0 := (0, 0, m)) h).symm.trans hi3)
  exact qX7_sharedCells_33 h4 
theorem nX7_sharedCells_0 {g : Shp} {m : Mem} {x0 : Int} (h : Sh g m) (hx0 : gk g x0 = 8) {r : Int} {m' : Mem} (hF : ebX7_sharedCells_0 g x0 m = some (r, m')) : Sh g m' := by
  unfold ebX7_sharedCells_0 at hF
  obtain ⟨cv1, sv2, hi3, hF⟩ := bdl_ok hF
  have h4 := nlX7_sharedCells_4 hx0 (s0 := (0, 0, m)) h hi3
  exact nX7_sharedCells_33 h4  hF
theorem qX7_sharedCells {g : Shp} {m : Mem} {x0 : Int} (h : Sh g m) (hx0 : gk g x0 = 8) : fX7_sharedCells g x0 m = eX7_sharedCells g x0 m := qX7_sharedCells_0 h hx0
theorem nX7_sharedCells {g : Shp} {m : Mem} {x0 : Int} (h : Sh g m) (hx0 : gk g x0 = 8) {r : Int} {m' : Mem} (hF : eX7_sharedCells g x0 m = some (r, m')) : Sh g m' := nX7_sharedCells_0 h hx0 hF
set_option maxRecDepth 20000 in
theorem qX8_append_30 {g : Shp} {m : Mem} (h : Sh g m)  : bX8_append_30 g m = ebX8_append_30 g m := by
  unfold bX8_append_30 ebX8_append_30
  rfl
theorem nX8_append_30 {g : Shp} {m : Mem} (h : Sh g m)  {r : Int} {m' : Mem} (hF : ebX8_append_30 g m = some (r, m')) : Sh g m' := by
  unfold ebX8_append_30 at hF
  cases hF
  exact h
set_option maxRecDepth 20000 in
theorem qX8_append_0 {g : Shp} {m : Mem} {x1 : Int} (h : Sh g m)  : bX8_append_0 g 2 x1 m = ebX8_append_0 g x1 m := by
  unfold bX8_append_0 ebX8_append_0
  refine if_c (fun hc1 => ?_) (fun hc1 => ?_)
  · exact qX8_append_30 h
  · have k2 := s_2_0 h
    rewrite [k2.1, ck_t k2.2.1]
    try rewrite [k2.2.2]
    refine ck_c (fun i3 => ?_)
    refine ck_c (fun h4 => ?_)
    refine vm_c (fun m5 em5 => ?_)
    have hm5 := h.s em5 (nRa k2.2.1 (by decide))
    refine vm_c (fun m6 em6 => ?_)
    have hm6 := hm5.s em6 (nRf (sk_2 hm5) (by decide) (by decide))
    exact qX8_append_30 hm6 
theorem nX8_append_0 {g : Shp} {m : Mem} {x1 : Int} (h : Sh g m)  {r : Int} {m' : Mem} (hF : ebX8_append_0 g x1 m = some (r, m')) : Sh g m' := by
  unfold ebX8_append_0 at hF
  rcases if_ok hF with ⟨hc1, hF⟩ | ⟨hc1, hF⟩
  · exact nX8_append_30 h  hF
  · have k2 := s_2_0 h
    obtain ⟨i3, hF⟩ := ck_ok hF
    obtain ⟨h4, hF⟩ := ck_ok hF
    obtain ⟨m5, em5, hF⟩ := vm_ok hF
    have hm5 := h.s em5 (nRa k2.2.1 (by decide))
    obtain ⟨m6, em6, hF⟩ := vm_ok hF
    have hm6 := hm5.s em6 (nRf (sk_2 hm5) (by decide) (by decide))
    exact nX8_append_30 hm6  hF
theorem qX8_append {g : Shp} {m : Mem} {x1 : Int} (h : Sh g m)  : fX8_append g 2 x1 m = eX8_append g x1 m := qX8_append_0 h 
theorem nX8_append {g : Shp} {m : Mem} {x1 : Int} (h : Sh g m)  {r : Int} {m' : Mem} (hF : eX8_append g x1 m = some (r, m')) : Sh g m' := nX8_append_0 h  hF
set_option maxRecDepth 20000 in
theorem qX8_take_24 {g : Shp} {m : Mem} (h : Sh g m)  : bX8_take_24 g m = ebX8_take_24 g m := by
  unfold bX8_take_24 ebX8_take_24
  rfl
theorem nX8_take_24 {g : Shp} {m : Mem} (h : Sh g m)  {r : Int} {m' : Mem} (hF : ebX8_take_24 g m = some (r, m')) : Sh g m' := by
  unfold ebX8_take_24 at hF
  cases hF
  exact h
set_option maxRecDepth 20000 in
theorem qX8_take_0 {g : Shp} {m : Mem} {x1 : Int} (h : Sh g m)  : bX8_take_0 g 2 x1 m = ebX8_take_0 g x1 m := by
  unfold bX8_take_0 ebX8_take_0
  refine if_c (fun hc1 => ?_) (fun hc1 => ?_)
  · exact qX8_take_24 h
  · have k2 := s_2_0 h
    rewrite [k2.1, ck_t k2.2.1]
    try rewrite [k2.2.2]
    refine ck_c (fun i3 => ?_)
    refine if_c (fun hc4 => ?_) (fun hc4 => ?_)
    · refine vm_c (fun m5 em5 => ?_)
      have hm5 := h.s em5 (nRf (sk_2 h) (by decide) (by decide))
      rfl
    · exact qX8_take_24 h
theorem nX8_take_0 {g : Shp} {m : Mem} {x1 : Int} (h : Sh g m)  {r : Int} {m' : Mem} (hF : ebX8_take_0 g x1 m = some (r, m')) : Sh g m' := by
  unfold ebX8_take_0 at hF
  rcases if_ok hF with ⟨hc1, hF⟩ | ⟨hc1, hF⟩
  · exact nX8_take_24 h  hF
  · have k2 := s_2_0 h
    obtain ⟨i3, hF⟩ := ck_ok hF
    rcases if_ok hF with ⟨hc4, hF⟩ | ⟨hc4, hF⟩
    · obtain ⟨m5, em5, hF⟩ := vm_ok hF
      have hm5 := h.s em5 (nRf (sk_2 h) (by decide) (by decide))
      cases hF
      exact hm5
    · exact nX8_take_24 h  hF
theorem qX8_take {g : Shp} {m : Mem} {x1 : Int} (h : Sh g m)  : fX8_take g 2 x1 m = eX8_take g x1 m := qX8_take_0 h 
theorem nX8_take {g : Shp} {m : Mem} {x1 : Int} (h : Sh g m)  {r : Int} {m' : Mem} (hF : eX8_take g x1 m = some (r, m')) : Sh g m' := nX8_take_0 h  hF
set_option maxRecDepth 20000 in
theorem qX8_readNumber_5 {g : Shp} {m : Mem} {x1 x2 x3 x4 : Int} (h : Sh g m)  : bX8_readNumber_5 g 2 x1 x2 x3 x4 m = ebX8_readNumber_5 g x1 x2 x3 x4 m := by
  unfold bX8_readNumber_5 ebX8_readNumber_5
  refine if_c (fun hc1 => ?_) (fun hc1 => ?_)
  · rfl
  · refine if_c (fun hc2 => ?_) (fun hc2 => ?_)
    · rfl
    · have k3 := s_2_0 h
      rewrite [k3.1, ck_t k3.2.1]
      try rewrite [k3.2.2]
      refine ck_c (fun i4 => ?_)
      refine if_c (fun hc5 => ?_) (fun hc5 => ?_)
      · rfl
      · have k6 := s_2_0 h
        try rewrite [k6.2.2]
        refine ck_c (fun i7 => ?_)
        refine if_c (fun hc8 => ?_) (fun hc8 => ?_)
        · rfl
        · have k9 := s_2_0 h
          try rewrite [k9.2.2]
          refine ck_c (fun i10 => ?_)
          refine vv_c (fun y11 ey11 => ?_)
          refine vv_c (fun y12 ey12 => ?_)
          refine vm_c (fun m13 em13 => ?_)
          have hm13 := h.s em13 (nRf (sk_2 h) (by decide) (by decide))
          rfl
theorem nX8_readNumber_5 {g : Shp} {m : Mem} {x1 x2 x3 x4 : Int} (h : Sh g m)  {c1 : Int} {s1 : (Int × Int × Mem)} (hF : ebX8_readNumber_5 g x1 x2 x3 x4 m = some (c1, s1)) : Sh g s1.2.2 := by
  unfold ebX8_readNumber_5 at hF
  rcases if_ok hF with ⟨hc1, hF⟩ | ⟨hc1, hF⟩
  · cases hF
    exact h
  · rcases if_ok hF with ⟨hc2, hF⟩ | ⟨hc2, hF⟩
    · cases hF
      exact h
    · have k3 := s_2_0 h
      obtain ⟨i4, hF⟩ := ck_ok hF
      rcases if_ok hF with ⟨hc5, hF⟩ | ⟨hc5, hF⟩
      · cases hF
        exact h
      · have k6 := s_2_0 h
        obtain ⟨i7, hF⟩ := ck_ok hF
        rcases if_ok hF with ⟨hc8, hF⟩ | ⟨hc8, hF⟩
        · cases hF
          exact h
        · have k9 := s_2_0 h
          obtain ⟨i10, hF⟩ := ck_ok hF
          obtain ⟨y11, ey11, hF⟩ := vv_ok hF
          obtain ⟨y12, ey12, hF⟩ := vv_ok hF
          obtain ⟨m13, em13, hF⟩ := vm_ok hF
          have hm13 := h.s em13 (nRf (sk_2 h) (by decide) (by decide))
          cases hF
          exact hm13
theorem nlX8_readNumber_5 {g : Shp} {x1 x2 : Int}  {n : Nat} {s0 s1 : (Int × Int × Mem)} {c1 : Int} (h : Sh g s0.2.2) (hI : iter (eBX8_readNumber_5 g x1 x2) n s0 = some (c1, s1)) : Sh g s1.2.2 :=
  iter_inv (B := eBX8_readNumber_5 g x1 x2) (fun q => Sh g q.2.2) (fun s c s' hs hB => nX8_readNumber_5 hs  hB) n s0 c1 s1 h hI
theorem qlX8_readNumber_5 {g : Shp} {x1 x2 : Int}  {n : Nat} {s0 : (Int × Int × Mem)} (h : Sh g s0.2.2) : iter (BX8_readNumber_5 g 2 x1 x2) n s0 = iter (eBX8_readNumber_5 g x1 x2) n s0 :=
  iter_eq (B := BX8_readNumber_5 g 2 x1 x2) (E := eBX8_readNumber_5 g x1 x2) (fun q => Sh g q.2.2) (fun s hs => qX8_readNumber_5 hs ) (fun s c s' hs hB => nX8_readNumber_5 hs  ((qX8_readNumber_5 hs ).symm.trans hB)) n s0 h
set_option maxRecDepth 20000 in
theorem qX8_readNumber_104 {g : Shp} {m : Mem} {z0 : Int} (h : Sh g m)  : bX8_readNumber_104 g z0 m = ebX8_readNumber_104 g z0 m := by
  unfold bX8_readNumber_104 ebX8_readNumber_104
  rfl
theorem nX8_readNumber_104 {g : Shp} {m : Mem} {z0 : Int} (h : Sh g m)  {r : Int} {m' : Mem} (hF : ebX8_readNumber_104 g z0 m = some (r, m')) : Sh g m' := by
  unfold ebX8_readNumber_104 at hF
  cases hF
  exact h
set_option maxRecDepth 20000 in
theorem qX8_readNumber_103 {g : Shp} {m : Mem} (h : Sh g m)  : bX8_readNumber_103 g m = ebX8_readNumber_103 g m := by
  unfold bX8_readNumber_103 ebX8_readNumber_103
  exact qX8_readNumber_104 h 
theorem nX8_readNumber_103 {g : Shp} {m : Mem} (h : Sh g m)  {r : Int} {m' : Mem} (hF : ebX8_readNumber_103 g m = some (r, m')) : Sh g m' := by
  unfold ebX8_readNumber_103 at hF
  exact nX8_readNumber_104 h  hF
set_option maxRecDepth 20000 in
theorem qX8_readNumber_84 {g : Shp} {m : Mem} {x1 x2 x3 x4 : Int} (h : Sh g m)  : bX8_readNumber_84 g x1 x2 x3 x4 m = ebX8_readNumber_84 g x1 x2 x3 x4 m := by
  unfold bX8_readNumber_84 ebX8_readNumber_84
  refine if_c (fun hc1 => ?_) (fun hc1 => ?_)
  · exact qX8_readNumber_103 h
  · refine if_c (fun hc2 => ?_) (fun hc2 => ?_)
    · exact qX8_readNumber_103 h
    · refine if_c (fun hc3 => ?_) (fun hc3 => ?_)
      · exact qX8_readNumber_103 h
      · exact qX8_readNumber_104 h
theorem nX8_readNumber_84 {g : Shp} {m : Mem} {x1 x2 x3 x4 : Int} (h : Sh g m)  {r : Int} {m' : Mem} (hF : ebX8_readNumber_84 g x1 x2 x3 x4 m = some (r, m')) : Sh g m' := by
  unfold ebX8_readNumber_84 at hF
  rcases if_ok hF with ⟨hc1, hF⟩ | ⟨hc1, hF⟩
  · exact nX8_readNumber_103 h  hF
  · rcases if_ok hF with ⟨hc2, hF⟩ | ⟨hc2, hF⟩
    · exact nX8_readNumber_103 h  hF
    · rcases if_ok hF with ⟨hc3, hF⟩ | ⟨hc3, hF⟩
      · exact nX8_readNumber_103 h  hF
      · exact nX8_readNumber_104 h  hF
set_option maxRecDepth 20000 in
theorem qX8_readNumber_0 {g : Shp} {m : Mem} {x1 x2 : Int} (h : Sh g m)  : bX8_readNumber_0 g 2 x1 x2 m = ebX8_readNumber_0 g x1 x2 m := by
  unfold bX8_readNumber_0 ebX8_readNumber_0
  refine bdl_q (qlX8_readNumber_5  (n := 100000) (s0 := (0, 0, m)) h) (fun cv1 sv2 hi3 => ?_)
  have h4 := nlX8_readNumber_5  (s0 := (0, 0, m)) h ((qlX8_readNumber_5  (n := 100000) (s0 := (0, 0, m)) h).symm.trans hi3)
  exact qX8_readNumber_84 h4 
theorem nX8_readNumber_0 {g : Shp} {m : Mem} {x1 x2 : Int} (h : Sh g m)  {r : Int} {m' : Mem} (hF : ebX8_readNumber_0 g x1 x2 m = some (r, m')) : Sh g m' := by
  unfold ebX8_readNumber_0 at hF
  obtain ⟨cv1, sv2, hi3, hF⟩ := bdl_ok hF
  have h4 := nlX8_readNumber_5  (s0 := (0, 0, m)) h hi3
  exact nX8_readNumber_84 h4  hF
theorem qX8_readNumber {g : Shp} {m : Mem} {x1 x2 : Int} (h : Sh g m)  : fX8_readNumber g 2 x1 x2 m = eX8_readNumber g x1 x2 m := qX8_readNumber_0 h 
theorem nX8_readNumber {g : Shp} {m : Mem} {x1 x2 : Int} (h : Sh g m)  {r : Int} {m' : Mem} (hF : eX8_readNumber g x1 x2 m = some (r, m')) : Sh g m' := nX8_readNumber_0 h  hF
set_option maxRecDepth 20000 in
theorem qX8_readNumbers_35 {g : Shp} {m : Mem} {x1 x2 x3 x4 : Int} (h : Sh g m)  : bX8_readNumbers_35 g 2 x1 x2 x3 x4 m = ebX8_readNumbers_35 g x1 x2 x3 x4 m := by
  unfold bX8_readNumbers_35 ebX8_readNumbers_35
  have k1 := s_2_1 h
  rewrite [k1.1, ck_t k1.2.1]
  refine bd2_q (qX8_readNumber h ) (fun v2 m3 h4 => ?_)
  have hm3 := nX8_readNumber h  ((qX8_readNumber h ).symm.trans h4)
  try rewrite [k1.2.2]
  refine ck_c (fun i5 => ?_)
  refine vm_c (fun m6 em6 => ?_)
  have hm6 := hm3.s em6 (nRa k1.2.1 (by decide))
  have k7 := s_2_1 hm6
  rewrite [k7.1, ck_t k7.2.1]
  try rewrite [k7.2.2]
  refine ck_c (fun i8 => ?_)
  refine if_c (fun hc9 => ?_) (fun hc9 => ?_)
  · rfl
  · refine vv_c (fun y10 ey10 => ?_)
    rfl
theorem nX8_readNumbers_35 {g : Shp} {m : Mem} {x1 x2 x3 x4 : Int} (h : Sh g m)  {c1 : Int} {s1 : (Int × Mem)} (hF : ebX8_readNumbers_35 g x1 x2 x3 x4 m = some (c1, s1)) : Sh g s1.2 := by
  unfold ebX8_readNumbers_35 at hF
  have k1 := s_2_1 h
  obtain ⟨v2, m3, h4, hF⟩ := bd2_ok hF
  have hm3 := nX8_readNumber h  h4
  obtain ⟨i5, hF⟩ := ck_ok hF
  obtain ⟨m6, em6, hF⟩ := vm_ok hF
  have hm6 := hm3.s em6 (nRa k1.2.1 (by decide))
  have k7 := s_2_1 hm6
  obtain ⟨i8, hF⟩ := ck_ok hF
  rcases if_ok hF with ⟨hc9, hF⟩ | ⟨hc9, hF⟩
  · cases hF
    exact hm6
  · obtain ⟨y10, ey10, hF⟩ := vv_ok hF
    cases hF
    exact hm6
set_option maxRecDepth 20000 in
theorem qX8_readNumbers_3 {g : Shp} {m : Mem} {x1 x2 x3 x4 : Int} (h : Sh g m)  : bX8_readNumbers_3 g 2 x1 x2 x3 x4 m = ebX8_readNumbers_3 g x1 x2 x3 x4 m := by
  unfold bX8_readNumbers_3 ebX8_readNumbers_3
  refine if_c (fun hc1 => ?_) (fun hc1 => ?_)
  · rfl
  · have k2 := s_2_1 h
    rewrite [k2.1, ck_t k2.2.1]
    rewrite [k2.2.2]
    refine if_c (fun hc3 => ?_) (fun hc3 => ?_)
    · rfl
    · refine if_c (fun hc4 => ?_) (fun hc4 => ?_)
      · exact qX8_readNumbers_35 h
      · refine bd2_q (qX8_take h ) (fun v5 m6 h7 => ?_)
        have hm6 := nX8_take h  ((qX8_take h ).symm.trans h7)
        refine if_c (fun hc8 => ?_) (fun hc8 => ?_)
        · rfl
        · exact qX8_readNumbers_35 hm6
theorem nX8_readNumbers_3 {g : Shp} {m : Mem} {x1 x2 x3 x4 : Int} (h : Sh g m)  {c1 : Int} {s1 : (Int × Mem)} (hF : ebX8_readNumbers_3 g x1 x2 x3 x4 m = some (c1, s1)) : Sh g s1.2 := by
  unfold ebX8_readNumbers_3 at hF
  rcases if_ok hF with ⟨hc1, hF⟩ | ⟨hc1, hF⟩
  · cases hF
    exact h
  · have k2 := s_2_1 h
    rcases if_ok hF with ⟨hc3, hF⟩ | ⟨hc3, hF⟩
    · cases hF
      exact h
    · rcases if_ok hF with ⟨hc4, hF⟩ | ⟨hc4, hF⟩
      · exact nX8_readNumbers_35 h  hF
      · obtain ⟨v5, m6, h7, hF⟩ := bd2_ok hF
        have hm6 := nX8_take h  h7
        rcases if_ok hF with ⟨hc8, hF⟩ | ⟨hc8, hF⟩
        · cases hF
          exact hm6
        · exact nX8_readNumbers_35 hm6  hF
theorem nlX8_readNumbers_3 {g : Shp} {x1 x2 x3 : Int}  {n : Nat} {s0 s1 : (Int × Mem)} {c1 : Int} (h : Sh g s0.2) (hI : iter (eBX8_readNumbers_3 g x1 x2 x3) n s0 = some (c1, s1)) : Sh g s1.2 :=
  iter_inv (B := eBX8_readNumbers_3 g x1 x2 x3) (fun q => Sh g q.2) (fun s c s' hs hB => nX8_readNumbers_3 hs  hB) n s0 c1 s1 h hI
theorem qlX8_readNumbers_3 {g : Shp} {x1 x2 x3 : Int}  {n : Nat} {s0 : (Int × Mem)} (h : Sh g s0.2) : iter (BX8_readNumbers_3 g 2 x1 x2 x3) n s0 = iter (eBX8_readNumbers_3 g x1 x2 x3) n s0 :=
  iter_eq (B := BX8_readNumbers_3 g 2 x1 x2 x3) (E := eBX8_readNumbers_3 g x1 x2 x3) (fun q => Sh g q.2) (fun s hs => qX8_readNumbers_3 hs ) (fun s c s' hs hB => nX8_readNumbers_3 hs  ((qX8_readNumbers_3 hs ).symm.trans hB)) n s0 h
set_option maxRecDepth 20000 in
theorem qX8_readNumbers_33 {g : Shp} {m : Mem} (h : Sh g m)  : bX8_readNumbers_33 g m = ebX8_readNumbers_33 g m := by
  unfold bX8_readNumbers_33 ebX8_readNumbers_33
  rfl
theorem nX8_readNumbers_33 {g : Shp} {m : Mem} (h : Sh g m)  {r : Int} {m' : Mem} (hF : ebX8_readNumbers_33 g m = some (r, m')) : Sh g m' := by
  unfold ebX8_readNumbers_33 at hF
  cases hF
  exact h
set_option maxRecDepth 20000 in
theorem qX8_readNumbers_59 {g : Shp} {m : Mem} (h : Sh g m)  : bX8_readNumbers_59 g m = ebX8_readNumbers_59 g m := by
  unfold bX8_readNumbers_59 ebX8_readNumbers_59
  rfl
theorem nX8_readNumbers_59 {g : Shp} {m : Mem} (h : Sh g m)  {r : Int} {m' : Mem} (hF : ebX8_readNumbers_59 g m = some (r, m')) : Sh g m' := by
  unfold ebX8_readNumbers_59 at hF
  cases hF
  exact h
set_option maxRecDepth 20000 in
theorem qX8_readNumbers_67 {g : Shp} {m : Mem} (h : Sh g m)  : bX8_readNumbers_67 g m = ebX8_readNumbers_67 g m := by
  unfold bX8_readNumbers_67 ebX8_readNumbers_67
  rfl
theorem nX8_readNumbers_67 {g : Shp} {m : Mem} (h : Sh g m)  {r : Int} {m' : Mem} (hF : ebX8_readNumbers_67 g m = some (r, m')) : Sh g m' := by
  unfold ebX8_readNumbers_67 at hF
  cases hF
  exact h
set_option maxRecDepth 20000 in
theorem qX8_readNumbers_0 {g : Shp} {m : Mem} {x1 x2 x3 : Int} (h : Sh g m)  : bX8_readNumbers_0 g 2 x1 x2 x3 m = ebX8_readNumbers_0 g x1 x2 x3 m := by
  unfold bX8_readNumbers_0 ebX8_readNumbers_0
  refine bdl_q (qlX8_readNumbers_3  (n := 100000) (s0 := (0, m)) h) (fun cv1 sv2 hi3 => ?_)
  have h4 := nlX8_readNumbers_3  (s0 := (0, m)) h ((qlX8_readNumbers_3  (n := 100000) (s0 := (0, m)) h).symm.trans hi3)
  refine if_c (fun hc5 => ?_) (fun hc5 => ?_)
  · exact qX8_readNumbers_33 h4
  · refine if_c (fun hc6 => ?_) (fun hc6 => ?_)
    · exact qX8_readNumbers_59 h4
    · exact qX8_readNumbers_67 h4
theorem nX8_readNumbers_0 {g : Shp} {m : Mem} {x1 x2 x3 : Int} (h : Sh g m)  {r : Int} {m' : Mem} (hF : ebX8_readNumbers_0 g x1 x2 x3 m = some (r, m')) : Sh g m' := by
  unfold ebX8_readNumbers_0 at hF
  obtain ⟨cv1, sv2, hi3, hF⟩ := bdl_ok hF
  have h4 := nlX8_readNumbers_3  (s0 := (0, m)) h hi3
  rcases if_ok hF with ⟨hc5, hF⟩ | ⟨hc5, hF⟩
  · exact nX8_readNumbers_33 h4  hF
  · rcases if_ok hF with ⟨hc6, hF⟩ | ⟨hc6, hF⟩
    · exact nX8_readNumbers_59 h4  hF
    · exact nX8_readNumbers_67 h4  hF
theorem qX8_readNumbers {g : Shp} {m : Mem} {x1 x2 x3 : Int} (h : Sh g m)  : fX8_readNumbers g 2 x1 x2 x3 m = eX8_readNumbers g x1 x2 x3 m := qX8_readNumbers_0 h 
theorem nX8_readNumbers {g : Shp} {m : Mem} {x1 x2 x3 : Int} (h : Sh g m)  {r : Int} {m' : Mem} (hF : eX8_readNumbers g x1 x2 x3 m = some (r, m')) : Sh g m' := nX8_readNumbers_0 h  hF
set_option maxRecDepth 20000 in
theorem qX8_readSizes_43 {g : Shp} {m : Mem} (h : Sh g m)  : bX8_readSizes_43 g m = ebX8_readSizes_43 g m := by
  unfold bX8_readSizes_43 ebX8_readSizes_43
  rfl
theorem nX8_readSizes_43 {g : Shp} {m : Mem} (h : Sh g m)  {r : Int} {m' : Mem} (hF : ebX8_readSizes_43 g m = some (r, m')) : Sh g m' := by
  unfold ebX8_readSizes_43 at hF
  cases hF
  exact h
set_option maxRecDepth 20000 in
theorem qX8_readSizes_0 {g : Shp} {m : Mem} {x1 : Int} (h : Sh g m) (hx1 : gk g x1 = 8) : bX8_readSizes_0 g 2 x1 m = ebX8_readSizes_0 g x1 m := by
  unfold bX8_readSizes_0 ebX8_readSizes_0
  refine bd2_q (qX8_readNumbers h ) (fun v1 m2 h3 => ?_)
  have hm2 := nX8_readNumbers h  ((qX8_readNumbers h ).symm.trans h3)
  refine if_c (fun hc4 => ?_) (fun hc4 => ?_)
  · rfl
  · have k5 := s_2_1 hm2
    rewrite [k5.1, ck_t k5.2.1]
    try rewrite [k5.2.2]
    refine ck_c (fun i6 => ?_)
    have k7 := s_2_1 hm2
    try rewrite [k7.2.2]
    refine ck_c (fun i8 => ?_)
    refine if_c (fun hc9 => ?_) (fun hc9 => ?_)
    · exact qX8_readSizes_43 hm2
    · have k10 := s_2_1 hm2
      try rewrite [k10.2.2]
      refine ck_c (fun i11 => ?_)
      have k12 := s_2_1 hm2
      try rewrite [k12.2.2]
      refine ck_c (fun i13 => ?_)
      refine if_c (fun hc14 => ?_) (fun hc14 => ?_)
      · have k15 := s_2_1 hm2
        have k16 := u8_0 hm2 (r := x1) (q := x1 + 1) hx1 rfl
        rewrite [k16.1, ck_t k16.2.1]
        try rewrite [k15.2.2]
        try rewrite [k16.2.2]
        refine ck_c (fun h17 => ?_)
        refine vm_c (fun m18 em18 => ?_)
        have hm18 := hm2.cp em18 k16.2.1
        rfl
      · exact qX8_readSizes_43 hm2
theorem nX8_readSizes_0 {g : Shp} {m : Mem} {x1 : Int} (h : Sh g m) (hx1 : gk g x1 = 8) {r : Int} {m' : Mem} (hF : ebX8_readSizes_0 g x1 m = some (r, m')) : Sh g m' := by
  unfold ebX8_readSizes_0 at hF
  obtain ⟨v1, m2, h3, hF⟩ := bd2_ok hF
  have hm2 := nX8_readNumbers h  h3
  rcases if_ok hF with ⟨hc4, hF⟩ | ⟨hc4, hF⟩
  · cases hF
    exact hm2
  · have k5 := s_2_1 hm2
    obtain ⟨i6, hF⟩ := ck_ok hF
    have k7 := s_2_1 hm2
    obtain ⟨i8, hF⟩ := ck_ok hF
    rcases if_ok hF with ⟨hc9, hF⟩ | ⟨hc9, hF⟩
    · exact nX8_readSizes_43 hm2  hF
    · have k10 := s_2_1 hm2
      obtain ⟨i11, hF⟩ := ck_ok hF
      have k12 := s_2_1 hm2
      obtain ⟨i13, hF⟩ := ck_ok hF
      rcases if_ok hF with ⟨hc14, hF⟩ | ⟨hc14, hF⟩
      · have k15 := s_2_1 hm2
        have k16 := u8_0 hm2 (r := x1) (q := x1 + 1) hx1 rfl
        obtain ⟨h17, hF⟩ := ck_ok hF
        obtain ⟨m18, em18, hF⟩ := vm_ok hF
        have hm18 := hm2.cp em18 k16.2.1
        cases hF
        exact hm18
      · exact nX8_readSizes_43 hm2  hF
theorem qX8_readSizes {g : Shp} {m : Mem} {x1 : Int} (h : Sh g m) (hx1 : gk g x1 = 8) : fX8_readSizes g 2 x1 m = eX8_readSizes g x1 m := qX8_readSizes_0 h hx1
theorem nX8_readSizes {g : Shp} {m : Mem} {x1 : Int} (h : Sh g m) (hx1 : gk g x1 = 8) {r : Int} {m' : Mem} (hF : eX8_readSizes g x1 m = some (r, m')) : Sh g m' := nX8_readSizes_0 h hx1 hF
set_option maxRecDepth 20000 in
theorem qX8_readJoint_0 {g : Shp} {m : Mem} {x1 : Int} (h : Sh g m) (hx1 : gk g x1 = 8) : bX8_readJoint_0 g 2 x1 m = ebX8_readJoint_0 g x1 m := by
  unfold bX8_readJoint_0 ebX8_readJoint_0
  refine bd2_q (qX8_readNumbers h ) (fun v1 m2 h3 => ?_)
  have hm2 := nX8_readNumbers h  ((qX8_readNumbers h ).symm.trans h3)
  refine if_c (fun hc4 => ?_) (fun hc4 => ?_)
  · rfl
  · have k5 := s_2_1 hm2
    rewrite [k5.1, ck_t k5.2.1]
    try rewrite [k5.2.2]
    refine ck_c (fun i6 => ?_)
    refine vm_c (fun m7 em7 => ?_)
    have hm7 := hm2.s em7 (nRf hx1 (by decide) (by decide))
    rfl
theorem nX8_readJoint_0 {g : Shp} {m : Mem} {x1 : Int} (h : Sh g m) (hx1 : gk g x1 = 8) {r : Int} {m' : Mem} (hF : ebX8_readJoint_0 g x1 m = some (r, m')) : Sh g m' := by
  unfold ebX8_readJoint_0 at hF
  obtain ⟨v1, m2, h3, hF⟩ := bd2_ok hF
  have hm2 := nX8_readNumbers h  h3
  rcases if_ok hF with ⟨hc4, hF⟩ | ⟨hc4, hF⟩
  · cases hF
    exact hm2
  · have k5 := s_2_1 hm2
    obtain ⟨i6, hF⟩ := ck_ok hF
    obtain ⟨m7, em7, hF⟩ := vm_ok hF
    have hm7 := hm2.s em7 (nRf hx1 (by decide) (by decide))
    cases hF
    exact hm7
theorem qX8_readJoint {g : Shp} {m : Mem} {x1 : Int} (h : Sh g m) (hx1 : gk g x1 = 8) : fX8_readJoint g 2 x1 m = eX8_readJoint g x1 m := qX8_readJoint_0 h hx1
theorem nX8_readJoint {g : Shp} {m : Mem} {x1 : Int} (h : Sh g m) (hx1 : gk g x1 = 8) {r : Int} {m' : Mem} (hF : eX8_readJoint g x1 m = some (r, m')) : Sh g m' := nX8_readJoint_0 h hx1 hF
set_option maxRecDepth 20000 in
theorem qX10_isColour_14 {g : Shp} {m : Mem} {z0 : Int} (h : Sh g m)  : bX10_isColour_14 g z0 m = ebX10_isColour_14 g z0 m := by
  unfold bX10_isColour_14 ebX10_isColour_14
  refine ck_c (fun b1 => ?_)
  rfl
theorem nX10_isColour_14 {g : Shp} {m : Mem} {z0 : Int} (h : Sh g m)  {r : Int} {m' : Mem} (hF : ebX10_isColour_14 g z0 m = some (r, m')) : Sh g m' := by
  unfold ebX10_isColour_14 at hF
  obtain ⟨b1, hF⟩ := ck_ok hF
  cases hF
  exact h
set_option maxRecDepth 20000 in
theorem qX10_isColour_13 {g : Shp} {m : Mem} (h : Sh g m)  : bX10_isColour_13 g m = ebX10_isColour_13 g m := by
  unfold bX10_isColour_13 ebX10_isColour_13
  exact qX10_isColour_14 h 
theorem nX10_isColour_13 {g : Shp} {m : Mem} (h : Sh g m)  {r : Int} {m' : Mem} (hF : ebX10_isColour_13 g m = some (r, m')) : Sh g m' := by
  unfold ebX10_isColour_13 at hF
  exact nX10_isColour_14 h  hF
set_option maxRecDepth 20000 in
theorem qX10_isColour_0 {g : Shp} {m : Mem} {x0 : Int} (h : Sh g m)  : bX10_isColour_0 g x0 m = ebX10_isColour_0 g x0 m := by
  unfold bX10_isColour_0 ebX10_isColour_0
  refine if_c (fun hc1 => ?_) (fun hc1 => ?_)
  · exact qX10_isColour_13 h
  · refine if_c (fun hc2 => ?_) (fun hc2 => ?_)
    · exact qX10_isColour_13 h
    · exact qX10_isColour_14 h
theorem nX10_isColour_0 {g : Shp} {m : Mem} {x0 : Int} (h : Sh g m)  {r : Int} {m' : Mem} (hF : ebX10_isColour_0 g x0 m = some (r, m')) : Sh g m' := by
  unfold ebX10_isColour_0 at hF
  rcases if_ok hF with ⟨hc1, hF⟩ | ⟨hc1, hF⟩
  · exact nX10_isColour_13 h  hF
  · rcases if_ok hF with ⟨hc2, hF⟩ | ⟨hc2, hF⟩
    · exact nX10_isColour_13 h  hF
    · exact nX10_isColour_14 h  hF
theorem qX10_isColour {g : Shp} {m : Mem} {x0 : Int} (h : Sh g m)  : fX10_isColour g x0 m = eX10_isColour g x0 m := qX10_isColour_0 h 
theorem nX10_isColour {g : Shp} {m : Mem} {x0 : Int} (h : Sh g m)  {r : Int} {m' : Mem} (hF : eX10_isColour g x0 m = some (r, m')) : Sh g m' := nX10_isColour_0 h  hF
set_option maxRecDepth 20000 in
theorem qX8_readBag_23 {g : Shp} {m : Mem} (h : Sh g m)  : bX8_readBag_23 g m = ebX8_readBag_23 g m := by
  unfold bX8_readBag_23 ebX8_readBag_23
  rfl
theorem nX8_readBag_23 {g : Shp} {m : Mem} (h : Sh g m)  {r : Int} {m' : Mem} (hF : ebX8_readBag_23 g m = some (r, m')) : Sh g m' := by
  unfold ebX8_readBag_23 at hF
  cases hF
  exact h
set_option maxRecDepth 20000 in
theorem qX8_readBag_0 {g : Shp} {m : Mem} {x1 : Int} (h : Sh g m) (hx1 : gk g x1 = 8) : bX8_readBag_0 g 2 x1 m = ebX8_readBag_0 g x1 m := by
  unfold bX8_readBag_0 ebX8_readBag_0
  refine bd2_q (qX8_readNumbers h ) (fun v1 m2 h3 => ?_)
  have hm2 := nX8_readNumbers h  ((qX8_readNumbers h ).symm.trans h3)
  refine if_c (fun hc4 => ?_) (fun hc4 => ?_)
  · exact qX8_readBag_23 hm2
  · have k5 := s_2_1 hm2
    rewrite [k5.1, ck_t k5.2.1]
    try rewrite [k5.2.2]
    refine ck_c (fun i6 => ?_)
    refine bd2_q (qX10_isColour hm2 ) (fun v7 m8 h9 => ?_)
    have hm8 := nX10_isColour hm2  ((qX10_isColour hm2 ).symm.trans h9)
    refine if_c (fun hc10 => ?_) (fun hc10 => ?_)
    · exact qX8_readBag_23 hm8
    · have k11 := s_2_1 hm8
      rewrite [k11.1, ck_t k11.2.1]
      have k12 := u8_1 hm8 (r := x1) (q := x1 + 2) hx1 rfl
      rewrite [k12.1, ck_t k12.2.1]
      have k13 := s_2_1 hm8
      try rewrite [k13.2.2]
      refine ck_c (fun i14 => ?_)
      try rewrite [k11.2.2]
      try rewrite [k12.2.2]
      refine ck_c (fun h15 => ?_)
      refine vm_c (fun m16 em16 => ?_)
      have hm16 := hm8.cp em16 k12.2.1
      rfl
theorem nX8_readBag_0 {g : Shp} {m : Mem} {x1 : Int} (h : Sh g m) (hx1 : gk g x1 = 8) {r : Int} {m' : Mem} (hF : ebX8_readBag_0 g x1 m = some (r, m')) : Sh g m' := by
  unfold ebX8_readBag_0 at hF
  obtain ⟨v1, m2, h3, hF⟩ := bd2_ok hF
  have hm2 := nX8_readNumbers h  h3
  rcases if_ok hF with ⟨hc4, hF⟩ | ⟨hc4, hF⟩
  · exact nX8_readBag_23 hm2  hF
  · have k5 := s_2_1 hm2
    obtain ⟨i6, hF⟩ := ck_ok hF
    obtain ⟨v7, m8, h9, hF⟩ := bd2_ok hF
    have hm8 := nX10_isColour hm2  h9
    rcases if_ok hF with ⟨hc10, hF⟩ | ⟨hc10, hF⟩
    · exact nX8_readBag_23 hm8  hF
    · have k11 := s_2_1 hm8
      have k12 := u8_1 hm8 (r := x1) (q := x1 + 2) hx1 rfl
      have k13 := s_2_1 hm8
      obtain ⟨i14, hF⟩ := ck_ok hF
      obtain ⟨h15, hF⟩ := ck_ok hF
      obtain ⟨m16, em16, hF⟩ := vm_ok hF
      have hm16 := hm8.cp em16 k12.2.1
      cases hF
      exact hm16
theorem qX8_readBag {g : Shp} {m : Mem} {x1 : Int} (h : Sh g m) (hx1 : gk g x1 = 8) : fX8_readBag g 2 x1 m = eX8_readBag g x1 m := qX8_readBag_0 h hx1
theorem nX8_readBag {g : Shp} {m : Mem} {x1 : Int} (h : Sh g m) (hx1 : gk g x1 = 8) {r : Int} {m' : Mem} (hF : eX8_readBag g x1 m = some (r, m')) : Sh g m' := nX8_readBag_0 h hx1 hF
set_option maxRecDepth 20000 in
theorem qX8_readRun_103 {g : Shp} {m : Mem} {z0 : Int} (h : Sh g m)  : bX8_readRun_103 g z0 m = ebX8_readRun_103 g z0 m := by
  unfold bX8_readRun_103 ebX8_readRun_103
  refine ck_c (fun b1 => ?_)
  rfl
theorem nX8_readRun_103 {g : Shp} {m : Mem} {z0 : Int} (h : Sh g m)  {r : Int} {m' : Mem} (hF : ebX8_readRun_103 g z0 m = some (r, m')) : Sh g m' := by
  unfold ebX8_readRun_103 at hF
  obtain ⟨b1, hF⟩ := ck_ok hF
  cases hF
  exact h
set_option maxRecDepth 20000 in
theorem qX8_readRun_102 {g : Shp} {m : Mem} (h : Sh g m)  : bX8_readRun_102 g m = ebX8_readRun_102 g m := by
  unfold bX8_readRun_102 ebX8_readRun_102
  exact qX8_readRun_103 h 
theorem nX8_readRun_102 {g : Shp} {m : Mem} (h : Sh g m)  {r : Int} {m' : Mem} (hF : ebX8_readRun_102 g m = some (r, m')) : Sh g m' := by
  unfold ebX8_readRun_102 at hF
  exact nX8_readRun_103 h  hF
set_option maxRecDepth 20000 in
theorem qX8_readRun_68 {g : Shp} {m : Mem} {x1 x2 x3 x4 x5 : Int} (h : Sh g m) (hx1 : gk g x1 = 6) (hx2 : gk g x2 = 20) : bX8_readRun_68 g 2 x1 x2 x3 x4 x5 m = ebX8_readRun_68 g x1 x2 x3 x4 x5 m := by
  unfold bX8_readRun_68 ebX8_readRun_68
  refine bd2_q (qX8_readNumber h ) (fun v1 m2 h3 => ?_)
  have hm2 := nX8_readNumber h  ((qX8_readNumber h ).symm.trans h3)
  refine if_c (fun hc4 => ?_) (fun hc4 => ?_)
  · exact qX8_readRun_102 hm2
  · refine bd2_q (qX5_go hm2 hx1 hx2) (fun v5 m6 h7 => ?_)
    have hm6 := nX5_go hm2 hx1 hx2 ((qX5_go hm2 hx1 hx2).symm.trans h7)
    refine if_c (fun hc8 => ?_) (fun hc8 => ?_)
    · exact qX8_readRun_102 hm6
    · exact qX8_readRun_103 hm6
theorem nX8_readRun_68 {g : Shp} {m : Mem} {x1 x2 x3 x4 x5 : Int} (h : Sh g m) (hx1 : gk g x1 = 6) (hx2 : gk g x2 = 20) {r : Int} {m' : Mem} (hF : ebX8_readRun_68 g x1 x2 x3 x4 x5 m = some (r, m')) : Sh g m' := by
  unfold ebX8_readRun_68 at hF
  obtain ⟨v1, m2, h3, hF⟩ := bd2_ok hF
  have hm2 := nX8_readNumber h  h3
  rcases if_ok hF with ⟨hc4, hF⟩ | ⟨hc4, hF⟩
  · exact nX8_readRun_102 hm2  hF
  · obtain ⟨v5, m6, h7, hF⟩ := bd2_ok hF
    have hm6 := nX5_go hm2 hx1 hx2 h7
    rcases if_ok hF with ⟨hc8, hF⟩ | ⟨hc8, hF⟩
    · exact nX8_readRun_102 hm6  hF
    · exact nX8_readRun_103 hm6  hF
set_option maxRecDepth 20000 in
theorem qX8_readRun_0 {g : Shp} {m : Mem} {x1 x2 x3 : Int} (h : Sh g m) (hx1 : gk g x1 = 6) (hx2 : gk g x2 = 20) : bX8_readRun_0 g 2 x1 x2 x3 m = ebX8_readRun_0 g x1 x2 x3 m := by
  unfold bX8_readRun_0 ebX8_readRun_0
  refine bd2_q (qX8_take h ) (fun v1 m2 h3 => ?_)
  have hm2 := nX8_take h  ((qX8_take h ).symm.trans h3)
  refine if_c (fun hc4 => ?_) (fun hc4 => ?_)
  · refine bd2_q (qX8_take hm2 ) (fun v5 m6 h7 => ?_)
    have hm6 := nX8_take hm2  ((qX8_take hm2 ).symm.trans h7)
    refine if_c (fun hc8 => ?_) (fun hc8 => ?_)
    · refine bd2_q (qX8_take hm6 ) (fun v9 m10 h11 => ?_)
      have hm10 := nX8_take hm6  ((qX8_take hm6 ).symm.trans h11)
      refine if_c (fun hc12 => ?_) (fun hc12 => ?_)
      · refine bd2_q (qX8_take hm10 ) (fun v13 m14 h15 => ?_)
        have hm14 := nX8_take hm10  ((qX8_take hm10 ).symm.trans h15)
        refine if_c (fun hc16 => ?_) (fun hc16 => ?_)
        · rfl
        · exact qX8_readRun_68 hm14 hx1 hx2
      · exact qX8_readRun_68 hm10 hx1 hx2
    · exact qX8_readRun_68 hm6 hx1 hx2
  · exact qX8_readRun_68 hm2 hx1 hx2
theorem nX8_readRun_0 {g : Shp} {m : Mem} {x1 x2 x3 : Int} (h : Sh g m) (hx1 : gk g x1 = 6) (hx2 : gk g x2 = 20) {r : Int} {m' : Mem} (hF : ebX8_readRun_0 g x1 x2 x3 m = some (r, m')) : Sh g m' := by
  unfold ebX8_readRun_0 at hF
  obtain ⟨v1, m2, h3, hF⟩ := bd2_ok hF
  have hm2 := nX8_take h  h3
  rcases if_ok hF with ⟨hc4, hF⟩ | ⟨hc4, hF⟩
  · obtain ⟨v5, m6, h7, hF⟩ := bd2_ok hF
    have hm6 := nX8_take hm2  h7
    rcases if_ok hF with ⟨hc8, hF⟩ | ⟨hc8, hF⟩
    · obtain ⟨v9, m10, h11, hF⟩ := bd2_ok hF
      have hm10 := nX8_take hm6  h11
      rcases if_ok hF with ⟨hc12, hF⟩ | ⟨hc12, hF⟩
      · obtain ⟨v13, m14, h15, hF⟩ := bd2_ok hF
        have hm14 := nX8_take hm10  h15
        rcases if_ok hF with ⟨hc16, hF⟩ | ⟨hc16, hF⟩
        · cases hF
          exact hm14
        · exact nX8_readRun_68 hm14 hx1 hx2 hF
      · exact nX8_readRun_68 hm10 hx1 hx2 hF
    · exact nX8_readRun_68 hm6 hx1 hx2 hF
  · exact nX8_readRun_68 hm2 hx1 hx2 hF
theorem qX8_readRun {g : Shp} {m : Mem} {x1 x2 x3 : Int} (h : Sh g m) (hx1 : gk g x1 = 6) (hx2 : gk g x2 = 20) : fX8_readRun g 2 x1 x2 x3 m = eX8_readRun g x1 x2 x3 m := qX8_readRun_0 h hx1 hx2
theorem nX8_readRun {g : Shp} {m : Mem} {x1 x2 x3 : Int} (h : Sh g m) (hx1 : gk g x1 = 6) (hx2 : gk g x2 = 20) {r : Int} {m' : Mem} (hF : eX8_readRun g x1 x2 x3 m = some (r, m')) : Sh g m' := nX8_readRun_0 h hx1 hx2 hF
set_option maxRecDepth 20000 in
theorem qX8_readLine_120 {g : Shp} {m : Mem} {x1 x2 x3 : Int} (h : Sh g m) (hx1 : gk g x1 = 8) (hx2 : gk g x2 = 6) : bX8_readLine_120 g 2 x1 x2 x3 m = ebX8_readLine_120 g x1 x2 x3 m := by
  unfold bX8_readLine_120 ebX8_readLine_120
  refine vv_c (fun y1 ey1 => ?_)
  rfl
theorem nX8_readLine_120 {g : Shp} {m : Mem} {x1 x2 x3 : Int} (h : Sh g m) (hx1 : gk g x1 = 8) (hx2 : gk g x2 = 6) {c1 : Int} {s1 : (Int × Mem)} (hF : ebX8_readLine_120 g x1 x2 x3 m = some (c1, s1)) : Sh g s1.2 := by
  unfold ebX8_readLine_120 at hF
  obtain ⟨y1, ey1, hF⟩ := vv_ok hF
  cases hF
  exact h
set_option maxRecDepth 20000 in
theorem qX8_readLine_58 {g : Shp} {m : Mem} {x1 x2 x3 : Int} (h : Sh g m) (hx1 : gk g x1 = 8) (hx2 : gk g x2 = 6) : bX8_readLine_58 g 2 x1 x2 x3 m = ebX8_readLine_58 g x1 x2 x3 m := by
  unfold bX8_readLine_58 ebX8_readLine_58
  refine if_c (fun hc1 => ?_) (fun hc1 => ?_)
  · rfl
  · have k2 := u8_3 h (r := x1) (q := x1 + 4) hx1 rfl
    rewrite [k2.1, ck_t k2.2.1]
    refine bd2_q (qX8_readRun h hx2 k2.2.1) (fun v3 m4 h5 => ?_)
    have hm4 := nX8_readRun h hx2 k2.2.1 ((qX8_readRun h hx2 k2.2.1).symm.trans h5)
    refine if_c (fun hc6 => ?_) (fun hc6 => ?_)
    · rfl
    · refine if_c (fun hc7 => ?_) (fun hc7 => ?_)
      · exact qX8_readLine_120 hm4 hx1 hx2
      · have k8 := s_2_0 hm4
        rewrite [k8.1, ck_t k8.2.1]
        try rewrite [k8.2.2]
        refine ck_c (fun i9 => ?_)
        refine if_c (fun hc10 => ?_) (fun hc10 => ?_)
        · rfl
        · exact qX8_readLine_120 hm4 hx1 hx2
theorem nX8_readLine_58 {g : Shp} {m : Mem} {x1 x2 x3 : Int} (h : Sh g m) (hx1 : gk g x1 = 8) (hx2 : gk g x2 = 6) {c1 : Int} {s1 : (Int × Mem)} (hF : ebX8_readLine_58 g x1 x2 x3 m = some (c1, s1)) : Sh g s1.2 := by
  unfold ebX8_readLine_58 at hF
  rcases if_ok hF with ⟨hc1, hF⟩ | ⟨hc1, hF⟩
  · cases hF
    exact h
  · have k2 := u8_3 h (r := x1) (q := x1 + 4) hx1 rfl
    obtain ⟨v3, m4, h5, hF⟩ := bd2_ok hF
    have hm4 := nX8_readRun h hx2 k2.2.1 h5
    rcases if_ok hF with ⟨hc6, hF⟩ | ⟨hc6, hF⟩
    · cases hF
      exact hm4
    · rcases if_ok hF with ⟨hc7, hF⟩ | ⟨hc7, hF⟩
      · exact nX8_readLine_120 hm4 hx1 hx2 hF
      · have k8 := s_2_0 hm4
        obtain ⟨i9, hF⟩ := ck_ok hF
        rcases if_ok hF with ⟨hc10, hF⟩ | ⟨hc10, hF⟩
        · cases hF
          exact hm4
        · exact nX8_readLine_120 hm4 hx1 hx2 hF
theorem nlX8_readLine_58 {g : Shp} {x1 x2 : Int} (hx1 : gk g x1 = 8) (hx2 : gk g x2 = 6) {n : Nat} {s0 s1 : (Int × Mem)} {c1 : Int} (h : Sh g s0.2) (hI : iter (eBX8_readLine_58 g x1 x2) n s0 = some (c1, s1)) : Sh g s1.2 :=
  iter_inv (B := eBX8_readLine_58 g x1 x2) (fun q => Sh g q.2) (fun s c s' hs hB => nX8_readLine_58 hs hx1 hx2 hB) n s0 c1 s1 h hI
theorem qlX8_readLine_58 {g : Shp} {x1 x2 : Int} (hx1 : gk g x1 = 8) (hx2 : gk g x2 = 6) {n : Nat} {s0 : (Int × Mem)} (h : Sh g s0.2) : iter (BX8_readLine_58 g 2 x1 x2) n s0 = iter (eBX8_readLine_58 g x1 x2) n s0 :=
  iter_eq (B := BX8_readLine_58 g 2 x1 x2) (E := eBX8_readLine_58 g x1 x2) (fun q => Sh g q.2) (fun s hs => qX8_readLine_58 hs hx1 hx2) (fun s c s' hs hB => nX8_readLine_58 hs hx1 hx2 ((qX8_readLine_58 hs hx1 hx2).symm.trans hB)) n s0 h
set_option maxRecDepth 20000 in
theorem qX8_readLine_28 {g : Shp} {m : Mem} (h : Sh g m)  : bX8_readLine_28 g m = ebX8_readLine_28 g m := by
  unfold bX8_readLine_28 ebX8_readLine_28
  rfl
theorem nX8_readLine_28 {g : Shp} {m : Mem} (h : Sh g m)  {r : Int} {m' : Mem} (hF : ebX8_readLine_28 g m = some (r, m')) : Sh g m' := by
  unfold ebX8_readLine_28 at hF
  cases hF
  exact h
set_option maxRecDepth 20000 in
theorem qX8_readLine_81 {g : Shp} {m : Mem} (h : Sh g m)  : bX8_readLine_81 g m = ebX8_readLine_81 g m := by
  unfold bX8_readLine_81 ebX8_readLine_81
  rfl
theorem nX8_readLine_81 {g : Shp} {m : Mem} (h : Sh g m)  {r : Int} {m' : Mem} (hF : ebX8_readLine_81 g m = some (r, m')) : Sh g m' := by
  unfold ebX8_readLine_81 at hF
  cases hF
  exact h
set_option maxRecDepth 20000 in
theorem qX8_readLine_108 {g : Shp} {m : Mem} {x1 : Int} (h : Sh g m) (hx1 : gk g x1 = 8) : bX8_readLine_108 g x1 m = ebX8_readLine_108 g x1 m := by
  unfold bX8_readLine_108 ebX8_readLine_108
  refine vm_c (fun m1 em1 => ?_)
  have hm1 := h.s em1 (nRf hx1 (by decide) (by decide))
  rfl
theorem nX8_readLine_108 {g : Shp} {m : Mem} {x1 : Int} (h : Sh g m) (hx1 : gk g x1 = 8) {r : Int} {m' : Mem} (hF : ebX8_readLine_108 g x1 m = some (r, m')) : Sh g m' := by
  unfold ebX8_readLine_108 at hF
  obtain ⟨m1, em1, hF⟩ := vm_ok hF
  have hm1 := h.s em1 (nRf hx1 (by decide) (by decide))
  cases hF
  exact hm1
set_option maxRecDepth 20000 in
theorem qX8_readLine_126 {g : Shp} {m : Mem} (h : Sh g m)  : bX8_readLine_126 g m = ebX8_readLine_126 g m := by
  unfold bX8_readLine_126 ebX8_readLine_126
  rfl
theorem nX8_readLine_126 {g : Shp} {m : Mem} (h : Sh g m)  {r : Int} {m' : Mem} (hF : ebX8_readLine_126 g m = some (r, m')) : Sh g m' := by
  unfold ebX8_readLine_126 at hF
  cases hF
  exact h
set_option maxRecDepth 20000 in
theorem qX8_readLine_0 {g : Shp} {m : Mem} {x1 : Int} (h : Sh g m) (hx1 : gk g x1 = 8) : bX8_readLine_0 g 2 x1 m = ebX8_readLine_0 g x1 m := by
  unfold bX8_readLine_0 ebX8_readLine_0
  refine if_c (fun hc1 => ?_) (fun hc1 => ?_)
  · exact qX8_readLine_28 h
  · refine bd2_q (qX8_readNumbers h ) (fun v2 m3 h4 => ?_)
    have hm3 := nX8_readNumbers h  ((qX8_readNumbers h ).symm.trans h4)
    refine if_c (fun hc5 => ?_) (fun hc5 => ?_)
    · exact qX8_readLine_28 hm3
    · refine bd2_q (qX8_take hm3 ) (fun v6 m7 h8 => ?_)
      have hm7 := nX8_take hm3  ((qX8_take hm3 ).symm.trans h8)
      refine if_c (fun hc9 => ?_) (fun hc9 => ?_)
      · exact qX8_readLine_28 hm7
      · have k10 := u8_2 hm7 (r := x1) (q := x1 + 3) hx1 rfl
        rewrite [k10.1, ck_t k10.2.1]
        try rewrite [al25 hm7 k10.2.1]
        refine ck_c (fun i11 => ?_)
        have k12 := a25 hm7 (r := x1 + 3) (i := m7 x1 5) k10.2.1 i11 rfl
        try rewrite [k12.1]
        rewrite [ck_t k12.2]
        refine vv_k (fun y13 ey13 => ?_)
        subst ey13
        have k14 := s_2_1 hm7
        rewrite [k14.1, ck_t k14.2.1]
        try rewrite [k14.2.2]
        refine ck_c (fun i15 => ?_)
        have k16 := s_2_1 hm7
        try rewrite [k16.2.2]
        refine ck_c (fun i17 => ?_)
        refine bd2_q (qX5_begin hm7 k12.2) (fun v18 m19 h20 => ?_)
        have hm19 := nX5_begin hm7 k12.2 ((qX5_begin hm7 k12.2).symm.trans h20)
        refine bdl_q (qlX8_readLine_58 hx1 k12.2 (n := 100000) (s0 := (0, m19)) hm19) (fun cv21 sv22 hi23 => ?_)
        have h24 := nlX8_readLine_58 hx1 k12.2 (s0 := (0, m19)) hm19 ((qlX8_readLine_58 hx1 k12.2 (n := 100000) (s0 := (0, m19)) hm19).symm.trans hi23)
        refine if_c (fun hc25 => ?_) (fun hc25 => ?_)
        · exact qX8_readLine_81 h24
        · refine if_c (fun hc26 => ?_) (fun hc26 => ?_)
          · exact qX8_readLine_108 h24 hx1
          · exact qX8_readLine_126 h24
theorem nX8_readLine_0 {g : Shp} {m : Mem} {x1 : Int} (h : Sh g m) (hx1 : gk g x1 = 8) {r : Int} {m' : Mem} (hF : ebX8_readLine_0 g x1 m = some (r, m')) : Sh g m' := by
  unfold ebX8_readLine_0 at hF
  rcases if_ok hF with ⟨hc1, hF⟩ | ⟨hc1, hF⟩
  · exact nX8_readLine_28 h  hF
  · obtain ⟨v2, m3, h4, hF⟩ := bd2_ok hF
    have hm3 := nX8_readNumbers h  h4
    rcases if_ok hF with ⟨hc5, hF⟩ | ⟨hc5, hF⟩
    · exact nX8_readLine_28 hm3  hF
    · obtain ⟨v6, m7, h8, hF⟩ := bd2_ok hF
      have hm7 := nX8_take hm3  h8
      rcases if_ok hF with ⟨hc9, hF⟩ | ⟨hc9, hF⟩
      · exact nX8_readLine_28 hm7  hF
      · have k10 := u8_2 hm7 (r := x1) (q := x1 + 3) hx1 rfl
        obtain ⟨i11, hF⟩ := ck_ok hF
        have k12 := a25 hm7 (r := x1 + 3) (i := m7 x1 5) k10.2.1 i11 rfl
        have k14 := s_2_1 hm7
        obtain ⟨i15, hF⟩ := ck_ok hF
        have k16 := s_2_1 hm7
        obtain ⟨i17, hF⟩ := ck_ok hF
        obtain ⟨v18, m19, h20, hF⟩ := bd2_ok hF
        have hm19 := nX5_begin hm7 k12.2 h20
        obtain ⟨cv21, sv22, hi23, hF⟩ := bdl_ok hF
        have h24 := nlX8_readLine_58 hx1 k12.2 (s0 := (0, m19)) hm19 hi23
        rcases if_ok hF with ⟨hc25, hF⟩ | ⟨hc25, hF⟩
        · exact nX8_readLine_81 h24  hF
        · rcases if_ok hF with ⟨hc26, hF⟩ | ⟨hc26, hF⟩
          · exact nX8_readLine_108 h24 hx1 hF
          · exact nX8_readLine_126 h24  hF
theorem qX8_readLine {g : Shp} {m : Mem} {x1 : Int} (h : Sh g m) (hx1 : gk g x1 = 8) : fX8_readLine g 2 x1 m = eX8_readLine g x1 m := qX8_readLine_0 h hx1
theorem nX8_readLine {g : Shp} {m : Mem} {x1 : Int} (h : Sh g m) (hx1 : gk g x1 = 8) {r : Int} {m' : Mem} (hF : eX8_readLine g x1 m = some (r, m')) : Sh g m' := nX8_readLine_0 h hx1 hF
