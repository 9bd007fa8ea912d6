def bX6_add_43 (g : Shp) (m : Mem) : Option (Int × Mem) :=
  some (0, m)
def bX6_add_0 (g : Shp) (x0 x1 x2 : Int) (m : Mem) : Option (Int × Mem) :=
  if x1 ≤ 0 then
    bX6_add_43 g m
  else
    if 60 ≤ (m x0 2) then
      bX6_add_43 g m
    else
      ck (gk g (m x0 0) = 20) <|
      ck ((0 : Int) ≤ (m x0 2) ∧ (m x0 2) < gl g (m x0 0)) <|
      vm (ms m (m x0 0) (m x0 2) x1) fun m5 =>
      ck (gk g (m5 x0 1) = 21) <|
      ck ((0 : Int) ≤ (m5 x0 2) ∧ (m5 x0 2) < gl g (m5 x0 1)) <|
      ck (x2 = 0 ∨ x2 = 1) <|
      vm (ms m5 (m5 x0 1) (m5 x0 2) x2) fun m9 =>
      vm (ms m9 x0 2 (w32 ((m9 x0 2) + 1))) fun m10 =>
      bX6_add_43 g m10
def fX6_add (g : Shp) (x0 x1 x2 : Int) (m : Mem) : Option (Int × Mem) := bX6_add_0 g x0 x1 x2 m
def bX6_split_62 (g : Shp) (x0 x1 x2 x3 x4 x5 : Int) (m : Mem) : Option (Int × (Int × Int × Mem)) :=
  vv (w32 (x3 + 1)) fun y1 =>
  some (0, (y1, x5, m))
def bX6_split_22 (g : Shp) (x0 x1 x2 x3 x4 x5 : Int) (m : Mem) : Option (Int × (Int × Int × Mem)) :=
  ck (gk g (m x1 1) = 20) <|
  ck ((0 : Int) ≤ x4 ∧ x4 < gl g (m x1 1)) <|
  if (m (m x1 1) x4) < x3 then
    some (1, (x3, x5, m))
  else
    ck (gk g (m x1 0) = 20) <|
    ck ((0 : Int) ≤ x3 ∧ x3 < gl g (m x1 0)) <|
    ck ((0 : Int) ≤ (m (m x1 0) x3) ∧ (m (m x1 0) x3) < gl g x2) <|
    if (m x2 (m (m x1 0) x3)) = ((-4)) then
      vv (w32 (x5 + 1)) fun y8 =>
      bX6_split_62 g x0 x1 x2 x3 x4 y8 m
    else
      bd2 (fX6_add g x0 x5 0 m) fun v9 m10 =>
      bX6_split_62 g x0 x1 x2 x3 x4 0 m10
def BX6_split_22 (g : Shp) (x0 x1 x2 x4 : Int) (q : (Int × Int × Mem)) : Option (Int × (Int × Int × Mem)) := bX6_split_22 g x0 x1 x2 q.1 x4 q.2.1 q.2.2
def bX6_split_87 (g : Shp) (x0 x1 x2 x3 x4 z0 z1 z2 : Int) (m : Mem) : Option (Int × (Int × Int × Mem)) :=
  bd2 (fX6_add g z0 z1 z2 m) fun v1 m2 =>
  vv (w32 (x4 + 1)) fun y4 =>
  some (0, (x3, y4, m2))
def bX6_split_68 (g : Shp) (x0 x1 x2 x3 x4 x5 : Int) (m : Mem) : Option (Int × (Int × Int × Mem)) :=
  if (w32 ((m x1 3) - 1)) ≤ x4 then
    bX6_split_87 g x0 x1 x2 x3 x4 x0 x5 0 m
  else
    bX6_split_87 g x0 x1 x2 x3 x4 x0 x5 1 m
def bX6_split_10 (g : Shp) (x0 x1 x2 x3 x4 : Int) (m : Mem) : Option (Int × (Int × Int × Mem)) :=
  if (m x1 3) ≤ x4 then
    some (1, (x3, x4, m))
  else
    bdl (iter (BX6_split_22 g x0 x1 x2 x4) 100000 (x3, 0, m)) fun cv2 sv3 =>
    bX6_split_68 g x0 x1 x2 sv3.1 x4 sv3.2.1 sv3.2.2
def BX6_split_10 (g : Shp) (x0 x1 x2 : Int) (q : (Int × Int × Mem)) : Option (Int × (Int × Int × Mem)) := bX6_split_10 g x0 x1 x2 q.1 q.2.1 q.2.2
def bX6_split_96 (g : Shp) (m : Mem) : Option (Int × Mem) :=
  some (0, m)
def bX6_split_0 (g : Shp) (x0 x1 x2 : Int) (m : Mem) : Option (Int × Mem) :=
  vm (ms m x0 2 0) fun m1 =>
  bdl (iter (BX6_split_10 g x0 x1 x2) 100000 (0, 0, m1)) fun cv2 sv3 =>
  bX6_split_96 g sv3.2.2
def fX6_split (g : Shp) (x0 x1 x2 : Int) (m : Mem) : Option (Int × Mem) := bX6_split_0 g x0 x1 x2 m
def bX7_clear_0 (g : Shp) (x0 : Int) (m : Mem) : Option (Int × Mem) :=
  ck (gk g (m x0 0) = 20) <|
  ck ((0 : Int) ≤ 0 ∧ 0 < gl g (m x0 0)) <|
  vm (ms m (m x0 0) 0 2) fun m3 =>
  ck (gk g (m3 x0 0) = 20) <|
  ck ((0 : Int) ≤ 1 ∧ 1 < gl g (m3 x0 0)) <|
  vm (ms m3 (m3 x0 0) 1 3) fun m6 =>
  ck (gk g (m6 x0 0) = 20) <|
  ck ((0 : Int) ≤ 2 ∧ 2 < gl g (m6 x0 0)) <|
  vm (ms m6 (m6 x0 0) 2 5) fun m9 =>
  ck (gk g (m9 x0 1) = 20) <|
  bd2 (fJ7_fill_53178 g (m9 x0 1) 6 m9) fun v11 m12 =>
  ck (gk g (m12 x0 3) = 20) <|
  bd2 (fJ7_fill_53178 g (m12 x0 3) 0 m12) fun v15 m16 =>
  vm (ms m16 x0 4 0) fun m18 =>
  vm (ms m18 x0 5 0) fun m19 =>
  some (0, m19)
def fX7_clear (g : Shp) (x0 : Int) (m : Mem) : Option (Int × Mem) := bX7_clear_0 g x0 m
def bX7_goesOver_18 (g : Shp) (z0 : Int) (m : Mem) : Option (Int × Mem) :=
  ck (z0 = 0 ∨ z0 = 1) <|
  some (z0, m)
def bX7_goesOver_0 (g : Shp) (x0 x1 x2 : Int) (m : Mem) : Option (Int × Mem) :=
  ck (gk g (m x0 3) = 20) <|
  ck ((0 : Int) ≤ x2 ∧ x2 < gl g (m x0 3)) <|
  if (bAnd (m (m x0 3) x2) (bShl 1 x1)) = 0 then
    bX7_goesOver_18 g 0 m
  else
    bX7_goesOver_18 g 1 m
def fX7_goesOver (g : Shp) (x0 x1 x2 : Int) (m : Mem) : Option (Int × Mem) := bX7_goesOver_0 g x0 x1 x2 m
def bJ6_bitCount_0f7a4_0 (g : Shp) (x0 : Int) (m : Mem) : Option (Int × Mem) :=
  vv (w32 (x0 - (bAnd (bUshr x0 1) 1431655765))) fun y1 =>
  vv (w32 ((bAnd y1 858993459) + (bAnd (bUshr y1 2) 858993459))) fun y2 =>
  vv (bAnd (w32 (y2 + (bUshr y2 4))) 252645135) fun y3 =>
  vv (w32 (y3 + (bUshr y3 8))) fun y4 =>
  vv (w32 (y4 + (bUshr y4 16))) fun y5 =>
  some (bAnd y5 63, m)
def fJ6_bitCount_0f7a4 (g : Shp) (x0 : Int) (m : Mem) : Option (Int × Mem) := bJ6_bitCount_0f7a4_0 g x0 m
def bX7_sharedCells_27 (g : Shp) (x0 x1 x2 : Int) (m : Mem) : Option (Int × (Int × Int × Mem)) :=
  vv (w32 (x2 + 1)) fun y1 =>
  some (0, (x1, y1, m))
def bX7_sharedCells_4 (g : Shp) (x0 x1 x2 : Int) (m : Mem) : Option (Int × (Int × Int × Mem)) :=
  if 400 ≤ x2 then
    some (1, (x1, x2, m))
  else
    ck (gk g (m x0 3) = 20) <|
    ck ((0 : Int) ≤ x2 ∧ x2 < gl g (m x0 3)) <|
    bd2 (fJ6_bitCount_0f7a4 g (m (m x0 3) x2) m) fun v4 m5 =>
    if v4 ≤ 1 then
      bX7_sharedCells_27 g x0 x1 x2 m5
    else
      vv (w32 (x1 + 1)) fun y9 =>
      bX7_sharedCells_27 g x0 y9 x2 m5
def BX7_sharedCells_4 (g : Shp) (x0 : Int) (q : (Int × Int × Mem)) : Option (Int × (Int × Int × Mem)) := bX7_sharedCells_4 g x0 q.1 q.2.1 q.2.2
def bX7_sharedCells_33 (g : Shp) (x1 : Int) (m : Mem) : Option (Int × Mem) :=
  some (x1, m)
def bX7_sharedCells_0 (g : Shp) (x0 : Int) (m : Mem) : Option (Int × Mem) :=
  bdl (iter (BX7_sharedCells_4 g x0) 100000 (0, 0, m)) fun cv1 sv2 =>
  bX7_sharedCells_33 g sv2.1 sv2.2.2
def fX7_sharedCells (g : Shp) (x0 : Int) (m : Mem) : Option (Int × Mem) := bX7_sharedCells_0 g x0 m
def bX8_append_30 (g : Shp) (m : Mem) : Option (Int × Mem) :=
  some (0, m)
def bX8_append_0 (g : Shp) (x0 x1 : Int) (m : Mem) : Option (Int × Mem) :=
  if 200 ≤ (m x0 3) then
    bX8_append_30 g m
  else
    ck (gk g (m x0 0) = 22) <|
    ck ((0 : Int) ≤ (m x0 3) ∧ (m x0 3) < gl g (m x0 0)) <|
    ck ((0 : Int) ≤ x1 ∧ x1 < 65536) <|
    vm (ms m (m x0 0) (m x0 3) x1) fun m5 =>
    vm (ms m5 x0 3 (w32 ((m5 x0 3) + 1))) fun m6 =>
    bX8_append_30 g m6
def fX8_append (g : Shp) (x0 x1 : Int) (m : Mem) : Option (Int × Mem) := bX8_append_0 g x0 x1 m
def bX8_take_24 (g : Shp) (m : Mem) : Option (Int × Mem) :=
  some (0, m)
def bX8_take_0 (g : Shp) (x0 x1 : Int) (m : Mem) : Option (Int × Mem) :=
  if (m x0 3) ≤ (m x0 2) then
    bX8_take_24 g m
  else
    ck (gk g (m x0 0) = 22) <|
    ck ((0 : Int) ≤ (m x0 2) ∧ (m x0 2) < gl g (m x0 0)) <|
    if (m (m x0 0) (m x0 2)) = x1 then
      vm (ms m x0 2 (w32 ((m x0 2) + 1))) fun m5 =>
      some (1, m5)
    else
      bX8_take_24 g m
def fX8_take (g : Shp) (x0 x1 : Int) (m : Mem) : Option (Int × Mem) := bX8_take_0 g x0 x1 m
def bX8_readNumber_5 (g : Shp) (x0 x1 x2 x3 x4 : Int) (m : Mem) : Option (Int × (Int × Int × Mem)) :=
  if 2 ≤ x4 then
    some (1, (x3, x4, m))
  else
    if (m x0 3) ≤ (m x0 2) then
      some (1, (x3, x4, m))
    else
      ck (gk g (m x0 0) = 22) <|
      ck ((0 : Int) ≤ (m x0 2) ∧ (m x0 2) < gl g (m x0 0)) <|
      if (m (m x0 0) (m x0 2)) < 48 then
        some (1, (x3, x4, m))
      else
        ck ((0 : Int) ≤ (m x0 2) ∧ (m x0 2) < gl g (m x0 0)) <|
        if 57 < (m (m x0 0) (m x0 2)) then
          some (1, (x3, x4, m))
        else
          ck ((0 : Int) ≤ (m x0 2) ∧ (m x0 2) < gl g (m x0 0)) <|
          vv (w32 ((w32 (10 * x3)) + (w32 ((m (m x0 0) (m x0 2)) - 48)))) fun y9 =>
          vv (w32 (x4 + 1)) fun y10 =>
          vm (ms m x0 2 (w32 ((m x0 2) + 1))) fun m11 =>
          some (0, (y9, y10, m11))
def BX8_readNumber_5 (g : Shp) (x0 x1 x2 : Int) (q : (Int × Int × Mem)) : Option (Int × (Int × Int × Mem)) := bX8_readNumber_5 g x0 x1 x2 q.1 q.2.1 q.2.2
def bX8_readNumber_104 (g : Shp) (z0 : Int) (m : Mem) : Option (Int × Mem) :=
  some (z0, m)
def bX8_readNumber_103 (g : Shp) (m : Mem) : Option (Int × Mem) :=
  bX8_readNumber_104 g ((-1)) m
def bX8_readNumber_84 (g : Shp) (x1 x2 x3 x4 : Int) (m : Mem) : Option (Int × Mem) :=
  if x4 ≤ 0 then
    bX8_readNumber_103 g m
  else
    if x3 < x1 then
      bX8_readNumber_103 g m
    else
      if x2 < x3 then
        bX8_readNumber_103 g m
      else
        bX8_readNumber_104 g x3 m
def bX8_readNumber_0 (g : Shp) (x0 x1 x2 : Int) (m : Mem) : Option (Int × Mem) :=
  bdl (iter (BX8_readNumber_5 g x0 x1 x2) 100000 (0, 0, m)) fun cv1 sv2 =>
  bX8_readNumber_84 g x1 x2 sv2.1 sv2.2.1 sv2.2.2
def fX8_readNumber (g : Shp) (x0 x1 x2 : Int) (m : Mem) : Option (Int × Mem) := bX8_readNumber_0 g x0 x1 x2 m
def bX8_readNumbers_35 (g : Shp) (x0 x1 x2 x3 x4 : Int) (m : Mem) : Option (Int × (Int × Mem)) :=
  ck (gk g (m x0 1) = 20) <|
  bd2 (fX8_readNumber g x0 x2 x3 m) fun v2 m3 =>
  ck ((0 : Int) ≤ x4 ∧ x4 < gl g (m x0 1)) <|
  vm (ms m3 (m x0 1) x4 v2) fun m7 =>
  ck (gk g (m7 x0 1) = 20) <|
  ck ((0 : Int) ≤ x4 ∧ x4 < gl g (m7 x0 1)) <|
  if (m7 (m7 x0 1) x4) = ((-1)) then
    some (2, (x4, m7))
  else
    vv (w32 (x4 + 1)) fun y11 =>
    some (0, (y11, m7))
def bX8_readNumbers_3 (g : Shp) (x0 x1 x2 x3 x4 : Int) (m : Mem) : Option (Int × (Int × Mem)) :=
  if x1 ≤ x4 then
    some (3, (x4, m))
  else
    ck (gk g (m x0 1) = 20) <|
    if (gl g (m x0 1)) ≤ x4 then
      some (3, (x4, m))
    else
      if x4 ≤ 0 then
        bX8_readNumbers_35 g x0 x1 x2 x3 x4 m
      else
        bd2 (fX8_take g x0 44 m) fun v5 m6 =>
        if v5 = 0 then
          some (1, (x4, m6))
        else
          bX8_readNumbers_35 g x0 x1 x2 x3 x4 m6
def BX8_readNumbers_3 (g : Shp) (x0 x1 x2 x3 : Int) (q : (Int × Mem)) : Option (Int × (Int × Mem)) := bX8_readNumbers_3 g x0 x1 x2 x3 q.1 q.2
def bX8_readNumbers_33 (g : Shp) (m : Mem) : Option (Int × Mem) :=
  some (0, m)
def bX8_readNumbers_59 (g : Shp) (m : Mem) : Option (Int × Mem) :=
  some (0, m)
def bX8_readNumbers_67 (g : Shp) (m : Mem) : Option (Int × Mem) :=
  some (1, m)
def bX8_readNumbers_0 (g : Shp) (x0 x1 x2 x3 : Int) (m : Mem) : Option (Int × Mem) :=
  bdl (iter (BX8_readNumbers_3 g x0 x1 x2 x3) 100000 (0, m)) fun cv1 sv2 =>
  if cv1 = 1 then
    bX8_readNumbers_33 g sv2.2
  else
  if cv1 = 2 then
    bX8_readNumbers_59 g sv2.2
  else
    bX8_readNumbers_67 g sv2.2
def fX8_readNumbers (g : Shp) (x0 x1 x2 x3 : Int) (m : Mem) : Option (Int × Mem) := bX8_readNumbers_0 g x0 x1 x2 x3 m
def bX8_readSizes_43 (g : Shp) (m : Mem) : Option (Int × Mem) :=
  some (0, m)
def bX8_readSizes_0 (g : Shp) (x0 x1 : Int) (m : Mem) : Option (Int × Mem) :=
  bd2 (fX8_readNumbers g x0 3 1 9 m) fun v1 m2 =>
  if v1 = 0 then
    some (0, m2)
  else
    ck (gk g (m2 x0 1) = 20) <|
    ck ((0 : Int) ≤ 0 ∧ 0 < gl g (m2 x0 1)) <|
    ck ((0 : Int) ≤ 1 ∧ 1 < gl g (m2 x0 1)) <|
    if (m2 (m2 x0 1) 1) ≤ (m2 (m2 x0 1) 0) then
      bX8_readSizes_43 g m2
    else
      ck ((0 : Int) ≤ 1 ∧ 1 < gl g (m2 x0 1)) <|
      ck ((0 : Int) ≤ 2 ∧ 2 < gl g (m2 x0 1)) <|
      if (m2 (m2 x0 1) 1) < (m2 (m2 x0 1) 2) then
        ck (gk g (m2 x1 0) = 20) <|
        ck ((0 : Int) ≤ 0 ∧ (0 : Int) ≤ 0 ∧ (0 : Int) ≤ 3 ∧ 0 + 3 ≤ gl g (m2 x0 1) ∧ 0 + 3 ≤ gl g (m2 x1 0)) <|
        vm (mcp m2 (m2 x0 1) 0 (m2 x1 0) 0 3) fun m15 =>
        some (1, m15)
      else
        bX8_readSizes_43 g m2
def fX8_readSizes (g : Shp) (x0 x1 : Int) (m : Mem) : Option (Int × Mem) := bX8_readSizes_0 g x0 x1 m
def bX8_readJoint_0 (g : Shp) (x0 x1 : Int) (m : Mem) : Option (Int × Mem) :=
  bd2 (fX8_readNumbers g x0 1 0 2 m) fun v1 m2 =>
  if v1 = 0 then
    some (0, m2)
  else
    ck (gk g (m2 x0 1) = 20) <|
    ck ((0 : Int) ≤ 0 ∧ 0 < gl g (m2 x0 1)) <|
    vm (ms m2 x1 4 (m2 (m2 x0 1) 0)) fun m8 =>
    some (1, m8)
def fX8_readJoint (g : Shp) (x0 x1 : Int) (m : Mem) : Option (Int × Mem) := bX8_readJoint_0 g x0 x1 m
def bX10_isColour_14 (g : Shp) (z0 : Int) (m : Mem) : Option (Int × Mem) :=
  ck (z0 = 0 ∨ z0 = 1) <|
  some (z0, m)
def bX10_isColour_13 (g : Shp) (m : Mem) : Option (Int × Mem) :=
  bX10_isColour_14 g 0 m
def bX10_isColour_0 (g : Shp) (x0 : Int) (m : Mem) : Option (Int × Mem) :=
  if x0 < 0 then
    bX10_isColour_13 g m
  else
    if 3 ≤ x0 then
      bX10_isColour_13 g m
    else
      bX10_isColour_14 g 1 m
def fX10_isColour (g : Shp) (x0 : Int) (m : Mem) : Option (Int × Mem) := bX10_isColour_0 g x0 m
def bX8_readBag_23 (g : Shp) (m : Mem) : Option (Int × Mem) :=
  some (0, m)
def bX8_readBag_0 (g : Shp) (x0 x1 : Int) (m : Mem) : Option (Int × Mem) :=
  bd2 (fX8_readNumbers g x0 4 0 6 m) fun v1 m2 =>
  if v1 = 0 then
    bX8_readBag_23 g m2
  else
    ck (gk g (m2 x0 1) = 20) <|
    ck ((0 : Int) ≤ 0 ∧ 0 < gl g (m2 x0 1)) <|
    bd2 (fX10_isColour g (m2 (m2 x0 1) 0) m2) fun v8 m9 =>
    if v8 = 0 then
      bX8_readBag_23 g m9
    else
      ck (gk g (m9 x0 1) = 20) <|
      ck (gk g (m9 x1 1) = 20) <|
      ck ((0 : Int) ≤ 0 ∧ 0 < gl g (m9 x0 1)) <|
      ck ((0 : Int) ≤ 1 ∧ (0 : Int) ≤ (w32 ((m9 (m9 x0 1) 0) * 3)) ∧ (0 : Int) ≤ 3 ∧ 1 + 3 ≤ gl g (m9 x0 1) ∧ (w32 ((m9 (m9 x0 1) 0) * 3)) + 3 ≤ gl g (m9 x1 1)) <|
      vm (mcp m9 (m9 x0 1) 1 (m9 x1 1) (w32 ((m9 (m9 x0 1) 0) * 3)) 3) fun m17 =>
      some (1, m17)
def fX8_readBag (g : Shp) (x0 x1 : Int) (m : Mem) : Option (Int × Mem) := bX8_readBag_0 g x0 x1 m
def bX8_readRun_103 (g : Shp) (z0 : Int) (m : Mem) : Option (Int × Mem) :=
  ck (z0 = 0 ∨ z0 = 1) <|
  some (z0, m)
def bX8_readRun_102 (g : Shp) (m : Mem) : Option (Int × Mem) :=
  bX8_readRun_103 g 0 m
def bX8_readRun_68 (g : Shp) (x0 x1 x2 x3 x4 x5 : Int) (m : Mem) : Option (Int × Mem) :=
  bd2 (fX8_readNumber g x0 1 12 m) fun v1 m2 =>
  if v1 = ((-1)) then
    bX8_readRun_102 g m2
  else
    bd2 (fX5_go g x1 x4 x5 v1 x2 x3 m2) fun v6 m7 =>
    if v6 = 0 then
      bX8_readRun_102 g m7
    else
      bX8_readRun_103 g 1 m7
def bX8_readRun_0 (g : Shp) (x0 x1 x2 x3 : Int) (m : Mem) : Option (Int × Mem) :=
  bd2 (fX8_take g x0 114 m) fun v1 m2 =>
  if v1 = 0 then
    bd2 (fX8_take g x0 108 m2) fun v6 m7 =>
    if v6 = 0 then
      bd2 (fX8_take g x0 117 m7) fun v11 m12 =>
      if v11 = 0 then
        bd2 (fX8_take g x0 100 m12) fun v16 m17 =>
        if v16 = 0 then
          some (0, m17)
        else
          bX8_readRun_68 g x0 x1 x2 x3 0 1 m17
      else
        bX8_readRun_68 g x0 x1 x2 x3 0 ((-1)) m12
    else
      bX8_readRun_68 g x0 x1 x2 x3 ((-1)) 0 m7
  else
    bX8_readRun_68 g x0 x1 x2 x3 1 0 m2
def fX8_readRun (g : Shp) (x0 x1 x2 x3 : Int) (m : Mem) : Option (Int × Mem) := bX8_readRun_0 g x0 x1 x2 x3 m
def bX8_readLine_120 (g : Shp) (x0 x1 x2 x3 : Int) (m : Mem) : Option (Int × (Int × Mem)) :=
  vv (w32 (x3 + 1)) fun y1 =>
  some (0, (y1, m))
def bX8_readLine_58 (g : Shp) (x0 x1 x2 x3 : Int) (m : Mem) : Option (Int × (Int × Mem)) :=
  if 5 ≤ x3 then
    some (3, (x3, m))
  else
    ck (gk g (m x1 3) = 20) <|
    bd2 (fX8_readRun g x0 x2 (m x1 3) (bShl 1 (m x1 5)) m) fun v3 m4 =>
    if v3 = 0 then
      some (1, (x3, m4))
    else
      if (m4 x0 3) ≤ (m4 x0 2) then
        bX8_readLine_120 g x0 x1 x2 x3 m4
      else
        ck (gk g (m4 x0 0) = 22) <|
        ck ((0 : Int) ≤ (m4 x0 2) ∧ (m4 x0 2) < gl g (m4 x0 0)) <|
        if (m4 (m4 x0 0) (m4 x0 2)) = 59 then
          some (2, (x3, m4))
        else
          bX8_readLine_120 g x0 x1 x2 x3 m4
def BX8_readLine_58 (g : Shp) (x0 x1 x2 : Int) (q : (Int × Mem)) : Option (Int × (Int × Mem)) := bX8_readLine_58 g x0 x1 x2 q.1 q.2
def bX8_readLine_28 (g : Shp) (m : Mem) : Option (Int × Mem) :=
  some (0, m)
def bX8_readLine_81 (g : Shp) (m : Mem) : Option (Int × Mem) :=
  some (0, m)
def bX8_readLine_108 (g : Shp) (x1 : Int) (m : Mem) : Option (Int × Mem) :=
  vm (ms m x1 5 (w32 ((m x1 5) + 1))) fun m1 =>
  some (1, m1)
def bX8_readLine_126 (g : Shp) (m : Mem) : Option (Int × Mem) :=
  some (0, m)
def bX8_readLine_0 (g : Shp) (x0 x1 : Int) (m : Mem) : Option (Int × Mem) :=
  if 3 ≤ (m x1 5) then
    bX8_readLine_28 g m
  else
    bd2 (fX8_readNumbers g x0 2 0 19 m) fun v2 m3 =>
    if v2 = 0 then
      bX8_readLine_28 g m3
    else
      bd2 (fX8_take g x0 44 m3) fun v7 m8 =>
      if v7 = 0 then
        bX8_readLine_28 g m8
      else
        ck (gk g (m8 x1 2) = 25) <|
        ck ((0 : Int) ≤ (m8 x1 5) ∧ (m8 x1 5) < gl g (m8 x1 2)) <|
        ck (gk g (m8 (m8 x1 2) (m8 x1 5)) = 6) <|
        vv (m8 (m8 x1 2) (m8 x1 5)) fun y15 =>
        ck (gk g (m8 x0 1) = 20) <|
        ck ((0 : Int) ≤ 0 ∧ 0 < gl g (m8 x0 1)) <|
        ck ((0 : Int) ≤ 1 ∧ 1 < gl g (m8 x0 1)) <|
        bd2 (fX5_begin g y15 (m8 (m8 x0 1) 0) (m8 (m8 x0 1) 1) m8) fun v19 m20 =>
        bdl (iter (BX8_readLine_58 g x0 x1 y15) 100000 (0, m20)) fun cv22 sv23 =>
        if cv22 = 1 then
          bX8_readLine_81 g sv23.2
        else
        if cv22 = 2 then
          bX8_readLine_108 g x1 sv23.2
        else
          bX8_readLine_126 g sv23.2
def fX8_readLine (g : Shp) (x0 x1 : Int) (m : Mem) : Option (Int × Mem) := bX8_readLine_0 g x0 x1 m
set_option maxRecDepth 20000 in
theorem wX6_add_43 {p : Program} {l : Launch} {e : Env} {s : State} {mt : MethodId} {args : Array Value} {below : List Frame} {meth : Method} {c : Code} {Q : State → Prop} {G : Gl} {A : Nat → Prop} {H0 : Heap} {ad : Int → Nat} {g : Shp} {H : Heap} {locs : List Loc} {ls : Array Slot} {m : Mem} (C : CallFix p mt c cX6_add 3 s args tb RX6) (S : Wd G A s H0 ad g m H locs)  (hl : lv_has ls 3 []) {r : Int} {m' : Mem} (hF : bX6_add_43 g m = some (r, m')) (Kr : ∀ (H : Heap) (locs : List Loc) (pc : Nat) (ls : Array Slot), Wd G A s H0 ad g m' H locs → decode cX6_add pc = .ok (.return_, 1) → W p l e rX6_add s mt args below meth c H locs 0 0 Q (F0 mt pc ls [])) : W p l e rX6_add s mt args below meth c H locs 0 0 Q (F0 mt 43 ls []) := by
  unfold bX6_add_43 at hF
  cases hF
  exact Kr _ _ _ _ S dX6_add_43
set_option maxRecDepth 20000 in
theorem wX6_add_0 {p : Program} {l : Launch} {e : Env} {s : State} {mt : MethodId} {args : Array Value} {below : List Frame} {meth : Method} {c : Code} {Q : State → Prop} {G : Gl} {A : Nat → Prop} {H0 : Heap} {ad : Int → Nat} {g : Shp} {H : Heap} {locs : List Loc} {ls : Array Slot} {m : Mem} {x0 x1 x2 : Int} (C : CallFix p mt c cX6_add 3 s args tb RX6) (S : Wd G A s H0 ad g m H locs) (hx0 : gk g x0 = 7) (hx1 : r32 x1) (hx2 : r32 x2) (hl : lv_has ls 3 [(0, .ref (ad x0)), (1, .int (iI x1)), (2, .int (iI x2))]) {r : Int} {m' : Mem} (hF : bX6_add_0 g x0 x1 x2 m = some (r, m')) (Kr : ∀ (H : Heap) (locs : List Loc) (pc : Nat) (ls : Array Slot), Wd G A s H0 ad g m' H locs → decode cX6_add pc = .ok (.return_, 1) → W p l e rX6_add s mt args below meth c H locs 0 0 Q (F0 mt pc ls [])) : W p l e rX6_add s mt args below meth c H locs 0 0 Q (F0 mt 0 ls []) := by
  unfold bX6_add_0 at hF
  refine q_iload_n C hl 1 rfl rfl dX6_add_0 ?_
  refine q_if_le C hx1 43 dX6_add_1 (by decide) (fun hc1 => ?_) (fun hc1 => ?_)
  · have hF := if_t hc1 hF
    exact wX6_add_43 C S  (lv_sub hl [] rfl) hF Kr
  · have hF := if_f hc1 hF
    refine q_aload_n C hl 0 rfl rfl dX6_add_4 ?_
    refine q_geti C S 2 fo_RX6_19 (j := 2) rfl rfl hx0 dX6_add_5 ?_
    refine q_bipush C 60 (by decide) dX6_add_8 ?_
    refine q_icmp_ge C (S.r _ _) (rl 60 rfl) 43 dX6_add_10 (by decide) (fun hc2 => ?_) (fun hc2 => ?_)
    · have hF := if_t hc2 hF
      exact wX6_add_43 C S  (lv_sub hl [] rfl) hF Kr
    · have hF := if_f hc2 hF
      refine q_aload_n C hl 0 rfl rfl dX6_add_13 ?_
      obtain ⟨k3, hF⟩ := ck_ok hF
      refine q_getr C S 0 fo_RX6_9 (j := 0) rfl rfl hx0 k3 (by decide) dX6_add_14 ?_
      refine q_aload_n C hl 0 rfl rfl dX6_add_17 ?_
      refine q_geti C S 2 fo_RX6_19 (j := 2) rfl rfl hx0 dX6_add_18 ?_
      refine q_iload_n C hl 1 rfl rfl dX6_add_21 ?_
      obtain ⟨i4, hF⟩ := ck_ok hF
      obtain ⟨m5, em5, hF⟩ := vm_ok hF
      refine q_iast C S k3 i4 hx1 em5 dX6_add_22 (fun H locs Sm5 => ?_)
      refine q_aload_n C hl 0 rfl rfl dX6_add_23 ?_
      obtain ⟨k6, hF⟩ := ck_ok hF
      refine q_getr C Sm5 1 fo_RX6_15 (j := 1) rfl rfl hx0 k6 (by decide) dX6_add_24 ?_
      refine q_aload_n C hl 0 rfl rfl dX6_add_27 ?_
      refine q_geti C Sm5 2 fo_RX6_19 (j := 2) rfl rfl hx0 dX6_add_28 ?_
      refine q_iload_n C hl 2 rfl rfl dX6_add_31 ?_
      obtain ⟨i7, hF⟩ := ck_ok hF
      obtain ⟨b8, hF⟩ := ck_ok hF
      obtain ⟨m9, em9, hF⟩ := vm_ok hF
      refine q_zast C Sm5 k6 i7 b8 em9 dX6_add_32 (fun H locs Sm9 => ?_)
      refine q_aload_n C hl 0 rfl rfl dX6_add_33 ?_
      refine q_dup C rfl dX6_add_34 ?_
      refine q_geti C Sm9 2 fo_RX6_19 (j := 2) rfl rfl hx0 dX6_add_35 ?_
      refine q_iconst C 1 dX6_add_38 ?_
      refine q_iadd C dX6_add_39 ?_
      obtain ⟨m10, em10, hF⟩ := vm_ok hF
      refine q_put C Sm9 2 fo_RX6_19 fp_7_2 (fun h9 => absurd h9 (by decide)) (j := 2) rfl hx0 rfl rfl rfl (r32_w _) (fun h9 => absurd h9 (by decide)) em10 dX6_add_40 (fun H locs Sm10 => ?_)
      exact wX6_add_43 C Sm10  (lv_sub hl [] rfl) hF Kr
theorem cX6_add_ok (l : Launch) (G : Gl) {g : Shp} {x0 x1 x2 : Int} {m m' : Mem} {r : Int} (hx0 : gk g x0 = 7) (hx1 : r32 x1) (hx2 : r32 x2) (hF : fX6_add g x0 x1 x2 m = some (r, m')) : mV l yX6_add (wT yX6_add cX6_add 3 none) rX6_add G (fun ad => [.ref (ad x0), .int (iI x1), .int (iI x2)]) g m m' :=
  met_v (by decide) (fun ad => Nat.le_of_ble_eq_true rfl) (fun p e s mt args below meth c Q A H0 H locs ad ls C hnm S hl Kr => wX6_add_0 C S hx0 hx1 hx2 hl hF Kr)
set_option maxRecDepth 20000 in
theorem wX6_split_62 {p : Program} {l : Launch} {e : Env} {s : State} {mt : MethodId} {args : Array Value} {below : List Frame} {meth : Method} {c : Code} {Q : State → Prop} {G : Gl} {A : Nat → Prop} {H0 : Heap} {ad : Int → Nat} {g : Shp} {H : Heap} {locs : List Loc} {ls : Array Slot} {m : Mem} {x0 x1 x2 x3 x4 x5 : Int} (C : CallFix p mt c cX6_split 6 s args tb RX6) (S : Wd G A s H0 ad g m H locs) (hx0 : gk g x0 = 7) (hx1 : gk g x1 = 6) (hx2 : gk g x2 = 20) (hx3 : r32 x3) (hx4 : r32 x4) (hx5 : r32 x5) (hl : lv_has ls 6 [(0, .ref (ad x0)), (1, .ref (ad x1)), (2, .ref (ad x2)), (3, .int (iI x3)), (4, .int (iI x4)), (5, .int (iI x5))]) {c1 : Int} {s1 : (Int × Int × Mem)} (hF : bX6_split_62 g x0 x1 x2 x3 x4 x5 m = some (c1, s1)) (K0 : c1 = 0 → ∀ (H : Heap) (locs : List Loc) (ls : Array Slot), r32 s1.1 → r32 s1.2.1 → Wd G A s H0 ad g s1.2.2 H locs → lv_has ls 6 [(0, .ref (ad x0)), (1, .ref (ad x1)), (2, .ref (ad x2)), (3, .int (iI s1.1)), (4, .int (iI x4)), (5, .int (iI s1.2.1))] → W p l e rX6_split s mt args below meth c H locs 0 0 Q (F0 mt 22 ls [])) (K1 : c1 = 1 → ∀ (H : Heap) (locs : List Loc) (ls : Array Slot), r32 s1.1 → r32 s1.2.1 → Wd G A s H0 ad g s1.2.2 H locs → lv_has ls 6 [(0, .ref (ad x0)), (1, .ref (ad x1)), (2, .ref (ad x2)), (3, .int (iI s1.1)), (4, .int (iI x4)), (5, .int (iI s1.2.1))] → W p l e rX6_split s mt args below meth c H locs 0 0 Q (F0 mt 68 ls [])) : W p l e rX6_split s mt args below meth c H locs 0 0 Q (F0 mt 62 ls []) := by
  unfold bX6_split_62 at hF
  obtain ⟨y1, ey1, hF⟩ := vv_ok hF
  have ry1 : r32 y1 := ey1 ▸ r32_w _
  refine q_iinc C hl 3 [(3, .int (iI y1)), (0, .ref (ad x0)), (1, .ref (ad x1)), (2, .ref (ad x2)), (4, .int (iI x4)), (5, .int (iI x5))] rfl ey1 (by decide) rfl dX6_split_62 (fun ls hl => ?_)
  refine q_goto C 22 dX6_split_65 (by decide) ?_
  cases hF
  exact K0 rfl _ _ _ ry1 hx5 S (lv_sub hl [1, 2, 3, 0, 4, 5] rfl)
set_option maxRecDepth 20000 in
theorem wX6_split_22 {p : Program} {l : Launch} {e : Env} {s : State} {mt : MethodId} {args : Array Value} {below : List Frame} {meth : Method} {c : Code} {Q : State → Prop} {G : Gl} {A : Nat → Prop} {H0 : Heap} {ad : Int → Nat} {g : Shp} {H : Heap} {locs : List Loc} {ls : Array Slot} {m : Mem} {x0 x1 x2 x3 x4 x5 : Int} (C : CallFix p mt c cX6_split 6 s args tb RX6) (S : Wd G A s H0 ad g m H locs) (hx0 : gk g x0 = 7) (hx1 : gk g x1 = 6) (hx2 : gk g x2 = 20) (hx3 : r32 x3) (hx4 : r32 x4) (hx5 : r32 x5) (hl : lv_has ls 6 [(0, .ref (ad x0)), (1, .ref (ad x1)), (2, .ref (ad x2)), (3, .int (iI x3)), (4, .int (iI x4)), (5, .int (iI x5))]) {c1 : Int} {s1 : (Int × Int × Mem)} (hF : bX6_split_22 g x0 x1 x2 x3 x4 x5 m = some (c1, s1)) (K0 : c1 = 0 → ∀ (H : Heap) (locs : List Loc) (ls : Array Slot), r32 s1.1 → r32 s1.2.1 → Wd G A s H0 ad g s1.2.2 H locs → lv_has ls 6 [(0, .ref (ad x0)), (1, .ref (ad x1)), (2, .ref (ad x2)), (3, .int (iI s1.1)), (4, .int (iI x4)), (5, .int (iI s1.2.1))] → W p l e rX6_split s mt args below meth c H locs 0 0 Q (F0 mt 22 ls [])) (K1 : c1 = 1 → ∀ (H : Heap) (locs : List Loc) (ls : Array Slot), r32 s1.1 → r32 s1.2.1 → Wd G A s H0 ad g s1.2.2 H locs → lv_has ls 6 [(0, .ref (ad x0)), (1, .ref (ad x1)), (2, .ref (ad x2)), (3, .int (iI s1.1)), (4, .int (iI x4)), (5, .int (iI s1.2.1))] → W p l e rX6_split s mt args below meth c H locs 0 0 Q (F0 mt 68 ls [])) : W p l e rX6_split s mt args below meth c H locs 0 0 Q (F0 mt 22 ls []) := by
  unfold bX6_split_22 at hF
  refine q_iload_n C hl 3 rfl rfl dX6_split_22 ?_
  refine q_aload_n C hl 1 rfl rfl dX6_split_23 ?_
  obtain ⟨k1, hF⟩ := ck_ok hF
  refine q_getr C S 1 fo_RX6_28 (j := 1) rfl rfl hx1 k1 (by decide) dX6_split_24 ?_
  refine q_iload C hl 4 rfl dX6_split_27 ?_
  obtain ⟨i2, hF⟩ := ck_ok hF
  refine q_iald C S k1 i2 dX6_split_29 ?_
  refine q_icmp_gt C hx3 (S.r _ _) 68 dX6_split_30 (by decide) (fun hc3 => ?_) (fun hc3 => ?_)
  · have hF := if_t hc3 hF
    cases hF
    exact K1 rfl _ _ _ hx3 hx5 S (lv_sub hl [0, 1, 2, 3, 4, 5] rfl)
  · have hF := if_f hc3 hF
    refine q_aload_n C hl 2 rfl rfl dX6_split_33 ?_
    refine q_aload_n C hl 1 rfl rfl dX6_split_34 ?_
    obtain ⟨k4, hF⟩ := ck_ok hF
    refine q_getr C S 0 fo_RX6_31 (j := 0) rfl rfl hx1 k4 (by decide) dX6_split_35 ?_
    refine q_iload_n C hl 3 rfl rfl dX6_split_38 ?_
    obtain ⟨i5, hF⟩ := ck_ok hF
    refine q_iald C S k4 i5 dX6_split_39 ?_
    obtain ⟨i6, hF⟩ := ck_ok hF
    refine q_iald C S hx2 i6 dX6_split_40 ?_
    refine q_bipush C (-4) (by decide) dX6_split_41 ?_
    refine q_icmp_ne C (S.r _ _) (rl (-4) rfl) 52 dX6_split_43 (by decide) (fun hc7 => ?_) (fun hc7 => ?_)
    · have hF := if_t hc7 hF
      obtain ⟨y8, ey8, hF⟩ := vv_ok hF
      have ry8 : r32 y8 := ey8 ▸ r32_w _
      refine q_iinc C hl 5 [(5, .int (iI y8)), (0, .ref (ad x0)), (1, .ref (ad x1)), (2, .ref (ad x2)), (3, .int (iI x3)), (4, .int (iI x4))] rfl ey8 (by decide) rfl dX6_split_46 (fun ls hl => ?_)
      refine q_goto C 62 dX6_split_49 (by decide) ?_
      exact wX6_split_62 C S hx0 hx1 hx2 hx3 hx4 ry8 (lv_sub hl [1, 2, 3, 4, 5, 0] rfl) hF K0 K1
    · have hF := if_f hc7 hF
      refine q_aload_n C hl 0 rfl rfl dX6_split_52 ?_
      refine q_iload C hl 5 rfl dX6_split_53 ?_
      refine q_iconst C 0 dX6_split_55 ?_
      obtain ⟨v9, m10, h11, hF⟩ := bd2_ok hF
      refine q_cv S (run_V (As := [.int (iI x5), .int (iI 0)]) (rest := []) C S (cX6_add_ok l G hx0 hx5 (rl 0 rfl) h11 ad _) hx0 ⟨by decide, _, _, rfl⟩ gd_RX6_34 hdV_X6_add rfl ⟨rfl, rfl, by decide, by decide⟩ ⟨Nat.zero_le _, Nat.zero_le _⟩ hl.1 rfl (Nat.le_of_ble_eq_true rfl) dX6_split_56) (fun H locs Sm10 => ?_)
      refine q_iconst C 0 dX6_split_59 ?_
      refine q_istore C hl [(5, .int (iI 0)), (0, .ref (ad x0)), (1, .ref (ad x1)), (2, .ref (ad x2)), (3, .int (iI x3)), (4, .int (iI x4))] rfl (by decide) rfl dX6_split_60 (fun ls hl => ?_)
      exact wX6_split_62 C Sm10 hx0 hx1 hx2 hx3 hx4 (rl 0 rfl) (lv_sub hl [1, 2, 3, 4, 5, 0] rfl) hF K0 K1
set_option maxRecDepth 20000 in
theorem lX6_split_22 {p : Program} {l : Launch} {e : Env} {s : State} {mt : MethodId} {args : Array Value} {below : List Frame} {meth : Method} {c : Code} {Q : State → Prop} {G : Gl} {A : Nat → Prop} {H0 : Heap} {ad : Int → Nat} {g : Shp} {x0 x1 x2 x4 : Int} (C : CallFix p mt c cX6_split 6 s args tb RX6) (hx0 : gk g x0 = 7) (hx1 : gk g x1 = 6) (hx2 : gk g x2 = 20) (hx4 : r32 x4) {n : Nat} {s0 s1 : (Int × Int × Mem)} {c1 : Int} (hI : iter (BX6_split_22 g x0 x1 x2 x4) n s0 = some (c1, s1)) (K1 : c1 = 1 → ∀ (H : Heap) (locs : List Loc) (ls : Array Slot), r32 s1.1 → r32 s1.2.1 → Wd G A s H0 ad g s1.2.2 H locs → lv_has ls 6 [(0, .ref (ad x0)), (1, .ref (ad x1)), (2, .ref (ad x2)), (3, .int (iI s1.1)), (4, .int (iI x4)), (5, .int (iI s1.2.1))] → W p l e rX6_split s mt args below meth c H locs 0 0 Q (F0 mt 68 ls [])) : ∀ (H : Heap) (locs : List Loc) (ls : Array Slot), r32 s0.1 → r32 s0.2.1 → Wd G A s H0 ad g s0.2.2 H locs → lv_has ls 6 [(0, .ref (ad x0)), (1, .ref (ad x1)), (2, .ref (ad x2)), (3, .int (iI s0.1)), (4, .int (iI x4)), (5, .int (iI s0.2.1))] → W p l e rX6_split s mt args below meth c H locs 0 0 Q (F0 mt 22 ls []) :=
  iter_W (Pw := fun q => ∀ (H : Heap) (locs : List Loc) (ls : Array Slot), r32 q.1 → r32 q.2.1 → Wd G A s H0 ad g q.2.2 H locs → lv_has ls 6 [(0, .ref (ad x0)), (1, .ref (ad x1)), (2, .ref (ad x2)), (3, .int (iI q.1)), (4, .int (iI x4)), (5, .int (iI q.2.1))] → W p l e rX6_split s mt args below meth c H locs 0 0 Q (F0 mt 22 ls [])) (Px := fun c0 q => (c0 = 1 → ∀ (H : Heap) (locs : List Loc) (ls : Array Slot), r32 q.1 → r32 q.2.1 → Wd G A s H0 ad g q.2.2 H locs → lv_has ls 6 [(0, .ref (ad x0)), (1, .ref (ad x1)), (2, .ref (ad x2)), (3, .int (iI q.1)), (4, .int (iI x4)), (5, .int (iI q.2.1))] → W p l e rX6_split s mt args below meth c H locs 0 0 Q (F0 mt 68 ls [])))
    (fun s c s' hB K0 kx H locs ls f0 f1 S hl => wX6_split_22 C S hx0 hx1 hx2 f0 hx4 f1 hl hB K0 (fun h9 => (kx (by rw [h9]; decide)) h9)) _ _ _ _ hI K1
set_option maxRecDepth 20000 in
theorem wX6_split_87 {p : Program} {l : Launch} {e : Env} {s : State} {mt : MethodId} {args : Array Value} {below : List Frame} {meth : Method} {c : Code} {Q : State → Prop} {G : Gl} {A : Nat → Prop} {H0 : Heap} {ad : Int → Nat} {g : Shp} {H : Heap} {locs : List Loc} {ls : Array Slot} {m : Mem} {x0 x1 x2 x3 x4 z0 z1 z2 : Int} (C : CallFix p mt c cX6_split 6 s args tb RX6) (S : Wd G A s H0 ad g m H locs) (hx0 : gk g x0 = 7) (hx1 : gk g x1 = 6) (hx2 : gk g x2 = 20) (hx3 : r32 x3) (hx4 : r32 x4) (hz0 : gk g z0 = 7) (hz1 : r32 z1) (hz2 : r32 z2) (hl : lv_has ls 6 [(0, .ref (ad x0)), (1, .ref (ad x1)), (2, .ref (ad x2)), (3, .int (iI x3)), (4, .int (iI x4))]) {c1 : Int} {s1 : (Int × Int × Mem)} (hF : bX6_split_87 g x0 x1 x2 x3 x4 z0 z1 z2 m = some (c1, s1)) (K0 : c1 = 0 → ∀ (H : Heap) (locs : List Loc) (ls : Array Slot), r32 s1.1 → r32 s1.2.1 → Wd G A s H0 ad g s1.2.2 H locs → lv_has ls 6 [(0, .ref (ad x0)), (1, .ref (ad x1)), (2, .ref (ad x2)), (3, .int (iI s1.1)), (4, .int (iI s1.2.1))] → W p l e rX6_split s mt args below meth c H locs 0 0 Q (F0 mt 10 ls [])) (K1 : c1 = 1 → ∀ (H : Heap) (locs : List Loc) (ls : Array Slot), Wd G A s H0 ad g s1.2.2 H locs → lv_has ls 6 [] → W p l e rX6_split s mt args below meth c H locs 0 0 Q (F0 mt 96 ls [])) : W p l e rX6_split s mt args below meth c H locs 0 0 Q (F0 mt 87 ls [.int (iI z2), .int (iI z1), .ref (ad z0)]) := by
  unfold bX6_split_87 at hF
  obtain ⟨v1, m2, h3, hF⟩ := bd2_ok hF
  refine q_cv S (run_V (As := [.int (iI z1), .int (iI z2)]) (rest := []) C S (cX6_add_ok l G hz0 hz1 hz2 h3 ad _) hz0 ⟨by decide, _, _, rfl⟩ gd_RX6_34 hdV_X6_add rfl ⟨rfl, rfl, by decide, by decide⟩ ⟨Nat.zero_le _, Nat.zero_le _⟩ hl.1 rfl (Nat.le_of_ble_eq_true rfl) dX6_split_87) (fun H locs Sm2 => ?_)
  obtain ⟨y4, ey4, hF⟩ := vv_ok hF
  have ry4 : r32 y4 := ey4 ▸ r32_w _
  refine q_iinc C hl 4 [(4, .int (iI y4)), (0, .ref (ad x0)), (1, .ref (ad x1)), (2, .ref (ad x2)), (3, .int (iI x3))] rfl ey4 (by decide) rfl dX6_split_90 (fun ls hl => ?_)
  refine q_goto C 10 dX6_split_93 (by decide) ?_
  cases hF
  exact K0 rfl _ _ _ hx3 ry4 Sm2 (lv_sub hl [1, 2, 3, 4, 0] rfl)
set_option maxRecDepth 20000 in
theorem wX6_split_68 {p : Program} {l : Launch} {e : Env} {s : State} {mt : MethodId} {args : Array Value} {below : List Frame} {meth : Method} {c : Code} {Q : State → Prop} {G : Gl} {A : Nat → Prop} {H0 : Heap} {ad : Int → Nat} {g : Shp} {H : Heap} {locs : List Loc} {ls : Array Slot} {m : Mem} {x0 x1 x2 x3 x4 x5 : Int} (C : CallFix p mt c cX6_split 6 s args tb RX6) (S : Wd G A s H0 ad g m H locs) (hx0 : gk g x0 = 7) (hx1 : gk g x1 = 6) (hx2 : gk g x2 = 20) (hx3 : r32 x3) (hx4 : r32 x4) (hx5 : r32 x5) (hl : lv_has ls 6 [(0, .ref (ad x0)), (1, .ref (ad x1)), (2, .ref (ad x2)), (3, .int (iI x3)), (4, .int (iI x4)), (5, .int (iI x5))]) {c1 : Int} {s1 : (Int × Int × Mem)} (hF : bX6_split_68 g x0 x1 x2 x3 x4 x5 m = some (c1, s1)) (K0 : c1 = 0 → ∀ (H : Heap) (locs : List Loc) (ls : Array Slot), r32 s1.1 → r32 s1.2.1 → Wd G A s H0 ad g s1.2.2 H locs → lv_has ls 6 [(0, .ref (ad x0)), (1, .ref (ad x1)), (2, .ref (ad x2)), (3, .int (iI s1.1)), (4, .int (iI s1.2.1))] → W p l e rX6_split s mt args below meth c H locs 0 0 Q (F0 mt 10 ls [])) (K1 : c1 = 1 → ∀ (H : Heap) (locs : List Loc) (ls : Array Slot), Wd G A s H0 ad g s1.2.2 H locs → lv_has ls 6 [] → W p l e rX6_split s mt args below meth c H locs 0 0 Q (F0 mt 96 ls [])) : W p l e rX6_split s mt args below meth c H locs 0 0 Q (F0 mt 68 ls []) := by
  unfold bX6_split_68 at hF
  refine q_aload_n C hl 0 rfl rfl dX6_split_68 ?_
  refine q_iload C hl 5 rfl dX6_split_69 ?_
  refine q_iload C hl 4 rfl dX6_split_71 ?_
  refine q_aload_n C hl 1 rfl rfl dX6_split_73 ?_
  refine q_geti C S 3 fo_RX6_23 (j := 3) rfl rfl hx1 dX6_split_74 ?_
  refine q_iconst C 1 dX6_split_77 ?_
  refine q_isub C dX6_split_78 ?_
  refine q_icmp_ge C hx4 (r32_w _) 86 dX6_split_79 (by decide) (fun hc1 => ?_) (fun hc1 => ?_)
  · have hF := if_t hc1 hF
    refine q_iconst C 0 dX6_split_86 ?_
    exact wX6_split_87 C S hx0 hx1 hx2 hx3 hx4 hx0 hx5 (rl 0 rfl) (lv_sub hl [0, 1, 2, 3, 4] rfl) hF K0 K1
  · have hF := if_f hc1 hF
    refine q_iconst C 1 dX6_split_82 ?_
    refine q_goto C 87 dX6_split_83 (by decide) ?_
    exact wX6_split_87 C S hx0 hx1 hx2 hx3 hx4 hx0 hx5 (rl 1 rfl) (lv_sub hl [0, 1, 2, 3, 4] rfl) hF K0 K1
set_option maxRecDepth 20000 in
theorem wX6_split_10 {p : Program} {l : Launch} {e : Env} {s : State} {mt : MethodId} {args : Array Value} {below : List Frame} {meth : Method} {c : Code} {Q : State → Prop} {G : Gl} {A : Nat → Prop} {H0 : Heap} {ad : Int → Nat} {g : Shp} {H : Heap} {locs : List Loc} {ls : Array Slot} {m : Mem} {x0 x1 x2 x3 x4 : Int} (C : CallFix p mt c cX6_split 6 s args tb RX6) (S : Wd G A s H0 ad g m H locs) (hx0 : gk g x0 = 7) (hx1 : gk g x1 = 6) (hx2 : gk g x2 = 20) (hx3 : r32 x3) (hx4 : r32 x4) (hl : lv_has ls 6 [(0, .ref (ad x0)), (1, .ref (ad x1)), (2, .ref (ad x2)), (3, .int (iI x3)), (4, .int (iI x4))]) {c1 : Int} {s1 : (Int × Int × Mem)} (hF : bX6_split_10 g x0 x1 x2 x3 x4 m = some (c1, s1)) (K0 : c1 = 0 → ∀ (H : Heap) (locs : List Loc) (ls : Array Slot), r32 s1.1 → r32 s1.2.1 → Wd G A s H0 ad g s1.2.2 H locs → lv_has ls 6 [(0, .ref (ad x0)), (1, .ref (ad x1)), (2, .ref (ad x2)), (3, .int (iI s1.1)), (4, .int (iI s1.2.1))] → W p l e rX6_split s mt args below meth c H locs 0 0 Q (F0 mt 10 ls [])) (K1 : c1 = 1 → ∀ (H : Heap) (locs : List Loc) (ls : Array Slot), Wd G A s H0 ad g s1.2.2 H locs → lv_has ls 6 [] → W p l e rX6_split s mt args below meth c H locs 0 0 Q (F0 mt 96 ls [])) : W p l e rX6_split s mt args below meth c H locs 0 0 Q (F0 mt 10 ls []) := by
  unfold bX6_split_10 at hF
  refine q_iload C hl 4 rfl dX6_split_10 ?_
  refine q_aload_n C hl 1 rfl rfl dX6_split_12 ?_
  refine q_geti C S 3 fo_RX6_23 (j := 3) rfl rfl hx1 dX6_split_13 ?_
  refine q_icmp_ge C hx4 (S.r _ _) 96 dX6_split_16 (by decide) (fun hc1 => ?_) (fun hc1 => ?_)
  · have hF := if_t hc1 hF
    cases hF
    exact K1 rfl _ _ _  S (lv_sub hl [] rfl)
  · have hF := if_f hc1 hF
    refine q_iconst C 0 dX6_split_19 ?_
    refine q_istore C hl [(5, .int (iI 0)), (0, .ref (ad x0)), (1, .ref (ad x1)), (2, .ref (ad x2)), (3, .int (iI x3)), (4, .int (iI x4))] rfl (by decide) rfl dX6_split_20 (fun ls hl => ?_)
    obtain ⟨cv2, sv3, hi4, hF⟩ := bdl_ok hF
    refine lX6_split_22 C hx0 hx1 hx2 hx4 hi4 ?_ _ _ _ hx3 (rl 0 rfl) S (lv_sub hl [1, 2, 3, 4, 5, 0] rfl)
    intro _ H locs ls f6 f7 S5 hl
    exact wX6_split_68 C S5 hx0 hx1 hx2 f6 hx4 f7 (lv_sub hl [0, 1, 2, 3, 4, 5] rfl) hF K0 K1
set_option maxRecDepth 20000 in
theorem lX6_split_10 {p : Program} {l : Launch} {e : Env} {s : State} {mt : MethodId} {args : Array Value} {below : List Frame} {meth : Method} {c : Code} {Q : State → Prop} {G : Gl} {A : Nat → Prop} {H0 : Heap} {ad : Int → Nat} {g : Shp} {x0 x1 x2 : Int} (C : CallFix p mt c cX6_split 6 s args tb RX6) (hx0 : gk g x0 = 7) (hx1 : gk g x1 = 6) (hx2 : gk g x2 = 20) {n : Nat} {s0 s1 : (Int × Int × Mem)} {c1 : Int} (hI : iter (BX6_split_10 g x0 x1 x2) n s0 = some (c1, s1)) (K1 : c1 = 1 → ∀ (H : Heap) (locs : List Loc) (ls : Array Slot), Wd G A s H0 ad g s1.2.2 H locs → lv_has ls 6 [] → W p l e rX6_split s mt args below meth c H locs 0 0 Q (F0 mt 96 ls [])) : ∀ (H : Heap) (locs : List Loc) (ls : Array Slot), r32 s0.1 → r32 s0.2.1 → Wd G A s H0 ad g s0.2.2 H locs → lv_has ls 6 [(0, .ref (ad x0)), (1, .ref (ad x1)), (2, .ref (ad x2)), (3, .int (iI s0.1)), (4, .int (iI s0.2.1))] → W p l e rX6_split s mt args below meth c H locs 0 0 Q (F0 mt 10 ls []) :=
  iter_W (Pw := fun q => ∀ (H : Heap) (locs : List Loc) (ls : Array Slot), r32 q.1 → r32 q.2.1 → Wd G A s H0 ad g q.2.2 H locs → lv_has ls 6 [(0, .ref (ad x0)), (1, .ref (ad x1)), (2, .ref (ad x2)), (3, .int (iI q.1)), (4, .int (iI q.2.1))] → W p l e rX6_split s mt args below meth c H locs 0 0 Q (F0 mt 10 ls [])) (Px := fun c0 q => (c0 = 1 → ∀ (H : Heap) (locs : List Loc) (ls : Array Slot), Wd G A s H0 ad g q.2.2 H locs → lv_has ls 6 [] → W p l e rX6_split s mt args below meth c H locs 0 0 Q (F0 mt 96 ls [])))
    (fun s c s' hB K0 kx H locs ls f0 f1 S hl => wX6_split_10 C S hx0 hx1 hx2 f0 f1 hl hB K0 (fun h9 => (kx (by rw [h9]; decide)) h9)) _ _ _ _ hI K1
set_option maxRecDepth 20000 in
theorem wX6_split_96 {p : Program} {l : Launch} {e : Env} {s : State} {mt : MethodId} {args : Array Value} {below : List Frame} {meth : Method} {c : Code} {Q : State → Prop} {G : Gl} {A : Nat → Prop} {H0 : Heap} {ad : Int → Nat} {g : Shp} {H : Heap} {locs : List Loc} {ls : Array Slot} {m : Mem} (C : CallFix p mt c cX6_split 6 s args tb RX6) (S : Wd G A s H0 ad g m H locs)  (hl : lv_has ls 6 []) {r : Int} {m' : Mem} (hF : bX6_split_96 g m = some (r, m')) (Kr : ∀ (H : Heap) (locs : List Loc) (pc : Nat) (ls : Array Slot), Wd G A s H0 ad g m' H locs → decode cX6_split pc = .ok (.return_, 1) → W p l e rX6_split s mt args below meth c H locs 0 0 Q (F0 mt pc ls [])) : W p l e rX6_split s mt args below meth c H locs 0 0 Q (F0 mt 96 ls []) := by
  unfold bX6_split_96 at hF
  cases hF
  exact Kr _ _ _ _ S dX6_split_96
set_option maxRecDepth 20000 in
theorem wX6_split_0 {p : Program} {l : Launch} {e : Env} {s : State} {mt : MethodId} {args : Array Value} {below : List Frame} {meth : Method} {c : Code} {Q : State → Prop} {G : Gl} {A : Nat → Prop} {H0 : Heap} {ad : Int → Nat} {g : Shp} {H : Heap} {locs : List Loc} {ls : Array Slot} {m : Mem} {x0 x1 x2 : Int} (C : CallFix p mt c cX6_split 6 s args tb RX6) (S : Wd G A s H0 ad g m H locs) (hx0 : gk g x0 = 7) (hx1 : gk g x1 = 6) (hx2 : gk g x2 = 20) (hl : lv_has ls 6 [(0, .ref (ad x0)), (1, .ref (ad x1)), (2, .ref (ad x2))]) {r : Int} {m' : Mem} (hF : bX6_split_0 g x0 x1 x2 m = some (r, m')) (Kr : ∀ (H : Heap) (locs : List Loc) (pc : Nat) (ls : Array Slot), Wd G A s H0 ad g m' H locs → decode cX6_split pc = .ok (.return_, 1) → W p l e rX6_split s mt args below meth c H locs 0 0 Q (F0 mt pc ls [])) : W p l e rX6_split s mt args below meth c H locs 0 0 Q (F0 mt 0 ls []) := by
  unfold bX6_split_0 at hF
  refine q_aload_n C hl 0 rfl rfl dX6_split_0 ?_
  refine q_iconst C 0 dX6_split_1 ?_
  obtain ⟨m1, em1, hF⟩ := vm_ok hF
  refine q_put C S 2 fo_RX6_19 fp_7_2 (fun h9 => absurd h9 (by decide)) (j := 2) rfl hx0 rfl rfl rfl (rl 0 rfl) (fun h9 => absurd h9 (by decide)) em1 dX6_split_2 (fun H locs Sm1 => ?_)
  refine q_iconst C 0 dX6_split_5 ?_
  refine q_istore_n C hl [(3, .int (iI 0)), (0, .ref (ad x0)), (1, .ref (ad x1)), (2, .ref (ad x2))] rfl rfl (by decide) rfl dX6_split_6 (fun ls hl => ?_)
  refine q_iconst C 0 dX6_split_7 ?_
  refine q_istore C hl [(4, .int (iI 0)), (3, .int (iI 0)), (0, .ref (ad x0)), (1, .ref (ad x1)), (2, .ref (ad x2))] rfl (by decide) rfl dX6_split_8 (fun ls hl => ?_)
  obtain ⟨cv2, sv3, hi4, hF⟩ := bdl_ok hF
  refine lX6_split_10 C hx0 hx1 hx2 hi4 ?_ _ _ _ (rl 0 rfl) (rl 0 rfl) Sm1 (lv_sub hl [2, 3, 4, 1, 0] rfl)
  intro _ H locs ls  S5 hl
  exact wX6_split_96 C S5  (lv_sub hl [] rfl) hF Kr
theorem cX6_split_ok (l : Launch) (G : Gl) {g : Shp} {x0 x1 x2 : Int} {m m' : Mem} {r : Int} (hx0 : gk g x0 = 7) (hx1 : gk g x1 = 6) (hx2 : gk g x2 = 20) (hF : fX6_split g x0 x1 x2 m = some (r, m')) : mV l yX6_split (wT yX6_split cX6_split 6 none) rX6_split G (fun ad => [.ref (ad x0), .ref (ad x1), .ref (ad x2)]) g m m' :=
  met_v (by decide) (fun ad => Nat.le_of_ble_eq_true rfl) (fun p e s mt args below meth c Q A H0 H locs ad ls C hnm S hl Kr => wX6_split_0 C S hx0 hx1 hx2 hl hF Kr)
set_option maxRecDepth 20000 in
theorem wX7_clear_0 {p : Program} {l : Launch} {e : Env} {s : State} {mt : MethodId} {args : Array Value} {below : List Frame} {meth : Method} {c : Code} {Q : State → Prop} {G : Gl} {A : Nat → Prop} {H0 : Heap} {ad : Int → Nat} {g : Shp} {H : Heap} {locs : List Loc} {ls : Array Slot} {m : Mem} {x0 : Int} (C : CallFix p mt c cX7_clear 1 s args tb RX7) (S : Wd G A s H0 ad g m H locs) (hx0 : gk g x0 = 8) (hl : lv_has ls 1 [(0, .ref (ad x0))]) {r : Int} {m' : Mem} (hF : bX7_clear_0 g x0 m = some (r, m')) (Kr : ∀ (H : Heap) (locs : List Loc) (pc : Nat) (ls : Array Slot), Wd G A s H0 ad g m' H locs → decode cX7_clear pc = .ok (.return_, 1) → W p l e rX7_clear s mt args below meth c H locs 0 0 Q (F0 mt pc ls [])) : W p l e rX7_clear s mt args below meth c H locs 0 0 Q (F0 mt 0 ls []) := by
  unfold bX7_clear_0 at hF
  refine q_aload_n C hl 0 rfl rfl dX7_clear_0 ?_
  obtain ⟨k1, hF⟩ := ck_ok hF
  refine q_getr C S 0 fo_RX7_9 (j := 0) rfl rfl hx0 k1 (by decide) dX7_clear_1 ?_
  refine q_iconst C 0 dX7_clear_4 ?_
  refine q_iconst C 2 dX7_clear_5 ?_
  obtain ⟨i2, hF⟩ := ck_ok hF
  obtain ⟨m3, em3, hF⟩ := vm_ok hF
  refine q_iast C S k1 i2 (rl 2 rfl) em3 dX7_clear_6 (fun H locs Sm3 => ?_)
  refine q_aload_n C hl 0 rfl rfl dX7_clear_7 ?_
  obtain ⟨k4, hF⟩ := ck_ok hF
  refine q_getr C Sm3 0 fo_RX7_9 (j := 0) rfl rfl hx0 k4 (by decide) dX7_clear_8 ?_
  refine q_iconst C 1 dX7_clear_11 ?_
  refine q_iconst C 3 dX7_clear_12 ?_
  obtain ⟨i5, hF⟩ := ck_ok hF
  obtain ⟨m6, em6, hF⟩ := vm_ok hF
  refine q_iast C Sm3 k4 i5 (rl 3 rfl) em6 dX7_clear_13 (fun H locs Sm6 => ?_)
  refine q_aload_n C hl 0 rfl rfl dX7_clear_14 ?_
  obtain ⟨k7, hF⟩ := ck_ok hF
  refine q_getr C Sm6 0 fo_RX7_9 (j := 0) rfl rfl hx0 k7 (by decide) dX7_clear_15 ?_
  refine q_iconst C 2 dX7_clear_18 ?_
  refine q_iconst C 5 dX7_clear_19 ?_
  obtain ⟨i8, hF⟩ := ck_ok hF
  obtain ⟨m9, em9, hF⟩ := vm_ok hF
  refine q_iast C Sm6 k7 i8 (rl 5 rfl) em9 dX7_clear_20 (fun H locs Sm9 => ?_)
  refine q_aload_n C hl 0 rfl rfl dX7_clear_21 ?_
  obtain ⟨k10, hF⟩ := ck_ok hF
  refine q_getr C Sm9 1 fo_RX7_15 (j := 1) rfl rfl hx0 k10 (by decide) dX7_clear_22 ?_
  refine q_bipush C 6 (by decide) dX7_clear_25 ?_
  obtain ⟨v11, m12, h13, hF⟩ := bd2_ok hF
  refine q_cv Sm9 (run_S (As := [.ref (ad (m9 x0 1)), .int (iI 6)]) (rest := []) C Sm9 (cJ7_fill_53178_ok l G k10 (rl 6 rfl) h13 ad _) gd_RX7_28 hd_J7_fill_53178 rfl ⟨rfl, rfl, by decide, by decide⟩ ⟨Nat.zero_le _, Nat.zero_le _⟩ hl.1 rfl (Nat.le_of_ble_eq_true rfl) dX7_clear_27) (fun H locs Sm12 => ?_)
  refine q_aload_n C hl 0 rfl rfl dX7_clear_30 ?_
  obtain ⟨k14, hF⟩ := ck_ok hF
  refine q_getr C Sm12 3 fo_RX7_24 (j := 3) rfl rfl hx0 k14 (by decide) dX7_clear_31 ?_
  refine q_iconst C 0 dX7_clear_34 ?_
  obtain ⟨v15, m16, h17, hF⟩ := bd2_ok hF
  refine q_cv Sm12 (run_S (As := [.ref (ad (m12 x0 3)), .int (iI 0)]) (rest := []) C Sm12 (cJ7_fill_53178_ok l G k14 (rl 0 rfl) h17 ad _) gd_RX7_28 hd_J7_fill_53178 rfl ⟨rfl, rfl, by decide, by decide⟩ ⟨Nat.zero_le _, Nat.zero_le _⟩ hl.1 rfl (Nat.le_of_ble_eq_true rfl) dX7_clear_35) (fun H locs Sm16 => ?_)
  refine q_aload_n C hl 0 rfl rfl dX7_clear_38 ?_
  refine q_iconst C 0 dX7_clear_39 ?_
  obtain ⟨m18, em18, hF⟩ := vm_ok hF
  refine q_put C Sm16 4 fo_RX7_34 fp_8_4 (fun h9 => absurd h9 (by decide)) (j := 4) rfl hx0 rfl rfl rfl (rl 0 rfl) (fun h9 => absurd h9 (by decide)) em18 dX7_clear_40 (fun H locs Sm18 => ?_)
  refine q_aload_n C hl 0 rfl rfl dX7_clear_43 ?_
  refine q_iconst C 0 dX7_clear_44 ?_
  obtain ⟨m19, em19, hF⟩ := vm_ok hF
  refine q_put C Sm18 5 fo_RX7_38 fp_8_5 (fun h9 => absurd h9 (by decide)) (j := 5) rfl hx0 rfl rfl rfl (rl 0 rfl) (fun h9 => absurd h9 (by decide)) em19 dX7_clear_45 (fun H locs Sm19 => ?_)
  cases hF
  exact Kr _ _ _ _ Sm19 dX7_clear_48
theorem cX7_clear_ok (l : Launch) (G : Gl) {g : Shp} {x0 : Int} {m m' : Mem} {r : Int} (hx0 : gk g x0 = 8) (hF : fX7_clear g x0 m = some (r, m')) : mV l yX7_clear (wT yX7_clear cX7_clear 1 none) rX7_clear G (fun ad => [.ref (ad x0)]) g m m' :=
  met_v (by decide) (fun ad => Nat.le_of_ble_eq_true rfl) (fun p e s mt args below meth c Q A H0 H locs ad ls C hnm S hl Kr => wX7_clear_0 C S hx0 hl hF Kr)
set_option maxRecDepth 20000 in
theorem wX7_goesOver_18 {p : Program} {l : Launch} {e : Env} {s : State} {mt : MethodId} {args : Array Value} {below : List Frame} {meth : Method} {c : Code} {Q : State → Prop} {G : Gl} {A : Nat → Prop} {H0 : Heap} {ad : Int → Nat} {g : Shp} {H : Heap} {locs : List Loc} {ls : Array Slot} {m : Mem} {z0 : Int} (C : CallFix p mt c cX7_goesOver 3 s args tb RX7) (S : Wd G A s H0 ad g m H locs) (hz0 : r32 z0) (hl : lv_has ls 3 []) {r : Int} {m' : Mem} (hF : bX7_goesOver_18 g z0 m = some (r, m')) (Kr : ∀ (H : Heap) (locs : List Loc) (pc : Nat) (ls : Array Slot), Wd G A s H0 ad g m' H locs → decode cX7_goesOver pc = .ok (.ireturn, 1) → r32 r ∧ (true = true → r = 0 ∨ r = 1) → narrow .boolean (.int (iI r)) = .int (iI r) → W p l e rX7_goesOver s mt args below meth c H locs 0 0 Q (F0 mt pc ls [.int (iI r)])) : W p l e rX7_goesOver s mt args below meth c H locs 0 0 Q (F0 mt 18 ls [.int (iI z0)]) := by
  unfold bX7_goesOver_18 at hF
  obtain ⟨b1, hF⟩ := ck_ok hF
  cases hF
  exact Kr _ _ _ _ S dX7_goesOver_18 ⟨r_b b1, fun _ => b1⟩ (nr_b b1)
set_option maxRecDepth 20000 in
theorem wX7_goesOver_0 {p : Program} {l : Launch} {e : Env} {s : State} {mt : MethodId} {args : Array Value} {below : List Frame} {meth : Method} {c : Code} {Q : State → Prop} {G : Gl} {A : Nat → Prop} {H0 : Heap} {ad : Int → Nat} {g : Shp} {H : Heap} {locs : List Loc} {ls : Array Slot} {m : Mem} {x0 x1 x2 : Int} (C : CallFix p mt c cX7_goesOver 3 s args tb RX7) (S : Wd G A s H0 ad g m H locs) (hx0 : gk g x0 = 8) (hx1 : r32 x1) (hx2 : r32 x2) (hl : lv_has ls 3 [(0, .ref (ad x0)), (1, .int (iI x1)), (2, .int (iI x2))]) {r : Int} {m' : Mem} (hF : bX7_goesOver_0 g x0 x1 x2 m = some (r, m')) (Kr : ∀ (H : Heap) (locs : List Loc) (pc : Nat) (ls : Array Slot), Wd G A s H0 ad g m' H locs → decode cX7_goesOver pc = .ok (.ireturn, 1) → r32 r ∧ (true = true → r = 0 ∨ r = 1) → narrow .boolean (.int (iI r)) = .int (iI r) → W p l e rX7_goesOver s mt args below meth c H locs 0 0 Q (F0 mt pc ls [.int (iI r)])) : W p l e rX7_goesOver s mt args below meth c H locs 0 0 Q (F0 mt 0 ls []) := by
  unfold bX7_goesOver_0 at hF
  refine q_aload_n C hl 0 rfl rfl dX7_goesOver_0 ?_
  obtain ⟨k1, hF⟩ := ck_ok hF
  refine q_getr C S 3 fo_RX7_24 (j := 3) rfl rfl hx0 k1 (by decide) dX7_goesOver_1 ?_
  refine q_iload_n C hl 2 rfl rfl dX7_goesOver_4 ?_
  obtain ⟨i2, hF⟩ := ck_ok hF
  refine q_iald C S k1 i2 dX7_goesOver_5 ?_
  refine q_iconst C 1 dX7_goesOver_6 ?_
  refine q_iload_n C hl 1 rfl rfl dX7_goesOver_7 ?_
  refine q_ishl C dX7_goesOver_8 ?_
  refine q_iand C dX7_goesOver_9 ?_
  refine q_if_eq C (r32_of _) 17 dX7_goesOver_10 (by decide) (fun hc3 => ?_) (fun hc3 => ?_)
  · have hF := if_t hc3 hF
    refine q_iconst C 0 dX7_goesOver_17 ?_
    exact wX7_goesOver_18 C S (rl 0 rfl) (lv_sub hl [] rfl) hF Kr
  · have hF := if_f hc3 hF
    refine q_iconst C 1 dX7_goesOver_13 ?_
    refine q_goto C 18 dX7_goesOver_14 (by decide) ?_
    exact wX7_goesOver_18 C S (rl 1 rfl) (lv_sub hl [] rfl) hF Kr
theorem cX7_goesOver_ok (l : Launch) (G : Gl) {g : Shp} {x0 x1 x2 : Int} {m m' : Mem} {r : Int} (hx0 : gk g x0 = 8) (hx1 : r32 x1) (hx2 : r32 x2) (hF : fX7_goesOver g x0 x1 x2 m = some (r, m')) : mI l yX7_goesOver (wT yX7_goesOver cX7_goesOver 3 (some .boolean)) rX7_goesOver G true (fun ad => [.ref (ad x0), .int (iI x1), .int (iI x2)]) g m r m' :=
  met_i (by decide) (fun ad => Nat.le_of_ble_eq_true rfl) (fun p e s mt args below meth c Q A H0 H locs ad ls C hnm S hl Kr => wX7_goesOver_0 C S hx0 hx1 hx2 hl hF Kr)
set_option maxRecDepth 20000 in
theorem wJ6_bitCount_0f7a4_0 {p : Program} {l : Launch} {e : Env} {s : State} {mt : MethodId} {args : Array Value} {below : List Frame} {meth : Method} {c : Code} {Q : State → Prop} {G : Gl} {A : Nat → Prop} {H0 : Heap} {ad : Int → Nat} {g : Shp} {H : Heap} {locs : List Loc} {ls : Array Slot} {m : Mem} {x0 : Int} (C : CallFix p mt c cJ6_bitCount_0f7a4 1 s args tb RJ6) (S : Wd G A s H0 ad g m H locs) (hx0 : r32 x0) (hl : lv_has ls 1 [(0, .int (iI x0))]) {r : Int} {m' : Mem} (hF : bJ6_bitCount_0f7a4_0 g x0 m = some (r, m')) (Kr : ∀ (H : Heap) (locs : List Loc) (pc : Nat) (ls : Array Slot), Wd G A s H0 ad g m' H locs → decode cJ6_bitCount_0f7a4 pc = .ok (.ireturn, 1) → r32 r ∧ (false = true → r = 0 ∨ r = 1) → narrow .int (.int (iI r)) = .int (iI r) → W p l e rJ6_bitCount_0f7a4 s mt args below meth c H locs 0 0 Q (F0 mt pc ls [.int (iI r)])) : W p l e rJ6_bitCount_0f7a4 s mt args below meth c H locs 0 0 Q (F0 mt 0 ls []) := by
  unfold bJ6_bitCount_0f7a4_0 at hF
  refine q_iload_n C hl 0 rfl rfl dJ6_bitCount_0f7a4_0 ?_
  refine q_iload_n C hl 0 rfl rfl dJ6_bitCount_0f7a4_1 ?_
  refine q_iconst C 1 dJ6_bitCount_0f7a4_2 ?_
  refine q_iushr C dJ6_bitCount_0f7a4_3 ?_
  refine q_ldcw C 1431655765 (by decide) tw851 dJ6_bitCount_0f7a4_4 ?_
  refine q_iand C dJ6_bitCount_0f7a4_7 ?_
  refine q_isub C dJ6_bitCount_0f7a4_8 ?_
  obtain ⟨y1, ey1, hF⟩ := vv_ok hF
  have ry1 : r32 y1 := ey1 ▸ (r32_w _)
  refine q_istore_n C hl [(0, .int (iI y1))] ey1 rfl (by decide) rfl dJ6_bitCount_0f7a4_9 (fun ls hl => ?_)
  refine q_iload_n C hl 0 rfl rfl dJ6_bitCount_0f7a4_10 ?_
  refine q_ldcw C 858993459 (by decide) tw852 dJ6_bitCount_0f7a4_11 ?_
  refine q_iand C dJ6_bitCount_0f7a4_14 ?_
  refine q_iload_n C hl 0 rfl rfl dJ6_bitCount_0f7a4_15 ?_
  refine q_iconst C 2 dJ6_bitCount_0f7a4_16 ?_
  refine q_iushr C dJ6_bitCount_0f7a4_17 ?_
  refine q_ldcw C 858993459 (by decide) tw852 dJ6_bitCount_0f7a4_18 ?_
  refine q_iand C dJ6_bitCount_0f7a4_21 ?_
  refine q_iadd C dJ6_bitCount_0f7a4_22 ?_
  obtain ⟨y2, ey2, hF⟩ := vv_ok hF
  have ry2 : r32 y2 := ey2 ▸ (r32_w _)
  refine q_istore_n C hl [(0, .int (iI y2))] ey2 rfl (by decide) rfl dJ6_bitCount_0f7a4_23 (fun ls hl => ?_)
  refine q_iload_n C hl 0 rfl rfl dJ6_bitCount_0f7a4_24 ?_
  refine q_iload_n C hl 0 rfl rfl dJ6_bitCount_0f7a4_25 ?_
  refine q_iconst C 4 dJ6_bitCount_0f7a4_26 ?_
  refine q_iushr C dJ6_bitCount_0f7a4_27 ?_
  refine q_iadd C dJ6_bitCount_0f7a4_28 ?_
  refine q_ldcw C 252645135 (by decide) tw853 dJ6_bitCount_0f7a4_29 ?_
  refine q_iand C dJ6_bitCount_0f7a4_32 ?_
  obtain ⟨y3, ey3, hF⟩ := vv_ok hF
  have ry3 : r32 y3 := ey3 ▸ (r32_of _)
  refine q_istore_n C hl [(0, .int (iI y3))] ey3 rfl (by decide) rfl dJ6_bitCount_0f7a4_33 (fun ls hl => ?_)
  refine q_iload_n C hl 0 rfl rfl dJ6_bitCount_0f7a4_34 ?_
  refine q_iload_n C hl 0 rfl rfl dJ6_bitCount_0f7a4_35 ?_
  refine q_bipush C 8 (by decide) dJ6_bitCount_0f7a4_36 ?_
  refine q_iushr C dJ6_bitCount_0f7a4_38 ?_
  refine q_iadd C dJ6_bitCount_0f7a4_39 ?_
  obtain ⟨y4, ey4, hF⟩ := vv_ok hF
  have ry4 : r32 y4 := ey4 ▸ (r32_w _)
  refine q_istore_n C hl [(0, .int (iI y4))] ey4 rfl (by decide) rfl dJ6_bitCount_0f7a4_40 (fun ls hl => ?_)
  refine q_iload_n C hl 0 rfl rfl dJ6_bitCount_0f7a4_41 ?_
  refine q_iload_n C hl 0 rfl rfl dJ6_bitCount_0f7a4_42 ?_
  refine q_bipush C 16 (by decide) dJ6_bitCount_0f7a4_43 ?_
  refine q_iushr C dJ6_bitCount_0f7a4_45 ?_
  refine q_iadd C dJ6_bitCount_0f7a4_46 ?_
  obtain ⟨y5, ey5, hF⟩ := vv_ok hF
  have ry5 : r32 y5 := ey5 ▸ (r32_w _)
  refine q_istore_n C hl [(0, .int (iI y5))] ey5 rfl (by decide) rfl dJ6_bitCount_0f7a4_47 (fun ls hl => ?_)
  refine q_iload_n C hl 0 rfl rfl dJ6_bitCount_0f7a4_48 ?_
  refine q_bipush C 63 (by decide) dJ6_bitCount_0f7a4_49 ?_
  refine q_iand C dJ6_bitCount_0f7a4_51 ?_
  cases hF
  exact Kr _ _ _ _ S dJ6_bitCount_0f7a4_52 ⟨(r32_of _), fun h9 => absurd h9 (by decide)⟩ rfl
theorem cJ6_bitCount_0f7a4_ok (l : Launch) (G : Gl) {g : Shp} {x0 : Int} {m m' : Mem} {r : Int} (hx0 : r32 x0) (hF : fJ6_bitCount_0f7a4 g x0 m = some (r, m')) : mI l yJ6_bitCount_0f7a4 (wT yJ6_bitCount_0f7a4 cJ6_bitCount_0f7a4 1 (some .int)) rJ6_bitCount_0f7a4 G false (fun ad => [.int (iI x0)]) g m r m' :=
  met_i (by decide) (fun ad => Nat.le_of_ble_eq_true rfl) (fun p e s mt args below meth c Q A H0 H locs ad ls C hnm S hl Kr => wJ6_bitCount_0f7a4_0 C S hx0 hl hF Kr)
set_option maxRecDepth 20000 in
theorem wX7_sharedCells_27 {p : Program} {l : Launch} {e : Env} {s : State} {mt : MethodId} {args : Array Value} {below : List Frame} {meth : Method} {c : Code} {Q : State → Prop} {G : Gl} {A : Nat → Prop} {H0 : Heap} {ad : Int → Nat} {g : Shp} {H : Heap} {locs : List Loc} {ls : Array Slot} {m : Mem} {x0 x1 x2 : Int} (C : CallFix p mt c cX7_sharedCells 3 s args tb RX7) (S : Wd G A s H0 ad g m H locs) (hx0 : gk g x0 = 8) (hx1 : r32 x1) (hx2 : r32 x2) (hl : lv_has ls 3 [(0, .ref (ad x0)), (1, .int (iI x1)), (2, .int (iI x2))]) {c1 : Int} {s1 : (Int × Int × Mem)} (hF : bX7_sharedCells_27 g x0 x1 x2 m = some (c1, s1)) (K0 : c1 = 0 → ∀ (H : Heap) (locs : List Loc) (ls : Array Slot), r32 s1.1 → r32 s1.2.1 → Wd G A s H0 ad g s1.2.2 H locs → lv_has ls 3 [(0, .ref (ad x0)), (1, .int (iI s1.1)), (2, .int (iI s1.2.1))] → W p l e rX7_sharedCells s mt args below meth c H locs 0 0 Q (F0 mt 4 ls [])) (K1 : c1 = 1 → ∀ (H : Heap) (locs : List Loc) (ls : Array Slot), r32 s1.1 → Wd G A s H0 ad g s1.2.2 H locs → lv_has ls 3 [(1, .int (iI s1.1))] → W p l e rX7_sharedCells s mt args below meth c H locs 0 0 Q (F0 mt 33 ls [])) : W p l e rX7_sharedCells s mt args below meth c H locs 0 0 Q (F0 mt 27 ls []) := by
  unfold bX7_sharedCells_27 at hF
  obtain ⟨y1, ey1, hF⟩ := vv_ok hF
  have ry1 : r32 y1 := ey1 ▸ r32_w _
  refine q_iinc C hl 2 [(2, .int (iI y1)), (0, .ref (ad x0)), (1, .int (iI x1))] rfl ey1 (by decide) rfl dX7_sharedCells_27 (fun ls hl => ?_)
  refine q_goto C 4 dX7_sharedCells_30 (by decide) ?_
  cases hF
  exact K0 rfl _ _ _ hx1 ry1 S (lv_sub hl [1, 2, 0] rfl)
set_option maxRecDepth 20000 in
theorem wX7_sharedCells_4 {p : Program} {l : Launch} {e : Env} {s : State} {mt : MethodId} {args : Array Value} {below : List Frame} {meth : Method} {c : Code} {Q : State → Prop} {G : Gl} {A : Nat → Prop} {H0 : Heap} {ad : Int → Nat} {g : Shp} {H : Heap} {locs : List Loc} {ls : Array Slot} {m : Mem} {x0 x1 x2 : Int} (C : CallFix p mt c cX7_sharedCells 3 s args tb RX7) (S : Wd G A s H0 ad g m H locs) (hx0 : gk g x0 = 8) (hx1 : r32 x1) (hx2 : r32 x2) (hl : lv_has ls 3 [(0, .ref (ad x0)), (1, .int (iI x1)), (2, .int (iI x2))]) {c1 : Int} {s1 : (Int × Int × Mem)} (hF : bX7_sharedCells_4 g x0 x1 x2 m = some (c1, s1)) (K0 : c1 = 0 → ∀ (H : Heap) (locs : List Loc) (ls : Array Slot), r32 s1.1 → r32 s1.2.1 → Wd G A s H0 ad g s1.2.2 H locs → lv_has ls 3 [(0, .ref (ad x0)), (1, .int (iI s1.1)), (2, .int (iI s1.2.1))] → W p l e rX7_sharedCells s mt args below meth c H locs 0 0 Q (F0 mt 4 ls [])) (K1 : c1 = 1 → ∀ (H : Heap) (locs : List Loc) (ls : Array Slot), r32 s1.1 → Wd G A s H0 ad g s1.2.2 H locs → lv_has ls 3 [(1, .int (iI s1.1))] → W p l e rX7_sharedCells s mt args below meth c H locs 0 0 Q (F0 mt 33 ls [])) : W p l e rX7_sharedCells s mt args below meth c H locs 0 0 Q (F0 mt 4 ls []) := by
  unfold bX7_sharedCells_4 at hF
  refine q_iload_n C hl 2 rfl rfl dX7_sharedCells_4 ?_
  refine q_sipush C 400 (by decide) dX7_sharedCells_5 ?_
  refine q_icmp_ge C hx2 (rl 400 rfl) 33 dX7_sharedCells_8 (by decide) (fun hc1 => ?_) (fun hc1 => ?_)
  · have hF := if_t hc1 hF
    cases hF
    exact K1 rfl _ _ _ hx1 S (lv_sub hl [1] rfl)
  · have hF := if_f hc1 hF
    refine q_aload_n C hl 0 rfl rfl dX7_sharedCells_11 ?_
    obtain ⟨k2, hF⟩ := ck_ok hF
    refine q_getr C S 3 fo_RX7_24 (j := 3) rfl rfl hx0 k2 (by decide) dX7_sharedCells_12 ?_
    refine q_iload_n C hl 2 rfl rfl dX7_sharedCells_15 ?_
    obtain ⟨i3, hF⟩ := ck_ok hF
    refine q_iald C S k2 i3 dX7_sharedCells_16 ?_
    obtain ⟨v4, m5, h6, hF⟩ := bd2_ok hF
    refine q_ci S (run_S (As := [.int (iI (m (m x0 3) x2))]) (rest := []) C S (cJ6_bitCount_0f7a4_ok l G (S.r _ _) h6 ad _) gd_RX7_41 hd_J6_bitCount_0f7a4 rfl ⟨rfl, rfl, by decide, by decide⟩ ⟨Nat.zero_le _, Nat.zero_le _⟩ hl.1 rfl (Nat.le_of_ble_eq_true rfl) dX7_sharedCells_17) (fun H locs Sm5 h7 => ?_)
    refine q_iconst C 1 dX7_sharedCells_20 ?_
    refine q_icmp_le C h7.1 (rl 1 rfl) 27 dX7_sharedCells_21 (by decide) (fun hc8 => ?_) (fun hc8 => ?_)
    · have hF := if_t hc8 hF
      exact wX7_sharedCells_27 C Sm5 hx0 hx1 hx2 (lv_sub hl [0, 1, 2] rfl) hF K0 K1
    · have hF := if_f hc8 hF
      obtain ⟨y9, ey9, hF⟩ := vv_ok hF
      have ry9 : r32 y9 := ey9 ▸ r32_w _
      refine q_iinc C hl 1 [(1, .int (iI y9)), (0, .ref (ad x0)), (2, .int (iI x2))] rfl ey9 (by decide) rfl dX7_sharedCells_24 (fun ls hl => ?_)
      exact wX7_sharedCells_27 C Sm5 hx0 ry9 hx2 (lv_sub hl [1, 0, 2] rfl) hF K0 K1
set_option maxRecDepth 20000 in
theorem lX7_sharedCells_4 {p : Program} {l : Launch} {e : Env} {s : State} {mt : MethodId} {args : Array Value} {below : List Frame} {meth : Method} {c : Code} {Q : State → Prop} {G : Gl} {A : Nat → Prop} {H0 : Heap} {ad : Int → Nat} {g : Shp} {x0 : Int} (C : CallFix p mt c cX7_sharedCells 3 s args tb RX7) (hx0 : gk g x0 = 8) {n : Nat} {s0 s1 : (Int × Int × Mem)} {c1 : Int} (hI : iter (BX7_sharedCells_4 g x0) n s0 = some (c1, s1)) (K1 : c1 = 1 → ∀ (H : Heap) (locs : List Loc) (ls : Array Slot), r32 s1.1 → Wd G A s H0 ad g s1.2.2 H locs → lv_has ls 3 [(1, .int (iI s1.1))] → W p l e rX7_sharedCells s mt args below meth c H locs 0 0 Q (F0 mt 33 ls [])) : ∀ (H : Heap) (locs : List Loc) (ls : Array Slot), r32 s0.1 → r32 s0.2.1 → Wd G A s H0 ad g s0.2.2 H locs → lv_has ls 3 [(0, .ref (ad x0)), (1, .int (iI s0.1)), (2, .int (iI s0.2.1))] → W p l e rX7_sharedCells s mt args below meth c H locs 0 0 Q (F0 mt 4 ls []) :=
  iter_W (Pw := fun q => ∀ (H : Heap) (locs : List Loc) (ls : Array Slot), r32 q.1 → r32 q.2.1 → Wd G A s H0 ad g q.2.2 H locs → lv_has ls 3 [(0, .ref (ad x0)), (1, .int (iI q.1)), (2, .int (iI q.2.1))] → W p l e rX7_sharedCells s mt args below meth c H locs 0 0 Q (F0 mt 4 ls [])) (Px := fun c0 q => (c0 = 1 → ∀ (H : Heap) (locs : List Loc) (ls : Array Slot), r32 q.1 → Wd G A s H0 ad g q.2.2 H locs → lv_has ls 3 [(1, .int (iI q.1))] → W p l e rX7_sharedCells s mt args below meth c H locs 0 0 Q (F0 mt 33 ls [])))
    (fun s c s' hB K0 kx H locs ls f0 f1 S hl => wX7_sharedCells_4 C S hx0 f0 f1 hl hB K0 (fun h9 => (kx (by rw [h9]; decide)) h9)) _ _ _ _ hI K1
set_option maxRecDepth 20000 in
theorem wX7_sharedCells_33 {p : Program} {l : Launch} {e : Env} {s : State} {mt : MethodId} {args : Array Value} {below : List Frame} {meth : Method} {c : Code} {Q : State → Prop} {G : Gl} {A : Nat → Prop} {H0 : Heap} {ad : Int → Nat} {g : Shp} {H : Heap} {locs : List Loc} {ls : Array Slot} {m : Mem} {x1 : Int} (C : CallFix p mt c cX7_sharedCells 3 s args tb RX7) (S : Wd G A s H0 ad g m H locs) (hx1 : r32 x1) (hl : lv_has ls 3 [(1, .int (iI x1))]) {r : Int} {m' : Mem} (hF : bX7_sharedCells_33 g x1 m = some (r, m')) (Kr : ∀ (H : Heap) (locs : List Loc) (pc : Nat) (ls : Array Slot), Wd G A s H0 ad g m' H locs → decode cX7_sharedCells pc = .ok (.ireturn, 1) → r32 r ∧ (false = true → r = 0 ∨ r = 1) → narrow .int (.int (iI r)) = .int (iI r) → W p l e rX7_sharedCells s mt args below meth c H locs 0 0 Q (F0 mt pc ls [.int (iI r)])) : W p l e rX7_sharedCells s mt args below meth c H locs 0 0 Q (F0 mt 33 ls []) := by
  unfold bX7_sharedCells_33 at hF
  refine q_iload_n C hl 0 rfl rfl dX7_sharedCells_33 ?_
  cases hF
  exact Kr _ _ _ _ S dX7_sharedCells_34 ⟨hx1, fun h9 => absurd h9 (by decide)⟩ rfl
set_option maxRecDepth 20000 in
theorem wX7_sharedCells_0 {p : Program} {l : Launch} {e : Env} {s : State} {mt : MethodId} {args : Array Value} {below : List Frame} {meth : Method} {c : Code} {Q : State → Prop} {G : Gl} {A : Nat → Prop} {H0 : Heap} {ad : Int → Nat} {g : Shp} {H : Heap} {locs : List Loc} {ls : Array Slot} {m : Mem} {x0 : Int} (C : CallFix p mt c cX7_sharedCells 3 s args tb RX7) (S : Wd G A s H0 ad g m H locs) (hx0 : gk g x0 = 8) (hl : lv_has ls 3 [(0, .ref (ad x0))]) {r : Int} {m' : Mem} (hF : bX7_sharedCells_0 g x0 m = some (r, m')) (Kr : ∀ (H : Heap) (locs : List Loc) (pc : Nat) (ls : Array Slot), Wd G A s H0 ad g m' H locs → decode cX7_sharedCells pc = .ok (.ireturn, 1) → r32 r ∧ (false = true → r = 0 ∨ r = 1) → narrow .int (.int (iI r)) = .int (iI r) → W p l e rX7_sharedCells s mt args below meth c H locs 0 0 Q (F0 mt pc ls [.int (iI r)])) : W p l e rX7_sharedCells s mt args below meth c H locs 0 0 Q (F0 mt 0 ls []) := by
  unfold bX7_sharedCells_0 at hF
  refine q_iconst C 0 dX7_sharedCells_0 ?_
  refine q_istore_n C hl [(1, .int (iI 0)), (0, .ref (ad x0))] rfl rfl (by decide) rfl dX7_sharedCells_1 (fun ls hl => ?_)
  refine q_iconst C 0 dX7_sharedCells_2 ?_
  refine q_istore_n C hl [(2, .int (iI 0)), (1, .int (iI 0)), (0, .ref (ad x0))] rfl rfl (by decide) rfl dX7_sharedCells_3 (fun ls hl => ?_)
  obtain ⟨cv1, sv2, hi3, hF⟩ := bdl_ok hF
  refine lX7_sharedCells_4 C hx0 hi3 ?_ _ _ _ (rl 0 rfl) (rl 0 rfl) S (lv_sub hl [2, 1, 0] rfl)
  intro _ H locs ls f5 S4 hl
  exact wX7_sharedCells_33 C S4 f5 (lv_sub hl [0] rfl) hF Kr
theorem cX7_sharedCells_ok (l : Launch) (G : Gl) {g : Shp} {x0 : Int} {m m' : Mem} {r : Int} (hx0 : gk g x0 = 8) (hF : fX7_sharedCells g x0 m = some (r, m')) : mI l yX7_sharedCells (wT yX7_sharedCells cX7_sharedCells 3 (some .int)) rX7_sharedCells G false (fun ad => [.ref (ad x0)]) g m r m' :=
  met_i (by decide) (fun ad => Nat.le_of_ble_eq_true rfl) (fun p e s mt args below meth c Q A H0 H locs ad ls C hnm S hl Kr => wX7_sharedCells_0 C S hx0 hl hF Kr)
set_option maxRecDepth 20000 in
theorem wX8_append_30 {p : Program} {l : Launch} {e : Env} {s : State} {mt : MethodId} {args : Array Value} {below : List Frame} {meth : Method} {c : Code} {Q : State → Prop} {G : Gl} {A : Nat → Prop} {H0 : Heap} {ad : Int → Nat} {g : Shp} {H : Heap} {locs : List Loc} {ls : Array Slot} {m : Mem} (C : CallFix p mt c cX8_append 2 s args tb RX8) (S : Wd G A s H0 ad g m H locs)  (hl : lv_has ls 2 []) {r : Int} {m' : Mem} (hF : bX8_append_30 g m = some (r, m')) (Kr : ∀ (H : Heap) (locs : List Loc) (pc : Nat) (ls : Array Slot), Wd G A s H0 ad g m' H locs → decode cX8_append pc = .ok (.return_, 1) → W p l e rX8_append s mt args below meth c H locs 0 0 Q (F0 mt pc ls [])) : W p l e rX8_append s mt args below meth c H locs 0 0 Q (F0 mt 30 ls []) := by
  unfold bX8_append_30 at hF
  cases hF
  exact Kr _ _ _ _ S dX8_append_30
set_option maxRecDepth 20000 in
theorem wX8_append_0 {p : Program} {l : Launch} {e : Env} {s : State} {mt : MethodId} {args : Array Value} {below : List Frame} {meth : Method} {c : Code} {Q : State → Prop} {G : Gl} {A : Nat → Prop} {H0 : Heap} {ad : Int → Nat} {g : Shp} {H : Heap} {locs : List Loc} {ls : Array Slot} {m : Mem} {x0 x1 : Int} (C : CallFix p mt c cX8_append 2 s args tb RX8) (S : Wd G A s H0 ad g m H locs) (hx0 : gk g x0 = 9) (hx1 : r32 x1) (hl : lv_has ls 2 [(0, .ref (ad x0)), (1, .int (iI x1))]) {r : Int} {m' : Mem} (hF : bX8_append_0 g x0 x1 m = some (r, m')) (Kr : ∀ (H : Heap) (locs : List Loc) (pc : Nat) (ls : Array Slot), Wd G A s H0 ad g m' H locs → decode cX8_append pc = .ok (.return_, 1) → W p l e rX8_append s mt args below meth c H locs 0 0 Q (F0 mt pc ls [])) : W p l e rX8_append s mt args below meth c H locs 0 0 Q (F0 mt 0 ls []) := by
  unfold bX8_append_0 at hF
  refine q_aload_n C hl 0 rfl rfl dX8_append_0 ?_
  refine q_geti C S 3 fo_RX8_19 (j := 3) rfl rfl hx0 dX8_append_1 ?_
  refine q_sipush C 200 (by decide) dX8_append_4 ?_
  refine q_icmp_ge C (S.r _ _) (rl 200 rfl) 30 dX8_append_7 (by decide) (fun hc1 => ?_) (fun hc1 => ?_)
  · have hF := if_t hc1 hF
    exact wX8_append_30 C S  (lv_sub hl [] rfl) hF Kr
  · have hF := if_f hc1 hF
    refine q_aload_n C hl 0 rfl rfl dX8_append_10 ?_
    obtain ⟨k2, hF⟩ := ck_ok hF
    refine q_getr C S 0 fo_RX8_9 (j := 0) rfl rfl hx0 k2 (by decide) dX8_append_11 ?_
    refine q_aload_n C hl 0 rfl rfl dX8_append_14 ?_
    refine q_geti C S 3 fo_RX8_19 (j := 3) rfl rfl hx0 dX8_append_15 ?_
    refine q_iload_n C hl 1 rfl rfl dX8_append_18 ?_
    obtain ⟨i3, hF⟩ := ck_ok hF
    obtain ⟨h4, hF⟩ := ck_ok hF
    obtain ⟨m5, em5, hF⟩ := vm_ok hF
    refine q_cast C S k2 i3 h4 em5 dX8_append_19 (fun H locs Sm5 => ?_)
    refine q_aload_n C hl 0 rfl rfl dX8_append_20 ?_
    refine q_dup C rfl dX8_append_21 ?_
    refine q_geti C Sm5 3 fo_RX8_19 (j := 3) rfl rfl hx0 dX8_append_22 ?_
    refine q_iconst C 1 dX8_append_25 ?_
    refine q_iadd C dX8_append_26 ?_
    obtain ⟨m6, em6, hF⟩ := vm_ok hF
    refine q_put C Sm5 3 fo_RX8_19 fp_9_3 (fun h9 => absurd h9 (by decide)) (j := 3) rfl hx0 rfl rfl rfl (r32_w _) (fun h9 => absurd h9 (by decide)) em6 dX8_append_27 (fun H locs Sm6 => ?_)
    exact wX8_append_30 C Sm6  (lv_sub hl [] rfl) hF Kr
theorem cX8_append_ok (l : Launch) (G : Gl) {g : Shp} {x0 x1 : Int} {m m' : Mem} {r : Int} (hx0 : gk g x0 = 9) (hx1 : r32 x1) (hF : fX8_append g x0 x1 m = some (r, m')) : mV l yX8_append (wT yX8_append cX8_append 2 none) rX8_append G (fun ad => [.ref (ad x0), .int (iI x1)]) g m m' :=
  met_v (by decide) (fun ad => Nat.le_of_ble_eq_true rfl) (fun p e s mt args below meth c Q A H0 H locs ad ls C hnm S hl Kr => wX8_append_0 C S hx0 hx1 hl hF Kr)
set_option maxRecDepth 20000 in
theorem wX8_take_24 {p : Program} {l : Launch} {e : Env} {s : State} {mt : MethodId} {args : Array Value} {below : List Frame} {meth : Method} {c : Code} {Q : State → Prop} {G : Gl} {A : Nat → Prop} {H0 : Heap} {ad : Int → Nat} {g : Shp} {H : Heap} {locs : List Loc} {ls : Array Slot} {m : Mem} (C : CallFix p mt c cX8_take 2 s args tb RX8) (S : Wd G A s H0 ad g m H locs)  (hl : lv_has ls 2 []) {r : Int} {m' : Mem} (hF : bX8_take_24 g m = some (r, m')) (Kr : ∀ (H : Heap) (locs : List Loc) (pc : Nat) (ls : Array Slot), Wd G A s H0 ad g m' H locs → decode cX8_take pc = .ok (.ireturn, 1) → r32 r ∧ (true = true → r = 0 ∨ r = 1) → narrow .boolean (.int (iI r)) = .int (iI r) → W p l e rX8_take s mt args below meth c H locs 0 0 Q (F0 mt pc ls [.int (iI r)])) : W p l e rX8_take s mt args below meth c H locs 0 0 Q (F0 mt 24 ls []) := by
  unfold bX8_take_24 at hF
  refine q_iconst C 0 dX8_take_24 ?_
  cases hF
  exact Kr _ _ _ _ S dX8_take_25 ⟨r_b b_0, fun _ => b_0⟩ (nr_b b_0)
set_option maxRecDepth 20000 in
theorem wX8_take_0 {p : Program} {l : Launch} {e : Env} {s : State} {mt : MethodId} {args : Array Value} {below : List Frame} {meth : Method} {c : Code} {Q : State → Prop} {G : Gl} {A : Nat → Prop} {H0 : Heap} {ad : Int → Nat} {g : Shp} {H : Heap} {locs : List Loc} {ls : Array Slot} {m : Mem} {x0 x1 : Int} (C : CallFix p mt c cX8_take 2 s args tb RX8) (S : Wd G A s H0 ad g m H locs) (hx0 : gk g x0 = 9) (hx1 : r32 x1) (hl : lv_has ls 2 [(0, .ref (ad x0)), (1, .int (iI x1))]) {r : Int} {m' : Mem} (hF : bX8_take_0 g x0 x1 m = some (r, m')) (Kr : ∀ (H : Heap) (locs : List Loc) (pc : Nat) (ls : Array Slot), Wd G A s H0 ad g m' H locs → decode cX8_take pc = .ok (.ireturn, 1) → r32 r ∧ (true = true → r = 0 ∨ r = 1) → narrow .boolean (.int (iI r)) = .int (iI r) → W p l e rX8_take s mt args below meth c H locs 0 0 Q (F0 mt pc ls [.int (iI r)])) : W p l e rX8_take s mt args below meth c H locs 0 0 Q (F0 mt 0 ls []) := by
  unfold bX8_take_0 at hF
  refine q_aload_n C hl 0 rfl rfl dX8_take_0 ?_
  refine q_geti C S 2 fo_RX8_28 (j := 2) rfl rfl hx0 dX8_take_1 ?_
  refine q_aload_n C hl 0 rfl rfl dX8_take_4 ?_
  refine q_geti C S 3 fo_RX8_19 (j := 3) rfl rfl hx0 dX8_take_5 ?_
  refine q_icmp_ge C (S.r _ _) (S.r _ _) 24 dX8_take_8 (by decide) (fun hc1 => ?_) (fun hc1 => ?_)
  · have hF := if_t hc1 hF
    exact wX8_take_24 C S  (lv_sub hl [] rfl) hF Kr
  · have hF := if_f hc1 hF
    refine q_aload_n C hl 0 rfl rfl dX8_take_11 ?_
    obtain ⟨k2, hF⟩ := ck_ok hF
    refine q_getr C S 0 fo_RX8_9 (j := 0) rfl rfl hx0 k2 (by decide) dX8_take_12 ?_
    refine q_aload_n C hl 0 rfl rfl dX8_take_15 ?_
    refine q_geti C S 2 fo_RX8_28 (j := 2) rfl rfl hx0 dX8_take_16 ?_
    obtain ⟨i3, hF⟩ := ck_ok hF
    refine q_cald C S k2 i3 dX8_take_19 ?_
    refine q_iload_n C hl 1 rfl rfl dX8_take_20 ?_
    refine q_icmp_eq C (S.r _ _) hx1 26 dX8_take_21 (by decide) (fun hc4 => ?_) (fun hc4 => ?_)
    · have hF := if_t hc4 hF
      refine q_aload_n C hl 0 rfl rfl dX8_take_26 ?_
      refine q_dup C rfl dX8_take_27 ?_
      refine q_geti C S 2 fo_RX8_28 (j := 2) rfl rfl hx0 dX8_take_28 ?_
      refine q_iconst C 1 dX8_take_31 ?_
      refine q_iadd C dX8_take_32 ?_
      obtain ⟨m5, em5, hF⟩ := vm_ok hF
      refine q_put C S 2 fo_RX8_28 fp_9_2 (fun h9 => absurd h9 (by decide)) (j := 2) rfl hx0 rfl rfl rfl (r32_w _) (fun h9 => absurd h9 (by decide)) em5 dX8_take_33 (fun H locs Sm5 => ?_)
      refine q_iconst C 1 dX8_take_36 ?_
      cases hF
      exact Kr _ _ _ _ Sm5 dX8_take_37 ⟨r_b b_1, fun _ => b_1⟩ (nr_b b_1)
    · have hF := if_f hc4 hF
      exact wX8_take_24 C S  (lv_sub hl [] rfl) hF Kr
theorem cX8_take_ok (l : Launch) (G : Gl) {g : Shp} {x0 x1 : Int} {m m' : Mem} {r : Int} (hx0 : gk g x0 = 9) (hx1 : r32 x1) (hF : fX8_take g x0 x1 m = some (r, m')) : mI l yX8_take (wT yX8_take cX8_take 2 (some .boolean)) rX8_take G true (fun ad => [.ref (ad x0), .int (iI x1)]) g m r m' :=
  met_i (by decide) (fun ad => Nat.le_of_ble_eq_true rfl) (fun p e s mt args below meth c Q A H0 H locs ad ls C hnm S hl Kr => wX8_take_0 C S hx0 hx1 hl hF Kr)
set_option maxRecDepth 20000 in
theorem wX8_readNumber_5 {p : Program} {l : Launch} {e : Env} {s : State} {mt : MethodId} {args : Array Value} {below : List Frame} {meth : Method} {c : Code} {Q : State → Prop} {G : Gl} {A : Nat → Prop} {H0 : Heap} {ad : Int → Nat} {g : Shp} {H : Heap} {locs : List Loc} {ls : Array Slot} {m : Mem} {x0 x1 x2 x3 x4 : Int} (C : CallFix p mt c cX8_readNumber 5 s args tb RX8) (S : Wd G A s H0 ad g m H locs) (hx0 : gk g x0 = 9) (hx1 : r32 x1) (hx2 : r32 x2) (hx3 : r32 x3) (hx4 : r32 x4) (hl : lv_has ls 5 [(0, .ref (ad x0)), (1, .int (iI x1)), (2, .int (iI x2)), (3, .int (iI x3)), (4, .int (iI x4))]) {c1 : Int} {s1 : (Int × Int × Mem)} (hF : bX8_readNumber_5 g x0 x1 x2 x3 x4 m = some (c1, s1)) (K0 : c1 = 0 → ∀ (H : Heap) (locs : List Loc) (ls : Array Slot), r32 s1.1 → r32 s1.2.1 → Wd G A s H0 ad g s1.2.2 H locs → lv_has ls 5 [(0, .ref (ad x0)), (1, .int (iI x1)), (2, .int (iI x2)), (3, .int (iI s1.1)), (4, .int (iI s1.2.1))] → W p l e rX8_readNumber s mt args below meth c H locs 0 0 Q (F0 mt 5 ls [])) (K1 : c1 = 1 → ∀ (H : Heap) (locs : List Loc) (ls : Array Slot), r32 s1.1 → r32 s1.2.1 → Wd G A s H0 ad g s1.2.2 H locs → lv_has ls 5 [(1, .int (iI x1)), (2, .int (iI x2)), (3, .int (iI s1.1)), (4, .int (iI s1.2.1))] → W p l e rX8_readNumber s mt args below meth c H locs 0 0 Q (F0 mt 84 ls [])) : W p l e rX8_readNumber s mt args below meth c H locs 0 0 Q (F0 mt 5 ls []) := by
  unfold bX8_readNumber_5 at hF
  refine q_iload C hl 4 rfl dX8_readNumber_5 ?_
  refine q_iconst C 2 dX8_readNumber_7 ?_
  refine q_icmp_ge C hx4 (rl 2 rfl) 84 dX8_readNumber_8 (by decide) (fun hc1 => ?_) (fun hc1 => ?_)
  · have hF := if_t hc1 hF
    cases hF
    exact K1 rfl _ _ _ hx3 hx4 S (lv_sub hl [1, 2, 3, 4] rfl)
  · have hF := if_f hc1 hF
    refine q_aload_n C hl 0 rfl rfl dX8_readNumber_11 ?_
    refine q_geti C S 2 fo_RX8_28 (j := 2) rfl rfl hx0 dX8_readNumber_12 ?_
    refine q_aload_n C hl 0 rfl rfl dX8_readNumber_15 ?_
    refine q_geti C S 3 fo_RX8_19 (j := 3) rfl rfl hx0 dX8_readNumber_16 ?_
    refine q_icmp_ge C (S.r _ _) (S.r _ _) 84 dX8_readNumber_19 (by decide) (fun hc2 => ?_) (fun hc2 => ?_)
    · have hF := if_t hc2 hF
      cases hF
      exact K1 rfl _ _ _ hx3 hx4 S (lv_sub hl [1, 2, 3, 4] rfl)
    · have hF := if_f hc2 hF
      refine q_aload_n C hl 0 rfl rfl dX8_readNumber_22 ?_
      obtain ⟨k3, hF⟩ := ck_ok hF
      refine q_getr C S 0 fo_RX8_9 (j := 0) rfl rfl hx0 k3 (by decide) dX8_readNumber_23 ?_
      refine q_aload_n C hl 0 rfl rfl dX8_readNumber_26 ?_
      refine q_geti C S 2 fo_RX8_28 (j := 2) rfl rfl hx0 dX8_readNumber_27 ?_
      obtain ⟨i4, hF⟩ := ck_ok hF
      refine q_cald C S k3 i4 dX8_readNumber_30 ?_
      refine q_bipush C 48 (by decide) dX8_readNumber_31 ?_
      refine q_icmp_lt C (S.r _ _) (rl 48 rfl) 84 dX8_readNumber_33 (by decide) (fun hc5 => ?_) (fun hc5 => ?_)
      · have hF := if_t hc5 hF
        cases hF
        exact K1 rfl _ _ _ hx3 hx4 S (lv_sub hl [1, 2, 3, 4] rfl)
      · have hF := if_f hc5 hF
        refine q_aload_n C hl 0 rfl rfl dX8_readNumber_36 ?_
        refine q_getr C S 0 fo_RX8_9 (j := 0) rfl rfl hx0 k3 (by decide) dX8_readNumber_37 ?_
        refine q_aload_n C hl 0 rfl rfl dX8_readNumber_40 ?_
        refine q_geti C S 2 fo_RX8_28 (j := 2) rfl rfl hx0 dX8_readNumber_41 ?_
        obtain ⟨i6, hF⟩ := ck_ok hF
        refine q_cald C S k3 i6 dX8_readNumber_44 ?_
        refine q_bipush C 57 (by decide) dX8_readNumber_45 ?_
        refine q_icmp_gt C (S.r _ _) (rl 57 rfl) 84 dX8_readNumber_47 (by decide) (fun hc7 => ?_) (fun hc7 => ?_)
        · have hF := if_t hc7 hF
          cases hF
          exact K1 rfl _ _ _ hx3 hx4 S (lv_sub hl [1, 2, 3, 4] rfl)
        · have hF := if_f hc7 hF
          refine q_bipush C 10 (by decide) dX8_readNumber_50 ?_
          refine q_iload_n C hl 3 rfl rfl dX8_readNumber_52 ?_
          refine q_imul C dX8_readNumber_53 ?_
          refine q_aload_n C hl 0 rfl rfl dX8_readNumber_54 ?_
          refine q_getr C S 0 fo_RX8_9 (j := 0) rfl rfl hx0 k3 (by decide) dX8_readNumber_55 ?_
          refine q_aload_n C hl 0 rfl rfl dX8_readNumber_58 ?_
          refine q_geti C S 2 fo_RX8_28 (j := 2) rfl rfl hx0 dX8_readNumber_59 ?_
          obtain ⟨i8, hF⟩ := ck_ok hF
          refine q_cald C S k3 i8 dX8_readNumber_62 ?_
          refine q_bipush C 48 (by decide) dX8_readNumber_63 ?_
          refine q_isub C dX8_readNumber_65 ?_
          refine q_iadd C dX8_readNumber_66 ?_
          obtain ⟨y9, ey9, hF⟩ := vv_ok hF
          have ry9 : r32 y9 := ey9 ▸ (r32_w _)
          refine q_istore_n C hl [(3, .int (iI y9)), (0, .ref (ad x0)), (1, .int (iI x1)), (2, .int (iI x2)), (4, .int (iI x4))] ey9 rfl (by decide) rfl dX8_readNumber_67 (fun ls hl => ?_)
          obtain ⟨y10, ey10, hF⟩ := vv_ok hF
          have ry10 : r32 y10 := ey10 ▸ r32_w _
          refine q_iinc C hl 4 [(4, .int (iI y10)), (3, .int (iI y9)), (0, .ref (ad x0)), (1, .int (iI x1)), (2, .int (iI x2))] rfl ey10 (by decide) rfl dX8_readNumber_68 (fun ls hl => ?_)
          refine q_aload_n C hl 2 rfl rfl dX8_readNumber_71 ?_
          refine q_dup C rfl dX8_readNumber_72 ?_
          refine q_geti C S 2 fo_RX8_28 (j := 2) rfl rfl hx0 dX8_readNumber_73 ?_
          refine q_iconst C 1 dX8_readNumber_76 ?_
          refine q_iadd C dX8_readNumber_77 ?_
          obtain ⟨m11, em11, hF⟩ := vm_ok hF
          refine q_put C S 2 fo_RX8_28 fp_9_2 (fun h9 => absurd h9 (by decide)) (j := 2) rfl hx0 rfl rfl rfl (r32_w _) (fun h9 => absurd h9 (by decide)) em11 dX8_readNumber_78 (fun H locs Sm11 => ?_)
          refine q_goto C 5 dX8_readNumber_81 (by decide) ?_
          cases hF
          exact K0 rfl _ _ _ ry9 ry10 Sm11 (lv_sub hl [2, 3, 4, 1, 0] rfl)
set_option maxRecDepth 20000 in
theorem lX8_readNumber_5 {p : Program} {l : Launch} {e : Env} {s : State} {mt : MethodId} {args : Array Value} {below : List Frame} {meth : Method} {c : Code} {Q : State → Prop} {G : Gl} {A : Nat → Prop} {H0 : Heap} {ad : Int → Nat} {g : Shp} {x0 x1 x2 : Int} (C : CallFix p mt c cX8_readNumber 5 s args tb RX8) (hx0 : gk g x0 = 9) (hx1 : r32 x1) (hx2 : r32 x2) {n : Nat} {s0 s1 : (Int × Int × Mem)} {c1 : Int} (hI : iter (BX8_readNumber_5 g x0 x1 x2) n s0 = some (c1, s1)) (K1 : c1 = 1 → ∀ (H : Heap) (locs : List Loc) (ls : Array Slot), r32 s1.1 → r32 s1.2.1 → Wd G A s H0 ad g s1.2.2 H locs → lv_has ls 5 [(1, .int (iI x1)), (2, .int (iI x2)), (3, .int (iI s1.1)), (4, .int (iI s1.2.1))] → W p l e rX8_readNumber s mt args below meth c H locs 0 0 Q (F0 mt 84 ls [])) : ∀ (H : Heap) (locs : List Loc) (ls : Array Slot), r32 s0.1 → r32 s0.2.1 → Wd G A s H0 ad g s0.2.2 H locs → lv_has ls 5 [(0, .ref (ad x0)), (1, .int (iI x1)), (2, .int (iI x2)), (3, .int (iI s0.1)), (4, .int (iI s0.2.1))] → W p l e rX8_readNumber s mt args below meth c H locs 0 0 Q (F0 mt 5 ls []) :=
  iter_W (Pw := fun q => ∀ (H : Heap) (locs : List Loc) (ls : Array Slot), r32 q.1 → r32 q.2.1 → Wd G A s H0 ad g q.2.2 H locs → lv_has ls 5 [(0, .ref (ad x0)), (1, .int (iI x1)), (2, .int (iI x2)), (3, .int (iI q.1)), (4, .int (iI q.2.1))] → W p l e rX8_readNumber s mt args below meth c H locs 0 0 Q (F0 mt 5 ls [])) (Px := fun c0 q => (c0 = 1 → ∀ (H : Heap) (locs : List Loc) (ls : Array Slot), r32 q.1 → r32 q.2.1 → Wd G A s H0 ad g q.2.2 H locs → lv_has ls 5 [(1, .int (iI x1)), (2, .int (iI x2)), (3, .int (iI q.1)), (4, .int (iI q.2.1))] → W p l e rX8_readNumber s mt args below meth c H locs 0 0 Q (F0 mt 84 ls [])))
    (fun s c s' hB K0 kx H locs ls f0 f1 S hl => wX8_readNumber_5 C S hx0 hx1 hx2 f0 f1 hl hB K0 (fun h9 => (kx (by rw [h9]; decide)) h9)) _ _ _ _ hI K1
set_option maxRecDepth 20000 in
theorem wX8_readNumber_104 {p : Program} {l : Launch} {e : Env} {s : State} {mt : MethodId} {args : Array Value} {below : List Frame} {meth : Method} {c : Code} {Q : State → Prop} {G : Gl} {A : Nat → Prop} {H0 : Heap} {ad : Int → Nat} {g : Shp} {H : Heap} {locs : List Loc} {ls : Array Slot} {m : Mem} {z0 : Int} (C : CallFix p mt c cX8_readNumber 5 s args tb RX8) (S : Wd G A s H0 ad g m H locs) (hz0 : r32 z0) (hl : lv_has ls 5 []) {r : Int} {m' : Mem} (hF : bX8_readNumber_104 g z0 m = some (r, m')) (Kr : ∀ (H : Heap) (locs : List Loc) (pc : Nat) (ls : Array Slot), Wd G A s H0 ad g m' H locs → decode cX8_readNumber pc = .ok (.ireturn, 1) → r32 r ∧ (false = true → r = 0 ∨ r = 1) → narrow .int (.int (iI r)) = .int (iI r) → W p l e rX8_readNumber s mt args below meth c H locs 0 0 Q (F0 mt pc ls [.int (iI r)])) : W p l e rX8_readNumber s mt args below meth c H locs 0 0 Q (F0 mt 104 ls [.int (iI z0)]) := by
  unfold bX8_readNumber_104 at hF
  cases hF
  exact Kr _ _ _ _ S dX8_readNumber_104 ⟨hz0, fun h9 => absurd h9 (by decide)⟩ rfl
set_option maxRecDepth 20000 in
theorem wX8_readNumber_103 {p : Program} {l : Launch} {e : Env} {s : State} {mt : MethodId} {args : Array Value} {below : List Frame} {meth : Method} {c : Code} {Q : State → Prop} {G : Gl} {A : Nat → Prop} {H0 : Heap} {ad : Int → Nat} {g : Shp} {H : Heap} {locs : List Loc} {ls : Array Slot} {m : Mem} (C : CallFix p mt c cX8_readNumber 5 s args tb RX8) (S : Wd G A s H0 ad g m H locs)  (hl : lv_has ls 5 []) {r : Int} {m' : Mem} (hF : bX8_readNumber_103 g m = some (r, m')) (Kr : ∀ (H : Heap) (locs : List Loc) (pc : Nat) (ls : Array Slot), Wd G A s H0 ad g m' H locs → decode cX8_readNumber pc = .ok (.ireturn, 1) → r32 r ∧ (false = true → r = 0 ∨ r = 1) → narrow .int (.int (iI r)) = .int (iI r) → W p l e rX8_readNumber s mt args below meth c H locs 0 0 Q (F0 mt pc ls [.int (iI r)])) : W p l e rX8_readNumber s mt args below meth c H locs 0 0 Q (F0 mt 103 ls []) := by
  unfold bX8_readNumber_103 at hF
  refine q_iconst C (-1) dX8_readNumber_103 ?_
  exact wX8_readNumber_104 C S (rl (-1) rfl) (lv_sub hl [] rfl) hF Kr
set_option maxRecDepth 20000 in
theorem wX8_readNumber_84 {p : Program} {l : Launch} {e : Env} {s : State} {mt : MethodId} {args : Array Value} {below : List Frame} {meth : Method} {c : Code} {Q : State → Prop} {G : Gl} {A : Nat → Prop} {H0 : Heap} {ad : Int → Nat} {g : Shp} {H : Heap} {locs : List Loc} {ls : Array Slot} {m : Mem} {x1 x2 x3 x4 : Int} (C : CallFix p mt c cX8_readNumber 5 s args tb RX8) (S : Wd G A s H0 ad g m H locs) (hx1 : r32 x1) (hx2 : r32 x2) (hx3 : r32 x3) (hx4 : r32 x4) (hl : lv_has ls 5 [(1, .int (iI x1)), (2, .int (iI x2)), (3, .int (iI x3)), (4, .int (iI x4))]) {r : Int} {m' : Mem} (hF : bX8_readNumber_84 g x1 x2 x3 x4 m = some (r, m')) (Kr : ∀ (H : Heap) (locs : List Loc) (pc : Nat) (ls : Array Slot), Wd G A s H0 ad g m' H locs → decode cX8_readNumber pc = .ok (.ireturn, 1) → r32 r ∧ (false = true → r = 0 ∨ r = 1) → narrow .int (.int (iI r)) = .int (iI r) → W p l e rX8_readNumber s mt args below meth c H locs 0 0 Q (F0 mt pc ls [.int (iI r)])) : W p l e rX8_readNumber s mt args below meth c H locs 0 0 Q (F0 mt 84 ls []) := by
  unfold bX8_readNumber_84 at hF
  refine q_iload C hl 3 rfl dX8_readNumber_84 ?_
  refine q_if_le C hx4 103 dX8_readNumber_86 (by decide) (fun hc1 => ?_) (fun hc1 => ?_)
  · have hF := if_t hc1 hF
    exact wX8_readNumber_103 C S  (lv_sub hl [] rfl) hF Kr
  · have hF := if_f hc1 hF
    refine q_iload_n C hl 2 rfl rfl dX8_readNumber_89 ?_
    refine q_iload_n C hl 0 rfl rfl dX8_readNumber_90 ?_
    refine q_icmp_lt C hx3 hx1 103 dX8_readNumber_91 (by decide) (fun hc2 => ?_) (fun hc2 => ?_)
    · have hF := if_t hc2 hF
      exact wX8_readNumber_103 C S  (lv_sub hl [] rfl) hF Kr
    · have hF := if_f hc2 hF
      refine q_iload_n C hl 2 rfl rfl dX8_readNumber_94 ?_
      refine q_iload_n C hl 1 rfl rfl dX8_readNumber_95 ?_
      refine q_icmp_gt C hx3 hx2 103 dX8_readNumber_96 (by decide) (fun hc3 => ?_) (fun hc3 => ?_)
      · have hF := if_t hc3 hF
        exact wX8_readNumber_103 C S  (lv_sub hl [] rfl) hF Kr
      · have hF := if_f hc3 hF
        refine q_iload_n C hl 2 rfl rfl dX8_readNumber_99 ?_
        refine q_goto C 104 dX8_readNumber_100 (by decide) ?_
        exact wX8_readNumber_104 C S hx3 (lv_sub hl [] rfl) hF Kr
set_option maxRecDepth 20000 in
theorem wX8_readNumber_0 {p : Program} {l : Launch} {e : Env} {s : State} {mt : MethodId} {args : Array Value} {below : List Frame} {meth : Method} {c : Code} {Q : State → Prop} {G : Gl} {A : Nat → Prop} {H0 : Heap} {ad : Int → Nat} {g : Shp} {H : Heap} {locs : List Loc} {ls : Array Slot} {m : Mem} {x0 x1 x2 : Int} (C : CallFix p mt c cX8_readNumber 5 s args tb RX8) (S : Wd G A s H0 ad g m H locs) (hx0 : gk g x0 = 9) (hx1 : r32 x1) (hx2 : r32 x2) (hl : lv_has ls 5 [(0, .ref (ad x0)), (1, .int (iI x1)), (2, .int (iI x2))]) {r : Int} {m' : Mem} (hF : bX8_readNumber_0 g x0 x1 x2 m = some (r, m')) (Kr : ∀ (H : Heap) (locs : List Loc) (pc : Nat) (ls : Array Slot), Wd G A s H0 ad g m' H locs → decode cX8_readNumber pc = .ok (.ireturn, 1) → r32 r ∧ (false = true → r = 0 ∨ r = 1) → narrow .int (.int (iI r)) = .int (iI r) → W p l e rX8_readNumber s mt args below meth c H locs 0 0 Q (F0 mt pc ls [.int (iI r)])) : W p l e rX8_readNumber s mt args below meth c H locs 0 0 Q (F0 mt 0 ls []) := by
  unfold bX8_readNumber_0 at hF
  refine q_iconst C 0 dX8_readNumber_0 ?_
  refine q_istore_n C hl [(3, .int (iI 0)), (0, .ref (ad x0)), (1, .int (iI x1)), (2, .int (iI x2))] rfl rfl (by decide) rfl dX8_readNumber_1 (fun ls hl => ?_)
  refine q_iconst C 0 dX8_readNumber_2 ?_
  refine q_istore C hl [(4, .int (iI 0)), (3, .int (iI 0)), (0, .ref (ad x0)), (1, .int (iI x1)), (2, .int (iI x2))] rfl (by decide) rfl dX8_readNumber_3 (fun ls hl => ?_)
  obtain ⟨cv1, sv2, hi3, hF⟩ := bdl_ok hF
  refine lX8_readNumber_5 C hx0 hx1 hx2 hi3 ?_ _ _ _ (rl 0 rfl) (rl 0 rfl) S (lv_sub hl [2, 3, 4, 1, 0] rfl)
  intro _ H locs ls f5 f6 S4 hl
  exact wX8_readNumber_84 C S4 hx1 hx2 f5 f6 (lv_sub hl [0, 1, 2, 3] rfl) hF Kr
theorem cX8_readNumber_ok (l : Launch) (G : Gl) {g : Shp} {x0 x1 x2 : Int} {m m' : Mem} {r : Int} (hx0 : gk g x0 = 9) (hx1 : r32 x1) (hx2 : r32 x2) (hF : fX8_readNumber g x0 x1 x2 m = some (r, m')) : mI l yX8_readNumber (wT yX8_readNumber cX8_readNumber 5 (some .int)) rX8_readNumber G false (fun ad => [.ref (ad x0), .int (iI x1), .int (iI x2)]) g m r m' :=
  met_i (by decide) (fun ad => Nat.le_of_ble_eq_true rfl) (fun p e s mt args below meth c Q A H0 H locs ad ls C hnm S hl Kr => wX8_readNumber_0 C S hx0 hx1 hx2 hl hF Kr)
set_option maxRecDepth 20000 in
theorem wX8_readNumbers_35 {p : Program} {l : Launch} {e : Env} {s : State} {mt : MethodId} {args : Array Value} {below : List Frame} {meth : Method} {c : Code} {Q : State → Prop} {G : Gl} {A : Nat → Prop} {H0 : Heap} {ad : Int → Nat} {g : Shp} {H : Heap} {locs : List Loc} {ls : Array Slot} {m : Mem} {x0 x1 x2 x3 x4 : Int} (C : CallFix p mt c cX8_readNumbers 5 s args tb RX8) (S : Wd G A s H0 ad g m H locs) (hx0 : gk g x0 = 9) (hx1 : r32 x1) (hx2 : r32 x2) (hx3 : r32 x3) (hx4 : r32 x4) (hl : lv_has ls 5 [(0, .ref (ad x0)), (1, .int (iI x1)), (2, .int (iI x2)), (3, .int (iI x3)), (4, .int (iI x4))]) {c1 : Int} {s1 : (Int × Mem)} (hF : bX8_readNumbers_35 g x0 x1 x2 x3 x4 m = some (c1, s1)) (K0 : c1 = 0 → ∀ (H : Heap) (locs : List Loc) (ls : Array Slot), r32 s1.1 → Wd G A s H0 ad g s1.2 H locs → lv_has ls 5 [(0, .ref (ad x0)), (1, .int (iI x1)), (2, .int (iI x2)), (3, .int (iI x3)), (4, .int (iI s1.1))] → W p l e rX8_readNumbers s mt args below meth c H locs 0 0 Q (F0 mt 3 ls [])) (K1 : c1 = 1 → ∀ (H : Heap) (locs : List Loc) (ls : Array Slot), Wd G A s H0 ad g s1.2 H locs → lv_has ls 5 [] → W p l e rX8_readNumbers s mt args below meth c H locs 0 0 Q (F0 mt 33 ls [])) (K2 : c1 = 2 → ∀ (H : Heap) (locs : List Loc) (ls : Array Slot), Wd G A s H0 ad g s1.2 H locs → lv_has ls 5 [] → W p l e rX8_readNumbers s mt args below meth c H locs 0 0 Q (F0 mt 59 ls [])) (K3 : c1 = 3 → ∀ (H : Heap) (locs : List Loc) (ls : Array Slot), Wd G A s H0 ad g s1.2 H locs → lv_has ls 5 [] → W p l e rX8_readNumbers s mt args below meth c H locs 0 0 Q (F0 mt 67 ls [])) : W p l e rX8_readNumbers s mt args below meth c H locs 0 0 Q (F0 mt 35 ls []) := by
  unfold bX8_readNumbers_35 at hF
  refine q_aload_n C hl 0 rfl rfl dX8_readNumbers_35 ?_
  obtain ⟨k1, hF⟩ := ck_ok hF
  refine q_getr C S 1 fo_RX8_15 (j := 1) rfl rfl hx0 k1 (by decide) dX8_readNumbers_36 ?_
  refine q_iload C hl 4 rfl dX8_readNumbers_39 ?_
  refine q_aload_n C hl 0 rfl rfl dX8_readNumbers_41 ?_
  refine q_iload_n C hl 2 rfl rfl dX8_readNumbers_42 ?_
  refine q_iload_n C hl 3 rfl rfl dX8_readNumbers_43 ?_
  obtain ⟨v2, m3, h4, hF⟩ := bd2_ok hF
  refine q_ci S (run_V (As := [.int (iI x2), .int (iI x3)]) (rest := [.int (iI x4), .ref (ad (m x0 1))]) C S (cX8_readNumber_ok l G hx0 hx2 hx3 h4 ad _) hx0 ⟨by decide, _, _, rfl⟩ gd_RX8_94 hdV_X8_readNumber rfl ⟨rfl, rfl, by decide, by decide⟩ ⟨Nat.zero_le _, Nat.zero_le _⟩ hl.1 rfl (Nat.le_of_ble_eq_true rfl) dX8_readNumbers_44) (fun H locs Sm3 h5 => ?_)
  obtain ⟨i6, hF⟩ := ck_ok hF
  obtain ⟨m7, em7, hF⟩ := vm_ok hF
  refine q_iast C Sm3 k1 i6 h5.1 em7 dX8_readNumbers_47 (fun H locs Sm7 => ?_)
  refine q_aload_n C hl 0 rfl rfl dX8_readNumbers_48 ?_
  obtain ⟨k8, hF⟩ := ck_ok hF
  refine q_getr C Sm7 1 fo_RX8_15 (j := 1) rfl rfl hx0 k8 (by decide) dX8_readNumbers_49 ?_
  refine q_iload C hl 4 rfl dX8_readNumbers_52 ?_
  obtain ⟨i9, hF⟩ := ck_ok hF
  refine q_iald C Sm7 k8 i9 dX8_readNumbers_54 ?_
  refine q_iconst C (-1) dX8_readNumbers_55 ?_
  refine q_icmp_ne C (Sm7.r _ _) (rl (-1) rfl) 61 dX8_readNumbers_56 (by decide) (fun hc10 => ?_) (fun hc10 => ?_)
  · have hF := if_t hc10 hF
    cases hF
    exact K2 rfl _ _ _  Sm7 (lv_sub hl [] rfl)
  · have hF := if_f hc10 hF
    obtain ⟨y11, ey11, hF⟩ := vv_ok hF
    have ry11 : r32 y11 := ey11 ▸ r32_w _
    refine q_iinc C hl 4 [(4, .int (iI y11)), (0, .ref (ad x0)), (1, .int (iI x1)), (2, .int (iI x2)), (3, .int (iI x3))] rfl ey11 (by decide) rfl dX8_readNumbers_61 (fun ls hl => ?_)
    refine q_goto C 3 dX8_readNumbers_64 (by decide) ?_
    cases hF
    exact K0 rfl _ _ _ ry11 Sm7 (lv_sub hl [1, 2, 3, 4, 0] rfl)
set_option maxRecDepth 20000 in
theorem wX8_readNumbers_3 {p : Program} {l : Launch} {e : Env} {s : State} {mt : MethodId} {args : Array Value} {below : List Frame} {meth : Method} {c : Code} {Q : State → Prop} {G : Gl} {A : Nat → Prop} {H0 : Heap} {ad : Int → Nat} {g : Shp} {H : Heap} {locs : List Loc} {ls : Array Slot} {m : Mem} {x0 x1 x2 x3 x4 : Int} (C : CallFix p mt c cX8_readNumbers 5 s args tb RX8) (S : Wd G A s H0 ad g m H locs) (hx0 : gk g x0 = 9) (hx1 : r32 x1) (hx2 : r32 x2) (hx3 : r32 x3) (hx4 : r32 x4) (hl : lv_has ls 5 [(0, .ref (ad x0)), (1, .int (iI x1)), (2, .int (iI x2)), (3, .int (iI x3)), (4, .int (iI x4))]) {c1 : Int} {s1 : (Int × Mem)} (hF : bX8_readNumbers_3 g x0 x1 x2 x3 x4 m = some (c1, s1)) (K0 : c1 = 0 → ∀ (H : Heap) (locs : List Loc) (ls : Array Slot), r32 s1.1 → Wd G A s H0 ad g s1.2 H locs → lv_has ls 5 [(0, .ref (ad x0)), (1, .int (iI x1)), (2, .int (iI x2)), (3, .int (iI x3)), (4, .int (iI s1.1))] → W p l e rX8_readNumbers s mt args below meth c H locs 0 0 Q (F0 mt 3 ls [])) (K1 : c1 = 1 → ∀ (H : Heap) (locs : List Loc) (ls : Array Slot), Wd G A s H0 ad g s1.2 H locs → lv_has ls 5 [] → W p l e rX8_readNumbers s mt args below meth c H locs 0 0 Q (F0 mt 33 ls [])) (K2 : c1 = 2 → ∀ (H : Heap) (locs : List Loc) (ls : Array Slot), Wd G A s H0 ad g s1.2 H locs → lv_has ls 5 [] → W p l e rX8_readNumbers s mt args below meth c H locs 0 0 Q (F0 mt 59 ls [])) (K3 : c1 = 3 → ∀ (H : Heap) (locs : List Loc) (ls : Array Slot), Wd G A s H0 ad g s1.2 H locs → lv_has ls 5 [] → W p l e rX8_readNumbers s mt args below meth c H locs 0 0 Q (F0 mt 67 ls [])) : W p l e rX8_readNumbers s mt args below meth c H locs 0 0 Q (F0 mt 3 ls []) := by
  unfold bX8_readNumbers_3 at hF
  refine q_iload C hl 4 rfl dX8_readNumbers_3 ?_
  refine q_iload_n C hl 1 rfl rfl dX8_readNumbers_5 ?_
  refine q_icmp_ge C hx4 hx1 67 dX8_readNumbers_6 (by decide) (fun hc1 => ?_) (fun hc1 => ?_)
  · have hF := if_t hc1 hF
    cases hF
    exact K3 rfl _ _ _  S (lv_sub hl [] rfl)
  · have hF := if_f hc1 hF
    refine q_iload C hl 4 rfl dX8_readNumbers_9 ?_
    refine q_aload_n C hl 0 rfl rfl dX8_readNumbers_11 ?_
    obtain ⟨k2, hF⟩ := ck_ok hF
    refine q_getr C S 1 fo_RX8_15 (j := 1) rfl rfl hx0 k2 (by decide) dX8_readNumbers_12 ?_
    refine q_alen C S k2 (by decide) dX8_readNumbers_15 ?_
    refine q_icmp_ge C hx4 (S.l _) 67 dX8_readNumbers_16 (by decide) (fun hc3 => ?_) (fun hc3 => ?_)
    · have hF := if_t hc3 hF
      cases hF
      exact K3 rfl _ _ _  S (lv_sub hl [] rfl)
    · have hF := if_f hc3 hF
      refine q_iload C hl 4 rfl dX8_readNumbers_19 ?_
      refine q_if_le C hx4 35 dX8_readNumbers_21 (by decide) (fun hc4 => ?_) (fun hc4 => ?_)
      · have hF := if_t hc4 hF
        exact wX8_readNumbers_35 C S hx0 hx1 hx2 hx3 hx4 (lv_sub hl [0, 1, 2, 3, 4] rfl) hF K0 K1 K2 K3
      · have hF := if_f hc4 hF
        refine q_aload_n C hl 0 rfl rfl dX8_readNumbers_24 ?_
        refine q_bipush C 44 (by decide) dX8_readNumbers_25 ?_
        obtain ⟨v5, m6, h7, hF⟩ := bd2_ok hF
        refine q_ci S (run_V (As := [.int (iI 44)]) (rest := []) C S (cX8_take_ok l G hx0 (rl 44 rfl) h7 ad _) hx0 ⟨by decide, _, _, rfl⟩ gd_RX8_35 hdV_X8_take rfl ⟨rfl, rfl, by decide, by decide⟩ ⟨Nat.zero_le _, Nat.zero_le _⟩ hl.1 rfl (Nat.le_of_ble_eq_true rfl) dX8_readNumbers_27) (fun H locs Sm6 h8 => ?_)
        refine q_if_ne C h8.1 35 dX8_readNumbers_30 (by decide) (fun hc9 => ?_) (fun hc9 => ?_)
        · have hF := if_t hc9 hF
          cases hF
          exact K1 rfl _ _ _  Sm6 (lv_sub hl [] rfl)
        · have hF := if_f hc9 hF
          exact wX8_readNumbers_35 C Sm6 hx0 hx1 hx2 hx3 hx4 (lv_sub hl [0, 1, 2, 3, 4] rfl) hF K0 K1 K2 K3
set_option maxRecDepth 20000 in
theorem lX8_readNumbers_3 {p : Program} {l : Launch} {e : Env} {s : State} {mt : MethodId} {args : Array Value} {below : List Frame} {meth : Method} {c : Code} {Q : State → Prop} {G : Gl} {A : Nat → Prop} {H0 : Heap} {ad : Int → Nat} {g : Shp} {x0 x1 x2 x3 : Int} (C : CallFix p mt c cX8_readNumbers 5 s args tb RX8) (hx0 : gk g x0 = 9) (hx1 : r32 x1) (hx2 : r32 x2) (hx3 : r32 x3) {n : Nat} {s0 s1 : (Int × Mem)} {c1 : Int} (hI : iter (BX8_readNumbers_3 g x0 x1 x2 x3) n s0 = some (c1, s1)) (K1 : c1 = 1 → ∀ (H : Heap) (locs : List Loc) (ls : Array Slot), Wd G A s H0 ad g s1.2 H locs → lv_has ls 5 [] → W p l e rX8_readNumbers s mt args below meth c H locs 0 0 Q (F0 mt 33 ls [])) (K2 : c1 = 2 → ∀ (H : Heap) (locs : List Loc) (ls : Array Slot), Wd G A s H0 ad g s1.2 H locs → lv_has ls 5 [] → W p l e rX8_readNumbers s mt args below meth c H locs 0 0 Q (F0 mt 59 ls [])) (K3 : c1 = 3 → ∀ (H : Heap) (locs : List Loc) (ls : Array Slot), Wd G A s H0 ad g s1.2 H locs → lv_has ls 5 [] → W p l e rX8_readNumbers s mt args below meth c H locs 0 0 Q (F0 mt 67 ls [])) : ∀ (H : Heap) (locs : List Loc) (ls : Array Slot), r32 s0.1 → Wd G A s H0 ad g s0.2 H locs → lv_has ls 5 [(0, .ref (ad x0)), (1, .int (iI x1)), (2, .int (iI x2)), (3, .int (iI x3)), (4, .int (iI s0.1))] → W p l e rX8_readNumbers s mt args below meth c H locs 0 0 Q (F0 mt 3 ls []) :=
  iter_W (Pw := fun q => ∀ (H : Heap) (locs : List Loc) (ls : Array Slot), r32 q.1 → Wd G A s H0 ad g q.2 H locs → lv_has ls 5 [(0, .ref (ad x0)), (1, .int (iI x1)), (2, .int (iI x2)), (3, .int (iI x3)), (4, .int (iI q.1))] → W p l e rX8_readNumbers s mt args below meth c H locs 0 0 Q (F0 mt 3 ls [])) (Px := fun c0 q => (c0 = 1 → ∀ (H : Heap) (locs : List Loc) (ls : Array Slot), Wd G A s H0 ad g q.2 H locs → lv_has ls 5 [] → W p l e rX8_readNumbers s mt args below meth c H locs 0 0 Q (F0 mt 33 ls [])) ∧ (c0 = 2 → ∀ (H : Heap) (locs : List Loc) (ls : Array Slot), Wd G A s H0 ad g q.2 H locs → lv_has ls 5 [] → W p l e rX8_readNumbers s mt args below meth c H locs 0 0 Q (F0 mt 59 ls [])) ∧ (c0 = 3 → ∀ (H : Heap) (locs : List Loc) (ls : Array Slot), Wd G A s H0 ad g q.2 H locs → lv_has ls 5 [] → W p l e rX8_readNumbers s mt args below meth c H locs 0 0 Q (F0 mt 67 ls [])))
    (fun s c s' hB K0 kx H locs ls f0 S hl => wX8_readNumbers_3 C S hx0 hx1 hx2 hx3 f0 hl hB K0 (fun h9 => (kx (by rw [h9]; decide)).1 h9) (fun h9 => (kx (by rw [h9]; decide)).2.1 h9) (fun h9 => (kx (by rw [h9]; decide)).2.2 h9)) _ _ _ _ hI ⟨K1, K2, K3⟩
set_option maxRecDepth 20000 in
theorem wX8_readNumbers_33 {p : Program} {l : Launch} {e : Env} {s : State} {mt : MethodId} {args : Array Value} {below : List Frame} {meth : Method} {c : Code} {Q : State → Prop} {G : Gl} {A : Nat → Prop} {H0 : Heap} {ad : Int → Nat} {g : Shp} {H : Heap} {locs : List Loc} {ls : Array Slot} {m : Mem} (C : CallFix p mt c cX8_readNumbers 5 s args tb RX8) (S : Wd G A s H0 ad g m H locs)  (hl : lv_has ls 5 []) {r : Int} {m' : Mem} (hF : bX8_readNumbers_33 g m = some (r, m')) (Kr : ∀ (H : Heap) (locs : List Loc) (pc : Nat) (ls : Array Slot), Wd G A s H0 ad g m' H locs → decode cX8_readNumbers pc = .ok (.ireturn, 1) → r32 r ∧ (true = true → r = 0 ∨ r = 1) → narrow .boolean (.int (iI r)) = .int (iI r) → W p l e rX8_readNumbers s mt args below meth c H locs 0 0 Q (F0 mt pc ls [.int (iI r)])) : W p l e rX8_readNumbers s mt args below meth c H locs 0 0 Q (F0 mt 33 ls []) := by
  unfold bX8_readNumbers_33 at hF
  refine q_iconst C 0 dX8_readNumbers_33 ?_
  cases hF
  exact Kr _ _ _ _ S dX8_readNumbers_34 ⟨r_b b_0, fun _ => b_0⟩ (nr_b b_0)
set_option maxRecDepth 20000 in
theorem wX8_readNumbers_59 {p : Program} {l : Launch} {e : Env} {s : State} {mt : MethodId} {args : Array Value} {below : List Frame} {meth : Method} {c : Code} {Q : State → Prop} {G : Gl} {A : Nat → Prop} {H0 : Heap} {ad : Int → Nat} {g : Shp} {H : Heap} {locs : List Loc} {ls : Array Slot} {m : Mem} (C : CallFix p mt c cX8_readNumbers 5 s args tb RX8) (S : Wd G A s H0 ad g m H locs)  (hl : lv_has ls 5 []) {r : Int} {m' : Mem} (hF : bX8_readNumbers_59 g m = some (r, m')) (Kr : ∀ (H : Heap) (locs : List Loc) (pc : Nat) (ls : Array Slot), Wd G A s H0 ad g m' H locs → decode cX8_readNumbers pc = .ok (.ireturn, 1) → r32 r ∧ (true = true → r = 0 ∨ r = 1) → narrow .boolean (.int (iI r)) = .int (iI r) → W p l e rX8_readNumbers s mt args below meth c H locs 0 0 Q (F0 mt pc ls [.int (iI r)])) : W p l e rX8_readNumbers s mt args below meth c H locs 0 0 Q (F0 mt 59 ls []) := by
  unfold bX8_readNumbers_59 at hF
  refine q_iconst C 0 dX8_readNumbers_59 ?_
  cases hF
  exact Kr _ _ _ _ S dX8_readNumbers_60 ⟨r_b b_0, fun _ => b_0⟩ (nr_b b_0)
set_option maxRecDepth 20000 in
theorem wX8_readNumbers_67 {p : Program} {l : Launch} {e : Env} {s : State} {mt : MethodId} {args : Array Value} {below : List Frame} {meth : Method} {c : Code} {Q : State → Prop} {G : Gl} {A : Nat → Prop} {H0 : Heap} {ad : Int → Nat} {g : Shp} {H : Heap} {locs : List Loc} {ls : Array Slot} {m : Mem} (C : CallFix p mt c cX8_readNumbers 5 s args tb RX8) (S : Wd G A s H0 ad g m H locs)  (hl : lv_has ls 5 []) {r : Int} {m' : Mem} (hF : bX8_readNumbers_67 g m = some (r, m')) (Kr : ∀ (H : Heap) (locs : List Loc) (pc : Nat) (ls : Array Slot), Wd G A s H0 ad g m' H locs → decode cX8_readNumbers pc = .ok (.ireturn, 1) → r32 r ∧ (true = true → r = 0 ∨ r = 1) → narrow .boolean (.int (iI r)) = .int (iI r) → W p l e rX8_readNumbers s mt args below meth c H locs 0 0 Q (F0 mt pc ls [.int (iI r)])) : W p l e rX8_readNumbers s mt args below meth c H locs 0 0 Q (F0 mt 67 ls []) := by
  unfold bX8_readNumbers_67 at hF
  refine q_iconst C 1 dX8_readNumbers_67 ?_
  cases hF
  exact Kr _ _ _ _ S dX8_readNumbers_68 ⟨r_b b_1, fun _ => b_1⟩ (nr_b b_1)
set_option maxRecDepth 20000 in
theorem wX8_readNumbers_0 {p : Program} {l : Launch} {e : Env} {s : State} {mt : MethodId} {args : Array Value} {below : List Frame} {meth : Method} {c : Code} {Q : State → Prop} {G : Gl} {A : Nat → Prop} {H0 : Heap} {ad : Int → Nat} {g : Shp} {H : Heap} {locs : List Loc} {ls : Array Slot} {m : Mem} {x0 x1 x2 x3 : Int} (C : CallFix p mt c cX8_readNumbers 5 s args tb RX8) (S : Wd G A s H0 ad g m H locs) (hx0 : gk g x0 = 9) (hx1 : r32 x1) (hx2 : r32 x2) (hx3 : r32 x3) (hl : lv_has ls 5 [(0, .ref (ad x0)), (1, .int (iI x1)), (2, .int (iI x2)), (3, .int (iI x3))]) {r : Int} {m' : Mem} (hF : bX8_readNumbers_0 g x0 x1 x2 x3 m = some (r, m')) (Kr : ∀ (H : Heap) (locs : List Loc) (pc : Nat) (ls : Array Slot), Wd G A s H0 ad g m' H locs → decode cX8_readNumbers pc = .ok (.ireturn, 1) → r32 r ∧ (true = true → r = 0 ∨ r = 1) → narrow .boolean (.int (iI r)) = .int (iI r) → W p l e rX8_readNumbers s mt args below meth c H locs 0 0 Q (F0 mt pc ls [.int (iI r)])) : W p l e rX8_readNumbers s mt args below meth c H locs 0 0 Q (F0 mt 0 ls []) := by
  unfold bX8_readNumbers_0 at hF
  refine q_iconst C 0 dX8_readNumbers_0 ?_
  refine q_istore C hl [(4, .int (iI 0)), (0, .ref (ad x0)), (1, .int (iI x1)), (2, .int (iI x2)), (3, .int (iI x3))] rfl (by decide) rfl dX8_readNumbers_1 (fun ls hl => ?_)
  obtain ⟨cv1, sv2, hi3, hF⟩ := bdl_ok hF
  refine lX8_readNumbers_3 C hx0 hx1 hx2 hx3 hi3 ?_ ?_ ?_ _ _ _ (rl 0 rfl) S (lv_sub hl [1, 2, 3, 4, 0] rfl)
  · intro hc4 H locs ls  S5 hl
    have hF := if_t hc4 hF
    exact wX8_readNumbers_33 C S5  (lv_sub hl [] rfl) hF Kr
  · intro hc6 H locs ls  S7 hl
    have hF := if_f (by rw [hc6]; decide) hF
    have hF := if_t hc6 hF
    exact wX8_readNumbers_59 C S7  (lv_sub hl [] rfl) hF Kr
  · intro hc8 H locs ls  S9 hl
    have hF := if_f (by rw [hc8]; decide) hF
    have hF := if_f (by rw [hc8]; decide) hF
    exact wX8_readNumbers_67 C S9  (lv_sub hl [] rfl) hF Kr
theorem cX8_readNumbers_ok (l : Launch) (G : Gl) {g : Shp} {x0 x1 x2 x3 : Int} {m m' : Mem} {r : Int} (hx0 : gk g x0 = 9) (hx1 : r32 x1) (hx2 : r32 x2) (hx3 : r32 x3) (hF : fX8_readNumbers g x0 x1 x2 x3 m = some (r, m')) : mI l yX8_readNumbers (wT yX8_readNumbers cX8_readNumbers 5 (some .boolean)) rX8_readNumbers G true (fun ad => [.ref (ad x0), .int (iI x1), .int (iI x2), .int (iI x3)]) g m r m' :=
  met_i (by decide) (fun ad => Nat.le_of_ble_eq_true rfl) (fun p e s mt args below meth c Q A H0 H locs ad ls C hnm S hl Kr => wX8_readNumbers_0 C S hx0 hx1 hx2 hx3 hl hF Kr)
set_option maxRecDepth 20000 in
theorem wX8_readSizes_43 {p : Program} {l : Launch} {e : Env} {s : State} {mt : MethodId} {args : Array Value} {below : List Frame} {meth : Method} {c : Code} {Q : State → Prop} {G : Gl} {A : Nat → Prop} {H0 : Heap} {ad : Int → Nat} {g : Shp} {H : Heap} {locs : List Loc} {ls : Array Slot} {m : Mem} (C : CallFix p mt c cX8_readSizes 2 s args tb RX8) (S : Wd G A s H0 ad g m H locs)  (hl : lv_has ls 2 []) {r : Int} {m' : Mem} (hF : bX8_readSizes_43 g m = some (r, m')) (Kr : ∀ (H : Heap) (locs : List Loc) (pc : Nat) (ls : Array Slot), Wd G A s H0 ad g m' H locs → decode cX8_readSizes pc = .ok (.ireturn, 1) → r32 r ∧ (true = true → r = 0 ∨ r = 1) → narrow .boolean (.int (iI r)) = .int (iI r) → W p l e rX8_readSizes s mt args below meth c H locs 0 0 Q (F0 mt pc ls [.int (iI r)])) : W p l e rX8_readSizes s mt args below meth c H locs 0 0 Q (F0 mt 43 ls []) := by
  unfold bX8_readSizes_43 at hF
  refine q_iconst C 0 dX8_readSizes_43 ?_
  cases hF
  exact Kr _ _ _ _ S dX8_readSizes_44 ⟨r_b b_0, fun _ => b_0⟩ (nr_b b_0)
set_option maxRecDepth 20000 in
theorem wX8_readSizes_0 {p : Program} {l : Launch} {e : Env} {s : State} {mt : MethodId} {args : Array Value} {below : List Frame} {meth : Method} {c : Code} {Q : State → Prop} {G : Gl} {A : Nat → Prop} {H0 : Heap} {ad : Int → Nat} {g : Shp} {H : Heap} {locs : List Loc} {ls : Array Slot} {m : Mem} {x0 x1 : Int} (C : CallFix p mt c cX8_readSizes 2 s args tb RX8) (S : Wd G A s H0 ad g m H locs) (hx0 : gk g x0 = 9) (hx1 : gk g x1 = 8) (hl : lv_has ls 2 [(0, .ref (ad x0)), (1, .ref (ad x1))]) {r : Int} {m' : Mem} (hF : bX8_readSizes_0 g x0 x1 m = some (r, m')) (Kr : ∀ (H : Heap) (locs : List Loc) (pc : Nat) (ls : Array Slot), Wd G A s H0 ad g m' H locs → decode cX8_readSizes pc = .ok (.ireturn, 1) → r32 r ∧ (true = true → r = 0 ∨ r = 1) → narrow .boolean (.int (iI r)) = .int (iI r) → W p l e rX8_readSizes s mt args below meth c H locs 0 0 Q (F0 mt pc ls [.int (iI r)])) : W p l e rX8_readSizes s mt args below meth c H locs 0 0 Q (F0 mt 0 ls []) := by
  unfold bX8_readSizes_0 at hF
  refine q_aload_n C hl 0 rfl rfl dX8_readSizes_0 ?_
  refine q_iconst C 3 dX8_readSizes_1 ?_
  refine q_iconst C 1 dX8_readSizes_2 ?_
  refine q_bipush C 9 (by decide) dX8_readSizes_3 ?_
  obtain ⟨v1, m2, h3, hF⟩ := bd2_ok hF
  refine q_ci S (run_V (As := [.int (iI 3), .int (iI 1), .int (iI 9)]) (rest := []) C S (cX8_readNumbers_ok l G hx0 (rl 3 rfl) (rl 1 rfl) (rl 9 rfl) h3 ad _) hx0 ⟨by decide, _, _, rfl⟩ gd_RX8_51 hdV_X8_readNumbers rfl ⟨rfl, rfl, by decide, by decide⟩ ⟨Nat.zero_le _, Nat.zero_le _⟩ hl.1 rfl (Nat.le_of_ble_eq_true rfl) dX8_readSizes_5) (fun H locs Sm2 h4 => ?_)
  refine q_if_ne C h4.1 13 dX8_readSizes_8 (by decide) (fun hc5 => ?_) (fun hc5 => ?_)
  · have hF := if_t hc5 hF
    refine q_iconst C 0 dX8_readSizes_11 ?_
    cases hF
    exact Kr _ _ _ _ Sm2 dX8_readSizes_12 ⟨r_b b_0, fun _ => b_0⟩ (nr_b b_0)
  · have hF := if_f hc5 hF
    refine q_aload_n C hl 0 rfl rfl dX8_readSizes_13 ?_
    obtain ⟨k6, hF⟩ := ck_ok hF
    refine q_getr C Sm2 1 fo_RX8_15 (j := 1) rfl rfl hx0 k6 (by decide) dX8_readSizes_14 ?_
    refine q_iconst C 0 dX8_readSizes_17 ?_
    obtain ⟨i7, hF⟩ := ck_ok hF
    refine q_iald C Sm2 k6 i7 dX8_readSizes_18 ?_
    refine q_aload_n C hl 0 rfl rfl dX8_readSizes_19 ?_
    refine q_getr C Sm2 1 fo_RX8_15 (j := 1) rfl rfl hx0 k6 (by decide) dX8_readSizes_20 ?_
    refine q_iconst C 1 dX8_readSizes_23 ?_
    obtain ⟨i8, hF⟩ := ck_ok hF
    refine q_iald C Sm2 k6 i8 dX8_readSizes_24 ?_
    refine q_icmp_ge C (Sm2.r _ _) (Sm2.r _ _) 43 dX8_readSizes_25 (by decide) (fun hc9 => ?_) (fun hc9 => ?_)
    · have hF := if_t hc9 hF
      exact wX8_readSizes_43 C Sm2  (lv_sub hl [] rfl) hF Kr
    · have hF := if_f hc9 hF
      refine q_aload_n C hl 0 rfl rfl dX8_readSizes_28 ?_
      refine q_getr C Sm2 1 fo_RX8_15 (j := 1) rfl rfl hx0 k6 (by decide) dX8_readSizes_29 ?_
      refine q_iconst C 1 dX8_readSizes_32 ?_
      obtain ⟨i10, hF⟩ := ck_ok hF
      refine q_iald C Sm2 k6 i10 dX8_readSizes_33 ?_
      refine q_aload_n C hl 0 rfl rfl dX8_readSizes_34 ?_
      refine q_getr C Sm2 1 fo_RX8_15 (j := 1) rfl rfl hx0 k6 (by decide) dX8_readSizes_35 ?_
      refine q_iconst C 2 dX8_readSizes_38 ?_
      obtain ⟨i11, hF⟩ := ck_ok hF
      refine q_iald C Sm2 k6 i11 dX8_readSizes_39 ?_
      refine q_icmp_lt C (Sm2.r _ _) (Sm2.r _ _) 45 dX8_readSizes_40 (by decide) (fun hc12 => ?_) (fun hc12 => ?_)
      · have hF := if_t hc12 hF
        refine q_aload_n C hl 0 rfl rfl dX8_readSizes_45 ?_
        refine q_getr C Sm2 1 fo_RX8_15 (j := 1) rfl rfl hx0 k6 (by decide) dX8_readSizes_46 ?_
        refine q_iconst C 0 dX8_readSizes_49 ?_
        refine q_aload_n C hl 1 rfl rfl dX8_readSizes_50 ?_
        obtain ⟨k13, hF⟩ := ck_ok hF
        refine q_getr C Sm2 0 fo_RX8_55 (j := 0) rfl rfl hx1 k13 (by decide) dX8_readSizes_51 ?_
        refine q_iconst C 0 dX8_readSizes_54 ?_
        refine q_iconst C 3 dX8_readSizes_55 ?_
        obtain ⟨h14, hF⟩ := ck_ok hF
        obtain ⟨m15, em15, hF⟩ := vm_ok hF
        refine q_acopy C Sm2 ⟨tw515, tw517, tw516, tw80⟩ hl.1 k6 k13 h14.1 h14.2.1 h14.2.2.1 h14.2.2.2.1 h14.2.2.2.2 (by decide) (by decide) em15 dX8_readSizes_56 (fun H locs Sm15 => ?_)
        refine q_iconst C 1 dX8_readSizes_59 ?_
        cases hF
        exact Kr _ _ _ _ Sm15 dX8_readSizes_60 ⟨r_b b_1, fun _ => b_1⟩ (nr_b b_1)
      · have hF := if_f hc12 hF
        exact wX8_readSizes_43 C Sm2  (lv_sub hl [] rfl) hF Kr
theorem cX8_readSizes_ok (l : Launch) (G : Gl) {g : Shp} {x0 x1 : Int} {m m' : Mem} {r : Int} (hx0 : gk g x0 = 9) (hx1 : gk g x1 = 8) (hF : fX8_readSizes g x0 x1 m = some (r, m')) : mI l yX8_readSizes (wT yX8_readSizes cX8_readSizes 2 (some .boolean)) rX8_readSizes G true (fun ad => [.ref (ad x0), .ref (ad x1)]) g m r m' :=
  met_i (by decide) (fun ad => Nat.le_of_ble_eq_true rfl) (fun p e s mt args below meth c Q A H0 H locs ad ls C hnm S hl Kr => wX8_readSizes_0 C S hx0 hx1 hl hF Kr)
set_option maxRecDepth 20000 in
theorem wX8_readJoint_0 {p : Program} {l : Launch} {e : Env} {s : State} {mt : MethodId} {args : Array Value} {below : List Frame} {meth : Method} {c : Code} {Q : State → Prop} {G : Gl} {A : Nat → Prop} {H0 : Heap} {ad : Int → Nat} {g : Shp} {H : Heap} {locs : List Loc} {ls : Array Slot} {m : Mem} {x0 x1 : Int} (C : CallFix p mt c cX8_readJoint 2 s args tb RX8) (S : Wd G A s H0 ad g m H locs) (hx0 : gk g x0 = 9) (hx1 : gk g x1 = 8) (hl : lv_has ls 2 [(0, .ref (ad x0)), (1, .ref (ad x1))]) {r : Int} {m' : Mem} (hF : bX8_readJoint_0 g x0 x1 m = some (r, m')) (Kr : ∀ (H : Heap) (locs : List Loc) (pc : Nat) (ls : Array Slot), Wd G A s H0 ad g m' H locs → decode cX8_readJoint pc = .ok (.ireturn, 1) → r32 r ∧ (true = true → r = 0 ∨ r = 1) → narrow .boolean (.int (iI r)) = .int (iI r) → W p l e rX8_readJoint s mt args below meth c H locs 0 0 Q (F0 mt pc ls [.int (iI r)])) : W p l e rX8_readJoint s mt args below meth c H locs 0 0 Q (F0 mt 0 ls []) := by
  unfold bX8_readJoint_0 at hF
  refine q_aload_n C hl 0 rfl rfl dX8_readJoint_0 ?_
  refine q_iconst C 1 dX8_readJoint_1 ?_
  refine q_iconst C 0 dX8_readJoint_2 ?_
  refine q_iconst C 2 dX8_readJoint_3 ?_
  obtain ⟨v1, m2, h3, hF⟩ := bd2_ok hF
  refine q_ci S (run_V (As := [.int (iI 1), .int (iI 0), .int (iI 2)]) (rest := []) C S (cX8_readNumbers_ok l G hx0 (rl 1 rfl) (rl 0 rfl) (rl 2 rfl) h3 ad _) hx0 ⟨by decide, _, _, rfl⟩ gd_RX8_51 hdV_X8_readNumbers rfl ⟨rfl, rfl, by decide, by decide⟩ ⟨Nat.zero_le _, Nat.zero_le _⟩ hl.1 rfl (Nat.le_of_ble_eq_true rfl) dX8_readJoint_4) (fun H locs Sm2 h4 => ?_)
  refine q_if_ne C h4.1 12 dX8_readJoint_7 (by decide) (fun hc5 => ?_) (fun hc5 => ?_)
  · have hF := if_t hc5 hF
    refine q_iconst C 0 dX8_readJoint_10 ?_
    cases hF
    exact Kr _ _ _ _ Sm2 dX8_readJoint_11 ⟨r_b b_0, fun _ => b_0⟩ (nr_b b_0)
  · have hF := if_f hc5 hF
    refine q_aload_n C hl 1 rfl rfl dX8_readJoint_12 ?_
    refine q_aload_n C hl 0 rfl rfl dX8_readJoint_13 ?_
    obtain ⟨k6, hF⟩ := ck_ok hF
    refine q_getr C Sm2 1 fo_RX8_15 (j := 1) rfl rfl hx0 k6 (by decide) dX8_readJoint_14 ?_
    refine q_iconst C 0 dX8_readJoint_17 ?_
    obtain ⟨i7, hF⟩ := ck_ok hF
    refine q_iald C Sm2 k6 i7 dX8_readJoint_18 ?_
    obtain ⟨m8, em8, hF⟩ := vm_ok hF
    refine q_put C Sm2 4 fo_RX8_64 fp_8_4 (fun h9 => absurd h9 (by decide)) (j := 4) rfl hx1 rfl rfl rfl (Sm2.r _ _) (fun h9 => absurd h9 (by decide)) em8 dX8_readJoint_19 (fun H locs Sm8 => ?_)
    refine q_iconst C 1 dX8_readJoint_22 ?_
    cases hF
    exact Kr _ _ _ _ Sm8 dX8_readJoint_23 ⟨r_b b_1, fun _ => b_1⟩ (nr_b b_1)
theorem cX8_readJoint_ok (l : Launch) (G : Gl) {g : Shp} {x0 x1 : Int} {m m' : Mem} {r : Int} (hx0 : gk g x0 = 9) (hx1 : gk g x1 = 8) (hF : fX8_readJoint g x0 x1 m = some (r, m')) : mI l yX8_readJoint (wT yX8_readJoint cX8_readJoint 2 (some .boolean)) rX8_readJoint G true (fun ad => [.ref (ad x0), .ref (ad x1)]) g m r m' :=
  met_i (by decide) (fun ad => Nat.le_of_ble_eq_true rfl) (fun p e s mt args below meth c Q A H0 H locs ad ls C hnm S hl Kr => wX8_readJoint_0 C S hx0 hx1 hl hF Kr)
set_option maxRecDepth 20000 in
theorem wX10_isColour_14 {p : Program} {l : Launch} {e : Env} {s : State} {mt : MethodId} {args : Array Value} {below : List Frame} {meth : Method} {c : Code} {Q : State → Prop} {G : Gl} {A : Nat → Prop} {H0 : Heap} {ad : Int → Nat} {g : Shp} {H : Heap} {locs : List Loc} {ls : Array Slot} {m : Mem} {z0 : Int} (C : CallFix p mt c cX10_isColour 1 s args tb RX10) (S : Wd G A s H0 ad g m H locs) (hz0 : r32 z0) (hl : lv_has ls 1 []) {r : Int} {m' : Mem} (hF : bX10_isColour_14 g z0 m = some (r, m')) (Kr : ∀ (H : Heap) (locs : List Loc) (pc : Nat) (ls : Array Slot), Wd G A s H0 ad g m' H locs → decode cX10_isColour pc = .ok (.ireturn, 1) → r32 r ∧ (true = true → r = 0 ∨ r = 1) → narrow .boolean (.int (iI r)) = .int (iI r) → W p l e rX10_isColour s mt args below meth c H locs 0 0 Q (F0 mt pc ls [.int (iI r)])) : W p l e rX10_isColour s mt args below meth c H locs 0 0 Q (F0 mt 14 ls [.int (iI z0)]) := by
  unfold bX10_isColour_14 at hF
  obtain ⟨b1, hF⟩ := ck_ok hF
  cases hF
  exact Kr _ _ _ _ S dX10_isColour_14 ⟨r_b b1, fun _ => b1⟩ (nr_b b1)
set_option maxRecDepth 20000 in
theorem wX10_isColour_13 {p : Program} {l : Launch} {e : Env} {s : State} {mt : MethodId} {args : Array Value} {below : List Frame} {meth : Method} {c : Code} {Q : State → Prop} {G : Gl} {A : Nat → Prop} {H0 : Heap} {ad : Int → Nat} {g : Shp} {H : Heap} {locs : List Loc} {ls : Array Slot} {m : Mem} (C : CallFix p mt c cX10_isColour 1 s args tb RX10) (S : Wd G A s H0 ad g m H locs)  (hl : lv_has ls 1 []) {r : Int} {m' : Mem} (hF : bX10_isColour_13 g m = some (r, m')) (Kr : ∀ (H : Heap) (locs : List Loc) (pc : Nat) (ls : Array Slot), Wd G A s H0 ad g m' H locs → decode cX10_isColour pc = .ok (.ireturn, 1) → r32 r ∧ (true = true → r = 0 ∨ r = 1) → narrow .boolean (.int (iI r)) = .int (iI r) → W p l e rX10_isColour s mt args below meth c H locs 0 0 Q (F0 mt pc ls [.int (iI r)])) : W p l e rX10_isColour s mt args below meth c H locs 0 0 Q (F0 mt 13 ls []) := by
  unfold bX10_isColour_13 at hF
  refine q_iconst C 0 dX10_isColour_13 ?_
  exact wX10_isColour_14 C S (rl 0 rfl) (lv_sub hl [] rfl) hF Kr
set_option maxRecDepth 20000 in
theorem wX10_isColour_0 {p : Program} {l : Launch} {e : Env} {s : State} {mt : MethodId} {args : Array Value} {below : List Frame} {meth : Method} {c : Code} {Q : State → Prop} {G : Gl} {A : Nat → Prop} {H0 : Heap} {ad : Int → Nat} {g : Shp} {H : Heap} {locs : List Loc} {ls : Array Slot} {m : Mem} {x0 : Int} (C : CallFix p mt c cX10_isColour 1 s args tb RX10) (S : Wd G A s H0 ad g m H locs) (hx0 : r32 x0) (hl : lv_has ls 1 [(0, .int (iI x0))]) {r : Int} {m' : Mem} (hF : bX10_isColour_0 g x0 m = some (r, m')) (Kr : ∀ (H : Heap) (locs : List Loc) (pc : Nat) (ls : Array Slot), Wd G A s H0 ad g m' H locs → decode cX10_isColour pc = .ok (.ireturn, 1) → r32 r ∧ (true = true → r = 0 ∨ r = 1) → narrow .boolean (.int (iI r)) = .int (iI r) → W p l e rX10_isColour s mt args below meth c H locs 0 0 Q (F0 mt pc ls [.int (iI r)])) : W p l e rX10_isColour s mt args below meth c H locs 0 0 Q (F0 mt 0 ls []) := by
  unfold bX10_isColour_0 at hF
  refine q_iload_n C hl 0 rfl rfl dX10_isColour_0 ?_
  refine q_if_lt C hx0 13 dX10_isColour_1 (by decide) (fun hc1 => ?_) (fun hc1 => ?_)
  · have hF := if_t hc1 hF
    exact wX10_isColour_13 C S  (lv_sub hl [] rfl) hF Kr
  · have hF := if_f hc1 hF
    refine q_iload_n C hl 0 rfl rfl dX10_isColour_4 ?_
    refine q_iconst C 3 dX10_isColour_5 ?_
    refine q_icmp_ge C hx0 (rl 3 rfl) 13 dX10_isColour_6 (by decide) (fun hc2 => ?_) (fun hc2 => ?_)
    · have hF := if_t hc2 hF
      exact wX10_isColour_13 C S  (lv_sub hl [] rfl) hF Kr
    · have hF := if_f hc2 hF
      refine q_iconst C 1 dX10_isColour_9 ?_
      refine q_goto C 14 dX10_isColour_10 (by decide) ?_
      exact wX10_isColour_14 C S (rl 1 rfl) (lv_sub hl [] rfl) hF Kr
theorem cX10_isColour_ok (l : Launch) (G : Gl) {g : Shp} {x0 : Int} {m m' : Mem} {r : Int} (hx0 : r32 x0) (hF : fX10_isColour g x0 m = some (r, m')) : mI l yX10_isColour (wT yX10_isColour cX10_isColour 1 (some .boolean)) rX10_isColour G true (fun ad => [.int (iI x0)]) g m r m' :=
  met_i (by decide) (fun ad => Nat.le_of_ble_eq_true rfl) (fun p e s mt args below meth c Q A H0 H locs ad ls C hnm S hl Kr => wX10_isColour_0 C S hx0 hl hF Kr)
set_option maxRecDepth 20000 in
theorem wX8_readBag_23 {p : Program} {l : Launch} {e : Env} {s : State} {mt : MethodId} {args : Array Value} {below : List Frame} {meth : Method} {c : Code} {Q : State → Prop} {G : Gl} {A : Nat → Prop} {H0 : Heap} {ad : Int → Nat} {g : Shp} {H : Heap} {locs : List Loc} {ls : Array Slot} {m : Mem} (C : CallFix p mt c cX8_readBag 2 s args tb RX8) (S : Wd G A s H0 ad g m H locs)  (hl : lv_has ls 2 []) {r : Int} {m' : Mem} (hF : bX8_readBag_23 g m = some (r, m')) (Kr : ∀ (H : Heap) (locs : List Loc) (pc : Nat) (ls : Array Slot), Wd G A s H0 ad g m' H locs → decode cX8_readBag pc = .ok (.ireturn, 1) → r32 r ∧ (true = true → r = 0 ∨ r = 1) → narrow .boolean (.int (iI r)) = .int (iI r) → W p l e rX8_readBag s mt args below meth c H locs 0 0 Q (F0 mt pc ls [.int (iI r)])) : W p l e rX8_readBag s mt args below meth c H locs 0 0 Q (F0 mt 23 ls []) := by
  unfold bX8_readBag_23 at hF
  refine q_iconst C 0 dX8_readBag_23 ?_
  cases hF
  exact Kr _ _ _ _ S dX8_readBag_24 ⟨r_b b_0, fun _ => b_0⟩ (nr_b b_0)
set_option maxRecDepth 20000 in
theorem wX8_readBag_0 {p : Program} {l : Launch} {e : Env} {s : State} {mt : MethodId} {args : Array Value} {below : List Frame} {meth : Method} {c : Code} {Q : State → Prop} {G : Gl} {A : Nat → Prop} {H0 : Heap} {ad : Int → Nat} {g : Shp} {H : Heap} {locs : List Loc} {ls : Array Slot} {m : Mem} {x0 x1 : Int} (C : CallFix p mt c cX8_readBag 2 s args tb RX8) (S : Wd G A s H0 ad g m H locs) (hx0 : gk g x0 = 9) (hx1 : gk g x1 = 8) (hl : lv_has ls 2 [(0, .ref (ad x0)), (1, .ref (ad x1))]) {r : Int} {m' : Mem} (hF : bX8_readBag_0 g x0 x1 m = some (r, m')) (Kr : ∀ (H : Heap) (locs : List Loc) (pc : Nat) (ls : Array Slot), Wd G A s H0 ad g m' H locs → decode cX8_readBag pc = .ok (.ireturn, 1) → r32 r ∧ (true = true → r = 0 ∨ r = 1) → narrow .boolean (.int (iI r)) = .int (iI r) → W p l e rX8_readBag s mt args below meth c H locs 0 0 Q (F0 mt pc ls [.int (iI r)])) : W p l e rX8_readBag s mt args below meth c H locs 0 0 Q (F0 mt 0 ls []) := by
  unfold bX8_readBag_0 at hF
  refine q_aload_n C hl 0 rfl rfl dX8_readBag_0 ?_
  refine q_iconst C 4 dX8_readBag_1 ?_
  refine q_iconst C 0 dX8_readBag_2 ?_
  refine q_bipush C 6 (by decide) dX8_readBag_3 ?_
  obtain ⟨v1, m2, h3, hF⟩ := bd2_ok hF
  refine q_ci S (run_V (As := [.int (iI 4), .int (iI 0), .int (iI 6)]) (rest := []) C S (cX8_readNumbers_ok l G hx0 (rl 4 rfl) (rl 0 rfl) (rl 6 rfl) h3 ad _) hx0 ⟨by decide, _, _, rfl⟩ gd_RX8_51 hdV_X8_readNumbers rfl ⟨rfl, rfl, by decide, by decide⟩ ⟨Nat.zero_le _, Nat.zero_le _⟩ hl.1 rfl (Nat.le_of_ble_eq_true rfl) dX8_readBag_5) (fun H locs Sm2 h4 => ?_)
  refine q_if_eq C h4.1 23 dX8_readBag_8 (by decide) (fun hc5 => ?_) (fun hc5 => ?_)
  · have hF := if_t hc5 hF
    exact wX8_readBag_23 C Sm2  (lv_sub hl [] rfl) hF Kr
  · have hF := if_f hc5 hF
    refine q_aload_n C hl 0 rfl rfl dX8_readBag_11 ?_
    obtain ⟨k6, hF⟩ := ck_ok hF
    refine q_getr C Sm2 1 fo_RX8_15 (j := 1) rfl rfl hx0 k6 (by decide) dX8_readBag_12 ?_
    refine q_iconst C 0 dX8_readBag_15 ?_
    obtain ⟨i7, hF⟩ := ck_ok hF
    refine q_iald C Sm2 k6 i7 dX8_readBag_16 ?_
    obtain ⟨v8, m9, h10, hF⟩ := bd2_ok hF
    refine q_ci Sm2 (run_SN (As := [.int (iI (m2 (m2 x0 1) 0))]) (rest := []) C Sm2 (cX10_isColour_ok l G (Sm2.r _ _) h10 ad _) (host := "StoneFloors") (by decide) tw528 tw64 tw527 hd_X10_isColour rfl ⟨rfl, rfl, by decide, by decide⟩ ⟨Nat.zero_le _, Nat.zero_le _⟩ hl.1 rfl (Nat.le_of_ble_eq_true rfl) dX8_readBag_17) (fun H locs Sm9 h11 => ?_)
    refine q_if_ne C h11.1 25 dX8_readBag_20 (by decide) (fun hc12 => ?_) (fun hc12 => ?_)
    · have hF := if_t hc12 hF
      exact wX8_readBag_23 C Sm9  (lv_sub hl [] rfl) hF Kr
    · have hF := if_f hc12 hF
      refine q_aload_n C hl 0 rfl rfl dX8_readBag_25 ?_
      obtain ⟨k13, hF⟩ := ck_ok hF
      refine q_getr C Sm9 1 fo_RX8_15 (j := 1) rfl rfl hx0 k13 (by decide) dX8_readBag_26 ?_
      refine q_iconst C 1 dX8_readBag_29 ?_
      refine q_aload_n C hl 1 rfl rfl dX8_readBag_30 ?_
      obtain ⟨k14, hF⟩ := ck_ok hF
      refine q_getr C Sm9 1 fo_RX8_71 (j := 1) rfl rfl hx1 k14 (by decide) dX8_readBag_31 ?_
      refine q_aload_n C hl 0 rfl rfl dX8_readBag_34 ?_
      refine q_getr C Sm9 1 fo_RX8_15 (j := 1) rfl rfl hx0 k13 (by decide) dX8_readBag_35 ?_
      refine q_iconst C 0 dX8_readBag_38 ?_
      obtain ⟨i15, hF⟩ := ck_ok hF
      refine q_iald C Sm9 k13 i15 dX8_readBag_39 ?_
      refine q_iconst C 3 dX8_readBag_40 ?_
      refine q_imul C dX8_readBag_41 ?_
      refine q_iconst C 3 dX8_readBag_42 ?_
      obtain ⟨h16, hF⟩ := ck_ok hF
      obtain ⟨m17, em17, hF⟩ := vm_ok hF
      refine q_acopy C Sm9 ⟨tw515, tw517, tw516, tw80⟩ hl.1 k13 k14 h16.1 h16.2.1 h16.2.2.1 h16.2.2.2.1 h16.2.2.2.2 (by decide) (by decide) em17 dX8_readBag_43 (fun H locs Sm17 => ?_)
      refine q_iconst C 1 dX8_readBag_46 ?_
      cases hF
      exact Kr _ _ _ _ Sm17 dX8_readBag_47 ⟨r_b b_1, fun _ => b_1⟩ (nr_b b_1)
theorem cX8_readBag_ok (l : Launch) (G : Gl) {g : Shp} {x0 x1 : Int} {m m' : Mem} {r : Int} (hx0 : gk g x0 = 9) (hx1 : gk g x1 = 8) (hF : fX8_readBag g x0 x1 m = some (r, m')) : mI l yX8_readBag (wT yX8_readBag cX8_readBag 2 (some .boolean)) rX8_readBag G true (fun ad => [.ref (ad x0), .ref (ad x1)]) g m r m' :=
  met_i (by decide) (fun ad => Nat.le_of_ble_eq_true rfl) (fun p e s mt args below meth c Q A H0 H locs ad ls C hnm S hl Kr => wX8_readBag_0 C S hx0 hx1 hl hF Kr)
set_option maxRecDepth 20000 in
theorem wX8_readRun_103 {p : Program} {l : Launch} {e : Env} {s : State} {mt : MethodId} {args : Array Value} {below : List Frame} {meth : Method} {c : Code} {Q : State → Prop} {G : Gl} {A : Nat → Prop} {H0 : Heap} {ad : Int → Nat} {g : Shp} {H : Heap} {locs : List Loc} {ls : Array Slot} {m : Mem} {z0 : Int} (C : CallFix p mt c cX8_readRun 7 s args tb RX8) (S : Wd G A s H0 ad g m H locs) (hz0 : r32 z0) (hl : lv_has ls 7 []) {r : Int} {m' : Mem} (hF : bX8_readRun_103 g z0 m = some (r, m')) (Kr : ∀ (H : Heap) (locs : List Loc) (pc : Nat) (ls : Array Slot), Wd G A s H0 ad g m' H locs → decode cX8_readRun pc = .ok (.ireturn, 1) → r32 r ∧ (true = true → r = 0 ∨ r = 1) → narrow .boolean (.int (iI r)) = .int (iI r) → W p l e rX8_readRun s mt args below meth c H locs 0 0 Q (F0 mt pc ls [.int (iI r)])) : W p l e rX8_readRun s mt args below meth c H locs 0 0 Q (F0 mt 103 ls [.int (iI z0)]) := by
  unfold bX8_readRun_103 at hF
  obtain ⟨b1, hF⟩ := ck_ok hF
  cases hF
  exact Kr _ _ _ _ S dX8_readRun_103 ⟨r_b b1, fun _ => b1⟩ (nr_b b1)
set_option maxRecDepth 20000 in
theorem wX8_readRun_102 {p : Program} {l : Launch} {e : Env} {s : State} {mt : MethodId} {args : Array Value} {below : List Frame} {meth : Method} {c : Code} {Q : State → Prop} {G : Gl} {A : Nat → Prop} {H0 : Heap} {ad : Int → Nat} {g : Shp} {H : Heap} {locs : List Loc} {ls : Array Slot} {m : Mem} (C : CallFix p mt c cX8_readRun 7 s args tb RX8) (S : Wd G A s H0 ad g m H locs)  (hl : lv_has ls 7 []) {r : Int} {m' : Mem} (hF : bX8_readRun_102 g m = some (r, m')) (Kr : ∀ (H : Heap) (locs : List Loc) (pc : Nat) (ls : Array Slot), Wd G A s H0 ad g m' H locs → decode cX8_readRun pc = .ok (.ireturn, 1) → r32 r ∧ (true = true → r = 0 ∨ r = 1) → narrow .boolean (.int (iI r)) = .int (iI r) → W p l e rX8_readRun s mt args below meth c H locs 0 0 Q (F0 mt pc ls [.int (iI r)])) : W p l e rX8_readRun s mt args below meth c H locs 0 0 Q (F0 mt 102 ls []) := by
  unfold bX8_readRun_102 at hF
  refine q_iconst C 0 dX8_readRun_102 ?_
  exact wX8_readRun_103 C S (rl 0 rfl) (lv_sub hl [] rfl) hF Kr
set_option maxRecDepth 20000 in
theorem wX8_readRun_68 {p : Program} {l : Launch} {e : Env} {s : State} {mt : MethodId} {args : Array Value} {below : List Frame} {meth : Method} {c : Code} {Q : State → Prop} {G : Gl} {A : Nat → Prop} {H0 : Heap} {ad : Int → Nat} {g : Shp} {H : Heap} {locs : List Loc} {ls : Array Slot} {m : Mem} {x0 x1 x2 x3 x4 x5 : Int} (C : CallFix p mt c cX8_readRun 7 s args tb RX8) (S : Wd G A s H0 ad g m H locs) (hx0 : gk g x0 = 9) (hx1 : gk g x1 = 6) (hx2 : gk g x2 = 20) (hx3 : r32 x3) (hx4 : r32 x4) (hx5 : r32 x5) (hl : lv_has ls 7 [(0, .ref (ad x0)), (1, .ref (ad x1)), (2, .ref (ad x2)), (3, .int (iI x3)), (4, .int (iI x4)), (5, .int (iI x5))]) {r : Int} {m' : Mem} (hF : bX8_readRun_68 g x0 x1 x2 x3 x4 x5 m = some (r, m')) (Kr : ∀ (H : Heap) (locs : List Loc) (pc : Nat) (ls : Array Slot), Wd G A s H0 ad g m' H locs → decode cX8_readRun pc = .ok (.ireturn, 1) → r32 r ∧ (true = true → r = 0 ∨ r = 1) → narrow .boolean (.int (iI r)) = .int (iI r) → W p l e rX8_readRun s mt args below meth c H locs 0 0 Q (F0 mt pc ls [.int (iI r)])) : W p l e rX8_readRun s mt args below meth c H locs 0 0 Q (F0 mt 68 ls []) := by
  unfold bX8_readRun_68 at hF
  refine q_aload_n C hl 0 rfl rfl dX8_readRun_68 ?_
  refine q_iconst C 1 dX8_readRun_69 ?_
  refine q_bipush C 12 (by decide) dX8_readRun_70 ?_
  obtain ⟨v1, m2, h3, hF⟩ := bd2_ok hF
  refine q_ci S (run_V (As := [.int (iI 1), .int (iI 12)]) (rest := []) C S (cX8_readNumber_ok l G hx0 (rl 1 rfl) (rl 12 rfl) h3 ad _) hx0 ⟨by decide, _, _, rfl⟩ gd_RX8_94 hdV_X8_readNumber rfl ⟨rfl, rfl, by decide, by decide⟩ ⟨Nat.zero_le _, Nat.zero_le _⟩ hl.1 rfl (Nat.le_of_ble_eq_true rfl) dX8_readRun_72) (fun H locs Sm2 h4 => ?_)
  refine q_istore C hl [(6, .int (iI v1)), (0, .ref (ad x0)), (1, .ref (ad x1)), (2, .ref (ad x2)), (3, .int (iI x3)), (4, .int (iI x4)), (5, .int (iI x5))] rfl (by decide) rfl dX8_readRun_75 (fun ls hl => ?_)
  refine q_iload C hl 0 rfl dX8_readRun_77 ?_
  refine q_iconst C (-1) dX8_readRun_79 ?_
  refine q_icmp_eq C h4.1 (rl (-1) rfl) 102 dX8_readRun_80 (by decide) (fun hc5 => ?_) (fun hc5 => ?_)
  · have hF := if_t hc5 hF
    exact wX8_readRun_102 C Sm2  (lv_sub hl [] rfl) hF Kr
  · have hF := if_f hc5 hF
    refine q_aload_n C hl 2 rfl rfl dX8_readRun_83 ?_
    refine q_iload C hl 5 rfl dX8_readRun_84 ?_
    refine q_iload C hl 6 rfl dX8_readRun_86 ?_
    refine q_iload C hl 0 rfl dX8_readRun_88 ?_
    refine q_aload_n C hl 3 rfl rfl dX8_readRun_90 ?_
    refine q_iload_n C hl 4 rfl rfl dX8_readRun_91 ?_
    obtain ⟨v6, m7, h8, hF⟩ := bd2_ok hF
    refine q_ci Sm2 (run_V (As := [.int (iI x4), .int (iI x5), .int (iI v1), .ref (ad x2), .int (iI x3)]) (rest := []) C Sm2 (cX5_go_ok l G hx1 hx4 hx5 h4.1 hx2 hx3 h8 ad _) hx1 ⟨by decide, _, _, rfl⟩ gd_RX8_98 hdV_X5_go rfl ⟨rfl, rfl, by decide, by decide⟩ ⟨Nat.zero_le _, Nat.zero_le _⟩ hl.1 rfl (Nat.le_of_ble_eq_true rfl) dX8_readRun_92) (fun H locs Sm7 h9 => ?_)
    refine q_if_eq C h9.1 102 dX8_readRun_95 (by decide) (fun hc10 => ?_) (fun hc10 => ?_)
    · have hF := if_t hc10 hF
      exact wX8_readRun_102 C Sm7  (lv_sub hl [] rfl) hF Kr
    · have hF := if_f hc10 hF
      refine q_iconst C 1 dX8_readRun_98 ?_
      refine q_goto C 103 dX8_readRun_99 (by decide) ?_
      exact wX8_readRun_103 C Sm7 (rl 1 rfl) (lv_sub hl [] rfl) hF Kr
set_option maxRecDepth 20000 in
theorem wX8_readRun_0 {p : Program} {l : Launch} {e : Env} {s : State} {mt : MethodId} {args : Array Value} {below : List Frame} {meth : Method} {c : Code} {Q : State → Prop} {G : Gl} {A : Nat → Prop} {H0 : Heap} {ad : Int → Nat} {g : Shp} {H : Heap} {locs : List Loc} {ls : Array Slot} {m : Mem} {x0 x1 x2 x3 : Int} (C : CallFix p mt c cX8_readRun 7 s args tb RX8) (S : Wd G A s H0 ad g m H locs) (hx0 : gk g x0 = 9) (hx1 : gk g x1 = 6) (hx2 : gk g x2 = 20) (hx3 : r32 x3) (hl : lv_has ls 7 [(0, .ref (ad x0)), (1, .ref (ad x1)), (2, .ref (ad x2)), (3, .int (iI x3))]) {r : Int} {m' : Mem} (hF : bX8_readRun_0 g x0 x1 x2 x3 m = some (r, m')) (Kr : ∀ (H : Heap) (locs : List Loc) (pc : Nat) (ls : Array Slot), Wd G A s H0 ad g m' H locs → decode cX8_readRun pc = .ok (.ireturn, 1) → r32 r ∧ (true = true → r = 0 ∨ r = 1) → narrow .boolean (.int (iI r)) = .int (iI r) → W p l e rX8_readRun s mt args below meth c H locs 0 0 Q (F0 mt pc ls [.int (iI r)])) : W p l e rX8_readRun s mt args below meth c H locs 0 0 Q (F0 mt 0 ls []) := by
  unfold bX8_readRun_0 at hF
  refine q_iconst C 0 dX8_readRun_0 ?_
  refine q_istore C hl [(4, .int (iI 0)), (0, .ref (ad x0)), (1, .ref (ad x1)), (2, .ref (ad x2)), (3, .int (iI x3))] rfl (by decide) rfl dX8_readRun_1 (fun ls hl => ?_)
  refine q_iconst C 0 dX8_readRun_3 ?_
  refine q_istore C hl [(5, .int (iI 0)), (4, .int (iI 0)), (0, .ref (ad x0)), (1, .ref (ad x1)), (2, .ref (ad x2)), (3, .int (iI x3))] rfl (by decide) rfl dX8_readRun_4 (fun ls hl => ?_)
  refine q_aload_n C hl 2 rfl rfl dX8_readRun_6 ?_
  refine q_bipush C 114 (by decide) dX8_readRun_7 ?_
  obtain ⟨v1, m2, h3, hF⟩ := bd2_ok hF
  refine q_ci S (run_V (As := [.int (iI 114)]) (rest := []) C S (cX8_take_ok l G hx0 (rl 114 rfl) h3 ad _) hx0 ⟨by decide, _, _, rfl⟩ gd_RX8_35 hdV_X8_take rfl ⟨rfl, rfl, by decide, by decide⟩ ⟨Nat.zero_le _, Nat.zero_le _⟩ hl.1 rfl (Nat.le_of_ble_eq_true rfl) dX8_readRun_9) (fun H locs Sm2 h4 => ?_)
  refine q_if_eq C h4.1 21 dX8_readRun_12 (by decide) (fun hc5 => ?_) (fun hc5 => ?_)
  · have hF := if_t hc5 hF
    refine q_aload_n C hl 2 rfl rfl dX8_readRun_21 ?_
    refine q_bipush C 108 (by decide) dX8_readRun_22 ?_
    obtain ⟨v6, m7, h8, hF⟩ := bd2_ok hF
    refine q_ci Sm2 (run_V (As := [.int (iI 108)]) (rest := []) C Sm2 (cX8_take_ok l G hx0 (rl 108 rfl) h8 ad _) hx0 ⟨by decide, _, _, rfl⟩ gd_RX8_35 hdV_X8_take rfl ⟨rfl, rfl, by decide, by decide⟩ ⟨Nat.zero_le _, Nat.zero_le _⟩ hl.1 rfl (Nat.le_of_ble_eq_true rfl) dX8_readRun_24) (fun H locs Sm7 h9 => ?_)
    refine q_if_eq C h9.1 36 dX8_readRun_27 (by decide) (fun hc10 => ?_) (fun hc10 => ?_)
    · have hF := if_t hc10 hF
      refine q_aload_n C hl 2 rfl rfl dX8_readRun_36 ?_
      refine q_bipush C 117 (by decide) dX8_readRun_37 ?_
      obtain ⟨v11, m12, h13, hF⟩ := bd2_ok hF
      refine q_ci Sm7 (run_V (As := [.int (iI 117)]) (rest := []) C Sm7 (cX8_take_ok l G hx0 (rl 117 rfl) h13 ad _) hx0 ⟨by decide, _, _, rfl⟩ gd_RX8_35 hdV_X8_take rfl ⟨rfl, rfl, by decide, by decide⟩ ⟨Nat.zero_le _, Nat.zero_le _⟩ hl.1 rfl (Nat.le_of_ble_eq_true rfl) dX8_readRun_39) (fun H locs Sm12 h14 => ?_)
      refine q_if_eq C h14.1 51 dX8_readRun_42 (by decide) (fun hc15 => ?_) (fun hc15 => ?_)
      · have hF := if_t hc15 hF
        refine q_aload_n C hl 2 rfl rfl dX8_readRun_51 ?_
        refine q_bipush C 100 (by decide) dX8_readRun_52 ?_
        obtain ⟨v16, m17, h18, hF⟩ := bd2_ok hF
        refine q_ci Sm12 (run_V (As := [.int (iI 100)]) (rest := []) C Sm12 (cX8_take_ok l G hx0 (rl 100 rfl) h18 ad _) hx0 ⟨by decide, _, _, rfl⟩ gd_RX8_35 hdV_X8_take rfl ⟨rfl, rfl, by decide, by decide⟩ ⟨Nat.zero_le _, Nat.zero_le _⟩ hl.1 rfl (Nat.le_of_ble_eq_true rfl) dX8_readRun_54) (fun H locs Sm17 h19 => ?_)
        refine q_if_eq C h19.1 66 dX8_readRun_57 (by decide) (fun hc20 => ?_) (fun hc20 => ?_)
        · have hF := if_t hc20 hF
          refine q_iconst C 0 dX8_readRun_66 ?_
          cases hF
          exact Kr _ _ _ _ Sm17 dX8_readRun_67 ⟨r_b b_0, fun _ => b_0⟩ (nr_b b_0)
        · have hF := if_f hc20 hF
          refine q_iconst C 1 dX8_readRun_60 ?_
          refine q_istore C hl [(5, .int (iI 1)), (4, .int (iI 0)), (0, .ref (ad x0)), (1, .ref (ad x1)), (2, .ref (ad x2)), (3, .int (iI x3))] rfl (by decide) rfl dX8_readRun_61 (fun ls hl => ?_)
          refine q_goto C 68 dX8_readRun_63 (by decide) ?_
          exact wX8_readRun_68 C Sm17 hx0 hx1 hx2 hx3 (rl 0 rfl) (rl 1 rfl) (lv_sub hl [2, 3, 4, 5, 1, 0] rfl) hF Kr
      · have hF := if_f hc15 hF
        refine q_iconst C (-1) dX8_readRun_45 ?_
        refine q_istore C hl [(5, .int (iI ((-1)))), (4, .int (iI 0)), (0, .ref (ad x0)), (1, .ref (ad x1)), (2, .ref (ad x2)), (3, .int (iI x3))] rfl (by decide) rfl dX8_readRun_46 (fun ls hl => ?_)
        refine q_goto C 68 dX8_readRun_48 (by decide) ?_
        exact wX8_readRun_68 C Sm12 hx0 hx1 hx2 hx3 (rl 0 rfl) (rl (-1) rfl) (lv_sub hl [2, 3, 4, 5, 1, 0] rfl) hF Kr
    · have hF := if_f hc10 hF
      refine q_iconst C (-1) dX8_readRun_30 ?_
      refine q_istore C hl [(4, .int (iI ((-1)))), (5, .int (iI 0)), (0, .ref (ad x0)), (1, .ref (ad x1)), (2, .ref (ad x2)), (3, .int (iI x3))] rfl (by decide) rfl dX8_readRun_31 (fun ls hl => ?_)
      refine q_goto C 68 dX8_readRun_33 (by decide) ?_
      exact wX8_readRun_68 C Sm7 hx0 hx1 hx2 hx3 (rl (-1) rfl) (rl 0 rfl) (lv_sub hl [2, 3, 4, 5, 0, 1] rfl) hF Kr
  · have hF := if_f hc5 hF
    refine q_iconst C 1 dX8_readRun_15 ?_
    refine q_istore C hl [(4, .int (iI 1)), (5, .int (iI 0)), (0, .ref (ad x0)), (1, .ref (ad x1)), (2, .ref (ad x2)), (3, .int (iI x3))] rfl (by decide) rfl dX8_readRun_16 (fun ls hl => ?_)
    refine q_goto C 68 dX8_readRun_18 (by decide) ?_
    exact wX8_readRun_68 C Sm2 hx0 hx1 hx2 hx3 (rl 1 rfl) (rl 0 rfl) (lv_sub hl [2, 3, 4, 5, 0, 1] rfl) hF Kr
theorem cX8_readRun_ok (l : Launch) (G : Gl) {g : Shp} {x0 x1 x2 x3 : Int} {m m' : Mem} {r : Int} (hx0 : gk g x0 = 9) (hx1 : gk g x1 = 6) (hx2 : gk g x2 = 20) (hx3 : r32 x3) (hF : fX8_readRun g x0 x1 x2 x3 m = some (r, m')) : mI l yX8_readRun (wT yX8_readRun cX8_readRun 7 (some .boolean)) rX8_readRun G true (fun ad => [.ref (ad x0), .ref (ad x1), .ref (ad x2), .int (iI x3)]) g m r m' :=
  met_i (by decide) (fun ad => Nat.le_of_ble_eq_true rfl) (fun p e s mt args below meth c Q A H0 H locs ad ls C hnm S hl Kr => wX8_readRun_0 C S hx0 hx1 hx2 hx3 hl hF Kr)
set_option maxRecDepth 20000 in
theorem wX8_readLine_120 {p : Program} {l : Launch} {e : Env} {s : State} {mt : MethodId} {args : Array Value} {below : List Frame} {meth : Method} {c : Code} {Q : State → Prop} {G : Gl} {A : Nat → Prop} {H0 : Heap} {ad : Int → Nat} {g : Shp} {H : Heap} {locs : List Loc} {ls : Array Slot} {m : Mem} {x0 x1 x2 x3 : Int} (C : CallFix p mt c cX8_readLine 4 s args tb RX8) (S : Wd G A s H0 ad g m H locs) (hx0 : gk g x0 = 9) (hx1 : gk g x1 = 8) (hx2 : gk g x2 = 6) (hx3 : r32 x3) (hl : lv_has ls 4 [(0, .ref (ad x0)), (1, .ref (ad x1)), (2, .ref (ad x2)), (3, .int (iI x3))]) {c1 : Int} {s1 : (Int × Mem)} (hF : bX8_readLine_120 g x0 x1 x2 x3 m = some (c1, s1)) (K0 : c1 = 0 → ∀ (H : Heap) (locs : List Loc) (ls : Array Slot), r32 s1.1 → Wd G A s H0 ad g s1.2 H locs → lv_has ls 4 [(0, .ref (ad x0)), (1, .ref (ad x1)), (2, .ref (ad x2)), (3, .int (iI s1.1))] → W p l e rX8_readLine s mt args below meth c H locs 0 0 Q (F0 mt 58 ls [])) (K1 : c1 = 1 → ∀ (H : Heap) (locs : List Loc) (ls : Array Slot), Wd G A s H0 ad g s1.2 H locs → lv_has ls 4 [] → W p l e rX8_readLine s mt args below meth c H locs 0 0 Q (F0 mt 81 ls [])) (K2 : c1 = 2 → ∀ (H : Heap) (locs : List Loc) (ls : Array Slot), Wd G A s H0 ad g s1.2 H locs → lv_has ls 4 [(1, .ref (ad x1))] → W p l e rX8_readLine s mt args below meth c H locs 0 0 Q (F0 mt 108 ls [])) (K3 : c1 = 3 → ∀ (H : Heap) (locs : List Loc) (ls : Array Slot), Wd G A s H0 ad g s1.2 H locs → lv_has ls 4 [] → W p l e rX8_readLine s mt args below meth c H locs 0 0 Q (F0 mt 126 ls [])) : W p l e rX8_readLine s mt args below meth c H locs 0 0 Q (F0 mt 120 ls []) := by
  unfold bX8_readLine_120 at hF
  obtain ⟨y1, ey1, hF⟩ := vv_ok hF
  have ry1 : r32 y1 := ey1 ▸ r32_w _
  refine q_iinc C hl 3 [(3, .int (iI y1)), (0, .ref (ad x0)), (1, .ref (ad x1)), (2, .ref (ad x2))] rfl ey1 (by decide) rfl dX8_readLine_120 (fun ls hl => ?_)
  refine q_goto C 58 dX8_readLine_123 (by decide) ?_
  cases hF
  exact K0 rfl _ _ _ ry1 S (lv_sub hl [1, 2, 3, 0] rfl)
set_option maxRecDepth 20000 in
theorem wX8_readLine_58 {p : Program} {l : Launch} {e : Env} {s : State} {mt : MethodId} {args : Array Value} {below : List Frame} {meth : Method} {c : Code} {Q : State → Prop} {G : Gl} {A : Nat → Prop} {H0 : Heap} {ad : Int → Nat} {g : Shp} {H : Heap} {locs : List Loc} {ls : Array Slot} {m : Mem} {x0 x1 x2 x3 : Int} (C : CallFix p mt c cX8_readLine 4 s args tb RX8) (S : Wd G A s H0 ad g m H locs) (hx0 : gk g x0 = 9) (hx1 : gk g x1 = 8) (hx2 : gk g x2 = 6) (hx3 : r32 x3) (hl : lv_has ls 4 [(0, .ref (ad x0)), (1, .ref (ad x1)), (2, .ref (ad x2)), (3, .int (iI x3))]) {c1 : Int} {s1 : (Int × Mem)} (hF : bX8_readLine_58 g x0 x1 x2 x3 m = some (c1, s1)) (K0 : c1 = 0 → ∀ (H : Heap) (locs : List Loc) (ls : Array Slot), r32 s1.1 → Wd G A s H0 ad g s1.2 H locs → lv_has ls 4 [(0, .ref (ad x0)), (1, .ref (ad x1)), (2, .ref (ad x2)), (3, .int (iI s1.1))] → W p l e rX8_readLine s mt args below meth c H locs 0 0 Q (F0 mt 58 ls [])) (K1 : c1 = 1 → ∀ (H : Heap) (locs : List Loc) (ls : Array Slot), Wd G A s H0 ad g s1.2 H locs → lv_has ls 4 [] → W p l e rX8_readLine s mt args below meth c H locs 0 0 Q (F0 mt 81 ls [])) (K2 : c1 = 2 → ∀ (H : Heap) (locs : List Loc) (ls : Array Slot), Wd G A s H0 ad g s1.2 H locs → lv_has ls 4 [(1, .ref (ad x1))] → W p l e rX8_readLine s mt args below meth c H locs 0 0 Q (F0 mt 108 ls [])) (K3 : c1 = 3 → ∀ (H : Heap) (locs : List Loc) (ls : Array Slot), Wd G A s H0 ad g s1.2 H locs → lv_has ls 4 [] → W p l e rX8_readLine s mt args below meth c H locs 0 0 Q (F0 mt 126 ls [])) : W p l e rX8_readLine s mt args below meth c H locs 0 0 Q (F0 mt 58 ls []) := by
  unfold bX8_readLine_58 at hF
  refine q_iload_n C hl 3 rfl rfl dX8_readLine_58 ?_
  refine q_iconst C 5 dX8_readLine_59 ?_
  refine q_icmp_ge C hx3 (rl 5 rfl) 126 dX8_readLine_60 (by decide) (fun hc1 => ?_) (fun hc1 => ?_)
  · have hF := if_t hc1 hF
    cases hF
    exact K3 rfl _ _ _  S (lv_sub hl [] rfl)
  · have hF := if_f hc1 hF
    refine q_aload_n C hl 0 rfl rfl dX8_readLine_63 ?_
    refine q_aload_n C hl 2 rfl rfl dX8_readLine_64 ?_
    refine q_aload_n C hl 1 rfl rfl dX8_readLine_65 ?_
    obtain ⟨k2, hF⟩ := ck_ok hF
    refine q_getr C S 3 fo_RX8_87 (j := 3) rfl rfl hx1 k2 (by decide) dX8_readLine_66 ?_
    refine q_iconst C 1 dX8_readLine_69 ?_
    refine q_aload_n C hl 1 rfl rfl dX8_readLine_70 ?_
    refine q_geti C S 5 fo_RX8_74 (j := 5) rfl rfl hx1 dX8_readLine_71 ?_
    refine q_ishl C dX8_readLine_74 ?_
    obtain ⟨v3, m4, h5, hF⟩ := bd2_ok hF
    refine q_ci S (run_V (As := [.ref (ad x2), .ref (ad (m x1 3)), .int (iI (bShl 1 (m x1 5)))]) (rest := []) C S (cX8_readRun_ok l G hx0 hx2 k2 (r32_of _) h5 ad _) hx0 ⟨by decide, _, _, rfl⟩ gd_RX8_90 hdV_X8_readRun rfl ⟨rfl, rfl, by decide, by decide⟩ ⟨Nat.zero_le _, Nat.zero_le _⟩ hl.1 rfl (Nat.le_of_ble_eq_true rfl) dX8_readLine_75) (fun H locs Sm4 h6 => ?_)
    refine q_if_ne C h6.1 83 dX8_readLine_78 (by decide) (fun hc7 => ?_) (fun hc7 => ?_)
    · have hF := if_t hc7 hF
      cases hF
      exact K1 rfl _ _ _  Sm4 (lv_sub hl [] rfl)
    · have hF := if_f hc7 hF
      refine q_aload_n C hl 0 rfl rfl dX8_readLine_83 ?_
      refine q_geti C Sm4 2 fo_RX8_28 (j := 2) rfl rfl hx0 dX8_readLine_84 ?_
      refine q_aload_n C hl 0 rfl rfl dX8_readLine_87 ?_
      refine q_geti C Sm4 3 fo_RX8_19 (j := 3) rfl rfl hx0 dX8_readLine_88 ?_
      refine q_icmp_ge C (Sm4.r _ _) (Sm4.r _ _) 120 dX8_readLine_91 (by decide) (fun hc8 => ?_) (fun hc8 => ?_)
      · have hF := if_t hc8 hF
        exact wX8_readLine_120 C Sm4 hx0 hx1 hx2 hx3 (lv_sub hl [0, 1, 2, 3] rfl) hF K0 K1 K2 K3
      · have hF := if_f hc8 hF
        refine q_aload_n C hl 0 rfl rfl dX8_readLine_94 ?_
        obtain ⟨k9, hF⟩ := ck_ok hF
        refine q_getr C Sm4 0 fo_RX8_9 (j := 0) rfl rfl hx0 k9 (by decide) dX8_readLine_95 ?_
        refine q_aload_n C hl 0 rfl rfl dX8_readLine_98 ?_
        refine q_geti C Sm4 2 fo_RX8_28 (j := 2) rfl rfl hx0 dX8_readLine_99 ?_
        obtain ⟨i10, hF⟩ := ck_ok hF
        refine q_cald C Sm4 k9 i10 dX8_readLine_102 ?_
        refine q_bipush C 59 (by decide) dX8_readLine_103 ?_
        refine q_icmp_ne C (Sm4.r _ _) (rl 59 rfl) 120 dX8_readLine_105 (by decide) (fun hc11 => ?_) (fun hc11 => ?_)
        · have hF := if_t hc11 hF
          cases hF
          exact K2 rfl _ _ _  Sm4 (lv_sub hl [1] rfl)
        · have hF := if_f hc11 hF
          exact wX8_readLine_120 C Sm4 hx0 hx1 hx2 hx3 (lv_sub hl [0, 1, 2, 3] rfl) hF K0 K1 K2 K3
set_option maxRecDepth 20000 in
theorem lX8_readLine_58 {p : Program} {l : Launch} {e : Env} {s : State} {mt : MethodId} {args : Array Value} {below : List Frame} {meth : Method} {c : Code} {Q : State → Prop} {G : Gl} {A : Nat → Prop} {H0 : Heap} {ad : Int → Nat} {g : Shp} {x0 x1 x2 : Int} (C : CallFix p mt c cX8_readLine 4 s args tb RX8) (hx0 : gk g x0 = 9) (hx1 : gk g x1 = 8) (hx2 : gk g x2 = 6) {n : Nat} {s0 s1 : (Int × Mem)} {c1 : Int} (hI : iter (BX8_readLine_58 g x0 x1 x2) n s0 = some (c1, s1)) (K1 : c1 = 1 → ∀ (H : Heap) (locs : List Loc) (ls : Array Slot), Wd G A s H0 ad g s1.2 H locs → lv_has ls 4 [] → W p l e rX8_readLine s mt args below meth c H locs 0 0 Q (F0 mt 81 ls [])) (K2 : c1 = 2 → ∀ (H : Heap) (locs : List Loc) (ls : Array Slot), Wd G A s H0 ad g s1.2 H locs → lv_has ls 4 [(1, .ref (ad x1))] → W p l e rX8_readLine s mt args below meth c H locs 0 0 Q (F0 mt 108 ls [])) (K3 : c1 = 3 → ∀ (H : Heap) (locs : List Loc) (ls : Array Slot), Wd G A s H0 ad g s1.2 H locs → lv_has ls 4 [] → W p l e rX8_readLine s mt args below meth c H locs 0 0 Q (F0 mt 126 ls [])) : ∀ (H : Heap) (locs : List Loc) (ls : Array Slot), r32 s0.1 → Wd G A s H0 ad g s0.2 H locs → lv_has ls 4 [(0, .ref (ad x0)), (1, .ref (ad x1)), (2, .ref (ad x2)), (3, .int (iI s0.1))] → W p l e rX8_readLine s mt args below meth c H locs 0 0 Q (F0 mt 58 ls []) :=
  iter_W (Pw := fun q => ∀ (H : Heap) (locs : List Loc) (ls : Array Slot), r32 q.1 → Wd G A s H0 ad g q.2 H locs → lv_has ls 4 [(0, .ref (ad x0)), (1, .ref (ad x1)), (2, .ref (ad x2)), (3, .int (iI q.1))] → W p l e rX8_readLine s mt args below meth c H locs 0 0 Q (F0 mt 58 ls [])) (Px := fun c0 q => (c0 = 1 → ∀ (H : Heap) (locs : List Loc) (ls : Array Slot), Wd G A s H0 ad g q.2 H locs → lv_has ls 4 [] → W p l e rX8_readLine s mt args below meth c H locs 0 0 Q (F0 mt 81 ls [])) ∧ (c0 = 2 → ∀ (H : Heap) (locs : List Loc) (ls : Array Slot), Wd G A s H0 ad g q.2 H locs → lv_has ls 4 [(1, .ref (ad x1))] → W p l e rX8_readLine s mt args below meth c H locs 0 0 Q (F0 mt 108 ls [])) ∧ (c0 = 3 → ∀ (H : Heap) (locs : List Loc) (ls : Array Slot), Wd G A s H0 ad g q.2 H locs → lv_has ls 4 [] → W p l e rX8_readLine s mt args below meth c H locs 0 0 Q (F0 mt 126 ls [])))
    (fun s c s' hB K0 kx H locs ls f0 S hl => wX8_readLine_58 C S hx0 hx1 hx2 f0 hl hB K0 (fun h9 => (kx (by rw [h9]; decide)).1 h9) (fun h9 => (kx (by rw [h9]; decide)).2.1 h9) (fun h9 => (kx (by rw [h9]; decide)).2.2 h9)) _ _ _ _ hI ⟨K1, K2, K3⟩
set_option maxRecDepth 20000 in
theorem wX8_readLine_28 {p : Program} {l : Launch} {e : Env} {s : State} {mt : MethodId} {args : Array Value} {below : List Frame} {meth : Method} {c : Code} {Q : State → Prop} {G : Gl} {A : Nat → Prop} {H0 : Heap} {ad : Int → Nat} {g : Shp} {H : Heap} {locs : List Loc} {ls : Array Slot} {m : Mem} (C : CallFix p mt c cX8_readLine 4 s args tb RX8) (S : Wd G A s H0 ad g m H locs)  (hl : lv_has ls 4 []) {r : Int} {m' : Mem} (hF : bX8_readLine_28 g m = some (r, m')) (Kr : ∀ (H : Heap) (locs : List Loc) (pc : Nat) (ls : Array Slot), Wd G A s H0 ad g m' H locs → decode cX8_readLine pc = .ok (.ireturn, 1) → r32 r ∧ (true = true → r = 0 ∨ r = 1) → narrow .boolean (.int (iI r)) = .int (iI r) → W p l e rX8_readLine s mt args below meth c H locs 0 0 Q (F0 mt pc ls [.int (iI r)])) : W p l e rX8_readLine s mt args below meth c H locs 0 0 Q (F0 mt 28 ls []) := by
  unfold bX8_readLine_28 at hF
  refine q_iconst C 0 dX8_readLine_28 ?_
  cases hF
  exact Kr _ _ _ _ S dX8_readLine_29 ⟨r_b b_0, fun _ => b_0⟩ (nr_b b_0)
set_option maxRecDepth 20000 in
theorem wX8_readLine_81 {p : Program} {l : Launch} {e : Env} {s : State} {mt : MethodId} {args : Array Value} {below : List Frame} {meth : Method} {c : Code} {Q : State → Prop} {G : Gl} {A : Nat → Prop} {H0 : Heap} {ad : Int → Nat} {g : Shp} {H : Heap} {locs : List Loc} {ls : Array Slot} {m : Mem} (C : CallFix p mt c cX8_readLine 4 s args tb RX8) (S : Wd G A s H0 ad g m H locs)  (hl : lv_has ls 4 []) {r : Int} {m' : Mem} (hF : bX8_readLine_81 g m = some (r, m')) (Kr : ∀ (H : Heap) (locs : List Loc) (pc : Nat) (ls : Array Slot), Wd G A s H0 ad g m' H locs → decode cX8_readLine pc = .ok (.ireturn, 1) → r32 r ∧ (true = true → r = 0 ∨ r = 1) → narrow .boolean (.int (iI r)) = .int (iI r) → W p l e rX8_readLine s mt args below meth c H locs 0 0 Q (F0 mt pc ls [.int (iI r)])) : W p l e rX8_readLine s mt args below meth c H locs 0 0 Q (F0 mt 81 ls []) := by
  unfold bX8_readLine_81 at hF
  refine q_iconst C 0 dX8_readLine_81 ?_
  cases hF
  exact Kr _ _ _ _ S dX8_readLine_82 ⟨r_b b_0, fun _ => b_0⟩ (nr_b b_0)
set_option maxRecDepth 20000 in
theorem wX8_readLine_108 {p : Program} {l : Launch} {e : Env} {s : State} {mt : MethodId} {args : Array Value} {below : List Frame} {meth : Method} {c : Code} {Q : State → Prop} {G : Gl} {A : Nat → Prop} {H0 : Heap} {ad : Int → Nat} {g : Shp} {H : Heap} {locs : List Loc} {ls : Array Slot} {m : Mem} {x1 : Int} (C : CallFix p mt c cX8_readLine 4 s args tb RX8) (S : Wd G A s H0 ad g m H locs) (hx1 : gk g x1 = 8) (hl : lv_has ls 4 [(1, .ref (ad x1))]) {r : Int} {m' : Mem} (hF : bX8_readLine_108 g x1 m = some (r, m')) (Kr : ∀ (H : Heap) (locs : List Loc) (pc : Nat) (ls : Array Slot), Wd G A s H0 ad g m' H locs → decode cX8_readLine pc = .ok (.ireturn, 1) → r32 r ∧ (true = true → r = 0 ∨ r = 1) → narrow .boolean (.int (iI r)) = .int (iI r) → W p l e rX8_readLine s mt args below meth c H locs 0 0 Q (F0 mt pc ls [.int (iI r)])) : W p l e rX8_readLine s mt args below meth c H locs 0 0 Q (F0 mt 108 ls []) := by
  unfold bX8_readLine_108 at hF
  refine q_aload_n C hl 0 rfl rfl dX8_readLine_108 ?_
  refine q_dup C rfl dX8_readLine_109 ?_
  refine q_geti C S 5 fo_RX8_74 (j := 5) rfl rfl hx1 dX8_readLine_110 ?_
  refine q_iconst C 1 dX8_readLine_113 ?_
  refine q_iadd C dX8_readLine_114 ?_
  obtain ⟨m1, em1, hF⟩ := vm_ok hF
  refine q_put C S 5 fo_RX8_74 fp_8_5 (fun h9 => absurd h9 (by decide)) (j := 5) rfl hx1 rfl rfl rfl (r32_w _) (fun h9 => absurd h9 (by decide)) em1 dX8_readLine_115 (fun H locs Sm1 => ?_)
  refine q_iconst C 1 dX8_readLine_118 ?_
  cases hF
  exact Kr _ _ _ _ Sm1 dX8_readLine_119 ⟨r_b b_1, fun _ => b_1⟩ (nr_b b_1)
set_option maxRecDepth 20000 in
theorem wX8_readLine_126 {p : Program} {l : Launch} {e : Env} {s : State} {mt : MethodId} {args : Array Value} {below : List Frame} {meth : Method} {c : Code} {Q : State → Prop} {G : Gl} {A : Nat → Prop} {H0 : Heap} {ad : Int → Nat} {g : Shp} {H : Heap} {locs : List Loc} {ls : Array Slot} {m : Mem} (C : CallFix p mt c cX8_readLine 4 s args tb RX8) (S : Wd G A s H0 ad g m H locs)  (hl : lv_has ls 4 []) {r : Int} {m' : Mem} (hF : bX8_readLine_126 g m = some (r, m')) (Kr : ∀ (H : Heap) (locs : List Loc) (pc : Nat) (ls : Array Slot), Wd G A s H0 ad g m' H locs → decode cX8_readLine pc = .ok (.ireturn, 1) → r32 r ∧ (true = true → r = 0 ∨ r = 1) → narrow .boolean (.int (iI r)) = .int (iI r) → W p l e rX8_readLine s mt args below meth c H locs 0 0 Q (F0 mt pc ls [.int (iI r)])) : W p l e rX8_readLine s mt args below meth c H locs 0 0 Q (F0 mt 126 ls []) := by
  unfold bX8_readLine_126 at hF
  refine q_iconst C 0 dX8_readLine_126 ?_
  cases hF
  exact Kr _ _ _ _ S dX8_readLine_127 ⟨r_b b_0, fun _ => b_0⟩ (nr_b b_0)
set_option maxRecDepth 20000 in
theorem wX8_readLine_0 {p : Program} {l : Launch} {e : Env} {s : State} {mt : MethodId} {args : Array Value} {below : List Frame} {meth : Method} {c : Code} {Q : State → Prop} {G : Gl} {A : Nat → Prop} {H0 : Heap} {ad : Int → Nat} {g : Shp} {H : Heap} {locs : List Loc} {ls : Array Slot} {m : Mem} {x0 x1 : Int} (C : CallFix p mt c cX8_readLine 4 s args tb RX8) (S : Wd G A s H0 ad g m H locs) (hx0 : gk g x0 = 9) (hx1 : gk g x1 = 8) (hl : lv_has ls 4 [(0, .ref (ad x0)), (1, .ref (ad x1))]) {r : Int} {m' : Mem} (hF : bX8_readLine_0 g x0 x1 m = some (r, m')) (Kr : ∀ (H : Heap) (locs : List Loc) (pc : Nat) (ls : Array Slot), Wd G A s H0 ad g m' H locs → decode cX8_readLine pc = .ok (.ireturn, 1) → r32 r ∧ (true = true → r = 0 ∨ r = 1) → narrow .boolean (.int (iI r)) = .int (iI r) → W p l e rX8_readLine s mt args below meth c H locs 0 0 Q (F0 mt pc ls [.int (iI r)])) : W p l e rX8_readLine s mt args below meth c H locs 0 0 Q (F0 mt 0 ls []) := by
  unfold bX8_readLine_0 at hF
  refine q_aload_n C hl 1 rfl rfl dX8_readLine_0 ?_
  refine q_geti C S 5 fo_RX8_74 (j := 5) rfl rfl hx1 dX8_readLine_1 ?_
  refine q_iconst C 3 dX8_readLine_4 ?_
  refine q_icmp_ge C (S.r _ _) (rl 3 rfl) 28 dX8_readLine_5 (by decide) (fun hc1 => ?_) (fun hc1 => ?_)
  · have hF := if_t hc1 hF
    exact wX8_readLine_28 C S  (lv_sub hl [] rfl) hF Kr
  · have hF := if_f hc1 hF
    refine q_aload_n C hl 0 rfl rfl dX8_readLine_8 ?_
    refine q_iconst C 2 dX8_readLine_9 ?_
    refine q_iconst C 0 dX8_readLine_10 ?_
    refine q_bipush C 19 (by decide) dX8_readLine_11 ?_
    obtain ⟨v2, m3, h4, hF⟩ := bd2_ok hF
    refine q_ci S (run_V (As := [.int (iI 2), .int (iI 0), .int (iI 19)]) (rest := []) C S (cX8_readNumbers_ok l G hx0 (rl 2 rfl) (rl 0 rfl) (rl 19 rfl) h4 ad _) hx0 ⟨by decide, _, _, rfl⟩ gd_RX8_51 hdV_X8_readNumbers rfl ⟨rfl, rfl, by decide, by decide⟩ ⟨Nat.zero_le _, Nat.zero_le _⟩ hl.1 rfl (Nat.le_of_ble_eq_true rfl) dX8_readLine_13) (fun H locs Sm3 h5 => ?_)
    refine q_if_eq C h5.1 28 dX8_readLine_16 (by decide) (fun hc6 => ?_) (fun hc6 => ?_)
    · have hF := if_t hc6 hF
      exact wX8_readLine_28 C Sm3  (lv_sub hl [] rfl) hF Kr
    · have hF := if_f hc6 hF
      refine q_aload_n C hl 0 rfl rfl dX8_readLine_19 ?_
      refine q_bipush C 44 (by decide) dX8_readLine_20 ?_
      obtain ⟨v7, m8, h9, hF⟩ := bd2_ok hF
      refine q_ci Sm3 (run_V (As := [.int (iI 44)]) (rest := []) C Sm3 (cX8_take_ok l G hx0 (rl 44 rfl) h9 ad _) hx0 ⟨by decide, _, _, rfl⟩ gd_RX8_35 hdV_X8_take rfl ⟨rfl, rfl, by decide, by decide⟩ ⟨Nat.zero_le _, Nat.zero_le _⟩ hl.1 rfl (Nat.le_of_ble_eq_true rfl) dX8_readLine_22) (fun H locs Sm8 h10 => ?_)
      refine q_if_ne C h10.1 30 dX8_readLine_25 (by decide) (fun hc11 => ?_) (fun hc11 => ?_)
      · have hF := if_t hc11 hF
        exact wX8_readLine_28 C Sm8  (lv_sub hl [] rfl) hF Kr
      · have hF := if_f hc11 hF
        refine q_aload_n C hl 1 rfl rfl dX8_readLine_30 ?_
        obtain ⟨k12, hF⟩ := ck_ok hF
        refine q_getr C Sm8 2 fo_RX8_77 (j := 2) rfl rfl hx1 k12 (by decide) dX8_readLine_31 ?_
        refine q_aload_n C hl 1 rfl rfl dX8_readLine_34 ?_
        refine q_geti C Sm8 5 fo_RX8_74 (j := 5) rfl rfl hx1 dX8_readLine_35 ?_
        obtain ⟨i13, hF⟩ := ck_ok hF
        obtain ⟨k14, hF⟩ := ck_ok hF
        refine q_aald C Sm8 k12 (by decide) i13 k14 (by decide) dX8_readLine_38 ?_
        obtain ⟨y15, ey15, hF⟩ := vv_ok hF
        have ky15 : gk g y15 = 6 := ey15 ▸ k14
        refine q_astore_n C hl [(2, .ref (ad y15)), (0, .ref (ad x0)), (1, .ref (ad x1))] ey15 rfl (by decide) rfl dX8_readLine_39 (fun ls hl => ?_)
        refine q_aload_n C hl 0 rfl rfl dX8_readLine_40 ?_
        refine q_aload_n C hl 1 rfl rfl dX8_readLine_41 ?_
        obtain ⟨k16, hF⟩ := ck_ok hF
        refine q_getr C Sm8 1 fo_RX8_15 (j := 1) rfl rfl hx0 k16 (by decide) dX8_readLine_42 ?_
        refine q_iconst C 0 dX8_readLine_45 ?_
        obtain ⟨i17, hF⟩ := ck_ok hF
        refine q_iald C Sm8 k16 i17 dX8_readLine_46 ?_
        refine q_aload_n C hl 1 rfl rfl dX8_readLine_47 ?_
        refine q_getr C Sm8 1 fo_RX8_15 (j := 1) rfl rfl hx0 k16 (by decide) dX8_readLine_48 ?_
        refine q_iconst C 1 dX8_readLine_51 ?_
        obtain ⟨i18, hF⟩ := ck_ok hF
        refine q_iald C Sm8 k16 i18 dX8_readLine_52 ?_
        obtain ⟨v19, m20, h21, hF⟩ := bd2_ok hF
        refine q_cv Sm8 (run_V (As := [.int (iI (m8 (m8 x0 1) 0)), .int (iI (m8 (m8 x0 1) 1))]) (rest := []) C Sm8 (cX5_begin_ok l G ky15 (Sm8.r _ _) (Sm8.r _ _) h21 ad _) ky15 ⟨by decide, _, _, rfl⟩ gd_RX8_81 hdV_X5_begin rfl ⟨rfl, rfl, by decide, by decide⟩ ⟨Nat.zero_le _, Nat.zero_le _⟩ hl.1 rfl (Nat.le_of_ble_eq_true rfl) dX8_readLine_53) (fun H locs Sm20 => ?_)
        refine q_iconst C 0 dX8_readLine_56 ?_
        refine q_istore_n C hl [(3, .int (iI 0)), (2, .ref (ad y15)), (0, .ref (ad x0)), (1, .ref (ad x1))] rfl rfl (by decide) rfl dX8_readLine_57 (fun ls hl => ?_)
        obtain ⟨cv22, sv23, hi24, hF⟩ := bdl_ok hF
        refine lX8_readLine_58 C hx0 hx1 ky15 hi24 ?_ ?_ ?_ _ _ _ (rl 0 rfl) Sm20 (lv_sub hl [2, 3, 1, 0] rfl)
        · intro hc25 H locs ls  S26 hl
          have hF := if_t hc25 hF
          exact wX8_readLine_81 C S26  (lv_sub hl [] rfl) hF Kr
        · intro hc27 H locs ls  S28 hl
          have hF := if_f (by rw [hc27]; decide) hF
          have hF := if_t hc27 hF
          exact wX8_readLine_108 C S28 hx1 (lv_sub hl [0] rfl) hF Kr
        · intro hc29 H locs ls  S30 hl
          have hF := if_f (by rw [hc29]; decide) hF
          have hF := if_f (by rw [hc29]; decide) hF
          exact wX8_readLine_126 C S30  (lv_sub hl [] rfl) hF Kr
theorem cX8_readLine_ok (l : Launch) (G : Gl) {g : Shp} {x0 x1 : Int} {m m' : Mem} {r : Int} (hx0 : gk g x0 = 9) (hx1 : gk g x1 = 8) (hF : fX8_readLine g x0 x1 m = some (r, m')) : mI l yX8_readLine (wT yX8_readLine cX8_readLine 4 (some .boolean)) rX8_readLine G true (fun ad => [.ref (ad x0), .ref (ad x1)]) g m r m' :=
  met_i (by decide) (fun ad => Nat.le_of_ble_eq_true rfl) (fun p e s mt args below meth c Q A H0 H locs ad ls C hnm S hl Kr => wX8_readLine_0 C S hx0 hx1 hl hF Kr)
