def bX11_in_15 (g : Shp) (z0 : Int) (m : Mem) : Option (Int × Mem) :=
  ck (z0 = 0 ∨ z0 = 1) <|
  some (z0, m)
def bX11_in_14 (g : Shp) (m : Mem) : Option (Int × Mem) :=
  bX11_in_15 g 0 m
def bX11_in_0 (g : Shp) (x0 x1 x2 : Int) (m : Mem) : Option (Int × Mem) :=
  if x0 < x1 then
    bX11_in_14 g m
  else
    if x2 < x0 then
      bX11_in_14 g m
    else
      bX11_in_15 g 1 m
def fX11_in (g : Shp) (x0 x1 x2 : Int) (m : Mem) : Option (Int × Mem) := bX11_in_0 g x0 x1 x2 m
def bX11_isLine_0 (g : Shp) (x0 x1 : Int) (m : Mem) : Option (Int × Mem) :=
  bd2 (fX11_in g x1 0 (w32 ((m x0 20) - 1)) m) fun v1 m2 =>
  some (v1, m2)
def fX11_isLine (g : Shp) (x0 x1 : Int) (m : Mem) : Option (Int × Mem) := bX11_isLine_0 g x0 x1 m
def bX11_isColour_0 (g : Shp) (x0 : Int) (m : Mem) : Option (Int × Mem) :=
  bd2 (fX11_in g x0 0 2 m) fun v1 m2 =>
  some (v1, m2)
def fX11_isColour (g : Shp) (x0 : Int) (m : Mem) : Option (Int × Mem) := bX11_isColour_0 g x0 m
def bX11_isCovered_19 (g : Shp) (z0 : Int) (m : Mem) : Option (Int × Mem) :=
  ck (z0 = 0 ∨ z0 = 1) <|
  some (z0, m)
def bX11_isCovered_0 (g : Shp) (x0 x1 : Int) (m : Mem) : Option (Int × Mem) :=
  ck (gk g (m x0 0) = 20) <|
  ck ((0 : Int) ≤ (w32 (10 + x1)) ∧ (w32 (10 + x1)) < gl g (m x0 0)) <|
  if (m (m x0 0) (w32 (10 + x1))) = ((-4)) then
    bX11_isCovered_19 g 0 m
  else
    bX11_isCovered_19 g 1 m
def fX11_isCovered (g : Shp) (x0 x1 : Int) (m : Mem) : Option (Int × Mem) := bX11_isCovered_0 g x0 x1 m
def bX11_begin_28 (g : Shp) (x0 x1 : Int) (m : Mem) : Option (Int × (Int × Mem)) :=
  if 9 ≤ x1 then
    some (1, (x1, m))
  else
    ck (gk g (m x0 9) = 20) <|
    ck ((0 : Int) ≤ x1 ∧ x1 < gl g (m x0 9)) <|
    vm (ms m (m x0 9) x1 6) fun m4 =>
    vv (w32 (x1 + 1)) fun y5 =>
    some (0, (y5, m4))
def BX11_begin_28 (g : Shp) (x0 : Int) (q : (Int × Mem)) : Option (Int × (Int × Mem)) := bX11_begin_28 g x0 q.1 q.2
def bX11_begin_48 (g : Shp) (x0 : Int) (m : Mem) : Option (Int × Mem) :=
  vm (ms m x0 10 0) fun m1 =>
  some (0, m1)
def bX11_begin_0 (g : Shp) (x0 : Int) (m : Mem) : Option (Int × Mem) :=
  ck (gk g (m x0 7) = 20) <|
  ck ((0 : Int) ≤ 0 ∧ 0 < gl g (m x0 7)) <|
  vm (ms m (m x0 7) 0 2) fun m3 =>
  ck (gk g (m3 x0 7) = 20) <|
  ck ((0 : Int) ≤ 1 ∧ 1 < gl g (m3 x0 7)) <|
  vm (ms m3 (m3 x0 7) 1 3) fun m6 =>
  ck (gk g (m6 x0 7) = 20) <|
  ck ((0 : Int) ≤ 2 ∧ 2 < gl g (m6 x0 7)) <|
  vm (ms m6 (m6 x0 7) 2 5) fun m9 =>
  vm (ms m9 x0 8 0) fun m10 =>
  bdl (iter (BX11_begin_28 g x0) 100000 (0, m10)) fun cv11 sv12 =>
  bX11_begin_48 g x0 sv12.2
def fX11_begin (g : Shp) (x0 : Int) (m : Mem) : Option (Int × Mem) := bX11_begin_0 g x0 m
def bX11_beginLine_0 (g : Shp) (x0 x1 x2 : Int) (m : Mem) : Option (Int × Mem) :=
  ck (gk g (m x0 11) = 20) <|
  ck ((0 : Int) ≤ (m x0 10) ∧ (m x0 10) < gl g (m x0 11)) <|
  vm (ms m (m x0 11) (m x0 10) 0) fun m3 =>
  ck (gk g (m3 x0 13) = 20) <|
  ck ((0 : Int) ≤ (m3 x0 10) ∧ (m3 x0 10) < gl g (m3 x0 13)) <|
  vm (ms m3 (m3 x0 13) (m3 x0 10) 0) fun m6 =>
  vm (ms m6 x0 15 x1) fun m7 =>
  vm (ms m7 x0 16 x2) fun m8 =>
  vm (ms m8 x0 17 1) fun m9 =>
  some (0, m9)
def fX11_beginLine (g : Shp) (x0 x1 x2 : Int) (m : Mem) : Option (Int × Mem) := bX11_beginLine_0 g x0 x1 x2 m
def bX11_addCell_89 (g : Shp) (x0 x1 x3 x4 z0 : Int) (m : Mem) : Option (Int × (Int × Int × Mem)) :=
  vv (w32 (x4 + 1)) fun y1 =>
  some (0, (z0, y1, m))
def bX11_addCell_88 (g : Shp) (x0 x1 x3 x4 : Int) (m : Mem) : Option (Int × (Int × Int × Mem)) :=
  bX11_addCell_89 g x0 x1 x3 x4 0 m
def bX11_addCell_53 (g : Shp) (x0 x1 x2 x3 x4 : Int) (m : Mem) : Option (Int × (Int × Int × Mem)) :=
  ck (gk g (m x0 13) = 20) <|
  ck ((0 : Int) ≤ x1 ∧ x1 < gl g (m x0 13)) <|
  if (m (m x0 13) x1) ≤ x4 then
    some (1, (x2, x4, m))
  else
    if x2 = 0 then
      bX11_addCell_88 g x0 x1 x3 x4 m
    else
      ck (gk g (m x0 14) = 20) <|
      ck ((0 : Int) ≤ (w32 ((w32 (60 * x1)) + x4)) ∧ (w32 ((w32 (60 * x1)) + x4)) < gl g (m x0 14)) <|
      if (m (m x0 14) (w32 ((w32 (60 * x1)) + x4))) = x3 then
        bX11_addCell_88 g x0 x1 x3 x4 m
      else
        bX11_addCell_89 g x0 x1 x3 x4 1 m
def BX11_addCell_53 (g : Shp) (x0 x1 x3 : Int) (q : (Int × Int × Mem)) : Option (Int × (Int × Int × Mem)) := bX11_addCell_53 g x0 x1 q.1 x3 q.2.1 q.2.2
def bX11_addCell_127 (g : Shp) (x2 : Int) (m : Mem) : Option (Int × Mem) :=
  ck (x2 = 0 ∨ x2 = 1) <|
  some (x2, m)
def bX11_addCell_96 (g : Shp) (x0 x1 x2 x3 : Int) (m : Mem) : Option (Int × Mem) :=
  if x2 = 0 then
    bX11_addCell_127 g x2 m
  else
    ck (gk g (m x0 14) = 20) <|
    ck (gk g (m x0 13) = 20) <|
    ck ((0 : Int) ≤ x1 ∧ x1 < gl g (m x0 13)) <|
    ck ((0 : Int) ≤ (w32 ((w32 (60 * x1)) + (m (m x0 13) x1))) ∧ (w32 ((w32 (60 * x1)) + (m (m x0 13) x1))) < gl g (m x0 14)) <|
    vm (ms m (m x0 14) (w32 ((w32 (60 * x1)) + (m (m x0 13) x1))) x3) fun m6 =>
    ck (gk g (m6 x0 13) = 20) <|
    ck ((0 : Int) ≤ x1 ∧ x1 < gl g (m6 x0 13)) <|
    ck ((0 : Int) ≤ x1 ∧ x1 < gl g (m6 x0 13)) <|
    vm (ms m6 (m6 x0 13) x1 (w32 ((m6 (m6 x0 13) x1) + 1))) fun m10 =>
    bX11_addCell_127 g x2 m10
def bX11_addCell_36 (g : Shp) (x0 x1 z0 : Int) (m : Mem) : Option (Int × Mem) :=
  vv (w32 ((w32 (20 * (m x0 16))) + (m x0 15))) fun y1 =>
  bdl (iter (BX11_addCell_53 g x0 x1 y1) 100000 (z0, 0, m)) fun cv2 sv3 =>
  bX11_addCell_96 g x0 x1 sv3.1 y1 sv3.2.2
def bX11_addCell_35 (g : Shp) (x0 x1 : Int) (m : Mem) : Option (Int × Mem) :=
  bX11_addCell_36 g x0 x1 0 m
def bX11_addCell_0 (g : Shp) (x0 : Int) (m : Mem) : Option (Int × Mem) :=
  vv (m x0 10) fun y1 =>
  bd2 (fX11_in g (m x0 15) 0 19 m) fun v2 m3 =>
  if v2 = 0 then
    bX11_addCell_35 g x0 y1 m3
  else
    bd2 (fX11_in g (m3 x0 16) 0 19 m3) fun v7 m8 =>
    if v7 = 0 then
      bX11_addCell_35 g x0 y1 m8
    else
      bX11_addCell_36 g x0 y1 1 m8
def fX11_addCell (g : Shp) (x0 : Int) (m : Mem) : Option (Int × Mem) := bX11_addCell_0 g x0 m
def bX11_goRun_186 (g : Shp) (x0 x1 x2 x3 x6 z0 z1 z2 : Int) (m : Mem) : Option (Int × (Int × Mem)) :=
  vm (ms m z0 16 (w32 (z1 + z2))) fun m1 =>
  vm (ms m1 x0 17 0) fun m2 =>
  bd2 (fX11_addCell g x0 m2) fun v3 m4 =>
  if v3 = 0 then
    some (1, (x6, m4))
  else
    vv (w32 (x6 + 1)) fun y8 =>
    some (0, (y8, m4))
def bX11_goRun_145 (g : Shp) (x0 x1 x2 x3 x6 z0 z1 z2 : Int) (m : Mem) : Option (Int × (Int × Mem)) :=
  vm (ms m z0 15 (w32 (z1 + z2))) fun m1 =>
  if (m1 x0 17) = 0 then
    if x1 = 100 then
      bX11_goRun_186 g x0 x1 x2 x3 x6 x0 (m1 x0 16) 1 m1
    else
      if x1 = 117 then
        bX11_goRun_186 g x0 x1 x2 x3 x6 x0 (m1 x0 16) ((-1)) m1
      else
        bX11_goRun_186 g x0 x1 x2 x3 x6 x0 (m1 x0 16) 0 m1
  else
    bX11_goRun_186 g x0 x1 x2 x3 x6 x0 (m1 x0 16) 0 m1
def bX11_goRun_102 (g : Shp) (x0 x1 x2 x3 x6 : Int) (m : Mem) : Option (Int × (Int × Mem)) :=
  if x2 ≤ x6 then
    some (2, (x6, m))
  else
    if (m x0 17) = 0 then
      if x1 = 114 then
        bX11_goRun_145 g x0 x1 x2 x3 x6 x0 (m x0 15) 1 m
      else
        if x1 = 108 then
          bX11_goRun_145 g x0 x1 x2 x3 x6 x0 (m x0 15) ((-1)) m
        else
          bX11_goRun_145 g x0 x1 x2 x3 x6 x0 (m x0 15) 0 m
    else
      bX11_goRun_145 g x0 x1 x2 x3 x6 x0 (m x0 15) 0 m
def BX11_goRun_102 (g : Shp) (x0 x1 x2 x3 : Int) (q : (Int × Mem)) : Option (Int × (Int × Mem)) := bX11_goRun_102 g x0 x1 x2 x3 q.1 q.2
def bX11_goRun_91 (g : Shp) (m : Mem) : Option (Int × Mem) :=
  some (0, m)
def bX11_goRun_202 (g : Shp) (m : Mem) : Option (Int × Mem) :=
  some (0, m)
def bX11_goRun_210 (g : Shp) (x0 x2 x3 : Int) (m : Mem) : Option (Int × Mem) :=
  ck (gk g (m x0 12) = 20) <|
  ck (gk g (m x0 11) = 20) <|
  ck ((0 : Int) ≤ x3 ∧ x3 < gl g (m x0 11)) <|
  ck ((0 : Int) ≤ (w32 ((w32 (5 * x3)) + (m (m x0 11) x3))) ∧ (w32 ((w32 (5 * x3)) + (m (m x0 11) x3))) < gl g (m x0 12)) <|
  vm (ms m (m x0 12) (w32 ((w32 (5 * x3)) + (m (m x0 11) x3))) x2) fun m5 =>
  ck (gk g (m5 x0 11) = 20) <|
  ck ((0 : Int) ≤ x3 ∧ x3 < gl g (m5 x0 11)) <|
  ck ((0 : Int) ≤ x3 ∧ x3 < gl g (m5 x0 11)) <|
  vm (ms m5 (m5 x0 11) x3 (w32 ((m5 (m5 x0 11) x3) + 1))) fun m9 =>
  some (1, m9)
def bX11_goRun_93 (g : Shp) (x0 x1 x2 x3 x4 : Int) (m : Mem) : Option (Int × Mem) :=
  ck (x4 = 0 ∨ x4 = 1) <|
  vm (ms m x0 18 x4) fun m2 =>
  bdl (iter (BX11_goRun_102 g x0 x1 x2 x3) 100000 (0, m2)) fun cv3 sv4 =>
  if cv3 = 1 then
    bX11_goRun_202 g sv4.2
  else
    bX11_goRun_210 g x0 x2 x3 sv4.2
def bX11_goRun_53 (g : Shp) (x0 x1 x2 x3 x4 : Int) (m : Mem) : Option (Int × Mem) :=
  bd2 (fX11_in g x2 1 12 m) fun v1 m2 =>
  if v1 = 0 then
    bX11_goRun_91 g m2
  else
    ck (gk g (m2 x0 11) = 20) <|
    ck ((0 : Int) ≤ x3 ∧ x3 < gl g (m2 x0 11)) <|
    if (m2 (m2 x0 11) x3) = 5 then
      bX11_goRun_91 g m2
    else
      ck ((0 : Int) ≤ x3 ∧ x3 < gl g (m2 x0 11)) <|
      if (m2 (m2 x0 11) x3) ≤ 0 then
        bX11_goRun_93 g x0 x1 x2 x3 x4 m2
      else
        if x4 = (m2 x0 18) then
          bX11_goRun_91 g m2
        else
          bX11_goRun_93 g x0 x1 x2 x3 x4 m2
def bX11_goRun_41 (g : Shp) (x0 x1 x2 x3 x4 z0 : Int) (m : Mem) : Option (Int × Mem) :=
  if x4 = 0 then
    if z0 = 0 then
      bX11_goRun_91 g m
    else
      bX11_goRun_53 g x0 x1 x2 x3 x4 m
  else
    bX11_goRun_53 g x0 x1 x2 x3 x4 m
def bX11_goRun_36 (g : Shp) (x0 x1 x2 x3 x4 : Int) (m : Mem) : Option (Int × Mem) :=
  bX11_goRun_41 g x0 x1 x2 x3 x4 1 m
def bX11_goRun_22 (g : Shp) (x0 x1 x2 x3 z0 : Int) (m : Mem) : Option (Int × Mem) :=
  if x1 = 100 then
    bX11_goRun_36 g x0 x1 x2 x3 z0 m
  else
    if x1 = 117 then
      bX11_goRun_36 g x0 x1 x2 x3 z0 m
    else
      bX11_goRun_41 g x0 x1 x2 x3 z0 0 m
def bX11_goRun_17 (g : Shp) (x0 x1 x2 x3 : Int) (m : Mem) : Option (Int × Mem) :=
  bX11_goRun_22 g x0 x1 x2 x3 1 m
def bX11_goRun_0 (g : Shp) (x0 x1 x2 : Int) (m : Mem) : Option (Int × Mem) :=
  vv (m x0 10) fun y1 =>
  if x1 = 114 then
    bX11_goRun_17 g x0 x1 x2 y1 m
  else
    if x1 = 108 then
      bX11_goRun_17 g x0 x1 x2 y1 m
    else
      bX11_goRun_22 g x0 x1 x2 y1 0 m
def fX11_goRun (g : Shp) (x0 x1 x2 : Int) (m : Mem) : Option (Int × Mem) := bX11_goRun_0 g x0 x1 x2 m
def bX11_takeSign_44 (g : Shp) (x2 z0 z1 z2 : Int) (m : Mem) : Option (Int × Mem) :=
  vm (ms m z0 6 (w32 (z1 + z2))) fun m1 =>
  ck (x2 = 0 ∨ x2 = 1) <|
  some (x2, m1)
def bX11_takeSign_29 (g : Shp) (x0 z0 : Int) (m : Mem) : Option (Int × Mem) :=
  if z0 = 0 then
    bX11_takeSign_44 g z0 x0 (m x0 6) 0 m
  else
    bX11_takeSign_44 g z0 x0 (m x0 6) 1 m
def bX11_takeSign_28 (g : Shp) (x0 : Int) (m : Mem) : Option (Int × Mem) :=
  bX11_takeSign_29 g x0 0 m
def bX11_takeSign_0 (g : Shp) (x0 x1 : Int) (m : Mem) : Option (Int × Mem) :=
  if (m x0 5) ≤ (m x0 6) then
    bX11_takeSign_28 g x0 m
  else
    ck (gk g (m x0 4) = 20) <|
    ck ((0 : Int) ≤ (m x0 6) ∧ (m x0 6) < gl g (m x0 4)) <|
    if (m (m x0 4) (m x0 6)) = x1 then
      bX11_takeSign_29 g x0 1 m
    else
      bX11_takeSign_28 g x0 m
def fX11_takeSign (g : Shp) (x0 x1 : Int) (m : Mem) : Option (Int × Mem) := bX11_takeSign_0 g x0 x1 m
def bX11_takeNumber_51 (g : Shp) (x0 x2 z0 z1 : Int) (m : Mem) : Option (Int × (Int × Int × Mem)) :=
  ck (gk g (m x0 4) = 20) <|
  ck ((0 : Int) ≤ (m x0 6) ∧ (m x0 6) < gl g (m x0 4)) <|
  vv (w32 ((w32 ((w32 (z0 * z1)) + (m (m x0 4) (m x0 6)))) - 48)) fun y3 =>
  vm (ms m x0 6 (w32 ((m x0 6) + 1))) fun m4 =>
  vv (w32 (x2 + 1)) fun y5 =>
  some (0, (y3, y5, m4))
def bX11_takeNumber_5 (g : Shp) (x0 x1 x2 : Int) (m : Mem) : Option (Int × (Int × Int × Mem)) :=
  if 2 ≤ x2 then
    some (1, (x1, x2, m))
  else
    if (m x0 5) ≤ (m x0 6) then
      some (1, (x1, x2, m))
    else
      ck (gk g (m x0 4) = 20) <|
      ck ((0 : Int) ≤ (m x0 6) ∧ (m x0 6) < gl g (m x0 4)) <|
      bd2 (fX11_in g (m (m x0 4) (m x0 6)) 48 57 m) fun v5 m6 =>
      if v5 = 0 then
        some (1, (x1, x2, m6))
      else
        if x2 = 0 then
          bX11_takeNumber_51 g x0 x2 10 0 m6
        else
          bX11_takeNumber_51 g x0 x2 10 x1 m6
def BX11_takeNumber_5 (g : Shp) (x0 : Int) (q : (Int × Int × Mem)) : Option (Int × (Int × Int × Mem)) := bX11_takeNumber_5 g x0 q.1 q.2.1 q.2.2
def bX11_takeNumber_82 (g : Shp) (x1 : Int) (m : Mem) : Option (Int × Mem) :=
  some (x1, m)
def bX11_takeNumber_0 (g : Shp) (x0 : Int) (m : Mem) : Option (Int × Mem) :=
  bdl (iter (BX11_takeNumber_5 g x0) 100000 ((-4), 0, m)) fun cv1 sv2 =>
  bX11_takeNumber_82 g sv2.1 sv2.2.2
def fX11_takeNumber (g : Shp) (x0 : Int) (m : Mem) : Option (Int × Mem) := bX11_takeNumber_0 g x0 m
def bX11_readSizes_72 (g : Shp) (m : Mem) : Option (Int × Mem) :=
  some (0, m)
def bX11_readSizes_0 (g : Shp) (x0 : Int) (m : Mem) : Option (Int × Mem) :=
  bd2 (fX11_takeNumber g x0 m) fun v1 m2 =>
  bd2 (fX11_takeSign g x0 44 m2) fun v5 m6 =>
  bd2 (fX11_takeNumber g x0 m6) fun v9 m10 =>
  bd2 (fX11_takeSign g x0 44 m10) fun v13 m14 =>
  bd2 (fX11_takeNumber g x0 m14) fun v17 m18 =>
  if v5 = 0 then
    bX11_readSizes_72 g m18
  else
    if v13 = 0 then
      bX11_readSizes_72 g m18
    else
      bd2 (fX11_takeSign g x0 59 m18) fun v23 m24 =>
      if v23 = 0 then
        bX11_readSizes_72 g m24
      else
        if v1 < 1 then
          bX11_readSizes_72 g m24
        else
          if v9 ≤ v1 then
            bX11_readSizes_72 g m24
          else
            if v17 ≤ v9 then
              bX11_readSizes_72 g m24
            else
              if v17 ≤ 9 then
                ck (gk g (m24 x0 7) = 20) <|
                ck ((0 : Int) ≤ 0 ∧ 0 < gl g (m24 x0 7)) <|
                vm (ms m24 (m24 x0 7) 0 v1) fun m34 =>
                ck (gk g (m34 x0 7) = 20) <|
                ck ((0 : Int) ≤ 1 ∧ 1 < gl g (m34 x0 7)) <|
                vm (ms m34 (m34 x0 7) 1 v9) fun m37 =>
                ck (gk g (m37 x0 7) = 20) <|
                ck ((0 : Int) ≤ 2 ∧ 2 < gl g (m37 x0 7)) <|
                vm (ms m37 (m37 x0 7) 2 v17) fun m40 =>
                some (1, m40)
              else
                bX11_readSizes_72 g m24
def fX11_readSizes (g : Shp) (x0 : Int) (m : Mem) : Option (Int × Mem) := bX11_readSizes_0 g x0 m
def bX11_readTheBag_73 (g : Shp) (x0 x1 x2 x3 : Int) (m : Mem) : Option (Int × (Int × Int × Mem)) :=
  vv (w32 (x3 + 1)) fun y1 =>
  some (0, (x2, y1, m))
def bX11_readTheBag_56 (g : Shp) (x0 x1 x3 x5 z0 : Int) (m : Mem) : Option (Int × (Int × Int × Mem)) :=
  if z0 = 0 then
    bX11_readTheBag_73 g x0 x1 z0 x3 m
  else
    ck (gk g (m x0 9) = 20) <|
    ck ((0 : Int) ≤ (w32 ((w32 (3 * x1)) + x3)) ∧ (w32 ((w32 (3 * x1)) + x3)) < gl g (m x0 9)) <|
    vm (ms m (m x0 9) (w32 ((w32 (3 * x1)) + x3)) x5) fun m4 =>
    bX11_readTheBag_73 g x0 x1 z0 x3 m4
def bX11_readTheBag_55 (g : Shp) (x0 x1 x3 x5 : Int) (m : Mem) : Option (Int × (Int × Int × Mem)) :=
  bX11_readTheBag_56 g x0 x1 x3 x5 0 m
def bX11_readTheBag_12 (g : Shp) (x0 x1 x2 x3 : Int) (m : Mem) : Option (Int × (Int × Int × Mem)) :=
  if 3 ≤ x3 then
    some (1, (x2, x3, m))
  else
    if x2 = 0 then
      some (1, (x2, x3, m))
    else
      bd2 (fX11_takeSign g x0 44 m) fun v3 m4 =>
      bd2 (fX11_takeNumber g x0 m4) fun v7 m8 =>
      if v3 = 0 then
        bX11_readTheBag_55 g x0 x1 x3 v7 m8
      else
        bd2 (fX11_in g v7 0 6 m8) fun v12 m13 =>
        if v12 = 0 then
          bX11_readTheBag_55 g x0 x1 x3 v7 m13
        else
          bX11_readTheBag_56 g x0 x1 x3 v7 1 m13
def BX11_readTheBag_12 (g : Shp) (x0 x1 : Int) (q : (Int × Int × Mem)) : Option (Int × (Int × Int × Mem)) := bX11_readTheBag_12 g x0 x1 q.1 q.2.1 q.2.2
def bX11_readTheBag_97 (g : Shp) (z0 : Int) (m : Mem) : Option (Int × Mem) :=
  ck (z0 = 0 ∨ z0 = 1) <|
  some (z0, m)
def bX11_readTheBag_96 (g : Shp) (m : Mem) : Option (Int × Mem) :=
  bX11_readTheBag_97 g 0 m
def bX11_readTheBag_79 (g : Shp) (x0 x2 : Int) (m : Mem) : Option (Int × Mem) :=
  if x2 = 0 then
    bX11_readTheBag_96 g m
  else
    bd2 (fX11_takeSign g x0 59 m) fun v2 m3 =>
    if v2 = 0 then
      bX11_readTheBag_96 g m3
    else
      bX11_readTheBag_97 g 1 m3
def bX11_readTheBag_0 (g : Shp) (x0 : Int) (m : Mem) : Option (Int × Mem) :=
  bd2 (fX11_takeNumber g x0 m) fun v1 m2 =>
  bd2 (fX11_isColour g v1 m2) fun v5 m6 =>
  bdl (iter (BX11_readTheBag_12 g x0 v1) 100000 (v5, 0, m6)) fun cv9 sv10 =>
  bX11_readTheBag_79 g x0 sv10.1 sv10.2.2
def fX11_readTheBag (g : Shp) (x0 : Int) (m : Mem) : Option (Int × Mem) := bX11_readTheBag_0 g x0 m
def bX11_readLine_102 (g : Shp) (x0 z0 : Int) (m : Mem) : Option (Int × (Int × Mem)) :=
  vm (ms m x0 6 (w32 ((m x0 6) + 1))) fun m1 =>
  bd2 (fX11_takeNumber g x0 m1) fun v2 m3 =>
  bd2 (fX11_goRun g x0 z0 v2 m3) fun v6 m7 =>
  if v6 = 0 then
    some (1, (0, m7))
  else
    bd2 (fX11_takeSign g x0 59 m7) fun v11 m12 =>
    some (0, (v11, m12))
def bX11_readLine_73 (g : Shp) (x0 x5 : Int) (m : Mem) : Option (Int × (Int × Mem)) :=
  if x5 = 0 then
    if (m x0 5) ≤ (m x0 6) then
      bX11_readLine_102 g x0 0 m
    else
      ck (gk g (m x0 4) = 20) <|
      ck ((0 : Int) ≤ (m x0 6) ∧ (m x0 6) < gl g (m x0 4)) <|
      bX11_readLine_102 g x0 (m (m x0 4) (m x0 6)) m
  else
    some (2, (x5, m))
def BX11_readLine_73 (g : Shp) (x0 : Int) (q : (Int × Mem)) : Option (Int × (Int × Mem)) := bX11_readLine_73 g x0 q.1 q.2
def bX11_readLine_62 (g : Shp) (m : Mem) : Option (Int × Mem) :=
  some (0, m)
def bX11_readLine_127 (g : Shp) (m : Mem) : Option (Int × Mem) :=
  some (0, m)
def bX11_readLine_140 (g : Shp) (x0 : Int) (m : Mem) : Option (Int × Mem) :=
  vm (ms m x0 10 (w32 ((m x0 10) + 1))) fun m1 =>
  some (1, m1)
def bX11_readLine_0 (g : Shp) (x0 : Int) (m : Mem) : Option (Int × Mem) :=
  bd2 (fX11_takeNumber g x0 m) fun v1 m2 =>
  bd2 (fX11_takeSign g x0 44 m2) fun v5 m6 =>
  bd2 (fX11_takeNumber g x0 m6) fun v9 m10 =>
  bd2 (fX11_takeSign g x0 44 m10) fun v13 m14 =>
  if (m14 x0 10) = 3 then
    bX11_readLine_62 g m14
  else
    if v5 = 0 then
      bX11_readLine_62 g m14
    else
      if v13 = 0 then
        bX11_readLine_62 g m14
      else
        bd2 (fX11_in g v1 0 19 m14) fun v20 m21 =>
        if v20 = 0 then
          bX11_readLine_62 g m21
        else
          bd2 (fX11_in g v9 0 19 m21) fun v25 m26 =>
          if v25 = 0 then
            bX11_readLine_62 g m26
          else
            bd2 (fX11_beginLine g x0 v1 v9 m26) fun v30 m31 =>
            bdl (iter (BX11_readLine_73 g x0) 100000 (0, m31)) fun cv33 sv34 =>
            if cv33 = 1 then
              bX11_readLine_127 g sv34.2
            else
              bX11_readLine_140 g x0 sv34.2
def fX11_readLine (g : Shp) (x0 : Int) (m : Mem) : Option (Int × Mem) := bX11_readLine_0 g x0 m
set_option maxRecDepth 20000 in
theorem wX11_in_15 {p : Program} {l : Launch} {e : Env} {s : State} {mt : MethodId} {args : Array Value} {below : List Frame} {meth : Method} {c : Code} {Q : State → Prop} {G : Gl} {A : Nat → Prop} {H0 : Heap} {ad : Int → Nat} {g : Shp} {H : Heap} {locs : List Loc} {ls : Array Slot} {m : Mem} {z0 : Int} (C : CallFix p mt c cX11_in 3 s args tb RX11) (S : Wd G A s H0 ad g m H locs) (hz0 : r32 z0) (hl : lv_has ls 3 []) {r : Int} {m' : Mem} (hF : bX11_in_15 g z0 m = some (r, m')) (Kr : ∀ (H : Heap) (locs : List Loc) (pc : Nat) (ls : Array Slot), Wd G A s H0 ad g m' H locs → decode cX11_in pc = .ok (.ireturn, 1) → r32 r ∧ (true = true → r = 0 ∨ r = 1) → narrow .boolean (.int (iI r)) = .int (iI r) → W p l e rX11_in s mt args below meth c H locs 0 0 Q (F0 mt pc ls [.int (iI r)])) : W p l e rX11_in s mt args below meth c H locs 0 0 Q (F0 mt 15 ls [.int (iI z0)]) := by
  unfold bX11_in_15 at hF
  obtain ⟨b1, hF⟩ := ck_ok hF
  cases hF
  exact Kr _ _ _ _ S dX11_in_15 ⟨r_b b1, fun _ => b1⟩ (nr_b b1)
set_option maxRecDepth 20000 in
theorem wX11_in_14 {p : Program} {l : Launch} {e : Env} {s : State} {mt : MethodId} {args : Array Value} {below : List Frame} {meth : Method} {c : Code} {Q : State → Prop} {G : Gl} {A : Nat → Prop} {H0 : Heap} {ad : Int → Nat} {g : Shp} {H : Heap} {locs : List Loc} {ls : Array Slot} {m : Mem} (C : CallFix p mt c cX11_in 3 s args tb RX11) (S : Wd G A s H0 ad g m H locs)  (hl : lv_has ls 3 []) {r : Int} {m' : Mem} (hF : bX11_in_14 g m = some (r, m')) (Kr : ∀ (H : Heap) (locs : List Loc) (pc : Nat) (ls : Array Slot), Wd G A s H0 ad g m' H locs → decode cX11_in pc = .ok (.ireturn, 1) → r32 r ∧ (true = true → r = 0 ∨ r = 1) → narrow .boolean (.int (iI r)) = .int (iI r) → W p l e rX11_in s mt args below meth c H locs 0 0 Q (F0 mt pc ls [.int (iI r)])) : W p l e rX11_in s mt args below meth c H locs 0 0 Q (F0 mt 14 ls []) := by
  unfold bX11_in_14 at hF
  refine q_iconst C 0 dX11_in_14 ?_
  exact wX11_in_15 C S (rl 0 rfl) (lv_sub hl [] rfl) hF Kr
set_option maxRecDepth 20000 in
theorem wX11_in_0 {p : Program} {l : Launch} {e : Env} {s : State} {mt : MethodId} {args : Array Value} {below : List Frame} {meth : Method} {c : Code} {Q : State → Prop} {G : Gl} {A : Nat → Prop} {H0 : Heap} {ad : Int → Nat} {g : Shp} {H : Heap} {locs : List Loc} {ls : Array Slot} {m : Mem} {x0 x1 x2 : Int} (C : CallFix p mt c cX11_in 3 s args tb RX11) (S : Wd G A s H0 ad g m H locs) (hx0 : r32 x0) (hx1 : r32 x1) (hx2 : r32 x2) (hl : lv_has ls 3 [(0, .int (iI x0)), (1, .int (iI x1)), (2, .int (iI x2))]) {r : Int} {m' : Mem} (hF : bX11_in_0 g x0 x1 x2 m = some (r, m')) (Kr : ∀ (H : Heap) (locs : List Loc) (pc : Nat) (ls : Array Slot), Wd G A s H0 ad g m' H locs → decode cX11_in pc = .ok (.ireturn, 1) → r32 r ∧ (true = true → r = 0 ∨ r = 1) → narrow .boolean (.int (iI r)) = .int (iI r) → W p l e rX11_in s mt args below meth c H locs 0 0 Q (F0 mt pc ls [.int (iI r)])) : W p l e rX11_in s mt args below meth c H locs 0 0 Q (F0 mt 0 ls []) := by
  unfold bX11_in_0 at hF
  refine q_iload_n C hl 0 rfl rfl dX11_in_0 ?_
  refine q_iload_n C hl 1 rfl rfl dX11_in_1 ?_
  refine q_icmp_lt C hx0 hx1 14 dX11_in_2 (by decide) (fun hc1 => ?_) (fun hc1 => ?_)
  · have hF := if_t hc1 hF
    exact wX11_in_14 C S  (lv_sub hl [] rfl) hF Kr
  · have hF := if_f hc1 hF
    refine q_iload_n C hl 0 rfl rfl dX11_in_5 ?_
    refine q_iload_n C hl 2 rfl rfl dX11_in_6 ?_
    refine q_icmp_gt C hx0 hx2 14 dX11_in_7 (by decide) (fun hc2 => ?_) (fun hc2 => ?_)
    · have hF := if_t hc2 hF
      exact wX11_in_14 C S  (lv_sub hl [] rfl) hF Kr
    · have hF := if_f hc2 hF
      refine q_iconst C 1 dX11_in_10 ?_
      refine q_goto C 15 dX11_in_11 (by decide) ?_
      exact wX11_in_15 C S (rl 1 rfl) (lv_sub hl [] rfl) hF Kr
theorem cX11_in_ok (l : Launch) (G : Gl) {g : Shp} {x0 x1 x2 : Int} {m m' : Mem} {r : Int} (hx0 : r32 x0) (hx1 : r32 x1) (hx2 : r32 x2) (hF : fX11_in g x0 x1 x2 m = some (r, m')) : mI l yX11_in (wT yX11_in cX11_in 3 (some .boolean)) rX11_in G true (fun ad => [.int (iI x0), .int (iI x1), .int (iI x2)]) g m r m' :=
  met_i (by decide) (fun ad => Nat.le_of_ble_eq_true rfl) (fun p e s mt args below meth c Q A H0 H locs ad ls C hnm S hl Kr => wX11_in_0 C S hx0 hx1 hx2 hl hF Kr)
set_option maxRecDepth 20000 in
theorem wX11_isLine_0 {p : Program} {l : Launch} {e : Env} {s : State} {mt : MethodId} {args : Array Value} {below : List Frame} {meth : Method} {c : Code} {Q : State → Prop} {G : Gl} {A : Nat → Prop} {H0 : Heap} {ad : Int → Nat} {g : Shp} {H : Heap} {locs : List Loc} {ls : Array Slot} {m : Mem} {x0 x1 : Int} (C : CallFix p mt c cX11_isLine 2 s args tb RX11) (S : Wd G A s H0 ad g m H locs) (hx0 : gk g x0 = 12) (hx1 : r32 x1) (hl : lv_has ls 2 [(0, .ref (ad x0)), (1, .int (iI x1))]) {r : Int} {m' : Mem} (hF : bX11_isLine_0 g x0 x1 m = some (r, m')) (Kr : ∀ (H : Heap) (locs : List Loc) (pc : Nat) (ls : Array Slot), Wd G A s H0 ad g m' H locs → decode cX11_isLine pc = .ok (.ireturn, 1) → r32 r ∧ (true = true → r = 0 ∨ r = 1) → narrow .boolean (.int (iI r)) = .int (iI r) → W p l e rX11_isLine s mt args below meth c H locs 0 0 Q (F0 mt pc ls [.int (iI r)])) : W p l e rX11_isLine s mt args below meth c H locs 0 0 Q (F0 mt 0 ls []) := by
  unfold bX11_isLine_0 at hF
  refine q_iload_n C hl 1 rfl rfl dX11_isLine_0 ?_
  refine q_iconst C 0 dX11_isLine_1 ?_
  refine q_aload_n C hl 0 rfl rfl dX11_isLine_2 ?_
  refine q_geti C S 20 fo_RX11_107 (j := 20) rfl rfl hx0 dX11_isLine_3 ?_
  refine q_iconst C 1 dX11_isLine_6 ?_
  refine q_isub C dX11_isLine_7 ?_
  obtain ⟨v1, m2, h3, hF⟩ := bd2_ok hF
  refine q_ci S (run_S (As := [.int (iI x1), .int (iI 0), .int (iI (w32 ((m x0 20) - 1)))]) (rest := []) C S (cX11_in_ok l G hx1 (rl 0 rfl) (r32_w _) h3 ad _) gd_RX11_110 hd_X11_in rfl ⟨rfl, rfl, by decide, by decide⟩ ⟨Nat.zero_le _, Nat.zero_le _⟩ hl.1 rfl (Nat.le_of_ble_eq_true rfl) dX11_isLine_8) (fun H locs Sm2 h4 => ?_)
  cases hF
  exact Kr _ _ _ _ Sm2 dX11_isLine_11 ⟨r_b (h4.2 rfl), fun _ => (h4.2 rfl)⟩ (nr_b (h4.2 rfl))
theorem cX11_isLine_ok (l : Launch) (G : Gl) {g : Shp} {x0 x1 : Int} {m m' : Mem} {r : Int} (hx0 : gk g x0 = 12) (hx1 : r32 x1) (hF : fX11_isLine g x0 x1 m = some (r, m')) : mI l yX11_isLine (wT yX11_isLine cX11_isLine 2 (some .boolean)) rX11_isLine G true (fun ad => [.ref (ad x0), .int (iI x1)]) g m r m' :=
  met_i (by decide) (fun ad => Nat.le_of_ble_eq_true rfl) (fun p e s mt args below meth c Q A H0 H locs ad ls C hnm S hl Kr => wX11_isLine_0 C S hx0 hx1 hl hF Kr)
set_option maxRecDepth 20000 in
theorem wX11_isColour_0 {p : Program} {l : Launch} {e : Env} {s : State} {mt : MethodId} {args : Array Value} {below : List Frame} {meth : Method} {c : Code} {Q : State → Prop} {G : Gl} {A : Nat → Prop} {H0 : Heap} {ad : Int → Nat} {g : Shp} {H : Heap} {locs : List Loc} {ls : Array Slot} {m : Mem} {x0 : Int} (C : CallFix p mt c cX11_isColour 1 s args tb RX11) (S : Wd G A s H0 ad g m H locs) (hx0 : r32 x0) (hl : lv_has ls 1 [(0, .int (iI x0))]) {r : Int} {m' : Mem} (hF : bX11_isColour_0 g x0 m = some (r, m')) (Kr : ∀ (H : Heap) (locs : List Loc) (pc : Nat) (ls : Array Slot), Wd G A s H0 ad g m' H locs → decode cX11_isColour pc = .ok (.ireturn, 1) → r32 r ∧ (true = true → r = 0 ∨ r = 1) → narrow .boolean (.int (iI r)) = .int (iI r) → W p l e rX11_isColour s mt args below meth c H locs 0 0 Q (F0 mt pc ls [.int (iI r)])) : W p l e rX11_isColour s mt args below meth c H locs 0 0 Q (F0 mt 0 ls []) := by
  unfold bX11_isColour_0 at hF
  refine q_iload_n C hl 0 rfl rfl dX11_isColour_0 ?_
  refine q_iconst C 0 dX11_isColour_1 ?_
  refine q_iconst C 2 dX11_isColour_2 ?_
  obtain ⟨v1, m2, h3, hF⟩ := bd2_ok hF
  refine q_ci S (run_S (As := [.int (iI x0), .int (iI 0), .int (iI 2)]) (rest := []) C S (cX11_in_ok l G hx0 (rl 0 rfl) (rl 2 rfl) h3 ad _) gd_RX11_110 hd_X11_in rfl ⟨rfl, rfl, by decide, by decide⟩ ⟨Nat.zero_le _, Nat.zero_le _⟩ hl.1 rfl (Nat.le_of_ble_eq_true rfl) dX11_isColour_3) (fun H locs Sm2 h4 => ?_)
  cases hF
  exact Kr _ _ _ _ Sm2 dX11_isColour_6 ⟨r_b (h4.2 rfl), fun _ => (h4.2 rfl)⟩ (nr_b (h4.2 rfl))
theorem cX11_isColour_ok (l : Launch) (G : Gl) {g : Shp} {x0 : Int} {m m' : Mem} {r : Int} (hx0 : r32 x0) (hF : fX11_isColour g x0 m = some (r, m')) : mI l yX11_isColour (wT yX11_isColour cX11_isColour 1 (some .boolean)) rX11_isColour G true (fun ad => [.int (iI x0)]) g m r m' :=
  met_i (by decide) (fun ad => Nat.le_of_ble_eq_true rfl) (fun p e s mt args below meth c Q A H0 H locs ad ls C hnm S hl Kr => wX11_isColour_0 C S hx0 hl hF Kr)
set_option maxRecDepth 20000 in
theorem wX11_isCovered_19 {p : Program} {l : Launch} {e : Env} {s : State} {mt : MethodId} {args : Array Value} {below : List Frame} {meth : Method} {c : Code} {Q : State → Prop} {G : Gl} {A : Nat → Prop} {H0 : Heap} {ad : Int → Nat} {g : Shp} {H : Heap} {locs : List Loc} {ls : Array Slot} {m : Mem} {z0 : Int} (C : CallFix p mt c cX11_isCovered 2 s args tb RX11) (S : Wd G A s H0 ad g m H locs) (hz0 : r32 z0) (hl : lv_has ls 2 []) {r : Int} {m' : Mem} (hF : bX11_isCovered_19 g z0 m = some (r, m')) (Kr : ∀ (H : Heap) (locs : List Loc) (pc : Nat) (ls : Array Slot), Wd G A s H0 ad g m' H locs → decode cX11_isCovered pc = .ok (.ireturn, 1) → r32 r ∧ (true = true → r = 0 ∨ r = 1) → narrow .boolean (.int (iI r)) = .int (iI r) → W p l e rX11_isCovered s mt args below meth c H locs 0 0 Q (F0 mt pc ls [.int (iI r)])) : W p l e rX11_isCovered s mt args below meth c H locs 0 0 Q (F0 mt 19 ls [.int (iI z0)]) := by
  unfold bX11_isCovered_19 at hF
  obtain ⟨b1, hF⟩ := ck_ok hF
  cases hF
  exact Kr _ _ _ _ S dX11_isCovered_19 ⟨r_b b1, fun _ => b1⟩ (nr_b b1)
set_option maxRecDepth 20000 in
theorem wX11_isCovered_0 {p : Program} {l : Launch} {e : Env} {s : State} {mt : MethodId} {args : Array Value} {below : List Frame} {meth : Method} {c : Code} {Q : State → Prop} {G : Gl} {A : Nat → Prop} {H0 : Heap} {ad : Int → Nat} {g : Shp} {H : Heap} {locs : List Loc} {ls : Array Slot} {m : Mem} {x0 x1 : Int} (C : CallFix p mt c cX11_isCovered 2 s args tb RX11) (S : Wd G A s H0 ad g m H locs) (hx0 : gk g x0 = 12) (hx1 : r32 x1) (hl : lv_has ls 2 [(0, .ref (ad x0)), (1, .int (iI x1))]) {r : Int} {m' : Mem} (hF : bX11_isCovered_0 g x0 x1 m = some (r, m')) (Kr : ∀ (H : Heap) (locs : List Loc) (pc : Nat) (ls : Array Slot), Wd G A s H0 ad g m' H locs → decode cX11_isCovered pc = .ok (.ireturn, 1) → r32 r ∧ (true = true → r = 0 ∨ r = 1) → narrow .boolean (.int (iI r)) = .int (iI r) → W p l e rX11_isCovered s mt args below meth c H locs 0 0 Q (F0 mt pc ls [.int (iI r)])) : W p l e rX11_isCovered s mt args below meth c H locs 0 0 Q (F0 mt 0 ls []) := by
  unfold bX11_isCovered_0 at hF
  refine q_aload_n C hl 0 rfl rfl dX11_isCovered_0 ?_
  obtain ⟨k1, hF⟩ := ck_ok hF
  refine q_getr C S 0 fo_RX11_7 (j := 0) rfl rfl hx0 k1 (by decide) dX11_isCovered_1 ?_
  refine q_bipush C 10 (by decide) dX11_isCovered_4 ?_
  refine q_iload_n C hl 1 rfl rfl dX11_isCovered_6 ?_
  refine q_iadd C dX11_isCovered_7 ?_
  obtain ⟨i2, hF⟩ := ck_ok hF
  refine q_iald C S k1 i2 dX11_isCovered_8 ?_
  refine q_bipush C (-4) (by decide) dX11_isCovered_9 ?_
  refine q_icmp_eq C (S.r _ _) (rl (-4) rfl) 18 dX11_isCovered_11 (by decide) (fun hc3 => ?_) (fun hc3 => ?_)
  · have hF := if_t hc3 hF
    refine q_iconst C 0 dX11_isCovered_18 ?_
    exact wX11_isCovered_19 C S (rl 0 rfl) (lv_sub hl [] rfl) hF Kr
  · have hF := if_f hc3 hF
    refine q_iconst C 1 dX11_isCovered_14 ?_
    refine q_goto C 19 dX11_isCovered_15 (by decide) ?_
    exact wX11_isCovered_19 C S (rl 1 rfl) (lv_sub hl [] rfl) hF Kr
theorem cX11_isCovered_ok (l : Launch) (G : Gl) {g : Shp} {x0 x1 : Int} {m m' : Mem} {r : Int} (hx0 : gk g x0 = 12) (hx1 : r32 x1) (hF : fX11_isCovered g x0 x1 m = some (r, m')) : mI l yX11_isCovered (wT yX11_isCovered cX11_isCovered 2 (some .boolean)) rX11_isCovered G true (fun ad => [.ref (ad x0), .int (iI x1)]) g m r m' :=
  met_i (by decide) (fun ad => Nat.le_of_ble_eq_true rfl) (fun p e s mt args below meth c Q A H0 H locs ad ls C hnm S hl Kr => wX11_isCovered_0 C S hx0 hx1 hl hF Kr)
set_option maxRecDepth 20000 in
theorem wX11_begin_28 {p : Program} {l : Launch} {e : Env} {s : State} {mt : MethodId} {args : Array Value} {below : List Frame} {meth : Method} {c : Code} {Q : State → Prop} {G : Gl} {A : Nat → Prop} {H0 : Heap} {ad : Int → Nat} {g : Shp} {H : Heap} {locs : List Loc} {ls : Array Slot} {m : Mem} {x0 x1 : Int} (C : CallFix p mt c cX11_begin 2 s args tb RX11) (S : Wd G A s H0 ad g m H locs) (hx0 : gk g x0 = 12) (hx1 : r32 x1) (hl : lv_has ls 2 [(0, .ref (ad x0)), (1, .int (iI x1))]) {c1 : Int} {s1 : (Int × Mem)} (hF : bX11_begin_28 g x0 x1 m = some (c1, s1)) (K0 : c1 = 0 → ∀ (H : Heap) (locs : List Loc) (ls : Array Slot), r32 s1.1 → Wd G A s H0 ad g s1.2 H locs → lv_has ls 2 [(0, .ref (ad x0)), (1, .int (iI s1.1))] → W p l e rX11_begin s mt args below meth c H locs 0 0 Q (F0 mt 28 ls [])) (K1 : c1 = 1 → ∀ (H : Heap) (locs : List Loc) (ls : Array Slot), Wd G A s H0 ad g s1.2 H locs → lv_has ls 2 [(0, .ref (ad x0))] → W p l e rX11_begin s mt args below meth c H locs 0 0 Q (F0 mt 48 ls [])) : W p l e rX11_begin s mt args below meth c H locs 0 0 Q (F0 mt 28 ls []) := by
  unfold bX11_begin_28 at hF
  refine q_iload_n C hl 1 rfl rfl dX11_begin_28 ?_
  refine q_bipush C 9 (by decide) dX11_begin_29 ?_
  refine q_icmp_ge C hx1 (rl 9 rfl) 48 dX11_begin_31 (by decide) (fun hc1 => ?_) (fun hc1 => ?_)
  · have hF := if_t hc1 hF
    cases hF
    exact K1 rfl _ _ _  S (lv_sub hl [0] rfl)
  · have hF := if_f hc1 hF
    refine q_aload_n C hl 0 rfl rfl dX11_begin_34 ?_
    obtain ⟨k2, hF⟩ := ck_ok hF
    refine q_getr C S 9 fo_RX11_25 (j := 9) rfl rfl hx0 k2 (by decide) dX11_begin_35 ?_
    refine q_iload_n C hl 1 rfl rfl dX11_begin_38 ?_
    refine q_bipush C 6 (by decide) dX11_begin_39 ?_
    obtain ⟨i3, hF⟩ := ck_ok hF
    obtain ⟨m4, em4, hF⟩ := vm_ok hF
    refine q_iast C S k2 i3 (rl 6 rfl) em4 dX11_begin_41 (fun H locs Sm4 => ?_)
    obtain ⟨y5, ey5, hF⟩ := vv_ok hF
    have ry5 : r32 y5 := ey5 ▸ r32_w _
    refine q_iinc C hl 1 [(1, .int (iI y5)), (0, .ref (ad x0))] rfl ey5 (by decide) rfl dX11_begin_42 (fun ls hl => ?_)
    refine q_goto C 28 dX11_begin_45 (by decide) ?_
    cases hF
    exact K0 rfl _ _ _ ry5 Sm4 (lv_sub hl [1, 0] rfl)
set_option maxRecDepth 20000 in
theorem lX11_begin_28 {p : Program} {l : Launch} {e : Env} {s : State} {mt : MethodId} {args : Array Value} {below : List Frame} {meth : Method} {c : Code} {Q : State → Prop} {G : Gl} {A : Nat → Prop} {H0 : Heap} {ad : Int → Nat} {g : Shp} {x0 : Int} (C : CallFix p mt c cX11_begin 2 s args tb RX11) (hx0 : gk g x0 = 12) {n : Nat} {s0 s1 : (Int × Mem)} {c1 : Int} (hI : iter (BX11_begin_28 g x0) n s0 = some (c1, s1)) (K1 : c1 = 1 → ∀ (H : Heap) (locs : List Loc) (ls : Array Slot), Wd G A s H0 ad g s1.2 H locs → lv_has ls 2 [(0, .ref (ad x0))] → W p l e rX11_begin s mt args below meth c H locs 0 0 Q (F0 mt 48 ls [])) : ∀ (H : Heap) (locs : List Loc) (ls : Array Slot), r32 s0.1 → Wd G A s H0 ad g s0.2 H locs → lv_has ls 2 [(0, .ref (ad x0)), (1, .int (iI s0.1))] → W p l e rX11_begin s mt args below meth c H locs 0 0 Q (F0 mt 28 ls []) :=
  iter_W (Pw := fun q => ∀ (H : Heap) (locs : List Loc) (ls : Array Slot), r32 q.1 → Wd G A s H0 ad g q.2 H locs → lv_has ls 2 [(0, .ref (ad x0)), (1, .int (iI q.1))] → W p l e rX11_begin s mt args below meth c H locs 0 0 Q (F0 mt 28 ls [])) (Px := fun c0 q => (c0 = 1 → ∀ (H : Heap) (locs : List Loc) (ls : Array Slot), Wd G A s H0 ad g q.2 H locs → lv_has ls 2 [(0, .ref (ad x0))] → W p l e rX11_begin s mt args below meth c H locs 0 0 Q (F0 mt 48 ls [])))
    (fun s c s' hB K0 kx H locs ls f0 S hl => wX11_begin_28 C S hx0 f0 hl hB K0 (fun h9 => (kx (by rw [h9]; decide)) h9)) _ _ _ _ hI K1
set_option maxRecDepth 20000 in
theorem wX11_begin_48 {p : Program} {l : Launch} {e : Env} {s : State} {mt : MethodId} {args : Array Value} {below : List Frame} {meth : Method} {c : Code} {Q : State → Prop} {G : Gl} {A : Nat → Prop} {H0 : Heap} {ad : Int → Nat} {g : Shp} {H : Heap} {locs : List Loc} {ls : Array Slot} {m : Mem} {x0 : Int} (C : CallFix p mt c cX11_begin 2 s args tb RX11) (S : Wd G A s H0 ad g m H locs) (hx0 : gk g x0 = 12) (hl : lv_has ls 2 [(0, .ref (ad x0))]) {r : Int} {m' : Mem} (hF : bX11_begin_48 g x0 m = some (r, m')) (Kr : ∀ (H : Heap) (locs : List Loc) (pc : Nat) (ls : Array Slot), Wd G A s H0 ad g m' H locs → decode cX11_begin pc = .ok (.return_, 1) → W p l e rX11_begin s mt args below meth c H locs 0 0 Q (F0 mt pc ls [])) : W p l e rX11_begin s mt args below meth c H locs 0 0 Q (F0 mt 48 ls []) := by
  unfold bX11_begin_48 at hF
  refine q_aload_n C hl 0 rfl rfl dX11_begin_48 ?_
  refine q_iconst C 0 dX11_begin_49 ?_
  obtain ⟨m1, em1, hF⟩ := vm_ok hF
  refine q_put C S 10 fo_RX11_100 fp_12_10 (fun h9 => absurd h9 (by decide)) (j := 10) rfl hx0 rfl rfl rfl (rl 0 rfl) (fun h9 => absurd h9 (by decide)) em1 dX11_begin_50 (fun H locs Sm1 => ?_)
  cases hF
  exact Kr _ _ _ _ Sm1 dX11_begin_53
set_option maxRecDepth 20000 in
theorem wX11_begin_0 {p : Program} {l : Launch} {e : Env} {s : State} {mt : MethodId} {args : Array Value} {below : List Frame} {meth : Method} {c : Code} {Q : State → Prop} {G : Gl} {A : Nat → Prop} {H0 : Heap} {ad : Int → Nat} {g : Shp} {H : Heap} {locs : List Loc} {ls : Array Slot} {m : Mem} {x0 : Int} (C : CallFix p mt c cX11_begin 2 s args tb RX11) (S : Wd G A s H0 ad g m H locs) (hx0 : gk g x0 = 12) (hl : lv_has ls 2 [(0, .ref (ad x0))]) {r : Int} {m' : Mem} (hF : bX11_begin_0 g x0 m = some (r, m')) (Kr : ∀ (H : Heap) (locs : List Loc) (pc : Nat) (ls : Array Slot), Wd G A s H0 ad g m' H locs → decode cX11_begin pc = .ok (.return_, 1) → W p l e rX11_begin s mt args below meth c H locs 0 0 Q (F0 mt pc ls [])) : W p l e rX11_begin s mt args below meth c H locs 0 0 Q (F0 mt 0 ls []) := by
  unfold bX11_begin_0 at hF
  refine q_aload_n C hl 0 rfl rfl dX11_begin_0 ?_
  obtain ⟨k1, hF⟩ := ck_ok hF
  refine q_getr C S 7 fo_RX11_22 (j := 7) rfl rfl hx0 k1 (by decide) dX11_begin_1 ?_
  refine q_iconst C 0 dX11_begin_4 ?_
  refine q_iconst C 2 dX11_begin_5 ?_
  obtain ⟨i2, hF⟩ := ck_ok hF
  obtain ⟨m3, em3, hF⟩ := vm_ok hF
  refine q_iast C S k1 i2 (rl 2 rfl) em3 dX11_begin_6 (fun H locs Sm3 => ?_)
  refine q_aload_n C hl 0 rfl rfl dX11_begin_7 ?_
  obtain ⟨k4, hF⟩ := ck_ok hF
  refine q_getr C Sm3 7 fo_RX11_22 (j := 7) rfl rfl hx0 k4 (by decide) dX11_begin_8 ?_
  refine q_iconst C 1 dX11_begin_11 ?_
  refine q_iconst C 3 dX11_begin_12 ?_
  obtain ⟨i5, hF⟩ := ck_ok hF
  obtain ⟨m6, em6, hF⟩ := vm_ok hF
  refine q_iast C Sm3 k4 i5 (rl 3 rfl) em6 dX11_begin_13 (fun H locs Sm6 => ?_)
  refine q_aload_n C hl 0 rfl rfl dX11_begin_14 ?_
  obtain ⟨k7, hF⟩ := ck_ok hF
  refine q_getr C Sm6 7 fo_RX11_22 (j := 7) rfl rfl hx0 k7 (by decide) dX11_begin_15 ?_
  refine q_iconst C 2 dX11_begin_18 ?_
  refine q_iconst C 5 dX11_begin_19 ?_
  obtain ⟨i8, hF⟩ := ck_ok hF
  obtain ⟨m9, em9, hF⟩ := vm_ok hF
  refine q_iast C Sm6 k7 i8 (rl 5 rfl) em9 dX11_begin_20 (fun H locs Sm9 => ?_)
  refine q_aload_n C hl 0 rfl rfl dX11_begin_21 ?_
  refine q_iconst C 0 dX11_begin_22 ?_
  obtain ⟨m10, em10, hF⟩ := vm_ok hF
  refine q_put C Sm9 8 fo_RX11_114 fp_12_8 (fun h9 => absurd h9 (by decide)) (j := 8) rfl hx0 rfl rfl rfl (rl 0 rfl) (fun h9 => absurd h9 (by decide)) em10 dX11_begin_23 (fun H locs Sm10 => ?_)
  refine q_iconst C 0 dX11_begin_26 ?_
  refine q_istore_n C hl [(1, .int (iI 0)), (0, .ref (ad x0))] rfl rfl (by decide) rfl dX11_begin_27 (fun ls hl => ?_)
  obtain ⟨cv11, sv12, hi13, hF⟩ := bdl_ok hF
  refine lX11_begin_28 C hx0 hi13 ?_ _ _ _ (rl 0 rfl) Sm10 (lv_sub hl [1, 0] rfl)
  intro _ H locs ls  S14 hl
  exact wX11_begin_48 C S14 hx0 (lv_sub hl [0] rfl) hF Kr
theorem cX11_begin_ok (l : Launch) (G : Gl) {g : Shp} {x0 : Int} {m m' : Mem} {r : Int} (hx0 : gk g x0 = 12) (hF : fX11_begin g x0 m = some (r, m')) : mV l yX11_begin (wT yX11_begin cX11_begin 2 none) rX11_begin G (fun ad => [.ref (ad x0)]) g m m' :=
  met_v (by decide) (fun ad => Nat.le_of_ble_eq_true rfl) (fun p e s mt args below meth c Q A H0 H locs ad ls C hnm S hl Kr => wX11_begin_0 C S hx0 hl hF Kr)
set_option maxRecDepth 20000 in
theorem wX11_beginLine_0 {p : Program} {l : Launch} {e : Env} {s : State} {mt : MethodId} {args : Array Value} {below : List Frame} {meth : Method} {c : Code} {Q : State → Prop} {G : Gl} {A : Nat → Prop} {H0 : Heap} {ad : Int → Nat} {g : Shp} {H : Heap} {locs : List Loc} {ls : Array Slot} {m : Mem} {x0 x1 x2 : Int} (C : CallFix p mt c cX11_beginLine 3 s args tb RX11) (S : Wd G A s H0 ad g m H locs) (hx0 : gk g x0 = 12) (hx1 : r32 x1) (hx2 : r32 x2) (hl : lv_has ls 3 [(0, .ref (ad x0)), (1, .int (iI x1)), (2, .int (iI x2))]) {r : Int} {m' : Mem} (hF : bX11_beginLine_0 g x0 x1 x2 m = some (r, m')) (Kr : ∀ (H : Heap) (locs : List Loc) (pc : Nat) (ls : Array Slot), Wd G A s H0 ad g m' H locs → decode cX11_beginLine pc = .ok (.return_, 1) → W p l e rX11_beginLine s mt args below meth c H locs 0 0 Q (F0 mt pc ls [])) : W p l e rX11_beginLine s mt args below meth c H locs 0 0 Q (F0 mt 0 ls []) := by
  unfold bX11_beginLine_0 at hF
  refine q_aload_n C hl 0 rfl rfl dX11_beginLine_0 ?_
  obtain ⟨k1, hF⟩ := ck_ok hF
  refine q_getr C S 11 fo_RX11_28 (j := 11) rfl rfl hx0 k1 (by decide) dX11_beginLine_1 ?_
  refine q_aload_n C hl 0 rfl rfl dX11_beginLine_4 ?_
  refine q_geti C S 10 fo_RX11_100 (j := 10) rfl rfl hx0 dX11_beginLine_5 ?_
  refine q_iconst C 0 dX11_beginLine_8 ?_
  obtain ⟨i2, hF⟩ := ck_ok hF
  obtain ⟨m3, em3, hF⟩ := vm_ok hF
  refine q_iast C S k1 i2 (rl 0 rfl) em3 dX11_beginLine_9 (fun H locs Sm3 => ?_)
  refine q_aload_n C hl 0 rfl rfl dX11_beginLine_10 ?_
  obtain ⟨k4, hF⟩ := ck_ok hF
  refine q_getr C Sm3 13 fo_RX11_34 (j := 13) rfl rfl hx0 k4 (by decide) dX11_beginLine_11 ?_
  refine q_aload_n C hl 0 rfl rfl dX11_beginLine_14 ?_
  refine q_geti C Sm3 10 fo_RX11_100 (j := 10) rfl rfl hx0 dX11_beginLine_15 ?_
  refine q_iconst C 0 dX11_beginLine_18 ?_
  obtain ⟨i5, hF⟩ := ck_ok hF
  obtain ⟨m6, em6, hF⟩ := vm_ok hF
  refine q_iast C Sm3 k4 i5 (rl 0 rfl) em6 dX11_beginLine_19 (fun H locs Sm6 => ?_)
  refine q_aload_n C hl 0 rfl rfl dX11_beginLine_20 ?_
  refine q_iload_n C hl 1 rfl rfl dX11_beginLine_21 ?_
  obtain ⟨m7, em7, hF⟩ := vm_ok hF
  refine q_put C Sm6 15 fo_RX11_117 fp_12_15 (fun h9 => absurd h9 (by decide)) (j := 15) rfl hx0 rfl rfl rfl hx1 (fun h9 => absurd h9 (by decide)) em7 dX11_beginLine_22 (fun H locs Sm7 => ?_)
  refine q_aload_n C hl 0 rfl rfl dX11_beginLine_25 ?_
  refine q_iload_n C hl 2 rfl rfl dX11_beginLine_26 ?_
  obtain ⟨m8, em8, hF⟩ := vm_ok hF
  refine q_put C Sm7 16 fo_RX11_120 fp_12_16 (fun h9 => absurd h9 (by decide)) (j := 16) rfl hx0 rfl rfl rfl hx2 (fun h9 => absurd h9 (by decide)) em8 dX11_beginLine_27 (fun H locs Sm8 => ?_)
  refine q_aload_n C hl 0 rfl rfl dX11_beginLine_30 ?_
  refine q_iconst C 1 dX11_beginLine_31 ?_
  obtain ⟨m9, em9, hF⟩ := vm_ok hF
  refine q_put C Sm8 17 fo_RX11_123 fp_12_17 (fun h9 => absurd h9 (by decide)) (j := 17) rfl hx0 rfl (nr_b b_1) (ft_b b_1) (rl 1 rfl) (fun h9 => absurd h9 (by decide)) em9 dX11_beginLine_32 (fun H locs Sm9 => ?_)
  cases hF
  exact Kr _ _ _ _ Sm9 dX11_beginLine_35
theorem cX11_beginLine_ok (l : Launch) (G : Gl) {g : Shp} {x0 x1 x2 : Int} {m m' : Mem} {r : Int} (hx0 : gk g x0 = 12) (hx1 : r32 x1) (hx2 : r32 x2) (hF : fX11_beginLine g x0 x1 x2 m = some (r, m')) : mV l yX11_beginLine (wT yX11_beginLine cX11_beginLine 3 none) rX11_beginLine G (fun ad => [.ref (ad x0), .int (iI x1), .int (iI x2)]) g m m' :=
  met_v (by decide) (fun ad => Nat.le_of_ble_eq_true rfl) (fun p e s mt args below meth c Q A H0 H locs ad ls C hnm S hl Kr => wX11_beginLine_0 C S hx0 hx1 hx2 hl hF Kr)
set_option maxRecDepth 20000 in
theorem wX11_addCell_89 {p : Program} {l : Launch} {e : Env} {s : State} {mt : MethodId} {args : Array Value} {below : List Frame} {meth : Method} {c : Code} {Q : State → Prop} {G : Gl} {A : Nat → Prop} {H0 : Heap} {ad : Int → Nat} {g : Shp} {H : Heap} {locs : List Loc} {ls : Array Slot} {m : Mem} {x0 x1 x3 x4 z0 : Int} (C : CallFix p mt c cX11_addCell 5 s args tb RX11) (S : Wd G A s H0 ad g m H locs) (hx0 : gk g x0 = 12) (hx1 : r32 x1) (hx3 : r32 x3) (hx4 : r32 x4) (hz0 : r32 z0) (hl : lv_has ls 5 [(0, .ref (ad x0)), (1, .int (iI x1)), (3, .int (iI x3)), (4, .int (iI x4))]) {c1 : Int} {s1 : (Int × Int × Mem)} (hF : bX11_addCell_89 g x0 x1 x3 x4 z0 m = some (c1, s1)) (K0 : c1 = 0 → ∀ (H : Heap) (locs : List Loc) (ls : Array Slot), r32 s1.1 → r32 s1.2.1 → Wd G A s H0 ad g s1.2.2 H locs → lv_has ls 5 [(0, .ref (ad x0)), (1, .int (iI x1)), (2, .int (iI s1.1)), (3, .int (iI x3)), (4, .int (iI s1.2.1))] → W p l e rX11_addCell s mt args below meth c H locs 0 0 Q (F0 mt 53 ls [])) (K1 : c1 = 1 → ∀ (H : Heap) (locs : List Loc) (ls : Array Slot), r32 s1.1 → Wd G A s H0 ad g s1.2.2 H locs → lv_has ls 5 [(0, .ref (ad x0)), (1, .int (iI x1)), (2, .int (iI s1.1)), (3, .int (iI x3))] → W p l e rX11_addCell s mt args below meth c H locs 0 0 Q (F0 mt 96 ls [])) : W p l e rX11_addCell s mt args below meth c H locs 0 0 Q (F0 mt 89 ls [.int (iI z0)]) := by
  unfold bX11_addCell_89 at hF
  refine q_istore_n C hl [(2, .int (iI z0)), (0, .ref (ad x0)), (1, .int (iI x1)), (3, .int (iI x3)), (4, .int (iI x4))] rfl rfl (by decide) rfl dX11_addCell_89 (fun ls hl => ?_)
  obtain ⟨y1, ey1, hF⟩ := vv_ok hF
  have ry1 : r32 y1 := ey1 ▸ r32_w _
  refine q_iinc C hl 4 [(4, .int (iI y1)), (2, .int (iI z0)), (0, .ref (ad x0)), (1, .int (iI x1)), (3, .int (iI x3))] rfl ey1 (by decide) rfl dX11_addCell_90 (fun ls hl => ?_)
  refine q_goto C 53 dX11_addCell_93 (by decide) ?_
  cases hF
  exact K0 rfl _ _ _ hz0 ry1 S (lv_sub hl [2, 3, 1, 4, 0] rfl)
set_option maxRecDepth 20000 in
theorem wX11_addCell_88 {p : Program} {l : Launch} {e : Env} {s : State} {mt : MethodId} {args : Array Value} {below : List Frame} {meth : Method} {c : Code} {Q : State → Prop} {G : Gl} {A : Nat → Prop} {H0 : Heap} {ad : Int → Nat} {g : Shp} {H : Heap} {locs : List Loc} {ls : Array Slot} {m : Mem} {x0 x1 x3 x4 : Int} (C : CallFix p mt c cX11_addCell 5 s args tb RX11) (S : Wd G A s H0 ad g m H locs) (hx0 : gk g x0 = 12) (hx1 : r32 x1) (hx3 : r32 x3) (hx4 : r32 x4) (hl : lv_has ls 5 [(0, .ref (ad x0)), (1, .int (iI x1)), (3, .int (iI x3)), (4, .int (iI x4))]) {c1 : Int} {s1 : (Int × Int × Mem)} (hF : bX11_addCell_88 g x0 x1 x3 x4 m = some (c1, s1)) (K0 : c1 = 0 → ∀ (H : Heap) (locs : List Loc) (ls : Array Slot), r32 s1.1 → r32 s1.2.1 → Wd G A s H0 ad g s1.2.2 H locs → lv_has ls 5 [(0, .ref (ad x0)), (1, .int (iI x1)), (2, .int (iI s1.1)), (3, .int (iI x3)), (4, .int (iI s1.2.1))] → W p l e rX11_addCell s mt args below meth c H locs 0 0 Q (F0 mt 53 ls [])) (K1 : c1 = 1 → ∀ (H : Heap) (locs : List Loc) (ls : Array Slot), r32 s1.1 → Wd G A s H0 ad g s1.2.2 H locs → lv_has ls 5 [(0, .ref (ad x0)), (1, .int (iI x1)), (2, .int (iI s1.1)), (3, .int (iI x3))] → W p l e rX11_addCell s mt args below meth c H locs 0 0 Q (F0 mt 96 ls [])) : W p l e rX11_addCell s mt args below meth c H locs 0 0 Q (F0 mt 88 ls []) := by
  unfold bX11_addCell_88 at hF
  refine q_iconst C 0 dX11_addCell_88 ?_
  exact wX11_addCell_89 C S hx0 hx1 hx3 hx4 (rl 0 rfl) (lv_sub hl [0, 1, 2, 3] rfl) hF K0 K1
set_option maxRecDepth 20000 in
theorem wX11_addCell_53 {p : Program} {l : Launch} {e : Env} {s : State} {mt : MethodId} {args : Array Value} {below : List Frame} {meth : Method} {c : Code} {Q : State → Prop} {G : Gl} {A : Nat → Prop} {H0 : Heap} {ad : Int → Nat} {g : Shp} {H : Heap} {locs : List Loc} {ls : Array Slot} {m : Mem} {x0 x1 x2 x3 x4 : Int} (C : CallFix p mt c cX11_addCell 5 s args tb RX11) (S : Wd G A s H0 ad g m H locs) (hx0 : gk g x0 = 12) (hx1 : r32 x1) (hx2 : r32 x2) (hx3 : r32 x3) (hx4 : r32 x4) (hl : lv_has ls 5 [(0, .ref (ad x0)), (1, .int (iI x1)), (2, .int (iI x2)), (3, .int (iI x3)), (4, .int (iI x4))]) {c1 : Int} {s1 : (Int × Int × Mem)} (hF : bX11_addCell_53 g x0 x1 x2 x3 x4 m = some (c1, s1)) (K0 : c1 = 0 → ∀ (H : Heap) (locs : List Loc) (ls : Array Slot), r32 s1.1 → r32 s1.2.1 → Wd G A s H0 ad g s1.2.2 H locs → lv_has ls 5 [(0, .ref (ad x0)), (1, .int (iI x1)), (2, .int (iI s1.1)), (3, .int (iI x3)), (4, .int (iI s1.2.1))] → W p l e rX11_addCell s mt args below meth c H locs 0 0 Q (F0 mt 53 ls [])) (K1 : c1 = 1 → ∀ (H : Heap) (locs : List Loc) (ls : Array Slot), r32 s1.1 → Wd G A s H0 ad g s1.2.2 H locs → lv_has ls 5 [(0, .ref (ad x0)), (1, .int (iI x1)), (2, .int (iI s1.1)), (3, .int (iI x3))] → W p l e rX11_addCell s mt args below meth c H locs 0 0 Q (F0 mt 96 ls [])) : W p l e rX11_addCell s mt args below meth c H locs 0 0 Q (F0 mt 53 ls []) := by
  unfold bX11_addCell_53 at hF
  refine q_iload C hl 4 rfl dX11_addCell_53 ?_
  refine q_aload_n C hl 0 rfl rfl dX11_addCell_55 ?_
  obtain ⟨k1, hF⟩ := ck_ok hF
  refine q_getr C S 13 fo_RX11_34 (j := 13) rfl rfl hx0 k1 (by decide) dX11_addCell_56 ?_
  refine q_iload_n C hl 1 rfl rfl dX11_addCell_59 ?_
  obtain ⟨i2, hF⟩ := ck_ok hF
  refine q_iald C S k1 i2 dX11_addCell_60 ?_
  refine q_icmp_ge C hx4 (S.r _ _) 96 dX11_addCell_61 (by decide) (fun hc3 => ?_) (fun hc3 => ?_)
  · have hF := if_t hc3 hF
    cases hF
    exact K1 rfl _ _ _ hx2 S (lv_sub hl [0, 1, 2, 3] rfl)
  · have hF := if_f hc3 hF
    refine q_iload_n C hl 2 rfl rfl dX11_addCell_64 ?_
    refine q_if_eq C hx2 88 dX11_addCell_65 (by decide) (fun hc4 => ?_) (fun hc4 => ?_)
    · have hF := if_t hc4 hF
      exact wX11_addCell_88 C S hx0 hx1 hx3 hx4 (lv_sub hl [0, 1, 3, 4] rfl) hF K0 K1
    · have hF := if_f hc4 hF
      refine q_aload_n C hl 0 rfl rfl dX11_addCell_68 ?_
      obtain ⟨k5, hF⟩ := ck_ok hF
      refine q_getr C S 14 fo_RX11_37 (j := 14) rfl rfl hx0 k5 (by decide) dX11_addCell_69 ?_
      refine q_bipush C 60 (by decide) dX11_addCell_72 ?_
      refine q_iload_n C hl 1 rfl rfl dX11_addCell_74 ?_
      refine q_imul C dX11_addCell_75 ?_
      refine q_iload C hl 4 rfl dX11_addCell_76 ?_
      refine q_iadd C dX11_addCell_78 ?_
      obtain ⟨i6, hF⟩ := ck_ok hF
      refine q_iald C S k5 i6 dX11_addCell_79 ?_
      refine q_iload_n C hl 3 rfl rfl dX11_addCell_80 ?_
      refine q_icmp_eq C (S.r _ _) hx3 88 dX11_addCell_81 (by decide) (fun hc7 => ?_) (fun hc7 => ?_)
      · have hF := if_t hc7 hF
        exact wX11_addCell_88 C S hx0 hx1 hx3 hx4 (lv_sub hl [0, 1, 3, 4] rfl) hF K0 K1
      · have hF := if_f hc7 hF
        refine q_iconst C 1 dX11_addCell_84 ?_
        refine q_goto C 89 dX11_addCell_85 (by decide) ?_
        exact wX11_addCell_89 C S hx0 hx1 hx3 hx4 (rl 1 rfl) (lv_sub hl [0, 1, 3, 4] rfl) hF K0 K1
set_option maxRecDepth 20000 in
theorem lX11_addCell_53 {p : Program} {l : Launch} {e : Env} {s : State} {mt : MethodId} {args : Array Value} {below : List Frame} {meth : Method} {c : Code} {Q : State → Prop} {G : Gl} {A : Nat → Prop} {H0 : Heap} {ad : Int → Nat} {g : Shp} {x0 x1 x3 : Int} (C : CallFix p mt c cX11_addCell 5 s args tb RX11) (hx0 : gk g x0 = 12) (hx1 : r32 x1) (hx3 : r32 x3) {n : Nat} {s0 s1 : (Int × Int × Mem)} {c1 : Int} (hI : iter (BX11_addCell_53 g x0 x1 x3) n s0 = some (c1, s1)) (K1 : c1 = 1 → ∀ (H : Heap) (locs : List Loc) (ls : Array Slot), r32 s1.1 → Wd G A s H0 ad g s1.2.2 H locs → lv_has ls 5 [(0, .ref (ad x0)), (1, .int (iI x1)), (2, .int (iI s1.1)), (3, .int (iI x3))] → W p l e rX11_addCell s mt args below meth c H locs 0 0 Q (F0 mt 96 ls [])) : ∀ (H : Heap) (locs : List Loc) (ls : Array Slot), r32 s0.1 → r32 s0.2.1 → Wd G A s H0 ad g s0.2.2 H locs → lv_has ls 5 [(0, .ref (ad x0)), (1, .int (iI x1)), (2, .int (iI s0.1)), (3, .int (iI x3)), (4, .int (iI s0.2.1))] → W p l e rX11_addCell s mt args below meth c H locs 0 0 Q (F0 mt 53 ls []) :=
  iter_W (Pw := fun q => ∀ (H : Heap) (locs : List Loc) (ls : Array Slot), r32 q.1 → r32 q.2.1 → Wd G A s H0 ad g q.2.2 H locs → lv_has ls 5 [(0, .ref (ad x0)), (1, .int (iI x1)), (2, .int (iI q.1)), (3, .int (iI x3)), (4, .int (iI q.2.1))] → W p l e rX11_addCell s mt args below meth c H locs 0 0 Q (F0 mt 53 ls [])) (Px := fun c0 q => (c0 = 1 → ∀ (H : Heap) (locs : List Loc) (ls : Array Slot), r32 q.1 → Wd G A s H0 ad g q.2.2 H locs → lv_has ls 5 [(0, .ref (ad x0)), (1, .int (iI x1)), (2, .int (iI q.1)), (3, .int (iI x3))] → W p l e rX11_addCell s mt args below meth c H locs 0 0 Q (F0 mt 96 ls [])))
    (fun s c s' hB K0 kx H locs ls f0 f1 S hl => wX11_addCell_53 C S hx0 hx1 f0 hx3 f1 hl hB K0 (fun h9 => (kx (by rw [h9]; decide)) h9)) _ _ _ _ hI K1
set_option maxRecDepth 20000 in
theorem wX11_addCell_127 {p : Program} {l : Launch} {e : Env} {s : State} {mt : MethodId} {args : Array Value} {below : List Frame} {meth : Method} {c : Code} {Q : State → Prop} {G : Gl} {A : Nat → Prop} {H0 : Heap} {ad : Int → Nat} {g : Shp} {H : Heap} {locs : List Loc} {ls : Array Slot} {m : Mem} {x2 : Int} (C : CallFix p mt c cX11_addCell 5 s args tb RX11) (S : Wd G A s H0 ad g m H locs) (hx2 : r32 x2) (hl : lv_has ls 5 [(2, .int (iI x2))]) {r : Int} {m' : Mem} (hF : bX11_addCell_127 g x2 m = some (r, m')) (Kr : ∀ (H : Heap) (locs : List Loc) (pc : Nat) (ls : Array Slot), Wd G A s H0 ad g m' H locs → decode cX11_addCell pc = .ok (.ireturn, 1) → r32 r ∧ (true = true → r = 0 ∨ r = 1) → narrow .boolean (.int (iI r)) = .int (iI r) → W p l e rX11_addCell s mt args below meth c H locs 0 0 Q (F0 mt pc ls [.int (iI r)])) : W p l e rX11_addCell s mt args below meth c H locs 0 0 Q (F0 mt 127 ls []) := by
  unfold bX11_addCell_127 at hF
  refine q_iload_n C hl 0 rfl rfl dX11_addCell_127 ?_
  obtain ⟨b1, hF⟩ := ck_ok hF
  cases hF
  exact Kr _ _ _ _ S dX11_addCell_128 ⟨r_b b1, fun _ => b1⟩ (nr_b b1)
set_option maxRecDepth 20000 in
theorem wX11_addCell_96 {p : Program} {l : Launch} {e : Env} {s : State} {mt : MethodId} {args : Array Value} {below : List Frame} {meth : Method} {c : Code} {Q : State → Prop} {G : Gl} {A : Nat → Prop} {H0 : Heap} {ad : Int → Nat} {g : Shp} {H : Heap} {locs : List Loc} {ls : Array Slot} {m : Mem} {x0 x1 x2 x3 : Int} (C : CallFix p mt c cX11_addCell 5 s args tb RX11) (S : Wd G A s H0 ad g m H locs) (hx0 : gk g x0 = 12) (hx1 : r32 x1) (hx2 : r32 x2) (hx3 : r32 x3) (hl : lv_has ls 5 [(0, .ref (ad x0)), (1, .int (iI x1)), (2, .int (iI x2)), (3, .int (iI x3))]) {r : Int} {m' : Mem} (hF : bX11_addCell_96 g x0 x1 x2 x3 m = some (r, m')) (Kr : ∀ (H : Heap) (locs : List Loc) (pc : Nat) (ls : Array Slot), Wd G A s H0 ad g m' H locs → decode cX11_addCell pc = .ok (.ireturn, 1) → r32 r ∧ (true = true → r = 0 ∨ r = 1) → narrow .boolean (.int (iI r)) = .int (iI r) → W p l e rX11_addCell s mt args below meth c H locs 0 0 Q (F0 mt pc ls [.int (iI r)])) : W p l e rX11_addCell s mt args below meth c H locs 0 0 Q (F0 mt 96 ls []) := by
  unfold bX11_addCell_96 at hF
  refine q_iload_n C hl 2 rfl rfl dX11_addCell_96 ?_
  refine q_if_eq C hx2 127 dX11_addCell_97 (by decide) (fun hc1 => ?_) (fun hc1 => ?_)
  · have hF := if_t hc1 hF
    exact wX11_addCell_127 C S hx2 (lv_sub hl [2] rfl) hF Kr
  · have hF := if_f hc1 hF
    refine q_aload_n C hl 0 rfl rfl dX11_addCell_100 ?_
    obtain ⟨k2, hF⟩ := ck_ok hF
    refine q_getr C S 14 fo_RX11_37 (j := 14) rfl rfl hx0 k2 (by decide) dX11_addCell_101 ?_
    refine q_bipush C 60 (by decide) dX11_addCell_104 ?_
    refine q_iload_n C hl 1 rfl rfl dX11_addCell_106 ?_
    refine q_imul C dX11_addCell_107 ?_
    refine q_aload_n C hl 0 rfl rfl dX11_addCell_108 ?_
    obtain ⟨k3, hF⟩ := ck_ok hF
    refine q_getr C S 13 fo_RX11_34 (j := 13) rfl rfl hx0 k3 (by decide) dX11_addCell_109 ?_
    refine q_iload_n C hl 1 rfl rfl dX11_addCell_112 ?_
    obtain ⟨i4, hF⟩ := ck_ok hF
    refine q_iald C S k3 i4 dX11_addCell_113 ?_
    refine q_iadd C dX11_addCell_114 ?_
    refine q_iload_n C hl 3 rfl rfl dX11_addCell_115 ?_
    obtain ⟨i5, hF⟩ := ck_ok hF
    obtain ⟨m6, em6, hF⟩ := vm_ok hF
    refine q_iast C S k2 i5 hx3 em6 dX11_addCell_116 (fun H locs Sm6 => ?_)
    refine q_aload_n C hl 0 rfl rfl dX11_addCell_117 ?_
    obtain ⟨k7, hF⟩ := ck_ok hF
    refine q_getr C Sm6 13 fo_RX11_34 (j := 13) rfl rfl hx0 k7 (by decide) dX11_addCell_118 ?_
    refine q_iload_n C hl 1 rfl rfl dX11_addCell_121 ?_
    refine q_dup2 C rfl rfl dX11_addCell_122 ?_
    obtain ⟨i8, hF⟩ := ck_ok hF
    refine q_iald C Sm6 k7 i8 dX11_addCell_123 ?_
    refine q_iconst C 1 dX11_addCell_124 ?_
    refine q_iadd C dX11_addCell_125 ?_
    obtain ⟨i9, hF⟩ := ck_ok hF
    obtain ⟨m10, em10, hF⟩ := vm_ok hF
    refine q_iast C Sm6 k7 i9 (r32_w _) em10 dX11_addCell_126 (fun H locs Sm10 => ?_)
    exact wX11_addCell_127 C Sm10 hx2 (lv_sub hl [2] rfl) hF Kr
set_option maxRecDepth 20000 in
theorem wX11_addCell_36 {p : Program} {l : Launch} {e : Env} {s : State} {mt : MethodId} {args : Array Value} {below : List Frame} {meth : Method} {c : Code} {Q : State → Prop} {G : Gl} {A : Nat → Prop} {H0 : Heap} {ad : Int → Nat} {g : Shp} {H : Heap} {locs : List Loc} {ls : Array Slot} {m : Mem} {x0 x1 z0 : Int} (C : CallFix p mt c cX11_addCell 5 s args tb RX11) (S : Wd G A s H0 ad g m H locs) (hx0 : gk g x0 = 12) (hx1 : r32 x1) (hz0 : r32 z0) (hl : lv_has ls 5 [(0, .ref (ad x0)), (1, .int (iI x1))]) {r : Int} {m' : Mem} (hF : bX11_addCell_36 g x0 x1 z0 m = some (r, m')) (Kr : ∀ (H : Heap) (locs : List Loc) (pc : Nat) (ls : Array Slot), Wd G A s H0 ad g m' H locs → decode cX11_addCell pc = .ok (.ireturn, 1) → r32 r ∧ (true = true → r = 0 ∨ r = 1) → narrow .boolean (.int (iI r)) = .int (iI r) → W p l e rX11_addCell s mt args below meth c H locs 0 0 Q (F0 mt pc ls [.int (iI r)])) : W p l e rX11_addCell s mt args below meth c H locs 0 0 Q (F0 mt 36 ls [.int (iI z0)]) := by
  unfold bX11_addCell_36 at hF
  refine q_istore_n C hl [(2, .int (iI z0)), (0, .ref (ad x0)), (1, .int (iI x1))] rfl rfl (by decide) rfl dX11_addCell_36 (fun ls hl => ?_)
  refine q_bipush C 20 (by decide) dX11_addCell_37 ?_
  refine q_aload_n C hl 1 rfl rfl dX11_addCell_39 ?_
  refine q_geti C S 16 fo_RX11_120 (j := 16) rfl rfl hx0 dX11_addCell_40 ?_
  refine q_imul C dX11_addCell_43 ?_
  refine q_aload_n C hl 1 rfl rfl dX11_addCell_44 ?_
  refine q_geti C S 15 fo_RX11_117 (j := 15) rfl rfl hx0 dX11_addCell_45 ?_
  refine q_iadd C dX11_addCell_48 ?_
  obtain ⟨y1, ey1, hF⟩ := vv_ok hF
  have ry1 : r32 y1 := ey1 ▸ (r32_w _)
  refine q_istore_n C hl [(3, .int (iI y1)), (2, .int (iI z0)), (0, .ref (ad x0)), (1, .int (iI x1))] ey1 rfl (by decide) rfl dX11_addCell_49 (fun ls hl => ?_)
  refine q_iconst C 0 dX11_addCell_50 ?_
  refine q_istore C hl [(4, .int (iI 0)), (3, .int (iI y1)), (2, .int (iI z0)), (0, .ref (ad x0)), (1, .int (iI x1))] rfl (by decide) rfl dX11_addCell_51 (fun ls hl => ?_)
  obtain ⟨cv2, sv3, hi4, hF⟩ := bdl_ok hF
  refine lX11_addCell_53 C hx0 hx1 ry1 hi4 ?_ _ _ _ hz0 (rl 0 rfl) S (lv_sub hl [3, 4, 2, 1, 0] rfl)
  intro _ H locs ls f6 S5 hl
  exact wX11_addCell_96 C S5 hx0 hx1 f6 ry1 (lv_sub hl [0, 1, 2, 3] rfl) hF Kr
set_option maxRecDepth 20000 in
theorem wX11_addCell_35 {p : Program} {l : Launch} {e : Env} {s : State} {mt : MethodId} {args : Array Value} {below : List Frame} {meth : Method} {c : Code} {Q : State → Prop} {G : Gl} {A : Nat → Prop} {H0 : Heap} {ad : Int → Nat} {g : Shp} {H : Heap} {locs : List Loc} {ls : Array Slot} {m : Mem} {x0 x1 : Int} (C : CallFix p mt c cX11_addCell 5 s args tb RX11) (S : Wd G A s H0 ad g m H locs) (hx0 : gk g x0 = 12) (hx1 : r32 x1) (hl : lv_has ls 5 [(0, .ref (ad x0)), (1, .int (iI x1))]) {r : Int} {m' : Mem} (hF : bX11_addCell_35 g x0 x1 m = some (r, m')) (Kr : ∀ (H : Heap) (locs : List Loc) (pc : Nat) (ls : Array Slot), Wd G A s H0 ad g m' H locs → decode cX11_addCell pc = .ok (.ireturn, 1) → r32 r ∧ (true = true → r = 0 ∨ r = 1) → narrow .boolean (.int (iI r)) = .int (iI r) → W p l e rX11_addCell s mt args below meth c H locs 0 0 Q (F0 mt pc ls [.int (iI r)])) : W p l e rX11_addCell s mt args below meth c H locs 0 0 Q (F0 mt 35 ls []) := by
  unfold bX11_addCell_35 at hF
  refine q_iconst C 0 dX11_addCell_35 ?_
  exact wX11_addCell_36 C S hx0 hx1 (rl 0 rfl) (lv_sub hl [0, 1] rfl) hF Kr
set_option maxRecDepth 20000 in
theorem wX11_addCell_0 {p : Program} {l : Launch} {e : Env} {s : State} {mt : MethodId} {args : Array Value} {below : List Frame} {meth : Method} {c : Code} {Q : State → Prop} {G : Gl} {A : Nat → Prop} {H0 : Heap} {ad : Int → Nat} {g : Shp} {H : Heap} {locs : List Loc} {ls : Array Slot} {m : Mem} {x0 : Int} (C : CallFix p mt c cX11_addCell 5 s args tb RX11) (S : Wd G A s H0 ad g m H locs) (hx0 : gk g x0 = 12) (hl : lv_has ls 5 [(0, .ref (ad x0))]) {r : Int} {m' : Mem} (hF : bX11_addCell_0 g x0 m = some (r, m')) (Kr : ∀ (H : Heap) (locs : List Loc) (pc : Nat) (ls : Array Slot), Wd G A s H0 ad g m' H locs → decode cX11_addCell pc = .ok (.ireturn, 1) → r32 r ∧ (true = true → r = 0 ∨ r = 1) → narrow .boolean (.int (iI r)) = .int (iI r) → W p l e rX11_addCell s mt args below meth c H locs 0 0 Q (F0 mt pc ls [.int (iI r)])) : W p l e rX11_addCell s mt args below meth c H locs 0 0 Q (F0 mt 0 ls []) := by
  unfold bX11_addCell_0 at hF
  refine q_aload_n C hl 0 rfl rfl dX11_addCell_0 ?_
  refine q_geti C S 10 fo_RX11_100 (j := 10) rfl rfl hx0 dX11_addCell_1 ?_
  obtain ⟨y1, ey1, hF⟩ := vv_ok hF
  have ry1 : r32 y1 := ey1 ▸ (S.r _ _)
  refine q_istore_n C hl [(1, .int (iI y1)), (0, .ref (ad x0))] ey1 rfl (by decide) rfl dX11_addCell_4 (fun ls hl => ?_)
  refine q_aload_n C hl 1 rfl rfl dX11_addCell_5 ?_
  refine q_geti C S 15 fo_RX11_117 (j := 15) rfl rfl hx0 dX11_addCell_6 ?_
  refine q_iconst C 0 dX11_addCell_9 ?_
  refine q_bipush C 19 (by decide) dX11_addCell_10 ?_
  obtain ⟨v2, m3, h4, hF⟩ := bd2_ok hF
  refine q_ci S (run_S (As := [.int (iI (m x0 15)), .int (iI 0), .int (iI 19)]) (rest := []) C S (cX11_in_ok l G (S.r _ _) (rl 0 rfl) (rl 19 rfl) h4 ad _) gd_RX11_110 hd_X11_in rfl ⟨rfl, rfl, by decide, by decide⟩ ⟨Nat.zero_le _, Nat.zero_le _⟩ hl.1 rfl (Nat.le_of_ble_eq_true rfl) dX11_addCell_12) (fun H locs Sm3 h5 => ?_)
  refine q_if_eq C h5.1 35 dX11_addCell_15 (by decide) (fun hc6 => ?_) (fun hc6 => ?_)
  · have hF := if_t hc6 hF
    exact wX11_addCell_35 C Sm3 hx0 ry1 (lv_sub hl [1, 0] rfl) hF Kr
  · have hF := if_f hc6 hF
    refine q_aload_n C hl 1 rfl rfl dX11_addCell_18 ?_
    refine q_geti C Sm3 16 fo_RX11_120 (j := 16) rfl rfl hx0 dX11_addCell_19 ?_
    refine q_iconst C 0 dX11_addCell_22 ?_
    refine q_bipush C 19 (by decide) dX11_addCell_23 ?_
    obtain ⟨v7, m8, h9, hF⟩ := bd2_ok hF
    refine q_ci Sm3 (run_S (As := [.int (iI (m3 x0 16)), .int (iI 0), .int (iI 19)]) (rest := []) C Sm3 (cX11_in_ok l G (Sm3.r _ _) (rl 0 rfl) (rl 19 rfl) h9 ad _) gd_RX11_110 hd_X11_in rfl ⟨rfl, rfl, by decide, by decide⟩ ⟨Nat.zero_le _, Nat.zero_le _⟩ hl.1 rfl (Nat.le_of_ble_eq_true rfl) dX11_addCell_25) (fun H locs Sm8 h10 => ?_)
    refine q_if_eq C h10.1 35 dX11_addCell_28 (by decide) (fun hc11 => ?_) (fun hc11 => ?_)
    · have hF := if_t hc11 hF
      exact wX11_addCell_35 C Sm8 hx0 ry1 (lv_sub hl [1, 0] rfl) hF Kr
    · have hF := if_f hc11 hF
      refine q_iconst C 1 dX11_addCell_31 ?_
      refine q_goto C 36 dX11_addCell_32 (by decide) ?_
      exact wX11_addCell_36 C Sm8 hx0 ry1 (rl 1 rfl) (lv_sub hl [1, 0] rfl) hF Kr
theorem cX11_addCell_ok (l : Launch) (G : Gl) {g : Shp} {x0 : Int} {m m' : Mem} {r : Int} (hx0 : gk g x0 = 12) (hF : fX11_addCell g x0 m = some (r, m')) : mI l yX11_addCell (wT yX11_addCell cX11_addCell 5 (some .boolean)) rX11_addCell G true (fun ad => [.ref (ad x0)]) g m r m' :=
  met_i (by decide) (fun ad => Nat.le_of_ble_eq_true rfl) (fun p e s mt args below meth c Q A H0 H locs ad ls C hnm S hl Kr => wX11_addCell_0 C S hx0 hl hF Kr)
set_option maxRecDepth 20000 in
theorem wX11_goRun_186 {p : Program} {l : Launch} {e : Env} {s : State} {mt : MethodId} {args : Array Value} {below : List Frame} {meth : Method} {c : Code} {Q : State → Prop} {G : Gl} {A : Nat → Prop} {H0 : Heap} {ad : Int → Nat} {g : Shp} {H : Heap} {locs : List Loc} {ls : Array Slot} {m : Mem} {x0 x1 x2 x3 x6 z0 z1 z2 : Int} (C : CallFix p mt c cX11_goRun 7 s args tb RX11) (S : Wd G A s H0 ad g m H locs) (hx0 : gk g x0 = 12) (hx1 : r32 x1) (hx2 : r32 x2) (hx3 : r32 x3) (hx6 : r32 x6) (hz0 : gk g z0 = 12) (hz1 : r32 z1) (hz2 : r32 z2) (hl : lv_has ls 7 [(0, .ref (ad x0)), (1, .int (iI x1)), (2, .int (iI x2)), (3, .int (iI x3)), (6, .int (iI x6))]) {c1 : Int} {s1 : (Int × Mem)} (hF : bX11_goRun_186 g x0 x1 x2 x3 x6 z0 z1 z2 m = some (c1, s1)) (K0 : c1 = 0 → ∀ (H : Heap) (locs : List Loc) (ls : Array Slot), r32 s1.1 → Wd G A s H0 ad g s1.2 H locs → lv_has ls 7 [(0, .ref (ad x0)), (1, .int (iI x1)), (2, .int (iI x2)), (3, .int (iI x3)), (6, .int (iI s1.1))] → W p l e rX11_goRun s mt args below meth c H locs 0 0 Q (F0 mt 102 ls [])) (K1 : c1 = 1 → ∀ (H : Heap) (locs : List Loc) (ls : Array Slot), Wd G A s H0 ad g s1.2 H locs → lv_has ls 7 [] → W p l e rX11_goRun s mt args below meth c H locs 0 0 Q (F0 mt 202 ls [])) (K2 : c1 = 2 → ∀ (H : Heap) (locs : List Loc) (ls : Array Slot), Wd G A s H0 ad g s1.2 H locs → lv_has ls 7 [(0, .ref (ad x0)), (2, .int (iI x2)), (3, .int (iI x3))] → W p l e rX11_goRun s mt args below meth c H locs 0 0 Q (F0 mt 210 ls [])) : W p l e rX11_goRun s mt args below meth c H locs 0 0 Q (F0 mt 186 ls [.int (iI z2), .int (iI z1), .ref (ad z0)]) := by
  unfold bX11_goRun_186 at hF
  refine q_iadd C dX11_goRun_186 ?_
  obtain ⟨m1, em1, hF⟩ := vm_ok hF
  refine q_put C S 16 fo_RX11_120 fp_12_16 (fun h9 => absurd h9 (by decide)) (j := 16) rfl hz0 rfl rfl rfl (r32_w _) (fun h9 => absurd h9 (by decide)) em1 dX11_goRun_187 (fun H locs Sm1 => ?_)
  refine q_aload_n C hl 0 rfl rfl dX11_goRun_190 ?_
  refine q_iconst C 0 dX11_goRun_191 ?_
  obtain ⟨m2, em2, hF⟩ := vm_ok hF
  refine q_put C Sm1 17 fo_RX11_123 fp_12_17 (fun h9 => absurd h9 (by decide)) (j := 17) rfl hx0 rfl (nr_b b_0) (ft_b b_0) (rl 0 rfl) (fun h9 => absurd h9 (by decide)) em2 dX11_goRun_192 (fun H locs Sm2 => ?_)
  refine q_aload_n C hl 0 rfl rfl dX11_goRun_195 ?_
  obtain ⟨v3, m4, h5, hF⟩ := bd2_ok hF
  refine q_ci Sm2 (run_V (As := []) (rest := []) C Sm2 (cX11_addCell_ok l G hx0 h5 ad _) hx0 ⟨by decide, _, _, rfl⟩ gd_RX11_130 hdV_X11_addCell rfl ⟨rfl, rfl, by decide, by decide⟩ ⟨Nat.zero_le _, Nat.zero_le _⟩ hl.1 rfl (Nat.le_of_ble_eq_true rfl) dX11_goRun_196) (fun H locs Sm4 h6 => ?_)
  refine q_if_ne C h6.1 204 dX11_goRun_199 (by decide) (fun hc7 => ?_) (fun hc7 => ?_)
  · have hF := if_t hc7 hF
    cases hF
    exact K1 rfl _ _ _  Sm4 (lv_sub hl [] rfl)
  · have hF := if_f hc7 hF
    obtain ⟨y8, ey8, hF⟩ := vv_ok hF
    have ry8 : r32 y8 := ey8 ▸ r32_w _
    refine q_iinc C hl 4 [(6, .int (iI y8)), (0, .ref (ad x0)), (1, .int (iI x1)), (2, .int (iI x2)), (3, .int (iI x3))] rfl ey8 (by decide) rfl dX11_goRun_204 (fun ls hl => ?_)
    refine q_goto C 102 dX11_goRun_207 (by decide) ?_
    cases hF
    exact K0 rfl _ _ _ ry8 Sm4 (lv_sub hl [1, 2, 3, 4, 0] rfl)
set_option maxRecDepth 20000 in
theorem wX11_goRun_145 {p : Program} {l : Launch} {e : Env} {s : State} {mt : MethodId} {args : Array Value} {below : List Frame} {meth : Method} {c : Code} {Q : State → Prop} {G : Gl} {A : Nat → Prop} {H0 : Heap} {ad : Int → Nat} {g : Shp} {H : Heap} {locs : List Loc} {ls : Array Slot} {m : Mem} {x0 x1 x2 x3 x6 z0 z1 z2 : Int} (C : CallFix p mt c cX11_goRun 7 s args tb RX11) (S : Wd G A s H0 ad g m H locs) (hx0 : gk g x0 = 12) (hx1 : r32 x1) (hx2 : r32 x2) (hx3 : r32 x3) (hx6 : r32 x6) (hz0 : gk g z0 = 12) (hz1 : r32 z1) (hz2 : r32 z2) (hl : lv_has ls 7 [(0, .ref (ad x0)), (1, .int (iI x1)), (2, .int (iI x2)), (3, .int (iI x3)), (6, .int (iI x6))]) {c1 : Int} {s1 : (Int × Mem)} (hF : bX11_goRun_145 g x0 x1 x2 x3 x6 z0 z1 z2 m = some (c1, s1)) (K0 : c1 = 0 → ∀ (H : Heap) (locs : List Loc) (ls : Array Slot), r32 s1.1 → Wd G A s H0 ad g s1.2 H locs → lv_has ls 7 [(0, .ref (ad x0)), (1, .int (iI x1)), (2, .int (iI x2)), (3, .int (iI x3)), (6, .int (iI s1.1))] → W p l e rX11_goRun s mt args below meth c H locs 0 0 Q (F0 mt 102 ls [])) (K1 : c1 = 1 → ∀ (H : Heap) (locs : List Loc) (ls : Array Slot), Wd G A s H0 ad g s1.2 H locs → lv_has ls 7 [] → W p l e rX11_goRun s mt args below meth c H locs 0 0 Q (F0 mt 202 ls [])) (K2 : c1 = 2 → ∀ (H : Heap) (locs : List Loc) (ls : Array Slot), Wd G A s H0 ad g s1.2 H locs → lv_has ls 7 [(0, .ref (ad x0)), (2, .int (iI x2)), (3, .int (iI x3))] → W p l e rX11_goRun s mt args below meth c H locs 0 0 Q (F0 mt 210 ls [])) : W p l e rX11_goRun s mt args below meth c H locs 0 0 Q (F0 mt 145 ls [.int (iI z2), .int (iI z1), .ref (ad z0)]) := by
  unfold bX11_goRun_145 at hF
  refine q_iadd C dX11_goRun_145 ?_
  obtain ⟨m1, em1, hF⟩ := vm_ok hF
  refine q_put C S 15 fo_RX11_117 fp_12_15 (fun h9 => absurd h9 (by decide)) (j := 15) rfl hz0 rfl rfl rfl (r32_w _) (fun h9 => absurd h9 (by decide)) em1 dX11_goRun_146 (fun H locs Sm1 => ?_)
  refine q_aload_n C hl 0 rfl rfl dX11_goRun_149 ?_
  refine q_dup C rfl dX11_goRun_150 ?_
  refine q_geti C Sm1 16 fo_RX11_120 (j := 16) rfl rfl hx0 dX11_goRun_151 ?_
  refine q_aload_n C hl 0 rfl rfl dX11_goRun_154 ?_
  refine q_geti C Sm1 17 fo_RX11_123 (j := 17) rfl rfl hx0 dX11_goRun_155 ?_
  refine q_if_eq C (Sm1.r _ _) 165 dX11_goRun_158 (by decide) (fun hc2 => ?_) (fun hc2 => ?_)
  · have hF := if_t hc2 hF
    refine q_iload_n C hl 1 rfl rfl dX11_goRun_165 ?_
    refine q_bipush C 100 (by decide) dX11_goRun_166 ?_
    refine q_icmp_ne C hx1 (rl 100 rfl) 175 dX11_goRun_168 (by decide) (fun hc3 => ?_) (fun hc3 => ?_)
    · have hF := if_t hc3 hF
      refine q_iconst C 1 dX11_goRun_171 ?_
      refine q_goto C 186 dX11_goRun_172 (by decide) ?_
      exact wX11_goRun_186 C Sm1 hx0 hx1 hx2 hx3 hx6 hx0 (Sm1.r _ _) (rl 1 rfl) (lv_sub hl [0, 1, 2, 3, 4] rfl) hF K0 K1 K2
    · have hF := if_f hc3 hF
      refine q_iload_n C hl 1 rfl rfl dX11_goRun_175 ?_
      refine q_bipush C 117 (by decide) dX11_goRun_176 ?_
      refine q_icmp_ne C hx1 (rl 117 rfl) 185 dX11_goRun_178 (by decide) (fun hc4 => ?_) (fun hc4 => ?_)
      · have hF := if_t hc4 hF
        refine q_iconst C (-1) dX11_goRun_181 ?_
        refine q_goto C 186 dX11_goRun_182 (by decide) ?_
        exact wX11_goRun_186 C Sm1 hx0 hx1 hx2 hx3 hx6 hx0 (Sm1.r _ _) (rl (-1) rfl) (lv_sub hl [0, 1, 2, 3, 4] rfl) hF K0 K1 K2
      · have hF := if_f hc4 hF
        refine q_iconst C 0 dX11_goRun_185 ?_
        exact wX11_goRun_186 C Sm1 hx0 hx1 hx2 hx3 hx6 hx0 (Sm1.r _ _) (rl 0 rfl) (lv_sub hl [0, 1, 2, 3, 4] rfl) hF K0 K1 K2
  · have hF := if_f hc2 hF
    refine q_iconst C 0 dX11_goRun_161 ?_
    refine q_goto C 186 dX11_goRun_162 (by decide) ?_
    exact wX11_goRun_186 C Sm1 hx0 hx1 hx2 hx3 hx6 hx0 (Sm1.r _ _) (rl 0 rfl) (lv_sub hl [0, 1, 2, 3, 4] rfl) hF K0 K1 K2
set_option maxRecDepth 20000 in
theorem wX11_goRun_102 {p : Program} {l : Launch} {e : Env} {s : State} {mt : MethodId} {args : Array Value} {below : List Frame} {meth : Method} {c : Code} {Q : State → Prop} {G : Gl} {A : Nat → Prop} {H0 : Heap} {ad : Int → Nat} {g : Shp} {H : Heap} {locs : List Loc} {ls : Array Slot} {m : Mem} {x0 x1 x2 x3 x6 : Int} (C : CallFix p mt c cX11_goRun 7 s args tb RX11) (S : Wd G A s H0 ad g m H locs) (hx0 : gk g x0 = 12) (hx1 : r32 x1) (hx2 : r32 x2) (hx3 : r32 x3) (hx6 : r32 x6) (hl : lv_has ls 7 [(0, .ref (ad x0)), (1, .int (iI x1)), (2, .int (iI x2)), (3, .int (iI x3)), (6, .int (iI x6))]) {c1 : Int} {s1 : (Int × Mem)} (hF : bX11_goRun_102 g x0 x1 x2 x3 x6 m = some (c1, s1)) (K0 : c1 = 0 → ∀ (H : Heap) (locs : List Loc) (ls : Array Slot), r32 s1.1 → Wd G A s H0 ad g s1.2 H locs → lv_has ls 7 [(0, .ref (ad x0)), (1, .int (iI x1)), (2, .int (iI x2)), (3, .int (iI x3)), (6, .int (iI s1.1))] → W p l e rX11_goRun s mt args below meth c H locs 0 0 Q (F0 mt 102 ls [])) (K1 : c1 = 1 → ∀ (H : Heap) (locs : List Loc) (ls : Array Slot), Wd G A s H0 ad g s1.2 H locs → lv_has ls 7 [] → W p l e rX11_goRun s mt args below meth c H locs 0 0 Q (F0 mt 202 ls [])) (K2 : c1 = 2 → ∀ (H : Heap) (locs : List Loc) (ls : Array Slot), Wd G A s H0 ad g s1.2 H locs → lv_has ls 7 [(0, .ref (ad x0)), (2, .int (iI x2)), (3, .int (iI x3))] → W p l e rX11_goRun s mt args below meth c H locs 0 0 Q (F0 mt 210 ls [])) : W p l e rX11_goRun s mt args below meth c H locs 0 0 Q (F0 mt 102 ls []) := by
  unfold bX11_goRun_102 at hF
  refine q_iload C hl 4 rfl dX11_goRun_102 ?_
  refine q_iload_n C hl 2 rfl rfl dX11_goRun_104 ?_
  refine q_icmp_ge C hx6 hx2 210 dX11_goRun_105 (by decide) (fun hc1 => ?_) (fun hc1 => ?_)
  · have hF := if_t hc1 hF
    cases hF
    exact K2 rfl _ _ _  S (lv_sub hl [0, 2, 3] rfl)
  · have hF := if_f hc1 hF
    refine q_aload_n C hl 0 rfl rfl dX11_goRun_108 ?_
    refine q_dup C rfl dX11_goRun_109 ?_
    refine q_geti C S 15 fo_RX11_117 (j := 15) rfl rfl hx0 dX11_goRun_110 ?_
    refine q_aload_n C hl 0 rfl rfl dX11_goRun_113 ?_
    refine q_geti C S 17 fo_RX11_123 (j := 17) rfl rfl hx0 dX11_goRun_114 ?_
    refine q_if_eq C (S.r _ _) 124 dX11_goRun_117 (by decide) (fun hc2 => ?_) (fun hc2 => ?_)
    · have hF := if_t hc2 hF
      refine q_iload_n C hl 1 rfl rfl dX11_goRun_124 ?_
      refine q_bipush C 114 (by decide) dX11_goRun_125 ?_
      refine q_icmp_ne C hx1 (rl 114 rfl) 134 dX11_goRun_127 (by decide) (fun hc3 => ?_) (fun hc3 => ?_)
      · have hF := if_t hc3 hF
        refine q_iconst C 1 dX11_goRun_130 ?_
        refine q_goto C 145 dX11_goRun_131 (by decide) ?_
        exact wX11_goRun_145 C S hx0 hx1 hx2 hx3 hx6 hx0 (S.r _ _) (rl 1 rfl) (lv_sub hl [0, 1, 2, 3, 4] rfl) hF K0 K1 K2
      · have hF := if_f hc3 hF
        refine q_iload_n C hl 1 rfl rfl dX11_goRun_134 ?_
        refine q_bipush C 108 (by decide) dX11_goRun_135 ?_
        refine q_icmp_ne C hx1 (rl 108 rfl) 144 dX11_goRun_137 (by decide) (fun hc4 => ?_) (fun hc4 => ?_)
        · have hF := if_t hc4 hF
          refine q_iconst C (-1) dX11_goRun_140 ?_
          refine q_goto C 145 dX11_goRun_141 (by decide) ?_
          exact wX11_goRun_145 C S hx0 hx1 hx2 hx3 hx6 hx0 (S.r _ _) (rl (-1) rfl) (lv_sub hl [0, 1, 2, 3, 4] rfl) hF K0 K1 K2
        · have hF := if_f hc4 hF
          refine q_iconst C 0 dX11_goRun_144 ?_
          exact wX11_goRun_145 C S hx0 hx1 hx2 hx3 hx6 hx0 (S.r _ _) (rl 0 rfl) (lv_sub hl [0, 1, 2, 3, 4] rfl) hF K0 K1 K2
    · have hF := if_f hc2 hF
      refine q_iconst C 0 dX11_goRun_120 ?_
      refine q_goto C 145 dX11_goRun_121 (by decide) ?_
      exact wX11_goRun_145 C S hx0 hx1 hx2 hx3 hx6 hx0 (S.r _ _) (rl 0 rfl) (lv_sub hl [0, 1, 2, 3, 4] rfl) hF K0 K1 K2
set_option maxRecDepth 20000 in
theorem lX11_goRun_102 {p : Program} {l : Launch} {e : Env} {s : State} {mt : MethodId} {args : Array Value} {below : List Frame} {meth : Method} {c : Code} {Q : State → Prop} {G : Gl} {A : Nat → Prop} {H0 : Heap} {ad : Int → Nat} {g : Shp} {x0 x1 x2 x3 : Int} (C : CallFix p mt c cX11_goRun 7 s args tb RX11) (hx0 : gk g x0 = 12) (hx1 : r32 x1) (hx2 : r32 x2) (hx3 : r32 x3) {n : Nat} {s0 s1 : (Int × Mem)} {c1 : Int} (hI : iter (BX11_goRun_102 g x0 x1 x2 x3) n s0 = some (c1, s1)) (K1 : c1 = 1 → ∀ (H : Heap) (locs : List Loc) (ls : Array Slot), Wd G A s H0 ad g s1.2 H locs → lv_has ls 7 [] → W p l e rX11_goRun s mt args below meth c H locs 0 0 Q (F0 mt 202 ls [])) (K2 : c1 = 2 → ∀ (H : Heap) (locs : List Loc) (ls : Array Slot), Wd G A s H0 ad g s1.2 H locs → lv_has ls 7 [(0, .ref (ad x0)), (2, .int (iI x2)), (3, .int (iI x3))] → W p l e rX11_goRun s mt args below meth c H locs 0 0 Q (F0 mt 210 ls [])) : ∀ (H : Heap) (locs : List Loc) (ls : Array Slot), r32 s0.1 → Wd G A s H0 ad g s0.2 H locs → lv_has ls 7 [(0, .ref (ad x0)), (1, .int (iI x1)), (2, .int (iI x2)), (3, .int (iI x3)), (6, .int (iI s0.1))] → W p l e rX11_goRun s mt args below meth c H locs 0 0 Q (F0 mt 102 ls []) :=
  iter_W (Pw := fun q => ∀ (H : Heap) (locs : List Loc) (ls : Array Slot), r32 q.1 → Wd G A s H0 ad g q.2 H locs → lv_has ls 7 [(0, .ref (ad x0)), (1, .int (iI x1)), (2, .int (iI x2)), (3, .int (iI x3)), (6, .int (iI q.1))] → W p l e rX11_goRun s mt args below meth c H locs 0 0 Q (F0 mt 102 ls [])) (Px := fun c0 q => (c0 = 1 → ∀ (H : Heap) (locs : List Loc) (ls : Array Slot), Wd G A s H0 ad g q.2 H locs → lv_has ls 7 [] → W p l e rX11_goRun s mt args below meth c H locs 0 0 Q (F0 mt 202 ls [])) ∧ (c0 = 2 → ∀ (H : Heap) (locs : List Loc) (ls : Array Slot), Wd G A s H0 ad g q.2 H locs → lv_has ls 7 [(0, .ref (ad x0)), (2, .int (iI x2)), (3, .int (iI x3))] → W p l e rX11_goRun s mt args below meth c H locs 0 0 Q (F0 mt 210 ls [])))
    (fun s c s' hB K0 kx H locs ls f0 S hl => wX11_goRun_102 C S hx0 hx1 hx2 hx3 f0 hl hB K0 (fun h9 => (kx (by rw [h9]; decide)).1 h9) (fun h9 => (kx (by rw [h9]; decide)).2 h9)) _ _ _ _ hI ⟨K1, K2⟩
set_option maxRecDepth 20000 in
theorem wX11_goRun_91 {p : Program} {l : Launch} {e : Env} {s : State} {mt : MethodId} {args : Array Value} {below : List Frame} {meth : Method} {c : Code} {Q : State → Prop} {G : Gl} {A : Nat → Prop} {H0 : Heap} {ad : Int → Nat} {g : Shp} {H : Heap} {locs : List Loc} {ls : Array Slot} {m : Mem} (C : CallFix p mt c cX11_goRun 7 s args tb RX11) (S : Wd G A s H0 ad g m H locs)  (hl : lv_has ls 7 []) {r : Int} {m' : Mem} (hF : bX11_goRun_91 g m = some (r, m')) (Kr : ∀ (H : Heap) (locs : List Loc) (pc : Nat) (ls : Array Slot), Wd G A s H0 ad g m' H locs → decode cX11_goRun pc = .ok (.ireturn, 1) → r32 r ∧ (true = true → r = 0 ∨ r = 1) → narrow .boolean (.int (iI r)) = .int (iI r) → W p l e rX11_goRun s mt args below meth c H locs 0 0 Q (F0 mt pc ls [.int (iI r)])) : W p l e rX11_goRun s mt args below meth c H locs 0 0 Q (F0 mt 91 ls []) := by
  unfold bX11_goRun_91 at hF
  refine q_iconst C 0 dX11_goRun_91 ?_
  cases hF
  exact Kr _ _ _ _ S dX11_goRun_92 ⟨r_b b_0, fun _ => b_0⟩ (nr_b b_0)
set_option maxRecDepth 20000 in
theorem wX11_goRun_202 {p : Program} {l : Launch} {e : Env} {s : State} {mt : MethodId} {args : Array Value} {below : List Frame} {meth : Method} {c : Code} {Q : State → Prop} {G : Gl} {A : Nat → Prop} {H0 : Heap} {ad : Int → Nat} {g : Shp} {H : Heap} {locs : List Loc} {ls : Array Slot} {m : Mem} (C : CallFix p mt c cX11_goRun 7 s args tb RX11) (S : Wd G A s H0 ad g m H locs)  (hl : lv_has ls 7 []) {r : Int} {m' : Mem} (hF : bX11_goRun_202 g m = some (r, m')) (Kr : ∀ (H : Heap) (locs : List Loc) (pc : Nat) (ls : Array Slot), Wd G A s H0 ad g m' H locs → decode cX11_goRun pc = .ok (.ireturn, 1) → r32 r ∧ (true = true → r = 0 ∨ r = 1) → narrow .boolean (.int (iI r)) = .int (iI r) → W p l e rX11_goRun s mt args below meth c H locs 0 0 Q (F0 mt pc ls [.int (iI r)])) : W p l e rX11_goRun s mt args below meth c H locs 0 0 Q (F0 mt 202 ls []) := by
  unfold bX11_goRun_202 at hF
  refine q_iconst C 0 dX11_goRun_202 ?_
  cases hF
  exact Kr _ _ _ _ S dX11_goRun_203 ⟨r_b b_0, fun _ => b_0⟩ (nr_b b_0)
set_option maxRecDepth 20000 in
theorem wX11_goRun_210 {p : Program} {l : Launch} {e : Env} {s : State} {mt : MethodId} {args : Array Value} {below : List Frame} {meth : Method} {c : Code} {Q : State → Prop} {G : Gl} {A : Nat → Prop} {H0 : Heap} {ad : Int → Nat} {g : Shp} {H : Heap} {locs : List Loc} {ls : Array Slot} {m : Mem} {x0 x2 x3 : Int} (C : CallFix p mt c cX11_goRun 7 s args tb RX11) (S : Wd G A s H0 ad g m H locs) (hx0 : gk g x0 = 12) (hx2 : r32 x2) (hx3 : r32 x3) (hl : lv_has ls 7 [(0, .ref (ad x0)), (2, .int (iI x2)), (3, .int (iI x3))]) {r : Int} {m' : Mem} (hF : bX11_goRun_210 g x0 x2 x3 m = some (r, m')) (Kr : ∀ (H : Heap) (locs : List Loc) (pc : Nat) (ls : Array Slot), Wd G A s H0 ad g m' H locs → decode cX11_goRun pc = .ok (.ireturn, 1) → r32 r ∧ (true = true → r = 0 ∨ r = 1) → narrow .boolean (.int (iI r)) = .int (iI r) → W p l e rX11_goRun s mt args below meth c H locs 0 0 Q (F0 mt pc ls [.int (iI r)])) : W p l e rX11_goRun s mt args below meth c H locs 0 0 Q (F0 mt 210 ls []) := by
  unfold bX11_goRun_210 at hF
  refine q_aload_n C hl 0 rfl rfl dX11_goRun_210 ?_
  obtain ⟨k1, hF⟩ := ck_ok hF
  refine q_getr C S 12 fo_RX11_31 (j := 12) rfl rfl hx0 k1 (by decide) dX11_goRun_211 ?_
  refine q_iconst C 5 dX11_goRun_214 ?_
  refine q_iload_n C hl 2 rfl rfl dX11_goRun_215 ?_
  refine q_imul C dX11_goRun_216 ?_
  refine q_aload_n C hl 0 rfl rfl dX11_goRun_217 ?_
  obtain ⟨k2, hF⟩ := ck_ok hF
  refine q_getr C S 11 fo_RX11_28 (j := 11) rfl rfl hx0 k2 (by decide) dX11_goRun_218 ?_
  refine q_iload_n C hl 2 rfl rfl dX11_goRun_221 ?_
  obtain ⟨i3, hF⟩ := ck_ok hF
  refine q_iald C S k2 i3 dX11_goRun_222 ?_
  refine q_iadd C dX11_goRun_223 ?_
  refine q_iload_n C hl 1 rfl rfl dX11_goRun_224 ?_
  obtain ⟨i4, hF⟩ := ck_ok hF
  obtain ⟨m5, em5, hF⟩ := vm_ok hF
  refine q_iast C S k1 i4 hx2 em5 dX11_goRun_225 (fun H locs Sm5 => ?_)
  refine q_aload_n C hl 0 rfl rfl dX11_goRun_226 ?_
  obtain ⟨k6, hF⟩ := ck_ok hF
  refine q_getr C Sm5 11 fo_RX11_28 (j := 11) rfl rfl hx0 k6 (by decide) dX11_goRun_227 ?_
  refine q_iload_n C hl 2 rfl rfl dX11_goRun_230 ?_
  refine q_dup2 C rfl rfl dX11_goRun_231 ?_
  obtain ⟨i7, hF⟩ := ck_ok hF
  refine q_iald C Sm5 k6 i7 dX11_goRun_232 ?_
  refine q_iconst C 1 dX11_goRun_233 ?_
  refine q_iadd C dX11_goRun_234 ?_
  obtain ⟨i8, hF⟩ := ck_ok hF
  obtain ⟨m9, em9, hF⟩ := vm_ok hF
  refine q_iast C Sm5 k6 i8 (r32_w _) em9 dX11_goRun_235 (fun H locs Sm9 => ?_)
  refine q_iconst C 1 dX11_goRun_236 ?_
  cases hF
  exact Kr _ _ _ _ Sm9 dX11_goRun_237 ⟨r_b b_1, fun _ => b_1⟩ (nr_b b_1)
set_option maxRecDepth 20000 in
theorem wX11_goRun_93 {p : Program} {l : Launch} {e : Env} {s : State} {mt : MethodId} {args : Array Value} {below : List Frame} {meth : Method} {c : Code} {Q : State → Prop} {G : Gl} {A : Nat → Prop} {H0 : Heap} {ad : Int → Nat} {g : Shp} {H : Heap} {locs : List Loc} {ls : Array Slot} {m : Mem} {x0 x1 x2 x3 x4 : Int} (C : CallFix p mt c cX11_goRun 7 s args tb RX11) (S : Wd G A s H0 ad g m H locs) (hx0 : gk g x0 = 12) (hx1 : r32 x1) (hx2 : r32 x2) (hx3 : r32 x3) (hx4 : r32 x4) (hl : lv_has ls 7 [(0, .ref (ad x0)), (1, .int (iI x1)), (2, .int (iI x2)), (3, .int (iI x3)), (4, .int (iI x4))]) {r : Int} {m' : Mem} (hF : bX11_goRun_93 g x0 x1 x2 x3 x4 m = some (r, m')) (Kr : ∀ (H : Heap) (locs : List Loc) (pc : Nat) (ls : Array Slot), Wd G A s H0 ad g m' H locs → decode cX11_goRun pc = .ok (.ireturn, 1) → r32 r ∧ (true = true → r = 0 ∨ r = 1) → narrow .boolean (.int (iI r)) = .int (iI r) → W p l e rX11_goRun s mt args below meth c H locs 0 0 Q (F0 mt pc ls [.int (iI r)])) : W p l e rX11_goRun s mt args below meth c H locs 0 0 Q (F0 mt 93 ls []) := by
  unfold bX11_goRun_93 at hF
  refine q_aload_n C hl 0 rfl rfl dX11_goRun_93 ?_
  refine q_iload C hl 4 rfl dX11_goRun_94 ?_
  obtain ⟨b1, hF⟩ := ck_ok hF
  obtain ⟨m2, em2, hF⟩ := vm_ok hF
  refine q_put C S 18 fo_RX11_127 fp_12_18 (fun h9 => absurd h9 (by decide)) (j := 18) rfl hx0 rfl (nr_b b1) (ft_b b1) hx4 (fun h9 => absurd h9 (by decide)) em2 dX11_goRun_96 (fun H locs Sm2 => ?_)
  refine q_iconst C 0 dX11_goRun_99 ?_
  refine q_istore C hl [(6, .int (iI 0)), (0, .ref (ad x0)), (1, .int (iI x1)), (2, .int (iI x2)), (3, .int (iI x3)), (4, .int (iI x4))] rfl (by decide) rfl dX11_goRun_100 (fun ls hl => ?_)
  obtain ⟨cv3, sv4, hi5, hF⟩ := bdl_ok hF
  refine lX11_goRun_102 C hx0 hx1 hx2 hx3 hi5 ?_ ?_ _ _ _ (rl 0 rfl) Sm2 (lv_sub hl [1, 2, 3, 4, 0] rfl)
  · intro hc6 H locs ls  S7 hl
    have hF := if_t hc6 hF
    exact wX11_goRun_202 C S7  (lv_sub hl [] rfl) hF Kr
  · intro hc8 H locs ls  S9 hl
    have hF := if_f (by rw [hc8]; decide) hF
    exact wX11_goRun_210 C S9 hx0 hx2 hx3 (lv_sub hl [0, 1, 2] rfl) hF Kr
set_option maxRecDepth 20000 in
theorem wX11_goRun_53 {p : Program} {l : Launch} {e : Env} {s : State} {mt : MethodId} {args : Array Value} {below : List Frame} {meth : Method} {c : Code} {Q : State → Prop} {G : Gl} {A : Nat → Prop} {H0 : Heap} {ad : Int → Nat} {g : Shp} {H : Heap} {locs : List Loc} {ls : Array Slot} {m : Mem} {x0 x1 x2 x3 x4 : Int} (C : CallFix p mt c cX11_goRun 7 s args tb RX11) (S : Wd G A s H0 ad g m H locs) (hx0 : gk g x0 = 12) (hx1 : r32 x1) (hx2 : r32 x2) (hx3 : r32 x3) (hx4 : r32 x4) (hl : lv_has ls 7 [(0, .ref (ad x0)), (1, .int (iI x1)), (2, .int (iI x2)), (3, .int (iI x3)), (4, .int (iI x4))]) {r : Int} {m' : Mem} (hF : bX11_goRun_53 g x0 x1 x2 x3 x4 m = some (r, m')) (Kr : ∀ (H : Heap) (locs : List Loc) (pc : Nat) (ls : Array Slot), Wd G A s H0 ad g m' H locs → decode cX11_goRun pc = .ok (.ireturn, 1) → r32 r ∧ (true = true → r = 0 ∨ r = 1) → narrow .boolean (.int (iI r)) = .int (iI r) → W p l e rX11_goRun s mt args below meth c H locs 0 0 Q (F0 mt pc ls [.int (iI r)])) : W p l e rX11_goRun s mt args below meth c H locs 0 0 Q (F0 mt 53 ls []) := by
  unfold bX11_goRun_53 at hF
  refine q_iload_n C hl 2 rfl rfl dX11_goRun_53 ?_
  refine q_iconst C 1 dX11_goRun_54 ?_
  refine q_bipush C 12 (by decide) dX11_goRun_55 ?_
  obtain ⟨v1, m2, h3, hF⟩ := bd2_ok hF
  refine q_ci S (run_S (As := [.int (iI x2), .int (iI 1), .int (iI 12)]) (rest := []) C S (cX11_in_ok l G hx2 (rl 1 rfl) (rl 12 rfl) h3 ad _) gd_RX11_110 hd_X11_in rfl ⟨rfl, rfl, by decide, by decide⟩ ⟨Nat.zero_le _, Nat.zero_le _⟩ hl.1 rfl (Nat.le_of_ble_eq_true rfl) dX11_goRun_57) (fun H locs Sm2 h4 => ?_)
  refine q_if_eq C h4.1 91 dX11_goRun_60 (by decide) (fun hc5 => ?_) (fun hc5 => ?_)
  · have hF := if_t hc5 hF
    exact wX11_goRun_91 C Sm2  (lv_sub hl [] rfl) hF Kr
  · have hF := if_f hc5 hF
    refine q_aload_n C hl 0 rfl rfl dX11_goRun_63 ?_
    obtain ⟨k6, hF⟩ := ck_ok hF
    refine q_getr C Sm2 11 fo_RX11_28 (j := 11) rfl rfl hx0 k6 (by decide) dX11_goRun_64 ?_
    refine q_iload_n C hl 3 rfl rfl dX11_goRun_67 ?_
    obtain ⟨i7, hF⟩ := ck_ok hF
    refine q_iald C Sm2 k6 i7 dX11_goRun_68 ?_
    refine q_iconst C 5 dX11_goRun_69 ?_
    refine q_icmp_eq C (Sm2.r _ _) (rl 5 rfl) 91 dX11_goRun_70 (by decide) (fun hc8 => ?_) (fun hc8 => ?_)
    · have hF := if_t hc8 hF
      exact wX11_goRun_91 C Sm2  (lv_sub hl [] rfl) hF Kr
    · have hF := if_f hc8 hF
      refine q_aload_n C hl 0 rfl rfl dX11_goRun_73 ?_
      refine q_getr C Sm2 11 fo_RX11_28 (j := 11) rfl rfl hx0 k6 (by decide) dX11_goRun_74 ?_
      refine q_iload_n C hl 3 rfl rfl dX11_goRun_77 ?_
      obtain ⟨i9, hF⟩ := ck_ok hF
      refine q_iald C Sm2 k6 i9 dX11_goRun_78 ?_
      refine q_if_le C (Sm2.r _ _) 93 dX11_goRun_79 (by decide) (fun hc10 => ?_) (fun hc10 => ?_)
      · have hF := if_t hc10 hF
        exact wX11_goRun_93 C Sm2 hx0 hx1 hx2 hx3 hx4 (lv_sub hl [0, 1, 2, 3, 4] rfl) hF Kr
      · have hF := if_f hc10 hF
        refine q_iload C hl 4 rfl dX11_goRun_82 ?_
        refine q_aload_n C hl 0 rfl rfl dX11_goRun_84 ?_
        refine q_geti C Sm2 18 fo_RX11_127 (j := 18) rfl rfl hx0 dX11_goRun_85 ?_
        refine q_icmp_ne C hx4 (Sm2.r _ _) 93 dX11_goRun_88 (by decide) (fun hc11 => ?_) (fun hc11 => ?_)
        · have hF := if_t hc11 hF
          exact wX11_goRun_91 C Sm2  (lv_sub hl [] rfl) hF Kr
        · have hF := if_f hc11 hF
          exact wX11_goRun_93 C Sm2 hx0 hx1 hx2 hx3 hx4 (lv_sub hl [0, 1, 2, 3, 4] rfl) hF Kr
set_option maxRecDepth 20000 in
theorem wX11_goRun_41 {p : Program} {l : Launch} {e : Env} {s : State} {mt : MethodId} {args : Array Value} {below : List Frame} {meth : Method} {c : Code} {Q : State → Prop} {G : Gl} {A : Nat → Prop} {H0 : Heap} {ad : Int → Nat} {g : Shp} {H : Heap} {locs : List Loc} {ls : Array Slot} {m : Mem} {x0 x1 x2 x3 x4 z0 : Int} (C : CallFix p mt c cX11_goRun 7 s args tb RX11) (S : Wd G A s H0 ad g m H locs) (hx0 : gk g x0 = 12) (hx1 : r32 x1) (hx2 : r32 x2) (hx3 : r32 x3) (hx4 : r32 x4) (hz0 : r32 z0) (hl : lv_has ls 7 [(0, .ref (ad x0)), (1, .int (iI x1)), (2, .int (iI x2)), (3, .int (iI x3)), (4, .int (iI x4))]) {r : Int} {m' : Mem} (hF : bX11_goRun_41 g x0 x1 x2 x3 x4 z0 m = some (r, m')) (Kr : ∀ (H : Heap) (locs : List Loc) (pc : Nat) (ls : Array Slot), Wd G A s H0 ad g m' H locs → decode cX11_goRun pc = .ok (.ireturn, 1) → r32 r ∧ (true = true → r = 0 ∨ r = 1) → narrow .boolean (.int (iI r)) = .int (iI r) → W p l e rX11_goRun s mt args below meth c H locs 0 0 Q (F0 mt pc ls [.int (iI r)])) : W p l e rX11_goRun s mt args below meth c H locs 0 0 Q (F0 mt 41 ls [.int (iI z0)]) := by
  unfold bX11_goRun_41 at hF
  refine q_istore C hl [(5, .int (iI z0)), (0, .ref (ad x0)), (1, .int (iI x1)), (2, .int (iI x2)), (3, .int (iI x3)), (4, .int (iI x4))] rfl (by decide) rfl dX11_goRun_41 (fun ls hl => ?_)
  refine q_iload C hl 5 rfl dX11_goRun_43 ?_
  refine q_if_ne C hx4 53 dX11_goRun_45 (by decide) (fun hc1 => ?_) (fun hc1 => ?_)
  · have hF := if_t hc1 hF
    refine q_iload C hl 0 rfl dX11_goRun_48 ?_
    refine q_if_eq C hz0 91 dX11_goRun_50 (by decide) (fun hc2 => ?_) (fun hc2 => ?_)
    · have hF := if_t hc2 hF
      exact wX11_goRun_91 C S  (lv_sub hl [] rfl) hF Kr
    · have hF := if_f hc2 hF
      exact wX11_goRun_53 C S hx0 hx1 hx2 hx3 hx4 (lv_sub hl [1, 2, 3, 4, 5] rfl) hF Kr
  · have hF := if_f hc1 hF
    exact wX11_goRun_53 C S hx0 hx1 hx2 hx3 hx4 (lv_sub hl [1, 2, 3, 4, 5] rfl) hF Kr
set_option maxRecDepth 20000 in
theorem wX11_goRun_36 {p : Program} {l : Launch} {e : Env} {s : State} {mt : MethodId} {args : Array Value} {below : List Frame} {meth : Method} {c : Code} {Q : State → Prop} {G : Gl} {A : Nat → Prop} {H0 : Heap} {ad : Int → Nat} {g : Shp} {H : Heap} {locs : List Loc} {ls : Array Slot} {m : Mem} {x0 x1 x2 x3 x4 : Int} (C : CallFix p mt c cX11_goRun 7 s args tb RX11) (S : Wd G A s H0 ad g m H locs) (hx0 : gk g x0 = 12) (hx1 : r32 x1) (hx2 : r32 x2) (hx3 : r32 x3) (hx4 : r32 x4) (hl : lv_has ls 7 [(0, .ref (ad x0)), (1, .int (iI x1)), (2, .int (iI x2)), (3, .int (iI x3)), (4, .int (iI x4))]) {r : Int} {m' : Mem} (hF : bX11_goRun_36 g x0 x1 x2 x3 x4 m = some (r, m')) (Kr : ∀ (H : Heap) (locs : List Loc) (pc : Nat) (ls : Array Slot), Wd G A s H0 ad g m' H locs → decode cX11_goRun pc = .ok (.ireturn, 1) → r32 r ∧ (true = true → r = 0 ∨ r = 1) → narrow .boolean (.int (iI r)) = .int (iI r) → W p l e rX11_goRun s mt args below meth c H locs 0 0 Q (F0 mt pc ls [.int (iI r)])) : W p l e rX11_goRun s mt args below meth c H locs 0 0 Q (F0 mt 36 ls []) := by
  unfold bX11_goRun_36 at hF
  refine q_iconst C 1 dX11_goRun_36 ?_
  refine q_goto C 41 dX11_goRun_37 (by decide) ?_
  exact wX11_goRun_41 C S hx0 hx1 hx2 hx3 hx4 (rl 1 rfl) (lv_sub hl [0, 1, 2, 3, 4] rfl) hF Kr
set_option maxRecDepth 20000 in
theorem wX11_goRun_22 {p : Program} {l : Launch} {e : Env} {s : State} {mt : MethodId} {args : Array Value} {below : List Frame} {meth : Method} {c : Code} {Q : State → Prop} {G : Gl} {A : Nat → Prop} {H0 : Heap} {ad : Int → Nat} {g : Shp} {H : Heap} {locs : List Loc} {ls : Array Slot} {m : Mem} {x0 x1 x2 x3 z0 : Int} (C : CallFix p mt c cX11_goRun 7 s args tb RX11) (S : Wd G A s H0 ad g m H locs) (hx0 : gk g x0 = 12) (hx1 : r32 x1) (hx2 : r32 x2) (hx3 : r32 x3) (hz0 : r32 z0) (hl : lv_has ls 7 [(0, .ref (ad x0)), (1, .int (iI x1)), (2, .int (iI x2)), (3, .int (iI x3))]) {r : Int} {m' : Mem} (hF : bX11_goRun_22 g x0 x1 x2 x3 z0 m = some (r, m')) (Kr : ∀ (H : Heap) (locs : List Loc) (pc : Nat) (ls : Array Slot), Wd G A s H0 ad g m' H locs → decode cX11_goRun pc = .ok (.ireturn, 1) → r32 r ∧ (true = true → r = 0 ∨ r = 1) → narrow .boolean (.int (iI r)) = .int (iI r) → W p l e rX11_goRun s mt args below meth c H locs 0 0 Q (F0 mt pc ls [.int (iI r)])) : W p l e rX11_goRun s mt args below meth c H locs 0 0 Q (F0 mt 22 ls [.int (iI z0)]) := by
  unfold bX11_goRun_22 at hF
  refine q_istore C hl [(4, .int (iI z0)), (0, .ref (ad x0)), (1, .int (iI x1)), (2, .int (iI x2)), (3, .int (iI x3))] rfl (by decide) rfl dX11_goRun_22 (fun ls hl => ?_)
  refine q_iload_n C hl 2 rfl rfl dX11_goRun_24 ?_
  refine q_bipush C 100 (by decide) dX11_goRun_25 ?_
  refine q_icmp_eq C hx1 (rl 100 rfl) 36 dX11_goRun_27 (by decide) (fun hc1 => ?_) (fun hc1 => ?_)
  · have hF := if_t hc1 hF
    exact wX11_goRun_36 C S hx0 hx1 hx2 hx3 hz0 (lv_sub hl [1, 2, 3, 4, 0] rfl) hF Kr
  · have hF := if_f hc1 hF
    refine q_iload_n C hl 2 rfl rfl dX11_goRun_30 ?_
    refine q_bipush C 117 (by decide) dX11_goRun_31 ?_
    refine q_icmp_ne C hx1 (rl 117 rfl) 40 dX11_goRun_33 (by decide) (fun hc2 => ?_) (fun hc2 => ?_)
    · have hF := if_t hc2 hF
      exact wX11_goRun_36 C S hx0 hx1 hx2 hx3 hz0 (lv_sub hl [1, 2, 3, 4, 0] rfl) hF Kr
    · have hF := if_f hc2 hF
      refine q_iconst C 0 dX11_goRun_40 ?_
      exact wX11_goRun_41 C S hx0 hx1 hx2 hx3 hz0 (rl 0 rfl) (lv_sub hl [1, 2, 3, 4, 0] rfl) hF Kr
set_option maxRecDepth 20000 in
theorem wX11_goRun_17 {p : Program} {l : Launch} {e : Env} {s : State} {mt : MethodId} {args : Array Value} {below : List Frame} {meth : Method} {c : Code} {Q : State → Prop} {G : Gl} {A : Nat → Prop} {H0 : Heap} {ad : Int → Nat} {g : Shp} {H : Heap} {locs : List Loc} {ls : Array Slot} {m : Mem} {x0 x1 x2 x3 : Int} (C : CallFix p mt c cX11_goRun 7 s args tb RX11) (S : Wd G A s H0 ad g m H locs) (hx0 : gk g x0 = 12) (hx1 : r32 x1) (hx2 : r32 x2) (hx3 : r32 x3) (hl : lv_has ls 7 [(0, .ref (ad x0)), (1, .int (iI x1)), (2, .int (iI x2)), (3, .int (iI x3))]) {r : Int} {m' : Mem} (hF : bX11_goRun_17 g x0 x1 x2 x3 m = some (r, m')) (Kr : ∀ (H : Heap) (locs : List Loc) (pc : Nat) (ls : Array Slot), Wd G A s H0 ad g m' H locs → decode cX11_goRun pc = .ok (.ireturn, 1) → r32 r ∧ (true = true → r = 0 ∨ r = 1) → narrow .boolean (.int (iI r)) = .int (iI r) → W p l e rX11_goRun s mt args below meth c H locs 0 0 Q (F0 mt pc ls [.int (iI r)])) : W p l e rX11_goRun s mt args below meth c H locs 0 0 Q (F0 mt 17 ls []) := by
  unfold bX11_goRun_17 at hF
  refine q_iconst C 1 dX11_goRun_17 ?_
  refine q_goto C 22 dX11_goRun_18 (by decide) ?_
  exact wX11_goRun_22 C S hx0 hx1 hx2 hx3 (rl 1 rfl) (lv_sub hl [0, 1, 2, 3] rfl) hF Kr
set_option maxRecDepth 20000 in
theorem wX11_goRun_0 {p : Program} {l : Launch} {e : Env} {s : State} {mt : MethodId} {args : Array Value} {below : List Frame} {meth : Method} {c : Code} {Q : State → Prop} {G : Gl} {A : Nat → Prop} {H0 : Heap} {ad : Int → Nat} {g : Shp} {H : Heap} {locs : List Loc} {ls : Array Slot} {m : Mem} {x0 x1 x2 : Int} (C : CallFix p mt c cX11_goRun 7 s args tb RX11) (S : Wd G A s H0 ad g m H locs) (hx0 : gk g x0 = 12) (hx1 : r32 x1) (hx2 : r32 x2) (hl : lv_has ls 7 [(0, .ref (ad x0)), (1, .int (iI x1)), (2, .int (iI x2))]) {r : Int} {m' : Mem} (hF : bX11_goRun_0 g x0 x1 x2 m = some (r, m')) (Kr : ∀ (H : Heap) (locs : List Loc) (pc : Nat) (ls : Array Slot), Wd G A s H0 ad g m' H locs → decode cX11_goRun pc = .ok (.ireturn, 1) → r32 r ∧ (true = true → r = 0 ∨ r = 1) → narrow .boolean (.int (iI r)) = .int (iI r) → W p l e rX11_goRun s mt args below meth c H locs 0 0 Q (F0 mt pc ls [.int (iI r)])) : W p l e rX11_goRun s mt args below meth c H locs 0 0 Q (F0 mt 0 ls []) := by
  unfold bX11_goRun_0 at hF
  refine q_aload_n C hl 0 rfl rfl dX11_goRun_0 ?_
  refine q_geti C S 10 fo_RX11_100 (j := 10) rfl rfl hx0 dX11_goRun_1 ?_
  obtain ⟨y1, ey1, hF⟩ := vv_ok hF
  have ry1 : r32 y1 := ey1 ▸ (S.r _ _)
  refine q_istore_n C hl [(3, .int (iI y1)), (0, .ref (ad x0)), (1, .int (iI x1)), (2, .int (iI x2))] ey1 rfl (by decide) rfl dX11_goRun_4 (fun ls hl => ?_)
  refine q_iload_n C hl 2 rfl rfl dX11_goRun_5 ?_
  refine q_bipush C 114 (by decide) dX11_goRun_6 ?_
  refine q_icmp_eq C hx1 (rl 114 rfl) 17 dX11_goRun_8 (by decide) (fun hc2 => ?_) (fun hc2 => ?_)
  · have hF := if_t hc2 hF
    exact wX11_goRun_17 C S hx0 hx1 hx2 ry1 (lv_sub hl [1, 2, 3, 0] rfl) hF Kr
  · have hF := if_f hc2 hF
    refine q_iload_n C hl 2 rfl rfl dX11_goRun_11 ?_
    refine q_bipush C 108 (by decide) dX11_goRun_12 ?_
    refine q_icmp_ne C hx1 (rl 108 rfl) 21 dX11_goRun_14 (by decide) (fun hc3 => ?_) (fun hc3 => ?_)
    · have hF := if_t hc3 hF
      exact wX11_goRun_17 C S hx0 hx1 hx2 ry1 (lv_sub hl [1, 2, 3, 0] rfl) hF Kr
    · have hF := if_f hc3 hF
      refine q_iconst C 0 dX11_goRun_21 ?_
      exact wX11_goRun_22 C S hx0 hx1 hx2 ry1 (rl 0 rfl) (lv_sub hl [1, 2, 3, 0] rfl) hF Kr
theorem cX11_goRun_ok (l : Launch) (G : Gl) {g : Shp} {x0 x1 x2 : Int} {m m' : Mem} {r : Int} (hx0 : gk g x0 = 12) (hx1 : r32 x1) (hx2 : r32 x2) (hF : fX11_goRun g x0 x1 x2 m = some (r, m')) : mI l yX11_goRun (wT yX11_goRun cX11_goRun 7 (some .boolean)) rX11_goRun G true (fun ad => [.ref (ad x0), .int (iI x1), .int (iI x2)]) g m r m' :=
  met_i (by decide) (fun ad => Nat.le_of_ble_eq_true rfl) (fun p e s mt args below meth c Q A H0 H locs ad ls C hnm S hl Kr => wX11_goRun_0 C S hx0 hx1 hx2 hl hF Kr)
set_option maxRecDepth 20000 in
theorem wX11_takeSign_44 {p : Program} {l : Launch} {e : Env} {s : State} {mt : MethodId} {args : Array Value} {below : List Frame} {meth : Method} {c : Code} {Q : State → Prop} {G : Gl} {A : Nat → Prop} {H0 : Heap} {ad : Int → Nat} {g : Shp} {H : Heap} {locs : List Loc} {ls : Array Slot} {m : Mem} {x2 z0 z1 z2 : Int} (C : CallFix p mt c cX11_takeSign 3 s args tb RX11) (S : Wd G A s H0 ad g m H locs) (hx2 : r32 x2) (hz0 : gk g z0 = 12) (hz1 : r32 z1) (hz2 : r32 z2) (hl : lv_has ls 3 [(2, .int (iI x2))]) {r : Int} {m' : Mem} (hF : bX11_takeSign_44 g x2 z0 z1 z2 m = some (r, m')) (Kr : ∀ (H : Heap) (locs : List Loc) (pc : Nat) (ls : Array Slot), Wd G A s H0 ad g m' H locs → decode cX11_takeSign pc = .ok (.ireturn, 1) → r32 r ∧ (true = true → r = 0 ∨ r = 1) → narrow .boolean (.int (iI r)) = .int (iI r) → W p l e rX11_takeSign s mt args below meth c H locs 0 0 Q (F0 mt pc ls [.int (iI r)])) : W p l e rX11_takeSign s mt args below meth c H locs 0 0 Q (F0 mt 44 ls [.int (iI z2), .int (iI z1), .ref (ad z0)]) := by
  unfold bX11_takeSign_44 at hF
  refine q_iadd C dX11_takeSign_44 ?_
  obtain ⟨m1, em1, hF⟩ := vm_ok hF
  refine q_put C S 6 fo_RX11_134 fp_12_6 (fun h9 => absurd h9 (by decide)) (j := 6) rfl hz0 rfl rfl rfl (r32_w _) (fun h9 => absurd h9 (by decide)) em1 dX11_takeSign_45 (fun H locs Sm1 => ?_)
  refine q_iload_n C hl 0 rfl rfl dX11_takeSign_48 ?_
  obtain ⟨b2, hF⟩ := ck_ok hF
  cases hF
  exact Kr _ _ _ _ Sm1 dX11_takeSign_49 ⟨r_b b2, fun _ => b2⟩ (nr_b b2)
set_option maxRecDepth 20000 in
theorem wX11_takeSign_29 {p : Program} {l : Launch} {e : Env} {s : State} {mt : MethodId} {args : Array Value} {below : List Frame} {meth : Method} {c : Code} {Q : State → Prop} {G : Gl} {A : Nat → Prop} {H0 : Heap} {ad : Int → Nat} {g : Shp} {H : Heap} {locs : List Loc} {ls : Array Slot} {m : Mem} {x0 z0 : Int} (C : CallFix p mt c cX11_takeSign 3 s args tb RX11) (S : Wd G A s H0 ad g m H locs) (hx0 : gk g x0 = 12) (hz0 : r32 z0) (hl : lv_has ls 3 [(0, .ref (ad x0))]) {r : Int} {m' : Mem} (hF : bX11_takeSign_29 g x0 z0 m = some (r, m')) (Kr : ∀ (H : Heap) (locs : List Loc) (pc : Nat) (ls : Array Slot), Wd G A s H0 ad g m' H locs → decode cX11_takeSign pc = .ok (.ireturn, 1) → r32 r ∧ (true = true → r = 0 ∨ r = 1) → narrow .boolean (.int (iI r)) = .int (iI r) → W p l e rX11_takeSign s mt args below meth c H locs 0 0 Q (F0 mt pc ls [.int (iI r)])) : W p l e rX11_takeSign s mt args below meth c H locs 0 0 Q (F0 mt 29 ls [.int (iI z0)]) := by
  unfold bX11_takeSign_29 at hF
  refine q_istore_n C hl [(2, .int (iI z0)), (0, .ref (ad x0))] rfl rfl (by decide) rfl dX11_takeSign_29 (fun ls hl => ?_)
  refine q_aload_n C hl 1 rfl rfl dX11_takeSign_30 ?_
  refine q_dup C rfl dX11_takeSign_31 ?_
  refine q_geti C S 6 fo_RX11_134 (j := 6) rfl rfl hx0 dX11_takeSign_32 ?_
  refine q_iload_n C hl 0 rfl rfl dX11_takeSign_35 ?_
  refine q_if_eq C hz0 43 dX11_takeSign_36 (by decide) (fun hc1 => ?_) (fun hc1 => ?_)
  · have hF := if_t hc1 hF
    refine q_iconst C 0 dX11_takeSign_43 ?_
    exact wX11_takeSign_44 C S hz0 hx0 (S.r _ _) (rl 0 rfl) (lv_sub hl [0] rfl) hF Kr
  · have hF := if_f hc1 hF
    refine q_iconst C 1 dX11_takeSign_39 ?_
    refine q_goto C 44 dX11_takeSign_40 (by decide) ?_
    exact wX11_takeSign_44 C S hz0 hx0 (S.r _ _) (rl 1 rfl) (lv_sub hl [0] rfl) hF Kr
set_option maxRecDepth 20000 in
theorem wX11_takeSign_28 {p : Program} {l : Launch} {e : Env} {s : State} {mt : MethodId} {args : Array Value} {below : List Frame} {meth : Method} {c : Code} {Q : State → Prop} {G : Gl} {A : Nat → Prop} {H0 : Heap} {ad : Int → Nat} {g : Shp} {H : Heap} {locs : List Loc} {ls : Array Slot} {m : Mem} {x0 : Int} (C : CallFix p mt c cX11_takeSign 3 s args tb RX11) (S : Wd G A s H0 ad g m H locs) (hx0 : gk g x0 = 12) (hl : lv_has ls 3 [(0, .ref (ad x0))]) {r : Int} {m' : Mem} (hF : bX11_takeSign_28 g x0 m = some (r, m')) (Kr : ∀ (H : Heap) (locs : List Loc) (pc : Nat) (ls : Array Slot), Wd G A s H0 ad g m' H locs → decode cX11_takeSign pc = .ok (.ireturn, 1) → r32 r ∧ (true = true → r = 0 ∨ r = 1) → narrow .boolean (.int (iI r)) = .int (iI r) → W p l e rX11_takeSign s mt args below meth c H locs 0 0 Q (F0 mt pc ls [.int (iI r)])) : W p l e rX11_takeSign s mt args below meth c H locs 0 0 Q (F0 mt 28 ls []) := by
  unfold bX11_takeSign_28 at hF
  refine q_iconst C 0 dX11_takeSign_28 ?_
  exact wX11_takeSign_29 C S hx0 (rl 0 rfl) (lv_sub hl [0] rfl) hF Kr
set_option maxRecDepth 20000 in
theorem wX11_takeSign_0 {p : Program} {l : Launch} {e : Env} {s : State} {mt : MethodId} {args : Array Value} {below : List Frame} {meth : Method} {c : Code} {Q : State → Prop} {G : Gl} {A : Nat → Prop} {H0 : Heap} {ad : Int → Nat} {g : Shp} {H : Heap} {locs : List Loc} {ls : Array Slot} {m : Mem} {x0 x1 : Int} (C : CallFix p mt c cX11_takeSign 3 s args tb RX11) (S : Wd G A s H0 ad g m H locs) (hx0 : gk g x0 = 12) (hx1 : r32 x1) (hl : lv_has ls 3 [(0, .ref (ad x0)), (1, .int (iI x1))]) {r : Int} {m' : Mem} (hF : bX11_takeSign_0 g x0 x1 m = some (r, m')) (Kr : ∀ (H : Heap) (locs : List Loc) (pc : Nat) (ls : Array Slot), Wd G A s H0 ad g m' H locs → decode cX11_takeSign pc = .ok (.ireturn, 1) → r32 r ∧ (true = true → r = 0 ∨ r = 1) → narrow .boolean (.int (iI r)) = .int (iI r) → W p l e rX11_takeSign s mt args below meth c H locs 0 0 Q (F0 mt pc ls [.int (iI r)])) : W p l e rX11_takeSign s mt args below meth c H locs 0 0 Q (F0 mt 0 ls []) := by
  unfold bX11_takeSign_0 at hF
  refine q_aload_n C hl 0 rfl rfl dX11_takeSign_0 ?_
  refine q_geti C S 6 fo_RX11_134 (j := 6) rfl rfl hx0 dX11_takeSign_1 ?_
  refine q_aload_n C hl 0 rfl rfl dX11_takeSign_4 ?_
  refine q_geti C S 5 fo_RX11_137 (j := 5) rfl rfl hx0 dX11_takeSign_5 ?_
  refine q_icmp_ge C (S.r _ _) (S.r _ _) 28 dX11_takeSign_8 (by decide) (fun hc1 => ?_) (fun hc1 => ?_)
  · have hF := if_t hc1 hF
    exact wX11_takeSign_28 C S hx0 (lv_sub hl [0] rfl) hF Kr
  · have hF := if_f hc1 hF
    refine q_aload_n C hl 0 rfl rfl dX11_takeSign_11 ?_
    obtain ⟨k2, hF⟩ := ck_ok hF
    refine q_getr C S 4 fo_RX11_19 (j := 4) rfl rfl hx0 k2 (by decide) dX11_takeSign_12 ?_
    refine q_aload_n C hl 0 rfl rfl dX11_takeSign_15 ?_
    refine q_geti C S 6 fo_RX11_134 (j := 6) rfl rfl hx0 dX11_takeSign_16 ?_
    obtain ⟨i3, hF⟩ := ck_ok hF
    refine q_iald C S k2 i3 dX11_takeSign_19 ?_
    refine q_iload_n C hl 1 rfl rfl dX11_takeSign_20 ?_
    refine q_icmp_ne C (S.r _ _) hx1 28 dX11_takeSign_21 (by decide) (fun hc4 => ?_) (fun hc4 => ?_)
    · have hF := if_t hc4 hF
      refine q_iconst C 1 dX11_takeSign_24 ?_
      refine q_goto C 29 dX11_takeSign_25 (by decide) ?_
      exact wX11_takeSign_29 C S hx0 (rl 1 rfl) (lv_sub hl [0] rfl) hF Kr
    · have hF := if_f hc4 hF
      exact wX11_takeSign_28 C S hx0 (lv_sub hl [0] rfl) hF Kr
theorem cX11_takeSign_ok (l : Launch) (G : Gl) {g : Shp} {x0 x1 : Int} {m m' : Mem} {r : Int} (hx0 : gk g x0 = 12) (hx1 : r32 x1) (hF : fX11_takeSign g x0 x1 m = some (r, m')) : mI l yX11_takeSign (wT yX11_takeSign cX11_takeSign 3 (some .boolean)) rX11_takeSign G true (fun ad => [.ref (ad x0), .int (iI x1)]) g m r m' :=
  met_i (by decide) (fun ad => Nat.le_of_ble_eq_true rfl) (fun p e s mt args below meth c Q A H0 H locs ad ls C hnm S hl Kr => wX11_takeSign_0 C S hx0 hx1 hl hF Kr)
set_option maxRecDepth 20000 in
theorem wX11_takeNumber_51 {p : Program} {l : Launch} {e : Env} {s : State} {mt : MethodId} {args : Array Value} {below : List Frame} {meth : Method} {c : Code} {Q : State → Prop} {G : Gl} {A : Nat → Prop} {H0 : Heap} {ad : Int → Nat} {g : Shp} {H : Heap} {locs : List Loc} {ls : Array Slot} {m : Mem} {x0 x2 z0 z1 : Int} (C : CallFix p mt c cX11_takeNumber 3 s args tb RX11) (S : Wd G A s H0 ad g m H locs) (hx0 : gk g x0 = 12) (hx2 : r32 x2) (hz0 : r32 z0) (hz1 : r32 z1) (hl : lv_has ls 3 [(0, .ref (ad x0)), (2, .int (iI x2))]) {c1 : Int} {s1 : (Int × Int × Mem)} (hF : bX11_takeNumber_51 g x0 x2 z0 z1 m = some (c1, s1)) (K0 : c1 = 0 → ∀ (H : Heap) (locs : List Loc) (ls : Array Slot), r32 s1.1 → r32 s1.2.1 → Wd G A s H0 ad g s1.2.2 H locs → lv_has ls 3 [(0, .ref (ad x0)), (1, .int (iI s1.1)), (2, .int (iI s1.2.1))] → W p l e rX11_takeNumber s mt args below meth c H locs 0 0 Q (F0 mt 5 ls [])) (K1 : c1 = 1 → ∀ (H : Heap) (locs : List Loc) (ls : Array Slot), r32 s1.1 → Wd G A s H0 ad g s1.2.2 H locs → lv_has ls 3 [(1, .int (iI s1.1))] → W p l e rX11_takeNumber s mt args below meth c H locs 0 0 Q (F0 mt 82 ls [])) : W p l e rX11_takeNumber s mt args below meth c H locs 0 0 Q (F0 mt 51 ls [.int (iI z1), .int (iI z0)]) := by
  unfold bX11_takeNumber_51 at hF
  refine q_imul C dX11_takeNumber_51 ?_
  refine q_aload_n C hl 0 rfl rfl dX11_takeNumber_52 ?_
  obtain ⟨k1, hF⟩ := ck_ok hF
  refine q_getr C S 4 fo_RX11_19 (j := 4) rfl rfl hx0 k1 (by decide) dX11_takeNumber_53 ?_
  refine q_aload_n C hl 0 rfl rfl dX11_takeNumber_56 ?_
  refine q_geti C S 6 fo_RX11_134 (j := 6) rfl rfl hx0 dX11_takeNumber_57 ?_
  obtain ⟨i2, hF⟩ := ck_ok hF
  refine q_iald C S k1 i2 dX11_takeNumber_60 ?_
  refine q_iadd C dX11_takeNumber_61 ?_
  refine q_bipush C 48 (by decide) dX11_takeNumber_62 ?_
  refine q_isub C dX11_takeNumber_64 ?_
  obtain ⟨y3, ey3, hF⟩ := vv_ok hF
  have ry3 : r32 y3 := ey3 ▸ (r32_w _)
  refine q_istore_n C hl [(1, .int (iI y3)), (0, .ref (ad x0)), (2, .int (iI x2))] ey3 rfl (by decide) rfl dX11_takeNumber_65 (fun ls hl => ?_)
  refine q_aload_n C hl 1 rfl rfl dX11_takeNumber_66 ?_
  refine q_dup C rfl dX11_takeNumber_67 ?_
  refine q_geti C S 6 fo_RX11_134 (j := 6) rfl rfl hx0 dX11_takeNumber_68 ?_
  refine q_iconst C 1 dX11_takeNumber_71 ?_
  refine q_iadd C dX11_takeNumber_72 ?_
  obtain ⟨m4, em4, hF⟩ := vm_ok hF
  refine q_put C S 6 fo_RX11_134 fp_12_6 (fun h9 => absurd h9 (by decide)) (j := 6) rfl hx0 rfl rfl rfl (r32_w _) (fun h9 => absurd h9 (by decide)) em4 dX11_takeNumber_73 (fun H locs Sm4 => ?_)
  obtain ⟨y5, ey5, hF⟩ := vv_ok hF
  have ry5 : r32 y5 := ey5 ▸ r32_w _
  refine q_iinc C hl 2 [(2, .int (iI y5)), (1, .int (iI y3)), (0, .ref (ad x0))] rfl ey5 (by decide) rfl dX11_takeNumber_76 (fun ls hl => ?_)
  refine q_goto C 5 dX11_takeNumber_79 (by decide) ?_
  cases hF
  exact K0 rfl _ _ _ ry3 ry5 Sm4 (lv_sub hl [2, 1, 0] rfl)
set_option maxRecDepth 20000 in
theorem wX11_takeNumber_5 {p : Program} {l : Launch} {e : Env} {s : State} {mt : MethodId} {args : Array Value} {below : List Frame} {meth : Method} {c : Code} {Q : State → Prop} {G : Gl} {A : Nat → Prop} {H0 : Heap} {ad : Int → Nat} {g : Shp} {H : Heap} {locs : List Loc} {ls : Array Slot} {m : Mem} {x0 x1 x2 : Int} (C : CallFix p mt c cX11_takeNumber 3 s args tb RX11) (S : Wd G A s H0 ad g m H locs) (hx0 : gk g x0 = 12) (hx1 : r32 x1) (hx2 : r32 x2) (hl : lv_has ls 3 [(0, .ref (ad x0)), (1, .int (iI x1)), (2, .int (iI x2))]) {c1 : Int} {s1 : (Int × Int × Mem)} (hF : bX11_takeNumber_5 g x0 x1 x2 m = some (c1, s1)) (K0 : c1 = 0 → ∀ (H : Heap) (locs : List Loc) (ls : Array Slot), r32 s1.1 → r32 s1.2.1 → Wd G A s H0 ad g s1.2.2 H locs → lv_has ls 3 [(0, .ref (ad x0)), (1, .int (iI s1.1)), (2, .int (iI s1.2.1))] → W p l e rX11_takeNumber s mt args below meth c H locs 0 0 Q (F0 mt 5 ls [])) (K1 : c1 = 1 → ∀ (H : Heap) (locs : List Loc) (ls : Array Slot), r32 s1.1 → Wd G A s H0 ad g s1.2.2 H locs → lv_has ls 3 [(1, .int (iI s1.1))] → W p l e rX11_takeNumber s mt args below meth c H locs 0 0 Q (F0 mt 82 ls [])) : W p l e rX11_takeNumber s mt args below meth c H locs 0 0 Q (F0 mt 5 ls []) := by
  unfold bX11_takeNumber_5 at hF
  refine q_iload_n C hl 2 rfl rfl dX11_takeNumber_5 ?_
  refine q_iconst C 2 dX11_takeNumber_6 ?_
  refine q_icmp_ge C hx2 (rl 2 rfl) 82 dX11_takeNumber_7 (by decide) (fun hc1 => ?_) (fun hc1 => ?_)
  · have hF := if_t hc1 hF
    cases hF
    exact K1 rfl _ _ _ hx1 S (lv_sub hl [1] rfl)
  · have hF := if_f hc1 hF
    refine q_aload_n C hl 0 rfl rfl dX11_takeNumber_10 ?_
    refine q_geti C S 6 fo_RX11_134 (j := 6) rfl rfl hx0 dX11_takeNumber_11 ?_
    refine q_aload_n C hl 0 rfl rfl dX11_takeNumber_14 ?_
    refine q_geti C S 5 fo_RX11_137 (j := 5) rfl rfl hx0 dX11_takeNumber_15 ?_
    refine q_icmp_ge C (S.r _ _) (S.r _ _) 82 dX11_takeNumber_18 (by decide) (fun hc2 => ?_) (fun hc2 => ?_)
    · have hF := if_t hc2 hF
      cases hF
      exact K1 rfl _ _ _ hx1 S (lv_sub hl [1] rfl)
    · have hF := if_f hc2 hF
      refine q_aload_n C hl 0 rfl rfl dX11_takeNumber_21 ?_
      obtain ⟨k3, hF⟩ := ck_ok hF
      refine q_getr C S 4 fo_RX11_19 (j := 4) rfl rfl hx0 k3 (by decide) dX11_takeNumber_22 ?_
      refine q_aload_n C hl 0 rfl rfl dX11_takeNumber_25 ?_
      refine q_geti C S 6 fo_RX11_134 (j := 6) rfl rfl hx0 dX11_takeNumber_26 ?_
      obtain ⟨i4, hF⟩ := ck_ok hF
      refine q_iald C S k3 i4 dX11_takeNumber_29 ?_
      refine q_bipush C 48 (by decide) dX11_takeNumber_30 ?_
      refine q_bipush C 57 (by decide) dX11_takeNumber_32 ?_
      obtain ⟨v5, m6, h7, hF⟩ := bd2_ok hF
      refine q_ci S (run_S (As := [.int (iI (m (m x0 4) (m x0 6))), .int (iI 48), .int (iI 57)]) (rest := []) C S (cX11_in_ok l G (S.r _ _) (rl 48 rfl) (rl 57 rfl) h7 ad _) gd_RX11_110 hd_X11_in rfl ⟨rfl, rfl, by decide, by decide⟩ ⟨Nat.zero_le _, Nat.zero_le _⟩ hl.1 rfl (Nat.le_of_ble_eq_true rfl) dX11_takeNumber_34) (fun H locs Sm6 h8 => ?_)
      refine q_if_eq C h8.1 82 dX11_takeNumber_37 (by decide) (fun hc9 => ?_) (fun hc9 => ?_)
      · have hF := if_t hc9 hF
        cases hF
        exact K1 rfl _ _ _ hx1 Sm6 (lv_sub hl [1] rfl)
      · have hF := if_f hc9 hF
        refine q_bipush C 10 (by decide) dX11_takeNumber_40 ?_
        refine q_iload_n C hl 2 rfl rfl dX11_takeNumber_42 ?_
        refine q_if_ne C hx2 50 dX11_takeNumber_43 (by decide) (fun hc10 => ?_) (fun hc10 => ?_)
        · have hF := if_t hc10 hF
          refine q_iconst C 0 dX11_takeNumber_46 ?_
          refine q_goto C 51 dX11_takeNumber_47 (by decide) ?_
          exact wX11_takeNumber_51 C Sm6 hx0 hx2 (rl 10 rfl) (rl 0 rfl) (lv_sub hl [0, 2] rfl) hF K0 K1
        · have hF := if_f hc10 hF
          refine q_iload_n C hl 1 rfl rfl dX11_takeNumber_50 ?_
          exact wX11_takeNumber_51 C Sm6 hx0 hx2 (rl 10 rfl) hx1 (lv_sub hl [0, 2] rfl) hF K0 K1
set_option maxRecDepth 20000 in
theorem lX11_takeNumber_5 {p : Program} {l : Launch} {e : Env} {s : State} {mt : MethodId} {args : Array Value} {below : List Frame} {meth : Method} {c : Code} {Q : State → Prop} {G : Gl} {A : Nat → Prop} {H0 : Heap} {ad : Int → Nat} {g : Shp} {x0 : Int} (C : CallFix p mt c cX11_takeNumber 3 s args tb RX11) (hx0 : gk g x0 = 12) {n : Nat} {s0 s1 : (Int × Int × Mem)} {c1 : Int} (hI : iter (BX11_takeNumber_5 g x0) n s0 = some (c1, s1)) (K1 : c1 = 1 → ∀ (H : Heap) (locs : List Loc) (ls : Array Slot), r32 s1.1 → Wd G A s H0 ad g s1.2.2 H locs → lv_has ls 3 [(1, .int (iI s1.1))] → W p l e rX11_takeNumber s mt args below meth c H locs 0 0 Q (F0 mt 82 ls [])) : ∀ (H : Heap) (locs : List Loc) (ls : Array Slot), r32 s0.1 → r32 s0.2.1 → Wd G A s H0 ad g s0.2.2 H locs → lv_has ls 3 [(0, .ref (ad x0)), (1, .int (iI s0.1)), (2, .int (iI s0.2.1))] → W p l e rX11_takeNumber s mt args below meth c H locs 0 0 Q (F0 mt 5 ls []) :=
  iter_W (Pw := fun q => ∀ (H : Heap) (locs : List Loc) (ls : Array Slot), r32 q.1 → r32 q.2.1 → Wd G A s H0 ad g q.2.2 H locs → lv_has ls 3 [(0, .ref (ad x0)), (1, .int (iI q.1)), (2, .int (iI q.2.1))] → W p l e rX11_takeNumber s mt args below meth c H locs 0 0 Q (F0 mt 5 ls [])) (Px := fun c0 q => (c0 = 1 → ∀ (H : Heap) (locs : List Loc) (ls : Array Slot), r32 q.1 → Wd G A s H0 ad g q.2.2 H locs → lv_has ls 3 [(1, .int (iI q.1))] → W p l e rX11_takeNumber s mt args below meth c H locs 0 0 Q (F0 mt 82 ls [])))
    (fun s c s' hB K0 kx H locs ls f0 f1 S hl => wX11_takeNumber_5 C S hx0 f0 f1 hl hB K0 (fun h9 => (kx (by rw [h9]; decide)) h9)) _ _ _ _ hI K1
set_option maxRecDepth 20000 in
theorem wX11_takeNumber_82 {p : Program} {l : Launch} {e : Env} {s : State} {mt : MethodId} {args : Array Value} {below : List Frame} {meth : Method} {c : Code} {Q : State → Prop} {G : Gl} {A : Nat → Prop} {H0 : Heap} {ad : Int → Nat} {g : Shp} {H : Heap} {locs : List Loc} {ls : Array Slot} {m : Mem} {x1 : Int} (C : CallFix p mt c cX11_takeNumber 3 s args tb RX11) (S : Wd G A s H0 ad g m H locs) (hx1 : r32 x1) (hl : lv_has ls 3 [(1, .int (iI x1))]) {r : Int} {m' : Mem} (hF : bX11_takeNumber_82 g x1 m = some (r, m')) (Kr : ∀ (H : Heap) (locs : List Loc) (pc : Nat) (ls : Array Slot), Wd G A s H0 ad g m' H locs → decode cX11_takeNumber pc = .ok (.ireturn, 1) → r32 r ∧ (false = true → r = 0 ∨ r = 1) → narrow .int (.int (iI r)) = .int (iI r) → W p l e rX11_takeNumber s mt args below meth c H locs 0 0 Q (F0 mt pc ls [.int (iI r)])) : W p l e rX11_takeNumber s mt args below meth c H locs 0 0 Q (F0 mt 82 ls []) := by
  unfold bX11_takeNumber_82 at hF
  refine q_iload_n C hl 0 rfl rfl dX11_takeNumber_82 ?_
  cases hF
  exact Kr _ _ _ _ S dX11_takeNumber_83 ⟨hx1, fun h9 => absurd h9 (by decide)⟩ rfl
set_option maxRecDepth 20000 in
theorem wX11_takeNumber_0 {p : Program} {l : Launch} {e : Env} {s : State} {mt : MethodId} {args : Array Value} {below : List Frame} {meth : Method} {c : Code} {Q : State → Prop} {G : Gl} {A : Nat → Prop} {H0 : Heap} {ad : Int → Nat} {g : Shp} {H : Heap} {locs : List Loc} {ls : Array Slot} {m : Mem} {x0 : Int} (C : CallFix p mt c cX11_takeNumber 3 s args tb RX11) (S : Wd G A s H0 ad g m H locs) (hx0 : gk g x0 = 12) (hl : lv_has ls 3 [(0, .ref (ad x0))]) {r : Int} {m' : Mem} (hF : bX11_takeNumber_0 g x0 m = some (r, m')) (Kr : ∀ (H : Heap) (locs : List Loc) (pc : Nat) (ls : Array Slot), Wd G A s H0 ad g m' H locs → decode cX11_takeNumber pc = .ok (.ireturn, 1) → r32 r ∧ (false = true → r = 0 ∨ r = 1) → narrow .int (.int (iI r)) = .int (iI r) → W p l e rX11_takeNumber s mt args below meth c H locs 0 0 Q (F0 mt pc ls [.int (iI r)])) : W p l e rX11_takeNumber s mt args below meth c H locs 0 0 Q (F0 mt 0 ls []) := by
  unfold bX11_takeNumber_0 at hF
  refine q_bipush C (-4) (by decide) dX11_takeNumber_0 ?_
  refine q_istore_n C hl [(1, .int (iI ((-4)))), (0, .ref (ad x0))] rfl rfl (by decide) rfl dX11_takeNumber_2 (fun ls hl => ?_)
  refine q_iconst C 0 dX11_takeNumber_3 ?_
  refine q_istore_n C hl [(2, .int (iI 0)), (1, .int (iI ((-4)))), (0, .ref (ad x0))] rfl rfl (by decide) rfl dX11_takeNumber_4 (fun ls hl => ?_)
  obtain ⟨cv1, sv2, hi3, hF⟩ := bdl_ok hF
  refine lX11_takeNumber_5 C hx0 hi3 ?_ _ _ _ (rl (-4) rfl) (rl 0 rfl) S (lv_sub hl [2, 1, 0] rfl)
  intro _ H locs ls f5 S4 hl
  exact wX11_takeNumber_82 C S4 f5 (lv_sub hl [0] rfl) hF Kr
theorem cX11_takeNumber_ok (l : Launch) (G : Gl) {g : Shp} {x0 : Int} {m m' : Mem} {r : Int} (hx0 : gk g x0 = 12) (hF : fX11_takeNumber g x0 m = some (r, m')) : mI l yX11_takeNumber (wT yX11_takeNumber cX11_takeNumber 3 (some .int)) rX11_takeNumber G false (fun ad => [.ref (ad x0)]) g m r m' :=
  met_i (by decide) (fun ad => Nat.le_of_ble_eq_true rfl) (fun p e s mt args below meth c Q A H0 H locs ad ls C hnm S hl Kr => wX11_takeNumber_0 C S hx0 hl hF Kr)
set_option maxRecDepth 20000 in
theorem wX11_readSizes_72 {p : Program} {l : Launch} {e : Env} {s : State} {mt : MethodId} {args : Array Value} {below : List Frame} {meth : Method} {c : Code} {Q : State → Prop} {G : Gl} {A : Nat → Prop} {H0 : Heap} {ad : Int → Nat} {g : Shp} {H : Heap} {locs : List Loc} {ls : Array Slot} {m : Mem} (C : CallFix p mt c cX11_readSizes 6 s args tb RX11) (S : Wd G A s H0 ad g m H locs)  (hl : lv_has ls 6 []) {r : Int} {m' : Mem} (hF : bX11_readSizes_72 g m = some (r, m')) (Kr : ∀ (H : Heap) (locs : List Loc) (pc : Nat) (ls : Array Slot), Wd G A s H0 ad g m' H locs → decode cX11_readSizes pc = .ok (.ireturn, 1) → r32 r ∧ (true = true → r = 0 ∨ r = 1) → narrow .boolean (.int (iI r)) = .int (iI r) → W p l e rX11_readSizes s mt args below meth c H locs 0 0 Q (F0 mt pc ls [.int (iI r)])) : W p l e rX11_readSizes s mt args below meth c H locs 0 0 Q (F0 mt 72 ls []) := by
  unfold bX11_readSizes_72 at hF
  refine q_iconst C 0 dX11_readSizes_72 ?_
  cases hF
  exact Kr _ _ _ _ S dX11_readSizes_73 ⟨r_b b_0, fun _ => b_0⟩ (nr_b b_0)
set_option maxRecDepth 20000 in
theorem wX11_readSizes_0 {p : Program} {l : Launch} {e : Env} {s : State} {mt : MethodId} {args : Array Value} {below : List Frame} {meth : Method} {c : Code} {Q : State → Prop} {G : Gl} {A : Nat → Prop} {H0 : Heap} {ad : Int → Nat} {g : Shp} {H : Heap} {locs : List Loc} {ls : Array Slot} {m : Mem} {x0 : Int} (C : CallFix p mt c cX11_readSizes 6 s args tb RX11) (S : Wd G A s H0 ad g m H locs) (hx0 : gk g x0 = 12) (hl : lv_has ls 6 [(0, .ref (ad x0))]) {r : Int} {m' : Mem} (hF : bX11_readSizes_0 g x0 m = some (r, m')) (Kr : ∀ (H : Heap) (locs : List Loc) (pc : Nat) (ls : Array Slot), Wd G A s H0 ad g m' H locs → decode cX11_readSizes pc = .ok (.ireturn, 1) → r32 r ∧ (true = true → r = 0 ∨ r = 1) → narrow .boolean (.int (iI r)) = .int (iI r) → W p l e rX11_readSizes s mt args below meth c H locs 0 0 Q (F0 mt pc ls [.int (iI r)])) : W p l e rX11_readSizes s mt args below meth c H locs 0 0 Q (F0 mt 0 ls []) := by
  unfold bX11_readSizes_0 at hF
  refine q_aload_n C hl 0 rfl rfl dX11_readSizes_0 ?_
  obtain ⟨v1, m2, h3, hF⟩ := bd2_ok hF
  refine q_ci S (run_V (As := []) (rest := []) C S (cX11_takeNumber_ok l G hx0 h3 ad _) hx0 ⟨by decide, _, _, rfl⟩ gd_RX11_140 hdV_X11_takeNumber rfl ⟨rfl, rfl, by decide, by decide⟩ ⟨Nat.zero_le _, Nat.zero_le _⟩ hl.1 rfl (Nat.le_of_ble_eq_true rfl) dX11_readSizes_1) (fun H locs Sm2 h4 => ?_)
  refine q_istore_n C hl [(1, .int (iI v1)), (0, .ref (ad x0))] rfl rfl (by decide) rfl dX11_readSizes_4 (fun ls hl => ?_)
  refine q_aload_n C hl 1 rfl rfl dX11_readSizes_5 ?_
  refine q_bipush C 44 (by decide) dX11_readSizes_6 ?_
  obtain ⟨v5, m6, h7, hF⟩ := bd2_ok hF
  refine q_ci Sm2 (run_V (As := [.int (iI 44)]) (rest := []) C Sm2 (cX11_takeSign_ok l G hx0 (rl 44 rfl) h7 ad _) hx0 ⟨by decide, _, _, rfl⟩ gd_RX11_144 hdV_X11_takeSign rfl ⟨rfl, rfl, by decide, by decide⟩ ⟨Nat.zero_le _, Nat.zero_le _⟩ hl.1 rfl (Nat.le_of_ble_eq_true rfl) dX11_readSizes_8) (fun H locs Sm6 h8 => ?_)
  refine q_istore_n C hl [(2, .int (iI v5)), (1, .int (iI v1)), (0, .ref (ad x0))] rfl rfl (by decide) rfl dX11_readSizes_11 (fun ls hl => ?_)
  refine q_aload_n C hl 2 rfl rfl dX11_readSizes_12 ?_
  obtain ⟨v9, m10, h11, hF⟩ := bd2_ok hF
  refine q_ci Sm6 (run_V (As := []) (rest := []) C Sm6 (cX11_takeNumber_ok l G hx0 h11 ad _) hx0 ⟨by decide, _, _, rfl⟩ gd_RX11_140 hdV_X11_takeNumber rfl ⟨rfl, rfl, by decide, by decide⟩ ⟨Nat.zero_le _, Nat.zero_le _⟩ hl.1 rfl (Nat.le_of_ble_eq_true rfl) dX11_readSizes_13) (fun H locs Sm10 h12 => ?_)
  refine q_istore_n C hl [(3, .int (iI v9)), (2, .int (iI v5)), (1, .int (iI v1)), (0, .ref (ad x0))] rfl rfl (by decide) rfl dX11_readSizes_16 (fun ls hl => ?_)
  refine q_aload_n C hl 3 rfl rfl dX11_readSizes_17 ?_
  refine q_bipush C 44 (by decide) dX11_readSizes_18 ?_
  obtain ⟨v13, m14, h15, hF⟩ := bd2_ok hF
  refine q_ci Sm10 (run_V (As := [.int (iI 44)]) (rest := []) C Sm10 (cX11_takeSign_ok l G hx0 (rl 44 rfl) h15 ad _) hx0 ⟨by decide, _, _, rfl⟩ gd_RX11_144 hdV_X11_takeSign rfl ⟨rfl, rfl, by decide, by decide⟩ ⟨Nat.zero_le _, Nat.zero_le _⟩ hl.1 rfl (Nat.le_of_ble_eq_true rfl) dX11_readSizes_20) (fun H locs Sm14 h16 => ?_)
  refine q_istore C hl [(4, .int (iI v13)), (3, .int (iI v9)), (2, .int (iI v5)), (1, .int (iI v1)), (0, .ref (ad x0))] rfl (by decide) rfl dX11_readSizes_23 (fun ls hl => ?_)
  refine q_aload_n C hl 4 rfl rfl dX11_readSizes_25 ?_
  obtain ⟨v17, m18, h19, hF⟩ := bd2_ok hF
  refine q_ci Sm14 (run_V (As := []) (rest := []) C Sm14 (cX11_takeNumber_ok l G hx0 h19 ad _) hx0 ⟨by decide, _, _, rfl⟩ gd_RX11_140 hdV_X11_takeNumber rfl ⟨rfl, rfl, by decide, by decide⟩ ⟨Nat.zero_le _, Nat.zero_le _⟩ hl.1 rfl (Nat.le_of_ble_eq_true rfl) dX11_readSizes_26) (fun H locs Sm18 h20 => ?_)
  refine q_istore C hl [(5, .int (iI v17)), (4, .int (iI v13)), (3, .int (iI v9)), (2, .int (iI v5)), (1, .int (iI v1)), (0, .ref (ad x0))] rfl (by decide) rfl dX11_readSizes_29 (fun ls hl => ?_)
  refine q_iload_n C hl 3 rfl rfl dX11_readSizes_31 ?_
  refine q_if_eq C h8.1 72 dX11_readSizes_32 (by decide) (fun hc21 => ?_) (fun hc21 => ?_)
  · have hF := if_t hc21 hF
    exact wX11_readSizes_72 C Sm18  (lv_sub hl [] rfl) hF Kr
  · have hF := if_f hc21 hF
    refine q_iload C hl 1 rfl dX11_readSizes_35 ?_
    refine q_if_eq C h16.1 72 dX11_readSizes_37 (by decide) (fun hc22 => ?_) (fun hc22 => ?_)
    · have hF := if_t hc22 hF
      exact wX11_readSizes_72 C Sm18  (lv_sub hl [] rfl) hF Kr
    · have hF := if_f hc22 hF
      refine q_aload_n C hl 5 rfl rfl dX11_readSizes_40 ?_
      refine q_bipush C 59 (by decide) dX11_readSizes_41 ?_
      obtain ⟨v23, m24, h25, hF⟩ := bd2_ok hF
      refine q_ci Sm18 (run_V (As := [.int (iI 59)]) (rest := []) C Sm18 (cX11_takeSign_ok l G hx0 (rl 59 rfl) h25 ad _) hx0 ⟨by decide, _, _, rfl⟩ gd_RX11_144 hdV_X11_takeSign rfl ⟨rfl, rfl, by decide, by decide⟩ ⟨Nat.zero_le _, Nat.zero_le _⟩ hl.1 rfl (Nat.le_of_ble_eq_true rfl) dX11_readSizes_43) (fun H locs Sm24 h26 => ?_)
      refine q_if_eq C h26.1 72 dX11_readSizes_46 (by decide) (fun hc27 => ?_) (fun hc27 => ?_)
      · have hF := if_t hc27 hF
        exact wX11_readSizes_72 C Sm24  (lv_sub hl [] rfl) hF Kr
      · have hF := if_f hc27 hF
        refine q_iload_n C hl 4 rfl rfl dX11_readSizes_49 ?_
        refine q_iconst C 1 dX11_readSizes_50 ?_
        refine q_icmp_lt C h4.1 (rl 1 rfl) 72 dX11_readSizes_51 (by decide) (fun hc28 => ?_) (fun hc28 => ?_)
        · have hF := if_t hc28 hF
          exact wX11_readSizes_72 C Sm24  (lv_sub hl [] rfl) hF Kr
        · have hF := if_f hc28 hF
          refine q_iload_n C hl 4 rfl rfl dX11_readSizes_54 ?_
          refine q_iload_n C hl 2 rfl rfl dX11_readSizes_55 ?_
          refine q_icmp_ge C h4.1 h12.1 72 dX11_readSizes_56 (by decide) (fun hc29 => ?_) (fun hc29 => ?_)
          · have hF := if_t hc29 hF
            exact wX11_readSizes_72 C Sm24  (lv_sub hl [] rfl) hF Kr
          · have hF := if_f hc29 hF
            refine q_iload_n C hl 2 rfl rfl dX11_readSizes_59 ?_
            refine q_iload C hl 0 rfl dX11_readSizes_60 ?_
            refine q_icmp_ge C h12.1 h20.1 72 dX11_readSizes_62 (by decide) (fun hc30 => ?_) (fun hc30 => ?_)
            · have hF := if_t hc30 hF
              exact wX11_readSizes_72 C Sm24  (lv_sub hl [] rfl) hF Kr
            · have hF := if_f hc30 hF
              refine q_iload C hl 0 rfl dX11_readSizes_65 ?_
              refine q_bipush C 9 (by decide) dX11_readSizes_67 ?_
              refine q_icmp_le C h20.1 (rl 9 rfl) 74 dX11_readSizes_69 (by decide) (fun hc31 => ?_) (fun hc31 => ?_)
              · have hF := if_t hc31 hF
                refine q_aload_n C hl 5 rfl rfl dX11_readSizes_74 ?_
                obtain ⟨k32, hF⟩ := ck_ok hF
                refine q_getr C Sm24 7 fo_RX11_22 (j := 7) rfl rfl hx0 k32 (by decide) dX11_readSizes_75 ?_
                refine q_iconst C 0 dX11_readSizes_78 ?_
                refine q_iload_n C hl 4 rfl rfl dX11_readSizes_79 ?_
                obtain ⟨i33, hF⟩ := ck_ok hF
                obtain ⟨m34, em34, hF⟩ := vm_ok hF
                refine q_iast C Sm24 k32 i33 h4.1 em34 dX11_readSizes_80 (fun H locs Sm34 => ?_)
                refine q_aload_n C hl 5 rfl rfl dX11_readSizes_81 ?_
                obtain ⟨k35, hF⟩ := ck_ok hF
                refine q_getr C Sm34 7 fo_RX11_22 (j := 7) rfl rfl hx0 k35 (by decide) dX11_readSizes_82 ?_
                refine q_iconst C 1 dX11_readSizes_85 ?_
                refine q_iload_n C hl 2 rfl rfl dX11_readSizes_86 ?_
                obtain ⟨i36, hF⟩ := ck_ok hF
                obtain ⟨m37, em37, hF⟩ := vm_ok hF
                refine q_iast C Sm34 k35 i36 h12.1 em37 dX11_readSizes_87 (fun H locs Sm37 => ?_)
                refine q_aload_n C hl 5 rfl rfl dX11_readSizes_88 ?_
                obtain ⟨k38, hF⟩ := ck_ok hF
                refine q_getr C Sm37 7 fo_RX11_22 (j := 7) rfl rfl hx0 k38 (by decide) dX11_readSizes_89 ?_
                refine q_iconst C 2 dX11_readSizes_92 ?_
                refine q_iload C hl 0 rfl dX11_readSizes_93 ?_
                obtain ⟨i39, hF⟩ := ck_ok hF
                obtain ⟨m40, em40, hF⟩ := vm_ok hF
                refine q_iast C Sm37 k38 i39 h20.1 em40 dX11_readSizes_95 (fun H locs Sm40 => ?_)
                refine q_iconst C 1 dX11_readSizes_96 ?_
                cases hF
                exact Kr _ _ _ _ Sm40 dX11_readSizes_97 ⟨r_b b_1, fun _ => b_1⟩ (nr_b b_1)
              · have hF := if_f hc31 hF
                exact wX11_readSizes_72 C Sm24  (lv_sub hl [] rfl) hF Kr
theorem cX11_readSizes_ok (l : Launch) (G : Gl) {g : Shp} {x0 : Int} {m m' : Mem} {r : Int} (hx0 : gk g x0 = 12) (hF : fX11_readSizes g x0 m = some (r, m')) : mI l yX11_readSizes (wT yX11_readSizes cX11_readSizes 6 (some .boolean)) rX11_readSizes G true (fun ad => [.ref (ad x0)]) g m r m' :=
  met_i (by decide) (fun ad => Nat.le_of_ble_eq_true rfl) (fun p e s mt args below meth c Q A H0 H locs ad ls C hnm S hl Kr => wX11_readSizes_0 C S hx0 hl hF Kr)
set_option maxRecDepth 20000 in
theorem wX11_readTheBag_73 {p : Program} {l : Launch} {e : Env} {s : State} {mt : MethodId} {args : Array Value} {below : List Frame} {meth : Method} {c : Code} {Q : State → Prop} {G : Gl} {A : Nat → Prop} {H0 : Heap} {ad : Int → Nat} {g : Shp} {H : Heap} {locs : List Loc} {ls : Array Slot} {m : Mem} {x0 x1 x2 x3 : Int} (C : CallFix p mt c cX11_readTheBag 6 s args tb RX11) (S : Wd G A s H0 ad g m H locs) (hx0 : gk g x0 = 12) (hx1 : r32 x1) (hx2 : r32 x2) (hx3 : r32 x3) (hl : lv_has ls 6 [(0, .ref (ad x0)), (1, .int (iI x1)), (2, .int (iI x2)), (3, .int (iI x3))]) {c1 : Int} {s1 : (Int × Int × Mem)} (hF : bX11_readTheBag_73 g x0 x1 x2 x3 m = some (c1, s1)) (K0 : c1 = 0 → ∀ (H : Heap) (locs : List Loc) (ls : Array Slot), r32 s1.1 → r32 s1.2.1 → Wd G A s H0 ad g s1.2.2 H locs → lv_has ls 6 [(0, .ref (ad x0)), (1, .int (iI x1)), (2, .int (iI s1.1)), (3, .int (iI s1.2.1))] → W p l e rX11_readTheBag s mt args below meth c H locs 0 0 Q (F0 mt 12 ls [])) (K1 : c1 = 1 → ∀ (H : Heap) (locs : List Loc) (ls : Array Slot), r32 s1.1 → Wd G A s H0 ad g s1.2.2 H locs → lv_has ls 6 [(0, .ref (ad x0)), (2, .int (iI s1.1))] → W p l e rX11_readTheBag s mt args below meth c H locs 0 0 Q (F0 mt 79 ls [])) : W p l e rX11_readTheBag s mt args below meth c H locs 0 0 Q (F0 mt 73 ls []) := by
  unfold bX11_readTheBag_73 at hF
  obtain ⟨y1, ey1, hF⟩ := vv_ok hF
  have ry1 : r32 y1 := ey1 ▸ r32_w _
  refine q_iinc C hl 3 [(3, .int (iI y1)), (0, .ref (ad x0)), (1, .int (iI x1)), (2, .int (iI x2))] rfl ey1 (by decide) rfl dX11_readTheBag_73 (fun ls hl => ?_)
  refine q_goto C 12 dX11_readTheBag_76 (by decide) ?_
  cases hF
  exact K0 rfl _ _ _ hx2 ry1 S (lv_sub hl [1, 2, 3, 0] rfl)
set_option maxRecDepth 20000 in
theorem wX11_readTheBag_56 {p : Program} {l : Launch} {e : Env} {s : State} {mt : MethodId} {args : Array Value} {below : List Frame} {meth : Method} {c : Code} {Q : State → Prop} {G : Gl} {A : Nat → Prop} {H0 : Heap} {ad : Int → Nat} {g : Shp} {H : Heap} {locs : List Loc} {ls : Array Slot} {m : Mem} {x0 x1 x3 x5 z0 : Int} (C : CallFix p mt c cX11_readTheBag 6 s args tb RX11) (S : Wd G A s H0 ad g m H locs) (hx0 : gk g x0 = 12) (hx1 : r32 x1) (hx3 : r32 x3) (hx5 : r32 x5) (hz0 : r32 z0) (hl : lv_has ls 6 [(0, .ref (ad x0)), (1, .int (iI x1)), (3, .int (iI x3)), (5, .int (iI x5))]) {c1 : Int} {s1 : (Int × Int × Mem)} (hF : bX11_readTheBag_56 g x0 x1 x3 x5 z0 m = some (c1, s1)) (K0 : c1 = 0 → ∀ (H : Heap) (locs : List Loc) (ls : Array Slot), r32 s1.1 → r32 s1.2.1 → Wd G A s H0 ad g s1.2.2 H locs → lv_has ls 6 [(0, .ref (ad x0)), (1, .int (iI x1)), (2, .int (iI s1.1)), (3, .int (iI s1.2.1))] → W p l e rX11_readTheBag s mt args below meth c H locs 0 0 Q (F0 mt 12 ls [])) (K1 : c1 = 1 → ∀ (H : Heap) (locs : List Loc) (ls : Array Slot), r32 s1.1 → Wd G A s H0 ad g s1.2.2 H locs → lv_has ls 6 [(0, .ref (ad x0)), (2, .int (iI s1.1))] → W p l e rX11_readTheBag s mt args below meth c H locs 0 0 Q (F0 mt 79 ls [])) : W p l e rX11_readTheBag s mt args below meth c H locs 0 0 Q (F0 mt 56 ls [.int (iI z0)]) := by
  unfold bX11_readTheBag_56 at hF
  refine q_istore_n C hl [(2, .int (iI z0)), (0, .ref (ad x0)), (1, .int (iI x1)), (3, .int (iI x3)), (5, .int (iI x5))] rfl rfl (by decide) rfl dX11_readTheBag_56 (fun ls hl => ?_)
  refine q_iload_n C hl 0 rfl rfl dX11_readTheBag_57 ?_
  refine q_if_eq C hz0 73 dX11_readTheBag_58 (by decide) (fun hc1 => ?_) (fun hc1 => ?_)
  · have hF := if_t hc1 hF
    exact wX11_readTheBag_73 C S hx0 hx1 hz0 hx3 (lv_sub hl [1, 2, 0, 3] rfl) hF K0 K1
  · have hF := if_f hc1 hF
    refine q_aload_n C hl 1 rfl rfl dX11_readTheBag_61 ?_
    obtain ⟨k2, hF⟩ := ck_ok hF
    refine q_getr C S 9 fo_RX11_25 (j := 9) rfl rfl hx0 k2 (by decide) dX11_readTheBag_62 ?_
    refine q_iconst C 3 dX11_readTheBag_65 ?_
    refine q_iload_n C hl 2 rfl rfl dX11_readTheBag_66 ?_
    refine q_imul C dX11_readTheBag_67 ?_
    refine q_iload_n C hl 3 rfl rfl dX11_readTheBag_68 ?_
    refine q_iadd C dX11_readTheBag_69 ?_
    refine q_iload C hl 4 rfl dX11_readTheBag_70 ?_
    obtain ⟨i3, hF⟩ := ck_ok hF
    obtain ⟨m4, em4, hF⟩ := vm_ok hF
    refine q_iast C S k2 i3 hx5 em4 dX11_readTheBag_72 (fun H locs Sm4 => ?_)
    exact wX11_readTheBag_73 C Sm4 hx0 hx1 hz0 hx3 (lv_sub hl [1, 2, 0, 3] rfl) hF K0 K1
set_option maxRecDepth 20000 in
theorem wX11_readTheBag_55 {p : Program} {l : Launch} {e : Env} {s : State} {mt : MethodId} {args : Array Value} {below : List Frame} {meth : Method} {c : Code} {Q : State → Prop} {G : Gl} {A : Nat → Prop} {H0 : Heap} {ad : Int → Nat} {g : Shp} {H : Heap} {locs : List Loc} {ls : Array Slot} {m : Mem} {x0 x1 x3 x5 : Int} (C : CallFix p mt c cX11_readTheBag 6 s args tb RX11) (S : Wd G A s H0 ad g m H locs) (hx0 : gk g x0 = 12) (hx1 : r32 x1) (hx3 : r32 x3) (hx5 : r32 x5) (hl : lv_has ls 6 [(0, .ref (ad x0)), (1, .int (iI x1)), (3, .int (iI x3)), (5, .int (iI x5))]) {c1 : Int} {s1 : (Int × Int × Mem)} (hF : bX11_readTheBag_55 g x0 x1 x3 x5 m = some (c1, s1)) (K0 : c1 = 0 → ∀ (H : Heap) (locs : List Loc) (ls : Array Slot), r32 s1.1 → r32 s1.2.1 → Wd G A s H0 ad g s1.2.2 H locs → lv_has ls 6 [(0, .ref (ad x0)), (1, .int (iI x1)), (2, .int (iI s1.1)), (3, .int (iI s1.2.1))] → W p l e rX11_readTheBag s mt args below meth c H locs 0 0 Q (F0 mt 12 ls [])) (K1 : c1 = 1 → ∀ (H : Heap) (locs : List Loc) (ls : Array Slot), r32 s1.1 → Wd G A s H0 ad g s1.2.2 H locs → lv_has ls 6 [(0, .ref (ad x0)), (2, .int (iI s1.1))] → W p l e rX11_readTheBag s mt args below meth c H locs 0 0 Q (F0 mt 79 ls [])) : W p l e rX11_readTheBag s mt args below meth c H locs 0 0 Q (F0 mt 55 ls []) := by
  unfold bX11_readTheBag_55 at hF
  refine q_iconst C 0 dX11_readTheBag_55 ?_
  exact wX11_readTheBag_56 C S hx0 hx1 hx3 hx5 (rl 0 rfl) (lv_sub hl [0, 1, 2, 3] rfl) hF K0 K1
set_option maxRecDepth 20000 in
theorem wX11_readTheBag_12 {p : Program} {l : Launch} {e : Env} {s : State} {mt : MethodId} {args : Array Value} {below : List Frame} {meth : Method} {c : Code} {Q : State → Prop} {G : Gl} {A : Nat → Prop} {H0 : Heap} {ad : Int → Nat} {g : Shp} {H : Heap} {locs : List Loc} {ls : Array Slot} {m : Mem} {x0 x1 x2 x3 : Int} (C : CallFix p mt c cX11_readTheBag 6 s args tb RX11) (S : Wd G A s H0 ad g m H locs) (hx0 : gk g x0 = 12) (hx1 : r32 x1) (hx2 : r32 x2) (hx3 : r32 x3) (hl : lv_has ls 6 [(0, .ref (ad x0)), (1, .int (iI x1)), (2, .int (iI x2)), (3, .int (iI x3))]) {c1 : Int} {s1 : (Int × Int × Mem)} (hF : bX11_readTheBag_12 g x0 x1 x2 x3 m = some (c1, s1)) (K0 : c1 = 0 → ∀ (H : Heap) (locs : List Loc) (ls : Array Slot), r32 s1.1 → r32 s1.2.1 → Wd G A s H0 ad g s1.2.2 H locs → lv_has ls 6 [(0, .ref (ad x0)), (1, .int (iI x1)), (2, .int (iI s1.1)), (3, .int (iI s1.2.1))] → W p l e rX11_readTheBag s mt args below meth c H locs 0 0 Q (F0 mt 12 ls [])) (K1 : c1 = 1 → ∀ (H : Heap) (locs : List Loc) (ls : Array Slot), r32 s1.1 → Wd G A s H0 ad g s1.2.2 H locs → lv_has ls 6 [(0, .ref (ad x0)), (2, .int (iI s1.1))] → W p l e rX11_readTheBag s mt args below meth c H locs 0 0 Q (F0 mt 79 ls [])) : W p l e rX11_readTheBag s mt args below meth c H locs 0 0 Q (F0 mt 12 ls []) := by
  unfold bX11_readTheBag_12 at hF
  refine q_iload_n C hl 3 rfl rfl dX11_readTheBag_12 ?_
  refine q_iconst C 3 dX11_readTheBag_13 ?_
  refine q_icmp_ge C hx3 (rl 3 rfl) 79 dX11_readTheBag_14 (by decide) (fun hc1 => ?_) (fun hc1 => ?_)
  · have hF := if_t hc1 hF
    cases hF
    exact K1 rfl _ _ _ hx2 S (lv_sub hl [0, 2] rfl)
  · have hF := if_f hc1 hF
    refine q_iload_n C hl 2 rfl rfl dX11_readTheBag_17 ?_
    refine q_if_eq C hx2 79 dX11_readTheBag_18 (by decide) (fun hc2 => ?_) (fun hc2 => ?_)
    · have hF := if_t hc2 hF
      cases hF
      exact K1 rfl _ _ _ hx2 S (lv_sub hl [0, 2] rfl)
    · have hF := if_f hc2 hF
      refine q_aload_n C hl 0 rfl rfl dX11_readTheBag_21 ?_
      refine q_bipush C 44 (by decide) dX11_readTheBag_22 ?_
      obtain ⟨v3, m4, h5, hF⟩ := bd2_ok hF
      refine q_ci S (run_V (As := [.int (iI 44)]) (rest := []) C S (cX11_takeSign_ok l G hx0 (rl 44 rfl) h5 ad _) hx0 ⟨by decide, _, _, rfl⟩ gd_RX11_144 hdV_X11_takeSign rfl ⟨rfl, rfl, by decide, by decide⟩ ⟨Nat.zero_le _, Nat.zero_le _⟩ hl.1 rfl (Nat.le_of_ble_eq_true rfl) dX11_readTheBag_24) (fun H locs Sm4 h6 => ?_)
      refine q_istore C hl [(4, .int (iI v3)), (0, .ref (ad x0)), (1, .int (iI x1)), (2, .int (iI x2)), (3, .int (iI x3))] rfl (by decide) rfl dX11_readTheBag_27 (fun ls hl => ?_)
      refine q_aload_n C hl 1 rfl rfl dX11_readTheBag_29 ?_
      obtain ⟨v7, m8, h9, hF⟩ := bd2_ok hF
      refine q_ci Sm4 (run_V (As := []) (rest := []) C Sm4 (cX11_takeNumber_ok l G hx0 h9 ad _) hx0 ⟨by decide, _, _, rfl⟩ gd_RX11_140 hdV_X11_takeNumber rfl ⟨rfl, rfl, by decide, by decide⟩ ⟨Nat.zero_le _, Nat.zero_le _⟩ hl.1 rfl (Nat.le_of_ble_eq_true rfl) dX11_readTheBag_30) (fun H locs Sm8 h10 => ?_)
      refine q_istore C hl [(5, .int (iI v7)), (4, .int (iI v3)), (0, .ref (ad x0)), (1, .int (iI x1)), (2, .int (iI x2)), (3, .int (iI x3))] rfl (by decide) rfl dX11_readTheBag_33 (fun ls hl => ?_)
      refine q_iload C hl 1 rfl dX11_readTheBag_35 ?_
      refine q_if_eq C h6.1 55 dX11_readTheBag_37 (by decide) (fun hc11 => ?_) (fun hc11 => ?_)
      · have hF := if_t hc11 hF
        exact wX11_readTheBag_55 C Sm8 hx0 hx1 hx3 h10.1 (lv_sub hl [2, 3, 5, 0] rfl) hF K0 K1
      · have hF := if_f hc11 hF
        refine q_iload C hl 0 rfl dX11_readTheBag_40 ?_
        refine q_iconst C 0 dX11_readTheBag_42 ?_
        refine q_bipush C 6 (by decide) dX11_readTheBag_43 ?_
        obtain ⟨v12, m13, h14, hF⟩ := bd2_ok hF
        refine q_ci Sm8 (run_S (As := [.int (iI v7), .int (iI 0), .int (iI 6)]) (rest := []) C Sm8 (cX11_in_ok l G h10.1 (rl 0 rfl) (rl 6 rfl) h14 ad _) gd_RX11_110 hd_X11_in rfl ⟨rfl, rfl, by decide, by decide⟩ ⟨Nat.zero_le _, Nat.zero_le _⟩ hl.1 rfl (Nat.le_of_ble_eq_true rfl) dX11_readTheBag_45) (fun H locs Sm13 h15 => ?_)
        refine q_if_eq C h15.1 55 dX11_readTheBag_48 (by decide) (fun hc16 => ?_) (fun hc16 => ?_)
        · have hF := if_t hc16 hF
          exact wX11_readTheBag_55 C Sm13 hx0 hx1 hx3 h10.1 (lv_sub hl [2, 3, 5, 0] rfl) hF K0 K1
        · have hF := if_f hc16 hF
          refine q_iconst C 1 dX11_readTheBag_51 ?_
          refine q_goto C 56 dX11_readTheBag_52 (by decide) ?_
          exact wX11_readTheBag_56 C Sm13 hx0 hx1 hx3 h10.1 (rl 1 rfl) (lv_sub hl [2, 3, 5, 0] rfl) hF K0 K1
set_option maxRecDepth 20000 in
theorem lX11_readTheBag_12 {p : Program} {l : Launch} {e : Env} {s : State} {mt : MethodId} {args : Array Value} {below : List Frame} {meth : Method} {c : Code} {Q : State → Prop} {G : Gl} {A : Nat → Prop} {H0 : Heap} {ad : Int → Nat} {g : Shp} {x0 x1 : Int} (C : CallFix p mt c cX11_readTheBag 6 s args tb RX11) (hx0 : gk g x0 = 12) (hx1 : r32 x1) {n : Nat} {s0 s1 : (Int × Int × Mem)} {c1 : Int} (hI : iter (BX11_readTheBag_12 g x0 x1) n s0 = some (c1, s1)) (K1 : c1 = 1 → ∀ (H : Heap) (locs : List Loc) (ls : Array Slot), r32 s1.1 → Wd G A s H0 ad g s1.2.2 H locs → lv_has ls 6 [(0, .ref (ad x0)), (2, .int (iI s1.1))] → W p l e rX11_readTheBag s mt args below meth c H locs 0 0 Q (F0 mt 79 ls [])) : ∀ (H : Heap) (locs : List Loc) (ls : Array Slot), r32 s0.1 → r32 s0.2.1 → Wd G A s H0 ad g s0.2.2 H locs → lv_has ls 6 [(0, .ref (ad x0)), (1, .int (iI x1)), (2, .int (iI s0.1)), (3, .int (iI s0.2.1))] → W p l e rX11_readTheBag s mt args below meth c H locs 0 0 Q (F0 mt 12 ls []) :=
  iter_W (Pw := fun q => ∀ (H : Heap) (locs : List Loc) (ls : Array Slot), r32 q.1 → r32 q.2.1 → Wd G A s H0 ad g q.2.2 H locs → lv_has ls 6 [(0, .ref (ad x0)), (1, .int (iI x1)), (2, .int (iI q.1)), (3, .int (iI q.2.1))] → W p l e rX11_readTheBag s mt args below meth c H locs 0 0 Q (F0 mt 12 ls [])) (Px := fun c0 q => (c0 = 1 → ∀ (H : Heap) (locs : List Loc) (ls : Array Slot), r32 q.1 → Wd G A s H0 ad g q.2.2 H locs → lv_has ls 6 [(0, .ref (ad x0)), (2, .int (iI q.1))] → W p l e rX11_readTheBag s mt args below meth c H locs 0 0 Q (F0 mt 79 ls [])))
    (fun s c s' hB K0 kx H locs ls f0 f1 S hl => wX11_readTheBag_12 C S hx0 hx1 f0 f1 hl hB K0 (fun h9 => (kx (by rw [h9]; decide)) h9)) _ _ _ _ hI K1
set_option maxRecDepth 20000 in
theorem wX11_readTheBag_97 {p : Program} {l : Launch} {e : Env} {s : State} {mt : MethodId} {args : Array Value} {below : List Frame} {meth : Method} {c : Code} {Q : State → Prop} {G : Gl} {A : Nat → Prop} {H0 : Heap} {ad : Int → Nat} {g : Shp} {H : Heap} {locs : List Loc} {ls : Array Slot} {m : Mem} {z0 : Int} (C : CallFix p mt c cX11_readTheBag 6 s args tb RX11) (S : Wd G A s H0 ad g m H locs) (hz0 : r32 z0) (hl : lv_has ls 6 []) {r : Int} {m' : Mem} (hF : bX11_readTheBag_97 g z0 m = some (r, m')) (Kr : ∀ (H : Heap) (locs : List Loc) (pc : Nat) (ls : Array Slot), Wd G A s H0 ad g m' H locs → decode cX11_readTheBag pc = .ok (.ireturn, 1) → r32 r ∧ (true = true → r = 0 ∨ r = 1) → narrow .boolean (.int (iI r)) = .int (iI r) → W p l e rX11_readTheBag s mt args below meth c H locs 0 0 Q (F0 mt pc ls [.int (iI r)])) : W p l e rX11_readTheBag s mt args below meth c H locs 0 0 Q (F0 mt 97 ls [.int (iI z0)]) := by
  unfold bX11_readTheBag_97 at hF
  obtain ⟨b1, hF⟩ := ck_ok hF
  cases hF
  exact Kr _ _ _ _ S dX11_readTheBag_97 ⟨r_b b1, fun _ => b1⟩ (nr_b b1)
set_option maxRecDepth 20000 in
theorem wX11_readTheBag_96 {p : Program} {l : Launch} {e : Env} {s : State} {mt : MethodId} {args : Array Value} {below : List Frame} {meth : Method} {c : Code} {Q : State → Prop} {G : Gl} {A : Nat → Prop} {H0 : Heap} {ad : Int → Nat} {g : Shp} {H : Heap} {locs : List Loc} {ls : Array Slot} {m : Mem} (C : CallFix p mt c cX11_readTheBag 6 s args tb RX11) (S : Wd G A s H0 ad g m H locs)  (hl : lv_has ls 6 []) {r : Int} {m' : Mem} (hF : bX11_readTheBag_96 g m = some (r, m')) (Kr : ∀ (H : Heap) (locs : List Loc) (pc : Nat) (ls : Array Slot), Wd G A s H0 ad g m' H locs → decode cX11_readTheBag pc = .ok (.ireturn, 1) → r32 r ∧ (true = true → r = 0 ∨ r = 1) → narrow .boolean (.int (iI r)) = .int (iI r) → W p l e rX11_readTheBag s mt args below meth c H locs 0 0 Q (F0 mt pc ls [.int (iI r)])) : W p l e rX11_readTheBag s mt args below meth c H locs 0 0 Q (F0 mt 96 ls []) := by
  unfold bX11_readTheBag_96 at hF
  refine q_iconst C 0 dX11_readTheBag_96 ?_
  exact wX11_readTheBag_97 C S (rl 0 rfl) (lv_sub hl [] rfl) hF Kr
set_option maxRecDepth 20000 in
theorem wX11_readTheBag_79 {p : Program} {l : Launch} {e : Env} {s : State} {mt : MethodId} {args : Array Value} {below : List Frame} {meth : Method} {c : Code} {Q : State → Prop} {G : Gl} {A : Nat → Prop} {H0 : Heap} {ad : Int → Nat} {g : Shp} {H : Heap} {locs : List Loc} {ls : Array Slot} {m : Mem} {x0 x2 : Int} (C : CallFix p mt c cX11_readTheBag 6 s args tb RX11) (S : Wd G A s H0 ad g m H locs) (hx0 : gk g x0 = 12) (hx2 : r32 x2) (hl : lv_has ls 6 [(0, .ref (ad x0)), (2, .int (iI x2))]) {r : Int} {m' : Mem} (hF : bX11_readTheBag_79 g x0 x2 m = some (r, m')) (Kr : ∀ (H : Heap) (locs : List Loc) (pc : Nat) (ls : Array Slot), Wd G A s H0 ad g m' H locs → decode cX11_readTheBag pc = .ok (.ireturn, 1) → r32 r ∧ (true = true → r = 0 ∨ r = 1) → narrow .boolean (.int (iI r)) = .int (iI r) → W p l e rX11_readTheBag s mt args below meth c H locs 0 0 Q (F0 mt pc ls [.int (iI r)])) : W p l e rX11_readTheBag s mt args below meth c H locs 0 0 Q (F0 mt 79 ls []) := by
  unfold bX11_readTheBag_79 at hF
  refine q_iload_n C hl 1 rfl rfl dX11_readTheBag_79 ?_
  refine q_if_eq C hx2 96 dX11_readTheBag_80 (by decide) (fun hc1 => ?_) (fun hc1 => ?_)
  · have hF := if_t hc1 hF
    exact wX11_readTheBag_96 C S  (lv_sub hl [] rfl) hF Kr
  · have hF := if_f hc1 hF
    refine q_aload_n C hl 0 rfl rfl dX11_readTheBag_83 ?_
    refine q_bipush C 59 (by decide) dX11_readTheBag_84 ?_
    obtain ⟨v2, m3, h4, hF⟩ := bd2_ok hF
    refine q_ci S (run_V (As := [.int (iI 59)]) (rest := []) C S (cX11_takeSign_ok l G hx0 (rl 59 rfl) h4 ad _) hx0 ⟨by decide, _, _, rfl⟩ gd_RX11_144 hdV_X11_takeSign rfl ⟨rfl, rfl, by decide, by decide⟩ ⟨Nat.zero_le _, Nat.zero_le _⟩ hl.1 rfl (Nat.le_of_ble_eq_true rfl) dX11_readTheBag_86) (fun H locs Sm3 h5 => ?_)
    refine q_if_eq C h5.1 96 dX11_readTheBag_89 (by decide) (fun hc6 => ?_) (fun hc6 => ?_)
    · have hF := if_t hc6 hF
      exact wX11_readTheBag_96 C Sm3  (lv_sub hl [] rfl) hF Kr
    · have hF := if_f hc6 hF
      refine q_iconst C 1 dX11_readTheBag_92 ?_
      refine q_goto C 97 dX11_readTheBag_93 (by decide) ?_
      exact wX11_readTheBag_97 C Sm3 (rl 1 rfl) (lv_sub hl [] rfl) hF Kr
set_option maxRecDepth 20000 in
theorem wX11_readTheBag_0 {p : Program} {l : Launch} {e : Env} {s : State} {mt : MethodId} {args : Array Value} {below : List Frame} {meth : Method} {c : Code} {Q : State → Prop} {G : Gl} {A : Nat → Prop} {H0 : Heap} {ad : Int → Nat} {g : Shp} {H : Heap} {locs : List Loc} {ls : Array Slot} {m : Mem} {x0 : Int} (C : CallFix p mt c cX11_readTheBag 6 s args tb RX11) (S : Wd G A s H0 ad g m H locs) (hx0 : gk g x0 = 12) (hl : lv_has ls 6 [(0, .ref (ad x0))]) {r : Int} {m' : Mem} (hF : bX11_readTheBag_0 g x0 m = some (r, m')) (Kr : ∀ (H : Heap) (locs : List Loc) (pc : Nat) (ls : Array Slot), Wd G A s H0 ad g m' H locs → decode cX11_readTheBag pc = .ok (.ireturn, 1) → r32 r ∧ (true = true → r = 0 ∨ r = 1) → narrow .boolean (.int (iI r)) = .int (iI r) → W p l e rX11_readTheBag s mt args below meth c H locs 0 0 Q (F0 mt pc ls [.int (iI r)])) : W p l e rX11_readTheBag s mt args below meth c H locs 0 0 Q (F0 mt 0 ls []) := by
  unfold bX11_readTheBag_0 at hF
  refine q_aload_n C hl 0 rfl rfl dX11_readTheBag_0 ?_
  obtain ⟨v1, m2, h3, hF⟩ := bd2_ok hF
  refine q_ci S (run_V (As := []) (rest := []) C S (cX11_takeNumber_ok l G hx0 h3 ad _) hx0 ⟨by decide, _, _, rfl⟩ gd_RX11_140 hdV_X11_takeNumber rfl ⟨rfl, rfl, by decide, by decide⟩ ⟨Nat.zero_le _, Nat.zero_le _⟩ hl.1 rfl (Nat.le_of_ble_eq_true rfl) dX11_readTheBag_1) (fun H locs Sm2 h4 => ?_)
  refine q_istore_n C hl [(1, .int (iI v1)), (0, .ref (ad x0))] rfl rfl (by decide) rfl dX11_readTheBag_4 (fun ls hl => ?_)
  refine q_iload_n C hl 0 rfl rfl dX11_readTheBag_5 ?_
  obtain ⟨v5, m6, h7, hF⟩ := bd2_ok hF
  refine q_ci Sm2 (run_S (As := [.int (iI v1)]) (rest := []) C Sm2 (cX11_isColour_ok l G h4.1 h7 ad _) gd_RX11_148 hd_X11_isColour rfl ⟨rfl, rfl, by decide, by decide⟩ ⟨Nat.zero_le _, Nat.zero_le _⟩ hl.1 rfl (Nat.le_of_ble_eq_true rfl) dX11_readTheBag_6) (fun H locs Sm6 h8 => ?_)
  refine q_istore_n C hl [(2, .int (iI v5)), (1, .int (iI v1)), (0, .ref (ad x0))] rfl rfl (by decide) rfl dX11_readTheBag_9 (fun ls hl => ?_)
  refine q_iconst C 0 dX11_readTheBag_10 ?_
  refine q_istore_n C hl [(3, .int (iI 0)), (2, .int (iI v5)), (1, .int (iI v1)), (0, .ref (ad x0))] rfl rfl (by decide) rfl dX11_readTheBag_11 (fun ls hl => ?_)
  obtain ⟨cv9, sv10, hi11, hF⟩ := bdl_ok hF
  refine lX11_readTheBag_12 C hx0 h4.1 hi11 ?_ _ _ _ h8.1 (rl 0 rfl) Sm6 (lv_sub hl [3, 2, 1, 0] rfl)
  intro _ H locs ls f13 S12 hl
  exact wX11_readTheBag_79 C S12 hx0 f13 (lv_sub hl [0, 1] rfl) hF Kr
theorem cX11_readTheBag_ok (l : Launch) (G : Gl) {g : Shp} {x0 : Int} {m m' : Mem} {r : Int} (hx0 : gk g x0 = 12) (hF : fX11_readTheBag g x0 m = some (r, m')) : mI l yX11_readTheBag (wT yX11_readTheBag cX11_readTheBag 6 (some .boolean)) rX11_readTheBag G true (fun ad => [.ref (ad x0)]) g m r m' :=
  met_i (by decide) (fun ad => Nat.le_of_ble_eq_true rfl) (fun p e s mt args below meth c Q A H0 H locs ad ls C hnm S hl Kr => wX11_readTheBag_0 C S hx0 hl hF Kr)
set_option maxRecDepth 20000 in
theorem wX11_readLine_102 {p : Program} {l : Launch} {e : Env} {s : State} {mt : MethodId} {args : Array Value} {below : List Frame} {meth : Method} {c : Code} {Q : State → Prop} {G : Gl} {A : Nat → Prop} {H0 : Heap} {ad : Int → Nat} {g : Shp} {H : Heap} {locs : List Loc} {ls : Array Slot} {m : Mem} {x0 z0 : Int} (C : CallFix p mt c cX11_readLine 7 s args tb RX11) (S : Wd G A s H0 ad g m H locs) (hx0 : gk g x0 = 12) (hz0 : r32 z0) (hl : lv_has ls 7 [(0, .ref (ad x0))]) {c1 : Int} {s1 : (Int × Mem)} (hF : bX11_readLine_102 g x0 z0 m = some (c1, s1)) (K0 : c1 = 0 → ∀ (H : Heap) (locs : List Loc) (ls : Array Slot), r32 s1.1 → Wd G A s H0 ad g s1.2 H locs → lv_has ls 7 [(0, .ref (ad x0)), (5, .int (iI s1.1))] → W p l e rX11_readLine s mt args below meth c H locs 0 0 Q (F0 mt 73 ls [])) (K1 : c1 = 1 → ∀ (H : Heap) (locs : List Loc) (ls : Array Slot), Wd G A s H0 ad g s1.2 H locs → lv_has ls 7 [] → W p l e rX11_readLine s mt args below meth c H locs 0 0 Q (F0 mt 127 ls [])) (K2 : c1 = 2 → ∀ (H : Heap) (locs : List Loc) (ls : Array Slot), Wd G A s H0 ad g s1.2 H locs → lv_has ls 7 [(0, .ref (ad x0))] → W p l e rX11_readLine s mt args below meth c H locs 0 0 Q (F0 mt 140 ls [])) : W p l e rX11_readLine s mt args below meth c H locs 0 0 Q (F0 mt 102 ls [.int (iI z0)]) := by
  unfold bX11_readLine_102 at hF
  refine q_istore C hl [(6, .int (iI z0)), (0, .ref (ad x0))] rfl (by decide) rfl dX11_readLine_102 (fun ls hl => ?_)
  refine q_aload_n C hl 1 rfl rfl dX11_readLine_104 ?_
  refine q_dup C rfl dX11_readLine_105 ?_
  refine q_geti C S 6 fo_RX11_134 (j := 6) rfl rfl hx0 dX11_readLine_106 ?_
  refine q_iconst C 1 dX11_readLine_109 ?_
  refine q_iadd C dX11_readLine_110 ?_
  obtain ⟨m1, em1, hF⟩ := vm_ok hF
  refine q_put C S 6 fo_RX11_134 fp_12_6 (fun h9 => absurd h9 (by decide)) (j := 6) rfl hx0 rfl rfl rfl (r32_w _) (fun h9 => absurd h9 (by decide)) em1 dX11_readLine_111 (fun H locs Sm1 => ?_)
  refine q_aload_n C hl 1 rfl rfl dX11_readLine_114 ?_
  refine q_iload C hl 0 rfl dX11_readLine_115 ?_
  refine q_aload_n C hl 1 rfl rfl dX11_readLine_117 ?_
  obtain ⟨v2, m3, h4, hF⟩ := bd2_ok hF
  refine q_ci Sm1 (run_V (As := []) (rest := [.int (iI z0), .ref (ad x0)]) C Sm1 (cX11_takeNumber_ok l G hx0 h4 ad _) hx0 ⟨by decide, _, _, rfl⟩ gd_RX11_140 hdV_X11_takeNumber rfl ⟨rfl, rfl, by decide, by decide⟩ ⟨Nat.zero_le _, Nat.zero_le _⟩ hl.1 rfl (Nat.le_of_ble_eq_true rfl) dX11_readLine_118) (fun H locs Sm3 h5 => ?_)
  obtain ⟨v6, m7, h8, hF⟩ := bd2_ok hF
  refine q_ci Sm3 (run_V (As := [.int (iI z0), .int (iI v2)]) (rest := []) C Sm3 (cX11_goRun_ok l G hx0 hz0 h5.1 h8 ad _) hx0 ⟨by decide, _, _, rfl⟩ gd_RX11_96 hdV_X11_goRun rfl ⟨rfl, rfl, by decide, by decide⟩ ⟨Nat.zero_le _, Nat.zero_le _⟩ hl.1 rfl (Nat.le_of_ble_eq_true rfl) dX11_readLine_121) (fun H locs Sm7 h9 => ?_)
  refine q_if_ne C h9.1 129 dX11_readLine_124 (by decide) (fun hc10 => ?_) (fun hc10 => ?_)
  · have hF := if_t hc10 hF
    cases hF
    exact K1 rfl _ _ _  Sm7 (lv_sub hl [] rfl)
  · have hF := if_f hc10 hF
    refine q_aload_n C hl 1 rfl rfl dX11_readLine_129 ?_
    refine q_bipush C 59 (by decide) dX11_readLine_130 ?_
    obtain ⟨v11, m12, h13, hF⟩ := bd2_ok hF
    refine q_ci Sm7 (run_V (As := [.int (iI 59)]) (rest := []) C Sm7 (cX11_takeSign_ok l G hx0 (rl 59 rfl) h13 ad _) hx0 ⟨by decide, _, _, rfl⟩ gd_RX11_144 hdV_X11_takeSign rfl ⟨rfl, rfl, by decide, by decide⟩ ⟨Nat.zero_le _, Nat.zero_le _⟩ hl.1 rfl (Nat.le_of_ble_eq_true rfl) dX11_readLine_132) (fun H locs Sm12 h14 => ?_)
    refine q_istore C hl [(5, .int (iI v11)), (6, .int (iI z0)), (0, .ref (ad x0))] rfl (by decide) rfl dX11_readLine_135 (fun ls hl => ?_)
    refine q_goto C 73 dX11_readLine_137 (by decide) ?_
    cases hF
    exact K0 rfl _ _ _ h14.1 Sm12 (lv_sub hl [2, 0] rfl)
set_option maxRecDepth 20000 in
theorem wX11_readLine_73 {p : Program} {l : Launch} {e : Env} {s : State} {mt : MethodId} {args : Array Value} {below : List Frame} {meth : Method} {c : Code} {Q : State → Prop} {G : Gl} {A : Nat → Prop} {H0 : Heap} {ad : Int → Nat} {g : Shp} {H : Heap} {locs : List Loc} {ls : Array Slot} {m : Mem} {x0 x5 : Int} (C : CallFix p mt c cX11_readLine 7 s args tb RX11) (S : Wd G A s H0 ad g m H locs) (hx0 : gk g x0 = 12) (hx5 : r32 x5) (hl : lv_has ls 7 [(0, .ref (ad x0)), (5, .int (iI x5))]) {c1 : Int} {s1 : (Int × Mem)} (hF : bX11_readLine_73 g x0 x5 m = some (c1, s1)) (K0 : c1 = 0 → ∀ (H : Heap) (locs : List Loc) (ls : Array Slot), r32 s1.1 → Wd G A s H0 ad g s1.2 H locs → lv_has ls 7 [(0, .ref (ad x0)), (5, .int (iI s1.1))] → W p l e rX11_readLine s mt args below meth c H locs 0 0 Q (F0 mt 73 ls [])) (K1 : c1 = 1 → ∀ (H : Heap) (locs : List Loc) (ls : Array Slot), Wd G A s H0 ad g s1.2 H locs → lv_has ls 7 [] → W p l e rX11_readLine s mt args below meth c H locs 0 0 Q (F0 mt 127 ls [])) (K2 : c1 = 2 → ∀ (H : Heap) (locs : List Loc) (ls : Array Slot), Wd G A s H0 ad g s1.2 H locs → lv_has ls 7 [(0, .ref (ad x0))] → W p l e rX11_readLine s mt args below meth c H locs 0 0 Q (F0 mt 140 ls [])) : W p l e rX11_readLine s mt args below meth c H locs 0 0 Q (F0 mt 73 ls []) := by
  unfold bX11_readLine_73 at hF
  refine q_iload C hl 1 rfl dX11_readLine_73 ?_
  refine q_if_ne C hx5 140 dX11_readLine_75 (by decide) (fun hc1 => ?_) (fun hc1 => ?_)
  · have hF := if_t hc1 hF
    refine q_aload_n C hl 0 rfl rfl dX11_readLine_78 ?_
    refine q_geti C S 6 fo_RX11_134 (j := 6) rfl rfl hx0 dX11_readLine_79 ?_
    refine q_aload_n C hl 0 rfl rfl dX11_readLine_82 ?_
    refine q_geti C S 5 fo_RX11_137 (j := 5) rfl rfl hx0 dX11_readLine_83 ?_
    refine q_icmp_ge C (S.r _ _) (S.r _ _) 101 dX11_readLine_86 (by decide) (fun hc2 => ?_) (fun hc2 => ?_)
    · have hF := if_t hc2 hF
      refine q_iconst C 0 dX11_readLine_101 ?_
      exact wX11_readLine_102 C S hx0 (rl 0 rfl) (lv_sub hl [0] rfl) hF K0 K1 K2
    · have hF := if_f hc2 hF
      refine q_aload_n C hl 0 rfl rfl dX11_readLine_89 ?_
      obtain ⟨k3, hF⟩ := ck_ok hF
      refine q_getr C S 4 fo_RX11_19 (j := 4) rfl rfl hx0 k3 (by decide) dX11_readLine_90 ?_
      refine q_aload_n C hl 0 rfl rfl dX11_readLine_93 ?_
      refine q_geti C S 6 fo_RX11_134 (j := 6) rfl rfl hx0 dX11_readLine_94 ?_
      obtain ⟨i4, hF⟩ := ck_ok hF
      refine q_iald C S k3 i4 dX11_readLine_97 ?_
      refine q_goto C 102 dX11_readLine_98 (by decide) ?_
      exact wX11_readLine_102 C S hx0 (S.r _ _) (lv_sub hl [0] rfl) hF K0 K1 K2
  · have hF := if_f hc1 hF
    cases hF
    exact K2 rfl _ _ _  S (lv_sub hl [0] rfl)
set_option maxRecDepth 20000 in
theorem lX11_readLine_73 {p : Program} {l : Launch} {e : Env} {s : State} {mt : MethodId} {args : Array Value} {below : List Frame} {meth : Method} {c : Code} {Q : State → Prop} {G : Gl} {A : Nat → Prop} {H0 : Heap} {ad : Int → Nat} {g : Shp} {x0 : Int} (C : CallFix p mt c cX11_readLine 7 s args tb RX11) (hx0 : gk g x0 = 12) {n : Nat} {s0 s1 : (Int × Mem)} {c1 : Int} (hI : iter (BX11_readLine_73 g x0) n s0 = some (c1, s1)) (K1 : c1 = 1 → ∀ (H : Heap) (locs : List Loc) (ls : Array Slot), Wd G A s H0 ad g s1.2 H locs → lv_has ls 7 [] → W p l e rX11_readLine s mt args below meth c H locs 0 0 Q (F0 mt 127 ls [])) (K2 : c1 = 2 → ∀ (H : Heap) (locs : List Loc) (ls : Array Slot), Wd G A s H0 ad g s1.2 H locs → lv_has ls 7 [(0, .ref (ad x0))] → W p l e rX11_readLine s mt args below meth c H locs 0 0 Q (F0 mt 140 ls [])) : ∀ (H : Heap) (locs : List Loc) (ls : Array Slot), r32 s0.1 → Wd G A s H0 ad g s0.2 H locs → lv_has ls 7 [(0, .ref (ad x0)), (5, .int (iI s0.1))] → W p l e rX11_readLine s mt args below meth c H locs 0 0 Q (F0 mt 73 ls []) :=
  iter_W (Pw := fun q => ∀ (H : Heap) (locs : List Loc) (ls : Array Slot), r32 q.1 → Wd G A s H0 ad g q.2 H locs → lv_has ls 7 [(0, .ref (ad x0)), (5, .int (iI q.1))] → W p l e rX11_readLine s mt args below meth c H locs 0 0 Q (F0 mt 73 ls [])) (Px := fun c0 q => (c0 = 1 → ∀ (H : Heap) (locs : List Loc) (ls : Array Slot), Wd G A s H0 ad g q.2 H locs → lv_has ls 7 [] → W p l e rX11_readLine s mt args below meth c H locs 0 0 Q (F0 mt 127 ls [])) ∧ (c0 = 2 → ∀ (H : Heap) (locs : List Loc) (ls : Array Slot), Wd G A s H0 ad g q.2 H locs → lv_has ls 7 [(0, .ref (ad x0))] → W p l e rX11_readLine s mt args below meth c H locs 0 0 Q (F0 mt 140 ls [])))
    (fun s c s' hB K0 kx H locs ls f0 S hl => wX11_readLine_73 C S hx0 f0 hl hB K0 (fun h9 => (kx (by rw [h9]; decide)).1 h9) (fun h9 => (kx (by rw [h9]; decide)).2 h9)) _ _ _ _ hI ⟨K1, K2⟩
set_option maxRecDepth 20000 in
theorem wX11_readLine_62 {p : Program} {l : Launch} {e : Env} {s : State} {mt : MethodId} {args : Array Value} {below : List Frame} {meth : Method} {c : Code} {Q : State → Prop} {G : Gl} {A : Nat → Prop} {H0 : Heap} {ad : Int → Nat} {g : Shp} {H : Heap} {locs : List Loc} {ls : Array Slot} {m : Mem} (C : CallFix p mt c cX11_readLine 7 s args tb RX11) (S : Wd G A s H0 ad g m H locs)  (hl : lv_has ls 7 []) {r : Int} {m' : Mem} (hF : bX11_readLine_62 g m = some (r, m')) (Kr : ∀ (H : Heap) (locs : List Loc) (pc : Nat) (ls : Array Slot), Wd G A s H0 ad g m' H locs → decode cX11_readLine pc = .ok (.ireturn, 1) → r32 r ∧ (true = true → r = 0 ∨ r = 1) → narrow .boolean (.int (iI r)) = .int (iI r) → W p l e rX11_readLine s mt args below meth c H locs 0 0 Q (F0 mt pc ls [.int (iI r)])) : W p l e rX11_readLine s mt args below meth c H locs 0 0 Q (F0 mt 62 ls []) := by
  unfold bX11_readLine_62 at hF
  refine q_iconst C 0 dX11_readLine_62 ?_
  cases hF
  exact Kr _ _ _ _ S dX11_readLine_63 ⟨r_b b_0, fun _ => b_0⟩ (nr_b b_0)
set_option maxRecDepth 20000 in
theorem wX11_readLine_127 {p : Program} {l : Launch} {e : Env} {s : State} {mt : MethodId} {args : Array Value} {below : List Frame} {meth : Method} {c : Code} {Q : State → Prop} {G : Gl} {A : Nat → Prop} {H0 : Heap} {ad : Int → Nat} {g : Shp} {H : Heap} {locs : List Loc} {ls : Array Slot} {m : Mem} (C : CallFix p mt c cX11_readLine 7 s args tb RX11) (S : Wd G A s H0 ad g m H locs)  (hl : lv_has ls 7 []) {r : Int} {m' : Mem} (hF : bX11_readLine_127 g m = some (r, m')) (Kr : ∀ (H : Heap) (locs : List Loc) (pc : Nat) (ls : Array Slot), Wd G A s H0 ad g m' H locs → decode cX11_readLine pc = .ok (.ireturn, 1) → r32 r ∧ (true = true → r = 0 ∨ r = 1) → narrow .boolean (.int (iI r)) = .int (iI r) → W p l e rX11_readLine s mt args below meth c H locs 0 0 Q (F0 mt pc ls [.int (iI r)])) : W p l e rX11_readLine s mt args below meth c H locs 0 0 Q (F0 mt 127 ls []) := by
  unfold bX11_readLine_127 at hF
  refine q_iconst C 0 dX11_readLine_127 ?_
  cases hF
  exact Kr _ _ _ _ S dX11_readLine_128 ⟨r_b b_0, fun _ => b_0⟩ (nr_b b_0)
set_option maxRecDepth 20000 in
theorem wX11_readLine_140 {p : Program} {l : Launch} {e : Env} {s : State} {mt : MethodId} {args : Array Value} {below : List Frame} {meth : Method} {c : Code} {Q : State → Prop} {G : Gl} {A : Nat → Prop} {H0 : Heap} {ad : Int → Nat} {g : Shp} {H : Heap} {locs : List Loc} {ls : Array Slot} {m : Mem} {x0 : Int} (C : CallFix p mt c cX11_readLine 7 s args tb RX11) (S : Wd G A s H0 ad g m H locs) (hx0 : gk g x0 = 12) (hl : lv_has ls 7 [(0, .ref (ad x0))]) {r : Int} {m' : Mem} (hF : bX11_readLine_140 g x0 m = some (r, m')) (Kr : ∀ (H : Heap) (locs : List Loc) (pc : Nat) (ls : Array Slot), Wd G A s H0 ad g m' H locs → decode cX11_readLine pc = .ok (.ireturn, 1) → r32 r ∧ (true = true → r = 0 ∨ r = 1) → narrow .boolean (.int (iI r)) = .int (iI r) → W p l e rX11_readLine s mt args below meth c H locs 0 0 Q (F0 mt pc ls [.int (iI r)])) : W p l e rX11_readLine s mt args below meth c H locs 0 0 Q (F0 mt 140 ls []) := by
  unfold bX11_readLine_140 at hF
  refine q_aload_n C hl 0 rfl rfl dX11_readLine_140 ?_
  refine q_dup C rfl dX11_readLine_141 ?_
  refine q_geti C S 10 fo_RX11_100 (j := 10) rfl rfl hx0 dX11_readLine_142 ?_
  refine q_iconst C 1 dX11_readLine_145 ?_
  refine q_iadd C dX11_readLine_146 ?_
  obtain ⟨m1, em1, hF⟩ := vm_ok hF
  refine q_put C S 10 fo_RX11_100 fp_12_10 (fun h9 => absurd h9 (by decide)) (j := 10) rfl hx0 rfl rfl rfl (r32_w _) (fun h9 => absurd h9 (by decide)) em1 dX11_readLine_147 (fun H locs Sm1 => ?_)
  refine q_iconst C 1 dX11_readLine_150 ?_
  cases hF
  exact Kr _ _ _ _ Sm1 dX11_readLine_151 ⟨r_b b_1, fun _ => b_1⟩ (nr_b b_1)
set_option maxRecDepth 20000 in
theorem wX11_readLine_0 {p : Program} {l : Launch} {e : Env} {s : State} {mt : MethodId} {args : Array Value} {below : List Frame} {meth : Method} {c : Code} {Q : State → Prop} {G : Gl} {A : Nat → Prop} {H0 : Heap} {ad : Int → Nat} {g : Shp} {H : Heap} {locs : List Loc} {ls : Array Slot} {m : Mem} {x0 : Int} (C : CallFix p mt c cX11_readLine 7 s args tb RX11) (S : Wd G A s H0 ad g m H locs) (hx0 : gk g x0 = 12) (hl : lv_has ls 7 [(0, .ref (ad x0))]) {r : Int} {m' : Mem} (hF : bX11_readLine_0 g x0 m = some (r, m')) (Kr : ∀ (H : Heap) (locs : List Loc) (pc : Nat) (ls : Array Slot), Wd G A s H0 ad g m' H locs → decode cX11_readLine pc = .ok (.ireturn, 1) → r32 r ∧ (true = true → r = 0 ∨ r = 1) → narrow .boolean (.int (iI r)) = .int (iI r) → W p l e rX11_readLine s mt args below meth c H locs 0 0 Q (F0 mt pc ls [.int (iI r)])) : W p l e rX11_readLine s mt args below meth c H locs 0 0 Q (F0 mt 0 ls []) := by
  unfold bX11_readLine_0 at hF
  refine q_aload_n C hl 0 rfl rfl dX11_readLine_0 ?_
  obtain ⟨v1, m2, h3, hF⟩ := bd2_ok hF
  refine q_ci S (run_V (As := []) (rest := []) C S (cX11_takeNumber_ok l G hx0 h3 ad _) hx0 ⟨by decide, _, _, rfl⟩ gd_RX11_140 hdV_X11_takeNumber rfl ⟨rfl, rfl, by decide, by decide⟩ ⟨Nat.zero_le _, Nat.zero_le _⟩ hl.1 rfl (Nat.le_of_ble_eq_true rfl) dX11_readLine_1) (fun H locs Sm2 h4 => ?_)
  refine q_istore_n C hl [(1, .int (iI v1)), (0, .ref (ad x0))] rfl rfl (by decide) rfl dX11_readLine_4 (fun ls hl => ?_)
  refine q_aload_n C hl 1 rfl rfl dX11_readLine_5 ?_
  refine q_bipush C 44 (by decide) dX11_readLine_6 ?_
  obtain ⟨v5, m6, h7, hF⟩ := bd2_ok hF
  refine q_ci Sm2 (run_V (As := [.int (iI 44)]) (rest := []) C Sm2 (cX11_takeSign_ok l G hx0 (rl 44 rfl) h7 ad _) hx0 ⟨by decide, _, _, rfl⟩ gd_RX11_144 hdV_X11_takeSign rfl ⟨rfl, rfl, by decide, by decide⟩ ⟨Nat.zero_le _, Nat.zero_le _⟩ hl.1 rfl (Nat.le_of_ble_eq_true rfl) dX11_readLine_8) (fun H locs Sm6 h8 => ?_)
  refine q_istore_n C hl [(2, .int (iI v5)), (1, .int (iI v1)), (0, .ref (ad x0))] rfl rfl (by decide) rfl dX11_readLine_11 (fun ls hl => ?_)
  refine q_aload_n C hl 2 rfl rfl dX11_readLine_12 ?_
  obtain ⟨v9, m10, h11, hF⟩ := bd2_ok hF
  refine q_ci Sm6 (run_V (As := []) (rest := []) C Sm6 (cX11_takeNumber_ok l G hx0 h11 ad _) hx0 ⟨by decide, _, _, rfl⟩ gd_RX11_140 hdV_X11_takeNumber rfl ⟨rfl, rfl, by decide, by decide⟩ ⟨Nat.zero_le _, Nat.zero_le _⟩ hl.1 rfl (Nat.le_of_ble_eq_true rfl) dX11_readLine_13) (fun H locs Sm10 h12 => ?_)
  refine q_istore_n C hl [(3, .int (iI v9)), (2, .int (iI v5)), (1, .int (iI v1)), (0, .ref (ad x0))] rfl rfl (by decide) rfl dX11_readLine_16 (fun ls hl => ?_)
  refine q_aload_n C hl 3 rfl rfl dX11_readLine_17 ?_
  refine q_bipush C 44 (by decide) dX11_readLine_18 ?_
  obtain ⟨v13, m14, h15, hF⟩ := bd2_ok hF
  refine q_ci Sm10 (run_V (As := [.int (iI 44)]) (rest := []) C Sm10 (cX11_takeSign_ok l G hx0 (rl 44 rfl) h15 ad _) hx0 ⟨by decide, _, _, rfl⟩ gd_RX11_144 hdV_X11_takeSign rfl ⟨rfl, rfl, by decide, by decide⟩ ⟨Nat.zero_le _, Nat.zero_le _⟩ hl.1 rfl (Nat.le_of_ble_eq_true rfl) dX11_readLine_20) (fun H locs Sm14 h16 => ?_)
  refine q_istore C hl [(4, .int (iI v13)), (3, .int (iI v9)), (2, .int (iI v5)), (1, .int (iI v1)), (0, .ref (ad x0))] rfl (by decide) rfl dX11_readLine_23 (fun ls hl => ?_)
  refine q_aload_n C hl 4 rfl rfl dX11_readLine_25 ?_
  refine q_geti C Sm14 10 fo_RX11_100 (j := 10) rfl rfl hx0 dX11_readLine_26 ?_
  refine q_iconst C 3 dX11_readLine_29 ?_
  refine q_icmp_eq C (Sm14.r _ _) (rl 3 rfl) 62 dX11_readLine_30 (by decide) (fun hc17 => ?_) (fun hc17 => ?_)
  · have hF := if_t hc17 hF
    exact wX11_readLine_62 C Sm14  (lv_sub hl [] rfl) hF Kr
  · have hF := if_f hc17 hF
    refine q_iload_n C hl 2 rfl rfl dX11_readLine_33 ?_
    refine q_if_eq C h8.1 62 dX11_readLine_34 (by decide) (fun hc18 => ?_) (fun hc18 => ?_)
    · have hF := if_t hc18 hF
      exact wX11_readLine_62 C Sm14  (lv_sub hl [] rfl) hF Kr
    · have hF := if_f hc18 hF
      refine q_iload C hl 0 rfl dX11_readLine_37 ?_
      refine q_if_eq C h16.1 62 dX11_readLine_39 (by decide) (fun hc19 => ?_) (fun hc19 => ?_)
      · have hF := if_t hc19 hF
        exact wX11_readLine_62 C Sm14  (lv_sub hl [] rfl) hF Kr
      · have hF := if_f hc19 hF
        refine q_iload_n C hl 3 rfl rfl dX11_readLine_42 ?_
        refine q_iconst C 0 dX11_readLine_43 ?_
        refine q_bipush C 19 (by decide) dX11_readLine_44 ?_
        obtain ⟨v20, m21, h22, hF⟩ := bd2_ok hF
        refine q_ci Sm14 (run_S (As := [.int (iI v1), .int (iI 0), .int (iI 19)]) (rest := []) C Sm14 (cX11_in_ok l G h4.1 (rl 0 rfl) (rl 19 rfl) h22 ad _) gd_RX11_110 hd_X11_in rfl ⟨rfl, rfl, by decide, by decide⟩ ⟨Nat.zero_le _, Nat.zero_le _⟩ hl.1 rfl (Nat.le_of_ble_eq_true rfl) dX11_readLine_46) (fun H locs Sm21 h23 => ?_)
        refine q_if_eq C h23.1 62 dX11_readLine_49 (by decide) (fun hc24 => ?_) (fun hc24 => ?_)
        · have hF := if_t hc24 hF
          exact wX11_readLine_62 C Sm21  (lv_sub hl [] rfl) hF Kr
        · have hF := if_f hc24 hF
          refine q_iload_n C hl 1 rfl rfl dX11_readLine_52 ?_
          refine q_iconst C 0 dX11_readLine_53 ?_
          refine q_bipush C 19 (by decide) dX11_readLine_54 ?_
          obtain ⟨v25, m26, h27, hF⟩ := bd2_ok hF
          refine q_ci Sm21 (run_S (As := [.int (iI v9), .int (iI 0), .int (iI 19)]) (rest := []) C Sm21 (cX11_in_ok l G h12.1 (rl 0 rfl) (rl 19 rfl) h27 ad _) gd_RX11_110 hd_X11_in rfl ⟨rfl, rfl, by decide, by decide⟩ ⟨Nat.zero_le _, Nat.zero_le _⟩ hl.1 rfl (Nat.le_of_ble_eq_true rfl) dX11_readLine_56) (fun H locs Sm26 h28 => ?_)
          refine q_if_ne C h28.1 64 dX11_readLine_59 (by decide) (fun hc29 => ?_) (fun hc29 => ?_)
          · have hF := if_t hc29 hF
            exact wX11_readLine_62 C Sm26  (lv_sub hl [] rfl) hF Kr
          · have hF := if_f hc29 hF
            refine q_aload_n C hl 4 rfl rfl dX11_readLine_64 ?_
            refine q_iload_n C hl 3 rfl rfl dX11_readLine_65 ?_
            refine q_iload_n C hl 1 rfl rfl dX11_readLine_66 ?_
            obtain ⟨v30, m31, h32, hF⟩ := bd2_ok hF
            refine q_cv Sm26 (run_V (As := [.int (iI v1), .int (iI v9)]) (rest := []) C Sm26 (cX11_beginLine_ok l G hx0 h4.1 h12.1 h32 ad _) hx0 ⟨by decide, _, _, rfl⟩ gd_RX11_92 hdV_X11_beginLine rfl ⟨rfl, rfl, by decide, by decide⟩ ⟨Nat.zero_le _, Nat.zero_le _⟩ hl.1 rfl (Nat.le_of_ble_eq_true rfl) dX11_readLine_67) (fun H locs Sm31 => ?_)
            refine q_iconst C 0 dX11_readLine_70 ?_
            refine q_istore C hl [(5, .int (iI 0)), (4, .int (iI v13)), (3, .int (iI v9)), (2, .int (iI v5)), (1, .int (iI v1)), (0, .ref (ad x0))] rfl (by decide) rfl dX11_readLine_71 (fun ls hl => ?_)
            obtain ⟨cv33, sv34, hi35, hF⟩ := bdl_ok hF
            refine lX11_readLine_73 C hx0 hi35 ?_ ?_ _ _ _ (rl 0 rfl) Sm31 (lv_sub hl [5, 0] rfl)
            · intro hc36 H locs ls  S37 hl
              have hF := if_t hc36 hF
              exact wX11_readLine_127 C S37  (lv_sub hl [] rfl) hF Kr
            · intro hc38 H locs ls  S39 hl
              have hF := if_f (by rw [hc38]; decide) hF
              exact wX11_readLine_140 C S39 hx0 (lv_sub hl [0] rfl) hF Kr
theorem cX11_readLine_ok (l : Launch) (G : Gl) {g : Shp} {x0 : Int} {m m' : Mem} {r : Int} (hx0 : gk g x0 = 12) (hF : fX11_readLine g x0 m = some (r, m')) : mI l yX11_readLine (wT yX11_readLine cX11_readLine 7 (some .boolean)) rX11_readLine G true (fun ad => [.ref (ad x0)]) g m r m' :=
  met_i (by decide) (fun ad => Nat.le_of_ble_eq_true rfl) (fun p e s mt args below meth c Q A H0 H locs ad ls C hnm S hl Kr => wX11_readLine_0 C S hx0 hl hF Kr)
