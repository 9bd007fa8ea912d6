def bX0_setStone_102 (g : Shp) (x0 x1 x2 x3 : Int) (m : Mem) : Option (Int × (Int × Mem)) :=
  vv (w32 (x3 + 1)) fun y1 =>
  some (0, (y1, m))
def bX0_setStone_16 (g : Shp) (x0 x1 x2 x3 : Int) (m : Mem) : Option (Int × (Int × Mem)) :=
  if 3 ≤ x3 then
    some (2, (x3, m))
  else
    ck (gk g (m x0 3) = 20) <|
    ck ((0 : Int) ≤ x3 ∧ x3 < gl g (m x0 3)) <|
    if (m (m x0 3) x3) < x2 then
      bX0_setStone_102 g x0 x1 x2 x3 m
    else
      ck (gk g (m x0 4) = 20) <|
      ck ((0 : Int) ≤ x3 ∧ x3 < gl g (m x0 4)) <|
      if (m (m x0 4) x3) ≤ 0 then
        bX0_setStone_102 g x0 x1 x2 x3 m
      else
        bd2 (fX0_isNext g x0 x2 x3 m) fun v8 m9 =>
        if v8 = 0 then
          bX0_setStone_102 g x0 x1 x2 x3 m9
        else
          some (1, (x3, m9))
def BX0_setStone_16 (g : Shp) (x0 x1 x2 : Int) (q : (Int × Mem)) : Option (Int × (Int × Mem)) := bX0_setStone_16 g x0 x1 x2 q.1 q.2
def bX0_setStone_108 (g : Shp) (x0 x1 x2 : Int) (m : Mem) : Option (Int × (Int × Int × Mem)) :=
  vv (w32 (x2 + (-1))) fun y1 =>
  some (0, (y1, 0, m))
def bX0_setStone_10 (g : Shp) (x0 x1 x2 : Int) (m : Mem) : Option (Int × (Int × Int × Mem)) :=
  if x2 ≤ 0 then
    some (2, (x2, 0, m))
  else
    bdl (iter (BX0_setStone_16 g x0 x1 x2) 100000 (0, m)) fun cv2 sv3 =>
    if cv2 = 1 then
      some (1, (x2, sv3.1, sv3.2))
    else
      bX0_setStone_108 g x0 x1 x2 sv3.2
def BX0_setStone_10 (g : Shp) (x0 x1 : Int) (q : (Int × Int × Mem)) : Option (Int × (Int × Int × Mem)) := bX0_setStone_10 g x0 x1 q.1 q.2.2
def bX0_setStone_49 (g : Shp) (x0 x1 x2 x3 : Int) (m : Mem) : Option (Int × Mem) :=
  bd2 (fX0_isAslant g x0 x2 x3 m) fun v1 m2 =>
  bd2 (fX0_ownWorth g x0 x2 x3 m2) fun v5 m6 =>
  vm (ms m6 x0 8 (w32 ((m2 x0 8) - v5))) fun m9 =>
  ck (gk g (m9 x0 3) = 20) <|
  ck ((0 : Int) ≤ x3 ∧ x3 < gl g (m9 x0 3)) <|
  bd2 (fX9_add g x1 x2 x3 (m9 (m9 x0 3) x3) v1 m9) fun v12 m13 =>
  ck (gk g (m13 x0 4) = 20) <|
  ck ((0 : Int) ≤ x3 ∧ x3 < gl g (m13 x0 4)) <|
  ck ((0 : Int) ≤ x3 ∧ x3 < gl g (m13 x0 4)) <|
  vm (ms m13 (m13 x0 4) x3 (w32 ((m13 (m13 x0 4) x3) - 1))) fun m18 =>
  bd2 (fX0_goBehind g x0 x2 m18) fun v19 m20 =>
  some (0, m20)
def bX0_setStone_114 (g : Shp) (m : Mem) : Option (Int × Mem) :=
  some (0, m)
def bX0_setStone_0 (g : Shp) (x0 x1 : Int) (m : Mem) : Option (Int × Mem) :=
  vv (jmin (m x0 7) 9) fun y1 =>
  bdl (iter (BX0_setStone_10 g x0 x1) 100000 (y1, 0, m)) fun cv2 sv3 =>
  if cv2 = 1 then
    bX0_setStone_49 g x0 x1 sv3.1 sv3.2.1 sv3.2.2
  else
    bX0_setStone_114 g sv3.2.2
def fX0_setStone (g : Shp) (x0 x1 : Int) (m : Mem) : Option (Int × Mem) := bX0_setStone_0 g x0 x1 m
def bJ7_fill_53178_5 (g : Shp) (x0 x1 x2 x3 : Int) (m : Mem) : Option (Int × (Int × Mem)) :=
  if x3 ≤ x2 then
    some (1, (x2, m))
  else
    ck ((0 : Int) ≤ x2 ∧ x2 < gl g x0) <|
    vm (ms m x0 x2 x1) fun m3 =>
    vv (w32 (x2 + 1)) fun y4 =>
    some (0, (y4, m3))
def BJ7_fill_53178_5 (g : Shp) (x0 x1 x3 : Int) (q : (Int × Mem)) : Option (Int × (Int × Mem)) := bJ7_fill_53178_5 g x0 x1 q.1 x3 q.2
def bJ7_fill_53178_20 (g : Shp) (m : Mem) : Option (Int × Mem) :=
  some (0, m)
def bJ7_fill_53178_0 (g : Shp) (x0 x1 : Int) (m : Mem) : Option (Int × Mem) :=
  vv (gl g x0) fun y1 =>
  bdl (iter (BJ7_fill_53178_5 g x0 x1 y1) 100000 (0, m)) fun cv2 sv3 =>
  bJ7_fill_53178_20 g sv3.2
def fJ7_fill_53178 (g : Shp) (x0 x1 : Int) (m : Mem) : Option (Int × Mem) := bJ7_fill_53178_0 g x0 x1 m
def bJ7_rangeCheck_23922_0 (g : Shp) (x0 x1 x2 : Int) (m : Mem) : Option (Int × Mem) :=
  if x1 ≤ x2 then
    if 0 ≤ x1 then
      if x2 ≤ x0 then
        some (0, m)
      else
        none
    else
      none
  else
    none
def fJ7_rangeCheck_23922 (g : Shp) (x0 x1 x2 : Int) (m : Mem) : Option (Int × Mem) := bJ7_rangeCheck_23922_0 g x0 x1 x2 m
def bJ7_fill_fda19_10 (g : Shp) (x0 x2 x3 x4 : Int) (m : Mem) : Option (Int × (Int × Mem)) :=
  if x2 ≤ x4 then
    some (1, (x4, m))
  else
    ck ((0 : Int) ≤ x4 ∧ x4 < gl g x0) <|
    vm (ms m x0 x4 x3) fun m3 =>
    vv (w32 (x4 + 1)) fun y4 =>
    some (0, (y4, m3))
def BJ7_fill_fda19_10 (g : Shp) (x0 x2 x3 : Int) (q : (Int × Mem)) : Option (Int × (Int × Mem)) := bJ7_fill_fda19_10 g x0 x2 x3 q.1 q.2
def bJ7_fill_fda19_27 (g : Shp) (m : Mem) : Option (Int × Mem) :=
  some (0, m)
def bJ7_fill_fda19_0 (g : Shp) (x0 x1 x2 x3 : Int) (m : Mem) : Option (Int × Mem) :=
  bd2 (fJ7_rangeCheck_23922 g (gl g x0) x1 x2 m) fun v1 m2 =>
  bdl (iter (BJ7_fill_fda19_10 g x0 x2 x3) 100000 (x1, m2)) fun cv4 sv5 =>
  bJ7_fill_fda19_27 g sv5.2
def fJ7_fill_fda19 (g : Shp) (x0 x1 x2 x3 : Int) (m : Mem) : Option (Int × Mem) := bJ7_fill_fda19_0 g x0 x1 x2 x3 m
def bX1_strip_0 (g : Shp) (x0 x1 : Int) (m : Mem) : Option (Int × Mem) :=
  ck (gk g (m x0 2) = 20) <|
  ck ((0 : Int) ≤ x1 ∧ x1 < gl g (m x0 2)) <|
  vm (ms m (m x0 2) x1 ((-4))) fun m3 =>
  ck (gk g (m3 x0 3) = 20) <|
  ck ((0 : Int) ≤ x1 ∧ x1 < gl g (m3 x0 3)) <|
  vm (ms m3 (m3 x0 3) x1 0) fun m6 =>
  ck (gk g (m6 x0 4) = 20) <|
  ck ((0 : Int) ≤ x1 ∧ x1 < gl g (m6 x0 4)) <|
  vm (ms m6 (m6 x0 4) x1 0) fun m9 =>
  ck (gk g (m9 x0 6) = 20) <|
  ck ((0 : Int) ≤ x1 ∧ x1 < gl g (m9 x0 6)) <|
  vm (ms m9 (m9 x0 6) x1 0) fun m12 =>
  ck (gk g (m12 x0 5) = 20) <|
  bd2 (fJ7_fill_fda19 g (m12 x0 5) (w32 (x1 * 3)) (w32 ((w32 (x1 * 3)) + 3)) 0 m12) fun v14 m15 =>
  some (0, m15)
def fX1_strip (g : Shp) (x0 x1 : Int) (m : Mem) : Option (Int × Mem) := bX1_strip_0 g x0 x1 m
def bX1_begin_29 (g : Shp) (x0 x1 x2 : Int) (m : Mem) : Option (Int × (Int × Mem)) :=
  if 3 ≤ x2 then
    some (1, (x2, m))
  else
    bd2 (fX1_strip g x0 x2 m) fun v2 m3 =>
    vv (w32 (x2 + 1)) fun y5 =>
    some (0, (y5, m3))
def BX1_begin_29 (g : Shp) (x0 x1 : Int) (q : (Int × Mem)) : Option (Int × (Int × Mem)) := bX1_begin_29 g x0 x1 q.1 q.2
def bX1_begin_45 (g : Shp) (x0 x1 : Int) (m : Mem) : Option (Int × Mem) :=
  vm (ms m x0 7 (m x1 4)) fun m1 =>
  vm (ms m1 x0 8 0) fun m2 =>
  vm (ms m2 x0 9 0) fun m3 =>
  some (0, m3)
def bX1_begin_0 (g : Shp) (x0 x1 : Int) (m : Mem) : Option (Int × Mem) :=
  ck (gk g (m x0 0) = 20) <|
  bd2 (fJ7_fill_53178 g (m x0 0) ((-4)) m) fun v2 m3 =>
  ck (gk g (m3 x1 1) = 20) <|
  ck (gk g (m3 x0 1) = 20) <|
  ck ((0 : Int) ≤ 0 ∧ (0 : Int) ≤ 0 ∧ (0 : Int) ≤ (gl g (m3 x0 1)) ∧ 0 + (gl g (m3 x0 1)) ≤ gl g (m3 x1 1) ∧ 0 + (gl g (m3 x0 1)) ≤ gl g (m3 x0 1)) <|
  vm (mcp m3 (m3 x1 1) 0 (m3 x0 1) 0 (gl g (m3 x0 1))) fun m8 =>
  bdl (iter (BX1_begin_29 g x0 x1) 100000 (0, m8)) fun cv9 sv10 =>
  bX1_begin_45 g x0 x1 sv10.2
def fX1_begin (g : Shp) (x0 x1 : Int) (m : Mem) : Option (Int × Mem) := bX1_begin_0 g x0 x1 m
def bX1_copy_0 (g : Shp) (x0 x1 : Int) (m : Mem) : Option (Int × Mem) :=
  ck (gk g (m x1 0) = 20) <|
  ck (gk g (m x0 0) = 20) <|
  ck ((0 : Int) ≤ 0 ∧ (0 : Int) ≤ 0 ∧ (0 : Int) ≤ (gl g (m x0 0)) ∧ 0 + (gl g (m x0 0)) ≤ gl g (m x1 0) ∧ 0 + (gl g (m x0 0)) ≤ gl g (m x0 0)) <|
  vm (mcp m (m x1 0) 0 (m x0 0) 0 (gl g (m x0 0))) fun m4 =>
  ck (gk g (m4 x1 1) = 20) <|
  ck (gk g (m4 x0 1) = 20) <|
  ck ((0 : Int) ≤ 0 ∧ (0 : Int) ≤ 0 ∧ (0 : Int) ≤ (gl g (m4 x0 1)) ∧ 0 + (gl g (m4 x0 1)) ≤ gl g (m4 x1 1) ∧ 0 + (gl g (m4 x0 1)) ≤ gl g (m4 x0 1)) <|
  vm (mcp m4 (m4 x1 1) 0 (m4 x0 1) 0 (gl g (m4 x0 1))) fun m8 =>
  ck (gk g (m8 x1 2) = 20) <|
  ck (gk g (m8 x0 2) = 20) <|
  ck ((0 : Int) ≤ 0 ∧ (0 : Int) ≤ 0 ∧ (0 : Int) ≤ (gl g (m8 x0 2)) ∧ 0 + (gl g (m8 x0 2)) ≤ gl g (m8 x1 2) ∧ 0 + (gl g (m8 x0 2)) ≤ gl g (m8 x0 2)) <|
  vm (mcp m8 (m8 x1 2) 0 (m8 x0 2) 0 (gl g (m8 x0 2))) fun m12 =>
  ck (gk g (m12 x1 3) = 20) <|
  ck (gk g (m12 x0 3) = 20) <|
  ck ((0 : Int) ≤ 0 ∧ (0 : Int) ≤ 0 ∧ (0 : Int) ≤ (gl g (m12 x0 3)) ∧ 0 + (gl g (m12 x0 3)) ≤ gl g (m12 x1 3) ∧ 0 + (gl g (m12 x0 3)) ≤ gl g (m12 x0 3)) <|
  vm (mcp m12 (m12 x1 3) 0 (m12 x0 3) 0 (gl g (m12 x0 3))) fun m16 =>
  ck (gk g (m16 x1 4) = 20) <|
  ck (gk g (m16 x0 4) = 20) <|
  ck ((0 : Int) ≤ 0 ∧ (0 : Int) ≤ 0 ∧ (0 : Int) ≤ (gl g (m16 x0 4)) ∧ 0 + (gl g (m16 x0 4)) ≤ gl g (m16 x1 4) ∧ 0 + (gl g (m16 x0 4)) ≤ gl g (m16 x0 4)) <|
  vm (mcp m16 (m16 x1 4) 0 (m16 x0 4) 0 (gl g (m16 x0 4))) fun m20 =>
  ck (gk g (m20 x1 5) = 20) <|
  ck (gk g (m20 x0 5) = 20) <|
  ck ((0 : Int) ≤ 0 ∧ (0 : Int) ≤ 0 ∧ (0 : Int) ≤ (gl g (m20 x0 5)) ∧ 0 + (gl g (m20 x0 5)) ≤ gl g (m20 x1 5) ∧ 0 + (gl g (m20 x0 5)) ≤ gl g (m20 x0 5)) <|
  vm (mcp m20 (m20 x1 5) 0 (m20 x0 5) 0 (gl g (m20 x0 5))) fun m24 =>
  ck (gk g (m24 x1 6) = 20) <|
  ck (gk g (m24 x0 6) = 20) <|
  ck ((0 : Int) ≤ 0 ∧ (0 : Int) ≤ 0 ∧ (0 : Int) ≤ (gl g (m24 x0 6)) ∧ 0 + (gl g (m24 x0 6)) ≤ gl g (m24 x1 6) ∧ 0 + (gl g (m24 x0 6)) ≤ gl g (m24 x0 6)) <|
  vm (mcp m24 (m24 x1 6) 0 (m24 x0 6) 0 (gl g (m24 x0 6))) fun m28 =>
  vm (ms m28 x0 7 (m28 x1 7)) fun m29 =>
  vm (ms m29 x0 8 (m29 x1 8)) fun m30 =>
  vm (ms m30 x0 9 (m30 x1 9)) fun m31 =>
  some (0, m31)
def fX1_copy (g : Shp) (x0 x1 : Int) (m : Mem) : Option (Int × Mem) := bX1_copy_0 g x0 x1 m
def bX1_isCovered_16 (g : Shp) (z0 : Int) (m : Mem) : Option (Int × Mem) :=
  ck (z0 = 0 ∨ z0 = 1) <|
  some (z0, m)
def bX1_isCovered_0 (g : Shp) (x0 x1 : Int) (m : Mem) : Option (Int × Mem) :=
  ck (gk g (m x0 2) = 20) <|
  ck ((0 : Int) ≤ x1 ∧ x1 < gl g (m x0 2)) <|
  if (m (m x0 2) x1) = ((-4)) then
    bX1_isCovered_16 g 0 m
  else
    bX1_isCovered_16 g 1 m
def fX1_isCovered (g : Shp) (x0 x1 : Int) (m : Mem) : Option (Int × Mem) := bX1_isCovered_0 g x0 x1 m
def bX1_cellsOf_33 (g : Shp) (x0 x1 x2 x3 x4 : Int) (m : Mem) : Option (Int × (Int × Int × Mem)) :=
  vv (w32 (x4 + 1)) fun y1 =>
  some (0, (x3, y1, m))
def bX1_cellsOf_5 (g : Shp) (x0 x1 x2 x3 x4 : Int) (m : Mem) : Option (Int × (Int × Int × Mem)) :=
  if (m x2 2) ≤ x4 then
    some (1, (x3, x4, m))
  else
    ck (gk g (m x0 0) = 20) <|
    ck (gk g (m x2 0) = 20) <|
    ck ((0 : Int) ≤ x4 ∧ x4 < gl g (m x2 0)) <|
    ck ((0 : Int) ≤ (m (m x2 0) x4) ∧ (m (m x2 0) x4) < gl g (m x0 0)) <|
    if (m (m x0 0) (m (m x2 0) x4)) = x1 then
      vv (w32 (x3 + 1)) fun y7 =>
      bX1_cellsOf_33 g x0 x1 x2 y7 x4 m
    else
      bX1_cellsOf_33 g x0 x1 x2 x3 x4 m
def BX1_cellsOf_5 (g : Shp) (x0 x1 x2 : Int) (q : (Int × Int × Mem)) : Option (Int × (Int × Int × Mem)) := bX1_cellsOf_5 g x0 x1 x2 q.1 q.2.1 q.2.2
def bX1_cellsOf_39 (g : Shp) (x3 : Int) (m : Mem) : Option (Int × Mem) :=
  some (x3, m)
def bX1_cellsOf_0 (g : Shp) (x0 x1 x2 : Int) (m : Mem) : Option (Int × Mem) :=
  bdl (iter (BX1_cellsOf_5 g x0 x1 x2) 100000 (0, 0, m)) fun cv1 sv2 =>
  bX1_cellsOf_39 g sv2.1 sv2.2.2
def fX1_cellsOf (g : Shp) (x0 x1 x2 : Int) (m : Mem) : Option (Int × Mem) := bX1_cellsOf_0 g x0 x1 x2 m
def bX1_missingIn_4 (g : Shp) (x0 x1 x2 x3 : Int) (m : Mem) : Option (Int × (Int × Int × Mem)) :=
  if 3 ≤ x3 then
    some (1, (x2, x3, m))
  else
    ck (gk g (m x0 1) = 20) <|
    ck ((0 : Int) ≤ (w32 ((w32 (x1 * 3)) + x3)) ∧ (w32 ((w32 (x1 * 3)) + x3)) < gl g (m x0 1)) <|
    vv (w32 (x2 + (w32 (6 - (m (m x0 1) (w32 ((w32 (x1 * 3)) + x3))))))) fun y4 =>
    vv (w32 (x3 + 1)) fun y5 =>
    some (0, (y4, y5, m))
def BX1_missingIn_4 (g : Shp) (x0 x1 : Int) (q : (Int × Int × Mem)) : Option (Int × (Int × Int × Mem)) := bX1_missingIn_4 g x0 x1 q.1 q.2.1 q.2.2
def bX1_missingIn_31 (g : Shp) (x2 : Int) (m : Mem) : Option (Int × Mem) :=
  some (x2, m)
def bX1_missingIn_0 (g : Shp) (x0 x1 : Int) (m : Mem) : Option (Int × Mem) :=
  bdl (iter (BX1_missingIn_4 g x0 x1) 100000 (0, 0, m)) fun cv1 sv2 =>
  bX1_missingIn_31 g sv2.1 sv2.2.2
def fX1_missingIn (g : Shp) (x0 x1 : Int) (m : Mem) : Option (Int × Mem) := bX1_missingIn_0 g x0 x1 m
def bX1_handOver_41 (g : Shp) (x0 x1 x2 x3 x4 : Int) (m : Mem) : Option (Int × (Int × Mem)) :=
  vv (w32 (x4 + 1)) fun y1 =>
  some (0, (y1, m))
def bX1_handOver_3 (g : Shp) (x0 x1 x2 x3 x4 : Int) (m : Mem) : Option (Int × (Int × Mem)) :=
  if (m x1 2) ≤ x4 then
    some (1, (x4, m))
  else
    ck (gk g (m x0 0) = 20) <|
    ck (gk g (m x1 0) = 20) <|
    ck ((0 : Int) ≤ x4 ∧ x4 < gl g (m x1 0)) <|
    ck ((0 : Int) ≤ (m (m x1 0) x4) ∧ (m (m x1 0) x4) < gl g (m x0 0)) <|
    if (m (m x0 0) (m (m x1 0) x4)) = x2 then
      ck ((0 : Int) ≤ x4 ∧ x4 < gl g (m x1 0)) <|
      ck ((0 : Int) ≤ (m (m x1 0) x4) ∧ (m (m x1 0) x4) < gl g (m x0 0)) <|
      vm (ms m (m x0 0) (m (m x1 0) x4) x3) fun m9 =>
      bX1_handOver_41 g x0 x1 x2 x3 x4 m9
    else
      bX1_handOver_41 g x0 x1 x2 x3 x4 m
def BX1_handOver_3 (g : Shp) (x0 x1 x2 x3 : Int) (q : (Int × Mem)) : Option (Int × (Int × Mem)) := bX1_handOver_3 g x0 x1 x2 x3 q.1 q.2
def bX1_handOver_47 (g : Shp) (m : Mem) : Option (Int × Mem) :=
  some (0, m)
def bX1_handOver_0 (g : Shp) (x0 x1 x2 x3 : Int) (m : Mem) : Option (Int × Mem) :=
  bdl (iter (BX1_handOver_3 g x0 x1 x2 x3) 100000 (0, m)) fun cv1 sv2 =>
  bX1_handOver_47 g sv2.2
def fX1_handOver (g : Shp) (x0 x1 x2 x3 : Int) (m : Mem) : Option (Int × Mem) := bX1_handOver_0 g x0 x1 x2 x3 m
def bX1_putDown_11 (g : Shp) (x0 x1 x3 x4 x5 : Int) (m : Mem) : Option (Int × (Int × Mem)) :=
  if 3 ≤ x5 then
    some (1, (x5, m))
  else
    ck (gk g (m x0 1) = 20) <|
    ck ((0 : Int) ≤ (w32 ((w32 (x3 * 3)) + x5)) ∧ (w32 ((w32 (x3 * 3)) + x5)) < gl g (m x0 1)) <|
    ck (gk g (m x4 1) = 20) <|
    ck ((0 : Int) ≤ x5 ∧ x5 < gl g (m x4 1)) <|
    ck ((0 : Int) ≤ (w32 ((w32 (x3 * 3)) + x5)) ∧ (w32 ((w32 (x3 * 3)) + x5)) < gl g (m x0 1)) <|
    vm (ms m (m x0 1) (w32 ((w32 (x3 * 3)) + x5)) (w32 ((m (m x0 1) (w32 ((w32 (x3 * 3)) + x5))) - (m (m x4 1) x5)))) fun m7 =>
    ck (gk g (m7 x0 5) = 20) <|
    ck (gk g (m7 x4 2) = 20) <|
    ck ((0 : Int) ≤ x5 ∧ x5 < gl g (m7 x4 2)) <|
    ck ((0 : Int) ≤ (w32 ((w32 (x1 * 3)) + x5)) ∧ (w32 ((w32 (x1 * 3)) + x5)) < gl g (m7 x0 5)) <|
    vm (ms m7 (m7 x0 5) (w32 ((w32 (x1 * 3)) + x5)) (m7 (m7 x4 2) x5)) fun m12 =>
    vv (w32 (x5 + 1)) fun y13 =>
    some (0, (y13, m12))
def BX1_putDown_11 (g : Shp) (x0 x1 x3 x4 : Int) (q : (Int × Mem)) : Option (Int × (Int × Mem)) := bX1_putDown_11 g x0 x1 x3 x4 q.1 q.2
def bX1_putDown_64 (g : Shp) (x0 x1 x3 x4 : Int) (m : Mem) : Option (Int × Mem) :=
  ck (gk g (m x0 2) = 20) <|
  ck ((0 : Int) ≤ x1 ∧ x1 < gl g (m x0 2)) <|
  vm (ms m (m x0 2) x1 x3) fun m3 =>
  ck (gk g (m3 x0 3) = 20) <|
  ck ((0 : Int) ≤ x1 ∧ x1 < gl g (m3 x0 3)) <|
  vm (ms m3 (m3 x0 3) x1 (m3 x4 4)) fun m6 =>
  ck (gk g (m6 x0 4) = 20) <|
  ck ((0 : Int) ≤ x1 ∧ x1 < gl g (m6 x0 4)) <|
  vm (ms m6 (m6 x0 4) x1 (m6 x4 5)) fun m9 =>
  ck (gk g (m9 x0 6) = 20) <|
  ck ((0 : Int) ≤ x1 ∧ x1 < gl g (m9 x0 6)) <|
  vm (ms m9 (m9 x0 6) x1 (m9 x4 3)) fun m12 =>
  vm (ms m12 x0 8 (w32 ((m12 x0 8) + (m12 x4 5)))) fun m13 =>
  vm (ms m13 x0 9 (w32 ((m13 x0 9) + (m13 x4 6)))) fun m14 =>
  some (0, m14)
def bX1_putDown_0 (g : Shp) (x0 x1 x2 x3 x4 : Int) (m : Mem) : Option (Int × Mem) :=
  bd2 (fX1_handOver g x0 x2 ((-4)) x1 m) fun v1 m2 =>
  bdl (iter (BX1_putDown_11 g x0 x1 x3 x4) 100000 (0, m2)) fun cv4 sv5 =>
  bX1_putDown_64 g x0 x1 x3 x4 sv5.2
def fX1_putDown (g : Shp) (x0 x1 x2 x3 x4 : Int) (m : Mem) : Option (Int × Mem) := bX1_putDown_0 g x0 x1 x2 x3 x4 m
def bX1_pickUp_6 (g : Shp) (x0 x1 x2 x3 x4 x5 : Int) (m : Mem) : Option (Int × (Int × Int × Mem)) :=
  if 3 ≤ x5 then
    some (1, (x4, x5, m))
  else
    ck (gk g (m x0 5) = 20) <|
    ck ((0 : Int) ≤ (w32 ((w32 (x1 * 3)) + x5)) ∧ (w32 ((w32 (x1 * 3)) + x5)) < gl g (m x0 5)) <|
    vv (m (m x0 5) (w32 ((w32 (x1 * 3)) + x5))) fun y4 =>
    ck (gk g (m x0 2) = 20) <|
    ck ((0 : Int) ≤ x1 ∧ x1 < gl g (m x0 2)) <|
    vv (w32 ((w32 ((m (m x0 2) x1) * 3)) + x5)) fun y7 =>
    ck (gk g (m x0 1) = 20) <|
    ck ((0 : Int) ≤ y7 ∧ y7 < gl g (m x0 1)) <|
    vv (jmin y4 (w32 (6 - (m (m x0 1) y7)))) fun y10 =>
    ck ((0 : Int) ≤ y7 ∧ y7 < gl g (m x0 1)) <|
    ck ((0 : Int) ≤ y7 ∧ y7 < gl g (m x0 1)) <|
    vm (ms m (m x0 1) y7 (w32 ((m (m x0 1) y7) + y10))) fun m13 =>
    vv (w32 (x4 + y10)) fun y14 =>
    ck ((0 : Int) ≤ x5 ∧ x5 < gl g x3) <|
    vm (ms m13 x0 9 (w32 ((m13 x0 9) + (w32 ((w32 (y4 - y10)) * (m13 x3 x5)))))) fun m16 =>
    vv (w32 (x5 + 1)) fun y17 =>
    some (0, (y14, y17, m16))
def BX1_pickUp_6 (g : Shp) (x0 x1 x2 x3 : Int) (q : (Int × Int × Mem)) : Option (Int × (Int × Int × Mem)) := bX1_pickUp_6 g x0 x1 x2 x3 q.1 q.2.1 q.2.2
def bX1_pickUp_99 (g : Shp) (x0 x1 x2 x4 : Int) (m : Mem) : Option (Int × Mem) :=
  ck (gk g (m x0 6) = 20) <|
  ck ((0 : Int) ≤ x1 ∧ x1 < gl g (m x0 6)) <|
  vm (ms m x0 9 (w32 ((m x0 9) + (m (m x0 6) x1)))) fun m3 =>
  bd2 (fX1_handOver g x0 x2 x1 ((-4)) m3) fun v4 m5 =>
  bd2 (fX1_strip g x0 x1 m5) fun v7 m8 =>
  some (x4, m8)
def bX1_pickUp_0 (g : Shp) (x0 x1 x2 x3 : Int) (m : Mem) : Option (Int × Mem) :=
  bdl (iter (BX1_pickUp_6 g x0 x1 x2 x3) 100000 (0, 0, m)) fun cv1 sv2 =>
  bX1_pickUp_99 g x0 x1 x2 sv2.1 sv2.2.2
def fX1_pickUp (g : Shp) (x0 x1 x2 x3 : Int) (m : Mem) : Option (Int × Mem) := bX1_pickUp_0 g x0 x1 x2 x3 m
set_option maxRecDepth 20000 in
theorem wX0_setStone_102 {p : Program} {l : Launch} {e : Env} {s : State} {mt : MethodId} {args : Array Value} {below : List Frame} {meth : Method} {c : Code} {Q : State → Prop} {G : Gl} {A : Nat → Prop} {H0 : Heap} {ad : Int → Nat} {g : Shp} {H : Heap} {locs : List Loc} {ls : Array Slot} {m : Mem} {x0 x1 x2 x3 : Int} (C : CallFix p mt c cX0_setStone 5 s args tb RX0) (S : Wd G A s H0 ad g m H locs) (hx0 : gk g x0 = 1) (hx1 : gk g x1 = 10) (hx2 : r32 x2) (hx3 : r32 x3) (hl : lv_has ls 5 [(0, .ref (ad x0)), (1, .ref (ad x1)), (2, .int (iI x2)), (3, .int (iI x3))]) {c1 : Int} {s1 : (Int × Mem)} (hF : bX0_setStone_102 g x0 x1 x2 x3 m = some (c1, s1)) (K0 : c1 = 0 → ∀ (H : Heap) (locs : List Loc) (ls : Array Slot), r32 s1.1 → Wd G A s H0 ad g s1.2 H locs → lv_has ls 5 [(0, .ref (ad x0)), (1, .ref (ad x1)), (2, .int (iI x2)), (3, .int (iI s1.1))] → W p l e rX0_setStone s mt args below meth c H locs 0 0 Q (F0 mt 16 ls [])) (K1 : c1 = 1 → ∀ (H : Heap) (locs : List Loc) (ls : Array Slot), r32 s1.1 → Wd G A s H0 ad g s1.2 H locs → lv_has ls 5 [(0, .ref (ad x0)), (1, .ref (ad x1)), (2, .int (iI x2)), (3, .int (iI s1.1))] → W p l e rX0_setStone s mt args below meth c H locs 0 0 Q (F0 mt 49 ls [])) (K2 : c1 = 2 → ∀ (H : Heap) (locs : List Loc) (ls : Array Slot), Wd G A s H0 ad g s1.2 H locs → lv_has ls 5 [(0, .ref (ad x0)), (1, .ref (ad x1)), (2, .int (iI x2))] → W p l e rX0_setStone s mt args below meth c H locs 0 0 Q (F0 mt 108 ls [])) : W p l e rX0_setStone s mt args below meth c H locs 0 0 Q (F0 mt 102 ls []) := by
  unfold bX0_setStone_102 at hF
  obtain ⟨y1, ey1, hF⟩ := vv_ok hF
  have ry1 : r32 y1 := ey1 ▸ r32_w _
  refine q_iinc C hl 3 [(3, .int (iI y1)), (0, .ref (ad x0)), (1, .ref (ad x1)), (2, .int (iI x2))] rfl ey1 (by decide) rfl dX0_setStone_102 (fun ls hl => ?_)
  refine q_goto C 16 dX0_setStone_105 (by decide) ?_
  cases hF
  exact K0 rfl _ _ _ ry1 S (lv_sub hl [1, 2, 3, 0] rfl)
set_option maxRecDepth 20000 in
theorem wX0_setStone_16 {p : Program} {l : Launch} {e : Env} {s : State} {mt : MethodId} {args : Array Value} {below : List Frame} {meth : Method} {c : Code} {Q : State → Prop} {G : Gl} {A : Nat → Prop} {H0 : Heap} {ad : Int → Nat} {g : Shp} {H : Heap} {locs : List Loc} {ls : Array Slot} {m : Mem} {x0 x1 x2 x3 : Int} (C : CallFix p mt c cX0_setStone 5 s args tb RX0) (S : Wd G A s H0 ad g m H locs) (hx0 : gk g x0 = 1) (hx1 : gk g x1 = 10) (hx2 : r32 x2) (hx3 : r32 x3) (hl : lv_has ls 5 [(0, .ref (ad x0)), (1, .ref (ad x1)), (2, .int (iI x2)), (3, .int (iI x3))]) {c1 : Int} {s1 : (Int × Mem)} (hF : bX0_setStone_16 g x0 x1 x2 x3 m = some (c1, s1)) (K0 : c1 = 0 → ∀ (H : Heap) (locs : List Loc) (ls : Array Slot), r32 s1.1 → Wd G A s H0 ad g s1.2 H locs → lv_has ls 5 [(0, .ref (ad x0)), (1, .ref (ad x1)), (2, .int (iI x2)), (3, .int (iI s1.1))] → W p l e rX0_setStone s mt args below meth c H locs 0 0 Q (F0 mt 16 ls [])) (K1 : c1 = 1 → ∀ (H : Heap) (locs : List Loc) (ls : Array Slot), r32 s1.1 → Wd G A s H0 ad g s1.2 H locs → lv_has ls 5 [(0, .ref (ad x0)), (1, .ref (ad x1)), (2, .int (iI x2)), (3, .int (iI s1.1))] → W p l e rX0_setStone s mt args below meth c H locs 0 0 Q (F0 mt 49 ls [])) (K2 : c1 = 2 → ∀ (H : Heap) (locs : List Loc) (ls : Array Slot), Wd G A s H0 ad g s1.2 H locs → lv_has ls 5 [(0, .ref (ad x0)), (1, .ref (ad x1)), (2, .int (iI x2))] → W p l e rX0_setStone s mt args below meth c H locs 0 0 Q (F0 mt 108 ls [])) : W p l e rX0_setStone s mt args below meth c H locs 0 0 Q (F0 mt 16 ls []) := by
  unfold bX0_setStone_16 at hF
  refine q_iload_n C hl 3 rfl rfl dX0_setStone_16 ?_
  refine q_iconst C 3 dX0_setStone_17 ?_
  refine q_icmp_ge C hx3 (rl 3 rfl) 108 dX0_setStone_18 (by decide) (fun hc1 => ?_) (fun hc1 => ?_)
  · have hF := if_t hc1 hF
    cases hF
    exact K2 rfl _ _ _  S (lv_sub hl [0, 1, 2] rfl)
  · have hF := if_f hc1 hF
    refine q_aload_n C hl 0 rfl rfl dX0_setStone_21 ?_
    obtain ⟨k2, hF⟩ := ck_ok hF
    refine q_getr C S 3 fo_RX0_28 (j := 3) rfl rfl hx0 k2 (by decide) dX0_setStone_22 ?_
    refine q_iload_n C hl 3 rfl rfl dX0_setStone_25 ?_
    obtain ⟨i3, hF⟩ := ck_ok hF
    refine q_iald C S k2 i3 dX0_setStone_26 ?_
    refine q_iload_n C hl 2 rfl rfl dX0_setStone_27 ?_
    refine q_icmp_lt C (S.r _ _) hx2 102 dX0_setStone_28 (by decide) (fun hc4 => ?_) (fun hc4 => ?_)
    · have hF := if_t hc4 hF
      exact wX0_setStone_102 C S hx0 hx1 hx2 hx3 (lv_sub hl [0, 1, 2, 3] rfl) hF K0 K1 K2
    · have hF := if_f hc4 hF
      refine q_aload_n C hl 0 rfl rfl dX0_setStone_31 ?_
      obtain ⟨k5, hF⟩ := ck_ok hF
      refine q_getr C S 4 fo_RX0_31 (j := 4) rfl rfl hx0 k5 (by decide) dX0_setStone_32 ?_
      refine q_iload_n C hl 3 rfl rfl dX0_setStone_35 ?_
      obtain ⟨i6, hF⟩ := ck_ok hF
      refine q_iald C S k5 i6 dX0_setStone_36 ?_
      refine q_if_le C (S.r _ _) 102 dX0_setStone_37 (by decide) (fun hc7 => ?_) (fun hc7 => ?_)
      · have hF := if_t hc7 hF
        exact wX0_setStone_102 C S hx0 hx1 hx2 hx3 (lv_sub hl [0, 1, 2, 3] rfl) hF K0 K1 K2
      · have hF := if_f hc7 hF
        refine q_aload_n C hl 0 rfl rfl dX0_setStone_40 ?_
        refine q_iload_n C hl 2 rfl rfl dX0_setStone_41 ?_
        refine q_iload_n C hl 3 rfl rfl dX0_setStone_42 ?_
        obtain ⟨v8, m9, h10, hF⟩ := bd2_ok hF
        refine q_ci S (run_V (As := [.int (iI x2), .int (iI x3)]) (rest := []) C S (cX0_isNext_ok l G hx0 hx2 hx3 h10 ad _) hx0 ⟨by decide, _, _, rfl⟩ gd_RX0_146 hdV_X0_isNext rfl ⟨rfl, rfl, by decide, by decide⟩ ⟨Nat.zero_le _, Nat.zero_le _⟩ hl.1 rfl (Nat.le_of_ble_eq_true rfl) dX0_setStone_43) (fun H locs Sm9 h11 => ?_)
        refine q_if_eq C h11.1 102 dX0_setStone_46 (by decide) (fun hc12 => ?_) (fun hc12 => ?_)
        · have hF := if_t hc12 hF
          exact wX0_setStone_102 C Sm9 hx0 hx1 hx2 hx3 (lv_sub hl [0, 1, 2, 3] rfl) hF K0 K1 K2
        · have hF := if_f hc12 hF
          cases hF
          exact K1 rfl _ _ _ hx3 Sm9 (lv_sub hl [0, 1, 2, 3] rfl)
set_option maxRecDepth 20000 in
theorem lX0_setStone_16 {p : Program} {l : Launch} {e : Env} {s : State} {mt : MethodId} {args : Array Value} {below : List Frame} {meth : Method} {c : Code} {Q : State → Prop} {G : Gl} {A : Nat → Prop} {H0 : Heap} {ad : Int → Nat} {g : Shp} {x0 x1 x2 : Int} (C : CallFix p mt c cX0_setStone 5 s args tb RX0) (hx0 : gk g x0 = 1) (hx1 : gk g x1 = 10) (hx2 : r32 x2) {n : Nat} {s0 s1 : (Int × Mem)} {c1 : Int} (hI : iter (BX0_setStone_16 g x0 x1 x2) n s0 = some (c1, s1)) (K1 : c1 = 1 → ∀ (H : Heap) (locs : List Loc) (ls : Array Slot), r32 s1.1 → Wd G A s H0 ad g s1.2 H locs → lv_has ls 5 [(0, .ref (ad x0)), (1, .ref (ad x1)), (2, .int (iI x2)), (3, .int (iI s1.1))] → W p l e rX0_setStone s mt args below meth c H locs 0 0 Q (F0 mt 49 ls [])) (K2 : c1 = 2 → ∀ (H : Heap) (locs : List Loc) (ls : Array Slot), Wd G A s H0 ad g s1.2 H locs → lv_has ls 5 [(0, .ref (ad x0)), (1, .ref (ad x1)), (2, .int (iI x2))] → W p l e rX0_setStone s mt args below meth c H locs 0 0 Q (F0 mt 108 ls [])) : ∀ (H : Heap) (locs : List Loc) (ls : Array Slot), r32 s0.1 → Wd G A s H0 ad g s0.2 H locs → lv_has ls 5 [(0, .ref (ad x0)), (1, .ref (ad x1)), (2, .int (iI x2)), (3, .int (iI s0.1))] → W p l e rX0_setStone s mt args below meth c H locs 0 0 Q (F0 mt 16 ls []) :=
  iter_W (Pw := fun q => ∀ (H : Heap) (locs : List Loc) (ls : Array Slot), r32 q.1 → Wd G A s H0 ad g q.2 H locs → lv_has ls 5 [(0, .ref (ad x0)), (1, .ref (ad x1)), (2, .int (iI x2)), (3, .int (iI q.1))] → W p l e rX0_setStone s mt args below meth c H locs 0 0 Q (F0 mt 16 ls [])) (Px := fun c0 q => (c0 = 1 → ∀ (H : Heap) (locs : List Loc) (ls : Array Slot), r32 q.1 → Wd G A s H0 ad g q.2 H locs → lv_has ls 5 [(0, .ref (ad x0)), (1, .ref (ad x1)), (2, .int (iI x2)), (3, .int (iI q.1))] → W p l e rX0_setStone s mt args below meth c H locs 0 0 Q (F0 mt 49 ls [])) ∧ (c0 = 2 → ∀ (H : Heap) (locs : List Loc) (ls : Array Slot), Wd G A s H0 ad g q.2 H locs → lv_has ls 5 [(0, .ref (ad x0)), (1, .ref (ad x1)), (2, .int (iI x2))] → W p l e rX0_setStone s mt args below meth c H locs 0 0 Q (F0 mt 108 ls [])))
    (fun s c s' hB K0 kx H locs ls f0 S hl => wX0_setStone_16 C S hx0 hx1 hx2 f0 hl hB K0 (fun h9 => (kx (by rw [h9]; decide)).1 h9) (fun h9 => (kx (by rw [h9]; decide)).2 h9)) _ _ _ _ hI ⟨K1, K2⟩
set_option maxRecDepth 20000 in
theorem wX0_setStone_108 {p : Program} {l : Launch} {e : Env} {s : State} {mt : MethodId} {args : Array Value} {below : List Frame} {meth : Method} {c : Code} {Q : State → Prop} {G : Gl} {A : Nat → Prop} {H0 : Heap} {ad : Int → Nat} {g : Shp} {H : Heap} {locs : List Loc} {ls : Array Slot} {m : Mem} {x0 x1 x2 : Int} (C : CallFix p mt c cX0_setStone 5 s args tb RX0) (S : Wd G A s H0 ad g m H locs) (hx0 : gk g x0 = 1) (hx1 : gk g x1 = 10) (hx2 : r32 x2) (hl : lv_has ls 5 [(0, .ref (ad x0)), (1, .ref (ad x1)), (2, .int (iI x2))]) {c1 : Int} {s1 : (Int × Int × Mem)} (hF : bX0_setStone_108 g x0 x1 x2 m = some (c1, s1)) (K0 : c1 = 0 → ∀ (H : Heap) (locs : List Loc) (ls : Array Slot), r32 s1.1 → Wd G A s H0 ad g s1.2.2 H locs → lv_has ls 5 [(0, .ref (ad x0)), (1, .ref (ad x1)), (2, .int (iI s1.1))] → W p l e rX0_setStone s mt args below meth c H locs 0 0 Q (F0 mt 10 ls [])) (K1 : c1 = 1 → ∀ (H : Heap) (locs : List Loc) (ls : Array Slot), r32 s1.1 → r32 s1.2.1 → Wd G A s H0 ad g s1.2.2 H locs → lv_has ls 5 [(0, .ref (ad x0)), (1, .ref (ad x1)), (2, .int (iI s1.1)), (3, .int (iI s1.2.1))] → W p l e rX0_setStone s mt args below meth c H locs 0 0 Q (F0 mt 49 ls [])) (K2 : c1 = 2 → ∀ (H : Heap) (locs : List Loc) (ls : Array Slot), Wd G A s H0 ad g s1.2.2 H locs → lv_has ls 5 [] → W p l e rX0_setStone s mt args below meth c H locs 0 0 Q (F0 mt 114 ls [])) : W p l e rX0_setStone s mt args below meth c H locs 0 0 Q (F0 mt 108 ls []) := by
  unfold bX0_setStone_108 at hF
  obtain ⟨y1, ey1, hF⟩ := vv_ok hF
  have ry1 : r32 y1 := ey1 ▸ r32_w _
  refine q_iinc C hl 2 [(2, .int (iI y1)), (0, .ref (ad x0)), (1, .ref (ad x1))] rfl ey1 (by decide) rfl dX0_setStone_108 (fun ls hl => ?_)
  refine q_goto C 10 dX0_setStone_111 (by decide) ?_
  cases hF
  exact K0 rfl _ _ _ ry1 S (lv_sub hl [1, 2, 0] rfl)
set_option maxRecDepth 20000 in
theorem wX0_setStone_10 {p : Program} {l : Launch} {e : Env} {s : State} {mt : MethodId} {args : Array Value} {below : List Frame} {meth : Method} {c : Code} {Q : State → Prop} {G : Gl} {A : Nat → Prop} {H0 : Heap} {ad : Int → Nat} {g : Shp} {H : Heap} {locs : List Loc} {ls : Array Slot} {m : Mem} {x0 x1 x2 : Int} (C : CallFix p mt c cX0_setStone 5 s args tb RX0) (S : Wd G A s H0 ad g m H locs) (hx0 : gk g x0 = 1) (hx1 : gk g x1 = 10) (hx2 : r32 x2) (hl : lv_has ls 5 [(0, .ref (ad x0)), (1, .ref (ad x1)), (2, .int (iI x2))]) {c1 : Int} {s1 : (Int × Int × Mem)} (hF : bX0_setStone_10 g x0 x1 x2 m = some (c1, s1)) (K0 : c1 = 0 → ∀ (H : Heap) (locs : List Loc) (ls : Array Slot), r32 s1.1 → Wd G A s H0 ad g s1.2.2 H locs → lv_has ls 5 [(0, .ref (ad x0)), (1, .ref (ad x1)), (2, .int (iI s1.1))] → W p l e rX0_setStone s mt args below meth c H locs 0 0 Q (F0 mt 10 ls [])) (K1 : c1 = 1 → ∀ (H : Heap) (locs : List Loc) (ls : Array Slot), r32 s1.1 → r32 s1.2.1 → Wd G A s H0 ad g s1.2.2 H locs → lv_has ls 5 [(0, .ref (ad x0)), (1, .ref (ad x1)), (2, .int (iI s1.1)), (3, .int (iI s1.2.1))] → W p l e rX0_setStone s mt args below meth c H locs 0 0 Q (F0 mt 49 ls [])) (K2 : c1 = 2 → ∀ (H : Heap) (locs : List Loc) (ls : Array Slot), Wd G A s H0 ad g s1.2.2 H locs → lv_has ls 5 [] → W p l e rX0_setStone s mt args below meth c H locs 0 0 Q (F0 mt 114 ls [])) : W p l e rX0_setStone s mt args below meth c H locs 0 0 Q (F0 mt 10 ls []) := by
  unfold bX0_setStone_10 at hF
  refine q_iload_n C hl 2 rfl rfl dX0_setStone_10 ?_
  refine q_if_le C hx2 114 dX0_setStone_11 (by decide) (fun hc1 => ?_) (fun hc1 => ?_)
  · have hF := if_t hc1 hF
    cases hF
    exact K2 rfl _ _ _  S (lv_sub hl [] rfl)
  · have hF := if_f hc1 hF
    refine q_iconst C 0 dX0_setStone_14 ?_
    refine q_istore_n C hl [(3, .int (iI 0)), (0, .ref (ad x0)), (1, .ref (ad x1)), (2, .int (iI x2))] rfl rfl (by decide) rfl dX0_setStone_15 (fun ls hl => ?_)
    obtain ⟨cv2, sv3, hi4, hF⟩ := bdl_ok hF
    refine lX0_setStone_16 C hx0 hx1 hx2 hi4 ?_ ?_ _ _ _ (rl 0 rfl) S (lv_sub hl [1, 2, 3, 0] rfl)
    · intro hc5 H locs ls f7 S6 hl
      have hF := if_t hc5 hF
      cases hF
      exact K1 rfl _ _ _ hx2 f7 S6 (lv_sub hl [0, 1, 2, 3] rfl)
    · intro hc8 H locs ls  S9 hl
      have hF := if_f (by rw [hc8]; decide) hF
      exact wX0_setStone_108 C S9 hx0 hx1 hx2 (lv_sub hl [0, 1, 2] rfl) hF K0 K1 K2
set_option maxRecDepth 20000 in
theorem lX0_setStone_10 {p : Program} {l : Launch} {e : Env} {s : State} {mt : MethodId} {args : Array Value} {below : List Frame} {meth : Method} {c : Code} {Q : State → Prop} {G : Gl} {A : Nat → Prop} {H0 : Heap} {ad : Int → Nat} {g : Shp} {x0 x1 : Int} (C : CallFix p mt c cX0_setStone 5 s args tb RX0) (hx0 : gk g x0 = 1) (hx1 : gk g x1 = 10) {n : Nat} {s0 s1 : (Int × Int × Mem)} {c1 : Int} (hI : iter (BX0_setStone_10 g x0 x1) n s0 = some (c1, s1)) (K1 : c1 = 1 → ∀ (H : Heap) (locs : List Loc) (ls : Array Slot), r32 s1.1 → r32 s1.2.1 → Wd G A s H0 ad g s1.2.2 H locs → lv_has ls 5 [(0, .ref (ad x0)), (1, .ref (ad x1)), (2, .int (iI s1.1)), (3, .int (iI s1.2.1))] → W p l e rX0_setStone s mt args below meth c H locs 0 0 Q (F0 mt 49 ls [])) (K2 : c1 = 2 → ∀ (H : Heap) (locs : List Loc) (ls : Array Slot), Wd G A s H0 ad g s1.2.2 H locs → lv_has ls 5 [] → W p l e rX0_setStone s mt args below meth c H locs 0 0 Q (F0 mt 114 ls [])) : ∀ (H : Heap) (locs : List Loc) (ls : Array Slot), r32 s0.1 → Wd G A s H0 ad g s0.2.2 H locs → lv_has ls 5 [(0, .ref (ad x0)), (1, .ref (ad x1)), (2, .int (iI s0.1))] → W p l e rX0_setStone s mt args below meth c H locs 0 0 Q (F0 mt 10 ls []) :=
  iter_W (Pw := fun q => ∀ (H : Heap) (locs : List Loc) (ls : Array Slot), r32 q.1 → Wd G A s H0 ad g q.2.2 H locs → lv_has ls 5 [(0, .ref (ad x0)), (1, .ref (ad x1)), (2, .int (iI q.1))] → W p l e rX0_setStone s mt args below meth c H locs 0 0 Q (F0 mt 10 ls [])) (Px := fun c0 q => (c0 = 1 → ∀ (H : Heap) (locs : List Loc) (ls : Array Slot), r32 q.1 → r32 q.2.1 → Wd G A s H0 ad g q.2.2 H locs → lv_has ls 5 [(0, .ref (ad x0)), (1, .ref (ad x1)), (2, .int (iI q.1)), (3, .int (iI q.2.1))] → W p l e rX0_setStone s mt args below meth c H locs 0 0 Q (F0 mt 49 ls [])) ∧ (c0 = 2 → ∀ (H : Heap) (locs : List Loc) (ls : Array Slot), Wd G A s H0 ad g q.2.2 H locs → lv_has ls 5 [] → W p l e rX0_setStone s mt args below meth c H locs 0 0 Q (F0 mt 114 ls [])))
    (fun s c s' hB K0 kx H locs ls f0 S hl => wX0_setStone_10 C S hx0 hx1 f0 hl hB K0 (fun h9 => (kx (by rw [h9]; decide)).1 h9) (fun h9 => (kx (by rw [h9]; decide)).2 h9)) _ _ _ _ hI ⟨K1, K2⟩
set_option maxRecDepth 20000 in
theorem wX0_setStone_49 {p : Program} {l : Launch} {e : Env} {s : State} {mt : MethodId} {args : Array Value} {below : List Frame} {meth : Method} {c : Code} {Q : State → Prop} {G : Gl} {A : Nat → Prop} {H0 : Heap} {ad : Int → Nat} {g : Shp} {H : Heap} {locs : List Loc} {ls : Array Slot} {m : Mem} {x0 x1 x2 x3 : Int} (C : CallFix p mt c cX0_setStone 5 s args tb RX0) (S : Wd G A s H0 ad g m H locs) (hx0 : gk g x0 = 1) (hx1 : gk g x1 = 10) (hx2 : r32 x2) (hx3 : r32 x3) (hl : lv_has ls 5 [(0, .ref (ad x0)), (1, .ref (ad x1)), (2, .int (iI x2)), (3, .int (iI x3))]) {r : Int} {m' : Mem} (hF : bX0_setStone_49 g x0 x1 x2 x3 m = some (r, m')) (Kr : ∀ (H : Heap) (locs : List Loc) (pc : Nat) (ls : Array Slot), Wd G A s H0 ad g m' H locs → decode cX0_setStone pc = .ok (.return_, 1) → W p l e rX0_setStone s mt args below meth c H locs 0 0 Q (F0 mt pc ls [])) : W p l e rX0_setStone s mt args below meth c H locs 0 0 Q (F0 mt 49 ls []) := by
  unfold bX0_setStone_49 at hF
  refine q_aload_n C hl 0 rfl rfl dX0_setStone_49 ?_
  refine q_iload_n C hl 2 rfl rfl dX0_setStone_50 ?_
  refine q_iload_n C hl 3 rfl rfl dX0_setStone_51 ?_
  obtain ⟨v1, m2, h3, hF⟩ := bd2_ok hF
  refine q_ci S (run_V (As := [.int (iI x2), .int (iI x3)]) (rest := []) C S (cX0_isAslant_ok l G hx0 hx2 hx3 h3 ad _) hx0 ⟨by decide, _, _, rfl⟩ gd_RX0_150 hdV_X0_isAslant rfl ⟨rfl, rfl, by decide, by decide⟩ ⟨Nat.zero_le _, Nat.zero_le _⟩ hl.1 rfl (Nat.le_of_ble_eq_true rfl) dX0_setStone_52) (fun H locs Sm2 h4 => ?_)
  refine q_istore C hl [(4, .int (iI v1)), (0, .ref (ad x0)), (1, .ref (ad x1)), (2, .int (iI x2)), (3, .int (iI x3))] rfl (by decide) rfl dX0_setStone_55 (fun ls hl => ?_)
  refine q_aload_n C hl 1 rfl rfl dX0_setStone_57 ?_
  refine q_dup C rfl dX0_setStone_58 ?_
  refine q_geti C Sm2 8 fo_RX0_106 (j := 8) rfl rfl hx0 dX0_setStone_59 ?_
  refine q_aload_n C hl 1 rfl rfl dX0_setStone_62 ?_
  refine q_iload_n C hl 3 rfl rfl dX0_setStone_63 ?_
  refine q_iload_n C hl 4 rfl rfl dX0_setStone_64 ?_
  obtain ⟨v5, m6, h7, hF⟩ := bd2_ok hF
  refine q_ci Sm2 (run_V (As := [.int (iI x2), .int (iI x3)]) (rest := [.int (iI (m2 x0 8)), .ref (ad x0)]) C Sm2 (cX0_ownWorth_ok l G hx0 hx2 hx3 h7 ad _) hx0 ⟨by decide, _, _, rfl⟩ gd_RX0_153 hdV_X0_ownWorth rfl ⟨rfl, rfl, by decide, by decide⟩ ⟨Nat.zero_le _, Nat.zero_le _⟩ hl.1 rfl (Nat.le_of_ble_eq_true rfl) dX0_setStone_65) (fun H locs Sm6 h8 => ?_)
  refine q_isub C dX0_setStone_68 ?_
  obtain ⟨m9, em9, hF⟩ := vm_ok hF
  refine q_put C Sm6 8 fo_RX0_106 fp_1_8 (fun h9 => absurd h9 (by decide)) (j := 8) rfl hx0 rfl rfl rfl (r32_w _) (fun h9 => absurd h9 (by decide)) em9 dX0_setStone_69 (fun H locs Sm9 => ?_)
  refine q_aload_n C hl 2 rfl rfl dX0_setStone_72 ?_
  refine q_iload_n C hl 3 rfl rfl dX0_setStone_73 ?_
  refine q_iload_n C hl 4 rfl rfl dX0_setStone_74 ?_
  refine q_aload_n C hl 1 rfl rfl dX0_setStone_75 ?_
  obtain ⟨k10, hF⟩ := ck_ok hF
  refine q_getr C Sm9 3 fo_RX0_28 (j := 3) rfl rfl hx0 k10 (by decide) dX0_setStone_76 ?_
  refine q_iload_n C hl 4 rfl rfl dX0_setStone_79 ?_
  obtain ⟨i11, hF⟩ := ck_ok hF
  refine q_iald C Sm9 k10 i11 dX0_setStone_80 ?_
  refine q_iload C hl 0 rfl dX0_setStone_81 ?_
  obtain ⟨v12, m13, h14, hF⟩ := bd2_ok hF
  refine q_cv Sm9 (run_V (As := [.int (iI x2), .int (iI x3), .int (iI (m9 (m9 x0 3) x3)), .int (iI v1)]) (rest := []) C Sm9 (cX9_add_ok l G hx1 hx2 hx3 (Sm9.r _ _) h4.1 h14 ad _) hx1 ⟨by decide, _, _, rfl⟩ gd_RX0_156 hdV_X9_add rfl ⟨rfl, rfl, by decide, by decide⟩ ⟨Nat.zero_le _, Nat.zero_le _⟩ hl.1 rfl (Nat.le_of_ble_eq_true rfl) dX0_setStone_83) (fun H locs Sm13 => ?_)
  refine q_aload_n C hl 1 rfl rfl dX0_setStone_86 ?_
  obtain ⟨k15, hF⟩ := ck_ok hF
  refine q_getr C Sm13 4 fo_RX0_31 (j := 4) rfl rfl hx0 k15 (by decide) dX0_setStone_87 ?_
  refine q_iload_n C hl 4 rfl rfl dX0_setStone_90 ?_
  refine q_dup2 C rfl rfl dX0_setStone_91 ?_
  obtain ⟨i16, hF⟩ := ck_ok hF
  refine q_iald C Sm13 k15 i16 dX0_setStone_92 ?_
  refine q_iconst C 1 dX0_setStone_93 ?_
  refine q_isub C dX0_setStone_94 ?_
  obtain ⟨i17, hF⟩ := ck_ok hF
  obtain ⟨m18, em18, hF⟩ := vm_ok hF
  refine q_iast C Sm13 k15 i17 (r32_w _) em18 dX0_setStone_95 (fun H locs Sm18 => ?_)
  refine q_aload_n C hl 1 rfl rfl dX0_setStone_96 ?_
  refine q_iload_n C hl 3 rfl rfl dX0_setStone_97 ?_
  obtain ⟨v19, m20, h21, hF⟩ := bd2_ok hF
  refine q_cv Sm18 (run_V (As := [.int (iI x2)]) (rest := []) C Sm18 (cX0_goBehind_ok l G hx0 hx2 h21 ad _) hx0 ⟨by decide, _, _, rfl⟩ gd_RX0_160 hdV_X0_goBehind rfl ⟨rfl, rfl, by decide, by decide⟩ ⟨Nat.zero_le _, Nat.zero_le _⟩ hl.1 rfl (Nat.le_of_ble_eq_true rfl) dX0_setStone_98) (fun H locs Sm20 => ?_)
  cases hF
  exact Kr _ _ _ _ Sm20 dX0_setStone_101
set_option maxRecDepth 20000 in
theorem wX0_setStone_114 {p : Program} {l : Launch} {e : Env} {s : State} {mt : MethodId} {args : Array Value} {below : List Frame} {meth : Method} {c : Code} {Q : State → Prop} {G : Gl} {A : Nat → Prop} {H0 : Heap} {ad : Int → Nat} {g : Shp} {H : Heap} {locs : List Loc} {ls : Array Slot} {m : Mem} (C : CallFix p mt c cX0_setStone 5 s args tb RX0) (S : Wd G A s H0 ad g m H locs)  (hl : lv_has ls 5 []) {r : Int} {m' : Mem} (hF : bX0_setStone_114 g m = some (r, m')) (Kr : ∀ (H : Heap) (locs : List Loc) (pc : Nat) (ls : Array Slot), Wd G A s H0 ad g m' H locs → decode cX0_setStone pc = .ok (.return_, 1) → W p l e rX0_setStone s mt args below meth c H locs 0 0 Q (F0 mt pc ls [])) : W p l e rX0_setStone s mt args below meth c H locs 0 0 Q (F0 mt 114 ls []) := by
  unfold bX0_setStone_114 at hF
  cases hF
  exact Kr _ _ _ _ S dX0_setStone_114
set_option maxRecDepth 20000 in
theorem wX0_setStone_0 {p : Program} {l : Launch} {e : Env} {s : State} {mt : MethodId} {args : Array Value} {below : List Frame} {meth : Method} {c : Code} {Q : State → Prop} {G : Gl} {A : Nat → Prop} {H0 : Heap} {ad : Int → Nat} {g : Shp} {H : Heap} {locs : List Loc} {ls : Array Slot} {m : Mem} {x0 x1 : Int} (C : CallFix p mt c cX0_setStone 5 s args tb RX0) (S : Wd G A s H0 ad g m H locs) (hx0 : gk g x0 = 1) (hx1 : gk g x1 = 10) (hl : lv_has ls 5 [(0, .ref (ad x0)), (1, .ref (ad x1))]) {r : Int} {m' : Mem} (hF : bX0_setStone_0 g x0 x1 m = some (r, m')) (Kr : ∀ (H : Heap) (locs : List Loc) (pc : Nat) (ls : Array Slot), Wd G A s H0 ad g m' H locs → decode cX0_setStone pc = .ok (.return_, 1) → W p l e rX0_setStone s mt args below meth c H locs 0 0 Q (F0 mt pc ls [])) : W p l e rX0_setStone s mt args below meth c H locs 0 0 Q (F0 mt 0 ls []) := by
  unfold bX0_setStone_0 at hF
  refine q_aload_n C hl 0 rfl rfl dX0_setStone_0 ?_
  refine q_geti C S 7 fo_RX0_99 (j := 7) rfl rfl hx0 dX0_setStone_1 ?_
  refine q_bipush C 9 (by decide) dX0_setStone_4 ?_
  refine q_min C ⟨tw730, tw731, tw82, tw732⟩ hl.1 (S.r _ _) (rl 9 rfl) (by decide) (by decide) ⟨Nat.zero_le _, Nat.zero_le _⟩ dX0_setStone_6 ?_
  obtain ⟨y1, ey1, hF⟩ := vv_ok hF
  have ry1 : r32 y1 := ey1 ▸ (r32_min (S.r _ _) (rl 9 rfl))
  refine q_istore_n C hl [(2, .int (iI y1)), (0, .ref (ad x0)), (1, .ref (ad x1))] ey1 rfl (by decide) rfl dX0_setStone_9 (fun ls hl => ?_)
  obtain ⟨cv2, sv3, hi4, hF⟩ := bdl_ok hF
  refine lX0_setStone_10 C hx0 hx1 hi4 ?_ ?_ _ _ _ ry1 S (lv_sub hl [1, 2, 0] rfl)
  · intro hc5 H locs ls f7 f8 S6 hl
    have hF := if_t hc5 hF
    exact wX0_setStone_49 C S6 hx0 hx1 f7 f8 (lv_sub hl [0, 1, 2, 3] rfl) hF Kr
  · intro hc9 H locs ls  S10 hl
    have hF := if_f (by rw [hc9]; decide) hF
    exact wX0_setStone_114 C S10  (lv_sub hl [] rfl) hF Kr
theorem cX0_setStone_ok (l : Launch) (G : Gl) {g : Shp} {x0 x1 : Int} {m m' : Mem} {r : Int} (hx0 : gk g x0 = 1) (hx1 : gk g x1 = 10) (hF : fX0_setStone g x0 x1 m = some (r, m')) : mV l yX0_setStone (wT yX0_setStone cX0_setStone 5 none) rX0_setStone G (fun ad => [.ref (ad x0), .ref (ad x1)]) g m m' :=
  met_v (by decide) (fun ad => Nat.le_of_ble_eq_true rfl) (fun p e s mt args below meth c Q A H0 H locs ad ls C hnm S hl Kr => wX0_setStone_0 C S hx0 hx1 hl hF Kr)
set_option maxRecDepth 20000 in
theorem wJ7_fill_53178_5 {p : Program} {l : Launch} {e : Env} {s : State} {mt : MethodId} {args : Array Value} {below : List Frame} {meth : Method} {c : Code} {Q : State → Prop} {G : Gl} {A : Nat → Prop} {H0 : Heap} {ad : Int → Nat} {g : Shp} {H : Heap} {locs : List Loc} {ls : Array Slot} {m : Mem} {x0 x1 x2 x3 : Int} (C : CallFix p mt c cJ7_fill_53178 4 s args tb RJ7) (S : Wd G A s H0 ad g m H locs) (hx0 : gk g x0 = 20) (hx1 : r32 x1) (hx2 : r32 x2) (hx3 : r32 x3) (hl : lv_has ls 4 [(0, .ref (ad x0)), (1, .int (iI x1)), (2, .int (iI x2)), (3, .int (iI x3))]) {c1 : Int} {s1 : (Int × Mem)} (hF : bJ7_fill_53178_5 g x0 x1 x2 x3 m = some (c1, s1)) (K0 : c1 = 0 → ∀ (H : Heap) (locs : List Loc) (ls : Array Slot), r32 s1.1 → Wd G A s H0 ad g s1.2 H locs → lv_has ls 4 [(0, .ref (ad x0)), (1, .int (iI x1)), (2, .int (iI s1.1)), (3, .int (iI x3))] → W p l e rJ7_fill_53178 s mt args below meth c H locs 0 0 Q (F0 mt 5 ls [])) (K1 : c1 = 1 → ∀ (H : Heap) (locs : List Loc) (ls : Array Slot), Wd G A s H0 ad g s1.2 H locs → lv_has ls 4 [] → W p l e rJ7_fill_53178 s mt args below meth c H locs 0 0 Q (F0 mt 20 ls [])) : W p l e rJ7_fill_53178 s mt args below meth c H locs 0 0 Q (F0 mt 5 ls []) := by
  unfold bJ7_fill_53178_5 at hF
  refine q_iload_n C hl 2 rfl rfl dJ7_fill_53178_5 ?_
  refine q_iload_n C hl 3 rfl rfl dJ7_fill_53178_6 ?_
  refine q_icmp_ge C hx2 hx3 20 dJ7_fill_53178_7 (by decide) (fun hc1 => ?_) (fun hc1 => ?_)
  · have hF := if_t hc1 hF
    cases hF
    exact K1 rfl _ _ _  S (lv_sub hl [] rfl)
  · have hF := if_f hc1 hF
    refine q_aload_n C hl 0 rfl rfl dJ7_fill_53178_10 ?_
    refine q_iload_n C hl 2 rfl rfl dJ7_fill_53178_11 ?_
    refine q_iload_n C hl 1 rfl rfl dJ7_fill_53178_12 ?_
    obtain ⟨i2, hF⟩ := ck_ok hF
    obtain ⟨m3, em3, hF⟩ := vm_ok hF
    refine q_iast C S hx0 i2 hx1 em3 dJ7_fill_53178_13 (fun H locs Sm3 => ?_)
    obtain ⟨y4, ey4, hF⟩ := vv_ok hF
    have ry4 : r32 y4 := ey4 ▸ r32_w _
    refine q_iinc C hl 2 [(2, .int (iI y4)), (0, .ref (ad x0)), (1, .int (iI x1)), (3, .int (iI x3))] rfl ey4 (by decide) rfl dJ7_fill_53178_14 (fun ls hl => ?_)
    refine q_goto C 5 dJ7_fill_53178_17 (by decide) ?_
    cases hF
    exact K0 rfl _ _ _ ry4 Sm3 (lv_sub hl [1, 2, 0, 3] rfl)
set_option maxRecDepth 20000 in
theorem lJ7_fill_53178_5 {p : Program} {l : Launch} {e : Env} {s : State} {mt : MethodId} {args : Array Value} {below : List Frame} {meth : Method} {c : Code} {Q : State → Prop} {G : Gl} {A : Nat → Prop} {H0 : Heap} {ad : Int → Nat} {g : Shp} {x0 x1 x3 : Int} (C : CallFix p mt c cJ7_fill_53178 4 s args tb RJ7) (hx0 : gk g x0 = 20) (hx1 : r32 x1) (hx3 : r32 x3) {n : Nat} {s0 s1 : (Int × Mem)} {c1 : Int} (hI : iter (BJ7_fill_53178_5 g x0 x1 x3) n s0 = some (c1, s1)) (K1 : c1 = 1 → ∀ (H : Heap) (locs : List Loc) (ls : Array Slot), Wd G A s H0 ad g s1.2 H locs → lv_has ls 4 [] → W p l e rJ7_fill_53178 s mt args below meth c H locs 0 0 Q (F0 mt 20 ls [])) : ∀ (H : Heap) (locs : List Loc) (ls : Array Slot), r32 s0.1 → Wd G A s H0 ad g s0.2 H locs → lv_has ls 4 [(0, .ref (ad x0)), (1, .int (iI x1)), (2, .int (iI s0.1)), (3, .int (iI x3))] → W p l e rJ7_fill_53178 s mt args below meth c H locs 0 0 Q (F0 mt 5 ls []) :=
  iter_W (Pw := fun q => ∀ (H : Heap) (locs : List Loc) (ls : Array Slot), r32 q.1 → Wd G A s H0 ad g q.2 H locs → lv_has ls 4 [(0, .ref (ad x0)), (1, .int (iI x1)), (2, .int (iI q.1)), (3, .int (iI x3))] → W p l e rJ7_fill_53178 s mt args below meth c H locs 0 0 Q (F0 mt 5 ls [])) (Px := fun c0 q => (c0 = 1 → ∀ (H : Heap) (locs : List Loc) (ls : Array Slot), Wd G A s H0 ad g q.2 H locs → lv_has ls 4 [] → W p l e rJ7_fill_53178 s mt args below meth c H locs 0 0 Q (F0 mt 20 ls [])))
    (fun s c s' hB K0 kx H locs ls f0 S hl => wJ7_fill_53178_5 C S hx0 hx1 f0 hx3 hl hB K0 (fun h9 => (kx (by rw [h9]; decide)) h9)) _ _ _ _ hI K1
set_option maxRecDepth 20000 in
theorem wJ7_fill_53178_20 {p : Program} {l : Launch} {e : Env} {s : State} {mt : MethodId} {args : Array Value} {below : List Frame} {meth : Method} {c : Code} {Q : State → Prop} {G : Gl} {A : Nat → Prop} {H0 : Heap} {ad : Int → Nat} {g : Shp} {H : Heap} {locs : List Loc} {ls : Array Slot} {m : Mem} (C : CallFix p mt c cJ7_fill_53178 4 s args tb RJ7) (S : Wd G A s H0 ad g m H locs)  (hl : lv_has ls 4 []) {r : Int} {m' : Mem} (hF : bJ7_fill_53178_20 g m = some (r, m')) (Kr : ∀ (H : Heap) (locs : List Loc) (pc : Nat) (ls : Array Slot), Wd G A s H0 ad g m' H locs → decode cJ7_fill_53178 pc = .ok (.return_, 1) → W p l e rJ7_fill_53178 s mt args below meth c H locs 0 0 Q (F0 mt pc ls [])) : W p l e rJ7_fill_53178 s mt args below meth c H locs 0 0 Q (F0 mt 20 ls []) := by
  unfold bJ7_fill_53178_20 at hF
  cases hF
  exact Kr _ _ _ _ S dJ7_fill_53178_20
set_option maxRecDepth 20000 in
theorem wJ7_fill_53178_0 {p : Program} {l : Launch} {e : Env} {s : State} {mt : MethodId} {args : Array Value} {below : List Frame} {meth : Method} {c : Code} {Q : State → Prop} {G : Gl} {A : Nat → Prop} {H0 : Heap} {ad : Int → Nat} {g : Shp} {H : Heap} {locs : List Loc} {ls : Array Slot} {m : Mem} {x0 x1 : Int} (C : CallFix p mt c cJ7_fill_53178 4 s args tb RJ7) (S : Wd G A s H0 ad g m H locs) (hx0 : gk g x0 = 20) (hx1 : r32 x1) (hl : lv_has ls 4 [(0, .ref (ad x0)), (1, .int (iI x1))]) {r : Int} {m' : Mem} (hF : bJ7_fill_53178_0 g x0 x1 m = some (r, m')) (Kr : ∀ (H : Heap) (locs : List Loc) (pc : Nat) (ls : Array Slot), Wd G A s H0 ad g m' H locs → decode cJ7_fill_53178 pc = .ok (.return_, 1) → W p l e rJ7_fill_53178 s mt args below meth c H locs 0 0 Q (F0 mt pc ls [])) : W p l e rJ7_fill_53178 s mt args below meth c H locs 0 0 Q (F0 mt 0 ls []) := by
  unfold bJ7_fill_53178_0 at hF
  refine q_iconst C 0 dJ7_fill_53178_0 ?_
  refine q_istore_n C hl [(2, .int (iI 0)), (0, .ref (ad x0)), (1, .int (iI x1))] rfl rfl (by decide) rfl dJ7_fill_53178_1 (fun ls hl => ?_)
  refine q_aload_n C hl 1 rfl rfl dJ7_fill_53178_2 ?_
  refine q_alen C S hx0 (by decide) dJ7_fill_53178_3 ?_
  obtain ⟨y1, ey1, hF⟩ := vv_ok hF
  have ry1 : r32 y1 := ey1 ▸ (S.l _)
  refine q_istore_n C hl [(3, .int (iI y1)), (2, .int (iI 0)), (0, .ref (ad x0)), (1, .int (iI x1))] ey1 rfl (by decide) rfl dJ7_fill_53178_4 (fun ls hl => ?_)
  obtain ⟨cv2, sv3, hi4, hF⟩ := bdl_ok hF
  refine lJ7_fill_53178_5 C hx0 hx1 ry1 hi4 ?_ _ _ _ (rl 0 rfl) S (lv_sub hl [2, 3, 1, 0] rfl)
  intro _ H locs ls  S5 hl
  exact wJ7_fill_53178_20 C S5  (lv_sub hl [] rfl) hF Kr
theorem cJ7_fill_53178_ok (l : Launch) (G : Gl) {g : Shp} {x0 x1 : Int} {m m' : Mem} {r : Int} (hx0 : gk g x0 = 20) (hx1 : r32 x1) (hF : fJ7_fill_53178 g x0 x1 m = some (r, m')) : mV l yJ7_fill_53178 (wT yJ7_fill_53178 cJ7_fill_53178 4 none) rJ7_fill_53178 G (fun ad => [.ref (ad x0), .int (iI x1)]) g m m' :=
  met_v (by decide) (fun ad => Nat.le_of_ble_eq_true rfl) (fun p e s mt args below meth c Q A H0 H locs ad ls C hnm S hl Kr => wJ7_fill_53178_0 C S hx0 hx1 hl hF Kr)
set_option maxRecDepth 20000 in
theorem wJ7_rangeCheck_23922_0 {p : Program} {l : Launch} {e : Env} {s : State} {mt : MethodId} {args : Array Value} {below : List Frame} {meth : Method} {c : Code} {Q : State → Prop} {G : Gl} {A : Nat → Prop} {H0 : Heap} {ad : Int → Nat} {g : Shp} {H : Heap} {locs : List Loc} {ls : Array Slot} {m : Mem} {x0 x1 x2 : Int} (C : CallFix p mt c cJ7_rangeCheck_23922 3 s args tb RJ7) (S : Wd G A s H0 ad g m H locs) (hx0 : r32 x0) (hx1 : r32 x1) (hx2 : r32 x2) (hl : lv_has ls 3 [(0, .int (iI x0)), (1, .int (iI x1)), (2, .int (iI x2))]) {r : Int} {m' : Mem} (hF : bJ7_rangeCheck_23922_0 g x0 x1 x2 m = some (r, m')) (Kr : ∀ (H : Heap) (locs : List Loc) (pc : Nat) (ls : Array Slot), Wd G A s H0 ad g m' H locs → decode cJ7_rangeCheck_23922 pc = .ok (.return_, 1) → W p l e rJ7_rangeCheck_23922 s mt args below meth c H locs 0 0 Q (F0 mt pc ls [])) : W p l e rJ7_rangeCheck_23922 s mt args below meth c H locs 0 0 Q (F0 mt 0 ls []) := by
  unfold bJ7_rangeCheck_23922_0 at hF
  refine q_iload_n C hl 1 rfl rfl dJ7_rangeCheck_23922_0 ?_
  refine q_iload_n C hl 2 rfl rfl dJ7_rangeCheck_23922_1 ?_
  refine q_icmp_le C hx1 hx2 46 dJ7_rangeCheck_23922_2 (by decide) (fun hc1 => ?_) (fun hc1 => ?_)
  · have hF := if_t hc1 hF
    refine q_iload_n C hl 1 rfl rfl dJ7_rangeCheck_23922_46 ?_
    refine q_if_ge C hx1 59 dJ7_rangeCheck_23922_47 (by decide) (fun hc2 => ?_) (fun hc2 => ?_)
    · have hF := if_t hc2 hF
      refine q_iload_n C hl 2 rfl rfl dJ7_rangeCheck_23922_59 ?_
      refine q_iload_n C hl 0 rfl rfl dJ7_rangeCheck_23922_60 ?_
      refine q_icmp_le C hx2 hx0 73 dJ7_rangeCheck_23922_61 (by decide) (fun hc3 => ?_) (fun hc3 => ?_)
      · have hF := if_t hc3 hF
        cases hF
        exact Kr _ _ _ _ S dJ7_rangeCheck_23922_73
      · have hF := if_f hc3 hF
        exact absurd hF (by simp)
    · have hF := if_f hc2 hF
      exact absurd hF (by simp)
  · have hF := if_f hc1 hF
    exact absurd hF (by simp)
theorem cJ7_rangeCheck_23922_ok (l : Launch) (G : Gl) {g : Shp} {x0 x1 x2 : Int} {m m' : Mem} {r : Int} (hx0 : r32 x0) (hx1 : r32 x1) (hx2 : r32 x2) (hF : fJ7_rangeCheck_23922 g x0 x1 x2 m = some (r, m')) : mV l yJ7_rangeCheck_23922 (wT yJ7_rangeCheck_23922 cJ7_rangeCheck_23922 3 none) rJ7_rangeCheck_23922 G (fun ad => [.int (iI x0), .int (iI x1), .int (iI x2)]) g m m' :=
  met_v (by decide) (fun ad => Nat.le_of_ble_eq_true rfl) (fun p e s mt args below meth c Q A H0 H locs ad ls C hnm S hl Kr => wJ7_rangeCheck_23922_0 C S hx0 hx1 hx2 hl hF Kr)
set_option maxRecDepth 20000 in
theorem wJ7_fill_fda19_10 {p : Program} {l : Launch} {e : Env} {s : State} {mt : MethodId} {args : Array Value} {below : List Frame} {meth : Method} {c : Code} {Q : State → Prop} {G : Gl} {A : Nat → Prop} {H0 : Heap} {ad : Int → Nat} {g : Shp} {H : Heap} {locs : List Loc} {ls : Array Slot} {m : Mem} {x0 x2 x3 x4 : Int} (C : CallFix p mt c cJ7_fill_fda19 5 s args tb RJ7) (S : Wd G A s H0 ad g m H locs) (hx0 : gk g x0 = 20) (hx2 : r32 x2) (hx3 : r32 x3) (hx4 : r32 x4) (hl : lv_has ls 5 [(0, .ref (ad x0)), (2, .int (iI x2)), (3, .int (iI x3)), (4, .int (iI x4))]) {c1 : Int} {s1 : (Int × Mem)} (hF : bJ7_fill_fda19_10 g x0 x2 x3 x4 m = some (c1, s1)) (K0 : c1 = 0 → ∀ (H : Heap) (locs : List Loc) (ls : Array Slot), r32 s1.1 → Wd G A s H0 ad g s1.2 H locs → lv_has ls 5 [(0, .ref (ad x0)), (2, .int (iI x2)), (3, .int (iI x3)), (4, .int (iI s1.1))] → W p l e rJ7_fill_fda19 s mt args below meth c H locs 0 0 Q (F0 mt 10 ls [])) (K1 : c1 = 1 → ∀ (H : Heap) (locs : List Loc) (ls : Array Slot), Wd G A s H0 ad g s1.2 H locs → lv_has ls 5 [] → W p l e rJ7_fill_fda19 s mt args below meth c H locs 0 0 Q (F0 mt 27 ls [])) : W p l e rJ7_fill_fda19 s mt args below meth c H locs 0 0 Q (F0 mt 10 ls []) := by
  unfold bJ7_fill_fda19_10 at hF
  refine q_iload C hl 3 rfl dJ7_fill_fda19_10 ?_
  refine q_iload_n C hl 1 rfl rfl dJ7_fill_fda19_12 ?_
  refine q_icmp_ge C hx4 hx2 27 dJ7_fill_fda19_13 (by decide) (fun hc1 => ?_) (fun hc1 => ?_)
  · have hF := if_t hc1 hF
    cases hF
    exact K1 rfl _ _ _  S (lv_sub hl [] rfl)
  · have hF := if_f hc1 hF
    refine q_aload_n C hl 0 rfl rfl dJ7_fill_fda19_16 ?_
    refine q_iload C hl 3 rfl dJ7_fill_fda19_17 ?_
    refine q_iload_n C hl 2 rfl rfl dJ7_fill_fda19_19 ?_
    obtain ⟨i2, hF⟩ := ck_ok hF
    obtain ⟨m3, em3, hF⟩ := vm_ok hF
    refine q_iast C S hx0 i2 hx3 em3 dJ7_fill_fda19_20 (fun H locs Sm3 => ?_)
    obtain ⟨y4, ey4, hF⟩ := vv_ok hF
    have ry4 : r32 y4 := ey4 ▸ r32_w _
    refine q_iinc C hl 3 [(4, .int (iI y4)), (0, .ref (ad x0)), (2, .int (iI x2)), (3, .int (iI x3))] rfl ey4 (by decide) rfl dJ7_fill_fda19_21 (fun ls hl => ?_)
    refine q_goto C 10 dJ7_fill_fda19_24 (by decide) ?_
    cases hF
    exact K0 rfl _ _ _ ry4 Sm3 (lv_sub hl [1, 2, 3, 0] rfl)
set_option maxRecDepth 20000 in
theorem lJ7_fill_fda19_10 {p : Program} {l : Launch} {e : Env} {s : State} {mt : MethodId} {args : Array Value} {below : List Frame} {meth : Method} {c : Code} {Q : State → Prop} {G : Gl} {A : Nat → Prop} {H0 : Heap} {ad : Int → Nat} {g : Shp} {x0 x2 x3 : Int} (C : CallFix p mt c cJ7_fill_fda19 5 s args tb RJ7) (hx0 : gk g x0 = 20) (hx2 : r32 x2) (hx3 : r32 x3) {n : Nat} {s0 s1 : (Int × Mem)} {c1 : Int} (hI : iter (BJ7_fill_fda19_10 g x0 x2 x3) n s0 = some (c1, s1)) (K1 : c1 = 1 → ∀ (H : Heap) (locs : List Loc) (ls : Array Slot), Wd G A s H0 ad g s1.2 H locs → lv_has ls 5 [] → W p l e rJ7_fill_fda19 s mt args below meth c H locs 0 0 Q (F0 mt 27 ls [])) : ∀ (H : Heap) (locs : List Loc) (ls : Array Slot), r32 s0.1 → Wd G A s H0 ad g s0.2 H locs → lv_has ls 5 [(0, .ref (ad x0)), (2, .int (iI x2)), (3, .int (iI x3)), (4, .int (iI s0.1))] → W p l e rJ7_fill_fda19 s mt args below meth c H locs 0 0 Q (F0 mt 10 ls []) :=
  iter_W (Pw := fun q => ∀ (H : Heap) (locs : List Loc) (ls : Array Slot), r32 q.1 → Wd G A s H0 ad g q.2 H locs → lv_has ls 5 [(0, .ref (ad x0)), (2, .int (iI x2)), (3, .int (iI x3)), (4, .int (iI q.1))] → W p l e rJ7_fill_fda19 s mt args below meth c H locs 0 0 Q (F0 mt 10 ls [])) (Px := fun c0 q => (c0 = 1 → ∀ (H : Heap) (locs : List Loc) (ls : Array Slot), Wd G A s H0 ad g q.2 H locs → lv_has ls 5 [] → W p l e rJ7_fill_fda19 s mt args below meth c H locs 0 0 Q (F0 mt 27 ls [])))
    (fun s c s' hB K0 kx H locs ls f0 S hl => wJ7_fill_fda19_10 C S hx0 hx2 hx3 f0 hl hB K0 (fun h9 => (kx (by rw [h9]; decide)) h9)) _ _ _ _ hI K1
set_option maxRecDepth 20000 in
theorem wJ7_fill_fda19_27 {p : Program} {l : Launch} {e : Env} {s : State} {mt : MethodId} {args : Array Value} {below : List Frame} {meth : Method} {c : Code} {Q : State → Prop} {G : Gl} {A : Nat → Prop} {H0 : Heap} {ad : Int → Nat} {g : Shp} {H : Heap} {locs : List Loc} {ls : Array Slot} {m : Mem} (C : CallFix p mt c cJ7_fill_fda19 5 s args tb RJ7) (S : Wd G A s H0 ad g m H locs)  (hl : lv_has ls 5 []) {r : Int} {m' : Mem} (hF : bJ7_fill_fda19_27 g m = some (r, m')) (Kr : ∀ (H : Heap) (locs : List Loc) (pc : Nat) (ls : Array Slot), Wd G A s H0 ad g m' H locs → decode cJ7_fill_fda19 pc = .ok (.return_, 1) → W p l e rJ7_fill_fda19 s mt args below meth c H locs 0 0 Q (F0 mt pc ls [])) : W p l e rJ7_fill_fda19 s mt args below meth c H locs 0 0 Q (F0 mt 27 ls []) := by
  unfold bJ7_fill_fda19_27 at hF
  cases hF
  exact Kr _ _ _ _ S dJ7_fill_fda19_27
set_option maxRecDepth 20000 in
theorem wJ7_fill_fda19_0 {p : Program} {l : Launch} {e : Env} {s : State} {mt : MethodId} {args : Array Value} {below : List Frame} {meth : Method} {c : Code} {Q : State → Prop} {G : Gl} {A : Nat → Prop} {H0 : Heap} {ad : Int → Nat} {g : Shp} {H : Heap} {locs : List Loc} {ls : Array Slot} {m : Mem} {x0 x1 x2 x3 : Int} (C : CallFix p mt c cJ7_fill_fda19 5 s args tb RJ7) (S : Wd G A s H0 ad g m H locs) (hx0 : gk g x0 = 20) (hx1 : r32 x1) (hx2 : r32 x2) (hx3 : r32 x3) (hl : lv_has ls 5 [(0, .ref (ad x0)), (1, .int (iI x1)), (2, .int (iI x2)), (3, .int (iI x3))]) {r : Int} {m' : Mem} (hF : bJ7_fill_fda19_0 g x0 x1 x2 x3 m = some (r, m')) (Kr : ∀ (H : Heap) (locs : List Loc) (pc : Nat) (ls : Array Slot), Wd G A s H0 ad g m' H locs → decode cJ7_fill_fda19 pc = .ok (.return_, 1) → W p l e rJ7_fill_fda19 s mt args below meth c H locs 0 0 Q (F0 mt pc ls [])) : W p l e rJ7_fill_fda19 s mt args below meth c H locs 0 0 Q (F0 mt 0 ls []) := by
  unfold bJ7_fill_fda19_0 at hF
  refine q_aload_n C hl 0 rfl rfl dJ7_fill_fda19_0 ?_
  refine q_alen C S hx0 (by decide) dJ7_fill_fda19_1 ?_
  refine q_iload_n C hl 1 rfl rfl dJ7_fill_fda19_2 ?_
  refine q_iload_n C hl 2 rfl rfl dJ7_fill_fda19_3 ?_
  obtain ⟨v1, m2, h3, hF⟩ := bd2_ok hF
  refine q_cv S (run_S (As := [.int (iI (gl g x0)), .int (iI x1), .int (iI x2)]) (rest := []) C S (cJ7_rangeCheck_23922_ok l G (S.l _) hx1 hx2 h3 ad _) gd_RJ7_13 hd_J7_rangeCheck_23922 rfl ⟨rfl, rfl, by decide, by decide⟩ ⟨Nat.zero_le _, Nat.zero_le _⟩ hl.1 rfl (Nat.le_of_ble_eq_true rfl) dJ7_fill_fda19_4) (fun H locs Sm2 => ?_)
  refine q_iload_n C hl 1 rfl rfl dJ7_fill_fda19_7 ?_
  refine q_istore C hl [(4, .int (iI x1)), (0, .ref (ad x0)), (1, .int (iI x1)), (2, .int (iI x2)), (3, .int (iI x3))] rfl (by decide) rfl dJ7_fill_fda19_8 (fun ls hl => ?_)
  obtain ⟨cv4, sv5, hi6, hF⟩ := bdl_ok hF
  refine lJ7_fill_fda19_10 C hx0 hx2 hx3 hi6 ?_ _ _ _ hx1 Sm2 (lv_sub hl [1, 3, 4, 0] rfl)
  intro _ H locs ls  S7 hl
  exact wJ7_fill_fda19_27 C S7  (lv_sub hl [] rfl) hF Kr
theorem cJ7_fill_fda19_ok (l : Launch) (G : Gl) {g : Shp} {x0 x1 x2 x3 : Int} {m m' : Mem} {r : Int} (hx0 : gk g x0 = 20) (hx1 : r32 x1) (hx2 : r32 x2) (hx3 : r32 x3) (hF : fJ7_fill_fda19 g x0 x1 x2 x3 m = some (r, m')) : mV l yJ7_fill_fda19 (wT yJ7_fill_fda19 cJ7_fill_fda19 5 none) rJ7_fill_fda19 G (fun ad => [.ref (ad x0), .int (iI x1), .int (iI x2), .int (iI x3)]) g m m' :=
  met_v (by decide) (fun ad => Nat.le_of_ble_eq_true rfl) (fun p e s mt args below meth c Q A H0 H locs ad ls C hnm S hl Kr => wJ7_fill_fda19_0 C S hx0 hx1 hx2 hx3 hl hF Kr)
set_option maxRecDepth 20000 in
theorem wX1_strip_0 {p : Program} {l : Launch} {e : Env} {s : State} {mt : MethodId} {args : Array Value} {below : List Frame} {meth : Method} {c : Code} {Q : State → Prop} {G : Gl} {A : Nat → Prop} {H0 : Heap} {ad : Int → Nat} {g : Shp} {H : Heap} {locs : List Loc} {ls : Array Slot} {m : Mem} {x0 x1 : Int} (C : CallFix p mt c cX1_strip 2 s args tb RX1) (S : Wd G A s H0 ad g m H locs) (hx0 : gk g x0 = 2) (hx1 : r32 x1) (hl : lv_has ls 2 [(0, .ref (ad x0)), (1, .int (iI x1))]) {r : Int} {m' : Mem} (hF : bX1_strip_0 g x0 x1 m = some (r, m')) (Kr : ∀ (H : Heap) (locs : List Loc) (pc : Nat) (ls : Array Slot), Wd G A s H0 ad g m' H locs → decode cX1_strip pc = .ok (.return_, 1) → W p l e rX1_strip s mt args below meth c H locs 0 0 Q (F0 mt pc ls [])) : W p l e rX1_strip s mt args below meth c H locs 0 0 Q (F0 mt 0 ls []) := by
  unfold bX1_strip_0 at hF
  refine q_aload_n C hl 0 rfl rfl dX1_strip_0 ?_
  obtain ⟨k1, hF⟩ := ck_ok hF
  refine q_getr C S 2 fo_RX1_18 (j := 2) rfl rfl hx0 k1 (by decide) dX1_strip_1 ?_
  refine q_iload_n C hl 1 rfl rfl dX1_strip_4 ?_
  refine q_bipush C (-4) (by decide) dX1_strip_5 ?_
  obtain ⟨i2, hF⟩ := ck_ok hF
  obtain ⟨m3, em3, hF⟩ := vm_ok hF
  refine q_iast C S k1 i2 (rl (-4) rfl) em3 dX1_strip_7 (fun H locs Sm3 => ?_)
  refine q_aload_n C hl 0 rfl rfl dX1_strip_8 ?_
  obtain ⟨k4, hF⟩ := ck_ok hF
  refine q_getr C Sm3 3 fo_RX1_21 (j := 3) rfl rfl hx0 k4 (by decide) dX1_strip_9 ?_
  refine q_iload_n C hl 1 rfl rfl dX1_strip_12 ?_
  refine q_iconst C 0 dX1_strip_13 ?_
  obtain ⟨i5, hF⟩ := ck_ok hF
  obtain ⟨m6, em6, hF⟩ := vm_ok hF
  refine q_iast C Sm3 k4 i5 (rl 0 rfl) em6 dX1_strip_14 (fun H locs Sm6 => ?_)
  refine q_aload_n C hl 0 rfl rfl dX1_strip_15 ?_
  obtain ⟨k7, hF⟩ := ck_ok hF
  refine q_getr C Sm6 4 fo_RX1_24 (j := 4) rfl rfl hx0 k7 (by decide) dX1_strip_16 ?_
  refine q_iload_n C hl 1 rfl rfl dX1_strip_19 ?_
  refine q_iconst C 0 dX1_strip_20 ?_
  obtain ⟨i8, hF⟩ := ck_ok hF
  obtain ⟨m9, em9, hF⟩ := vm_ok hF
  refine q_iast C Sm6 k7 i8 (rl 0 rfl) em9 dX1_strip_21 (fun H locs Sm9 => ?_)
  refine q_aload_n C hl 0 rfl rfl dX1_strip_22 ?_
  obtain ⟨k10, hF⟩ := ck_ok hF
  refine q_getr C Sm9 6 fo_RX1_30 (j := 6) rfl rfl hx0 k10 (by decide) dX1_strip_23 ?_
  refine q_iload_n C hl 1 rfl rfl dX1_strip_26 ?_
  refine q_iconst C 0 dX1_strip_27 ?_
  obtain ⟨i11, hF⟩ := ck_ok hF
  obtain ⟨m12, em12, hF⟩ := vm_ok hF
  refine q_iast C Sm9 k10 i11 (rl 0 rfl) em12 dX1_strip_28 (fun H locs Sm12 => ?_)
  refine q_aload_n C hl 0 rfl rfl dX1_strip_29 ?_
  obtain ⟨k13, hF⟩ := ck_ok hF
  refine q_getr C Sm12 5 fo_RX1_27 (j := 5) rfl rfl hx0 k13 (by decide) dX1_strip_30 ?_
  refine q_iload_n C hl 1 rfl rfl dX1_strip_33 ?_
  refine q_iconst C 3 dX1_strip_34 ?_
  refine q_imul C dX1_strip_35 ?_
  refine q_iload_n C hl 1 rfl rfl dX1_strip_36 ?_
  refine q_iconst C 3 dX1_strip_37 ?_
  refine q_imul C dX1_strip_38 ?_
  refine q_iconst C 3 dX1_strip_39 ?_
  refine q_iadd C dX1_strip_40 ?_
  refine q_iconst C 0 dX1_strip_41 ?_
  obtain ⟨v14, m15, h16, hF⟩ := bd2_ok hF
  refine q_cv Sm12 (run_S (As := [.ref (ad (m12 x0 5)), .int (iI (w32 (x1 * 3))), .int (iI (w32 ((w32 (x1 * 3)) + 3))), .int (iI 0)]) (rest := []) C Sm12 (cJ7_fill_fda19_ok l G k13 (r32_w _) (r32_w _) (rl 0 rfl) h16 ad _) gd_RX1_97 hd_J7_fill_fda19 rfl ⟨rfl, rfl, by decide, by decide⟩ ⟨Nat.zero_le _, Nat.zero_le _⟩ hl.1 rfl (Nat.le_of_ble_eq_true rfl) dX1_strip_42) (fun H locs Sm15 => ?_)
  cases hF
  exact Kr _ _ _ _ Sm15 dX1_strip_45
theorem cX1_strip_ok (l : Launch) (G : Gl) {g : Shp} {x0 x1 : Int} {m m' : Mem} {r : Int} (hx0 : gk g x0 = 2) (hx1 : r32 x1) (hF : fX1_strip g x0 x1 m = some (r, m')) : mV l yX1_strip (wT yX1_strip cX1_strip 2 none) rX1_strip G (fun ad => [.ref (ad x0), .int (iI x1)]) g m m' :=
  met_v (by decide) (fun ad => Nat.le_of_ble_eq_true rfl) (fun p e s mt args below meth c Q A H0 H locs ad ls C hnm S hl Kr => wX1_strip_0 C S hx0 hx1 hl hF Kr)
set_option maxRecDepth 20000 in
theorem wX1_begin_29 {p : Program} {l : Launch} {e : Env} {s : State} {mt : MethodId} {args : Array Value} {below : List Frame} {meth : Method} {c : Code} {Q : State → Prop} {G : Gl} {A : Nat → Prop} {H0 : Heap} {ad : Int → Nat} {g : Shp} {H : Heap} {locs : List Loc} {ls : Array Slot} {m : Mem} {x0 x1 x2 : Int} (C : CallFix p mt c cX1_begin 3 s args tb RX1) (S : Wd G A s H0 ad g m H locs) (hx0 : gk g x0 = 2) (hx1 : gk g x1 = 8) (hx2 : r32 x2) (hl : lv_has ls 3 [(0, .ref (ad x0)), (1, .ref (ad x1)), (2, .int (iI x2))]) {c1 : Int} {s1 : (Int × Mem)} (hF : bX1_begin_29 g x0 x1 x2 m = some (c1, s1)) (K0 : c1 = 0 → ∀ (H : Heap) (locs : List Loc) (ls : Array Slot), r32 s1.1 → Wd G A s H0 ad g s1.2 H locs → lv_has ls 3 [(0, .ref (ad x0)), (1, .ref (ad x1)), (2, .int (iI s1.1))] → W p l e rX1_begin s mt args below meth c H locs 0 0 Q (F0 mt 29 ls [])) (K1 : c1 = 1 → ∀ (H : Heap) (locs : List Loc) (ls : Array Slot), Wd G A s H0 ad g s1.2 H locs → lv_has ls 3 [(0, .ref (ad x0)), (1, .ref (ad x1))] → W p l e rX1_begin s mt args below meth c H locs 0 0 Q (F0 mt 45 ls [])) : W p l e rX1_begin s mt args below meth c H locs 0 0 Q (F0 mt 29 ls []) := by
  unfold bX1_begin_29 at hF
  refine q_iload_n C hl 2 rfl rfl dX1_begin_29 ?_
  refine q_iconst C 3 dX1_begin_30 ?_
  refine q_icmp_ge C hx2 (rl 3 rfl) 45 dX1_begin_31 (by decide) (fun hc1 => ?_) (fun hc1 => ?_)
  · have hF := if_t hc1 hF
    cases hF
    exact K1 rfl _ _ _  S (lv_sub hl [0, 1] rfl)
  · have hF := if_f hc1 hF
    refine q_aload_n C hl 0 rfl rfl dX1_begin_34 ?_
    refine q_iload_n C hl 2 rfl rfl dX1_begin_35 ?_
    obtain ⟨v2, m3, h4, hF⟩ := bd2_ok hF
    refine q_cv S (run_V (As := [.int (iI x2)]) (rest := []) C S (cX1_strip_ok l G hx0 hx2 h4 ad _) hx0 ⟨by decide, _, _, rfl⟩ gd_RX1_48 hdV_X1_strip rfl ⟨rfl, rfl, by decide, by decide⟩ ⟨Nat.zero_le _, Nat.zero_le _⟩ hl.1 rfl (Nat.le_of_ble_eq_true rfl) dX1_begin_36) (fun H locs Sm3 => ?_)
    obtain ⟨y5, ey5, hF⟩ := vv_ok hF
    have ry5 : r32 y5 := ey5 ▸ r32_w _
    refine q_iinc C hl 2 [(2, .int (iI y5)), (0, .ref (ad x0)), (1, .ref (ad x1))] rfl ey5 (by decide) rfl dX1_begin_39 (fun ls hl => ?_)
    refine q_goto C 29 dX1_begin_42 (by decide) ?_
    cases hF
    exact K0 rfl _ _ _ ry5 Sm3 (lv_sub hl [1, 2, 0] rfl)
set_option maxRecDepth 20000 in
theorem lX1_begin_29 {p : Program} {l : Launch} {e : Env} {s : State} {mt : MethodId} {args : Array Value} {below : List Frame} {meth : Method} {c : Code} {Q : State → Prop} {G : Gl} {A : Nat → Prop} {H0 : Heap} {ad : Int → Nat} {g : Shp} {x0 x1 : Int} (C : CallFix p mt c cX1_begin 3 s args tb RX1) (hx0 : gk g x0 = 2) (hx1 : gk g x1 = 8) {n : Nat} {s0 s1 : (Int × Mem)} {c1 : Int} (hI : iter (BX1_begin_29 g x0 x1) n s0 = some (c1, s1)) (K1 : c1 = 1 → ∀ (H : Heap) (locs : List Loc) (ls : Array Slot), Wd G A s H0 ad g s1.2 H locs → lv_has ls 3 [(0, .ref (ad x0)), (1, .ref (ad x1))] → W p l e rX1_begin s mt args below meth c H locs 0 0 Q (F0 mt 45 ls [])) : ∀ (H : Heap) (locs : List Loc) (ls : Array Slot), r32 s0.1 → Wd G A s H0 ad g s0.2 H locs → lv_has ls 3 [(0, .ref (ad x0)), (1, .ref (ad x1)), (2, .int (iI s0.1))] → W p l e rX1_begin s mt args below meth c H locs 0 0 Q (F0 mt 29 ls []) :=
  iter_W (Pw := fun q => ∀ (H : Heap) (locs : List Loc) (ls : Array Slot), r32 q.1 → Wd G A s H0 ad g q.2 H locs → lv_has ls 3 [(0, .ref (ad x0)), (1, .ref (ad x1)), (2, .int (iI q.1))] → W p l e rX1_begin s mt args below meth c H locs 0 0 Q (F0 mt 29 ls [])) (Px := fun c0 q => (c0 = 1 → ∀ (H : Heap) (locs : List Loc) (ls : Array Slot), Wd G A s H0 ad g q.2 H locs → lv_has ls 3 [(0, .ref (ad x0)), (1, .ref (ad x1))] → W p l e rX1_begin s mt args below meth c H locs 0 0 Q (F0 mt 45 ls [])))
    (fun s c s' hB K0 kx H locs ls f0 S hl => wX1_begin_29 C S hx0 hx1 f0 hl hB K0 (fun h9 => (kx (by rw [h9]; decide)) h9)) _ _ _ _ hI K1
set_option maxRecDepth 20000 in
theorem wX1_begin_45 {p : Program} {l : Launch} {e : Env} {s : State} {mt : MethodId} {args : Array Value} {below : List Frame} {meth : Method} {c : Code} {Q : State → Prop} {G : Gl} {A : Nat → Prop} {H0 : Heap} {ad : Int → Nat} {g : Shp} {H : Heap} {locs : List Loc} {ls : Array Slot} {m : Mem} {x0 x1 : Int} (C : CallFix p mt c cX1_begin 3 s args tb RX1) (S : Wd G A s H0 ad g m H locs) (hx0 : gk g x0 = 2) (hx1 : gk g x1 = 8) (hl : lv_has ls 3 [(0, .ref (ad x0)), (1, .ref (ad x1))]) {r : Int} {m' : Mem} (hF : bX1_begin_45 g x0 x1 m = some (r, m')) (Kr : ∀ (H : Heap) (locs : List Loc) (pc : Nat) (ls : Array Slot), Wd G A s H0 ad g m' H locs → decode cX1_begin pc = .ok (.return_, 1) → W p l e rX1_begin s mt args below meth c H locs 0 0 Q (F0 mt pc ls [])) : W p l e rX1_begin s mt args below meth c H locs 0 0 Q (F0 mt 45 ls []) := by
  unfold bX1_begin_45 at hF
  refine q_aload_n C hl 0 rfl rfl dX1_begin_45 ?_
  refine q_aload_n C hl 1 rfl rfl dX1_begin_46 ?_
  refine q_geti C S 4 fo_RX1_52 (j := 4) rfl rfl hx1 dX1_begin_47 ?_
  obtain ⟨m1, em1, hF⟩ := vm_ok hF
  refine q_put C S 7 fo_RX1_56 fp_2_7 (fun h9 => absurd h9 (by decide)) (j := 7) rfl hx0 rfl rfl rfl (S.r _ _) (fun h9 => absurd h9 (by decide)) em1 dX1_begin_50 (fun H locs Sm1 => ?_)
  refine q_aload_n C hl 0 rfl rfl dX1_begin_53 ?_
  refine q_iconst C 0 dX1_begin_54 ?_
  obtain ⟨m2, em2, hF⟩ := vm_ok hF
  refine q_put C Sm1 8 fo_RX1_57 fp_2_8 (fun h9 => absurd h9 (by decide)) (j := 8) rfl hx0 rfl rfl rfl (rl 0 rfl) (fun h9 => absurd h9 (by decide)) em2 dX1_begin_55 (fun H locs Sm2 => ?_)
  refine q_aload_n C hl 0 rfl rfl dX1_begin_58 ?_
  refine q_iconst C 0 dX1_begin_59 ?_
  obtain ⟨m3, em3, hF⟩ := vm_ok hF
  refine q_put C Sm2 9 fo_RX1_60 fp_2_9 (fun h9 => absurd h9 (by decide)) (j := 9) rfl hx0 rfl rfl rfl (rl 0 rfl) (fun h9 => absurd h9 (by decide)) em3 dX1_begin_60 (fun H locs Sm3 => ?_)
  cases hF
  exact Kr _ _ _ _ Sm3 dX1_begin_63
set_option maxRecDepth 20000 in
theorem wX1_begin_0 {p : Program} {l : Launch} {e : Env} {s : State} {mt : MethodId} {args : Array Value} {below : List Frame} {meth : Method} {c : Code} {Q : State → Prop} {G : Gl} {A : Nat → Prop} {H0 : Heap} {ad : Int → Nat} {g : Shp} {H : Heap} {locs : List Loc} {ls : Array Slot} {m : Mem} {x0 x1 : Int} (C : CallFix p mt c cX1_begin 3 s args tb RX1) (S : Wd G A s H0 ad g m H locs) (hx0 : gk g x0 = 2) (hx1 : gk g x1 = 8) (hl : lv_has ls 3 [(0, .ref (ad x0)), (1, .ref (ad x1))]) {r : Int} {m' : Mem} (hF : bX1_begin_0 g x0 x1 m = some (r, m')) (Kr : ∀ (H : Heap) (locs : List Loc) (pc : Nat) (ls : Array Slot), Wd G A s H0 ad g m' H locs → decode cX1_begin pc = .ok (.return_, 1) → W p l e rX1_begin s mt args below meth c H locs 0 0 Q (F0 mt pc ls [])) : W p l e rX1_begin s mt args below meth c H locs 0 0 Q (F0 mt 0 ls []) := by
  unfold bX1_begin_0 at hF
  refine q_aload_n C hl 0 rfl rfl dX1_begin_0 ?_
  obtain ⟨k1, hF⟩ := ck_ok hF
  refine q_getr C S 0 fo_RX1_9 (j := 0) rfl rfl hx0 k1 (by decide) dX1_begin_1 ?_
  refine q_bipush C (-4) (by decide) dX1_begin_4 ?_
  obtain ⟨v2, m3, h4, hF⟩ := bd2_ok hF
  refine q_cv S (run_S (As := [.ref (ad (m x0 0)), .int (iI ((-4)))]) (rest := []) C S (cJ7_fill_53178_ok l G k1 (rl (-4) rfl) h4 ad _) gd_RX1_33 hd_J7_fill_53178 rfl ⟨rfl, rfl, by decide, by decide⟩ ⟨Nat.zero_le _, Nat.zero_le _⟩ hl.1 rfl (Nat.le_of_ble_eq_true rfl) dX1_begin_6) (fun H locs Sm3 => ?_)
  refine q_aload_n C hl 1 rfl rfl dX1_begin_9 ?_
  obtain ⟨k5, hF⟩ := ck_ok hF
  refine q_getr C Sm3 1 fo_RX1_39 (j := 1) rfl rfl hx1 k5 (by decide) dX1_begin_10 ?_
  refine q_iconst C 0 dX1_begin_13 ?_
  refine q_aload_n C hl 0 rfl rfl dX1_begin_14 ?_
  obtain ⟨k6, hF⟩ := ck_ok hF
  refine q_getr C Sm3 1 fo_RX1_15 (j := 1) rfl rfl hx0 k6 (by decide) dX1_begin_15 ?_
  refine q_iconst C 0 dX1_begin_18 ?_
  refine q_aload_n C hl 0 rfl rfl dX1_begin_19 ?_
  refine q_getr C Sm3 1 fo_RX1_15 (j := 1) rfl rfl hx0 k6 (by decide) dX1_begin_20 ?_
  refine q_alen C Sm3 k6 (by decide) dX1_begin_23 ?_
  obtain ⟨h7, hF⟩ := ck_ok hF
  obtain ⟨m8, em8, hF⟩ := vm_ok hF
  refine q_acopy C Sm3 ⟨tw553, tw517, tw516, tw80⟩ hl.1 k5 k6 h7.1 h7.2.1 h7.2.2.1 h7.2.2.2.1 h7.2.2.2.2 (by decide) (by decide) em8 dX1_begin_24 (fun H locs Sm8 => ?_)
  refine q_iconst C 0 dX1_begin_27 ?_
  refine q_istore_n C hl [(2, .int (iI 0)), (0, .ref (ad x0)), (1, .ref (ad x1))] rfl rfl (by decide) rfl dX1_begin_28 (fun ls hl => ?_)
  obtain ⟨cv9, sv10, hi11, hF⟩ := bdl_ok hF
  refine lX1_begin_29 C hx0 hx1 hi11 ?_ _ _ _ (rl 0 rfl) Sm8 (lv_sub hl [1, 2, 0] rfl)
  intro _ H locs ls  S12 hl
  exact wX1_begin_45 C S12 hx0 hx1 (lv_sub hl [0, 1] rfl) hF Kr
theorem cX1_begin_ok (l : Launch) (G : Gl) {g : Shp} {x0 x1 : Int} {m m' : Mem} {r : Int} (hx0 : gk g x0 = 2) (hx1 : gk g x1 = 8) (hF : fX1_begin g x0 x1 m = some (r, m')) : mV l yX1_begin (wT yX1_begin cX1_begin 3 none) rX1_begin G (fun ad => [.ref (ad x0), .ref (ad x1)]) g m m' :=
  met_v (by decide) (fun ad => Nat.le_of_ble_eq_true rfl) (fun p e s mt args below meth c Q A H0 H locs ad ls C hnm S hl Kr => wX1_begin_0 C S hx0 hx1 hl hF Kr)
set_option maxRecDepth 20000 in
theorem wX1_copy_0 {p : Program} {l : Launch} {e : Env} {s : State} {mt : MethodId} {args : Array Value} {below : List Frame} {meth : Method} {c : Code} {Q : State → Prop} {G : Gl} {A : Nat → Prop} {H0 : Heap} {ad : Int → Nat} {g : Shp} {H : Heap} {locs : List Loc} {ls : Array Slot} {m : Mem} {x0 x1 : Int} (C : CallFix p mt c cX1_copy 2 s args tb RX1) (S : Wd G A s H0 ad g m H locs) (hx0 : gk g x0 = 2) (hx1 : gk g x1 = 2) (hl : lv_has ls 2 [(0, .ref (ad x0)), (1, .ref (ad x1))]) {r : Int} {m' : Mem} (hF : bX1_copy_0 g x0 x1 m = some (r, m')) (Kr : ∀ (H : Heap) (locs : List Loc) (pc : Nat) (ls : Array Slot), Wd G A s H0 ad g m' H locs → decode cX1_copy pc = .ok (.return_, 1) → W p l e rX1_copy s mt args below meth c H locs 0 0 Q (F0 mt pc ls [])) : W p l e rX1_copy s mt args below meth c H locs 0 0 Q (F0 mt 0 ls []) := by
  unfold bX1_copy_0 at hF
  refine q_aload_n C hl 1 rfl rfl dX1_copy_0 ?_
  obtain ⟨k1, hF⟩ := ck_ok hF
  refine q_getr C S 0 fo_RX1_9 (j := 0) rfl rfl hx1 k1 (by decide) dX1_copy_1 ?_
  refine q_iconst C 0 dX1_copy_4 ?_
  refine q_aload_n C hl 0 rfl rfl dX1_copy_5 ?_
  obtain ⟨k2, hF⟩ := ck_ok hF
  refine q_getr C S 0 fo_RX1_9 (j := 0) rfl rfl hx0 k2 (by decide) dX1_copy_6 ?_
  refine q_iconst C 0 dX1_copy_9 ?_
  refine q_aload_n C hl 0 rfl rfl dX1_copy_10 ?_
  refine q_getr C S 0 fo_RX1_9 (j := 0) rfl rfl hx0 k2 (by decide) dX1_copy_11 ?_
  refine q_alen C S k2 (by decide) dX1_copy_14 ?_
  obtain ⟨h3, hF⟩ := ck_ok hF
  obtain ⟨m4, em4, hF⟩ := vm_ok hF
  refine q_acopy C S ⟨tw553, tw517, tw516, tw80⟩ hl.1 k1 k2 h3.1 h3.2.1 h3.2.2.1 h3.2.2.2.1 h3.2.2.2.2 (by decide) (by decide) em4 dX1_copy_15 (fun H locs Sm4 => ?_)
  refine q_aload_n C hl 1 rfl rfl dX1_copy_18 ?_
  obtain ⟨k5, hF⟩ := ck_ok hF
  refine q_getr C Sm4 1 fo_RX1_15 (j := 1) rfl rfl hx1 k5 (by decide) dX1_copy_19 ?_
  refine q_iconst C 0 dX1_copy_22 ?_
  refine q_aload_n C hl 0 rfl rfl dX1_copy_23 ?_
  obtain ⟨k6, hF⟩ := ck_ok hF
  refine q_getr C Sm4 1 fo_RX1_15 (j := 1) rfl rfl hx0 k6 (by decide) dX1_copy_24 ?_
  refine q_iconst C 0 dX1_copy_27 ?_
  refine q_aload_n C hl 0 rfl rfl dX1_copy_28 ?_
  refine q_getr C Sm4 1 fo_RX1_15 (j := 1) rfl rfl hx0 k6 (by decide) dX1_copy_29 ?_
  refine q_alen C Sm4 k6 (by decide) dX1_copy_32 ?_
  obtain ⟨h7, hF⟩ := ck_ok hF
  obtain ⟨m8, em8, hF⟩ := vm_ok hF
  refine q_acopy C Sm4 ⟨tw553, tw517, tw516, tw80⟩ hl.1 k5 k6 h7.1 h7.2.1 h7.2.2.1 h7.2.2.2.1 h7.2.2.2.2 (by decide) (by decide) em8 dX1_copy_33 (fun H locs Sm8 => ?_)
  refine q_aload_n C hl 1 rfl rfl dX1_copy_36 ?_
  obtain ⟨k9, hF⟩ := ck_ok hF
  refine q_getr C Sm8 2 fo_RX1_18 (j := 2) rfl rfl hx1 k9 (by decide) dX1_copy_37 ?_
  refine q_iconst C 0 dX1_copy_40 ?_
  refine q_aload_n C hl 0 rfl rfl dX1_copy_41 ?_
  obtain ⟨k10, hF⟩ := ck_ok hF
  refine q_getr C Sm8 2 fo_RX1_18 (j := 2) rfl rfl hx0 k10 (by decide) dX1_copy_42 ?_
  refine q_iconst C 0 dX1_copy_45 ?_
  refine q_aload_n C hl 0 rfl rfl dX1_copy_46 ?_
  refine q_getr C Sm8 2 fo_RX1_18 (j := 2) rfl rfl hx0 k10 (by decide) dX1_copy_47 ?_
  refine q_alen C Sm8 k10 (by decide) dX1_copy_50 ?_
  obtain ⟨h11, hF⟩ := ck_ok hF
  obtain ⟨m12, em12, hF⟩ := vm_ok hF
  refine q_acopy C Sm8 ⟨tw553, tw517, tw516, tw80⟩ hl.1 k9 k10 h11.1 h11.2.1 h11.2.2.1 h11.2.2.2.1 h11.2.2.2.2 (by decide) (by decide) em12 dX1_copy_51 (fun H locs Sm12 => ?_)
  refine q_aload_n C hl 1 rfl rfl dX1_copy_54 ?_
  obtain ⟨k13, hF⟩ := ck_ok hF
  refine q_getr C Sm12 3 fo_RX1_21 (j := 3) rfl rfl hx1 k13 (by decide) dX1_copy_55 ?_
  refine q_iconst C 0 dX1_copy_58 ?_
  refine q_aload_n C hl 0 rfl rfl dX1_copy_59 ?_
  obtain ⟨k14, hF⟩ := ck_ok hF
  refine q_getr C Sm12 3 fo_RX1_21 (j := 3) rfl rfl hx0 k14 (by decide) dX1_copy_60 ?_
  refine q_iconst C 0 dX1_copy_63 ?_
  refine q_aload_n C hl 0 rfl rfl dX1_copy_64 ?_
  refine q_getr C Sm12 3 fo_RX1_21 (j := 3) rfl rfl hx0 k14 (by decide) dX1_copy_65 ?_
  refine q_alen C Sm12 k14 (by decide) dX1_copy_68 ?_
  obtain ⟨h15, hF⟩ := ck_ok hF
  obtain ⟨m16, em16, hF⟩ := vm_ok hF
  refine q_acopy C Sm12 ⟨tw553, tw517, tw516, tw80⟩ hl.1 k13 k14 h15.1 h15.2.1 h15.2.2.1 h15.2.2.2.1 h15.2.2.2.2 (by decide) (by decide) em16 dX1_copy_69 (fun H locs Sm16 => ?_)
  refine q_aload_n C hl 1 rfl rfl dX1_copy_72 ?_
  obtain ⟨k17, hF⟩ := ck_ok hF
  refine q_getr C Sm16 4 fo_RX1_24 (j := 4) rfl rfl hx1 k17 (by decide) dX1_copy_73 ?_
  refine q_iconst C 0 dX1_copy_76 ?_
  refine q_aload_n C hl 0 rfl rfl dX1_copy_77 ?_
  obtain ⟨k18, hF⟩ := ck_ok hF
  refine q_getr C Sm16 4 fo_RX1_24 (j := 4) rfl rfl hx0 k18 (by decide) dX1_copy_78 ?_
  refine q_iconst C 0 dX1_copy_81 ?_
  refine q_aload_n C hl 0 rfl rfl dX1_copy_82 ?_
  refine q_getr C Sm16 4 fo_RX1_24 (j := 4) rfl rfl hx0 k18 (by decide) dX1_copy_83 ?_
  refine q_alen C Sm16 k18 (by decide) dX1_copy_86 ?_
  obtain ⟨h19, hF⟩ := ck_ok hF
  obtain ⟨m20, em20, hF⟩ := vm_ok hF
  refine q_acopy C Sm16 ⟨tw553, tw517, tw516, tw80⟩ hl.1 k17 k18 h19.1 h19.2.1 h19.2.2.1 h19.2.2.2.1 h19.2.2.2.2 (by decide) (by decide) em20 dX1_copy_87 (fun H locs Sm20 => ?_)
  refine q_aload_n C hl 1 rfl rfl dX1_copy_90 ?_
  obtain ⟨k21, hF⟩ := ck_ok hF
  refine q_getr C Sm20 5 fo_RX1_27 (j := 5) rfl rfl hx1 k21 (by decide) dX1_copy_91 ?_
  refine q_iconst C 0 dX1_copy_94 ?_
  refine q_aload_n C hl 0 rfl rfl dX1_copy_95 ?_
  obtain ⟨k22, hF⟩ := ck_ok hF
  refine q_getr C Sm20 5 fo_RX1_27 (j := 5) rfl rfl hx0 k22 (by decide) dX1_copy_96 ?_
  refine q_iconst C 0 dX1_copy_99 ?_
  refine q_aload_n C hl 0 rfl rfl dX1_copy_100 ?_
  refine q_getr C Sm20 5 fo_RX1_27 (j := 5) rfl rfl hx0 k22 (by decide) dX1_copy_101 ?_
  refine q_alen C Sm20 k22 (by decide) dX1_copy_104 ?_
  obtain ⟨h23, hF⟩ := ck_ok hF
  obtain ⟨m24, em24, hF⟩ := vm_ok hF
  refine q_acopy C Sm20 ⟨tw553, tw517, tw516, tw80⟩ hl.1 k21 k22 h23.1 h23.2.1 h23.2.2.1 h23.2.2.2.1 h23.2.2.2.2 (by decide) (by decide) em24 dX1_copy_105 (fun H locs Sm24 => ?_)
  refine q_aload_n C hl 1 rfl rfl dX1_copy_108 ?_
  obtain ⟨k25, hF⟩ := ck_ok hF
  refine q_getr C Sm24 6 fo_RX1_30 (j := 6) rfl rfl hx1 k25 (by decide) dX1_copy_109 ?_
  refine q_iconst C 0 dX1_copy_112 ?_
  refine q_aload_n C hl 0 rfl rfl dX1_copy_113 ?_
  obtain ⟨k26, hF⟩ := ck_ok hF
  refine q_getr C Sm24 6 fo_RX1_30 (j := 6) rfl rfl hx0 k26 (by decide) dX1_copy_114 ?_
  refine q_iconst C 0 dX1_copy_117 ?_
  refine q_aload_n C hl 0 rfl rfl dX1_copy_118 ?_
  refine q_getr C Sm24 6 fo_RX1_30 (j := 6) rfl rfl hx0 k26 (by decide) dX1_copy_119 ?_
  refine q_alen C Sm24 k26 (by decide) dX1_copy_122 ?_
  obtain ⟨h27, hF⟩ := ck_ok hF
  obtain ⟨m28, em28, hF⟩ := vm_ok hF
  refine q_acopy C Sm24 ⟨tw553, tw517, tw516, tw80⟩ hl.1 k25 k26 h27.1 h27.2.1 h27.2.2.1 h27.2.2.2.1 h27.2.2.2.2 (by decide) (by decide) em28 dX1_copy_123 (fun H locs Sm28 => ?_)
  refine q_aload_n C hl 0 rfl rfl dX1_copy_126 ?_
  refine q_aload_n C hl 1 rfl rfl dX1_copy_127 ?_
  refine q_geti C Sm28 7 fo_RX1_56 (j := 7) rfl rfl hx1 dX1_copy_128 ?_
  obtain ⟨m29, em29, hF⟩ := vm_ok hF
  refine q_put C Sm28 7 fo_RX1_56 fp_2_7 (fun h9 => absurd h9 (by decide)) (j := 7) rfl hx0 rfl rfl rfl (Sm28.r _ _) (fun h9 => absurd h9 (by decide)) em29 dX1_copy_131 (fun H locs Sm29 => ?_)
  refine q_aload_n C hl 0 rfl rfl dX1_copy_134 ?_
  refine q_aload_n C hl 1 rfl rfl dX1_copy_135 ?_
  refine q_geti C Sm29 8 fo_RX1_57 (j := 8) rfl rfl hx1 dX1_copy_136 ?_
  obtain ⟨m30, em30, hF⟩ := vm_ok hF
  refine q_put C Sm29 8 fo_RX1_57 fp_2_8 (fun h9 => absurd h9 (by decide)) (j := 8) rfl hx0 rfl rfl rfl (Sm29.r _ _) (fun h9 => absurd h9 (by decide)) em30 dX1_copy_139 (fun H locs Sm30 => ?_)
  refine q_aload_n C hl 0 rfl rfl dX1_copy_142 ?_
  refine q_aload_n C hl 1 rfl rfl dX1_copy_143 ?_
  refine q_geti C Sm30 9 fo_RX1_60 (j := 9) rfl rfl hx1 dX1_copy_144 ?_
  obtain ⟨m31, em31, hF⟩ := vm_ok hF
  refine q_put C Sm30 9 fo_RX1_60 fp_2_9 (fun h9 => absurd h9 (by decide)) (j := 9) rfl hx0 rfl rfl rfl (Sm30.r _ _) (fun h9 => absurd h9 (by decide)) em31 dX1_copy_147 (fun H locs Sm31 => ?_)
  cases hF
  exact Kr _ _ _ _ Sm31 dX1_copy_150
theorem cX1_copy_ok (l : Launch) (G : Gl) {g : Shp} {x0 x1 : Int} {m m' : Mem} {r : Int} (hx0 : gk g x0 = 2) (hx1 : gk g x1 = 2) (hF : fX1_copy g x0 x1 m = some (r, m')) : mV l yX1_copy (wT yX1_copy cX1_copy 2 none) rX1_copy G (fun ad => [.ref (ad x0), .ref (ad x1)]) g m m' :=
  met_v (by decide) (fun ad => Nat.le_of_ble_eq_true rfl) (fun p e s mt args below meth c Q A H0 H locs ad ls C hnm S hl Kr => wX1_copy_0 C S hx0 hx1 hl hF Kr)
set_option maxRecDepth 20000 in
theorem wX1_isCovered_16 {p : Program} {l : Launch} {e : Env} {s : State} {mt : MethodId} {args : Array Value} {below : List Frame} {meth : Method} {c : Code} {Q : State → Prop} {G : Gl} {A : Nat → Prop} {H0 : Heap} {ad : Int → Nat} {g : Shp} {H : Heap} {locs : List Loc} {ls : Array Slot} {m : Mem} {z0 : Int} (C : CallFix p mt c cX1_isCovered 2 s args tb RX1) (S : Wd G A s H0 ad g m H locs) (hz0 : r32 z0) (hl : lv_has ls 2 []) {r : Int} {m' : Mem} (hF : bX1_isCovered_16 g z0 m = some (r, m')) (Kr : ∀ (H : Heap) (locs : List Loc) (pc : Nat) (ls : Array Slot), Wd G A s H0 ad g m' H locs → decode cX1_isCovered pc = .ok (.ireturn, 1) → r32 r ∧ (true = true → r = 0 ∨ r = 1) → narrow .boolean (.int (iI r)) = .int (iI r) → W p l e rX1_isCovered s mt args below meth c H locs 0 0 Q (F0 mt pc ls [.int (iI r)])) : W p l e rX1_isCovered s mt args below meth c H locs 0 0 Q (F0 mt 16 ls [.int (iI z0)]) := by
  unfold bX1_isCovered_16 at hF
  obtain ⟨b1, hF⟩ := ck_ok hF
  cases hF
  exact Kr _ _ _ _ S dX1_isCovered_16 ⟨r_b b1, fun _ => b1⟩ (nr_b b1)
set_option maxRecDepth 20000 in
theorem wX1_isCovered_0 {p : Program} {l : Launch} {e : Env} {s : State} {mt : MethodId} {args : Array Value} {below : List Frame} {meth : Method} {c : Code} {Q : State → Prop} {G : Gl} {A : Nat → Prop} {H0 : Heap} {ad : Int → Nat} {g : Shp} {H : Heap} {locs : List Loc} {ls : Array Slot} {m : Mem} {x0 x1 : Int} (C : CallFix p mt c cX1_isCovered 2 s args tb RX1) (S : Wd G A s H0 ad g m H locs) (hx0 : gk g x0 = 2) (hx1 : r32 x1) (hl : lv_has ls 2 [(0, .ref (ad x0)), (1, .int (iI x1))]) {r : Int} {m' : Mem} (hF : bX1_isCovered_0 g x0 x1 m = some (r, m')) (Kr : ∀ (H : Heap) (locs : List Loc) (pc : Nat) (ls : Array Slot), Wd G A s H0 ad g m' H locs → decode cX1_isCovered pc = .ok (.ireturn, 1) → r32 r ∧ (true = true → r = 0 ∨ r = 1) → narrow .boolean (.int (iI r)) = .int (iI r) → W p l e rX1_isCovered s mt args below meth c H locs 0 0 Q (F0 mt pc ls [.int (iI r)])) : W p l e rX1_isCovered s mt args below meth c H locs 0 0 Q (F0 mt 0 ls []) := by
  unfold bX1_isCovered_0 at hF
  refine q_aload_n C hl 0 rfl rfl dX1_isCovered_0 ?_
  obtain ⟨k1, hF⟩ := ck_ok hF
  refine q_getr C S 2 fo_RX1_18 (j := 2) rfl rfl hx0 k1 (by decide) dX1_isCovered_1 ?_
  refine q_iload_n C hl 1 rfl rfl dX1_isCovered_4 ?_
  obtain ⟨i2, hF⟩ := ck_ok hF
  refine q_iald C S k1 i2 dX1_isCovered_5 ?_
  refine q_bipush C (-4) (by decide) dX1_isCovered_6 ?_
  refine q_icmp_eq C (S.r _ _) (rl (-4) rfl) 15 dX1_isCovered_8 (by decide) (fun hc3 => ?_) (fun hc3 => ?_)
  · have hF := if_t hc3 hF
    refine q_iconst C 0 dX1_isCovered_15 ?_
    exact wX1_isCovered_16 C S (rl 0 rfl) (lv_sub hl [] rfl) hF Kr
  · have hF := if_f hc3 hF
    refine q_iconst C 1 dX1_isCovered_11 ?_
    refine q_goto C 16 dX1_isCovered_12 (by decide) ?_
    exact wX1_isCovered_16 C S (rl 1 rfl) (lv_sub hl [] rfl) hF Kr
theorem cX1_isCovered_ok (l : Launch) (G : Gl) {g : Shp} {x0 x1 : Int} {m m' : Mem} {r : Int} (hx0 : gk g x0 = 2) (hx1 : r32 x1) (hF : fX1_isCovered g x0 x1 m = some (r, m')) : mI l yX1_isCovered (wT yX1_isCovered cX1_isCovered 2 (some .boolean)) rX1_isCovered G true (fun ad => [.ref (ad x0), .int (iI x1)]) g m r m' :=
  met_i (by decide) (fun ad => Nat.le_of_ble_eq_true rfl) (fun p e s mt args below meth c Q A H0 H locs ad ls C hnm S hl Kr => wX1_isCovered_0 C S hx0 hx1 hl hF Kr)
set_option maxRecDepth 20000 in
theorem wX1_cellsOf_33 {p : Program} {l : Launch} {e : Env} {s : State} {mt : MethodId} {args : Array Value} {below : List Frame} {meth : Method} {c : Code} {Q : State → Prop} {G : Gl} {A : Nat → Prop} {H0 : Heap} {ad : Int → Nat} {g : Shp} {H : Heap} {locs : List Loc} {ls : Array Slot} {m : Mem} {x0 x1 x2 x3 x4 : Int} (C : CallFix p mt c cX1_cellsOf 5 s args tb RX1) (S : Wd G A s H0 ad g m H locs) (hx0 : gk g x0 = 2) (hx1 : r32 x1) (hx2 : gk g x2 = 6) (hx3 : r32 x3) (hx4 : r32 x4) (hl : lv_has ls 5 [(0, .ref (ad x0)), (1, .int (iI x1)), (2, .ref (ad x2)), (3, .int (iI x3)), (4, .int (iI x4))]) {c1 : Int} {s1 : (Int × Int × Mem)} (hF : bX1_cellsOf_33 g x0 x1 x2 x3 x4 m = some (c1, s1)) (K0 : c1 = 0 → ∀ (H : Heap) (locs : List Loc) (ls : Array Slot), r32 s1.1 → r32 s1.2.1 → Wd G A s H0 ad g s1.2.2 H locs → lv_has ls 5 [(0, .ref (ad x0)), (1, .int (iI x1)), (2, .ref (ad x2)), (3, .int (iI s1.1)), (4, .int (iI s1.2.1))] → W p l e rX1_cellsOf s mt args below meth c H locs 0 0 Q (F0 mt 5 ls [])) (K1 : c1 = 1 → ∀ (H : Heap) (locs : List Loc) (ls : Array Slot), r32 s1.1 → Wd G A s H0 ad g s1.2.2 H locs → lv_has ls 5 [(3, .int (iI s1.1))] → W p l e rX1_cellsOf s mt args below meth c H locs 0 0 Q (F0 mt 39 ls [])) : W p l e rX1_cellsOf s mt args below meth c H locs 0 0 Q (F0 mt 33 ls []) := by
  unfold bX1_cellsOf_33 at hF
  obtain ⟨y1, ey1, hF⟩ := vv_ok hF
  have ry1 : r32 y1 := ey1 ▸ r32_w _
  refine q_iinc C hl 4 [(4, .int (iI y1)), (0, .ref (ad x0)), (1, .int (iI x1)), (2, .ref (ad x2)), (3, .int (iI x3))] rfl ey1 (by decide) rfl dX1_cellsOf_33 (fun ls hl => ?_)
  refine q_goto C 5 dX1_cellsOf_36 (by decide) ?_
  cases hF
  exact K0 rfl _ _ _ hx3 ry1 S (lv_sub hl [1, 2, 3, 4, 0] rfl)
set_option maxRecDepth 20000 in
theorem wX1_cellsOf_5 {p : Program} {l : Launch} {e : Env} {s : State} {mt : MethodId} {args : Array Value} {below : List Frame} {meth : Method} {c : Code} {Q : State → Prop} {G : Gl} {A : Nat → Prop} {H0 : Heap} {ad : Int → Nat} {g : Shp} {H : Heap} {locs : List Loc} {ls : Array Slot} {m : Mem} {x0 x1 x2 x3 x4 : Int} (C : CallFix p mt c cX1_cellsOf 5 s args tb RX1) (S : Wd G A s H0 ad g m H locs) (hx0 : gk g x0 = 2) (hx1 : r32 x1) (hx2 : gk g x2 = 6) (hx3 : r32 x3) (hx4 : r32 x4) (hl : lv_has ls 5 [(0, .ref (ad x0)), (1, .int (iI x1)), (2, .ref (ad x2)), (3, .int (iI x3)), (4, .int (iI x4))]) {c1 : Int} {s1 : (Int × Int × Mem)} (hF : bX1_cellsOf_5 g x0 x1 x2 x3 x4 m = some (c1, s1)) (K0 : c1 = 0 → ∀ (H : Heap) (locs : List Loc) (ls : Array Slot), r32 s1.1 → r32 s1.2.1 → Wd G A s H0 ad g s1.2.2 H locs → lv_has ls 5 [(0, .ref (ad x0)), (1, .int (iI x1)), (2, .ref (ad x2)), (3, .int (iI s1.1)), (4, .int (iI s1.2.1))] → W p l e rX1_cellsOf s mt args below meth c H locs 0 0 Q (F0 mt 5 ls [])) (K1 : c1 = 1 → ∀ (H : Heap) (locs : List Loc) (ls : Array Slot), r32 s1.1 → Wd G A s H0 ad g s1.2.2 H locs → lv_has ls 5 [(3, .int (iI s1.1))] → W p l e rX1_cellsOf s mt args below meth c H locs 0 0 Q (F0 mt 39 ls [])) : W p l e rX1_cellsOf s mt args below meth c H locs 0 0 Q (F0 mt 5 ls []) := by
  unfold bX1_cellsOf_5 at hF
  refine q_iload C hl 4 rfl dX1_cellsOf_5 ?_
  refine q_aload_n C hl 2 rfl rfl dX1_cellsOf_7 ?_
  refine q_geti C S 2 fo_RX1_63 (j := 2) rfl rfl hx2 dX1_cellsOf_8 ?_
  refine q_icmp_ge C hx4 (S.r _ _) 39 dX1_cellsOf_11 (by decide) (fun hc1 => ?_) (fun hc1 => ?_)
  · have hF := if_t hc1 hF
    cases hF
    exact K1 rfl _ _ _ hx3 S (lv_sub hl [3] rfl)
  · have hF := if_f hc1 hF
    refine q_aload_n C hl 0 rfl rfl dX1_cellsOf_14 ?_
    obtain ⟨k2, hF⟩ := ck_ok hF
    refine q_getr C S 0 fo_RX1_9 (j := 0) rfl rfl hx0 k2 (by decide) dX1_cellsOf_15 ?_
    refine q_aload_n C hl 2 rfl rfl dX1_cellsOf_18 ?_
    obtain ⟨k3, hF⟩ := ck_ok hF
    refine q_getr C S 0 fo_RX1_68 (j := 0) rfl rfl hx2 k3 (by decide) dX1_cellsOf_19 ?_
    refine q_iload C hl 4 rfl dX1_cellsOf_22 ?_
    obtain ⟨i4, hF⟩ := ck_ok hF
    refine q_iald C S k3 i4 dX1_cellsOf_24 ?_
    obtain ⟨i5, hF⟩ := ck_ok hF
    refine q_iald C S k2 i5 dX1_cellsOf_25 ?_
    refine q_iload_n C hl 1 rfl rfl dX1_cellsOf_26 ?_
    refine q_icmp_ne C (S.r _ _) hx1 33 dX1_cellsOf_27 (by decide) (fun hc6 => ?_) (fun hc6 => ?_)
    · have hF := if_t hc6 hF
      obtain ⟨y7, ey7, hF⟩ := vv_ok hF
      have ry7 : r32 y7 := ey7 ▸ r32_w _
      refine q_iinc C hl 3 [(3, .int (iI y7)), (0, .ref (ad x0)), (1, .int (iI x1)), (2, .ref (ad x2)), (4, .int (iI x4))] rfl ey7 (by decide) rfl dX1_cellsOf_30 (fun ls hl => ?_)
      exact wX1_cellsOf_33 C S hx0 hx1 hx2 ry7 hx4 (lv_sub hl [1, 2, 3, 0, 4] rfl) hF K0 K1
    · have hF := if_f hc6 hF
      exact wX1_cellsOf_33 C S hx0 hx1 hx2 hx3 hx4 (lv_sub hl [0, 1, 2, 3, 4] rfl) hF K0 K1
set_option maxRecDepth 20000 in
theorem lX1_cellsOf_5 {p : Program} {l : Launch} {e : Env} {s : State} {mt : MethodId} {args : Array Value} {below : List Frame} {meth : Method} {c : Code} {Q : State → Prop} {G : Gl} {A : Nat → Prop} {H0 : Heap} {ad : Int → Nat} {g : Shp} {x0 x1 x2 : Int} (C : CallFix p mt c cX1_cellsOf 5 s args tb RX1) (hx0 : gk g x0 = 2) (hx1 : r32 x1) (hx2 : gk g x2 = 6) {n : Nat} {s0 s1 : (Int × Int × Mem)} {c1 : Int} (hI : iter (BX1_cellsOf_5 g x0 x1 x2) n s0 = some (c1, s1)) (K1 : c1 = 1 → ∀ (H : Heap) (locs : List Loc) (ls : Array Slot), r32 s1.1 → Wd G A s H0 ad g s1.2.2 H locs → lv_has ls 5 [(3, .int (iI s1.1))] → W p l e rX1_cellsOf s mt args below meth c H locs 0 0 Q (F0 mt 39 ls [])) : ∀ (H : Heap) (locs : List Loc) (ls : Array Slot), r32 s0.1 → r32 s0.2.1 → Wd G A s H0 ad g s0.2.2 H locs → lv_has ls 5 [(0, .ref (ad x0)), (1, .int (iI x1)), (2, .ref (ad x2)), (3, .int (iI s0.1)), (4, .int (iI s0.2.1))] → W p l e rX1_cellsOf s mt args below meth c H locs 0 0 Q (F0 mt 5 ls []) :=
  iter_W (Pw := fun q => ∀ (H : Heap) (locs : List Loc) (ls : Array Slot), r32 q.1 → r32 q.2.1 → Wd G A s H0 ad g q.2.2 H locs → lv_has ls 5 [(0, .ref (ad x0)), (1, .int (iI x1)), (2, .ref (ad x2)), (3, .int (iI q.1)), (4, .int (iI q.2.1))] → W p l e rX1_cellsOf s mt args below meth c H locs 0 0 Q (F0 mt 5 ls [])) (Px := fun c0 q => (c0 = 1 → ∀ (H : Heap) (locs : List Loc) (ls : Array Slot), r32 q.1 → Wd G A s H0 ad g q.2.2 H locs → lv_has ls 5 [(3, .int (iI q.1))] → W p l e rX1_cellsOf s mt args below meth c H locs 0 0 Q (F0 mt 39 ls [])))
    (fun s c s' hB K0 kx H locs ls f0 f1 S hl => wX1_cellsOf_5 C S hx0 hx1 hx2 f0 f1 hl hB K0 (fun h9 => (kx (by rw [h9]; decide)) h9)) _ _ _ _ hI K1
set_option maxRecDepth 20000 in
theorem wX1_cellsOf_39 {p : Program} {l : Launch} {e : Env} {s : State} {mt : MethodId} {args : Array Value} {below : List Frame} {meth : Method} {c : Code} {Q : State → Prop} {G : Gl} {A : Nat → Prop} {H0 : Heap} {ad : Int → Nat} {g : Shp} {H : Heap} {locs : List Loc} {ls : Array Slot} {m : Mem} {x3 : Int} (C : CallFix p mt c cX1_cellsOf 5 s args tb RX1) (S : Wd G A s H0 ad g m H locs) (hx3 : r32 x3) (hl : lv_has ls 5 [(3, .int (iI x3))]) {r : Int} {m' : Mem} (hF : bX1_cellsOf_39 g x3 m = some (r, m')) (Kr : ∀ (H : Heap) (locs : List Loc) (pc : Nat) (ls : Array Slot), Wd G A s H0 ad g m' H locs → decode cX1_cellsOf pc = .ok (.ireturn, 1) → r32 r ∧ (false = true → r = 0 ∨ r = 1) → narrow .int (.int (iI r)) = .int (iI r) → W p l e rX1_cellsOf s mt args below meth c H locs 0 0 Q (F0 mt pc ls [.int (iI r)])) : W p l e rX1_cellsOf s mt args below meth c H locs 0 0 Q (F0 mt 39 ls []) := by
  unfold bX1_cellsOf_39 at hF
  refine q_iload_n C hl 0 rfl rfl dX1_cellsOf_39 ?_
  cases hF
  exact Kr _ _ _ _ S dX1_cellsOf_40 ⟨hx3, fun h9 => absurd h9 (by decide)⟩ rfl
set_option maxRecDepth 20000 in
theorem wX1_cellsOf_0 {p : Program} {l : Launch} {e : Env} {s : State} {mt : MethodId} {args : Array Value} {below : List Frame} {meth : Method} {c : Code} {Q : State → Prop} {G : Gl} {A : Nat → Prop} {H0 : Heap} {ad : Int → Nat} {g : Shp} {H : Heap} {locs : List Loc} {ls : Array Slot} {m : Mem} {x0 x1 x2 : Int} (C : CallFix p mt c cX1_cellsOf 5 s args tb RX1) (S : Wd G A s H0 ad g m H locs) (hx0 : gk g x0 = 2) (hx1 : r32 x1) (hx2 : gk g x2 = 6) (hl : lv_has ls 5 [(0, .ref (ad x0)), (1, .int (iI x1)), (2, .ref (ad x2))]) {r : Int} {m' : Mem} (hF : bX1_cellsOf_0 g x0 x1 x2 m = some (r, m')) (Kr : ∀ (H : Heap) (locs : List Loc) (pc : Nat) (ls : Array Slot), Wd G A s H0 ad g m' H locs → decode cX1_cellsOf pc = .ok (.ireturn, 1) → r32 r ∧ (false = true → r = 0 ∨ r = 1) → narrow .int (.int (iI r)) = .int (iI r) → W p l e rX1_cellsOf s mt args below meth c H locs 0 0 Q (F0 mt pc ls [.int (iI r)])) : W p l e rX1_cellsOf s mt args below meth c H locs 0 0 Q (F0 mt 0 ls []) := by
  unfold bX1_cellsOf_0 at hF
  refine q_iconst C 0 dX1_cellsOf_0 ?_
  refine q_istore_n C hl [(3, .int (iI 0)), (0, .ref (ad x0)), (1, .int (iI x1)), (2, .ref (ad x2))] rfl rfl (by decide) rfl dX1_cellsOf_1 (fun ls hl => ?_)
  refine q_iconst C 0 dX1_cellsOf_2 ?_
  refine q_istore C hl [(4, .int (iI 0)), (3, .int (iI 0)), (0, .ref (ad x0)), (1, .int (iI x1)), (2, .ref (ad x2))] rfl (by decide) rfl dX1_cellsOf_3 (fun ls hl => ?_)
  obtain ⟨cv1, sv2, hi3, hF⟩ := bdl_ok hF
  refine lX1_cellsOf_5 C hx0 hx1 hx2 hi3 ?_ _ _ _ (rl 0 rfl) (rl 0 rfl) S (lv_sub hl [2, 3, 4, 1, 0] rfl)
  intro _ H locs ls f5 S4 hl
  exact wX1_cellsOf_39 C S4 f5 (lv_sub hl [0] rfl) hF Kr
theorem cX1_cellsOf_ok (l : Launch) (G : Gl) {g : Shp} {x0 x1 x2 : Int} {m m' : Mem} {r : Int} (hx0 : gk g x0 = 2) (hx1 : r32 x1) (hx2 : gk g x2 = 6) (hF : fX1_cellsOf g x0 x1 x2 m = some (r, m')) : mI l yX1_cellsOf (wT yX1_cellsOf cX1_cellsOf 5 (some .int)) rX1_cellsOf G false (fun ad => [.ref (ad x0), .int (iI x1), .ref (ad x2)]) g m r m' :=
  met_i (by decide) (fun ad => Nat.le_of_ble_eq_true rfl) (fun p e s mt args below meth c Q A H0 H locs ad ls C hnm S hl Kr => wX1_cellsOf_0 C S hx0 hx1 hx2 hl hF Kr)
set_option maxRecDepth 20000 in
theorem wX1_missingIn_4 {p : Program} {l : Launch} {e : Env} {s : State} {mt : MethodId} {args : Array Value} {below : List Frame} {meth : Method} {c : Code} {Q : State → Prop} {G : Gl} {A : Nat → Prop} {H0 : Heap} {ad : Int → Nat} {g : Shp} {H : Heap} {locs : List Loc} {ls : Array Slot} {m : Mem} {x0 x1 x2 x3 : Int} (C : CallFix p mt c cX1_missingIn 4 s args tb RX1) (S : Wd G A s H0 ad g m H locs) (hx0 : gk g x0 = 2) (hx1 : r32 x1) (hx2 : r32 x2) (hx3 : r32 x3) (hl : lv_has ls 4 [(0, .ref (ad x0)), (1, .int (iI x1)), (2, .int (iI x2)), (3, .int (iI x3))]) {c1 : Int} {s1 : (Int × Int × Mem)} (hF : bX1_missingIn_4 g x0 x1 x2 x3 m = some (c1, s1)) (K0 : c1 = 0 → ∀ (H : Heap) (locs : List Loc) (ls : Array Slot), r32 s1.1 → r32 s1.2.1 → Wd G A s H0 ad g s1.2.2 H locs → lv_has ls 4 [(0, .ref (ad x0)), (1, .int (iI x1)), (2, .int (iI s1.1)), (3, .int (iI s1.2.1))] → W p l e rX1_missingIn s mt args below meth c H locs 0 0 Q (F0 mt 4 ls [])) (K1 : c1 = 1 → ∀ (H : Heap) (locs : List Loc) (ls : Array Slot), r32 s1.1 → Wd G A s H0 ad g s1.2.2 H locs → lv_has ls 4 [(2, .int (iI s1.1))] → W p l e rX1_missingIn s mt args below meth c H locs 0 0 Q (F0 mt 31 ls [])) : W p l e rX1_missingIn s mt args below meth c H locs 0 0 Q (F0 mt 4 ls []) := by
  unfold bX1_missingIn_4 at hF
  refine q_iload_n C hl 3 rfl rfl dX1_missingIn_4 ?_
  refine q_iconst C 3 dX1_missingIn_5 ?_
  refine q_icmp_ge C hx3 (rl 3 rfl) 31 dX1_missingIn_6 (by decide) (fun hc1 => ?_) (fun hc1 => ?_)
  · have hF := if_t hc1 hF
    cases hF
    exact K1 rfl _ _ _ hx2 S (lv_sub hl [2] rfl)
  · have hF := if_f hc1 hF
    refine q_iload_n C hl 2 rfl rfl dX1_missingIn_9 ?_
    refine q_bipush C 6 (by decide) dX1_missingIn_10 ?_
    refine q_aload_n C hl 0 rfl rfl dX1_missingIn_12 ?_
    obtain ⟨k2, hF⟩ := ck_ok hF
    refine q_getr C S 1 fo_RX1_15 (j := 1) rfl rfl hx0 k2 (by decide) dX1_missingIn_13 ?_
    refine q_iload_n C hl 1 rfl rfl dX1_missingIn_16 ?_
    refine q_iconst C 3 dX1_missingIn_17 ?_
    refine q_imul C dX1_missingIn_18 ?_
    refine q_iload_n C hl 3 rfl rfl dX1_missingIn_19 ?_
    refine q_iadd C dX1_missingIn_20 ?_
    obtain ⟨i3, hF⟩ := ck_ok hF
    refine q_iald C S k2 i3 dX1_missingIn_21 ?_
    refine q_isub C dX1_missingIn_22 ?_
    refine q_iadd C dX1_missingIn_23 ?_
    obtain ⟨y4, ey4, hF⟩ := vv_ok hF
    have ry4 : r32 y4 := ey4 ▸ (r32_w _)
    refine q_istore_n C hl [(2, .int (iI y4)), (0, .ref (ad x0)), (1, .int (iI x1)), (3, .int (iI x3))] ey4 rfl (by decide) rfl dX1_missingIn_24 (fun ls hl => ?_)
    obtain ⟨y5, ey5, hF⟩ := vv_ok hF
    have ry5 : r32 y5 := ey5 ▸ r32_w _
    refine q_iinc C hl 3 [(3, .int (iI y5)), (2, .int (iI y4)), (0, .ref (ad x0)), (1, .int (iI x1))] rfl ey5 (by decide) rfl dX1_missingIn_25 (fun ls hl => ?_)
    refine q_goto C 4 dX1_missingIn_28 (by decide) ?_
    cases hF
    exact K0 rfl _ _ _ ry4 ry5 S (lv_sub hl [2, 3, 1, 0] rfl)
set_option maxRecDepth 20000 in
theorem lX1_missingIn_4 {p : Program} {l : Launch} {e : Env} {s : State} {mt : MethodId} {args : Array Value} {below : List Frame} {meth : Method} {c : Code} {Q : State → Prop} {G : Gl} {A : Nat → Prop} {H0 : Heap} {ad : Int → Nat} {g : Shp} {x0 x1 : Int} (C : CallFix p mt c cX1_missingIn 4 s args tb RX1) (hx0 : gk g x0 = 2) (hx1 : r32 x1) {n : Nat} {s0 s1 : (Int × Int × Mem)} {c1 : Int} (hI : iter (BX1_missingIn_4 g x0 x1) n s0 = some (c1, s1)) (K1 : c1 = 1 → ∀ (H : Heap) (locs : List Loc) (ls : Array Slot), r32 s1.1 → Wd G A s H0 ad g s1.2.2 H locs → lv_has ls 4 [(2, .int (iI s1.1))] → W p l e rX1_missingIn s mt args below meth c H locs 0 0 Q (F0 mt 31 ls [])) : ∀ (H : Heap) (locs : List Loc) (ls : Array Slot), r32 s0.1 → r32 s0.2.1 → Wd G A s H0 ad g s0.2.2 H locs → lv_has ls 4 [(0, .ref (ad x0)), (1, .int (iI x1)), (2, .int (iI s0.1)), (3, .int (iI s0.2.1))] → W p l e rX1_missingIn s mt args below meth c H locs 0 0 Q (F0 mt 4 ls []) :=
  iter_W (Pw := fun q => ∀ (H : Heap) (locs : List Loc) (ls : Array Slot), r32 q.1 → r32 q.2.1 → Wd G A s H0 ad g q.2.2 H locs → lv_has ls 4 [(0, .ref (ad x0)), (1, .int (iI x1)), (2, .int (iI q.1)), (3, .int (iI q.2.1))] → W p l e rX1_missingIn s mt args below meth c H locs 0 0 Q (F0 mt 4 ls [])) (Px := fun c0 q => (c0 = 1 → ∀ (H : Heap) (locs : List Loc) (ls : Array Slot), r32 q.1 → Wd G A s H0 ad g q.2.2 H locs → lv_has ls 4 [(2, .int (iI q.1))] → W p l e rX1_missingIn s mt args below meth c H locs 0 0 Q (F0 mt 31 ls [])))
    (fun s c s' hB K0 kx H locs ls f0 f1 S hl => wX1_missingIn_4 C S hx0 hx1 f0 f1 hl hB K0 (fun h9 => (kx (by rw [h9]; decide)) h9)) _ _ _ _ hI K1
set_option maxRecDepth 20000 in
theorem wX1_missingIn_31 {p : Program} {l : Launch} {e : Env} {s : State} {mt : MethodId} {args : Array Value} {below : List Frame} {meth : Method} {c : Code} {Q : State → Prop} {G : Gl} {A : Nat → Prop} {H0 : Heap} {ad : Int → Nat} {g : Shp} {H : Heap} {locs : List Loc} {ls : Array Slot} {m : Mem} {x2 : Int} (C : CallFix p mt c cX1_missingIn 4 s args tb RX1) (S : Wd G A s H0 ad g m H locs) (hx2 : r32 x2) (hl : lv_has ls 4 [(2, .int (iI x2))]) {r : Int} {m' : Mem} (hF : bX1_missingIn_31 g x2 m = some (r, m')) (Kr : ∀ (H : Heap) (locs : List Loc) (pc : Nat) (ls : Array Slot), Wd G A s H0 ad g m' H locs → decode cX1_missingIn pc = .ok (.ireturn, 1) → r32 r ∧ (false = true → r = 0 ∨ r = 1) → narrow .int (.int (iI r)) = .int (iI r) → W p l e rX1_missingIn s mt args below meth c H locs 0 0 Q (F0 mt pc ls [.int (iI r)])) : W p l e rX1_missingIn s mt args below meth c H locs 0 0 Q (F0 mt 31 ls []) := by
  unfold bX1_missingIn_31 at hF
  refine q_iload_n C hl 0 rfl rfl dX1_missingIn_31 ?_
  cases hF
  exact Kr _ _ _ _ S dX1_missingIn_32 ⟨hx2, fun h9 => absurd h9 (by decide)⟩ rfl
set_option maxRecDepth 20000 in
theorem wX1_missingIn_0 {p : Program} {l : Launch} {e : Env} {s : State} {mt : MethodId} {args : Array Value} {below : List Frame} {meth : Method} {c : Code} {Q : State → Prop} {G : Gl} {A : Nat → Prop} {H0 : Heap} {ad : Int → Nat} {g : Shp} {H : Heap} {locs : List Loc} {ls : Array Slot} {m : Mem} {x0 x1 : Int} (C : CallFix p mt c cX1_missingIn 4 s args tb RX1) (S : Wd G A s H0 ad g m H locs) (hx0 : gk g x0 = 2) (hx1 : r32 x1) (hl : lv_has ls 4 [(0, .ref (ad x0)), (1, .int (iI x1))]) {r : Int} {m' : Mem} (hF : bX1_missingIn_0 g x0 x1 m = some (r, m')) (Kr : ∀ (H : Heap) (locs : List Loc) (pc : Nat) (ls : Array Slot), Wd G A s H0 ad g m' H locs → decode cX1_missingIn pc = .ok (.ireturn, 1) → r32 r ∧ (false = true → r = 0 ∨ r = 1) → narrow .int (.int (iI r)) = .int (iI r) → W p l e rX1_missingIn s mt args below meth c H locs 0 0 Q (F0 mt pc ls [.int (iI r)])) : W p l e rX1_missingIn s mt args below meth c H locs 0 0 Q (F0 mt 0 ls []) := by
  unfold bX1_missingIn_0 at hF
  refine q_iconst C 0 dX1_missingIn_0 ?_
  refine q_istore_n C hl [(2, .int (iI 0)), (0, .ref (ad x0)), (1, .int (iI x1))] rfl rfl (by decide) rfl dX1_missingIn_1 (fun ls hl => ?_)
  refine q_iconst C 0 dX1_missingIn_2 ?_
  refine q_istore_n C hl [(3, .int (iI 0)), (2, .int (iI 0)), (0, .ref (ad x0)), (1, .int (iI x1))] rfl rfl (by decide) rfl dX1_missingIn_3 (fun ls hl => ?_)
  obtain ⟨cv1, sv2, hi3, hF⟩ := bdl_ok hF
  refine lX1_missingIn_4 C hx0 hx1 hi3 ?_ _ _ _ (rl 0 rfl) (rl 0 rfl) S (lv_sub hl [2, 3, 1, 0] rfl)
  intro _ H locs ls f5 S4 hl
  exact wX1_missingIn_31 C S4 f5 (lv_sub hl [0] rfl) hF Kr
theorem cX1_missingIn_ok (l : Launch) (G : Gl) {g : Shp} {x0 x1 : Int} {m m' : Mem} {r : Int} (hx0 : gk g x0 = 2) (hx1 : r32 x1) (hF : fX1_missingIn g x0 x1 m = some (r, m')) : mI l yX1_missingIn (wT yX1_missingIn cX1_missingIn 4 (some .int)) rX1_missingIn G false (fun ad => [.ref (ad x0), .int (iI x1)]) g m r m' :=
  met_i (by decide) (fun ad => Nat.le_of_ble_eq_true rfl) (fun p e s mt args below meth c Q A H0 H locs ad ls C hnm S hl Kr => wX1_missingIn_0 C S hx0 hx1 hl hF Kr)
set_option maxRecDepth 20000 in
theorem wX1_handOver_41 {p : Program} {l : Launch} {e : Env} {s : State} {mt : MethodId} {args : Array Value} {below : List Frame} {meth : Method} {c : Code} {Q : State → Prop} {G : Gl} {A : Nat → Prop} {H0 : Heap} {ad : Int → Nat} {g : Shp} {H : Heap} {locs : List Loc} {ls : Array Slot} {m : Mem} {x0 x1 x2 x3 x4 : Int} (C : CallFix p mt c cX1_handOver 5 s args tb RX1) (S : Wd G A s H0 ad g m H locs) (hx0 : gk g x0 = 2) (hx1 : gk g x1 = 6) (hx2 : r32 x2) (hx3 : r32 x3) (hx4 : r32 x4) (hl : lv_has ls 5 [(0, .ref (ad x0)), (1, .ref (ad x1)), (2, .int (iI x2)), (3, .int (iI x3)), (4, .int (iI x4))]) {c1 : Int} {s1 : (Int × Mem)} (hF : bX1_handOver_41 g x0 x1 x2 x3 x4 m = some (c1, s1)) (K0 : c1 = 0 → ∀ (H : Heap) (locs : List Loc) (ls : Array Slot), r32 s1.1 → Wd G A s H0 ad g s1.2 H locs → lv_has ls 5 [(0, .ref (ad x0)), (1, .ref (ad x1)), (2, .int (iI x2)), (3, .int (iI x3)), (4, .int (iI s1.1))] → W p l e rX1_handOver s mt args below meth c H locs 0 0 Q (F0 mt 3 ls [])) (K1 : c1 = 1 → ∀ (H : Heap) (locs : List Loc) (ls : Array Slot), Wd G A s H0 ad g s1.2 H locs → lv_has ls 5 [] → W p l e rX1_handOver s mt args below meth c H locs 0 0 Q (F0 mt 47 ls [])) : W p l e rX1_handOver s mt args below meth c H locs 0 0 Q (F0 mt 41 ls []) := by
  unfold bX1_handOver_41 at hF
  obtain ⟨y1, ey1, hF⟩ := vv_ok hF
  have ry1 : r32 y1 := ey1 ▸ r32_w _
  refine q_iinc C hl 4 [(4, .int (iI y1)), (0, .ref (ad x0)), (1, .ref (ad x1)), (2, .int (iI x2)), (3, .int (iI x3))] rfl ey1 (by decide) rfl dX1_handOver_41 (fun ls hl => ?_)
  refine q_goto C 3 dX1_handOver_44 (by decide) ?_
  cases hF
  exact K0 rfl _ _ _ ry1 S (lv_sub hl [1, 2, 3, 4, 0] rfl)
set_option maxRecDepth 20000 in
theorem wX1_handOver_3 {p : Program} {l : Launch} {e : Env} {s : State} {mt : MethodId} {args : Array Value} {below : List Frame} {meth : Method} {c : Code} {Q : State → Prop} {G : Gl} {A : Nat → Prop} {H0 : Heap} {ad : Int → Nat} {g : Shp} {H : Heap} {locs : List Loc} {ls : Array Slot} {m : Mem} {x0 x1 x2 x3 x4 : Int} (C : CallFix p mt c cX1_handOver 5 s args tb RX1) (S : Wd G A s H0 ad g m H locs) (hx0 : gk g x0 = 2) (hx1 : gk g x1 = 6) (hx2 : r32 x2) (hx3 : r32 x3) (hx4 : r32 x4) (hl : lv_has ls 5 [(0, .ref (ad x0)), (1, .ref (ad x1)), (2, .int (iI x2)), (3, .int (iI x3)), (4, .int (iI x4))]) {c1 : Int} {s1 : (Int × Mem)} (hF : bX1_handOver_3 g x0 x1 x2 x3 x4 m = some (c1, s1)) (K0 : c1 = 0 → ∀ (H : Heap) (locs : List Loc) (ls : Array Slot), r32 s1.1 → Wd G A s H0 ad g s1.2 H locs → lv_has ls 5 [(0, .ref (ad x0)), (1, .ref (ad x1)), (2, .int (iI x2)), (3, .int (iI x3)), (4, .int (iI s1.1))] → W p l e rX1_handOver s mt args below meth c H locs 0 0 Q (F0 mt 3 ls [])) (K1 : c1 = 1 → ∀ (H : Heap) (locs : List Loc) (ls : Array Slot), Wd G A s H0 ad g s1.2 H locs → lv_has ls 5 [] → W p l e rX1_handOver s mt args below meth c H locs 0 0 Q (F0 mt 47 ls [])) : W p l e rX1_handOver s mt args below meth c H locs 0 0 Q (F0 mt 3 ls []) := by
  unfold bX1_handOver_3 at hF
  refine q_iload C hl 4 rfl dX1_handOver_3 ?_
  refine q_aload_n C hl 1 rfl rfl dX1_handOver_5 ?_
  refine q_geti C S 2 fo_RX1_63 (j := 2) rfl rfl hx1 dX1_handOver_6 ?_
  refine q_icmp_ge C hx4 (S.r _ _) 47 dX1_handOver_9 (by decide) (fun hc1 => ?_) (fun hc1 => ?_)
  · have hF := if_t hc1 hF
    cases hF
    exact K1 rfl _ _ _  S (lv_sub hl [] rfl)
  · have hF := if_f hc1 hF
    refine q_aload_n C hl 0 rfl rfl dX1_handOver_12 ?_
    obtain ⟨k2, hF⟩ := ck_ok hF
    refine q_getr C S 0 fo_RX1_9 (j := 0) rfl rfl hx0 k2 (by decide) dX1_handOver_13 ?_
    refine q_aload_n C hl 1 rfl rfl dX1_handOver_16 ?_
    obtain ⟨k3, hF⟩ := ck_ok hF
    refine q_getr C S 0 fo_RX1_68 (j := 0) rfl rfl hx1 k3 (by decide) dX1_handOver_17 ?_
    refine q_iload C hl 4 rfl dX1_handOver_20 ?_
    obtain ⟨i4, hF⟩ := ck_ok hF
    refine q_iald C S k3 i4 dX1_handOver_22 ?_
    obtain ⟨i5, hF⟩ := ck_ok hF
    refine q_iald C S k2 i5 dX1_handOver_23 ?_
    refine q_iload_n C hl 2 rfl rfl dX1_handOver_24 ?_
    refine q_icmp_ne C (S.r _ _) hx2 41 dX1_handOver_25 (by decide) (fun hc6 => ?_) (fun hc6 => ?_)
    · have hF := if_t hc6 hF
      refine q_aload_n C hl 0 rfl rfl dX1_handOver_28 ?_
      refine q_getr C S 0 fo_RX1_9 (j := 0) rfl rfl hx0 k2 (by decide) dX1_handOver_29 ?_
      refine q_aload_n C hl 1 rfl rfl dX1_handOver_32 ?_
      refine q_getr C S 0 fo_RX1_68 (j := 0) rfl rfl hx1 k3 (by decide) dX1_handOver_33 ?_
      refine q_iload C hl 4 rfl dX1_handOver_36 ?_
      obtain ⟨i7, hF⟩ := ck_ok hF
      refine q_iald C S k3 i7 dX1_handOver_38 ?_
      refine q_iload_n C hl 3 rfl rfl dX1_handOver_39 ?_
      obtain ⟨i8, hF⟩ := ck_ok hF
      obtain ⟨m9, em9, hF⟩ := vm_ok hF
      refine q_iast C S k2 i8 hx3 em9 dX1_handOver_40 (fun H locs Sm9 => ?_)
      exact wX1_handOver_41 C Sm9 hx0 hx1 hx2 hx3 hx4 (lv_sub hl [0, 1, 2, 3, 4] rfl) hF K0 K1
    · have hF := if_f hc6 hF
      exact wX1_handOver_41 C S hx0 hx1 hx2 hx3 hx4 (lv_sub hl [0, 1, 2, 3, 4] rfl) hF K0 K1
set_option maxRecDepth 20000 in
theorem lX1_handOver_3 {p : Program} {l : Launch} {e : Env} {s : State} {mt : MethodId} {args : Array Value} {below : List Frame} {meth : Method} {c : Code} {Q : State → Prop} {G : Gl} {A : Nat → Prop} {H0 : Heap} {ad : Int → Nat} {g : Shp} {x0 x1 x2 x3 : Int} (C : CallFix p mt c cX1_handOver 5 s args tb RX1) (hx0 : gk g x0 = 2) (hx1 : gk g x1 = 6) (hx2 : r32 x2) (hx3 : r32 x3) {n : Nat} {s0 s1 : (Int × Mem)} {c1 : Int} (hI : iter (BX1_handOver_3 g x0 x1 x2 x3) n s0 = some (c1, s1)) (K1 : c1 = 1 → ∀ (H : Heap) (locs : List Loc) (ls : Array Slot), Wd G A s H0 ad g s1.2 H locs → lv_has ls 5 [] → W p l e rX1_handOver s mt args below meth c H locs 0 0 Q (F0 mt 47 ls [])) : ∀ (H : Heap) (locs : List Loc) (ls : Array Slot), r32 s0.1 → Wd G A s H0 ad g s0.2 H locs → lv_has ls 5 [(0, .ref (ad x0)), (1, .ref (ad x1)), (2, .int (iI x2)), (3, .int (iI x3)), (4, .int (iI s0.1))] → W p l e rX1_handOver s mt args below meth c H locs 0 0 Q (F0 mt 3 ls []) :=
  iter_W (Pw := fun q => ∀ (H : Heap) (locs : List Loc) (ls : Array Slot), r32 q.1 → Wd G A s H0 ad g q.2 H locs → lv_has ls 5 [(0, .ref (ad x0)), (1, .ref (ad x1)), (2, .int (iI x2)), (3, .int (iI x3)), (4, .int (iI q.1))] → W p l e rX1_handOver s mt args below meth c H locs 0 0 Q (F0 mt 3 ls [])) (Px := fun c0 q => (c0 = 1 → ∀ (H : Heap) (locs : List Loc) (ls : Array Slot), Wd G A s H0 ad g q.2 H locs → lv_has ls 5 [] → W p l e rX1_handOver s mt args below meth c H locs 0 0 Q (F0 mt 47 ls [])))
    (fun s c s' hB K0 kx H locs ls f0 S hl => wX1_handOver_3 C S hx0 hx1 hx2 hx3 f0 hl hB K0 (fun h9 => (kx (by rw [h9]; decide)) h9)) _ _ _ _ hI K1
set_option maxRecDepth 20000 in
theorem wX1_handOver_47 {p : Program} {l : Launch} {e : Env} {s : State} {mt : MethodId} {args : Array Value} {below : List Frame} {meth : Method} {c : Code} {Q : State → Prop} {G : Gl} {A : Nat → Prop} {H0 : Heap} {ad : Int → Nat} {g : Shp} {H : Heap} {locs : List Loc} {ls : Array Slot} {m : Mem} (C : CallFix p mt c cX1_handOver 5 s args tb RX1) (S : Wd G A s H0 ad g m H locs)  (hl : lv_has ls 5 []) {r : Int} {m' : Mem} (hF : bX1_handOver_47 g m = some (r, m')) (Kr : ∀ (H : Heap) (locs : List Loc) (pc : Nat) (ls : Array Slot), Wd G A s H0 ad g m' H locs → decode cX1_handOver pc = .ok (.return_, 1) → W p l e rX1_handOver s mt args below meth c H locs 0 0 Q (F0 mt pc ls [])) : W p l e rX1_handOver s mt args below meth c H locs 0 0 Q (F0 mt 47 ls []) := by
  unfold bX1_handOver_47 at hF
  cases hF
  exact Kr _ _ _ _ S dX1_handOver_47
set_option maxRecDepth 20000 in
theorem wX1_handOver_0 {p : Program} {l : Launch} {e : Env} {s : State} {mt : MethodId} {args : Array Value} {below : List Frame} {meth : Method} {c : Code} {Q : State → Prop} {G : Gl} {A : Nat → Prop} {H0 : Heap} {ad : Int → Nat} {g : Shp} {H : Heap} {locs : List Loc} {ls : Array Slot} {m : Mem} {x0 x1 x2 x3 : Int} (C : CallFix p mt c cX1_handOver 5 s args tb RX1) (S : Wd G A s H0 ad g m H locs) (hx0 : gk g x0 = 2) (hx1 : gk g x1 = 6) (hx2 : r32 x2) (hx3 : r32 x3) (hl : lv_has ls 5 [(0, .ref (ad x0)), (1, .ref (ad x1)), (2, .int (iI x2)), (3, .int (iI x3))]) {r : Int} {m' : Mem} (hF : bX1_handOver_0 g x0 x1 x2 x3 m = some (r, m')) (Kr : ∀ (H : Heap) (locs : List Loc) (pc : Nat) (ls : Array Slot), Wd G A s H0 ad g m' H locs → decode cX1_handOver pc = .ok (.return_, 1) → W p l e rX1_handOver s mt args below meth c H locs 0 0 Q (F0 mt pc ls [])) : W p l e rX1_handOver s mt args below meth c H locs 0 0 Q (F0 mt 0 ls []) := by
  unfold bX1_handOver_0 at hF
  refine q_iconst C 0 dX1_handOver_0 ?_
  refine q_istore C hl [(4, .int (iI 0)), (0, .ref (ad x0)), (1, .ref (ad x1)), (2, .int (iI x2)), (3, .int (iI x3))] rfl (by decide) rfl dX1_handOver_1 (fun ls hl => ?_)
  obtain ⟨cv1, sv2, hi3, hF⟩ := bdl_ok hF
  refine lX1_handOver_3 C hx0 hx1 hx2 hx3 hi3 ?_ _ _ _ (rl 0 rfl) S (lv_sub hl [1, 2, 3, 4, 0] rfl)
  intro _ H locs ls  S4 hl
  exact wX1_handOver_47 C S4  (lv_sub hl [] rfl) hF Kr
theorem cX1_handOver_ok (l : Launch) (G : Gl) {g : Shp} {x0 x1 x2 x3 : Int} {m m' : Mem} {r : Int} (hx0 : gk g x0 = 2) (hx1 : gk g x1 = 6) (hx2 : r32 x2) (hx3 : r32 x3) (hF : fX1_handOver g x0 x1 x2 x3 m = some (r, m')) : mV l yX1_handOver (wT yX1_handOver cX1_handOver 5 none) rX1_handOver G (fun ad => [.ref (ad x0), .ref (ad x1), .int (iI x2), .int (iI x3)]) g m m' :=
  met_v (by decide) (fun ad => Nat.le_of_ble_eq_true rfl) (fun p e s mt args below meth c Q A H0 H locs ad ls C hnm S hl Kr => wX1_handOver_0 C S hx0 hx1 hx2 hx3 hl hF Kr)
set_option maxRecDepth 20000 in
theorem wX1_putDown_11 {p : Program} {l : Launch} {e : Env} {s : State} {mt : MethodId} {args : Array Value} {below : List Frame} {meth : Method} {c : Code} {Q : State → Prop} {G : Gl} {A : Nat → Prop} {H0 : Heap} {ad : Int → Nat} {g : Shp} {H : Heap} {locs : List Loc} {ls : Array Slot} {m : Mem} {x0 x1 x3 x4 x5 : Int} (C : CallFix p mt c cX1_putDown 6 s args tb RX1) (S : Wd G A s H0 ad g m H locs) (hx0 : gk g x0 = 2) (hx1 : r32 x1) (hx3 : r32 x3) (hx4 : gk g x4 = 10) (hx5 : r32 x5) (hl : lv_has ls 6 [(0, .ref (ad x0)), (1, .int (iI x1)), (3, .int (iI x3)), (4, .ref (ad x4)), (5, .int (iI x5))]) {c1 : Int} {s1 : (Int × Mem)} (hF : bX1_putDown_11 g x0 x1 x3 x4 x5 m = some (c1, s1)) (K0 : c1 = 0 → ∀ (H : Heap) (locs : List Loc) (ls : Array Slot), r32 s1.1 → Wd G A s H0 ad g s1.2 H locs → lv_has ls 6 [(0, .ref (ad x0)), (1, .int (iI x1)), (3, .int (iI x3)), (4, .ref (ad x4)), (5, .int (iI s1.1))] → W p l e rX1_putDown s mt args below meth c H locs 0 0 Q (F0 mt 11 ls [])) (K1 : c1 = 1 → ∀ (H : Heap) (locs : List Loc) (ls : Array Slot), Wd G A s H0 ad g s1.2 H locs → lv_has ls 6 [(0, .ref (ad x0)), (1, .int (iI x1)), (3, .int (iI x3)), (4, .ref (ad x4))] → W p l e rX1_putDown s mt args below meth c H locs 0 0 Q (F0 mt 64 ls [])) : W p l e rX1_putDown s mt args below meth c H locs 0 0 Q (F0 mt 11 ls []) := by
  unfold bX1_putDown_11 at hF
  refine q_iload C hl 4 rfl dX1_putDown_11 ?_
  refine q_iconst C 3 dX1_putDown_13 ?_
  refine q_icmp_ge C hx5 (rl 3 rfl) 64 dX1_putDown_14 (by decide) (fun hc1 => ?_) (fun hc1 => ?_)
  · have hF := if_t hc1 hF
    cases hF
    exact K1 rfl _ _ _  S (lv_sub hl [0, 1, 2, 3] rfl)
  · have hF := if_f hc1 hF
    refine q_aload_n C hl 0 rfl rfl dX1_putDown_17 ?_
    obtain ⟨k2, hF⟩ := ck_ok hF
    refine q_getr C S 1 fo_RX1_15 (j := 1) rfl rfl hx0 k2 (by decide) dX1_putDown_18 ?_
    refine q_iload_n C hl 2 rfl rfl dX1_putDown_21 ?_
    refine q_iconst C 3 dX1_putDown_22 ?_
    refine q_imul C dX1_putDown_23 ?_
    refine q_iload C hl 4 rfl dX1_putDown_24 ?_
    refine q_iadd C dX1_putDown_26 ?_
    refine q_dup2 C rfl rfl dX1_putDown_27 ?_
    obtain ⟨i3, hF⟩ := ck_ok hF
    refine q_iald C S k2 i3 dX1_putDown_28 ?_
    refine q_aload C hl 3 rfl dX1_putDown_29 ?_
    obtain ⟨k4, hF⟩ := ck_ok hF
    refine q_getr C S 1 fo_RX1_75 (j := 1) rfl rfl hx4 k4 (by decide) dX1_putDown_31 ?_
    refine q_iload C hl 4 rfl dX1_putDown_34 ?_
    obtain ⟨i5, hF⟩ := ck_ok hF
    refine q_iald C S k4 i5 dX1_putDown_36 ?_
    refine q_isub C dX1_putDown_37 ?_
    obtain ⟨i6, hF⟩ := ck_ok hF
    obtain ⟨m7, em7, hF⟩ := vm_ok hF
    refine q_iast C S k2 i6 (r32_w _) em7 dX1_putDown_38 (fun H locs Sm7 => ?_)
    refine q_aload_n C hl 0 rfl rfl dX1_putDown_39 ?_
    obtain ⟨k8, hF⟩ := ck_ok hF
    refine q_getr C Sm7 5 fo_RX1_27 (j := 5) rfl rfl hx0 k8 (by decide) dX1_putDown_40 ?_
    refine q_iload_n C hl 1 rfl rfl dX1_putDown_43 ?_
    refine q_iconst C 3 dX1_putDown_44 ?_
    refine q_imul C dX1_putDown_45 ?_
    refine q_iload C hl 4 rfl dX1_putDown_46 ?_
    refine q_iadd C dX1_putDown_48 ?_
    refine q_aload C hl 3 rfl dX1_putDown_49 ?_
    obtain ⟨k9, hF⟩ := ck_ok hF
    refine q_getr C Sm7 2 fo_RX1_80 (j := 2) rfl rfl hx4 k9 (by decide) dX1_putDown_51 ?_
    refine q_iload C hl 4 rfl dX1_putDown_54 ?_
    obtain ⟨i10, hF⟩ := ck_ok hF
    refine q_iald C Sm7 k9 i10 dX1_putDown_56 ?_
    obtain ⟨i11, hF⟩ := ck_ok hF
    obtain ⟨m12, em12, hF⟩ := vm_ok hF
    refine q_iast C Sm7 k8 i11 (Sm7.r _ _) em12 dX1_putDown_57 (fun H locs Sm12 => ?_)
    obtain ⟨y13, ey13, hF⟩ := vv_ok hF
    have ry13 : r32 y13 := ey13 ▸ r32_w _
    refine q_iinc C hl 4 [(5, .int (iI y13)), (0, .ref (ad x0)), (1, .int (iI x1)), (3, .int (iI x3)), (4, .ref (ad x4))] rfl ey13 (by decide) rfl dX1_putDown_58 (fun ls hl => ?_)
    refine q_goto C 11 dX1_putDown_61 (by decide) ?_
    cases hF
    exact K0 rfl _ _ _ ry13 Sm12 (lv_sub hl [1, 2, 3, 4, 0] rfl)
set_option maxRecDepth 20000 in
theorem lX1_putDown_11 {p : Program} {l : Launch} {e : Env} {s : State} {mt : MethodId} {args : Array Value} {below : List Frame} {meth : Method} {c : Code} {Q : State → Prop} {G : Gl} {A : Nat → Prop} {H0 : Heap} {ad : Int → Nat} {g : Shp} {x0 x1 x3 x4 : Int} (C : CallFix p mt c cX1_putDown 6 s args tb RX1) (hx0 : gk g x0 = 2) (hx1 : r32 x1) (hx3 : r32 x3) (hx4 : gk g x4 = 10) {n : Nat} {s0 s1 : (Int × Mem)} {c1 : Int} (hI : iter (BX1_putDown_11 g x0 x1 x3 x4) n s0 = some (c1, s1)) (K1 : c1 = 1 → ∀ (H : Heap) (locs : List Loc) (ls : Array Slot), Wd G A s H0 ad g s1.2 H locs → lv_has ls 6 [(0, .ref (ad x0)), (1, .int (iI x1)), (3, .int (iI x3)), (4, .ref (ad x4))] → W p l e rX1_putDown s mt args below meth c H locs 0 0 Q (F0 mt 64 ls [])) : ∀ (H : Heap) (locs : List Loc) (ls : Array Slot), r32 s0.1 → Wd G A s H0 ad g s0.2 H locs → lv_has ls 6 [(0, .ref (ad x0)), (1, .int (iI x1)), (3, .int (iI x3)), (4, .ref (ad x4)), (5, .int (iI s0.1))] → W p l e rX1_putDown s mt args below meth c H locs 0 0 Q (F0 mt 11 ls []) :=
  iter_W (Pw := fun q => ∀ (H : Heap) (locs : List Loc) (ls : Array Slot), r32 q.1 → Wd G A s H0 ad g q.2 H locs → lv_has ls 6 [(0, .ref (ad x0)), (1, .int (iI x1)), (3, .int (iI x3)), (4, .ref (ad x4)), (5, .int (iI q.1))] → W p l e rX1_putDown s mt args below meth c H locs 0 0 Q (F0 mt 11 ls [])) (Px := fun c0 q => (c0 = 1 → ∀ (H : Heap) (locs : List Loc) (ls : Array Slot), Wd G A s H0 ad g q.2 H locs → lv_has ls 6 [(0, .ref (ad x0)), (1, .int (iI x1)), (3, .int (iI x3)), (4, .ref (ad x4))] → W p l e rX1_putDown s mt args below meth c H locs 0 0 Q (F0 mt 64 ls [])))
    (fun s c s' hB K0 kx H locs ls f0 S hl => wX1_putDown_11 C S hx0 hx1 hx3 hx4 f0 hl hB K0 (fun h9 => (kx (by rw [h9]; decide)) h9)) _ _ _ _ hI K1
set_option maxRecDepth 20000 in
theorem wX1_putDown_64 {p : Program} {l : Launch} {e : Env} {s : State} {mt : MethodId} {args : Array Value} {below : List Frame} {meth : Method} {c : Code} {Q : State → Prop} {G : Gl} {A : Nat → Prop} {H0 : Heap} {ad : Int → Nat} {g : Shp} {H : Heap} {locs : List Loc} {ls : Array Slot} {m : Mem} {x0 x1 x3 x4 : Int} (C : CallFix p mt c cX1_putDown 6 s args tb RX1) (S : Wd G A s H0 ad g m H locs) (hx0 : gk g x0 = 2) (hx1 : r32 x1) (hx3 : r32 x3) (hx4 : gk g x4 = 10) (hl : lv_has ls 6 [(0, .ref (ad x0)), (1, .int (iI x1)), (3, .int (iI x3)), (4, .ref (ad x4))]) {r : Int} {m' : Mem} (hF : bX1_putDown_64 g x0 x1 x3 x4 m = some (r, m')) (Kr : ∀ (H : Heap) (locs : List Loc) (pc : Nat) (ls : Array Slot), Wd G A s H0 ad g m' H locs → decode cX1_putDown pc = .ok (.return_, 1) → W p l e rX1_putDown s mt args below meth c H locs 0 0 Q (F0 mt pc ls [])) : W p l e rX1_putDown s mt args below meth c H locs 0 0 Q (F0 mt 64 ls []) := by
  unfold bX1_putDown_64 at hF
  refine q_aload_n C hl 0 rfl rfl dX1_putDown_64 ?_
  obtain ⟨k1, hF⟩ := ck_ok hF
  refine q_getr C S 2 fo_RX1_18 (j := 2) rfl rfl hx0 k1 (by decide) dX1_putDown_65 ?_
  refine q_iload_n C hl 1 rfl rfl dX1_putDown_68 ?_
  refine q_iload_n C hl 2 rfl rfl dX1_putDown_69 ?_
  obtain ⟨i2, hF⟩ := ck_ok hF
  obtain ⟨m3, em3, hF⟩ := vm_ok hF
  refine q_iast C S k1 i2 hx3 em3 dX1_putDown_70 (fun H locs Sm3 => ?_)
  refine q_aload_n C hl 0 rfl rfl dX1_putDown_71 ?_
  obtain ⟨k4, hF⟩ := ck_ok hF
  refine q_getr C Sm3 3 fo_RX1_21 (j := 3) rfl rfl hx0 k4 (by decide) dX1_putDown_72 ?_
  refine q_iload_n C hl 1 rfl rfl dX1_putDown_75 ?_
  refine q_aload C hl 3 rfl dX1_putDown_76 ?_
  refine q_geti C Sm3 4 fo_RX1_81 (j := 4) rfl rfl hx4 dX1_putDown_78 ?_
  obtain ⟨i5, hF⟩ := ck_ok hF
  obtain ⟨m6, em6, hF⟩ := vm_ok hF
  refine q_iast C Sm3 k4 i5 (Sm3.r _ _) em6 dX1_putDown_81 (fun H locs Sm6 => ?_)
  refine q_aload_n C hl 0 rfl rfl dX1_putDown_82 ?_
  obtain ⟨k7, hF⟩ := ck_ok hF
  refine q_getr C Sm6 4 fo_RX1_24 (j := 4) rfl rfl hx0 k7 (by decide) dX1_putDown_83 ?_
  refine q_iload_n C hl 1 rfl rfl dX1_putDown_86 ?_
  refine q_aload C hl 3 rfl dX1_putDown_87 ?_
  refine q_geti C Sm6 5 fo_RX1_84 (j := 5) rfl rfl hx4 dX1_putDown_89 ?_
  obtain ⟨i8, hF⟩ := ck_ok hF
  obtain ⟨m9, em9, hF⟩ := vm_ok hF
  refine q_iast C Sm6 k7 i8 (Sm6.r _ _) em9 dX1_putDown_92 (fun H locs Sm9 => ?_)
  refine q_aload_n C hl 0 rfl rfl dX1_putDown_93 ?_
  obtain ⟨k10, hF⟩ := ck_ok hF
  refine q_getr C Sm9 6 fo_RX1_30 (j := 6) rfl rfl hx0 k10 (by decide) dX1_putDown_94 ?_
  refine q_iload_n C hl 1 rfl rfl dX1_putDown_97 ?_
  refine q_aload C hl 3 rfl dX1_putDown_98 ?_
  refine q_geti C Sm9 3 fo_RX1_86 (j := 3) rfl rfl hx4 dX1_putDown_100 ?_
  obtain ⟨i11, hF⟩ := ck_ok hF
  obtain ⟨m12, em12, hF⟩ := vm_ok hF
  refine q_iast C Sm9 k10 i11 (Sm9.r _ _) em12 dX1_putDown_103 (fun H locs Sm12 => ?_)
  refine q_aload_n C hl 0 rfl rfl dX1_putDown_104 ?_
  refine q_dup C rfl dX1_putDown_105 ?_
  refine q_geti C Sm12 8 fo_RX1_57 (j := 8) rfl rfl hx0 dX1_putDown_106 ?_
  refine q_aload C hl 3 rfl dX1_putDown_109 ?_
  refine q_geti C Sm12 5 fo_RX1_84 (j := 5) rfl rfl hx4 dX1_putDown_111 ?_
  refine q_iadd C dX1_putDown_114 ?_
  obtain ⟨m13, em13, hF⟩ := vm_ok hF
  refine q_put C Sm12 8 fo_RX1_57 fp_2_8 (fun h9 => absurd h9 (by decide)) (j := 8) rfl hx0 rfl rfl rfl (r32_w _) (fun h9 => absurd h9 (by decide)) em13 dX1_putDown_115 (fun H locs Sm13 => ?_)
  refine q_aload_n C hl 0 rfl rfl dX1_putDown_118 ?_
  refine q_dup C rfl dX1_putDown_119 ?_
  refine q_geti C Sm13 9 fo_RX1_60 (j := 9) rfl rfl hx0 dX1_putDown_120 ?_
  refine q_aload C hl 3 rfl dX1_putDown_123 ?_
  refine q_geti C Sm13 6 fo_RX1_88 (j := 6) rfl rfl hx4 dX1_putDown_125 ?_
  refine q_iadd C dX1_putDown_128 ?_
  obtain ⟨m14, em14, hF⟩ := vm_ok hF
  refine q_put C Sm13 9 fo_RX1_60 fp_2_9 (fun h9 => absurd h9 (by decide)) (j := 9) rfl hx0 rfl rfl rfl (r32_w _) (fun h9 => absurd h9 (by decide)) em14 dX1_putDown_129 (fun H locs Sm14 => ?_)
  cases hF
  exact Kr _ _ _ _ Sm14 dX1_putDown_132
set_option maxRecDepth 20000 in
theorem wX1_putDown_0 {p : Program} {l : Launch} {e : Env} {s : State} {mt : MethodId} {args : Array Value} {below : List Frame} {meth : Method} {c : Code} {Q : State → Prop} {G : Gl} {A : Nat → Prop} {H0 : Heap} {ad : Int → Nat} {g : Shp} {H : Heap} {locs : List Loc} {ls : Array Slot} {m : Mem} {x0 x1 x2 x3 x4 : Int} (C : CallFix p mt c cX1_putDown 6 s args tb RX1) (S : Wd G A s H0 ad g m H locs) (hx0 : gk g x0 = 2) (hx1 : r32 x1) (hx2 : gk g x2 = 6) (hx3 : r32 x3) (hx4 : gk g x4 = 10) (hl : lv_has ls 6 [(0, .ref (ad x0)), (1, .int (iI x1)), (2, .ref (ad x2)), (3, .int (iI x3)), (4, .ref (ad x4))]) {r : Int} {m' : Mem} (hF : bX1_putDown_0 g x0 x1 x2 x3 x4 m = some (r, m')) (Kr : ∀ (H : Heap) (locs : List Loc) (pc : Nat) (ls : Array Slot), Wd G A s H0 ad g m' H locs → decode cX1_putDown pc = .ok (.return_, 1) → W p l e rX1_putDown s mt args below meth c H locs 0 0 Q (F0 mt pc ls [])) : W p l e rX1_putDown s mt args below meth c H locs 0 0 Q (F0 mt 0 ls []) := by
  unfold bX1_putDown_0 at hF
  refine q_aload_n C hl 0 rfl rfl dX1_putDown_0 ?_
  refine q_aload_n C hl 2 rfl rfl dX1_putDown_1 ?_
  refine q_bipush C (-4) (by decide) dX1_putDown_2 ?_
  refine q_iload_n C hl 1 rfl rfl dX1_putDown_4 ?_
  obtain ⟨v1, m2, h3, hF⟩ := bd2_ok hF
  refine q_cv S (run_V (As := [.ref (ad x2), .int (iI ((-4))), .int (iI x1)]) (rest := []) C S (cX1_handOver_ok l G hx0 hx2 (rl (-4) rfl) hx1 h3 ad _) hx0 ⟨by decide, _, _, rfl⟩ gd_RX1_71 hdV_X1_handOver rfl ⟨rfl, rfl, by decide, by decide⟩ ⟨Nat.zero_le _, Nat.zero_le _⟩ hl.1 rfl (Nat.le_of_ble_eq_true rfl) dX1_putDown_5) (fun H locs Sm2 => ?_)
  refine q_iconst C 0 dX1_putDown_8 ?_
  refine q_istore C hl [(5, .int (iI 0)), (0, .ref (ad x0)), (1, .int (iI x1)), (2, .ref (ad x2)), (3, .int (iI x3)), (4, .ref (ad x4))] rfl (by decide) rfl dX1_putDown_9 (fun ls hl => ?_)
  obtain ⟨cv4, sv5, hi6, hF⟩ := bdl_ok hF
  refine lX1_putDown_11 C hx0 hx1 hx3 hx4 hi6 ?_ _ _ _ (rl 0 rfl) Sm2 (lv_sub hl [1, 2, 4, 5, 0] rfl)
  intro _ H locs ls  S7 hl
  exact wX1_putDown_64 C S7 hx0 hx1 hx3 hx4 (lv_sub hl [0, 1, 2, 3] rfl) hF Kr
theorem cX1_putDown_ok (l : Launch) (G : Gl) {g : Shp} {x0 x1 x2 x3 x4 : Int} {m m' : Mem} {r : Int} (hx0 : gk g x0 = 2) (hx1 : r32 x1) (hx2 : gk g x2 = 6) (hx3 : r32 x3) (hx4 : gk g x4 = 10) (hF : fX1_putDown g x0 x1 x2 x3 x4 m = some (r, m')) : mV l yX1_putDown (wT yX1_putDown cX1_putDown 6 none) rX1_putDown G (fun ad => [.ref (ad x0), .int (iI x1), .ref (ad x2), .int (iI x3), .ref (ad x4)]) g m m' :=
  met_v (by decide) (fun ad => Nat.le_of_ble_eq_true rfl) (fun p e s mt args below meth c Q A H0 H locs ad ls C hnm S hl Kr => wX1_putDown_0 C S hx0 hx1 hx2 hx3 hx4 hl hF Kr)
set_option maxRecDepth 20000 in
theorem wX1_pickUp_6 {p : Program} {l : Launch} {e : Env} {s : State} {mt : MethodId} {args : Array Value} {below : List Frame} {meth : Method} {c : Code} {Q : State → Prop} {G : Gl} {A : Nat → Prop} {H0 : Heap} {ad : Int → Nat} {g : Shp} {H : Heap} {locs : List Loc} {ls : Array Slot} {m : Mem} {x0 x1 x2 x3 x4 x5 : Int} (C : CallFix p mt c cX1_pickUp 9 s args tb RX1) (S : Wd G A s H0 ad g m H locs) (hx0 : gk g x0 = 2) (hx1 : r32 x1) (hx2 : gk g x2 = 6) (hx3 : gk g x3 = 20) (hx4 : r32 x4) (hx5 : r32 x5) (hl : lv_has ls 9 [(0, .ref (ad x0)), (1, .int (iI x1)), (2, .ref (ad x2)), (3, .ref (ad x3)), (4, .int (iI x4)), (5, .int (iI x5))]) {c1 : Int} {s1 : (Int × Int × Mem)} (hF : bX1_pickUp_6 g x0 x1 x2 x3 x4 x5 m = some (c1, s1)) (K0 : c1 = 0 → ∀ (H : Heap) (locs : List Loc) (ls : Array Slot), r32 s1.1 → r32 s1.2.1 → Wd G A s H0 ad g s1.2.2 H locs → lv_has ls 9 [(0, .ref (ad x0)), (1, .int (iI x1)), (2, .ref (ad x2)), (3, .ref (ad x3)), (4, .int (iI s1.1)), (5, .int (iI s1.2.1))] → W p l e rX1_pickUp s mt args below meth c H locs 0 0 Q (F0 mt 6 ls [])) (K1 : c1 = 1 → ∀ (H : Heap) (locs : List Loc) (ls : Array Slot), r32 s1.1 → Wd G A s H0 ad g s1.2.2 H locs → lv_has ls 9 [(0, .ref (ad x0)), (1, .int (iI x1)), (2, .ref (ad x2)), (4, .int (iI s1.1))] → W p l e rX1_pickUp s mt args below meth c H locs 0 0 Q (F0 mt 99 ls [])) : W p l e rX1_pickUp s mt args below meth c H locs 0 0 Q (F0 mt 6 ls []) := by
  unfold bX1_pickUp_6 at hF
  refine q_iload C hl 5 rfl dX1_pickUp_6 ?_
  refine q_iconst C 3 dX1_pickUp_8 ?_
  refine q_icmp_ge C hx5 (rl 3 rfl) 99 dX1_pickUp_9 (by decide) (fun hc1 => ?_) (fun hc1 => ?_)
  · have hF := if_t hc1 hF
    cases hF
    exact K1 rfl _ _ _ hx4 S (lv_sub hl [0, 1, 2, 4] rfl)
  · have hF := if_f hc1 hF
    refine q_aload_n C hl 0 rfl rfl dX1_pickUp_12 ?_
    obtain ⟨k2, hF⟩ := ck_ok hF
    refine q_getr C S 5 fo_RX1_27 (j := 5) rfl rfl hx0 k2 (by decide) dX1_pickUp_13 ?_
    refine q_iload_n C hl 1 rfl rfl dX1_pickUp_16 ?_
    refine q_iconst C 3 dX1_pickUp_17 ?_
    refine q_imul C dX1_pickUp_18 ?_
    refine q_iload C hl 5 rfl dX1_pickUp_19 ?_
    refine q_iadd C dX1_pickUp_21 ?_
    obtain ⟨i3, hF⟩ := ck_ok hF
    refine q_iald C S k2 i3 dX1_pickUp_22 ?_
    obtain ⟨y4, ey4, hF⟩ := vv_ok hF
    have ry4 : r32 y4 := ey4 ▸ (S.r _ _)
    refine q_istore C hl [(6, .int (iI y4)), (0, .ref (ad x0)), (1, .int (iI x1)), (2, .ref (ad x2)), (3, .ref (ad x3)), (4, .int (iI x4)), (5, .int (iI x5))] ey4 (by decide) rfl dX1_pickUp_23 (fun ls hl => ?_)
    refine q_aload_n C hl 1 rfl rfl dX1_pickUp_25 ?_
    obtain ⟨k5, hF⟩ := ck_ok hF
    refine q_getr C S 2 fo_RX1_18 (j := 2) rfl rfl hx0 k5 (by decide) dX1_pickUp_26 ?_
    refine q_iload_n C hl 2 rfl rfl dX1_pickUp_29 ?_
    obtain ⟨i6, hF⟩ := ck_ok hF
    refine q_iald C S k5 i6 dX1_pickUp_30 ?_
    refine q_iconst C 3 dX1_pickUp_31 ?_
    refine q_imul C dX1_pickUp_32 ?_
    refine q_iload C hl 6 rfl dX1_pickUp_33 ?_
    refine q_iadd C dX1_pickUp_35 ?_
    obtain ⟨y7, ey7, hF⟩ := vv_ok hF
    have ry7 : r32 y7 := ey7 ▸ (r32_w _)
    refine q_istore C hl [(7, .int (iI y7)), (6, .int (iI y4)), (0, .ref (ad x0)), (1, .int (iI x1)), (2, .ref (ad x2)), (3, .ref (ad x3)), (4, .int (iI x4)), (5, .int (iI x5))] ey7 (by decide) rfl dX1_pickUp_36 (fun ls hl => ?_)
    refine q_iload C hl 1 rfl dX1_pickUp_38 ?_
    refine q_bipush C 6 (by decide) dX1_pickUp_40 ?_
    refine q_aload_n C hl 2 rfl rfl dX1_pickUp_42 ?_
    obtain ⟨k8, hF⟩ := ck_ok hF
    refine q_getr C S 1 fo_RX1_15 (j := 1) rfl rfl hx0 k8 (by decide) dX1_pickUp_43 ?_
    refine q_iload C hl 0 rfl dX1_pickUp_46 ?_
    obtain ⟨i9, hF⟩ := ck_ok hF
    refine q_iald C S k8 i9 dX1_pickUp_48 ?_
    refine q_isub C dX1_pickUp_49 ?_
    refine q_min C ⟨tw781, tw731, tw82, tw732⟩ hl.1 ry4 (r32_w _) (by decide) (by decide) ⟨Nat.zero_le _, Nat.zero_le _⟩ dX1_pickUp_50 ?_
    obtain ⟨y10, ey10, hF⟩ := vv_ok hF
    have ry10 : r32 y10 := ey10 ▸ (r32_min ry4 (r32_w _))
    refine q_istore C hl [(8, .int (iI y10)), (7, .int (iI y7)), (6, .int (iI y4)), (0, .ref (ad x0)), (1, .int (iI x1)), (2, .ref (ad x2)), (3, .ref (ad x3)), (4, .int (iI x4)), (5, .int (iI x5))] ey10 (by decide) rfl dX1_pickUp_53 (fun ls hl => ?_)
    refine q_aload_n C hl 3 rfl rfl dX1_pickUp_55 ?_
    refine q_getr C S 1 fo_RX1_15 (j := 1) rfl rfl hx0 k8 (by decide) dX1_pickUp_56 ?_
    refine q_iload C hl 1 rfl dX1_pickUp_59 ?_
    refine q_dup2 C rfl rfl dX1_pickUp_61 ?_
    obtain ⟨i11, hF⟩ := ck_ok hF
    refine q_iald C S k8 i11 dX1_pickUp_62 ?_
    refine q_iload C hl 0 rfl dX1_pickUp_63 ?_
    refine q_iadd C dX1_pickUp_65 ?_
    obtain ⟨i12, hF⟩ := ck_ok hF
    obtain ⟨m13, em13, hF⟩ := vm_ok hF
    refine q_iast C S k8 i12 (r32_w _) em13 dX1_pickUp_66 (fun H locs Sm13 => ?_)
    refine q_iload C hl 7 rfl dX1_pickUp_67 ?_
    refine q_iload C hl 0 rfl dX1_pickUp_69 ?_
    refine q_iadd C dX1_pickUp_71 ?_
    obtain ⟨y14, ey14, hF⟩ := vv_ok hF
    have ry14 : r32 y14 := ey14 ▸ (r32_w _)
    refine q_istore C hl [(4, .int (iI y14)), (8, .int (iI y10)), (7, .int (iI y7)), (6, .int (iI y4)), (0, .ref (ad x0)), (1, .int (iI x1)), (2, .ref (ad x2)), (3, .ref (ad x3)), (5, .int (iI x5))] ey14 (by decide) rfl dX1_pickUp_72 (fun ls hl => ?_)
    refine q_aload_n C hl 4 rfl rfl dX1_pickUp_74 ?_
    refine q_dup C rfl dX1_pickUp_75 ?_
    refine q_geti C Sm13 9 fo_RX1_60 (j := 9) rfl rfl hx0 dX1_pickUp_76 ?_
    refine q_iload C hl 3 rfl dX1_pickUp_79 ?_
    refine q_iload C hl 1 rfl dX1_pickUp_81 ?_
    refine q_isub C dX1_pickUp_83 ?_
    refine q_aload_n C hl 7 rfl rfl dX1_pickUp_84 ?_
    refine q_iload C hl 8 rfl dX1_pickUp_85 ?_
    obtain ⟨i15, hF⟩ := ck_ok hF
    refine q_iald C Sm13 hx3 i15 dX1_pickUp_87 ?_
    refine q_imul C dX1_pickUp_88 ?_
    refine q_iadd C dX1_pickUp_89 ?_
    obtain ⟨m16, em16, hF⟩ := vm_ok hF
    refine q_put C Sm13 9 fo_RX1_60 fp_2_9 (fun h9 => absurd h9 (by decide)) (j := 9) rfl hx0 rfl rfl rfl (r32_w _) (fun h9 => absurd h9 (by decide)) em16 dX1_pickUp_90 (fun H locs Sm16 => ?_)
    obtain ⟨y17, ey17, hF⟩ := vv_ok hF
    have ry17 : r32 y17 := ey17 ▸ r32_w _
    refine q_iinc C hl 8 [(5, .int (iI y17)), (4, .int (iI y14)), (8, .int (iI y10)), (7, .int (iI y7)), (6, .int (iI y4)), (0, .ref (ad x0)), (1, .int (iI x1)), (2, .ref (ad x2)), (3, .ref (ad x3))] rfl ey17 (by decide) rfl dX1_pickUp_93 (fun ls hl => ?_)
    refine q_goto C 6 dX1_pickUp_96 (by decide) ?_
    cases hF
    exact K0 rfl _ _ _ ry14 ry17 Sm16 (lv_sub hl [5, 6, 7, 8, 1, 0] rfl)
set_option maxRecDepth 20000 in
theorem lX1_pickUp_6 {p : Program} {l : Launch} {e : Env} {s : State} {mt : MethodId} {args : Array Value} {below : List Frame} {meth : Method} {c : Code} {Q : State → Prop} {G : Gl} {A : Nat → Prop} {H0 : Heap} {ad : Int → Nat} {g : Shp} {x0 x1 x2 x3 : Int} (C : CallFix p mt c cX1_pickUp 9 s args tb RX1) (hx0 : gk g x0 = 2) (hx1 : r32 x1) (hx2 : gk g x2 = 6) (hx3 : gk g x3 = 20) {n : Nat} {s0 s1 : (Int × Int × Mem)} {c1 : Int} (hI : iter (BX1_pickUp_6 g x0 x1 x2 x3) n s0 = some (c1, s1)) (K1 : c1 = 1 → ∀ (H : Heap) (locs : List Loc) (ls : Array Slot), r32 s1.1 → Wd G A s H0 ad g s1.2.2 H locs → lv_has ls 9 [(0, .ref (ad x0)), (1, .int (iI x1)), (2, .ref (ad x2)), (4, .int (iI s1.1))] → W p l e rX1_pickUp s mt args below meth c H locs 0 0 Q (F0 mt 99 ls [])) : ∀ (H : Heap) (locs : List Loc) (ls : Array Slot), r32 s0.1 → r32 s0.2.1 → Wd G A s H0 ad g s0.2.2 H locs → lv_has ls 9 [(0, .ref (ad x0)), (1, .int (iI x1)), (2, .ref (ad x2)), (3, .ref (ad x3)), (4, .int (iI s0.1)), (5, .int (iI s0.2.1))] → W p l e rX1_pickUp s mt args below meth c H locs 0 0 Q (F0 mt 6 ls []) :=
  iter_W (Pw := fun q => ∀ (H : Heap) (locs : List Loc) (ls : Array Slot), r32 q.1 → r32 q.2.1 → Wd G A s H0 ad g q.2.2 H locs → lv_has ls 9 [(0, .ref (ad x0)), (1, .int (iI x1)), (2, .ref (ad x2)), (3, .ref (ad x3)), (4, .int (iI q.1)), (5, .int (iI q.2.1))] → W p l e rX1_pickUp s mt args below meth c H locs 0 0 Q (F0 mt 6 ls [])) (Px := fun c0 q => (c0 = 1 → ∀ (H : Heap) (locs : List Loc) (ls : Array Slot), r32 q.1 → Wd G A s H0 ad g q.2.2 H locs → lv_has ls 9 [(0, .ref (ad x0)), (1, .int (iI x1)), (2, .ref (ad x2)), (4, .int (iI q.1))] → W p l e rX1_pickUp s mt args below meth c H locs 0 0 Q (F0 mt 99 ls [])))
    (fun s c s' hB K0 kx H locs ls f0 f1 S hl => wX1_pickUp_6 C S hx0 hx1 hx2 hx3 f0 f1 hl hB K0 (fun h9 => (kx (by rw [h9]; decide)) h9)) _ _ _ _ hI K1
set_option maxRecDepth 20000 in
theorem wX1_pickUp_99 {p : Program} {l : Launch} {e : Env} {s : State} {mt : MethodId} {args : Array Value} {below : List Frame} {meth : Method} {c : Code} {Q : State → Prop} {G : Gl} {A : Nat → Prop} {H0 : Heap} {ad : Int → Nat} {g : Shp} {H : Heap} {locs : List Loc} {ls : Array Slot} {m : Mem} {x0 x1 x2 x4 : Int} (C : CallFix p mt c cX1_pickUp 9 s args tb RX1) (S : Wd G A s H0 ad g m H locs) (hx0 : gk g x0 = 2) (hx1 : r32 x1) (hx2 : gk g x2 = 6) (hx4 : r32 x4) (hl : lv_has ls 9 [(0, .ref (ad x0)), (1, .int (iI x1)), (2, .ref (ad x2)), (4, .int (iI x4))]) {r : Int} {m' : Mem} (hF : bX1_pickUp_99 g x0 x1 x2 x4 m = some (r, m')) (Kr : ∀ (H : Heap) (locs : List Loc) (pc : Nat) (ls : Array Slot), Wd G A s H0 ad g m' H locs → decode cX1_pickUp pc = .ok (.ireturn, 1) → r32 r ∧ (false = true → r = 0 ∨ r = 1) → narrow .int (.int (iI r)) = .int (iI r) → W p l e rX1_pickUp s mt args below meth c H locs 0 0 Q (F0 mt pc ls [.int (iI r)])) : W p l e rX1_pickUp s mt args below meth c H locs 0 0 Q (F0 mt 99 ls []) := by
  unfold bX1_pickUp_99 at hF
  refine q_aload_n C hl 0 rfl rfl dX1_pickUp_99 ?_
  refine q_dup C rfl dX1_pickUp_100 ?_
  refine q_geti C S 9 fo_RX1_60 (j := 9) rfl rfl hx0 dX1_pickUp_101 ?_
  refine q_aload_n C hl 0 rfl rfl dX1_pickUp_104 ?_
  obtain ⟨k1, hF⟩ := ck_ok hF
  refine q_getr C S 6 fo_RX1_30 (j := 6) rfl rfl hx0 k1 (by decide) dX1_pickUp_105 ?_
  refine q_iload_n C hl 1 rfl rfl dX1_pickUp_108 ?_
  obtain ⟨i2, hF⟩ := ck_ok hF
  refine q_iald C S k1 i2 dX1_pickUp_109 ?_
  refine q_iadd C dX1_pickUp_110 ?_
  obtain ⟨m3, em3, hF⟩ := vm_ok hF
  refine q_put C S 9 fo_RX1_60 fp_2_9 (fun h9 => absurd h9 (by decide)) (j := 9) rfl hx0 rfl rfl rfl (r32_w _) (fun h9 => absurd h9 (by decide)) em3 dX1_pickUp_111 (fun H locs Sm3 => ?_)
  refine q_aload_n C hl 0 rfl rfl dX1_pickUp_114 ?_
  refine q_aload_n C hl 2 rfl rfl dX1_pickUp_115 ?_
  refine q_iload_n C hl 1 rfl rfl dX1_pickUp_116 ?_
  refine q_bipush C (-4) (by decide) dX1_pickUp_117 ?_
  obtain ⟨v4, m5, h6, hF⟩ := bd2_ok hF
  refine q_cv Sm3 (run_V (As := [.ref (ad x2), .int (iI x1), .int (iI ((-4)))]) (rest := []) C Sm3 (cX1_handOver_ok l G hx0 hx2 hx1 (rl (-4) rfl) h6 ad _) hx0 ⟨by decide, _, _, rfl⟩ gd_RX1_71 hdV_X1_handOver rfl ⟨rfl, rfl, by decide, by decide⟩ ⟨Nat.zero_le _, Nat.zero_le _⟩ hl.1 rfl (Nat.le_of_ble_eq_true rfl) dX1_pickUp_119) (fun H locs Sm5 => ?_)
  refine q_aload_n C hl 0 rfl rfl dX1_pickUp_122 ?_
  refine q_iload_n C hl 1 rfl rfl dX1_pickUp_123 ?_
  obtain ⟨v7, m8, h9, hF⟩ := bd2_ok hF
  refine q_cv Sm5 (run_V (As := [.int (iI x1)]) (rest := []) C Sm5 (cX1_strip_ok l G hx0 hx1 h9 ad _) hx0 ⟨by decide, _, _, rfl⟩ gd_RX1_48 hdV_X1_strip rfl ⟨rfl, rfl, by decide, by decide⟩ ⟨Nat.zero_le _, Nat.zero_le _⟩ hl.1 rfl (Nat.le_of_ble_eq_true rfl) dX1_pickUp_124) (fun H locs Sm8 => ?_)
  refine q_iload C hl 3 rfl dX1_pickUp_127 ?_
  cases hF
  exact Kr _ _ _ _ Sm8 dX1_pickUp_129 ⟨hx4, fun h9 => absurd h9 (by decide)⟩ rfl
set_option maxRecDepth 20000 in
theorem wX1_pickUp_0 {p : Program} {l : Launch} {e : Env} {s : State} {mt : MethodId} {args : Array Value} {below : List Frame} {meth : Method} {c : Code} {Q : State → Prop} {G : Gl} {A : Nat → Prop} {H0 : Heap} {ad : Int → Nat} {g : Shp} {H : Heap} {locs : List Loc} {ls : Array Slot} {m : Mem} {x0 x1 x2 x3 : Int} (C : CallFix p mt c cX1_pickUp 9 s args tb RX1) (S : Wd G A s H0 ad g m H locs) (hx0 : gk g x0 = 2) (hx1 : r32 x1) (hx2 : gk g x2 = 6) (hx3 : gk g x3 = 20) (hl : lv_has ls 9 [(0, .ref (ad x0)), (1, .int (iI x1)), (2, .ref (ad x2)), (3, .ref (ad x3))]) {r : Int} {m' : Mem} (hF : bX1_pickUp_0 g x0 x1 x2 x3 m = some (r, m')) (Kr : ∀ (H : Heap) (locs : List Loc) (pc : Nat) (ls : Array Slot), Wd G A s H0 ad g m' H locs → decode cX1_pickUp pc = .ok (.ireturn, 1) → r32 r ∧ (false = true → r = 0 ∨ r = 1) → narrow .int (.int (iI r)) = .int (iI r) → W p l e rX1_pickUp s mt args below meth c H locs 0 0 Q (F0 mt pc ls [.int (iI r)])) : W p l e rX1_pickUp s mt args below meth c H locs 0 0 Q (F0 mt 0 ls []) := by
  unfold bX1_pickUp_0 at hF
  refine q_iconst C 0 dX1_pickUp_0 ?_
  refine q_istore C hl [(4, .int (iI 0)), (0, .ref (ad x0)), (1, .int (iI x1)), (2, .ref (ad x2)), (3, .ref (ad x3))] rfl (by decide) rfl dX1_pickUp_1 (fun ls hl => ?_)
  refine q_iconst C 0 dX1_pickUp_3 ?_
  refine q_istore C hl [(5, .int (iI 0)), (4, .int (iI 0)), (0, .ref (ad x0)), (1, .int (iI x1)), (2, .ref (ad x2)), (3, .ref (ad x3))] rfl (by decide) rfl dX1_pickUp_4 (fun ls hl => ?_)
  obtain ⟨cv1, sv2, hi3, hF⟩ := bdl_ok hF
  refine lX1_pickUp_6 C hx0 hx1 hx2 hx3 hi3 ?_ _ _ _ (rl 0 rfl) (rl 0 rfl) S (lv_sub hl [2, 3, 4, 5, 1, 0] rfl)
  intro _ H locs ls f5 S4 hl
  exact wX1_pickUp_99 C S4 hx0 hx1 hx2 f5 (lv_sub hl [0, 1, 2, 3] rfl) hF Kr
theorem cX1_pickUp_ok (l : Launch) (G : Gl) {g : Shp} {x0 x1 x2 x3 : Int} {m m' : Mem} {r : Int} (hx0 : gk g x0 = 2) (hx1 : r32 x1) (hx2 : gk g x2 = 6) (hx3 : gk g x3 = 20) (hF : fX1_pickUp g x0 x1 x2 x3 m = some (r, m')) : mI l yX1_pickUp (wT yX1_pickUp cX1_pickUp 9 (some .int)) rX1_pickUp G false (fun ad => [.ref (ad x0), .int (iI x1), .ref (ad x2), .ref (ad x3)]) g m r m' :=
  met_i (by decide) (fun ad => Nat.le_of_ble_eq_true rfl) (fun p e s mt args below meth c Q A H0 H locs ad ls C hnm S hl Kr => wX1_pickUp_0 C S hx0 hx1 hx2 hx3 hl hF Kr)
