def ebX0_setStone_102 (g : Shp) (x1 x2 x3 : Int) (m : Mem) : Option (Int × (Int × Mem)) :=
  vv (w32 (x3 + 1)) fun y1 =>
  some (0, (y1, m))
def ebX0_setStone_16 (g : Shp) (x1 x2 x3 : Int) (m : Mem) : Option (Int × (Int × Mem)) :=
  if 3 ≤ x3 then
    some (2, (x3, m))
  else
    ck ((0 : Int) ≤ x3 ∧ x3 < 3) <|
    if (m 11 x3) < x2 then
      ebX0_setStone_102 g x1 x2 x3 m
    else
      ck ((0 : Int) ≤ x3 ∧ x3 < 3) <|
      if (m 12 x3) ≤ 0 then
        ebX0_setStone_102 g x1 x2 x3 m
      else
        bd2 (eX0_isNext g x2 x3 m) fun v8 m9 =>
        if v8 = 0 then
          ebX0_setStone_102 g x1 x2 x3 m9
        else
          some (1, (x3, m9))
def eBX0_setStone_16 (g : Shp) (x1 x2 : Int) (q : (Int × Mem)) : Option (Int × (Int × Mem)) := ebX0_setStone_16 g x1 x2 q.1 q.2
def ebX0_setStone_108 (g : Shp) (x1 x2 : Int) (m : Mem) : Option (Int × (Int × Int × Mem)) :=
  vv (w32 (x2 + (-1))) fun y1 =>
  some (0, (y1, 0, m))
def ebX0_setStone_10 (g : Shp) (x1 x2 : Int) (m : Mem) : Option (Int × (Int × Int × Mem)) :=
  if x2 ≤ 0 then
    some (2, (x2, 0, m))
  else
    bdl (iter (eBX0_setStone_16 g x1 x2) 100000 (0, m)) fun cv2 sv3 =>
    if cv2 = 1 then
      some (1, (x2, sv3.1, sv3.2))
    else
      ebX0_setStone_108 g x1 x2 sv3.2
def eBX0_setStone_10 (g : Shp) (x1 : Int) (q : (Int × Int × Mem)) : Option (Int × (Int × Int × Mem)) := ebX0_setStone_10 g x1 q.1 q.2.2
def ebX0_setStone_49 (g : Shp) (x1 x2 x3 : Int) (m : Mem) : Option (Int × Mem) :=
  bd2 (eX0_isAslant g x2 x3 m) fun v1 m2 =>
  bd2 (eX0_ownWorth g x2 x3 m2) fun v4 m5 =>
  vm (ms m5 5 8 (w32 ((m2 5 8) - v4))) fun m7 =>
  ck ((0 : Int) ≤ x3 ∧ x3 < 3) <|
  bd2 (eX9_add g x1 x2 x3 (m7 11 x3) v1 m7) fun v10 m11 =>
  ck ((0 : Int) ≤ x3 ∧ x3 < 3) <|
  ck ((0 : Int) ≤ x3 ∧ x3 < 3) <|
  vm (ms m11 12 x3 (w32 ((m11 12 x3) - 1))) fun m16 =>
  bd2 (eX0_goBehind g x2 m16) fun v17 m18 =>
  some (0, m18)
def ebX0_setStone_114 (g : Shp) (m : Mem) : Option (Int × Mem) :=
  some (0, m)
def ebX0_setStone_0 (g : Shp) (x1 : Int) (m : Mem) : Option (Int × Mem) :=
  vv (jmin (m 5 7) 9) fun y1 =>
  bdl (iter (eBX0_setStone_10 g x1) 100000 (y1, 0, m)) fun cv2 sv3 =>
  if cv2 = 1 then
    ebX0_setStone_49 g x1 sv3.1 sv3.2.1 sv3.2.2
  else
    ebX0_setStone_114 g sv3.2.2
def eX0_setStone (g : Shp) (x1 : Int) (m : Mem) : Option (Int × Mem) := ebX0_setStone_0 g x1 m
def ebJ7_fill_53178_5 (g : Shp) (x0 x1 x2 x3 : Int) (m : Mem) : Option (Int × (Int × Mem)) :=
  if x3 ≤ x2 then
    some (1, (x2, m))
  else
    ck ((0 : Int) ≤ x2 ∧ x2 < gl g x0) <|
    vm (ms m x0 x2 x1) fun m3 =>
    vv (w32 (x2 + 1)) fun y4 =>
    some (0, (y4, m3))
def eBJ7_fill_53178_5 (g : Shp) (x0 x1 x3 : Int) (q : (Int × Mem)) : Option (Int × (Int × Mem)) := ebJ7_fill_53178_5 g x0 x1 q.1 x3 q.2
def ebJ7_fill_53178_20 (g : Shp) (m : Mem) : Option (Int × Mem) :=
  some (0, m)
def ebJ7_fill_53178_0 (g : Shp) (x0 x1 : Int) (m : Mem) : Option (Int × Mem) :=
  vv (gl g x0) fun y1 =>
  bdl (iter (eBJ7_fill_53178_5 g x0 x1 y1) 100000 (0, m)) fun cv2 sv3 =>
  ebJ7_fill_53178_20 g sv3.2
def eJ7_fill_53178 (g : Shp) (x0 x1 : Int) (m : Mem) : Option (Int × Mem) := ebJ7_fill_53178_0 g x0 x1 m
def ebJ7_rangeCheck_23922_0 (g : Shp) (x0 x1 x2 : Int) (m : Mem) : Option (Int × Mem) :=
  if x1 ≤ x2 then
    if 0 ≤ x1 then
      if x2 ≤ x0 then
        some (0, m)
      else
        none
    else
      none
  else
    none
def eJ7_rangeCheck_23922 (g : Shp) (x0 x1 x2 : Int) (m : Mem) : Option (Int × Mem) := ebJ7_rangeCheck_23922_0 g x0 x1 x2 m
def ebJ7_fill_fda19_10 (g : Shp) (x0 x2 x3 x4 : Int) (m : Mem) : Option (Int × (Int × Mem)) :=
  if x2 ≤ x4 then
    some (1, (x4, m))
  else
    ck ((0 : Int) ≤ x4 ∧ x4 < gl g x0) <|
    vm (ms m x0 x4 x3) fun m3 =>
    vv (w32 (x4 + 1)) fun y4 =>
    some (0, (y4, m3))
def eBJ7_fill_fda19_10 (g : Shp) (x0 x2 x3 : Int) (q : (Int × Mem)) : Option (Int × (Int × Mem)) := ebJ7_fill_fda19_10 g x0 x2 x3 q.1 q.2
def ebJ7_fill_fda19_27 (g : Shp) (m : Mem) : Option (Int × Mem) :=
  some (0, m)
def ebJ7_fill_fda19_0 (g : Shp) (x0 x1 x2 x3 : Int) (m : Mem) : Option (Int × Mem) :=
  bd2 (eJ7_rangeCheck_23922 g (gl g x0) x1 x2 m) fun v1 m2 =>
  bdl (iter (eBJ7_fill_fda19_10 g x0 x2 x3) 100000 (x1, m2)) fun cv4 sv5 =>
  ebJ7_fill_fda19_27 g sv5.2
def eJ7_fill_fda19 (g : Shp) (x0 x1 x2 x3 : Int) (m : Mem) : Option (Int × Mem) := ebJ7_fill_fda19_0 g x0 x1 x2 x3 m
def ebX1_strip_0 (g : Shp) (x0 x1 : Int) (m : Mem) : Option (Int × Mem) :=
  ck ((0 : Int) ≤ x1 ∧ x1 < 3) <|
  vm (ms m (x0 + 3) x1 ((-4))) fun m3 =>
  ck ((0 : Int) ≤ x1 ∧ x1 < 3) <|
  vm (ms m3 (x0 + 4) x1 0) fun m6 =>
  ck ((0 : Int) ≤ x1 ∧ x1 < 3) <|
  vm (ms m6 (x0 + 5) x1 0) fun m9 =>
  ck ((0 : Int) ≤ x1 ∧ x1 < 3) <|
  vm (ms m9 (x0 + 7) x1 0) fun m12 =>
  bd2 (eJ7_fill_fda19 g (x0 + 6) (w32 (x1 * 3)) (w32 ((w32 (x1 * 3)) + 3)) 0 m12) fun v14 m15 =>
  some (0, m15)
def eX1_strip (g : Shp) (x0 x1 : Int) (m : Mem) : Option (Int × Mem) := ebX1_strip_0 g x0 x1 m
def ebX1_begin_29 (g : Shp) (x0 x1 x2 : Int) (m : Mem) : Option (Int × (Int × Mem)) :=
  if 3 ≤ x2 then
    some (1, (x2, m))
  else
    bd2 (eX1_strip g x0 x2 m) fun v2 m3 =>
    vv (w32 (x2 + 1)) fun y5 =>
    some (0, (y5, m3))
def eBX1_begin_29 (g : Shp) (x0 x1 : Int) (q : (Int × Mem)) : Option (Int × (Int × Mem)) := ebX1_begin_29 g x0 x1 q.1 q.2
def ebX1_begin_45 (g : Shp) (x0 x1 : Int) (m : Mem) : Option (Int × Mem) :=
  vm (ms m x0 7 (m x1 4)) fun m1 =>
  vm (ms m1 x0 8 0) fun m2 =>
  vm (ms m2 x0 9 0) fun m3 =>
  some (0, m3)
def ebX1_begin_0 (g : Shp) (x0 x1 : Int) (m : Mem) : Option (Int × Mem) :=
  bd2 (eJ7_fill_53178 g (x0 + 1) ((-4)) m) fun v2 m3 =>
  ck ((0 : Int) ≤ 0 ∧ (0 : Int) ≤ 0 ∧ (0 : Int) ≤ 9 ∧ 0 + 9 ≤ (9 : Int) ∧ 0 + 9 ≤ (9 : Int)) <|
  vm (mcp m3 (x1 + 2) 0 (x0 + 2) 0 9) fun m9 =>
  bdl (iter (eBX1_begin_29 g x0 x1) 100000 (0, m9)) fun cv10 sv11 =>
  ebX1_begin_45 g x0 x1 sv11.2
def eX1_begin (g : Shp) (x0 x1 : Int) (m : Mem) : Option (Int × Mem) := ebX1_begin_0 g x0 x1 m
def ebX1_copy_0 (g : Shp) (x0 x1 : Int) (m : Mem) : Option (Int × Mem) :=
  ck ((0 : Int) ≤ 0 ∧ (0 : Int) ≤ 0 ∧ (0 : Int) ≤ 400 ∧ 0 + 400 ≤ (400 : Int) ∧ 0 + 400 ≤ (400 : Int)) <|
  vm (mcp m (x1 + 1) 0 (x0 + 1) 0 400) fun m5 =>
  ck ((0 : Int) ≤ 0 ∧ (0 : Int) ≤ 0 ∧ (0 : Int) ≤ 9 ∧ 0 + 9 ≤ (9 : Int) ∧ 0 + 9 ≤ (9 : Int)) <|
  vm (mcp m5 (x1 + 2) 0 (x0 + 2) 0 9) fun m10 =>
  ck ((0 : Int) ≤ 0 ∧ (0 : Int) ≤ 0 ∧ (0 : Int) ≤ 3 ∧ 0 + 3 ≤ (3 : Int) ∧ 0 + 3 ≤ (3 : Int)) <|
  vm (mcp m10 (x1 + 3) 0 (x0 + 3) 0 3) fun m15 =>
  ck ((0 : Int) ≤ 0 ∧ (0 : Int) ≤ 0 ∧ (0 : Int) ≤ 3 ∧ 0 + 3 ≤ (3 : Int) ∧ 0 + 3 ≤ (3 : Int)) <|
  vm (mcp m15 (x1 + 4) 0 (x0 + 4) 0 3) fun m20 =>
  ck ((0 : Int) ≤ 0 ∧ (0 : Int) ≤ 0 ∧ (0 : Int) ≤ 3 ∧ 0 + 3 ≤ (3 : Int) ∧ 0 + 3 ≤ (3 : Int)) <|
  vm (mcp m20 (x1 + 5) 0 (x0 + 5) 0 3) fun m25 =>
  ck ((0 : Int) ≤ 0 ∧ (0 : Int) ≤ 0 ∧ (0 : Int) ≤ 9 ∧ 0 + 9 ≤ (9 : Int) ∧ 0 + 9 ≤ (9 : Int)) <|
  vm (mcp m25 (x1 + 6) 0 (x0 + 6) 0 9) fun m30 =>
  ck ((0 : Int) ≤ 0 ∧ (0 : Int) ≤ 0 ∧ (0 : Int) ≤ 3 ∧ 0 + 3 ≤ (3 : Int) ∧ 0 + 3 ≤ (3 : Int)) <|
  vm (mcp m30 (x1 + 7) 0 (x0 + 7) 0 3) fun m35 =>
  vm (ms m35 x0 7 (m35 x1 7)) fun m36 =>
  vm (ms m36 x0 8 (m36 x1 8)) fun m37 =>
  vm (ms m37 x0 9 (m37 x1 9)) fun m38 =>
  some (0, m38)
def eX1_copy (g : Shp) (x0 x1 : Int) (m : Mem) : Option (Int × Mem) := ebX1_copy_0 g x0 x1 m
def ebX1_isCovered_16 (g : Shp) (z0 : Int) (m : Mem) : Option (Int × Mem) :=
  ck (z0 = 0 ∨ z0 = 1) <|
  some (z0, m)
def ebX1_isCovered_0 (g : Shp) (x0 x1 : Int) (m : Mem) : Option (Int × Mem) :=
  ck ((0 : Int) ≤ x1 ∧ x1 < 3) <|
  if (m (x0 + 3) x1) = ((-4)) then
    ebX1_isCovered_16 g 0 m
  else
    ebX1_isCovered_16 g 1 m
def eX1_isCovered (g : Shp) (x0 x1 : Int) (m : Mem) : Option (Int × Mem) := ebX1_isCovered_0 g x0 x1 m
def ebX1_cellsOf_33 (g : Shp) (x0 x1 x2 x3 x4 : Int) (m : Mem) : Option (Int × (Int × Int × Mem)) :=
  vv (w32 (x4 + 1)) fun y1 =>
  some (0, (x3, y1, m))
def ebX1_cellsOf_5 (g : Shp) (x0 x1 x2 x3 x4 : Int) (m : Mem) : Option (Int × (Int × Int × Mem)) :=
  if (m x2 2) ≤ x4 then
    some (1, (x3, x4, m))
  else
    ck ((0 : Int) ≤ x4 ∧ x4 < 60) <|
    ck ((0 : Int) ≤ (m (x2 + 1) x4) ∧ (m (x2 + 1) x4) < 400) <|
    if (m (x0 + 1) (m (x2 + 1) x4)) = x1 then
      vv (w32 (x3 + 1)) fun y7 =>
      ebX1_cellsOf_33 g x0 x1 x2 y7 x4 m
    else
      ebX1_cellsOf_33 g x0 x1 x2 x3 x4 m
def eBX1_cellsOf_5 (g : Shp) (x0 x1 x2 : Int) (q : (Int × Int × Mem)) : Option (Int × (Int × Int × Mem)) := ebX1_cellsOf_5 g x0 x1 x2 q.1 q.2.1 q.2.2
def ebX1_cellsOf_39 (g : Shp) (x3 : Int) (m : Mem) : Option (Int × Mem) :=
  some (x3, m)
def ebX1_cellsOf_0 (g : Shp) (x0 x1 x2 : Int) (m : Mem) : Option (Int × Mem) :=
  bdl (iter (eBX1_cellsOf_5 g x0 x1 x2) 100000 (0, 0, m)) fun cv1 sv2 =>
  ebX1_cellsOf_39 g sv2.1 sv2.2.2
def eX1_cellsOf (g : Shp) (x0 x1 x2 : Int) (m : Mem) : Option (Int × Mem) := ebX1_cellsOf_0 g x0 x1 x2 m
def ebX1_missingIn_4 (g : Shp) (x0 x1 x2 x3 : Int) (m : Mem) : Option (Int × (Int × Int × Mem)) :=
  if 3 ≤ x3 then
    some (1, (x2, x3, m))
  else
    ck ((0 : Int) ≤ (w32 ((w32 (x1 * 3)) + x3)) ∧ (w32 ((w32 (x1 * 3)) + x3)) < 9) <|
    vv (w32 (x2 + (w32 (6 - (m (x0 + 2) (w32 ((w32 (x1 * 3)) + x3))))))) fun y4 =>
    vv (w32 (x3 + 1)) fun y5 =>
    some (0, (y4, y5, m))
def eBX1_missingIn_4 (g : Shp) (x0 x1 : Int) (q : (Int × Int × Mem)) : Option (Int × (Int × Int × Mem)) := ebX1_missingIn_4 g x0 x1 q.1 q.2.1 q.2.2
def ebX1_missingIn_31 (g : Shp) (x2 : Int) (m : Mem) : Option (Int × Mem) :=
  some (x2, m)
def ebX1_missingIn_0 (g : Shp) (x0 x1 : Int) (m : Mem) : Option (Int × Mem) :=
  bdl (iter (eBX1_missingIn_4 g x0 x1) 100000 (0, 0, m)) fun cv1 sv2 =>
  ebX1_missingIn_31 g sv2.1 sv2.2.2
def eX1_missingIn (g : Shp) (x0 x1 : Int) (m : Mem) : Option (Int × Mem) := ebX1_missingIn_0 g x0 x1 m
def ebX1_handOver_41 (g : Shp) (x0 x1 x2 x3 x4 : Int) (m : Mem) : Option (Int × (Int × Mem)) :=
  vv (w32 (x4 + 1)) fun y1 =>
  some (0, (y1, m))
def ebX1_handOver_3 (g : Shp) (x0 x1 x2 x3 x4 : Int) (m : Mem) : Option (Int × (Int × Mem)) :=
  if (m x1 2) ≤ x4 then
    some (1, (x4, m))
  else
    ck ((0 : Int) ≤ x4 ∧ x4 < 60) <|
    ck ((0 : Int) ≤ (m (x1 + 1) x4) ∧ (m (x1 + 1) x4) < 400) <|
    if (m (x0 + 1) (m (x1 + 1) x4)) = x2 then
      ck ((0 : Int) ≤ x4 ∧ x4 < 60) <|
      ck ((0 : Int) ≤ (m (x1 + 1) x4) ∧ (m (x1 + 1) x4) < 400) <|
      vm (ms m (x0 + 1) (m (x1 + 1) x4) x3) fun m11 =>
      ebX1_handOver_41 g x0 x1 x2 x3 x4 m11
    else
      ebX1_handOver_41 g x0 x1 x2 x3 x4 m
def eBX1_handOver_3 (g : Shp) (x0 x1 x2 x3 : Int) (q : (Int × Mem)) : Option (Int × (Int × Mem)) := ebX1_handOver_3 g x0 x1 x2 x3 q.1 q.2
def ebX1_handOver_47 (g : Shp) (m : Mem) : Option (Int × Mem) :=
  some (0, m)
def ebX1_handOver_0 (g : Shp) (x0 x1 x2 x3 : Int) (m : Mem) : Option (Int × Mem) :=
  bdl (iter (eBX1_handOver_3 g x0 x1 x2 x3) 100000 (0, m)) fun cv1 sv2 =>
  ebX1_handOver_47 g sv2.2
def eX1_handOver (g : Shp) (x0 x1 x2 x3 : Int) (m : Mem) : Option (Int × Mem) := ebX1_handOver_0 g x0 x1 x2 x3 m
def ebX1_putDown_11 (g : Shp) (x0 x1 x3 x4 x5 : Int) (m : Mem) : Option (Int × (Int × Mem)) :=
  if 3 ≤ x5 then
    some (1, (x5, m))
  else
    ck ((0 : Int) ≤ (w32 ((w32 (x3 * 3)) + x5)) ∧ (w32 ((w32 (x3 * 3)) + x5)) < 9) <|
    ck ((0 : Int) ≤ x5 ∧ x5 < 3) <|
    ck ((0 : Int) ≤ (w32 ((w32 (x3 * 3)) + x5)) ∧ (w32 ((w32 (x3 * 3)) + x5)) < 9) <|
    vm (ms m (x0 + 2) (w32 ((w32 (x3 * 3)) + x5)) (w32 ((m (x0 + 2) (w32 ((w32 (x3 * 3)) + x5))) - (m (x4 + 2) x5)))) fun m7 =>
    ck ((0 : Int) ≤ x5 ∧ x5 < 3) <|
    ck ((0 : Int) ≤ (w32 ((w32 (x1 * 3)) + x5)) ∧ (w32 ((w32 (x1 * 3)) + x5)) < 9) <|
    vm (ms m7 (x0 + 6) (w32 ((w32 (x1 * 3)) + x5)) (m7 (x4 + 3) x5)) fun m12 =>
    vv (w32 (x5 + 1)) fun y13 =>
    some (0, (y13, m12))
def eBX1_putDown_11 (g : Shp) (x0 x1 x3 x4 : Int) (q : (Int × Mem)) : Option (Int × (Int × Mem)) := ebX1_putDown_11 g x0 x1 x3 x4 q.1 q.2
def ebX1_putDown_64 (g : Shp) (x0 x1 x3 x4 : Int) (m : Mem) : Option (Int × Mem) :=
  ck ((0 : Int) ≤ x1 ∧ x1 < 3) <|
  vm (ms m (x0 + 3) x1 x3) fun m3 =>
  ck ((0 : Int) ≤ x1 ∧ x1 < 3) <|
  vm (ms m3 (x0 + 4) x1 (m3 x4 4)) fun m6 =>
  ck ((0 : Int) ≤ x1 ∧ x1 < 3) <|
  vm (ms m6 (x0 + 5) x1 (m6 x4 5)) fun m9 =>
  ck ((0 : Int) ≤ x1 ∧ x1 < 3) <|
  vm (ms m9 (x0 + 7) x1 (m9 x4 3)) fun m12 =>
  vm (ms m12 x0 8 (w32 ((m12 x0 8) + (m12 x4 5)))) fun m13 =>
  vm (ms m13 x0 9 (w32 ((m13 x0 9) + (m13 x4 6)))) fun m14 =>
  some (0, m14)
def ebX1_putDown_0 (g : Shp) (x0 x1 x2 x3 x4 : Int) (m : Mem) : Option (Int × Mem) :=
  bd2 (eX1_handOver g x0 x2 ((-4)) x1 m) fun v1 m2 =>
  bdl (iter (eBX1_putDown_11 g x0 x1 x3 x4) 100000 (0, m2)) fun cv4 sv5 =>
  ebX1_putDown_64 g x0 x1 x3 x4 sv5.2
def eX1_putDown (g : Shp) (x0 x1 x2 x3 x4 : Int) (m : Mem) : Option (Int × Mem) := ebX1_putDown_0 g x0 x1 x2 x3 x4 m
def ebX1_pickUp_6 (g : Shp) (x0 x1 x2 x3 x4 x5 : Int) (m : Mem) : Option (Int × (Int × Int × Mem)) :=
  if 3 ≤ x5 then
    some (1, (x4, x5, m))
  else
    ck ((0 : Int) ≤ (w32 ((w32 (x1 * 3)) + x5)) ∧ (w32 ((w32 (x1 * 3)) + x5)) < 9) <|
    vv (m (x0 + 6) (w32 ((w32 (x1 * 3)) + x5))) fun y4 =>
    ck ((0 : Int) ≤ x1 ∧ x1 < 3) <|
    vv (w32 ((w32 ((m (x0 + 3) x1) * 3)) + x5)) fun y7 =>
    ck ((0 : Int) ≤ y7 ∧ y7 < 9) <|
    vv (jmin y4 (w32 (6 - (m (x0 + 2) y7)))) fun y10 =>
    ck ((0 : Int) ≤ y7 ∧ y7 < 9) <|
    ck ((0 : Int) ≤ y7 ∧ y7 < 9) <|
    vm (ms m (x0 + 2) y7 (w32 ((m (x0 + 2) y7) + y10))) fun m14 =>
    vv (w32 (x4 + y10)) fun y15 =>
    ck ((0 : Int) ≤ x5 ∧ x5 < gl g x3) <|
    vm (ms m14 x0 9 (w32 ((m14 x0 9) + (w32 ((w32 (y4 - y10)) * (m14 x3 x5)))))) fun m17 =>
    vv (w32 (x5 + 1)) fun y18 =>
    some (0, (y15, y18, m17))
def eBX1_pickUp_6 (g : Shp) (x0 x1 x2 x3 : Int) (q : (Int × Int × Mem)) : Option (Int × (Int × Int × Mem)) := ebX1_pickUp_6 g x0 x1 x2 x3 q.1 q.2.1 q.2.2
def ebX1_pickUp_99 (g : Shp) (x0 x1 x2 x4 : Int) (m : Mem) : Option (Int × Mem) :=
  ck ((0 : Int) ≤ x1 ∧ x1 < 3) <|
  vm (ms m x0 9 (w32 ((m x0 9) + (m (x0 + 7) x1)))) fun m3 =>
  bd2 (eX1_handOver g x0 x2 x1 ((-4)) m3) fun v4 m5 =>
  bd2 (eX1_strip g x0 x1 m5) fun v7 m8 =>
  some (x4, m8)
def ebX1_pickUp_0 (g : Shp) (x0 x1 x2 x3 : Int) (m : Mem) : Option (Int × Mem) :=
  bdl (iter (eBX1_pickUp_6 g x0 x1 x2 x3) 100000 (0, 0, m)) fun cv1 sv2 =>
  ebX1_pickUp_99 g x0 x1 x2 sv2.1 sv2.2.2
def eX1_pickUp (g : Shp) (x0 x1 x2 x3 : Int) (m : Mem) : Option (Int × Mem) := ebX1_pickUp_0 g x0 x1 x2 x3 m
set_option maxRecDepth 20000 in
theorem qX0_setStone_102 {g : Shp} {m : Mem} {x1 x2 x3 : Int} (h : Sh g m) (hx1 : gk g x1 = 10) : bX0_setStone_102 g 5 x1 x2 x3 m = ebX0_setStone_102 g x1 x2 x3 m := by
  unfold bX0_setStone_102 ebX0_setStone_102
  refine vv_c (fun y1 ey1 => ?_)
  rfl
theorem nX0_setStone_102 {g : Shp} {m : Mem} {x1 x2 x3 : Int} (h : Sh g m) (hx1 : gk g x1 = 10) {c1 : Int} {s1 : (Int × Mem)} (hF : ebX0_setStone_102 g x1 x2 x3 m = some (c1, s1)) : Sh g s1.2 := by
  unfold ebX0_setStone_102 at hF
  obtain ⟨y1, ey1, hF⟩ := vv_ok hF
  cases hF
  exact h
set_option maxRecDepth 20000 in
theorem qX0_setStone_16 {g : Shp} {m : Mem} {x1 x2 x3 : Int} (h : Sh g m) (hx1 : gk g x1 = 10) : bX0_setStone_16 g 5 x1 x2 x3 m = ebX0_setStone_16 g x1 x2 x3 m := by
  unfold bX0_setStone_16 ebX0_setStone_16
  refine if_c (fun hc1 => ?_) (fun hc1 => ?_)
  · rfl
  · have k2 := s_5_3 h
    rewrite [k2.1, ck_t k2.2.1]
    try rewrite [k2.2.2]
    refine ck_c (fun i3 => ?_)
    refine if_c (fun hc4 => ?_) (fun hc4 => ?_)
    · exact qX0_setStone_102 h hx1
    · have k5 := s_5_4 h
      rewrite [k5.1, ck_t k5.2.1]
      try rewrite [k5.2.2]
      refine ck_c (fun i6 => ?_)
      refine if_c (fun hc7 => ?_) (fun hc7 => ?_)
      · exact qX0_setStone_102 h hx1
      · refine bd2_q (qX0_isNext h ) (fun v8 m9 h10 => ?_)
        have hm9 := nX0_isNext h  ((qX0_isNext h ).symm.trans h10)
        refine if_c (fun hc11 => ?_) (fun hc11 => ?_)
        · exact qX0_setStone_102 hm9 hx1
        · rfl
theorem nX0_setStone_16 {g : Shp} {m : Mem} {x1 x2 x3 : Int} (h : Sh g m) (hx1 : gk g x1 = 10) {c1 : Int} {s1 : (Int × Mem)} (hF : ebX0_setStone_16 g x1 x2 x3 m = some (c1, s1)) : Sh g s1.2 := by
  unfold ebX0_setStone_16 at hF
  rcases if_ok hF with ⟨hc1, hF⟩ | ⟨hc1, hF⟩
  · cases hF
    exact h
  · have k2 := s_5_3 h
    obtain ⟨i3, hF⟩ := ck_ok hF
    rcases if_ok hF with ⟨hc4, hF⟩ | ⟨hc4, hF⟩
    · exact nX0_setStone_102 h hx1 hF
    · have k5 := s_5_4 h
      obtain ⟨i6, hF⟩ := ck_ok hF
      rcases if_ok hF with ⟨hc7, hF⟩ | ⟨hc7, hF⟩
      · exact nX0_setStone_102 h hx1 hF
      · obtain ⟨v8, m9, h10, hF⟩ := bd2_ok hF
        have hm9 := nX0_isNext h  h10
        rcases if_ok hF with ⟨hc11, hF⟩ | ⟨hc11, hF⟩
        · exact nX0_setStone_102 hm9 hx1 hF
        · cases hF
          exact hm9
theorem nlX0_setStone_16 {g : Shp} {x1 x2 : Int} (hx1 : gk g x1 = 10) {n : Nat} {s0 s1 : (Int × Mem)} {c1 : Int} (h : Sh g s0.2) (hI : iter (eBX0_setStone_16 g x1 x2) n s0 = some (c1, s1)) : Sh g s1.2 :=
  iter_inv (B := eBX0_setStone_16 g x1 x2) (fun q => Sh g q.2) (fun s c s' hs hB => nX0_setStone_16 hs hx1 hB) n s0 c1 s1 h hI
theorem qlX0_setStone_16 {g : Shp} {x1 x2 : Int} (hx1 : gk g x1 = 10) {n : Nat} {s0 : (Int × Mem)} (h : Sh g s0.2) : iter (BX0_setStone_16 g 5 x1 x2) n s0 = iter (eBX0_setStone_16 g x1 x2) n s0 :=
  iter_eq (B := BX0_setStone_16 g 5 x1 x2) (E := eBX0_setStone_16 g x1 x2) (fun q => Sh g q.2) (fun s hs => qX0_setStone_16 hs hx1) (fun s c s' hs hB => nX0_setStone_16 hs hx1 ((qX0_setStone_16 hs hx1).symm.trans hB)) n s0 h
set_option maxRecDepth 20000 in
theorem qX0_setStone_108 {g : Shp} {m : Mem} {x1 x2 : Int} (h : Sh g m) (hx1 : gk g x1 = 10) : bX0_setStone_108 g 5 x1 x2 m = ebX0_setStone_108 g x1 x2 m := by
  unfold bX0_setStone_108 ebX0_setStone_108
  refine vv_c (fun y1 ey1 => ?_)
  rfl
theorem nX0_setStone_108 {g : Shp} {m : Mem} {x1 x2 : Int} (h : Sh g m) (hx1 : gk g x1 = 10) {c1 : Int} {s1 : (Int × Int × Mem)} (hF : ebX0_setStone_108 g x1 x2 m = some (c1, s1)) : Sh g s1.2.2 := by
  unfold ebX0_setStone_108 at hF
  obtain ⟨y1, ey1, hF⟩ := vv_ok hF
  cases hF
  exact h
set_option maxRecDepth 20000 in
theorem qX0_setStone_10 {g : Shp} {m : Mem} {x1 x2 : Int} (h : Sh g m) (hx1 : gk g x1 = 10) : bX0_setStone_10 g 5 x1 x2 m = ebX0_setStone_10 g x1 x2 m := by
  unfold bX0_setStone_10 ebX0_setStone_10
  refine if_c (fun hc1 => ?_) (fun hc1 => ?_)
  · rfl
  · refine bdl_q (qlX0_setStone_16 hx1 (n := 100000) (s0 := (0, m)) h) (fun cv2 sv3 hi4 => ?_)
    have h5 := nlX0_setStone_16 hx1 (s0 := (0, m)) h ((qlX0_setStone_16 hx1 (n := 100000) (s0 := (0, m)) h).symm.trans hi4)
    refine if_c (fun hc6 => ?_) (fun hc6 => ?_)
    · rfl
    · exact qX0_setStone_108 h5 hx1
theorem nX0_setStone_10 {g : Shp} {m : Mem} {x1 x2 : Int} (h : Sh g m) (hx1 : gk g x1 = 10) {c1 : Int} {s1 : (Int × Int × Mem)} (hF : ebX0_setStone_10 g x1 x2 m = some (c1, s1)) : Sh g s1.2.2 := by
  unfold ebX0_setStone_10 at hF
  rcases if_ok hF with ⟨hc1, hF⟩ | ⟨hc1, hF⟩
  · cases hF
    exact h
  · obtain ⟨cv2, sv3, hi4, hF⟩ := bdl_ok hF
    have h5 := nlX0_setStone_16 hx1 (s0 := (0, m)) h hi4
    rcases if_ok hF with ⟨hc6, hF⟩ | ⟨hc6, hF⟩
    · cases hF
      exact h5
    · exact nX0_setStone_108 h5 hx1 hF
theorem nlX0_setStone_10 {g : Shp} {x1 : Int} (hx1 : gk g x1 = 10) {n : Nat} {s0 s1 : (Int × Int × Mem)} {c1 : Int} (h : Sh g s0.2.2) (hI : iter (eBX0_setStone_10 g x1) n s0 = some (c1, s1)) : Sh g s1.2.2 :=
  iter_inv (B := eBX0_setStone_10 g x1) (fun q => Sh g q.2.2) (fun s c s' hs hB => nX0_setStone_10 hs hx1 hB) n s0 c1 s1 h hI
theorem qlX0_setStone_10 {g : Shp} {x1 : Int} (hx1 : gk g x1 = 10) {n : Nat} {s0 : (Int × Int × Mem)} (h : Sh g s0.2.2) : iter (BX0_setStone_10 g 5 x1) n s0 = iter (eBX0_setStone_10 g x1) n s0 :=
  iter_eq (B := BX0_setStone_10 g 5 x1) (E := eBX0_setStone_10 g x1) (fun q => Sh g q.2.2) (fun s hs => qX0_setStone_10 hs hx1) (fun s c s' hs hB => nX0_setStone_10 hs hx1 ((qX0_setStone_10 hs hx1).symm.trans hB)) n s0 h
set_option maxRecDepth 20000 in
theorem qX0_setStone_49 {g : Shp} {m : Mem} {x1 x2 x3 : Int} (h : Sh g m) (hx1 : gk g x1 = 10) : bX0_setStone_49 g 5 x1 x2 x3 m = ebX0_setStone_49 g x1 x2 x3 m := by
  unfold bX0_setStone_49 ebX0_setStone_49
  refine bd2_q (qX0_isAslant h ) (fun v1 m2 h3 => ?_)
  have hm2 := nX0_isAslant h  ((qX0_isAslant h ).symm.trans h3)
  refine bd2_q (qX0_ownWorth hm2 ) (fun v4 m5 h6 => ?_)
  have hm5 := nX0_ownWorth hm2  ((qX0_ownWorth hm2 ).symm.trans h6)
  refine vm_c (fun m7 em7 => ?_)
  have hm7 := hm5.s em7 (nRf (sk_5 hm5) (by decide) (by decide))
  have k8 := s_5_3 hm7
  rewrite [k8.1, ck_t k8.2.1]
  try rewrite [k8.2.2]
  refine ck_c (fun i9 => ?_)
  refine bd2_q (qX9_add hm7 hx1) (fun v10 m11 h12 => ?_)
  have hm11 := nX9_add hm7 hx1 ((qX9_add hm7 hx1).symm.trans h12)
  have k13 := s_5_4 hm11
  rewrite [k13.1, ck_t k13.2.1]
  try rewrite [k13.2.2]
  refine ck_c (fun i14 => ?_)
  try rewrite [k13.2.2]
  refine ck_c (fun i15 => ?_)
  refine vm_c (fun m16 em16 => ?_)
  have hm16 := hm11.s em16 (nRa k13.2.1 (by decide))
  refine bd2_q (qX0_goBehind hm16 ) (fun v17 m18 h19 => ?_)
  have hm18 := nX0_goBehind hm16  ((qX0_goBehind hm16 ).symm.trans h19)
  rfl
theorem nX0_setStone_49 {g : Shp} {m : Mem} {x1 x2 x3 : Int} (h : Sh g m) (hx1 : gk g x1 = 10) {r : Int} {m' : Mem} (hF : ebX0_setStone_49 g x1 x2 x3 m = some (r, m')) : Sh g m' := by
  unfold ebX0_setStone_49 at hF
  obtain ⟨v1, m2, h3, hF⟩ := bd2_ok hF
  have hm2 := nX0_isAslant h  h3
  obtain ⟨v4, m5, h6, hF⟩ := bd2_ok hF
  have hm5 := nX0_ownWorth hm2  h6
  obtain ⟨m7, em7, hF⟩ := vm_ok hF
  have hm7 := hm5.s em7 (nRf (sk_5 hm5) (by decide) (by decide))
  have k8 := s_5_3 hm7
  obtain ⟨i9, hF⟩ := ck_ok hF
  obtain ⟨v10, m11, h12, hF⟩ := bd2_ok hF
  have hm11 := nX9_add hm7 hx1 h12
  have k13 := s_5_4 hm11
  obtain ⟨i14, hF⟩ := ck_ok hF
  obtain ⟨i15, hF⟩ := ck_ok hF
  obtain ⟨m16, em16, hF⟩ := vm_ok hF
  have hm16 := hm11.s em16 (nRa k13.2.1 (by decide))
  obtain ⟨v17, m18, h19, hF⟩ := bd2_ok hF
  have hm18 := nX0_goBehind hm16  h19
  cases hF
  exact hm18
set_option maxRecDepth 20000 in
theorem qX0_setStone_114 {g : Shp} {m : Mem} (h : Sh g m)  : bX0_setStone_114 g m = ebX0_setStone_114 g m := by
  unfold bX0_setStone_114 ebX0_setStone_114
  rfl
theorem nX0_setStone_114 {g : Shp} {m : Mem} (h : Sh g m)  {r : Int} {m' : Mem} (hF : ebX0_setStone_114 g m = some (r, m')) : Sh g m' := by
  unfold ebX0_setStone_114 at hF
  cases hF
  exact h
set_option maxRecDepth 20000 in
theorem qX0_setStone_0 {g : Shp} {m : Mem} {x1 : Int} (h : Sh g m) (hx1 : gk g x1 = 10) : bX0_setStone_0 g 5 x1 m = ebX0_setStone_0 g x1 m := by
  unfold bX0_setStone_0 ebX0_setStone_0
  refine vv_c (fun y1 ey1 => ?_)
  refine bdl_q (qlX0_setStone_10 hx1 (n := 100000) (s0 := (y1, 0, m)) h) (fun cv2 sv3 hi4 => ?_)
  have h5 := nlX0_setStone_10 hx1 (s0 := (y1, 0, m)) h ((qlX0_setStone_10 hx1 (n := 100000) (s0 := (y1, 0, m)) h).symm.trans hi4)
  refine if_c (fun hc6 => ?_) (fun hc6 => ?_)
  · exact qX0_setStone_49 h5 hx1
  · exact qX0_setStone_114 h5
theorem nX0_setStone_0 {g : Shp} {m : Mem} {x1 : Int} (h : Sh g m) (hx1 : gk g x1 = 10) {r : Int} {m' : Mem} (hF : ebX0_setStone_0 g x1 m = some (r, m')) : Sh g m' := by
  unfold ebX0_setStone_0 at hF
  obtain ⟨y1, ey1, hF⟩ := vv_ok hF
  obtain ⟨cv2, sv3, hi4, hF⟩ := bdl_ok hF
  have h5 := nlX0_setStone_10 hx1 (s0 := (y1, 0, m)) h hi4
  rcases if_ok hF with ⟨hc6, hF⟩ | ⟨hc6, hF⟩
  · exact nX0_setStone_49 h5 hx1 hF
  · exact nX0_setStone_114 h5  hF
theorem qX0_setStone {g : Shp} {m : Mem} {x1 : Int} (h : Sh g m) (hx1 : gk g x1 = 10) : fX0_setStone g 5 x1 m = eX0_setStone g x1 m := qX0_setStone_0 h hx1
theorem nX0_setStone {g : Shp} {m : Mem} {x1 : Int} (h : Sh g m) (hx1 : gk g x1 = 10) {r : Int} {m' : Mem} (hF : eX0_setStone g x1 m = some (r, m')) : Sh g m' := nX0_setStone_0 h hx1 hF
set_option maxRecDepth 20000 in
theorem qJ7_fill_53178_5 {g : Shp} {m : Mem} {x0 x1 x2 x3 : Int} (h : Sh g m) (hx0 : gk g x0 = 20) : bJ7_fill_53178_5 g x0 x1 x2 x3 m = ebJ7_fill_53178_5 g x0 x1 x2 x3 m := by
  unfold bJ7_fill_53178_5 ebJ7_fill_53178_5
  refine if_c (fun hc1 => ?_) (fun hc1 => ?_)
  · rfl
  · refine ck_c (fun i2 => ?_)
    refine vm_c (fun m3 em3 => ?_)
    have hm3 := h.s em3 (nRa hx0 (by decide))
    refine vv_c (fun y4 ey4 => ?_)
    rfl
theorem nJ7_fill_53178_5 {g : Shp} {m : Mem} {x0 x1 x2 x3 : Int} (h : Sh g m) (hx0 : gk g x0 = 20) {c1 : Int} {s1 : (Int × Mem)} (hF : ebJ7_fill_53178_5 g x0 x1 x2 x3 m = some (c1, s1)) : Sh g s1.2 := by
  unfold ebJ7_fill_53178_5 at hF
  rcases if_ok hF with ⟨hc1, hF⟩ | ⟨hc1, hF⟩
  · cases hF
    exact h
  · obtain ⟨i2, hF⟩ := ck_ok hF
    obtain ⟨m3, em3, hF⟩ := vm_ok hF
    have hm3 := h.s em3 (nRa hx0 (by decide))
    obtain ⟨y4, ey4, hF⟩ := vv_ok hF
    cases hF
    exact hm3
theorem nlJ7_fill_53178_5 {g : Shp} {x0 x1 x3 : Int} (hx0 : gk g x0 = 20) {n : Nat} {s0 s1 : (Int × Mem)} {c1 : Int} (h : Sh g s0.2) (hI : iter (eBJ7_fill_53178_5 g x0 x1 x3) n s0 = some (c1, s1)) : Sh g s1.2 :=
  iter_inv (B := eBJ7_fill_53178_5 g x0 x1 x3) (fun q => Sh g q.2) (fun s c s' hs hB => nJ7_fill_53178_5 hs hx0 hB) n s0 c1 s1 h hI
theorem qlJ7_fill_53178_5 {g : Shp} {x0 x1 x3 : Int} (hx0 : gk g x0 = 20) {n : Nat} {s0 : (Int × Mem)} (h : Sh g s0.2) : iter (BJ7_fill_53178_5 g x0 x1 x3) n s0 = iter (eBJ7_fill_53178_5 g x0 x1 x3) n s0 :=
  iter_eq (B := BJ7_fill_53178_5 g x0 x1 x3) (E := eBJ7_fill_53178_5 g x0 x1 x3) (fun q => Sh g q.2) (fun s hs => qJ7_fill_53178_5 hs hx0) (fun s c s' hs hB => nJ7_fill_53178_5 hs hx0 ((qJ7_fill_53178_5 hs hx0).symm.trans hB)) n s0 h
set_option maxRecDepth 20000 in
theorem qJ7_fill_53178_20 {g : Shp} {m : Mem} (h : Sh g m)  : bJ7_fill_53178_20 g m = ebJ7_fill_53178_20 g m := by
  unfold bJ7_fill_53178_20 ebJ7_fill_53178_20
  rfl
theorem nJ7_fill_53178_20 {g : Shp} {m : Mem} (h : Sh g m)  {r : Int} {m' : Mem} (hF : ebJ7_fill_53178_20 g m = some (r, m')) : Sh g m' := by
  unfold ebJ7_fill_53178_20 at hF
  cases hF
  exact h
set_option maxRecDepth 20000 in
theorem qJ7_fill_53178_0 {g : Shp} {m : Mem} {x0 x1 : Int} (h : Sh g m) (hx0 : gk g x0 = 20) : bJ7_fill_53178_0 g x0 x1 m = ebJ7_fill_53178_0 g x0 x1 m := by
  unfold bJ7_fill_53178_0 ebJ7_fill_53178_0
  refine vv_c (fun y1 ey1 => ?_)
  refine bdl_q (qlJ7_fill_53178_5 hx0 (n := 100000) (s0 := (0, m)) h) (fun cv2 sv3 hi4 => ?_)
  have h5 := nlJ7_fill_53178_5 hx0 (s0 := (0, m)) h ((qlJ7_fill_53178_5 hx0 (n := 100000) (s0 := (0, m)) h).symm.trans hi4)
  exact qJ7_fill_53178_20 h5 
theorem nJ7_fill_53178_0 {g : Shp} {m : Mem} {x0 x1 : Int} (h : Sh g m) (hx0 : gk g x0 = 20) {r : Int} {m' : Mem} (hF : ebJ7_fill_53178_0 g x0 x1 m = some (r, m')) : Sh g m' := by
  unfold ebJ7_fill_53178_0 at hF
  obtain ⟨y1, ey1, hF⟩ := vv_ok hF
  obtain ⟨cv2, sv3, hi4, hF⟩ := bdl_ok hF
  have h5 := nlJ7_fill_53178_5 hx0 (s0 := (0, m)) h hi4
  exact nJ7_fill_53178_20 h5  hF
theorem qJ7_fill_53178 {g : Shp} {m : Mem} {x0 x1 : Int} (h : Sh g m) (hx0 : gk g x0 = 20) : fJ7_fill_53178 g x0 x1 m = eJ7_fill_53178 g x0 x1 m := qJ7_fill_53178_0 h hx0
theorem nJ7_fill_53178 {g : Shp} {m : Mem} {x0 x1 : Int} (h : Sh g m) (hx0 : gk g x0 = 20) {r : Int} {m' : Mem} (hF : eJ7_fill_53178 g x0 x1 m = some (r, m')) : Sh g m' := nJ7_fill_53178_0 h hx0 hF
set_option maxRecDepth 20000 in
theorem qJ7_rangeCheck_23922_0 {g : Shp} {m : Mem} {x0 x1 x2 : Int} (h : Sh g m)  : bJ7_rangeCheck_23922_0 g x0 x1 x2 m = ebJ7_rangeCheck_23922_0 g x0 x1 x2 m := by
  unfold bJ7_rangeCheck_23922_0 ebJ7_rangeCheck_23922_0
  refine if_c (fun hc1 => ?_) (fun hc1 => ?_)
  · refine if_c (fun hc2 => ?_) (fun hc2 => ?_)
    · refine if_c (fun hc3 => ?_) (fun hc3 => ?_)
      · rfl
      · rfl
    · rfl
  · rfl
theorem nJ7_rangeCheck_23922_0 {g : Shp} {m : Mem} {x0 x1 x2 : Int} (h : Sh g m)  {r : Int} {m' : Mem} (hF : ebJ7_rangeCheck_23922_0 g x0 x1 x2 m = some (r, m')) : Sh g m' := by
  unfold ebJ7_rangeCheck_23922_0 at hF
  rcases if_ok hF with ⟨hc1, hF⟩ | ⟨hc1, hF⟩
  · rcases if_ok hF with ⟨hc2, hF⟩ | ⟨hc2, hF⟩
    · rcases if_ok hF with ⟨hc3, hF⟩ | ⟨hc3, hF⟩
      · cases hF
        exact h
      · exact absurd hF (by simp)
    · exact absurd hF (by simp)
  · exact absurd hF (by simp)
theorem qJ7_rangeCheck_23922 {g : Shp} {m : Mem} {x0 x1 x2 : Int} (h : Sh g m)  : fJ7_rangeCheck_23922 g x0 x1 x2 m = eJ7_rangeCheck_23922 g x0 x1 x2 m := qJ7_rangeCheck_23922_0 h 
theorem nJ7_rangeCheck_23922 {g : Shp} {m : Mem} {x0 x1 x2 : Int} (h : Sh g m)  {r : Int} {m' : Mem} (hF : eJ7_rangeCheck_23922 g x0 x1 x2 m = some (r, m')) : Sh g m' := nJ7_rangeCheck_23922_0 h  hF
set_option maxRecDepth 20000 in
theorem qJ7_fill_fda19_10 {g : Shp} {m : Mem} {x0 x2 x3 x4 : Int} (h : Sh g m) (hx0 : gk g x0 = 20) : bJ7_fill_fda19_10 g x0 x2 x3 x4 m = ebJ7_fill_fda19_10 g x0 x2 x3 x4 m := by
  unfold bJ7_fill_fda19_10 ebJ7_fill_fda19_10
  refine if_c (fun hc1 => ?_) (fun hc1 => ?_)
  · rfl
  · refine ck_c (fun i2 => ?_)
    refine vm_c (fun m3 em3 => ?_)
    have hm3 := h.s em3 (nRa hx0 (by decide))
    refine vv_c (fun y4 ey4 => ?_)
    rfl
theorem nJ7_fill_fda19_10 {g : Shp} {m : Mem} {x0 x2 x3 x4 : Int} (h : Sh g m) (hx0 : gk g x0 = 20) {c1 : Int} {s1 : (Int × Mem)} (hF : ebJ7_fill_fda19_10 g x0 x2 x3 x4 m = some (c1, s1)) : Sh g s1.2 := by
  unfold ebJ7_fill_fda19_10 at hF
  rcases if_ok hF with ⟨hc1, hF⟩ | ⟨hc1, hF⟩
  · cases hF
    exact h
  · obtain ⟨i2, hF⟩ := ck_ok hF
    obtain ⟨m3, em3, hF⟩ := vm_ok hF
    have hm3 := h.s em3 (nRa hx0 (by decide))
    obtain ⟨y4, ey4, hF⟩ := vv_ok hF
    cases hF
    exact hm3
theorem nlJ7_fill_fda19_10 {g : Shp} {x0 x2 x3 : Int} (hx0 : gk g x0 = 20) {n : Nat} {s0 s1 : (Int × Mem)} {c1 : Int} (h : Sh g s0.2) (hI : iter (eBJ7_fill_fda19_10 g x0 x2 x3) n s0 = some (c1, s1)) : Sh g s1.2 :=
  iter_inv (B := eBJ7_fill_fda19_10 g x0 x2 x3) (fun q => Sh g q.2) (fun s c s' hs hB => nJ7_fill_fda19_10 hs hx0 hB) n s0 c1 s1 h hI
theorem qlJ7_fill_fda19_10 {g : Shp} {x0 x2 x3 : Int} (hx0 : gk g x0 = 20) {n : Nat} {s0 : (Int × Mem)} (h : Sh g s0.2) : iter (BJ7_fill_fda19_10 g x0 x2 x3) n s0 = iter (eBJ7_fill_fda19_10 g x0 x2 x3) n s0 :=
  iter_eq (B := BJ7_fill_fda19_10 g x0 x2 x3) (E := eBJ7_fill_fda19_10 g x0 x2 x3) (fun q => Sh g q.2) (fun s hs => qJ7_fill_fda19_10 hs hx0) (fun s c s' hs hB => nJ7_fill_fda19_10 hs hx0 ((qJ7_fill_fda19_10 hs hx0).symm.trans hB)) n s0 h
set_option maxRecDepth 20000 in
theorem qJ7_fill_fda19_27 {g : Shp} {m : Mem} (h : Sh g m)  : bJ7_fill_fda19_27 g m = ebJ7_fill_fda19_27 g m := by
  unfold bJ7_fill_fda19_27 ebJ7_fill_fda19_27
  rfl
theorem nJ7_fill_fda19_27 {g : Shp} {m : Mem} (h : Sh g m)  {r : Int} {m' : Mem} (hF : ebJ7_fill_fda19_27 g m = some (r, m')) : Sh g m' := by
  unfold ebJ7_fill_fda19_27 at hF
  cases hF
  exact h
set_option maxRecDepth 20000 in
theorem qJ7_fill_fda19_0 {g : Shp} {m : Mem} {x0 x1 x2 x3 : Int} (h : Sh g m) (hx0 : gk g x0 = 20) : bJ7_fill_fda19_0 g x0 x1 x2 x3 m = ebJ7_fill_fda19_0 g x0 x1 x2 x3 m := by
  unfold bJ7_fill_fda19_0 ebJ7_fill_fda19_0
  refine bd2_q (qJ7_rangeCheck_23922 h ) (fun v1 m2 h3 => ?_)
  have hm2 := nJ7_rangeCheck_23922 h  ((qJ7_rangeCheck_23922 h ).symm.trans h3)
  refine bdl_q (qlJ7_fill_fda19_10 hx0 (n := 100000) (s0 := (x1, m2)) hm2) (fun cv4 sv5 hi6 => ?_)
  have h7 := nlJ7_fill_fda19_10 hx0 (s0 := (x1, m2)) hm2 ((qlJ7_fill_fda19_10 hx0 (n := 100000) (s0 := (x1, m2)) hm2).symm.trans hi6)
  exact qJ7_fill_fda19_27 h7 
theorem nJ7_fill_fda19_0 {g : Shp} {m : Mem} {x0 x1 x2 x3 : Int} (h : Sh g m) (hx0 : gk g x0 = 20) {r : Int} {m' : Mem} (hF : ebJ7_fill_fda19_0 g x0 x1 x2 x3 m = some (r, m')) : Sh g m' := by
  unfold ebJ7_fill_fda19_0 at hF
  obtain ⟨v1, m2, h3, hF⟩ := bd2_ok hF
  have hm2 := nJ7_rangeCheck_23922 h  h3
  obtain ⟨cv4, sv5, hi6, hF⟩ := bdl_ok hF
  have h7 := nlJ7_fill_fda19_10 hx0 (s0 := (x1, m2)) hm2 hi6
  exact nJ7_fill_fda19_27 h7  hF
theorem qJ7_fill_fda19 {g : Shp} {m : Mem} {x0 x1 x2 x3 : Int} (h : Sh g m) (hx0 : gk g x0 = 20) : fJ7_fill_fda19 g x0 x1 x2 x3 m = eJ7_fill_fda19 g x0 x1 x2 x3 m := qJ7_fill_fda19_0 h hx0
theorem nJ7_fill_fda19 {g : Shp} {m : Mem} {x0 x1 x2 x3 : Int} (h : Sh g m) (hx0 : gk g x0 = 20) {r : Int} {m' : Mem} (hF : eJ7_fill_fda19 g x0 x1 x2 x3 m = some (r, m')) : Sh g m' := nJ7_fill_fda19_0 h hx0 hF
set_option maxRecDepth 20000 in
theorem qX1_strip_0 {g : Shp} {m : Mem} {x0 x1 : Int} (h : Sh g m) (hx0 : gk g x0 = 2) : bX1_strip_0 g x0 x1 m = ebX1_strip_0 g x0 x1 m := by
  unfold bX1_strip_0 ebX1_strip_0
  have k1 := u2_2 h (r := x0) (q := x0 + 3) hx0 rfl
  rewrite [k1.1, ck_t k1.2.1]
  try rewrite [k1.2.2]
  refine ck_c (fun i2 => ?_)
  refine vm_c (fun m3 em3 => ?_)
  have hm3 := h.s em3 (nRa k1.2.1 (by decide))
  have k4 := u2_3 hm3 (r := x0) (q := x0 + 4) hx0 rfl
  rewrite [k4.1, ck_t k4.2.1]
  try rewrite [k4.2.2]
  refine ck_c (fun i5 => ?_)
  refine vm_c (fun m6 em6 => ?_)
  have hm6 := hm3.s em6 (nRa k4.2.1 (by decide))
  have k7 := u2_4 hm6 (r := x0) (q := x0 + 5) hx0 rfl
  rewrite [k7.1, ck_t k7.2.1]
  try rewrite [k7.2.2]
  refine ck_c (fun i8 => ?_)
  refine vm_c (fun m9 em9 => ?_)
  have hm9 := hm6.s em9 (nRa k7.2.1 (by decide))
  have k10 := u2_6 hm9 (r := x0) (q := x0 + 7) hx0 rfl
  rewrite [k10.1, ck_t k10.2.1]
  try rewrite [k10.2.2]
  refine ck_c (fun i11 => ?_)
  refine vm_c (fun m12 em12 => ?_)
  have hm12 := hm9.s em12 (nRa k10.2.1 (by decide))
  have k13 := u2_5 hm12 (r := x0) (q := x0 + 6) hx0 rfl
  rewrite [k13.1, ck_t k13.2.1]
  refine bd2_q (qJ7_fill_fda19 hm12 k13.2.1) (fun v14 m15 h16 => ?_)
  have hm15 := nJ7_fill_fda19 hm12 k13.2.1 ((qJ7_fill_fda19 hm12 k13.2.1).symm.trans h16)
  rfl
theorem nX1_strip_0 {g : Shp} {m : Mem} {x0 x1 : Int} (h : Sh g m) (hx0 : gk g x0 = 2) {r : Int} {m' : Mem} (hF : ebX1_strip_0 g x0 x1 m = some (r, m')) : Sh g m' := by
  unfold ebX1_strip_0 at hF
  have k1 := u2_2 h (r := x0) (q := x0 + 3) hx0 rfl
  obtain ⟨i2, hF⟩ := ck_ok hF
  obtain ⟨m3, em3, hF⟩ := vm_ok hF
  have hm3 := h.s em3 (nRa k1.2.1 (by decide))
  have k4 := u2_3 hm3 (r := x0) (q := x0 + 4) hx0 rfl
  obtain ⟨i5, hF⟩ := ck_ok hF
  obtain ⟨m6, em6, hF⟩ := vm_ok hF
  have hm6 := hm3.s em6 (nRa k4.2.1 (by decide))
  have k7 := u2_4 hm6 (r := x0) (q := x0 + 5) hx0 rfl
  obtain ⟨i8, hF⟩ := ck_ok hF
  obtain ⟨m9, em9, hF⟩ := vm_ok hF
  have hm9 := hm6.s em9 (nRa k7.2.1 (by decide))
  have k10 := u2_6 hm9 (r := x0) (q := x0 + 7) hx0 rfl
  obtain ⟨i11, hF⟩ := ck_ok hF
  obtain ⟨m12, em12, hF⟩ := vm_ok hF
  have hm12 := hm9.s em12 (nRa k10.2.1 (by decide))
  have k13 := u2_5 hm12 (r := x0) (q := x0 + 6) hx0 rfl
  obtain ⟨v14, m15, h16, hF⟩ := bd2_ok hF
  have hm15 := nJ7_fill_fda19 hm12 k13.2.1 h16
  cases hF
  exact hm15
theorem qX1_strip {g : Shp} {m : Mem} {x0 x1 : Int} (h : Sh g m) (hx0 : gk g x0 = 2) : fX1_strip g x0 x1 m = eX1_strip g x0 x1 m := qX1_strip_0 h hx0
theorem nX1_strip {g : Shp} {m : Mem} {x0 x1 : Int} (h : Sh g m) (hx0 : gk g x0 = 2) {r : Int} {m' : Mem} (hF : eX1_strip g x0 x1 m = some (r, m')) : Sh g m' := nX1_strip_0 h hx0 hF
set_option maxRecDepth 20000 in
theorem qX1_begin_29 {g : Shp} {m : Mem} {x0 x1 x2 : Int} (h : Sh g m) (hx0 : gk g x0 = 2) (hx1 : gk g x1 = 8) : bX1_begin_29 g x0 x1 x2 m = ebX1_begin_29 g x0 x1 x2 m := by
  unfold bX1_begin_29 ebX1_begin_29
  refine if_c (fun hc1 => ?_) (fun hc1 => ?_)
  · rfl
  · refine bd2_q (qX1_strip h hx0) (fun v2 m3 h4 => ?_)
    have hm3 := nX1_strip h hx0 ((qX1_strip h hx0).symm.trans h4)
    refine vv_c (fun y5 ey5 => ?_)
    rfl
theorem nX1_begin_29 {g : Shp} {m : Mem} {x0 x1 x2 : Int} (h : Sh g m) (hx0 : gk g x0 = 2) (hx1 : gk g x1 = 8) {c1 : Int} {s1 : (Int × Mem)} (hF : ebX1_begin_29 g x0 x1 x2 m = some (c1, s1)) : Sh g s1.2 := by
  unfold ebX1_begin_29 at hF
  rcases if_ok hF with ⟨hc1, hF⟩ | ⟨hc1, hF⟩
  · cases hF
    exact h
  · obtain ⟨v2, m3, h4, hF⟩ := bd2_ok hF
    have hm3 := nX1_strip h hx0 h4
    obtain ⟨y5, ey5, hF⟩ := vv_ok hF
    cases hF
    exact hm3
theorem nlX1_begin_29 {g : Shp} {x0 x1 : Int} (hx0 : gk g x0 = 2) (hx1 : gk g x1 = 8) {n : Nat} {s0 s1 : (Int × Mem)} {c1 : Int} (h : Sh g s0.2) (hI : iter (eBX1_begin_29 g x0 x1) n s0 = some (c1, s1)) : Sh g s1.2 :=
  iter_inv (B := eBX1_begin_29 g x0 x1) (fun q => Sh g q.2) (fun s c s' hs hB => nX1_begin_29 hs hx0 hx1 hB) n s0 c1 s1 h hI
theorem qlX1_begin_29 {g : Shp} {x0 x1 : Int} (hx0 : gk g x0 = 2) (hx1 : gk g x1 = 8) {n : Nat} {s0 : (Int × Mem)} (h : Sh g s0.2) : iter (BX1_begin_29 g x0 x1) n s0 = iter (eBX1_begin_29 g x0 x1) n s0 :=
  iter_eq (B := BX1_begin_29 g x0 x1) (E := eBX1_begin_29 g x0 x1) (fun q => Sh g q.2) (fun s hs => qX1_begin_29 hs hx0 hx1) (fun s c s' hs hB => nX1_begin_29 hs hx0 hx1 ((qX1_begin_29 hs hx0 hx1).symm.trans hB)) n s0 h
set_option maxRecDepth 20000 in
theorem qX1_begin_45 {g : Shp} {m : Mem} {x0 x1 : Int} (h : Sh g m) (hx0 : gk g x0 = 2) (hx1 : gk g x1 = 8) : bX1_begin_45 g x0 x1 m = ebX1_begin_45 g x0 x1 m := by
  unfold bX1_begin_45 ebX1_begin_45
  refine vm_c (fun m1 em1 => ?_)
  have hm1 := h.s em1 (nRf hx0 (by decide) (by decide))
  refine vm_c (fun m2 em2 => ?_)
  have hm2 := hm1.s em2 (nRf hx0 (by decide) (by decide))
  refine vm_c (fun m3 em3 => ?_)
  have hm3 := hm2.s em3 (nRf hx0 (by decide) (by decide))
  rfl
theorem nX1_begin_45 {g : Shp} {m : Mem} {x0 x1 : Int} (h : Sh g m) (hx0 : gk g x0 = 2) (hx1 : gk g x1 = 8) {r : Int} {m' : Mem} (hF : ebX1_begin_45 g x0 x1 m = some (r, m')) : Sh g m' := by
  unfold ebX1_begin_45 at hF
  obtain ⟨m1, em1, hF⟩ := vm_ok hF
  have hm1 := h.s em1 (nRf hx0 (by decide) (by decide))
  obtain ⟨m2, em2, hF⟩ := vm_ok hF
  have hm2 := hm1.s em2 (nRf hx0 (by decide) (by decide))
  obtain ⟨m3, em3, hF⟩ := vm_ok hF
  have hm3 := hm2.s em3 (nRf hx0 (by decide) (by decide))
  cases hF
  exact hm3
set_option maxRecDepth 20000 in
theorem qX1_begin_0 {g : Shp} {m : Mem} {x0 x1 : Int} (h : Sh g m) (hx0 : gk g x0 = 2) (hx1 : gk g x1 = 8) : bX1_begin_0 g x0 x1 m = ebX1_begin_0 g x0 x1 m := by
  unfold bX1_begin_0 ebX1_begin_0
  have k1 := u2_0 h (r := x0) (q := x0 + 1) hx0 rfl
  rewrite [k1.1, ck_t k1.2.1]
  refine bd2_q (qJ7_fill_53178 h k1.2.1) (fun v2 m3 h4 => ?_)
  have hm3 := nJ7_fill_53178 h k1.2.1 ((qJ7_fill_53178 h k1.2.1).symm.trans h4)
  have k5 := u8_1 hm3 (r := x1) (q := x1 + 2) hx1 rfl
  rewrite [k5.1, ck_t k5.2.1]
  have k6 := u2_1 hm3 (r := x0) (q := x0 + 2) hx0 rfl
  rewrite [k6.1, ck_t k6.2.1]
  have k7 := u2_1 hm3 (r := x0) (q := x0 + 2) hx0 rfl
  rewrite [k7.2.2]
  try rewrite [k5.2.2]
  try rewrite [k6.2.2]
  refine ck_c (fun h8 => ?_)
  refine vm_c (fun m9 em9 => ?_)
  have hm9 := hm3.cp em9 k6.2.1
  refine bdl_q (qlX1_begin_29 hx0 hx1 (n := 100000) (s0 := (0, m9)) hm9) (fun cv10 sv11 hi12 => ?_)
  have h13 := nlX1_begin_29 hx0 hx1 (s0 := (0, m9)) hm9 ((qlX1_begin_29 hx0 hx1 (n := 100000) (s0 := (0, m9)) hm9).symm.trans hi12)
  exact qX1_begin_45 h13 hx0 hx1
theorem nX1_begin_0 {g : Shp} {m : Mem} {x0 x1 : Int} (h : Sh g m) (hx0 : gk g x0 = 2) (hx1 : gk g x1 = 8) {r : Int} {m' : Mem} (hF : ebX1_begin_0 g x0 x1 m = some (r, m')) : Sh g m' := by
  unfold ebX1_begin_0 at hF
  have k1 := u2_0 h (r := x0) (q := x0 + 1) hx0 rfl
  obtain ⟨v2, m3, h4, hF⟩ := bd2_ok hF
  have hm3 := nJ7_fill_53178 h k1.2.1 h4
  have k5 := u8_1 hm3 (r := x1) (q := x1 + 2) hx1 rfl
  have k6 := u2_1 hm3 (r := x0) (q := x0 + 2) hx0 rfl
  have k7 := u2_1 hm3 (r := x0) (q := x0 + 2) hx0 rfl
  obtain ⟨h8, hF⟩ := ck_ok hF
  obtain ⟨m9, em9, hF⟩ := vm_ok hF
  have hm9 := hm3.cp em9 k6.2.1
  obtain ⟨cv10, sv11, hi12, hF⟩ := bdl_ok hF
  have h13 := nlX1_begin_29 hx0 hx1 (s0 := (0, m9)) hm9 hi12
  exact nX1_begin_45 h13 hx0 hx1 hF
theorem qX1_begin {g : Shp} {m : Mem} {x0 x1 : Int} (h : Sh g m) (hx0 : gk g x0 = 2) (hx1 : gk g x1 = 8) : fX1_begin g x0 x1 m = eX1_begin g x0 x1 m := qX1_begin_0 h hx0 hx1
theorem nX1_begin {g : Shp} {m : Mem} {x0 x1 : Int} (h : Sh g m) (hx0 : gk g x0 = 2) (hx1 : gk g x1 = 8) {r : Int} {m' : Mem} (hF : eX1_begin g x0 x1 m = some (r, m')) : Sh g m' := nX1_begin_0 h hx0 hx1 hF
set_option maxRecDepth 20000 in
theorem qX1_copy_0 {g : Shp} {m : Mem} {x0 x1 : Int} (h : Sh g m) (hx0 : gk g x0 = 2) (hx1 : gk g x1 = 2) : bX1_copy_0 g x0 x1 m = ebX1_copy_0 g x0 x1 m := by
  unfold bX1_copy_0 ebX1_copy_0
  have k1 := u2_0 h (r := x1) (q := x1 + 1) hx1 rfl
  rewrite [k1.1, ck_t k1.2.1]
  have k2 := u2_0 h (r := x0) (q := x0 + 1) hx0 rfl
  rewrite [k2.1, ck_t k2.2.1]
  have k3 := u2_0 h (r := x0) (q := x0 + 1) hx0 rfl
  rewrite [k3.2.2]
  try rewrite [k1.2.2]
  try rewrite [k2.2.2]
  refine ck_c (fun h4 => ?_)
  refine vm_c (fun m5 em5 => ?_)
  have hm5 := h.cp em5 k2.2.1
  have k6 := u2_1 hm5 (r := x1) (q := x1 + 2) hx1 rfl
  rewrite [k6.1, ck_t k6.2.1]
  have k7 := u2_1 hm5 (r := x0) (q := x0 + 2) hx0 rfl
  rewrite [k7.1, ck_t k7.2.1]
  have k8 := u2_1 hm5 (r := x0) (q := x0 + 2) hx0 rfl
  rewrite [k8.2.2]
  try rewrite [k6.2.2]
  try rewrite [k7.2.2]
  refine ck_c (fun h9 => ?_)
  refine vm_c (fun m10 em10 => ?_)
  have hm10 := hm5.cp em10 k7.2.1
  have k11 := u2_2 hm10 (r := x1) (q := x1 + 3) hx1 rfl
  rewrite [k11.1, ck_t k11.2.1]
  have k12 := u2_2 hm10 (r := x0) (q := x0 + 3) hx0 rfl
  rewrite [k12.1, ck_t k12.2.1]
  have k13 := u2_2 hm10 (r := x0) (q := x0 + 3) hx0 rfl
  rewrite [k13.2.2]
  try rewrite [k11.2.2]
  try rewrite [k12.2.2]
  refine ck_c (fun h14 => ?_)
  refine vm_c (fun m15 em15 => ?_)
  have hm15 := hm10.cp em15 k12.2.1
  have k16 := u2_3 hm15 (r := x1) (q := x1 + 4) hx1 rfl
  rewrite [k16.1, ck_t k16.2.1]
  have k17 := u2_3 hm15 (r := x0) (q := x0 + 4) hx0 rfl
  rewrite [k17.1, ck_t k17.2.1]
  have k18 := u2_3 hm15 (r := x0) (q := x0 + 4) hx0 rfl
  rewrite [k18.2.2]
  try rewrite [k16.2.2]
  try rewrite [k17.2.2]
  refine ck_c (fun h19 => ?_)
  refine vm_c (fun m20 em20 => ?_)
  have hm20 := hm15.cp em20 k17.2.1
  have k21 := u2_4 hm20 (r := x1) (q := x1 + 5) hx1 rfl
  rewrite [k21.1, ck_t k21.2.1]
  have k22 := u2_4 hm20 (r := x0) (q := x0 + 5) hx0 rfl
  rewrite [k22.1, ck_t k22.2.1]
  have k23 := u2_4 hm20 (r := x0) (q := x0 + 5) hx0 rfl
  rewrite [k23.2.2]
  try rewrite [k21.2.2]
  try rewrite [k22.2.2]
  refine ck_c (fun h24 => ?_)
  refine vm_c (fun m25 em25 => ?_)
  have hm25 := hm20.cp em25 k22.2.1
  have k26 := u2_5 hm25 (r := x1) (q := x1 + 6) hx1 rfl
  rewrite [k26.1, ck_t k26.2.1]
  have k27 := u2_5 hm25 (r := x0) (q := x0 + 6) hx0 rfl
  rewrite [k27.1, ck_t k27.2.1]
  have k28 := u2_5 hm25 (r := x0) (q := x0 + 6) hx0 rfl
  rewrite [k28.2.2]
  try rewrite [k26.2.2]
  try rewrite [k27.2.2]
  refine ck_c (fun h29 => ?_)
  refine vm_c (fun m30 em30 => ?_)
  have hm30 := hm25.cp em30 k27.2.1
  have k31 := u2_6 hm30 (r := x1) (q := x1 + 7) hx1 rfl
  rewrite [k31.1, ck_t k31.2.1]
  have k32 := u2_6 hm30 (r := x0) (q := x0 + 7) hx0 rfl
  rewrite [k32.1, ck_t k32.2.1]
  have k33 := u2_6 hm30 (r := x0) (q := x0 + 7) hx0 rfl
  rewrite [k33.2.2]
  try rewrite [k31.2.2]
  try rewrite [k32.2.2]
  refine ck_c (fun h34 => ?_)
  refine vm_c (fun m35 em35 => ?_)
  have hm35 := hm30.cp em35 k32.2.1
  refine vm_c (fun m36 em36 => ?_)
  have hm36 := hm35.s em36 (nRf hx0 (by decide) (by decide))
  refine vm_c (fun m37 em37 => ?_)
  have hm37 := hm36.s em37 (nRf hx0 (by decide) (by decide))
  refine vm_c (fun m38 em38 => ?_)
  have hm38 := hm37.s em38 (nRf hx0 (by decide) (by decide))
  rfl
theorem nX1_copy_0 {g : Shp} {m : Mem} {x0 x1 : Int} (h : Sh g m) (hx0 : gk g x0 = 2) (hx1 : gk g x1 = 2) {r : Int} {m' : Mem} (hF : ebX1_copy_0 g x0 x1 m = some (r, m')) : Sh g m' := by
  unfold ebX1_copy_0 at hF
  have k1 := u2_0 h (r := x1) (q := x1 + 1) hx1 rfl
  have k2 := u2_0 h (r := x0) (q := x0 + 1) hx0 rfl
  have k3 := u2_0 h (r := x0) (q := x0 + 1) hx0 rfl
  obtain ⟨h4, hF⟩ := ck_ok hF
  obtain ⟨m5, em5, hF⟩ := vm_ok hF
  have hm5 := h.cp em5 k2.2.1
  have k6 := u2_1 hm5 (r := x1) (q := x1 + 2) hx1 rfl
  have k7 := u2_1 hm5 (r := x0) (q := x0 + 2) hx0 rfl
  have k8 := u2_1 hm5 (r := x0) (q := x0 + 2) hx0 rfl
  obtain ⟨h9, hF⟩ := ck_ok hF
  obtain ⟨m10, em10, hF⟩ := vm_ok hF
  have hm10 := hm5.cp em10 k7.2.1
  have k11 := u2_2 hm10 (r := x1) (q := x1 + 3) hx1 rfl
  have k12 := u2_2 hm10 (r := x0) (q := x0 + 3) hx0 rfl
  have k13 := u2_2 hm10 (r := x0) (q := x0 + 3) hx0 rfl
  obtain ⟨h14, hF⟩ := ck_ok hF
  obtain ⟨m15, em15, hF⟩ := vm_ok hF
  have hm15 := hm10.cp em15 k12.2.1
  have k16 := u2_3 hm15 (r := x1) (q := x1 + 4) hx1 rfl
  have k17 := u2_3 hm15 (r := x0) (q := x0 + 4) hx0 rfl
  have k18 := u2_3 hm15 (r := x0) (q := x0 + 4) hx0 rfl
  obtain ⟨h19, hF⟩ := ck_ok hF
  obtain ⟨m20, em20, hF⟩ := vm_ok hF
  have hm20 := hm15.cp em20 k17.2.1
  have k21 := u2_4 hm20 (r := x1) (q := x1 + 5) hx1 rfl
  have k22 := u2_4 hm20 (r := x0) (q := x0 + 5) hx0 rfl
  have k23 := u2_4 hm20 (r := x0) (q := x0 + 5) hx0 rfl
  obtain ⟨h24, hF⟩ := ck_ok hF
  obtain ⟨m25, em25, hF⟩ := vm_ok hF
  have hm25 := hm20.cp em25 k22.2.1
  have k26 := u2_5 hm25 (r := x1) (q := x1 + 6) hx1 rfl
  have k27 := u2_5 hm25 (r := x0) (q := x0 + 6) hx0 rfl
  have k28 := u2_5 hm25 (r := x0) (q := x0 + 6) hx0 rfl
  obtain ⟨h29, hF⟩ := ck_ok hF
  obtain ⟨m30, em30, hF⟩ := vm_ok hF
  have hm30 := hm25.cp em30 k27.2.1
  have k31 := u2_6 hm30 (r := x1) (q := x1 + 7) hx1 rfl
  have k32 := u2_6 hm30 (r := x0) (q := x0 + 7) hx0 rfl
  have k33 := u2_6 hm30 (r := x0) (q := x0 + 7) hx0 rfl
  obtain ⟨h34, hF⟩ := ck_ok hF
  obtain ⟨m35, em35, hF⟩ := vm_ok hF
  have hm35 := hm30.cp em35 k32.2.1
  obtain ⟨m36, em36, hF⟩ := vm_ok hF
  have hm36 := hm35.s em36 (nRf hx0 (by decide) (by decide))
  obtain ⟨m37, em37, hF⟩ := vm_ok hF
  have hm37 := hm36.s em37 (nRf hx0 (by decide) (by decide))
  obtain ⟨m38, em38, hF⟩ := vm_ok hF
  have hm38 := hm37.s em38 (nRf hx0 (by decide) (by decide))
  cases hF
  exact hm38
theorem qX1_copy {g : Shp} {m : Mem} {x0 x1 : Int} (h : Sh g m) (hx0 : gk g x0 = 2) (hx1 : gk g x1 = 2) : fX1_copy g x0 x1 m = eX1_copy g x0 x1 m := qX1_copy_0 h hx0 hx1
theorem nX1_copy {g : Shp} {m : Mem} {x0 x1 : Int} (h : Sh g m) (hx0 : gk g x0 = 2) (hx1 : gk g x1 = 2) {r : Int} {m' : Mem} (hF : eX1_copy g x0 x1 m = some (r, m')) : Sh g m' := nX1_copy_0 h hx0 hx1 hF
set_option maxRecDepth 20000 in
theorem qX1_isCovered_16 {g : Shp} {m : Mem} {z0 : Int} (h : Sh g m)  : bX1_isCovered_16 g z0 m = ebX1_isCovered_16 g z0 m := by
  unfold bX1_isCovered_16 ebX1_isCovered_16
  refine ck_c (fun b1 => ?_)
  rfl
theorem nX1_isCovered_16 {g : Shp} {m : Mem} {z0 : Int} (h : Sh g m)  {r : Int} {m' : Mem} (hF : ebX1_isCovered_16 g z0 m = some (r, m')) : Sh g m' := by
  unfold ebX1_isCovered_16 at hF
  obtain ⟨b1, hF⟩ := ck_ok hF
  cases hF
  exact h
set_option maxRecDepth 20000 in
theorem qX1_isCovered_0 {g : Shp} {m : Mem} {x0 x1 : Int} (h : Sh g m) (hx0 : gk g x0 = 2) : bX1_isCovered_0 g x0 x1 m = ebX1_isCovered_0 g x0 x1 m := by
  unfold bX1_isCovered_0 ebX1_isCovered_0
  have k1 := u2_2 h (r := x0) (q := x0 + 3) hx0 rfl
  rewrite [k1.1, ck_t k1.2.1]
  try rewrite [k1.2.2]
  refine ck_c (fun i2 => ?_)
  refine if_c (fun hc3 => ?_) (fun hc3 => ?_)
  · exact qX1_isCovered_16 h
  · exact qX1_isCovered_16 h
theorem nX1_isCovered_0 {g : Shp} {m : Mem} {x0 x1 : Int} (h : Sh g m) (hx0 : gk g x0 = 2) {r : Int} {m' : Mem} (hF : ebX1_isCovered_0 g x0 x1 m = some (r, m')) : Sh g m' := by
  unfold ebX1_isCovered_0 at hF
  have k1 := u2_2 h (r := x0) (q := x0 + 3) hx0 rfl
  obtain ⟨i2, hF⟩ := ck_ok hF
  rcases if_ok hF with ⟨hc3, hF⟩ | ⟨hc3, hF⟩
  · exact nX1_isCovered_16 h  hF
  · exact nX1_isCovered_16 h  hF
theorem qX1_isCovered {g : Shp} {m : Mem} {x0 x1 : Int} (h : Sh g m) (hx0 : gk g x0 = 2) : fX1_isCovered g x0 x1 m = eX1_isCovered g x0 x1 m := qX1_isCovered_0 h hx0
theorem nX1_isCovered {g : Shp} {m : Mem} {x0 x1 : Int} (h : Sh g m) (hx0 : gk g x0 = 2) {r : Int} {m' : Mem} (hF : eX1_isCovered g x0 x1 m = some (r, m')) : Sh g m' := nX1_isCovered_0 h hx0 hF
set_option maxRecDepth 20000 in
theorem qX1_cellsOf_33 {g : Shp} {m : Mem} {x0 x1 x2 x3 x4 : Int} (h : Sh g m) (hx0 : gk g x0 = 2) (hx2 : gk g x2 = 6) : bX1_cellsOf_33 g x0 x1 x2 x3 x4 m = ebX1_cellsOf_33 g x0 x1 x2 x3 x4 m := by
  unfold bX1_cellsOf_33 ebX1_cellsOf_33
  refine vv_c (fun y1 ey1 => ?_)
  rfl
theorem nX1_cellsOf_33 {g : Shp} {m : Mem} {x0 x1 x2 x3 x4 : Int} (h : Sh g m) (hx0 : gk g x0 = 2) (hx2 : gk g x2 = 6) {c1 : Int} {s1 : (Int × Int × Mem)} (hF : ebX1_cellsOf_33 g x0 x1 x2 x3 x4 m = some (c1, s1)) : Sh g s1.2.2 := by
  unfold ebX1_cellsOf_33 at hF
  obtain ⟨y1, ey1, hF⟩ := vv_ok hF
  cases hF
  exact h
set_option maxRecDepth 20000 in
theorem qX1_cellsOf_5 {g : Shp} {m : Mem} {x0 x1 x2 x3 x4 : Int} (h : Sh g m) (hx0 : gk g x0 = 2) (hx2 : gk g x2 = 6) : bX1_cellsOf_5 g x0 x1 x2 x3 x4 m = ebX1_cellsOf_5 g x0 x1 x2 x3 x4 m := by
  unfold bX1_cellsOf_5 ebX1_cellsOf_5
  refine if_c (fun hc1 => ?_) (fun hc1 => ?_)
  · rfl
  · have k2 := u2_0 h (r := x0) (q := x0 + 1) hx0 rfl
    rewrite [k2.1, ck_t k2.2.1]
    have k3 := u6_0 h (r := x2) (q := x2 + 1) hx2 rfl
    rewrite [k3.1, ck_t k3.2.1]
    try rewrite [k3.2.2]
    refine ck_c (fun i4 => ?_)
    try rewrite [k2.2.2]
    refine ck_c (fun i5 => ?_)
    refine if_c (fun hc6 => ?_) (fun hc6 => ?_)
    · refine vv_c (fun y7 ey7 => ?_)
      exact qX1_cellsOf_33 h hx0 hx2
    · exact qX1_cellsOf_33 h hx0 hx2
theorem nX1_cellsOf_5 {g : Shp} {m : Mem} {x0 x1 x2 x3 x4 : Int} (h : Sh g m) (hx0 : gk g x0 = 2) (hx2 : gk g x2 = 6) {c1 : Int} {s1 : (Int × Int × Mem)} (hF : ebX1_cellsOf_5 g x0 x1 x2 x3 x4 m = some (c1, s1)) : Sh g s1.2.2 := by
  unfold ebX1_cellsOf_5 at hF
  rcases if_ok hF with ⟨hc1, hF⟩ | ⟨hc1, hF⟩
  · cases hF
    exact h
  · have k2 := u2_0 h (r := x0) (q := x0 + 1) hx0 rfl
    have k3 := u6_0 h (r := x2) (q := x2 + 1) hx2 rfl
    obtain ⟨i4, hF⟩ := ck_ok hF
    obtain ⟨i5, hF⟩ := ck_ok hF
    rcases if_ok hF with ⟨hc6, hF⟩ | ⟨hc6, hF⟩
    · obtain ⟨y7, ey7, hF⟩ := vv_ok hF
      exact nX1_cellsOf_33 h hx0 hx2 hF
    · exact nX1_cellsOf_33 h hx0 hx2 hF
theorem nlX1_cellsOf_5 {g : Shp} {x0 x1 x2 : Int} (hx0 : gk g x0 = 2) (hx2 : gk g x2 = 6) {n : Nat} {s0 s1 : (Int × Int × Mem)} {c1 : Int} (h : Sh g s0.2.2) (hI : iter (eBX1_cellsOf_5 g x0 x1 x2) n s0 = some (c1, s1)) : Sh g s1.2.2 :=
  iter_inv (B := eBX1_cellsOf_5 g x0 x1 x2) (fun q => Sh g q.2.2) (fun s c s' hs hB => nX1_cellsOf_5 hs hx0 hx2 hB) n s0 c1 s1 h hI
theorem qlX1_cellsOf_5 {g : Shp} {x0 x1 x2 : Int} (hx0 : gk g x0 = 2) (hx2 : gk g x2 = 6) {n : Nat} {s0 : (Int × Int × Mem)} (h : Sh g s0.2.2) : iter (BX1_cellsOf_5 g x0 x1 x2) n s0 = iter (eBX1_cellsOf_5 g x0 x1 x2) n s0 :=
  iter_eq (B := BX1_cellsOf_5 g x0 x1 x2) (E := eBX1_cellsOf_5 g x0 x1 x2) (fun q => Sh g q.2.2) (fun s hs => qX1_cellsOf_5 hs hx0 hx2) (fun s c s' hs hB => nX1_cellsOf_5 hs hx0 hx2 ((qX1_cellsOf_5 hs hx0 hx2).symm.trans hB)) n s0 h
set_option maxRecDepth 20000 in
theorem qX1_cellsOf_39 {g : Shp} {m : Mem} {x3 : Int} (h : Sh g m)  : bX1_cellsOf_39 g x3 m = ebX1_cellsOf_39 g x3 m := by
  unfold bX1_cellsOf_39 ebX1_cellsOf_39
  rfl
theorem nX1_cellsOf_39 {g : Shp} {m : Mem} {x3 : Int} (h : Sh g m)  {r : Int} {m' : Mem} (hF : ebX1_cellsOf_39 g x3 m = some (r, m')) : Sh g m' := by
  unfold ebX1_cellsOf_39 at hF
  cases hF
  exact h
set_option maxRecDepth 20000 in
theorem qX1_cellsOf_0 {g : Shp} {m : Mem} {x0 x1 x2 : Int} (h : Sh g m) (hx0 : gk g x0 = 2) (hx2 : gk g x2 = 6) : bX1_cellsOf_0 g x0 x1 x2 m = ebX1_cellsOf_0 g x0 x1 x2 m := by
  unfold bX1_cellsOf_0 ebX1_cellsOf_0
  refine bdl_q (qlX1_cellsOf_5 hx0 hx2 (n := 100000) (s0 := (0, 0, m)) h) (fun cv1 sv2 hi3 => ?_)
  have h4 := nlX1_cellsOf_5 hx0 hx2 (s0 := (0, 0, m)) h ((qlX1_cellsOf_5 hx0 hx2 (n := 100000) (s0 := (0, 0, m)) h).symm.trans hi3)
  exact qX1_cellsOf_39 h4 
theorem nX1_cellsOf_0 {g : Shp} {m : Mem} {x0 x1 x2 : Int} (h : Sh g m) (hx0 : gk g x0 = 2) (hx2 : gk g x2 = 6) {r : Int} {m' : Mem} (hF : ebX1_cellsOf_0 g x0 x1 x2 m = some (r, m')) : Sh g m' := by
  unfold ebX1_cellsOf_0 at hF
  obtain ⟨cv1, sv2, hi3, hF⟩ := bdl_ok hF
  have h4 := nlX1_cellsOf_5 hx0 hx2 (s0 := (0, 0, m)) h hi3
  exact nX1_cellsOf_39 h4  hF
theorem qX1_cellsOf {g : Shp} {m : Mem} {x0 x1 x2 : Int} (h : Sh g m) (hx0 : gk g x0 = 2) (hx2 : gk g x2 = 6) : fX1_cellsOf g x0 x1 x2 m = eX1_cellsOf g x0 x1 x2 m := qX1_cellsOf_0 h hx0 hx2
theorem nX1_cellsOf {g : Shp} {m : Mem} {x0 x1 x2 : Int} (h : Sh g m) (hx0 : gk g x0 = 2) (hx2 : gk g x2 = 6) {r : Int} {m' : Mem} (hF : eX1_cellsOf g x0 x1 x2 m = some (r, m')) : Sh g m' := nX1_cellsOf_0 h hx0 hx2 hF
set_option maxRecDepth 20000 in
theorem qX1_missingIn_4 {g : Shp} {m : Mem} {x0 x1 x2 x3 : Int} (h : Sh g m) (hx0 : gk g x0 = 2) : bX1_missingIn_4 g x0 x1 x2 x3 m = ebX1_missingIn_4 g x0 x1 x2 x3 m := by
  unfold bX1_missingIn_4 ebX1_missingIn_4
  refine if_c (fun hc1 => ?_) (fun hc1 => ?_)
  · rfl
  · have k2 := u2_1 h (r := x0) (q := x0 + 2) hx0 rfl
    rewrite [k2.1, ck_t k2.2.1]
    try rewrite [k2.2.2]
    refine ck_c (fun i3 => ?_)
    refine vv_c (fun y4 ey4 => ?_)
    refine vv_c (fun y5 ey5 => ?_)
    rfl
theorem nX1_missingIn_4 {g : Shp} {m : Mem} {x0 x1 x2 x3 : Int} (h : Sh g m) (hx0 : gk g x0 = 2) {c1 : Int} {s1 : (Int × Int × Mem)} (hF : ebX1_missingIn_4 g x0 x1 x2 x3 m = some (c1, s1)) : Sh g s1.2.2 := by
  unfold ebX1_missingIn_4 at hF
  rcases if_ok hF with ⟨hc1, hF⟩ | ⟨hc1, hF⟩
  · cases hF
    exact h
  · have k2 := u2_1 h (r := x0) (q := x0 + 2) hx0 rfl
    obtain ⟨i3, hF⟩ := ck_ok hF
    obtain ⟨y4, ey4, hF⟩ := vv_ok hF
    obtain ⟨y5, ey5, hF⟩ := vv_ok hF
    cases hF
    exact h
theorem nlX1_missingIn_4 {g : Shp} {x0 x1 : Int} (hx0 : gk g x0 = 2) {n : Nat} {s0 s1 : (Int × Int × Mem)} {c1 : Int} (h : Sh g s0.2.2) (hI : iter (eBX1_missingIn_4 g x0 x1) n s0 = some (c1, s1)) : Sh g s1.2.2 :=
  iter_inv (B := eBX1_missingIn_4 g x0 x1) (fun q => Sh g q.2.2) (fun s c s' hs hB => nX1_missingIn_4 hs hx0 hB) n s0 c1 s1 h hI
theorem qlX1_missingIn_4 {g : Shp} {x0 x1 : Int} (hx0 : gk g x0 = 2) {n : Nat} {s0 : (Int × Int × Mem)} (h : Sh g s0.2.2) : iter (BX1_missingIn_4 g x0 x1) n s0 = iter (eBX1_missingIn_4 g x0 x1) n s0 :=
  iter_eq (B := BX1_missingIn_4 g x0 x1) (E := eBX1_missingIn_4 g x0 x1) (fun q => Sh g q.2.2) (fun s hs => qX1_missingIn_4 hs hx0) (fun s c s' hs hB => nX1_missingIn_4 hs hx0 ((qX1_missingIn_4 hs hx0).symm.trans hB)) n s0 h
set_option maxRecDepth 20000 in
theorem qX1_missingIn_31 {g : Shp} {m : Mem} {x2 : Int} (h : Sh g m)  : bX1_missingIn_31 g x2 m = ebX1_missingIn_31 g x2 m := by
  unfold bX1_missingIn_31 ebX1_missingIn_31
  rfl
theorem nX1_missingIn_31 {g : Shp} {m : Mem} {x2 : Int} (h : Sh g m)  {r : Int} {m' : Mem} (hF : ebX1_missingIn_31 g x2 m = some (r, m')) : Sh g m' := by
  unfold ebX1_missingIn_31 at hF
  cases hF
  exact h
set_option maxRecDepth 20000 in
theorem qX1_missingIn_0 {g : Shp} {m : Mem} {x0 x1 : Int} (h : Sh g m) (hx0 : gk g x0 = 2) : bX1_missingIn_0 g x0 x1 m = ebX1_missingIn_0 g x0 x1 m := by
  unfold bX1_missingIn_0 ebX1_missingIn_0
  refine bdl_q (qlX1_missingIn_4 hx0 (n := 100000) (s0 := (0, 0, m)) h) (fun cv1 sv2 hi3 => ?_)
  have h4 := nlX1_missingIn_4 hx0 (s0 := (0, 0, m)) h ((qlX1_missingIn_4 hx0 (n := 100000) (s0 := (0, 0, m)) h).symm.trans hi3)
  exact qX1_missingIn_31 h4 
theorem nX1_missingIn_0 {g : Shp} {m : Mem} {x0 x1 : Int} (h : Sh g m) (hx0 : gk g x0 = 2) {r : Int} {m' : Mem} (hF : ebX1_missingIn_0 g x0 x1 m = some (r, m')) : Sh g m' := by
  unfold ebX1_missingIn_0 at hF
  obtain ⟨cv1, sv2, hi3, hF⟩ := bdl_ok hF
  have h4 := nlX1_missingIn_4 hx0 (s0 := (0, 0, m)) h hi3
  exact nX1_missingIn_31 h4  hF
theorem qX1_missingIn {g : Shp} {m : Mem} {x0 x1 : Int} (h : Sh g m) (hx0 : gk g x0 = 2) : fX1_missingIn g x0 x1 m = eX1_missingIn g x0 x1 m := qX1_missingIn_0 h hx0
theorem nX1_missingIn {g : Shp} {m : Mem} {x0 x1 : Int} (h : Sh g m) (hx0 : gk g x0 = 2) {r : Int} {m' : Mem} (hF : eX1_missingIn g x0 x1 m = some (r, m')) : Sh g m' := nX1_missingIn_0 h hx0 hF
set_option maxRecDepth 20000 in
theorem qX1_handOver_41 {g : Shp} {m : Mem} {x0 x1 x2 x3 x4 : Int} (h : Sh g m) (hx0 : gk g x0 = 2) (hx1 : gk g x1 = 6) : bX1_handOver_41 g x0 x1 x2 x3 x4 m = ebX1_handOver_41 g x0 x1 x2 x3 x4 m := by
  unfold bX1_handOver_41 ebX1_handOver_41
  refine vv_c (fun y1 ey1 => ?_)
  rfl
theorem nX1_handOver_41 {g : Shp} {m : Mem} {x0 x1 x2 x3 x4 : Int} (h : Sh g m) (hx0 : gk g x0 = 2) (hx1 : gk g x1 = 6) {c1 : Int} {s1 : (Int × Mem)} (hF : ebX1_handOver_41 g x0 x1 x2 x3 x4 m = some (c1, s1)) : Sh g s1.2 := by
  unfold ebX1_handOver_41 at hF
  obtain ⟨y1, ey1, hF⟩ := vv_ok hF
  cases hF
  exact h
set_option maxRecDepth 20000 in
theorem qX1_handOver_3 {g : Shp} {m : Mem} {x0 x1 x2 x3 x4 : Int} (h : Sh g m) (hx0 : gk g x0 = 2) (hx1 : gk g x1 = 6) : bX1_handOver_3 g x0 x1 x2 x3 x4 m = ebX1_handOver_3 g x0 x1 x2 x3 x4 m := by
  unfold bX1_handOver_3 ebX1_handOver_3
  refine if_c (fun hc1 => ?_) (fun hc1 => ?_)
  · rfl
  · have k2 := u2_0 h (r := x0) (q := x0 + 1) hx0 rfl
    rewrite [k2.1, ck_t k2.2.1]
    have k3 := u6_0 h (r := x1) (q := x1 + 1) hx1 rfl
    rewrite [k3.1, ck_t k3.2.1]
    try rewrite [k3.2.2]
    refine ck_c (fun i4 => ?_)
    try rewrite [k2.2.2]
    refine ck_c (fun i5 => ?_)
    refine if_c (fun hc6 => ?_) (fun hc6 => ?_)
    · have k7 := u2_0 h (r := x0) (q := x0 + 1) hx0 rfl
      have k8 := u6_0 h (r := x1) (q := x1 + 1) hx1 rfl
      try rewrite [k8.2.2]
      refine ck_c (fun i9 => ?_)
      try rewrite [k7.2.2]
      refine ck_c (fun i10 => ?_)
      refine vm_c (fun m11 em11 => ?_)
      have hm11 := h.s em11 (nRa k7.2.1 (by decide))
      exact qX1_handOver_41 hm11 hx0 hx1
    · exact qX1_handOver_41 h hx0 hx1
theorem nX1_handOver_3 {g : Shp} {m : Mem} {x0 x1 x2 x3 x4 : Int} (h : Sh g m) (hx0 : gk g x0 = 2) (hx1 : gk g x1 = 6) {c1 : Int} {s1 : (Int × Mem)} (hF : ebX1_handOver_3 g x0 x1 x2 x3 x4 m = some (c1, s1)) : Sh g s1.2 := by
  unfold ebX1_handOver_3 at hF
  rcases if_ok hF with ⟨hc1, hF⟩ | ⟨hc1, hF⟩
  · cases hF
    exact h
  · have k2 := u2_0 h (r := x0) (q := x0 + 1) hx0 rfl
    have k3 := u6_0 h (r := x1) (q := x1 + 1) hx1 rfl
    obtain ⟨i4, hF⟩ := ck_ok hF
    obtain ⟨i5, hF⟩ := ck_ok hF
    rcases if_ok hF with ⟨hc6, hF⟩ | ⟨hc6, hF⟩
    · have k7 := u2_0 h (r := x0) (q := x0 + 1) hx0 rfl
      have k8 := u6_0 h (r := x1) (q := x1 + 1) hx1 rfl
      obtain ⟨i9, hF⟩ := ck_ok hF
      obtain ⟨i10, hF⟩ := ck_ok hF
      obtain ⟨m11, em11, hF⟩ := vm_ok hF
      have hm11 := h.s em11 (nRa k7.2.1 (by decide))
      exact nX1_handOver_41 hm11 hx0 hx1 hF
    · exact nX1_handOver_41 h hx0 hx1 hF
theorem nlX1_handOver_3 {g : Shp} {x0 x1 x2 x3 : Int} (hx0 : gk g x0 = 2) (hx1 : gk g x1 = 6) {n : Nat} {s0 s1 : (Int × Mem)} {c1 : Int} (h : Sh g s0.2) (hI : iter (eBX1_handOver_3 g x0 x1 x2 x3) n s0 = some (c1, s1)) : Sh g s1.2 :=
  iter_inv (B := eBX1_handOver_3 g x0 x1 x2 x3) (fun q => Sh g q.2) (fun s c s' hs hB => nX1_handOver_3 hs hx0 hx1 hB) n s0 c1 s1 h hI
theorem qlX1_handOver_3 {g : Shp} {x0 x1 x2 x3 : Int} (hx0 : gk g x0 = 2) (hx1 : gk g x1 = 6) {n : Nat} {s0 : (Int × Mem)} (h : Sh g s0.2) : iter (BX1_handOver_3 g x0 x1 x2 x3) n s0 = iter (eBX1_handOver_3 g x0 x1 x2 x3) n s0 :=
  iter_eq (B := BX1_handOver_3 g x0 x1 x2 x3) (E := eBX1_handOver_3 g x0 x1 x2 x3) (fun q => Sh g q.2) (fun s hs => qX1_handOver_3 hs hx0 hx1) (fun s c s' hs hB => nX1_handOver_3 hs hx0 hx1 ((qX1_handOver_3 hs hx0 hx1).symm.trans hB)) n s0 h
set_option maxRecDepth 20000 in
theorem qX1_handOver_47 {g : Shp} {m : Mem} (h : Sh g m)  : bX1_handOver_47 g m = ebX1_handOver_47 g m := by
  unfold bX1_handOver_47 ebX1_handOver_47
  rfl
theorem nX1_handOver_47 {g : Shp} {m : Mem} (h : Sh g m)  {r : Int} {m' : Mem} (hF : ebX1_handOver_47 g m = some (r, m')) : Sh g m' := by
  unfold ebX1_handOver_47 at hF
  cases hF
  exact h
set_option maxRecDepth 20000 in
theorem qX1_handOver_0 {g : Shp} {m : Mem} {x0 x1 x2 x3 : Int} (h : Sh g m) (hx0 : gk g x0 = 2) (hx1 : gk g x1 = 6) : bX1_handOver_0 g x0 x1 x2 x3 m = ebX1_handOver_0 g x0 x1 x2 x3 m := by
  unfold bX1_handOver_0 ebX1_handOver_0
  refine bdl_q (qlX1_handOver_3 hx0 hx1 (n := 100000) (s0 := (0, m)) h) (fun cv1 sv2 hi3 => ?_)
  have h4 := nlX1_handOver_3 hx0 hx1 (s0 := (0, m)) h ((qlX1_handOver_3 hx0 hx1 (n := 100000) (s0 := (0, m)) h).symm.trans hi3)
  exact qX1_handOver_47 h4 
theorem nX1_handOver_0 {g : Shp} {m : Mem} {x0 x1 x2 x3 : Int} (h : Sh g m) (hx0 : gk g x0 = 2) (hx1 : gk g x1 = 6) {r : Int} {m' : Mem} (hF : ebX1_handOver_0 g x0 x1 x2 x3 m = some (r, m')) : Sh g m' := by
  unfold ebX1_handOver_0 at hF
  obtain ⟨cv1, sv2, hi3, hF⟩ := bdl_ok hF
  have h4 := nlX1_handOver_3 hx0 hx1 (s0 := (0, m)) h hi3
  exact nX1_handOver_47 h4  hF
theorem qX1_handOver {g : Shp} {m : Mem} {x0 x1 x2 x3 : Int} (h : Sh g m) (hx0 : gk g x0 = 2) (hx1 : gk g x1 = 6) : fX1_handOver g x0 x1 x2 x3 m = eX1_handOver g x0 x1 x2 x3 m := qX1_handOver_0 h hx0 hx1
theorem nX1_handOver {g : Shp} {m : Mem} {x0 x1 x2 x3 : Int} (h : Sh g m) (hx0 : gk g x0 = 2) (hx1 : gk g x1 = 6) {r : Int} {m' : Mem} (hF : eX1_handOver g x0 x1 x2 x3 m = some (r, m')) : Sh g m' := nX1_handOver_0 h hx0 hx1 hF
set_option maxRecDepth 20000 in
theorem qX1_putDown_11 {g : Shp} {m : Mem} {x0 x1 x3 x4 x5 : Int} (h : Sh g m) (hx0 : gk g x0 = 2) (hx4 : gk g x4 = 10) : bX1_putDown_11 g x0 x1 x3 x4 x5 m = ebX1_putDown_11 g x0 x1 x3 x4 x5 m := by
  unfold bX1_putDown_11 ebX1_putDown_11
  refine if_c (fun hc1 => ?_) (fun hc1 => ?_)
  · rfl
  · have k2 := u2_1 h (r := x0) (q := x0 + 2) hx0 rfl
    rewrite [k2.1, ck_t k2.2.1]
    try rewrite [k2.2.2]
    refine ck_c (fun i3 => ?_)
    have k4 := u10_1 h (r := x4) (q := x4 + 2) hx4 rfl
    rewrite [k4.1, ck_t k4.2.1]
    try rewrite [k4.2.2]
    refine ck_c (fun i5 => ?_)
    try rewrite [k2.2.2]
    refine ck_c (fun i6 => ?_)
    refine vm_c (fun m7 em7 => ?_)
    have hm7 := h.s em7 (nRa k2.2.1 (by decide))
    have k8 := u2_5 hm7 (r := x0) (q := x0 + 6) hx0 rfl
    rewrite [k8.1, ck_t k8.2.1]
    have k9 := u10_2 hm7 (r := x4) (q := x4 + 3) hx4 rfl
    rewrite [k9.1, ck_t k9.2.1]
    try rewrite [k9.2.2]
    refine ck_c (fun i10 => ?_)
    try rewrite [k8.2.2]
    refine ck_c (fun i11 => ?_)
    refine vm_c (fun m12 em12 => ?_)
    have hm12 := hm7.s em12 (nRa k8.2.1 (by decide))
    refine vv_c (fun y13 ey13 => ?_)
    rfl
theorem nX1_putDown_11 {g : Shp} {m : Mem} {x0 x1 x3 x4 x5 : Int} (h : Sh g m) (hx0 : gk g x0 = 2) (hx4 : gk g x4 = 10) {c1 : Int} {s1 : (Int × Mem)} (hF : ebX1_putDown_11 g x0 x1 x3 x4 x5 m = some (c1, s1)) : Sh g s1.2 := by
  unfold ebX1_putDown_11 at hF
  rcases if_ok hF with ⟨hc1, hF⟩ | ⟨hc1, hF⟩
  · cases hF
    exact h
  · have k2 := u2_1 h (r := x0) (q := x0 + 2) hx0 rfl
    obtain ⟨i3, hF⟩ := ck_ok hF
    have k4 := u10_1 h (r := x4) (q := x4 + 2) hx4 rfl
    obtain ⟨i5, hF⟩ := ck_ok hF
    obtain ⟨i6, hF⟩ := ck_ok hF
    obtain ⟨m7, em7, hF⟩ := vm_ok hF
    have hm7 := h.s em7 (nRa k2.2.1 (by decide))
    have k8 := u2_5 hm7 (r := x0) (q := x0 + 6) hx0 rfl
    have k9 := u10_2 hm7 (r := x4) (q := x4 + 3) hx4 rfl
    obtain ⟨i10, hF⟩ := ck_ok hF
    obtain ⟨i11, hF⟩ := ck_ok hF
    obtain ⟨m12, em12, hF⟩ := vm_ok hF
    have hm12 := hm7.s em12 (nRa k8.2.1 (by decide))
    obtain ⟨y13, ey13, hF⟩ := vv_ok hF
    cases hF
    exact hm12
theorem nlX1_putDown_11 {g : Shp} {x0 x1 x3 x4 : Int} (hx0 : gk g x0 = 2) (hx4 : gk g x4 = 10) {n : Nat} {s0 s1 : (Int × Mem)} {c1 : Int} (h : Sh g s0.2) (hI : iter (eBX1_putDown_11 g x0 x1 x3 x4) n s0 = some (c1, s1)) : Sh g s1.2 :=
  iter_inv (B := eBX1_putDown_11 g x0 x1 x3 x4) (fun q => Sh g q.2) (fun s c s' hs hB => nX1_putDown_11 hs hx0 hx4 hB) n s0 c1 s1 h hI
theorem qlX1_putDown_11 {g : Shp} {x0 x1 x3 x4 : Int} (hx0 : gk g x0 = 2) (hx4 : gk g x4 = 10) {n : Nat} {s0 : (Int × Mem)} (h : Sh g s0.2) : iter (BX1_putDown_11 g x0 x1 x3 x4) n s0 = iter (eBX1_putDown_11 g x0 x1 x3 x4) n s0 :=
  iter_eq (B := BX1_putDown_11 g x0 x1 x3 x4) (E := eBX1_putDown_11 g x0 x1 x3 x4) (fun q => Sh g q.2) (fun s hs => qX1_putDown_11 hs hx0 hx4) (fun s c s' hs hB => nX1_putDown_11 hs hx0 hx4 ((qX1_putDown_11 hs hx0 hx4).symm.trans hB)) n s0 h
set_option maxRecDepth 20000 in
theorem qX1_putDown_64 {g : Shp} {m : Mem} {x0 x1 x3 x4 : Int} (h : Sh g m) (hx0 : gk g x0 = 2) (hx4 : gk g x4 = 10) : bX1_putDown_64 g x0 x1 x3 x4 m = ebX1_putDown_64 g x0 x1 x3 x4 m := by
  unfold bX1_putDown_64 ebX1_putDown_64
  have k1 := u2_2 h (r := x0) (q := x0 + 3) hx0 rfl
  rewrite [k1.1, ck_t k1.2.1]
  try rewrite [k1.2.2]
  refine ck_c (fun i2 => ?_)
  refine vm_c (fun m3 em3 => ?_)
  have hm3 := h.s em3 (nRa k1.2.1 (by decide))
  have k4 := u2_3 hm3 (r := x0) (q := x0 + 4) hx0 rfl
  rewrite [k4.1, ck_t k4.2.1]
  try rewrite [k4.2.2]
  refine ck_c (fun i5 => ?_)
  refine vm_c (fun m6 em6 => ?_)
  have hm6 := hm3.s em6 (nRa k4.2.1 (by decide))
  have k7 := u2_4 hm6 (r := x0) (q := x0 + 5) hx0 rfl
  rewrite [k7.1, ck_t k7.2.1]
  try rewrite [k7.2.2]
  refine ck_c (fun i8 => ?_)
  refine vm_c (fun m9 em9 => ?_)
  have hm9 := hm6.s em9 (nRa k7.2.1 (by decide))
  have k10 := u2_6 hm9 (r := x0) (q := x0 + 7) hx0 rfl
  rewrite [k10.1, ck_t k10.2.1]
  try rewrite [k10.2.2]
  refine ck_c (fun i11 => ?_)
  refine vm_c (fun m12 em12 => ?_)
  have hm12 := hm9.s em12 (nRa k10.2.1 (by decide))
  refine vm_c (fun m13 em13 => ?_)
  have hm13 := hm12.s em13 (nRf hx0 (by decide) (by decide))
  refine vm_c (fun m14 em14 => ?_)
  have hm14 := hm13.s em14 (nRf hx0 (by decide) (by decide))
  rfl
theorem nX1_putDown_64 {g : Shp} {m : Mem} {x0 x1 x3 x4 : Int} (h : Sh g m) (hx0 : gk g x0 = 2) (hx4 : gk g x4 = 10) {r : Int} {m' : Mem} (hF : ebX1_putDown_64 g x0 x1 x3 x4 m = some (r, m')) : Sh g m' := by
  unfold ebX1_putDown_64 at hF
  have k1 := u2_2 h (r := x0) (q := x0 + 3) hx0 rfl
  obtain ⟨i2, hF⟩ := ck_ok hF
  obtain ⟨m3, em3, hF⟩ := vm_ok hF
  have hm3 := h.s em3 (nRa k1.2.1 (by decide))
  have k4 := u2_3 hm3 (r := x0) (q := x0 + 4) hx0 rfl
  obtain ⟨i5, hF⟩ := ck_ok hF
  obtain ⟨m6, em6, hF⟩ := vm_ok hF
  have hm6 := hm3.s em6 (nRa k4.2.1 (by decide))
  have k7 := u2_4 hm6 (r := x0) (q := x0 + 5) hx0 rfl
  obtain ⟨i8, hF⟩ := ck_ok hF
  obtain ⟨m9, em9, hF⟩ := vm_ok hF
  have hm9 := hm6.s em9 (nRa k7.2.1 (by decide))
  have k10 := u2_6 hm9 (r := x0) (q := x0 + 7) hx0 rfl
  obtain ⟨i11, hF⟩ := ck_ok hF
  obtain ⟨m12, em12, hF⟩ := vm_ok hF
  have hm12 := hm9.s em12 (nRa k10.2.1 (by decide))
  obtain ⟨m13, em13, hF⟩ := vm_ok hF
  have hm13 := hm12.s em13 (nRf hx0 (by decide) (by decide))
  obtain ⟨m14, em14, hF⟩ := vm_ok hF
  have hm14 := hm13.s em14 (nRf hx0 (by decide) (by decide))
  cases hF
  exact hm14
set_option maxRecDepth 20000 in
theorem qX1_putDown_0 {g : Shp} {m : Mem} {x0 x1 x2 x3 x4 : Int} (h : Sh g m) (hx0 : gk g x0 = 2) (hx2 : gk g x2 = 6) (hx4 : gk g x4 = 10) : bX1_putDown_0 g x0 x1 x2 x3 x4 m = ebX1_putDown_0 g x0 x1 x2 x3 x4 m := by
  unfold bX1_putDown_0 ebX1_putDown_0
  refine bd2_q (qX1_handOver h hx0 hx2) (fun v1 m2 h3 => ?_)
  have hm2 := nX1_handOver h hx0 hx2 ((qX1_handOver h hx0 hx2).symm.trans h3)
  refine bdl_q (qlX1_putDown_11 hx0 hx4 (n := 100000) (s0 := (0, m2)) hm2) (fun cv4 sv5 hi6 => ?_)
  have h7 := nlX1_putDown_11 hx0 hx4 (s0 := (0, m2)) hm2 ((qlX1_putDown_11 hx0 hx4 (n := 100000) (s0 := (0, m2)) hm2).symm.trans hi6)
  exact qX1_putDown_64 h7 hx0 hx4
theorem nX1_putDown_0 {g : Shp} {m : Mem} {x0 x1 x2 x3 x4 : Int} (h : Sh g m) (hx0 : gk g x0 = 2) (hx2 : gk g x2 = 6) (hx4 : gk g x4 = 10) {r : Int} {m' : Mem} (hF : ebX1_putDown_0 g x0 x1 x2 x3 x4 m = some (r, m')) : Sh g m' := by
  unfold ebX1_putDown_0 at hF
  obtain ⟨v1, m2, h3, hF⟩ := bd2_ok hF
  have hm2 := nX1_handOver h hx0 hx2 h3
  obtain ⟨cv4, sv5, hi6, hF⟩ := bdl_ok hF
  have h7 := nlX1_putDown_11 hx0 hx4 (s0 := (0, m2)) hm2 hi6
  exact nX1_putDown_64 h7 hx0 hx4 hF
theorem qX1_putDown {g : Shp} {m : Mem} {x0 x1 x2 x3 x4 : Int} (h : Sh g m) (hx0 : gk g x0 = 2) (hx2 : gk g x2 = 6) (hx4 : gk g x4 = 10) : fX1_putDown g x0 x1 x2 x3 x4 m = eX1_putDown g x0 x1 x2 x3 x4 m := qX1_putDown_0 h hx0 hx2 hx4
theorem nX1_putDown {g : Shp} {m : Mem} {x0 x1 x2 x3 x4 : Int} (h : Sh g m) (hx0 : gk g x0 = 2) (hx2 : gk g x2 = 6) (hx4 : gk g x4 = 10) {r : Int} {m' : Mem} (hF : eX1_putDown g x0 x1 x2 x3 x4 m = some (r, m')) : Sh g m' := nX1_putDown_0 h hx0 hx2 hx4 hF
set_option maxRecDepth 20000 in
theorem qX1_pickUp_6 {g : Shp} {m : Mem} {x0 x1 x2 x3 x4 x5 : Int} (h : Sh g m) (hx0 : gk g x0 = 2) (hx2 : gk g x2 = 6) (hx3 : gk g x3 = 20) : bX1_pickUp_6 g x0 x1 x2 x3 x4 x5 m = ebX1_pickUp_6 g x0 x1 x2 x3 x4 x5 m := by
  unfold bX1_pickUp_6 ebX1_pickUp_6
  refine if_c (fun hc1 => ?_) (fun hc1 => ?_)
  · rfl
  · have k2 := u2_5 h (r := x0) (q := x0 + 6) hx0 rfl
    rewrite [k2.1, ck_t k2.2.1]
    try rewrite [k2.2.2]
    refine ck_c (fun i3 => ?_)
    refine vv_c (fun y4 ey4 => ?_)
    have k5 := u2_2 h (r := x0) (q := x0 + 3) hx0 rfl
    rewrite [k5.1, ck_t k5.2.1]
    try rewrite [k5.2.2]
    refine ck_c (fun i6 => ?_)
    refine vv_c (fun y7 ey7 => ?_)
    have k8 := u2_1 h (r := x0) (q := x0 + 2) hx0 rfl
    rewrite [k8.1, ck_t k8.2.1]
    try rewrite [k8.2.2]
    refine ck_c (fun i9 => ?_)
    refine vv_c (fun y10 ey10 => ?_)
    have k11 := u2_1 h (r := x0) (q := x0 + 2) hx0 rfl
    try rewrite [k11.2.2]
    refine ck_c (fun i12 => ?_)
    try rewrite [k11.2.2]
    refine ck_c (fun i13 => ?_)
    refine vm_c (fun m14 em14 => ?_)
    have hm14 := h.s em14 (nRa k11.2.1 (by decide))
    refine vv_c (fun y15 ey15 => ?_)
    refine ck_c (fun i16 => ?_)
    refine vm_c (fun m17 em17 => ?_)
    have hm17 := hm14.s em17 (nRf hx0 (by decide) (by decide))
    refine vv_c (fun y18 ey18 => ?_)
    rfl
theorem nX1_pickUp_6 {g : Shp} {m : Mem} {x0 x1 x2 x3 x4 x5 : Int} (h : Sh g m) (hx0 : gk g x0 = 2) (hx2 : gk g x2 = 6) (hx3 : gk g x3 = 20) {c1 : Int} {s1 : (Int × Int × Mem)} (hF : ebX1_pickUp_6 g x0 x1 x2 x3 x4 x5 m = some (c1, s1)) : Sh g s1.2.2 := by
  unfold ebX1_pickUp_6 at hF
  rcases if_ok hF with ⟨hc1, hF⟩ | ⟨hc1, hF⟩
  · cases hF
    exact h
  · have k2 := u2_5 h (r := x0) (q := x0 + 6) hx0 rfl
    obtain ⟨i3, hF⟩ := ck_ok hF
    obtain ⟨y4, ey4, hF⟩ := vv_ok hF
    have k5 := u2_2 h (r := x0) (q := x0 + 3) hx0 rfl
    obtain ⟨i6, hF⟩ := ck_ok hF
    obtain ⟨y7, ey7, hF⟩ := vv_ok hF
    have k8 := u2_1 h (r := x0) (q := x0 + 2) hx0 rfl
    obtain ⟨i9, hF⟩ := ck_ok hF
    obtain ⟨y10, ey10, hF⟩ := vv_ok hF
    have k11 := u2_1 h (r := x0) (q := x0 + 2) hx0 rfl
    obtain ⟨i12, hF⟩ := ck_ok hF
    obtain ⟨i13, hF⟩ := ck_ok hF
    obtain ⟨m14, em14, hF⟩ := vm_ok hF
    have hm14 := h.s em14 (nRa k11.2.1 (by decide))
    obtain ⟨y15, ey15, hF⟩ := vv_ok hF
    obtain ⟨i16, hF⟩ := ck_ok hF
    obtain ⟨m17, em17, hF⟩ := vm_ok hF
    have hm17 := hm14.s em17 (nRf hx0 (by decide) (by decide))
    obtain ⟨y18, ey18, hF⟩ := vv_ok hF
    cases hF
    exact hm17
theorem nlX1_pickUp_6 {g : Shp} {x0 x1 x2 x3 : Int} (hx0 : gk g x0 = 2) (hx2 : gk g x2 = 6) (hx3 : gk g x3 = 20) {n : Nat} {s0 s1 : (Int × Int × Mem)} {c1 : Int} (h : Sh g s0.2.2) (hI : iter (eBX1_pickUp_6 g x0 x1 x2 x3) n s0 = some (c1, s1)) : Sh g s1.2.2 :=
  iter_inv (B := eBX1_pickUp_6 g x0 x1 x2 x3) (fun q => Sh g q.2.2) (fun s c s' hs hB => nX1_pickUp_6 hs hx0 hx2 hx3 hB) n s0 c1 s1 h hI
theorem qlX1_pickUp_6 {g : Shp} {x0 x1 x2 x3 : Int} (hx0 : gk g x0 = 2) (hx2 : gk g x2 = 6) (hx3 : gk g x3 = 20) {n : Nat} {s0 : (Int × Int × Mem)} (h : Sh g s0.2.2) : iter (BX1_pickUp_6 g x0 x1 x2 x3) n s0 = iter (eBX1_pickUp_6 g x0 x1 x2 x3) n s0 :=
  iter_eq (B := BX1_pickUp_6 g x0 x1 x2 x3) (E := eBX1_pickUp_6 g x0 x1 x2 x3) (fun q => Sh g q.2.2) (fun s hs => qX1_pickUp_6 hs hx0 hx2 hx3) (fun s c s' hs hB => nX1_pickUp_6 hs hx0 hx2 hx3 ((qX1_pickUp_6 hs hx0 hx2 hx3).symm.trans hB)) n s0 h
set_option maxRecDepth 20000 in
theorem qX1_pickUp_99 {g : Shp} {m : Mem} {x0 x1 x2 x4 : Int} (h : Sh g m) (hx0 : gk g x0 = 2) (hx2 : gk g x2 = 6) : bX1_pickUp_99 g x0 x1 x2 x4 m = ebX1_pickUp_99 g x0 x1 x2 x4 m := by
  unfold bX1_pickUp_99 ebX1_pickUp_99
  have k1 := u2_6 h (r := x0) (q := x0 + 7) hx0 rfl
  rewrite [k1.1, ck_t k1.2.1]
  try rewrite [k1.2.2]
  refine ck_c (fun i2 => ?_)
  refine vm_c (fun m3 em3 => ?_)
  have hm3 := h.s em3 (nRf hx0 (by decide) (by decide))
  refine bd2_q (qX1_handOver hm3 hx0 hx2) (fun v4 m5 h6 => ?_)
  have hm5 := nX1_handOver hm3 hx0 hx2 ((qX1_handOver hm3 hx0 hx2).symm.trans h6)
  refine bd2_q (qX1_strip hm5 hx0) (fun v7 m8 h9 => ?_)
  have hm8 := nX1_strip hm5 hx0 ((qX1_strip hm5 hx0).symm.trans h9)
  rfl
theorem nX1_pickUp_99 {g : Shp} {m : Mem} {x0 x1 x2 x4 : Int} (h : Sh g m) (hx0 : gk g x0 = 2) (hx2 : gk g x2 = 6) {r : Int} {m' : Mem} (hF : ebX1_pickUp_99 g x0 x1 x2 x4 m = some (r, m')) : Sh g m' := by
  unfold ebX1_pickUp_99 at hF
  have k1 := u2_6 h (r := x0) (q := x0 + 7) hx0 rfl
  obtain ⟨i2, hF⟩ := ck_ok hF
  obtain ⟨m3, em3, hF⟩ := vm_ok hF
  have hm3 := h.s em3 (nRf hx0 (by decide) (by decide))
  obtain ⟨v4, m5, h6, hF⟩ := bd2_ok hF
  have hm5 := nX1_handOver hm3 hx0 hx2 h6
  obtain ⟨v7, m8, h9, hF⟩ := bd2_ok hF
  have hm8 := nX1_strip hm5 hx0 h9
  cases hF
  exact hm8
set_option maxRecDepth 20000 in
theorem qX1_pickUp_0 {g : Shp} {m : Mem} {x0 x1 x2 x3 : Int} (h : Sh g m) (hx0 : gk g x0 = 2) (hx2 : gk g x2 = 6) (hx3 : gk g x3 = 20) : bX1_pickUp_0 g x0 x1 x2 x3 m = ebX1_pickUp_0 g x0 x1 x2 x3 m := by
  unfold bX1_pickUp_0 ebX1_pickUp_0
  refine bdl_q (qlX1_pickUp_6 hx0 hx2 hx3 (n := 100000) (s0 := (0, 0, m)) h) (fun cv1 sv2 hi3 => ?_)
  have h4 := nlX1_pickUp_6 hx0 hx2 hx3 (s0 := (0, 0, m)) h ((qlX1_pickUp_6 hx0 hx2 hx3 (n := 100000) (s0 := (0, 0, m)) h).symm.trans hi3)
  exact qX1_pickUp_99 h4 hx0 hx2
theorem nX1_pickUp_0 {g : Shp} {m : Mem} {x0 x1 x2 x3 : Int} (h : Sh g m) (hx0 : gk g x0 = 2) (hx2 : gk g x2 = 6) (hx3 : gk g x3 = 20) {r : Int} {m' : Mem} (hF : ebX1_pickUp_0 g x0 x1 x2 x3 m = some (r, m')) : Sh g m' := by
  unfold ebX1_pickUp_0 at hF
  obtain ⟨cv1, sv2, hi3, hF⟩ := bdl_ok hF
  have h4 := nlX1_pickUp_6 hx0 hx2 hx3 (s0 := (0, 0, m)) h hi3
  exact nX1_pickUp_99 h4 hx0 hx2 hF
theorem qX1_pickUp {g : Shp} {m : Mem} {x0 x1 x2 x3 : Int} (h : Sh g m) (hx0 : gk g x0 = 2) (hx2 : gk g x2 = 6) (hx3 : gk g x3 = 20) : fX1_pickUp g x0 x1 x2 x3 m = eX1_pickUp g x0 x1 x2 x3 m := qX1_pickUp_0 h hx0 hx2 hx3
theorem nX1_pickUp {g : Shp} {m : Mem} {x0 x1 x2 x3 : Int} (h : Sh g m) (hx0 : gk g x0 = 2) (hx2 : gk g x2 = 6) (hx3 : gk g x3 = 20) {r : Int} {m' : Mem} (hF : eX1_pickUp g x0 x1 x2 x3 m = some (r, m')) : Sh g m' := nX1_pickUp_0 h hx0 hx2 hx3 hF
