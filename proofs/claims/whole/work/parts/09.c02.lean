def bX2_add_65 (g : Shp) (x0 x1 x2 x3 x4 x5 : Int) (m : Mem) : Option (Int × (Int × Mem)) :=
  vv (w32 (x5 + 1)) fun y1 =>
  some (0, (y1, m))
def bX2_add_31 (g : Shp) (x0 x1 x2 x3 x4 x5 : Int) (m : Mem) : Option (Int × (Int × Mem)) :=
  if (m x0 2) ≤ x5 then
    some (2, (x5, m))
  else
    ck (gk g (m x0 1) = 20) <|
    ck ((0 : Int) ≤ x5 ∧ x5 < gl g (m x0 1)) <|
    if x4 < (m (m x0 1) x5) then
      bX2_add_65 g x0 x1 x2 x3 x4 x5 m
    else
      bd2 (fX2_canBeTakenFrom g x0 x1 x2 x3 x5 m) fun v5 m6 =>
      if v5 = 0 then
        bX2_add_65 g x0 x1 x2 x3 x4 x5 m6
      else
        some (1, (x5, m6))
def BX2_add_31 (g : Shp) (x0 x1 x2 x3 x4 : Int) (q : (Int × Mem)) : Option (Int × (Int × Mem)) := bX2_add_31 g x0 x1 x2 x3 x4 q.1 q.2
def bX2_add_27 (g : Shp) (m : Mem) : Option (Int × Mem) :=
  some (0, m)
def bX2_add_64 (g : Shp) (m : Mem) : Option (Int × Mem) :=
  some (0, m)
def bX2_add_71 (g : Shp) (x0 x1 x2 x3 x4 : Int) (m : Mem) : Option (Int × Mem) :=
  ck (gk g (m x0 0) = 20) <|
  ck ((0 : Int) ≤ (w32 ((m x0 2) * 3)) ∧ (w32 ((m x0 2) * 3)) < gl g (m x0 0)) <|
  vm (ms m (m x0 0) (w32 ((m x0 2) * 3)) x1) fun m3 =>
  ck (gk g (m3 x0 0) = 20) <|
  ck ((0 : Int) ≤ (w32 ((w32 ((m3 x0 2) * 3)) + 1)) ∧ (w32 ((w32 ((m3 x0 2) * 3)) + 1)) < gl g (m3 x0 0)) <|
  vm (ms m3 (m3 x0 0) (w32 ((w32 ((m3 x0 2) * 3)) + 1)) x2) fun m6 =>
  ck (gk g (m6 x0 0) = 20) <|
  ck ((0 : Int) ≤ (w32 ((w32 ((m6 x0 2) * 3)) + 2)) ∧ (w32 ((w32 ((m6 x0 2) * 3)) + 2)) < gl g (m6 x0 0)) <|
  vm (ms m6 (m6 x0 0) (w32 ((w32 ((m6 x0 2) * 3)) + 2)) x3) fun m9 =>
  ck (gk g (m9 x0 1) = 20) <|
  ck ((0 : Int) ≤ (m9 x0 2) ∧ (m9 x0 2) < gl g (m9 x0 1)) <|
  vm (ms m9 (m9 x0 1) (m9 x0 2) x4) fun m12 =>
  vm (ms m12 x0 2 (w32 ((m12 x0 2) + 1))) fun m13 =>
  some (0, m13)
def bX2_add_0 (g : Shp) (x0 x1 x2 x3 x4 : Int) (m : Mem) : Option (Int × Mem) :=
  if 6 < x1 then
    bX2_add_27 g m
  else
    if 6 < x2 then
      bX2_add_27 g m
    else
      if 6 < x3 then
        bX2_add_27 g m
      else
        if (m x0 2) < 16 then
          bdl (iter (BX2_add_31 g x0 x1 x2 x3 x4) 100000 (0, m)) fun cv5 sv6 =>
          if cv5 = 1 then
            bX2_add_64 g sv6.2
          else
            bX2_add_71 g x0 x1 x2 x3 x4 sv6.2
        else
          bX2_add_27 g m
def fX2_add (g : Shp) (x0 x1 x2 x3 x4 : Int) (m : Mem) : Option (Int × Mem) := bX2_add_0 g x0 x1 x2 x3 x4 m
def bX2_listCut_105 (g : Shp) (x0 x1 x2 x3 x4 x5 x6 x7 x8 x9 x10 : Int) (m : Mem) : Option (Int × (Int × Mem)) :=
  vv (w32 (x10 + 1)) fun y1 =>
  some (0, (y1, m))
def bX2_listCut_29 (g : Shp) (x0 x1 x2 x3 x4 x5 x6 x7 x8 x9 x10 : Int) (m : Mem) : Option (Int × (Int × Mem)) :=
  if x4 < (w32 (x9 + x10)) then
    some (1, (x10, m))
  else
    vv (w32 ((w32 (x4 - x9)) - x10)) fun y2 =>
    ck ((0 : Int) ≤ 0 ∧ 0 < gl g x7) <|
    ck ((0 : Int) ≤ 1 ∧ 1 < gl g x7) <|
    ck ((0 : Int) ≤ 2 ∧ 2 < gl g x7) <|
    vv (w32 ((w32 ((w32 (x9 * (w32 ((m x7 0) - 1)))) + (w32 (x10 * (w32 ((m x7 1) - 1)))))) + (w32 (y2 * (w32 ((m x7 2) - 1)))))) fun y6 =>
    if y6 < x5 then
      bX2_listCut_105 g x0 x1 x2 x3 x4 x5 x6 x7 x8 x9 x10 m
    else
      bd2 (fX2_add g x0 (w32 (x1 + x9)) (w32 (x2 + x10)) (w32 (x3 + y2)) x6 m) fun v8 m9 =>
      bX2_listCut_105 g x0 x1 x2 x3 x4 x5 x6 x7 x8 x9 x10 m9
def BX2_listCut_29 (g : Shp) (x0 x1 x2 x3 x4 x5 x6 x7 x8 x9 : Int) (q : (Int × Mem)) : Option (Int × (Int × Mem)) := bX2_listCut_29 g x0 x1 x2 x3 x4 x5 x6 x7 x8 x9 q.1 q.2
def bX2_listCut_111 (g : Shp) (x0 x1 x2 x3 x4 x5 x6 x7 x8 x9 : Int) (m : Mem) : Option (Int × (Int × Mem)) :=
  vv (w32 (x9 + 1)) fun y1 =>
  some (0, (y1, m))
def bX2_listCut_19 (g : Shp) (x0 x1 x2 x3 x4 x5 x6 x7 x8 x9 : Int) (m : Mem) : Option (Int × (Int × Mem)) :=
  if x8 < x9 then
    some (1, (x9, m))
  else
    bdl (iter (BX2_listCut_29 g x0 x1 x2 x3 x4 x5 x6 x7 x8 x9) 100000 (0, m)) fun cv2 sv3 =>
    bX2_listCut_111 g x0 x1 x2 x3 x4 x5 x6 x7 x8 x9 sv3.2
def BX2_listCut_19 (g : Shp) (x0 x1 x2 x3 x4 x5 x6 x7 x8 : Int) (q : (Int × Mem)) : Option (Int × (Int × Mem)) := bX2_listCut_19 g x0 x1 x2 x3 x4 x5 x6 x7 x8 q.1 q.2
def bX2_listCut_117 (g : Shp) (m : Mem) : Option (Int × Mem) :=
  some (0, m)
def bX2_listCut_14 (g : Shp) (x0 x1 x2 x3 x4 x5 x6 x7 z0 : Int) (m : Mem) : Option (Int × Mem) :=
  bdl (iter (BX2_listCut_19 g x0 x1 x2 x3 x4 x5 x6 x7 z0) 100000 (0, m)) fun cv1 sv2 =>
  bX2_listCut_117 g sv2.2
def bX2_listCut_0 (g : Shp) (x0 x1 x2 x3 x4 x5 x6 x7 : Int) (m : Mem) : Option (Int × Mem) :=
  ck ((0 : Int) ≤ 0 ∧ 0 < gl g x7) <|
  if (m x7 0) ≤ 1 then
    bX2_listCut_14 g x0 x1 x2 x3 x4 x5 x6 x7 0 m
  else
    bX2_listCut_14 g x0 x1 x2 x3 x4 x5 x6 x7 x4 m
def fX2_listCut (g : Shp) (x0 x1 x2 x3 x4 x5 x6 x7 : Int) (m : Mem) : Option (Int × Mem) := bX2_listCut_0 g x0 x1 x2 x3 x4 x5 x6 x7 m
def bX2_list_97 (g : Shp) (x0 x1 x2 x3 x4 x5 x6 x7 x8 x10 x11 : Int) (m : Mem) : Option (Int × (Int × Int × Mem)) :=
  if 6 < x11 then
    some (1, (x10, x11, m))
  else
    if x10 < x5 then
      some (1, (x10, x11, m))
    else
      bd2 (fX2_listCut g x0 x6 x8 x11 x5 x10 x7 x3 m) fun v3 m4 =>
      ck ((0 : Int) ≤ 2 ∧ 2 < gl g x3) <|
      vv (w32 (x10 - (w32 ((m4 x3 2) + x4)))) fun y7 =>
      vv (w32 (x11 + 1)) fun y8 =>
      some (0, (y7, y8, m4))
def BX2_list_97 (g : Shp) (x0 x1 x2 x3 x4 x5 x6 x7 x8 : Int) (q : (Int × Int × Mem)) : Option (Int × (Int × Int × Mem)) := bX2_list_97 g x0 x1 x2 x3 x4 x5 x6 x7 x8 q.1 q.2.1 q.2.2
def bX2_list_145 (g : Shp) (x0 x1 x2 x3 x4 x5 x6 x7 x8 : Int) (m : Mem) : Option (Int × (Int × Mem)) :=
  vv (w32 (x8 + 1)) fun y1 =>
  some (0, (y1, m))
def bX2_list_52 (g : Shp) (x0 x1 x2 x3 x4 x5 x6 x7 x8 : Int) (m : Mem) : Option (Int × (Int × Mem)) :=
  if 6 < x8 then
    some (1, (x8, m))
  else
    ck ((0 : Int) ≤ 0 ∧ 0 < gl g x3) <|
    ck ((0 : Int) ≤ 1 ∧ 1 < gl g x3) <|
    vv (w32 ((w32 (x6 * (m x3 0))) + (w32 (x8 * (m x3 1))))) fun y4 =>
    vv (w32 ((w32 (x1 - y4)) - (w32 ((w32 ((w32 ((w32 (x6 + x8)) + x5)) - 1)) * x4)))) fun y5 =>
    bdl (iter (BX2_list_97 g x0 x1 x2 x3 x4 x5 x6 x7 x8) 100000 (y5, 0, m)) fun cv6 sv7 =>
    bX2_list_145 g x0 x1 x2 x3 x4 x5 x6 x7 x8 sv7.2.2
def BX2_list_52 (g : Shp) (x0 x1 x2 x3 x4 x5 x6 x7 : Int) (q : (Int × Mem)) : Option (Int × (Int × Mem)) := bX2_list_52 g x0 x1 x2 x3 x4 x5 x6 x7 q.1 q.2
def bX2_list_151 (g : Shp) (x0 x1 x2 x3 x4 x5 x6 : Int) (m : Mem) : Option (Int × (Int × Mem)) :=
  vv (w32 (x6 + 1)) fun y1 =>
  some (0, (y1, m))
def bX2_list_47 (g : Shp) (x0 x1 x2 x3 x4 x5 x6 z0 : Int) (m : Mem) : Option (Int × (Int × Mem)) :=
  bdl (iter (BX2_list_52 g x0 x1 x2 x3 x4 x5 x6 z0) 100000 (0, m)) fun cv1 sv2 =>
  bX2_list_151 g x0 x1 x2 x3 x4 x5 x6 sv2.2
def bX2_list_45 (g : Shp) (x0 x1 x2 x3 x4 x5 x6 : Int) (m : Mem) : Option (Int × (Int × Mem)) :=
  bX2_list_47 g x0 x1 x2 x3 x4 x5 x6 x5 m
def bX2_list_22 (g : Shp) (x0 x1 x2 x3 x4 x5 x6 : Int) (m : Mem) : Option (Int × (Int × Mem)) :=
  if 6 < x6 then
    some (1, (x6, m))
  else
    if x2 = 0 then
      bX2_list_45 g x0 x1 x2 x3 x4 x5 x6 m
    else
      if x6 = 0 then
        bX2_list_47 g x0 x1 x2 x3 x4 x5 x6 (w32 (x5 + 1)) m
      else
        bX2_list_45 g x0 x1 x2 x3 x4 x5 x6 m
def BX2_list_22 (g : Shp) (x0 x1 x2 x3 x4 x5 : Int) (q : (Int × Mem)) : Option (Int × (Int × Mem)) := bX2_list_22 g x0 x1 x2 x3 x4 x5 q.1 q.2
def bX2_list_157 (g : Shp) (x0 x1 x2 x3 x4 x5 : Int) (m : Mem) : Option (Int × (Int × Mem)) :=
  vv (w32 (x5 + 1)) fun y1 =>
  some (0, (y1, m))
def bX2_list_13 (g : Shp) (x0 x1 x2 x3 x4 x5 : Int) (m : Mem) : Option (Int × (Int × Mem)) :=
  if 3 < x5 then
    some (1, (x5, m))
  else
    bdl (iter (BX2_list_22 g x0 x1 x2 x3 x4 x5) 100000 (0, m)) fun cv2 sv3 =>
    bX2_list_157 g x0 x1 x2 x3 x4 x5 sv3.2
def BX2_list_13 (g : Shp) (x0 x1 x2 x3 x4 : Int) (q : (Int × Mem)) : Option (Int × (Int × Mem)) := bX2_list_13 g x0 x1 x2 x3 x4 q.1 q.2
def bX2_list_163 (g : Shp) (m : Mem) : Option (Int × Mem) :=
  some (0, m)
def bX2_list_0 (g : Shp) (x0 x1 x2 x3 x4 : Int) (m : Mem) : Option (Int × Mem) :=
  vm (ms m x0 2 0) fun m1 =>
  vm (ms m1 x0 3 1) fun m2 =>
  bdl (iter (BX2_list_13 g x0 x1 x2 x3 x4) 100000 (0, m2)) fun cv3 sv4 =>
  bX2_list_163 g sv4.2
def fX2_list (g : Shp) (x0 x1 x2 x3 x4 : Int) (m : Mem) : Option (Int × Mem) := bX2_list_0 g x0 x1 x2 x3 x4 m
def bX3_isFor_42 (g : Shp) (z0 : Int) (m : Mem) : Option (Int × Mem) :=
  ck (z0 = 0 ∨ z0 = 1) <|
  some (z0, m)
def bX3_isFor_41 (g : Shp) (m : Mem) : Option (Int × Mem) :=
  bX3_isFor_42 g 0 m
def bX3_isFor_0 (g : Shp) (x0 x1 x2 x3 : Int) (m : Mem) : Option (Int × Mem) :=
  if (m x0 8) = 0 then
    bX3_isFor_41 g m
  else
    ck (gk g (m x0 0) = 20) <|
    ck ((0 : Int) ≤ 0 ∧ 0 < gl g (m x0 0)) <|
    if (m (m x0 0) 0) = x1 then
      ck ((0 : Int) ≤ 1 ∧ 1 < gl g (m x0 0)) <|
      if (m (m x0 0) 1) = x2 then
        ck ((0 : Int) ≤ 2 ∧ 2 < gl g (m x0 0)) <|
        if (m (m x0 0) 2) = x3 then
          bX3_isFor_42 g 1 m
        else
          bX3_isFor_41 g m
      else
        bX3_isFor_41 g m
    else
      bX3_isFor_41 g m
def fX3_isFor (g : Shp) (x0 x1 x2 x3 : Int) (m : Mem) : Option (Int × Mem) := bX3_isFor_0 g x0 x1 x2 x3 m
def bX3_begin_0 (g : Shp) (x0 x1 x2 x3 : Int) (m : Mem) : Option (Int × Mem) :=
  ck (gk g (m x0 0) = 20) <|
  ck ((0 : Int) ≤ 0 ∧ 0 < gl g (m x0 0)) <|
  vm (ms m (m x0 0) 0 x1) fun m3 =>
  ck (gk g (m3 x0 0) = 20) <|
  ck ((0 : Int) ≤ 1 ∧ 1 < gl g (m3 x0 0)) <|
  vm (ms m3 (m3 x0 0) 1 x2) fun m6 =>
  ck (gk g (m6 x0 0) = 20) <|
  ck ((0 : Int) ≤ 2 ∧ 2 < gl g (m6 x0 0)) <|
  vm (ms m6 (m6 x0 0) 2 x3) fun m9 =>
  vm (ms m9 x0 5 0) fun m10 =>
  vm (ms m10 x0 6 0) fun m11 =>
  vm (ms m11 x0 7 0) fun m12 =>
  vm (ms m12 x0 8 1) fun m13 =>
  some (0, m13)
def fX3_begin (g : Shp) (x0 x1 x2 x3 : Int) (m : Mem) : Option (Int × Mem) := bX3_begin_0 g x0 x1 x2 x3 m
def bX3_isFewer_20 (g : Shp) (z0 : Int) (m : Mem) : Option (Int × Mem) :=
  ck (z0 = 0 ∨ z0 = 1) <|
  some (z0, m)
def bX3_isFewer_15 (g : Shp) (m : Mem) : Option (Int × Mem) :=
  bX3_isFewer_20 g 1 m
def bX3_isFewer_0 (g : Shp) (x0 x1 : Int) (m : Mem) : Option (Int × Mem) :=
  if (m x0 7) = 0 then
    bX3_isFewer_15 g m
  else
    if (m x0 6) ≤ x1 then
      bX3_isFewer_20 g 0 m
    else
      bX3_isFewer_15 g m
def fX3_isFewer (g : Shp) (x0 x1 : Int) (m : Mem) : Option (Int × Mem) := bX3_isFewer_0 g x0 x1 m
def bX3_keepTrial_0 (g : Shp) (x0 x1 x2 : Int) (m : Mem) : Option (Int × Mem) :=
  ck (gk g (m x0 1) = 20) <|
  ck (gk g (m x0 2) = 20) <|
  ck ((0 : Int) ≤ 0 ∧ (0 : Int) ≤ 0 ∧ (0 : Int) ≤ x1 ∧ 0 + x1 ≤ gl g (m x0 1) ∧ 0 + x1 ≤ gl g (m x0 2)) <|
  vm (mcp m (m x0 1) 0 (m x0 2) 0 x1) fun m4 =>
  vm (ms m4 x0 5 x1) fun m5 =>
  vm (ms m5 x0 6 x2) fun m6 =>
  vm (ms m6 x0 7 1) fun m7 =>
  some (0, m7)
def fX3_keepTrial (g : Shp) (x0 x1 x2 : Int) (m : Mem) : Option (Int × Mem) := bX3_keepTrial_0 g x0 x1 x2 m
def bX4_dropOldest_9 (g : Shp) (x0 x1 x2 : Int) (m : Mem) : Option (Int × (Int × Mem)) :=
  if 6 ≤ x2 then
    some (1, (x2, m))
  else
    ck (gk g (m x0 0) = 23) <|
    ck ((0 : Int) ≤ x2 ∧ x2 < gl g (m x0 0)) <|
    ck (gk g (m (m x0 0) x2) = 2) <|
    ck ((0 : Int) ≤ (w32 (x2 - 1)) ∧ (w32 (x2 - 1)) < gl g (m x0 0)) <|
    vm (ms m (m x0 0) (w32 (x2 - 1)) (m (m x0 0) x2)) fun m6 =>
    vv (w32 (x2 + 1)) fun y7 =>
    some (0, (y7, m6))
def BX4_dropOldest_9 (g : Shp) (x0 x1 : Int) (q : (Int × Mem)) : Option (Int × (Int × Mem)) := bX4_dropOldest_9 g x0 x1 q.1 q.2
def bX4_dropOldest_35 (g : Shp) (x0 x1 : Int) (m : Mem) : Option (Int × Mem) :=
  ck (gk g (m x0 0) = 23) <|
  ck ((0 : Int) ≤ 5 ∧ 5 < gl g (m x0 0)) <|
  vm (ms m (m x0 0) 5 x1) fun m3 =>
  vm (ms m3 x0 1 (w32 ((m3 x0 1) - 1))) fun m4 =>
  some (0, m4)
def bX4_dropOldest_0 (g : Shp) (x0 : Int) (m : Mem) : Option (Int × Mem) :=
  ck (gk g (m x0 0) = 23) <|
  ck ((0 : Int) ≤ 0 ∧ 0 < gl g (m x0 0)) <|
  ck (gk g (m (m x0 0) 0) = 2) <|
  vv (m (m x0 0) 0) fun y4 =>
  bdl (iter (BX4_dropOldest_9 g x0 y4) 100000 (1, m)) fun cv5 sv6 =>
  bX4_dropOldest_35 g x0 y4 sv6.2
def fX4_dropOldest (g : Shp) (x0 : Int) (m : Mem) : Option (Int × Mem) := bX4_dropOldest_0 g x0 m
def bX4_keep_13 (g : Shp) (x0 x1 : Int) (m : Mem) : Option (Int × Mem) :=
  ck (gk g (m x0 0) = 23) <|
  ck ((0 : Int) ≤ (m x0 1) ∧ (m x0 1) < gl g (m x0 0)) <|
  ck (gk g (m (m x0 0) (m x0 1)) = 2) <|
  bd2 (fX1_copy g (m (m x0 0) (m x0 1)) x1 m) fun v4 m5 =>
  vm (ms m5 x0 1 (w32 ((m5 x0 1) + 1))) fun m7 =>
  some (0, m7)
def bX4_keep_0 (g : Shp) (x0 x1 : Int) (m : Mem) : Option (Int × Mem) :=
  if (m x0 1) = 6 then
    bd2 (fX4_dropOldest g x0 m) fun v2 m3 =>
    bX4_keep_13 g x0 x1 m3
  else
    bX4_keep_13 g x0 x1 m
def fX4_keep (g : Shp) (x0 x1 : Int) (m : Mem) : Option (Int × Mem) := bX4_keep_0 g x0 x1 m
def bX4_giveBack_30 (g : Shp) (m : Mem) : Option (Int × Mem) :=
  some (0, m)
def bX4_giveBack_0 (g : Shp) (x0 x1 : Int) (m : Mem) : Option (Int × Mem) :=
  if (m x0 1) ≤ 0 then
    bX4_giveBack_30 g m
  else
    vm (ms m x0 1 (w32 ((m x0 1) - 1))) fun m2 =>
    ck (gk g (m2 x0 0) = 23) <|
    ck ((0 : Int) ≤ (m2 x0 1) ∧ (m2 x0 1) < gl g (m2 x0 0)) <|
    ck (gk g (m2 (m2 x0 0) (m2 x0 1)) = 2) <|
    bd2 (fX1_copy g x1 (m2 (m2 x0 0) (m2 x0 1)) m2) fun v6 m7 =>
    bX4_giveBack_30 g m7
def fX4_giveBack (g : Shp) (x0 x1 : Int) (m : Mem) : Option (Int × Mem) := bX4_giveBack_0 g x0 x1 m
def bX5_begin_0 (g : Shp) (x0 x1 x2 : Int) (m : Mem) : Option (Int × Mem) :=
  vm (ms m x0 2 0) fun m1 =>
  vm (ms m1 x0 3 0) fun m2 =>
  vm (ms m2 x0 4 x1) fun m3 =>
  vm (ms m3 x0 5 x2) fun m4 =>
  some (0, m4)
def fX5_begin (g : Shp) (x0 x1 x2 : Int) (m : Mem) : Option (Int × Mem) := bX5_begin_0 g x0 x1 x2 m
def bX10_isOnGround_25 (g : Shp) (z0 : Int) (m : Mem) : Option (Int × Mem) :=
  ck (z0 = 0 ∨ z0 = 1) <|
  some (z0, m)
def bX10_isOnGround_24 (g : Shp) (m : Mem) : Option (Int × Mem) :=
  bX10_isOnGround_25 g 0 m
def bX10_isOnGround_0 (g : Shp) (x0 x1 : Int) (m : Mem) : Option (Int × Mem) :=
  if x0 < 0 then
    bX10_isOnGround_24 g m
  else
    if 20 ≤ x0 then
      bX10_isOnGround_24 g m
    else
      if x1 < 0 then
        bX10_isOnGround_24 g m
      else
        if 20 ≤ x1 then
          bX10_isOnGround_24 g m
        else
          bX10_isOnGround_25 g 1 m
def fX10_isOnGround (g : Shp) (x0 x1 : Int) (m : Mem) : Option (Int × Mem) := bX10_isOnGround_0 g x0 x1 m
def bX5_go_73 (g : Shp) (x0 x1 x2 x3 x4 x5 x6 x7 : Int) (m : Mem) : Option (Int × (Int × Mem)) :=
  if 60 ≤ (m x0 2) then
    some (1, (x7, m))
  else
    bd2 (fX10_isOnGround g (m x0 4) (m x0 5) m) fun v2 m3 =>
    if v2 = 0 then
      some (1, (x7, m3))
    else
      vv (w32 ((w32 (20 * (m3 x0 5))) + (m3 x0 4))) fun y7 =>
      ck ((0 : Int) ≤ y7 ∧ y7 < gl g x4) <|
      if (bAnd (m3 x4 y7) x5) = 0 then
        ck ((0 : Int) ≤ y7 ∧ y7 < gl g x4) <|
        ck ((0 : Int) ≤ y7 ∧ y7 < gl g x4) <|
        vm (ms m3 x4 y7 (bOr (m3 x4 y7) x5)) fun m12 =>
        ck (gk g (m12 x0 0) = 20) <|
        ck ((0 : Int) ≤ (m12 x0 2) ∧ (m12 x0 2) < gl g (m12 x0 0)) <|
        vm (ms m12 (m12 x0 0) (m12 x0 2) y7) fun m15 =>
        vm (ms m15 x0 2 (w32 ((m15 x0 2) + 1))) fun m16 =>
        vv (w32 (x7 + 1)) fun y17 =>
        some (0, (y17, m16))
      else
        some (2, (x7, m3))
def bX5_go_40 (g : Shp) (x0 x1 x2 x3 x4 x5 x6 x7 : Int) (m : Mem) : Option (Int × (Int × Mem)) :=
  if x3 ≤ x7 then
    some (3, (x7, m))
  else
    if (m x0 2) ≤ 0 then
      bX5_go_73 g x0 x1 x2 x3 x4 x5 x6 x7 m
    else
      vm (ms m x0 4 (w32 ((m x0 4) + x1))) fun m3 =>
      vm (ms m3 x0 5 (w32 ((m3 x0 5) + x2))) fun m4 =>
      bX5_go_73 g x0 x1 x2 x3 x4 x5 x6 x7 m4
def BX5_go_40 (g : Shp) (x0 x1 x2 x3 x4 x5 x6 : Int) (q : (Int × Mem)) : Option (Int × (Int × Mem)) := bX5_go_40 g x0 x1 x2 x3 x4 x5 x6 q.1 q.2
def bX5_go_35 (g : Shp) (m : Mem) : Option (Int × Mem) :=
  some (0, m)
def bX5_go_96 (g : Shp) (m : Mem) : Option (Int × Mem) :=
  some (0, m)
def bX5_go_123 (g : Shp) (m : Mem) : Option (Int × Mem) :=
  some (0, m)
def bX5_go_162 (g : Shp) (x0 x6 : Int) (m : Mem) : Option (Int × Mem) :=
  ck (x6 = 0 ∨ x6 = 1) <|
  vm (ms m x0 6 x6) fun m2 =>
  ck (gk g (m2 x0 1) = 20) <|
  ck ((0 : Int) ≤ (m2 x0 3) ∧ (m2 x0 3) < gl g (m2 x0 1)) <|
  vm (ms m2 (m2 x0 1) (m2 x0 3) (w32 ((m2 x0 2) - 1))) fun m5 =>
  vm (ms m5 x0 3 (w32 ((m5 x0 3) + 1))) fun m6 =>
  some (1, m6)
def bX5_go_37 (g : Shp) (x0 x1 x2 x3 x4 x5 x6 : Int) (m : Mem) : Option (Int × Mem) :=
  bdl (iter (BX5_go_40 g x0 x1 x2 x3 x4 x5 x6) 100000 (0, m)) fun cv1 sv2 =>
  if cv1 = 1 then
    bX5_go_96 g sv2.2
  else
  if cv1 = 2 then
    bX5_go_123 g sv2.2
  else
    bX5_go_162 g x0 x6 sv2.2
def bX5_go_9 (g : Shp) (x0 x1 x2 x3 x4 x5 z0 : Int) (m : Mem) : Option (Int × Mem) :=
  if 5 ≤ (m x0 3) then
    bX5_go_35 g m
  else
    if (m x0 3) ≤ 0 then
      bX5_go_37 g x0 x1 x2 x3 x4 x5 z0 m
    else
      if z0 = (m x0 6) then
        bX5_go_35 g m
      else
        bX5_go_37 g x0 x1 x2 x3 x4 x5 z0 m
def bX5_go_0 (g : Shp) (x0 x1 x2 x3 x4 x5 : Int) (m : Mem) : Option (Int × Mem) :=
  if x1 = 0 then
    bX5_go_9 g x0 x1 x2 x3 x4 x5 0 m
  else
    bX5_go_9 g x0 x1 x2 x3 x4 x5 1 m
def fX5_go (g : Shp) (x0 x1 x2 x3 x4 x5 : Int) (m : Mem) : Option (Int × Mem) := bX5_go_0 g x0 x1 x2 x3 x4 x5 m
set_option maxRecDepth 20000 in
theorem wX2_add_65 {p : Program} {l : Launch} {e : Env} {s : State} {mt : MethodId} {args : Array Value} {below : List Frame} {meth : Method} {c : Code} {Q : State → Prop} {G : Gl} {A : Nat → Prop} {H0 : Heap} {ad : Int → Nat} {g : Shp} {H : Heap} {locs : List Loc} {ls : Array Slot} {m : Mem} {x0 x1 x2 x3 x4 x5 : Int} (C : CallFix p mt c cX2_add 6 s args tb RX2) (S : Wd G A s H0 ad g m H locs) (hx0 : gk g x0 = 3) (hx1 : r32 x1) (hx2 : r32 x2) (hx3 : r32 x3) (hx4 : r32 x4) (hx5 : r32 x5) (hl : lv_has ls 6 [(0, .ref (ad x0)), (1, .int (iI x1)), (2, .int (iI x2)), (3, .int (iI x3)), (4, .int (iI x4)), (5, .int (iI x5))]) {c1 : Int} {s1 : (Int × Mem)} (hF : bX2_add_65 g x0 x1 x2 x3 x4 x5 m = some (c1, s1)) (K0 : c1 = 0 → ∀ (H : Heap) (locs : List Loc) (ls : Array Slot), r32 s1.1 → Wd G A s H0 ad g s1.2 H locs → lv_has ls 6 [(0, .ref (ad x0)), (1, .int (iI x1)), (2, .int (iI x2)), (3, .int (iI x3)), (4, .int (iI x4)), (5, .int (iI s1.1))] → W p l e rX2_add s mt args below meth c H locs 0 0 Q (F0 mt 31 ls [])) (K1 : c1 = 1 → ∀ (H : Heap) (locs : List Loc) (ls : Array Slot), Wd G A s H0 ad g s1.2 H locs → lv_has ls 6 [] → W p l e rX2_add s mt args below meth c H locs 0 0 Q (F0 mt 64 ls [])) (K2 : c1 = 2 → ∀ (H : Heap) (locs : List Loc) (ls : Array Slot), Wd G A s H0 ad g s1.2 H locs → lv_has ls 6 [(0, .ref (ad x0)), (1, .int (iI x1)), (2, .int (iI x2)), (3, .int (iI x3)), (4, .int (iI x4))] → W p l e rX2_add s mt args below meth c H locs 0 0 Q (F0 mt 71 ls [])) : W p l e rX2_add s mt args below meth c H locs 0 0 Q (F0 mt 65 ls []) := by
  unfold bX2_add_65 at hF
  obtain ⟨y1, ey1, hF⟩ := vv_ok hF
  have ry1 : r32 y1 := ey1 ▸ r32_w _
  refine q_iinc C hl 5 [(5, .int (iI y1)), (0, .ref (ad x0)), (1, .int (iI x1)), (2, .int (iI x2)), (3, .int (iI x3)), (4, .int (iI x4))] rfl ey1 (by decide) rfl dX2_add_65 (fun ls hl => ?_)
  refine q_goto C 31 dX2_add_68 (by decide) ?_
  cases hF
  exact K0 rfl _ _ _ ry1 S (lv_sub hl [1, 2, 3, 4, 5, 0] rfl)
set_option maxRecDepth 20000 in
theorem wX2_add_31 {p : Program} {l : Launch} {e : Env} {s : State} {mt : MethodId} {args : Array Value} {below : List Frame} {meth : Method} {c : Code} {Q : State → Prop} {G : Gl} {A : Nat → Prop} {H0 : Heap} {ad : Int → Nat} {g : Shp} {H : Heap} {locs : List Loc} {ls : Array Slot} {m : Mem} {x0 x1 x2 x3 x4 x5 : Int} (C : CallFix p mt c cX2_add 6 s args tb RX2) (S : Wd G A s H0 ad g m H locs) (hx0 : gk g x0 = 3) (hx1 : r32 x1) (hx2 : r32 x2) (hx3 : r32 x3) (hx4 : r32 x4) (hx5 : r32 x5) (hl : lv_has ls 6 [(0, .ref (ad x0)), (1, .int (iI x1)), (2, .int (iI x2)), (3, .int (iI x3)), (4, .int (iI x4)), (5, .int (iI x5))]) {c1 : Int} {s1 : (Int × Mem)} (hF : bX2_add_31 g x0 x1 x2 x3 x4 x5 m = some (c1, s1)) (K0 : c1 = 0 → ∀ (H : Heap) (locs : List Loc) (ls : Array Slot), r32 s1.1 → Wd G A s H0 ad g s1.2 H locs → lv_has ls 6 [(0, .ref (ad x0)), (1, .int (iI x1)), (2, .int (iI x2)), (3, .int (iI x3)), (4, .int (iI x4)), (5, .int (iI s1.1))] → W p l e rX2_add s mt args below meth c H locs 0 0 Q (F0 mt 31 ls [])) (K1 : c1 = 1 → ∀ (H : Heap) (locs : List Loc) (ls : Array Slot), Wd G A s H0 ad g s1.2 H locs → lv_has ls 6 [] → W p l e rX2_add s mt args below meth c H locs 0 0 Q (F0 mt 64 ls [])) (K2 : c1 = 2 → ∀ (H : Heap) (locs : List Loc) (ls : Array Slot), Wd G A s H0 ad g s1.2 H locs → lv_has ls 6 [(0, .ref (ad x0)), (1, .int (iI x1)), (2, .int (iI x2)), (3, .int (iI x3)), (4, .int (iI x4))] → W p l e rX2_add s mt args below meth c H locs 0 0 Q (F0 mt 71 ls [])) : W p l e rX2_add s mt args below meth c H locs 0 0 Q (F0 mt 31 ls []) := by
  unfold bX2_add_31 at hF
  refine q_iload C hl 5 rfl dX2_add_31 ?_
  refine q_aload_n C hl 0 rfl rfl dX2_add_33 ?_
  refine q_geti C S 2 fo_RX2_18 (j := 2) rfl rfl hx0 dX2_add_34 ?_
  refine q_icmp_ge C hx5 (S.r _ _) 71 dX2_add_37 (by decide) (fun hc1 => ?_) (fun hc1 => ?_)
  · have hF := if_t hc1 hF
    cases hF
    exact K2 rfl _ _ _  S (lv_sub hl [0, 1, 2, 3, 4] rfl)
  · have hF := if_f hc1 hF
    refine q_aload_n C hl 0 rfl rfl dX2_add_40 ?_
    obtain ⟨k2, hF⟩ := ck_ok hF
    refine q_getr C S 1 fo_RX2_15 (j := 1) rfl rfl hx0 k2 (by decide) dX2_add_41 ?_
    refine q_iload C hl 5 rfl dX2_add_44 ?_
    obtain ⟨i3, hF⟩ := ck_ok hF
    refine q_iald C S k2 i3 dX2_add_46 ?_
    refine q_iload C hl 4 rfl dX2_add_47 ?_
    refine q_icmp_gt C (S.r _ _) hx4 65 dX2_add_49 (by decide) (fun hc4 => ?_) (fun hc4 => ?_)
    · have hF := if_t hc4 hF
      exact wX2_add_65 C S hx0 hx1 hx2 hx3 hx4 hx5 (lv_sub hl [0, 1, 2, 3, 4, 5] rfl) hF K0 K1 K2
    · have hF := if_f hc4 hF
      refine q_aload_n C hl 0 rfl rfl dX2_add_52 ?_
      refine q_iload_n C hl 1 rfl rfl dX2_add_53 ?_
      refine q_iload_n C hl 2 rfl rfl dX2_add_54 ?_
      refine q_iload_n C hl 3 rfl rfl dX2_add_55 ?_
      refine q_iload C hl 5 rfl dX2_add_56 ?_
      obtain ⟨v5, m6, h7, hF⟩ := bd2_ok hF
      refine q_ci S (run_V (As := [.int (iI x1), .int (iI x2), .int (iI x3), .int (iI x5)]) (rest := []) C S (cX2_canBeTakenFrom_ok l G hx0 hx1 hx2 hx3 hx5 h7 ad _) hx0 ⟨by decide, _, _, rfl⟩ gd_RX2_34 hdV_X2_canBeTakenFrom rfl ⟨rfl, rfl, by decide, by decide⟩ ⟨Nat.zero_le _, Nat.zero_le _⟩ hl.1 rfl (Nat.le_of_ble_eq_true rfl) dX2_add_58) (fun H locs Sm6 h8 => ?_)
      refine q_if_eq C h8.1 65 dX2_add_61 (by decide) (fun hc9 => ?_) (fun hc9 => ?_)
      · have hF := if_t hc9 hF
        exact wX2_add_65 C Sm6 hx0 hx1 hx2 hx3 hx4 hx5 (lv_sub hl [0, 1, 2, 3, 4, 5] rfl) hF K0 K1 K2
      · have hF := if_f hc9 hF
        cases hF
        exact K1 rfl _ _ _  Sm6 (lv_sub hl [] rfl)
set_option maxRecDepth 20000 in
theorem lX2_add_31 {p : Program} {l : Launch} {e : Env} {s : State} {mt : MethodId} {args : Array Value} {below : List Frame} {meth : Method} {c : Code} {Q : State → Prop} {G : Gl} {A : Nat → Prop} {H0 : Heap} {ad : Int → Nat} {g : Shp} {x0 x1 x2 x3 x4 : Int} (C : CallFix p mt c cX2_add 6 s args tb RX2) (hx0 : gk g x0 = 3) (hx1 : r32 x1) (hx2 : r32 x2) (hx3 : r32 x3) (hx4 : r32 x4) {n : Nat} {s0 s1 : (Int × Mem)} {c1 : Int} (hI : iter (BX2_add_31 g x0 x1 x2 x3 x4) n s0 = some (c1, s1)) (K1 : c1 = 1 → ∀ (H : Heap) (locs : List Loc) (ls : Array Slot), Wd G A s H0 ad g s1.2 H locs → lv_has ls 6 [] → W p l e rX2_add s mt args below meth c H locs 0 0 Q (F0 mt 64 ls [])) (K2 : c1 = 2 → ∀ (H : Heap) (locs : List Loc) (ls : Array Slot), Wd G A s H0 ad g s1.2 H locs → lv_has ls 6 [(0, .ref (ad x0)), (1, .int (iI x1)), (2, .int (iI x2)), (3, .int (iI x3)), (4, .int (iI x4))] → W p l e rX2_add s mt args below meth c H locs 0 0 Q (F0 mt 71 ls [])) : ∀ (H : Heap) (locs : List Loc) (ls : Array Slot), r32 s0.1 → Wd G A s H0 ad g s0.2 H locs → lv_has ls 6 [(0, .ref (ad x0)), (1, .int (iI x1)), (2, .int (iI x2)), (3, .int (iI x3)), (4, .int (iI x4)), (5, .int (iI s0.1))] → W p l e rX2_add s mt args below meth c H locs 0 0 Q (F0 mt 31 ls []) :=
  iter_W (Pw := fun q => ∀ (H : Heap) (locs : List Loc) (ls : Array Slot), r32 q.1 → Wd G A s H0 ad g q.2 H locs → lv_has ls 6 [(0, .ref (ad x0)), (1, .int (iI x1)), (2, .int (iI x2)), (3, .int (iI x3)), (4, .int (iI x4)), (5, .int (iI q.1))] → W p l e rX2_add s mt args below meth c H locs 0 0 Q (F0 mt 31 ls [])) (Px := fun c0 q => (c0 = 1 → ∀ (H : Heap) (locs : List Loc) (ls : Array Slot), Wd G A s H0 ad g q.2 H locs → lv_has ls 6 [] → W p l e rX2_add s mt args below meth c H locs 0 0 Q (F0 mt 64 ls [])) ∧ (c0 = 2 → ∀ (H : Heap) (locs : List Loc) (ls : Array Slot), Wd G A s H0 ad g q.2 H locs → lv_has ls 6 [(0, .ref (ad x0)), (1, .int (iI x1)), (2, .int (iI x2)), (3, .int (iI x3)), (4, .int (iI x4))] → W p l e rX2_add s mt args below meth c H locs 0 0 Q (F0 mt 71 ls [])))
    (fun s c s' hB K0 kx H locs ls f0 S hl => wX2_add_31 C S hx0 hx1 hx2 hx3 hx4 f0 hl hB K0 (fun h9 => (kx (by rw [h9]; decide)).1 h9) (fun h9 => (kx (by rw [h9]; decide)).2 h9)) _ _ _ _ hI ⟨K1, K2⟩
set_option maxRecDepth 20000 in
theorem wX2_add_27 {p : Program} {l : Launch} {e : Env} {s : State} {mt : MethodId} {args : Array Value} {below : List Frame} {meth : Method} {c : Code} {Q : State → Prop} {G : Gl} {A : Nat → Prop} {H0 : Heap} {ad : Int → Nat} {g : Shp} {H : Heap} {locs : List Loc} {ls : Array Slot} {m : Mem} (C : CallFix p mt c cX2_add 6 s args tb RX2) (S : Wd G A s H0 ad g m H locs)  (hl : lv_has ls 6 []) {r : Int} {m' : Mem} (hF : bX2_add_27 g m = some (r, m')) (Kr : ∀ (H : Heap) (locs : List Loc) (pc : Nat) (ls : Array Slot), Wd G A s H0 ad g m' H locs → decode cX2_add pc = .ok (.return_, 1) → W p l e rX2_add s mt args below meth c H locs 0 0 Q (F0 mt pc ls [])) : W p l e rX2_add s mt args below meth c H locs 0 0 Q (F0 mt 27 ls []) := by
  unfold bX2_add_27 at hF
  cases hF
  exact Kr _ _ _ _ S dX2_add_27
set_option maxRecDepth 20000 in
theorem wX2_add_64 {p : Program} {l : Launch} {e : Env} {s : State} {mt : MethodId} {args : Array Value} {below : List Frame} {meth : Method} {c : Code} {Q : State → Prop} {G : Gl} {A : Nat → Prop} {H0 : Heap} {ad : Int → Nat} {g : Shp} {H : Heap} {locs : List Loc} {ls : Array Slot} {m : Mem} (C : CallFix p mt c cX2_add 6 s args tb RX2) (S : Wd G A s H0 ad g m H locs)  (hl : lv_has ls 6 []) {r : Int} {m' : Mem} (hF : bX2_add_64 g m = some (r, m')) (Kr : ∀ (H : Heap) (locs : List Loc) (pc : Nat) (ls : Array Slot), Wd G A s H0 ad g m' H locs → decode cX2_add pc = .ok (.return_, 1) → W p l e rX2_add s mt args below meth c H locs 0 0 Q (F0 mt pc ls [])) : W p l e rX2_add s mt args below meth c H locs 0 0 Q (F0 mt 64 ls []) := by
  unfold bX2_add_64 at hF
  cases hF
  exact Kr _ _ _ _ S dX2_add_64
set_option maxRecDepth 20000 in
theorem wX2_add_71 {p : Program} {l : Launch} {e : Env} {s : State} {mt : MethodId} {args : Array Value} {below : List Frame} {meth : Method} {c : Code} {Q : State → Prop} {G : Gl} {A : Nat → Prop} {H0 : Heap} {ad : Int → Nat} {g : Shp} {H : Heap} {locs : List Loc} {ls : Array Slot} {m : Mem} {x0 x1 x2 x3 x4 : Int} (C : CallFix p mt c cX2_add 6 s args tb RX2) (S : Wd G A s H0 ad g m H locs) (hx0 : gk g x0 = 3) (hx1 : r32 x1) (hx2 : r32 x2) (hx3 : r32 x3) (hx4 : r32 x4) (hl : lv_has ls 6 [(0, .ref (ad x0)), (1, .int (iI x1)), (2, .int (iI x2)), (3, .int (iI x3)), (4, .int (iI x4))]) {r : Int} {m' : Mem} (hF : bX2_add_71 g x0 x1 x2 x3 x4 m = some (r, m')) (Kr : ∀ (H : Heap) (locs : List Loc) (pc : Nat) (ls : Array Slot), Wd G A s H0 ad g m' H locs → decode cX2_add pc = .ok (.return_, 1) → W p l e rX2_add s mt args below meth c H locs 0 0 Q (F0 mt pc ls [])) : W p l e rX2_add s mt args below meth c H locs 0 0 Q (F0 mt 71 ls []) := by
  unfold bX2_add_71 at hF
  refine q_aload_n C hl 0 rfl rfl dX2_add_71 ?_
  obtain ⟨k1, hF⟩ := ck_ok hF
  refine q_getr C S 0 fo_RX2_11 (j := 0) rfl rfl hx0 k1 (by decide) dX2_add_72 ?_
  refine q_aload_n C hl 0 rfl rfl dX2_add_75 ?_
  refine q_geti C S 2 fo_RX2_18 (j := 2) rfl rfl hx0 dX2_add_76 ?_
  refine q_iconst C 3 dX2_add_79 ?_
  refine q_imul C dX2_add_80 ?_
  refine q_iload_n C hl 1 rfl rfl dX2_add_81 ?_
  obtain ⟨i2, hF⟩ := ck_ok hF
  obtain ⟨m3, em3, hF⟩ := vm_ok hF
  refine q_iast C S k1 i2 hx1 em3 dX2_add_82 (fun H locs Sm3 => ?_)
  refine q_aload_n C hl 0 rfl rfl dX2_add_83 ?_
  obtain ⟨k4, hF⟩ := ck_ok hF
  refine q_getr C Sm3 0 fo_RX2_11 (j := 0) rfl rfl hx0 k4 (by decide) dX2_add_84 ?_
  refine q_aload_n C hl 0 rfl rfl dX2_add_87 ?_
  refine q_geti C Sm3 2 fo_RX2_18 (j := 2) rfl rfl hx0 dX2_add_88 ?_
  refine q_iconst C 3 dX2_add_91 ?_
  refine q_imul C dX2_add_92 ?_
  refine q_iconst C 1 dX2_add_93 ?_
  refine q_iadd C dX2_add_94 ?_
  refine q_iload_n C hl 2 rfl rfl dX2_add_95 ?_
  obtain ⟨i5, hF⟩ := ck_ok hF
  obtain ⟨m6, em6, hF⟩ := vm_ok hF
  refine q_iast C Sm3 k4 i5 hx2 em6 dX2_add_96 (fun H locs Sm6 => ?_)
  refine q_aload_n C hl 0 rfl rfl dX2_add_97 ?_
  obtain ⟨k7, hF⟩ := ck_ok hF
  refine q_getr C Sm6 0 fo_RX2_11 (j := 0) rfl rfl hx0 k7 (by decide) dX2_add_98 ?_
  refine q_aload_n C hl 0 rfl rfl dX2_add_101 ?_
  refine q_geti C Sm6 2 fo_RX2_18 (j := 2) rfl rfl hx0 dX2_add_102 ?_
  refine q_iconst C 3 dX2_add_105 ?_
  refine q_imul C dX2_add_106 ?_
  refine q_iconst C 2 dX2_add_107 ?_
  refine q_iadd C dX2_add_108 ?_
  refine q_iload_n C hl 3 rfl rfl dX2_add_109 ?_
  obtain ⟨i8, hF⟩ := ck_ok hF
  obtain ⟨m9, em9, hF⟩ := vm_ok hF
  refine q_iast C Sm6 k7 i8 hx3 em9 dX2_add_110 (fun H locs Sm9 => ?_)
  refine q_aload_n C hl 0 rfl rfl dX2_add_111 ?_
  obtain ⟨k10, hF⟩ := ck_ok hF
  refine q_getr C Sm9 1 fo_RX2_15 (j := 1) rfl rfl hx0 k10 (by decide) dX2_add_112 ?_
  refine q_aload_n C hl 0 rfl rfl dX2_add_115 ?_
  refine q_geti C Sm9 2 fo_RX2_18 (j := 2) rfl rfl hx0 dX2_add_116 ?_
  refine q_iload C hl 4 rfl dX2_add_119 ?_
  obtain ⟨i11, hF⟩ := ck_ok hF
  obtain ⟨m12, em12, hF⟩ := vm_ok hF
  refine q_iast C Sm9 k10 i11 hx4 em12 dX2_add_121 (fun H locs Sm12 => ?_)
  refine q_aload_n C hl 0 rfl rfl dX2_add_122 ?_
  refine q_dup C rfl dX2_add_123 ?_
  refine q_geti C Sm12 2 fo_RX2_18 (j := 2) rfl rfl hx0 dX2_add_124 ?_
  refine q_iconst C 1 dX2_add_127 ?_
  refine q_iadd C dX2_add_128 ?_
  obtain ⟨m13, em13, hF⟩ := vm_ok hF
  refine q_put C Sm12 2 fo_RX2_18 fp_3_2 (fun h9 => absurd h9 (by decide)) (j := 2) rfl hx0 rfl rfl rfl (r32_w _) (fun h9 => absurd h9 (by decide)) em13 dX2_add_129 (fun H locs Sm13 => ?_)
  cases hF
  exact Kr _ _ _ _ Sm13 dX2_add_132
set_option maxRecDepth 20000 in
theorem wX2_add_0 {p : Program} {l : Launch} {e : Env} {s : State} {mt : MethodId} {args : Array Value} {below : List Frame} {meth : Method} {c : Code} {Q : State → Prop} {G : Gl} {A : Nat → Prop} {H0 : Heap} {ad : Int → Nat} {g : Shp} {H : Heap} {locs : List Loc} {ls : Array Slot} {m : Mem} {x0 x1 x2 x3 x4 : Int} (C : CallFix p mt c cX2_add 6 s args tb RX2) (S : Wd G A s H0 ad g m H locs) (hx0 : gk g x0 = 3) (hx1 : r32 x1) (hx2 : r32 x2) (hx3 : r32 x3) (hx4 : r32 x4) (hl : lv_has ls 6 [(0, .ref (ad x0)), (1, .int (iI x1)), (2, .int (iI x2)), (3, .int (iI x3)), (4, .int (iI x4))]) {r : Int} {m' : Mem} (hF : bX2_add_0 g x0 x1 x2 x3 x4 m = some (r, m')) (Kr : ∀ (H : Heap) (locs : List Loc) (pc : Nat) (ls : Array Slot), Wd G A s H0 ad g m' H locs → decode cX2_add pc = .ok (.return_, 1) → W p l e rX2_add s mt args below meth c H locs 0 0 Q (F0 mt pc ls [])) : W p l e rX2_add s mt args below meth c H locs 0 0 Q (F0 mt 0 ls []) := by
  unfold bX2_add_0 at hF
  refine q_iload_n C hl 1 rfl rfl dX2_add_0 ?_
  refine q_bipush C 6 (by decide) dX2_add_1 ?_
  refine q_icmp_gt C hx1 (rl 6 rfl) 27 dX2_add_3 (by decide) (fun hc1 => ?_) (fun hc1 => ?_)
  · have hF := if_t hc1 hF
    exact wX2_add_27 C S  (lv_sub hl [] rfl) hF Kr
  · have hF := if_f hc1 hF
    refine q_iload_n C hl 2 rfl rfl dX2_add_6 ?_
    refine q_bipush C 6 (by decide) dX2_add_7 ?_
    refine q_icmp_gt C hx2 (rl 6 rfl) 27 dX2_add_9 (by decide) (fun hc2 => ?_) (fun hc2 => ?_)
    · have hF := if_t hc2 hF
      exact wX2_add_27 C S  (lv_sub hl [] rfl) hF Kr
    · have hF := if_f hc2 hF
      refine q_iload_n C hl 3 rfl rfl dX2_add_12 ?_
      refine q_bipush C 6 (by decide) dX2_add_13 ?_
      refine q_icmp_gt C hx3 (rl 6 rfl) 27 dX2_add_15 (by decide) (fun hc3 => ?_) (fun hc3 => ?_)
      · have hF := if_t hc3 hF
        exact wX2_add_27 C S  (lv_sub hl [] rfl) hF Kr
      · have hF := if_f hc3 hF
        refine q_aload_n C hl 0 rfl rfl dX2_add_18 ?_
        refine q_geti C S 2 fo_RX2_18 (j := 2) rfl rfl hx0 dX2_add_19 ?_
        refine q_bipush C 16 (by decide) dX2_add_22 ?_
        refine q_icmp_lt C (S.r _ _) (rl 16 rfl) 28 dX2_add_24 (by decide) (fun hc4 => ?_) (fun hc4 => ?_)
        · have hF := if_t hc4 hF
          refine q_iconst C 0 dX2_add_28 ?_
          refine q_istore C hl [(5, .int (iI 0)), (0, .ref (ad x0)), (1, .int (iI x1)), (2, .int (iI x2)), (3, .int (iI x3)), (4, .int (iI x4))] rfl (by decide) rfl dX2_add_29 (fun ls hl => ?_)
          obtain ⟨cv5, sv6, hi7, hF⟩ := bdl_ok hF
          refine lX2_add_31 C hx0 hx1 hx2 hx3 hx4 hi7 ?_ ?_ _ _ _ (rl 0 rfl) S (lv_sub hl [1, 2, 3, 4, 5, 0] rfl)
          · intro hc8 H locs ls  S9 hl
            have hF := if_t hc8 hF
            exact wX2_add_64 C S9  (lv_sub hl [] rfl) hF Kr
          · intro hc10 H locs ls  S11 hl
            have hF := if_f (by rw [hc10]; decide) hF
            exact wX2_add_71 C S11 hx0 hx1 hx2 hx3 hx4 (lv_sub hl [0, 1, 2, 3, 4] rfl) hF Kr
        · have hF := if_f hc4 hF
          exact wX2_add_27 C S  (lv_sub hl [] rfl) hF Kr
theorem cX2_add_ok (l : Launch) (G : Gl) {g : Shp} {x0 x1 x2 x3 x4 : Int} {m m' : Mem} {r : Int} (hx0 : gk g x0 = 3) (hx1 : r32 x1) (hx2 : r32 x2) (hx3 : r32 x3) (hx4 : r32 x4) (hF : fX2_add g x0 x1 x2 x3 x4 m = some (r, m')) : mV l yX2_add (wT yX2_add cX2_add 6 none) rX2_add G (fun ad => [.ref (ad x0), .int (iI x1), .int (iI x2), .int (iI x3), .int (iI x4)]) g m m' :=
  met_v (by decide) (fun ad => Nat.le_of_ble_eq_true rfl) (fun p e s mt args below meth c Q A H0 H locs ad ls C hnm S hl Kr => wX2_add_0 C S hx0 hx1 hx2 hx3 hx4 hl hF Kr)
set_option maxRecDepth 20000 in
theorem wX2_listCut_105 {p : Program} {l : Launch} {e : Env} {s : State} {mt : MethodId} {args : Array Value} {below : List Frame} {meth : Method} {c : Code} {Q : State → Prop} {G : Gl} {A : Nat → Prop} {H0 : Heap} {ad : Int → Nat} {g : Shp} {H : Heap} {locs : List Loc} {ls : Array Slot} {m : Mem} {x0 x1 x2 x3 x4 x5 x6 x7 x8 x9 x10 : Int} (C : CallFix p mt c cX2_listCut 13 s args tb RX2) (S : Wd G A s H0 ad g m H locs) (hx0 : gk g x0 = 3) (hx1 : r32 x1) (hx2 : r32 x2) (hx3 : r32 x3) (hx4 : r32 x4) (hx5 : r32 x5) (hx6 : r32 x6) (hx7 : gk g x7 = 20) (hx8 : r32 x8) (hx9 : r32 x9) (hx10 : r32 x10) (hl : lv_has ls 13 [(0, .ref (ad x0)), (1, .int (iI x1)), (2, .int (iI x2)), (3, .int (iI x3)), (4, .int (iI x4)), (5, .int (iI x5)), (6, .int (iI x6)), (7, .ref (ad x7)), (8, .int (iI x8)), (9, .int (iI x9)), (10, .int (iI x10))]) {c1 : Int} {s1 : (Int × Mem)} (hF : bX2_listCut_105 g x0 x1 x2 x3 x4 x5 x6 x7 x8 x9 x10 m = some (c1, s1)) (K0 : c1 = 0 → ∀ (H : Heap) (locs : List Loc) (ls : Array Slot), r32 s1.1 → Wd G A s H0 ad g s1.2 H locs → lv_has ls 13 [(0, .ref (ad x0)), (1, .int (iI x1)), (2, .int (iI x2)), (3, .int (iI x3)), (4, .int (iI x4)), (5, .int (iI x5)), (6, .int (iI x6)), (7, .ref (ad x7)), (8, .int (iI x8)), (9, .int (iI x9)), (10, .int (iI s1.1))] → W p l e rX2_listCut s mt args below meth c H locs 0 0 Q (F0 mt 29 ls [])) (K1 : c1 = 1 → ∀ (H : Heap) (locs : List Loc) (ls : Array Slot), Wd G A s H0 ad g s1.2 H locs → lv_has ls 13 [(0, .ref (ad x0)), (1, .int (iI x1)), (2, .int (iI x2)), (3, .int (iI x3)), (4, .int (iI x4)), (5, .int (iI x5)), (6, .int (iI x6)), (7, .ref (ad x7)), (8, .int (iI x8)), (9, .int (iI x9))] → W p l e rX2_listCut s mt args below meth c H locs 0 0 Q (F0 mt 111 ls [])) : W p l e rX2_listCut s mt args below meth c H locs 0 0 Q (F0 mt 105 ls []) := by
  unfold bX2_listCut_105 at hF
  obtain ⟨y1, ey1, hF⟩ := vv_ok hF
  have ry1 : r32 y1 := ey1 ▸ r32_w _
  refine q_iinc C hl 10 [(10, .int (iI y1)), (0, .ref (ad x0)), (1, .int (iI x1)), (2, .int (iI x2)), (3, .int (iI x3)), (4, .int (iI x4)), (5, .int (iI x5)), (6, .int (iI x6)), (7, .ref (ad x7)), (8, .int (iI x8)), (9, .int (iI x9))] rfl ey1 (by decide) rfl dX2_listCut_105 (fun ls hl => ?_)
  refine q_goto C 29 dX2_listCut_108 (by decide) ?_
  cases hF
  exact K0 rfl _ _ _ ry1 S (lv_sub hl [1, 2, 3, 4, 5, 6, 7, 8, 9, 10, 0] rfl)
set_option maxRecDepth 20000 in
theorem wX2_listCut_29 {p : Program} {l : Launch} {e : Env} {s : State} {mt : MethodId} {args : Array Value} {below : List Frame} {meth : Method} {c : Code} {Q : State → Prop} {G : Gl} {A : Nat → Prop} {H0 : Heap} {ad : Int → Nat} {g : Shp} {H : Heap} {locs : List Loc} {ls : Array Slot} {m : Mem} {x0 x1 x2 x3 x4 x5 x6 x7 x8 x9 x10 : Int} (C : CallFix p mt c cX2_listCut 13 s args tb RX2) (S : Wd G A s H0 ad g m H locs) (hx0 : gk g x0 = 3) (hx1 : r32 x1) (hx2 : r32 x2) (hx3 : r32 x3) (hx4 : r32 x4) (hx5 : r32 x5) (hx6 : r32 x6) (hx7 : gk g x7 = 20) (hx8 : r32 x8) (hx9 : r32 x9) (hx10 : r32 x10) (hl : lv_has ls 13 [(0, .ref (ad x0)), (1, .int (iI x1)), (2, .int (iI x2)), (3, .int (iI x3)), (4, .int (iI x4)), (5, .int (iI x5)), (6, .int (iI x6)), (7, .ref (ad x7)), (8, .int (iI x8)), (9, .int (iI x9)), (10, .int (iI x10))]) {c1 : Int} {s1 : (Int × Mem)} (hF : bX2_listCut_29 g x0 x1 x2 x3 x4 x5 x6 x7 x8 x9 x10 m = some (c1, s1)) (K0 : c1 = 0 → ∀ (H : Heap) (locs : List Loc) (ls : Array Slot), r32 s1.1 → Wd G A s H0 ad g s1.2 H locs → lv_has ls 13 [(0, .ref (ad x0)), (1, .int (iI x1)), (2, .int (iI x2)), (3, .int (iI x3)), (4, .int (iI x4)), (5, .int (iI x5)), (6, .int (iI x6)), (7, .ref (ad x7)), (8, .int (iI x8)), (9, .int (iI x9)), (10, .int (iI s1.1))] → W p l e rX2_listCut s mt args below meth c H locs 0 0 Q (F0 mt 29 ls [])) (K1 : c1 = 1 → ∀ (H : Heap) (locs : List Loc) (ls : Array Slot), Wd G A s H0 ad g s1.2 H locs → lv_has ls 13 [(0, .ref (ad x0)), (1, .int (iI x1)), (2, .int (iI x2)), (3, .int (iI x3)), (4, .int (iI x4)), (5, .int (iI x5)), (6, .int (iI x6)), (7, .ref (ad x7)), (8, .int (iI x8)), (9, .int (iI x9))] → W p l e rX2_listCut s mt args below meth c H locs 0 0 Q (F0 mt 111 ls [])) : W p l e rX2_listCut s mt args below meth c H locs 0 0 Q (F0 mt 29 ls []) := by
  unfold bX2_listCut_29 at hF
  refine q_iload C hl 9 rfl dX2_listCut_29 ?_
  refine q_iload C hl 10 rfl dX2_listCut_31 ?_
  refine q_iadd C dX2_listCut_33 ?_
  refine q_iload C hl 4 rfl dX2_listCut_34 ?_
  refine q_icmp_gt C (r32_w _) hx4 111 dX2_listCut_36 (by decide) (fun hc1 => ?_) (fun hc1 => ?_)
  · have hF := if_t hc1 hF
    cases hF
    exact K1 rfl _ _ _  S (lv_sub hl [0, 1, 2, 3, 4, 5, 6, 7, 8, 9] rfl)
  · have hF := if_f hc1 hF
    refine q_iload C hl 4 rfl dX2_listCut_39 ?_
    refine q_iload C hl 9 rfl dX2_listCut_41 ?_
    refine q_isub C dX2_listCut_43 ?_
    refine q_iload C hl 10 rfl dX2_listCut_44 ?_
    refine q_isub C dX2_listCut_46 ?_
    obtain ⟨y2, ey2, hF⟩ := vv_ok hF
    have ry2 : r32 y2 := ey2 ▸ (r32_w _)
    refine q_istore C hl [(11, .int (iI y2)), (0, .ref (ad x0)), (1, .int (iI x1)), (2, .int (iI x2)), (3, .int (iI x3)), (4, .int (iI x4)), (5, .int (iI x5)), (6, .int (iI x6)), (7, .ref (ad x7)), (8, .int (iI x8)), (9, .int (iI x9)), (10, .int (iI x10))] ey2 (by decide) rfl dX2_listCut_47 (fun ls hl => ?_)
    refine q_iload C hl 10 rfl dX2_listCut_49 ?_
    refine q_aload C hl 8 rfl dX2_listCut_51 ?_
    refine q_iconst C 0 dX2_listCut_53 ?_
    obtain ⟨i3, hF⟩ := ck_ok hF
    refine q_iald C S hx7 i3 dX2_listCut_54 ?_
    refine q_iconst C 1 dX2_listCut_55 ?_
    refine q_isub C dX2_listCut_56 ?_
    refine q_imul C dX2_listCut_57 ?_
    refine q_iload C hl 11 rfl dX2_listCut_58 ?_
    refine q_aload C hl 8 rfl dX2_listCut_60 ?_
    refine q_iconst C 1 dX2_listCut_62 ?_
    obtain ⟨i4, hF⟩ := ck_ok hF
    refine q_iald C S hx7 i4 dX2_listCut_63 ?_
    refine q_iconst C 1 dX2_listCut_64 ?_
    refine q_isub C dX2_listCut_65 ?_
    refine q_imul C dX2_listCut_66 ?_
    refine q_iadd C dX2_listCut_67 ?_
    refine q_iload C hl 0 rfl dX2_listCut_68 ?_
    refine q_aload C hl 8 rfl dX2_listCut_70 ?_
    refine q_iconst C 2 dX2_listCut_72 ?_
    obtain ⟨i5, hF⟩ := ck_ok hF
    refine q_iald C S hx7 i5 dX2_listCut_73 ?_
    refine q_iconst C 1 dX2_listCut_74 ?_
    refine q_isub C dX2_listCut_75 ?_
    refine q_imul C dX2_listCut_76 ?_
    refine q_iadd C dX2_listCut_77 ?_
    obtain ⟨y6, ey6, hF⟩ := vv_ok hF
    have ry6 : r32 y6 := ey6 ▸ (r32_w _)
    refine q_istore C hl [(12, .int (iI y6)), (11, .int (iI y2)), (0, .ref (ad x0)), (1, .int (iI x1)), (2, .int (iI x2)), (3, .int (iI x3)), (4, .int (iI x4)), (5, .int (iI x5)), (6, .int (iI x6)), (7, .ref (ad x7)), (8, .int (iI x8)), (9, .int (iI x9)), (10, .int (iI x10))] ey6 (by decide) rfl dX2_listCut_78 (fun ls hl => ?_)
    refine q_iload C hl 7 rfl dX2_listCut_80 ?_
    refine q_iload C hl 0 rfl dX2_listCut_82 ?_
    refine q_icmp_gt C hx5 ry6 105 dX2_listCut_84 (by decide) (fun hc7 => ?_) (fun hc7 => ?_)
    · have hF := if_t hc7 hF
      exact wX2_listCut_105 C S hx0 hx1 hx2 hx3 hx4 hx5 hx6 hx7 hx8 hx9 hx10 (lv_sub hl [2, 3, 4, 5, 6, 7, 8, 9, 10, 11, 12] rfl) hF K0 K1
    · have hF := if_f hc7 hF
      refine q_aload_n C hl 2 rfl rfl dX2_listCut_87 ?_
      refine q_iload_n C hl 3 rfl rfl dX2_listCut_88 ?_
      refine q_iload C hl 11 rfl dX2_listCut_89 ?_
      refine q_iadd C dX2_listCut_91 ?_
      refine q_iload_n C hl 4 rfl rfl dX2_listCut_92 ?_
      refine q_iload C hl 12 rfl dX2_listCut_93 ?_
      refine q_iadd C dX2_listCut_95 ?_
      refine q_iload_n C hl 5 rfl rfl dX2_listCut_96 ?_
      refine q_iload C hl 1 rfl dX2_listCut_97 ?_
      refine q_iadd C dX2_listCut_99 ?_
      refine q_iload C hl 8 rfl dX2_listCut_100 ?_
      obtain ⟨v8, m9, h10, hF⟩ := bd2_ok hF
      refine q_cv S (run_V (As := [.int (iI (w32 (x1 + x9))), .int (iI (w32 (x2 + x10))), .int (iI (w32 (x3 + y2))), .int (iI x6)]) (rest := []) C S (cX2_add_ok l G hx0 (r32_w _) (r32_w _) (r32_w _) hx6 h10 ad _) hx0 ⟨by decide, _, _, rfl⟩ gd_RX2_30 hdV_X2_add rfl ⟨rfl, rfl, by decide, by decide⟩ ⟨Nat.zero_le _, Nat.zero_le _⟩ hl.1 rfl (Nat.le_of_ble_eq_true rfl) dX2_listCut_102) (fun H locs Sm9 => ?_)
      exact wX2_listCut_105 C Sm9 hx0 hx1 hx2 hx3 hx4 hx5 hx6 hx7 hx8 hx9 hx10 (lv_sub hl [2, 3, 4, 5, 6, 7, 8, 9, 10, 11, 12] rfl) hF K0 K1
set_option maxRecDepth 20000 in
theorem lX2_listCut_29 {p : Program} {l : Launch} {e : Env} {s : State} {mt : MethodId} {args : Array Value} {below : List Frame} {meth : Method} {c : Code} {Q : State → Prop} {G : Gl} {A : Nat → Prop} {H0 : Heap} {ad : Int → Nat} {g : Shp} {x0 x1 x2 x3 x4 x5 x6 x7 x8 x9 : Int} (C : CallFix p mt c cX2_listCut 13 s args tb RX2) (hx0 : gk g x0 = 3) (hx1 : r32 x1) (hx2 : r32 x2) (hx3 : r32 x3) (hx4 : r32 x4) (hx5 : r32 x5) (hx6 : r32 x6) (hx7 : gk g x7 = 20) (hx8 : r32 x8) (hx9 : r32 x9) {n : Nat} {s0 s1 : (Int × Mem)} {c1 : Int} (hI : iter (BX2_listCut_29 g x0 x1 x2 x3 x4 x5 x6 x7 x8 x9) n s0 = some (c1, s1)) (K1 : c1 = 1 → ∀ (H : Heap) (locs : List Loc) (ls : Array Slot), Wd G A s H0 ad g s1.2 H locs → lv_has ls 13 [(0, .ref (ad x0)), (1, .int (iI x1)), (2, .int (iI x2)), (3, .int (iI x3)), (4, .int (iI x4)), (5, .int (iI x5)), (6, .int (iI x6)), (7, .ref (ad x7)), (8, .int (iI x8)), (9, .int (iI x9))] → W p l e rX2_listCut s mt args below meth c H locs 0 0 Q (F0 mt 111 ls [])) : ∀ (H : Heap) (locs : List Loc) (ls : Array Slot), r32 s0.1 → Wd G A s H0 ad g s0.2 H locs → lv_has ls 13 [(0, .ref (ad x0)), (1, .int (iI x1)), (2, .int (iI x2)), (3, .int (iI x3)), (4, .int (iI x4)), (5, .int (iI x5)), (6, .int (iI x6)), (7, .ref (ad x7)), (8, .int (iI x8)), (9, .int (iI x9)), (10, .int (iI s0.1))] → W p l e rX2_listCut s mt args below meth c H locs 0 0 Q (F0 mt 29 ls []) :=
  iter_W (Pw := fun q => ∀ (H : Heap) (locs : List Loc) (ls : Array Slot), r32 q.1 → Wd G A s H0 ad g q.2 H locs → lv_has ls 13 [(0, .ref (ad x0)), (1, .int (iI x1)), (2, .int (iI x2)), (3, .int (iI x3)), (4, .int (iI x4)), (5, .int (iI x5)), (6, .int (iI x6)), (7, .ref (ad x7)), (8, .int (iI x8)), (9, .int (iI x9)), (10, .int (iI q.1))] → W p l e rX2_listCut s mt args below meth c H locs 0 0 Q (F0 mt 29 ls [])) (Px := fun c0 q => (c0 = 1 → ∀ (H : Heap) (locs : List Loc) (ls : Array Slot), Wd G A s H0 ad g q.2 H locs → lv_has ls 13 [(0, .ref (ad x0)), (1, .int (iI x1)), (2, .int (iI x2)), (3, .int (iI x3)), (4, .int (iI x4)), (5, .int (iI x5)), (6, .int (iI x6)), (7, .ref (ad x7)), (8, .int (iI x8)), (9, .int (iI x9))] → W p l e rX2_listCut s mt args below meth c H locs 0 0 Q (F0 mt 111 ls [])))
    (fun s c s' hB K0 kx H locs ls f0 S hl => wX2_listCut_29 C S hx0 hx1 hx2 hx3 hx4 hx5 hx6 hx7 hx8 hx9 f0 hl hB K0 (fun h9 => (kx (by rw [h9]; decide)) h9)) _ _ _ _ hI K1
set_option maxRecDepth 20000 in
theorem wX2_listCut_111 {p : Program} {l : Launch} {e : Env} {s : State} {mt : MethodId} {args : Array Value} {below : List Frame} {meth : Method} {c : Code} {Q : State → Prop} {G : Gl} {A : Nat → Prop} {H0 : Heap} {ad : Int → Nat} {g : Shp} {H : Heap} {locs : List Loc} {ls : Array Slot} {m : Mem} {x0 x1 x2 x3 x4 x5 x6 x7 x8 x9 : Int} (C : CallFix p mt c cX2_listCut 13 s args tb RX2) (S : Wd G A s H0 ad g m H locs) (hx0 : gk g x0 = 3) (hx1 : r32 x1) (hx2 : r32 x2) (hx3 : r32 x3) (hx4 : r32 x4) (hx5 : r32 x5) (hx6 : r32 x6) (hx7 : gk g x7 = 20) (hx8 : r32 x8) (hx9 : r32 x9) (hl : lv_has ls 13 [(0, .ref (ad x0)), (1, .int (iI x1)), (2, .int (iI x2)), (3, .int (iI x3)), (4, .int (iI x4)), (5, .int (iI x5)), (6, .int (iI x6)), (7, .ref (ad x7)), (8, .int (iI x8)), (9, .int (iI x9))]) {c1 : Int} {s1 : (Int × Mem)} (hF : bX2_listCut_111 g x0 x1 x2 x3 x4 x5 x6 x7 x8 x9 m = some (c1, s1)) (K0 : c1 = 0 → ∀ (H : Heap) (locs : List Loc) (ls : Array Slot), r32 s1.1 → Wd G A s H0 ad g s1.2 H locs → lv_has ls 13 [(0, .ref (ad x0)), (1, .int (iI x1)), (2, .int (iI x2)), (3, .int (iI x3)), (4, .int (iI x4)), (5, .int (iI x5)), (6, .int (iI x6)), (7, .ref (ad x7)), (8, .int (iI x8)), (9, .int (iI s1.1))] → W p l e rX2_listCut s mt args below meth c H locs 0 0 Q (F0 mt 19 ls [])) (K1 : c1 = 1 → ∀ (H : Heap) (locs : List Loc) (ls : Array Slot), Wd G A s H0 ad g s1.2 H locs → lv_has ls 13 [] → W p l e rX2_listCut s mt args below meth c H locs 0 0 Q (F0 mt 117 ls [])) : W p l e rX2_listCut s mt args below meth c H locs 0 0 Q (F0 mt 111 ls []) := by
  unfold bX2_listCut_111 at hF
  obtain ⟨y1, ey1, hF⟩ := vv_ok hF
  have ry1 : r32 y1 := ey1 ▸ r32_w _
  refine q_iinc C hl 9 [(9, .int (iI y1)), (0, .ref (ad x0)), (1, .int (iI x1)), (2, .int (iI x2)), (3, .int (iI x3)), (4, .int (iI x4)), (5, .int (iI x5)), (6, .int (iI x6)), (7, .ref (ad x7)), (8, .int (iI x8))] rfl ey1 (by decide) rfl dX2_listCut_111 (fun ls hl => ?_)
  refine q_goto C 19 dX2_listCut_114 (by decide) ?_
  cases hF
  exact K0 rfl _ _ _ ry1 S (lv_sub hl [1, 2, 3, 4, 5, 6, 7, 8, 9, 0] rfl)
set_option maxRecDepth 20000 in
theorem wX2_listCut_19 {p : Program} {l : Launch} {e : Env} {s : State} {mt : MethodId} {args : Array Value} {below : List Frame} {meth : Method} {c : Code} {Q : State → Prop} {G : Gl} {A : Nat → Prop} {H0 : Heap} {ad : Int → Nat} {g : Shp} {H : Heap} {locs : List Loc} {ls : Array Slot} {m : Mem} {x0 x1 x2 x3 x4 x5 x6 x7 x8 x9 : Int} (C : CallFix p mt c cX2_listCut 13 s args tb RX2) (S : Wd G A s H0 ad g m H locs) (hx0 : gk g x0 = 3) (hx1 : r32 x1) (hx2 : r32 x2) (hx3 : r32 x3) (hx4 : r32 x4) (hx5 : r32 x5) (hx6 : r32 x6) (hx7 : gk g x7 = 20) (hx8 : r32 x8) (hx9 : r32 x9) (hl : lv_has ls 13 [(0, .ref (ad x0)), (1, .int (iI x1)), (2, .int (iI x2)), (3, .int (iI x3)), (4, .int (iI x4)), (5, .int (iI x5)), (6, .int (iI x6)), (7, .ref (ad x7)), (8, .int (iI x8)), (9, .int (iI x9))]) {c1 : Int} {s1 : (Int × Mem)} (hF : bX2_listCut_19 g x0 x1 x2 x3 x4 x5 x6 x7 x8 x9 m = some (c1, s1)) (K0 : c1 = 0 → ∀ (H : Heap) (locs : List Loc) (ls : Array Slot), r32 s1.1 → Wd G A s H0 ad g s1.2 H locs → lv_has ls 13 [(0, .ref (ad x0)), (1, .int (iI x1)), (2, .int (iI x2)), (3, .int (iI x3)), (4, .int (iI x4)), (5, .int (iI x5)), (6, .int (iI x6)), (7, .ref (ad x7)), (8, .int (iI x8)), (9, .int (iI s1.1))] → W p l e rX2_listCut s mt args below meth c H locs 0 0 Q (F0 mt 19 ls [])) (K1 : c1 = 1 → ∀ (H : Heap) (locs : List Loc) (ls : Array Slot), Wd G A s H0 ad g s1.2 H locs → lv_has ls 13 [] → W p l e rX2_listCut s mt args below meth c H locs 0 0 Q (F0 mt 117 ls [])) : W p l e rX2_listCut s mt args below meth c H locs 0 0 Q (F0 mt 19 ls []) := by
  unfold bX2_listCut_19 at hF
  refine q_iload C hl 9 rfl dX2_listCut_19 ?_
  refine q_iload C hl 8 rfl dX2_listCut_21 ?_
  refine q_icmp_gt C hx9 hx8 117 dX2_listCut_23 (by decide) (fun hc1 => ?_) (fun hc1 => ?_)
  · have hF := if_t hc1 hF
    cases hF
    exact K1 rfl _ _ _  S (lv_sub hl [] rfl)
  · have hF := if_f hc1 hF
    refine q_iconst C 0 dX2_listCut_26 ?_
    refine q_istore C hl [(10, .int (iI 0)), (0, .ref (ad x0)), (1, .int (iI x1)), (2, .int (iI x2)), (3, .int (iI x3)), (4, .int (iI x4)), (5, .int (iI x5)), (6, .int (iI x6)), (7, .ref (ad x7)), (8, .int (iI x8)), (9, .int (iI x9))] rfl (by decide) rfl dX2_listCut_27 (fun ls hl => ?_)
    obtain ⟨cv2, sv3, hi4, hF⟩ := bdl_ok hF
    refine lX2_listCut_29 C hx0 hx1 hx2 hx3 hx4 hx5 hx6 hx7 hx8 hx9 hi4 ?_ _ _ _ (rl 0 rfl) S (lv_sub hl [1, 2, 3, 4, 5, 6, 7, 8, 9, 10, 0] rfl)
    intro _ H locs ls  S5 hl
    exact wX2_listCut_111 C S5 hx0 hx1 hx2 hx3 hx4 hx5 hx6 hx7 hx8 hx9 (lv_sub hl [0, 1, 2, 3, 4, 5, 6, 7, 8, 9] rfl) hF K0 K1
set_option maxRecDepth 20000 in
theorem lX2_listCut_19 {p : Program} {l : Launch} {e : Env} {s : State} {mt : MethodId} {args : Array Value} {below : List Frame} {meth : Method} {c : Code} {Q : State → Prop} {G : Gl} {A : Nat → Prop} {H0 : Heap} {ad : Int → Nat} {g : Shp} {x0 x1 x2 x3 x4 x5 x6 x7 x8 : Int} (C : CallFix p mt c cX2_listCut 13 s args tb RX2) (hx0 : gk g x0 = 3) (hx1 : r32 x1) (hx2 : r32 x2) (hx3 : r32 x3) (hx4 : r32 x4) (hx5 : r32 x5) (hx6 : r32 x6) (hx7 : gk g x7 = 20) (hx8 : r32 x8) {n : Nat} {s0 s1 : (Int × Mem)} {c1 : Int} (hI : iter (BX2_listCut_19 g x0 x1 x2 x3 x4 x5 x6 x7 x8) n s0 = some (c1, s1)) (K1 : c1 = 1 → ∀ (H : Heap) (locs : List Loc) (ls : Array Slot), Wd G A s H0 ad g s1.2 H locs → lv_has ls 13 [] → W p l e rX2_listCut s mt args below meth c H locs 0 0 Q (F0 mt 117 ls [])) : ∀ (H : Heap) (locs : List Loc) (ls : Array Slot), r32 s0.1 → Wd G A s H0 ad g s0.2 H locs → lv_has ls 13 [(0, .ref (ad x0)), (1, .int (iI x1)), (2, .int (iI x2)), (3, .int (iI x3)), (4, .int (iI x4)), (5, .int (iI x5)), (6, .int (iI x6)), (7, .ref (ad x7)), (8, .int (iI x8)), (9, .int (iI s0.1))] → W p l e rX2_listCut s mt args below meth c H locs 0 0 Q (F0 mt 19 ls []) :=
  iter_W (Pw := fun q => ∀ (H : Heap) (locs : List Loc) (ls : Array Slot), r32 q.1 → Wd G A s H0 ad g q.2 H locs → lv_has ls 13 [(0, .ref (ad x0)), (1, .int (iI x1)), (2, .int (iI x2)), (3, .int (iI x3)), (4, .int (iI x4)), (5, .int (iI x5)), (6, .int (iI x6)), (7, .ref (ad x7)), (8, .int (iI x8)), (9, .int (iI q.1))] → W p l e rX2_listCut s mt args below meth c H locs 0 0 Q (F0 mt 19 ls [])) (Px := fun c0 q => (c0 = 1 → ∀ (H : Heap) (locs : List Loc) (ls : Array Slot), Wd G A s H0 ad g q.2 H locs → lv_has ls 13 [] → W p l e rX2_listCut s mt args below meth c H locs 0 0 Q (F0 mt 117 ls [])))
    (fun s c s' hB K0 kx H locs ls f0 S hl => wX2_listCut_19 C S hx0 hx1 hx2 hx3 hx4 hx5 hx6 hx7 hx8 f0 hl hB K0 (fun h9 => (kx (by rw [h9]; decide)) h9)) _ _ _ _ hI K1
set_option maxRecDepth 20000 in
theorem wX2_listCut_117 {p : Program} {l : Launch} {e : Env} {s : State} {mt : MethodId} {args : Array Value} {below : List Frame} {meth : Method} {c : Code} {Q : State → Prop} {G : Gl} {A : Nat → Prop} {H0 : Heap} {ad : Int → Nat} {g : Shp} {H : Heap} {locs : List Loc} {ls : Array Slot} {m : Mem} (C : CallFix p mt c cX2_listCut 13 s args tb RX2) (S : Wd G A s H0 ad g m H locs)  (hl : lv_has ls 13 []) {r : Int} {m' : Mem} (hF : bX2_listCut_117 g m = some (r, m')) (Kr : ∀ (H : Heap) (locs : List Loc) (pc : Nat) (ls : Array Slot), Wd G A s H0 ad g m' H locs → decode cX2_listCut pc = .ok (.return_, 1) → W p l e rX2_listCut s mt args below meth c H locs 0 0 Q (F0 mt pc ls [])) : W p l e rX2_listCut s mt args below meth c H locs 0 0 Q (F0 mt 117 ls []) := by
  unfold bX2_listCut_117 at hF
  cases hF
  exact Kr _ _ _ _ S dX2_listCut_117
set_option maxRecDepth 20000 in
theorem wX2_listCut_14 {p : Program} {l : Launch} {e : Env} {s : State} {mt : MethodId} {args : Array Value} {below : List Frame} {meth : Method} {c : Code} {Q : State → Prop} {G : Gl} {A : Nat → Prop} {H0 : Heap} {ad : Int → Nat} {g : Shp} {H : Heap} {locs : List Loc} {ls : Array Slot} {m : Mem} {x0 x1 x2 x3 x4 x5 x6 x7 z0 : Int} (C : CallFix p mt c cX2_listCut 13 s args tb RX2) (S : Wd G A s H0 ad g m H locs) (hx0 : gk g x0 = 3) (hx1 : r32 x1) (hx2 : r32 x2) (hx3 : r32 x3) (hx4 : r32 x4) (hx5 : r32 x5) (hx6 : r32 x6) (hx7 : gk g x7 = 20) (hz0 : r32 z0) (hl : lv_has ls 13 [(0, .ref (ad x0)), (1, .int (iI x1)), (2, .int (iI x2)), (3, .int (iI x3)), (4, .int (iI x4)), (5, .int (iI x5)), (6, .int (iI x6)), (7, .ref (ad x7))]) {r : Int} {m' : Mem} (hF : bX2_listCut_14 g x0 x1 x2 x3 x4 x5 x6 x7 z0 m = some (r, m')) (Kr : ∀ (H : Heap) (locs : List Loc) (pc : Nat) (ls : Array Slot), Wd G A s H0 ad g m' H locs → decode cX2_listCut pc = .ok (.return_, 1) → W p l e rX2_listCut s mt args below meth c H locs 0 0 Q (F0 mt pc ls [])) : W p l e rX2_listCut s mt args below meth c H locs 0 0 Q (F0 mt 14 ls [.int (iI z0)]) := by
  unfold bX2_listCut_14 at hF
  refine q_istore C hl [(8, .int (iI z0)), (0, .ref (ad x0)), (1, .int (iI x1)), (2, .int (iI x2)), (3, .int (iI x3)), (4, .int (iI x4)), (5, .int (iI x5)), (6, .int (iI x6)), (7, .ref (ad x7))] rfl (by decide) rfl dX2_listCut_14 (fun ls hl => ?_)
  refine q_iconst C 0 dX2_listCut_16 ?_
  refine q_istore C hl [(9, .int (iI 0)), (8, .int (iI z0)), (0, .ref (ad x0)), (1, .int (iI x1)), (2, .int (iI x2)), (3, .int (iI x3)), (4, .int (iI x4)), (5, .int (iI x5)), (6, .int (iI x6)), (7, .ref (ad x7))] rfl (by decide) rfl dX2_listCut_17 (fun ls hl => ?_)
  obtain ⟨cv1, sv2, hi3, hF⟩ := bdl_ok hF
  refine lX2_listCut_19 C hx0 hx1 hx2 hx3 hx4 hx5 hx6 hx7 hz0 hi3 ?_ _ _ _ (rl 0 rfl) S (lv_sub hl [2, 3, 4, 5, 6, 7, 8, 9, 1, 0] rfl)
  intro _ H locs ls  S4 hl
  exact wX2_listCut_117 C S4  (lv_sub hl [] rfl) hF Kr
set_option maxRecDepth 20000 in
theorem wX2_listCut_0 {p : Program} {l : Launch} {e : Env} {s : State} {mt : MethodId} {args : Array Value} {below : List Frame} {meth : Method} {c : Code} {Q : State → Prop} {G : Gl} {A : Nat → Prop} {H0 : Heap} {ad : Int → Nat} {g : Shp} {H : Heap} {locs : List Loc} {ls : Array Slot} {m : Mem} {x0 x1 x2 x3 x4 x5 x6 x7 : Int} (C : CallFix p mt c cX2_listCut 13 s args tb RX2) (S : Wd G A s H0 ad g m H locs) (hx0 : gk g x0 = 3) (hx1 : r32 x1) (hx2 : r32 x2) (hx3 : r32 x3) (hx4 : r32 x4) (hx5 : r32 x5) (hx6 : r32 x6) (hx7 : gk g x7 = 20) (hl : lv_has ls 13 [(0, .ref (ad x0)), (1, .int (iI x1)), (2, .int (iI x2)), (3, .int (iI x3)), (4, .int (iI x4)), (5, .int (iI x5)), (6, .int (iI x6)), (7, .ref (ad x7))]) {r : Int} {m' : Mem} (hF : bX2_listCut_0 g x0 x1 x2 x3 x4 x5 x6 x7 m = some (r, m')) (Kr : ∀ (H : Heap) (locs : List Loc) (pc : Nat) (ls : Array Slot), Wd G A s H0 ad g m' H locs → decode cX2_listCut pc = .ok (.return_, 1) → W p l e rX2_listCut s mt args below meth c H locs 0 0 Q (F0 mt pc ls [])) : W p l e rX2_listCut s mt args below meth c H locs 0 0 Q (F0 mt 0 ls []) := by
  unfold bX2_listCut_0 at hF
  refine q_aload C hl 7 rfl dX2_listCut_0 ?_
  refine q_iconst C 0 dX2_listCut_2 ?_
  obtain ⟨i1, hF⟩ := ck_ok hF
  refine q_iald C S hx7 i1 dX2_listCut_3 ?_
  refine q_iconst C 1 dX2_listCut_4 ?_
  refine q_icmp_le C (S.r _ _) (rl 1 rfl) 13 dX2_listCut_5 (by decide) (fun hc2 => ?_) (fun hc2 => ?_)
  · have hF := if_t hc2 hF
    refine q_iconst C 0 dX2_listCut_13 ?_
    exact wX2_listCut_14 C S hx0 hx1 hx2 hx3 hx4 hx5 hx6 hx7 (rl 0 rfl) (lv_sub hl [0, 1, 2, 3, 4, 5, 6, 7] rfl) hF Kr
  · have hF := if_f hc2 hF
    refine q_iload C hl 4 rfl dX2_listCut_8 ?_
    refine q_goto C 14 dX2_listCut_10 (by decide) ?_
    exact wX2_listCut_14 C S hx0 hx1 hx2 hx3 hx4 hx5 hx6 hx7 hx4 (lv_sub hl [0, 1, 2, 3, 4, 5, 6, 7] rfl) hF Kr
theorem cX2_listCut_ok (l : Launch) (G : Gl) {g : Shp} {x0 x1 x2 x3 x4 x5 x6 x7 : Int} {m m' : Mem} {r : Int} (hx0 : gk g x0 = 3) (hx1 : r32 x1) (hx2 : r32 x2) (hx3 : r32 x3) (hx4 : r32 x4) (hx5 : r32 x5) (hx6 : r32 x6) (hx7 : gk g x7 = 20) (hF : fX2_listCut g x0 x1 x2 x3 x4 x5 x6 x7 m = some (r, m')) : mV l yX2_listCut (wT yX2_listCut cX2_listCut 13 none) rX2_listCut G (fun ad => [.ref (ad x0), .int (iI x1), .int (iI x2), .int (iI x3), .int (iI x4), .int (iI x5), .int (iI x6), .ref (ad x7)]) g m m' :=
  met_v (by decide) (fun ad => Nat.le_of_ble_eq_true rfl) (fun p e s mt args below meth c Q A H0 H locs ad ls C hnm S hl Kr => wX2_listCut_0 C S hx0 hx1 hx2 hx3 hx4 hx5 hx6 hx7 hl hF Kr)
set_option maxRecDepth 20000 in
theorem wX2_list_97 {p : Program} {l : Launch} {e : Env} {s : State} {mt : MethodId} {args : Array Value} {below : List Frame} {meth : Method} {c : Code} {Q : State → Prop} {G : Gl} {A : Nat → Prop} {H0 : Heap} {ad : Int → Nat} {g : Shp} {H : Heap} {locs : List Loc} {ls : Array Slot} {m : Mem} {x0 x1 x2 x3 x4 x5 x6 x7 x8 x10 x11 : Int} (C : CallFix p mt c cX2_list 12 s args tb RX2) (S : Wd G A s H0 ad g m H locs) (hx0 : gk g x0 = 3) (hx1 : r32 x1) (hx2 : r32 x2) (hx3 : gk g x3 = 20) (hx4 : r32 x4) (hx5 : r32 x5) (hx6 : r32 x6) (hx7 : r32 x7) (hx8 : r32 x8) (hx10 : r32 x10) (hx11 : r32 x11) (hl : lv_has ls 12 [(0, .ref (ad x0)), (1, .int (iI x1)), (2, .int (iI x2)), (3, .ref (ad x3)), (4, .int (iI x4)), (5, .int (iI x5)), (6, .int (iI x6)), (7, .int (iI x7)), (8, .int (iI x8)), (10, .int (iI x10)), (11, .int (iI x11))]) {c1 : Int} {s1 : (Int × Int × Mem)} (hF : bX2_list_97 g x0 x1 x2 x3 x4 x5 x6 x7 x8 x10 x11 m = some (c1, s1)) (K0 : c1 = 0 → ∀ (H : Heap) (locs : List Loc) (ls : Array Slot), r32 s1.1 → r32 s1.2.1 → Wd G A s H0 ad g s1.2.2 H locs → lv_has ls 12 [(0, .ref (ad x0)), (1, .int (iI x1)), (2, .int (iI x2)), (3, .ref (ad x3)), (4, .int (iI x4)), (5, .int (iI x5)), (6, .int (iI x6)), (7, .int (iI x7)), (8, .int (iI x8)), (10, .int (iI s1.1)), (11, .int (iI s1.2.1))] → W p l e rX2_list s mt args below meth c H locs 0 0 Q (F0 mt 97 ls [])) (K1 : c1 = 1 → ∀ (H : Heap) (locs : List Loc) (ls : Array Slot), Wd G A s H0 ad g s1.2.2 H locs → lv_has ls 12 [(0, .ref (ad x0)), (1, .int (iI x1)), (2, .int (iI x2)), (3, .ref (ad x3)), (4, .int (iI x4)), (5, .int (iI x5)), (6, .int (iI x6)), (7, .int (iI x7)), (8, .int (iI x8))] → W p l e rX2_list s mt args below meth c H locs 0 0 Q (F0 mt 145 ls [])) : W p l e rX2_list s mt args below meth c H locs 0 0 Q (F0 mt 97 ls []) := by
  unfold bX2_list_97 at hF
  refine q_iload C hl 10 rfl dX2_list_97 ?_
  refine q_bipush C 6 (by decide) dX2_list_99 ?_
  refine q_icmp_gt C hx11 (rl 6 rfl) 145 dX2_list_101 (by decide) (fun hc1 => ?_) (fun hc1 => ?_)
  · have hF := if_t hc1 hF
    cases hF
    exact K1 rfl _ _ _  S (lv_sub hl [0, 1, 2, 3, 4, 5, 6, 7, 8] rfl)
  · have hF := if_f hc1 hF
    refine q_iload C hl 9 rfl dX2_list_104 ?_
    refine q_iload C hl 5 rfl dX2_list_106 ?_
    refine q_icmp_lt C hx10 hx5 145 dX2_list_108 (by decide) (fun hc2 => ?_) (fun hc2 => ?_)
    · have hF := if_t hc2 hF
      cases hF
      exact K1 rfl _ _ _  S (lv_sub hl [0, 1, 2, 3, 4, 5, 6, 7, 8] rfl)
    · have hF := if_f hc2 hF
      refine q_aload_n C hl 0 rfl rfl dX2_list_111 ?_
      refine q_iload C hl 6 rfl dX2_list_112 ?_
      refine q_iload C hl 8 rfl dX2_list_114 ?_
      refine q_iload C hl 10 rfl dX2_list_116 ?_
      refine q_iload C hl 5 rfl dX2_list_118 ?_
      refine q_iload C hl 9 rfl dX2_list_120 ?_
      refine q_iload C hl 7 rfl dX2_list_122 ?_
      refine q_aload_n C hl 3 rfl rfl dX2_list_124 ?_
      obtain ⟨v3, m4, h5, hF⟩ := bd2_ok hF
      refine q_cv S (run_V (As := [.int (iI x6), .int (iI x8), .int (iI x11), .int (iI x5), .int (iI x10), .int (iI x7), .ref (ad x3)]) (rest := []) C S (cX2_listCut_ok l G hx0 hx6 hx8 hx11 hx5 hx10 hx7 hx3 h5 ad _) hx0 ⟨by decide, _, _, rfl⟩ gd_RX2_26 hdV_X2_listCut rfl ⟨rfl, rfl, by decide, by decide⟩ ⟨Nat.zero_le _, Nat.zero_le _⟩ hl.1 rfl (Nat.le_of_ble_eq_true rfl) dX2_list_125) (fun H locs Sm4 => ?_)
      refine q_iload C hl 9 rfl dX2_list_128 ?_
      refine q_aload_n C hl 3 rfl rfl dX2_list_130 ?_
      refine q_iconst C 2 dX2_list_131 ?_
      obtain ⟨i6, hF⟩ := ck_ok hF
      refine q_iald C Sm4 hx3 i6 dX2_list_132 ?_
      refine q_iload C hl 4 rfl dX2_list_133 ?_
      refine q_iadd C dX2_list_135 ?_
      refine q_isub C dX2_list_136 ?_
      obtain ⟨y7, ey7, hF⟩ := vv_ok hF
      have ry7 : r32 y7 := ey7 ▸ (r32_w _)
      refine q_istore C hl [(10, .int (iI y7)), (0, .ref (ad x0)), (1, .int (iI x1)), (2, .int (iI x2)), (3, .ref (ad x3)), (4, .int (iI x4)), (5, .int (iI x5)), (6, .int (iI x6)), (7, .int (iI x7)), (8, .int (iI x8)), (11, .int (iI x11))] ey7 (by decide) rfl dX2_list_137 (fun ls hl => ?_)
      obtain ⟨y8, ey8, hF⟩ := vv_ok hF
      have ry8 : r32 y8 := ey8 ▸ r32_w _
      refine q_iinc C hl 10 [(11, .int (iI y8)), (10, .int (iI y7)), (0, .ref (ad x0)), (1, .int (iI x1)), (2, .int (iI x2)), (3, .ref (ad x3)), (4, .int (iI x4)), (5, .int (iI x5)), (6, .int (iI x6)), (7, .int (iI x7)), (8, .int (iI x8))] rfl ey8 (by decide) rfl dX2_list_139 (fun ls hl => ?_)
      refine q_goto C 97 dX2_list_142 (by decide) ?_
      cases hF
      exact K0 rfl _ _ _ ry7 ry8 Sm4 (lv_sub hl [2, 3, 4, 5, 6, 7, 8, 9, 10, 1, 0] rfl)
set_option maxRecDepth 20000 in
theorem lX2_list_97 {p : Program} {l : Launch} {e : Env} {s : State} {mt : MethodId} {args : Array Value} {below : List Frame} {meth : Method} {c : Code} {Q : State → Prop} {G : Gl} {A : Nat → Prop} {H0 : Heap} {ad : Int → Nat} {g : Shp} {x0 x1 x2 x3 x4 x5 x6 x7 x8 : Int} (C : CallFix p mt c cX2_list 12 s args tb RX2) (hx0 : gk g x0 = 3) (hx1 : r32 x1) (hx2 : r32 x2) (hx3 : gk g x3 = 20) (hx4 : r32 x4) (hx5 : r32 x5) (hx6 : r32 x6) (hx7 : r32 x7) (hx8 : r32 x8) {n : Nat} {s0 s1 : (Int × Int × Mem)} {c1 : Int} (hI : iter (BX2_list_97 g x0 x1 x2 x3 x4 x5 x6 x7 x8) n s0 = some (c1, s1)) (K1 : c1 = 1 → ∀ (H : Heap) (locs : List Loc) (ls : Array Slot), Wd G A s H0 ad g s1.2.2 H locs → lv_has ls 12 [(0, .ref (ad x0)), (1, .int (iI x1)), (2, .int (iI x2)), (3, .ref (ad x3)), (4, .int (iI x4)), (5, .int (iI x5)), (6, .int (iI x6)), (7, .int (iI x7)), (8, .int (iI x8))] → W p l e rX2_list s mt args below meth c H locs 0 0 Q (F0 mt 145 ls [])) : ∀ (H : Heap) (locs : List Loc) (ls : Array Slot), r32 s0.1 → r32 s0.2.1 → Wd G A s H0 ad g s0.2.2 H locs → lv_has ls 12 [(0, .ref (ad x0)), (1, .int (iI x1)), (2, .int (iI x2)), (3, .ref (ad x3)), (4, .int (iI x4)), (5, .int (iI x5)), (6, .int (iI x6)), (7, .int (iI x7)), (8, .int (iI x8)), (10, .int (iI s0.1)), (11, .int (iI s0.2.1))] → W p l e rX2_list s mt args below meth c H locs 0 0 Q (F0 mt 97 ls []) :=
  iter_W (Pw := fun q => ∀ (H : Heap) (locs : List Loc) (ls : Array Slot), r32 q.1 → r32 q.2.1 → Wd G A s H0 ad g q.2.2 H locs → lv_has ls 12 [(0, .ref (ad x0)), (1, .int (iI x1)), (2, .int (iI x2)), (3, .ref (ad x3)), (4, .int (iI x4)), (5, .int (iI x5)), (6, .int (iI x6)), (7, .int (iI x7)), (8, .int (iI x8)), (10, .int (iI q.1)), (11, .int (iI q.2.1))] → W p l e rX2_list s mt args below meth c H locs 0 0 Q (F0 mt 97 ls [])) (Px := fun c0 q => (c0 = 1 → ∀ (H : Heap) (locs : List Loc) (ls : Array Slot), Wd G A s H0 ad g q.2.2 H locs → lv_has ls 12 [(0, .ref (ad x0)), (1, .int (iI x1)), (2, .int (iI x2)), (3, .ref (ad x3)), (4, .int (iI x4)), (5, .int (iI x5)), (6, .int (iI x6)), (7, .int (iI x7)), (8, .int (iI x8))] → W p l e rX2_list s mt args below meth c H locs 0 0 Q (F0 mt 145 ls [])))
    (fun s c s' hB K0 kx H locs ls f0 f1 S hl => wX2_list_97 C S hx0 hx1 hx2 hx3 hx4 hx5 hx6 hx7 hx8 f0 f1 hl hB K0 (fun h9 => (kx (by rw [h9]; decide)) h9)) _ _ _ _ hI K1
set_option maxRecDepth 20000 in
theorem wX2_list_145 {p : Program} {l : Launch} {e : Env} {s : State} {mt : MethodId} {args : Array Value} {below : List Frame} {meth : Method} {c : Code} {Q : State → Prop} {G : Gl} {A : Nat → Prop} {H0 : Heap} {ad : Int → Nat} {g : Shp} {H : Heap} {locs : List Loc} {ls : Array Slot} {m : Mem} {x0 x1 x2 x3 x4 x5 x6 x7 x8 : Int} (C : CallFix p mt c cX2_list 12 s args tb RX2) (S : Wd G A s H0 ad g m H locs) (hx0 : gk g x0 = 3) (hx1 : r32 x1) (hx2 : r32 x2) (hx3 : gk g x3 = 20) (hx4 : r32 x4) (hx5 : r32 x5) (hx6 : r32 x6) (hx7 : r32 x7) (hx8 : r32 x8) (hl : lv_has ls 12 [(0, .ref (ad x0)), (1, .int (iI x1)), (2, .int (iI x2)), (3, .ref (ad x3)), (4, .int (iI x4)), (5, .int (iI x5)), (6, .int (iI x6)), (7, .int (iI x7)), (8, .int (iI x8))]) {c1 : Int} {s1 : (Int × Mem)} (hF : bX2_list_145 g x0 x1 x2 x3 x4 x5 x6 x7 x8 m = some (c1, s1)) (K0 : c1 = 0 → ∀ (H : Heap) (locs : List Loc) (ls : Array Slot), r32 s1.1 → Wd G A s H0 ad g s1.2 H locs → lv_has ls 12 [(0, .ref (ad x0)), (1, .int (iI x1)), (2, .int (iI x2)), (3, .ref (ad x3)), (4, .int (iI x4)), (5, .int (iI x5)), (6, .int (iI x6)), (7, .int (iI x7)), (8, .int (iI s1.1))] → W p l e rX2_list s mt args below meth c H locs 0 0 Q (F0 mt 52 ls [])) (K1 : c1 = 1 → ∀ (H : Heap) (locs : List Loc) (ls : Array Slot), Wd G A s H0 ad g s1.2 H locs → lv_has ls 12 [(0, .ref (ad x0)), (1, .int (iI x1)), (2, .int (iI x2)), (3, .ref (ad x3)), (4, .int (iI x4)), (5, .int (iI x5)), (6, .int (iI x6))] → W p l e rX2_list s mt args below meth c H locs 0 0 Q (F0 mt 151 ls [])) : W p l e rX2_list s mt args below meth c H locs 0 0 Q (F0 mt 145 ls []) := by
  unfold bX2_list_145 at hF
  obtain ⟨y1, ey1, hF⟩ := vv_ok hF
  have ry1 : r32 y1 := ey1 ▸ r32_w _
  refine q_iinc C hl 8 [(8, .int (iI y1)), (0, .ref (ad x0)), (1, .int (iI x1)), (2, .int (iI x2)), (3, .ref (ad x3)), (4, .int (iI x4)), (5, .int (iI x5)), (6, .int (iI x6)), (7, .int (iI x7))] rfl ey1 (by decide) rfl dX2_list_145 (fun ls hl => ?_)
  refine q_goto C 52 dX2_list_148 (by decide) ?_
  cases hF
  exact K0 rfl _ _ _ ry1 S (lv_sub hl [1, 2, 3, 4, 5, 6, 7, 8, 0] rfl)
set_option maxRecDepth 20000 in
theorem wX2_list_52 {p : Program} {l : Launch} {e : Env} {s : State} {mt : MethodId} {args : Array Value} {below : List Frame} {meth : Method} {c : Code} {Q : State → Prop} {G : Gl} {A : Nat → Prop} {H0 : Heap} {ad : Int → Nat} {g : Shp} {H : Heap} {locs : List Loc} {ls : Array Slot} {m : Mem} {x0 x1 x2 x3 x4 x5 x6 x7 x8 : Int} (C : CallFix p mt c cX2_list 12 s args tb RX2) (S : Wd G A s H0 ad g m H locs) (hx0 : gk g x0 = 3) (hx1 : r32 x1) (hx2 : r32 x2) (hx3 : gk g x3 = 20) (hx4 : r32 x4) (hx5 : r32 x5) (hx6 : r32 x6) (hx7 : r32 x7) (hx8 : r32 x8) (hl : lv_has ls 12 [(0, .ref (ad x0)), (1, .int (iI x1)), (2, .int (iI x2)), (3, .ref (ad x3)), (4, .int (iI x4)), (5, .int (iI x5)), (6, .int (iI x6)), (7, .int (iI x7)), (8, .int (iI x8))]) {c1 : Int} {s1 : (Int × Mem)} (hF : bX2_list_52 g x0 x1 x2 x3 x4 x5 x6 x7 x8 m = some (c1, s1)) (K0 : c1 = 0 → ∀ (H : Heap) (locs : List Loc) (ls : Array Slot), r32 s1.1 → Wd G A s H0 ad g s1.2 H locs → lv_has ls 12 [(0, .ref (ad x0)), (1, .int (iI x1)), (2, .int (iI x2)), (3, .ref (ad x3)), (4, .int (iI x4)), (5, .int (iI x5)), (6, .int (iI x6)), (7, .int (iI x7)), (8, .int (iI s1.1))] → W p l e rX2_list s mt args below meth c H locs 0 0 Q (F0 mt 52 ls [])) (K1 : c1 = 1 → ∀ (H : Heap) (locs : List Loc) (ls : Array Slot), Wd G A s H0 ad g s1.2 H locs → lv_has ls 12 [(0, .ref (ad x0)), (1, .int (iI x1)), (2, .int (iI x2)), (3, .ref (ad x3)), (4, .int (iI x4)), (5, .int (iI x5)), (6, .int (iI x6))] → W p l e rX2_list s mt args below meth c H locs 0 0 Q (F0 mt 151 ls [])) : W p l e rX2_list s mt args below meth c H locs 0 0 Q (F0 mt 52 ls []) := by
  unfold bX2_list_52 at hF
  refine q_iload C hl 8 rfl dX2_list_52 ?_
  refine q_bipush C 6 (by decide) dX2_list_54 ?_
  refine q_icmp_gt C hx8 (rl 6 rfl) 151 dX2_list_56 (by decide) (fun hc1 => ?_) (fun hc1 => ?_)
  · have hF := if_t hc1 hF
    cases hF
    exact K1 rfl _ _ _  S (lv_sub hl [0, 1, 2, 3, 4, 5, 6] rfl)
  · have hF := if_f hc1 hF
    refine q_iload C hl 6 rfl dX2_list_59 ?_
    refine q_aload_n C hl 3 rfl rfl dX2_list_61 ?_
    refine q_iconst C 0 dX2_list_62 ?_
    obtain ⟨i2, hF⟩ := ck_ok hF
    refine q_iald C S hx3 i2 dX2_list_63 ?_
    refine q_imul C dX2_list_64 ?_
    refine q_iload C hl 8 rfl dX2_list_65 ?_
    refine q_aload_n C hl 3 rfl rfl dX2_list_67 ?_
    refine q_iconst C 1 dX2_list_68 ?_
    obtain ⟨i3, hF⟩ := ck_ok hF
    refine q_iald C S hx3 i3 dX2_list_69 ?_
    refine q_imul C dX2_list_70 ?_
    refine q_iadd C dX2_list_71 ?_
    obtain ⟨y4, ey4, hF⟩ := vv_ok hF
    have ry4 : r32 y4 := ey4 ▸ (r32_w _)
    refine q_istore C hl [(9, .int (iI y4)), (0, .ref (ad x0)), (1, .int (iI x1)), (2, .int (iI x2)), (3, .ref (ad x3)), (4, .int (iI x4)), (5, .int (iI x5)), (6, .int (iI x6)), (7, .int (iI x7)), (8, .int (iI x8))] ey4 (by decide) rfl dX2_list_72 (fun ls hl => ?_)
    refine q_iload_n C hl 2 rfl rfl dX2_list_74 ?_
    refine q_iload C hl 0 rfl dX2_list_75 ?_
    refine q_isub C dX2_list_77 ?_
    refine q_iload C hl 7 rfl dX2_list_78 ?_
    refine q_iload C hl 9 rfl dX2_list_80 ?_
    refine q_iadd C dX2_list_82 ?_
    refine q_iload C hl 6 rfl dX2_list_83 ?_
    refine q_iadd C dX2_list_85 ?_
    refine q_iconst C 1 dX2_list_86 ?_
    refine q_isub C dX2_list_87 ?_
    refine q_iload C hl 5 rfl dX2_list_88 ?_
    refine q_imul C dX2_list_90 ?_
    refine q_isub C dX2_list_91 ?_
    obtain ⟨y5, ey5, hF⟩ := vv_ok hF
    have ry5 : r32 y5 := ey5 ▸ (r32_w _)
    refine q_istore C hl [(10, .int (iI y5)), (9, .int (iI y4)), (0, .ref (ad x0)), (1, .int (iI x1)), (2, .int (iI x2)), (3, .ref (ad x3)), (4, .int (iI x4)), (5, .int (iI x5)), (6, .int (iI x6)), (7, .int (iI x7)), (8, .int (iI x8))] ey5 (by decide) rfl dX2_list_92 (fun ls hl => ?_)
    refine q_iconst C 0 dX2_list_94 ?_
    refine q_istore C hl [(11, .int (iI 0)), (10, .int (iI y5)), (9, .int (iI y4)), (0, .ref (ad x0)), (1, .int (iI x1)), (2, .int (iI x2)), (3, .ref (ad x3)), (4, .int (iI x4)), (5, .int (iI x5)), (6, .int (iI x6)), (7, .int (iI x7)), (8, .int (iI x8))] rfl (by decide) rfl dX2_list_95 (fun ls hl => ?_)
    obtain ⟨cv6, sv7, hi8, hF⟩ := bdl_ok hF
    refine lX2_list_97 C hx0 hx1 hx2 hx3 hx4 hx5 hx6 hx7 hx8 hi8 ?_ _ _ _ ry5 (rl 0 rfl) S (lv_sub hl [3, 4, 5, 6, 7, 8, 9, 10, 11, 1, 0] rfl)
    intro _ H locs ls  S9 hl
    exact wX2_list_145 C S9 hx0 hx1 hx2 hx3 hx4 hx5 hx6 hx7 hx8 (lv_sub hl [0, 1, 2, 3, 4, 5, 6, 7, 8] rfl) hF K0 K1
set_option maxRecDepth 20000 in
theorem lX2_list_52 {p : Program} {l : Launch} {e : Env} {s : State} {mt : MethodId} {args : Array Value} {below : List Frame} {meth : Method} {c : Code} {Q : State → Prop} {G : Gl} {A : Nat → Prop} {H0 : Heap} {ad : Int → Nat} {g : Shp} {x0 x1 x2 x3 x4 x5 x6 x7 : Int} (C : CallFix p mt c cX2_list 12 s args tb RX2) (hx0 : gk g x0 = 3) (hx1 : r32 x1) (hx2 : r32 x2) (hx3 : gk g x3 = 20) (hx4 : r32 x4) (hx5 : r32 x5) (hx6 : r32 x6) (hx7 : r32 x7) {n : Nat} {s0 s1 : (Int × Mem)} {c1 : Int} (hI : iter (BX2_list_52 g x0 x1 x2 x3 x4 x5 x6 x7) n s0 = some (c1, s1)) (K1 : c1 = 1 → ∀ (H : Heap) (locs : List Loc) (ls : Array Slot), Wd G A s H0 ad g s1.2 H locs → lv_has ls 12 [(0, .ref (ad x0)), (1, .int (iI x1)), (2, .int (iI x2)), (3, .ref (ad x3)), (4, .int (iI x4)), (5, .int (iI x5)), (6, .int (iI x6))] → W p l e rX2_list s mt args below meth c H locs 0 0 Q (F0 mt 151 ls [])) : ∀ (H : Heap) (locs : List Loc) (ls : Array Slot), r32 s0.1 → Wd G A s H0 ad g s0.2 H locs → lv_has ls 12 [(0, .ref (ad x0)), (1, .int (iI x1)), (2, .int (iI x2)), (3, .ref (ad x3)), (4, .int (iI x4)), (5, .int (iI x5)), (6, .int (iI x6)), (7, .int (iI x7)), (8, .int (iI s0.1))] → W p l e rX2_list s mt args below meth c H locs 0 0 Q (F0 mt 52 ls []) :=
  iter_W (Pw := fun q => ∀ (H : Heap) (locs : List Loc) (ls : Array Slot), r32 q.1 → Wd G A s H0 ad g q.2 H locs → lv_has ls 12 [(0, .ref (ad x0)), (1, .int (iI x1)), (2, .int (iI x2)), (3, .ref (ad x3)), (4, .int (iI x4)), (5, .int (iI x5)), (6, .int (iI x6)), (7, .int (iI x7)), (8, .int (iI q.1))] → W p l e rX2_list s mt args below meth c H locs 0 0 Q (F0 mt 52 ls [])) (Px := fun c0 q => (c0 = 1 → ∀ (H : Heap) (locs : List Loc) (ls : Array Slot), Wd G A s H0 ad g q.2 H locs → lv_has ls 12 [(0, .ref (ad x0)), (1, .int (iI x1)), (2, .int (iI x2)), (3, .ref (ad x3)), (4, .int (iI x4)), (5, .int (iI x5)), (6, .int (iI x6))] → W p l e rX2_list s mt args below meth c H locs 0 0 Q (F0 mt 151 ls [])))
    (fun s c s' hB K0 kx H locs ls f0 S hl => wX2_list_52 C S hx0 hx1 hx2 hx3 hx4 hx5 hx6 hx7 f0 hl hB K0 (fun h9 => (kx (by rw [h9]; decide)) h9)) _ _ _ _ hI K1
set_option maxRecDepth 20000 in
theorem wX2_list_151 {p : Program} {l : Launch} {e : Env} {s : State} {mt : MethodId} {args : Array Value} {below : List Frame} {meth : Method} {c : Code} {Q : State → Prop} {G : Gl} {A : Nat → Prop} {H0 : Heap} {ad : Int → Nat} {g : Shp} {H : Heap} {locs : List Loc} {ls : Array Slot} {m : Mem} {x0 x1 x2 x3 x4 x5 x6 : Int} (C : CallFix p mt c cX2_list 12 s args tb RX2) (S : Wd G A s H0 ad g m H locs) (hx0 : gk g x0 = 3) (hx1 : r32 x1) (hx2 : r32 x2) (hx3 : gk g x3 = 20) (hx4 : r32 x4) (hx5 : r32 x5) (hx6 : r32 x6) (hl : lv_has ls 12 [(0, .ref (ad x0)), (1, .int (iI x1)), (2, .int (iI x2)), (3, .ref (ad x3)), (4, .int (iI x4)), (5, .int (iI x5)), (6, .int (iI x6))]) {c1 : Int} {s1 : (Int × Mem)} (hF : bX2_list_151 g x0 x1 x2 x3 x4 x5 x6 m = some (c1, s1)) (K0 : c1 = 0 → ∀ (H : Heap) (locs : List Loc) (ls : Array Slot), r32 s1.1 → Wd G A s H0 ad g s1.2 H locs → lv_has ls 12 [(0, .ref (ad x0)), (1, .int (iI x1)), (2, .int (iI x2)), (3, .ref (ad x3)), (4, .int (iI x4)), (5, .int (iI x5)), (6, .int (iI s1.1))] → W p l e rX2_list s mt args below meth c H locs 0 0 Q (F0 mt 22 ls [])) (K1 : c1 = 1 → ∀ (H : Heap) (locs : List Loc) (ls : Array Slot), Wd G A s H0 ad g s1.2 H locs → lv_has ls 12 [(0, .ref (ad x0)), (1, .int (iI x1)), (2, .int (iI x2)), (3, .ref (ad x3)), (4, .int (iI x4)), (5, .int (iI x5))] → W p l e rX2_list s mt args below meth c H locs 0 0 Q (F0 mt 157 ls [])) : W p l e rX2_list s mt args below meth c H locs 0 0 Q (F0 mt 151 ls []) := by
  unfold bX2_list_151 at hF
  obtain ⟨y1, ey1, hF⟩ := vv_ok hF
  have ry1 : r32 y1 := ey1 ▸ r32_w _
  refine q_iinc C hl 6 [(6, .int (iI y1)), (0, .ref (ad x0)), (1, .int (iI x1)), (2, .int (iI x2)), (3, .ref (ad x3)), (4, .int (iI x4)), (5, .int (iI x5))] rfl ey1 (by decide) rfl dX2_list_151 (fun ls hl => ?_)
  refine q_goto C 22 dX2_list_154 (by decide) ?_
  cases hF
  exact K0 rfl _ _ _ ry1 S (lv_sub hl [1, 2, 3, 4, 5, 6, 0] rfl)
set_option maxRecDepth 20000 in
theorem wX2_list_47 {p : Program} {l : Launch} {e : Env} {s : State} {mt : MethodId} {args : Array Value} {below : List Frame} {meth : Method} {c : Code} {Q : State → Prop} {G : Gl} {A : Nat → Prop} {H0 : Heap} {ad : Int → Nat} {g : Shp} {H : Heap} {locs : List Loc} {ls : Array Slot} {m : Mem} {x0 x1 x2 x3 x4 x5 x6 z0 : Int} (C : CallFix p mt c cX2_list 12 s args tb RX2) (S : Wd G A s H0 ad g m H locs) (hx0 : gk g x0 = 3) (hx1 : r32 x1) (hx2 : r32 x2) (hx3 : gk g x3 = 20) (hx4 : r32 x4) (hx5 : r32 x5) (hx6 : r32 x6) (hz0 : r32 z0) (hl : lv_has ls 12 [(0, .ref (ad x0)), (1, .int (iI x1)), (2, .int (iI x2)), (3, .ref (ad x3)), (4, .int (iI x4)), (5, .int (iI x5)), (6, .int (iI x6))]) {c1 : Int} {s1 : (Int × Mem)} (hF : bX2_list_47 g x0 x1 x2 x3 x4 x5 x6 z0 m = some (c1, s1)) (K0 : c1 = 0 → ∀ (H : Heap) (locs : List Loc) (ls : Array Slot), r32 s1.1 → Wd G A s H0 ad g s1.2 H locs → lv_has ls 12 [(0, .ref (ad x0)), (1, .int (iI x1)), (2, .int (iI x2)), (3, .ref (ad x3)), (4, .int (iI x4)), (5, .int (iI x5)), (6, .int (iI s1.1))] → W p l e rX2_list s mt args below meth c H locs 0 0 Q (F0 mt 22 ls [])) (K1 : c1 = 1 → ∀ (H : Heap) (locs : List Loc) (ls : Array Slot), Wd G A s H0 ad g s1.2 H locs → lv_has ls 12 [(0, .ref (ad x0)), (1, .int (iI x1)), (2, .int (iI x2)), (3, .ref (ad x3)), (4, .int (iI x4)), (5, .int (iI x5))] → W p l e rX2_list s mt args below meth c H locs 0 0 Q (F0 mt 157 ls [])) : W p l e rX2_list s mt args below meth c H locs 0 0 Q (F0 mt 47 ls [.int (iI z0)]) := by
  unfold bX2_list_47 at hF
  refine q_istore C hl [(7, .int (iI z0)), (0, .ref (ad x0)), (1, .int (iI x1)), (2, .int (iI x2)), (3, .ref (ad x3)), (4, .int (iI x4)), (5, .int (iI x5)), (6, .int (iI x6))] rfl (by decide) rfl dX2_list_47 (fun ls hl => ?_)
  refine q_iconst C 0 dX2_list_49 ?_
  refine q_istore C hl [(8, .int (iI 0)), (7, .int (iI z0)), (0, .ref (ad x0)), (1, .int (iI x1)), (2, .int (iI x2)), (3, .ref (ad x3)), (4, .int (iI x4)), (5, .int (iI x5)), (6, .int (iI x6))] rfl (by decide) rfl dX2_list_50 (fun ls hl => ?_)
  obtain ⟨cv1, sv2, hi3, hF⟩ := bdl_ok hF
  refine lX2_list_52 C hx0 hx1 hx2 hx3 hx4 hx5 hx6 hz0 hi3 ?_ _ _ _ (rl 0 rfl) S (lv_sub hl [2, 3, 4, 5, 6, 7, 8, 1, 0] rfl)
  intro _ H locs ls  S4 hl
  exact wX2_list_151 C S4 hx0 hx1 hx2 hx3 hx4 hx5 hx6 (lv_sub hl [0, 1, 2, 3, 4, 5, 6] rfl) hF K0 K1
set_option maxRecDepth 20000 in
theorem wX2_list_45 {p : Program} {l : Launch} {e : Env} {s : State} {mt : MethodId} {args : Array Value} {below : List Frame} {meth : Method} {c : Code} {Q : State → Prop} {G : Gl} {A : Nat → Prop} {H0 : Heap} {ad : Int → Nat} {g : Shp} {H : Heap} {locs : List Loc} {ls : Array Slot} {m : Mem} {x0 x1 x2 x3 x4 x5 x6 : Int} (C : CallFix p mt c cX2_list 12 s args tb RX2) (S : Wd G A s H0 ad g m H locs) (hx0 : gk g x0 = 3) (hx1 : r32 x1) (hx2 : r32 x2) (hx3 : gk g x3 = 20) (hx4 : r32 x4) (hx5 : r32 x5) (hx6 : r32 x6) (hl : lv_has ls 12 [(0, .ref (ad x0)), (1, .int (iI x1)), (2, .int (iI x2)), (3, .ref (ad x3)), (4, .int (iI x4)), (5, .int (iI x5)), (6, .int (iI x6))]) {c1 : Int} {s1 : (Int × Mem)} (hF : bX2_list_45 g x0 x1 x2 x3 x4 x5 x6 m = some (c1, s1)) (K0 : c1 = 0 → ∀ (H : Heap) (locs : List Loc) (ls : Array Slot), r32 s1.1 → Wd G A s H0 ad g s1.2 H locs → lv_has ls 12 [(0, .ref (ad x0)), (1, .int (iI x1)), (2, .int (iI x2)), (3, .ref (ad x3)), (4, .int (iI x4)), (5, .int (iI x5)), (6, .int (iI s1.1))] → W p l e rX2_list s mt args below meth c H locs 0 0 Q (F0 mt 22 ls [])) (K1 : c1 = 1 → ∀ (H : Heap) (locs : List Loc) (ls : Array Slot), Wd G A s H0 ad g s1.2 H locs → lv_has ls 12 [(0, .ref (ad x0)), (1, .int (iI x1)), (2, .int (iI x2)), (3, .ref (ad x3)), (4, .int (iI x4)), (5, .int (iI x5))] → W p l e rX2_list s mt args below meth c H locs 0 0 Q (F0 mt 157 ls [])) : W p l e rX2_list s mt args below meth c H locs 0 0 Q (F0 mt 45 ls []) := by
  unfold bX2_list_45 at hF
  refine q_iload C hl 5 rfl dX2_list_45 ?_
  exact wX2_list_47 C S hx0 hx1 hx2 hx3 hx4 hx5 hx6 hx5 (lv_sub hl [0, 1, 2, 3, 4, 5, 6] rfl) hF K0 K1
set_option maxRecDepth 20000 in
theorem wX2_list_22 {p : Program} {l : Launch} {e : Env} {s : State} {mt : MethodId} {args : Array Value} {below : List Frame} {meth : Method} {c : Code} {Q : State → Prop} {G : Gl} {A : Nat → Prop} {H0 : Heap} {ad : Int → Nat} {g : Shp} {H : Heap} {locs : List Loc} {ls : Array Slot} {m : Mem} {x0 x1 x2 x3 x4 x5 x6 : Int} (C : CallFix p mt c cX2_list 12 s args tb RX2) (S : Wd G A s H0 ad g m H locs) (hx0 : gk g x0 = 3) (hx1 : r32 x1) (hx2 : r32 x2) (hx3 : gk g x3 = 20) (hx4 : r32 x4) (hx5 : r32 x5) (hx6 : r32 x6) (hl : lv_has ls 12 [(0, .ref (ad x0)), (1, .int (iI x1)), (2, .int (iI x2)), (3, .ref (ad x3)), (4, .int (iI x4)), (5, .int (iI x5)), (6, .int (iI x6))]) {c1 : Int} {s1 : (Int × Mem)} (hF : bX2_list_22 g x0 x1 x2 x3 x4 x5 x6 m = some (c1, s1)) (K0 : c1 = 0 → ∀ (H : Heap) (locs : List Loc) (ls : Array Slot), r32 s1.1 → Wd G A s H0 ad g s1.2 H locs → lv_has ls 12 [(0, .ref (ad x0)), (1, .int (iI x1)), (2, .int (iI x2)), (3, .ref (ad x3)), (4, .int (iI x4)), (5, .int (iI x5)), (6, .int (iI s1.1))] → W p l e rX2_list s mt args below meth c H locs 0 0 Q (F0 mt 22 ls [])) (K1 : c1 = 1 → ∀ (H : Heap) (locs : List Loc) (ls : Array Slot), Wd G A s H0 ad g s1.2 H locs → lv_has ls 12 [(0, .ref (ad x0)), (1, .int (iI x1)), (2, .int (iI x2)), (3, .ref (ad x3)), (4, .int (iI x4)), (5, .int (iI x5))] → W p l e rX2_list s mt args below meth c H locs 0 0 Q (F0 mt 157 ls [])) : W p l e rX2_list s mt args below meth c H locs 0 0 Q (F0 mt 22 ls []) := by
  unfold bX2_list_22 at hF
  refine q_iload C hl 6 rfl dX2_list_22 ?_
  refine q_bipush C 6 (by decide) dX2_list_24 ?_
  refine q_icmp_gt C hx6 (rl 6 rfl) 157 dX2_list_26 (by decide) (fun hc1 => ?_) (fun hc1 => ?_)
  · have hF := if_t hc1 hF
    cases hF
    exact K1 rfl _ _ _  S (lv_sub hl [0, 1, 2, 3, 4, 5] rfl)
  · have hF := if_f hc1 hF
    refine q_iload_n C hl 2 rfl rfl dX2_list_29 ?_
    refine q_if_eq C hx2 45 dX2_list_30 (by decide) (fun hc2 => ?_) (fun hc2 => ?_)
    · have hF := if_t hc2 hF
      exact wX2_list_45 C S hx0 hx1 hx2 hx3 hx4 hx5 hx6 (lv_sub hl [0, 1, 2, 3, 4, 5, 6] rfl) hF K0 K1
    · have hF := if_f hc2 hF
      refine q_iload C hl 6 rfl dX2_list_33 ?_
      refine q_if_ne C hx6 45 dX2_list_35 (by decide) (fun hc3 => ?_) (fun hc3 => ?_)
      · have hF := if_t hc3 hF
        refine q_iload C hl 5 rfl dX2_list_38 ?_
        refine q_iconst C 1 dX2_list_40 ?_
        refine q_iadd C dX2_list_41 ?_
        refine q_goto C 47 dX2_list_42 (by decide) ?_
        exact wX2_list_47 C S hx0 hx1 hx2 hx3 hx4 hx5 hx6 (r32_w _) (lv_sub hl [0, 1, 2, 3, 4, 5, 6] rfl) hF K0 K1
      · have hF := if_f hc3 hF
        exact wX2_list_45 C S hx0 hx1 hx2 hx3 hx4 hx5 hx6 (lv_sub hl [0, 1, 2, 3, 4, 5, 6] rfl) hF K0 K1
set_option maxRecDepth 20000 in
theorem lX2_list_22 {p : Program} {l : Launch} {e : Env} {s : State} {mt : MethodId} {args : Array Value} {below : List Frame} {meth : Method} {c : Code} {Q : State → Prop} {G : Gl} {A : Nat → Prop} {H0 : Heap} {ad : Int → Nat} {g : Shp} {x0 x1 x2 x3 x4 x5 : Int} (C : CallFix p mt c cX2_list 12 s args tb RX2) (hx0 : gk g x0 = 3) (hx1 : r32 x1) (hx2 : r32 x2) (hx3 : gk g x3 = 20) (hx4 : r32 x4) (hx5 : r32 x5) {n : Nat} {s0 s1 : (Int × Mem)} {c1 : Int} (hI : iter (BX2_list_22 g x0 x1 x2 x3 x4 x5) n s0 = some (c1, s1)) (K1 : c1 = 1 → ∀ (H : Heap) (locs : List Loc) (ls : Array Slot), Wd G A s H0 ad g s1.2 H locs → lv_has ls 12 [(0, .ref (ad x0)), (1, .int (iI x1)), (2, .int (iI x2)), (3, .ref (ad x3)), (4, .int (iI x4)), (5, .int (iI x5))] → W p l e rX2_list s mt args below meth c H locs 0 0 Q (F0 mt 157 ls [])) : ∀ (H : Heap) (locs : List Loc) (ls : Array Slot), r32 s0.1 → Wd G A s H0 ad g s0.2 H locs → lv_has ls 12 [(0, .ref (ad x0)), (1, .int (iI x1)), (2, .int (iI x2)), (3, .ref (ad x3)), (4, .int (iI x4)), (5, .int (iI x5)), (6, .int (iI s0.1))] → W p l e rX2_list s mt args below meth c H locs 0 0 Q (F0 mt 22 ls []) :=
  iter_W (Pw := fun q => ∀ (H : Heap) (locs : List Loc) (ls : Array Slot), r32 q.1 → Wd G A s H0 ad g q.2 H locs → lv_has ls 12 [(0, .ref (ad x0)), (1, .int (iI x1)), (2, .int (iI x2)), (3, .ref (ad x3)), (4, .int (iI x4)), (5, .int (iI x5)), (6, .int (iI q.1))] → W p l e rX2_list s mt args below meth c H locs 0 0 Q (F0 mt 22 ls [])) (Px := fun c0 q => (c0 = 1 → ∀ (H : Heap) (locs : List Loc) (ls : Array Slot), Wd G A s H0 ad g q.2 H locs → lv_has ls 12 [(0, .ref (ad x0)), (1, .int (iI x1)), (2, .int (iI x2)), (3, .ref (ad x3)), (4, .int (iI x4)), (5, .int (iI x5))] → W p l e rX2_list s mt args below meth c H locs 0 0 Q (F0 mt 157 ls [])))
    (fun s c s' hB K0 kx H locs ls f0 S hl => wX2_list_22 C S hx0 hx1 hx2 hx3 hx4 hx5 f0 hl hB K0 (fun h9 => (kx (by rw [h9]; decide)) h9)) _ _ _ _ hI K1
set_option maxRecDepth 20000 in
theorem wX2_list_157 {p : Program} {l : Launch} {e : Env} {s : State} {mt : MethodId} {args : Array Value} {below : List Frame} {meth : Method} {c : Code} {Q : State → Prop} {G : Gl} {A : Nat → Prop} {H0 : Heap} {ad : Int → Nat} {g : Shp} {H : Heap} {locs : List Loc} {ls : Array Slot} {m : Mem} {x0 x1 x2 x3 x4 x5 : Int} (C : CallFix p mt c cX2_list 12 s args tb RX2) (S : Wd G A s H0 ad g m H locs) (hx0 : gk g x0 = 3) (hx1 : r32 x1) (hx2 : r32 x2) (hx3 : gk g x3 = 20) (hx4 : r32 x4) (hx5 : r32 x5) (hl : lv_has ls 12 [(0, .ref (ad x0)), (1, .int (iI x1)), (2, .int (iI x2)), (3, .ref (ad x3)), (4, .int (iI x4)), (5, .int (iI x5))]) {c1 : Int} {s1 : (Int × Mem)} (hF : bX2_list_157 g x0 x1 x2 x3 x4 x5 m = some (c1, s1)) (K0 : c1 = 0 → ∀ (H : Heap) (locs : List Loc) (ls : Array Slot), r32 s1.1 → Wd G A s H0 ad g s1.2 H locs → lv_has ls 12 [(0, .ref (ad x0)), (1, .int (iI x1)), (2, .int (iI x2)), (3, .ref (ad x3)), (4, .int (iI x4)), (5, .int (iI s1.1))] → W p l e rX2_list s mt args below meth c H locs 0 0 Q (F0 mt 13 ls [])) (K1 : c1 = 1 → ∀ (H : Heap) (locs : List Loc) (ls : Array Slot), Wd G A s H0 ad g s1.2 H locs → lv_has ls 12 [] → W p l e rX2_list s mt args below meth c H locs 0 0 Q (F0 mt 163 ls [])) : W p l e rX2_list s mt args below meth c H locs 0 0 Q (F0 mt 157 ls []) := by
  unfold bX2_list_157 at hF
  obtain ⟨y1, ey1, hF⟩ := vv_ok hF
  have ry1 : r32 y1 := ey1 ▸ r32_w _
  refine q_iinc C hl 5 [(5, .int (iI y1)), (0, .ref (ad x0)), (1, .int (iI x1)), (2, .int (iI x2)), (3, .ref (ad x3)), (4, .int (iI x4))] rfl ey1 (by decide) rfl dX2_list_157 (fun ls hl => ?_)
  refine q_goto C 13 dX2_list_160 (by decide) ?_
  cases hF
  exact K0 rfl _ _ _ ry1 S (lv_sub hl [1, 2, 3, 4, 5, 0] rfl)
set_option maxRecDepth 20000 in
theorem wX2_list_13 {p : Program} {l : Launch} {e : Env} {s : State} {mt : MethodId} {args : Array Value} {below : List Frame} {meth : Method} {c : Code} {Q : State → Prop} {G : Gl} {A : Nat → Prop} {H0 : Heap} {ad : Int → Nat} {g : Shp} {H : Heap} {locs : List Loc} {ls : Array Slot} {m : Mem} {x0 x1 x2 x3 x4 x5 : Int} (C : CallFix p mt c cX2_list 12 s args tb RX2) (S : Wd G A s H0 ad g m H locs) (hx0 : gk g x0 = 3) (hx1 : r32 x1) (hx2 : r32 x2) (hx3 : gk g x3 = 20) (hx4 : r32 x4) (hx5 : r32 x5) (hl : lv_has ls 12 [(0, .ref (ad x0)), (1, .int (iI x1)), (2, .int (iI x2)), (3, .ref (ad x3)), (4, .int (iI x4)), (5, .int (iI x5))]) {c1 : Int} {s1 : (Int × Mem)} (hF : bX2_list_13 g x0 x1 x2 x3 x4 x5 m = some (c1, s1)) (K0 : c1 = 0 → ∀ (H : Heap) (locs : List Loc) (ls : Array Slot), r32 s1.1 → Wd G A s H0 ad g s1.2 H locs → lv_has ls 12 [(0, .ref (ad x0)), (1, .int (iI x1)), (2, .int (iI x2)), (3, .ref (ad x3)), (4, .int (iI x4)), (5, .int (iI s1.1))] → W p l e rX2_list s mt args below meth c H locs 0 0 Q (F0 mt 13 ls [])) (K1 : c1 = 1 → ∀ (H : Heap) (locs : List Loc) (ls : Array Slot), Wd G A s H0 ad g s1.2 H locs → lv_has ls 12 [] → W p l e rX2_list s mt args below meth c H locs 0 0 Q (F0 mt 163 ls [])) : W p l e rX2_list s mt args below meth c H locs 0 0 Q (F0 mt 13 ls []) := by
  unfold bX2_list_13 at hF
  refine q_iload C hl 5 rfl dX2_list_13 ?_
  refine q_iconst C 3 dX2_list_15 ?_
  refine q_icmp_gt C hx5 (rl 3 rfl) 163 dX2_list_16 (by decide) (fun hc1 => ?_) (fun hc1 => ?_)
  · have hF := if_t hc1 hF
    cases hF
    exact K1 rfl _ _ _  S (lv_sub hl [] rfl)
  · have hF := if_f hc1 hF
    refine q_iconst C 0 dX2_list_19 ?_
    refine q_istore C hl [(6, .int (iI 0)), (0, .ref (ad x0)), (1, .int (iI x1)), (2, .int (iI x2)), (3, .ref (ad x3)), (4, .int (iI x4)), (5, .int (iI x5))] rfl (by decide) rfl dX2_list_20 (fun ls hl => ?_)
    obtain ⟨cv2, sv3, hi4, hF⟩ := bdl_ok hF
    refine lX2_list_22 C hx0 hx1 hx2 hx3 hx4 hx5 hi4 ?_ _ _ _ (rl 0 rfl) S (lv_sub hl [1, 2, 3, 4, 5, 6, 0] rfl)
    intro _ H locs ls  S5 hl
    exact wX2_list_157 C S5 hx0 hx1 hx2 hx3 hx4 hx5 (lv_sub hl [0, 1, 2, 3, 4, 5] rfl) hF K0 K1
set_option maxRecDepth 20000 in
theorem lX2_list_13 {p : Program} {l : Launch} {e : Env} {s : State} {mt : MethodId} {args : Array Value} {below : List Frame} {meth : Method} {c : Code} {Q : State → Prop} {G : Gl} {A : Nat → Prop} {H0 : Heap} {ad : Int → Nat} {g : Shp} {x0 x1 x2 x3 x4 : Int} (C : CallFix p mt c cX2_list 12 s args tb RX2) (hx0 : gk g x0 = 3) (hx1 : r32 x1) (hx2 : r32 x2) (hx3 : gk g x3 = 20) (hx4 : r32 x4) {n : Nat} {s0 s1 : (Int × Mem)} {c1 : Int} (hI : iter (BX2_list_13 g x0 x1 x2 x3 x4) n s0 = some (c1, s1)) (K1 : c1 = 1 → ∀ (H : Heap) (locs : List Loc) (ls : Array Slot), Wd G A s H0 ad g s1.2 H locs → lv_has ls 12 [] → W p l e rX2_list s mt args below meth c H locs 0 0 Q (F0 mt 163 ls [])) : ∀ (H : Heap) (locs : List Loc) (ls : Array Slot), r32 s0.1 → Wd G A s H0 ad g s0.2 H locs → lv_has ls 12 [(0, .ref (ad x0)), (1, .int (iI x1)), (2, .int (iI x2)), (3, .ref (ad x3)), (4, .int (iI x4)), (5, .int (iI s0.1))] → W p l e rX2_list s mt args below meth c H locs 0 0 Q (F0 mt 13 ls []) :=
  iter_W (Pw := fun q => ∀ (H : Heap) (locs : List Loc) (ls : Array Slot), r32 q.1 → Wd G A s H0 ad g q.2 H locs → lv_has ls 12 [(0, .ref (ad x0)), (1, .int (iI x1)), (2, .int (iI x2)), (3, .ref (ad x3)), (4, .int (iI x4)), (5, .int (iI q.1))] → W p l e rX2_list s mt args below meth c H locs 0 0 Q (F0 mt 13 ls [])) (Px := fun c0 q => (c0 = 1 → ∀ (H : Heap) (locs : List Loc) (ls : Array Slot), Wd G A s H0 ad g q.2 H locs → lv_has ls 12 [] → W p l e rX2_list s mt args below meth c H locs 0 0 Q (F0 mt 163 ls [])))
    (fun s c s' hB K0 kx H locs ls f0 S hl => wX2_list_13 C S hx0 hx1 hx2 hx3 hx4 f0 hl hB K0 (fun h9 => (kx (by rw [h9]; decide)) h9)) _ _ _ _ hI K1
set_option maxRecDepth 20000 in
theorem wX2_list_163 {p : Program} {l : Launch} {e : Env} {s : State} {mt : MethodId} {args : Array Value} {below : List Frame} {meth : Method} {c : Code} {Q : State → Prop} {G : Gl} {A : Nat → Prop} {H0 : Heap} {ad : Int → Nat} {g : Shp} {H : Heap} {locs : List Loc} {ls : Array Slot} {m : Mem} (C : CallFix p mt c cX2_list 12 s args tb RX2) (S : Wd G A s H0 ad g m H locs)  (hl : lv_has ls 12 []) {r : Int} {m' : Mem} (hF : bX2_list_163 g m = some (r, m')) (Kr : ∀ (H : Heap) (locs : List Loc) (pc : Nat) (ls : Array Slot), Wd G A s H0 ad g m' H locs → decode cX2_list pc = .ok (.return_, 1) → W p l e rX2_list s mt args below meth c H locs 0 0 Q (F0 mt pc ls [])) : W p l e rX2_list s mt args below meth c H locs 0 0 Q (F0 mt 163 ls []) := by
  unfold bX2_list_163 at hF
  cases hF
  exact Kr _ _ _ _ S dX2_list_163
set_option maxRecDepth 20000 in
theorem wX2_list_0 {p : Program} {l : Launch} {e : Env} {s : State} {mt : MethodId} {args : Array Value} {below : List Frame} {meth : Method} {c : Code} {Q : State → Prop} {G : Gl} {A : Nat → Prop} {H0 : Heap} {ad : Int → Nat} {g : Shp} {H : Heap} {locs : List Loc} {ls : Array Slot} {m : Mem} {x0 x1 x2 x3 x4 : Int} (C : CallFix p mt c cX2_list 12 s args tb RX2) (S : Wd G A s H0 ad g m H locs) (hx0 : gk g x0 = 3) (hx1 : r32 x1) (hx2 : r32 x2) (hx3 : gk g x3 = 20) (hx4 : r32 x4) (hl : lv_has ls 12 [(0, .ref (ad x0)), (1, .int (iI x1)), (2, .int (iI x2)), (3, .ref (ad x3)), (4, .int (iI x4))]) {r : Int} {m' : Mem} (hF : bX2_list_0 g x0 x1 x2 x3 x4 m = some (r, m')) (Kr : ∀ (H : Heap) (locs : List Loc) (pc : Nat) (ls : Array Slot), Wd G A s H0 ad g m' H locs → decode cX2_list pc = .ok (.return_, 1) → W p l e rX2_list s mt args below meth c H locs 0 0 Q (F0 mt pc ls [])) : W p l e rX2_list s mt args below meth c H locs 0 0 Q (F0 mt 0 ls []) := by
  unfold bX2_list_0 at hF
  refine q_aload_n C hl 0 rfl rfl dX2_list_0 ?_
  refine q_iconst C 0 dX2_list_1 ?_
  obtain ⟨m1, em1, hF⟩ := vm_ok hF
  refine q_put C S 2 fo_RX2_18 fp_3_2 (fun h9 => absurd h9 (by decide)) (j := 2) rfl hx0 rfl rfl rfl (rl 0 rfl) (fun h9 => absurd h9 (by decide)) em1 dX2_list_2 (fun H locs Sm1 => ?_)
  refine q_aload_n C hl 0 rfl rfl dX2_list_5 ?_
  refine q_iconst C 1 dX2_list_6 ?_
  obtain ⟨m2, em2, hF⟩ := vm_ok hF
  refine q_put C Sm1 3 fo_RX2_22 fp_3_3 (fun h9 => absurd h9 (by decide)) (j := 3) rfl hx0 rfl (nr_b b_1) (ft_b b_1) (rl 1 rfl) (fun h9 => absurd h9 (by decide)) em2 dX2_list_7 (fun H locs Sm2 => ?_)
  refine q_iconst C 0 dX2_list_10 ?_
  refine q_istore C hl [(5, .int (iI 0)), (0, .ref (ad x0)), (1, .int (iI x1)), (2, .int (iI x2)), (3, .ref (ad x3)), (4, .int (iI x4))] rfl (by decide) rfl dX2_list_11 (fun ls hl => ?_)
  obtain ⟨cv3, sv4, hi5, hF⟩ := bdl_ok hF
  refine lX2_list_13 C hx0 hx1 hx2 hx3 hx4 hi5 ?_ _ _ _ (rl 0 rfl) Sm2 (lv_sub hl [1, 2, 3, 4, 5, 0] rfl)
  intro _ H locs ls  S6 hl
  exact wX2_list_163 C S6  (lv_sub hl [] rfl) hF Kr
theorem cX2_list_ok (l : Launch) (G : Gl) {g : Shp} {x0 x1 x2 x3 x4 : Int} {m m' : Mem} {r : Int} (hx0 : gk g x0 = 3) (hx1 : r32 x1) (hx2 : r32 x2) (hx3 : gk g x3 = 20) (hx4 : r32 x4) (hF : fX2_list g x0 x1 x2 x3 x4 m = some (r, m')) : mV l yX2_list (wT yX2_list cX2_list 12 none) rX2_list G (fun ad => [.ref (ad x0), .int (iI x1), .int (iI x2), .ref (ad x3), .int (iI x4)]) g m m' :=
  met_v (by decide) (fun ad => Nat.le_of_ble_eq_true rfl) (fun p e s mt args below meth c Q A H0 H locs ad ls C hnm S hl Kr => wX2_list_0 C S hx0 hx1 hx2 hx3 hx4 hl hF Kr)
set_option maxRecDepth 20000 in
theorem wX3_isFor_42 {p : Program} {l : Launch} {e : Env} {s : State} {mt : MethodId} {args : Array Value} {below : List Frame} {meth : Method} {c : Code} {Q : State → Prop} {G : Gl} {A : Nat → Prop} {H0 : Heap} {ad : Int → Nat} {g : Shp} {H : Heap} {locs : List Loc} {ls : Array Slot} {m : Mem} {z0 : Int} (C : CallFix p mt c cX3_isFor 4 s args tb RX3) (S : Wd G A s H0 ad g m H locs) (hz0 : r32 z0) (hl : lv_has ls 4 []) {r : Int} {m' : Mem} (hF : bX3_isFor_42 g z0 m = some (r, m')) (Kr : ∀ (H : Heap) (locs : List Loc) (pc : Nat) (ls : Array Slot), Wd G A s H0 ad g m' H locs → decode cX3_isFor pc = .ok (.ireturn, 1) → r32 r ∧ (true = true → r = 0 ∨ r = 1) → narrow .boolean (.int (iI r)) = .int (iI r) → W p l e rX3_isFor s mt args below meth c H locs 0 0 Q (F0 mt pc ls [.int (iI r)])) : W p l e rX3_isFor s mt args below meth c H locs 0 0 Q (F0 mt 42 ls [.int (iI z0)]) := by
  unfold bX3_isFor_42 at hF
  obtain ⟨b1, hF⟩ := ck_ok hF
  cases hF
  exact Kr _ _ _ _ S dX3_isFor_42 ⟨r_b b1, fun _ => b1⟩ (nr_b b1)
set_option maxRecDepth 20000 in
theorem wX3_isFor_41 {p : Program} {l : Launch} {e : Env} {s : State} {mt : MethodId} {args : Array Value} {below : List Frame} {meth : Method} {c : Code} {Q : State → Prop} {G : Gl} {A : Nat → Prop} {H0 : Heap} {ad : Int → Nat} {g : Shp} {H : Heap} {locs : List Loc} {ls : Array Slot} {m : Mem} (C : CallFix p mt c cX3_isFor 4 s args tb RX3) (S : Wd G A s H0 ad g m H locs)  (hl : lv_has ls 4 []) {r : Int} {m' : Mem} (hF : bX3_isFor_41 g m = some (r, m')) (Kr : ∀ (H : Heap) (locs : List Loc) (pc : Nat) (ls : Array Slot), Wd G A s H0 ad g m' H locs → decode cX3_isFor pc = .ok (.ireturn, 1) → r32 r ∧ (true = true → r = 0 ∨ r = 1) → narrow .boolean (.int (iI r)) = .int (iI r) → W p l e rX3_isFor s mt args below meth c H locs 0 0 Q (F0 mt pc ls [.int (iI r)])) : W p l e rX3_isFor s mt args below meth c H locs 0 0 Q (F0 mt 41 ls []) := by
  unfold bX3_isFor_41 at hF
  refine q_iconst C 0 dX3_isFor_41 ?_
  exact wX3_isFor_42 C S (rl 0 rfl) (lv_sub hl [] rfl) hF Kr
set_option maxRecDepth 20000 in
theorem wX3_isFor_0 {p : Program} {l : Launch} {e : Env} {s : State} {mt : MethodId} {args : Array Value} {below : List Frame} {meth : Method} {c : Code} {Q : State → Prop} {G : Gl} {A : Nat → Prop} {H0 : Heap} {ad : Int → Nat} {g : Shp} {H : Heap} {locs : List Loc} {ls : Array Slot} {m : Mem} {x0 x1 x2 x3 : Int} (C : CallFix p mt c cX3_isFor 4 s args tb RX3) (S : Wd G A s H0 ad g m H locs) (hx0 : gk g x0 = 4) (hx1 : r32 x1) (hx2 : r32 x2) (hx3 : r32 x3) (hl : lv_has ls 4 [(0, .ref (ad x0)), (1, .int (iI x1)), (2, .int (iI x2)), (3, .int (iI x3))]) {r : Int} {m' : Mem} (hF : bX3_isFor_0 g x0 x1 x2 x3 m = some (r, m')) (Kr : ∀ (H : Heap) (locs : List Loc) (pc : Nat) (ls : Array Slot), Wd G A s H0 ad g m' H locs → decode cX3_isFor pc = .ok (.ireturn, 1) → r32 r ∧ (true = true → r = 0 ∨ r = 1) → narrow .boolean (.int (iI r)) = .int (iI r) → W p l e rX3_isFor s mt args below meth c H locs 0 0 Q (F0 mt pc ls [.int (iI r)])) : W p l e rX3_isFor s mt args below meth c H locs 0 0 Q (F0 mt 0 ls []) := by
  unfold bX3_isFor_0 at hF
  refine q_aload_n C hl 0 rfl rfl dX3_isFor_0 ?_
  refine q_geti C S 8 fo_RX3_35 (j := 8) rfl rfl hx0 dX3_isFor_1 ?_
  refine q_if_eq C (S.r _ _) 41 dX3_isFor_4 (by decide) (fun hc1 => ?_) (fun hc1 => ?_)
  · have hF := if_t hc1 hF
    exact wX3_isFor_41 C S  (lv_sub hl [] rfl) hF Kr
  · have hF := if_f hc1 hF
    refine q_aload_n C hl 0 rfl rfl dX3_isFor_7 ?_
    obtain ⟨k2, hF⟩ := ck_ok hF
    refine q_getr C S 0 fo_RX3_9 (j := 0) rfl rfl hx0 k2 (by decide) dX3_isFor_8 ?_
    refine q_iconst C 0 dX3_isFor_11 ?_
    obtain ⟨i3, hF⟩ := ck_ok hF
    refine q_iald C S k2 i3 dX3_isFor_12 ?_
    refine q_iload_n C hl 1 rfl rfl dX3_isFor_13 ?_
    refine q_icmp_ne C (S.r _ _) hx1 41 dX3_isFor_14 (by decide) (fun hc4 => ?_) (fun hc4 => ?_)
    · have hF := if_t hc4 hF
      refine q_aload_n C hl 0 rfl rfl dX3_isFor_17 ?_
      refine q_getr C S 0 fo_RX3_9 (j := 0) rfl rfl hx0 k2 (by decide) dX3_isFor_18 ?_
      refine q_iconst C 1 dX3_isFor_21 ?_
      obtain ⟨i5, hF⟩ := ck_ok hF
      refine q_iald C S k2 i5 dX3_isFor_22 ?_
      refine q_iload_n C hl 2 rfl rfl dX3_isFor_23 ?_
      refine q_icmp_ne C (S.r _ _) hx2 41 dX3_isFor_24 (by decide) (fun hc6 => ?_) (fun hc6 => ?_)
      · have hF := if_t hc6 hF
        refine q_aload_n C hl 0 rfl rfl dX3_isFor_27 ?_
        refine q_getr C S 0 fo_RX3_9 (j := 0) rfl rfl hx0 k2 (by decide) dX3_isFor_28 ?_
        refine q_iconst C 2 dX3_isFor_31 ?_
        obtain ⟨i7, hF⟩ := ck_ok hF
        refine q_iald C S k2 i7 dX3_isFor_32 ?_
        refine q_iload_n C hl 3 rfl rfl dX3_isFor_33 ?_
        refine q_icmp_ne C (S.r _ _) hx3 41 dX3_isFor_34 (by decide) (fun hc8 => ?_) (fun hc8 => ?_)
        · have hF := if_t hc8 hF
          refine q_iconst C 1 dX3_isFor_37 ?_
          refine q_goto C 42 dX3_isFor_38 (by decide) ?_
          exact wX3_isFor_42 C S (rl 1 rfl) (lv_sub hl [] rfl) hF Kr
        · have hF := if_f hc8 hF
          exact wX3_isFor_41 C S  (lv_sub hl [] rfl) hF Kr
      · have hF := if_f hc6 hF
        exact wX3_isFor_41 C S  (lv_sub hl [] rfl) hF Kr
    · have hF := if_f hc4 hF
      exact wX3_isFor_41 C S  (lv_sub hl [] rfl) hF Kr
theorem cX3_isFor_ok (l : Launch) (G : Gl) {g : Shp} {x0 x1 x2 x3 : Int} {m m' : Mem} {r : Int} (hx0 : gk g x0 = 4) (hx1 : r32 x1) (hx2 : r32 x2) (hx3 : r32 x3) (hF : fX3_isFor g x0 x1 x2 x3 m = some (r, m')) : mI l yX3_isFor (wT yX3_isFor cX3_isFor 4 (some .boolean)) rX3_isFor G true (fun ad => [.ref (ad x0), .int (iI x1), .int (iI x2), .int (iI x3)]) g m r m' :=
  met_i (by decide) (fun ad => Nat.le_of_ble_eq_true rfl) (fun p e s mt args below meth c Q A H0 H locs ad ls C hnm S hl Kr => wX3_isFor_0 C S hx0 hx1 hx2 hx3 hl hF Kr)
set_option maxRecDepth 20000 in
theorem wX3_begin_0 {p : Program} {l : Launch} {e : Env} {s : State} {mt : MethodId} {args : Array Value} {below : List Frame} {meth : Method} {c : Code} {Q : State → Prop} {G : Gl} {A : Nat → Prop} {H0 : Heap} {ad : Int → Nat} {g : Shp} {H : Heap} {locs : List Loc} {ls : Array Slot} {m : Mem} {x0 x1 x2 x3 : Int} (C : CallFix p mt c cX3_begin 4 s args tb RX3) (S : Wd G A s H0 ad g m H locs) (hx0 : gk g x0 = 4) (hx1 : r32 x1) (hx2 : r32 x2) (hx3 : r32 x3) (hl : lv_has ls 4 [(0, .ref (ad x0)), (1, .int (iI x1)), (2, .int (iI x2)), (3, .int (iI x3))]) {r : Int} {m' : Mem} (hF : bX3_begin_0 g x0 x1 x2 x3 m = some (r, m')) (Kr : ∀ (H : Heap) (locs : List Loc) (pc : Nat) (ls : Array Slot), Wd G A s H0 ad g m' H locs → decode cX3_begin pc = .ok (.return_, 1) → W p l e rX3_begin s mt args below meth c H locs 0 0 Q (F0 mt pc ls [])) : W p l e rX3_begin s mt args below meth c H locs 0 0 Q (F0 mt 0 ls []) := by
  unfold bX3_begin_0 at hF
  refine q_aload_n C hl 0 rfl rfl dX3_begin_0 ?_
  obtain ⟨k1, hF⟩ := ck_ok hF
  refine q_getr C S 0 fo_RX3_9 (j := 0) rfl rfl hx0 k1 (by decide) dX3_begin_1 ?_
  refine q_iconst C 0 dX3_begin_4 ?_
  refine q_iload_n C hl 1 rfl rfl dX3_begin_5 ?_
  obtain ⟨i2, hF⟩ := ck_ok hF
  obtain ⟨m3, em3, hF⟩ := vm_ok hF
  refine q_iast C S k1 i2 hx1 em3 dX3_begin_6 (fun H locs Sm3 => ?_)
  refine q_aload_n C hl 0 rfl rfl dX3_begin_7 ?_
  obtain ⟨k4, hF⟩ := ck_ok hF
  refine q_getr C Sm3 0 fo_RX3_9 (j := 0) rfl rfl hx0 k4 (by decide) dX3_begin_8 ?_
  refine q_iconst C 1 dX3_begin_11 ?_
  refine q_iload_n C hl 2 rfl rfl dX3_begin_12 ?_
  obtain ⟨i5, hF⟩ := ck_ok hF
  obtain ⟨m6, em6, hF⟩ := vm_ok hF
  refine q_iast C Sm3 k4 i5 hx2 em6 dX3_begin_13 (fun H locs Sm6 => ?_)
  refine q_aload_n C hl 0 rfl rfl dX3_begin_14 ?_
  obtain ⟨k7, hF⟩ := ck_ok hF
  refine q_getr C Sm6 0 fo_RX3_9 (j := 0) rfl rfl hx0 k7 (by decide) dX3_begin_15 ?_
  refine q_iconst C 2 dX3_begin_18 ?_
  refine q_iload_n C hl 3 rfl rfl dX3_begin_19 ?_
  obtain ⟨i8, hF⟩ := ck_ok hF
  obtain ⟨m9, em9, hF⟩ := vm_ok hF
  refine q_iast C Sm6 k7 i8 hx3 em9 dX3_begin_20 (fun H locs Sm9 => ?_)
  refine q_aload_n C hl 0 rfl rfl dX3_begin_21 ?_
  refine q_iconst C 0 dX3_begin_22 ?_
  obtain ⟨m10, em10, hF⟩ := vm_ok hF
  refine q_put C Sm9 5 fo_RX3_39 fp_4_5 (fun h9 => absurd h9 (by decide)) (j := 5) rfl hx0 rfl rfl rfl (rl 0 rfl) (fun h9 => absurd h9 (by decide)) em10 dX3_begin_23 (fun H locs Sm10 => ?_)
  refine q_aload_n C hl 0 rfl rfl dX3_begin_26 ?_
  refine q_iconst C 0 dX3_begin_27 ?_
  obtain ⟨m11, em11, hF⟩ := vm_ok hF
  refine q_put C Sm10 6 fo_RX3_43 fp_4_6 (fun h9 => absurd h9 (by decide)) (j := 6) rfl hx0 rfl rfl rfl (rl 0 rfl) (fun h9 => absurd h9 (by decide)) em11 dX3_begin_28 (fun H locs Sm11 => ?_)
  refine q_aload_n C hl 0 rfl rfl dX3_begin_31 ?_
  refine q_iconst C 0 dX3_begin_32 ?_
  obtain ⟨m12, em12, hF⟩ := vm_ok hF
  refine q_put C Sm11 7 fo_RX3_46 fp_4_7 (fun h9 => absurd h9 (by decide)) (j := 7) rfl hx0 rfl (nr_b b_0) (ft_b b_0) (rl 0 rfl) (fun h9 => absurd h9 (by decide)) em12 dX3_begin_33 (fun H locs Sm12 => ?_)
  refine q_aload_n C hl 0 rfl rfl dX3_begin_36 ?_
  refine q_iconst C 1 dX3_begin_37 ?_
  obtain ⟨m13, em13, hF⟩ := vm_ok hF
  refine q_put C Sm12 8 fo_RX3_35 fp_4_8 (fun h9 => absurd h9 (by decide)) (j := 8) rfl hx0 rfl (nr_b b_1) (ft_b b_1) (rl 1 rfl) (fun h9 => absurd h9 (by decide)) em13 dX3_begin_38 (fun H locs Sm13 => ?_)
  cases hF
  exact Kr _ _ _ _ Sm13 dX3_begin_41
theorem cX3_begin_ok (l : Launch) (G : Gl) {g : Shp} {x0 x1 x2 x3 : Int} {m m' : Mem} {r : Int} (hx0 : gk g x0 = 4) (hx1 : r32 x1) (hx2 : r32 x2) (hx3 : r32 x3) (hF : fX3_begin g x0 x1 x2 x3 m = some (r, m')) : mV l yX3_begin (wT yX3_begin cX3_begin 4 none) rX3_begin G (fun ad => [.ref (ad x0), .int (iI x1), .int (iI x2), .int (iI x3)]) g m m' :=
  met_v (by decide) (fun ad => Nat.le_of_ble_eq_true rfl) (fun p e s mt args below meth c Q A H0 H locs ad ls C hnm S hl Kr => wX3_begin_0 C S hx0 hx1 hx2 hx3 hl hF Kr)
set_option maxRecDepth 20000 in
theorem wX3_isFewer_20 {p : Program} {l : Launch} {e : Env} {s : State} {mt : MethodId} {args : Array Value} {below : List Frame} {meth : Method} {c : Code} {Q : State → Prop} {G : Gl} {A : Nat → Prop} {H0 : Heap} {ad : Int → Nat} {g : Shp} {H : Heap} {locs : List Loc} {ls : Array Slot} {m : Mem} {z0 : Int} (C : CallFix p mt c cX3_isFewer 2 s args tb RX3) (S : Wd G A s H0 ad g m H locs) (hz0 : r32 z0) (hl : lv_has ls 2 []) {r : Int} {m' : Mem} (hF : bX3_isFewer_20 g z0 m = some (r, m')) (Kr : ∀ (H : Heap) (locs : List Loc) (pc : Nat) (ls : Array Slot), Wd G A s H0 ad g m' H locs → decode cX3_isFewer pc = .ok (.ireturn, 1) → r32 r ∧ (true = true → r = 0 ∨ r = 1) → narrow .boolean (.int (iI r)) = .int (iI r) → W p l e rX3_isFewer s mt args below meth c H locs 0 0 Q (F0 mt pc ls [.int (iI r)])) : W p l e rX3_isFewer s mt args below meth c H locs 0 0 Q (F0 mt 20 ls [.int (iI z0)]) := by
  unfold bX3_isFewer_20 at hF
  obtain ⟨b1, hF⟩ := ck_ok hF
  cases hF
  exact Kr _ _ _ _ S dX3_isFewer_20 ⟨r_b b1, fun _ => b1⟩ (nr_b b1)
set_option maxRecDepth 20000 in
theorem wX3_isFewer_15 {p : Program} {l : Launch} {e : Env} {s : State} {mt : MethodId} {args : Array Value} {below : List Frame} {meth : Method} {c : Code} {Q : State → Prop} {G : Gl} {A : Nat → Prop} {H0 : Heap} {ad : Int → Nat} {g : Shp} {H : Heap} {locs : List Loc} {ls : Array Slot} {m : Mem} (C : CallFix p mt c cX3_isFewer 2 s args tb RX3) (S : Wd G A s H0 ad g m H locs)  (hl : lv_has ls 2 []) {r : Int} {m' : Mem} (hF : bX3_isFewer_15 g m = some (r, m')) (Kr : ∀ (H : Heap) (locs : List Loc) (pc : Nat) (ls : Array Slot), Wd G A s H0 ad g m' H locs → decode cX3_isFewer pc = .ok (.ireturn, 1) → r32 r ∧ (true = true → r = 0 ∨ r = 1) → narrow .boolean (.int (iI r)) = .int (iI r) → W p l e rX3_isFewer s mt args below meth c H locs 0 0 Q (F0 mt pc ls [.int (iI r)])) : W p l e rX3_isFewer s mt args below meth c H locs 0 0 Q (F0 mt 15 ls []) := by
  unfold bX3_isFewer_15 at hF
  refine q_iconst C 1 dX3_isFewer_15 ?_
  refine q_goto C 20 dX3_isFewer_16 (by decide) ?_
  exact wX3_isFewer_20 C S (rl 1 rfl) (lv_sub hl [] rfl) hF Kr
set_option maxRecDepth 20000 in
theorem wX3_isFewer_0 {p : Program} {l : Launch} {e : Env} {s : State} {mt : MethodId} {args : Array Value} {below : List Frame} {meth : Method} {c : Code} {Q : State → Prop} {G : Gl} {A : Nat → Prop} {H0 : Heap} {ad : Int → Nat} {g : Shp} {H : Heap} {locs : List Loc} {ls : Array Slot} {m : Mem} {x0 x1 : Int} (C : CallFix p mt c cX3_isFewer 2 s args tb RX3) (S : Wd G A s H0 ad g m H locs) (hx0 : gk g x0 = 4) (hx1 : r32 x1) (hl : lv_has ls 2 [(0, .ref (ad x0)), (1, .int (iI x1))]) {r : Int} {m' : Mem} (hF : bX3_isFewer_0 g x0 x1 m = some (r, m')) (Kr : ∀ (H : Heap) (locs : List Loc) (pc : Nat) (ls : Array Slot), Wd G A s H0 ad g m' H locs → decode cX3_isFewer pc = .ok (.ireturn, 1) → r32 r ∧ (true = true → r = 0 ∨ r = 1) → narrow .boolean (.int (iI r)) = .int (iI r) → W p l e rX3_isFewer s mt args below meth c H locs 0 0 Q (F0 mt pc ls [.int (iI r)])) : W p l e rX3_isFewer s mt args below meth c H locs 0 0 Q (F0 mt 0 ls []) := by
  unfold bX3_isFewer_0 at hF
  refine q_aload_n C hl 0 rfl rfl dX3_isFewer_0 ?_
  refine q_geti C S 7 fo_RX3_46 (j := 7) rfl rfl hx0 dX3_isFewer_1 ?_
  refine q_if_eq C (S.r _ _) 15 dX3_isFewer_4 (by decide) (fun hc1 => ?_) (fun hc1 => ?_)
  · have hF := if_t hc1 hF
    exact wX3_isFewer_15 C S  (lv_sub hl [] rfl) hF Kr
  · have hF := if_f hc1 hF
    refine q_iload_n C hl 1 rfl rfl dX3_isFewer_7 ?_
    refine q_aload_n C hl 0 rfl rfl dX3_isFewer_8 ?_
    refine q_geti C S 6 fo_RX3_43 (j := 6) rfl rfl hx0 dX3_isFewer_9 ?_
    refine q_icmp_ge C hx1 (S.r _ _) 19 dX3_isFewer_12 (by decide) (fun hc2 => ?_) (fun hc2 => ?_)
    · have hF := if_t hc2 hF
      refine q_iconst C 0 dX3_isFewer_19 ?_
      exact wX3_isFewer_20 C S (rl 0 rfl) (lv_sub hl [] rfl) hF Kr
    · have hF := if_f hc2 hF
      exact wX3_isFewer_15 C S  (lv_sub hl [] rfl) hF Kr
theorem cX3_isFewer_ok (l : Launch) (G : Gl) {g : Shp} {x0 x1 : Int} {m m' : Mem} {r : Int} (hx0 : gk g x0 = 4) (hx1 : r32 x1) (hF : fX3_isFewer g x0 x1 m = some (r, m')) : mI l yX3_isFewer (wT yX3_isFewer cX3_isFewer 2 (some .boolean)) rX3_isFewer G true (fun ad => [.ref (ad x0), .int (iI x1)]) g m r m' :=
  met_i (by decide) (fun ad => Nat.le_of_ble_eq_true rfl) (fun p e s mt args below meth c Q A H0 H locs ad ls C hnm S hl Kr => wX3_isFewer_0 C S hx0 hx1 hl hF Kr)
set_option maxRecDepth 20000 in
theorem wX3_keepTrial_0 {p : Program} {l : Launch} {e : Env} {s : State} {mt : MethodId} {args : Array Value} {below : List Frame} {meth : Method} {c : Code} {Q : State → Prop} {G : Gl} {A : Nat → Prop} {H0 : Heap} {ad : Int → Nat} {g : Shp} {H : Heap} {locs : List Loc} {ls : Array Slot} {m : Mem} {x0 x1 x2 : Int} (C : CallFix p mt c cX3_keepTrial 3 s args tb RX3) (S : Wd G A s H0 ad g m H locs) (hx0 : gk g x0 = 4) (hx1 : r32 x1) (hx2 : r32 x2) (hl : lv_has ls 3 [(0, .ref (ad x0)), (1, .int (iI x1)), (2, .int (iI x2))]) {r : Int} {m' : Mem} (hF : bX3_keepTrial_0 g x0 x1 x2 m = some (r, m')) (Kr : ∀ (H : Heap) (locs : List Loc) (pc : Nat) (ls : Array Slot), Wd G A s H0 ad g m' H locs → decode cX3_keepTrial pc = .ok (.return_, 1) → W p l e rX3_keepTrial s mt args below meth c H locs 0 0 Q (F0 mt pc ls [])) : W p l e rX3_keepTrial s mt args below meth c H locs 0 0 Q (F0 mt 0 ls []) := by
  unfold bX3_keepTrial_0 at hF
  refine q_aload_n C hl 0 rfl rfl dX3_keepTrial_0 ?_
  obtain ⟨k1, hF⟩ := ck_ok hF
  refine q_getr C S 1 fo_RX3_15 (j := 1) rfl rfl hx0 k1 (by decide) dX3_keepTrial_1 ?_
  refine q_iconst C 0 dX3_keepTrial_4 ?_
  refine q_aload_n C hl 0 rfl rfl dX3_keepTrial_5 ?_
  obtain ⟨k2, hF⟩ := ck_ok hF
  refine q_getr C S 2 fo_RX3_18 (j := 2) rfl rfl hx0 k2 (by decide) dX3_keepTrial_6 ?_
  refine q_iconst C 0 dX3_keepTrial_9 ?_
  refine q_iload_n C hl 1 rfl rfl dX3_keepTrial_10 ?_
  obtain ⟨h3, hF⟩ := ck_ok hF
  obtain ⟨m4, em4, hF⟩ := vm_ok hF
  refine q_acopy C S ⟨tw807, tw517, tw516, tw80⟩ hl.1 k1 k2 h3.1 h3.2.1 h3.2.2.1 h3.2.2.2.1 h3.2.2.2.2 (by decide) (by decide) em4 dX3_keepTrial_11 (fun H locs Sm4 => ?_)
  refine q_aload_n C hl 0 rfl rfl dX3_keepTrial_14 ?_
  refine q_iload_n C hl 1 rfl rfl dX3_keepTrial_15 ?_
  obtain ⟨m5, em5, hF⟩ := vm_ok hF
  refine q_put C Sm4 5 fo_RX3_39 fp_4_5 (fun h9 => absurd h9 (by decide)) (j := 5) rfl hx0 rfl rfl rfl hx1 (fun h9 => absurd h9 (by decide)) em5 dX3_keepTrial_16 (fun H locs Sm5 => ?_)
  refine q_aload_n C hl 0 rfl rfl dX3_keepTrial_19 ?_
  refine q_iload_n C hl 2 rfl rfl dX3_keepTrial_20 ?_
  obtain ⟨m6, em6, hF⟩ := vm_ok hF
  refine q_put C Sm5 6 fo_RX3_43 fp_4_6 (fun h9 => absurd h9 (by decide)) (j := 6) rfl hx0 rfl rfl rfl hx2 (fun h9 => absurd h9 (by decide)) em6 dX3_keepTrial_21 (fun H locs Sm6 => ?_)
  refine q_aload_n C hl 0 rfl rfl dX3_keepTrial_24 ?_
  refine q_iconst C 1 dX3_keepTrial_25 ?_
  obtain ⟨m7, em7, hF⟩ := vm_ok hF
  refine q_put C Sm6 7 fo_RX3_46 fp_4_7 (fun h9 => absurd h9 (by decide)) (j := 7) rfl hx0 rfl (nr_b b_1) (ft_b b_1) (rl 1 rfl) (fun h9 => absurd h9 (by decide)) em7 dX3_keepTrial_26 (fun H locs Sm7 => ?_)
  cases hF
  exact Kr _ _ _ _ Sm7 dX3_keepTrial_29
theorem cX3_keepTrial_ok (l : Launch) (G : Gl) {g : Shp} {x0 x1 x2 : Int} {m m' : Mem} {r : Int} (hx0 : gk g x0 = 4) (hx1 : r32 x1) (hx2 : r32 x2) (hF : fX3_keepTrial g x0 x1 x2 m = some (r, m')) : mV l yX3_keepTrial (wT yX3_keepTrial cX3_keepTrial 3 none) rX3_keepTrial G (fun ad => [.ref (ad x0), .int (iI x1), .int (iI x2)]) g m m' :=
  met_v (by decide) (fun ad => Nat.le_of_ble_eq_true rfl) (fun p e s mt args below meth c Q A H0 H locs ad ls C hnm S hl Kr => wX3_keepTrial_0 C S hx0 hx1 hx2 hl hF Kr)
set_option maxRecDepth 20000 in
theorem wX4_dropOldest_9 {p : Program} {l : Launch} {e : Env} {s : State} {mt : MethodId} {args : Array Value} {below : List Frame} {meth : Method} {c : Code} {Q : State → Prop} {G : Gl} {A : Nat → Prop} {H0 : Heap} {ad : Int → Nat} {g : Shp} {H : Heap} {locs : List Loc} {ls : Array Slot} {m : Mem} {x0 x1 x2 : Int} (C : CallFix p mt c cX4_dropOldest 3 s args tb RX4) (S : Wd G A s H0 ad g m H locs) (hx0 : gk g x0 = 5) (hx1 : gk g x1 = 2) (hx2 : r32 x2) (hl : lv_has ls 3 [(0, .ref (ad x0)), (1, .ref (ad x1)), (2, .int (iI x2))]) {c1 : Int} {s1 : (Int × Mem)} (hF : bX4_dropOldest_9 g x0 x1 x2 m = some (c1, s1)) (K0 : c1 = 0 → ∀ (H : Heap) (locs : List Loc) (ls : Array Slot), r32 s1.1 → Wd G A s H0 ad g s1.2 H locs → lv_has ls 3 [(0, .ref (ad x0)), (1, .ref (ad x1)), (2, .int (iI s1.1))] → W p l e rX4_dropOldest s mt args below meth c H locs 0 0 Q (F0 mt 9 ls [])) (K1 : c1 = 1 → ∀ (H : Heap) (locs : List Loc) (ls : Array Slot), Wd G A s H0 ad g s1.2 H locs → lv_has ls 3 [(0, .ref (ad x0)), (1, .ref (ad x1))] → W p l e rX4_dropOldest s mt args below meth c H locs 0 0 Q (F0 mt 35 ls [])) : W p l e rX4_dropOldest s mt args below meth c H locs 0 0 Q (F0 mt 9 ls []) := by
  unfold bX4_dropOldest_9 at hF
  refine q_iload_n C hl 2 rfl rfl dX4_dropOldest_9 ?_
  refine q_bipush C 6 (by decide) dX4_dropOldest_10 ?_
  refine q_icmp_ge C hx2 (rl 6 rfl) 35 dX4_dropOldest_12 (by decide) (fun hc1 => ?_) (fun hc1 => ?_)
  · have hF := if_t hc1 hF
    cases hF
    exact K1 rfl _ _ _  S (lv_sub hl [0, 1] rfl)
  · have hF := if_f hc1 hF
    refine q_aload_n C hl 0 rfl rfl dX4_dropOldest_15 ?_
    obtain ⟨k2, hF⟩ := ck_ok hF
    refine q_getr C S 0 fo_RX4_11 (j := 0) rfl rfl hx0 k2 (by decide) dX4_dropOldest_16 ?_
    refine q_iload_n C hl 2 rfl rfl dX4_dropOldest_19 ?_
    refine q_iconst C 1 dX4_dropOldest_20 ?_
    refine q_isub C dX4_dropOldest_21 ?_
    refine q_aload_n C hl 0 rfl rfl dX4_dropOldest_22 ?_
    refine q_getr C S 0 fo_RX4_11 (j := 0) rfl rfl hx0 k2 (by decide) dX4_dropOldest_23 ?_
    refine q_iload_n C hl 2 rfl rfl dX4_dropOldest_26 ?_
    obtain ⟨i3, hF⟩ := ck_ok hF
    obtain ⟨k4, hF⟩ := ck_ok hF
    refine q_aald C S k2 (by decide) i3 k4 (by decide) dX4_dropOldest_27 ?_
    obtain ⟨i5, hF⟩ := ck_ok hF
    obtain ⟨m6, em6, hF⟩ := vm_ok hF
    refine q_aast C S k2 (by decide) i5 k4 ⟨by decide, rfl⟩ rfl (S.k k4 (by decide)) em6 dX4_dropOldest_28 (fun H locs Sm6 => ?_)
    obtain ⟨y7, ey7, hF⟩ := vv_ok hF
    have ry7 : r32 y7 := ey7 ▸ r32_w _
    refine q_iinc C hl 2 [(2, .int (iI y7)), (0, .ref (ad x0)), (1, .ref (ad x1))] rfl ey7 (by decide) rfl dX4_dropOldest_29 (fun ls hl => ?_)
    refine q_goto C 9 dX4_dropOldest_32 (by decide) ?_
    cases hF
    exact K0 rfl _ _ _ ry7 Sm6 (lv_sub hl [1, 2, 0] rfl)
set_option maxRecDepth 20000 in
theorem lX4_dropOldest_9 {p : Program} {l : Launch} {e : Env} {s : State} {mt : MethodId} {args : Array Value} {below : List Frame} {meth : Method} {c : Code} {Q : State → Prop} {G : Gl} {A : Nat → Prop} {H0 : Heap} {ad : Int → Nat} {g : Shp} {x0 x1 : Int} (C : CallFix p mt c cX4_dropOldest 3 s args tb RX4) (hx0 : gk g x0 = 5) (hx1 : gk g x1 = 2) {n : Nat} {s0 s1 : (Int × Mem)} {c1 : Int} (hI : iter (BX4_dropOldest_9 g x0 x1) n s0 = some (c1, s1)) (K1 : c1 = 1 → ∀ (H : Heap) (locs : List Loc) (ls : Array Slot), Wd G A s H0 ad g s1.2 H locs → lv_has ls 3 [(0, .ref (ad x0)), (1, .ref (ad x1))] → W p l e rX4_dropOldest s mt args below meth c H locs 0 0 Q (F0 mt 35 ls [])) : ∀ (H : Heap) (locs : List Loc) (ls : Array Slot), r32 s0.1 → Wd G A s H0 ad g s0.2 H locs → lv_has ls 3 [(0, .ref (ad x0)), (1, .ref (ad x1)), (2, .int (iI s0.1))] → W p l e rX4_dropOldest s mt args below meth c H locs 0 0 Q (F0 mt 9 ls []) :=
  iter_W (Pw := fun q => ∀ (H : Heap) (locs : List Loc) (ls : Array Slot), r32 q.1 → Wd G A s H0 ad g q.2 H locs → lv_has ls 3 [(0, .ref (ad x0)), (1, .ref (ad x1)), (2, .int (iI q.1))] → W p l e rX4_dropOldest s mt args below meth c H locs 0 0 Q (F0 mt 9 ls [])) (Px := fun c0 q => (c0 = 1 → ∀ (H : Heap) (locs : List Loc) (ls : Array Slot), Wd G A s H0 ad g q.2 H locs → lv_has ls 3 [(0, .ref (ad x0)), (1, .ref (ad x1))] → W p l e rX4_dropOldest s mt args below meth c H locs 0 0 Q (F0 mt 35 ls [])))
    (fun s c s' hB K0 kx H locs ls f0 S hl => wX4_dropOldest_9 C S hx0 hx1 f0 hl hB K0 (fun h9 => (kx (by rw [h9]; decide)) h9)) _ _ _ _ hI K1
set_option maxRecDepth 20000 in
theorem wX4_dropOldest_35 {p : Program} {l : Launch} {e : Env} {s : State} {mt : MethodId} {args : Array Value} {below : List Frame} {meth : Method} {c : Code} {Q : State → Prop} {G : Gl} {A : Nat → Prop} {H0 : Heap} {ad : Int → Nat} {g : Shp} {H : Heap} {locs : List Loc} {ls : Array Slot} {m : Mem} {x0 x1 : Int} (C : CallFix p mt c cX4_dropOldest 3 s args tb RX4) (S : Wd G A s H0 ad g m H locs) (hx0 : gk g x0 = 5) (hx1 : gk g x1 = 2) (hl : lv_has ls 3 [(0, .ref (ad x0)), (1, .ref (ad x1))]) {r : Int} {m' : Mem} (hF : bX4_dropOldest_35 g x0 x1 m = some (r, m')) (Kr : ∀ (H : Heap) (locs : List Loc) (pc : Nat) (ls : Array Slot), Wd G A s H0 ad g m' H locs → decode cX4_dropOldest pc = .ok (.return_, 1) → W p l e rX4_dropOldest s mt args below meth c H locs 0 0 Q (F0 mt pc ls [])) : W p l e rX4_dropOldest s mt args below meth c H locs 0 0 Q (F0 mt 35 ls []) := by
  unfold bX4_dropOldest_35 at hF
  refine q_aload_n C hl 0 rfl rfl dX4_dropOldest_35 ?_
  obtain ⟨k1, hF⟩ := ck_ok hF
  refine q_getr C S 0 fo_RX4_11 (j := 0) rfl rfl hx0 k1 (by decide) dX4_dropOldest_36 ?_
  refine q_iconst C 5 dX4_dropOldest_39 ?_
  refine q_aload_n C hl 1 rfl rfl dX4_dropOldest_40 ?_
  obtain ⟨i2, hF⟩ := ck_ok hF
  obtain ⟨m3, em3, hF⟩ := vm_ok hF
  refine q_aast C S k1 (by decide) i2 hx1 ⟨by decide, rfl⟩ rfl (S.k hx1 (by decide)) em3 dX4_dropOldest_41 (fun H locs Sm3 => ?_)
  refine q_aload_n C hl 0 rfl rfl dX4_dropOldest_42 ?_
  refine q_dup C rfl dX4_dropOldest_43 ?_
  refine q_geti C Sm3 1 fo_RX4_18 (j := 1) rfl rfl hx0 dX4_dropOldest_44 ?_
  refine q_iconst C 1 dX4_dropOldest_47 ?_
  refine q_isub C dX4_dropOldest_48 ?_
  obtain ⟨m4, em4, hF⟩ := vm_ok hF
  refine q_put C Sm3 1 fo_RX4_18 fp_5_1 (fun h9 => absurd h9 (by decide)) (j := 1) rfl hx0 rfl rfl rfl (r32_w _) (fun h9 => absurd h9 (by decide)) em4 dX4_dropOldest_49 (fun H locs Sm4 => ?_)
  cases hF
  exact Kr _ _ _ _ Sm4 dX4_dropOldest_52
set_option maxRecDepth 20000 in
theorem wX4_dropOldest_0 {p : Program} {l : Launch} {e : Env} {s : State} {mt : MethodId} {args : Array Value} {below : List Frame} {meth : Method} {c : Code} {Q : State → Prop} {G : Gl} {A : Nat → Prop} {H0 : Heap} {ad : Int → Nat} {g : Shp} {H : Heap} {locs : List Loc} {ls : Array Slot} {m : Mem} {x0 : Int} (C : CallFix p mt c cX4_dropOldest 3 s args tb RX4) (S : Wd G A s H0 ad g m H locs) (hx0 : gk g x0 = 5) (hl : lv_has ls 3 [(0, .ref (ad x0))]) {r : Int} {m' : Mem} (hF : bX4_dropOldest_0 g x0 m = some (r, m')) (Kr : ∀ (H : Heap) (locs : List Loc) (pc : Nat) (ls : Array Slot), Wd G A s H0 ad g m' H locs → decode cX4_dropOldest pc = .ok (.return_, 1) → W p l e rX4_dropOldest s mt args below meth c H locs 0 0 Q (F0 mt pc ls [])) : W p l e rX4_dropOldest s mt args below meth c H locs 0 0 Q (F0 mt 0 ls []) := by
  unfold bX4_dropOldest_0 at hF
  refine q_aload_n C hl 0 rfl rfl dX4_dropOldest_0 ?_
  obtain ⟨k1, hF⟩ := ck_ok hF
  refine q_getr C S 0 fo_RX4_11 (j := 0) rfl rfl hx0 k1 (by decide) dX4_dropOldest_1 ?_
  refine q_iconst C 0 dX4_dropOldest_4 ?_
  obtain ⟨i2, hF⟩ := ck_ok hF
  obtain ⟨k3, hF⟩ := ck_ok hF
  refine q_aald C S k1 (by decide) i2 k3 (by decide) dX4_dropOldest_5 ?_
  obtain ⟨y4, ey4, hF⟩ := vv_ok hF
  have ky4 : gk g y4 = 2 := ey4 ▸ k3
  refine q_astore_n C hl [(1, .ref (ad y4)), (0, .ref (ad x0))] ey4 rfl (by decide) rfl dX4_dropOldest_6 (fun ls hl => ?_)
  refine q_iconst C 1 dX4_dropOldest_7 ?_
  refine q_istore_n C hl [(2, .int (iI 1)), (1, .ref (ad y4)), (0, .ref (ad x0))] rfl rfl (by decide) rfl dX4_dropOldest_8 (fun ls hl => ?_)
  obtain ⟨cv5, sv6, hi7, hF⟩ := bdl_ok hF
  refine lX4_dropOldest_9 C hx0 ky4 hi7 ?_ _ _ _ (rl 1 rfl) S (lv_sub hl [2, 1, 0] rfl)
  intro _ H locs ls  S8 hl
  exact wX4_dropOldest_35 C S8 hx0 ky4 (lv_sub hl [0, 1] rfl) hF Kr
theorem cX4_dropOldest_ok (l : Launch) (G : Gl) {g : Shp} {x0 : Int} {m m' : Mem} {r : Int} (hx0 : gk g x0 = 5) (hF : fX4_dropOldest g x0 m = some (r, m')) : mV l yX4_dropOldest (wT yX4_dropOldest cX4_dropOldest 3 none) rX4_dropOldest G (fun ad => [.ref (ad x0)]) g m m' :=
  met_v (by decide) (fun ad => Nat.le_of_ble_eq_true rfl) (fun p e s mt args below meth c Q A H0 H locs ad ls C hnm S hl Kr => wX4_dropOldest_0 C S hx0 hl hF Kr)
set_option maxRecDepth 20000 in
theorem wX4_keep_13 {p : Program} {l : Launch} {e : Env} {s : State} {mt : MethodId} {args : Array Value} {below : List Frame} {meth : Method} {c : Code} {Q : State → Prop} {G : Gl} {A : Nat → Prop} {H0 : Heap} {ad : Int → Nat} {g : Shp} {H : Heap} {locs : List Loc} {ls : Array Slot} {m : Mem} {x0 x1 : Int} (C : CallFix p mt c cX4_keep 2 s args tb RX4) (S : Wd G A s H0 ad g m H locs) (hx0 : gk g x0 = 5) (hx1 : gk g x1 = 2) (hl : lv_has ls 2 [(0, .ref (ad x0)), (1, .ref (ad x1))]) {r : Int} {m' : Mem} (hF : bX4_keep_13 g x0 x1 m = some (r, m')) (Kr : ∀ (H : Heap) (locs : List Loc) (pc : Nat) (ls : Array Slot), Wd G A s H0 ad g m' H locs → decode cX4_keep pc = .ok (.return_, 1) → W p l e rX4_keep s mt args below meth c H locs 0 0 Q (F0 mt pc ls [])) : W p l e rX4_keep s mt args below meth c H locs 0 0 Q (F0 mt 13 ls []) := by
  unfold bX4_keep_13 at hF
  refine q_aload_n C hl 0 rfl rfl dX4_keep_13 ?_
  obtain ⟨k1, hF⟩ := ck_ok hF
  refine q_getr C S 0 fo_RX4_11 (j := 0) rfl rfl hx0 k1 (by decide) dX4_keep_14 ?_
  refine q_aload_n C hl 0 rfl rfl dX4_keep_17 ?_
  refine q_geti C S 1 fo_RX4_18 (j := 1) rfl rfl hx0 dX4_keep_18 ?_
  obtain ⟨i2, hF⟩ := ck_ok hF
  obtain ⟨k3, hF⟩ := ck_ok hF
  refine q_aald C S k1 (by decide) i2 k3 (by decide) dX4_keep_21 ?_
  refine q_aload_n C hl 1 rfl rfl dX4_keep_22 ?_
  obtain ⟨v4, m5, h6, hF⟩ := bd2_ok hF
  refine q_cv S (run_V (As := [.ref (ad x1)]) (rest := []) C S (cX1_copy_ok l G k3 hx1 h6 ad _) k3 ⟨by decide, _, _, rfl⟩ gd_RX4_25 hdV_X1_copy rfl ⟨rfl, rfl, by decide, by decide⟩ ⟨Nat.zero_le _, Nat.zero_le _⟩ hl.1 rfl (Nat.le_of_ble_eq_true rfl) dX4_keep_23) (fun H locs Sm5 => ?_)
  refine q_aload_n C hl 0 rfl rfl dX4_keep_26 ?_
  refine q_dup C rfl dX4_keep_27 ?_
  refine q_geti C Sm5 1 fo_RX4_18 (j := 1) rfl rfl hx0 dX4_keep_28 ?_
  refine q_iconst C 1 dX4_keep_31 ?_
  refine q_iadd C dX4_keep_32 ?_
  obtain ⟨m7, em7, hF⟩ := vm_ok hF
  refine q_put C Sm5 1 fo_RX4_18 fp_5_1 (fun h9 => absurd h9 (by decide)) (j := 1) rfl hx0 rfl rfl rfl (r32_w _) (fun h9 => absurd h9 (by decide)) em7 dX4_keep_33 (fun H locs Sm7 => ?_)
  cases hF
  exact Kr _ _ _ _ Sm7 dX4_keep_36
set_option maxRecDepth 20000 in
theorem wX4_keep_0 {p : Program} {l : Launch} {e : Env} {s : State} {mt : MethodId} {args : Array Value} {below : List Frame} {meth : Method} {c : Code} {Q : State → Prop} {G : Gl} {A : Nat → Prop} {H0 : Heap} {ad : Int → Nat} {g : Shp} {H : Heap} {locs : List Loc} {ls : Array Slot} {m : Mem} {x0 x1 : Int} (C : CallFix p mt c cX4_keep 2 s args tb RX4) (S : Wd G A s H0 ad g m H locs) (hx0 : gk g x0 = 5) (hx1 : gk g x1 = 2) (hl : lv_has ls 2 [(0, .ref (ad x0)), (1, .ref (ad x1))]) {r : Int} {m' : Mem} (hF : bX4_keep_0 g x0 x1 m = some (r, m')) (Kr : ∀ (H : Heap) (locs : List Loc) (pc : Nat) (ls : Array Slot), Wd G A s H0 ad g m' H locs → decode cX4_keep pc = .ok (.return_, 1) → W p l e rX4_keep s mt args below meth c H locs 0 0 Q (F0 mt pc ls [])) : W p l e rX4_keep s mt args below meth c H locs 0 0 Q (F0 mt 0 ls []) := by
  unfold bX4_keep_0 at hF
  refine q_aload_n C hl 0 rfl rfl dX4_keep_0 ?_
  refine q_geti C S 1 fo_RX4_18 (j := 1) rfl rfl hx0 dX4_keep_1 ?_
  refine q_bipush C 6 (by decide) dX4_keep_4 ?_
  refine q_icmp_ne C (S.r _ _) (rl 6 rfl) 13 dX4_keep_6 (by decide) (fun hc1 => ?_) (fun hc1 => ?_)
  · have hF := if_t hc1 hF
    refine q_aload_n C hl 0 rfl rfl dX4_keep_9 ?_
    obtain ⟨v2, m3, h4, hF⟩ := bd2_ok hF
    refine q_cv S (run_V (As := []) (rest := []) C S (cX4_dropOldest_ok l G hx0 h4 ad _) hx0 ⟨by decide, _, _, rfl⟩ gd_RX4_22 hdV_X4_dropOldest rfl ⟨rfl, rfl, by decide, by decide⟩ ⟨Nat.zero_le _, Nat.zero_le _⟩ hl.1 rfl (Nat.le_of_ble_eq_true rfl) dX4_keep_10) (fun H locs Sm3 => ?_)
    exact wX4_keep_13 C Sm3 hx0 hx1 (lv_sub hl [0, 1] rfl) hF Kr
  · have hF := if_f hc1 hF
    exact wX4_keep_13 C S hx0 hx1 (lv_sub hl [0, 1] rfl) hF Kr
theorem cX4_keep_ok (l : Launch) (G : Gl) {g : Shp} {x0 x1 : Int} {m m' : Mem} {r : Int} (hx0 : gk g x0 = 5) (hx1 : gk g x1 = 2) (hF : fX4_keep g x0 x1 m = some (r, m')) : mV l yX4_keep (wT yX4_keep cX4_keep 2 none) rX4_keep G (fun ad => [.ref (ad x0), .ref (ad x1)]) g m m' :=
  met_v (by decide) (fun ad => Nat.le_of_ble_eq_true rfl) (fun p e s mt args below meth c Q A H0 H locs ad ls C hnm S hl Kr => wX4_keep_0 C S hx0 hx1 hl hF Kr)
set_option maxRecDepth 20000 in
theorem wX4_giveBack_30 {p : Program} {l : Launch} {e : Env} {s : State} {mt : MethodId} {args : Array Value} {below : List Frame} {meth : Method} {c : Code} {Q : State → Prop} {G : Gl} {A : Nat → Prop} {H0 : Heap} {ad : Int → Nat} {g : Shp} {H : Heap} {locs : List Loc} {ls : Array Slot} {m : Mem} (C : CallFix p mt c cX4_giveBack 2 s args tb RX4) (S : Wd G A s H0 ad g m H locs)  (hl : lv_has ls 2 []) {r : Int} {m' : Mem} (hF : bX4_giveBack_30 g m = some (r, m')) (Kr : ∀ (H : Heap) (locs : List Loc) (pc : Nat) (ls : Array Slot), Wd G A s H0 ad g m' H locs → decode cX4_giveBack pc = .ok (.return_, 1) → W p l e rX4_giveBack s mt args below meth c H locs 0 0 Q (F0 mt pc ls [])) : W p l e rX4_giveBack s mt args below meth c H locs 0 0 Q (F0 mt 30 ls []) := by
  unfold bX4_giveBack_30 at hF
  cases hF
  exact Kr _ _ _ _ S dX4_giveBack_30
set_option maxRecDepth 20000 in
theorem wX4_giveBack_0 {p : Program} {l : Launch} {e : Env} {s : State} {mt : MethodId} {args : Array Value} {below : List Frame} {meth : Method} {c : Code} {Q : State → Prop} {G : Gl} {A : Nat → Prop} {H0 : Heap} {ad : Int → Nat} {g : Shp} {H : Heap} {locs : List Loc} {ls : Array Slot} {m : Mem} {x0 x1 : Int} (C : CallFix p mt c cX4_giveBack 2 s args tb RX4) (S : Wd G A s H0 ad g m H locs) (hx0 : gk g x0 = 5) (hx1 : gk g x1 = 2) (hl : lv_has ls 2 [(0, .ref (ad x0)), (1, .ref (ad x1))]) {r : Int} {m' : Mem} (hF : bX4_giveBack_0 g x0 x1 m = some (r, m')) (Kr : ∀ (H : Heap) (locs : List Loc) (pc : Nat) (ls : Array Slot), Wd G A s H0 ad g m' H locs → decode cX4_giveBack pc = .ok (.return_, 1) → W p l e rX4_giveBack s mt args below meth c H locs 0 0 Q (F0 mt pc ls [])) : W p l e rX4_giveBack s mt args below meth c H locs 0 0 Q (F0 mt 0 ls []) := by
  unfold bX4_giveBack_0 at hF
  refine q_aload_n C hl 0 rfl rfl dX4_giveBack_0 ?_
  refine q_geti C S 1 fo_RX4_18 (j := 1) rfl rfl hx0 dX4_giveBack_1 ?_
  refine q_if_le C (S.r _ _) 30 dX4_giveBack_4 (by decide) (fun hc1 => ?_) (fun hc1 => ?_)
  · have hF := if_t hc1 hF
    exact wX4_giveBack_30 C S  (lv_sub hl [] rfl) hF Kr
  · have hF := if_f hc1 hF
    refine q_aload_n C hl 0 rfl rfl dX4_giveBack_7 ?_
    refine q_dup C rfl dX4_giveBack_8 ?_
    refine q_geti C S 1 fo_RX4_18 (j := 1) rfl rfl hx0 dX4_giveBack_9 ?_
    refine q_iconst C 1 dX4_giveBack_12 ?_
    refine q_isub C dX4_giveBack_13 ?_
    obtain ⟨m2, em2, hF⟩ := vm_ok hF
    refine q_put C S 1 fo_RX4_18 fp_5_1 (fun h9 => absurd h9 (by decide)) (j := 1) rfl hx0 rfl rfl rfl (r32_w _) (fun h9 => absurd h9 (by decide)) em2 dX4_giveBack_14 (fun H locs Sm2 => ?_)
    refine q_aload_n C hl 1 rfl rfl dX4_giveBack_17 ?_
    refine q_aload_n C hl 0 rfl rfl dX4_giveBack_18 ?_
    obtain ⟨k3, hF⟩ := ck_ok hF
    refine q_getr C Sm2 0 fo_RX4_11 (j := 0) rfl rfl hx0 k3 (by decide) dX4_giveBack_19 ?_
    refine q_aload_n C hl 0 rfl rfl dX4_giveBack_22 ?_
    refine q_geti C Sm2 1 fo_RX4_18 (j := 1) rfl rfl hx0 dX4_giveBack_23 ?_
    obtain ⟨i4, hF⟩ := ck_ok hF
    obtain ⟨k5, hF⟩ := ck_ok hF
    refine q_aald C Sm2 k3 (by decide) i4 k5 (by decide) dX4_giveBack_26 ?_
    obtain ⟨v6, m7, h8, hF⟩ := bd2_ok hF
    refine q_cv Sm2 (run_V (As := [.ref (ad (m2 (m2 x0 0) (m2 x0 1)))]) (rest := []) C Sm2 (cX1_copy_ok l G hx1 k5 h8 ad _) hx1 ⟨by decide, _, _, rfl⟩ gd_RX4_25 hdV_X1_copy rfl ⟨rfl, rfl, by decide, by decide⟩ ⟨Nat.zero_le _, Nat.zero_le _⟩ hl.1 rfl (Nat.le_of_ble_eq_true rfl) dX4_giveBack_27) (fun H locs Sm7 => ?_)
    exact wX4_giveBack_30 C Sm7  (lv_sub hl [] rfl) hF Kr
theorem cX4_giveBack_ok (l : Launch) (G : Gl) {g : Shp} {x0 x1 : Int} {m m' : Mem} {r : Int} (hx0 : gk g x0 = 5) (hx1 : gk g x1 = 2) (hF : fX4_giveBack g x0 x1 m = some (r, m')) : mV l yX4_giveBack (wT yX4_giveBack cX4_giveBack 2 none) rX4_giveBack G (fun ad => [.ref (ad x0), .ref (ad x1)]) g m m' :=
  met_v (by decide) (fun ad => Nat.le_of_ble_eq_true rfl) (fun p e s mt args below meth c Q A H0 H locs ad ls C hnm S hl Kr => wX4_giveBack_0 C S hx0 hx1 hl hF Kr)
set_option maxRecDepth 20000 in
theorem wX5_begin_0 {p : Program} {l : Launch} {e : Env} {s : State} {mt : MethodId} {args : Array Value} {below : List Frame} {meth : Method} {c : Code} {Q : State → Prop} {G : Gl} {A : Nat → Prop} {H0 : Heap} {ad : Int → Nat} {g : Shp} {H : Heap} {locs : List Loc} {ls : Array Slot} {m : Mem} {x0 x1 x2 : Int} (C : CallFix p mt c cX5_begin 3 s args tb RX5) (S : Wd G A s H0 ad g m H locs) (hx0 : gk g x0 = 6) (hx1 : r32 x1) (hx2 : r32 x2) (hl : lv_has ls 3 [(0, .ref (ad x0)), (1, .int (iI x1)), (2, .int (iI x2))]) {r : Int} {m' : Mem} (hF : bX5_begin_0 g x0 x1 x2 m = some (r, m')) (Kr : ∀ (H : Heap) (locs : List Loc) (pc : Nat) (ls : Array Slot), Wd G A s H0 ad g m' H locs → decode cX5_begin pc = .ok (.return_, 1) → W p l e rX5_begin s mt args below meth c H locs 0 0 Q (F0 mt pc ls [])) : W p l e rX5_begin s mt args below meth c H locs 0 0 Q (F0 mt 0 ls []) := by
  unfold bX5_begin_0 at hF
  refine q_aload_n C hl 0 rfl rfl dX5_begin_0 ?_
  refine q_iconst C 0 dX5_begin_1 ?_
  obtain ⟨m1, em1, hF⟩ := vm_ok hF
  refine q_put C S 2 fo_RX5_18 fp_6_2 (fun h9 => absurd h9 (by decide)) (j := 2) rfl hx0 rfl rfl rfl (rl 0 rfl) (fun h9 => absurd h9 (by decide)) em1 dX5_begin_2 (fun H locs Sm1 => ?_)
  refine q_aload_n C hl 0 rfl rfl dX5_begin_5 ?_
  refine q_iconst C 0 dX5_begin_6 ?_
  obtain ⟨m2, em2, hF⟩ := vm_ok hF
  refine q_put C Sm1 3 fo_RX5_22 fp_6_3 (fun h9 => absurd h9 (by decide)) (j := 3) rfl hx0 rfl rfl rfl (rl 0 rfl) (fun h9 => absurd h9 (by decide)) em2 dX5_begin_7 (fun H locs Sm2 => ?_)
  refine q_aload_n C hl 0 rfl rfl dX5_begin_10 ?_
  refine q_iload_n C hl 1 rfl rfl dX5_begin_11 ?_
  obtain ⟨m3, em3, hF⟩ := vm_ok hF
  refine q_put C Sm2 4 fo_RX5_25 fp_6_4 (fun h9 => absurd h9 (by decide)) (j := 4) rfl hx0 rfl rfl rfl hx1 (fun h9 => absurd h9 (by decide)) em3 dX5_begin_12 (fun H locs Sm3 => ?_)
  refine q_aload_n C hl 0 rfl rfl dX5_begin_15 ?_
  refine q_iload_n C hl 2 rfl rfl dX5_begin_16 ?_
  obtain ⟨m4, em4, hF⟩ := vm_ok hF
  refine q_put C Sm3 5 fo_RX5_28 fp_6_5 (fun h9 => absurd h9 (by decide)) (j := 5) rfl hx0 rfl rfl rfl hx2 (fun h9 => absurd h9 (by decide)) em4 dX5_begin_17 (fun H locs Sm4 => ?_)
  cases hF
  exact Kr _ _ _ _ Sm4 dX5_begin_20
theorem cX5_begin_ok (l : Launch) (G : Gl) {g : Shp} {x0 x1 x2 : Int} {m m' : Mem} {r : Int} (hx0 : gk g x0 = 6) (hx1 : r32 x1) (hx2 : r32 x2) (hF : fX5_begin g x0 x1 x2 m = some (r, m')) : mV l yX5_begin (wT yX5_begin cX5_begin 3 none) rX5_begin G (fun ad => [.ref (ad x0), .int (iI x1), .int (iI x2)]) g m m' :=
  met_v (by decide) (fun ad => Nat.le_of_ble_eq_true rfl) (fun p e s mt args below meth c Q A H0 H locs ad ls C hnm S hl Kr => wX5_begin_0 C S hx0 hx1 hx2 hl hF Kr)
set_option maxRecDepth 20000 in
theorem wX10_isOnGround_25 {p : Program} {l : Launch} {e : Env} {s : State} {mt : MethodId} {args : Array Value} {below : List Frame} {meth : Method} {c : Code} {Q : State → Prop} {G : Gl} {A : Nat → Prop} {H0 : Heap} {ad : Int → Nat} {g : Shp} {H : Heap} {locs : List Loc} {ls : Array Slot} {m : Mem} {z0 : Int} (C : CallFix p mt c cX10_isOnGround 2 s args tb RX10) (S : Wd G A s H0 ad g m H locs) (hz0 : r32 z0) (hl : lv_has ls 2 []) {r : Int} {m' : Mem} (hF : bX10_isOnGround_25 g z0 m = some (r, m')) (Kr : ∀ (H : Heap) (locs : List Loc) (pc : Nat) (ls : Array Slot), Wd G A s H0 ad g m' H locs → decode cX10_isOnGround pc = .ok (.ireturn, 1) → r32 r ∧ (true = true → r = 0 ∨ r = 1) → narrow .boolean (.int (iI r)) = .int (iI r) → W p l e rX10_isOnGround s mt args below meth c H locs 0 0 Q (F0 mt pc ls [.int (iI r)])) : W p l e rX10_isOnGround s mt args below meth c H locs 0 0 Q (F0 mt 25 ls [.int (iI z0)]) := by
  unfold bX10_isOnGround_25 at hF
  obtain ⟨b1, hF⟩ := ck_ok hF
  cases hF
  exact Kr _ _ _ _ S dX10_isOnGround_25 ⟨r_b b1, fun _ => b1⟩ (nr_b b1)
set_option maxRecDepth 20000 in
theorem wX10_isOnGround_24 {p : Program} {l : Launch} {e : Env} {s : State} {mt : MethodId} {args : Array Value} {below : List Frame} {meth : Method} {c : Code} {Q : State → Prop} {G : Gl} {A : Nat → Prop} {H0 : Heap} {ad : Int → Nat} {g : Shp} {H : Heap} {locs : List Loc} {ls : Array Slot} {m : Mem} (C : CallFix p mt c cX10_isOnGround 2 s args tb RX10) (S : Wd G A s H0 ad g m H locs)  (hl : lv_has ls 2 []) {r : Int} {m' : Mem} (hF : bX10_isOnGround_24 g m = some (r, m')) (Kr : ∀ (H : Heap) (locs : List Loc) (pc : Nat) (ls : Array Slot), Wd G A s H0 ad g m' H locs → decode cX10_isOnGround pc = .ok (.ireturn, 1) → r32 r ∧ (true = true → r = 0 ∨ r = 1) → narrow .boolean (.int (iI r)) = .int (iI r) → W p l e rX10_isOnGround s mt args below meth c H locs 0 0 Q (F0 mt pc ls [.int (iI r)])) : W p l e rX10_isOnGround s mt args below meth c H locs 0 0 Q (F0 mt 24 ls []) := by
  unfold bX10_isOnGround_24 at hF
  refine q_iconst C 0 dX10_isOnGround_24 ?_
  exact wX10_isOnGround_25 C S (rl 0 rfl) (lv_sub hl [] rfl) hF Kr
set_option maxRecDepth 20000 in
theorem wX10_isOnGround_0 {p : Program} {l : Launch} {e : Env} {s : State} {mt : MethodId} {args : Array Value} {below : List Frame} {meth : Method} {c : Code} {Q : State → Prop} {G : Gl} {A : Nat → Prop} {H0 : Heap} {ad : Int → Nat} {g : Shp} {H : Heap} {locs : List Loc} {ls : Array Slot} {m : Mem} {x0 x1 : Int} (C : CallFix p mt c cX10_isOnGround 2 s args tb RX10) (S : Wd G A s H0 ad g m H locs) (hx0 : r32 x0) (hx1 : r32 x1) (hl : lv_has ls 2 [(0, .int (iI x0)), (1, .int (iI x1))]) {r : Int} {m' : Mem} (hF : bX10_isOnGround_0 g x0 x1 m = some (r, m')) (Kr : ∀ (H : Heap) (locs : List Loc) (pc : Nat) (ls : Array Slot), Wd G A s H0 ad g m' H locs → decode cX10_isOnGround pc = .ok (.ireturn, 1) → r32 r ∧ (true = true → r = 0 ∨ r = 1) → narrow .boolean (.int (iI r)) = .int (iI r) → W p l e rX10_isOnGround s mt args below meth c H locs 0 0 Q (F0 mt pc ls [.int (iI r)])) : W p l e rX10_isOnGround s mt args below meth c H locs 0 0 Q (F0 mt 0 ls []) := by
  unfold bX10_isOnGround_0 at hF
  refine q_iload_n C hl 0 rfl rfl dX10_isOnGround_0 ?_
  refine q_if_lt C hx0 24 dX10_isOnGround_1 (by decide) (fun hc1 => ?_) (fun hc1 => ?_)
  · have hF := if_t hc1 hF
    exact wX10_isOnGround_24 C S  (lv_sub hl [] rfl) hF Kr
  · have hF := if_f hc1 hF
    refine q_iload_n C hl 0 rfl rfl dX10_isOnGround_4 ?_
    refine q_bipush C 20 (by decide) dX10_isOnGround_5 ?_
    refine q_icmp_ge C hx0 (rl 20 rfl) 24 dX10_isOnGround_7 (by decide) (fun hc2 => ?_) (fun hc2 => ?_)
    · have hF := if_t hc2 hF
      exact wX10_isOnGround_24 C S  (lv_sub hl [] rfl) hF Kr
    · have hF := if_f hc2 hF
      refine q_iload_n C hl 1 rfl rfl dX10_isOnGround_10 ?_
      refine q_if_lt C hx1 24 dX10_isOnGround_11 (by decide) (fun hc3 => ?_) (fun hc3 => ?_)
      · have hF := if_t hc3 hF
        exact wX10_isOnGround_24 C S  (lv_sub hl [] rfl) hF Kr
      · have hF := if_f hc3 hF
        refine q_iload_n C hl 1 rfl rfl dX10_isOnGround_14 ?_
        refine q_bipush C 20 (by decide) dX10_isOnGround_15 ?_
        refine q_icmp_ge C hx1 (rl 20 rfl) 24 dX10_isOnGround_17 (by decide) (fun hc4 => ?_) (fun hc4 => ?_)
        · have hF := if_t hc4 hF
          exact wX10_isOnGround_24 C S  (lv_sub hl [] rfl) hF Kr
        · have hF := if_f hc4 hF
          refine q_iconst C 1 dX10_isOnGround_20 ?_
          refine q_goto C 25 dX10_isOnGround_21 (by decide) ?_
          exact wX10_isOnGround_25 C S (rl 1 rfl) (lv_sub hl [] rfl) hF Kr
theorem cX10_isOnGround_ok (l : Launch) (G : Gl) {g : Shp} {x0 x1 : Int} {m m' : Mem} {r : Int} (hx0 : r32 x0) (hx1 : r32 x1) (hF : fX10_isOnGround g x0 x1 m = some (r, m')) : mI l yX10_isOnGround (wT yX10_isOnGround cX10_isOnGround 2 (some .boolean)) rX10_isOnGround G true (fun ad => [.int (iI x0), .int (iI x1)]) g m r m' :=
  met_i (by decide) (fun ad => Nat.le_of_ble_eq_true rfl) (fun p e s mt args below meth c Q A H0 H locs ad ls C hnm S hl Kr => wX10_isOnGround_0 C S hx0 hx1 hl hF Kr)
set_option maxRecDepth 20000 in
theorem wX5_go_73 {p : Program} {l : Launch} {e : Env} {s : State} {mt : MethodId} {args : Array Value} {below : List Frame} {meth : Method} {c : Code} {Q : State → Prop} {G : Gl} {A : Nat → Prop} {H0 : Heap} {ad : Int → Nat} {g : Shp} {H : Heap} {locs : List Loc} {ls : Array Slot} {m : Mem} {x0 x1 x2 x3 x4 x5 x6 x7 : Int} (C : CallFix p mt c cX5_go 9 s args tb RX5) (S : Wd G A s H0 ad g m H locs) (hx0 : gk g x0 = 6) (hx1 : r32 x1) (hx2 : r32 x2) (hx3 : r32 x3) (hx4 : gk g x4 = 20) (hx5 : r32 x5) (hx6 : r32 x6) (hx7 : r32 x7) (hl : lv_has ls 9 [(0, .ref (ad x0)), (1, .int (iI x1)), (2, .int (iI x2)), (3, .int (iI x3)), (4, .ref (ad x4)), (5, .int (iI x5)), (6, .int (iI x6)), (7, .int (iI x7))]) {c1 : Int} {s1 : (Int × Mem)} (hF : bX5_go_73 g x0 x1 x2 x3 x4 x5 x6 x7 m = some (c1, s1)) (K0 : c1 = 0 → ∀ (H : Heap) (locs : List Loc) (ls : Array Slot), r32 s1.1 → Wd G A s H0 ad g s1.2 H locs → lv_has ls 9 [(0, .ref (ad x0)), (1, .int (iI x1)), (2, .int (iI x2)), (3, .int (iI x3)), (4, .ref (ad x4)), (5, .int (iI x5)), (6, .int (iI x6)), (7, .int (iI s1.1))] → W p l e rX5_go s mt args below meth c H locs 0 0 Q (F0 mt 40 ls [])) (K1 : c1 = 1 → ∀ (H : Heap) (locs : List Loc) (ls : Array Slot), Wd G A s H0 ad g s1.2 H locs → lv_has ls 9 [] → W p l e rX5_go s mt args below meth c H locs 0 0 Q (F0 mt 96 ls [])) (K2 : c1 = 2 → ∀ (H : Heap) (locs : List Loc) (ls : Array Slot), Wd G A s H0 ad g s1.2 H locs → lv_has ls 9 [] → W p l e rX5_go s mt args below meth c H locs 0 0 Q (F0 mt 123 ls [])) (K3 : c1 = 3 → ∀ (H : Heap) (locs : List Loc) (ls : Array Slot), Wd G A s H0 ad g s1.2 H locs → lv_has ls 9 [(0, .ref (ad x0)), (6, .int (iI x6))] → W p l e rX5_go s mt args below meth c H locs 0 0 Q (F0 mt 162 ls [])) : W p l e rX5_go s mt args below meth c H locs 0 0 Q (F0 mt 73 ls []) := by
  unfold bX5_go_73 at hF
  refine q_aload_n C hl 0 rfl rfl dX5_go_73 ?_
  refine q_geti C S 2 fo_RX5_18 (j := 2) rfl rfl hx0 dX5_go_74 ?_
  refine q_bipush C 60 (by decide) dX5_go_77 ?_
  refine q_icmp_ge C (S.r _ _) (rl 60 rfl) 96 dX5_go_79 (by decide) (fun hc1 => ?_) (fun hc1 => ?_)
  · have hF := if_t hc1 hF
    cases hF
    exact K1 rfl _ _ _  S (lv_sub hl [] rfl)
  · have hF := if_f hc1 hF
    refine q_aload_n C hl 0 rfl rfl dX5_go_82 ?_
    refine q_geti C S 4 fo_RX5_25 (j := 4) rfl rfl hx0 dX5_go_83 ?_
    refine q_aload_n C hl 0 rfl rfl dX5_go_86 ?_
    refine q_geti C S 5 fo_RX5_28 (j := 5) rfl rfl hx0 dX5_go_87 ?_
    obtain ⟨v2, m3, h4, hF⟩ := bd2_ok hF
    refine q_ci S (run_SN (As := [.int (iI (m x0 4)), .int (iI (m x0 5))]) (rest := []) C S (cX10_isOnGround_ok l G (S.r _ _) (S.r _ _) h4 ad _) (host := "StoneFloors") (by decide) tw547 tw64 tw546 hd_X10_isOnGround rfl ⟨rfl, rfl, by decide, by decide⟩ ⟨Nat.zero_le _, Nat.zero_le _⟩ hl.1 rfl (Nat.le_of_ble_eq_true rfl) dX5_go_90) (fun H locs Sm3 h5 => ?_)
    refine q_if_ne C h5.1 98 dX5_go_93 (by decide) (fun hc6 => ?_) (fun hc6 => ?_)
    · have hF := if_t hc6 hF
      cases hF
      exact K1 rfl _ _ _  Sm3 (lv_sub hl [] rfl)
    · have hF := if_f hc6 hF
      refine q_bipush C 20 (by decide) dX5_go_98 ?_
      refine q_aload_n C hl 0 rfl rfl dX5_go_100 ?_
      refine q_geti C Sm3 5 fo_RX5_28 (j := 5) rfl rfl hx0 dX5_go_101 ?_
      refine q_imul C dX5_go_104 ?_
      refine q_aload_n C hl 0 rfl rfl dX5_go_105 ?_
      refine q_geti C Sm3 4 fo_RX5_25 (j := 4) rfl rfl hx0 dX5_go_106 ?_
      refine q_iadd C dX5_go_109 ?_
      obtain ⟨y7, ey7, hF⟩ := vv_ok hF
      have ry7 : r32 y7 := ey7 ▸ (r32_w _)
      refine q_istore C hl [(8, .int (iI y7)), (0, .ref (ad x0)), (1, .int (iI x1)), (2, .int (iI x2)), (3, .int (iI x3)), (4, .ref (ad x4)), (5, .int (iI x5)), (6, .int (iI x6)), (7, .int (iI x7))] ey7 (by decide) rfl dX5_go_110 (fun ls hl => ?_)
      refine q_aload C hl 5 rfl dX5_go_112 ?_
      refine q_iload C hl 0 rfl dX5_go_114 ?_
      obtain ⟨i8, hF⟩ := ck_ok hF
      refine q_iald C Sm3 hx4 i8 dX5_go_116 ?_
      refine q_iload C hl 6 rfl dX5_go_117 ?_
      refine q_iand C dX5_go_119 ?_
      refine q_if_eq C (r32_of _) 125 dX5_go_120 (by decide) (fun hc9 => ?_) (fun hc9 => ?_)
      · have hF := if_t hc9 hF
        refine q_aload C hl 5 rfl dX5_go_125 ?_
        refine q_iload C hl 0 rfl dX5_go_127 ?_
        refine q_dup2 C rfl rfl dX5_go_129 ?_
        obtain ⟨i10, hF⟩ := ck_ok hF
        refine q_iald C Sm3 hx4 i10 dX5_go_130 ?_
        refine q_iload C hl 6 rfl dX5_go_131 ?_
        refine q_ior C dX5_go_133 ?_
        obtain ⟨i11, hF⟩ := ck_ok hF
        obtain ⟨m12, em12, hF⟩ := vm_ok hF
        refine q_iast C Sm3 hx4 i11 (r32_of _) em12 dX5_go_134 (fun H locs Sm12 => ?_)
        refine q_aload_n C hl 1 rfl rfl dX5_go_135 ?_
        obtain ⟨k13, hF⟩ := ck_ok hF
        refine q_getr C Sm12 0 fo_RX5_9 (j := 0) rfl rfl hx0 k13 (by decide) dX5_go_136 ?_
        refine q_aload_n C hl 1 rfl rfl dX5_go_139 ?_
        refine q_geti C Sm12 2 fo_RX5_18 (j := 2) rfl rfl hx0 dX5_go_140 ?_
        refine q_iload C hl 0 rfl dX5_go_143 ?_
        obtain ⟨i14, hF⟩ := ck_ok hF
        obtain ⟨m15, em15, hF⟩ := vm_ok hF
        refine q_iast C Sm12 k13 i14 ry7 em15 dX5_go_145 (fun H locs Sm15 => ?_)
        refine q_aload_n C hl 1 rfl rfl dX5_go_146 ?_
        refine q_dup C rfl dX5_go_147 ?_
        refine q_geti C Sm15 2 fo_RX5_18 (j := 2) rfl rfl hx0 dX5_go_148 ?_
        refine q_iconst C 1 dX5_go_151 ?_
        refine q_iadd C dX5_go_152 ?_
        obtain ⟨m16, em16, hF⟩ := vm_ok hF
        refine q_put C Sm15 2 fo_RX5_18 fp_6_2 (fun h9 => absurd h9 (by decide)) (j := 2) rfl hx0 rfl rfl rfl (r32_w _) (fun h9 => absurd h9 (by decide)) em16 dX5_go_153 (fun H locs Sm16 => ?_)
        obtain ⟨y17, ey17, hF⟩ := vv_ok hF
        have ry17 : r32 y17 := ey17 ▸ r32_w _
        refine q_iinc C hl 8 [(7, .int (iI y17)), (8, .int (iI y7)), (0, .ref (ad x0)), (1, .int (iI x1)), (2, .int (iI x2)), (3, .int (iI x3)), (4, .ref (ad x4)), (5, .int (iI x5)), (6, .int (iI x6))] rfl ey17 (by decide) rfl dX5_go_156 (fun ls hl => ?_)
        refine q_goto C 40 dX5_go_159 (by decide) ?_
        cases hF
        exact K0 rfl _ _ _ ry17 Sm16 (lv_sub hl [2, 3, 4, 5, 6, 7, 8, 0] rfl)
      · have hF := if_f hc9 hF
        cases hF
        exact K2 rfl _ _ _  Sm3 (lv_sub hl [] rfl)
set_option maxRecDepth 20000 in
theorem wX5_go_40 {p : Program} {l : Launch} {e : Env} {s : State} {mt : MethodId} {args : Array Value} {below : List Frame} {meth : Method} {c : Code} {Q : State → Prop} {G : Gl} {A : Nat → Prop} {H0 : Heap} {ad : Int → Nat} {g : Shp} {H : Heap} {locs : List Loc} {ls : Array Slot} {m : Mem} {x0 x1 x2 x3 x4 x5 x6 x7 : Int} (C : CallFix p mt c cX5_go 9 s args tb RX5) (S : Wd G A s H0 ad g m H locs) (hx0 : gk g x0 = 6) (hx1 : r32 x1) (hx2 : r32 x2) (hx3 : r32 x3) (hx4 : gk g x4 = 20) (hx5 : r32 x5) (hx6 : r32 x6) (hx7 : r32 x7) (hl : lv_has ls 9 [(0, .ref (ad x0)), (1, .int (iI x1)), (2, .int (iI x2)), (3, .int (iI x3)), (4, .ref (ad x4)), (5, .int (iI x5)), (6, .int (iI x6)), (7, .int (iI x7))]) {c1 : Int} {s1 : (Int × Mem)} (hF : bX5_go_40 g x0 x1 x2 x3 x4 x5 x6 x7 m = some (c1, s1)) (K0 : c1 = 0 → ∀ (H : Heap) (locs : List Loc) (ls : Array Slot), r32 s1.1 → Wd G A s H0 ad g s1.2 H locs → lv_has ls 9 [(0, .ref (ad x0)), (1, .int (iI x1)), (2, .int (iI x2)), (3, .int (iI x3)), (4, .ref (ad x4)), (5, .int (iI x5)), (6, .int (iI x6)), (7, .int (iI s1.1))] → W p l e rX5_go s mt args below meth c H locs 0 0 Q (F0 mt 40 ls [])) (K1 : c1 = 1 → ∀ (H : Heap) (locs : List Loc) (ls : Array Slot), Wd G A s H0 ad g s1.2 H locs → lv_has ls 9 [] → W p l e rX5_go s mt args below meth c H locs 0 0 Q (F0 mt 96 ls [])) (K2 : c1 = 2 → ∀ (H : Heap) (locs : List Loc) (ls : Array Slot), Wd G A s H0 ad g s1.2 H locs → lv_has ls 9 [] → W p l e rX5_go s mt args below meth c H locs 0 0 Q (F0 mt 123 ls [])) (K3 : c1 = 3 → ∀ (H : Heap) (locs : List Loc) (ls : Array Slot), Wd G A s H0 ad g s1.2 H locs → lv_has ls 9 [(0, .ref (ad x0)), (6, .int (iI x6))] → W p l e rX5_go s mt args below meth c H locs 0 0 Q (F0 mt 162 ls [])) : W p l e rX5_go s mt args below meth c H locs 0 0 Q (F0 mt 40 ls []) := by
  unfold bX5_go_40 at hF
  refine q_iload C hl 7 rfl dX5_go_40 ?_
  refine q_iload_n C hl 3 rfl rfl dX5_go_42 ?_
  refine q_icmp_ge C hx7 hx3 162 dX5_go_43 (by decide) (fun hc1 => ?_) (fun hc1 => ?_)
  · have hF := if_t hc1 hF
    cases hF
    exact K3 rfl _ _ _  S (lv_sub hl [0, 6] rfl)
  · have hF := if_f hc1 hF
    refine q_aload_n C hl 0 rfl rfl dX5_go_46 ?_
    refine q_geti C S 2 fo_RX5_18 (j := 2) rfl rfl hx0 dX5_go_47 ?_
    refine q_if_le C (S.r _ _) 73 dX5_go_50 (by decide) (fun hc2 => ?_) (fun hc2 => ?_)
    · have hF := if_t hc2 hF
      exact wX5_go_73 C S hx0 hx1 hx2 hx3 hx4 hx5 hx6 hx7 (lv_sub hl [0, 1, 2, 3, 4, 5, 6, 7] rfl) hF K0 K1 K2 K3
    · have hF := if_f hc2 hF
      refine q_aload_n C hl 0 rfl rfl dX5_go_53 ?_
      refine q_dup C rfl dX5_go_54 ?_
      refine q_geti C S 4 fo_RX5_25 (j := 4) rfl rfl hx0 dX5_go_55 ?_
      refine q_iload_n C hl 1 rfl rfl dX5_go_58 ?_
      refine q_iadd C dX5_go_59 ?_
      obtain ⟨m3, em3, hF⟩ := vm_ok hF
      refine q_put C S 4 fo_RX5_25 fp_6_4 (fun h9 => absurd h9 (by decide)) (j := 4) rfl hx0 rfl rfl rfl (r32_w _) (fun h9 => absurd h9 (by decide)) em3 dX5_go_60 (fun H locs Sm3 => ?_)
      refine q_aload_n C hl 0 rfl rfl dX5_go_63 ?_
      refine q_dup C rfl dX5_go_64 ?_
      refine q_geti C Sm3 5 fo_RX5_28 (j := 5) rfl rfl hx0 dX5_go_65 ?_
      refine q_iload_n C hl 2 rfl rfl dX5_go_68 ?_
      refine q_iadd C dX5_go_69 ?_
      obtain ⟨m4, em4, hF⟩ := vm_ok hF
      refine q_put C Sm3 5 fo_RX5_28 fp_6_5 (fun h9 => absurd h9 (by decide)) (j := 5) rfl hx0 rfl rfl rfl (r32_w _) (fun h9 => absurd h9 (by decide)) em4 dX5_go_70 (fun H locs Sm4 => ?_)
      exact wX5_go_73 C Sm4 hx0 hx1 hx2 hx3 hx4 hx5 hx6 hx7 (lv_sub hl [0, 1, 2, 3, 4, 5, 6, 7] rfl) hF K0 K1 K2 K3
set_option maxRecDepth 20000 in
theorem lX5_go_40 {p : Program} {l : Launch} {e : Env} {s : State} {mt : MethodId} {args : Array Value} {below : List Frame} {meth : Method} {c : Code} {Q : State → Prop} {G : Gl} {A : Nat → Prop} {H0 : Heap} {ad : Int → Nat} {g : Shp} {x0 x1 x2 x3 x4 x5 x6 : Int} (C : CallFix p mt c cX5_go 9 s args tb RX5) (hx0 : gk g x0 = 6) (hx1 : r32 x1) (hx2 : r32 x2) (hx3 : r32 x3) (hx4 : gk g x4 = 20) (hx5 : r32 x5) (hx6 : r32 x6) {n : Nat} {s0 s1 : (Int × Mem)} {c1 : Int} (hI : iter (BX5_go_40 g x0 x1 x2 x3 x4 x5 x6) n s0 = some (c1, s1)) (K1 : c1 = 1 → ∀ (H : Heap) (locs : List Loc) (ls : Array Slot), Wd G A s H0 ad g s1.2 H locs → lv_has ls 9 [] → W p l e rX5_go s mt args below meth c H locs 0 0 Q (F0 mt 96 ls [])) (K2 : c1 = 2 → ∀ (H : Heap) (locs : List Loc) (ls : Array Slot), Wd G A s H0 ad g s1.2 H locs → lv_has ls 9 [] → W p l e rX5_go s mt args below meth c H locs 0 0 Q (F0 mt 123 ls [])) (K3 : c1 = 3 → ∀ (H : Heap) (locs : List Loc) (ls : Array Slot), Wd G A s H0 ad g s1.2 H locs → lv_has ls 9 [(0, .ref (ad x0)), (6, .int (iI x6))] → W p l e rX5_go s mt args below meth c H locs 0 0 Q (F0 mt 162 ls [])) : ∀ (H : Heap) (locs : List Loc) (ls : Array Slot), r32 s0.1 → Wd G A s H0 ad g s0.2 H locs → lv_has ls 9 [(0, .ref (ad x0)), (1, .int (iI x1)), (2, .int (iI x2)), (3, .int (iI x3)), (4, .ref (ad x4)), (5, .int (iI x5)), (6, .int (iI x6)), (7, .int (iI s0.1))] → W p l e rX5_go s mt args below meth c H locs 0 0 Q (F0 mt 40 ls []) :=
  iter_W (Pw := fun q => ∀ (H : Heap) (locs : List Loc) (ls : Array Slot), r32 q.1 → Wd G A s H0 ad g q.2 H locs → lv_has ls 9 [(0, .ref (ad x0)), (1, .int (iI x1)), (2, .int (iI x2)), (3, .int (iI x3)), (4, .ref (ad x4)), (5, .int (iI x5)), (6, .int (iI x6)), (7, .int (iI q.1))] → W p l e rX5_go s mt args below meth c H locs 0 0 Q (F0 mt 40 ls [])) (Px := fun c0 q => (c0 = 1 → ∀ (H : Heap) (locs : List Loc) (ls : Array Slot), Wd G A s H0 ad g q.2 H locs → lv_has ls 9 [] → W p l e rX5_go s mt args below meth c H locs 0 0 Q (F0 mt 96 ls [])) ∧ (c0 = 2 → ∀ (H : Heap) (locs : List Loc) (ls : Array Slot), Wd G A s H0 ad g q.2 H locs → lv_has ls 9 [] → W p l e rX5_go s mt args below meth c H locs 0 0 Q (F0 mt 123 ls [])) ∧ (c0 = 3 → ∀ (H : Heap) (locs : List Loc) (ls : Array Slot), Wd G A s H0 ad g q.2 H locs → lv_has ls 9 [(0, .ref (ad x0)), (6, .int (iI x6))] → W p l e rX5_go s mt args below meth c H locs 0 0 Q (F0 mt 162 ls [])))
    (fun s c s' hB K0 kx H locs ls f0 S hl => wX5_go_40 C S hx0 hx1 hx2 hx3 hx4 hx5 hx6 f0 hl hB K0 (fun h9 => (kx (by rw [h9]; decide)).1 h9) (fun h9 => (kx (by rw [h9]; decide)).2.1 h9) (fun h9 => (kx (by rw [h9]; decide)).2.2 h9)) _ _ _ _ hI ⟨K1, K2, K3⟩
set_option maxRecDepth 20000 in
theorem wX5_go_35 {p : Program} {l : Launch} {e : Env} {s : State} {mt : MethodId} {args : Array Value} {below : List Frame} {meth : Method} {c : Code} {Q : State → Prop} {G : Gl} {A : Nat → Prop} {H0 : Heap} {ad : Int → Nat} {g : Shp} {H : Heap} {locs : List Loc} {ls : Array Slot} {m : Mem} (C : CallFix p mt c cX5_go 9 s args tb RX5) (S : Wd G A s H0 ad g m H locs)  (hl : lv_has ls 9 []) {r : Int} {m' : Mem} (hF : bX5_go_35 g m = some (r, m')) (Kr : ∀ (H : Heap) (locs : List Loc) (pc : Nat) (ls : Array Slot), Wd G A s H0 ad g m' H locs → decode cX5_go pc = .ok (.ireturn, 1) → r32 r ∧ (true = true → r = 0 ∨ r = 1) → narrow .boolean (.int (iI r)) = .int (iI r) → W p l e rX5_go s mt args below meth c H locs 0 0 Q (F0 mt pc ls [.int (iI r)])) : W p l e rX5_go s mt args below meth c H locs 0 0 Q (F0 mt 35 ls []) := by
  unfold bX5_go_35 at hF
  refine q_iconst C 0 dX5_go_35 ?_
  cases hF
  exact Kr _ _ _ _ S dX5_go_36 ⟨r_b b_0, fun _ => b_0⟩ (nr_b b_0)
set_option maxRecDepth 20000 in
theorem wX5_go_96 {p : Program} {l : Launch} {e : Env} {s : State} {mt : MethodId} {args : Array Value} {below : List Frame} {meth : Method} {c : Code} {Q : State → Prop} {G : Gl} {A : Nat → Prop} {H0 : Heap} {ad : Int → Nat} {g : Shp} {H : Heap} {locs : List Loc} {ls : Array Slot} {m : Mem} (C : CallFix p mt c cX5_go 9 s args tb RX5) (S : Wd G A s H0 ad g m H locs)  (hl : lv_has ls 9 []) {r : Int} {m' : Mem} (hF : bX5_go_96 g m = some (r, m')) (Kr : ∀ (H : Heap) (locs : List Loc) (pc : Nat) (ls : Array Slot), Wd G A s H0 ad g m' H locs → decode cX5_go pc = .ok (.ireturn, 1) → r32 r ∧ (true = true → r = 0 ∨ r = 1) → narrow .boolean (.int (iI r)) = .int (iI r) → W p l e rX5_go s mt args below meth c H locs 0 0 Q (F0 mt pc ls [.int (iI r)])) : W p l e rX5_go s mt args below meth c H locs 0 0 Q (F0 mt 96 ls []) := by
  unfold bX5_go_96 at hF
  refine q_iconst C 0 dX5_go_96 ?_
  cases hF
  exact Kr _ _ _ _ S dX5_go_97 ⟨r_b b_0, fun _ => b_0⟩ (nr_b b_0)
set_option maxRecDepth 20000 in
theorem wX5_go_123 {p : Program} {l : Launch} {e : Env} {s : State} {mt : MethodId} {args : Array Value} {below : List Frame} {meth : Method} {c : Code} {Q : State → Prop} {G : Gl} {A : Nat → Prop} {H0 : Heap} {ad : Int → Nat} {g : Shp} {H : Heap} {locs : List Loc} {ls : Array Slot} {m : Mem} (C : CallFix p mt c cX5_go 9 s args tb RX5) (S : Wd G A s H0 ad g m H locs)  (hl : lv_has ls 9 []) {r : Int} {m' : Mem} (hF : bX5_go_123 g m = some (r, m')) (Kr : ∀ (H : Heap) (locs : List Loc) (pc : Nat) (ls : Array Slot), Wd G A s H0 ad g m' H locs → decode cX5_go pc = .ok (.ireturn, 1) → r32 r ∧ (true = true → r = 0 ∨ r = 1) → narrow .boolean (.int (iI r)) = .int (iI r) → W p l e rX5_go s mt args below meth c H locs 0 0 Q (F0 mt pc ls [.int (iI r)])) : W p l e rX5_go s mt args below meth c H locs 0 0 Q (F0 mt 123 ls []) := by
  unfold bX5_go_123 at hF
  refine q_iconst C 0 dX5_go_123 ?_
  cases hF
  exact Kr _ _ _ _ S dX5_go_124 ⟨r_b b_0, fun _ => b_0⟩ (nr_b b_0)
set_option maxRecDepth 20000 in
theorem wX5_go_162 {p : Program} {l : Launch} {e : Env} {s : State} {mt : MethodId} {args : Array Value} {below : List Frame} {meth : Method} {c : Code} {Q : State → Prop} {G : Gl} {A : Nat → Prop} {H0 : Heap} {ad : Int → Nat} {g : Shp} {H : Heap} {locs : List Loc} {ls : Array Slot} {m : Mem} {x0 x6 : Int} (C : CallFix p mt c cX5_go 9 s args tb RX5) (S : Wd G A s H0 ad g m H locs) (hx0 : gk g x0 = 6) (hx6 : r32 x6) (hl : lv_has ls 9 [(0, .ref (ad x0)), (6, .int (iI x6))]) {r : Int} {m' : Mem} (hF : bX5_go_162 g x0 x6 m = some (r, m')) (Kr : ∀ (H : Heap) (locs : List Loc) (pc : Nat) (ls : Array Slot), Wd G A s H0 ad g m' H locs → decode cX5_go pc = .ok (.ireturn, 1) → r32 r ∧ (true = true → r = 0 ∨ r = 1) → narrow .boolean (.int (iI r)) = .int (iI r) → W p l e rX5_go s mt args below meth c H locs 0 0 Q (F0 mt pc ls [.int (iI r)])) : W p l e rX5_go s mt args below meth c H locs 0 0 Q (F0 mt 162 ls []) := by
  unfold bX5_go_162 at hF
  refine q_aload_n C hl 0 rfl rfl dX5_go_162 ?_
  refine q_iload C hl 1 rfl dX5_go_163 ?_
  obtain ⟨b1, hF⟩ := ck_ok hF
  obtain ⟨m2, em2, hF⟩ := vm_ok hF
  refine q_put C S 6 fo_RX5_31 fp_6_6 (fun h9 => absurd h9 (by decide)) (j := 6) rfl hx0 rfl (nr_b b1) (ft_b b1) hx6 (fun h9 => absurd h9 (by decide)) em2 dX5_go_165 (fun H locs Sm2 => ?_)
  refine q_aload_n C hl 0 rfl rfl dX5_go_168 ?_
  obtain ⟨k3, hF⟩ := ck_ok hF
  refine q_getr C Sm2 1 fo_RX5_15 (j := 1) rfl rfl hx0 k3 (by decide) dX5_go_169 ?_
  refine q_aload_n C hl 0 rfl rfl dX5_go_172 ?_
  refine q_geti C Sm2 3 fo_RX5_22 (j := 3) rfl rfl hx0 dX5_go_173 ?_
  refine q_aload_n C hl 0 rfl rfl dX5_go_176 ?_
  refine q_geti C Sm2 2 fo_RX5_18 (j := 2) rfl rfl hx0 dX5_go_177 ?_
  refine q_iconst C 1 dX5_go_180 ?_
  refine q_isub C dX5_go_181 ?_
  obtain ⟨i4, hF⟩ := ck_ok hF
  obtain ⟨m5, em5, hF⟩ := vm_ok hF
  refine q_iast C Sm2 k3 i4 (r32_w _) em5 dX5_go_182 (fun H locs Sm5 => ?_)
  refine q_aload_n C hl 0 rfl rfl dX5_go_183 ?_
  refine q_dup C rfl dX5_go_184 ?_
  refine q_geti C Sm5 3 fo_RX5_22 (j := 3) rfl rfl hx0 dX5_go_185 ?_
  refine q_iconst C 1 dX5_go_188 ?_
  refine q_iadd C dX5_go_189 ?_
  obtain ⟨m6, em6, hF⟩ := vm_ok hF
  refine q_put C Sm5 3 fo_RX5_22 fp_6_3 (fun h9 => absurd h9 (by decide)) (j := 3) rfl hx0 rfl rfl rfl (r32_w _) (fun h9 => absurd h9 (by decide)) em6 dX5_go_190 (fun H locs Sm6 => ?_)
  refine q_iconst C 1 dX5_go_193 ?_
  cases hF
  exact Kr _ _ _ _ Sm6 dX5_go_194 ⟨r_b b_1, fun _ => b_1⟩ (nr_b b_1)
set_option maxRecDepth 20000 in
theorem wX5_go_37 {p : Program} {l : Launch} {e : Env} {s : State} {mt : MethodId} {args : Array Value} {below : List Frame} {meth : Method} {c : Code} {Q : State → Prop} {G : Gl} {A : Nat → Prop} {H0 : Heap} {ad : Int → Nat} {g : Shp} {H : Heap} {locs : List Loc} {ls : Array Slot} {m : Mem} {x0 x1 x2 x3 x4 x5 x6 : Int} (C : CallFix p mt c cX5_go 9 s args tb RX5) (S : Wd G A s H0 ad g m H locs) (hx0 : gk g x0 = 6) (hx1 : r32 x1) (hx2 : r32 x2) (hx3 : r32 x3) (hx4 : gk g x4 = 20) (hx5 : r32 x5) (hx6 : r32 x6) (hl : lv_has ls 9 [(0, .ref (ad x0)), (1, .int (iI x1)), (2, .int (iI x2)), (3, .int (iI x3)), (4, .ref (ad x4)), (5, .int (iI x5)), (6, .int (iI x6))]) {r : Int} {m' : Mem} (hF : bX5_go_37 g x0 x1 x2 x3 x4 x5 x6 m = some (r, m')) (Kr : ∀ (H : Heap) (locs : List Loc) (pc : Nat) (ls : Array Slot), Wd G A s H0 ad g m' H locs → decode cX5_go pc = .ok (.ireturn, 1) → r32 r ∧ (true = true → r = 0 ∨ r = 1) → narrow .boolean (.int (iI r)) = .int (iI r) → W p l e rX5_go s mt args below meth c H locs 0 0 Q (F0 mt pc ls [.int (iI r)])) : W p l e rX5_go s mt args below meth c H locs 0 0 Q (F0 mt 37 ls []) := by
  unfold bX5_go_37 at hF
  refine q_iconst C 0 dX5_go_37 ?_
  refine q_istore C hl [(7, .int (iI 0)), (0, .ref (ad x0)), (1, .int (iI x1)), (2, .int (iI x2)), (3, .int (iI x3)), (4, .ref (ad x4)), (5, .int (iI x5)), (6, .int (iI x6))] rfl (by decide) rfl dX5_go_38 (fun ls hl => ?_)
  obtain ⟨cv1, sv2, hi3, hF⟩ := bdl_ok hF
  refine lX5_go_40 C hx0 hx1 hx2 hx3 hx4 hx5 hx6 hi3 ?_ ?_ ?_ _ _ _ (rl 0 rfl) S (lv_sub hl [1, 2, 3, 4, 5, 6, 7, 0] rfl)
  · intro hc4 H locs ls  S5 hl
    have hF := if_t hc4 hF
    exact wX5_go_96 C S5  (lv_sub hl [] rfl) hF Kr
  · intro hc6 H locs ls  S7 hl
    have hF := if_f (by rw [hc6]; decide) hF
    have hF := if_t hc6 hF
    exact wX5_go_123 C S7  (lv_sub hl [] rfl) hF Kr
  · intro hc8 H locs ls  S9 hl
    have hF := if_f (by rw [hc8]; decide) hF
    have hF := if_f (by rw [hc8]; decide) hF
    exact wX5_go_162 C S9 hx0 hx6 (lv_sub hl [0, 1] rfl) hF Kr
set_option maxRecDepth 20000 in
theorem wX5_go_9 {p : Program} {l : Launch} {e : Env} {s : State} {mt : MethodId} {args : Array Value} {below : List Frame} {meth : Method} {c : Code} {Q : State → Prop} {G : Gl} {A : Nat → Prop} {H0 : Heap} {ad : Int → Nat} {g : Shp} {H : Heap} {locs : List Loc} {ls : Array Slot} {m : Mem} {x0 x1 x2 x3 x4 x5 z0 : Int} (C : CallFix p mt c cX5_go 9 s args tb RX5) (S : Wd G A s H0 ad g m H locs) (hx0 : gk g x0 = 6) (hx1 : r32 x1) (hx2 : r32 x2) (hx3 : r32 x3) (hx4 : gk g x4 = 20) (hx5 : r32 x5) (hz0 : r32 z0) (hl : lv_has ls 9 [(0, .ref (ad x0)), (1, .int (iI x1)), (2, .int (iI x2)), (3, .int (iI x3)), (4, .ref (ad x4)), (5, .int (iI x5))]) {r : Int} {m' : Mem} (hF : bX5_go_9 g x0 x1 x2 x3 x4 x5 z0 m = some (r, m')) (Kr : ∀ (H : Heap) (locs : List Loc) (pc : Nat) (ls : Array Slot), Wd G A s H0 ad g m' H locs → decode cX5_go pc = .ok (.ireturn, 1) → r32 r ∧ (true = true → r = 0 ∨ r = 1) → narrow .boolean (.int (iI r)) = .int (iI r) → W p l e rX5_go s mt args below meth c H locs 0 0 Q (F0 mt pc ls [.int (iI r)])) : W p l e rX5_go s mt args below meth c H locs 0 0 Q (F0 mt 9 ls [.int (iI z0)]) := by
  unfold bX5_go_9 at hF
  refine q_istore C hl [(6, .int (iI z0)), (0, .ref (ad x0)), (1, .int (iI x1)), (2, .int (iI x2)), (3, .int (iI x3)), (4, .ref (ad x4)), (5, .int (iI x5))] rfl (by decide) rfl dX5_go_9 (fun ls hl => ?_)
  refine q_aload_n C hl 1 rfl rfl dX5_go_11 ?_
  refine q_geti C S 3 fo_RX5_22 (j := 3) rfl rfl hx0 dX5_go_12 ?_
  refine q_iconst C 5 dX5_go_15 ?_
  refine q_icmp_ge C (S.r _ _) (rl 5 rfl) 35 dX5_go_16 (by decide) (fun hc1 => ?_) (fun hc1 => ?_)
  · have hF := if_t hc1 hF
    exact wX5_go_35 C S  (lv_sub hl [] rfl) hF Kr
  · have hF := if_f hc1 hF
    refine q_aload_n C hl 1 rfl rfl dX5_go_19 ?_
    refine q_geti C S 3 fo_RX5_22 (j := 3) rfl rfl hx0 dX5_go_20 ?_
    refine q_if_le C (S.r _ _) 37 dX5_go_23 (by decide) (fun hc2 => ?_) (fun hc2 => ?_)
    · have hF := if_t hc2 hF
      exact wX5_go_37 C S hx0 hx1 hx2 hx3 hx4 hx5 hz0 (lv_sub hl [1, 2, 3, 4, 5, 6, 0] rfl) hF Kr
    · have hF := if_f hc2 hF
      refine q_iload C hl 0 rfl dX5_go_26 ?_
      refine q_aload_n C hl 1 rfl rfl dX5_go_28 ?_
      refine q_geti C S 6 fo_RX5_31 (j := 6) rfl rfl hx0 dX5_go_29 ?_
      refine q_icmp_ne C hz0 (S.r _ _) 37 dX5_go_32 (by decide) (fun hc3 => ?_) (fun hc3 => ?_)
      · have hF := if_t hc3 hF
        exact wX5_go_35 C S  (lv_sub hl [] rfl) hF Kr
      · have hF := if_f hc3 hF
        exact wX5_go_37 C S hx0 hx1 hx2 hx3 hx4 hx5 hz0 (lv_sub hl [1, 2, 3, 4, 5, 6, 0] rfl) hF Kr
set_option maxRecDepth 20000 in
theorem wX5_go_0 {p : Program} {l : Launch} {e : Env} {s : State} {mt : MethodId} {args : Array Value} {below : List Frame} {meth : Method} {c : Code} {Q : State → Prop} {G : Gl} {A : Nat → Prop} {H0 : Heap} {ad : Int → Nat} {g : Shp} {H : Heap} {locs : List Loc} {ls : Array Slot} {m : Mem} {x0 x1 x2 x3 x4 x5 : Int} (C : CallFix p mt c cX5_go 9 s args tb RX5) (S : Wd G A s H0 ad g m H locs) (hx0 : gk g x0 = 6) (hx1 : r32 x1) (hx2 : r32 x2) (hx3 : r32 x3) (hx4 : gk g x4 = 20) (hx5 : r32 x5) (hl : lv_has ls 9 [(0, .ref (ad x0)), (1, .int (iI x1)), (2, .int (iI x2)), (3, .int (iI x3)), (4, .ref (ad x4)), (5, .int (iI x5))]) {r : Int} {m' : Mem} (hF : bX5_go_0 g x0 x1 x2 x3 x4 x5 m = some (r, m')) (Kr : ∀ (H : Heap) (locs : List Loc) (pc : Nat) (ls : Array Slot), Wd G A s H0 ad g m' H locs → decode cX5_go pc = .ok (.ireturn, 1) → r32 r ∧ (true = true → r = 0 ∨ r = 1) → narrow .boolean (.int (iI r)) = .int (iI r) → W p l e rX5_go s mt args below meth c H locs 0 0 Q (F0 mt pc ls [.int (iI r)])) : W p l e rX5_go s mt args below meth c H locs 0 0 Q (F0 mt 0 ls []) := by
  unfold bX5_go_0 at hF
  refine q_iload_n C hl 1 rfl rfl dX5_go_0 ?_
  refine q_if_eq C hx1 8 dX5_go_1 (by decide) (fun hc1 => ?_) (fun hc1 => ?_)
  · have hF := if_t hc1 hF
    refine q_iconst C 0 dX5_go_8 ?_
    exact wX5_go_9 C S hx0 hx1 hx2 hx3 hx4 hx5 (rl 0 rfl) (lv_sub hl [0, 1, 2, 3, 4, 5] rfl) hF Kr
  · have hF := if_f hc1 hF
    refine q_iconst C 1 dX5_go_4 ?_
    refine q_goto C 9 dX5_go_5 (by decide) ?_
    exact wX5_go_9 C S hx0 hx1 hx2 hx3 hx4 hx5 (rl 1 rfl) (lv_sub hl [0, 1, 2, 3, 4, 5] rfl) hF Kr
theorem cX5_go_ok (l : Launch) (G : Gl) {g : Shp} {x0 x1 x2 x3 x4 x5 : Int} {m m' : Mem} {r : Int} (hx0 : gk g x0 = 6) (hx1 : r32 x1) (hx2 : r32 x2) (hx3 : r32 x3) (hx4 : gk g x4 = 20) (hx5 : r32 x5) (hF : fX5_go g x0 x1 x2 x3 x4 x5 m = some (r, m')) : mI l yX5_go (wT yX5_go cX5_go 9 (some .boolean)) rX5_go G true (fun ad => [.ref (ad x0), .int (iI x1), .int (iI x2), .int (iI x3), .ref (ad x4), .int (iI x5)]) g m r m' :=
  met_i (by decide) (fun ad => Nat.le_of_ble_eq_true rfl) (fun p e s mt args below meth c Q A H0 H locs ad ls C hnm S hl Kr => wX5_go_0 C S hx0 hx1 hx2 hx3 hx4 hx5 hl hF Kr)
