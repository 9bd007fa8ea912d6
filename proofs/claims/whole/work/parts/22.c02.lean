def ebX2_add_65 (g : Shp) (x0 x1 x2 x3 x4 x5 : Int) (m : Mem) : Option (Int × (Int × Mem)) :=
  vv (w32 (x5 + 1)) fun y1 =>
  some (0, (y1, m))
def ebX2_add_31 (g : Shp) (x0 x1 x2 x3 x4 x5 : Int) (m : Mem) : Option (Int × (Int × Mem)) :=
  if (m x0 2) ≤ x5 then
    some (2, (x5, m))
  else
    ck ((0 : Int) ≤ x5 ∧ x5 < 16) <|
    if x4 < (m (x0 + 2) x5) then
      ebX2_add_65 g x0 x1 x2 x3 x4 x5 m
    else
      bd2 (eX2_canBeTakenFrom g x0 x1 x2 x3 x5 m) fun v5 m6 =>
      if v5 = 0 then
        ebX2_add_65 g x0 x1 x2 x3 x4 x5 m6
      else
        some (1, (x5, m6))
def eBX2_add_31 (g : Shp) (x0 x1 x2 x3 x4 : Int) (q : (Int × Mem)) : Option (Int × (Int × Mem)) := ebX2_add_31 g x0 x1 x2 x3 x4 q.1 q.2
def ebX2_add_27 (g : Shp) (m : Mem) : Option (Int × Mem) :=
  some (0, m)
def ebX2_add_64 (g : Shp) (m : Mem) : Option (Int × Mem) :=
  some (0, m)
def ebX2_add_71 (g : Shp) (x0 x1 x2 x3 x4 : Int) (m : Mem) : Option (Int × Mem) :=
  ck ((0 : Int) ≤ (w32 ((m x0 2) * 3)) ∧ (w32 ((m x0 2) * 3)) < 48) <|
  vm (ms m (x0 + 1) (w32 ((m x0 2) * 3)) x1) fun m3 =>
  ck ((0 : Int) ≤ (w32 ((w32 ((m3 x0 2) * 3)) + 1)) ∧ (w32 ((w32 ((m3 x0 2) * 3)) + 1)) < 48) <|
  vm (ms m3 (x0 + 1) (w32 ((w32 ((m3 x0 2) * 3)) + 1)) x2) fun m6 =>
  ck ((0 : Int) ≤ (w32 ((w32 ((m6 x0 2) * 3)) + 2)) ∧ (w32 ((w32 ((m6 x0 2) * 3)) + 2)) < 48) <|
  vm (ms m6 (x0 + 1) (w32 ((w32 ((m6 x0 2) * 3)) + 2)) x3) fun m9 =>
  ck ((0 : Int) ≤ (m9 x0 2) ∧ (m9 x0 2) < 16) <|
  vm (ms m9 (x0 + 2) (m9 x0 2) x4) fun m12 =>
  vm (ms m12 x0 2 (w32 ((m12 x0 2) + 1))) fun m13 =>
  some (0, m13)
def ebX2_add_0 (g : Shp) (x0 x1 x2 x3 x4 : Int) (m : Mem) : Option (Int × Mem) :=
  if 6 < x1 then
    ebX2_add_27 g m
  else
    if 6 < x2 then
      ebX2_add_27 g m
    else
      if 6 < x3 then
        ebX2_add_27 g m
      else
        if (m x0 2) < 16 then
          bdl (iter (eBX2_add_31 g x0 x1 x2 x3 x4) 100000 (0, m)) fun cv5 sv6 =>
          if cv5 = 1 then
            ebX2_add_64 g sv6.2
          else
            ebX2_add_71 g x0 x1 x2 x3 x4 sv6.2
        else
          ebX2_add_27 g m
def eX2_add (g : Shp) (x0 x1 x2 x3 x4 : Int) (m : Mem) : Option (Int × Mem) := ebX2_add_0 g x0 x1 x2 x3 x4 m
def ebX2_listCut_105 (g : Shp) (x0 x1 x2 x3 x4 x5 x6 x7 x8 x9 x10 : Int) (m : Mem) : Option (Int × (Int × Mem)) :=
  vv (w32 (x10 + 1)) fun y1 =>
  some (0, (y1, m))
def ebX2_listCut_29 (g : Shp) (x0 x1 x2 x3 x4 x5 x6 x7 x8 x9 x10 : Int) (m : Mem) : Option (Int × (Int × Mem)) :=
  if x4 < (w32 (x9 + x10)) then
    some (1, (x10, m))
  else
    vv (w32 ((w32 (x4 - x9)) - x10)) fun y2 =>
    ck ((0 : Int) ≤ 0 ∧ 0 < (gl g x7 : Int)) <|
    ck ((0 : Int) ≤ 1 ∧ 1 < (gl g x7 : Int)) <|
    ck ((0 : Int) ≤ 2 ∧ 2 < (gl g x7 : Int)) <|
    vv (w32 ((w32 ((w32 (x9 * (w32 ((m x7 0) - 1)))) + (w32 (x10 * (w32 ((m x7 1) - 1)))))) + (w32 (y2 * (w32 ((m x7 2) - 1)))))) fun y6 =>
    if y6 < x5 then
      ebX2_listCut_105 g x0 x1 x2 x3 x4 x5 x6 x7 x8 x9 x10 m
    else
      bd2 (eX2_add g x0 (w32 (x1 + x9)) (w32 (x2 + x10)) (w32 (x3 + y2)) x6 m) fun v8 m9 =>
      ebX2_listCut_105 g x0 x1 x2 x3 x4 x5 x6 x7 x8 x9 x10 m9
def eBX2_listCut_29 (g : Shp) (x0 x1 x2 x3 x4 x5 x6 x7 x8 x9 : Int) (q : (Int × Mem)) : Option (Int × (Int × Mem)) := ebX2_listCut_29 g x0 x1 x2 x3 x4 x5 x6 x7 x8 x9 q.1 q.2
def ebX2_listCut_111 (g : Shp) (x0 x1 x2 x3 x4 x5 x6 x7 x8 x9 : Int) (m : Mem) : Option (Int × (Int × Mem)) :=
  vv (w32 (x9 + 1)) fun y1 =>
  some (0, (y1, m))
def ebX2_listCut_19 (g : Shp) (x0 x1 x2 x3 x4 x5 x6 x7 x8 x9 : Int) (m : Mem) : Option (Int × (Int × Mem)) :=
  if x8 < x9 then
    some (1, (x9, m))
  else
    bdl (iter (eBX2_listCut_29 g x0 x1 x2 x3 x4 x5 x6 x7 x8 x9) 100000 (0, m)) fun cv2 sv3 =>
    ebX2_listCut_111 g x0 x1 x2 x3 x4 x5 x6 x7 x8 x9 sv3.2
def eBX2_listCut_19 (g : Shp) (x0 x1 x2 x3 x4 x5 x6 x7 x8 : Int) (q : (Int × Mem)) : Option (Int × (Int × Mem)) := ebX2_listCut_19 g x0 x1 x2 x3 x4 x5 x6 x7 x8 q.1 q.2
def ebX2_listCut_117 (g : Shp) (m : Mem) : Option (Int × Mem) :=
  some (0, m)
def ebX2_listCut_14 (g : Shp) (x0 x1 x2 x3 x4 x5 x6 x7 z0 : Int) (m : Mem) : Option (Int × Mem) :=
  bdl (iter (eBX2_listCut_19 g x0 x1 x2 x3 x4 x5 x6 x7 z0) 100000 (0, m)) fun cv1 sv2 =>
  ebX2_listCut_117 g sv2.2
def ebX2_listCut_0 (g : Shp) (x0 x1 x2 x3 x4 x5 x6 x7 : Int) (m : Mem) : Option (Int × Mem) :=
  ck ((0 : Int) ≤ 0 ∧ 0 < (gl g x7 : Int)) <|
  if (m x7 0) ≤ 1 then
    ebX2_listCut_14 g x0 x1 x2 x3 x4 x5 x6 x7 0 m
  else
    ebX2_listCut_14 g x0 x1 x2 x3 x4 x5 x6 x7 x4 m
def eX2_listCut (g : Shp) (x0 x1 x2 x3 x4 x5 x6 x7 : Int) (m : Mem) : Option (Int × Mem) := ebX2_listCut_0 g x0 x1 x2 x3 x4 x5 x6 x7 m
def ebX2_list_97 (g : Shp) (x0 x1 x2 x3 x4 x5 x6 x7 x8 x10 x11 : Int) (m : Mem) : Option (Int × (Int × Int × Mem)) :=
  if 6 < x11 then
    some (1, (x10, x11, m))
  else
    if x10 < x5 then
      some (1, (x10, x11, m))
    else
      bd2 (eX2_listCut g x0 x6 x8 x11 x5 x10 x7 x3 m) fun v3 m4 =>
      ck ((0 : Int) ≤ 2 ∧ 2 < (gl g x3 : Int)) <|
      vv (w32 (x10 - (w32 ((m4 x3 2) + x4)))) fun y7 =>
      vv (w32 (x11 + 1)) fun y8 =>
      some (0, (y7, y8, m4))
def eBX2_list_97 (g : Shp) (x0 x1 x2 x3 x4 x5 x6 x7 x8 : Int) (q : (Int × Int × Mem)) : Option (Int × (Int × Int × Mem)) := ebX2_list_97 g x0 x1 x2 x3 x4 x5 x6 x7 x8 q.1 q.2.1 q.2.2
def ebX2_list_145 (g : Shp) (x0 x1 x2 x3 x4 x5 x6 x7 x8 : Int) (m : Mem) : Option (Int × (Int × Mem)) :=
  vv (w32 (x8 + 1)) fun y1 =>
  some (0, (y1, m))
def ebX2_list_52 (g : Shp) (x0 x1 x2 x3 x4 x5 x6 x7 x8 : Int) (m : Mem) : Option (Int × (Int × Mem)) :=
  if 6 < x8 then
    some (1, (x8, m))
  else
    ck ((0 : Int) ≤ 0 ∧ 0 < (gl g x3 : Int)) <|
    ck ((0 : Int) ≤ 1 ∧ 1 < (gl g x3 : Int)) <|
    vv (w32 ((w32 (x6 * (m x3 0))) + (w32 (x8 * (m x3 1))))) fun y4 =>
    vv (w32 ((w32 (x1 - y4)) - (w32 ((w32 ((w32 ((w32 (x6 + x8)) + x5)) - 1)) * x4)))) fun y5 =>
    bdl (iter (eBX2_list_97 g x0 x1 x2 x3 x4 x5 x6 x7 x8) 100000 (y5, 0, m)) fun cv6 sv7 =>
    ebX2_list_145 g x0 x1 x2 x3 x4 x5 x6 x7 x8 sv7.2.2
def eBX2_list_52 (g : Shp) (x0 x1 x2 x3 x4 x5 x6 x7 : Int) (q : (Int × Mem)) : Option (Int × (Int × Mem)) := ebX2_list_52 g x0 x1 x2 x3 x4 x5 x6 x7 q.1 q.2
def ebX2_list_151 (g : Shp) (x0 x1 x2 x3 x4 x5 x6 : Int) (m : Mem) : Option (Int × (Int × Mem)) :=
  vv (w32 (x6 + 1)) fun y1 =>
  some (0, (y1, m))
def ebX2_list_47 (g : Shp) (x0 x1 x2 x3 x4 x5 x6 z0 : Int) (m : Mem) : Option (Int × (Int × Mem)) :=
  bdl (iter (eBX2_list_52 g x0 x1 x2 x3 x4 x5 x6 z0) 100000 (0, m)) fun cv1 sv2 =>
  ebX2_list_151 g x0 x1 x2 x3 x4 x5 x6 sv2.2
def ebX2_list_45 (g : Shp) (x0 x1 x2 x3 x4 x5 x6 : Int) (m : Mem) : Option (Int × (Int × Mem)) :=
  ebX2_list_47 g x0 x1 x2 x3 x4 x5 x6 x5 m
def ebX2_list_22 (g : Shp) (x0 x1 x2 x3 x4 x5 x6 : Int) (m : Mem) : Option (Int × (Int × Mem)) :=
  if 6 < x6 then
    some (1, (x6, m))
  else
    if x2 = 0 then
      ebX2_list_45 g x0 x1 x2 x3 x4 x5 x6 m
    else
      if x6 = 0 then
        ebX2_list_47 g x0 x1 x2 x3 x4 x5 x6 (w32 (x5 + 1)) m
      else
        ebX2_list_45 g x0 x1 x2 x3 x4 x5 x6 m
def eBX2_list_22 (g : Shp) (x0 x1 x2 x3 x4 x5 : Int) (q : (Int × Mem)) : Option (Int × (Int × Mem)) := ebX2_list_22 g x0 x1 x2 x3 x4 x5 q.1 q.2
def ebX2_list_157 (g : Shp) (x0 x1 x2 x3 x4 x5 : Int) (m : Mem) : Option (Int × (Int × Mem)) :=
  vv (w32 (x5 + 1)) fun y1 =>
  some (0, (y1, m))
def ebX2_list_13 (g : Shp) (x0 x1 x2 x3 x4 x5 : Int) (m : Mem) : Option (Int × (Int × Mem)) :=
  if 3 < x5 then
    some (1, (x5, m))
  else
    bdl (iter (eBX2_list_22 g x0 x1 x2 x3 x4 x5) 100000 (0, m)) fun cv2 sv3 =>
    ebX2_list_157 g x0 x1 x2 x3 x4 x5 sv3.2
def eBX2_list_13 (g : Shp) (x0 x1 x2 x3 x4 : Int) (q : (Int × Mem)) : Option (Int × (Int × Mem)) := ebX2_list_13 g x0 x1 x2 x3 x4 q.1 q.2
def ebX2_list_163 (g : Shp) (m : Mem) : Option (Int × Mem) :=
  some (0, m)
def ebX2_list_0 (g : Shp) (x0 x1 x2 x3 x4 : Int) (m : Mem) : Option (Int × Mem) :=
  vm (ms m x0 2 0) fun m1 =>
  vm (ms m1 x0 3 1) fun m2 =>
  bdl (iter (eBX2_list_13 g x0 x1 x2 x3 x4) 100000 (0, m2)) fun cv3 sv4 =>
  ebX2_list_163 g sv4.2
def eX2_list (g : Shp) (x0 x1 x2 x3 x4 : Int) (m : Mem) : Option (Int × Mem) := ebX2_list_0 g x0 x1 x2 x3 x4 m
def ebX3_isFor_42 (g : Shp) (z0 : Int) (m : Mem) : Option (Int × Mem) :=
  ck (z0 = 0 ∨ z0 = 1) <|
  some (z0, m)
def ebX3_isFor_41 (g : Shp) (m : Mem) : Option (Int × Mem) :=
  ebX3_isFor_42 g 0 m
def ebX3_isFor_0 (g : Shp) (x1 x2 x3 : Int) (m : Mem) : Option (Int × Mem) :=
  if (m 143 8) = 0 then
    ebX3_isFor_41 g m
  else
    ck ((0 : Int) ≤ 0 ∧ 0 < (3 : Int)) <|
    if (m 144 0) = x1 then
      ck ((0 : Int) ≤ 1 ∧ 1 < (3 : Int)) <|
      if (m 144 1) = x2 then
        ck ((0 : Int) ≤ 2 ∧ 2 < (3 : Int)) <|
        if (m 144 2) = x3 then
          ebX3_isFor_42 g 1 m
        else
          ebX3_isFor_41 g m
      else
        ebX3_isFor_41 g m
    else
      ebX3_isFor_41 g m
def eX3_isFor (g : Shp) (x1 x2 x3 : Int) (m : Mem) : Option (Int × Mem) := ebX3_isFor_0 g x1 x2 x3 m
def ebX3_begin_0 (g : Shp) (x1 x2 x3 : Int) (m : Mem) : Option (Int × Mem) :=
  ck ((0 : Int) ≤ 0 ∧ 0 < (3 : Int)) <|
  vm (ms m 144 0 x1) fun m3 =>
  ck ((0 : Int) ≤ 1 ∧ 1 < (3 : Int)) <|
  vm (ms m3 144 1 x2) fun m6 =>
  ck ((0 : Int) ≤ 2 ∧ 2 < (3 : Int)) <|
  vm (ms m6 144 2 x3) fun m9 =>
  vm (ms m9 143 5 0) fun m10 =>
  vm (ms m10 143 6 0) fun m11 =>
  vm (ms m11 143 7 0) fun m12 =>
  vm (ms m12 143 8 1) fun m13 =>
  some (0, m13)
def eX3_begin (g : Shp) (x1 x2 x3 : Int) (m : Mem) : Option (Int × Mem) := ebX3_begin_0 g x1 x2 x3 m
def ebX3_isFewer_20 (g : Shp) (z0 : Int) (m : Mem) : Option (Int × Mem) :=
  ck (z0 = 0 ∨ z0 = 1) <|
  some (z0, m)
def ebX3_isFewer_15 (g : Shp) (m : Mem) : Option (Int × Mem) :=
  ebX3_isFewer_20 g 1 m
def ebX3_isFewer_0 (g : Shp) (x1 : Int) (m : Mem) : Option (Int × Mem) :=
  if (m 143 7) = 0 then
    ebX3_isFewer_15 g m
  else
    if (m 143 6) ≤ x1 then
      ebX3_isFewer_20 g 0 m
    else
      ebX3_isFewer_15 g m
def eX3_isFewer (g : Shp) (x1 : Int) (m : Mem) : Option (Int × Mem) := ebX3_isFewer_0 g x1 m
def ebX3_keepTrial_0 (g : Shp) (x1 x2 : Int) (m : Mem) : Option (Int × Mem) :=
  ck ((0 : Int) ≤ 0 ∧ (0 : Int) ≤ 0 ∧ (0 : Int) ≤ x1 ∧ 0 + x1 ≤ (3 : Int) ∧ 0 + x1 ≤ (3 : Int)) <|
  vm (mcp m 145 0 146 0 x1) fun m4 =>
  vm (ms m4 143 5 x1) fun m5 =>
  vm (ms m5 143 6 x2) fun m6 =>
  vm (ms m6 143 7 1) fun m7 =>
  some (0, m7)
def eX3_keepTrial (g : Shp) (x1 x2 : Int) (m : Mem) : Option (Int × Mem) := ebX3_keepTrial_0 g x1 x2 m
def ebX4_dropOldest_9 (g : Shp) (x1 x2 : Int) (m : Mem) : Option (Int × (Int × Mem)) :=
  if 6 ≤ x2 then
    some (1, (x2, m))
  else
    ck ((0 : Int) ≤ x2 ∧ x2 < 6) <|
    ck ((0 : Int) ≤ (w32 (x2 - 1)) ∧ (w32 (x2 - 1)) < 6) <|
    vm (ms m 94 (w32 (x2 - 1)) (m 94 x2)) fun m7 =>
    vv (w32 (x2 + 1)) fun y8 =>
    some (0, (y8, m7))
def eBX4_dropOldest_9 (g : Shp) (x1 : Int) (q : (Int × Mem)) : Option (Int × (Int × Mem)) := ebX4_dropOldest_9 g x1 q.1 q.2
def ebX4_dropOldest_35 (g : Shp) (x1 : Int) (m : Mem) : Option (Int × Mem) :=
  ck ((0 : Int) ≤ 5 ∧ 5 < (6 : Int)) <|
  vm (ms m 94 5 x1) fun m3 =>
  vm (ms m3 93 1 (w32 ((m3 93 1) - 1))) fun m4 =>
  some (0, m4)
def ebX4_dropOldest_0 (g : Shp) (m : Mem) : Option (Int × Mem) :=
  ck ((0 : Int) ≤ 0 ∧ 0 < (6 : Int)) <|
  bdl (iter (eBX4_dropOldest_9 g (m 94 0)) 100000 (1, m)) fun cv5 sv6 =>
  ebX4_dropOldest_35 g (m 94 0) sv6.2
def eX4_dropOldest (g : Shp) (m : Mem) : Option (Int × Mem) := ebX4_dropOldest_0 g m
def ebX4_keep_13 (g : Shp) (x1 : Int) (m : Mem) : Option (Int × Mem) :=
  ck ((0 : Int) ≤ (m 93 1) ∧ (m 93 1) < 6) <|
  bd2 (eX1_copy g (m 94 (m 93 1)) x1 m) fun v4 m5 =>
  vm (ms m5 93 1 (w32 ((m5 93 1) + 1))) fun m7 =>
  some (0, m7)
def ebX4_keep_0 (g : Shp) (x1 : Int) (m : Mem) : Option (Int × Mem) :=
  if (m 93 1) = 6 then
    bd2 (eX4_dropOldest g m) fun v2 m3 =>
    ebX4_keep_13 g x1 m3
  else
    ebX4_keep_13 g x1 m
def eX4_keep (g : Shp) (x1 : Int) (m : Mem) : Option (Int × Mem) := ebX4_keep_0 g x1 m
def ebX4_giveBack_30 (g : Shp) (m : Mem) : Option (Int × Mem) :=
  some (0, m)
def ebX4_giveBack_0 (g : Shp) (x1 : Int) (m : Mem) : Option (Int × Mem) :=
  if (m 93 1) ≤ 0 then
    ebX4_giveBack_30 g m
  else
    vm (ms m 93 1 (w32 ((m 93 1) - 1))) fun m2 =>
    ck ((0 : Int) ≤ (m2 93 1) ∧ (m2 93 1) < 6) <|
    bd2 (eX1_copy g x1 (m2 94 (m2 93 1)) m2) fun v6 m7 =>
    ebX4_giveBack_30 g m7
def eX4_giveBack (g : Shp) (x1 : Int) (m : Mem) : Option (Int × Mem) := ebX4_giveBack_0 g x1 m
def ebX5_begin_0 (g : Shp) (x0 x1 x2 : Int) (m : Mem) : Option (Int × Mem) :=
  vm (ms m x0 2 0) fun m1 =>
  vm (ms m1 x0 3 0) fun m2 =>
  vm (ms m2 x0 4 x1) fun m3 =>
  vm (ms m3 x0 5 x2) fun m4 =>
  some (0, m4)
def eX5_begin (g : Shp) (x0 x1 x2 : Int) (m : Mem) : Option (Int × Mem) := ebX5_begin_0 g x0 x1 x2 m
def ebX10_isOnGround_25 (g : Shp) (z0 : Int) (m : Mem) : Option (Int × Mem) :=
  ck (z0 = 0 ∨ z0 = 1) <|
  some (z0, m)
def ebX10_isOnGround_24 (g : Shp) (m : Mem) : Option (Int × Mem) :=
  ebX10_isOnGround_25 g 0 m
def ebX10_isOnGround_0 (g : Shp) (x0 x1 : Int) (m : Mem) : Option (Int × Mem) :=
  if x0 < 0 then
    ebX10_isOnGround_24 g m
  else
    if 20 ≤ x0 then
      ebX10_isOnGround_24 g m
    else
      if x1 < 0 then
        ebX10_isOnGround_24 g m
      else
        if 20 ≤ x1 then
          ebX10_isOnGround_24 g m
        else
          ebX10_isOnGround_25 g 1 m
def eX10_isOnGround (g : Shp) (x0 x1 : Int) (m : Mem) : Option (Int × Mem) := ebX10_isOnGround_0 g x0 x1 m
def ebX5_go_73 (g : Shp) (x0 x1 x2 x3 x4 x5 x6 x7 : Int) (m : Mem) : Option (Int × (Int × Mem)) :=
  if 60 ≤ (m x0 2) then
    some (1, (x7, m))
  else
    bd2 (eX10_isOnGround g (m x0 4) (m x0 5) m) fun v2 m3 =>
    if v2 = 0 then
      some (1, (x7, m3))
    else
      vv (w32 ((w32 (20 * (m3 x0 5))) + (m3 x0 4))) fun y6 =>
      ck ((0 : Int) ≤ y6 ∧ y6 < gl g x4) <|
      if (bAnd (m3 x4 y6) x5) = 0 then
        ck ((0 : Int) ≤ y6 ∧ y6 < gl g x4) <|
        ck ((0 : Int) ≤ y6 ∧ y6 < gl g x4) <|
        vm (ms m3 x4 y6 (bOr (m3 x4 y6) x5)) fun m11 =>
        ck ((0 : Int) ≤ (m11 x0 2) ∧ (m11 x0 2) < 60) <|
        vm (ms m11 (x0 + 1) (m11 x0 2) y6) fun m14 =>
        vm (ms m14 x0 2 (w32 ((m14 x0 2) + 1))) fun m15 =>
        vv (w32 (x7 + 1)) fun y16 =>
        some (0, (y16, m15))
      else
        some (2, (x7, m3))
def ebX5_go_40 (g : Shp) (x0 x1 x2 x3 x4 x5 x6 x7 : Int) (m : Mem) : Option (Int × (Int × Mem)) :=
  if x3 ≤ x7 then
    some (3, (x7, m))
  else
    if (m x0 2) ≤ 0 then
      ebX5_go_73 g x0 x1 x2 x3 x4 x5 x6 x7 m
    else
      vm (ms m x0 4 (w32 ((m x0 4) + x1))) fun m3 =>
      vm (ms m3 x0 5 (w32 ((m3 x0 5) + x2))) fun m4 =>
      ebX5_go_73 g x0 x1 x2 x3 x4 x5 x6 x7 m4
def eBX5_go_40 (g : Shp) (x0 x1 x2 x3 x4 x5 x6 : Int) (q : (Int × Mem)) : Option (Int × (Int × Mem)) := ebX5_go_40 g x0 x1 x2 x3 x4 x5 x6 q.1 q.2
def ebX5_go_35 (g : Shp) (m : Mem) : Option (Int × Mem) :=
  some (0, m)
def ebX5_go_96 (g : Shp) (m : Mem) : Option (Int × Mem) :=
  some (0, m)
def ebX5_go_123 (g : Shp) (m : Mem) : Option (Int × Mem) :=
  some (0, m)
def ebX5_go_162 (g : Shp) (x0 x6 : Int) (m : Mem) : Option (Int × Mem) :=
  ck (x6 = 0 ∨ x6 = 1) <|
  vm (ms m x0 6 x6) fun m2 =>
  ck ((0 : Int) ≤ (m2 x0 3) ∧ (m2 x0 3) < 5) <|
  vm (ms m2 (x0 + 2) (m2 x0 3) (w32 ((m2 x0 2) - 1))) fun m5 =>
  vm (ms m5 x0 3 (w32 ((m5 x0 3) + 1))) fun m6 =>
  some (1, m6)
def ebX5_go_37 (g : Shp) (x0 x1 x2 x3 x4 x5 x6 : Int) (m : Mem) : Option (Int × Mem) :=
  bdl (iter (eBX5_go_40 g x0 x1 x2 x3 x4 x5 x6) 100000 (0, m)) fun cv1 sv2 =>
  if cv1 = 1 then
    ebX5_go_96 g sv2.2
  else
    if cv1 = 2 then
      ebX5_go_123 g sv2.2
    else
      ebX5_go_162 g x0 x6 sv2.2
def ebX5_go_9 (g : Shp) (x0 x1 x2 x3 x4 x5 z0 : Int) (m : Mem) : Option (Int × Mem) :=
  if 5 ≤ (m x0 3) then
    ebX5_go_35 g m
  else
    if (m x0 3) ≤ 0 then
      ebX5_go_37 g x0 x1 x2 x3 x4 x5 z0 m
    else
      if z0 = (m x0 6) then
        ebX5_go_35 g m
      else
        ebX5_go_37 g x0 x1 x2 x3 x4 x5 z0 m
def ebX5_go_0 (g : Shp) (x0 x1 x2 x3 x4 x5 : Int) (m : Mem) : Option (Int × Mem) :=
  if x1 = 0 then
    ebX5_go_9 g x0 x1 x2 x3 x4 x5 0 m
  else
    ebX5_go_9 g x0 x1 x2 x3 x4 x5 1 m
def eX5_go (g : Shp) (x0 x1 x2 x3 x4 x5 : Int) (m : Mem) : Option (Int × Mem) := ebX5_go_0 g x0 x1 x2 x3 x4 x5 m
set_option maxRecDepth 20000 in
theorem qX2_add_65 {g : Shp} {m : Mem} {x0 x1 x2 x3 x4 x5 : Int} (h : Sh g m) (hx0 : gk g x0 = 3) : bX2_add_65 g x0 x1 x2 x3 x4 x5 m = ebX2_add_65 g x0 x1 x2 x3 x4 x5 m := by
  unfold bX2_add_65 ebX2_add_65
  refine vv_c (fun y1 ey1 => ?_)
  rfl
theorem nX2_add_65 {g : Shp} {m : Mem} {x0 x1 x2 x3 x4 x5 : Int} (h : Sh g m) (hx0 : gk g x0 = 3) {c1 : Int} {s1 : (Int × Mem)} (hF : ebX2_add_65 g x0 x1 x2 x3 x4 x5 m = some (c1, s1)) : Sh g s1.2 := by
  unfold ebX2_add_65 at hF
  obtain ⟨y1, ey1, hF⟩ := vv_ok hF
  cases hF
  exact h
set_option maxRecDepth 20000 in
theorem qX2_add_31 {g : Shp} {m : Mem} {x0 x1 x2 x3 x4 x5 : Int} (h : Sh g m) (hx0 : gk g x0 = 3) : bX2_add_31 g x0 x1 x2 x3 x4 x5 m = ebX2_add_31 g x0 x1 x2 x3 x4 x5 m := by
  unfold bX2_add_31 ebX2_add_31
  refine if_c (fun hc1 => ?_) (fun hc1 => ?_)
  · rfl
  · have k2 := u3_1 h (r := x0) (q := x0 + 2) hx0 rfl
    rewrite [k2.1, ck_t k2.2.1]
    try rewrite [k2.2.2]
    refine ck_c (fun i3 => ?_)
    refine if_c (fun hc4 => ?_) (fun hc4 => ?_)
    · exact qX2_add_65 h hx0
    · refine bd2_q (qX2_canBeTakenFrom h hx0) (fun v5 m6 h7 => ?_)
      have hm6 := nX2_canBeTakenFrom h hx0 ((qX2_canBeTakenFrom h hx0).symm.trans h7)
      refine if_c (fun hc8 => ?_) (fun hc8 => ?_)
      · exact qX2_add_65 hm6 hx0
      · rfl
theorem nX2_add_31 {g : Shp} {m : Mem} {x0 x1 x2 x3 x4 x5 : Int} (h : Sh g m) (hx0 : gk g x0 = 3) {c1 : Int} {s1 : (Int × Mem)} (hF : ebX2_add_31 g x0 x1 x2 x3 x4 x5 m = some (c1, s1)) : Sh g s1.2 := by
  unfold ebX2_add_31 at hF
  rcases if_ok hF with ⟨hc1, hF⟩ | ⟨hc1, hF⟩
  · cases hF
    exact h
  · have k2 := u3_1 h (r := x0) (q := x0 + 2) hx0 rfl
    obtain ⟨i3, hF⟩ := ck_ok hF
    rcases if_ok hF with ⟨hc4, hF⟩ | ⟨hc4, hF⟩
    · exact nX2_add_65 h hx0 hF
    · obtain ⟨v5, m6, h7, hF⟩ := bd2_ok hF
      have hm6 := nX2_canBeTakenFrom h hx0 h7
      rcases if_ok hF with ⟨hc8, hF⟩ | ⟨hc8, hF⟩
      · exact nX2_add_65 hm6 hx0 hF
      · cases hF
        exact hm6
theorem nlX2_add_31 {g : Shp} {x0 x1 x2 x3 x4 : Int} (hx0 : gk g x0 = 3) {n : Nat} {s0 s1 : (Int × Mem)} {c1 : Int} (h : Sh g s0.2) (hI : iter (eBX2_add_31 g x0 x1 x2 x3 x4) n s0 = some (c1, s1)) : Sh g s1.2 :=
  iter_inv (B := eBX2_add_31 g x0 x1 x2 x3 x4) (fun q => Sh g q.2) (fun s c s' hs hB => nX2_add_31 hs hx0 hB) n s0 c1 s1 h hI
theorem qlX2_add_31 {g : Shp} {x0 x1 x2 x3 x4 : Int} (hx0 : gk g x0 = 3) {n : Nat} {s0 : (Int × Mem)} (h : Sh g s0.2) : iter (BX2_add_31 g x0 x1 x2 x3 x4) n s0 = iter (eBX2_add_31 g x0 x1 x2 x3 x4) n s0 :=
  iter_eq (B := BX2_add_31 g x0 x1 x2 x3 x4) (E := eBX2_add_31 g x0 x1 x2 x3 x4) (fun q => Sh g q.2) (fun s hs => qX2_add_31 hs hx0) (fun s c s' hs hB => nX2_add_31 hs hx0 ((qX2_add_31 hs hx0).symm.trans hB)) n s0 h
set_option maxRecDepth 20000 in
theorem qX2_add_27 {g : Shp} {m : Mem} (h : Sh g m)  : bX2_add_27 g m = ebX2_add_27 g m := by
  unfold bX2_add_27 ebX2_add_27
  rfl
theorem nX2_add_27 {g : Shp} {m : Mem} (h : Sh g m)  {r : Int} {m' : Mem} (hF : ebX2_add_27 g m = some (r, m')) : Sh g m' := by
  unfold ebX2_add_27 at hF
  cases hF
  exact h
set_option maxRecDepth 20000 in
theorem qX2_add_64 {g : Shp} {m : Mem} (h : Sh g m)  : bX2_add_64 g m = ebX2_add_64 g m := by
  unfold bX2_add_64 ebX2_add_64
  rfl
theorem nX2_add_64 {g : Shp} {m : Mem} (h : Sh g m)  {r : Int} {m' : Mem} (hF : ebX2_add_64 g m = some (r, m')) : Sh g m' := by
  unfold ebX2_add_64 at hF
  cases hF
  exact h
set_option maxRecDepth 20000 in
theorem qX2_add_71 {g : Shp} {m : Mem} {x0 x1 x2 x3 x4 : Int} (h : Sh g m) (hx0 : gk g x0 = 3) : bX2_add_71 g x0 x1 x2 x3 x4 m = ebX2_add_71 g x0 x1 x2 x3 x4 m := by
  unfold bX2_add_71 ebX2_add_71
  have k1 := u3_0 h (r := x0) (q := x0 + 1) hx0 rfl
  rewrite [k1.1, ck_t k1.2.1]
  try rewrite [k1.2.2]
  refine ck_c (fun i2 => ?_)
  refine vm_c (fun m3 em3 => ?_)
  have hm3 := h.s em3 (nRa k1.2.1 (by decide))
  have k4 := u3_0 hm3 (r := x0) (q := x0 + 1) hx0 rfl
  rewrite [k4.1, ck_t k4.2.1]
  try rewrite [k4.2.2]
  refine ck_c (fun i5 => ?_)
  refine vm_c (fun m6 em6 => ?_)
  have hm6 := hm3.s em6 (nRa k4.2.1 (by decide))
  have k7 := u3_0 hm6 (r := x0) (q := x0 + 1) hx0 rfl
  rewrite [k7.1, ck_t k7.2.1]
  try rewrite [k7.2.2]
  refine ck_c (fun i8 => ?_)
  refine vm_c (fun m9 em9 => ?_)
  have hm9 := hm6.s em9 (nRa k7.2.1 (by decide))
  have k10 := u3_1 hm9 (r := x0) (q := x0 + 2) hx0 rfl
  rewrite [k10.1, ck_t k10.2.1]
  try rewrite [k10.2.2]
  refine ck_c (fun i11 => ?_)
  refine vm_c (fun m12 em12 => ?_)
  have hm12 := hm9.s em12 (nRa k10.2.1 (by decide))
  refine vm_c (fun m13 em13 => ?_)
  have hm13 := hm12.s em13 (nRf hx0 (by decide) (by decide))
  rfl
theorem nX2_add_71 {g : Shp} {m : Mem} {x0 x1 x2 x3 x4 : Int} (h : Sh g m) (hx0 : gk g x0 = 3) {r : Int} {m' : Mem} (hF : ebX2_add_71 g x0 x1 x2 x3 x4 m = some (r, m')) : Sh g m' := by
  unfold ebX2_add_71 at hF
  have k1 := u3_0 h (r := x0) (q := x0 + 1) hx0 rfl
  obtain ⟨i2, hF⟩ := ck_ok hF
  obtain ⟨m3, em3, hF⟩ := vm_ok hF
  have hm3 := h.s em3 (nRa k1.2.1 (by decide))
  have k4 := u3_0 hm3 (r := x0) (q := x0 + 1) hx0 rfl
  obtain ⟨i5, hF⟩ := ck_ok hF
  obtain ⟨m6, em6, hF⟩ := vm_ok hF
  have hm6 := hm3.s em6 (nRa k4.2.1 (by decide))
  have k7 := u3_0 hm6 (r := x0) (q := x0 + 1) hx0 rfl
  obtain ⟨i8, hF⟩ := ck_ok hF
  obtain ⟨m9, em9, hF⟩ := vm_ok hF
  have hm9 := hm6.s em9 (nRa k7.2.1 (by decide))
  have k10 := u3_1 hm9 (r := x0) (q := x0 + 2) hx0 rfl
  obtain ⟨i11, hF⟩ := ck_ok hF
  obtain ⟨m12, em12, hF⟩ := vm_ok hF
  have hm12 := hm9.s em12 (nRa k10.2.1 (by decide))
  obtain ⟨m13, em13, hF⟩ := vm_ok hF
  have hm13 := hm12.s em13 (nRf hx0 (by decide) (by decide))
  cases hF
  exact hm13
set_option maxRecDepth 20000 in
theorem qX2_add_0 {g : Shp} {m : Mem} {x0 x1 x2 x3 x4 : Int} (h : Sh g m) (hx0 : gk g x0 = 3) : bX2_add_0 g x0 x1 x2 x3 x4 m = ebX2_add_0 g x0 x1 x2 x3 x4 m := by
  unfold bX2_add_0 ebX2_add_0
  refine if_c (fun hc1 => ?_) (fun hc1 => ?_)
  · exact qX2_add_27 h
  · refine if_c (fun hc2 => ?_) (fun hc2 => ?_)
    · exact qX2_add_27 h
    · refine if_c (fun hc3 => ?_) (fun hc3 => ?_)
      · exact qX2_add_27 h
      · refine if_c (fun hc4 => ?_) (fun hc4 => ?_)
        · refine bdl_q (qlX2_add_31 hx0 (n := 100000) (s0 := (0, m)) h) (fun cv5 sv6 hi7 => ?_)
          have h8 := nlX2_add_31 hx0 (s0 := (0, m)) h ((qlX2_add_31 hx0 (n := 100000) (s0 := (0, m)) h).symm.trans hi7)
          refine if_c (fun hc9 => ?_) (fun hc9 => ?_)
          · exact qX2_add_64 h8
          · exact qX2_add_71 h8 hx0
        · exact qX2_add_27 h
theorem nX2_add_0 {g : Shp} {m : Mem} {x0 x1 x2 x3 x4 : Int} (h : Sh g m) (hx0 : gk g x0 = 3) {r : Int} {m' : Mem} (hF : ebX2_add_0 g x0 x1 x2 x3 x4 m = some (r, m')) : Sh g m' := by
  unfold ebX2_add_0 at hF
  rcases if_ok hF with ⟨hc1, hF⟩ | ⟨hc1, hF⟩
  · exact nX2_add_27 h  hF
  · rcases if_ok hF with ⟨hc2, hF⟩ | ⟨hc2, hF⟩
    · exact nX2_add_27 h  hF
    · rcases if_ok hF with ⟨hc3, hF⟩ | ⟨hc3, hF⟩
      · exact nX2_add_27 h  hF
      · rcases if_ok hF with ⟨hc4, hF⟩ | ⟨hc4, hF⟩
        · obtain ⟨cv5, sv6, hi7, hF⟩ := bdl_ok hF
          have h8 := nlX2_add_31 hx0 (s0 := (0, m)) h hi7
          rcases if_ok hF with ⟨hc9, hF⟩ | ⟨hc9, hF⟩
          · exact nX2_add_64 h8  hF
          · exact nX2_add_71 h8 hx0 hF
        · exact nX2_add_27 h  hF
theorem qX2_add {g : Shp} {m : Mem} {x0 x1 x2 x3 x4 : Int} (h : Sh g m) (hx0 : gk g x0 = 3) : fX2_add g x0 x1 x2 x3 x4 m = eX2_add g x0 x1 x2 x3 x4 m := qX2_add_0 h hx0
theorem nX2_add {g : Shp} {m : Mem} {x0 x1 x2 x3 x4 : Int} (h : Sh g m) (hx0 : gk g x0 = 3) {r : Int} {m' : Mem} (hF : eX2_add g x0 x1 x2 x3 x4 m = some (r, m')) : Sh g m' := nX2_add_0 h hx0 hF
set_option maxRecDepth 20000 in
theorem qX2_listCut_105 {g : Shp} {m : Mem} {x0 x1 x2 x3 x4 x5 x6 x7 x8 x9 x10 : Int} (h : Sh g m) (hx0 : gk g x0 = 3) (hx7 : gk g x7 = 20) : bX2_listCut_105 g x0 x1 x2 x3 x4 x5 x6 x7 x8 x9 x10 m = ebX2_listCut_105 g x0 x1 x2 x3 x4 x5 x6 x7 x8 x9 x10 m := by
  unfold bX2_listCut_105 ebX2_listCut_105
  refine vv_c (fun y1 ey1 => ?_)
  rfl
theorem nX2_listCut_105 {g : Shp} {m : Mem} {x0 x1 x2 x3 x4 x5 x6 x7 x8 x9 x10 : Int} (h : Sh g m) (hx0 : gk g x0 = 3) (hx7 : gk g x7 = 20) {c1 : Int} {s1 : (Int × Mem)} (hF : ebX2_listCut_105 g x0 x1 x2 x3 x4 x5 x6 x7 x8 x9 x10 m = some (c1, s1)) : Sh g s1.2 := by
  unfold ebX2_listCut_105 at hF
  obtain ⟨y1, ey1, hF⟩ := vv_ok hF
  cases hF
  exact h
set_option maxRecDepth 20000 in
theorem qX2_listCut_29 {g : Shp} {m : Mem} {x0 x1 x2 x3 x4 x5 x6 x7 x8 x9 x10 : Int} (h : Sh g m) (hx0 : gk g x0 = 3) (hx7 : gk g x7 = 20) : bX2_listCut_29 g x0 x1 x2 x3 x4 x5 x6 x7 x8 x9 x10 m = ebX2_listCut_29 g x0 x1 x2 x3 x4 x5 x6 x7 x8 x9 x10 m := by
  unfold bX2_listCut_29 ebX2_listCut_29
  refine if_c (fun hc1 => ?_) (fun hc1 => ?_)
  · rfl
  · refine vv_c (fun y2 ey2 => ?_)
    refine ck_c (fun i3 => ?_)
    refine ck_c (fun i4 => ?_)
    refine ck_c (fun i5 => ?_)
    refine vv_c (fun y6 ey6 => ?_)
    refine if_c (fun hc7 => ?_) (fun hc7 => ?_)
    · exact qX2_listCut_105 h hx0 hx7
    · refine bd2_q (qX2_add h hx0) (fun v8 m9 h10 => ?_)
      have hm9 := nX2_add h hx0 ((qX2_add h hx0).symm.trans h10)
      exact qX2_listCut_105 hm9 hx0 hx7
theorem nX2_listCut_29 {g : Shp} {m : Mem} {x0 x1 x2 x3 x4 x5 x6 x7 x8 x9 x10 : Int} (h : Sh g m) (hx0 : gk g x0 = 3) (hx7 : gk g x7 = 20) {c1 : Int} {s1 : (Int × Mem)} (hF : ebX2_listCut_29 g x0 x1 x2 x3 x4 x5 x6 x7 x8 x9 x10 m = some (c1, s1)) : Sh g s1.2 := by
  unfold ebX2_listCut_29 at hF
  rcases if_ok hF with ⟨hc1, hF⟩ | ⟨hc1, hF⟩
  · cases hF
    exact h
  · obtain ⟨y2, ey2, hF⟩ := vv_ok hF
    obtain ⟨i3, hF⟩ := ck_ok hF
    obtain ⟨i4, hF⟩ := ck_ok hF
    obtain ⟨i5, hF⟩ := ck_ok hF
    obtain ⟨y6, ey6, hF⟩ := vv_ok hF
    rcases if_ok hF with ⟨hc7, hF⟩ | ⟨hc7, hF⟩
    · exact nX2_listCut_105 h hx0 hx7 hF
    · obtain ⟨v8, m9, h10, hF⟩ := bd2_ok hF
      have hm9 := nX2_add h hx0 h10
      exact nX2_listCut_105 hm9 hx0 hx7 hF
theorem nlX2_listCut_29 {g : Shp} {x0 x1 x2 x3 x4 x5 x6 x7 x8 x9 : Int} (hx0 : gk g x0 = 3) (hx7 : gk g x7 = 20) {n : Nat} {s0 s1 : (Int × Mem)} {c1 : Int} (h : Sh g s0.2) (hI : iter (eBX2_listCut_29 g x0 x1 x2 x3 x4 x5 x6 x7 x8 x9) n s0 = some (c1, s1)) : Sh g s1.2 :=
  iter_inv (B := eBX2_listCut_29 g x0 x1 x2 x3 x4 x5 x6 x7 x8 x9) (fun q => Sh g q.2) (fun s c s' hs hB => nX2_listCut_29 hs hx0 hx7 hB) n s0 c1 s1 h hI
theorem qlX2_listCut_29 {g : Shp} {x0 x1 x2 x3 x4 x5 x6 x7 x8 x9 : Int} (hx0 : gk g x0 = 3) (hx7 : gk g x7 = 20) {n : Nat} {s0 : (Int × Mem)} (h : Sh g s0.2) : iter (BX2_listCut_29 g x0 x1 x2 x3 x4 x5 x6 x7 x8 x9) n s0 = iter (eBX2_listCut_29 g x0 x1 x2 x3 x4 x5 x6 x7 x8 x9) n s0 :=
  iter_eq (B := BX2_listCut_29 g x0 x1 x2 x3 x4 x5 x6 x7 x8 x9) (E := eBX2_listCut_29 g x0 x1 x2 x3 x4 x5 x6 x7 x8 x9) (fun q => Sh g q.2) (fun s hs => qX2_listCut_29 hs hx0 hx7) (fun s c s' hs hB => nX2_listCut_29 hs hx0 hx7 ((qX2_listCut_29 hs hx0 hx7).symm.trans hB)) n s0 h
set_option maxRecDepth 20000 in
theorem qX2_listCut_111 {g : Shp} {m : Mem} {x0 x1 x2 x3 x4 x5 x6 x7 x8 x9 : Int} (h : Sh g m) (hx0 : gk g x0 = 3) (hx7 : gk g x7 = 20) : bX2_listCut_111 g x0 x1 x2 x3 x4 x5 x6 x7 x8 x9 m = ebX2_listCut_111 g x0 x1 x2 x3 x4 x5 x6 x7 x8 x9 m := by
  unfold bX2_listCut_111 ebX2_listCut_111
  refine vv_c (fun y1 ey1 => ?_)
  rfl
theorem nX2_listCut_111 {g : Shp} {m : Mem} {x0 x1 x2 x3 x4 x5 x6 x7 x8 x9 : Int} (h : Sh g m) (hx0 : gk g x0 = 3) (hx7 : gk g x7 = 20) {c1 : Int} {s1 : (Int × Mem)} (hF : ebX2_listCut_111 g x0 x1 x2 x3 x4 x5 x6 x7 x8 x9 m = some (c1, s1)) : Sh g s1.2 := by
  unfold ebX2_listCut_111 at hF
  obtain ⟨y1, ey1, hF⟩ := vv_ok hF
  cases hF
  exact h
set_option maxRecDepth 20000 in
theorem qX2_listCut_19 {g : Shp} {m : Mem} {x0 x1 x2 x3 x4 x5 x6 x7 x8 x9 : Int} (h : Sh g m) (hx0 : gk g x0 = 3) (hx7 : gk g x7 = 20) : bX2_listCut_19 g x0 x1 x2 x3 x4 x5 x6 x7 x8 x9 m = ebX2_listCut_19 g x0 x1 x2 x3 x4 x5 x6 x7 x8 x9 m := by
  unfold bX2_listCut_19 ebX2_listCut_19
  refine if_c (fun hc1 => ?_) (fun hc1 => ?_)
  · rfl
  · refine bdl_q (qlX2_listCut_29 hx0 hx7 (n := 100000) (s0 := (0, m)) h) (fun cv2 sv3 hi4 => ?_)
    have h5 := nlX2_listCut_29 hx0 hx7 (s0 := (0, m)) h ((qlX2_listCut_29 hx0 hx7 (n := 100000) (s0 := (0, m)) h).symm.trans hi4)
    exact qX2_listCut_111 h5 hx0 hx7
theorem nX2_listCut_19 {g : Shp} {m : Mem} {x0 x1 x2 x3 x4 x5 x6 x7 x8 x9 : Int} (h : Sh g m) (hx0 : gk g x0 = 3) (hx7 : gk g x7 = 20) {c1 : Int} {s1 : (Int × Mem)} (hF : ebX2_listCut_19 g x0 x1 x2 x3 x4 x5 x6 x7 x8 x9 m = some (c1, s1)) : Sh g s1.2 := by
  unfold ebX2_listCut_19 at hF
  rcases if_ok hF with ⟨hc1, hF⟩ | ⟨hc1, hF⟩
  · cases hF
    exact h
  · obtain ⟨cv2, sv3, hi4, hF⟩ := bdl_ok hF
    have h5 := nlX2_listCut_29 hx0 hx7 (s0 := (0, m)) h hi4
    exact nX2_listCut_111 h5 hx0 hx7 hF
theorem nlX2_listCut_19 {g : Shp} {x0 x1 x2 x3 x4 x5 x6 x7 x8 : Int} (hx0 : gk g x0 = 3) (hx7 : gk g x7 = 20) {n : Nat} {s0 s1 : (Int × Mem)} {c1 : Int} (h : Sh g s0.2) (hI : iter (eBX2_listCut_19 g x0 x1 x2 x3 x4 x5 x6 x7 x8) n s0 = some (c1, s1)) : Sh g s1.2 :=
  iter_inv (B := eBX2_listCut_19 g x0 x1 x2 x3 x4 x5 x6 x7 x8) (fun q => Sh g q.2) (fun s c s' hs hB => nX2_listCut_19 hs hx0 hx7 hB) n s0 c1 s1 h hI
theorem qlX2_listCut_19 {g : Shp} {x0 x1 x2 x3 x4 x5 x6 x7 x8 : Int} (hx0 : gk g x0 = 3) (hx7 : gk g x7 = 20) {n : Nat} {s0 : (Int × Mem)} (h : Sh g s0.2) : iter (BX2_listCut_19 g x0 x1 x2 x3 x4 x5 x6 x7 x8) n s0 = iter (eBX2_listCut_19 g x0 x1 x2 x3 x4 x5 x6 x7 x8) n s0 :=
  iter_eq (B := BX2_listCut_19 g x0 x1 x2 x3 x4 x5 x6 x7 x8) (E := eBX2_listCut_19 g x0 x1 x2 x3 x4 x5 x6 x7 x8) (fun q => Sh g q.2) (fun s hs => qX2_listCut_19 hs hx0 hx7) (fun s c s' hs hB => nX2_listCut_19 hs hx0 hx7 ((qX2_listCut_19 hs hx0 hx7).symm.trans hB)) n s0 h
set_option maxRecDepth 20000 in
theorem qX2_listCut_117 {g : Shp} {m : Mem} (h : Sh g m)  : bX2_listCut_117 g m = ebX2_listCut_117 g m := by
  unfold bX2_listCut_117 ebX2_listCut_117
  rfl
theorem nX2_listCut_117 {g : Shp} {m : Mem} (h : Sh g m)  {r : Int} {m' : Mem} (hF : ebX2_listCut_117 g m = some (r, m')) : Sh g m' := by
  unfold ebX2_listCut_117 at hF
  cases hF
  exact h
set_option maxRecDepth 20000 in
theorem qX2_listCut_14 {g : Shp} {m : Mem} {x0 x1 x2 x3 x4 x5 x6 x7 z0 : Int} (h : Sh g m) (hx0 : gk g x0 = 3) (hx7 : gk g x7 = 20) : bX2_listCut_14 g x0 x1 x2 x3 x4 x5 x6 x7 z0 m = ebX2_listCut_14 g x0 x1 x2 x3 x4 x5 x6 x7 z0 m := by
  unfold bX2_listCut_14 ebX2_listCut_14
  refine bdl_q (qlX2_listCut_19 hx0 hx7 (n := 100000) (s0 := (0, m)) h) (fun cv1 sv2 hi3 => ?_)
  have h4 := nlX2_listCut_19 hx0 hx7 (s0 := (0, m)) h ((qlX2_listCut_19 hx0 hx7 (n := 100000) (s0 := (0, m)) h).symm.trans hi3)
  exact qX2_listCut_117 h4 
theorem nX2_listCut_14 {g : Shp} {m : Mem} {x0 x1 x2 x3 x4 x5 x6 x7 z0 : Int} (h : Sh g m) (hx0 : gk g x0 = 3) (hx7 : gk g x7 = 20) {r : Int} {m' : Mem} (hF : ebX2_listCut_14 g x0 x1 x2 x3 x4 x5 x6 x7 z0 m = some (r, m')) : Sh g m' := by
  unfold ebX2_listCut_14 at hF
  obtain ⟨cv1, sv2, hi3, hF⟩ := bdl_ok hF
  have h4 := nlX2_listCut_19 hx0 hx7 (s0 := (0, m)) h hi3
  exact nX2_listCut_117 h4  hF
set_option maxRecDepth 20000 in
theorem qX2_listCut_0 {g : Shp} {m : Mem} {x0 x1 x2 x3 x4 x5 x6 x7 : Int} (h : Sh g m) (hx0 : gk g x0 = 3) (hx7 : gk g x7 = 20) : bX2_listCut_0 g x0 x1 x2 x3 x4 x5 x6 x7 m = ebX2_listCut_0 g x0 x1 x2 x3 x4 x5 x6 x7 m := by
  unfold bX2_listCut_0 ebX2_listCut_0
  refine ck_c (fun i1 => ?_)
  refine if_c (fun hc2 => ?_) (fun hc2 => ?_)
  · exact qX2_listCut_14 h hx0 hx7
  · exact qX2_listCut_14 h hx0 hx7
theorem nX2_listCut_0 {g : Shp} {m : Mem} {x0 x1 x2 x3 x4 x5 x6 x7 : Int} (h : Sh g m) (hx0 : gk g x0 = 3) (hx7 : gk g x7 = 20) {r : Int} {m' : Mem} (hF : ebX2_listCut_0 g x0 x1 x2 x3 x4 x5 x6 x7 m = some (r, m')) : Sh g m' := by
  unfold ebX2_listCut_0 at hF
  obtain ⟨i1, hF⟩ := ck_ok hF
  rcases if_ok hF with ⟨hc2, hF⟩ | ⟨hc2, hF⟩
  · exact nX2_listCut_14 h hx0 hx7 hF
  · exact nX2_listCut_14 h hx0 hx7 hF
theorem qX2_listCut {g : Shp} {m : Mem} {x0 x1 x2 x3 x4 x5 x6 x7 : Int} (h : Sh g m) (hx0 : gk g x0 = 3) (hx7 : gk g x7 = 20) : fX2_listCut g x0 x1 x2 x3 x4 x5 x6 x7 m = eX2_listCut g x0 x1 x2 x3 x4 x5 x6 x7 m := qX2_listCut_0 h hx0 hx7
theorem nX2_listCut {g : Shp} {m : Mem} {x0 x1 x2 x3 x4 x5 x6 x7 : Int} (h : Sh g m) (hx0 : gk g x0 = 3) (hx7 : gk g x7 = 20) {r : Int} {m' : Mem} (hF : eX2_listCut g x0 x1 x2 x3 x4 x5 x6 x7 m = some (r, m')) : Sh g m' := nX2_listCut_0 h hx0 hx7 hF
set_option maxRecDepth 20000 in
theorem qX2_list_97 {g : Shp} {m : Mem} {x0 x1 x2 x3 x4 x5 x6 x7 x8 x10 x11 : Int} (h : Sh g m) (hx0 : gk g x0 = 3) (hx3 : gk g x3 = 20) : bX2_list_97 g x0 x1 x2 x3 x4 x5 x6 x7 x8 x10 x11 m = ebX2_list_97 g x0 x1 x2 x3 x4 x5 x6 x7 x8 x10 x11 m := by
  unfold bX2_list_97 ebX2_list_97
  refine if_c (fun hc1 => ?_) (fun hc1 => ?_)
  · rfl
  · refine if_c (fun hc2 => ?_) (fun hc2 => ?_)
    · rfl
    · refine bd2_q (qX2_listCut h hx0 hx3) (fun v3 m4 h5 => ?_)
      have hm4 := nX2_listCut h hx0 hx3 ((qX2_listCut h hx0 hx3).symm.trans h5)
      refine ck_c (fun i6 => ?_)
      refine vv_c (fun y7 ey7 => ?_)
      refine vv_c (fun y8 ey8 => ?_)
      rfl
theorem nX2_list_97 {g : Shp} {m : Mem} {x0 x1 x2 x3 x4 x5 x6 x7 x8 x10 x11 : Int} (h : Sh g m) (hx0 : gk g x0 = 3) (hx3 : gk g x3 = 20) {c1 : Int} {s1 : (Int × Int × Mem)} (hF : ebX2_list_97 g x0 x1 x2 x3 x4 x5 x6 x7 x8 x10 x11 m = some (c1, s1)) : Sh g s1.2.2 := by
  unfold ebX2_list_97 at hF
  rcases if_ok hF with ⟨hc1, hF⟩ | ⟨hc1, hF⟩
  · cases hF
    exact h
  · rcases if_ok hF with ⟨hc2, hF⟩ | ⟨hc2, hF⟩
    · cases hF
      exact h
    · obtain ⟨v3, m4, h5, hF⟩ := bd2_ok hF
      have hm4 := nX2_listCut h hx0 hx3 h5
      obtain ⟨i6, hF⟩ := ck_ok hF
      obtain ⟨y7, ey7, hF⟩ := vv_ok hF
      obtain ⟨y8, ey8, hF⟩ := vv_ok hF
      cases hF
      exact hm4
theorem nlX2_list_97 {g : Shp} {x0 x1 x2 x3 x4 x5 x6 x7 x8 : Int} (hx0 : gk g x0 = 3) (hx3 : gk g x3 = 20) {n : Nat} {s0 s1 : (Int × Int × Mem)} {c1 : Int} (h : Sh g s0.2.2) (hI : iter (eBX2_list_97 g x0 x1 x2 x3 x4 x5 x6 x7 x8) n s0 = some (c1, s1)) : Sh g s1.2.2 :=
  iter_inv (B := eBX2_list_97 g x0 x1 x2 x3 x4 x5 x6 x7 x8) (fun q => Sh g q.2.2) (fun s c s' hs hB => nX2_list_97 hs hx0 hx3 hB) n s0 c1 s1 h hI
theorem qlX2_list_97 {g : Shp} {x0 x1 x2 x3 x4 x5 x6 x7 x8 : Int} (hx0 : gk g x0 = 3) (hx3 : gk g x3 = 20) {n : Nat} {s0 : (Int × Int × Mem)} (h : Sh g s0.2.2) : iter (BX2_list_97 g x0 x1 x2 x3 x4 x5 x6 x7 x8) n s0 = iter (eBX2_list_97 g x0 x1 x2 x3 x4 x5 x6 x7 x8) n s0 :=
  iter_eq (B := BX2_list_97 g x0 x1 x2 x3 x4 x5 x6 x7 x8) (E := eBX2_list_97 g x0 x1 x2 x3 x4 x5 x6 x7 x8) (fun q => Sh g q.2.2) (fun s hs => qX2_list_97 hs hx0 hx3) (fun s c s' hs hB => nX2_list_97 hs hx0 hx3 ((qX2_list_97 hs hx0 hx3).symm.trans hB)) n s0 h
set_option maxRecDepth 20000 in
theorem qX2_list_145 {g : Shp} {m : Mem} {x0 x1 x2 x3 x4 x5 x6 x7 x8 : Int} (h : Sh g m) (hx0 : gk g x0 = 3) (hx3 : gk g x3 = 20) : bX2_list_145 g x0 x1 x2 x3 x4 x5 x6 x7 x8 m = ebX2_list_145 g x0 x1 x2 x3 x4 x5 x6 x7 x8 m := by
  unfold bX2_list_145 ebX2_list_145
  refine vv_c (fun y1 ey1 => ?_)
  rfl
theorem nX2_list_145 {g : Shp} {m : Mem} {x0 x1 x2 x3 x4 x5 x6 x7 x8 : Int} (h : Sh g m) (hx0 : gk g x0 = 3) (hx3 : gk g x3 = 20) {c1 : Int} {s1 : (Int × Mem)} (hF : ebX2_list_145 g x0 x1 x2 x3 x4 x5 x6 x7 x8 m = some (c1, s1)) : Sh g s1.2 := by
  unfold ebX2_list_145 at hF
  obtain ⟨y1, ey1, hF⟩ := vv_ok hF
  cases hF
  exact h
set_option maxRecDepth 20000 in
theorem qX2_list_52 {g : Shp} {m : Mem} {x0 x1 x2 x3 x4 x5 x6 x7 x8 : Int} (h : Sh g m) (hx0 : gk g x0 = 3) (hx3 : gk g x3 = 20) : bX2_list_52 g x0 x1 x2 x3 x4 x5 x6 x7 x8 m = ebX2_list_52 g x0 x1 x2 x3 x4 x5 x6 x7 x8 m := by
  unfold bX2_list_52 ebX2_list_52
  refine if_c (fun hc1 => ?_) (fun hc1 => ?_)
  · rfl
  · refine ck_c (fun i2 => ?_)
    refine ck_c (fun i3 => ?_)
    refine vv_c (fun y4 ey4 => ?_)
    refine vv_c (fun y5 ey5 => ?_)
    refine bdl_q (qlX2_list_97 hx0 hx3 (n := 100000) (s0 := (y5, 0, m)) h) (fun cv6 sv7 hi8 => ?_)
    have h9 := nlX2_list_97 hx0 hx3 (s0 := (y5, 0, m)) h ((qlX2_list_97 hx0 hx3 (n := 100000) (s0 := (y5, 0, m)) h).symm.trans hi8)
    exact qX2_list_145 h9 hx0 hx3
theorem nX2_list_52 {g : Shp} {m : Mem} {x0 x1 x2 x3 x4 x5 x6 x7 x8 : Int} (h : Sh g m) (hx0 : gk g x0 = 3) (hx3 : gk g x3 = 20) {c1 : Int} {s1 : (Int × Mem)} (hF : ebX2_list_52 g x0 x1 x2 x3 x4 x5 x6 x7 x8 m = some (c1, s1)) : Sh g s1.2 := by
  unfold ebX2_list_52 at hF
  rcases if_ok hF with ⟨hc1, hF⟩ | ⟨hc1, hF⟩
  · cases hF
    exact h
  · obtain ⟨i2, hF⟩ := ck_ok hF
    obtain ⟨i3, hF⟩ := ck_ok hF
    obtain ⟨y4, ey4, hF⟩ := vv_ok hF
    obtain ⟨y5, ey5, hF⟩ := vv_ok hF
    obtain ⟨cv6, sv7, hi8, hF⟩ := bdl_ok hF
    have h9 := nlX2_list_97 hx0 hx3 (s0 := (y5, 0, m)) h hi8
    exact nX2_list_145 h9 hx0 hx3 hF
theorem nlX2_list_52 {g : Shp} {x0 x1 x2 x3 x4 x5 x6 x7 : Int} (hx0 : gk g x0 = 3) (hx3 : gk g x3 = 20) {n : Nat} {s0 s1 : (Int × Mem)} {c1 : Int} (h : Sh g s0.2) (hI : iter (eBX2_list_52 g x0 x1 x2 x3 x4 x5 x6 x7) n s0 = some (c1, s1)) : Sh g s1.2 :=
  iter_inv (B := eBX2_list_52 g x0 x1 x2 x3 x4 x5 x6 x7) (fun q => Sh g q.2) (fun s c s' hs hB => nX2_list_52 hs hx0 hx3 hB) n s0 c1 s1 h hI
theorem qlX2_list_52 {g : Shp} {x0 x1 x2 x3 x4 x5 x6 x7 : Int} (hx0 : gk g x0 = 3) (hx3 : gk g x3 = 20) {n : Nat} {s0 : (Int × Mem)} (h : Sh g s0.2) : iter (BX2_list_52 g x0 x1 x2 x3 x4 x5 x6 x7) n s0 = iter (eBX2_list_52 g x0 x1 x2 x3 x4 x5 x6 x7) n s0 :=
  iter_eq (B := BX2_list_52 g x0 x1 x2 x3 x4 x5 x6 x7) (E := eBX2_list_52 g x0 x1 x2 x3 x4 x5 x6 x7) (fun q => Sh g q.2) (fun s hs => qX2_list_52 hs hx0 hx3) (fun s c s' hs hB => nX2_list_52 hs hx0 hx3 ((qX2_list_52 hs hx0 hx3).symm.trans hB)) n s0 h
set_option maxRecDepth 20000 in
theorem qX2_list_151 {g : Shp} {m : Mem} {x0 x1 x2 x3 x4 x5 x6 : Int} (h : Sh g m) (hx0 : gk g x0 = 3) (hx3 : gk g x3 = 20) : bX2_list_151 g x0 x1 x2 x3 x4 x5 x6 m = ebX2_list_151 g x0 x1 x2 x3 x4 x5 x6 m := by
  unfold bX2_list_151 ebX2_list_151
  refine vv_c (fun y1 ey1 => ?_)
  rfl
theorem nX2_list_151 {g : Shp} {m : Mem} {x0 x1 x2 x3 x4 x5 x6 : Int} (h : Sh g m) (hx0 : gk g x0 = 3) (hx3 : gk g x3 = 20) {c1 : Int} {s1 : (Int × Mem)} (hF : ebX2_list_151 g x0 x1 x2 x3 x4 x5 x6 m = some (c1, s1)) : Sh g s1.2 := by
  unfold ebX2_list_151 at hF
  obtain ⟨y1, ey1, hF⟩ := vv_ok hF
  cases hF
  exact h
set_option maxRecDepth 20000 in
theorem qX2_list_47 {g : Shp} {m : Mem} {x0 x1 x2 x3 x4 x5 x6 z0 : Int} (h : Sh g m) (hx0 : gk g x0 = 3) (hx3 : gk g x3 = 20) : bX2_list_47 g x0 x1 x2 x3 x4 x5 x6 z0 m = ebX2_list_47 g x0 x1 x2 x3 x4 x5 x6 z0 m := by
  unfold bX2_list_47 ebX2_list_47
  refine bdl_q (qlX2_list_52 hx0 hx3 (n := 100000) (s0 := (0, m)) h) (fun cv1 sv2 hi3 => ?_)
  have h4 := nlX2_list_52 hx0 hx3 (s0 := (0, m)) h ((qlX2_list_52 hx0 hx3 (n := 100000) (s0 := (0, m)) h).symm.trans hi3)
  exact qX2_list_151 h4 hx0 hx3
theorem nX2_list_47 {g : Shp} {m : Mem} {x0 x1 x2 x3 x4 x5 x6 z0 : Int} (h : Sh g m) (hx0 : gk g x0 = 3) (hx3 : gk g x3 = 20) {c1 : Int} {s1 : (Int × Mem)} (hF : ebX2_list_47 g x0 x1 x2 x3 x4 x5 x6 z0 m = some (c1, s1)) : Sh g s1.2 := by
  unfold ebX2_list_47 at hF
  obtain ⟨cv1, sv2, hi3, hF⟩ := bdl_ok hF
  have h4 := nlX2_list_52 hx0 hx3 (s0 := (0, m)) h hi3
  exact nX2_list_151 h4 hx0 hx3 hF
set_option maxRecDepth 20000 in
theorem qX2_list_45 {g : Shp} {m : Mem} {x0 x1 x2 x3 x4 x5 x6 : Int} (h : Sh g m) (hx0 : gk g x0 = 3) (hx3 : gk g x3 = 20) : bX2_list_45 g x0 x1 x2 x3 x4 x5 x6 m = ebX2_list_45 g x0 x1 x2 x3 x4 x5 x6 m := by
  unfold bX2_list_45 ebX2_list_45
  exact qX2_list_47 h hx0 hx3
theorem nX2_list_45 {g : Shp} {m : Mem} {x0 x1 x2 x3 x4 x5 x6 : Int} (h : Sh g m) (hx0 : gk g x0 = 3) (hx3 : gk g x3 = 20) {c1 : Int} {s1 : (Int × Mem)} (hF : ebX2_list_45 g x0 x1 x2 x3 x4 x5 x6 m = some (c1, s1)) : Sh g s1.2 := by
  unfold ebX2_list_45 at hF
  exact nX2_list_47 h hx0 hx3 hF
set_option maxRecDepth 20000 in
theorem qX2_list_22 {g : Shp} {m : Mem} {x0 x1 x2 x3 x4 x5 x6 : Int} (h : Sh g m) (hx0 : gk g x0 = 3) (hx3 : gk g x3 = 20) : bX2_list_22 g x0 x1 x2 x3 x4 x5 x6 m = ebX2_list_22 g x0 x1 x2 x3 x4 x5 x6 m := by
  unfold bX2_list_22 ebX2_list_22
  refine if_c (fun hc1 => ?_) (fun hc1 => ?_)
  · rfl
  · refine if_c (fun hc2 => ?_) (fun hc2 => ?_)
    · exact qX2_list_45 h hx0 hx3
    · refine if_c (fun hc3 => ?_) (fun hc3 => ?_)
      · exact qX2_list_47 h hx0 hx3
      · exact qX2_list_45 h hx0 hx3
theorem nX2_list_22 {g : Shp} {m : Mem} {x0 x1 x2 x3 x4 x5 x6 : Int} (h : Sh g m) (hx0 : gk g x0 = 3) (hx3 : gk g x3 = 20) {c1 : Int} {s1 : (Int × Mem)} (hF : ebX2_list_22 g x0 x1 x2 x3 x4 x5 x6 m = some (c1, s1)) : Sh g s1.2 := by
  unfold ebX2_list_22 at hF
  rcases if_ok hF with ⟨hc1, hF⟩ | ⟨hc1, hF⟩
  · cases hF
    exact h
  · rcases if_ok hF with ⟨hc2, hF⟩ | ⟨hc2, hF⟩
    · exact nX2_list_45 h hx0 hx3 hF
    · rcases if_ok hF with ⟨hc3, hF⟩ | ⟨hc3, hF⟩
      · exact nX2_list_47 h hx0 hx3 hF
      · exact nX2_list_45 h hx0 hx3 hF
theorem nlX2_list_22 {g : Shp} {x0 x1 x2 x3 x4 x5 : Int} (hx0 : gk g x0 = 3) (hx3 : gk g x3 = 20) {n : Nat} {s0 s1 : (Int × Mem)} {c1 : Int} (h : Sh g s0.2) (hI : iter (eBX2_list_22 g x0 x1 x2 x3 x4 x5) n s0 = some (c1, s1)) : Sh g s1.2 :=
  iter_inv (B := eBX2_list_22 g x0 x1 x2 x3 x4 x5) (fun q => Sh g q.2) (fun s c s' hs hB => nX2_list_22 hs hx0 hx3 hB) n s0 c1 s1 h hI
theorem qlX2_list_22 {g : Shp} {x0 x1 x2 x3 x4 x5 : Int} (hx0 : gk g x0 = 3) (hx3 : gk g x3 = 20) {n : Nat} {s0 : (Int × Mem)} (h : Sh g s0.2) : iter (BX2_list_22 g x0 x1 x2 x3 x4 x5) n s0 = iter (eBX2_list_22 g x0 x1 x2 x3 x4 x5) n s0 :=
  iter_eq (B := BX2_list_22 g x0 x1 x2 x3 x4 x5) (E := eBX2_list_22 g x0 x1 x2 x3 x4 x5) (fun q => Sh g q.2) (fun s hs => qX2_list_22 hs hx0 hx3) (fun s c s' hs hB => nX2_list_22 hs hx0 hx3 ((qX2_list_22 hs hx0 hx3).symm.trans hB)) n s0 h
set_option maxRecDepth 20000 in
theorem qX2_list_157 {g : Shp} {m : Mem} {x0 x1 x2 x3 x4 x5 : Int} (h : Sh g m) (hx0 : gk g x0 = 3) (hx3 : gk g x3 = 20) : bX2_list_157 g x0 x1 x2 x3 x4 x5 m = ebX2_list_157 g x0 x1 x2 x3 x4 x5 m := by
  unfold bX2_list_157 ebX2_list_157
  refine vv_c (fun y1 ey1 => ?_)
  rfl
theorem nX2_list_157 {g : Shp} {m : Mem} {x0 x1 x2 x3 x4 x5 : Int} (h : Sh g m) (hx0 : gk g x0 = 3) (hx3 : gk g x3 = 20) {c1 : Int} {s1 : (Int × Mem)} (hF : ebX2_list_157 g x0 x1 x2 x3 x4 x5 m = some (c1, s1)) : Sh g s1.2 := by
  unfold ebX2_list_157 at hF
  obtain ⟨y1, ey1, hF⟩ := vv_ok hF
  cases hF
  exact h
set_option maxRecDepth 20000 in
theorem qX2_list_13 {g : Shp} {m : Mem} {x0 x1 x2 x3 x4 x5 : Int} (h : Sh g m) (hx0 : gk g x0 = 3) (hx3 : gk g x3 = 20) : bX2_list_13 g x0 x1 x2 x3 x4 x5 m = ebX2_list_13 g x0 x1 x2 x3 x4 x5 m := by
  unfold bX2_list_13 ebX2_list_13
  refine if_c (fun hc1 => ?_) (fun hc1 => ?_)
  · rfl
  · refine bdl_q (qlX2_list_22 hx0 hx3 (n := 100000) (s0 := (0, m)) h) (fun cv2 sv3 hi4 => ?_)
    have h5 := nlX2_list_22 hx0 hx3 (s0 := (0, m)) h ((qlX2_list_22 hx0 hx3 (n := 100000) (s0 := (0, m)) h).symm.trans hi4)
    exact qX2_list_157 h5 hx0 hx3
theorem nX2_list_13 {g : Shp} {m : Mem} {x0 x1 x2 x3 x4 x5 : Int} (h : Sh g m) (hx0 : gk g x0 = 3) (hx3 : gk g x3 = 20) {c1 : Int} {s1 : (Int × Mem)} (hF : ebX2_list_13 g x0 x1 x2 x3 x4 x5 m = some (c1, s1)) : Sh g s1.2 := by
  unfold ebX2_list_13 at hF
  rcases if_ok hF with ⟨hc1, hF⟩ | ⟨hc1, hF⟩
  · cases hF
    exact h
  · obtain ⟨cv2, sv3, hi4, hF⟩ := bdl_ok hF
    have h5 := nlX2_list_22 hx0 hx3 (s0 := (0, m)) h hi4
    exact nX2_list_157 h5 hx0 hx3 hF
theorem nlX2_list_13 {g : Shp} {x0 x1 x2 x3 x4 : Int} (hx0 : gk g x0 = 3) (hx3 : gk g x3 = 20) {n : Nat} {s0 s1 : (Int × Mem)} {c1 : Int} (h : Sh g s0.2) (hI : iter (eBX2_list_13 g x0 x1 x2 x3 x4) n s0 = some (c1, s1)) : Sh g s1.2 :=
  iter_inv (B := eBX2_list_13 g x0 x1 x2 x3 x4) (fun q => Sh g q.2) (fun s c s' hs hB => nX2_list_13 hs hx0 hx3 hB) n s0 c1 s1 h hI
theorem qlX2_list_13 {g : Shp} {x0 x1 x2 x3 x4 : Int} (hx0 : gk g x0 = 3) (hx3 : gk g x3 = 20) {n : Nat} {s0 : (Int × Mem)} (h : Sh g s0.2) : iter (BX2_list_13 g x0 x1 x2 x3 x4) n s0 = iter (eBX2_list_13 g x0 x1 x2 x3 x4) n s0 :=
  iter_eq (B := BX2_list_13 g x0 x1 x2 x3 x4) (E := eBX2_list_13 g x0 x1 x2 x3 x4) (fun q => Sh g q.2) (fun s hs => qX2_list_13 hs hx0 hx3) (fun s c s' hs hB => nX2_list_13 hs hx0 hx3 ((qX2_list_13 hs hx0 hx3).symm.trans hB)) n s0 h
set_option maxRecDepth 20000 in
theorem qX2_list_163 {g : Shp} {m : Mem} (h : Sh g m)  : bX2_list_163 g m = ebX2_list_163 g m := by
  unfold bX2_list_163 ebX2_list_163
  rfl
theorem nX2_list_163 {g : Shp} {m : Mem} (h : Sh g m)  {r : Int} {m' : Mem} (hF : ebX2_list_163 g m = some (r, m')) : Sh g m' := by
  unfold ebX2_list_163 at hF
  cases hF
  exact h
set_option maxRecDepth 20000 in
theorem qX2_list_0 {g : Shp} {m : Mem} {x0 x1 x2 x3 x4 : Int} (h : Sh g m) (hx0 : gk g x0 = 3) (hx3 : gk g x3 = 20) : bX2_list_0 g x0 x1 x2 x3 x4 m = ebX2_list_0 g x0 x1 x2 x3 x4 m := by
  unfold bX2_list_0 ebX2_list_0
  refine vm_c (fun m1 em1 => ?_)
  have hm1 := h.s em1 (nRf hx0 (by decide) (by decide))
  refine vm_c (fun m2 em2 => ?_)
  have hm2 := hm1.s em2 (nRf hx0 (by decide) (by decide))
  refine bdl_q (qlX2_list_13 hx0 hx3 (n := 100000) (s0 := (0, m2)) hm2) (fun cv3 sv4 hi5 => ?_)
  have h6 := nlX2_list_13 hx0 hx3 (s0 := (0, m2)) hm2 ((qlX2_list_13 hx0 hx3 (n := 100000) (s0 := (0, m2)) hm2).symm.trans hi5)
  exact qX2_list_163 h6 
theorem nX2_list_0 {g : Shp} {m : Mem} {x0 x1 x2 x3 x4 : Int} (h : Sh g m) (hx0 : gk g x0 = 3) (hx3 : gk g x3 = 20) {r : Int} {m' : Mem} (hF : ebX2_list_0 g x0 x1 x2 x3 x4 m = some (r, m')) : Sh g m' := by
  unfold ebX2_list_0 at hF
  obtain ⟨m1, em1, hF⟩ := vm_ok hF
  have hm1 := h.s em1 (nRf hx0 (by decide) (by decide))
  obtain ⟨m2, em2, hF⟩ := vm_ok hF
  have hm2 := hm1.s em2 (nRf hx0 (by decide) (by decide))
  obtain ⟨cv3, sv4, hi5, hF⟩ := bdl_ok hF
  have h6 := nlX2_list_13 hx0 hx3 (s0 := (0, m2)) hm2 hi5
  exact nX2_list_163 h6  hF
theorem qX2_list {g : Shp} {m : Mem} {x0 x1 x2 x3 x4 : Int} (h : Sh g m) (hx0 : gk g x0 = 3) (hx3 : gk g x3 = 20) : fX2_list g x0 x1 x2 x3 x4 m = eX2_list g x0 x1 x2 x3 x4 m := qX2_list_0 h hx0 hx3
theorem nX2_list {g : Shp} {m : Mem} {x0 x1 x2 x3 x4 : Int} (h : Sh g m) (hx0 : gk g x0 = 3) (hx3 : gk g x3 = 20) {r : Int} {m' : Mem} (hF : eX2_list g x0 x1 x2 x3 x4 m = some (r, m')) : Sh g m' := nX2_list_0 h hx0 hx3 hF
set_option maxRecDepth 20000 in
theorem qX3_isFor_42 {g : Shp} {m : Mem} {z0 : Int} (h : Sh g m)  : bX3_isFor_42 g z0 m = ebX3_isFor_42 g z0 m := by
  unfold bX3_isFor_42 ebX3_isFor_42
  refine ck_c (fun b1 => ?_)
  rfl
theorem nX3_isFor_42 {g : Shp} {m : Mem} {z0 : Int} (h : Sh g m)  {r : Int} {m' : Mem} (hF : ebX3_isFor_42 g z0 m = some (r, m')) : Sh g m' := by
  unfold ebX3_isFor_42 at hF
  obtain ⟨b1, hF⟩ := ck_ok hF
  cases hF
  exact h
set_option maxRecDepth 20000 in
theorem qX3_isFor_41 {g : Shp} {m : Mem} (h : Sh g m)  : bX3_isFor_41 g m = ebX3_isFor_41 g m := by
  unfold bX3_isFor_41 ebX3_isFor_41
  exact qX3_isFor_42 h 
theorem nX3_isFor_41 {g : Shp} {m : Mem} (h : Sh g m)  {r : Int} {m' : Mem} (hF : ebX3_isFor_41 g m = some (r, m')) : Sh g m' := by
  unfold ebX3_isFor_41 at hF
  exact nX3_isFor_42 h  hF
set_option maxRecDepth 20000 in
theorem qX3_isFor_0 {g : Shp} {m : Mem} {x1 x2 x3 : Int} (h : Sh g m)  : bX3_isFor_0 g 143 x1 x2 x3 m = ebX3_isFor_0 g x1 x2 x3 m := by
  unfold bX3_isFor_0 ebX3_isFor_0
  refine if_c (fun hc1 => ?_) (fun hc1 => ?_)
  · exact qX3_isFor_41 h
  · have k2 := s_143_0 h
    rewrite [k2.1, ck_t k2.2.1]
    try rewrite [k2.2.2]
    refine ck_c (fun i3 => ?_)
    refine if_c (fun hc4 => ?_) (fun hc4 => ?_)
    · have k5 := s_143_0 h
      try rewrite [k5.2.2]
      refine ck_c (fun i6 => ?_)
      refine if_c (fun hc7 => ?_) (fun hc7 => ?_)
      · have k8 := s_143_0 h
        try rewrite [k8.2.2]
        refine ck_c (fun i9 => ?_)
        refine if_c (fun hc10 => ?_) (fun hc10 => ?_)
        · exact qX3_isFor_42 h
        · exact qX3_isFor_41 h
      · exact qX3_isFor_41 h
    · exact qX3_isFor_41 h
theorem nX3_isFor_0 {g : Shp} {m : Mem} {x1 x2 x3 : Int} (h : Sh g m)  {r : Int} {m' : Mem} (hF : ebX3_isFor_0 g x1 x2 x3 m = some (r, m')) : Sh g m' := by
  unfold ebX3_isFor_0 at hF
  rcases if_ok hF with ⟨hc1, hF⟩ | ⟨hc1, hF⟩
  · exact nX3_isFor_41 h  hF
  · have k2 := s_143_0 h
    obtain ⟨i3, hF⟩ := ck_ok hF
    rcases if_ok hF with ⟨hc4, hF⟩ | ⟨hc4, hF⟩
    · have k5 := s_143_0 h
      obtain ⟨i6, hF⟩ := ck_ok hF
      rcases if_ok hF with ⟨hc7, hF⟩ | ⟨hc7, hF⟩
      · have k8 := s_143_0 h
        obtain ⟨i9, hF⟩ := ck_ok hF
        rcases if_ok hF with ⟨hc10, hF⟩ | ⟨hc10, hF⟩
        · exact nX3_isFor_42 h  hF
        · exact nX3_isFor_41 h  hF
      · exact nX3_isFor_41 h  hF
    · exact nX3_isFor_41 h  hF
theorem qX3_isFor {g : Shp} {m : Mem} {x1 x2 x3 : Int} (h : Sh g m)  : fX3_isFor g 143 x1 x2 x3 m = eX3_isFor g x1 x2 x3 m := qX3_isFor_0 h 
theorem nX3_isFor {g : Shp} {m : Mem} {x1 x2 x3 : Int} (h : Sh g m)  {r : Int} {m' : Mem} (hF : eX3_isFor g x1 x2 x3 m = some (r, m')) : Sh g m' := nX3_isFor_0 h  hF
set_option maxRecDepth 20000 in
theorem qX3_begin_0 {g : Shp} {m : Mem} {x1 x2 x3 : Int} (h : Sh g m)  : bX3_begin_0 g 143 x1 x2 x3 m = ebX3_begin_0 g x1 x2 x3 m := by
  unfold bX3_begin_0 ebX3_begin_0
  have k1 := s_143_0 h
  rewrite [k1.1, ck_t k1.2.1]
  try rewrite [k1.2.2]
  refine ck_c (fun i2 => ?_)
  refine vm_c (fun m3 em3 => ?_)
  have hm3 := h.s em3 (nRa k1.2.1 (by decide))
  have k4 := s_143_0 hm3
  rewrite [k4.1, ck_t k4.2.1]
  try rewrite [k4.2.2]
  refine ck_c (fun i5 => ?_)
  refine vm_c (fun m6 em6 => ?_)
  have hm6 := hm3.s em6 (nRa k4.2.1 (by decide))
  have k7 := s_143_0 hm6
  rewrite [k7.1, ck_t k7.2.1]
  try rewrite [k7.2.2]
  refine ck_c (fun i8 => ?_)
  refine vm_c (fun m9 em9 => ?_)
  have hm9 := hm6.s em9 (nRa k7.2.1 (by decide))
  refine vm_c (fun m10 em10 => ?_)
  have hm10 := hm9.s em10 (nRf (sk_143 hm9) (by decide) (by decide))
  refine vm_c (fun m11 em11 => ?_)
  have hm11 := hm10.s em11 (nRf (sk_143 hm10) (by decide) (by decide))
  refine vm_c (fun m12 em12 => ?_)
  have hm12 := hm11.s em12 (nRf (sk_143 hm11) (by decide) (by decide))
  refine vm_c (fun m13 em13 => ?_)
  have hm13 := hm12.s em13 (nRf (sk_143 hm12) (by decide) (by decide))
  rfl
theorem nX3_begin_0 {g : Shp} {m : Mem} {x1 x2 x3 : Int} (h : Sh g m)  {r : Int} {m' : Mem} (hF : ebX3_begin_0 g x1 x2 x3 m = some (r, m')) : Sh g m' := by
  unfold ebX3_begin_0 at hF
  have k1 := s_143_0 h
  obtain ⟨i2, hF⟩ := ck_ok hF
  obtain ⟨m3, em3, hF⟩ := vm_ok hF
  have hm3 := h.s em3 (nRa k1.2.1 (by decide))
  have k4 := s_143_0 hm3
  obtain ⟨i5, hF⟩ := ck_ok hF
  obtain ⟨m6, em6, hF⟩ := vm_ok hF
  have hm6 := hm3.s em6 (nRa k4.2.1 (by decide))
  have k7 := s_143_0 hm6
  obtain ⟨i8, hF⟩ := ck_ok hF
  obtain ⟨m9, em9, hF⟩ := vm_ok hF
  have hm9 := hm6.s em9 (nRa k7.2.1 (by decide))
  obtain ⟨m10, em10, hF⟩ := vm_ok hF
  have hm10 := hm9.s em10 (nRf (sk_143 hm9) (by decide) (by decide))
  obtain ⟨m11, em11, hF⟩ := vm_ok hF
  have hm11 := hm10.s em11 (nRf (sk_143 hm10) (by decide) (by decide))
  obtain ⟨m12, em12, hF⟩ := vm_ok hF
  have hm12 := hm11.s em12 (nRf (sk_143 hm11) (by decide) (by decide))
  obtain ⟨m13, em13, hF⟩ := vm_ok hF
  have hm13 := hm12.s em13 (nRf (sk_143 hm12) (by decide) (by decide))
  cases hF
  exact hm13
theorem qX3_begin {g : Shp} {m : Mem} {x1 x2 x3 : Int} (h : Sh g m)  : fX3_begin g 143 x1 x2 x3 m = eX3_begin g x1 x2 x3 m := qX3_begin_0 h 
theorem nX3_begin {g : Shp} {m : Mem} {x1 x2 x3 : Int} (h : Sh g m)  {r : Int} {m' : Mem} (hF : eX3_begin g x1 x2 x3 m = some (r, m')) : Sh g m' := nX3_begin_0 h  hF
set_option maxRecDepth 20000 in
theorem qX3_isFewer_20 {g : Shp} {m : Mem} {z0 : Int} (h : Sh g m)  : bX3_isFewer_20 g z0 m = ebX3_isFewer_20 g z0 m := by
  unfold bX3_isFewer_20 ebX3_isFewer_20
  refine ck_c (fun b1 => ?_)
  rfl
theorem nX3_isFewer_20 {g : Shp} {m : Mem} {z0 : Int} (h : Sh g m)  {r : Int} {m' : Mem} (hF : ebX3_isFewer_20 g z0 m = some (r, m')) : Sh g m' := by
  unfold ebX3_isFewer_20 at hF
  obtain ⟨b1, hF⟩ := ck_ok hF
  cases hF
  exact h
set_option maxRecDepth 20000 in
theorem qX3_isFewer_15 {g : Shp} {m : Mem} (h : Sh g m)  : bX3_isFewer_15 g m = ebX3_isFewer_15 g m := by
  unfold bX3_isFewer_15 ebX3_isFewer_15
  exact qX3_isFewer_20 h 
theorem nX3_isFewer_15 {g : Shp} {m : Mem} (h : Sh g m)  {r : Int} {m' : Mem} (hF : ebX3_isFewer_15 g m = some (r, m')) : Sh g m' := by
  unfold ebX3_isFewer_15 at hF
  exact nX3_isFewer_20 h  hF
set_option maxRecDepth 20000 in
theorem qX3_isFewer_0 {g : Shp} {m : Mem} {x1 : Int} (h : Sh g m)  : bX3_isFewer_0 g 143 x1 m = ebX3_isFewer_0 g x1 m := by
  unfold bX3_isFewer_0 ebX3_isFewer_0
  refine if_c (fun hc1 => ?_) (fun hc1 => ?_)
  · exact qX3_isFewer_15 h
  · refine if_c (fun hc2 => ?_) (fun hc2 => ?_)
    · exact qX3_isFewer_20 h
    · exact qX3_isFewer_15 h
theorem nX3_isFewer_0 {g : Shp} {m : Mem} {x1 : Int} (h : Sh g m)  {r : Int} {m' : Mem} (hF : ebX3_isFewer_0 g x1 m = some (r, m')) : Sh g m' := by
  unfold ebX3_isFewer_0 at hF
  rcases if_ok hF with ⟨hc1, hF⟩ | ⟨hc1, hF⟩
  · exact nX3_isFewer_15 h  hF
  · rcases if_ok hF with ⟨hc2, hF⟩ | ⟨hc2, hF⟩
    · exact nX3_isFewer_20 h  hF
    · exact nX3_isFewer_15 h  hF
theorem qX3_isFewer {g : Shp} {m : Mem} {x1 : Int} (h : Sh g m)  : fX3_isFewer g 143 x1 m = eX3_isFewer g x1 m := qX3_isFewer_0 h 
theorem nX3_isFewer {g : Shp} {m : Mem} {x1 : Int} (h : Sh g m)  {r : Int} {m' : Mem} (hF : eX3_isFewer g x1 m = some (r, m')) : Sh g m' := nX3_isFewer_0 h  hF
set_option maxRecDepth 20000 in
theorem qX3_keepTrial_0 {g : Shp} {m : Mem} {x1 x2 : Int} (h : Sh g m)  : bX3_keepTrial_0 g 143 x1 x2 m = ebX3_keepTrial_0 g x1 x2 m := by
  unfold bX3_keepTrial_0 ebX3_keepTrial_0
  have k1 := s_143_1 h
  rewrite [k1.1, ck_t k1.2.1]
  have k2 := s_143_2 h
  rewrite [k2.1, ck_t k2.2.1]
  try rewrite [k1.2.2]
  try rewrite [k2.2.2]
  refine ck_c (fun h3 => ?_)
  refine vm_c (fun m4 em4 => ?_)
  have hm4 := h.cp em4 k2.2.1
  refine vm_c (fun m5 em5 => ?_)
  have hm5 := hm4.s em5 (nRf (sk_143 hm4) (by decide) (by decide))
  refine vm_c (fun m6 em6 => ?_)
  have hm6 := hm5.s em6 (nRf (sk_143 hm5) (by decide) (by decide))
  refine vm_c (fun m7 em7 => ?_)
  have hm7 := hm6.s em7 (nRf (sk_143 hm6) (by decide) (by decide))
  rfl
theorem nX3_keepTrial_0 {g : Shp} {m : Mem} {x1 x2 : Int} (h : Sh g m)  {r : Int} {m' : Mem} (hF : ebX3_keepTrial_0 g x1 x2 m = some (r, m')) : Sh g m' := by
  unfold ebX3_keepTrial_0 at hF
  have k1 := s_143_1 h
  have k2 := s_143_2 h
  obtain ⟨h3, hF⟩ := ck_ok hF
  obtain ⟨m4, em4, hF⟩ := vm_ok hF
  have hm4 := h.cp em4 k2.2.1
  obtain ⟨m5, em5, hF⟩ := vm_ok hF
  have hm5 := hm4.s em5 (nRf (sk_143 hm4) (by decide) (by decide))
  obtain ⟨m6, em6, hF⟩ := vm_ok hF
  have hm6 := hm5.s em6 (nRf (sk_143 hm5) (by decide) (by decide))
  obtain ⟨m7, em7, hF⟩ := vm_ok hF
  have hm7 := hm6.s em7 (nRf (sk_143 hm6) (by decide) (by decide))
  cases hF
  exact hm7
theorem qX3_keepTrial {g : Shp} {m : Mem} {x1 x2 : Int} (h : Sh g m)  : fX3_keepTrial g 143 x1 x2 m = eX3_keepTrial g x1 x2 m := qX3_keepTrial_0 h 
theorem nX3_keepTrial {g : Shp} {m : Mem} {x1 x2 : Int} (h : Sh g m)  {r : Int} {m' : Mem} (hF : eX3_keepTrial g x1 x2 m = some (r, m')) : Sh g m' := nX3_keepTrial_0 h  hF
set_option maxRecDepth 20000 in
theorem qX4_dropOldest_9 {g : Shp} {m : Mem} {x1 x2 : Int} (h : Sh g m) (hx1 : gk g x1 = 2) : bX4_dropOldest_9 g 93 x1 x2 m = ebX4_dropOldest_9 g x1 x2 m := by
  unfold bX4_dropOldest_9 ebX4_dropOldest_9
  refine if_c (fun hc1 => ?_) (fun hc1 => ?_)
  · rfl
  · have k2 := s_93_0 h
    rewrite [k2.1, ck_t k2.2.1]
    have k3 := s_93_0 h
    try rewrite [k3.2.2]
    refine ck_c (fun i4 => ?_)
    have k5 := a23l h k3.2.1 (k3.2.2) i4
    rewrite [ck_t k5]
    try rewrite [k2.2.2]
    refine ck_c (fun i6 => ?_)
    refine vm_c (fun m7 em7 => ?_)
    have hm7 := h.fl em7 k2.2.1 k5
    refine vv_c (fun y8 ey8 => ?_)
    rfl
theorem nX4_dropOldest_9 {g : Shp} {m : Mem} {x1 x2 : Int} (h : Sh g m) (hx1 : gk g x1 = 2) {c1 : Int} {s1 : (Int × Mem)} (hF : ebX4_dropOldest_9 g x1 x2 m = some (c1, s1)) : Sh g s1.2 := by
  unfold ebX4_dropOldest_9 at hF
  rcases if_ok hF with ⟨hc1, hF⟩ | ⟨hc1, hF⟩
  · cases hF
    exact h
  · have k2 := s_93_0 h
    have k3 := s_93_0 h
    obtain ⟨i4, hF⟩ := ck_ok hF
    have k5 := a23l h k3.2.1 (k3.2.2) i4
    obtain ⟨i6, hF⟩ := ck_ok hF
    obtain ⟨m7, em7, hF⟩ := vm_ok hF
    have hm7 := h.fl em7 k2.2.1 k5
    obtain ⟨y8, ey8, hF⟩ := vv_ok hF
    cases hF
    exact hm7
theorem nlX4_dropOldest_9 {g : Shp} {x1 : Int} (hx1 : gk g x1 = 2) {n : Nat} {s0 s1 : (Int × Mem)} {c1 : Int} (h : Sh g s0.2) (hI : iter (eBX4_dropOldest_9 g x1) n s0 = some (c1, s1)) : Sh g s1.2 :=
  iter_inv (B := eBX4_dropOldest_9 g x1) (fun q => Sh g q.2) (fun s c s' hs hB => nX4_dropOldest_9 hs hx1 hB) n s0 c1 s1 h hI
theorem qlX4_dropOldest_9 {g : Shp} {x1 : Int} (hx1 : gk g x1 = 2) {n : Nat} {s0 : (Int × Mem)} (h : Sh g s0.2) : iter (BX4_dropOldest_9 g 93 x1) n s0 = iter (eBX4_dropOldest_9 g x1) n s0 :=
  iter_eq (B := BX4_dropOldest_9 g 93 x1) (E := eBX4_dropOldest_9 g x1) (fun q => Sh g q.2) (fun s hs => qX4_dropOldest_9 hs hx1) (fun s c s' hs hB => nX4_dropOldest_9 hs hx1 ((qX4_dropOldest_9 hs hx1).symm.trans hB)) n s0 h
set_option maxRecDepth 20000 in
theorem qX4_dropOldest_35 {g : Shp} {m : Mem} {x1 : Int} (h : Sh g m) (hx1 : gk g x1 = 2) : bX4_dropOldest_35 g 93 x1 m = ebX4_dropOldest_35 g x1 m := by
  unfold bX4_dropOldest_35 ebX4_dropOldest_35
  have k1 := s_93_0 h
  rewrite [k1.1, ck_t k1.2.1]
  try rewrite [k1.2.2]
  refine ck_c (fun i2 => ?_)
  refine vm_c (fun m3 em3 => ?_)
  have hm3 := h.fl em3 k1.2.1 hx1
  refine vm_c (fun m4 em4 => ?_)
  have hm4 := hm3.s em4 (nRf (sk_93 hm3) (by decide) (by decide))
  rfl
theorem nX4_dropOldest_35 {g : Shp} {m : Mem} {x1 : Int} (h : Sh g m) (hx1 : gk g x1 = 2) {r : Int} {m' : Mem} (hF : ebX4_dropOldest_35 g x1 m = some (r, m')) : Sh g m' := by
  unfold ebX4_dropOldest_35 at hF
  have k1 := s_93_0 h
  obtain ⟨i2, hF⟩ := ck_ok hF
  obtain ⟨m3, em3, hF⟩ := vm_ok hF
  have hm3 := h.fl em3 k1.2.1 hx1
  obtain ⟨m4, em4, hF⟩ := vm_ok hF
  have hm4 := hm3.s em4 (nRf (sk_93 hm3) (by decide) (by decide))
  cases hF
  exact hm4
set_option maxRecDepth 20000 in
theorem qX4_dropOldest_0 {g : Shp} {m : Mem} (h : Sh g m)  : bX4_dropOldest_0 g 93 m = ebX4_dropOldest_0 g m := by
  unfold bX4_dropOldest_0 ebX4_dropOldest_0
  have k1 := s_93_0 h
  rewrite [k1.1, ck_t k1.2.1]
  try rewrite [k1.2.2]
  refine ck_c (fun i2 => ?_)
  have k3 := a23l h k1.2.1 (k1.2.2) i2
  rewrite [ck_t k3]
  refine vv_k (fun y4 ey4 => ?_)
  subst ey4
  refine bdl_q (qlX4_dropOldest_9 k3 (n := 100000) (s0 := (1, m)) h) (fun cv5 sv6 hi7 => ?_)
  have h8 := nlX4_dropOldest_9 k3 (s0 := (1, m)) h ((qlX4_dropOldest_9 k3 (n := 100000) (s0 := (1, m)) h).symm.trans hi7)
  exact qX4_dropOldest_35 h8 k3
theorem nX4_dropOldest_0 {g : Shp} {m : Mem} (h : Sh g m)  {r : Int} {m' : Mem} (hF : ebX4_dropOldest_0 g m = some (r, m')) : Sh g m' := by
  unfold ebX4_dropOldest_0 at hF
  have k1 := s_93_0 h
  obtain ⟨i2, hF⟩ := ck_ok hF
  have k3 := a23l h k1.2.1 (k1.2.2) i2
  obtain ⟨cv5, sv6, hi7, hF⟩ := bdl_ok hF
  have h8 := nlX4_dropOldest_9 k3 (s0 := (1, m)) h hi7
  exact nX4_dropOldest_35 h8 k3 hF
theorem qX4_dropOldest {g : Shp} {m : Mem} (h : Sh g m)  : fX4_dropOldest g 93 m = eX4_dropOldest g m := qX4_dropOldest_0 h 
theorem nX4_dropOldest {g : Shp} {m : Mem} (h : Sh g m)  {r : Int} {m' : Mem} (hF : eX4_dropOldest g m = some (r, m')) : Sh g m' := nX4_dropOldest_0 h  hF
set_option maxRecDepth 20000 in
theorem qX4_keep_13 {g : Shp} {m : Mem} {x1 : Int} (h : Sh g m) (hx1 : gk g x1 = 2) : bX4_keep_13 g 93 x1 m = ebX4_keep_13 g x1 m := by
  unfold bX4_keep_13 ebX4_keep_13
  have k1 := s_93_0 h
  rewrite [k1.1, ck_t k1.2.1]
  try rewrite [k1.2.2]
  refine ck_c (fun i2 => ?_)
  have k3 := a23l h k1.2.1 (k1.2.2) i2
  rewrite [ck_t k3]
  refine bd2_q (qX1_copy h k3 hx1) (fun v4 m5 h6 => ?_)
  have hm5 := nX1_copy h k3 hx1 ((qX1_copy h k3 hx1).symm.trans h6)
  refine vm_c (fun m7 em7 => ?_)
  have hm7 := hm5.s em7 (nRf (sk_93 hm5) (by decide) (by decide))
  rfl
theorem nX4_keep_13 {g : Shp} {m : Mem} {x1 : Int} (h : Sh g m) (hx1 : gk g x1 = 2) {r : Int} {m' : Mem} (hF : ebX4_keep_13 g x1 m = some (r, m')) : Sh g m' := by
  unfold ebX4_keep_13 at hF
  have k1 := s_93_0 h
  obtain ⟨i2, hF⟩ := ck_ok hF
  have k3 := a23l h k1.2.1 (k1.2.2) i2
  obtain ⟨v4, m5, h6, hF⟩ := bd2_ok hF
  have hm5 := nX1_copy h k3 hx1 h6
  obtain ⟨m7, em7, hF⟩ := vm_ok hF
  have hm7 := hm5.s em7 (nRf (sk_93 hm5) (by decide) (by decide))
  cases hF
  exact hm7
set_option maxRecDepth 20000 in
theorem qX4_keep_0 {g : Shp} {m : Mem} {x1 : Int} (h : Sh g m) (hx1 : gk g x1 = 2) : bX4_keep_0 g 93 x1 m = ebX4_keep_0 g x1 m := by
  unfold bX4_keep_0 ebX4_keep_0
  refine if_c (fun hc1 => ?_) (fun hc1 => ?_)
  · refine bd2_q (qX4_dropOldest h ) (fun v2 m3 h4 => ?_)
    have hm3 := nX4_dropOldest h  ((qX4_dropOldest h ).symm.trans h4)
    exact qX4_keep_13 hm3 hx1
  · exact qX4_keep_13 h hx1
theorem nX4_keep_0 {g : Shp} {m : Mem} {x1 : Int} (h : Sh g m) (hx1 : gk g x1 = 2) {r : Int} {m' : Mem} (hF : ebX4_keep_0 g x1 m = some (r, m')) : Sh g m' := by
  unfold ebX4_keep_0 at hF
  rcases if_ok hF with ⟨hc1, hF⟩ | ⟨hc1, hF⟩
  · obtain ⟨v2, m3, h4, hF⟩ := bd2_ok hF
    have hm3 := nX4_dropOldest h  h4
    exact nX4_keep_13 hm3 hx1 hF
  · exact nX4_keep_13 h hx1 hF
theorem qX4_keep {g : Shp} {m : Mem} {x1 : Int} (h : Sh g m) (hx1 : gk g x1 = 2) : fX4_keep g 93 x1 m = eX4_keep g x1 m := qX4_keep_0 h hx1
theorem nX4_keep {g : Shp} {m : Mem} {x1 : Int} (h : Sh g m) (hx1 : gk g x1 = 2) {r : Int} {m' : Mem} (hF : eX4_keep g x1 m = some (r, m')) : Sh g m' := nX4_keep_0 h hx1 hF
set_option maxRecDepth 20000 in
theorem qX4_giveBack_30 {g : Shp} {m : Mem} (h : Sh g m)  : bX4_giveBack_30 g m = ebX4_giveBack_30 g m := by
  unfold bX4_giveBack_30 ebX4_giveBack_30
  rfl
theorem nX4_giveBack_30 {g : Shp} {m : Mem} (h : Sh g m)  {r : Int} {m' : Mem} (hF : ebX4_giveBack_30 g m = some (r, m')) : Sh g m' := by
  unfold ebX4_giveBack_30 at hF
  cases hF
  exact h
set_option maxRecDepth 20000 in
theorem qX4_giveBack_0 {g : Shp} {m : Mem} {x1 : Int} (h : Sh g m) (hx1 : gk g x1 = 2) : bX4_giveBack_0 g 93 x1 m = ebX4_giveBack_0 g x1 m := by
  unfold bX4_giveBack_0 ebX4_giveBack_0
  refine if_c (fun hc1 => ?_) (fun hc1 => ?_)
  · exact qX4_giveBack_30 h
  · refine vm_c (fun m2 em2 => ?_)
    have hm2 := h.s em2 (nRf (sk_93 h) (by decide) (by decide))
    have k3 := s_93_0 hm2
    rewrite [k3.1, ck_t k3.2.1]
    try rewrite [k3.2.2]
    refine ck_c (fun i4 => ?_)
    have k5 := a23l hm2 k3.2.1 (k3.2.2) i4
    rewrite [ck_t k5]
    refine bd2_q (qX1_copy hm2 hx1 k5) (fun v6 m7 h8 => ?_)
    have hm7 := nX1_copy hm2 hx1 k5 ((qX1_copy hm2 hx1 k5).symm.trans h8)
    exact qX4_giveBack_30 hm7 
theorem nX4_giveBack_0 {g : Shp} {m : Mem} {x1 : Int} (h : Sh g m) (hx1 : gk g x1 = 2) {r : Int} {m' : Mem} (hF : ebX4_giveBack_0 g x1 m = some (r, m')) : Sh g m' := by
  unfold ebX4_giveBack_0 at hF
  rcases if_ok hF with ⟨hc1, hF⟩ | ⟨hc1, hF⟩
  · exact nX4_giveBack_30 h  hF
  · obtain ⟨m2, em2, hF⟩ := vm_ok hF
    have hm2 := h.s em2 (nRf (sk_93 h) (by decide) (by decide))
    have k3 := s_93_0 hm2
    obtain ⟨i4, hF⟩ := ck_ok hF
    have k5 := a23l hm2 k3.2.1 (k3.2.2) i4
    obtain ⟨v6, m7, h8, hF⟩ := bd2_ok hF
    have hm7 := nX1_copy hm2 hx1 k5 h8
    exact nX4_giveBack_30 hm7  hF
theorem qX4_giveBack {g : Shp} {m : Mem} {x1 : Int} (h : Sh g m) (hx1 : gk g x1 = 2) : fX4_giveBack g 93 x1 m = eX4_giveBack g x1 m := qX4_giveBack_0 h hx1
theorem nX4_giveBack {g : Shp} {m : Mem} {x1 : Int} (h : Sh g m) (hx1 : gk g x1 = 2) {r : Int} {m' : Mem} (hF : eX4_giveBack g x1 m = some (r, m')) : Sh g m' := nX4_giveBack_0 h hx1 hF
set_option maxRecDepth 20000 in
theorem qX5_begin_0 {g : Shp} {m : Mem} {x0 x1 x2 : Int} (h : Sh g m) (hx0 : gk g x0 = 6) : bX5_begin_0 g x0 x1 x2 m = ebX5_begin_0 g x0 x1 x2 m := by
  unfold bX5_begin_0 ebX5_begin_0
  refine vm_c (fun m1 em1 => ?_)
  have hm1 := h.s em1 (nRf hx0 (by decide) (by decide))
  refine vm_c (fun m2 em2 => ?_)
  have hm2 := hm1.s em2 (nRf hx0 (by decide) (by decide))
  refine vm_c (fun m3 em3 => ?_)
  have hm3 := hm2.s em3 (nRf hx0 (by decide) (by decide))
  refine vm_c (fun m4 em4 => ?_)
  have hm4 := hm3.s em4 (nRf hx0 (by decide) (by decide))
  rfl
theorem nX5_begin_0 {g : Shp} {m : Mem} {x0 x1 x2 : Int} (h : Sh g m) (hx0 : gk g x0 = 6) {r : Int} {m' : Mem} (hF : ebX5_begin_0 g x0 x1 x2 m = some (r, m')) : Sh g m' := by
  unfold ebX5_begin_0 at hF
  obtain ⟨m1, em1, hF⟩ := vm_ok hF
  have hm1 := h.s em1 (nRf hx0 (by decide) (by decide))
  obtain ⟨m2, em2, hF⟩ := vm_ok hF
  have hm2 := hm1.s em2 (nRf hx0 (by decide) (by decide))
  obtain ⟨m3, em3, hF⟩ := vm_ok hF
  have hm3 := hm2.s em3 (nRf hx0 (by decide) (by decide))
  obtain ⟨m4, em4, hF⟩ := vm_ok hF
  have hm4 := hm3.s em4 (nRf hx0 (by decide) (by decide))
  cases hF
  exact hm4
theorem qX5_begin {g : Shp} {m : Mem} {x0 x1 x2 : Int} (h : Sh g m) (hx0 : gk g x0 = 6) : fX5_begin g x0 x1 x2 m = eX5_begin g x0 x1 x2 m := qX5_begin_0 h hx0
theorem nX5_begin {g : Shp} {m : Mem} {x0 x1 x2 : Int} (h : Sh g m) (hx0 : gk g x0 = 6) {r : Int} {m' : Mem} (hF : eX5_begin g x0 x1 x2 m = some (r, m')) : Sh g m' := nX5_begin_0 h hx0 hF
set_option maxRecDepth 20000 in
theorem qX10_isOnGround_25 {g : Shp} {m : Mem} {z0 : Int} (h : Sh g m)  : bX10_isOnGround_25 g z0 m = ebX10_isOnGround_25 g z0 m := by
  unfold bX10_isOnGround_25 ebX10_isOnGround_25
  refine ck_c (fun b1 => ?_)
  rfl
theorem nX10_isOnGround_25 {g : Shp} {m : Mem} {z0 : Int} (h : Sh g m)  {r : Int} {m' : Mem} (hF : ebX10_isOnGround_25 g z0 m = some (r, m')) : Sh g m' := by
  unfold ebX10_isOnGround_25 at hF
  obtain ⟨b1, hF⟩ := ck_ok hF
  cases hF
  exact h
set_option maxRecDepth 20000 in
theorem qX10_isOnGround_24 {g : Shp} {m : Mem} (h : Sh g m)  : bX10_isOnGround_24 g m = ebX10_isOnGround_24 g m := by
  unfold bX10_isOnGround_24 ebX10_isOnGround_24
  exact qX10_isOnGround_25 h 
theorem nX10_isOnGround_24 {g : Shp} {m : Mem} (h : Sh g m)  {r : Int} {m' : Mem} (hF : ebX10_isOnGround_24 g m = some (r, m')) : Sh g m' := by
  unfold ebX10_isOnGround_24 at hF
  exact nX10_isOnGround_25 h  hF
set_option maxRecDepth 20000 in
theorem qX10_isOnGround_0 {g : Shp} {m : Mem} {x0 x1 : Int} (h : Sh g m)  : bX10_isOnGround_0 g x0 x1 m = ebX10_isOnGround_0 g x0 x1 m := by
  unfold bX10_isOnGround_0 ebX10_isOnGround_0
  refine if_c (fun hc1 => ?_) (fun hc1 => ?_)
  · exact qX10_isOnGround_24 h
  · refine if_c (fun hc2 => ?_) (fun hc2 => ?_)
    · exact qX10_isOnGround_24 h
    · refine if_c (fun hc3 => ?_) (fun hc3 => ?_)
      · exact qX10_isOnGround_24 h
      · refine if_c (fun hc4 => ?_) (fun hc4 => ?_)
        · exact qX10_isOnGround_24 h
        · exact qX10_isOnGround_25 h
theorem nX10_isOnGround_0 {g : Shp} {m : Mem} {x0 x1 : Int} (h : Sh g m)  {r : Int} {m' : Mem} (hF : ebX10_isOnGround_0 g x0 x1 m = some (r, m')) : Sh g m' := by
  unfold ebX10_isOnGround_0 at hF
  rcases if_ok hF with ⟨hc1, hF⟩ | ⟨hc1, hF⟩
  · exact nX10_isOnGround_24 h  hF
  · rcases if_ok hF with ⟨hc2, hF⟩ | ⟨hc2, hF⟩
    · exact nX10_isOnGround_24 h  hF
    · rcases if_ok hF with ⟨hc3, hF⟩ | ⟨hc3, hF⟩
      · exact nX10_isOnGround_24 h  hF
      · rcases if_ok hF with ⟨hc4, hF⟩ | ⟨hc4, hF⟩
        · exact nX10_isOnGround_24 h  hF
        · exact nX10_isOnGround_25 h  hF
theorem qX10_isOnGround {g : Shp} {m : Mem} {x0 x1 : Int} (h : Sh g m)  : fX10_isOnGround g x0 x1 m = eX10_isOnGround g x0 x1 m := qX10_isOnGround_0 h 
theorem nX10_isOnGround {g : Shp} {m : Mem} {x0 x1 : Int} (h : Sh g m)  {r : Int} {m' : Mem} (hF : eX10_isOnGround g x0 x1 m = some (r, m')) : Sh g m' := nX10_isOnGround_0 h  hF
set_option maxRecDepth 20000 in
theorem qX5_go_73 {g : Shp} {m : Mem} {x0 x1 x2 x3 x4 x5 x6 x7 : Int} (h : Sh g m) (hx0 : gk g x0 = 6) (hx4 : gk g x4 = 20) : bX5_go_73 g x0 x1 x2 x3 x4 x5 x6 x7 m = ebX5_go_73 g x0 x1 x2 x3 x4 x5 x6 x7 m := by
  unfold bX5_go_73 ebX5_go_73
  refine if_c (fun hc1 => ?_) (fun hc1 => ?_)
  · rfl
  · refine bd2_q (qX10_isOnGround h ) (fun v2 m3 h4 => ?_)
    have hm3 := nX10_isOnGround h  ((qX10_isOnGround h ).symm.trans h4)
    refine if_c (fun hc5 => ?_) (fun hc5 => ?_)
    · rfl
    · refine vv_c (fun y6 ey6 => ?_)
      refine ck_c (fun i7 => ?_)
      refine if_c (fun hc8 => ?_) (fun hc8 => ?_)
      · refine ck_c (fun i9 => ?_)
        refine ck_c (fun i10 => ?_)
        refine vm_c (fun m11 em11 => ?_)
        have hm11 := hm3.s em11 (nRa hx4 (by decide))
        have k12 := u6_0 hm11 (r := x0) (q := x0 + 1) hx0 rfl
        rewrite [k12.1, ck_t k12.2.1]
        try rewrite [k12.2.2]
        refine ck_c (fun i13 => ?_)
        refine vm_c (fun m14 em14 => ?_)
        have hm14 := hm11.s em14 (nRa k12.2.1 (by decide))
        refine vm_c (fun m15 em15 => ?_)
        have hm15 := hm14.s em15 (nRf hx0 (by decide) (by decide))
        refine vv_c (fun y16 ey16 => ?_)
        rfl
      · rfl
theorem nX5_go_73 {g : Shp} {m : Mem} {x0 x1 x2 x3 x4 x5 x6 x7 : Int} (h : Sh g m) (hx0 : gk g x0 = 6) (hx4 : gk g x4 = 20) {c1 : Int} {s1 : (Int × Mem)} (hF : ebX5_go_73 g x0 x1 x2 x3 x4 x5 x6 x7 m = some (c1, s1)) : Sh g s1.2 := by
  unfold ebX5_go_73 at hF
  rcases if_ok hF with ⟨hc1, hF⟩ | ⟨hc1, hF⟩
  · cases hF
    exact h
  · obtain ⟨v2, m3, h4, hF⟩ := bd2_ok hF
    have hm3 := nX10_isOnGround h  h4
    rcases if_ok hF with ⟨hc5, hF⟩ | ⟨hc5, hF⟩
    · cases hF
      exact hm3
    · obtain ⟨y6, ey6, hF⟩ := vv_ok hF
      obtain ⟨i7, hF⟩ := ck_ok hF
      rcases if_ok hF with ⟨hc8, hF⟩ | ⟨hc8, hF⟩
      · obtain ⟨i9, hF⟩ := ck_ok hF
        obtain ⟨i10, hF⟩ := ck_ok hF
        obtain ⟨m11, em11, hF⟩ := vm_ok hF
        have hm11 := hm3.s em11 (nRa hx4 (by decide))
        have k12 := u6_0 hm11 (r := x0) (q := x0 + 1) hx0 rfl
        obtain ⟨i13, hF⟩ := ck_ok hF
        obtain ⟨m14, em14, hF⟩ := vm_ok hF
        have hm14 := hm11.s em14 (nRa k12.2.1 (by decide))
        obtain ⟨m15, em15, hF⟩ := vm_ok hF
        have hm15 := hm14.s em15 (nRf hx0 (by decide) (by decide))
        obtain ⟨y16, ey16, hF⟩ := vv_ok hF
        cases hF
        exact hm15
      · cases hF
        exact hm3
set_option maxRecDepth 20000 in
theorem qX5_go_40 {g : Shp} {m : Mem} {x0 x1 x2 x3 x4 x5 x6 x7 : Int} (h : Sh g m) (hx0 : gk g x0 = 6) (hx4 : gk g x4 = 20) : bX5_go_40 g x0 x1 x2 x3 x4 x5 x6 x7 m = ebX5_go_40 g x0 x1 x2 x3 x4 x5 x6 x7 m := by
  unfold bX5_go_40 ebX5_go_40
  refine if_c (fun hc1 => ?_) (fun hc1 => ?_)
  · rfl
  · refine if_c (fun hc2 => ?_) (fun hc2 => ?_)
    · exact qX5_go_73 h hx0 hx4
    · refine vm_c (fun m3 em3 => ?_)
      have hm3 := h.s em3 (nRf hx0 (by decide) (by decide))
      refine vm_c (fun m4 em4 => ?_)
      have hm4 := hm3.s em4 (nRf hx0 (by decide) (by decide))
      exact qX5_go_73 hm4 hx0 hx4
theorem nX5_go_40 {g : Shp} {m : Mem} {x0 x1 x2 x3 x4 x5 x6 x7 : Int} (h : Sh g m) (hx0 : gk g x0 = 6) (hx4 : gk g x4 = 20) {c1 : Int} {s1 : (Int × Mem)} (hF : ebX5_go_40 g x0 x1 x2 x3 x4 x5 x6 x7 m = some (c1, s1)) : Sh g s1.2 := by
  unfold ebX5_go_40 at hF
  rcases if_ok hF with ⟨hc1, hF⟩ | ⟨hc1, hF⟩
  · cases hF
    exact h
  · rcases if_ok hF with ⟨hc2, hF⟩ | ⟨hc2, hF⟩
    · exact nX5_go_73 h hx0 hx4 hF
    · obtain ⟨m3, em3, hF⟩ := vm_ok hF
      have hm3 := h.s em3 (nRf hx0 (by decide) (by decide))
      obtain ⟨m4, em4, hF⟩ := vm_ok hF
      have hm4 := hm3.s em4 (nRf hx0 (by decide) (by decide))
      exact nX5_go_73 hm4 hx0 hx4 hF
theorem nlX5_go_40 {g : Shp} {x0 x1 x2 x3 x4 x5 x6 : Int} (hx0 : gk g x0 = 6) (hx4 : gk g x4 = 20) {n : Nat} {s0 s1 : (Int × Mem)} {c1 : Int} (h : Sh g s0.2) (hI : iter (eBX5_go_40 g x0 x1 x2 x3 x4 x5 x6) n s0 = some (c1, s1)) : Sh g s1.2 :=
  iter_inv (B := eBX5_go_40 g x0 x1 x2 x3 x4 x5 x6) (fun q => Sh g q.2) (fun s c s' hs hB => nX5_go_40 hs hx0 hx4 hB) n s0 c1 s1 h hI
theorem qlX5_go_40 {g : Shp} {x0 x1 x2 x3 x4 x5 x6 : Int} (hx0 : gk g x0 = 6) (hx4 : gk g x4 = 20) {n : Nat} {s0 : (Int × Mem)} (h : Sh g s0.2) : iter (BX5_go_40 g x0 x1 x2 x3 x4 x5 x6) n s0 = iter (eBX5_go_40 g x0 x1 x2 x3 x4 x5 x6) n s0 :=
  iter_eq (B := BX5_go_40 g x0 x1 x2 x3 x4 x5 x6) (E := eBX5_go_40 g x0 x1 x2 x3 x4 x5 x6) (fun q => Sh g q.2) (fun s hs => qX5_go_40 hs hx0 hx4) (fun s c s' hs hB => nX5_go_40 hs hx0 hx4 ((qX5_go_40 hs hx0 hx4).symm.trans hB)) n s0 h
set_option maxRecDepth 20000 in
theorem qX5_go_35 {g : Shp} {m : Mem} (h : Sh g m)  : bX5_go_35 g m = ebX5_go_35 g m := by
  unfold bX5_go_35 ebX5_go_35
  rfl
theorem nX5_go_35 {g : Shp} {m : Mem} (h : Sh g m)  {r : Int} {m' : Mem} (hF : ebX5_go_35 g m = some (r, m')) : Sh g m' := by
  unfold ebX5_go_35 at hF
  cases hF
  exact h
set_option maxRecDepth 20000 in
theorem qX5_go_96 {g : Shp} {m : Mem} (h : Sh g m)  : bX5_go_96 g m = ebX5_go_96 g m := by
  unfold bX5_go_96 ebX5_go_96
  rfl
theorem nX5_go_96 {g : Shp} {m : Mem} (h : Sh g m)  {r : Int} {m' : Mem} (hF : ebX5_go_96 g m = some (r, m')) : Sh g m' := by
  unfold ebX5_go_96 at hF
  cases hF
  exact h
set_option maxRecDepth 20000 in
theorem qX5_go_123 {g : Shp} {m : Mem} (h : Sh g m)  : bX5_go_123 g m = ebX5_go_123 g m := by
  unfold bX5_go_123 ebX5_go_123
  rfl
theorem nX5_go_123 {g : Shp} {m : Mem} (h : Sh g m)  {r : Int} {m' : Mem} (hF : ebX5_go_123 g m = some (r, m')) : Sh g m' := by
  unfold ebX5_go_123 at hF
  cases hF
  exact h
set_option maxRecDepth 20000 in
theorem qX5_go_162 {g : Shp} {m : Mem} {x0 x6 : Int} (h : Sh g m) (hx0 : gk g x0 = 6) : bX5_go_162 g x0 x6 m = ebX5_go_162 g x0 x6 m := by
  unfold bX5_go_162 ebX5_go_162
  refine ck_c (fun b1 => ?_)
  refine vm_c (fun m2 em2 => ?_)
  have hm2 := h.s em2 (nRf hx0 (by decide) (by decide))
  have k3 := u6_1 hm2 (r := x0) (q := x0 + 2) hx0 rfl
  rewrite [k3.1, ck_t k3.2.1]
  try rewrite [k3.2.2]
  refine ck_c (fun i4 => ?_)
  refine vm_c (fun m5 em5 => ?_)
  have hm5 := hm2.s em5 (nRa k3.2.1 (by decide))
  refine vm_c (fun m6 em6 => ?_)
  have hm6 := hm5.s em6 (nRf hx0 (by decide) (by decide))
  rfl
theorem nX5_go_162 {g : Shp} {m : Mem} {x0 x6 : Int} (h : Sh g m) (hx0 : gk g x0 = 6) {r : Int} {m' : Mem} (hF : ebX5_go_162 g x0 x6 m = some (r, m')) : Sh g m' := by
  unfold ebX5_go_162 at hF
  obtain ⟨b1, hF⟩ := ck_ok hF
  obtain ⟨m2, em2, hF⟩ := vm_ok hF
  have hm2 := h.s em2 (nRf hx0 (by decide) (by decide))
  have k3 := u6_1 hm2 (r := x0) (q := x0 + 2) hx0 rfl
  obtain ⟨i4, hF⟩ := ck_ok hF
  obtain ⟨m5, em5, hF⟩ := vm_ok hF
  have hm5 := hm2.s em5 (nRa k3.2.1 (by decide))
  obtain ⟨m6, em6, hF⟩ := vm_ok hF
  have hm6 := hm5.s em6 (nRf hx0 (by decide) (by decide))
  cases hF
  exact hm6
set_option maxRecDepth 20000 in
theorem qX5_go_37 {g : Shp} {m : Mem} {x0 x1 x2 x3 x4 x5 x6 : Int} (h : Sh g m) (hx0 : gk g x0 = 6) (hx4 : gk g x4 = 20) : bX5_go_37 g x0 x1 x2 x3 x4 x5 x6 m = ebX5_go_37 g x0 x1 x2 x3 x4 x5 x6 m := by
  unfold bX5_go_37 ebX5_go_37
  refine bdl_q (qlX5_go_40 hx0 hx4 (n := 100000) (s0 := (0, m)) h) (fun cv1 sv2 hi3 => ?_)
  have h4 := nlX5_go_40 hx0 hx4 (s0 := (0, m)) h ((qlX5_go_40 hx0 hx4 (n := 100000) (s0 := (0, m)) h).symm.trans hi3)
  refine if_c (fun hc5 => ?_) (fun hc5 => ?_)
  · exact qX5_go_96 h4
  · refine if_c (fun hc6 => ?_) (fun hc6 => ?_)
    · exact qX5_go_123 h4
    · exact qX5_go_162 h4 hx0
theorem nX5_go_37 {g : Shp} {m : Mem} {x0 x1 x2 x3 x4 x5 x6 : Int} (h : Sh g m) (hx0 : gk g x0 = 6) (hx4 : gk g x4 = 20) {r : Int} {m' : Mem} (hF : ebX5_go_37 g x0 x1 x2 x3 x4 x5 x6 m = some (r, m')) : Sh g m' := by
  unfold ebX5_go_37 at hF
  obtain ⟨cv1, sv2, hi3, hF⟩ := bdl_ok hF
  have h4 := nlX5_go_40 hx0 hx4 (s0 := (0, m)) h hi3
  rcases if_ok hF with ⟨hc5, hF⟩ | ⟨hc5, hF⟩
  · exact nX5_go_96 h4  hF
  · rcases if_ok hF with ⟨hc6, hF⟩ | ⟨hc6, hF⟩
    · exact nX5_go_123 h4  hF
    · exact nX5_go_162 h4 hx0 hF
set_option maxRecDepth 20000 in
theorem qX5_go_9 {g : Shp} {m : Mem} {x0 x1 x2 x3 x4 x5 z0 : Int} (h : Sh g m) (hx0 : gk g x0 = 6) (hx4 : gk g x4 = 20) : bX5_go_9 g x0 x1 x2 x3 x4 x5 z0 m = ebX5_go_9 g x0 x1 x2 x3 x4 x5 z0 m := by
  unfold bX5_go_9 ebX5_go_9
  refine if_c (fun hc1 => ?_) (fun hc1 => ?_)
  · exact qX5_go_35 h
  · refine if_c (fun hc2 => ?_) (fun hc2 => ?_)
    · exact qX5_go_37 h hx0 hx4
    · refine if_c (fun hc3 => ?_) (fun hc3 => ?_)
      · exact qX5_go_35 h
      · exact qX5_go_37 h hx0 hx4
theorem nX5_go_9 {g : Shp} {m : Mem} {x0 x1 x2 x3 x4 x5 z0 : Int} (h : Sh g m) (hx0 : gk g x0 = 6) (hx4 : gk g x4 = 20) {r : Int} {m' : Mem} (hF : ebX5_go_9 g x0 x1 x2 x3 x4 x5 z0 m = some (r, m')) : Sh g m' := by
  unfold ebX5_go_9 at hF
  rcases if_ok hF with ⟨hc1, hF⟩ | ⟨hc1, hF⟩
  · exact nX5_go_35 h  hF
  · rcases if_ok hF with ⟨hc2, hF⟩ | ⟨hc2, hF⟩
    · exact nX5_go_37 h hx0 hx4 hF
    · rcases if_ok hF with ⟨hc3, hF⟩ | ⟨hc3, hF⟩
      · exact nX5_go_35 h  hF
      · exact nX5_go_37 h hx0 hx4 hF
set_option maxRecDepth 20000 in
theorem qX5_go_0 {g : Shp} {m : Mem} {x0 x1 x2 x3 x4 x5 : Int} (h : Sh g m) (hx0 : gk g x0 = 6) (hx4 : gk g x4 = 20) : bX5_go_0 g x0 x1 x2 x3 x4 x5 m = ebX5_go_0 g x0 x1 x2 x3 x4 x5 m := by
  unfold bX5_go_0 ebX5_go_0
  refine if_c (fun hc1 => ?_) (fun hc1 => ?_)
  · exact qX5_go_9 h hx0 hx4
  · exact qX5_go_9 h hx0 hx4
theorem nX5_go_0 {g : Shp} {m : Mem} {x0 x1 x2 x3 x4 x5 : Int} (h : Sh g m) (hx0 : gk g x0 = 6) (hx4 : gk g x4 = 20) {r : Int} {m' : Mem} (hF : ebX5_go_0 g x0 x1 x2 x3 x4 x5 m = some (r, m')) : Sh g m' := by
  unfold ebX5_go_0 at hF
  rcases if_ok hF with ⟨hc1, hF⟩ | ⟨hc1, hF⟩
  · exact nX5_go_9 h hx0 hx4 hF
  · exact nX5_go_9 h hx0 hx4 hF
theorem qX5_go {g : Shp} {m : Mem} {x0 x1 x2 x3 x4 x5 : Int} (h : Sh g m) (hx0 : gk g x0 = 6) (hx4 : gk g x4 = 20) : fX5_go g x0 x1 x2 x3 x4 x5 m = eX5_go g x0 x1 x2 x3 x4 x5 m := qX5_go_0 h hx0 hx4
theorem nX5_go {g : Shp} {m : Mem} {x0 x1 x2 x3 x4 x5 : Int} (h : Sh g m) (hx0 : gk g x0 = 6) (hx4 : gk g x4 = 20) {r : Int} {m' : Mem} (hF : eX5_go g x0 x1 x2 x3 x4 x5 m = some (r, m')) : Sh g m' := nX5_go_0 h hx0 hx4 hF
