def ebX11_in_15 (g : Shp) (z0 : Int) (m : Mem) : Option (Int × Mem) :=
  ck (z0 = 0 ∨ z0 = 1) <|
  some (z0, m)
def ebX11_in_14 (g : Shp) (m : Mem) : Option (Int × Mem) :=
  ebX11_in_15 g 0 m
def ebX11_in_0 (g : Shp) (x0 x1 x2 : Int) (m : Mem) : Option (Int × Mem) :=
  if x0 < x1 then
    ebX11_in_14 g m
  else
    if x2 < x0 then
      ebX11_in_14 g m
    else
      ebX11_in_15 g 1 m
def eX11_in (g : Shp) (x0 x1 x2 : Int) (m : Mem) : Option (Int × Mem) := ebX11_in_0 g x0 x1 x2 m
def ebX11_isLine_0 (g : Shp) (x1 : Int) (m : Mem) : Option (Int × Mem) :=
  bd2 (eX11_in g x1 0 (w32 ((m 241 20) - 1)) m) fun v1 m2 =>
  some (v1, m2)
def eX11_isLine (g : Shp) (x1 : Int) (m : Mem) : Option (Int × Mem) := ebX11_isLine_0 g x1 m
def ebX11_isColour_0 (g : Shp) (x0 : Int) (m : Mem) : Option (Int × Mem) :=
  bd2 (eX11_in g x0 0 2 m) fun v1 m2 =>
  some (v1, m2)
def eX11_isColour (g : Shp) (x0 : Int) (m : Mem) : Option (Int × Mem) := ebX11_isColour_0 g x0 m
def ebX11_isCovered_19 (g : Shp) (z0 : Int) (m : Mem) : Option (Int × Mem) :=
  ck (z0 = 0 ∨ z0 = 1) <|
  some (z0, m)
def ebX11_isCovered_0 (g : Shp) (x1 : Int) (m : Mem) : Option (Int × Mem) :=
  ck ((0 : Int) ≤ (w32 (10 + x1)) ∧ (w32 (10 + x1)) < 433) <|
  if (m 242 (w32 (10 + x1))) = ((-4)) then
    ebX11_isCovered_19 g 0 m
  else
    ebX11_isCovered_19 g 1 m
def eX11_isCovered (g : Shp) (x1 : Int) (m : Mem) : Option (Int × Mem) := ebX11_isCovered_0 g x1 m
def ebX11_begin_28 (g : Shp) (x1 : Int) (m : Mem) : Option (Int × (Int × Mem)) :=
  if 9 ≤ x1 then
    some (1, (x1, m))
  else
    ck ((0 : Int) ≤ x1 ∧ x1 < 9) <|
    vm (ms m 247 x1 6) fun m4 =>
    vv (w32 (x1 + 1)) fun y5 =>
    some (0, (y5, m4))
def eBX11_begin_28 (g : Shp) (q : (Int × Mem)) : Option (Int × (Int × Mem)) := ebX11_begin_28 g q.1 q.2
def ebX11_begin_48 (g : Shp) (m : Mem) : Option (Int × Mem) :=
  vm (ms m 241 10 0) fun m1 =>
  some (0, m1)
def ebX11_begin_0 (g : Shp) (m : Mem) : Option (Int × Mem) :=
  ck ((0 : Int) ≤ 0 ∧ 0 < (3 : Int)) <|
  vm (ms m 246 0 2) fun m3 =>
  ck ((0 : Int) ≤ 1 ∧ 1 < (3 : Int)) <|
  vm (ms m3 246 1 3) fun m6 =>
  ck ((0 : Int) ≤ 2 ∧ 2 < (3 : Int)) <|
  vm (ms m6 246 2 5) fun m9 =>
  vm (ms m9 241 8 0) fun m10 =>
  bdl (iter (eBX11_begin_28 g) 100000 (0, m10)) fun cv11 sv12 =>
  ebX11_begin_48 g sv12.2
def eX11_begin (g : Shp) (m : Mem) : Option (Int × Mem) := ebX11_begin_0 g m
def ebX11_beginLine_0 (g : Shp) (x1 x2 : Int) (m : Mem) : Option (Int × Mem) :=
  ck ((0 : Int) ≤ (m 241 10) ∧ (m 241 10) < 3) <|
  vm (ms m 248 (m 241 10) 0) fun m3 =>
  ck ((0 : Int) ≤ (m3 241 10) ∧ (m3 241 10) < 3) <|
  vm (ms m3 250 (m3 241 10) 0) fun m6 =>
  vm (ms m6 241 15 x1) fun m7 =>
  vm (ms m7 241 16 x2) fun m8 =>
  vm (ms m8 241 17 1) fun m9 =>
  some (0, m9)
def eX11_beginLine (g : Shp) (x1 x2 : Int) (m : Mem) : Option (Int × Mem) := ebX11_beginLine_0 g x1 x2 m
def ebX11_addCell_89 (g : Shp) (x1 x3 x4 z0 : Int) (m : Mem) : Option (Int × (Int × Int × Mem)) :=
  vv (w32 (x4 + 1)) fun y1 =>
  some (0, (z0, y1, m))
def ebX11_addCell_88 (g : Shp) (x1 x3 x4 : Int) (m : Mem) : Option (Int × (Int × Int × Mem)) :=
  ebX11_addCell_89 g x1 x3 x4 0 m
def ebX11_addCell_53 (g : Shp) (x1 x2 x3 x4 : Int) (m : Mem) : Option (Int × (Int × Int × Mem)) :=
  ck ((0 : Int) ≤ x1 ∧ x1 < 3) <|
  if (m 250 x1) ≤ x4 then
    some (1, (x2, x4, m))
  else
    if x2 = 0 then
      ebX11_addCell_88 g x1 x3 x4 m
    else
      ck ((0 : Int) ≤ (w32 ((w32 (60 * x1)) + x4)) ∧ (w32 ((w32 (60 * x1)) + x4)) < 180) <|
      if (m 251 (w32 ((w32 (60 * x1)) + x4))) = x3 then
        ebX11_addCell_88 g x1 x3 x4 m
      else
        ebX11_addCell_89 g x1 x3 x4 1 m
def eBX11_addCell_53 (g : Shp) (x1 x3 : Int) (q : (Int × Int × Mem)) : Option (Int × (Int × Int × Mem)) := ebX11_addCell_53 g x1 q.1 x3 q.2.1 q.2.2
def ebX11_addCell_127 (g : Shp) (x2 : Int) (m : Mem) : Option (Int × Mem) :=
  ck (x2 = 0 ∨ x2 = 1) <|
  some (x2, m)
def ebX11_addCell_96 (g : Shp) (x1 x2 x3 : Int) (m : Mem) : Option (Int × Mem) :=
  if x2 = 0 then
    ebX11_addCell_127 g x2 m
  else
    ck ((0 : Int) ≤ x1 ∧ x1 < 3) <|
    ck ((0 : Int) ≤ (w32 ((w32 (60 * x1)) + (m 250 x1))) ∧ (w32 ((w32 (60 * x1)) + (m 250 x1))) < 180) <|
    vm (ms m 251 (w32 ((w32 (60 * x1)) + (m 250 x1))) x3) fun m6 =>
    ck ((0 : Int) ≤ x1 ∧ x1 < 3) <|
    ck ((0 : Int) ≤ x1 ∧ x1 < 3) <|
    vm (ms m6 250 x1 (w32 ((m6 250 x1) + 1))) fun m10 =>
    ebX11_addCell_127 g x2 m10
def ebX11_addCell_36 (g : Shp) (x1 z0 : Int) (m : Mem) : Option (Int × Mem) :=
  vv (w32 ((w32 (20 * (m 241 16))) + (m 241 15))) fun y1 =>
  bdl (iter (eBX11_addCell_53 g x1 y1) 100000 (z0, 0, m)) fun cv2 sv3 =>
  ebX11_addCell_96 g x1 sv3.1 y1 sv3.2.2
def ebX11_addCell_35 (g : Shp) (x1 : Int) (m : Mem) : Option (Int × Mem) :=
  ebX11_addCell_36 g x1 0 m
def ebX11_addCell_0 (g : Shp) (m : Mem) : Option (Int × Mem) :=
  vv (m 241 10) fun y1 =>
  bd2 (eX11_in g (m 241 15) 0 19 m) fun v2 m3 =>
  if v2 = 0 then
    ebX11_addCell_35 g y1 m3
  else
    bd2 (eX11_in g (m3 241 16) 0 19 m3) fun v6 m7 =>
    if v6 = 0 then
      ebX11_addCell_35 g y1 m7
    else
      ebX11_addCell_36 g y1 1 m7
def eX11_addCell (g : Shp) (m : Mem) : Option (Int × Mem) := ebX11_addCell_0 g m
def ebX11_goRun_186 (g : Shp) (x1 x2 x3 x6 z1 z2 : Int) (m : Mem) : Option (Int × (Int × Mem)) :=
  vm (ms m 241 16 (w32 (z1 + z2))) fun m1 =>
  vm (ms m1 241 17 0) fun m2 =>
  bd2 (eX11_addCell g m2) fun v3 m4 =>
  if v3 = 0 then
    some (1, (x6, m4))
  else
    vv (w32 (x6 + 1)) fun y7 =>
    some (0, (y7, m4))
def ebX11_goRun_145 (g : Shp) (x1 x2 x3 x6 z1 z2 : Int) (m : Mem) : Option (Int × (Int × Mem)) :=
  vm (ms m 241 15 (w32 (z1 + z2))) fun m1 =>
  if (m1 241 17) = 0 then
    if x1 = 100 then
      ebX11_goRun_186 g x1 x2 x3 x6 (m1 241 16) 1 m1
    else
      if x1 = 117 then
        ebX11_goRun_186 g x1 x2 x3 x6 (m1 241 16) ((-1)) m1
      else
        ebX11_goRun_186 g x1 x2 x3 x6 (m1 241 16) 0 m1
  else
    ebX11_goRun_186 g x1 x2 x3 x6 (m1 241 16) 0 m1
def ebX11_goRun_102 (g : Shp) (x1 x2 x3 x6 : Int) (m : Mem) : Option (Int × (Int × Mem)) :=
  if x2 ≤ x6 then
    some (2, (x6, m))
  else
    if (m 241 17) = 0 then
      if x1 = 114 then
        ebX11_goRun_145 g x1 x2 x3 x6 (m 241 15) 1 m
      else
        if x1 = 108 then
          ebX11_goRun_145 g x1 x2 x3 x6 (m 241 15) ((-1)) m
        else
          ebX11_goRun_145 g x1 x2 x3 x6 (m 241 15) 0 m
    else
      ebX11_goRun_145 g x1 x2 x3 x6 (m 241 15) 0 m
def eBX11_goRun_102 (g : Shp) (x1 x2 x3 : Int) (q : (Int × Mem)) : Option (Int × (Int × Mem)) := ebX11_goRun_102 g x1 x2 x3 q.1 q.2
def ebX11_goRun_91 (g : Shp) (m : Mem) : Option (Int × Mem) :=
  some (0, m)
def ebX11_goRun_202 (g : Shp) (m : Mem) : Option (Int × Mem) :=
  some (0, m)
def ebX11_goRun_210 (g : Shp) (x2 x3 : Int) (m : Mem) : Option (Int × Mem) :=
  ck ((0 : Int) ≤ x3 ∧ x3 < 3) <|
  ck ((0 : Int) ≤ (w32 ((w32 (5 * x3)) + (m 248 x3))) ∧ (w32 ((w32 (5 * x3)) + (m 248 x3))) < 15) <|
  vm (ms m 249 (w32 ((w32 (5 * x3)) + (m 248 x3))) x2) fun m5 =>
  ck ((0 : Int) ≤ x3 ∧ x3 < 3) <|
  ck ((0 : Int) ≤ x3 ∧ x3 < 3) <|
  vm (ms m5 248 x3 (w32 ((m5 248 x3) + 1))) fun m9 =>
  some (1, m9)
def ebX11_goRun_93 (g : Shp) (x1 x2 x3 x4 : Int) (m : Mem) : Option (Int × Mem) :=
  ck (x4 = 0 ∨ x4 = 1) <|
  vm (ms m 241 18 x4) fun m2 =>
  bdl (iter (eBX11_goRun_102 g x1 x2 x3) 100000 (0, m2)) fun cv3 sv4 =>
  if cv3 = 1 then
    ebX11_goRun_202 g sv4.2
  else
    ebX11_goRun_210 g x2 x3 sv4.2
def ebX11_goRun_53 (g : Shp) (x1 x2 x3 x4 : Int) (m : Mem) : Option (Int × Mem) :=
  bd2 (eX11_in g x2 1 12 m) fun v1 m2 =>
  if v1 = 0 then
    ebX11_goRun_91 g m2
  else
    ck ((0 : Int) ≤ x3 ∧ x3 < 3) <|
    if (m2 248 x3) = 5 then
      ebX11_goRun_91 g m2
    else
      ck ((0 : Int) ≤ x3 ∧ x3 < 3) <|
      if (m2 248 x3) ≤ 0 then
        ebX11_goRun_93 g x1 x2 x3 x4 m2
      else
        if x4 = (m2 241 18) then
          ebX11_goRun_91 g m2
        else
          ebX11_goRun_93 g x1 x2 x3 x4 m2
def ebX11_goRun_41 (g : Shp) (x1 x2 x3 x4 z0 : Int) (m : Mem) : Option (Int × Mem) :=
  if x4 = 0 then
    if z0 = 0 then
      ebX11_goRun_91 g m
    else
      ebX11_goRun_53 g x1 x2 x3 x4 m
  else
    ebX11_goRun_53 g x1 x2 x3 x4 m
def ebX11_goRun_36 (g : Shp) (x1 x2 x3 x4 : Int) (m : Mem) : Option (Int × Mem) :=
  ebX11_goRun_41 g x1 x2 x3 x4 1 m
def ebX11_goRun_22 (g : Shp) (x1 x2 x3 z0 : Int) (m : Mem) : Option (Int × Mem) :=
  if x1 = 100 then
    ebX11_goRun_36 g x1 x2 x3 z0 m
  else
    if x1 = 117 then
      ebX11_goRun_36 g x1 x2 x3 z0 m
    else
      ebX11_goRun_41 g x1 x2 x3 z0 0 m
def ebX11_goRun_17 (g : Shp) (x1 x2 x3 : Int) (m : Mem) : Option (Int × Mem) :=
  ebX11_goRun_22 g x1 x2 x3 1 m
def ebX11_goRun_0 (g : Shp) (x1 x2 : Int) (m : Mem) : Option (Int × Mem) :=
  vv (m 241 10) fun y1 =>
  if x1 = 114 then
    ebX11_goRun_17 g x1 x2 y1 m
  else
    if x1 = 108 then
      ebX11_goRun_17 g x1 x2 y1 m
    else
      ebX11_goRun_22 g x1 x2 y1 0 m
def eX11_goRun (g : Shp) (x1 x2 : Int) (m : Mem) : Option (Int × Mem) := ebX11_goRun_0 g x1 x2 m
def ebX11_takeSign_44 (g : Shp) (x2 z1 z2 : Int) (m : Mem) : Option (Int × Mem) :=
  vm (ms m 241 6 (w32 (z1 + z2))) fun m1 =>
  ck (x2 = 0 ∨ x2 = 1) <|
  some (x2, m1)
def ebX11_takeSign_29 (g : Shp) (z0 : Int) (m : Mem) : Option (Int × Mem) :=
  if z0 = 0 then
    ebX11_takeSign_44 g z0 (m 241 6) 0 m
  else
    ebX11_takeSign_44 g z0 (m 241 6) 1 m
def ebX11_takeSign_28 (g : Shp) (m : Mem) : Option (Int × Mem) :=
  ebX11_takeSign_29 g 0 m
def ebX11_takeSign_0 (g : Shp) (x1 : Int) (m : Mem) : Option (Int × Mem) :=
  if (m 241 5) ≤ (m 241 6) then
    ebX11_takeSign_28 g m
  else
    ck ((0 : Int) ≤ (m 241 6) ∧ (m 241 6) < 200) <|
    if (m 245 (m 241 6)) = x1 then
      ebX11_takeSign_29 g 1 m
    else
      ebX11_takeSign_28 g m
def eX11_takeSign (g : Shp) (x1 : Int) (m : Mem) : Option (Int × Mem) := ebX11_takeSign_0 g x1 m
def ebX11_takeNumber_51 (g : Shp) (x2 z0 z1 : Int) (m : Mem) : Option (Int × (Int × Int × Mem)) :=
  ck ((0 : Int) ≤ (m 241 6) ∧ (m 241 6) < 200) <|
  vv (w32 ((w32 ((w32 (z0 * z1)) + (m 245 (m 241 6)))) - 48)) fun y3 =>
  vm (ms m 241 6 (w32 ((m 241 6) + 1))) fun m4 =>
  vv (w32 (x2 + 1)) fun y5 =>
  some (0, (y3, y5, m4))
def ebX11_takeNumber_5 (g : Shp) (x1 x2 : Int) (m : Mem) : Option (Int × (Int × Int × Mem)) :=
  if 2 ≤ x2 then
    some (1, (x1, x2, m))
  else
    if (m 241 5) ≤ (m 241 6) then
      some (1, (x1, x2, m))
    else
      ck ((0 : Int) ≤ (m 241 6) ∧ (m 241 6) < 200) <|
      bd2 (eX11_in g (m 245 (m 241 6)) 48 57 m) fun v5 m6 =>
      if v5 = 0 then
        some (1, (x1, x2, m6))
      else
        if x2 = 0 then
          ebX11_takeNumber_51 g x2 10 0 m6
        else
          ebX11_takeNumber_51 g x2 10 x1 m6
def eBX11_takeNumber_5 (g : Shp) (q : (Int × Int × Mem)) : Option (Int × (Int × Int × Mem)) := ebX11_takeNumber_5 g q.1 q.2.1 q.2.2
def ebX11_takeNumber_82 (g : Shp) (x1 : Int) (m : Mem) : Option (Int × Mem) :=
  some (x1, m)
def ebX11_takeNumber_0 (g : Shp) (m : Mem) : Option (Int × Mem) :=
  bdl (iter (eBX11_takeNumber_5 g) 100000 ((-4), 0, m)) fun cv1 sv2 =>
  ebX11_takeNumber_82 g sv2.1 sv2.2.2
def eX11_takeNumber (g : Shp) (m : Mem) : Option (Int × Mem) := ebX11_takeNumber_0 g m
def ebX11_readSizes_72 (g : Shp) (m : Mem) : Option (Int × Mem) :=
  some (0, m)
def ebX11_readSizes_0 (g : Shp) (m : Mem) : Option (Int × Mem) :=
  bd2 (eX11_takeNumber g m) fun v1 m2 =>
  bd2 (eX11_takeSign g 44 m2) fun v4 m5 =>
  bd2 (eX11_takeNumber g m5) fun v7 m8 =>
  bd2 (eX11_takeSign g 44 m8) fun v10 m11 =>
  bd2 (eX11_takeNumber g m11) fun v13 m14 =>
  if v4 = 0 then
    ebX11_readSizes_72 g m14
  else
    if v10 = 0 then
      ebX11_readSizes_72 g m14
    else
      bd2 (eX11_takeSign g 59 m14) fun v18 m19 =>
      if v18 = 0 then
        ebX11_readSizes_72 g m19
      else
        if v1 < 1 then
          ebX11_readSizes_72 g m19
        else
          if v7 ≤ v1 then
            ebX11_readSizes_72 g m19
          else
            if v13 ≤ v7 then
              ebX11_readSizes_72 g m19
            else
              if v13 ≤ 9 then
                ck ((0 : Int) ≤ 0 ∧ 0 < (3 : Int)) <|
                vm (ms m19 246 0 v1) fun m28 =>
                ck ((0 : Int) ≤ 1 ∧ 1 < (3 : Int)) <|
                vm (ms m28 246 1 v7) fun m31 =>
                ck ((0 : Int) ≤ 2 ∧ 2 < (3 : Int)) <|
                vm (ms m31 246 2 v13) fun m34 =>
                some (1, m34)
              else
                ebX11_readSizes_72 g m19
def eX11_readSizes (g : Shp) (m : Mem) : Option (Int × Mem) := ebX11_readSizes_0 g m
def ebX11_readTheBag_73 (g : Shp) (x1 x2 x3 : Int) (m : Mem) : Option (Int × (Int × Int × Mem)) :=
  vv (w32 (x3 + 1)) fun y1 =>
  some (0, (x2, y1, m))
def ebX11_readTheBag_56 (g : Shp) (x1 x3 x5 z0 : Int) (m : Mem) : Option (Int × (Int × Int × Mem)) :=
  if z0 = 0 then
    ebX11_readTheBag_73 g x1 z0 x3 m
  else
    ck ((0 : Int) ≤ (w32 ((w32 (3 * x1)) + x3)) ∧ (w32 ((w32 (3 * x1)) + x3)) < 9) <|
    vm (ms m 247 (w32 ((w32 (3 * x1)) + x3)) x5) fun m4 =>
    ebX11_readTheBag_73 g x1 z0 x3 m4
def ebX11_readTheBag_55 (g : Shp) (x1 x3 x5 : Int) (m : Mem) : Option (Int × (Int × Int × Mem)) :=
  ebX11_readTheBag_56 g x1 x3 x5 0 m
def ebX11_readTheBag_12 (g : Shp) (x1 x2 x3 : Int) (m : Mem) : Option (Int × (Int × Int × Mem)) :=
  if 3 ≤ x3 then
    some (1, (x2, x3, m))
  else
    if x2 = 0 then
      some (1, (x2, x3, m))
    else
      bd2 (eX11_takeSign g 44 m) fun v3 m4 =>
      bd2 (eX11_takeNumber g m4) fun v6 m7 =>
      if v3 = 0 then
        ebX11_readTheBag_55 g x1 x3 v6 m7
      else
        bd2 (eX11_in g v6 0 6 m7) fun v10 m11 =>
        if v10 = 0 then
          ebX11_readTheBag_55 g x1 x3 v6 m11
        else
          ebX11_readTheBag_56 g x1 x3 v6 1 m11
def eBX11_readTheBag_12 (g : Shp) (x1 : Int) (q : (Int × Int × Mem)) : Option (Int × (Int × Int × Mem)) := ebX11_readTheBag_12 g x1 q.1 q.2.1 q.2.2
def ebX11_readTheBag_97 (g : Shp) (z0 : Int) (m : Mem) : Option (Int × Mem) :=
  ck (z0 = 0 ∨ z0 = 1) <|
  some (z0, m)
def ebX11_readTheBag_96 (g : Shp) (m : Mem) : Option (Int × Mem) :=
  ebX11_readTheBag_97 g 0 m
def ebX11_readTheBag_79 (g : Shp) (x2 : Int) (m : Mem) : Option (Int × Mem) :=
  if x2 = 0 then
    ebX11_readTheBag_96 g m
  else
    bd2 (eX11_takeSign g 59 m) fun v2 m3 =>
    if v2 = 0 then
      ebX11_readTheBag_96 g m3
    else
      ebX11_readTheBag_97 g 1 m3
def ebX11_readTheBag_0 (g : Shp) (m : Mem) : Option (Int × Mem) :=
  bd2 (eX11_takeNumber g m) fun v1 m2 =>
  bd2 (eX11_isColour g v1 m2) fun v4 m5 =>
  bdl (iter (eBX11_readTheBag_12 g v1) 100000 (v4, 0, m5)) fun cv7 sv8 =>
  ebX11_readTheBag_79 g sv8.1 sv8.2.2
def eX11_readTheBag (g : Shp) (m : Mem) : Option (Int × Mem) := ebX11_readTheBag_0 g m
def ebX11_readLine_102 (g : Shp) (z0 : Int) (m : Mem) : Option (Int × (Int × Mem)) :=
  vm (ms m 241 6 (w32 ((m 241 6) + 1))) fun m1 =>
  bd2 (eX11_takeNumber g m1) fun v2 m3 =>
  bd2 (eX11_goRun g z0 v2 m3) fun v5 m6 =>
  if v5 = 0 then
    some (1, (0, m6))
  else
    bd2 (eX11_takeSign g 59 m6) fun v9 m10 =>
    some (0, (v9, m10))
def ebX11_readLine_73 (g : Shp) (x5 : Int) (m : Mem) : Option (Int × (Int × Mem)) :=
  if x5 = 0 then
    if (m 241 5) ≤ (m 241 6) then
      ebX11_readLine_102 g 0 m
    else
      ck ((0 : Int) ≤ (m 241 6) ∧ (m 241 6) < 200) <|
      ebX11_readLine_102 g (m 245 (m 241 6)) m
  else
    some (2, (x5, m))
def eBX11_readLine_73 (g : Shp) (q : (Int × Mem)) : Option (Int × (Int × Mem)) := ebX11_readLine_73 g q.1 q.2
def ebX11_readLine_62 (g : Shp) (m : Mem) : Option (Int × Mem) :=
  some (0, m)
def ebX11_readLine_127 (g : Shp) (m : Mem) : Option (Int × Mem) :=
  some (0, m)
def ebX11_readLine_140 (g : Shp) (m : Mem) : Option (Int × Mem) :=
  vm (ms m 241 10 (w32 ((m 241 10) + 1))) fun m1 =>
  some (1, m1)
def ebX11_readLine_0 (g : Shp) (m : Mem) : Option (Int × Mem) :=
  bd2 (eX11_takeNumber g m) fun v1 m2 =>
  bd2 (eX11_takeSign g 44 m2) fun v4 m5 =>
  bd2 (eX11_takeNumber g m5) fun v7 m8 =>
  bd2 (eX11_takeSign g 44 m8) fun v10 m11 =>
  if (m11 241 10) = 3 then
    ebX11_readLine_62 g m11
  else
    if v4 = 0 then
      ebX11_readLine_62 g m11
    else
      if v10 = 0 then
        ebX11_readLine_62 g m11
      else
        bd2 (eX11_in g v1 0 19 m11) fun v16 m17 =>
        if v16 = 0 then
          ebX11_readLine_62 g m17
        else
          bd2 (eX11_in g v7 0 19 m17) fun v20 m21 =>
          if v20 = 0 then
            ebX11_readLine_62 g m21
          else
            bd2 (eX11_beginLine g v1 v7 m21) fun v24 m25 =>
            bdl (iter (eBX11_readLine_73 g) 100000 (0, m25)) fun cv27 sv28 =>
            if cv27 = 1 then
              ebX11_readLine_127 g sv28.2
            else
              ebX11_readLine_140 g sv28.2
def eX11_readLine (g : Shp) (m : Mem) : Option (Int × Mem) := ebX11_readLine_0 g m
set_option maxRecDepth 20000 in
theorem qX11_in_15 {g : Shp} {m : Mem} {z0 : Int} (h : Sh g m)  : bX11_in_15 g z0 m = ebX11_in_15 g z0 m := by
  unfold bX11_in_15 ebX11_in_15
  refine ck_c (fun b1 => ?_)
  rfl
theorem nX11_in_15 {g : Shp} {m : Mem} {z0 : Int} (h : Sh g m)  {r : Int} {m' : Mem} (hF : ebX11_in_15 g z0 m = some (r, m')) : Sh g m' := by
  unfold ebX11_in_15 at hF
  obtain ⟨b1, hF⟩ := ck_ok hF
  cases hF
  exact h
set_option maxRecDepth 20000 in
theorem qX11_in_14 {g : Shp} {m : Mem} (h : Sh g m)  : bX11_in_14 g m = ebX11_in_14 g m := by
  unfold bX11_in_14 ebX11_in_14
  exact qX11_in_15 h 
theorem nX11_in_14 {g : Shp} {m : Mem} (h : Sh g m)  {r : Int} {m' : Mem} (hF : ebX11_in_14 g m = some (r, m')) : Sh g m' := by
  unfold ebX11_in_14 at hF
  exact nX11_in_15 h  hF
set_option maxRecDepth 20000 in
theorem qX11_in_0 {g : Shp} {m : Mem} {x0 x1 x2 : Int} (h : Sh g m)  : bX11_in_0 g x0 x1 x2 m = ebX11_in_0 g x0 x1 x2 m := by
  unfold bX11_in_0 ebX11_in_0
  refine if_c (fun hc1 => ?_) (fun hc1 => ?_)
  · exact qX11_in_14 h
  · refine if_c (fun hc2 => ?_) (fun hc2 => ?_)
    · exact qX11_in_14 h
    · exact qX11_in_15 h
theorem nX11_in_0 {g : Shp} {m : Mem} {x0 x1 x2 : Int} (h : Sh g m)  {r : Int} {m' : Mem} (hF : ebX11_in_0 g x0 x1 x2 m = some (r, m')) : Sh g m' := by
  unfold ebX11_in_0 at hF
  rcases if_ok hF with ⟨hc1, hF⟩ | ⟨hc1, hF⟩
  · exact nX11_in_14 h  hF
  · rcases if_ok hF with ⟨hc2, hF⟩ | ⟨hc2, hF⟩
    · exact nX11_in_14 h  hF
    · exact nX11_in_15 h  hF
theorem qX11_in {g : Shp} {m : Mem} {x0 x1 x2 : Int} (h : Sh g m)  : fX11_in g x0 x1 x2 m = eX11_in g x0 x1 x2 m := qX11_in_0 h 
theorem nX11_in {g : Shp} {m : Mem} {x0 x1 x2 : Int} (h : Sh g m)  {r : Int} {m' : Mem} (hF : eX11_in g x0 x1 x2 m = some (r, m')) : Sh g m' := nX11_in_0 h  hF
set_option maxRecDepth 20000 in
theorem qX11_isLine_0 {g : Shp} {m : Mem} {x1 : Int} (h : Sh g m)  : bX11_isLine_0 g 241 x1 m = ebX11_isLine_0 g x1 m := by
  unfold bX11_isLine_0 ebX11_isLine_0
  refine bd2_q (qX11_in h ) (fun v1 m2 h3 => ?_)
  have hm2 := nX11_in h  ((qX11_in h ).symm.trans h3)
  rfl
theorem nX11_isLine_0 {g : Shp} {m : Mem} {x1 : Int} (h : Sh g m)  {r : Int} {m' : Mem} (hF : ebX11_isLine_0 g x1 m = some (r, m')) : Sh g m' := by
  unfold ebX11_isLine_0 at hF
  obtain ⟨v1, m2, h3, hF⟩ := bd2_ok hF
  have hm2 := nX11_in h  h3
  cases hF
  exact hm2
theorem qX11_isLine {g : Shp} {m : Mem} {x1 : Int} (h : Sh g m)  : fX11_isLine g 241 x1 m = eX11_isLine g x1 m := qX11_isLine_0 h 
theorem nX11_isLine {g : Shp} {m : Mem} {x1 : Int} (h : Sh g m)  {r : Int} {m' : Mem} (hF : eX11_isLine g x1 m = some (r, m')) : Sh g m' := nX11_isLine_0 h  hF
set_option maxRecDepth 20000 in
theorem qX11_isColour_0 {g : Shp} {m : Mem} {x0 : Int} (h : Sh g m)  : bX11_isColour_0 g x0 m = ebX11_isColour_0 g x0 m := by
  unfold bX11_isColour_0 ebX11_isColour_0
  refine bd2_q (qX11_in h ) (fun v1 m2 h3 => ?_)
  have hm2 := nX11_in h  ((qX11_in h ).symm.trans h3)
  rfl
theorem nX11_isColour_0 {g : Shp} {m : Mem} {x0 : Int} (h : Sh g m)  {r : Int} {m' : Mem} (hF : ebX11_isColour_0 g x0 m = some (r, m')) : Sh g m' := by
  unfold ebX11_isColour_0 at hF
  obtain ⟨v1, m2, h3, hF⟩ := bd2_ok hF
  have hm2 := nX11_in h  h3
  cases hF
  exact hm2
theorem qX11_isColour {g : Shp} {m : Mem} {x0 : Int} (h : Sh g m)  : fX11_isColour g x0 m = eX11_isColour g x0 m := qX11_isColour_0 h 
theorem nX11_isColour {g : Shp} {m : Mem} {x0 : Int} (h : Sh g m)  {r : Int} {m' : Mem} (hF : eX11_isColour g x0 m = some (r, m')) : Sh g m' := nX11_isColour_0 h  hF
set_option maxRecDepth 20000 in
theorem qX11_isCovered_19 {g : Shp} {m : Mem} {z0 : Int} (h : Sh g m)  : bX11_isCovered_19 g z0 m = ebX11_isCovered_19 g z0 m := by
  unfold bX11_isCovered_19 ebX11_isCovered_19
  refine ck_c (fun b1 => ?_)
  rfl
theorem nX11_isCovered_19 {g : Shp} {m : Mem} {z0 : Int} (h : Sh g m)  {r : Int} {m' : Mem} (hF : ebX11_isCovered_19 g z0 m = some (r, m')) : Sh g m' := by
  unfold ebX11_isCovered_19 at hF
  obtain ⟨b1, hF⟩ := ck_ok hF
  cases hF
  exact h
set_option maxRecDepth 20000 in
theorem qX11_isCovered_0 {g : Shp} {m : Mem} {x1 : Int} (h : Sh g m)  : bX11_isCovered_0 g 241 x1 m = ebX11_isCovered_0 g x1 m := by
  unfold bX11_isCovered_0 ebX11_isCovered_0
  have k1 := s_241_0 h
  rewrite [k1.1, ck_t k1.2.1]
  try rewrite [k1.2.2]
  refine ck_c (fun i2 => ?_)
  refine if_c (fun hc3 => ?_) (fun hc3 => ?_)
  · exact qX11_isCovered_19 h
  · exact qX11_isCovered_19 h
theorem nX11_isCovered_0 {g : Shp} {m : Mem} {x1 : Int} (h : Sh g m)  {r : Int} {m' : Mem} (hF : ebX11_isCovered_0 g x1 m = some (r, m')) : Sh g m' := by
  unfold ebX11_isCovered_0 at hF
  have k1 := s_241_0 h
  obtain ⟨i2, hF⟩ := ck_ok hF
  rcases if_ok hF with ⟨hc3, hF⟩ | ⟨hc3, hF⟩
  · exact nX11_isCovered_19 h  hF
  · exact nX11_isCovered_19 h  hF
theorem qX11_isCovered {g : Shp} {m : Mem} {x1 : Int} (h : Sh g m)  : fX11_isCovered g 241 x1 m = eX11_isCovered g x1 m := qX11_isCovered_0 h 
theorem nX11_isCovered {g : Shp} {m : Mem} {x1 : Int} (h : Sh g m)  {r : Int} {m' : Mem} (hF : eX11_isCovered g x1 m = some (r, m')) : Sh g m' := nX11_isCovered_0 h  hF
set_option maxRecDepth 20000 in
theorem qX11_begin_28 {g : Shp} {m : Mem} {x1 : Int} (h : Sh g m)  : bX11_begin_28 g 241 x1 m = ebX11_begin_28 g x1 m := by
  unfold bX11_begin_28 ebX11_begin_28
  refine if_c (fun hc1 => ?_) (fun hc1 => ?_)
  · rfl
  · have k2 := s_241_9 h
    rewrite [k2.1, ck_t k2.2.1]
    try rewrite [k2.2.2]
    refine ck_c (fun i3 => ?_)
    refine vm_c (fun m4 em4 => ?_)
    have hm4 := h.s em4 (nRa k2.2.1 (by decide))
    refine vv_c (fun y5 ey5 => ?_)
    rfl
theorem nX11_begin_28 {g : Shp} {m : Mem} {x1 : Int} (h : Sh g m)  {c1 : Int} {s1 : (Int × Mem)} (hF : ebX11_begin_28 g x1 m = some (c1, s1)) : Sh g s1.2 := by
  unfold ebX11_begin_28 at hF
  rcases if_ok hF with ⟨hc1, hF⟩ | ⟨hc1, hF⟩
  · cases hF
    exact h
  · have k2 := s_241_9 h
    obtain ⟨i3, hF⟩ := ck_ok hF
    obtain ⟨m4, em4, hF⟩ := vm_ok hF
    have hm4 := h.s em4 (nRa k2.2.1 (by decide))
    obtain ⟨y5, ey5, hF⟩ := vv_ok hF
    cases hF
    exact hm4
theorem nlX11_begin_28 {g : Shp}  {n : Nat} {s0 s1 : (Int × Mem)} {c1 : Int} (h : Sh g s0.2) (hI : iter (eBX11_begin_28 g ) n s0 = some (c1, s1)) : Sh g s1.2 :=
  iter_inv (B := eBX11_begin_28 g ) (fun q => Sh g q.2) (fun s c s' hs hB => nX11_begin_28 hs  hB) n s0 c1 s1 h hI
theorem qlX11_begin_28 {g : Shp}  {n : Nat} {s0 : (Int × Mem)} (h : Sh g s0.2) : iter (BX11_begin_28 g 241) n s0 = iter (eBX11_begin_28 g ) n s0 :=
  iter_eq (B := BX11_begin_28 g 241) (E := eBX11_begin_28 g ) (fun q => Sh g q.2) (fun s hs => qX11_begin_28 hs ) (fun s c s' hs hB => nX11_begin_28 hs  ((qX11_begin_28 hs ).symm.trans hB)) n s0 h
set_option maxRecDepth 20000 in
theorem qX11_begin_48 {g : Shp} {m : Mem} (h : Sh g m)  : bX11_begin_48 g 241 m = ebX11_begin_48 g m := by
  unfold bX11_begin_48 ebX11_begin_48
  refine vm_c (fun m1 em1 => ?_)
  have hm1 := h.s em1 (nRf (sk_241 h) (by decide) (by decide))
  rfl
theorem nX11_begin_48 {g : Shp} {m : Mem} (h : Sh g m)  {r : Int} {m' : Mem} (hF : ebX11_begin_48 g m = some (r, m')) : Sh g m' := by
  unfold ebX11_begin_48 at hF
  obtain ⟨m1, em1, hF⟩ := vm_ok hF
  have hm1 := h.s em1 (nRf (sk_241 h) (by decide) (by decide))
  cases hF
  exact hm1
set_option maxRecDepth 20000 in
theorem qX11_begin_0 {g : Shp} {m : Mem} (h : Sh g m)  : bX11_begin_0 g 241 m = ebX11_begin_0 g m := by
  unfold bX11_begin_0 ebX11_begin_0
  have k1 := s_241_7 h
  rewrite [k1.1, ck_t k1.2.1]
  try rewrite [k1.2.2]
  refine ck_c (fun i2 => ?_)
  refine vm_c (fun m3 em3 => ?_)
  have hm3 := h.s em3 (nRa k1.2.1 (by decide))
  have k4 := s_241_7 hm3
  rewrite [k4.1, ck_t k4.2.1]
  try rewrite [k4.2.2]
  refine ck_c (fun i5 => ?_)
  refine vm_c (fun m6 em6 => ?_)
  have hm6 := hm3.s em6 (nRa k4.2.1 (by decide))
  have k7 := s_241_7 hm6
  rewrite [k7.1, ck_t k7.2.1]
  try rewrite [k7.2.2]
  refine ck_c (fun i8 => ?_)
  refine vm_c (fun m9 em9 => ?_)
  have hm9 := hm6.s em9 (nRa k7.2.1 (by decide))
  refine vm_c (fun m10 em10 => ?_)
  have hm10 := hm9.s em10 (nRf (sk_241 hm9) (by decide) (by decide))
  refine bdl_q (qlX11_begin_28  (n := 100000) (s0 := (0, m10)) hm10) (fun cv11 sv12 hi13 => ?_)
  have h14 := nlX11_begin_28  (s0 := (0, m10)) hm10 ((qlX11_begin_28  (n := 100000) (s0 := (0, m10)) hm10).symm.trans hi13)
  exact qX11_begin_48 h14 
theorem nX11_begin_0 {g : Shp} {m : Mem} (h : Sh g m)  {r : Int} {m' : Mem} (hF : ebX11_begin_0 g m = some (r, m')) : Sh g m' := by
  unfold ebX11_begin_0 at hF
  have k1 := s_241_7 h
  obtain ⟨i2, hF⟩ := ck_ok hF
  obtain ⟨m3, em3, hF⟩ := vm_ok hF
  have hm3 := h.s em3 (nRa k1.2.1 (by decide))
  have k4 := s_241_7 hm3
  obtain ⟨i5, hF⟩ := ck_ok hF
  obtain ⟨m6, em6, hF⟩ := vm_ok hF
  have hm6 := hm3.s em6 (nRa k4.2.1 (by decide))
  have k7 := s_241_7 hm6
  obtain ⟨i8, hF⟩ := ck_ok hF
  obtain ⟨m9, em9, hF⟩ := vm_ok hF
  have hm9 := hm6.s em9 (nRa k7.2.1 (by decide))
  obtain ⟨m10, em10, hF⟩ := vm_ok hF
  have hm10 := hm9.s em10 (nRf (sk_241 hm9) (by decide) (by decide))
  obtain ⟨cv11, sv12, hi13, hF⟩ := bdl_ok hF
  have h14 := nlX11_begin_28  (s0 := (0, m10)) hm10 hi13
  exact nX11_begin_48 h14  hF
theorem qX11_begin {g : Shp} {m : Mem} (h : Sh g m)  : fX11_begin g 241 m = eX11_begin g m := qX11_begin_0 h 
theorem nX11_begin {g : Shp} {m : Mem} (h : Sh g m)  {r : Int} {m' : Mem} (hF : eX11_begin g m = some (r, m')) : Sh g m' := nX11_begin_0 h  hF
set_option maxRecDepth 20000 in
theorem qX11_beginLine_0 {g : Shp} {m : Mem} {x1 x2 : Int} (h : Sh g m)  : bX11_beginLine_0 g 241 x1 x2 m = ebX11_beginLine_0 g x1 x2 m := by
  unfold bX11_beginLine_0 ebX11_beginLine_0
  have k1 := s_241_11 h
  rewrite [k1.1, ck_t k1.2.1]
  try rewrite [k1.2.2]
  refine ck_c (fun i2 => ?_)
  refine vm_c (fun m3 em3 => ?_)
  have hm3 := h.s em3 (nRa k1.2.1 (by decide))
  have k4 := s_241_13 hm3
  rewrite [k4.1, ck_t k4.2.1]
  try rewrite [k4.2.2]
  refine ck_c (fun i5 => ?_)
  refine vm_c (fun m6 em6 => ?_)
  have hm6 := hm3.s em6 (nRa k4.2.1 (by decide))
  refine vm_c (fun m7 em7 => ?_)
  have hm7 := hm6.s em7 (nRf (sk_241 hm6) (by decide) (by decide))
  refine vm_c (fun m8 em8 => ?_)
  have hm8 := hm7.s em8 (nRf (sk_241 hm7) (by decide) (by decide))
  refine vm_c (fun m9 em9 => ?_)
  have hm9 := hm8.s em9 (nRf (sk_241 hm8) (by decide) (by decide))
  rfl
theorem nX11_beginLine_0 {g : Shp} {m : Mem} {x1 x2 : Int} (h : Sh g m)  {r : Int} {m' : Mem} (hF : ebX11_beginLine_0 g x1 x2 m = some (r, m')) : Sh g m' := by
  unfold ebX11_beginLine_0 at hF
  have k1 := s_241_11 h
  obtain ⟨i2, hF⟩ := ck_ok hF
  obtain ⟨m3, em3, hF⟩ := vm_ok hF
  have hm3 := h.s em3 (nRa k1.2.1 (by decide))
  have k4 := s_241_13 hm3
  obtain ⟨i5, hF⟩ := ck_ok hF
  obtain ⟨m6, em6, hF⟩ := vm_ok hF
  have hm6 := hm3.s em6 (nRa k4.2.1 (by decide))
  obtain ⟨m7, em7, hF⟩ := vm_ok hF
  have hm7 := hm6.s em7 (nRf (sk_241 hm6) (by decide) (by decide))
  obtain ⟨m8, em8, hF⟩ := vm_ok hF
  have hm8 := hm7.s em8 (nRf (sk_241 hm7) (by decide) (by decide))
  obtain ⟨m9, em9, hF⟩ := vm_ok hF
  have hm9 := hm8.s em9 (nRf (sk_241 hm8) (by decide) (by decide))
  cases hF
  exact hm9
theorem qX11_beginLine {g : Shp} {m : Mem} {x1 x2 : Int} (h : Sh g m)  : fX11_beginLine g 241 x1 x2 m = eX11_beginLine g x1 x2 m := qX11_beginLine_0 h 
theorem nX11_beginLine {g : Shp} {m : Mem} {x1 x2 : Int} (h : Sh g m)  {r : Int} {m' : Mem} (hF : eX11_beginLine g x1 x2 m = some (r, m')) : Sh g m' := nX11_beginLine_0 h  hF
set_option maxRecDepth 20000 in
theorem qX11_addCell_89 {g : Shp} {m : Mem} {x1 x3 x4 z0 : Int} (h : Sh g m)  : bX11_addCell_89 g 241 x1 x3 x4 z0 m = ebX11_addCell_89 g x1 x3 x4 z0 m := by
  unfold bX11_addCell_89 ebX11_addCell_89
  refine vv_c (fun y1 ey1 => ?_)
  rfl
theorem nX11_addCell_89 {g : Shp} {m : Mem} {x1 x3 x4 z0 : Int} (h : Sh g m)  {c1 : Int} {s1 : (Int × Int × Mem)} (hF : ebX11_addCell_89 g x1 x3 x4 z0 m = some (c1, s1)) : Sh g s1.2.2 := by
  unfold ebX11_addCell_89 at hF
  obtain ⟨y1, ey1, hF⟩ := vv_ok hF
  cases hF
  exact h
set_option maxRecDepth 20000 in
theorem qX11_addCell_88 {g : Shp} {m : Mem} {x1 x3 x4 : Int} (h : Sh g m)  : bX11_addCell_88 g 241 x1 x3 x4 m = ebX11_addCell_88 g x1 x3 x4 m := by
  unfold bX11_addCell_88 ebX11_addCell_88
  exact qX11_addCell_89 h 
theorem nX11_addCell_88 {g : Shp} {m : Mem} {x1 x3 x4 : Int} (h : Sh g m)  {c1 : Int} {s1 : (Int × Int × Mem)} (hF : ebX11_addCell_88 g x1 x3 x4 m = some (c1, s1)) : Sh g s1.2.2 := by
  unfold ebX11_addCell_88 at hF
  exact nX11_addCell_89 h  hF
set_option maxRecDepth 20000 in
theorem qX11_addCell_53 {g : Shp} {m : Mem} {x1 x2 x3 x4 : Int} (h : Sh g m)  : bX11_addCell_53 g 241 x1 x2 x3 x4 m = ebX11_addCell_53 g x1 x2 x3 x4 m := by
  unfold bX11_addCell_53 ebX11_addCell_53
  have k1 := s_241_13 h
  rewrite [k1.1, ck_t k1.2.1]
  try rewrite [k1.2.2]
  refine ck_c (fun i2 => ?_)
  refine if_c (fun hc3 => ?_) (fun hc3 => ?_)
  · rfl
  · refine if_c (fun hc4 => ?_) (fun hc4 => ?_)
    · exact qX11_addCell_88 h
    · have k5 := s_241_14 h
      rewrite [k5.1, ck_t k5.2.1]
      try rewrite [k5.2.2]
      refine ck_c (fun i6 => ?_)
      refine if_c (fun hc7 => ?_) (fun hc7 => ?_)
      · exact qX11_addCell_88 h
      · exact qX11_addCell_89 h
theorem nX11_addCell_53 {g : Shp} {m : Mem} {x1 x2 x3 x4 : Int} (h : Sh g m)  {c1 : Int} {s1 : (Int × Int × Mem)} (hF : ebX11_addCell_53 g x1 x2 x3 x4 m = some (c1, s1)) : Sh g s1.2.2 := by
  unfold ebX11_addCell_53 at hF
  have k1 := s_241_13 h
  obtain ⟨i2, hF⟩ := ck_ok hF
  rcases if_ok hF with ⟨hc3, hF⟩ | ⟨hc3, hF⟩
  · cases hF
    exact h
  · rcases if_ok hF with ⟨hc4, hF⟩ | ⟨hc4, hF⟩
    · exact nX11_addCell_88 h  hF
    · have k5 := s_241_14 h
      obtain ⟨i6, hF⟩ := ck_ok hF
      rcases if_ok hF with ⟨hc7, hF⟩ | ⟨hc7, hF⟩
      · exact nX11_addCell_88 h  hF
      · exact nX11_addCell_89 h  hF
theorem nlX11_addCell_53 {g : Shp} {x1 x3 : Int}  {n : Nat} {s0 s1 : (Int × Int × Mem)} {c1 : Int} (h : Sh g s0.2.2) (hI : iter (eBX11_addCell_53 g x1 x3) n s0 = some (c1, s1)) : Sh g s1.2.2 :=
  iter_inv (B := eBX11_addCell_53 g x1 x3) (fun q => Sh g q.2.2) (fun s c s' hs hB => nX11_addCell_53 hs  hB) n s0 c1 s1 h hI
theorem qlX11_addCell_53 {g : Shp} {x1 x3 : Int}  {n : Nat} {s0 : (Int × Int × Mem)} (h : Sh g s0.2.2) : iter (BX11_addCell_53 g 241 x1 x3) n s0 = iter (eBX11_addCell_53 g x1 x3) n s0 :=
  iter_eq (B := BX11_addCell_53 g 241 x1 x3) (E := eBX11_addCell_53 g x1 x3) (fun q => Sh g q.2.2) (fun s hs => qX11_addCell_53 hs ) (fun s c s' hs hB => nX11_addCell_53 hs  ((qX11_addCell_53 hs ).symm.trans hB)) n s0 h
set_option maxRecDepth 20000 in
theorem qX11_addCell_127 {g : Shp} {m : Mem} {x2 : Int} (h : Sh g m)  : bX11_addCell_127 g x2 m = ebX11_addCell_127 g x2 m := by
  unfold bX11_addCell_127 ebX11_addCell_127
  refine ck_c (fun b1 => ?_)
  rfl
theorem nX11_addCell_127 {g : Shp} {m : Mem} {x2 : Int} (h : Sh g m)  {r : Int} {m' : Mem} (hF : ebX11_addCell_127 g x2 m = some (r, m')) : Sh g m' := by
  unfold ebX11_addCell_127 at hF
  obtain ⟨b1, hF⟩ := ck_ok hF
  cases hF
  exact h
set_option maxRecDepth 20000 in
theorem qX11_addCell_96 {g : Shp} {m : Mem} {x1 x2 x3 : Int} (h : Sh g m)  : bX11_addCell_96 g 241 x1 x2 x3 m = ebX11_addCell_96 g x1 x2 x3 m := by
  unfold bX11_addCell_96 ebX11_addCell_96
  refine if_c (fun hc1 => ?_) (fun hc1 => ?_)
  · exact qX11_addCell_127 h
  · have k2 := s_241_14 h
    rewrite [k2.1, ck_t k2.2.1]
    have k3 := s_241_13 h
    rewrite [k3.1, ck_t k3.2.1]
    try rewrite [k3.2.2]
    refine ck_c (fun i4 => ?_)
    try rewrite [k2.2.2]
    refine ck_c (fun i5 => ?_)
    refine vm_c (fun m6 em6 => ?_)
    have hm6 := h.s em6 (nRa k2.2.1 (by decide))
    have k7 := s_241_13 hm6
    rewrite [k7.1, ck_t k7.2.1]
    try rewrite [k7.2.2]
    refine ck_c (fun i8 => ?_)
    try rewrite [k7.2.2]
    refine ck_c (fun i9 => ?_)
    refine vm_c (fun m10 em10 => ?_)
    have hm10 := hm6.s em10 (nRa k7.2.1 (by decide))
    exact qX11_addCell_127 hm10 
theorem nX11_addCell_96 {g : Shp} {m : Mem} {x1 x2 x3 : Int} (h : Sh g m)  {r : Int} {m' : Mem} (hF : ebX11_addCell_96 g x1 x2 x3 m = some (r, m')) : Sh g m' := by
  unfold ebX11_addCell_96 at hF
  rcases if_ok hF with ⟨hc1, hF⟩ | ⟨hc1, hF⟩
  · exact nX11_addCell_127 h  hF
  · have k2 := s_241_14 h
    have k3 := s_241_13 h
    obtain ⟨i4, hF⟩ := ck_ok hF
    obtain ⟨i5, hF⟩ := ck_ok hF
    obtain ⟨m6, em6, hF⟩ := vm_ok hF
    have hm6 := h.s em6 (nRa k2.2.1 (by decide))
    have k7 := s_241_13 hm6
    obtain ⟨i8, hF⟩ := ck_ok hF
    obtain ⟨i9, hF⟩ := ck_ok hF
    obtain ⟨m10, em10, hF⟩ := vm_ok hF
    have hm10 := hm6.s em10 (nRa k7.2.1 (by decide))
    exact nX11_addCell_127 hm10  hF
set_option maxRecDepth 20000 in
theorem qX11_addCell_36 {g : Shp} {m : Mem} {x1 z0 : Int} (h : Sh g m)  : bX11_addCell_36 g 241 x1 z0 m = ebX11_addCell_36 g x1 z0 m := by
  unfold bX11_addCell_36 ebX11_addCell_36
  refine vv_c (fun y1 ey1 => ?_)
  refine bdl_q (qlX11_addCell_53  (n := 100000) (s0 := (z0, 0, m)) h) (fun cv2 sv3 hi4 => ?_)
  have h5 := nlX11_addCell_53  (s0 := (z0, 0, m)) h ((qlX11_addCell_53  (n := 100000) (s0 := (z0, 0, m)) h).symm.trans hi4)
  exact qX11_addCell_96 h5 
theorem nX11_addCell_36 {g : Shp} {m : Mem} {x1 z0 : Int} (h : Sh g m)  {r : Int} {m' : Mem} (hF : ebX11_addCell_36 g x1 z0 m = some (r, m')) : Sh g m' := by
  unfold ebX11_addCell_36 at hF
  obtain ⟨y1, ey1, hF⟩ := vv_ok hF
  obtain ⟨cv2, sv3, hi4, hF⟩ := bdl_ok hF
  have h5 := nlX11_addCell_53  (s0 := (z0, 0, m)) h hi4
  exact nX11_addCell_96 h5  hF
set_option maxRecDepth 20000 in
theorem qX11_addCell_35 {g : Shp} {m : Mem} {x1 : Int} (h : Sh g m)  : bX11_addCell_35 g 241 x1 m = ebX11_addCell_35 g x1 m := by
  unfold bX11_addCell_35 ebX11_addCell_35
  exact qX11_addCell_36 h 
theorem nX11_addCell_35 {g : Shp} {m : Mem} {x1 : Int} (h : Sh g m)  {r : Int} {m' : Mem} (hF : ebX11_addCell_35 g x1 m = some (r, m')) : Sh g m' := by
  unfold ebX11_addCell_35 at hF
  exact nX11_addCell_36 h  hF
set_option maxRecDepth 20000 in
theorem qX11_addCell_0 {g : Shp} {m : Mem} (h : Sh g m)  : bX11_addCell_0 g 241 m = ebX11_addCell_0 g m := by
  unfold bX11_addCell_0 ebX11_addCell_0
  refine vv_c (fun y1 ey1 => ?_)
  refine bd2_q (qX11_in h ) (fun v2 m3 h4 => ?_)
  have hm3 := nX11_in h  ((qX11_in h ).symm.trans h4)
  refine if_c (fun hc5 => ?_) (fun hc5 => ?_)
  · exact qX11_addCell_35 hm3
  · refine bd2_q (qX11_in hm3 ) (fun v6 m7 h8 => ?_)
    have hm7 := nX11_in hm3  ((qX11_in hm3 ).symm.trans h8)
    refine if_c (fun hc9 => ?_) (fun hc9 => ?_)
    · exact qX11_addCell_35 hm7
    · exact qX11_addCell_36 hm7
theorem nX11_addCell_0 {g : Shp} {m : Mem} (h : Sh g m)  {r : Int} {m' : Mem} (hF : ebX11_addCell_0 g m = some (r, m')) : Sh g m' := by
  unfold ebX11_addCell_0 at hF
  obtain ⟨y1, ey1, hF⟩ := vv_ok hF
  obtain ⟨v2, m3, h4, hF⟩ := bd2_ok hF
  have hm3 := nX11_in h  h4
  rcases if_ok hF with ⟨hc5, hF⟩ | ⟨hc5, hF⟩
  · exact nX11_addCell_35 hm3  hF
  · obtain ⟨v6, m7, h8, hF⟩ := bd2_ok hF
    have hm7 := nX11_in hm3  h8
    rcases if_ok hF with ⟨hc9, hF⟩ | ⟨hc9, hF⟩
    · exact nX11_addCell_35 hm7  hF
    · exact nX11_addCell_36 hm7  hF
theorem qX11_addCell {g : Shp} {m : Mem} (h : Sh g m)  : fX11_addCell g 241 m = eX11_addCell g m := qX11_addCell_0 h 
theorem nX11_addCell {g : Shp} {m : Mem} (h : Sh g m)  {r : Int} {m' : Mem} (hF : eX11_addCell g m = some (r, m')) : Sh g m' := nX11_addCell_0 h  hF
set_option maxRecDepth 20000 in
theorem qX11_goRun_186 {g : Shp} {m : Mem} {x1 x2 x3 x6 z1 z2 : Int} (h : Sh g m)  : bX11_goRun_186 g 241 x1 x2 x3 x6 241 z1 z2 m = ebX11_goRun_186 g x1 x2 x3 x6 z1 z2 m := by
  unfold bX11_goRun_186 ebX11_goRun_186
  refine vm_c (fun m1 em1 => ?_)
  have hm1 := h.s em1 (nRf (sk_241 h) (by decide) (by decide))
  refine vm_c (fun m2 em2 => ?_)
  have hm2 := hm1.s em2 (nRf (sk_241 hm1) (by decide) (by decide))
  refine bd2_q (qX11_addCell hm2 ) (fun v3 m4 h5 => ?_)
  have hm4 := nX11_addCell hm2  ((qX11_addCell hm2 ).symm.trans h5)
  refine if_c (fun hc6 => ?_) (fun hc6 => ?_)
  · rfl
  · refine vv_c (fun y7 ey7 => ?_)
    rfl
theorem nX11_goRun_186 {g : Shp} {m : Mem} {x1 x2 x3 x6 z1 z2 : Int} (h : Sh g m)  {c1 : Int} {s1 : (Int × Mem)} (hF : ebX11_goRun_186 g x1 x2 x3 x6 z1 z2 m = some (c1, s1)) : Sh g s1.2 := by
  unfold ebX11_goRun_186 at hF
  obtain ⟨m1, em1, hF⟩ := vm_ok hF
  have hm1 := h.s em1 (nRf (sk_241 h) (by decide) (by decide))
  obtain ⟨m2, em2, hF⟩ := vm_ok hF
  have hm2 := hm1.s em2 (nRf (sk_241 hm1) (by decide) (by decide))
  obtain ⟨v3, m4, h5, hF⟩ := bd2_ok hF
  have hm4 := nX11_addCell hm2  h5
  rcases if_ok hF with ⟨hc6, hF⟩ | ⟨hc6, hF⟩
  · cases hF
    exact hm4
  · obtain ⟨y7, ey7, hF⟩ := vv_ok hF
    cases hF
    exact hm4
set_option maxRecDepth 20000 in
theorem qX11_goRun_145 {g : Shp} {m : Mem} {x1 x2 x3 x6 z1 z2 : Int} (h : Sh g m)  : bX11_goRun_145 g 241 x1 x2 x3 x6 241 z1 z2 m = ebX11_goRun_145 g x1 x2 x3 x6 z1 z2 m := by
  unfold bX11_goRun_145 ebX11_goRun_145
  refine vm_c (fun m1 em1 => ?_)
  have hm1 := h.s em1 (nRf (sk_241 h) (by decide) (by decide))
  refine if_c (fun hc2 => ?_) (fun hc2 => ?_)
  · refine if_c (fun hc3 => ?_) (fun hc3 => ?_)
    · exact qX11_goRun_186 hm1
    · refine if_c (fun hc4 => ?_) (fun hc4 => ?_)
      · exact qX11_goRun_186 hm1
      · exact qX11_goRun_186 hm1
  · exact qX11_goRun_186 hm1
theorem nX11_goRun_145 {g : Shp} {m : Mem} {x1 x2 x3 x6 z1 z2 : Int} (h : Sh g m)  {c1 : Int} {s1 : (Int × Mem)} (hF : ebX11_goRun_145 g x1 x2 x3 x6 z1 z2 m = some (c1, s1)) : Sh g s1.2 := by
  unfold ebX11_goRun_145 at hF
  obtain ⟨m1, em1, hF⟩ := vm_ok hF
  have hm1 := h.s em1 (nRf (sk_241 h) (by decide) (by decide))
  rcases if_ok hF with ⟨hc2, hF⟩ | ⟨hc2, hF⟩
  · rcases if_ok hF with ⟨hc3, hF⟩ | ⟨hc3, hF⟩
    · exact nX11_goRun_186 hm1  hF
    · rcases if_ok hF with ⟨hc4, hF⟩ | ⟨hc4, hF⟩
      · exact nX11_goRun_186 hm1  hF
      · exact nX11_goRun_186 hm1  hF
  · exact nX11_goRun_186 hm1  hF
set_option maxRecDepth 20000 in
theorem qX11_goRun_102 {g : Shp} {m : Mem} {x1 x2 x3 x6 : Int} (h : Sh g m)  : bX11_goRun_102 g 241 x1 x2 x3 x6 m = ebX11_goRun_102 g x1 x2 x3 x6 m := by
  unfold bX11_goRun_102 ebX11_goRun_102
  refine if_c (fun hc1 => ?_) (fun hc1 => ?_)
  · rfl
  · refine if_c (fun hc2 => ?_) (fun hc2 => ?_)
    · refine if_c (fun hc3 => ?_) (fun hc3 => ?_)
      · exact qX11_goRun_145 h
      · refine if_c (fun hc4 => ?_) (fun hc4 => ?_)
        · exact qX11_goRun_145 h
        · exact qX11_goRun_145 h
    · exact qX11_goRun_145 h
theorem nX11_goRun_102 {g : Shp} {m : Mem} {x1 x2 x3 x6 : Int} (h : Sh g m)  {c1 : Int} {s1 : (Int × Mem)} (hF : ebX11_goRun_102 g x1 x2 x3 x6 m = some (c1, s1)) : Sh g s1.2 := by
  unfold ebX11_goRun_102 at hF
  rcases if_ok hF with ⟨hc1, hF⟩ | ⟨hc1, hF⟩
  · cases hF
    exact h
  · rcases if_ok hF with ⟨hc2, hF⟩ | ⟨hc2, hF⟩
    · rcases if_ok hF with ⟨hc3, hF⟩ | ⟨hc3, hF⟩
      · exact nX11_goRun_145 h  hF
      · rcases if_ok hF with ⟨hc4, hF⟩ | ⟨hc4, hF⟩
        · exact nX11_goRun_145 h  hF
        · exact nX11_goRun_145 h  hF
    · exact nX11_goRun_145 h  hF
theorem nlX11_goRun_102 {g : Shp} {x1 x2 x3 : Int}  {n : Nat} {s0 s1 : (Int × Mem)} {c1 : Int} (h : Sh g s0.2) (hI : iter (eBX11_goRun_102 g x1 x2 x3) n s0 = some (c1, s1)) : Sh g s1.2 :=
  iter_inv (B := eBX11_goRun_102 g x1 x2 x3) (fun q => Sh g q.2) (fun s c s' hs hB => nX11_goRun_102 hs  hB) n s0 c1 s1 h hI
theorem qlX11_goRun_102 {g : Shp} {x1 x2 x3 : Int}  {n : Nat} {s0 : (Int × Mem)} (h : Sh g s0.2) : iter (BX11_goRun_102 g 241 x1 x2 x3) n s0 = iter (eBX11_goRun_102 g x1 x2 x3) n s0 :=
  iter_eq (B := BX11_goRun_102 g 241 x1 x2 x3) (E := eBX11_goRun_102 g x1 x2 x3) (fun q => Sh g q.2) (fun s hs => qX11_goRun_102 hs ) (fun s c s' hs hB => nX11_goRun_102 hs  ((qX11_goRun_102 hs ).symm.trans hB)) n s0 h
set_option maxRecDepth 20000 in
theorem qX11_goRun_91 {g : Shp} {m : Mem} (h : Sh g m)  : bX11_goRun_91 g m = ebX11_goRun_91 g m := by
  unfold bX11_goRun_91 ebX11_goRun_91
  rfl
theorem nX11_goRun_91 {g : Shp} {m : Mem} (h : Sh g m)  {r : Int} {m' : Mem} (hF : ebX11_goRun_91 g m = some (r, m')) : Sh g m' := by
  unfold ebX11_goRun_91 at hF
  cases hF
  exact h
set_option maxRecDepth 20000 in
theorem qX11_goRun_202 {g : Shp} {m : Mem} (h : Sh g m)  : bX11_goRun_202 g m = ebX11_goRun_202 g m := by
  unfold bX11_goRun_202 ebX11_goRun_202
  rfl
theorem nX11_goRun_202 {g : Shp} {m : Mem} (h : Sh g m)  {r : Int} {m' : Mem} (hF : ebX11_goRun_202 g m = some (r, m')) : Sh g m' := by
  unfold ebX11_goRun_202 at hF
  cases hF
  exact h
set_option maxRecDepth 20000 in
theorem qX11_goRun_210 {g : Shp} {m : Mem} {x2 x3 : Int} (h : Sh g m)  : bX11_goRun_210 g 241 x2 x3 m = ebX11_goRun_210 g x2 x3 m := by
  unfold bX11_goRun_210 ebX11_goRun_210
  have k1 := s_241_12 h
  rewrite [k1.1, ck_t k1.2.1]
  have k2 := s_241_11 h
  rewrite [k2.1, ck_t k2.2.1]
  try rewrite [k2.2.2]
  refine ck_c (fun i3 => ?_)
  try rewrite [k1.2.2]
  refine ck_c (fun i4 => ?_)
  refine vm_c (fun m5 em5 => ?_)
  have hm5 := h.s em5 (nRa k1.2.1 (by decide))
  have k6 := s_241_11 hm5
  rewrite [k6.1, ck_t k6.2.1]
  try rewrite [k6.2.2]
  refine ck_c (fun i7 => ?_)
  try rewrite [k6.2.2]
  refine ck_c (fun i8 => ?_)
  refine vm_c (fun m9 em9 => ?_)
  have hm9 := hm5.s em9 (nRa k6.2.1 (by decide))
  rfl
theorem nX11_goRun_210 {g : Shp} {m : Mem} {x2 x3 : Int} (h : Sh g m)  {r : Int} {m' : Mem} (hF : ebX11_goRun_210 g x2 x3 m = some (r, m')) : Sh g m' := by
  unfold ebX11_goRun_210 at hF
  have k1 := s_241_12 h
  have k2 := s_241_11 h
  obtain ⟨i3, hF⟩ := ck_ok hF
  obtain ⟨i4, hF⟩ := ck_ok hF
  obtain ⟨m5, em5, hF⟩ := vm_ok hF
  have hm5 := h.s em5 (nRa k1.2.1 (by decide))
  have k6 := s_241_11 hm5
  obtain ⟨i7, hF⟩ := ck_ok hF
  obtain ⟨i8, hF⟩ := ck_ok hF
  obtain ⟨m9, em9, hF⟩ := vm_ok hF
  have hm9 := hm5.s em9 (nRa k6.2.1 (by decide))
  cases hF
  exact hm9
set_option maxRecDepth 20000 in
theorem qX11_goRun_93 {g : Shp} {m : Mem} {x1 x2 x3 x4 : Int} (h : Sh g m)  : bX11_goRun_93 g 241 x1 x2 x3 x4 m = ebX11_goRun_93 g x1 x2 x3 x4 m := by
  unfold bX11_goRun_93 ebX11_goRun_93
  refine ck_c (fun b1 => ?_)
  refine vm_c (fun m2 em2 => ?_)
  have hm2 := h.s em2 (nRf (sk_241 h) (by decide) (by decide))
  refine bdl_q (qlX11_goRun_102  (n := 100000) (s0 := (0, m2)) hm2) (fun cv3 sv4 hi5 => ?_)
  have h6 := nlX11_goRun_102  (s0 := (0, m2)) hm2 ((qlX11_goRun_102  (n := 100000) (s0 := (0, m2)) hm2).symm.trans hi5)
  refine if_c (fun hc7 => ?_) (fun hc7 => ?_)
  · exact qX11_goRun_202 h6
  · exact qX11_goRun_210 h6
theorem nX11_goRun_93 {g : Shp} {m : Mem} {x1 x2 x3 x4 : Int} (h : Sh g m)  {r : Int} {m' : Mem} (hF : ebX11_goRun_93 g x1 x2 x3 x4 m = some (r, m')) : Sh g m' := by
  unfold ebX11_goRun_93 at hF
  obtain ⟨b1, hF⟩ := ck_ok hF
  obtain ⟨m2, em2, hF⟩ := vm_ok hF
  have hm2 := h.s em2 (nRf (sk_241 h) (by decide) (by decide))
  obtain ⟨cv3, sv4, hi5, hF⟩ := bdl_ok hF
  have h6 := nlX11_goRun_102  (s0 := (0, m2)) hm2 hi5
  rcases if_ok hF with ⟨hc7, hF⟩ | ⟨hc7, hF⟩
  · exact nX11_goRun_202 h6  hF
  · exact nX11_goRun_210 h6  hF
set_option maxRecDepth 20000 in
theorem qX11_goRun_53 {g : Shp} {m : Mem} {x1 x2 x3 x4 : Int} (h : Sh g m)  : bX11_goRun_53 g 241 x1 x2 x3 x4 m = ebX11_goRun_53 g x1 x2 x3 x4 m := by
  unfold bX11_goRun_53 ebX11_goRun_53
  refine bd2_q (qX11_in h ) (fun v1 m2 h3 => ?_)
  have hm2 := nX11_in h  ((qX11_in h ).symm.trans h3)
  refine if_c (fun hc4 => ?_) (fun hc4 => ?_)
  · exact qX11_goRun_91 hm2
  · have k5 := s_241_11 hm2
    rewrite [k5.1, ck_t k5.2.1]
    try rewrite [k5.2.2]
    refine ck_c (fun i6 => ?_)
    refine if_c (fun hc7 => ?_) (fun hc7 => ?_)
    · exact qX11_goRun_91 hm2
    · have k8 := s_241_11 hm2
      try rewrite [k8.2.2]
      refine ck_c (fun i9 => ?_)
      refine if_c (fun hc10 => ?_) (fun hc10 => ?_)
      · exact qX11_goRun_93 hm2
      · refine if_c (fun hc11 => ?_) (fun hc11 => ?_)
        · exact qX11_goRun_91 hm2
        · exact qX11_goRun_93 hm2
theorem nX11_goRun_53 {g : Shp} {m : Mem} {x1 x2 x3 x4 : Int} (h : Sh g m)  {r : Int} {m' : Mem} (hF : ebX11_goRun_53 g x1 x2 x3 x4 m = some (r, m')) : Sh g m' := by
  unfold ebX11_goRun_53 at hF
  obtain ⟨v1, m2, h3, hF⟩ := bd2_ok hF
  have hm2 := nX11_in h  h3
  rcases if_ok hF with ⟨hc4, hF⟩ | ⟨hc4, hF⟩
  · exact nX11_goRun_91 hm2  hF
  · have k5 := s_241_11 hm2
    obtain ⟨i6, hF⟩ := ck_ok hF
    rcases if_ok hF with ⟨hc7, hF⟩ | ⟨hc7, hF⟩
    · exact nX11_goRun_91 hm2  hF
    · have k8 := s_241_11 hm2
      obtain ⟨i9, hF⟩ := ck_ok hF
      rcases if_ok hF with ⟨hc10, hF⟩ | ⟨hc10, hF⟩
      · exact nX11_goRun_93 hm2  hF
      · rcases if_ok hF with ⟨hc11, hF⟩ | ⟨hc11, hF⟩
        · exact nX11_goRun_91 hm2  hF
        · exact nX11_goRun_93 hm2  hF
set_option maxRecDepth 20000 in
theorem qX11_goRun_41 {g : Shp} {m : Mem} {x1 x2 x3 x4 z0 : Int} (h : Sh g m)  : bX11_goRun_41 g 241 x1 x2 x3 x4 z0 m = ebX11_goRun_41 g x1 x2 x3 x4 z0 m := by
  unfold bX11_goRun_41 ebX11_goRun_41
  refine if_c (fun hc1 => ?_) (fun hc1 => ?_)
  · refine if_c (fun hc2 => ?_) (fun hc2 => ?_)
    · exact qX11_goRun_91 h
    · exact qX11_goRun_53 h
  · exact qX11_goRun_53 h
theorem nX11_goRun_41 {g : Shp} {m : Mem} {x1 x2 x3 x4 z0 : Int} (h : Sh g m)  {r : Int} {m' : Mem} (hF : ebX11_goRun_41 g x1 x2 x3 x4 z0 m = some (r, m')) : Sh g m' := by
  unfold ebX11_goRun_41 at hF
  rcases if_ok hF with ⟨hc1, hF⟩ | ⟨hc1, hF⟩
  · rcases if_ok hF with ⟨hc2, hF⟩ | ⟨hc2, hF⟩
    · exact nX11_goRun_91 h  hF
    · exact nX11_goRun_53 h  hF
  · exact nX11_goRun_53 h  hF
set_option maxRecDepth 20000 in
theorem qX11_goRun_36 {g : Shp} {m : Mem} {x1 x2 x3 x4 : Int} (h : Sh g m)  : bX11_goRun_36 g 241 x1 x2 x3 x4 m = ebX11_goRun_36 g x1 x2 x3 x4 m := by
  unfold bX11_goRun_36 ebX11_goRun_36
  exact qX11_goRun_41 h 
theorem nX11_goRun_36 {g : Shp} {m : Mem} {x1 x2 x3 x4 : Int} (h : Sh g m)  {r : Int} {m' : Mem} (hF : ebX11_goRun_36 g x1 x2 x3 x4 m = some (r, m')) : Sh g m' := by
  unfold ebX11_goRun_36 at hF
  exact nX11_goRun_41 h  hF
set_option maxRecDepth 20000 in
theorem qX11_goRun_22 {g : Shp} {m : Mem} {x1 x2 x3 z0 : Int} (h : Sh g m)  : bX11_goRun_22 g 241 x1 x2 x3 z0 m = ebX11_goRun_22 g x1 x2 x3 z0 m := by
  unfold bX11_goRun_22 ebX11_goRun_22
  refine if_c (fun hc1 => ?_) (fun hc1 => ?_)
  · exact qX11_goRun_36 h
  · refine if_c (fun hc2 => ?_) (fun hc2 => ?_)
    · exact qX11_goRun_36 h
    · exact qX11_goRun_41 h
theorem nX11_goRun_22 {g : Shp} {m : Mem} {x1 x2 x3 z0 : Int} (h : Sh g m)  {r : Int} {m' : Mem} (hF : ebX11_goRun_22 g x1 x2 x3 z0 m = some (r, m')) : Sh g m' := by
  unfold ebX11_goRun_22 at hF
  rcases if_ok hF with ⟨hc1, hF⟩ | ⟨hc1, hF⟩
  · exact nX11_goRun_36 h  hF
  · rcases if_ok hF with ⟨hc2, hF⟩ | ⟨hc2, hF⟩
    · exact nX11_goRun_36 h  hF
    · exact nX11_goRun_41 h  hF
set_option maxRecDepth 20000 in
theorem qX11_goRun_17 {g : Shp} {m : Mem} {x1 x2 x3 : Int} (h : Sh g m)  : bX11_goRun_17 g 241 x1 x2 x3 m = ebX11_goRun_17 g x1 x2 x3 m := by
  unfold bX11_goRun_17 ebX11_goRun_17
  exact qX11_goRun_22 h 
theorem nX11_goRun_17 {g : Shp} {m : Mem} {x1 x2 x3 : Int} (h : Sh g m)  {r : Int} {m' : Mem} (hF : ebX11_goRun_17 g x1 x2 x3 m = some (r, m')) : Sh g m' := by
  unfold ebX11_goRun_17 at hF
  exact nX11_goRun_22 h  hF
set_option maxRecDepth 20000 in
theorem qX11_goRun_0 {g : Shp} {m : Mem} {x1 x2 : Int} (h : Sh g m)  : bX11_goRun_0 g 241 x1 x2 m = ebX11_goRun_0 g x1 x2 m := by
  unfold bX11_goRun_0 ebX11_goRun_0
  refine vv_c (fun y1 ey1 => ?_)
  refine if_c (fun hc2 => ?_) (fun hc2 => ?_)
  · exact qX11_goRun_17 h
  · refine if_c (fun hc3 => ?_) (fun hc3 => ?_)
    · exact qX11_goRun_17 h
    · exact qX11_goRun_22 h
theorem nX11_goRun_0 {g : Shp} {m : Mem} {x1 x2 : Int} (h : Sh g m)  {r : Int} {m' : Mem} (hF : ebX11_goRun_0 g x1 x2 m = some (r, m')) : Sh g m' := by
  unfold ebX11_goRun_0 at hF
  obtain ⟨y1, ey1, hF⟩ := vv_ok hF
  rcases if_ok hF with ⟨hc2, hF⟩ | ⟨hc2, hF⟩
  · exact nX11_goRun_17 h  hF
  · rcases if_ok hF with ⟨hc3, hF⟩ | ⟨hc3, hF⟩
    · exact nX11_goRun_17 h  hF
    · exact nX11_goRun_22 h  hF
theorem qX11_goRun {g : Shp} {m : Mem} {x1 x2 : Int} (h : Sh g m)  : fX11_goRun g 241 x1 x2 m = eX11_goRun g x1 x2 m := qX11_goRun_0 h 
theorem nX11_goRun {g : Shp} {m : Mem} {x1 x2 : Int} (h : Sh g m)  {r : Int} {m' : Mem} (hF : eX11_goRun g x1 x2 m = some (r, m')) : Sh g m' := nX11_goRun_0 h  hF
set_option maxRecDepth 20000 in
theorem qX11_takeSign_44 {g : Shp} {m : Mem} {x2 z1 z2 : Int} (h : Sh g m)  : bX11_takeSign_44 g x2 241 z1 z2 m = ebX11_takeSign_44 g x2 z1 z2 m := by
  unfold bX11_takeSign_44 ebX11_takeSign_44
  refine vm_c (fun m1 em1 => ?_)
  have hm1 := h.s em1 (nRf (sk_241 h) (by decide) (by decide))
  refine ck_c (fun b2 => ?_)
  rfl
theorem nX11_takeSign_44 {g : Shp} {m : Mem} {x2 z1 z2 : Int} (h : Sh g m)  {r : Int} {m' : Mem} (hF : ebX11_takeSign_44 g x2 z1 z2 m = some (r, m')) : Sh g m' := by
  unfold ebX11_takeSign_44 at hF
  obtain ⟨m1, em1, hF⟩ := vm_ok hF
  have hm1 := h.s em1 (nRf (sk_241 h) (by decide) (by decide))
  obtain ⟨b2, hF⟩ := ck_ok hF
  cases hF
  exact hm1
set_option maxRecDepth 20000 in
theorem qX11_takeSign_29 {g : Shp} {m : Mem} {z0 : Int} (h : Sh g m)  : bX11_takeSign_29 g 241 z0 m = ebX11_takeSign_29 g z0 m := by
  unfold bX11_takeSign_29 ebX11_takeSign_29
  refine if_c (fun hc1 => ?_) (fun hc1 => ?_)
  · exact qX11_takeSign_44 h
  · exact qX11_takeSign_44 h
theorem nX11_takeSign_29 {g : Shp} {m : Mem} {z0 : Int} (h : Sh g m)  {r : Int} {m' : Mem} (hF : ebX11_takeSign_29 g z0 m = some (r, m')) : Sh g m' := by
  unfold ebX11_takeSign_29 at hF
  rcases if_ok hF with ⟨hc1, hF⟩ | ⟨hc1, hF⟩
  · exact nX11_takeSign_44 h  hF
  · exact nX11_takeSign_44 h  hF
set_option maxRecDepth 20000 in
theorem qX11_takeSign_28 {g : Shp} {m : Mem} (h : Sh g m)  : bX11_takeSign_28 g 241 m = ebX11_takeSign_28 g m := by
  unfold bX11_takeSign_28 ebX11_takeSign_28
  exact qX11_takeSign_29 h 
theorem nX11_takeSign_28 {g : Shp} {m : Mem} (h : Sh g m)  {r : Int} {m' : Mem} (hF : ebX11_takeSign_28 g m = some (r, m')) : Sh g m' := by
  unfold ebX11_takeSign_28 at hF
  exact nX11_takeSign_29 h  hF
set_option maxRecDepth 20000 in
theorem qX11_takeSign_0 {g : Shp} {m : Mem} {x1 : Int} (h : Sh g m)  : bX11_takeSign_0 g 241 x1 m = ebX11_takeSign_0 g x1 m := by
  unfold bX11_takeSign_0 ebX11_takeSign_0
  refine if_c (fun hc1 => ?_) (fun hc1 => ?_)
  · exact qX11_takeSign_28 h
  · have k2 := s_241_4 h
    rewrite [k2.1, ck_t k2.2.1]
    try rewrite [k2.2.2]
    refine ck_c (fun i3 => ?_)
    refine if_c (fun hc4 => ?_) (fun hc4 => ?_)
    · exact qX11_takeSign_29 h
    · exact qX11_takeSign_28 h
theorem nX11_takeSign_0 {g : Shp} {m : Mem} {x1 : Int} (h : Sh g m)  {r : Int} {m' : Mem} (hF : ebX11_takeSign_0 g x1 m = some (r, m')) : Sh g m' := by
  unfold ebX11_takeSign_0 at hF
  rcases if_ok hF with ⟨hc1, hF⟩ | ⟨hc1, hF⟩
  · exact nX11_takeSign_28 h  hF
  · have k2 := s_241_4 h
    obtain ⟨i3, hF⟩ := ck_ok hF
    rcases if_ok hF with ⟨hc4, hF⟩ | ⟨hc4, hF⟩
    · exact nX11_takeSign_29 h  hF
    · exact nX11_takeSign_28 h  hF
theorem qX11_takeSign {g : Shp} {m : Mem} {x1 : Int} (h : Sh g m)  : fX11_takeSign g 241 x1 m = eX11_takeSign g x1 m := qX11_takeSign_0 h 
theorem nX11_takeSign {g : Shp} {m : Mem} {x1 : Int} (h : Sh g m)  {r : Int} {m' : Mem} (hF : eX11_takeSign g x1 m = some (r, m')) : Sh g m' := nX11_takeSign_0 h  hF
set_option maxRecDepth 20000 in
theorem qX11_takeNumber_51 {g : Shp} {m : Mem} {x2 z0 z1 : Int} (h : Sh g m)  : bX11_takeNumber_51 g 241 x2 z0 z1 m = ebX11_takeNumber_51 g x2 z0 z1 m := by
  unfold bX11_takeNumber_51 ebX11_takeNumber_51
  have k1 := s_241_4 h
  rewrite [k1.1, ck_t k1.2.1]
  try rewrite [k1.2.2]
  refine ck_c (fun i2 => ?_)
  refine vv_c (fun y3 ey3 => ?_)
  refine vm_c (fun m4 em4 => ?_)
  have hm4 := h.s em4 (nRf (sk_241 h) (by decide) (by decide))
  refine vv_c (fun y5 ey5 => ?_)
  rfl
theorem nX11_takeNumber_51 {g : Shp} {m : Mem} {x2 z0 z1 : Int} (h : Sh g m)  {c1 : Int} {s1 : (Int × Int × Mem)} (hF : ebX11_takeNumber_51 g x2 z0 z1 m = some (c1, s1)) : Sh g s1.2.2 := by
  unfold ebX11_takeNumber_51 at hF
  have k1 := s_241_4 h
  obtain ⟨i2, hF⟩ := ck_ok hF
  obtain ⟨y3, ey3, hF⟩ := vv_ok hF
  obtain ⟨m4, em4, hF⟩ := vm_ok hF
  have hm4 := h.s em4 (nRf (sk_241 h) (by decide) (by decide))
  obtain ⟨y5, ey5, hF⟩ := vv_ok hF
  cases hF
  exact hm4
set_option maxRecDepth 20000 in
theorem qX11_takeNumber_5 {g : Shp} {m : Mem} {x1 x2 : Int} (h : Sh g m)  : bX11_takeNumber_5 g 241 x1 x2 m = ebX11_takeNumber_5 g x1 x2 m := by
  unfold bX11_takeNumber_5 ebX11_takeNumber_5
  refine if_c (fun hc1 => ?_) (fun hc1 => ?_)
  · rfl
  · refine if_c (fun hc2 => ?_) (fun hc2 => ?_)
    · rfl
    · have k3 := s_241_4 h
      rewrite [k3.1, ck_t k3.2.1]
      try rewrite [k3.2.2]
      refine ck_c (fun i4 => ?_)
      refine bd2_q (qX11_in h ) (fun v5 m6 h7 => ?_)
      have hm6 := nX11_in h  ((qX11_in h ).symm.trans h7)
      refine if_c (fun hc8 => ?_) (fun hc8 => ?_)
      · rfl
      · refine if_c (fun hc9 => ?_) (fun hc9 => ?_)
        · exact qX11_takeNumber_51 hm6
        · exact qX11_takeNumber_51 hm6
theorem nX11_takeNumber_5 {g : Shp} {m : Mem} {x1 x2 : Int} (h : Sh g m)  {c1 : Int} {s1 : (Int × Int × Mem)} (hF : ebX11_takeNumber_5 g x1 x2 m = some (c1, s1)) : Sh g s1.2.2 := by
  unfold ebX11_takeNumber_5 at hF
  rcases if_ok hF with ⟨hc1, hF⟩ | ⟨hc1, hF⟩
  · cases hF
    exact h
  · rcases if_ok hF with ⟨hc2, hF⟩ | ⟨hc2, hF⟩
    · cases hF
      exact h
    · have k3 := s_241_4 h
      obtain ⟨i4, hF⟩ := ck_ok hF
      obtain ⟨v5, m6, h7, hF⟩ := bd2_ok hF
      have hm6 := nX11_in h  h7
      rcases if_ok hF with ⟨hc8, hF⟩ | ⟨hc8, hF⟩
      · cases hF
        exact hm6
      · rcases if_ok hF with ⟨hc9, hF⟩ | ⟨hc9, hF⟩
        · exact nX11_takeNumber_51 hm6  hF
        · exact nX11_takeNumber_51 hm6  hF
theorem nlX11_takeNumber_5 {g : Shp}  {n : Nat} {s0 s1 : (Int × Int × Mem)} {c1 : Int} (h : Sh g s0.2.2) (hI : iter (eBX11_takeNumber_5 g ) n s0 = some (c1, s1)) : Sh g s1.2.2 :=
  iter_inv (B := eBX11_takeNumber_5 g ) (fun q => Sh g q.2.2) (fun s c s' hs hB => nX11_takeNumber_5 hs  hB) n s0 c1 s1 h hI
theorem qlX11_takeNumber_5 {g : Shp}  {n : Nat} {s0 : (Int × Int × Mem)} (h : Sh g s0.2.2) : iter (BX11_takeNumber_5 g 241) n s0 = iter (eBX11_takeNumber_5 g ) n s0 :=
  iter_eq (B := BX11_takeNumber_5 g 241) (E := eBX11_takeNumber_5 g ) (fun q => Sh g q.2.2) (fun s hs => qX11_takeNumber_5 hs ) (fun s c s' hs hB => nX11_takeNumber_5 hs  ((qX11_takeNumber_5 hs ).symm.trans hB)) n s0 h
set_option maxRecDepth 20000 in
theorem qX11_takeNumber_82 {g : Shp} {m : Mem} {x1 : Int} (h : Sh g m)  : bX11_takeNumber_82 g x1 m = ebX11_takeNumber_82 g x1 m := by
  unfold bX11_takeNumber_82 ebX11_takeNumber_82
  rfl
theorem nX11_takeNumber_82 {g : Shp} {m : Mem} {x1 : Int} (h : Sh g m)  {r : Int} {m' : Mem} (hF : ebX11_takeNumber_82 g x1 m = some (r, m')) : Sh g m' := by
  unfold ebX11_takeNumber_82 at hF
  cases hF
  exact h
set_option maxRecDepth 20000 in
theorem qX11_takeNumber_0 {g : Shp} {m : Mem} (h : Sh g m)  : bX11_takeNumber_0 g 241 m = ebX11_takeNumber_0 g m := by
  unfold bX11_takeNumber_0 ebX11_takeNumber_0
  refine bdl_q (qlX11_takeNumber_5  (n := 100000) (s0 := ((-4), 0, m)) h) (fun cv1 sv2 hi3 => ?_)
  have h4 := nlX11_takeNumber_5  (s0 := ((-4), 0, m)) h ((qlX11_takeNumber_5  (n := 100000) (s0 := ((-4), 0, m)) h).symm.trans hi3)
  exact qX11_takeNumber_82 h4 
theorem nX11_takeNumber_0 {g : Shp} {m : Mem} (h : Sh g m)  {r : Int} {m' : Mem} (hF : ebX11_takeNumber_0 g m = some (r, m')) : Sh g m' := by
  unfold ebX11_takeNumber_0 at hF
  obtain ⟨cv1, sv2, hi3, hF⟩ := bdl_ok hF
  have h4 := nlX11_takeNumber_5  (s0 := ((-4), 0, m)) h hi3
  exact nX11_takeNumber_82 h4  hF
theorem qX11_takeNumber {g : Shp} {m : Mem} (h : Sh g m)  : fX11_takeNumber g 241 m = eX11_takeNumber g m := qX11_takeNumber_0 h 
theorem nX11_takeNumber {g : Shp} {m : Mem} (h : Sh g m)  {r : Int} {m' : Mem} (hF : eX11_takeNumber g m = some (r, m')) : Sh g m' := nX11_takeNumber_0 h  hF
set_option maxRecDepth 20000 in
theorem qX11_readSizes_72 {g : Shp} {m : Mem} (h : Sh g m)  : bX11_readSizes_72 g m = ebX11_readSizes_72 g m := by
  unfold bX11_readSizes_72 ebX11_readSizes_72
  rfl
theorem nX11_readSizes_72 {g : Shp} {m : Mem} (h : Sh g m)  {r : Int} {m' : Mem} (hF : ebX11_readSizes_72 g m = some (r, m')) : Sh g m' := by
  unfold ebX11_readSizes_72 at hF
  cases hF
  exact h
set_option maxRecDepth 20000 in
theorem qX11_readSizes_0 {g : Shp} {m : Mem} (h : Sh g m)  : bX11_readSizes_0 g 241 m = ebX11_readSizes_0 g m := by
  unfold bX11_readSizes_0 ebX11_readSizes_0
  refine bd2_q (qX11_takeNumber h ) (fun v1 m2 h3 => ?_)
  have hm2 := nX11_takeNumber h  ((qX11_takeNumber h ).symm.trans h3)
  refine bd2_q (qX11_takeSign hm2 ) (fun v4 m5 h6 => ?_)
  have hm5 := nX11_takeSign hm2  ((qX11_takeSign hm2 ).symm.trans h6)
  refine bd2_q (qX11_takeNumber hm5 ) (fun v7 m8 h9 => ?_)
  have hm8 := nX11_takeNumber hm5  ((qX11_takeNumber hm5 ).symm.trans h9)
  refine bd2_q (qX11_takeSign hm8 ) (fun v10 m11 h12 => ?_)
  have hm11 := nX11_takeSign hm8  ((qX11_takeSign hm8 ).symm.trans h12)
  refine bd2_q (qX11_takeNumber hm11 ) (fun v13 m14 h15 => ?_)
  have hm14 := nX11_takeNumber hm11  ((qX11_takeNumber hm11 ).symm.trans h15)
  refine if_c (fun hc16 => ?_) (fun hc16 => ?_)
  · exact qX11_readSizes_72 hm14
  · refine if_c (fun hc17 => ?_) (fun hc17 => ?_)
    · exact qX11_readSizes_72 hm14
    · refine bd2_q (qX11_takeSign hm14 ) (fun v18 m19 h20 => ?_)
      have hm19 := nX11_takeSign hm14  ((qX11_takeSign hm14 ).symm.trans h20)
      refine if_c (fun hc21 => ?_) (fun hc21 => ?_)
      · exact qX11_readSizes_72 hm19
      · refine if_c (fun hc22 => ?_) (fun hc22 => ?_)
        · exact qX11_readSizes_72 hm19
        · refine if_c (fun hc23 => ?_) (fun hc23 => ?_)
          · exact qX11_readSizes_72 hm19
          · refine if_c (fun hc24 => ?_) (fun hc24 => ?_)
            · exact qX11_readSizes_72 hm19
            · refine if_c (fun hc25 => ?_) (fun hc25 => ?_)
              · have k26 := s_241_7 hm19
                rewrite [k26.1, ck_t k26.2.1]
                try rewrite [k26.2.2]
                refine ck_c (fun i27 => ?_)
                refine vm_c (fun m28 em28 => ?_)
                have hm28 := hm19.s em28 (nRa k26.2.1 (by decide))
                have k29 := s_241_7 hm28
                rewrite [k29.1, ck_t k29.2.1]
                try rewrite [k29.2.2]
                refine ck_c (fun i30 => ?_)
                refine vm_c (fun m31 em31 => ?_)
                have hm31 := hm28.s em31 (nRa k29.2.1 (by decide))
                have k32 := s_241_7 hm31
                rewrite [k32.1, ck_t k32.2.1]
                try rewrite [k32.2.2]
                refine ck_c (fun i33 => ?_)
                refine vm_c (fun m34 em34 => ?_)
                have hm34 := hm31.s em34 (nRa k32.2.1 (by decide))
                rfl
              · exact qX11_readSizes_72 hm19
theorem nX11_readSizes_0 {g : Shp} {m : Mem} (h : Sh g m)  {r : Int} {m' : Mem} (hF : ebX11_readSizes_0 g m = some (r, m')) : Sh g m' := by
  unfold ebX11_readSizes_0 at hF
  obtain ⟨v1, m2, h3, hF⟩ := bd2_ok hF
  have hm2 := nX11_takeNumber h  h3
  obtain ⟨v4, m5, h6, hF⟩ := bd2_ok hF
  have hm5 := nX11_takeSign hm2  h6
  obtain ⟨v7, m8, h9, hF⟩ := bd2_ok hF
  have hm8 := nX11_takeNumber hm5  h9
  obtain ⟨v10, m11, h12, hF⟩ := bd2_ok hF
  have hm11 := nX11_takeSign hm8  h12
  obtain ⟨v13, m14, h15, hF⟩ := bd2_ok hF
  have hm14 := nX11_takeNumber hm11  h15
  rcases if_ok hF with ⟨hc16, hF⟩ | ⟨hc16, hF⟩
  · exact nX11_readSizes_72 hm14  hF
  · rcases if_ok hF with ⟨hc17, hF⟩ | ⟨hc17, hF⟩
    · exact nX11_readSizes_72 hm14  hF
    · obtain ⟨v18, m19, h20, hF⟩ := bd2_ok hF
      have hm19 := nX11_takeSign hm14  h20
      rcases if_ok hF with ⟨hc21, hF⟩ | ⟨hc21, hF⟩
      · exact nX11_readSizes_72 hm19  hF
      · rcases if_ok hF with ⟨hc22, hF⟩ | ⟨hc22, hF⟩
        · exact nX11_readSizes_72 hm19  hF
        · rcases if_ok hF with ⟨hc23, hF⟩ | ⟨hc23, hF⟩
          · exact nX11_readSizes_72 hm19  hF
          · rcases if_ok hF with ⟨hc24, hF⟩ | ⟨hc24, hF⟩
            · exact nX11_readSizes_72 hm19  hF
            · rcases if_ok hF with ⟨hc25, hF⟩ | ⟨hc25, hF⟩
              · have k26 := s_241_7 hm19
                obtain ⟨i27, hF⟩ := ck_ok hF
                obtain ⟨m28, em28, hF⟩ := vm_ok hF
                have hm28 := hm19.s em28 (nRa k26.2.1 (by decide))
                have k29 := s_241_7 hm28
                obtain ⟨i30, hF⟩ := ck_ok hF
                obtain ⟨m31, em31, hF⟩ := vm_ok hF
                have hm31 := hm28.s em31 (nRa k29.2.1 (by decide))
                have k32 := s_241_7 hm31
                obtain ⟨i33, hF⟩ := ck_ok hF
                obtain ⟨m34, em34, hF⟩ := vm_ok hF
                have hm34 := hm31.s em34 (nRa k32.2.1 (by decide))
                cases hF
                exact hm34
              · exact nX11_readSizes_72 hm19  hF
theorem qX11_readSizes {g : Shp} {m : Mem} (h : Sh g m)  : fX11_readSizes g 241 m = eX11_readSizes g m := qX11_readSizes_0 h 
theorem nX11_readSizes {g : Shp} {m : Mem} (h : Sh g m)  {r : Int} {m' : Mem} (hF : eX11_readSizes g m = some (r, m')) : Sh g m' := nX11_readSizes_0 h  hF
set_option maxRecDepth 20000 in
theorem qX11_readTheBag_73 {g : Shp} {m : Mem} {x1 x2 x3 : Int} (h : Sh g m)  : bX11_readTheBag_73 g 241 x1 x2 x3 m = ebX11_readTheBag_73 g x1 x2 x3 m := by
  unfold bX11_readTheBag_73 ebX11_readTheBag_73
  refine vv_c (fun y1 ey1 => ?_)
  rfl
theorem nX11_readTheBag_73 {g : Shp} {m : Mem} {x1 x2 x3 : Int} (h : Sh g m)  {c1 : Int} {s1 : (Int × Int × Mem)} (hF : ebX11_readTheBag_73 g x1 x2 x3 m = some (c1, s1)) : Sh g s1.2.2 := by
  unfold ebX11_readTheBag_73 at hF
  obtain ⟨y1, ey1, hF⟩ := vv_ok hF
  cases hF
  exact h
set_option maxRecDepth 20000 in
theorem qX11_readTheBag_56 {g : Shp} {m : Mem} {x1 x3 x5 z0 : Int} (h : Sh g m)  : bX11_readTheBag_56 g 241 x1 x3 x5 z0 m = ebX11_readTheBag_56 g x1 x3 x5 z0 m := by
  unfold bX11_readTheBag_56 ebX11_readTheBag_56
  refine if_c (fun hc1 => ?_) (fun hc1 => ?_)
  · exact qX11_readTheBag_73 h
  · have k2 := s_241_9 h
    rewrite [k2.1, ck_t k2.2.1]
    try rewrite [k2.2.2]
    refine ck_c (fun i3 => ?_)
    refine vm_c (fun m4 em4 => ?_)
    have hm4 := h.s em4 (nRa k2.2.1 (by decide))
    exact qX11_readTheBag_73 hm4 
theorem nX11_readTheBag_56 {g : Shp} {m : Mem} {x1 x3 x5 z0 : Int} (h : Sh g m)  {c1 : Int} {s1 : (Int × Int × Mem)} (hF : ebX11_readTheBag_56 g x1 x3 x5 z0 m = some (c1, s1)) : Sh g s1.2.2 := by
  unfold ebX11_readTheBag_56 at hF
  rcases if_ok hF with ⟨hc1, hF⟩ | ⟨hc1, hF⟩
  · exact nX11_readTheBag_73 h  hF
  · have k2 := s_241_9 h
    obtain ⟨i3, hF⟩ := ck_ok hF
    obtain ⟨m4, em4, hF⟩ := vm_ok hF
    have hm4 := h.s em4 (nRa k2.2.1 (by decide))
    exact nX11_readTheBag_73 hm4  hF
set_option maxRecDepth 20000 in
theorem qX11_readTheBag_55 {g : Shp} {m : Mem} {x1 x3 x5 : Int} (h : Sh g m)  : bX11_readTheBag_55 g 241 x1 x3 x5 m = ebX11_readTheBag_55 g x1 x3 x5 m := by
  unfold bX11_readTheBag_55 ebX11_readTheBag_55
  exact qX11_readTheBag_56 h 
theorem nX11_readTheBag_55 {g : Shp} {m : Mem} {x1 x3 x5 : Int} (h : Sh g m)  {c1 : Int} {s1 : (Int × Int × Mem)} (hF : ebX11_readTheBag_55 g x1 x3 x5 m = some (c1, s1)) : Sh g s1.2.2 := by
  unfold ebX11_readTheBag_55 at hF
  exact nX11_readTheBag_56 h  hF
set_option maxRecDepth 20000 in
theorem qX11_readTheBag_12 {g : Shp} {m : Mem} {x1 x2 x3 : Int} (h : Sh g m)  : bX11_readTheBag_12 g 241 x1 x2 x3 m = ebX11_readTheBag_12 g x1 x2 x3 m := by
  unfold bX11_readTheBag_12 ebX11_readTheBag_12
  refine if_c (fun hc1 => ?_) (fun hc1 => ?_)
  · rfl
  · refine if_c (fun hc2 => ?_) (fun hc2 => ?_)
    · rfl
    · refine bd2_q (qX11_takeSign h ) (fun v3 m4 h5 => ?_)
      have hm4 := nX11_takeSign h  ((qX11_takeSign h ).symm.trans h5)
      refine bd2_q (qX11_takeNumber hm4 ) (fun v6 m7 h8 => ?_)
      have hm7 := nX11_takeNumber hm4  ((qX11_takeNumber hm4 ).symm.trans h8)
      refine if_c (fun hc9 => ?_) (fun hc9 => ?_)
      · exact qX11_readTheBag_55 hm7
      · refine bd2_q (qX11_in hm7 ) (fun v10 m11 h12 => ?_)
        have hm11 := nX11_in hm7  ((qX11_in hm7 ).symm.trans h12)
        refine if_c (fun hc13 => ?_) (fun hc13 => ?_)
        · exact qX11_readTheBag_55 hm11
        · exact qX11_readTheBag_56 hm11
theorem nX11_readTheBag_12 {g : Shp} {m : Mem} {x1 x2 x3 : Int} (h : Sh g m)  {c1 : Int} {s1 : (Int × Int × Mem)} (hF : ebX11_readTheBag_12 g x1 x2 x3 m = some (c1, s1)) : Sh g s1.2.2 := by
  unfold ebX11_readTheBag_12 at hF
  rcases if_ok hF with ⟨hc1, hF⟩ | ⟨hc1, hF⟩
  · cases hF
    exact h
  · rcases if_ok hF with ⟨hc2, hF⟩ | ⟨hc2, hF⟩
    · cases hF
      exact h
    · obtain ⟨v3, m4, h5, hF⟩ := bd2_ok hF
      have hm4 := nX11_takeSign h  h5
      obtain ⟨v6, m7, h8, hF⟩ := bd2_ok hF
      have hm7 := nX11_takeNumber hm4  h8
      rcases if_ok hF with ⟨hc9, hF⟩ | ⟨hc9, hF⟩
      · exact nX11_readTheBag_55 hm7  hF
      · obtain ⟨v10, m11, h12, hF⟩ := bd2_ok hF
        have hm11 := nX11_in hm7  h12
        rcases if_ok hF with ⟨hc13, hF⟩ | ⟨hc13, hF⟩
        · exact nX11_readTheBag_55 hm11  hF
        · exact nX11_readTheBag_56 hm11  hF
theorem nlX11_readTheBag_12 {g : Shp} {x1 : Int}  {n : Nat} {s0 s1 : (Int × Int × Mem)} {c1 : Int} (h : Sh g s0.2.2) (hI : iter (eBX11_readTheBag_12 g x1) n s0 = some (c1, s1)) : Sh g s1.2.2 :=
  iter_inv (B := eBX11_readTheBag_12 g x1) (fun q => Sh g q.2.2) (fun s c s' hs hB => nX11_readTheBag_12 hs  hB) n s0 c1 s1 h hI
theorem qlX11_readTheBag_12 {g : Shp} {x1 : Int}  {n : Nat} {s0 : (Int × Int × Mem)} (h : Sh g s0.2.2) : iter (BX11_readTheBag_12 g 241 x1) n s0 = iter (eBX11_readTheBag_12 g x1) n s0 :=
  iter_eq (B := BX11_readTheBag_12 g 241 x1) (E := eBX11_readTheBag_12 g x1) (fun q => Sh g q.2.2) (fun s hs => qX11_readTheBag_12 hs ) (fun s c s' hs hB => nX11_readTheBag_12 hs  ((qX11_readTheBag_12 hs ).symm.trans hB)) n s0 h
set_option maxRecDepth 20000 in
theorem qX11_readTheBag_97 {g : Shp} {m : Mem} {z0 : Int} (h : Sh g m)  : bX11_readTheBag_97 g z0 m = ebX11_readTheBag_97 g z0 m := by
  unfold bX11_readTheBag_97 ebX11_readTheBag_97
  refine ck_c (fun b1 => ?_)
  rfl
theorem nX11_readTheBag_97 {g : Shp} {m : Mem} {z0 : Int} (h : Sh g m)  {r : Int} {m' : Mem} (hF : ebX11_readTheBag_97 g z0 m = some (r, m')) : Sh g m' := by
  unfold ebX11_readTheBag_97 at hF
  obtain ⟨b1, hF⟩ := ck_ok hF
  cases hF
  exact h
set_option maxRecDepth 20000 in
theorem qX11_readTheBag_96 {g : Shp} {m : Mem} (h : Sh g m)  : bX11_readTheBag_96 g m = ebX11_readTheBag_96 g m := by
  unfold bX11_readTheBag_96 ebX11_readTheBag_96
  exact qX11_readTheBag_97 h 
theorem nX11_readTheBag_96 {g : Shp} {m : Mem} (h : Sh g m)  {r : Int} {m' : Mem} (hF : ebX11_readTheBag_96 g m = some (r, m')) : Sh g m' := by
  unfold ebX11_readTheBag_96 at hF
  exact nX11_readTheBag_97 h  hF
set_option maxRecDepth 20000 in
theorem qX11_readTheBag_79 {g : Shp} {m : Mem} {x2 : Int} (h : Sh g m)  : bX11_readTheBag_79 g 241 x2 m = ebX11_readTheBag_79 g x2 m := by
  unfold bX11_readTheBag_79 ebX11_readTheBag_79
  refine if_c (fun hc1 => ?_) (fun hc1 => ?_)
  · exact qX11_readTheBag_96 h
  · refine bd2_q (qX11_takeSign h ) (fun v2 m3 h4 => ?_)
    have hm3 := nX11_takeSign h  ((qX11_takeSign h ).symm.trans h4)
    refine if_c (fun hc5 => ?_) (fun hc5 => ?_)
    · exact qX11_readTheBag_96 hm3
    · exact qX11_readTheBag_97 hm3
theorem nX11_readTheBag_79 {g : Shp} {m : Mem} {x2 : Int} (h : Sh g m)  {r : Int} {m' : Mem} (hF : ebX11_readTheBag_79 g x2 m = some (r, m')) : Sh g m' := by
  unfold ebX11_readTheBag_79 at hF
  rcases if_ok hF with ⟨hc1, hF⟩ | ⟨hc1, hF⟩
  · exact nX11_readTheBag_96 h  hF
  · obtain ⟨v2, m3, h4, hF⟩ := bd2_ok hF
    have hm3 := nX11_takeSign h  h4
    rcases if_ok hF with ⟨hc5, hF⟩ | ⟨hc5, hF⟩
    · exact nX11_readTheBag_96 hm3  hF
    · exact nX11_readTheBag_97 hm3  hF
set_option maxRecDepth 20000 in
theorem qX11_readTheBag_0 {g : Shp} {m : Mem} (h : Sh g m)  : bX11_readTheBag_0 g 241 m = ebX11_readTheBag_0 g m := by
  unfold bX11_readTheBag_0 ebX11_readTheBag_0
  refine bd2_q (qX11_takeNumber h ) (fun v1 m2 h3 => ?_)
  have hm2 := nX11_takeNumber h  ((qX11_takeNumber h ).symm.trans h3)
  refine bd2_q (qX11_isColour hm2 ) (fun v4 m5 h6 => ?_)
  have hm5 := nX11_isColour hm2  ((qX11_isColour hm2 ).symm.trans h6)
  refine bdl_q (qlX11_readTheBag_12  (n := 100000) (s0 := (v4, 0, m5)) hm5) (fun cv7 sv8 hi9 => ?_)
  have h10 := nlX11_readTheBag_12  (s0 := (v4, 0, m5)) hm5 ((qlX11_readTheBag_12  (n := 100000) (s0 := (v4, 0, m5)) hm5).symm.trans hi9)
  exact qX11_readTheBag_79 h10 
theorem nX11_readTheBag_0 {g : Shp} {m : Mem} (h : Sh g m)  {r : Int} {m' : Mem} (hF : ebX11_readTheBag_0 g m = some (r, m')) : Sh g m' := by
  unfold ebX11_readTheBag_0 at hF
  obtain ⟨v1, m2, h3, hF⟩ := bd2_ok hF
  have hm2 := nX11_takeNumber h  h3
  obtain ⟨v4, m5, h6, hF⟩ := bd2_ok hF
  have hm5 := nX11_isColour hm2  h6
  obtain ⟨cv7, sv8, hi9, hF⟩ := bdl_ok hF
  have h10 := nlX11_readTheBag_12  (s0 := (v4, 0, m5)) hm5 hi9
  exact nX11_readTheBag_79 h10  hF
theorem qX11_readTheBag {g : Shp} {m : Mem} (h : Sh g m)  : fX11_readTheBag g 241 m = eX11_readTheBag g m := qX11_readTheBag_0 h 
theorem nX11_readTheBag {g : Shp} {m : Mem} (h : Sh g m)  {r : Int} {m' : Mem} (hF : eX11_readTheBag g m = some (r, m')) : Sh g m' := nX11_readTheBag_0 h  hF
set_option maxRecDepth 20000 in
theorem qX11_readLine_102 {g : Shp} {m : Mem} {z0 : Int} (h : Sh g m)  : bX11_readLine_102 g 241 z0 m = ebX11_readLine_102 g z0 m := by
  unfold bX11_readLine_102 ebX11_readLine_102
  refine vm_c (fun m1 em1 => ?_)
  have hm1 := h.s em1 (nRf (sk_241 h) (by decide) (by decide))
  refine bd2_q (qX11_takeNumber hm1 ) (fun v2 m3 h4 => ?_)
  have hm3 := nX11_takeNumber hm1  ((qX11_takeNumber hm1 ).symm.trans h4)
  refine bd2_q (qX11_goRun hm3 ) (fun v5 m6 h7 => ?_)
  have hm6 := nX11_goRun hm3  ((qX11_goRun hm3 ).symm.trans h7)
  refine if_c (fun hc8 => ?_) (fun hc8 => ?_)
  · rfl
  · refine bd2_q (qX11_takeSign hm6 ) (fun v9 m10 h11 => ?_)
    have hm10 := nX11_takeSign hm6  ((qX11_takeSign hm6 ).symm.trans h11)
    rfl
theorem nX11_readLine_102 {g : Shp} {m : Mem} {z0 : Int} (h : Sh g m)  {c1 : Int} {s1 : (Int × Mem)} (hF : ebX11_readLine_102 g z0 m = some (c1, s1)) : Sh g s1.2 := by
  unfold ebX11_readLine_102 at hF
  obtain ⟨m1, em1, hF⟩ := vm_ok hF
  have hm1 := h.s em1 (nRf (sk_241 h) (by decide) (by decide))
  obtain ⟨v2, m3, h4, hF⟩ := bd2_ok hF
  have hm3 := nX11_takeNumber hm1  h4
  obtain ⟨v5, m6, h7, hF⟩ := bd2_ok hF
  have hm6 := nX11_goRun hm3  h7
  rcases if_ok hF with ⟨hc8, hF⟩ | ⟨hc8, hF⟩
  · cases hF
    exact hm6
  · obtain ⟨v9, m10, h11, hF⟩ := bd2_ok hF
    have hm10 := nX11_takeSign hm6  h11
    cases hF
    exact hm10
set_option maxRecDepth 20000 in
theorem qX11_readLine_73 {g : Shp} {m : Mem} {x5 : Int} (h : Sh g m)  : bX11_readLine_73 g 241 x5 m = ebX11_readLine_73 g x5 m := by
  unfold bX11_readLine_73 ebX11_readLine_73
  refine if_c (fun hc1 => ?_) (fun hc1 => ?_)
  · refine if_c (fun hc2 => ?_) (fun hc2 => ?_)
    · exact qX11_readLine_102 h
    · have k3 := s_241_4 h
      rewrite [k3.1, ck_t k3.2.1]
      try rewrite [k3.2.2]
      refine ck_c (fun i4 => ?_)
      exact qX11_readLine_102 h 
  · rfl
theorem nX11_readLine_73 {g : Shp} {m : Mem} {x5 : Int} (h : Sh g m)  {c1 : Int} {s1 : (Int × Mem)} (hF : ebX11_readLine_73 g x5 m = some (c1, s1)) : Sh g s1.2 := by
  unfold ebX11_readLine_73 at hF
  rcases if_ok hF with ⟨hc1, hF⟩ | ⟨hc1, hF⟩
  · rcases if_ok hF with ⟨hc2, hF⟩ | ⟨hc2, hF⟩
    · exact nX11_readLine_102 h  hF
    · have k3 := s_241_4 h
      obtain ⟨i4, hF⟩ := ck_ok hF
      exact nX11_readLine_102 h  hF
  · cases hF
    exact h
theorem nlX11_readLine_73 {g : Shp}  {n : Nat} {s0 s1 : (Int × Mem)} {c1 : Int} (h : Sh g s0.2) (hI : iter (eBX11_readLine_73 g ) n s0 = some (c1, s1)) : Sh g s1.2 :=
  iter_inv (B := eBX11_readLine_73 g ) (fun q => Sh g q.2) (fun s c s' hs hB => nX11_readLine_73 hs  hB) n s0 c1 s1 h hI
theorem qlX11_readLine_73 {g : Shp}  {n : Nat} {s0 : (Int × Mem)} (h : Sh g s0.2) : iter (BX11_readLine_73 g 241) n s0 = iter (eBX11_readLine_73 g ) n s0 :=
  iter_eq (B := BX11_readLine_73 g 241) (E := eBX11_readLine_73 g ) (fun q => Sh g q.2) (fun s hs => qX11_readLine_73 hs ) (fun s c s' hs hB => nX11_readLine_73 hs  ((qX11_readLine_73 hs ).symm.trans hB)) n s0 h
set_option maxRecDepth 20000 in
theorem qX11_readLine_62 {g : Shp} {m : Mem} (h : Sh g m)  : bX11_readLine_62 g m = ebX11_readLine_62 g m := by
  unfold bX11_readLine_62 ebX11_readLine_62
  rfl
theorem nX11_readLine_62 {g : Shp} {m : Mem} (h : Sh g m)  {r : Int} {m' : Mem} (hF : ebX11_readLine_62 g m = some (r, m')) : Sh g m' := by
  unfold ebX11_readLine_62 at hF
  cases hF
  exact h
set_option maxRecDepth 20000 in
theorem qX11_readLine_127 {g : Shp} {m : Mem} (h : Sh g m)  : bX11_readLine_127 g m = ebX11_readLine_127 g m := by
  unfold bX11_readLine_127 ebX11_readLine_127
  rfl
theorem nX11_readLine_127 {g : Shp} {m : Mem} (h : Sh g m)  {r : Int} {m' : Mem} (hF : ebX11_readLine_127 g m = some (r, m')) : Sh g m' := by
  unfold ebX11_readLine_127 at hF
  cases hF
  exact h
set_option maxRecDepth 20000 in
theorem qX11_readLine_140 {g : Shp} {m : Mem} (h : Sh g m)  : bX11_readLine_140 g 241 m = ebX11_readLine_140 g m := by
  unfold bX11_readLine_140 ebX11_readLine_140
  refine vm_c (fun m1 em1 => ?_)
  have hm1 := h.s em1 (nRf (sk_241 h) (by decide) (by decide))
  rfl
theorem nX11_readLine_140 {g : Shp} {m : Mem} (h : Sh g m)  {r : Int} {m' : Mem} (hF : ebX11_readLine_140 g m = some (r, m')) : Sh g m' := by
  unfold ebX11_readLine_140 at hF
  obtain ⟨m1, em1, hF⟩ := vm_ok hF
  have hm1 := h.s em1 (nRf (sk_241 h) (by decide) (by decide))
  cases hF
  exact hm1
set_option maxRecDepth 20000 in
theorem qX11_readLine_0 {g : Shp} {m : Mem} (h : Sh g m)  : bX11_readLine_0 g 241 m = ebX11_readLine_0 g m := by
  unfold bX11_readLine_0 ebX11_readLine_0
  refine bd2_q (qX11_takeNumber h ) (fun v1 m2 h3 => ?_)
  have hm2 := nX11_takeNumber h  ((qX11_takeNumber h ).symm.trans h3)
  refine bd2_q (qX11_takeSign hm2 ) (fun v4 m5 h6 => ?_)
  have hm5 := nX11_takeSign hm2  ((qX11_takeSign hm2 ).symm.trans h6)
  refine bd2_q (qX11_takeNumber hm5 ) (fun v7 m8 h9 => ?_)
  have hm8 := nX11_takeNumber hm5  ((qX11_takeNumber hm5 ).symm.trans h9)
  refine bd2_q (qX11_takeSign hm8 ) (fun v10 m11 h12 => ?_)
  have hm11 := nX11_takeSign hm8  ((qX11_takeSign hm8 ).symm.trans h12)
  refine if_c (fun hc13 => ?_) (fun hc13 => ?_)
  · exact qX11_readLine_62 hm11
  · refine if_c (fun hc14 => ?_) (fun hc14 => ?_)
    · exact qX11_readLine_62 hm11
    · refine if_c (fun hc15 => ?_) (fun hc15 => ?_)
      · exact qX11_readLine_62 hm11
      · refine bd2_q (qX11_in hm11 ) (fun v16 m17 h18 => ?_)
        have hm17 := nX11_in hm11  ((qX11_in hm11 ).symm.trans h18)
        refine if_c (fun hc19 => ?_) (fun hc19 => ?_)
        · exact qX11_readLine_62 hm17
        · refine bd2_q (qX11_in hm17 ) (fun v20 m21 h22 => ?_)
          have hm21 := nX11_in hm17  ((qX11_in hm17 ).symm.trans h22)
          refine if_c (fun hc23 => ?_) (fun hc23 => ?_)
          · exact qX11_readLine_62 hm21
          · refine bd2_q (qX11_beginLine hm21 ) (fun v24 m25 h26 => ?_)
            have hm25 := nX11_beginLine hm21  ((qX11_beginLine hm21 ).symm.trans h26)
            refine bdl_q (qlX11_readLine_73  (n := 100000) (s0 := (0, m25)) hm25) (fun cv27 sv28 hi29 => ?_)
            have h30 := nlX11_readLine_73  (s0 := (0, m25)) hm25 ((qlX11_readLine_73  (n := 100000) (s0 := (0, m25)) hm25).symm.trans hi29)
            refine if_c (fun hc31 => ?_) (fun hc31 => ?_)
            · exact qX11_readLine_127 h30
            · exact qX11_readLine_140 h30
theorem nX11_readLine_0 {g : Shp} {m : Mem} (h : Sh g m)  {r : Int} {m' : Mem} (hF : ebX11_readLine_0 g m = some (r, m')) : Sh g m' := by
  unfold ebX11_readLine_0 at hF
  obtain ⟨v1, m2, h3, hF⟩ := bd2_ok hF
  have hm2 := nX11_takeNumber h  h3
  obtain ⟨v4, m5, h6, hF⟩ := bd2_ok hF
  have hm5 := nX11_takeSign hm2  h6
  obtain ⟨v7, m8, h9, hF⟩ := bd2_ok hF
  have hm8 := nX11_takeNumber hm5  h9
  obtain ⟨v10, m11, h12, hF⟩ := bd2_ok hF
  have hm11 := nX11_takeSign hm8  h12
  rcases if_ok hF with ⟨hc13, hF⟩ | ⟨hc13, hF⟩
  · exact nX11_readLine_62 hm11  hF
  · rcases if_ok hF with ⟨hc14, hF⟩ | ⟨hc14, hF⟩
    · exact nX11_readLine_62 hm11  hF
    · rcases if_ok hF with ⟨hc15, hF⟩ | ⟨hc15, hF⟩
      · exact nX11_readLine_62 hm11  hF
      · obtain ⟨v16, m17, h18, hF⟩ := bd2_ok hF
        have hm17 := nX11_in hm11  h18
        rcases if_ok hF with ⟨hc19, hF⟩ | ⟨hc19, hF⟩
        · exact nX11_readLine_62 hm17  hF
        · obtain ⟨v20, m21, h22, hF⟩ := bd2_ok hF
          have hm21 := nX11_in hm17  h22
          rcases if_ok hF with ⟨hc23, hF⟩ | ⟨hc23, hF⟩
          · exact nX11_readLine_62 hm21  hF
          · obtain ⟨v24, m25, h26, hF⟩ := bd2_ok hF
            have hm25 := nX11_beginLine hm21  h26
            obtain ⟨cv27, sv28, hi29, hF⟩ := bdl_ok hF
            have h30 := nlX11_readLine_73  (s0 := (0, m25)) hm25 hi29
            rcases if_ok hF with ⟨hc31, hF⟩ | ⟨hc31, hF⟩
            · exact nX11_readLine_127 h30  hF
            · exact nX11_readLine_140 h30  hF
theorem qX11_readLine {g : Shp} {m : Mem} (h : Sh g m)  : fX11_readLine g 241 m = eX11_readLine g m := qX11_readLine_0 h 
theorem nX11_readLine {g : Shp} {m : Mem} (h : Sh g m)  {r : Int} {m' : Mem} (hF : eX11_readLine g m = some (r, m')) : Sh g m' := nX11_readLine_0 h  hF
