def ebX11_findPieces_98 (g : Shp) (x1 x2 x3 x5 z0 : Int) (m : Mem) : Option (Int × (Int × Int × Mem)) :=
  vv (w32 (x2 + 1)) fun y1 =>
  some (0, (y1, z0, m))
def ebX11_findPieces_85 (g : Shp) (x1 x2 x3 x4 x5 x6 : Int) (m : Mem) : Option (Int × (Int × Int × Mem)) :=
  if x6 = 0 then
    ebX11_findPieces_98 g x1 x2 x3 x5 0 m
  else
    ebX11_findPieces_98 g x1 x2 x3 x5 (w32 (x4 + 1)) m
def ebX11_findPieces_71 (g : Shp) (x1 x2 x3 x4 x5 z0 : Int) (m : Mem) : Option (Int × (Int × Int × Mem)) :=
  if z0 = 0 then
    bd2 (eX11_endPiece g x4 0 m) fun v2 m3 =>
    ebX11_findPieces_85 g x1 x2 x3 x4 x5 z0 m3
  else
    ebX11_findPieces_85 g x1 x2 x3 x4 x5 z0 m
def ebX11_findPieces_36 (g : Shp) (x1 x2 x3 x4 x5 : Int) (m : Mem) : Option (Int × (Int × Int × Mem)) :=
  if x5 ≤ x2 then
    some (1, (x2, x4, m))
  else
    ck ((0 : Int) ≤ (w32 ((w32 (60 * x1)) + x2)) ∧ (w32 ((w32 (60 * x1)) + x2)) < 180) <|
    ck ((0 : Int) ≤ (w32 (33 + (m 256 (w32 ((w32 (60 * x1)) + x2))))) ∧ (w32 (33 + (m 256 (w32 ((w32 (60 * x1)) + x2))))) < 433) <|
    if (m 242 (w32 (33 + (m 256 (w32 ((w32 (60 * x1)) + x2)))))) = ((-4)) then
      ebX11_findPieces_71 g x1 x2 x3 x4 x5 1 m
    else
      ebX11_findPieces_71 g x1 x2 x3 x4 x5 0 m
def eBX11_findPieces_36 (g : Shp) (x1 x3 x5 : Int) (q : (Int × Int × Mem)) : Option (Int × (Int × Int × Mem)) := ebX11_findPieces_36 g x1 q.1 x3 q.2.1 x5 q.2.2
def ebX11_findPieces_126 (g : Shp) (x1 x2 x3 z1 z2 : Int) (m : Mem) : Option (Int × (Int × Int × Mem)) :=
  bd2 (eX11_endPiece g z1 z2 m) fun v1 m2 =>
  vv (w32 (x3 + 1)) fun y4 =>
  some (0, (x2, y4, m2))
def ebX11_findPieces_106 (g : Shp) (x1 x2 x3 x4 : Int) (m : Mem) : Option (Int × (Int × Int × Mem)) :=
  ck ((0 : Int) ≤ x1 ∧ x1 < 3) <|
  if (m 253 x1) ≤ (w32 (x3 + 1)) then
    ebX11_findPieces_126 g x1 x2 x3 x4 0 m
  else
    ebX11_findPieces_126 g x1 x2 x3 x4 1 m
def ebX11_findPieces_9 (g : Shp) (x1 x2 x3 : Int) (m : Mem) : Option (Int × (Int × Int × Mem)) :=
  ck ((0 : Int) ≤ x1 ∧ x1 < 3) <|
  if (m 253 x1) ≤ x3 then
    some (1, (x2, x3, m))
  else
    ck ((0 : Int) ≤ (w32 ((w32 (5 * x1)) + x3)) ∧ (w32 ((w32 (5 * x1)) + x3)) < 15) <|
    vv (w32 (x2 + (m 254 (w32 ((w32 (5 * x1)) + x3))))) fun y6 =>
    bdl (iter (eBX11_findPieces_36 g x1 x3 y6) 100000 (x2, 0, m)) fun cv7 sv8 =>
    ebX11_findPieces_106 g x1 sv8.1 x3 sv8.2.1 sv8.2.2
def eBX11_findPieces_9 (g : Shp) (x1 : Int) (q : (Int × Int × Mem)) : Option (Int × (Int × Int × Mem)) := ebX11_findPieces_9 g x1 q.1 q.2.1 q.2.2
def ebX11_findPieces_135 (g : Shp) (m : Mem) : Option (Int × Mem) :=
  some (0, m)
def ebX11_findPieces_0 (g : Shp) (x1 : Int) (m : Mem) : Option (Int × Mem) :=
  vm (ms m 241 27 0) fun m1 =>
  bdl (iter (eBX11_findPieces_9 g x1) 100000 (0, 0, m1)) fun cv2 sv3 =>
  ebX11_findPieces_135 g sv3.2.2
def eX11_findPieces (g : Shp) (x1 : Int) (m : Mem) : Option (Int × Mem) := ebX11_findPieces_0 g x1 m
def ebX11_piece_13 (g : Shp) (m : Mem) : Option (Int × Mem) :=
  some ((-1), m)
def ebX11_piece_62 (g : Shp) (z0 : Int) (m : Mem) : Option (Int × Mem) :=
  some (z0, m)
def ebX11_piece_0 (g : Shp) (x1 x2 : Int) (m : Mem) : Option (Int × Mem) :=
  bd2 (eX11_isLine g x1 m) fun v1 m2 =>
  if v1 = 0 then
    ebX11_piece_13 g m2
  else
    if ((-1)) ≤ x2 then
      bd2 (eX11_isCovered g x1 m2) fun v6 m7 =>
      if v6 = 0 then
        bd2 (eX11_findPieces g x1 m7) fun v10 m11 =>
        if x2 = ((-1)) then
          ebX11_piece_62 g (m11 241 27) m11
        else
          if (m11 241 27) ≤ x2 then
            ebX11_piece_62 g ((-4)) m11
          else
            ck ((0 : Int) ≤ x2 ∧ x2 < 60) <|
            ebX11_piece_62 g (m11 257 x2) m11
      else
        some ((-2), m7)
    else
      ebX11_piece_13 g m2
def eX11_piece (g : Shp) (x1 x2 : Int) (m : Mem) : Option (Int × Mem) := ebX11_piece_0 g x1 x2 m
def ebX11_costAt_31 (g : Shp) (z0 : Int) (m : Mem) : Option (Int × Mem) :=
  some (z0, m)
def ebX11_costAt_0 (g : Shp) (x1 x2 : Int) (m : Mem) : Option (Int × Mem) :=
  vv (w32 ((w32 ((jdiv x1 2) * 343)) + x2)) fun y1 =>
  if (jrem x1 2) = 0 then
    ck ((0 : Int) ≤ y1 ∧ y1 < 10633) <|
    ebX11_costAt_31 g (m 259 y1) m
  else
    ck ((0 : Int) ≤ y1 ∧ y1 < 10290) <|
    ebX11_costAt_31 g (m 260 y1) m
def eX11_costAt (g : Shp) (x1 x2 : Int) (m : Mem) : Option (Int × Mem) := ebX11_costAt_0 g x1 x2 m
def ebX11_oneOf_20 (g : Shp) (z0 : Int) (m : Mem) : Option (Int × Mem) :=
  some (z0, m)
def ebX11_oneOf_0 (g : Shp) (x0 : Int) (m : Mem) : Option (Int × Mem) :=
  if x0 = 0 then
    ebX11_oneOf_20 g 49 m
  else
    if x0 = 1 then
      ebX11_oneOf_20 g 7 m
    else
      ebX11_oneOf_20 g 1 m
def eX11_oneOf (g : Shp) (x0 : Int) (m : Mem) : Option (Int × Mem) := ebX11_oneOf_0 g x0 m
def ebX11_isCutAslant_38 (g : Shp) (z0 : Int) (m : Mem) : Option (Int × Mem) :=
  ck (z0 = 0 ∨ z0 = 1) <|
  some (z0, m)
def ebX11_isCutAslant_33 (g : Shp) (m : Mem) : Option (Int × Mem) :=
  ebX11_isCutAslant_38 g 1 m
def ebX11_isCutAslant_37 (g : Shp) (m : Mem) : Option (Int × Mem) :=
  ebX11_isCutAslant_38 g 0 m
def ebX11_isCutAslant_0 (g : Shp) (x1 x2 x3 : Int) (m : Mem) : Option (Int × Mem) :=
  ck ((0 : Int) ≤ x1 ∧ x1 < 61) <|
  if x2 = (m 261 x1) then
    ck ((0 : Int) ≤ x1 ∧ x1 < 61) <|
    if (m 262 x1) = 0 then
      ebX11_isCutAslant_37 g m
    else
      if x3 = 0 then
        ck ((0 : Int) ≤ 0 ∧ 0 < (3 : Int)) <|
        if x2 = (m 252 0) then
          ebX11_isCutAslant_37 g m
        else
          ebX11_isCutAslant_33 g m
      else
        ebX11_isCutAslant_33 g m
  else
    ebX11_isCutAslant_37 g m
def eX11_isCutAslant (g : Shp) (x1 x2 x3 : Int) (m : Mem) : Option (Int × Mem) := ebX11_isCutAslant_0 g x1 x2 x3 m
def ebX11_costBy_55 (g : Shp) (m : Mem) : Option (Int × Mem) :=
  some (1000000, m)
def ebX11_costBy_147 (g : Shp) (z0 : Int) (m : Mem) : Option (Int × Mem) :=
  some (z0, m)
def ebX11_costBy_122 (g : Shp) (x6 z0 z1 : Int) (m : Mem) : Option (Int × Mem) :=
  vv (w32 (z0 + z1)) fun y1 =>
  if x6 = 1000000 then
    ebX11_costBy_147 g 1000000 m
  else
    ebX11_costBy_147 g (w32 ((w32 (x6 + (w32 (32 * y1)))) + 1)) m
def ebX11_costBy_106 (g : Shp) (x1 x3 x4 x6 z0 : Int) (m : Mem) : Option (Int × Mem) :=
  bd2 (eX11_isCutAslant g x1 x3 x4 m) fun v1 m2 =>
  if v1 = 0 then
    ebX11_costBy_122 g x6 z0 0 m2
  else
    ebX11_costBy_122 g x6 z0 1 m2
def ebX11_costBy_77 (g : Shp) (x1 x2 x3 x4 z1 z2 : Int) (m : Mem) : Option (Int × Mem) :=
  bd2 (eX11_oneOf g x4 m) fun v1 m2 =>
  bd2 (eX11_costAt g (w32 (z1 - z2)) (w32 (x2 - v1)) m2) fun v4 m5 =>
  ck ((0 : Int) ≤ x4 ∧ x4 < 3) <|
  if (m5 252 x4) ≤ x3 then
    ebX11_costBy_106 g x1 x3 x4 v4 0 m5
  else
    ebX11_costBy_106 g x1 x3 x4 v4 1 m5
def ebX11_costBy_58 (g : Shp) (x1 x2 x3 x4 x5 : Int) (m : Mem) : Option (Int × Mem) :=
  if x5 ≤ 0 then
    ebX11_costBy_77 g x1 x2 x3 x4 (w32 (x1 - x3)) 0 m
  else
    ck ((0 : Int) ≤ 0 ∧ 0 < (433 : Int)) <|
    ebX11_costBy_77 g x1 x2 x3 x4 (w32 (x1 - x3)) (m 242 0) m
def ebX11_costBy_0 (g : Shp) (x1 x2 x3 x4 : Int) (m : Mem) : Option (Int × Mem) :=
  ck ((0 : Int) ≤ x1 ∧ x1 < 61) <|
  vv (w32 ((m 261 x1) - x3)) fun y3 =>
  bd2 (eX11_oneOf g x4 m) fun v4 m5 =>
  ck (¬ v4 = 0) <|
  if (jrem (jdiv x2 v4) 7) = 0 then
    ebX11_costBy_55 g m5
  else
    ck ((0 : Int) ≤ x4 ∧ x4 < 3) <|
    if (m5 252 x4) < x3 then
      ebX11_costBy_55 g m5
    else
      if y3 < 0 then
        ebX11_costBy_55 g m5
      else
        if y3 ≤ 0 then
          ebX11_costBy_58 g x1 x2 x3 x4 y3 m5
        else
          ck ((0 : Int) ≤ 0 ∧ 0 < (433 : Int)) <|
          if (m5 242 0) < y3 then
            ebX11_costBy_58 g x1 x2 x3 x4 y3 m5
          else
            ebX11_costBy_55 g m5
def eX11_costBy (g : Shp) (x1 x2 x3 x4 : Int) (m : Mem) : Option (Int × Mem) := ebX11_costBy_0 g x1 x2 x3 x4 m
def ebX11_leastAt_61 (g : Shp) (x1 x2 x4 x5 z0 : Int) (m : Mem) : Option (Int × (Int × Int × Mem)) :=
  vv (w32 (x5 + 1)) fun y1 =>
  some (0, (z0, y1, m))
def ebX11_leastAt_31 (g : Shp) (x1 x2 x3 x4 x5 : Int) (m : Mem) : Option (Int × (Int × Int × Mem)) :=
  if 3 ≤ x5 then
    some (1, (x3, x5, m))
  else
    bd2 (eX11_costBy g x1 x2 x4 x5 m) fun v2 m3 =>
    if x3 ≤ v2 then
      ebX11_leastAt_61 g x1 x2 x4 x5 x3 m3
    else
      ebX11_leastAt_61 g x1 x2 x4 x5 v2 m3
def eBX11_leastAt_31 (g : Shp) (x1 x2 x4 : Int) (q : (Int × Int × Mem)) : Option (Int × (Int × Int × Mem)) := ebX11_leastAt_31 g x1 x2 q.1 x4 q.2.1 q.2.2
def ebX11_leastAt_68 (g : Shp) (x1 x2 x3 x4 : Int) (m : Mem) : Option (Int × (Int × Int × Mem)) :=
  vv (w32 (x4 + 1)) fun y1 =>
  some (0, (x3, y1, m))
def ebX11_leastAt_6 (g : Shp) (x1 x2 x3 x4 : Int) (m : Mem) : Option (Int × (Int × Int × Mem)) :=
  ck ((0 : Int) ≤ 2 ∧ 2 < (3 : Int)) <|
  if (m 252 2) < x4 then
    some (1, (x3, x4, m))
  else
    ck ((0 : Int) ≤ x1 ∧ x1 < 61) <|
    if (m 261 x1) < x4 then
      some (1, (x3, x4, m))
    else
      bdl (iter (eBX11_leastAt_31 g x1 x2 x4) 100000 (x3, 0, m)) fun cv7 sv8 =>
      ebX11_leastAt_68 g x1 x2 sv8.1 x4 sv8.2.2
def eBX11_leastAt_6 (g : Shp) (x1 x2 : Int) (q : (Int × Int × Mem)) : Option (Int × (Int × Int × Mem)) := ebX11_leastAt_6 g x1 x2 q.1 q.2.1 q.2.2
def ebX11_leastAt_74 (g : Shp) (x3 : Int) (m : Mem) : Option (Int × Mem) :=
  some (x3, m)
def ebX11_leastAt_0 (g : Shp) (x1 x2 : Int) (m : Mem) : Option (Int × Mem) :=
  bdl (iter (eBX11_leastAt_6 g x1 x2) 100000 (1000000, 1, m)) fun cv1 sv2 =>
  ebX11_leastAt_74 g sv2.1 sv2.2.2
def eX11_leastAt (g : Shp) (x1 x2 : Int) (m : Mem) : Option (Int × Mem) := ebX11_leastAt_0 g x1 x2 m
def ebX11_firstStone_87 (g : Shp) (x1 x2 x3 x4 x5 x6 : Int) (m : Mem) : Option (Int × (Int × Mem)) :=
  vv (w32 (x6 + 1)) fun y1 =>
  some (0, (y1, m))
def ebX11_firstStone_62 (g : Shp) (x1 x2 x3 x4 x5 x6 z0 z1 : Int) (m : Mem) : Option (Int × (Int × Mem)) :=
  if z0 = z1 then
    bd2 (eX11_costBy g x1 x2 x4 x6 m) fun v2 m3 =>
    if v2 = x3 then
      some (1, (x6, m3))
    else
      ebX11_firstStone_87 g x1 x2 x3 x4 x5 x6 m3
  else
    ebX11_firstStone_87 g x1 x2 x3 x4 x5 x6 m
def ebX11_firstStone_48 (g : Shp) (x1 x2 x3 x4 x5 x6 z0 : Int) (m : Mem) : Option (Int × (Int × Mem)) :=
  if x5 = 0 then
    ebX11_firstStone_62 g x1 x2 x3 x4 x5 x6 z0 1 m
  else
    ebX11_firstStone_62 g x1 x2 x3 x4 x5 x6 z0 0 m
def ebX11_firstStone_25 (g : Shp) (x1 x2 x3 x4 x5 x6 : Int) (m : Mem) : Option (Int × (Int × Mem)) :=
  if 3 ≤ x6 then
    some (2, (x6, m))
  else
    ck ((0 : Int) ≤ x6 ∧ x6 < 3) <|
    if (m 252 x6) = x4 then
      ebX11_firstStone_48 g x1 x2 x3 x4 x5 x6 1 m
    else
      ebX11_firstStone_48 g x1 x2 x3 x4 x5 x6 0 m
def eBX11_firstStone_25 (g : Shp) (x1 x2 x3 x4 x5 : Int) (q : (Int × Mem)) : Option (Int × (Int × Mem)) := ebX11_firstStone_25 g x1 x2 x3 x4 x5 q.1 q.2
def ebX11_firstStone_93 (g : Shp) (x1 x2 x3 x4 x5 : Int) (m : Mem) : Option (Int × (Int × Int × Mem)) :=
  vv (w32 (x5 + 1)) fun y1 =>
  some (0, (y1, 0, m))
def ebX11_firstStone_16 (g : Shp) (x1 x2 x3 x4 x5 : Int) (m : Mem) : Option (Int × (Int × Int × Mem)) :=
  if 2 ≤ x5 then
    some (2, (x5, 0, m))
  else
    bdl (iter (eBX11_firstStone_25 g x1 x2 x3 x4 x5) 100000 (0, m)) fun cv2 sv3 =>
    if cv2 = 1 then
      some (1, (0, sv3.1, sv3.2))
    else
      ebX11_firstStone_93 g x1 x2 x3 x4 x5 sv3.2
def eBX11_firstStone_16 (g : Shp) (x1 x2 x3 x4 : Int) (q : (Int × Int × Mem)) : Option (Int × (Int × Int × Mem)) := ebX11_firstStone_16 g x1 x2 x3 x4 q.1 q.2.2
def ebX11_firstStone_99 (g : Shp) (x1 x2 x3 x4 : Int) (m : Mem) : Option (Int × (Int × Int × Mem)) :=
  vv (w32 (x4 + (-1))) fun y1 =>
  some (0, (y1, 0, m))
def ebX11_firstStone_8 (g : Shp) (x1 x2 x3 x4 : Int) (m : Mem) : Option (Int × (Int × Int × Mem)) :=
  if x4 ≤ 0 then
    some (2, (x4, 0, m))
  else
    bdl (iter (eBX11_firstStone_16 g x1 x2 x3 x4) 100000 (0, 0, m)) fun cv2 sv3 =>
    if cv2 = 1 then
      some (1, (x4, sv3.2.1, sv3.2.2))
    else
      ebX11_firstStone_99 g x1 x2 x3 x4 sv3.2.2
def eBX11_firstStone_8 (g : Shp) (x1 x2 x3 : Int) (q : (Int × Int × Mem)) : Option (Int × (Int × Int × Mem)) := ebX11_firstStone_8 g x1 x2 x3 q.1 q.2.2
def ebX11_firstStone_79 (g : Shp) (x4 x6 : Int) (m : Mem) : Option (Int × Mem) :=
  some (w32 ((w32 (4 * x4)) + x6), m)
def ebX11_firstStone_105 (g : Shp) (m : Mem) : Option (Int × Mem) :=
  some ((-4), m)
def ebX11_firstStone_0 (g : Shp) (x1 x2 x3 : Int) (m : Mem) : Option (Int × Mem) :=
  ck ((0 : Int) ≤ 2 ∧ 2 < (3 : Int)) <|
  vv (m 252 2) fun y3 =>
  bdl (iter (eBX11_firstStone_8 g x1 x2 x3) 100000 (y3, 0, m)) fun cv4 sv5 =>
  if cv4 = 1 then
    ebX11_firstStone_79 g sv5.1 sv5.2.1 sv5.2.2
  else
    ebX11_firstStone_105 g sv5.2.2
def eX11_firstStone (g : Shp) (x1 x2 x3 : Int) (m : Mem) : Option (Int × Mem) := ebX11_firstStone_0 g x1 x2 x3 m
def ebX11_layRest_15 (g : Shp) (x1 x2 x3 : Int) (m : Mem) : Option (Int × (Int × Mem)) :=
  ck ((0 : Int) ≤ x2 ∧ x2 < 60) <|
  if (m 257 x2) < x3 then
    some (1, (x3, m))
  else
    ck ((0 : Int) ≤ (w32 (x1 + x3)) ∧ (w32 (x1 + x3)) < 61) <|
    vm (ms m 261 (w32 (x1 + x3)) x3) fun m6 =>
    ck ((0 : Int) ≤ x2 ∧ x2 < 60) <|
    ck ((0 : Int) ≤ (w32 (x1 + x3)) ∧ (w32 (x1 + x3)) < 61) <|
    ck ((m6 258 x2) = 0 ∨ (m6 258 x2) = 1) <|
    vm (ms m6 262 (w32 (x1 + x3)) (m6 258 x2)) fun m12 =>
    vv (w32 (x3 + 1)) fun y13 =>
    some (0, (y13, m12))
def eBX11_layRest_15 (g : Shp) (x1 x2 : Int) (q : (Int × Mem)) : Option (Int × (Int × Mem)) := ebX11_layRest_15 g x1 x2 q.1 q.2
def ebX11_layRest_54 (g : Shp) (x1 x2 : Int) (m : Mem) : Option (Int × (Int × Int × Mem)) :=
  ck ((0 : Int) ≤ x2 ∧ x2 < 60) <|
  vv (w32 (x1 + (m 257 x2))) fun y3 =>
  vv (w32 (x2 + (-1))) fun y4 =>
  some (0, (y3, y4, m))
def ebX11_layRest_9 (g : Shp) (x1 x2 : Int) (m : Mem) : Option (Int × (Int × Int × Mem)) :=
  if x2 < 0 then
    some (1, (x1, x2, m))
  else
    bdl (iter (eBX11_layRest_15 g x1 x2) 100000 (1, m)) fun cv2 sv3 =>
    ebX11_layRest_54 g x1 x2 sv3.2
def eBX11_layRest_9 (g : Shp) (q : (Int × Int × Mem)) : Option (Int × (Int × Int × Mem)) := ebX11_layRest_9 g q.1 q.2.1 q.2.2
def ebX11_layRest_69 (g : Shp) (x1 : Int) (m : Mem) : Option (Int × Mem) :=
  some (x1, m)
def ebX11_layRest_0 (g : Shp) (m : Mem) : Option (Int × Mem) :=
  vv (w32 ((m 241 27) - 1)) fun y1 =>
  bdl (iter (eBX11_layRest_9 g) 100000 (0, y1, m)) fun cv2 sv3 =>
  ebX11_layRest_69 g sv3.1 sv3.2.2
def eX11_layRest (g : Shp) (m : Mem) : Option (Int × Mem) := ebX11_layRest_0 g m
def ebX11_findWay_149 (g : Shp) (x3 x4 x5 x6 : Int) (m : Mem) : Option (Int × (Int × Mem)) :=
  vv (w32 (x6 + 1)) fun y1 =>
  some (0, (y1, m))
def ebX11_findWay_106 (g : Shp) (x3 x4 x5 x6 z0 : Int) (m : Mem) : Option (Int × (Int × Mem)) :=
  vv (w32 ((w32 ((jdiv x5 2) * 343)) + x6)) fun y1 =>
  if (jrem x5 2) = 0 then
    ck ((0 : Int) ≤ y1 ∧ y1 < 10633) <|
    vm (ms m 259 y1 z0) fun m5 =>
    ebX11_findWay_149 g x3 x4 x5 x6 m5
  else
    ck ((0 : Int) ≤ y1 ∧ y1 < 10290) <|
    vm (ms m 260 y1 z0) fun m8 =>
    ebX11_findWay_149 g x3 x4 x5 x6 m8
def ebX11_findWay_29 (g : Shp) (x3 x4 x5 x6 : Int) (m : Mem) : Option (Int × (Int × Mem)) :=
  if 343 ≤ x6 then
    some (1, (x6, m))
  else
    ck ((0 : Int) ≤ x4 ∧ x4 < 433) <|
    if (m 242 x4) < (jdiv x6 49) then
      ebX11_findWay_149 g x3 x4 x5 x6 m
    else
      ck ((0 : Int) ≤ (w32 (x4 + 1)) ∧ (w32 (x4 + 1)) < 433) <|
      if (m 242 (w32 (x4 + 1))) < (jrem (jdiv x6 7) 7) then
        ebX11_findWay_149 g x3 x4 x5 x6 m
      else
        ck ((0 : Int) ≤ (w32 (x4 + 2)) ∧ (w32 (x4 + 2)) < 433) <|
        if (m 242 (w32 (x4 + 2))) < (jrem x6 7) then
          ebX11_findWay_149 g x3 x4 x5 x6 m
        else
          if x5 = 0 then
            ebX11_findWay_106 g x3 x4 x5 x6 0 m
          else
            bd2 (eX11_leastAt g x5 x6 m) fun v12 m13 =>
            ebX11_findWay_106 g x3 x4 x5 x6 v12 m13
def eBX11_findWay_29 (g : Shp) (x3 x4 x5 : Int) (q : (Int × Mem)) : Option (Int × (Int × Mem)) := ebX11_findWay_29 g x3 x4 x5 q.1 q.2
def ebX11_findWay_155 (g : Shp) (x3 x4 x5 : Int) (m : Mem) : Option (Int × (Int × Mem)) :=
  vv (w32 (x5 + 1)) fun y1 =>
  some (0, (y1, m))
def ebX11_findWay_20 (g : Shp) (x3 x4 x5 : Int) (m : Mem) : Option (Int × (Int × Mem)) :=
  if x3 < x5 then
    some (1, (x5, m))
  else
    bdl (iter (eBX11_findWay_29 g x3 x4 x5) 100000 (0, m)) fun cv2 sv3 =>
    ebX11_findWay_155 g x3 x4 x5 sv3.2
def eBX11_findWay_20 (g : Shp) (x3 x4 : Int) (q : (Int × Mem)) : Option (Int × (Int × Mem)) := ebX11_findWay_20 g x3 x4 q.1 q.2
def ebX11_findWay_336 (g : Shp) (x5 x8 x9 z0 z1 z2 : Int) (m : Mem) : Option (Int × (Int × Int × Int × Mem)) :=
  vv (w32 (z0 - (w32 (z1 + z2)))) fun y1 =>
  bd2 (eX11_oneOf g (jrem x9 4) m) fun v2 m3 =>
  vv (w32 (x5 - v2)) fun y5 =>
  vv (w32 (x8 + 1)) fun y6 =>
  some (0, (y5, y1, y6, m3))
def ebX11_findWay_238 (g : Shp) (x5 x7 x8 : Int) (m : Mem) : Option (Int × (Int × Int × Int × Mem)) :=
  if (m 241 35) ≤ x8 then
    some (1, (x5, x7, x8, m))
  else
    bd2 (eX11_costAt g x7 x5 m) fun v2 m3 =>
    bd2 (eX11_firstStone g x7 x5 v2 m3) fun v5 m6 =>
    vv (jdiv v5 4) fun y8 =>
    ck ((0 : Int) ≤ x8 ∧ x8 < 18) <|
    vm (ms m6 263 x8 y8) fun m11 =>
    ck ((0 : Int) ≤ x8 ∧ x8 < 18) <|
    vm (ms m11 264 x8 (jrem v5 4)) fun m14 =>
    bd2 (eX11_isCutAslant g x7 y8 (jrem v5 4) m14) fun v16 m17 =>
    ck ((0 : Int) ≤ x8 ∧ x8 < 18) <|
    vm (ms m17 265 x8 v16) fun m20 =>
    ck ((0 : Int) ≤ x7 ∧ x7 < 61) <|
    if (m20 261 x7) ≤ y8 then
      ebX11_findWay_336 g x5 x8 v5 x7 y8 0 m20
    else
      ck ((0 : Int) ≤ 0 ∧ 0 < (433 : Int)) <|
      ebX11_findWay_336 g x5 x8 v5 x7 y8 (m20 242 0) m20
def eBX11_findWay_238 (g : Shp) (q : (Int × Int × Int × Mem)) : Option (Int × (Int × Int × Int × Mem)) := ebX11_findWay_238 g q.1 q.2.1 q.2.2.1 q.2.2.2
def ebX11_findWay_358 (g : Shp) (m : Mem) : Option (Int × Mem) :=
  some (1, m)
def ebX11_findWay_161 (g : Shp) (x3 x4 : Int) (m : Mem) : Option (Int × Mem) :=
  ck ((0 : Int) ≤ x4 ∧ x4 < 433) <|
  ck ((0 : Int) ≤ (w32 (x4 + 1)) ∧ (w32 (x4 + 1)) < 433) <|
  ck ((0 : Int) ≤ (w32 (x4 + 2)) ∧ (w32 (x4 + 2)) < 433) <|
  vv (w32 ((w32 ((w32 (49 * (m 242 x4))) + (w32 (7 * (m 242 (w32 (x4 + 1))))))) + (m 242 (w32 (x4 + 2))))) fun y7 =>
  bd2 (eX11_costAt g x3 y7 m) fun v8 m9 =>
  if v8 = 1000000 then
    some (0, m9)
  else
    vm (ms m9 241 36 (jdiv v8 32)) fun m12 =>
    vm (ms m12 241 35 (jrem v8 32)) fun m13 =>
    bdl (iter (eBX11_findWay_238 g) 100000 (y7, x3, 0, m13)) fun cv14 sv15 =>
    ebX11_findWay_358 g sv15.2.2.2
def ebX11_findWay_0 (g : Shp) (x1 x2 : Int) (m : Mem) : Option (Int × Mem) :=
  bd2 (eX11_findPieces g x1 m) fun v1 m2 =>
  bd2 (eX11_layRest g m2) fun v4 m5 =>
  vv (w32 (1 + (w32 (3 * x2)))) fun y7 =>
  bdl (iter (eBX11_findWay_20 g v4 y7) 100000 (0, m5)) fun cv8 sv9 =>
  ebX11_findWay_161 g v4 y7 sv9.2
def eX11_findWay (g : Shp) (x1 x2 : Int) (m : Mem) : Option (Int × Mem) := ebX11_findWay_0 g x1 x2 m
set_option maxRecDepth 20000 in
theorem qX11_findPieces_98 {g : Shp} {m : Mem} {x1 x2 x3 x5 z0 : Int} (h : Sh g m)  : bX11_findPieces_98 g 241 x1 x2 x3 x5 z0 m = ebX11_findPieces_98 g x1 x2 x3 x5 z0 m := by
  unfold bX11_findPieces_98 ebX11_findPieces_98
  refine vv_c (fun y1 ey1 => ?_)
  rfl
theorem nX11_findPieces_98 {g : Shp} {m : Mem} {x1 x2 x3 x5 z0 : Int} (h : Sh g m)  {c1 : Int} {s1 : (Int × Int × Mem)} (hF : ebX11_findPieces_98 g x1 x2 x3 x5 z0 m = some (c1, s1)) : Sh g s1.2.2 := by
  unfold ebX11_findPieces_98 at hF
  obtain ⟨y1, ey1, hF⟩ := vv_ok hF
  cases hF
  exact h
set_option maxRecDepth 20000 in
theorem qX11_findPieces_85 {g : Shp} {m : Mem} {x1 x2 x3 x4 x5 x6 : Int} (h : Sh g m)  : bX11_findPieces_85 g 241 x1 x2 x3 x4 x5 x6 m = ebX11_findPieces_85 g x1 x2 x3 x4 x5 x6 m := by
  unfold bX11_findPieces_85 ebX11_findPieces_85
  refine if_c (fun hc1 => ?_) (fun hc1 => ?_)
  · exact qX11_findPieces_98 h
  · exact qX11_findPieces_98 h
theorem nX11_findPieces_85 {g : Shp} {m : Mem} {x1 x2 x3 x4 x5 x6 : Int} (h : Sh g m)  {c1 : Int} {s1 : (Int × Int × Mem)} (hF : ebX11_findPieces_85 g x1 x2 x3 x4 x5 x6 m = some (c1, s1)) : Sh g s1.2.2 := by
  unfold ebX11_findPieces_85 at hF
  rcases if_ok hF with ⟨hc1, hF⟩ | ⟨hc1, hF⟩
  · exact nX11_findPieces_98 h  hF
  · exact nX11_findPieces_98 h  hF
set_option maxRecDepth 20000 in
theorem qX11_findPieces_71 {g : Shp} {m : Mem} {x1 x2 x3 x4 x5 z0 : Int} (h : Sh g m)  : bX11_findPieces_71 g 241 x1 x2 x3 x4 x5 z0 m = ebX11_findPieces_71 g x1 x2 x3 x4 x5 z0 m := by
  unfold bX11_findPieces_71 ebX11_findPieces_71
  refine if_c (fun hc1 => ?_) (fun hc1 => ?_)
  · refine bd2_q (qX11_endPiece h ) (fun v2 m3 h4 => ?_)
    have hm3 := nX11_endPiece h  ((qX11_endPiece h ).symm.trans h4)
    exact qX11_findPieces_85 hm3 
  · exact qX11_findPieces_85 h
theorem nX11_findPieces_71 {g : Shp} {m : Mem} {x1 x2 x3 x4 x5 z0 : Int} (h : Sh g m)  {c1 : Int} {s1 : (Int × Int × Mem)} (hF : ebX11_findPieces_71 g x1 x2 x3 x4 x5 z0 m = some (c1, s1)) : Sh g s1.2.2 := by
  unfold ebX11_findPieces_71 at hF
  rcases if_ok hF with ⟨hc1, hF⟩ | ⟨hc1, hF⟩
  · obtain ⟨v2, m3, h4, hF⟩ := bd2_ok hF
    have hm3 := nX11_endPiece h  h4
    exact nX11_findPieces_85 hm3  hF
  · exact nX11_findPieces_85 h  hF
set_option maxRecDepth 20000 in
theorem qX11_findPieces_36 {g : Shp} {m : Mem} {x1 x2 x3 x4 x5 : Int} (h : Sh g m)  : bX11_findPieces_36 g 241 x1 x2 x3 x4 x5 m = ebX11_findPieces_36 g x1 x2 x3 x4 x5 m := by
  unfold bX11_findPieces_36 ebX11_findPieces_36
  refine if_c (fun hc1 => ?_) (fun hc1 => ?_)
  · rfl
  · have k2 := s_241_0 h
    rewrite [k2.1, ck_t k2.2.1]
    have k3 := s_241_24 h
    rewrite [k3.1, ck_t k3.2.1]
    try rewrite [k3.2.2]
    refine ck_c (fun i4 => ?_)
    try rewrite [k2.2.2]
    refine ck_c (fun i5 => ?_)
    refine if_c (fun hc6 => ?_) (fun hc6 => ?_)
    · exact qX11_findPieces_71 h
    · exact qX11_findPieces_71 h
theorem nX11_findPieces_36 {g : Shp} {m : Mem} {x1 x2 x3 x4 x5 : Int} (h : Sh g m)  {c1 : Int} {s1 : (Int × Int × Mem)} (hF : ebX11_findPieces_36 g x1 x2 x3 x4 x5 m = some (c1, s1)) : Sh g s1.2.2 := by
  unfold ebX11_findPieces_36 at hF
  rcases if_ok hF with ⟨hc1, hF⟩ | ⟨hc1, hF⟩
  · cases hF
    exact h
  · have k2 := s_241_0 h
    have k3 := s_241_24 h
    obtain ⟨i4, hF⟩ := ck_ok hF
    obtain ⟨i5, hF⟩ := ck_ok hF
    rcases if_ok hF with ⟨hc6, hF⟩ | ⟨hc6, hF⟩
    · exact nX11_findPieces_71 h  hF
    · exact nX11_findPieces_71 h  hF
theorem nlX11_findPieces_36 {g : Shp} {x1 x3 x5 : Int}  {n : Nat} {s0 s1 : (Int × Int × Mem)} {c1 : Int} (h : Sh g s0.2.2) (hI : iter (eBX11_findPieces_36 g x1 x3 x5) n s0 = some (c1, s1)) : Sh g s1.2.2 :=
  iter_inv (B := eBX11_findPieces_36 g x1 x3 x5) (fun q => Sh g q.2.2) (fun s c s' hs hB => nX11_findPieces_36 hs  hB) n s0 c1 s1 h hI
theorem qlX11_findPieces_36 {g : Shp} {x1 x3 x5 : Int}  {n : Nat} {s0 : (Int × Int × Mem)} (h : Sh g s0.2.2) : iter (BX11_findPieces_36 g 241 x1 x3 x5) n s0 = iter (eBX11_findPieces_36 g x1 x3 x5) n s0 :=
  iter_eq (B := BX11_findPieces_36 g 241 x1 x3 x5) (E := eBX11_findPieces_36 g x1 x3 x5) (fun q => Sh g q.2.2) (fun s hs => qX11_findPieces_36 hs ) (fun s c s' hs hB => nX11_findPieces_36 hs  ((qX11_findPieces_36 hs ).symm.trans hB)) n s0 h
set_option maxRecDepth 20000 in
theorem qX11_findPieces_126 {g : Shp} {m : Mem} {x1 x2 x3 z1 z2 : Int} (h : Sh g m)  : bX11_findPieces_126 g 241 x1 x2 x3 241 z1 z2 m = ebX11_findPieces_126 g x1 x2 x3 z1 z2 m := by
  unfold bX11_findPieces_126 ebX11_findPieces_126
  refine bd2_q (qX11_endPiece h ) (fun v1 m2 h3 => ?_)
  have hm2 := nX11_endPiece h  ((qX11_endPiece h ).symm.trans h3)
  refine vv_c (fun y4 ey4 => ?_)
  rfl
theorem nX11_findPieces_126 {g : Shp} {m : Mem} {x1 x2 x3 z1 z2 : Int} (h : Sh g m)  {c1 : Int} {s1 : (Int × Int × Mem)} (hF : ebX11_findPieces_126 g x1 x2 x3 z1 z2 m = some (c1, s1)) : Sh g s1.2.2 := by
  unfold ebX11_findPieces_126 at hF
  obtain ⟨v1, m2, h3, hF⟩ := bd2_ok hF
  have hm2 := nX11_endPiece h  h3
  obtain ⟨y4, ey4, hF⟩ := vv_ok hF
  cases hF
  exact hm2
set_option maxRecDepth 20000 in
theorem qX11_findPieces_106 {g : Shp} {m : Mem} {x1 x2 x3 x4 : Int} (h : Sh g m)  : bX11_findPieces_106 g 241 x1 x2 x3 x4 m = ebX11_findPieces_106 g x1 x2 x3 x4 m := by
  unfold bX11_findPieces_106 ebX11_findPieces_106
  have k1 := s_241_21 h
  rewrite [k1.1, ck_t k1.2.1]
  try rewrite [k1.2.2]
  refine ck_c (fun i2 => ?_)
  refine if_c (fun hc3 => ?_) (fun hc3 => ?_)
  · exact qX11_findPieces_126 h
  · exact qX11_findPieces_126 h
theorem nX11_findPieces_106 {g : Shp} {m : Mem} {x1 x2 x3 x4 : Int} (h : Sh g m)  {c1 : Int} {s1 : (Int × Int × Mem)} (hF : ebX11_findPieces_106 g x1 x2 x3 x4 m = some (c1, s1)) : Sh g s1.2.2 := by
  unfold ebX11_findPieces_106 at hF
  have k1 := s_241_21 h
  obtain ⟨i2, hF⟩ := ck_ok hF
  rcases if_ok hF with ⟨hc3, hF⟩ | ⟨hc3, hF⟩
  · exact nX11_findPieces_126 h  hF
  · exact nX11_findPieces_126 h  hF
set_option maxRecDepth 20000 in
theorem qX11_findPieces_9 {g : Shp} {m : Mem} {x1 x2 x3 : Int} (h : Sh g m)  : bX11_findPieces_9 g 241 x1 x2 x3 m = ebX11_findPieces_9 g x1 x2 x3 m := by
  unfold bX11_findPieces_9 ebX11_findPieces_9
  have k1 := s_241_21 h
  rewrite [k1.1, ck_t k1.2.1]
  try rewrite [k1.2.2]
  refine ck_c (fun i2 => ?_)
  refine if_c (fun hc3 => ?_) (fun hc3 => ?_)
  · rfl
  · have k4 := s_241_22 h
    rewrite [k4.1, ck_t k4.2.1]
    try rewrite [k4.2.2]
    refine ck_c (fun i5 => ?_)
    refine vv_c (fun y6 ey6 => ?_)
    refine bdl_q (qlX11_findPieces_36  (n := 100000) (s0 := (x2, 0, m)) h) (fun cv7 sv8 hi9 => ?_)
    have h10 := nlX11_findPieces_36  (s0 := (x2, 0, m)) h ((qlX11_findPieces_36  (n := 100000) (s0 := (x2, 0, m)) h).symm.trans hi9)
    exact qX11_findPieces_106 h10 
theorem nX11_findPieces_9 {g : Shp} {m : Mem} {x1 x2 x3 : Int} (h : Sh g m)  {c1 : Int} {s1 : (Int × Int × Mem)} (hF : ebX11_findPieces_9 g x1 x2 x3 m = some (c1, s1)) : Sh g s1.2.2 := by
  unfold ebX11_findPieces_9 at hF
  have k1 := s_241_21 h
  obtain ⟨i2, hF⟩ := ck_ok hF
  rcases if_ok hF with ⟨hc3, hF⟩ | ⟨hc3, hF⟩
  · cases hF
    exact h
  · have k4 := s_241_22 h
    obtain ⟨i5, hF⟩ := ck_ok hF
    obtain ⟨y6, ey6, hF⟩ := vv_ok hF
    obtain ⟨cv7, sv8, hi9, hF⟩ := bdl_ok hF
    have h10 := nlX11_findPieces_36  (s0 := (x2, 0, m)) h hi9
    exact nX11_findPieces_106 h10  hF
theorem nlX11_findPieces_9 {g : Shp} {x1 : Int}  {n : Nat} {s0 s1 : (Int × Int × Mem)} {c1 : Int} (h : Sh g s0.2.2) (hI : iter (eBX11_findPieces_9 g x1) n s0 = some (c1, s1)) : Sh g s1.2.2 :=
  iter_inv (B := eBX11_findPieces_9 g x1) (fun q => Sh g q.2.2) (fun s c s' hs hB => nX11_findPieces_9 hs  hB) n s0 c1 s1 h hI
theorem qlX11_findPieces_9 {g : Shp} {x1 : Int}  {n : Nat} {s0 : (Int × Int × Mem)} (h : Sh g s0.2.2) : iter (BX11_findPieces_9 g 241 x1) n s0 = iter (eBX11_findPieces_9 g x1) n s0 :=
  iter_eq (B := BX11_findPieces_9 g 241 x1) (E := eBX11_findPieces_9 g x1) (fun q => Sh g q.2.2) (fun s hs => qX11_findPieces_9 hs ) (fun s c s' hs hB => nX11_findPieces_9 hs  ((qX11_findPieces_9 hs ).symm.trans hB)) n s0 h
set_option maxRecDepth 20000 in
theorem qX11_findPieces_135 {g : Shp} {m : Mem} (h : Sh g m)  : bX11_findPieces_135 g m = ebX11_findPieces_135 g m := by
  unfold bX11_findPieces_135 ebX11_findPieces_135
  rfl
theorem nX11_findPieces_135 {g : Shp} {m : Mem} (h : Sh g m)  {r : Int} {m' : Mem} (hF : ebX11_findPieces_135 g m = some (r, m')) : Sh g m' := by
  unfold ebX11_findPieces_135 at hF
  cases hF
  exact h
set_option maxRecDepth 20000 in
theorem qX11_findPieces_0 {g : Shp} {m : Mem} {x1 : Int} (h : Sh g m)  : bX11_findPieces_0 g 241 x1 m = ebX11_findPieces_0 g x1 m := by
  unfold bX11_findPieces_0 ebX11_findPieces_0
  refine vm_c (fun m1 em1 => ?_)
  have hm1 := h.s em1 (nRf (sk_241 h) (by decide) (by decide))
  refine bdl_q (qlX11_findPieces_9  (n := 100000) (s0 := (0, 0, m1)) hm1) (fun cv2 sv3 hi4 => ?_)
  have h5 := nlX11_findPieces_9  (s0 := (0, 0, m1)) hm1 ((qlX11_findPieces_9  (n := 100000) (s0 := (0, 0, m1)) hm1).symm.trans hi4)
  exact qX11_findPieces_135 h5 
theorem nX11_findPieces_0 {g : Shp} {m : Mem} {x1 : Int} (h : Sh g m)  {r : Int} {m' : Mem} (hF : ebX11_findPieces_0 g x1 m = some (r, m')) : Sh g m' := by
  unfold ebX11_findPieces_0 at hF
  obtain ⟨m1, em1, hF⟩ := vm_ok hF
  have hm1 := h.s em1 (nRf (sk_241 h) (by decide) (by decide))
  obtain ⟨cv2, sv3, hi4, hF⟩ := bdl_ok hF
  have h5 := nlX11_findPieces_9  (s0 := (0, 0, m1)) hm1 hi4
  exact nX11_findPieces_135 h5  hF
theorem qX11_findPieces {g : Shp} {m : Mem} {x1 : Int} (h : Sh g m)  : fX11_findPieces g 241 x1 m = eX11_findPieces g x1 m := qX11_findPieces_0 h 
theorem nX11_findPieces {g : Shp} {m : Mem} {x1 : Int} (h : Sh g m)  {r : Int} {m' : Mem} (hF : eX11_findPieces g x1 m = some (r, m')) : Sh g m' := nX11_findPieces_0 h  hF
set_option maxRecDepth 20000 in
theorem qX11_piece_13 {g : Shp} {m : Mem} (h : Sh g m)  : bX11_piece_13 g m = ebX11_piece_13 g m := by
  unfold bX11_piece_13 ebX11_piece_13
  rfl
theorem nX11_piece_13 {g : Shp} {m : Mem} (h : Sh g m)  {r : Int} {m' : Mem} (hF : ebX11_piece_13 g m = some (r, m')) : Sh g m' := by
  unfold ebX11_piece_13 at hF
  cases hF
  exact h
set_option maxRecDepth 20000 in
theorem qX11_piece_62 {g : Shp} {m : Mem} {z0 : Int} (h : Sh g m)  : bX11_piece_62 g z0 m = ebX11_piece_62 g z0 m := by
  unfold bX11_piece_62 ebX11_piece_62
  rfl
theorem nX11_piece_62 {g : Shp} {m : Mem} {z0 : Int} (h : Sh g m)  {r : Int} {m' : Mem} (hF : ebX11_piece_62 g z0 m = some (r, m')) : Sh g m' := by
  unfold ebX11_piece_62 at hF
  cases hF
  exact h
set_option maxRecDepth 20000 in
theorem qX11_piece_0 {g : Shp} {m : Mem} {x1 x2 : Int} (h : Sh g m)  : bX11_piece_0 g 241 x1 x2 m = ebX11_piece_0 g x1 x2 m := by
  unfold bX11_piece_0 ebX11_piece_0
  refine bd2_q (qX11_isLine h ) (fun v1 m2 h3 => ?_)
  have hm2 := nX11_isLine h  ((qX11_isLine h ).symm.trans h3)
  refine if_c (fun hc4 => ?_) (fun hc4 => ?_)
  · exact qX11_piece_13 hm2
  · refine if_c (fun hc5 => ?_) (fun hc5 => ?_)
    · refine bd2_q (qX11_isCovered hm2 ) (fun v6 m7 h8 => ?_)
      have hm7 := nX11_isCovered hm2  ((qX11_isCovered hm2 ).symm.trans h8)
      refine if_c (fun hc9 => ?_) (fun hc9 => ?_)
      · refine bd2_q (qX11_findPieces hm7 ) (fun v10 m11 h12 => ?_)
        have hm11 := nX11_findPieces hm7  ((qX11_findPieces hm7 ).symm.trans h12)
        refine if_c (fun hc13 => ?_) (fun hc13 => ?_)
        · exact qX11_piece_62 hm11
        · refine if_c (fun hc14 => ?_) (fun hc14 => ?_)
          · exact qX11_piece_62 hm11
          · have k15 := s_241_25 hm11
            rewrite [k15.1, ck_t k15.2.1]
            try rewrite [k15.2.2]
            refine ck_c (fun i16 => ?_)
            exact qX11_piece_62 hm11 
      · rfl
    · exact qX11_piece_13 hm2
theorem nX11_piece_0 {g : Shp} {m : Mem} {x1 x2 : Int} (h : Sh g m)  {r : Int} {m' : Mem} (hF : ebX11_piece_0 g x1 x2 m = some (r, m')) : Sh g m' := by
  unfold ebX11_piece_0 at hF
  obtain ⟨v1, m2, h3, hF⟩ := bd2_ok hF
  have hm2 := nX11_isLine h  h3
  rcases if_ok hF with ⟨hc4, hF⟩ | ⟨hc4, hF⟩
  · exact nX11_piece_13 hm2  hF
  · rcases if_ok hF with ⟨hc5, hF⟩ | ⟨hc5, hF⟩
    · obtain ⟨v6, m7, h8, hF⟩ := bd2_ok hF
      have hm7 := nX11_isCovered hm2  h8
      rcases if_ok hF with ⟨hc9, hF⟩ | ⟨hc9, hF⟩
      · obtain ⟨v10, m11, h12, hF⟩ := bd2_ok hF
        have hm11 := nX11_findPieces hm7  h12
        rcases if_ok hF with ⟨hc13, hF⟩ | ⟨hc13, hF⟩
        · exact nX11_piece_62 hm11  hF
        · rcases if_ok hF with ⟨hc14, hF⟩ | ⟨hc14, hF⟩
          · exact nX11_piece_62 hm11  hF
          · have k15 := s_241_25 hm11
            obtain ⟨i16, hF⟩ := ck_ok hF
            exact nX11_piece_62 hm11  hF
      · cases hF
        exact hm7
    · exact nX11_piece_13 hm2  hF
theorem qX11_piece {g : Shp} {m : Mem} {x1 x2 : Int} (h : Sh g m)  : fX11_piece g 241 x1 x2 m = eX11_piece g x1 x2 m := qX11_piece_0 h 
theorem nX11_piece {g : Shp} {m : Mem} {x1 x2 : Int} (h : Sh g m)  {r : Int} {m' : Mem} (hF : eX11_piece g x1 x2 m = some (r, m')) : Sh g m' := nX11_piece_0 h  hF
set_option maxRecDepth 20000 in
theorem qX11_costAt_31 {g : Shp} {m : Mem} {z0 : Int} (h : Sh g m)  : bX11_costAt_31 g z0 m = ebX11_costAt_31 g z0 m := by
  unfold bX11_costAt_31 ebX11_costAt_31
  rfl
theorem nX11_costAt_31 {g : Shp} {m : Mem} {z0 : Int} (h : Sh g m)  {r : Int} {m' : Mem} (hF : ebX11_costAt_31 g z0 m = some (r, m')) : Sh g m' := by
  unfold ebX11_costAt_31 at hF
  cases hF
  exact h
set_option maxRecDepth 20000 in
theorem qX11_costAt_0 {g : Shp} {m : Mem} {x1 x2 : Int} (h : Sh g m)  : bX11_costAt_0 g 241 x1 x2 m = ebX11_costAt_0 g x1 x2 m := by
  unfold bX11_costAt_0 ebX11_costAt_0
  refine vv_c (fun y1 ey1 => ?_)
  refine if_c (fun hc2 => ?_) (fun hc2 => ?_)
  · have k3 := s_241_28 h
    rewrite [k3.1, ck_t k3.2.1]
    try rewrite [k3.2.2]
    refine ck_c (fun i4 => ?_)
    exact qX11_costAt_31 h 
  · have k5 := s_241_29 h
    rewrite [k5.1, ck_t k5.2.1]
    try rewrite [k5.2.2]
    refine ck_c (fun i6 => ?_)
    exact qX11_costAt_31 h 
theorem nX11_costAt_0 {g : Shp} {m : Mem} {x1 x2 : Int} (h : Sh g m)  {r : Int} {m' : Mem} (hF : ebX11_costAt_0 g x1 x2 m = some (r, m')) : Sh g m' := by
  unfold ebX11_costAt_0 at hF
  obtain ⟨y1, ey1, hF⟩ := vv_ok hF
  rcases if_ok hF with ⟨hc2, hF⟩ | ⟨hc2, hF⟩
  · have k3 := s_241_28 h
    obtain ⟨i4, hF⟩ := ck_ok hF
    exact nX11_costAt_31 h  hF
  · have k5 := s_241_29 h
    obtain ⟨i6, hF⟩ := ck_ok hF
    exact nX11_costAt_31 h  hF
theorem qX11_costAt {g : Shp} {m : Mem} {x1 x2 : Int} (h : Sh g m)  : fX11_costAt g 241 x1 x2 m = eX11_costAt g x1 x2 m := qX11_costAt_0 h 
theorem nX11_costAt {g : Shp} {m : Mem} {x1 x2 : Int} (h : Sh g m)  {r : Int} {m' : Mem} (hF : eX11_costAt g x1 x2 m = some (r, m')) : Sh g m' := nX11_costAt_0 h  hF
set_option maxRecDepth 20000 in
theorem qX11_oneOf_20 {g : Shp} {m : Mem} {z0 : Int} (h : Sh g m)  : bX11_oneOf_20 g z0 m = ebX11_oneOf_20 g z0 m := by
  unfold bX11_oneOf_20 ebX11_oneOf_20
  rfl
theorem nX11_oneOf_20 {g : Shp} {m : Mem} {z0 : Int} (h : Sh g m)  {r : Int} {m' : Mem} (hF : ebX11_oneOf_20 g z0 m = some (r, m')) : Sh g m' := by
  unfold ebX11_oneOf_20 at hF
  cases hF
  exact h
set_option maxRecDepth 20000 in
theorem qX11_oneOf_0 {g : Shp} {m : Mem} {x0 : Int} (h : Sh g m)  : bX11_oneOf_0 g x0 m = ebX11_oneOf_0 g x0 m := by
  unfold bX11_oneOf_0 ebX11_oneOf_0
  refine if_c (fun hc1 => ?_) (fun hc1 => ?_)
  · exact qX11_oneOf_20 h
  · refine if_c (fun hc2 => ?_) (fun hc2 => ?_)
    · exact qX11_oneOf_20 h
    · exact qX11_oneOf_20 h
theorem nX11_oneOf_0 {g : Shp} {m : Mem} {x0 : Int} (h : Sh g m)  {r : Int} {m' : Mem} (hF : ebX11_oneOf_0 g x0 m = some (r, m')) : Sh g m' := by
  unfold ebX11_oneOf_0 at hF
  rcases if_ok hF with ⟨hc1, hF⟩ | ⟨hc1, hF⟩
  · exact nX11_oneOf_20 h  hF
  · rcases if_ok hF with ⟨hc2, hF⟩ | ⟨hc2, hF⟩
    · exact nX11_oneOf_20 h  hF
    · exact nX11_oneOf_20 h  hF
theorem qX11_oneOf {g : Shp} {m : Mem} {x0 : Int} (h : Sh g m)  : fX11_oneOf g x0 m = eX11_oneOf g x0 m := qX11_oneOf_0 h 
theorem nX11_oneOf {g : Shp} {m : Mem} {x0 : Int} (h : Sh g m)  {r : Int} {m' : Mem} (hF : eX11_oneOf g x0 m = some (r, m')) : Sh g m' := nX11_oneOf_0 h  hF
set_option maxRecDepth 20000 in
theorem qX11_isCutAslant_38 {g : Shp} {m : Mem} {z0 : Int} (h : Sh g m)  : bX11_isCutAslant_38 g z0 m = ebX11_isCutAslant_38 g z0 m := by
  unfold bX11_isCutAslant_38 ebX11_isCutAslant_38
  refine ck_c (fun b1 => ?_)
  rfl
theorem nX11_isCutAslant_38 {g : Shp} {m : Mem} {z0 : Int} (h : Sh g m)  {r : Int} {m' : Mem} (hF : ebX11_isCutAslant_38 g z0 m = some (r, m')) : Sh g m' := by
  unfold ebX11_isCutAslant_38 at hF
  obtain ⟨b1, hF⟩ := ck_ok hF
  cases hF
  exact h
set_option maxRecDepth 20000 in
theorem qX11_isCutAslant_33 {g : Shp} {m : Mem} (h : Sh g m)  : bX11_isCutAslant_33 g m = ebX11_isCutAslant_33 g m := by
  unfold bX11_isCutAslant_33 ebX11_isCutAslant_33
  exact qX11_isCutAslant_38 h 
theorem nX11_isCutAslant_33 {g : Shp} {m : Mem} (h : Sh g m)  {r : Int} {m' : Mem} (hF : ebX11_isCutAslant_33 g m = some (r, m')) : Sh g m' := by
  unfold ebX11_isCutAslant_33 at hF
  exact nX11_isCutAslant_38 h  hF
set_option maxRecDepth 20000 in
theorem qX11_isCutAslant_37 {g : Shp} {m : Mem} (h : Sh g m)  : bX11_isCutAslant_37 g m = ebX11_isCutAslant_37 g m := by
  unfold bX11_isCutAslant_37 ebX11_isCutAslant_37
  exact qX11_isCutAslant_38 h 
theorem nX11_isCutAslant_37 {g : Shp} {m : Mem} (h : Sh g m)  {r : Int} {m' : Mem} (hF : ebX11_isCutAslant_37 g m = some (r, m')) : Sh g m' := by
  unfold ebX11_isCutAslant_37 at hF
  exact nX11_isCutAslant_38 h  hF
set_option maxRecDepth 20000 in
theorem qX11_isCutAslant_0 {g : Shp} {m : Mem} {x1 x2 x3 : Int} (h : Sh g m)  : bX11_isCutAslant_0 g 241 x1 x2 x3 m = ebX11_isCutAslant_0 g x1 x2 x3 m := by
  unfold bX11_isCutAslant_0 ebX11_isCutAslant_0
  have k1 := s_241_30 h
  rewrite [k1.1, ck_t k1.2.1]
  try rewrite [k1.2.2]
  refine ck_c (fun i2 => ?_)
  refine if_c (fun hc3 => ?_) (fun hc3 => ?_)
  · have k4 := s_241_31 h
    rewrite [k4.1, ck_t k4.2.1]
    try rewrite [k4.2.2]
    refine ck_c (fun i5 => ?_)
    refine if_c (fun hc6 => ?_) (fun hc6 => ?_)
    · exact qX11_isCutAslant_37 h
    · refine if_c (fun hc7 => ?_) (fun hc7 => ?_)
      · have k8 := s_241_19 h
        rewrite [k8.1, ck_t k8.2.1]
        try rewrite [k8.2.2]
        refine ck_c (fun i9 => ?_)
        refine if_c (fun hc10 => ?_) (fun hc10 => ?_)
        · exact qX11_isCutAslant_37 h
        · exact qX11_isCutAslant_33 h
      · exact qX11_isCutAslant_33 h
  · exact qX11_isCutAslant_37 h
theorem nX11_isCutAslant_0 {g : Shp} {m : Mem} {x1 x2 x3 : Int} (h : Sh g m)  {r : Int} {m' : Mem} (hF : ebX11_isCutAslant_0 g x1 x2 x3 m = some (r, m')) : Sh g m' := by
  unfold ebX11_isCutAslant_0 at hF
  have k1 := s_241_30 h
  obtain ⟨i2, hF⟩ := ck_ok hF
  rcases if_ok hF with ⟨hc3, hF⟩ | ⟨hc3, hF⟩
  · have k4 := s_241_31 h
    obtain ⟨i5, hF⟩ := ck_ok hF
    rcases if_ok hF with ⟨hc6, hF⟩ | ⟨hc6, hF⟩
    · exact nX11_isCutAslant_37 h  hF
    · rcases if_ok hF with ⟨hc7, hF⟩ | ⟨hc7, hF⟩
      · have k8 := s_241_19 h
        obtain ⟨i9, hF⟩ := ck_ok hF
        rcases if_ok hF with ⟨hc10, hF⟩ | ⟨hc10, hF⟩
        · exact nX11_isCutAslant_37 h  hF
        · exact nX11_isCutAslant_33 h  hF
      · exact nX11_isCutAslant_33 h  hF
  · exact nX11_isCutAslant_37 h  hF
theorem qX11_isCutAslant {g : Shp} {m : Mem} {x1 x2 x3 : Int} (h : Sh g m)  : fX11_isCutAslant g 241 x1 x2 x3 m = eX11_isCutAslant g x1 x2 x3 m := qX11_isCutAslant_0 h 
theorem nX11_isCutAslant {g : Shp} {m : Mem} {x1 x2 x3 : Int} (h : Sh g m)  {r : Int} {m' : Mem} (hF : eX11_isCutAslant g x1 x2 x3 m = some (r, m')) : Sh g m' := nX11_isCutAslant_0 h  hF
set_option maxRecDepth 20000 in
theorem qX11_costBy_55 {g : Shp} {m : Mem} (h : Sh g m)  : bX11_costBy_55 g m = ebX11_costBy_55 g m := by
  unfold bX11_costBy_55 ebX11_costBy_55
  rfl
theorem nX11_costBy_55 {g : Shp} {m : Mem} (h : Sh g m)  {r : Int} {m' : Mem} (hF : ebX11_costBy_55 g m = some (r, m')) : Sh g m' := by
  unfold ebX11_costBy_55 at hF
  cases hF
  exact h
set_option maxRecDepth 20000 in
theorem qX11_costBy_147 {g : Shp} {m : Mem} {z0 : Int} (h : Sh g m)  : bX11_costBy_147 g z0 m = ebX11_costBy_147 g z0 m := by
  unfold bX11_costBy_147 ebX11_costBy_147
  rfl
theorem nX11_costBy_147 {g : Shp} {m : Mem} {z0 : Int} (h : Sh g m)  {r : Int} {m' : Mem} (hF : ebX11_costBy_147 g z0 m = some (r, m')) : Sh g m' := by
  unfold ebX11_costBy_147 at hF
  cases hF
  exact h
set_option maxRecDepth 20000 in
theorem qX11_costBy_122 {g : Shp} {m : Mem} {x6 z0 z1 : Int} (h : Sh g m)  : bX11_costBy_122 g x6 z0 z1 m = ebX11_costBy_122 g x6 z0 z1 m := by
  unfold bX11_costBy_122 ebX11_costBy_122
  refine vv_c (fun y1 ey1 => ?_)
  refine if_c (fun hc2 => ?_) (fun hc2 => ?_)
  · exact qX11_costBy_147 h
  · exact qX11_costBy_147 h
theorem nX11_costBy_122 {g : Shp} {m : Mem} {x6 z0 z1 : Int} (h : Sh g m)  {r : Int} {m' : Mem} (hF : ebX11_costBy_122 g x6 z0 z1 m = some (r, m')) : Sh g m' := by
  unfold ebX11_costBy_122 at hF
  obtain ⟨y1, ey1, hF⟩ := vv_ok hF
  rcases if_ok hF with ⟨hc2, hF⟩ | ⟨hc2, hF⟩
  · exact nX11_costBy_147 h  hF
  · exact nX11_costBy_147 h  hF
set_option maxRecDepth 20000 in
theorem qX11_costBy_106 {g : Shp} {m : Mem} {x1 x3 x4 x6 z0 : Int} (h : Sh g m)  : bX11_costBy_106 g 241 x1 x3 x4 x6 z0 m = ebX11_costBy_106 g x1 x3 x4 x6 z0 m := by
  unfold bX11_costBy_106 ebX11_costBy_106
  refine bd2_q (qX11_isCutAslant h ) (fun v1 m2 h3 => ?_)
  have hm2 := nX11_isCutAslant h  ((qX11_isCutAslant h ).symm.trans h3)
  refine if_c (fun hc4 => ?_) (fun hc4 => ?_)
  · exact qX11_costBy_122 hm2
  · exact qX11_costBy_122 hm2
theorem nX11_costBy_106 {g : Shp} {m : Mem} {x1 x3 x4 x6 z0 : Int} (h : Sh g m)  {r : Int} {m' : Mem} (hF : ebX11_costBy_106 g x1 x3 x4 x6 z0 m = some (r, m')) : Sh g m' := by
  unfold ebX11_costBy_106 at hF
  obtain ⟨v1, m2, h3, hF⟩ := bd2_ok hF
  have hm2 := nX11_isCutAslant h  h3
  rcases if_ok hF with ⟨hc4, hF⟩ | ⟨hc4, hF⟩
  · exact nX11_costBy_122 hm2  hF
  · exact nX11_costBy_122 hm2  hF
set_option maxRecDepth 20000 in
theorem qX11_costBy_77 {g : Shp} {m : Mem} {x1 x2 x3 x4 z1 z2 : Int} (h : Sh g m)  : bX11_costBy_77 g 241 x1 x2 x3 x4 241 z1 z2 m = ebX11_costBy_77 g x1 x2 x3 x4 z1 z2 m := by
  unfold bX11_costBy_77 ebX11_costBy_77
  refine bd2_q (qX11_oneOf h ) (fun v1 m2 h3 => ?_)
  have hm2 := nX11_oneOf h  ((qX11_oneOf h ).symm.trans h3)
  refine bd2_q (qX11_costAt hm2 ) (fun v4 m5 h6 => ?_)
  have hm5 := nX11_costAt hm2  ((qX11_costAt hm2 ).symm.trans h6)
  have k7 := s_241_19 hm5
  rewrite [k7.1, ck_t k7.2.1]
  try rewrite [k7.2.2]
  refine ck_c (fun i8 => ?_)
  refine if_c (fun hc9 => ?_) (fun hc9 => ?_)
  · exact qX11_costBy_106 hm5
  · exact qX11_costBy_106 hm5
theorem nX11_costBy_77 {g : Shp} {m : Mem} {x1 x2 x3 x4 z1 z2 : Int} (h : Sh g m)  {r : Int} {m' : Mem} (hF : ebX11_costBy_77 g x1 x2 x3 x4 z1 z2 m = some (r, m')) : Sh g m' := by
  unfold ebX11_costBy_77 at hF
  obtain ⟨v1, m2, h3, hF⟩ := bd2_ok hF
  have hm2 := nX11_oneOf h  h3
  obtain ⟨v4, m5, h6, hF⟩ := bd2_ok hF
  have hm5 := nX11_costAt hm2  h6
  have k7 := s_241_19 hm5
  obtain ⟨i8, hF⟩ := ck_ok hF
  rcases if_ok hF with ⟨hc9, hF⟩ | ⟨hc9, hF⟩
  · exact nX11_costBy_106 hm5  hF
  · exact nX11_costBy_106 hm5  hF
set_option maxRecDepth 20000 in
theorem qX11_costBy_58 {g : Shp} {m : Mem} {x1 x2 x3 x4 x5 : Int} (h : Sh g m)  : bX11_costBy_58 g 241 x1 x2 x3 x4 x5 m = ebX11_costBy_58 g x1 x2 x3 x4 x5 m := by
  unfold bX11_costBy_58 ebX11_costBy_58
  refine if_c (fun hc1 => ?_) (fun hc1 => ?_)
  · exact qX11_costBy_77 h
  · have k2 := s_241_0 h
    rewrite [k2.1, ck_t k2.2.1]
    try rewrite [k2.2.2]
    refine ck_c (fun i3 => ?_)
    exact qX11_costBy_77 h 
theorem nX11_costBy_58 {g : Shp} {m : Mem} {x1 x2 x3 x4 x5 : Int} (h : Sh g m)  {r : Int} {m' : Mem} (hF : ebX11_costBy_58 g x1 x2 x3 x4 x5 m = some (r, m')) : Sh g m' := by
  unfold ebX11_costBy_58 at hF
  rcases if_ok hF with ⟨hc1, hF⟩ | ⟨hc1, hF⟩
  · exact nX11_costBy_77 h  hF
  · have k2 := s_241_0 h
    obtain ⟨i3, hF⟩ := ck_ok hF
    exact nX11_costBy_77 h  hF
set_option maxRecDepth 20000 in
theorem qX11_costBy_0 {g : Shp} {m : Mem} {x1 x2 x3 x4 : Int} (h : Sh g m)  : bX11_costBy_0 g 241 x1 x2 x3 x4 m = ebX11_costBy_0 g x1 x2 x3 x4 m := by
  unfold bX11_costBy_0 ebX11_costBy_0
  have k1 := s_241_30 h
  rewrite [k1.1, ck_t k1.2.1]
  try rewrite [k1.2.2]
  refine ck_c (fun i2 => ?_)
  refine vv_c (fun y3 ey3 => ?_)
  refine bd2_q (qX11_oneOf h ) (fun v4 m5 h6 => ?_)
  have hm5 := nX11_oneOf h  ((qX11_oneOf h ).symm.trans h6)
  refine ck_c (fun n7 => ?_)
  refine if_c (fun hc8 => ?_) (fun hc8 => ?_)
  · exact qX11_costBy_55 hm5
  · have k9 := s_241_19 hm5
    rewrite [k9.1, ck_t k9.2.1]
    try rewrite [k9.2.2]
    refine ck_c (fun i10 => ?_)
    refine if_c (fun hc11 => ?_) (fun hc11 => ?_)
    · exact qX11_costBy_55 hm5
    · refine if_c (fun hc12 => ?_) (fun hc12 => ?_)
      · exact qX11_costBy_55 hm5
      · refine if_c (fun hc13 => ?_) (fun hc13 => ?_)
        · exact qX11_costBy_58 hm5
        · have k14 := s_241_0 hm5
          rewrite [k14.1, ck_t k14.2.1]
          try rewrite [k14.2.2]
          refine ck_c (fun i15 => ?_)
          refine if_c (fun hc16 => ?_) (fun hc16 => ?_)
          · exact qX11_costBy_58 hm5
          · exact qX11_costBy_55 hm5
theorem nX11_costBy_0 {g : Shp} {m : Mem} {x1 x2 x3 x4 : Int} (h : Sh g m)  {r : Int} {m' : Mem} (hF : ebX11_costBy_0 g x1 x2 x3 x4 m = some (r, m')) : Sh g m' := by
  unfold ebX11_costBy_0 at hF
  have k1 := s_241_30 h
  obtain ⟨i2, hF⟩ := ck_ok hF
  obtain ⟨y3, ey3, hF⟩ := vv_ok hF
  obtain ⟨v4, m5, h6, hF⟩ := bd2_ok hF
  have hm5 := nX11_oneOf h  h6
  obtain ⟨n7, hF⟩ := ck_ok hF
  rcases if_ok hF with ⟨hc8, hF⟩ | ⟨hc8, hF⟩
  · exact nX11_costBy_55 hm5  hF
  · have k9 := s_241_19 hm5
    obtain ⟨i10, hF⟩ := ck_ok hF
    rcases if_ok hF with ⟨hc11, hF⟩ | ⟨hc11, hF⟩
    · exact nX11_costBy_55 hm5  hF
    · rcases if_ok hF with ⟨hc12, hF⟩ | ⟨hc12, hF⟩
      · exact nX11_costBy_55 hm5  hF
      · rcases if_ok hF with ⟨hc13, hF⟩ | ⟨hc13, hF⟩
        · exact nX11_costBy_58 hm5  hF
        · have k14 := s_241_0 hm5
          obtain ⟨i15, hF⟩ := ck_ok hF
          rcases if_ok hF with ⟨hc16, hF⟩ | ⟨hc16, hF⟩
          · exact nX11_costBy_58 hm5  hF
          · exact nX11_costBy_55 hm5  hF
theorem qX11_costBy {g : Shp} {m : Mem} {x1 x2 x3 x4 : Int} (h : Sh g m)  : fX11_costBy g 241 x1 x2 x3 x4 m = eX11_costBy g x1 x2 x3 x4 m := qX11_costBy_0 h 
theorem nX11_costBy {g : Shp} {m : Mem} {x1 x2 x3 x4 : Int} (h : Sh g m)  {r : Int} {m' : Mem} (hF : eX11_costBy g x1 x2 x3 x4 m = some (r, m')) : Sh g m' := nX11_costBy_0 h  hF
set_option maxRecDepth 20000 in
theorem qX11_leastAt_61 {g : Shp} {m : Mem} {x1 x2 x4 x5 z0 : Int} (h : Sh g m)  : bX11_leastAt_61 g 241 x1 x2 x4 x5 z0 m = ebX11_leastAt_61 g x1 x2 x4 x5 z0 m := by
  unfold bX11_leastAt_61 ebX11_leastAt_61
  refine vv_c (fun y1 ey1 => ?_)
  rfl
theorem nX11_leastAt_61 {g : Shp} {m : Mem} {x1 x2 x4 x5 z0 : Int} (h : Sh g m)  {c1 : Int} {s1 : (Int × Int × Mem)} (hF : ebX11_leastAt_61 g x1 x2 x4 x5 z0 m = some (c1, s1)) : Sh g s1.2.2 := by
  unfold ebX11_leastAt_61 at hF
  obtain ⟨y1, ey1, hF⟩ := vv_ok hF
  cases hF
  exact h
set_option maxRecDepth 20000 in
theorem qX11_leastAt_31 {g : Shp} {m : Mem} {x1 x2 x3 x4 x5 : Int} (h : Sh g m)  : bX11_leastAt_31 g 241 x1 x2 x3 x4 x5 m = ebX11_leastAt_31 g x1 x2 x3 x4 x5 m := by
  unfold bX11_leastAt_31 ebX11_leastAt_31
  refine if_c (fun hc1 => ?_) (fun hc1 => ?_)
  · rfl
  · refine bd2_q (qX11_costBy h ) (fun v2 m3 h4 => ?_)
    have hm3 := nX11_costBy h  ((qX11_costBy h ).symm.trans h4)
    refine if_c (fun hc5 => ?_) (fun hc5 => ?_)
    · exact qX11_leastAt_61 hm3
    · exact qX11_leastAt_61 hm3
theorem nX11_leastAt_31 {g : Shp} {m : Mem} {x1 x2 x3 x4 x5 : Int} (h : Sh g m)  {c1 : Int} {s1 : (Int × Int × Mem)} (hF : ebX11_leastAt_31 g x1 x2 x3 x4 x5 m = some (c1, s1)) : Sh g s1.2.2 := by
  unfold ebX11_leastAt_31 at hF
  rcases if_ok hF with ⟨hc1, hF⟩ | ⟨hc1, hF⟩
  · cases hF
    exact h
  · obtain ⟨v2, m3, h4, hF⟩ := bd2_ok hF
    have hm3 := nX11_costBy h  h4
    rcases if_ok hF with ⟨hc5, hF⟩ | ⟨hc5, hF⟩
    · exact nX11_leastAt_61 hm3  hF
    · exact nX11_leastAt_61 hm3  hF
theorem nlX11_leastAt_31 {g : Shp} {x1 x2 x4 : Int}  {n : Nat} {s0 s1 : (Int × Int × Mem)} {c1 : Int} (h : Sh g s0.2.2) (hI : iter (eBX11_leastAt_31 g x1 x2 x4) n s0 = some (c1, s1)) : Sh g s1.2.2 :=
  iter_inv (B := eBX11_leastAt_31 g x1 x2 x4) (fun q => Sh g q.2.2) (fun s c s' hs hB => nX11_leastAt_31 hs  hB) n s0 c1 s1 h hI
theorem qlX11_leastAt_31 {g : Shp} {x1 x2 x4 : Int}  {n : Nat} {s0 : (Int × Int × Mem)} (h : Sh g s0.2.2) : iter (BX11_leastAt_31 g 241 x1 x2 x4) n s0 = iter (eBX11_leastAt_31 g x1 x2 x4) n s0 :=
  iter_eq (B := BX11_leastAt_31 g 241 x1 x2 x4) (E := eBX11_leastAt_31 g x1 x2 x4) (fun q => Sh g q.2.2) (fun s hs => qX11_leastAt_31 hs ) (fun s c s' hs hB => nX11_leastAt_31 hs  ((qX11_leastAt_31 hs ).symm.trans hB)) n s0 h
set_option maxRecDepth 20000 in
theorem qX11_leastAt_68 {g : Shp} {m : Mem} {x1 x2 x3 x4 : Int} (h : Sh g m)  : bX11_leastAt_68 g 241 x1 x2 x3 x4 m = ebX11_leastAt_68 g x1 x2 x3 x4 m := by
  unfold bX11_leastAt_68 ebX11_leastAt_68
  refine vv_c (fun y1 ey1 => ?_)
  rfl
theorem nX11_leastAt_68 {g : Shp} {m : Mem} {x1 x2 x3 x4 : Int} (h : Sh g m)  {c1 : Int} {s1 : (Int × Int × Mem)} (hF : ebX11_leastAt_68 g x1 x2 x3 x4 m = some (c1, s1)) : Sh g s1.2.2 := by
  unfold ebX11_leastAt_68 at hF
  obtain ⟨y1, ey1, hF⟩ := vv_ok hF
  cases hF
  exact h
set_option maxRecDepth 20000 in
theorem qX11_leastAt_6 {g : Shp} {m : Mem} {x1 x2 x3 x4 : Int} (h : Sh g m)  : bX11_leastAt_6 g 241 x1 x2 x3 x4 m = ebX11_leastAt_6 g x1 x2 x3 x4 m := by
  unfold bX11_leastAt_6 ebX11_leastAt_6
  have k1 := s_241_19 h
  rewrite [k1.1, ck_t k1.2.1]
  try rewrite [k1.2.2]
  refine ck_c (fun i2 => ?_)
  refine if_c (fun hc3 => ?_) (fun hc3 => ?_)
  · rfl
  · have k4 := s_241_30 h
    rewrite [k4.1, ck_t k4.2.1]
    try rewrite [k4.2.2]
    refine ck_c (fun i5 => ?_)
    refine if_c (fun hc6 => ?_) (fun hc6 => ?_)
    · rfl
    · refine bdl_q (qlX11_leastAt_31  (n := 100000) (s0 := (x3, 0, m)) h) (fun cv7 sv8 hi9 => ?_)
      have h10 := nlX11_leastAt_31  (s0 := (x3, 0, m)) h ((qlX11_leastAt_31  (n := 100000) (s0 := (x3, 0, m)) h).symm.trans hi9)
      exact qX11_leastAt_68 h10 
theorem nX11_leastAt_6 {g : Shp} {m : Mem} {x1 x2 x3 x4 : Int} (h : Sh g m)  {c1 : Int} {s1 : (Int × Int × Mem)} (hF : ebX11_leastAt_6 g x1 x2 x3 x4 m = some (c1, s1)) : Sh g s1.2.2 := by
  unfold ebX11_leastAt_6 at hF
  have k1 := s_241_19 h
  obtain ⟨i2, hF⟩ := ck_ok hF
  rcases if_ok hF with ⟨hc3, hF⟩ | ⟨hc3, hF⟩
  · cases hF
    exact h
  · have k4 := s_241_30 h
    obtain ⟨i5, hF⟩ := ck_ok hF
    rcases if_ok hF with ⟨hc6, hF⟩ | ⟨hc6, hF⟩
    · cases hF
      exact h
    · obtain ⟨cv7, sv8, hi9, hF⟩ := bdl_ok hF
      have h10 := nlX11_leastAt_31  (s0 := (x3, 0, m)) h hi9
      exact nX11_leastAt_68 h10  hF
theorem nlX11_leastAt_6 {g : Shp} {x1 x2 : Int}  {n : Nat} {s0 s1 : (Int × Int × Mem)} {c1 : Int} (h : Sh g s0.2.2) (hI : iter (eBX11_leastAt_6 g x1 x2) n s0 = some (c1, s1)) : Sh g s1.2.2 :=
  iter_inv (B := eBX11_leastAt_6 g x1 x2) (fun q => Sh g q.2.2) (fun s c s' hs hB => nX11_leastAt_6 hs  hB) n s0 c1 s1 h hI
theorem qlX11_leastAt_6 {g : Shp} {x1 x2 : Int}  {n : Nat} {s0 : (Int × Int × Mem)} (h : Sh g s0.2.2) : iter (BX11_leastAt_6 g 241 x1 x2) n s0 = iter (eBX11_leastAt_6 g x1 x2) n s0 :=
  iter_eq (B := BX11_leastAt_6 g 241 x1 x2) (E := eBX11_leastAt_6 g x1 x2) (fun q => Sh g q.2.2) (fun s hs => qX11_leastAt_6 hs ) (fun s c s' hs hB => nX11_leastAt_6 hs  ((qX11_leastAt_6 hs ).symm.trans hB)) n s0 h
set_option maxRecDepth 20000 in
theorem qX11_leastAt_74 {g : Shp} {m : Mem} {x3 : Int} (h : Sh g m)  : bX11_leastAt_74 g x3 m = ebX11_leastAt_74 g x3 m := by
  unfold bX11_leastAt_74 ebX11_leastAt_74
  rfl
theorem nX11_leastAt_74 {g : Shp} {m : Mem} {x3 : Int} (h : Sh g m)  {r : Int} {m' : Mem} (hF : ebX11_leastAt_74 g x3 m = some (r, m')) : Sh g m' := by
  unfold ebX11_leastAt_74 at hF
  cases hF
  exact h
set_option maxRecDepth 20000 in
theorem qX11_leastAt_0 {g : Shp} {m : Mem} {x1 x2 : Int} (h : Sh g m)  : bX11_leastAt_0 g 241 x1 x2 m = ebX11_leastAt_0 g x1 x2 m := by
  unfold bX11_leastAt_0 ebX11_leastAt_0
  refine bdl_q (qlX11_leastAt_6  (n := 100000) (s0 := (1000000, 1, m)) h) (fun cv1 sv2 hi3 => ?_)
  have h4 := nlX11_leastAt_6  (s0 := (1000000, 1, m)) h ((qlX11_leastAt_6  (n := 100000) (s0 := (1000000, 1, m)) h).symm.trans hi3)
  exact qX11_leastAt_74 h4 
theorem nX11_leastAt_0 {g : Shp} {m : Mem} {x1 x2 : Int} (h : Sh g m)  {r : Int} {m' : Mem} (hF : ebX11_leastAt_0 g x1 x2 m = some (r, m')) : Sh g m' := by
  unfold ebX11_leastAt_0 at hF
  obtain ⟨cv1, sv2, hi3, hF⟩ := bdl_ok hF
  have h4 := nlX11_leastAt_6  (s0 := (1000000, 1, m)) h hi3
  exact nX11_leastAt_74 h4  hF
theorem qX11_leastAt {g : Shp} {m : Mem} {x1 x2 : Int} (h : Sh g m)  : fX11_leastAt g 241 x1 x2 m = eX11_leastAt g x1 x2 m := qX11_leastAt_0 h 
theorem nX11_leastAt {g : Shp} {m : Mem} {x1 x2 : Int} (h : Sh g m)  {r : Int} {m' : Mem} (hF : eX11_leastAt g x1 x2 m = some (r, m')) : Sh g m' := nX11_leastAt_0 h  hF
set_option maxRecDepth 20000 in
theorem qX11_firstStone_87 {g : Shp} {m : Mem} {x1 x2 x3 x4 x5 x6 : Int} (h : Sh g m)  : bX11_firstStone_87 g 241 x1 x2 x3 x4 x5 x6 m = ebX11_firstStone_87 g x1 x2 x3 x4 x5 x6 m := by
  unfold bX11_firstStone_87 ebX11_firstStone_87
  refine vv_c (fun y1 ey1 => ?_)
  rfl
theorem nX11_firstStone_87 {g : Shp} {m : Mem} {x1 x2 x3 x4 x5 x6 : Int} (h : Sh g m)  {c1 : Int} {s1 : (Int × Mem)} (hF : ebX11_firstStone_87 g x1 x2 x3 x4 x5 x6 m = some (c1, s1)) : Sh g s1.2 := by
  unfold ebX11_firstStone_87 at hF
  obtain ⟨y1, ey1, hF⟩ := vv_ok hF
  cases hF
  exact h
set_option maxRecDepth 20000 in
theorem qX11_firstStone_62 {g : Shp} {m : Mem} {x1 x2 x3 x4 x5 x6 z0 z1 : Int} (h : Sh g m)  : bX11_firstStone_62 g 241 x1 x2 x3 x4 x5 x6 z0 z1 m = ebX11_firstStone_62 g x1 x2 x3 x4 x5 x6 z0 z1 m := by
  unfold bX11_firstStone_62 ebX11_firstStone_62
  refine if_c (fun hc1 => ?_) (fun hc1 => ?_)
  · refine bd2_q (qX11_costBy h ) (fun v2 m3 h4 => ?_)
    have hm3 := nX11_costBy h  ((qX11_costBy h ).symm.trans h4)
    refine if_c (fun hc5 => ?_) (fun hc5 => ?_)
    · rfl
    · exact qX11_firstStone_87 hm3
  · exact qX11_firstStone_87 h
theorem nX11_firstStone_62 {g : Shp} {m : Mem} {x1 x2 x3 x4 x5 x6 z0 z1 : Int} (h : Sh g m)  {c1 : Int} {s1 : (Int × Mem)} (hF : ebX11_firstStone_62 g x1 x2 x3 x4 x5 x6 z0 z1 m = some (c1, s1)) : Sh g s1.2 := by
  unfold ebX11_firstStone_62 at hF
  rcases if_ok hF with ⟨hc1, hF⟩ | ⟨hc1, hF⟩
  · obtain ⟨v2, m3, h4, hF⟩ := bd2_ok hF
    have hm3 := nX11_costBy h  h4
    rcases if_ok hF with ⟨hc5, hF⟩ | ⟨hc5, hF⟩
    · cases hF
      exact hm3
    · exact nX11_firstStone_87 hm3  hF
  · exact nX11_firstStone_87 h  hF
set_option maxRecDepth 20000 in
theorem qX11_firstStone_48 {g : Shp} {m : Mem} {x1 x2 x3 x4 x5 x6 z0 : Int} (h : Sh g m)  : bX11_firstStone_48 g 241 x1 x2 x3 x4 x5 x6 z0 m = ebX11_firstStone_48 g x1 x2 x3 x4 x5 x6 z0 m := by
  unfold bX11_firstStone_48 ebX11_firstStone_48
  refine if_c (fun hc1 => ?_) (fun hc1 => ?_)
  · exact qX11_firstStone_62 h
  · exact qX11_firstStone_62 h
theorem nX11_firstStone_48 {g : Shp} {m : Mem} {x1 x2 x3 x4 x5 x6 z0 : Int} (h : Sh g m)  {c1 : Int} {s1 : (Int × Mem)} (hF : ebX11_firstStone_48 g x1 x2 x3 x4 x5 x6 z0 m = some (c1, s1)) : Sh g s1.2 := by
  unfold ebX11_firstStone_48 at hF
  rcases if_ok hF with ⟨hc1, hF⟩ | ⟨hc1, hF⟩
  · exact nX11_firstStone_62 h  hF
  · exact nX11_firstStone_62 h  hF
set_option maxRecDepth 20000 in
theorem qX11_firstStone_25 {g : Shp} {m : Mem} {x1 x2 x3 x4 x5 x6 : Int} (h : Sh g m)  : bX11_firstStone_25 g 241 x1 x2 x3 x4 x5 x6 m = ebX11_firstStone_25 g x1 x2 x3 x4 x5 x6 m := by
  unfold bX11_firstStone_25 ebX11_firstStone_25
  refine if_c (fun hc1 => ?_) (fun hc1 => ?_)
  · rfl
  · have k2 := s_241_19 h
    rewrite [k2.1, ck_t k2.2.1]
    try rewrite [k2.2.2]
    refine ck_c (fun i3 => ?_)
    refine if_c (fun hc4 => ?_) (fun hc4 => ?_)
    · exact qX11_firstStone_48 h
    · exact qX11_firstStone_48 h
theorem nX11_firstStone_25 {g : Shp} {m : Mem} {x1 x2 x3 x4 x5 x6 : Int} (h : Sh g m)  {c1 : Int} {s1 : (Int × Mem)} (hF : ebX11_firstStone_25 g x1 x2 x3 x4 x5 x6 m = some (c1, s1)) : Sh g s1.2 := by
  unfold ebX11_firstStone_25 at hF
  rcases if_ok hF with ⟨hc1, hF⟩ | ⟨hc1, hF⟩
  · cases hF
    exact h
  · have k2 := s_241_19 h
    obtain ⟨i3, hF⟩ := ck_ok hF
    rcases if_ok hF with ⟨hc4, hF⟩ | ⟨hc4, hF⟩
    · exact nX11_firstStone_48 h  hF
    · exact nX11_firstStone_48 h  hF
theorem nlX11_firstStone_25 {g : Shp} {x1 x2 x3 x4 x5 : Int}  {n : Nat} {s0 s1 : (Int × Mem)} {c1 : Int} (h : Sh g s0.2) (hI : iter (eBX11_firstStone_25 g x1 x2 x3 x4 x5) n s0 = some (c1, s1)) : Sh g s1.2 :=
  iter_inv (B := eBX11_firstStone_25 g x1 x2 x3 x4 x5) (fun q => Sh g q.2) (fun s c s' hs hB => nX11_firstStone_25 hs  hB) n s0 c1 s1 h hI
theorem qlX11_firstStone_25 {g : Shp} {x1 x2 x3 x4 x5 : Int}  {n : Nat} {s0 : (Int × Mem)} (h : Sh g s0.2) : iter (BX11_firstStone_25 g 241 x1 x2 x3 x4 x5) n s0 = iter (eBX11_firstStone_25 g x1 x2 x3 x4 x5) n s0 :=
  iter_eq (B := BX11_firstStone_25 g 241 x1 x2 x3 x4 x5) (E := eBX11_firstStone_25 g x1 x2 x3 x4 x5) (fun q => Sh g q.2) (fun s hs => qX11_firstStone_25 hs ) (fun s c s' hs hB => nX11_firstStone_25 hs  ((qX11_firstStone_25 hs ).symm.trans hB)) n s0 h
set_option maxRecDepth 20000 in
theorem qX11_firstStone_93 {g : Shp} {m : Mem} {x1 x2 x3 x4 x5 : Int} (h : Sh g m)  : bX11_firstStone_93 g 241 x1 x2 x3 x4 x5 m = ebX11_firstStone_93 g x1 x2 x3 x4 x5 m := by
  unfold bX11_firstStone_93 ebX11_firstStone_93
  refine vv_c (fun y1 ey1 => ?_)
  rfl
theorem nX11_firstStone_93 {g : Shp} {m : Mem} {x1 x2 x3 x4 x5 : Int} (h : Sh g m)  {c1 : Int} {s1 : (Int × Int × Mem)} (hF : ebX11_firstStone_93 g x1 x2 x3 x4 x5 m = some (c1, s1)) : Sh g s1.2.2 := by
  unfold ebX11_firstStone_93 at hF
  obtain ⟨y1, ey1, hF⟩ := vv_ok hF
  cases hF
  exact h
set_option maxRecDepth 20000 in
theorem qX11_firstStone_16 {g : Shp} {m : Mem} {x1 x2 x3 x4 x5 : Int} (h : Sh g m)  : bX11_firstStone_16 g 241 x1 x2 x3 x4 x5 m = ebX11_firstStone_16 g x1 x2 x3 x4 x5 m := by
  unfold bX11_firstStone_16 ebX11_firstStone_16
  refine if_c (fun hc1 => ?_) (fun hc1 => ?_)
  · rfl
  · refine bdl_q (qlX11_firstStone_25  (n := 100000) (s0 := (0, m)) h) (fun cv2 sv3 hi4 => ?_)
    have h5 := nlX11_firstStone_25  (s0 := (0, m)) h ((qlX11_firstStone_25  (n := 100000) (s0 := (0, m)) h).symm.trans hi4)
    refine if_c (fun hc6 => ?_) (fun hc6 => ?_)
    · rfl
    · exact qX11_firstStone_93 h5
theorem nX11_firstStone_16 {g : Shp} {m : Mem} {x1 x2 x3 x4 x5 : Int} (h : Sh g m)  {c1 : Int} {s1 : (Int × Int × Mem)} (hF : ebX11_firstStone_16 g x1 x2 x3 x4 x5 m = some (c1, s1)) : Sh g s1.2.2 := by
  unfold ebX11_firstStone_16 at hF
  rcases if_ok hF with ⟨hc1, hF⟩ | ⟨hc1, hF⟩
  · cases hF
    exact h
  · obtain ⟨cv2, sv3, hi4, hF⟩ := bdl_ok hF
    have h5 := nlX11_firstStone_25  (s0 := (0, m)) h hi4
    rcases if_ok hF with ⟨hc6, hF⟩ | ⟨hc6, hF⟩
    · cases hF
      exact h5
    · exact nX11_firstStone_93 h5  hF
theorem nlX11_firstStone_16 {g : Shp} {x1 x2 x3 x4 : Int}  {n : Nat} {s0 s1 : (Int × Int × Mem)} {c1 : Int} (h : Sh g s0.2.2) (hI : iter (eBX11_firstStone_16 g x1 x2 x3 x4) n s0 = some (c1, s1)) : Sh g s1.2.2 :=
  iter_inv (B := eBX11_firstStone_16 g x1 x2 x3 x4) (fun q => Sh g q.2.2) (fun s c s' hs hB => nX11_firstStone_16 hs  hB) n s0 c1 s1 h hI
theorem qlX11_firstStone_16 {g : Shp} {x1 x2 x3 x4 : Int}  {n : Nat} {s0 : (Int × Int × Mem)} (h : Sh g s0.2.2) : iter (BX11_firstStone_16 g 241 x1 x2 x3 x4) n s0 = iter (eBX11_firstStone_16 g x1 x2 x3 x4) n s0 :=
  iter_eq (B := BX11_firstStone_16 g 241 x1 x2 x3 x4) (E := eBX11_firstStone_16 g x1 x2 x3 x4) (fun q => Sh g q.2.2) (fun s hs => qX11_firstStone_16 hs ) (fun s c s' hs hB => nX11_firstStone_16 hs  ((qX11_firstStone_16 hs ).symm.trans hB)) n s0 h
set_option maxRecDepth 20000 in
theorem qX11_firstStone_99 {g : Shp} {m : Mem} {x1 x2 x3 x4 : Int} (h : Sh g m)  : bX11_firstStone_99 g 241 x1 x2 x3 x4 m = ebX11_firstStone_99 g x1 x2 x3 x4 m := by
  unfold bX11_firstStone_99 ebX11_firstStone_99
  refine vv_c (fun y1 ey1 => ?_)
  rfl
theorem nX11_firstStone_99 {g : Shp} {m : Mem} {x1 x2 x3 x4 : Int} (h : Sh g m)  {c1 : Int} {s1 : (Int × Int × Mem)} (hF : ebX11_firstStone_99 g x1 x2 x3 x4 m = some (c1, s1)) : Sh g s1.2.2 := by
  unfold ebX11_firstStone_99 at hF
  obtain ⟨y1, ey1, hF⟩ := vv_ok hF
  cases hF
  exact h
set_option maxRecDepth 20000 in
theorem qX11_firstStone_8 {g : Shp} {m : Mem} {x1 x2 x3 x4 : Int} (h : Sh g m)  : bX11_firstStone_8 g 241 x1 x2 x3 x4 m = ebX11_firstStone_8 g x1 x2 x3 x4 m := by
  unfold bX11_firstStone_8 ebX11_firstStone_8
  refine if_c (fun hc1 => ?_) (fun hc1 => ?_)
  · rfl
  · refine bdl_q (qlX11_firstStone_16  (n := 100000) (s0 := (0, 0, m)) h) (fun cv2 sv3 hi4 => ?_)
    have h5 := nlX11_firstStone_16  (s0 := (0, 0, m)) h ((qlX11_firstStone_16  (n := 100000) (s0 := (0, 0, m)) h).symm.trans hi4)
    refine if_c (fun hc6 => ?_) (fun hc6 => ?_)
    · rfl
    · exact qX11_firstStone_99 h5
theorem nX11_firstStone_8 {g : Shp} {m : Mem} {x1 x2 x3 x4 : Int} (h : Sh g m)  {c1 : Int} {s1 : (Int × Int × Mem)} (hF : ebX11_firstStone_8 g x1 x2 x3 x4 m = some (c1, s1)) : Sh g s1.2.2 := by
  unfold ebX11_firstStone_8 at hF
  rcases if_ok hF with ⟨hc1, hF⟩ | ⟨hc1, hF⟩
  · cases hF
    exact h
  · obtain ⟨cv2, sv3, hi4, hF⟩ := bdl_ok hF
    have h5 := nlX11_firstStone_16  (s0 := (0, 0, m)) h hi4
    rcases if_ok hF with ⟨hc6, hF⟩ | ⟨hc6, hF⟩
    · cases hF
      exact h5
    · exact nX11_firstStone_99 h5  hF
theorem nlX11_firstStone_8 {g : Shp} {x1 x2 x3 : Int}  {n : Nat} {s0 s1 : (Int × Int × Mem)} {c1 : Int} (h : Sh g s0.2.2) (hI : iter (eBX11_firstStone_8 g x1 x2 x3) n s0 = some (c1, s1)) : Sh g s1.2.2 :=
  iter_inv (B := eBX11_firstStone_8 g x1 x2 x3) (fun q => Sh g q.2.2) (fun s c s' hs hB => nX11_firstStone_8 hs  hB) n s0 c1 s1 h hI
theorem qlX11_firstStone_8 {g : Shp} {x1 x2 x3 : Int}  {n : Nat} {s0 : (Int × Int × Mem)} (h : Sh g s0.2.2) : iter (BX11_firstStone_8 g 241 x1 x2 x3) n s0 = iter (eBX11_firstStone_8 g x1 x2 x3) n s0 :=
  iter_eq (B := BX11_firstStone_8 g 241 x1 x2 x3) (E := eBX11_firstStone_8 g x1 x2 x3) (fun q => Sh g q.2.2) (fun s hs => qX11_firstStone_8 hs ) (fun s c s' hs hB => nX11_firstStone_8 hs  ((qX11_firstStone_8 hs ).symm.trans hB)) n s0 h
set_option maxRecDepth 20000 in
theorem qX11_firstStone_79 {g : Shp} {m : Mem} {x4 x6 : Int} (h : Sh g m)  : bX11_firstStone_79 g x4 x6 m = ebX11_firstStone_79 g x4 x6 m := by
  unfold bX11_firstStone_79 ebX11_firstStone_79
  rfl
theorem nX11_firstStone_79 {g : Shp} {m : Mem} {x4 x6 : Int} (h : Sh g m)  {r : Int} {m' : Mem} (hF : ebX11_firstStone_79 g x4 x6 m = some (r, m')) : Sh g m' := by
  unfold ebX11_firstStone_79 at hF
  cases hF
  exact h
set_option maxRecDepth 20000 in
theorem qX11_firstStone_105 {g : Shp} {m : Mem} (h : Sh g m)  : bX11_firstStone_105 g m = ebX11_firstStone_105 g m := by
  unfold bX11_firstStone_105 ebX11_firstStone_105
  rfl
theorem nX11_firstStone_105 {g : Shp} {m : Mem} (h : Sh g m)  {r : Int} {m' : Mem} (hF : ebX11_firstStone_105 g m = some (r, m')) : Sh g m' := by
  unfold ebX11_firstStone_105 at hF
  cases hF
  exact h
set_option maxRecDepth 20000 in
theorem qX11_firstStone_0 {g : Shp} {m : Mem} {x1 x2 x3 : Int} (h : Sh g m)  : bX11_firstStone_0 g 241 x1 x2 x3 m = ebX11_firstStone_0 g x1 x2 x3 m := by
  unfold bX11_firstStone_0 ebX11_firstStone_0
  have k1 := s_241_19 h
  rewrite [k1.1, ck_t k1.2.1]
  try rewrite [k1.2.2]
  refine ck_c (fun i2 => ?_)
  refine vv_c (fun y3 ey3 => ?_)
  refine bdl_q (qlX11_firstStone_8  (n := 100000) (s0 := (y3, 0, m)) h) (fun cv4 sv5 hi6 => ?_)
  have h7 := nlX11_firstStone_8  (s0 := (y3, 0, m)) h ((qlX11_firstStone_8  (n := 100000) (s0 := (y3, 0, m)) h).symm.trans hi6)
  refine if_c (fun hc8 => ?_) (fun hc8 => ?_)
  · exact qX11_firstStone_79 h7
  · exact qX11_firstStone_105 h7
theorem nX11_firstStone_0 {g : Shp} {m : Mem} {x1 x2 x3 : Int} (h : Sh g m)  {r : Int} {m' : Mem} (hF : ebX11_firstStone_0 g x1 x2 x3 m = some (r, m')) : Sh g m' := by
  unfold ebX11_firstStone_0 at hF
  have k1 := s_241_19 h
  obtain ⟨i2, hF⟩ := ck_ok hF
  obtain ⟨y3, ey3, hF⟩ := vv_ok hF
  obtain ⟨cv4, sv5, hi6, hF⟩ := bdl_ok hF
  have h7 := nlX11_firstStone_8  (s0 := (y3, 0, m)) h hi6
  rcases if_ok hF with ⟨hc8, hF⟩ | ⟨hc8, hF⟩
  · exact nX11_firstStone_79 h7  hF
  · exact nX11_firstStone_105 h7  hF
theorem qX11_firstStone {g : Shp} {m : Mem} {x1 x2 x3 : Int} (h : Sh g m)  : fX11_firstStone g 241 x1 x2 x3 m = eX11_firstStone g x1 x2 x3 m := qX11_firstStone_0 h 
theorem nX11_firstStone {g : Shp} {m : Mem} {x1 x2 x3 : Int} (h : Sh g m)  {r : Int} {m' : Mem} (hF : eX11_firstStone g x1 x2 x3 m = some (r, m')) : Sh g m' := nX11_firstStone_0 h  hF
set_option maxRecDepth 20000 in
theorem qX11_layRest_15 {g : Shp} {m : Mem} {x1 x2 x3 : Int} (h : Sh g m)  : bX11_layRest_15 g 241 x1 x2 x3 m = ebX11_layRest_15 g x1 x2 x3 m := by
  unfold bX11_layRest_15 ebX11_layRest_15
  have k1 := s_241_25 h
  rewrite [k1.1, ck_t k1.2.1]
  try rewrite [k1.2.2]
  refine ck_c (fun i2 => ?_)
  refine if_c (fun hc3 => ?_) (fun hc3 => ?_)
  · rfl
  · have k4 := s_241_30 h
    rewrite [k4.1, ck_t k4.2.1]
    try rewrite [k4.2.2]
    refine ck_c (fun i5 => ?_)
    refine vm_c (fun m6 em6 => ?_)
    have hm6 := h.s em6 (nRa k4.2.1 (by decide))
    have k7 := s_241_31 hm6
    rewrite [k7.1, ck_t k7.2.1]
    have k8 := s_241_26 hm6
    rewrite [k8.1, ck_t k8.2.1]
    try rewrite [k8.2.2]
    refine ck_c (fun i9 => ?_)
    try rewrite [k7.2.2]
    refine ck_c (fun i10 => ?_)
    refine ck_c (fun b11 => ?_)
    refine vm_c (fun m12 em12 => ?_)
    have hm12 := hm6.s em12 (nRa k7.2.1 (by decide))
    refine vv_c (fun y13 ey13 => ?_)
    rfl
theorem nX11_layRest_15 {g : Shp} {m : Mem} {x1 x2 x3 : Int} (h : Sh g m)  {c1 : Int} {s1 : (Int × Mem)} (hF : ebX11_layRest_15 g x1 x2 x3 m = some (c1, s1)) : Sh g s1.2 := by
  unfold ebX11_layRest_15 at hF
  have k1 := s_241_25 h
  obtain ⟨i2, hF⟩ := ck_ok hF
  rcases if_ok hF with ⟨hc3, hF⟩ | ⟨hc3, hF⟩
  · cases hF
    exact h
  · have k4 := s_241_30 h
    obtain ⟨i5, hF⟩ := ck_ok hF
    obtain ⟨m6, em6, hF⟩ := vm_ok hF
    have hm6 := h.s em6 (nRa k4.2.1 (by decide))
    have k7 := s_241_31 hm6
    have k8 := s_241_26 hm6
    obtain ⟨i9, hF⟩ := ck_ok hF
    obtain ⟨i10, hF⟩ := ck_ok hF
    obtain ⟨b11, hF⟩ := ck_ok hF
    obtain ⟨m12, em12, hF⟩ := vm_ok hF
    have hm12 := hm6.s em12 (nRa k7.2.1 (by decide))
    obtain ⟨y13, ey13, hF⟩ := vv_ok hF
    cases hF
    exact hm12
theorem nlX11_layRest_15 {g : Shp} {x1 x2 : Int}  {n : Nat} {s0 s1 : (Int × Mem)} {c1 : Int} (h : Sh g s0.2) (hI : iter (eBX11_layRest_15 g x1 x2) n s0 = some (c1, s1)) : Sh g s1.2 :=
  iter_inv (B := eBX11_layRest_15 g x1 x2) (fun q => Sh g q.2) (fun s c s' hs hB => nX11_layRest_15 hs  hB) n s0 c1 s1 h hI
theorem qlX11_layRest_15 {g : Shp} {x1 x2 : Int}  {n : Nat} {s0 : (Int × Mem)} (h : Sh g s0.2) : iter (BX11_layRest_15 g 241 x1 x2) n s0 = iter (eBX11_layRest_15 g x1 x2) n s0 :=
  iter_eq (B := BX11_layRest_15 g 241 x1 x2) (E := eBX11_layRest_15 g x1 x2) (fun q => Sh g q.2) (fun s hs => qX11_layRest_15 hs ) (fun s c s' hs hB => nX11_layRest_15 hs  ((qX11_layRest_15 hs ).symm.trans hB)) n s0 h
set_option maxRecDepth 20000 in
theorem qX11_layRest_54 {g : Shp} {m : Mem} {x1 x2 : Int} (h : Sh g m)  : bX11_layRest_54 g 241 x1 x2 m = ebX11_layRest_54 g x1 x2 m := by
  unfold bX11_layRest_54 ebX11_layRest_54
  have k1 := s_241_25 h
  rewrite [k1.1, ck_t k1.2.1]
  try rewrite [k1.2.2]
  refine ck_c (fun i2 => ?_)
  refine vv_c (fun y3 ey3 => ?_)
  refine vv_c (fun y4 ey4 => ?_)
  rfl
theorem nX11_layRest_54 {g : Shp} {m : Mem} {x1 x2 : Int} (h : Sh g m)  {c1 : Int} {s1 : (Int × Int × Mem)} (hF : ebX11_layRest_54 g x1 x2 m = some (c1, s1)) : Sh g s1.2.2 := by
  unfold ebX11_layRest_54 at hF
  have k1 := s_241_25 h
  obtain ⟨i2, hF⟩ := ck_ok hF
  obtain ⟨y3, ey3, hF⟩ := vv_ok hF
  obtain ⟨y4, ey4, hF⟩ := vv_ok hF
  cases hF
  exact h
set_option maxRecDepth 20000 in
theorem qX11_layRest_9 {g : Shp} {m : Mem} {x1 x2 : Int} (h : Sh g m)  : bX11_layRest_9 g 241 x1 x2 m = ebX11_layRest_9 g x1 x2 m := by
  unfold bX11_layRest_9 ebX11_layRest_9
  refine if_c (fun hc1 => ?_) (fun hc1 => ?_)
  · rfl
  · refine bdl_q (qlX11_layRest_15  (n := 100000) (s0 := (1, m)) h) (fun cv2 sv3 hi4 => ?_)
    have h5 := nlX11_layRest_15  (s0 := (1, m)) h ((qlX11_layRest_15  (n := 100000) (s0 := (1, m)) h).symm.trans hi4)
    exact qX11_layRest_54 h5 
theorem nX11_layRest_9 {g : Shp} {m : Mem} {x1 x2 : Int} (h : Sh g m)  {c1 : Int} {s1 : (Int × Int × Mem)} (hF : ebX11_layRest_9 g x1 x2 m = some (c1, s1)) : Sh g s1.2.2 := by
  unfold ebX11_layRest_9 at hF
  rcases if_ok hF with ⟨hc1, hF⟩ | ⟨hc1, hF⟩
  · cases hF
    exact h
  · obtain ⟨cv2, sv3, hi4, hF⟩ := bdl_ok hF
    have h5 := nlX11_layRest_15  (s0 := (1, m)) h hi4
    exact nX11_layRest_54 h5  hF
theorem nlX11_layRest_9 {g : Shp}  {n : Nat} {s0 s1 : (Int × Int × Mem)} {c1 : Int} (h : Sh g s0.2.2) (hI : iter (eBX11_layRest_9 g ) n s0 = some (c1, s1)) : Sh g s1.2.2 :=
  iter_inv (B := eBX11_layRest_9 g ) (fun q => Sh g q.2.2) (fun s c s' hs hB => nX11_layRest_9 hs  hB) n s0 c1 s1 h hI
theorem qlX11_layRest_9 {g : Shp}  {n : Nat} {s0 : (Int × Int × Mem)} (h : Sh g s0.2.2) : iter (BX11_layRest_9 g 241) n s0 = iter (eBX11_layRest_9 g ) n s0 :=
  iter_eq (B := BX11_layRest_9 g 241) (E := eBX11_layRest_9 g ) (fun q => Sh g q.2.2) (fun s hs => qX11_layRest_9 hs ) (fun s c s' hs hB => nX11_layRest_9 hs  ((qX11_layRest_9 hs ).symm.trans hB)) n s0 h
set_option maxRecDepth 20000 in
theorem qX11_layRest_69 {g : Shp} {m : Mem} {x1 : Int} (h : Sh g m)  : bX11_layRest_69 g x1 m = ebX11_layRest_69 g x1 m := by
  unfold bX11_layRest_69 ebX11_layRest_69
  rfl
theorem nX11_layRest_69 {g : Shp} {m : Mem} {x1 : Int} (h : Sh g m)  {r : Int} {m' : Mem} (hF : ebX11_layRest_69 g x1 m = some (r, m')) : Sh g m' := by
  unfold ebX11_layRest_69 at hF
  cases hF
  exact h
set_option maxRecDepth 20000 in
theorem qX11_layRest_0 {g : Shp} {m : Mem} (h : Sh g m)  : bX11_layRest_0 g 241 m = ebX11_layRest_0 g m := by
  unfold bX11_layRest_0 ebX11_layRest_0
  refine vv_c (fun y1 ey1 => ?_)
  refine bdl_q (qlX11_layRest_9  (n := 100000) (s0 := (0, y1, m)) h) (fun cv2 sv3 hi4 => ?_)
  have h5 := nlX11_layRest_9  (s0 := (0, y1, m)) h ((qlX11_layRest_9  (n := 100000) (s0 := (0, y1, m)) h).symm.trans hi4)
  exact qX11_layRest_69 h5 
theorem nX11_layRest_0 {g : Shp} {m : Mem} (h : Sh g m)  {r : Int} {m' : Mem} (hF : ebX11_layRest_0 g m = some (r, m')) : Sh g m' := by
  unfold ebX11_layRest_0 at hF
  obtain ⟨y1, ey1, hF⟩ := vv_ok hF
  obtain ⟨cv2, sv3, hi4, hF⟩ := bdl_ok hF
  have h5 := nlX11_layRest_9  (s0 := (0, y1, m)) h hi4
  exact nX11_layRest_69 h5  hF
theorem qX11_layRest {g : Shp} {m : Mem} (h : Sh g m)  : fX11_layRest g 241 m = eX11_layRest g m := qX11_layRest_0 h 
theorem nX11_layRest {g : Shp} {m : Mem} (h : Sh g m)  {r : Int} {m' : Mem} (hF : eX11_layRest g m = some (r, m')) : Sh g m' := nX11_layRest_0 h  hF
set_option maxRecDepth 20000 in
theorem qX11_findWay_149 {g : Shp} {m : Mem} {x3 x4 x5 x6 : Int} (h : Sh g m)  : bX11_findWay_149 g 241 x3 x4 x5 x6 m = ebX11_findWay_149 g x3 x4 x5 x6 m := by
  unfold bX11_findWay_149 ebX11_findWay_149
  refine vv_c (fun y1 ey1 => ?_)
  rfl
theorem nX11_findWay_149 {g : Shp} {m : Mem} {x3 x4 x5 x6 : Int} (h : Sh g m)  {c1 : Int} {s1 : (Int × Mem)} (hF : ebX11_findWay_149 g x3 x4 x5 x6 m = some (c1, s1)) : Sh g s1.2 := by
  unfold ebX11_findWay_149 at hF
  obtain ⟨y1, ey1, hF⟩ := vv_ok hF
  cases hF
  exact h
set_option maxRecDepth 20000 in
theorem qX11_findWay_106 {g : Shp} {m : Mem} {x3 x4 x5 x6 z0 : Int} (h : Sh g m)  : bX11_findWay_106 g 241 x3 x4 x5 x6 z0 m = ebX11_findWay_106 g x3 x4 x5 x6 z0 m := by
  unfold bX11_findWay_106 ebX11_findWay_106
  refine vv_c (fun y1 ey1 => ?_)
  refine if_c (fun hc2 => ?_) (fun hc2 => ?_)
  · have k3 := s_241_28 h
    rewrite [k3.1, ck_t k3.2.1]
    try rewrite [k3.2.2]
    refine ck_c (fun i4 => ?_)
    refine vm_c (fun m5 em5 => ?_)
    have hm5 := h.s em5 (nRa k3.2.1 (by decide))
    exact qX11_findWay_149 hm5 
  · have k6 := s_241_29 h
    rewrite [k6.1, ck_t k6.2.1]
    try rewrite [k6.2.2]
    refine ck_c (fun i7 => ?_)
    refine vm_c (fun m8 em8 => ?_)
    have hm8 := h.s em8 (nRa k6.2.1 (by decide))
    exact qX11_findWay_149 hm8 
theorem nX11_findWay_106 {g : Shp} {m : Mem} {x3 x4 x5 x6 z0 : Int} (h : Sh g m)  {c1 : Int} {s1 : (Int × Mem)} (hF : ebX11_findWay_106 g x3 x4 x5 x6 z0 m = some (c1, s1)) : Sh g s1.2 := by
  unfold ebX11_findWay_106 at hF
  obtain ⟨y1, ey1, hF⟩ := vv_ok hF
  rcases if_ok hF with ⟨hc2, hF⟩ | ⟨hc2, hF⟩
  · have k3 := s_241_28 h
    obtain ⟨i4, hF⟩ := ck_ok hF
    obtain ⟨m5, em5, hF⟩ := vm_ok hF
    have hm5 := h.s em5 (nRa k3.2.1 (by decide))
    exact nX11_findWay_149 hm5  hF
  · have k6 := s_241_29 h
    obtain ⟨i7, hF⟩ := ck_ok hF
    obtain ⟨m8, em8, hF⟩ := vm_ok hF
    have hm8 := h.s em8 (nRa k6.2.1 (by decide))
    exact nX11_findWay_149 hm8  hF
set_option maxRecDepth 20000 in
theorem qX11_findWay_29 {g : Shp} {m : Mem} {x3 x4 x5 x6 : Int} (h : Sh g m)  : bX11_findWay_29 g 241 x3 x4 x5 x6 m = ebX11_findWay_29 g x3 x4 x5 x6 m := by
  unfold bX11_findWay_29 ebX11_findWay_29
  refine if_c (fun hc1 => ?_) (fun hc1 => ?_)
  · rfl
  · have k2 := s_241_0 h
    rewrite [k2.1, ck_t k2.2.1]
    try rewrite [k2.2.2]
    refine ck_c (fun i3 => ?_)
    refine if_c (fun hc4 => ?_) (fun hc4 => ?_)
    · exact qX11_findWay_149 h
    · have k5 := s_241_0 h
      try rewrite [k5.2.2]
      refine ck_c (fun i6 => ?_)
      refine if_c (fun hc7 => ?_) (fun hc7 => ?_)
      · exact qX11_findWay_149 h
      · have k8 := s_241_0 h
        try rewrite [k8.2.2]
        refine ck_c (fun i9 => ?_)
        refine if_c (fun hc10 => ?_) (fun hc10 => ?_)
        · exact qX11_findWay_149 h
        · refine if_c (fun hc11 => ?_) (fun hc11 => ?_)
          · exact qX11_findWay_106 h
          · refine bd2_q (qX11_leastAt h ) (fun v12 m13 h14 => ?_)
            have hm13 := nX11_leastAt h  ((qX11_leastAt h ).symm.trans h14)
            exact qX11_findWay_106 hm13 
theorem nX11_findWay_29 {g : Shp} {m : Mem} {x3 x4 x5 x6 : Int} (h : Sh g m)  {c1 : Int} {s1 : (Int × Mem)} (hF : ebX11_findWay_29 g x3 x4 x5 x6 m = some (c1, s1)) : Sh g s1.2 := by
  unfold ebX11_findWay_29 at hF
  rcases if_ok hF with ⟨hc1, hF⟩ | ⟨hc1, hF⟩
  · cases hF
    exact h
  · have k2 := s_241_0 h
    obtain ⟨i3, hF⟩ := ck_ok hF
    rcases if_ok hF with ⟨hc4, hF⟩ | ⟨hc4, hF⟩
    · exact nX11_findWay_149 h  hF
    · have k5 := s_241_0 h
      obtain ⟨i6, hF⟩ := ck_ok hF
      rcases if_ok hF with ⟨hc7, hF⟩ | ⟨hc7, hF⟩
      · exact nX11_findWay_149 h  hF
      · have k8 := s_241_0 h
        obtain ⟨i9, hF⟩ := ck_ok hF
        rcases if_ok hF with ⟨hc10, hF⟩ | ⟨hc10, hF⟩
        · exact nX11_findWay_149 h  hF
        · rcases if_ok hF with ⟨hc11, hF⟩ | ⟨hc11, hF⟩
          · exact nX11_findWay_106 h  hF
          · obtain ⟨v12, m13, h14, hF⟩ := bd2_ok hF
            have hm13 := nX11_leastAt h  h14
            exact nX11_findWay_106 hm13  hF
theorem nlX11_findWay_29 {g : Shp} {x3 x4 x5 : Int}  {n : Nat} {s0 s1 : (Int × Mem)} {c1 : Int} (h : Sh g s0.2) (hI : iter (eBX11_findWay_29 g x3 x4 x5) n s0 = some (c1, s1)) : Sh g s1.2 :=
  iter_inv (B := eBX11_findWay_29 g x3 x4 x5) (fun q => Sh g q.2) (fun s c s' hs hB => nX11_findWay_29 hs  hB) n s0 c1 s1 h hI
theorem qlX11_findWay_29 {g : Shp} {x3 x4 x5 : Int}  {n : Nat} {s0 : (Int × Mem)} (h : Sh g s0.2) : iter (BX11_findWay_29 g 241 x3 x4 x5) n s0 = iter (eBX11_findWay_29 g x3 x4 x5) n s0 :=
  iter_eq (B := BX11_findWay_29 g 241 x3 x4 x5) (E := eBX11_findWay_29 g x3 x4 x5) (fun q => Sh g q.2) (fun s hs => qX11_findWay_29 hs ) (fun s c s' hs hB => nX11_findWay_29 hs  ((qX11_findWay_29 hs ).symm.trans hB)) n s0 h
set_option maxRecDepth 20000 in
theorem qX11_findWay_155 {g : Shp} {m : Mem} {x3 x4 x5 : Int} (h : Sh g m)  : bX11_findWay_155 g 241 x3 x4 x5 m = ebX11_findWay_155 g x3 x4 x5 m := by
  unfold bX11_findWay_155 ebX11_findWay_155
  refine vv_c (fun y1 ey1 => ?_)
  rfl
theorem nX11_findWay_155 {g : Shp} {m : Mem} {x3 x4 x5 : Int} (h : Sh g m)  {c1 : Int} {s1 : (Int × Mem)} (hF : ebX11_findWay_155 g x3 x4 x5 m = some (c1, s1)) : Sh g s1.2 := by
  unfold ebX11_findWay_155 at hF
  obtain ⟨y1, ey1, hF⟩ := vv_ok hF
  cases hF
  exact h
set_option maxRecDepth 20000 in
theorem qX11_findWay_20 {g : Shp} {m : Mem} {x3 x4 x5 : Int} (h : Sh g m)  : bX11_findWay_20 g 241 x3 x4 x5 m = ebX11_findWay_20 g x3 x4 x5 m := by
  unfold bX11_findWay_20 ebX11_findWay_20
  refine if_c (fun hc1 => ?_) (fun hc1 => ?_)
  · rfl
  · refine bdl_q (qlX11_findWay_29  (n := 100000) (s0 := (0, m)) h) (fun cv2 sv3 hi4 => ?_)
    have h5 := nlX11_findWay_29  (s0 := (0, m)) h ((qlX11_findWay_29  (n := 100000) (s0 := (0, m)) h).symm.trans hi4)
    exact qX11_findWay_155 h5 
theorem nX11_findWay_20 {g : Shp} {m : Mem} {x3 x4 x5 : Int} (h : Sh g m)  {c1 : Int} {s1 : (Int × Mem)} (hF : ebX11_findWay_20 g x3 x4 x5 m = some (c1, s1)) : Sh g s1.2 := by
  unfold ebX11_findWay_20 at hF
  rcases if_ok hF with ⟨hc1, hF⟩ | ⟨hc1, hF⟩
  · cases hF
    exact h
  · obtain ⟨cv2, sv3, hi4, hF⟩ := bdl_ok hF
    have h5 := nlX11_findWay_29  (s0 := (0, m)) h hi4
    exact nX11_findWay_155 h5  hF
theorem nlX11_findWay_20 {g : Shp} {x3 x4 : Int}  {n : Nat} {s0 s1 : (Int × Mem)} {c1 : Int} (h : Sh g s0.2) (hI : iter (eBX11_findWay_20 g x3 x4) n s0 = some (c1, s1)) : Sh g s1.2 :=
  iter_inv (B := eBX11_findWay_20 g x3 x4) (fun q => Sh g q.2) (fun s c s' hs hB => nX11_findWay_20 hs  hB) n s0 c1 s1 h hI
theorem qlX11_findWay_20 {g : Shp} {x3 x4 : Int}  {n : Nat} {s0 : (Int × Mem)} (h : Sh g s0.2) : iter (BX11_findWay_20 g 241 x3 x4) n s0 = iter (eBX11_findWay_20 g x3 x4) n s0 :=
  iter_eq (B := BX11_findWay_20 g 241 x3 x4) (E := eBX11_findWay_20 g x3 x4) (fun q => Sh g q.2) (fun s hs => qX11_findWay_20 hs ) (fun s c s' hs hB => nX11_findWay_20 hs  ((qX11_findWay_20 hs ).symm.trans hB)) n s0 h
set_option maxRecDepth 20000 in
theorem qX11_findWay_336 {g : Shp} {m : Mem} {x5 x8 x9 z0 z1 z2 : Int} (h : Sh g m)  : bX11_findWay_336 g 241 x5 x8 x9 z0 z1 z2 m = ebX11_findWay_336 g x5 x8 x9 z0 z1 z2 m := by
  unfold bX11_findWay_336 ebX11_findWay_336
  refine vv_c (fun y1 ey1 => ?_)
  refine bd2_q (qX11_oneOf h ) (fun v2 m3 h4 => ?_)
  have hm3 := nX11_oneOf h  ((qX11_oneOf h ).symm.trans h4)
  refine vv_c (fun y5 ey5 => ?_)
  refine vv_c (fun y6 ey6 => ?_)
  rfl
theorem nX11_findWay_336 {g : Shp} {m : Mem} {x5 x8 x9 z0 z1 z2 : Int} (h : Sh g m)  {c1 : Int} {s1 : (Int × Int × Int × Mem)} (hF : ebX11_findWay_336 g x5 x8 x9 z0 z1 z2 m = some (c1, s1)) : Sh g s1.2.2.2 := by
  unfold ebX11_findWay_336 at hF
  obtain ⟨y1, ey1, hF⟩ := vv_ok hF
  obtain ⟨v2, m3, h4, hF⟩ := bd2_ok hF
  have hm3 := nX11_oneOf h  h4
  obtain ⟨y5, ey5, hF⟩ := vv_ok hF
  obtain ⟨y6, ey6, hF⟩ := vv_ok hF
  cases hF
  exact hm3
set_option maxRecDepth 20000 in
theorem qX11_findWay_238 {g : Shp} {m : Mem} {x5 x7 x8 : Int} (h : Sh g m)  : bX11_findWay_238 g 241 x5 x7 x8 m = ebX11_findWay_238 g x5 x7 x8 m := by
  unfold bX11_findWay_238 ebX11_findWay_238
  refine if_c (fun hc1 => ?_) (fun hc1 => ?_)
  · rfl
  · refine bd2_q (qX11_costAt h ) (fun v2 m3 h4 => ?_)
    have hm3 := nX11_costAt h  ((qX11_costAt h ).symm.trans h4)
    refine bd2_q (qX11_firstStone hm3 ) (fun v5 m6 h7 => ?_)
    have hm6 := nX11_firstStone hm3  ((qX11_firstStone hm3 ).symm.trans h7)
    refine vv_c (fun y8 ey8 => ?_)
    have k9 := s_241_32 hm6
    rewrite [k9.1, ck_t k9.2.1]
    try rewrite [k9.2.2]
    refine ck_c (fun i10 => ?_)
    refine vm_c (fun m11 em11 => ?_)
    have hm11 := hm6.s em11 (nRa k9.2.1 (by decide))
    have k12 := s_241_33 hm11
    rewrite [k12.1, ck_t k12.2.1]
    try rewrite [k12.2.2]
    refine ck_c (fun i13 => ?_)
    refine vm_c (fun m14 em14 => ?_)
    have hm14 := hm11.s em14 (nRa k12.2.1 (by decide))
    have k15 := s_241_34 hm14
    rewrite [k15.1, ck_t k15.2.1]
    refine bd2_q (qX11_isCutAslant hm14 ) (fun v16 m17 h18 => ?_)
    have hm17 := nX11_isCutAslant hm14  ((qX11_isCutAslant hm14 ).symm.trans h18)
    try rewrite [k15.2.2]
    refine ck_c (fun i19 => ?_)
    refine vm_c (fun m20 em20 => ?_)
    have hm20 := hm17.s em20 (nRa k15.2.1 (by decide))
    have k21 := s_241_30 hm20
    rewrite [k21.1, ck_t k21.2.1]
    try rewrite [k21.2.2]
    refine ck_c (fun i22 => ?_)
    refine if_c (fun hc23 => ?_) (fun hc23 => ?_)
    · exact qX11_findWay_336 hm20
    · have k24 := s_241_0 hm20
      rewrite [k24.1, ck_t k24.2.1]
      try rewrite [k24.2.2]
      refine ck_c (fun i25 => ?_)
      exact qX11_findWay_336 hm20 
theorem nX11_findWay_238 {g : Shp} {m : Mem} {x5 x7 x8 : Int} (h : Sh g m)  {c1 : Int} {s1 : (Int × Int × Int × Mem)} (hF : ebX11_findWay_238 g x5 x7 x8 m = some (c1, s1)) : Sh g s1.2.2.2 := by
  unfold ebX11_findWay_238 at hF
  rcases if_ok hF with ⟨hc1, hF⟩ | ⟨hc1, hF⟩
  · cases hF
    exact h
  · obtain ⟨v2, m3, h4, hF⟩ := bd2_ok hF
    have hm3 := nX11_costAt h  h4
    obtain ⟨v5, m6, h7, hF⟩ := bd2_ok hF
    have hm6 := nX11_firstStone hm3  h7
    obtain ⟨y8, ey8, hF⟩ := vv_ok hF
    have k9 := s_241_32 hm6
    obtain ⟨i10, hF⟩ := ck_ok hF
    obtain ⟨m11, em11, hF⟩ := vm_ok hF
    have hm11 := hm6.s em11 (nRa k9.2.1 (by decide))
    have k12 := s_241_33 hm11
    obtain ⟨i13, hF⟩ := ck_ok hF
    obtain ⟨m14, em14, hF⟩ := vm_ok hF
    have hm14 := hm11.s em14 (nRa k12.2.1 (by decide))
    have k15 := s_241_34 hm14
    obtain ⟨v16, m17, h18, hF⟩ := bd2_ok hF
    have hm17 := nX11_isCutAslant hm14  h18
    obtain ⟨i19, hF⟩ := ck_ok hF
    obtain ⟨m20, em20, hF⟩ := vm_ok hF
    have hm20 := hm17.s em20 (nRa k15.2.1 (by decide))
    have k21 := s_241_30 hm20
    obtain ⟨i22, hF⟩ := ck_ok hF
    rcases if_ok hF with ⟨hc23, hF⟩ | ⟨hc23, hF⟩
    · exact nX11_findWay_336 hm20  hF
    · have k24 := s_241_0 hm20
      obtain ⟨i25, hF⟩ := ck_ok hF
      exact nX11_findWay_336 hm20  hF
theorem nlX11_findWay_238 {g : Shp}  {n : Nat} {s0 s1 : (Int × Int × Int × Mem)} {c1 : Int} (h : Sh g s0.2.2.2) (hI : iter (eBX11_findWay_238 g ) n s0 = some (c1, s1)) : Sh g s1.2.2.2 :=
  iter_inv (B := eBX11_findWay_238 g ) (fun q => Sh g q.2.2.2) (fun s c s' hs hB => nX11_findWay_238 hs  hB) n s0 c1 s1 h hI
theorem qlX11_findWay_238 {g : Shp}  {n : Nat} {s0 : (Int × Int × Int × Mem)} (h : Sh g s0.2.2.2) : iter (BX11_findWay_238 g 241) n s0 = iter (eBX11_findWay_238 g ) n s0 :=
  iter_eq (B := BX11_findWay_238 g 241) (E := eBX11_findWay_238 g ) (fun q => Sh g q.2.2.2) (fun s hs => qX11_findWay_238 hs ) (fun s c s' hs hB => nX11_findWay_238 hs  ((qX11_findWay_238 hs ).symm.trans hB)) n s0 h
set_option maxRecDepth 20000 in
theorem qX11_findWay_358 {g : Shp} {m : Mem} (h : Sh g m)  : bX11_findWay_358 g m = ebX11_findWay_358 g m := by
  unfold bX11_findWay_358 ebX11_findWay_358
  rfl
theorem nX11_findWay_358 {g : Shp} {m : Mem} (h : Sh g m)  {r : Int} {m' : Mem} (hF : ebX11_findWay_358 g m = some (r, m')) : Sh g m' := by
  unfold ebX11_findWay_358 at hF
  cases hF
  exact h
set_option maxRecDepth 20000 in
theorem qX11_findWay_161 {g : Shp} {m : Mem} {x3 x4 : Int} (h : Sh g m)  : bX11_findWay_161 g 241 x3 x4 m = ebX11_findWay_161 g x3 x4 m := by
  unfold bX11_findWay_161 ebX11_findWay_161
  have k1 := s_241_0 h
  rewrite [k1.1, ck_t k1.2.1]
  try rewrite [k1.2.2]
  refine ck_c (fun i2 => ?_)
  have k3 := s_241_0 h
  try rewrite [k3.2.2]
  refine ck_c (fun i4 => ?_)
  have k5 := s_241_0 h
  try rewrite [k5.2.2]
  refine ck_c (fun i6 => ?_)
  refine vv_c (fun y7 ey7 => ?_)
  refine bd2_q (qX11_costAt h ) (fun v8 m9 h10 => ?_)
  have hm9 := nX11_costAt h  ((qX11_costAt h ).symm.trans h10)
  refine if_c (fun hc11 => ?_) (fun hc11 => ?_)
  · rfl
  · refine vm_c (fun m12 em12 => ?_)
    have hm12 := hm9.s em12 (nRf (sk_241 hm9) (by decide) (by decide))
    refine vm_c (fun m13 em13 => ?_)
    have hm13 := hm12.s em13 (nRf (sk_241 hm12) (by decide) (by decide))
    refine bdl_q (qlX11_findWay_238  (n := 100000) (s0 := (y7, x3, 0, m13)) hm13) (fun cv14 sv15 hi16 => ?_)
    have h17 := nlX11_findWay_238  (s0 := (y7, x3, 0, m13)) hm13 ((qlX11_findWay_238  (n := 100000) (s0 := (y7, x3, 0, m13)) hm13).symm.trans hi16)
    exact qX11_findWay_358 h17 
theorem nX11_findWay_161 {g : Shp} {m : Mem} {x3 x4 : Int} (h : Sh g m)  {r : Int} {m' : Mem} (hF : ebX11_findWay_161 g x3 x4 m = some (r, m')) : Sh g m' := by
  unfold ebX11_findWay_161 at hF
  have k1 := s_241_0 h
  obtain ⟨i2, hF⟩ := ck_ok hF
  have k3 := s_241_0 h
  obtain ⟨i4, hF⟩ := ck_ok hF
  have k5 := s_241_0 h
  obtain ⟨i6, hF⟩ := ck_ok hF
  obtain ⟨y7, ey7, hF⟩ := vv_ok hF
  obtain ⟨v8, m9, h10, hF⟩ := bd2_ok hF
  have hm9 := nX11_costAt h  h10
  rcases if_ok hF with ⟨hc11, hF⟩ | ⟨hc11, hF⟩
  · cases hF
    exact hm9
  · obtain ⟨m12, em12, hF⟩ := vm_ok hF
    have hm12 := hm9.s em12 (nRf (sk_241 hm9) (by decide) (by decide))
    obtain ⟨m13, em13, hF⟩ := vm_ok hF
    have hm13 := hm12.s em13 (nRf (sk_241 hm12) (by decide) (by decide))
    obtain ⟨cv14, sv15, hi16, hF⟩ := bdl_ok hF
    have h17 := nlX11_findWay_238  (s0 := (y7, x3, 0, m13)) hm13 hi16
    exact nX11_findWay_358 h17  hF
set_option maxRecDepth 20000 in
theorem qX11_findWay_0 {g : Shp} {m : Mem} {x1 x2 : Int} (h : Sh g m)  : bX11_findWay_0 g 241 x1 x2 m = ebX11_findWay_0 g x1 x2 m := by
  unfold bX11_findWay_0 ebX11_findWay_0
  refine bd2_q (qX11_findPieces h ) (fun v1 m2 h3 => ?_)
  have hm2 := nX11_findPieces h  ((qX11_findPieces h ).symm.trans h3)
  refine bd2_q (qX11_layRest hm2 ) (fun v4 m5 h6 => ?_)
  have hm5 := nX11_layRest hm2  ((qX11_layRest hm2 ).symm.trans h6)
  refine vv_c (fun y7 ey7 => ?_)
  refine bdl_q (qlX11_findWay_20  (n := 100000) (s0 := (0, m5)) hm5) (fun cv8 sv9 hi10 => ?_)
  have h11 := nlX11_findWay_20  (s0 := (0, m5)) hm5 ((qlX11_findWay_20  (n := 100000) (s0 := (0, m5)) hm5).symm.trans hi10)
  exact qX11_findWay_161 h11 
theorem nX11_findWay_0 {g : Shp} {m : Mem} {x1 x2 : Int} (h : Sh g m)  {r : Int} {m' : Mem} (hF : ebX11_findWay_0 g x1 x2 m = some (r, m')) : Sh g m' := by
  unfold ebX11_findWay_0 at hF
  obtain ⟨v1, m2, h3, hF⟩ := bd2_ok hF
  have hm2 := nX11_findPieces h  h3
  obtain ⟨v4, m5, h6, hF⟩ := bd2_ok hF
  have hm5 := nX11_layRest hm2  h6
  obtain ⟨y7, ey7, hF⟩ := vv_ok hF
  obtain ⟨cv8, sv9, hi10, hF⟩ := bdl_ok hF
  have h11 := nlX11_findWay_20  (s0 := (0, m5)) hm5 hi10
  exact nX11_findWay_161 h11  hF
theorem qX11_findWay {g : Shp} {m : Mem} {x1 x2 : Int} (h : Sh g m)  : fX11_findWay g 241 x1 x2 m = eX11_findWay g x1 x2 m := qX11_findWay_0 h 
theorem nX11_findWay {g : Shp} {m : Mem} {x1 x2 : Int} (h : Sh g m)  {r : Int} {m' : Mem} (hF : eX11_findWay g x1 x2 m = some (r, m')) : Sh g m' := nX11_findWay_0 h  hF
