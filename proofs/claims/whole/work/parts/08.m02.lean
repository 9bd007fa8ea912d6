def bX11_findPieces_98 (g : Shp) (x0 x1 x2 x3 x5 z0 : Int) (m : Mem) : Option (Int × (Int × Int × Mem)) :=
  vv (w32 (x2 + 1)) fun y1 =>
  some (0, (y1, z0, m))
def bX11_findPieces_85 (g : Shp) (x0 x1 x2 x3 x4 x5 x6 : Int) (m : Mem) : Option (Int × (Int × Int × Mem)) :=
  if x6 = 0 then
    bX11_findPieces_98 g x0 x1 x2 x3 x5 0 m
  else
    bX11_findPieces_98 g x0 x1 x2 x3 x5 (w32 (x4 + 1)) m
def bX11_findPieces_71 (g : Shp) (x0 x1 x2 x3 x4 x5 z0 : Int) (m : Mem) : Option (Int × (Int × Int × Mem)) :=
  if z0 = 0 then
    bd2 (fX11_endPiece g x0 x4 0 m) fun v2 m3 =>
    bX11_findPieces_85 g x0 x1 x2 x3 x4 x5 z0 m3
  else
    bX11_findPieces_85 g x0 x1 x2 x3 x4 x5 z0 m
def bX11_findPieces_36 (g : Shp) (x0 x1 x2 x3 x4 x5 : Int) (m : Mem) : Option (Int × (Int × Int × Mem)) :=
  if x5 ≤ x2 then
    some (1, (x2, x4, m))
  else
    ck (gk g (m x0 0) = 20) <|
    ck (gk g (m x0 24) = 20) <|
    ck ((0 : Int) ≤ (w32 ((w32 (60 * x1)) + x2)) ∧ (w32 ((w32 (60 * x1)) + x2)) < gl g (m x0 24)) <|
    ck ((0 : Int) ≤ (w32 (33 + (m (m x0 24) (w32 ((w32 (60 * x1)) + x2))))) ∧ (w32 (33 + (m (m x0 24) (w32 ((w32 (60 * x1)) + x2))))) < gl g (m x0 0)) <|
    if (m (m x0 0) (w32 (33 + (m (m x0 24) (w32 ((w32 (60 * x1)) + x2)))))) = ((-4)) then
      bX11_findPieces_71 g x0 x1 x2 x3 x4 x5 1 m
    else
      bX11_findPieces_71 g x0 x1 x2 x3 x4 x5 0 m
def BX11_findPieces_36 (g : Shp) (x0 x1 x3 x5 : Int) (q : (Int × Int × Mem)) : Option (Int × (Int × Int × Mem)) := bX11_findPieces_36 g x0 x1 q.1 x3 q.2.1 x5 q.2.2
def bX11_findPieces_126 (g : Shp) (x0 x1 x2 x3 z0 z1 z2 : Int) (m : Mem) : Option (Int × (Int × Int × Mem)) :=
  bd2 (fX11_endPiece g z0 z1 z2 m) fun v1 m2 =>
  vv (w32 (x3 + 1)) fun y4 =>
  some (0, (x2, y4, m2))
def bX11_findPieces_106 (g : Shp) (x0 x1 x2 x3 x4 : Int) (m : Mem) : Option (Int × (Int × Int × Mem)) :=
  ck (gk g (m x0 21) = 20) <|
  ck ((0 : Int) ≤ x1 ∧ x1 < gl g (m x0 21)) <|
  if (m (m x0 21) x1) ≤ (w32 (x3 + 1)) then
    bX11_findPieces_126 g x0 x1 x2 x3 x0 x4 0 m
  else
    bX11_findPieces_126 g x0 x1 x2 x3 x0 x4 1 m
def bX11_findPieces_9 (g : Shp) (x0 x1 x2 x3 : Int) (m : Mem) : Option (Int × (Int × Int × Mem)) :=
  ck (gk g (m x0 21) = 20) <|
  ck ((0 : Int) ≤ x1 ∧ x1 < gl g (m x0 21)) <|
  if (m (m x0 21) x1) ≤ x3 then
    some (1, (x2, x3, m))
  else
    ck (gk g (m x0 22) = 20) <|
    ck ((0 : Int) ≤ (w32 ((w32 (5 * x1)) + x3)) ∧ (w32 ((w32 (5 * x1)) + x3)) < gl g (m x0 22)) <|
    vv (w32 (x2 + (m (m x0 22) (w32 ((w32 (5 * x1)) + x3))))) fun y6 =>
    bdl (iter (BX11_findPieces_36 g x0 x1 x3 y6) 100000 (x2, 0, m)) fun cv7 sv8 =>
    bX11_findPieces_106 g x0 x1 sv8.1 x3 sv8.2.1 sv8.2.2
def BX11_findPieces_9 (g : Shp) (x0 x1 : Int) (q : (Int × Int × Mem)) : Option (Int × (Int × Int × Mem)) := bX11_findPieces_9 g x0 x1 q.1 q.2.1 q.2.2
def bX11_findPieces_135 (g : Shp) (m : Mem) : Option (Int × Mem) :=
  some (0, m)
def bX11_findPieces_0 (g : Shp) (x0 x1 : Int) (m : Mem) : Option (Int × Mem) :=
  vm (ms m x0 27 0) fun m1 =>
  bdl (iter (BX11_findPieces_9 g x0 x1) 100000 (0, 0, m1)) fun cv2 sv3 =>
  bX11_findPieces_135 g sv3.2.2
def fX11_findPieces (g : Shp) (x0 x1 : Int) (m : Mem) : Option (Int × Mem) := bX11_findPieces_0 g x0 x1 m
def bX11_piece_13 (g : Shp) (m : Mem) : Option (Int × Mem) :=
  some ((-1), m)
def bX11_piece_62 (g : Shp) (z0 : Int) (m : Mem) : Option (Int × Mem) :=
  some (z0, m)
def bX11_piece_0 (g : Shp) (x0 x1 x2 : Int) (m : Mem) : Option (Int × Mem) :=
  bd2 (fX11_isLine g x0 x1 m) fun v1 m2 =>
  if v1 = 0 then
    bX11_piece_13 g m2
  else
    if ((-1)) ≤ x2 then
      bd2 (fX11_isCovered g x0 x1 m2) fun v7 m8 =>
      if v7 = 0 then
        bd2 (fX11_findPieces g x0 x1 m8) fun v12 m13 =>
        if x2 = ((-1)) then
          bX11_piece_62 g (m13 x0 27) m13
        else
          if (m13 x0 27) ≤ x2 then
            bX11_piece_62 g ((-4)) m13
          else
            ck (gk g (m13 x0 25) = 20) <|
            ck ((0 : Int) ≤ x2 ∧ x2 < gl g (m13 x0 25)) <|
            bX11_piece_62 g (m13 (m13 x0 25) x2) m13
      else
        some ((-2), m8)
    else
      bX11_piece_13 g m2
def fX11_piece (g : Shp) (x0 x1 x2 : Int) (m : Mem) : Option (Int × Mem) := bX11_piece_0 g x0 x1 x2 m
def bX11_costAt_31 (g : Shp) (z0 : Int) (m : Mem) : Option (Int × Mem) :=
  some (z0, m)
def bX11_costAt_0 (g : Shp) (x0 x1 x2 : Int) (m : Mem) : Option (Int × Mem) :=
  vv (w32 ((w32 ((jdiv x1 2) * 343)) + x2)) fun y1 =>
  if (jrem x1 2) = 0 then
    ck (gk g (m x0 28) = 20) <|
    ck ((0 : Int) ≤ y1 ∧ y1 < gl g (m x0 28)) <|
    bX11_costAt_31 g (m (m x0 28) y1) m
  else
    ck (gk g (m x0 29) = 20) <|
    ck ((0 : Int) ≤ y1 ∧ y1 < gl g (m x0 29)) <|
    bX11_costAt_31 g (m (m x0 29) y1) m
def fX11_costAt (g : Shp) (x0 x1 x2 : Int) (m : Mem) : Option (Int × Mem) := bX11_costAt_0 g x0 x1 x2 m
def bX11_oneOf_20 (g : Shp) (z0 : Int) (m : Mem) : Option (Int × Mem) :=
  some (z0, m)
def bX11_oneOf_0 (g : Shp) (x0 : Int) (m : Mem) : Option (Int × Mem) :=
  if x0 = 0 then
    bX11_oneOf_20 g 49 m
  else
    if x0 = 1 then
      bX11_oneOf_20 g 7 m
    else
      bX11_oneOf_20 g 1 m
def fX11_oneOf (g : Shp) (x0 : Int) (m : Mem) : Option (Int × Mem) := bX11_oneOf_0 g x0 m
def bX11_isCutAslant_38 (g : Shp) (z0 : Int) (m : Mem) : Option (Int × Mem) :=
  ck (z0 = 0 ∨ z0 = 1) <|
  some (z0, m)
def bX11_isCutAslant_33 (g : Shp) (m : Mem) : Option (Int × Mem) :=
  bX11_isCutAslant_38 g 1 m
def bX11_isCutAslant_37 (g : Shp) (m : Mem) : Option (Int × Mem) :=
  bX11_isCutAslant_38 g 0 m
def bX11_isCutAslant_0 (g : Shp) (x0 x1 x2 x3 : Int) (m : Mem) : Option (Int × Mem) :=
  ck (gk g (m x0 30) = 20) <|
  ck ((0 : Int) ≤ x1 ∧ x1 < gl g (m x0 30)) <|
  if x2 = (m (m x0 30) x1) then
    ck (gk g (m x0 31) = 21) <|
    ck ((0 : Int) ≤ x1 ∧ x1 < gl g (m x0 31)) <|
    if (m (m x0 31) x1) = 0 then
      bX11_isCutAslant_37 g m
    else
      if x3 = 0 then
        ck (gk g (m x0 19) = 20) <|
        ck ((0 : Int) ≤ 0 ∧ 0 < gl g (m x0 19)) <|
        if x2 = (m (m x0 19) 0) then
          bX11_isCutAslant_37 g m
        else
          bX11_isCutAslant_33 g m
      else
        bX11_isCutAslant_33 g m
  else
    bX11_isCutAslant_37 g m
def fX11_isCutAslant (g : Shp) (x0 x1 x2 x3 : Int) (m : Mem) : Option (Int × Mem) := bX11_isCutAslant_0 g x0 x1 x2 x3 m
def bX11_costBy_55 (g : Shp) (m : Mem) : Option (Int × Mem) :=
  some (1000000, m)
def bX11_costBy_147 (g : Shp) (z0 : Int) (m : Mem) : Option (Int × Mem) :=
  some (z0, m)
def bX11_costBy_122 (g : Shp) (x6 z0 z1 : Int) (m : Mem) : Option (Int × Mem) :=
  vv (w32 (z0 + z1)) fun y1 =>
  if x6 = 1000000 then
    bX11_costBy_147 g 1000000 m
  else
    bX11_costBy_147 g (w32 ((w32 (x6 + (w32 (32 * y1)))) + 1)) m
def bX11_costBy_106 (g : Shp) (x0 x1 x3 x4 x6 z0 : Int) (m : Mem) : Option (Int × Mem) :=
  bd2 (fX11_isCutAslant g x0 x1 x3 x4 m) fun v1 m2 =>
  if v1 = 0 then
    bX11_costBy_122 g x6 z0 0 m2
  else
    bX11_costBy_122 g x6 z0 1 m2
def bX11_costBy_77 (g : Shp) (x0 x1 x2 x3 x4 z0 z1 z2 : Int) (m : Mem) : Option (Int × Mem) :=
  bd2 (fX11_oneOf g x4 m) fun v1 m2 =>
  bd2 (fX11_costAt g z0 (w32 (z1 - z2)) (w32 (x2 - v1)) m2) fun v5 m6 =>
  ck (gk g (m6 x0 19) = 20) <|
  ck ((0 : Int) ≤ x4 ∧ x4 < gl g (m6 x0 19)) <|
  if (m6 (m6 x0 19) x4) ≤ x3 then
    bX11_costBy_106 g x0 x1 x3 x4 v5 0 m6
  else
    bX11_costBy_106 g x0 x1 x3 x4 v5 1 m6
def bX11_costBy_58 (g : Shp) (x0 x1 x2 x3 x4 x5 : Int) (m : Mem) : Option (Int × Mem) :=
  if x5 ≤ 0 then
    bX11_costBy_77 g x0 x1 x2 x3 x4 x0 (w32 (x1 - x3)) 0 m
  else
    ck (gk g (m x0 0) = 20) <|
    ck ((0 : Int) ≤ 0 ∧ 0 < gl g (m x0 0)) <|
    bX11_costBy_77 g x0 x1 x2 x3 x4 x0 (w32 (x1 - x3)) (m (m x0 0) 0) m
def bX11_costBy_0 (g : Shp) (x0 x1 x2 x3 x4 : Int) (m : Mem) : Option (Int × Mem) :=
  ck (gk g (m x0 30) = 20) <|
  ck ((0 : Int) ≤ x1 ∧ x1 < gl g (m x0 30)) <|
  vv (w32 ((m (m x0 30) x1) - x3)) fun y3 =>
  bd2 (fX11_oneOf g x4 m) fun v4 m5 =>
  ck (¬ v4 = 0) <|
  if (jrem (jdiv x2 v4) 7) = 0 then
    bX11_costBy_55 g m5
  else
    ck (gk g (m5 x0 19) = 20) <|
    ck ((0 : Int) ≤ x4 ∧ x4 < gl g (m5 x0 19)) <|
    if (m5 (m5 x0 19) x4) < x3 then
      bX11_costBy_55 g m5
    else
      if y3 < 0 then
        bX11_costBy_55 g m5
      else
        if y3 ≤ 0 then
          bX11_costBy_58 g x0 x1 x2 x3 x4 y3 m5
        else
          ck (gk g (m5 x0 0) = 20) <|
          ck ((0 : Int) ≤ 0 ∧ 0 < gl g (m5 x0 0)) <|
          if (m5 (m5 x0 0) 0) < y3 then
            bX11_costBy_58 g x0 x1 x2 x3 x4 y3 m5
          else
            bX11_costBy_55 g m5
def fX11_costBy (g : Shp) (x0 x1 x2 x3 x4 : Int) (m : Mem) : Option (Int × Mem) := bX11_costBy_0 g x0 x1 x2 x3 x4 m
def bX11_leastAt_61 (g : Shp) (x0 x1 x2 x4 x5 z0 : Int) (m : Mem) : Option (Int × (Int × Int × Mem)) :=
  vv (w32 (x5 + 1)) fun y1 =>
  some (0, (z0, y1, m))
def bX11_leastAt_31 (g : Shp) (x0 x1 x2 x3 x4 x5 : Int) (m : Mem) : Option (Int × (Int × Int × Mem)) :=
  if 3 ≤ x5 then
    some (1, (x3, x5, m))
  else
    bd2 (fX11_costBy g x0 x1 x2 x4 x5 m) fun v2 m3 =>
    if x3 ≤ v2 then
      bX11_leastAt_61 g x0 x1 x2 x4 x5 x3 m3
    else
      bX11_leastAt_61 g x0 x1 x2 x4 x5 v2 m3
def BX11_leastAt_31 (g : Shp) (x0 x1 x2 x4 : Int) (q : (Int × Int × Mem)) : Option (Int × (Int × Int × Mem)) := bX11_leastAt_31 g x0 x1 x2 q.1 x4 q.2.1 q.2.2
def bX11_leastAt_68 (g : Shp) (x0 x1 x2 x3 x4 : Int) (m : Mem) : Option (Int × (Int × Int × Mem)) :=
  vv (w32 (x4 + 1)) fun y1 =>
  some (0, (x3, y1, m))
def bX11_leastAt_6 (g : Shp) (x0 x1 x2 x3 x4 : Int) (m : Mem) : Option (Int × (Int × Int × Mem)) :=
  ck (gk g (m x0 19) = 20) <|
  ck ((0 : Int) ≤ 2 ∧ 2 < gl g (m x0 19)) <|
  if (m (m x0 19) 2) < x4 then
    some (1, (x3, x4, m))
  else
    ck (gk g (m x0 30) = 20) <|
    ck ((0 : Int) ≤ x1 ∧ x1 < gl g (m x0 30)) <|
    if (m (m x0 30) x1) < x4 then
      some (1, (x3, x4, m))
    else
      bdl (iter (BX11_leastAt_31 g x0 x1 x2 x4) 100000 (x3, 0, m)) fun cv7 sv8 =>
      bX11_leastAt_68 g x0 x1 x2 sv8.1 x4 sv8.2.2
def BX11_leastAt_6 (g : Shp) (x0 x1 x2 : Int) (q : (Int × Int × Mem)) : Option (Int × (Int × Int × Mem)) := bX11_leastAt_6 g x0 x1 x2 q.1 q.2.1 q.2.2
def bX11_leastAt_74 (g : Shp) (x3 : Int) (m : Mem) : Option (Int × Mem) :=
  some (x3, m)
def bX11_leastAt_0 (g : Shp) (x0 x1 x2 : Int) (m : Mem) : Option (Int × Mem) :=
  bdl (iter (BX11_leastAt_6 g x0 x1 x2) 100000 (1000000, 1, m)) fun cv1 sv2 =>
  bX11_leastAt_74 g sv2.1 sv2.2.2
def fX11_leastAt (g : Shp) (x0 x1 x2 : Int) (m : Mem) : Option (Int × Mem) := bX11_leastAt_0 g x0 x1 x2 m
def bX11_firstStone_87 (g : Shp) (x0 x1 x2 x3 x4 x5 x6 : Int) (m : Mem) : Option (Int × (Int × Mem)) :=
  vv (w32 (x6 + 1)) fun y1 =>
  some (0, (y1, m))
def bX11_firstStone_62 (g : Shp) (x0 x1 x2 x3 x4 x5 x6 z0 z1 : Int) (m : Mem) : Option (Int × (Int × Mem)) :=
  if z0 = z1 then
    bd2 (fX11_costBy g x0 x1 x2 x4 x6 m) fun v2 m3 =>
    if v2 = x3 then
      some (1, (x6, m3))
    else
      bX11_firstStone_87 g x0 x1 x2 x3 x4 x5 x6 m3
  else
    bX11_firstStone_87 g x0 x1 x2 x3 x4 x5 x6 m
def bX11_firstStone_48 (g : Shp) (x0 x1 x2 x3 x4 x5 x6 z0 : Int) (m : Mem) : Option (Int × (Int × Mem)) :=
  if x5 = 0 then
    bX11_firstStone_62 g x0 x1 x2 x3 x4 x5 x6 z0 1 m
  else
    bX11_firstStone_62 g x0 x1 x2 x3 x4 x5 x6 z0 0 m
def bX11_firstStone_25 (g : Shp) (x0 x1 x2 x3 x4 x5 x6 : Int) (m : Mem) : Option (Int × (Int × Mem)) :=
  if 3 ≤ x6 then
    some (2, (x6, m))
  else
    ck (gk g (m x0 19) = 20) <|
    ck ((0 : Int) ≤ x6 ∧ x6 < gl g (m x0 19)) <|
    if (m (m x0 19) x6) = x4 then
      bX11_firstStone_48 g x0 x1 x2 x3 x4 x5 x6 1 m
    else
      bX11_firstStone_48 g x0 x1 x2 x3 x4 x5 x6 0 m
def BX11_firstStone_25 (g : Shp) (x0 x1 x2 x3 x4 x5 : Int) (q : (Int × Mem)) : Option (Int × (Int × Mem)) := bX11_firstStone_25 g x0 x1 x2 x3 x4 x5 q.1 q.2
def bX11_firstStone_93 (g : Shp) (x0 x1 x2 x3 x4 x5 : Int) (m : Mem) : Option (Int × (Int × Int × Mem)) :=
  vv (w32 (x5 + 1)) fun y1 =>
  some (0, (y1, 0, m))
def bX11_firstStone_16 (g : Shp) (x0 x1 x2 x3 x4 x5 : Int) (m : Mem) : Option (Int × (Int × Int × Mem)) :=
  if 2 ≤ x5 then
    some (2, (x5, 0, m))
  else
    bdl (iter (BX11_firstStone_25 g x0 x1 x2 x3 x4 x5) 100000 (0, m)) fun cv2 sv3 =>
    if cv2 = 1 then
      some (1, (0, sv3.1, sv3.2))
    else
      bX11_firstStone_93 g x0 x1 x2 x3 x4 x5 sv3.2
def BX11_firstStone_16 (g : Shp) (x0 x1 x2 x3 x4 : Int) (q : (Int × Int × Mem)) : Option (Int × (Int × Int × Mem)) := bX11_firstStone_16 g x0 x1 x2 x3 x4 q.1 q.2.2
def bX11_firstStone_99 (g : Shp) (x0 x1 x2 x3 x4 : Int) (m : Mem) : Option (Int × (Int × Int × Mem)) :=
  vv (w32 (x4 + (-1))) fun y1 =>
  some (0, (y1, 0, m))
def bX11_firstStone_8 (g : Shp) (x0 x1 x2 x3 x4 : Int) (m : Mem) : Option (Int × (Int × Int × Mem)) :=
  if x4 ≤ 0 then
    some (2, (x4, 0, m))
  else
    bdl (iter (BX11_firstStone_16 g x0 x1 x2 x3 x4) 100000 (0, 0, m)) fun cv2 sv3 =>
    if cv2 = 1 then
      some (1, (x4, sv3.2.1, sv3.2.2))
    else
      bX11_firstStone_99 g x0 x1 x2 x3 x4 sv3.2.2
def BX11_firstStone_8 (g : Shp) (x0 x1 x2 x3 : Int) (q : (Int × Int × Mem)) : Option (Int × (Int × Int × Mem)) := bX11_firstStone_8 g x0 x1 x2 x3 q.1 q.2.2
def bX11_firstStone_79 (g : Shp) (x4 x6 : Int) (m : Mem) : Option (Int × Mem) :=
  some (w32 ((w32 (4 * x4)) + x6), m)
def bX11_firstStone_105 (g : Shp) (m : Mem) : Option (Int × Mem) :=
  some ((-4), m)
def bX11_firstStone_0 (g : Shp) (x0 x1 x2 x3 : Int) (m : Mem) : Option (Int × Mem) :=
  ck (gk g (m x0 19) = 20) <|
  ck ((0 : Int) ≤ 2 ∧ 2 < gl g (m x0 19)) <|
  vv (m (m x0 19) 2) fun y3 =>
  bdl (iter (BX11_firstStone_8 g x0 x1 x2 x3) 100000 (y3, 0, m)) fun cv4 sv5 =>
  if cv4 = 1 then
    bX11_firstStone_79 g sv5.1 sv5.2.1 sv5.2.2
  else
    bX11_firstStone_105 g sv5.2.2
def fX11_firstStone (g : Shp) (x0 x1 x2 x3 : Int) (m : Mem) : Option (Int × Mem) := bX11_firstStone_0 g x0 x1 x2 x3 m
def bX11_layRest_15 (g : Shp) (x0 x1 x2 x3 : Int) (m : Mem) : Option (Int × (Int × Mem)) :=
  ck (gk g (m x0 25) = 20) <|
  ck ((0 : Int) ≤ x2 ∧ x2 < gl g (m x0 25)) <|
  if (m (m x0 25) x2) < x3 then
    some (1, (x3, m))
  else
    ck (gk g (m x0 30) = 20) <|
    ck ((0 : Int) ≤ (w32 (x1 + x3)) ∧ (w32 (x1 + x3)) < gl g (m x0 30)) <|
    vm (ms m (m x0 30) (w32 (x1 + x3)) x3) fun m6 =>
    ck (gk g (m6 x0 31) = 21) <|
    ck (gk g (m6 x0 26) = 21) <|
    ck ((0 : Int) ≤ x2 ∧ x2 < gl g (m6 x0 26)) <|
    ck ((0 : Int) ≤ (w32 (x1 + x3)) ∧ (w32 (x1 + x3)) < gl g (m6 x0 31)) <|
    ck ((m6 (m6 x0 26) x2) = 0 ∨ (m6 (m6 x0 26) x2) = 1) <|
    vm (ms m6 (m6 x0 31) (w32 (x1 + x3)) (m6 (m6 x0 26) x2)) fun m12 =>
    vv (w32 (x3 + 1)) fun y13 =>
    some (0, (y13, m12))
def BX11_layRest_15 (g : Shp) (x0 x1 x2 : Int) (q : (Int × Mem)) : Option (Int × (Int × Mem)) := bX11_layRest_15 g x0 x1 x2 q.1 q.2
def bX11_layRest_54 (g : Shp) (x0 x1 x2 : Int) (m : Mem) : Option (Int × (Int × Int × Mem)) :=
  ck (gk g (m x0 25) = 20) <|
  ck ((0 : Int) ≤ x2 ∧ x2 < gl g (m x0 25)) <|
  vv (w32 (x1 + (m (m x0 25) x2))) fun y3 =>
  vv (w32 (x2 + (-1))) fun y4 =>
  some (0, (y3, y4, m))
def bX11_layRest_9 (g : Shp) (x0 x1 x2 : Int) (m : Mem) : Option (Int × (Int × Int × Mem)) :=
  if x2 < 0 then
    some (1, (x1, x2, m))
  else
    bdl (iter (BX11_layRest_15 g x0 x1 x2) 100000 (1, m)) fun cv2 sv3 =>
    bX11_layRest_54 g x0 x1 x2 sv3.2
def BX11_layRest_9 (g : Shp) (x0 : Int) (q : (Int × Int × Mem)) : Option (Int × (Int × Int × Mem)) := bX11_layRest_9 g x0 q.1 q.2.1 q.2.2
def bX11_layRest_69 (g : Shp) (x1 : Int) (m : Mem) : Option (Int × Mem) :=
  some (x1, m)
def bX11_layRest_0 (g : Shp) (x0 : Int) (m : Mem) : Option (Int × Mem) :=
  vv (w32 ((m x0 27) - 1)) fun y1 =>
  bdl (iter (BX11_layRest_9 g x0) 100000 (0, y1, m)) fun cv2 sv3 =>
  bX11_layRest_69 g sv3.1 sv3.2.2
def fX11_layRest (g : Shp) (x0 : Int) (m : Mem) : Option (Int × Mem) := bX11_layRest_0 g x0 m
def bX11_findWay_149 (g : Shp) (x0 x3 x4 x5 x6 : Int) (m : Mem) : Option (Int × (Int × Mem)) :=
  vv (w32 (x6 + 1)) fun y1 =>
  some (0, (y1, m))
def bX11_findWay_106 (g : Shp) (x0 x3 x4 x5 x6 z0 : Int) (m : Mem) : Option (Int × (Int × Mem)) :=
  vv (w32 ((w32 ((jdiv x5 2) * 343)) + x6)) fun y1 =>
  if (jrem x5 2) = 0 then
    ck (gk g (m x0 28) = 20) <|
    ck ((0 : Int) ≤ y1 ∧ y1 < gl g (m x0 28)) <|
    vm (ms m (m x0 28) y1 z0) fun m5 =>
    bX11_findWay_149 g x0 x3 x4 x5 x6 m5
  else
    ck (gk g (m x0 29) = 20) <|
    ck ((0 : Int) ≤ y1 ∧ y1 < gl g (m x0 29)) <|
    vm (ms m (m x0 29) y1 z0) fun m8 =>
    bX11_findWay_149 g x0 x3 x4 x5 x6 m8
def bX11_findWay_29 (g : Shp) (x0 x3 x4 x5 x6 : Int) (m : Mem) : Option (Int × (Int × Mem)) :=
  if 343 ≤ x6 then
    some (1, (x6, m))
  else
    ck (gk g (m x0 0) = 20) <|
    ck ((0 : Int) ≤ x4 ∧ x4 < gl g (m x0 0)) <|
    if (m (m x0 0) x4) < (jdiv x6 49) then
      bX11_findWay_149 g x0 x3 x4 x5 x6 m
    else
      ck ((0 : Int) ≤ (w32 (x4 + 1)) ∧ (w32 (x4 + 1)) < gl g (m x0 0)) <|
      if (m (m x0 0) (w32 (x4 + 1))) < (jrem (jdiv x6 7) 7) then
        bX11_findWay_149 g x0 x3 x4 x5 x6 m
      else
        ck ((0 : Int) ≤ (w32 (x4 + 2)) ∧ (w32 (x4 + 2)) < gl g (m x0 0)) <|
        if (m (m x0 0) (w32 (x4 + 2))) < (jrem x6 7) then
          bX11_findWay_149 g x0 x3 x4 x5 x6 m
        else
          if x5 = 0 then
            bX11_findWay_106 g x0 x3 x4 x5 x6 0 m
          else
            bd2 (fX11_leastAt g x0 x5 x6 m) fun v10 m11 =>
            bX11_findWay_106 g x0 x3 x4 x5 x6 v10 m11
def BX11_findWay_29 (g : Shp) (x0 x3 x4 x5 : Int) (q : (Int × Mem)) : Option (Int × (Int × Mem)) := bX11_findWay_29 g x0 x3 x4 x5 q.1 q.2
def bX11_findWay_155 (g : Shp) (x0 x3 x4 x5 : Int) (m : Mem) : Option (Int × (Int × Mem)) :=
  vv (w32 (x5 + 1)) fun y1 =>
  some (0, (y1, m))
def bX11_findWay_20 (g : Shp) (x0 x3 x4 x5 : Int) (m : Mem) : Option (Int × (Int × Mem)) :=
  if x3 < x5 then
    some (1, (x5, m))
  else
    bdl (iter (BX11_findWay_29 g x0 x3 x4 x5) 100000 (0, m)) fun cv2 sv3 =>
    bX11_findWay_155 g x0 x3 x4 x5 sv3.2
def BX11_findWay_20 (g : Shp) (x0 x3 x4 : Int) (q : (Int × Mem)) : Option (Int × (Int × Mem)) := bX11_findWay_20 g x0 x3 x4 q.1 q.2
def bX11_findWay_336 (g : Shp) (x0 x5 x8 x9 z0 z1 z2 : Int) (m : Mem) : Option (Int × (Int × Int × Int × Mem)) :=
  vv (w32 (z0 - (w32 (z1 + z2)))) fun y1 =>
  bd2 (fX11_oneOf g (jrem x9 4) m) fun v2 m3 =>
  vv (w32 (x5 - v2)) fun y6 =>
  vv (w32 (x8 + 1)) fun y7 =>
  some (0, (y6, y1, y7, m3))
def bX11_findWay_238 (g : Shp) (x0 x5 x7 x8 : Int) (m : Mem) : Option (Int × (Int × Int × Int × Mem)) :=
  if (m x0 35) ≤ x8 then
    some (1, (x5, x7, x8, m))
  else
    bd2 (fX11_costAt g x0 x7 x5 m) fun v2 m3 =>
    bd2 (fX11_firstStone g x0 x7 x5 v2 m3) fun v6 m7 =>
    vv (jdiv v6 4) fun y10 =>
    ck (gk g (m7 x0 32) = 20) <|
    ck ((0 : Int) ≤ x8 ∧ x8 < gl g (m7 x0 32)) <|
    vm (ms m7 (m7 x0 32) x8 y10) fun m13 =>
    ck (gk g (m13 x0 33) = 20) <|
    ck ((0 : Int) ≤ x8 ∧ x8 < gl g (m13 x0 33)) <|
    vm (ms m13 (m13 x0 33) x8 (jrem v6 4)) fun m16 =>
    ck (gk g (m16 x0 34) = 21) <|
    bd2 (fX11_isCutAslant g x0 x7 y10 (jrem v6 4) m16) fun v18 m19 =>
    ck ((0 : Int) ≤ x8 ∧ x8 < gl g (m16 x0 34)) <|
    vm (ms m19 (m16 x0 34) x8 v18) fun m23 =>
    ck (gk g (m23 x0 30) = 20) <|
    ck ((0 : Int) ≤ x7 ∧ x7 < gl g (m23 x0 30)) <|
    if (m23 (m23 x0 30) x7) ≤ y10 then
      bX11_findWay_336 g x0 x5 x8 v6 x7 y10 0 m23
    else
      ck (gk g (m23 x0 0) = 20) <|
      ck ((0 : Int) ≤ 0 ∧ 0 < gl g (m23 x0 0)) <|
      bX11_findWay_336 g x0 x5 x8 v6 x7 y10 (m23 (m23 x0 0) 0) m23
def BX11_findWay_238 (g : Shp) (x0 : Int) (q : (Int × Int × Int × Mem)) : Option (Int × (Int × Int × Int × Mem)) := bX11_findWay_238 g x0 q.1 q.2.1 q.2.2.1 q.2.2.2
def bX11_findWay_358 (g : Shp) (m : Mem) : Option (Int × Mem) :=
  some (1, m)
def bX11_findWay_161 (g : Shp) (x0 x3 x4 : Int) (m : Mem) : Option (Int × Mem) :=
  ck (gk g (m x0 0) = 20) <|
  ck ((0 : Int) ≤ x4 ∧ x4 < gl g (m x0 0)) <|
  ck ((0 : Int) ≤ (w32 (x4 + 1)) ∧ (w32 (x4 + 1)) < gl g (m x0 0)) <|
  ck ((0 : Int) ≤ (w32 (x4 + 2)) ∧ (w32 (x4 + 2)) < gl g (m x0 0)) <|
  vv (w32 ((w32 ((w32 (49 * (m (m x0 0) x4))) + (w32 (7 * (m (m x0 0) (w32 (x4 + 1))))))) + (m (m x0 0) (w32 (x4 + 2))))) fun y5 =>
  bd2 (fX11_costAt g x0 x3 y5 m) fun v6 m7 =>
  if v6 = 1000000 then
    some (0, m7)
  else
    vm (ms m7 x0 36 (jdiv v6 32)) fun m11 =>
    vm (ms m11 x0 35 (jrem v6 32)) fun m12 =>
    bdl (iter (BX11_findWay_238 g x0) 100000 (y5, x3, 0, m12)) fun cv13 sv14 =>
    bX11_findWay_358 g sv14.2.2.2
def bX11_findWay_0 (g : Shp) (x0 x1 x2 : Int) (m : Mem) : Option (Int × Mem) :=
  bd2 (fX11_findPieces g x0 x1 m) fun v1 m2 =>
  bd2 (fX11_layRest g x0 m2) fun v4 m5 =>
  vv (w32 (1 + (w32 (3 * x2)))) fun y8 =>
  bdl (iter (BX11_findWay_20 g x0 v4 y8) 100000 (0, m5)) fun cv9 sv10 =>
  bX11_findWay_161 g x0 v4 y8 sv10.2
def fX11_findWay (g : Shp) (x0 x1 x2 : Int) (m : Mem) : Option (Int × Mem) := bX11_findWay_0 g x0 x1 x2 m
set_option maxRecDepth 20000 in
theorem wX11_findPieces_98 {p : Program} {l : Launch} {e : Env} {s : State} {mt : MethodId} {args : Array Value} {below : List Frame} {meth : Method} {c : Code} {Q : State → Prop} {G : Gl} {A : Nat → Prop} {H0 : Heap} {ad : Int → Nat} {g : Shp} {H : Heap} {locs : List Loc} {ls : Array Slot} {m : Mem} {x0 x1 x2 x3 x5 z0 : Int} (C : CallFix p mt c cX11_findPieces 7 s args tb RX11) (S : Wd G A s H0 ad g m H locs) (hx0 : gk g x0 = 12) (hx1 : r32 x1) (hx2 : r32 x2) (hx3 : r32 x3) (hx5 : r32 x5) (hz0 : r32 z0) (hl : lv_has ls 7 [(0, .ref (ad x0)), (1, .int (iI x1)), (2, .int (iI x2)), (3, .int (iI x3)), (5, .int (iI x5))]) {c1 : Int} {s1 : (Int × Int × Mem)} (hF : bX11_findPieces_98 g x0 x1 x2 x3 x5 z0 m = some (c1, s1)) (K0 : c1 = 0 → ∀ (H : Heap) (locs : List Loc) (ls : Array Slot), r32 s1.1 → r32 s1.2.1 → Wd G A s H0 ad g s1.2.2 H locs → lv_has ls 7 [(0, .ref (ad x0)), (1, .int (iI x1)), (2, .int (iI s1.1)), (3, .int (iI x3)), (4, .int (iI s1.2.1)), (5, .int (iI x5))] → W p l e rX11_findPieces s mt args below meth c H locs 0 0 Q (F0 mt 36 ls [])) (K1 : c1 = 1 → ∀ (H : Heap) (locs : List Loc) (ls : Array Slot), r32 s1.1 → r32 s1.2.1 → Wd G A s H0 ad g s1.2.2 H locs → lv_has ls 7 [(0, .ref (ad x0)), (1, .int (iI x1)), (2, .int (iI s1.1)), (3, .int (iI x3)), (4, .int (iI s1.2.1))] → W p l e rX11_findPieces s mt args below meth c H locs 0 0 Q (F0 mt 106 ls [])) : W p l e rX11_findPieces s mt args below meth c H locs 0 0 Q (F0 mt 98 ls [.int (iI z0)]) := by
  unfold bX11_findPieces_98 at hF
  refine q_istore C hl [(4, .int (iI z0)), (0, .ref (ad x0)), (1, .int (iI x1)), (2, .int (iI x2)), (3, .int (iI x3)), (5, .int (iI x5))] rfl (by decide) rfl dX11_findPieces_98 (fun ls hl => ?_)
  obtain ⟨y1, ey1, hF⟩ := vv_ok hF
  have ry1 : r32 y1 := ey1 ▸ r32_w _
  refine q_iinc C hl 3 [(2, .int (iI y1)), (4, .int (iI z0)), (0, .ref (ad x0)), (1, .int (iI x1)), (3, .int (iI x3)), (5, .int (iI x5))] rfl ey1 (by decide) rfl dX11_findPieces_100 (fun ls hl => ?_)
  refine q_goto C 36 dX11_findPieces_103 (by decide) ?_
  cases hF
  exact K0 rfl _ _ _ ry1 hz0 S (lv_sub hl [2, 3, 0, 4, 1, 5] rfl)
set_option maxRecDepth 20000 in
theorem wX11_findPieces_85 {p : Program} {l : Launch} {e : Env} {s : State} {mt : MethodId} {args : Array Value} {below : List Frame} {meth : Method} {c : Code} {Q : State → Prop} {G : Gl} {A : Nat → Prop} {H0 : Heap} {ad : Int → Nat} {g : Shp} {H : Heap} {locs : List Loc} {ls : Array Slot} {m : Mem} {x0 x1 x2 x3 x4 x5 x6 : Int} (C : CallFix p mt c cX11_findPieces 7 s args tb RX11) (S : Wd G A s H0 ad g m H locs) (hx0 : gk g x0 = 12) (hx1 : r32 x1) (hx2 : r32 x2) (hx3 : r32 x3) (hx4 : r32 x4) (hx5 : r32 x5) (hx6 : r32 x6) (hl : lv_has ls 7 [(0, .ref (ad x0)), (1, .int (iI x1)), (2, .int (iI x2)), (3, .int (iI x3)), (4, .int (iI x4)), (5, .int (iI x5)), (6, .int (iI x6))]) {c1 : Int} {s1 : (Int × Int × Mem)} (hF : bX11_findPieces_85 g x0 x1 x2 x3 x4 x5 x6 m = some (c1, s1)) (K0 : c1 = 0 → ∀ (H : Heap) (locs : List Loc) (ls : Array Slot), r32 s1.1 → r32 s1.2.1 → Wd G A s H0 ad g s1.2.2 H locs → lv_has ls 7 [(0, .ref (ad x0)), (1, .int (iI x1)), (2, .int (iI s1.1)), (3, .int (iI x3)), (4, .int (iI s1.2.1)), (5, .int (iI x5))] → W p l e rX11_findPieces s mt args below meth c H locs 0 0 Q (F0 mt 36 ls [])) (K1 : c1 = 1 → ∀ (H : Heap) (locs : List Loc) (ls : Array Slot), r32 s1.1 → r32 s1.2.1 → Wd G A s H0 ad g s1.2.2 H locs → lv_has ls 7 [(0, .ref (ad x0)), (1, .int (iI x1)), (2, .int (iI s1.1)), (3, .int (iI x3)), (4, .int (iI s1.2.1))] → W p l e rX11_findPieces s mt args below meth c H locs 0 0 Q (F0 mt 106 ls [])) : W p l e rX11_findPieces s mt args below meth c H locs 0 0 Q (F0 mt 85 ls []) := by
  unfold bX11_findPieces_85 at hF
  refine q_iload C hl 6 rfl dX11_findPieces_85 ?_
  refine q_if_eq C hx6 97 dX11_findPieces_87 (by decide) (fun hc1 => ?_) (fun hc1 => ?_)
  · have hF := if_t hc1 hF
    refine q_iconst C 0 dX11_findPieces_97 ?_
    exact wX11_findPieces_98 C S hx0 hx1 hx2 hx3 hx5 (rl 0 rfl) (lv_sub hl [0, 1, 2, 3, 5] rfl) hF K0 K1
  · have hF := if_f hc1 hF
    refine q_iload C hl 4 rfl dX11_findPieces_90 ?_
    refine q_iconst C 1 dX11_findPieces_92 ?_
    refine q_iadd C dX11_findPieces_93 ?_
    refine q_goto C 98 dX11_findPieces_94 (by decide) ?_
    exact wX11_findPieces_98 C S hx0 hx1 hx2 hx3 hx5 (r32_w _) (lv_sub hl [0, 1, 2, 3, 5] rfl) hF K0 K1
set_option maxRecDepth 20000 in
theorem wX11_findPieces_71 {p : Program} {l : Launch} {e : Env} {s : State} {mt : MethodId} {args : Array Value} {below : List Frame} {meth : Method} {c : Code} {Q : State → Prop} {G : Gl} {A : Nat → Prop} {H0 : Heap} {ad : Int → Nat} {g : Shp} {H : Heap} {locs : List Loc} {ls : Array Slot} {m : Mem} {x0 x1 x2 x3 x4 x5 z0 : Int} (C : CallFix p mt c cX11_findPieces 7 s args tb RX11) (S : Wd G A s H0 ad g m H locs) (hx0 : gk g x0 = 12) (hx1 : r32 x1) (hx2 : r32 x2) (hx3 : r32 x3) (hx4 : r32 x4) (hx5 : r32 x5) (hz0 : r32 z0) (hl : lv_has ls 7 [(0, .ref (ad x0)), (1, .int (iI x1)), (2, .int (iI x2)), (3, .int (iI x3)), (4, .int (iI x4)), (5, .int (iI x5))]) {c1 : Int} {s1 : (Int × Int × Mem)} (hF : bX11_findPieces_71 g x0 x1 x2 x3 x4 x5 z0 m = some (c1, s1)) (K0 : c1 = 0 → ∀ (H : Heap) (locs : List Loc) (ls : Array Slot), r32 s1.1 → r32 s1.2.1 → Wd G A s H0 ad g s1.2.2 H locs → lv_has ls 7 [(0, .ref (ad x0)), (1, .int (iI x1)), (2, .int (iI s1.1)), (3, .int (iI x3)), (4, .int (iI s1.2.1)), (5, .int (iI x5))] → W p l e rX11_findPieces s mt args below meth c H locs 0 0 Q (F0 mt 36 ls [])) (K1 : c1 = 1 → ∀ (H : Heap) (locs : List Loc) (ls : Array Slot), r32 s1.1 → r32 s1.2.1 → Wd G A s H0 ad g s1.2.2 H locs → lv_has ls 7 [(0, .ref (ad x0)), (1, .int (iI x1)), (2, .int (iI s1.1)), (3, .int (iI x3)), (4, .int (iI s1.2.1))] → W p l e rX11_findPieces s mt args below meth c H locs 0 0 Q (F0 mt 106 ls [])) : W p l e rX11_findPieces s mt args below meth c H locs 0 0 Q (F0 mt 71 ls [.int (iI z0)]) := by
  unfold bX11_findPieces_71 at hF
  refine q_istore C hl [(6, .int (iI z0)), (0, .ref (ad x0)), (1, .int (iI x1)), (2, .int (iI x2)), (3, .int (iI x3)), (4, .int (iI x4)), (5, .int (iI x5))] rfl (by decide) rfl dX11_findPieces_71 (fun ls hl => ?_)
  refine q_iload C hl 0 rfl dX11_findPieces_73 ?_
  refine q_if_ne C hz0 85 dX11_findPieces_75 (by decide) (fun hc1 => ?_) (fun hc1 => ?_)
  · have hF := if_t hc1 hF
    refine q_aload_n C hl 1 rfl rfl dX11_findPieces_78 ?_
    refine q_iload C hl 5 rfl dX11_findPieces_79 ?_
    refine q_iconst C 0 dX11_findPieces_81 ?_
    obtain ⟨v2, m3, h4, hF⟩ := bd2_ok hF
    refine q_cv S (run_V (As := [.int (iI x4), .int (iI 0)]) (rest := []) C S (cX11_endPiece_ok l G hx0 hx4 (rl 0 rfl) h4 ad _) hx0 ⟨by decide, _, _, rfl⟩ gd_RX11_186 hdV_X11_endPiece rfl ⟨rfl, rfl, by decide, by decide⟩ ⟨Nat.zero_le _, Nat.zero_le _⟩ hl.1 rfl (Nat.le_of_ble_eq_true rfl) dX11_findPieces_82) (fun H locs Sm3 => ?_)
    exact wX11_findPieces_85 C Sm3 hx0 hx1 hx2 hx3 hx4 hx5 hz0 (lv_sub hl [1, 2, 3, 4, 5, 6, 0] rfl) hF K0 K1
  · have hF := if_f hc1 hF
    exact wX11_findPieces_85 C S hx0 hx1 hx2 hx3 hx4 hx5 hz0 (lv_sub hl [1, 2, 3, 4, 5, 6, 0] rfl) hF K0 K1
set_option maxRecDepth 20000 in
theorem wX11_findPieces_36 {p : Program} {l : Launch} {e : Env} {s : State} {mt : MethodId} {args : Array Value} {below : List Frame} {meth : Method} {c : Code} {Q : State → Prop} {G : Gl} {A : Nat → Prop} {H0 : Heap} {ad : Int → Nat} {g : Shp} {H : Heap} {locs : List Loc} {ls : Array Slot} {m : Mem} {x0 x1 x2 x3 x4 x5 : Int} (C : CallFix p mt c cX11_findPieces 7 s args tb RX11) (S : Wd G A s H0 ad g m H locs) (hx0 : gk g x0 = 12) (hx1 : r32 x1) (hx2 : r32 x2) (hx3 : r32 x3) (hx4 : r32 x4) (hx5 : r32 x5) (hl : lv_has ls 7 [(0, .ref (ad x0)), (1, .int (iI x1)), (2, .int (iI x2)), (3, .int (iI x3)), (4, .int (iI x4)), (5, .int (iI x5))]) {c1 : Int} {s1 : (Int × Int × Mem)} (hF : bX11_findPieces_36 g x0 x1 x2 x3 x4 x5 m = some (c1, s1)) (K0 : c1 = 0 → ∀ (H : Heap) (locs : List Loc) (ls : Array Slot), r32 s1.1 → r32 s1.2.1 → Wd G A s H0 ad g s1.2.2 H locs → lv_has ls 7 [(0, .ref (ad x0)), (1, .int (iI x1)), (2, .int (iI s1.1)), (3, .int (iI x3)), (4, .int (iI s1.2.1)), (5, .int (iI x5))] → W p l e rX11_findPieces s mt args below meth c H locs 0 0 Q (F0 mt 36 ls [])) (K1 : c1 = 1 → ∀ (H : Heap) (locs : List Loc) (ls : Array Slot), r32 s1.1 → r32 s1.2.1 → Wd G A s H0 ad g s1.2.2 H locs → lv_has ls 7 [(0, .ref (ad x0)), (1, .int (iI x1)), (2, .int (iI s1.1)), (3, .int (iI x3)), (4, .int (iI s1.2.1))] → W p l e rX11_findPieces s mt args below meth c H locs 0 0 Q (F0 mt 106 ls [])) : W p l e rX11_findPieces s mt args below meth c H locs 0 0 Q (F0 mt 36 ls []) := by
  unfold bX11_findPieces_36 at hF
  refine q_iload_n C hl 2 rfl rfl dX11_findPieces_36 ?_
  refine q_iload C hl 5 rfl dX11_findPieces_37 ?_
  refine q_icmp_ge C hx2 hx5 106 dX11_findPieces_39 (by decide) (fun hc1 => ?_) (fun hc1 => ?_)
  · have hF := if_t hc1 hF
    cases hF
    exact K1 rfl _ _ _ hx2 hx4 S (lv_sub hl [0, 1, 2, 3, 4] rfl)
  · have hF := if_f hc1 hF
    refine q_aload_n C hl 0 rfl rfl dX11_findPieces_42 ?_
    obtain ⟨k2, hF⟩ := ck_ok hF
    refine q_getr C S 0 fo_RX11_7 (j := 0) rfl rfl hx0 k2 (by decide) dX11_findPieces_43 ?_
    refine q_bipush C 33 (by decide) dX11_findPieces_46 ?_
    refine q_aload_n C hl 0 rfl rfl dX11_findPieces_48 ?_
    obtain ⟨k3, hF⟩ := ck_ok hF
    refine q_getr C S 24 fo_RX11_52 (j := 24) rfl rfl hx0 k3 (by decide) dX11_findPieces_49 ?_
    refine q_bipush C 60 (by decide) dX11_findPieces_52 ?_
    refine q_iload_n C hl 1 rfl rfl dX11_findPieces_54 ?_
    refine q_imul C dX11_findPieces_55 ?_
    refine q_iload_n C hl 2 rfl rfl dX11_findPieces_56 ?_
    refine q_iadd C dX11_findPieces_57 ?_
    obtain ⟨i4, hF⟩ := ck_ok hF
    refine q_iald C S k3 i4 dX11_findPieces_58 ?_
    refine q_iadd C dX11_findPieces_59 ?_
    obtain ⟨i5, hF⟩ := ck_ok hF
    refine q_iald C S k2 i5 dX11_findPieces_60 ?_
    refine q_bipush C (-4) (by decide) dX11_findPieces_61 ?_
    refine q_icmp_ne C (S.r _ _) (rl (-4) rfl) 70 dX11_findPieces_63 (by decide) (fun hc6 => ?_) (fun hc6 => ?_)
    · have hF := if_t hc6 hF
      refine q_iconst C 1 dX11_findPieces_66 ?_
      refine q_goto C 71 dX11_findPieces_67 (by decide) ?_
      exact wX11_findPieces_71 C S hx0 hx1 hx2 hx3 hx4 hx5 (rl 1 rfl) (lv_sub hl [0, 1, 2, 3, 4, 5] rfl) hF K0 K1
    · have hF := if_f hc6 hF
      refine q_iconst C 0 dX11_findPieces_70 ?_
      exact wX11_findPieces_71 C S hx0 hx1 hx2 hx3 hx4 hx5 (rl 0 rfl) (lv_sub hl [0, 1, 2, 3, 4, 5] rfl) hF K0 K1
set_option maxRecDepth 20000 in
theorem lX11_findPieces_36 {p : Program} {l : Launch} {e : Env} {s : State} {mt : MethodId} {args : Array Value} {below : List Frame} {meth : Method} {c : Code} {Q : State → Prop} {G : Gl} {A : Nat → Prop} {H0 : Heap} {ad : Int → Nat} {g : Shp} {x0 x1 x3 x5 : Int} (C : CallFix p mt c cX11_findPieces 7 s args tb RX11) (hx0 : gk g x0 = 12) (hx1 : r32 x1) (hx3 : r32 x3) (hx5 : r32 x5) {n : Nat} {s0 s1 : (Int × Int × Mem)} {c1 : Int} (hI : iter (BX11_findPieces_36 g x0 x1 x3 x5) n s0 = some (c1, s1)) (K1 : c1 = 1 → ∀ (H : Heap) (locs : List Loc) (ls : Array Slot), r32 s1.1 → r32 s1.2.1 → Wd G A s H0 ad g s1.2.2 H locs → lv_has ls 7 [(0, .ref (ad x0)), (1, .int (iI x1)), (2, .int (iI s1.1)), (3, .int (iI x3)), (4, .int (iI s1.2.1))] → W p l e rX11_findPieces s mt args below meth c H locs 0 0 Q (F0 mt 106 ls [])) : ∀ (H : Heap) (locs : List Loc) (ls : Array Slot), r32 s0.1 → r32 s0.2.1 → Wd G A s H0 ad g s0.2.2 H locs → lv_has ls 7 [(0, .ref (ad x0)), (1, .int (iI x1)), (2, .int (iI s0.1)), (3, .int (iI x3)), (4, .int (iI s0.2.1)), (5, .int (iI x5))] → W p l e rX11_findPieces s mt args below meth c H locs 0 0 Q (F0 mt 36 ls []) :=
  iter_W (Pw := fun q => ∀ (H : Heap) (locs : List Loc) (ls : Array Slot), r32 q.1 → r32 q.2.1 → Wd G A s H0 ad g q.2.2 H locs → lv_has ls 7 [(0, .ref (ad x0)), (1, .int (iI x1)), (2, .int (iI q.1)), (3, .int (iI x3)), (4, .int (iI q.2.1)), (5, .int (iI x5))] → W p l e rX11_findPieces s mt args below meth c H locs 0 0 Q (F0 mt 36 ls [])) (Px := fun c0 q => (c0 = 1 → ∀ (H : Heap) (locs : List Loc) (ls : Array Slot), r32 q.1 → r32 q.2.1 → Wd G A s H0 ad g q.2.2 H locs → lv_has ls 7 [(0, .ref (ad x0)), (1, .int (iI x1)), (2, .int (iI q.1)), (3, .int (iI x3)), (4, .int (iI q.2.1))] → W p l e rX11_findPieces s mt args below meth c H locs 0 0 Q (F0 mt 106 ls [])))
    (fun s c s' hB K0 kx H locs ls f0 f1 S hl => wX11_findPieces_36 C S hx0 hx1 f0 hx3 f1 hx5 hl hB K0 (fun h9 => (kx (by rw [h9]; decide)) h9)) _ _ _ _ hI K1
set_option maxRecDepth 20000 in
theorem wX11_findPieces_126 {p : Program} {l : Launch} {e : Env} {s : State} {mt : MethodId} {args : Array Value} {below : List Frame} {meth : Method} {c : Code} {Q : State → Prop} {G : Gl} {A : Nat → Prop} {H0 : Heap} {ad : Int → Nat} {g : Shp} {H : Heap} {locs : List Loc} {ls : Array Slot} {m : Mem} {x0 x1 x2 x3 z0 z1 z2 : Int} (C : CallFix p mt c cX11_findPieces 7 s args tb RX11) (S : Wd G A s H0 ad g m H locs) (hx0 : gk g x0 = 12) (hx1 : r32 x1) (hx2 : r32 x2) (hx3 : r32 x3) (hz0 : gk g z0 = 12) (hz1 : r32 z1) (hz2 : r32 z2) (hl : lv_has ls 7 [(0, .ref (ad x0)), (1, .int (iI x1)), (2, .int (iI x2)), (3, .int (iI x3))]) {c1 : Int} {s1 : (Int × Int × Mem)} (hF : bX11_findPieces_126 g x0 x1 x2 x3 z0 z1 z2 m = some (c1, s1)) (K0 : c1 = 0 → ∀ (H : Heap) (locs : List Loc) (ls : Array Slot), r32 s1.1 → r32 s1.2.1 → Wd G A s H0 ad g s1.2.2 H locs → lv_has ls 7 [(0, .ref (ad x0)), (1, .int (iI x1)), (2, .int (iI s1.1)), (3, .int (iI s1.2.1))] → W p l e rX11_findPieces s mt args below meth c H locs 0 0 Q (F0 mt 9 ls [])) (K1 : c1 = 1 → ∀ (H : Heap) (locs : List Loc) (ls : Array Slot), Wd G A s H0 ad g s1.2.2 H locs → lv_has ls 7 [] → W p l e rX11_findPieces s mt args below meth c H locs 0 0 Q (F0 mt 135 ls [])) : W p l e rX11_findPieces s mt args below meth c H locs 0 0 Q (F0 mt 126 ls [.int (iI z2), .int (iI z1), .ref (ad z0)]) := by
  unfold bX11_findPieces_126 at hF
  obtain ⟨v1, m2, h3, hF⟩ := bd2_ok hF
  refine q_cv S (run_V (As := [.int (iI z1), .int (iI z2)]) (rest := []) C S (cX11_endPiece_ok l G hz0 hz1 hz2 h3 ad _) hz0 ⟨by decide, _, _, rfl⟩ gd_RX11_186 hdV_X11_endPiece rfl ⟨rfl, rfl, by decide, by decide⟩ ⟨Nat.zero_le _, Nat.zero_le _⟩ hl.1 rfl (Nat.le_of_ble_eq_true rfl) dX11_findPieces_126) (fun H locs Sm2 => ?_)
  obtain ⟨y4, ey4, hF⟩ := vv_ok hF
  have ry4 : r32 y4 := ey4 ▸ r32_w _
  refine q_iinc C hl 3 [(3, .int (iI y4)), (0, .ref (ad x0)), (1, .int (iI x1)), (2, .int (iI x2))] rfl ey4 (by decide) rfl dX11_findPieces_129 (fun ls hl => ?_)
  refine q_goto C 9 dX11_findPieces_132 (by decide) ?_
  cases hF
  exact K0 rfl _ _ _ hx2 ry4 Sm2 (lv_sub hl [1, 2, 3, 0] rfl)
set_option maxRecDepth 20000 in
theorem wX11_findPieces_106 {p : Program} {l : Launch} {e : Env} {s : State} {mt : MethodId} {args : Array Value} {below : List Frame} {meth : Method} {c : Code} {Q : State → Prop} {G : Gl} {A : Nat → Prop} {H0 : Heap} {ad : Int → Nat} {g : Shp} {H : Heap} {locs : List Loc} {ls : Array Slot} {m : Mem} {x0 x1 x2 x3 x4 : Int} (C : CallFix p mt c cX11_findPieces 7 s args tb RX11) (S : Wd G A s H0 ad g m H locs) (hx0 : gk g x0 = 12) (hx1 : r32 x1) (hx2 : r32 x2) (hx3 : r32 x3) (hx4 : r32 x4) (hl : lv_has ls 7 [(0, .ref (ad x0)), (1, .int (iI x1)), (2, .int (iI x2)), (3, .int (iI x3)), (4, .int (iI x4))]) {c1 : Int} {s1 : (Int × Int × Mem)} (hF : bX11_findPieces_106 g x0 x1 x2 x3 x4 m = some (c1, s1)) (K0 : c1 = 0 → ∀ (H : Heap) (locs : List Loc) (ls : Array Slot), r32 s1.1 → r32 s1.2.1 → Wd G A s H0 ad g s1.2.2 H locs → lv_has ls 7 [(0, .ref (ad x0)), (1, .int (iI x1)), (2, .int (iI s1.1)), (3, .int (iI s1.2.1))] → W p l e rX11_findPieces s mt args below meth c H locs 0 0 Q (F0 mt 9 ls [])) (K1 : c1 = 1 → ∀ (H : Heap) (locs : List Loc) (ls : Array Slot), Wd G A s H0 ad g s1.2.2 H locs → lv_has ls 7 [] → W p l e rX11_findPieces s mt args below meth c H locs 0 0 Q (F0 mt 135 ls [])) : W p l e rX11_findPieces s mt args below meth c H locs 0 0 Q (F0 mt 106 ls []) := by
  unfold bX11_findPieces_106 at hF
  refine q_aload_n C hl 0 rfl rfl dX11_findPieces_106 ?_
  refine q_iload C hl 4 rfl dX11_findPieces_107 ?_
  refine q_iload_n C hl 3 rfl rfl dX11_findPieces_109 ?_
  refine q_iconst C 1 dX11_findPieces_110 ?_
  refine q_iadd C dX11_findPieces_111 ?_
  refine q_aload_n C hl 0 rfl rfl dX11_findPieces_112 ?_
  obtain ⟨k1, hF⟩ := ck_ok hF
  refine q_getr C S 21 fo_RX11_43 (j := 21) rfl rfl hx0 k1 (by decide) dX11_findPieces_113 ?_
  refine q_iload_n C hl 1 rfl rfl dX11_findPieces_116 ?_
  obtain ⟨i2, hF⟩ := ck_ok hF
  refine q_iald C S k1 i2 dX11_findPieces_117 ?_
  refine q_icmp_ge C (r32_w _) (S.r _ _) 125 dX11_findPieces_118 (by decide) (fun hc3 => ?_) (fun hc3 => ?_)
  · have hF := if_t hc3 hF
    refine q_iconst C 0 dX11_findPieces_125 ?_
    exact wX11_findPieces_126 C S hx0 hx1 hx2 hx3 hx0 hx4 (rl 0 rfl) (lv_sub hl [0, 1, 2, 3] rfl) hF K0 K1
  · have hF := if_f hc3 hF
    refine q_iconst C 1 dX11_findPieces_121 ?_
    refine q_goto C 126 dX11_findPieces_122 (by decide) ?_
    exact wX11_findPieces_126 C S hx0 hx1 hx2 hx3 hx0 hx4 (rl 1 rfl) (lv_sub hl [0, 1, 2, 3] rfl) hF K0 K1
set_option maxRecDepth 20000 in
theorem wX11_findPieces_9 {p : Program} {l : Launch} {e : Env} {s : State} {mt : MethodId} {args : Array Value} {below : List Frame} {meth : Method} {c : Code} {Q : State → Prop} {G : Gl} {A : Nat → Prop} {H0 : Heap} {ad : Int → Nat} {g : Shp} {H : Heap} {locs : List Loc} {ls : Array Slot} {m : Mem} {x0 x1 x2 x3 : Int} (C : CallFix p mt c cX11_findPieces 7 s args tb RX11) (S : Wd G A s H0 ad g m H locs) (hx0 : gk g x0 = 12) (hx1 : r32 x1) (hx2 : r32 x2) (hx3 : r32 x3) (hl : lv_has ls 7 [(0, .ref (ad x0)), (1, .int (iI x1)), (2, .int (iI x2)), (3, .int (iI x3))]) {c1 : Int} {s1 : (Int × Int × Mem)} (hF : bX11_findPieces_9 g x0 x1 x2 x3 m = some (c1, s1)) (K0 : c1 = 0 → ∀ (H : Heap) (locs : List Loc) (ls : Array Slot), r32 s1.1 → r32 s1.2.1 → Wd G A s H0 ad g s1.2.2 H locs → lv_has ls 7 [(0, .ref (ad x0)), (1, .int (iI x1)), (2, .int (iI s1.1)), (3, .int (iI s1.2.1))] → W p l e rX11_findPieces s mt args below meth c H locs 0 0 Q (F0 mt 9 ls [])) (K1 : c1 = 1 → ∀ (H : Heap) (locs : List Loc) (ls : Array Slot), Wd G A s H0 ad g s1.2.2 H locs → lv_has ls 7 [] → W p l e rX11_findPieces s mt args below meth c H locs 0 0 Q (F0 mt 135 ls [])) : W p l e rX11_findPieces s mt args below meth c H locs 0 0 Q (F0 mt 9 ls []) := by
  unfold bX11_findPieces_9 at hF
  refine q_iload_n C hl 3 rfl rfl dX11_findPieces_9 ?_
  refine q_aload_n C hl 0 rfl rfl dX11_findPieces_10 ?_
  obtain ⟨k1, hF⟩ := ck_ok hF
  refine q_getr C S 21 fo_RX11_43 (j := 21) rfl rfl hx0 k1 (by decide) dX11_findPieces_11 ?_
  refine q_iload_n C hl 1 rfl rfl dX11_findPieces_14 ?_
  obtain ⟨i2, hF⟩ := ck_ok hF
  refine q_iald C S k1 i2 dX11_findPieces_15 ?_
  refine q_icmp_ge C hx3 (S.r _ _) 135 dX11_findPieces_16 (by decide) (fun hc3 => ?_) (fun hc3 => ?_)
  · have hF := if_t hc3 hF
    cases hF
    exact K1 rfl _ _ _  S (lv_sub hl [] rfl)
  · have hF := if_f hc3 hF
    refine q_iconst C 0 dX11_findPieces_19 ?_
    refine q_istore C hl [(4, .int (iI 0)), (0, .ref (ad x0)), (1, .int (iI x1)), (2, .int (iI x2)), (3, .int (iI x3))] rfl (by decide) rfl dX11_findPieces_20 (fun ls hl => ?_)
    refine q_iload_n C hl 3 rfl rfl dX11_findPieces_22 ?_
    refine q_aload_n C hl 1 rfl rfl dX11_findPieces_23 ?_
    obtain ⟨k4, hF⟩ := ck_ok hF
    refine q_getr C S 22 fo_RX11_46 (j := 22) rfl rfl hx0 k4 (by decide) dX11_findPieces_24 ?_
    refine q_iconst C 5 dX11_findPieces_27 ?_
    refine q_iload_n C hl 2 rfl rfl dX11_findPieces_28 ?_
    refine q_imul C dX11_findPieces_29 ?_
    refine q_iload_n C hl 4 rfl rfl dX11_findPieces_30 ?_
    refine q_iadd C dX11_findPieces_31 ?_
    obtain ⟨i5, hF⟩ := ck_ok hF
    refine q_iald C S k4 i5 dX11_findPieces_32 ?_
    refine q_iadd C dX11_findPieces_33 ?_
    obtain ⟨y6, ey6, hF⟩ := vv_ok hF
    have ry6 : r32 y6 := ey6 ▸ (r32_w _)
    refine q_istore C hl [(5, .int (iI y6)), (4, .int (iI 0)), (0, .ref (ad x0)), (1, .int (iI x1)), (2, .int (iI x2)), (3, .int (iI x3))] ey6 (by decide) rfl dX11_findPieces_34 (fun ls hl => ?_)
    obtain ⟨cv7, sv8, hi9, hF⟩ := bdl_ok hF
    refine lX11_findPieces_36 C hx0 hx1 hx3 ry6 hi9 ?_ _ _ _ hx2 (rl 0 rfl) S (lv_sub hl [2, 3, 4, 5, 1, 0] rfl)
    intro _ H locs ls f11 f12 S10 hl
    exact wX11_findPieces_106 C S10 hx0 hx1 f11 hx3 f12 (lv_sub hl [0, 1, 2, 3, 4] rfl) hF K0 K1
set_option maxRecDepth 20000 in
theorem lX11_findPieces_9 {p : Program} {l : Launch} {e : Env} {s : State} {mt : MethodId} {args : Array Value} {below : List Frame} {meth : Method} {c : Code} {Q : State → Prop} {G : Gl} {A : Nat → Prop} {H0 : Heap} {ad : Int → Nat} {g : Shp} {x0 x1 : Int} (C : CallFix p mt c cX11_findPieces 7 s args tb RX11) (hx0 : gk g x0 = 12) (hx1 : r32 x1) {n : Nat} {s0 s1 : (Int × Int × Mem)} {c1 : Int} (hI : iter (BX11_findPieces_9 g x0 x1) n s0 = some (c1, s1)) (K1 : c1 = 1 → ∀ (H : Heap) (locs : List Loc) (ls : Array Slot), Wd G A s H0 ad g s1.2.2 H locs → lv_has ls 7 [] → W p l e rX11_findPieces s mt args below meth c H locs 0 0 Q (F0 mt 135 ls [])) : ∀ (H : Heap) (locs : List Loc) (ls : Array Slot), r32 s0.1 → r32 s0.2.1 → Wd G A s H0 ad g s0.2.2 H locs → lv_has ls 7 [(0, .ref (ad x0)), (1, .int (iI x1)), (2, .int (iI s0.1)), (3, .int (iI s0.2.1))] → W p l e rX11_findPieces s mt args below meth c H locs 0 0 Q (F0 mt 9 ls []) :=
  iter_W (Pw := fun q => ∀ (H : Heap) (locs : List Loc) (ls : Array Slot), r32 q.1 → r32 q.2.1 → Wd G A s H0 ad g q.2.2 H locs → lv_has ls 7 [(0, .ref (ad x0)), (1, .int (iI x1)), (2, .int (iI q.1)), (3, .int (iI q.2.1))] → W p l e rX11_findPieces s mt args below meth c H locs 0 0 Q (F0 mt 9 ls [])) (Px := fun c0 q => (c0 = 1 → ∀ (H : Heap) (locs : List Loc) (ls : Array Slot), Wd G A s H0 ad g q.2.2 H locs → lv_has ls 7 [] → W p l e rX11_findPieces s mt args below meth c H locs 0 0 Q (F0 mt 135 ls [])))
    (fun s c s' hB K0 kx H locs ls f0 f1 S hl => wX11_findPieces_9 C S hx0 hx1 f0 f1 hl hB K0 (fun h9 => (kx (by rw [h9]; decide)) h9)) _ _ _ _ hI K1
set_option maxRecDepth 20000 in
theorem wX11_findPieces_135 {p : Program} {l : Launch} {e : Env} {s : State} {mt : MethodId} {args : Array Value} {below : List Frame} {meth : Method} {c : Code} {Q : State → Prop} {G : Gl} {A : Nat → Prop} {H0 : Heap} {ad : Int → Nat} {g : Shp} {H : Heap} {locs : List Loc} {ls : Array Slot} {m : Mem} (C : CallFix p mt c cX11_findPieces 7 s args tb RX11) (S : Wd G A s H0 ad g m H locs)  (hl : lv_has ls 7 []) {r : Int} {m' : Mem} (hF : bX11_findPieces_135 g m = some (r, m')) (Kr : ∀ (H : Heap) (locs : List Loc) (pc : Nat) (ls : Array Slot), Wd G A s H0 ad g m' H locs → decode cX11_findPieces pc = .ok (.return_, 1) → W p l e rX11_findPieces s mt args below meth c H locs 0 0 Q (F0 mt pc ls [])) : W p l e rX11_findPieces s mt args below meth c H locs 0 0 Q (F0 mt 135 ls []) := by
  unfold bX11_findPieces_135 at hF
  cases hF
  exact Kr _ _ _ _ S dX11_findPieces_135
set_option maxRecDepth 20000 in
theorem wX11_findPieces_0 {p : Program} {l : Launch} {e : Env} {s : State} {mt : MethodId} {args : Array Value} {below : List Frame} {meth : Method} {c : Code} {Q : State → Prop} {G : Gl} {A : Nat → Prop} {H0 : Heap} {ad : Int → Nat} {g : Shp} {H : Heap} {locs : List Loc} {ls : Array Slot} {m : Mem} {x0 x1 : Int} (C : CallFix p mt c cX11_findPieces 7 s args tb RX11) (S : Wd G A s H0 ad g m H locs) (hx0 : gk g x0 = 12) (hx1 : r32 x1) (hl : lv_has ls 7 [(0, .ref (ad x0)), (1, .int (iI x1))]) {r : Int} {m' : Mem} (hF : bX11_findPieces_0 g x0 x1 m = some (r, m')) (Kr : ∀ (H : Heap) (locs : List Loc) (pc : Nat) (ls : Array Slot), Wd G A s H0 ad g m' H locs → decode cX11_findPieces pc = .ok (.return_, 1) → W p l e rX11_findPieces s mt args below meth c H locs 0 0 Q (F0 mt pc ls [])) : W p l e rX11_findPieces s mt args below meth c H locs 0 0 Q (F0 mt 0 ls []) := by
  unfold bX11_findPieces_0 at hF
  refine q_aload_n C hl 0 rfl rfl dX11_findPieces_0 ?_
  refine q_iconst C 0 dX11_findPieces_1 ?_
  obtain ⟨m1, em1, hF⟩ := vm_ok hF
  refine q_put C S 27 fo_RX11_183 fp_12_27 (fun h9 => absurd h9 (by decide)) (j := 27) rfl hx0 rfl rfl rfl (rl 0 rfl) (fun h9 => absurd h9 (by decide)) em1 dX11_findPieces_2 (fun H locs Sm1 => ?_)
  refine q_iconst C 0 dX11_findPieces_5 ?_
  refine q_istore_n C hl [(2, .int (iI 0)), (0, .ref (ad x0)), (1, .int (iI x1))] rfl rfl (by decide) rfl dX11_findPieces_6 (fun ls hl => ?_)
  refine q_iconst C 0 dX11_findPieces_7 ?_
  refine q_istore_n C hl [(3, .int (iI 0)), (2, .int (iI 0)), (0, .ref (ad x0)), (1, .int (iI x1))] rfl rfl (by decide) rfl dX11_findPieces_8 (fun ls hl => ?_)
  obtain ⟨cv2, sv3, hi4, hF⟩ := bdl_ok hF
  refine lX11_findPieces_9 C hx0 hx1 hi4 ?_ _ _ _ (rl 0 rfl) (rl 0 rfl) Sm1 (lv_sub hl [2, 3, 1, 0] rfl)
  intro _ H locs ls  S5 hl
  exact wX11_findPieces_135 C S5  (lv_sub hl [] rfl) hF Kr
theorem cX11_findPieces_ok (l : Launch) (G : Gl) {g : Shp} {x0 x1 : Int} {m m' : Mem} {r : Int} (hx0 : gk g x0 = 12) (hx1 : r32 x1) (hF : fX11_findPieces g x0 x1 m = some (r, m')) : mV l yX11_findPieces (wT yX11_findPieces cX11_findPieces 7 none) rX11_findPieces G (fun ad => [.ref (ad x0), .int (iI x1)]) g m m' :=
  met_v (by decide) (fun ad => Nat.le_of_ble_eq_true rfl) (fun p e s mt args below meth c Q A H0 H locs ad ls C hnm S hl Kr => wX11_findPieces_0 C S hx0 hx1 hl hF Kr)
set_option maxRecDepth 20000 in
theorem wX11_piece_13 {p : Program} {l : Launch} {e : Env} {s : State} {mt : MethodId} {args : Array Value} {below : List Frame} {meth : Method} {c : Code} {Q : State → Prop} {G : Gl} {A : Nat → Prop} {H0 : Heap} {ad : Int → Nat} {g : Shp} {H : Heap} {locs : List Loc} {ls : Array Slot} {m : Mem} (C : CallFix p mt c cX11_piece 3 s args tb RX11) (S : Wd G A s H0 ad g m H locs)  (hl : lv_has ls 3 []) {r : Int} {m' : Mem} (hF : bX11_piece_13 g m = some (r, m')) (Kr : ∀ (H : Heap) (locs : List Loc) (pc : Nat) (ls : Array Slot), Wd G A s H0 ad g m' H locs → decode cX11_piece pc = .ok (.ireturn, 1) → r32 r ∧ (false = true → r = 0 ∨ r = 1) → narrow .int (.int (iI r)) = .int (iI r) → W p l e rX11_piece s mt args below meth c H locs 0 0 Q (F0 mt pc ls [.int (iI r)])) : W p l e rX11_piece s mt args below meth c H locs 0 0 Q (F0 mt 13 ls []) := by
  unfold bX11_piece_13 at hF
  refine q_iconst C (-1) dX11_piece_13 ?_
  cases hF
  exact Kr _ _ _ _ S dX11_piece_14 ⟨(rl (-1) rfl), fun h9 => absurd h9 (by decide)⟩ rfl
set_option maxRecDepth 20000 in
theorem wX11_piece_62 {p : Program} {l : Launch} {e : Env} {s : State} {mt : MethodId} {args : Array Value} {below : List Frame} {meth : Method} {c : Code} {Q : State → Prop} {G : Gl} {A : Nat → Prop} {H0 : Heap} {ad : Int → Nat} {g : Shp} {H : Heap} {locs : List Loc} {ls : Array Slot} {m : Mem} {z0 : Int} (C : CallFix p mt c cX11_piece 3 s args tb RX11) (S : Wd G A s H0 ad g m H locs) (hz0 : r32 z0) (hl : lv_has ls 3 []) {r : Int} {m' : Mem} (hF : bX11_piece_62 g z0 m = some (r, m')) (Kr : ∀ (H : Heap) (locs : List Loc) (pc : Nat) (ls : Array Slot), Wd G A s H0 ad g m' H locs → decode cX11_piece pc = .ok (.ireturn, 1) → r32 r ∧ (false = true → r = 0 ∨ r = 1) → narrow .int (.int (iI r)) = .int (iI r) → W p l e rX11_piece s mt args below meth c H locs 0 0 Q (F0 mt pc ls [.int (iI r)])) : W p l e rX11_piece s mt args below meth c H locs 0 0 Q (F0 mt 62 ls [.int (iI z0)]) := by
  unfold bX11_piece_62 at hF
  cases hF
  exact Kr _ _ _ _ S dX11_piece_62 ⟨hz0, fun h9 => absurd h9 (by decide)⟩ rfl
set_option maxRecDepth 20000 in
theorem wX11_piece_0 {p : Program} {l : Launch} {e : Env} {s : State} {mt : MethodId} {args : Array Value} {below : List Frame} {meth : Method} {c : Code} {Q : State → Prop} {G : Gl} {A : Nat → Prop} {H0 : Heap} {ad : Int → Nat} {g : Shp} {H : Heap} {locs : List Loc} {ls : Array Slot} {m : Mem} {x0 x1 x2 : Int} (C : CallFix p mt c cX11_piece 3 s args tb RX11) (S : Wd G A s H0 ad g m H locs) (hx0 : gk g x0 = 12) (hx1 : r32 x1) (hx2 : r32 x2) (hl : lv_has ls 3 [(0, .ref (ad x0)), (1, .int (iI x1)), (2, .int (iI x2))]) {r : Int} {m' : Mem} (hF : bX11_piece_0 g x0 x1 x2 m = some (r, m')) (Kr : ∀ (H : Heap) (locs : List Loc) (pc : Nat) (ls : Array Slot), Wd G A s H0 ad g m' H locs → decode cX11_piece pc = .ok (.ireturn, 1) → r32 r ∧ (false = true → r = 0 ∨ r = 1) → narrow .int (.int (iI r)) = .int (iI r) → W p l e rX11_piece s mt args below meth c H locs 0 0 Q (F0 mt pc ls [.int (iI r)])) : W p l e rX11_piece s mt args below meth c H locs 0 0 Q (F0 mt 0 ls []) := by
  unfold bX11_piece_0 at hF
  refine q_aload_n C hl 0 rfl rfl dX11_piece_0 ?_
  refine q_iload_n C hl 1 rfl rfl dX11_piece_1 ?_
  obtain ⟨v1, m2, h3, hF⟩ := bd2_ok hF
  refine q_ci S (run_V (As := [.int (iI x1)]) (rest := []) C S (cX11_isLine_ok l G hx0 hx1 h3 ad _) hx0 ⟨by decide, _, _, rfl⟩ gd_RX11_176 hdV_X11_isLine rfl ⟨rfl, rfl, by decide, by decide⟩ ⟨Nat.zero_le _, Nat.zero_le _⟩ hl.1 rfl (Nat.le_of_ble_eq_true rfl) dX11_piece_2) (fun H locs Sm2 h4 => ?_)
  refine q_if_eq C h4.1 13 dX11_piece_5 (by decide) (fun hc5 => ?_) (fun hc5 => ?_)
  · have hF := if_t hc5 hF
    exact wX11_piece_13 C Sm2  (lv_sub hl [] rfl) hF Kr
  · have hF := if_f hc5 hF
    refine q_iload_n C hl 2 rfl rfl dX11_piece_8 ?_
    refine q_iconst C (-1) dX11_piece_9 ?_
    refine q_icmp_ge C hx2 (rl (-1) rfl) 15 dX11_piece_10 (by decide) (fun hc6 => ?_) (fun hc6 => ?_)
    · have hF := if_t hc6 hF
      refine q_aload_n C hl 0 rfl rfl dX11_piece_15 ?_
      refine q_iload_n C hl 1 rfl rfl dX11_piece_16 ?_
      obtain ⟨v7, m8, h9, hF⟩ := bd2_ok hF
      refine q_ci Sm2 (run_V (As := [.int (iI x1)]) (rest := []) C Sm2 (cX11_isCovered_ok l G hx0 hx1 h9 ad _) hx0 ⟨by decide, _, _, rfl⟩ gd_RX11_190 hdV_X11_isCovered rfl ⟨rfl, rfl, by decide, by decide⟩ ⟨Nat.zero_le _, Nat.zero_le _⟩ hl.1 rfl (Nat.le_of_ble_eq_true rfl) dX11_piece_17) (fun H locs Sm8 h10 => ?_)
      refine q_if_eq C h10.1 26 dX11_piece_20 (by decide) (fun hc11 => ?_) (fun hc11 => ?_)
      · have hF := if_t hc11 hF
        refine q_aload_n C hl 0 rfl rfl dX11_piece_26 ?_
        refine q_iload_n C hl 1 rfl rfl dX11_piece_27 ?_
        obtain ⟨v12, m13, h14, hF⟩ := bd2_ok hF
        refine q_cv Sm8 (run_V (As := [.int (iI x1)]) (rest := []) C Sm8 (cX11_findPieces_ok l G hx0 hx1 h14 ad _) hx0 ⟨by decide, _, _, rfl⟩ gd_RX11_193 hdV_X11_findPieces rfl ⟨rfl, rfl, by decide, by decide⟩ ⟨Nat.zero_le _, Nat.zero_le _⟩ hl.1 rfl (Nat.le_of_ble_eq_true rfl) dX11_piece_28) (fun H locs Sm13 => ?_)
        refine q_iload_n C hl 2 rfl rfl dX11_piece_31 ?_
        refine q_iconst C (-1) dX11_piece_32 ?_
        refine q_icmp_ne C hx2 (rl (-1) rfl) 43 dX11_piece_33 (by decide) (fun hc15 => ?_) (fun hc15 => ?_)
        · have hF := if_t hc15 hF
          refine q_aload_n C hl 0 rfl rfl dX11_piece_36 ?_
          refine q_geti C Sm13 27 fo_RX11_183 (j := 27) rfl rfl hx0 dX11_piece_37 ?_
          refine q_goto C 62 dX11_piece_40 (by decide) ?_
          exact wX11_piece_62 C Sm13 (Sm13.r _ _) (lv_sub hl [] rfl) hF Kr
        · have hF := if_f hc15 hF
          refine q_iload_n C hl 2 rfl rfl dX11_piece_43 ?_
          refine q_aload_n C hl 0 rfl rfl dX11_piece_44 ?_
          refine q_geti C Sm13 27 fo_RX11_183 (j := 27) rfl rfl hx0 dX11_piece_45 ?_
          refine q_icmp_ge C hx2 (Sm13.r _ _) 60 dX11_piece_48 (by decide) (fun hc16 => ?_) (fun hc16 => ?_)
          · have hF := if_t hc16 hF
            refine q_bipush C (-4) (by decide) dX11_piece_60 ?_
            exact wX11_piece_62 C Sm13 (rl (-4) rfl) (lv_sub hl [] rfl) hF Kr
          · have hF := if_f hc16 hF
            refine q_aload_n C hl 0 rfl rfl dX11_piece_51 ?_
            obtain ⟨k17, hF⟩ := ck_ok hF
            refine q_getr C Sm13 25 fo_RX11_55 (j := 25) rfl rfl hx0 k17 (by decide) dX11_piece_52 ?_
            refine q_iload_n C hl 2 rfl rfl dX11_piece_55 ?_
            obtain ⟨i18, hF⟩ := ck_ok hF
            refine q_iald C Sm13 k17 i18 dX11_piece_56 ?_
            refine q_goto C 62 dX11_piece_57 (by decide) ?_
            exact wX11_piece_62 C Sm13 (Sm13.r _ _) (lv_sub hl [] rfl) hF Kr
      · have hF := if_f hc11 hF
        refine q_bipush C (-2) (by decide) dX11_piece_23 ?_
        cases hF
        exact Kr _ _ _ _ Sm8 dX11_piece_25 ⟨(rl (-2) rfl), fun h9 => absurd h9 (by decide)⟩ rfl
    · have hF := if_f hc6 hF
      exact wX11_piece_13 C Sm2  (lv_sub hl [] rfl) hF Kr
theorem cX11_piece_ok (l : Launch) (G : Gl) {g : Shp} {x0 x1 x2 : Int} {m m' : Mem} {r : Int} (hx0 : gk g x0 = 12) (hx1 : r32 x1) (hx2 : r32 x2) (hF : fX11_piece g x0 x1 x2 m = some (r, m')) : mI l yX11_piece (wT yX11_piece cX11_piece 3 (some .int)) rX11_piece G false (fun ad => [.ref (ad x0), .int (iI x1), .int (iI x2)]) g m r m' :=
  met_i (by decide) (fun ad => Nat.le_of_ble_eq_true rfl) (fun p e s mt args below meth c Q A H0 H locs ad ls C hnm S hl Kr => wX11_piece_0 C S hx0 hx1 hx2 hl hF Kr)
set_option maxRecDepth 20000 in
theorem wX11_costAt_31 {p : Program} {l : Launch} {e : Env} {s : State} {mt : MethodId} {args : Array Value} {below : List Frame} {meth : Method} {c : Code} {Q : State → Prop} {G : Gl} {A : Nat → Prop} {H0 : Heap} {ad : Int → Nat} {g : Shp} {H : Heap} {locs : List Loc} {ls : Array Slot} {m : Mem} {z0 : Int} (C : CallFix p mt c cX11_costAt 4 s args tb RX11) (S : Wd G A s H0 ad g m H locs) (hz0 : r32 z0) (hl : lv_has ls 4 []) {r : Int} {m' : Mem} (hF : bX11_costAt_31 g z0 m = some (r, m')) (Kr : ∀ (H : Heap) (locs : List Loc) (pc : Nat) (ls : Array Slot), Wd G A s H0 ad g m' H locs → decode cX11_costAt pc = .ok (.ireturn, 1) → r32 r ∧ (false = true → r = 0 ∨ r = 1) → narrow .int (.int (iI r)) = .int (iI r) → W p l e rX11_costAt s mt args below meth c H locs 0 0 Q (F0 mt pc ls [.int (iI r)])) : W p l e rX11_costAt s mt args below meth c H locs 0 0 Q (F0 mt 31 ls [.int (iI z0)]) := by
  unfold bX11_costAt_31 at hF
  cases hF
  exact Kr _ _ _ _ S dX11_costAt_31 ⟨hz0, fun h9 => absurd h9 (by decide)⟩ rfl
set_option maxRecDepth 20000 in
theorem wX11_costAt_0 {p : Program} {l : Launch} {e : Env} {s : State} {mt : MethodId} {args : Array Value} {below : List Frame} {meth : Method} {c : Code} {Q : State → Prop} {G : Gl} {A : Nat → Prop} {H0 : Heap} {ad : Int → Nat} {g : Shp} {H : Heap} {locs : List Loc} {ls : Array Slot} {m : Mem} {x0 x1 x2 : Int} (C : CallFix p mt c cX11_costAt 4 s args tb RX11) (S : Wd G A s H0 ad g m H locs) (hx0 : gk g x0 = 12) (hx1 : r32 x1) (hx2 : r32 x2) (hl : lv_has ls 4 [(0, .ref (ad x0)), (1, .int (iI x1)), (2, .int (iI x2))]) {r : Int} {m' : Mem} (hF : bX11_costAt_0 g x0 x1 x2 m = some (r, m')) (Kr : ∀ (H : Heap) (locs : List Loc) (pc : Nat) (ls : Array Slot), Wd G A s H0 ad g m' H locs → decode cX11_costAt pc = .ok (.ireturn, 1) → r32 r ∧ (false = true → r = 0 ∨ r = 1) → narrow .int (.int (iI r)) = .int (iI r) → W p l e rX11_costAt s mt args below meth c H locs 0 0 Q (F0 mt pc ls [.int (iI r)])) : W p l e rX11_costAt s mt args below meth c H locs 0 0 Q (F0 mt 0 ls []) := by
  unfold bX11_costAt_0 at hF
  refine q_iload_n C hl 1 rfl rfl dX11_costAt_0 ?_
  refine q_iconst C 2 dX11_costAt_1 ?_
  refine q_idiv C hx1 (rl 2 rfl) (by decide) dX11_costAt_2 ?_
  refine q_sipush C 343 (by decide) dX11_costAt_3 ?_
  refine q_imul C dX11_costAt_6 ?_
  refine q_iload_n C hl 2 rfl rfl dX11_costAt_7 ?_
  refine q_iadd C dX11_costAt_8 ?_
  obtain ⟨y1, ey1, hF⟩ := vv_ok hF
  have ry1 : r32 y1 := ey1 ▸ (r32_w _)
  refine q_istore_n C hl [(3, .int (iI y1)), (0, .ref (ad x0)), (1, .int (iI x1)), (2, .int (iI x2))] ey1 rfl (by decide) rfl dX11_costAt_9 (fun ls hl => ?_)
  refine q_iload_n C hl 2 rfl rfl dX11_costAt_10 ?_
  refine q_iconst C 2 dX11_costAt_11 ?_
  refine q_irem C hx1 (rl 2 rfl) (by decide) dX11_costAt_12 ?_
  refine q_if_ne C (r32_w _) 25 dX11_costAt_13 (by decide) (fun hc2 => ?_) (fun hc2 => ?_)
  · have hF := if_t hc2 hF
    refine q_aload_n C hl 1 rfl rfl dX11_costAt_16 ?_
    obtain ⟨k3, hF⟩ := ck_ok hF
    refine q_getr C S 28 fo_RX11_62 (j := 28) rfl rfl hx0 k3 (by decide) dX11_costAt_17 ?_
    refine q_iload_n C hl 0 rfl rfl dX11_costAt_20 ?_
    obtain ⟨i4, hF⟩ := ck_ok hF
    refine q_iald C S k3 i4 dX11_costAt_21 ?_
    refine q_goto C 31 dX11_costAt_22 (by decide) ?_
    exact wX11_costAt_31 C S (S.r _ _) (lv_sub hl [] rfl) hF Kr
  · have hF := if_f hc2 hF
    refine q_aload_n C hl 1 rfl rfl dX11_costAt_25 ?_
    obtain ⟨k5, hF⟩ := ck_ok hF
    refine q_getr C S 29 fo_RX11_65 (j := 29) rfl rfl hx0 k5 (by decide) dX11_costAt_26 ?_
    refine q_iload_n C hl 0 rfl rfl dX11_costAt_29 ?_
    obtain ⟨i6, hF⟩ := ck_ok hF
    refine q_iald C S k5 i6 dX11_costAt_30 ?_
    exact wX11_costAt_31 C S (S.r _ _) (lv_sub hl [] rfl) hF Kr
theorem cX11_costAt_ok (l : Launch) (G : Gl) {g : Shp} {x0 x1 x2 : Int} {m m' : Mem} {r : Int} (hx0 : gk g x0 = 12) (hx1 : r32 x1) (hx2 : r32 x2) (hF : fX11_costAt g x0 x1 x2 m = some (r, m')) : mI l yX11_costAt (wT yX11_costAt cX11_costAt 4 (some .int)) rX11_costAt G false (fun ad => [.ref (ad x0), .int (iI x1), .int (iI x2)]) g m r m' :=
  met_i (by decide) (fun ad => Nat.le_of_ble_eq_true rfl) (fun p e s mt args below meth c Q A H0 H locs ad ls C hnm S hl Kr => wX11_costAt_0 C S hx0 hx1 hx2 hl hF Kr)
set_option maxRecDepth 20000 in
theorem wX11_oneOf_20 {p : Program} {l : Launch} {e : Env} {s : State} {mt : MethodId} {args : Array Value} {below : List Frame} {meth : Method} {c : Code} {Q : State → Prop} {G : Gl} {A : Nat → Prop} {H0 : Heap} {ad : Int → Nat} {g : Shp} {H : Heap} {locs : List Loc} {ls : Array Slot} {m : Mem} {z0 : Int} (C : CallFix p mt c cX11_oneOf 1 s args tb RX11) (S : Wd G A s H0 ad g m H locs) (hz0 : r32 z0) (hl : lv_has ls 1 []) {r : Int} {m' : Mem} (hF : bX11_oneOf_20 g z0 m = some (r, m')) (Kr : ∀ (H : Heap) (locs : List Loc) (pc : Nat) (ls : Array Slot), Wd G A s H0 ad g m' H locs → decode cX11_oneOf pc = .ok (.ireturn, 1) → r32 r ∧ (false = true → r = 0 ∨ r = 1) → narrow .int (.int (iI r)) = .int (iI r) → W p l e rX11_oneOf s mt args below meth c H locs 0 0 Q (F0 mt pc ls [.int (iI r)])) : W p l e rX11_oneOf s mt args below meth c H locs 0 0 Q (F0 mt 20 ls [.int (iI z0)]) := by
  unfold bX11_oneOf_20 at hF
  cases hF
  exact Kr _ _ _ _ S dX11_oneOf_20 ⟨hz0, fun h9 => absurd h9 (by decide)⟩ rfl
set_option maxRecDepth 20000 in
theorem wX11_oneOf_0 {p : Program} {l : Launch} {e : Env} {s : State} {mt : MethodId} {args : Array Value} {below : List Frame} {meth : Method} {c : Code} {Q : State → Prop} {G : Gl} {A : Nat → Prop} {H0 : Heap} {ad : Int → Nat} {g : Shp} {H : Heap} {locs : List Loc} {ls : Array Slot} {m : Mem} {x0 : Int} (C : CallFix p mt c cX11_oneOf 1 s args tb RX11) (S : Wd G A s H0 ad g m H locs) (hx0 : r32 x0) (hl : lv_has ls 1 [(0, .int (iI x0))]) {r : Int} {m' : Mem} (hF : bX11_oneOf_0 g x0 m = some (r, m')) (Kr : ∀ (H : Heap) (locs : List Loc) (pc : Nat) (ls : Array Slot), Wd G A s H0 ad g m' H locs → decode cX11_oneOf pc = .ok (.ireturn, 1) → r32 r ∧ (false = true → r = 0 ∨ r = 1) → narrow .int (.int (iI r)) = .int (iI r) → W p l e rX11_oneOf s mt args below meth c H locs 0 0 Q (F0 mt pc ls [.int (iI r)])) : W p l e rX11_oneOf s mt args below meth c H locs 0 0 Q (F0 mt 0 ls []) := by
  unfold bX11_oneOf_0 at hF
  refine q_iload_n C hl 0 rfl rfl dX11_oneOf_0 ?_
  refine q_if_ne C hx0 9 dX11_oneOf_1 (by decide) (fun hc1 => ?_) (fun hc1 => ?_)
  · have hF := if_t hc1 hF
    refine q_bipush C 49 (by decide) dX11_oneOf_4 ?_
    refine q_goto C 20 dX11_oneOf_6 (by decide) ?_
    exact wX11_oneOf_20 C S (rl 49 rfl) (lv_sub hl [] rfl) hF Kr
  · have hF := if_f hc1 hF
    refine q_iload_n C hl 0 rfl rfl dX11_oneOf_9 ?_
    refine q_iconst C 1 dX11_oneOf_10 ?_
    refine q_icmp_ne C hx0 (rl 1 rfl) 19 dX11_oneOf_11 (by decide) (fun hc2 => ?_) (fun hc2 => ?_)
    · have hF := if_t hc2 hF
      refine q_bipush C 7 (by decide) dX11_oneOf_14 ?_
      refine q_goto C 20 dX11_oneOf_16 (by decide) ?_
      exact wX11_oneOf_20 C S (rl 7 rfl) (lv_sub hl [] rfl) hF Kr
    · have hF := if_f hc2 hF
      refine q_iconst C 1 dX11_oneOf_19 ?_
      exact wX11_oneOf_20 C S (rl 1 rfl) (lv_sub hl [] rfl) hF Kr
theorem cX11_oneOf_ok (l : Launch) (G : Gl) {g : Shp} {x0 : Int} {m m' : Mem} {r : Int} (hx0 : r32 x0) (hF : fX11_oneOf g x0 m = some (r, m')) : mI l yX11_oneOf (wT yX11_oneOf cX11_oneOf 1 (some .int)) rX11_oneOf G false (fun ad => [.int (iI x0)]) g m r m' :=
  met_i (by decide) (fun ad => Nat.le_of_ble_eq_true rfl) (fun p e s mt args below meth c Q A H0 H locs ad ls C hnm S hl Kr => wX11_oneOf_0 C S hx0 hl hF Kr)
set_option maxRecDepth 20000 in
theorem wX11_isCutAslant_38 {p : Program} {l : Launch} {e : Env} {s : State} {mt : MethodId} {args : Array Value} {below : List Frame} {meth : Method} {c : Code} {Q : State → Prop} {G : Gl} {A : Nat → Prop} {H0 : Heap} {ad : Int → Nat} {g : Shp} {H : Heap} {locs : List Loc} {ls : Array Slot} {m : Mem} {z0 : Int} (C : CallFix p mt c cX11_isCutAslant 4 s args tb RX11) (S : Wd G A s H0 ad g m H locs) (hz0 : r32 z0) (hl : lv_has ls 4 []) {r : Int} {m' : Mem} (hF : bX11_isCutAslant_38 g z0 m = some (r, m')) (Kr : ∀ (H : Heap) (locs : List Loc) (pc : Nat) (ls : Array Slot), Wd G A s H0 ad g m' H locs → decode cX11_isCutAslant pc = .ok (.ireturn, 1) → r32 r ∧ (true = true → r = 0 ∨ r = 1) → narrow .boolean (.int (iI r)) = .int (iI r) → W p l e rX11_isCutAslant s mt args below meth c H locs 0 0 Q (F0 mt pc ls [.int (iI r)])) : W p l e rX11_isCutAslant s mt args below meth c H locs 0 0 Q (F0 mt 38 ls [.int (iI z0)]) := by
  unfold bX11_isCutAslant_38 at hF
  obtain ⟨b1, hF⟩ := ck_ok hF
  cases hF
  exact Kr _ _ _ _ S dX11_isCutAslant_38 ⟨r_b b1, fun _ => b1⟩ (nr_b b1)
set_option maxRecDepth 20000 in
theorem wX11_isCutAslant_33 {p : Program} {l : Launch} {e : Env} {s : State} {mt : MethodId} {args : Array Value} {below : List Frame} {meth : Method} {c : Code} {Q : State → Prop} {G : Gl} {A : Nat → Prop} {H0 : Heap} {ad : Int → Nat} {g : Shp} {H : Heap} {locs : List Loc} {ls : Array Slot} {m : Mem} (C : CallFix p mt c cX11_isCutAslant 4 s args tb RX11) (S : Wd G A s H0 ad g m H locs)  (hl : lv_has ls 4 []) {r : Int} {m' : Mem} (hF : bX11_isCutAslant_33 g m = some (r, m')) (Kr : ∀ (H : Heap) (locs : List Loc) (pc : Nat) (ls : Array Slot), Wd G A s H0 ad g m' H locs → decode cX11_isCutAslant pc = .ok (.ireturn, 1) → r32 r ∧ (true = true → r = 0 ∨ r = 1) → narrow .boolean (.int (iI r)) = .int (iI r) → W p l e rX11_isCutAslant s mt args below meth c H locs 0 0 Q (F0 mt pc ls [.int (iI r)])) : W p l e rX11_isCutAslant s mt args below meth c H locs 0 0 Q (F0 mt 33 ls []) := by
  unfold bX11_isCutAslant_33 at hF
  refine q_iconst C 1 dX11_isCutAslant_33 ?_
  refine q_goto C 38 dX11_isCutAslant_34 (by decide) ?_
  exact wX11_isCutAslant_38 C S (rl 1 rfl) (lv_sub hl [] rfl) hF Kr
set_option maxRecDepth 20000 in
theorem wX11_isCutAslant_37 {p : Program} {l : Launch} {e : Env} {s : State} {mt : MethodId} {args : Array Value} {below : List Frame} {meth : Method} {c : Code} {Q : State → Prop} {G : Gl} {A : Nat → Prop} {H0 : Heap} {ad : Int → Nat} {g : Shp} {H : Heap} {locs : List Loc} {ls : Array Slot} {m : Mem} (C : CallFix p mt c cX11_isCutAslant 4 s args tb RX11) (S : Wd G A s H0 ad g m H locs)  (hl : lv_has ls 4 []) {r : Int} {m' : Mem} (hF : bX11_isCutAslant_37 g m = some (r, m')) (Kr : ∀ (H : Heap) (locs : List Loc) (pc : Nat) (ls : Array Slot), Wd G A s H0 ad g m' H locs → decode cX11_isCutAslant pc = .ok (.ireturn, 1) → r32 r ∧ (true = true → r = 0 ∨ r = 1) → narrow .boolean (.int (iI r)) = .int (iI r) → W p l e rX11_isCutAslant s mt args below meth c H locs 0 0 Q (F0 mt pc ls [.int (iI r)])) : W p l e rX11_isCutAslant s mt args below meth c H locs 0 0 Q (F0 mt 37 ls []) := by
  unfold bX11_isCutAslant_37 at hF
  refine q_iconst C 0 dX11_isCutAslant_37 ?_
  exact wX11_isCutAslant_38 C S (rl 0 rfl) (lv_sub hl [] rfl) hF Kr
set_option maxRecDepth 20000 in
theorem wX11_isCutAslant_0 {p : Program} {l : Launch} {e : Env} {s : State} {mt : MethodId} {args : Array Value} {below : List Frame} {meth : Method} {c : Code} {Q : State → Prop} {G : Gl} {A : Nat → Prop} {H0 : Heap} {ad : Int → Nat} {g : Shp} {H : Heap} {locs : List Loc} {ls : Array Slot} {m : Mem} {x0 x1 x2 x3 : Int} (C : CallFix p mt c cX11_isCutAslant 4 s args tb RX11) (S : Wd G A s H0 ad g m H locs) (hx0 : gk g x0 = 12) (hx1 : r32 x1) (hx2 : r32 x2) (hx3 : r32 x3) (hl : lv_has ls 4 [(0, .ref (ad x0)), (1, .int (iI x1)), (2, .int (iI x2)), (3, .int (iI x3))]) {r : Int} {m' : Mem} (hF : bX11_isCutAslant_0 g x0 x1 x2 x3 m = some (r, m')) (Kr : ∀ (H : Heap) (locs : List Loc) (pc : Nat) (ls : Array Slot), Wd G A s H0 ad g m' H locs → decode cX11_isCutAslant pc = .ok (.ireturn, 1) → r32 r ∧ (true = true → r = 0 ∨ r = 1) → narrow .boolean (.int (iI r)) = .int (iI r) → W p l e rX11_isCutAslant s mt args below meth c H locs 0 0 Q (F0 mt pc ls [.int (iI r)])) : W p l e rX11_isCutAslant s mt args below meth c H locs 0 0 Q (F0 mt 0 ls []) := by
  unfold bX11_isCutAslant_0 at hF
  refine q_iload_n C hl 2 rfl rfl dX11_isCutAslant_0 ?_
  refine q_aload_n C hl 0 rfl rfl dX11_isCutAslant_1 ?_
  obtain ⟨k1, hF⟩ := ck_ok hF
  refine q_getr C S 30 fo_RX11_68 (j := 30) rfl rfl hx0 k1 (by decide) dX11_isCutAslant_2 ?_
  refine q_iload_n C hl 1 rfl rfl dX11_isCutAslant_5 ?_
  obtain ⟨i2, hF⟩ := ck_ok hF
  refine q_iald C S k1 i2 dX11_isCutAslant_6 ?_
  refine q_icmp_ne C hx2 (S.r _ _) 37 dX11_isCutAslant_7 (by decide) (fun hc3 => ?_) (fun hc3 => ?_)
  · have hF := if_t hc3 hF
    refine q_aload_n C hl 0 rfl rfl dX11_isCutAslant_10 ?_
    obtain ⟨k4, hF⟩ := ck_ok hF
    refine q_getr C S 31 fo_RX11_71 (j := 31) rfl rfl hx0 k4 (by decide) dX11_isCutAslant_11 ?_
    refine q_iload_n C hl 1 rfl rfl dX11_isCutAslant_14 ?_
    obtain ⟨i5, hF⟩ := ck_ok hF
    refine q_zald C S k4 i5 dX11_isCutAslant_15 ?_
    refine q_if_eq C (S.r _ _) 37 dX11_isCutAslant_16 (by decide) (fun hc6 => ?_) (fun hc6 => ?_)
    · have hF := if_t hc6 hF
      exact wX11_isCutAslant_37 C S  (lv_sub hl [] rfl) hF Kr
    · have hF := if_f hc6 hF
      refine q_iload_n C hl 3 rfl rfl dX11_isCutAslant_19 ?_
      refine q_if_ne C hx3 33 dX11_isCutAslant_20 (by decide) (fun hc7 => ?_) (fun hc7 => ?_)
      · have hF := if_t hc7 hF
        refine q_iload_n C hl 2 rfl rfl dX11_isCutAslant_23 ?_
        refine q_aload_n C hl 0 rfl rfl dX11_isCutAslant_24 ?_
        obtain ⟨k8, hF⟩ := ck_ok hF
        refine q_getr C S 19 fo_RX11_40 (j := 19) rfl rfl hx0 k8 (by decide) dX11_isCutAslant_25 ?_
        refine q_iconst C 0 dX11_isCutAslant_28 ?_
        obtain ⟨i9, hF⟩ := ck_ok hF
        refine q_iald C S k8 i9 dX11_isCutAslant_29 ?_
        refine q_icmp_eq C hx2 (S.r _ _) 37 dX11_isCutAslant_30 (by decide) (fun hc10 => ?_) (fun hc10 => ?_)
        · have hF := if_t hc10 hF
          exact wX11_isCutAslant_37 C S  (lv_sub hl [] rfl) hF Kr
        · have hF := if_f hc10 hF
          exact wX11_isCutAslant_33 C S  (lv_sub hl [] rfl) hF Kr
      · have hF := if_f hc7 hF
        exact wX11_isCutAslant_33 C S  (lv_sub hl [] rfl) hF Kr
  · have hF := if_f hc3 hF
    exact wX11_isCutAslant_37 C S  (lv_sub hl [] rfl) hF Kr
theorem cX11_isCutAslant_ok (l : Launch) (G : Gl) {g : Shp} {x0 x1 x2 x3 : Int} {m m' : Mem} {r : Int} (hx0 : gk g x0 = 12) (hx1 : r32 x1) (hx2 : r32 x2) (hx3 : r32 x3) (hF : fX11_isCutAslant g x0 x1 x2 x3 m = some (r, m')) : mI l yX11_isCutAslant (wT yX11_isCutAslant cX11_isCutAslant 4 (some .boolean)) rX11_isCutAslant G true (fun ad => [.ref (ad x0), .int (iI x1), .int (iI x2), .int (iI x3)]) g m r m' :=
  met_i (by decide) (fun ad => Nat.le_of_ble_eq_true rfl) (fun p e s mt args below meth c Q A H0 H locs ad ls C hnm S hl Kr => wX11_isCutAslant_0 C S hx0 hx1 hx2 hx3 hl hF Kr)
set_option maxRecDepth 20000 in
theorem wX11_costBy_55 {p : Program} {l : Launch} {e : Env} {s : State} {mt : MethodId} {args : Array Value} {below : List Frame} {meth : Method} {c : Code} {Q : State → Prop} {G : Gl} {A : Nat → Prop} {H0 : Heap} {ad : Int → Nat} {g : Shp} {H : Heap} {locs : List Loc} {ls : Array Slot} {m : Mem} (C : CallFix p mt c cX11_costBy 8 s args tb RX11) (S : Wd G A s H0 ad g m H locs)  (hl : lv_has ls 8 []) {r : Int} {m' : Mem} (hF : bX11_costBy_55 g m = some (r, m')) (Kr : ∀ (H : Heap) (locs : List Loc) (pc : Nat) (ls : Array Slot), Wd G A s H0 ad g m' H locs → decode cX11_costBy pc = .ok (.ireturn, 1) → r32 r ∧ (false = true → r = 0 ∨ r = 1) → narrow .int (.int (iI r)) = .int (iI r) → W p l e rX11_costBy s mt args below meth c H locs 0 0 Q (F0 mt pc ls [.int (iI r)])) : W p l e rX11_costBy s mt args below meth c H locs 0 0 Q (F0 mt 55 ls []) := by
  unfold bX11_costBy_55 at hF
  refine q_ldc C 1000000 (by decide) tw1115 dX11_costBy_55 ?_
  cases hF
  exact Kr _ _ _ _ S dX11_costBy_57 ⟨(rl 1000000 rfl), fun h9 => absurd h9 (by decide)⟩ rfl
set_option maxRecDepth 20000 in
theorem wX11_costBy_147 {p : Program} {l : Launch} {e : Env} {s : State} {mt : MethodId} {args : Array Value} {below : List Frame} {meth : Method} {c : Code} {Q : State → Prop} {G : Gl} {A : Nat → Prop} {H0 : Heap} {ad : Int → Nat} {g : Shp} {H : Heap} {locs : List Loc} {ls : Array Slot} {m : Mem} {z0 : Int} (C : CallFix p mt c cX11_costBy 8 s args tb RX11) (S : Wd G A s H0 ad g m H locs) (hz0 : r32 z0) (hl : lv_has ls 8 []) {r : Int} {m' : Mem} (hF : bX11_costBy_147 g z0 m = some (r, m')) (Kr : ∀ (H : Heap) (locs : List Loc) (pc : Nat) (ls : Array Slot), Wd G A s H0 ad g m' H locs → decode cX11_costBy pc = .ok (.ireturn, 1) → r32 r ∧ (false = true → r = 0 ∨ r = 1) → narrow .int (.int (iI r)) = .int (iI r) → W p l e rX11_costBy s mt args below meth c H locs 0 0 Q (F0 mt pc ls [.int (iI r)])) : W p l e rX11_costBy s mt args below meth c H locs 0 0 Q (F0 mt 147 ls [.int (iI z0)]) := by
  unfold bX11_costBy_147 at hF
  cases hF
  exact Kr _ _ _ _ S dX11_costBy_147 ⟨hz0, fun h9 => absurd h9 (by decide)⟩ rfl
set_option maxRecDepth 20000 in
theorem wX11_costBy_122 {p : Program} {l : Launch} {e : Env} {s : State} {mt : MethodId} {args : Array Value} {below : List Frame} {meth : Method} {c : Code} {Q : State → Prop} {G : Gl} {A : Nat → Prop} {H0 : Heap} {ad : Int → Nat} {g : Shp} {H : Heap} {locs : List Loc} {ls : Array Slot} {m : Mem} {x6 z0 z1 : Int} (C : CallFix p mt c cX11_costBy 8 s args tb RX11) (S : Wd G A s H0 ad g m H locs) (hx6 : r32 x6) (hz0 : r32 z0) (hz1 : r32 z1) (hl : lv_has ls 8 [(6, .int (iI x6))]) {r : Int} {m' : Mem} (hF : bX11_costBy_122 g x6 z0 z1 m = some (r, m')) (Kr : ∀ (H : Heap) (locs : List Loc) (pc : Nat) (ls : Array Slot), Wd G A s H0 ad g m' H locs → decode cX11_costBy pc = .ok (.ireturn, 1) → r32 r ∧ (false = true → r = 0 ∨ r = 1) → narrow .int (.int (iI r)) = .int (iI r) → W p l e rX11_costBy s mt args below meth c H locs 0 0 Q (F0 mt pc ls [.int (iI r)])) : W p l e rX11_costBy s mt args below meth c H locs 0 0 Q (F0 mt 122 ls [.int (iI z1), .int (iI z0)]) := by
  unfold bX11_costBy_122 at hF
  refine q_iadd C dX11_costBy_122 ?_
  obtain ⟨y1, ey1, hF⟩ := vv_ok hF
  have ry1 : r32 y1 := ey1 ▸ (r32_w _)
  refine q_istore C hl [(7, .int (iI y1)), (6, .int (iI x6))] ey1 (by decide) rfl dX11_costBy_123 (fun ls hl => ?_)
  refine q_iload C hl 1 rfl dX11_costBy_125 ?_
  refine q_ldc C 1000000 (by decide) tw1115 dX11_costBy_127 ?_
  refine q_icmp_ne C hx6 (rl 1000000 rfl) 137 dX11_costBy_129 (by decide) (fun hc2 => ?_) (fun hc2 => ?_)
  · have hF := if_t hc2 hF
    refine q_ldc C 1000000 (by decide) tw1115 dX11_costBy_132 ?_
    refine q_goto C 147 dX11_costBy_134 (by decide) ?_
    exact wX11_costBy_147 C S (rl 1000000 rfl) (lv_sub hl [] rfl) hF Kr
  · have hF := if_f hc2 hF
    refine q_iload C hl 1 rfl dX11_costBy_137 ?_
    refine q_bipush C 32 (by decide) dX11_costBy_139 ?_
    refine q_iload C hl 0 rfl dX11_costBy_141 ?_
    refine q_imul C dX11_costBy_143 ?_
    refine q_iadd C dX11_costBy_144 ?_
    refine q_iconst C 1 dX11_costBy_145 ?_
    refine q_iadd C dX11_costBy_146 ?_
    exact wX11_costBy_147 C S (r32_w _) (lv_sub hl [] rfl) hF Kr
set_option maxRecDepth 20000 in
theorem wX11_costBy_106 {p : Program} {l : Launch} {e : Env} {s : State} {mt : MethodId} {args : Array Value} {below : List Frame} {meth : Method} {c : Code} {Q : State → Prop} {G : Gl} {A : Nat → Prop} {H0 : Heap} {ad : Int → Nat} {g : Shp} {H : Heap} {locs : List Loc} {ls : Array Slot} {m : Mem} {x0 x1 x3 x4 x6 z0 : Int} (C : CallFix p mt c cX11_costBy 8 s args tb RX11) (S : Wd G A s H0 ad g m H locs) (hx0 : gk g x0 = 12) (hx1 : r32 x1) (hx3 : r32 x3) (hx4 : r32 x4) (hx6 : r32 x6) (hz0 : r32 z0) (hl : lv_has ls 8 [(0, .ref (ad x0)), (1, .int (iI x1)), (3, .int (iI x3)), (4, .int (iI x4)), (6, .int (iI x6))]) {r : Int} {m' : Mem} (hF : bX11_costBy_106 g x0 x1 x3 x4 x6 z0 m = some (r, m')) (Kr : ∀ (H : Heap) (locs : List Loc) (pc : Nat) (ls : Array Slot), Wd G A s H0 ad g m' H locs → decode cX11_costBy pc = .ok (.ireturn, 1) → r32 r ∧ (false = true → r = 0 ∨ r = 1) → narrow .int (.int (iI r)) = .int (iI r) → W p l e rX11_costBy s mt args below meth c H locs 0 0 Q (F0 mt pc ls [.int (iI r)])) : W p l e rX11_costBy s mt args below meth c H locs 0 0 Q (F0 mt 106 ls [.int (iI z0)]) := by
  unfold bX11_costBy_106 at hF
  refine q_aload_n C hl 0 rfl rfl dX11_costBy_106 ?_
  refine q_iload_n C hl 1 rfl rfl dX11_costBy_107 ?_
  refine q_iload_n C hl 2 rfl rfl dX11_costBy_108 ?_
  refine q_iload C hl 3 rfl dX11_costBy_109 ?_
  obtain ⟨v1, m2, h3, hF⟩ := bd2_ok hF
  refine q_ci S (run_V (As := [.int (iI x1), .int (iI x3), .int (iI x4)]) (rest := [.int (iI z0)]) C S (cX11_isCutAslant_ok l G hx0 hx1 hx3 hx4 h3 ad _) hx0 ⟨by decide, _, _, rfl⟩ gd_RX11_205 hdV_X11_isCutAslant rfl ⟨rfl, rfl, by decide, by decide⟩ ⟨Nat.zero_le _, Nat.zero_le _⟩ hl.1 rfl (Nat.le_of_ble_eq_true rfl) dX11_costBy_111) (fun H locs Sm2 h4 => ?_)
  refine q_if_eq C h4.1 121 dX11_costBy_114 (by decide) (fun hc5 => ?_) (fun hc5 => ?_)
  · have hF := if_t hc5 hF
    refine q_iconst C 0 dX11_costBy_121 ?_
    exact wX11_costBy_122 C Sm2 hx6 hz0 (rl 0 rfl) (lv_sub hl [4] rfl) hF Kr
  · have hF := if_f hc5 hF
    refine q_iconst C 1 dX11_costBy_117 ?_
    refine q_goto C 122 dX11_costBy_118 (by decide) ?_
    exact wX11_costBy_122 C Sm2 hx6 hz0 (rl 1 rfl) (lv_sub hl [4] rfl) hF Kr
set_option maxRecDepth 20000 in
theorem wX11_costBy_77 {p : Program} {l : Launch} {e : Env} {s : State} {mt : MethodId} {args : Array Value} {below : List Frame} {meth : Method} {c : Code} {Q : State → Prop} {G : Gl} {A : Nat → Prop} {H0 : Heap} {ad : Int → Nat} {g : Shp} {H : Heap} {locs : List Loc} {ls : Array Slot} {m : Mem} {x0 x1 x2 x3 x4 z0 z1 z2 : Int} (C : CallFix p mt c cX11_costBy 8 s args tb RX11) (S : Wd G A s H0 ad g m H locs) (hx0 : gk g x0 = 12) (hx1 : r32 x1) (hx2 : r32 x2) (hx3 : r32 x3) (hx4 : r32 x4) (hz0 : gk g z0 = 12) (hz1 : r32 z1) (hz2 : r32 z2) (hl : lv_has ls 8 [(0, .ref (ad x0)), (1, .int (iI x1)), (2, .int (iI x2)), (3, .int (iI x3)), (4, .int (iI x4))]) {r : Int} {m' : Mem} (hF : bX11_costBy_77 g x0 x1 x2 x3 x4 z0 z1 z2 m = some (r, m')) (Kr : ∀ (H : Heap) (locs : List Loc) (pc : Nat) (ls : Array Slot), Wd G A s H0 ad g m' H locs → decode cX11_costBy pc = .ok (.ireturn, 1) → r32 r ∧ (false = true → r = 0 ∨ r = 1) → narrow .int (.int (iI r)) = .int (iI r) → W p l e rX11_costBy s mt args below meth c H locs 0 0 Q (F0 mt pc ls [.int (iI r)])) : W p l e rX11_costBy s mt args below meth c H locs 0 0 Q (F0 mt 77 ls [.int (iI z2), .int (iI z1), .ref (ad z0)]) := by
  unfold bX11_costBy_77 at hF
  refine q_isub C dX11_costBy_77 ?_
  refine q_iload_n C hl 2 rfl rfl dX11_costBy_78 ?_
  refine q_iload C hl 4 rfl dX11_costBy_79 ?_
  obtain ⟨v1, m2, h3, hF⟩ := bd2_ok hF
  refine q_ci S (run_S (As := [.int (iI x4)]) (rest := [.int (iI x2), .int (iI (w32 (z1 - z2))), .ref (ad z0)]) C S (cX11_oneOf_ok l G hx4 h3 ad _) gd_RX11_197 hd_X11_oneOf rfl ⟨rfl, rfl, by decide, by decide⟩ ⟨Nat.zero_le _, Nat.zero_le _⟩ hl.1 rfl (Nat.le_of_ble_eq_true rfl) dX11_costBy_81) (fun H locs Sm2 h4 => ?_)
  refine q_isub C dX11_costBy_84 ?_
  obtain ⟨v5, m6, h7, hF⟩ := bd2_ok hF
  refine q_ci Sm2 (run_V (As := [.int (iI (w32 (z1 - z2))), .int (iI (w32 (x2 - v1)))]) (rest := []) C Sm2 (cX11_costAt_ok l G hz0 (r32_w _) (r32_w _) h7 ad _) hz0 ⟨by decide, _, _, rfl⟩ gd_RX11_201 hdV_X11_costAt rfl ⟨rfl, rfl, by decide, by decide⟩ ⟨Nat.zero_le _, Nat.zero_le _⟩ hl.1 rfl (Nat.le_of_ble_eq_true rfl) dX11_costBy_85) (fun H locs Sm6 h8 => ?_)
  refine q_istore C hl [(6, .int (iI v5)), (0, .ref (ad x0)), (1, .int (iI x1)), (2, .int (iI x2)), (3, .int (iI x3)), (4, .int (iI x4))] rfl (by decide) rfl dX11_costBy_88 (fun ls hl => ?_)
  refine q_iload_n C hl 4 rfl rfl dX11_costBy_90 ?_
  refine q_aload_n C hl 1 rfl rfl dX11_costBy_91 ?_
  obtain ⟨k9, hF⟩ := ck_ok hF
  refine q_getr C Sm6 19 fo_RX11_40 (j := 19) rfl rfl hx0 k9 (by decide) dX11_costBy_92 ?_
  refine q_iload C hl 5 rfl dX11_costBy_95 ?_
  obtain ⟨i10, hF⟩ := ck_ok hF
  refine q_iald C Sm6 k9 i10 dX11_costBy_97 ?_
  refine q_icmp_ge C hx3 (Sm6.r _ _) 105 dX11_costBy_98 (by decide) (fun hc11 => ?_) (fun hc11 => ?_)
  · have hF := if_t hc11 hF
    refine q_iconst C 0 dX11_costBy_105 ?_
    exact wX11_costBy_106 C Sm6 hx0 hx1 hx3 hx4 h8.1 (rl 0 rfl) (lv_sub hl [1, 2, 4, 5, 0] rfl) hF Kr
  · have hF := if_f hc11 hF
    refine q_iconst C 1 dX11_costBy_101 ?_
    refine q_goto C 106 dX11_costBy_102 (by decide) ?_
    exact wX11_costBy_106 C Sm6 hx0 hx1 hx3 hx4 h8.1 (rl 1 rfl) (lv_sub hl [1, 2, 4, 5, 0] rfl) hF Kr
set_option maxRecDepth 20000 in
theorem wX11_costBy_58 {p : Program} {l : Launch} {e : Env} {s : State} {mt : MethodId} {args : Array Value} {below : List Frame} {meth : Method} {c : Code} {Q : State → Prop} {G : Gl} {A : Nat → Prop} {H0 : Heap} {ad : Int → Nat} {g : Shp} {H : Heap} {locs : List Loc} {ls : Array Slot} {m : Mem} {x0 x1 x2 x3 x4 x5 : Int} (C : CallFix p mt c cX11_costBy 8 s args tb RX11) (S : Wd G A s H0 ad g m H locs) (hx0 : gk g x0 = 12) (hx1 : r32 x1) (hx2 : r32 x2) (hx3 : r32 x3) (hx4 : r32 x4) (hx5 : r32 x5) (hl : lv_has ls 8 [(0, .ref (ad x0)), (1, .int (iI x1)), (2, .int (iI x2)), (3, .int (iI x3)), (4, .int (iI x4)), (5, .int (iI x5))]) {r : Int} {m' : Mem} (hF : bX11_costBy_58 g x0 x1 x2 x3 x4 x5 m = some (r, m')) (Kr : ∀ (H : Heap) (locs : List Loc) (pc : Nat) (ls : Array Slot), Wd G A s H0 ad g m' H locs → decode cX11_costBy pc = .ok (.ireturn, 1) → r32 r ∧ (false = true → r = 0 ∨ r = 1) → narrow .int (.int (iI r)) = .int (iI r) → W p l e rX11_costBy s mt args below meth c H locs 0 0 Q (F0 mt pc ls [.int (iI r)])) : W p l e rX11_costBy s mt args below meth c H locs 0 0 Q (F0 mt 58 ls []) := by
  unfold bX11_costBy_58 at hF
  refine q_aload_n C hl 0 rfl rfl dX11_costBy_58 ?_
  refine q_iload_n C hl 1 rfl rfl dX11_costBy_59 ?_
  refine q_iload_n C hl 3 rfl rfl dX11_costBy_60 ?_
  refine q_isub C dX11_costBy_61 ?_
  refine q_iload C hl 5 rfl dX11_costBy_62 ?_
  refine q_if_le C hx5 76 dX11_costBy_64 (by decide) (fun hc1 => ?_) (fun hc1 => ?_)
  · have hF := if_t hc1 hF
    refine q_iconst C 0 dX11_costBy_76 ?_
    exact wX11_costBy_77 C S hx0 hx1 hx2 hx3 hx4 hx0 (r32_w _) (rl 0 rfl) (lv_sub hl [0, 1, 2, 3, 4] rfl) hF Kr
  · have hF := if_f hc1 hF
    refine q_aload_n C hl 0 rfl rfl dX11_costBy_67 ?_
    obtain ⟨k2, hF⟩ := ck_ok hF
    refine q_getr C S 0 fo_RX11_7 (j := 0) rfl rfl hx0 k2 (by decide) dX11_costBy_68 ?_
    refine q_iconst C 0 dX11_costBy_71 ?_
    obtain ⟨i3, hF⟩ := ck_ok hF
    refine q_iald C S k2 i3 dX11_costBy_72 ?_
    refine q_goto C 77 dX11_costBy_73 (by decide) ?_
    exact wX11_costBy_77 C S hx0 hx1 hx2 hx3 hx4 hx0 (r32_w _) (S.r _ _) (lv_sub hl [0, 1, 2, 3, 4] rfl) hF Kr
set_option maxRecDepth 20000 in
theorem wX11_costBy_0 {p : Program} {l : Launch} {e : Env} {s : State} {mt : MethodId} {args : Array Value} {below : List Frame} {meth : Method} {c : Code} {Q : State → Prop} {G : Gl} {A : Nat → Prop} {H0 : Heap} {ad : Int → Nat} {g : Shp} {H : Heap} {locs : List Loc} {ls : Array Slot} {m : Mem} {x0 x1 x2 x3 x4 : Int} (C : CallFix p mt c cX11_costBy 8 s args tb RX11) (S : Wd G A s H0 ad g m H locs) (hx0 : gk g x0 = 12) (hx1 : r32 x1) (hx2 : r32 x2) (hx3 : r32 x3) (hx4 : r32 x4) (hl : lv_has ls 8 [(0, .ref (ad x0)), (1, .int (iI x1)), (2, .int (iI x2)), (3, .int (iI x3)), (4, .int (iI x4))]) {r : Int} {m' : Mem} (hF : bX11_costBy_0 g x0 x1 x2 x3 x4 m = some (r, m')) (Kr : ∀ (H : Heap) (locs : List Loc) (pc : Nat) (ls : Array Slot), Wd G A s H0 ad g m' H locs → decode cX11_costBy pc = .ok (.ireturn, 1) → r32 r ∧ (false = true → r = 0 ∨ r = 1) → narrow .int (.int (iI r)) = .int (iI r) → W p l e rX11_costBy s mt args below meth c H locs 0 0 Q (F0 mt pc ls [.int (iI r)])) : W p l e rX11_costBy s mt args below meth c H locs 0 0 Q (F0 mt 0 ls []) := by
  unfold bX11_costBy_0 at hF
  refine q_aload_n C hl 0 rfl rfl dX11_costBy_0 ?_
  obtain ⟨k1, hF⟩ := ck_ok hF
  refine q_getr C S 30 fo_RX11_68 (j := 30) rfl rfl hx0 k1 (by decide) dX11_costBy_1 ?_
  refine q_iload_n C hl 1 rfl rfl dX11_costBy_4 ?_
  obtain ⟨i2, hF⟩ := ck_ok hF
  refine q_iald C S k1 i2 dX11_costBy_5 ?_
  refine q_iload_n C hl 3 rfl rfl dX11_costBy_6 ?_
  refine q_isub C dX11_costBy_7 ?_
  obtain ⟨y3, ey3, hF⟩ := vv_ok hF
  have ry3 : r32 y3 := ey3 ▸ (r32_w _)
  refine q_istore C hl [(5, .int (iI y3)), (0, .ref (ad x0)), (1, .int (iI x1)), (2, .int (iI x2)), (3, .int (iI x3)), (4, .int (iI x4))] ey3 (by decide) rfl dX11_costBy_8 (fun ls hl => ?_)
  refine q_iload_n C hl 3 rfl rfl dX11_costBy_10 ?_
  refine q_iload C hl 5 rfl dX11_costBy_11 ?_
  obtain ⟨v4, m5, h6, hF⟩ := bd2_ok hF
  refine q_ci S (run_S (As := [.int (iI x4)]) (rest := [.int (iI x2)]) C S (cX11_oneOf_ok l G hx4 h6 ad _) gd_RX11_197 hd_X11_oneOf rfl ⟨rfl, rfl, by decide, by decide⟩ ⟨Nat.zero_le _, Nat.zero_le _⟩ hl.1 rfl (Nat.le_of_ble_eq_true rfl) dX11_costBy_13) (fun H locs Sm5 h7 => ?_)
  obtain ⟨n8, hF⟩ := ck_ok hF
  refine q_idiv C hx2 h7.1 n8 dX11_costBy_16 ?_
  refine q_bipush C 7 (by decide) dX11_costBy_17 ?_
  refine q_irem C (r32_w _) (rl 7 rfl) (by decide) dX11_costBy_19 ?_
  refine q_if_eq C (r32_w _) 55 dX11_costBy_20 (by decide) (fun hc9 => ?_) (fun hc9 => ?_)
  · have hF := if_t hc9 hF
    exact wX11_costBy_55 C Sm5  (lv_sub hl [] rfl) hF Kr
  · have hF := if_f hc9 hF
    refine q_iload_n C hl 4 rfl rfl dX11_costBy_23 ?_
    refine q_aload_n C hl 1 rfl rfl dX11_costBy_24 ?_
    obtain ⟨k10, hF⟩ := ck_ok hF
    refine q_getr C Sm5 19 fo_RX11_40 (j := 19) rfl rfl hx0 k10 (by decide) dX11_costBy_25 ?_
    refine q_iload C hl 5 rfl dX11_costBy_28 ?_
    obtain ⟨i11, hF⟩ := ck_ok hF
    refine q_iald C Sm5 k10 i11 dX11_costBy_30 ?_
    refine q_icmp_gt C hx3 (Sm5.r _ _) 55 dX11_costBy_31 (by decide) (fun hc12 => ?_) (fun hc12 => ?_)
    · have hF := if_t hc12 hF
      exact wX11_costBy_55 C Sm5  (lv_sub hl [] rfl) hF Kr
    · have hF := if_f hc12 hF
      refine q_iload C hl 0 rfl dX11_costBy_34 ?_
      refine q_if_lt C ry3 55 dX11_costBy_36 (by decide) (fun hc13 => ?_) (fun hc13 => ?_)
      · have hF := if_t hc13 hF
        exact wX11_costBy_55 C Sm5  (lv_sub hl [] rfl) hF Kr
      · have hF := if_f hc13 hF
        refine q_iload C hl 0 rfl dX11_costBy_39 ?_
        refine q_if_le C ry3 58 dX11_costBy_41 (by decide) (fun hc14 => ?_) (fun hc14 => ?_)
        · have hF := if_t hc14 hF
          exact wX11_costBy_58 C Sm5 hx0 hx1 hx2 hx3 hx4 ry3 (lv_sub hl [1, 2, 3, 4, 5, 0] rfl) hF Kr
        · have hF := if_f hc14 hF
          refine q_iload C hl 0 rfl dX11_costBy_44 ?_
          refine q_aload_n C hl 1 rfl rfl dX11_costBy_46 ?_
          obtain ⟨k15, hF⟩ := ck_ok hF
          refine q_getr C Sm5 0 fo_RX11_7 (j := 0) rfl rfl hx0 k15 (by decide) dX11_costBy_47 ?_
          refine q_iconst C 0 dX11_costBy_50 ?_
          obtain ⟨i16, hF⟩ := ck_ok hF
          refine q_iald C Sm5 k15 i16 dX11_costBy_51 ?_
          refine q_icmp_gt C ry3 (Sm5.r _ _) 58 dX11_costBy_52 (by decide) (fun hc17 => ?_) (fun hc17 => ?_)
          · have hF := if_t hc17 hF
            exact wX11_costBy_58 C Sm5 hx0 hx1 hx2 hx3 hx4 ry3 (lv_sub hl [1, 2, 3, 4, 5, 0] rfl) hF Kr
          · have hF := if_f hc17 hF
            exact wX11_costBy_55 C Sm5  (lv_sub hl [] rfl) hF Kr
theorem cX11_costBy_ok (l : Launch) (G : Gl) {g : Shp} {x0 x1 x2 x3 x4 : Int} {m m' : Mem} {r : Int} (hx0 : gk g x0 = 12) (hx1 : r32 x1) (hx2 : r32 x2) (hx3 : r32 x3) (hx4 : r32 x4) (hF : fX11_costBy g x0 x1 x2 x3 x4 m = some (r, m')) : mI l yX11_costBy (wT yX11_costBy cX11_costBy 8 (some .int)) rX11_costBy G false (fun ad => [.ref (ad x0), .int (iI x1), .int (iI x2), .int (iI x3), .int (iI x4)]) g m r m' :=
  met_i (by decide) (fun ad => Nat.le_of_ble_eq_true rfl) (fun p e s mt args below meth c Q A H0 H locs ad ls C hnm S hl Kr => wX11_costBy_0 C S hx0 hx1 hx2 hx3 hx4 hl hF Kr)
set_option maxRecDepth 20000 in
theorem wX11_leastAt_61 {p : Program} {l : Launch} {e : Env} {s : State} {mt : MethodId} {args : Array Value} {below : List Frame} {meth : Method} {c : Code} {Q : State → Prop} {G : Gl} {A : Nat → Prop} {H0 : Heap} {ad : Int → Nat} {g : Shp} {H : Heap} {locs : List Loc} {ls : Array Slot} {m : Mem} {x0 x1 x2 x4 x5 z0 : Int} (C : CallFix p mt c cX11_leastAt 7 s args tb RX11) (S : Wd G A s H0 ad g m H locs) (hx0 : gk g x0 = 12) (hx1 : r32 x1) (hx2 : r32 x2) (hx4 : r32 x4) (hx5 : r32 x5) (hz0 : r32 z0) (hl : lv_has ls 7 [(0, .ref (ad x0)), (1, .int (iI x1)), (2, .int (iI x2)), (4, .int (iI x4)), (5, .int (iI x5))]) {c1 : Int} {s1 : (Int × Int × Mem)} (hF : bX11_leastAt_61 g x0 x1 x2 x4 x5 z0 m = some (c1, s1)) (K0 : c1 = 0 → ∀ (H : Heap) (locs : List Loc) (ls : Array Slot), r32 s1.1 → r32 s1.2.1 → Wd G A s H0 ad g s1.2.2 H locs → lv_has ls 7 [(0, .ref (ad x0)), (1, .int (iI x1)), (2, .int (iI x2)), (3, .int (iI s1.1)), (4, .int (iI x4)), (5, .int (iI s1.2.1))] → W p l e rX11_leastAt s mt args below meth c H locs 0 0 Q (F0 mt 31 ls [])) (K1 : c1 = 1 → ∀ (H : Heap) (locs : List Loc) (ls : Array Slot), r32 s1.1 → Wd G A s H0 ad g s1.2.2 H locs → lv_has ls 7 [(0, .ref (ad x0)), (1, .int (iI x1)), (2, .int (iI x2)), (3, .int (iI s1.1)), (4, .int (iI x4))] → W p l e rX11_leastAt s mt args below meth c H locs 0 0 Q (F0 mt 68 ls [])) : W p l e rX11_leastAt s mt args below meth c H locs 0 0 Q (F0 mt 61 ls [.int (iI z0)]) := by
  unfold bX11_leastAt_61 at hF
  refine q_istore_n C hl [(3, .int (iI z0)), (0, .ref (ad x0)), (1, .int (iI x1)), (2, .int (iI x2)), (4, .int (iI x4)), (5, .int (iI x5))] rfl rfl (by decide) rfl dX11_leastAt_61 (fun ls hl => ?_)
  obtain ⟨y1, ey1, hF⟩ := vv_ok hF
  have ry1 : r32 y1 := ey1 ▸ r32_w _
  refine q_iinc C hl 5 [(5, .int (iI y1)), (3, .int (iI z0)), (0, .ref (ad x0)), (1, .int (iI x1)), (2, .int (iI x2)), (4, .int (iI x4))] rfl ey1 (by decide) rfl dX11_leastAt_62 (fun ls hl => ?_)
  refine q_goto C 31 dX11_leastAt_65 (by decide) ?_
  cases hF
  exact K0 rfl _ _ _ hz0 ry1 S (lv_sub hl [2, 3, 4, 1, 5, 0] rfl)
set_option maxRecDepth 20000 in
theorem wX11_leastAt_31 {p : Program} {l : Launch} {e : Env} {s : State} {mt : MethodId} {args : Array Value} {below : List Frame} {meth : Method} {c : Code} {Q : State → Prop} {G : Gl} {A : Nat → Prop} {H0 : Heap} {ad : Int → Nat} {g : Shp} {H : Heap} {locs : List Loc} {ls : Array Slot} {m : Mem} {x0 x1 x2 x3 x4 x5 : Int} (C : CallFix p mt c cX11_leastAt 7 s args tb RX11) (S : Wd G A s H0 ad g m H locs) (hx0 : gk g x0 = 12) (hx1 : r32 x1) (hx2 : r32 x2) (hx3 : r32 x3) (hx4 : r32 x4) (hx5 : r32 x5) (hl : lv_has ls 7 [(0, .ref (ad x0)), (1, .int (iI x1)), (2, .int (iI x2)), (3, .int (iI x3)), (4, .int (iI x4)), (5, .int (iI x5))]) {c1 : Int} {s1 : (Int × Int × Mem)} (hF : bX11_leastAt_31 g x0 x1 x2 x3 x4 x5 m = some (c1, s1)) (K0 : c1 = 0 → ∀ (H : Heap) (locs : List Loc) (ls : Array Slot), r32 s1.1 → r32 s1.2.1 → Wd G A s H0 ad g s1.2.2 H locs → lv_has ls 7 [(0, .ref (ad x0)), (1, .int (iI x1)), (2, .int (iI x2)), (3, .int (iI s1.1)), (4, .int (iI x4)), (5, .int (iI s1.2.1))] → W p l e rX11_leastAt s mt args below meth c H locs 0 0 Q (F0 mt 31 ls [])) (K1 : c1 = 1 → ∀ (H : Heap) (locs : List Loc) (ls : Array Slot), r32 s1.1 → Wd G A s H0 ad g s1.2.2 H locs → lv_has ls 7 [(0, .ref (ad x0)), (1, .int (iI x1)), (2, .int (iI x2)), (3, .int (iI s1.1)), (4, .int (iI x4))] → W p l e rX11_leastAt s mt args below meth c H locs 0 0 Q (F0 mt 68 ls [])) : W p l e rX11_leastAt s mt args below meth c H locs 0 0 Q (F0 mt 31 ls []) := by
  unfold bX11_leastAt_31 at hF
  refine q_iload C hl 5 rfl dX11_leastAt_31 ?_
  refine q_iconst C 3 dX11_leastAt_33 ?_
  refine q_icmp_ge C hx5 (rl 3 rfl) 68 dX11_leastAt_34 (by decide) (fun hc1 => ?_) (fun hc1 => ?_)
  · have hF := if_t hc1 hF
    cases hF
    exact K1 rfl _ _ _ hx3 S (lv_sub hl [0, 1, 2, 3, 4] rfl)
  · have hF := if_f hc1 hF
    refine q_aload_n C hl 0 rfl rfl dX11_leastAt_37 ?_
    refine q_iload_n C hl 1 rfl rfl dX11_leastAt_38 ?_
    refine q_iload_n C hl 2 rfl rfl dX11_leastAt_39 ?_
    refine q_iload C hl 4 rfl dX11_leastAt_40 ?_
    refine q_iload C hl 5 rfl dX11_leastAt_42 ?_
    obtain ⟨v2, m3, h4, hF⟩ := bd2_ok hF
    refine q_ci S (run_V (As := [.int (iI x1), .int (iI x2), .int (iI x4), .int (iI x5)]) (rest := []) C S (cX11_costBy_ok l G hx0 hx1 hx2 hx4 hx5 h4 ad _) hx0 ⟨by decide, _, _, rfl⟩ gd_RX11_208 hdV_X11_costBy rfl ⟨rfl, rfl, by decide, by decide⟩ ⟨Nat.zero_le _, Nat.zero_le _⟩ hl.1 rfl (Nat.le_of_ble_eq_true rfl) dX11_leastAt_44) (fun H locs Sm3 h5 => ?_)
    refine q_istore C hl [(6, .int (iI v2)), (0, .ref (ad x0)), (1, .int (iI x1)), (2, .int (iI x2)), (3, .int (iI x3)), (4, .int (iI x4)), (5, .int (iI x5))] rfl (by decide) rfl dX11_leastAt_47 (fun ls hl => ?_)
    refine q_iload C hl 0 rfl dX11_leastAt_49 ?_
    refine q_iload_n C hl 4 rfl rfl dX11_leastAt_51 ?_
    refine q_icmp_ge C h5.1 hx3 60 dX11_leastAt_52 (by decide) (fun hc6 => ?_) (fun hc6 => ?_)
    · have hF := if_t hc6 hF
      refine q_iload_n C hl 4 rfl rfl dX11_leastAt_60 ?_
      exact wX11_leastAt_61 C Sm3 hx0 hx1 hx2 hx4 hx5 hx3 (lv_sub hl [1, 2, 3, 5, 6] rfl) hF K0 K1
    · have hF := if_f hc6 hF
      refine q_iload C hl 0 rfl dX11_leastAt_55 ?_
      refine q_goto C 61 dX11_leastAt_57 (by decide) ?_
      exact wX11_leastAt_61 C Sm3 hx0 hx1 hx2 hx4 hx5 h5.1 (lv_sub hl [1, 2, 3, 5, 6] rfl) hF K0 K1
set_option maxRecDepth 20000 in
theorem lX11_leastAt_31 {p : Program} {l : Launch} {e : Env} {s : State} {mt : MethodId} {args : Array Value} {below : List Frame} {meth : Method} {c : Code} {Q : State → Prop} {G : Gl} {A : Nat → Prop} {H0 : Heap} {ad : Int → Nat} {g : Shp} {x0 x1 x2 x4 : Int} (C : CallFix p mt c cX11_leastAt 7 s args tb RX11) (hx0 : gk g x0 = 12) (hx1 : r32 x1) (hx2 : r32 x2) (hx4 : r32 x4) {n : Nat} {s0 s1 : (Int × Int × Mem)} {c1 : Int} (hI : iter (BX11_leastAt_31 g x0 x1 x2 x4) n s0 = some (c1, s1)) (K1 : c1 = 1 → ∀ (H : Heap) (locs : List Loc) (ls : Array Slot), r32 s1.1 → Wd G A s H0 ad g s1.2.2 H locs → lv_has ls 7 [(0, .ref (ad x0)), (1, .int (iI x1)), (2, .int (iI x2)), (3, .int (iI s1.1)), (4, .int (iI x4))] → W p l e rX11_leastAt s mt args below meth c H locs 0 0 Q (F0 mt 68 ls [])) : ∀ (H : Heap) (locs : List Loc) (ls : Array Slot), r32 s0.1 → r32 s0.2.1 → Wd G A s H0 ad g s0.2.2 H locs → lv_has ls 7 [(0, .ref (ad x0)), (1, .int (iI x1)), (2, .int (iI x2)), (3, .int (iI s0.1)), (4, .int (iI x4)), (5, .int (iI s0.2.1))] → W p l e rX11_leastAt s mt args below meth c H locs 0 0 Q (F0 mt 31 ls []) :=
  iter_W (Pw := fun q => ∀ (H : Heap) (locs : List Loc) (ls : Array Slot), r32 q.1 → r32 q.2.1 → Wd G A s H0 ad g q.2.2 H locs → lv_has ls 7 [(0, .ref (ad x0)), (1, .int (iI x1)), (2, .int (iI x2)), (3, .int (iI q.1)), (4, .int (iI x4)), (5, .int (iI q.2.1))] → W p l e rX11_leastAt s mt args below meth c H locs 0 0 Q (F0 mt 31 ls [])) (Px := fun c0 q => (c0 = 1 → ∀ (H : Heap) (locs : List Loc) (ls : Array Slot), r32 q.1 → Wd G A s H0 ad g q.2.2 H locs → lv_has ls 7 [(0, .ref (ad x0)), (1, .int (iI x1)), (2, .int (iI x2)), (3, .int (iI q.1)), (4, .int (iI x4))] → W p l e rX11_leastAt s mt args below meth c H locs 0 0 Q (F0 mt 68 ls [])))
    (fun s c s' hB K0 kx H locs ls f0 f1 S hl => wX11_leastAt_31 C S hx0 hx1 hx2 f0 hx4 f1 hl hB K0 (fun h9 => (kx (by rw [h9]; decide)) h9)) _ _ _ _ hI K1
set_option maxRecDepth 20000 in
theorem wX11_leastAt_68 {p : Program} {l : Launch} {e : Env} {s : State} {mt : MethodId} {args : Array Value} {below : List Frame} {meth : Method} {c : Code} {Q : State → Prop} {G : Gl} {A : Nat → Prop} {H0 : Heap} {ad : Int → Nat} {g : Shp} {H : Heap} {locs : List Loc} {ls : Array Slot} {m : Mem} {x0 x1 x2 x3 x4 : Int} (C : CallFix p mt c cX11_leastAt 7 s args tb RX11) (S : Wd G A s H0 ad g m H locs) (hx0 : gk g x0 = 12) (hx1 : r32 x1) (hx2 : r32 x2) (hx3 : r32 x3) (hx4 : r32 x4) (hl : lv_has ls 7 [(0, .ref (ad x0)), (1, .int (iI x1)), (2, .int (iI x2)), (3, .int (iI x3)), (4, .int (iI x4))]) {c1 : Int} {s1 : (Int × Int × Mem)} (hF : bX11_leastAt_68 g x0 x1 x2 x3 x4 m = some (c1, s1)) (K0 : c1 = 0 → ∀ (H : Heap) (locs : List Loc) (ls : Array Slot), r32 s1.1 → r32 s1.2.1 → Wd G A s H0 ad g s1.2.2 H locs → lv_has ls 7 [(0, .ref (ad x0)), (1, .int (iI x1)), (2, .int (iI x2)), (3, .int (iI s1.1)), (4, .int (iI s1.2.1))] → W p l e rX11_leastAt s mt args below meth c H locs 0 0 Q (F0 mt 6 ls [])) (K1 : c1 = 1 → ∀ (H : Heap) (locs : List Loc) (ls : Array Slot), r32 s1.1 → Wd G A s H0 ad g s1.2.2 H locs → lv_has ls 7 [(3, .int (iI s1.1))] → W p l e rX11_leastAt s mt args below meth c H locs 0 0 Q (F0 mt 74 ls [])) : W p l e rX11_leastAt s mt args below meth c H locs 0 0 Q (F0 mt 68 ls []) := by
  unfold bX11_leastAt_68 at hF
  obtain ⟨y1, ey1, hF⟩ := vv_ok hF
  have ry1 : r32 y1 := ey1 ▸ r32_w _
  refine q_iinc C hl 4 [(4, .int (iI y1)), (0, .ref (ad x0)), (1, .int (iI x1)), (2, .int (iI x2)), (3, .int (iI x3))] rfl ey1 (by decide) rfl dX11_leastAt_68 (fun ls hl => ?_)
  refine q_goto C 6 dX11_leastAt_71 (by decide) ?_
  cases hF
  exact K0 rfl _ _ _ hx3 ry1 S (lv_sub hl [1, 2, 3, 4, 0] rfl)
set_option maxRecDepth 20000 in
theorem wX11_leastAt_6 {p : Program} {l : Launch} {e : Env} {s : State} {mt : MethodId} {args : Array Value} {below : List Frame} {meth : Method} {c : Code} {Q : State → Prop} {G : Gl} {A : Nat → Prop} {H0 : Heap} {ad : Int → Nat} {g : Shp} {H : Heap} {locs : List Loc} {ls : Array Slot} {m : Mem} {x0 x1 x2 x3 x4 : Int} (C : CallFix p mt c cX11_leastAt 7 s args tb RX11) (S : Wd G A s H0 ad g m H locs) (hx0 : gk g x0 = 12) (hx1 : r32 x1) (hx2 : r32 x2) (hx3 : r32 x3) (hx4 : r32 x4) (hl : lv_has ls 7 [(0, .ref (ad x0)), (1, .int (iI x1)), (2, .int (iI x2)), (3, .int (iI x3)), (4, .int (iI x4))]) {c1 : Int} {s1 : (Int × Int × Mem)} (hF : bX11_leastAt_6 g x0 x1 x2 x3 x4 m = some (c1, s1)) (K0 : c1 = 0 → ∀ (H : Heap) (locs : List Loc) (ls : Array Slot), r32 s1.1 → r32 s1.2.1 → Wd G A s H0 ad g s1.2.2 H locs → lv_has ls 7 [(0, .ref (ad x0)), (1, .int (iI x1)), (2, .int (iI x2)), (3, .int (iI s1.1)), (4, .int (iI s1.2.1))] → W p l e rX11_leastAt s mt args below meth c H locs 0 0 Q (F0 mt 6 ls [])) (K1 : c1 = 1 → ∀ (H : Heap) (locs : List Loc) (ls : Array Slot), r32 s1.1 → Wd G A s H0 ad g s1.2.2 H locs → lv_has ls 7 [(3, .int (iI s1.1))] → W p l e rX11_leastAt s mt args below meth c H locs 0 0 Q (F0 mt 74 ls [])) : W p l e rX11_leastAt s mt args below meth c H locs 0 0 Q (F0 mt 6 ls []) := by
  unfold bX11_leastAt_6 at hF
  refine q_iload C hl 4 rfl dX11_leastAt_6 ?_
  refine q_aload_n C hl 0 rfl rfl dX11_leastAt_8 ?_
  obtain ⟨k1, hF⟩ := ck_ok hF
  refine q_getr C S 19 fo_RX11_40 (j := 19) rfl rfl hx0 k1 (by decide) dX11_leastAt_9 ?_
  refine q_iconst C 2 dX11_leastAt_12 ?_
  obtain ⟨i2, hF⟩ := ck_ok hF
  refine q_iald C S k1 i2 dX11_leastAt_13 ?_
  refine q_icmp_gt C hx4 (S.r _ _) 74 dX11_leastAt_14 (by decide) (fun hc3 => ?_) (fun hc3 => ?_)
  · have hF := if_t hc3 hF
    cases hF
    exact K1 rfl _ _ _ hx3 S (lv_sub hl [3] rfl)
  · have hF := if_f hc3 hF
    refine q_iload C hl 4 rfl dX11_leastAt_17 ?_
    refine q_aload_n C hl 0 rfl rfl dX11_leastAt_19 ?_
    obtain ⟨k4, hF⟩ := ck_ok hF
    refine q_getr C S 30 fo_RX11_68 (j := 30) rfl rfl hx0 k4 (by decide) dX11_leastAt_20 ?_
    refine q_iload_n C hl 1 rfl rfl dX11_leastAt_23 ?_
    obtain ⟨i5, hF⟩ := ck_ok hF
    refine q_iald C S k4 i5 dX11_leastAt_24 ?_
    refine q_icmp_gt C hx4 (S.r _ _) 74 dX11_leastAt_25 (by decide) (fun hc6 => ?_) (fun hc6 => ?_)
    · have hF := if_t hc6 hF
      cases hF
      exact K1 rfl _ _ _ hx3 S (lv_sub hl [3] rfl)
    · have hF := if_f hc6 hF
      refine q_iconst C 0 dX11_leastAt_28 ?_
      refine q_istore C hl [(5, .int (iI 0)), (0, .ref (ad x0)), (1, .int (iI x1)), (2, .int (iI x2)), (3, .int (iI x3)), (4, .int (iI x4))] rfl (by decide) rfl dX11_leastAt_29 (fun ls hl => ?_)
      obtain ⟨cv7, sv8, hi9, hF⟩ := bdl_ok hF
      refine lX11_leastAt_31 C hx0 hx1 hx2 hx4 hi9 ?_ _ _ _ hx3 (rl 0 rfl) S (lv_sub hl [1, 2, 3, 4, 5, 0] rfl)
      intro _ H locs ls f11 S10 hl
      exact wX11_leastAt_68 C S10 hx0 hx1 hx2 f11 hx4 (lv_sub hl [0, 1, 2, 3, 4] rfl) hF K0 K1
set_option maxRecDepth 20000 in
theorem lX11_leastAt_6 {p : Program} {l : Launch} {e : Env} {s : State} {mt : MethodId} {args : Array Value} {below : List Frame} {meth : Method} {c : Code} {Q : State → Prop} {G : Gl} {A : Nat → Prop} {H0 : Heap} {ad : Int → Nat} {g : Shp} {x0 x1 x2 : Int} (C : CallFix p mt c cX11_leastAt 7 s args tb RX11) (hx0 : gk g x0 = 12) (hx1 : r32 x1) (hx2 : r32 x2) {n : Nat} {s0 s1 : (Int × Int × Mem)} {c1 : Int} (hI : iter (BX11_leastAt_6 g x0 x1 x2) n s0 = some (c1, s1)) (K1 : c1 = 1 → ∀ (H : Heap) (locs : List Loc) (ls : Array Slot), r32 s1.1 → Wd G A s H0 ad g s1.2.2 H locs → lv_has ls 7 [(3, .int (iI s1.1))] → W p l e rX11_leastAt s mt args below meth c H locs 0 0 Q (F0 mt 74 ls [])) : ∀ (H : Heap) (locs : List Loc) (ls : Array Slot), r32 s0.1 → r32 s0.2.1 → Wd G A s H0 ad g s0.2.2 H locs → lv_has ls 7 [(0, .ref (ad x0)), (1, .int (iI x1)), (2, .int (iI x2)), (3, .int (iI s0.1)), (4, .int (iI s0.2.1))] → W p l e rX11_leastAt s mt args below meth c H locs 0 0 Q (F0 mt 6 ls []) :=
  iter_W (Pw := fun q => ∀ (H : Heap) (locs : List Loc) (ls : Array Slot), r32 q.1 → r32 q.2.1 → Wd G A s H0 ad g q.2.2 H locs → lv_has ls 7 [(0, .ref (ad x0)), (1, .int (iI x1)), (2, .int (iI x2)), (3, .int (iI q.1)), (4, .int (iI q.2.1))] → W p l e rX11_leastAt s mt args below meth c H locs 0 0 Q (F0 mt 6 ls [])) (Px := fun c0 q => (c0 = 1 → ∀ (H : Heap) (locs : List Loc) (ls : Array Slot), r32 q.1 → Wd G A s H0 ad g q.2.2 H locs → lv_has ls 7 [(3, .int (iI q.1))] → W p l e rX11_leastAt s mt args below meth c H locs 0 0 Q (F0 mt 74 ls [])))
    (fun s c s' hB K0 kx H locs ls f0 f1 S hl => wX11_leastAt_6 C S hx0 hx1 hx2 f0 f1 hl hB K0 (fun h9 => (kx (by rw [h9]; decide)) h9)) _ _ _ _ hI K1
set_option maxRecDepth 20000 in
theorem wX11_leastAt_74 {p : Program} {l : Launch} {e : Env} {s : State} {mt : MethodId} {args : Array Value} {below : List Frame} {meth : Method} {c : Code} {Q : State → Prop} {G : Gl} {A : Nat → Prop} {H0 : Heap} {ad : Int → Nat} {g : Shp} {H : Heap} {locs : List Loc} {ls : Array Slot} {m : Mem} {x3 : Int} (C : CallFix p mt c cX11_leastAt 7 s args tb RX11) (S : Wd G A s H0 ad g m H locs) (hx3 : r32 x3) (hl : lv_has ls 7 [(3, .int (iI x3))]) {r : Int} {m' : Mem} (hF : bX11_leastAt_74 g x3 m = some (r, m')) (Kr : ∀ (H : Heap) (locs : List Loc) (pc : Nat) (ls : Array Slot), Wd G A s H0 ad g m' H locs → decode cX11_leastAt pc = .ok (.ireturn, 1) → r32 r ∧ (false = true → r = 0 ∨ r = 1) → narrow .int (.int (iI r)) = .int (iI r) → W p l e rX11_leastAt s mt args below meth c H locs 0 0 Q (F0 mt pc ls [.int (iI r)])) : W p l e rX11_leastAt s mt args below meth c H locs 0 0 Q (F0 mt 74 ls []) := by
  unfold bX11_leastAt_74 at hF
  refine q_iload_n C hl 0 rfl rfl dX11_leastAt_74 ?_
  cases hF
  exact Kr _ _ _ _ S dX11_leastAt_75 ⟨hx3, fun h9 => absurd h9 (by decide)⟩ rfl
set_option maxRecDepth 20000 in
theorem wX11_leastAt_0 {p : Program} {l : Launch} {e : Env} {s : State} {mt : MethodId} {args : Array Value} {below : List Frame} {meth : Method} {c : Code} {Q : State → Prop} {G : Gl} {A : Nat → Prop} {H0 : Heap} {ad : Int → Nat} {g : Shp} {H : Heap} {locs : List Loc} {ls : Array Slot} {m : Mem} {x0 x1 x2 : Int} (C : CallFix p mt c cX11_leastAt 7 s args tb RX11) (S : Wd G A s H0 ad g m H locs) (hx0 : gk g x0 = 12) (hx1 : r32 x1) (hx2 : r32 x2) (hl : lv_has ls 7 [(0, .ref (ad x0)), (1, .int (iI x1)), (2, .int (iI x2))]) {r : Int} {m' : Mem} (hF : bX11_leastAt_0 g x0 x1 x2 m = some (r, m')) (Kr : ∀ (H : Heap) (locs : List Loc) (pc : Nat) (ls : Array Slot), Wd G A s H0 ad g m' H locs → decode cX11_leastAt pc = .ok (.ireturn, 1) → r32 r ∧ (false = true → r = 0 ∨ r = 1) → narrow .int (.int (iI r)) = .int (iI r) → W p l e rX11_leastAt s mt args below meth c H locs 0 0 Q (F0 mt pc ls [.int (iI r)])) : W p l e rX11_leastAt s mt args below meth c H locs 0 0 Q (F0 mt 0 ls []) := by
  unfold bX11_leastAt_0 at hF
  refine q_ldc C 1000000 (by decide) tw1115 dX11_leastAt_0 ?_
  refine q_istore_n C hl [(3, .int (iI 1000000)), (0, .ref (ad x0)), (1, .int (iI x1)), (2, .int (iI x2))] rfl rfl (by decide) rfl dX11_leastAt_2 (fun ls hl => ?_)
  refine q_iconst C 1 dX11_leastAt_3 ?_
  refine q_istore C hl [(4, .int (iI 1)), (3, .int (iI 1000000)), (0, .ref (ad x0)), (1, .int (iI x1)), (2, .int (iI x2))] rfl (by decide) rfl dX11_leastAt_4 (fun ls hl => ?_)
  obtain ⟨cv1, sv2, hi3, hF⟩ := bdl_ok hF
  refine lX11_leastAt_6 C hx0 hx1 hx2 hi3 ?_ _ _ _ (rl 1000000 rfl) (rl 1 rfl) S (lv_sub hl [2, 3, 4, 1, 0] rfl)
  intro _ H locs ls f5 S4 hl
  exact wX11_leastAt_74 C S4 f5 (lv_sub hl [0] rfl) hF Kr
theorem cX11_leastAt_ok (l : Launch) (G : Gl) {g : Shp} {x0 x1 x2 : Int} {m m' : Mem} {r : Int} (hx0 : gk g x0 = 12) (hx1 : r32 x1) (hx2 : r32 x2) (hF : fX11_leastAt g x0 x1 x2 m = some (r, m')) : mI l yX11_leastAt (wT yX11_leastAt cX11_leastAt 7 (some .int)) rX11_leastAt G false (fun ad => [.ref (ad x0), .int (iI x1), .int (iI x2)]) g m r m' :=
  met_i (by decide) (fun ad => Nat.le_of_ble_eq_true rfl) (fun p e s mt args below meth c Q A H0 H locs ad ls C hnm S hl Kr => wX11_leastAt_0 C S hx0 hx1 hx2 hl hF Kr)
set_option maxRecDepth 20000 in
theorem wX11_firstStone_87 {p : Program} {l : Launch} {e : Env} {s : State} {mt : MethodId} {args : Array Value} {below : List Frame} {meth : Method} {c : Code} {Q : State → Prop} {G : Gl} {A : Nat → Prop} {H0 : Heap} {ad : Int → Nat} {g : Shp} {H : Heap} {locs : List Loc} {ls : Array Slot} {m : Mem} {x0 x1 x2 x3 x4 x5 x6 : Int} (C : CallFix p mt c cX11_firstStone 8 s args tb RX11) (S : Wd G A s H0 ad g m H locs) (hx0 : gk g x0 = 12) (hx1 : r32 x1) (hx2 : r32 x2) (hx3 : r32 x3) (hx4 : r32 x4) (hx5 : r32 x5) (hx6 : r32 x6) (hl : lv_has ls 8 [(0, .ref (ad x0)), (1, .int (iI x1)), (2, .int (iI x2)), (3, .int (iI x3)), (4, .int (iI x4)), (5, .int (iI x5)), (6, .int (iI x6))]) {c1 : Int} {s1 : (Int × Mem)} (hF : bX11_firstStone_87 g x0 x1 x2 x3 x4 x5 x6 m = some (c1, s1)) (K0 : c1 = 0 → ∀ (H : Heap) (locs : List Loc) (ls : Array Slot), r32 s1.1 → Wd G A s H0 ad g s1.2 H locs → lv_has ls 8 [(0, .ref (ad x0)), (1, .int (iI x1)), (2, .int (iI x2)), (3, .int (iI x3)), (4, .int (iI x4)), (5, .int (iI x5)), (6, .int (iI s1.1))] → W p l e rX11_firstStone s mt args below meth c H locs 0 0 Q (F0 mt 25 ls [])) (K1 : c1 = 1 → ∀ (H : Heap) (locs : List Loc) (ls : Array Slot), r32 s1.1 → Wd G A s H0 ad g s1.2 H locs → lv_has ls 8 [(4, .int (iI x4)), (6, .int (iI s1.1))] → W p l e rX11_firstStone s mt args below meth c H locs 0 0 Q (F0 mt 79 ls [])) (K2 : c1 = 2 → ∀ (H : Heap) (locs : List Loc) (ls : Array Slot), Wd G A s H0 ad g s1.2 H locs → lv_has ls 8 [(0, .ref (ad x0)), (1, .int (iI x1)), (2, .int (iI x2)), (3, .int (iI x3)), (4, .int (iI x4)), (5, .int (iI x5))] → W p l e rX11_firstStone s mt args below meth c H locs 0 0 Q (F0 mt 93 ls [])) : W p l e rX11_firstStone s mt args below meth c H locs 0 0 Q (F0 mt 87 ls []) := by
  unfold bX11_firstStone_87 at hF
  obtain ⟨y1, ey1, hF⟩ := vv_ok hF
  have ry1 : r32 y1 := ey1 ▸ r32_w _
  refine q_iinc C hl 6 [(6, .int (iI y1)), (0, .ref (ad x0)), (1, .int (iI x1)), (2, .int (iI x2)), (3, .int (iI x3)), (4, .int (iI x4)), (5, .int (iI x5))] rfl ey1 (by decide) rfl dX11_firstStone_87 (fun ls hl => ?_)
  refine q_goto C 25 dX11_firstStone_90 (by decide) ?_
  cases hF
  exact K0 rfl _ _ _ ry1 S (lv_sub hl [1, 2, 3, 4, 5, 6, 0] rfl)
set_option maxRecDepth 20000 in
theorem wX11_firstStone_62 {p : Program} {l : Launch} {e : Env} {s : State} {mt : MethodId} {args : Array Value} {below : List Frame} {meth : Method} {c : Code} {Q : State → Prop} {G : Gl} {A : Nat → Prop} {H0 : Heap} {ad : Int → Nat} {g : Shp} {H : Heap} {locs : List Loc} {ls : Array Slot} {m : Mem} {x0 x1 x2 x3 x4 x5 x6 z0 z1 : Int} (C : CallFix p mt c cX11_firstStone 8 s args tb RX11) (S : Wd G A s H0 ad g m H locs) (hx0 : gk g x0 = 12) (hx1 : r32 x1) (hx2 : r32 x2) (hx3 : r32 x3) (hx4 : r32 x4) (hx5 : r32 x5) (hx6 : r32 x6) (hz0 : r32 z0) (hz1 : r32 z1) (hl : lv_has ls 8 [(0, .ref (ad x0)), (1, .int (iI x1)), (2, .int (iI x2)), (3, .int (iI x3)), (4, .int (iI x4)), (5, .int (iI x5)), (6, .int (iI x6))]) {c1 : Int} {s1 : (Int × Mem)} (hF : bX11_firstStone_62 g x0 x1 x2 x3 x4 x5 x6 z0 z1 m = some (c1, s1)) (K0 : c1 = 0 → ∀ (H : Heap) (locs : List Loc) (ls : Array Slot), r32 s1.1 → Wd G A s H0 ad g s1.2 H locs → lv_has ls 8 [(0, .ref (ad x0)), (1, .int (iI x1)), (2, .int (iI x2)), (3, .int (iI x3)), (4, .int (iI x4)), (5, .int (iI x5)), (6, .int (iI s1.1))] → W p l e rX11_firstStone s mt args below meth c H locs 0 0 Q (F0 mt 25 ls [])) (K1 : c1 = 1 → ∀ (H : Heap) (locs : List Loc) (ls : Array Slot), r32 s1.1 → Wd G A s H0 ad g s1.2 H locs → lv_has ls 8 [(4, .int (iI x4)), (6, .int (iI s1.1))] → W p l e rX11_firstStone s mt args below meth c H locs 0 0 Q (F0 mt 79 ls [])) (K2 : c1 = 2 → ∀ (H : Heap) (locs : List Loc) (ls : Array Slot), Wd G A s H0 ad g s1.2 H locs → lv_has ls 8 [(0, .ref (ad x0)), (1, .int (iI x1)), (2, .int (iI x2)), (3, .int (iI x3)), (4, .int (iI x4)), (5, .int (iI x5))] → W p l e rX11_firstStone s mt args below meth c H locs 0 0 Q (F0 mt 93 ls [])) : W p l e rX11_firstStone s mt args below meth c H locs 0 0 Q (F0 mt 62 ls [.int (iI z1), .int (iI z0)]) := by
  unfold bX11_firstStone_62 at hF
  refine q_icmp_ne C hz0 hz1 87 dX11_firstStone_62 (by decide) (fun hc1 => ?_) (fun hc1 => ?_)
  · have hF := if_t hc1 hF
    refine q_aload_n C hl 0 rfl rfl dX11_firstStone_65 ?_
    refine q_iload_n C hl 1 rfl rfl dX11_firstStone_66 ?_
    refine q_iload_n C hl 2 rfl rfl dX11_firstStone_67 ?_
    refine q_iload C hl 4 rfl dX11_firstStone_68 ?_
    refine q_iload C hl 6 rfl dX11_firstStone_70 ?_
    obtain ⟨v2, m3, h4, hF⟩ := bd2_ok hF
    refine q_ci S (run_V (As := [.int (iI x1), .int (iI x2), .int (iI x4), .int (iI x6)]) (rest := []) C S (cX11_costBy_ok l G hx0 hx1 hx2 hx4 hx6 h4 ad _) hx0 ⟨by decide, _, _, rfl⟩ gd_RX11_208 hdV_X11_costBy rfl ⟨rfl, rfl, by decide, by decide⟩ ⟨Nat.zero_le _, Nat.zero_le _⟩ hl.1 rfl (Nat.le_of_ble_eq_true rfl) dX11_firstStone_72) (fun H locs Sm3 h5 => ?_)
    refine q_iload_n C hl 3 rfl rfl dX11_firstStone_75 ?_
    refine q_icmp_ne C h5.1 hx3 87 dX11_firstStone_76 (by decide) (fun hc6 => ?_) (fun hc6 => ?_)
    · have hF := if_t hc6 hF
      cases hF
      exact K1 rfl _ _ _ hx6 Sm3 (lv_sub hl [4, 6] rfl)
    · have hF := if_f hc6 hF
      exact wX11_firstStone_87 C Sm3 hx0 hx1 hx2 hx3 hx4 hx5 hx6 (lv_sub hl [0, 1, 2, 3, 4, 5, 6] rfl) hF K0 K1 K2
  · have hF := if_f hc1 hF
    exact wX11_firstStone_87 C S hx0 hx1 hx2 hx3 hx4 hx5 hx6 (lv_sub hl [0, 1, 2, 3, 4, 5, 6] rfl) hF K0 K1 K2
set_option maxRecDepth 20000 in
theorem wX11_firstStone_48 {p : Program} {l : Launch} {e : Env} {s : State} {mt : MethodId} {args : Array Value} {below : List Frame} {meth : Method} {c : Code} {Q : State → Prop} {G : Gl} {A : Nat → Prop} {H0 : Heap} {ad : Int → Nat} {g : Shp} {H : Heap} {locs : List Loc} {ls : Array Slot} {m : Mem} {x0 x1 x2 x3 x4 x5 x6 z0 : Int} (C : CallFix p mt c cX11_firstStone 8 s args tb RX11) (S : Wd G A s H0 ad g m H locs) (hx0 : gk g x0 = 12) (hx1 : r32 x1) (hx2 : r32 x2) (hx3 : r32 x3) (hx4 : r32 x4) (hx5 : r32 x5) (hx6 : r32 x6) (hz0 : r32 z0) (hl : lv_has ls 8 [(0, .ref (ad x0)), (1, .int (iI x1)), (2, .int (iI x2)), (3, .int (iI x3)), (4, .int (iI x4)), (5, .int (iI x5)), (6, .int (iI x6))]) {c1 : Int} {s1 : (Int × Mem)} (hF : bX11_firstStone_48 g x0 x1 x2 x3 x4 x5 x6 z0 m = some (c1, s1)) (K0 : c1 = 0 → ∀ (H : Heap) (locs : List Loc) (ls : Array Slot), r32 s1.1 → Wd G A s H0 ad g s1.2 H locs → lv_has ls 8 [(0, .ref (ad x0)), (1, .int (iI x1)), (2, .int (iI x2)), (3, .int (iI x3)), (4, .int (iI x4)), (5, .int (iI x5)), (6, .int (iI s1.1))] → W p l e rX11_firstStone s mt args below meth c H locs 0 0 Q (F0 mt 25 ls [])) (K1 : c1 = 1 → ∀ (H : Heap) (locs : List Loc) (ls : Array Slot), r32 s1.1 → Wd G A s H0 ad g s1.2 H locs → lv_has ls 8 [(4, .int (iI x4)), (6, .int (iI s1.1))] → W p l e rX11_firstStone s mt args below meth c H locs 0 0 Q (F0 mt 79 ls [])) (K2 : c1 = 2 → ∀ (H : Heap) (locs : List Loc) (ls : Array Slot), Wd G A s H0 ad g s1.2 H locs → lv_has ls 8 [(0, .ref (ad x0)), (1, .int (iI x1)), (2, .int (iI x2)), (3, .int (iI x3)), (4, .int (iI x4)), (5, .int (iI x5))] → W p l e rX11_firstStone s mt args below meth c H locs 0 0 Q (F0 mt 93 ls [])) : W p l e rX11_firstStone s mt args below meth c H locs 0 0 Q (F0 mt 48 ls [.int (iI z0)]) := by
  unfold bX11_firstStone_48 at hF
  refine q_istore C hl [(7, .int (iI z0)), (0, .ref (ad x0)), (1, .int (iI x1)), (2, .int (iI x2)), (3, .int (iI x3)), (4, .int (iI x4)), (5, .int (iI x5)), (6, .int (iI x6))] rfl (by decide) rfl dX11_firstStone_48 (fun ls hl => ?_)
  refine q_iload C hl 0 rfl dX11_firstStone_50 ?_
  refine q_iload C hl 6 rfl dX11_firstStone_52 ?_
  refine q_if_ne C hx5 61 dX11_firstStone_54 (by decide) (fun hc1 => ?_) (fun hc1 => ?_)
  · have hF := if_t hc1 hF
    refine q_iconst C 1 dX11_firstStone_57 ?_
    refine q_goto C 62 dX11_firstStone_58 (by decide) ?_
    exact wX11_firstStone_62 C S hx0 hx1 hx2 hx3 hx4 hx5 hx6 hz0 (rl 1 rfl) (lv_sub hl [1, 2, 3, 4, 5, 6, 7] rfl) hF K0 K1 K2
  · have hF := if_f hc1 hF
    refine q_iconst C 0 dX11_firstStone_61 ?_
    exact wX11_firstStone_62 C S hx0 hx1 hx2 hx3 hx4 hx5 hx6 hz0 (rl 0 rfl) (lv_sub hl [1, 2, 3, 4, 5, 6, 7] rfl) hF K0 K1 K2
set_option maxRecDepth 20000 in
theorem wX11_firstStone_25 {p : Program} {l : Launch} {e : Env} {s : State} {mt : MethodId} {args : Array Value} {below : List Frame} {meth : Method} {c : Code} {Q : State → Prop} {G : Gl} {A : Nat → Prop} {H0 : Heap} {ad : Int → Nat} {g : Shp} {H : Heap} {locs : List Loc} {ls : Array Slot} {m : Mem} {x0 x1 x2 x3 x4 x5 x6 : Int} (C : CallFix p mt c cX11_firstStone 8 s args tb RX11) (S : Wd G A s H0 ad g m H locs) (hx0 : gk g x0 = 12) (hx1 : r32 x1) (hx2 : r32 x2) (hx3 : r32 x3) (hx4 : r32 x4) (hx5 : r32 x5) (hx6 : r32 x6) (hl : lv_has ls 8 [(0, .ref (ad x0)), (1, .int (iI x1)), (2, .int (iI x2)), (3, .int (iI x3)), (4, .int (iI x4)), (5, .int (iI x5)), (6, .int (iI x6))]) {c1 : Int} {s1 : (Int × Mem)} (hF : bX11_firstStone_25 g x0 x1 x2 x3 x4 x5 x6 m = some (c1, s1)) (K0 : c1 = 0 → ∀ (H : Heap) (locs : List Loc) (ls : Array Slot), r32 s1.1 → Wd G A s H0 ad g s1.2 H locs → lv_has ls 8 [(0, .ref (ad x0)), (1, .int (iI x1)), (2, .int (iI x2)), (3, .int (iI x3)), (4, .int (iI x4)), (5, .int (iI x5)), (6, .int (iI s1.1))] → W p l e rX11_firstStone s mt args below meth c H locs 0 0 Q (F0 mt 25 ls [])) (K1 : c1 = 1 → ∀ (H : Heap) (locs : List Loc) (ls : Array Slot), r32 s1.1 → Wd G A s H0 ad g s1.2 H locs → lv_has ls 8 [(4, .int (iI x4)), (6, .int (iI s1.1))] → W p l e rX11_firstStone s mt args below meth c H locs 0 0 Q (F0 mt 79 ls [])) (K2 : c1 = 2 → ∀ (H : Heap) (locs : List Loc) (ls : Array Slot), Wd G A s H0 ad g s1.2 H locs → lv_has ls 8 [(0, .ref (ad x0)), (1, .int (iI x1)), (2, .int (iI x2)), (3, .int (iI x3)), (4, .int (iI x4)), (5, .int (iI x5))] → W p l e rX11_firstStone s mt args below meth c H locs 0 0 Q (F0 mt 93 ls [])) : W p l e rX11_firstStone s mt args below meth c H locs 0 0 Q (F0 mt 25 ls []) := by
  unfold bX11_firstStone_25 at hF
  refine q_iload C hl 6 rfl dX11_firstStone_25 ?_
  refine q_iconst C 3 dX11_firstStone_27 ?_
  refine q_icmp_ge C hx6 (rl 3 rfl) 93 dX11_firstStone_28 (by decide) (fun hc1 => ?_) (fun hc1 => ?_)
  · have hF := if_t hc1 hF
    cases hF
    exact K2 rfl _ _ _  S (lv_sub hl [0, 1, 2, 3, 4, 5] rfl)
  · have hF := if_f hc1 hF
    refine q_aload_n C hl 0 rfl rfl dX11_firstStone_31 ?_
    obtain ⟨k2, hF⟩ := ck_ok hF
    refine q_getr C S 19 fo_RX11_40 (j := 19) rfl rfl hx0 k2 (by decide) dX11_firstStone_32 ?_
    refine q_iload C hl 6 rfl dX11_firstStone_35 ?_
    obtain ⟨i3, hF⟩ := ck_ok hF
    refine q_iald C S k2 i3 dX11_firstStone_37 ?_
    refine q_iload C hl 4 rfl dX11_firstStone_38 ?_
    refine q_icmp_ne C (S.r _ _) hx4 47 dX11_firstStone_40 (by decide) (fun hc4 => ?_) (fun hc4 => ?_)
    · have hF := if_t hc4 hF
      refine q_iconst C 1 dX11_firstStone_43 ?_
      refine q_goto C 48 dX11_firstStone_44 (by decide) ?_
      exact wX11_firstStone_48 C S hx0 hx1 hx2 hx3 hx4 hx5 hx6 (rl 1 rfl) (lv_sub hl [0, 1, 2, 3, 4, 5, 6] rfl) hF K0 K1 K2
    · have hF := if_f hc4 hF
      refine q_iconst C 0 dX11_firstStone_47 ?_
      exact wX11_firstStone_48 C S hx0 hx1 hx2 hx3 hx4 hx5 hx6 (rl 0 rfl) (lv_sub hl [0, 1, 2, 3, 4, 5, 6] rfl) hF K0 K1 K2
set_option maxRecDepth 20000 in
theorem lX11_firstStone_25 {p : Program} {l : Launch} {e : Env} {s : State} {mt : MethodId} {args : Array Value} {below : List Frame} {meth : Method} {c : Code} {Q : State → Prop} {G : Gl} {A : Nat → Prop} {H0 : Heap} {ad : Int → Nat} {g : Shp} {x0 x1 x2 x3 x4 x5 : Int} (C : CallFix p mt c cX11_firstStone 8 s args tb RX11) (hx0 : gk g x0 = 12) (hx1 : r32 x1) (hx2 : r32 x2) (hx3 : r32 x3) (hx4 : r32 x4) (hx5 : r32 x5) {n : Nat} {s0 s1 : (Int × Mem)} {c1 : Int} (hI : iter (BX11_firstStone_25 g x0 x1 x2 x3 x4 x5) n s0 = some (c1, s1)) (K1 : c1 = 1 → ∀ (H : Heap) (locs : List Loc) (ls : Array Slot), r32 s1.1 → Wd G A s H0 ad g s1.2 H locs → lv_has ls 8 [(4, .int (iI x4)), (6, .int (iI s1.1))] → W p l e rX11_firstStone s mt args below meth c H locs 0 0 Q (F0 mt 79 ls [])) (K2 : c1 = 2 → ∀ (H : Heap) (locs : List Loc) (ls : Array Slot), Wd G A s H0 ad g s1.2 H locs → lv_has ls 8 [(0, .ref (ad x0)), (1, .int (iI x1)), (2, .int (iI x2)), (3, .int (iI x3)), (4, .int (iI x4)), (5, .int (iI x5))] → W p l e rX11_firstStone s mt args below meth c H locs 0 0 Q (F0 mt 93 ls [])) : ∀ (H : Heap) (locs : List Loc) (ls : Array Slot), r32 s0.1 → Wd G A s H0 ad g s0.2 H locs → lv_has ls 8 [(0, .ref (ad x0)), (1, .int (iI x1)), (2, .int (iI x2)), (3, .int (iI x3)), (4, .int (iI x4)), (5, .int (iI x5)), (6, .int (iI s0.1))] → W p l e rX11_firstStone s mt args below meth c H locs 0 0 Q (F0 mt 25 ls []) :=
  iter_W (Pw := fun q => ∀ (H : Heap) (locs : List Loc) (ls : Array Slot), r32 q.1 → Wd G A s H0 ad g q.2 H locs → lv_has ls 8 [(0, .ref (ad x0)), (1, .int (iI x1)), (2, .int (iI x2)), (3, .int (iI x3)), (4, .int (iI x4)), (5, .int (iI x5)), (6, .int (iI q.1))] → W p l e rX11_firstStone s mt args below meth c H locs 0 0 Q (F0 mt 25 ls [])) (Px := fun c0 q => (c0 = 1 → ∀ (H : Heap) (locs : List Loc) (ls : Array Slot), r32 q.1 → Wd G A s H0 ad g q.2 H locs → lv_has ls 8 [(4, .int (iI x4)), (6, .int (iI q.1))] → W p l e rX11_firstStone s mt args below meth c H locs 0 0 Q (F0 mt 79 ls [])) ∧ (c0 = 2 → ∀ (H : Heap) (locs : List Loc) (ls : Array Slot), Wd G A s H0 ad g q.2 H locs → lv_has ls 8 [(0, .ref (ad x0)), (1, .int (iI x1)), (2, .int (iI x2)), (3, .int (iI x3)), (4, .int (iI x4)), (5, .int (iI x5))] → W p l e rX11_firstStone s mt args below meth c H locs 0 0 Q (F0 mt 93 ls [])))
    (fun s c s' hB K0 kx H locs ls f0 S hl => wX11_firstStone_25 C S hx0 hx1 hx2 hx3 hx4 hx5 f0 hl hB K0 (fun h9 => (kx (by rw [h9]; decide)).1 h9) (fun h9 => (kx (by rw [h9]; decide)).2 h9)) _ _ _ _ hI ⟨K1, K2⟩
set_option maxRecDepth 20000 in
theorem wX11_firstStone_93 {p : Program} {l : Launch} {e : Env} {s : State} {mt : MethodId} {args : Array Value} {below : List Frame} {meth : Method} {c : Code} {Q : State → Prop} {G : Gl} {A : Nat → Prop} {H0 : Heap} {ad : Int → Nat} {g : Shp} {H : Heap} {locs : List Loc} {ls : Array Slot} {m : Mem} {x0 x1 x2 x3 x4 x5 : Int} (C : CallFix p mt c cX11_firstStone 8 s args tb RX11) (S : Wd G A s H0 ad g m H locs) (hx0 : gk g x0 = 12) (hx1 : r32 x1) (hx2 : r32 x2) (hx3 : r32 x3) (hx4 : r32 x4) (hx5 : r32 x5) (hl : lv_has ls 8 [(0, .ref (ad x0)), (1, .int (iI x1)), (2, .int (iI x2)), (3, .int (iI x3)), (4, .int (iI x4)), (5, .int (iI x5))]) {c1 : Int} {s1 : (Int × Int × Mem)} (hF : bX11_firstStone_93 g x0 x1 x2 x3 x4 x5 m = some (c1, s1)) (K0 : c1 = 0 → ∀ (H : Heap) (locs : List Loc) (ls : Array Slot), r32 s1.1 → Wd G A s H0 ad g s1.2.2 H locs → lv_has ls 8 [(0, .ref (ad x0)), (1, .int (iI x1)), (2, .int (iI x2)), (3, .int (iI x3)), (4, .int (iI x4)), (5, .int (iI s1.1))] → W p l e rX11_firstStone s mt args below meth c H locs 0 0 Q (F0 mt 16 ls [])) (K1 : c1 = 1 → ∀ (H : Heap) (locs : List Loc) (ls : Array Slot), r32 s1.2.1 → Wd G A s H0 ad g s1.2.2 H locs → lv_has ls 8 [(4, .int (iI x4)), (6, .int (iI s1.2.1))] → W p l e rX11_firstStone s mt args below meth c H locs 0 0 Q (F0 mt 79 ls [])) (K2 : c1 = 2 → ∀ (H : Heap) (locs : List Loc) (ls : Array Slot), Wd G A s H0 ad g s1.2.2 H locs → lv_has ls 8 [(0, .ref (ad x0)), (1, .int (iI x1)), (2, .int (iI x2)), (3, .int (iI x3)), (4, .int (iI x4))] → W p l e rX11_firstStone s mt args below meth c H locs 0 0 Q (F0 mt 99 ls [])) : W p l e rX11_firstStone s mt args below meth c H locs 0 0 Q (F0 mt 93 ls []) := by
  unfold bX11_firstStone_93 at hF
  obtain ⟨y1, ey1, hF⟩ := vv_ok hF
  have ry1 : r32 y1 := ey1 ▸ r32_w _
  refine q_iinc C hl 5 [(5, .int (iI y1)), (0, .ref (ad x0)), (1, .int (iI x1)), (2, .int (iI x2)), (3, .int (iI x3)), (4, .int (iI x4))] rfl ey1 (by decide) rfl dX11_firstStone_93 (fun ls hl => ?_)
  refine q_goto C 16 dX11_firstStone_96 (by decide) ?_
  cases hF
  exact K0 rfl _ _ _ ry1 S (lv_sub hl [1, 2, 3, 4, 5, 0] rfl)
set_option maxRecDepth 20000 in
theorem wX11_firstStone_16 {p : Program} {l : Launch} {e : Env} {s : State} {mt : MethodId} {args : Array Value} {below : List Frame} {meth : Method} {c : Code} {Q : State → Prop} {G : Gl} {A : Nat → Prop} {H0 : Heap} {ad : Int → Nat} {g : Shp} {H : Heap} {locs : List Loc} {ls : Array Slot} {m : Mem} {x0 x1 x2 x3 x4 x5 : Int} (C : CallFix p mt c cX11_firstStone 8 s args tb RX11) (S : Wd G A s H0 ad g m H locs) (hx0 : gk g x0 = 12) (hx1 : r32 x1) (hx2 : r32 x2) (hx3 : r32 x3) (hx4 : r32 x4) (hx5 : r32 x5) (hl : lv_has ls 8 [(0, .ref (ad x0)), (1, .int (iI x1)), (2, .int (iI x2)), (3, .int (iI x3)), (4, .int (iI x4)), (5, .int (iI x5))]) {c1 : Int} {s1 : (Int × Int × Mem)} (hF : bX11_firstStone_16 g x0 x1 x2 x3 x4 x5 m = some (c1, s1)) (K0 : c1 = 0 → ∀ (H : Heap) (locs : List Loc) (ls : Array Slot), r32 s1.1 → Wd G A s H0 ad g s1.2.2 H locs → lv_has ls 8 [(0, .ref (ad x0)), (1, .int (iI x1)), (2, .int (iI x2)), (3, .int (iI x3)), (4, .int (iI x4)), (5, .int (iI s1.1))] → W p l e rX11_firstStone s mt args below meth c H locs 0 0 Q (F0 mt 16 ls [])) (K1 : c1 = 1 → ∀ (H : Heap) (locs : List Loc) (ls : Array Slot), r32 s1.2.1 → Wd G A s H0 ad g s1.2.2 H locs → lv_has ls 8 [(4, .int (iI x4)), (6, .int (iI s1.2.1))] → W p l e rX11_firstStone s mt args below meth c H locs 0 0 Q (F0 mt 79 ls [])) (K2 : c1 = 2 → ∀ (H : Heap) (locs : List Loc) (ls : Array Slot), Wd G A s H0 ad g s1.2.2 H locs → lv_has ls 8 [(0, .ref (ad x0)), (1, .int (iI x1)), (2, .int (iI x2)), (3, .int (iI x3)), (4, .int (iI x4))] → W p l e rX11_firstStone s mt args below meth c H locs 0 0 Q (F0 mt 99 ls [])) : W p l e rX11_firstStone s mt args below meth c H locs 0 0 Q (F0 mt 16 ls []) := by
  unfold bX11_firstStone_16 at hF
  refine q_iload C hl 5 rfl dX11_firstStone_16 ?_
  refine q_iconst C 2 dX11_firstStone_18 ?_
  refine q_icmp_ge C hx5 (rl 2 rfl) 99 dX11_firstStone_19 (by decide) (fun hc1 => ?_) (fun hc1 => ?_)
  · have hF := if_t hc1 hF
    cases hF
    exact K2 rfl _ _ _  S (lv_sub hl [0, 1, 2, 3, 4] rfl)
  · have hF := if_f hc1 hF
    refine q_iconst C 0 dX11_firstStone_22 ?_
    refine q_istore C hl [(6, .int (iI 0)), (0, .ref (ad x0)), (1, .int (iI x1)), (2, .int (iI x2)), (3, .int (iI x3)), (4, .int (iI x4)), (5, .int (iI x5))] rfl (by decide) rfl dX11_firstStone_23 (fun ls hl => ?_)
    obtain ⟨cv2, sv3, hi4, hF⟩ := bdl_ok hF
    refine lX11_firstStone_25 C hx0 hx1 hx2 hx3 hx4 hx5 hi4 ?_ ?_ _ _ _ (rl 0 rfl) S (lv_sub hl [1, 2, 3, 4, 5, 6, 0] rfl)
    · intro hc5 H locs ls f7 S6 hl
      have hF := if_t hc5 hF
      cases hF
      exact K1 rfl _ _ _ f7 S6 (lv_sub hl [0, 1] rfl)
    · intro hc8 H locs ls  S9 hl
      have hF := if_f (by rw [hc8]; decide) hF
      exact wX11_firstStone_93 C S9 hx0 hx1 hx2 hx3 hx4 hx5 (lv_sub hl [0, 1, 2, 3, 4, 5] rfl) hF K0 K1 K2
set_option maxRecDepth 20000 in
theorem lX11_firstStone_16 {p : Program} {l : Launch} {e : Env} {s : State} {mt : MethodId} {args : Array Value} {below : List Frame} {meth : Method} {c : Code} {Q : State → Prop} {G : Gl} {A : Nat → Prop} {H0 : Heap} {ad : Int → Nat} {g : Shp} {x0 x1 x2 x3 x4 : Int} (C : CallFix p mt c cX11_firstStone 8 s args tb RX11) (hx0 : gk g x0 = 12) (hx1 : r32 x1) (hx2 : r32 x2) (hx3 : r32 x3) (hx4 : r32 x4) {n : Nat} {s0 s1 : (Int × Int × Mem)} {c1 : Int} (hI : iter (BX11_firstStone_16 g x0 x1 x2 x3 x4) n s0 = some (c1, s1)) (K1 : c1 = 1 → ∀ (H : Heap) (locs : List Loc) (ls : Array Slot), r32 s1.2.1 → Wd G A s H0 ad g s1.2.2 H locs → lv_has ls 8 [(4, .int (iI x4)), (6, .int (iI s1.2.1))] → W p l e rX11_firstStone s mt args below meth c H locs 0 0 Q (F0 mt 79 ls [])) (K2 : c1 = 2 → ∀ (H : Heap) (locs : List Loc) (ls : Array Slot), Wd G A s H0 ad g s1.2.2 H locs → lv_has ls 8 [(0, .ref (ad x0)), (1, .int (iI x1)), (2, .int (iI x2)), (3, .int (iI x3)), (4, .int (iI x4))] → W p l e rX11_firstStone s mt args below meth c H locs 0 0 Q (F0 mt 99 ls [])) : ∀ (H : Heap) (locs : List Loc) (ls : Array Slot), r32 s0.1 → Wd G A s H0 ad g s0.2.2 H locs → lv_has ls 8 [(0, .ref (ad x0)), (1, .int (iI x1)), (2, .int (iI x2)), (3, .int (iI x3)), (4, .int (iI x4)), (5, .int (iI s0.1))] → W p l e rX11_firstStone s mt args below meth c H locs 0 0 Q (F0 mt 16 ls []) :=
  iter_W (Pw := fun q => ∀ (H : Heap) (locs : List Loc) (ls : Array Slot), r32 q.1 → Wd G A s H0 ad g q.2.2 H locs → lv_has ls 8 [(0, .ref (ad x0)), (1, .int (iI x1)), (2, .int (iI x2)), (3, .int (iI x3)), (4, .int (iI x4)), (5, .int (iI q.1))] → W p l e rX11_firstStone s mt args below meth c H locs 0 0 Q (F0 mt 16 ls [])) (Px := fun c0 q => (c0 = 1 → ∀ (H : Heap) (locs : List Loc) (ls : Array Slot), r32 q.2.1 → Wd G A s H0 ad g q.2.2 H locs → lv_has ls 8 [(4, .int (iI x4)), (6, .int (iI q.2.1))] → W p l e rX11_firstStone s mt args below meth c H locs 0 0 Q (F0 mt 79 ls [])) ∧ (c0 = 2 → ∀ (H : Heap) (locs : List Loc) (ls : Array Slot), Wd G A s H0 ad g q.2.2 H locs → lv_has ls 8 [(0, .ref (ad x0)), (1, .int (iI x1)), (2, .int (iI x2)), (3, .int (iI x3)), (4, .int (iI x4))] → W p l e rX11_firstStone s mt args below meth c H locs 0 0 Q (F0 mt 99 ls [])))
    (fun s c s' hB K0 kx H locs ls f0 S hl => wX11_firstStone_16 C S hx0 hx1 hx2 hx3 hx4 f0 hl hB K0 (fun h9 => (kx (by rw [h9]; decide)).1 h9) (fun h9 => (kx (by rw [h9]; decide)).2 h9)) _ _ _ _ hI ⟨K1, K2⟩
set_option maxRecDepth 20000 in
theorem wX11_firstStone_99 {p : Program} {l : Launch} {e : Env} {s : State} {mt : MethodId} {args : Array Value} {below : List Frame} {meth : Method} {c : Code} {Q : State → Prop} {G : Gl} {A : Nat → Prop} {H0 : Heap} {ad : Int → Nat} {g : Shp} {H : Heap} {locs : List Loc} {ls : Array Slot} {m : Mem} {x0 x1 x2 x3 x4 : Int} (C : CallFix p mt c cX11_firstStone 8 s args tb RX11) (S : Wd G A s H0 ad g m H locs) (hx0 : gk g x0 = 12) (hx1 : r32 x1) (hx2 : r32 x2) (hx3 : r32 x3) (hx4 : r32 x4) (hl : lv_has ls 8 [(0, .ref (ad x0)), (1, .int (iI x1)), (2, .int (iI x2)), (3, .int (iI x3)), (4, .int (iI x4))]) {c1 : Int} {s1 : (Int × Int × Mem)} (hF : bX11_firstStone_99 g x0 x1 x2 x3 x4 m = some (c1, s1)) (K0 : c1 = 0 → ∀ (H : Heap) (locs : List Loc) (ls : Array Slot), r32 s1.1 → Wd G A s H0 ad g s1.2.2 H locs → lv_has ls 8 [(0, .ref (ad x0)), (1, .int (iI x1)), (2, .int (iI x2)), (3, .int (iI x3)), (4, .int (iI s1.1))] → W p l e rX11_firstStone s mt args below meth c H locs 0 0 Q (F0 mt 8 ls [])) (K1 : c1 = 1 → ∀ (H : Heap) (locs : List Loc) (ls : Array Slot), r32 s1.1 → r32 s1.2.1 → Wd G A s H0 ad g s1.2.2 H locs → lv_has ls 8 [(4, .int (iI s1.1)), (6, .int (iI s1.2.1))] → W p l e rX11_firstStone s mt args below meth c H locs 0 0 Q (F0 mt 79 ls [])) (K2 : c1 = 2 → ∀ (H : Heap) (locs : List Loc) (ls : Array Slot), Wd G A s H0 ad g s1.2.2 H locs → lv_has ls 8 [] → W p l e rX11_firstStone s mt args below meth c H locs 0 0 Q (F0 mt 105 ls [])) : W p l e rX11_firstStone s mt args below meth c H locs 0 0 Q (F0 mt 99 ls []) := by
  unfold bX11_firstStone_99 at hF
  obtain ⟨y1, ey1, hF⟩ := vv_ok hF
  have ry1 : r32 y1 := ey1 ▸ r32_w _
  refine q_iinc C hl 4 [(4, .int (iI y1)), (0, .ref (ad x0)), (1, .int (iI x1)), (2, .int (iI x2)), (3, .int (iI x3))] rfl ey1 (by decide) rfl dX11_firstStone_99 (fun ls hl => ?_)
  refine q_goto C 8 dX11_firstStone_102 (by decide) ?_
  cases hF
  exact K0 rfl _ _ _ ry1 S (lv_sub hl [1, 2, 3, 4, 0] rfl)
set_option maxRecDepth 20000 in
theorem wX11_firstStone_8 {p : Program} {l : Launch} {e : Env} {s : State} {mt : MethodId} {args : Array Value} {below : List Frame} {meth : Method} {c : Code} {Q : State → Prop} {G : Gl} {A : Nat → Prop} {H0 : Heap} {ad : Int → Nat} {g : Shp} {H : Heap} {locs : List Loc} {ls : Array Slot} {m : Mem} {x0 x1 x2 x3 x4 : Int} (C : CallFix p mt c cX11_firstStone 8 s args tb RX11) (S : Wd G A s H0 ad g m H locs) (hx0 : gk g x0 = 12) (hx1 : r32 x1) (hx2 : r32 x2) (hx3 : r32 x3) (hx4 : r32 x4) (hl : lv_has ls 8 [(0, .ref (ad x0)), (1, .int (iI x1)), (2, .int (iI x2)), (3, .int (iI x3)), (4, .int (iI x4))]) {c1 : Int} {s1 : (Int × Int × Mem)} (hF : bX11_firstStone_8 g x0 x1 x2 x3 x4 m = some (c1, s1)) (K0 : c1 = 0 → ∀ (H : Heap) (locs : List Loc) (ls : Array Slot), r32 s1.1 → Wd G A s H0 ad g s1.2.2 H locs → lv_has ls 8 [(0, .ref (ad x0)), (1, .int (iI x1)), (2, .int (iI x2)), (3, .int (iI x3)), (4, .int (iI s1.1))] → W p l e rX11_firstStone s mt args below meth c H locs 0 0 Q (F0 mt 8 ls [])) (K1 : c1 = 1 → ∀ (H : Heap) (locs : List Loc) (ls : Array Slot), r32 s1.1 → r32 s1.2.1 → Wd G A s H0 ad g s1.2.2 H locs → lv_has ls 8 [(4, .int (iI s1.1)), (6, .int (iI s1.2.1))] → W p l e rX11_firstStone s mt args below meth c H locs 0 0 Q (F0 mt 79 ls [])) (K2 : c1 = 2 → ∀ (H : Heap) (locs : List Loc) (ls : Array Slot), Wd G A s H0 ad g s1.2.2 H locs → lv_has ls 8 [] → W p l e rX11_firstStone s mt args below meth c H locs 0 0 Q (F0 mt 105 ls [])) : W p l e rX11_firstStone s mt args below meth c H locs 0 0 Q (F0 mt 8 ls []) := by
  unfold bX11_firstStone_8 at hF
  refine q_iload C hl 4 rfl dX11_firstStone_8 ?_
  refine q_if_le C hx4 105 dX11_firstStone_10 (by decide) (fun hc1 => ?_) (fun hc1 => ?_)
  · have hF := if_t hc1 hF
    cases hF
    exact K2 rfl _ _ _  S (lv_sub hl [] rfl)
  · have hF := if_f hc1 hF
    refine q_iconst C 0 dX11_firstStone_13 ?_
    refine q_istore C hl [(5, .int (iI 0)), (0, .ref (ad x0)), (1, .int (iI x1)), (2, .int (iI x2)), (3, .int (iI x3)), (4, .int (iI x4))] rfl (by decide) rfl dX11_firstStone_14 (fun ls hl => ?_)
    obtain ⟨cv2, sv3, hi4, hF⟩ := bdl_ok hF
    refine lX11_firstStone_16 C hx0 hx1 hx2 hx3 hx4 hi4 ?_ ?_ _ _ _ (rl 0 rfl) S (lv_sub hl [1, 2, 3, 4, 5, 0] rfl)
    · intro hc5 H locs ls f7 S6 hl
      have hF := if_t hc5 hF
      cases hF
      exact K1 rfl _ _ _ hx4 f7 S6 (lv_sub hl [0, 1] rfl)
    · intro hc8 H locs ls  S9 hl
      have hF := if_f (by rw [hc8]; decide) hF
      exact wX11_firstStone_99 C S9 hx0 hx1 hx2 hx3 hx4 (lv_sub hl [0, 1, 2, 3, 4] rfl) hF K0 K1 K2
set_option maxRecDepth 20000 in
theorem lX11_firstStone_8 {p : Program} {l : Launch} {e : Env} {s : State} {mt : MethodId} {args : Array Value} {below : List Frame} {meth : Method} {c : Code} {Q : State → Prop} {G : Gl} {A : Nat → Prop} {H0 : Heap} {ad : Int → Nat} {g : Shp} {x0 x1 x2 x3 : Int} (C : CallFix p mt c cX11_firstStone 8 s args tb RX11) (hx0 : gk g x0 = 12) (hx1 : r32 x1) (hx2 : r32 x2) (hx3 : r32 x3) {n : Nat} {s0 s1 : (Int × Int × Mem)} {c1 : Int} (hI : iter (BX11_firstStone_8 g x0 x1 x2 x3) n s0 = some (c1, s1)) (K1 : c1 = 1 → ∀ (H : Heap) (locs : List Loc) (ls : Array Slot), r32 s1.1 → r32 s1.2.1 → Wd G A s H0 ad g s1.2.2 H locs → lv_has ls 8 [(4, .int (iI s1.1)), (6, .int (iI s1.2.1))] → W p l e rX11_firstStone s mt args below meth c H locs 0 0 Q (F0 mt 79 ls [])) (K2 : c1 = 2 → ∀ (H : Heap) (locs : List Loc) (ls : Array Slot), Wd G A s H0 ad g s1.2.2 H locs → lv_has ls 8 [] → W p l e rX11_firstStone s mt args below meth c H locs 0 0 Q (F0 mt 105 ls [])) : ∀ (H : Heap) (locs : List Loc) (ls : Array Slot), r32 s0.1 → Wd G A s H0 ad g s0.2.2 H locs → lv_has ls 8 [(0, .ref (ad x0)), (1, .int (iI x1)), (2, .int (iI x2)), (3, .int (iI x3)), (4, .int (iI s0.1))] → W p l e rX11_firstStone s mt args below meth c H locs 0 0 Q (F0 mt 8 ls []) :=
  iter_W (Pw := fun q => ∀ (H : Heap) (locs : List Loc) (ls : Array Slot), r32 q.1 → Wd G A s H0 ad g q.2.2 H locs → lv_has ls 8 [(0, .ref (ad x0)), (1, .int (iI x1)), (2, .int (iI x2)), (3, .int (iI x3)), (4, .int (iI q.1))] → W p l e rX11_firstStone s mt args below meth c H locs 0 0 Q (F0 mt 8 ls [])) (Px := fun c0 q => (c0 = 1 → ∀ (H : Heap) (locs : List Loc) (ls : Array Slot), r32 q.1 → r32 q.2.1 → Wd G A s H0 ad g q.2.2 H locs → lv_has ls 8 [(4, .int (iI q.1)), (6, .int (iI q.2.1))] → W p l e rX11_firstStone s mt args below meth c H locs 0 0 Q (F0 mt 79 ls [])) ∧ (c0 = 2 → ∀ (H : Heap) (locs : List Loc) (ls : Array Slot), Wd G A s H0 ad g q.2.2 H locs → lv_has ls 8 [] → W p l e rX11_firstStone s mt args below meth c H locs 0 0 Q (F0 mt 105 ls [])))
    (fun s c s' hB K0 kx H locs ls f0 S hl => wX11_firstStone_8 C S hx0 hx1 hx2 hx3 f0 hl hB K0 (fun h9 => (kx (by rw [h9]; decide)).1 h9) (fun h9 => (kx (by rw [h9]; decide)).2 h9)) _ _ _ _ hI ⟨K1, K2⟩
set_option maxRecDepth 20000 in
theorem wX11_firstStone_79 {p : Program} {l : Launch} {e : Env} {s : State} {mt : MethodId} {args : Array Value} {below : List Frame} {meth : Method} {c : Code} {Q : State → Prop} {G : Gl} {A : Nat → Prop} {H0 : Heap} {ad : Int → Nat} {g : Shp} {H : Heap} {locs : List Loc} {ls : Array Slot} {m : Mem} {x4 x6 : Int} (C : CallFix p mt c cX11_firstStone 8 s args tb RX11) (S : Wd G A s H0 ad g m H locs) (hx4 : r32 x4) (hx6 : r32 x6) (hl : lv_has ls 8 [(4, .int (iI x4)), (6, .int (iI x6))]) {r : Int} {m' : Mem} (hF : bX11_firstStone_79 g x4 x6 m = some (r, m')) (Kr : ∀ (H : Heap) (locs : List Loc) (pc : Nat) (ls : Array Slot), Wd G A s H0 ad g m' H locs → decode cX11_firstStone pc = .ok (.ireturn, 1) → r32 r ∧ (false = true → r = 0 ∨ r = 1) → narrow .int (.int (iI r)) = .int (iI r) → W p l e rX11_firstStone s mt args below meth c H locs 0 0 Q (F0 mt pc ls [.int (iI r)])) : W p l e rX11_firstStone s mt args below meth c H locs 0 0 Q (F0 mt 79 ls []) := by
  unfold bX11_firstStone_79 at hF
  refine q_iconst C 4 dX11_firstStone_79 ?_
  refine q_iload C hl 0 rfl dX11_firstStone_80 ?_
  refine q_imul C dX11_firstStone_82 ?_
  refine q_iload C hl 1 rfl dX11_firstStone_83 ?_
  refine q_iadd C dX11_firstStone_85 ?_
  cases hF
  exact Kr _ _ _ _ S dX11_firstStone_86 ⟨(r32_w _), fun h9 => absurd h9 (by decide)⟩ rfl
set_option maxRecDepth 20000 in
theorem wX11_firstStone_105 {p : Program} {l : Launch} {e : Env} {s : State} {mt : MethodId} {args : Array Value} {below : List Frame} {meth : Method} {c : Code} {Q : State → Prop} {G : Gl} {A : Nat → Prop} {H0 : Heap} {ad : Int → Nat} {g : Shp} {H : Heap} {locs : List Loc} {ls : Array Slot} {m : Mem} (C : CallFix p mt c cX11_firstStone 8 s args tb RX11) (S : Wd G A s H0 ad g m H locs)  (hl : lv_has ls 8 []) {r : Int} {m' : Mem} (hF : bX11_firstStone_105 g m = some (r, m')) (Kr : ∀ (H : Heap) (locs : List Loc) (pc : Nat) (ls : Array Slot), Wd G A s H0 ad g m' H locs → decode cX11_firstStone pc = .ok (.ireturn, 1) → r32 r ∧ (false = true → r = 0 ∨ r = 1) → narrow .int (.int (iI r)) = .int (iI r) → W p l e rX11_firstStone s mt args below meth c H locs 0 0 Q (F0 mt pc ls [.int (iI r)])) : W p l e rX11_firstStone s mt args below meth c H locs 0 0 Q (F0 mt 105 ls []) := by
  unfold bX11_firstStone_105 at hF
  refine q_bipush C (-4) (by decide) dX11_firstStone_105 ?_
  cases hF
  exact Kr _ _ _ _ S dX11_firstStone_107 ⟨(rl (-4) rfl), fun h9 => absurd h9 (by decide)⟩ rfl
set_option maxRecDepth 20000 in
theorem wX11_firstStone_0 {p : Program} {l : Launch} {e : Env} {s : State} {mt : MethodId} {args : Array Value} {below : List Frame} {meth : Method} {c : Code} {Q : State → Prop} {G : Gl} {A : Nat → Prop} {H0 : Heap} {ad : Int → Nat} {g : Shp} {H : Heap} {locs : List Loc} {ls : Array Slot} {m : Mem} {x0 x1 x2 x3 : Int} (C : CallFix p mt c cX11_firstStone 8 s args tb RX11) (S : Wd G A s H0 ad g m H locs) (hx0 : gk g x0 = 12) (hx1 : r32 x1) (hx2 : r32 x2) (hx3 : r32 x3) (hl : lv_has ls 8 [(0, .ref (ad x0)), (1, .int (iI x1)), (2, .int (iI x2)), (3, .int (iI x3))]) {r : Int} {m' : Mem} (hF : bX11_firstStone_0 g x0 x1 x2 x3 m = some (r, m')) (Kr : ∀ (H : Heap) (locs : List Loc) (pc : Nat) (ls : Array Slot), Wd G A s H0 ad g m' H locs → decode cX11_firstStone pc = .ok (.ireturn, 1) → r32 r ∧ (false = true → r = 0 ∨ r = 1) → narrow .int (.int (iI r)) = .int (iI r) → W p l e rX11_firstStone s mt args below meth c H locs 0 0 Q (F0 mt pc ls [.int (iI r)])) : W p l e rX11_firstStone s mt args below meth c H locs 0 0 Q (F0 mt 0 ls []) := by
  unfold bX11_firstStone_0 at hF
  refine q_aload_n C hl 0 rfl rfl dX11_firstStone_0 ?_
  obtain ⟨k1, hF⟩ := ck_ok hF
  refine q_getr C S 19 fo_RX11_40 (j := 19) rfl rfl hx0 k1 (by decide) dX11_firstStone_1 ?_
  refine q_iconst C 2 dX11_firstStone_4 ?_
  obtain ⟨i2, hF⟩ := ck_ok hF
  refine q_iald C S k1 i2 dX11_firstStone_5 ?_
  obtain ⟨y3, ey3, hF⟩ := vv_ok hF
  have ry3 : r32 y3 := ey3 ▸ (S.r _ _)
  refine q_istore C hl [(4, .int (iI y3)), (0, .ref (ad x0)), (1, .int (iI x1)), (2, .int (iI x2)), (3, .int (iI x3))] ey3 (by decide) rfl dX11_firstStone_6 (fun ls hl => ?_)
  obtain ⟨cv4, sv5, hi6, hF⟩ := bdl_ok hF
  refine lX11_firstStone_8 C hx0 hx1 hx2 hx3 hi6 ?_ ?_ _ _ _ ry3 S (lv_sub hl [1, 2, 3, 4, 0] rfl)
  · intro hc7 H locs ls f9 f10 S8 hl
    have hF := if_t hc7 hF
    exact wX11_firstStone_79 C S8 f9 f10 (lv_sub hl [0, 1] rfl) hF Kr
  · intro hc11 H locs ls  S12 hl
    have hF := if_f (by rw [hc11]; decide) hF
    exact wX11_firstStone_105 C S12  (lv_sub hl [] rfl) hF Kr
theorem cX11_firstStone_ok (l : Launch) (G : Gl) {g : Shp} {x0 x1 x2 x3 : Int} {m m' : Mem} {r : Int} (hx0 : gk g x0 = 12) (hx1 : r32 x1) (hx2 : r32 x2) (hx3 : r32 x3) (hF : fX11_firstStone g x0 x1 x2 x3 m = some (r, m')) : mI l yX11_firstStone (wT yX11_firstStone cX11_firstStone 8 (some .int)) rX11_firstStone G false (fun ad => [.ref (ad x0), .int (iI x1), .int (iI x2), .int (iI x3)]) g m r m' :=
  met_i (by decide) (fun ad => Nat.le_of_ble_eq_true rfl) (fun p e s mt args below meth c Q A H0 H locs ad ls C hnm S hl Kr => wX11_firstStone_0 C S hx0 hx1 hx2 hx3 hl hF Kr)
set_option maxRecDepth 20000 in
theorem wX11_layRest_15 {p : Program} {l : Launch} {e : Env} {s : State} {mt : MethodId} {args : Array Value} {below : List Frame} {meth : Method} {c : Code} {Q : State → Prop} {G : Gl} {A : Nat → Prop} {H0 : Heap} {ad : Int → Nat} {g : Shp} {H : Heap} {locs : List Loc} {ls : Array Slot} {m : Mem} {x0 x1 x2 x3 : Int} (C : CallFix p mt c cX11_layRest 4 s args tb RX11) (S : Wd G A s H0 ad g m H locs) (hx0 : gk g x0 = 12) (hx1 : r32 x1) (hx2 : r32 x2) (hx3 : r32 x3) (hl : lv_has ls 4 [(0, .ref (ad x0)), (1, .int (iI x1)), (2, .int (iI x2)), (3, .int (iI x3))]) {c1 : Int} {s1 : (Int × Mem)} (hF : bX11_layRest_15 g x0 x1 x2 x3 m = some (c1, s1)) (K0 : c1 = 0 → ∀ (H : Heap) (locs : List Loc) (ls : Array Slot), r32 s1.1 → Wd G A s H0 ad g s1.2 H locs → lv_has ls 4 [(0, .ref (ad x0)), (1, .int (iI x1)), (2, .int (iI x2)), (3, .int (iI s1.1))] → W p l e rX11_layRest s mt args below meth c H locs 0 0 Q (F0 mt 15 ls [])) (K1 : c1 = 1 → ∀ (H : Heap) (locs : List Loc) (ls : Array Slot), Wd G A s H0 ad g s1.2 H locs → lv_has ls 4 [(0, .ref (ad x0)), (1, .int (iI x1)), (2, .int (iI x2))] → W p l e rX11_layRest s mt args below meth c H locs 0 0 Q (F0 mt 54 ls [])) : W p l e rX11_layRest s mt args below meth c H locs 0 0 Q (F0 mt 15 ls []) := by
  unfold bX11_layRest_15 at hF
  refine q_iload_n C hl 3 rfl rfl dX11_layRest_15 ?_
  refine q_aload_n C hl 0 rfl rfl dX11_layRest_16 ?_
  obtain ⟨k1, hF⟩ := ck_ok hF
  refine q_getr C S 25 fo_RX11_55 (j := 25) rfl rfl hx0 k1 (by decide) dX11_layRest_17 ?_
  refine q_iload_n C hl 2 rfl rfl dX11_layRest_20 ?_
  obtain ⟨i2, hF⟩ := ck_ok hF
  refine q_iald C S k1 i2 dX11_layRest_21 ?_
  refine q_icmp_gt C hx3 (S.r _ _) 54 dX11_layRest_22 (by decide) (fun hc3 => ?_) (fun hc3 => ?_)
  · have hF := if_t hc3 hF
    cases hF
    exact K1 rfl _ _ _  S (lv_sub hl [0, 1, 2] rfl)
  · have hF := if_f hc3 hF
    refine q_aload_n C hl 0 rfl rfl dX11_layRest_25 ?_
    obtain ⟨k4, hF⟩ := ck_ok hF
    refine q_getr C S 30 fo_RX11_68 (j := 30) rfl rfl hx0 k4 (by decide) dX11_layRest_26 ?_
    refine q_iload_n C hl 1 rfl rfl dX11_layRest_29 ?_
    refine q_iload_n C hl 3 rfl rfl dX11_layRest_30 ?_
    refine q_iadd C dX11_layRest_31 ?_
    refine q_iload_n C hl 3 rfl rfl dX11_layRest_32 ?_
    obtain ⟨i5, hF⟩ := ck_ok hF
    obtain ⟨m6, em6, hF⟩ := vm_ok hF
    refine q_iast C S k4 i5 hx3 em6 dX11_layRest_33 (fun H locs Sm6 => ?_)
    refine q_aload_n C hl 0 rfl rfl dX11_layRest_34 ?_
    obtain ⟨k7, hF⟩ := ck_ok hF
    refine q_getr C Sm6 31 fo_RX11_71 (j := 31) rfl rfl hx0 k7 (by decide) dX11_layRest_35 ?_
    refine q_iload_n C hl 1 rfl rfl dX11_layRest_38 ?_
    refine q_iload_n C hl 3 rfl rfl dX11_layRest_39 ?_
    refine q_iadd C dX11_layRest_40 ?_
    refine q_aload_n C hl 0 rfl rfl dX11_layRest_41 ?_
    obtain ⟨k8, hF⟩ := ck_ok hF
    refine q_getr C Sm6 26 fo_RX11_58 (j := 26) rfl rfl hx0 k8 (by decide) dX11_layRest_42 ?_
    refine q_iload_n C hl 2 rfl rfl dX11_layRest_45 ?_
    obtain ⟨i9, hF⟩ := ck_ok hF
    refine q_zald C Sm6 k8 i9 dX11_layRest_46 ?_
    obtain ⟨i10, hF⟩ := ck_ok hF
    obtain ⟨b11, hF⟩ := ck_ok hF
    obtain ⟨m12, em12, hF⟩ := vm_ok hF
    refine q_zast C Sm6 k7 i10 b11 em12 dX11_layRest_47 (fun H locs Sm12 => ?_)
    obtain ⟨y13, ey13, hF⟩ := vv_ok hF
    have ry13 : r32 y13 := ey13 ▸ r32_w _
    refine q_iinc C hl 3 [(3, .int (iI y13)), (0, .ref (ad x0)), (1, .int (iI x1)), (2, .int (iI x2))] rfl ey13 (by decide) rfl dX11_layRest_48 (fun ls hl => ?_)
    refine q_goto C 15 dX11_layRest_51 (by decide) ?_
    cases hF
    exact K0 rfl _ _ _ ry13 Sm12 (lv_sub hl [1, 2, 3, 0] rfl)
set_option maxRecDepth 20000 in
theorem lX11_layRest_15 {p : Program} {l : Launch} {e : Env} {s : State} {mt : MethodId} {args : Array Value} {below : List Frame} {meth : Method} {c : Code} {Q : State → Prop} {G : Gl} {A : Nat → Prop} {H0 : Heap} {ad : Int → Nat} {g : Shp} {x0 x1 x2 : Int} (C : CallFix p mt c cX11_layRest 4 s args tb RX11) (hx0 : gk g x0 = 12) (hx1 : r32 x1) (hx2 : r32 x2) {n : Nat} {s0 s1 : (Int × Mem)} {c1 : Int} (hI : iter (BX11_layRest_15 g x0 x1 x2) n s0 = some (c1, s1)) (K1 : c1 = 1 → ∀ (H : Heap) (locs : List Loc) (ls : Array Slot), Wd G A s H0 ad g s1.2 H locs → lv_has ls 4 [(0, .ref (ad x0)), (1, .int (iI x1)), (2, .int (iI x2))] → W p l e rX11_layRest s mt args below meth c H locs 0 0 Q (F0 mt 54 ls [])) : ∀ (H : Heap) (locs : List Loc) (ls : Array Slot), r32 s0.1 → Wd G A s H0 ad g s0.2 H locs → lv_has ls 4 [(0, .ref (ad x0)), (1, .int (iI x1)), (2, .int (iI x2)), (3, .int (iI s0.1))] → W p l e rX11_layRest s mt args below meth c H locs 0 0 Q (F0 mt 15 ls []) :=
  iter_W (Pw := fun q => ∀ (H : Heap) (locs : List Loc) (ls : Array Slot), r32 q.1 → Wd G A s H0 ad g q.2 H locs → lv_has ls 4 [(0, .ref (ad x0)), (1, .int (iI x1)), (2, .int (iI x2)), (3, .int (iI q.1))] → W p l e rX11_layRest s mt args below meth c H locs 0 0 Q (F0 mt 15 ls [])) (Px := fun c0 q => (c0 = 1 → ∀ (H : Heap) (locs : List Loc) (ls : Array Slot), Wd G A s H0 ad g q.2 H locs → lv_has ls 4 [(0, .ref (ad x0)), (1, .int (iI x1)), (2, .int (iI x2))] → W p l e rX11_layRest s mt args below meth c H locs 0 0 Q (F0 mt 54 ls [])))
    (fun s c s' hB K0 kx H locs ls f0 S hl => wX11_layRest_15 C S hx0 hx1 hx2 f0 hl hB K0 (fun h9 => (kx (by rw [h9]; decide)) h9)) _ _ _ _ hI K1
set_option maxRecDepth 20000 in
theorem wX11_layRest_54 {p : Program} {l : Launch} {e : Env} {s : State} {mt : MethodId} {args : Array Value} {below : List Frame} {meth : Method} {c : Code} {Q : State → Prop} {G : Gl} {A : Nat → Prop} {H0 : Heap} {ad : Int → Nat} {g : Shp} {H : Heap} {locs : List Loc} {ls : Array Slot} {m : Mem} {x0 x1 x2 : Int} (C : CallFix p mt c cX11_layRest 4 s args tb RX11) (S : Wd G A s H0 ad g m H locs) (hx0 : gk g x0 = 12) (hx1 : r32 x1) (hx2 : r32 x2) (hl : lv_has ls 4 [(0, .ref (ad x0)), (1, .int (iI x1)), (2, .int (iI x2))]) {c1 : Int} {s1 : (Int × Int × Mem)} (hF : bX11_layRest_54 g x0 x1 x2 m = some (c1, s1)) (K0 : c1 = 0 → ∀ (H : Heap) (locs : List Loc) (ls : Array Slot), r32 s1.1 → r32 s1.2.1 → Wd G A s H0 ad g s1.2.2 H locs → lv_has ls 4 [(0, .ref (ad x0)), (1, .int (iI s1.1)), (2, .int (iI s1.2.1))] → W p l e rX11_layRest s mt args below meth c H locs 0 0 Q (F0 mt 9 ls [])) (K1 : c1 = 1 → ∀ (H : Heap) (locs : List Loc) (ls : Array Slot), r32 s1.1 → Wd G A s H0 ad g s1.2.2 H locs → lv_has ls 4 [(1, .int (iI s1.1))] → W p l e rX11_layRest s mt args below meth c H locs 0 0 Q (F0 mt 69 ls [])) : W p l e rX11_layRest s mt args below meth c H locs 0 0 Q (F0 mt 54 ls []) := by
  unfold bX11_layRest_54 at hF
  refine q_iload_n C hl 1 rfl rfl dX11_layRest_54 ?_
  refine q_aload_n C hl 0 rfl rfl dX11_layRest_55 ?_
  obtain ⟨k1, hF⟩ := ck_ok hF
  refine q_getr C S 25 fo_RX11_55 (j := 25) rfl rfl hx0 k1 (by decide) dX11_layRest_56 ?_
  refine q_iload_n C hl 2 rfl rfl dX11_layRest_59 ?_
  obtain ⟨i2, hF⟩ := ck_ok hF
  refine q_iald C S k1 i2 dX11_layRest_60 ?_
  refine q_iadd C dX11_layRest_61 ?_
  obtain ⟨y3, ey3, hF⟩ := vv_ok hF
  have ry3 : r32 y3 := ey3 ▸ (r32_w _)
  refine q_istore_n C hl [(1, .int (iI y3)), (0, .ref (ad x0)), (2, .int (iI x2))] ey3 rfl (by decide) rfl dX11_layRest_62 (fun ls hl => ?_)
  obtain ⟨y4, ey4, hF⟩ := vv_ok hF
  have ry4 : r32 y4 := ey4 ▸ r32_w _
  refine q_iinc C hl 2 [(2, .int (iI y4)), (1, .int (iI y3)), (0, .ref (ad x0))] rfl ey4 (by decide) rfl dX11_layRest_63 (fun ls hl => ?_)
  refine q_goto C 9 dX11_layRest_66 (by decide) ?_
  cases hF
  exact K0 rfl _ _ _ ry3 ry4 S (lv_sub hl [2, 1, 0] rfl)
set_option maxRecDepth 20000 in
theorem wX11_layRest_9 {p : Program} {l : Launch} {e : Env} {s : State} {mt : MethodId} {args : Array Value} {below : List Frame} {meth : Method} {c : Code} {Q : State → Prop} {G : Gl} {A : Nat → Prop} {H0 : Heap} {ad : Int → Nat} {g : Shp} {H : Heap} {locs : List Loc} {ls : Array Slot} {m : Mem} {x0 x1 x2 : Int} (C : CallFix p mt c cX11_layRest 4 s args tb RX11) (S : Wd G A s H0 ad g m H locs) (hx0 : gk g x0 = 12) (hx1 : r32 x1) (hx2 : r32 x2) (hl : lv_has ls 4 [(0, .ref (ad x0)), (1, .int (iI x1)), (2, .int (iI x2))]) {c1 : Int} {s1 : (Int × Int × Mem)} (hF : bX11_layRest_9 g x0 x1 x2 m = some (c1, s1)) (K0 : c1 = 0 → ∀ (H : Heap) (locs : List Loc) (ls : Array Slot), r32 s1.1 → r32 s1.2.1 → Wd G A s H0 ad g s1.2.2 H locs → lv_has ls 4 [(0, .ref (ad x0)), (1, .int (iI s1.1)), (2, .int (iI s1.2.1))] → W p l e rX11_layRest s mt args below meth c H locs 0 0 Q (F0 mt 9 ls [])) (K1 : c1 = 1 → ∀ (H : Heap) (locs : List Loc) (ls : Array Slot), r32 s1.1 → Wd G A s H0 ad g s1.2.2 H locs → lv_has ls 4 [(1, .int (iI s1.1))] → W p l e rX11_layRest s mt args below meth c H locs 0 0 Q (F0 mt 69 ls [])) : W p l e rX11_layRest s mt args below meth c H locs 0 0 Q (F0 mt 9 ls []) := by
  unfold bX11_layRest_9 at hF
  refine q_iload_n C hl 2 rfl rfl dX11_layRest_9 ?_
  refine q_if_lt C hx2 69 dX11_layRest_10 (by decide) (fun hc1 => ?_) (fun hc1 => ?_)
  · have hF := if_t hc1 hF
    cases hF
    exact K1 rfl _ _ _ hx1 S (lv_sub hl [1] rfl)
  · have hF := if_f hc1 hF
    refine q_iconst C 1 dX11_layRest_13 ?_
    refine q_istore_n C hl [(3, .int (iI 1)), (0, .ref (ad x0)), (1, .int (iI x1)), (2, .int (iI x2))] rfl rfl (by decide) rfl dX11_layRest_14 (fun ls hl => ?_)
    obtain ⟨cv2, sv3, hi4, hF⟩ := bdl_ok hF
    refine lX11_layRest_15 C hx0 hx1 hx2 hi4 ?_ _ _ _ (rl 1 rfl) S (lv_sub hl [1, 2, 3, 0] rfl)
    intro _ H locs ls  S5 hl
    exact wX11_layRest_54 C S5 hx0 hx1 hx2 (lv_sub hl [0, 1, 2] rfl) hF K0 K1
set_option maxRecDepth 20000 in
theorem lX11_layRest_9 {p : Program} {l : Launch} {e : Env} {s : State} {mt : MethodId} {args : Array Value} {below : List Frame} {meth : Method} {c : Code} {Q : State → Prop} {G : Gl} {A : Nat → Prop} {H0 : Heap} {ad : Int → Nat} {g : Shp} {x0 : Int} (C : CallFix p mt c cX11_layRest 4 s args tb RX11) (hx0 : gk g x0 = 12) {n : Nat} {s0 s1 : (Int × Int × Mem)} {c1 : Int} (hI : iter (BX11_layRest_9 g x0) n s0 = some (c1, s1)) (K1 : c1 = 1 → ∀ (H : Heap) (locs : List Loc) (ls : Array Slot), r32 s1.1 → Wd G A s H0 ad g s1.2.2 H locs → lv_has ls 4 [(1, .int (iI s1.1))] → W p l e rX11_layRest s mt args below meth c H locs 0 0 Q (F0 mt 69 ls [])) : ∀ (H : Heap) (locs : List Loc) (ls : Array Slot), r32 s0.1 → r32 s0.2.1 → Wd G A s H0 ad g s0.2.2 H locs → lv_has ls 4 [(0, .ref (ad x0)), (1, .int (iI s0.1)), (2, .int (iI s0.2.1))] → W p l e rX11_layRest s mt args below meth c H locs 0 0 Q (F0 mt 9 ls []) :=
  iter_W (Pw := fun q => ∀ (H : Heap) (locs : List Loc) (ls : Array Slot), r32 q.1 → r32 q.2.1 → Wd G A s H0 ad g q.2.2 H locs → lv_has ls 4 [(0, .ref (ad x0)), (1, .int (iI q.1)), (2, .int (iI q.2.1))] → W p l e rX11_layRest s mt args below meth c H locs 0 0 Q (F0 mt 9 ls [])) (Px := fun c0 q => (c0 = 1 → ∀ (H : Heap) (locs : List Loc) (ls : Array Slot), r32 q.1 → Wd G A s H0 ad g q.2.2 H locs → lv_has ls 4 [(1, .int (iI q.1))] → W p l e rX11_layRest s mt args below meth c H locs 0 0 Q (F0 mt 69 ls [])))
    (fun s c s' hB K0 kx H locs ls f0 f1 S hl => wX11_layRest_9 C S hx0 f0 f1 hl hB K0 (fun h9 => (kx (by rw [h9]; decide)) h9)) _ _ _ _ hI K1
set_option maxRecDepth 20000 in
theorem wX11_layRest_69 {p : Program} {l : Launch} {e : Env} {s : State} {mt : MethodId} {args : Array Value} {below : List Frame} {meth : Method} {c : Code} {Q : State → Prop} {G : Gl} {A : Nat → Prop} {H0 : Heap} {ad : Int → Nat} {g : Shp} {H : Heap} {locs : List Loc} {ls : Array Slot} {m : Mem} {x1 : Int} (C : CallFix p mt c cX11_layRest 4 s args tb RX11) (S : Wd G A s H0 ad g m H locs) (hx1 : r32 x1) (hl : lv_has ls 4 [(1, .int (iI x1))]) {r : Int} {m' : Mem} (hF : bX11_layRest_69 g x1 m = some (r, m')) (Kr : ∀ (H : Heap) (locs : List Loc) (pc : Nat) (ls : Array Slot), Wd G A s H0 ad g m' H locs → decode cX11_layRest pc = .ok (.ireturn, 1) → r32 r ∧ (false = true → r = 0 ∨ r = 1) → narrow .int (.int (iI r)) = .int (iI r) → W p l e rX11_layRest s mt args below meth c H locs 0 0 Q (F0 mt pc ls [.int (iI r)])) : W p l e rX11_layRest s mt args below meth c H locs 0 0 Q (F0 mt 69 ls []) := by
  unfold bX11_layRest_69 at hF
  refine q_iload_n C hl 0 rfl rfl dX11_layRest_69 ?_
  cases hF
  exact Kr _ _ _ _ S dX11_layRest_70 ⟨hx1, fun h9 => absurd h9 (by decide)⟩ rfl
set_option maxRecDepth 20000 in
theorem wX11_layRest_0 {p : Program} {l : Launch} {e : Env} {s : State} {mt : MethodId} {args : Array Value} {below : List Frame} {meth : Method} {c : Code} {Q : State → Prop} {G : Gl} {A : Nat → Prop} {H0 : Heap} {ad : Int → Nat} {g : Shp} {H : Heap} {locs : List Loc} {ls : Array Slot} {m : Mem} {x0 : Int} (C : CallFix p mt c cX11_layRest 4 s args tb RX11) (S : Wd G A s H0 ad g m H locs) (hx0 : gk g x0 = 12) (hl : lv_has ls 4 [(0, .ref (ad x0))]) {r : Int} {m' : Mem} (hF : bX11_layRest_0 g x0 m = some (r, m')) (Kr : ∀ (H : Heap) (locs : List Loc) (pc : Nat) (ls : Array Slot), Wd G A s H0 ad g m' H locs → decode cX11_layRest pc = .ok (.ireturn, 1) → r32 r ∧ (false = true → r = 0 ∨ r = 1) → narrow .int (.int (iI r)) = .int (iI r) → W p l e rX11_layRest s mt args below meth c H locs 0 0 Q (F0 mt pc ls [.int (iI r)])) : W p l e rX11_layRest s mt args below meth c H locs 0 0 Q (F0 mt 0 ls []) := by
  unfold bX11_layRest_0 at hF
  refine q_iconst C 0 dX11_layRest_0 ?_
  refine q_istore_n C hl [(1, .int (iI 0)), (0, .ref (ad x0))] rfl rfl (by decide) rfl dX11_layRest_1 (fun ls hl => ?_)
  refine q_aload_n C hl 1 rfl rfl dX11_layRest_2 ?_
  refine q_geti C S 27 fo_RX11_183 (j := 27) rfl rfl hx0 dX11_layRest_3 ?_
  refine q_iconst C 1 dX11_layRest_6 ?_
  refine q_isub C dX11_layRest_7 ?_
  obtain ⟨y1, ey1, hF⟩ := vv_ok hF
  have ry1 : r32 y1 := ey1 ▸ (r32_w _)
  refine q_istore_n C hl [(2, .int (iI y1)), (1, .int (iI 0)), (0, .ref (ad x0))] ey1 rfl (by decide) rfl dX11_layRest_8 (fun ls hl => ?_)
  obtain ⟨cv2, sv3, hi4, hF⟩ := bdl_ok hF
  refine lX11_layRest_9 C hx0 hi4 ?_ _ _ _ (rl 0 rfl) ry1 S (lv_sub hl [2, 1, 0] rfl)
  intro _ H locs ls f6 S5 hl
  exact wX11_layRest_69 C S5 f6 (lv_sub hl [0] rfl) hF Kr
theorem cX11_layRest_ok (l : Launch) (G : Gl) {g : Shp} {x0 : Int} {m m' : Mem} {r : Int} (hx0 : gk g x0 = 12) (hF : fX11_layRest g x0 m = some (r, m')) : mI l yX11_layRest (wT yX11_layRest cX11_layRest 4 (some .int)) rX11_layRest G false (fun ad => [.ref (ad x0)]) g m r m' :=
  met_i (by decide) (fun ad => Nat.le_of_ble_eq_true rfl) (fun p e s mt args below meth c Q A H0 H locs ad ls C hnm S hl Kr => wX11_layRest_0 C S hx0 hl hF Kr)
set_option maxRecDepth 20000 in
theorem wX11_findWay_149 {p : Program} {l : Launch} {e : Env} {s : State} {mt : MethodId} {args : Array Value} {below : List Frame} {meth : Method} {c : Code} {Q : State → Prop} {G : Gl} {A : Nat → Prop} {H0 : Heap} {ad : Int → Nat} {g : Shp} {H : Heap} {locs : List Loc} {ls : Array Slot} {m : Mem} {x0 x3 x4 x5 x6 : Int} (C : CallFix p mt c cX11_findWay 11 s args tb RX11) (S : Wd G A s H0 ad g m H locs) (hx0 : gk g x0 = 12) (hx3 : r32 x3) (hx4 : r32 x4) (hx5 : r32 x5) (hx6 : r32 x6) (hl : lv_has ls 11 [(0, .ref (ad x0)), (3, .int (iI x3)), (4, .int (iI x4)), (5, .int (iI x5)), (6, .int (iI x6))]) {c1 : Int} {s1 : (Int × Mem)} (hF : bX11_findWay_149 g x0 x3 x4 x5 x6 m = some (c1, s1)) (K0 : c1 = 0 → ∀ (H : Heap) (locs : List Loc) (ls : Array Slot), r32 s1.1 → Wd G A s H0 ad g s1.2 H locs → lv_has ls 11 [(0, .ref (ad x0)), (3, .int (iI x3)), (4, .int (iI x4)), (5, .int (iI x5)), (6, .int (iI s1.1))] → W p l e rX11_findWay s mt args below meth c H locs 0 0 Q (F0 mt 29 ls [])) (K1 : c1 = 1 → ∀ (H : Heap) (locs : List Loc) (ls : Array Slot), Wd G A s H0 ad g s1.2 H locs → lv_has ls 11 [(0, .ref (ad x0)), (3, .int (iI x3)), (4, .int (iI x4)), (5, .int (iI x5))] → W p l e rX11_findWay s mt args below meth c H locs 0 0 Q (F0 mt 155 ls [])) : W p l e rX11_findWay s mt args below meth c H locs 0 0 Q (F0 mt 149 ls []) := by
  unfold bX11_findWay_149 at hF
  obtain ⟨y1, ey1, hF⟩ := vv_ok hF
  have ry1 : r32 y1 := ey1 ▸ r32_w _
  refine q_iinc C hl 4 [(6, .int (iI y1)), (0, .ref (ad x0)), (3, .int (iI x3)), (4, .int (iI x4)), (5, .int (iI x5))] rfl ey1 (by decide) rfl dX11_findWay_149 (fun ls hl => ?_)
  refine q_goto C 29 dX11_findWay_152 (by decide) ?_
  cases hF
  exact K0 rfl _ _ _ ry1 S (lv_sub hl [1, 2, 3, 4, 0] rfl)
set_option maxRecDepth 20000 in
theorem wX11_findWay_106 {p : Program} {l : Launch} {e : Env} {s : State} {mt : MethodId} {args : Array Value} {below : List Frame} {meth : Method} {c : Code} {Q : State → Prop} {G : Gl} {A : Nat → Prop} {H0 : Heap} {ad : Int → Nat} {g : Shp} {H : Heap} {locs : List Loc} {ls : Array Slot} {m : Mem} {x0 x3 x4 x5 x6 z0 : Int} (C : CallFix p mt c cX11_findWay 11 s args tb RX11) (S : Wd G A s H0 ad g m H locs) (hx0 : gk g x0 = 12) (hx3 : r32 x3) (hx4 : r32 x4) (hx5 : r32 x5) (hx6 : r32 x6) (hz0 : r32 z0) (hl : lv_has ls 11 [(0, .ref (ad x0)), (3, .int (iI x3)), (4, .int (iI x4)), (5, .int (iI x5)), (6, .int (iI x6))]) {c1 : Int} {s1 : (Int × Mem)} (hF : bX11_findWay_106 g x0 x3 x4 x5 x6 z0 m = some (c1, s1)) (K0 : c1 = 0 → ∀ (H : Heap) (locs : List Loc) (ls : Array Slot), r32 s1.1 → Wd G A s H0 ad g s1.2 H locs → lv_has ls 11 [(0, .ref (ad x0)), (3, .int (iI x3)), (4, .int (iI x4)), (5, .int (iI x5)), (6, .int (iI s1.1))] → W p l e rX11_findWay s mt args below meth c H locs 0 0 Q (F0 mt 29 ls [])) (K1 : c1 = 1 → ∀ (H : Heap) (locs : List Loc) (ls : Array Slot), Wd G A s H0 ad g s1.2 H locs → lv_has ls 11 [(0, .ref (ad x0)), (3, .int (iI x3)), (4, .int (iI x4)), (5, .int (iI x5))] → W p l e rX11_findWay s mt args below meth c H locs 0 0 Q (F0 mt 155 ls [])) : W p l e rX11_findWay s mt args below meth c H locs 0 0 Q (F0 mt 106 ls [.int (iI z0)]) := by
  unfold bX11_findWay_106 at hF
  refine q_istore C hl [(7, .int (iI z0)), (0, .ref (ad x0)), (3, .int (iI x3)), (4, .int (iI x4)), (5, .int (iI x5)), (6, .int (iI x6))] rfl (by decide) rfl dX11_findWay_106 (fun ls hl => ?_)
  refine q_iload C hl 4 rfl dX11_findWay_108 ?_
  refine q_iconst C 2 dX11_findWay_110 ?_
  refine q_idiv C hx5 (rl 2 rfl) (by decide) dX11_findWay_111 ?_
  refine q_sipush C 343 (by decide) dX11_findWay_112 ?_
  refine q_imul C dX11_findWay_115 ?_
  refine q_iload C hl 5 rfl dX11_findWay_116 ?_
  refine q_iadd C dX11_findWay_118 ?_
  obtain ⟨y1, ey1, hF⟩ := vv_ok hF
  have ry1 : r32 y1 := ey1 ▸ (r32_w _)
  refine q_istore C hl [(8, .int (iI y1)), (7, .int (iI z0)), (0, .ref (ad x0)), (3, .int (iI x3)), (4, .int (iI x4)), (5, .int (iI x5)), (6, .int (iI x6))] ey1 (by decide) rfl dX11_findWay_119 (fun ls hl => ?_)
  refine q_iload C hl 5 rfl dX11_findWay_121 ?_
  refine q_iconst C 2 dX11_findWay_123 ?_
  refine q_irem C hx5 (rl 2 rfl) (by decide) dX11_findWay_124 ?_
  refine q_if_ne C (r32_w _) 140 dX11_findWay_125 (by decide) (fun hc2 => ?_) (fun hc2 => ?_)
  · have hF := if_t hc2 hF
    refine q_aload_n C hl 2 rfl rfl dX11_findWay_128 ?_
    obtain ⟨k3, hF⟩ := ck_ok hF
    refine q_getr C S 28 fo_RX11_62 (j := 28) rfl rfl hx0 k3 (by decide) dX11_findWay_129 ?_
    refine q_iload C hl 0 rfl dX11_findWay_132 ?_
    refine q_iload C hl 1 rfl dX11_findWay_134 ?_
    obtain ⟨i4, hF⟩ := ck_ok hF
    obtain ⟨m5, em5, hF⟩ := vm_ok hF
    refine q_iast C S k3 i4 hz0 em5 dX11_findWay_136 (fun H locs Sm5 => ?_)
    refine q_goto C 149 dX11_findWay_137 (by decide) ?_
    exact wX11_findWay_149 C Sm5 hx0 hx3 hx4 hx5 hx6 (lv_sub hl [2, 3, 4, 5, 6] rfl) hF K0 K1
  · have hF := if_f hc2 hF
    refine q_aload_n C hl 2 rfl rfl dX11_findWay_140 ?_
    obtain ⟨k6, hF⟩ := ck_ok hF
    refine q_getr C S 29 fo_RX11_65 (j := 29) rfl rfl hx0 k6 (by decide) dX11_findWay_141 ?_
    refine q_iload C hl 0 rfl dX11_findWay_144 ?_
    refine q_iload C hl 1 rfl dX11_findWay_146 ?_
    obtain ⟨i7, hF⟩ := ck_ok hF
    obtain ⟨m8, em8, hF⟩ := vm_ok hF
    refine q_iast C S k6 i7 hz0 em8 dX11_findWay_148 (fun H locs Sm8 => ?_)
    exact wX11_findWay_149 C Sm8 hx0 hx3 hx4 hx5 hx6 (lv_sub hl [2, 3, 4, 5, 6] rfl) hF K0 K1
set_option maxRecDepth 20000 in
theorem wX11_findWay_29 {p : Program} {l : Launch} {e : Env} {s : State} {mt : MethodId} {args : Array Value} {below : List Frame} {meth : Method} {c : Code} {Q : State → Prop} {G : Gl} {A : Nat → Prop} {H0 : Heap} {ad : Int → Nat} {g : Shp} {H : Heap} {locs : List Loc} {ls : Array Slot} {m : Mem} {x0 x3 x4 x5 x6 : Int} (C : CallFix p mt c cX11_findWay 11 s args tb RX11) (S : Wd G A s H0 ad g m H locs) (hx0 : gk g x0 = 12) (hx3 : r32 x3) (hx4 : r32 x4) (hx5 : r32 x5) (hx6 : r32 x6) (hl : lv_has ls 11 [(0, .ref (ad x0)), (3, .int (iI x3)), (4, .int (iI x4)), (5, .int (iI x5)), (6, .int (iI x6))]) {c1 : Int} {s1 : (Int × Mem)} (hF : bX11_findWay_29 g x0 x3 x4 x5 x6 m = some (c1, s1)) (K0 : c1 = 0 → ∀ (H : Heap) (locs : List Loc) (ls : Array Slot), r32 s1.1 → Wd G A s H0 ad g s1.2 H locs → lv_has ls 11 [(0, .ref (ad x0)), (3, .int (iI x3)), (4, .int (iI x4)), (5, .int (iI x5)), (6, .int (iI s1.1))] → W p l e rX11_findWay s mt args below meth c H locs 0 0 Q (F0 mt 29 ls [])) (K1 : c1 = 1 → ∀ (H : Heap) (locs : List Loc) (ls : Array Slot), Wd G A s H0 ad g s1.2 H locs → lv_has ls 11 [(0, .ref (ad x0)), (3, .int (iI x3)), (4, .int (iI x4)), (5, .int (iI x5))] → W p l e rX11_findWay s mt args below meth c H locs 0 0 Q (F0 mt 155 ls [])) : W p l e rX11_findWay s mt args below meth c H locs 0 0 Q (F0 mt 29 ls []) := by
  unfold bX11_findWay_29 at hF
  refine q_iload C hl 4 rfl dX11_findWay_29 ?_
  refine q_sipush C 343 (by decide) dX11_findWay_31 ?_
  refine q_icmp_ge C hx6 (rl 343 rfl) 155 dX11_findWay_34 (by decide) (fun hc1 => ?_) (fun hc1 => ?_)
  · have hF := if_t hc1 hF
    cases hF
    exact K1 rfl _ _ _  S (lv_sub hl [0, 1, 2, 3] rfl)
  · have hF := if_f hc1 hF
    refine q_iload C hl 4 rfl dX11_findWay_37 ?_
    refine q_bipush C 49 (by decide) dX11_findWay_39 ?_
    refine q_idiv C hx6 (rl 49 rfl) (by decide) dX11_findWay_41 ?_
    refine q_aload_n C hl 0 rfl rfl dX11_findWay_42 ?_
    obtain ⟨k2, hF⟩ := ck_ok hF
    refine q_getr C S 0 fo_RX11_7 (j := 0) rfl rfl hx0 k2 (by decide) dX11_findWay_43 ?_
    refine q_iload C hl 2 rfl dX11_findWay_46 ?_
    obtain ⟨i3, hF⟩ := ck_ok hF
    refine q_iald C S k2 i3 dX11_findWay_48 ?_
    refine q_icmp_gt C (r32_w _) (S.r _ _) 149 dX11_findWay_49 (by decide) (fun hc4 => ?_) (fun hc4 => ?_)
    · have hF := if_t hc4 hF
      exact wX11_findWay_149 C S hx0 hx3 hx4 hx5 hx6 (lv_sub hl [0, 1, 2, 3, 4] rfl) hF K0 K1
    · have hF := if_f hc4 hF
      refine q_iload C hl 4 rfl dX11_findWay_52 ?_
      refine q_bipush C 7 (by decide) dX11_findWay_54 ?_
      refine q_idiv C hx6 (rl 7 rfl) (by decide) dX11_findWay_56 ?_
      refine q_bipush C 7 (by decide) dX11_findWay_57 ?_
      refine q_irem C (r32_w _) (rl 7 rfl) (by decide) dX11_findWay_59 ?_
      refine q_aload_n C hl 0 rfl rfl dX11_findWay_60 ?_
      refine q_getr C S 0 fo_RX11_7 (j := 0) rfl rfl hx0 k2 (by decide) dX11_findWay_61 ?_
      refine q_iload C hl 2 rfl dX11_findWay_64 ?_
      refine q_iconst C 1 dX11_findWay_66 ?_
      refine q_iadd C dX11_findWay_67 ?_
      obtain ⟨i5, hF⟩ := ck_ok hF
      refine q_iald C S k2 i5 dX11_findWay_68 ?_
      refine q_icmp_gt C (r32_w _) (S.r _ _) 149 dX11_findWay_69 (by decide) (fun hc6 => ?_) (fun hc6 => ?_)
      · have hF := if_t hc6 hF
        exact wX11_findWay_149 C S hx0 hx3 hx4 hx5 hx6 (lv_sub hl [0, 1, 2, 3, 4] rfl) hF K0 K1
      · have hF := if_f hc6 hF
        refine q_iload C hl 4 rfl dX11_findWay_72 ?_
        refine q_bipush C 7 (by decide) dX11_findWay_74 ?_
        refine q_irem C hx6 (rl 7 rfl) (by decide) dX11_findWay_76 ?_
        refine q_aload_n C hl 0 rfl rfl dX11_findWay_77 ?_
        refine q_getr C S 0 fo_RX11_7 (j := 0) rfl rfl hx0 k2 (by decide) dX11_findWay_78 ?_
        refine q_iload C hl 2 rfl dX11_findWay_81 ?_
        refine q_iconst C 2 dX11_findWay_83 ?_
        refine q_iadd C dX11_findWay_84 ?_
        obtain ⟨i7, hF⟩ := ck_ok hF
        refine q_iald C S k2 i7 dX11_findWay_85 ?_
        refine q_icmp_gt C (r32_w _) (S.r _ _) 149 dX11_findWay_86 (by decide) (fun hc8 => ?_) (fun hc8 => ?_)
        · have hF := if_t hc8 hF
          exact wX11_findWay_149 C S hx0 hx3 hx4 hx5 hx6 (lv_sub hl [0, 1, 2, 3, 4] rfl) hF K0 K1
        · have hF := if_f hc8 hF
          refine q_iload C hl 3 rfl dX11_findWay_89 ?_
          refine q_if_ne C hx5 98 dX11_findWay_91 (by decide) (fun hc9 => ?_) (fun hc9 => ?_)
          · have hF := if_t hc9 hF
            refine q_iconst C 0 dX11_findWay_94 ?_
            refine q_goto C 106 dX11_findWay_95 (by decide) ?_
            exact wX11_findWay_106 C S hx0 hx3 hx4 hx5 hx6 (rl 0 rfl) (lv_sub hl [0, 1, 2, 3, 4] rfl) hF K0 K1
          · have hF := if_f hc9 hF
            refine q_aload_n C hl 0 rfl rfl dX11_findWay_98 ?_
            refine q_iload C hl 3 rfl dX11_findWay_99 ?_
            refine q_iload C hl 4 rfl dX11_findWay_101 ?_
            obtain ⟨v10, m11, h12, hF⟩ := bd2_ok hF
            refine q_ci S (run_V (As := [.int (iI x5), .int (iI x6)]) (rest := []) C S (cX11_leastAt_ok l G hx0 hx5 hx6 h12 ad _) hx0 ⟨by decide, _, _, rfl⟩ gd_RX11_215 hdV_X11_leastAt rfl ⟨rfl, rfl, by decide, by decide⟩ ⟨Nat.zero_le _, Nat.zero_le _⟩ hl.1 rfl (Nat.le_of_ble_eq_true rfl) dX11_findWay_103) (fun H locs Sm11 h13 => ?_)
            exact wX11_findWay_106 C Sm11 hx0 hx3 hx4 hx5 hx6 h13.1 (lv_sub hl [0, 1, 2, 3, 4] rfl) hF K0 K1
set_option maxRecDepth 20000 in
theorem lX11_findWay_29 {p : Program} {l : Launch} {e : Env} {s : State} {mt : MethodId} {args : Array Value} {below : List Frame} {meth : Method} {c : Code} {Q : State → Prop} {G : Gl} {A : Nat → Prop} {H0 : Heap} {ad : Int → Nat} {g : Shp} {x0 x3 x4 x5 : Int} (C : CallFix p mt c cX11_findWay 11 s args tb RX11) (hx0 : gk g x0 = 12) (hx3 : r32 x3) (hx4 : r32 x4) (hx5 : r32 x5) {n : Nat} {s0 s1 : (Int × Mem)} {c1 : Int} (hI : iter (BX11_findWay_29 g x0 x3 x4 x5) n s0 = some (c1, s1)) (K1 : c1 = 1 → ∀ (H : Heap) (locs : List Loc) (ls : Array Slot), Wd G A s H0 ad g s1.2 H locs → lv_has ls 11 [(0, .ref (ad x0)), (3, .int (iI x3)), (4, .int (iI x4)), (5, .int (iI x5))] → W p l e rX11_findWay s mt args below meth c H locs 0 0 Q (F0 mt 155 ls [])) : ∀ (H : Heap) (locs : List Loc) (ls : Array Slot), r32 s0.1 → Wd G A s H0 ad g s0.2 H locs → lv_has ls 11 [(0, .ref (ad x0)), (3, .int (iI x3)), (4, .int (iI x4)), (5, .int (iI x5)), (6, .int (iI s0.1))] → W p l e rX11_findWay s mt args below meth c H locs 0 0 Q (F0 mt 29 ls []) :=
  iter_W (Pw := fun q => ∀ (H : Heap) (locs : List Loc) (ls : Array Slot), r32 q.1 → Wd G A s H0 ad g q.2 H locs → lv_has ls 11 [(0, .ref (ad x0)), (3, .int (iI x3)), (4, .int (iI x4)), (5, .int (iI x5)), (6, .int (iI q.1))] → W p l e rX11_findWay s mt args below meth c H locs 0 0 Q (F0 mt 29 ls [])) (Px := fun c0 q => (c0 = 1 → ∀ (H : Heap) (locs : List Loc) (ls : Array Slot), Wd G A s H0 ad g q.2 H locs → lv_has ls 11 [(0, .ref (ad x0)), (3, .int (iI x3)), (4, .int (iI x4)), (5, .int (iI x5))] → W p l e rX11_findWay s mt args below meth c H locs 0 0 Q (F0 mt 155 ls [])))
    (fun s c s' hB K0 kx H locs ls f0 S hl => wX11_findWay_29 C S hx0 hx3 hx4 hx5 f0 hl hB K0 (fun h9 => (kx (by rw [h9]; decide)) h9)) _ _ _ _ hI K1
set_option maxRecDepth 20000 in
theorem wX11_findWay_155 {p : Program} {l : Launch} {e : Env} {s : State} {mt : MethodId} {args : Array Value} {below : List Frame} {meth : Method} {c : Code} {Q : State → Prop} {G : Gl} {A : Nat → Prop} {H0 : Heap} {ad : Int → Nat} {g : Shp} {H : Heap} {locs : List Loc} {ls : Array Slot} {m : Mem} {x0 x3 x4 x5 : Int} (C : CallFix p mt c cX11_findWay 11 s args tb RX11) (S : Wd G A s H0 ad g m H locs) (hx0 : gk g x0 = 12) (hx3 : r32 x3) (hx4 : r32 x4) (hx5 : r32 x5) (hl : lv_has ls 11 [(0, .ref (ad x0)), (3, .int (iI x3)), (4, .int (iI x4)), (5, .int (iI x5))]) {c1 : Int} {s1 : (Int × Mem)} (hF : bX11_findWay_155 g x0 x3 x4 x5 m = some (c1, s1)) (K0 : c1 = 0 → ∀ (H : Heap) (locs : List Loc) (ls : Array Slot), r32 s1.1 → Wd G A s H0 ad g s1.2 H locs → lv_has ls 11 [(0, .ref (ad x0)), (3, .int (iI x3)), (4, .int (iI x4)), (5, .int (iI s1.1))] → W p l e rX11_findWay s mt args below meth c H locs 0 0 Q (F0 mt 20 ls [])) (K1 : c1 = 1 → ∀ (H : Heap) (locs : List Loc) (ls : Array Slot), Wd G A s H0 ad g s1.2 H locs → lv_has ls 11 [(0, .ref (ad x0)), (3, .int (iI x3)), (4, .int (iI x4))] → W p l e rX11_findWay s mt args below meth c H locs 0 0 Q (F0 mt 161 ls [])) : W p l e rX11_findWay s mt args below meth c H locs 0 0 Q (F0 mt 155 ls []) := by
  unfold bX11_findWay_155 at hF
  obtain ⟨y1, ey1, hF⟩ := vv_ok hF
  have ry1 : r32 y1 := ey1 ▸ r32_w _
  refine q_iinc C hl 3 [(5, .int (iI y1)), (0, .ref (ad x0)), (3, .int (iI x3)), (4, .int (iI x4))] rfl ey1 (by decide) rfl dX11_findWay_155 (fun ls hl => ?_)
  refine q_goto C 20 dX11_findWay_158 (by decide) ?_
  cases hF
  exact K0 rfl _ _ _ ry1 S (lv_sub hl [1, 2, 3, 0] rfl)
set_option maxRecDepth 20000 in
theorem wX11_findWay_20 {p : Program} {l : Launch} {e : Env} {s : State} {mt : MethodId} {args : Array Value} {below : List Frame} {meth : Method} {c : Code} {Q : State → Prop} {G : Gl} {A : Nat → Prop} {H0 : Heap} {ad : Int → Nat} {g : Shp} {H : Heap} {locs : List Loc} {ls : Array Slot} {m : Mem} {x0 x3 x4 x5 : Int} (C : CallFix p mt c cX11_findWay 11 s args tb RX11) (S : Wd G A s H0 ad g m H locs) (hx0 : gk g x0 = 12) (hx3 : r32 x3) (hx4 : r32 x4) (hx5 : r32 x5) (hl : lv_has ls 11 [(0, .ref (ad x0)), (3, .int (iI x3)), (4, .int (iI x4)), (5, .int (iI x5))]) {c1 : Int} {s1 : (Int × Mem)} (hF : bX11_findWay_20 g x0 x3 x4 x5 m = some (c1, s1)) (K0 : c1 = 0 → ∀ (H : Heap) (locs : List Loc) (ls : Array Slot), r32 s1.1 → Wd G A s H0 ad g s1.2 H locs → lv_has ls 11 [(0, .ref (ad x0)), (3, .int (iI x3)), (4, .int (iI x4)), (5, .int (iI s1.1))] → W p l e rX11_findWay s mt args below meth c H locs 0 0 Q (F0 mt 20 ls [])) (K1 : c1 = 1 → ∀ (H : Heap) (locs : List Loc) (ls : Array Slot), Wd G A s H0 ad g s1.2 H locs → lv_has ls 11 [(0, .ref (ad x0)), (3, .int (iI x3)), (4, .int (iI x4))] → W p l e rX11_findWay s mt args below meth c H locs 0 0 Q (F0 mt 161 ls [])) : W p l e rX11_findWay s mt args below meth c H locs 0 0 Q (F0 mt 20 ls []) := by
  unfold bX11_findWay_20 at hF
  refine q_iload C hl 3 rfl dX11_findWay_20 ?_
  refine q_iload_n C hl 1 rfl rfl dX11_findWay_22 ?_
  refine q_icmp_gt C hx5 hx3 161 dX11_findWay_23 (by decide) (fun hc1 => ?_) (fun hc1 => ?_)
  · have hF := if_t hc1 hF
    cases hF
    exact K1 rfl _ _ _  S (lv_sub hl [0, 1, 2] rfl)
  · have hF := if_f hc1 hF
    refine q_iconst C 0 dX11_findWay_26 ?_
    refine q_istore C hl [(6, .int (iI 0)), (0, .ref (ad x0)), (3, .int (iI x3)), (4, .int (iI x4)), (5, .int (iI x5))] rfl (by decide) rfl dX11_findWay_27 (fun ls hl => ?_)
    obtain ⟨cv2, sv3, hi4, hF⟩ := bdl_ok hF
    refine lX11_findWay_29 C hx0 hx3 hx4 hx5 hi4 ?_ _ _ _ (rl 0 rfl) S (lv_sub hl [1, 2, 3, 4, 0] rfl)
    intro _ H locs ls  S5 hl
    exact wX11_findWay_155 C S5 hx0 hx3 hx4 hx5 (lv_sub hl [0, 1, 2, 3] rfl) hF K0 K1
set_option maxRecDepth 20000 in
theorem lX11_findWay_20 {p : Program} {l : Launch} {e : Env} {s : State} {mt : MethodId} {args : Array Value} {below : List Frame} {meth : Method} {c : Code} {Q : State → Prop} {G : Gl} {A : Nat → Prop} {H0 : Heap} {ad : Int → Nat} {g : Shp} {x0 x3 x4 : Int} (C : CallFix p mt c cX11_findWay 11 s args tb RX11) (hx0 : gk g x0 = 12) (hx3 : r32 x3) (hx4 : r32 x4) {n : Nat} {s0 s1 : (Int × Mem)} {c1 : Int} (hI : iter (BX11_findWay_20 g x0 x3 x4) n s0 = some (c1, s1)) (K1 : c1 = 1 → ∀ (H : Heap) (locs : List Loc) (ls : Array Slot), Wd G A s H0 ad g s1.2 H locs → lv_has ls 11 [(0, .ref (ad x0)), (3, .int (iI x3)), (4, .int (iI x4))] → W p l e rX11_findWay s mt args below meth c H locs 0 0 Q (F0 mt 161 ls [])) : ∀ (H : Heap) (locs : List Loc) (ls : Array Slot), r32 s0.1 → Wd G A s H0 ad g s0.2 H locs → lv_has ls 11 [(0, .ref (ad x0)), (3, .int (iI x3)), (4, .int (iI x4)), (5, .int (iI s0.1))] → W p l e rX11_findWay s mt args below meth c H locs 0 0 Q (F0 mt 20 ls []) :=
  iter_W (Pw := fun q => ∀ (H : Heap) (locs : List Loc) (ls : Array Slot), r32 q.1 → Wd G A s H0 ad g q.2 H locs → lv_has ls 11 [(0, .ref (ad x0)), (3, .int (iI x3)), (4, .int (iI x4)), (5, .int (iI q.1))] → W p l e rX11_findWay s mt args below meth c H locs 0 0 Q (F0 mt 20 ls [])) (Px := fun c0 q => (c0 = 1 → ∀ (H : Heap) (locs : List Loc) (ls : Array Slot), Wd G A s H0 ad g q.2 H locs → lv_has ls 11 [(0, .ref (ad x0)), (3, .int (iI x3)), (4, .int (iI x4))] → W p l e rX11_findWay s mt args below meth c H locs 0 0 Q (F0 mt 161 ls [])))
    (fun s c s' hB K0 kx H locs ls f0 S hl => wX11_findWay_20 C S hx0 hx3 hx4 f0 hl hB K0 (fun h9 => (kx (by rw [h9]; decide)) h9)) _ _ _ _ hI K1
set_option maxRecDepth 20000 in
theorem wX11_findWay_336 {p : Program} {l : Launch} {e : Env} {s : State} {mt : MethodId} {args : Array Value} {below : List Frame} {meth : Method} {c : Code} {Q : State → Prop} {G : Gl} {A : Nat → Prop} {H0 : Heap} {ad : Int → Nat} {g : Shp} {H : Heap} {locs : List Loc} {ls : Array Slot} {m : Mem} {x0 x5 x8 x9 z0 z1 z2 : Int} (C : CallFix p mt c cX11_findWay 11 s args tb RX11) (S : Wd G A s H0 ad g m H locs) (hx0 : gk g x0 = 12) (hx5 : r32 x5) (hx8 : r32 x8) (hx9 : r32 x9) (hz0 : r32 z0) (hz1 : r32 z1) (hz2 : r32 z2) (hl : lv_has ls 11 [(0, .ref (ad x0)), (5, .int (iI x5)), (8, .int (iI x8)), (9, .int (iI x9))]) {c1 : Int} {s1 : (Int × Int × Int × Mem)} (hF : bX11_findWay_336 g x0 x5 x8 x9 z0 z1 z2 m = some (c1, s1)) (K0 : c1 = 0 → ∀ (H : Heap) (locs : List Loc) (ls : Array Slot), r32 s1.1 → r32 s1.2.1 → r32 s1.2.2.1 → Wd G A s H0 ad g s1.2.2.2 H locs → lv_has ls 11 [(0, .ref (ad x0)), (5, .int (iI s1.1)), (7, .int (iI s1.2.1)), (8, .int (iI s1.2.2.1))] → W p l e rX11_findWay s mt args below meth c H locs 0 0 Q (F0 mt 238 ls [])) (K1 : c1 = 1 → ∀ (H : Heap) (locs : List Loc) (ls : Array Slot), Wd G A s H0 ad g s1.2.2.2 H locs → lv_has ls 11 [] → W p l e rX11_findWay s mt args below meth c H locs 0 0 Q (F0 mt 358 ls [])) : W p l e rX11_findWay s mt args below meth c H locs 0 0 Q (F0 mt 336 ls [.int (iI z2), .int (iI z1), .int (iI z0)]) := by
  unfold bX11_findWay_336 at hF
  refine q_iadd C dX11_findWay_336 ?_
  refine q_isub C dX11_findWay_337 ?_
  obtain ⟨y1, ey1, hF⟩ := vv_ok hF
  have ry1 : r32 y1 := ey1 ▸ (r32_w _)
  refine q_istore C hl [(7, .int (iI y1)), (0, .ref (ad x0)), (5, .int (iI x5)), (8, .int (iI x8)), (9, .int (iI x9))] ey1 (by decide) rfl dX11_findWay_338 (fun ls hl => ?_)
  refine q_iload C hl 2 rfl dX11_findWay_340 ?_
  refine q_iload C hl 4 rfl dX11_findWay_342 ?_
  refine q_iconst C 4 dX11_findWay_344 ?_
  refine q_irem C hx9 (rl 4 rfl) (by decide) dX11_findWay_345 ?_
  obtain ⟨v2, m3, h4, hF⟩ := bd2_ok hF
  refine q_ci S (run_S (As := [.int (iI (jrem x9 4))]) (rest := [.int (iI x5)]) C S (cX11_oneOf_ok l G (r32_w _) h4 ad _) gd_RX11_197 hd_X11_oneOf rfl ⟨rfl, rfl, by decide, by decide⟩ ⟨Nat.zero_le _, Nat.zero_le _⟩ hl.1 rfl (Nat.le_of_ble_eq_true rfl) dX11_findWay_346) (fun H locs Sm3 h5 => ?_)
  refine q_isub C dX11_findWay_349 ?_
  obtain ⟨y6, ey6, hF⟩ := vv_ok hF
  have ry6 : r32 y6 := ey6 ▸ (r32_w _)
  refine q_istore C hl [(5, .int (iI y6)), (7, .int (iI y1)), (0, .ref (ad x0)), (8, .int (iI x8)), (9, .int (iI x9))] ey6 (by decide) rfl dX11_findWay_350 (fun ls hl => ?_)
  obtain ⟨y7, ey7, hF⟩ := vv_ok hF
  have ry7 : r32 y7 := ey7 ▸ r32_w _
  refine q_iinc C hl 3 [(8, .int (iI y7)), (5, .int (iI y6)), (7, .int (iI y1)), (0, .ref (ad x0)), (9, .int (iI x9))] rfl ey7 (by decide) rfl dX11_findWay_352 (fun ls hl => ?_)
  refine q_goto C 238 dX11_findWay_355 (by decide) ?_
  cases hF
  exact K0 rfl _ _ _ ry6 ry1 ry7 Sm3 (lv_sub hl [3, 1, 2, 0] rfl)
set_option maxRecDepth 20000 in
theorem wX11_findWay_238 {p : Program} {l : Launch} {e : Env} {s : State} {mt : MethodId} {args : Array Value} {below : List Frame} {meth : Method} {c : Code} {Q : State → Prop} {G : Gl} {A : Nat → Prop} {H0 : Heap} {ad : Int → Nat} {g : Shp} {H : Heap} {locs : List Loc} {ls : Array Slot} {m : Mem} {x0 x5 x7 x8 : Int} (C : CallFix p mt c cX11_findWay 11 s args tb RX11) (S : Wd G A s H0 ad g m H locs) (hx0 : gk g x0 = 12) (hx5 : r32 x5) (hx7 : r32 x7) (hx8 : r32 x8) (hl : lv_has ls 11 [(0, .ref (ad x0)), (5, .int (iI x5)), (7, .int (iI x7)), (8, .int (iI x8))]) {c1 : Int} {s1 : (Int × Int × Int × Mem)} (hF : bX11_findWay_238 g x0 x5 x7 x8 m = some (c1, s1)) (K0 : c1 = 0 → ∀ (H : Heap) (locs : List Loc) (ls : Array Slot), r32 s1.1 → r32 s1.2.1 → r32 s1.2.2.1 → Wd G A s H0 ad g s1.2.2.2 H locs → lv_has ls 11 [(0, .ref (ad x0)), (5, .int (iI s1.1)), (7, .int (iI s1.2.1)), (8, .int (iI s1.2.2.1))] → W p l e rX11_findWay s mt args below meth c H locs 0 0 Q (F0 mt 238 ls [])) (K1 : c1 = 1 → ∀ (H : Heap) (locs : List Loc) (ls : Array Slot), Wd G A s H0 ad g s1.2.2.2 H locs → lv_has ls 11 [] → W p l e rX11_findWay s mt args below meth c H locs 0 0 Q (F0 mt 358 ls [])) : W p l e rX11_findWay s mt args below meth c H locs 0 0 Q (F0 mt 238 ls []) := by
  unfold bX11_findWay_238 at hF
  refine q_iload C hl 3 rfl dX11_findWay_238 ?_
  refine q_aload_n C hl 0 rfl rfl dX11_findWay_240 ?_
  refine q_geti C S 35 fo_RX11_221 (j := 35) rfl rfl hx0 dX11_findWay_241 ?_
  refine q_icmp_ge C hx8 (S.r _ _) 358 dX11_findWay_244 (by decide) (fun hc1 => ?_) (fun hc1 => ?_)
  · have hF := if_t hc1 hF
    cases hF
    exact K1 rfl _ _ _  S (lv_sub hl [] rfl)
  · have hF := if_f hc1 hF
    refine q_aload_n C hl 0 rfl rfl dX11_findWay_247 ?_
    refine q_iload C hl 2 rfl dX11_findWay_248 ?_
    refine q_iload C hl 1 rfl dX11_findWay_250 ?_
    refine q_aload_n C hl 0 rfl rfl dX11_findWay_252 ?_
    refine q_iload C hl 2 rfl dX11_findWay_253 ?_
    refine q_iload C hl 1 rfl dX11_findWay_255 ?_
    obtain ⟨v2, m3, h4, hF⟩ := bd2_ok hF
    refine q_ci S (run_V (As := [.int (iI x7), .int (iI x5)]) (rest := [.int (iI x5), .int (iI x7), .ref (ad x0)]) C S (cX11_costAt_ok l G hx0 hx7 hx5 h4 ad _) hx0 ⟨by decide, _, _, rfl⟩ gd_RX11_201 hdV_X11_costAt rfl ⟨rfl, rfl, by decide, by decide⟩ ⟨Nat.zero_le _, Nat.zero_le _⟩ hl.1 rfl (Nat.le_of_ble_eq_true rfl) dX11_findWay_257) (fun H locs Sm3 h5 => ?_)
    obtain ⟨v6, m7, h8, hF⟩ := bd2_ok hF
    refine q_ci Sm3 (run_V (As := [.int (iI x7), .int (iI x5), .int (iI v2)]) (rest := []) C Sm3 (cX11_firstStone_ok l G hx0 hx7 hx5 h5.1 h8 ad _) hx0 ⟨by decide, _, _, rfl⟩ gd_RX11_224 hdV_X11_firstStone rfl ⟨rfl, rfl, by decide, by decide⟩ ⟨Nat.zero_le _, Nat.zero_le _⟩ hl.1 rfl (Nat.le_of_ble_eq_true rfl) dX11_findWay_260) (fun H locs Sm7 h9 => ?_)
    refine q_istore C hl [(9, .int (iI v6)), (0, .ref (ad x0)), (5, .int (iI x5)), (7, .int (iI x7)), (8, .int (iI x8))] rfl (by decide) rfl dX11_findWay_263 (fun ls hl => ?_)
    refine q_iload C hl 0 rfl dX11_findWay_265 ?_
    refine q_iconst C 4 dX11_findWay_267 ?_
    refine q_idiv C h9.1 (rl 4 rfl) (by decide) dX11_findWay_268 ?_
    obtain ⟨y10, ey10, hF⟩ := vv_ok hF
    have ry10 : r32 y10 := ey10 ▸ (r32_w _)
    refine q_istore C hl [(10, .int (iI y10)), (9, .int (iI v6)), (0, .ref (ad x0)), (5, .int (iI x5)), (7, .int (iI x7)), (8, .int (iI x8))] ey10 (by decide) rfl dX11_findWay_269 (fun ls hl => ?_)
    refine q_aload_n C hl 2 rfl rfl dX11_findWay_271 ?_
    obtain ⟨k11, hF⟩ := ck_ok hF
    refine q_getr C Sm7 32 fo_RX11_74 (j := 32) rfl rfl hx0 k11 (by decide) dX11_findWay_272 ?_
    refine q_iload C hl 5 rfl dX11_findWay_275 ?_
    refine q_iload C hl 0 rfl dX11_findWay_277 ?_
    obtain ⟨i12, hF⟩ := ck_ok hF
    obtain ⟨m13, em13, hF⟩ := vm_ok hF
    refine q_iast C Sm7 k11 i12 ry10 em13 dX11_findWay_279 (fun H locs Sm13 => ?_)
    refine q_aload_n C hl 2 rfl rfl dX11_findWay_280 ?_
    obtain ⟨k14, hF⟩ := ck_ok hF
    refine q_getr C Sm13 33 fo_RX11_77 (j := 33) rfl rfl hx0 k14 (by decide) dX11_findWay_281 ?_
    refine q_iload C hl 5 rfl dX11_findWay_284 ?_
    refine q_iload C hl 1 rfl dX11_findWay_286 ?_
    refine q_iconst C 4 dX11_findWay_288 ?_
    refine q_irem C h9.1 (rl 4 rfl) (by decide) dX11_findWay_289 ?_
    obtain ⟨i15, hF⟩ := ck_ok hF
    obtain ⟨m16, em16, hF⟩ := vm_ok hF
    refine q_iast C Sm13 k14 i15 (r32_w _) em16 dX11_findWay_290 (fun H locs Sm16 => ?_)
    refine q_aload_n C hl 2 rfl rfl dX11_findWay_291 ?_
    obtain ⟨k17, hF⟩ := ck_ok hF
    refine q_getr C Sm16 34 fo_RX11_80 (j := 34) rfl rfl hx0 k17 (by decide) dX11_findWay_292 ?_
    refine q_iload C hl 5 rfl dX11_findWay_295 ?_
    refine q_aload_n C hl 2 rfl rfl dX11_findWay_297 ?_
    refine q_iload C hl 4 rfl dX11_findWay_298 ?_
    refine q_iload C hl 0 rfl dX11_findWay_300 ?_
    refine q_iload C hl 1 rfl dX11_findWay_302 ?_
    refine q_iconst C 4 dX11_findWay_304 ?_
    refine q_irem C h9.1 (rl 4 rfl) (by decide) dX11_findWay_305 ?_
    obtain ⟨v18, m19, h20, hF⟩ := bd2_ok hF
    refine q_ci Sm16 (run_V (As := [.int (iI x7), .int (iI y10), .int (iI (jrem v6 4))]) (rest := [.int (iI x8), .ref (ad (m16 x0 34))]) C Sm16 (cX11_isCutAslant_ok l G hx0 hx7 ry10 (r32_w _) h20 ad _) hx0 ⟨by decide, _, _, rfl⟩ gd_RX11_205 hdV_X11_isCutAslant rfl ⟨rfl, rfl, by decide, by decide⟩ ⟨Nat.zero_le _, Nat.zero_le _⟩ hl.1 rfl (Nat.le_of_ble_eq_true rfl) dX11_findWay_306) (fun H locs Sm19 h21 => ?_)
    obtain ⟨i22, hF⟩ := ck_ok hF
    obtain ⟨m23, em23, hF⟩ := vm_ok hF
    refine q_zast C Sm19 k17 i22 (h21.2 rfl) em23 dX11_findWay_309 (fun H locs Sm23 => ?_)
    refine q_iload C hl 4 rfl dX11_findWay_310 ?_
    refine q_iload C hl 0 rfl dX11_findWay_312 ?_
    refine q_iload C hl 0 rfl dX11_findWay_314 ?_
    refine q_aload_n C hl 2 rfl rfl dX11_findWay_316 ?_
    obtain ⟨k24, hF⟩ := ck_ok hF
    refine q_getr C Sm23 30 fo_RX11_68 (j := 30) rfl rfl hx0 k24 (by decide) dX11_findWay_317 ?_
    refine q_iload C hl 4 rfl dX11_findWay_320 ?_
    obtain ⟨i25, hF⟩ := ck_ok hF
    refine q_iald C Sm23 k24 i25 dX11_findWay_322 ?_
    refine q_icmp_ge C ry10 (Sm23.r _ _) 335 dX11_findWay_323 (by decide) (fun hc26 => ?_) (fun hc26 => ?_)
    · have hF := if_t hc26 hF
      refine q_iconst C 0 dX11_findWay_335 ?_
      exact wX11_findWay_336 C Sm23 hx0 hx5 hx8 h9.1 hx7 ry10 (rl 0 rfl) (lv_sub hl [2, 3, 5, 1] rfl) hF K0 K1
    · have hF := if_f hc26 hF
      refine q_aload_n C hl 2 rfl rfl dX11_findWay_326 ?_
      obtain ⟨k27, hF⟩ := ck_ok hF
      refine q_getr C Sm23 0 fo_RX11_7 (j := 0) rfl rfl hx0 k27 (by decide) dX11_findWay_327 ?_
      refine q_iconst C 0 dX11_findWay_330 ?_
      obtain ⟨i28, hF⟩ := ck_ok hF
      refine q_iald C Sm23 k27 i28 dX11_findWay_331 ?_
      refine q_goto C 336 dX11_findWay_332 (by decide) ?_
      exact wX11_findWay_336 C Sm23 hx0 hx5 hx8 h9.1 hx7 ry10 (Sm23.r _ _) (lv_sub hl [2, 3, 5, 1] rfl) hF K0 K1
set_option maxRecDepth 20000 in
theorem lX11_findWay_238 {p : Program} {l : Launch} {e : Env} {s : State} {mt : MethodId} {args : Array Value} {below : List Frame} {meth : Method} {c : Code} {Q : State → Prop} {G : Gl} {A : Nat → Prop} {H0 : Heap} {ad : Int → Nat} {g : Shp} {x0 : Int} (C : CallFix p mt c cX11_findWay 11 s args tb RX11) (hx0 : gk g x0 = 12) {n : Nat} {s0 s1 : (Int × Int × Int × Mem)} {c1 : Int} (hI : iter (BX11_findWay_238 g x0) n s0 = some (c1, s1)) (K1 : c1 = 1 → ∀ (H : Heap) (locs : List Loc) (ls : Array Slot), Wd G A s H0 ad g s1.2.2.2 H locs → lv_has ls 11 [] → W p l e rX11_findWay s mt args below meth c H locs 0 0 Q (F0 mt 358 ls [])) : ∀ (H : Heap) (locs : List Loc) (ls : Array Slot), r32 s0.1 → r32 s0.2.1 → r32 s0.2.2.1 → Wd G A s H0 ad g s0.2.2.2 H locs → lv_has ls 11 [(0, .ref (ad x0)), (5, .int (iI s0.1)), (7, .int (iI s0.2.1)), (8, .int (iI s0.2.2.1))] → W p l e rX11_findWay s mt args below meth c H locs 0 0 Q (F0 mt 238 ls []) :=
  iter_W (Pw := fun q => ∀ (H : Heap) (locs : List Loc) (ls : Array Slot), r32 q.1 → r32 q.2.1 → r32 q.2.2.1 → Wd G A s H0 ad g q.2.2.2 H locs → lv_has ls 11 [(0, .ref (ad x0)), (5, .int (iI q.1)), (7, .int (iI q.2.1)), (8, .int (iI q.2.2.1))] → W p l e rX11_findWay s mt args below meth c H locs 0 0 Q (F0 mt 238 ls [])) (Px := fun c0 q => (c0 = 1 → ∀ (H : Heap) (locs : List Loc) (ls : Array Slot), Wd G A s H0 ad g q.2.2.2 H locs → lv_has ls 11 [] → W p l e rX11_findWay s mt args below meth c H locs 0 0 Q (F0 mt 358 ls [])))
    (fun s c s' hB K0 kx H locs ls f0 f1 f2 S hl => wX11_findWay_238 C S hx0 f0 f1 f2 hl hB K0 (fun h9 => (kx (by rw [h9]; decide)) h9)) _ _ _ _ hI K1
set_option maxRecDepth 20000 in
theorem wX11_findWay_358 {p : Program} {l : Launch} {e : Env} {s : State} {mt : MethodId} {args : Array Value} {below : List Frame} {meth : Method} {c : Code} {Q : State → Prop} {G : Gl} {A : Nat → Prop} {H0 : Heap} {ad : Int → Nat} {g : Shp} {H : Heap} {locs : List Loc} {ls : Array Slot} {m : Mem} (C : CallFix p mt c cX11_findWay 11 s args tb RX11) (S : Wd G A s H0 ad g m H locs)  (hl : lv_has ls 11 []) {r : Int} {m' : Mem} (hF : bX11_findWay_358 g m = some (r, m')) (Kr : ∀ (H : Heap) (locs : List Loc) (pc : Nat) (ls : Array Slot), Wd G A s H0 ad g m' H locs → decode cX11_findWay pc = .ok (.ireturn, 1) → r32 r ∧ (true = true → r = 0 ∨ r = 1) → narrow .boolean (.int (iI r)) = .int (iI r) → W p l e rX11_findWay s mt args below meth c H locs 0 0 Q (F0 mt pc ls [.int (iI r)])) : W p l e rX11_findWay s mt args below meth c H locs 0 0 Q (F0 mt 358 ls []) := by
  unfold bX11_findWay_358 at hF
  refine q_iconst C 1 dX11_findWay_358 ?_
  cases hF
  exact Kr _ _ _ _ S dX11_findWay_359 ⟨r_b b_1, fun _ => b_1⟩ (nr_b b_1)
set_option maxRecDepth 20000 in
theorem wX11_findWay_161 {p : Program} {l : Launch} {e : Env} {s : State} {mt : MethodId} {args : Array Value} {below : List Frame} {meth : Method} {c : Code} {Q : State → Prop} {G : Gl} {A : Nat → Prop} {H0 : Heap} {ad : Int → Nat} {g : Shp} {H : Heap} {locs : List Loc} {ls : Array Slot} {m : Mem} {x0 x3 x4 : Int} (C : CallFix p mt c cX11_findWay 11 s args tb RX11) (S : Wd G A s H0 ad g m H locs) (hx0 : gk g x0 = 12) (hx3 : r32 x3) (hx4 : r32 x4) (hl : lv_has ls 11 [(0, .ref (ad x0)), (3, .int (iI x3)), (4, .int (iI x4))]) {r : Int} {m' : Mem} (hF : bX11_findWay_161 g x0 x3 x4 m = some (r, m')) (Kr : ∀ (H : Heap) (locs : List Loc) (pc : Nat) (ls : Array Slot), Wd G A s H0 ad g m' H locs → decode cX11_findWay pc = .ok (.ireturn, 1) → r32 r ∧ (true = true → r = 0 ∨ r = 1) → narrow .boolean (.int (iI r)) = .int (iI r) → W p l e rX11_findWay s mt args below meth c H locs 0 0 Q (F0 mt pc ls [.int (iI r)])) : W p l e rX11_findWay s mt args below meth c H locs 0 0 Q (F0 mt 161 ls []) := by
  unfold bX11_findWay_161 at hF
  refine q_bipush C 49 (by decide) dX11_findWay_161 ?_
  refine q_aload_n C hl 0 rfl rfl dX11_findWay_163 ?_
  obtain ⟨k1, hF⟩ := ck_ok hF
  refine q_getr C S 0 fo_RX11_7 (j := 0) rfl rfl hx0 k1 (by decide) dX11_findWay_164 ?_
  refine q_iload C hl 2 rfl dX11_findWay_167 ?_
  obtain ⟨i2, hF⟩ := ck_ok hF
  refine q_iald C S k1 i2 dX11_findWay_169 ?_
  refine q_imul C dX11_findWay_170 ?_
  refine q_bipush C 7 (by decide) dX11_findWay_171 ?_
  refine q_aload_n C hl 0 rfl rfl dX11_findWay_173 ?_
  refine q_getr C S 0 fo_RX11_7 (j := 0) rfl rfl hx0 k1 (by decide) dX11_findWay_174 ?_
  refine q_iload C hl 2 rfl dX11_findWay_177 ?_
  refine q_iconst C 1 dX11_findWay_179 ?_
  refine q_iadd C dX11_findWay_180 ?_
  obtain ⟨i3, hF⟩ := ck_ok hF
  refine q_iald C S k1 i3 dX11_findWay_181 ?_
  refine q_imul C dX11_findWay_182 ?_
  refine q_iadd C dX11_findWay_183 ?_
  refine q_aload_n C hl 0 rfl rfl dX11_findWay_184 ?_
  refine q_getr C S 0 fo_RX11_7 (j := 0) rfl rfl hx0 k1 (by decide) dX11_findWay_185 ?_
  refine q_iload C hl 2 rfl dX11_findWay_188 ?_
  refine q_iconst C 2 dX11_findWay_190 ?_
  refine q_iadd C dX11_findWay_191 ?_
  obtain ⟨i4, hF⟩ := ck_ok hF
  refine q_iald C S k1 i4 dX11_findWay_192 ?_
  refine q_iadd C dX11_findWay_193 ?_
  obtain ⟨y5, ey5, hF⟩ := vv_ok hF
  have ry5 : r32 y5 := ey5 ▸ (r32_w _)
  refine q_istore C hl [(5, .int (iI y5)), (0, .ref (ad x0)), (3, .int (iI x3)), (4, .int (iI x4))] ey5 (by decide) rfl dX11_findWay_194 (fun ls hl => ?_)
  refine q_aload_n C hl 1 rfl rfl dX11_findWay_196 ?_
  refine q_iload_n C hl 2 rfl rfl dX11_findWay_197 ?_
  refine q_iload C hl 0 rfl dX11_findWay_198 ?_
  obtain ⟨v6, m7, h8, hF⟩ := bd2_ok hF
  refine q_ci S (run_V (As := [.int (iI x3), .int (iI y5)]) (rest := []) C S (cX11_costAt_ok l G hx0 hx3 ry5 h8 ad _) hx0 ⟨by decide, _, _, rfl⟩ gd_RX11_201 hdV_X11_costAt rfl ⟨rfl, rfl, by decide, by decide⟩ ⟨Nat.zero_le _, Nat.zero_le _⟩ hl.1 rfl (Nat.le_of_ble_eq_true rfl) dX11_findWay_200) (fun H locs Sm7 h9 => ?_)
  refine q_istore C hl [(6, .int (iI v6)), (5, .int (iI y5)), (0, .ref (ad x0)), (3, .int (iI x3)), (4, .int (iI x4))] rfl (by decide) rfl dX11_findWay_203 (fun ls hl => ?_)
  refine q_iload C hl 0 rfl dX11_findWay_205 ?_
  refine q_ldc C 1000000 (by decide) tw1115 dX11_findWay_207 ?_
  refine q_icmp_ne C h9.1 (rl 1000000 rfl) 214 dX11_findWay_209 (by decide) (fun hc10 => ?_) (fun hc10 => ?_)
  · have hF := if_t hc10 hF
    refine q_iconst C 0 dX11_findWay_212 ?_
    cases hF
    exact Kr _ _ _ _ Sm7 dX11_findWay_213 ⟨r_b b_0, fun _ => b_0⟩ (nr_b b_0)
  · have hF := if_f hc10 hF
    refine q_aload_n C hl 2 rfl rfl dX11_findWay_214 ?_
    refine q_iload C hl 0 rfl dX11_findWay_215 ?_
    refine q_bipush C 32 (by decide) dX11_findWay_217 ?_
    refine q_idiv C h9.1 (rl 32 rfl) (by decide) dX11_findWay_219 ?_
    obtain ⟨m11, em11, hF⟩ := vm_ok hF
    refine q_put C Sm7 36 fo_RX11_218 fp_12_36 (fun h9 => absurd h9 (by decide)) (j := 36) rfl hx0 rfl rfl rfl (r32_w _) (fun h9 => absurd h9 (by decide)) em11 dX11_findWay_220 (fun H locs Sm11 => ?_)
    refine q_aload_n C hl 2 rfl rfl dX11_findWay_223 ?_
    refine q_iload C hl 0 rfl dX11_findWay_224 ?_
    refine q_bipush C 32 (by decide) dX11_findWay_226 ?_
    refine q_irem C h9.1 (rl 32 rfl) (by decide) dX11_findWay_228 ?_
    obtain ⟨m12, em12, hF⟩ := vm_ok hF
    refine q_put C Sm11 35 fo_RX11_221 fp_12_35 (fun h9 => absurd h9 (by decide)) (j := 35) rfl hx0 rfl rfl rfl (r32_w _) (fun h9 => absurd h9 (by decide)) em12 dX11_findWay_229 (fun H locs Sm12 => ?_)
    refine q_iload_n C hl 3 rfl rfl dX11_findWay_232 ?_
    refine q_istore C hl [(7, .int (iI x3)), (6, .int (iI v6)), (5, .int (iI y5)), (0, .ref (ad x0)), (3, .int (iI x3)), (4, .int (iI x4))] rfl (by decide) rfl dX11_findWay_233 (fun ls hl => ?_)
    refine q_iconst C 0 dX11_findWay_235 ?_
    refine q_istore C hl [(8, .int (iI 0)), (7, .int (iI x3)), (6, .int (iI v6)), (5, .int (iI y5)), (0, .ref (ad x0)), (3, .int (iI x3)), (4, .int (iI x4))] rfl (by decide) rfl dX11_findWay_236 (fun ls hl => ?_)
    obtain ⟨cv13, sv14, hi15, hF⟩ := bdl_ok hF
    refine lX11_findWay_238 C hx0 hi15 ?_ _ _ _ ry5 hx3 (rl 0 rfl) Sm12 (lv_sub hl [4, 3, 1, 0] rfl)
    intro _ H locs ls  S16 hl
    exact wX11_findWay_358 C S16  (lv_sub hl [] rfl) hF Kr
set_option maxRecDepth 20000 in
theorem wX11_findWay_0 {p : Program} {l : Launch} {e : Env} {s : State} {mt : MethodId} {args : Array Value} {below : List Frame} {meth : Method} {c : Code} {Q : State → Prop} {G : Gl} {A : Nat → Prop} {H0 : Heap} {ad : Int → Nat} {g : Shp} {H : Heap} {locs : List Loc} {ls : Array Slot} {m : Mem} {x0 x1 x2 : Int} (C : CallFix p mt c cX11_findWay 11 s args tb RX11) (S : Wd G A s H0 ad g m H locs) (hx0 : gk g x0 = 12) (hx1 : r32 x1) (hx2 : r32 x2) (hl : lv_has ls 11 [(0, .ref (ad x0)), (1, .int (iI x1)), (2, .int (iI x2))]) {r : Int} {m' : Mem} (hF : bX11_findWay_0 g x0 x1 x2 m = some (r, m')) (Kr : ∀ (H : Heap) (locs : List Loc) (pc : Nat) (ls : Array Slot), Wd G A s H0 ad g m' H locs → decode cX11_findWay pc = .ok (.ireturn, 1) → r32 r ∧ (true = true → r = 0 ∨ r = 1) → narrow .boolean (.int (iI r)) = .int (iI r) → W p l e rX11_findWay s mt args below meth c H locs 0 0 Q (F0 mt pc ls [.int (iI r)])) : W p l e rX11_findWay s mt args below meth c H locs 0 0 Q (F0 mt 0 ls []) := by
  unfold bX11_findWay_0 at hF
  refine q_aload_n C hl 0 rfl rfl dX11_findWay_0 ?_
  refine q_iload_n C hl 1 rfl rfl dX11_findWay_1 ?_
  obtain ⟨v1, m2, h3, hF⟩ := bd2_ok hF
  refine q_cv S (run_V (As := [.int (iI x1)]) (rest := []) C S (cX11_findPieces_ok l G hx0 hx1 h3 ad _) hx0 ⟨by decide, _, _, rfl⟩ gd_RX11_193 hdV_X11_findPieces rfl ⟨rfl, rfl, by decide, by decide⟩ ⟨Nat.zero_le _, Nat.zero_le _⟩ hl.1 rfl (Nat.le_of_ble_eq_true rfl) dX11_findWay_2) (fun H locs Sm2 => ?_)
  refine q_aload_n C hl 0 rfl rfl dX11_findWay_5 ?_
  obtain ⟨v4, m5, h6, hF⟩ := bd2_ok hF
  refine q_ci Sm2 (run_V (As := []) (rest := []) C Sm2 (cX11_layRest_ok l G hx0 h6 ad _) hx0 ⟨by decide, _, _, rfl⟩ gd_RX11_212 hdV_X11_layRest rfl ⟨rfl, rfl, by decide, by decide⟩ ⟨Nat.zero_le _, Nat.zero_le _⟩ hl.1 rfl (Nat.le_of_ble_eq_true rfl) dX11_findWay_6) (fun H locs Sm5 h7 => ?_)
  refine q_istore_n C hl [(3, .int (iI v4)), (0, .ref (ad x0)), (1, .int (iI x1)), (2, .int (iI x2))] rfl rfl (by decide) rfl dX11_findWay_9 (fun ls hl => ?_)
  refine q_iconst C 1 dX11_findWay_10 ?_
  refine q_iconst C 3 dX11_findWay_11 ?_
  refine q_iload_n C hl 3 rfl rfl dX11_findWay_12 ?_
  refine q_imul C dX11_findWay_13 ?_
  refine q_iadd C dX11_findWay_14 ?_
  obtain ⟨y8, ey8, hF⟩ := vv_ok hF
  have ry8 : r32 y8 := ey8 ▸ (r32_w _)
  refine q_istore C hl [(4, .int (iI y8)), (3, .int (iI v4)), (0, .ref (ad x0)), (1, .int (iI x1)), (2, .int (iI x2))] ey8 (by decide) rfl dX11_findWay_15 (fun ls hl => ?_)
  refine q_iconst C 0 dX11_findWay_17 ?_
  refine q_istore C hl [(5, .int (iI 0)), (4, .int (iI y8)), (3, .int (iI v4)), (0, .ref (ad x0)), (1, .int (iI x1)), (2, .int (iI x2))] rfl (by decide) rfl dX11_findWay_18 (fun ls hl => ?_)
  obtain ⟨cv9, sv10, hi11, hF⟩ := bdl_ok hF
  refine lX11_findWay_20 C hx0 h7.1 ry8 hi11 ?_ _ _ _ (rl 0 rfl) Sm5 (lv_sub hl [3, 2, 1, 0] rfl)
  intro _ H locs ls  S12 hl
  exact wX11_findWay_161 C S12 hx0 h7.1 ry8 (lv_sub hl [0, 1, 2] rfl) hF Kr
theorem cX11_findWay_ok (l : Launch) (G : Gl) {g : Shp} {x0 x1 x2 : Int} {m m' : Mem} {r : Int} (hx0 : gk g x0 = 12) (hx1 : r32 x1) (hx2 : r32 x2) (hF : fX11_findWay g x0 x1 x2 m = some (r, m')) : mI l yX11_findWay (wT yX11_findWay cX11_findWay 11 (some .boolean)) rX11_findWay G true (fun ad => [.ref (ad x0), .int (iI x1), .int (iI x2)]) g m r m' :=
  met_i (by decide) (fun ad => Nat.le_of_ble_eq_true rfl) (fun p e s mt args below meth c Q A H0 H locs ad ls C hnm S hl Kr => wX11_findWay_0 C S hx0 hx1 hx2 hl hF Kr)
