def bX11_cutsByTurns_86 (g : Shp) (x0 x1 x2 x3 : Int) (m : Mem) : Option (Int × (Int × Int × Mem)) :=
  vv (w32 (x3 + 1)) fun y1 =>
  some (0, (x2, y1, m))
def bX11_cutsByTurns_17 (g : Shp) (x0 x1 x2 x3 : Int) (m : Mem) : Option (Int × (Int × Int × Mem)) :=
  if x1 ≤ x3 then
    some (1, (x2, x3, m))
  else
    if 1000000 ≤ x2 then
      some (1, (x2, x3, m))
    else
      ck (gk g (m x0 38) = 20) <|
      ck ((0 : Int) ≤ x3 ∧ x3 < gl g (m x0 38)) <|
      ck (gk g (m x0 37) = 20) <|
      ck ((0 : Int) ≤ x3 ∧ x3 < gl g (m x0 38)) <|
      ck ((0 : Int) ≤ (m (m x0 38) x3) ∧ (m (m x0 38) x3) < gl g (m x0 37)) <|
      bd2 (fX11_findWay g x0 (m (m x0 38) x3) (m (m x0 37) (m (m x0 38) x3)) m) fun v8 m9 =>
      if v8 = 0 then
        bX11_cutsByTurns_86 g x0 x1 1000000 x3 m9
      else
        ck (gk g (m9 x0 38) = 20) <|
        ck ((0 : Int) ≤ x3 ∧ x3 < gl g (m9 x0 38)) <|
        ck (gk g (m9 x0 37) = 20) <|
        ck ((0 : Int) ≤ x3 ∧ x3 < gl g (m9 x0 38)) <|
        ck ((0 : Int) ≤ (m9 (m9 x0 38) x3) ∧ (m9 (m9 x0 38) x3) < gl g (m9 x0 37)) <|
        bd2 (fX11_coverBy g x0 (m9 (m9 x0 38) x3) (m9 (m9 x0 37) (m9 (m9 x0 38) x3)) m9) fun v18 m19 =>
        vv (w32 (x2 + (m19 x0 36))) fun y21 =>
        bX11_cutsByTurns_86 g x0 x1 y21 x3 m19
def BX11_cutsByTurns_17 (g : Shp) (x0 x1 : Int) (q : (Int × Int × Mem)) : Option (Int × (Int × Int × Mem)) := bX11_cutsByTurns_17 g x0 x1 q.1 q.2.1 q.2.2
def bX11_cutsByTurns_92 (g : Shp) (x0 x2 : Int) (m : Mem) : Option (Int × Mem) :=
  ck (gk g (m x0 1) = 20) <|
  ck (gk g (m x0 0) = 20) <|
  bd2 (fX11_bring g (m x0 1) 0 (m x0 0) 0 m) fun v3 m4 =>
  some (x2, m4)
def bX11_cutsByTurns_0 (g : Shp) (x0 x1 : Int) (m : Mem) : Option (Int × Mem) :=
  ck (gk g (m x0 0) = 20) <|
  ck (gk g (m x0 1) = 20) <|
  bd2 (fX11_bring g (m x0 0) 0 (m x0 1) 0 m) fun v3 m4 =>
  bdl (iter (BX11_cutsByTurns_17 g x0 x1) 100000 (0, 0, m4)) fun cv6 sv7 =>
  bX11_cutsByTurns_92 g x0 sv7.1 sv7.2.2
def fX11_cutsByTurns (g : Shp) (x0 x1 : Int) (m : Mem) : Option (Int × Mem) := bX11_cutsByTurns_0 g x0 x1 m
def bX11_layTurns_0 (g : Shp) (x0 x1 : Int) (m : Mem) : Option (Int × Mem) :=
  ck (gk g (m x0 38) = 20) <|
  ck ((0 : Int) ≤ 0 ∧ 0 < gl g (m x0 38)) <|
  vm (ms m (m x0 38) 0 (jdiv x1 9)) fun m3 =>
  ck (gk g (m3 x0 38) = 20) <|
  ck ((0 : Int) ≤ 1 ∧ 1 < gl g (m3 x0 38)) <|
  vm (ms m3 (m3 x0 38) 1 (jrem (jdiv x1 3) 3)) fun m6 =>
  ck (gk g (m6 x0 38) = 20) <|
  ck ((0 : Int) ≤ 2 ∧ 2 < gl g (m6 x0 38)) <|
  vm (ms m6 (m6 x0 38) 2 (jrem x1 3)) fun m9 =>
  some (0, m9)
def fX11_layTurns (g : Shp) (x0 x1 : Int) (m : Mem) : Option (Int × Mem) := bX11_layTurns_0 g x0 x1 m
def bX11_order_85 (g : Shp) (x0 x4 x6 z0 z1 : Int) (m : Mem) : Option (Int × (Int × Int × Mem)) :=
  vv (w32 (z0 + z1)) fun y1 =>
  vv (w32 (x6 + 1)) fun y2 =>
  some (0, (y1, y2, m))
def bX11_order_60 (g : Shp) (x0 x4 x5 x6 : Int) (m : Mem) : Option (Int × (Int × Int × Mem)) :=
  if (m x0 20) ≤ x6 then
    some (1, (x5, x6, m))
  else
    bd2 (fX11_isCovered g x0 x6 m) fun v2 m3 =>
    if v2 = 0 then
      bX11_order_85 g x0 x4 x6 x5 1 m3
    else
      bX11_order_85 g x0 x4 x6 x5 0 m3
def BX11_order_60 (g : Shp) (x0 x4 : Int) (q : (Int × Int × Mem)) : Option (Int × (Int × Int × Mem)) := bX11_order_60 g x0 x4 q.1 q.2.1 q.2.2
def bX11_order_167 (g : Shp) (x0 x4 x5 x6 x7 x8 : Int) (m : Mem) : Option (Int × (Int × Int × Int × Mem)) :=
  vv (w32 (x8 + 1)) fun y1 =>
  some (0, (x6, x7, y1, m))
def bX11_order_165 (g : Shp) (x0 x4 x5 x7 x8 z0 : Int) (m : Mem) : Option (Int × (Int × Int × Int × Mem)) :=
  bX11_order_167 g x0 x4 x5 z0 x7 x8 m
def bX11_order_149 (g : Shp) (x0 x4 x5 x6 x8 x9 z0 : Int) (m : Mem) : Option (Int × (Int × Int × Int × Mem)) :=
  if x6 ≤ x9 then
    bX11_order_165 g x0 x4 x5 z0 x8 x6 m
  else
    bX11_order_165 g x0 x4 x5 z0 x8 x9 m
def bX11_order_105 (g : Shp) (x0 x4 x5 x6 x7 x8 : Int) (m : Mem) : Option (Int × (Int × Int × Int × Mem)) :=
  if 27 ≤ x8 then
    some (1, (x6, x7, x8, m))
  else
    bd2 (fX11_layTurns g x0 x8 m) fun v2 m3 =>
    bd2 (fX11_isTurns g x0 x5 m3) fun v5 m6 =>
    if v5 = 0 then
      bX11_order_167 g x0 x4 x5 x6 x7 x8 m6
    else
      bd2 (fX11_cutsByTurns g x0 x5 m6) fun v10 m11 =>
      if x6 ≤ v10 then
        bX11_order_149 g x0 x4 x5 x6 x8 v10 x7 m11
      else
        bX11_order_149 g x0 x4 x5 x6 x8 v10 x8 m11
def BX11_order_105 (g : Shp) (x0 x4 x5 : Int) (q : (Int × Int × Int × Mem)) : Option (Int × (Int × Int × Int × Mem)) := bX11_order_105 g x0 x4 x5 q.1 q.2.1 q.2.2.1 q.2.2.2
def bX11_order_31 (g : Shp) (m : Mem) : Option (Int × Mem) :=
  some ((-1), m)
def bX11_order_187 (g : Shp) (m : Mem) : Option (Int × Mem) :=
  some ((-4), m)
def bX11_order_214 (g : Shp) (z0 : Int) (m : Mem) : Option (Int × Mem) :=
  some (z0, m)
def bX11_order_173 (g : Shp) (x0 x4 x5 x6 x7 : Int) (m : Mem) : Option (Int × Mem) :=
  if x7 = ((-4)) then
    bX11_order_187 g m
  else
    if x4 < x5 then
      bd2 (fX11_layTurns g x0 x7 m) fun v3 m4 =>
      if x4 = ((-1)) then
        bX11_order_214 g x6 m4
      else
        ck (gk g (m4 x0 38) = 20) <|
        ck ((0 : Int) ≤ x4 ∧ x4 < gl g (m4 x0 38)) <|
        bX11_order_214 g (m4 (m4 x0 38) x4) m4
    else
      bX11_order_187 g m
def bX11_order_94 (g : Shp) (x0 x4 x5 : Int) (m : Mem) : Option (Int × Mem) :=
  bdl (iter (BX11_order_105 g x0 x4 x5) 100000 (1000000, (-4), 0, m)) fun cv1 sv2 =>
  bX11_order_173 g x0 x4 x5 sv2.1 sv2.2.1 sv2.2.2.2
def bX11_order_0 (g : Shp) (x0 x1 x2 x3 x4 : Int) (m : Mem) : Option (Int × Mem) :=
  bd2 (fX11_isColour g x1 m) fun v1 m2 =>
  if v1 = 0 then
    bX11_order_31 g m2
  else
    bd2 (fX11_isColour g x2 m2) fun v6 m7 =>
    if v6 = 0 then
      bX11_order_31 g m7
    else
      bd2 (fX11_isColour g x3 m7) fun v11 m12 =>
      if v11 = 0 then
        bX11_order_31 g m12
      else
        bd2 (fX11_in g x4 ((-1)) 2 m12) fun v16 m17 =>
        if v16 = 0 then
          bX11_order_31 g m17
        else
          ck (gk g (m17 x0 37) = 20) <|
          ck ((0 : Int) ≤ 0 ∧ 0 < gl g (m17 x0 37)) <|
          vm (ms m17 (m17 x0 37) 0 x1) fun m23 =>
          ck (gk g (m23 x0 37) = 20) <|
          ck ((0 : Int) ≤ 1 ∧ 1 < gl g (m23 x0 37)) <|
          vm (ms m23 (m23 x0 37) 1 x2) fun m26 =>
          ck (gk g (m26 x0 37) = 20) <|
          ck ((0 : Int) ≤ 2 ∧ 2 < gl g (m26 x0 37)) <|
          vm (ms m26 (m26 x0 37) 2 x3) fun m29 =>
          bdl (iter (BX11_order_60 g x0 x4) 100000 (0, 0, m29)) fun cv30 sv31 =>
          bX11_order_94 g x0 x4 sv31.1 sv31.2.2
def fX11_order (g : Shp) (x0 x1 x2 x3 x4 : Int) (m : Mem) : Option (Int × Mem) := bX11_order_0 g x0 x1 x2 x3 x4 m
def bX11_bag_32 (g : Shp) (z0 : Int) (m : Mem) : Option (Int × Mem) :=
  some (z0, m)
def bX11_bag_31 (g : Shp) (m : Mem) : Option (Int × Mem) :=
  bX11_bag_32 g ((-1)) m
def bX11_bag_0 (g : Shp) (x0 x1 x2 : Int) (m : Mem) : Option (Int × Mem) :=
  bd2 (fX11_isColour g x1 m) fun v1 m2 =>
  if v1 = 0 then
    bX11_bag_31 g m2
  else
    bd2 (fX11_in g x2 0 2 m2) fun v6 m7 =>
    if v6 = 0 then
      bX11_bag_31 g m7
    else
      ck (gk g (m7 x0 0) = 20) <|
      ck ((0 : Int) ≤ (w32 ((w32 (1 + (w32 (3 * x1)))) + x2)) ∧ (w32 ((w32 (1 + (w32 (3 * x1)))) + x2)) < gl g (m7 x0 0)) <|
      bX11_bag_32 g (m7 (m7 x0 0) (w32 ((w32 (1 + (w32 (3 * x1)))) + x2))) m7
def fX11_bag (g : Shp) (x0 x1 x2 : Int) (m : Mem) : Option (Int × Mem) := bX11_bag_0 g x0 x1 x2 m
def bX11_fill_57 (g : Shp) (x0 x2 x3 x4 : Int) (m : Mem) : Option (Int × (Int × Mem)) :=
  if 3 ≤ x4 then
    some (1, (x4, m))
  else
    ck (gk g (m x0 0) = 20) <|
    ck ((0 : Int) ≤ (w32 (x2 + x4)) ∧ (w32 (x2 + x4)) < gl g (m x0 0)) <|
    vm (ms m (m x0 0) (w32 (x2 + x4)) 6) fun m4 =>
    vv (w32 (x4 + 1)) fun y5 =>
    some (0, (y5, m4))
def BX11_fill_57 (g : Shp) (x0 x2 x3 : Int) (q : (Int × Mem)) : Option (Int × (Int × Mem)) := bX11_fill_57 g x0 x2 x3 q.1 q.2
def bX11_fill_80 (g : Shp) (x3 : Int) (m : Mem) : Option (Int × Mem) :=
  some (x3, m)
def bX11_fill_0 (g : Shp) (x0 x1 : Int) (m : Mem) : Option (Int × Mem) :=
  bd2 (fX11_isColour g x1 m) fun v1 m2 =>
  if v1 = 0 then
    some ((-1), m2)
  else
    vv (w32 (1 + (w32 (3 * x1)))) fun y6 =>
    ck (gk g (m2 x0 0) = 20) <|
    ck ((0 : Int) ≤ y6 ∧ y6 < gl g (m2 x0 0)) <|
    ck ((0 : Int) ≤ (w32 (y6 + 1)) ∧ (w32 (y6 + 1)) < gl g (m2 x0 0)) <|
    ck ((0 : Int) ≤ (w32 (y6 + 2)) ∧ (w32 (y6 + 2)) < gl g (m2 x0 0)) <|
    vv (w32 ((w32 ((w32 (18 - (m2 (m2 x0 0) y6))) - (m2 (m2 x0 0) (w32 (y6 + 1))))) - (m2 (m2 x0 0) (w32 (y6 + 2))))) fun y11 =>
    if y11 = 0 then
      some ((-2), m2)
    else
      bd2 (fX11_note g x0 m2) fun v13 m14 =>
      bdl (iter (BX11_fill_57 g x0 y6 y11) 100000 (0, m14)) fun cv16 sv17 =>
      bX11_fill_80 g y11 sv17.2
def fX11_fill (g : Shp) (x0 x1 : Int) (m : Mem) : Option (Int × Mem) := bX11_fill_0 g x0 x1 m
def bX11_isOn_41 (g : Shp) (x0 x1 x2 x4 z0 : Int) (m : Mem) : Option (Int × (Int × Int × Mem)) :=
  vv (w32 (x4 + 1)) fun y1 =>
  some (0, (z0, y1, m))
def bX11_isOn_36 (g : Shp) (x0 x1 x2 x4 : Int) (m : Mem) : Option (Int × (Int × Int × Mem)) :=
  bX11_isOn_41 g x0 x1 x2 x4 1 m
def bX11_isOn_5 (g : Shp) (x0 x1 x2 x3 x4 : Int) (m : Mem) : Option (Int × (Int × Int × Mem)) :=
  ck (gk g (m x0 23) = 20) <|
  ck ((0 : Int) ≤ x1 ∧ x1 < gl g (m x0 23)) <|
  if (m (m x0 23) x1) ≤ x4 then
    some (1, (x3, x4, m))
  else
    if x3 = 0 then
      ck (gk g (m x0 24) = 20) <|
      ck ((0 : Int) ≤ (w32 ((w32 (60 * x1)) + x4)) ∧ (w32 ((w32 (60 * x1)) + x4)) < gl g (m x0 24)) <|
      if (m (m x0 24) (w32 ((w32 (60 * x1)) + x4))) = x2 then
        bX11_isOn_36 g x0 x1 x2 x4 m
      else
        bX11_isOn_41 g x0 x1 x2 x4 0 m
    else
      bX11_isOn_36 g x0 x1 x2 x4 m
def BX11_isOn_5 (g : Shp) (x0 x1 x2 : Int) (q : (Int × Int × Mem)) : Option (Int × (Int × Int × Mem)) := bX11_isOn_5 g x0 x1 x2 q.1 q.2.1 q.2.2
def bX11_isOn_48 (g : Shp) (x3 : Int) (m : Mem) : Option (Int × Mem) :=
  ck (x3 = 0 ∨ x3 = 1) <|
  some (x3, m)
def bX11_isOn_0 (g : Shp) (x0 x1 x2 : Int) (m : Mem) : Option (Int × Mem) :=
  bdl (iter (BX11_isOn_5 g x0 x1 x2) 100000 (0, 0, m)) fun cv1 sv2 =>
  bX11_isOn_48 g sv2.1 sv2.2.2
def fX11_isOn (g : Shp) (x0 x1 x2 : Int) (m : Mem) : Option (Int × Mem) := bX11_isOn_0 g x0 x1 x2 m
def bX11_drawn_111 (g : Shp) (x0 x2 x5 z0 : Int) (m : Mem) : Option (Int × (Int × Int × Mem)) :=
  vv (w32 (x5 + 1)) fun y1 =>
  some (0, (z0, y1, m))
def bX11_drawn_106 (g : Shp) (x0 x2 x5 : Int) (m : Mem) : Option (Int × (Int × Int × Mem)) :=
  bX11_drawn_111 g x0 x2 x5 1 m
def bX11_drawn_110 (g : Shp) (x0 x2 x5 : Int) (m : Mem) : Option (Int × (Int × Int × Mem)) :=
  bX11_drawn_111 g x0 x2 x5 0 m
def bX11_drawn_73 (g : Shp) (x0 x2 x4 x5 : Int) (m : Mem) : Option (Int × (Int × Int × Mem)) :=
  if (m x0 20) ≤ x5 then
    some (1, (x4, x5, m))
  else
    if x4 = 0 then
      bd2 (fX11_isCovered g x0 x5 m) fun v3 m4 =>
      if v3 = 0 then
        bd2 (fX11_isOn g x0 x5 x2 m4) fun v8 m9 =>
        if v8 = 0 then
          bX11_drawn_110 g x0 x2 x5 m9
        else
          bX11_drawn_106 g x0 x2 x5 m9
      else
        bX11_drawn_110 g x0 x2 x5 m4
    else
      bX11_drawn_106 g x0 x2 x5 m
def BX11_drawn_73 (g : Shp) (x0 x2 : Int) (q : (Int × Int × Mem)) : Option (Int × (Int × Int × Mem)) := bX11_drawn_73 g x0 x2 q.1 q.2.1 q.2.2
def bX11_drawn_131 (g : Shp) (z0 : Int) (m : Mem) : Option (Int × Mem) :=
  some (z0, m)
def bX11_drawn_119 (g : Shp) (x4 : Int) (m : Mem) : Option (Int × Mem) :=
  if x4 = 0 then
    bX11_drawn_131 g 46 m
  else
    bX11_drawn_131 g 43 m
def bX11_drawn_0 (g : Shp) (x0 x1 : Int) (m : Mem) : Option (Int × Mem) :=
  bd2 (fX11_in g x1 0 419 m) fun v1 m2 =>
  if v1 = 0 then
    some ((-1), m2)
  else
    if (jrem x1 21) = 20 then
      some (47, m2)
    else
      vv (w32 ((w32 (20 * (jdiv x1 21))) + (jrem x1 21))) fun y7 =>
      ck (gk g (m2 x0 0) = 20) <|
      ck ((0 : Int) ≤ (w32 (33 + y7)) ∧ (w32 (33 + y7)) < gl g (m2 x0 0)) <|
      vv (m2 (m2 x0 0) (w32 (33 + y7))) fun y10 =>
      if y10 = ((-4)) then
        bdl (iter (BX11_drawn_73 g x0 y7) 100000 (0, 0, m2)) fun cv12 sv13 =>
        bX11_drawn_119 g sv13.1 sv13.2.2
      else
        ck ((0 : Int) ≤ (w32 (10 + y10)) ∧ (w32 (10 + y10)) < gl g (m2 x0 0)) <|
        some (w32 (97 + (m2 (m2 x0 0) (w32 (10 + y10)))), m2)
def fX11_drawn (g : Shp) (x0 x1 : Int) (m : Mem) : Option (Int × Mem) := bX11_drawn_0 g x0 x1 m
def bX11_sharedCells_41 (g : Shp) (x0 x1 x2 x4 z0 z1 : Int) (m : Mem) : Option (Int × (Int × Int × Mem)) :=
  vv (w32 (z0 + z1)) fun y1 =>
  vv (w32 (x4 + 1)) fun y2 =>
  some (0, (y1, y2, m))
def bX11_sharedCells_16 (g : Shp) (x0 x1 x2 x3 x4 : Int) (m : Mem) : Option (Int × (Int × Int × Mem)) :=
  if (m x0 20) ≤ x4 then
    some (1, (x3, x4, m))
  else
    bd2 (fX11_isOn g x0 x4 x2 m) fun v2 m3 =>
    if v2 = 0 then
      bX11_sharedCells_41 g x0 x1 x2 x4 x3 0 m3
    else
      bX11_sharedCells_41 g x0 x1 x2 x4 x3 1 m3
def BX11_sharedCells_16 (g : Shp) (x0 x1 x2 : Int) (q : (Int × Int × Mem)) : Option (Int × (Int × Int × Mem)) := bX11_sharedCells_16 g x0 x1 x2 q.1 q.2.1 q.2.2
def bX11_sharedCells_60 (g : Shp) (x0 x2 z0 z1 : Int) (m : Mem) : Option (Int × (Int × Int × Mem)) :=
  vv (w32 (z0 + z1)) fun y1 =>
  vv (w32 (x2 + 1)) fun y2 =>
  some (0, (y1, y2, m))
def bX11_sharedCells_49 (g : Shp) (x0 x1 x2 x3 : Int) (m : Mem) : Option (Int × (Int × Int × Mem)) :=
  if x3 ≤ 1 then
    bX11_sharedCells_60 g x0 x2 x1 0 m
  else
    bX11_sharedCells_60 g x0 x2 x1 1 m
def bX11_sharedCells_4 (g : Shp) (x0 x1 x2 : Int) (m : Mem) : Option (Int × (Int × Int × Mem)) :=
  if 400 ≤ x2 then
    some (1, (x1, x2, m))
  else
    bdl (iter (BX11_sharedCells_16 g x0 x1 x2) 100000 (0, 0, m)) fun cv2 sv3 =>
    bX11_sharedCells_49 g x0 x1 x2 sv3.1 sv3.2.2
def BX11_sharedCells_4 (g : Shp) (x0 : Int) (q : (Int × Int × Mem)) : Option (Int × (Int × Int × Mem)) := bX11_sharedCells_4 g x0 q.1 q.2.1 q.2.2
def bX11_sharedCells_68 (g : Shp) (x1 : Int) (m : Mem) : Option (Int × Mem) :=
  some (x1, m)
def bX11_sharedCells_0 (g : Shp) (x0 : Int) (m : Mem) : Option (Int × Mem) :=
  bdl (iter (BX11_sharedCells_4 g x0) 100000 (0, 0, m)) fun cv1 sv2 =>
  bX11_sharedCells_68 g sv2.1 sv2.2.2
def fX11_sharedCells (g : Shp) (x0 : Int) (m : Mem) : Option (Int × Mem) := bX11_sharedCells_0 g x0 m
def bX11_count_133 (g : Shp) (x0 x3 z0 z1 : Int) (m : Mem) : Option (Int × (Int × Int × Mem)) :=
  vv (w32 (z0 + z1)) fun y1 =>
  vv (w32 (x3 + 1)) fun y2 =>
  some (0, (y1, y2, m))
def bX11_count_111 (g : Shp) (x0 x2 x3 : Int) (m : Mem) : Option (Int × (Int × Int × Mem)) :=
  if (m x0 20) ≤ x3 then
    some (1, (x2, x3, m))
  else
    bd2 (fX11_isCovered g x0 x3 m) fun v2 m3 =>
    if v2 = 0 then
      bX11_count_133 g x0 x3 x2 0 m3
    else
      bX11_count_133 g x0 x3 x2 1 m3
def BX11_count_111 (g : Shp) (x0 : Int) (q : (Int × Int × Mem)) : Option (Int × (Int × Int × Mem)) := bX11_count_111 g x0 q.1 q.2.1 q.2.2
def bX11_count_141 (g : Shp) (x2 : Int) (m : Mem) : Option (Int × Mem) :=
  some (x2, m)
def bX11_count_0 (g : Shp) (x0 x1 : Int) (m : Mem) : Option (Int × Mem) :=
  if x1 = 0 then
    some (m x0 20, m)
  else
    if x1 = 1 then
      ck (gk g (m x0 19) = 20) <|
      ck ((0 : Int) ≤ (w32 (x1 - 1)) ∧ (w32 (x1 - 1)) < gl g (m x0 19)) <|
      some (m (m x0 19) (w32 (x1 - 1)), m)
    else
      if x1 = 2 then
        ck (gk g (m x0 19) = 20) <|
        ck ((0 : Int) ≤ (w32 (x1 - 1)) ∧ (w32 (x1 - 1)) < gl g (m x0 19)) <|
        some (m (m x0 19) (w32 (x1 - 1)), m)
      else
        if x1 = 3 then
          ck (gk g (m x0 19) = 20) <|
          ck ((0 : Int) ≤ (w32 (x1 - 1)) ∧ (w32 (x1 - 1)) < gl g (m x0 19)) <|
          some (m (m x0 19) (w32 (x1 - 1)), m)
        else
          if x1 = 4 then
            ck (gk g (m x0 0) = 20) <|
            ck ((0 : Int) ≤ 0 ∧ 0 < gl g (m x0 0)) <|
            some (m (m x0 0) 0, m)
          else
            if x1 = 5 then
              ck (gk g (m x0 0) = 20) <|
              ck ((0 : Int) ≤ 31 ∧ 31 < gl g (m x0 0)) <|
              some (m (m x0 0) 31, m)
            else
              if x1 = 6 then
                ck (gk g (m x0 0) = 20) <|
                ck ((0 : Int) ≤ 32 ∧ 32 < gl g (m x0 0)) <|
                some (m (m x0 0) 32, m)
              else
                if x1 = 7 then
                  some (m x0 3, m)
                else
                  if x1 = 8 then
                    some (m x0 5, m)
                  else
                    if x1 = 9 then
                      bdl (iter (BX11_count_111 g x0) 100000 (0, 0, m)) fun cv23 sv24 =>
                      bX11_count_141 g sv24.1 sv24.2.2
                    else
                      if x1 = 10 then
                        bd2 (fX11_sharedCells g x0 m) fun v29 m30 =>
                        some (v29, m30)
                      else
                        some ((-1), m)
def fX11_count (g : Shp) (x0 x1 : Int) (m : Mem) : Option (Int × Mem) := bX11_count_0 g x0 x1 m
set_option maxRecDepth 20000 in
theorem wX11_cutsByTurns_86 {p : Program} {l : Launch} {e : Env} {s : State} {mt : MethodId} {args : Array Value} {below : List Frame} {meth : Method} {c : Code} {Q : State → Prop} {G : Gl} {A : Nat → Prop} {H0 : Heap} {ad : Int → Nat} {g : Shp} {H : Heap} {locs : List Loc} {ls : Array Slot} {m : Mem} {x0 x1 x2 x3 : Int} (C : CallFix p mt c cX11_cutsByTurns 4 s args tb RX11) (S : Wd G A s H0 ad g m H locs) (hx0 : gk g x0 = 12) (hx1 : r32 x1) (hx2 : r32 x2) (hx3 : r32 x3) (hl : lv_has ls 4 [(0, .ref (ad x0)), (1, .int (iI x1)), (2, .int (iI x2)), (3, .int (iI x3))]) {c1 : Int} {s1 : (Int × Int × Mem)} (hF : bX11_cutsByTurns_86 g x0 x1 x2 x3 m = some (c1, s1)) (K0 : c1 = 0 → ∀ (H : Heap) (locs : List Loc) (ls : Array Slot), r32 s1.1 → r32 s1.2.1 → Wd G A s H0 ad g s1.2.2 H locs → lv_has ls 4 [(0, .ref (ad x0)), (1, .int (iI x1)), (2, .int (iI s1.1)), (3, .int (iI s1.2.1))] → W p l e rX11_cutsByTurns s mt args below meth c H locs 0 0 Q (F0 mt 17 ls [])) (K1 : c1 = 1 → ∀ (H : Heap) (locs : List Loc) (ls : Array Slot), r32 s1.1 → Wd G A s H0 ad g s1.2.2 H locs → lv_has ls 4 [(0, .ref (ad x0)), (2, .int (iI s1.1))] → W p l e rX11_cutsByTurns s mt args below meth c H locs 0 0 Q (F0 mt 92 ls [])) : W p l e rX11_cutsByTurns s mt args below meth c H locs 0 0 Q (F0 mt 86 ls []) := by
  unfold bX11_cutsByTurns_86 at hF
  obtain ⟨y1, ey1, hF⟩ := vv_ok hF
  have ry1 : r32 y1 := ey1 ▸ r32_w _
  refine q_iinc C hl 3 [(3, .int (iI y1)), (0, .ref (ad x0)), (1, .int (iI x1)), (2, .int (iI x2))] rfl ey1 (by decide) rfl dX11_cutsByTurns_86 (fun ls hl => ?_)
  refine q_goto C 17 dX11_cutsByTurns_89 (by decide) ?_
  cases hF
  exact K0 rfl _ _ _ hx2 ry1 S (lv_sub hl [1, 2, 3, 0] rfl)
set_option maxRecDepth 20000 in
theorem wX11_cutsByTurns_17 {p : Program} {l : Launch} {e : Env} {s : State} {mt : MethodId} {args : Array Value} {below : List Frame} {meth : Method} {c : Code} {Q : State → Prop} {G : Gl} {A : Nat → Prop} {H0 : Heap} {ad : Int → Nat} {g : Shp} {H : Heap} {locs : List Loc} {ls : Array Slot} {m : Mem} {x0 x1 x2 x3 : Int} (C : CallFix p mt c cX11_cutsByTurns 4 s args tb RX11) (S : Wd G A s H0 ad g m H locs) (hx0 : gk g x0 = 12) (hx1 : r32 x1) (hx2 : r32 x2) (hx3 : r32 x3) (hl : lv_has ls 4 [(0, .ref (ad x0)), (1, .int (iI x1)), (2, .int (iI x2)), (3, .int (iI x3))]) {c1 : Int} {s1 : (Int × Int × Mem)} (hF : bX11_cutsByTurns_17 g x0 x1 x2 x3 m = some (c1, s1)) (K0 : c1 = 0 → ∀ (H : Heap) (locs : List Loc) (ls : Array Slot), r32 s1.1 → r32 s1.2.1 → Wd G A s H0 ad g s1.2.2 H locs → lv_has ls 4 [(0, .ref (ad x0)), (1, .int (iI x1)), (2, .int (iI s1.1)), (3, .int (iI s1.2.1))] → W p l e rX11_cutsByTurns s mt args below meth c H locs 0 0 Q (F0 mt 17 ls [])) (K1 : c1 = 1 → ∀ (H : Heap) (locs : List Loc) (ls : Array Slot), r32 s1.1 → Wd G A s H0 ad g s1.2.2 H locs → lv_has ls 4 [(0, .ref (ad x0)), (2, .int (iI s1.1))] → W p l e rX11_cutsByTurns s mt args below meth c H locs 0 0 Q (F0 mt 92 ls [])) : W p l e rX11_cutsByTurns s mt args below meth c H locs 0 0 Q (F0 mt 17 ls []) := by
  unfold bX11_cutsByTurns_17 at hF
  refine q_iload_n C hl 3 rfl rfl dX11_cutsByTurns_17 ?_
  refine q_iload_n C hl 1 rfl rfl dX11_cutsByTurns_18 ?_
  refine q_icmp_ge C hx3 hx1 92 dX11_cutsByTurns_19 (by decide) (fun hc1 => ?_) (fun hc1 => ?_)
  · have hF := if_t hc1 hF
    cases hF
    exact K1 rfl _ _ _ hx2 S (lv_sub hl [0, 2] rfl)
  · have hF := if_f hc1 hF
    refine q_iload_n C hl 2 rfl rfl dX11_cutsByTurns_22 ?_
    refine q_ldc C 1000000 (by decide) tw1115 dX11_cutsByTurns_23 ?_
    refine q_icmp_ge C hx2 (rl 1000000 rfl) 92 dX11_cutsByTurns_25 (by decide) (fun hc2 => ?_) (fun hc2 => ?_)
    · have hF := if_t hc2 hF
      cases hF
      exact K1 rfl _ _ _ hx2 S (lv_sub hl [0, 2] rfl)
    · have hF := if_f hc2 hF
      refine q_aload_n C hl 0 rfl rfl dX11_cutsByTurns_28 ?_
      refine q_aload_n C hl 0 rfl rfl dX11_cutsByTurns_29 ?_
      obtain ⟨k3, hF⟩ := ck_ok hF
      refine q_getr C S 38 fo_RX11_86 (j := 38) rfl rfl hx0 k3 (by decide) dX11_cutsByTurns_30 ?_
      refine q_iload_n C hl 3 rfl rfl dX11_cutsByTurns_33 ?_
      obtain ⟨i4, hF⟩ := ck_ok hF
      refine q_iald C S k3 i4 dX11_cutsByTurns_34 ?_
      refine q_aload_n C hl 0 rfl rfl dX11_cutsByTurns_35 ?_
      obtain ⟨k5, hF⟩ := ck_ok hF
      refine q_getr C S 37 fo_RX11_83 (j := 37) rfl rfl hx0 k5 (by decide) dX11_cutsByTurns_36 ?_
      refine q_aload_n C hl 0 rfl rfl dX11_cutsByTurns_39 ?_
      refine q_getr C S 38 fo_RX11_86 (j := 38) rfl rfl hx0 k3 (by decide) dX11_cutsByTurns_40 ?_
      refine q_iload_n C hl 3 rfl rfl dX11_cutsByTurns_43 ?_
      obtain ⟨i6, hF⟩ := ck_ok hF
      refine q_iald C S k3 i6 dX11_cutsByTurns_44 ?_
      obtain ⟨i7, hF⟩ := ck_ok hF
      refine q_iald C S k5 i7 dX11_cutsByTurns_45 ?_
      obtain ⟨v8, m9, h10, hF⟩ := bd2_ok hF
      refine q_ci S (run_V (As := [.int (iI (m (m x0 38) x3)), .int (iI (m (m x0 37) (m (m x0 38) x3)))]) (rest := []) C S (cX11_findWay_ok l G hx0 (S.r _ _) (S.r _ _) h10 ad _) hx0 ⟨by decide, _, _, rfl⟩ gd_RX11_228 hdV_X11_findWay rfl ⟨rfl, rfl, by decide, by decide⟩ ⟨Nat.zero_le _, Nat.zero_le _⟩ hl.1 rfl (Nat.le_of_ble_eq_true rfl) dX11_cutsByTurns_46) (fun H locs Sm9 h11 => ?_)
      refine q_if_eq C h11.1 83 dX11_cutsByTurns_49 (by decide) (fun hc12 => ?_) (fun hc12 => ?_)
      · have hF := if_t hc12 hF
        refine q_ldc C 1000000 (by decide) tw1115 dX11_cutsByTurns_83 ?_
        refine q_istore_n C hl [(2, .int (iI 1000000)), (0, .ref (ad x0)), (1, .int (iI x1)), (3, .int (iI x3))] rfl rfl (by decide) rfl dX11_cutsByTurns_85 (fun ls hl => ?_)
        exact wX11_cutsByTurns_86 C Sm9 hx0 hx1 (rl 1000000 rfl) hx3 (lv_sub hl [1, 2, 0, 3] rfl) hF K0 K1
      · have hF := if_f hc12 hF
        refine q_aload_n C hl 0 rfl rfl dX11_cutsByTurns_52 ?_
        refine q_aload_n C hl 0 rfl rfl dX11_cutsByTurns_53 ?_
        obtain ⟨k13, hF⟩ := ck_ok hF
        refine q_getr C Sm9 38 fo_RX11_86 (j := 38) rfl rfl hx0 k13 (by decide) dX11_cutsByTurns_54 ?_
        refine q_iload_n C hl 3 rfl rfl dX11_cutsByTurns_57 ?_
        obtain ⟨i14, hF⟩ := ck_ok hF
        refine q_iald C Sm9 k13 i14 dX11_cutsByTurns_58 ?_
        refine q_aload_n C hl 0 rfl rfl dX11_cutsByTurns_59 ?_
        obtain ⟨k15, hF⟩ := ck_ok hF
        refine q_getr C Sm9 37 fo_RX11_83 (j := 37) rfl rfl hx0 k15 (by decide) dX11_cutsByTurns_60 ?_
        refine q_aload_n C hl 0 rfl rfl dX11_cutsByTurns_63 ?_
        refine q_getr C Sm9 38 fo_RX11_86 (j := 38) rfl rfl hx0 k13 (by decide) dX11_cutsByTurns_64 ?_
        refine q_iload_n C hl 3 rfl rfl dX11_cutsByTurns_67 ?_
        obtain ⟨i16, hF⟩ := ck_ok hF
        refine q_iald C Sm9 k13 i16 dX11_cutsByTurns_68 ?_
        obtain ⟨i17, hF⟩ := ck_ok hF
        refine q_iald C Sm9 k15 i17 dX11_cutsByTurns_69 ?_
        obtain ⟨v18, m19, h20, hF⟩ := bd2_ok hF
        refine q_cv Sm9 (run_V (As := [.int (iI (m9 (m9 x0 38) x3)), .int (iI (m9 (m9 x0 37) (m9 (m9 x0 38) x3)))]) (rest := []) C Sm9 (cX11_coverBy_ok l G hx0 (Sm9.r _ _) (Sm9.r _ _) h20 ad _) hx0 ⟨by decide, _, _, rfl⟩ gd_RX11_231 hdV_X11_coverBy rfl ⟨rfl, rfl, by decide, by decide⟩ ⟨Nat.zero_le _, Nat.zero_le _⟩ hl.1 rfl (Nat.le_of_ble_eq_true rfl) dX11_cutsByTurns_70) (fun H locs Sm19 => ?_)
        refine q_iload_n C hl 2 rfl rfl dX11_cutsByTurns_73 ?_
        refine q_aload_n C hl 0 rfl rfl dX11_cutsByTurns_74 ?_
        refine q_geti C Sm19 36 fo_RX11_218 (j := 36) rfl rfl hx0 dX11_cutsByTurns_75 ?_
        refine q_iadd C dX11_cutsByTurns_78 ?_
        obtain ⟨y21, ey21, hF⟩ := vv_ok hF
        have ry21 : r32 y21 := ey21 ▸ (r32_w _)
        refine q_istore_n C hl [(2, .int (iI y21)), (0, .ref (ad x0)), (1, .int (iI x1)), (3, .int (iI x3))] ey21 rfl (by decide) rfl dX11_cutsByTurns_79 (fun ls hl => ?_)
        refine q_goto C 86 dX11_cutsByTurns_80 (by decide) ?_
        exact wX11_cutsByTurns_86 C Sm19 hx0 hx1 ry21 hx3 (lv_sub hl [1, 2, 0, 3] rfl) hF K0 K1
set_option maxRecDepth 20000 in
theorem lX11_cutsByTurns_17 {p : Program} {l : Launch} {e : Env} {s : State} {mt : MethodId} {args : Array Value} {below : List Frame} {meth : Method} {c : Code} {Q : State → Prop} {G : Gl} {A : Nat → Prop} {H0 : Heap} {ad : Int → Nat} {g : Shp} {x0 x1 : Int} (C : CallFix p mt c cX11_cutsByTurns 4 s args tb RX11) (hx0 : gk g x0 = 12) (hx1 : r32 x1) {n : Nat} {s0 s1 : (Int × Int × Mem)} {c1 : Int} (hI : iter (BX11_cutsByTurns_17 g x0 x1) n s0 = some (c1, s1)) (K1 : c1 = 1 → ∀ (H : Heap) (locs : List Loc) (ls : Array Slot), r32 s1.1 → Wd G A s H0 ad g s1.2.2 H locs → lv_has ls 4 [(0, .ref (ad x0)), (2, .int (iI s1.1))] → W p l e rX11_cutsByTurns s mt args below meth c H locs 0 0 Q (F0 mt 92 ls [])) : ∀ (H : Heap) (locs : List Loc) (ls : Array Slot), r32 s0.1 → r32 s0.2.1 → Wd G A s H0 ad g s0.2.2 H locs → lv_has ls 4 [(0, .ref (ad x0)), (1, .int (iI x1)), (2, .int (iI s0.1)), (3, .int (iI s0.2.1))] → W p l e rX11_cutsByTurns s mt args below meth c H locs 0 0 Q (F0 mt 17 ls []) :=
  iter_W (Pw := fun q => ∀ (H : Heap) (locs : List Loc) (ls : Array Slot), r32 q.1 → r32 q.2.1 → Wd G A s H0 ad g q.2.2 H locs → lv_has ls 4 [(0, .ref (ad x0)), (1, .int (iI x1)), (2, .int (iI q.1)), (3, .int (iI q.2.1))] → W p l e rX11_cutsByTurns s mt args below meth c H locs 0 0 Q (F0 mt 17 ls [])) (Px := fun c0 q => (c0 = 1 → ∀ (H : Heap) (locs : List Loc) (ls : Array Slot), r32 q.1 → Wd G A s H0 ad g q.2.2 H locs → lv_has ls 4 [(0, .ref (ad x0)), (2, .int (iI q.1))] → W p l e rX11_cutsByTurns s mt args below meth c H locs 0 0 Q (F0 mt 92 ls [])))
    (fun s c s' hB K0 kx H locs ls f0 f1 S hl => wX11_cutsByTurns_17 C S hx0 hx1 f0 f1 hl hB K0 (fun h9 => (kx (by rw [h9]; decide)) h9)) _ _ _ _ hI K1
set_option maxRecDepth 20000 in
theorem wX11_cutsByTurns_92 {p : Program} {l : Launch} {e : Env} {s : State} {mt : MethodId} {args : Array Value} {below : List Frame} {meth : Method} {c : Code} {Q : State → Prop} {G : Gl} {A : Nat → Prop} {H0 : Heap} {ad : Int → Nat} {g : Shp} {H : Heap} {locs : List Loc} {ls : Array Slot} {m : Mem} {x0 x2 : Int} (C : CallFix p mt c cX11_cutsByTurns 4 s args tb RX11) (S : Wd G A s H0 ad g m H locs) (hx0 : gk g x0 = 12) (hx2 : r32 x2) (hl : lv_has ls 4 [(0, .ref (ad x0)), (2, .int (iI x2))]) {r : Int} {m' : Mem} (hF : bX11_cutsByTurns_92 g x0 x2 m = some (r, m')) (Kr : ∀ (H : Heap) (locs : List Loc) (pc : Nat) (ls : Array Slot), Wd G A s H0 ad g m' H locs → decode cX11_cutsByTurns pc = .ok (.ireturn, 1) → r32 r ∧ (false = true → r = 0 ∨ r = 1) → narrow .int (.int (iI r)) = .int (iI r) → W p l e rX11_cutsByTurns s mt args below meth c H locs 0 0 Q (F0 mt pc ls [.int (iI r)])) : W p l e rX11_cutsByTurns s mt args below meth c H locs 0 0 Q (F0 mt 92 ls []) := by
  unfold bX11_cutsByTurns_92 at hF
  refine q_aload_n C hl 0 rfl rfl dX11_cutsByTurns_92 ?_
  obtain ⟨k1, hF⟩ := ck_ok hF
  refine q_getr C S 1 fo_RX11_13 (j := 1) rfl rfl hx0 k1 (by decide) dX11_cutsByTurns_93 ?_
  refine q_iconst C 0 dX11_cutsByTurns_96 ?_
  refine q_aload_n C hl 0 rfl rfl dX11_cutsByTurns_97 ?_
  obtain ⟨k2, hF⟩ := ck_ok hF
  refine q_getr C S 0 fo_RX11_7 (j := 0) rfl rfl hx0 k2 (by decide) dX11_cutsByTurns_98 ?_
  refine q_iconst C 0 dX11_cutsByTurns_101 ?_
  obtain ⟨v3, m4, h5, hF⟩ := bd2_ok hF
  refine q_cv S (run_S (As := [.ref (ad (m x0 1)), .int (iI 0), .ref (ad (m x0 0)), .int (iI 0)]) (rest := []) C S (cX11_bring_ok l G k1 (rl 0 rfl) k2 (rl 0 rfl) h5 ad _) gd_RX11_169 hd_X11_bring rfl ⟨rfl, rfl, by decide, by decide⟩ ⟨Nat.zero_le _, Nat.zero_le _⟩ hl.1 rfl (Nat.le_of_ble_eq_true rfl) dX11_cutsByTurns_102) (fun H locs Sm4 => ?_)
  refine q_iload_n C hl 1 rfl rfl dX11_cutsByTurns_105 ?_
  cases hF
  exact Kr _ _ _ _ Sm4 dX11_cutsByTurns_106 ⟨hx2, fun h9 => absurd h9 (by decide)⟩ rfl
set_option maxRecDepth 20000 in
theorem wX11_cutsByTurns_0 {p : Program} {l : Launch} {e : Env} {s : State} {mt : MethodId} {args : Array Value} {below : List Frame} {meth : Method} {c : Code} {Q : State → Prop} {G : Gl} {A : Nat → Prop} {H0 : Heap} {ad : Int → Nat} {g : Shp} {H : Heap} {locs : List Loc} {ls : Array Slot} {m : Mem} {x0 x1 : Int} (C : CallFix p mt c cX11_cutsByTurns 4 s args tb RX11) (S : Wd G A s H0 ad g m H locs) (hx0 : gk g x0 = 12) (hx1 : r32 x1) (hl : lv_has ls 4 [(0, .ref (ad x0)), (1, .int (iI x1))]) {r : Int} {m' : Mem} (hF : bX11_cutsByTurns_0 g x0 x1 m = some (r, m')) (Kr : ∀ (H : Heap) (locs : List Loc) (pc : Nat) (ls : Array Slot), Wd G A s H0 ad g m' H locs → decode cX11_cutsByTurns pc = .ok (.ireturn, 1) → r32 r ∧ (false = true → r = 0 ∨ r = 1) → narrow .int (.int (iI r)) = .int (iI r) → W p l e rX11_cutsByTurns s mt args below meth c H locs 0 0 Q (F0 mt pc ls [.int (iI r)])) : W p l e rX11_cutsByTurns s mt args below meth c H locs 0 0 Q (F0 mt 0 ls []) := by
  unfold bX11_cutsByTurns_0 at hF
  refine q_aload_n C hl 0 rfl rfl dX11_cutsByTurns_0 ?_
  obtain ⟨k1, hF⟩ := ck_ok hF
  refine q_getr C S 0 fo_RX11_7 (j := 0) rfl rfl hx0 k1 (by decide) dX11_cutsByTurns_1 ?_
  refine q_iconst C 0 dX11_cutsByTurns_4 ?_
  refine q_aload_n C hl 0 rfl rfl dX11_cutsByTurns_5 ?_
  obtain ⟨k2, hF⟩ := ck_ok hF
  refine q_getr C S 1 fo_RX11_13 (j := 1) rfl rfl hx0 k2 (by decide) dX11_cutsByTurns_6 ?_
  refine q_iconst C 0 dX11_cutsByTurns_9 ?_
  obtain ⟨v3, m4, h5, hF⟩ := bd2_ok hF
  refine q_cv S (run_S (As := [.ref (ad (m x0 0)), .int (iI 0), .ref (ad (m x0 1)), .int (iI 0)]) (rest := []) C S (cX11_bring_ok l G k1 (rl 0 rfl) k2 (rl 0 rfl) h5 ad _) gd_RX11_169 hd_X11_bring rfl ⟨rfl, rfl, by decide, by decide⟩ ⟨Nat.zero_le _, Nat.zero_le _⟩ hl.1 rfl (Nat.le_of_ble_eq_true rfl) dX11_cutsByTurns_10) (fun H locs Sm4 => ?_)
  refine q_iconst C 0 dX11_cutsByTurns_13 ?_
  refine q_istore_n C hl [(2, .int (iI 0)), (0, .ref (ad x0)), (1, .int (iI x1))] rfl rfl (by decide) rfl dX11_cutsByTurns_14 (fun ls hl => ?_)
  refine q_iconst C 0 dX11_cutsByTurns_15 ?_
  refine q_istore_n C hl [(3, .int (iI 0)), (2, .int (iI 0)), (0, .ref (ad x0)), (1, .int (iI x1))] rfl rfl (by decide) rfl dX11_cutsByTurns_16 (fun ls hl => ?_)
  obtain ⟨cv6, sv7, hi8, hF⟩ := bdl_ok hF
  refine lX11_cutsByTurns_17 C hx0 hx1 hi8 ?_ _ _ _ (rl 0 rfl) (rl 0 rfl) Sm4 (lv_sub hl [2, 3, 1, 0] rfl)
  intro _ H locs ls f10 S9 hl
  exact wX11_cutsByTurns_92 C S9 hx0 f10 (lv_sub hl [0, 1] rfl) hF Kr
theorem cX11_cutsByTurns_ok (l : Launch) (G : Gl) {g : Shp} {x0 x1 : Int} {m m' : Mem} {r : Int} (hx0 : gk g x0 = 12) (hx1 : r32 x1) (hF : fX11_cutsByTurns g x0 x1 m = some (r, m')) : mI l yX11_cutsByTurns (wT yX11_cutsByTurns cX11_cutsByTurns 4 (some .int)) rX11_cutsByTurns G false (fun ad => [.ref (ad x0), .int (iI x1)]) g m r m' :=
  met_i (by decide) (fun ad => Nat.le_of_ble_eq_true rfl) (fun p e s mt args below meth c Q A H0 H locs ad ls C hnm S hl Kr => wX11_cutsByTurns_0 C S hx0 hx1 hl hF Kr)
set_option maxRecDepth 20000 in
theorem wX11_layTurns_0 {p : Program} {l : Launch} {e : Env} {s : State} {mt : MethodId} {args : Array Value} {below : List Frame} {meth : Method} {c : Code} {Q : State → Prop} {G : Gl} {A : Nat → Prop} {H0 : Heap} {ad : Int → Nat} {g : Shp} {H : Heap} {locs : List Loc} {ls : Array Slot} {m : Mem} {x0 x1 : Int} (C : CallFix p mt c cX11_layTurns 2 s args tb RX11) (S : Wd G A s H0 ad g m H locs) (hx0 : gk g x0 = 12) (hx1 : r32 x1) (hl : lv_has ls 2 [(0, .ref (ad x0)), (1, .int (iI x1))]) {r : Int} {m' : Mem} (hF : bX11_layTurns_0 g x0 x1 m = some (r, m')) (Kr : ∀ (H : Heap) (locs : List Loc) (pc : Nat) (ls : Array Slot), Wd G A s H0 ad g m' H locs → decode cX11_layTurns pc = .ok (.return_, 1) → W p l e rX11_layTurns s mt args below meth c H locs 0 0 Q (F0 mt pc ls [])) : W p l e rX11_layTurns s mt args below meth c H locs 0 0 Q (F0 mt 0 ls []) := by
  unfold bX11_layTurns_0 at hF
  refine q_aload_n C hl 0 rfl rfl dX11_layTurns_0 ?_
  obtain ⟨k1, hF⟩ := ck_ok hF
  refine q_getr C S 38 fo_RX11_86 (j := 38) rfl rfl hx0 k1 (by decide) dX11_layTurns_1 ?_
  refine q_iconst C 0 dX11_layTurns_4 ?_
  refine q_iload_n C hl 1 rfl rfl dX11_layTurns_5 ?_
  refine q_bipush C 9 (by decide) dX11_layTurns_6 ?_
  refine q_idiv C hx1 (rl 9 rfl) (by decide) dX11_layTurns_8 ?_
  obtain ⟨i2, hF⟩ := ck_ok hF
  obtain ⟨m3, em3, hF⟩ := vm_ok hF
  refine q_iast C S k1 i2 (r32_w _) em3 dX11_layTurns_9 (fun H locs Sm3 => ?_)
  refine q_aload_n C hl 0 rfl rfl dX11_layTurns_10 ?_
  obtain ⟨k4, hF⟩ := ck_ok hF
  refine q_getr C Sm3 38 fo_RX11_86 (j := 38) rfl rfl hx0 k4 (by decide) dX11_layTurns_11 ?_
  refine q_iconst C 1 dX11_layTurns_14 ?_
  refine q_iload_n C hl 1 rfl rfl dX11_layTurns_15 ?_
  refine q_iconst C 3 dX11_layTurns_16 ?_
  refine q_idiv C hx1 (rl 3 rfl) (by decide) dX11_layTurns_17 ?_
  refine q_iconst C 3 dX11_layTurns_18 ?_
  refine q_irem C (r32_w _) (rl 3 rfl) (by decide) dX11_layTurns_19 ?_
  obtain ⟨i5, hF⟩ := ck_ok hF
  obtain ⟨m6, em6, hF⟩ := vm_ok hF
  refine q_iast C Sm3 k4 i5 (r32_w _) em6 dX11_layTurns_20 (fun H locs Sm6 => ?_)
  refine q_aload_n C hl 0 rfl rfl dX11_layTurns_21 ?_
  obtain ⟨k7, hF⟩ := ck_ok hF
  refine q_getr C Sm6 38 fo_RX11_86 (j := 38) rfl rfl hx0 k7 (by decide) dX11_layTurns_22 ?_
  refine q_iconst C 2 dX11_layTurns_25 ?_
  refine q_iload_n C hl 1 rfl rfl dX11_layTurns_26 ?_
  refine q_iconst C 3 dX11_layTurns_27 ?_
  refine q_irem C hx1 (rl 3 rfl) (by decide) dX11_layTurns_28 ?_
  obtain ⟨i8, hF⟩ := ck_ok hF
  obtain ⟨m9, em9, hF⟩ := vm_ok hF
  refine q_iast C Sm6 k7 i8 (r32_w _) em9 dX11_layTurns_29 (fun H locs Sm9 => ?_)
  cases hF
  exact Kr _ _ _ _ Sm9 dX11_layTurns_30
theorem cX11_layTurns_ok (l : Launch) (G : Gl) {g : Shp} {x0 x1 : Int} {m m' : Mem} {r : Int} (hx0 : gk g x0 = 12) (hx1 : r32 x1) (hF : fX11_layTurns g x0 x1 m = some (r, m')) : mV l yX11_layTurns (wT yX11_layTurns cX11_layTurns 2 none) rX11_layTurns G (fun ad => [.ref (ad x0), .int (iI x1)]) g m m' :=
  met_v (by decide) (fun ad => Nat.le_of_ble_eq_true rfl) (fun p e s mt args below meth c Q A H0 H locs ad ls C hnm S hl Kr => wX11_layTurns_0 C S hx0 hx1 hl hF Kr)
set_option maxRecDepth 20000 in
theorem wX11_order_85 {p : Program} {l : Launch} {e : Env} {s : State} {mt : MethodId} {args : Array Value} {below : List Frame} {meth : Method} {c : Code} {Q : State → Prop} {G : Gl} {A : Nat → Prop} {H0 : Heap} {ad : Int → Nat} {g : Shp} {H : Heap} {locs : List Loc} {ls : Array Slot} {m : Mem} {x0 x4 x6 z0 z1 : Int} (C : CallFix p mt c cX11_order 10 s args tb RX11) (S : Wd G A s H0 ad g m H locs) (hx0 : gk g x0 = 12) (hx4 : r32 x4) (hx6 : r32 x6) (hz0 : r32 z0) (hz1 : r32 z1) (hl : lv_has ls 10 [(0, .ref (ad x0)), (4, .int (iI x4)), (6, .int (iI x6))]) {c1 : Int} {s1 : (Int × Int × Mem)} (hF : bX11_order_85 g x0 x4 x6 z0 z1 m = some (c1, s1)) (K0 : c1 = 0 → ∀ (H : Heap) (locs : List Loc) (ls : Array Slot), r32 s1.1 → r32 s1.2.1 → Wd G A s H0 ad g s1.2.2 H locs → lv_has ls 10 [(0, .ref (ad x0)), (4, .int (iI x4)), (5, .int (iI s1.1)), (6, .int (iI s1.2.1))] → W p l e rX11_order s mt args below meth c H locs 0 0 Q (F0 mt 60 ls [])) (K1 : c1 = 1 → ∀ (H : Heap) (locs : List Loc) (ls : Array Slot), r32 s1.1 → Wd G A s H0 ad g s1.2.2 H locs → lv_has ls 10 [(0, .ref (ad x0)), (4, .int (iI x4)), (5, .int (iI s1.1))] → W p l e rX11_order s mt args below meth c H locs 0 0 Q (F0 mt 94 ls [])) : W p l e rX11_order s mt args below meth c H locs 0 0 Q (F0 mt 85 ls [.int (iI z1), .int (iI z0)]) := by
  unfold bX11_order_85 at hF
  refine q_iadd C dX11_order_85 ?_
  obtain ⟨y1, ey1, hF⟩ := vv_ok hF
  have ry1 : r32 y1 := ey1 ▸ (r32_w _)
  refine q_istore C hl [(5, .int (iI y1)), (0, .ref (ad x0)), (4, .int (iI x4)), (6, .int (iI x6))] ey1 (by decide) rfl dX11_order_86 (fun ls hl => ?_)
  obtain ⟨y2, ey2, hF⟩ := vv_ok hF
  have ry2 : r32 y2 := ey2 ▸ r32_w _
  refine q_iinc C hl 3 [(6, .int (iI y2)), (5, .int (iI y1)), (0, .ref (ad x0)), (4, .int (iI x4))] rfl ey2 (by decide) rfl dX11_order_88 (fun ls hl => ?_)
  refine q_goto C 60 dX11_order_91 (by decide) ?_
  cases hF
  exact K0 rfl _ _ _ ry1 ry2 S (lv_sub hl [2, 3, 1, 0] rfl)
set_option maxRecDepth 20000 in
theorem wX11_order_60 {p : Program} {l : Launch} {e : Env} {s : State} {mt : MethodId} {args : Array Value} {below : List Frame} {meth : Method} {c : Code} {Q : State → Prop} {G : Gl} {A : Nat → Prop} {H0 : Heap} {ad : Int → Nat} {g : Shp} {H : Heap} {locs : List Loc} {ls : Array Slot} {m : Mem} {x0 x4 x5 x6 : Int} (C : CallFix p mt c cX11_order 10 s args tb RX11) (S : Wd G A s H0 ad g m H locs) (hx0 : gk g x0 = 12) (hx4 : r32 x4) (hx5 : r32 x5) (hx6 : r32 x6) (hl : lv_has ls 10 [(0, .ref (ad x0)), (4, .int (iI x4)), (5, .int (iI x5)), (6, .int (iI x6))]) {c1 : Int} {s1 : (Int × Int × Mem)} (hF : bX11_order_60 g x0 x4 x5 x6 m = some (c1, s1)) (K0 : c1 = 0 → ∀ (H : Heap) (locs : List Loc) (ls : Array Slot), r32 s1.1 → r32 s1.2.1 → Wd G A s H0 ad g s1.2.2 H locs → lv_has ls 10 [(0, .ref (ad x0)), (4, .int (iI x4)), (5, .int (iI s1.1)), (6, .int (iI s1.2.1))] → W p l e rX11_order s mt args below meth c H locs 0 0 Q (F0 mt 60 ls [])) (K1 : c1 = 1 → ∀ (H : Heap) (locs : List Loc) (ls : Array Slot), r32 s1.1 → Wd G A s H0 ad g s1.2.2 H locs → lv_has ls 10 [(0, .ref (ad x0)), (4, .int (iI x4)), (5, .int (iI s1.1))] → W p l e rX11_order s mt args below meth c H locs 0 0 Q (F0 mt 94 ls [])) : W p l e rX11_order s mt args below meth c H locs 0 0 Q (F0 mt 60 ls []) := by
  unfold bX11_order_60 at hF
  refine q_iload C hl 3 rfl dX11_order_60 ?_
  refine q_aload_n C hl 0 rfl rfl dX11_order_62 ?_
  refine q_geti C S 20 fo_RX11_107 (j := 20) rfl rfl hx0 dX11_order_63 ?_
  refine q_icmp_ge C hx6 (S.r _ _) 94 dX11_order_66 (by decide) (fun hc1 => ?_) (fun hc1 => ?_)
  · have hF := if_t hc1 hF
    cases hF
    exact K1 rfl _ _ _ hx5 S (lv_sub hl [0, 1, 2] rfl)
  · have hF := if_f hc1 hF
    refine q_iload C hl 2 rfl dX11_order_69 ?_
    refine q_aload_n C hl 0 rfl rfl dX11_order_71 ?_
    refine q_iload C hl 3 rfl dX11_order_72 ?_
    obtain ⟨v2, m3, h4, hF⟩ := bd2_ok hF
    refine q_ci S (run_V (As := [.int (iI x6)]) (rest := [.int (iI x5)]) C S (cX11_isCovered_ok l G hx0 hx6 h4 ad _) hx0 ⟨by decide, _, _, rfl⟩ gd_RX11_190 hdV_X11_isCovered rfl ⟨rfl, rfl, by decide, by decide⟩ ⟨Nat.zero_le _, Nat.zero_le _⟩ hl.1 rfl (Nat.le_of_ble_eq_true rfl) dX11_order_74) (fun H locs Sm3 h5 => ?_)
    refine q_if_eq C h5.1 84 dX11_order_77 (by decide) (fun hc6 => ?_) (fun hc6 => ?_)
    · have hF := if_t hc6 hF
      refine q_iconst C 1 dX11_order_84 ?_
      exact wX11_order_85 C Sm3 hx0 hx4 hx6 hx5 (rl 1 rfl) (lv_sub hl [0, 1, 3] rfl) hF K0 K1
    · have hF := if_f hc6 hF
      refine q_iconst C 0 dX11_order_80 ?_
      refine q_goto C 85 dX11_order_81 (by decide) ?_
      exact wX11_order_85 C Sm3 hx0 hx4 hx6 hx5 (rl 0 rfl) (lv_sub hl [0, 1, 3] rfl) hF K0 K1
set_option maxRecDepth 20000 in
theorem lX11_order_60 {p : Program} {l : Launch} {e : Env} {s : State} {mt : MethodId} {args : Array Value} {below : List Frame} {meth : Method} {c : Code} {Q : State → Prop} {G : Gl} {A : Nat → Prop} {H0 : Heap} {ad : Int → Nat} {g : Shp} {x0 x4 : Int} (C : CallFix p mt c cX11_order 10 s args tb RX11) (hx0 : gk g x0 = 12) (hx4 : r32 x4) {n : Nat} {s0 s1 : (Int × Int × Mem)} {c1 : Int} (hI : iter (BX11_order_60 g x0 x4) n s0 = some (c1, s1)) (K1 : c1 = 1 → ∀ (H : Heap) (locs : List Loc) (ls : Array Slot), r32 s1.1 → Wd G A s H0 ad g s1.2.2 H locs → lv_has ls 10 [(0, .ref (ad x0)), (4, .int (iI x4)), (5, .int (iI s1.1))] → W p l e rX11_order s mt args below meth c H locs 0 0 Q (F0 mt 94 ls [])) : ∀ (H : Heap) (locs : List Loc) (ls : Array Slot), r32 s0.1 → r32 s0.2.1 → Wd G A s H0 ad g s0.2.2 H locs → lv_has ls 10 [(0, .ref (ad x0)), (4, .int (iI x4)), (5, .int (iI s0.1)), (6, .int (iI s0.2.1))] → W p l e rX11_order s mt args below meth c H locs 0 0 Q (F0 mt 60 ls []) :=
  iter_W (Pw := fun q => ∀ (H : Heap) (locs : List Loc) (ls : Array Slot), r32 q.1 → r32 q.2.1 → Wd G A s H0 ad g q.2.2 H locs → lv_has ls 10 [(0, .ref (ad x0)), (4, .int (iI x4)), (5, .int (iI q.1)), (6, .int (iI q.2.1))] → W p l e rX11_order s mt args below meth c H locs 0 0 Q (F0 mt 60 ls [])) (Px := fun c0 q => (c0 = 1 → ∀ (H : Heap) (locs : List Loc) (ls : Array Slot), r32 q.1 → Wd G A s H0 ad g q.2.2 H locs → lv_has ls 10 [(0, .ref (ad x0)), (4, .int (iI x4)), (5, .int (iI q.1))] → W p l e rX11_order s mt args below meth c H locs 0 0 Q (F0 mt 94 ls [])))
    (fun s c s' hB K0 kx H locs ls f0 f1 S hl => wX11_order_60 C S hx0 hx4 f0 f1 hl hB K0 (fun h9 => (kx (by rw [h9]; decide)) h9)) _ _ _ _ hI K1
set_option maxRecDepth 20000 in
theorem wX11_order_167 {p : Program} {l : Launch} {e : Env} {s : State} {mt : MethodId} {args : Array Value} {below : List Frame} {meth : Method} {c : Code} {Q : State → Prop} {G : Gl} {A : Nat → Prop} {H0 : Heap} {ad : Int → Nat} {g : Shp} {H : Heap} {locs : List Loc} {ls : Array Slot} {m : Mem} {x0 x4 x5 x6 x7 x8 : Int} (C : CallFix p mt c cX11_order 10 s args tb RX11) (S : Wd G A s H0 ad g m H locs) (hx0 : gk g x0 = 12) (hx4 : r32 x4) (hx5 : r32 x5) (hx6 : r32 x6) (hx7 : r32 x7) (hx8 : r32 x8) (hl : lv_has ls 10 [(0, .ref (ad x0)), (4, .int (iI x4)), (5, .int (iI x5)), (6, .int (iI x6)), (7, .int (iI x7)), (8, .int (iI x8))]) {c1 : Int} {s1 : (Int × Int × Int × Mem)} (hF : bX11_order_167 g x0 x4 x5 x6 x7 x8 m = some (c1, s1)) (K0 : c1 = 0 → ∀ (H : Heap) (locs : List Loc) (ls : Array Slot), r32 s1.1 → r32 s1.2.1 → r32 s1.2.2.1 → Wd G A s H0 ad g s1.2.2.2 H locs → lv_has ls 10 [(0, .ref (ad x0)), (4, .int (iI x4)), (5, .int (iI x5)), (6, .int (iI s1.1)), (7, .int (iI s1.2.1)), (8, .int (iI s1.2.2.1))] → W p l e rX11_order s mt args below meth c H locs 0 0 Q (F0 mt 105 ls [])) (K1 : c1 = 1 → ∀ (H : Heap) (locs : List Loc) (ls : Array Slot), r32 s1.1 → r32 s1.2.1 → Wd G A s H0 ad g s1.2.2.2 H locs → lv_has ls 10 [(0, .ref (ad x0)), (4, .int (iI x4)), (5, .int (iI x5)), (6, .int (iI s1.1)), (7, .int (iI s1.2.1))] → W p l e rX11_order s mt args below meth c H locs 0 0 Q (F0 mt 173 ls [])) : W p l e rX11_order s mt args below meth c H locs 0 0 Q (F0 mt 167 ls []) := by
  unfold bX11_order_167 at hF
  obtain ⟨y1, ey1, hF⟩ := vv_ok hF
  have ry1 : r32 y1 := ey1 ▸ r32_w _
  refine q_iinc C hl 5 [(8, .int (iI y1)), (0, .ref (ad x0)), (4, .int (iI x4)), (5, .int (iI x5)), (6, .int (iI x6)), (7, .int (iI x7))] rfl ey1 (by decide) rfl dX11_order_167 (fun ls hl => ?_)
  refine q_goto C 105 dX11_order_170 (by decide) ?_
  cases hF
  exact K0 rfl _ _ _ hx6 hx7 ry1 S (lv_sub hl [1, 2, 3, 4, 5, 0] rfl)
set_option maxRecDepth 20000 in
theorem wX11_order_165 {p : Program} {l : Launch} {e : Env} {s : State} {mt : MethodId} {args : Array Value} {below : List Frame} {meth : Method} {c : Code} {Q : State → Prop} {G : Gl} {A : Nat → Prop} {H0 : Heap} {ad : Int → Nat} {g : Shp} {H : Heap} {locs : List Loc} {ls : Array Slot} {m : Mem} {x0 x4 x5 x7 x8 z0 : Int} (C : CallFix p mt c cX11_order 10 s args tb RX11) (S : Wd G A s H0 ad g m H locs) (hx0 : gk g x0 = 12) (hx4 : r32 x4) (hx5 : r32 x5) (hx7 : r32 x7) (hx8 : r32 x8) (hz0 : r32 z0) (hl : lv_has ls 10 [(0, .ref (ad x0)), (4, .int (iI x4)), (5, .int (iI x5)), (7, .int (iI x7)), (8, .int (iI x8))]) {c1 : Int} {s1 : (Int × Int × Int × Mem)} (hF : bX11_order_165 g x0 x4 x5 x7 x8 z0 m = some (c1, s1)) (K0 : c1 = 0 → ∀ (H : Heap) (locs : List Loc) (ls : Array Slot), r32 s1.1 → r32 s1.2.1 → r32 s1.2.2.1 → Wd G A s H0 ad g s1.2.2.2 H locs → lv_has ls 10 [(0, .ref (ad x0)), (4, .int (iI x4)), (5, .int (iI x5)), (6, .int (iI s1.1)), (7, .int (iI s1.2.1)), (8, .int (iI s1.2.2.1))] → W p l e rX11_order s mt args below meth c H locs 0 0 Q (F0 mt 105 ls [])) (K1 : c1 = 1 → ∀ (H : Heap) (locs : List Loc) (ls : Array Slot), r32 s1.1 → r32 s1.2.1 → Wd G A s H0 ad g s1.2.2.2 H locs → lv_has ls 10 [(0, .ref (ad x0)), (4, .int (iI x4)), (5, .int (iI x5)), (6, .int (iI s1.1)), (7, .int (iI s1.2.1))] → W p l e rX11_order s mt args below meth c H locs 0 0 Q (F0 mt 173 ls [])) : W p l e rX11_order s mt args below meth c H locs 0 0 Q (F0 mt 165 ls [.int (iI z0)]) := by
  unfold bX11_order_165 at hF
  refine q_istore C hl [(6, .int (iI z0)), (0, .ref (ad x0)), (4, .int (iI x4)), (5, .int (iI x5)), (7, .int (iI x7)), (8, .int (iI x8))] rfl (by decide) rfl dX11_order_165 (fun ls hl => ?_)
  exact wX11_order_167 C S hx0 hx4 hx5 hz0 hx7 hx8 (lv_sub hl [1, 2, 3, 0, 4, 5] rfl) hF K0 K1
set_option maxRecDepth 20000 in
theorem wX11_order_149 {p : Program} {l : Launch} {e : Env} {s : State} {mt : MethodId} {args : Array Value} {below : List Frame} {meth : Method} {c : Code} {Q : State → Prop} {G : Gl} {A : Nat → Prop} {H0 : Heap} {ad : Int → Nat} {g : Shp} {H : Heap} {locs : List Loc} {ls : Array Slot} {m : Mem} {x0 x4 x5 x6 x8 x9 z0 : Int} (C : CallFix p mt c cX11_order 10 s args tb RX11) (S : Wd G A s H0 ad g m H locs) (hx0 : gk g x0 = 12) (hx4 : r32 x4) (hx5 : r32 x5) (hx6 : r32 x6) (hx8 : r32 x8) (hx9 : r32 x9) (hz0 : r32 z0) (hl : lv_has ls 10 [(0, .ref (ad x0)), (4, .int (iI x4)), (5, .int (iI x5)), (6, .int (iI x6)), (8, .int (iI x8)), (9, .int (iI x9))]) {c1 : Int} {s1 : (Int × Int × Int × Mem)} (hF : bX11_order_149 g x0 x4 x5 x6 x8 x9 z0 m = some (c1, s1)) (K0 : c1 = 0 → ∀ (H : Heap) (locs : List Loc) (ls : Array Slot), r32 s1.1 → r32 s1.2.1 → r32 s1.2.2.1 → Wd G A s H0 ad g s1.2.2.2 H locs → lv_has ls 10 [(0, .ref (ad x0)), (4, .int (iI x4)), (5, .int (iI x5)), (6, .int (iI s1.1)), (7, .int (iI s1.2.1)), (8, .int (iI s1.2.2.1))] → W p l e rX11_order s mt args below meth c H locs 0 0 Q (F0 mt 105 ls [])) (K1 : c1 = 1 → ∀ (H : Heap) (locs : List Loc) (ls : Array Slot), r32 s1.1 → r32 s1.2.1 → Wd G A s H0 ad g s1.2.2.2 H locs → lv_has ls 10 [(0, .ref (ad x0)), (4, .int (iI x4)), (5, .int (iI x5)), (6, .int (iI s1.1)), (7, .int (iI s1.2.1))] → W p l e rX11_order s mt args below meth c H locs 0 0 Q (F0 mt 173 ls [])) : W p l e rX11_order s mt args below meth c H locs 0 0 Q (F0 mt 149 ls [.int (iI z0)]) := by
  unfold bX11_order_149 at hF
  refine q_istore C hl [(7, .int (iI z0)), (0, .ref (ad x0)), (4, .int (iI x4)), (5, .int (iI x5)), (6, .int (iI x6)), (8, .int (iI x8)), (9, .int (iI x9))] rfl (by decide) rfl dX11_order_149 (fun ls hl => ?_)
  refine q_iload C hl 6 rfl dX11_order_151 ?_
  refine q_iload C hl 4 rfl dX11_order_153 ?_
  refine q_icmp_ge C hx9 hx6 163 dX11_order_155 (by decide) (fun hc1 => ?_) (fun hc1 => ?_)
  · have hF := if_t hc1 hF
    refine q_iload C hl 4 rfl dX11_order_163 ?_
    exact wX11_order_165 C S hx0 hx4 hx5 hz0 hx8 hx6 (lv_sub hl [1, 2, 3, 0, 5] rfl) hF K0 K1
  · have hF := if_f hc1 hF
    refine q_iload C hl 6 rfl dX11_order_158 ?_
    refine q_goto C 165 dX11_order_160 (by decide) ?_
    exact wX11_order_165 C S hx0 hx4 hx5 hz0 hx8 hx9 (lv_sub hl [1, 2, 3, 0, 5] rfl) hF K0 K1
set_option maxRecDepth 20000 in
theorem wX11_order_105 {p : Program} {l : Launch} {e : Env} {s : State} {mt : MethodId} {args : Array Value} {below : List Frame} {meth : Method} {c : Code} {Q : State → Prop} {G : Gl} {A : Nat → Prop} {H0 : Heap} {ad : Int → Nat} {g : Shp} {H : Heap} {locs : List Loc} {ls : Array Slot} {m : Mem} {x0 x4 x5 x6 x7 x8 : Int} (C : CallFix p mt c cX11_order 10 s args tb RX11) (S : Wd G A s H0 ad g m H locs) (hx0 : gk g x0 = 12) (hx4 : r32 x4) (hx5 : r32 x5) (hx6 : r32 x6) (hx7 : r32 x7) (hx8 : r32 x8) (hl : lv_has ls 10 [(0, .ref (ad x0)), (4, .int (iI x4)), (5, .int (iI x5)), (6, .int (iI x6)), (7, .int (iI x7)), (8, .int (iI x8))]) {c1 : Int} {s1 : (Int × Int × Int × Mem)} (hF : bX11_order_105 g x0 x4 x5 x6 x7 x8 m = some (c1, s1)) (K0 : c1 = 0 → ∀ (H : Heap) (locs : List Loc) (ls : Array Slot), r32 s1.1 → r32 s1.2.1 → r32 s1.2.2.1 → Wd G A s H0 ad g s1.2.2.2 H locs → lv_has ls 10 [(0, .ref (ad x0)), (4, .int (iI x4)), (5, .int (iI x5)), (6, .int (iI s1.1)), (7, .int (iI s1.2.1)), (8, .int (iI s1.2.2.1))] → W p l e rX11_order s mt args below meth c H locs 0 0 Q (F0 mt 105 ls [])) (K1 : c1 = 1 → ∀ (H : Heap) (locs : List Loc) (ls : Array Slot), r32 s1.1 → r32 s1.2.1 → Wd G A s H0 ad g s1.2.2.2 H locs → lv_has ls 10 [(0, .ref (ad x0)), (4, .int (iI x4)), (5, .int (iI x5)), (6, .int (iI s1.1)), (7, .int (iI s1.2.1))] → W p l e rX11_order s mt args below meth c H locs 0 0 Q (F0 mt 173 ls [])) : W p l e rX11_order s mt args below meth c H locs 0 0 Q (F0 mt 105 ls []) := by
  unfold bX11_order_105 at hF
  refine q_iload C hl 5 rfl dX11_order_105 ?_
  refine q_bipush C 27 (by decide) dX11_order_107 ?_
  refine q_icmp_ge C hx8 (rl 27 rfl) 173 dX11_order_109 (by decide) (fun hc1 => ?_) (fun hc1 => ?_)
  · have hF := if_t hc1 hF
    cases hF
    exact K1 rfl _ _ _ hx6 hx7 S (lv_sub hl [0, 1, 2, 3, 4] rfl)
  · have hF := if_f hc1 hF
    refine q_aload_n C hl 0 rfl rfl dX11_order_112 ?_
    refine q_iload C hl 5 rfl dX11_order_113 ?_
    obtain ⟨v2, m3, h4, hF⟩ := bd2_ok hF
    refine q_cv S (run_V (As := [.int (iI x8)]) (rest := []) C S (cX11_layTurns_ok l G hx0 hx8 h4 ad _) hx0 ⟨by decide, _, _, rfl⟩ gd_RX11_234 hdV_X11_layTurns rfl ⟨rfl, rfl, by decide, by decide⟩ ⟨Nat.zero_le _, Nat.zero_le _⟩ hl.1 rfl (Nat.le_of_ble_eq_true rfl) dX11_order_115) (fun H locs Sm3 => ?_)
    refine q_aload_n C hl 0 rfl rfl dX11_order_118 ?_
    refine q_iload C hl 2 rfl dX11_order_119 ?_
    obtain ⟨v5, m6, h7, hF⟩ := bd2_ok hF
    refine q_ci Sm3 (run_V (As := [.int (iI x5)]) (rest := []) C Sm3 (cX11_isTurns_ok l G hx0 hx5 h7 ad _) hx0 ⟨by decide, _, _, rfl⟩ gd_RX11_237 hdV_X11_isTurns rfl ⟨rfl, rfl, by decide, by decide⟩ ⟨Nat.zero_le _, Nat.zero_le _⟩ hl.1 rfl (Nat.le_of_ble_eq_true rfl) dX11_order_121) (fun H locs Sm6 h8 => ?_)
    refine q_if_eq C h8.1 167 dX11_order_124 (by decide) (fun hc9 => ?_) (fun hc9 => ?_)
    · have hF := if_t hc9 hF
      exact wX11_order_167 C Sm6 hx0 hx4 hx5 hx6 hx7 hx8 (lv_sub hl [0, 1, 2, 3, 4, 5] rfl) hF K0 K1
    · have hF := if_f hc9 hF
      refine q_aload_n C hl 0 rfl rfl dX11_order_127 ?_
      refine q_iload C hl 2 rfl dX11_order_128 ?_
      obtain ⟨v10, m11, h12, hF⟩ := bd2_ok hF
      refine q_ci Sm6 (run_V (As := [.int (iI x5)]) (rest := []) C Sm6 (cX11_cutsByTurns_ok l G hx0 hx5 h12 ad _) hx0 ⟨by decide, _, _, rfl⟩ gd_RX11_240 hdV_X11_cutsByTurns rfl ⟨rfl, rfl, by decide, by decide⟩ ⟨Nat.zero_le _, Nat.zero_le _⟩ hl.1 rfl (Nat.le_of_ble_eq_true rfl) dX11_order_130) (fun H locs Sm11 h13 => ?_)
      refine q_istore C hl [(9, .int (iI v10)), (0, .ref (ad x0)), (4, .int (iI x4)), (5, .int (iI x5)), (6, .int (iI x6)), (7, .int (iI x7)), (8, .int (iI x8))] rfl (by decide) rfl dX11_order_133 (fun ls hl => ?_)
      refine q_iload C hl 0 rfl dX11_order_135 ?_
      refine q_iload C hl 4 rfl dX11_order_137 ?_
      refine q_icmp_ge C h13.1 hx6 147 dX11_order_139 (by decide) (fun hc14 => ?_) (fun hc14 => ?_)
      · have hF := if_t hc14 hF
        refine q_iload C hl 5 rfl dX11_order_147 ?_
        exact wX11_order_149 C Sm11 hx0 hx4 hx5 hx6 hx8 h13.1 hx7 (lv_sub hl [1, 2, 3, 4, 6, 0] rfl) hF K0 K1
      · have hF := if_f hc14 hF
        refine q_iload C hl 6 rfl dX11_order_142 ?_
        refine q_goto C 149 dX11_order_144 (by decide) ?_
        exact wX11_order_149 C Sm11 hx0 hx4 hx5 hx6 hx8 h13.1 hx8 (lv_sub hl [1, 2, 3, 4, 6, 0] rfl) hF K0 K1
set_option maxRecDepth 20000 in
theorem lX11_order_105 {p : Program} {l : Launch} {e : Env} {s : State} {mt : MethodId} {args : Array Value} {below : List Frame} {meth : Method} {c : Code} {Q : State → Prop} {G : Gl} {A : Nat → Prop} {H0 : Heap} {ad : Int → Nat} {g : Shp} {x0 x4 x5 : Int} (C : CallFix p mt c cX11_order 10 s args tb RX11) (hx0 : gk g x0 = 12) (hx4 : r32 x4) (hx5 : r32 x5) {n : Nat} {s0 s1 : (Int × Int × Int × Mem)} {c1 : Int} (hI : iter (BX11_order_105 g x0 x4 x5) n s0 = some (c1, s1)) (K1 : c1 = 1 → ∀ (H : Heap) (locs : List Loc) (ls : Array Slot), r32 s1.1 → r32 s1.2.1 → Wd G A s H0 ad g s1.2.2.2 H locs → lv_has ls 10 [(0, .ref (ad x0)), (4, .int (iI x4)), (5, .int (iI x5)), (6, .int (iI s1.1)), (7, .int (iI s1.2.1))] → W p l e rX11_order s mt args below meth c H locs 0 0 Q (F0 mt 173 ls [])) : ∀ (H : Heap) (locs : List Loc) (ls : Array Slot), r32 s0.1 → r32 s0.2.1 → r32 s0.2.2.1 → Wd G A s H0 ad g s0.2.2.2 H locs → lv_has ls 10 [(0, .ref (ad x0)), (4, .int (iI x4)), (5, .int (iI x5)), (6, .int (iI s0.1)), (7, .int (iI s0.2.1)), (8, .int (iI s0.2.2.1))] → W p l e rX11_order s mt args below meth c H locs 0 0 Q (F0 mt 105 ls []) :=
  iter_W (Pw := fun q => ∀ (H : Heap) (locs : List Loc) (ls : Array Slot), r32 q.1 → r32 q.2.1 → r32 q.2.2.1 → Wd G A s H0 ad g q.2.2.2 H locs → lv_has ls 10 [(0, .ref (ad x0)), (4, .int (iI x4)), (5, .int (iI x5)), (6, .int (iI q.1)), (7, .int (iI q.2.1)), (8, .int (iI q.2.2.1))] → W p l e rX11_order s mt args below meth c H locs 0 0 Q (F0 mt 105 ls [])) (Px := fun c0 q => (c0 = 1 → ∀ (H : Heap) (locs : List Loc) (ls : Array Slot), r32 q.1 → r32 q.2.1 → Wd G A s H0 ad g q.2.2.2 H locs → lv_has ls 10 [(0, .ref (ad x0)), (4, .int (iI x4)), (5, .int (iI x5)), (6, .int (iI q.1)), (7, .int (iI q.2.1))] → W p l e rX11_order s mt args below meth c H locs 0 0 Q (F0 mt 173 ls [])))
    (fun s c s' hB K0 kx H locs ls f0 f1 f2 S hl => wX11_order_105 C S hx0 hx4 hx5 f0 f1 f2 hl hB K0 (fun h9 => (kx (by rw [h9]; decide)) h9)) _ _ _ _ hI K1
set_option maxRecDepth 20000 in
theorem wX11_order_31 {p : Program} {l : Launch} {e : Env} {s : State} {mt : MethodId} {args : Array Value} {below : List Frame} {meth : Method} {c : Code} {Q : State → Prop} {G : Gl} {A : Nat → Prop} {H0 : Heap} {ad : Int → Nat} {g : Shp} {H : Heap} {locs : List Loc} {ls : Array Slot} {m : Mem} (C : CallFix p mt c cX11_order 10 s args tb RX11) (S : Wd G A s H0 ad g m H locs)  (hl : lv_has ls 10 []) {r : Int} {m' : Mem} (hF : bX11_order_31 g m = some (r, m')) (Kr : ∀ (H : Heap) (locs : List Loc) (pc : Nat) (ls : Array Slot), Wd G A s H0 ad g m' H locs → decode cX11_order pc = .ok (.ireturn, 1) → r32 r ∧ (false = true → r = 0 ∨ r = 1) → narrow .int (.int (iI r)) = .int (iI r) → W p l e rX11_order s mt args below meth c H locs 0 0 Q (F0 mt pc ls [.int (iI r)])) : W p l e rX11_order s mt args below meth c H locs 0 0 Q (F0 mt 31 ls []) := by
  unfold bX11_order_31 at hF
  refine q_iconst C (-1) dX11_order_31 ?_
  cases hF
  exact Kr _ _ _ _ S dX11_order_32 ⟨(rl (-1) rfl), fun h9 => absurd h9 (by decide)⟩ rfl
set_option maxRecDepth 20000 in
theorem wX11_order_187 {p : Program} {l : Launch} {e : Env} {s : State} {mt : MethodId} {args : Array Value} {below : List Frame} {meth : Method} {c : Code} {Q : State → Prop} {G : Gl} {A : Nat → Prop} {H0 : Heap} {ad : Int → Nat} {g : Shp} {H : Heap} {locs : List Loc} {ls : Array Slot} {m : Mem} (C : CallFix p mt c cX11_order 10 s args tb RX11) (S : Wd G A s H0 ad g m H locs)  (hl : lv_has ls 10 []) {r : Int} {m' : Mem} (hF : bX11_order_187 g m = some (r, m')) (Kr : ∀ (H : Heap) (locs : List Loc) (pc : Nat) (ls : Array Slot), Wd G A s H0 ad g m' H locs → decode cX11_order pc = .ok (.ireturn, 1) → r32 r ∧ (false = true → r = 0 ∨ r = 1) → narrow .int (.int (iI r)) = .int (iI r) → W p l e rX11_order s mt args below meth c H locs 0 0 Q (F0 mt pc ls [.int (iI r)])) : W p l e rX11_order s mt args below meth c H locs 0 0 Q (F0 mt 187 ls []) := by
  unfold bX11_order_187 at hF
  refine q_bipush C (-4) (by decide) dX11_order_187 ?_
  cases hF
  exact Kr _ _ _ _ S dX11_order_189 ⟨(rl (-4) rfl), fun h9 => absurd h9 (by decide)⟩ rfl
set_option maxRecDepth 20000 in
theorem wX11_order_214 {p : Program} {l : Launch} {e : Env} {s : State} {mt : MethodId} {args : Array Value} {below : List Frame} {meth : Method} {c : Code} {Q : State → Prop} {G : Gl} {A : Nat → Prop} {H0 : Heap} {ad : Int → Nat} {g : Shp} {H : Heap} {locs : List Loc} {ls : Array Slot} {m : Mem} {z0 : Int} (C : CallFix p mt c cX11_order 10 s args tb RX11) (S : Wd G A s H0 ad g m H locs) (hz0 : r32 z0) (hl : lv_has ls 10 []) {r : Int} {m' : Mem} (hF : bX11_order_214 g z0 m = some (r, m')) (Kr : ∀ (H : Heap) (locs : List Loc) (pc : Nat) (ls : Array Slot), Wd G A s H0 ad g m' H locs → decode cX11_order pc = .ok (.ireturn, 1) → r32 r ∧ (false = true → r = 0 ∨ r = 1) → narrow .int (.int (iI r)) = .int (iI r) → W p l e rX11_order s mt args below meth c H locs 0 0 Q (F0 mt pc ls [.int (iI r)])) : W p l e rX11_order s mt args below meth c H locs 0 0 Q (F0 mt 214 ls [.int (iI z0)]) := by
  unfold bX11_order_214 at hF
  cases hF
  exact Kr _ _ _ _ S dX11_order_214 ⟨hz0, fun h9 => absurd h9 (by decide)⟩ rfl
set_option maxRecDepth 20000 in
theorem wX11_order_173 {p : Program} {l : Launch} {e : Env} {s : State} {mt : MethodId} {args : Array Value} {below : List Frame} {meth : Method} {c : Code} {Q : State → Prop} {G : Gl} {A : Nat → Prop} {H0 : Heap} {ad : Int → Nat} {g : Shp} {H : Heap} {locs : List Loc} {ls : Array Slot} {m : Mem} {x0 x4 x5 x6 x7 : Int} (C : CallFix p mt c cX11_order 10 s args tb RX11) (S : Wd G A s H0 ad g m H locs) (hx0 : gk g x0 = 12) (hx4 : r32 x4) (hx5 : r32 x5) (hx6 : r32 x6) (hx7 : r32 x7) (hl : lv_has ls 10 [(0, .ref (ad x0)), (4, .int (iI x4)), (5, .int (iI x5)), (6, .int (iI x6)), (7, .int (iI x7))]) {r : Int} {m' : Mem} (hF : bX11_order_173 g x0 x4 x5 x6 x7 m = some (r, m')) (Kr : ∀ (H : Heap) (locs : List Loc) (pc : Nat) (ls : Array Slot), Wd G A s H0 ad g m' H locs → decode cX11_order pc = .ok (.ireturn, 1) → r32 r ∧ (false = true → r = 0 ∨ r = 1) → narrow .int (.int (iI r)) = .int (iI r) → W p l e rX11_order s mt args below meth c H locs 0 0 Q (F0 mt pc ls [.int (iI r)])) : W p l e rX11_order s mt args below meth c H locs 0 0 Q (F0 mt 173 ls []) := by
  unfold bX11_order_173 at hF
  refine q_iload C hl 4 rfl dX11_order_173 ?_
  refine q_bipush C (-4) (by decide) dX11_order_175 ?_
  refine q_icmp_eq C hx7 (rl (-4) rfl) 187 dX11_order_177 (by decide) (fun hc1 => ?_) (fun hc1 => ?_)
  · have hF := if_t hc1 hF
    exact wX11_order_187 C S  (lv_sub hl [] rfl) hF Kr
  · have hF := if_f hc1 hF
    refine q_iload C hl 1 rfl dX11_order_180 ?_
    refine q_iload C hl 2 rfl dX11_order_182 ?_
    refine q_icmp_lt C hx4 hx5 190 dX11_order_184 (by decide) (fun hc2 => ?_) (fun hc2 => ?_)
    · have hF := if_t hc2 hF
      refine q_aload_n C hl 0 rfl rfl dX11_order_190 ?_
      refine q_iload C hl 4 rfl dX11_order_191 ?_
      obtain ⟨v3, m4, h5, hF⟩ := bd2_ok hF
      refine q_cv S (run_V (As := [.int (iI x7)]) (rest := []) C S (cX11_layTurns_ok l G hx0 hx7 h5 ad _) hx0 ⟨by decide, _, _, rfl⟩ gd_RX11_234 hdV_X11_layTurns rfl ⟨rfl, rfl, by decide, by decide⟩ ⟨Nat.zero_le _, Nat.zero_le _⟩ hl.1 rfl (Nat.le_of_ble_eq_true rfl) dX11_order_193) (fun H locs Sm4 => ?_)
      refine q_iload C hl 1 rfl dX11_order_196 ?_
      refine q_iconst C (-1) dX11_order_198 ?_
      refine q_icmp_ne C hx4 (rl (-1) rfl) 207 dX11_order_199 (by decide) (fun hc6 => ?_) (fun hc6 => ?_)
      · have hF := if_t hc6 hF
        refine q_iload C hl 3 rfl dX11_order_202 ?_
        refine q_goto C 214 dX11_order_204 (by decide) ?_
        exact wX11_order_214 C Sm4 hx6 (lv_sub hl [] rfl) hF Kr
      · have hF := if_f hc6 hF
        refine q_aload_n C hl 0 rfl rfl dX11_order_207 ?_
        obtain ⟨k7, hF⟩ := ck_ok hF
        refine q_getr C Sm4 38 fo_RX11_86 (j := 38) rfl rfl hx0 k7 (by decide) dX11_order_208 ?_
        refine q_iload C hl 1 rfl dX11_order_211 ?_
        obtain ⟨i8, hF⟩ := ck_ok hF
        refine q_iald C Sm4 k7 i8 dX11_order_213 ?_
        exact wX11_order_214 C Sm4 (Sm4.r _ _) (lv_sub hl [] rfl) hF Kr
    · have hF := if_f hc2 hF
      exact wX11_order_187 C S  (lv_sub hl [] rfl) hF Kr
set_option maxRecDepth 20000 in
theorem wX11_order_94 {p : Program} {l : Launch} {e : Env} {s : State} {mt : MethodId} {args : Array Value} {below : List Frame} {meth : Method} {c : Code} {Q : State → Prop} {G : Gl} {A : Nat → Prop} {H0 : Heap} {ad : Int → Nat} {g : Shp} {H : Heap} {locs : List Loc} {ls : Array Slot} {m : Mem} {x0 x4 x5 : Int} (C : CallFix p mt c cX11_order 10 s args tb RX11) (S : Wd G A s H0 ad g m H locs) (hx0 : gk g x0 = 12) (hx4 : r32 x4) (hx5 : r32 x5) (hl : lv_has ls 10 [(0, .ref (ad x0)), (4, .int (iI x4)), (5, .int (iI x5))]) {r : Int} {m' : Mem} (hF : bX11_order_94 g x0 x4 x5 m = some (r, m')) (Kr : ∀ (H : Heap) (locs : List Loc) (pc : Nat) (ls : Array Slot), Wd G A s H0 ad g m' H locs → decode cX11_order pc = .ok (.ireturn, 1) → r32 r ∧ (false = true → r = 0 ∨ r = 1) → narrow .int (.int (iI r)) = .int (iI r) → W p l e rX11_order s mt args below meth c H locs 0 0 Q (F0 mt pc ls [.int (iI r)])) : W p l e rX11_order s mt args below meth c H locs 0 0 Q (F0 mt 94 ls []) := by
  unfold bX11_order_94 at hF
  refine q_ldc C 1000000 (by decide) tw1115 dX11_order_94 ?_
  refine q_istore C hl [(6, .int (iI 1000000)), (0, .ref (ad x0)), (4, .int (iI x4)), (5, .int (iI x5))] rfl (by decide) rfl dX11_order_96 (fun ls hl => ?_)
  refine q_bipush C (-4) (by decide) dX11_order_98 ?_
  refine q_istore C hl [(7, .int (iI ((-4)))), (6, .int (iI 1000000)), (0, .ref (ad x0)), (4, .int (iI x4)), (5, .int (iI x5))] rfl (by decide) rfl dX11_order_100 (fun ls hl => ?_)
  refine q_iconst C 0 dX11_order_102 ?_
  refine q_istore C hl [(8, .int (iI 0)), (7, .int (iI ((-4)))), (6, .int (iI 1000000)), (0, .ref (ad x0)), (4, .int (iI x4)), (5, .int (iI x5))] rfl (by decide) rfl dX11_order_103 (fun ls hl => ?_)
  obtain ⟨cv1, sv2, hi3, hF⟩ := bdl_ok hF
  refine lX11_order_105 C hx0 hx4 hx5 hi3 ?_ _ _ _ (rl 1000000 rfl) (rl (-4) rfl) (rl 0 rfl) S (lv_sub hl [3, 4, 5, 2, 1, 0] rfl)
  intro _ H locs ls f5 f6 S4 hl
  exact wX11_order_173 C S4 hx0 hx4 hx5 f5 f6 (lv_sub hl [0, 1, 2, 3, 4] rfl) hF Kr
set_option maxRecDepth 20000 in
theorem wX11_order_0 {p : Program} {l : Launch} {e : Env} {s : State} {mt : MethodId} {args : Array Value} {below : List Frame} {meth : Method} {c : Code} {Q : State → Prop} {G : Gl} {A : Nat → Prop} {H0 : Heap} {ad : Int → Nat} {g : Shp} {H : Heap} {locs : List Loc} {ls : Array Slot} {m : Mem} {x0 x1 x2 x3 x4 : Int} (C : CallFix p mt c cX11_order 10 s args tb RX11) (S : Wd G A s H0 ad g m H locs) (hx0 : gk g x0 = 12) (hx1 : r32 x1) (hx2 : r32 x2) (hx3 : r32 x3) (hx4 : r32 x4) (hl : lv_has ls 10 [(0, .ref (ad x0)), (1, .int (iI x1)), (2, .int (iI x2)), (3, .int (iI x3)), (4, .int (iI x4))]) {r : Int} {m' : Mem} (hF : bX11_order_0 g x0 x1 x2 x3 x4 m = some (r, m')) (Kr : ∀ (H : Heap) (locs : List Loc) (pc : Nat) (ls : Array Slot), Wd G A s H0 ad g m' H locs → decode cX11_order pc = .ok (.ireturn, 1) → r32 r ∧ (false = true → r = 0 ∨ r = 1) → narrow .int (.int (iI r)) = .int (iI r) → W p l e rX11_order s mt args below meth c H locs 0 0 Q (F0 mt pc ls [.int (iI r)])) : W p l e rX11_order s mt args below meth c H locs 0 0 Q (F0 mt 0 ls []) := by
  unfold bX11_order_0 at hF
  refine q_iload_n C hl 1 rfl rfl dX11_order_0 ?_
  obtain ⟨v1, m2, h3, hF⟩ := bd2_ok hF
  refine q_ci S (run_S (As := [.int (iI x1)]) (rest := []) C S (cX11_isColour_ok l G hx1 h3 ad _) gd_RX11_148 hd_X11_isColour rfl ⟨rfl, rfl, by decide, by decide⟩ ⟨Nat.zero_le _, Nat.zero_le _⟩ hl.1 rfl (Nat.le_of_ble_eq_true rfl) dX11_order_1) (fun H locs Sm2 h4 => ?_)
  refine q_if_eq C h4.1 31 dX11_order_4 (by decide) (fun hc5 => ?_) (fun hc5 => ?_)
  · have hF := if_t hc5 hF
    exact wX11_order_31 C Sm2  (lv_sub hl [] rfl) hF Kr
  · have hF := if_f hc5 hF
    refine q_iload_n C hl 2 rfl rfl dX11_order_7 ?_
    obtain ⟨v6, m7, h8, hF⟩ := bd2_ok hF
    refine q_ci Sm2 (run_S (As := [.int (iI x2)]) (rest := []) C Sm2 (cX11_isColour_ok l G hx2 h8 ad _) gd_RX11_148 hd_X11_isColour rfl ⟨rfl, rfl, by decide, by decide⟩ ⟨Nat.zero_le _, Nat.zero_le _⟩ hl.1 rfl (Nat.le_of_ble_eq_true rfl) dX11_order_8) (fun H locs Sm7 h9 => ?_)
    refine q_if_eq C h9.1 31 dX11_order_11 (by decide) (fun hc10 => ?_) (fun hc10 => ?_)
    · have hF := if_t hc10 hF
      exact wX11_order_31 C Sm7  (lv_sub hl [] rfl) hF Kr
    · have hF := if_f hc10 hF
      refine q_iload_n C hl 3 rfl rfl dX11_order_14 ?_
      obtain ⟨v11, m12, h13, hF⟩ := bd2_ok hF
      refine q_ci Sm7 (run_S (As := [.int (iI x3)]) (rest := []) C Sm7 (cX11_isColour_ok l G hx3 h13 ad _) gd_RX11_148 hd_X11_isColour rfl ⟨rfl, rfl, by decide, by decide⟩ ⟨Nat.zero_le _, Nat.zero_le _⟩ hl.1 rfl (Nat.le_of_ble_eq_true rfl) dX11_order_15) (fun H locs Sm12 h14 => ?_)
      refine q_if_eq C h14.1 31 dX11_order_18 (by decide) (fun hc15 => ?_) (fun hc15 => ?_)
      · have hF := if_t hc15 hF
        exact wX11_order_31 C Sm12  (lv_sub hl [] rfl) hF Kr
      · have hF := if_f hc15 hF
        refine q_iload C hl 4 rfl dX11_order_21 ?_
        refine q_iconst C (-1) dX11_order_23 ?_
        refine q_iconst C 2 dX11_order_24 ?_
        obtain ⟨v16, m17, h18, hF⟩ := bd2_ok hF
        refine q_ci Sm12 (run_S (As := [.int (iI x4), .int (iI ((-1))), .int (iI 2)]) (rest := []) C Sm12 (cX11_in_ok l G hx4 (rl (-1) rfl) (rl 2 rfl) h18 ad _) gd_RX11_110 hd_X11_in rfl ⟨rfl, rfl, by decide, by decide⟩ ⟨Nat.zero_le _, Nat.zero_le _⟩ hl.1 rfl (Nat.le_of_ble_eq_true rfl) dX11_order_25) (fun H locs Sm17 h19 => ?_)
        refine q_if_ne C h19.1 33 dX11_order_28 (by decide) (fun hc20 => ?_) (fun hc20 => ?_)
        · have hF := if_t hc20 hF
          exact wX11_order_31 C Sm17  (lv_sub hl [] rfl) hF Kr
        · have hF := if_f hc20 hF
          refine q_aload_n C hl 0 rfl rfl dX11_order_33 ?_
          obtain ⟨k21, hF⟩ := ck_ok hF
          refine q_getr C Sm17 37 fo_RX11_83 (j := 37) rfl rfl hx0 k21 (by decide) dX11_order_34 ?_
          refine q_iconst C 0 dX11_order_37 ?_
          refine q_iload_n C hl 1 rfl rfl dX11_order_38 ?_
          obtain ⟨i22, hF⟩ := ck_ok hF
          obtain ⟨m23, em23, hF⟩ := vm_ok hF
          refine q_iast C Sm17 k21 i22 hx1 em23 dX11_order_39 (fun H locs Sm23 => ?_)
          refine q_aload_n C hl 0 rfl rfl dX11_order_40 ?_
          obtain ⟨k24, hF⟩ := ck_ok hF
          refine q_getr C Sm23 37 fo_RX11_83 (j := 37) rfl rfl hx0 k24 (by decide) dX11_order_41 ?_
          refine q_iconst C 1 dX11_order_44 ?_
          refine q_iload_n C hl 2 rfl rfl dX11_order_45 ?_
          obtain ⟨i25, hF⟩ := ck_ok hF
          obtain ⟨m26, em26, hF⟩ := vm_ok hF
          refine q_iast C Sm23 k24 i25 hx2 em26 dX11_order_46 (fun H locs Sm26 => ?_)
          refine q_aload_n C hl 0 rfl rfl dX11_order_47 ?_
          obtain ⟨k27, hF⟩ := ck_ok hF
          refine q_getr C Sm26 37 fo_RX11_83 (j := 37) rfl rfl hx0 k27 (by decide) dX11_order_48 ?_
          refine q_iconst C 2 dX11_order_51 ?_
          refine q_iload_n C hl 3 rfl rfl dX11_order_52 ?_
          obtain ⟨i28, hF⟩ := ck_ok hF
          obtain ⟨m29, em29, hF⟩ := vm_ok hF
          refine q_iast C Sm26 k27 i28 hx3 em29 dX11_order_53 (fun H locs Sm29 => ?_)
          refine q_iconst C 0 dX11_order_54 ?_
          refine q_istore C hl [(5, .int (iI 0)), (0, .ref (ad x0)), (1, .int (iI x1)), (2, .int (iI x2)), (3, .int (iI x3)), (4, .int (iI x4))] rfl (by decide) rfl dX11_order_55 (fun ls hl => ?_)
          refine q_iconst C 0 dX11_order_57 ?_
          refine q_istore C hl [(6, .int (iI 0)), (5, .int (iI 0)), (0, .ref (ad x0)), (1, .int (iI x1)), (2, .int (iI x2)), (3, .int (iI x3)), (4, .int (iI x4))] rfl (by decide) rfl dX11_order_58 (fun ls hl => ?_)
          obtain ⟨cv30, sv31, hi32, hF⟩ := bdl_ok hF
          refine lX11_order_60 C hx0 hx4 hi32 ?_ _ _ _ (rl 0 rfl) (rl 0 rfl) Sm29 (lv_sub hl [2, 6, 1, 0] rfl)
          intro _ H locs ls f34 S33 hl
          exact wX11_order_94 C S33 hx0 hx4 f34 (lv_sub hl [0, 1, 2] rfl) hF Kr
theorem cX11_order_ok (l : Launch) (G : Gl) {g : Shp} {x0 x1 x2 x3 x4 : Int} {m m' : Mem} {r : Int} (hx0 : gk g x0 = 12) (hx1 : r32 x1) (hx2 : r32 x2) (hx3 : r32 x3) (hx4 : r32 x4) (hF : fX11_order g x0 x1 x2 x3 x4 m = some (r, m')) : mI l yX11_order (wT yX11_order cX11_order 10 (some .int)) rX11_order G false (fun ad => [.ref (ad x0), .int (iI x1), .int (iI x2), .int (iI x3), .int (iI x4)]) g m r m' :=
  met_i (by decide) (fun ad => Nat.le_of_ble_eq_true rfl) (fun p e s mt args below meth c Q A H0 H locs ad ls C hnm S hl Kr => wX11_order_0 C S hx0 hx1 hx2 hx3 hx4 hl hF Kr)
set_option maxRecDepth 20000 in
theorem wX11_bag_32 {p : Program} {l : Launch} {e : Env} {s : State} {mt : MethodId} {args : Array Value} {below : List Frame} {meth : Method} {c : Code} {Q : State → Prop} {G : Gl} {A : Nat → Prop} {H0 : Heap} {ad : Int → Nat} {g : Shp} {H : Heap} {locs : List Loc} {ls : Array Slot} {m : Mem} {z0 : Int} (C : CallFix p mt c cX11_bag 3 s args tb RX11) (S : Wd G A s H0 ad g m H locs) (hz0 : r32 z0) (hl : lv_has ls 3 []) {r : Int} {m' : Mem} (hF : bX11_bag_32 g z0 m = some (r, m')) (Kr : ∀ (H : Heap) (locs : List Loc) (pc : Nat) (ls : Array Slot), Wd G A s H0 ad g m' H locs → decode cX11_bag pc = .ok (.ireturn, 1) → r32 r ∧ (false = true → r = 0 ∨ r = 1) → narrow .int (.int (iI r)) = .int (iI r) → W p l e rX11_bag s mt args below meth c H locs 0 0 Q (F0 mt pc ls [.int (iI r)])) : W p l e rX11_bag s mt args below meth c H locs 0 0 Q (F0 mt 32 ls [.int (iI z0)]) := by
  unfold bX11_bag_32 at hF
  cases hF
  exact Kr _ _ _ _ S dX11_bag_32 ⟨hz0, fun h9 => absurd h9 (by decide)⟩ rfl
set_option maxRecDepth 20000 in
theorem wX11_bag_31 {p : Program} {l : Launch} {e : Env} {s : State} {mt : MethodId} {args : Array Value} {below : List Frame} {meth : Method} {c : Code} {Q : State → Prop} {G : Gl} {A : Nat → Prop} {H0 : Heap} {ad : Int → Nat} {g : Shp} {H : Heap} {locs : List Loc} {ls : Array Slot} {m : Mem} (C : CallFix p mt c cX11_bag 3 s args tb RX11) (S : Wd G A s H0 ad g m H locs)  (hl : lv_has ls 3 []) {r : Int} {m' : Mem} (hF : bX11_bag_31 g m = some (r, m')) (Kr : ∀ (H : Heap) (locs : List Loc) (pc : Nat) (ls : Array Slot), Wd G A s H0 ad g m' H locs → decode cX11_bag pc = .ok (.ireturn, 1) → r32 r ∧ (false = true → r = 0 ∨ r = 1) → narrow .int (.int (iI r)) = .int (iI r) → W p l e rX11_bag s mt args below meth c H locs 0 0 Q (F0 mt pc ls [.int (iI r)])) : W p l e rX11_bag s mt args below meth c H locs 0 0 Q (F0 mt 31 ls []) := by
  unfold bX11_bag_31 at hF
  refine q_iconst C (-1) dX11_bag_31 ?_
  exact wX11_bag_32 C S (rl (-1) rfl) (lv_sub hl [] rfl) hF Kr
set_option maxRecDepth 20000 in
theorem wX11_bag_0 {p : Program} {l : Launch} {e : Env} {s : State} {mt : MethodId} {args : Array Value} {below : List Frame} {meth : Method} {c : Code} {Q : State → Prop} {G : Gl} {A : Nat → Prop} {H0 : Heap} {ad : Int → Nat} {g : Shp} {H : Heap} {locs : List Loc} {ls : Array Slot} {m : Mem} {x0 x1 x2 : Int} (C : CallFix p mt c cX11_bag 3 s args tb RX11) (S : Wd G A s H0 ad g m H locs) (hx0 : gk g x0 = 12) (hx1 : r32 x1) (hx2 : r32 x2) (hl : lv_has ls 3 [(0, .ref (ad x0)), (1, .int (iI x1)), (2, .int (iI x2))]) {r : Int} {m' : Mem} (hF : bX11_bag_0 g x0 x1 x2 m = some (r, m')) (Kr : ∀ (H : Heap) (locs : List Loc) (pc : Nat) (ls : Array Slot), Wd G A s H0 ad g m' H locs → decode cX11_bag pc = .ok (.ireturn, 1) → r32 r ∧ (false = true → r = 0 ∨ r = 1) → narrow .int (.int (iI r)) = .int (iI r) → W p l e rX11_bag s mt args below meth c H locs 0 0 Q (F0 mt pc ls [.int (iI r)])) : W p l e rX11_bag s mt args below meth c H locs 0 0 Q (F0 mt 0 ls []) := by
  unfold bX11_bag_0 at hF
  refine q_iload_n C hl 1 rfl rfl dX11_bag_0 ?_
  obtain ⟨v1, m2, h3, hF⟩ := bd2_ok hF
  refine q_ci S (run_S (As := [.int (iI x1)]) (rest := []) C S (cX11_isColour_ok l G hx1 h3 ad _) gd_RX11_148 hd_X11_isColour rfl ⟨rfl, rfl, by decide, by decide⟩ ⟨Nat.zero_le _, Nat.zero_le _⟩ hl.1 rfl (Nat.le_of_ble_eq_true rfl) dX11_bag_1) (fun H locs Sm2 h4 => ?_)
  refine q_if_eq C h4.1 31 dX11_bag_4 (by decide) (fun hc5 => ?_) (fun hc5 => ?_)
  · have hF := if_t hc5 hF
    exact wX11_bag_31 C Sm2  (lv_sub hl [] rfl) hF Kr
  · have hF := if_f hc5 hF
    refine q_iload_n C hl 2 rfl rfl dX11_bag_7 ?_
    refine q_iconst C 0 dX11_bag_8 ?_
    refine q_iconst C 2 dX11_bag_9 ?_
    obtain ⟨v6, m7, h8, hF⟩ := bd2_ok hF
    refine q_ci Sm2 (run_S (As := [.int (iI x2), .int (iI 0), .int (iI 2)]) (rest := []) C Sm2 (cX11_in_ok l G hx2 (rl 0 rfl) (rl 2 rfl) h8 ad _) gd_RX11_110 hd_X11_in rfl ⟨rfl, rfl, by decide, by decide⟩ ⟨Nat.zero_le _, Nat.zero_le _⟩ hl.1 rfl (Nat.le_of_ble_eq_true rfl) dX11_bag_10) (fun H locs Sm7 h9 => ?_)
    refine q_if_eq C h9.1 31 dX11_bag_13 (by decide) (fun hc10 => ?_) (fun hc10 => ?_)
    · have hF := if_t hc10 hF
      exact wX11_bag_31 C Sm7  (lv_sub hl [] rfl) hF Kr
    · have hF := if_f hc10 hF
      refine q_aload_n C hl 0 rfl rfl dX11_bag_16 ?_
      obtain ⟨k11, hF⟩ := ck_ok hF
      refine q_getr C Sm7 0 fo_RX11_7 (j := 0) rfl rfl hx0 k11 (by decide) dX11_bag_17 ?_
      refine q_iconst C 1 dX11_bag_20 ?_
      refine q_iconst C 3 dX11_bag_21 ?_
      refine q_iload_n C hl 1 rfl rfl dX11_bag_22 ?_
      refine q_imul C dX11_bag_23 ?_
      refine q_iadd C dX11_bag_24 ?_
      refine q_iload_n C hl 2 rfl rfl dX11_bag_25 ?_
      refine q_iadd C dX11_bag_26 ?_
      obtain ⟨i12, hF⟩ := ck_ok hF
      refine q_iald C Sm7 k11 i12 dX11_bag_27 ?_
      refine q_goto C 32 dX11_bag_28 (by decide) ?_
      exact wX11_bag_32 C Sm7 (Sm7.r _ _) (lv_sub hl [] rfl) hF Kr
theorem cX11_bag_ok (l : Launch) (G : Gl) {g : Shp} {x0 x1 x2 : Int} {m m' : Mem} {r : Int} (hx0 : gk g x0 = 12) (hx1 : r32 x1) (hx2 : r32 x2) (hF : fX11_bag g x0 x1 x2 m = some (r, m')) : mI l yX11_bag (wT yX11_bag cX11_bag 3 (some .int)) rX11_bag G false (fun ad => [.ref (ad x0), .int (iI x1), .int (iI x2)]) g m r m' :=
  met_i (by decide) (fun ad => Nat.le_of_ble_eq_true rfl) (fun p e s mt args below meth c Q A H0 H locs ad ls C hnm S hl Kr => wX11_bag_0 C S hx0 hx1 hx2 hl hF Kr)
set_option maxRecDepth 20000 in
theorem wX11_fill_57 {p : Program} {l : Launch} {e : Env} {s : State} {mt : MethodId} {args : Array Value} {below : List Frame} {meth : Method} {c : Code} {Q : State → Prop} {G : Gl} {A : Nat → Prop} {H0 : Heap} {ad : Int → Nat} {g : Shp} {H : Heap} {locs : List Loc} {ls : Array Slot} {m : Mem} {x0 x2 x3 x4 : Int} (C : CallFix p mt c cX11_fill 5 s args tb RX11) (S : Wd G A s H0 ad g m H locs) (hx0 : gk g x0 = 12) (hx2 : r32 x2) (hx3 : r32 x3) (hx4 : r32 x4) (hl : lv_has ls 5 [(0, .ref (ad x0)), (2, .int (iI x2)), (3, .int (iI x3)), (4, .int (iI x4))]) {c1 : Int} {s1 : (Int × Mem)} (hF : bX11_fill_57 g x0 x2 x3 x4 m = some (c1, s1)) (K0 : c1 = 0 → ∀ (H : Heap) (locs : List Loc) (ls : Array Slot), r32 s1.1 → Wd G A s H0 ad g s1.2 H locs → lv_has ls 5 [(0, .ref (ad x0)), (2, .int (iI x2)), (3, .int (iI x3)), (4, .int (iI s1.1))] → W p l e rX11_fill s mt args below meth c H locs 0 0 Q (F0 mt 57 ls [])) (K1 : c1 = 1 → ∀ (H : Heap) (locs : List Loc) (ls : Array Slot), Wd G A s H0 ad g s1.2 H locs → lv_has ls 5 [(3, .int (iI x3))] → W p l e rX11_fill s mt args below meth c H locs 0 0 Q (F0 mt 80 ls [])) : W p l e rX11_fill s mt args below meth c H locs 0 0 Q (F0 mt 57 ls []) := by
  unfold bX11_fill_57 at hF
  refine q_iload C hl 3 rfl dX11_fill_57 ?_
  refine q_iconst C 3 dX11_fill_59 ?_
  refine q_icmp_ge C hx4 (rl 3 rfl) 80 dX11_fill_60 (by decide) (fun hc1 => ?_) (fun hc1 => ?_)
  · have hF := if_t hc1 hF
    cases hF
    exact K1 rfl _ _ _  S (lv_sub hl [2] rfl)
  · have hF := if_f hc1 hF
    refine q_aload_n C hl 0 rfl rfl dX11_fill_63 ?_
    obtain ⟨k2, hF⟩ := ck_ok hF
    refine q_getr C S 0 fo_RX11_7 (j := 0) rfl rfl hx0 k2 (by decide) dX11_fill_64 ?_
    refine q_iload_n C hl 1 rfl rfl dX11_fill_67 ?_
    refine q_iload C hl 3 rfl dX11_fill_68 ?_
    refine q_iadd C dX11_fill_70 ?_
    refine q_bipush C 6 (by decide) dX11_fill_71 ?_
    obtain ⟨i3, hF⟩ := ck_ok hF
    obtain ⟨m4, em4, hF⟩ := vm_ok hF
    refine q_iast C S k2 i3 (rl 6 rfl) em4 dX11_fill_73 (fun H locs Sm4 => ?_)
    obtain ⟨y5, ey5, hF⟩ := vv_ok hF
    have ry5 : r32 y5 := ey5 ▸ r32_w _
    refine q_iinc C hl 3 [(4, .int (iI y5)), (0, .ref (ad x0)), (2, .int (iI x2)), (3, .int (iI x3))] rfl ey5 (by decide) rfl dX11_fill_74 (fun ls hl => ?_)
    refine q_goto C 57 dX11_fill_77 (by decide) ?_
    cases hF
    exact K0 rfl _ _ _ ry5 Sm4 (lv_sub hl [1, 2, 3, 0] rfl)
set_option maxRecDepth 20000 in
theorem lX11_fill_57 {p : Program} {l : Launch} {e : Env} {s : State} {mt : MethodId} {args : Array Value} {below : List Frame} {meth : Method} {c : Code} {Q : State → Prop} {G : Gl} {A : Nat → Prop} {H0 : Heap} {ad : Int → Nat} {g : Shp} {x0 x2 x3 : Int} (C : CallFix p mt c cX11_fill 5 s args tb RX11) (hx0 : gk g x0 = 12) (hx2 : r32 x2) (hx3 : r32 x3) {n : Nat} {s0 s1 : (Int × Mem)} {c1 : Int} (hI : iter (BX11_fill_57 g x0 x2 x3) n s0 = some (c1, s1)) (K1 : c1 = 1 → ∀ (H : Heap) (locs : List Loc) (ls : Array Slot), Wd G A s H0 ad g s1.2 H locs → lv_has ls 5 [(3, .int (iI x3))] → W p l e rX11_fill s mt args below meth c H locs 0 0 Q (F0 mt 80 ls [])) : ∀ (H : Heap) (locs : List Loc) (ls : Array Slot), r32 s0.1 → Wd G A s H0 ad g s0.2 H locs → lv_has ls 5 [(0, .ref (ad x0)), (2, .int (iI x2)), (3, .int (iI x3)), (4, .int (iI s0.1))] → W p l e rX11_fill s mt args below meth c H locs 0 0 Q (F0 mt 57 ls []) :=
  iter_W (Pw := fun q => ∀ (H : Heap) (locs : List Loc) (ls : Array Slot), r32 q.1 → Wd G A s H0 ad g q.2 H locs → lv_has ls 5 [(0, .ref (ad x0)), (2, .int (iI x2)), (3, .int (iI x3)), (4, .int (iI q.1))] → W p l e rX11_fill s mt args below meth c H locs 0 0 Q (F0 mt 57 ls [])) (Px := fun c0 q => (c0 = 1 → ∀ (H : Heap) (locs : List Loc) (ls : Array Slot), Wd G A s H0 ad g q.2 H locs → lv_has ls 5 [(3, .int (iI x3))] → W p l e rX11_fill s mt args below meth c H locs 0 0 Q (F0 mt 80 ls [])))
    (fun s c s' hB K0 kx H locs ls f0 S hl => wX11_fill_57 C S hx0 hx2 hx3 f0 hl hB K0 (fun h9 => (kx (by rw [h9]; decide)) h9)) _ _ _ _ hI K1
set_option maxRecDepth 20000 in
theorem wX11_fill_80 {p : Program} {l : Launch} {e : Env} {s : State} {mt : MethodId} {args : Array Value} {below : List Frame} {meth : Method} {c : Code} {Q : State → Prop} {G : Gl} {A : Nat → Prop} {H0 : Heap} {ad : Int → Nat} {g : Shp} {H : Heap} {locs : List Loc} {ls : Array Slot} {m : Mem} {x3 : Int} (C : CallFix p mt c cX11_fill 5 s args tb RX11) (S : Wd G A s H0 ad g m H locs) (hx3 : r32 x3) (hl : lv_has ls 5 [(3, .int (iI x3))]) {r : Int} {m' : Mem} (hF : bX11_fill_80 g x3 m = some (r, m')) (Kr : ∀ (H : Heap) (locs : List Loc) (pc : Nat) (ls : Array Slot), Wd G A s H0 ad g m' H locs → decode cX11_fill pc = .ok (.ireturn, 1) → r32 r ∧ (false = true → r = 0 ∨ r = 1) → narrow .int (.int (iI r)) = .int (iI r) → W p l e rX11_fill s mt args below meth c H locs 0 0 Q (F0 mt pc ls [.int (iI r)])) : W p l e rX11_fill s mt args below meth c H locs 0 0 Q (F0 mt 80 ls []) := by
  unfold bX11_fill_80 at hF
  refine q_iload_n C hl 0 rfl rfl dX11_fill_80 ?_
  cases hF
  exact Kr _ _ _ _ S dX11_fill_81 ⟨hx3, fun h9 => absurd h9 (by decide)⟩ rfl
set_option maxRecDepth 20000 in
theorem wX11_fill_0 {p : Program} {l : Launch} {e : Env} {s : State} {mt : MethodId} {args : Array Value} {below : List Frame} {meth : Method} {c : Code} {Q : State → Prop} {G : Gl} {A : Nat → Prop} {H0 : Heap} {ad : Int → Nat} {g : Shp} {H : Heap} {locs : List Loc} {ls : Array Slot} {m : Mem} {x0 x1 : Int} (C : CallFix p mt c cX11_fill 5 s args tb RX11) (S : Wd G A s H0 ad g m H locs) (hx0 : gk g x0 = 12) (hx1 : r32 x1) (hl : lv_has ls 5 [(0, .ref (ad x0)), (1, .int (iI x1))]) {r : Int} {m' : Mem} (hF : bX11_fill_0 g x0 x1 m = some (r, m')) (Kr : ∀ (H : Heap) (locs : List Loc) (pc : Nat) (ls : Array Slot), Wd G A s H0 ad g m' H locs → decode cX11_fill pc = .ok (.ireturn, 1) → r32 r ∧ (false = true → r = 0 ∨ r = 1) → narrow .int (.int (iI r)) = .int (iI r) → W p l e rX11_fill s mt args below meth c H locs 0 0 Q (F0 mt pc ls [.int (iI r)])) : W p l e rX11_fill s mt args below meth c H locs 0 0 Q (F0 mt 0 ls []) := by
  unfold bX11_fill_0 at hF
  refine q_iload_n C hl 1 rfl rfl dX11_fill_0 ?_
  obtain ⟨v1, m2, h3, hF⟩ := bd2_ok hF
  refine q_ci S (run_S (As := [.int (iI x1)]) (rest := []) C S (cX11_isColour_ok l G hx1 h3 ad _) gd_RX11_148 hd_X11_isColour rfl ⟨rfl, rfl, by decide, by decide⟩ ⟨Nat.zero_le _, Nat.zero_le _⟩ hl.1 rfl (Nat.le_of_ble_eq_true rfl) dX11_fill_1) (fun H locs Sm2 h4 => ?_)
  refine q_if_ne C h4.1 9 dX11_fill_4 (by decide) (fun hc5 => ?_) (fun hc5 => ?_)
  · have hF := if_t hc5 hF
    refine q_iconst C (-1) dX11_fill_7 ?_
    cases hF
    exact Kr _ _ _ _ Sm2 dX11_fill_8 ⟨(rl (-1) rfl), fun h9 => absurd h9 (by decide)⟩ rfl
  · have hF := if_f hc5 hF
    refine q_iconst C 1 dX11_fill_9 ?_
    refine q_iconst C 3 dX11_fill_10 ?_
    refine q_iload_n C hl 1 rfl rfl dX11_fill_11 ?_
    refine q_imul C dX11_fill_12 ?_
    refine q_iadd C dX11_fill_13 ?_
    obtain ⟨y6, ey6, hF⟩ := vv_ok hF
    have ry6 : r32 y6 := ey6 ▸ (r32_w _)
    refine q_istore_n C hl [(2, .int (iI y6)), (0, .ref (ad x0)), (1, .int (iI x1))] ey6 rfl (by decide) rfl dX11_fill_14 (fun ls hl => ?_)
    refine q_bipush C 18 (by decide) dX11_fill_15 ?_
    refine q_aload_n C hl 1 rfl rfl dX11_fill_17 ?_
    obtain ⟨k7, hF⟩ := ck_ok hF
    refine q_getr C Sm2 0 fo_RX11_7 (j := 0) rfl rfl hx0 k7 (by decide) dX11_fill_18 ?_
    refine q_iload_n C hl 0 rfl rfl dX11_fill_21 ?_
    obtain ⟨i8, hF⟩ := ck_ok hF
    refine q_iald C Sm2 k7 i8 dX11_fill_22 ?_
    refine q_isub C dX11_fill_23 ?_
    refine q_aload_n C hl 1 rfl rfl dX11_fill_24 ?_
    refine q_getr C Sm2 0 fo_RX11_7 (j := 0) rfl rfl hx0 k7 (by decide) dX11_fill_25 ?_
    refine q_iload_n C hl 0 rfl rfl dX11_fill_28 ?_
    refine q_iconst C 1 dX11_fill_29 ?_
    refine q_iadd C dX11_fill_30 ?_
    obtain ⟨i9, hF⟩ := ck_ok hF
    refine q_iald C Sm2 k7 i9 dX11_fill_31 ?_
    refine q_isub C dX11_fill_32 ?_
    refine q_aload_n C hl 1 rfl rfl dX11_fill_33 ?_
    refine q_getr C Sm2 0 fo_RX11_7 (j := 0) rfl rfl hx0 k7 (by decide) dX11_fill_34 ?_
    refine q_iload_n C hl 0 rfl rfl dX11_fill_37 ?_
    refine q_iconst C 2 dX11_fill_38 ?_
    refine q_iadd C dX11_fill_39 ?_
    obtain ⟨i10, hF⟩ := ck_ok hF
    refine q_iald C Sm2 k7 i10 dX11_fill_40 ?_
    refine q_isub C dX11_fill_41 ?_
    obtain ⟨y11, ey11, hF⟩ := vv_ok hF
    have ry11 : r32 y11 := ey11 ▸ (r32_w _)
    refine q_istore_n C hl [(3, .int (iI y11)), (2, .int (iI y6)), (0, .ref (ad x0)), (1, .int (iI x1))] ey11 rfl (by decide) rfl dX11_fill_42 (fun ls hl => ?_)
    refine q_iload_n C hl 0 rfl rfl dX11_fill_43 ?_
    refine q_if_ne C ry11 50 dX11_fill_44 (by decide) (fun hc12 => ?_) (fun hc12 => ?_)
    · have hF := if_t hc12 hF
      refine q_bipush C (-2) (by decide) dX11_fill_47 ?_
      cases hF
      exact Kr _ _ _ _ Sm2 dX11_fill_49 ⟨(rl (-2) rfl), fun h9 => absurd h9 (by decide)⟩ rfl
    · have hF := if_f hc12 hF
      refine q_aload_n C hl 2 rfl rfl dX11_fill_50 ?_
      obtain ⟨v13, m14, h15, hF⟩ := bd2_ok hF
      refine q_cv Sm2 (run_V (As := []) (rest := []) C Sm2 (cX11_note_ok l G hx0 h15 ad _) hx0 ⟨by decide, _, _, rfl⟩ gd_RX11_173 hdV_X11_note rfl ⟨rfl, rfl, by decide, by decide⟩ ⟨Nat.zero_le _, Nat.zero_le _⟩ hl.1 rfl (Nat.le_of_ble_eq_true rfl) dX11_fill_51) (fun H locs Sm14 => ?_)
      refine q_iconst C 0 dX11_fill_54 ?_
      refine q_istore C hl [(4, .int (iI 0)), (3, .int (iI y11)), (2, .int (iI y6)), (0, .ref (ad x0)), (1, .int (iI x1))] rfl (by decide) rfl dX11_fill_55 (fun ls hl => ?_)
      obtain ⟨cv16, sv17, hi18, hF⟩ := bdl_ok hF
      refine lX11_fill_57 C hx0 ry6 ry11 hi18 ?_ _ _ _ (rl 0 rfl) Sm14 (lv_sub hl [3, 2, 1, 0] rfl)
      intro _ H locs ls  S19 hl
      exact wX11_fill_80 C S19 ry11 (lv_sub hl [0] rfl) hF Kr
theorem cX11_fill_ok (l : Launch) (G : Gl) {g : Shp} {x0 x1 : Int} {m m' : Mem} {r : Int} (hx0 : gk g x0 = 12) (hx1 : r32 x1) (hF : fX11_fill g x0 x1 m = some (r, m')) : mI l yX11_fill (wT yX11_fill cX11_fill 5 (some .int)) rX11_fill G false (fun ad => [.ref (ad x0), .int (iI x1)]) g m r m' :=
  met_i (by decide) (fun ad => Nat.le_of_ble_eq_true rfl) (fun p e s mt args below meth c Q A H0 H locs ad ls C hnm S hl Kr => wX11_fill_0 C S hx0 hx1 hl hF Kr)
set_option maxRecDepth 20000 in
theorem wX11_isOn_41 {p : Program} {l : Launch} {e : Env} {s : State} {mt : MethodId} {args : Array Value} {below : List Frame} {meth : Method} {c : Code} {Q : State → Prop} {G : Gl} {A : Nat → Prop} {H0 : Heap} {ad : Int → Nat} {g : Shp} {H : Heap} {locs : List Loc} {ls : Array Slot} {m : Mem} {x0 x1 x2 x4 z0 : Int} (C : CallFix p mt c cX11_isOn 5 s args tb RX11) (S : Wd G A s H0 ad g m H locs) (hx0 : gk g x0 = 12) (hx1 : r32 x1) (hx2 : r32 x2) (hx4 : r32 x4) (hz0 : r32 z0) (hl : lv_has ls 5 [(0, .ref (ad x0)), (1, .int (iI x1)), (2, .int (iI x2)), (4, .int (iI x4))]) {c1 : Int} {s1 : (Int × Int × Mem)} (hF : bX11_isOn_41 g x0 x1 x2 x4 z0 m = some (c1, s1)) (K0 : c1 = 0 → ∀ (H : Heap) (locs : List Loc) (ls : Array Slot), r32 s1.1 → r32 s1.2.1 → Wd G A s H0 ad g s1.2.2 H locs → lv_has ls 5 [(0, .ref (ad x0)), (1, .int (iI x1)), (2, .int (iI x2)), (3, .int (iI s1.1)), (4, .int (iI s1.2.1))] → W p l e rX11_isOn s mt args below meth c H locs 0 0 Q (F0 mt 5 ls [])) (K1 : c1 = 1 → ∀ (H : Heap) (locs : List Loc) (ls : Array Slot), r32 s1.1 → Wd G A s H0 ad g s1.2.2 H locs → lv_has ls 5 [(3, .int (iI s1.1))] → W p l e rX11_isOn s mt args below meth c H locs 0 0 Q (F0 mt 48 ls [])) : W p l e rX11_isOn s mt args below meth c H locs 0 0 Q (F0 mt 41 ls [.int (iI z0)]) := by
  unfold bX11_isOn_41 at hF
  refine q_istore_n C hl [(3, .int (iI z0)), (0, .ref (ad x0)), (1, .int (iI x1)), (2, .int (iI x2)), (4, .int (iI x4))] rfl rfl (by decide) rfl dX11_isOn_41 (fun ls hl => ?_)
  obtain ⟨y1, ey1, hF⟩ := vv_ok hF
  have ry1 : r32 y1 := ey1 ▸ r32_w _
  refine q_iinc C hl 4 [(4, .int (iI y1)), (3, .int (iI z0)), (0, .ref (ad x0)), (1, .int (iI x1)), (2, .int (iI x2))] rfl ey1 (by decide) rfl dX11_isOn_42 (fun ls hl => ?_)
  refine q_goto C 5 dX11_isOn_45 (by decide) ?_
  cases hF
  exact K0 rfl _ _ _ hz0 ry1 S (lv_sub hl [2, 3, 4, 1, 0] rfl)
set_option maxRecDepth 20000 in
theorem wX11_isOn_36 {p : Program} {l : Launch} {e : Env} {s : State} {mt : MethodId} {args : Array Value} {below : List Frame} {meth : Method} {c : Code} {Q : State → Prop} {G : Gl} {A : Nat → Prop} {H0 : Heap} {ad : Int → Nat} {g : Shp} {H : Heap} {locs : List Loc} {ls : Array Slot} {m : Mem} {x0 x1 x2 x4 : Int} (C : CallFix p mt c cX11_isOn 5 s args tb RX11) (S : Wd G A s H0 ad g m H locs) (hx0 : gk g x0 = 12) (hx1 : r32 x1) (hx2 : r32 x2) (hx4 : r32 x4) (hl : lv_has ls 5 [(0, .ref (ad x0)), (1, .int (iI x1)), (2, .int (iI x2)), (4, .int (iI x4))]) {c1 : Int} {s1 : (Int × Int × Mem)} (hF : bX11_isOn_36 g x0 x1 x2 x4 m = some (c1, s1)) (K0 : c1 = 0 → ∀ (H : Heap) (locs : List Loc) (ls : Array Slot), r32 s1.1 → r32 s1.2.1 → Wd G A s H0 ad g s1.2.2 H locs → lv_has ls 5 [(0, .ref (ad x0)), (1, .int (iI x1)), (2, .int (iI x2)), (3, .int (iI s1.1)), (4, .int (iI s1.2.1))] → W p l e rX11_isOn s mt args below meth c H locs 0 0 Q (F0 mt 5 ls [])) (K1 : c1 = 1 → ∀ (H : Heap) (locs : List Loc) (ls : Array Slot), r32 s1.1 → Wd G A s H0 ad g s1.2.2 H locs → lv_has ls 5 [(3, .int (iI s1.1))] → W p l e rX11_isOn s mt args below meth c H locs 0 0 Q (F0 mt 48 ls [])) : W p l e rX11_isOn s mt args below meth c H locs 0 0 Q (F0 mt 36 ls []) := by
  unfold bX11_isOn_36 at hF
  refine q_iconst C 1 dX11_isOn_36 ?_
  refine q_goto C 41 dX11_isOn_37 (by decide) ?_
  exact wX11_isOn_41 C S hx0 hx1 hx2 hx4 (rl 1 rfl) (lv_sub hl [0, 1, 2, 3] rfl) hF K0 K1
set_option maxRecDepth 20000 in
theorem wX11_isOn_5 {p : Program} {l : Launch} {e : Env} {s : State} {mt : MethodId} {args : Array Value} {below : List Frame} {meth : Method} {c : Code} {Q : State → Prop} {G : Gl} {A : Nat → Prop} {H0 : Heap} {ad : Int → Nat} {g : Shp} {H : Heap} {locs : List Loc} {ls : Array Slot} {m : Mem} {x0 x1 x2 x3 x4 : Int} (C : CallFix p mt c cX11_isOn 5 s args tb RX11) (S : Wd G A s H0 ad g m H locs) (hx0 : gk g x0 = 12) (hx1 : r32 x1) (hx2 : r32 x2) (hx3 : r32 x3) (hx4 : r32 x4) (hl : lv_has ls 5 [(0, .ref (ad x0)), (1, .int (iI x1)), (2, .int (iI x2)), (3, .int (iI x3)), (4, .int (iI x4))]) {c1 : Int} {s1 : (Int × Int × Mem)} (hF : bX11_isOn_5 g x0 x1 x2 x3 x4 m = some (c1, s1)) (K0 : c1 = 0 → ∀ (H : Heap) (locs : List Loc) (ls : Array Slot), r32 s1.1 → r32 s1.2.1 → Wd G A s H0 ad g s1.2.2 H locs → lv_has ls 5 [(0, .ref (ad x0)), (1, .int (iI x1)), (2, .int (iI x2)), (3, .int (iI s1.1)), (4, .int (iI s1.2.1))] → W p l e rX11_isOn s mt args below meth c H locs 0 0 Q (F0 mt 5 ls [])) (K1 : c1 = 1 → ∀ (H : Heap) (locs : List Loc) (ls : Array Slot), r32 s1.1 → Wd G A s H0 ad g s1.2.2 H locs → lv_has ls 5 [(3, .int (iI s1.1))] → W p l e rX11_isOn s mt args below meth c H locs 0 0 Q (F0 mt 48 ls [])) : W p l e rX11_isOn s mt args below meth c H locs 0 0 Q (F0 mt 5 ls []) := by
  unfold bX11_isOn_5 at hF
  refine q_iload C hl 4 rfl dX11_isOn_5 ?_
  refine q_aload_n C hl 0 rfl rfl dX11_isOn_7 ?_
  obtain ⟨k1, hF⟩ := ck_ok hF
  refine q_getr C S 23 fo_RX11_49 (j := 23) rfl rfl hx0 k1 (by decide) dX11_isOn_8 ?_
  refine q_iload_n C hl 1 rfl rfl dX11_isOn_11 ?_
  obtain ⟨i2, hF⟩ := ck_ok hF
  refine q_iald C S k1 i2 dX11_isOn_12 ?_
  refine q_icmp_ge C hx4 (S.r _ _) 48 dX11_isOn_13 (by decide) (fun hc3 => ?_) (fun hc3 => ?_)
  · have hF := if_t hc3 hF
    cases hF
    exact K1 rfl _ _ _ hx3 S (lv_sub hl [3] rfl)
  · have hF := if_f hc3 hF
    refine q_iload_n C hl 3 rfl rfl dX11_isOn_16 ?_
    refine q_if_ne C hx3 36 dX11_isOn_17 (by decide) (fun hc4 => ?_) (fun hc4 => ?_)
    · have hF := if_t hc4 hF
      refine q_aload_n C hl 0 rfl rfl dX11_isOn_20 ?_
      obtain ⟨k5, hF⟩ := ck_ok hF
      refine q_getr C S 24 fo_RX11_52 (j := 24) rfl rfl hx0 k5 (by decide) dX11_isOn_21 ?_
      refine q_bipush C 60 (by decide) dX11_isOn_24 ?_
      refine q_iload_n C hl 1 rfl rfl dX11_isOn_26 ?_
      refine q_imul C dX11_isOn_27 ?_
      refine q_iload C hl 4 rfl dX11_isOn_28 ?_
      refine q_iadd C dX11_isOn_30 ?_
      obtain ⟨i6, hF⟩ := ck_ok hF
      refine q_iald C S k5 i6 dX11_isOn_31 ?_
      refine q_iload_n C hl 2 rfl rfl dX11_isOn_32 ?_
      refine q_icmp_ne C (S.r _ _) hx2 40 dX11_isOn_33 (by decide) (fun hc7 => ?_) (fun hc7 => ?_)
      · have hF := if_t hc7 hF
        exact wX11_isOn_36 C S hx0 hx1 hx2 hx4 (lv_sub hl [0, 1, 2, 4] rfl) hF K0 K1
      · have hF := if_f hc7 hF
        refine q_iconst C 0 dX11_isOn_40 ?_
        exact wX11_isOn_41 C S hx0 hx1 hx2 hx4 (rl 0 rfl) (lv_sub hl [0, 1, 2, 4] rfl) hF K0 K1
    · have hF := if_f hc4 hF
      exact wX11_isOn_36 C S hx0 hx1 hx2 hx4 (lv_sub hl [0, 1, 2, 4] rfl) hF K0 K1
set_option maxRecDepth 20000 in
theorem lX11_isOn_5 {p : Program} {l : Launch} {e : Env} {s : State} {mt : MethodId} {args : Array Value} {below : List Frame} {meth : Method} {c : Code} {Q : State → Prop} {G : Gl} {A : Nat → Prop} {H0 : Heap} {ad : Int → Nat} {g : Shp} {x0 x1 x2 : Int} (C : CallFix p mt c cX11_isOn 5 s args tb RX11) (hx0 : gk g x0 = 12) (hx1 : r32 x1) (hx2 : r32 x2) {n : Nat} {s0 s1 : (Int × Int × Mem)} {c1 : Int} (hI : iter (BX11_isOn_5 g x0 x1 x2) n s0 = some (c1, s1)) (K1 : c1 = 1 → ∀ (H : Heap) (locs : List Loc) (ls : Array Slot), r32 s1.1 → Wd G A s H0 ad g s1.2.2 H locs → lv_has ls 5 [(3, .int (iI s1.1))] → W p l e rX11_isOn s mt args below meth c H locs 0 0 Q (F0 mt 48 ls [])) : ∀ (H : Heap) (locs : List Loc) (ls : Array Slot), r32 s0.1 → r32 s0.2.1 → Wd G A s H0 ad g s0.2.2 H locs → lv_has ls 5 [(0, .ref (ad x0)), (1, .int (iI x1)), (2, .int (iI x2)), (3, .int (iI s0.1)), (4, .int (iI s0.2.1))] → W p l e rX11_isOn s mt args below meth c H locs 0 0 Q (F0 mt 5 ls []) :=
  iter_W (Pw := fun q => ∀ (H : Heap) (locs : List Loc) (ls : Array Slot), r32 q.1 → r32 q.2.1 → Wd G A s H0 ad g q.2.2 H locs → lv_has ls 5 [(0, .ref (ad x0)), (1, .int (iI x1)), (2, .int (iI x2)), (3, .int (iI q.1)), (4, .int (iI q.2.1))] → W p l e rX11_isOn s mt args below meth c H locs 0 0 Q (F0 mt 5 ls [])) (Px := fun c0 q => (c0 = 1 → ∀ (H : Heap) (locs : List Loc) (ls : Array Slot), r32 q.1 → Wd G A s H0 ad g q.2.2 H locs → lv_has ls 5 [(3, .int (iI q.1))] → W p l e rX11_isOn s mt args below meth c H locs 0 0 Q (F0 mt 48 ls [])))
    (fun s c s' hB K0 kx H locs ls f0 f1 S hl => wX11_isOn_5 C S hx0 hx1 hx2 f0 f1 hl hB K0 (fun h9 => (kx (by rw [h9]; decide)) h9)) _ _ _ _ hI K1
set_option maxRecDepth 20000 in
theorem wX11_isOn_48 {p : Program} {l : Launch} {e : Env} {s : State} {mt : MethodId} {args : Array Value} {below : List Frame} {meth : Method} {c : Code} {Q : State → Prop} {G : Gl} {A : Nat → Prop} {H0 : Heap} {ad : Int → Nat} {g : Shp} {H : Heap} {locs : List Loc} {ls : Array Slot} {m : Mem} {x3 : Int} (C : CallFix p mt c cX11_isOn 5 s args tb RX11) (S : Wd G A s H0 ad g m H locs) (hx3 : r32 x3) (hl : lv_has ls 5 [(3, .int (iI x3))]) {r : Int} {m' : Mem} (hF : bX11_isOn_48 g x3 m = some (r, m')) (Kr : ∀ (H : Heap) (locs : List Loc) (pc : Nat) (ls : Array Slot), Wd G A s H0 ad g m' H locs → decode cX11_isOn pc = .ok (.ireturn, 1) → r32 r ∧ (true = true → r = 0 ∨ r = 1) → narrow .boolean (.int (iI r)) = .int (iI r) → W p l e rX11_isOn s mt args below meth c H locs 0 0 Q (F0 mt pc ls [.int (iI r)])) : W p l e rX11_isOn s mt args below meth c H locs 0 0 Q (F0 mt 48 ls []) := by
  unfold bX11_isOn_48 at hF
  refine q_iload_n C hl 0 rfl rfl dX11_isOn_48 ?_
  obtain ⟨b1, hF⟩ := ck_ok hF
  cases hF
  exact Kr _ _ _ _ S dX11_isOn_49 ⟨r_b b1, fun _ => b1⟩ (nr_b b1)
set_option maxRecDepth 20000 in
theorem wX11_isOn_0 {p : Program} {l : Launch} {e : Env} {s : State} {mt : MethodId} {args : Array Value} {below : List Frame} {meth : Method} {c : Code} {Q : State → Prop} {G : Gl} {A : Nat → Prop} {H0 : Heap} {ad : Int → Nat} {g : Shp} {H : Heap} {locs : List Loc} {ls : Array Slot} {m : Mem} {x0 x1 x2 : Int} (C : CallFix p mt c cX11_isOn 5 s args tb RX11) (S : Wd G A s H0 ad g m H locs) (hx0 : gk g x0 = 12) (hx1 : r32 x1) (hx2 : r32 x2) (hl : lv_has ls 5 [(0, .ref (ad x0)), (1, .int (iI x1)), (2, .int (iI x2))]) {r : Int} {m' : Mem} (hF : bX11_isOn_0 g x0 x1 x2 m = some (r, m')) (Kr : ∀ (H : Heap) (locs : List Loc) (pc : Nat) (ls : Array Slot), Wd G A s H0 ad g m' H locs → decode cX11_isOn pc = .ok (.ireturn, 1) → r32 r ∧ (true = true → r = 0 ∨ r = 1) → narrow .boolean (.int (iI r)) = .int (iI r) → W p l e rX11_isOn s mt args below meth c H locs 0 0 Q (F0 mt pc ls [.int (iI r)])) : W p l e rX11_isOn s mt args below meth c H locs 0 0 Q (F0 mt 0 ls []) := by
  unfold bX11_isOn_0 at hF
  refine q_iconst C 0 dX11_isOn_0 ?_
  refine q_istore_n C hl [(3, .int (iI 0)), (0, .ref (ad x0)), (1, .int (iI x1)), (2, .int (iI x2))] rfl rfl (by decide) rfl dX11_isOn_1 (fun ls hl => ?_)
  refine q_iconst C 0 dX11_isOn_2 ?_
  refine q_istore C hl [(4, .int (iI 0)), (3, .int (iI 0)), (0, .ref (ad x0)), (1, .int (iI x1)), (2, .int (iI x2))] rfl (by decide) rfl dX11_isOn_3 (fun ls hl => ?_)
  obtain ⟨cv1, sv2, hi3, hF⟩ := bdl_ok hF
  refine lX11_isOn_5 C hx0 hx1 hx2 hi3 ?_ _ _ _ (rl 0 rfl) (rl 0 rfl) S (lv_sub hl [2, 3, 4, 1, 0] rfl)
  intro _ H locs ls f5 S4 hl
  exact wX11_isOn_48 C S4 f5 (lv_sub hl [0] rfl) hF Kr
theorem cX11_isOn_ok (l : Launch) (G : Gl) {g : Shp} {x0 x1 x2 : Int} {m m' : Mem} {r : Int} (hx0 : gk g x0 = 12) (hx1 : r32 x1) (hx2 : r32 x2) (hF : fX11_isOn g x0 x1 x2 m = some (r, m')) : mI l yX11_isOn (wT yX11_isOn cX11_isOn 5 (some .boolean)) rX11_isOn G true (fun ad => [.ref (ad x0), .int (iI x1), .int (iI x2)]) g m r m' :=
  met_i (by decide) (fun ad => Nat.le_of_ble_eq_true rfl) (fun p e s mt args below meth c Q A H0 H locs ad ls C hnm S hl Kr => wX11_isOn_0 C S hx0 hx1 hx2 hl hF Kr)
set_option maxRecDepth 20000 in
theorem wX11_drawn_111 {p : Program} {l : Launch} {e : Env} {s : State} {mt : MethodId} {args : Array Value} {below : List Frame} {meth : Method} {c : Code} {Q : State → Prop} {G : Gl} {A : Nat → Prop} {H0 : Heap} {ad : Int → Nat} {g : Shp} {H : Heap} {locs : List Loc} {ls : Array Slot} {m : Mem} {x0 x2 x5 z0 : Int} (C : CallFix p mt c cX11_drawn 6 s args tb RX11) (S : Wd G A s H0 ad g m H locs) (hx0 : gk g x0 = 12) (hx2 : r32 x2) (hx5 : r32 x5) (hz0 : r32 z0) (hl : lv_has ls 6 [(0, .ref (ad x0)), (2, .int (iI x2)), (5, .int (iI x5))]) {c1 : Int} {s1 : (Int × Int × Mem)} (hF : bX11_drawn_111 g x0 x2 x5 z0 m = some (c1, s1)) (K0 : c1 = 0 → ∀ (H : Heap) (locs : List Loc) (ls : Array Slot), r32 s1.1 → r32 s1.2.1 → Wd G A s H0 ad g s1.2.2 H locs → lv_has ls 6 [(0, .ref (ad x0)), (2, .int (iI x2)), (4, .int (iI s1.1)), (5, .int (iI s1.2.1))] → W p l e rX11_drawn s mt args below meth c H locs 0 0 Q (F0 mt 73 ls [])) (K1 : c1 = 1 → ∀ (H : Heap) (locs : List Loc) (ls : Array Slot), r32 s1.1 → Wd G A s H0 ad g s1.2.2 H locs → lv_has ls 6 [(4, .int (iI s1.1))] → W p l e rX11_drawn s mt args below meth c H locs 0 0 Q (F0 mt 119 ls [])) : W p l e rX11_drawn s mt args below meth c H locs 0 0 Q (F0 mt 111 ls [.int (iI z0)]) := by
  unfold bX11_drawn_111 at hF
  refine q_istore C hl [(4, .int (iI z0)), (0, .ref (ad x0)), (2, .int (iI x2)), (5, .int (iI x5))] rfl (by decide) rfl dX11_drawn_111 (fun ls hl => ?_)
  obtain ⟨y1, ey1, hF⟩ := vv_ok hF
  have ry1 : r32 y1 := ey1 ▸ r32_w _
  refine q_iinc C hl 3 [(5, .int (iI y1)), (4, .int (iI z0)), (0, .ref (ad x0)), (2, .int (iI x2))] rfl ey1 (by decide) rfl dX11_drawn_113 (fun ls hl => ?_)
  refine q_goto C 73 dX11_drawn_116 (by decide) ?_
  cases hF
  exact K0 rfl _ _ _ hz0 ry1 S (lv_sub hl [2, 3, 1, 0] rfl)
set_option maxRecDepth 20000 in
theorem wX11_drawn_106 {p : Program} {l : Launch} {e : Env} {s : State} {mt : MethodId} {args : Array Value} {below : List Frame} {meth : Method} {c : Code} {Q : State → Prop} {G : Gl} {A : Nat → Prop} {H0 : Heap} {ad : Int → Nat} {g : Shp} {H : Heap} {locs : List Loc} {ls : Array Slot} {m : Mem} {x0 x2 x5 : Int} (C : CallFix p mt c cX11_drawn 6 s args tb RX11) (S : Wd G A s H0 ad g m H locs) (hx0 : gk g x0 = 12) (hx2 : r32 x2) (hx5 : r32 x5) (hl : lv_has ls 6 [(0, .ref (ad x0)), (2, .int (iI x2)), (5, .int (iI x5))]) {c1 : Int} {s1 : (Int × Int × Mem)} (hF : bX11_drawn_106 g x0 x2 x5 m = some (c1, s1)) (K0 : c1 = 0 → ∀ (H : Heap) (locs : List Loc) (ls : Array Slot), r32 s1.1 → r32 s1.2.1 → Wd G A s H0 ad g s1.2.2 H locs → lv_has ls 6 [(0, .ref (ad x0)), (2, .int (iI x2)), (4, .int (iI s1.1)), (5, .int (iI s1.2.1))] → W p l e rX11_drawn s mt args below meth c H locs 0 0 Q (F0 mt 73 ls [])) (K1 : c1 = 1 → ∀ (H : Heap) (locs : List Loc) (ls : Array Slot), r32 s1.1 → Wd G A s H0 ad g s1.2.2 H locs → lv_has ls 6 [(4, .int (iI s1.1))] → W p l e rX11_drawn s mt args below meth c H locs 0 0 Q (F0 mt 119 ls [])) : W p l e rX11_drawn s mt args below meth c H locs 0 0 Q (F0 mt 106 ls []) := by
  unfold bX11_drawn_106 at hF
  refine q_iconst C 1 dX11_drawn_106 ?_
  refine q_goto C 111 dX11_drawn_107 (by decide) ?_
  exact wX11_drawn_111 C S hx0 hx2 hx5 (rl 1 rfl) (lv_sub hl [0, 1, 2] rfl) hF K0 K1
set_option maxRecDepth 20000 in
theorem wX11_drawn_110 {p : Program} {l : Launch} {e : Env} {s : State} {mt : MethodId} {args : Array Value} {below : List Frame} {meth : Method} {c : Code} {Q : State → Prop} {G : Gl} {A : Nat → Prop} {H0 : Heap} {ad : Int → Nat} {g : Shp} {H : Heap} {locs : List Loc} {ls : Array Slot} {m : Mem} {x0 x2 x5 : Int} (C : CallFix p mt c cX11_drawn 6 s args tb RX11) (S : Wd G A s H0 ad g m H locs) (hx0 : gk g x0 = 12) (hx2 : r32 x2) (hx5 : r32 x5) (hl : lv_has ls 6 [(0, .ref (ad x0)), (2, .int (iI x2)), (5, .int (iI x5))]) {c1 : Int} {s1 : (Int × Int × Mem)} (hF : bX11_drawn_110 g x0 x2 x5 m = some (c1, s1)) (K0 : c1 = 0 → ∀ (H : Heap) (locs : List Loc) (ls : Array Slot), r32 s1.1 → r32 s1.2.1 → Wd G A s H0 ad g s1.2.2 H locs → lv_has ls 6 [(0, .ref (ad x0)), (2, .int (iI x2)), (4, .int (iI s1.1)), (5, .int (iI s1.2.1))] → W p l e rX11_drawn s mt args below meth c H locs 0 0 Q (F0 mt 73 ls [])) (K1 : c1 = 1 → ∀ (H : Heap) (locs : List Loc) (ls : Array Slot), r32 s1.1 → Wd G A s H0 ad g s1.2.2 H locs → lv_has ls 6 [(4, .int (iI s1.1))] → W p l e rX11_drawn s mt args below meth c H locs 0 0 Q (F0 mt 119 ls [])) : W p l e rX11_drawn s mt args below meth c H locs 0 0 Q (F0 mt 110 ls []) := by
  unfold bX11_drawn_110 at hF
  refine q_iconst C 0 dX11_drawn_110 ?_
  exact wX11_drawn_111 C S hx0 hx2 hx5 (rl 0 rfl) (lv_sub hl [0, 1, 2] rfl) hF K0 K1
set_option maxRecDepth 20000 in
theorem wX11_drawn_73 {p : Program} {l : Launch} {e : Env} {s : State} {mt : MethodId} {args : Array Value} {below : List Frame} {meth : Method} {c : Code} {Q : State → Prop} {G : Gl} {A : Nat → Prop} {H0 : Heap} {ad : Int → Nat} {g : Shp} {H : Heap} {locs : List Loc} {ls : Array Slot} {m : Mem} {x0 x2 x4 x5 : Int} (C : CallFix p mt c cX11_drawn 6 s args tb RX11) (S : Wd G A s H0 ad g m H locs) (hx0 : gk g x0 = 12) (hx2 : r32 x2) (hx4 : r32 x4) (hx5 : r32 x5) (hl : lv_has ls 6 [(0, .ref (ad x0)), (2, .int (iI x2)), (4, .int (iI x4)), (5, .int (iI x5))]) {c1 : Int} {s1 : (Int × Int × Mem)} (hF : bX11_drawn_73 g x0 x2 x4 x5 m = some (c1, s1)) (K0 : c1 = 0 → ∀ (H : Heap) (locs : List Loc) (ls : Array Slot), r32 s1.1 → r32 s1.2.1 → Wd G A s H0 ad g s1.2.2 H locs → lv_has ls 6 [(0, .ref (ad x0)), (2, .int (iI x2)), (4, .int (iI s1.1)), (5, .int (iI s1.2.1))] → W p l e rX11_drawn s mt args below meth c H locs 0 0 Q (F0 mt 73 ls [])) (K1 : c1 = 1 → ∀ (H : Heap) (locs : List Loc) (ls : Array Slot), r32 s1.1 → Wd G A s H0 ad g s1.2.2 H locs → lv_has ls 6 [(4, .int (iI s1.1))] → W p l e rX11_drawn s mt args below meth c H locs 0 0 Q (F0 mt 119 ls [])) : W p l e rX11_drawn s mt args below meth c H locs 0 0 Q (F0 mt 73 ls []) := by
  unfold bX11_drawn_73 at hF
  refine q_iload C hl 3 rfl dX11_drawn_73 ?_
  refine q_aload_n C hl 0 rfl rfl dX11_drawn_75 ?_
  refine q_geti C S 20 fo_RX11_107 (j := 20) rfl rfl hx0 dX11_drawn_76 ?_
  refine q_icmp_ge C hx5 (S.r _ _) 119 dX11_drawn_79 (by decide) (fun hc1 => ?_) (fun hc1 => ?_)
  · have hF := if_t hc1 hF
    cases hF
    exact K1 rfl _ _ _ hx4 S (lv_sub hl [2] rfl)
  · have hF := if_f hc1 hF
    refine q_iload C hl 2 rfl dX11_drawn_82 ?_
    refine q_if_ne C hx4 106 dX11_drawn_84 (by decide) (fun hc2 => ?_) (fun hc2 => ?_)
    · have hF := if_t hc2 hF
      refine q_aload_n C hl 0 rfl rfl dX11_drawn_87 ?_
      refine q_iload C hl 3 rfl dX11_drawn_88 ?_
      obtain ⟨v3, m4, h5, hF⟩ := bd2_ok hF
      refine q_ci S (run_V (As := [.int (iI x5)]) (rest := []) C S (cX11_isCovered_ok l G hx0 hx5 h5 ad _) hx0 ⟨by decide, _, _, rfl⟩ gd_RX11_190 hdV_X11_isCovered rfl ⟨rfl, rfl, by decide, by decide⟩ ⟨Nat.zero_le _, Nat.zero_le _⟩ hl.1 rfl (Nat.le_of_ble_eq_true rfl) dX11_drawn_90) (fun H locs Sm4 h6 => ?_)
      refine q_if_ne C h6.1 110 dX11_drawn_93 (by decide) (fun hc7 => ?_) (fun hc7 => ?_)
      · have hF := if_t hc7 hF
        refine q_aload_n C hl 0 rfl rfl dX11_drawn_96 ?_
        refine q_iload C hl 3 rfl dX11_drawn_97 ?_
        refine q_iload_n C hl 1 rfl rfl dX11_drawn_99 ?_
        obtain ⟨v8, m9, h10, hF⟩ := bd2_ok hF
        refine q_ci Sm4 (run_V (As := [.int (iI x5), .int (iI x2)]) (rest := []) C Sm4 (cX11_isOn_ok l G hx0 hx5 hx2 h10 ad _) hx0 ⟨by decide, _, _, rfl⟩ gd_RX11_243 hdV_X11_isOn rfl ⟨rfl, rfl, by decide, by decide⟩ ⟨Nat.zero_le _, Nat.zero_le _⟩ hl.1 rfl (Nat.le_of_ble_eq_true rfl) dX11_drawn_100) (fun H locs Sm9 h11 => ?_)
        refine q_if_eq C h11.1 110 dX11_drawn_103 (by decide) (fun hc12 => ?_) (fun hc12 => ?_)
        · have hF := if_t hc12 hF
          exact wX11_drawn_110 C Sm9 hx0 hx2 hx5 (lv_sub hl [0, 1, 3] rfl) hF K0 K1
        · have hF := if_f hc12 hF
          exact wX11_drawn_106 C Sm9 hx0 hx2 hx5 (lv_sub hl [0, 1, 3] rfl) hF K0 K1
      · have hF := if_f hc7 hF
        exact wX11_drawn_110 C Sm4 hx0 hx2 hx5 (lv_sub hl [0, 1, 3] rfl) hF K0 K1
    · have hF := if_f hc2 hF
      exact wX11_drawn_106 C S hx0 hx2 hx5 (lv_sub hl [0, 1, 3] rfl) hF K0 K1
set_option maxRecDepth 20000 in
theorem lX11_drawn_73 {p : Program} {l : Launch} {e : Env} {s : State} {mt : MethodId} {args : Array Value} {below : List Frame} {meth : Method} {c : Code} {Q : State → Prop} {G : Gl} {A : Nat → Prop} {H0 : Heap} {ad : Int → Nat} {g : Shp} {x0 x2 : Int} (C : CallFix p mt c cX11_drawn 6 s args tb RX11) (hx0 : gk g x0 = 12) (hx2 : r32 x2) {n : Nat} {s0 s1 : (Int × Int × Mem)} {c1 : Int} (hI : iter (BX11_drawn_73 g x0 x2) n s0 = some (c1, s1)) (K1 : c1 = 1 → ∀ (H : Heap) (locs : List Loc) (ls : Array Slot), r32 s1.1 → Wd G A s H0 ad g s1.2.2 H locs → lv_has ls 6 [(4, .int (iI s1.1))] → W p l e rX11_drawn s mt args below meth c H locs 0 0 Q (F0 mt 119 ls [])) : ∀ (H : Heap) (locs : List Loc) (ls : Array Slot), r32 s0.1 → r32 s0.2.1 → Wd G A s H0 ad g s0.2.2 H locs → lv_has ls 6 [(0, .ref (ad x0)), (2, .int (iI x2)), (4, .int (iI s0.1)), (5, .int (iI s0.2.1))] → W p l e rX11_drawn s mt args below meth c H locs 0 0 Q (F0 mt 73 ls []) :=
  iter_W (Pw := fun q => ∀ (H : Heap) (locs : List Loc) (ls : Array Slot), r32 q.1 → r32 q.2.1 → Wd G A s H0 ad g q.2.2 H locs → lv_has ls 6 [(0, .ref (ad x0)), (2, .int (iI x2)), (4, .int (iI q.1)), (5, .int (iI q.2.1))] → W p l e rX11_drawn s mt args below meth c H locs 0 0 Q (F0 mt 73 ls [])) (Px := fun c0 q => (c0 = 1 → ∀ (H : Heap) (locs : List Loc) (ls : Array Slot), r32 q.1 → Wd G A s H0 ad g q.2.2 H locs → lv_has ls 6 [(4, .int (iI q.1))] → W p l e rX11_drawn s mt args below meth c H locs 0 0 Q (F0 mt 119 ls [])))
    (fun s c s' hB K0 kx H locs ls f0 f1 S hl => wX11_drawn_73 C S hx0 hx2 f0 f1 hl hB K0 (fun h9 => (kx (by rw [h9]; decide)) h9)) _ _ _ _ hI K1
set_option maxRecDepth 20000 in
theorem wX11_drawn_131 {p : Program} {l : Launch} {e : Env} {s : State} {mt : MethodId} {args : Array Value} {below : List Frame} {meth : Method} {c : Code} {Q : State → Prop} {G : Gl} {A : Nat → Prop} {H0 : Heap} {ad : Int → Nat} {g : Shp} {H : Heap} {locs : List Loc} {ls : Array Slot} {m : Mem} {z0 : Int} (C : CallFix p mt c cX11_drawn 6 s args tb RX11) (S : Wd G A s H0 ad g m H locs) (hz0 : r32 z0) (hl : lv_has ls 6 []) {r : Int} {m' : Mem} (hF : bX11_drawn_131 g z0 m = some (r, m')) (Kr : ∀ (H : Heap) (locs : List Loc) (pc : Nat) (ls : Array Slot), Wd G A s H0 ad g m' H locs → decode cX11_drawn pc = .ok (.ireturn, 1) → r32 r ∧ (false = true → r = 0 ∨ r = 1) → narrow .int (.int (iI r)) = .int (iI r) → W p l e rX11_drawn s mt args below meth c H locs 0 0 Q (F0 mt pc ls [.int (iI r)])) : W p l e rX11_drawn s mt args below meth c H locs 0 0 Q (F0 mt 131 ls [.int (iI z0)]) := by
  unfold bX11_drawn_131 at hF
  cases hF
  exact Kr _ _ _ _ S dX11_drawn_131 ⟨hz0, fun h9 => absurd h9 (by decide)⟩ rfl
set_option maxRecDepth 20000 in
theorem wX11_drawn_119 {p : Program} {l : Launch} {e : Env} {s : State} {mt : MethodId} {args : Array Value} {below : List Frame} {meth : Method} {c : Code} {Q : State → Prop} {G : Gl} {A : Nat → Prop} {H0 : Heap} {ad : Int → Nat} {g : Shp} {H : Heap} {locs : List Loc} {ls : Array Slot} {m : Mem} {x4 : Int} (C : CallFix p mt c cX11_drawn 6 s args tb RX11) (S : Wd G A s H0 ad g m H locs) (hx4 : r32 x4) (hl : lv_has ls 6 [(4, .int (iI x4))]) {r : Int} {m' : Mem} (hF : bX11_drawn_119 g x4 m = some (r, m')) (Kr : ∀ (H : Heap) (locs : List Loc) (pc : Nat) (ls : Array Slot), Wd G A s H0 ad g m' H locs → decode cX11_drawn pc = .ok (.ireturn, 1) → r32 r ∧ (false = true → r = 0 ∨ r = 1) → narrow .int (.int (iI r)) = .int (iI r) → W p l e rX11_drawn s mt args below meth c H locs 0 0 Q (F0 mt pc ls [.int (iI r)])) : W p l e rX11_drawn s mt args below meth c H locs 0 0 Q (F0 mt 119 ls []) := by
  unfold bX11_drawn_119 at hF
  refine q_iload C hl 0 rfl dX11_drawn_119 ?_
  refine q_if_eq C hx4 129 dX11_drawn_121 (by decide) (fun hc1 => ?_) (fun hc1 => ?_)
  · have hF := if_t hc1 hF
    refine q_bipush C 46 (by decide) dX11_drawn_129 ?_
    exact wX11_drawn_131 C S (rl 46 rfl) (lv_sub hl [] rfl) hF Kr
  · have hF := if_f hc1 hF
    refine q_bipush C 43 (by decide) dX11_drawn_124 ?_
    refine q_goto C 131 dX11_drawn_126 (by decide) ?_
    exact wX11_drawn_131 C S (rl 43 rfl) (lv_sub hl [] rfl) hF Kr
set_option maxRecDepth 20000 in
theorem wX11_drawn_0 {p : Program} {l : Launch} {e : Env} {s : State} {mt : MethodId} {args : Array Value} {below : List Frame} {meth : Method} {c : Code} {Q : State → Prop} {G : Gl} {A : Nat → Prop} {H0 : Heap} {ad : Int → Nat} {g : Shp} {H : Heap} {locs : List Loc} {ls : Array Slot} {m : Mem} {x0 x1 : Int} (C : CallFix p mt c cX11_drawn 6 s args tb RX11) (S : Wd G A s H0 ad g m H locs) (hx0 : gk g x0 = 12) (hx1 : r32 x1) (hl : lv_has ls 6 [(0, .ref (ad x0)), (1, .int (iI x1))]) {r : Int} {m' : Mem} (hF : bX11_drawn_0 g x0 x1 m = some (r, m')) (Kr : ∀ (H : Heap) (locs : List Loc) (pc : Nat) (ls : Array Slot), Wd G A s H0 ad g m' H locs → decode cX11_drawn pc = .ok (.ireturn, 1) → r32 r ∧ (false = true → r = 0 ∨ r = 1) → narrow .int (.int (iI r)) = .int (iI r) → W p l e rX11_drawn s mt args below meth c H locs 0 0 Q (F0 mt pc ls [.int (iI r)])) : W p l e rX11_drawn s mt args below meth c H locs 0 0 Q (F0 mt 0 ls []) := by
  unfold bX11_drawn_0 at hF
  refine q_iload_n C hl 1 rfl rfl dX11_drawn_0 ?_
  refine q_iconst C 0 dX11_drawn_1 ?_
  refine q_sipush C 419 (by decide) dX11_drawn_2 ?_
  obtain ⟨v1, m2, h3, hF⟩ := bd2_ok hF
  refine q_ci S (run_S (As := [.int (iI x1), .int (iI 0), .int (iI 419)]) (rest := []) C S (cX11_in_ok l G hx1 (rl 0 rfl) (rl 419 rfl) h3 ad _) gd_RX11_110 hd_X11_in rfl ⟨rfl, rfl, by decide, by decide⟩ ⟨Nat.zero_le _, Nat.zero_le _⟩ hl.1 rfl (Nat.le_of_ble_eq_true rfl) dX11_drawn_5) (fun H locs Sm2 h4 => ?_)
  refine q_if_ne C h4.1 13 dX11_drawn_8 (by decide) (fun hc5 => ?_) (fun hc5 => ?_)
  · have hF := if_t hc5 hF
    refine q_iconst C (-1) dX11_drawn_11 ?_
    cases hF
    exact Kr _ _ _ _ Sm2 dX11_drawn_12 ⟨(rl (-1) rfl), fun h9 => absurd h9 (by decide)⟩ rfl
  · have hF := if_f hc5 hF
    refine q_iload_n C hl 1 rfl rfl dX11_drawn_13 ?_
    refine q_bipush C 21 (by decide) dX11_drawn_14 ?_
    refine q_irem C hx1 (rl 21 rfl) (by decide) dX11_drawn_16 ?_
    refine q_bipush C 20 (by decide) dX11_drawn_17 ?_
    refine q_icmp_ne C (r32_w _) (rl 20 rfl) 25 dX11_drawn_19 (by decide) (fun hc6 => ?_) (fun hc6 => ?_)
    · have hF := if_t hc6 hF
      refine q_bipush C 47 (by decide) dX11_drawn_22 ?_
      cases hF
      exact Kr _ _ _ _ Sm2 dX11_drawn_24 ⟨(rl 47 rfl), fun h9 => absurd h9 (by decide)⟩ rfl
    · have hF := if_f hc6 hF
      refine q_bipush C 20 (by decide) dX11_drawn_25 ?_
      refine q_iload_n C hl 1 rfl rfl dX11_drawn_27 ?_
      refine q_bipush C 21 (by decide) dX11_drawn_28 ?_
      refine q_idiv C hx1 (rl 21 rfl) (by decide) dX11_drawn_30 ?_
      refine q_imul C dX11_drawn_31 ?_
      refine q_iload_n C hl 1 rfl rfl dX11_drawn_32 ?_
      refine q_bipush C 21 (by decide) dX11_drawn_33 ?_
      refine q_irem C hx1 (rl 21 rfl) (by decide) dX11_drawn_35 ?_
      refine q_iadd C dX11_drawn_36 ?_
      obtain ⟨y7, ey7, hF⟩ := vv_ok hF
      have ry7 : r32 y7 := ey7 ▸ (r32_w _)
      refine q_istore_n C hl [(2, .int (iI y7)), (0, .ref (ad x0)), (1, .int (iI x1))] ey7 rfl (by decide) rfl dX11_drawn_37 (fun ls hl => ?_)
      refine q_aload_n C hl 1 rfl rfl dX11_drawn_38 ?_
      obtain ⟨k8, hF⟩ := ck_ok hF
      refine q_getr C Sm2 0 fo_RX11_7 (j := 0) rfl rfl hx0 k8 (by decide) dX11_drawn_39 ?_
      refine q_bipush C 33 (by decide) dX11_drawn_42 ?_
      refine q_iload_n C hl 0 rfl rfl dX11_drawn_44 ?_
      refine q_iadd C dX11_drawn_45 ?_
      obtain ⟨i9, hF⟩ := ck_ok hF
      refine q_iald C Sm2 k8 i9 dX11_drawn_46 ?_
      obtain ⟨y10, ey10, hF⟩ := vv_ok hF
      have ry10 : r32 y10 := ey10 ▸ (Sm2.r _ _)
      refine q_istore_n C hl [(3, .int (iI y10)), (2, .int (iI y7)), (0, .ref (ad x0)), (1, .int (iI x1))] ey10 rfl (by decide) rfl dX11_drawn_47 (fun ls hl => ?_)
      refine q_iload_n C hl 0 rfl rfl dX11_drawn_48 ?_
      refine q_bipush C (-4) (by decide) dX11_drawn_49 ?_
      refine q_icmp_eq C ry10 (rl (-4) rfl) 67 dX11_drawn_51 (by decide) (fun hc11 => ?_) (fun hc11 => ?_)
      · have hF := if_t hc11 hF
        refine q_iconst C 0 dX11_drawn_67 ?_
        refine q_istore C hl [(4, .int (iI 0)), (3, .int (iI y10)), (2, .int (iI y7)), (0, .ref (ad x0)), (1, .int (iI x1))] rfl (by decide) rfl dX11_drawn_68 (fun ls hl => ?_)
        refine q_iconst C 0 dX11_drawn_70 ?_
        refine q_istore C hl [(5, .int (iI 0)), (4, .int (iI 0)), (3, .int (iI y10)), (2, .int (iI y7)), (0, .ref (ad x0)), (1, .int (iI x1))] rfl (by decide) rfl dX11_drawn_71 (fun ls hl => ?_)
        obtain ⟨cv12, sv13, hi14, hF⟩ := bdl_ok hF
        refine lX11_drawn_73 C hx0 ry7 hi14 ?_ _ _ _ (rl 0 rfl) (rl 0 rfl) Sm2 (lv_sub hl [4, 3, 1, 0] rfl)
        intro _ H locs ls f16 S15 hl
        exact wX11_drawn_119 C S15 f16 (lv_sub hl [0] rfl) hF Kr
      · have hF := if_f hc11 hF
        refine q_bipush C 97 (by decide) dX11_drawn_54 ?_
        refine q_aload_n C hl 2 rfl rfl dX11_drawn_56 ?_
        refine q_getr C Sm2 0 fo_RX11_7 (j := 0) rfl rfl hx0 k8 (by decide) dX11_drawn_57 ?_
        refine q_bipush C 10 (by decide) dX11_drawn_60 ?_
        refine q_iload_n C hl 0 rfl rfl dX11_drawn_62 ?_
        refine q_iadd C dX11_drawn_63 ?_
        obtain ⟨i17, hF⟩ := ck_ok hF
        refine q_iald C Sm2 k8 i17 dX11_drawn_64 ?_
        refine q_iadd C dX11_drawn_65 ?_
        cases hF
        exact Kr _ _ _ _ Sm2 dX11_drawn_66 ⟨(r32_w _), fun h9 => absurd h9 (by decide)⟩ rfl
theorem cX11_drawn_ok (l : Launch) (G : Gl) {g : Shp} {x0 x1 : Int} {m m' : Mem} {r : Int} (hx0 : gk g x0 = 12) (hx1 : r32 x1) (hF : fX11_drawn g x0 x1 m = some (r, m')) : mI l yX11_drawn (wT yX11_drawn cX11_drawn 6 (some .int)) rX11_drawn G false (fun ad => [.ref (ad x0), .int (iI x1)]) g m r m' :=
  met_i (by decide) (fun ad => Nat.le_of_ble_eq_true rfl) (fun p e s mt args below meth c Q A H0 H locs ad ls C hnm S hl Kr => wX11_drawn_0 C S hx0 hx1 hl hF Kr)
set_option maxRecDepth 20000 in
theorem wX11_sharedCells_41 {p : Program} {l : Launch} {e : Env} {s : State} {mt : MethodId} {args : Array Value} {below : List Frame} {meth : Method} {c : Code} {Q : State → Prop} {G : Gl} {A : Nat → Prop} {H0 : Heap} {ad : Int → Nat} {g : Shp} {H : Heap} {locs : List Loc} {ls : Array Slot} {m : Mem} {x0 x1 x2 x4 z0 z1 : Int} (C : CallFix p mt c cX11_sharedCells 5 s args tb RX11) (S : Wd G A s H0 ad g m H locs) (hx0 : gk g x0 = 12) (hx1 : r32 x1) (hx2 : r32 x2) (hx4 : r32 x4) (hz0 : r32 z0) (hz1 : r32 z1) (hl : lv_has ls 5 [(0, .ref (ad x0)), (1, .int (iI x1)), (2, .int (iI x2)), (4, .int (iI x4))]) {c1 : Int} {s1 : (Int × Int × Mem)} (hF : bX11_sharedCells_41 g x0 x1 x2 x4 z0 z1 m = some (c1, s1)) (K0 : c1 = 0 → ∀ (H : Heap) (locs : List Loc) (ls : Array Slot), r32 s1.1 → r32 s1.2.1 → Wd G A s H0 ad g s1.2.2 H locs → lv_has ls 5 [(0, .ref (ad x0)), (1, .int (iI x1)), (2, .int (iI x2)), (3, .int (iI s1.1)), (4, .int (iI s1.2.1))] → W p l e rX11_sharedCells s mt args below meth c H locs 0 0 Q (F0 mt 16 ls [])) (K1 : c1 = 1 → ∀ (H : Heap) (locs : List Loc) (ls : Array Slot), r32 s1.1 → Wd G A s H0 ad g s1.2.2 H locs → lv_has ls 5 [(0, .ref (ad x0)), (1, .int (iI x1)), (2, .int (iI x2)), (3, .int (iI s1.1))] → W p l e rX11_sharedCells s mt args below meth c H locs 0 0 Q (F0 mt 49 ls [])) : W p l e rX11_sharedCells s mt args below meth c H locs 0 0 Q (F0 mt 41 ls [.int (iI z1), .int (iI z0)]) := by
  unfold bX11_sharedCells_41 at hF
  refine q_iadd C dX11_sharedCells_41 ?_
  obtain ⟨y1, ey1, hF⟩ := vv_ok hF
  have ry1 : r32 y1 := ey1 ▸ (r32_w _)
  refine q_istore_n C hl [(3, .int (iI y1)), (0, .ref (ad x0)), (1, .int (iI x1)), (2, .int (iI x2)), (4, .int (iI x4))] ey1 rfl (by decide) rfl dX11_sharedCells_42 (fun ls hl => ?_)
  obtain ⟨y2, ey2, hF⟩ := vv_ok hF
  have ry2 : r32 y2 := ey2 ▸ r32_w _
  refine q_iinc C hl 4 [(4, .int (iI y2)), (3, .int (iI y1)), (0, .ref (ad x0)), (1, .int (iI x1)), (2, .int (iI x2))] rfl ey2 (by decide) rfl dX11_sharedCells_43 (fun ls hl => ?_)
  refine q_goto C 16 dX11_sharedCells_46 (by decide) ?_
  cases hF
  exact K0 rfl _ _ _ ry1 ry2 S (lv_sub hl [2, 3, 4, 1, 0] rfl)
set_option maxRecDepth 20000 in
theorem wX11_sharedCells_16 {p : Program} {l : Launch} {e : Env} {s : State} {mt : MethodId} {args : Array Value} {below : List Frame} {meth : Method} {c : Code} {Q : State → Prop} {G : Gl} {A : Nat → Prop} {H0 : Heap} {ad : Int → Nat} {g : Shp} {H : Heap} {locs : List Loc} {ls : Array Slot} {m : Mem} {x0 x1 x2 x3 x4 : Int} (C : CallFix p mt c cX11_sharedCells 5 s args tb RX11) (S : Wd G A s H0 ad g m H locs) (hx0 : gk g x0 = 12) (hx1 : r32 x1) (hx2 : r32 x2) (hx3 : r32 x3) (hx4 : r32 x4) (hl : lv_has ls 5 [(0, .ref (ad x0)), (1, .int (iI x1)), (2, .int (iI x2)), (3, .int (iI x3)), (4, .int (iI x4))]) {c1 : Int} {s1 : (Int × Int × Mem)} (hF : bX11_sharedCells_16 g x0 x1 x2 x3 x4 m = some (c1, s1)) (K0 : c1 = 0 → ∀ (H : Heap) (locs : List Loc) (ls : Array Slot), r32 s1.1 → r32 s1.2.1 → Wd G A s H0 ad g s1.2.2 H locs → lv_has ls 5 [(0, .ref (ad x0)), (1, .int (iI x1)), (2, .int (iI x2)), (3, .int (iI s1.1)), (4, .int (iI s1.2.1))] → W p l e rX11_sharedCells s mt args below meth c H locs 0 0 Q (F0 mt 16 ls [])) (K1 : c1 = 1 → ∀ (H : Heap) (locs : List Loc) (ls : Array Slot), r32 s1.1 → Wd G A s H0 ad g s1.2.2 H locs → lv_has ls 5 [(0, .ref (ad x0)), (1, .int (iI x1)), (2, .int (iI x2)), (3, .int (iI s1.1))] → W p l e rX11_sharedCells s mt args below meth c H locs 0 0 Q (F0 mt 49 ls [])) : W p l e rX11_sharedCells s mt args below meth c H locs 0 0 Q (F0 mt 16 ls []) := by
  unfold bX11_sharedCells_16 at hF
  refine q_iload C hl 4 rfl dX11_sharedCells_16 ?_
  refine q_aload_n C hl 0 rfl rfl dX11_sharedCells_18 ?_
  refine q_geti C S 20 fo_RX11_107 (j := 20) rfl rfl hx0 dX11_sharedCells_19 ?_
  refine q_icmp_ge C hx4 (S.r _ _) 49 dX11_sharedCells_22 (by decide) (fun hc1 => ?_) (fun hc1 => ?_)
  · have hF := if_t hc1 hF
    cases hF
    exact K1 rfl _ _ _ hx3 S (lv_sub hl [0, 1, 2, 3] rfl)
  · have hF := if_f hc1 hF
    refine q_iload_n C hl 3 rfl rfl dX11_sharedCells_25 ?_
    refine q_aload_n C hl 0 rfl rfl dX11_sharedCells_26 ?_
    refine q_iload C hl 4 rfl dX11_sharedCells_27 ?_
    refine q_iload_n C hl 2 rfl rfl dX11_sharedCells_29 ?_
    obtain ⟨v2, m3, h4, hF⟩ := bd2_ok hF
    refine q_ci S (run_V (As := [.int (iI x4), .int (iI x2)]) (rest := [.int (iI x3)]) C S (cX11_isOn_ok l G hx0 hx4 hx2 h4 ad _) hx0 ⟨by decide, _, _, rfl⟩ gd_RX11_243 hdV_X11_isOn rfl ⟨rfl, rfl, by decide, by decide⟩ ⟨Nat.zero_le _, Nat.zero_le _⟩ hl.1 rfl (Nat.le_of_ble_eq_true rfl) dX11_sharedCells_30) (fun H locs Sm3 h5 => ?_)
    refine q_if_eq C h5.1 40 dX11_sharedCells_33 (by decide) (fun hc6 => ?_) (fun hc6 => ?_)
    · have hF := if_t hc6 hF
      refine q_iconst C 0 dX11_sharedCells_40 ?_
      exact wX11_sharedCells_41 C Sm3 hx0 hx1 hx2 hx4 hx3 (rl 0 rfl) (lv_sub hl [0, 1, 2, 4] rfl) hF K0 K1
    · have hF := if_f hc6 hF
      refine q_iconst C 1 dX11_sharedCells_36 ?_
      refine q_goto C 41 dX11_sharedCells_37 (by decide) ?_
      exact wX11_sharedCells_41 C Sm3 hx0 hx1 hx2 hx4 hx3 (rl 1 rfl) (lv_sub hl [0, 1, 2, 4] rfl) hF K0 K1
set_option maxRecDepth 20000 in
theorem lX11_sharedCells_16 {p : Program} {l : Launch} {e : Env} {s : State} {mt : MethodId} {args : Array Value} {below : List Frame} {meth : Method} {c : Code} {Q : State → Prop} {G : Gl} {A : Nat → Prop} {H0 : Heap} {ad : Int → Nat} {g : Shp} {x0 x1 x2 : Int} (C : CallFix p mt c cX11_sharedCells 5 s args tb RX11) (hx0 : gk g x0 = 12) (hx1 : r32 x1) (hx2 : r32 x2) {n : Nat} {s0 s1 : (Int × Int × Mem)} {c1 : Int} (hI : iter (BX11_sharedCells_16 g x0 x1 x2) n s0 = some (c1, s1)) (K1 : c1 = 1 → ∀ (H : Heap) (locs : List Loc) (ls : Array Slot), r32 s1.1 → Wd G A s H0 ad g s1.2.2 H locs → lv_has ls 5 [(0, .ref (ad x0)), (1, .int (iI x1)), (2, .int (iI x2)), (3, .int (iI s1.1))] → W p l e rX11_sharedCells s mt args below meth c H locs 0 0 Q (F0 mt 49 ls [])) : ∀ (H : Heap) (locs : List Loc) (ls : Array Slot), r32 s0.1 → r32 s0.2.1 → Wd G A s H0 ad g s0.2.2 H locs → lv_has ls 5 [(0, .ref (ad x0)), (1, .int (iI x1)), (2, .int (iI x2)), (3, .int (iI s0.1)), (4, .int (iI s0.2.1))] → W p l e rX11_sharedCells s mt args below meth c H locs 0 0 Q (F0 mt 16 ls []) :=
  iter_W (Pw := fun q => ∀ (H : Heap) (locs : List Loc) (ls : Array Slot), r32 q.1 → r32 q.2.1 → Wd G A s H0 ad g q.2.2 H locs → lv_has ls 5 [(0, .ref (ad x0)), (1, .int (iI x1)), (2, .int (iI x2)), (3, .int (iI q.1)), (4, .int (iI q.2.1))] → W p l e rX11_sharedCells s mt args below meth c H locs 0 0 Q (F0 mt 16 ls [])) (Px := fun c0 q => (c0 = 1 → ∀ (H : Heap) (locs : List Loc) (ls : Array Slot), r32 q.1 → Wd G A s H0 ad g q.2.2 H locs → lv_has ls 5 [(0, .ref (ad x0)), (1, .int (iI x1)), (2, .int (iI x2)), (3, .int (iI q.1))] → W p l e rX11_sharedCells s mt args below meth c H locs 0 0 Q (F0 mt 49 ls [])))
    (fun s c s' hB K0 kx H locs ls f0 f1 S hl => wX11_sharedCells_16 C S hx0 hx1 hx2 f0 f1 hl hB K0 (fun h9 => (kx (by rw [h9]; decide)) h9)) _ _ _ _ hI K1
set_option maxRecDepth 20000 in
theorem wX11_sharedCells_60 {p : Program} {l : Launch} {e : Env} {s : State} {mt : MethodId} {args : Array Value} {below : List Frame} {meth : Method} {c : Code} {Q : State → Prop} {G : Gl} {A : Nat → Prop} {H0 : Heap} {ad : Int → Nat} {g : Shp} {H : Heap} {locs : List Loc} {ls : Array Slot} {m : Mem} {x0 x2 z0 z1 : Int} (C : CallFix p mt c cX11_sharedCells 5 s args tb RX11) (S : Wd G A s H0 ad g m H locs) (hx0 : gk g x0 = 12) (hx2 : r32 x2) (hz0 : r32 z0) (hz1 : r32 z1) (hl : lv_has ls 5 [(0, .ref (ad x0)), (2, .int (iI x2))]) {c1 : Int} {s1 : (Int × Int × Mem)} (hF : bX11_sharedCells_60 g x0 x2 z0 z1 m = some (c1, s1)) (K0 : c1 = 0 → ∀ (H : Heap) (locs : List Loc) (ls : Array Slot), r32 s1.1 → r32 s1.2.1 → Wd G A s H0 ad g s1.2.2 H locs → lv_has ls 5 [(0, .ref (ad x0)), (1, .int (iI s1.1)), (2, .int (iI s1.2.1))] → W p l e rX11_sharedCells s mt args below meth c H locs 0 0 Q (F0 mt 4 ls [])) (K1 : c1 = 1 → ∀ (H : Heap) (locs : List Loc) (ls : Array Slot), r32 s1.1 → Wd G A s H0 ad g s1.2.2 H locs → lv_has ls 5 [(1, .int (iI s1.1))] → W p l e rX11_sharedCells s mt args below meth c H locs 0 0 Q (F0 mt 68 ls [])) : W p l e rX11_sharedCells s mt args below meth c H locs 0 0 Q (F0 mt 60 ls [.int (iI z1), .int (iI z0)]) := by
  unfold bX11_sharedCells_60 at hF
  refine q_iadd C dX11_sharedCells_60 ?_
  obtain ⟨y1, ey1, hF⟩ := vv_ok hF
  have ry1 : r32 y1 := ey1 ▸ (r32_w _)
  refine q_istore_n C hl [(1, .int (iI y1)), (0, .ref (ad x0)), (2, .int (iI x2))] ey1 rfl (by decide) rfl dX11_sharedCells_61 (fun ls hl => ?_)
  obtain ⟨y2, ey2, hF⟩ := vv_ok hF
  have ry2 : r32 y2 := ey2 ▸ r32_w _
  refine q_iinc C hl 2 [(2, .int (iI y2)), (1, .int (iI y1)), (0, .ref (ad x0))] rfl ey2 (by decide) rfl dX11_sharedCells_62 (fun ls hl => ?_)
  refine q_goto C 4 dX11_sharedCells_65 (by decide) ?_
  cases hF
  exact K0 rfl _ _ _ ry1 ry2 S (lv_sub hl [2, 1, 0] rfl)
set_option maxRecDepth 20000 in
theorem wX11_sharedCells_49 {p : Program} {l : Launch} {e : Env} {s : State} {mt : MethodId} {args : Array Value} {below : List Frame} {meth : Method} {c : Code} {Q : State → Prop} {G : Gl} {A : Nat → Prop} {H0 : Heap} {ad : Int → Nat} {g : Shp} {H : Heap} {locs : List Loc} {ls : Array Slot} {m : Mem} {x0 x1 x2 x3 : Int} (C : CallFix p mt c cX11_sharedCells 5 s args tb RX11) (S : Wd G A s H0 ad g m H locs) (hx0 : gk g x0 = 12) (hx1 : r32 x1) (hx2 : r32 x2) (hx3 : r32 x3) (hl : lv_has ls 5 [(0, .ref (ad x0)), (1, .int (iI x1)), (2, .int (iI x2)), (3, .int (iI x3))]) {c1 : Int} {s1 : (Int × Int × Mem)} (hF : bX11_sharedCells_49 g x0 x1 x2 x3 m = some (c1, s1)) (K0 : c1 = 0 → ∀ (H : Heap) (locs : List Loc) (ls : Array Slot), r32 s1.1 → r32 s1.2.1 → Wd G A s H0 ad g s1.2.2 H locs → lv_has ls 5 [(0, .ref (ad x0)), (1, .int (iI s1.1)), (2, .int (iI s1.2.1))] → W p l e rX11_sharedCells s mt args below meth c H locs 0 0 Q (F0 mt 4 ls [])) (K1 : c1 = 1 → ∀ (H : Heap) (locs : List Loc) (ls : Array Slot), r32 s1.1 → Wd G A s H0 ad g s1.2.2 H locs → lv_has ls 5 [(1, .int (iI s1.1))] → W p l e rX11_sharedCells s mt args below meth c H locs 0 0 Q (F0 mt 68 ls [])) : W p l e rX11_sharedCells s mt args below meth c H locs 0 0 Q (F0 mt 49 ls []) := by
  unfold bX11_sharedCells_49 at hF
  refine q_iload_n C hl 1 rfl rfl dX11_sharedCells_49 ?_
  refine q_iload_n C hl 3 rfl rfl dX11_sharedCells_50 ?_
  refine q_iconst C 1 dX11_sharedCells_51 ?_
  refine q_icmp_le C hx3 (rl 1 rfl) 59 dX11_sharedCells_52 (by decide) (fun hc1 => ?_) (fun hc1 => ?_)
  · have hF := if_t hc1 hF
    refine q_iconst C 0 dX11_sharedCells_59 ?_
    exact wX11_sharedCells_60 C S hx0 hx2 hx1 (rl 0 rfl) (lv_sub hl [0, 2] rfl) hF K0 K1
  · have hF := if_f hc1 hF
    refine q_iconst C 1 dX11_sharedCells_55 ?_
    refine q_goto C 60 dX11_sharedCells_56 (by decide) ?_
    exact wX11_sharedCells_60 C S hx0 hx2 hx1 (rl 1 rfl) (lv_sub hl [0, 2] rfl) hF K0 K1
set_option maxRecDepth 20000 in
theorem wX11_sharedCells_4 {p : Program} {l : Launch} {e : Env} {s : State} {mt : MethodId} {args : Array Value} {below : List Frame} {meth : Method} {c : Code} {Q : State → Prop} {G : Gl} {A : Nat → Prop} {H0 : Heap} {ad : Int → Nat} {g : Shp} {H : Heap} {locs : List Loc} {ls : Array Slot} {m : Mem} {x0 x1 x2 : Int} (C : CallFix p mt c cX11_sharedCells 5 s args tb RX11) (S : Wd G A s H0 ad g m H locs) (hx0 : gk g x0 = 12) (hx1 : r32 x1) (hx2 : r32 x2) (hl : lv_has ls 5 [(0, .ref (ad x0)), (1, .int (iI x1)), (2, .int (iI x2))]) {c1 : Int} {s1 : (Int × Int × Mem)} (hF : bX11_sharedCells_4 g x0 x1 x2 m = some (c1, s1)) (K0 : c1 = 0 → ∀ (H : Heap) (locs : List Loc) (ls : Array Slot), r32 s1.1 → r32 s1.2.1 → Wd G A s H0 ad g s1.2.2 H locs → lv_has ls 5 [(0, .ref (ad x0)), (1, .int (iI s1.1)), (2, .int (iI s1.2.1))] → W p l e rX11_sharedCells s mt args below meth c H locs 0 0 Q (F0 mt 4 ls [])) (K1 : c1 = 1 → ∀ (H : Heap) (locs : List Loc) (ls : Array Slot), r32 s1.1 → Wd G A s H0 ad g s1.2.2 H locs → lv_has ls 5 [(1, .int (iI s1.1))] → W p l e rX11_sharedCells s mt args below meth c H locs 0 0 Q (F0 mt 68 ls [])) : W p l e rX11_sharedCells s mt args below meth c H locs 0 0 Q (F0 mt 4 ls []) := by
  unfold bX11_sharedCells_4 at hF
  refine q_iload_n C hl 2 rfl rfl dX11_sharedCells_4 ?_
  refine q_sipush C 400 (by decide) dX11_sharedCells_5 ?_
  refine q_icmp_ge C hx2 (rl 400 rfl) 68 dX11_sharedCells_8 (by decide) (fun hc1 => ?_) (fun hc1 => ?_)
  · have hF := if_t hc1 hF
    cases hF
    exact K1 rfl _ _ _ hx1 S (lv_sub hl [1] rfl)
  · have hF := if_f hc1 hF
    refine q_iconst C 0 dX11_sharedCells_11 ?_
    refine q_istore_n C hl [(3, .int (iI 0)), (0, .ref (ad x0)), (1, .int (iI x1)), (2, .int (iI x2))] rfl rfl (by decide) rfl dX11_sharedCells_12 (fun ls hl => ?_)
    refine q_iconst C 0 dX11_sharedCells_13 ?_
    refine q_istore C hl [(4, .int (iI 0)), (3, .int (iI 0)), (0, .ref (ad x0)), (1, .int (iI x1)), (2, .int (iI x2))] rfl (by decide) rfl dX11_sharedCells_14 (fun ls hl => ?_)
    obtain ⟨cv2, sv3, hi4, hF⟩ := bdl_ok hF
    refine lX11_sharedCells_16 C hx0 hx1 hx2 hi4 ?_ _ _ _ (rl 0 rfl) (rl 0 rfl) S (lv_sub hl [2, 3, 4, 1, 0] rfl)
    intro _ H locs ls f6 S5 hl
    exact wX11_sharedCells_49 C S5 hx0 hx1 hx2 f6 (lv_sub hl [0, 1, 2, 3] rfl) hF K0 K1
set_option maxRecDepth 20000 in
theorem lX11_sharedCells_4 {p : Program} {l : Launch} {e : Env} {s : State} {mt : MethodId} {args : Array Value} {below : List Frame} {meth : Method} {c : Code} {Q : State → Prop} {G : Gl} {A : Nat → Prop} {H0 : Heap} {ad : Int → Nat} {g : Shp} {x0 : Int} (C : CallFix p mt c cX11_sharedCells 5 s args tb RX11) (hx0 : gk g x0 = 12) {n : Nat} {s0 s1 : (Int × Int × Mem)} {c1 : Int} (hI : iter (BX11_sharedCells_4 g x0) n s0 = some (c1, s1)) (K1 : c1 = 1 → ∀ (H : Heap) (locs : List Loc) (ls : Array Slot), r32 s1.1 → Wd G A s H0 ad g s1.2.2 H locs → lv_has ls 5 [(1, .int (iI s1.1))] → W p l e rX11_sharedCells s mt args below meth c H locs 0 0 Q (F0 mt 68 ls [])) : ∀ (H : Heap) (locs : List Loc) (ls : Array Slot), r32 s0.1 → r32 s0.2.1 → Wd G A s H0 ad g s0.2.2 H locs → lv_has ls 5 [(0, .ref (ad x0)), (1, .int (iI s0.1)), (2, .int (iI s0.2.1))] → W p l e rX11_sharedCells s mt args below meth c H locs 0 0 Q (F0 mt 4 ls []) :=
  iter_W (Pw := fun q => ∀ (H : Heap) (locs : List Loc) (ls : Array Slot), r32 q.1 → r32 q.2.1 → Wd G A s H0 ad g q.2.2 H locs → lv_has ls 5 [(0, .ref (ad x0)), (1, .int (iI q.1)), (2, .int (iI q.2.1))] → W p l e rX11_sharedCells s mt args below meth c H locs 0 0 Q (F0 mt 4 ls [])) (Px := fun c0 q => (c0 = 1 → ∀ (H : Heap) (locs : List Loc) (ls : Array Slot), r32 q.1 → Wd G A s H0 ad g q.2.2 H locs → lv_has ls 5 [(1, .int (iI q.1))] → W p l e rX11_sharedCells s mt args below meth c H locs 0 0 Q (F0 mt 68 ls [])))
    (fun s c s' hB K0 kx H locs ls f0 f1 S hl => wX11_sharedCells_4 C S hx0 f0 f1 hl hB K0 (fun h9 => (kx (by rw [h9]; decide)) h9)) _ _ _ _ hI K1
set_option maxRecDepth 20000 in
theorem wX11_sharedCells_68 {p : Program} {l : Launch} {e : Env} {s : State} {mt : MethodId} {args : Array Value} {below : List Frame} {meth : Method} {c : Code} {Q : State → Prop} {G : Gl} {A : Nat → Prop} {H0 : Heap} {ad : Int → Nat} {g : Shp} {H : Heap} {locs : List Loc} {ls : Array Slot} {m : Mem} {x1 : Int} (C : CallFix p mt c cX11_sharedCells 5 s args tb RX11) (S : Wd G A s H0 ad g m H locs) (hx1 : r32 x1) (hl : lv_has ls 5 [(1, .int (iI x1))]) {r : Int} {m' : Mem} (hF : bX11_sharedCells_68 g x1 m = some (r, m')) (Kr : ∀ (H : Heap) (locs : List Loc) (pc : Nat) (ls : Array Slot), Wd G A s H0 ad g m' H locs → decode cX11_sharedCells pc = .ok (.ireturn, 1) → r32 r ∧ (false = true → r = 0 ∨ r = 1) → narrow .int (.int (iI r)) = .int (iI r) → W p l e rX11_sharedCells s mt args below meth c H locs 0 0 Q (F0 mt pc ls [.int (iI r)])) : W p l e rX11_sharedCells s mt args below meth c H locs 0 0 Q (F0 mt 68 ls []) := by
  unfold bX11_sharedCells_68 at hF
  refine q_iload_n C hl 0 rfl rfl dX11_sharedCells_68 ?_
  cases hF
  exact Kr _ _ _ _ S dX11_sharedCells_69 ⟨hx1, fun h9 => absurd h9 (by decide)⟩ rfl
set_option maxRecDepth 20000 in
theorem wX11_sharedCells_0 {p : Program} {l : Launch} {e : Env} {s : State} {mt : MethodId} {args : Array Value} {below : List Frame} {meth : Method} {c : Code} {Q : State → Prop} {G : Gl} {A : Nat → Prop} {H0 : Heap} {ad : Int → Nat} {g : Shp} {H : Heap} {locs : List Loc} {ls : Array Slot} {m : Mem} {x0 : Int} (C : CallFix p mt c cX11_sharedCells 5 s args tb RX11) (S : Wd G A s H0 ad g m H locs) (hx0 : gk g x0 = 12) (hl : lv_has ls 5 [(0, .ref (ad x0))]) {r : Int} {m' : Mem} (hF : bX11_sharedCells_0 g x0 m = some (r, m')) (Kr : ∀ (H : Heap) (locs : List Loc) (pc : Nat) (ls : Array Slot), Wd G A s H0 ad g m' H locs → decode cX11_sharedCells pc = .ok (.ireturn, 1) → r32 r ∧ (false = true → r = 0 ∨ r = 1) → narrow .int (.int (iI r)) = .int (iI r) → W p l e rX11_sharedCells s mt args below meth c H locs 0 0 Q (F0 mt pc ls [.int (iI r)])) : W p l e rX11_sharedCells s mt args below meth c H locs 0 0 Q (F0 mt 0 ls []) := by
  unfold bX11_sharedCells_0 at hF
  refine q_iconst C 0 dX11_sharedCells_0 ?_
  refine q_istore_n C hl [(1, .int (iI 0)), (0, .ref (ad x0))] rfl rfl (by decide) rfl dX11_sharedCells_1 (fun ls hl => ?_)
  refine q_iconst C 0 dX11_sharedCells_2 ?_
  refine q_istore_n C hl [(2, .int (iI 0)), (1, .int (iI 0)), (0, .ref (ad x0))] rfl rfl (by decide) rfl dX11_sharedCells_3 (fun ls hl => ?_)
  obtain ⟨cv1, sv2, hi3, hF⟩ := bdl_ok hF
  refine lX11_sharedCells_4 C hx0 hi3 ?_ _ _ _ (rl 0 rfl) (rl 0 rfl) S (lv_sub hl [2, 1, 0] rfl)
  intro _ H locs ls f5 S4 hl
  exact wX11_sharedCells_68 C S4 f5 (lv_sub hl [0] rfl) hF Kr
theorem cX11_sharedCells_ok (l : Launch) (G : Gl) {g : Shp} {x0 : Int} {m m' : Mem} {r : Int} (hx0 : gk g x0 = 12) (hF : fX11_sharedCells g x0 m = some (r, m')) : mI l yX11_sharedCells (wT yX11_sharedCells cX11_sharedCells 5 (some .int)) rX11_sharedCells G false (fun ad => [.ref (ad x0)]) g m r m' :=
  met_i (by decide) (fun ad => Nat.le_of_ble_eq_true rfl) (fun p e s mt args below meth c Q A H0 H locs ad ls C hnm S hl Kr => wX11_sharedCells_0 C S hx0 hl hF Kr)
set_option maxRecDepth 20000 in
theorem wX11_count_133 {p : Program} {l : Launch} {e : Env} {s : State} {mt : MethodId} {args : Array Value} {below : List Frame} {meth : Method} {c : Code} {Q : State → Prop} {G : Gl} {A : Nat → Prop} {H0 : Heap} {ad : Int → Nat} {g : Shp} {H : Heap} {locs : List Loc} {ls : Array Slot} {m : Mem} {x0 x3 z0 z1 : Int} (C : CallFix p mt c cX11_count 4 s args tb RX11) (S : Wd G A s H0 ad g m H locs) (hx0 : gk g x0 = 12) (hx3 : r32 x3) (hz0 : r32 z0) (hz1 : r32 z1) (hl : lv_has ls 4 [(0, .ref (ad x0)), (3, .int (iI x3))]) {c1 : Int} {s1 : (Int × Int × Mem)} (hF : bX11_count_133 g x0 x3 z0 z1 m = some (c1, s1)) (K0 : c1 = 0 → ∀ (H : Heap) (locs : List Loc) (ls : Array Slot), r32 s1.1 → r32 s1.2.1 → Wd G A s H0 ad g s1.2.2 H locs → lv_has ls 4 [(0, .ref (ad x0)), (2, .int (iI s1.1)), (3, .int (iI s1.2.1))] → W p l e rX11_count s mt args below meth c H locs 0 0 Q (F0 mt 111 ls [])) (K1 : c1 = 1 → ∀ (H : Heap) (locs : List Loc) (ls : Array Slot), r32 s1.1 → Wd G A s H0 ad g s1.2.2 H locs → lv_has ls 4 [(2, .int (iI s1.1))] → W p l e rX11_count s mt args below meth c H locs 0 0 Q (F0 mt 141 ls [])) : W p l e rX11_count s mt args below meth c H locs 0 0 Q (F0 mt 133 ls [.int (iI z1), .int (iI z0)]) := by
  unfold bX11_count_133 at hF
  refine q_iadd C dX11_count_133 ?_
  obtain ⟨y1, ey1, hF⟩ := vv_ok hF
  have ry1 : r32 y1 := ey1 ▸ (r32_w _)
  refine q_istore_n C hl [(2, .int (iI y1)), (0, .ref (ad x0)), (3, .int (iI x3))] ey1 rfl (by decide) rfl dX11_count_134 (fun ls hl => ?_)
  obtain ⟨y2, ey2, hF⟩ := vv_ok hF
  have ry2 : r32 y2 := ey2 ▸ r32_w _
  refine q_iinc C hl 2 [(3, .int (iI y2)), (2, .int (iI y1)), (0, .ref (ad x0))] rfl ey2 (by decide) rfl dX11_count_135 (fun ls hl => ?_)
  refine q_goto C 111 dX11_count_138 (by decide) ?_
  cases hF
  exact K0 rfl _ _ _ ry1 ry2 S (lv_sub hl [2, 1, 0] rfl)
set_option maxRecDepth 20000 in
theorem wX11_count_111 {p : Program} {l : Launch} {e : Env} {s : State} {mt : MethodId} {args : Array Value} {below : List Frame} {meth : Method} {c : Code} {Q : State → Prop} {G : Gl} {A : Nat → Prop} {H0 : Heap} {ad : Int → Nat} {g : Shp} {H : Heap} {locs : List Loc} {ls : Array Slot} {m : Mem} {x0 x2 x3 : Int} (C : CallFix p mt c cX11_count 4 s args tb RX11) (S : Wd G A s H0 ad g m H locs) (hx0 : gk g x0 = 12) (hx2 : r32 x2) (hx3 : r32 x3) (hl : lv_has ls 4 [(0, .ref (ad x0)), (2, .int (iI x2)), (3, .int (iI x3))]) {c1 : Int} {s1 : (Int × Int × Mem)} (hF : bX11_count_111 g x0 x2 x3 m = some (c1, s1)) (K0 : c1 = 0 → ∀ (H : Heap) (locs : List Loc) (ls : Array Slot), r32 s1.1 → r32 s1.2.1 → Wd G A s H0 ad g s1.2.2 H locs → lv_has ls 4 [(0, .ref (ad x0)), (2, .int (iI s1.1)), (3, .int (iI s1.2.1))] → W p l e rX11_count s mt args below meth c H locs 0 0 Q (F0 mt 111 ls [])) (K1 : c1 = 1 → ∀ (H : Heap) (locs : List Loc) (ls : Array Slot), r32 s1.1 → Wd G A s H0 ad g s1.2.2 H locs → lv_has ls 4 [(2, .int (iI s1.1))] → W p l e rX11_count s mt args below meth c H locs 0 0 Q (F0 mt 141 ls [])) : W p l e rX11_count s mt args below meth c H locs 0 0 Q (F0 mt 111 ls []) := by
  unfold bX11_count_111 at hF
  refine q_iload_n C hl 2 rfl rfl dX11_count_111 ?_
  refine q_aload_n C hl 0 rfl rfl dX11_count_112 ?_
  refine q_geti C S 20 fo_RX11_107 (j := 20) rfl rfl hx0 dX11_count_113 ?_
  refine q_icmp_ge C hx3 (S.r _ _) 141 dX11_count_116 (by decide) (fun hc1 => ?_) (fun hc1 => ?_)
  · have hF := if_t hc1 hF
    cases hF
    exact K1 rfl _ _ _ hx2 S (lv_sub hl [1] rfl)
  · have hF := if_f hc1 hF
    refine q_iload_n C hl 1 rfl rfl dX11_count_119 ?_
    refine q_aload_n C hl 0 rfl rfl dX11_count_120 ?_
    refine q_iload_n C hl 2 rfl rfl dX11_count_121 ?_
    obtain ⟨v2, m3, h4, hF⟩ := bd2_ok hF
    refine q_ci S (run_V (As := [.int (iI x3)]) (rest := [.int (iI x2)]) C S (cX11_isCovered_ok l G hx0 hx3 h4 ad _) hx0 ⟨by decide, _, _, rfl⟩ gd_RX11_190 hdV_X11_isCovered rfl ⟨rfl, rfl, by decide, by decide⟩ ⟨Nat.zero_le _, Nat.zero_le _⟩ hl.1 rfl (Nat.le_of_ble_eq_true rfl) dX11_count_122) (fun H locs Sm3 h5 => ?_)
    refine q_if_eq C h5.1 132 dX11_count_125 (by decide) (fun hc6 => ?_) (fun hc6 => ?_)
    · have hF := if_t hc6 hF
      refine q_iconst C 0 dX11_count_132 ?_
      exact wX11_count_133 C Sm3 hx0 hx3 hx2 (rl 0 rfl) (lv_sub hl [0, 2] rfl) hF K0 K1
    · have hF := if_f hc6 hF
      refine q_iconst C 1 dX11_count_128 ?_
      refine q_goto C 133 dX11_count_129 (by decide) ?_
      exact wX11_count_133 C Sm3 hx0 hx3 hx2 (rl 1 rfl) (lv_sub hl [0, 2] rfl) hF K0 K1
set_option maxRecDepth 20000 in
theorem lX11_count_111 {p : Program} {l : Launch} {e : Env} {s : State} {mt : MethodId} {args : Array Value} {below : List Frame} {meth : Method} {c : Code} {Q : State → Prop} {G : Gl} {A : Nat → Prop} {H0 : Heap} {ad : Int → Nat} {g : Shp} {x0 : Int} (C : CallFix p mt c cX11_count 4 s args tb RX11) (hx0 : gk g x0 = 12) {n : Nat} {s0 s1 : (Int × Int × Mem)} {c1 : Int} (hI : iter (BX11_count_111 g x0) n s0 = some (c1, s1)) (K1 : c1 = 1 → ∀ (H : Heap) (locs : List Loc) (ls : Array Slot), r32 s1.1 → Wd G A s H0 ad g s1.2.2 H locs → lv_has ls 4 [(2, .int (iI s1.1))] → W p l e rX11_count s mt args below meth c H locs 0 0 Q (F0 mt 141 ls [])) : ∀ (H : Heap) (locs : List Loc) (ls : Array Slot), r32 s0.1 → r32 s0.2.1 → Wd G A s H0 ad g s0.2.2 H locs → lv_has ls 4 [(0, .ref (ad x0)), (2, .int (iI s0.1)), (3, .int (iI s0.2.1))] → W p l e rX11_count s mt args below meth c H locs 0 0 Q (F0 mt 111 ls []) :=
  iter_W (Pw := fun q => ∀ (H : Heap) (locs : List Loc) (ls : Array Slot), r32 q.1 → r32 q.2.1 → Wd G A s H0 ad g q.2.2 H locs → lv_has ls 4 [(0, .ref (ad x0)), (2, .int (iI q.1)), (3, .int (iI q.2.1))] → W p l e rX11_count s mt args below meth c H locs 0 0 Q (F0 mt 111 ls [])) (Px := fun c0 q => (c0 = 1 → ∀ (H : Heap) (locs : List Loc) (ls : Array Slot), r32 q.1 → Wd G A s H0 ad g q.2.2 H locs → lv_has ls 4 [(2, .int (iI q.1))] → W p l e rX11_count s mt args below meth c H locs 0 0 Q (F0 mt 141 ls [])))
    (fun s c s' hB K0 kx H locs ls f0 f1 S hl => wX11_count_111 C S hx0 f0 f1 hl hB K0 (fun h9 => (kx (by rw [h9]; decide)) h9)) _ _ _ _ hI K1
set_option maxRecDepth 20000 in
theorem wX11_count_141 {p : Program} {l : Launch} {e : Env} {s : State} {mt : MethodId} {args : Array Value} {below : List Frame} {meth : Method} {c : Code} {Q : State → Prop} {G : Gl} {A : Nat → Prop} {H0 : Heap} {ad : Int → Nat} {g : Shp} {H : Heap} {locs : List Loc} {ls : Array Slot} {m : Mem} {x2 : Int} (C : CallFix p mt c cX11_count 4 s args tb RX11) (S : Wd G A s H0 ad g m H locs) (hx2 : r32 x2) (hl : lv_has ls 4 [(2, .int (iI x2))]) {r : Int} {m' : Mem} (hF : bX11_count_141 g x2 m = some (r, m')) (Kr : ∀ (H : Heap) (locs : List Loc) (pc : Nat) (ls : Array Slot), Wd G A s H0 ad g m' H locs → decode cX11_count pc = .ok (.ireturn, 1) → r32 r ∧ (false = true → r = 0 ∨ r = 1) → narrow .int (.int (iI r)) = .int (iI r) → W p l e rX11_count s mt args below meth c H locs 0 0 Q (F0 mt pc ls [.int (iI r)])) : W p l e rX11_count s mt args below meth c H locs 0 0 Q (F0 mt 141 ls []) := by
  unfold bX11_count_141 at hF
  refine q_iload_n C hl 0 rfl rfl dX11_count_141 ?_
  cases hF
  exact Kr _ _ _ _ S dX11_count_142 ⟨hx2, fun h9 => absurd h9 (by decide)⟩ rfl
set_option maxRecDepth 20000 in
theorem wX11_count_0 {p : Program} {l : Launch} {e : Env} {s : State} {mt : MethodId} {args : Array Value} {below : List Frame} {meth : Method} {c : Code} {Q : State → Prop} {G : Gl} {A : Nat → Prop} {H0 : Heap} {ad : Int → Nat} {g : Shp} {H : Heap} {locs : List Loc} {ls : Array Slot} {m : Mem} {x0 x1 : Int} (C : CallFix p mt c cX11_count 4 s args tb RX11) (S : Wd G A s H0 ad g m H locs) (hx0 : gk g x0 = 12) (hx1 : r32 x1) (hl : lv_has ls 4 [(0, .ref (ad x0)), (1, .int (iI x1))]) {r : Int} {m' : Mem} (hF : bX11_count_0 g x0 x1 m = some (r, m')) (Kr : ∀ (H : Heap) (locs : List Loc) (pc : Nat) (ls : Array Slot), Wd G A s H0 ad g m' H locs → decode cX11_count pc = .ok (.ireturn, 1) → r32 r ∧ (false = true → r = 0 ∨ r = 1) → narrow .int (.int (iI r)) = .int (iI r) → W p l e rX11_count s mt args below meth c H locs 0 0 Q (F0 mt pc ls [.int (iI r)])) : W p l e rX11_count s mt args below meth c H locs 0 0 Q (F0 mt 0 ls []) := by
  unfold bX11_count_0 at hF
  refine q_iload_n C hl 1 rfl rfl dX11_count_0 ?_
  by_cases hc1 : x1 = 0
  · have hF := if_t hc1 hF
    refine q_tin C hx1 0 hc1 59 60 dX11_count_1 (by decide) rfl (by decide) ?_
    refine q_aload_n C hl 0 rfl rfl dX11_count_60 ?_
    refine q_geti C S 20 fo_RX11_107 (j := 20) rfl rfl hx0 dX11_count_61 ?_
    cases hF
    exact Kr _ _ _ _ S dX11_count_64 ⟨(S.r _ _), fun h9 => absurd h9 (by decide)⟩ rfl
  · have hF := if_f hc1 hF
    by_cases hc2 : x1 = 1
    · have hF := if_t hc2 hF
      refine q_tin C hx1 1 hc2 64 65 dX11_count_1 (by decide) rfl (by decide) ?_
      refine q_aload_n C hl 0 rfl rfl dX11_count_65 ?_
      obtain ⟨k3, hF⟩ := ck_ok hF
      refine q_getr C S 19 fo_RX11_40 (j := 19) rfl rfl hx0 k3 (by decide) dX11_count_66 ?_
      refine q_iload_n C hl 1 rfl rfl dX11_count_69 ?_
      refine q_iconst C 1 dX11_count_70 ?_
      refine q_isub C dX11_count_71 ?_
      obtain ⟨i4, hF⟩ := ck_ok hF
      refine q_iald C S k3 i4 dX11_count_72 ?_
      cases hF
      exact Kr _ _ _ _ S dX11_count_73 ⟨(S.r _ _), fun h9 => absurd h9 (by decide)⟩ rfl
    · have hF := if_f hc2 hF
      by_cases hc5 : x1 = 2
      · have hF := if_t hc5 hF
        refine q_tin C hx1 2 hc5 64 65 dX11_count_1 (by decide) rfl (by decide) ?_
        refine q_aload_n C hl 0 rfl rfl dX11_count_65 ?_
        obtain ⟨k6, hF⟩ := ck_ok hF
        refine q_getr C S 19 fo_RX11_40 (j := 19) rfl rfl hx0 k6 (by decide) dX11_count_66 ?_
        refine q_iload_n C hl 1 rfl rfl dX11_count_69 ?_
        refine q_iconst C 1 dX11_count_70 ?_
        refine q_isub C dX11_count_71 ?_
        obtain ⟨i7, hF⟩ := ck_ok hF
        refine q_iald C S k6 i7 dX11_count_72 ?_
        cases hF
        exact Kr _ _ _ _ S dX11_count_73 ⟨(S.r _ _), fun h9 => absurd h9 (by decide)⟩ rfl
      · have hF := if_f hc5 hF
        by_cases hc8 : x1 = 3
        · have hF := if_t hc8 hF
          refine q_tin C hx1 3 hc8 64 65 dX11_count_1 (by decide) rfl (by decide) ?_
          refine q_aload_n C hl 0 rfl rfl dX11_count_65 ?_
          obtain ⟨k9, hF⟩ := ck_ok hF
          refine q_getr C S 19 fo_RX11_40 (j := 19) rfl rfl hx0 k9 (by decide) dX11_count_66 ?_
          refine q_iload_n C hl 1 rfl rfl dX11_count_69 ?_
          refine q_iconst C 1 dX11_count_70 ?_
          refine q_isub C dX11_count_71 ?_
          obtain ⟨i10, hF⟩ := ck_ok hF
          refine q_iald C S k9 i10 dX11_count_72 ?_
          cases hF
          exact Kr _ _ _ _ S dX11_count_73 ⟨(S.r _ _), fun h9 => absurd h9 (by decide)⟩ rfl
        · have hF := if_f hc8 hF
          by_cases hc11 : x1 = 4
          · have hF := if_t hc11 hF
            refine q_tin C hx1 4 hc11 73 74 dX11_count_1 (by decide) rfl (by decide) ?_
            refine q_aload_n C hl 0 rfl rfl dX11_count_74 ?_
            obtain ⟨k12, hF⟩ := ck_ok hF
            refine q_getr C S 0 fo_RX11_7 (j := 0) rfl rfl hx0 k12 (by decide) dX11_count_75 ?_
            refine q_iconst C 0 dX11_count_78 ?_
            obtain ⟨i13, hF⟩ := ck_ok hF
            refine q_iald C S k12 i13 dX11_count_79 ?_
            cases hF
            exact Kr _ _ _ _ S dX11_count_80 ⟨(S.r _ _), fun h9 => absurd h9 (by decide)⟩ rfl
          · have hF := if_f hc11 hF
            by_cases hc14 : x1 = 5
            · have hF := if_t hc14 hF
              refine q_tin C hx1 5 hc14 80 81 dX11_count_1 (by decide) rfl (by decide) ?_
              refine q_aload_n C hl 0 rfl rfl dX11_count_81 ?_
              obtain ⟨k15, hF⟩ := ck_ok hF
              refine q_getr C S 0 fo_RX11_7 (j := 0) rfl rfl hx0 k15 (by decide) dX11_count_82 ?_
              refine q_bipush C 31 (by decide) dX11_count_85 ?_
              obtain ⟨i16, hF⟩ := ck_ok hF
              refine q_iald C S k15 i16 dX11_count_87 ?_
              cases hF
              exact Kr _ _ _ _ S dX11_count_88 ⟨(S.r _ _), fun h9 => absurd h9 (by decide)⟩ rfl
            · have hF := if_f hc14 hF
              by_cases hc17 : x1 = 6
              · have hF := if_t hc17 hF
                refine q_tin C hx1 6 hc17 88 89 dX11_count_1 (by decide) rfl (by decide) ?_
                refine q_aload_n C hl 0 rfl rfl dX11_count_89 ?_
                obtain ⟨k18, hF⟩ := ck_ok hF
                refine q_getr C S 0 fo_RX11_7 (j := 0) rfl rfl hx0 k18 (by decide) dX11_count_90 ?_
                refine q_bipush C 32 (by decide) dX11_count_93 ?_
                obtain ⟨i19, hF⟩ := ck_ok hF
                refine q_iald C S k18 i19 dX11_count_95 ?_
                cases hF
                exact Kr _ _ _ _ S dX11_count_96 ⟨(S.r _ _), fun h9 => absurd h9 (by decide)⟩ rfl
              · have hF := if_f hc17 hF
                by_cases hc20 : x1 = 7
                · have hF := if_t hc20 hF
                  refine q_tin C hx1 7 hc20 96 97 dX11_count_1 (by decide) rfl (by decide) ?_
                  refine q_aload_n C hl 0 rfl rfl dX11_count_97 ?_
                  refine q_geti C S 3 fo_RX11_163 (j := 3) rfl rfl hx0 dX11_count_98 ?_
                  cases hF
                  exact Kr _ _ _ _ S dX11_count_101 ⟨(S.r _ _), fun h9 => absurd h9 (by decide)⟩ rfl
                · have hF := if_f hc20 hF
                  by_cases hc21 : x1 = 8
                  · have hF := if_t hc21 hF
                    refine q_tin C hx1 8 hc21 101 102 dX11_count_1 (by decide) rfl (by decide) ?_
                    refine q_aload_n C hl 0 rfl rfl dX11_count_102 ?_
                    refine q_geti C S 5 fo_RX11_137 (j := 5) rfl rfl hx0 dX11_count_103 ?_
                    cases hF
                    exact Kr _ _ _ _ S dX11_count_106 ⟨(S.r _ _), fun h9 => absurd h9 (by decide)⟩ rfl
                  · have hF := if_f hc21 hF
                    by_cases hc22 : x1 = 9
                    · have hF := if_t hc22 hF
                      refine q_tin C hx1 9 hc22 106 107 dX11_count_1 (by decide) rfl (by decide) ?_
                      refine q_iconst C 0 dX11_count_107 ?_
                      refine q_istore_n C hl [(2, .int (iI 0)), (0, .ref (ad x0)), (1, .int (iI x1))] rfl rfl (by decide) rfl dX11_count_108 (fun ls hl => ?_)
                      refine q_iconst C 0 dX11_count_109 ?_
                      refine q_istore_n C hl [(3, .int (iI 0)), (2, .int (iI 0)), (0, .ref (ad x0)), (1, .int (iI x1))] rfl rfl (by decide) rfl dX11_count_110 (fun ls hl => ?_)
                      obtain ⟨cv23, sv24, hi25, hF⟩ := bdl_ok hF
                      refine lX11_count_111 C hx0 hi25 ?_ _ _ _ (rl 0 rfl) (rl 0 rfl) S (lv_sub hl [2, 1, 0] rfl)
                      intro _ H locs ls f27 S26 hl
                      exact wX11_count_141 C S26 f27 (lv_sub hl [0] rfl) hF Kr
                    · have hF := if_f hc22 hF
                      by_cases hc28 : x1 = 10
                      · have hF := if_t hc28 hF
                        refine q_tin C hx1 10 hc28 142 143 dX11_count_1 (by decide) rfl (by decide) ?_
                        refine q_aload_n C hl 0 rfl rfl dX11_count_143 ?_
                        obtain ⟨v29, m30, h31, hF⟩ := bd2_ok hF
                        refine q_ci S (run_V (As := []) (rest := []) C S (cX11_sharedCells_ok l G hx0 h31 ad _) hx0 ⟨by decide, _, _, rfl⟩ gd_RX11_246 hdV_X11_sharedCells rfl ⟨rfl, rfl, by decide, by decide⟩ ⟨Nat.zero_le _, Nat.zero_le _⟩ hl.1 rfl (Nat.le_of_ble_eq_true rfl) dX11_count_144) (fun H locs Sm30 h32 => ?_)
                        cases hF
                        exact Kr _ _ _ _ Sm30 dX11_count_147 ⟨h32.1, fun h9 => absurd h9 (by decide)⟩ rfl
                      · have hF := if_f hc28 hF
                        refine q_tout C hx1 148 dX11_count_1 (by omega) (by decide) ?_
                        refine q_iconst C (-1) dX11_count_148 ?_
                        cases hF
                        exact Kr _ _ _ _ S dX11_count_149 ⟨(rl (-1) rfl), fun h9 => absurd h9 (by decide)⟩ rfl
theorem cX11_count_ok (l : Launch) (G : Gl) {g : Shp} {x0 x1 : Int} {m m' : Mem} {r : Int} (hx0 : gk g x0 = 12) (hx1 : r32 x1) (hF : fX11_count g x0 x1 m = some (r, m')) : mI l yX11_count (wT yX11_count cX11_count 4 (some .int)) rX11_count G false (fun ad => [.ref (ad x0), .int (iI x1)]) g m r m' :=
  met_i (by decide) (fun ad => Nat.le_of_ble_eq_true rfl) (fun p e s mt args below meth c Q A H0 H locs ad ls C hnm S hl Kr => wX11_count_0 C S hx0 hx1 hl hF Kr)
