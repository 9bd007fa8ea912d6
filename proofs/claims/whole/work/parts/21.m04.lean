def ebX11_cutsByTurns_86 (g : Shp) (x1 x2 x3 : Int) (m : Mem) : Option (Int × (Int × Int × Mem)) :=
  vv (w32 (x3 + 1)) fun y1 =>
  some (0, (x2, y1, m))
def ebX11_cutsByTurns_17 (g : Shp) (x1 x2 x3 : Int) (m : Mem) : Option (Int × (Int × Int × Mem)) :=
  if x1 ≤ x3 then
    some (1, (x2, x3, m))
  else
    if 1000000 ≤ x2 then
      some (1, (x2, x3, m))
    else
      ck ((0 : Int) ≤ x3 ∧ x3 < 3) <|
      ck ((0 : Int) ≤ x3 ∧ x3 < 3) <|
      ck ((0 : Int) ≤ (m 267 x3) ∧ (m 267 x3) < 3) <|
      bd2 (eX11_findWay g (m 267 x3) (m 266 (m 267 x3)) m) fun v9 m10 =>
      if v9 = 0 then
        ebX11_cutsByTurns_86 g x1 1000000 x3 m10
      else
        ck ((0 : Int) ≤ x3 ∧ x3 < 3) <|
        ck ((0 : Int) ≤ x3 ∧ x3 < 3) <|
        ck ((0 : Int) ≤ (m10 267 x3) ∧ (m10 267 x3) < 3) <|
        bd2 (eX11_coverBy g (m10 267 x3) (m10 266 (m10 267 x3)) m10) fun v19 m20 =>
        vv (w32 (x2 + (m20 241 36))) fun y22 =>
        ebX11_cutsByTurns_86 g x1 y22 x3 m20
def eBX11_cutsByTurns_17 (g : Shp) (x1 : Int) (q : (Int × Int × Mem)) : Option (Int × (Int × Int × Mem)) := ebX11_cutsByTurns_17 g x1 q.1 q.2.1 q.2.2
def ebX11_cutsByTurns_92 (g : Shp) (x2 : Int) (m : Mem) : Option (Int × Mem) :=
  bd2 (eX11_bring g 243 0 242 0 m) fun v3 m4 =>
  some (x2, m4)
def ebX11_cutsByTurns_0 (g : Shp) (x1 : Int) (m : Mem) : Option (Int × Mem) :=
  bd2 (eX11_bring g 242 0 243 0 m) fun v3 m4 =>
  bdl (iter (eBX11_cutsByTurns_17 g x1) 100000 (0, 0, m4)) fun cv6 sv7 =>
  ebX11_cutsByTurns_92 g sv7.1 sv7.2.2
def eX11_cutsByTurns (g : Shp) (x1 : Int) (m : Mem) : Option (Int × Mem) := ebX11_cutsByTurns_0 g x1 m
def ebX11_layTurns_0 (g : Shp) (x1 : Int) (m : Mem) : Option (Int × Mem) :=
  ck ((0 : Int) ≤ 0 ∧ 0 < (3 : Int)) <|
  vm (ms m 267 0 (jdiv x1 9)) fun m3 =>
  ck ((0 : Int) ≤ 1 ∧ 1 < (3 : Int)) <|
  vm (ms m3 267 1 (jrem (jdiv x1 3) 3)) fun m6 =>
  ck ((0 : Int) ≤ 2 ∧ 2 < (3 : Int)) <|
  vm (ms m6 267 2 (jrem x1 3)) fun m9 =>
  some (0, m9)
def eX11_layTurns (g : Shp) (x1 : Int) (m : Mem) : Option (Int × Mem) := ebX11_layTurns_0 g x1 m
def ebX11_order_85 (g : Shp) (x4 x6 z0 z1 : Int) (m : Mem) : Option (Int × (Int × Int × Mem)) :=
  vv (w32 (z0 + z1)) fun y1 =>
  vv (w32 (x6 + 1)) fun y2 =>
  some (0, (y1, y2, m))
def ebX11_order_60 (g : Shp) (x4 x5 x6 : Int) (m : Mem) : Option (Int × (Int × Int × Mem)) :=
  if (m 241 20) ≤ x6 then
    some (1, (x5, x6, m))
  else
    bd2 (eX11_isCovered g x6 m) fun v2 m3 =>
    if v2 = 0 then
      ebX11_order_85 g x4 x6 x5 1 m3
    else
      ebX11_order_85 g x4 x6 x5 0 m3
def eBX11_order_60 (g : Shp) (x4 : Int) (q : (Int × Int × Mem)) : Option (Int × (Int × Int × Mem)) := ebX11_order_60 g x4 q.1 q.2.1 q.2.2
def ebX11_order_167 (g : Shp) (x4 x5 x6 x7 x8 : Int) (m : Mem) : Option (Int × (Int × Int × Int × Mem)) :=
  vv (w32 (x8 + 1)) fun y1 =>
  some (0, (x6, x7, y1, m))
def ebX11_order_165 (g : Shp) (x4 x5 x7 x8 z0 : Int) (m : Mem) : Option (Int × (Int × Int × Int × Mem)) :=
  ebX11_order_167 g x4 x5 z0 x7 x8 m
def ebX11_order_149 (g : Shp) (x4 x5 x6 x8 x9 z0 : Int) (m : Mem) : Option (Int × (Int × Int × Int × Mem)) :=
  if x6 ≤ x9 then
    ebX11_order_165 g x4 x5 z0 x8 x6 m
  else
    ebX11_order_165 g x4 x5 z0 x8 x9 m
def ebX11_order_105 (g : Shp) (x4 x5 x6 x7 x8 : Int) (m : Mem) : Option (Int × (Int × Int × Int × Mem)) :=
  if 27 ≤ x8 then
    some (1, (x6, x7, x8, m))
  else
    bd2 (eX11_layTurns g x8 m) fun v2 m3 =>
    bd2 (eX11_isTurns g x5 m3) fun v5 m6 =>
    if v5 = 0 then
      ebX11_order_167 g x4 x5 x6 x7 x8 m6
    else
      bd2 (eX11_cutsByTurns g x5 m6) fun v9 m10 =>
      if x6 ≤ v9 then
        ebX11_order_149 g x4 x5 x6 x8 v9 x7 m10
      else
        ebX11_order_149 g x4 x5 x6 x8 v9 x8 m10
def eBX11_order_105 (g : Shp) (x4 x5 : Int) (q : (Int × Int × Int × Mem)) : Option (Int × (Int × Int × Int × Mem)) := ebX11_order_105 g x4 x5 q.1 q.2.1 q.2.2.1 q.2.2.2
def ebX11_order_31 (g : Shp) (m : Mem) : Option (Int × Mem) :=
  some ((-1), m)
def ebX11_order_187 (g : Shp) (m : Mem) : Option (Int × Mem) :=
  some ((-4), m)
def ebX11_order_214 (g : Shp) (z0 : Int) (m : Mem) : Option (Int × Mem) :=
  some (z0, m)
def ebX11_order_173 (g : Shp) (x4 x5 x6 x7 : Int) (m : Mem) : Option (Int × Mem) :=
  if x7 = ((-4)) then
    ebX11_order_187 g m
  else
    if x4 < x5 then
      bd2 (eX11_layTurns g x7 m) fun v3 m4 =>
      if x4 = ((-1)) then
        ebX11_order_214 g x6 m4
      else
        ck ((0 : Int) ≤ x4 ∧ x4 < 3) <|
        ebX11_order_214 g (m4 267 x4) m4
    else
      ebX11_order_187 g m
def ebX11_order_94 (g : Shp) (x4 x5 : Int) (m : Mem) : Option (Int × Mem) :=
  bdl (iter (eBX11_order_105 g x4 x5) 100000 (1000000, (-4), 0, m)) fun cv1 sv2 =>
  ebX11_order_173 g x4 x5 sv2.1 sv2.2.1 sv2.2.2.2
def ebX11_order_0 (g : Shp) (x1 x2 x3 x4 : Int) (m : Mem) : Option (Int × Mem) :=
  bd2 (eX11_isColour g x1 m) fun v1 m2 =>
  if v1 = 0 then
    ebX11_order_31 g m2
  else
    bd2 (eX11_isColour g x2 m2) fun v5 m6 =>
    if v5 = 0 then
      ebX11_order_31 g m6
    else
      bd2 (eX11_isColour g x3 m6) fun v9 m10 =>
      if v9 = 0 then
        ebX11_order_31 g m10
      else
        bd2 (eX11_in g x4 ((-1)) 2 m10) fun v13 m14 =>
        if v13 = 0 then
          ebX11_order_31 g m14
        else
          ck ((0 : Int) ≤ 0 ∧ 0 < (3 : Int)) <|
          vm (ms m14 266 0 x1) fun m19 =>
          ck ((0 : Int) ≤ 1 ∧ 1 < (3 : Int)) <|
          vm (ms m19 266 1 x2) fun m22 =>
          ck ((0 : Int) ≤ 2 ∧ 2 < (3 : Int)) <|
          vm (ms m22 266 2 x3) fun m25 =>
          bdl (iter (eBX11_order_60 g x4) 100000 (0, 0, m25)) fun cv26 sv27 =>
          ebX11_order_94 g x4 sv27.1 sv27.2.2
def eX11_order (g : Shp) (x1 x2 x3 x4 : Int) (m : Mem) : Option (Int × Mem) := ebX11_order_0 g x1 x2 x3 x4 m
def ebX11_bag_32 (g : Shp) (z0 : Int) (m : Mem) : Option (Int × Mem) :=
  some (z0, m)
def ebX11_bag_31 (g : Shp) (m : Mem) : Option (Int × Mem) :=
  ebX11_bag_32 g ((-1)) m
def ebX11_bag_0 (g : Shp) (x1 x2 : Int) (m : Mem) : Option (Int × Mem) :=
  bd2 (eX11_isColour g x1 m) fun v1 m2 =>
  if v1 = 0 then
    ebX11_bag_31 g m2
  else
    bd2 (eX11_in g x2 0 2 m2) fun v5 m6 =>
    if v5 = 0 then
      ebX11_bag_31 g m6
    else
      ck ((0 : Int) ≤ (w32 ((w32 (1 + (w32 (3 * x1)))) + x2)) ∧ (w32 ((w32 (1 + (w32 (3 * x1)))) + x2)) < 433) <|
      ebX11_bag_32 g (m6 242 (w32 ((w32 (1 + (w32 (3 * x1)))) + x2))) m6
def eX11_bag (g : Shp) (x1 x2 : Int) (m : Mem) : Option (Int × Mem) := ebX11_bag_0 g x1 x2 m
def ebX11_fill_57 (g : Shp) (x2 x3 x4 : Int) (m : Mem) : Option (Int × (Int × Mem)) :=
  if 3 ≤ x4 then
    some (1, (x4, m))
  else
    ck ((0 : Int) ≤ (w32 (x2 + x4)) ∧ (w32 (x2 + x4)) < 433) <|
    vm (ms m 242 (w32 (x2 + x4)) 6) fun m4 =>
    vv (w32 (x4 + 1)) fun y5 =>
    some (0, (y5, m4))
def eBX11_fill_57 (g : Shp) (x2 x3 : Int) (q : (Int × Mem)) : Option (Int × (Int × Mem)) := ebX11_fill_57 g x2 x3 q.1 q.2
def ebX11_fill_80 (g : Shp) (x3 : Int) (m : Mem) : Option (Int × Mem) :=
  some (x3, m)
def ebX11_fill_0 (g : Shp) (x1 : Int) (m : Mem) : Option (Int × Mem) :=
  bd2 (eX11_isColour g x1 m) fun v1 m2 =>
  if v1 = 0 then
    some ((-1), m2)
  else
    vv (w32 (1 + (w32 (3 * x1)))) fun y5 =>
    ck ((0 : Int) ≤ y5 ∧ y5 < 433) <|
    ck ((0 : Int) ≤ (w32 (y5 + 1)) ∧ (w32 (y5 + 1)) < 433) <|
    ck ((0 : Int) ≤ (w32 (y5 + 2)) ∧ (w32 (y5 + 2)) < 433) <|
    vv (w32 ((w32 ((w32 (18 - (m2 242 y5))) - (m2 242 (w32 (y5 + 1))))) - (m2 242 (w32 (y5 + 2))))) fun y12 =>
    if y12 = 0 then
      some ((-2), m2)
    else
      bd2 (eX11_note g m2) fun v14 m15 =>
      bdl (iter (eBX11_fill_57 g y5 y12) 100000 (0, m15)) fun cv17 sv18 =>
      ebX11_fill_80 g y12 sv18.2
def eX11_fill (g : Shp) (x1 : Int) (m : Mem) : Option (Int × Mem) := ebX11_fill_0 g x1 m
def ebX11_isOn_41 (g : Shp) (x1 x2 x4 z0 : Int) (m : Mem) : Option (Int × (Int × Int × Mem)) :=
  vv (w32 (x4 + 1)) fun y1 =>
  some (0, (z0, y1, m))
def ebX11_isOn_36 (g : Shp) (x1 x2 x4 : Int) (m : Mem) : Option (Int × (Int × Int × Mem)) :=
  ebX11_isOn_41 g x1 x2 x4 1 m
def ebX11_isOn_5 (g : Shp) (x1 x2 x3 x4 : Int) (m : Mem) : Option (Int × (Int × Int × Mem)) :=
  ck ((0 : Int) ≤ x1 ∧ x1 < 3) <|
  if (m 255 x1) ≤ x4 then
    some (1, (x3, x4, m))
  else
    if x3 = 0 then
      ck ((0 : Int) ≤ (w32 ((w32 (60 * x1)) + x4)) ∧ (w32 ((w32 (60 * x1)) + x4)) < 180) <|
      if (m 256 (w32 ((w32 (60 * x1)) + x4))) = x2 then
        ebX11_isOn_36 g x1 x2 x4 m
      else
        ebX11_isOn_41 g x1 x2 x4 0 m
    else
      ebX11_isOn_36 g x1 x2 x4 m
def eBX11_isOn_5 (g : Shp) (x1 x2 : Int) (q : (Int × Int × Mem)) : Option (Int × (Int × Int × Mem)) := ebX11_isOn_5 g x1 x2 q.1 q.2.1 q.2.2
def ebX11_isOn_48 (g : Shp) (x3 : Int) (m : Mem) : Option (Int × Mem) :=
  ck (x3 = 0 ∨ x3 = 1) <|
  some (x3, m)
def ebX11_isOn_0 (g : Shp) (x1 x2 : Int) (m : Mem) : Option (Int × Mem) :=
  bdl (iter (eBX11_isOn_5 g x1 x2) 100000 (0, 0, m)) fun cv1 sv2 =>
  ebX11_isOn_48 g sv2.1 sv2.2.2
def eX11_isOn (g : Shp) (x1 x2 : Int) (m : Mem) : Option (Int × Mem) := ebX11_isOn_0 g x1 x2 m
def ebX11_drawn_111 (g : Shp) (x2 x5 z0 : Int) (m : Mem) : Option (Int × (Int × Int × Mem)) :=
  vv (w32 (x5 + 1)) fun y1 =>
  some (0, (z0, y1, m))
def ebX11_drawn_106 (g : Shp) (x2 x5 : Int) (m : Mem) : Option (Int × (Int × Int × Mem)) :=
  ebX11_drawn_111 g x2 x5 1 m
def ebX11_drawn_110 (g : Shp) (x2 x5 : Int) (m : Mem) : Option (Int × (Int × Int × Mem)) :=
  ebX11_drawn_111 g x2 x5 0 m
def ebX11_drawn_73 (g : Shp) (x2 x4 x5 : Int) (m : Mem) : Option (Int × (Int × Int × Mem)) :=
  if (m 241 20) ≤ x5 then
    some (1, (x4, x5, m))
  else
    if x4 = 0 then
      bd2 (eX11_isCovered g x5 m) fun v3 m4 =>
      if v3 = 0 then
        bd2 (eX11_isOn g x5 x2 m4) fun v7 m8 =>
        if v7 = 0 then
          ebX11_drawn_110 g x2 x5 m8
        else
          ebX11_drawn_106 g x2 x5 m8
      else
        ebX11_drawn_110 g x2 x5 m4
    else
      ebX11_drawn_106 g x2 x5 m
def eBX11_drawn_73 (g : Shp) (x2 : Int) (q : (Int × Int × Mem)) : Option (Int × (Int × Int × Mem)) := ebX11_drawn_73 g x2 q.1 q.2.1 q.2.2
def ebX11_drawn_131 (g : Shp) (z0 : Int) (m : Mem) : Option (Int × Mem) :=
  some (z0, m)
def ebX11_drawn_119 (g : Shp) (x4 : Int) (m : Mem) : Option (Int × Mem) :=
  if x4 = 0 then
    ebX11_drawn_131 g 46 m
  else
    ebX11_drawn_131 g 43 m
def ebX11_drawn_0 (g : Shp) (x1 : Int) (m : Mem) : Option (Int × Mem) :=
  bd2 (eX11_in g x1 0 419 m) fun v1 m2 =>
  if v1 = 0 then
    some ((-1), m2)
  else
    if (jrem x1 21) = 20 then
      some (47, m2)
    else
      vv (w32 ((w32 (20 * (jdiv x1 21))) + (jrem x1 21))) fun y6 =>
      ck ((0 : Int) ≤ (w32 (33 + y6)) ∧ (w32 (33 + y6)) < 433) <|
      vv (m2 242 (w32 (33 + y6))) fun y9 =>
      if y9 = ((-4)) then
        bdl (iter (eBX11_drawn_73 g y6) 100000 (0, 0, m2)) fun cv11 sv12 =>
        ebX11_drawn_119 g sv12.1 sv12.2.2
      else
        ck ((0 : Int) ≤ (w32 (10 + y9)) ∧ (w32 (10 + y9)) < 433) <|
        some (w32 (97 + (m2 242 (w32 (10 + y9)))), m2)
def eX11_drawn (g : Shp) (x1 : Int) (m : Mem) : Option (Int × Mem) := ebX11_drawn_0 g x1 m
def ebX11_sharedCells_41 (g : Shp) (x1 x2 x4 z0 z1 : Int) (m : Mem) : Option (Int × (Int × Int × Mem)) :=
  vv (w32 (z0 + z1)) fun y1 =>
  vv (w32 (x4 + 1)) fun y2 =>
  some (0, (y1, y2, m))
def ebX11_sharedCells_16 (g : Shp) (x1 x2 x3 x4 : Int) (m : Mem) : Option (Int × (Int × Int × Mem)) :=
  if (m 241 20) ≤ x4 then
    some (1, (x3, x4, m))
  else
    bd2 (eX11_isOn g x4 x2 m) fun v2 m3 =>
    if v2 = 0 then
      ebX11_sharedCells_41 g x1 x2 x4 x3 0 m3
    else
      ebX11_sharedCells_41 g x1 x2 x4 x3 1 m3
def eBX11_sharedCells_16 (g : Shp) (x1 x2 : Int) (q : (Int × Int × Mem)) : Option (Int × (Int × Int × Mem)) := ebX11_sharedCells_16 g x1 x2 q.1 q.2.1 q.2.2
def ebX11_sharedCells_60 (g : Shp) (x2 z0 z1 : Int) (m : Mem) : Option (Int × (Int × Int × Mem)) :=
  vv (w32 (z0 + z1)) fun y1 =>
  vv (w32 (x2 + 1)) fun y2 =>
  some (0, (y1, y2, m))
def ebX11_sharedCells_49 (g : Shp) (x1 x2 x3 : Int) (m : Mem) : Option (Int × (Int × Int × Mem)) :=
  if x3 ≤ 1 then
    ebX11_sharedCells_60 g x2 x1 0 m
  else
    ebX11_sharedCells_60 g x2 x1 1 m
def ebX11_sharedCells_4 (g : Shp) (x1 x2 : Int) (m : Mem) : Option (Int × (Int × Int × Mem)) :=
  if 400 ≤ x2 then
    some (1, (x1, x2, m))
  else
    bdl (iter (eBX11_sharedCells_16 g x1 x2) 100000 (0, 0, m)) fun cv2 sv3 =>
    ebX11_sharedCells_49 g x1 x2 sv3.1 sv3.2.2
def eBX11_sharedCells_4 (g : Shp) (q : (Int × Int × Mem)) : Option (Int × (Int × Int × Mem)) := ebX11_sharedCells_4 g q.1 q.2.1 q.2.2
def ebX11_sharedCells_68 (g : Shp) (x1 : Int) (m : Mem) : Option (Int × Mem) :=
  some (x1, m)
def ebX11_sharedCells_0 (g : Shp) (m : Mem) : Option (Int × Mem) :=
  bdl (iter (eBX11_sharedCells_4 g) 100000 (0, 0, m)) fun cv1 sv2 =>
  ebX11_sharedCells_68 g sv2.1 sv2.2.2
def eX11_sharedCells (g : Shp) (m : Mem) : Option (Int × Mem) := ebX11_sharedCells_0 g m
def ebX11_count_133 (g : Shp) (x3 z0 z1 : Int) (m : Mem) : Option (Int × (Int × Int × Mem)) :=
  vv (w32 (z0 + z1)) fun y1 =>
  vv (w32 (x3 + 1)) fun y2 =>
  some (0, (y1, y2, m))
def ebX11_count_111 (g : Shp) (x2 x3 : Int) (m : Mem) : Option (Int × (Int × Int × Mem)) :=
  if (m 241 20) ≤ x3 then
    some (1, (x2, x3, m))
  else
    bd2 (eX11_isCovered g x3 m) fun v2 m3 =>
    if v2 = 0 then
      ebX11_count_133 g x3 x2 0 m3
    else
      ebX11_count_133 g x3 x2 1 m3
def eBX11_count_111 (g : Shp) (q : (Int × Int × Mem)) : Option (Int × (Int × Int × Mem)) := ebX11_count_111 g q.1 q.2.1 q.2.2
def ebX11_count_141 (g : Shp) (x2 : Int) (m : Mem) : Option (Int × Mem) :=
  some (x2, m)
def ebX11_count_0 (g : Shp) (x1 : Int) (m : Mem) : Option (Int × Mem) :=
  if x1 = 0 then
    some (m 241 20, m)
  else
    if x1 = 1 then
      ck ((0 : Int) ≤ (w32 (x1 - 1)) ∧ (w32 (x1 - 1)) < 3) <|
      some (m 252 (w32 (x1 - 1)), m)
    else
      if x1 = 2 then
        ck ((0 : Int) ≤ (w32 (x1 - 1)) ∧ (w32 (x1 - 1)) < 3) <|
        some (m 252 (w32 (x1 - 1)), m)
      else
        if x1 = 3 then
          ck ((0 : Int) ≤ (w32 (x1 - 1)) ∧ (w32 (x1 - 1)) < 3) <|
          some (m 252 (w32 (x1 - 1)), m)
        else
          if x1 = 4 then
            ck ((0 : Int) ≤ 0 ∧ 0 < (433 : Int)) <|
            some (m 242 0, m)
          else
            if x1 = 5 then
              ck ((0 : Int) ≤ 31 ∧ 31 < (433 : Int)) <|
              some (m 242 31, m)
            else
              if x1 = 6 then
                ck ((0 : Int) ≤ 32 ∧ 32 < (433 : Int)) <|
                some (m 242 32, m)
              else
                if x1 = 7 then
                  some (m 241 3, m)
                else
                  if x1 = 8 then
                    some (m 241 5, m)
                  else
                    if x1 = 9 then
                      bdl (iter (eBX11_count_111 g) 100000 (0, 0, m)) fun cv23 sv24 =>
                      ebX11_count_141 g sv24.1 sv24.2.2
                    else
                      if x1 = 10 then
                        bd2 (eX11_sharedCells g m) fun v28 m29 =>
                        some (v28, m29)
                      else
                        some ((-1), m)
def eX11_count (g : Shp) (x1 : Int) (m : Mem) : Option (Int × Mem) := ebX11_count_0 g x1 m
set_option maxRecDepth 20000 in
theorem qX11_cutsByTurns_86 {g : Shp} {m : Mem} {x1 x2 x3 : Int} (h : Sh g m)  : bX11_cutsByTurns_86 g 241 x1 x2 x3 m = ebX11_cutsByTurns_86 g x1 x2 x3 m := by
  unfold bX11_cutsByTurns_86 ebX11_cutsByTurns_86
  refine vv_c (fun y1 ey1 => ?_)
  rfl
theorem nX11_cutsByTurns_86 {g : Shp} {m : Mem} {x1 x2 x3 : Int} (h : Sh g m)  {c1 : Int} {s1 : (Int × Int × Mem)} (hF : ebX11_cutsByTurns_86 g x1 x2 x3 m = some (c1, s1)) : Sh g s1.2.2 := by
  unfold ebX11_cutsByTurns_86 at hF
  obtain ⟨y1, ey1, hF⟩ := vv_ok hF
  cases hF
  exact h
set_option maxRecDepth 20000 in
theorem qX11_cutsByTurns_17 {g : Shp} {m : Mem} {x1 x2 x3 : Int} (h : Sh g m)  : bX11_cutsByTurns_17 g 241 x1 x2 x3 m = ebX11_cutsByTurns_17 g x1 x2 x3 m := by
  unfold bX11_cutsByTurns_17 ebX11_cutsByTurns_17
  refine if_c (fun hc1 => ?_) (fun hc1 => ?_)
  · rfl
  · refine if_c (fun hc2 => ?_) (fun hc2 => ?_)
    · rfl
    · have k3 := s_241_38 h
      rewrite [k3.1, ck_t k3.2.1]
      try rewrite [k3.2.2]
      refine ck_c (fun i4 => ?_)
      have k5 := s_241_37 h
      rewrite [k5.1, ck_t k5.2.1]
      have k6 := s_241_38 h
      try rewrite [k6.2.2]
      refine ck_c (fun i7 => ?_)
      try rewrite [k5.2.2]
      refine ck_c (fun i8 => ?_)
      refine bd2_q (qX11_findWay h ) (fun v9 m10 h11 => ?_)
      have hm10 := nX11_findWay h  ((qX11_findWay h ).symm.trans h11)
      refine if_c (fun hc12 => ?_) (fun hc12 => ?_)
      · exact qX11_cutsByTurns_86 hm10
      · have k13 := s_241_38 hm10
        rewrite [k13.1, ck_t k13.2.1]
        try rewrite [k13.2.2]
        refine ck_c (fun i14 => ?_)
        have k15 := s_241_37 hm10
        rewrite [k15.1, ck_t k15.2.1]
        have k16 := s_241_38 hm10
        try rewrite [k16.2.2]
        refine ck_c (fun i17 => ?_)
        try rewrite [k15.2.2]
        refine ck_c (fun i18 => ?_)
        refine bd2_q (qX11_coverBy hm10 ) (fun v19 m20 h21 => ?_)
        have hm20 := nX11_coverBy hm10  ((qX11_coverBy hm10 ).symm.trans h21)
        refine vv_c (fun y22 ey22 => ?_)
        exact qX11_cutsByTurns_86 hm20 
theorem nX11_cutsByTurns_17 {g : Shp} {m : Mem} {x1 x2 x3 : Int} (h : Sh g m)  {c1 : Int} {s1 : (Int × Int × Mem)} (hF : ebX11_cutsByTurns_17 g x1 x2 x3 m = some (c1, s1)) : Sh g s1.2.2 := by
  unfold ebX11_cutsByTurns_17 at hF
  rcases if_ok hF with ⟨hc1, hF⟩ | ⟨hc1, hF⟩
  · cases hF
    exact h
  · rcases if_ok hF with ⟨hc2, hF⟩ | ⟨hc2, hF⟩
    · cases hF
      exact h
    · have k3 := s_241_38 h
      obtain ⟨i4, hF⟩ := ck_ok hF
      have k5 := s_241_37 h
      have k6 := s_241_38 h
      obtain ⟨i7, hF⟩ := ck_ok hF
      obtain ⟨i8, hF⟩ := ck_ok hF
      obtain ⟨v9, m10, h11, hF⟩ := bd2_ok hF
      have hm10 := nX11_findWay h  h11
      rcases if_ok hF with ⟨hc12, hF⟩ | ⟨hc12, hF⟩
      · exact nX11_cutsByTurns_86 hm10  hF
      · have k13 := s_241_38 hm10
        obtain ⟨i14, hF⟩ := ck_ok hF
        have k15 := s_241_37 hm10
        have k16 := s_241_38 hm10
        obtain ⟨i17, hF⟩ := ck_ok hF
        obtain ⟨i18, hF⟩ := ck_ok hF
        obtain ⟨v19, m20, h21, hF⟩ := bd2_ok hF
        have hm20 := nX11_coverBy hm10  h21
        obtain ⟨y22, ey22, hF⟩ := vv_ok hF
        exact nX11_cutsByTurns_86 hm20  hF
theorem nlX11_cutsByTurns_17 {g : Shp} {x1 : Int}  {n : Nat} {s0 s1 : (Int × Int × Mem)} {c1 : Int} (h : Sh g s0.2.2) (hI : iter (eBX11_cutsByTurns_17 g x1) n s0 = some (c1, s1)) : Sh g s1.2.2 :=
  iter_inv (B := eBX11_cutsByTurns_17 g x1) (fun q => Sh g q.2.2) (fun s c s' hs hB => nX11_cutsByTurns_17 hs  hB) n s0 c1 s1 h hI
theorem qlX11_cutsByTurns_17 {g : Shp} {x1 : Int}  {n : Nat} {s0 : (Int × Int × Mem)} (h : Sh g s0.2.2) : iter (BX11_cutsByTurns_17 g 241 x1) n s0 = iter (eBX11_cutsByTurns_17 g x1) n s0 :=
  iter_eq (B := BX11_cutsByTurns_17 g 241 x1) (E := eBX11_cutsByTurns_17 g x1) (fun q => Sh g q.2.2) (fun s hs => qX11_cutsByTurns_17 hs ) (fun s c s' hs hB => nX11_cutsByTurns_17 hs  ((qX11_cutsByTurns_17 hs ).symm.trans hB)) n s0 h
set_option maxRecDepth 20000 in
theorem qX11_cutsByTurns_92 {g : Shp} {m : Mem} {x2 : Int} (h : Sh g m)  : bX11_cutsByTurns_92 g 241 x2 m = ebX11_cutsByTurns_92 g x2 m := by
  unfold bX11_cutsByTurns_92 ebX11_cutsByTurns_92
  have k1 := s_241_1 h
  rewrite [k1.1, ck_t k1.2.1]
  have k2 := s_241_0 h
  rewrite [k2.1, ck_t k2.2.1]
  refine bd2_q (qX11_bring h k1.2.1 k2.2.1) (fun v3 m4 h5 => ?_)
  have hm4 := nX11_bring h k1.2.1 k2.2.1 ((qX11_bring h k1.2.1 k2.2.1).symm.trans h5)
  rfl
theorem nX11_cutsByTurns_92 {g : Shp} {m : Mem} {x2 : Int} (h : Sh g m)  {r : Int} {m' : Mem} (hF : ebX11_cutsByTurns_92 g x2 m = some (r, m')) : Sh g m' := by
  unfold ebX11_cutsByTurns_92 at hF
  have k1 := s_241_1 h
  have k2 := s_241_0 h
  obtain ⟨v3, m4, h5, hF⟩ := bd2_ok hF
  have hm4 := nX11_bring h k1.2.1 k2.2.1 h5
  cases hF
  exact hm4
set_option maxRecDepth 20000 in
theorem qX11_cutsByTurns_0 {g : Shp} {m : Mem} {x1 : Int} (h : Sh g m)  : bX11_cutsByTurns_0 g 241 x1 m = ebX11_cutsByTurns_0 g x1 m := by
  unfold bX11_cutsByTurns_0 ebX11_cutsByTurns_0
  have k1 := s_241_0 h
  rewrite [k1.1, ck_t k1.2.1]
  have k2 := s_241_1 h
  rewrite [k2.1, ck_t k2.2.1]
  refine bd2_q (qX11_bring h k1.2.1 k2.2.1) (fun v3 m4 h5 => ?_)
  have hm4 := nX11_bring h k1.2.1 k2.2.1 ((qX11_bring h k1.2.1 k2.2.1).symm.trans h5)
  refine bdl_q (qlX11_cutsByTurns_17  (n := 100000) (s0 := (0, 0, m4)) hm4) (fun cv6 sv7 hi8 => ?_)
  have h9 := nlX11_cutsByTurns_17  (s0 := (0, 0, m4)) hm4 ((qlX11_cutsByTurns_17  (n := 100000) (s0 := (0, 0, m4)) hm4).symm.trans hi8)
  exact qX11_cutsByTurns_92 h9 
theorem nX11_cutsByTurns_0 {g : Shp} {m : Mem} {x1 : Int} (h : Sh g m)  {r : Int} {m' : Mem} (hF : ebX11_cutsByTurns_0 g x1 m = some (r, m')) : Sh g m' := by
  unfold ebX11_cutsByTurns_0 at hF
  have k1 := s_241_0 h
  have k2 := s_241_1 h
  obtain ⟨v3, m4, h5, hF⟩ := bd2_ok hF
  have hm4 := nX11_bring h k1.2.1 k2.2.1 h5
  obtain ⟨cv6, sv7, hi8, hF⟩ := bdl_ok hF
  have h9 := nlX11_cutsByTurns_17  (s0 := (0, 0, m4)) hm4 hi8
  exact nX11_cutsByTurns_92 h9  hF
theorem qX11_cutsByTurns {g : Shp} {m : Mem} {x1 : Int} (h : Sh g m)  : fX11_cutsByTurns g 241 x1 m = eX11_cutsByTurns g x1 m := qX11_cutsByTurns_0 h 
theorem nX11_cutsByTurns {g : Shp} {m : Mem} {x1 : Int} (h : Sh g m)  {r : Int} {m' : Mem} (hF : eX11_cutsByTurns g x1 m = some (r, m')) : Sh g m' := nX11_cutsByTurns_0 h  hF
set_option maxRecDepth 20000 in
theorem qX11_layTurns_0 {g : Shp} {m : Mem} {x1 : Int} (h : Sh g m)  : bX11_layTurns_0 g 241 x1 m = ebX11_layTurns_0 g x1 m := by
  unfold bX11_layTurns_0 ebX11_layTurns_0
  have k1 := s_241_38 h
  rewrite [k1.1, ck_t k1.2.1]
  try rewrite [k1.2.2]
  refine ck_c (fun i2 => ?_)
  refine vm_c (fun m3 em3 => ?_)
  have hm3 := h.s em3 (nRa k1.2.1 (by decide))
  have k4 := s_241_38 hm3
  rewrite [k4.1, ck_t k4.2.1]
  try rewrite [k4.2.2]
  refine ck_c (fun i5 => ?_)
  refine vm_c (fun m6 em6 => ?_)
  have hm6 := hm3.s em6 (nRa k4.2.1 (by decide))
  have k7 := s_241_38 hm6
  rewrite [k7.1, ck_t k7.2.1]
  try rewrite [k7.2.2]
  refine ck_c (fun i8 => ?_)
  refine vm_c (fun m9 em9 => ?_)
  have hm9 := hm6.s em9 (nRa k7.2.1 (by decide))
  rfl
theorem nX11_layTurns_0 {g : Shp} {m : Mem} {x1 : Int} (h : Sh g m)  {r : Int} {m' : Mem} (hF : ebX11_layTurns_0 g x1 m = some (r, m')) : Sh g m' := by
  unfold ebX11_layTurns_0 at hF
  have k1 := s_241_38 h
  obtain ⟨i2, hF⟩ := ck_ok hF
  obtain ⟨m3, em3, hF⟩ := vm_ok hF
  have hm3 := h.s em3 (nRa k1.2.1 (by decide))
  have k4 := s_241_38 hm3
  obtain ⟨i5, hF⟩ := ck_ok hF
  obtain ⟨m6, em6, hF⟩ := vm_ok hF
  have hm6 := hm3.s em6 (nRa k4.2.1 (by decide))
  have k7 := s_241_38 hm6
  obtain ⟨i8, hF⟩ := ck_ok hF
  obtain ⟨m9, em9, hF⟩ := vm_ok hF
  have hm9 := hm6.s em9 (nRa k7.2.1 (by decide))
  cases hF
  exact hm9
theorem qX11_layTurns {g : Shp} {m : Mem} {x1 : Int} (h : Sh g m)  : fX11_layTurns g 241 x1 m = eX11_layTurns g x1 m := qX11_layTurns_0 h 
theorem nX11_layTurns {g : Shp} {m : Mem} {x1 : Int} (h : Sh g m)  {r : Int} {m' : Mem} (hF : eX11_layTurns g x1 m = some (r, m')) : Sh g m' := nX11_layTurns_0 h  hF
set_option maxRecDepth 20000 in
theorem qX11_order_85 {g : Shp} {m : Mem} {x4 x6 z0 z1 : Int} (h : Sh g m)  : bX11_order_85 g 241 x4 x6 z0 z1 m = ebX11_order_85 g x4 x6 z0 z1 m := by
  unfold bX11_order_85 ebX11_order_85
  refine vv_c (fun y1 ey1 => ?_)
  refine vv_c (fun y2 ey2 => ?_)
  rfl
theorem nX11_order_85 {g : Shp} {m : Mem} {x4 x6 z0 z1 : Int} (h : Sh g m)  {c1 : Int} {s1 : (Int × Int × Mem)} (hF : ebX11_order_85 g x4 x6 z0 z1 m = some (c1, s1)) : Sh g s1.2.2 := by
  unfold ebX11_order_85 at hF
  obtain ⟨y1, ey1, hF⟩ := vv_ok hF
  obtain ⟨y2, ey2, hF⟩ := vv_ok hF
  cases hF
  exact h
set_option maxRecDepth 20000 in
theorem qX11_order_60 {g : Shp} {m : Mem} {x4 x5 x6 : Int} (h : Sh g m)  : bX11_order_60 g 241 x4 x5 x6 m = ebX11_order_60 g x4 x5 x6 m := by
  unfold bX11_order_60 ebX11_order_60
  refine if_c (fun hc1 => ?_) (fun hc1 => ?_)
  · rfl
  · refine bd2_q (qX11_isCovered h ) (fun v2 m3 h4 => ?_)
    have hm3 := nX11_isCovered h  ((qX11_isCovered h ).symm.trans h4)
    refine if_c (fun hc5 => ?_) (fun hc5 => ?_)
    · exact qX11_order_85 hm3
    · exact qX11_order_85 hm3
theorem nX11_order_60 {g : Shp} {m : Mem} {x4 x5 x6 : Int} (h : Sh g m)  {c1 : Int} {s1 : (Int × Int × Mem)} (hF : ebX11_order_60 g x4 x5 x6 m = some (c1, s1)) : Sh g s1.2.2 := by
  unfold ebX11_order_60 at hF
  rcases if_ok hF with ⟨hc1, hF⟩ | ⟨hc1, hF⟩
  · cases hF
    exact h
  · obtain ⟨v2, m3, h4, hF⟩ := bd2_ok hF
    have hm3 := nX11_isCovered h  h4
    rcases if_ok hF with ⟨hc5, hF⟩ | ⟨hc5, hF⟩
    · exact nX11_order_85 hm3  hF
    · exact nX11_order_85 hm3  hF
theorem nlX11_order_60 {g : Shp} {x4 : Int}  {n : Nat} {s0 s1 : (Int × Int × Mem)} {c1 : Int} (h : Sh g s0.2.2) (hI : iter (eBX11_order_60 g x4) n s0 = some (c1, s1)) : Sh g s1.2.2 :=
  iter_inv (B := eBX11_order_60 g x4) (fun q => Sh g q.2.2) (fun s c s' hs hB => nX11_order_60 hs  hB) n s0 c1 s1 h hI
theorem qlX11_order_60 {g : Shp} {x4 : Int}  {n : Nat} {s0 : (Int × Int × Mem)} (h : Sh g s0.2.2) : iter (BX11_order_60 g 241 x4) n s0 = iter (eBX11_order_60 g x4) n s0 :=
  iter_eq (B := BX11_order_60 g 241 x4) (E := eBX11_order_60 g x4) (fun q => Sh g q.2.2) (fun s hs => qX11_order_60 hs ) (fun s c s' hs hB => nX11_order_60 hs  ((qX11_order_60 hs ).symm.trans hB)) n s0 h
set_option maxRecDepth 20000 in
theorem qX11_order_167 {g : Shp} {m : Mem} {x4 x5 x6 x7 x8 : Int} (h : Sh g m)  : bX11_order_167 g 241 x4 x5 x6 x7 x8 m = ebX11_order_167 g x4 x5 x6 x7 x8 m := by
  unfold bX11_order_167 ebX11_order_167
  refine vv_c (fun y1 ey1 => ?_)
  rfl
theorem nX11_order_167 {g : Shp} {m : Mem} {x4 x5 x6 x7 x8 : Int} (h : Sh g m)  {c1 : Int} {s1 : (Int × Int × Int × Mem)} (hF : ebX11_order_167 g x4 x5 x6 x7 x8 m = some (c1, s1)) : Sh g s1.2.2.2 := by
  unfold ebX11_order_167 at hF
  obtain ⟨y1, ey1, hF⟩ := vv_ok hF
  cases hF
  exact h
set_option maxRecDepth 20000 in
theorem qX11_order_165 {g : Shp} {m : Mem} {x4 x5 x7 x8 z0 : Int} (h : Sh g m)  : bX11_order_165 g 241 x4 x5 x7 x8 z0 m = ebX11_order_165 g x4 x5 x7 x8 z0 m := by
  unfold bX11_order_165 ebX11_order_165
  exact qX11_order_167 h 
theorem nX11_order_165 {g : Shp} {m : Mem} {x4 x5 x7 x8 z0 : Int} (h : Sh g m)  {c1 : Int} {s1 : (Int × Int × Int × Mem)} (hF : ebX11_order_165 g x4 x5 x7 x8 z0 m = some (c1, s1)) : Sh g s1.2.2.2 := by
  unfold ebX11_order_165 at hF
  exact nX11_order_167 h  hF
set_option maxRecDepth 20000 in
theorem qX11_order_149 {g : Shp} {m : Mem} {x4 x5 x6 x8 x9 z0 : Int} (h : Sh g m)  : bX11_order_149 g 241 x4 x5 x6 x8 x9 z0 m = ebX11_order_149 g x4 x5 x6 x8 x9 z0 m := by
  unfold bX11_order_149 ebX11_order_149
  refine if_c (fun hc1 => ?_) (fun hc1 => ?_)
  · exact qX11_order_165 h
  · exact qX11_order_165 h
theorem nX11_order_149 {g : Shp} {m : Mem} {x4 x5 x6 x8 x9 z0 : Int} (h : Sh g m)  {c1 : Int} {s1 : (Int × Int × Int × Mem)} (hF : ebX11_order_149 g x4 x5 x6 x8 x9 z0 m = some (c1, s1)) : Sh g s1.2.2.2 := by
  unfold ebX11_order_149 at hF
  rcases if_ok hF with ⟨hc1, hF⟩ | ⟨hc1, hF⟩
  · exact nX11_order_165 h  hF
  · exact nX11_order_165 h  hF
set_option maxRecDepth 20000 in
theorem qX11_order_105 {g : Shp} {m : Mem} {x4 x5 x6 x7 x8 : Int} (h : Sh g m)  : bX11_order_105 g 241 x4 x5 x6 x7 x8 m = ebX11_order_105 g x4 x5 x6 x7 x8 m := by
  unfold bX11_order_105 ebX11_order_105
  refine if_c (fun hc1 => ?_) (fun hc1 => ?_)
  · rfl
  · refine bd2_q (qX11_layTurns h ) (fun v2 m3 h4 => ?_)
    have hm3 := nX11_layTurns h  ((qX11_layTurns h ).symm.trans h4)
    refine bd2_q (qX11_isTurns hm3 ) (fun v5 m6 h7 => ?_)
    have hm6 := nX11_isTurns hm3  ((qX11_isTurns hm3 ).symm.trans h7)
    refine if_c (fun hc8 => ?_) (fun hc8 => ?_)
    · exact qX11_order_167 hm6
    · refine bd2_q (qX11_cutsByTurns hm6 ) (fun v9 m10 h11 => ?_)
      have hm10 := nX11_cutsByTurns hm6  ((qX11_cutsByTurns hm6 ).symm.trans h11)
      refine if_c (fun hc12 => ?_) (fun hc12 => ?_)
      · exact qX11_order_149 hm10
      · exact qX11_order_149 hm10
theorem nX11_order_105 {g : Shp} {m : Mem} {x4 x5 x6 x7 x8 : Int} (h : Sh g m)  {c1 : Int} {s1 : (Int × Int × Int × Mem)} (hF : ebX11_order_105 g x4 x5 x6 x7 x8 m = some (c1, s1)) : Sh g s1.2.2.2 := by
  unfold ebX11_order_105 at hF
  rcases if_ok hF with ⟨hc1, hF⟩ | ⟨hc1, hF⟩
  · cases hF
    exact h
  · obtain ⟨v2, m3, h4, hF⟩ := bd2_ok hF
    have hm3 := nX11_layTurns h  h4
    obtain ⟨v5, m6, h7, hF⟩ := bd2_ok hF
    have hm6 := nX11_isTurns hm3  h7
    rcases if_ok hF with ⟨hc8, hF⟩ | ⟨hc8, hF⟩
    · exact nX11_order_167 hm6  hF
    · obtain ⟨v9, m10, h11, hF⟩ := bd2_ok hF
      have hm10 := nX11_cutsByTurns hm6  h11
      rcases if_ok hF with ⟨hc12, hF⟩ | ⟨hc12, hF⟩
      · exact nX11_order_149 hm10  hF
      · exact nX11_order_149 hm10  hF
theorem nlX11_order_105 {g : Shp} {x4 x5 : Int}  {n : Nat} {s0 s1 : (Int × Int × Int × Mem)} {c1 : Int} (h : Sh g s0.2.2.2) (hI : iter (eBX11_order_105 g x4 x5) n s0 = some (c1, s1)) : Sh g s1.2.2.2 :=
  iter_inv (B := eBX11_order_105 g x4 x5) (fun q => Sh g q.2.2.2) (fun s c s' hs hB => nX11_order_105 hs  hB) n s0 c1 s1 h hI
theorem qlX11_order_105 {g : Shp} {x4 x5 : Int}  {n : Nat} {s0 : (Int × Int × Int × Mem)} (h : Sh g s0.2.2.2) : iter (BX11_order_105 g 241 x4 x5) n s0 = iter (eBX11_order_105 g x4 x5) n s0 :=
  iter_eq (B := BX11_order_105 g 241 x4 x5) (E := eBX11_order_105 g x4 x5) (fun q => Sh g q.2.2.2) (fun s hs => qX11_order_105 hs ) (fun s c s' hs hB => nX11_order_105 hs  ((qX11_order_105 hs ).symm.trans hB)) n s0 h
set_option maxRecDepth 20000 in
theorem qX11_order_31 {g : Shp} {m : Mem} (h : Sh g m)  : bX11_order_31 g m = ebX11_order_31 g m := by
  unfold bX11_order_31 ebX11_order_31
  rfl
theorem nX11_order_31 {g : Shp} {m : Mem} (h : Sh g m)  {r : Int} {m' : Mem} (hF : ebX11_order_31 g m = some (r, m')) : Sh g m' := by
  unfold ebX11_order_31 at hF
  cases hF
  exact h
set_option maxRecDepth 20000 in
theorem qX11_order_187 {g : Shp} {m : Mem} (h : Sh g m)  : bX11_order_187 g m = ebX11_order_187 g m := by
  unfold bX11_order_187 ebX11_order_187
  rfl
theorem nX11_order_187 {g : Shp} {m : Mem} (h : Sh g m)  {r : Int} {m' : Mem} (hF : ebX11_order_187 g m = some (r, m')) : Sh g m' := by
  unfold ebX11_order_187 at hF
  cases hF
  exact h
set_option maxRecDepth 20000 in
theorem qX11_order_214 {g : Shp} {m : Mem} {z0 : Int} (h : Sh g m)  : bX11_order_214 g z0 m = ebX11_order_214 g z0 m := by
  unfold bX11_order_214 ebX11_order_214
  rfl
theorem nX11_order_214 {g : Shp} {m : Mem} {z0 : Int} (h : Sh g m)  {r : Int} {m' : Mem} (hF : ebX11_order_214 g z0 m = some (r, m')) : Sh g m' := by
  unfold ebX11_order_214 at hF
  cases hF
  exact h
set_option maxRecDepth 20000 in
theorem qX11_order_173 {g : Shp} {m : Mem} {x4 x5 x6 x7 : Int} (h : Sh g m)  : bX11_order_173 g 241 x4 x5 x6 x7 m = ebX11_order_173 g x4 x5 x6 x7 m := by
  unfold bX11_order_173 ebX11_order_173
  refine if_c (fun hc1 => ?_) (fun hc1 => ?_)
  · exact qX11_order_187 h
  · refine if_c (fun hc2 => ?_) (fun hc2 => ?_)
    · refine bd2_q (qX11_layTurns h ) (fun v3 m4 h5 => ?_)
      have hm4 := nX11_layTurns h  ((qX11_layTurns h ).symm.trans h5)
      refine if_c (fun hc6 => ?_) (fun hc6 => ?_)
      · exact qX11_order_214 hm4
      · have k7 := s_241_38 hm4
        rewrite [k7.1, ck_t k7.2.1]
        try rewrite [k7.2.2]
        refine ck_c (fun i8 => ?_)
        exact qX11_order_214 hm4 
    · exact qX11_order_187 h
theorem nX11_order_173 {g : Shp} {m : Mem} {x4 x5 x6 x7 : Int} (h : Sh g m)  {r : Int} {m' : Mem} (hF : ebX11_order_173 g x4 x5 x6 x7 m = some (r, m')) : Sh g m' := by
  unfold ebX11_order_173 at hF
  rcases if_ok hF with ⟨hc1, hF⟩ | ⟨hc1, hF⟩
  · exact nX11_order_187 h  hF
  · rcases if_ok hF with ⟨hc2, hF⟩ | ⟨hc2, hF⟩
    · obtain ⟨v3, m4, h5, hF⟩ := bd2_ok hF
      have hm4 := nX11_layTurns h  h5
      rcases if_ok hF with ⟨hc6, hF⟩ | ⟨hc6, hF⟩
      · exact nX11_order_214 hm4  hF
      · have k7 := s_241_38 hm4
        obtain ⟨i8, hF⟩ := ck_ok hF
        exact nX11_order_214 hm4  hF
    · exact nX11_order_187 h  hF
set_option maxRecDepth 20000 in
theorem qX11_order_94 {g : Shp} {m : Mem} {x4 x5 : Int} (h : Sh g m)  : bX11_order_94 g 241 x4 x5 m = ebX11_order_94 g x4 x5 m := by
  unfold bX11_order_94 ebX11_order_94
  refine bdl_q (qlX11_order_105  (n := 100000) (s0 := (1000000, (-4), 0, m)) h) (fun cv1 sv2 hi3 => ?_)
  have h4 := nlX11_order_105  (s0 := (1000000, (-4), 0, m)) h ((qlX11_order_105  (n := 100000) (s0 := (1000000, (-4), 0, m)) h).symm.trans hi3)
  exact qX11_order_173 h4 
theorem nX11_order_94 {g : Shp} {m : Mem} {x4 x5 : Int} (h : Sh g m)  {r : Int} {m' : Mem} (hF : ebX11_order_94 g x4 x5 m = some (r, m')) : Sh g m' := by
  unfold ebX11_order_94 at hF
  obtain ⟨cv1, sv2, hi3, hF⟩ := bdl_ok hF
  have h4 := nlX11_order_105  (s0 := (1000000, (-4), 0, m)) h hi3
  exact nX11_order_173 h4  hF
set_option maxRecDepth 20000 in
theorem qX11_order_0 {g : Shp} {m : Mem} {x1 x2 x3 x4 : Int} (h : Sh g m)  : bX11_order_0 g 241 x1 x2 x3 x4 m = ebX11_order_0 g x1 x2 x3 x4 m := by
  unfold bX11_order_0 ebX11_order_0
  refine bd2_q (qX11_isColour h ) (fun v1 m2 h3 => ?_)
  have hm2 := nX11_isColour h  ((qX11_isColour h ).symm.trans h3)
  refine if_c (fun hc4 => ?_) (fun hc4 => ?_)
  · exact qX11_order_31 hm2
  · refine bd2_q (qX11_isColour hm2 ) (fun v5 m6 h7 => ?_)
    have hm6 := nX11_isColour hm2  ((qX11_isColour hm2 ).symm.trans h7)
    refine if_c (fun hc8 => ?_) (fun hc8 => ?_)
    · exact qX11_order_31 hm6
    · refine bd2_q (qX11_isColour hm6 ) (fun v9 m10 h11 => ?_)
      have hm10 := nX11_isColour hm6  ((qX11_isColour hm6 ).symm.trans h11)
      refine if_c (fun hc12 => ?_) (fun hc12 => ?_)
      · exact qX11_order_31 hm10
      · refine bd2_q (qX11_in hm10 ) (fun v13 m14 h15 => ?_)
        have hm14 := nX11_in hm10  ((qX11_in hm10 ).symm.trans h15)
        refine if_c (fun hc16 => ?_) (fun hc16 => ?_)
        · exact qX11_order_31 hm14
        · have k17 := s_241_37 hm14
          rewrite [k17.1, ck_t k17.2.1]
          try rewrite [k17.2.2]
          refine ck_c (fun i18 => ?_)
          refine vm_c (fun m19 em19 => ?_)
          have hm19 := hm14.s em19 (nRa k17.2.1 (by decide))
          have k20 := s_241_37 hm19
          rewrite [k20.1, ck_t k20.2.1]
          try rewrite [k20.2.2]
          refine ck_c (fun i21 => ?_)
          refine vm_c (fun m22 em22 => ?_)
          have hm22 := hm19.s em22 (nRa k20.2.1 (by decide))
          have k23 := s_241_37 hm22
          rewrite [k23.1, ck_t k23.2.1]
          try rewrite [k23.2.2]
          refine ck_c (fun i24 => ?_)
          refine vm_c (fun m25 em25 => ?_)
          have hm25 := hm22.s em25 (nRa k23.2.1 (by decide))
          refine bdl_q (qlX11_order_60  (n := 100000) (s0 := (0, 0, m25)) hm25) (fun cv26 sv27 hi28 => ?_)
          have h29 := nlX11_order_60  (s0 := (0, 0, m25)) hm25 ((qlX11_order_60  (n := 100000) (s0 := (0, 0, m25)) hm25).symm.trans hi28)
          exact qX11_order_94 h29 
theorem nX11_order_0 {g : Shp} {m : Mem} {x1 x2 x3 x4 : Int} (h : Sh g m)  {r : Int} {m' : Mem} (hF : ebX11_order_0 g x1 x2 x3 x4 m = some (r, m')) : Sh g m' := by
  unfold ebX11_order_0 at hF
  obtain ⟨v1, m2, h3, hF⟩ := bd2_ok hF
  have hm2 := nX11_isColour h  h3
  rcases if_ok hF with ⟨hc4, hF⟩ | ⟨hc4, hF⟩
  · exact nX11_order_31 hm2  hF
  · obtain ⟨v5, m6, h7, hF⟩ := bd2_ok hF
    have hm6 := nX11_isColour hm2  h7
    rcases if_ok hF with ⟨hc8, hF⟩ | ⟨hc8, hF⟩
    · exact nX11_order_31 hm6  hF
    · obtain ⟨v9, m10, h11, hF⟩ := bd2_ok hF
      have hm10 := nX11_isColour hm6  h11
      rcases if_ok hF with ⟨hc12, hF⟩ | ⟨hc12, hF⟩
      · exact nX11_order_31 hm10  hF
      · obtain ⟨v13, m14, h15, hF⟩ := bd2_ok hF
        have hm14 := nX11_in hm10  h15
        rcases if_ok hF with ⟨hc16, hF⟩ | ⟨hc16, hF⟩
        · exact nX11_order_31 hm14  hF
        · have k17 := s_241_37 hm14
          obtain ⟨i18, hF⟩ := ck_ok hF
          obtain ⟨m19, em19, hF⟩ := vm_ok hF
          have hm19 := hm14.s em19 (nRa k17.2.1 (by decide))
          have k20 := s_241_37 hm19
          obtain ⟨i21, hF⟩ := ck_ok hF
          obtain ⟨m22, em22, hF⟩ := vm_ok hF
          have hm22 := hm19.s em22 (nRa k20.2.1 (by decide))
          have k23 := s_241_37 hm22
          obtain ⟨i24, hF⟩ := ck_ok hF
          obtain ⟨m25, em25, hF⟩ := vm_ok hF
          have hm25 := hm22.s em25 (nRa k23.2.1 (by decide))
          obtain ⟨cv26, sv27, hi28, hF⟩ := bdl_ok hF
          have h29 := nlX11_order_60  (s0 := (0, 0, m25)) hm25 hi28
          exact nX11_order_94 h29  hF
theorem qX11_order {g : Shp} {m : Mem} {x1 x2 x3 x4 : Int} (h : Sh g m)  : fX11_order g 241 x1 x2 x3 x4 m = eX11_order g x1 x2 x3 x4 m := qX11_order_0 h 
theorem nX11_order {g : Shp} {m : Mem} {x1 x2 x3 x4 : Int} (h : Sh g m)  {r : Int} {m' : Mem} (hF : eX11_order g x1 x2 x3 x4 m = some (r, m')) : Sh g m' := nX11_order_0 h  hF
set_option maxRecDepth 20000 in
theorem qX11_bag_32 {g : Shp} {m : Mem} {z0 : Int} (h : Sh g m)  : bX11_bag_32 g z0 m = ebX11_bag_32 g z0 m := by
  unfold bX11_bag_32 ebX11_bag_32
  rfl
theorem nX11_bag_32 {g : Shp} {m : Mem} {z0 : Int} (h : Sh g m)  {r : Int} {m' : Mem} (hF : ebX11_bag_32 g z0 m = some (r, m')) : Sh g m' := by
  unfold ebX11_bag_32 at hF
  cases hF
  exact h
set_option maxRecDepth 20000 in
theorem qX11_bag_31 {g : Shp} {m : Mem} (h : Sh g m)  : bX11_bag_31 g m = ebX11_bag_31 g m := by
  unfold bX11_bag_31 ebX11_bag_31
  exact qX11_bag_32 h 
theorem nX11_bag_31 {g : Shp} {m : Mem} (h : Sh g m)  {r : Int} {m' : Mem} (hF : ebX11_bag_31 g m = some (r, m')) : Sh g m' := by
  unfold ebX11_bag_31 at hF
  exact nX11_bag_32 h  hF
set_option maxRecDepth 20000 in
theorem qX11_bag_0 {g : Shp} {m : Mem} {x1 x2 : Int} (h : Sh g m)  : bX11_bag_0 g 241 x1 x2 m = ebX11_bag_0 g x1 x2 m := by
  unfold bX11_bag_0 ebX11_bag_0
  refine bd2_q (qX11_isColour h ) (fun v1 m2 h3 => ?_)
  have hm2 := nX11_isColour h  ((qX11_isColour h ).symm.trans h3)
  refine if_c (fun hc4 => ?_) (fun hc4 => ?_)
  · exact qX11_bag_31 hm2
  · refine bd2_q (qX11_in hm2 ) (fun v5 m6 h7 => ?_)
    have hm6 := nX11_in hm2  ((qX11_in hm2 ).symm.trans h7)
    refine if_c (fun hc8 => ?_) (fun hc8 => ?_)
    · exact qX11_bag_31 hm6
    · have k9 := s_241_0 hm6
      rewrite [k9.1, ck_t k9.2.1]
      try rewrite [k9.2.2]
      refine ck_c (fun i10 => ?_)
      exact qX11_bag_32 hm6 
theorem nX11_bag_0 {g : Shp} {m : Mem} {x1 x2 : Int} (h : Sh g m)  {r : Int} {m' : Mem} (hF : ebX11_bag_0 g x1 x2 m = some (r, m')) : Sh g m' := by
  unfold ebX11_bag_0 at hF
  obtain ⟨v1, m2, h3, hF⟩ := bd2_ok hF
  have hm2 := nX11_isColour h  h3
  rcases if_ok hF with ⟨hc4, hF⟩ | ⟨hc4, hF⟩
  · exact nX11_bag_31 hm2  hF
  · obtain ⟨v5, m6, h7, hF⟩ := bd2_ok hF
    have hm6 := nX11_in hm2  h7
    rcases if_ok hF with ⟨hc8, hF⟩ | ⟨hc8, hF⟩
    · exact nX11_bag_31 hm6  hF
    · have k9 := s_241_0 hm6
      obtain ⟨i10, hF⟩ := ck_ok hF
      exact nX11_bag_32 hm6  hF
theorem qX11_bag {g : Shp} {m : Mem} {x1 x2 : Int} (h : Sh g m)  : fX11_bag g 241 x1 x2 m = eX11_bag g x1 x2 m := qX11_bag_0 h 
theorem nX11_bag {g : Shp} {m : Mem} {x1 x2 : Int} (h : Sh g m)  {r : Int} {m' : Mem} (hF : eX11_bag g x1 x2 m = some (r, m')) : Sh g m' := nX11_bag_0 h  hF
set_option maxRecDepth 20000 in
theorem qX11_fill_57 {g : Shp} {m : Mem} {x2 x3 x4 : Int} (h : Sh g m)  : bX11_fill_57 g 241 x2 x3 x4 m = ebX11_fill_57 g x2 x3 x4 m := by
  unfold bX11_fill_57 ebX11_fill_57
  refine if_c (fun hc1 => ?_) (fun hc1 => ?_)
  · rfl
  · have k2 := s_241_0 h
    rewrite [k2.1, ck_t k2.2.1]
    try rewrite [k2.2.2]
    refine ck_c (fun i3 => ?_)
    refine vm_c (fun m4 em4 => ?_)
    have hm4 := h.s em4 (nRa k2.2.1 (by decide))
    refine vv_c (fun y5 ey5 => ?_)
    rfl
theorem nX11_fill_57 {g : Shp} {m : Mem} {x2 x3 x4 : Int} (h : Sh g m)  {c1 : Int} {s1 : (Int × Mem)} (hF : ebX11_fill_57 g x2 x3 x4 m = some (c1, s1)) : Sh g s1.2 := by
  unfold ebX11_fill_57 at hF
  rcases if_ok hF with ⟨hc1, hF⟩ | ⟨hc1, hF⟩
  · cases hF
    exact h
  · have k2 := s_241_0 h
    obtain ⟨i3, hF⟩ := ck_ok hF
    obtain ⟨m4, em4, hF⟩ := vm_ok hF
    have hm4 := h.s em4 (nRa k2.2.1 (by decide))
    obtain ⟨y5, ey5, hF⟩ := vv_ok hF
    cases hF
    exact hm4
theorem nlX11_fill_57 {g : Shp} {x2 x3 : Int}  {n : Nat} {s0 s1 : (Int × Mem)} {c1 : Int} (h : Sh g s0.2) (hI : iter (eBX11_fill_57 g x2 x3) n s0 = some (c1, s1)) : Sh g s1.2 :=
  iter_inv (B := eBX11_fill_57 g x2 x3) (fun q => Sh g q.2) (fun s c s' hs hB => nX11_fill_57 hs  hB) n s0 c1 s1 h hI
theorem qlX11_fill_57 {g : Shp} {x2 x3 : Int}  {n : Nat} {s0 : (Int × Mem)} (h : Sh g s0.2) : iter (BX11_fill_57 g 241 x2 x3) n s0 = iter (eBX11_fill_57 g x2 x3) n s0 :=
  iter_eq (B := BX11_fill_57 g 241 x2 x3) (E := eBX11_fill_57 g x2 x3) (fun q => Sh g q.2) (fun s hs => qX11_fill_57 hs ) (fun s c s' hs hB => nX11_fill_57 hs  ((qX11_fill_57 hs ).symm.trans hB)) n s0 h
set_option maxRecDepth 20000 in
theorem qX11_fill_80 {g : Shp} {m : Mem} {x3 : Int} (h : Sh g m)  : bX11_fill_80 g x3 m = ebX11_fill_80 g x3 m := by
  unfold bX11_fill_80 ebX11_fill_80
  rfl
theorem nX11_fill_80 {g : Shp} {m : Mem} {x3 : Int} (h : Sh g m)  {r : Int} {m' : Mem} (hF : ebX11_fill_80 g x3 m = some (r, m')) : Sh g m' := by
  unfold ebX11_fill_80 at hF
  cases hF
  exact h
set_option maxRecDepth 20000 in
theorem qX11_fill_0 {g : Shp} {m : Mem} {x1 : Int} (h : Sh g m)  : bX11_fill_0 g 241 x1 m = ebX11_fill_0 g x1 m := by
  unfold bX11_fill_0 ebX11_fill_0
  refine bd2_q (qX11_isColour h ) (fun v1 m2 h3 => ?_)
  have hm2 := nX11_isColour h  ((qX11_isColour h ).symm.trans h3)
  refine if_c (fun hc4 => ?_) (fun hc4 => ?_)
  · rfl
  · refine vv_c (fun y5 ey5 => ?_)
    have k6 := s_241_0 hm2
    rewrite [k6.1, ck_t k6.2.1]
    try rewrite [k6.2.2]
    refine ck_c (fun i7 => ?_)
    have k8 := s_241_0 hm2
    try rewrite [k8.2.2]
    refine ck_c (fun i9 => ?_)
    have k10 := s_241_0 hm2
    try rewrite [k10.2.2]
    refine ck_c (fun i11 => ?_)
    refine vv_c (fun y12 ey12 => ?_)
    refine if_c (fun hc13 => ?_) (fun hc13 => ?_)
    · rfl
    · refine bd2_q (qX11_note hm2 ) (fun v14 m15 h16 => ?_)
      have hm15 := nX11_note hm2  ((qX11_note hm2 ).symm.trans h16)
      refine bdl_q (qlX11_fill_57  (n := 100000) (s0 := (0, m15)) hm15) (fun cv17 sv18 hi19 => ?_)
      have h20 := nlX11_fill_57  (s0 := (0, m15)) hm15 ((qlX11_fill_57  (n := 100000) (s0 := (0, m15)) hm15).symm.trans hi19)
      exact qX11_fill_80 h20 
theorem nX11_fill_0 {g : Shp} {m : Mem} {x1 : Int} (h : Sh g m)  {r : Int} {m' : Mem} (hF : ebX11_fill_0 g x1 m = some (r, m')) : Sh g m' := by
  unfold ebX11_fill_0 at hF
  obtain ⟨v1, m2, h3, hF⟩ := bd2_ok hF
  have hm2 := nX11_isColour h  h3
  rcases if_ok hF with ⟨hc4, hF⟩ | ⟨hc4, hF⟩
  · cases hF
    exact hm2
  · obtain ⟨y5, ey5, hF⟩ := vv_ok hF
    have k6 := s_241_0 hm2
    obtain ⟨i7, hF⟩ := ck_ok hF
    have k8 := s_241_0 hm2
    obtain ⟨i9, hF⟩ := ck_ok hF
    have k10 := s_241_0 hm2
    obtain ⟨i11, hF⟩ := ck_ok hF
    obtain ⟨y12, ey12, hF⟩ := vv_ok hF
    rcases if_ok hF with ⟨hc13, hF⟩ | ⟨hc13, hF⟩
    · cases hF
      exact hm2
    · obtain ⟨v14, m15, h16, hF⟩ := bd2_ok hF
      have hm15 := nX11_note hm2  h16
      obtain ⟨cv17, sv18, hi19, hF⟩ := bdl_ok hF
      have h20 := nlX11_fill_57  (s0 := (0, m15)) hm15 hi19
      exact nX11_fill_80 h20  hF
theorem qX11_fill {g : Shp} {m : Mem} {x1 : Int} (h : Sh g m)  : fX11_fill g 241 x1 m = eX11_fill g x1 m := qX11_fill_0 h 
theorem nX11_fill {g : Shp} {m : Mem} {x1 : Int} (h : Sh g m)  {r : Int} {m' : Mem} (hF : eX11_fill g x1 m = some (r, m')) : Sh g m' := nX11_fill_0 h  hF
set_option maxRecDepth 20000 in
theorem qX11_isOn_41 {g : Shp} {m : Mem} {x1 x2 x4 z0 : Int} (h : Sh g m)  : bX11_isOn_41 g 241 x1 x2 x4 z0 m = ebX11_isOn_41 g x1 x2 x4 z0 m := by
  unfold bX11_isOn_41 ebX11_isOn_41
  refine vv_c (fun y1 ey1 => ?_)
  rfl
theorem nX11_isOn_41 {g : Shp} {m : Mem} {x1 x2 x4 z0 : Int} (h : Sh g m)  {c1 : Int} {s1 : (Int × Int × Mem)} (hF : ebX11_isOn_41 g x1 x2 x4 z0 m = some (c1, s1)) : Sh g s1.2.2 := by
  unfold ebX11_isOn_41 at hF
  obtain ⟨y1, ey1, hF⟩ := vv_ok hF
  cases hF
  exact h
set_option maxRecDepth 20000 in
theorem qX11_isOn_36 {g : Shp} {m : Mem} {x1 x2 x4 : Int} (h : Sh g m)  : bX11_isOn_36 g 241 x1 x2 x4 m = ebX11_isOn_36 g x1 x2 x4 m := by
  unfold bX11_isOn_36 ebX11_isOn_36
  exact qX11_isOn_41 h 
theorem nX11_isOn_36 {g : Shp} {m : Mem} {x1 x2 x4 : Int} (h : Sh g m)  {c1 : Int} {s1 : (Int × Int × Mem)} (hF : ebX11_isOn_36 g x1 x2 x4 m = some (c1, s1)) : Sh g s1.2.2 := by
  unfold ebX11_isOn_36 at hF
  exact nX11_isOn_41 h  hF
set_option maxRecDepth 20000 in
theorem qX11_isOn_5 {g : Shp} {m : Mem} {x1 x2 x3 x4 : Int} (h : Sh g m)  : bX11_isOn_5 g 241 x1 x2 x3 x4 m = ebX11_isOn_5 g x1 x2 x3 x4 m := by
  unfold bX11_isOn_5 ebX11_isOn_5
  have k1 := s_241_23 h
  rewrite [k1.1, ck_t k1.2.1]
  try rewrite [k1.2.2]
  refine ck_c (fun i2 => ?_)
  refine if_c (fun hc3 => ?_) (fun hc3 => ?_)
  · rfl
  · refine if_c (fun hc4 => ?_) (fun hc4 => ?_)
    · have k5 := s_241_24 h
      rewrite [k5.1, ck_t k5.2.1]
      try rewrite [k5.2.2]
      refine ck_c (fun i6 => ?_)
      refine if_c (fun hc7 => ?_) (fun hc7 => ?_)
      · exact qX11_isOn_36 h
      · exact qX11_isOn_41 h
    · exact qX11_isOn_36 h
theorem nX11_isOn_5 {g : Shp} {m : Mem} {x1 x2 x3 x4 : Int} (h : Sh g m)  {c1 : Int} {s1 : (Int × Int × Mem)} (hF : ebX11_isOn_5 g x1 x2 x3 x4 m = some (c1, s1)) : Sh g s1.2.2 := by
  unfold ebX11_isOn_5 at hF
  have k1 := s_241_23 h
  obtain ⟨i2, hF⟩ := ck_ok hF
  rcases if_ok hF with ⟨hc3, hF⟩ | ⟨hc3, hF⟩
  · cases hF
    exact h
  · rcases if_ok hF with ⟨hc4, hF⟩ | ⟨hc4, hF⟩
    · have k5 := s_241_24 h
      obtain ⟨i6, hF⟩ := ck_ok hF
      rcases if_ok hF with ⟨hc7, hF⟩ | ⟨hc7, hF⟩
      · exact nX11_isOn_36 h  hF
      · exact nX11_isOn_41 h  hF
    · exact nX11_isOn_36 h  hF
theorem nlX11_isOn_5 {g : Shp} {x1 x2 : Int}  {n : Nat} {s0 s1 : (Int × Int × Mem)} {c1 : Int} (h : Sh g s0.2.2) (hI : iter (eBX11_isOn_5 g x1 x2) n s0 = some (c1, s1)) : Sh g s1.2.2 :=
  iter_inv (B := eBX11_isOn_5 g x1 x2) (fun q => Sh g q.2.2) (fun s c s' hs hB => nX11_isOn_5 hs  hB) n s0 c1 s1 h hI
theorem qlX11_isOn_5 {g : Shp} {x1 x2 : Int}  {n : Nat} {s0 : (Int × Int × Mem)} (h : Sh g s0.2.2) : iter (BX11_isOn_5 g 241 x1 x2) n s0 = iter (eBX11_isOn_5 g x1 x2) n s0 :=
  iter_eq (B := BX11_isOn_5 g 241 x1 x2) (E := eBX11_isOn_5 g x1 x2) (fun q => Sh g q.2.2) (fun s hs => qX11_isOn_5 hs ) (fun s c s' hs hB => nX11_isOn_5 hs  ((qX11_isOn_5 hs ).symm.trans hB)) n s0 h
set_option maxRecDepth 20000 in
theorem qX11_isOn_48 {g : Shp} {m : Mem} {x3 : Int} (h : Sh g m)  : bX11_isOn_48 g x3 m = ebX11_isOn_48 g x3 m := by
  unfold bX11_isOn_48 ebX11_isOn_48
  refine ck_c (fun b1 => ?_)
  rfl
theorem nX11_isOn_48 {g : Shp} {m : Mem} {x3 : Int} (h : Sh g m)  {r : Int} {m' : Mem} (hF : ebX11_isOn_48 g x3 m = some (r, m')) : Sh g m' := by
  unfold ebX11_isOn_48 at hF
  obtain ⟨b1, hF⟩ := ck_ok hF
  cases hF
  exact h
set_option maxRecDepth 20000 in
theorem qX11_isOn_0 {g : Shp} {m : Mem} {x1 x2 : Int} (h : Sh g m)  : bX11_isOn_0 g 241 x1 x2 m = ebX11_isOn_0 g x1 x2 m := by
  unfold bX11_isOn_0 ebX11_isOn_0
  refine bdl_q (qlX11_isOn_5  (n := 100000) (s0 := (0, 0, m)) h) (fun cv1 sv2 hi3 => ?_)
  have h4 := nlX11_isOn_5  (s0 := (0, 0, m)) h ((qlX11_isOn_5  (n := 100000) (s0 := (0, 0, m)) h).symm.trans hi3)
  exact qX11_isOn_48 h4 
theorem nX11_isOn_0 {g : Shp} {m : Mem} {x1 x2 : Int} (h : Sh g m)  {r : Int} {m' : Mem} (hF : ebX11_isOn_0 g x1 x2 m = some (r, m')) : Sh g m' := by
  unfold ebX11_isOn_0 at hF
  obtain ⟨cv1, sv2, hi3, hF⟩ := bdl_ok hF
  have h4 := nlX11_isOn_5  (s0 := (0, 0, m)) h hi3
  exact nX11_isOn_48 h4  hF
theorem qX11_isOn {g : Shp} {m : Mem} {x1 x2 : Int} (h : Sh g m)  : fX11_isOn g 241 x1 x2 m = eX11_isOn g x1 x2 m := qX11_isOn_0 h 
theorem nX11_isOn {g : Shp} {m : Mem} {x1 x2 : Int} (h : Sh g m)  {r : Int} {m' : Mem} (hF : eX11_isOn g x1 x2 m = some (r, m')) : Sh g m' := nX11_isOn_0 h  hF
set_option maxRecDepth 20000 in
theorem qX11_drawn_111 {g : Shp} {m : Mem} {x2 x5 z0 : Int} (h : Sh g m)  : bX11_drawn_111 g 241 x2 x5 z0 m = ebX11_drawn_111 g x2 x5 z0 m := by
  unfold bX11_drawn_111 ebX11_drawn_111
  refine vv_c (fun y1 ey1 => ?_)
  rfl
theorem nX11_drawn_111 {g : Shp} {m : Mem} {x2 x5 z0 : Int} (h : Sh g m)  {c1 : Int} {s1 : (Int × Int × Mem)} (hF : ebX11_drawn_111 g x2 x5 z0 m = some (c1, s1)) : Sh g s1.2.2 := by
  unfold ebX11_drawn_111 at hF
  obtain ⟨y1, ey1, hF⟩ := vv_ok hF
  cases hF
  exact h
set_option maxRecDepth 20000 in
theorem qX11_drawn_106 {g : Shp} {m : Mem} {x2 x5 : Int} (h : Sh g m)  : bX11_drawn_106 g 241 x2 x5 m = ebX11_drawn_106 g x2 x5 m := by
  unfold bX11_drawn_106 ebX11_drawn_106
  exact qX11_drawn_111 h 
theorem nX11_drawn_106 {g : Shp} {m : Mem} {x2 x5 : Int} (h : Sh g m)  {c1 : Int} {s1 : (Int × Int × Mem)} (hF : ebX11_drawn_106 g x2 x5 m = some (c1, s1)) : Sh g s1.2.2 := by
  unfold ebX11_drawn_106 at hF
  exact nX11_drawn_111 h  hF
set_option maxRecDepth 20000 in
theorem qX11_drawn_110 {g : Shp} {m : Mem} {x2 x5 : Int} (h : Sh g m)  : bX11_drawn_110 g 241 x2 x5 m = ebX11_drawn_110 g x2 x5 m := by
  unfold bX11_drawn_110 ebX11_drawn_110
  exact qX11_drawn_111 h 
theorem nX11_drawn_110 {g : Shp} {m : Mem} {x2 x5 : Int} (h : Sh g m)  {c1 : Int} {s1 : (Int × Int × Mem)} (hF : ebX11_drawn_110 g x2 x5 m = some (c1, s1)) : Sh g s1.2.2 := by
  unfold ebX11_drawn_110 at hF
  exact nX11_drawn_111 h  hF
set_option maxRecDepth 20000 in
theorem qX11_drawn_73 {g : Shp} {m : Mem} {x2 x4 x5 : Int} (h : Sh g m)  : bX11_drawn_73 g 241 x2 x4 x5 m = ebX11_drawn_73 g x2 x4 x5 m := by
  unfold bX11_drawn_73 ebX11_drawn_73
  refine if_c (fun hc1 => ?_) (fun hc1 => ?_)
  · rfl
  · refine if_c (fun hc2 => ?_) (fun hc2 => ?_)
    · refine bd2_q (qX11_isCovered h ) (fun v3 m4 h5 => ?_)
      have hm4 := nX11_isCovered h  ((qX11_isCovered h ).symm.trans h5)
      refine if_c (fun hc6 => ?_) (fun hc6 => ?_)
      · refine bd2_q (qX11_isOn hm4 ) (fun v7 m8 h9 => ?_)
        have hm8 := nX11_isOn hm4  ((qX11_isOn hm4 ).symm.trans h9)
        refine if_c (fun hc10 => ?_) (fun hc10 => ?_)
        · exact qX11_drawn_110 hm8
        · exact qX11_drawn_106 hm8
      · exact qX11_drawn_110 hm4
    · exact qX11_drawn_106 h
theorem nX11_drawn_73 {g : Shp} {m : Mem} {x2 x4 x5 : Int} (h : Sh g m)  {c1 : Int} {s1 : (Int × Int × Mem)} (hF : ebX11_drawn_73 g x2 x4 x5 m = some (c1, s1)) : Sh g s1.2.2 := by
  unfold ebX11_drawn_73 at hF
  rcases if_ok hF with ⟨hc1, hF⟩ | ⟨hc1, hF⟩
  · cases hF
    exact h
  · rcases if_ok hF with ⟨hc2, hF⟩ | ⟨hc2, hF⟩
    · obtain ⟨v3, m4, h5, hF⟩ := bd2_ok hF
      have hm4 := nX11_isCovered h  h5
      rcases if_ok hF with ⟨hc6, hF⟩ | ⟨hc6, hF⟩
      · obtain ⟨v7, m8, h9, hF⟩ := bd2_ok hF
        have hm8 := nX11_isOn hm4  h9
        rcases if_ok hF with ⟨hc10, hF⟩ | ⟨hc10, hF⟩
        · exact nX11_drawn_110 hm8  hF
        · exact nX11_drawn_106 hm8  hF
      · exact nX11_drawn_110 hm4  hF
    · exact nX11_drawn_106 h  hF
theorem nlX11_drawn_73 {g : Shp} {x2 : Int}  {n : Nat} {s0 s1 : (Int × Int × Mem)} {c1 : Int} (h : Sh g s0.2.2) (hI : iter (eBX11_drawn_73 g x2) n s0 = some (c1, s1)) : Sh g s1.2.2 :=
  iter_inv (B := eBX11_drawn_73 g x2) (fun q => Sh g q.2.2) (fun s c s' hs hB => nX11_drawn_73 hs  hB) n s0 c1 s1 h hI
theorem qlX11_drawn_73 {g : Shp} {x2 : Int}  {n : Nat} {s0 : (Int × Int × Mem)} (h : Sh g s0.2.2) : iter (BX11_drawn_73 g 241 x2) n s0 = iter (eBX11_drawn_73 g x2) n s0 :=
  iter_eq (B := BX11_drawn_73 g 241 x2) (E := eBX11_drawn_73 g x2) (fun q => Sh g q.2.2) (fun s hs => qX11_drawn_73 hs ) (fun s c s' hs hB => nX11_drawn_73 hs  ((qX11_drawn_73 hs ).symm.trans hB)) n s0 h
set_option maxRecDepth 20000 in
theorem qX11_drawn_131 {g : Shp} {m : Mem} {z0 : Int} (h : Sh g m)  : bX11_drawn_131 g z0 m = ebX11_drawn_131 g z0 m := by
  unfold bX11_drawn_131 ebX11_drawn_131
  rfl
theorem nX11_drawn_131 {g : Shp} {m : Mem} {z0 : Int} (h : Sh g m)  {r : Int} {m' : Mem} (hF : ebX11_drawn_131 g z0 m = some (r, m')) : Sh g m' := by
  unfold ebX11_drawn_131 at hF
  cases hF
  exact h
set_option maxRecDepth 20000 in
theorem qX11_drawn_119 {g : Shp} {m : Mem} {x4 : Int} (h : Sh g m)  : bX11_drawn_119 g x4 m = ebX11_drawn_119 g x4 m := by
  unfold bX11_drawn_119 ebX11_drawn_119
  refine if_c (fun hc1 => ?_) (fun hc1 => ?_)
  · exact qX11_drawn_131 h
  · exact qX11_drawn_131 h
theorem nX11_drawn_119 {g : Shp} {m : Mem} {x4 : Int} (h : Sh g m)  {r : Int} {m' : Mem} (hF : ebX11_drawn_119 g x4 m = some (r, m')) : Sh g m' := by
  unfold ebX11_drawn_119 at hF
  rcases if_ok hF with ⟨hc1, hF⟩ | ⟨hc1, hF⟩
  · exact nX11_drawn_131 h  hF
  · exact nX11_drawn_131 h  hF
set_option maxRecDepth 20000 in
theorem qX11_drawn_0 {g : Shp} {m : Mem} {x1 : Int} (h : Sh g m)  : bX11_drawn_0 g 241 x1 m = ebX11_drawn_0 g x1 m := by
  unfold bX11_drawn_0 ebX11_drawn_0
  refine bd2_q (qX11_in h ) (fun v1 m2 h3 => ?_)
  have hm2 := nX11_in h  ((qX11_in h ).symm.trans h3)
  refine if_c (fun hc4 => ?_) (fun hc4 => ?_)
  · rfl
  · refine if_c (fun hc5 => ?_) (fun hc5 => ?_)
    · rfl
    · refine vv_c (fun y6 ey6 => ?_)
      have k7 := s_241_0 hm2
      rewrite [k7.1, ck_t k7.2.1]
      try rewrite [k7.2.2]
      refine ck_c (fun i8 => ?_)
      refine vv_c (fun y9 ey9 => ?_)
      refine if_c (fun hc10 => ?_) (fun hc10 => ?_)
      · refine bdl_q (qlX11_drawn_73  (n := 100000) (s0 := (0, 0, m2)) hm2) (fun cv11 sv12 hi13 => ?_)
        have h14 := nlX11_drawn_73  (s0 := (0, 0, m2)) hm2 ((qlX11_drawn_73  (n := 100000) (s0 := (0, 0, m2)) hm2).symm.trans hi13)
        exact qX11_drawn_119 h14 
      · have k15 := s_241_0 hm2
        try rewrite [k15.2.2]
        refine ck_c (fun i16 => ?_)
        rfl
theorem nX11_drawn_0 {g : Shp} {m : Mem} {x1 : Int} (h : Sh g m)  {r : Int} {m' : Mem} (hF : ebX11_drawn_0 g x1 m = some (r, m')) : Sh g m' := by
  unfold ebX11_drawn_0 at hF
  obtain ⟨v1, m2, h3, hF⟩ := bd2_ok hF
  have hm2 := nX11_in h  h3
  rcases if_ok hF with ⟨hc4, hF⟩ | ⟨hc4, hF⟩
  · cases hF
    exact hm2
  · rcases if_ok hF with ⟨hc5, hF⟩ | ⟨hc5, hF⟩
    · cases hF
      exact hm2
    · obtain ⟨y6, ey6, hF⟩ := vv_ok hF
      have k7 := s_241_0 hm2
      obtain ⟨i8, hF⟩ := ck_ok hF
      obtain ⟨y9, ey9, hF⟩ := vv_ok hF
      rcases if_ok hF with ⟨hc10, hF⟩ | ⟨hc10, hF⟩
      · obtain ⟨cv11, sv12, hi13, hF⟩ := bdl_ok hF
        have h14 := nlX11_drawn_73  (s0 := (0, 0, m2)) hm2 hi13
        exact nX11_drawn_119 h14  hF
      · have k15 := s_241_0 hm2
        obtain ⟨i16, hF⟩ := ck_ok hF
        cases hF
        exact hm2
theorem qX11_drawn {g : Shp} {m : Mem} {x1 : Int} (h : Sh g m)  : fX11_drawn g 241 x1 m = eX11_drawn g x1 m := qX11_drawn_0 h 
theorem nX11_drawn {g : Shp} {m : Mem} {x1 : Int} (h : Sh g m)  {r : Int} {m' : Mem} (hF : eX11_drawn g x1 m = some (r, m')) : Sh g m' := nX11_drawn_0 h  hF
set_option maxRecDepth 20000 in
theorem qX11_sharedCells_41 {g : Shp} {m : Mem} {x1 x2 x4 z0 z1 : Int} (h : Sh g m)  : bX11_sharedCells_41 g 241 x1 x2 x4 z0 z1 m = ebX11_sharedCells_41 g x1 x2 x4 z0 z1 m := by
  unfold bX11_sharedCells_41 ebX11_sharedCells_41
  refine vv_c (fun y1 ey1 => ?_)
  refine vv_c (fun y2 ey2 => ?_)
  rfl
theorem nX11_sharedCells_41 {g : Shp} {m : Mem} {x1 x2 x4 z0 z1 : Int} (h : Sh g m)  {c1 : Int} {s1 : (Int × Int × Mem)} (hF : ebX11_sharedCells_41 g x1 x2 x4 z0 z1 m = some (c1, s1)) : Sh g s1.2.2 := by
  unfold ebX11_sharedCells_41 at hF
  obtain ⟨y1, ey1, hF⟩ := vv_ok hF
  obtain ⟨y2, ey2, hF⟩ := vv_ok hF
  cases hF
  exact h
set_option maxRecDepth 20000 in
theorem qX11_sharedCells_16 {g : Shp} {m : Mem} {x1 x2 x3 x4 : Int} (h : Sh g m)  : bX11_sharedCells_16 g 241 x1 x2 x3 x4 m = ebX11_sharedCells_16 g x1 x2 x3 x4 m := by
  unfold bX11_sharedCells_16 ebX11_sharedCells_16
  refine if_c (fun hc1 => ?_) (fun hc1 => ?_)
  · rfl
  · refine bd2_q (qX11_isOn h ) (fun v2 m3 h4 => ?_)
    have hm3 := nX11_isOn h  ((qX11_isOn h ).symm.trans h4)
    refine if_c (fun hc5 => ?_) (fun hc5 => ?_)
    · exact qX11_sharedCells_41 hm3
    · exact qX11_sharedCells_41 hm3
theorem nX11_sharedCells_16 {g : Shp} {m : Mem} {x1 x2 x3 x4 : Int} (h : Sh g m)  {c1 : Int} {s1 : (Int × Int × Mem)} (hF : ebX11_sharedCells_16 g x1 x2 x3 x4 m = some (c1, s1)) : Sh g s1.2.2 := by
  unfold ebX11_sharedCells_16 at hF
  rcases if_ok hF with ⟨hc1, hF⟩ | ⟨hc1, hF⟩
  · cases hF
    exact h
  · obtain ⟨v2, m3, h4, hF⟩ := bd2_ok hF
    have hm3 := nX11_isOn h  h4
    rcases if_ok hF with ⟨hc5, hF⟩ | ⟨hc5, hF⟩
    · exact nX11_sharedCells_41 hm3  hF
    · exact nX11_sharedCells_41 hm3  hF
theorem nlX11_sharedCells_16 {g : Shp} {x1 x2 : Int}  {n : Nat} {s0 s1 : (Int × Int × Mem)} {c1 : Int} (h : Sh g s0.2.2) (hI : iter (eBX11_sharedCells_16 g x1 x2) n s0 = some (c1, s1)) : Sh g s1.2.2 :=
  iter_inv (B := eBX11_sharedCells_16 g x1 x2) (fun q => Sh g q.2.2) (fun s c s' hs hB => nX11_sharedCells_16 hs  hB) n s0 c1 s1 h hI
theorem qlX11_sharedCells_16 {g : Shp} {x1 x2 : Int}  {n : Nat} {s0 : (Int × Int × Mem)} (h : Sh g s0.2.2) : iter (BX11_sharedCells_16 g 241 x1 x2) n s0 = iter (eBX11_sharedCells_16 g x1 x2) n s0 :=
  iter_eq (B := BX11_sharedCells_16 g 241 x1 x2) (E := eBX11_sharedCells_16 g x1 x2) (fun q => Sh g q.2.2) (fun s hs => qX11_sharedCells_16 hs ) (fun s c s' hs hB => nX11_sharedCells_16 hs  ((qX11_sharedCells_16 hs ).symm.trans hB)) n s0 h
set_option maxRecDepth 20000 in
theorem qX11_sharedCells_60 {g : Shp} {m : Mem} {x2 z0 z1 : Int} (h : Sh g m)  : bX11_sharedCells_60 g 241 x2 z0 z1 m = ebX11_sharedCells_60 g x2 z0 z1 m := by
  unfold bX11_sharedCells_60 ebX11_sharedCells_60
  refine vv_c (fun y1 ey1 => ?_)
  refine vv_c (fun y2 ey2 => ?_)
  rfl
theorem nX11_sharedCells_60 {g : Shp} {m : Mem} {x2 z0 z1 : Int} (h : Sh g m)  {c1 : Int} {s1 : (Int × Int × Mem)} (hF : ebX11_sharedCells_60 g x2 z0 z1 m = some (c1, s1)) : Sh g s1.2.2 := by
  unfold ebX11_sharedCells_60 at hF
  obtain ⟨y1, ey1, hF⟩ := vv_ok hF
  obtain ⟨y2, ey2, hF⟩ := vv_ok hF
  cases hF
  exact h
set_option maxRecDepth 20000 in
theorem qX11_sharedCells_49 {g : Shp} {m : Mem} {x1 x2 x3 : Int} (h : Sh g m)  : bX11_sharedCells_49 g 241 x1 x2 x3 m = ebX11_sharedCells_49 g x1 x2 x3 m := by
  unfold bX11_sharedCells_49 ebX11_sharedCells_49
  refine if_c (fun hc1 => ?_) (fun hc1 => ?_)
  · exact qX11_sharedCells_60 h
  · exact qX11_sharedCells_60 h
theorem nX11_sharedCells_49 {g : Shp} {m : Mem} {x1 x2 x3 : Int} (h : Sh g m)  {c1 : Int} {s1 : (Int × Int × Mem)} (hF : ebX11_sharedCells_49 g x1 x2 x3 m = some (c1, s1)) : Sh g s1.2.2 := by
  unfold ebX11_sharedCells_49 at hF
  rcases if_ok hF with ⟨hc1, hF⟩ | ⟨hc1, hF⟩
  · exact nX11_sharedCells_60 h  hF
  · exact nX11_sharedCells_60 h  hF
set_option maxRecDepth 20000 in
theorem qX11_sharedCells_4 {g : Shp} {m : Mem} {x1 x2 : Int} (h : Sh g m)  : bX11_sharedCells_4 g 241 x1 x2 m = ebX11_sharedCells_4 g x1 x2 m := by
  unfold bX11_sharedCells_4 ebX11_sharedCells_4
  refine if_c (fun hc1 => ?_) (fun hc1 => ?_)
  · rfl
  · refine bdl_q (qlX11_sharedCells_16  (n := 100000) (s0 := (0, 0, m)) h) (fun cv2 sv3 hi4 => ?_)
    have h5 := nlX11_sharedCells_16  (s0 := (0, 0, m)) h ((qlX11_sharedCells_16  (n := 100000) (s0 := (0, 0, m)) h).symm.trans hi4)
    exact qX11_sharedCells_49 h5 
theorem nX11_sharedCells_4 {g : Shp} {m : Mem} {x1 x2 : Int} (h : Sh g m)  {c1 : Int} {s1 : (Int × Int × Mem)} (hF : ebX11_sharedCells_4 g x1 x2 m = some (c1, s1)) : Sh g s1.2.2 := by
  unfold ebX11_sharedCells_4 at hF
  rcases if_ok hF with ⟨hc1, hF⟩ | ⟨hc1, hF⟩
  · cases hF
    exact h
  · obtain ⟨cv2, sv3, hi4, hF⟩ := bdl_ok hF
    have h5 := nlX11_sharedCells_16  (s0 := (0, 0, m)) h hi4
    exact nX11_sharedCells_49 h5  hF
theorem nlX11_sharedCells_4 {g : Shp}  {n : Nat} {s0 s1 : (Int × Int × Mem)} {c1 : Int} (h : Sh g s0.2.2) (hI : iter (eBX11_sharedCells_4 g ) n s0 = some (c1, s1)) : Sh g s1.2.2 :=
  iter_inv (B := eBX11_sharedCells_4 g ) (fun q => Sh g q.2.2) (fun s c s' hs hB => nX11_sharedCells_4 hs  hB) n s0 c1 s1 h hI
theorem qlX11_sharedCells_4 {g : Shp}  {n : Nat} {s0 : (Int × Int × Mem)} (h : Sh g s0.2.2) : iter (BX11_sharedCells_4 g 241) n s0 = iter (eBX11_sharedCells_4 g ) n s0 :=
  iter_eq (B := BX11_sharedCells_4 g 241) (E := eBX11_sharedCells_4 g ) (fun q => Sh g q.2.2) (fun s hs => qX11_sharedCells_4 hs ) (fun s c s' hs hB => nX11_sharedCells_4 hs  ((qX11_sharedCells_4 hs ).symm.trans hB)) n s0 h
set_option maxRecDepth 20000 in
theorem qX11_sharedCells_68 {g : Shp} {m : Mem} {x1 : Int} (h : Sh g m)  : bX11_sharedCells_68 g x1 m = ebX11_sharedCells_68 g x1 m := by
  unfold bX11_sharedCells_68 ebX11_sharedCells_68
  rfl
theorem nX11_sharedCells_68 {g : Shp} {m : Mem} {x1 : Int} (h : Sh g m)  {r : Int} {m' : Mem} (hF : ebX11_sharedCells_68 g x1 m = some (r, m')) : Sh g m' := by
  unfold ebX11_sharedCells_68 at hF
  cases hF
  exact h
set_option maxRecDepth 20000 in
theorem qX11_sharedCells_0 {g : Shp} {m : Mem} (h : Sh g m)  : bX11_sharedCells_0 g 241 m = ebX11_sharedCells_0 g m := by
  unfold bX11_sharedCells_0 ebX11_sharedCells_0
  refine bdl_q (qlX11_sharedCells_4  (n := 100000) (s0 := (0, 0, m)) h) (fun cv1 sv2 hi3 => ?_)
  have h4 := nlX11_sharedCells_4  (s0 := (0, 0, m)) h ((qlX11_sharedCells_4  (n := 100000) (s0 := (0, 0, m)) h).symm.trans hi3)
  exact qX11_sharedCells_68 h4 
theorem nX11_sharedCells_0 {g : Shp} {m : Mem} (h : Sh g m)  {r : Int} {m' : Mem} (hF : ebX11_sharedCells_0 g m = some (r, m')) : Sh g m' := by
  unfold ebX11_sharedCells_0 at hF
  obtain ⟨cv1, sv2, hi3, hF⟩ := bdl_ok hF
  have h4 := nlX11_sharedCells_4  (s0 := (0, 0, m)) h hi3
  exact nX11_sharedCells_68 h4  hF
theorem qX11_sharedCells {g : Shp} {m : Mem} (h : Sh g m)  : fX11_sharedCells g 241 m = eX11_sharedCells g m := qX11_sharedCells_0 h 
theorem nX11_sharedCells {g : Shp} {m : Mem} (h : Sh g m)  {r : Int} {m' : Mem} (hF : eX11_sharedCells g m = some (r, m')) : Sh g m' := nX11_sharedCells_0 h  hF
set_option maxRecDepth 20000 in
theorem qX11_count_133 {g : Shp} {m : Mem} {x3 z0 z1 : Int} (h : Sh g m)  : bX11_count_133 g 241 x3 z0 z1 m = ebX11_count_133 g x3 z0 z1 m := by
  unfold bX11_count_133 ebX11_count_133
  refine vv_c (fun y1 ey1 => ?_)
  refine vv_c (fun y2 ey2 => ?_)
  rfl
theorem nX11_count_133 {g : Shp} {m : Mem} {x3 z0 z1 : Int} (h : Sh g m)  {c1 : Int} {s1 : (Int × Int × Mem)} (hF : ebX11_count_133 g x3 z0 z1 m = some (c1, s1)) : Sh g s1.2.2 := by
  unfold ebX11_count_133 at hF
  obtain ⟨y1, ey1, hF⟩ := vv_ok hF
  obtain ⟨y2, ey2, hF⟩ := vv_ok hF
  cases hF
  exact h
set_option maxRecDepth 20000 in
theorem qX11_count_111 {g : Shp} {m : Mem} {x2 x3 : Int} (h : Sh g m)  : bX11_count_111 g 241 x2 x3 m = ebX11_count_111 g x2 x3 m := by
  unfold bX11_count_111 ebX11_count_111
  refine if_c (fun hc1 => ?_) (fun hc1 => ?_)
  · rfl
  · refine bd2_q (qX11_isCovered h ) (fun v2 m3 h4 => ?_)
    have hm3 := nX11_isCovered h  ((qX11_isCovered h ).symm.trans h4)
    refine if_c (fun hc5 => ?_) (fun hc5 => ?_)
    · exact qX11_count_133 hm3
    · exact qX11_count_133 hm3
theorem nX11_count_111 {g : Shp} {m : Mem} {x2 x3 : Int} (h : Sh g m)  {c1 : Int} {s1 : (Int × Int × Mem)} (hF : ebX11_count_111 g x2 x3 m = some (c1, s1)) : Sh g s1.2.2 := by
  unfold ebX11_count_111 at hF
  rcases if_ok hF with ⟨hc1, hF⟩ | ⟨hc1, hF⟩
  · cases hF
    exact h
  · obtain ⟨v2, m3, h4, hF⟩ := bd2_ok hF
    have hm3 := nX11_isCovered h  h4
    rcases if_ok hF with ⟨hc5, hF⟩ | ⟨hc5, hF⟩
    · exact nX11_count_133 hm3  hF
    · exact nX11_count_133 hm3  hF
theorem nlX11_count_111 {g : Shp}  {n : Nat} {s0 s1 : (Int × Int × Mem)} {c1 : Int} (h : Sh g s0.2.2) (hI : iter (eBX11_count_111 g ) n s0 = some (c1, s1)) : Sh g s1.2.2 :=
  iter_inv (B := eBX11_count_111 g ) (fun q => Sh g q.2.2) (fun s c s' hs hB => nX11_count_111 hs  hB) n s0 c1 s1 h hI
theorem qlX11_count_111 {g : Shp}  {n : Nat} {s0 : (Int × Int × Mem)} (h : Sh g s0.2.2) : iter (BX11_count_111 g 241) n s0 = iter (eBX11_count_111 g ) n s0 :=
  iter_eq (B := BX11_count_111 g 241) (E := eBX11_count_111 g ) (fun q => Sh g q.2.2) (fun s hs => qX11_count_111 hs ) (fun s c s' hs hB => nX11_count_111 hs  ((qX11_count_111 hs ).symm.trans hB)) n s0 h
set_option maxRecDepth 20000 in
theorem qX11_count_141 {g : Shp} {m : Mem} {x2 : Int} (h : Sh g m)  : bX11_count_141 g x2 m = ebX11_count_141 g x2 m := by
  unfold bX11_count_141 ebX11_count_141
  rfl
theorem nX11_count_141 {g : Shp} {m : Mem} {x2 : Int} (h : Sh g m)  {r : Int} {m' : Mem} (hF : ebX11_count_141 g x2 m = some (r, m')) : Sh g m' := by
  unfold ebX11_count_141 at hF
  cases hF
  exact h
set_option maxRecDepth 20000 in
theorem qX11_count_0 {g : Shp} {m : Mem} {x1 : Int} (h : Sh g m)  : bX11_count_0 g 241 x1 m = ebX11_count_0 g x1 m := by
  unfold bX11_count_0 ebX11_count_0
  refine if_c (fun hc1 => ?_) (fun hc1 => ?_)
  · rfl
  · refine if_c (fun hc2 => ?_) (fun hc2 => ?_)
    · have k3 := s_241_19 h
      rewrite [k3.1, ck_t k3.2.1]
      try rewrite [k3.2.2]
      refine ck_c (fun i4 => ?_)
      rfl
    · refine if_c (fun hc5 => ?_) (fun hc5 => ?_)
      · have k6 := s_241_19 h
        rewrite [k6.1, ck_t k6.2.1]
        try rewrite [k6.2.2]
        refine ck_c (fun i7 => ?_)
        rfl
      · refine if_c (fun hc8 => ?_) (fun hc8 => ?_)
        · have k9 := s_241_19 h
          rewrite [k9.1, ck_t k9.2.1]
          try rewrite [k9.2.2]
          refine ck_c (fun i10 => ?_)
          rfl
        · refine if_c (fun hc11 => ?_) (fun hc11 => ?_)
          · have k12 := s_241_0 h
            rewrite [k12.1, ck_t k12.2.1]
            try rewrite [k12.2.2]
            refine ck_c (fun i13 => ?_)
            rfl
          · refine if_c (fun hc14 => ?_) (fun hc14 => ?_)
            · have k15 := s_241_0 h
              rewrite [k15.1, ck_t k15.2.1]
              try rewrite [k15.2.2]
              refine ck_c (fun i16 => ?_)
              rfl
            · refine if_c (fun hc17 => ?_) (fun hc17 => ?_)
              · have k18 := s_241_0 h
                rewrite [k18.1, ck_t k18.2.1]
                try rewrite [k18.2.2]
                refine ck_c (fun i19 => ?_)
                rfl
              · refine if_c (fun hc20 => ?_) (fun hc20 => ?_)
                · rfl
                · refine if_c (fun hc21 => ?_) (fun hc21 => ?_)
                  · rfl
                  · refine if_c (fun hc22 => ?_) (fun hc22 => ?_)
                    · refine bdl_q (qlX11_count_111  (n := 100000) (s0 := (0, 0, m)) h) (fun cv23 sv24 hi25 => ?_)
                      have h26 := nlX11_count_111  (s0 := (0, 0, m)) h ((qlX11_count_111  (n := 100000) (s0 := (0, 0, m)) h).symm.trans hi25)
                      exact qX11_count_141 h26 
                    · refine if_c (fun hc27 => ?_) (fun hc27 => ?_)
                      · refine bd2_q (qX11_sharedCells h ) (fun v28 m29 h30 => ?_)
                        have hm29 := nX11_sharedCells h  ((qX11_sharedCells h ).symm.trans h30)
                        rfl
                      · rfl
theorem nX11_count_0 {g : Shp} {m : Mem} {x1 : Int} (h : Sh g m)  {r : Int} {m' : Mem} (hF : ebX11_count_0 g x1 m = some (r, m')) : Sh g m' := by
  unfold ebX11_count_0 at hF
  rcases if_ok hF with ⟨hc1, hF⟩ | ⟨hc1, hF⟩
  · cases hF
    exact h
  · rcases if_ok hF with ⟨hc2, hF⟩ | ⟨hc2, hF⟩
    · have k3 := s_241_19 h
      obtain ⟨i4, hF⟩ := ck_ok hF
      cases hF
      exact h
    · rcases if_ok hF with ⟨hc5, hF⟩ | ⟨hc5, hF⟩
      · have k6 := s_241_19 h
        obtain ⟨i7, hF⟩ := ck_ok hF
        cases hF
        exact h
      · rcases if_ok hF with ⟨hc8, hF⟩ | ⟨hc8, hF⟩
        · have k9 := s_241_19 h
          obtain ⟨i10, hF⟩ := ck_ok hF
          cases hF
          exact h
        · rcases if_ok hF with ⟨hc11, hF⟩ | ⟨hc11, hF⟩
          · have k12 := s_241_0 h
            obtain ⟨i13, hF⟩ := ck_ok hF
            cases hF
            exact h
          · rcases if_ok hF with ⟨hc14, hF⟩ | ⟨hc14, hF⟩
            · have k15 := s_241_0 h
              obtain ⟨i16, hF⟩ := ck_ok hF
              cases hF
              exact h
            · rcases if_ok hF with ⟨hc17, hF⟩ | ⟨hc17, hF⟩
              · have k18 := s_241_0 h
                obtain ⟨i19, hF⟩ := ck_ok hF
                cases hF
                exact h
              · rcases if_ok hF with ⟨hc20, hF⟩ | ⟨hc20, hF⟩
                · cases hF
                  exact h
                · rcases if_ok hF with ⟨hc21, hF⟩ | ⟨hc21, hF⟩
                  · cases hF
                    exact h
                  · rcases if_ok hF with ⟨hc22, hF⟩ | ⟨hc22, hF⟩
                    · obtain ⟨cv23, sv24, hi25, hF⟩ := bdl_ok hF
                      have h26 := nlX11_count_111  (s0 := (0, 0, m)) h hi25
                      exact nX11_count_141 h26  hF
                    · rcases if_ok hF with ⟨hc27, hF⟩ | ⟨hc27, hF⟩
                      · obtain ⟨v28, m29, h30, hF⟩ := bd2_ok hF
                        have hm29 := nX11_sharedCells h  h30
                        cases hF
                        exact hm29
                      · cases hF
                        exact h
theorem qX11_count {g : Shp} {m : Mem} {x1 : Int} (h : Sh g m)  : fX11_count g 241 x1 m = eX11_count g x1 m := qX11_count_0 h 
theorem nX11_count {g : Shp} {m : Mem} {x1 : Int} (h : Sh g m)  {r : Int} {m' : Mem} (hF : eX11_count g x1 m = some (r, m')) : Sh g m' := nX11_count_0 h  hF
