def bX11_readItem_102 (g : Shp) (z0 : Int) (m : Mem) : Option (Int × Mem) :=
  ck (z0 = 0 ∨ z0 = 1) <|
  some (z0, m)
def bX11_readItem_101 (g : Shp) (m : Mem) : Option (Int × Mem) :=
  bX11_readItem_102 g 0 m
def bX11_readItem_0 (g : Shp) (x0 : Int) (m : Mem) : Option (Int × Mem) :=
  ck (gk g (m x0 4) = 20) <|
  ck ((0 : Int) ≤ (m x0 6) ∧ (m x0 6) < gl g (m x0 4)) <|
  vv (m (m x0 4) (m x0 6)) fun y3 =>
  vm (ms m x0 6 (w32 ((m x0 6) + 1))) fun m4 =>
  if y3 = 98 then
    bd2 (fX11_readTheBag g x0 m4) fun v6 m7 =>
    some (v6, m7)
  else
    if y3 = 106 then
      bd2 (fX11_takeNumber g x0 m4) fun v11 m12 =>
      vm (ms m12 x0 8 v11) fun m15 =>
      bd2 (fX11_in g v11 0 2 m15) fun v16 m17 =>
      if v16 = 0 then
        bX11_readItem_101 g m17
      else
        bd2 (fX11_takeSign g x0 59 m17) fun v21 m22 =>
        if v21 = 0 then
          bX11_readItem_101 g m22
        else
          bX11_readItem_102 g 1 m22
    else
      if y3 = 108 then
        bd2 (fX11_readLine g x0 m4) fun v27 m28 =>
        some (v27, m28)
      else
        if y3 = 122 then
          bd2 (fX11_readSizes g x0 m4) fun v32 m33 =>
          some (v32, m33)
        else
          some (0, m4)
def fX11_readItem (g : Shp) (x0 : Int) (m : Mem) : Option (Int × Mem) := bX11_readItem_0 g x0 m
def bX11_readText_9 (g : Shp) (x0 : Int) (m : Mem) : Option (Int × (Int × Mem)) :=
  if (m x0 5) ≤ (m x0 6) then
    some (2, (0, m))
  else
    vv (m x0 6) fun y2 =>
    bd2 (fX11_readItem g x0 m) fun v3 m4 =>
    if v3 = 0 then
      some (1, (y2, m4))
    else
      some (0, (y2, m4))
def BX11_readText_9 (g : Shp) (x0 : Int) (q : (Int × Mem)) : Option (Int × (Int × Mem)) := bX11_readText_9 g x0 q.2
def bX11_readText_32 (g : Shp) (x1 : Int) (m : Mem) : Option (Int × Mem) :=
  some (x1, m)
def bX11_readText_37 (g : Shp) (m : Mem) : Option (Int × Mem) :=
  some ((-4), m)
def bX11_readText_0 (g : Shp) (x0 : Int) (m : Mem) : Option (Int × Mem) :=
  bd2 (fX11_begin g x0 m) fun v1 m2 =>
  vm (ms m2 x0 6 0) fun m4 =>
  bdl (iter (BX11_readText_9 g x0) 100000 (0, m4)) fun cv5 sv6 =>
  if cv5 = 1 then
    bX11_readText_32 g sv6.1 sv6.2
  else
    bX11_readText_37 g sv6.2
def fX11_readText (g : Shp) (x0 : Int) (m : Mem) : Option (Int × Mem) := bX11_readText_0 g x0 m
def bX11_takeRead_10 (g : Shp) (x0 x1 : Int) (m : Mem) : Option (Int × (Int × Mem)) :=
  if 3 ≤ x1 then
    some (1, (x1, m))
  else
    ck (gk g (m x0 19) = 20) <|
    ck (gk g (m x0 7) = 20) <|
    ck ((0 : Int) ≤ x1 ∧ x1 < gl g (m x0 7)) <|
    ck ((0 : Int) ≤ x1 ∧ x1 < gl g (m x0 19)) <|
    vm (ms m (m x0 19) x1 (m (m x0 7) x1)) fun m6 =>
    ck (gk g (m6 x0 21) = 20) <|
    ck (gk g (m6 x0 11) = 20) <|
    ck ((0 : Int) ≤ x1 ∧ x1 < gl g (m6 x0 11)) <|
    ck ((0 : Int) ≤ x1 ∧ x1 < gl g (m6 x0 21)) <|
    vm (ms m6 (m6 x0 21) x1 (m6 (m6 x0 11) x1)) fun m11 =>
    ck (gk g (m11 x0 23) = 20) <|
    ck (gk g (m11 x0 13) = 20) <|
    ck ((0 : Int) ≤ x1 ∧ x1 < gl g (m11 x0 13)) <|
    ck ((0 : Int) ≤ x1 ∧ x1 < gl g (m11 x0 23)) <|
    vm (ms m11 (m11 x0 23) x1 (m11 (m11 x0 13) x1)) fun m16 =>
    vv (w32 (x1 + 1)) fun y17 =>
    some (0, (y17, m16))
def BX11_takeRead_10 (g : Shp) (x0 : Int) (q : (Int × Mem)) : Option (Int × (Int × Mem)) := bX11_takeRead_10 g x0 q.1 q.2
def bX11_takeRead_59 (g : Shp) (x0 x1 : Int) (m : Mem) : Option (Int × (Int × Mem)) :=
  if 15 ≤ x1 then
    some (1, (x1, m))
  else
    ck (gk g (m x0 22) = 20) <|
    ck (gk g (m x0 12) = 20) <|
    ck ((0 : Int) ≤ x1 ∧ x1 < gl g (m x0 12)) <|
    ck ((0 : Int) ≤ x1 ∧ x1 < gl g (m x0 22)) <|
    vm (ms m (m x0 22) x1 (m (m x0 12) x1)) fun m6 =>
    vv (w32 (x1 + 1)) fun y7 =>
    some (0, (y7, m6))
def BX11_takeRead_59 (g : Shp) (x0 : Int) (q : (Int × Mem)) : Option (Int × (Int × Mem)) := bX11_takeRead_59 g x0 q.1 q.2
def bX11_takeRead_85 (g : Shp) (x0 x1 : Int) (m : Mem) : Option (Int × (Int × Mem)) :=
  if 180 ≤ x1 then
    some (1, (x1, m))
  else
    ck (gk g (m x0 24) = 20) <|
    ck (gk g (m x0 14) = 20) <|
    ck ((0 : Int) ≤ x1 ∧ x1 < gl g (m x0 14)) <|
    ck ((0 : Int) ≤ x1 ∧ x1 < gl g (m x0 24)) <|
    vm (ms m (m x0 24) x1 (m (m x0 14) x1)) fun m6 =>
    vv (w32 (x1 + 1)) fun y7 =>
    some (0, (y7, m6))
def BX11_takeRead_85 (g : Shp) (x0 : Int) (q : (Int × Mem)) : Option (Int × (Int × Mem)) := bX11_takeRead_85 g x0 q.1 q.2
def bX11_takeRead_136 (g : Shp) (x0 x1 z0 z1 z2 : Int) (m : Mem) : Option (Int × (Int × Mem)) :=
  ck ((0 : Int) ≤ z1 ∧ z1 < gl g z0) <|
  vm (ms m z0 z1 z2) fun m2 =>
  vv (w32 (x1 + 1)) fun y3 =>
  some (0, (y3, m2))
def bX11_takeRead_112 (g : Shp) (x0 x1 : Int) (m : Mem) : Option (Int × (Int × Mem)) :=
  if 433 ≤ x1 then
    some (1, (x1, m))
  else
    ck (gk g (m x0 0) = 20) <|
    if x1 < 33 then
      bX11_takeRead_136 g x0 x1 (m x0 0) x1 0 m
    else
      bX11_takeRead_136 g x0 x1 (m x0 0) x1 ((-4)) m
def BX11_takeRead_112 (g : Shp) (x0 : Int) (q : (Int × Mem)) : Option (Int × (Int × Mem)) := bX11_takeRead_112 g x0 q.1 q.2
def bX11_takeRead_155 (g : Shp) (x0 x1 : Int) (m : Mem) : Option (Int × (Int × Mem)) :=
  if 9 ≤ x1 then
    some (1, (x1, m))
  else
    ck (gk g (m x0 0) = 20) <|
    ck (gk g (m x0 9) = 20) <|
    ck ((0 : Int) ≤ x1 ∧ x1 < gl g (m x0 9)) <|
    ck ((0 : Int) ≤ (w32 (1 + x1)) ∧ (w32 (1 + x1)) < gl g (m x0 0)) <|
    vm (ms m (m x0 0) (w32 (1 + x1)) (m (m x0 9) x1)) fun m6 =>
    vv (w32 (x1 + 1)) fun y7 =>
    some (0, (y7, m6))
def BX11_takeRead_155 (g : Shp) (x0 : Int) (q : (Int × Mem)) : Option (Int × (Int × Mem)) := bX11_takeRead_155 g x0 q.1 q.2
def bX11_takeRead_183 (g : Shp) (x0 x1 : Int) (m : Mem) : Option (Int × (Int × Mem)) :=
  if 3 ≤ x1 then
    some (1, (x1, m))
  else
    ck (gk g (m x0 0) = 20) <|
    ck ((0 : Int) ≤ (w32 (10 + x1)) ∧ (w32 (10 + x1)) < gl g (m x0 0)) <|
    vm (ms m (m x0 0) (w32 (10 + x1)) ((-4))) fun m4 =>
    vv (w32 (x1 + 1)) fun y5 =>
    some (0, (y5, m4))
def BX11_takeRead_183 (g : Shp) (x0 : Int) (q : (Int × Mem)) : Option (Int × (Int × Mem)) := bX11_takeRead_183 g x0 q.1 q.2
def bX11_takeRead_205 (g : Shp) (x0 : Int) (m : Mem) : Option (Int × Mem) :=
  vm (ms m x0 3 0) fun m1 =>
  some (0, m1)
def bX11_takeRead_181 (g : Shp) (x0 : Int) (m : Mem) : Option (Int × Mem) :=
  bdl (iter (BX11_takeRead_183 g x0) 100000 (0, m)) fun cv1 sv2 =>
  bX11_takeRead_205 g x0 sv2.2
def bX11_takeRead_143 (g : Shp) (x0 : Int) (m : Mem) : Option (Int × Mem) :=
  ck (gk g (m x0 0) = 20) <|
  ck ((0 : Int) ≤ 0 ∧ 0 < gl g (m x0 0)) <|
  vm (ms m (m x0 0) 0 (m x0 8)) fun m3 =>
  bdl (iter (BX11_takeRead_155 g x0) 100000 (0, m3)) fun cv4 sv5 =>
  bX11_takeRead_181 g x0 sv5.2
def bX11_takeRead_110 (g : Shp) (x0 : Int) (m : Mem) : Option (Int × Mem) :=
  bdl (iter (BX11_takeRead_112 g x0) 100000 (0, m)) fun cv1 sv2 =>
  bX11_takeRead_143 g x0 sv2.2
def bX11_takeRead_83 (g : Shp) (x0 : Int) (m : Mem) : Option (Int × Mem) :=
  bdl (iter (BX11_takeRead_85 g x0) 100000 (0, m)) fun cv1 sv2 =>
  bX11_takeRead_110 g x0 sv2.2
def bX11_takeRead_57 (g : Shp) (x0 : Int) (m : Mem) : Option (Int × Mem) :=
  bdl (iter (BX11_takeRead_59 g x0) 100000 (0, m)) fun cv1 sv2 =>
  bX11_takeRead_83 g x0 sv2.2
def bX11_takeRead_0 (g : Shp) (x0 : Int) (m : Mem) : Option (Int × Mem) :=
  vm (ms m x0 20 (m x0 10)) fun m1 =>
  bdl (iter (BX11_takeRead_10 g x0) 100000 (0, m1)) fun cv2 sv3 =>
  bX11_takeRead_57 g x0 sv3.2
def fX11_takeRead (g : Shp) (x0 : Int) (m : Mem) : Option (Int × Mem) := bX11_takeRead_0 g x0 m
def bX11_write_0 (g : Shp) (x0 x1 : Int) (m : Mem) : Option (Int × Mem) :=
  bd2 (fX11_in g x1 32 126 m) fun v1 m2 =>
  if v1 = 0 then
    some ((-1), m2)
  else
    if (m2 x0 5) = 200 then
      some ((-3), m2)
    else
      ck (gk g (m2 x0 4) = 20) <|
      ck ((0 : Int) ≤ (m2 x0 5) ∧ (m2 x0 5) < gl g (m2 x0 4)) <|
      vm (ms m2 (m2 x0 4) (m2 x0 5) x1) fun m9 =>
      vm (ms m9 x0 5 (w32 ((m9 x0 5) + 1))) fun m10 =>
      some (m10 x0 5, m10)
def fX11_write (g : Shp) (x0 x1 : Int) (m : Mem) : Option (Int × Mem) := bX11_write_0 g x0 x1 m
def bX11_wipe_0 (g : Shp) (x0 : Int) (m : Mem) : Option (Int × Mem) :=
  vv (m x0 5) fun y1 =>
  vm (ms m x0 5 0) fun m2 =>
  some (y1, m2)
def fX11_wipe (g : Shp) (x0 : Int) (m : Mem) : Option (Int × Mem) := bX11_wipe_0 g x0 m
def bX11_fault_0 (g : Shp) (x0 : Int) (m : Mem) : Option (Int × Mem) :=
  bd2 (fX11_readText g x0 m) fun v1 m2 =>
  some (v1, m2)
def fX11_fault (g : Shp) (x0 : Int) (m : Mem) : Option (Int × Mem) := bX11_fault_0 g x0 m
def bX11_lay_16 (g : Shp) (m : Mem) : Option (Int × Mem) :=
  some ((-2), m)
def bX11_lay_0 (g : Shp) (x0 : Int) (m : Mem) : Option (Int × Mem) :=
  bd2 (fX11_readText g x0 m) fun v1 m2 =>
  if v1 = ((-4)) then
    if (m2 x0 10) = 0 then
      bX11_lay_16 g m2
    else
      bd2 (fX11_takeRead g x0 m2) fun v7 m8 =>
      some (m8 x0 20, m8)
  else
    bX11_lay_16 g m2
def fX11_lay (g : Shp) (x0 : Int) (m : Mem) : Option (Int × Mem) := bX11_lay_0 g x0 m
def bX11_bring_3 (g : Shp) (x0 x1 x2 x3 x4 : Int) (m : Mem) : Option (Int × (Int × Mem)) :=
  if 433 ≤ x4 then
    some (1, (x4, m))
  else
    ck ((0 : Int) ≤ (w32 (x1 + x4)) ∧ (w32 (x1 + x4)) < gl g x0) <|
    ck ((0 : Int) ≤ (w32 (x3 + x4)) ∧ (w32 (x3 + x4)) < gl g x2) <|
    vm (ms m x2 (w32 (x3 + x4)) (m x0 (w32 (x1 + x4)))) fun m4 =>
    vv (w32 (x4 + 1)) fun y5 =>
    some (0, (y5, m4))
def BX11_bring_3 (g : Shp) (x0 x1 x2 x3 : Int) (q : (Int × Mem)) : Option (Int × (Int × Mem)) := bX11_bring_3 g x0 x1 x2 x3 q.1 q.2
def bX11_bring_29 (g : Shp) (m : Mem) : Option (Int × Mem) :=
  some (0, m)
def bX11_bring_0 (g : Shp) (x0 x1 x2 x3 : Int) (m : Mem) : Option (Int × Mem) :=
  bdl (iter (BX11_bring_3 g x0 x1 x2 x3) 100000 (0, m)) fun cv1 sv2 =>
  bX11_bring_29 g sv2.2
def fX11_bring (g : Shp) (x0 x1 x2 x3 : Int) (m : Mem) : Option (Int × Mem) := bX11_bring_0 g x0 x1 x2 x3 m
def bX11_note_11 (g : Shp) (x0 x1 : Int) (m : Mem) : Option (Int × (Int × Mem)) :=
  if 2165 ≤ x1 then
    some (1, (x1, m))
  else
    ck (gk g (m x0 2) = 20) <|
    ck ((0 : Int) ≤ (w32 (x1 + 433)) ∧ (w32 (x1 + 433)) < gl g (m x0 2)) <|
    ck ((0 : Int) ≤ x1 ∧ x1 < gl g (m x0 2)) <|
    vm (ms m (m x0 2) x1 (m (m x0 2) (w32 (x1 + 433)))) fun m5 =>
    vv (w32 (x1 + 1)) fun y6 =>
    some (0, (y6, m5))
def BX11_note_11 (g : Shp) (x0 : Int) (q : (Int × Mem)) : Option (Int × (Int × Mem)) := bX11_note_11 g x0 q.1 q.2
def bX11_note_50 (g : Shp) (x0 : Int) (m : Mem) : Option (Int × Mem) :=
  ck (gk g (m x0 0) = 20) <|
  ck (gk g (m x0 2) = 20) <|
  bd2 (fX11_bring g (m x0 0) 0 (m x0 2) (w32 (433 * (m x0 3))) m) fun v3 m4 =>
  vm (ms m4 x0 3 (w32 ((m4 x0 3) + 1))) fun m6 =>
  some (0, m6)
def bX11_note_40 (g : Shp) (x0 : Int) (m : Mem) : Option (Int × Mem) :=
  vm (ms m x0 3 (w32 ((m x0 3) - 1))) fun m1 =>
  bX11_note_50 g x0 m1
def bX11_note_0 (g : Shp) (x0 : Int) (m : Mem) : Option (Int × Mem) :=
  if (m x0 3) = 6 then
    bdl (iter (BX11_note_11 g x0) 100000 (0, m)) fun cv2 sv3 =>
    bX11_note_40 g x0 sv3.2
  else
    bX11_note_50 g x0 m
def fX11_note (g : Shp) (x0 : Int) (m : Mem) : Option (Int × Mem) := bX11_note_0 g x0 m
def bX11_undo_0 (g : Shp) (x0 : Int) (m : Mem) : Option (Int × Mem) :=
  if (m x0 3) = 0 then
    some ((-2), m)
  else
    vm (ms m x0 3 (w32 ((m x0 3) - 1))) fun m2 =>
    ck (gk g (m2 x0 2) = 20) <|
    ck (gk g (m2 x0 0) = 20) <|
    bd2 (fX11_bring g (m2 x0 2) (w32 (433 * (m2 x0 3))) (m2 x0 0) 0 m2) fun v5 m6 =>
    some (m6 x0 3, m6)
def fX11_undo (g : Shp) (x0 : Int) (m : Mem) : Option (Int × Mem) := bX11_undo_0 g x0 m
def bX11_joint_0 (g : Shp) (x0 x1 : Int) (m : Mem) : Option (Int × Mem) :=
  bd2 (fX11_in g x1 0 2 m) fun v1 m2 =>
  if v1 = 0 then
    some ((-1), m2)
  else
    ck (gk g (m2 x0 0) = 20) <|
    ck ((0 : Int) ≤ 0 ∧ 0 < gl g (m2 x0 0)) <|
    if (m2 (m2 x0 0) 0) = x1 then
      some ((-2), m2)
    else
      bd2 (fX11_note g x0 m2) fun v9 m10 =>
      ck (gk g (m10 x0 0) = 20) <|
      ck ((0 : Int) ≤ 0 ∧ 0 < gl g (m10 x0 0)) <|
      vv (m10 (m10 x0 0) 0) fun y14 =>
      ck ((0 : Int) ≤ 0 ∧ 0 < gl g (m10 x0 0)) <|
      vm (ms m10 (m10 x0 0) 0 x1) fun m16 =>
      some (y14, m16)
def fX11_joint (g : Shp) (x0 x1 : Int) (m : Mem) : Option (Int × Mem) := bX11_joint_0 g x0 x1 m
def bX11_ownMany_30 (g : Shp) (x0 x1 x3 z0 z1 : Int) (m : Mem) : Option (Int × (Int × Int × Mem)) :=
  vv (w32 (z0 + z1)) fun y1 =>
  vv (w32 (x3 + 1)) fun y2 =>
  some (0, (y1, y2, m))
def bX11_ownMany_4 (g : Shp) (x0 x1 x2 x3 : Int) (m : Mem) : Option (Int × (Int × Int × Mem)) :=
  if 400 ≤ x3 then
    some (1, (x2, x3, m))
  else
    ck (gk g (m x0 0) = 20) <|
    ck ((0 : Int) ≤ (w32 (33 + x3)) ∧ (w32 (33 + x3)) < gl g (m x0 0)) <|
    if (m (m x0 0) (w32 (33 + x3))) = x1 then
      bX11_ownMany_30 g x0 x1 x3 x2 1 m
    else
      bX11_ownMany_30 g x0 x1 x3 x2 0 m
def BX11_ownMany_4 (g : Shp) (x0 x1 : Int) (q : (Int × Int × Mem)) : Option (Int × (Int × Int × Mem)) := bX11_ownMany_4 g x0 x1 q.1 q.2.1 q.2.2
def bX11_ownMany_38 (g : Shp) (x2 : Int) (m : Mem) : Option (Int × Mem) :=
  some (x2, m)
def bX11_ownMany_0 (g : Shp) (x0 x1 : Int) (m : Mem) : Option (Int × Mem) :=
  bdl (iter (BX11_ownMany_4 g x0 x1) 100000 (0, 0, m)) fun cv1 sv2 =>
  bX11_ownMany_38 g sv2.1 sv2.2.2
def fX11_ownMany (g : Shp) (x0 x1 : Int) (m : Mem) : Option (Int × Mem) := bX11_ownMany_0 g x0 x1 m
def bX11_line_0 (g : Shp) (x0 x1 x2 : Int) (m : Mem) : Option (Int × Mem) :=
  bd2 (fX11_isLine g x0 x1 m) fun v1 m2 =>
  if v1 = 0 then
    some ((-1), m2)
  else
    if x2 = 0 then
      ck (gk g (m2 x0 21) = 20) <|
      ck ((0 : Int) ≤ x1 ∧ x1 < gl g (m2 x0 21)) <|
      some (m2 (m2 x0 21) x1, m2)
    else
      if x2 = 1 then
        ck (gk g (m2 x0 23) = 20) <|
        ck ((0 : Int) ≤ x1 ∧ x1 < gl g (m2 x0 23)) <|
        some (m2 (m2 x0 23) x1, m2)
      else
        if x2 = 2 then
          ck (gk g (m2 x0 21) = 20) <|
          ck ((0 : Int) ≤ x1 ∧ x1 < gl g (m2 x0 21)) <|
          some (w32 ((m2 (m2 x0 21) x1) - 1), m2)
        else
          if x2 = 3 then
            ck (gk g (m2 x0 0) = 20) <|
            ck ((0 : Int) ≤ (w32 (10 + x1)) ∧ (w32 (10 + x1)) < gl g (m2 x0 0)) <|
            some (m2 (m2 x0 0) (w32 (10 + x1)), m2)
          else
            if x2 = 4 then
              bd2 (fX11_ownMany g x0 x1 m2) fun v19 m20 =>
              some (v19, m20)
            else
              if x2 = 5 then
                ck (gk g (m2 x0 0) = 20) <|
                ck ((0 : Int) ≤ (w32 (13 + x1)) ∧ (w32 (13 + x1)) < gl g (m2 x0 0)) <|
                some (m2 (m2 x0 0) (w32 (13 + x1)), m2)
              else
                if x2 = 6 then
                  ck (gk g (m2 x0 0) = 20) <|
                  ck ((0 : Int) ≤ (w32 (16 + x1)) ∧ (w32 (16 + x1)) < gl g (m2 x0 0)) <|
                  some (m2 (m2 x0 0) (w32 (16 + x1)), m2)
                else
                  some ((-1), m2)
def fX11_line (g : Shp) (x0 x1 x2 : Int) (m : Mem) : Option (Int × Mem) := bX11_line_0 g x0 x1 x2 m
def bX11_cell_12 (g : Shp) (m : Mem) : Option (Int × Mem) :=
  some ((-1), m)
def bX11_cell_40 (g : Shp) (z0 : Int) (m : Mem) : Option (Int × Mem) :=
  some (z0, m)
def bX11_cell_0 (g : Shp) (x0 x1 x2 : Int) (m : Mem) : Option (Int × Mem) :=
  bd2 (fX11_isLine g x0 x1 m) fun v1 m2 =>
  if v1 = 0 then
    bX11_cell_12 g m2
  else
    if 0 ≤ x2 then
      ck (gk g (m2 x0 23) = 20) <|
      ck ((0 : Int) ≤ x1 ∧ x1 < gl g (m2 x0 23)) <|
      if (m2 (m2 x0 23) x1) ≤ x2 then
        bX11_cell_40 g ((-4)) m2
      else
        ck (gk g (m2 x0 24) = 20) <|
        ck ((0 : Int) ≤ (w32 ((w32 (60 * x1)) + x2)) ∧ (w32 ((w32 (60 * x1)) + x2)) < gl g (m2 x0 24)) <|
        bX11_cell_40 g (m2 (m2 x0 24) (w32 ((w32 (60 * x1)) + x2))) m2
    else
      bX11_cell_12 g m2
def fX11_cell (g : Shp) (x0 x1 x2 : Int) (m : Mem) : Option (Int × Mem) := bX11_cell_0 g x0 x1 x2 m
def bX11_whose_38 (g : Shp) (z0 : Int) (m : Mem) : Option (Int × Mem) :=
  some (z0, m)
def bX11_whose_37 (g : Shp) (m : Mem) : Option (Int × Mem) :=
  bX11_whose_38 g ((-1)) m
def bX11_whose_0 (g : Shp) (x0 x1 x2 : Int) (m : Mem) : Option (Int × Mem) :=
  bd2 (fX11_in g x1 0 19 m) fun v1 m2 =>
  if v1 = 0 then
    bX11_whose_37 g m2
  else
    bd2 (fX11_in g x2 0 19 m2) fun v6 m7 =>
    if v6 = 0 then
      bX11_whose_37 g m7
    else
      ck (gk g (m7 x0 0) = 20) <|
      ck ((0 : Int) ≤ (w32 ((w32 (33 + (w32 (20 * x2)))) + x1)) ∧ (w32 ((w32 (33 + (w32 (20 * x2)))) + x1)) < gl g (m7 x0 0)) <|
      bX11_whose_38 g (m7 (m7 x0 0) (w32 ((w32 (33 + (w32 (20 * x2)))) + x1))) m7
def fX11_whose (g : Shp) (x0 x1 x2 : Int) (m : Mem) : Option (Int × Mem) := bX11_whose_0 g x0 x1 x2 m
def bX11_endPiece_34 (g : Shp) (m : Mem) : Option (Int × Mem) :=
  some (0, m)
def bX11_endPiece_0 (g : Shp) (x0 x1 x2 : Int) (m : Mem) : Option (Int × Mem) :=
  if x1 ≤ 0 then
    bX11_endPiece_34 g m
  else
    ck (gk g (m x0 25) = 20) <|
    ck ((0 : Int) ≤ (m x0 27) ∧ (m x0 27) < gl g (m x0 25)) <|
    vm (ms m (m x0 25) (m x0 27) x1) fun m4 =>
    ck (gk g (m4 x0 26) = 21) <|
    ck ((0 : Int) ≤ (m4 x0 27) ∧ (m4 x0 27) < gl g (m4 x0 26)) <|
    ck (x2 = 0 ∨ x2 = 1) <|
    vm (ms m4 (m4 x0 26) (m4 x0 27) x2) fun m8 =>
    vm (ms m8 x0 27 (w32 ((m8 x0 27) + 1))) fun m9 =>
    bX11_endPiece_34 g m9
def fX11_endPiece (g : Shp) (x0 x1 x2 : Int) (m : Mem) : Option (Int × Mem) := bX11_endPiece_0 g x0 x1 x2 m
set_option maxRecDepth 20000 in
theorem wX11_readItem_102 {p : Program} {l : Launch} {e : Env} {s : State} {mt : MethodId} {args : Array Value} {below : List Frame} {meth : Method} {c : Code} {Q : State → Prop} {G : Gl} {A : Nat → Prop} {H0 : Heap} {ad : Int → Nat} {g : Shp} {H : Heap} {locs : List Loc} {ls : Array Slot} {m : Mem} {z0 : Int} (C : CallFix p mt c cX11_readItem 3 s args tb RX11) (S : Wd G A s H0 ad g m H locs) (hz0 : r32 z0) (hl : lv_has ls 3 []) {r : Int} {m' : Mem} (hF : bX11_readItem_102 g z0 m = some (r, m')) (Kr : ∀ (H : Heap) (locs : List Loc) (pc : Nat) (ls : Array Slot), Wd G A s H0 ad g m' H locs → decode cX11_readItem pc = .ok (.ireturn, 1) → r32 r ∧ (true = true → r = 0 ∨ r = 1) → narrow .boolean (.int (iI r)) = .int (iI r) → W p l e rX11_readItem s mt args below meth c H locs 0 0 Q (F0 mt pc ls [.int (iI r)])) : W p l e rX11_readItem s mt args below meth c H locs 0 0 Q (F0 mt 102 ls [.int (iI z0)]) := by
  unfold bX11_readItem_102 at hF
  obtain ⟨b1, hF⟩ := ck_ok hF
  cases hF
  exact Kr _ _ _ _ S dX11_readItem_102 ⟨r_b b1, fun _ => b1⟩ (nr_b b1)
set_option maxRecDepth 20000 in
theorem wX11_readItem_101 {p : Program} {l : Launch} {e : Env} {s : State} {mt : MethodId} {args : Array Value} {below : List Frame} {meth : Method} {c : Code} {Q : State → Prop} {G : Gl} {A : Nat → Prop} {H0 : Heap} {ad : Int → Nat} {g : Shp} {H : Heap} {locs : List Loc} {ls : Array Slot} {m : Mem} (C : CallFix p mt c cX11_readItem 3 s args tb RX11) (S : Wd G A s H0 ad g m H locs)  (hl : lv_has ls 3 []) {r : Int} {m' : Mem} (hF : bX11_readItem_101 g m = some (r, m')) (Kr : ∀ (H : Heap) (locs : List Loc) (pc : Nat) (ls : Array Slot), Wd G A s H0 ad g m' H locs → decode cX11_readItem pc = .ok (.ireturn, 1) → r32 r ∧ (true = true → r = 0 ∨ r = 1) → narrow .boolean (.int (iI r)) = .int (iI r) → W p l e rX11_readItem s mt args below meth c H locs 0 0 Q (F0 mt pc ls [.int (iI r)])) : W p l e rX11_readItem s mt args below meth c H locs 0 0 Q (F0 mt 101 ls []) := by
  unfold bX11_readItem_101 at hF
  refine q_iconst C 0 dX11_readItem_101 ?_
  exact wX11_readItem_102 C S (rl 0 rfl) (lv_sub hl [] rfl) hF Kr
set_option maxRecDepth 20000 in
theorem wX11_readItem_0 {p : Program} {l : Launch} {e : Env} {s : State} {mt : MethodId} {args : Array Value} {below : List Frame} {meth : Method} {c : Code} {Q : State → Prop} {G : Gl} {A : Nat → Prop} {H0 : Heap} {ad : Int → Nat} {g : Shp} {H : Heap} {locs : List Loc} {ls : Array Slot} {m : Mem} {x0 : Int} (C : CallFix p mt c cX11_readItem 3 s args tb RX11) (S : Wd G A s H0 ad g m H locs) (hx0 : gk g x0 = 12) (hl : lv_has ls 3 [(0, .ref (ad x0))]) {r : Int} {m' : Mem} (hF : bX11_readItem_0 g x0 m = some (r, m')) (Kr : ∀ (H : Heap) (locs : List Loc) (pc : Nat) (ls : Array Slot), Wd G A s H0 ad g m' H locs → decode cX11_readItem pc = .ok (.ireturn, 1) → r32 r ∧ (true = true → r = 0 ∨ r = 1) → narrow .boolean (.int (iI r)) = .int (iI r) → W p l e rX11_readItem s mt args below meth c H locs 0 0 Q (F0 mt pc ls [.int (iI r)])) : W p l e rX11_readItem s mt args below meth c H locs 0 0 Q (F0 mt 0 ls []) := by
  unfold bX11_readItem_0 at hF
  refine q_aload_n C hl 0 rfl rfl dX11_readItem_0 ?_
  obtain ⟨k1, hF⟩ := ck_ok hF
  refine q_getr C S 4 fo_RX11_19 (j := 4) rfl rfl hx0 k1 (by decide) dX11_readItem_1 ?_
  refine q_aload_n C hl 0 rfl rfl dX11_readItem_4 ?_
  refine q_geti C S 6 fo_RX11_134 (j := 6) rfl rfl hx0 dX11_readItem_5 ?_
  obtain ⟨i2, hF⟩ := ck_ok hF
  refine q_iald C S k1 i2 dX11_readItem_8 ?_
  obtain ⟨y3, ey3, hF⟩ := vv_ok hF
  have ry3 : r32 y3 := ey3 ▸ (S.r _ _)
  refine q_istore_n C hl [(1, .int (iI y3)), (0, .ref (ad x0))] ey3 rfl (by decide) rfl dX11_readItem_9 (fun ls hl => ?_)
  refine q_aload_n C hl 1 rfl rfl dX11_readItem_10 ?_
  refine q_dup C rfl dX11_readItem_11 ?_
  refine q_geti C S 6 fo_RX11_134 (j := 6) rfl rfl hx0 dX11_readItem_12 ?_
  refine q_iconst C 1 dX11_readItem_15 ?_
  refine q_iadd C dX11_readItem_16 ?_
  obtain ⟨m4, em4, hF⟩ := vm_ok hF
  refine q_put C S 6 fo_RX11_134 fp_12_6 (fun h9 => absurd h9 (by decide)) (j := 6) rfl hx0 rfl rfl rfl (r32_w _) (fun h9 => absurd h9 (by decide)) em4 dX11_readItem_17 (fun H locs Sm4 => ?_)
  refine q_iload_n C hl 0 rfl rfl dX11_readItem_20 ?_
  by_cases hc5 : y3 = 98
  · have hF := if_t hc5 hF
    refine q_look C ry3 82 103 dX11_readItem_21 (by decide) (by rw [hc5]; decide) (by decide) ?_
    refine q_aload_n C hl 1 rfl rfl dX11_readItem_103 ?_
    obtain ⟨v6, m7, h8, hF⟩ := bd2_ok hF
    refine q_ci Sm4 (run_V (As := []) (rest := []) C Sm4 (cX11_readTheBag_ok l G hx0 h8 ad _) hx0 ⟨by decide, _, _, rfl⟩ gd_RX11_154 hdV_X11_readTheBag rfl ⟨rfl, rfl, by decide, by decide⟩ ⟨Nat.zero_le _, Nat.zero_le _⟩ hl.1 rfl (Nat.le_of_ble_eq_true rfl) dX11_readItem_104) (fun H locs Sm7 h9 => ?_)
    cases hF
    exact Kr _ _ _ _ Sm7 dX11_readItem_107 ⟨r_b (h9.2 rfl), fun _ => (h9.2 rfl)⟩ (nr_b (h9.2 rfl))
  · have hF := if_f hc5 hF
    by_cases hc10 : y3 = 106
    · have hF := if_t hc10 hF
      refine q_look C ry3 48 69 dX11_readItem_21 (by decide) (by rw [hc10]; decide) (by decide) ?_
      refine q_aload_n C hl 1 rfl rfl dX11_readItem_69 ?_
      obtain ⟨v11, m12, h13, hF⟩ := bd2_ok hF
      refine q_ci Sm4 (run_V (As := []) (rest := []) C Sm4 (cX11_takeNumber_ok l G hx0 h13 ad _) hx0 ⟨by decide, _, _, rfl⟩ gd_RX11_140 hdV_X11_takeNumber rfl ⟨rfl, rfl, by decide, by decide⟩ ⟨Nat.zero_le _, Nat.zero_le _⟩ hl.1 rfl (Nat.le_of_ble_eq_true rfl) dX11_readItem_70) (fun H locs Sm12 h14 => ?_)
      refine q_istore_n C hl [(2, .int (iI v11)), (1, .int (iI y3)), (0, .ref (ad x0))] rfl rfl (by decide) rfl dX11_readItem_73 (fun ls hl => ?_)
      refine q_aload_n C hl 2 rfl rfl dX11_readItem_74 ?_
      refine q_iload_n C hl 0 rfl rfl dX11_readItem_75 ?_
      obtain ⟨m15, em15, hF⟩ := vm_ok hF
      refine q_put C Sm12 8 fo_RX11_114 fp_12_8 (fun h9 => absurd h9 (by decide)) (j := 8) rfl hx0 rfl rfl rfl h14.1 (fun h9 => absurd h9 (by decide)) em15 dX11_readItem_76 (fun H locs Sm15 => ?_)
      refine q_iload_n C hl 0 rfl rfl dX11_readItem_79 ?_
      refine q_iconst C 0 dX11_readItem_80 ?_
      refine q_iconst C 2 dX11_readItem_81 ?_
      obtain ⟨v16, m17, h18, hF⟩ := bd2_ok hF
      refine q_ci Sm15 (run_S (As := [.int (iI v11), .int (iI 0), .int (iI 2)]) (rest := []) C Sm15 (cX11_in_ok l G h14.1 (rl 0 rfl) (rl 2 rfl) h18 ad _) gd_RX11_110 hd_X11_in rfl ⟨rfl, rfl, by decide, by decide⟩ ⟨Nat.zero_le _, Nat.zero_le _⟩ hl.1 rfl (Nat.le_of_ble_eq_true rfl) dX11_readItem_82) (fun H locs Sm17 h19 => ?_)
      refine q_if_eq C h19.1 101 dX11_readItem_85 (by decide) (fun hc20 => ?_) (fun hc20 => ?_)
      · have hF := if_t hc20 hF
        exact wX11_readItem_101 C Sm17  (lv_sub hl [] rfl) hF Kr
      · have hF := if_f hc20 hF
        refine q_aload_n C hl 2 rfl rfl dX11_readItem_88 ?_
        refine q_bipush C 59 (by decide) dX11_readItem_89 ?_
        obtain ⟨v21, m22, h23, hF⟩ := bd2_ok hF
        refine q_ci Sm17 (run_V (As := [.int (iI 59)]) (rest := []) C Sm17 (cX11_takeSign_ok l G hx0 (rl 59 rfl) h23 ad _) hx0 ⟨by decide, _, _, rfl⟩ gd_RX11_144 hdV_X11_takeSign rfl ⟨rfl, rfl, by decide, by decide⟩ ⟨Nat.zero_le _, Nat.zero_le _⟩ hl.1 rfl (Nat.le_of_ble_eq_true rfl) dX11_readItem_91) (fun H locs Sm22 h24 => ?_)
        refine q_if_eq C h24.1 101 dX11_readItem_94 (by decide) (fun hc25 => ?_) (fun hc25 => ?_)
        · have hF := if_t hc25 hF
          exact wX11_readItem_101 C Sm22  (lv_sub hl [] rfl) hF Kr
        · have hF := if_f hc25 hF
          refine q_iconst C 1 dX11_readItem_97 ?_
          refine q_goto C 102 dX11_readItem_98 (by decide) ?_
          exact wX11_readItem_102 C Sm22 (rl 1 rfl) (lv_sub hl [] rfl) hF Kr
    · have hF := if_f hc10 hF
      by_cases hc26 : y3 = 108
      · have hF := if_t hc26 hF
        refine q_look C ry3 87 108 dX11_readItem_21 (by decide) (by rw [hc26]; decide) (by decide) ?_
        refine q_aload_n C hl 1 rfl rfl dX11_readItem_108 ?_
        obtain ⟨v27, m28, h29, hF⟩ := bd2_ok hF
        refine q_ci Sm4 (run_V (As := []) (rest := []) C Sm4 (cX11_readLine_ok l G hx0 h29 ad _) hx0 ⟨by decide, _, _, rfl⟩ gd_RX11_157 hdV_X11_readLine rfl ⟨rfl, rfl, by decide, by decide⟩ ⟨Nat.zero_le _, Nat.zero_le _⟩ hl.1 rfl (Nat.le_of_ble_eq_true rfl) dX11_readItem_109) (fun H locs Sm28 h30 => ?_)
        cases hF
        exact Kr _ _ _ _ Sm28 dX11_readItem_112 ⟨r_b (h30.2 rfl), fun _ => (h30.2 rfl)⟩ (nr_b (h30.2 rfl))
      · have hF := if_f hc26 hF
        by_cases hc31 : y3 = 122
        · have hF := if_t hc31 hF
          refine q_look C ry3 43 64 dX11_readItem_21 (by decide) (by rw [hc31]; decide) (by decide) ?_
          refine q_aload_n C hl 1 rfl rfl dX11_readItem_64 ?_
          obtain ⟨v32, m33, h34, hF⟩ := bd2_ok hF
          refine q_ci Sm4 (run_V (As := []) (rest := []) C Sm4 (cX11_readSizes_ok l G hx0 h34 ad _) hx0 ⟨by decide, _, _, rfl⟩ gd_RX11_151 hdV_X11_readSizes rfl ⟨rfl, rfl, by decide, by decide⟩ ⟨Nat.zero_le _, Nat.zero_le _⟩ hl.1 rfl (Nat.le_of_ble_eq_true rfl) dX11_readItem_65) (fun H locs Sm33 h35 => ?_)
          cases hF
          exact Kr _ _ _ _ Sm33 dX11_readItem_68 ⟨r_b (h35.2 rfl), fun _ => (h35.2 rfl)⟩ (nr_b (h35.2 rfl))
        · have hF := if_f hc31 hF
          refine q_look C ry3 92 113 dX11_readItem_21 (by decide) (by simp [Op.lookupswitch.offset]; rw [if_neg (fun h9 : (98 : Int) = y3 => hc5 h9.symm), if_neg (fun h9 : (106 : Int) = y3 => hc10 h9.symm), if_neg (fun h9 : (108 : Int) = y3 => hc26 h9.symm), if_neg (fun h9 : (122 : Int) = y3 => hc31 h9.symm)]) (by decide) ?_
          refine q_iconst C 0 dX11_readItem_113 ?_
          cases hF
          exact Kr _ _ _ _ Sm4 dX11_readItem_114 ⟨r_b b_0, fun _ => b_0⟩ (nr_b b_0)
theorem cX11_readItem_ok (l : Launch) (G : Gl) {g : Shp} {x0 : Int} {m m' : Mem} {r : Int} (hx0 : gk g x0 = 12) (hF : fX11_readItem g x0 m = some (r, m')) : mI l yX11_readItem (wT yX11_readItem cX11_readItem 3 (some .boolean)) rX11_readItem G true (fun ad => [.ref (ad x0)]) g m r m' :=
  met_i (by decide) (fun ad => Nat.le_of_ble_eq_true rfl) (fun p e s mt args below meth c Q A H0 H locs ad ls C hnm S hl Kr => wX11_readItem_0 C S hx0 hl hF Kr)
set_option maxRecDepth 20000 in
theorem wX11_readText_9 {p : Program} {l : Launch} {e : Env} {s : State} {mt : MethodId} {args : Array Value} {below : List Frame} {meth : Method} {c : Code} {Q : State → Prop} {G : Gl} {A : Nat → Prop} {H0 : Heap} {ad : Int → Nat} {g : Shp} {H : Heap} {locs : List Loc} {ls : Array Slot} {m : Mem} {x0 : Int} (C : CallFix p mt c cX11_readText 2 s args tb RX11) (S : Wd G A s H0 ad g m H locs) (hx0 : gk g x0 = 12) (hl : lv_has ls 2 [(0, .ref (ad x0))]) {c1 : Int} {s1 : (Int × Mem)} (hF : bX11_readText_9 g x0 m = some (c1, s1)) (K0 : c1 = 0 → ∀ (H : Heap) (locs : List Loc) (ls : Array Slot), Wd G A s H0 ad g s1.2 H locs → lv_has ls 2 [(0, .ref (ad x0))] → W p l e rX11_readText s mt args below meth c H locs 0 0 Q (F0 mt 9 ls [])) (K1 : c1 = 1 → ∀ (H : Heap) (locs : List Loc) (ls : Array Slot), r32 s1.1 → Wd G A s H0 ad g s1.2 H locs → lv_has ls 2 [(1, .int (iI s1.1))] → W p l e rX11_readText s mt args below meth c H locs 0 0 Q (F0 mt 32 ls [])) (K2 : c1 = 2 → ∀ (H : Heap) (locs : List Loc) (ls : Array Slot), Wd G A s H0 ad g s1.2 H locs → lv_has ls 2 [] → W p l e rX11_readText s mt args below meth c H locs 0 0 Q (F0 mt 37 ls [])) : W p l e rX11_readText s mt args below meth c H locs 0 0 Q (F0 mt 9 ls []) := by
  unfold bX11_readText_9 at hF
  refine q_aload_n C hl 0 rfl rfl dX11_readText_9 ?_
  refine q_geti C S 6 fo_RX11_134 (j := 6) rfl rfl hx0 dX11_readText_10 ?_
  refine q_aload_n C hl 0 rfl rfl dX11_readText_13 ?_
  refine q_geti C S 5 fo_RX11_137 (j := 5) rfl rfl hx0 dX11_readText_14 ?_
  refine q_icmp_ge C (S.r _ _) (S.r _ _) 37 dX11_readText_17 (by decide) (fun hc1 => ?_) (fun hc1 => ?_)
  · have hF := if_t hc1 hF
    cases hF
    exact K2 rfl _ _ _  S (lv_sub hl [] rfl)
  · have hF := if_f hc1 hF
    refine q_aload_n C hl 0 rfl rfl dX11_readText_20 ?_
    refine q_geti C S 6 fo_RX11_134 (j := 6) rfl rfl hx0 dX11_readText_21 ?_
    obtain ⟨y2, ey2, hF⟩ := vv_ok hF
    have ry2 : r32 y2 := ey2 ▸ (S.r _ _)
    refine q_istore_n C hl [(1, .int (iI y2)), (0, .ref (ad x0))] ey2 rfl (by decide) rfl dX11_readText_24 (fun ls hl => ?_)
    refine q_aload_n C hl 1 rfl rfl dX11_readText_25 ?_
    obtain ⟨v3, m4, h5, hF⟩ := bd2_ok hF
    refine q_ci S (run_V (As := []) (rest := []) C S (cX11_readItem_ok l G hx0 h5 ad _) hx0 ⟨by decide, _, _, rfl⟩ gd_RX11_160 hdV_X11_readItem rfl ⟨rfl, rfl, by decide, by decide⟩ ⟨Nat.zero_le _, Nat.zero_le _⟩ hl.1 rfl (Nat.le_of_ble_eq_true rfl) dX11_readText_26) (fun H locs Sm4 h6 => ?_)
    refine q_if_ne C h6.1 34 dX11_readText_29 (by decide) (fun hc7 => ?_) (fun hc7 => ?_)
    · have hF := if_t hc7 hF
      cases hF
      exact K1 rfl _ _ _ ry2 Sm4 (lv_sub hl [0] rfl)
    · have hF := if_f hc7 hF
      refine q_goto C 9 dX11_readText_34 (by decide) ?_
      cases hF
      exact K0 rfl _ _ _  Sm4 (lv_sub hl [1] rfl)
set_option maxRecDepth 20000 in
theorem lX11_readText_9 {p : Program} {l : Launch} {e : Env} {s : State} {mt : MethodId} {args : Array Value} {below : List Frame} {meth : Method} {c : Code} {Q : State → Prop} {G : Gl} {A : Nat → Prop} {H0 : Heap} {ad : Int → Nat} {g : Shp} {x0 : Int} (C : CallFix p mt c cX11_readText 2 s args tb RX11) (hx0 : gk g x0 = 12) {n : Nat} {s0 s1 : (Int × Mem)} {c1 : Int} (hI : iter (BX11_readText_9 g x0) n s0 = some (c1, s1)) (K1 : c1 = 1 → ∀ (H : Heap) (locs : List Loc) (ls : Array Slot), r32 s1.1 → Wd G A s H0 ad g s1.2 H locs → lv_has ls 2 [(1, .int (iI s1.1))] → W p l e rX11_readText s mt args below meth c H locs 0 0 Q (F0 mt 32 ls [])) (K2 : c1 = 2 → ∀ (H : Heap) (locs : List Loc) (ls : Array Slot), Wd G A s H0 ad g s1.2 H locs → lv_has ls 2 [] → W p l e rX11_readText s mt args below meth c H locs 0 0 Q (F0 mt 37 ls [])) : ∀ (H : Heap) (locs : List Loc) (ls : Array Slot), Wd G A s H0 ad g s0.2 H locs → lv_has ls 2 [(0, .ref (ad x0))] → W p l e rX11_readText s mt args below meth c H locs 0 0 Q (F0 mt 9 ls []) :=
  iter_W (Pw := fun q => ∀ (H : Heap) (locs : List Loc) (ls : Array Slot), Wd G A s H0 ad g q.2 H locs → lv_has ls 2 [(0, .ref (ad x0))] → W p l e rX11_readText s mt args below meth c H locs 0 0 Q (F0 mt 9 ls [])) (Px := fun c0 q => (c0 = 1 → ∀ (H : Heap) (locs : List Loc) (ls : Array Slot), r32 q.1 → Wd G A s H0 ad g q.2 H locs → lv_has ls 2 [(1, .int (iI q.1))] → W p l e rX11_readText s mt args below meth c H locs 0 0 Q (F0 mt 32 ls [])) ∧ (c0 = 2 → ∀ (H : Heap) (locs : List Loc) (ls : Array Slot), Wd G A s H0 ad g q.2 H locs → lv_has ls 2 [] → W p l e rX11_readText s mt args below meth c H locs 0 0 Q (F0 mt 37 ls [])))
    (fun s c s' hB K0 kx H locs ls  S hl => wX11_readText_9 C S hx0 hl hB K0 (fun h9 => (kx (by rw [h9]; decide)).1 h9) (fun h9 => (kx (by rw [h9]; decide)).2 h9)) _ _ _ _ hI ⟨K1, K2⟩
set_option maxRecDepth 20000 in
theorem wX11_readText_32 {p : Program} {l : Launch} {e : Env} {s : State} {mt : MethodId} {args : Array Value} {below : List Frame} {meth : Method} {c : Code} {Q : State → Prop} {G : Gl} {A : Nat → Prop} {H0 : Heap} {ad : Int → Nat} {g : Shp} {H : Heap} {locs : List Loc} {ls : Array Slot} {m : Mem} {x1 : Int} (C : CallFix p mt c cX11_readText 2 s args tb RX11) (S : Wd G A s H0 ad g m H locs) (hx1 : r32 x1) (hl : lv_has ls 2 [(1, .int (iI x1))]) {r : Int} {m' : Mem} (hF : bX11_readText_32 g x1 m = some (r, m')) (Kr : ∀ (H : Heap) (locs : List Loc) (pc : Nat) (ls : Array Slot), Wd G A s H0 ad g m' H locs → decode cX11_readText pc = .ok (.ireturn, 1) → r32 r ∧ (false = true → r = 0 ∨ r = 1) → narrow .int (.int (iI r)) = .int (iI r) → W p l e rX11_readText s mt args below meth c H locs 0 0 Q (F0 mt pc ls [.int (iI r)])) : W p l e rX11_readText s mt args below meth c H locs 0 0 Q (F0 mt 32 ls []) := by
  unfold bX11_readText_32 at hF
  refine q_iload_n C hl 0 rfl rfl dX11_readText_32 ?_
  cases hF
  exact Kr _ _ _ _ S dX11_readText_33 ⟨hx1, fun h9 => absurd h9 (by decide)⟩ rfl
set_option maxRecDepth 20000 in
theorem wX11_readText_37 {p : Program} {l : Launch} {e : Env} {s : State} {mt : MethodId} {args : Array Value} {below : List Frame} {meth : Method} {c : Code} {Q : State → Prop} {G : Gl} {A : Nat → Prop} {H0 : Heap} {ad : Int → Nat} {g : Shp} {H : Heap} {locs : List Loc} {ls : Array Slot} {m : Mem} (C : CallFix p mt c cX11_readText 2 s args tb RX11) (S : Wd G A s H0 ad g m H locs)  (hl : lv_has ls 2 []) {r : Int} {m' : Mem} (hF : bX11_readText_37 g m = some (r, m')) (Kr : ∀ (H : Heap) (locs : List Loc) (pc : Nat) (ls : Array Slot), Wd G A s H0 ad g m' H locs → decode cX11_readText pc = .ok (.ireturn, 1) → r32 r ∧ (false = true → r = 0 ∨ r = 1) → narrow .int (.int (iI r)) = .int (iI r) → W p l e rX11_readText s mt args below meth c H locs 0 0 Q (F0 mt pc ls [.int (iI r)])) : W p l e rX11_readText s mt args below meth c H locs 0 0 Q (F0 mt 37 ls []) := by
  unfold bX11_readText_37 at hF
  refine q_bipush C (-4) (by decide) dX11_readText_37 ?_
  cases hF
  exact Kr _ _ _ _ S dX11_readText_39 ⟨(rl (-4) rfl), fun h9 => absurd h9 (by decide)⟩ rfl
set_option maxRecDepth 20000 in
theorem wX11_readText_0 {p : Program} {l : Launch} {e : Env} {s : State} {mt : MethodId} {args : Array Value} {below : List Frame} {meth : Method} {c : Code} {Q : State → Prop} {G : Gl} {A : Nat → Prop} {H0 : Heap} {ad : Int → Nat} {g : Shp} {H : Heap} {locs : List Loc} {ls : Array Slot} {m : Mem} {x0 : Int} (C : CallFix p mt c cX11_readText 2 s args tb RX11) (S : Wd G A s H0 ad g m H locs) (hx0 : gk g x0 = 12) (hl : lv_has ls 2 [(0, .ref (ad x0))]) {r : Int} {m' : Mem} (hF : bX11_readText_0 g x0 m = some (r, m')) (Kr : ∀ (H : Heap) (locs : List Loc) (pc : Nat) (ls : Array Slot), Wd G A s H0 ad g m' H locs → decode cX11_readText pc = .ok (.ireturn, 1) → r32 r ∧ (false = true → r = 0 ∨ r = 1) → narrow .int (.int (iI r)) = .int (iI r) → W p l e rX11_readText s mt args below meth c H locs 0 0 Q (F0 mt pc ls [.int (iI r)])) : W p l e rX11_readText s mt args below meth c H locs 0 0 Q (F0 mt 0 ls []) := by
  unfold bX11_readText_0 at hF
  refine q_aload_n C hl 0 rfl rfl dX11_readText_0 ?_
  obtain ⟨v1, m2, h3, hF⟩ := bd2_ok hF
  refine q_cv S (run_V (As := []) (rest := []) C S (cX11_begin_ok l G hx0 h3 ad _) hx0 ⟨by decide, _, _, rfl⟩ gd_RX11_89 hdV_X11_begin rfl ⟨rfl, rfl, by decide, by decide⟩ ⟨Nat.zero_le _, Nat.zero_le _⟩ hl.1 rfl (Nat.le_of_ble_eq_true rfl) dX11_readText_1) (fun H locs Sm2 => ?_)
  refine q_aload_n C hl 0 rfl rfl dX11_readText_4 ?_
  refine q_iconst C 0 dX11_readText_5 ?_
  obtain ⟨m4, em4, hF⟩ := vm_ok hF
  refine q_put C Sm2 6 fo_RX11_134 fp_12_6 (fun h9 => absurd h9 (by decide)) (j := 6) rfl hx0 rfl rfl rfl (rl 0 rfl) (fun h9 => absurd h9 (by decide)) em4 dX11_readText_6 (fun H locs Sm4 => ?_)
  obtain ⟨cv5, sv6, hi7, hF⟩ := bdl_ok hF
  refine lX11_readText_9 C hx0 hi7 ?_ ?_ _ _ _  Sm4 (lv_sub hl [0] rfl)
  · intro hc8 H locs ls f10 S9 hl
    have hF := if_t hc8 hF
    exact wX11_readText_32 C S9 f10 (lv_sub hl [0] rfl) hF Kr
  · intro hc11 H locs ls  S12 hl
    have hF := if_f (by rw [hc11]; decide) hF
    exact wX11_readText_37 C S12  (lv_sub hl [] rfl) hF Kr
theorem cX11_readText_ok (l : Launch) (G : Gl) {g : Shp} {x0 : Int} {m m' : Mem} {r : Int} (hx0 : gk g x0 = 12) (hF : fX11_readText g x0 m = some (r, m')) : mI l yX11_readText (wT yX11_readText cX11_readText 2 (some .int)) rX11_readText G false (fun ad => [.ref (ad x0)]) g m r m' :=
  met_i (by decide) (fun ad => Nat.le_of_ble_eq_true rfl) (fun p e s mt args below meth c Q A H0 H locs ad ls C hnm S hl Kr => wX11_readText_0 C S hx0 hl hF Kr)
set_option maxRecDepth 20000 in
theorem wX11_takeRead_10 {p : Program} {l : Launch} {e : Env} {s : State} {mt : MethodId} {args : Array Value} {below : List Frame} {meth : Method} {c : Code} {Q : State → Prop} {G : Gl} {A : Nat → Prop} {H0 : Heap} {ad : Int → Nat} {g : Shp} {H : Heap} {locs : List Loc} {ls : Array Slot} {m : Mem} {x0 x1 : Int} (C : CallFix p mt c cX11_takeRead 2 s args tb RX11) (S : Wd G A s H0 ad g m H locs) (hx0 : gk g x0 = 12) (hx1 : r32 x1) (hl : lv_has ls 2 [(0, .ref (ad x0)), (1, .int (iI x1))]) {c1 : Int} {s1 : (Int × Mem)} (hF : bX11_takeRead_10 g x0 x1 m = some (c1, s1)) (K0 : c1 = 0 → ∀ (H : Heap) (locs : List Loc) (ls : Array Slot), r32 s1.1 → Wd G A s H0 ad g s1.2 H locs → lv_has ls 2 [(0, .ref (ad x0)), (1, .int (iI s1.1))] → W p l e rX11_takeRead s mt args below meth c H locs 0 0 Q (F0 mt 10 ls [])) (K1 : c1 = 1 → ∀ (H : Heap) (locs : List Loc) (ls : Array Slot), Wd G A s H0 ad g s1.2 H locs → lv_has ls 2 [(0, .ref (ad x0))] → W p l e rX11_takeRead s mt args below meth c H locs 0 0 Q (F0 mt 57 ls [])) : W p l e rX11_takeRead s mt args below meth c H locs 0 0 Q (F0 mt 10 ls []) := by
  unfold bX11_takeRead_10 at hF
  refine q_iload_n C hl 1 rfl rfl dX11_takeRead_10 ?_
  refine q_iconst C 3 dX11_takeRead_11 ?_
  refine q_icmp_ge C hx1 (rl 3 rfl) 57 dX11_takeRead_12 (by decide) (fun hc1 => ?_) (fun hc1 => ?_)
  · have hF := if_t hc1 hF
    cases hF
    exact K1 rfl _ _ _  S (lv_sub hl [0] rfl)
  · have hF := if_f hc1 hF
    refine q_aload_n C hl 0 rfl rfl dX11_takeRead_15 ?_
    obtain ⟨k2, hF⟩ := ck_ok hF
    refine q_getr C S 19 fo_RX11_40 (j := 19) rfl rfl hx0 k2 (by decide) dX11_takeRead_16 ?_
    refine q_iload_n C hl 1 rfl rfl dX11_takeRead_19 ?_
    refine q_aload_n C hl 0 rfl rfl dX11_takeRead_20 ?_
    obtain ⟨k3, hF⟩ := ck_ok hF
    refine q_getr C S 7 fo_RX11_22 (j := 7) rfl rfl hx0 k3 (by decide) dX11_takeRead_21 ?_
    refine q_iload_n C hl 1 rfl rfl dX11_takeRead_24 ?_
    obtain ⟨i4, hF⟩ := ck_ok hF
    refine q_iald C S k3 i4 dX11_takeRead_25 ?_
    obtain ⟨i5, hF⟩ := ck_ok hF
    obtain ⟨m6, em6, hF⟩ := vm_ok hF
    refine q_iast C S k2 i5 (S.r _ _) em6 dX11_takeRead_26 (fun H locs Sm6 => ?_)
    refine q_aload_n C hl 0 rfl rfl dX11_takeRead_27 ?_
    obtain ⟨k7, hF⟩ := ck_ok hF
    refine q_getr C Sm6 21 fo_RX11_43 (j := 21) rfl rfl hx0 k7 (by decide) dX11_takeRead_28 ?_
    refine q_iload_n C hl 1 rfl rfl dX11_takeRead_31 ?_
    refine q_aload_n C hl 0 rfl rfl dX11_takeRead_32 ?_
    obtain ⟨k8, hF⟩ := ck_ok hF
    refine q_getr C Sm6 11 fo_RX11_28 (j := 11) rfl rfl hx0 k8 (by decide) dX11_takeRead_33 ?_
    refine q_iload_n C hl 1 rfl rfl dX11_takeRead_36 ?_
    obtain ⟨i9, hF⟩ := ck_ok hF
    refine q_iald C Sm6 k8 i9 dX11_takeRead_37 ?_
    obtain ⟨i10, hF⟩ := ck_ok hF
    obtain ⟨m11, em11, hF⟩ := vm_ok hF
    refine q_iast C Sm6 k7 i10 (Sm6.r _ _) em11 dX11_takeRead_38 (fun H locs Sm11 => ?_)
    refine q_aload_n C hl 0 rfl rfl dX11_takeRead_39 ?_
    obtain ⟨k12, hF⟩ := ck_ok hF
    refine q_getr C Sm11 23 fo_RX11_49 (j := 23) rfl rfl hx0 k12 (by decide) dX11_takeRead_40 ?_
    refine q_iload_n C hl 1 rfl rfl dX11_takeRead_43 ?_
    refine q_aload_n C hl 0 rfl rfl dX11_takeRead_44 ?_
    obtain ⟨k13, hF⟩ := ck_ok hF
    refine q_getr C Sm11 13 fo_RX11_34 (j := 13) rfl rfl hx0 k13 (by decide) dX11_takeRead_45 ?_
    refine q_iload_n C hl 1 rfl rfl dX11_takeRead_48 ?_
    obtain ⟨i14, hF⟩ := ck_ok hF
    refine q_iald C Sm11 k13 i14 dX11_takeRead_49 ?_
    obtain ⟨i15, hF⟩ := ck_ok hF
    obtain ⟨m16, em16, hF⟩ := vm_ok hF
    refine q_iast C Sm11 k12 i15 (Sm11.r _ _) em16 dX11_takeRead_50 (fun H locs Sm16 => ?_)
    obtain ⟨y17, ey17, hF⟩ := vv_ok hF
    have ry17 : r32 y17 := ey17 ▸ r32_w _
    refine q_iinc C hl 1 [(1, .int (iI y17)), (0, .ref (ad x0))] rfl ey17 (by decide) rfl dX11_takeRead_51 (fun ls hl => ?_)
    refine q_goto C 10 dX11_takeRead_54 (by decide) ?_
    cases hF
    exact K0 rfl _ _ _ ry17 Sm16 (lv_sub hl [1, 0] rfl)
set_option maxRecDepth 20000 in
theorem lX11_takeRead_10 {p : Program} {l : Launch} {e : Env} {s : State} {mt : MethodId} {args : Array Value} {below : List Frame} {meth : Method} {c : Code} {Q : State → Prop} {G : Gl} {A : Nat → Prop} {H0 : Heap} {ad : Int → Nat} {g : Shp} {x0 : Int} (C : CallFix p mt c cX11_takeRead 2 s args tb RX11) (hx0 : gk g x0 = 12) {n : Nat} {s0 s1 : (Int × Mem)} {c1 : Int} (hI : iter (BX11_takeRead_10 g x0) n s0 = some (c1, s1)) (K1 : c1 = 1 → ∀ (H : Heap) (locs : List Loc) (ls : Array Slot), Wd G A s H0 ad g s1.2 H locs → lv_has ls 2 [(0, .ref (ad x0))] → W p l e rX11_takeRead s mt args below meth c H locs 0 0 Q (F0 mt 57 ls [])) : ∀ (H : Heap) (locs : List Loc) (ls : Array Slot), r32 s0.1 → Wd G A s H0 ad g s0.2 H locs → lv_has ls 2 [(0, .ref (ad x0)), (1, .int (iI s0.1))] → W p l e rX11_takeRead s mt args below meth c H locs 0 0 Q (F0 mt 10 ls []) :=
  iter_W (Pw := fun q => ∀ (H : Heap) (locs : List Loc) (ls : Array Slot), r32 q.1 → Wd G A s H0 ad g q.2 H locs → lv_has ls 2 [(0, .ref (ad x0)), (1, .int (iI q.1))] → W p l e rX11_takeRead s mt args below meth c H locs 0 0 Q (F0 mt 10 ls [])) (Px := fun c0 q => (c0 = 1 → ∀ (H : Heap) (locs : List Loc) (ls : Array Slot), Wd G A s H0 ad g q.2 H locs → lv_has ls 2 [(0, .ref (ad x0))] → W p l e rX11_takeRead s mt args below meth c H locs 0 0 Q (F0 mt 57 ls [])))
    (fun s c s' hB K0 kx H locs ls f0 S hl => wX11_takeRead_10 C S hx0 f0 hl hB K0 (fun h9 => (kx (by rw [h9]; decide)) h9)) _ _ _ _ hI K1
set_option maxRecDepth 20000 in
theorem wX11_takeRead_59 {p : Program} {l : Launch} {e : Env} {s : State} {mt : MethodId} {args : Array Value} {below : List Frame} {meth : Method} {c : Code} {Q : State → Prop} {G : Gl} {A : Nat → Prop} {H0 : Heap} {ad : Int → Nat} {g : Shp} {H : Heap} {locs : List Loc} {ls : Array Slot} {m : Mem} {x0 x1 : Int} (C : CallFix p mt c cX11_takeRead 2 s args tb RX11) (S : Wd G A s H0 ad g m H locs) (hx0 : gk g x0 = 12) (hx1 : r32 x1) (hl : lv_has ls 2 [(0, .ref (ad x0)), (1, .int (iI x1))]) {c1 : Int} {s1 : (Int × Mem)} (hF : bX11_takeRead_59 g x0 x1 m = some (c1, s1)) (K0 : c1 = 0 → ∀ (H : Heap) (locs : List Loc) (ls : Array Slot), r32 s1.1 → Wd G A s H0 ad g s1.2 H locs → lv_has ls 2 [(0, .ref (ad x0)), (1, .int (iI s1.1))] → W p l e rX11_takeRead s mt args below meth c H locs 0 0 Q (F0 mt 59 ls [])) (K1 : c1 = 1 → ∀ (H : Heap) (locs : List Loc) (ls : Array Slot), Wd G A s H0 ad g s1.2 H locs → lv_has ls 2 [(0, .ref (ad x0))] → W p l e rX11_takeRead s mt args below meth c H locs 0 0 Q (F0 mt 83 ls [])) : W p l e rX11_takeRead s mt args below meth c H locs 0 0 Q (F0 mt 59 ls []) := by
  unfold bX11_takeRead_59 at hF
  refine q_iload_n C hl 1 rfl rfl dX11_takeRead_59 ?_
  refine q_bipush C 15 (by decide) dX11_takeRead_60 ?_
  refine q_icmp_ge C hx1 (rl 15 rfl) 83 dX11_takeRead_62 (by decide) (fun hc1 => ?_) (fun hc1 => ?_)
  · have hF := if_t hc1 hF
    cases hF
    exact K1 rfl _ _ _  S (lv_sub hl [0] rfl)
  · have hF := if_f hc1 hF
    refine q_aload_n C hl 0 rfl rfl dX11_takeRead_65 ?_
    obtain ⟨k2, hF⟩ := ck_ok hF
    refine q_getr C S 22 fo_RX11_46 (j := 22) rfl rfl hx0 k2 (by decide) dX11_takeRead_66 ?_
    refine q_iload_n C hl 1 rfl rfl dX11_takeRead_69 ?_
    refine q_aload_n C hl 0 rfl rfl dX11_takeRead_70 ?_
    obtain ⟨k3, hF⟩ := ck_ok hF
    refine q_getr C S 12 fo_RX11_31 (j := 12) rfl rfl hx0 k3 (by decide) dX11_takeRead_71 ?_
    refine q_iload_n C hl 1 rfl rfl dX11_takeRead_74 ?_
    obtain ⟨i4, hF⟩ := ck_ok hF
    refine q_iald C S k3 i4 dX11_takeRead_75 ?_
    obtain ⟨i5, hF⟩ := ck_ok hF
    obtain ⟨m6, em6, hF⟩ := vm_ok hF
    refine q_iast C S k2 i5 (S.r _ _) em6 dX11_takeRead_76 (fun H locs Sm6 => ?_)
    obtain ⟨y7, ey7, hF⟩ := vv_ok hF
    have ry7 : r32 y7 := ey7 ▸ r32_w _
    refine q_iinc C hl 1 [(1, .int (iI y7)), (0, .ref (ad x0))] rfl ey7 (by decide) rfl dX11_takeRead_77 (fun ls hl => ?_)
    refine q_goto C 59 dX11_takeRead_80 (by decide) ?_
    cases hF
    exact K0 rfl _ _ _ ry7 Sm6 (lv_sub hl [1, 0] rfl)
set_option maxRecDepth 20000 in
theorem lX11_takeRead_59 {p : Program} {l : Launch} {e : Env} {s : State} {mt : MethodId} {args : Array Value} {below : List Frame} {meth : Method} {c : Code} {Q : State → Prop} {G : Gl} {A : Nat → Prop} {H0 : Heap} {ad : Int → Nat} {g : Shp} {x0 : Int} (C : CallFix p mt c cX11_takeRead 2 s args tb RX11) (hx0 : gk g x0 = 12) {n : Nat} {s0 s1 : (Int × Mem)} {c1 : Int} (hI : iter (BX11_takeRead_59 g x0) n s0 = some (c1, s1)) (K1 : c1 = 1 → ∀ (H : Heap) (locs : List Loc) (ls : Array Slot), Wd G A s H0 ad g s1.2 H locs → lv_has ls 2 [(0, .ref (ad x0))] → W p l e rX11_takeRead s mt args below meth c H locs 0 0 Q (F0 mt 83 ls [])) : ∀ (H : Heap) (locs : List Loc) (ls : Array Slot), r32 s0.1 → Wd G A s H0 ad g s0.2 H locs → lv_has ls 2 [(0, .ref (ad x0)), (1, .int (iI s0.1))] → W p l e rX11_takeRead s mt args below meth c H locs 0 0 Q (F0 mt 59 ls []) :=
  iter_W (Pw := fun q => ∀ (H : Heap) (locs : List Loc) (ls : Array Slot), r32 q.1 → Wd G A s H0 ad g q.2 H locs → lv_has ls 2 [(0, .ref (ad x0)), (1, .int (iI q.1))] → W p l e rX11_takeRead s mt args below meth c H locs 0 0 Q (F0 mt 59 ls [])) (Px := fun c0 q => (c0 = 1 → ∀ (H : Heap) (locs : List Loc) (ls : Array Slot), Wd G A s H0 ad g q.2 H locs → lv_has ls 2 [(0, .ref (ad x0))] → W p l e rX11_takeRead s mt args below meth c H locs 0 0 Q (F0 mt 83 ls [])))
    (fun s c s' hB K0 kx H locs ls f0 S hl => wX11_takeRead_59 C S hx0 f0 hl hB K0 (fun h9 => (kx (by rw [h9]; decide)) h9)) _ _ _ _ hI K1
set_option maxRecDepth 20000 in
theorem wX11_takeRead_85 {p : Program} {l : Launch} {e : Env} {s : State} {mt : MethodId} {args : Array Value} {below : List Frame} {meth : Method} {c : Code} {Q : State → Prop} {G : Gl} {A : Nat → Prop} {H0 : Heap} {ad : Int → Nat} {g : Shp} {H : Heap} {locs : List Loc} {ls : Array Slot} {m : Mem} {x0 x1 : Int} (C : CallFix p mt c cX11_takeRead 2 s args tb RX11) (S : Wd G A s H0 ad g m H locs) (hx0 : gk g x0 = 12) (hx1 : r32 x1) (hl : lv_has ls 2 [(0, .ref (ad x0)), (1, .int (iI x1))]) {c1 : Int} {s1 : (Int × Mem)} (hF : bX11_takeRead_85 g x0 x1 m = some (c1, s1)) (K0 : c1 = 0 → ∀ (H : Heap) (locs : List Loc) (ls : Array Slot), r32 s1.1 → Wd G A s H0 ad g s1.2 H locs → lv_has ls 2 [(0, .ref (ad x0)), (1, .int (iI s1.1))] → W p l e rX11_takeRead s mt args below meth c H locs 0 0 Q (F0 mt 85 ls [])) (K1 : c1 = 1 → ∀ (H : Heap) (locs : List Loc) (ls : Array Slot), Wd G A s H0 ad g s1.2 H locs → lv_has ls 2 [(0, .ref (ad x0))] → W p l e rX11_takeRead s mt args below meth c H locs 0 0 Q (F0 mt 110 ls [])) : W p l e rX11_takeRead s mt args below meth c H locs 0 0 Q (F0 mt 85 ls []) := by
  unfold bX11_takeRead_85 at hF
  refine q_iload_n C hl 1 rfl rfl dX11_takeRead_85 ?_
  refine q_sipush C 180 (by decide) dX11_takeRead_86 ?_
  refine q_icmp_ge C hx1 (rl 180 rfl) 110 dX11_takeRead_89 (by decide) (fun hc1 => ?_) (fun hc1 => ?_)
  · have hF := if_t hc1 hF
    cases hF
    exact K1 rfl _ _ _  S (lv_sub hl [0] rfl)
  · have hF := if_f hc1 hF
    refine q_aload_n C hl 0 rfl rfl dX11_takeRead_92 ?_
    obtain ⟨k2, hF⟩ := ck_ok hF
    refine q_getr C S 24 fo_RX11_52 (j := 24) rfl rfl hx0 k2 (by decide) dX11_takeRead_93 ?_
    refine q_iload_n C hl 1 rfl rfl dX11_takeRead_96 ?_
    refine q_aload_n C hl 0 rfl rfl dX11_takeRead_97 ?_
    obtain ⟨k3, hF⟩ := ck_ok hF
    refine q_getr C S 14 fo_RX11_37 (j := 14) rfl rfl hx0 k3 (by decide) dX11_takeRead_98 ?_
    refine q_iload_n C hl 1 rfl rfl dX11_takeRead_101 ?_
    obtain ⟨i4, hF⟩ := ck_ok hF
    refine q_iald C S k3 i4 dX11_takeRead_102 ?_
    obtain ⟨i5, hF⟩ := ck_ok hF
    obtain ⟨m6, em6, hF⟩ := vm_ok hF
    refine q_iast C S k2 i5 (S.r _ _) em6 dX11_takeRead_103 (fun H locs Sm6 => ?_)
    obtain ⟨y7, ey7, hF⟩ := vv_ok hF
    have ry7 : r32 y7 := ey7 ▸ r32_w _
    refine q_iinc C hl 1 [(1, .int (iI y7)), (0, .ref (ad x0))] rfl ey7 (by decide) rfl dX11_takeRead_104 (fun ls hl => ?_)
    refine q_goto C 85 dX11_takeRead_107 (by decide) ?_
    cases hF
    exact K0 rfl _ _ _ ry7 Sm6 (lv_sub hl [1, 0] rfl)
set_option maxRecDepth 20000 in
theorem lX11_takeRead_85 {p : Program} {l : Launch} {e : Env} {s : State} {mt : MethodId} {args : Array Value} {below : List Frame} {meth : Method} {c : Code} {Q : State → Prop} {G : Gl} {A : Nat → Prop} {H0 : Heap} {ad : Int → Nat} {g : Shp} {x0 : Int} (C : CallFix p mt c cX11_takeRead 2 s args tb RX11) (hx0 : gk g x0 = 12) {n : Nat} {s0 s1 : (Int × Mem)} {c1 : Int} (hI : iter (BX11_takeRead_85 g x0) n s0 = some (c1, s1)) (K1 : c1 = 1 → ∀ (H : Heap) (locs : List Loc) (ls : Array Slot), Wd G A s H0 ad g s1.2 H locs → lv_has ls 2 [(0, .ref (ad x0))] → W p l e rX11_takeRead s mt args below meth c H locs 0 0 Q (F0 mt 110 ls [])) : ∀ (H : Heap) (locs : List Loc) (ls : Array Slot), r32 s0.1 → Wd G A s H0 ad g s0.2 H locs → lv_has ls 2 [(0, .ref (ad x0)), (1, .int (iI s0.1))] → W p l e rX11_takeRead s mt args below meth c H locs 0 0 Q (F0 mt 85 ls []) :=
  iter_W (Pw := fun q => ∀ (H : Heap) (locs : List Loc) (ls : Array Slot), r32 q.1 → Wd G A s H0 ad g q.2 H locs → lv_has ls 2 [(0, .ref (ad x0)), (1, .int (iI q.1))] → W p l e rX11_takeRead s mt args below meth c H locs 0 0 Q (F0 mt 85 ls [])) (Px := fun c0 q => (c0 = 1 → ∀ (H : Heap) (locs : List Loc) (ls : Array Slot), Wd G A s H0 ad g q.2 H locs → lv_has ls 2 [(0, .ref (ad x0))] → W p l e rX11_takeRead s mt args below meth c H locs 0 0 Q (F0 mt 110 ls [])))
    (fun s c s' hB K0 kx H locs ls f0 S hl => wX11_takeRead_85 C S hx0 f0 hl hB K0 (fun h9 => (kx (by rw [h9]; decide)) h9)) _ _ _ _ hI K1
set_option maxRecDepth 20000 in
theorem wX11_takeRead_136 {p : Program} {l : Launch} {e : Env} {s : State} {mt : MethodId} {args : Array Value} {below : List Frame} {meth : Method} {c : Code} {Q : State → Prop} {G : Gl} {A : Nat → Prop} {H0 : Heap} {ad : Int → Nat} {g : Shp} {H : Heap} {locs : List Loc} {ls : Array Slot} {m : Mem} {x0 x1 z0 z1 z2 : Int} (C : CallFix p mt c cX11_takeRead 2 s args tb RX11) (S : Wd G A s H0 ad g m H locs) (hx0 : gk g x0 = 12) (hx1 : r32 x1) (hz0 : gk g z0 = 20) (hz1 : r32 z1) (hz2 : r32 z2) (hl : lv_has ls 2 [(0, .ref (ad x0)), (1, .int (iI x1))]) {c1 : Int} {s1 : (Int × Mem)} (hF : bX11_takeRead_136 g x0 x1 z0 z1 z2 m = some (c1, s1)) (K0 : c1 = 0 → ∀ (H : Heap) (locs : List Loc) (ls : Array Slot), r32 s1.1 → Wd G A s H0 ad g s1.2 H locs → lv_has ls 2 [(0, .ref (ad x0)), (1, .int (iI s1.1))] → W p l e rX11_takeRead s mt args below meth c H locs 0 0 Q (F0 mt 112 ls [])) (K1 : c1 = 1 → ∀ (H : Heap) (locs : List Loc) (ls : Array Slot), Wd G A s H0 ad g s1.2 H locs → lv_has ls 2 [(0, .ref (ad x0))] → W p l e rX11_takeRead s mt args below meth c H locs 0 0 Q (F0 mt 143 ls [])) : W p l e rX11_takeRead s mt args below meth c H locs 0 0 Q (F0 mt 136 ls [.int (iI z2), .int (iI z1), .ref (ad z0)]) := by
  unfold bX11_takeRead_136 at hF
  obtain ⟨i1, hF⟩ := ck_ok hF
  obtain ⟨m2, em2, hF⟩ := vm_ok hF
  refine q_iast C S hz0 i1 hz2 em2 dX11_takeRead_136 (fun H locs Sm2 => ?_)
  obtain ⟨y3, ey3, hF⟩ := vv_ok hF
  have ry3 : r32 y3 := ey3 ▸ r32_w _
  refine q_iinc C hl 1 [(1, .int (iI y3)), (0, .ref (ad x0))] rfl ey3 (by decide) rfl dX11_takeRead_137 (fun ls hl => ?_)
  refine q_goto C 112 dX11_takeRead_140 (by decide) ?_
  cases hF
  exact K0 rfl _ _ _ ry3 Sm2 (lv_sub hl [1, 0] rfl)
set_option maxRecDepth 20000 in
theorem wX11_takeRead_112 {p : Program} {l : Launch} {e : Env} {s : State} {mt : MethodId} {args : Array Value} {below : List Frame} {meth : Method} {c : Code} {Q : State → Prop} {G : Gl} {A : Nat → Prop} {H0 : Heap} {ad : Int → Nat} {g : Shp} {H : Heap} {locs : List Loc} {ls : Array Slot} {m : Mem} {x0 x1 : Int} (C : CallFix p mt c cX11_takeRead 2 s args tb RX11) (S : Wd G A s H0 ad g m H locs) (hx0 : gk g x0 = 12) (hx1 : r32 x1) (hl : lv_has ls 2 [(0, .ref (ad x0)), (1, .int (iI x1))]) {c1 : Int} {s1 : (Int × Mem)} (hF : bX11_takeRead_112 g x0 x1 m = some (c1, s1)) (K0 : c1 = 0 → ∀ (H : Heap) (locs : List Loc) (ls : Array Slot), r32 s1.1 → Wd G A s H0 ad g s1.2 H locs → lv_has ls 2 [(0, .ref (ad x0)), (1, .int (iI s1.1))] → W p l e rX11_takeRead s mt args below meth c H locs 0 0 Q (F0 mt 112 ls [])) (K1 : c1 = 1 → ∀ (H : Heap) (locs : List Loc) (ls : Array Slot), Wd G A s H0 ad g s1.2 H locs → lv_has ls 2 [(0, .ref (ad x0))] → W p l e rX11_takeRead s mt args below meth c H locs 0 0 Q (F0 mt 143 ls [])) : W p l e rX11_takeRead s mt args below meth c H locs 0 0 Q (F0 mt 112 ls []) := by
  unfold bX11_takeRead_112 at hF
  refine q_iload_n C hl 1 rfl rfl dX11_takeRead_112 ?_
  refine q_sipush C 433 (by decide) dX11_takeRead_113 ?_
  refine q_icmp_ge C hx1 (rl 433 rfl) 143 dX11_takeRead_116 (by decide) (fun hc1 => ?_) (fun hc1 => ?_)
  · have hF := if_t hc1 hF
    cases hF
    exact K1 rfl _ _ _  S (lv_sub hl [0] rfl)
  · have hF := if_f hc1 hF
    refine q_aload_n C hl 0 rfl rfl dX11_takeRead_119 ?_
    obtain ⟨k2, hF⟩ := ck_ok hF
    refine q_getr C S 0 fo_RX11_7 (j := 0) rfl rfl hx0 k2 (by decide) dX11_takeRead_120 ?_
    refine q_iload_n C hl 1 rfl rfl dX11_takeRead_123 ?_
    refine q_iload_n C hl 1 rfl rfl dX11_takeRead_124 ?_
    refine q_bipush C 33 (by decide) dX11_takeRead_125 ?_
    refine q_icmp_lt C hx1 (rl 33 rfl) 135 dX11_takeRead_127 (by decide) (fun hc3 => ?_) (fun hc3 => ?_)
    · have hF := if_t hc3 hF
      refine q_iconst C 0 dX11_takeRead_135 ?_
      exact wX11_takeRead_136 C S hx0 hx1 k2 hx1 (rl 0 rfl) (lv_sub hl [0, 1] rfl) hF K0 K1
    · have hF := if_f hc3 hF
      refine q_bipush C (-4) (by decide) dX11_takeRead_130 ?_
      refine q_goto C 136 dX11_takeRead_132 (by decide) ?_
      exact wX11_takeRead_136 C S hx0 hx1 k2 hx1 (rl (-4) rfl) (lv_sub hl [0, 1] rfl) hF K0 K1
set_option maxRecDepth 20000 in
theorem lX11_takeRead_112 {p : Program} {l : Launch} {e : Env} {s : State} {mt : MethodId} {args : Array Value} {below : List Frame} {meth : Method} {c : Code} {Q : State → Prop} {G : Gl} {A : Nat → Prop} {H0 : Heap} {ad : Int → Nat} {g : Shp} {x0 : Int} (C : CallFix p mt c cX11_takeRead 2 s args tb RX11) (hx0 : gk g x0 = 12) {n : Nat} {s0 s1 : (Int × Mem)} {c1 : Int} (hI : iter (BX11_takeRead_112 g x0) n s0 = some (c1, s1)) (K1 : c1 = 1 → ∀ (H : Heap) (locs : List Loc) (ls : Array Slot), Wd G A s H0 ad g s1.2 H locs → lv_has ls 2 [(0, .ref (ad x0))] → W p l e rX11_takeRead s mt args below meth c H locs 0 0 Q (F0 mt 143 ls [])) : ∀ (H : Heap) (locs : List Loc) (ls : Array Slot), r32 s0.1 → Wd G A s H0 ad g s0.2 H locs → lv_has ls 2 [(0, .ref (ad x0)), (1, .int (iI s0.1))] → W p l e rX11_takeRead s mt args below meth c H locs 0 0 Q (F0 mt 112 ls []) :=
  iter_W (Pw := fun q => ∀ (H : Heap) (locs : List Loc) (ls : Array Slot), r32 q.1 → Wd G A s H0 ad g q.2 H locs → lv_has ls 2 [(0, .ref (ad x0)), (1, .int (iI q.1))] → W p l e rX11_takeRead s mt args below meth c H locs 0 0 Q (F0 mt 112 ls [])) (Px := fun c0 q => (c0 = 1 → ∀ (H : Heap) (locs : List Loc) (ls : Array Slot), Wd G A s H0 ad g q.2 H locs → lv_has ls 2 [(0, .ref (ad x0))] → W p l e rX11_takeRead s mt args below meth c H locs 0 0 Q (F0 mt 143 ls [])))
    (fun s c s' hB K0 kx H locs ls f0 S hl => wX11_takeRead_112 C S hx0 f0 hl hB K0 (fun h9 => (kx (by rw [h9]; decide)) h9)) _ _ _ _ hI K1
set_option maxRecDepth 20000 in
theorem wX11_takeRead_155 {p : Program} {l : Launch} {e : Env} {s : State} {mt : MethodId} {args : Array Value} {below : List Frame} {meth : Method} {c : Code} {Q : State → Prop} {G : Gl} {A : Nat → Prop} {H0 : Heap} {ad : Int → Nat} {g : Shp} {H : Heap} {locs : List Loc} {ls : Array Slot} {m : Mem} {x0 x1 : Int} (C : CallFix p mt c cX11_takeRead 2 s args tb RX11) (S : Wd G A s H0 ad g m H locs) (hx0 : gk g x0 = 12) (hx1 : r32 x1) (hl : lv_has ls 2 [(0, .ref (ad x0)), (1, .int (iI x1))]) {c1 : Int} {s1 : (Int × Mem)} (hF : bX11_takeRead_155 g x0 x1 m = some (c1, s1)) (K0 : c1 = 0 → ∀ (H : Heap) (locs : List Loc) (ls : Array Slot), r32 s1.1 → Wd G A s H0 ad g s1.2 H locs → lv_has ls 2 [(0, .ref (ad x0)), (1, .int (iI s1.1))] → W p l e rX11_takeRead s mt args below meth c H locs 0 0 Q (F0 mt 155 ls [])) (K1 : c1 = 1 → ∀ (H : Heap) (locs : List Loc) (ls : Array Slot), Wd G A s H0 ad g s1.2 H locs → lv_has ls 2 [(0, .ref (ad x0))] → W p l e rX11_takeRead s mt args below meth c H locs 0 0 Q (F0 mt 181 ls [])) : W p l e rX11_takeRead s mt args below meth c H locs 0 0 Q (F0 mt 155 ls []) := by
  unfold bX11_takeRead_155 at hF
  refine q_iload_n C hl 1 rfl rfl dX11_takeRead_155 ?_
  refine q_bipush C 9 (by decide) dX11_takeRead_156 ?_
  refine q_icmp_ge C hx1 (rl 9 rfl) 181 dX11_takeRead_158 (by decide) (fun hc1 => ?_) (fun hc1 => ?_)
  · have hF := if_t hc1 hF
    cases hF
    exact K1 rfl _ _ _  S (lv_sub hl [0] rfl)
  · have hF := if_f hc1 hF
    refine q_aload_n C hl 0 rfl rfl dX11_takeRead_161 ?_
    obtain ⟨k2, hF⟩ := ck_ok hF
    refine q_getr C S 0 fo_RX11_7 (j := 0) rfl rfl hx0 k2 (by decide) dX11_takeRead_162 ?_
    refine q_iconst C 1 dX11_takeRead_165 ?_
    refine q_iload_n C hl 1 rfl rfl dX11_takeRead_166 ?_
    refine q_iadd C dX11_takeRead_167 ?_
    refine q_aload_n C hl 0 rfl rfl dX11_takeRead_168 ?_
    obtain ⟨k3, hF⟩ := ck_ok hF
    refine q_getr C S 9 fo_RX11_25 (j := 9) rfl rfl hx0 k3 (by decide) dX11_takeRead_169 ?_
    refine q_iload_n C hl 1 rfl rfl dX11_takeRead_172 ?_
    obtain ⟨i4, hF⟩ := ck_ok hF
    refine q_iald C S k3 i4 dX11_takeRead_173 ?_
    obtain ⟨i5, hF⟩ := ck_ok hF
    obtain ⟨m6, em6, hF⟩ := vm_ok hF
    refine q_iast C S k2 i5 (S.r _ _) em6 dX11_takeRead_174 (fun H locs Sm6 => ?_)
    obtain ⟨y7, ey7, hF⟩ := vv_ok hF
    have ry7 : r32 y7 := ey7 ▸ r32_w _
    refine q_iinc C hl 1 [(1, .int (iI y7)), (0, .ref (ad x0))] rfl ey7 (by decide) rfl dX11_takeRead_175 (fun ls hl => ?_)
    refine q_goto C 155 dX11_takeRead_178 (by decide) ?_
    cases hF
    exact K0 rfl _ _ _ ry7 Sm6 (lv_sub hl [1, 0] rfl)
set_option maxRecDepth 20000 in
theorem lX11_takeRead_155 {p : Program} {l : Launch} {e : Env} {s : State} {mt : MethodId} {args : Array Value} {below : List Frame} {meth : Method} {c : Code} {Q : State → Prop} {G : Gl} {A : Nat → Prop} {H0 : Heap} {ad : Int → Nat} {g : Shp} {x0 : Int} (C : CallFix p mt c cX11_takeRead 2 s args tb RX11) (hx0 : gk g x0 = 12) {n : Nat} {s0 s1 : (Int × Mem)} {c1 : Int} (hI : iter (BX11_takeRead_155 g x0) n s0 = some (c1, s1)) (K1 : c1 = 1 → ∀ (H : Heap) (locs : List Loc) (ls : Array Slot), Wd G A s H0 ad g s1.2 H locs → lv_has ls 2 [(0, .ref (ad x0))] → W p l e rX11_takeRead s mt args below meth c H locs 0 0 Q (F0 mt 181 ls [])) : ∀ (H : Heap) (locs : List Loc) (ls : Array Slot), r32 s0.1 → Wd G A s H0 ad g s0.2 H locs → lv_has ls 2 [(0, .ref (ad x0)), (1, .int (iI s0.1))] → W p l e rX11_takeRead s mt args below meth c H locs 0 0 Q (F0 mt 155 ls []) :=
  iter_W (Pw := fun q => ∀ (H : Heap) (locs : List Loc) (ls : Array Slot), r32 q.1 → Wd G A s H0 ad g q.2 H locs → lv_has ls 2 [(0, .ref (ad x0)), (1, .int (iI q.1))] → W p l e rX11_takeRead s mt args below meth c H locs 0 0 Q (F0 mt 155 ls [])) (Px := fun c0 q => (c0 = 1 → ∀ (H : Heap) (locs : List Loc) (ls : Array Slot), Wd G A s H0 ad g q.2 H locs → lv_has ls 2 [(0, .ref (ad x0))] → W p l e rX11_takeRead s mt args below meth c H locs 0 0 Q (F0 mt 181 ls [])))
    (fun s c s' hB K0 kx H locs ls f0 S hl => wX11_takeRead_155 C S hx0 f0 hl hB K0 (fun h9 => (kx (by rw [h9]; decide)) h9)) _ _ _ _ hI K1
set_option maxRecDepth 20000 in
theorem wX11_takeRead_183 {p : Program} {l : Launch} {e : Env} {s : State} {mt : MethodId} {args : Array Value} {below : List Frame} {meth : Method} {c : Code} {Q : State → Prop} {G : Gl} {A : Nat → Prop} {H0 : Heap} {ad : Int → Nat} {g : Shp} {H : Heap} {locs : List Loc} {ls : Array Slot} {m : Mem} {x0 x1 : Int} (C : CallFix p mt c cX11_takeRead 2 s args tb RX11) (S : Wd G A s H0 ad g m H locs) (hx0 : gk g x0 = 12) (hx1 : r32 x1) (hl : lv_has ls 2 [(0, .ref (ad x0)), (1, .int (iI x1))]) {c1 : Int} {s1 : (Int × Mem)} (hF : bX11_takeRead_183 g x0 x1 m = some (c1, s1)) (K0 : c1 = 0 → ∀ (H : Heap) (locs : List Loc) (ls : Array Slot), r32 s1.1 → Wd G A s H0 ad g s1.2 H locs → lv_has ls 2 [(0, .ref (ad x0)), (1, .int (iI s1.1))] → W p l e rX11_takeRead s mt args below meth c H locs 0 0 Q (F0 mt 183 ls [])) (K1 : c1 = 1 → ∀ (H : Heap) (locs : List Loc) (ls : Array Slot), Wd G A s H0 ad g s1.2 H locs → lv_has ls 2 [(0, .ref (ad x0))] → W p l e rX11_takeRead s mt args below meth c H locs 0 0 Q (F0 mt 205 ls [])) : W p l e rX11_takeRead s mt args below meth c H locs 0 0 Q (F0 mt 183 ls []) := by
  unfold bX11_takeRead_183 at hF
  refine q_iload_n C hl 1 rfl rfl dX11_takeRead_183 ?_
  refine q_iconst C 3 dX11_takeRead_184 ?_
  refine q_icmp_ge C hx1 (rl 3 rfl) 205 dX11_takeRead_185 (by decide) (fun hc1 => ?_) (fun hc1 => ?_)
  · have hF := if_t hc1 hF
    cases hF
    exact K1 rfl _ _ _  S (lv_sub hl [0] rfl)
  · have hF := if_f hc1 hF
    refine q_aload_n C hl 0 rfl rfl dX11_takeRead_188 ?_
    obtain ⟨k2, hF⟩ := ck_ok hF
    refine q_getr C S 0 fo_RX11_7 (j := 0) rfl rfl hx0 k2 (by decide) dX11_takeRead_189 ?_
    refine q_bipush C 10 (by decide) dX11_takeRead_192 ?_
    refine q_iload_n C hl 1 rfl rfl dX11_takeRead_194 ?_
    refine q_iadd C dX11_takeRead_195 ?_
    refine q_bipush C (-4) (by decide) dX11_takeRead_196 ?_
    obtain ⟨i3, hF⟩ := ck_ok hF
    obtain ⟨m4, em4, hF⟩ := vm_ok hF
    refine q_iast C S k2 i3 (rl (-4) rfl) em4 dX11_takeRead_198 (fun H locs Sm4 => ?_)
    obtain ⟨y5, ey5, hF⟩ := vv_ok hF
    have ry5 : r32 y5 := ey5 ▸ r32_w _
    refine q_iinc C hl 1 [(1, .int (iI y5)), (0, .ref (ad x0))] rfl ey5 (by decide) rfl dX11_takeRead_199 (fun ls hl => ?_)
    refine q_goto C 183 dX11_takeRead_202 (by decide) ?_
    cases hF
    exact K0 rfl _ _ _ ry5 Sm4 (lv_sub hl [1, 0] rfl)
set_option maxRecDepth 20000 in
theorem lX11_takeRead_183 {p : Program} {l : Launch} {e : Env} {s : State} {mt : MethodId} {args : Array Value} {below : List Frame} {meth : Method} {c : Code} {Q : State → Prop} {G : Gl} {A : Nat → Prop} {H0 : Heap} {ad : Int → Nat} {g : Shp} {x0 : Int} (C : CallFix p mt c cX11_takeRead 2 s args tb RX11) (hx0 : gk g x0 = 12) {n : Nat} {s0 s1 : (Int × Mem)} {c1 : Int} (hI : iter (BX11_takeRead_183 g x0) n s0 = some (c1, s1)) (K1 : c1 = 1 → ∀ (H : Heap) (locs : List Loc) (ls : Array Slot), Wd G A s H0 ad g s1.2 H locs → lv_has ls 2 [(0, .ref (ad x0))] → W p l e rX11_takeRead s mt args below meth c H locs 0 0 Q (F0 mt 205 ls [])) : ∀ (H : Heap) (locs : List Loc) (ls : Array Slot), r32 s0.1 → Wd G A s H0 ad g s0.2 H locs → lv_has ls 2 [(0, .ref (ad x0)), (1, .int (iI s0.1))] → W p l e rX11_takeRead s mt args below meth c H locs 0 0 Q (F0 mt 183 ls []) :=
  iter_W (Pw := fun q => ∀ (H : Heap) (locs : List Loc) (ls : Array Slot), r32 q.1 → Wd G A s H0 ad g q.2 H locs → lv_has ls 2 [(0, .ref (ad x0)), (1, .int (iI q.1))] → W p l e rX11_takeRead s mt args below meth c H locs 0 0 Q (F0 mt 183 ls [])) (Px := fun c0 q => (c0 = 1 → ∀ (H : Heap) (locs : List Loc) (ls : Array Slot), Wd G A s H0 ad g q.2 H locs → lv_has ls 2 [(0, .ref (ad x0))] → W p l e rX11_takeRead s mt args below meth c H locs 0 0 Q (F0 mt 205 ls [])))
    (fun s c s' hB K0 kx H locs ls f0 S hl => wX11_takeRead_183 C S hx0 f0 hl hB K0 (fun h9 => (kx (by rw [h9]; decide)) h9)) _ _ _ _ hI K1
set_option maxRecDepth 20000 in
theorem wX11_takeRead_205 {p : Program} {l : Launch} {e : Env} {s : State} {mt : MethodId} {args : Array Value} {below : List Frame} {meth : Method} {c : Code} {Q : State → Prop} {G : Gl} {A : Nat → Prop} {H0 : Heap} {ad : Int → Nat} {g : Shp} {H : Heap} {locs : List Loc} {ls : Array Slot} {m : Mem} {x0 : Int} (C : CallFix p mt c cX11_takeRead 2 s args tb RX11) (S : Wd G A s H0 ad g m H locs) (hx0 : gk g x0 = 12) (hl : lv_has ls 2 [(0, .ref (ad x0))]) {r : Int} {m' : Mem} (hF : bX11_takeRead_205 g x0 m = some (r, m')) (Kr : ∀ (H : Heap) (locs : List Loc) (pc : Nat) (ls : Array Slot), Wd G A s H0 ad g m' H locs → decode cX11_takeRead pc = .ok (.return_, 1) → W p l e rX11_takeRead s mt args below meth c H locs 0 0 Q (F0 mt pc ls [])) : W p l e rX11_takeRead s mt args below meth c H locs 0 0 Q (F0 mt 205 ls []) := by
  unfold bX11_takeRead_205 at hF
  refine q_aload_n C hl 0 rfl rfl dX11_takeRead_205 ?_
  refine q_iconst C 0 dX11_takeRead_206 ?_
  obtain ⟨m1, em1, hF⟩ := vm_ok hF
  refine q_put C S 3 fo_RX11_163 fp_12_3 (fun h9 => absurd h9 (by decide)) (j := 3) rfl hx0 rfl rfl rfl (rl 0 rfl) (fun h9 => absurd h9 (by decide)) em1 dX11_takeRead_207 (fun H locs Sm1 => ?_)
  cases hF
  exact Kr _ _ _ _ Sm1 dX11_takeRead_210
set_option maxRecDepth 20000 in
theorem wX11_takeRead_181 {p : Program} {l : Launch} {e : Env} {s : State} {mt : MethodId} {args : Array Value} {below : List Frame} {meth : Method} {c : Code} {Q : State → Prop} {G : Gl} {A : Nat → Prop} {H0 : Heap} {ad : Int → Nat} {g : Shp} {H : Heap} {locs : List Loc} {ls : Array Slot} {m : Mem} {x0 : Int} (C : CallFix p mt c cX11_takeRead 2 s args tb RX11) (S : Wd G A s H0 ad g m H locs) (hx0 : gk g x0 = 12) (hl : lv_has ls 2 [(0, .ref (ad x0))]) {r : Int} {m' : Mem} (hF : bX11_takeRead_181 g x0 m = some (r, m')) (Kr : ∀ (H : Heap) (locs : List Loc) (pc : Nat) (ls : Array Slot), Wd G A s H0 ad g m' H locs → decode cX11_takeRead pc = .ok (.return_, 1) → W p l e rX11_takeRead s mt args below meth c H locs 0 0 Q (F0 mt pc ls [])) : W p l e rX11_takeRead s mt args below meth c H locs 0 0 Q (F0 mt 181 ls []) := by
  unfold bX11_takeRead_181 at hF
  refine q_iconst C 0 dX11_takeRead_181 ?_
  refine q_istore_n C hl [(1, .int (iI 0)), (0, .ref (ad x0))] rfl rfl (by decide) rfl dX11_takeRead_182 (fun ls hl => ?_)
  obtain ⟨cv1, sv2, hi3, hF⟩ := bdl_ok hF
  refine lX11_takeRead_183 C hx0 hi3 ?_ _ _ _ (rl 0 rfl) S (lv_sub hl [1, 0] rfl)
  intro _ H locs ls  S4 hl
  exact wX11_takeRead_205 C S4 hx0 (lv_sub hl [0] rfl) hF Kr
set_option maxRecDepth 20000 in
theorem wX11_takeRead_143 {p : Program} {l : Launch} {e : Env} {s : State} {mt : MethodId} {args : Array Value} {below : List Frame} {meth : Method} {c : Code} {Q : State → Prop} {G : Gl} {A : Nat → Prop} {H0 : Heap} {ad : Int → Nat} {g : Shp} {H : Heap} {locs : List Loc} {ls : Array Slot} {m : Mem} {x0 : Int} (C : CallFix p mt c cX11_takeRead 2 s args tb RX11) (S : Wd G A s H0 ad g m H locs) (hx0 : gk g x0 = 12) (hl : lv_has ls 2 [(0, .ref (ad x0))]) {r : Int} {m' : Mem} (hF : bX11_takeRead_143 g x0 m = some (r, m')) (Kr : ∀ (H : Heap) (locs : List Loc) (pc : Nat) (ls : Array Slot), Wd G A s H0 ad g m' H locs → decode cX11_takeRead pc = .ok (.return_, 1) → W p l e rX11_takeRead s mt args below meth c H locs 0 0 Q (F0 mt pc ls [])) : W p l e rX11_takeRead s mt args below meth c H locs 0 0 Q (F0 mt 143 ls []) := by
  unfold bX11_takeRead_143 at hF
  refine q_aload_n C hl 0 rfl rfl dX11_takeRead_143 ?_
  obtain ⟨k1, hF⟩ := ck_ok hF
  refine q_getr C S 0 fo_RX11_7 (j := 0) rfl rfl hx0 k1 (by decide) dX11_takeRead_144 ?_
  refine q_iconst C 0 dX11_takeRead_147 ?_
  refine q_aload_n C hl 0 rfl rfl dX11_takeRead_148 ?_
  refine q_geti C S 8 fo_RX11_114 (j := 8) rfl rfl hx0 dX11_takeRead_149 ?_
  obtain ⟨i2, hF⟩ := ck_ok hF
  obtain ⟨m3, em3, hF⟩ := vm_ok hF
  refine q_iast C S k1 i2 (S.r _ _) em3 dX11_takeRead_152 (fun H locs Sm3 => ?_)
  refine q_iconst C 0 dX11_takeRead_153 ?_
  refine q_istore_n C hl [(1, .int (iI 0)), (0, .ref (ad x0))] rfl rfl (by decide) rfl dX11_takeRead_154 (fun ls hl => ?_)
  obtain ⟨cv4, sv5, hi6, hF⟩ := bdl_ok hF
  refine lX11_takeRead_155 C hx0 hi6 ?_ _ _ _ (rl 0 rfl) Sm3 (lv_sub hl [1, 0] rfl)
  intro _ H locs ls  S7 hl
  exact wX11_takeRead_181 C S7 hx0 (lv_sub hl [0] rfl) hF Kr
set_option maxRecDepth 20000 in
theorem wX11_takeRead_110 {p : Program} {l : Launch} {e : Env} {s : State} {mt : MethodId} {args : Array Value} {below : List Frame} {meth : Method} {c : Code} {Q : State → Prop} {G : Gl} {A : Nat → Prop} {H0 : Heap} {ad : Int → Nat} {g : Shp} {H : Heap} {locs : List Loc} {ls : Array Slot} {m : Mem} {x0 : Int} (C : CallFix p mt c cX11_takeRead 2 s args tb RX11) (S : Wd G A s H0 ad g m H locs) (hx0 : gk g x0 = 12) (hl : lv_has ls 2 [(0, .ref (ad x0))]) {r : Int} {m' : Mem} (hF : bX11_takeRead_110 g x0 m = some (r, m')) (Kr : ∀ (H : Heap) (locs : List Loc) (pc : Nat) (ls : Array Slot), Wd G A s H0 ad g m' H locs → decode cX11_takeRead pc = .ok (.return_, 1) → W p l e rX11_takeRead s mt args below meth c H locs 0 0 Q (F0 mt pc ls [])) : W p l e rX11_takeRead s mt args below meth c H locs 0 0 Q (F0 mt 110 ls []) := by
  unfold bX11_takeRead_110 at hF
  refine q_iconst C 0 dX11_takeRead_110 ?_
  refine q_istore_n C hl [(1, .int (iI 0)), (0, .ref (ad x0))] rfl rfl (by decide) rfl dX11_takeRead_111 (fun ls hl => ?_)
  obtain ⟨cv1, sv2, hi3, hF⟩ := bdl_ok hF
  refine lX11_takeRead_112 C hx0 hi3 ?_ _ _ _ (rl 0 rfl) S (lv_sub hl [1, 0] rfl)
  intro _ H locs ls  S4 hl
  exact wX11_takeRead_143 C S4 hx0 (lv_sub hl [0] rfl) hF Kr
set_option maxRecDepth 20000 in
theorem wX11_takeRead_83 {p : Program} {l : Launch} {e : Env} {s : State} {mt : MethodId} {args : Array Value} {below : List Frame} {meth : Method} {c : Code} {Q : State → Prop} {G : Gl} {A : Nat → Prop} {H0 : Heap} {ad : Int → Nat} {g : Shp} {H : Heap} {locs : List Loc} {ls : Array Slot} {m : Mem} {x0 : Int} (C : CallFix p mt c cX11_takeRead 2 s args tb RX11) (S : Wd G A s H0 ad g m H locs) (hx0 : gk g x0 = 12) (hl : lv_has ls 2 [(0, .ref (ad x0))]) {r : Int} {m' : Mem} (hF : bX11_takeRead_83 g x0 m = some (r, m')) (Kr : ∀ (H : Heap) (locs : List Loc) (pc : Nat) (ls : Array Slot), Wd G A s H0 ad g m' H locs → decode cX11_takeRead pc = .ok (.return_, 1) → W p l e rX11_takeRead s mt args below meth c H locs 0 0 Q (F0 mt pc ls [])) : W p l e rX11_takeRead s mt args below meth c H locs 0 0 Q (F0 mt 83 ls []) := by
  unfold bX11_takeRead_83 at hF
  refine q_iconst C 0 dX11_takeRead_83 ?_
  refine q_istore_n C hl [(1, .int (iI 0)), (0, .ref (ad x0))] rfl rfl (by decide) rfl dX11_takeRead_84 (fun ls hl => ?_)
  obtain ⟨cv1, sv2, hi3, hF⟩ := bdl_ok hF
  refine lX11_takeRead_85 C hx0 hi3 ?_ _ _ _ (rl 0 rfl) S (lv_sub hl [1, 0] rfl)
  intro _ H locs ls  S4 hl
  exact wX11_takeRead_110 C S4 hx0 (lv_sub hl [0] rfl) hF Kr
set_option maxRecDepth 20000 in
theorem wX11_takeRead_57 {p : Program} {l : Launch} {e : Env} {s : State} {mt : MethodId} {args : Array Value} {below : List Frame} {meth : Method} {c : Code} {Q : State → Prop} {G : Gl} {A : Nat → Prop} {H0 : Heap} {ad : Int → Nat} {g : Shp} {H : Heap} {locs : List Loc} {ls : Array Slot} {m : Mem} {x0 : Int} (C : CallFix p mt c cX11_takeRead 2 s args tb RX11) (S : Wd G A s H0 ad g m H locs) (hx0 : gk g x0 = 12) (hl : lv_has ls 2 [(0, .ref (ad x0))]) {r : Int} {m' : Mem} (hF : bX11_takeRead_57 g x0 m = some (r, m')) (Kr : ∀ (H : Heap) (locs : List Loc) (pc : Nat) (ls : Array Slot), Wd G A s H0 ad g m' H locs → decode cX11_takeRead pc = .ok (.return_, 1) → W p l e rX11_takeRead s mt args below meth c H locs 0 0 Q (F0 mt pc ls [])) : W p l e rX11_takeRead s mt args below meth c H locs 0 0 Q (F0 mt 57 ls []) := by
  unfold bX11_takeRead_57 at hF
  refine q_iconst C 0 dX11_takeRead_57 ?_
  refine q_istore_n C hl [(1, .int (iI 0)), (0, .ref (ad x0))] rfl rfl (by decide) rfl dX11_takeRead_58 (fun ls hl => ?_)
  obtain ⟨cv1, sv2, hi3, hF⟩ := bdl_ok hF
  refine lX11_takeRead_59 C hx0 hi3 ?_ _ _ _ (rl 0 rfl) S (lv_sub hl [1, 0] rfl)
  intro _ H locs ls  S4 hl
  exact wX11_takeRead_83 C S4 hx0 (lv_sub hl [0] rfl) hF Kr
set_option maxRecDepth 20000 in
theorem wX11_takeRead_0 {p : Program} {l : Launch} {e : Env} {s : State} {mt : MethodId} {args : Array Value} {below : List Frame} {meth : Method} {c : Code} {Q : State → Prop} {G : Gl} {A : Nat → Prop} {H0 : Heap} {ad : Int → Nat} {g : Shp} {H : Heap} {locs : List Loc} {ls : Array Slot} {m : Mem} {x0 : Int} (C : CallFix p mt c cX11_takeRead 2 s args tb RX11) (S : Wd G A s H0 ad g m H locs) (hx0 : gk g x0 = 12) (hl : lv_has ls 2 [(0, .ref (ad x0))]) {r : Int} {m' : Mem} (hF : bX11_takeRead_0 g x0 m = some (r, m')) (Kr : ∀ (H : Heap) (locs : List Loc) (pc : Nat) (ls : Array Slot), Wd G A s H0 ad g m' H locs → decode cX11_takeRead pc = .ok (.return_, 1) → W p l e rX11_takeRead s mt args below meth c H locs 0 0 Q (F0 mt pc ls [])) : W p l e rX11_takeRead s mt args below meth c H locs 0 0 Q (F0 mt 0 ls []) := by
  unfold bX11_takeRead_0 at hF
  refine q_aload_n C hl 0 rfl rfl dX11_takeRead_0 ?_
  refine q_aload_n C hl 0 rfl rfl dX11_takeRead_1 ?_
  refine q_geti C S 10 fo_RX11_100 (j := 10) rfl rfl hx0 dX11_takeRead_2 ?_
  obtain ⟨m1, em1, hF⟩ := vm_ok hF
  refine q_put C S 20 fo_RX11_107 fp_12_20 (fun h9 => absurd h9 (by decide)) (j := 20) rfl hx0 rfl rfl rfl (S.r _ _) (fun h9 => absurd h9 (by decide)) em1 dX11_takeRead_5 (fun H locs Sm1 => ?_)
  refine q_iconst C 0 dX11_takeRead_8 ?_
  refine q_istore_n C hl [(1, .int (iI 0)), (0, .ref (ad x0))] rfl rfl (by decide) rfl dX11_takeRead_9 (fun ls hl => ?_)
  obtain ⟨cv2, sv3, hi4, hF⟩ := bdl_ok hF
  refine lX11_takeRead_10 C hx0 hi4 ?_ _ _ _ (rl 0 rfl) Sm1 (lv_sub hl [1, 0] rfl)
  intro _ H locs ls  S5 hl
  exact wX11_takeRead_57 C S5 hx0 (lv_sub hl [0] rfl) hF Kr
theorem cX11_takeRead_ok (l : Launch) (G : Gl) {g : Shp} {x0 : Int} {m m' : Mem} {r : Int} (hx0 : gk g x0 = 12) (hF : fX11_takeRead g x0 m = some (r, m')) : mV l yX11_takeRead (wT yX11_takeRead cX11_takeRead 2 none) rX11_takeRead G (fun ad => [.ref (ad x0)]) g m m' :=
  met_v (by decide) (fun ad => Nat.le_of_ble_eq_true rfl) (fun p e s mt args below meth c Q A H0 H locs ad ls C hnm S hl Kr => wX11_takeRead_0 C S hx0 hl hF Kr)
set_option maxRecDepth 20000 in
theorem wX11_write_0 {p : Program} {l : Launch} {e : Env} {s : State} {mt : MethodId} {args : Array Value} {below : List Frame} {meth : Method} {c : Code} {Q : State → Prop} {G : Gl} {A : Nat → Prop} {H0 : Heap} {ad : Int → Nat} {g : Shp} {H : Heap} {locs : List Loc} {ls : Array Slot} {m : Mem} {x0 x1 : Int} (C : CallFix p mt c cX11_write 2 s args tb RX11) (S : Wd G A s H0 ad g m H locs) (hx0 : gk g x0 = 12) (hx1 : r32 x1) (hl : lv_has ls 2 [(0, .ref (ad x0)), (1, .int (iI x1))]) {r : Int} {m' : Mem} (hF : bX11_write_0 g x0 x1 m = some (r, m')) (Kr : ∀ (H : Heap) (locs : List Loc) (pc : Nat) (ls : Array Slot), Wd G A s H0 ad g m' H locs → decode cX11_write pc = .ok (.ireturn, 1) → r32 r ∧ (false = true → r = 0 ∨ r = 1) → narrow .int (.int (iI r)) = .int (iI r) → W p l e rX11_write s mt args below meth c H locs 0 0 Q (F0 mt pc ls [.int (iI r)])) : W p l e rX11_write s mt args below meth c H locs 0 0 Q (F0 mt 0 ls []) := by
  unfold bX11_write_0 at hF
  refine q_iload_n C hl 1 rfl rfl dX11_write_0 ?_
  refine q_bipush C 32 (by decide) dX11_write_1 ?_
  refine q_bipush C 126 (by decide) dX11_write_3 ?_
  obtain ⟨v1, m2, h3, hF⟩ := bd2_ok hF
  refine q_ci S (run_S (As := [.int (iI x1), .int (iI 32), .int (iI 126)]) (rest := []) C S (cX11_in_ok l G hx1 (rl 32 rfl) (rl 126 rfl) h3 ad _) gd_RX11_110 hd_X11_in rfl ⟨rfl, rfl, by decide, by decide⟩ ⟨Nat.zero_le _, Nat.zero_le _⟩ hl.1 rfl (Nat.le_of_ble_eq_true rfl) dX11_write_5) (fun H locs Sm2 h4 => ?_)
  refine q_if_ne C h4.1 13 dX11_write_8 (by decide) (fun hc5 => ?_) (fun hc5 => ?_)
  · have hF := if_t hc5 hF
    refine q_iconst C (-1) dX11_write_11 ?_
    cases hF
    exact Kr _ _ _ _ Sm2 dX11_write_12 ⟨(rl (-1) rfl), fun h9 => absurd h9 (by decide)⟩ rfl
  · have hF := if_f hc5 hF
    refine q_aload_n C hl 0 rfl rfl dX11_write_13 ?_
    refine q_geti C Sm2 5 fo_RX11_137 (j := 5) rfl rfl hx0 dX11_write_14 ?_
    refine q_sipush C 200 (by decide) dX11_write_17 ?_
    refine q_icmp_ne C (Sm2.r _ _) (rl 200 rfl) 26 dX11_write_20 (by decide) (fun hc6 => ?_) (fun hc6 => ?_)
    · have hF := if_t hc6 hF
      refine q_bipush C (-3) (by decide) dX11_write_23 ?_
      cases hF
      exact Kr _ _ _ _ Sm2 dX11_write_25 ⟨(rl (-3) rfl), fun h9 => absurd h9 (by decide)⟩ rfl
    · have hF := if_f hc6 hF
      refine q_aload_n C hl 0 rfl rfl dX11_write_26 ?_
      obtain ⟨k7, hF⟩ := ck_ok hF
      refine q_getr C Sm2 4 fo_RX11_19 (j := 4) rfl rfl hx0 k7 (by decide) dX11_write_27 ?_
      refine q_aload_n C hl 0 rfl rfl dX11_write_30 ?_
      refine q_geti C Sm2 5 fo_RX11_137 (j := 5) rfl rfl hx0 dX11_write_31 ?_
      refine q_iload_n C hl 1 rfl rfl dX11_write_34 ?_
      obtain ⟨i8, hF⟩ := ck_ok hF
      obtain ⟨m9, em9, hF⟩ := vm_ok hF
      refine q_iast C Sm2 k7 i8 hx1 em9 dX11_write_35 (fun H locs Sm9 => ?_)
      refine q_aload_n C hl 0 rfl rfl dX11_write_36 ?_
      refine q_dup C rfl dX11_write_37 ?_
      refine q_geti C Sm9 5 fo_RX11_137 (j := 5) rfl rfl hx0 dX11_write_38 ?_
      refine q_iconst C 1 dX11_write_41 ?_
      refine q_iadd C dX11_write_42 ?_
      obtain ⟨m10, em10, hF⟩ := vm_ok hF
      refine q_put C Sm9 5 fo_RX11_137 fp_12_5 (fun h9 => absurd h9 (by decide)) (j := 5) rfl hx0 rfl rfl rfl (r32_w _) (fun h9 => absurd h9 (by decide)) em10 dX11_write_43 (fun H locs Sm10 => ?_)
      refine q_aload_n C hl 0 rfl rfl dX11_write_46 ?_
      refine q_geti C Sm10 5 fo_RX11_137 (j := 5) rfl rfl hx0 dX11_write_47 ?_
      cases hF
      exact Kr _ _ _ _ Sm10 dX11_write_50 ⟨(Sm10.r _ _), fun h9 => absurd h9 (by decide)⟩ rfl
theorem cX11_write_ok (l : Launch) (G : Gl) {g : Shp} {x0 x1 : Int} {m m' : Mem} {r : Int} (hx0 : gk g x0 = 12) (hx1 : r32 x1) (hF : fX11_write g x0 x1 m = some (r, m')) : mI l yX11_write (wT yX11_write cX11_write 2 (some .int)) rX11_write G false (fun ad => [.ref (ad x0), .int (iI x1)]) g m r m' :=
  met_i (by decide) (fun ad => Nat.le_of_ble_eq_true rfl) (fun p e s mt args below meth c Q A H0 H locs ad ls C hnm S hl Kr => wX11_write_0 C S hx0 hx1 hl hF Kr)
set_option maxRecDepth 20000 in
theorem wX11_wipe_0 {p : Program} {l : Launch} {e : Env} {s : State} {mt : MethodId} {args : Array Value} {below : List Frame} {meth : Method} {c : Code} {Q : State → Prop} {G : Gl} {A : Nat → Prop} {H0 : Heap} {ad : Int → Nat} {g : Shp} {H : Heap} {locs : List Loc} {ls : Array Slot} {m : Mem} {x0 : Int} (C : CallFix p mt c cX11_wipe 2 s args tb RX11) (S : Wd G A s H0 ad g m H locs) (hx0 : gk g x0 = 12) (hl : lv_has ls 2 [(0, .ref (ad x0))]) {r : Int} {m' : Mem} (hF : bX11_wipe_0 g x0 m = some (r, m')) (Kr : ∀ (H : Heap) (locs : List Loc) (pc : Nat) (ls : Array Slot), Wd G A s H0 ad g m' H locs → decode cX11_wipe pc = .ok (.ireturn, 1) → r32 r ∧ (false = true → r = 0 ∨ r = 1) → narrow .int (.int (iI r)) = .int (iI r) → W p l e rX11_wipe s mt args below meth c H locs 0 0 Q (F0 mt pc ls [.int (iI r)])) : W p l e rX11_wipe s mt args below meth c H locs 0 0 Q (F0 mt 0 ls []) := by
  unfold bX11_wipe_0 at hF
  refine q_aload_n C hl 0 rfl rfl dX11_wipe_0 ?_
  refine q_geti C S 5 fo_RX11_137 (j := 5) rfl rfl hx0 dX11_wipe_1 ?_
  obtain ⟨y1, ey1, hF⟩ := vv_ok hF
  have ry1 : r32 y1 := ey1 ▸ (S.r _ _)
  refine q_istore_n C hl [(1, .int (iI y1)), (0, .ref (ad x0))] ey1 rfl (by decide) rfl dX11_wipe_4 (fun ls hl => ?_)
  refine q_aload_n C hl 1 rfl rfl dX11_wipe_5 ?_
  refine q_iconst C 0 dX11_wipe_6 ?_
  obtain ⟨m2, em2, hF⟩ := vm_ok hF
  refine q_put C S 5 fo_RX11_137 fp_12_5 (fun h9 => absurd h9 (by decide)) (j := 5) rfl hx0 rfl rfl rfl (rl 0 rfl) (fun h9 => absurd h9 (by decide)) em2 dX11_wipe_7 (fun H locs Sm2 => ?_)
  refine q_iload_n C hl 0 rfl rfl dX11_wipe_10 ?_
  cases hF
  exact Kr _ _ _ _ Sm2 dX11_wipe_11 ⟨ry1, fun h9 => absurd h9 (by decide)⟩ rfl
theorem cX11_wipe_ok (l : Launch) (G : Gl) {g : Shp} {x0 : Int} {m m' : Mem} {r : Int} (hx0 : gk g x0 = 12) (hF : fX11_wipe g x0 m = some (r, m')) : mI l yX11_wipe (wT yX11_wipe cX11_wipe 2 (some .int)) rX11_wipe G false (fun ad => [.ref (ad x0)]) g m r m' :=
  met_i (by decide) (fun ad => Nat.le_of_ble_eq_true rfl) (fun p e s mt args below meth c Q A H0 H locs ad ls C hnm S hl Kr => wX11_wipe_0 C S hx0 hl hF Kr)
set_option maxRecDepth 20000 in
theorem wX11_fault_0 {p : Program} {l : Launch} {e : Env} {s : State} {mt : MethodId} {args : Array Value} {below : List Frame} {meth : Method} {c : Code} {Q : State → Prop} {G : Gl} {A : Nat → Prop} {H0 : Heap} {ad : Int → Nat} {g : Shp} {H : Heap} {locs : List Loc} {ls : Array Slot} {m : Mem} {x0 : Int} (C : CallFix p mt c cX11_fault 1 s args tb RX11) (S : Wd G A s H0 ad g m H locs) (hx0 : gk g x0 = 12) (hl : lv_has ls 1 [(0, .ref (ad x0))]) {r : Int} {m' : Mem} (hF : bX11_fault_0 g x0 m = some (r, m')) (Kr : ∀ (H : Heap) (locs : List Loc) (pc : Nat) (ls : Array Slot), Wd G A s H0 ad g m' H locs → decode cX11_fault pc = .ok (.ireturn, 1) → r32 r ∧ (false = true → r = 0 ∨ r = 1) → narrow .int (.int (iI r)) = .int (iI r) → W p l e rX11_fault s mt args below meth c H locs 0 0 Q (F0 mt pc ls [.int (iI r)])) : W p l e rX11_fault s mt args below meth c H locs 0 0 Q (F0 mt 0 ls []) := by
  unfold bX11_fault_0 at hF
  refine q_aload_n C hl 0 rfl rfl dX11_fault_0 ?_
  obtain ⟨v1, m2, h3, hF⟩ := bd2_ok hF
  refine q_ci S (run_V (As := []) (rest := []) C S (cX11_readText_ok l G hx0 h3 ad _) hx0 ⟨by decide, _, _, rfl⟩ gd_RX11_166 hdV_X11_readText rfl ⟨rfl, rfl, by decide, by decide⟩ ⟨Nat.zero_le _, Nat.zero_le _⟩ hl.1 rfl (Nat.le_of_ble_eq_true rfl) dX11_fault_1) (fun H locs Sm2 h4 => ?_)
  cases hF
  exact Kr _ _ _ _ Sm2 dX11_fault_4 ⟨h4.1, fun h9 => absurd h9 (by decide)⟩ rfl
theorem cX11_fault_ok (l : Launch) (G : Gl) {g : Shp} {x0 : Int} {m m' : Mem} {r : Int} (hx0 : gk g x0 = 12) (hF : fX11_fault g x0 m = some (r, m')) : mI l yX11_fault (wT yX11_fault cX11_fault 1 (some .int)) rX11_fault G false (fun ad => [.ref (ad x0)]) g m r m' :=
  met_i (by decide) (fun ad => Nat.le_of_ble_eq_true rfl) (fun p e s mt args below meth c Q A H0 H locs ad ls C hnm S hl Kr => wX11_fault_0 C S hx0 hl hF Kr)
set_option maxRecDepth 20000 in
theorem wX11_lay_16 {p : Program} {l : Launch} {e : Env} {s : State} {mt : MethodId} {args : Array Value} {below : List Frame} {meth : Method} {c : Code} {Q : State → Prop} {G : Gl} {A : Nat → Prop} {H0 : Heap} {ad : Int → Nat} {g : Shp} {H : Heap} {locs : List Loc} {ls : Array Slot} {m : Mem} (C : CallFix p mt c cX11_lay 1 s args tb RX11) (S : Wd G A s H0 ad g m H locs)  (hl : lv_has ls 1 []) {r : Int} {m' : Mem} (hF : bX11_lay_16 g m = some (r, m')) (Kr : ∀ (H : Heap) (locs : List Loc) (pc : Nat) (ls : Array Slot), Wd G A s H0 ad g m' H locs → decode cX11_lay pc = .ok (.ireturn, 1) → r32 r ∧ (false = true → r = 0 ∨ r = 1) → narrow .int (.int (iI r)) = .int (iI r) → W p l e rX11_lay s mt args below meth c H locs 0 0 Q (F0 mt pc ls [.int (iI r)])) : W p l e rX11_lay s mt args below meth c H locs 0 0 Q (F0 mt 16 ls []) := by
  unfold bX11_lay_16 at hF
  refine q_bipush C (-2) (by decide) dX11_lay_16 ?_
  cases hF
  exact Kr _ _ _ _ S dX11_lay_18 ⟨(rl (-2) rfl), fun h9 => absurd h9 (by decide)⟩ rfl
set_option maxRecDepth 20000 in
theorem wX11_lay_0 {p : Program} {l : Launch} {e : Env} {s : State} {mt : MethodId} {args : Array Value} {below : List Frame} {meth : Method} {c : Code} {Q : State → Prop} {G : Gl} {A : Nat → Prop} {H0 : Heap} {ad : Int → Nat} {g : Shp} {H : Heap} {locs : List Loc} {ls : Array Slot} {m : Mem} {x0 : Int} (C : CallFix p mt c cX11_lay 1 s args tb RX11) (S : Wd G A s H0 ad g m H locs) (hx0 : gk g x0 = 12) (hl : lv_has ls 1 [(0, .ref (ad x0))]) {r : Int} {m' : Mem} (hF : bX11_lay_0 g x0 m = some (r, m')) (Kr : ∀ (H : Heap) (locs : List Loc) (pc : Nat) (ls : Array Slot), Wd G A s H0 ad g m' H locs → decode cX11_lay pc = .ok (.ireturn, 1) → r32 r ∧ (false = true → r = 0 ∨ r = 1) → narrow .int (.int (iI r)) = .int (iI r) → W p l e rX11_lay s mt args below meth c H locs 0 0 Q (F0 mt pc ls [.int (iI r)])) : W p l e rX11_lay s mt args below meth c H locs 0 0 Q (F0 mt 0 ls []) := by
  unfold bX11_lay_0 at hF
  refine q_aload_n C hl 0 rfl rfl dX11_lay_0 ?_
  obtain ⟨v1, m2, h3, hF⟩ := bd2_ok hF
  refine q_ci S (run_V (As := []) (rest := []) C S (cX11_readText_ok l G hx0 h3 ad _) hx0 ⟨by decide, _, _, rfl⟩ gd_RX11_166 hdV_X11_readText rfl ⟨rfl, rfl, by decide, by decide⟩ ⟨Nat.zero_le _, Nat.zero_le _⟩ hl.1 rfl (Nat.le_of_ble_eq_true rfl) dX11_lay_1) (fun H locs Sm2 h4 => ?_)
  refine q_bipush C (-4) (by decide) dX11_lay_4 ?_
  refine q_icmp_ne C h4.1 (rl (-4) rfl) 16 dX11_lay_6 (by decide) (fun hc5 => ?_) (fun hc5 => ?_)
  · have hF := if_t hc5 hF
    refine q_aload_n C hl 0 rfl rfl dX11_lay_9 ?_
    refine q_geti C Sm2 10 fo_RX11_100 (j := 10) rfl rfl hx0 dX11_lay_10 ?_
    refine q_if_ne C (Sm2.r _ _) 19 dX11_lay_13 (by decide) (fun hc6 => ?_) (fun hc6 => ?_)
    · have hF := if_t hc6 hF
      exact wX11_lay_16 C Sm2  (lv_sub hl [] rfl) hF Kr
    · have hF := if_f hc6 hF
      refine q_aload_n C hl 0 rfl rfl dX11_lay_19 ?_
      obtain ⟨v7, m8, h9, hF⟩ := bd2_ok hF
      refine q_cv Sm2 (run_V (As := []) (rest := []) C Sm2 (cX11_takeRead_ok l G hx0 h9 ad _) hx0 ⟨by decide, _, _, rfl⟩ gd_RX11_104 hdV_X11_takeRead rfl ⟨rfl, rfl, by decide, by decide⟩ ⟨Nat.zero_le _, Nat.zero_le _⟩ hl.1 rfl (Nat.le_of_ble_eq_true rfl) dX11_lay_20) (fun H locs Sm8 => ?_)
      refine q_aload_n C hl 0 rfl rfl dX11_lay_23 ?_
      refine q_geti C Sm8 20 fo_RX11_107 (j := 20) rfl rfl hx0 dX11_lay_24 ?_
      cases hF
      exact Kr _ _ _ _ Sm8 dX11_lay_27 ⟨(Sm8.r _ _), fun h9 => absurd h9 (by decide)⟩ rfl
  · have hF := if_f hc5 hF
    exact wX11_lay_16 C Sm2  (lv_sub hl [] rfl) hF Kr
theorem cX11_lay_ok (l : Launch) (G : Gl) {g : Shp} {x0 : Int} {m m' : Mem} {r : Int} (hx0 : gk g x0 = 12) (hF : fX11_lay g x0 m = some (r, m')) : mI l yX11_lay (wT yX11_lay cX11_lay 1 (some .int)) rX11_lay G false (fun ad => [.ref (ad x0)]) g m r m' :=
  met_i (by decide) (fun ad => Nat.le_of_ble_eq_true rfl) (fun p e s mt args below meth c Q A H0 H locs ad ls C hnm S hl Kr => wX11_lay_0 C S hx0 hl hF Kr)
set_option maxRecDepth 20000 in
theorem wX11_bring_3 {p : Program} {l : Launch} {e : Env} {s : State} {mt : MethodId} {args : Array Value} {below : List Frame} {meth : Method} {c : Code} {Q : State → Prop} {G : Gl} {A : Nat → Prop} {H0 : Heap} {ad : Int → Nat} {g : Shp} {H : Heap} {locs : List Loc} {ls : Array Slot} {m : Mem} {x0 x1 x2 x3 x4 : Int} (C : CallFix p mt c cX11_bring 5 s args tb RX11) (S : Wd G A s H0 ad g m H locs) (hx0 : gk g x0 = 20) (hx1 : r32 x1) (hx2 : gk g x2 = 20) (hx3 : r32 x3) (hx4 : r32 x4) (hl : lv_has ls 5 [(0, .ref (ad x0)), (1, .int (iI x1)), (2, .ref (ad x2)), (3, .int (iI x3)), (4, .int (iI x4))]) {c1 : Int} {s1 : (Int × Mem)} (hF : bX11_bring_3 g x0 x1 x2 x3 x4 m = some (c1, s1)) (K0 : c1 = 0 → ∀ (H : Heap) (locs : List Loc) (ls : Array Slot), r32 s1.1 → Wd G A s H0 ad g s1.2 H locs → lv_has ls 5 [(0, .ref (ad x0)), (1, .int (iI x1)), (2, .ref (ad x2)), (3, .int (iI x3)), (4, .int (iI s1.1))] → W p l e rX11_bring s mt args below meth c H locs 0 0 Q (F0 mt 3 ls [])) (K1 : c1 = 1 → ∀ (H : Heap) (locs : List Loc) (ls : Array Slot), Wd G A s H0 ad g s1.2 H locs → lv_has ls 5 [] → W p l e rX11_bring s mt args below meth c H locs 0 0 Q (F0 mt 29 ls [])) : W p l e rX11_bring s mt args below meth c H locs 0 0 Q (F0 mt 3 ls []) := by
  unfold bX11_bring_3 at hF
  refine q_iload C hl 4 rfl dX11_bring_3 ?_
  refine q_sipush C 433 (by decide) dX11_bring_5 ?_
  refine q_icmp_ge C hx4 (rl 433 rfl) 29 dX11_bring_8 (by decide) (fun hc1 => ?_) (fun hc1 => ?_)
  · have hF := if_t hc1 hF
    cases hF
    exact K1 rfl _ _ _  S (lv_sub hl [] rfl)
  · have hF := if_f hc1 hF
    refine q_aload_n C hl 2 rfl rfl dX11_bring_11 ?_
    refine q_iload_n C hl 3 rfl rfl dX11_bring_12 ?_
    refine q_iload C hl 4 rfl dX11_bring_13 ?_
    refine q_iadd C dX11_bring_15 ?_
    refine q_aload_n C hl 0 rfl rfl dX11_bring_16 ?_
    refine q_iload_n C hl 1 rfl rfl dX11_bring_17 ?_
    refine q_iload C hl 4 rfl dX11_bring_18 ?_
    refine q_iadd C dX11_bring_20 ?_
    obtain ⟨i2, hF⟩ := ck_ok hF
    refine q_iald C S hx0 i2 dX11_bring_21 ?_
    obtain ⟨i3, hF⟩ := ck_ok hF
    obtain ⟨m4, em4, hF⟩ := vm_ok hF
    refine q_iast C S hx2 i3 (S.r _ _) em4 dX11_bring_22 (fun H locs Sm4 => ?_)
    obtain ⟨y5, ey5, hF⟩ := vv_ok hF
    have ry5 : r32 y5 := ey5 ▸ r32_w _
    refine q_iinc C hl 4 [(4, .int (iI y5)), (0, .ref (ad x0)), (1, .int (iI x1)), (2, .ref (ad x2)), (3, .int (iI x3))] rfl ey5 (by decide) rfl dX11_bring_23 (fun ls hl => ?_)
    refine q_goto C 3 dX11_bring_26 (by decide) ?_
    cases hF
    exact K0 rfl _ _ _ ry5 Sm4 (lv_sub hl [1, 2, 3, 4, 0] rfl)
set_option maxRecDepth 20000 in
theorem lX11_bring_3 {p : Program} {l : Launch} {e : Env} {s : State} {mt : MethodId} {args : Array Value} {below : List Frame} {meth : Method} {c : Code} {Q : State → Prop} {G : Gl} {A : Nat → Prop} {H0 : Heap} {ad : Int → Nat} {g : Shp} {x0 x1 x2 x3 : Int} (C : CallFix p mt c cX11_bring 5 s args tb RX11) (hx0 : gk g x0 = 20) (hx1 : r32 x1) (hx2 : gk g x2 = 20) (hx3 : r32 x3) {n : Nat} {s0 s1 : (Int × Mem)} {c1 : Int} (hI : iter (BX11_bring_3 g x0 x1 x2 x3) n s0 = some (c1, s1)) (K1 : c1 = 1 → ∀ (H : Heap) (locs : List Loc) (ls : Array Slot), Wd G A s H0 ad g s1.2 H locs → lv_has ls 5 [] → W p l e rX11_bring s mt args below meth c H locs 0 0 Q (F0 mt 29 ls [])) : ∀ (H : Heap) (locs : List Loc) (ls : Array Slot), r32 s0.1 → Wd G A s H0 ad g s0.2 H locs → lv_has ls 5 [(0, .ref (ad x0)), (1, .int (iI x1)), (2, .ref (ad x2)), (3, .int (iI x3)), (4, .int (iI s0.1))] → W p l e rX11_bring s mt args below meth c H locs 0 0 Q (F0 mt 3 ls []) :=
  iter_W (Pw := fun q => ∀ (H : Heap) (locs : List Loc) (ls : Array Slot), r32 q.1 → Wd G A s H0 ad g q.2 H locs → lv_has ls 5 [(0, .ref (ad x0)), (1, .int (iI x1)), (2, .ref (ad x2)), (3, .int (iI x3)), (4, .int (iI q.1))] → W p l e rX11_bring s mt args below meth c H locs 0 0 Q (F0 mt 3 ls [])) (Px := fun c0 q => (c0 = 1 → ∀ (H : Heap) (locs : List Loc) (ls : Array Slot), Wd G A s H0 ad g q.2 H locs → lv_has ls 5 [] → W p l e rX11_bring s mt args below meth c H locs 0 0 Q (F0 mt 29 ls [])))
    (fun s c s' hB K0 kx H locs ls f0 S hl => wX11_bring_3 C S hx0 hx1 hx2 hx3 f0 hl hB K0 (fun h9 => (kx (by rw [h9]; decide)) h9)) _ _ _ _ hI K1
set_option maxRecDepth 20000 in
theorem wX11_bring_29 {p : Program} {l : Launch} {e : Env} {s : State} {mt : MethodId} {args : Array Value} {below : List Frame} {meth : Method} {c : Code} {Q : State → Prop} {G : Gl} {A : Nat → Prop} {H0 : Heap} {ad : Int → Nat} {g : Shp} {H : Heap} {locs : List Loc} {ls : Array Slot} {m : Mem} (C : CallFix p mt c cX11_bring 5 s args tb RX11) (S : Wd G A s H0 ad g m H locs)  (hl : lv_has ls 5 []) {r : Int} {m' : Mem} (hF : bX11_bring_29 g m = some (r, m')) (Kr : ∀ (H : Heap) (locs : List Loc) (pc : Nat) (ls : Array Slot), Wd G A s H0 ad g m' H locs → decode cX11_bring pc = .ok (.return_, 1) → W p l e rX11_bring s mt args below meth c H locs 0 0 Q (F0 mt pc ls [])) : W p l e rX11_bring s mt args below meth c H locs 0 0 Q (F0 mt 29 ls []) := by
  unfold bX11_bring_29 at hF
  cases hF
  exact Kr _ _ _ _ S dX11_bring_29
set_option maxRecDepth 20000 in
theorem wX11_bring_0 {p : Program} {l : Launch} {e : Env} {s : State} {mt : MethodId} {args : Array Value} {below : List Frame} {meth : Method} {c : Code} {Q : State → Prop} {G : Gl} {A : Nat → Prop} {H0 : Heap} {ad : Int → Nat} {g : Shp} {H : Heap} {locs : List Loc} {ls : Array Slot} {m : Mem} {x0 x1 x2 x3 : Int} (C : CallFix p mt c cX11_bring 5 s args tb RX11) (S : Wd G A s H0 ad g m H locs) (hx0 : gk g x0 = 20) (hx1 : r32 x1) (hx2 : gk g x2 = 20) (hx3 : r32 x3) (hl : lv_has ls 5 [(0, .ref (ad x0)), (1, .int (iI x1)), (2, .ref (ad x2)), (3, .int (iI x3))]) {r : Int} {m' : Mem} (hF : bX11_bring_0 g x0 x1 x2 x3 m = some (r, m')) (Kr : ∀ (H : Heap) (locs : List Loc) (pc : Nat) (ls : Array Slot), Wd G A s H0 ad g m' H locs → decode cX11_bring pc = .ok (.return_, 1) → W p l e rX11_bring s mt args below meth c H locs 0 0 Q (F0 mt pc ls [])) : W p l e rX11_bring s mt args below meth c H locs 0 0 Q (F0 mt 0 ls []) := by
  unfold bX11_bring_0 at hF
  refine q_iconst C 0 dX11_bring_0 ?_
  refine q_istore C hl [(4, .int (iI 0)), (0, .ref (ad x0)), (1, .int (iI x1)), (2, .ref (ad x2)), (3, .int (iI x3))] rfl (by decide) rfl dX11_bring_1 (fun ls hl => ?_)
  obtain ⟨cv1, sv2, hi3, hF⟩ := bdl_ok hF
  refine lX11_bring_3 C hx0 hx1 hx2 hx3 hi3 ?_ _ _ _ (rl 0 rfl) S (lv_sub hl [1, 2, 3, 4, 0] rfl)
  intro _ H locs ls  S4 hl
  exact wX11_bring_29 C S4  (lv_sub hl [] rfl) hF Kr
theorem cX11_bring_ok (l : Launch) (G : Gl) {g : Shp} {x0 x1 x2 x3 : Int} {m m' : Mem} {r : Int} (hx0 : gk g x0 = 20) (hx1 : r32 x1) (hx2 : gk g x2 = 20) (hx3 : r32 x3) (hF : fX11_bring g x0 x1 x2 x3 m = some (r, m')) : mV l yX11_bring (wT yX11_bring cX11_bring 5 none) rX11_bring G (fun ad => [.ref (ad x0), .int (iI x1), .ref (ad x2), .int (iI x3)]) g m m' :=
  met_v (by decide) (fun ad => Nat.le_of_ble_eq_true rfl) (fun p e s mt args below meth c Q A H0 H locs ad ls C hnm S hl Kr => wX11_bring_0 C S hx0 hx1 hx2 hx3 hl hF Kr)
set_option maxRecDepth 20000 in
theorem wX11_note_11 {p : Program} {l : Launch} {e : Env} {s : State} {mt : MethodId} {args : Array Value} {below : List Frame} {meth : Method} {c : Code} {Q : State → Prop} {G : Gl} {A : Nat → Prop} {H0 : Heap} {ad : Int → Nat} {g : Shp} {H : Heap} {locs : List Loc} {ls : Array Slot} {m : Mem} {x0 x1 : Int} (C : CallFix p mt c cX11_note 2 s args tb RX11) (S : Wd G A s H0 ad g m H locs) (hx0 : gk g x0 = 12) (hx1 : r32 x1) (hl : lv_has ls 2 [(0, .ref (ad x0)), (1, .int (iI x1))]) {c1 : Int} {s1 : (Int × Mem)} (hF : bX11_note_11 g x0 x1 m = some (c1, s1)) (K0 : c1 = 0 → ∀ (H : Heap) (locs : List Loc) (ls : Array Slot), r32 s1.1 → Wd G A s H0 ad g s1.2 H locs → lv_has ls 2 [(0, .ref (ad x0)), (1, .int (iI s1.1))] → W p l e rX11_note s mt args below meth c H locs 0 0 Q (F0 mt 11 ls [])) (K1 : c1 = 1 → ∀ (H : Heap) (locs : List Loc) (ls : Array Slot), Wd G A s H0 ad g s1.2 H locs → lv_has ls 2 [(0, .ref (ad x0))] → W p l e rX11_note s mt args below meth c H locs 0 0 Q (F0 mt 40 ls [])) : W p l e rX11_note s mt args below meth c H locs 0 0 Q (F0 mt 11 ls []) := by
  unfold bX11_note_11 at hF
  refine q_iload_n C hl 1 rfl rfl dX11_note_11 ?_
  refine q_sipush C 2165 (by decide) dX11_note_12 ?_
  refine q_icmp_ge C hx1 (rl 2165 rfl) 40 dX11_note_15 (by decide) (fun hc1 => ?_) (fun hc1 => ?_)
  · have hF := if_t hc1 hF
    cases hF
    exact K1 rfl _ _ _  S (lv_sub hl [0] rfl)
  · have hF := if_f hc1 hF
    refine q_aload_n C hl 0 rfl rfl dX11_note_18 ?_
    obtain ⟨k2, hF⟩ := ck_ok hF
    refine q_getr C S 2 fo_RX11_16 (j := 2) rfl rfl hx0 k2 (by decide) dX11_note_19 ?_
    refine q_iload_n C hl 1 rfl rfl dX11_note_22 ?_
    refine q_aload_n C hl 0 rfl rfl dX11_note_23 ?_
    refine q_getr C S 2 fo_RX11_16 (j := 2) rfl rfl hx0 k2 (by decide) dX11_note_24 ?_
    refine q_iload_n C hl 1 rfl rfl dX11_note_27 ?_
    refine q_sipush C 433 (by decide) dX11_note_28 ?_
    refine q_iadd C dX11_note_31 ?_
    obtain ⟨i3, hF⟩ := ck_ok hF
    refine q_iald C S k2 i3 dX11_note_32 ?_
    obtain ⟨i4, hF⟩ := ck_ok hF
    obtain ⟨m5, em5, hF⟩ := vm_ok hF
    refine q_iast C S k2 i4 (S.r _ _) em5 dX11_note_33 (fun H locs Sm5 => ?_)
    obtain ⟨y6, ey6, hF⟩ := vv_ok hF
    have ry6 : r32 y6 := ey6 ▸ r32_w _
    refine q_iinc C hl 1 [(1, .int (iI y6)), (0, .ref (ad x0))] rfl ey6 (by decide) rfl dX11_note_34 (fun ls hl => ?_)
    refine q_goto C 11 dX11_note_37 (by decide) ?_
    cases hF
    exact K0 rfl _ _ _ ry6 Sm5 (lv_sub hl [1, 0] rfl)
set_option maxRecDepth 20000 in
theorem lX11_note_11 {p : Program} {l : Launch} {e : Env} {s : State} {mt : MethodId} {args : Array Value} {below : List Frame} {meth : Method} {c : Code} {Q : State → Prop} {G : Gl} {A : Nat → Prop} {H0 : Heap} {ad : Int → Nat} {g : Shp} {x0 : Int} (C : CallFix p mt c cX11_note 2 s args tb RX11) (hx0 : gk g x0 = 12) {n : Nat} {s0 s1 : (Int × Mem)} {c1 : Int} (hI : iter (BX11_note_11 g x0) n s0 = some (c1, s1)) (K1 : c1 = 1 → ∀ (H : Heap) (locs : List Loc) (ls : Array Slot), Wd G A s H0 ad g s1.2 H locs → lv_has ls 2 [(0, .ref (ad x0))] → W p l e rX11_note s mt args below meth c H locs 0 0 Q (F0 mt 40 ls [])) : ∀ (H : Heap) (locs : List Loc) (ls : Array Slot), r32 s0.1 → Wd G A s H0 ad g s0.2 H locs → lv_has ls 2 [(0, .ref (ad x0)), (1, .int (iI s0.1))] → W p l e rX11_note s mt args below meth c H locs 0 0 Q (F0 mt 11 ls []) :=
  iter_W (Pw := fun q => ∀ (H : Heap) (locs : List Loc) (ls : Array Slot), r32 q.1 → Wd G A s H0 ad g q.2 H locs → lv_has ls 2 [(0, .ref (ad x0)), (1, .int (iI q.1))] → W p l e rX11_note s mt args below meth c H locs 0 0 Q (F0 mt 11 ls [])) (Px := fun c0 q => (c0 = 1 → ∀ (H : Heap) (locs : List Loc) (ls : Array Slot), Wd G A s H0 ad g q.2 H locs → lv_has ls 2 [(0, .ref (ad x0))] → W p l e rX11_note s mt args below meth c H locs 0 0 Q (F0 mt 40 ls [])))
    (fun s c s' hB K0 kx H locs ls f0 S hl => wX11_note_11 C S hx0 f0 hl hB K0 (fun h9 => (kx (by rw [h9]; decide)) h9)) _ _ _ _ hI K1
set_option maxRecDepth 20000 in
theorem wX11_note_50 {p : Program} {l : Launch} {e : Env} {s : State} {mt : MethodId} {args : Array Value} {below : List Frame} {meth : Method} {c : Code} {Q : State → Prop} {G : Gl} {A : Nat → Prop} {H0 : Heap} {ad : Int → Nat} {g : Shp} {H : Heap} {locs : List Loc} {ls : Array Slot} {m : Mem} {x0 : Int} (C : CallFix p mt c cX11_note 2 s args tb RX11) (S : Wd G A s H0 ad g m H locs) (hx0 : gk g x0 = 12) (hl : lv_has ls 2 [(0, .ref (ad x0))]) {r : Int} {m' : Mem} (hF : bX11_note_50 g x0 m = some (r, m')) (Kr : ∀ (H : Heap) (locs : List Loc) (pc : Nat) (ls : Array Slot), Wd G A s H0 ad g m' H locs → decode cX11_note pc = .ok (.return_, 1) → W p l e rX11_note s mt args below meth c H locs 0 0 Q (F0 mt pc ls [])) : W p l e rX11_note s mt args below meth c H locs 0 0 Q (F0 mt 50 ls []) := by
  unfold bX11_note_50 at hF
  refine q_aload_n C hl 0 rfl rfl dX11_note_50 ?_
  obtain ⟨k1, hF⟩ := ck_ok hF
  refine q_getr C S 0 fo_RX11_7 (j := 0) rfl rfl hx0 k1 (by decide) dX11_note_51 ?_
  refine q_iconst C 0 dX11_note_54 ?_
  refine q_aload_n C hl 0 rfl rfl dX11_note_55 ?_
  obtain ⟨k2, hF⟩ := ck_ok hF
  refine q_getr C S 2 fo_RX11_16 (j := 2) rfl rfl hx0 k2 (by decide) dX11_note_56 ?_
  refine q_sipush C 433 (by decide) dX11_note_59 ?_
  refine q_aload_n C hl 0 rfl rfl dX11_note_62 ?_
  refine q_geti C S 3 fo_RX11_163 (j := 3) rfl rfl hx0 dX11_note_63 ?_
  refine q_imul C dX11_note_66 ?_
  obtain ⟨v3, m4, h5, hF⟩ := bd2_ok hF
  refine q_cv S (run_S (As := [.ref (ad (m x0 0)), .int (iI 0), .ref (ad (m x0 2)), .int (iI (w32 (433 * (m x0 3))))]) (rest := []) C S (cX11_bring_ok l G k1 (rl 0 rfl) k2 (r32_w _) h5 ad _) gd_RX11_169 hd_X11_bring rfl ⟨rfl, rfl, by decide, by decide⟩ ⟨Nat.zero_le _, Nat.zero_le _⟩ hl.1 rfl (Nat.le_of_ble_eq_true rfl) dX11_note_67) (fun H locs Sm4 => ?_)
  refine q_aload_n C hl 0 rfl rfl dX11_note_70 ?_
  refine q_dup C rfl dX11_note_71 ?_
  refine q_geti C Sm4 3 fo_RX11_163 (j := 3) rfl rfl hx0 dX11_note_72 ?_
  refine q_iconst C 1 dX11_note_75 ?_
  refine q_iadd C dX11_note_76 ?_
  obtain ⟨m6, em6, hF⟩ := vm_ok hF
  refine q_put C Sm4 3 fo_RX11_163 fp_12_3 (fun h9 => absurd h9 (by decide)) (j := 3) rfl hx0 rfl rfl rfl (r32_w _) (fun h9 => absurd h9 (by decide)) em6 dX11_note_77 (fun H locs Sm6 => ?_)
  cases hF
  exact Kr _ _ _ _ Sm6 dX11_note_80
set_option maxRecDepth 20000 in
theorem wX11_note_40 {p : Program} {l : Launch} {e : Env} {s : State} {mt : MethodId} {args : Array Value} {below : List Frame} {meth : Method} {c : Code} {Q : State → Prop} {G : Gl} {A : Nat → Prop} {H0 : Heap} {ad : Int → Nat} {g : Shp} {H : Heap} {locs : List Loc} {ls : Array Slot} {m : Mem} {x0 : Int} (C : CallFix p mt c cX11_note 2 s args tb RX11) (S : Wd G A s H0 ad g m H locs) (hx0 : gk g x0 = 12) (hl : lv_has ls 2 [(0, .ref (ad x0))]) {r : Int} {m' : Mem} (hF : bX11_note_40 g x0 m = some (r, m')) (Kr : ∀ (H : Heap) (locs : List Loc) (pc : Nat) (ls : Array Slot), Wd G A s H0 ad g m' H locs → decode cX11_note pc = .ok (.return_, 1) → W p l e rX11_note s mt args below meth c H locs 0 0 Q (F0 mt pc ls [])) : W p l e rX11_note s mt args below meth c H locs 0 0 Q (F0 mt 40 ls []) := by
  unfold bX11_note_40 at hF
  refine q_aload_n C hl 0 rfl rfl dX11_note_40 ?_
  refine q_dup C rfl dX11_note_41 ?_
  refine q_geti C S 3 fo_RX11_163 (j := 3) rfl rfl hx0 dX11_note_42 ?_
  refine q_iconst C 1 dX11_note_45 ?_
  refine q_isub C dX11_note_46 ?_
  obtain ⟨m1, em1, hF⟩ := vm_ok hF
  refine q_put C S 3 fo_RX11_163 fp_12_3 (fun h9 => absurd h9 (by decide)) (j := 3) rfl hx0 rfl rfl rfl (r32_w _) (fun h9 => absurd h9 (by decide)) em1 dX11_note_47 (fun H locs Sm1 => ?_)
  exact wX11_note_50 C Sm1 hx0 (lv_sub hl [0] rfl) hF Kr
set_option maxRecDepth 20000 in
theorem wX11_note_0 {p : Program} {l : Launch} {e : Env} {s : State} {mt : MethodId} {args : Array Value} {below : List Frame} {meth : Method} {c : Code} {Q : State → Prop} {G : Gl} {A : Nat → Prop} {H0 : Heap} {ad : Int → Nat} {g : Shp} {H : Heap} {locs : List Loc} {ls : Array Slot} {m : Mem} {x0 : Int} (C : CallFix p mt c cX11_note 2 s args tb RX11) (S : Wd G A s H0 ad g m H locs) (hx0 : gk g x0 = 12) (hl : lv_has ls 2 [(0, .ref (ad x0))]) {r : Int} {m' : Mem} (hF : bX11_note_0 g x0 m = some (r, m')) (Kr : ∀ (H : Heap) (locs : List Loc) (pc : Nat) (ls : Array Slot), Wd G A s H0 ad g m' H locs → decode cX11_note pc = .ok (.return_, 1) → W p l e rX11_note s mt args below meth c H locs 0 0 Q (F0 mt pc ls [])) : W p l e rX11_note s mt args below meth c H locs 0 0 Q (F0 mt 0 ls []) := by
  unfold bX11_note_0 at hF
  refine q_aload_n C hl 0 rfl rfl dX11_note_0 ?_
  refine q_geti C S 3 fo_RX11_163 (j := 3) rfl rfl hx0 dX11_note_1 ?_
  refine q_bipush C 6 (by decide) dX11_note_4 ?_
  refine q_icmp_ne C (S.r _ _) (rl 6 rfl) 50 dX11_note_6 (by decide) (fun hc1 => ?_) (fun hc1 => ?_)
  · have hF := if_t hc1 hF
    refine q_iconst C 0 dX11_note_9 ?_
    refine q_istore_n C hl [(1, .int (iI 0)), (0, .ref (ad x0))] rfl rfl (by decide) rfl dX11_note_10 (fun ls hl => ?_)
    obtain ⟨cv2, sv3, hi4, hF⟩ := bdl_ok hF
    refine lX11_note_11 C hx0 hi4 ?_ _ _ _ (rl 0 rfl) S (lv_sub hl [1, 0] rfl)
    intro _ H locs ls  S5 hl
    exact wX11_note_40 C S5 hx0 (lv_sub hl [0] rfl) hF Kr
  · have hF := if_f hc1 hF
    exact wX11_note_50 C S hx0 (lv_sub hl [0] rfl) hF Kr
theorem cX11_note_ok (l : Launch) (G : Gl) {g : Shp} {x0 : Int} {m m' : Mem} {r : Int} (hx0 : gk g x0 = 12) (hF : fX11_note g x0 m = some (r, m')) : mV l yX11_note (wT yX11_note cX11_note 2 none) rX11_note G (fun ad => [.ref (ad x0)]) g m m' :=
  met_v (by decide) (fun ad => Nat.le_of_ble_eq_true rfl) (fun p e s mt args below meth c Q A H0 H locs ad ls C hnm S hl Kr => wX11_note_0 C S hx0 hl hF Kr)
set_option maxRecDepth 20000 in
theorem wX11_undo_0 {p : Program} {l : Launch} {e : Env} {s : State} {mt : MethodId} {args : Array Value} {below : List Frame} {meth : Method} {c : Code} {Q : State → Prop} {G : Gl} {A : Nat → Prop} {H0 : Heap} {ad : Int → Nat} {g : Shp} {H : Heap} {locs : List Loc} {ls : Array Slot} {m : Mem} {x0 : Int} (C : CallFix p mt c cX11_undo 1 s args tb RX11) (S : Wd G A s H0 ad g m H locs) (hx0 : gk g x0 = 12) (hl : lv_has ls 1 [(0, .ref (ad x0))]) {r : Int} {m' : Mem} (hF : bX11_undo_0 g x0 m = some (r, m')) (Kr : ∀ (H : Heap) (locs : List Loc) (pc : Nat) (ls : Array Slot), Wd G A s H0 ad g m' H locs → decode cX11_undo pc = .ok (.ireturn, 1) → r32 r ∧ (false = true → r = 0 ∨ r = 1) → narrow .int (.int (iI r)) = .int (iI r) → W p l e rX11_undo s mt args below meth c H locs 0 0 Q (F0 mt pc ls [.int (iI r)])) : W p l e rX11_undo s mt args below meth c H locs 0 0 Q (F0 mt 0 ls []) := by
  unfold bX11_undo_0 at hF
  refine q_aload_n C hl 0 rfl rfl dX11_undo_0 ?_
  refine q_geti C S 3 fo_RX11_163 (j := 3) rfl rfl hx0 dX11_undo_1 ?_
  refine q_if_ne C (S.r _ _) 10 dX11_undo_4 (by decide) (fun hc1 => ?_) (fun hc1 => ?_)
  · have hF := if_t hc1 hF
    refine q_bipush C (-2) (by decide) dX11_undo_7 ?_
    cases hF
    exact Kr _ _ _ _ S dX11_undo_9 ⟨(rl (-2) rfl), fun h9 => absurd h9 (by decide)⟩ rfl
  · have hF := if_f hc1 hF
    refine q_aload_n C hl 0 rfl rfl dX11_undo_10 ?_
    refine q_dup C rfl dX11_undo_11 ?_
    refine q_geti C S 3 fo_RX11_163 (j := 3) rfl rfl hx0 dX11_undo_12 ?_
    refine q_iconst C 1 dX11_undo_15 ?_
    refine q_isub C dX11_undo_16 ?_
    obtain ⟨m2, em2, hF⟩ := vm_ok hF
    refine q_put C S 3 fo_RX11_163 fp_12_3 (fun h9 => absurd h9 (by decide)) (j := 3) rfl hx0 rfl rfl rfl (r32_w _) (fun h9 => absurd h9 (by decide)) em2 dX11_undo_17 (fun H locs Sm2 => ?_)
    refine q_aload_n C hl 0 rfl rfl dX11_undo_20 ?_
    obtain ⟨k3, hF⟩ := ck_ok hF
    refine q_getr C Sm2 2 fo_RX11_16 (j := 2) rfl rfl hx0 k3 (by decide) dX11_undo_21 ?_
    refine q_sipush C 433 (by decide) dX11_undo_24 ?_
    refine q_aload_n C hl 0 rfl rfl dX11_undo_27 ?_
    refine q_geti C Sm2 3 fo_RX11_163 (j := 3) rfl rfl hx0 dX11_undo_28 ?_
    refine q_imul C dX11_undo_31 ?_
    refine q_aload_n C hl 0 rfl rfl dX11_undo_32 ?_
    obtain ⟨k4, hF⟩ := ck_ok hF
    refine q_getr C Sm2 0 fo_RX11_7 (j := 0) rfl rfl hx0 k4 (by decide) dX11_undo_33 ?_
    refine q_iconst C 0 dX11_undo_36 ?_
    obtain ⟨v5, m6, h7, hF⟩ := bd2_ok hF
    refine q_cv Sm2 (run_S (As := [.ref (ad (m2 x0 2)), .int (iI (w32 (433 * (m2 x0 3)))), .ref (ad (m2 x0 0)), .int (iI 0)]) (rest := []) C Sm2 (cX11_bring_ok l G k3 (r32_w _) k4 (rl 0 rfl) h7 ad _) gd_RX11_169 hd_X11_bring rfl ⟨rfl, rfl, by decide, by decide⟩ ⟨Nat.zero_le _, Nat.zero_le _⟩ hl.1 rfl (Nat.le_of_ble_eq_true rfl) dX11_undo_37) (fun H locs Sm6 => ?_)
    refine q_aload_n C hl 0 rfl rfl dX11_undo_40 ?_
    refine q_geti C Sm6 3 fo_RX11_163 (j := 3) rfl rfl hx0 dX11_undo_41 ?_
    cases hF
    exact Kr _ _ _ _ Sm6 dX11_undo_44 ⟨(Sm6.r _ _), fun h9 => absurd h9 (by decide)⟩ rfl
theorem cX11_undo_ok (l : Launch) (G : Gl) {g : Shp} {x0 : Int} {m m' : Mem} {r : Int} (hx0 : gk g x0 = 12) (hF : fX11_undo g x0 m = some (r, m')) : mI l yX11_undo (wT yX11_undo cX11_undo 1 (some .int)) rX11_undo G false (fun ad => [.ref (ad x0)]) g m r m' :=
  met_i (by decide) (fun ad => Nat.le_of_ble_eq_true rfl) (fun p e s mt args below meth c Q A H0 H locs ad ls C hnm S hl Kr => wX11_undo_0 C S hx0 hl hF Kr)
set_option maxRecDepth 20000 in
theorem wX11_joint_0 {p : Program} {l : Launch} {e : Env} {s : State} {mt : MethodId} {args : Array Value} {below : List Frame} {meth : Method} {c : Code} {Q : State → Prop} {G : Gl} {A : Nat → Prop} {H0 : Heap} {ad : Int → Nat} {g : Shp} {H : Heap} {locs : List Loc} {ls : Array Slot} {m : Mem} {x0 x1 : Int} (C : CallFix p mt c cX11_joint 3 s args tb RX11) (S : Wd G A s H0 ad g m H locs) (hx0 : gk g x0 = 12) (hx1 : r32 x1) (hl : lv_has ls 3 [(0, .ref (ad x0)), (1, .int (iI x1))]) {r : Int} {m' : Mem} (hF : bX11_joint_0 g x0 x1 m = some (r, m')) (Kr : ∀ (H : Heap) (locs : List Loc) (pc : Nat) (ls : Array Slot), Wd G A s H0 ad g m' H locs → decode cX11_joint pc = .ok (.ireturn, 1) → r32 r ∧ (false = true → r = 0 ∨ r = 1) → narrow .int (.int (iI r)) = .int (iI r) → W p l e rX11_joint s mt args below meth c H locs 0 0 Q (F0 mt pc ls [.int (iI r)])) : W p l e rX11_joint s mt args below meth c H locs 0 0 Q (F0 mt 0 ls []) := by
  unfold bX11_joint_0 at hF
  refine q_iload_n C hl 1 rfl rfl dX11_joint_0 ?_
  refine q_iconst C 0 dX11_joint_1 ?_
  refine q_iconst C 2 dX11_joint_2 ?_
  obtain ⟨v1, m2, h3, hF⟩ := bd2_ok hF
  refine q_ci S (run_S (As := [.int (iI x1), .int (iI 0), .int (iI 2)]) (rest := []) C S (cX11_in_ok l G hx1 (rl 0 rfl) (rl 2 rfl) h3 ad _) gd_RX11_110 hd_X11_in rfl ⟨rfl, rfl, by decide, by decide⟩ ⟨Nat.zero_le _, Nat.zero_le _⟩ hl.1 rfl (Nat.le_of_ble_eq_true rfl) dX11_joint_3) (fun H locs Sm2 h4 => ?_)
  refine q_if_ne C h4.1 11 dX11_joint_6 (by decide) (fun hc5 => ?_) (fun hc5 => ?_)
  · have hF := if_t hc5 hF
    refine q_iconst C (-1) dX11_joint_9 ?_
    cases hF
    exact Kr _ _ _ _ Sm2 dX11_joint_10 ⟨(rl (-1) rfl), fun h9 => absurd h9 (by decide)⟩ rfl
  · have hF := if_f hc5 hF
    refine q_aload_n C hl 0 rfl rfl dX11_joint_11 ?_
    obtain ⟨k6, hF⟩ := ck_ok hF
    refine q_getr C Sm2 0 fo_RX11_7 (j := 0) rfl rfl hx0 k6 (by decide) dX11_joint_12 ?_
    refine q_iconst C 0 dX11_joint_15 ?_
    obtain ⟨i7, hF⟩ := ck_ok hF
    refine q_iald C Sm2 k6 i7 dX11_joint_16 ?_
    refine q_iload_n C hl 1 rfl rfl dX11_joint_17 ?_
    refine q_icmp_ne C (Sm2.r _ _) hx1 24 dX11_joint_18 (by decide) (fun hc8 => ?_) (fun hc8 => ?_)
    · have hF := if_t hc8 hF
      refine q_bipush C (-2) (by decide) dX11_joint_21 ?_
      cases hF
      exact Kr _ _ _ _ Sm2 dX11_joint_23 ⟨(rl (-2) rfl), fun h9 => absurd h9 (by decide)⟩ rfl
    · have hF := if_f hc8 hF
      refine q_aload_n C hl 0 rfl rfl dX11_joint_24 ?_
      obtain ⟨v9, m10, h11, hF⟩ := bd2_ok hF
      refine q_cv Sm2 (run_V (As := []) (rest := []) C Sm2 (cX11_note_ok l G hx0 h11 ad _) hx0 ⟨by decide, _, _, rfl⟩ gd_RX11_173 hdV_X11_note rfl ⟨rfl, rfl, by decide, by decide⟩ ⟨Nat.zero_le _, Nat.zero_le _⟩ hl.1 rfl (Nat.le_of_ble_eq_true rfl) dX11_joint_25) (fun H locs Sm10 => ?_)
      refine q_aload_n C hl 0 rfl rfl dX11_joint_28 ?_
      obtain ⟨k12, hF⟩ := ck_ok hF
      refine q_getr C Sm10 0 fo_RX11_7 (j := 0) rfl rfl hx0 k12 (by decide) dX11_joint_29 ?_
      refine q_iconst C 0 dX11_joint_32 ?_
      obtain ⟨i13, hF⟩ := ck_ok hF
      refine q_iald C Sm10 k12 i13 dX11_joint_33 ?_
      obtain ⟨y14, ey14, hF⟩ := vv_ok hF
      have ry14 : r32 y14 := ey14 ▸ (Sm10.r _ _)
      refine q_istore_n C hl [(2, .int (iI y14)), (0, .ref (ad x0)), (1, .int (iI x1))] ey14 rfl (by decide) rfl dX11_joint_34 (fun ls hl => ?_)
      refine q_aload_n C hl 1 rfl rfl dX11_joint_35 ?_
      refine q_getr C Sm10 0 fo_RX11_7 (j := 0) rfl rfl hx0 k12 (by decide) dX11_joint_36 ?_
      refine q_iconst C 0 dX11_joint_39 ?_
      refine q_iload_n C hl 2 rfl rfl dX11_joint_40 ?_
      obtain ⟨i15, hF⟩ := ck_ok hF
      obtain ⟨m16, em16, hF⟩ := vm_ok hF
      refine q_iast C Sm10 k12 i15 hx1 em16 dX11_joint_41 (fun H locs Sm16 => ?_)
      refine q_iload_n C hl 0 rfl rfl dX11_joint_42 ?_
      cases hF
      exact Kr _ _ _ _ Sm16 dX11_joint_43 ⟨ry14, fun h9 => absurd h9 (by decide)⟩ rfl
theorem cX11_joint_ok (l : Launch) (G : Gl) {g : Shp} {x0 x1 : Int} {m m' : Mem} {r : Int} (hx0 : gk g x0 = 12) (hx1 : r32 x1) (hF : fX11_joint g x0 x1 m = some (r, m')) : mI l yX11_joint (wT yX11_joint cX11_joint 3 (some .int)) rX11_joint G false (fun ad => [.ref (ad x0), .int (iI x1)]) g m r m' :=
  met_i (by decide) (fun ad => Nat.le_of_ble_eq_true rfl) (fun p e s mt args below meth c Q A H0 H locs ad ls C hnm S hl Kr => wX11_joint_0 C S hx0 hx1 hl hF Kr)
set_option maxRecDepth 20000 in
theorem wX11_ownMany_30 {p : Program} {l : Launch} {e : Env} {s : State} {mt : MethodId} {args : Array Value} {below : List Frame} {meth : Method} {c : Code} {Q : State → Prop} {G : Gl} {A : Nat → Prop} {H0 : Heap} {ad : Int → Nat} {g : Shp} {H : Heap} {locs : List Loc} {ls : Array Slot} {m : Mem} {x0 x1 x3 z0 z1 : Int} (C : CallFix p mt c cX11_ownMany 4 s args tb RX11) (S : Wd G A s H0 ad g m H locs) (hx0 : gk g x0 = 12) (hx1 : r32 x1) (hx3 : r32 x3) (hz0 : r32 z0) (hz1 : r32 z1) (hl : lv_has ls 4 [(0, .ref (ad x0)), (1, .int (iI x1)), (3, .int (iI x3))]) {c1 : Int} {s1 : (Int × Int × Mem)} (hF : bX11_ownMany_30 g x0 x1 x3 z0 z1 m = some (c1, s1)) (K0 : c1 = 0 → ∀ (H : Heap) (locs : List Loc) (ls : Array Slot), r32 s1.1 → r32 s1.2.1 → Wd G A s H0 ad g s1.2.2 H locs → lv_has ls 4 [(0, .ref (ad x0)), (1, .int (iI x1)), (2, .int (iI s1.1)), (3, .int (iI s1.2.1))] → W p l e rX11_ownMany s mt args below meth c H locs 0 0 Q (F0 mt 4 ls [])) (K1 : c1 = 1 → ∀ (H : Heap) (locs : List Loc) (ls : Array Slot), r32 s1.1 → Wd G A s H0 ad g s1.2.2 H locs → lv_has ls 4 [(2, .int (iI s1.1))] → W p l e rX11_ownMany s mt args below meth c H locs 0 0 Q (F0 mt 38 ls [])) : W p l e rX11_ownMany s mt args below meth c H locs 0 0 Q (F0 mt 30 ls [.int (iI z1), .int (iI z0)]) := by
  unfold bX11_ownMany_30 at hF
  refine q_iadd C dX11_ownMany_30 ?_
  obtain ⟨y1, ey1, hF⟩ := vv_ok hF
  have ry1 : r32 y1 := ey1 ▸ (r32_w _)
  refine q_istore_n C hl [(2, .int (iI y1)), (0, .ref (ad x0)), (1, .int (iI x1)), (3, .int (iI x3))] ey1 rfl (by decide) rfl dX11_ownMany_31 (fun ls hl => ?_)
  obtain ⟨y2, ey2, hF⟩ := vv_ok hF
  have ry2 : r32 y2 := ey2 ▸ r32_w _
  refine q_iinc C hl 3 [(3, .int (iI y2)), (2, .int (iI y1)), (0, .ref (ad x0)), (1, .int (iI x1))] rfl ey2 (by decide) rfl dX11_ownMany_32 (fun ls hl => ?_)
  refine q_goto C 4 dX11_ownMany_35 (by decide) ?_
  cases hF
  exact K0 rfl _ _ _ ry1 ry2 S (lv_sub hl [2, 3, 1, 0] rfl)
set_option maxRecDepth 20000 in
theorem wX11_ownMany_4 {p : Program} {l : Launch} {e : Env} {s : State} {mt : MethodId} {args : Array Value} {below : List Frame} {meth : Method} {c : Code} {Q : State → Prop} {G : Gl} {A : Nat → Prop} {H0 : Heap} {ad : Int → Nat} {g : Shp} {H : Heap} {locs : List Loc} {ls : Array Slot} {m : Mem} {x0 x1 x2 x3 : Int} (C : CallFix p mt c cX11_ownMany 4 s args tb RX11) (S : Wd G A s H0 ad g m H locs) (hx0 : gk g x0 = 12) (hx1 : r32 x1) (hx2 : r32 x2) (hx3 : r32 x3) (hl : lv_has ls 4 [(0, .ref (ad x0)), (1, .int (iI x1)), (2, .int (iI x2)), (3, .int (iI x3))]) {c1 : Int} {s1 : (Int × Int × Mem)} (hF : bX11_ownMany_4 g x0 x1 x2 x3 m = some (c1, s1)) (K0 : c1 = 0 → ∀ (H : Heap) (locs : List Loc) (ls : Array Slot), r32 s1.1 → r32 s1.2.1 → Wd G A s H0 ad g s1.2.2 H locs → lv_has ls 4 [(0, .ref (ad x0)), (1, .int (iI x1)), (2, .int (iI s1.1)), (3, .int (iI s1.2.1))] → W p l e rX11_ownMany s mt args below meth c H locs 0 0 Q (F0 mt 4 ls [])) (K1 : c1 = 1 → ∀ (H : Heap) (locs : List Loc) (ls : Array Slot), r32 s1.1 → Wd G A s H0 ad g s1.2.2 H locs → lv_has ls 4 [(2, .int (iI s1.1))] → W p l e rX11_ownMany s mt args below meth c H locs 0 0 Q (F0 mt 38 ls [])) : W p l e rX11_ownMany s mt args below meth c H locs 0 0 Q (F0 mt 4 ls []) := by
  unfold bX11_ownMany_4 at hF
  refine q_iload_n C hl 3 rfl rfl dX11_ownMany_4 ?_
  refine q_sipush C 400 (by decide) dX11_ownMany_5 ?_
  refine q_icmp_ge C hx3 (rl 400 rfl) 38 dX11_ownMany_8 (by decide) (fun hc1 => ?_) (fun hc1 => ?_)
  · have hF := if_t hc1 hF
    cases hF
    exact K1 rfl _ _ _ hx2 S (lv_sub hl [2] rfl)
  · have hF := if_f hc1 hF
    refine q_iload_n C hl 2 rfl rfl dX11_ownMany_11 ?_
    refine q_aload_n C hl 0 rfl rfl dX11_ownMany_12 ?_
    obtain ⟨k2, hF⟩ := ck_ok hF
    refine q_getr C S 0 fo_RX11_7 (j := 0) rfl rfl hx0 k2 (by decide) dX11_ownMany_13 ?_
    refine q_bipush C 33 (by decide) dX11_ownMany_16 ?_
    refine q_iload_n C hl 3 rfl rfl dX11_ownMany_18 ?_
    refine q_iadd C dX11_ownMany_19 ?_
    obtain ⟨i3, hF⟩ := ck_ok hF
    refine q_iald C S k2 i3 dX11_ownMany_20 ?_
    refine q_iload_n C hl 1 rfl rfl dX11_ownMany_21 ?_
    refine q_icmp_ne C (S.r _ _) hx1 29 dX11_ownMany_22 (by decide) (fun hc4 => ?_) (fun hc4 => ?_)
    · have hF := if_t hc4 hF
      refine q_iconst C 1 dX11_ownMany_25 ?_
      refine q_goto C 30 dX11_ownMany_26 (by decide) ?_
      exact wX11_ownMany_30 C S hx0 hx1 hx3 hx2 (rl 1 rfl) (lv_sub hl [0, 1, 3] rfl) hF K0 K1
    · have hF := if_f hc4 hF
      refine q_iconst C 0 dX11_ownMany_29 ?_
      exact wX11_ownMany_30 C S hx0 hx1 hx3 hx2 (rl 0 rfl) (lv_sub hl [0, 1, 3] rfl) hF K0 K1
set_option maxRecDepth 20000 in
theorem lX11_ownMany_4 {p : Program} {l : Launch} {e : Env} {s : State} {mt : MethodId} {args : Array Value} {below : List Frame} {meth : Method} {c : Code} {Q : State → Prop} {G : Gl} {A : Nat → Prop} {H0 : Heap} {ad : Int → Nat} {g : Shp} {x0 x1 : Int} (C : CallFix p mt c cX11_ownMany 4 s args tb RX11) (hx0 : gk g x0 = 12) (hx1 : r32 x1) {n : Nat} {s0 s1 : (Int × Int × Mem)} {c1 : Int} (hI : iter (BX11_ownMany_4 g x0 x1) n s0 = some (c1, s1)) (K1 : c1 = 1 → ∀ (H : Heap) (locs : List Loc) (ls : Array Slot), r32 s1.1 → Wd G A s H0 ad g s1.2.2 H locs → lv_has ls 4 [(2, .int (iI s1.1))] → W p l e rX11_ownMany s mt args below meth c H locs 0 0 Q (F0 mt 38 ls [])) : ∀ (H : Heap) (locs : List Loc) (ls : Array Slot), r32 s0.1 → r32 s0.2.1 → Wd G A s H0 ad g s0.2.2 H locs → lv_has ls 4 [(0, .ref (ad x0)), (1, .int (iI x1)), (2, .int (iI s0.1)), (3, .int (iI s0.2.1))] → W p l e rX11_ownMany s mt args below meth c H locs 0 0 Q (F0 mt 4 ls []) :=
  iter_W (Pw := fun q => ∀ (H : Heap) (locs : List Loc) (ls : Array Slot), r32 q.1 → r32 q.2.1 → Wd G A s H0 ad g q.2.2 H locs → lv_has ls 4 [(0, .ref (ad x0)), (1, .int (iI x1)), (2, .int (iI q.1)), (3, .int (iI q.2.1))] → W p l e rX11_ownMany s mt args below meth c H locs 0 0 Q (F0 mt 4 ls [])) (Px := fun c0 q => (c0 = 1 → ∀ (H : Heap) (locs : List Loc) (ls : Array Slot), r32 q.1 → Wd G A s H0 ad g q.2.2 H locs → lv_has ls 4 [(2, .int (iI q.1))] → W p l e rX11_ownMany s mt args below meth c H locs 0 0 Q (F0 mt 38 ls [])))
    (fun s c s' hB K0 kx H locs ls f0 f1 S hl => wX11_ownMany_4 C S hx0 hx1 f0 f1 hl hB K0 (fun h9 => (kx (by rw [h9]; decide)) h9)) _ _ _ _ hI K1
set_option maxRecDepth 20000 in
theorem wX11_ownMany_38 {p : Program} {l : Launch} {e : Env} {s : State} {mt : MethodId} {args : Array Value} {below : List Frame} {meth : Method} {c : Code} {Q : State → Prop} {G : Gl} {A : Nat → Prop} {H0 : Heap} {ad : Int → Nat} {g : Shp} {H : Heap} {locs : List Loc} {ls : Array Slot} {m : Mem} {x2 : Int} (C : CallFix p mt c cX11_ownMany 4 s args tb RX11) (S : Wd G A s H0 ad g m H locs) (hx2 : r32 x2) (hl : lv_has ls 4 [(2, .int (iI x2))]) {r : Int} {m' : Mem} (hF : bX11_ownMany_38 g x2 m = some (r, m')) (Kr : ∀ (H : Heap) (locs : List Loc) (pc : Nat) (ls : Array Slot), Wd G A s H0 ad g m' H locs → decode cX11_ownMany pc = .ok (.ireturn, 1) → r32 r ∧ (false = true → r = 0 ∨ r = 1) → narrow .int (.int (iI r)) = .int (iI r) → W p l e rX11_ownMany s mt args below meth c H locs 0 0 Q (F0 mt pc ls [.int (iI r)])) : W p l e rX11_ownMany s mt args below meth c H locs 0 0 Q (F0 mt 38 ls []) := by
  unfold bX11_ownMany_38 at hF
  refine q_iload_n C hl 0 rfl rfl dX11_ownMany_38 ?_
  cases hF
  exact Kr _ _ _ _ S dX11_ownMany_39 ⟨hx2, fun h9 => absurd h9 (by decide)⟩ rfl
set_option maxRecDepth 20000 in
theorem wX11_ownMany_0 {p : Program} {l : Launch} {e : Env} {s : State} {mt : MethodId} {args : Array Value} {below : List Frame} {meth : Method} {c : Code} {Q : State → Prop} {G : Gl} {A : Nat → Prop} {H0 : Heap} {ad : Int → Nat} {g : Shp} {H : Heap} {locs : List Loc} {ls : Array Slot} {m : Mem} {x0 x1 : Int} (C : CallFix p mt c cX11_ownMany 4 s args tb RX11) (S : Wd G A s H0 ad g m H locs) (hx0 : gk g x0 = 12) (hx1 : r32 x1) (hl : lv_has ls 4 [(0, .ref (ad x0)), (1, .int (iI x1))]) {r : Int} {m' : Mem} (hF : bX11_ownMany_0 g x0 x1 m = some (r, m')) (Kr : ∀ (H : Heap) (locs : List Loc) (pc : Nat) (ls : Array Slot), Wd G A s H0 ad g m' H locs → decode cX11_ownMany pc = .ok (.ireturn, 1) → r32 r ∧ (false = true → r = 0 ∨ r = 1) → narrow .int (.int (iI r)) = .int (iI r) → W p l e rX11_ownMany s mt args below meth c H locs 0 0 Q (F0 mt pc ls [.int (iI r)])) : W p l e rX11_ownMany s mt args below meth c H locs 0 0 Q (F0 mt 0 ls []) := by
  unfold bX11_ownMany_0 at hF
  refine q_iconst C 0 dX11_ownMany_0 ?_
  refine q_istore_n C hl [(2, .int (iI 0)), (0, .ref (ad x0)), (1, .int (iI x1))] rfl rfl (by decide) rfl dX11_ownMany_1 (fun ls hl => ?_)
  refine q_iconst C 0 dX11_ownMany_2 ?_
  refine q_istore_n C hl [(3, .int (iI 0)), (2, .int (iI 0)), (0, .ref (ad x0)), (1, .int (iI x1))] rfl rfl (by decide) rfl dX11_ownMany_3 (fun ls hl => ?_)
  obtain ⟨cv1, sv2, hi3, hF⟩ := bdl_ok hF
  refine lX11_ownMany_4 C hx0 hx1 hi3 ?_ _ _ _ (rl 0 rfl) (rl 0 rfl) S (lv_sub hl [2, 3, 1, 0] rfl)
  intro _ H locs ls f5 S4 hl
  exact wX11_ownMany_38 C S4 f5 (lv_sub hl [0] rfl) hF Kr
theorem cX11_ownMany_ok (l : Launch) (G : Gl) {g : Shp} {x0 x1 : Int} {m m' : Mem} {r : Int} (hx0 : gk g x0 = 12) (hx1 : r32 x1) (hF : fX11_ownMany g x0 x1 m = some (r, m')) : mI l yX11_ownMany (wT yX11_ownMany cX11_ownMany 4 (some .int)) rX11_ownMany G false (fun ad => [.ref (ad x0), .int (iI x1)]) g m r m' :=
  met_i (by decide) (fun ad => Nat.le_of_ble_eq_true rfl) (fun p e s mt args below meth c Q A H0 H locs ad ls C hnm S hl Kr => wX11_ownMany_0 C S hx0 hx1 hl hF Kr)
set_option maxRecDepth 20000 in
theorem wX11_line_0 {p : Program} {l : Launch} {e : Env} {s : State} {mt : MethodId} {args : Array Value} {below : List Frame} {meth : Method} {c : Code} {Q : State → Prop} {G : Gl} {A : Nat → Prop} {H0 : Heap} {ad : Int → Nat} {g : Shp} {H : Heap} {locs : List Loc} {ls : Array Slot} {m : Mem} {x0 x1 x2 : Int} (C : CallFix p mt c cX11_line 3 s args tb RX11) (S : Wd G A s H0 ad g m H locs) (hx0 : gk g x0 = 12) (hx1 : r32 x1) (hx2 : r32 x2) (hl : lv_has ls 3 [(0, .ref (ad x0)), (1, .int (iI x1)), (2, .int (iI x2))]) {r : Int} {m' : Mem} (hF : bX11_line_0 g x0 x1 x2 m = some (r, m')) (Kr : ∀ (H : Heap) (locs : List Loc) (pc : Nat) (ls : Array Slot), Wd G A s H0 ad g m' H locs → decode cX11_line pc = .ok (.ireturn, 1) → r32 r ∧ (false = true → r = 0 ∨ r = 1) → narrow .int (.int (iI r)) = .int (iI r) → W p l e rX11_line s mt args below meth c H locs 0 0 Q (F0 mt pc ls [.int (iI r)])) : W p l e rX11_line s mt args below meth c H locs 0 0 Q (F0 mt 0 ls []) := by
  unfold bX11_line_0 at hF
  refine q_aload_n C hl 0 rfl rfl dX11_line_0 ?_
  refine q_iload_n C hl 1 rfl rfl dX11_line_1 ?_
  obtain ⟨v1, m2, h3, hF⟩ := bd2_ok hF
  refine q_ci S (run_V (As := [.int (iI x1)]) (rest := []) C S (cX11_isLine_ok l G hx0 hx1 h3 ad _) hx0 ⟨by decide, _, _, rfl⟩ gd_RX11_176 hdV_X11_isLine rfl ⟨rfl, rfl, by decide, by decide⟩ ⟨Nat.zero_le _, Nat.zero_le _⟩ hl.1 rfl (Nat.le_of_ble_eq_true rfl) dX11_line_2) (fun H locs Sm2 h4 => ?_)
  refine q_if_ne C h4.1 10 dX11_line_5 (by decide) (fun hc5 => ?_) (fun hc5 => ?_)
  · have hF := if_t hc5 hF
    refine q_iconst C (-1) dX11_line_8 ?_
    cases hF
    exact Kr _ _ _ _ Sm2 dX11_line_9 ⟨(rl (-1) rfl), fun h9 => absurd h9 (by decide)⟩ rfl
  · have hF := if_f hc5 hF
    refine q_iload_n C hl 2 rfl rfl dX11_line_10 ?_
    by_cases hc6 : x2 = 0
    · have hF := if_t hc6 hF
      refine q_tin C hx2 0 hc6 41 52 dX11_line_11 (by decide) rfl (by decide) ?_
      refine q_aload_n C hl 0 rfl rfl dX11_line_52 ?_
      obtain ⟨k7, hF⟩ := ck_ok hF
      refine q_getr C Sm2 21 fo_RX11_43 (j := 21) rfl rfl hx0 k7 (by decide) dX11_line_53 ?_
      refine q_iload_n C hl 1 rfl rfl dX11_line_56 ?_
      obtain ⟨i8, hF⟩ := ck_ok hF
      refine q_iald C Sm2 k7 i8 dX11_line_57 ?_
      cases hF
      exact Kr _ _ _ _ Sm2 dX11_line_58 ⟨(Sm2.r _ _), fun h9 => absurd h9 (by decide)⟩ rfl
    · have hF := if_f hc6 hF
      by_cases hc9 : x2 = 1
      · have hF := if_t hc9 hF
        refine q_tin C hx2 1 hc9 48 59 dX11_line_11 (by decide) rfl (by decide) ?_
        refine q_aload_n C hl 0 rfl rfl dX11_line_59 ?_
        obtain ⟨k10, hF⟩ := ck_ok hF
        refine q_getr C Sm2 23 fo_RX11_49 (j := 23) rfl rfl hx0 k10 (by decide) dX11_line_60 ?_
        refine q_iload_n C hl 1 rfl rfl dX11_line_63 ?_
        obtain ⟨i11, hF⟩ := ck_ok hF
        refine q_iald C Sm2 k10 i11 dX11_line_64 ?_
        cases hF
        exact Kr _ _ _ _ Sm2 dX11_line_65 ⟨(Sm2.r _ _), fun h9 => absurd h9 (by decide)⟩ rfl
      · have hF := if_f hc9 hF
        by_cases hc12 : x2 = 2
        · have hF := if_t hc12 hF
          refine q_tin C hx2 2 hc12 55 66 dX11_line_11 (by decide) rfl (by decide) ?_
          refine q_aload_n C hl 0 rfl rfl dX11_line_66 ?_
          obtain ⟨k13, hF⟩ := ck_ok hF
          refine q_getr C Sm2 21 fo_RX11_43 (j := 21) rfl rfl hx0 k13 (by decide) dX11_line_67 ?_
          refine q_iload_n C hl 1 rfl rfl dX11_line_70 ?_
          obtain ⟨i14, hF⟩ := ck_ok hF
          refine q_iald C Sm2 k13 i14 dX11_line_71 ?_
          refine q_iconst C 1 dX11_line_72 ?_
          refine q_isub C dX11_line_73 ?_
          cases hF
          exact Kr _ _ _ _ Sm2 dX11_line_74 ⟨(r32_w _), fun h9 => absurd h9 (by decide)⟩ rfl
        · have hF := if_f hc12 hF
          by_cases hc15 : x2 = 3
          · have hF := if_t hc15 hF
            refine q_tin C hx2 3 hc15 64 75 dX11_line_11 (by decide) rfl (by decide) ?_
            refine q_aload_n C hl 0 rfl rfl dX11_line_75 ?_
            obtain ⟨k16, hF⟩ := ck_ok hF
            refine q_getr C Sm2 0 fo_RX11_7 (j := 0) rfl rfl hx0 k16 (by decide) dX11_line_76 ?_
            refine q_bipush C 10 (by decide) dX11_line_79 ?_
            refine q_iload_n C hl 1 rfl rfl dX11_line_81 ?_
            refine q_iadd C dX11_line_82 ?_
            obtain ⟨i17, hF⟩ := ck_ok hF
            refine q_iald C Sm2 k16 i17 dX11_line_83 ?_
            cases hF
            exact Kr _ _ _ _ Sm2 dX11_line_84 ⟨(Sm2.r _ _), fun h9 => absurd h9 (by decide)⟩ rfl
          · have hF := if_f hc15 hF
            by_cases hc18 : x2 = 4
            · have hF := if_t hc18 hF
              refine q_tin C hx2 4 hc18 74 85 dX11_line_11 (by decide) rfl (by decide) ?_
              refine q_aload_n C hl 0 rfl rfl dX11_line_85 ?_
              refine q_iload_n C hl 1 rfl rfl dX11_line_86 ?_
              obtain ⟨v19, m20, h21, hF⟩ := bd2_ok hF
              refine q_ci Sm2 (run_V (As := [.int (iI x1)]) (rest := []) C Sm2 (cX11_ownMany_ok l G hx0 hx1 h21 ad _) hx0 ⟨by decide, _, _, rfl⟩ gd_RX11_179 hdV_X11_ownMany rfl ⟨rfl, rfl, by decide, by decide⟩ ⟨Nat.zero_le _, Nat.zero_le _⟩ hl.1 rfl (Nat.le_of_ble_eq_true rfl) dX11_line_87) (fun H locs Sm20 h22 => ?_)
              cases hF
              exact Kr _ _ _ _ Sm20 dX11_line_90 ⟨h22.1, fun h9 => absurd h9 (by decide)⟩ rfl
            · have hF := if_f hc18 hF
              by_cases hc23 : x2 = 5
              · have hF := if_t hc23 hF
                refine q_tin C hx2 5 hc23 80 91 dX11_line_11 (by decide) rfl (by decide) ?_
                refine q_aload_n C hl 0 rfl rfl dX11_line_91 ?_
                obtain ⟨k24, hF⟩ := ck_ok hF
                refine q_getr C Sm2 0 fo_RX11_7 (j := 0) rfl rfl hx0 k24 (by decide) dX11_line_92 ?_
                refine q_bipush C 13 (by decide) dX11_line_95 ?_
                refine q_iload_n C hl 1 rfl rfl dX11_line_97 ?_
                refine q_iadd C dX11_line_98 ?_
                obtain ⟨i25, hF⟩ := ck_ok hF
                refine q_iald C Sm2 k24 i25 dX11_line_99 ?_
                cases hF
                exact Kr _ _ _ _ Sm2 dX11_line_100 ⟨(Sm2.r _ _), fun h9 => absurd h9 (by decide)⟩ rfl
              · have hF := if_f hc23 hF
                by_cases hc26 : x2 = 6
                · have hF := if_t hc26 hF
                  refine q_tin C hx2 6 hc26 90 101 dX11_line_11 (by decide) rfl (by decide) ?_
                  refine q_aload_n C hl 0 rfl rfl dX11_line_101 ?_
                  obtain ⟨k27, hF⟩ := ck_ok hF
                  refine q_getr C Sm2 0 fo_RX11_7 (j := 0) rfl rfl hx0 k27 (by decide) dX11_line_102 ?_
                  refine q_bipush C 16 (by decide) dX11_line_105 ?_
                  refine q_iload_n C hl 1 rfl rfl dX11_line_107 ?_
                  refine q_iadd C dX11_line_108 ?_
                  obtain ⟨i28, hF⟩ := ck_ok hF
                  refine q_iald C Sm2 k27 i28 dX11_line_109 ?_
                  cases hF
                  exact Kr _ _ _ _ Sm2 dX11_line_110 ⟨(Sm2.r _ _), fun h9 => absurd h9 (by decide)⟩ rfl
                · have hF := if_f hc26 hF
                  refine q_tout C hx2 111 dX11_line_11 (by omega) (by decide) ?_
                  refine q_iconst C (-1) dX11_line_111 ?_
                  cases hF
                  exact Kr _ _ _ _ Sm2 dX11_line_112 ⟨(rl (-1) rfl), fun h9 => absurd h9 (by decide)⟩ rfl
theorem cX11_line_ok (l : Launch) (G : Gl) {g : Shp} {x0 x1 x2 : Int} {m m' : Mem} {r : Int} (hx0 : gk g x0 = 12) (hx1 : r32 x1) (hx2 : r32 x2) (hF : fX11_line g x0 x1 x2 m = some (r, m')) : mI l yX11_line (wT yX11_line cX11_line 3 (some .int)) rX11_line G false (fun ad => [.ref (ad x0), .int (iI x1), .int (iI x2)]) g m r m' :=
  met_i (by decide) (fun ad => Nat.le_of_ble_eq_true rfl) (fun p e s mt args below meth c Q A H0 H locs ad ls C hnm S hl Kr => wX11_line_0 C S hx0 hx1 hx2 hl hF Kr)
set_option maxRecDepth 20000 in
theorem wX11_cell_12 {p : Program} {l : Launch} {e : Env} {s : State} {mt : MethodId} {args : Array Value} {below : List Frame} {meth : Method} {c : Code} {Q : State → Prop} {G : Gl} {A : Nat → Prop} {H0 : Heap} {ad : Int → Nat} {g : Shp} {H : Heap} {locs : List Loc} {ls : Array Slot} {m : Mem} (C : CallFix p mt c cX11_cell 3 s args tb RX11) (S : Wd G A s H0 ad g m H locs)  (hl : lv_has ls 3 []) {r : Int} {m' : Mem} (hF : bX11_cell_12 g m = some (r, m')) (Kr : ∀ (H : Heap) (locs : List Loc) (pc : Nat) (ls : Array Slot), Wd G A s H0 ad g m' H locs → decode cX11_cell pc = .ok (.ireturn, 1) → r32 r ∧ (false = true → r = 0 ∨ r = 1) → narrow .int (.int (iI r)) = .int (iI r) → W p l e rX11_cell s mt args below meth c H locs 0 0 Q (F0 mt pc ls [.int (iI r)])) : W p l e rX11_cell s mt args below meth c H locs 0 0 Q (F0 mt 12 ls []) := by
  unfold bX11_cell_12 at hF
  refine q_iconst C (-1) dX11_cell_12 ?_
  cases hF
  exact Kr _ _ _ _ S dX11_cell_13 ⟨(rl (-1) rfl), fun h9 => absurd h9 (by decide)⟩ rfl
set_option maxRecDepth 20000 in
theorem wX11_cell_40 {p : Program} {l : Launch} {e : Env} {s : State} {mt : MethodId} {args : Array Value} {below : List Frame} {meth : Method} {c : Code} {Q : State → Prop} {G : Gl} {A : Nat → Prop} {H0 : Heap} {ad : Int → Nat} {g : Shp} {H : Heap} {locs : List Loc} {ls : Array Slot} {m : Mem} {z0 : Int} (C : CallFix p mt c cX11_cell 3 s args tb RX11) (S : Wd G A s H0 ad g m H locs) (hz0 : r32 z0) (hl : lv_has ls 3 []) {r : Int} {m' : Mem} (hF : bX11_cell_40 g z0 m = some (r, m')) (Kr : ∀ (H : Heap) (locs : List Loc) (pc : Nat) (ls : Array Slot), Wd G A s H0 ad g m' H locs → decode cX11_cell pc = .ok (.ireturn, 1) → r32 r ∧ (false = true → r = 0 ∨ r = 1) → narrow .int (.int (iI r)) = .int (iI r) → W p l e rX11_cell s mt args below meth c H locs 0 0 Q (F0 mt pc ls [.int (iI r)])) : W p l e rX11_cell s mt args below meth c H locs 0 0 Q (F0 mt 40 ls [.int (iI z0)]) := by
  unfold bX11_cell_40 at hF
  cases hF
  exact Kr _ _ _ _ S dX11_cell_40 ⟨hz0, fun h9 => absurd h9 (by decide)⟩ rfl
set_option maxRecDepth 20000 in
theorem wX11_cell_0 {p : Program} {l : Launch} {e : Env} {s : State} {mt : MethodId} {args : Array Value} {below : List Frame} {meth : Method} {c : Code} {Q : State → Prop} {G : Gl} {A : Nat → Prop} {H0 : Heap} {ad : Int → Nat} {g : Shp} {H : Heap} {locs : List Loc} {ls : Array Slot} {m : Mem} {x0 x1 x2 : Int} (C : CallFix p mt c cX11_cell 3 s args tb RX11) (S : Wd G A s H0 ad g m H locs) (hx0 : gk g x0 = 12) (hx1 : r32 x1) (hx2 : r32 x2) (hl : lv_has ls 3 [(0, .ref (ad x0)), (1, .int (iI x1)), (2, .int (iI x2))]) {r : Int} {m' : Mem} (hF : bX11_cell_0 g x0 x1 x2 m = some (r, m')) (Kr : ∀ (H : Heap) (locs : List Loc) (pc : Nat) (ls : Array Slot), Wd G A s H0 ad g m' H locs → decode cX11_cell pc = .ok (.ireturn, 1) → r32 r ∧ (false = true → r = 0 ∨ r = 1) → narrow .int (.int (iI r)) = .int (iI r) → W p l e rX11_cell s mt args below meth c H locs 0 0 Q (F0 mt pc ls [.int (iI r)])) : W p l e rX11_cell s mt args below meth c H locs 0 0 Q (F0 mt 0 ls []) := by
  unfold bX11_cell_0 at hF
  refine q_aload_n C hl 0 rfl rfl dX11_cell_0 ?_
  refine q_iload_n C hl 1 rfl rfl dX11_cell_1 ?_
  obtain ⟨v1, m2, h3, hF⟩ := bd2_ok hF
  refine q_ci S (run_V (As := [.int (iI x1)]) (rest := []) C S (cX11_isLine_ok l G hx0 hx1 h3 ad _) hx0 ⟨by decide, _, _, rfl⟩ gd_RX11_176 hdV_X11_isLine rfl ⟨rfl, rfl, by decide, by decide⟩ ⟨Nat.zero_le _, Nat.zero_le _⟩ hl.1 rfl (Nat.le_of_ble_eq_true rfl) dX11_cell_2) (fun H locs Sm2 h4 => ?_)
  refine q_if_eq C h4.1 12 dX11_cell_5 (by decide) (fun hc5 => ?_) (fun hc5 => ?_)
  · have hF := if_t hc5 hF
    exact wX11_cell_12 C Sm2  (lv_sub hl [] rfl) hF Kr
  · have hF := if_f hc5 hF
    refine q_iload_n C hl 2 rfl rfl dX11_cell_8 ?_
    refine q_if_ge C hx2 14 dX11_cell_9 (by decide) (fun hc6 => ?_) (fun hc6 => ?_)
    · have hF := if_t hc6 hF
      refine q_iload_n C hl 2 rfl rfl dX11_cell_14 ?_
      refine q_aload_n C hl 0 rfl rfl dX11_cell_15 ?_
      obtain ⟨k7, hF⟩ := ck_ok hF
      refine q_getr C Sm2 23 fo_RX11_49 (j := 23) rfl rfl hx0 k7 (by decide) dX11_cell_16 ?_
      refine q_iload_n C hl 1 rfl rfl dX11_cell_19 ?_
      obtain ⟨i8, hF⟩ := ck_ok hF
      refine q_iald C Sm2 k7 i8 dX11_cell_20 ?_
      refine q_icmp_ge C hx2 (Sm2.r _ _) 38 dX11_cell_21 (by decide) (fun hc9 => ?_) (fun hc9 => ?_)
      · have hF := if_t hc9 hF
        refine q_bipush C (-4) (by decide) dX11_cell_38 ?_
        exact wX11_cell_40 C Sm2 (rl (-4) rfl) (lv_sub hl [] rfl) hF Kr
      · have hF := if_f hc9 hF
        refine q_aload_n C hl 0 rfl rfl dX11_cell_24 ?_
        obtain ⟨k10, hF⟩ := ck_ok hF
        refine q_getr C Sm2 24 fo_RX11_52 (j := 24) rfl rfl hx0 k10 (by decide) dX11_cell_25 ?_
        refine q_bipush C 60 (by decide) dX11_cell_28 ?_
        refine q_iload_n C hl 1 rfl rfl dX11_cell_30 ?_
        refine q_imul C dX11_cell_31 ?_
        refine q_iload_n C hl 2 rfl rfl dX11_cell_32 ?_
        refine q_iadd C dX11_cell_33 ?_
        obtain ⟨i11, hF⟩ := ck_ok hF
        refine q_iald C Sm2 k10 i11 dX11_cell_34 ?_
        refine q_goto C 40 dX11_cell_35 (by decide) ?_
        exact wX11_cell_40 C Sm2 (Sm2.r _ _) (lv_sub hl [] rfl) hF Kr
    · have hF := if_f hc6 hF
      exact wX11_cell_12 C Sm2  (lv_sub hl [] rfl) hF Kr
theorem cX11_cell_ok (l : Launch) (G : Gl) {g : Shp} {x0 x1 x2 : Int} {m m' : Mem} {r : Int} (hx0 : gk g x0 = 12) (hx1 : r32 x1) (hx2 : r32 x2) (hF : fX11_cell g x0 x1 x2 m = some (r, m')) : mI l yX11_cell (wT yX11_cell cX11_cell 3 (some .int)) rX11_cell G false (fun ad => [.ref (ad x0), .int (iI x1), .int (iI x2)]) g m r m' :=
  met_i (by decide) (fun ad => Nat.le_of_ble_eq_true rfl) (fun p e s mt args below meth c Q A H0 H locs ad ls C hnm S hl Kr => wX11_cell_0 C S hx0 hx1 hx2 hl hF Kr)
set_option maxRecDepth 20000 in
theorem wX11_whose_38 {p : Program} {l : Launch} {e : Env} {s : State} {mt : MethodId} {args : Array Value} {below : List Frame} {meth : Method} {c : Code} {Q : State → Prop} {G : Gl} {A : Nat → Prop} {H0 : Heap} {ad : Int → Nat} {g : Shp} {H : Heap} {locs : List Loc} {ls : Array Slot} {m : Mem} {z0 : Int} (C : CallFix p mt c cX11_whose 3 s args tb RX11) (S : Wd G A s H0 ad g m H locs) (hz0 : r32 z0) (hl : lv_has ls 3 []) {r : Int} {m' : Mem} (hF : bX11_whose_38 g z0 m = some (r, m')) (Kr : ∀ (H : Heap) (locs : List Loc) (pc : Nat) (ls : Array Slot), Wd G A s H0 ad g m' H locs → decode cX11_whose pc = .ok (.ireturn, 1) → r32 r ∧ (false = true → r = 0 ∨ r = 1) → narrow .int (.int (iI r)) = .int (iI r) → W p l e rX11_whose s mt args below meth c H locs 0 0 Q (F0 mt pc ls [.int (iI r)])) : W p l e rX11_whose s mt args below meth c H locs 0 0 Q (F0 mt 38 ls [.int (iI z0)]) := by
  unfold bX11_whose_38 at hF
  cases hF
  exact Kr _ _ _ _ S dX11_whose_38 ⟨hz0, fun h9 => absurd h9 (by decide)⟩ rfl
set_option maxRecDepth 20000 in
theorem wX11_whose_37 {p : Program} {l : Launch} {e : Env} {s : State} {mt : MethodId} {args : Array Value} {below : List Frame} {meth : Method} {c : Code} {Q : State → Prop} {G : Gl} {A : Nat → Prop} {H0 : Heap} {ad : Int → Nat} {g : Shp} {H : Heap} {locs : List Loc} {ls : Array Slot} {m : Mem} (C : CallFix p mt c cX11_whose 3 s args tb RX11) (S : Wd G A s H0 ad g m H locs)  (hl : lv_has ls 3 []) {r : Int} {m' : Mem} (hF : bX11_whose_37 g m = some (r, m')) (Kr : ∀ (H : Heap) (locs : List Loc) (pc : Nat) (ls : Array Slot), Wd G A s H0 ad g m' H locs → decode cX11_whose pc = .ok (.ireturn, 1) → r32 r ∧ (false = true → r = 0 ∨ r = 1) → narrow .int (.int (iI r)) = .int (iI r) → W p l e rX11_whose s mt args below meth c H locs 0 0 Q (F0 mt pc ls [.int (iI r)])) : W p l e rX11_whose s mt args below meth c H locs 0 0 Q (F0 mt 37 ls []) := by
  unfold bX11_whose_37 at hF
  refine q_iconst C (-1) dX11_whose_37 ?_
  exact wX11_whose_38 C S (rl (-1) rfl) (lv_sub hl [] rfl) hF Kr
set_option maxRecDepth 20000 in
theorem wX11_whose_0 {p : Program} {l : Launch} {e : Env} {s : State} {mt : MethodId} {args : Array Value} {below : List Frame} {meth : Method} {c : Code} {Q : State → Prop} {G : Gl} {A : Nat → Prop} {H0 : Heap} {ad : Int → Nat} {g : Shp} {H : Heap} {locs : List Loc} {ls : Array Slot} {m : Mem} {x0 x1 x2 : Int} (C : CallFix p mt c cX11_whose 3 s args tb RX11) (S : Wd G A s H0 ad g m H locs) (hx0 : gk g x0 = 12) (hx1 : r32 x1) (hx2 : r32 x2) (hl : lv_has ls 3 [(0, .ref (ad x0)), (1, .int (iI x1)), (2, .int (iI x2))]) {r : Int} {m' : Mem} (hF : bX11_whose_0 g x0 x1 x2 m = some (r, m')) (Kr : ∀ (H : Heap) (locs : List Loc) (pc : Nat) (ls : Array Slot), Wd G A s H0 ad g m' H locs → decode cX11_whose pc = .ok (.ireturn, 1) → r32 r ∧ (false = true → r = 0 ∨ r = 1) → narrow .int (.int (iI r)) = .int (iI r) → W p l e rX11_whose s mt args below meth c H locs 0 0 Q (F0 mt pc ls [.int (iI r)])) : W p l e rX11_whose s mt args below meth c H locs 0 0 Q (F0 mt 0 ls []) := by
  unfold bX11_whose_0 at hF
  refine q_iload_n C hl 1 rfl rfl dX11_whose_0 ?_
  refine q_iconst C 0 dX11_whose_1 ?_
  refine q_bipush C 19 (by decide) dX11_whose_2 ?_
  obtain ⟨v1, m2, h3, hF⟩ := bd2_ok hF
  refine q_ci S (run_S (As := [.int (iI x1), .int (iI 0), .int (iI 19)]) (rest := []) C S (cX11_in_ok l G hx1 (rl 0 rfl) (rl 19 rfl) h3 ad _) gd_RX11_110 hd_X11_in rfl ⟨rfl, rfl, by decide, by decide⟩ ⟨Nat.zero_le _, Nat.zero_le _⟩ hl.1 rfl (Nat.le_of_ble_eq_true rfl) dX11_whose_4) (fun H locs Sm2 h4 => ?_)
  refine q_if_eq C h4.1 37 dX11_whose_7 (by decide) (fun hc5 => ?_) (fun hc5 => ?_)
  · have hF := if_t hc5 hF
    exact wX11_whose_37 C Sm2  (lv_sub hl [] rfl) hF Kr
  · have hF := if_f hc5 hF
    refine q_iload_n C hl 2 rfl rfl dX11_whose_10 ?_
    refine q_iconst C 0 dX11_whose_11 ?_
    refine q_bipush C 19 (by decide) dX11_whose_12 ?_
    obtain ⟨v6, m7, h8, hF⟩ := bd2_ok hF
    refine q_ci Sm2 (run_S (As := [.int (iI x2), .int (iI 0), .int (iI 19)]) (rest := []) C Sm2 (cX11_in_ok l G hx2 (rl 0 rfl) (rl 19 rfl) h8 ad _) gd_RX11_110 hd_X11_in rfl ⟨rfl, rfl, by decide, by decide⟩ ⟨Nat.zero_le _, Nat.zero_le _⟩ hl.1 rfl (Nat.le_of_ble_eq_true rfl) dX11_whose_14) (fun H locs Sm7 h9 => ?_)
    refine q_if_eq C h9.1 37 dX11_whose_17 (by decide) (fun hc10 => ?_) (fun hc10 => ?_)
    · have hF := if_t hc10 hF
      exact wX11_whose_37 C Sm7  (lv_sub hl [] rfl) hF Kr
    · have hF := if_f hc10 hF
      refine q_aload_n C hl 0 rfl rfl dX11_whose_20 ?_
      obtain ⟨k11, hF⟩ := ck_ok hF
      refine q_getr C Sm7 0 fo_RX11_7 (j := 0) rfl rfl hx0 k11 (by decide) dX11_whose_21 ?_
      refine q_bipush C 33 (by decide) dX11_whose_24 ?_
      refine q_bipush C 20 (by decide) dX11_whose_26 ?_
      refine q_iload_n C hl 2 rfl rfl dX11_whose_28 ?_
      refine q_imul C dX11_whose_29 ?_
      refine q_iadd C dX11_whose_30 ?_
      refine q_iload_n C hl 1 rfl rfl dX11_whose_31 ?_
      refine q_iadd C dX11_whose_32 ?_
      obtain ⟨i12, hF⟩ := ck_ok hF
      refine q_iald C Sm7 k11 i12 dX11_whose_33 ?_
      refine q_goto C 38 dX11_whose_34 (by decide) ?_
      exact wX11_whose_38 C Sm7 (Sm7.r _ _) (lv_sub hl [] rfl) hF Kr
theorem cX11_whose_ok (l : Launch) (G : Gl) {g : Shp} {x0 x1 x2 : Int} {m m' : Mem} {r : Int} (hx0 : gk g x0 = 12) (hx1 : r32 x1) (hx2 : r32 x2) (hF : fX11_whose g x0 x1 x2 m = some (r, m')) : mI l yX11_whose (wT yX11_whose cX11_whose 3 (some .int)) rX11_whose G false (fun ad => [.ref (ad x0), .int (iI x1), .int (iI x2)]) g m r m' :=
  met_i (by decide) (fun ad => Nat.le_of_ble_eq_true rfl) (fun p e s mt args below meth c Q A H0 H locs ad ls C hnm S hl Kr => wX11_whose_0 C S hx0 hx1 hx2 hl hF Kr)
set_option maxRecDepth 20000 in
theorem wX11_endPiece_34 {p : Program} {l : Launch} {e : Env} {s : State} {mt : MethodId} {args : Array Value} {below : List Frame} {meth : Method} {c : Code} {Q : State → Prop} {G : Gl} {A : Nat → Prop} {H0 : Heap} {ad : Int → Nat} {g : Shp} {H : Heap} {locs : List Loc} {ls : Array Slot} {m : Mem} (C : CallFix p mt c cX11_endPiece 3 s args tb RX11) (S : Wd G A s H0 ad g m H locs)  (hl : lv_has ls 3 []) {r : Int} {m' : Mem} (hF : bX11_endPiece_34 g m = some (r, m')) (Kr : ∀ (H : Heap) (locs : List Loc) (pc : Nat) (ls : Array Slot), Wd G A s H0 ad g m' H locs → decode cX11_endPiece pc = .ok (.return_, 1) → W p l e rX11_endPiece s mt args below meth c H locs 0 0 Q (F0 mt pc ls [])) : W p l e rX11_endPiece s mt args below meth c H locs 0 0 Q (F0 mt 34 ls []) := by
  unfold bX11_endPiece_34 at hF
  cases hF
  exact Kr _ _ _ _ S dX11_endPiece_34
set_option maxRecDepth 20000 in
theorem wX11_endPiece_0 {p : Program} {l : Launch} {e : Env} {s : State} {mt : MethodId} {args : Array Value} {below : List Frame} {meth : Method} {c : Code} {Q : State → Prop} {G : Gl} {A : Nat → Prop} {H0 : Heap} {ad : Int → Nat} {g : Shp} {H : Heap} {locs : List Loc} {ls : Array Slot} {m : Mem} {x0 x1 x2 : Int} (C : CallFix p mt c cX11_endPiece 3 s args tb RX11) (S : Wd G A s H0 ad g m H locs) (hx0 : gk g x0 = 12) (hx1 : r32 x1) (hx2 : r32 x2) (hl : lv_has ls 3 [(0, .ref (ad x0)), (1, .int (iI x1)), (2, .int (iI x2))]) {r : Int} {m' : Mem} (hF : bX11_endPiece_0 g x0 x1 x2 m = some (r, m')) (Kr : ∀ (H : Heap) (locs : List Loc) (pc : Nat) (ls : Array Slot), Wd G A s H0 ad g m' H locs → decode cX11_endPiece pc = .ok (.return_, 1) → W p l e rX11_endPiece s mt args below meth c H locs 0 0 Q (F0 mt pc ls [])) : W p l e rX11_endPiece s mt args below meth c H locs 0 0 Q (F0 mt 0 ls []) := by
  unfold bX11_endPiece_0 at hF
  refine q_iload_n C hl 1 rfl rfl dX11_endPiece_0 ?_
  refine q_if_le C hx1 34 dX11_endPiece_1 (by decide) (fun hc1 => ?_) (fun hc1 => ?_)
  · have hF := if_t hc1 hF
    exact wX11_endPiece_34 C S  (lv_sub hl [] rfl) hF Kr
  · have hF := if_f hc1 hF
    refine q_aload_n C hl 0 rfl rfl dX11_endPiece_4 ?_
    obtain ⟨k2, hF⟩ := ck_ok hF
    refine q_getr C S 25 fo_RX11_55 (j := 25) rfl rfl hx0 k2 (by decide) dX11_endPiece_5 ?_
    refine q_aload_n C hl 0 rfl rfl dX11_endPiece_8 ?_
    refine q_geti C S 27 fo_RX11_183 (j := 27) rfl rfl hx0 dX11_endPiece_9 ?_
    refine q_iload_n C hl 1 rfl rfl dX11_endPiece_12 ?_
    obtain ⟨i3, hF⟩ := ck_ok hF
    obtain ⟨m4, em4, hF⟩ := vm_ok hF
    refine q_iast C S k2 i3 hx1 em4 dX11_endPiece_13 (fun H locs Sm4 => ?_)
    refine q_aload_n C hl 0 rfl rfl dX11_endPiece_14 ?_
    obtain ⟨k5, hF⟩ := ck_ok hF
    refine q_getr C Sm4 26 fo_RX11_58 (j := 26) rfl rfl hx0 k5 (by decide) dX11_endPiece_15 ?_
    refine q_aload_n C hl 0 rfl rfl dX11_endPiece_18 ?_
    refine q_geti C Sm4 27 fo_RX11_183 (j := 27) rfl rfl hx0 dX11_endPiece_19 ?_
    refine q_iload_n C hl 2 rfl rfl dX11_endPiece_22 ?_
    obtain ⟨i6, hF⟩ := ck_ok hF
    obtain ⟨b7, hF⟩ := ck_ok hF
    obtain ⟨m8, em8, hF⟩ := vm_ok hF
    refine q_zast C Sm4 k5 i6 b7 em8 dX11_endPiece_23 (fun H locs Sm8 => ?_)
    refine q_aload_n C hl 0 rfl rfl dX11_endPiece_24 ?_
    refine q_dup C rfl dX11_endPiece_25 ?_
    refine q_geti C Sm8 27 fo_RX11_183 (j := 27) rfl rfl hx0 dX11_endPiece_26 ?_
    refine q_iconst C 1 dX11_endPiece_29 ?_
    refine q_iadd C dX11_endPiece_30 ?_
    obtain ⟨m9, em9, hF⟩ := vm_ok hF
    refine q_put C Sm8 27 fo_RX11_183 fp_12_27 (fun h9 => absurd h9 (by decide)) (j := 27) rfl hx0 rfl rfl rfl (r32_w _) (fun h9 => absurd h9 (by decide)) em9 dX11_endPiece_31 (fun H locs Sm9 => ?_)
    exact wX11_endPiece_34 C Sm9  (lv_sub hl [] rfl) hF Kr
theorem cX11_endPiece_ok (l : Launch) (G : Gl) {g : Shp} {x0 x1 x2 : Int} {m m' : Mem} {r : Int} (hx0 : gk g x0 = 12) (hx1 : r32 x1) (hx2 : r32 x2) (hF : fX11_endPiece g x0 x1 x2 m = some (r, m')) : mV l yX11_endPiece (wT yX11_endPiece cX11_endPiece 3 none) rX11_endPiece G (fun ad => [.ref (ad x0), .int (iI x1), .int (iI x2)]) g m m' :=
  met_v (by decide) (fun ad => Nat.le_of_ble_eq_true rfl) (fun p e s mt args below meth c Q A H0 H locs ad ls C hnm S hl Kr => wX11_endPiece_0 C S hx0 hx1 hx2 hl hF Kr)
