def ebX11_readItem_102 (g : Shp) (z0 : Int) (m : Mem) : Option (Int × Mem) :=
  ck (z0 = 0 ∨ z0 = 1) <|
  some (z0, m)
def ebX11_readItem_101 (g : Shp) (m : Mem) : Option (Int × Mem) :=
  ebX11_readItem_102 g 0 m
def ebX11_readItem_0 (g : Shp) (m : Mem) : Option (Int × Mem) :=
  ck ((0 : Int) ≤ (m 241 6) ∧ (m 241 6) < 200) <|
  vv (m 245 (m 241 6)) fun y3 =>
  vm (ms m 241 6 (w32 ((m 241 6) + 1))) fun m4 =>
  if y3 = 98 then
    bd2 (eX11_readTheBag g m4) fun v6 m7 =>
    some (v6, m7)
  else
    if y3 = 106 then
      bd2 (eX11_takeNumber g m4) fun v10 m11 =>
      vm (ms m11 241 8 v10) fun m13 =>
      bd2 (eX11_in g v10 0 2 m13) fun v14 m15 =>
      if v14 = 0 then
        ebX11_readItem_101 g m15
      else
        bd2 (eX11_takeSign g 59 m15) fun v18 m19 =>
        if v18 = 0 then
          ebX11_readItem_101 g m19
        else
          ebX11_readItem_102 g 1 m19
    else
      if y3 = 108 then
        bd2 (eX11_readLine g m4) fun v23 m24 =>
        some (v23, m24)
      else
        if y3 = 122 then
          bd2 (eX11_readSizes g m4) fun v27 m28 =>
          some (v27, m28)
        else
          some (0, m4)
def eX11_readItem (g : Shp) (m : Mem) : Option (Int × Mem) := ebX11_readItem_0 g m
def ebX11_readText_9 (g : Shp) (m : Mem) : Option (Int × (Int × Mem)) :=
  if (m 241 5) ≤ (m 241 6) then
    some (2, (0, m))
  else
    vv (m 241 6) fun y2 =>
    bd2 (eX11_readItem g m) fun v3 m4 =>
    if v3 = 0 then
      some (1, (y2, m4))
    else
      some (0, (y2, m4))
def eBX11_readText_9 (g : Shp) (q : (Int × Mem)) : Option (Int × (Int × Mem)) := ebX11_readText_9 g  q.2
def ebX11_readText_32 (g : Shp) (x1 : Int) (m : Mem) : Option (Int × Mem) :=
  some (x1, m)
def ebX11_readText_37 (g : Shp) (m : Mem) : Option (Int × Mem) :=
  some ((-4), m)
def ebX11_readText_0 (g : Shp) (m : Mem) : Option (Int × Mem) :=
  bd2 (eX11_begin g m) fun v1 m2 =>
  vm (ms m2 241 6 0) fun m4 =>
  bdl (iter (eBX11_readText_9 g) 100000 (0, m4)) fun cv5 sv6 =>
  if cv5 = 1 then
    ebX11_readText_32 g sv6.1 sv6.2
  else
    ebX11_readText_37 g sv6.2
def eX11_readText (g : Shp) (m : Mem) : Option (Int × Mem) := ebX11_readText_0 g m
def ebX11_takeRead_10 (g : Shp) (x1 : Int) (m : Mem) : Option (Int × (Int × Mem)) :=
  if 3 ≤ x1 then
    some (1, (x1, m))
  else
    ck ((0 : Int) ≤ x1 ∧ x1 < 3) <|
    ck ((0 : Int) ≤ x1 ∧ x1 < 3) <|
    vm (ms m 252 x1 (m 246 x1)) fun m6 =>
    ck ((0 : Int) ≤ x1 ∧ x1 < 3) <|
    ck ((0 : Int) ≤ x1 ∧ x1 < 3) <|
    vm (ms m6 253 x1 (m6 248 x1)) fun m11 =>
    ck ((0 : Int) ≤ x1 ∧ x1 < 3) <|
    ck ((0 : Int) ≤ x1 ∧ x1 < 3) <|
    vm (ms m11 255 x1 (m11 250 x1)) fun m16 =>
    vv (w32 (x1 + 1)) fun y17 =>
    some (0, (y17, m16))
def eBX11_takeRead_10 (g : Shp) (q : (Int × Mem)) : Option (Int × (Int × Mem)) := ebX11_takeRead_10 g q.1 q.2
def ebX11_takeRead_59 (g : Shp) (x1 : Int) (m : Mem) : Option (Int × (Int × Mem)) :=
  if 15 ≤ x1 then
    some (1, (x1, m))
  else
    ck ((0 : Int) ≤ x1 ∧ x1 < 15) <|
    ck ((0 : Int) ≤ x1 ∧ x1 < 15) <|
    vm (ms m 254 x1 (m 249 x1)) fun m6 =>
    vv (w32 (x1 + 1)) fun y7 =>
    some (0, (y7, m6))
def eBX11_takeRead_59 (g : Shp) (q : (Int × Mem)) : Option (Int × (Int × Mem)) := ebX11_takeRead_59 g q.1 q.2
def ebX11_takeRead_85 (g : Shp) (x1 : Int) (m : Mem) : Option (Int × (Int × Mem)) :=
  if 180 ≤ x1 then
    some (1, (x1, m))
  else
    ck ((0 : Int) ≤ x1 ∧ x1 < 180) <|
    ck ((0 : Int) ≤ x1 ∧ x1 < 180) <|
    vm (ms m 256 x1 (m 251 x1)) fun m6 =>
    vv (w32 (x1 + 1)) fun y7 =>
    some (0, (y7, m6))
def eBX11_takeRead_85 (g : Shp) (q : (Int × Mem)) : Option (Int × (Int × Mem)) := ebX11_takeRead_85 g q.1 q.2
def ebX11_takeRead_136 (g : Shp) (x1 z0 z1 z2 : Int) (m : Mem) : Option (Int × (Int × Mem)) :=
  ck ((0 : Int) ≤ z1 ∧ z1 < gl g z0) <|
  vm (ms m z0 z1 z2) fun m2 =>
  vv (w32 (x1 + 1)) fun y3 =>
  some (0, (y3, m2))
def ebX11_takeRead_112 (g : Shp) (x1 : Int) (m : Mem) : Option (Int × (Int × Mem)) :=
  if 433 ≤ x1 then
    some (1, (x1, m))
  else
    if x1 < 33 then
      ebX11_takeRead_136 g x1 242 x1 0 m
    else
      ebX11_takeRead_136 g x1 242 x1 ((-4)) m
def eBX11_takeRead_112 (g : Shp) (q : (Int × Mem)) : Option (Int × (Int × Mem)) := ebX11_takeRead_112 g q.1 q.2
def ebX11_takeRead_155 (g : Shp) (x1 : Int) (m : Mem) : Option (Int × (Int × Mem)) :=
  if 9 ≤ x1 then
    some (1, (x1, m))
  else
    ck ((0 : Int) ≤ x1 ∧ x1 < 9) <|
    ck ((0 : Int) ≤ (w32 (1 + x1)) ∧ (w32 (1 + x1)) < 433) <|
    vm (ms m 242 (w32 (1 + x1)) (m 247 x1)) fun m6 =>
    vv (w32 (x1 + 1)) fun y7 =>
    some (0, (y7, m6))
def eBX11_takeRead_155 (g : Shp) (q : (Int × Mem)) : Option (Int × (Int × Mem)) := ebX11_takeRead_155 g q.1 q.2
def ebX11_takeRead_183 (g : Shp) (x1 : Int) (m : Mem) : Option (Int × (Int × Mem)) :=
  if 3 ≤ x1 then
    some (1, (x1, m))
  else
    ck ((0 : Int) ≤ (w32 (10 + x1)) ∧ (w32 (10 + x1)) < 433) <|
    vm (ms m 242 (w32 (10 + x1)) ((-4))) fun m4 =>
    vv (w32 (x1 + 1)) fun y5 =>
    some (0, (y5, m4))
def eBX11_takeRead_183 (g : Shp) (q : (Int × Mem)) : Option (Int × (Int × Mem)) := ebX11_takeRead_183 g q.1 q.2
def ebX11_takeRead_205 (g : Shp) (m : Mem) : Option (Int × Mem) :=
  vm (ms m 241 3 0) fun m1 =>
  some (0, m1)
def ebX11_takeRead_181 (g : Shp) (m : Mem) : Option (Int × Mem) :=
  bdl (iter (eBX11_takeRead_183 g) 100000 (0, m)) fun cv1 sv2 =>
  ebX11_takeRead_205 g sv2.2
def ebX11_takeRead_143 (g : Shp) (m : Mem) : Option (Int × Mem) :=
  ck ((0 : Int) ≤ 0 ∧ 0 < (433 : Int)) <|
  vm (ms m 242 0 (m 241 8)) fun m3 =>
  bdl (iter (eBX11_takeRead_155 g) 100000 (0, m3)) fun cv4 sv5 =>
  ebX11_takeRead_181 g sv5.2
def ebX11_takeRead_110 (g : Shp) (m : Mem) : Option (Int × Mem) :=
  bdl (iter (eBX11_takeRead_112 g) 100000 (0, m)) fun cv1 sv2 =>
  ebX11_takeRead_143 g sv2.2
def ebX11_takeRead_83 (g : Shp) (m : Mem) : Option (Int × Mem) :=
  bdl (iter (eBX11_takeRead_85 g) 100000 (0, m)) fun cv1 sv2 =>
  ebX11_takeRead_110 g sv2.2
def ebX11_takeRead_57 (g : Shp) (m : Mem) : Option (Int × Mem) :=
  bdl (iter (eBX11_takeRead_59 g) 100000 (0, m)) fun cv1 sv2 =>
  ebX11_takeRead_83 g sv2.2
def ebX11_takeRead_0 (g : Shp) (m : Mem) : Option (Int × Mem) :=
  vm (ms m 241 20 (m 241 10)) fun m1 =>
  bdl (iter (eBX11_takeRead_10 g) 100000 (0, m1)) fun cv2 sv3 =>
  ebX11_takeRead_57 g sv3.2
def eX11_takeRead (g : Shp) (m : Mem) : Option (Int × Mem) := ebX11_takeRead_0 g m
def ebX11_write_0 (g : Shp) (x1 : Int) (m : Mem) : Option (Int × Mem) :=
  bd2 (eX11_in g x1 32 126 m) fun v1 m2 =>
  if v1 = 0 then
    some ((-1), m2)
  else
    if (m2 241 5) = 200 then
      some ((-3), m2)
    else
      ck ((0 : Int) ≤ (m2 241 5) ∧ (m2 241 5) < 200) <|
      vm (ms m2 245 (m2 241 5) x1) fun m8 =>
      vm (ms m8 241 5 (w32 ((m8 241 5) + 1))) fun m9 =>
      some (m9 241 5, m9)
def eX11_write (g : Shp) (x1 : Int) (m : Mem) : Option (Int × Mem) := ebX11_write_0 g x1 m
def ebX11_wipe_0 (g : Shp) (m : Mem) : Option (Int × Mem) :=
  vv (m 241 5) fun y1 =>
  vm (ms m 241 5 0) fun m2 =>
  some (y1, m2)
def eX11_wipe (g : Shp) (m : Mem) : Option (Int × Mem) := ebX11_wipe_0 g m
def ebX11_fault_0 (g : Shp) (m : Mem) : Option (Int × Mem) :=
  bd2 (eX11_readText g m) fun v1 m2 =>
  some (v1, m2)
def eX11_fault (g : Shp) (m : Mem) : Option (Int × Mem) := ebX11_fault_0 g m
def ebX11_lay_16 (g : Shp) (m : Mem) : Option (Int × Mem) :=
  some ((-2), m)
def ebX11_lay_0 (g : Shp) (m : Mem) : Option (Int × Mem) :=
  bd2 (eX11_readText g m) fun v1 m2 =>
  if v1 = ((-4)) then
    if (m2 241 10) = 0 then
      ebX11_lay_16 g m2
    else
      bd2 (eX11_takeRead g m2) fun v6 m7 =>
      some (m7 241 20, m7)
  else
    ebX11_lay_16 g m2
def eX11_lay (g : Shp) (m : Mem) : Option (Int × Mem) := ebX11_lay_0 g m
def ebX11_bring_3 (g : Shp) (x0 x1 x2 x3 x4 : Int) (m : Mem) : Option (Int × (Int × Mem)) :=
  if 433 ≤ x4 then
    some (1, (x4, m))
  else
    ck ((0 : Int) ≤ (w32 (x1 + x4)) ∧ (w32 (x1 + x4)) < gl g x0) <|
    ck ((0 : Int) ≤ (w32 (x3 + x4)) ∧ (w32 (x3 + x4)) < gl g x2) <|
    vm (ms m x2 (w32 (x3 + x4)) (m x0 (w32 (x1 + x4)))) fun m4 =>
    vv (w32 (x4 + 1)) fun y5 =>
    some (0, (y5, m4))
def eBX11_bring_3 (g : Shp) (x0 x1 x2 x3 : Int) (q : (Int × Mem)) : Option (Int × (Int × Mem)) := ebX11_bring_3 g x0 x1 x2 x3 q.1 q.2
def ebX11_bring_29 (g : Shp) (m : Mem) : Option (Int × Mem) :=
  some (0, m)
def ebX11_bring_0 (g : Shp) (x0 x1 x2 x3 : Int) (m : Mem) : Option (Int × Mem) :=
  bdl (iter (eBX11_bring_3 g x0 x1 x2 x3) 100000 (0, m)) fun cv1 sv2 =>
  ebX11_bring_29 g sv2.2
def eX11_bring (g : Shp) (x0 x1 x2 x3 : Int) (m : Mem) : Option (Int × Mem) := ebX11_bring_0 g x0 x1 x2 x3 m
def ebX11_note_11 (g : Shp) (x1 : Int) (m : Mem) : Option (Int × (Int × Mem)) :=
  if 2165 ≤ x1 then
    some (1, (x1, m))
  else
    ck ((0 : Int) ≤ (w32 (x1 + 433)) ∧ (w32 (x1 + 433)) < 2598) <|
    ck ((0 : Int) ≤ x1 ∧ x1 < 2598) <|
    vm (ms m 244 x1 (m 244 (w32 (x1 + 433)))) fun m6 =>
    vv (w32 (x1 + 1)) fun y7 =>
    some (0, (y7, m6))
def eBX11_note_11 (g : Shp) (q : (Int × Mem)) : Option (Int × (Int × Mem)) := ebX11_note_11 g q.1 q.2
def ebX11_note_50 (g : Shp) (m : Mem) : Option (Int × Mem) :=
  bd2 (eX11_bring g 242 0 244 (w32 (433 * (m 241 3))) m) fun v3 m4 =>
  vm (ms m4 241 3 (w32 ((m4 241 3) + 1))) fun m6 =>
  some (0, m6)
def ebX11_note_40 (g : Shp) (m : Mem) : Option (Int × Mem) :=
  vm (ms m 241 3 (w32 ((m 241 3) - 1))) fun m1 =>
  ebX11_note_50 g m1
def ebX11_note_0 (g : Shp) (m : Mem) : Option (Int × Mem) :=
  if (m 241 3) = 6 then
    bdl (iter (eBX11_note_11 g) 100000 (0, m)) fun cv2 sv3 =>
    ebX11_note_40 g sv3.2
  else
    ebX11_note_50 g m
def eX11_note (g : Shp) (m : Mem) : Option (Int × Mem) := ebX11_note_0 g m
def ebX11_undo_0 (g : Shp) (m : Mem) : Option (Int × Mem) :=
  if (m 241 3) = 0 then
    some ((-2), m)
  else
    vm (ms m 241 3 (w32 ((m 241 3) - 1))) fun m2 =>
    bd2 (eX11_bring g 244 (w32 (433 * (m2 241 3))) 242 0 m2) fun v5 m6 =>
    some (m6 241 3, m6)
def eX11_undo (g : Shp) (m : Mem) : Option (Int × Mem) := ebX11_undo_0 g m
def ebX11_joint_0 (g : Shp) (x1 : Int) (m : Mem) : Option (Int × Mem) :=
  bd2 (eX11_in g x1 0 2 m) fun v1 m2 =>
  if v1 = 0 then
    some ((-1), m2)
  else
    ck ((0 : Int) ≤ 0 ∧ 0 < (433 : Int)) <|
    if (m2 242 0) = x1 then
      some ((-2), m2)
    else
      bd2 (eX11_note g m2) fun v8 m9 =>
      ck ((0 : Int) ≤ 0 ∧ 0 < (433 : Int)) <|
      vv (m9 242 0) fun y13 =>
      ck ((0 : Int) ≤ 0 ∧ 0 < (433 : Int)) <|
      vm (ms m9 242 0 x1) fun m16 =>
      some (y13, m16)
def eX11_joint (g : Shp) (x1 : Int) (m : Mem) : Option (Int × Mem) := ebX11_joint_0 g x1 m
def ebX11_ownMany_30 (g : Shp) (x1 x3 z0 z1 : Int) (m : Mem) : Option (Int × (Int × Int × Mem)) :=
  vv (w32 (z0 + z1)) fun y1 =>
  vv (w32 (x3 + 1)) fun y2 =>
  some (0, (y1, y2, m))
def ebX11_ownMany_4 (g : Shp) (x1 x2 x3 : Int) (m : Mem) : Option (Int × (Int × Int × Mem)) :=
  if 400 ≤ x3 then
    some (1, (x2, x3, m))
  else
    ck ((0 : Int) ≤ (w32 (33 + x3)) ∧ (w32 (33 + x3)) < 433) <|
    if (m 242 (w32 (33 + x3))) = x1 then
      ebX11_ownMany_30 g x1 x3 x2 1 m
    else
      ebX11_ownMany_30 g x1 x3 x2 0 m
def eBX11_ownMany_4 (g : Shp) (x1 : Int) (q : (Int × Int × Mem)) : Option (Int × (Int × Int × Mem)) := ebX11_ownMany_4 g x1 q.1 q.2.1 q.2.2
def ebX11_ownMany_38 (g : Shp) (x2 : Int) (m : Mem) : Option (Int × Mem) :=
  some (x2, m)
def ebX11_ownMany_0 (g : Shp) (x1 : Int) (m : Mem) : Option (Int × Mem) :=
  bdl (iter (eBX11_ownMany_4 g x1) 100000 (0, 0, m)) fun cv1 sv2 =>
  ebX11_ownMany_38 g sv2.1 sv2.2.2
def eX11_ownMany (g : Shp) (x1 : Int) (m : Mem) : Option (Int × Mem) := ebX11_ownMany_0 g x1 m
def ebX11_line_0 (g : Shp) (x1 x2 : Int) (m : Mem) : Option (Int × Mem) :=
  bd2 (eX11_isLine g x1 m) fun v1 m2 =>
  if v1 = 0 then
    some ((-1), m2)
  else
    if x2 = 0 then
      ck ((0 : Int) ≤ x1 ∧ x1 < 3) <|
      some (m2 253 x1, m2)
    else
      if x2 = 1 then
        ck ((0 : Int) ≤ x1 ∧ x1 < 3) <|
        some (m2 255 x1, m2)
      else
        if x2 = 2 then
          ck ((0 : Int) ≤ x1 ∧ x1 < 3) <|
          some (w32 ((m2 253 x1) - 1), m2)
        else
          if x2 = 3 then
            ck ((0 : Int) ≤ (w32 (10 + x1)) ∧ (w32 (10 + x1)) < 433) <|
            some (m2 242 (w32 (10 + x1)), m2)
          else
            if x2 = 4 then
              bd2 (eX11_ownMany g x1 m2) fun v18 m19 =>
              some (v18, m19)
            else
              if x2 = 5 then
                ck ((0 : Int) ≤ (w32 (13 + x1)) ∧ (w32 (13 + x1)) < 433) <|
                some (m2 242 (w32 (13 + x1)), m2)
              else
                if x2 = 6 then
                  ck ((0 : Int) ≤ (w32 (16 + x1)) ∧ (w32 (16 + x1)) < 433) <|
                  some (m2 242 (w32 (16 + x1)), m2)
                else
                  some ((-1), m2)
def eX11_line (g : Shp) (x1 x2 : Int) (m : Mem) : Option (Int × Mem) := ebX11_line_0 g x1 x2 m
def ebX11_cell_12 (g : Shp) (m : Mem) : Option (Int × Mem) :=
  some ((-1), m)
def ebX11_cell_40 (g : Shp) (z0 : Int) (m : Mem) : Option (Int × Mem) :=
  some (z0, m)
def ebX11_cell_0 (g : Shp) (x1 x2 : Int) (m : Mem) : Option (Int × Mem) :=
  bd2 (eX11_isLine g x1 m) fun v1 m2 =>
  if v1 = 0 then
    ebX11_cell_12 g m2
  else
    if 0 ≤ x2 then
      ck ((0 : Int) ≤ x1 ∧ x1 < 3) <|
      if (m2 255 x1) ≤ x2 then
        ebX11_cell_40 g ((-4)) m2
      else
        ck ((0 : Int) ≤ (w32 ((w32 (60 * x1)) + x2)) ∧ (w32 ((w32 (60 * x1)) + x2)) < 180) <|
        ebX11_cell_40 g (m2 256 (w32 ((w32 (60 * x1)) + x2))) m2
    else
      ebX11_cell_12 g m2
def eX11_cell (g : Shp) (x1 x2 : Int) (m : Mem) : Option (Int × Mem) := ebX11_cell_0 g x1 x2 m
def ebX11_whose_38 (g : Shp) (z0 : Int) (m : Mem) : Option (Int × Mem) :=
  some (z0, m)
def ebX11_whose_37 (g : Shp) (m : Mem) : Option (Int × Mem) :=
  ebX11_whose_38 g ((-1)) m
def ebX11_whose_0 (g : Shp) (x1 x2 : Int) (m : Mem) : Option (Int × Mem) :=
  bd2 (eX11_in g x1 0 19 m) fun v1 m2 =>
  if v1 = 0 then
    ebX11_whose_37 g m2
  else
    bd2 (eX11_in g x2 0 19 m2) fun v5 m6 =>
    if v5 = 0 then
      ebX11_whose_37 g m6
    else
      ck ((0 : Int) ≤ (w32 ((w32 (33 + (w32 (20 * x2)))) + x1)) ∧ (w32 ((w32 (33 + (w32 (20 * x2)))) + x1)) < 433) <|
      ebX11_whose_38 g (m6 242 (w32 ((w32 (33 + (w32 (20 * x2)))) + x1))) m6
def eX11_whose (g : Shp) (x1 x2 : Int) (m : Mem) : Option (Int × Mem) := ebX11_whose_0 g x1 x2 m
def ebX11_endPiece_34 (g : Shp) (m : Mem) : Option (Int × Mem) :=
  some (0, m)
def ebX11_endPiece_0 (g : Shp) (x1 x2 : Int) (m : Mem) : Option (Int × Mem) :=
  if x1 ≤ 0 then
    ebX11_endPiece_34 g m
  else
    ck ((0 : Int) ≤ (m 241 27) ∧ (m 241 27) < 60) <|
    vm (ms m 257 (m 241 27) x1) fun m4 =>
    ck ((0 : Int) ≤ (m4 241 27) ∧ (m4 241 27) < 60) <|
    ck (x2 = 0 ∨ x2 = 1) <|
    vm (ms m4 258 (m4 241 27) x2) fun m8 =>
    vm (ms m8 241 27 (w32 ((m8 241 27) + 1))) fun m9 =>
    ebX11_endPiece_34 g m9
def eX11_endPiece (g : Shp) (x1 x2 : Int) (m : Mem) : Option (Int × Mem) := ebX11_endPiece_0 g x1 x2 m
set_option maxRecDepth 20000 in
theorem qX11_readItem_102 {g : Shp} {m : Mem} {z0 : Int} (h : Sh g m)  : bX11_readItem_102 g z0 m = ebX11_readItem_102 g z0 m := by
  unfold bX11_readItem_102 ebX11_readItem_102
  refine ck_c (fun b1 => ?_)
  rfl
theorem nX11_readItem_102 {g : Shp} {m : Mem} {z0 : Int} (h : Sh g m)  {r : Int} {m' : Mem} (hF : ebX11_readItem_102 g z0 m = some (r, m')) : Sh g m' := by
  unfold ebX11_readItem_102 at hF
  obtain ⟨b1, hF⟩ := ck_ok hF
  cases hF
  exact h
set_option maxRecDepth 20000 in
theorem qX11_readItem_101 {g : Shp} {m : Mem} (h : Sh g m)  : bX11_readItem_101 g m = ebX11_readItem_101 g m := by
  unfold bX11_readItem_101 ebX11_readItem_101
  exact qX11_readItem_102 h 
theorem nX11_readItem_101 {g : Shp} {m : Mem} (h : Sh g m)  {r : Int} {m' : Mem} (hF : ebX11_readItem_101 g m = some (r, m')) : Sh g m' := by
  unfold ebX11_readItem_101 at hF
  exact nX11_readItem_102 h  hF
set_option maxRecDepth 20000 in
theorem qX11_readItem_0 {g : Shp} {m : Mem} (h : Sh g m)  : bX11_readItem_0 g 241 m = ebX11_readItem_0 g m := by
  unfold bX11_readItem_0 ebX11_readItem_0
  have k1 := s_241_4 h
  rewrite [k1.1, ck_t k1.2.1]
  try rewrite [k1.2.2]
  refine ck_c (fun i2 => ?_)
  refine vv_c (fun y3 ey3 => ?_)
  refine vm_c (fun m4 em4 => ?_)
  have hm4 := h.s em4 (nRf (sk_241 h) (by decide) (by decide))
  refine if_c (fun hc5 => ?_) (fun hc5 => ?_)
  · refine bd2_q (qX11_readTheBag hm4 ) (fun v6 m7 h8 => ?_)
    have hm7 := nX11_readTheBag hm4  ((qX11_readTheBag hm4 ).symm.trans h8)
    rfl
  · refine if_c (fun hc9 => ?_) (fun hc9 => ?_)
    · refine bd2_q (qX11_takeNumber hm4 ) (fun v10 m11 h12 => ?_)
      have hm11 := nX11_takeNumber hm4  ((qX11_takeNumber hm4 ).symm.trans h12)
      refine vm_c (fun m13 em13 => ?_)
      have hm13 := hm11.s em13 (nRf (sk_241 hm11) (by decide) (by decide))
      refine bd2_q (qX11_in hm13 ) (fun v14 m15 h16 => ?_)
      have hm15 := nX11_in hm13  ((qX11_in hm13 ).symm.trans h16)
      refine if_c (fun hc17 => ?_) (fun hc17 => ?_)
      · exact qX11_readItem_101 hm15
      · refine bd2_q (qX11_takeSign hm15 ) (fun v18 m19 h20 => ?_)
        have hm19 := nX11_takeSign hm15  ((qX11_takeSign hm15 ).symm.trans h20)
        refine if_c (fun hc21 => ?_) (fun hc21 => ?_)
        · exact qX11_readItem_101 hm19
        · exact qX11_readItem_102 hm19
    · refine if_c (fun hc22 => ?_) (fun hc22 => ?_)
      · refine bd2_q (qX11_readLine hm4 ) (fun v23 m24 h25 => ?_)
        have hm24 := nX11_readLine hm4  ((qX11_readLine hm4 ).symm.trans h25)
        rfl
      · refine if_c (fun hc26 => ?_) (fun hc26 => ?_)
        · refine bd2_q (qX11_readSizes hm4 ) (fun v27 m28 h29 => ?_)
          have hm28 := nX11_readSizes hm4  ((qX11_readSizes hm4 ).symm.trans h29)
          rfl
        · rfl
theorem nX11_readItem_0 {g : Shp} {m : Mem} (h : Sh g m)  {r : Int} {m' : Mem} (hF : ebX11_readItem_0 g m = some (r, m')) : Sh g m' := by
  unfold ebX11_readItem_0 at hF
  have k1 := s_241_4 h
  obtain ⟨i2, hF⟩ := ck_ok hF
  obtain ⟨y3, ey3, hF⟩ := vv_ok hF
  obtain ⟨m4, em4, hF⟩ := vm_ok hF
  have hm4 := h.s em4 (nRf (sk_241 h) (by decide) (by decide))
  rcases if_ok hF with ⟨hc5, hF⟩ | ⟨hc5, hF⟩
  · obtain ⟨v6, m7, h8, hF⟩ := bd2_ok hF
    have hm7 := nX11_readTheBag hm4  h8
    cases hF
    exact hm7
  · rcases if_ok hF with ⟨hc9, hF⟩ | ⟨hc9, hF⟩
    · obtain ⟨v10, m11, h12, hF⟩ := bd2_ok hF
      have hm11 := nX11_takeNumber hm4  h12
      obtain ⟨m13, em13, hF⟩ := vm_ok hF
      have hm13 := hm11.s em13 (nRf (sk_241 hm11) (by decide) (by decide))
      obtain ⟨v14, m15, h16, hF⟩ := bd2_ok hF
      have hm15 := nX11_in hm13  h16
      rcases if_ok hF with ⟨hc17, hF⟩ | ⟨hc17, hF⟩
      · exact nX11_readItem_101 hm15  hF
      · obtain ⟨v18, m19, h20, hF⟩ := bd2_ok hF
        have hm19 := nX11_takeSign hm15  h20
        rcases if_ok hF with ⟨hc21, hF⟩ | ⟨hc21, hF⟩
        · exact nX11_readItem_101 hm19  hF
        · exact nX11_readItem_102 hm19  hF
    · rcases if_ok hF with ⟨hc22, hF⟩ | ⟨hc22, hF⟩
      · obtain ⟨v23, m24, h25, hF⟩ := bd2_ok hF
        have hm24 := nX11_readLine hm4  h25
        cases hF
        exact hm24
      · rcases if_ok hF with ⟨hc26, hF⟩ | ⟨hc26, hF⟩
        · obtain ⟨v27, m28, h29, hF⟩ := bd2_ok hF
          have hm28 := nX11_readSizes hm4  h29
          cases hF
          exact hm28
        · cases hF
          exact hm4
theorem qX11_readItem {g : Shp} {m : Mem} (h : Sh g m)  : fX11_readItem g 241 m = eX11_readItem g m := qX11_readItem_0 h 
theorem nX11_readItem {g : Shp} {m : Mem} (h : Sh g m)  {r : Int} {m' : Mem} (hF : eX11_readItem g m = some (r, m')) : Sh g m' := nX11_readItem_0 h  hF
set_option maxRecDepth 20000 in
theorem qX11_readText_9 {g : Shp} {m : Mem} (h : Sh g m)  : bX11_readText_9 g 241 m = ebX11_readText_9 g m := by
  unfold bX11_readText_9 ebX11_readText_9
  refine if_c (fun hc1 => ?_) (fun hc1 => ?_)
  · rfl
  · refine vv_c (fun y2 ey2 => ?_)
    refine bd2_q (qX11_readItem h ) (fun v3 m4 h5 => ?_)
    have hm4 := nX11_readItem h  ((qX11_readItem h ).symm.trans h5)
    refine if_c (fun hc6 => ?_) (fun hc6 => ?_)
    · rfl
    · rfl
theorem nX11_readText_9 {g : Shp} {m : Mem} (h : Sh g m)  {c1 : Int} {s1 : (Int × Mem)} (hF : ebX11_readText_9 g m = some (c1, s1)) : Sh g s1.2 := by
  unfold ebX11_readText_9 at hF
  rcases if_ok hF with ⟨hc1, hF⟩ | ⟨hc1, hF⟩
  · cases hF
    exact h
  · obtain ⟨y2, ey2, hF⟩ := vv_ok hF
    obtain ⟨v3, m4, h5, hF⟩ := bd2_ok hF
    have hm4 := nX11_readItem h  h5
    rcases if_ok hF with ⟨hc6, hF⟩ | ⟨hc6, hF⟩
    · cases hF
      exact hm4
    · cases hF
      exact hm4
theorem nlX11_readText_9 {g : Shp}  {n : Nat} {s0 s1 : (Int × Mem)} {c1 : Int} (h : Sh g s0.2) (hI : iter (eBX11_readText_9 g ) n s0 = some (c1, s1)) : Sh g s1.2 :=
  iter_inv (B := eBX11_readText_9 g ) (fun q => Sh g q.2) (fun s c s' hs hB => nX11_readText_9 hs  hB) n s0 c1 s1 h hI
theorem qlX11_readText_9 {g : Shp}  {n : Nat} {s0 : (Int × Mem)} (h : Sh g s0.2) : iter (BX11_readText_9 g 241) n s0 = iter (eBX11_readText_9 g ) n s0 :=
  iter_eq (B := BX11_readText_9 g 241) (E := eBX11_readText_9 g ) (fun q => Sh g q.2) (fun s hs => qX11_readText_9 hs ) (fun s c s' hs hB => nX11_readText_9 hs  ((qX11_readText_9 hs ).symm.trans hB)) n s0 h
set_option maxRecDepth 20000 in
theorem qX11_readText_32 {g : Shp} {m : Mem} {x1 : Int} (h : Sh g m)  : bX11_readText_32 g x1 m = ebX11_readText_32 g x1 m := by
  unfold bX11_readText_32 ebX11_readText_32
  rfl
theorem nX11_readText_32 {g : Shp} {m : Mem} {x1 : Int} (h : Sh g m)  {r : Int} {m' : Mem} (hF : ebX11_readText_32 g x1 m = some (r, m')) : Sh g m' := by
  unfold ebX11_readText_32 at hF
  cases hF
  exact h
set_option maxRecDepth 20000 in
theorem qX11_readText_37 {g : Shp} {m : Mem} (h : Sh g m)  : bX11_readText_37 g m = ebX11_readText_37 g m := by
  unfold bX11_readText_37 ebX11_readText_37
  rfl
theorem nX11_readText_37 {g : Shp} {m : Mem} (h : Sh g m)  {r : Int} {m' : Mem} (hF : ebX11_readText_37 g m = some (r, m')) : Sh g m' := by
  unfold ebX11_readText_37 at hF
  cases hF
  exact h
set_option maxRecDepth 20000 in
theorem qX11_readText_0 {g : Shp} {m : Mem} (h : Sh g m)  : bX11_readText_0 g 241 m = ebX11_readText_0 g m := by
  unfold bX11_readText_0 ebX11_readText_0
  refine bd2_q (qX11_begin h ) (fun v1 m2 h3 => ?_)
  have hm2 := nX11_begin h  ((qX11_begin h ).symm.trans h3)
  refine vm_c (fun m4 em4 => ?_)
  have hm4 := hm2.s em4 (nRf (sk_241 hm2) (by decide) (by decide))
  refine bdl_q (qlX11_readText_9  (n := 100000) (s0 := (0, m4)) hm4) (fun cv5 sv6 hi7 => ?_)
  have h8 := nlX11_readText_9  (s0 := (0, m4)) hm4 ((qlX11_readText_9  (n := 100000) (s0 := (0, m4)) hm4).symm.trans hi7)
  refine if_c (fun hc9 => ?_) (fun hc9 => ?_)
  · exact qX11_readText_32 h8
  · exact qX11_readText_37 h8
theorem nX11_readText_0 {g : Shp} {m : Mem} (h : Sh g m)  {r : Int} {m' : Mem} (hF : ebX11_readText_0 g m = some (r, m')) : Sh g m' := by
  unfold ebX11_readText_0 at hF
  obtain ⟨v1, m2, h3, hF⟩ := bd2_ok hF
  have hm2 := nX11_begin h  h3
  obtain ⟨m4, em4, hF⟩ := vm_ok hF
  have hm4 := hm2.s em4 (nRf (sk_241 hm2) (by decide) (by decide))
  obtain ⟨cv5, sv6, hi7, hF⟩ := bdl_ok hF
  have h8 := nlX11_readText_9  (s0 := (0, m4)) hm4 hi7
  rcases if_ok hF with ⟨hc9, hF⟩ | ⟨hc9, hF⟩
  · exact nX11_readText_32 h8  hF
  · exact nX11_readText_37 h8  hF
theorem qX11_readText {g : Shp} {m : Mem} (h : Sh g m)  : fX11_readText g 241 m = eX11_readText g m := qX11_readText_0 h 
theorem nX11_readText {g : Shp} {m : Mem} (h : Sh g m)  {r : Int} {m' : Mem} (hF : eX11_readText g m = some (r, m')) : Sh g m' := nX11_readText_0 h  hF
set_option maxRecDepth 20000 in
theorem qX11_takeRead_10 {g : Shp} {m : Mem} {x1 : Int} (h : Sh g m)  : bX11_takeRead_10 g 241 x1 m = ebX11_takeRead_10 g x1 m := by
  unfold bX11_takeRead_10 ebX11_takeRead_10
  refine if_c (fun hc1 => ?_) (fun hc1 => ?_)
  · rfl
  · have k2 := s_241_19 h
    rewrite [k2.1, ck_t k2.2.1]
    have k3 := s_241_7 h
    rewrite [k3.1, ck_t k3.2.1]
    try rewrite [k3.2.2]
    refine ck_c (fun i4 => ?_)
    try rewrite [k2.2.2]
    refine ck_c (fun i5 => ?_)
    refine vm_c (fun m6 em6 => ?_)
    have hm6 := h.s em6 (nRa k2.2.1 (by decide))
    have k7 := s_241_21 hm6
    rewrite [k7.1, ck_t k7.2.1]
    have k8 := s_241_11 hm6
    rewrite [k8.1, ck_t k8.2.1]
    try rewrite [k8.2.2]
    refine ck_c (fun i9 => ?_)
    try rewrite [k7.2.2]
    refine ck_c (fun i10 => ?_)
    refine vm_c (fun m11 em11 => ?_)
    have hm11 := hm6.s em11 (nRa k7.2.1 (by decide))
    have k12 := s_241_23 hm11
    rewrite [k12.1, ck_t k12.2.1]
    have k13 := s_241_13 hm11
    rewrite [k13.1, ck_t k13.2.1]
    try rewrite [k13.2.2]
    refine ck_c (fun i14 => ?_)
    try rewrite [k12.2.2]
    refine ck_c (fun i15 => ?_)
    refine vm_c (fun m16 em16 => ?_)
    have hm16 := hm11.s em16 (nRa k12.2.1 (by decide))
    refine vv_c (fun y17 ey17 => ?_)
    rfl
theorem nX11_takeRead_10 {g : Shp} {m : Mem} {x1 : Int} (h : Sh g m)  {c1 : Int} {s1 : (Int × Mem)} (hF : ebX11_takeRead_10 g x1 m = some (c1, s1)) : Sh g s1.2 := by
  unfold ebX11_takeRead_10 at hF
  rcases if_ok hF with ⟨hc1, hF⟩ | ⟨hc1, hF⟩
  · cases hF
    exact h
  · have k2 := s_241_19 h
    have k3 := s_241_7 h
    obtain ⟨i4, hF⟩ := ck_ok hF
    obtain ⟨i5, hF⟩ := ck_ok hF
    obtain ⟨m6, em6, hF⟩ := vm_ok hF
    have hm6 := h.s em6 (nRa k2.2.1 (by decide))
    have k7 := s_241_21 hm6
    have k8 := s_241_11 hm6
    obtain ⟨i9, hF⟩ := ck_ok hF
    obtain ⟨i10, hF⟩ := ck_ok hF
    obtain ⟨m11, em11, hF⟩ := vm_ok hF
    have hm11 := hm6.s em11 (nRa k7.2.1 (by decide))
    have k12 := s_241_23 hm11
    have k13 := s_241_13 hm11
    obtain ⟨i14, hF⟩ := ck_ok hF
    obtain ⟨i15, hF⟩ := ck_ok hF
    obtain ⟨m16, em16, hF⟩ := vm_ok hF
    have hm16 := hm11.s em16 (nRa k12.2.1 (by decide))
    obtain ⟨y17, ey17, hF⟩ := vv_ok hF
    cases hF
    exact hm16
theorem nlX11_takeRead_10 {g : Shp}  {n : Nat} {s0 s1 : (Int × Mem)} {c1 : Int} (h : Sh g s0.2) (hI : iter (eBX11_takeRead_10 g ) n s0 = some (c1, s1)) : Sh g s1.2 :=
  iter_inv (B := eBX11_takeRead_10 g ) (fun q => Sh g q.2) (fun s c s' hs hB => nX11_takeRead_10 hs  hB) n s0 c1 s1 h hI
theorem qlX11_takeRead_10 {g : Shp}  {n : Nat} {s0 : (Int × Mem)} (h : Sh g s0.2) : iter (BX11_takeRead_10 g 241) n s0 = iter (eBX11_takeRead_10 g ) n s0 :=
  iter_eq (B := BX11_takeRead_10 g 241) (E := eBX11_takeRead_10 g ) (fun q => Sh g q.2) (fun s hs => qX11_takeRead_10 hs ) (fun s c s' hs hB => nX11_takeRead_10 hs  ((qX11_takeRead_10 hs ).symm.trans hB)) n s0 h
set_option maxRecDepth 20000 in
theorem qX11_takeRead_59 {g : Shp} {m : Mem} {x1 : Int} (h : Sh g m)  : bX11_takeRead_59 g 241 x1 m = ebX11_takeRead_59 g x1 m := by
  unfold bX11_takeRead_59 ebX11_takeRead_59
  refine if_c (fun hc1 => ?_) (fun hc1 => ?_)
  · rfl
  · have k2 := s_241_22 h
    rewrite [k2.1, ck_t k2.2.1]
    have k3 := s_241_12 h
    rewrite [k3.1, ck_t k3.2.1]
    try rewrite [k3.2.2]
    refine ck_c (fun i4 => ?_)
    try rewrite [k2.2.2]
    refine ck_c (fun i5 => ?_)
    refine vm_c (fun m6 em6 => ?_)
    have hm6 := h.s em6 (nRa k2.2.1 (by decide))
    refine vv_c (fun y7 ey7 => ?_)
    rfl
theorem nX11_takeRead_59 {g : Shp} {m : Mem} {x1 : Int} (h : Sh g m)  {c1 : Int} {s1 : (Int × Mem)} (hF : ebX11_takeRead_59 g x1 m = some (c1, s1)) : Sh g s1.2 := by
  unfold ebX11_takeRead_59 at hF
  rcases if_ok hF with ⟨hc1, hF⟩ | ⟨hc1, hF⟩
  · cases hF
    exact h
  · have k2 := s_241_22 h
    have k3 := s_241_12 h
    obtain ⟨i4, hF⟩ := ck_ok hF
    obtain ⟨i5, hF⟩ := ck_ok hF
    obtain ⟨m6, em6, hF⟩ := vm_ok hF
    have hm6 := h.s em6 (nRa k2.2.1 (by decide))
    obtain ⟨y7, ey7, hF⟩ := vv_ok hF
    cases hF
    exact hm6
theorem nlX11_takeRead_59 {g : Shp}  {n : Nat} {s0 s1 : (Int × Mem)} {c1 : Int} (h : Sh g s0.2) (hI : iter (eBX11_takeRead_59 g ) n s0 = some (c1, s1)) : Sh g s1.2 :=
  iter_inv (B := eBX11_takeRead_59 g ) (fun q => Sh g q.2) (fun s c s' hs hB => nX11_takeRead_59 hs  hB) n s0 c1 s1 h hI
theorem qlX11_takeRead_59 {g : Shp}  {n : Nat} {s0 : (Int × Mem)} (h : Sh g s0.2) : iter (BX11_takeRead_59 g 241) n s0 = iter (eBX11_takeRead_59 g ) n s0 :=
  iter_eq (B := BX11_takeRead_59 g 241) (E := eBX11_takeRead_59 g ) (fun q => Sh g q.2) (fun s hs => qX11_takeRead_59 hs ) (fun s c s' hs hB => nX11_takeRead_59 hs  ((qX11_takeRead_59 hs ).symm.trans hB)) n s0 h
set_option maxRecDepth 20000 in
theorem qX11_takeRead_85 {g : Shp} {m : Mem} {x1 : Int} (h : Sh g m)  : bX11_takeRead_85 g 241 x1 m = ebX11_takeRead_85 g x1 m := by
  unfold bX11_takeRead_85 ebX11_takeRead_85
  refine if_c (fun hc1 => ?_) (fun hc1 => ?_)
  · rfl
  · have k2 := s_241_24 h
    rewrite [k2.1, ck_t k2.2.1]
    have k3 := s_241_14 h
    rewrite [k3.1, ck_t k3.2.1]
    try rewrite [k3.2.2]
    refine ck_c (fun i4 => ?_)
    try rewrite [k2.2.2]
    refine ck_c (fun i5 => ?_)
    refine vm_c (fun m6 em6 => ?_)
    have hm6 := h.s em6 (nRa k2.2.1 (by decide))
    refine vv_c (fun y7 ey7 => ?_)
    rfl
theorem nX11_takeRead_85 {g : Shp} {m : Mem} {x1 : Int} (h : Sh g m)  {c1 : Int} {s1 : (Int × Mem)} (hF : ebX11_takeRead_85 g x1 m = some (c1, s1)) : Sh g s1.2 := by
  unfold ebX11_takeRead_85 at hF
  rcases if_ok hF with ⟨hc1, hF⟩ | ⟨hc1, hF⟩
  · cases hF
    exact h
  · have k2 := s_241_24 h
    have k3 := s_241_14 h
    obtain ⟨i4, hF⟩ := ck_ok hF
    obtain ⟨i5, hF⟩ := ck_ok hF
    obtain ⟨m6, em6, hF⟩ := vm_ok hF
    have hm6 := h.s em6 (nRa k2.2.1 (by decide))
    obtain ⟨y7, ey7, hF⟩ := vv_ok hF
    cases hF
    exact hm6
theorem nlX11_takeRead_85 {g : Shp}  {n : Nat} {s0 s1 : (Int × Mem)} {c1 : Int} (h : Sh g s0.2) (hI : iter (eBX11_takeRead_85 g ) n s0 = some (c1, s1)) : Sh g s1.2 :=
  iter_inv (B := eBX11_takeRead_85 g ) (fun q => Sh g q.2) (fun s c s' hs hB => nX11_takeRead_85 hs  hB) n s0 c1 s1 h hI
theorem qlX11_takeRead_85 {g : Shp}  {n : Nat} {s0 : (Int × Mem)} (h : Sh g s0.2) : iter (BX11_takeRead_85 g 241) n s0 = iter (eBX11_takeRead_85 g ) n s0 :=
  iter_eq (B := BX11_takeRead_85 g 241) (E := eBX11_takeRead_85 g ) (fun q => Sh g q.2) (fun s hs => qX11_takeRead_85 hs ) (fun s c s' hs hB => nX11_takeRead_85 hs  ((qX11_takeRead_85 hs ).symm.trans hB)) n s0 h
set_option maxRecDepth 20000 in
theorem qX11_takeRead_136 {g : Shp} {m : Mem} {x1 z0 z1 z2 : Int} (h : Sh g m) (hz0 : gk g z0 = 20) : bX11_takeRead_136 g 241 x1 z0 z1 z2 m = ebX11_takeRead_136 g x1 z0 z1 z2 m := by
  unfold bX11_takeRead_136 ebX11_takeRead_136
  refine ck_c (fun i1 => ?_)
  refine vm_c (fun m2 em2 => ?_)
  have hm2 := h.s em2 (nRa hz0 (by decide))
  refine vv_c (fun y3 ey3 => ?_)
  rfl
theorem nX11_takeRead_136 {g : Shp} {m : Mem} {x1 z0 z1 z2 : Int} (h : Sh g m) (hz0 : gk g z0 = 20) {c1 : Int} {s1 : (Int × Mem)} (hF : ebX11_takeRead_136 g x1 z0 z1 z2 m = some (c1, s1)) : Sh g s1.2 := by
  unfold ebX11_takeRead_136 at hF
  obtain ⟨i1, hF⟩ := ck_ok hF
  obtain ⟨m2, em2, hF⟩ := vm_ok hF
  have hm2 := h.s em2 (nRa hz0 (by decide))
  obtain ⟨y3, ey3, hF⟩ := vv_ok hF
  cases hF
  exact hm2
set_option maxRecDepth 20000 in
theorem qX11_takeRead_112 {g : Shp} {m : Mem} {x1 : Int} (h : Sh g m)  : bX11_takeRead_112 g 241 x1 m = ebX11_takeRead_112 g x1 m := by
  unfold bX11_takeRead_112 ebX11_takeRead_112
  refine if_c (fun hc1 => ?_) (fun hc1 => ?_)
  · rfl
  · have k2 := s_241_0 h
    rewrite [k2.1, ck_t k2.2.1]
    refine if_c (fun hc3 => ?_) (fun hc3 => ?_)
    · exact qX11_takeRead_136 h k2.2.1
    · exact qX11_takeRead_136 h k2.2.1
theorem nX11_takeRead_112 {g : Shp} {m : Mem} {x1 : Int} (h : Sh g m)  {c1 : Int} {s1 : (Int × Mem)} (hF : ebX11_takeRead_112 g x1 m = some (c1, s1)) : Sh g s1.2 := by
  unfold ebX11_takeRead_112 at hF
  rcases if_ok hF with ⟨hc1, hF⟩ | ⟨hc1, hF⟩
  · cases hF
    exact h
  · have k2 := s_241_0 h
    rcases if_ok hF with ⟨hc3, hF⟩ | ⟨hc3, hF⟩
    · exact nX11_takeRead_136 h k2.2.1 hF
    · exact nX11_takeRead_136 h k2.2.1 hF
theorem nlX11_takeRead_112 {g : Shp}  {n : Nat} {s0 s1 : (Int × Mem)} {c1 : Int} (h : Sh g s0.2) (hI : iter (eBX11_takeRead_112 g ) n s0 = some (c1, s1)) : Sh g s1.2 :=
  iter_inv (B := eBX11_takeRead_112 g ) (fun q => Sh g q.2) (fun s c s' hs hB => nX11_takeRead_112 hs  hB) n s0 c1 s1 h hI
theorem qlX11_takeRead_112 {g : Shp}  {n : Nat} {s0 : (Int × Mem)} (h : Sh g s0.2) : iter (BX11_takeRead_112 g 241) n s0 = iter (eBX11_takeRead_112 g ) n s0 :=
  iter_eq (B := BX11_takeRead_112 g 241) (E := eBX11_takeRead_112 g ) (fun q => Sh g q.2) (fun s hs => qX11_takeRead_112 hs ) (fun s c s' hs hB => nX11_takeRead_112 hs  ((qX11_takeRead_112 hs ).symm.trans hB)) n s0 h
set_option maxRecDepth 20000 in
theorem qX11_takeRead_155 {g : Shp} {m : Mem} {x1 : Int} (h : Sh g m)  : bX11_takeRead_155 g 241 x1 m = ebX11_takeRead_155 g x1 m := by
  unfold bX11_takeRead_155 ebX11_takeRead_155
  refine if_c (fun hc1 => ?_) (fun hc1 => ?_)
  · rfl
  · have k2 := s_241_0 h
    rewrite [k2.1, ck_t k2.2.1]
    have k3 := s_241_9 h
    rewrite [k3.1, ck_t k3.2.1]
    try rewrite [k3.2.2]
    refine ck_c (fun i4 => ?_)
    try rewrite [k2.2.2]
    refine ck_c (fun i5 => ?_)
    refine vm_c (fun m6 em6 => ?_)
    have hm6 := h.s em6 (nRa k2.2.1 (by decide))
    refine vv_c (fun y7 ey7 => ?_)
    rfl
theorem nX11_takeRead_155 {g : Shp} {m : Mem} {x1 : Int} (h : Sh g m)  {c1 : Int} {s1 : (Int × Mem)} (hF : ebX11_takeRead_155 g x1 m = some (c1, s1)) : Sh g s1.2 := by
  unfold ebX11_takeRead_155 at hF
  rcases if_ok hF with ⟨hc1, hF⟩ | ⟨hc1, hF⟩
  · cases hF
    exact h
  · have k2 := s_241_0 h
    have k3 := s_241_9 h
    obtain ⟨i4, hF⟩ := ck_ok hF
    obtain ⟨i5, hF⟩ := ck_ok hF
    obtain ⟨m6, em6, hF⟩ := vm_ok hF
    have hm6 := h.s em6 (nRa k2.2.1 (by decide))
    obtain ⟨y7, ey7, hF⟩ := vv_ok hF
    cases hF
    exact hm6
theorem nlX11_takeRead_155 {g : Shp}  {n : Nat} {s0 s1 : (Int × Mem)} {c1 : Int} (h : Sh g s0.2) (hI : iter (eBX11_takeRead_155 g ) n s0 = some (c1, s1)) : Sh g s1.2 :=
  iter_inv (B := eBX11_takeRead_155 g ) (fun q => Sh g q.2) (fun s c s' hs hB => nX11_takeRead_155 hs  hB) n s0 c1 s1 h hI
theorem qlX11_takeRead_155 {g : Shp}  {n : Nat} {s0 : (Int × Mem)} (h : Sh g s0.2) : iter (BX11_takeRead_155 g 241) n s0 = iter (eBX11_takeRead_155 g ) n s0 :=
  iter_eq (B := BX11_takeRead_155 g 241) (E := eBX11_takeRead_155 g ) (fun q => Sh g q.2) (fun s hs => qX11_takeRead_155 hs ) (fun s c s' hs hB => nX11_takeRead_155 hs  ((qX11_takeRead_155 hs ).symm.trans hB)) n s0 h
set_option maxRecDepth 20000 in
theorem qX11_takeRead_183 {g : Shp} {m : Mem} {x1 : Int} (h : Sh g m)  : bX11_takeRead_183 g 241 x1 m = ebX11_takeRead_183 g x1 m := by
  unfold bX11_takeRead_183 ebX11_takeRead_183
  refine if_c (fun hc1 => ?_) (fun hc1 => ?_)
  · rfl
  · have k2 := s_241_0 h
    rewrite [k2.1, ck_t k2.2.1]
    try rewrite [k2.2.2]
    refine ck_c (fun i3 => ?_)
    refine vm_c (fun m4 em4 => ?_)
    have hm4 := h.s em4 (nRa k2.2.1 (by decide))
    refine vv_c (fun y5 ey5 => ?_)
    rfl
theorem nX11_takeRead_183 {g : Shp} {m : Mem} {x1 : Int} (h : Sh g m)  {c1 : Int} {s1 : (Int × Mem)} (hF : ebX11_takeRead_183 g x1 m = some (c1, s1)) : Sh g s1.2 := by
  unfold ebX11_takeRead_183 at hF
  rcases if_ok hF with ⟨hc1, hF⟩ | ⟨hc1, hF⟩
  · cases hF
    exact h
  · have k2 := s_241_0 h
    obtain ⟨i3, hF⟩ := ck_ok hF
    obtain ⟨m4, em4, hF⟩ := vm_ok hF
    have hm4 := h.s em4 (nRa k2.2.1 (by decide))
    obtain ⟨y5, ey5, hF⟩ := vv_ok hF
    cases hF
    exact hm4
theorem nlX11_takeRead_183 {g : Shp}  {n : Nat} {s0 s1 : (Int × Mem)} {c1 : Int} (h : Sh g s0.2) (hI : iter (eBX11_takeRead_183 g ) n s0 = some (c1, s1)) : Sh g s1.2 :=
  iter_inv (B := eBX11_takeRead_183 g ) (fun q => Sh g q.2) (fun s c s' hs hB => nX11_takeRead_183 hs  hB) n s0 c1 s1 h hI
theorem qlX11_takeRead_183 {g : Shp}  {n : Nat} {s0 : (Int × Mem)} (h : Sh g s0.2) : iter (BX11_takeRead_183 g 241) n s0 = iter (eBX11_takeRead_183 g ) n s0 :=
  iter_eq (B := BX11_takeRead_183 g 241) (E := eBX11_takeRead_183 g ) (fun q => Sh g q.2) (fun s hs => qX11_takeRead_183 hs ) (fun s c s' hs hB => nX11_takeRead_183 hs  ((qX11_takeRead_183 hs ).symm.trans hB)) n s0 h
set_option maxRecDepth 20000 in
theorem qX11_takeRead_205 {g : Shp} {m : Mem} (h : Sh g m)  : bX11_takeRead_205 g 241 m = ebX11_takeRead_205 g m := by
  unfold bX11_takeRead_205 ebX11_takeRead_205
  refine vm_c (fun m1 em1 => ?_)
  have hm1 := h.s em1 (nRf (sk_241 h) (by decide) (by decide))
  rfl
theorem nX11_takeRead_205 {g : Shp} {m : Mem} (h : Sh g m)  {r : Int} {m' : Mem} (hF : ebX11_takeRead_205 g m = some (r, m')) : Sh g m' := by
  unfold ebX11_takeRead_205 at hF
  obtain ⟨m1, em1, hF⟩ := vm_ok hF
  have hm1 := h.s em1 (nRf (sk_241 h) (by decide) (by decide))
  cases hF
  exact hm1
set_option maxRecDepth 20000 in
theorem qX11_takeRead_181 {g : Shp} {m : Mem} (h : Sh g m)  : bX11_takeRead_181 g 241 m = ebX11_takeRead_181 g m := by
  unfold bX11_takeRead_181 ebX11_takeRead_181
  refine bdl_q (qlX11_takeRead_183  (n := 100000) (s0 := (0, m)) h) (fun cv1 sv2 hi3 => ?_)
  have h4 := nlX11_takeRead_183  (s0 := (0, m)) h ((qlX11_takeRead_183  (n := 100000) (s0 := (0, m)) h).symm.trans hi3)
  exact qX11_takeRead_205 h4 
theorem nX11_takeRead_181 {g : Shp} {m : Mem} (h : Sh g m)  {r : Int} {m' : Mem} (hF : ebX11_takeRead_181 g m = some (r, m')) : Sh g m' := by
  unfold ebX11_takeRead_181 at hF
  obtain ⟨cv1, sv2, hi3, hF⟩ := bdl_ok hF
  have h4 := nlX11_takeRead_183  (s0 := (0, m)) h hi3
  exact nX11_takeRead_205 h4  hF
set_option maxRecDepth 20000 in
theorem qX11_takeRead_143 {g : Shp} {m : Mem} (h : Sh g m)  : bX11_takeRead_143 g 241 m = ebX11_takeRead_143 g m := by
  unfold bX11_takeRead_143 ebX11_takeRead_143
  have k1 := s_241_0 h
  rewrite [k1.1, ck_t k1.2.1]
  try rewrite [k1.2.2]
  refine ck_c (fun i2 => ?_)
  refine vm_c (fun m3 em3 => ?_)
  have hm3 := h.s em3 (nRa k1.2.1 (by decide))
  refine bdl_q (qlX11_takeRead_155  (n := 100000) (s0 := (0, m3)) hm3) (fun cv4 sv5 hi6 => ?_)
  have h7 := nlX11_takeRead_155  (s0 := (0, m3)) hm3 ((qlX11_takeRead_155  (n := 100000) (s0 := (0, m3)) hm3).symm.trans hi6)
  exact qX11_takeRead_181 h7 
theorem nX11_takeRead_143 {g : Shp} {m : Mem} (h : Sh g m)  {r : Int} {m' : Mem} (hF : ebX11_takeRead_143 g m = some (r, m')) : Sh g m' := by
  unfold ebX11_takeRead_143 at hF
  have k1 := s_241_0 h
  obtain ⟨i2, hF⟩ := ck_ok hF
  obtain ⟨m3, em3, hF⟩ := vm_ok hF
  have hm3 := h.s em3 (nRa k1.2.1 (by decide))
  obtain ⟨cv4, sv5, hi6, hF⟩ := bdl_ok hF
  have h7 := nlX11_takeRead_155  (s0 := (0, m3)) hm3 hi6
  exact nX11_takeRead_181 h7  hF
set_option maxRecDepth 20000 in
theorem qX11_takeRead_110 {g : Shp} {m : Mem} (h : Sh g m)  : bX11_takeRead_110 g 241 m = ebX11_takeRead_110 g m := by
  unfold bX11_takeRead_110 ebX11_takeRead_110
  refine bdl_q (qlX11_takeRead_112  (n := 100000) (s0 := (0, m)) h) (fun cv1 sv2 hi3 => ?_)
  have h4 := nlX11_takeRead_112  (s0 := (0, m)) h ((qlX11_takeRead_112  (n := 100000) (s0 := (0, m)) h).symm.trans hi3)
  exact qX11_takeRead_143 h4 
theorem nX11_takeRead_110 {g : Shp} {m : Mem} (h : Sh g m)  {r : Int} {m' : Mem} (hF : ebX11_takeRead_110 g m = some (r, m')) : Sh g m' := by
  unfold ebX11_takeRead_110 at hF
  obtain ⟨cv1, sv2, hi3, hF⟩ := bdl_ok hF
  have h4 := nlX11_takeRead_112  (s0 := (0, m)) h hi3
  exact nX11_takeRead_143 h4  hF
set_option maxRecDepth 20000 in
theorem qX11_takeRead_83 {g : Shp} {m : Mem} (h : Sh g m)  : bX11_takeRead_83 g 241 m = ebX11_takeRead_83 g m := by
  unfold bX11_takeRead_83 ebX11_takeRead_83
  refine bdl_q (qlX11_takeRead_85  (n := 100000) (s0 := (0, m)) h) (fun cv1 sv2 hi3 => ?_)
  have h4 := nlX11_takeRead_85  (s0 := (0, m)) h ((qlX11_takeRead_85  (n := 100000) (s0 := (0, m)) h).symm.trans hi3)
  exact qX11_takeRead_110 h4 
theorem nX11_takeRead_83 {g : Shp} {m : Mem} (h : Sh g m)  {r : Int} {m' : Mem} (hF : ebX11_takeRead_83 g m = some (r, m')) : Sh g m' := by
  unfold ebX11_takeRead_83 at hF
  obtain ⟨cv1, sv2, hi3, hF⟩ := bdl_ok hF
  have h4 := nlX11_takeRead_85  (s0 := (0, m)) h hi3
  exact nX11_takeRead_110 h4  hF
set_option maxRecDepth 20000 in
theorem qX11_takeRead_57 {g : Shp} {m : Mem} (h : Sh g m)  : bX11_takeRead_57 g 241 m = ebX11_takeRead_57 g m := by
  unfold bX11_takeRead_57 ebX11_takeRead_57
  refine bdl_q (qlX11_takeRead_59  (n := 100000) (s0 := (0, m)) h) (fun cv1 sv2 hi3 => ?_)
  have h4 := nlX11_takeRead_59  (s0 := (0, m)) h ((qlX11_takeRead_59  (n := 100000) (s0 := (0, m)) h).symm.trans hi3)
  exact qX11_takeRead_83 h4 
theorem nX11_takeRead_57 {g : Shp} {m : Mem} (h : Sh g m)  {r : Int} {m' : Mem} (hF : ebX11_takeRead_57 g m = some (r, m')) : Sh g m' := by
  unfold ebX11_takeRead_57 at hF
  obtain ⟨cv1, sv2, hi3, hF⟩ := bdl_ok hF
  have h4 := nlX11_takeRead_59  (s0 := (0, m)) h hi3
  exact nX11_takeRead_83 h4  hF
set_option maxRecDepth 20000 in
theorem qX11_takeRead_0 {g : Shp} {m : Mem} (h : Sh g m)  : bX11_takeRead_0 g 241 m = ebX11_takeRead_0 g m := by
  unfold bX11_takeRead_0 ebX11_takeRead_0
  refine vm_c (fun m1 em1 => ?_)
  have hm1 := h.s em1 (nRf (sk_241 h) (by decide) (by decide))
  refine bdl_q (qlX11_takeRead_10  (n := 100000) (s0 := (0, m1)) hm1) (fun cv2 sv3 hi4 => ?_)
  have h5 := nlX11_takeRead_10  (s0 := (0, m1)) hm1 ((qlX11_takeRead_10  (n := 100000) (s0 := (0, m1)) hm1).symm.trans hi4)
  exact qX11_takeRead_57 h5 
theorem nX11_takeRead_0 {g : Shp} {m : Mem} (h : Sh g m)  {r : Int} {m' : Mem} (hF : ebX11_takeRead_0 g m = some (r, m')) : Sh g m' := by
  unfold ebX11_takeRead_0 at hF
  obtain ⟨m1, em1, hF⟩ := vm_ok hF
  have hm1 := h.s em1 (nRf (sk_241 h) (by decide) (by decide))
  obtain ⟨cv2, sv3, hi4, hF⟩ := bdl_ok hF
  have h5 := nlX11_takeRead_10  (s0 := (0, m1)) hm1 hi4
  exact nX11_takeRead_57 h5  hF
theorem qX11_takeRead {g : Shp} {m : Mem} (h : Sh g m)  : fX11_takeRead g 241 m = eX11_takeRead g m := qX11_takeRead_0 h 
theorem nX11_takeRead {g : Shp} {m : Mem} (h : Sh g m)  {r : Int} {m' : Mem} (hF : eX11_takeRead g m = some (r, m')) : Sh g m' := nX11_takeRead_0 h  hF
set_option maxRecDepth 20000 in
theorem qX11_write_0 {g : Shp} {m : Mem} {x1 : Int} (h : Sh g m)  : bX11_write_0 g 241 x1 m = ebX11_write_0 g x1 m := by
  unfold bX11_write_0 ebX11_write_0
  refine bd2_q (qX11_in h ) (fun v1 m2 h3 => ?_)
  have hm2 := nX11_in h  ((qX11_in h ).symm.trans h3)
  refine if_c (fun hc4 => ?_) (fun hc4 => ?_)
  · rfl
  · refine if_c (fun hc5 => ?_) (fun hc5 => ?_)
    · rfl
    · have k6 := s_241_4 hm2
      rewrite [k6.1, ck_t k6.2.1]
      try rewrite [k6.2.2]
      refine ck_c (fun i7 => ?_)
      refine vm_c (fun m8 em8 => ?_)
      have hm8 := hm2.s em8 (nRa k6.2.1 (by decide))
      refine vm_c (fun m9 em9 => ?_)
      have hm9 := hm8.s em9 (nRf (sk_241 hm8) (by decide) (by decide))
      rfl
theorem nX11_write_0 {g : Shp} {m : Mem} {x1 : Int} (h : Sh g m)  {r : Int} {m' : Mem} (hF : ebX11_write_0 g x1 m = some (r, m')) : Sh g m' := by
  unfold ebX11_write_0 at hF
  obtain ⟨v1, m2, h3, hF⟩ := bd2_ok hF
  have hm2 := nX11_in h  h3
  rcases if_ok hF with ⟨hc4, hF⟩ | ⟨hc4, hF⟩
  · cases hF
    exact hm2
  · rcases if_ok hF with ⟨hc5, hF⟩ | ⟨hc5, hF⟩
    · cases hF
      exact hm2
    · have k6 := s_241_4 hm2
      obtain ⟨i7, hF⟩ := ck_ok hF
      obtain ⟨m8, em8, hF⟩ := vm_ok hF
      have hm8 := hm2.s em8 (nRa k6.2.1 (by decide))
      obtain ⟨m9, em9, hF⟩ := vm_ok hF
      have hm9 := hm8.s em9 (nRf (sk_241 hm8) (by decide) (by decide))
      cases hF
      exact hm9
theorem qX11_write {g : Shp} {m : Mem} {x1 : Int} (h : Sh g m)  : fX11_write g 241 x1 m = eX11_write g x1 m := qX11_write_0 h 
theorem nX11_write {g : Shp} {m : Mem} {x1 : Int} (h : Sh g m)  {r : Int} {m' : Mem} (hF : eX11_write g x1 m = some (r, m')) : Sh g m' := nX11_write_0 h  hF
set_option maxRecDepth 20000 in
theorem qX11_wipe_0 {g : Shp} {m : Mem} (h : Sh g m)  : bX11_wipe_0 g 241 m = ebX11_wipe_0 g m := by
  unfold bX11_wipe_0 ebX11_wipe_0
  refine vv_c (fun y1 ey1 => ?_)
  refine vm_c (fun m2 em2 => ?_)
  have hm2 := h.s em2 (nRf (sk_241 h) (by decide) (by decide))
  rfl
theorem nX11_wipe_0 {g : Shp} {m : Mem} (h : Sh g m)  {r : Int} {m' : Mem} (hF : ebX11_wipe_0 g m = some (r, m')) : Sh g m' := by
  unfold ebX11_wipe_0 at hF
  obtain ⟨y1, ey1, hF⟩ := vv_ok hF
  obtain ⟨m2, em2, hF⟩ := vm_ok hF
  have hm2 := h.s em2 (nRf (sk_241 h) (by decide) (by decide))
  cases hF
  exact hm2
theorem qX11_wipe {g : Shp} {m : Mem} (h : Sh g m)  : fX11_wipe g 241 m = eX11_wipe g m := qX11_wipe_0 h 
theorem nX11_wipe {g : Shp} {m : Mem} (h : Sh g m)  {r : Int} {m' : Mem} (hF : eX11_wipe g m = some (r, m')) : Sh g m' := nX11_wipe_0 h  hF
set_option maxRecDepth 20000 in
theorem qX11_fault_0 {g : Shp} {m : Mem} (h : Sh g m)  : bX11_fault_0 g 241 m = ebX11_fault_0 g m := by
  unfold bX11_fault_0 ebX11_fault_0
  refine bd2_q (qX11_readText h ) (fun v1 m2 h3 => ?_)
  have hm2 := nX11_readText h  ((qX11_readText h ).symm.trans h3)
  rfl
theorem nX11_fault_0 {g : Shp} {m : Mem} (h : Sh g m)  {r : Int} {m' : Mem} (hF : ebX11_fault_0 g m = some (r, m')) : Sh g m' := by
  unfold ebX11_fault_0 at hF
  obtain ⟨v1, m2, h3, hF⟩ := bd2_ok hF
  have hm2 := nX11_readText h  h3
  cases hF
  exact hm2
theorem qX11_fault {g : Shp} {m : Mem} (h : Sh g m)  : fX11_fault g 241 m = eX11_fault g m := qX11_fault_0 h 
theorem nX11_fault {g : Shp} {m : Mem} (h : Sh g m)  {r : Int} {m' : Mem} (hF : eX11_fault g m = some (r, m')) : Sh g m' := nX11_fault_0 h  hF
set_option maxRecDepth 20000 in
theorem qX11_lay_16 {g : Shp} {m : Mem} (h : Sh g m)  : bX11_lay_16 g m = ebX11_lay_16 g m := by
  unfold bX11_lay_16 ebX11_lay_16
  rfl
theorem nX11_lay_16 {g : Shp} {m : Mem} (h : Sh g m)  {r : Int} {m' : Mem} (hF : ebX11_lay_16 g m = some (r, m')) : Sh g m' := by
  unfold ebX11_lay_16 at hF
  cases hF
  exact h
set_option maxRecDepth 20000 in
theorem qX11_lay_0 {g : Shp} {m : Mem} (h : Sh g m)  : bX11_lay_0 g 241 m = ebX11_lay_0 g m := by
  unfold bX11_lay_0 ebX11_lay_0
  refine bd2_q (qX11_readText h ) (fun v1 m2 h3 => ?_)
  have hm2 := nX11_readText h  ((qX11_readText h ).symm.trans h3)
  refine if_c (fun hc4 => ?_) (fun hc4 => ?_)
  · refine if_c (fun hc5 => ?_) (fun hc5 => ?_)
    · exact qX11_lay_16 hm2
    · refine bd2_q (qX11_takeRead hm2 ) (fun v6 m7 h8 => ?_)
      have hm7 := nX11_takeRead hm2  ((qX11_takeRead hm2 ).symm.trans h8)
      rfl
  · exact qX11_lay_16 hm2
theorem nX11_lay_0 {g : Shp} {m : Mem} (h : Sh g m)  {r : Int} {m' : Mem} (hF : ebX11_lay_0 g m = some (r, m')) : Sh g m' := by
  unfold ebX11_lay_0 at hF
  obtain ⟨v1, m2, h3, hF⟩ := bd2_ok hF
  have hm2 := nX11_readText h  h3
  rcases if_ok hF with ⟨hc4, hF⟩ | ⟨hc4, hF⟩
  · rcases if_ok hF with ⟨hc5, hF⟩ | ⟨hc5, hF⟩
    · exact nX11_lay_16 hm2  hF
    · obtain ⟨v6, m7, h8, hF⟩ := bd2_ok hF
      have hm7 := nX11_takeRead hm2  h8
      cases hF
      exact hm7
  · exact nX11_lay_16 hm2  hF
theorem qX11_lay {g : Shp} {m : Mem} (h : Sh g m)  : fX11_lay g 241 m = eX11_lay g m := qX11_lay_0 h 
theorem nX11_lay {g : Shp} {m : Mem} (h : Sh g m)  {r : Int} {m' : Mem} (hF : eX11_lay g m = some (r, m')) : Sh g m' := nX11_lay_0 h  hF
set_option maxRecDepth 20000 in
theorem qX11_bring_3 {g : Shp} {m : Mem} {x0 x1 x2 x3 x4 : Int} (h : Sh g m) (hx0 : gk g x0 = 20) (hx2 : gk g x2 = 20) : bX11_bring_3 g x0 x1 x2 x3 x4 m = ebX11_bring_3 g x0 x1 x2 x3 x4 m := by
  unfold bX11_bring_3 ebX11_bring_3
  refine if_c (fun hc1 => ?_) (fun hc1 => ?_)
  · rfl
  · refine ck_c (fun i2 => ?_)
    refine ck_c (fun i3 => ?_)
    refine vm_c (fun m4 em4 => ?_)
    have hm4 := h.s em4 (nRa hx2 (by decide))
    refine vv_c (fun y5 ey5 => ?_)
    rfl
theorem nX11_bring_3 {g : Shp} {m : Mem} {x0 x1 x2 x3 x4 : Int} (h : Sh g m) (hx0 : gk g x0 = 20) (hx2 : gk g x2 = 20) {c1 : Int} {s1 : (Int × Mem)} (hF : ebX11_bring_3 g x0 x1 x2 x3 x4 m = some (c1, s1)) : Sh g s1.2 := by
  unfold ebX11_bring_3 at hF
  rcases if_ok hF with ⟨hc1, hF⟩ | ⟨hc1, hF⟩
  · cases hF
    exact h
  · obtain ⟨i2, hF⟩ := ck_ok hF
    obtain ⟨i3, hF⟩ := ck_ok hF
    obtain ⟨m4, em4, hF⟩ := vm_ok hF
    have hm4 := h.s em4 (nRa hx2 (by decide))
    obtain ⟨y5, ey5, hF⟩ := vv_ok hF
    cases hF
    exact hm4
theorem nlX11_bring_3 {g : Shp} {x0 x1 x2 x3 : Int} (hx0 : gk g x0 = 20) (hx2 : gk g x2 = 20) {n : Nat} {s0 s1 : (Int × Mem)} {c1 : Int} (h : Sh g s0.2) (hI : iter (eBX11_bring_3 g x0 x1 x2 x3) n s0 = some (c1, s1)) : Sh g s1.2 :=
  iter_inv (B := eBX11_bring_3 g x0 x1 x2 x3) (fun q => Sh g q.2) (fun s c s' hs hB => nX11_bring_3 hs hx0 hx2 hB) n s0 c1 s1 h hI
theorem qlX11_bring_3 {g : Shp} {x0 x1 x2 x3 : Int} (hx0 : gk g x0 = 20) (hx2 : gk g x2 = 20) {n : Nat} {s0 : (Int × Mem)} (h : Sh g s0.2) : iter (BX11_bring_3 g x0 x1 x2 x3) n s0 = iter (eBX11_bring_3 g x0 x1 x2 x3) n s0 :=
  iter_eq (B := BX11_bring_3 g x0 x1 x2 x3) (E := eBX11_bring_3 g x0 x1 x2 x3) (fun q => Sh g q.2) (fun s hs => qX11_bring_3 hs hx0 hx2) (fun s c s' hs hB => nX11_bring_3 hs hx0 hx2 ((qX11_bring_3 hs hx0 hx2).symm.trans hB)) n s0 h
set_option maxRecDepth 20000 in
theorem qX11_bring_29 {g : Shp} {m : Mem} (h : Sh g m)  : bX11_bring_29 g m = ebX11_bring_29 g m := by
  unfold bX11_bring_29 ebX11_bring_29
  rfl
theorem nX11_bring_29 {g : Shp} {m : Mem} (h : Sh g m)  {r : Int} {m' : Mem} (hF : ebX11_bring_29 g m = some (r, m')) : Sh g m' := by
  unfold ebX11_bring_29 at hF
  cases hF
  exact h
set_option maxRecDepth 20000 in
theorem qX11_bring_0 {g : Shp} {m : Mem} {x0 x1 x2 x3 : Int} (h : Sh g m) (hx0 : gk g x0 = 20) (hx2 : gk g x2 = 20) : bX11_bring_0 g x0 x1 x2 x3 m = ebX11_bring_0 g x0 x1 x2 x3 m := by
  unfold bX11_bring_0 ebX11_bring_0
  refine bdl_q (qlX11_bring_3 hx0 hx2 (n := 100000) (s0 := (0, m)) h) (fun cv1 sv2 hi3 => ?_)
  have h4 := nlX11_bring_3 hx0 hx2 (s0 := (0, m)) h ((qlX11_bring_3 hx0 hx2 (n := 100000) (s0 := (0, m)) h).symm.trans hi3)
  exact qX11_bring_29 h4 
theorem nX11_bring_0 {g : Shp} {m : Mem} {x0 x1 x2 x3 : Int} (h : Sh g m) (hx0 : gk g x0 = 20) (hx2 : gk g x2 = 20) {r : Int} {m' : Mem} (hF : ebX11_bring_0 g x0 x1 x2 x3 m = some (r, m')) : Sh g m' := by
  unfold ebX11_bring_0 at hF
  obtain ⟨cv1, sv2, hi3, hF⟩ := bdl_ok hF
  have h4 := nlX11_bring_3 hx0 hx2 (s0 := (0, m)) h hi3
  exact nX11_bring_29 h4  hF
theorem qX11_bring {g : Shp} {m : Mem} {x0 x1 x2 x3 : Int} (h : Sh g m) (hx0 : gk g x0 = 20) (hx2 : gk g x2 = 20) : fX11_bring g x0 x1 x2 x3 m = eX11_bring g x0 x1 x2 x3 m := qX11_bring_0 h hx0 hx2
theorem nX11_bring {g : Shp} {m : Mem} {x0 x1 x2 x3 : Int} (h : Sh g m) (hx0 : gk g x0 = 20) (hx2 : gk g x2 = 20) {r : Int} {m' : Mem} (hF : eX11_bring g x0 x1 x2 x3 m = some (r, m')) : Sh g m' := nX11_bring_0 h hx0 hx2 hF
set_option maxRecDepth 20000 in
theorem qX11_note_11 {g : Shp} {m : Mem} {x1 : Int} (h : Sh g m)  : bX11_note_11 g 241 x1 m = ebX11_note_11 g x1 m := by
  unfold bX11_note_11 ebX11_note_11
  refine if_c (fun hc1 => ?_) (fun hc1 => ?_)
  · rfl
  · have k2 := s_241_2 h
    rewrite [k2.1, ck_t k2.2.1]
    have k3 := s_241_2 h
    try rewrite [k3.2.2]
    refine ck_c (fun i4 => ?_)
    try rewrite [k2.2.2]
    refine ck_c (fun i5 => ?_)
    refine vm_c (fun m6 em6 => ?_)
    have hm6 := h.s em6 (nRa k2.2.1 (by decide))
    refine vv_c (fun y7 ey7 => ?_)
    rfl
theorem nX11_note_11 {g : Shp} {m : Mem} {x1 : Int} (h : Sh g m)  {c1 : Int} {s1 : (Int × Mem)} (hF : ebX11_note_11 g x1 m = some (c1, s1)) : Sh g s1.2 := by
  unfold ebX11_note_11 at hF
  rcases if_ok hF with ⟨hc1, hF⟩ | ⟨hc1, hF⟩
  · cases hF
    exact h
  · have k2 := s_241_2 h
    have k3 := s_241_2 h
    obtain ⟨i4, hF⟩ := ck_ok hF
    obtain ⟨i5, hF⟩ := ck_ok hF
    obtain ⟨m6, em6, hF⟩ := vm_ok hF
    have hm6 := h.s em6 (nRa k2.2.1 (by decide))
    obtain ⟨y7, ey7, hF⟩ := vv_ok hF
    cases hF
    exact hm6
theorem nlX11_note_11 {g : Shp}  {n : Nat} {s0 s1 : (Int × Mem)} {c1 : Int} (h : Sh g s0.2) (hI : iter (eBX11_note_11 g ) n s0 = some (c1, s1)) : Sh g s1.2 :=
  iter_inv (B := eBX11_note_11 g ) (fun q => Sh g q.2) (fun s c s' hs hB => nX11_note_11 hs  hB) n s0 c1 s1 h hI
theorem qlX11_note_11 {g : Shp}  {n : Nat} {s0 : (Int × Mem)} (h : Sh g s0.2) : iter (BX11_note_11 g 241) n s0 = iter (eBX11_note_11 g ) n s0 :=
  iter_eq (B := BX11_note_11 g 241) (E := eBX11_note_11 g ) (fun q => Sh g q.2) (fun s hs => qX11_note_11 hs ) (fun s c s' hs hB => nX11_note_11 hs  ((qX11_note_11 hs ).symm.trans hB)) n s0 h
set_option maxRecDepth 20000 in
theorem qX11_note_50 {g : Shp} {m : Mem} (h : Sh g m)  : bX11_note_50 g 241 m = ebX11_note_50 g m := by
  unfold bX11_note_50 ebX11_note_50
  have k1 := s_241_0 h
  rewrite [k1.1, ck_t k1.2.1]
  have k2 := s_241_2 h
  rewrite [k2.1, ck_t k2.2.1]
  refine bd2_q (qX11_bring h k1.2.1 k2.2.1) (fun v3 m4 h5 => ?_)
  have hm4 := nX11_bring h k1.2.1 k2.2.1 ((qX11_bring h k1.2.1 k2.2.1).symm.trans h5)
  refine vm_c (fun m6 em6 => ?_)
  have hm6 := hm4.s em6 (nRf (sk_241 hm4) (by decide) (by decide))
  rfl
theorem nX11_note_50 {g : Shp} {m : Mem} (h : Sh g m)  {r : Int} {m' : Mem} (hF : ebX11_note_50 g m = some (r, m')) : Sh g m' := by
  unfold ebX11_note_50 at hF
  have k1 := s_241_0 h
  have k2 := s_241_2 h
  obtain ⟨v3, m4, h5, hF⟩ := bd2_ok hF
  have hm4 := nX11_bring h k1.2.1 k2.2.1 h5
  obtain ⟨m6, em6, hF⟩ := vm_ok hF
  have hm6 := hm4.s em6 (nRf (sk_241 hm4) (by decide) (by decide))
  cases hF
  exact hm6
set_option maxRecDepth 20000 in
theorem qX11_note_40 {g : Shp} {m : Mem} (h : Sh g m)  : bX11_note_40 g 241 m = ebX11_note_40 g m := by
  unfold bX11_note_40 ebX11_note_40
  refine vm_c (fun m1 em1 => ?_)
  have hm1 := h.s em1 (nRf (sk_241 h) (by decide) (by decide))
  exact qX11_note_50 hm1 
theorem nX11_note_40 {g : Shp} {m : Mem} (h : Sh g m)  {r : Int} {m' : Mem} (hF : ebX11_note_40 g m = some (r, m')) : Sh g m' := by
  unfold ebX11_note_40 at hF
  obtain ⟨m1, em1, hF⟩ := vm_ok hF
  have hm1 := h.s em1 (nRf (sk_241 h) (by decide) (by decide))
  exact nX11_note_50 hm1  hF
set_option maxRecDepth 20000 in
theorem qX11_note_0 {g : Shp} {m : Mem} (h : Sh g m)  : bX11_note_0 g 241 m = ebX11_note_0 g m := by
  unfold bX11_note_0 ebX11_note_0
  refine if_c (fun hc1 => ?_) (fun hc1 => ?_)
  · refine bdl_q (qlX11_note_11  (n := 100000) (s0 := (0, m)) h) (fun cv2 sv3 hi4 => ?_)
    have h5 := nlX11_note_11  (s0 := (0, m)) h ((qlX11_note_11  (n := 100000) (s0 := (0, m)) h).symm.trans hi4)
    exact qX11_note_40 h5 
  · exact qX11_note_50 h
theorem nX11_note_0 {g : Shp} {m : Mem} (h : Sh g m)  {r : Int} {m' : Mem} (hF : ebX11_note_0 g m = some (r, m')) : Sh g m' := by
  unfold ebX11_note_0 at hF
  rcases if_ok hF with ⟨hc1, hF⟩ | ⟨hc1, hF⟩
  · obtain ⟨cv2, sv3, hi4, hF⟩ := bdl_ok hF
    have h5 := nlX11_note_11  (s0 := (0, m)) h hi4
    exact nX11_note_40 h5  hF
  · exact nX11_note_50 h  hF
theorem qX11_note {g : Shp} {m : Mem} (h : Sh g m)  : fX11_note g 241 m = eX11_note g m := qX11_note_0 h 
theorem nX11_note {g : Shp} {m : Mem} (h : Sh g m)  {r : Int} {m' : Mem} (hF : eX11_note g m = some (r, m')) : Sh g m' := nX11_note_0 h  hF
set_option maxRecDepth 20000 in
theorem qX11_undo_0 {g : Shp} {m : Mem} (h : Sh g m)  : bX11_undo_0 g 241 m = ebX11_undo_0 g m := by
  unfold bX11_undo_0 ebX11_undo_0
  refine if_c (fun hc1 => ?_) (fun hc1 => ?_)
  · rfl
  · refine vm_c (fun m2 em2 => ?_)
    have hm2 := h.s em2 (nRf (sk_241 h) (by decide) (by decide))
    have k3 := s_241_2 hm2
    rewrite [k3.1, ck_t k3.2.1]
    have k4 := s_241_0 hm2
    rewrite [k4.1, ck_t k4.2.1]
    refine bd2_q (qX11_bring hm2 k3.2.1 k4.2.1) (fun v5 m6 h7 => ?_)
    have hm6 := nX11_bring hm2 k3.2.1 k4.2.1 ((qX11_bring hm2 k3.2.1 k4.2.1).symm.trans h7)
    rfl
theorem nX11_undo_0 {g : Shp} {m : Mem} (h : Sh g m)  {r : Int} {m' : Mem} (hF : ebX11_undo_0 g m = some (r, m')) : Sh g m' := by
  unfold ebX11_undo_0 at hF
  rcases if_ok hF with ⟨hc1, hF⟩ | ⟨hc1, hF⟩
  · cases hF
    exact h
  · obtain ⟨m2, em2, hF⟩ := vm_ok hF
    have hm2 := h.s em2 (nRf (sk_241 h) (by decide) (by decide))
    have k3 := s_241_2 hm2
    have k4 := s_241_0 hm2
    obtain ⟨v5, m6, h7, hF⟩ := bd2_ok hF
    have hm6 := nX11_bring hm2 k3.2.1 k4.2.1 h7
    cases hF
    exact hm6
theorem qX11_undo {g : Shp} {m : Mem} (h : Sh g m)  : fX11_undo g 241 m = eX11_undo g m := qX11_undo_0 h 
theorem nX11_undo {g : Shp} {m : Mem} (h : Sh g m)  {r : Int} {m' : Mem} (hF : eX11_undo g m = some (r, m')) : Sh g m' := nX11_undo_0 h  hF
set_option maxRecDepth 20000 in
theorem qX11_joint_0 {g : Shp} {m : Mem} {x1 : Int} (h : Sh g m)  : bX11_joint_0 g 241 x1 m = ebX11_joint_0 g x1 m := by
  unfold bX11_joint_0 ebX11_joint_0
  refine bd2_q (qX11_in h ) (fun v1 m2 h3 => ?_)
  have hm2 := nX11_in h  ((qX11_in h ).symm.trans h3)
  refine if_c (fun hc4 => ?_) (fun hc4 => ?_)
  · rfl
  · have k5 := s_241_0 hm2
    rewrite [k5.1, ck_t k5.2.1]
    try rewrite [k5.2.2]
    refine ck_c (fun i6 => ?_)
    refine if_c (fun hc7 => ?_) (fun hc7 => ?_)
    · rfl
    · refine bd2_q (qX11_note hm2 ) (fun v8 m9 h10 => ?_)
      have hm9 := nX11_note hm2  ((qX11_note hm2 ).symm.trans h10)
      have k11 := s_241_0 hm9
      rewrite [k11.1, ck_t k11.2.1]
      try rewrite [k11.2.2]
      refine ck_c (fun i12 => ?_)
      refine vv_c (fun y13 ey13 => ?_)
      have k14 := s_241_0 hm9
      try rewrite [k14.2.2]
      refine ck_c (fun i15 => ?_)
      refine vm_c (fun m16 em16 => ?_)
      have hm16 := hm9.s em16 (nRa k14.2.1 (by decide))
      rfl
theorem nX11_joint_0 {g : Shp} {m : Mem} {x1 : Int} (h : Sh g m)  {r : Int} {m' : Mem} (hF : ebX11_joint_0 g x1 m = some (r, m')) : Sh g m' := by
  unfold ebX11_joint_0 at hF
  obtain ⟨v1, m2, h3, hF⟩ := bd2_ok hF
  have hm2 := nX11_in h  h3
  rcases if_ok hF with ⟨hc4, hF⟩ | ⟨hc4, hF⟩
  · cases hF
    exact hm2
  · have k5 := s_241_0 hm2
    obtain ⟨i6, hF⟩ := ck_ok hF
    rcases if_ok hF with ⟨hc7, hF⟩ | ⟨hc7, hF⟩
    · cases hF
      exact hm2
    · obtain ⟨v8, m9, h10, hF⟩ := bd2_ok hF
      have hm9 := nX11_note hm2  h10
      have k11 := s_241_0 hm9
      obtain ⟨i12, hF⟩ := ck_ok hF
      obtain ⟨y13, ey13, hF⟩ := vv_ok hF
      have k14 := s_241_0 hm9
      obtain ⟨i15, hF⟩ := ck_ok hF
      obtain ⟨m16, em16, hF⟩ := vm_ok hF
      have hm16 := hm9.s em16 (nRa k14.2.1 (by decide))
      cases hF
      exact hm16
theorem qX11_joint {g : Shp} {m : Mem} {x1 : Int} (h : Sh g m)  : fX11_joint g 241 x1 m = eX11_joint g x1 m := qX11_joint_0 h 
theorem nX11_joint {g : Shp} {m : Mem} {x1 : Int} (h : Sh g m)  {r : Int} {m' : Mem} (hF : eX11_joint g x1 m = some (r, m')) : Sh g m' := nX11_joint_0 h  hF
set_option maxRecDepth 20000 in
theorem qX11_ownMany_30 {g : Shp} {m : Mem} {x1 x3 z0 z1 : Int} (h : Sh g m)  : bX11_ownMany_30 g 241 x1 x3 z0 z1 m = ebX11_ownMany_30 g x1 x3 z0 z1 m := by
  unfold bX11_ownMany_30 ebX11_ownMany_30
  refine vv_c (fun y1 ey1 => ?_)
  refine vv_c (fun y2 ey2 => ?_)
  rfl
theorem nX11_ownMany_30 {g : Shp} {m : Mem} {x1 x3 z0 z1 : Int} (h : Sh g m)  {c1 : Int} {s1 : (Int × Int × Mem)} (hF : ebX11_ownMany_30 g x1 x3 z0 z1 m = some (c1, s1)) : Sh g s1.2.2 := by
  unfold ebX11_ownMany_30 at hF
  obtain ⟨y1, ey1, hF⟩ := vv_ok hF
  obtain ⟨y2, ey2, hF⟩ := vv_ok hF
  cases hF
  exact h
set_option maxRecDepth 20000 in
theorem qX11_ownMany_4 {g : Shp} {m : Mem} {x1 x2 x3 : Int} (h : Sh g m)  : bX11_ownMany_4 g 241 x1 x2 x3 m = ebX11_ownMany_4 g x1 x2 x3 m := by
  unfold bX11_ownMany_4 ebX11_ownMany_4
  refine if_c (fun hc1 => ?_) (fun hc1 => ?_)
  · rfl
  · have k2 := s_241_0 h
    rewrite [k2.1, ck_t k2.2.1]
    try rewrite [k2.2.2]
    refine ck_c (fun i3 => ?_)
    refine if_c (fun hc4 => ?_) (fun hc4 => ?_)
    · exact qX11_ownMany_30 h
    · exact qX11_ownMany_30 h
theorem nX11_ownMany_4 {g : Shp} {m : Mem} {x1 x2 x3 : Int} (h : Sh g m)  {c1 : Int} {s1 : (Int × Int × Mem)} (hF : ebX11_ownMany_4 g x1 x2 x3 m = some (c1, s1)) : Sh g s1.2.2 := by
  unfold ebX11_ownMany_4 at hF
  rcases if_ok hF with ⟨hc1, hF⟩ | ⟨hc1, hF⟩
  · cases hF
    exact h
  · have k2 := s_241_0 h
    obtain ⟨i3, hF⟩ := ck_ok hF
    rcases if_ok hF with ⟨hc4, hF⟩ | ⟨hc4, hF⟩
    · exact nX11_ownMany_30 h  hF
    · exact nX11_ownMany_30 h  hF
theorem nlX11_ownMany_4 {g : Shp} {x1 : Int}  {n : Nat} {s0 s1 : (Int × Int × Mem)} {c1 : Int} (h : Sh g s0.2.2) (hI : iter (eBX11_ownMany_4 g x1) n s0 = some (c1, s1)) : Sh g s1.2.2 :=
  iter_inv (B := eBX11_ownMany_4 g x1) (fun q => Sh g q.2.2) (fun s c s' hs hB => nX11_ownMany_4 hs  hB) n s0 c1 s1 h hI
theorem qlX11_ownMany_4 {g : Shp} {x1 : Int}  {n : Nat} {s0 : (Int × Int × Mem)} (h : Sh g s0.2.2) : iter (BX11_ownMany_4 g 241 x1) n s0 = iter (eBX11_ownMany_4 g x1) n s0 :=
  iter_eq (B := BX11_ownMany_4 g 241 x1) (E := eBX11_ownMany_4 g x1) (fun q => Sh g q.2.2) (fun s hs => qX11_ownMany_4 hs ) (fun s c s' hs hB => nX11_ownMany_4 hs  ((qX11_ownMany_4 hs ).symm.trans hB)) n s0 h
set_option maxRecDepth 20000 in
theorem qX11_ownMany_38 {g : Shp} {m : Mem} {x2 : Int} (h : Sh g m)  : bX11_ownMany_38 g x2 m = ebX11_ownMany_38 g x2 m := by
  unfold bX11_ownMany_38 ebX11_ownMany_38
  rfl
theorem nX11_ownMany_38 {g : Shp} {m : Mem} {x2 : Int} (h : Sh g m)  {r : Int} {m' : Mem} (hF : ebX11_ownMany_38 g x2 m = some (r, m')) : Sh g m' := by
  unfold ebX11_ownMany_38 at hF
  cases hF
  exact h
set_option maxRecDepth 20000 in
theorem qX11_ownMany_0 {g : Shp} {m : Mem} {x1 : Int} (h : Sh g m)  : bX11_ownMany_0 g 241 x1 m = ebX11_ownMany_0 g x1 m := by
  unfold bX11_ownMany_0 ebX11_ownMany_0
  refine bdl_q (qlX11_ownMany_4  (n := 100000) (s0 := (0, 0, m)) h) (fun cv1 sv2 hi3 => ?_)
  have h4 := nlX11_ownMany_4  (s0 := (0, 0, m)) h ((qlX11_ownMany_4  (n := 100000) (s0 := (0, 0, m)) h).symm.trans hi3)
  exact qX11_ownMany_38 h4 
theorem nX11_ownMany_0 {g : Shp} {m : Mem} {x1 : Int} (h : Sh g m)  {r : Int} {m' : Mem} (hF : ebX11_ownMany_0 g x1 m = some (r, m')) : Sh g m' := by
  unfold ebX11_ownMany_0 at hF
  obtain ⟨cv1, sv2, hi3, hF⟩ := bdl_ok hF
  have h4 := nlX11_ownMany_4  (s0 := (0, 0, m)) h hi3
  exact nX11_ownMany_38 h4  hF
theorem qX11_ownMany {g : Shp} {m : Mem} {x1 : Int} (h : Sh g m)  : fX11_ownMany g 241 x1 m = eX11_ownMany g x1 m := qX11_ownMany_0 h 
theorem nX11_ownMany {g : Shp} {m : Mem} {x1 : Int} (h : Sh g m)  {r : Int} {m' : Mem} (hF : eX11_ownMany g x1 m = some (r, m')) : Sh g m' := nX11_ownMany_0 h  hF
set_option maxRecDepth 20000 in
theorem qX11_line_0 {g : Shp} {m : Mem} {x1 x2 : Int} (h : Sh g m)  : bX11_line_0 g 241 x1 x2 m = ebX11_line_0 g x1 x2 m := by
  unfold bX11_line_0 ebX11_line_0
  refine bd2_q (qX11_isLine h ) (fun v1 m2 h3 => ?_)
  have hm2 := nX11_isLine h  ((qX11_isLine h ).symm.trans h3)
  refine if_c (fun hc4 => ?_) (fun hc4 => ?_)
  · rfl
  · refine if_c (fun hc5 => ?_) (fun hc5 => ?_)
    · have k6 := s_241_21 hm2
      rewrite [k6.1, ck_t k6.2.1]
      try rewrite [k6.2.2]
      refine ck_c (fun i7 => ?_)
      rfl
    · refine if_c (fun hc8 => ?_) (fun hc8 => ?_)
      · have k9 := s_241_23 hm2
        rewrite [k9.1, ck_t k9.2.1]
        try rewrite [k9.2.2]
        refine ck_c (fun i10 => ?_)
        rfl
      · refine if_c (fun hc11 => ?_) (fun hc11 => ?_)
        · have k12 := s_241_21 hm2
          rewrite [k12.1, ck_t k12.2.1]
          try rewrite [k12.2.2]
          refine ck_c (fun i13 => ?_)
          rfl
        · refine if_c (fun hc14 => ?_) (fun hc14 => ?_)
          · have k15 := s_241_0 hm2
            rewrite [k15.1, ck_t k15.2.1]
            try rewrite [k15.2.2]
            refine ck_c (fun i16 => ?_)
            rfl
          · refine if_c (fun hc17 => ?_) (fun hc17 => ?_)
            · refine bd2_q (qX11_ownMany hm2 ) (fun v18 m19 h20 => ?_)
              have hm19 := nX11_ownMany hm2  ((qX11_ownMany hm2 ).symm.trans h20)
              rfl
            · refine if_c (fun hc21 => ?_) (fun hc21 => ?_)
              · have k22 := s_241_0 hm2
                rewrite [k22.1, ck_t k22.2.1]
                try rewrite [k22.2.2]
                refine ck_c (fun i23 => ?_)
                rfl
              · refine if_c (fun hc24 => ?_) (fun hc24 => ?_)
                · have k25 := s_241_0 hm2
                  rewrite [k25.1, ck_t k25.2.1]
                  try rewrite [k25.2.2]
                  refine ck_c (fun i26 => ?_)
                  rfl
                · rfl
theorem nX11_line_0 {g : Shp} {m : Mem} {x1 x2 : Int} (h : Sh g m)  {r : Int} {m' : Mem} (hF : ebX11_line_0 g x1 x2 m = some (r, m')) : Sh g m' := by
  unfold ebX11_line_0 at hF
  obtain ⟨v1, m2, h3, hF⟩ := bd2_ok hF
  have hm2 := nX11_isLine h  h3
  rcases if_ok hF with ⟨hc4, hF⟩ | ⟨hc4, hF⟩
  · cases hF
    exact hm2
  · rcases if_ok hF with ⟨hc5, hF⟩ | ⟨hc5, hF⟩
    · have k6 := s_241_21 hm2
      obtain ⟨i7, hF⟩ := ck_ok hF
      cases hF
      exact hm2
    · rcases if_ok hF with ⟨hc8, hF⟩ | ⟨hc8, hF⟩
      · have k9 := s_241_23 hm2
        obtain ⟨i10, hF⟩ := ck_ok hF
        cases hF
        exact hm2
      · rcases if_ok hF with ⟨hc11, hF⟩ | ⟨hc11, hF⟩
        · have k12 := s_241_21 hm2
          obtain ⟨i13, hF⟩ := ck_ok hF
          cases hF
          exact hm2
        · rcases if_ok hF with ⟨hc14, hF⟩ | ⟨hc14, hF⟩
          · have k15 := s_241_0 hm2
            obtain ⟨i16, hF⟩ := ck_ok hF
            cases hF
            exact hm2
          · rcases if_ok hF with ⟨hc17, hF⟩ | ⟨hc17, hF⟩
            · obtain ⟨v18, m19, h20, hF⟩ := bd2_ok hF
              have hm19 := nX11_ownMany hm2  h20
              cases hF
              exact hm19
            · rcases if_ok hF with ⟨hc21, hF⟩ | ⟨hc21, hF⟩
              · have k22 := s_241_0 hm2
                obtain ⟨i23, hF⟩ := ck_ok hF
                cases hF
                exact hm2
              · rcases if_ok hF with ⟨hc24, hF⟩ | ⟨hc24, hF⟩
                · have k25 := s_241_0 hm2
                  obtain ⟨i26, hF⟩ := ck_ok hF
                  cases hF
                  exact hm2
                · cases hF
                  exact hm2
theorem qX11_line {g : Shp} {m : Mem} {x1 x2 : Int} (h : Sh g m)  : fX11_line g 241 x1 x2 m = eX11_line g x1 x2 m := qX11_line_0 h 
theorem nX11_line {g : Shp} {m : Mem} {x1 x2 : Int} (h : Sh g m)  {r : Int} {m' : Mem} (hF : eX11_line g x1 x2 m = some (r, m')) : Sh g m' := nX11_line_0 h  hF
set_option maxRecDepth 20000 in
theorem qX11_cell_12 {g : Shp} {m : Mem} (h : Sh g m)  : bX11_cell_12 g m = ebX11_cell_12 g m := by
  unfold bX11_cell_12 ebX11_cell_12
  rfl
theorem nX11_cell_12 {g : Shp} {m : Mem} (h : Sh g m)  {r : Int} {m' : Mem} (hF : ebX11_cell_12 g m = some (r, m')) : Sh g m' := by
  unfold ebX11_cell_12 at hF
  cases hF
  exact h
set_option maxRecDepth 20000 in
theorem qX11_cell_40 {g : Shp} {m : Mem} {z0 : Int} (h : Sh g m)  : bX11_cell_40 g z0 m = ebX11_cell_40 g z0 m := by
  unfold bX11_cell_40 ebX11_cell_40
  rfl
theorem nX11_cell_40 {g : Shp} {m : Mem} {z0 : Int} (h : Sh g m)  {r : Int} {m' : Mem} (hF : ebX11_cell_40 g z0 m = some (r, m')) : Sh g m' := by
  unfold ebX11_cell_40 at hF
  cases hF
  exact h
set_option maxRecDepth 20000 in
theorem qX11_cell_0 {g : Shp} {m : Mem} {x1 x2 : Int} (h : Sh g m)  : bX11_cell_0 g 241 x1 x2 m = ebX11_cell_0 g x1 x2 m := by
  unfold bX11_cell_0 ebX11_cell_0
  refine bd2_q (qX11_isLine h ) (fun v1 m2 h3 => ?_)
  have hm2 := nX11_isLine h  ((qX11_isLine h ).symm.trans h3)
  refine if_c (fun hc4 => ?_) (fun hc4 => ?_)
  · exact qX11_cell_12 hm2
  · refine if_c (fun hc5 => ?_) (fun hc5 => ?_)
    · have k6 := s_241_23 hm2
      rewrite [k6.1, ck_t k6.2.1]
      try rewrite [k6.2.2]
      refine ck_c (fun i7 => ?_)
      refine if_c (fun hc8 => ?_) (fun hc8 => ?_)
      · exact qX11_cell_40 hm2
      · have k9 := s_241_24 hm2
        rewrite [k9.1, ck_t k9.2.1]
        try rewrite [k9.2.2]
        refine ck_c (fun i10 => ?_)
        exact qX11_cell_40 hm2 
    · exact qX11_cell_12 hm2
theorem nX11_cell_0 {g : Shp} {m : Mem} {x1 x2 : Int} (h : Sh g m)  {r : Int} {m' : Mem} (hF : ebX11_cell_0 g x1 x2 m = some (r, m')) : Sh g m' := by
  unfold ebX11_cell_0 at hF
  obtain ⟨v1, m2, h3, hF⟩ := bd2_ok hF
  have hm2 := nX11_isLine h  h3
  rcases if_ok hF with ⟨hc4, hF⟩ | ⟨hc4, hF⟩
  · exact nX11_cell_12 hm2  hF
  · rcases if_ok hF with ⟨hc5, hF⟩ | ⟨hc5, hF⟩
    · have k6 := s_241_23 hm2
      obtain ⟨i7, hF⟩ := ck_ok hF
      rcases if_ok hF with ⟨hc8, hF⟩ | ⟨hc8, hF⟩
      · exact nX11_cell_40 hm2  hF
      · have k9 := s_241_24 hm2
        obtain ⟨i10, hF⟩ := ck_ok hF
        exact nX11_cell_40 hm2  hF
    · exact nX11_cell_12 hm2  hF
theorem qX11_cell {g : Shp} {m : Mem} {x1 x2 : Int} (h : Sh g m)  : fX11_cell g 241 x1 x2 m = eX11_cell g x1 x2 m := qX11_cell_0 h 
theorem nX11_cell {g : Shp} {m : Mem} {x1 x2 : Int} (h : Sh g m)  {r : Int} {m' : Mem} (hF : eX11_cell g x1 x2 m = some (r, m')) : Sh g m' := nX11_cell_0 h  hF
set_option maxRecDepth 20000 in
theorem qX11_whose_38 {g : Shp} {m : Mem} {z0 : Int} (h : Sh g m)  : bX11_whose_38 g z0 m = ebX11_whose_38 g z0 m := by
  unfold bX11_whose_38 ebX11_whose_38
  rfl
theorem nX11_whose_38 {g : Shp} {m : Mem} {z0 : Int} (h : Sh g m)  {r : Int} {m' : Mem} (hF : ebX11_whose_38 g z0 m = some (r, m')) : Sh g m' := by
  unfold ebX11_whose_38 at hF
  cases hF
  exact h
set_option maxRecDepth 20000 in
theorem qX11_whose_37 {g : Shp} {m : Mem} (h : Sh g m)  : bX11_whose_37 g m = ebX11_whose_37 g m := by
  unfold bX11_whose_37 ebX11_whose_37
  exact qX11_whose_38 h 
theorem nX11_whose_37 {g : Shp} {m : Mem} (h : Sh g m)  {r : Int} {m' : Mem} (hF : ebX11_whose_37 g m = some (r, m')) : Sh g m' := by
  unfold ebX11_whose_37 at hF
  exact nX11_whose_38 h  hF
set_option maxRecDepth 20000 in
theorem qX11_whose_0 {g : Shp} {m : Mem} {x1 x2 : Int} (h : Sh g m)  : bX11_whose_0 g 241 x1 x2 m = ebX11_whose_0 g x1 x2 m := by
  unfold bX11_whose_0 ebX11_whose_0
  refine bd2_q (qX11_in h ) (fun v1 m2 h3 => ?_)
  have hm2 := nX11_in h  ((qX11_in h ).symm.trans h3)
  refine if_c (fun hc4 => ?_) (fun hc4 => ?_)
  · exact qX11_whose_37 hm2
  · refine bd2_q (qX11_in hm2 ) (fun v5 m6 h7 => ?_)
    have hm6 := nX11_in hm2  ((qX11_in hm2 ).symm.trans h7)
    refine if_c (fun hc8 => ?_) (fun hc8 => ?_)
    · exact qX11_whose_37 hm6
    · have k9 := s_241_0 hm6
      rewrite [k9.1, ck_t k9.2.1]
      try rewrite [k9.2.2]
      refine ck_c (fun i10 => ?_)
      exact qX11_whose_38 hm6 
theorem nX11_whose_0 {g : Shp} {m : Mem} {x1 x2 : Int} (h : Sh g m)  {r : Int} {m' : Mem} (hF : ebX11_whose_0 g x1 x2 m = some (r, m')) : Sh g m' := by
  unfold ebX11_whose_0 at hF
  obtain ⟨v1, m2, h3, hF⟩ := bd2_ok hF
  have hm2 := nX11_in h  h3
  rcases if_ok hF with ⟨hc4, hF⟩ | ⟨hc4, hF⟩
  · exact nX11_whose_37 hm2  hF
  · obtain ⟨v5, m6, h7, hF⟩ := bd2_ok hF
    have hm6 := nX11_in hm2  h7
    rcases if_ok hF with ⟨hc8, hF⟩ | ⟨hc8, hF⟩
    · exact nX11_whose_37 hm6  hF
    · have k9 := s_241_0 hm6
      obtain ⟨i10, hF⟩ := ck_ok hF
      exact nX11_whose_38 hm6  hF
theorem qX11_whose {g : Shp} {m : Mem} {x1 x2 : Int} (h : Sh g m)  : fX11_whose g 241 x1 x2 m = eX11_whose g x1 x2 m := qX11_whose_0 h 
theorem nX11_whose {g : Shp} {m : Mem} {x1 x2 : Int} (h : Sh g m)  {r : Int} {m' : Mem} (hF : eX11_whose g x1 x2 m = some (r, m')) : Sh g m' := nX11_whose_0 h  hF
set_option maxRecDepth 20000 in
theorem qX11_endPiece_34 {g : Shp} {m : Mem} (h : Sh g m)  : bX11_endPiece_34 g m = ebX11_endPiece_34 g m := by
  unfold bX11_endPiece_34 ebX11_endPiece_34
  rfl
theorem nX11_endPiece_34 {g : Shp} {m : Mem} (h : Sh g m)  {r : Int} {m' : Mem} (hF : ebX11_endPiece_34 g m = some (r, m')) : Sh g m' := by
  unfold ebX11_endPiece_34 at hF
  cases hF
  exact h
set_option maxRecDepth 20000 in
theorem qX11_endPiece_0 {g : Shp} {m : Mem} {x1 x2 : Int} (h : Sh g m)  : bX11_endPiece_0 g 241 x1 x2 m = ebX11_endPiece_0 g x1 x2 m := by
  unfold bX11_endPiece_0 ebX11_endPiece_0
  refine if_c (fun hc1 => ?_) (fun hc1 => ?_)
  · exact qX11_endPiece_34 h
  · have k2 := s_241_25 h
    rewrite [k2.1, ck_t k2.2.1]
    try rewrite [k2.2.2]
    refine ck_c (fun i3 => ?_)
    refine vm_c (fun m4 em4 => ?_)
    have hm4 := h.s em4 (nRa k2.2.1 (by decide))
    have k5 := s_241_26 hm4
    rewrite [k5.1, ck_t k5.2.1]
    try rewrite [k5.2.2]
    refine ck_c (fun i6 => ?_)
    refine ck_c (fun b7 => ?_)
    refine vm_c (fun m8 em8 => ?_)
    have hm8 := hm4.s em8 (nRa k5.2.1 (by decide))
    refine vm_c (fun m9 em9 => ?_)
    have hm9 := hm8.s em9 (nRf (sk_241 hm8) (by decide) (by decide))
    exact qX11_endPiece_34 hm9 
theorem nX11_endPiece_0 {g : Shp} {m : Mem} {x1 x2 : Int} (h : Sh g m)  {r : Int} {m' : Mem} (hF : ebX11_endPiece_0 g x1 x2 m = some (r, m')) : Sh g m' := by
  unfold ebX11_endPiece_0 at hF
  rcases if_ok hF with ⟨hc1, hF⟩ | ⟨hc1, hF⟩
  · exact nX11_endPiece_34 h  hF
  · have k2 := s_241_25 h
    obtain ⟨i3, hF⟩ := ck_ok hF
    obtain ⟨m4, em4, hF⟩ := vm_ok hF
    have hm4 := h.s em4 (nRa k2.2.1 (by decide))
    have k5 := s_241_26 hm4
    obtain ⟨i6, hF⟩ := ck_ok hF
    obtain ⟨b7, hF⟩ := ck_ok hF
    obtain ⟨m8, em8, hF⟩ := vm_ok hF
    have hm8 := hm4.s em8 (nRa k5.2.1 (by decide))
    obtain ⟨m9, em9, hF⟩ := vm_ok hF
    have hm9 := hm8.s em9 (nRf (sk_241 hm8) (by decide) (by decide))
    exact nX11_endPiece_34 hm9  hF
theorem qX11_endPiece {g : Shp} {m : Mem} {x1 x2 : Int} (h : Sh g m)  : fX11_endPiece g 241 x1 x2 m = eX11_endPiece g x1 x2 m := qX11_endPiece_0 h 
theorem nX11_endPiece {g : Shp} {m : Mem} {x1 x2 : Int} (h : Sh g m)  {r : Int} {m' : Mem} (hF : eX11_endPiece g x1 x2 m = some (r, m')) : Sh g m' := nX11_endPiece_0 h  hF
