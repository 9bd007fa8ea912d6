def bX8_readItem_89 (g : Shp) (z0 : Int) (m : Mem) : Option (Int × Mem) :=
  ck (z0 = 0 ∨ z0 = 1) <|
  some (z0, m)
def bX8_readItem_88 (g : Shp) (m : Mem) : Option (Int × Mem) :=
  bX8_readItem_89 g 0 m
def bX8_readItem_71 (g : Shp) (x0 x2 : Int) (m : Mem) : Option (Int × Mem) :=
  if x2 = 0 then
    bX8_readItem_88 g m
  else
    bd2 (fX8_take g x0 59 m) fun v2 m3 =>
    if v2 = 0 then
      bX8_readItem_88 g m3
    else
      bX8_readItem_89 g 1 m3
def bX8_readItem_0 (g : Shp) (x0 x1 : Int) (m : Mem) : Option (Int × Mem) :=
  bd2 (fX8_take g x0 122 m) fun v1 m2 =>
  if v1 = 0 then
    bd2 (fX8_take g x0 106 m2) fun v6 m7 =>
    if v6 = 0 then
      bd2 (fX8_take g x0 98 m7) fun v11 m12 =>
      if v11 = 0 then
        bd2 (fX8_take g x0 108 m12) fun v16 m17 =>
        if v16 = 0 then
          bX8_readItem_71 g x0 0 m17
        else
          bd2 (fX8_readLine g x0 x1 m17) fun v21 m22 =>
          bX8_readItem_71 g x0 v21 m22
      else
        bd2 (fX8_readBag g x0 x1 m12) fun v25 m26 =>
        bX8_readItem_71 g x0 v25 m26
    else
      bd2 (fX8_readJoint g x0 x1 m7) fun v29 m30 =>
      bX8_readItem_71 g x0 v29 m30
  else
    bd2 (fX8_readSizes g x0 x1 m2) fun v33 m34 =>
    bX8_readItem_71 g x0 v33 m34
def fX8_readItem (g : Shp) (x0 x1 : Int) (m : Mem) : Option (Int × Mem) := bX8_readItem_0 g x0 x1 m
def bX8_firstFault_11 (g : Shp) (x0 x1 x2 : Int) (m : Mem) : Option (Int × (Int × Int × Mem)) :=
  if 200 ≤ x2 then
    some (2, (x2, 0, m))
  else
    if (m x0 3) ≤ (m x0 2) then
      some (2, (x2, 0, m))
    else
      vv (m x0 2) fun y3 =>
      bd2 (fX8_readItem g x0 x1 m) fun v4 m5 =>
      if v4 = 0 then
        some (1, (x2, y3, m5))
      else
        vv (w32 (x2 + 1)) fun y9 =>
        some (0, (y9, y3, m5))
def BX8_firstFault_11 (g : Shp) (x0 x1 : Int) (q : (Int × Int × Mem)) : Option (Int × (Int × Int × Mem)) := bX8_firstFault_11 g x0 x1 q.1 q.2.2
def bX8_firstFault_42 (g : Shp) (x3 : Int) (m : Mem) : Option (Int × Mem) :=
  some (x3, m)
def bX8_firstFault_50 (g : Shp) (m : Mem) : Option (Int × Mem) :=
  some ((-4), m)
def bX8_firstFault_0 (g : Shp) (x0 x1 : Int) (m : Mem) : Option (Int × Mem) :=
  bd2 (fX7_clear g x1 m) fun v1 m2 =>
  vm (ms m2 x0 2 0) fun m4 =>
  bdl (iter (BX8_firstFault_11 g x0 x1) 100000 (0, 0, m4)) fun cv5 sv6 =>
  if cv5 = 1 then
    bX8_firstFault_42 g sv6.2.1 sv6.2.2
  else
    bX8_firstFault_50 g sv6.2.2
def fX8_firstFault (g : Shp) (x0 x1 : Int) (m : Mem) : Option (Int × Mem) := bX8_firstFault_0 g x0 x1 m
def bX9_clear_0 (g : Shp) (x0 : Int) (m : Mem) : Option (Int × Mem) :=
  ck (gk g (m x0 1) = 20) <|
  bd2 (fJ7_fill_53178 g (m x0 1) 0 m) fun v2 m3 =>
  ck (gk g (m3 x0 2) = 20) <|
  bd2 (fJ7_fill_53178 g (m3 x0 2) 0 m3) fun v6 m7 =>
  vm (ms m7 x0 3 0) fun m9 =>
  vm (ms m9 x0 4 0) fun m10 =>
  vm (ms m10 x0 5 0) fun m11 =>
  vm (ms m11 x0 6 0) fun m12 =>
  vm (ms m12 x0 7 0) fun m13 =>
  some (0, m13)
def fX9_clear (g : Shp) (x0 : Int) (m : Mem) : Option (Int × Mem) := bX9_clear_0 g x0 m
def bX10_write_12 (g : Shp) (m : Mem) : Option (Int × Mem) :=
  some ((-1), m)
def bX10_write_0 (g : Shp) (x0 x1 : Int) (m : Mem) : Option (Int × Mem) :=
  if x1 < 32 then
    bX10_write_12 g m
  else
    if x1 ≤ 126 then
      ck (gk g (m x0 0) = 9) <|
      if (m (m x0 0) 3) < 200 then
        bd2 (fX8_append g (m x0 0) (c16 x1) m) fun v5 m6 =>
        ck (gk g (m6 x0 0) = 9) <|
        some (m6 (m6 x0 0) 3, m6)
      else
        some ((-3), m)
    else
      bX10_write_12 g m
def fX10_write (g : Shp) (x0 x1 : Int) (m : Mem) : Option (Int × Mem) := bX10_write_0 g x0 x1 m
def bX10_wipe_0 (g : Shp) (x0 : Int) (m : Mem) : Option (Int × Mem) :=
  ck (gk g (m x0 0) = 9) <|
  vv (m (m x0 0) 3) fun y2 =>
  vm (ms m (m x0 0) 3 0) fun m3 =>
  some (y2, m3)
def fX10_wipe (g : Shp) (x0 : Int) (m : Mem) : Option (Int × Mem) := bX10_wipe_0 g x0 m
def bX10_fault_0 (g : Shp) (x0 : Int) (m : Mem) : Option (Int × Mem) :=
  ck (gk g (m x0 0) = 9) <|
  ck (gk g (m x0 7) = 8) <|
  bd2 (fX8_firstFault g (m x0 0) (m x0 7) m) fun v3 m4 =>
  some (v3, m4)
def fX10_fault (g : Shp) (x0 : Int) (m : Mem) : Option (Int × Mem) := bX10_fault_0 g x0 m
def bX10_forgetAnswers_2 (g : Shp) (x0 x1 : Int) (m : Mem) : Option (Int × (Int × Mem)) :=
  ck (gk g (m x0 5) = 24) <|
  if (gl g (m x0 5)) ≤ x1 then
    some (1, (x1, m))
  else
    ck ((0 : Int) ≤ x1 ∧ x1 < gl g (m x0 5)) <|
    ck (gk g (m (m x0 5) x1) = 10) <|
    vm (ms m (m (m x0 5) x1) 8 0) fun m5 =>
    vv (w32 (x1 + 1)) fun y6 =>
    some (0, (y6, m5))
def BX10_forgetAnswers_2 (g : Shp) (x0 : Int) (q : (Int × Mem)) : Option (Int × (Int × Mem)) := bX10_forgetAnswers_2 g x0 q.1 q.2
def bX10_forgetAnswers_27 (g : Shp) (x0 : Int) (m : Mem) : Option (Int × Mem) :=
  ck (gk g (m x0 4) = 4) <|
  vm (ms m (m x0 4) 8 0) fun m2 =>
  some (0, m2)
def bX10_forgetAnswers_0 (g : Shp) (x0 : Int) (m : Mem) : Option (Int × Mem) :=
  bdl (iter (BX10_forgetAnswers_2 g x0) 100000 (0, m)) fun cv1 sv2 =>
  bX10_forgetAnswers_27 g x0 sv2.2
def fX10_forgetAnswers (g : Shp) (x0 : Int) (m : Mem) : Option (Int × Mem) := bX10_forgetAnswers_0 g x0 m
def bX10_layText_26 (g : Shp) (m : Mem) : Option (Int × Mem) :=
  some ((-2), m)
def bX10_layText_0 (g : Shp) (x0 : Int) (m : Mem) : Option (Int × Mem) :=
  ck (gk g (m x0 0) = 9) <|
  ck (gk g (m x0 7) = 8) <|
  bd2 (fX8_firstFault g (m x0 0) (m x0 7) m) fun v3 m4 =>
  if v3 = ((-4)) then
    ck (gk g (m4 x0 7) = 8) <|
    if (m4 (m4 x0 7) 5) = 0 then
      bX10_layText_26 g m4
    else
      ck (gk g (m4 x0 6) = 8) <|
      vv (m4 x0 6) fun y11 =>
      vm (ms m4 x0 6 (m4 x0 7)) fun m12 =>
      vm (ms m12 x0 7 y11) fun m13 =>
      ck (gk g (m13 x0 2) = 2) <|
      ck (gk g (m13 x0 6) = 8) <|
      bd2 (fX1_begin g (m13 x0 2) (m13 x0 6) m13) fun v16 m17 =>
      ck (gk g (m17 x0 3) = 5) <|
      vm (ms m17 (m17 x0 3) 1 0) fun m20 =>
      bd2 (fX10_forgetAnswers g x0 m20) fun v21 m22 =>
      ck (gk g (m22 x0 6) = 8) <|
      some (m22 (m22 x0 6) 5, m22)
  else
    bX10_layText_26 g m4
def fX10_layText (g : Shp) (x0 : Int) (m : Mem) : Option (Int × Mem) := bX10_layText_0 g x0 m
def bX10_lay_0 (g : Shp) (x0 : Int) (m : Mem) : Option (Int × Mem) :=
  bd2 (fX10_layText g x0 m) fun v1 m2 =>
  some (v1, m2)
def fX10_lay (g : Shp) (x0 : Int) (m : Mem) : Option (Int × Mem) := bX10_lay_0 g x0 m
def bX10_beginChange_0 (g : Shp) (x0 : Int) (m : Mem) : Option (Int × Mem) :=
  ck (gk g (m x0 3) = 5) <|
  ck (gk g (m x0 2) = 2) <|
  bd2 (fX4_keep g (m x0 3) (m x0 2) m) fun v3 m4 =>
  bd2 (fX10_forgetAnswers g x0 m4) fun v6 m7 =>
  some (0, m7)
def fX10_beginChange (g : Shp) (x0 : Int) (m : Mem) : Option (Int × Mem) := bX10_beginChange_0 g x0 m
def bX10_joint_9 (g : Shp) (m : Mem) : Option (Int × Mem) :=
  some ((-1), m)
def bX10_joint_0 (g : Shp) (x0 x1 : Int) (m : Mem) : Option (Int × Mem) :=
  if x1 < 0 then
    bX10_joint_9 g m
  else
    if x1 ≤ 2 then
      ck (gk g (m x0 2) = 2) <|
      if x1 = (m (m x0 2) 7) then
        some ((-2), m)
      else
        bd2 (fX10_beginChange g x0 m) fun v5 m6 =>
        ck (gk g (m6 x0 2) = 2) <|
        vv (m6 (m6 x0 2) 7) fun y9 =>
        vm (ms m6 (m6 x0 2) 7 x1) fun m10 =>
        some (y9, m10)
    else
      bX10_joint_9 g m
def fX10_joint (g : Shp) (x0 x1 : Int) (m : Mem) : Option (Int × Mem) := bX10_joint_0 g x0 x1 m
def bX10_isLine_20 (g : Shp) (z0 : Int) (m : Mem) : Option (Int × Mem) :=
  ck (z0 = 0 ∨ z0 = 1) <|
  some (z0, m)
def bX10_isLine_19 (g : Shp) (m : Mem) : Option (Int × Mem) :=
  bX10_isLine_20 g 0 m
def bX10_isLine_0 (g : Shp) (x0 x1 : Int) (m : Mem) : Option (Int × Mem) :=
  if x1 < 0 then
    bX10_isLine_19 g m
  else
    ck (gk g (m x0 6) = 8) <|
    if (m (m x0 6) 5) ≤ x1 then
      bX10_isLine_19 g m
    else
      bX10_isLine_20 g 1 m
def fX10_isLine (g : Shp) (x0 x1 : Int) (m : Mem) : Option (Int × Mem) := bX10_isLine_0 g x0 x1 m
def bX10_line_0 (g : Shp) (x0 x1 x2 : Int) (m : Mem) : Option (Int × Mem) :=
  bd2 (fX10_isLine g x0 x1 m) fun v1 m2 =>
  if v1 = 0 then
    some ((-1), m2)
  else
    if x2 = 0 then
      ck (gk g (m2 x0 6) = 8) <|
      ck (gk g (m2 (m2 x0 6) 2) = 25) <|
      ck ((0 : Int) ≤ x1 ∧ x1 < gl g (m2 (m2 x0 6) 2)) <|
      ck (gk g (m2 (m2 (m2 x0 6) 2) x1) = 6) <|
      some (m2 (m2 (m2 (m2 x0 6) 2) x1) 3, m2)
    else
      if x2 = 1 then
        ck (gk g (m2 x0 6) = 8) <|
        ck (gk g (m2 (m2 x0 6) 2) = 25) <|
        ck ((0 : Int) ≤ x1 ∧ x1 < gl g (m2 (m2 x0 6) 2)) <|
        ck (gk g (m2 (m2 (m2 x0 6) 2) x1) = 6) <|
        some (m2 (m2 (m2 (m2 x0 6) 2) x1) 2, m2)
      else
        if x2 = 2 then
          ck (gk g (m2 x0 6) = 8) <|
          ck (gk g (m2 (m2 x0 6) 2) = 25) <|
          ck ((0 : Int) ≤ x1 ∧ x1 < gl g (m2 (m2 x0 6) 2)) <|
          ck (gk g (m2 (m2 (m2 x0 6) 2) x1) = 6) <|
          some (w32 ((m2 (m2 (m2 (m2 x0 6) 2) x1) 3) - 1), m2)
        else
          if x2 = 3 then
            ck (gk g (m2 x0 2) = 2) <|
            ck (gk g (m2 (m2 x0 2) 2) = 20) <|
            ck ((0 : Int) ≤ x1 ∧ x1 < gl g (m2 (m2 x0 2) 2)) <|
            some (m2 (m2 (m2 x0 2) 2) x1, m2)
          else
            if x2 = 4 then
              ck (gk g (m2 x0 2) = 2) <|
              ck (gk g (m2 x0 6) = 8) <|
              ck (gk g (m2 (m2 x0 6) 2) = 25) <|
              ck ((0 : Int) ≤ x1 ∧ x1 < gl g (m2 (m2 x0 6) 2)) <|
              ck (gk g (m2 (m2 (m2 x0 6) 2) x1) = 6) <|
              bd2 (fX1_cellsOf g (m2 x0 2) x1 (m2 (m2 (m2 x0 6) 2) x1) m2) fun v31 m32 =>
              some (v31, m32)
            else
              if x2 = 5 then
                ck (gk g (m2 x0 2) = 2) <|
                ck (gk g (m2 (m2 x0 2) 3) = 20) <|
                ck ((0 : Int) ≤ x1 ∧ x1 < gl g (m2 (m2 x0 2) 3)) <|
                some (m2 (m2 (m2 x0 2) 3) x1, m2)
              else
                if x2 = 6 then
                  ck (gk g (m2 x0 2) = 2) <|
                  ck (gk g (m2 (m2 x0 2) 4) = 20) <|
                  ck ((0 : Int) ≤ x1 ∧ x1 < gl g (m2 (m2 x0 2) 4)) <|
                  some (m2 (m2 (m2 x0 2) 4) x1, m2)
                else
                  some ((-1), m2)
def fX10_line (g : Shp) (x0 x1 x2 : Int) (m : Mem) : Option (Int × Mem) := bX10_line_0 g x0 x1 x2 m
def bX10_cell_12 (g : Shp) (m : Mem) : Option (Int × Mem) :=
  some ((-1), m)
def bX10_cell_49 (g : Shp) (z0 : Int) (m : Mem) : Option (Int × Mem) :=
  some (z0, m)
def bX10_cell_0 (g : Shp) (x0 x1 x2 : Int) (m : Mem) : Option (Int × Mem) :=
  bd2 (fX10_isLine g x0 x1 m) fun v1 m2 =>
  if v1 = 0 then
    bX10_cell_12 g m2
  else
    if 0 ≤ x2 then
      ck (gk g (m2 x0 6) = 8) <|
      ck (gk g (m2 (m2 x0 6) 2) = 25) <|
      ck ((0 : Int) ≤ x1 ∧ x1 < gl g (m2 (m2 x0 6) 2)) <|
      ck (gk g (m2 (m2 (m2 x0 6) 2) x1) = 6) <|
      if (m2 (m2 (m2 (m2 x0 6) 2) x1) 2) ≤ x2 then
        bX10_cell_49 g ((-4)) m2
      else
        ck ((0 : Int) ≤ x1 ∧ x1 < gl g (m2 (m2 x0 6) 2)) <|
        ck (gk g (m2 (m2 (m2 x0 6) 2) x1) = 6) <|
        ck (gk g (m2 (m2 (m2 (m2 x0 6) 2) x1) 0) = 20) <|
        ck ((0 : Int) ≤ x2 ∧ x2 < gl g (m2 (m2 (m2 (m2 x0 6) 2) x1) 0)) <|
        bX10_cell_49 g (m2 (m2 (m2 (m2 (m2 x0 6) 2) x1) 0) x2) m2
    else
      bX10_cell_12 g m2
def fX10_cell (g : Shp) (x0 x1 x2 : Int) (m : Mem) : Option (Int × Mem) := bX10_cell_0 g x0 x1 x2 m
def bX10_whose_0 (g : Shp) (x0 x1 x2 : Int) (m : Mem) : Option (Int × Mem) :=
  bd2 (fX10_isOnGround g x1 x2 m) fun v1 m2 =>
  if v1 = 0 then
    some ((-1), m2)
  else
    ck (gk g (m2 x0 2) = 2) <|
    ck (gk g (m2 (m2 x0 2) 0) = 20) <|
    ck ((0 : Int) ≤ (w32 ((w32 (20 * x2)) + x1)) ∧ (w32 ((w32 (20 * x2)) + x1)) < gl g (m2 (m2 x0 2) 0)) <|
    some (m2 (m2 (m2 x0 2) 0) (w32 ((w32 (20 * x2)) + x1)), m2)
def fX10_whose (g : Shp) (x0 x1 x2 : Int) (m : Mem) : Option (Int × Mem) := bX10_whose_0 g x0 x1 x2 m
def bX10_piece_13 (g : Shp) (m : Mem) : Option (Int × Mem) :=
  some ((-1), m)
def bX10_piece_86 (g : Shp) (z0 : Int) (m : Mem) : Option (Int × Mem) :=
  some (z0, m)
def bX10_piece_0 (g : Shp) (x0 x1 x2 : Int) (m : Mem) : Option (Int × Mem) :=
  bd2 (fX10_isLine g x0 x1 m) fun v1 m2 =>
  if v1 = 0 then
    bX10_piece_13 g m2
  else
    if ((-1)) ≤ x2 then
      ck (gk g (m2 x0 2) = 2) <|
      bd2 (fX1_isCovered g (m2 x0 2) x1 m2) fun v8 m9 =>
      if v8 = 0 then
        ck (gk g (m9 x0 1) = 1) <|
        ck (gk g (m9 (m9 x0 1) 0) = 7) <|
        vv (m9 (m9 x0 1) 0) fun y15 =>
        ck (gk g (m9 x0 6) = 8) <|
        ck (gk g (m9 (m9 x0 6) 2) = 25) <|
        ck ((0 : Int) ≤ x1 ∧ x1 < gl g (m9 (m9 x0 6) 2)) <|
        ck (gk g (m9 (m9 (m9 x0 6) 2) x1) = 6) <|
        ck (gk g (m9 x0 2) = 2) <|
        ck (gk g (m9 (m9 x0 2) 0) = 20) <|
        bd2 (fX6_split g y15 (m9 (m9 (m9 x0 6) 2) x1) (m9 (m9 x0 2) 0) m9) fun v22 m23 =>
        if x2 = ((-1)) then
          some (m23 y15 2, m23)
        else
          if (m23 y15 2) ≤ x2 then
            bX10_piece_86 g ((-4)) m23
          else
            ck (gk g (m23 y15 0) = 20) <|
            ck ((0 : Int) ≤ x2 ∧ x2 < gl g (m23 y15 0)) <|
            bX10_piece_86 g (m23 (m23 y15 0) x2) m23
      else
        some ((-2), m9)
    else
      bX10_piece_13 g m2
def fX10_piece (g : Shp) (x0 x1 x2 : Int) (m : Mem) : Option (Int × Mem) := bX10_piece_0 g x0 x1 x2 m
def bX10_takeUp_0 (g : Shp) (x0 x1 : Int) (m : Mem) : Option (Int × Mem) :=
  bd2 (fX10_isLine g x0 x1 m) fun v1 m2 =>
  if v1 = 0 then
    some ((-1), m2)
  else
    ck (gk g (m2 x0 2) = 2) <|
    bd2 (fX1_isCovered g (m2 x0 2) x1 m2) fun v7 m8 =>
    if v7 = 0 then
      some ((-2), m8)
    else
      bd2 (fX10_beginChange g x0 m8) fun v12 m13 =>
      ck (gk g (m13 x0 2) = 2) <|
      ck (gk g (m13 x0 6) = 8) <|
      ck (gk g (m13 (m13 x0 6) 2) = 25) <|
      ck ((0 : Int) ≤ x1 ∧ x1 < gl g (m13 (m13 x0 6) 2)) <|
      ck (gk g (m13 (m13 (m13 x0 6) 2) x1) = 6) <|
      ck (gk g (m13 (m13 x0 6) 0) = 20) <|
      bd2 (fX1_pickUp g (m13 x0 2) x1 (m13 (m13 (m13 x0 6) 2) x1) (m13 (m13 x0 6) 0) m13) fun v21 m22 =>
      some (v21, m22)
def fX10_takeUp (g : Shp) (x0 x1 : Int) (m : Mem) : Option (Int × Mem) := bX10_takeUp_0 g x0 x1 m
def bX10_bag_16 (g : Shp) (m : Mem) : Option (Int × Mem) :=
  some ((-1), m)
def bX10_bag_0 (g : Shp) (x0 x1 x2 : Int) (m : Mem) : Option (Int × Mem) :=
  bd2 (fX10_isColour g x1 m) fun v1 m2 =>
  if v1 = 0 then
    bX10_bag_16 g m2
  else
    if x2 < 0 then
      bX10_bag_16 g m2
    else
      if x2 < 3 then
        ck (gk g (m2 x0 2) = 2) <|
        ck (gk g (m2 (m2 x0 2) 1) = 20) <|
        ck ((0 : Int) ≤ (w32 ((w32 (x1 * 3)) + x2)) ∧ (w32 ((w32 (x1 * 3)) + x2)) < gl g (m2 (m2 x0 2) 1)) <|
        some (m2 (m2 (m2 x0 2) 1) (w32 ((w32 (x1 * 3)) + x2)), m2)
      else
        bX10_bag_16 g m2
def fX10_bag (g : Shp) (x0 x1 x2 : Int) (m : Mem) : Option (Int × Mem) := bX10_bag_0 g x0 x1 x2 m
def bX10_fill_31 (g : Shp) (x0 x1 x2 x3 : Int) (m : Mem) : Option (Int × (Int × Mem)) :=
  if 3 ≤ x3 then
    some (1, (x3, m))
  else
    ck (gk g (m x0 2) = 2) <|
    ck (gk g (m (m x0 2) 1) = 20) <|
    ck ((0 : Int) ≤ (w32 ((w32 (x1 * 3)) + x3)) ∧ (w32 ((w32 (x1 * 3)) + x3)) < gl g (m (m x0 2) 1)) <|
    vm (ms m (m (m x0 2) 1) (w32 ((w32 (x1 * 3)) + x3)) 6) fun m5 =>
    vv (w32 (x3 + 1)) fun y6 =>
    some (0, (y6, m5))
def BX10_fill_31 (g : Shp) (x0 x1 x2 : Int) (q : (Int × Mem)) : Option (Int × (Int × Mem)) := bX10_fill_31 g x0 x1 x2 q.1 q.2
def bX10_fill_57 (g : Shp) (x2 : Int) (m : Mem) : Option (Int × Mem) :=
  some (x2, m)
def bX10_fill_0 (g : Shp) (x0 x1 : Int) (m : Mem) : Option (Int × Mem) :=
  bd2 (fX10_isColour g x1 m) fun v1 m2 =>
  if v1 = 0 then
    some ((-1), m2)
  else
    ck (gk g (m2 x0 2) = 2) <|
    bd2 (fX1_missingIn g (m2 x0 2) x1 m2) fun v7 m8 =>
    if v7 = 0 then
      some ((-2), m8)
    else
      bd2 (fX10_beginChange g x0 m8) fun v12 m13 =>
      bdl (iter (BX10_fill_31 g x0 x1 v7) 100000 (0, m13)) fun cv15 sv16 =>
      bX10_fill_57 g v7 sv16.2
def fX10_fill (g : Shp) (x0 x1 : Int) (m : Mem) : Option (Int × Mem) := bX10_fill_0 g x0 x1 m
def bX10_undo_0 (g : Shp) (x0 : Int) (m : Mem) : Option (Int × Mem) :=
  ck (gk g (m x0 3) = 5) <|
  if (m (m x0 3) 1) = 0 then
    some ((-2), m)
  else
    ck (gk g (m x0 2) = 2) <|
    bd2 (fX4_giveBack g (m x0 3) (m x0 2) m) fun v4 m5 =>
    bd2 (fX10_forgetAnswers g x0 m5) fun v7 m8 =>
    ck (gk g (m8 x0 3) = 5) <|
    some (m8 (m8 x0 3) 1, m8)
def fX10_undo (g : Shp) (x0 : Int) (m : Mem) : Option (Int × Mem) := bX10_undo_0 g x0 m
def bX10_drawn_114 (g : Shp) (x0 x3 x5 : Int) (m : Mem) : Option (Int × (Int × Mem)) :=
  vv (w32 (x5 + 1)) fun y1 =>
  some (0, (y1, m))
def bX10_drawn_74 (g : Shp) (x0 x3 x5 : Int) (m : Mem) : Option (Int × (Int × Mem)) :=
  ck (gk g (m x0 6) = 8) <|
  if (m (m x0 6) 5) ≤ x5 then
    some (2, (x5, m))
  else
    ck (gk g (m x0 2) = 2) <|
    bd2 (fX1_isCovered g (m x0 2) x5 m) fun v4 m5 =>
    if v4 = 0 then
      ck (gk g (m5 x0 6) = 8) <|
      bd2 (fX7_goesOver g (m5 x0 6) x5 x3 m5) fun v10 m11 =>
      if v10 = 0 then
        bX10_drawn_114 g x0 x3 x5 m11
      else
        some (1, (x5, m11))
    else
      bX10_drawn_114 g x0 x3 x5 m5
def BX10_drawn_74 (g : Shp) (x0 x3 : Int) (q : (Int × Mem)) : Option (Int × (Int × Mem)) := bX10_drawn_74 g x0 x3 q.1 q.2
def bX10_drawn_11 (g : Shp) (m : Mem) : Option (Int × Mem) :=
  some ((-1), m)
def bX10_drawn_111 (g : Shp) (m : Mem) : Option (Int × Mem) :=
  some (43, m)
def bX10_drawn_120 (g : Shp) (m : Mem) : Option (Int × Mem) :=
  some (46, m)
def bX10_drawn_0 (g : Shp) (x0 x1 : Int) (m : Mem) : Option (Int × Mem) :=
  if x1 < 0 then
    bX10_drawn_11 g m
  else
    if x1 < 420 then
      vv (jrem x1 21) fun y3 =>
      if y3 = 20 then
        some (47, m)
      else
        vv (w32 ((w32 (20 * (jdiv x1 21))) + y3)) fun y5 =>
        ck (gk g (m x0 2) = 2) <|
        ck (gk g (m (m x0 2) 0) = 20) <|
        ck ((0 : Int) ≤ y5 ∧ y5 < gl g (m (m x0 2) 0)) <|
        vv (m (m (m x0 2) 0) y5) fun y9 =>
        bd2 (fX10_isLine g x0 y9 m) fun v10 m11 =>
        if v10 = 0 then
          bdl (iter (BX10_drawn_74 g x0 y5) 100000 (0, m11)) fun cv15 sv16 =>
          if cv15 = 1 then
            bX10_drawn_111 g sv16.2
          else
            bX10_drawn_120 g sv16.2
        else
          ck (gk g (m11 x0 2) = 2) <|
          ck (gk g (m11 (m11 x0 2) 2) = 20) <|
          ck ((0 : Int) ≤ y9 ∧ y9 < gl g (m11 (m11 x0 2) 2)) <|
          some (w32 (97 + (m11 (m11 (m11 x0 2) 2) y9)), m11)
    else
      bX10_drawn_11 g m
def fX10_drawn (g : Shp) (x0 x1 : Int) (m : Mem) : Option (Int × Mem) := bX10_drawn_0 g x0 x1 m
set_option maxRecDepth 20000 in
theorem wX8_readItem_89 {p : Program} {l : Launch} {e : Env} {s : State} {mt : MethodId} {args : Array Value} {below : List Frame} {meth : Method} {c : Code} {Q : State → Prop} {G : Gl} {A : Nat → Prop} {H0 : Heap} {ad : Int → Nat} {g : Shp} {H : Heap} {locs : List Loc} {ls : Array Slot} {m : Mem} {z0 : Int} (C : CallFix p mt c cX8_readItem 3 s args tb RX8) (S : Wd G A s H0 ad g m H locs) (hz0 : r32 z0) (hl : lv_has ls 3 []) {r : Int} {m' : Mem} (hF : bX8_readItem_89 g z0 m = some (r, m')) (Kr : ∀ (H : Heap) (locs : List Loc) (pc : Nat) (ls : Array Slot), Wd G A s H0 ad g m' H locs → decode cX8_readItem pc = .ok (.ireturn, 1) → r32 r ∧ (true = true → r = 0 ∨ r = 1) → narrow .boolean (.int (iI r)) = .int (iI r) → W p l e rX8_readItem s mt args below meth c H locs 0 0 Q (F0 mt pc ls [.int (iI r)])) : W p l e rX8_readItem s mt args below meth c H locs 0 0 Q (F0 mt 89 ls [.int (iI z0)]) := by
  unfold bX8_readItem_89 at hF
  obtain ⟨b1, hF⟩ := ck_ok hF
  cases hF
  exact Kr _ _ _ _ S dX8_readItem_89 ⟨r_b b1, fun _ => b1⟩ (nr_b b1)
set_option maxRecDepth 20000 in
theorem wX8_readItem_88 {p : Program} {l : Launch} {e : Env} {s : State} {mt : MethodId} {args : Array Value} {below : List Frame} {meth : Method} {c : Code} {Q : State → Prop} {G : Gl} {A : Nat → Prop} {H0 : Heap} {ad : Int → Nat} {g : Shp} {H : Heap} {locs : List Loc} {ls : Array Slot} {m : Mem} (C : CallFix p mt c cX8_readItem 3 s args tb RX8) (S : Wd G A s H0 ad g m H locs)  (hl : lv_has ls 3 []) {r : Int} {m' : Mem} (hF : bX8_readItem_88 g m = some (r, m')) (Kr : ∀ (H : Heap) (locs : List Loc) (pc : Nat) (ls : Array Slot), Wd G A s H0 ad g m' H locs → decode cX8_readItem pc = .ok (.ireturn, 1) → r32 r ∧ (true = true → r = 0 ∨ r = 1) → narrow .boolean (.int (iI r)) = .int (iI r) → W p l e rX8_readItem s mt args below meth c H locs 0 0 Q (F0 mt pc ls [.int (iI r)])) : W p l e rX8_readItem s mt args below meth c H locs 0 0 Q (F0 mt 88 ls []) := by
  unfold bX8_readItem_88 at hF
  refine q_iconst C 0 dX8_readItem_88 ?_
  exact wX8_readItem_89 C S (rl 0 rfl) (lv_sub hl [] rfl) hF Kr
set_option maxRecDepth 20000 in
theorem wX8_readItem_71 {p : Program} {l : Launch} {e : Env} {s : State} {mt : MethodId} {args : Array Value} {below : List Frame} {meth : Method} {c : Code} {Q : State → Prop} {G : Gl} {A : Nat → Prop} {H0 : Heap} {ad : Int → Nat} {g : Shp} {H : Heap} {locs : List Loc} {ls : Array Slot} {m : Mem} {x0 x2 : Int} (C : CallFix p mt c cX8_readItem 3 s args tb RX8) (S : Wd G A s H0 ad g m H locs) (hx0 : gk g x0 = 9) (hx2 : r32 x2) (hl : lv_has ls 3 [(0, .ref (ad x0)), (2, .int (iI x2))]) {r : Int} {m' : Mem} (hF : bX8_readItem_71 g x0 x2 m = some (r, m')) (Kr : ∀ (H : Heap) (locs : List Loc) (pc : Nat) (ls : Array Slot), Wd G A s H0 ad g m' H locs → decode cX8_readItem pc = .ok (.ireturn, 1) → r32 r ∧ (true = true → r = 0 ∨ r = 1) → narrow .boolean (.int (iI r)) = .int (iI r) → W p l e rX8_readItem s mt args below meth c H locs 0 0 Q (F0 mt pc ls [.int (iI r)])) : W p l e rX8_readItem s mt args below meth c H locs 0 0 Q (F0 mt 71 ls []) := by
  unfold bX8_readItem_71 at hF
  refine q_iload_n C hl 1 rfl rfl dX8_readItem_71 ?_
  refine q_if_eq C hx2 88 dX8_readItem_72 (by decide) (fun hc1 => ?_) (fun hc1 => ?_)
  · have hF := if_t hc1 hF
    exact wX8_readItem_88 C S  (lv_sub hl [] rfl) hF Kr
  · have hF := if_f hc1 hF
    refine q_aload_n C hl 0 rfl rfl dX8_readItem_75 ?_
    refine q_bipush C 59 (by decide) dX8_readItem_76 ?_
    obtain ⟨v2, m3, h4, hF⟩ := bd2_ok hF
    refine q_ci S (run_V (As := [.int (iI 59)]) (rest := []) C S (cX8_take_ok l G hx0 (rl 59 rfl) h4 ad _) hx0 ⟨by decide, _, _, rfl⟩ gd_RX8_35 hdV_X8_take rfl ⟨rfl, rfl, by decide, by decide⟩ ⟨Nat.zero_le _, Nat.zero_le _⟩ hl.1 rfl (Nat.le_of_ble_eq_true rfl) dX8_readItem_78) (fun H locs Sm3 h5 => ?_)
    refine q_if_eq C h5.1 88 dX8_readItem_81 (by decide) (fun hc6 => ?_) (fun hc6 => ?_)
    · have hF := if_t hc6 hF
      exact wX8_readItem_88 C Sm3  (lv_sub hl [] rfl) hF Kr
    · have hF := if_f hc6 hF
      refine q_iconst C 1 dX8_readItem_84 ?_
      refine q_goto C 89 dX8_readItem_85 (by decide) ?_
      exact wX8_readItem_89 C Sm3 (rl 1 rfl) (lv_sub hl [] rfl) hF Kr
set_option maxRecDepth 20000 in
theorem wX8_readItem_0 {p : Program} {l : Launch} {e : Env} {s : State} {mt : MethodId} {args : Array Value} {below : List Frame} {meth : Method} {c : Code} {Q : State → Prop} {G : Gl} {A : Nat → Prop} {H0 : Heap} {ad : Int → Nat} {g : Shp} {H : Heap} {locs : List Loc} {ls : Array Slot} {m : Mem} {x0 x1 : Int} (C : CallFix p mt c cX8_readItem 3 s args tb RX8) (S : Wd G A s H0 ad g m H locs) (hx0 : gk g x0 = 9) (hx1 : gk g x1 = 8) (hl : lv_has ls 3 [(0, .ref (ad x0)), (1, .ref (ad x1))]) {r : Int} {m' : Mem} (hF : bX8_readItem_0 g x0 x1 m = some (r, m')) (Kr : ∀ (H : Heap) (locs : List Loc) (pc : Nat) (ls : Array Slot), Wd G A s H0 ad g m' H locs → decode cX8_readItem pc = .ok (.ireturn, 1) → r32 r ∧ (true = true → r = 0 ∨ r = 1) → narrow .boolean (.int (iI r)) = .int (iI r) → W p l e rX8_readItem s mt args below meth c H locs 0 0 Q (F0 mt pc ls [.int (iI r)])) : W p l e rX8_readItem s mt args below meth c H locs 0 0 Q (F0 mt 0 ls []) := by
  unfold bX8_readItem_0 at hF
  refine q_iconst C 0 dX8_readItem_0 ?_
  refine q_istore_n C hl [(2, .int (iI 0)), (0, .ref (ad x0)), (1, .ref (ad x1))] rfl rfl (by decide) rfl dX8_readItem_1 (fun ls hl => ?_)
  refine q_aload_n C hl 1 rfl rfl dX8_readItem_2 ?_
  refine q_bipush C 122 (by decide) dX8_readItem_3 ?_
  obtain ⟨v1, m2, h3, hF⟩ := bd2_ok hF
  refine q_ci S (run_V (As := [.int (iI 122)]) (rest := []) C S (cX8_take_ok l G hx0 (rl 122 rfl) h3 ad _) hx0 ⟨by decide, _, _, rfl⟩ gd_RX8_35 hdV_X8_take rfl ⟨rfl, rfl, by decide, by decide⟩ ⟨Nat.zero_le _, Nat.zero_le _⟩ hl.1 rfl (Nat.le_of_ble_eq_true rfl) dX8_readItem_5) (fun H locs Sm2 h4 => ?_)
  refine q_if_eq C h4.1 20 dX8_readItem_8 (by decide) (fun hc5 => ?_) (fun hc5 => ?_)
  · have hF := if_t hc5 hF
    refine q_aload_n C hl 1 rfl rfl dX8_readItem_20 ?_
    refine q_bipush C 106 (by decide) dX8_readItem_21 ?_
    obtain ⟨v6, m7, h8, hF⟩ := bd2_ok hF
    refine q_ci Sm2 (run_V (As := [.int (iI 106)]) (rest := []) C Sm2 (cX8_take_ok l G hx0 (rl 106 rfl) h8 ad _) hx0 ⟨by decide, _, _, rfl⟩ gd_RX8_35 hdV_X8_take rfl ⟨rfl, rfl, by decide, by decide⟩ ⟨Nat.zero_le _, Nat.zero_le _⟩ hl.1 rfl (Nat.le_of_ble_eq_true rfl) dX8_readItem_23) (fun H locs Sm7 h9 => ?_)
    refine q_if_eq C h9.1 38 dX8_readItem_26 (by decide) (fun hc10 => ?_) (fun hc10 => ?_)
    · have hF := if_t hc10 hF
      refine q_aload_n C hl 1 rfl rfl dX8_readItem_38 ?_
      refine q_bipush C 98 (by decide) dX8_readItem_39 ?_
      obtain ⟨v11, m12, h13, hF⟩ := bd2_ok hF
      refine q_ci Sm7 (run_V (As := [.int (iI 98)]) (rest := []) C Sm7 (cX8_take_ok l G hx0 (rl 98 rfl) h13 ad _) hx0 ⟨by decide, _, _, rfl⟩ gd_RX8_35 hdV_X8_take rfl ⟨rfl, rfl, by decide, by decide⟩ ⟨Nat.zero_le _, Nat.zero_le _⟩ hl.1 rfl (Nat.le_of_ble_eq_true rfl) dX8_readItem_41) (fun H locs Sm12 h14 => ?_)
      refine q_if_eq C h14.1 56 dX8_readItem_44 (by decide) (fun hc15 => ?_) (fun hc15 => ?_)
      · have hF := if_t hc15 hF
        refine q_aload_n C hl 1 rfl rfl dX8_readItem_56 ?_
        refine q_bipush C 108 (by decide) dX8_readItem_57 ?_
        obtain ⟨v16, m17, h18, hF⟩ := bd2_ok hF
        refine q_ci Sm12 (run_V (As := [.int (iI 108)]) (rest := []) C Sm12 (cX8_take_ok l G hx0 (rl 108 rfl) h18 ad _) hx0 ⟨by decide, _, _, rfl⟩ gd_RX8_35 hdV_X8_take rfl ⟨rfl, rfl, by decide, by decide⟩ ⟨Nat.zero_le _, Nat.zero_le _⟩ hl.1 rfl (Nat.le_of_ble_eq_true rfl) dX8_readItem_59) (fun H locs Sm17 h19 => ?_)
        refine q_if_eq C h19.1 71 dX8_readItem_62 (by decide) (fun hc20 => ?_) (fun hc20 => ?_)
        · have hF := if_t hc20 hF
          exact wX8_readItem_71 C Sm17 hx0 (rl 0 rfl) (lv_sub hl [1, 0] rfl) hF Kr
        · have hF := if_f hc20 hF
          refine q_aload_n C hl 1 rfl rfl dX8_readItem_65 ?_
          refine q_aload_n C hl 2 rfl rfl dX8_readItem_66 ?_
          obtain ⟨v21, m22, h23, hF⟩ := bd2_ok hF
          refine q_ci Sm17 (run_V (As := [.ref (ad x1)]) (rest := []) C Sm17 (cX8_readLine_ok l G hx0 hx1 h23 ad _) hx0 ⟨by decide, _, _, rfl⟩ gd_RX8_48 hdV_X8_readLine rfl ⟨rfl, rfl, by decide, by decide⟩ ⟨Nat.zero_le _, Nat.zero_le _⟩ hl.1 rfl (Nat.le_of_ble_eq_true rfl) dX8_readItem_67) (fun H locs Sm22 h24 => ?_)
          refine q_istore_n C hl [(2, .int (iI v21)), (0, .ref (ad x0)), (1, .ref (ad x1))] rfl rfl (by decide) rfl dX8_readItem_70 (fun ls hl => ?_)
          exact wX8_readItem_71 C Sm22 hx0 h24.1 (lv_sub hl [1, 0] rfl) hF Kr
      · have hF := if_f hc15 hF
        refine q_aload_n C hl 1 rfl rfl dX8_readItem_47 ?_
        refine q_aload_n C hl 2 rfl rfl dX8_readItem_48 ?_
        obtain ⟨v25, m26, h27, hF⟩ := bd2_ok hF
        refine q_ci Sm12 (run_V (As := [.ref (ad x1)]) (rest := []) C Sm12 (cX8_readBag_ok l G hx0 hx1 h27 ad _) hx0 ⟨by decide, _, _, rfl⟩ gd_RX8_45 hdV_X8_readBag rfl ⟨rfl, rfl, by decide, by decide⟩ ⟨Nat.zero_le _, Nat.zero_le _⟩ hl.1 rfl (Nat.le_of_ble_eq_true rfl) dX8_readItem_49) (fun H locs Sm26 h28 => ?_)
        refine q_istore_n C hl [(2, .int (iI v25)), (0, .ref (ad x0)), (1, .ref (ad x1))] rfl rfl (by decide) rfl dX8_readItem_52 (fun ls hl => ?_)
        refine q_goto C 71 dX8_readItem_53 (by decide) ?_
        exact wX8_readItem_71 C Sm26 hx0 h28.1 (lv_sub hl [1, 0] rfl) hF Kr
    · have hF := if_f hc10 hF
      refine q_aload_n C hl 1 rfl rfl dX8_readItem_29 ?_
      refine q_aload_n C hl 2 rfl rfl dX8_readItem_30 ?_
      obtain ⟨v29, m30, h31, hF⟩ := bd2_ok hF
      refine q_ci Sm7 (run_V (As := [.ref (ad x1)]) (rest := []) C Sm7 (cX8_readJoint_ok l G hx0 hx1 h31 ad _) hx0 ⟨by decide, _, _, rfl⟩ gd_RX8_42 hdV_X8_readJoint rfl ⟨rfl, rfl, by decide, by decide⟩ ⟨Nat.zero_le _, Nat.zero_le _⟩ hl.1 rfl (Nat.le_of_ble_eq_true rfl) dX8_readItem_31) (fun H locs Sm30 h32 => ?_)
      refine q_istore_n C hl [(2, .int (iI v29)), (0, .ref (ad x0)), (1, .ref (ad x1))] rfl rfl (by decide) rfl dX8_readItem_34 (fun ls hl => ?_)
      refine q_goto C 71 dX8_readItem_35 (by decide) ?_
      exact wX8_readItem_71 C Sm30 hx0 h32.1 (lv_sub hl [1, 0] rfl) hF Kr
  · have hF := if_f hc5 hF
    refine q_aload_n C hl 1 rfl rfl dX8_readItem_11 ?_
    refine q_aload_n C hl 2 rfl rfl dX8_readItem_12 ?_
    obtain ⟨v33, m34, h35, hF⟩ := bd2_ok hF
    refine q_ci Sm2 (run_V (As := [.ref (ad x1)]) (rest := []) C Sm2 (cX8_readSizes_ok l G hx0 hx1 h35 ad _) hx0 ⟨by decide, _, _, rfl⟩ gd_RX8_39 hdV_X8_readSizes rfl ⟨rfl, rfl, by decide, by decide⟩ ⟨Nat.zero_le _, Nat.zero_le _⟩ hl.1 rfl (Nat.le_of_ble_eq_true rfl) dX8_readItem_13) (fun H locs Sm34 h36 => ?_)
    refine q_istore_n C hl [(2, .int (iI v33)), (0, .ref (ad x0)), (1, .ref (ad x1))] rfl rfl (by decide) rfl dX8_readItem_16 (fun ls hl => ?_)
    refine q_goto C 71 dX8_readItem_17 (by decide) ?_
    exact wX8_readItem_71 C Sm34 hx0 h36.1 (lv_sub hl [1, 0] rfl) hF Kr
theorem cX8_readItem_ok (l : Launch) (G : Gl) {g : Shp} {x0 x1 : Int} {m m' : Mem} {r : Int} (hx0 : gk g x0 = 9) (hx1 : gk g x1 = 8) (hF : fX8_readItem g x0 x1 m = some (r, m')) : mI l yX8_readItem (wT yX8_readItem cX8_readItem 3 (some .boolean)) rX8_readItem G true (fun ad => [.ref (ad x0), .ref (ad x1)]) g m r m' :=
  met_i (by decide) (fun ad => Nat.le_of_ble_eq_true rfl) (fun p e s mt args below meth c Q A H0 H locs ad ls C hnm S hl Kr => wX8_readItem_0 C S hx0 hx1 hl hF Kr)
set_option maxRecDepth 20000 in
theorem wX8_firstFault_11 {p : Program} {l : Launch} {e : Env} {s : State} {mt : MethodId} {args : Array Value} {below : List Frame} {meth : Method} {c : Code} {Q : State → Prop} {G : Gl} {A : Nat → Prop} {H0 : Heap} {ad : Int → Nat} {g : Shp} {H : Heap} {locs : List Loc} {ls : Array Slot} {m : Mem} {x0 x1 x2 : Int} (C : CallFix p mt c cX8_firstFault 4 s args tb RX8) (S : Wd G A s H0 ad g m H locs) (hx0 : gk g x0 = 9) (hx1 : gk g x1 = 8) (hx2 : r32 x2) (hl : lv_has ls 4 [(0, .ref (ad x0)), (1, .ref (ad x1)), (2, .int (iI x2))]) {c1 : Int} {s1 : (Int × Int × Mem)} (hF : bX8_firstFault_11 g x0 x1 x2 m = some (c1, s1)) (K0 : c1 = 0 → ∀ (H : Heap) (locs : List Loc) (ls : Array Slot), r32 s1.1 → Wd G A s H0 ad g s1.2.2 H locs → lv_has ls 4 [(0, .ref (ad x0)), (1, .ref (ad x1)), (2, .int (iI s1.1))] → W p l e rX8_firstFault s mt args below meth c H locs 0 0 Q (F0 mt 11 ls [])) (K1 : c1 = 1 → ∀ (H : Heap) (locs : List Loc) (ls : Array Slot), r32 s1.2.1 → Wd G A s H0 ad g s1.2.2 H locs → lv_has ls 4 [(3, .int (iI s1.2.1))] → W p l e rX8_firstFault s mt args below meth c H locs 0 0 Q (F0 mt 42 ls [])) (K2 : c1 = 2 → ∀ (H : Heap) (locs : List Loc) (ls : Array Slot), Wd G A s H0 ad g s1.2.2 H locs → lv_has ls 4 [] → W p l e rX8_firstFault s mt args below meth c H locs 0 0 Q (F0 mt 50 ls [])) : W p l e rX8_firstFault s mt args below meth c H locs 0 0 Q (F0 mt 11 ls []) := by
  unfold bX8_firstFault_11 at hF
  refine q_iload_n C hl 2 rfl rfl dX8_firstFault_11 ?_
  refine q_sipush C 200 (by decide) dX8_firstFault_12 ?_
  refine q_icmp_ge C hx2 (rl 200 rfl) 50 dX8_firstFault_15 (by decide) (fun hc1 => ?_) (fun hc1 => ?_)
  · have hF := if_t hc1 hF
    cases hF
    exact K2 rfl _ _ _  S (lv_sub hl [] rfl)
  · have hF := if_f hc1 hF
    refine q_aload_n C hl 0 rfl rfl dX8_firstFault_18 ?_
    refine q_geti C S 2 fo_RX8_28 (j := 2) rfl rfl hx0 dX8_firstFault_19 ?_
    refine q_aload_n C hl 0 rfl rfl dX8_firstFault_22 ?_
    refine q_geti C S 3 fo_RX8_19 (j := 3) rfl rfl hx0 dX8_firstFault_23 ?_
    refine q_icmp_ge C (S.r _ _) (S.r _ _) 50 dX8_firstFault_26 (by decide) (fun hc2 => ?_) (fun hc2 => ?_)
    · have hF := if_t hc2 hF
      cases hF
      exact K2 rfl _ _ _  S (lv_sub hl [] rfl)
    · have hF := if_f hc2 hF
      refine q_aload_n C hl 0 rfl rfl dX8_firstFault_29 ?_
      refine q_geti C S 2 fo_RX8_28 (j := 2) rfl rfl hx0 dX8_firstFault_30 ?_
      obtain ⟨y3, ey3, hF⟩ := vv_ok hF
      have ry3 : r32 y3 := ey3 ▸ (S.r _ _)
      refine q_istore_n C hl [(3, .int (iI y3)), (0, .ref (ad x0)), (1, .ref (ad x1)), (2, .int (iI x2))] ey3 rfl (by decide) rfl dX8_firstFault_33 (fun ls hl => ?_)
      refine q_aload_n C hl 1 rfl rfl dX8_firstFault_34 ?_
      refine q_aload_n C hl 2 rfl rfl dX8_firstFault_35 ?_
      obtain ⟨v4, m5, h6, hF⟩ := bd2_ok hF
      refine q_ci S (run_V (As := [.ref (ad x1)]) (rest := []) C S (cX8_readItem_ok l G hx0 hx1 h6 ad _) hx0 ⟨by decide, _, _, rfl⟩ gd_RX8_31 hdV_X8_readItem rfl ⟨rfl, rfl, by decide, by decide⟩ ⟨Nat.zero_le _, Nat.zero_le _⟩ hl.1 rfl (Nat.le_of_ble_eq_true rfl) dX8_firstFault_36) (fun H locs Sm5 h7 => ?_)
      refine q_if_ne C h7.1 44 dX8_firstFault_39 (by decide) (fun hc8 => ?_) (fun hc8 => ?_)
      · have hF := if_t hc8 hF
        cases hF
        exact K1 rfl _ _ _ ry3 Sm5 (lv_sub hl [0] rfl)
      · have hF := if_f hc8 hF
        obtain ⟨y9, ey9, hF⟩ := vv_ok hF
        have ry9 : r32 y9 := ey9 ▸ r32_w _
        refine q_iinc C hl 3 [(2, .int (iI y9)), (3, .int (iI y3)), (0, .ref (ad x0)), (1, .ref (ad x1))] rfl ey9 (by decide) rfl dX8_firstFault_44 (fun ls hl => ?_)
        refine q_goto C 11 dX8_firstFault_47 (by decide) ?_
        cases hF
        exact K0 rfl _ _ _ ry9 Sm5 (lv_sub hl [2, 3, 0] rfl)
set_option maxRecDepth 20000 in
theorem lX8_firstFault_11 {p : Program} {l : Launch} {e : Env} {s : State} {mt : MethodId} {args : Array Value} {below : List Frame} {meth : Method} {c : Code} {Q : State → Prop} {G : Gl} {A : Nat → Prop} {H0 : Heap} {ad : Int → Nat} {g : Shp} {x0 x1 : Int} (C : CallFix p mt c cX8_firstFault 4 s args tb RX8) (hx0 : gk g x0 = 9) (hx1 : gk g x1 = 8) {n : Nat} {s0 s1 : (Int × Int × Mem)} {c1 : Int} (hI : iter (BX8_firstFault_11 g x0 x1) n s0 = some (c1, s1)) (K1 : c1 = 1 → ∀ (H : Heap) (locs : List Loc) (ls : Array Slot), r32 s1.2.1 → Wd G A s H0 ad g s1.2.2 H locs → lv_has ls 4 [(3, .int (iI s1.2.1))] → W p l e rX8_firstFault s mt args below meth c H locs 0 0 Q (F0 mt 42 ls [])) (K2 : c1 = 2 → ∀ (H : Heap) (locs : List Loc) (ls : Array Slot), Wd G A s H0 ad g s1.2.2 H locs → lv_has ls 4 [] → W p l e rX8_firstFault s mt args below meth c H locs 0 0 Q (F0 mt 50 ls [])) : ∀ (H : Heap) (locs : List Loc) (ls : Array Slot), r32 s0.1 → Wd G A s H0 ad g s0.2.2 H locs → lv_has ls 4 [(0, .ref (ad x0)), (1, .ref (ad x1)), (2, .int (iI s0.1))] → W p l e rX8_firstFault s mt args below meth c H locs 0 0 Q (F0 mt 11 ls []) :=
  iter_W (Pw := fun q => ∀ (H : Heap) (locs : List Loc) (ls : Array Slot), r32 q.1 → Wd G A s H0 ad g q.2.2 H locs → lv_has ls 4 [(0, .ref (ad x0)), (1, .ref (ad x1)), (2, .int (iI q.1))] → W p l e rX8_firstFault s mt args below meth c H locs 0 0 Q (F0 mt 11 ls [])) (Px := fun c0 q => (c0 = 1 → ∀ (H : Heap) (locs : List Loc) (ls : Array Slot), r32 q.2.1 → Wd G A s H0 ad g q.2.2 H locs → lv_has ls 4 [(3, .int (iI q.2.1))] → W p l e rX8_firstFault s mt args below meth c H locs 0 0 Q (F0 mt 42 ls [])) ∧ (c0 = 2 → ∀ (H : Heap) (locs : List Loc) (ls : Array Slot), Wd G A s H0 ad g q.2.2 H locs → lv_has ls 4 [] → W p l e rX8_firstFault s mt args below meth c H locs 0 0 Q (F0 mt 50 ls [])))
    (fun s c s' hB K0 kx H locs ls f0 S hl => wX8_firstFault_11 C S hx0 hx1 f0 hl hB K0 (fun h9 => (kx (by rw [h9]; decide)).1 h9) (fun h9 => (kx (by rw [h9]; decide)).2 h9)) _ _ _ _ hI ⟨K1, K2⟩
set_option maxRecDepth 20000 in
theorem wX8_firstFault_42 {p : Program} {l : Launch} {e : Env} {s : State} {mt : MethodId} {args : Array Value} {below : List Frame} {meth : Method} {c : Code} {Q : State → Prop} {G : Gl} {A : Nat → Prop} {H0 : Heap} {ad : Int → Nat} {g : Shp} {H : Heap} {locs : List Loc} {ls : Array Slot} {m : Mem} {x3 : Int} (C : CallFix p mt c cX8_firstFault 4 s args tb RX8) (S : Wd G A s H0 ad g m H locs) (hx3 : r32 x3) (hl : lv_has ls 4 [(3, .int (iI x3))]) {r : Int} {m' : Mem} (hF : bX8_firstFault_42 g x3 m = some (r, m')) (Kr : ∀ (H : Heap) (locs : List Loc) (pc : Nat) (ls : Array Slot), Wd G A s H0 ad g m' H locs → decode cX8_firstFault pc = .ok (.ireturn, 1) → r32 r ∧ (false = true → r = 0 ∨ r = 1) → narrow .int (.int (iI r)) = .int (iI r) → W p l e rX8_firstFault s mt args below meth c H locs 0 0 Q (F0 mt pc ls [.int (iI r)])) : W p l e rX8_firstFault s mt args below meth c H locs 0 0 Q (F0 mt 42 ls []) := by
  unfold bX8_firstFault_42 at hF
  refine q_iload_n C hl 0 rfl rfl dX8_firstFault_42 ?_
  cases hF
  exact Kr _ _ _ _ S dX8_firstFault_43 ⟨hx3, fun h9 => absurd h9 (by decide)⟩ rfl
set_option maxRecDepth 20000 in
theorem wX8_firstFault_50 {p : Program} {l : Launch} {e : Env} {s : State} {mt : MethodId} {args : Array Value} {below : List Frame} {meth : Method} {c : Code} {Q : State → Prop} {G : Gl} {A : Nat → Prop} {H0 : Heap} {ad : Int → Nat} {g : Shp} {H : Heap} {locs : List Loc} {ls : Array Slot} {m : Mem} (C : CallFix p mt c cX8_firstFault 4 s args tb RX8) (S : Wd G A s H0 ad g m H locs)  (hl : lv_has ls 4 []) {r : Int} {m' : Mem} (hF : bX8_firstFault_50 g m = some (r, m')) (Kr : ∀ (H : Heap) (locs : List Loc) (pc : Nat) (ls : Array Slot), Wd G A s H0 ad g m' H locs → decode cX8_firstFault pc = .ok (.ireturn, 1) → r32 r ∧ (false = true → r = 0 ∨ r = 1) → narrow .int (.int (iI r)) = .int (iI r) → W p l e rX8_firstFault s mt args below meth c H locs 0 0 Q (F0 mt pc ls [.int (iI r)])) : W p l e rX8_firstFault s mt args below meth c H locs 0 0 Q (F0 mt 50 ls []) := by
  unfold bX8_firstFault_50 at hF
  refine q_bipush C (-4) (by decide) dX8_firstFault_50 ?_
  cases hF
  exact Kr _ _ _ _ S dX8_firstFault_52 ⟨(rl (-4) rfl), fun h9 => absurd h9 (by decide)⟩ rfl
set_option maxRecDepth 20000 in
theorem wX8_firstFault_0 {p : Program} {l : Launch} {e : Env} {s : State} {mt : MethodId} {args : Array Value} {below : List Frame} {meth : Method} {c : Code} {Q : State → Prop} {G : Gl} {A : Nat → Prop} {H0 : Heap} {ad : Int → Nat} {g : Shp} {H : Heap} {locs : List Loc} {ls : Array Slot} {m : Mem} {x0 x1 : Int} (C : CallFix p mt c cX8_firstFault 4 s args tb RX8) (S : Wd G A s H0 ad g m H locs) (hx0 : gk g x0 = 9) (hx1 : gk g x1 = 8) (hl : lv_has ls 4 [(0, .ref (ad x0)), (1, .ref (ad x1))]) {r : Int} {m' : Mem} (hF : bX8_firstFault_0 g x0 x1 m = some (r, m')) (Kr : ∀ (H : Heap) (locs : List Loc) (pc : Nat) (ls : Array Slot), Wd G A s H0 ad g m' H locs → decode cX8_firstFault pc = .ok (.ireturn, 1) → r32 r ∧ (false = true → r = 0 ∨ r = 1) → narrow .int (.int (iI r)) = .int (iI r) → W p l e rX8_firstFault s mt args below meth c H locs 0 0 Q (F0 mt pc ls [.int (iI r)])) : W p l e rX8_firstFault s mt args below meth c H locs 0 0 Q (F0 mt 0 ls []) := by
  unfold bX8_firstFault_0 at hF
  refine q_aload_n C hl 1 rfl rfl dX8_firstFault_0 ?_
  obtain ⟨v1, m2, h3, hF⟩ := bd2_ok hF
  refine q_cv S (run_V (As := []) (rest := []) C S (cX7_clear_ok l G hx1 h3 ad _) hx1 ⟨by decide, _, _, rfl⟩ gd_RX8_23 hdV_X7_clear rfl ⟨rfl, rfl, by decide, by decide⟩ ⟨Nat.zero_le _, Nat.zero_le _⟩ hl.1 rfl (Nat.le_of_ble_eq_true rfl) dX8_firstFault_1) (fun H locs Sm2 => ?_)
  refine q_aload_n C hl 0 rfl rfl dX8_firstFault_4 ?_
  refine q_iconst C 0 dX8_firstFault_5 ?_
  obtain ⟨m4, em4, hF⟩ := vm_ok hF
  refine q_put C Sm2 2 fo_RX8_28 fp_9_2 (fun h9 => absurd h9 (by decide)) (j := 2) rfl hx0 rfl rfl rfl (rl 0 rfl) (fun h9 => absurd h9 (by decide)) em4 dX8_firstFault_6 (fun H locs Sm4 => ?_)
  refine q_iconst C 0 dX8_firstFault_9 ?_
  refine q_istore_n C hl [(2, .int (iI 0)), (0, .ref (ad x0)), (1, .ref (ad x1))] rfl rfl (by decide) rfl dX8_firstFault_10 (fun ls hl => ?_)
  obtain ⟨cv5, sv6, hi7, hF⟩ := bdl_ok hF
  refine lX8_firstFault_11 C hx0 hx1 hi7 ?_ ?_ _ _ _ (rl 0 rfl) Sm4 (lv_sub hl [1, 2, 0] rfl)
  · intro hc8 H locs ls f10 S9 hl
    have hF := if_t hc8 hF
    exact wX8_firstFault_42 C S9 f10 (lv_sub hl [0] rfl) hF Kr
  · intro hc11 H locs ls  S12 hl
    have hF := if_f (by rw [hc11]; decide) hF
    exact wX8_firstFault_50 C S12  (lv_sub hl [] rfl) hF Kr
theorem cX8_firstFault_ok (l : Launch) (G : Gl) {g : Shp} {x0 x1 : Int} {m m' : Mem} {r : Int} (hx0 : gk g x0 = 9) (hx1 : gk g x1 = 8) (hF : fX8_firstFault g x0 x1 m = some (r, m')) : mI l yX8_firstFault (wT yX8_firstFault cX8_firstFault 4 (some .int)) rX8_firstFault G false (fun ad => [.ref (ad x0), .ref (ad x1)]) g m r m' :=
  met_i (by decide) (fun ad => Nat.le_of_ble_eq_true rfl) (fun p e s mt args below meth c Q A H0 H locs ad ls C hnm S hl Kr => wX8_firstFault_0 C S hx0 hx1 hl hF Kr)
set_option maxRecDepth 20000 in
theorem wX9_clear_0 {p : Program} {l : Launch} {e : Env} {s : State} {mt : MethodId} {args : Array Value} {below : List Frame} {meth : Method} {c : Code} {Q : State → Prop} {G : Gl} {A : Nat → Prop} {H0 : Heap} {ad : Int → Nat} {g : Shp} {H : Heap} {locs : List Loc} {ls : Array Slot} {m : Mem} {x0 : Int} (C : CallFix p mt c cX9_clear 1 s args tb RX9) (S : Wd G A s H0 ad g m H locs) (hx0 : gk g x0 = 10) (hl : lv_has ls 1 [(0, .ref (ad x0))]) {r : Int} {m' : Mem} (hF : bX9_clear_0 g x0 m = some (r, m')) (Kr : ∀ (H : Heap) (locs : List Loc) (pc : Nat) (ls : Array Slot), Wd G A s H0 ad g m' H locs → decode cX9_clear pc = .ok (.return_, 1) → W p l e rX9_clear s mt args below meth c H locs 0 0 Q (F0 mt pc ls [])) : W p l e rX9_clear s mt args below meth c H locs 0 0 Q (F0 mt 0 ls []) := by
  unfold bX9_clear_0 at hF
  refine q_aload_n C hl 0 rfl rfl dX9_clear_0 ?_
  obtain ⟨k1, hF⟩ := ck_ok hF
  refine q_getr C S 1 fo_RX9_15 (j := 1) rfl rfl hx0 k1 (by decide) dX9_clear_1 ?_
  refine q_iconst C 0 dX9_clear_4 ?_
  obtain ⟨v2, m3, h4, hF⟩ := bd2_ok hF
  refine q_cv S (run_S (As := [.ref (ad (m x0 1)), .int (iI 0)]) (rest := []) C S (cJ7_fill_53178_ok l G k1 (rl 0 rfl) h4 ad _) gd_RX9_21 hd_J7_fill_53178 rfl ⟨rfl, rfl, by decide, by decide⟩ ⟨Nat.zero_le _, Nat.zero_le _⟩ hl.1 rfl (Nat.le_of_ble_eq_true rfl) dX9_clear_5) (fun H locs Sm3 => ?_)
  refine q_aload_n C hl 0 rfl rfl dX9_clear_8 ?_
  obtain ⟨k5, hF⟩ := ck_ok hF
  refine q_getr C Sm3 2 fo_RX9_18 (j := 2) rfl rfl hx0 k5 (by decide) dX9_clear_9 ?_
  refine q_iconst C 0 dX9_clear_12 ?_
  obtain ⟨v6, m7, h8, hF⟩ := bd2_ok hF
  refine q_cv Sm3 (run_S (As := [.ref (ad (m3 x0 2)), .int (iI 0)]) (rest := []) C Sm3 (cJ7_fill_53178_ok l G k5 (rl 0 rfl) h8 ad _) gd_RX9_21 hd_J7_fill_53178 rfl ⟨rfl, rfl, by decide, by decide⟩ ⟨Nat.zero_le _, Nat.zero_le _⟩ hl.1 rfl (Nat.le_of_ble_eq_true rfl) dX9_clear_13) (fun H locs Sm7 => ?_)
  refine q_aload_n C hl 0 rfl rfl dX9_clear_16 ?_
  refine q_iconst C 0 dX9_clear_17 ?_
  obtain ⟨m9, em9, hF⟩ := vm_ok hF
  refine q_put C Sm7 3 fo_RX9_27 fp_10_3 (fun h9 => absurd h9 (by decide)) (j := 3) rfl hx0 rfl rfl rfl (rl 0 rfl) (fun h9 => absurd h9 (by decide)) em9 dX9_clear_18 (fun H locs Sm9 => ?_)
  refine q_aload_n C hl 0 rfl rfl dX9_clear_21 ?_
  refine q_iconst C 0 dX9_clear_22 ?_
  obtain ⟨m10, em10, hF⟩ := vm_ok hF
  refine q_put C Sm9 4 fo_RX9_31 fp_10_4 (fun h9 => absurd h9 (by decide)) (j := 4) rfl hx0 rfl rfl rfl (rl 0 rfl) (fun h9 => absurd h9 (by decide)) em10 dX9_clear_23 (fun H locs Sm10 => ?_)
  refine q_aload_n C hl 0 rfl rfl dX9_clear_26 ?_
  refine q_iconst C 0 dX9_clear_27 ?_
  obtain ⟨m11, em11, hF⟩ := vm_ok hF
  refine q_put C Sm10 5 fo_RX9_34 fp_10_5 (fun h9 => absurd h9 (by decide)) (j := 5) rfl hx0 rfl rfl rfl (rl 0 rfl) (fun h9 => absurd h9 (by decide)) em11 dX9_clear_28 (fun H locs Sm11 => ?_)
  refine q_aload_n C hl 0 rfl rfl dX9_clear_31 ?_
  refine q_iconst C 0 dX9_clear_32 ?_
  obtain ⟨m12, em12, hF⟩ := vm_ok hF
  refine q_put C Sm11 6 fo_RX9_37 fp_10_6 (fun h9 => absurd h9 (by decide)) (j := 6) rfl hx0 rfl rfl rfl (rl 0 rfl) (fun h9 => absurd h9 (by decide)) em12 dX9_clear_33 (fun H locs Sm12 => ?_)
  refine q_aload_n C hl 0 rfl rfl dX9_clear_36 ?_
  refine q_iconst C 0 dX9_clear_37 ?_
  obtain ⟨m13, em13, hF⟩ := vm_ok hF
  refine q_put C Sm12 7 fo_RX9_40 fp_10_7 (fun h9 => absurd h9 (by decide)) (j := 7) rfl hx0 rfl (nr_b b_0) (ft_b b_0) (rl 0 rfl) (fun h9 => absurd h9 (by decide)) em13 dX9_clear_38 (fun H locs Sm13 => ?_)
  cases hF
  exact Kr _ _ _ _ Sm13 dX9_clear_41
theorem cX9_clear_ok (l : Launch) (G : Gl) {g : Shp} {x0 : Int} {m m' : Mem} {r : Int} (hx0 : gk g x0 = 10) (hF : fX9_clear g x0 m = some (r, m')) : mV l yX9_clear (wT yX9_clear cX9_clear 1 none) rX9_clear G (fun ad => [.ref (ad x0)]) g m m' :=
  met_v (by decide) (fun ad => Nat.le_of_ble_eq_true rfl) (fun p e s mt args below meth c Q A H0 H locs ad ls C hnm S hl Kr => wX9_clear_0 C S hx0 hl hF Kr)
set_option maxRecDepth 20000 in
theorem wX10_write_12 {p : Program} {l : Launch} {e : Env} {s : State} {mt : MethodId} {args : Array Value} {below : List Frame} {meth : Method} {c : Code} {Q : State → Prop} {G : Gl} {A : Nat → Prop} {H0 : Heap} {ad : Int → Nat} {g : Shp} {H : Heap} {locs : List Loc} {ls : Array Slot} {m : Mem} (C : CallFix p mt c cX10_write 2 s args tb RX10) (S : Wd G A s H0 ad g m H locs)  (hl : lv_has ls 2 []) {r : Int} {m' : Mem} (hF : bX10_write_12 g m = some (r, m')) (Kr : ∀ (H : Heap) (locs : List Loc) (pc : Nat) (ls : Array Slot), Wd G A s H0 ad g m' H locs → decode cX10_write pc = .ok (.ireturn, 1) → r32 r ∧ (false = true → r = 0 ∨ r = 1) → narrow .int (.int (iI r)) = .int (iI r) → W p l e rX10_write s mt args below meth c H locs 0 0 Q (F0 mt pc ls [.int (iI r)])) : W p l e rX10_write s mt args below meth c H locs 0 0 Q (F0 mt 12 ls []) := by
  unfold bX10_write_12 at hF
  refine q_iconst C (-1) dX10_write_12 ?_
  cases hF
  exact Kr _ _ _ _ S dX10_write_13 ⟨(rl (-1) rfl), fun h9 => absurd h9 (by decide)⟩ rfl
set_option maxRecDepth 20000 in
theorem wX10_write_0 {p : Program} {l : Launch} {e : Env} {s : State} {mt : MethodId} {args : Array Value} {below : List Frame} {meth : Method} {c : Code} {Q : State → Prop} {G : Gl} {A : Nat → Prop} {H0 : Heap} {ad : Int → Nat} {g : Shp} {H : Heap} {locs : List Loc} {ls : Array Slot} {m : Mem} {x0 x1 : Int} (C : CallFix p mt c cX10_write 2 s args tb RX10) (S : Wd G A s H0 ad g m H locs) (hx0 : gk g x0 = 11) (hx1 : r32 x1) (hl : lv_has ls 2 [(0, .ref (ad x0)), (1, .int (iI x1))]) {r : Int} {m' : Mem} (hF : bX10_write_0 g x0 x1 m = some (r, m')) (Kr : ∀ (H : Heap) (locs : List Loc) (pc : Nat) (ls : Array Slot), Wd G A s H0 ad g m' H locs → decode cX10_write pc = .ok (.ireturn, 1) → r32 r ∧ (false = true → r = 0 ∨ r = 1) → narrow .int (.int (iI r)) = .int (iI r) → W p l e rX10_write s mt args below meth c H locs 0 0 Q (F0 mt pc ls [.int (iI r)])) : W p l e rX10_write s mt args below meth c H locs 0 0 Q (F0 mt 0 ls []) := by
  unfold bX10_write_0 at hF
  refine q_iload_n C hl 1 rfl rfl dX10_write_0 ?_
  refine q_bipush C 32 (by decide) dX10_write_1 ?_
  refine q_icmp_lt C hx1 (rl 32 rfl) 12 dX10_write_3 (by decide) (fun hc1 => ?_) (fun hc1 => ?_)
  · have hF := if_t hc1 hF
    exact wX10_write_12 C S  (lv_sub hl [] rfl) hF Kr
  · have hF := if_f hc1 hF
    refine q_iload_n C hl 1 rfl rfl dX10_write_6 ?_
    refine q_bipush C 126 (by decide) dX10_write_7 ?_
    refine q_icmp_le C hx1 (rl 126 rfl) 14 dX10_write_9 (by decide) (fun hc2 => ?_) (fun hc2 => ?_)
    · have hF := if_t hc2 hF
      refine q_aload_n C hl 0 rfl rfl dX10_write_14 ?_
      obtain ⟨k3, hF⟩ := ck_ok hF
      refine q_getr C S 0 fo_RX10_12 (j := 0) rfl rfl hx0 k3 (by decide) dX10_write_15 ?_
      refine q_geti C S 3 fo_RX10_80 (j := 3) rfl rfl k3 dX10_write_18 ?_
      refine q_sipush C 200 (by decide) dX10_write_21 ?_
      refine q_icmp_lt C (S.r _ _) (rl 200 rfl) 30 dX10_write_24 (by decide) (fun hc4 => ?_) (fun hc4 => ?_)
      · have hF := if_t hc4 hF
        refine q_aload_n C hl 0 rfl rfl dX10_write_30 ?_
        refine q_getr C S 0 fo_RX10_12 (j := 0) rfl rfl hx0 k3 (by decide) dX10_write_31 ?_
        refine q_iload_n C hl 1 rfl rfl dX10_write_34 ?_
        refine q_i2c C dX10_write_35 ?_
        obtain ⟨v5, m6, h7, hF⟩ := bd2_ok hF
        refine q_cv S (run_V (As := [.int (iI (c16 x1))]) (rest := []) C S (cX8_append_ok l G k3 (r32_of _) h7 ad _) k3 ⟨by decide, _, _, rfl⟩ gd_RX10_73 hdV_X8_append rfl ⟨rfl, rfl, by decide, by decide⟩ ⟨Nat.zero_le _, Nat.zero_le _⟩ hl.1 rfl (Nat.le_of_ble_eq_true rfl) dX10_write_36) (fun H locs Sm6 => ?_)
        refine q_aload_n C hl 0 rfl rfl dX10_write_39 ?_
        obtain ⟨k8, hF⟩ := ck_ok hF
        refine q_getr C Sm6 0 fo_RX10_12 (j := 0) rfl rfl hx0 k8 (by decide) dX10_write_40 ?_
        refine q_geti C Sm6 3 fo_RX10_80 (j := 3) rfl rfl k8 dX10_write_43 ?_
        cases hF
        exact Kr _ _ _ _ Sm6 dX10_write_46 ⟨(Sm6.r _ _), fun h9 => absurd h9 (by decide)⟩ rfl
      · have hF := if_f hc4 hF
        refine q_bipush C (-3) (by decide) dX10_write_27 ?_
        cases hF
        exact Kr _ _ _ _ S dX10_write_29 ⟨(rl (-3) rfl), fun h9 => absurd h9 (by decide)⟩ rfl
    · have hF := if_f hc2 hF
      exact wX10_write_12 C S  (lv_sub hl [] rfl) hF Kr
theorem cX10_write_ok (l : Launch) (G : Gl) {g : Shp} {x0 x1 : Int} {m m' : Mem} {r : Int} (hx0 : gk g x0 = 11) (hx1 : r32 x1) (hF : fX10_write g x0 x1 m = some (r, m')) : mI l yX10_write (wT yX10_write cX10_write 2 (some .int)) rX10_write G false (fun ad => [.ref (ad x0), .int (iI x1)]) g m r m' :=
  met_i (by decide) (fun ad => Nat.le_of_ble_eq_true rfl) (fun p e s mt args below meth c Q A H0 H locs ad ls C hnm S hl Kr => wX10_write_0 C S hx0 hx1 hl hF Kr)
set_option maxRecDepth 20000 in
theorem wX10_wipe_0 {p : Program} {l : Launch} {e : Env} {s : State} {mt : MethodId} {args : Array Value} {below : List Frame} {meth : Method} {c : Code} {Q : State → Prop} {G : Gl} {A : Nat → Prop} {H0 : Heap} {ad : Int → Nat} {g : Shp} {H : Heap} {locs : List Loc} {ls : Array Slot} {m : Mem} {x0 : Int} (C : CallFix p mt c cX10_wipe 2 s args tb RX10) (S : Wd G A s H0 ad g m H locs) (hx0 : gk g x0 = 11) (hl : lv_has ls 2 [(0, .ref (ad x0))]) {r : Int} {m' : Mem} (hF : bX10_wipe_0 g x0 m = some (r, m')) (Kr : ∀ (H : Heap) (locs : List Loc) (pc : Nat) (ls : Array Slot), Wd G A s H0 ad g m' H locs → decode cX10_wipe pc = .ok (.ireturn, 1) → r32 r ∧ (false = true → r = 0 ∨ r = 1) → narrow .int (.int (iI r)) = .int (iI r) → W p l e rX10_wipe s mt args below meth c H locs 0 0 Q (F0 mt pc ls [.int (iI r)])) : W p l e rX10_wipe s mt args below meth c H locs 0 0 Q (F0 mt 0 ls []) := by
  unfold bX10_wipe_0 at hF
  refine q_aload_n C hl 0 rfl rfl dX10_wipe_0 ?_
  obtain ⟨k1, hF⟩ := ck_ok hF
  refine q_getr C S 0 fo_RX10_12 (j := 0) rfl rfl hx0 k1 (by decide) dX10_wipe_1 ?_
  refine q_geti C S 3 fo_RX10_80 (j := 3) rfl rfl k1 dX10_wipe_4 ?_
  obtain ⟨y2, ey2, hF⟩ := vv_ok hF
  have ry2 : r32 y2 := ey2 ▸ (S.r _ _)
  refine q_istore_n C hl [(1, .int (iI y2)), (0, .ref (ad x0))] ey2 rfl (by decide) rfl dX10_wipe_7 (fun ls hl => ?_)
  refine q_aload_n C hl 1 rfl rfl dX10_wipe_8 ?_
  refine q_getr C S 0 fo_RX10_12 (j := 0) rfl rfl hx0 k1 (by decide) dX10_wipe_9 ?_
  refine q_iconst C 0 dX10_wipe_12 ?_
  obtain ⟨m3, em3, hF⟩ := vm_ok hF
  refine q_put C S 3 fo_RX10_80 fp_9_3 (fun h9 => absurd h9 (by decide)) (j := 3) rfl k1 rfl rfl rfl (rl 0 rfl) (fun h9 => absurd h9 (by decide)) em3 dX10_wipe_13 (fun H locs Sm3 => ?_)
  refine q_iload_n C hl 0 rfl rfl dX10_wipe_16 ?_
  cases hF
  exact Kr _ _ _ _ Sm3 dX10_wipe_17 ⟨ry2, fun h9 => absurd h9 (by decide)⟩ rfl
theorem cX10_wipe_ok (l : Launch) (G : Gl) {g : Shp} {x0 : Int} {m m' : Mem} {r : Int} (hx0 : gk g x0 = 11) (hF : fX10_wipe g x0 m = some (r, m')) : mI l yX10_wipe (wT yX10_wipe cX10_wipe 2 (some .int)) rX10_wipe G false (fun ad => [.ref (ad x0)]) g m r m' :=
  met_i (by decide) (fun ad => Nat.le_of_ble_eq_true rfl) (fun p e s mt args below meth c Q A H0 H locs ad ls C hnm S hl Kr => wX10_wipe_0 C S hx0 hl hF Kr)
set_option maxRecDepth 20000 in
theorem wX10_fault_0 {p : Program} {l : Launch} {e : Env} {s : State} {mt : MethodId} {args : Array Value} {below : List Frame} {meth : Method} {c : Code} {Q : State → Prop} {G : Gl} {A : Nat → Prop} {H0 : Heap} {ad : Int → Nat} {g : Shp} {H : Heap} {locs : List Loc} {ls : Array Slot} {m : Mem} {x0 : Int} (C : CallFix p mt c cX10_fault 1 s args tb RX10) (S : Wd G A s H0 ad g m H locs) (hx0 : gk g x0 = 11) (hl : lv_has ls 1 [(0, .ref (ad x0))]) {r : Int} {m' : Mem} (hF : bX10_fault_0 g x0 m = some (r, m')) (Kr : ∀ (H : Heap) (locs : List Loc) (pc : Nat) (ls : Array Slot), Wd G A s H0 ad g m' H locs → decode cX10_fault pc = .ok (.ireturn, 1) → r32 r ∧ (false = true → r = 0 ∨ r = 1) → narrow .int (.int (iI r)) = .int (iI r) → W p l e rX10_fault s mt args below meth c H locs 0 0 Q (F0 mt pc ls [.int (iI r)])) : W p l e rX10_fault s mt args below meth c H locs 0 0 Q (F0 mt 0 ls []) := by
  unfold bX10_fault_0 at hF
  refine q_aload_n C hl 0 rfl rfl dX10_fault_0 ?_
  obtain ⟨k1, hF⟩ := ck_ok hF
  refine q_getr C S 0 fo_RX10_12 (j := 0) rfl rfl hx0 k1 (by decide) dX10_fault_1 ?_
  refine q_aload_n C hl 0 rfl rfl dX10_fault_4 ?_
  obtain ⟨k2, hF⟩ := ck_ok hF
  refine q_getr C S 7 fo_RX10_57 (j := 7) rfl rfl hx0 k2 (by decide) dX10_fault_5 ?_
  obtain ⟨v3, m4, h5, hF⟩ := bd2_ok hF
  refine q_ci S (run_V (As := [.ref (ad (m x0 7))]) (rest := []) C S (cX8_firstFault_ok l G k1 k2 h5 ad _) k1 ⟨by decide, _, _, rfl⟩ gd_RX10_83 hdV_X8_firstFault rfl ⟨rfl, rfl, by decide, by decide⟩ ⟨Nat.zero_le _, Nat.zero_le _⟩ hl.1 rfl (Nat.le_of_ble_eq_true rfl) dX10_fault_8) (fun H locs Sm4 h6 => ?_)
  cases hF
  exact Kr _ _ _ _ Sm4 dX10_fault_11 ⟨h6.1, fun h9 => absurd h9 (by decide)⟩ rfl
theorem cX10_fault_ok (l : Launch) (G : Gl) {g : Shp} {x0 : Int} {m m' : Mem} {r : Int} (hx0 : gk g x0 = 11) (hF : fX10_fault g x0 m = some (r, m')) : mI l yX10_fault (wT yX10_fault cX10_fault 1 (some .int)) rX10_fault G false (fun ad => [.ref (ad x0)]) g m r m' :=
  met_i (by decide) (fun ad => Nat.le_of_ble_eq_true rfl) (fun p e s mt args below meth c Q A H0 H locs ad ls C hnm S hl Kr => wX10_fault_0 C S hx0 hl hF Kr)
set_option maxRecDepth 20000 in
theorem wX10_forgetAnswers_2 {p : Program} {l : Launch} {e : Env} {s : State} {mt : MethodId} {args : Array Value} {below : List Frame} {meth : Method} {c : Code} {Q : State → Prop} {G : Gl} {A : Nat → Prop} {H0 : Heap} {ad : Int → Nat} {g : Shp} {H : Heap} {locs : List Loc} {ls : Array Slot} {m : Mem} {x0 x1 : Int} (C : CallFix p mt c cX10_forgetAnswers 2 s args tb RX10) (S : Wd G A s H0 ad g m H locs) (hx0 : gk g x0 = 11) (hx1 : r32 x1) (hl : lv_has ls 2 [(0, .ref (ad x0)), (1, .int (iI x1))]) {c1 : Int} {s1 : (Int × Mem)} (hF : bX10_forgetAnswers_2 g x0 x1 m = some (c1, s1)) (K0 : c1 = 0 → ∀ (H : Heap) (locs : List Loc) (ls : Array Slot), r32 s1.1 → Wd G A s H0 ad g s1.2 H locs → lv_has ls 2 [(0, .ref (ad x0)), (1, .int (iI s1.1))] → W p l e rX10_forgetAnswers s mt args below meth c H locs 0 0 Q (F0 mt 2 ls [])) (K1 : c1 = 1 → ∀ (H : Heap) (locs : List Loc) (ls : Array Slot), Wd G A s H0 ad g s1.2 H locs → lv_has ls 2 [(0, .ref (ad x0))] → W p l e rX10_forgetAnswers s mt args below meth c H locs 0 0 Q (F0 mt 27 ls [])) : W p l e rX10_forgetAnswers s mt args below meth c H locs 0 0 Q (F0 mt 2 ls []) := by
  unfold bX10_forgetAnswers_2 at hF
  refine q_iload_n C hl 1 rfl rfl dX10_forgetAnswers_2 ?_
  refine q_aload_n C hl 0 rfl rfl dX10_forgetAnswers_3 ?_
  obtain ⟨k1, hF⟩ := ck_ok hF
  refine q_getr C S 5 fo_RX10_46 (j := 5) rfl rfl hx0 k1 (by decide) dX10_forgetAnswers_4 ?_
  refine q_alen C S k1 (by decide) dX10_forgetAnswers_7 ?_
  refine q_icmp_ge C hx1 (S.l _) 27 dX10_forgetAnswers_8 (by decide) (fun hc2 => ?_) (fun hc2 => ?_)
  · have hF := if_t hc2 hF
    cases hF
    exact K1 rfl _ _ _  S (lv_sub hl [0] rfl)
  · have hF := if_f hc2 hF
    refine q_aload_n C hl 0 rfl rfl dX10_forgetAnswers_11 ?_
    refine q_getr C S 5 fo_RX10_46 (j := 5) rfl rfl hx0 k1 (by decide) dX10_forgetAnswers_12 ?_
    refine q_iload_n C hl 1 rfl rfl dX10_forgetAnswers_15 ?_
    obtain ⟨i3, hF⟩ := ck_ok hF
    obtain ⟨k4, hF⟩ := ck_ok hF
    refine q_aald C S k1 (by decide) i3 k4 (by decide) dX10_forgetAnswers_16 ?_
    refine q_iconst C 0 dX10_forgetAnswers_17 ?_
    obtain ⟨m5, em5, hF⟩ := vm_ok hF
    refine q_put C S 8 fo_RX10_238 fp_10_8 (fun h9 => absurd h9 (by decide)) (j := 8) rfl k4 rfl (nr_b b_0) (ft_b b_0) (rl 0 rfl) (fun h9 => absurd h9 (by decide)) em5 dX10_forgetAnswers_18 (fun H locs Sm5 => ?_)
    obtain ⟨y6, ey6, hF⟩ := vv_ok hF
    have ry6 : r32 y6 := ey6 ▸ r32_w _
    refine q_iinc C hl 1 [(1, .int (iI y6)), (0, .ref (ad x0))] rfl ey6 (by decide) rfl dX10_forgetAnswers_21 (fun ls hl => ?_)
    refine q_goto C 2 dX10_forgetAnswers_24 (by decide) ?_
    cases hF
    exact K0 rfl _ _ _ ry6 Sm5 (lv_sub hl [1, 0] rfl)
set_option maxRecDepth 20000 in
theorem lX10_forgetAnswers_2 {p : Program} {l : Launch} {e : Env} {s : State} {mt : MethodId} {args : Array Value} {below : List Frame} {meth : Method} {c : Code} {Q : State → Prop} {G : Gl} {A : Nat → Prop} {H0 : Heap} {ad : Int → Nat} {g : Shp} {x0 : Int} (C : CallFix p mt c cX10_forgetAnswers 2 s args tb RX10) (hx0 : gk g x0 = 11) {n : Nat} {s0 s1 : (Int × Mem)} {c1 : Int} (hI : iter (BX10_forgetAnswers_2 g x0) n s0 = some (c1, s1)) (K1 : c1 = 1 → ∀ (H : Heap) (locs : List Loc) (ls : Array Slot), Wd G A s H0 ad g s1.2 H locs → lv_has ls 2 [(0, .ref (ad x0))] → W p l e rX10_forgetAnswers s mt args below meth c H locs 0 0 Q (F0 mt 27 ls [])) : ∀ (H : Heap) (locs : List Loc) (ls : Array Slot), r32 s0.1 → Wd G A s H0 ad g s0.2 H locs → lv_has ls 2 [(0, .ref (ad x0)), (1, .int (iI s0.1))] → W p l e rX10_forgetAnswers s mt args below meth c H locs 0 0 Q (F0 mt 2 ls []) :=
  iter_W (Pw := fun q => ∀ (H : Heap) (locs : List Loc) (ls : Array Slot), r32 q.1 → Wd G A s H0 ad g q.2 H locs → lv_has ls 2 [(0, .ref (ad x0)), (1, .int (iI q.1))] → W p l e rX10_forgetAnswers s mt args below meth c H locs 0 0 Q (F0 mt 2 ls [])) (Px := fun c0 q => (c0 = 1 → ∀ (H : Heap) (locs : List Loc) (ls : Array Slot), Wd G A s H0 ad g q.2 H locs → lv_has ls 2 [(0, .ref (ad x0))] → W p l e rX10_forgetAnswers s mt args below meth c H locs 0 0 Q (F0 mt 27 ls [])))
    (fun s c s' hB K0 kx H locs ls f0 S hl => wX10_forgetAnswers_2 C S hx0 f0 hl hB K0 (fun h9 => (kx (by rw [h9]; decide)) h9)) _ _ _ _ hI K1
set_option maxRecDepth 20000 in
theorem wX10_forgetAnswers_27 {p : Program} {l : Launch} {e : Env} {s : State} {mt : MethodId} {args : Array Value} {below : List Frame} {meth : Method} {c : Code} {Q : State → Prop} {G : Gl} {A : Nat → Prop} {H0 : Heap} {ad : Int → Nat} {g : Shp} {H : Heap} {locs : List Loc} {ls : Array Slot} {m : Mem} {x0 : Int} (C : CallFix p mt c cX10_forgetAnswers 2 s args tb RX10) (S : Wd G A s H0 ad g m H locs) (hx0 : gk g x0 = 11) (hl : lv_has ls 2 [(0, .ref (ad x0))]) {r : Int} {m' : Mem} (hF : bX10_forgetAnswers_27 g x0 m = some (r, m')) (Kr : ∀ (H : Heap) (locs : List Loc) (pc : Nat) (ls : Array Slot), Wd G A s H0 ad g m' H locs → decode cX10_forgetAnswers pc = .ok (.return_, 1) → W p l e rX10_forgetAnswers s mt args below meth c H locs 0 0 Q (F0 mt pc ls [])) : W p l e rX10_forgetAnswers s mt args below meth c H locs 0 0 Q (F0 mt 27 ls []) := by
  unfold bX10_forgetAnswers_27 at hF
  refine q_aload_n C hl 0 rfl rfl dX10_forgetAnswers_27 ?_
  obtain ⟨k1, hF⟩ := ck_ok hF
  refine q_getr C S 4 fo_RX10_40 (j := 4) rfl rfl hx0 k1 (by decide) dX10_forgetAnswers_28 ?_
  refine q_iconst C 0 dX10_forgetAnswers_31 ?_
  obtain ⟨m2, em2, hF⟩ := vm_ok hF
  refine q_put C S 8 fo_RX10_241 fp_4_8 (fun h9 => absurd h9 (by decide)) (j := 8) rfl k1 rfl (nr_b b_0) (ft_b b_0) (rl 0 rfl) (fun h9 => absurd h9 (by decide)) em2 dX10_forgetAnswers_32 (fun H locs Sm2 => ?_)
  cases hF
  exact Kr _ _ _ _ Sm2 dX10_forgetAnswers_35
set_option maxRecDepth 20000 in
theorem wX10_forgetAnswers_0 {p : Program} {l : Launch} {e : Env} {s : State} {mt : MethodId} {args : Array Value} {below : List Frame} {meth : Method} {c : Code} {Q : State → Prop} {G : Gl} {A : Nat → Prop} {H0 : Heap} {ad : Int → Nat} {g : Shp} {H : Heap} {locs : List Loc} {ls : Array Slot} {m : Mem} {x0 : Int} (C : CallFix p mt c cX10_forgetAnswers 2 s args tb RX10) (S : Wd G A s H0 ad g m H locs) (hx0 : gk g x0 = 11) (hl : lv_has ls 2 [(0, .ref (ad x0))]) {r : Int} {m' : Mem} (hF : bX10_forgetAnswers_0 g x0 m = some (r, m')) (Kr : ∀ (H : Heap) (locs : List Loc) (pc : Nat) (ls : Array Slot), Wd G A s H0 ad g m' H locs → decode cX10_forgetAnswers pc = .ok (.return_, 1) → W p l e rX10_forgetAnswers s mt args below meth c H locs 0 0 Q (F0 mt pc ls [])) : W p l e rX10_forgetAnswers s mt args below meth c H locs 0 0 Q (F0 mt 0 ls []) := by
  unfold bX10_forgetAnswers_0 at hF
  refine q_iconst C 0 dX10_forgetAnswers_0 ?_
  refine q_istore_n C hl [(1, .int (iI 0)), (0, .ref (ad x0))] rfl rfl (by decide) rfl dX10_forgetAnswers_1 (fun ls hl => ?_)
  obtain ⟨cv1, sv2, hi3, hF⟩ := bdl_ok hF
  refine lX10_forgetAnswers_2 C hx0 hi3 ?_ _ _ _ (rl 0 rfl) S (lv_sub hl [1, 0] rfl)
  intro _ H locs ls  S4 hl
  exact wX10_forgetAnswers_27 C S4 hx0 (lv_sub hl [0] rfl) hF Kr
theorem cX10_forgetAnswers_ok (l : Launch) (G : Gl) {g : Shp} {x0 : Int} {m m' : Mem} {r : Int} (hx0 : gk g x0 = 11) (hF : fX10_forgetAnswers g x0 m = some (r, m')) : mV l yX10_forgetAnswers (wT yX10_forgetAnswers cX10_forgetAnswers 2 none) rX10_forgetAnswers G (fun ad => [.ref (ad x0)]) g m m' :=
  met_v (by decide) (fun ad => Nat.le_of_ble_eq_true rfl) (fun p e s mt args below meth c Q A H0 H locs ad ls C hnm S hl Kr => wX10_forgetAnswers_0 C S hx0 hl hF Kr)
set_option maxRecDepth 20000 in
theorem wX10_layText_26 {p : Program} {l : Launch} {e : Env} {s : State} {mt : MethodId} {args : Array Value} {below : List Frame} {meth : Method} {c : Code} {Q : State → Prop} {G : Gl} {A : Nat → Prop} {H0 : Heap} {ad : Int → Nat} {g : Shp} {H : Heap} {locs : List Loc} {ls : Array Slot} {m : Mem} (C : CallFix p mt c cX10_layText 2 s args tb RX10) (S : Wd G A s H0 ad g m H locs)  (hl : lv_has ls 2 []) {r : Int} {m' : Mem} (hF : bX10_layText_26 g m = some (r, m')) (Kr : ∀ (H : Heap) (locs : List Loc) (pc : Nat) (ls : Array Slot), Wd G A s H0 ad g m' H locs → decode cX10_layText pc = .ok (.ireturn, 1) → r32 r ∧ (false = true → r = 0 ∨ r = 1) → narrow .int (.int (iI r)) = .int (iI r) → W p l e rX10_layText s mt args below meth c H locs 0 0 Q (F0 mt pc ls [.int (iI r)])) : W p l e rX10_layText s mt args below meth c H locs 0 0 Q (F0 mt 26 ls []) := by
  unfold bX10_layText_26 at hF
  refine q_bipush C (-2) (by decide) dX10_layText_26 ?_
  cases hF
  exact Kr _ _ _ _ S dX10_layText_28 ⟨(rl (-2) rfl), fun h9 => absurd h9 (by decide)⟩ rfl
set_option maxRecDepth 20000 in
theorem wX10_layText_0 {p : Program} {l : Launch} {e : Env} {s : State} {mt : MethodId} {args : Array Value} {below : List Frame} {meth : Method} {c : Code} {Q : State → Prop} {G : Gl} {A : Nat → Prop} {H0 : Heap} {ad : Int → Nat} {g : Shp} {H : Heap} {locs : List Loc} {ls : Array Slot} {m : Mem} {x0 : Int} (C : CallFix p mt c cX10_layText 2 s args tb RX10) (S : Wd G A s H0 ad g m H locs) (hx0 : gk g x0 = 11) (hl : lv_has ls 2 [(0, .ref (ad x0))]) {r : Int} {m' : Mem} (hF : bX10_layText_0 g x0 m = some (r, m')) (Kr : ∀ (H : Heap) (locs : List Loc) (pc : Nat) (ls : Array Slot), Wd G A s H0 ad g m' H locs → decode cX10_layText pc = .ok (.ireturn, 1) → r32 r ∧ (false = true → r = 0 ∨ r = 1) → narrow .int (.int (iI r)) = .int (iI r) → W p l e rX10_layText s mt args below meth c H locs 0 0 Q (F0 mt pc ls [.int (iI r)])) : W p l e rX10_layText s mt args below meth c H locs 0 0 Q (F0 mt 0 ls []) := by
  unfold bX10_layText_0 at hF
  refine q_aload_n C hl 0 rfl rfl dX10_layText_0 ?_
  obtain ⟨k1, hF⟩ := ck_ok hF
  refine q_getr C S 0 fo_RX10_12 (j := 0) rfl rfl hx0 k1 (by decide) dX10_layText_1 ?_
  refine q_aload_n C hl 0 rfl rfl dX10_layText_4 ?_
  obtain ⟨k2, hF⟩ := ck_ok hF
  refine q_getr C S 7 fo_RX10_57 (j := 7) rfl rfl hx0 k2 (by decide) dX10_layText_5 ?_
  obtain ⟨v3, m4, h5, hF⟩ := bd2_ok hF
  refine q_ci S (run_V (As := [.ref (ad (m x0 7))]) (rest := []) C S (cX8_firstFault_ok l G k1 k2 h5 ad _) k1 ⟨by decide, _, _, rfl⟩ gd_RX10_83 hdV_X8_firstFault rfl ⟨rfl, rfl, by decide, by decide⟩ ⟨Nat.zero_le _, Nat.zero_le _⟩ hl.1 rfl (Nat.le_of_ble_eq_true rfl) dX10_layText_8) (fun H locs Sm4 h6 => ?_)
  refine q_bipush C (-4) (by decide) dX10_layText_11 ?_
  refine q_icmp_ne C h6.1 (rl (-4) rfl) 26 dX10_layText_13 (by decide) (fun hc7 => ?_) (fun hc7 => ?_)
  · have hF := if_t hc7 hF
    refine q_aload_n C hl 0 rfl rfl dX10_layText_16 ?_
    obtain ⟨k8, hF⟩ := ck_ok hF
    refine q_getr C Sm4 7 fo_RX10_57 (j := 7) rfl rfl hx0 k8 (by decide) dX10_layText_17 ?_
    refine q_geti C Sm4 5 fo_RX10_214 (j := 5) rfl rfl k8 dX10_layText_20 ?_
    refine q_if_ne C (Sm4.r _ _) 29 dX10_layText_23 (by decide) (fun hc9 => ?_) (fun hc9 => ?_)
    · have hF := if_t hc9 hF
      exact wX10_layText_26 C Sm4  (lv_sub hl [] rfl) hF Kr
    · have hF := if_f hc9 hF
      refine q_aload_n C hl 0 rfl rfl dX10_layText_29 ?_
      obtain ⟨k10, hF⟩ := ck_ok hF
      refine q_getr C Sm4 6 fo_RX10_53 (j := 6) rfl rfl hx0 k10 (by decide) dX10_layText_30 ?_
      obtain ⟨y11, ey11, hF⟩ := vv_ok hF
      have ky11 : gk g y11 = 8 := ey11 ▸ k10
      refine q_astore_n C hl [(1, .ref (ad y11)), (0, .ref (ad x0))] ey11 rfl (by decide) rfl dX10_layText_33 (fun ls hl => ?_)
      refine q_aload_n C hl 1 rfl rfl dX10_layText_34 ?_
      refine q_aload_n C hl 1 rfl rfl dX10_layText_35 ?_
      refine q_getr C Sm4 7 fo_RX10_57 (j := 7) rfl rfl hx0 k8 (by decide) dX10_layText_36 ?_
      obtain ⟨m12, em12, hF⟩ := vm_ok hF
      refine q_put C Sm4 6 fo_RX10_53 fp_11_6 (fun h9 => absurd h9 (by decide)) (j := 6) rfl hx0 (orf_ok Sm4 k8 (by decide) rfl) rfl rfl (Sm4.k k8 (by decide)) (fun _ => kz k8 (by decide)) em12 dX10_layText_39 (fun H locs Sm12 => ?_)
      refine q_aload_n C hl 1 rfl rfl dX10_layText_42 ?_
      refine q_aload_n C hl 0 rfl rfl dX10_layText_43 ?_
      obtain ⟨m13, em13, hF⟩ := vm_ok hF
      refine q_put C Sm12 7 fo_RX10_57 fp_11_7 (fun h9 => absurd h9 (by decide)) (j := 7) rfl hx0 (orf_ok Sm12 ky11 (by decide) rfl) rfl rfl (Sm12.k ky11 (by decide)) (fun _ => kz ky11 (by decide)) em13 dX10_layText_44 (fun H locs Sm13 => ?_)
      refine q_aload_n C hl 1 rfl rfl dX10_layText_47 ?_
      obtain ⟨k14, hF⟩ := ck_ok hF
      refine q_getr C Sm13 2 fo_RX10_26 (j := 2) rfl rfl hx0 k14 (by decide) dX10_layText_48 ?_
      refine q_aload_n C hl 1 rfl rfl dX10_layText_51 ?_
      obtain ⟨k15, hF⟩ := ck_ok hF
      refine q_getr C Sm13 6 fo_RX10_53 (j := 6) rfl rfl hx0 k15 (by decide) dX10_layText_52 ?_
      obtain ⟨v16, m17, h18, hF⟩ := bd2_ok hF
      refine q_cv Sm13 (run_V (As := [.ref (ad (m13 x0 6))]) (rest := []) C Sm13 (cX1_begin_ok l G k14 k15 h18 ad _) k14 ⟨by decide, _, _, rfl⟩ gd_RX10_232 hdV_X1_begin rfl ⟨rfl, rfl, by decide, by decide⟩ ⟨Nat.zero_le _, Nat.zero_le _⟩ hl.1 rfl (Nat.le_of_ble_eq_true rfl) dX10_layText_55) (fun H locs Sm17 => ?_)
      refine q_aload_n C hl 1 rfl rfl dX10_layText_58 ?_
      obtain ⟨k19, hF⟩ := ck_ok hF
      refine q_getr C Sm17 3 fo_RX10_33 (j := 3) rfl rfl hx0 k19 (by decide) dX10_layText_59 ?_
      refine q_iconst C 0 dX10_layText_62 ?_
      obtain ⟨m20, em20, hF⟩ := vm_ok hF
      refine q_put C Sm17 1 fo_RX10_206 fp_5_1 (fun h9 => absurd h9 (by decide)) (j := 1) rfl k19 rfl rfl rfl (rl 0 rfl) (fun h9 => absurd h9 (by decide)) em20 dX10_layText_63 (fun H locs Sm20 => ?_)
      refine q_aload_n C hl 1 rfl rfl dX10_layText_66 ?_
      obtain ⟨v21, m22, h23, hF⟩ := bd2_ok hF
      refine q_cv Sm20 (run_V (As := []) (rest := []) C Sm20 (cX10_forgetAnswers_ok l G hx0 h23 ad _) hx0 ⟨by decide, _, _, rfl⟩ gd_RX10_211 hdV_X10_forgetAnswers rfl ⟨rfl, rfl, by decide, by decide⟩ ⟨Nat.zero_le _, Nat.zero_le _⟩ hl.1 rfl (Nat.le_of_ble_eq_true rfl) dX10_layText_67) (fun H locs Sm22 => ?_)
      refine q_aload_n C hl 1 rfl rfl dX10_layText_70 ?_
      obtain ⟨k24, hF⟩ := ck_ok hF
      refine q_getr C Sm22 6 fo_RX10_53 (j := 6) rfl rfl hx0 k24 (by decide) dX10_layText_71 ?_
      refine q_geti C Sm22 5 fo_RX10_214 (j := 5) rfl rfl k24 dX10_layText_74 ?_
      cases hF
      exact Kr _ _ _ _ Sm22 dX10_layText_77 ⟨(Sm22.r _ _), fun h9 => absurd h9 (by decide)⟩ rfl
  · have hF := if_f hc7 hF
    exact wX10_layText_26 C Sm4  (lv_sub hl [] rfl) hF Kr
theorem cX10_layText_ok (l : Launch) (G : Gl) {g : Shp} {x0 : Int} {m m' : Mem} {r : Int} (hx0 : gk g x0 = 11) (hF : fX10_layText g x0 m = some (r, m')) : mI l yX10_layText (wT yX10_layText cX10_layText 2 (some .int)) rX10_layText G false (fun ad => [.ref (ad x0)]) g m r m' :=
  met_i (by decide) (fun ad => Nat.le_of_ble_eq_true rfl) (fun p e s mt args below meth c Q A H0 H locs ad ls C hnm S hl Kr => wX10_layText_0 C S hx0 hl hF Kr)
set_option maxRecDepth 20000 in
theorem wX10_lay_0 {p : Program} {l : Launch} {e : Env} {s : State} {mt : MethodId} {args : Array Value} {below : List Frame} {meth : Method} {c : Code} {Q : State → Prop} {G : Gl} {A : Nat → Prop} {H0 : Heap} {ad : Int → Nat} {g : Shp} {H : Heap} {locs : List Loc} {ls : Array Slot} {m : Mem} {x0 : Int} (C : CallFix p mt c cX10_lay 1 s args tb RX10) (S : Wd G A s H0 ad g m H locs) (hx0 : gk g x0 = 11) (hl : lv_has ls 1 [(0, .ref (ad x0))]) {r : Int} {m' : Mem} (hF : bX10_lay_0 g x0 m = some (r, m')) (Kr : ∀ (H : Heap) (locs : List Loc) (pc : Nat) (ls : Array Slot), Wd G A s H0 ad g m' H locs → decode cX10_lay pc = .ok (.ireturn, 1) → r32 r ∧ (false = true → r = 0 ∨ r = 1) → narrow .int (.int (iI r)) = .int (iI r) → W p l e rX10_lay s mt args below meth c H locs 0 0 Q (F0 mt pc ls [.int (iI r)])) : W p l e rX10_lay s mt args below meth c H locs 0 0 Q (F0 mt 0 ls []) := by
  unfold bX10_lay_0 at hF
  refine q_aload_n C hl 0 rfl rfl dX10_lay_0 ?_
  obtain ⟨v1, m2, h3, hF⟩ := bd2_ok hF
  refine q_ci S (run_V (As := []) (rest := []) C S (cX10_layText_ok l G hx0 h3 ad _) hx0 ⟨by decide, _, _, rfl⟩ gd_RX10_77 hdV_X10_layText rfl ⟨rfl, rfl, by decide, by decide⟩ ⟨Nat.zero_le _, Nat.zero_le _⟩ hl.1 rfl (Nat.le_of_ble_eq_true rfl) dX10_lay_1) (fun H locs Sm2 h4 => ?_)
  cases hF
  exact Kr _ _ _ _ Sm2 dX10_lay_4 ⟨h4.1, fun h9 => absurd h9 (by decide)⟩ rfl
theorem cX10_lay_ok (l : Launch) (G : Gl) {g : Shp} {x0 : Int} {m m' : Mem} {r : Int} (hx0 : gk g x0 = 11) (hF : fX10_lay g x0 m = some (r, m')) : mI l yX10_lay (wT yX10_lay cX10_lay 1 (some .int)) rX10_lay G false (fun ad => [.ref (ad x0)]) g m r m' :=
  met_i (by decide) (fun ad => Nat.le_of_ble_eq_true rfl) (fun p e s mt args below meth c Q A H0 H locs ad ls C hnm S hl Kr => wX10_lay_0 C S hx0 hl hF Kr)
set_option maxRecDepth 20000 in
theorem wX10_beginChange_0 {p : Program} {l : Launch} {e : Env} {s : State} {mt : MethodId} {args : Array Value} {below : List Frame} {meth : Method} {c : Code} {Q : State → Prop} {G : Gl} {A : Nat → Prop} {H0 : Heap} {ad : Int → Nat} {g : Shp} {H : Heap} {locs : List Loc} {ls : Array Slot} {m : Mem} {x0 : Int} (C : CallFix p mt c cX10_beginChange 1 s args tb RX10) (S : Wd G A s H0 ad g m H locs) (hx0 : gk g x0 = 11) (hl : lv_has ls 1 [(0, .ref (ad x0))]) {r : Int} {m' : Mem} (hF : bX10_beginChange_0 g x0 m = some (r, m')) (Kr : ∀ (H : Heap) (locs : List Loc) (pc : Nat) (ls : Array Slot), Wd G A s H0 ad g m' H locs → decode cX10_beginChange pc = .ok (.return_, 1) → W p l e rX10_beginChange s mt args below meth c H locs 0 0 Q (F0 mt pc ls [])) : W p l e rX10_beginChange s mt args below meth c H locs 0 0 Q (F0 mt 0 ls []) := by
  unfold bX10_beginChange_0 at hF
  refine q_aload_n C hl 0 rfl rfl dX10_beginChange_0 ?_
  obtain ⟨k1, hF⟩ := ck_ok hF
  refine q_getr C S 3 fo_RX10_33 (j := 3) rfl rfl hx0 k1 (by decide) dX10_beginChange_1 ?_
  refine q_aload_n C hl 0 rfl rfl dX10_beginChange_4 ?_
  obtain ⟨k2, hF⟩ := ck_ok hF
  refine q_getr C S 2 fo_RX10_26 (j := 2) rfl rfl hx0 k2 (by decide) dX10_beginChange_5 ?_
  obtain ⟨v3, m4, h5, hF⟩ := bd2_ok hF
  refine q_cv S (run_V (As := [.ref (ad (m x0 2))]) (rest := []) C S (cX4_keep_ok l G k1 k2 h5 ad _) k1 ⟨by decide, _, _, rfl⟩ gd_RX10_235 hdV_X4_keep rfl ⟨rfl, rfl, by decide, by decide⟩ ⟨Nat.zero_le _, Nat.zero_le _⟩ hl.1 rfl (Nat.le_of_ble_eq_true rfl) dX10_beginChange_8) (fun H locs Sm4 => ?_)
  refine q_aload_n C hl 0 rfl rfl dX10_beginChange_11 ?_
  obtain ⟨v6, m7, h8, hF⟩ := bd2_ok hF
  refine q_cv Sm4 (run_V (As := []) (rest := []) C Sm4 (cX10_forgetAnswers_ok l G hx0 h8 ad _) hx0 ⟨by decide, _, _, rfl⟩ gd_RX10_211 hdV_X10_forgetAnswers rfl ⟨rfl, rfl, by decide, by decide⟩ ⟨Nat.zero_le _, Nat.zero_le _⟩ hl.1 rfl (Nat.le_of_ble_eq_true rfl) dX10_beginChange_12) (fun H locs Sm7 => ?_)
  cases hF
  exact Kr _ _ _ _ Sm7 dX10_beginChange_15
theorem cX10_beginChange_ok (l : Launch) (G : Gl) {g : Shp} {x0 : Int} {m m' : Mem} {r : Int} (hx0 : gk g x0 = 11) (hF : fX10_beginChange g x0 m = some (r, m')) : mV l yX10_beginChange (wT yX10_beginChange cX10_beginChange 1 none) rX10_beginChange G (fun ad => [.ref (ad x0)]) g m m' :=
  met_v (by decide) (fun ad => Nat.le_of_ble_eq_true rfl) (fun p e s mt args below meth c Q A H0 H locs ad ls C hnm S hl Kr => wX10_beginChange_0 C S hx0 hl hF Kr)
set_option maxRecDepth 20000 in
theorem wX10_joint_9 {p : Program} {l : Launch} {e : Env} {s : State} {mt : MethodId} {args : Array Value} {below : List Frame} {meth : Method} {c : Code} {Q : State → Prop} {G : Gl} {A : Nat → Prop} {H0 : Heap} {ad : Int → Nat} {g : Shp} {H : Heap} {locs : List Loc} {ls : Array Slot} {m : Mem} (C : CallFix p mt c cX10_joint 3 s args tb RX10) (S : Wd G A s H0 ad g m H locs)  (hl : lv_has ls 3 []) {r : Int} {m' : Mem} (hF : bX10_joint_9 g m = some (r, m')) (Kr : ∀ (H : Heap) (locs : List Loc) (pc : Nat) (ls : Array Slot), Wd G A s H0 ad g m' H locs → decode cX10_joint pc = .ok (.ireturn, 1) → r32 r ∧ (false = true → r = 0 ∨ r = 1) → narrow .int (.int (iI r)) = .int (iI r) → W p l e rX10_joint s mt args below meth c H locs 0 0 Q (F0 mt pc ls [.int (iI r)])) : W p l e rX10_joint s mt args below meth c H locs 0 0 Q (F0 mt 9 ls []) := by
  unfold bX10_joint_9 at hF
  refine q_iconst C (-1) dX10_joint_9 ?_
  cases hF
  exact Kr _ _ _ _ S dX10_joint_10 ⟨(rl (-1) rfl), fun h9 => absurd h9 (by decide)⟩ rfl
set_option maxRecDepth 20000 in
theorem wX10_joint_0 {p : Program} {l : Launch} {e : Env} {s : State} {mt : MethodId} {args : Array Value} {below : List Frame} {meth : Method} {c : Code} {Q : State → Prop} {G : Gl} {A : Nat → Prop} {H0 : Heap} {ad : Int → Nat} {g : Shp} {H : Heap} {locs : List Loc} {ls : Array Slot} {m : Mem} {x0 x1 : Int} (C : CallFix p mt c cX10_joint 3 s args tb RX10) (S : Wd G A s H0 ad g m H locs) (hx0 : gk g x0 = 11) (hx1 : r32 x1) (hl : lv_has ls 3 [(0, .ref (ad x0)), (1, .int (iI x1))]) {r : Int} {m' : Mem} (hF : bX10_joint_0 g x0 x1 m = some (r, m')) (Kr : ∀ (H : Heap) (locs : List Loc) (pc : Nat) (ls : Array Slot), Wd G A s H0 ad g m' H locs → decode cX10_joint pc = .ok (.ireturn, 1) → r32 r ∧ (false = true → r = 0 ∨ r = 1) → narrow .int (.int (iI r)) = .int (iI r) → W p l e rX10_joint s mt args below meth c H locs 0 0 Q (F0 mt pc ls [.int (iI r)])) : W p l e rX10_joint s mt args below meth c H locs 0 0 Q (F0 mt 0 ls []) := by
  unfold bX10_joint_0 at hF
  refine q_iload_n C hl 1 rfl rfl dX10_joint_0 ?_
  refine q_if_lt C hx1 9 dX10_joint_1 (by decide) (fun hc1 => ?_) (fun hc1 => ?_)
  · have hF := if_t hc1 hF
    exact wX10_joint_9 C S  (lv_sub hl [] rfl) hF Kr
  · have hF := if_f hc1 hF
    refine q_iload_n C hl 1 rfl rfl dX10_joint_4 ?_
    refine q_iconst C 2 dX10_joint_5 ?_
    refine q_icmp_le C hx1 (rl 2 rfl) 11 dX10_joint_6 (by decide) (fun hc2 => ?_) (fun hc2 => ?_)
    · have hF := if_t hc2 hF
      refine q_iload_n C hl 1 rfl rfl dX10_joint_11 ?_
      refine q_aload_n C hl 0 rfl rfl dX10_joint_12 ?_
      obtain ⟨k3, hF⟩ := ck_ok hF
      refine q_getr C S 2 fo_RX10_26 (j := 2) rfl rfl hx0 k3 (by decide) dX10_joint_13 ?_
      refine q_geti C S 7 fo_RX10_87 (j := 7) rfl rfl k3 dX10_joint_16 ?_
      refine q_icmp_ne C hx1 (S.r _ _) 25 dX10_joint_19 (by decide) (fun hc4 => ?_) (fun hc4 => ?_)
      · have hF := if_t hc4 hF
        refine q_bipush C (-2) (by decide) dX10_joint_22 ?_
        cases hF
        exact Kr _ _ _ _ S dX10_joint_24 ⟨(rl (-2) rfl), fun h9 => absurd h9 (by decide)⟩ rfl
      · have hF := if_f hc4 hF
        refine q_aload_n C hl 0 rfl rfl dX10_joint_25 ?_
        obtain ⟨v5, m6, h7, hF⟩ := bd2_ok hF
        refine q_cv S (run_V (As := []) (rest := []) C S (cX10_beginChange_ok l G hx0 h7 ad _) hx0 ⟨by decide, _, _, rfl⟩ gd_RX10_90 hdV_X10_beginChange rfl ⟨rfl, rfl, by decide, by decide⟩ ⟨Nat.zero_le _, Nat.zero_le _⟩ hl.1 rfl (Nat.le_of_ble_eq_true rfl) dX10_joint_26) (fun H locs Sm6 => ?_)
        refine q_aload_n C hl 0 rfl rfl dX10_joint_29 ?_
        obtain ⟨k8, hF⟩ := ck_ok hF
        refine q_getr C Sm6 2 fo_RX10_26 (j := 2) rfl rfl hx0 k8 (by decide) dX10_joint_30 ?_
        refine q_geti C Sm6 7 fo_RX10_87 (j := 7) rfl rfl k8 dX10_joint_33 ?_
        obtain ⟨y9, ey9, hF⟩ := vv_ok hF
        have ry9 : r32 y9 := ey9 ▸ (Sm6.r _ _)
        refine q_istore_n C hl [(2, .int (iI y9)), (0, .ref (ad x0)), (1, .int (iI x1))] ey9 rfl (by decide) rfl dX10_joint_36 (fun ls hl => ?_)
        refine q_aload_n C hl 1 rfl rfl dX10_joint_37 ?_
        refine q_getr C Sm6 2 fo_RX10_26 (j := 2) rfl rfl hx0 k8 (by decide) dX10_joint_38 ?_
        refine q_iload_n C hl 2 rfl rfl dX10_joint_41 ?_
        obtain ⟨m10, em10, hF⟩ := vm_ok hF
        refine q_put C Sm6 7 fo_RX10_87 fp_2_7 (fun h9 => absurd h9 (by decide)) (j := 7) rfl k8 rfl rfl rfl hx1 (fun h9 => absurd h9 (by decide)) em10 dX10_joint_42 (fun H locs Sm10 => ?_)
        refine q_iload_n C hl 0 rfl rfl dX10_joint_45 ?_
        cases hF
        exact Kr _ _ _ _ Sm10 dX10_joint_46 ⟨ry9, fun h9 => absurd h9 (by decide)⟩ rfl
    · have hF := if_f hc2 hF
      exact wX10_joint_9 C S  (lv_sub hl [] rfl) hF Kr
theorem cX10_joint_ok (l : Launch) (G : Gl) {g : Shp} {x0 x1 : Int} {m m' : Mem} {r : Int} (hx0 : gk g x0 = 11) (hx1 : r32 x1) (hF : fX10_joint g x0 x1 m = some (r, m')) : mI l yX10_joint (wT yX10_joint cX10_joint 3 (some .int)) rX10_joint G false (fun ad => [.ref (ad x0), .int (iI x1)]) g m r m' :=
  met_i (by decide) (fun ad => Nat.le_of_ble_eq_true rfl) (fun p e s mt args below meth c Q A H0 H locs ad ls C hnm S hl Kr => wX10_joint_0 C S hx0 hx1 hl hF Kr)
set_option maxRecDepth 20000 in
theorem wX10_isLine_20 {p : Program} {l : Launch} {e : Env} {s : State} {mt : MethodId} {args : Array Value} {below : List Frame} {meth : Method} {c : Code} {Q : State → Prop} {G : Gl} {A : Nat → Prop} {H0 : Heap} {ad : Int → Nat} {g : Shp} {H : Heap} {locs : List Loc} {ls : Array Slot} {m : Mem} {z0 : Int} (C : CallFix p mt c cX10_isLine 2 s args tb RX10) (S : Wd G A s H0 ad g m H locs) (hz0 : r32 z0) (hl : lv_has ls 2 []) {r : Int} {m' : Mem} (hF : bX10_isLine_20 g z0 m = some (r, m')) (Kr : ∀ (H : Heap) (locs : List Loc) (pc : Nat) (ls : Array Slot), Wd G A s H0 ad g m' H locs → decode cX10_isLine pc = .ok (.ireturn, 1) → r32 r ∧ (true = true → r = 0 ∨ r = 1) → narrow .boolean (.int (iI r)) = .int (iI r) → W p l e rX10_isLine s mt args below meth c H locs 0 0 Q (F0 mt pc ls [.int (iI r)])) : W p l e rX10_isLine s mt args below meth c H locs 0 0 Q (F0 mt 20 ls [.int (iI z0)]) := by
  unfold bX10_isLine_20 at hF
  obtain ⟨b1, hF⟩ := ck_ok hF
  cases hF
  exact Kr _ _ _ _ S dX10_isLine_20 ⟨r_b b1, fun _ => b1⟩ (nr_b b1)
set_option maxRecDepth 20000 in
theorem wX10_isLine_19 {p : Program} {l : Launch} {e : Env} {s : State} {mt : MethodId} {args : Array Value} {below : List Frame} {meth : Method} {c : Code} {Q : State → Prop} {G : Gl} {A : Nat → Prop} {H0 : Heap} {ad : Int → Nat} {g : Shp} {H : Heap} {locs : List Loc} {ls : Array Slot} {m : Mem} (C : CallFix p mt c cX10_isLine 2 s args tb RX10) (S : Wd G A s H0 ad g m H locs)  (hl : lv_has ls 2 []) {r : Int} {m' : Mem} (hF : bX10_isLine_19 g m = some (r, m')) (Kr : ∀ (H : Heap) (locs : List Loc) (pc : Nat) (ls : Array Slot), Wd G A s H0 ad g m' H locs → decode cX10_isLine pc = .ok (.ireturn, 1) → r32 r ∧ (true = true → r = 0 ∨ r = 1) → narrow .boolean (.int (iI r)) = .int (iI r) → W p l e rX10_isLine s mt args below meth c H locs 0 0 Q (F0 mt pc ls [.int (iI r)])) : W p l e rX10_isLine s mt args below meth c H locs 0 0 Q (F0 mt 19 ls []) := by
  unfold bX10_isLine_19 at hF
  refine q_iconst C 0 dX10_isLine_19 ?_
  exact wX10_isLine_20 C S (rl 0 rfl) (lv_sub hl [] rfl) hF Kr
set_option maxRecDepth 20000 in
theorem wX10_isLine_0 {p : Program} {l : Launch} {e : Env} {s : State} {mt : MethodId} {args : Array Value} {below : List Frame} {meth : Method} {c : Code} {Q : State → Prop} {G : Gl} {A : Nat → Prop} {H0 : Heap} {ad : Int → Nat} {g : Shp} {H : Heap} {locs : List Loc} {ls : Array Slot} {m : Mem} {x0 x1 : Int} (C : CallFix p mt c cX10_isLine 2 s args tb RX10) (S : Wd G A s H0 ad g m H locs) (hx0 : gk g x0 = 11) (hx1 : r32 x1) (hl : lv_has ls 2 [(0, .ref (ad x0)), (1, .int (iI x1))]) {r : Int} {m' : Mem} (hF : bX10_isLine_0 g x0 x1 m = some (r, m')) (Kr : ∀ (H : Heap) (locs : List Loc) (pc : Nat) (ls : Array Slot), Wd G A s H0 ad g m' H locs → decode cX10_isLine pc = .ok (.ireturn, 1) → r32 r ∧ (true = true → r = 0 ∨ r = 1) → narrow .boolean (.int (iI r)) = .int (iI r) → W p l e rX10_isLine s mt args below meth c H locs 0 0 Q (F0 mt pc ls [.int (iI r)])) : W p l e rX10_isLine s mt args below meth c H locs 0 0 Q (F0 mt 0 ls []) := by
  unfold bX10_isLine_0 at hF
  refine q_iload_n C hl 1 rfl rfl dX10_isLine_0 ?_
  refine q_if_lt C hx1 19 dX10_isLine_1 (by decide) (fun hc1 => ?_) (fun hc1 => ?_)
  · have hF := if_t hc1 hF
    exact wX10_isLine_19 C S  (lv_sub hl [] rfl) hF Kr
  · have hF := if_f hc1 hF
    refine q_iload_n C hl 1 rfl rfl dX10_isLine_4 ?_
    refine q_aload_n C hl 0 rfl rfl dX10_isLine_5 ?_
    obtain ⟨k2, hF⟩ := ck_ok hF
    refine q_getr C S 6 fo_RX10_53 (j := 6) rfl rfl hx0 k2 (by decide) dX10_isLine_6 ?_
    refine q_geti C S 5 fo_RX10_214 (j := 5) rfl rfl k2 dX10_isLine_9 ?_
    refine q_icmp_ge C hx1 (S.r _ _) 19 dX10_isLine_12 (by decide) (fun hc3 => ?_) (fun hc3 => ?_)
    · have hF := if_t hc3 hF
      exact wX10_isLine_19 C S  (lv_sub hl [] rfl) hF Kr
    · have hF := if_f hc3 hF
      refine q_iconst C 1 dX10_isLine_15 ?_
      refine q_goto C 20 dX10_isLine_16 (by decide) ?_
      exact wX10_isLine_20 C S (rl 1 rfl) (lv_sub hl [] rfl) hF Kr
theorem cX10_isLine_ok (l : Launch) (G : Gl) {g : Shp} {x0 x1 : Int} {m m' : Mem} {r : Int} (hx0 : gk g x0 = 11) (hx1 : r32 x1) (hF : fX10_isLine g x0 x1 m = some (r, m')) : mI l yX10_isLine (wT yX10_isLine cX10_isLine 2 (some .boolean)) rX10_isLine G true (fun ad => [.ref (ad x0), .int (iI x1)]) g m r m' :=
  met_i (by decide) (fun ad => Nat.le_of_ble_eq_true rfl) (fun p e s mt args below meth c Q A H0 H locs ad ls C hnm S hl Kr => wX10_isLine_0 C S hx0 hx1 hl hF Kr)
set_option maxRecDepth 20000 in
theorem wX10_line_0 {p : Program} {l : Launch} {e : Env} {s : State} {mt : MethodId} {args : Array Value} {below : List Frame} {meth : Method} {c : Code} {Q : State → Prop} {G : Gl} {A : Nat → Prop} {H0 : Heap} {ad : Int → Nat} {g : Shp} {H : Heap} {locs : List Loc} {ls : Array Slot} {m : Mem} {x0 x1 x2 : Int} (C : CallFix p mt c cX10_line 3 s args tb RX10) (S : Wd G A s H0 ad g m H locs) (hx0 : gk g x0 = 11) (hx1 : r32 x1) (hx2 : r32 x2) (hl : lv_has ls 3 [(0, .ref (ad x0)), (1, .int (iI x1)), (2, .int (iI x2))]) {r : Int} {m' : Mem} (hF : bX10_line_0 g x0 x1 x2 m = some (r, m')) (Kr : ∀ (H : Heap) (locs : List Loc) (pc : Nat) (ls : Array Slot), Wd G A s H0 ad g m' H locs → decode cX10_line pc = .ok (.ireturn, 1) → r32 r ∧ (false = true → r = 0 ∨ r = 1) → narrow .int (.int (iI r)) = .int (iI r) → W p l e rX10_line s mt args below meth c H locs 0 0 Q (F0 mt pc ls [.int (iI r)])) : W p l e rX10_line s mt args below meth c H locs 0 0 Q (F0 mt 0 ls []) := by
  unfold bX10_line_0 at hF
  refine q_aload_n C hl 0 rfl rfl dX10_line_0 ?_
  refine q_iload_n C hl 1 rfl rfl dX10_line_1 ?_
  obtain ⟨v1, m2, h3, hF⟩ := bd2_ok hF
  refine q_ci S (run_V (As := [.int (iI x1)]) (rest := []) C S (cX10_isLine_ok l G hx0 hx1 h3 ad _) hx0 ⟨by decide, _, _, rfl⟩ gd_RX10_93 hdV_X10_isLine rfl ⟨rfl, rfl, by decide, by decide⟩ ⟨Nat.zero_le _, Nat.zero_le _⟩ hl.1 rfl (Nat.le_of_ble_eq_true rfl) dX10_line_2) (fun H locs Sm2 h4 => ?_)
  refine q_if_ne C h4.1 10 dX10_line_5 (by decide) (fun hc5 => ?_) (fun hc5 => ?_)
  · have hF := if_t hc5 hF
    refine q_iconst C (-1) dX10_line_8 ?_
    cases hF
    exact Kr _ _ _ _ Sm2 dX10_line_9 ⟨(rl (-1) rfl), fun h9 => absurd h9 (by decide)⟩ rfl
  · have hF := if_f hc5 hF
    refine q_iload_n C hl 2 rfl rfl dX10_line_10 ?_
    by_cases hc6 : x2 = 0
    · have hF := if_t hc6 hF
      refine q_tin C hx2 0 hc6 41 52 dX10_line_11 (by decide) rfl (by decide) ?_
      refine q_aload_n C hl 0 rfl rfl dX10_line_52 ?_
      obtain ⟨k7, hF⟩ := ck_ok hF
      refine q_getr C Sm2 6 fo_RX10_53 (j := 6) rfl rfl hx0 k7 (by decide) dX10_line_53 ?_
      obtain ⟨k8, hF⟩ := ck_ok hF
      refine q_getr C Sm2 2 fo_RX10_97 (j := 2) rfl rfl k7 k8 (by decide) dX10_line_56 ?_
      refine q_iload_n C hl 1 rfl rfl dX10_line_59 ?_
      obtain ⟨i9, hF⟩ := ck_ok hF
      obtain ⟨k10, hF⟩ := ck_ok hF
      refine q_aald C Sm2 k8 (by decide) i9 k10 (by decide) dX10_line_60 ?_
      refine q_geti C Sm2 3 fo_RX10_101 (j := 3) rfl rfl k10 dX10_line_61 ?_
      cases hF
      exact Kr _ _ _ _ Sm2 dX10_line_64 ⟨(Sm2.r _ _), fun h9 => absurd h9 (by decide)⟩ rfl
    · have hF := if_f hc6 hF
      by_cases hc11 : x2 = 1
      · have hF := if_t hc11 hF
        refine q_tin C hx2 1 hc11 54 65 dX10_line_11 (by decide) rfl (by decide) ?_
        refine q_aload_n C hl 0 rfl rfl dX10_line_65 ?_
        obtain ⟨k12, hF⟩ := ck_ok hF
        refine q_getr C Sm2 6 fo_RX10_53 (j := 6) rfl rfl hx0 k12 (by decide) dX10_line_66 ?_
        obtain ⟨k13, hF⟩ := ck_ok hF
        refine q_getr C Sm2 2 fo_RX10_97 (j := 2) rfl rfl k12 k13 (by decide) dX10_line_69 ?_
        refine q_iload_n C hl 1 rfl rfl dX10_line_72 ?_
        obtain ⟨i14, hF⟩ := ck_ok hF
        obtain ⟨k15, hF⟩ := ck_ok hF
        refine q_aald C Sm2 k13 (by decide) i14 k15 (by decide) dX10_line_73 ?_
        refine q_geti C Sm2 2 fo_RX10_106 (j := 2) rfl rfl k15 dX10_line_74 ?_
        cases hF
        exact Kr _ _ _ _ Sm2 dX10_line_77 ⟨(Sm2.r _ _), fun h9 => absurd h9 (by decide)⟩ rfl
      · have hF := if_f hc11 hF
        by_cases hc16 : x2 = 2
        · have hF := if_t hc16 hF
          refine q_tin C hx2 2 hc16 67 78 dX10_line_11 (by decide) rfl (by decide) ?_
          refine q_aload_n C hl 0 rfl rfl dX10_line_78 ?_
          obtain ⟨k17, hF⟩ := ck_ok hF
          refine q_getr C Sm2 6 fo_RX10_53 (j := 6) rfl rfl hx0 k17 (by decide) dX10_line_79 ?_
          obtain ⟨k18, hF⟩ := ck_ok hF
          refine q_getr C Sm2 2 fo_RX10_97 (j := 2) rfl rfl k17 k18 (by decide) dX10_line_82 ?_
          refine q_iload_n C hl 1 rfl rfl dX10_line_85 ?_
          obtain ⟨i19, hF⟩ := ck_ok hF
          obtain ⟨k20, hF⟩ := ck_ok hF
          refine q_aald C Sm2 k18 (by decide) i19 k20 (by decide) dX10_line_86 ?_
          refine q_geti C Sm2 3 fo_RX10_101 (j := 3) rfl rfl k20 dX10_line_87 ?_
          refine q_iconst C 1 dX10_line_90 ?_
          refine q_isub C dX10_line_91 ?_
          cases hF
          exact Kr _ _ _ _ Sm2 dX10_line_92 ⟨(r32_w _), fun h9 => absurd h9 (by decide)⟩ rfl
        · have hF := if_f hc16 hF
          by_cases hc21 : x2 = 3
          · have hF := if_t hc21 hF
            refine q_tin C hx2 3 hc21 82 93 dX10_line_11 (by decide) rfl (by decide) ?_
            refine q_aload_n C hl 0 rfl rfl dX10_line_93 ?_
            obtain ⟨k22, hF⟩ := ck_ok hF
            refine q_getr C Sm2 2 fo_RX10_26 (j := 2) rfl rfl hx0 k22 (by decide) dX10_line_94 ?_
            obtain ⟨k23, hF⟩ := ck_ok hF
            refine q_getr C Sm2 2 fo_RX10_109 (j := 2) rfl rfl k22 k23 (by decide) dX10_line_97 ?_
            refine q_iload_n C hl 1 rfl rfl dX10_line_100 ?_
            obtain ⟨i24, hF⟩ := ck_ok hF
            refine q_iald C Sm2 k23 i24 dX10_line_101 ?_
            cases hF
            exact Kr _ _ _ _ Sm2 dX10_line_102 ⟨(Sm2.r _ _), fun h9 => absurd h9 (by decide)⟩ rfl
          · have hF := if_f hc21 hF
            by_cases hc25 : x2 = 4
            · have hF := if_t hc25 hF
              refine q_tin C hx2 4 hc25 92 103 dX10_line_11 (by decide) rfl (by decide) ?_
              refine q_aload_n C hl 0 rfl rfl dX10_line_103 ?_
              obtain ⟨k26, hF⟩ := ck_ok hF
              refine q_getr C Sm2 2 fo_RX10_26 (j := 2) rfl rfl hx0 k26 (by decide) dX10_line_104 ?_
              refine q_iload_n C hl 1 rfl rfl dX10_line_107 ?_
              refine q_aload_n C hl 0 rfl rfl dX10_line_108 ?_
              obtain ⟨k27, hF⟩ := ck_ok hF
              refine q_getr C Sm2 6 fo_RX10_53 (j := 6) rfl rfl hx0 k27 (by decide) dX10_line_109 ?_
              obtain ⟨k28, hF⟩ := ck_ok hF
              refine q_getr C Sm2 2 fo_RX10_97 (j := 2) rfl rfl k27 k28 (by decide) dX10_line_112 ?_
              refine q_iload_n C hl 1 rfl rfl dX10_line_115 ?_
              obtain ⟨i29, hF⟩ := ck_ok hF
              obtain ⟨k30, hF⟩ := ck_ok hF
              refine q_aald C Sm2 k28 (by decide) i29 k30 (by decide) dX10_line_116 ?_
              obtain ⟨v31, m32, h33, hF⟩ := bd2_ok hF
              refine q_ci Sm2 (run_V (As := [.int (iI x1), .ref (ad (m2 (m2 (m2 x0 6) 2) x1))]) (rest := []) C Sm2 (cX1_cellsOf_ok l G k26 hx1 k30 h33 ad _) k26 ⟨by decide, _, _, rfl⟩ gd_RX10_113 hdV_X1_cellsOf rfl ⟨rfl, rfl, by decide, by decide⟩ ⟨Nat.zero_le _, Nat.zero_le _⟩ hl.1 rfl (Nat.le_of_ble_eq_true rfl) dX10_line_117) (fun H locs Sm32 h34 => ?_)
              cases hF
              exact Kr _ _ _ _ Sm32 dX10_line_120 ⟨h34.1, fun h9 => absurd h9 (by decide)⟩ rfl
            · have hF := if_f hc25 hF
              by_cases hc35 : x2 = 5
              · have hF := if_t hc35 hF
                refine q_tin C hx2 5 hc35 110 121 dX10_line_11 (by decide) rfl (by decide) ?_
                refine q_aload_n C hl 0 rfl rfl dX10_line_121 ?_
                obtain ⟨k36, hF⟩ := ck_ok hF
                refine q_getr C Sm2 2 fo_RX10_26 (j := 2) rfl rfl hx0 k36 (by decide) dX10_line_122 ?_
                obtain ⟨k37, hF⟩ := ck_ok hF
                refine q_getr C Sm2 3 fo_RX10_117 (j := 3) rfl rfl k36 k37 (by decide) dX10_line_125 ?_
                refine q_iload_n C hl 1 rfl rfl dX10_line_128 ?_
                obtain ⟨i38, hF⟩ := ck_ok hF
                refine q_iald C Sm2 k37 i38 dX10_line_129 ?_
                cases hF
                exact Kr _ _ _ _ Sm2 dX10_line_130 ⟨(Sm2.r _ _), fun h9 => absurd h9 (by decide)⟩ rfl
              · have hF := if_f hc35 hF
                by_cases hc39 : x2 = 6
                · have hF := if_t hc39 hF
                  refine q_tin C hx2 6 hc39 120 131 dX10_line_11 (by decide) rfl (by decide) ?_
                  refine q_aload_n C hl 0 rfl rfl dX10_line_131 ?_
                  obtain ⟨k40, hF⟩ := ck_ok hF
                  refine q_getr C Sm2 2 fo_RX10_26 (j := 2) rfl rfl hx0 k40 (by decide) dX10_line_132 ?_
                  obtain ⟨k41, hF⟩ := ck_ok hF
                  refine q_getr C Sm2 4 fo_RX10_120 (j := 4) rfl rfl k40 k41 (by decide) dX10_line_135 ?_
                  refine q_iload_n C hl 1 rfl rfl dX10_line_138 ?_
                  obtain ⟨i42, hF⟩ := ck_ok hF
                  refine q_iald C Sm2 k41 i42 dX10_line_139 ?_
                  cases hF
                  exact Kr _ _ _ _ Sm2 dX10_line_140 ⟨(Sm2.r _ _), fun h9 => absurd h9 (by decide)⟩ rfl
                · have hF := if_f hc39 hF
                  refine q_tout C hx2 141 dX10_line_11 (by omega) (by decide) ?_
                  refine q_iconst C (-1) dX10_line_141 ?_
                  cases hF
                  exact Kr _ _ _ _ Sm2 dX10_line_142 ⟨(rl (-1) rfl), fun h9 => absurd h9 (by decide)⟩ rfl
theorem cX10_line_ok (l : Launch) (G : Gl) {g : Shp} {x0 x1 x2 : Int} {m m' : Mem} {r : Int} (hx0 : gk g x0 = 11) (hx1 : r32 x1) (hx2 : r32 x2) (hF : fX10_line g x0 x1 x2 m = some (r, m')) : mI l yX10_line (wT yX10_line cX10_line 3 (some .int)) rX10_line G false (fun ad => [.ref (ad x0), .int (iI x1), .int (iI x2)]) g m r m' :=
  met_i (by decide) (fun ad => Nat.le_of_ble_eq_true rfl) (fun p e s mt args below meth c Q A H0 H locs ad ls C hnm S hl Kr => wX10_line_0 C S hx0 hx1 hx2 hl hF Kr)
set_option maxRecDepth 20000 in
theorem wX10_cell_12 {p : Program} {l : Launch} {e : Env} {s : State} {mt : MethodId} {args : Array Value} {below : List Frame} {meth : Method} {c : Code} {Q : State → Prop} {G : Gl} {A : Nat → Prop} {H0 : Heap} {ad : Int → Nat} {g : Shp} {H : Heap} {locs : List Loc} {ls : Array Slot} {m : Mem} (C : CallFix p mt c cX10_cell 3 s args tb RX10) (S : Wd G A s H0 ad g m H locs)  (hl : lv_has ls 3 []) {r : Int} {m' : Mem} (hF : bX10_cell_12 g m = some (r, m')) (Kr : ∀ (H : Heap) (locs : List Loc) (pc : Nat) (ls : Array Slot), Wd G A s H0 ad g m' H locs → decode cX10_cell pc = .ok (.ireturn, 1) → r32 r ∧ (false = true → r = 0 ∨ r = 1) → narrow .int (.int (iI r)) = .int (iI r) → W p l e rX10_cell s mt args below meth c H locs 0 0 Q (F0 mt pc ls [.int (iI r)])) : W p l e rX10_cell s mt args below meth c H locs 0 0 Q (F0 mt 12 ls []) := by
  unfold bX10_cell_12 at hF
  refine q_iconst C (-1) dX10_cell_12 ?_
  cases hF
  exact Kr _ _ _ _ S dX10_cell_13 ⟨(rl (-1) rfl), fun h9 => absurd h9 (by decide)⟩ rfl
set_option maxRecDepth 20000 in
theorem wX10_cell_49 {p : Program} {l : Launch} {e : Env} {s : State} {mt : MethodId} {args : Array Value} {below : List Frame} {meth : Method} {c : Code} {Q : State → Prop} {G : Gl} {A : Nat → Prop} {H0 : Heap} {ad : Int → Nat} {g : Shp} {H : Heap} {locs : List Loc} {ls : Array Slot} {m : Mem} {z0 : Int} (C : CallFix p mt c cX10_cell 3 s args tb RX10) (S : Wd G A s H0 ad g m H locs) (hz0 : r32 z0) (hl : lv_has ls 3 []) {r : Int} {m' : Mem} (hF : bX10_cell_49 g z0 m = some (r, m')) (Kr : ∀ (H : Heap) (locs : List Loc) (pc : Nat) (ls : Array Slot), Wd G A s H0 ad g m' H locs → decode cX10_cell pc = .ok (.ireturn, 1) → r32 r ∧ (false = true → r = 0 ∨ r = 1) → narrow .int (.int (iI r)) = .int (iI r) → W p l e rX10_cell s mt args below meth c H locs 0 0 Q (F0 mt pc ls [.int (iI r)])) : W p l e rX10_cell s mt args below meth c H locs 0 0 Q (F0 mt 49 ls [.int (iI z0)]) := by
  unfold bX10_cell_49 at hF
  cases hF
  exact Kr _ _ _ _ S dX10_cell_49 ⟨hz0, fun h9 => absurd h9 (by decide)⟩ rfl
set_option maxRecDepth 20000 in
theorem wX10_cell_0 {p : Program} {l : Launch} {e : Env} {s : State} {mt : MethodId} {args : Array Value} {below : List Frame} {meth : Method} {c : Code} {Q : State → Prop} {G : Gl} {A : Nat → Prop} {H0 : Heap} {ad : Int → Nat} {g : Shp} {H : Heap} {locs : List Loc} {ls : Array Slot} {m : Mem} {x0 x1 x2 : Int} (C : CallFix p mt c cX10_cell 3 s args tb RX10) (S : Wd G A s H0 ad g m H locs) (hx0 : gk g x0 = 11) (hx1 : r32 x1) (hx2 : r32 x2) (hl : lv_has ls 3 [(0, .ref (ad x0)), (1, .int (iI x1)), (2, .int (iI x2))]) {r : Int} {m' : Mem} (hF : bX10_cell_0 g x0 x1 x2 m = some (r, m')) (Kr : ∀ (H : Heap) (locs : List Loc) (pc : Nat) (ls : Array Slot), Wd G A s H0 ad g m' H locs → decode cX10_cell pc = .ok (.ireturn, 1) → r32 r ∧ (false = true → r = 0 ∨ r = 1) → narrow .int (.int (iI r)) = .int (iI r) → W p l e rX10_cell s mt args below meth c H locs 0 0 Q (F0 mt pc ls [.int (iI r)])) : W p l e rX10_cell s mt args below meth c H locs 0 0 Q (F0 mt 0 ls []) := by
  unfold bX10_cell_0 at hF
  refine q_aload_n C hl 0 rfl rfl dX10_cell_0 ?_
  refine q_iload_n C hl 1 rfl rfl dX10_cell_1 ?_
  obtain ⟨v1, m2, h3, hF⟩ := bd2_ok hF
  refine q_ci S (run_V (As := [.int (iI x1)]) (rest := []) C S (cX10_isLine_ok l G hx0 hx1 h3 ad _) hx0 ⟨by decide, _, _, rfl⟩ gd_RX10_93 hdV_X10_isLine rfl ⟨rfl, rfl, by decide, by decide⟩ ⟨Nat.zero_le _, Nat.zero_le _⟩ hl.1 rfl (Nat.le_of_ble_eq_true rfl) dX10_cell_2) (fun H locs Sm2 h4 => ?_)
  refine q_if_eq C h4.1 12 dX10_cell_5 (by decide) (fun hc5 => ?_) (fun hc5 => ?_)
  · have hF := if_t hc5 hF
    exact wX10_cell_12 C Sm2  (lv_sub hl [] rfl) hF Kr
  · have hF := if_f hc5 hF
    refine q_iload_n C hl 2 rfl rfl dX10_cell_8 ?_
    refine q_if_ge C hx2 14 dX10_cell_9 (by decide) (fun hc6 => ?_) (fun hc6 => ?_)
    · have hF := if_t hc6 hF
      refine q_iload_n C hl 2 rfl rfl dX10_cell_14 ?_
      refine q_aload_n C hl 0 rfl rfl dX10_cell_15 ?_
      obtain ⟨k7, hF⟩ := ck_ok hF
      refine q_getr C Sm2 6 fo_RX10_53 (j := 6) rfl rfl hx0 k7 (by decide) dX10_cell_16 ?_
      obtain ⟨k8, hF⟩ := ck_ok hF
      refine q_getr C Sm2 2 fo_RX10_97 (j := 2) rfl rfl k7 k8 (by decide) dX10_cell_19 ?_
      refine q_iload_n C hl 1 rfl rfl dX10_cell_22 ?_
      obtain ⟨i9, hF⟩ := ck_ok hF
      obtain ⟨k10, hF⟩ := ck_ok hF
      refine q_aald C Sm2 k8 (by decide) i9 k10 (by decide) dX10_cell_23 ?_
      refine q_geti C Sm2 2 fo_RX10_106 (j := 2) rfl rfl k10 dX10_cell_24 ?_
      refine q_icmp_ge C hx2 (Sm2.r _ _) 47 dX10_cell_27 (by decide) (fun hc11 => ?_) (fun hc11 => ?_)
      · have hF := if_t hc11 hF
        refine q_bipush C (-4) (by decide) dX10_cell_47 ?_
        exact wX10_cell_49 C Sm2 (rl (-4) rfl) (lv_sub hl [] rfl) hF Kr
      · have hF := if_f hc11 hF
        refine q_aload_n C hl 0 rfl rfl dX10_cell_30 ?_
        refine q_getr C Sm2 6 fo_RX10_53 (j := 6) rfl rfl hx0 k7 (by decide) dX10_cell_31 ?_
        refine q_getr C Sm2 2 fo_RX10_97 (j := 2) rfl rfl k7 k8 (by decide) dX10_cell_34 ?_
        refine q_iload_n C hl 1 rfl rfl dX10_cell_37 ?_
        obtain ⟨i12, hF⟩ := ck_ok hF
        obtain ⟨k13, hF⟩ := ck_ok hF
        refine q_aald C Sm2 k8 (by decide) i12 k13 (by decide) dX10_cell_38 ?_
        obtain ⟨k14, hF⟩ := ck_ok hF
        refine q_getr C Sm2 0 fo_RX10_123 (j := 0) rfl rfl k13 k14 (by decide) dX10_cell_39 ?_
        refine q_iload_n C hl 2 rfl rfl dX10_cell_42 ?_
        obtain ⟨i15, hF⟩ := ck_ok hF
        refine q_iald C Sm2 k14 i15 dX10_cell_43 ?_
        refine q_goto C 49 dX10_cell_44 (by decide) ?_
        exact wX10_cell_49 C Sm2 (Sm2.r _ _) (lv_sub hl [] rfl) hF Kr
    · have hF := if_f hc6 hF
      exact wX10_cell_12 C Sm2  (lv_sub hl [] rfl) hF Kr
theorem cX10_cell_ok (l : Launch) (G : Gl) {g : Shp} {x0 x1 x2 : Int} {m m' : Mem} {r : Int} (hx0 : gk g x0 = 11) (hx1 : r32 x1) (hx2 : r32 x2) (hF : fX10_cell g x0 x1 x2 m = some (r, m')) : mI l yX10_cell (wT yX10_cell cX10_cell 3 (some .int)) rX10_cell G false (fun ad => [.ref (ad x0), .int (iI x1), .int (iI x2)]) g m r m' :=
  met_i (by decide) (fun ad => Nat.le_of_ble_eq_true rfl) (fun p e s mt args below meth c Q A H0 H locs ad ls C hnm S hl Kr => wX10_cell_0 C S hx0 hx1 hx2 hl hF Kr)
set_option maxRecDepth 20000 in
theorem wX10_whose_0 {p : Program} {l : Launch} {e : Env} {s : State} {mt : MethodId} {args : Array Value} {below : List Frame} {meth : Method} {c : Code} {Q : State → Prop} {G : Gl} {A : Nat → Prop} {H0 : Heap} {ad : Int → Nat} {g : Shp} {H : Heap} {locs : List Loc} {ls : Array Slot} {m : Mem} {x0 x1 x2 : Int} (C : CallFix p mt c cX10_whose 3 s args tb RX10) (S : Wd G A s H0 ad g m H locs) (hx0 : gk g x0 = 11) (hx1 : r32 x1) (hx2 : r32 x2) (hl : lv_has ls 3 [(0, .ref (ad x0)), (1, .int (iI x1)), (2, .int (iI x2))]) {r : Int} {m' : Mem} (hF : bX10_whose_0 g x0 x1 x2 m = some (r, m')) (Kr : ∀ (H : Heap) (locs : List Loc) (pc : Nat) (ls : Array Slot), Wd G A s H0 ad g m' H locs → decode cX10_whose pc = .ok (.ireturn, 1) → r32 r ∧ (false = true → r = 0 ∨ r = 1) → narrow .int (.int (iI r)) = .int (iI r) → W p l e rX10_whose s mt args below meth c H locs 0 0 Q (F0 mt pc ls [.int (iI r)])) : W p l e rX10_whose s mt args below meth c H locs 0 0 Q (F0 mt 0 ls []) := by
  unfold bX10_whose_0 at hF
  refine q_iload_n C hl 1 rfl rfl dX10_whose_0 ?_
  refine q_iload_n C hl 2 rfl rfl dX10_whose_1 ?_
  obtain ⟨v1, m2, h3, hF⟩ := bd2_ok hF
  refine q_ci S (run_S (As := [.int (iI x1), .int (iI x2)]) (rest := []) C S (cX10_isOnGround_ok l G hx1 hx2 h3 ad _) gd_RX10_126 hd_X10_isOnGround rfl ⟨rfl, rfl, by decide, by decide⟩ ⟨Nat.zero_le _, Nat.zero_le _⟩ hl.1 rfl (Nat.le_of_ble_eq_true rfl) dX10_whose_2) (fun H locs Sm2 h4 => ?_)
  refine q_if_ne C h4.1 10 dX10_whose_5 (by decide) (fun hc5 => ?_) (fun hc5 => ?_)
  · have hF := if_t hc5 hF
    refine q_iconst C (-1) dX10_whose_8 ?_
    cases hF
    exact Kr _ _ _ _ Sm2 dX10_whose_9 ⟨(rl (-1) rfl), fun h9 => absurd h9 (by decide)⟩ rfl
  · have hF := if_f hc5 hF
    refine q_aload_n C hl 0 rfl rfl dX10_whose_10 ?_
    obtain ⟨k6, hF⟩ := ck_ok hF
    refine q_getr C Sm2 2 fo_RX10_26 (j := 2) rfl rfl hx0 k6 (by decide) dX10_whose_11 ?_
    obtain ⟨k7, hF⟩ := ck_ok hF
    refine q_getr C Sm2 0 fo_RX10_130 (j := 0) rfl rfl k6 k7 (by decide) dX10_whose_14 ?_
    refine q_bipush C 20 (by decide) dX10_whose_17 ?_
    refine q_iload_n C hl 2 rfl rfl dX10_whose_19 ?_
    refine q_imul C dX10_whose_20 ?_
    refine q_iload_n C hl 1 rfl rfl dX10_whose_21 ?_
    refine q_iadd C dX10_whose_22 ?_
    obtain ⟨i8, hF⟩ := ck_ok hF
    refine q_iald C Sm2 k7 i8 dX10_whose_23 ?_
    cases hF
    exact Kr _ _ _ _ Sm2 dX10_whose_24 ⟨(Sm2.r _ _), fun h9 => absurd h9 (by decide)⟩ rfl
theorem cX10_whose_ok (l : Launch) (G : Gl) {g : Shp} {x0 x1 x2 : Int} {m m' : Mem} {r : Int} (hx0 : gk g x0 = 11) (hx1 : r32 x1) (hx2 : r32 x2) (hF : fX10_whose g x0 x1 x2 m = some (r, m')) : mI l yX10_whose (wT yX10_whose cX10_whose 3 (some .int)) rX10_whose G false (fun ad => [.ref (ad x0), .int (iI x1), .int (iI x2)]) g m r m' :=
  met_i (by decide) (fun ad => Nat.le_of_ble_eq_true rfl) (fun p e s mt args below meth c Q A H0 H locs ad ls C hnm S hl Kr => wX10_whose_0 C S hx0 hx1 hx2 hl hF Kr)
set_option maxRecDepth 20000 in
theorem wX10_piece_13 {p : Program} {l : Launch} {e : Env} {s : State} {mt : MethodId} {args : Array Value} {below : List Frame} {meth : Method} {c : Code} {Q : State → Prop} {G : Gl} {A : Nat → Prop} {H0 : Heap} {ad : Int → Nat} {g : Shp} {H : Heap} {locs : List Loc} {ls : Array Slot} {m : Mem} (C : CallFix p mt c cX10_piece 4 s args tb RX10) (S : Wd G A s H0 ad g m H locs)  (hl : lv_has ls 4 []) {r : Int} {m' : Mem} (hF : bX10_piece_13 g m = some (r, m')) (Kr : ∀ (H : Heap) (locs : List Loc) (pc : Nat) (ls : Array Slot), Wd G A s H0 ad g m' H locs → decode cX10_piece pc = .ok (.ireturn, 1) → r32 r ∧ (false = true → r = 0 ∨ r = 1) → narrow .int (.int (iI r)) = .int (iI r) → W p l e rX10_piece s mt args below meth c H locs 0 0 Q (F0 mt pc ls [.int (iI r)])) : W p l e rX10_piece s mt args below meth c H locs 0 0 Q (F0 mt 13 ls []) := by
  unfold bX10_piece_13 at hF
  refine q_iconst C (-1) dX10_piece_13 ?_
  cases hF
  exact Kr _ _ _ _ S dX10_piece_14 ⟨(rl (-1) rfl), fun h9 => absurd h9 (by decide)⟩ rfl
set_option maxRecDepth 20000 in
theorem wX10_piece_86 {p : Program} {l : Launch} {e : Env} {s : State} {mt : MethodId} {args : Array Value} {below : List Frame} {meth : Method} {c : Code} {Q : State → Prop} {G : Gl} {A : Nat → Prop} {H0 : Heap} {ad : Int → Nat} {g : Shp} {H : Heap} {locs : List Loc} {ls : Array Slot} {m : Mem} {z0 : Int} (C : CallFix p mt c cX10_piece 4 s args tb RX10) (S : Wd G A s H0 ad g m H locs) (hz0 : r32 z0) (hl : lv_has ls 4 []) {r : Int} {m' : Mem} (hF : bX10_piece_86 g z0 m = some (r, m')) (Kr : ∀ (H : Heap) (locs : List Loc) (pc : Nat) (ls : Array Slot), Wd G A s H0 ad g m' H locs → decode cX10_piece pc = .ok (.ireturn, 1) → r32 r ∧ (false = true → r = 0 ∨ r = 1) → narrow .int (.int (iI r)) = .int (iI r) → W p l e rX10_piece s mt args below meth c H locs 0 0 Q (F0 mt pc ls [.int (iI r)])) : W p l e rX10_piece s mt args below meth c H locs 0 0 Q (F0 mt 86 ls [.int (iI z0)]) := by
  unfold bX10_piece_86 at hF
  cases hF
  exact Kr _ _ _ _ S dX10_piece_86 ⟨hz0, fun h9 => absurd h9 (by decide)⟩ rfl
set_option maxRecDepth 20000 in
theorem wX10_piece_0 {p : Program} {l : Launch} {e : Env} {s : State} {mt : MethodId} {args : Array Value} {below : List Frame} {meth : Method} {c : Code} {Q : State → Prop} {G : Gl} {A : Nat → Prop} {H0 : Heap} {ad : Int → Nat} {g : Shp} {H : Heap} {locs : List Loc} {ls : Array Slot} {m : Mem} {x0 x1 x2 : Int} (C : CallFix p mt c cX10_piece 4 s args tb RX10) (S : Wd G A s H0 ad g m H locs) (hx0 : gk g x0 = 11) (hx1 : r32 x1) (hx2 : r32 x2) (hl : lv_has ls 4 [(0, .ref (ad x0)), (1, .int (iI x1)), (2, .int (iI x2))]) {r : Int} {m' : Mem} (hF : bX10_piece_0 g x0 x1 x2 m = some (r, m')) (Kr : ∀ (H : Heap) (locs : List Loc) (pc : Nat) (ls : Array Slot), Wd G A s H0 ad g m' H locs → decode cX10_piece pc = .ok (.ireturn, 1) → r32 r ∧ (false = true → r = 0 ∨ r = 1) → narrow .int (.int (iI r)) = .int (iI r) → W p l e rX10_piece s mt args below meth c H locs 0 0 Q (F0 mt pc ls [.int (iI r)])) : W p l e rX10_piece s mt args below meth c H locs 0 0 Q (F0 mt 0 ls []) := by
  unfold bX10_piece_0 at hF
  refine q_aload_n C hl 0 rfl rfl dX10_piece_0 ?_
  refine q_iload_n C hl 1 rfl rfl dX10_piece_1 ?_
  obtain ⟨v1, m2, h3, hF⟩ := bd2_ok hF
  refine q_ci S (run_V (As := [.int (iI x1)]) (rest := []) C S (cX10_isLine_ok l G hx0 hx1 h3 ad _) hx0 ⟨by decide, _, _, rfl⟩ gd_RX10_93 hdV_X10_isLine rfl ⟨rfl, rfl, by decide, by decide⟩ ⟨Nat.zero_le _, Nat.zero_le _⟩ hl.1 rfl (Nat.le_of_ble_eq_true rfl) dX10_piece_2) (fun H locs Sm2 h4 => ?_)
  refine q_if_eq C h4.1 13 dX10_piece_5 (by decide) (fun hc5 => ?_) (fun hc5 => ?_)
  · have hF := if_t hc5 hF
    exact wX10_piece_13 C Sm2  (lv_sub hl [] rfl) hF Kr
  · have hF := if_f hc5 hF
    refine q_iload_n C hl 2 rfl rfl dX10_piece_8 ?_
    refine q_iconst C (-1) dX10_piece_9 ?_
    refine q_icmp_ge C hx2 (rl (-1) rfl) 15 dX10_piece_10 (by decide) (fun hc6 => ?_) (fun hc6 => ?_)
    · have hF := if_t hc6 hF
      refine q_aload_n C hl 0 rfl rfl dX10_piece_15 ?_
      obtain ⟨k7, hF⟩ := ck_ok hF
      refine q_getr C Sm2 2 fo_RX10_26 (j := 2) rfl rfl hx0 k7 (by decide) dX10_piece_16 ?_
      refine q_iload_n C hl 1 rfl rfl dX10_piece_19 ?_
      obtain ⟨v8, m9, h10, hF⟩ := bd2_ok hF
      refine q_ci Sm2 (run_V (As := [.int (iI x1)]) (rest := []) C Sm2 (cX1_isCovered_ok l G k7 hx1 h10 ad _) k7 ⟨by decide, _, _, rfl⟩ gd_RX10_133 hdV_X1_isCovered rfl ⟨rfl, rfl, by decide, by decide⟩ ⟨Nat.zero_le _, Nat.zero_le _⟩ hl.1 rfl (Nat.le_of_ble_eq_true rfl) dX10_piece_20) (fun H locs Sm9 h11 => ?_)
      refine q_if_eq C h11.1 29 dX10_piece_23 (by decide) (fun hc12 => ?_) (fun hc12 => ?_)
      · have hF := if_t hc12 hF
        refine q_aload_n C hl 0 rfl rfl dX10_piece_29 ?_
        obtain ⟨k13, hF⟩ := ck_ok hF
        refine q_getr C Sm9 1 fo_RX10_19 (j := 1) rfl rfl hx0 k13 (by decide) dX10_piece_30 ?_
        obtain ⟨k14, hF⟩ := ck_ok hF
        refine q_getr C Sm9 0 fo_RX10_136 (j := 0) rfl rfl k13 k14 (by decide) dX10_piece_33 ?_
        obtain ⟨y15, ey15, hF⟩ := vv_ok hF
        have ky15 : gk g y15 = 7 := ey15 ▸ k14
        refine q_astore_n C hl [(3, .ref (ad y15)), (0, .ref (ad x0)), (1, .int (iI x1)), (2, .int (iI x2))] ey15 rfl (by decide) rfl dX10_piece_36 (fun ls hl => ?_)
        refine q_aload_n C hl 0 rfl rfl dX10_piece_37 ?_
        refine q_aload_n C hl 1 rfl rfl dX10_piece_38 ?_
        obtain ⟨k16, hF⟩ := ck_ok hF
        refine q_getr C Sm9 6 fo_RX10_53 (j := 6) rfl rfl hx0 k16 (by decide) dX10_piece_39 ?_
        obtain ⟨k17, hF⟩ := ck_ok hF
        refine q_getr C Sm9 2 fo_RX10_97 (j := 2) rfl rfl k16 k17 (by decide) dX10_piece_42 ?_
        refine q_iload_n C hl 2 rfl rfl dX10_piece_45 ?_
        obtain ⟨i18, hF⟩ := ck_ok hF
        obtain ⟨k19, hF⟩ := ck_ok hF
        refine q_aald C Sm9 k17 (by decide) i18 k19 (by decide) dX10_piece_46 ?_
        refine q_aload_n C hl 1 rfl rfl dX10_piece_47 ?_
        obtain ⟨k20, hF⟩ := ck_ok hF
        refine q_getr C Sm9 2 fo_RX10_26 (j := 2) rfl rfl hx0 k20 (by decide) dX10_piece_48 ?_
        obtain ⟨k21, hF⟩ := ck_ok hF
        refine q_getr C Sm9 0 fo_RX10_130 (j := 0) rfl rfl k20 k21 (by decide) dX10_piece_51 ?_
        obtain ⟨v22, m23, h24, hF⟩ := bd2_ok hF
        refine q_cv Sm9 (run_V (As := [.ref (ad (m9 (m9 (m9 x0 6) 2) x1)), .ref (ad (m9 (m9 x0 2) 0))]) (rest := []) C Sm9 (cX6_split_ok l G ky15 k19 k21 h24 ad _) ky15 ⟨by decide, _, _, rfl⟩ gd_RX10_140 hdV_X6_split rfl ⟨rfl, rfl, by decide, by decide⟩ ⟨Nat.zero_le _, Nat.zero_le _⟩ hl.1 rfl (Nat.le_of_ble_eq_true rfl) dX10_piece_54) (fun H locs Sm23 => ?_)
        refine q_iload_n C hl 3 rfl rfl dX10_piece_57 ?_
        refine q_iconst C (-1) dX10_piece_58 ?_
        refine q_icmp_ne C hx2 (rl (-1) rfl) 67 dX10_piece_59 (by decide) (fun hc25 => ?_) (fun hc25 => ?_)
        · have hF := if_t hc25 hF
          refine q_aload_n C hl 0 rfl rfl dX10_piece_62 ?_
          refine q_geti C Sm23 2 fo_RX10_146 (j := 2) rfl rfl ky15 dX10_piece_63 ?_
          cases hF
          exact Kr _ _ _ _ Sm23 dX10_piece_66 ⟨(Sm23.r _ _), fun h9 => absurd h9 (by decide)⟩ rfl
        · have hF := if_f hc25 hF
          refine q_iload_n C hl 3 rfl rfl dX10_piece_67 ?_
          refine q_aload_n C hl 0 rfl rfl dX10_piece_68 ?_
          refine q_geti C Sm23 2 fo_RX10_146 (j := 2) rfl rfl ky15 dX10_piece_69 ?_
          refine q_icmp_ge C hx2 (Sm23.r _ _) 84 dX10_piece_72 (by decide) (fun hc26 => ?_) (fun hc26 => ?_)
          · have hF := if_t hc26 hF
            refine q_bipush C (-4) (by decide) dX10_piece_84 ?_
            exact wX10_piece_86 C Sm23 (rl (-4) rfl) (lv_sub hl [] rfl) hF Kr
          · have hF := if_f hc26 hF
            refine q_aload_n C hl 0 rfl rfl dX10_piece_75 ?_
            obtain ⟨k27, hF⟩ := ck_ok hF
            refine q_getr C Sm23 0 fo_RX10_149 (j := 0) rfl rfl ky15 k27 (by decide) dX10_piece_76 ?_
            refine q_iload_n C hl 3 rfl rfl dX10_piece_79 ?_
            obtain ⟨i28, hF⟩ := ck_ok hF
            refine q_iald C Sm23 k27 i28 dX10_piece_80 ?_
            refine q_goto C 86 dX10_piece_81 (by decide) ?_
            exact wX10_piece_86 C Sm23 (Sm23.r _ _) (lv_sub hl [] rfl) hF Kr
      · have hF := if_f hc12 hF
        refine q_bipush C (-2) (by decide) dX10_piece_26 ?_
        cases hF
        exact Kr _ _ _ _ Sm9 dX10_piece_28 ⟨(rl (-2) rfl), fun h9 => absurd h9 (by decide)⟩ rfl
    · have hF := if_f hc6 hF
      exact wX10_piece_13 C Sm2  (lv_sub hl [] rfl) hF Kr
theorem cX10_piece_ok (l : Launch) (G : Gl) {g : Shp} {x0 x1 x2 : Int} {m m' : Mem} {r : Int} (hx0 : gk g x0 = 11) (hx1 : r32 x1) (hx2 : r32 x2) (hF : fX10_piece g x0 x1 x2 m = some (r, m')) : mI l yX10_piece (wT yX10_piece cX10_piece 4 (some .int)) rX10_piece G false (fun ad => [.ref (ad x0), .int (iI x1), .int (iI x2)]) g m r m' :=
  met_i (by decide) (fun ad => Nat.le_of_ble_eq_true rfl) (fun p e s mt args below meth c Q A H0 H locs ad ls C hnm S hl Kr => wX10_piece_0 C S hx0 hx1 hx2 hl hF Kr)
set_option maxRecDepth 20000 in
theorem wX10_takeUp_0 {p : Program} {l : Launch} {e : Env} {s : State} {mt : MethodId} {args : Array Value} {below : List Frame} {meth : Method} {c : Code} {Q : State → Prop} {G : Gl} {A : Nat → Prop} {H0 : Heap} {ad : Int → Nat} {g : Shp} {H : Heap} {locs : List Loc} {ls : Array Slot} {m : Mem} {x0 x1 : Int} (C : CallFix p mt c cX10_takeUp 2 s args tb RX10) (S : Wd G A s H0 ad g m H locs) (hx0 : gk g x0 = 11) (hx1 : r32 x1) (hl : lv_has ls 2 [(0, .ref (ad x0)), (1, .int (iI x1))]) {r : Int} {m' : Mem} (hF : bX10_takeUp_0 g x0 x1 m = some (r, m')) (Kr : ∀ (H : Heap) (locs : List Loc) (pc : Nat) (ls : Array Slot), Wd G A s H0 ad g m' H locs → decode cX10_takeUp pc = .ok (.ireturn, 1) → r32 r ∧ (false = true → r = 0 ∨ r = 1) → narrow .int (.int (iI r)) = .int (iI r) → W p l e rX10_takeUp s mt args below meth c H locs 0 0 Q (F0 mt pc ls [.int (iI r)])) : W p l e rX10_takeUp s mt args below meth c H locs 0 0 Q (F0 mt 0 ls []) := by
  unfold bX10_takeUp_0 at hF
  refine q_aload_n C hl 0 rfl rfl dX10_takeUp_0 ?_
  refine q_iload_n C hl 1 rfl rfl dX10_takeUp_1 ?_
  obtain ⟨v1, m2, h3, hF⟩ := bd2_ok hF
  refine q_ci S (run_V (As := [.int (iI x1)]) (rest := []) C S (cX10_isLine_ok l G hx0 hx1 h3 ad _) hx0 ⟨by decide, _, _, rfl⟩ gd_RX10_93 hdV_X10_isLine rfl ⟨rfl, rfl, by decide, by decide⟩ ⟨Nat.zero_le _, Nat.zero_le _⟩ hl.1 rfl (Nat.le_of_ble_eq_true rfl) dX10_takeUp_2) (fun H locs Sm2 h4 => ?_)
  refine q_if_ne C h4.1 10 dX10_takeUp_5 (by decide) (fun hc5 => ?_) (fun hc5 => ?_)
  · have hF := if_t hc5 hF
    refine q_iconst C (-1) dX10_takeUp_8 ?_
    cases hF
    exact Kr _ _ _ _ Sm2 dX10_takeUp_9 ⟨(rl (-1) rfl), fun h9 => absurd h9 (by decide)⟩ rfl
  · have hF := if_f hc5 hF
    refine q_aload_n C hl 0 rfl rfl dX10_takeUp_10 ?_
    obtain ⟨k6, hF⟩ := ck_ok hF
    refine q_getr C Sm2 2 fo_RX10_26 (j := 2) rfl rfl hx0 k6 (by decide) dX10_takeUp_11 ?_
    refine q_iload_n C hl 1 rfl rfl dX10_takeUp_14 ?_
    obtain ⟨v7, m8, h9, hF⟩ := bd2_ok hF
    refine q_ci Sm2 (run_V (As := [.int (iI x1)]) (rest := []) C Sm2 (cX1_isCovered_ok l G k6 hx1 h9 ad _) k6 ⟨by decide, _, _, rfl⟩ gd_RX10_133 hdV_X1_isCovered rfl ⟨rfl, rfl, by decide, by decide⟩ ⟨Nat.zero_le _, Nat.zero_le _⟩ hl.1 rfl (Nat.le_of_ble_eq_true rfl) dX10_takeUp_15) (fun H locs Sm8 h10 => ?_)
    refine q_if_ne C h10.1 24 dX10_takeUp_18 (by decide) (fun hc11 => ?_) (fun hc11 => ?_)
    · have hF := if_t hc11 hF
      refine q_bipush C (-2) (by decide) dX10_takeUp_21 ?_
      cases hF
      exact Kr _ _ _ _ Sm8 dX10_takeUp_23 ⟨(rl (-2) rfl), fun h9 => absurd h9 (by decide)⟩ rfl
    · have hF := if_f hc11 hF
      refine q_aload_n C hl 0 rfl rfl dX10_takeUp_24 ?_
      obtain ⟨v12, m13, h14, hF⟩ := bd2_ok hF
      refine q_cv Sm8 (run_V (As := []) (rest := []) C Sm8 (cX10_beginChange_ok l G hx0 h14 ad _) hx0 ⟨by decide, _, _, rfl⟩ gd_RX10_90 hdV_X10_beginChange rfl ⟨rfl, rfl, by decide, by decide⟩ ⟨Nat.zero_le _, Nat.zero_le _⟩ hl.1 rfl (Nat.le_of_ble_eq_true rfl) dX10_takeUp_25) (fun H locs Sm13 => ?_)
      refine q_aload_n C hl 0 rfl rfl dX10_takeUp_28 ?_
      obtain ⟨k15, hF⟩ := ck_ok hF
      refine q_getr C Sm13 2 fo_RX10_26 (j := 2) rfl rfl hx0 k15 (by decide) dX10_takeUp_29 ?_
      refine q_iload_n C hl 1 rfl rfl dX10_takeUp_32 ?_
      refine q_aload_n C hl 0 rfl rfl dX10_takeUp_33 ?_
      obtain ⟨k16, hF⟩ := ck_ok hF
      refine q_getr C Sm13 6 fo_RX10_53 (j := 6) rfl rfl hx0 k16 (by decide) dX10_takeUp_34 ?_
      obtain ⟨k17, hF⟩ := ck_ok hF
      refine q_getr C Sm13 2 fo_RX10_97 (j := 2) rfl rfl k16 k17 (by decide) dX10_takeUp_37 ?_
      refine q_iload_n C hl 1 rfl rfl dX10_takeUp_40 ?_
      obtain ⟨i18, hF⟩ := ck_ok hF
      obtain ⟨k19, hF⟩ := ck_ok hF
      refine q_aald C Sm13 k17 (by decide) i18 k19 (by decide) dX10_takeUp_41 ?_
      refine q_aload_n C hl 0 rfl rfl dX10_takeUp_42 ?_
      refine q_getr C Sm13 6 fo_RX10_53 (j := 6) rfl rfl hx0 k16 (by decide) dX10_takeUp_43 ?_
      obtain ⟨k20, hF⟩ := ck_ok hF
      refine q_getr C Sm13 0 fo_RX10_170 (j := 0) rfl rfl k16 k20 (by decide) dX10_takeUp_46 ?_
      obtain ⟨v21, m22, h23, hF⟩ := bd2_ok hF
      refine q_ci Sm13 (run_V (As := [.int (iI x1), .ref (ad (m13 (m13 (m13 x0 6) 2) x1)), .ref (ad (m13 (m13 x0 6) 0))]) (rest := []) C Sm13 (cX1_pickUp_ok l G k15 hx1 k19 k20 h23 ad _) k15 ⟨by decide, _, _, rfl⟩ gd_RX10_173 hdV_X1_pickUp rfl ⟨rfl, rfl, by decide, by decide⟩ ⟨Nat.zero_le _, Nat.zero_le _⟩ hl.1 rfl (Nat.le_of_ble_eq_true rfl) dX10_takeUp_49) (fun H locs Sm22 h24 => ?_)
      cases hF
      exact Kr _ _ _ _ Sm22 dX10_takeUp_52 ⟨h24.1, fun h9 => absurd h9 (by decide)⟩ rfl
theorem cX10_takeUp_ok (l : Launch) (G : Gl) {g : Shp} {x0 x1 : Int} {m m' : Mem} {r : Int} (hx0 : gk g x0 = 11) (hx1 : r32 x1) (hF : fX10_takeUp g x0 x1 m = some (r, m')) : mI l yX10_takeUp (wT yX10_takeUp cX10_takeUp 2 (some .int)) rX10_takeUp G false (fun ad => [.ref (ad x0), .int (iI x1)]) g m r m' :=
  met_i (by decide) (fun ad => Nat.le_of_ble_eq_true rfl) (fun p e s mt args below meth c Q A H0 H locs ad ls C hnm S hl Kr => wX10_takeUp_0 C S hx0 hx1 hl hF Kr)
set_option maxRecDepth 20000 in
theorem wX10_bag_16 {p : Program} {l : Launch} {e : Env} {s : State} {mt : MethodId} {args : Array Value} {below : List Frame} {meth : Method} {c : Code} {Q : State → Prop} {G : Gl} {A : Nat → Prop} {H0 : Heap} {ad : Int → Nat} {g : Shp} {H : Heap} {locs : List Loc} {ls : Array Slot} {m : Mem} (C : CallFix p mt c cX10_bag 3 s args tb RX10) (S : Wd G A s H0 ad g m H locs)  (hl : lv_has ls 3 []) {r : Int} {m' : Mem} (hF : bX10_bag_16 g m = some (r, m')) (Kr : ∀ (H : Heap) (locs : List Loc) (pc : Nat) (ls : Array Slot), Wd G A s H0 ad g m' H locs → decode cX10_bag pc = .ok (.ireturn, 1) → r32 r ∧ (false = true → r = 0 ∨ r = 1) → narrow .int (.int (iI r)) = .int (iI r) → W p l e rX10_bag s mt args below meth c H locs 0 0 Q (F0 mt pc ls [.int (iI r)])) : W p l e rX10_bag s mt args below meth c H locs 0 0 Q (F0 mt 16 ls []) := by
  unfold bX10_bag_16 at hF
  refine q_iconst C (-1) dX10_bag_16 ?_
  cases hF
  exact Kr _ _ _ _ S dX10_bag_17 ⟨(rl (-1) rfl), fun h9 => absurd h9 (by decide)⟩ rfl
set_option maxRecDepth 20000 in
theorem wX10_bag_0 {p : Program} {l : Launch} {e : Env} {s : State} {mt : MethodId} {args : Array Value} {below : List Frame} {meth : Method} {c : Code} {Q : State → Prop} {G : Gl} {A : Nat → Prop} {H0 : Heap} {ad : Int → Nat} {g : Shp} {H : Heap} {locs : List Loc} {ls : Array Slot} {m : Mem} {x0 x1 x2 : Int} (C : CallFix p mt c cX10_bag 3 s args tb RX10) (S : Wd G A s H0 ad g m H locs) (hx0 : gk g x0 = 11) (hx1 : r32 x1) (hx2 : r32 x2) (hl : lv_has ls 3 [(0, .ref (ad x0)), (1, .int (iI x1)), (2, .int (iI x2))]) {r : Int} {m' : Mem} (hF : bX10_bag_0 g x0 x1 x2 m = some (r, m')) (Kr : ∀ (H : Heap) (locs : List Loc) (pc : Nat) (ls : Array Slot), Wd G A s H0 ad g m' H locs → decode cX10_bag pc = .ok (.ireturn, 1) → r32 r ∧ (false = true → r = 0 ∨ r = 1) → narrow .int (.int (iI r)) = .int (iI r) → W p l e rX10_bag s mt args below meth c H locs 0 0 Q (F0 mt pc ls [.int (iI r)])) : W p l e rX10_bag s mt args below meth c H locs 0 0 Q (F0 mt 0 ls []) := by
  unfold bX10_bag_0 at hF
  refine q_iload_n C hl 1 rfl rfl dX10_bag_0 ?_
  obtain ⟨v1, m2, h3, hF⟩ := bd2_ok hF
  refine q_ci S (run_S (As := [.int (iI x1)]) (rest := []) C S (cX10_isColour_ok l G hx1 h3 ad _) gd_RX10_151 hd_X10_isColour rfl ⟨rfl, rfl, by decide, by decide⟩ ⟨Nat.zero_le _, Nat.zero_le _⟩ hl.1 rfl (Nat.le_of_ble_eq_true rfl) dX10_bag_1) (fun H locs Sm2 h4 => ?_)
  refine q_if_eq C h4.1 16 dX10_bag_4 (by decide) (fun hc5 => ?_) (fun hc5 => ?_)
  · have hF := if_t hc5 hF
    exact wX10_bag_16 C Sm2  (lv_sub hl [] rfl) hF Kr
  · have hF := if_f hc5 hF
    refine q_iload_n C hl 2 rfl rfl dX10_bag_7 ?_
    refine q_if_lt C hx2 16 dX10_bag_8 (by decide) (fun hc6 => ?_) (fun hc6 => ?_)
    · have hF := if_t hc6 hF
      exact wX10_bag_16 C Sm2  (lv_sub hl [] rfl) hF Kr
    · have hF := if_f hc6 hF
      refine q_iload_n C hl 2 rfl rfl dX10_bag_11 ?_
      refine q_iconst C 3 dX10_bag_12 ?_
      refine q_icmp_lt C hx2 (rl 3 rfl) 18 dX10_bag_13 (by decide) (fun hc7 => ?_) (fun hc7 => ?_)
      · have hF := if_t hc7 hF
        refine q_aload_n C hl 0 rfl rfl dX10_bag_18 ?_
        obtain ⟨k8, hF⟩ := ck_ok hF
        refine q_getr C Sm2 2 fo_RX10_26 (j := 2) rfl rfl hx0 k8 (by decide) dX10_bag_19 ?_
        obtain ⟨k9, hF⟩ := ck_ok hF
        refine q_getr C Sm2 1 fo_RX10_199 (j := 1) rfl rfl k8 k9 (by decide) dX10_bag_22 ?_
        refine q_iload_n C hl 1 rfl rfl dX10_bag_25 ?_
        refine q_iconst C 3 dX10_bag_26 ?_
        refine q_imul C dX10_bag_27 ?_
        refine q_iload_n C hl 2 rfl rfl dX10_bag_28 ?_
        refine q_iadd C dX10_bag_29 ?_
        obtain ⟨i10, hF⟩ := ck_ok hF
        refine q_iald C Sm2 k9 i10 dX10_bag_30 ?_
        cases hF
        exact Kr _ _ _ _ Sm2 dX10_bag_31 ⟨(Sm2.r _ _), fun h9 => absurd h9 (by decide)⟩ rfl
      · have hF := if_f hc7 hF
        exact wX10_bag_16 C Sm2  (lv_sub hl [] rfl) hF Kr
theorem cX10_bag_ok (l : Launch) (G : Gl) {g : Shp} {x0 x1 x2 : Int} {m m' : Mem} {r : Int} (hx0 : gk g x0 = 11) (hx1 : r32 x1) (hx2 : r32 x2) (hF : fX10_bag g x0 x1 x2 m = some (r, m')) : mI l yX10_bag (wT yX10_bag cX10_bag 3 (some .int)) rX10_bag G false (fun ad => [.ref (ad x0), .int (iI x1), .int (iI x2)]) g m r m' :=
  met_i (by decide) (fun ad => Nat.le_of_ble_eq_true rfl) (fun p e s mt args below meth c Q A H0 H locs ad ls C hnm S hl Kr => wX10_bag_0 C S hx0 hx1 hx2 hl hF Kr)
set_option maxRecDepth 20000 in
theorem wX10_fill_31 {p : Program} {l : Launch} {e : Env} {s : State} {mt : MethodId} {args : Array Value} {below : List Frame} {meth : Method} {c : Code} {Q : State → Prop} {G : Gl} {A : Nat → Prop} {H0 : Heap} {ad : Int → Nat} {g : Shp} {H : Heap} {locs : List Loc} {ls : Array Slot} {m : Mem} {x0 x1 x2 x3 : Int} (C : CallFix p mt c cX10_fill 4 s args tb RX10) (S : Wd G A s H0 ad g m H locs) (hx0 : gk g x0 = 11) (hx1 : r32 x1) (hx2 : r32 x2) (hx3 : r32 x3) (hl : lv_has ls 4 [(0, .ref (ad x0)), (1, .int (iI x1)), (2, .int (iI x2)), (3, .int (iI x3))]) {c1 : Int} {s1 : (Int × Mem)} (hF : bX10_fill_31 g x0 x1 x2 x3 m = some (c1, s1)) (K0 : c1 = 0 → ∀ (H : Heap) (locs : List Loc) (ls : Array Slot), r32 s1.1 → Wd G A s H0 ad g s1.2 H locs → lv_has ls 4 [(0, .ref (ad x0)), (1, .int (iI x1)), (2, .int (iI x2)), (3, .int (iI s1.1))] → W p l e rX10_fill s mt args below meth c H locs 0 0 Q (F0 mt 31 ls [])) (K1 : c1 = 1 → ∀ (H : Heap) (locs : List Loc) (ls : Array Slot), Wd G A s H0 ad g s1.2 H locs → lv_has ls 4 [(2, .int (iI x2))] → W p l e rX10_fill s mt args below meth c H locs 0 0 Q (F0 mt 57 ls [])) : W p l e rX10_fill s mt args below meth c H locs 0 0 Q (F0 mt 31 ls []) := by
  unfold bX10_fill_31 at hF
  refine q_iload_n C hl 3 rfl rfl dX10_fill_31 ?_
  refine q_iconst C 3 dX10_fill_32 ?_
  refine q_icmp_ge C hx3 (rl 3 rfl) 57 dX10_fill_33 (by decide) (fun hc1 => ?_) (fun hc1 => ?_)
  · have hF := if_t hc1 hF
    cases hF
    exact K1 rfl _ _ _  S (lv_sub hl [2] rfl)
  · have hF := if_f hc1 hF
    refine q_aload_n C hl 0 rfl rfl dX10_fill_36 ?_
    obtain ⟨k2, hF⟩ := ck_ok hF
    refine q_getr C S 2 fo_RX10_26 (j := 2) rfl rfl hx0 k2 (by decide) dX10_fill_37 ?_
    obtain ⟨k3, hF⟩ := ck_ok hF
    refine q_getr C S 1 fo_RX10_199 (j := 1) rfl rfl k2 k3 (by decide) dX10_fill_40 ?_
    refine q_iload_n C hl 1 rfl rfl dX10_fill_43 ?_
    refine q_iconst C 3 dX10_fill_44 ?_
    refine q_imul C dX10_fill_45 ?_
    refine q_iload_n C hl 3 rfl rfl dX10_fill_46 ?_
    refine q_iadd C dX10_fill_47 ?_
    refine q_bipush C 6 (by decide) dX10_fill_48 ?_
    obtain ⟨i4, hF⟩ := ck_ok hF
    obtain ⟨m5, em5, hF⟩ := vm_ok hF
    refine q_iast C S k3 i4 (rl 6 rfl) em5 dX10_fill_50 (fun H locs Sm5 => ?_)
    obtain ⟨y6, ey6, hF⟩ := vv_ok hF
    have ry6 : r32 y6 := ey6 ▸ r32_w _
    refine q_iinc C hl 3 [(3, .int (iI y6)), (0, .ref (ad x0)), (1, .int (iI x1)), (2, .int (iI x2))] rfl ey6 (by decide) rfl dX10_fill_51 (fun ls hl => ?_)
    refine q_goto C 31 dX10_fill_54 (by decide) ?_
    cases hF
    exact K0 rfl _ _ _ ry6 Sm5 (lv_sub hl [1, 2, 3, 0] rfl)
set_option maxRecDepth 20000 in
theorem lX10_fill_31 {p : Program} {l : Launch} {e : Env} {s : State} {mt : MethodId} {args : Array Value} {below : List Frame} {meth : Method} {c : Code} {Q : State → Prop} {G : Gl} {A : Nat → Prop} {H0 : Heap} {ad : Int → Nat} {g : Shp} {x0 x1 x2 : Int} (C : CallFix p mt c cX10_fill 4 s args tb RX10) (hx0 : gk g x0 = 11) (hx1 : r32 x1) (hx2 : r32 x2) {n : Nat} {s0 s1 : (Int × Mem)} {c1 : Int} (hI : iter (BX10_fill_31 g x0 x1 x2) n s0 = some (c1, s1)) (K1 : c1 = 1 → ∀ (H : Heap) (locs : List Loc) (ls : Array Slot), Wd G A s H0 ad g s1.2 H locs → lv_has ls 4 [(2, .int (iI x2))] → W p l e rX10_fill s mt args below meth c H locs 0 0 Q (F0 mt 57 ls [])) : ∀ (H : Heap) (locs : List Loc) (ls : Array Slot), r32 s0.1 → Wd G A s H0 ad g s0.2 H locs → lv_has ls 4 [(0, .ref (ad x0)), (1, .int (iI x1)), (2, .int (iI x2)), (3, .int (iI s0.1))] → W p l e rX10_fill s mt args below meth c H locs 0 0 Q (F0 mt 31 ls []) :=
  iter_W (Pw := fun q => ∀ (H : Heap) (locs : List Loc) (ls : Array Slot), r32 q.1 → Wd G A s H0 ad g q.2 H locs → lv_has ls 4 [(0, .ref (ad x0)), (1, .int (iI x1)), (2, .int (iI x2)), (3, .int (iI q.1))] → W p l e rX10_fill s mt args below meth c H locs 0 0 Q (F0 mt 31 ls [])) (Px := fun c0 q => (c0 = 1 → ∀ (H : Heap) (locs : List Loc) (ls : Array Slot), Wd G A s H0 ad g q.2 H locs → lv_has ls 4 [(2, .int (iI x2))] → W p l e rX10_fill s mt args below meth c H locs 0 0 Q (F0 mt 57 ls [])))
    (fun s c s' hB K0 kx H locs ls f0 S hl => wX10_fill_31 C S hx0 hx1 hx2 f0 hl hB K0 (fun h9 => (kx (by rw [h9]; decide)) h9)) _ _ _ _ hI K1
set_option maxRecDepth 20000 in
theorem wX10_fill_57 {p : Program} {l : Launch} {e : Env} {s : State} {mt : MethodId} {args : Array Value} {below : List Frame} {meth : Method} {c : Code} {Q : State → Prop} {G : Gl} {A : Nat → Prop} {H0 : Heap} {ad : Int → Nat} {g : Shp} {H : Heap} {locs : List Loc} {ls : Array Slot} {m : Mem} {x2 : Int} (C : CallFix p mt c cX10_fill 4 s args tb RX10) (S : Wd G A s H0 ad g m H locs) (hx2 : r32 x2) (hl : lv_has ls 4 [(2, .int (iI x2))]) {r : Int} {m' : Mem} (hF : bX10_fill_57 g x2 m = some (r, m')) (Kr : ∀ (H : Heap) (locs : List Loc) (pc : Nat) (ls : Array Slot), Wd G A s H0 ad g m' H locs → decode cX10_fill pc = .ok (.ireturn, 1) → r32 r ∧ (false = true → r = 0 ∨ r = 1) → narrow .int (.int (iI r)) = .int (iI r) → W p l e rX10_fill s mt args below meth c H locs 0 0 Q (F0 mt pc ls [.int (iI r)])) : W p l e rX10_fill s mt args below meth c H locs 0 0 Q (F0 mt 57 ls []) := by
  unfold bX10_fill_57 at hF
  refine q_iload_n C hl 0 rfl rfl dX10_fill_57 ?_
  cases hF
  exact Kr _ _ _ _ S dX10_fill_58 ⟨hx2, fun h9 => absurd h9 (by decide)⟩ rfl
set_option maxRecDepth 20000 in
theorem wX10_fill_0 {p : Program} {l : Launch} {e : Env} {s : State} {mt : MethodId} {args : Array Value} {below : List Frame} {meth : Method} {c : Code} {Q : State → Prop} {G : Gl} {A : Nat → Prop} {H0 : Heap} {ad : Int → Nat} {g : Shp} {H : Heap} {locs : List Loc} {ls : Array Slot} {m : Mem} {x0 x1 : Int} (C : CallFix p mt c cX10_fill 4 s args tb RX10) (S : Wd G A s H0 ad g m H locs) (hx0 : gk g x0 = 11) (hx1 : r32 x1) (hl : lv_has ls 4 [(0, .ref (ad x0)), (1, .int (iI x1))]) {r : Int} {m' : Mem} (hF : bX10_fill_0 g x0 x1 m = some (r, m')) (Kr : ∀ (H : Heap) (locs : List Loc) (pc : Nat) (ls : Array Slot), Wd G A s H0 ad g m' H locs → decode cX10_fill pc = .ok (.ireturn, 1) → r32 r ∧ (false = true → r = 0 ∨ r = 1) → narrow .int (.int (iI r)) = .int (iI r) → W p l e rX10_fill s mt args below meth c H locs 0 0 Q (F0 mt pc ls [.int (iI r)])) : W p l e rX10_fill s mt args below meth c H locs 0 0 Q (F0 mt 0 ls []) := by
  unfold bX10_fill_0 at hF
  refine q_iload_n C hl 1 rfl rfl dX10_fill_0 ?_
  obtain ⟨v1, m2, h3, hF⟩ := bd2_ok hF
  refine q_ci S (run_S (As := [.int (iI x1)]) (rest := []) C S (cX10_isColour_ok l G hx1 h3 ad _) gd_RX10_151 hd_X10_isColour rfl ⟨rfl, rfl, by decide, by decide⟩ ⟨Nat.zero_le _, Nat.zero_le _⟩ hl.1 rfl (Nat.le_of_ble_eq_true rfl) dX10_fill_1) (fun H locs Sm2 h4 => ?_)
  refine q_if_ne C h4.1 9 dX10_fill_4 (by decide) (fun hc5 => ?_) (fun hc5 => ?_)
  · have hF := if_t hc5 hF
    refine q_iconst C (-1) dX10_fill_7 ?_
    cases hF
    exact Kr _ _ _ _ Sm2 dX10_fill_8 ⟨(rl (-1) rfl), fun h9 => absurd h9 (by decide)⟩ rfl
  · have hF := if_f hc5 hF
    refine q_aload_n C hl 0 rfl rfl dX10_fill_9 ?_
    obtain ⟨k6, hF⟩ := ck_ok hF
    refine q_getr C Sm2 2 fo_RX10_26 (j := 2) rfl rfl hx0 k6 (by decide) dX10_fill_10 ?_
    refine q_iload_n C hl 1 rfl rfl dX10_fill_13 ?_
    obtain ⟨v7, m8, h9, hF⟩ := bd2_ok hF
    refine q_ci Sm2 (run_V (As := [.int (iI x1)]) (rest := []) C Sm2 (cX1_missingIn_ok l G k6 hx1 h9 ad _) k6 ⟨by decide, _, _, rfl⟩ gd_RX10_202 hdV_X1_missingIn rfl ⟨rfl, rfl, by decide, by decide⟩ ⟨Nat.zero_le _, Nat.zero_le _⟩ hl.1 rfl (Nat.le_of_ble_eq_true rfl) dX10_fill_14) (fun H locs Sm8 h10 => ?_)
    refine q_istore_n C hl [(2, .int (iI v7)), (0, .ref (ad x0)), (1, .int (iI x1))] rfl rfl (by decide) rfl dX10_fill_17 (fun ls hl => ?_)
    refine q_iload_n C hl 0 rfl rfl dX10_fill_18 ?_
    refine q_if_ne C h10.1 25 dX10_fill_19 (by decide) (fun hc11 => ?_) (fun hc11 => ?_)
    · have hF := if_t hc11 hF
      refine q_bipush C (-2) (by decide) dX10_fill_22 ?_
      cases hF
      exact Kr _ _ _ _ Sm8 dX10_fill_24 ⟨(rl (-2) rfl), fun h9 => absurd h9 (by decide)⟩ rfl
    · have hF := if_f hc11 hF
      refine q_aload_n C hl 1 rfl rfl dX10_fill_25 ?_
      obtain ⟨v12, m13, h14, hF⟩ := bd2_ok hF
      refine q_cv Sm8 (run_V (As := []) (rest := []) C Sm8 (cX10_beginChange_ok l G hx0 h14 ad _) hx0 ⟨by decide, _, _, rfl⟩ gd_RX10_90 hdV_X10_beginChange rfl ⟨rfl, rfl, by decide, by decide⟩ ⟨Nat.zero_le _, Nat.zero_le _⟩ hl.1 rfl (Nat.le_of_ble_eq_true rfl) dX10_fill_26) (fun H locs Sm13 => ?_)
      refine q_iconst C 0 dX10_fill_29 ?_
      refine q_istore_n C hl [(3, .int (iI 0)), (2, .int (iI v7)), (0, .ref (ad x0)), (1, .int (iI x1))] rfl rfl (by decide) rfl dX10_fill_30 (fun ls hl => ?_)
      obtain ⟨cv15, sv16, hi17, hF⟩ := bdl_ok hF
      refine lX10_fill_31 C hx0 hx1 h10.1 hi17 ?_ _ _ _ (rl 0 rfl) Sm13 (lv_sub hl [2, 3, 1, 0] rfl)
      intro _ H locs ls  S18 hl
      exact wX10_fill_57 C S18 h10.1 (lv_sub hl [0] rfl) hF Kr
theorem cX10_fill_ok (l : Launch) (G : Gl) {g : Shp} {x0 x1 : Int} {m m' : Mem} {r : Int} (hx0 : gk g x0 = 11) (hx1 : r32 x1) (hF : fX10_fill g x0 x1 m = some (r, m')) : mI l yX10_fill (wT yX10_fill cX10_fill 4 (some .int)) rX10_fill G false (fun ad => [.ref (ad x0), .int (iI x1)]) g m r m' :=
  met_i (by decide) (fun ad => Nat.le_of_ble_eq_true rfl) (fun p e s mt args below meth c Q A H0 H locs ad ls C hnm S hl Kr => wX10_fill_0 C S hx0 hx1 hl hF Kr)
set_option maxRecDepth 20000 in
theorem wX10_undo_0 {p : Program} {l : Launch} {e : Env} {s : State} {mt : MethodId} {args : Array Value} {below : List Frame} {meth : Method} {c : Code} {Q : State → Prop} {G : Gl} {A : Nat → Prop} {H0 : Heap} {ad : Int → Nat} {g : Shp} {H : Heap} {locs : List Loc} {ls : Array Slot} {m : Mem} {x0 : Int} (C : CallFix p mt c cX10_undo 1 s args tb RX10) (S : Wd G A s H0 ad g m H locs) (hx0 : gk g x0 = 11) (hl : lv_has ls 1 [(0, .ref (ad x0))]) {r : Int} {m' : Mem} (hF : bX10_undo_0 g x0 m = some (r, m')) (Kr : ∀ (H : Heap) (locs : List Loc) (pc : Nat) (ls : Array Slot), Wd G A s H0 ad g m' H locs → decode cX10_undo pc = .ok (.ireturn, 1) → r32 r ∧ (false = true → r = 0 ∨ r = 1) → narrow .int (.int (iI r)) = .int (iI r) → W p l e rX10_undo s mt args below meth c H locs 0 0 Q (F0 mt pc ls [.int (iI r)])) : W p l e rX10_undo s mt args below meth c H locs 0 0 Q (F0 mt 0 ls []) := by
  unfold bX10_undo_0 at hF
  refine q_aload_n C hl 0 rfl rfl dX10_undo_0 ?_
  obtain ⟨k1, hF⟩ := ck_ok hF
  refine q_getr C S 3 fo_RX10_33 (j := 3) rfl rfl hx0 k1 (by decide) dX10_undo_1 ?_
  refine q_geti C S 1 fo_RX10_206 (j := 1) rfl rfl k1 dX10_undo_4 ?_
  refine q_if_ne C (S.r _ _) 13 dX10_undo_7 (by decide) (fun hc2 => ?_) (fun hc2 => ?_)
  · have hF := if_t hc2 hF
    refine q_bipush C (-2) (by decide) dX10_undo_10 ?_
    cases hF
    exact Kr _ _ _ _ S dX10_undo_12 ⟨(rl (-2) rfl), fun h9 => absurd h9 (by decide)⟩ rfl
  · have hF := if_f hc2 hF
    refine q_aload_n C hl 0 rfl rfl dX10_undo_13 ?_
    refine q_getr C S 3 fo_RX10_33 (j := 3) rfl rfl hx0 k1 (by decide) dX10_undo_14 ?_
    refine q_aload_n C hl 0 rfl rfl dX10_undo_17 ?_
    obtain ⟨k3, hF⟩ := ck_ok hF
    refine q_getr C S 2 fo_RX10_26 (j := 2) rfl rfl hx0 k3 (by decide) dX10_undo_18 ?_
    obtain ⟨v4, m5, h6, hF⟩ := bd2_ok hF
    refine q_cv S (run_V (As := [.ref (ad (m x0 2))]) (rest := []) C S (cX4_giveBack_ok l G k1 k3 h6 ad _) k1 ⟨by decide, _, _, rfl⟩ gd_RX10_207 hdV_X4_giveBack rfl ⟨rfl, rfl, by decide, by decide⟩ ⟨Nat.zero_le _, Nat.zero_le _⟩ hl.1 rfl (Nat.le_of_ble_eq_true rfl) dX10_undo_21) (fun H locs Sm5 => ?_)
    refine q_aload_n C hl 0 rfl rfl dX10_undo_24 ?_
    obtain ⟨v7, m8, h9, hF⟩ := bd2_ok hF
    refine q_cv Sm5 (run_V (As := []) (rest := []) C Sm5 (cX10_forgetAnswers_ok l G hx0 h9 ad _) hx0 ⟨by decide, _, _, rfl⟩ gd_RX10_211 hdV_X10_forgetAnswers rfl ⟨rfl, rfl, by decide, by decide⟩ ⟨Nat.zero_le _, Nat.zero_le _⟩ hl.1 rfl (Nat.le_of_ble_eq_true rfl) dX10_undo_25) (fun H locs Sm8 => ?_)
    refine q_aload_n C hl 0 rfl rfl dX10_undo_28 ?_
    obtain ⟨k10, hF⟩ := ck_ok hF
    refine q_getr C Sm8 3 fo_RX10_33 (j := 3) rfl rfl hx0 k10 (by decide) dX10_undo_29 ?_
    refine q_geti C Sm8 1 fo_RX10_206 (j := 1) rfl rfl k10 dX10_undo_32 ?_
    cases hF
    exact Kr _ _ _ _ Sm8 dX10_undo_35 ⟨(Sm8.r _ _), fun h9 => absurd h9 (by decide)⟩ rfl
theorem cX10_undo_ok (l : Launch) (G : Gl) {g : Shp} {x0 : Int} {m m' : Mem} {r : Int} (hx0 : gk g x0 = 11) (hF : fX10_undo g x0 m = some (r, m')) : mI l yX10_undo (wT yX10_undo cX10_undo 1 (some .int)) rX10_undo G false (fun ad => [.ref (ad x0)]) g m r m' :=
  met_i (by decide) (fun ad => Nat.le_of_ble_eq_true rfl) (fun p e s mt args below meth c Q A H0 H locs ad ls C hnm S hl Kr => wX10_undo_0 C S hx0 hl hF Kr)
set_option maxRecDepth 20000 in
theorem wX10_drawn_114 {p : Program} {l : Launch} {e : Env} {s : State} {mt : MethodId} {args : Array Value} {below : List Frame} {meth : Method} {c : Code} {Q : State → Prop} {G : Gl} {A : Nat → Prop} {H0 : Heap} {ad : Int → Nat} {g : Shp} {H : Heap} {locs : List Loc} {ls : Array Slot} {m : Mem} {x0 x3 x5 : Int} (C : CallFix p mt c cX10_drawn 6 s args tb RX10) (S : Wd G A s H0 ad g m H locs) (hx0 : gk g x0 = 11) (hx3 : r32 x3) (hx5 : r32 x5) (hl : lv_has ls 6 [(0, .ref (ad x0)), (3, .int (iI x3)), (5, .int (iI x5))]) {c1 : Int} {s1 : (Int × Mem)} (hF : bX10_drawn_114 g x0 x3 x5 m = some (c1, s1)) (K0 : c1 = 0 → ∀ (H : Heap) (locs : List Loc) (ls : Array Slot), r32 s1.1 → Wd G A s H0 ad g s1.2 H locs → lv_has ls 6 [(0, .ref (ad x0)), (3, .int (iI x3)), (5, .int (iI s1.1))] → W p l e rX10_drawn s mt args below meth c H locs 0 0 Q (F0 mt 74 ls [])) (K1 : c1 = 1 → ∀ (H : Heap) (locs : List Loc) (ls : Array Slot), Wd G A s H0 ad g s1.2 H locs → lv_has ls 6 [] → W p l e rX10_drawn s mt args below meth c H locs 0 0 Q (F0 mt 111 ls [])) (K2 : c1 = 2 → ∀ (H : Heap) (locs : List Loc) (ls : Array Slot), Wd G A s H0 ad g s1.2 H locs → lv_has ls 6 [] → W p l e rX10_drawn s mt args below meth c H locs 0 0 Q (F0 mt 120 ls [])) : W p l e rX10_drawn s mt args below meth c H locs 0 0 Q (F0 mt 114 ls []) := by
  unfold bX10_drawn_114 at hF
  obtain ⟨y1, ey1, hF⟩ := vv_ok hF
  have ry1 : r32 y1 := ey1 ▸ r32_w _
  refine q_iinc C hl 2 [(5, .int (iI y1)), (0, .ref (ad x0)), (3, .int (iI x3))] rfl ey1 (by decide) rfl dX10_drawn_114 (fun ls hl => ?_)
  refine q_goto C 74 dX10_drawn_117 (by decide) ?_
  cases hF
  exact K0 rfl _ _ _ ry1 S (lv_sub hl [1, 2, 0] rfl)
set_option maxRecDepth 20000 in
theorem wX10_drawn_74 {p : Program} {l : Launch} {e : Env} {s : State} {mt : MethodId} {args : Array Value} {below : List Frame} {meth : Method} {c : Code} {Q : State → Prop} {G : Gl} {A : Nat → Prop} {H0 : Heap} {ad : Int → Nat} {g : Shp} {H : Heap} {locs : List Loc} {ls : Array Slot} {m : Mem} {x0 x3 x5 : Int} (C : CallFix p mt c cX10_drawn 6 s args tb RX10) (S : Wd G A s H0 ad g m H locs) (hx0 : gk g x0 = 11) (hx3 : r32 x3) (hx5 : r32 x5) (hl : lv_has ls 6 [(0, .ref (ad x0)), (3, .int (iI x3)), (5, .int (iI x5))]) {c1 : Int} {s1 : (Int × Mem)} (hF : bX10_drawn_74 g x0 x3 x5 m = some (c1, s1)) (K0 : c1 = 0 → ∀ (H : Heap) (locs : List Loc) (ls : Array Slot), r32 s1.1 → Wd G A s H0 ad g s1.2 H locs → lv_has ls 6 [(0, .ref (ad x0)), (3, .int (iI x3)), (5, .int (iI s1.1))] → W p l e rX10_drawn s mt args below meth c H locs 0 0 Q (F0 mt 74 ls [])) (K1 : c1 = 1 → ∀ (H : Heap) (locs : List Loc) (ls : Array Slot), Wd G A s H0 ad g s1.2 H locs → lv_has ls 6 [] → W p l e rX10_drawn s mt args below meth c H locs 0 0 Q (F0 mt 111 ls [])) (K2 : c1 = 2 → ∀ (H : Heap) (locs : List Loc) (ls : Array Slot), Wd G A s H0 ad g s1.2 H locs → lv_has ls 6 [] → W p l e rX10_drawn s mt args below meth c H locs 0 0 Q (F0 mt 120 ls [])) : W p l e rX10_drawn s mt args below meth c H locs 0 0 Q (F0 mt 74 ls []) := by
  unfold bX10_drawn_74 at hF
  refine q_iload C hl 2 rfl dX10_drawn_74 ?_
  refine q_aload_n C hl 0 rfl rfl dX10_drawn_76 ?_
  obtain ⟨k1, hF⟩ := ck_ok hF
  refine q_getr C S 6 fo_RX10_53 (j := 6) rfl rfl hx0 k1 (by decide) dX10_drawn_77 ?_
  refine q_geti C S 5 fo_RX10_214 (j := 5) rfl rfl k1 dX10_drawn_80 ?_
  refine q_icmp_ge C hx5 (S.r _ _) 120 dX10_drawn_83 (by decide) (fun hc2 => ?_) (fun hc2 => ?_)
  · have hF := if_t hc2 hF
    cases hF
    exact K2 rfl _ _ _  S (lv_sub hl [] rfl)
  · have hF := if_f hc2 hF
    refine q_aload_n C hl 0 rfl rfl dX10_drawn_86 ?_
    obtain ⟨k3, hF⟩ := ck_ok hF
    refine q_getr C S 2 fo_RX10_26 (j := 2) rfl rfl hx0 k3 (by decide) dX10_drawn_87 ?_
    refine q_iload C hl 2 rfl dX10_drawn_90 ?_
    obtain ⟨v4, m5, h6, hF⟩ := bd2_ok hF
    refine q_ci S (run_V (As := [.int (iI x5)]) (rest := []) C S (cX1_isCovered_ok l G k3 hx5 h6 ad _) k3 ⟨by decide, _, _, rfl⟩ gd_RX10_133 hdV_X1_isCovered rfl ⟨rfl, rfl, by decide, by decide⟩ ⟨Nat.zero_le _, Nat.zero_le _⟩ hl.1 rfl (Nat.le_of_ble_eq_true rfl) dX10_drawn_92) (fun H locs Sm5 h7 => ?_)
    refine q_if_ne C h7.1 114 dX10_drawn_95 (by decide) (fun hc8 => ?_) (fun hc8 => ?_)
    · have hF := if_t hc8 hF
      refine q_aload_n C hl 0 rfl rfl dX10_drawn_98 ?_
      obtain ⟨k9, hF⟩ := ck_ok hF
      refine q_getr C Sm5 6 fo_RX10_53 (j := 6) rfl rfl hx0 k9 (by decide) dX10_drawn_99 ?_
      refine q_iload C hl 2 rfl dX10_drawn_102 ?_
      refine q_iload_n C hl 1 rfl rfl dX10_drawn_104 ?_
      obtain ⟨v10, m11, h12, hF⟩ := bd2_ok hF
      refine q_ci Sm5 (run_V (As := [.int (iI x5), .int (iI x3)]) (rest := []) C Sm5 (cX7_goesOver_ok l G k9 hx5 hx3 h12 ad _) k9 ⟨by decide, _, _, rfl⟩ gd_RX10_217 hdV_X7_goesOver rfl ⟨rfl, rfl, by decide, by decide⟩ ⟨Nat.zero_le _, Nat.zero_le _⟩ hl.1 rfl (Nat.le_of_ble_eq_true rfl) dX10_drawn_105) (fun H locs Sm11 h13 => ?_)
      refine q_if_eq C h13.1 114 dX10_drawn_108 (by decide) (fun hc14 => ?_) (fun hc14 => ?_)
      · have hF := if_t hc14 hF
        exact wX10_drawn_114 C Sm11 hx0 hx3 hx5 (lv_sub hl [0, 1, 2] rfl) hF K0 K1 K2
      · have hF := if_f hc14 hF
        cases hF
        exact K1 rfl _ _ _  Sm11 (lv_sub hl [] rfl)
    · have hF := if_f hc8 hF
      exact wX10_drawn_114 C Sm5 hx0 hx3 hx5 (lv_sub hl [0, 1, 2] rfl) hF K0 K1 K2
set_option maxRecDepth 20000 in
theorem lX10_drawn_74 {p : Program} {l : Launch} {e : Env} {s : State} {mt : MethodId} {args : Array Value} {below : List Frame} {meth : Method} {c : Code} {Q : State → Prop} {G : Gl} {A : Nat → Prop} {H0 : Heap} {ad : Int → Nat} {g : Shp} {x0 x3 : Int} (C : CallFix p mt c cX10_drawn 6 s args tb RX10) (hx0 : gk g x0 = 11) (hx3 : r32 x3) {n : Nat} {s0 s1 : (Int × Mem)} {c1 : Int} (hI : iter (BX10_drawn_74 g x0 x3) n s0 = some (c1, s1)) (K1 : c1 = 1 → ∀ (H : Heap) (locs : List Loc) (ls : Array Slot), Wd G A s H0 ad g s1.2 H locs → lv_has ls 6 [] → W p l e rX10_drawn s mt args below meth c H locs 0 0 Q (F0 mt 111 ls [])) (K2 : c1 = 2 → ∀ (H : Heap) (locs : List Loc) (ls : Array Slot), Wd G A s H0 ad g s1.2 H locs → lv_has ls 6 [] → W p l e rX10_drawn s mt args below meth c H locs 0 0 Q (F0 mt 120 ls [])) : ∀ (H : Heap) (locs : List Loc) (ls : Array Slot), r32 s0.1 → Wd G A s H0 ad g s0.2 H locs → lv_has ls 6 [(0, .ref (ad x0)), (3, .int (iI x3)), (5, .int (iI s0.1))] → W p l e rX10_drawn s mt args below meth c H locs 0 0 Q (F0 mt 74 ls []) :=
  iter_W (Pw := fun q => ∀ (H : Heap) (locs : List Loc) (ls : Array Slot), r32 q.1 → Wd G A s H0 ad g q.2 H locs → lv_has ls 6 [(0, .ref (ad x0)), (3, .int (iI x3)), (5, .int (iI q.1))] → W p l e rX10_drawn s mt args below meth c H locs 0 0 Q (F0 mt 74 ls [])) (Px := fun c0 q => (c0 = 1 → ∀ (H : Heap) (locs : List Loc) (ls : Array Slot), Wd G A s H0 ad g q.2 H locs → lv_has ls 6 [] → W p l e rX10_drawn s mt args below meth c H locs 0 0 Q (F0 mt 111 ls [])) ∧ (c0 = 2 → ∀ (H : Heap) (locs : List Loc) (ls : Array Slot), Wd G A s H0 ad g q.2 H locs → lv_has ls 6 [] → W p l e rX10_drawn s mt args below meth c H locs 0 0 Q (F0 mt 120 ls [])))
    (fun s c s' hB K0 kx H locs ls f0 S hl => wX10_drawn_74 C S hx0 hx3 f0 hl hB K0 (fun h9 => (kx (by rw [h9]; decide)).1 h9) (fun h9 => (kx (by rw [h9]; decide)).2 h9)) _ _ _ _ hI ⟨K1, K2⟩
set_option maxRecDepth 20000 in
theorem wX10_drawn_11 {p : Program} {l : Launch} {e : Env} {s : State} {mt : MethodId} {args : Array Value} {below : List Frame} {meth : Method} {c : Code} {Q : State → Prop} {G : Gl} {A : Nat → Prop} {H0 : Heap} {ad : Int → Nat} {g : Shp} {H : Heap} {locs : List Loc} {ls : Array Slot} {m : Mem} (C : CallFix p mt c cX10_drawn 6 s args tb RX10) (S : Wd G A s H0 ad g m H locs)  (hl : lv_has ls 6 []) {r : Int} {m' : Mem} (hF : bX10_drawn_11 g m = some (r, m')) (Kr : ∀ (H : Heap) (locs : List Loc) (pc : Nat) (ls : Array Slot), Wd G A s H0 ad g m' H locs → decode cX10_drawn pc = .ok (.ireturn, 1) → r32 r ∧ (false = true → r = 0 ∨ r = 1) → narrow .int (.int (iI r)) = .int (iI r) → W p l e rX10_drawn s mt args below meth c H locs 0 0 Q (F0 mt pc ls [.int (iI r)])) : W p l e rX10_drawn s mt args below meth c H locs 0 0 Q (F0 mt 11 ls []) := by
  unfold bX10_drawn_11 at hF
  refine q_iconst C (-1) dX10_drawn_11 ?_
  cases hF
  exact Kr _ _ _ _ S dX10_drawn_12 ⟨(rl (-1) rfl), fun h9 => absurd h9 (by decide)⟩ rfl
set_option maxRecDepth 20000 in
theorem wX10_drawn_111 {p : Program} {l : Launch} {e : Env} {s : State} {mt : MethodId} {args : Array Value} {below : List Frame} {meth : Method} {c : Code} {Q : State → Prop} {G : Gl} {A : Nat → Prop} {H0 : Heap} {ad : Int → Nat} {g : Shp} {H : Heap} {locs : List Loc} {ls : Array Slot} {m : Mem} (C : CallFix p mt c cX10_drawn 6 s args tb RX10) (S : Wd G A s H0 ad g m H locs)  (hl : lv_has ls 6 []) {r : Int} {m' : Mem} (hF : bX10_drawn_111 g m = some (r, m')) (Kr : ∀ (H : Heap) (locs : List Loc) (pc : Nat) (ls : Array Slot), Wd G A s H0 ad g m' H locs → decode cX10_drawn pc = .ok (.ireturn, 1) → r32 r ∧ (false = true → r = 0 ∨ r = 1) → narrow .int (.int (iI r)) = .int (iI r) → W p l e rX10_drawn s mt args below meth c H locs 0 0 Q (F0 mt pc ls [.int (iI r)])) : W p l e rX10_drawn s mt args below meth c H locs 0 0 Q (F0 mt 111 ls []) := by
  unfold bX10_drawn_111 at hF
  refine q_bipush C 43 (by decide) dX10_drawn_111 ?_
  cases hF
  exact Kr _ _ _ _ S dX10_drawn_113 ⟨(rl 43 rfl), fun h9 => absurd h9 (by decide)⟩ rfl
set_option maxRecDepth 20000 in
theorem wX10_drawn_120 {p : Program} {l : Launch} {e : Env} {s : State} {mt : MethodId} {args : Array Value} {below : List Frame} {meth : Method} {c : Code} {Q : State → Prop} {G : Gl} {A : Nat → Prop} {H0 : Heap} {ad : Int → Nat} {g : Shp} {H : Heap} {locs : List Loc} {ls : Array Slot} {m : Mem} (C : CallFix p mt c cX10_drawn 6 s args tb RX10) (S : Wd G A s H0 ad g m H locs)  (hl : lv_has ls 6 []) {r : Int} {m' : Mem} (hF : bX10_drawn_120 g m = some (r, m')) (Kr : ∀ (H : Heap) (locs : List Loc) (pc : Nat) (ls : Array Slot), Wd G A s H0 ad g m' H locs → decode cX10_drawn pc = .ok (.ireturn, 1) → r32 r ∧ (false = true → r = 0 ∨ r = 1) → narrow .int (.int (iI r)) = .int (iI r) → W p l e rX10_drawn s mt args below meth c H locs 0 0 Q (F0 mt pc ls [.int (iI r)])) : W p l e rX10_drawn s mt args below meth c H locs 0 0 Q (F0 mt 120 ls []) := by
  unfold bX10_drawn_120 at hF
  refine q_bipush C 46 (by decide) dX10_drawn_120 ?_
  cases hF
  exact Kr _ _ _ _ S dX10_drawn_122 ⟨(rl 46 rfl), fun h9 => absurd h9 (by decide)⟩ rfl
set_option maxRecDepth 20000 in
theorem wX10_drawn_0 {p : Program} {l : Launch} {e : Env} {s : State} {mt : MethodId} {args : Array Value} {below : List Frame} {meth : Method} {c : Code} {Q : State → Prop} {G : Gl} {A : Nat → Prop} {H0 : Heap} {ad : Int → Nat} {g : Shp} {H : Heap} {locs : List Loc} {ls : Array Slot} {m : Mem} {x0 x1 : Int} (C : CallFix p mt c cX10_drawn 6 s args tb RX10) (S : Wd G A s H0 ad g m H locs) (hx0 : gk g x0 = 11) (hx1 : r32 x1) (hl : lv_has ls 6 [(0, .ref (ad x0)), (1, .int (iI x1))]) {r : Int} {m' : Mem} (hF : bX10_drawn_0 g x0 x1 m = some (r, m')) (Kr : ∀ (H : Heap) (locs : List Loc) (pc : Nat) (ls : Array Slot), Wd G A s H0 ad g m' H locs → decode cX10_drawn pc = .ok (.ireturn, 1) → r32 r ∧ (false = true → r = 0 ∨ r = 1) → narrow .int (.int (iI r)) = .int (iI r) → W p l e rX10_drawn s mt args below meth c H locs 0 0 Q (F0 mt pc ls [.int (iI r)])) : W p l e rX10_drawn s mt args below meth c H locs 0 0 Q (F0 mt 0 ls []) := by
  unfold bX10_drawn_0 at hF
  refine q_iload_n C hl 1 rfl rfl dX10_drawn_0 ?_
  refine q_if_lt C hx1 11 dX10_drawn_1 (by decide) (fun hc1 => ?_) (fun hc1 => ?_)
  · have hF := if_t hc1 hF
    exact wX10_drawn_11 C S  (lv_sub hl [] rfl) hF Kr
  · have hF := if_f hc1 hF
    refine q_iload_n C hl 1 rfl rfl dX10_drawn_4 ?_
    refine q_sipush C 420 (by decide) dX10_drawn_5 ?_
    refine q_icmp_lt C hx1 (rl 420 rfl) 13 dX10_drawn_8 (by decide) (fun hc2 => ?_) (fun hc2 => ?_)
    · have hF := if_t hc2 hF
      refine q_iload_n C hl 1 rfl rfl dX10_drawn_13 ?_
      refine q_bipush C 21 (by decide) dX10_drawn_14 ?_
      refine q_irem C hx1 (rl 21 rfl) (by decide) dX10_drawn_16 ?_
      obtain ⟨y3, ey3, hF⟩ := vv_ok hF
      have ry3 : r32 y3 := ey3 ▸ (r32_w _)
      refine q_istore_n C hl [(2, .int (iI y3)), (0, .ref (ad x0)), (1, .int (iI x1))] ey3 rfl (by decide) rfl dX10_drawn_17 (fun ls hl => ?_)
      refine q_iload_n C hl 0 rfl rfl dX10_drawn_18 ?_
      refine q_bipush C 20 (by decide) dX10_drawn_19 ?_
      refine q_icmp_ne C ry3 (rl 20 rfl) 27 dX10_drawn_21 (by decide) (fun hc4 => ?_) (fun hc4 => ?_)
      · have hF := if_t hc4 hF
        refine q_bipush C 47 (by decide) dX10_drawn_24 ?_
        cases hF
        exact Kr _ _ _ _ S dX10_drawn_26 ⟨(rl 47 rfl), fun h9 => absurd h9 (by decide)⟩ rfl
      · have hF := if_f hc4 hF
        refine q_bipush C 20 (by decide) dX10_drawn_27 ?_
        refine q_iload_n C hl 2 rfl rfl dX10_drawn_29 ?_
        refine q_bipush C 21 (by decide) dX10_drawn_30 ?_
        refine q_idiv C hx1 (rl 21 rfl) (by decide) dX10_drawn_32 ?_
        refine q_imul C dX10_drawn_33 ?_
        refine q_iload_n C hl 0 rfl rfl dX10_drawn_34 ?_
        refine q_iadd C dX10_drawn_35 ?_
        obtain ⟨y5, ey5, hF⟩ := vv_ok hF
        have ry5 : r32 y5 := ey5 ▸ (r32_w _)
        refine q_istore_n C hl [(3, .int (iI y5)), (2, .int (iI y3)), (0, .ref (ad x0)), (1, .int (iI x1))] ey5 rfl (by decide) rfl dX10_drawn_36 (fun ls hl => ?_)
        refine q_aload_n C hl 2 rfl rfl dX10_drawn_37 ?_
        obtain ⟨k6, hF⟩ := ck_ok hF
        refine q_getr C S 2 fo_RX10_26 (j := 2) rfl rfl hx0 k6 (by decide) dX10_drawn_38 ?_
        obtain ⟨k7, hF⟩ := ck_ok hF
        refine q_getr C S 0 fo_RX10_130 (j := 0) rfl rfl k6 k7 (by decide) dX10_drawn_41 ?_
        refine q_iload_n C hl 0 rfl rfl dX10_drawn_44 ?_
        obtain ⟨i8, hF⟩ := ck_ok hF
        refine q_iald C S k7 i8 dX10_drawn_45 ?_
        obtain ⟨y9, ey9, hF⟩ := vv_ok hF
        have ry9 : r32 y9 := ey9 ▸ (S.r _ _)
        refine q_istore C hl [(4, .int (iI y9)), (3, .int (iI y5)), (2, .int (iI y3)), (0, .ref (ad x0)), (1, .int (iI x1))] ey9 (by decide) rfl dX10_drawn_46 (fun ls hl => ?_)
        refine q_aload_n C hl 3 rfl rfl dX10_drawn_48 ?_
        refine q_iload C hl 0 rfl dX10_drawn_49 ?_
        obtain ⟨v10, m11, h12, hF⟩ := bd2_ok hF
        refine q_ci S (run_V (As := [.int (iI y9)]) (rest := []) C S (cX10_isLine_ok l G hx0 ry9 h12 ad _) hx0 ⟨by decide, _, _, rfl⟩ gd_RX10_93 hdV_X10_isLine rfl ⟨rfl, rfl, by decide, by decide⟩ ⟨Nat.zero_le _, Nat.zero_le _⟩ hl.1 rfl (Nat.le_of_ble_eq_true rfl) dX10_drawn_51) (fun H locs Sm11 h13 => ?_)
        refine q_if_eq C h13.1 71 dX10_drawn_54 (by decide) (fun hc14 => ?_) (fun hc14 => ?_)
        · have hF := if_t hc14 hF
          refine q_iconst C 0 dX10_drawn_71 ?_
          refine q_istore C hl [(5, .int (iI 0)), (4, .int (iI y9)), (3, .int (iI y5)), (2, .int (iI y3)), (0, .ref (ad x0)), (1, .int (iI x1))] rfl (by decide) rfl dX10_drawn_72 (fun ls hl => ?_)
          obtain ⟨cv15, sv16, hi17, hF⟩ := bdl_ok hF
          refine lX10_drawn_74 C hx0 ry5 hi17 ?_ ?_ _ _ _ (rl 0 rfl) Sm11 (lv_sub hl [4, 2, 0] rfl)
          · intro hc18 H locs ls  S19 hl
            have hF := if_t hc18 hF
            exact wX10_drawn_111 C S19  (lv_sub hl [] rfl) hF Kr
          · intro hc20 H locs ls  S21 hl
            have hF := if_f (by rw [hc20]; decide) hF
            exact wX10_drawn_120 C S21  (lv_sub hl [] rfl) hF Kr
        · have hF := if_f hc14 hF
          refine q_bipush C 97 (by decide) dX10_drawn_57 ?_
          refine q_aload_n C hl 3 rfl rfl dX10_drawn_59 ?_
          obtain ⟨k22, hF⟩ := ck_ok hF
          refine q_getr C Sm11 2 fo_RX10_26 (j := 2) rfl rfl hx0 k22 (by decide) dX10_drawn_60 ?_
          obtain ⟨k23, hF⟩ := ck_ok hF
          refine q_getr C Sm11 2 fo_RX10_109 (j := 2) rfl rfl k22 k23 (by decide) dX10_drawn_63 ?_
          refine q_iload C hl 0 rfl dX10_drawn_66 ?_
          obtain ⟨i24, hF⟩ := ck_ok hF
          refine q_iald C Sm11 k23 i24 dX10_drawn_68 ?_
          refine q_iadd C dX10_drawn_69 ?_
          cases hF
          exact Kr _ _ _ _ Sm11 dX10_drawn_70 ⟨(r32_w _), fun h9 => absurd h9 (by decide)⟩ rfl
    · have hF := if_f hc2 hF
      exact wX10_drawn_11 C S  (lv_sub hl [] rfl) hF Kr
theorem cX10_drawn_ok (l : Launch) (G : Gl) {g : Shp} {x0 x1 : Int} {m m' : Mem} {r : Int} (hx0 : gk g x0 = 11) (hx1 : r32 x1) (hF : fX10_drawn g x0 x1 m = some (r, m')) : mI l yX10_drawn (wT yX10_drawn cX10_drawn 6 (some .int)) rX10_drawn G false (fun ad => [.ref (ad x0), .int (iI x1)]) g m r m' :=
  met_i (by decide) (fun ad => Nat.le_of_ble_eq_true rfl) (fun p e s mt args below meth c Q A H0 H locs ad ls C hnm S hl Kr => wX10_drawn_0 C S hx0 hx1 hl hF Kr)
