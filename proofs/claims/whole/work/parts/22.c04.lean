def ebX8_readItem_89 (g : Shp) (z0 : Int) (m : Mem) : Option (Int × Mem) :=
  ck (z0 = 0 ∨ z0 = 1) <|
  some (z0, m)
def ebX8_readItem_88 (g : Shp) (m : Mem) : Option (Int × Mem) :=
  ebX8_readItem_89 g 0 m
def ebX8_readItem_71 (g : Shp) (x2 : Int) (m : Mem) : Option (Int × Mem) :=
  if x2 = 0 then
    ebX8_readItem_88 g m
  else
    bd2 (eX8_take g 59 m) fun v2 m3 =>
    if v2 = 0 then
      ebX8_readItem_88 g m3
    else
      ebX8_readItem_89 g 1 m3
def ebX8_readItem_0 (g : Shp) (x1 : Int) (m : Mem) : Option (Int × Mem) :=
  bd2 (eX8_take g 122 m) fun v1 m2 =>
  if v1 = 0 then
    bd2 (eX8_take g 106 m2) fun v5 m6 =>
    if v5 = 0 then
      bd2 (eX8_take g 98 m6) fun v9 m10 =>
      if v9 = 0 then
        bd2 (eX8_take g 108 m10) fun v13 m14 =>
        if v13 = 0 then
          ebX8_readItem_71 g 0 m14
        else
          bd2 (eX8_readLine g x1 m14) fun v17 m18 =>
          ebX8_readItem_71 g v17 m18
      else
        bd2 (eX8_readBag g x1 m10) fun v20 m21 =>
        ebX8_readItem_71 g v20 m21
    else
      bd2 (eX8_readJoint g x1 m6) fun v23 m24 =>
      ebX8_readItem_71 g v23 m24
  else
    bd2 (eX8_readSizes g x1 m2) fun v26 m27 =>
    ebX8_readItem_71 g v26 m27
def eX8_readItem (g : Shp) (x1 : Int) (m : Mem) : Option (Int × Mem) := ebX8_readItem_0 g x1 m
def ebX8_firstFault_11 (g : Shp) (x1 x2 : Int) (m : Mem) : Option (Int × (Int × Int × Mem)) :=
  if 200 ≤ x2 then
    some (2, (x2, 0, m))
  else
    if (m 2 3) ≤ (m 2 2) then
      some (2, (x2, 0, m))
    else
      vv (m 2 2) fun y3 =>
      bd2 (eX8_readItem g x1 m) fun v4 m5 =>
      if v4 = 0 then
        some (1, (x2, y3, m5))
      else
        vv (w32 (x2 + 1)) fun y8 =>
        some (0, (y8, y3, m5))
def eBX8_firstFault_11 (g : Shp) (x1 : Int) (q : (Int × Int × Mem)) : Option (Int × (Int × Int × Mem)) := ebX8_firstFault_11 g x1 q.1 q.2.2
def ebX8_firstFault_42 (g : Shp) (x3 : Int) (m : Mem) : Option (Int × Mem) :=
  some (x3, m)
def ebX8_firstFault_50 (g : Shp) (m : Mem) : Option (Int × Mem) :=
  some ((-4), m)
def ebX8_firstFault_0 (g : Shp) (x1 : Int) (m : Mem) : Option (Int × Mem) :=
  bd2 (eX7_clear g x1 m) fun v1 m2 =>
  vm (ms m2 2 2 0) fun m4 =>
  bdl (iter (eBX8_firstFault_11 g x1) 100000 (0, 0, m4)) fun cv5 sv6 =>
  if cv5 = 1 then
    ebX8_firstFault_42 g sv6.2.1 sv6.2.2
  else
    ebX8_firstFault_50 g sv6.2.2
def eX8_firstFault (g : Shp) (x1 : Int) (m : Mem) : Option (Int × Mem) := ebX8_firstFault_0 g x1 m
def ebX9_clear_0 (g : Shp) (x0 : Int) (m : Mem) : Option (Int × Mem) :=
  bd2 (eJ7_fill_53178 g (x0 + 2) 0 m) fun v2 m3 =>
  bd2 (eJ7_fill_53178 g (x0 + 3) 0 m3) fun v6 m7 =>
  vm (ms m7 x0 3 0) fun m9 =>
  vm (ms m9 x0 4 0) fun m10 =>
  vm (ms m10 x0 5 0) fun m11 =>
  vm (ms m11 x0 6 0) fun m12 =>
  vm (ms m12 x0 7 0) fun m13 =>
  some (0, m13)
def eX9_clear (g : Shp) (x0 : Int) (m : Mem) : Option (Int × Mem) := ebX9_clear_0 g x0 m
def ebX10_write_12 (g : Shp) (m : Mem) : Option (Int × Mem) :=
  some ((-1), m)
def ebX10_write_0 (g : Shp) (x1 : Int) (m : Mem) : Option (Int × Mem) :=
  if x1 < 32 then
    ebX10_write_12 g m
  else
    if x1 ≤ 126 then
      if (m 2 3) < 200 then
        bd2 (eX8_append g (c16 x1) m) fun v6 m7 =>
        some (m7 2 3, m7)
      else
        some ((-3), m)
    else
      ebX10_write_12 g m
def eX10_write (g : Shp) (x1 : Int) (m : Mem) : Option (Int × Mem) := ebX10_write_0 g x1 m
def ebX10_wipe_0 (g : Shp) (m : Mem) : Option (Int × Mem) :=
  vv (m 2 3) fun y2 =>
  vm (ms m 2 3 0) fun m4 =>
  some (y2, m4)
def eX10_wipe (g : Shp) (m : Mem) : Option (Int × Mem) := ebX10_wipe_0 g m
def ebX10_fault_0 (g : Shp) (m : Mem) : Option (Int × Mem) :=
  bd2 (eX8_firstFault g (m 1 7) m) fun v3 m4 =>
  some (v3, m4)
def eX10_fault (g : Shp) (m : Mem) : Option (Int × Mem) := ebX10_fault_0 g m
def ebX10_forgetAnswers_2 (g : Shp) (x1 : Int) (m : Mem) : Option (Int × (Int × Mem)) :=
  if 9 ≤ x1 then
    some (1, (x1, m))
  else
    ck ((0 : Int) ≤ x1 ∧ x1 < 9) <|
    vm (ms m (176 + (29 + 4 * x1)) 8 0) fun m6 =>
    vv (w32 (x1 + 1)) fun y7 =>
    some (0, (y7, m6))
def eBX10_forgetAnswers_2 (g : Shp) (q : (Int × Mem)) : Option (Int × (Int × Mem)) := ebX10_forgetAnswers_2 g q.1 q.2
def ebX10_forgetAnswers_27 (g : Shp) (m : Mem) : Option (Int × Mem) :=
  vm (ms m 143 8 0) fun m2 =>
  some (0, m2)
def ebX10_forgetAnswers_0 (g : Shp) (m : Mem) : Option (Int × Mem) :=
  bdl (iter (eBX10_forgetAnswers_2 g) 100000 (0, m)) fun cv1 sv2 =>
  ebX10_forgetAnswers_27 g sv2.2
def eX10_forgetAnswers (g : Shp) (m : Mem) : Option (Int × Mem) := ebX10_forgetAnswers_0 g m
def ebX10_layText_26 (g : Shp) (m : Mem) : Option (Int × Mem) :=
  some ((-2), m)
def ebX10_layText_0 (g : Shp) (m : Mem) : Option (Int × Mem) :=
  bd2 (eX8_firstFault g (m 1 7) m) fun v3 m4 =>
  if v3 = ((-4)) then
    if (m4 (m4 1 7) 5) = 0 then
      ebX10_layText_26 g m4
    else
      vm (ms m4 1 6 (m4 1 7)) fun m12 =>
      vm (ms m12 1 7 (m4 1 6)) fun m13 =>
      bd2 (eX1_begin g 85 (m13 1 6) m13) fun v16 m17 =>
      vm (ms m17 93 1 0) fun m20 =>
      bd2 (eX10_forgetAnswers g m20) fun v21 m22 =>
      some (m22 (m22 1 6) 5, m22)
  else
    ebX10_layText_26 g m4
def eX10_layText (g : Shp) (m : Mem) : Option (Int × Mem) := ebX10_layText_0 g m
def ebX10_lay_0 (g : Shp) (m : Mem) : Option (Int × Mem) :=
  bd2 (eX10_layText g m) fun v1 m2 =>
  some (v1, m2)
def eX10_lay (g : Shp) (m : Mem) : Option (Int × Mem) := ebX10_lay_0 g m
def ebX10_beginChange_0 (g : Shp) (m : Mem) : Option (Int × Mem) :=
  bd2 (eX4_keep g 85 m) fun v3 m4 =>
  bd2 (eX10_forgetAnswers g m4) fun v6 m7 =>
  some (0, m7)
def eX10_beginChange (g : Shp) (m : Mem) : Option (Int × Mem) := ebX10_beginChange_0 g m
def ebX10_joint_9 (g : Shp) (m : Mem) : Option (Int × Mem) :=
  some ((-1), m)
def ebX10_joint_0 (g : Shp) (x1 : Int) (m : Mem) : Option (Int × Mem) :=
  if x1 < 0 then
    ebX10_joint_9 g m
  else
    if x1 ≤ 2 then
      if x1 = (m 85 7) then
        some ((-2), m)
      else
        bd2 (eX10_beginChange g m) fun v5 m6 =>
        vv (m6 85 7) fun y9 =>
        vm (ms m6 85 7 x1) fun m11 =>
        some (y9, m11)
    else
      ebX10_joint_9 g m
def eX10_joint (g : Shp) (x1 : Int) (m : Mem) : Option (Int × Mem) := ebX10_joint_0 g x1 m
def ebX10_isLine_20 (g : Shp) (z0 : Int) (m : Mem) : Option (Int × Mem) :=
  ck (z0 = 0 ∨ z0 = 1) <|
  some (z0, m)
def ebX10_isLine_19 (g : Shp) (m : Mem) : Option (Int × Mem) :=
  ebX10_isLine_20 g 0 m
def ebX10_isLine_0 (g : Shp) (x1 : Int) (m : Mem) : Option (Int × Mem) :=
  if x1 < 0 then
    ebX10_isLine_19 g m
  else
    if (m (m 1 6) 5) ≤ x1 then
      ebX10_isLine_19 g m
    else
      ebX10_isLine_20 g 1 m
def eX10_isLine (g : Shp) (x1 : Int) (m : Mem) : Option (Int × Mem) := ebX10_isLine_0 g x1 m
def ebX10_line_0 (g : Shp) (x1 x2 : Int) (m : Mem) : Option (Int × Mem) :=
  bd2 (eX10_isLine g x1 m) fun v1 m2 =>
  if v1 = 0 then
    some ((-1), m2)
  else
    if x2 = 0 then
      ck ((0 : Int) ≤ x1 ∧ x1 < 3) <|
      some (m2 (m2 1 6 + 3 + (2 + 3 * x1)) 3, m2)
    else
      if x2 = 1 then
        ck ((0 : Int) ≤ x1 ∧ x1 < 3) <|
        some (m2 (m2 1 6 + 3 + (2 + 3 * x1)) 2, m2)
      else
        if x2 = 2 then
          ck ((0 : Int) ≤ x1 ∧ x1 < 3) <|
          some (w32 ((m2 (m2 1 6 + 3 + (2 + 3 * x1)) 3) - 1), m2)
        else
          if x2 = 3 then
            ck ((0 : Int) ≤ x1 ∧ x1 < 3) <|
            some (m2 88 x1, m2)
          else
            if x2 = 4 then
              ck ((0 : Int) ≤ x1 ∧ x1 < 3) <|
              bd2 (eX1_cellsOf g 85 x1 (m2 1 6 + 3 + (2 + 3 * x1)) m2) fun v30 m31 =>
              some (v30, m31)
            else
              if x2 = 5 then
                ck ((0 : Int) ≤ x1 ∧ x1 < 3) <|
                some (m2 89 x1, m2)
              else
                if x2 = 6 then
                  ck ((0 : Int) ≤ x1 ∧ x1 < 3) <|
                  some (m2 90 x1, m2)
                else
                  some ((-1), m2)
def eX10_line (g : Shp) (x1 x2 : Int) (m : Mem) : Option (Int × Mem) := ebX10_line_0 g x1 x2 m
def ebX10_cell_12 (g : Shp) (m : Mem) : Option (Int × Mem) :=
  some ((-1), m)
def ebX10_cell_49 (g : Shp) (z0 : Int) (m : Mem) : Option (Int × Mem) :=
  some (z0, m)
def ebX10_cell_0 (g : Shp) (x1 x2 : Int) (m : Mem) : Option (Int × Mem) :=
  bd2 (eX10_isLine g x1 m) fun v1 m2 =>
  if v1 = 0 then
    ebX10_cell_12 g m2
  else
    if 0 ≤ x2 then
      ck ((0 : Int) ≤ x1 ∧ x1 < 3) <|
      if (m2 (m2 1 6 + 3 + (2 + 3 * x1)) 2) ≤ x2 then
        ebX10_cell_49 g ((-4)) m2
      else
        ck ((0 : Int) ≤ x1 ∧ x1 < 3) <|
        ck ((0 : Int) ≤ x2 ∧ x2 < 60) <|
        ebX10_cell_49 g (m2 (m2 1 6 + 3 + (2 + 3 * x1) + 1) x2) m2
    else
      ebX10_cell_12 g m2
def eX10_cell (g : Shp) (x1 x2 : Int) (m : Mem) : Option (Int × Mem) := ebX10_cell_0 g x1 x2 m
def ebX10_whose_0 (g : Shp) (x1 x2 : Int) (m : Mem) : Option (Int × Mem) :=
  bd2 (eX10_isOnGround g x1 x2 m) fun v1 m2 =>
  if v1 = 0 then
    some ((-1), m2)
  else
    ck ((0 : Int) ≤ (w32 ((w32 (20 * x2)) + x1)) ∧ (w32 ((w32 (20 * x2)) + x1)) < 400) <|
    some (m2 86 (w32 ((w32 (20 * x2)) + x1)), m2)
def eX10_whose (g : Shp) (x1 x2 : Int) (m : Mem) : Option (Int × Mem) := ebX10_whose_0 g x1 x2 m
def ebX10_piece_13 (g : Shp) (m : Mem) : Option (Int × Mem) :=
  some ((-1), m)
def ebX10_piece_86 (g : Shp) (z0 : Int) (m : Mem) : Option (Int × Mem) :=
  some (z0, m)
def ebX10_piece_0 (g : Shp) (x1 x2 : Int) (m : Mem) : Option (Int × Mem) :=
  bd2 (eX10_isLine g x1 m) fun v1 m2 =>
  if v1 = 0 then
    ebX10_piece_13 g m2
  else
    if ((-1)) ≤ x2 then
      bd2 (eX1_isCovered g 85 x1 m2) fun v7 m8 =>
      if v7 = 0 then
        ck ((0 : Int) ≤ x1 ∧ x1 < 3) <|
        bd2 (eX6_split g (m8 1 6 + 3 + (2 + 3 * x1)) 86 m8) fun v20 m21 =>
        if x2 = ((-1)) then
          some (m21 6 2, m21)
        else
          if (m21 6 2) ≤ x2 then
            ebX10_piece_86 g ((-4)) m21
          else
            ck ((0 : Int) ≤ x2 ∧ x2 < 60) <|
            ebX10_piece_86 g (m21 7 x2) m21
      else
        some ((-2), m8)
    else
      ebX10_piece_13 g m2
def eX10_piece (g : Shp) (x1 x2 : Int) (m : Mem) : Option (Int × Mem) := ebX10_piece_0 g x1 x2 m
def ebX10_takeUp_0 (g : Shp) (x1 : Int) (m : Mem) : Option (Int × Mem) :=
  bd2 (eX10_isLine g x1 m) fun v1 m2 =>
  if v1 = 0 then
    some ((-1), m2)
  else
    bd2 (eX1_isCovered g 85 x1 m2) fun v6 m7 =>
    if v6 = 0 then
      some ((-2), m7)
    else
      bd2 (eX10_beginChange g m7) fun v10 m11 =>
      ck ((0 : Int) ≤ x1 ∧ x1 < 3) <|
      bd2 (eX1_pickUp g 85 x1 (m11 1 6 + 3 + (2 + 3 * x1)) (m11 1 6 + 1) m11) fun v20 m21 =>
      some (v20, m21)
def eX10_takeUp (g : Shp) (x1 : Int) (m : Mem) : Option (Int × Mem) := ebX10_takeUp_0 g x1 m
def ebX10_bag_16 (g : Shp) (m : Mem) : Option (Int × Mem) :=
  some ((-1), m)
def ebX10_bag_0 (g : Shp) (x1 x2 : Int) (m : Mem) : Option (Int × Mem) :=
  bd2 (eX10_isColour g x1 m) fun v1 m2 =>
  if v1 = 0 then
    ebX10_bag_16 g m2
  else
    if x2 < 0 then
      ebX10_bag_16 g m2
    else
      if x2 < 3 then
        ck ((0 : Int) ≤ (w32 ((w32 (x1 * 3)) + x2)) ∧ (w32 ((w32 (x1 * 3)) + x2)) < 9) <|
        some (m2 87 (w32 ((w32 (x1 * 3)) + x2)), m2)
      else
        ebX10_bag_16 g m2
def eX10_bag (g : Shp) (x1 x2 : Int) (m : Mem) : Option (Int × Mem) := ebX10_bag_0 g x1 x2 m
def ebX10_fill_31 (g : Shp) (x1 x2 x3 : Int) (m : Mem) : Option (Int × (Int × Mem)) :=
  if 3 ≤ x3 then
    some (1, (x3, m))
  else
    ck ((0 : Int) ≤ (w32 ((w32 (x1 * 3)) + x3)) ∧ (w32 ((w32 (x1 * 3)) + x3)) < 9) <|
    vm (ms m 87 (w32 ((w32 (x1 * 3)) + x3)) 6) fun m5 =>
    vv (w32 (x3 + 1)) fun y6 =>
    some (0, (y6, m5))
def eBX10_fill_31 (g : Shp) (x1 x2 : Int) (q : (Int × Mem)) : Option (Int × (Int × Mem)) := ebX10_fill_31 g x1 x2 q.1 q.2
def ebX10_fill_57 (g : Shp) (x2 : Int) (m : Mem) : Option (Int × Mem) :=
  some (x2, m)
def ebX10_fill_0 (g : Shp) (x1 : Int) (m : Mem) : Option (Int × Mem) :=
  bd2 (eX10_isColour g x1 m) fun v1 m2 =>
  if v1 = 0 then
    some ((-1), m2)
  else
    bd2 (eX1_missingIn g 85 x1 m2) fun v6 m7 =>
    if v6 = 0 then
      some ((-2), m7)
    else
      bd2 (eX10_beginChange g m7) fun v10 m11 =>
      bdl (iter (eBX10_fill_31 g x1 v6) 100000 (0, m11)) fun cv13 sv14 =>
      ebX10_fill_57 g v6 sv14.2
def eX10_fill (g : Shp) (x1 : Int) (m : Mem) : Option (Int × Mem) := ebX10_fill_0 g x1 m
def ebX10_undo_0 (g : Shp) (m : Mem) : Option (Int × Mem) :=
  if (m 93 1) = 0 then
    some ((-2), m)
  else
    bd2 (eX4_giveBack g 85 m) fun v5 m6 =>
    bd2 (eX10_forgetAnswers g m6) fun v8 m9 =>
    some (m9 93 1, m9)
def eX10_undo (g : Shp) (m : Mem) : Option (Int × Mem) := ebX10_undo_0 g m
def ebX10_drawn_114 (g : Shp) (x3 x5 : Int) (m : Mem) : Option (Int × (Int × Mem)) :=
  vv (w32 (x5 + 1)) fun y1 =>
  some (0, (y1, m))
def ebX10_drawn_74 (g : Shp) (x3 x5 : Int) (m : Mem) : Option (Int × (Int × Mem)) :=
  if (m (m 1 6) 5) ≤ x5 then
    some (2, (x5, m))
  else
    bd2 (eX1_isCovered g 85 x5 m) fun v4 m5 =>
    if v4 = 0 then
      bd2 (eX7_goesOver g (m5 1 6) x5 x3 m5) fun v9 m10 =>
      if v9 = 0 then
        ebX10_drawn_114 g x3 x5 m10
      else
        some (1, (x5, m10))
    else
      ebX10_drawn_114 g x3 x5 m5
def eBX10_drawn_74 (g : Shp) (x3 : Int) (q : (Int × Mem)) : Option (Int × (Int × Mem)) := ebX10_drawn_74 g x3 q.1 q.2
def ebX10_drawn_11 (g : Shp) (m : Mem) : Option (Int × Mem) :=
  some ((-1), m)
def ebX10_drawn_111 (g : Shp) (m : Mem) : Option (Int × Mem) :=
  some (43, m)
def ebX10_drawn_120 (g : Shp) (m : Mem) : Option (Int × Mem) :=
  some (46, m)
def ebX10_drawn_0 (g : Shp) (x1 : Int) (m : Mem) : Option (Int × Mem) :=
  if x1 < 0 then
    ebX10_drawn_11 g m
  else
    if x1 < 420 then
      vv (jrem x1 21) fun y3 =>
      if y3 = 20 then
        some (47, m)
      else
        vv (w32 ((w32 (20 * (jdiv x1 21))) + y3)) fun y5 =>
        ck ((0 : Int) ≤ y5 ∧ y5 < 400) <|
        vv (m 86 y5) fun y9 =>
        bd2 (eX10_isLine g y9 m) fun v10 m11 =>
        if v10 = 0 then
          bdl (iter (eBX10_drawn_74 g y5) 100000 (0, m11)) fun cv14 sv15 =>
          if cv14 = 1 then
            ebX10_drawn_111 g sv15.2
          else
            ebX10_drawn_120 g sv15.2
        else
          ck ((0 : Int) ≤ y9 ∧ y9 < 3) <|
          some (w32 (97 + (m11 88 y9)), m11)
    else
      ebX10_drawn_11 g m
def eX10_drawn (g : Shp) (x1 : Int) (m : Mem) : Option (Int × Mem) := ebX10_drawn_0 g x1 m
set_option maxRecDepth 20000 in
theorem qX8_readItem_89 {g : Shp} {m : Mem} {z0 : Int} (h : Sh g m)  : bX8_readItem_89 g z0 m = ebX8_readItem_89 g z0 m := by
  unfold bX8_readItem_89 ebX8_readItem_89
  refine ck_c (fun b1 => ?_)
  rfl
theorem nX8_readItem_89 {g : Shp} {m : Mem} {z0 : Int} (h : Sh g m)  {r : Int} {m' : Mem} (hF : ebX8_readItem_89 g z0 m = some (r, m')) : Sh g m' := by
  unfold ebX8_readItem_89 at hF
  obtain ⟨b1, hF⟩ := ck_ok hF
  cases hF
  exact h
set_option maxRecDepth 20000 in
theorem qX8_readItem_88 {g : Shp} {m : Mem} (h : Sh g m)  : bX8_readItem_88 g m = ebX8_readItem_88 g m := by
  unfold bX8_readItem_88 ebX8_readItem_88
  exact qX8_readItem_89 h 
theorem nX8_readItem_88 {g : Shp} {m : Mem} (h : Sh g m)  {r : Int} {m' : Mem} (hF : ebX8_readItem_88 g m = some (r, m')) : Sh g m' := by
  unfold ebX8_readItem_88 at hF
  exact nX8_readItem_89 h  hF
set_option maxRecDepth 20000 in
theorem qX8_readItem_71 {g : Shp} {m : Mem} {x2 : Int} (h : Sh g m)  : bX8_readItem_71 g 2 x2 m = ebX8_readItem_71 g x2 m := by
  unfold bX8_readItem_71 ebX8_readItem_71
  refine if_c (fun hc1 => ?_) (fun hc1 => ?_)
  · exact qX8_readItem_88 h
  · refine bd2_q (qX8_take h ) (fun v2 m3 h4 => ?_)
    have hm3 := nX8_take h  ((qX8_take h ).symm.trans h4)
    refine if_c (fun hc5 => ?_) (fun hc5 => ?_)
    · exact qX8_readItem_88 hm3
    · exact qX8_readItem_89 hm3
theorem nX8_readItem_71 {g : Shp} {m : Mem} {x2 : Int} (h : Sh g m)  {r : Int} {m' : Mem} (hF : ebX8_readItem_71 g x2 m = some (r, m')) : Sh g m' := by
  unfold ebX8_readItem_71 at hF
  rcases if_ok hF with ⟨hc1, hF⟩ | ⟨hc1, hF⟩
  · exact nX8_readItem_88 h  hF
  · obtain ⟨v2, m3, h4, hF⟩ := bd2_ok hF
    have hm3 := nX8_take h  h4
    rcases if_ok hF with ⟨hc5, hF⟩ | ⟨hc5, hF⟩
    · exact nX8_readItem_88 hm3  hF
    · exact nX8_readItem_89 hm3  hF
set_option maxRecDepth 20000 in
theorem qX8_readItem_0 {g : Shp} {m : Mem} {x1 : Int} (h : Sh g m) (hx1 : gk g x1 = 8) : bX8_readItem_0 g 2 x1 m = ebX8_readItem_0 g x1 m := by
  unfold bX8_readItem_0 ebX8_readItem_0
  refine bd2_q (qX8_take h ) (fun v1 m2 h3 => ?_)
  have hm2 := nX8_take h  ((qX8_take h ).symm.trans h3)
  refine if_c (fun hc4 => ?_) (fun hc4 => ?_)
  · refine bd2_q (qX8_take hm2 ) (fun v5 m6 h7 => ?_)
    have hm6 := nX8_take hm2  ((qX8_take hm2 ).symm.trans h7)
    refine if_c (fun hc8 => ?_) (fun hc8 => ?_)
    · refine bd2_q (qX8_take hm6 ) (fun v9 m10 h11 => ?_)
      have hm10 := nX8_take hm6  ((qX8_take hm6 ).symm.trans h11)
      refine if_c (fun hc12 => ?_) (fun hc12 => ?_)
      · refine bd2_q (qX8_take hm10 ) (fun v13 m14 h15 => ?_)
        have hm14 := nX8_take hm10  ((qX8_take hm10 ).symm.trans h15)
        refine if_c (fun hc16 => ?_) (fun hc16 => ?_)
        · exact qX8_readItem_71 hm14
        · refine bd2_q (qX8_readLine hm14 hx1) (fun v17 m18 h19 => ?_)
          have hm18 := nX8_readLine hm14 hx1 ((qX8_readLine hm14 hx1).symm.trans h19)
          exact qX8_readItem_71 hm18 
      · refine bd2_q (qX8_readBag hm10 hx1) (fun v20 m21 h22 => ?_)
        have hm21 := nX8_readBag hm10 hx1 ((qX8_readBag hm10 hx1).symm.trans h22)
        exact qX8_readItem_71 hm21 
    · refine bd2_q (qX8_readJoint hm6 hx1) (fun v23 m24 h25 => ?_)
      have hm24 := nX8_readJoint hm6 hx1 ((qX8_readJoint hm6 hx1).symm.trans h25)
      exact qX8_readItem_71 hm24 
  · refine bd2_q (qX8_readSizes hm2 hx1) (fun v26 m27 h28 => ?_)
    have hm27 := nX8_readSizes hm2 hx1 ((qX8_readSizes hm2 hx1).symm.trans h28)
    exact qX8_readItem_71 hm27 
theorem nX8_readItem_0 {g : Shp} {m : Mem} {x1 : Int} (h : Sh g m) (hx1 : gk g x1 = 8) {r : Int} {m' : Mem} (hF : ebX8_readItem_0 g x1 m = some (r, m')) : Sh g m' := by
  unfold ebX8_readItem_0 at hF
  obtain ⟨v1, m2, h3, hF⟩ := bd2_ok hF
  have hm2 := nX8_take h  h3
  rcases if_ok hF with ⟨hc4, hF⟩ | ⟨hc4, hF⟩
  · obtain ⟨v5, m6, h7, hF⟩ := bd2_ok hF
    have hm6 := nX8_take hm2  h7
    rcases if_ok hF with ⟨hc8, hF⟩ | ⟨hc8, hF⟩
    · obtain ⟨v9, m10, h11, hF⟩ := bd2_ok hF
      have hm10 := nX8_take hm6  h11
      rcases if_ok hF with ⟨hc12, hF⟩ | ⟨hc12, hF⟩
      · obtain ⟨v13, m14, h15, hF⟩ := bd2_ok hF
        have hm14 := nX8_take hm10  h15
        rcases if_ok hF with ⟨hc16, hF⟩ | ⟨hc16, hF⟩
        · exact nX8_readItem_71 hm14  hF
        · obtain ⟨v17, m18, h19, hF⟩ := bd2_ok hF
          have hm18 := nX8_readLine hm14 hx1 h19
          exact nX8_readItem_71 hm18  hF
      · obtain ⟨v20, m21, h22, hF⟩ := bd2_ok hF
        have hm21 := nX8_readBag hm10 hx1 h22
        exact nX8_readItem_71 hm21  hF
    · obtain ⟨v23, m24, h25, hF⟩ := bd2_ok hF
      have hm24 := nX8_readJoint hm6 hx1 h25
      exact nX8_readItem_71 hm24  hF
  · obtain ⟨v26, m27, h28, hF⟩ := bd2_ok hF
    have hm27 := nX8_readSizes hm2 hx1 h28
    exact nX8_readItem_71 hm27  hF
theorem qX8_readItem {g : Shp} {m : Mem} {x1 : Int} (h : Sh g m) (hx1 : gk g x1 = 8) : fX8_readItem g 2 x1 m = eX8_readItem g x1 m := qX8_readItem_0 h hx1
theorem nX8_readItem {g : Shp} {m : Mem} {x1 : Int} (h : Sh g m) (hx1 : gk g x1 = 8) {r : Int} {m' : Mem} (hF : eX8_readItem g x1 m = some (r, m')) : Sh g m' := nX8_readItem_0 h hx1 hF
set_option maxRecDepth 20000 in
theorem qX8_firstFault_11 {g : Shp} {m : Mem} {x1 x2 : Int} (h : Sh g m) (hx1 : gk g x1 = 8) : bX8_firstFault_11 g 2 x1 x2 m = ebX8_firstFault_11 g x1 x2 m := by
  unfold bX8_firstFault_11 ebX8_firstFault_11
  refine if_c (fun hc1 => ?_) (fun hc1 => ?_)
  · rfl
  · refine if_c (fun hc2 => ?_) (fun hc2 => ?_)
    · rfl
    · refine vv_c (fun y3 ey3 => ?_)
      refine bd2_q (qX8_readItem h hx1) (fun v4 m5 h6 => ?_)
      have hm5 := nX8_readItem h hx1 ((qX8_readItem h hx1).symm.trans h6)
      refine if_c (fun hc7 => ?_) (fun hc7 => ?_)
      · rfl
      · refine vv_c (fun y8 ey8 => ?_)
        rfl
theorem nX8_firstFault_11 {g : Shp} {m : Mem} {x1 x2 : Int} (h : Sh g m) (hx1 : gk g x1 = 8) {c1 : Int} {s1 : (Int × Int × Mem)} (hF : ebX8_firstFault_11 g x1 x2 m = some (c1, s1)) : Sh g s1.2.2 := by
  unfold ebX8_firstFault_11 at hF
  rcases if_ok hF with ⟨hc1, hF⟩ | ⟨hc1, hF⟩
  · cases hF
    exact h
  · rcases if_ok hF with ⟨hc2, hF⟩ | ⟨hc2, hF⟩
    · cases hF
      exact h
    · obtain ⟨y3, ey3, hF⟩ := vv_ok hF
      obtain ⟨v4, m5, h6, hF⟩ := bd2_ok hF
      have hm5 := nX8_readItem h hx1 h6
      rcases if_ok hF with ⟨hc7, hF⟩ | ⟨hc7, hF⟩
      · cases hF
        exact hm5
      · obtain ⟨y8, ey8, hF⟩ := vv_ok hF
        cases hF
        exact hm5
theorem nlX8_firstFault_11 {g : Shp} {x1 : Int} (hx1 : gk g x1 = 8) {n : Nat} {s0 s1 : (Int × Int × Mem)} {c1 : Int} (h : Sh g s0.2.2) (hI : iter (eBX8_firstFault_11 g x1) n s0 = some (c1, s1)) : Sh g s1.2.2 :=
  iter_inv (B := eBX8_firstFault_11 g x1) (fun q => Sh g q.2.2) (fun s c s' hs hB => nX8_firstFault_11 hs hx1 hB) n s0 c1 s1 h hI
theorem qlX8_firstFault_11 {g : Shp} {x1 : Int} (hx1 : gk g x1 = 8) {n : Nat} {s0 : (Int × Int × Mem)} (h : Sh g s0.2.2) : iter (BX8_firstFault_11 g 2 x1) n s0 = iter (eBX8_firstFault_11 g x1) n s0 :=
  iter_eq (B := BX8_firstFault_11 g 2 x1) (E := eBX8_firstFault_11 g x1) (fun q => Sh g q.2.2) (fun s hs => qX8_firstFault_11 hs hx1) (fun s c s' hs hB => nX8_firstFault_11 hs hx1 ((qX8_firstFault_11 hs hx1).symm.trans hB)) n s0 h
set_option maxRecDepth 20000 in
theorem qX8_firstFault_42 {g : Shp} {m : Mem} {x3 : Int} (h : Sh g m)  : bX8_firstFault_42 g x3 m = ebX8_firstFault_42 g x3 m := by
  unfold bX8_firstFault_42 ebX8_firstFault_42
  rfl
theorem nX8_firstFault_42 {g : Shp} {m : Mem} {x3 : Int} (h : Sh g m)  {r : Int} {m' : Mem} (hF : ebX8_firstFault_42 g x3 m = some (r, m')) : Sh g m' := by
  unfold ebX8_firstFault_42 at hF
  cases hF
  exact h
set_option maxRecDepth 20000 in
theorem qX8_firstFault_50 {g : Shp} {m : Mem} (h : Sh g m)  : bX8_firstFault_50 g m = ebX8_firstFault_50 g m := by
  unfold bX8_firstFault_50 ebX8_firstFault_50
  rfl
theorem nX8_firstFault_50 {g : Shp} {m : Mem} (h : Sh g m)  {r : Int} {m' : Mem} (hF : ebX8_firstFault_50 g m = some (r, m')) : Sh g m' := by
  unfold ebX8_firstFault_50 at hF
  cases hF
  exact h
set_option maxRecDepth 20000 in
theorem qX8_firstFault_0 {g : Shp} {m : Mem} {x1 : Int} (h : Sh g m) (hx1 : gk g x1 = 8) : bX8_firstFault_0 g 2 x1 m = ebX8_firstFault_0 g x1 m := by
  unfold bX8_firstFault_0 ebX8_firstFault_0
  refine bd2_q (qX7_clear h hx1) (fun v1 m2 h3 => ?_)
  have hm2 := nX7_clear h hx1 ((qX7_clear h hx1).symm.trans h3)
  refine vm_c (fun m4 em4 => ?_)
  have hm4 := hm2.s em4 (nRf (sk_2 hm2) (by decide) (by decide))
  refine bdl_q (qlX8_firstFault_11 hx1 (n := 100000) (s0 := (0, 0, m4)) hm4) (fun cv5 sv6 hi7 => ?_)
  have h8 := nlX8_firstFault_11 hx1 (s0 := (0, 0, m4)) hm4 ((qlX8_firstFault_11 hx1 (n := 100000) (s0 := (0, 0, m4)) hm4).symm.trans hi7)
  refine if_c (fun hc9 => ?_) (fun hc9 => ?_)
  · exact qX8_firstFault_42 h8
  · exact qX8_firstFault_50 h8
theorem nX8_firstFault_0 {g : Shp} {m : Mem} {x1 : Int} (h : Sh g m) (hx1 : gk g x1 = 8) {r : Int} {m' : Mem} (hF : ebX8_firstFault_0 g x1 m = some (r, m')) : Sh g m' := by
  unfold ebX8_firstFault_0 at hF
  obtain ⟨v1, m2, h3, hF⟩ := bd2_ok hF
  have hm2 := nX7_clear h hx1 h3
  obtain ⟨m4, em4, hF⟩ := vm_ok hF
  have hm4 := hm2.s em4 (nRf (sk_2 hm2) (by decide) (by decide))
  obtain ⟨cv5, sv6, hi7, hF⟩ := bdl_ok hF
  have h8 := nlX8_firstFault_11 hx1 (s0 := (0, 0, m4)) hm4 hi7
  rcases if_ok hF with ⟨hc9, hF⟩ | ⟨hc9, hF⟩
  · exact nX8_firstFault_42 h8  hF
  · exact nX8_firstFault_50 h8  hF
theorem qX8_firstFault {g : Shp} {m : Mem} {x1 : Int} (h : Sh g m) (hx1 : gk g x1 = 8) : fX8_firstFault g 2 x1 m = eX8_firstFault g x1 m := qX8_firstFault_0 h hx1
theorem nX8_firstFault {g : Shp} {m : Mem} {x1 : Int} (h : Sh g m) (hx1 : gk g x1 = 8) {r : Int} {m' : Mem} (hF : eX8_firstFault g x1 m = some (r, m')) : Sh g m' := nX8_firstFault_0 h hx1 hF
set_option maxRecDepth 20000 in
theorem qX9_clear_0 {g : Shp} {m : Mem} {x0 : Int} (h : Sh g m) (hx0 : gk g x0 = 10) : bX9_clear_0 g x0 m = ebX9_clear_0 g x0 m := by
  unfold bX9_clear_0 ebX9_clear_0
  have k1 := u10_1 h (r := x0) (q := x0 + 2) hx0 rfl
  rewrite [k1.1, ck_t k1.2.1]
  refine bd2_q (qJ7_fill_53178 h k1.2.1) (fun v2 m3 h4 => ?_)
  have hm3 := nJ7_fill_53178 h k1.2.1 ((qJ7_fill_53178 h k1.2.1).symm.trans h4)
  have k5 := u10_2 hm3 (r := x0) (q := x0 + 3) hx0 rfl
  rewrite [k5.1, ck_t k5.2.1]
  refine bd2_q (qJ7_fill_53178 hm3 k5.2.1) (fun v6 m7 h8 => ?_)
  have hm7 := nJ7_fill_53178 hm3 k5.2.1 ((qJ7_fill_53178 hm3 k5.2.1).symm.trans h8)
  refine vm_c (fun m9 em9 => ?_)
  have hm9 := hm7.s em9 (nRf hx0 (by decide) (by decide))
  refine vm_c (fun m10 em10 => ?_)
  have hm10 := hm9.s em10 (nRf hx0 (by decide) (by decide))
  refine vm_c (fun m11 em11 => ?_)
  have hm11 := hm10.s em11 (nRf hx0 (by decide) (by decide))
  refine vm_c (fun m12 em12 => ?_)
  have hm12 := hm11.s em12 (nRf hx0 (by decide) (by decide))
  refine vm_c (fun m13 em13 => ?_)
  have hm13 := hm12.s em13 (nRf hx0 (by decide) (by decide))
  rfl
theorem nX9_clear_0 {g : Shp} {m : Mem} {x0 : Int} (h : Sh g m) (hx0 : gk g x0 = 10) {r : Int} {m' : Mem} (hF : ebX9_clear_0 g x0 m = some (r, m')) : Sh g m' := by
  unfold ebX9_clear_0 at hF
  have k1 := u10_1 h (r := x0) (q := x0 + 2) hx0 rfl
  obtain ⟨v2, m3, h4, hF⟩ := bd2_ok hF
  have hm3 := nJ7_fill_53178 h k1.2.1 h4
  have k5 := u10_2 hm3 (r := x0) (q := x0 + 3) hx0 rfl
  obtain ⟨v6, m7, h8, hF⟩ := bd2_ok hF
  have hm7 := nJ7_fill_53178 hm3 k5.2.1 h8
  obtain ⟨m9, em9, hF⟩ := vm_ok hF
  have hm9 := hm7.s em9 (nRf hx0 (by decide) (by decide))
  obtain ⟨m10, em10, hF⟩ := vm_ok hF
  have hm10 := hm9.s em10 (nRf hx0 (by decide) (by decide))
  obtain ⟨m11, em11, hF⟩ := vm_ok hF
  have hm11 := hm10.s em11 (nRf hx0 (by decide) (by decide))
  obtain ⟨m12, em12, hF⟩ := vm_ok hF
  have hm12 := hm11.s em12 (nRf hx0 (by decide) (by decide))
  obtain ⟨m13, em13, hF⟩ := vm_ok hF
  have hm13 := hm12.s em13 (nRf hx0 (by decide) (by decide))
  cases hF
  exact hm13
theorem qX9_clear {g : Shp} {m : Mem} {x0 : Int} (h : Sh g m) (hx0 : gk g x0 = 10) : fX9_clear g x0 m = eX9_clear g x0 m := qX9_clear_0 h hx0
theorem nX9_clear {g : Shp} {m : Mem} {x0 : Int} (h : Sh g m) (hx0 : gk g x0 = 10) {r : Int} {m' : Mem} (hF : eX9_clear g x0 m = some (r, m')) : Sh g m' := nX9_clear_0 h hx0 hF
set_option maxRecDepth 20000 in
theorem qX10_write_12 {g : Shp} {m : Mem} (h : Sh g m)  : bX10_write_12 g m = ebX10_write_12 g m := by
  unfold bX10_write_12 ebX10_write_12
  rfl
theorem nX10_write_12 {g : Shp} {m : Mem} (h : Sh g m)  {r : Int} {m' : Mem} (hF : ebX10_write_12 g m = some (r, m')) : Sh g m' := by
  unfold ebX10_write_12 at hF
  cases hF
  exact h
set_option maxRecDepth 20000 in
theorem qX10_write_0 {g : Shp} {m : Mem} {x1 : Int} (h : Sh g m)  : bX10_write_0 g 1 x1 m = ebX10_write_0 g x1 m := by
  unfold bX10_write_0 ebX10_write_0
  refine if_c (fun hc1 => ?_) (fun hc1 => ?_)
  · exact qX10_write_12 h
  · refine if_c (fun hc2 => ?_) (fun hc2 => ?_)
    · have k3 := s_1_0 h
      rewrite [k3.1, ck_t k3.2.1]
      refine if_c (fun hc4 => ?_) (fun hc4 => ?_)
      · have k5 := s_1_0 h
        refine bd2_q (qX8_append h ) (fun v6 m7 h8 => ?_)
        have hm7 := nX8_append h  ((qX8_append h ).symm.trans h8)
        have k9 := s_1_0 hm7
        rewrite [k9.1, ck_t k9.2.1]
        rfl
      · rfl
    · exact qX10_write_12 h
theorem nX10_write_0 {g : Shp} {m : Mem} {x1 : Int} (h : Sh g m)  {r : Int} {m' : Mem} (hF : ebX10_write_0 g x1 m = some (r, m')) : Sh g m' := by
  unfold ebX10_write_0 at hF
  rcases if_ok hF with ⟨hc1, hF⟩ | ⟨hc1, hF⟩
  · exact nX10_write_12 h  hF
  · rcases if_ok hF with ⟨hc2, hF⟩ | ⟨hc2, hF⟩
    · have k3 := s_1_0 h
      rcases if_ok hF with ⟨hc4, hF⟩ | ⟨hc4, hF⟩
      · have k5 := s_1_0 h
        obtain ⟨v6, m7, h8, hF⟩ := bd2_ok hF
        have hm7 := nX8_append h  h8
        have k9 := s_1_0 hm7
        cases hF
        exact hm7
      · cases hF
        exact h
    · exact nX10_write_12 h  hF
theorem qX10_write {g : Shp} {m : Mem} {x1 : Int} (h : Sh g m)  : fX10_write g 1 x1 m = eX10_write g x1 m := qX10_write_0 h 
theorem nX10_write {g : Shp} {m : Mem} {x1 : Int} (h : Sh g m)  {r : Int} {m' : Mem} (hF : eX10_write g x1 m = some (r, m')) : Sh g m' := nX10_write_0 h  hF
set_option maxRecDepth 20000 in
theorem qX10_wipe_0 {g : Shp} {m : Mem} (h : Sh g m)  : bX10_wipe_0 g 1 m = ebX10_wipe_0 g m := by
  unfold bX10_wipe_0 ebX10_wipe_0
  have k1 := s_1_0 h
  rewrite [k1.1, ck_t k1.2.1]
  refine vv_c (fun y2 ey2 => ?_)
  have k3 := s_1_0 h
  refine vm_c (fun m4 em4 => ?_)
  have hm4 := h.s em4 (nRf k3.2.1 (by decide) (by decide))
  rfl
theorem nX10_wipe_0 {g : Shp} {m : Mem} (h : Sh g m)  {r : Int} {m' : Mem} (hF : ebX10_wipe_0 g m = some (r, m')) : Sh g m' := by
  unfold ebX10_wipe_0 at hF
  have k1 := s_1_0 h
  obtain ⟨y2, ey2, hF⟩ := vv_ok hF
  have k3 := s_1_0 h
  obtain ⟨m4, em4, hF⟩ := vm_ok hF
  have hm4 := h.s em4 (nRf k3.2.1 (by decide) (by decide))
  cases hF
  exact hm4
theorem qX10_wipe {g : Shp} {m : Mem} (h : Sh g m)  : fX10_wipe g 1 m = eX10_wipe g m := qX10_wipe_0 h 
theorem nX10_wipe {g : Shp} {m : Mem} (h : Sh g m)  {r : Int} {m' : Mem} (hF : eX10_wipe g m = some (r, m')) : Sh g m' := nX10_wipe_0 h  hF
set_option maxRecDepth 20000 in
theorem qX10_fault_0 {g : Shp} {m : Mem} (h : Sh g m)  : bX10_fault_0 g 1 m = ebX10_fault_0 g m := by
  unfold bX10_fault_0 ebX10_fault_0
  have k1 := s_1_0 h
  rewrite [k1.1, ck_t k1.2.1]
  have k2 := h.2.2.1.2.1
  rewrite [ck_t k2]
  refine bd2_q (qX8_firstFault h k2) (fun v3 m4 h5 => ?_)
  have hm4 := nX8_firstFault h k2 ((qX8_firstFault h k2).symm.trans h5)
  rfl
theorem nX10_fault_0 {g : Shp} {m : Mem} (h : Sh g m)  {r : Int} {m' : Mem} (hF : ebX10_fault_0 g m = some (r, m')) : Sh g m' := by
  unfold ebX10_fault_0 at hF
  have k1 := s_1_0 h
  have k2 := h.2.2.1.2.1
  obtain ⟨v3, m4, h5, hF⟩ := bd2_ok hF
  have hm4 := nX8_firstFault h k2 h5
  cases hF
  exact hm4
theorem qX10_fault {g : Shp} {m : Mem} (h : Sh g m)  : fX10_fault g 1 m = eX10_fault g m := qX10_fault_0 h 
theorem nX10_fault {g : Shp} {m : Mem} (h : Sh g m)  {r : Int} {m' : Mem} (hF : eX10_fault g m = some (r, m')) : Sh g m' := nX10_fault_0 h  hF
set_option maxRecDepth 20000 in
theorem qX10_forgetAnswers_2 {g : Shp} {m : Mem} {x1 : Int} (h : Sh g m)  : bX10_forgetAnswers_2 g 1 x1 m = ebX10_forgetAnswers_2 g x1 m := by
  unfold bX10_forgetAnswers_2 ebX10_forgetAnswers_2
  have k1 := s_1_5 h
  rewrite [k1.1, ck_t k1.2.1]
  rewrite [k1.2.2]
  refine if_c (fun hc2 => ?_) (fun hc2 => ?_)
  · rfl
  · have k3 := s_1_5 h
    try rewrite [k3.2.2]
    refine ck_c (fun i4 => ?_)
    have k5 := a24 h (r := 176) (i := x1) k3.2.1 i4 rfl
    try rewrite [k5.1]
    rewrite [ck_t k5.2]
    refine vm_c (fun m6 em6 => ?_)
    have hm6 := h.s em6 (nRf k5.2 (by decide) (by decide))
    refine vv_c (fun y7 ey7 => ?_)
    rfl
theorem nX10_forgetAnswers_2 {g : Shp} {m : Mem} {x1 : Int} (h : Sh g m)  {c1 : Int} {s1 : (Int × Mem)} (hF : ebX10_forgetAnswers_2 g x1 m = some (c1, s1)) : Sh g s1.2 := by
  unfold ebX10_forgetAnswers_2 at hF
  have k1 := s_1_5 h
  rcases if_ok hF with ⟨hc2, hF⟩ | ⟨hc2, hF⟩
  · cases hF
    exact h
  · have k3 := s_1_5 h
    obtain ⟨i4, hF⟩ := ck_ok hF
    have k5 := a24 h (r := 176) (i := x1) k3.2.1 i4 rfl
    obtain ⟨m6, em6, hF⟩ := vm_ok hF
    have hm6 := h.s em6 (nRf k5.2 (by decide) (by decide))
    obtain ⟨y7, ey7, hF⟩ := vv_ok hF
    cases hF
    exact hm6
theorem nlX10_forgetAnswers_2 {g : Shp}  {n : Nat} {s0 s1 : (Int × Mem)} {c1 : Int} (h : Sh g s0.2) (hI : iter (eBX10_forgetAnswers_2 g ) n s0 = some (c1, s1)) : Sh g s1.2 :=
  iter_inv (B := eBX10_forgetAnswers_2 g ) (fun q => Sh g q.2) (fun s c s' hs hB => nX10_forgetAnswers_2 hs  hB) n s0 c1 s1 h hI
theorem qlX10_forgetAnswers_2 {g : Shp}  {n : Nat} {s0 : (Int × Mem)} (h : Sh g s0.2) : iter (BX10_forgetAnswers_2 g 1) n s0 = iter (eBX10_forgetAnswers_2 g ) n s0 :=
  iter_eq (B := BX10_forgetAnswers_2 g 1) (E := eBX10_forgetAnswers_2 g ) (fun q => Sh g q.2) (fun s hs => qX10_forgetAnswers_2 hs ) (fun s c s' hs hB => nX10_forgetAnswers_2 hs  ((qX10_forgetAnswers_2 hs ).symm.trans hB)) n s0 h
set_option maxRecDepth 20000 in
theorem qX10_forgetAnswers_27 {g : Shp} {m : Mem} (h : Sh g m)  : bX10_forgetAnswers_27 g 1 m = ebX10_forgetAnswers_27 g m := by
  unfold bX10_forgetAnswers_27 ebX10_forgetAnswers_27
  have k1 := s_1_4 h
  rewrite [k1.1, ck_t k1.2.1]
  refine vm_c (fun m2 em2 => ?_)
  have hm2 := h.s em2 (nRf k1.2.1 (by decide) (by decide))
  rfl
theorem nX10_forgetAnswers_27 {g : Shp} {m : Mem} (h : Sh g m)  {r : Int} {m' : Mem} (hF : ebX10_forgetAnswers_27 g m = some (r, m')) : Sh g m' := by
  unfold ebX10_forgetAnswers_27 at hF
  have k1 := s_1_4 h
  obtain ⟨m2, em2, hF⟩ := vm_ok hF
  have hm2 := h.s em2 (nRf k1.2.1 (by decide) (by decide))
  cases hF
  exact hm2
set_option maxRecDepth 20000 in
theorem qX10_forgetAnswers_0 {g : Shp} {m : Mem} (h : Sh g m)  : bX10_forgetAnswers_0 g 1 m = ebX10_forgetAnswers_0 g m := by
  unfold bX10_forgetAnswers_0 ebX10_forgetAnswers_0
  refine bdl_q (qlX10_forgetAnswers_2  (n := 100000) (s0 := (0, m)) h) (fun cv1 sv2 hi3 => ?_)
  have h4 := nlX10_forgetAnswers_2  (s0 := (0, m)) h ((qlX10_forgetAnswers_2  (n := 100000) (s0 := (0, m)) h).symm.trans hi3)
  exact qX10_forgetAnswers_27 h4 
theorem nX10_forgetAnswers_0 {g : Shp} {m : Mem} (h : Sh g m)  {r : Int} {m' : Mem} (hF : ebX10_forgetAnswers_0 g m = some (r, m')) : Sh g m' := by
  unfold ebX10_forgetAnswers_0 at hF
  obtain ⟨cv1, sv2, hi3, hF⟩ := bdl_ok hF
  have h4 := nlX10_forgetAnswers_2  (s0 := (0, m)) h hi3
  exact nX10_forgetAnswers_27 h4  hF
theorem qX10_forgetAnswers {g : Shp} {m : Mem} (h : Sh g m)  : fX10_forgetAnswers g 1 m = eX10_forgetAnswers g m := qX10_forgetAnswers_0 h 
theorem nX10_forgetAnswers {g : Shp} {m : Mem} (h : Sh g m)  {r : Int} {m' : Mem} (hF : eX10_forgetAnswers g m = some (r, m')) : Sh g m' := nX10_forgetAnswers_0 h  hF
set_option maxRecDepth 20000 in
theorem qX10_layText_26 {g : Shp} {m : Mem} (h : Sh g m)  : bX10_layText_26 g m = ebX10_layText_26 g m := by
  unfold bX10_layText_26 ebX10_layText_26
  rfl
theorem nX10_layText_26 {g : Shp} {m : Mem} (h : Sh g m)  {r : Int} {m' : Mem} (hF : ebX10_layText_26 g m = some (r, m')) : Sh g m' := by
  unfold ebX10_layText_26 at hF
  cases hF
  exact h
set_option maxRecDepth 20000 in
theorem qX10_layText_0 {g : Shp} {m : Mem} (h : Sh g m)  : bX10_layText_0 g 1 m = ebX10_layText_0 g m := by
  unfold bX10_layText_0 ebX10_layText_0
  have k1 := s_1_0 h
  rewrite [k1.1, ck_t k1.2.1]
  have k2 := h.2.2.1.2.1
  rewrite [ck_t k2]
  refine bd2_q (qX8_firstFault h k2) (fun v3 m4 h5 => ?_)
  have hm4 := nX8_firstFault h k2 ((qX8_firstFault h k2).symm.trans h5)
  refine if_c (fun hc6 => ?_) (fun hc6 => ?_)
  · have k7 := hm4.2.2.1.2.1
    rewrite [ck_t k7]
    refine if_c (fun hc8 => ?_) (fun hc8 => ?_)
    · exact qX10_layText_26 hm4
    · have k9 := hm4.2.2.1.1
      rewrite [ck_t k9]
      refine vv_k (fun y10 ey10 => ?_)
      subst ey10
      have k11 := hm4.2.2.1.2.1
      refine vm_c (fun m12 em12 => ?_)
      have hm12 := hm4.pl (by decide) em12 k11
      refine vm_c (fun m13 em13 => ?_)
      have hm13 := hm12.pl (by decide) em13 k9
      have k14 := s_1_2 hm13
      rewrite [k14.1, ck_t k14.2.1]
      have k15 := hm13.2.2.1.1
      rewrite [ck_t k15]
      refine bd2_q (qX1_begin hm13 k14.2.1 k15) (fun v16 m17 h18 => ?_)
      have hm17 := nX1_begin hm13 k14.2.1 k15 ((qX1_begin hm13 k14.2.1 k15).symm.trans h18)
      have k19 := s_1_3 hm17
      rewrite [k19.1, ck_t k19.2.1]
      refine vm_c (fun m20 em20 => ?_)
      have hm20 := hm17.s em20 (nRf k19.2.1 (by decide) (by decide))
      refine bd2_q (qX10_forgetAnswers hm20 ) (fun v21 m22 h23 => ?_)
      have hm22 := nX10_forgetAnswers hm20  ((qX10_forgetAnswers hm20 ).symm.trans h23)
      have k24 := hm22.2.2.1.1
      rewrite [ck_t k24]
      rfl
  · exact qX10_layText_26 hm4
theorem nX10_layText_0 {g : Shp} {m : Mem} (h : Sh g m)  {r : Int} {m' : Mem} (hF : ebX10_layText_0 g m = some (r, m')) : Sh g m' := by
  unfold ebX10_layText_0 at hF
  have k1 := s_1_0 h
  have k2 := h.2.2.1.2.1
  obtain ⟨v3, m4, h5, hF⟩ := bd2_ok hF
  have hm4 := nX8_firstFault h k2 h5
  rcases if_ok hF with ⟨hc6, hF⟩ | ⟨hc6, hF⟩
  · have k7 := hm4.2.2.1.2.1
    rcases if_ok hF with ⟨hc8, hF⟩ | ⟨hc8, hF⟩
    · exact nX10_layText_26 hm4  hF
    · have k9 := hm4.2.2.1.1
      have k11 := hm4.2.2.1.2.1
      obtain ⟨m12, em12, hF⟩ := vm_ok hF
      have hm12 := hm4.pl (by decide) em12 k11
      obtain ⟨m13, em13, hF⟩ := vm_ok hF
      have hm13 := hm12.pl (by decide) em13 k9
      have k14 := s_1_2 hm13
      have k15 := hm13.2.2.1.1
      obtain ⟨v16, m17, h18, hF⟩ := bd2_ok hF
      have hm17 := nX1_begin hm13 k14.2.1 k15 h18
      have k19 := s_1_3 hm17
      obtain ⟨m20, em20, hF⟩ := vm_ok hF
      have hm20 := hm17.s em20 (nRf k19.2.1 (by decide) (by decide))
      obtain ⟨v21, m22, h23, hF⟩ := bd2_ok hF
      have hm22 := nX10_forgetAnswers hm20  h23
      have k24 := hm22.2.2.1.1
      cases hF
      exact hm22
  · exact nX10_layText_26 hm4  hF
theorem qX10_layText {g : Shp} {m : Mem} (h : Sh g m)  : fX10_layText g 1 m = eX10_layText g m := qX10_layText_0 h 
theorem nX10_layText {g : Shp} {m : Mem} (h : Sh g m)  {r : Int} {m' : Mem} (hF : eX10_layText g m = some (r, m')) : Sh g m' := nX10_layText_0 h  hF
set_option maxRecDepth 20000 in
theorem qX10_lay_0 {g : Shp} {m : Mem} (h : Sh g m)  : bX10_lay_0 g 1 m = ebX10_lay_0 g m := by
  unfold bX10_lay_0 ebX10_lay_0
  refine bd2_q (qX10_layText h ) (fun v1 m2 h3 => ?_)
  have hm2 := nX10_layText h  ((qX10_layText h ).symm.trans h3)
  rfl
theorem nX10_lay_0 {g : Shp} {m : Mem} (h : Sh g m)  {r : Int} {m' : Mem} (hF : ebX10_lay_0 g m = some (r, m')) : Sh g m' := by
  unfold ebX10_lay_0 at hF
  obtain ⟨v1, m2, h3, hF⟩ := bd2_ok hF
  have hm2 := nX10_layText h  h3
  cases hF
  exact hm2
theorem qX10_lay {g : Shp} {m : Mem} (h : Sh g m)  : fX10_lay g 1 m = eX10_lay g m := qX10_lay_0 h 
theorem nX10_lay {g : Shp} {m : Mem} (h : Sh g m)  {r : Int} {m' : Mem} (hF : eX10_lay g m = some (r, m')) : Sh g m' := nX10_lay_0 h  hF
set_option maxRecDepth 20000 in
theorem qX10_beginChange_0 {g : Shp} {m : Mem} (h : Sh g m)  : bX10_beginChange_0 g 1 m = ebX10_beginChange_0 g m := by
  unfold bX10_beginChange_0 ebX10_beginChange_0
  have k1 := s_1_3 h
  rewrite [k1.1, ck_t k1.2.1]
  have k2 := s_1_2 h
  rewrite [k2.1, ck_t k2.2.1]
  refine bd2_q (qX4_keep h k2.2.1) (fun v3 m4 h5 => ?_)
  have hm4 := nX4_keep h k2.2.1 ((qX4_keep h k2.2.1).symm.trans h5)
  refine bd2_q (qX10_forgetAnswers hm4 ) (fun v6 m7 h8 => ?_)
  have hm7 := nX10_forgetAnswers hm4  ((qX10_forgetAnswers hm4 ).symm.trans h8)
  rfl
theorem nX10_beginChange_0 {g : Shp} {m : Mem} (h : Sh g m)  {r : Int} {m' : Mem} (hF : ebX10_beginChange_0 g m = some (r, m')) : Sh g m' := by
  unfold ebX10_beginChange_0 at hF
  have k1 := s_1_3 h
  have k2 := s_1_2 h
  obtain ⟨v3, m4, h5, hF⟩ := bd2_ok hF
  have hm4 := nX4_keep h k2.2.1 h5
  obtain ⟨v6, m7, h8, hF⟩ := bd2_ok hF
  have hm7 := nX10_forgetAnswers hm4  h8
  cases hF
  exact hm7
theorem qX10_beginChange {g : Shp} {m : Mem} (h : Sh g m)  : fX10_beginChange g 1 m = eX10_beginChange g m := qX10_beginChange_0 h 
theorem nX10_beginChange {g : Shp} {m : Mem} (h : Sh g m)  {r : Int} {m' : Mem} (hF : eX10_beginChange g m = some (r, m')) : Sh g m' := nX10_beginChange_0 h  hF
set_option maxRecDepth 20000 in
theorem qX10_joint_9 {g : Shp} {m : Mem} (h : Sh g m)  : bX10_joint_9 g m = ebX10_joint_9 g m := by
  unfold bX10_joint_9 ebX10_joint_9
  rfl
theorem nX10_joint_9 {g : Shp} {m : Mem} (h : Sh g m)  {r : Int} {m' : Mem} (hF : ebX10_joint_9 g m = some (r, m')) : Sh g m' := by
  unfold ebX10_joint_9 at hF
  cases hF
  exact h
set_option maxRecDepth 20000 in
theorem qX10_joint_0 {g : Shp} {m : Mem} {x1 : Int} (h : Sh g m)  : bX10_joint_0 g 1 x1 m = ebX10_joint_0 g x1 m := by
  unfold bX10_joint_0 ebX10_joint_0
  refine if_c (fun hc1 => ?_) (fun hc1 => ?_)
  · exact qX10_joint_9 h
  · refine if_c (fun hc2 => ?_) (fun hc2 => ?_)
    · have k3 := s_1_2 h
      rewrite [k3.1, ck_t k3.2.1]
      refine if_c (fun hc4 => ?_) (fun hc4 => ?_)
      · rfl
      · refine bd2_q (qX10_beginChange h ) (fun v5 m6 h7 => ?_)
        have hm6 := nX10_beginChange h  ((qX10_beginChange h ).symm.trans h7)
        have k8 := s_1_2 hm6
        rewrite [k8.1, ck_t k8.2.1]
        refine vv_c (fun y9 ey9 => ?_)
        have k10 := s_1_2 hm6
        refine vm_c (fun m11 em11 => ?_)
        have hm11 := hm6.s em11 (nRf k10.2.1 (by decide) (by decide))
        rfl
    · exact qX10_joint_9 h
theorem nX10_joint_0 {g : Shp} {m : Mem} {x1 : Int} (h : Sh g m)  {r : Int} {m' : Mem} (hF : ebX10_joint_0 g x1 m = some (r, m')) : Sh g m' := by
  unfold ebX10_joint_0 at hF
  rcases if_ok hF with ⟨hc1, hF⟩ | ⟨hc1, hF⟩
  · exact nX10_joint_9 h  hF
  · rcases if_ok hF with ⟨hc2, hF⟩ | ⟨hc2, hF⟩
    · have k3 := s_1_2 h
      rcases if_ok hF with ⟨hc4, hF⟩ | ⟨hc4, hF⟩
      · cases hF
        exact h
      · obtain ⟨v5, m6, h7, hF⟩ := bd2_ok hF
        have hm6 := nX10_beginChange h  h7
        have k8 := s_1_2 hm6
        obtain ⟨y9, ey9, hF⟩ := vv_ok hF
        have k10 := s_1_2 hm6
        obtain ⟨m11, em11, hF⟩ := vm_ok hF
        have hm11 := hm6.s em11 (nRf k10.2.1 (by decide) (by decide))
        cases hF
        exact hm11
    · exact nX10_joint_9 h  hF
theorem qX10_joint {g : Shp} {m : Mem} {x1 : Int} (h : Sh g m)  : fX10_joint g 1 x1 m = eX10_joint g x1 m := qX10_joint_0 h 
theorem nX10_joint {g : Shp} {m : Mem} {x1 : Int} (h : Sh g m)  {r : Int} {m' : Mem} (hF : eX10_joint g x1 m = some (r, m')) : Sh g m' := nX10_joint_0 h  hF
set_option maxRecDepth 20000 in
theorem qX10_isLine_20 {g : Shp} {m : Mem} {z0 : Int} (h : Sh g m)  : bX10_isLine_20 g z0 m = ebX10_isLine_20 g z0 m := by
  unfold bX10_isLine_20 ebX10_isLine_20
  refine ck_c (fun b1 => ?_)
  rfl
theorem nX10_isLine_20 {g : Shp} {m : Mem} {z0 : Int} (h : Sh g m)  {r : Int} {m' : Mem} (hF : ebX10_isLine_20 g z0 m = some (r, m')) : Sh g m' := by
  unfold ebX10_isLine_20 at hF
  obtain ⟨b1, hF⟩ := ck_ok hF
  cases hF
  exact h
set_option maxRecDepth 20000 in
theorem qX10_isLine_19 {g : Shp} {m : Mem} (h : Sh g m)  : bX10_isLine_19 g m = ebX10_isLine_19 g m := by
  unfold bX10_isLine_19 ebX10_isLine_19
  exact qX10_isLine_20 h 
theorem nX10_isLine_19 {g : Shp} {m : Mem} (h : Sh g m)  {r : Int} {m' : Mem} (hF : ebX10_isLine_19 g m = some (r, m')) : Sh g m' := by
  unfold ebX10_isLine_19 at hF
  exact nX10_isLine_20 h  hF
set_option maxRecDepth 20000 in
theorem qX10_isLine_0 {g : Shp} {m : Mem} {x1 : Int} (h : Sh g m)  : bX10_isLine_0 g 1 x1 m = ebX10_isLine_0 g x1 m := by
  unfold bX10_isLine_0 ebX10_isLine_0
  refine if_c (fun hc1 => ?_) (fun hc1 => ?_)
  · exact qX10_isLine_19 h
  · have k2 := h.2.2.1.1
    rewrite [ck_t k2]
    refine if_c (fun hc3 => ?_) (fun hc3 => ?_)
    · exact qX10_isLine_19 h
    · exact qX10_isLine_20 h
theorem nX10_isLine_0 {g : Shp} {m : Mem} {x1 : Int} (h : Sh g m)  {r : Int} {m' : Mem} (hF : ebX10_isLine_0 g x1 m = some (r, m')) : Sh g m' := by
  unfold ebX10_isLine_0 at hF
  rcases if_ok hF with ⟨hc1, hF⟩ | ⟨hc1, hF⟩
  · exact nX10_isLine_19 h  hF
  · have k2 := h.2.2.1.1
    rcases if_ok hF with ⟨hc3, hF⟩ | ⟨hc3, hF⟩
    · exact nX10_isLine_19 h  hF
    · exact nX10_isLine_20 h  hF
theorem qX10_isLine {g : Shp} {m : Mem} {x1 : Int} (h : Sh g m)  : fX10_isLine g 1 x1 m = eX10_isLine g x1 m := qX10_isLine_0 h 
theorem nX10_isLine {g : Shp} {m : Mem} {x1 : Int} (h : Sh g m)  {r : Int} {m' : Mem} (hF : eX10_isLine g x1 m = some (r, m')) : Sh g m' := nX10_isLine_0 h  hF
set_option maxRecDepth 20000 in
theorem qX10_line_0 {g : Shp} {m : Mem} {x1 x2 : Int} (h : Sh g m)  : bX10_line_0 g 1 x1 x2 m = ebX10_line_0 g x1 x2 m := by
  unfold bX10_line_0 ebX10_line_0
  refine bd2_q (qX10_isLine h ) (fun v1 m2 h3 => ?_)
  have hm2 := nX10_isLine h  ((qX10_isLine h ).symm.trans h3)
  refine if_c (fun hc4 => ?_) (fun hc4 => ?_)
  · rfl
  · refine if_c (fun hc5 => ?_) (fun hc5 => ?_)
    · have k6 := hm2.2.2.1.1
      rewrite [ck_t k6]
      have k7 := u8_2 hm2 (r := m2 1 6) (q := m2 1 6 + 3) k6 rfl
      rewrite [k7.1, ck_t k7.2.1]
      try rewrite [al25 hm2 k7.2.1]
      refine ck_c (fun i8 => ?_)
      have k9 := a25 hm2 (r := m2 1 6 + 3) (i := x1) k7.2.1 i8 rfl
      try rewrite [k9.1]
      rewrite [ck_t k9.2]
      rfl
    · refine if_c (fun hc10 => ?_) (fun hc10 => ?_)
      · have k11 := hm2.2.2.1.1
        rewrite [ck_t k11]
        have k12 := u8_2 hm2 (r := m2 1 6) (q := m2 1 6 + 3) k11 rfl
        rewrite [k12.1, ck_t k12.2.1]
        try rewrite [al25 hm2 k12.2.1]
        refine ck_c (fun i13 => ?_)
        have k14 := a25 hm2 (r := m2 1 6 + 3) (i := x1) k12.2.1 i13 rfl
        try rewrite [k14.1]
        rewrite [ck_t k14.2]
        rfl
      · refine if_c (fun hc15 => ?_) (fun hc15 => ?_)
        · have k16 := hm2.2.2.1.1
          rewrite [ck_t k16]
          have k17 := u8_2 hm2 (r := m2 1 6) (q := m2 1 6 + 3) k16 rfl
          rewrite [k17.1, ck_t k17.2.1]
          try rewrite [al25 hm2 k17.2.1]
          refine ck_c (fun i18 => ?_)
          have k19 := a25 hm2 (r := m2 1 6 + 3) (i := x1) k17.2.1 i18 rfl
          try rewrite [k19.1]
          rewrite [ck_t k19.2]
          rfl
        · refine if_c (fun hc20 => ?_) (fun hc20 => ?_)
          · have k21 := s_1_2 hm2
            rewrite [k21.1, ck_t k21.2.1]
            have k22 := u2_2 hm2 (r := 85) (q := 88) k21.2.1 rfl
            rewrite [k22.1, ck_t k22.2.1]
            try rewrite [k22.2.2]
            refine ck_c (fun i23 => ?_)
            rfl
          · refine if_c (fun hc24 => ?_) (fun hc24 => ?_)
            · have k25 := s_1_2 hm2
              rewrite [k25.1, ck_t k25.2.1]
              have k26 := hm2.2.2.1.1
              rewrite [ck_t k26]
              have k27 := u8_2 hm2 (r := m2 1 6) (q := m2 1 6 + 3) k26 rfl
              rewrite [k27.1, ck_t k27.2.1]
              try rewrite [al25 hm2 k27.2.1]
              refine ck_c (fun i28 => ?_)
              have k29 := a25 hm2 (r := m2 1 6 + 3) (i := x1) k27.2.1 i28 rfl
              try rewrite [k29.1]
              rewrite [ck_t k29.2]
              refine bd2_q (qX1_cellsOf hm2 k25.2.1 k29.2) (fun v30 m31 h32 => ?_)
              have hm31 := nX1_cellsOf hm2 k25.2.1 k29.2 ((qX1_cellsOf hm2 k25.2.1 k29.2).symm.trans h32)
              rfl
            · refine if_c (fun hc33 => ?_) (fun hc33 => ?_)
              · have k34 := s_1_2 hm2
                rewrite [k34.1, ck_t k34.2.1]
                have k35 := u2_3 hm2 (r := 85) (q := 89) k34.2.1 rfl
                rewrite [k35.1, ck_t k35.2.1]
                try rewrite [k35.2.2]
                refine ck_c (fun i36 => ?_)
                rfl
              · refine if_c (fun hc37 => ?_) (fun hc37 => ?_)
                · have k38 := s_1_2 hm2
                  rewrite [k38.1, ck_t k38.2.1]
                  have k39 := u2_4 hm2 (r := 85) (q := 90) k38.2.1 rfl
                  rewrite [k39.1, ck_t k39.2.1]
                  try rewrite [k39.2.2]
                  refine ck_c (fun i40 => ?_)
                  rfl
                · rfl
theorem nX10_line_0 {g : Shp} {m : Mem} {x1 x2 : Int} (h : Sh g m)  {r : Int} {m' : Mem} (hF : ebX10_line_0 g x1 x2 m = some (r, m')) : Sh g m' := by
  unfold ebX10_line_0 at hF
  obtain ⟨v1, m2, h3, hF⟩ := bd2_ok hF
  have hm2 := nX10_isLine h  h3
  rcases if_ok hF with ⟨hc4, hF⟩ | ⟨hc4, hF⟩
  · cases hF
    exact hm2
  · rcases if_ok hF with ⟨hc5, hF⟩ | ⟨hc5, hF⟩
    · have k6 := hm2.2.2.1.1
      have k7 := u8_2 hm2 (r := m2 1 6) (q := m2 1 6 + 3) k6 rfl
      obtain ⟨i8, hF⟩ := ck_ok hF
      have k9 := a25 hm2 (r := m2 1 6 + 3) (i := x1) k7.2.1 i8 rfl
      cases hF
      exact hm2
    · rcases if_ok hF with ⟨hc10, hF⟩ | ⟨hc10, hF⟩
      · have k11 := hm2.2.2.1.1
        have k12 := u8_2 hm2 (r := m2 1 6) (q := m2 1 6 + 3) k11 rfl
        obtain ⟨i13, hF⟩ := ck_ok hF
        have k14 := a25 hm2 (r := m2 1 6 + 3) (i := x1) k12.2.1 i13 rfl
        cases hF
        exact hm2
      · rcases if_ok hF with ⟨hc15, hF⟩ | ⟨hc15, hF⟩
        · have k16 := hm2.2.2.1.1
          have k17 := u8_2 hm2 (r := m2 1 6) (q := m2 1 6 + 3) k16 rfl
          obtain ⟨i18, hF⟩ := ck_ok hF
          have k19 := a25 hm2 (r := m2 1 6 + 3) (i := x1) k17.2.1 i18 rfl
          cases hF
          exact hm2
        · rcases if_ok hF with ⟨hc20, hF⟩ | ⟨hc20, hF⟩
          · have k21 := s_1_2 hm2
            have k22 := u2_2 hm2 (r := 85) (q := 88) k21.2.1 rfl
            obtain ⟨i23, hF⟩ := ck_ok hF
            cases hF
            exact hm2
          · rcases if_ok hF with ⟨hc24, hF⟩ | ⟨hc24, hF⟩
            · have k25 := s_1_2 hm2
              have k26 := hm2.2.2.1.1
              have k27 := u8_2 hm2 (r := m2 1 6) (q := m2 1 6 + 3) k26 rfl
              obtain ⟨i28, hF⟩ := ck_ok hF
              have k29 := a25 hm2 (r := m2 1 6 + 3) (i := x1) k27.2.1 i28 rfl
              obtain ⟨v30, m31, h32, hF⟩ := bd2_ok hF
              have hm31 := nX1_cellsOf hm2 k25.2.1 k29.2 h32
              cases hF
              exact hm31
            · rcases if_ok hF with ⟨hc33, hF⟩ | ⟨hc33, hF⟩
              · have k34 := s_1_2 hm2
                have k35 := u2_3 hm2 (r := 85) (q := 89) k34.2.1 rfl
                obtain ⟨i36, hF⟩ := ck_ok hF
                cases hF
                exact hm2
              · rcases if_ok hF with ⟨hc37, hF⟩ | ⟨hc37, hF⟩
                · have k38 := s_1_2 hm2
                  have k39 := u2_4 hm2 (r := 85) (q := 90) k38.2.1 rfl
                  obtain ⟨i40, hF⟩ := ck_ok hF
                  cases hF
                  exact hm2
                · cases hF
                  exact hm2
theorem qX10_line {g : Shp} {m : Mem} {x1 x2 : Int} (h : Sh g m)  : fX10_line g 1 x1 x2 m = eX10_line g x1 x2 m := qX10_line_0 h 
theorem nX10_line {g : Shp} {m : Mem} {x1 x2 : Int} (h : Sh g m)  {r : Int} {m' : Mem} (hF : eX10_line g x1 x2 m = some (r, m')) : Sh g m' := nX10_line_0 h  hF
set_option maxRecDepth 20000 in
theorem qX10_cell_12 {g : Shp} {m : Mem} (h : Sh g m)  : bX10_cell_12 g m = ebX10_cell_12 g m := by
  unfold bX10_cell_12 ebX10_cell_12
  rfl
theorem nX10_cell_12 {g : Shp} {m : Mem} (h : Sh g m)  {r : Int} {m' : Mem} (hF : ebX10_cell_12 g m = some (r, m')) : Sh g m' := by
  unfold ebX10_cell_12 at hF
  cases hF
  exact h
set_option maxRecDepth 20000 in
theorem qX10_cell_49 {g : Shp} {m : Mem} {z0 : Int} (h : Sh g m)  : bX10_cell_49 g z0 m = ebX10_cell_49 g z0 m := by
  unfold bX10_cell_49 ebX10_cell_49
  rfl
theorem nX10_cell_49 {g : Shp} {m : Mem} {z0 : Int} (h : Sh g m)  {r : Int} {m' : Mem} (hF : ebX10_cell_49 g z0 m = some (r, m')) : Sh g m' := by
  unfold ebX10_cell_49 at hF
  cases hF
  exact h
set_option maxRecDepth 20000 in
theorem qX10_cell_0 {g : Shp} {m : Mem} {x1 x2 : Int} (h : Sh g m)  : bX10_cell_0 g 1 x1 x2 m = ebX10_cell_0 g x1 x2 m := by
  unfold bX10_cell_0 ebX10_cell_0
  refine bd2_q (qX10_isLine h ) (fun v1 m2 h3 => ?_)
  have hm2 := nX10_isLine h  ((qX10_isLine h ).symm.trans h3)
  refine if_c (fun hc4 => ?_) (fun hc4 => ?_)
  · exact qX10_cell_12 hm2
  · refine if_c (fun hc5 => ?_) (fun hc5 => ?_)
    · have k6 := hm2.2.2.1.1
      rewrite [ck_t k6]
      have k7 := u8_2 hm2 (r := m2 1 6) (q := m2 1 6 + 3) k6 rfl
      rewrite [k7.1, ck_t k7.2.1]
      try rewrite [al25 hm2 k7.2.1]
      refine ck_c (fun i8 => ?_)
      have k9 := a25 hm2 (r := m2 1 6 + 3) (i := x1) k7.2.1 i8 rfl
      try rewrite [k9.1]
      rewrite [ck_t k9.2]
      refine if_c (fun hc10 => ?_) (fun hc10 => ?_)
      · exact qX10_cell_49 hm2
      · have k11 := hm2.2.2.1.1
        have k12 := u8_2 hm2 (r := m2 1 6) (q := m2 1 6 + 3) k11 rfl
        try rewrite [al25 hm2 k12.2.1]
        refine ck_c (fun i13 => ?_)
        have k14 := a25 hm2 (r := m2 1 6 + 3) (i := x1) k12.2.1 i13 rfl
        try rewrite [k14.1]
        rewrite [ck_t k14.2]
        have k15 := u6_0 hm2 (r := m2 1 6 + 3 + (2 + 3 * x1)) (q := m2 1 6 + 3 + (2 + 3 * x1) + 1) k14.2 rfl
        rewrite [k15.1, ck_t k15.2.1]
        try rewrite [k15.2.2]
        refine ck_c (fun i16 => ?_)
        exact qX10_cell_49 hm2 
    · exact qX10_cell_12 hm2
theorem nX10_cell_0 {g : Shp} {m : Mem} {x1 x2 : Int} (h : Sh g m)  {r : Int} {m' : Mem} (hF : ebX10_cell_0 g x1 x2 m = some (r, m')) : Sh g m' := by
  unfold ebX10_cell_0 at hF
  obtain ⟨v1, m2, h3, hF⟩ := bd2_ok hF
  have hm2 := nX10_isLine h  h3
  rcases if_ok hF with ⟨hc4, hF⟩ | ⟨hc4, hF⟩
  · exact nX10_cell_12 hm2  hF
  · rcases if_ok hF with ⟨hc5, hF⟩ | ⟨hc5, hF⟩
    · have k6 := hm2.2.2.1.1
      have k7 := u8_2 hm2 (r := m2 1 6) (q := m2 1 6 + 3) k6 rfl
      obtain ⟨i8, hF⟩ := ck_ok hF
      have k9 := a25 hm2 (r := m2 1 6 + 3) (i := x1) k7.2.1 i8 rfl
      rcases if_ok hF with ⟨hc10, hF⟩ | ⟨hc10, hF⟩
      · exact nX10_cell_49 hm2  hF
      · have k11 := hm2.2.2.1.1
        have k12 := u8_2 hm2 (r := m2 1 6) (q := m2 1 6 + 3) k11 rfl
        obtain ⟨i13, hF⟩ := ck_ok hF
        have k14 := a25 hm2 (r := m2 1 6 + 3) (i := x1) k12.2.1 i13 rfl
        have k15 := u6_0 hm2 (r := m2 1 6 + 3 + (2 + 3 * x1)) (q := m2 1 6 + 3 + (2 + 3 * x1) + 1) k14.2 rfl
        obtain ⟨i16, hF⟩ := ck_ok hF
        exact nX10_cell_49 hm2  hF
    · exact nX10_cell_12 hm2  hF
theorem qX10_cell {g : Shp} {m : Mem} {x1 x2 : Int} (h : Sh g m)  : fX10_cell g 1 x1 x2 m = eX10_cell g x1 x2 m := qX10_cell_0 h 
theorem nX10_cell {g : Shp} {m : Mem} {x1 x2 : Int} (h : Sh g m)  {r : Int} {m' : Mem} (hF : eX10_cell g x1 x2 m = some (r, m')) : Sh g m' := nX10_cell_0 h  hF
set_option maxRecDepth 20000 in
theorem qX10_whose_0 {g : Shp} {m : Mem} {x1 x2 : Int} (h : Sh g m)  : bX10_whose_0 g 1 x1 x2 m = ebX10_whose_0 g x1 x2 m := by
  unfold bX10_whose_0 ebX10_whose_0
  refine bd2_q (qX10_isOnGround h ) (fun v1 m2 h3 => ?_)
  have hm2 := nX10_isOnGround h  ((qX10_isOnGround h ).symm.trans h3)
  refine if_c (fun hc4 => ?_) (fun hc4 => ?_)
  · rfl
  · have k5 := s_1_2 hm2
    rewrite [k5.1, ck_t k5.2.1]
    have k6 := u2_0 hm2 (r := 85) (q := 86) k5.2.1 rfl
    rewrite [k6.1, ck_t k6.2.1]
    try rewrite [k6.2.2]
    refine ck_c (fun i7 => ?_)
    rfl
theorem nX10_whose_0 {g : Shp} {m : Mem} {x1 x2 : Int} (h : Sh g m)  {r : Int} {m' : Mem} (hF : ebX10_whose_0 g x1 x2 m = some (r, m')) : Sh g m' := by
  unfold ebX10_whose_0 at hF
  obtain ⟨v1, m2, h3, hF⟩ := bd2_ok hF
  have hm2 := nX10_isOnGround h  h3
  rcases if_ok hF with ⟨hc4, hF⟩ | ⟨hc4, hF⟩
  · cases hF
    exact hm2
  · have k5 := s_1_2 hm2
    have k6 := u2_0 hm2 (r := 85) (q := 86) k5.2.1 rfl
    obtain ⟨i7, hF⟩ := ck_ok hF
    cases hF
    exact hm2
theorem qX10_whose {g : Shp} {m : Mem} {x1 x2 : Int} (h : Sh g m)  : fX10_whose g 1 x1 x2 m = eX10_whose g x1 x2 m := qX10_whose_0 h 
theorem nX10_whose {g : Shp} {m : Mem} {x1 x2 : Int} (h : Sh g m)  {r : Int} {m' : Mem} (hF : eX10_whose g x1 x2 m = some (r, m')) : Sh g m' := nX10_whose_0 h  hF
set_option maxRecDepth 20000 in
theorem qX10_piece_13 {g : Shp} {m : Mem} (h : Sh g m)  : bX10_piece_13 g m = ebX10_piece_13 g m := by
  unfold bX10_piece_13 ebX10_piece_13
  rfl
theorem nX10_piece_13 {g : Shp} {m : Mem} (h : Sh g m)  {r : Int} {m' : Mem} (hF : ebX10_piece_13 g m = some (r, m')) : Sh g m' := by
  unfold ebX10_piece_13 at hF
  cases hF
  exact h
set_option maxRecDepth 20000 in
theorem qX10_piece_86 {g : Shp} {m : Mem} {z0 : Int} (h : Sh g m)  : bX10_piece_86 g z0 m = ebX10_piece_86 g z0 m := by
  unfold bX10_piece_86 ebX10_piece_86
  rfl
theorem nX10_piece_86 {g : Shp} {m : Mem} {z0 : Int} (h : Sh g m)  {r : Int} {m' : Mem} (hF : ebX10_piece_86 g z0 m = some (r, m')) : Sh g m' := by
  unfold ebX10_piece_86 at hF
  cases hF
  exact h
set_option maxRecDepth 20000 in
theorem qX10_piece_0 {g : Shp} {m : Mem} {x1 x2 : Int} (h : Sh g m)  : bX10_piece_0 g 1 x1 x2 m = ebX10_piece_0 g x1 x2 m := by
  unfold bX10_piece_0 ebX10_piece_0
  refine bd2_q (qX10_isLine h ) (fun v1 m2 h3 => ?_)
  have hm2 := nX10_isLine h  ((qX10_isLine h ).symm.trans h3)
  refine if_c (fun hc4 => ?_) (fun hc4 => ?_)
  · exact qX10_piece_13 hm2
  · refine if_c (fun hc5 => ?_) (fun hc5 => ?_)
    · have k6 := s_1_2 hm2
      rewrite [k6.1, ck_t k6.2.1]
      refine bd2_q (qX1_isCovered hm2 k6.2.1) (fun v7 m8 h9 => ?_)
      have hm8 := nX1_isCovered hm2 k6.2.1 ((qX1_isCovered hm2 k6.2.1).symm.trans h9)
      refine if_c (fun hc10 => ?_) (fun hc10 => ?_)
      · have k11 := s_1_1 hm8
        rewrite [k11.1, ck_t k11.2.1]
        have k12 := s_5_0 hm8
        rewrite [k12.1, ck_t k12.2.1]
        refine vv_k (fun y13 ey13 => ?_)
        subst ey13
        have k14 := hm8.2.2.1.1
        rewrite [ck_t k14]
        have k15 := u8_2 hm8 (r := m8 1 6) (q := m8 1 6 + 3) k14 rfl
        rewrite [k15.1, ck_t k15.2.1]
        try rewrite [al25 hm8 k15.2.1]
        refine ck_c (fun i16 => ?_)
        have k17 := a25 hm8 (r := m8 1 6 + 3) (i := x1) k15.2.1 i16 rfl
        try rewrite [k17.1]
        rewrite [ck_t k17.2]
        have k18 := s_1_2 hm8
        rewrite [k18.1, ck_t k18.2.1]
        have k19 := u2_0 hm8 (r := 85) (q := 86) k18.2.1 rfl
        rewrite [k19.1, ck_t k19.2.1]
        refine bd2_q (qX6_split hm8 k17.2 k19.2.1) (fun v20 m21 h22 => ?_)
        have hm21 := nX6_split hm8 k17.2 k19.2.1 ((qX6_split hm8 k17.2 k19.2.1).symm.trans h22)
        refine if_c (fun hc23 => ?_) (fun hc23 => ?_)
        · rfl
        · refine if_c (fun hc24 => ?_) (fun hc24 => ?_)
          · exact qX10_piece_86 hm21
          · have k25 := s_6_0 hm21
            rewrite [k25.1, ck_t k25.2.1]
            try rewrite [k25.2.2]
            refine ck_c (fun i26 => ?_)
            exact qX10_piece_86 hm21 
      · rfl
    · exact qX10_piece_13 hm2
theorem nX10_piece_0 {g : Shp} {m : Mem} {x1 x2 : Int} (h : Sh g m)  {r : Int} {m' : Mem} (hF : ebX10_piece_0 g x1 x2 m = some (r, m')) : Sh g m' := by
  unfold ebX10_piece_0 at hF
  obtain ⟨v1, m2, h3, hF⟩ := bd2_ok hF
  have hm2 := nX10_isLine h  h3
  rcases if_ok hF with ⟨hc4, hF⟩ | ⟨hc4, hF⟩
  · exact nX10_piece_13 hm2  hF
  · rcases if_ok hF with ⟨hc5, hF⟩ | ⟨hc5, hF⟩
    · have k6 := s_1_2 hm2
      obtain ⟨v7, m8, h9, hF⟩ := bd2_ok hF
      have hm8 := nX1_isCovered hm2 k6.2.1 h9
      rcases if_ok hF with ⟨hc10, hF⟩ | ⟨hc10, hF⟩
      · have k11 := s_1_1 hm8
        have k12 := s_5_0 hm8
        have k14 := hm8.2.2.1.1
        have k15 := u8_2 hm8 (r := m8 1 6) (q := m8 1 6 + 3) k14 rfl
        obtain ⟨i16, hF⟩ := ck_ok hF
        have k17 := a25 hm8 (r := m8 1 6 + 3) (i := x1) k15.2.1 i16 rfl
        have k18 := s_1_2 hm8
        have k19 := u2_0 hm8 (r := 85) (q := 86) k18.2.1 rfl
        obtain ⟨v20, m21, h22, hF⟩ := bd2_ok hF
        have hm21 := nX6_split hm8 k17.2 k19.2.1 h22
        rcases if_ok hF with ⟨hc23, hF⟩ | ⟨hc23, hF⟩
        · cases hF
          exact hm21
        · rcases if_ok hF with ⟨hc24, hF⟩ | ⟨hc24, hF⟩
          · exact nX10_piece_86 hm21  hF
          · have k25 := s_6_0 hm21
            obtain ⟨i26, hF⟩ := ck_ok hF
            exact nX10_piece_86 hm21  hF
      · cases hF
        exact hm8
    · exact nX10_piece_13 hm2  hF
theorem qX10_piece {g : Shp} {m : Mem} {x1 x2 : Int} (h : Sh g m)  : fX10_piece g 1 x1 x2 m = eX10_piece g x1 x2 m := qX10_piece_0 h 
theorem nX10_piece {g : Shp} {m : Mem} {x1 x2 : Int} (h : Sh g m)  {r : Int} {m' : Mem} (hF : eX10_piece g x1 x2 m = some (r, m')) : Sh g m' := nX10_piece_0 h  hF
set_option maxRecDepth 20000 in
theorem qX10_takeUp_0 {g : Shp} {m : Mem} {x1 : Int} (h : Sh g m)  : bX10_takeUp_0 g 1 x1 m = ebX10_takeUp_0 g x1 m := by
  unfold bX10_takeUp_0 ebX10_takeUp_0
  refine bd2_q (qX10_isLine h ) (fun v1 m2 h3 => ?_)
  have hm2 := nX10_isLine h  ((qX10_isLine h ).symm.trans h3)
  refine if_c (fun hc4 => ?_) (fun hc4 => ?_)
  · rfl
  · have k5 := s_1_2 hm2
    rewrite [k5.1, ck_t k5.2.1]
    refine bd2_q (qX1_isCovered hm2 k5.2.1) (fun v6 m7 h8 => ?_)
    have hm7 := nX1_isCovered hm2 k5.2.1 ((qX1_isCovered hm2 k5.2.1).symm.trans h8)
    refine if_c (fun hc9 => ?_) (fun hc9 => ?_)
    · rfl
    · refine bd2_q (qX10_beginChange hm7 ) (fun v10 m11 h12 => ?_)
      have hm11 := nX10_beginChange hm7  ((qX10_beginChange hm7 ).symm.trans h12)
      have k13 := s_1_2 hm11
      rewrite [k13.1, ck_t k13.2.1]
      have k14 := hm11.2.2.1.1
      rewrite [ck_t k14]
      have k15 := u8_2 hm11 (r := m11 1 6) (q := m11 1 6 + 3) k14 rfl
      rewrite [k15.1, ck_t k15.2.1]
      try rewrite [al25 hm11 k15.2.1]
      refine ck_c (fun i16 => ?_)
      have k17 := a25 hm11 (r := m11 1 6 + 3) (i := x1) k15.2.1 i16 rfl
      try rewrite [k17.1]
      rewrite [ck_t k17.2]
      have k18 := hm11.2.2.1.1
      have k19 := u8_0 hm11 (r := m11 1 6) (q := m11 1 6 + 1) k18 rfl
      rewrite [k19.1, ck_t k19.2.1]
      refine bd2_q (qX1_pickUp hm11 k13.2.1 k17.2 k19.2.1) (fun v20 m21 h22 => ?_)
      have hm21 := nX1_pickUp hm11 k13.2.1 k17.2 k19.2.1 ((qX1_pickUp hm11 k13.2.1 k17.2 k19.2.1).symm.trans h22)
      rfl
theorem nX10_takeUp_0 {g : Shp} {m : Mem} {x1 : Int} (h : Sh g m)  {r : Int} {m' : Mem} (hF : ebX10_takeUp_0 g x1 m = some (r, m')) : Sh g m' := by
  unfold ebX10_takeUp_0 at hF
  obtain ⟨v1, m2, h3, hF⟩ := bd2_ok hF
  have hm2 := nX10_isLine h  h3
  rcases if_ok hF with ⟨hc4, hF⟩ | ⟨hc4, hF⟩
  · cases hF
    exact hm2
  · have k5 := s_1_2 hm2
    obtain ⟨v6, m7, h8, hF⟩ := bd2_ok hF
    have hm7 := nX1_isCovered hm2 k5.2.1 h8
    rcases if_ok hF with ⟨hc9, hF⟩ | ⟨hc9, hF⟩
    · cases hF
      exact hm7
    · obtain ⟨v10, m11, h12, hF⟩ := bd2_ok hF
      have hm11 := nX10_beginChange hm7  h12
      have k13 := s_1_2 hm11
      have k14 := hm11.2.2.1.1
      have k15 := u8_2 hm11 (r := m11 1 6) (q := m11 1 6 + 3) k14 rfl
      obtain ⟨i16, hF⟩ := ck_ok hF
      have k17 := a25 hm11 (r := m11 1 6 + 3) (i := x1) k15.2.1 i16 rfl
      have k18 := hm11.2.2.1.1
      have k19 := u8_0 hm11 (r := m11 1 6) (q := m11 1 6 + 1) k18 rfl
      obtain ⟨v20, m21, h22, hF⟩ := bd2_ok hF
      have hm21 := nX1_pickUp hm11 k13.2.1 k17.2 k19.2.1 h22
      cases hF
      exact hm21
theorem qX10_takeUp {g : Shp} {m : Mem} {x1 : Int} (h : Sh g m)  : fX10_takeUp g 1 x1 m = eX10_takeUp g x1 m := qX10_takeUp_0 h 
theorem nX10_takeUp {g : Shp} {m : Mem} {x1 : Int} (h : Sh g m)  {r : Int} {m' : Mem} (hF : eX10_takeUp g x1 m = some (r, m')) : Sh g m' := nX10_takeUp_0 h  hF
set_option maxRecDepth 20000 in
theorem qX10_bag_16 {g : Shp} {m : Mem} (h : Sh g m)  : bX10_bag_16 g m = ebX10_bag_16 g m := by
  unfold bX10_bag_16 ebX10_bag_16
  rfl
theorem nX10_bag_16 {g : Shp} {m : Mem} (h : Sh g m)  {r : Int} {m' : Mem} (hF : ebX10_bag_16 g m = some (r, m')) : Sh g m' := by
  unfold ebX10_bag_16 at hF
  cases hF
  exact h
set_option maxRecDepth 20000 in
theorem qX10_bag_0 {g : Shp} {m : Mem} {x1 x2 : Int} (h : Sh g m)  : bX10_bag_0 g 1 x1 x2 m = ebX10_bag_0 g x1 x2 m := by
  unfold bX10_bag_0 ebX10_bag_0
  refine bd2_q (qX10_isColour h ) (fun v1 m2 h3 => ?_)
  have hm2 := nX10_isColour h  ((qX10_isColour h ).symm.trans h3)
  refine if_c (fun hc4 => ?_) (fun hc4 => ?_)
  · exact qX10_bag_16 hm2
  · refine if_c (fun hc5 => ?_) (fun hc5 => ?_)
    · exact qX10_bag_16 hm2
    · refine if_c (fun hc6 => ?_) (fun hc6 => ?_)
      · have k7 := s_1_2 hm2
        rewrite [k7.1, ck_t k7.2.1]
        have k8 := u2_1 hm2 (r := 85) (q := 87) k7.2.1 rfl
        rewrite [k8.1, ck_t k8.2.1]
        try rewrite [k8.2.2]
        refine ck_c (fun i9 => ?_)
        rfl
      · exact qX10_bag_16 hm2
theorem nX10_bag_0 {g : Shp} {m : Mem} {x1 x2 : Int} (h : Sh g m)  {r : Int} {m' : Mem} (hF : ebX10_bag_0 g x1 x2 m = some (r, m')) : Sh g m' := by
  unfold ebX10_bag_0 at hF
  obtain ⟨v1, m2, h3, hF⟩ := bd2_ok hF
  have hm2 := nX10_isColour h  h3
  rcases if_ok hF with ⟨hc4, hF⟩ | ⟨hc4, hF⟩
  · exact nX10_bag_16 hm2  hF
  · rcases if_ok hF with ⟨hc5, hF⟩ | ⟨hc5, hF⟩
    · exact nX10_bag_16 hm2  hF
    · rcases if_ok hF with ⟨hc6, hF⟩ | ⟨hc6, hF⟩
      · have k7 := s_1_2 hm2
        have k8 := u2_1 hm2 (r := 85) (q := 87) k7.2.1 rfl
        obtain ⟨i9, hF⟩ := ck_ok hF
        cases hF
        exact hm2
      · exact nX10_bag_16 hm2  hF
theorem qX10_bag {g : Shp} {m : Mem} {x1 x2 : Int} (h : Sh g m)  : fX10_bag g 1 x1 x2 m = eX10_bag g x1 x2 m := qX10_bag_0 h 
theorem nX10_bag {g : Shp} {m : Mem} {x1 x2 : Int} (h : Sh g m)  {r : Int} {m' : Mem} (hF : eX10_bag g x1 x2 m = some (r, m')) : Sh g m' := nX10_bag_0 h  hF
set_option maxRecDepth 20000 in
theorem qX10_fill_31 {g : Shp} {m : Mem} {x1 x2 x3 : Int} (h : Sh g m)  : bX10_fill_31 g 1 x1 x2 x3 m = ebX10_fill_31 g x1 x2 x3 m := by
  unfold bX10_fill_31 ebX10_fill_31
  refine if_c (fun hc1 => ?_) (fun hc1 => ?_)
  · rfl
  · have k2 := s_1_2 h
    rewrite [k2.1, ck_t k2.2.1]
    have k3 := u2_1 h (r := 85) (q := 87) k2.2.1 rfl
    rewrite [k3.1, ck_t k3.2.1]
    try rewrite [k3.2.2]
    refine ck_c (fun i4 => ?_)
    refine vm_c (fun m5 em5 => ?_)
    have hm5 := h.s em5 (nRa k3.2.1 (by decide))
    refine vv_c (fun y6 ey6 => ?_)
    rfl
theorem nX10_fill_31 {g : Shp} {m : Mem} {x1 x2 x3 : Int} (h : Sh g m)  {c1 : Int} {s1 : (Int × Mem)} (hF : ebX10_fill_31 g x1 x2 x3 m = some (c1, s1)) : Sh g s1.2 := by
  unfold ebX10_fill_31 at hF
  rcases if_ok hF with ⟨hc1, hF⟩ | ⟨hc1, hF⟩
  · cases hF
    exact h
  · have k2 := s_1_2 h
    have k3 := u2_1 h (r := 85) (q := 87) k2.2.1 rfl
    obtain ⟨i4, hF⟩ := ck_ok hF
    obtain ⟨m5, em5, hF⟩ := vm_ok hF
    have hm5 := h.s em5 (nRa k3.2.1 (by decide))
    obtain ⟨y6, ey6, hF⟩ := vv_ok hF
    cases hF
    exact hm5
theorem nlX10_fill_31 {g : Shp} {x1 x2 : Int}  {n : Nat} {s0 s1 : (Int × Mem)} {c1 : Int} (h : Sh g s0.2) (hI : iter (eBX10_fill_31 g x1 x2) n s0 = some (c1, s1)) : Sh g s1.2 :=
  iter_inv (B := eBX10_fill_31 g x1 x2) (fun q => Sh g q.2) (fun s c s' hs hB => nX10_fill_31 hs  hB) n s0 c1 s1 h hI
theorem qlX10_fill_31 {g : Shp} {x1 x2 : Int}  {n : Nat} {s0 : (Int × Mem)} (h : Sh g s0.2) : iter (BX10_fill_31 g 1 x1 x2) n s0 = iter (eBX10_fill_31 g x1 x2) n s0 :=
  iter_eq (B := BX10_fill_31 g 1 x1 x2) (E := eBX10_fill_31 g x1 x2) (fun q => Sh g q.2) (fun s hs => qX10_fill_31 hs ) (fun s c s' hs hB => nX10_fill_31 hs  ((qX10_fill_31 hs ).symm.trans hB)) n s0 h
set_option maxRecDepth 20000 in
theorem qX10_fill_57 {g : Shp} {m : Mem} {x2 : Int} (h : Sh g m)  : bX10_fill_57 g x2 m = ebX10_fill_57 g x2 m := by
  unfold bX10_fill_57 ebX10_fill_57
  rfl
theorem nX10_fill_57 {g : Shp} {m : Mem} {x2 : Int} (h : Sh g m)  {r : Int} {m' : Mem} (hF : ebX10_fill_57 g x2 m = some (r, m')) : Sh g m' := by
  unfold ebX10_fill_57 at hF
  cases hF
  exact h
set_option maxRecDepth 20000 in
theorem qX10_fill_0 {g : Shp} {m : Mem} {x1 : Int} (h : Sh g m)  : bX10_fill_0 g 1 x1 m = ebX10_fill_0 g x1 m := by
  unfold bX10_fill_0 ebX10_fill_0
  refine bd2_q (qX10_isColour h ) (fun v1 m2 h3 => ?_)
  have hm2 := nX10_isColour h  ((qX10_isColour h ).symm.trans h3)
  refine if_c (fun hc4 => ?_) (fun hc4 => ?_)
  · rfl
  · have k5 := s_1_2 hm2
    rewrite [k5.1, ck_t k5.2.1]
    refine bd2_q (qX1_missingIn hm2 k5.2.1) (fun v6 m7 h8 => ?_)
    have hm7 := nX1_missingIn hm2 k5.2.1 ((qX1_missingIn hm2 k5.2.1).symm.trans h8)
    refine if_c (fun hc9 => ?_) (fun hc9 => ?_)
    · rfl
    · refine bd2_q (qX10_beginChange hm7 ) (fun v10 m11 h12 => ?_)
      have hm11 := nX10_beginChange hm7  ((qX10_beginChange hm7 ).symm.trans h12)
      refine bdl_q (qlX10_fill_31  (n := 100000) (s0 := (0, m11)) hm11) (fun cv13 sv14 hi15 => ?_)
      have h16 := nlX10_fill_31  (s0 := (0, m11)) hm11 ((qlX10_fill_31  (n := 100000) (s0 := (0, m11)) hm11).symm.trans hi15)
      exact qX10_fill_57 h16 
theorem nX10_fill_0 {g : Shp} {m : Mem} {x1 : Int} (h : Sh g m)  {r : Int} {m' : Mem} (hF : ebX10_fill_0 g x1 m = some (r, m')) : Sh g m' := by
  unfold ebX10_fill_0 at hF
  obtain ⟨v1, m2, h3, hF⟩ := bd2_ok hF
  have hm2 := nX10_isColour h  h3
  rcases if_ok hF with ⟨hc4, hF⟩ | ⟨hc4, hF⟩
  · cases hF
    exact hm2
  · have k5 := s_1_2 hm2
    obtain ⟨v6, m7, h8, hF⟩ := bd2_ok hF
    have hm7 := nX1_missingIn hm2 k5.2.1 h8
    rcases if_ok hF with ⟨hc9, hF⟩ | ⟨hc9, hF⟩
    · cases hF
      exact hm7
    · obtain ⟨v10, m11, h12, hF⟩ := bd2_ok hF
      have hm11 := nX10_beginChange hm7  h12
      obtain ⟨cv13, sv14, hi15, hF⟩ := bdl_ok hF
      have h16 := nlX10_fill_31  (s0 := (0, m11)) hm11 hi15
      exact nX10_fill_57 h16  hF
theorem qX10_fill {g : Shp} {m : Mem} {x1 : Int} (h : Sh g m)  : fX10_fill g 1 x1 m = eX10_fill g x1 m := qX10_fill_0 h 
theorem nX10_fill {g : Shp} {m : Mem} {x1 : Int} (h : Sh g m)  {r : Int} {m' : Mem} (hF : eX10_fill g x1 m = some (r, m')) : Sh g m' := nX10_fill_0 h  hF
set_option maxRecDepth 20000 in
theorem qX10_undo_0 {g : Shp} {m : Mem} (h : Sh g m)  : bX10_undo_0 g 1 m = ebX10_undo_0 g m := by
  unfold bX10_undo_0 ebX10_undo_0
  have k1 := s_1_3 h
  rewrite [k1.1, ck_t k1.2.1]
  refine if_c (fun hc2 => ?_) (fun hc2 => ?_)
  · rfl
  · have k3 := s_1_3 h
    have k4 := s_1_2 h
    rewrite [k4.1, ck_t k4.2.1]
    refine bd2_q (qX4_giveBack h k4.2.1) (fun v5 m6 h7 => ?_)
    have hm6 := nX4_giveBack h k4.2.1 ((qX4_giveBack h k4.2.1).symm.trans h7)
    refine bd2_q (qX10_forgetAnswers hm6 ) (fun v8 m9 h10 => ?_)
    have hm9 := nX10_forgetAnswers hm6  ((qX10_forgetAnswers hm6 ).symm.trans h10)
    have k11 := s_1_3 hm9
    rewrite [k11.1, ck_t k11.2.1]
    rfl
theorem nX10_undo_0 {g : Shp} {m : Mem} (h : Sh g m)  {r : Int} {m' : Mem} (hF : ebX10_undo_0 g m = some (r, m')) : Sh g m' := by
  unfold ebX10_undo_0 at hF
  have k1 := s_1_3 h
  rcases if_ok hF with ⟨hc2, hF⟩ | ⟨hc2, hF⟩
  · cases hF
    exact h
  · have k3 := s_1_3 h
    have k4 := s_1_2 h
    obtain ⟨v5, m6, h7, hF⟩ := bd2_ok hF
    have hm6 := nX4_giveBack h k4.2.1 h7
    obtain ⟨v8, m9, h10, hF⟩ := bd2_ok hF
    have hm9 := nX10_forgetAnswers hm6  h10
    have k11 := s_1_3 hm9
    cases hF
    exact hm9
theorem qX10_undo {g : Shp} {m : Mem} (h : Sh g m)  : fX10_undo g 1 m = eX10_undo g m := qX10_undo_0 h 
theorem nX10_undo {g : Shp} {m : Mem} (h : Sh g m)  {r : Int} {m' : Mem} (hF : eX10_undo g m = some (r, m')) : Sh g m' := nX10_undo_0 h  hF
set_option maxRecDepth 20000 in
theorem qX10_drawn_114 {g : Shp} {m : Mem} {x3 x5 : Int} (h : Sh g m)  : bX10_drawn_114 g 1 x3 x5 m = ebX10_drawn_114 g x3 x5 m := by
  unfold bX10_drawn_114 ebX10_drawn_114
  refine vv_c (fun y1 ey1 => ?_)
  rfl
theorem nX10_drawn_114 {g : Shp} {m : Mem} {x3 x5 : Int} (h : Sh g m)  {c1 : Int} {s1 : (Int × Mem)} (hF : ebX10_drawn_114 g x3 x5 m = some (c1, s1)) : Sh g s1.2 := by
  unfold ebX10_drawn_114 at hF
  obtain ⟨y1, ey1, hF⟩ := vv_ok hF
  cases hF
  exact h
set_option maxRecDepth 20000 in
theorem qX10_drawn_74 {g : Shp} {m : Mem} {x3 x5 : Int} (h : Sh g m)  : bX10_drawn_74 g 1 x3 x5 m = ebX10_drawn_74 g x3 x5 m := by
  unfold bX10_drawn_74 ebX10_drawn_74
  have k1 := h.2.2.1.1
  rewrite [ck_t k1]
  refine if_c (fun hc2 => ?_) (fun hc2 => ?_)
  · rfl
  · have k3 := s_1_2 h
    rewrite [k3.1, ck_t k3.2.1]
    refine bd2_q (qX1_isCovered h k3.2.1) (fun v4 m5 h6 => ?_)
    have hm5 := nX1_isCovered h k3.2.1 ((qX1_isCovered h k3.2.1).symm.trans h6)
    refine if_c (fun hc7 => ?_) (fun hc7 => ?_)
    · have k8 := hm5.2.2.1.1
      rewrite [ck_t k8]
      refine bd2_q (qX7_goesOver hm5 k8) (fun v9 m10 h11 => ?_)
      have hm10 := nX7_goesOver hm5 k8 ((qX7_goesOver hm5 k8).symm.trans h11)
      refine if_c (fun hc12 => ?_) (fun hc12 => ?_)
      · exact qX10_drawn_114 hm10
      · rfl
    · exact qX10_drawn_114 hm5
theorem nX10_drawn_74 {g : Shp} {m : Mem} {x3 x5 : Int} (h : Sh g m)  {c1 : Int} {s1 : (Int × Mem)} (hF : ebX10_drawn_74 g x3 x5 m = some (c1, s1)) : Sh g s1.2 := by
  unfold ebX10_drawn_74 at hF
  have k1 := h.2.2.1.1
  rcases if_ok hF with ⟨hc2, hF⟩ | ⟨hc2, hF⟩
  · cases hF
    exact h
  · have k3 := s_1_2 h
    obtain ⟨v4, m5, h6, hF⟩ := bd2_ok hF
    have hm5 := nX1_isCovered h k3.2.1 h6
    rcases if_ok hF with ⟨hc7, hF⟩ | ⟨hc7, hF⟩
    · have k8 := hm5.2.2.1.1
      obtain ⟨v9, m10, h11, hF⟩ := bd2_ok hF
      have hm10 := nX7_goesOver hm5 k8 h11
      rcases if_ok hF with ⟨hc12, hF⟩ | ⟨hc12, hF⟩
      · exact nX10_drawn_114 hm10  hF
      · cases hF
        exact hm10
    · exact nX10_drawn_114 hm5  hF
theorem nlX10_drawn_74 {g : Shp} {x3 : Int}  {n : Nat} {s0 s1 : (Int × Mem)} {c1 : Int} (h : Sh g s0.2) (hI : iter (eBX10_drawn_74 g x3) n s0 = some (c1, s1)) : Sh g s1.2 :=
  iter_inv (B := eBX10_drawn_74 g x3) (fun q => Sh g q.2) (fun s c s' hs hB => nX10_drawn_74 hs  hB) n s0 c1 s1 h hI
theorem qlX10_drawn_74 {g : Shp} {x3 : Int}  {n : Nat} {s0 : (Int × Mem)} (h : Sh g s0.2) : iter (BX10_drawn_74 g 1 x3) n s0 = iter (eBX10_drawn_74 g x3) n s0 :=
  iter_eq (B := BX10_drawn_74 g 1 x3) (E := eBX10_drawn_74 g x3) (fun q => Sh g q.2) (fun s hs => qX10_drawn_74 hs ) (fun s c s' hs hB => nX10_drawn_74 hs  ((qX10_drawn_74 hs ).symm.trans hB)) n s0 h
set_option maxRecDepth 20000 in
theorem qX10_drawn_11 {g : Shp} {m : Mem} (h : Sh g m)  : bX10_drawn_11 g m = ebX10_drawn_11 g m := by
  unfold bX10_drawn_11 ebX10_drawn_11
  rfl
theorem nX10_drawn_11 {g : Shp} {m : Mem} (h : Sh g m)  {r : Int} {m' : Mem} (hF : ebX10_drawn_11 g m = some (r, m')) : Sh g m' := by
  unfold ebX10_drawn_11 at hF
  cases hF
  exact h
set_option maxRecDepth 20000 in
theorem qX10_drawn_111 {g : Shp} {m : Mem} (h : Sh g m)  : bX10_drawn_111 g m = ebX10_drawn_111 g m := by
  unfold bX10_drawn_111 ebX10_drawn_111
  rfl
theorem nX10_drawn_111 {g : Shp} {m : Mem} (h : Sh g m)  {r : Int} {m' : Mem} (hF : ebX10_drawn_111 g m = some (r, m')) : Sh g m' := by
  unfold ebX10_drawn_111 at hF
  cases hF
  exact h
set_option maxRecDepth 20000 in
theorem qX10_drawn_120 {g : Shp} {m : Mem} (h : Sh g m)  : bX10_drawn_120 g m = ebX10_drawn_120 g m := by
  unfold bX10_drawn_120 ebX10_drawn_120
  rfl
theorem nX10_drawn_120 {g : Shp} {m : Mem} (h : Sh g m)  {r : Int} {m' : Mem} (hF : ebX10_drawn_120 g m = some (r, m')) : Sh g m' := by
  unfold ebX10_drawn_120 at hF
  cases hF
  exact h
set_option maxRecDepth 20000 in
theorem qX10_drawn_0 {g : Shp} {m : Mem} {x1 : Int} (h : Sh g m)  : bX10_drawn_0 g 1 x1 m = ebX10_drawn_0 g x1 m := by
  unfold bX10_drawn_0 ebX10_drawn_0
  refine if_c (fun hc1 => ?_) (fun hc1 => ?_)
  · exact qX10_drawn_11 h
  · refine if_c (fun hc2 => ?_) (fun hc2 => ?_)
    · refine vv_c (fun y3 ey3 => ?_)
      refine if_c (fun hc4 => ?_) (fun hc4 => ?_)
      · rfl
      · refine vv_c (fun y5 ey5 => ?_)
        have k6 := s_1_2 h
        rewrite [k6.1, ck_t k6.2.1]
        have k7 := u2_0 h (r := 85) (q := 86) k6.2.1 rfl
        rewrite [k7.1, ck_t k7.2.1]
        try rewrite [k7.2.2]
        refine ck_c (fun i8 => ?_)
        refine vv_c (fun y9 ey9 => ?_)
        refine bd2_q (qX10_isLine h ) (fun v10 m11 h12 => ?_)
        have hm11 := nX10_isLine h  ((qX10_isLine h ).symm.trans h12)
        refine if_c (fun hc13 => ?_) (fun hc13 => ?_)
        · refine bdl_q (qlX10_drawn_74  (n := 100000) (s0 := (0, m11)) hm11) (fun cv14 sv15 hi16 => ?_)
          have h17 := nlX10_drawn_74  (s0 := (0, m11)) hm11 ((qlX10_drawn_74  (n := 100000) (s0 := (0, m11)) hm11).symm.trans hi16)
          refine if_c (fun hc18 => ?_) (fun hc18 => ?_)
          · exact qX10_drawn_111 h17
          · exact qX10_drawn_120 h17
        · have k19 := s_1_2 hm11
          rewrite [k19.1, ck_t k19.2.1]
          have k20 := u2_2 hm11 (r := 85) (q := 88) k19.2.1 rfl
          rewrite [k20.1, ck_t k20.2.1]
          try rewrite [k20.2.2]
          refine ck_c (fun i21 => ?_)
          rfl
    · exact qX10_drawn_11 h
theorem nX10_drawn_0 {g : Shp} {m : Mem} {x1 : Int} (h : Sh g m)  {r : Int} {m' : Mem} (hF : ebX10_drawn_0 g x1 m = some (r, m')) : Sh g m' := by
  unfold ebX10_drawn_0 at hF
  rcases if_ok hF with ⟨hc1, hF⟩ | ⟨hc1, hF⟩
  · exact nX10_drawn_11 h  hF
  · rcases if_ok hF with ⟨hc2, hF⟩ | ⟨hc2, hF⟩
    · obtain ⟨y3, ey3, hF⟩ := vv_ok hF
      rcases if_ok hF with ⟨hc4, hF⟩ | ⟨hc4, hF⟩
      · cases hF
        exact h
      · obtain ⟨y5, ey5, hF⟩ := vv_ok hF
        have k6 := s_1_2 h
        have k7 := u2_0 h (r := 85) (q := 86) k6.2.1 rfl
        obtain ⟨i8, hF⟩ := ck_ok hF
        obtain ⟨y9, ey9, hF⟩ := vv_ok hF
        obtain ⟨v10, m11, h12, hF⟩ := bd2_ok hF
        have hm11 := nX10_isLine h  h12
        rcases if_ok hF with ⟨hc13, hF⟩ | ⟨hc13, hF⟩
        · obtain ⟨cv14, sv15, hi16, hF⟩ := bdl_ok hF
          have h17 := nlX10_drawn_74  (s0 := (0, m11)) hm11 hi16
          rcases if_ok hF with ⟨hc18, hF⟩ | ⟨hc18, hF⟩
          · exact nX10_drawn_111 h17  hF
          · exact nX10_drawn_120 h17  hF
        · have k19 := s_1_2 hm11
          have k20 := u2_2 hm11 (r := 85) (q := 88) k19.2.1 rfl
          obtain ⟨i21, hF⟩ := ck_ok hF
          cases hF
          exact hm11
    · exact nX10_drawn_11 h  hF
theorem qX10_drawn {g : Shp} {m : Mem} {x1 : Int} (h : Sh g m)  : fX10_drawn g 1 x1 m = eX10_drawn g x1 m := qX10_drawn_0 h 
theorem nX10_drawn {g : Shp} {m : Mem} {x1 : Int} (h : Sh g m)  {r : Int} {m' : Mem} (hF : eX10_drawn g x1 m = some (r, m')) : Sh g m' := nX10_drawn_0 h  hF
