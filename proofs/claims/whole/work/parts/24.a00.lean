def ebX0_forgetWorths_30 (x1 : Int) (g : Shp) (m : Mem) : Option (Int × Shp × Mem) :=
  bd2 (eJ7_fill_fda19 g (m 5 2) 0 x1 ((-1)) m) fun v2 m3 =>
  some (0, g, m3)
def ebX0_forgetWorths_27 (x1 z1 : Int) (g : Shp) (m : Mem) : Option (Int × Shp × Mem) :=
  vm (ms m 5 2 z1) fun m1 =>
  ebX0_forgetWorths_30 x1 g m1
def ebX0_forgetWorths_0 (g : Shp) (m : Mem) : Option (Int × Shp × Mem) :=
  vv (w32 ((m 6 2) * 343)) fun y2 =>
  if y2 ≤ (gl g (m 5 2)) then
    ebX0_forgetWorths_30 y2 g m
  else
    ck (gn g < 1000000 ∧ (0 : Int) ≤ 6174 ∧ 6174 < (1000000 : Int)) <|
    vg (gA g 20 6174 6174) fun g6 =>
    vm (mA g m) fun m7 =>
    vv ((gn g : Int) + 1) fun y8 =>
    ebX0_forgetWorths_27 y2 y8 g6 m7
def eX0_forgetWorths (g : Shp) (m : Mem) : Option (Int × Shp × Mem) := ebX0_forgetWorths_0 g m
def ebX0_find_123 (x3 x4 x5 x6 x7 : Int) (g : Shp) (m : Mem) : Option (Int × (Int × Mem)) :=
  vv (w32 (x7 + 1)) fun y1 =>
  some (0, (y1, m))
def ebX0_find_57 (x3 x4 x5 x6 x7 : Int) (g : Shp) (m : Mem) : Option (Int × (Int × Mem)) :=
  ck ((0 : Int) ≤ x6 ∧ x6 < 60) <|
  if (m 7 x6) < x7 then
    some (1, (x7, m))
  else
    ck ((0 : Int) ≤ x6 ∧ x6 < 60) <|
    bd2 (eX0_layingsOf g x7 (m 8 x6) m) fun v8 m9 =>
    ck (gk g v8 = 3) <|
    if (m9 v8 3) = 0 then
      ck ((0 : Int) ≤ x6 ∧ x6 < 60) <|
      bd2 (eX2_list g v8 x7 (m9 8 x6) 11 (m9 5 5) m9) fun v17 m18 =>
      ebX0_find_123 x3 x4 x5 x6 x7 g m18
    else
      ebX0_find_123 x3 x4 x5 x6 x7 g m9
def eBX0_find_57 (x3 x4 x5 x6 : Int) (g : Shp) (q : (Int × Mem)) : Option (Int × (Int × Mem)) := ebX0_find_57 x3 x4 x5 x6 q.1 g q.2
def ebX0_find_129 (x3 x4 x5 x6 : Int) (g : Shp) (m : Mem) : Option (Int × (Int × Mem)) :=
  vv (w32 (x6 + 1)) fun y1 =>
  some (0, (y1, m))
def ebX0_find_42 (x3 x4 x5 x6 : Int) (g : Shp) (m : Mem) : Option (Int × (Int × Mem)) :=
  if (m 6 2) ≤ x6 then
    some (1, (x6, m))
  else
    bdl (iter (eBX0_find_57 x3 x4 x5 x6 g) 100000 (1, m)) fun cv3 sv4 =>
    ebX0_find_129 x3 x4 x5 x6 g sv4.2
def eBX0_find_42 (x3 x4 x5 : Int) (g : Shp) (q : (Int × Mem)) : Option (Int × (Int × Mem)) := ebX0_find_42 x3 x4 x5 q.1 g q.2
def ebX0_find_232 (x5 x6 : Int) (g : Shp) (m : Mem) : Option (Int × (Int × Mem)) :=
  if 18 ≤ x6 then
    some (1, (x6, m))
  else
    if (m 6 2) ≤ (m 5 6) then
      some (1, (x6, m))
    else
      bd2 (eX0_setStone g x5 m) fun v4 m5 =>
      vv (w32 (x6 + 1)) fun y7 =>
      some (0, (y7, m5))
def eBX0_find_232 (x5 : Int) (g : Shp) (q : (Int × Mem)) : Option (Int × (Int × Mem)) := ebX0_find_232 x5 q.1 g q.2
def ebX0_find_265 (g : Shp) (m : Mem) : Option (Int × Shp × Mem) :=
  some (0, g, m)
def ebX0_find_139 (x3 x4 x5 : Int) (g : Shp) (m : Mem) : Option (Int × Shp × Mem) :=
  ck ((0 : Int) ≤ (w32 (x4 * 3)) ∧ (0 : Int) ≤ 0 ∧ (0 : Int) ≤ 3 ∧ (w32 (x4 * 3)) + 3 ≤ (9 : Int) ∧ 0 + 3 ≤ (3 : Int)) <|
  vm (mcp m (x3 + 2) (w32 (x4 * 3)) 12 0 3) fun m4 =>
  vm (ms m4 5 6 0) fun m5 =>
  bd2 (eX0_cellsOf g 0 m5) fun v6 m7 =>
  vm (ms m7 5 7 v6) fun m9 =>
  ck ((0 : Int) ≤ 0 ∧ 0 < (3 : Int)) <|
  ck ((0 : Int) ≤ 1 ∧ 1 < (3 : Int)) <|
  ck ((0 : Int) ≤ 2 ∧ 2 < (3 : Int)) <|
  bd2 (eX0_worthOf 24 g 0 (m9 5 7) (m9 12 0) (m9 12 1) (m9 12 2) m9) fun v16 m17 =>
  vm (ms m17 5 8 v16) fun m19 =>
  if (m19 5 8) < 1048576 then
    vm (ms m19 x5 7 1) fun m21 =>
    vm (ms m21 x5 5 (jdiv (m21 5 8) 32)) fun m22 =>
    bdl (iter (eBX0_find_232 x5 g) 100000 (0, m22)) fun cv23 sv24 =>
    ebX0_find_265 g sv24.2
  else
    some (0, g, m19)
def ebX0_find_135 (x3 x4 x5 : Int) (g : Shp) (m : Mem) : Option (Int × Shp × Mem) :=
  bd3 (eX0_forgetWorths g m) fun v1 g2 m3 =>
  ebX0_find_139 x3 x4 x5 g2 m3
def ebX0_find_0 (x1 x2 x3 x4 x5 : Int) (g : Shp) (m : Mem) : Option (Int × Shp × Mem) :=
  bd2 (eX9_clear g x5 m) fun v1 m2 =>
  bd2 (eX6_split g x1 (x3 + 1) m2) fun v6 m7 =>
  if (m7 6 2) ≤ 18 then
    bd2 (eX0_keepSizes g x2 (m7 x3 7) m7) fun v11 m12 =>
    bdl (iter (eBX0_find_42 x3 x4 x5 g) 100000 (0, m12)) fun cv14 sv15 =>
    ebX0_find_135 x3 x4 x5 g sv15.2
  else
    some (0, g, m7)
def eX0_find (x1 x2 x3 x4 x5 : Int) (g : Shp) (m : Mem) : Option (Int × Shp × Mem) := ebX0_find_0 x1 x2 x3 x4 x5 g m
def ebX10_wayOf_52 (x3 : Int) (g : Shp) (m : Mem) : Option (Int × Shp × Mem) :=
  some (x3, g, m)
def ebX10_wayOf_47 (x3 : Int) (g : Shp) (m : Mem) : Option (Int × Shp × Mem) :=
  vm (ms m x3 8 1) fun m1 =>
  ebX10_wayOf_52 x3 g m1
def ebX10_wayOf_0 (x1 x2 : Int) (g : Shp) (m : Mem) : Option (Int × Shp × Mem) :=
  ck ((0 : Int) ≤ (w32 ((w32 (x1 * 3)) + x2)) ∧ (w32 ((w32 (x1 * 3)) + x2)) < 9) <|
  if (m (176 + (29 + 4 * (w32 ((w32 (x1 * 3)) + x2)))) 8) = 0 then
    ck ((0 : Int) ≤ x1 ∧ x1 < 3) <|
    bd3 (eX0_find (m 1 6 + 3 + (2 + 3 * x1)) (m 1 6 + 1) 85 x2 (176 + (29 + 4 * (w32 ((w32 (x1 * 3)) + x2)))) g m) fun v14 g15 m16 =>
    ebX10_wayOf_47 (176 + (29 + 4 * (w32 ((w32 (x1 * 3)) + x2)))) g15 m16
  else
    ebX10_wayOf_52 (176 + (29 + 4 * (w32 ((w32 (x1 * 3)) + x2)))) g m
def eX10_wayOf (x1 x2 : Int) (g : Shp) (m : Mem) : Option (Int × Shp × Mem) := ebX10_wayOf_0 x1 x2 g m
def ebX10_way_21 (g : Shp) (m : Mem) : Option (Int × Shp × Mem) :=
  some ((-1), g, m)
def ebX10_way_100 (z0 : Int) (g : Shp) (m : Mem) : Option (Int × Shp × Mem) :=
  some (z0, g, m)
def ebX10_way_43 (x3 z0 : Int) (g : Shp) (m : Mem) : Option (Int × Shp × Mem) :=
  if (m z0 7) = 0 then
    some ((-4), g, m)
  else
    if x3 = ((-1)) then
      some (m z0 5, g, m)
    else
      if x3 = ((-2)) then
        some (m z0 4, g, m)
      else
        if (m z0 4) ≤ x3 then
          ebX10_way_100 ((-4)) g m
        else
          ck ((0 : Int) ≤ x3 ∧ x3 < 18) <|
          ebX10_way_100 (m (z0 + 1) x3) g m
def ebX10_way_0 (x1 x2 x3 : Int) (g : Shp) (m : Mem) : Option (Int × Shp × Mem) :=
  bd2 (eX10_isLine g x1 m) fun v1 m2 =>
  if v1 = 0 then
    ebX10_way_21 g m2
  else
    bd2 (eX10_isColour g x2 m2) fun v5 m6 =>
    if v5 = 0 then
      ebX10_way_21 g m6
    else
      if ((-2)) ≤ x3 then
        bd2 (eX1_isCovered g 85 x1 m6) fun v11 m12 =>
        if v11 = 0 then
          bd3 (eX10_wayOf x1 x2 g m12) fun v15 g16 m17 =>
          ck (gk g16 v15 = 10) <|
          ebX10_way_43 x3 v15 g16 m17
        else
          some ((-2), g, m12)
      else
        ebX10_way_21 g m6
def eX10_way (x1 x2 x3 : Int) (g : Shp) (m : Mem) : Option (Int × Shp × Mem) := ebX10_way_0 x1 x2 x3 g m
def ebX10_best_79 (x1 x2 x3 x4 : Int) (g : Shp) (m : Mem) : Option (Int × (Int × Int × Int × Shp × Mem)) :=
  vv (w32 (x4 + 1)) fun y1 =>
  some (0, (x2, x3, y1, g, m))
def ebX10_best_70 (x1 x4 x5 : Int) (g : Shp) (m : Mem) : Option (Int × (Int × Int × Int × Shp × Mem)) :=
  vv (m x5 5) fun y1 =>
  ebX10_best_79 x1 x4 y1 x4 g m
def ebX10_best_45 (x1 x2 x3 x4 z0 : Int) (g : Shp) (m : Mem) : Option (Int × (Int × Int × Int × Shp × Mem)) :=
  if (m z0 7) = 0 then
    ebX10_best_79 x1 x2 x3 x4 g m
  else
    if x2 = ((-4)) then
      ebX10_best_70 x1 x4 z0 g m
    else
      if x3 ≤ (m z0 5) then
        ebX10_best_79 x1 x2 x3 x4 g m
      else
        ebX10_best_70 x1 x4 z0 g m
def ebX10_best_32 (x1 x2 x3 x4 : Int) (g : Shp) (m : Mem) : Option (Int × (Int × Int × Int × Shp × Mem)) :=
  if 3 ≤ x4 then
    some (1, (x2, x3, x4, g, m))
  else
    bd3 (eX10_wayOf x1 x4 g m) fun v2 g3 m4 =>
    ck (gk g3 v2 = 10) <|
    ebX10_best_45 x1 x2 x3 x4 v2 g3 m4
def eBX10_best_32 (x1 : Int) (q : (Int × Int × Int × Shp × Mem)) : Option (Int × (Int × Int × Int × Shp × Mem)) := ebX10_best_32 x1 q.1 q.2.1 q.2.2.1 q.2.2.2.1 q.2.2.2.2
def ebX10_best_85 (x2 : Int) (g : Shp) (m : Mem) : Option (Int × Shp × Mem) :=
  some (x2, g, m)
def ebX10_best_0 (x1 : Int) (g : Shp) (m : Mem) : Option (Int × Shp × Mem) :=
  bd2 (eX10_isLine g x1 m) fun v1 m2 =>
  if v1 = 0 then
    some ((-1), g, m2)
  else
    bd2 (eX1_isCovered g 85 x1 m2) fun v6 m7 =>
    if v6 = 0 then
      bdl (iter (eBX10_best_32 x1) 100000 ((-4), 0, 0, g, m7)) fun cv10 sv11 =>
      ebX10_best_85 sv11.1 sv11.2.2.2.1 sv11.2.2.2.2
    else
      some ((-2), g, m7)
def eX10_best (x1 : Int) (g : Shp) (m : Mem) : Option (Int × Shp × Mem) := ebX10_best_0 x1 g m
def ebX10_cover_15 (g : Shp) (m : Mem) : Option (Int × Shp × Mem) :=
  some ((-1), g, m)
def ebX10_cover_37 (x1 x2 z0 : Int) (g : Shp) (m : Mem) : Option (Int × Shp × Mem) :=
  if (m z0 7) = 0 then
    some ((-4), g, m)
  else
    bd2 (eX10_beginChange g m) fun v2 m3 =>
    ck ((0 : Int) ≤ x1 ∧ x1 < 3) <|
    bd2 (eX1_putDown g 85 x1 (m3 1 6 + 3 + (2 + 3 * x1)) x2 z0 m3) fun v10 m11 =>
    some (m11 z0 5, g, m11)
def ebX10_cover_0 (x1 x2 : Int) (g : Shp) (m : Mem) : Option (Int × Shp × Mem) :=
  bd2 (eX10_isLine g x1 m) fun v1 m2 =>
  if v1 = 0 then
    ebX10_cover_15 g m2
  else
    bd2 (eX10_isColour g x2 m2) fun v5 m6 =>
    if v5 = 0 then
      ebX10_cover_15 g m6
    else
      bd2 (eX1_isCovered g 85 x1 m6) fun v10 m11 =>
      if v10 = 0 then
        bd3 (eX10_wayOf x1 x2 g m11) fun v14 g15 m16 =>
        ck (gk g15 v14 = 10) <|
        ebX10_cover_37 x1 x2 v14 g15 m16
      else
        some ((-2), g, m11)
def eX10_cover (x1 x2 : Int) (g : Shp) (m : Mem) : Option (Int × Shp × Mem) := ebX10_cover_0 x1 x2 g m
def ebX10_searchOrders_190 (er : Int → Int → Int → Shp → Mem → Option (Int × Shp × Mem)) (x1 x2 x3 x4 x5 : Int) (g : Shp) (m : Mem) : Option (Int × (Int × Int × Shp × Mem)) :=
  vv (w32 (x5 + 1)) fun y1 =>
  some (0, (x4, y1, g, m))
def ebX10_searchOrders_91 (er : Int → Int → Int → Shp → Mem → Option (Int × Shp × Mem)) (x1 x2 x3 x4 x5 x6 x7 : Int) (g : Shp) (m : Mem) : Option (Int × (Int × Int × Shp × Mem)) :=
  vv (w32 (x3 + (m x7 5))) fun y1 =>
  if (m x7 7) = 0 then
    ebX10_searchOrders_190 er x1 x2 x3 x4 x5 g m
  else
    bd2 (eX3_isFewer g y1 m) fun v4 m5 =>
    if v4 = 0 then
      ebX10_searchOrders_190 er x1 x2 x3 x4 x5 g m5
    else
      ck ((0 : Int) ≤ x1 ∧ x1 < 3) <|
      bd2 (eX1_copy g (m5 147 x1) x2 m5) fun v12 m13 =>
      ck ((0 : Int) ≤ x1 ∧ x1 < 3) <|
      ck ((0 : Int) ≤ x5 ∧ x5 < 3) <|
      bd2 (eX1_putDown g (m13 147 x1) x5 x6 (m13 144 x5) x7 m13) fun v22 m23 =>
      ck ((0 : Int) ≤ x1 ∧ x1 < 3) <|
      vm (ms m23 145 x1 x5) fun m28 =>
      ck ((0 : Int) ≤ x1 ∧ x1 < 3) <|
      bd3 (er (w32 (x1 + 1)) (m28 147 x1) y1 g m28) fun v33 g34 m35 =>
      ebX10_searchOrders_190 er x1 x2 x3 x4 x5 g34 m35
def ebX10_searchOrders_6 (er : Int → Int → Int → Shp → Mem → Option (Int × Shp × Mem)) (x1 x2 x3 x4 x5 : Int) (g : Shp) (m : Mem) : Option (Int × (Int × Int × Shp × Mem)) :=
  if (m (m 1 6) 5) ≤ x5 then
    some (1, (x4, x5, g, m))
  else
    bd2 (eX1_isCovered g x2 x5 m) fun v3 m4 =>
    if v3 = 0 then
      vv (w32 (x4 + 1)) fun y7 =>
      if x1 < 3 then
        ck ((0 : Int) ≤ x5 ∧ x5 < 3) <|
        ck ((0 : Int) ≤ x5 ∧ x5 < 3) <|
        bd3 (eX0_find (m4 1 6 + 3 + (2 + 3 * x5)) (m4 1 6 + 1) x2 (m4 144 x5) 148 g m4) fun v23 g24 m25 =>
        ebX10_searchOrders_91 er x1 x2 x3 y7 x5 (m4 1 6 + 3 + (2 + 3 * x5)) 148 g24 m25
      else
        ebX10_searchOrders_190 er x1 x2 x3 y7 x5 g m4
    else
      ebX10_searchOrders_190 er x1 x2 x3 x4 x5 g m4
def eBX10_searchOrders_6 (er : Int → Int → Int → Shp → Mem → Option (Int × Shp × Mem)) (x1 x2 x3 : Int) (q : (Int × Int × Shp × Mem)) : Option (Int × (Int × Int × Shp × Mem)) := ebX10_searchOrders_6 er x1 x2 x3 q.1 q.2.1 q.2.2.1 q.2.2.2
def ebX10_searchOrders_221 (er : Int → Int → Int → Shp → Mem → Option (Int × Shp × Mem)) (g : Shp) (m : Mem) : Option (Int × Shp × Mem) :=
  some (0, g, m)
def ebX10_searchOrders_196 (er : Int → Int → Int → Shp → Mem → Option (Int × Shp × Mem)) (x1 x3 x4 : Int) (g : Shp) (m : Mem) : Option (Int × Shp × Mem) :=
  if x4 = 0 then
    bd2 (eX3_isFewer g x3 m) fun v3 m4 =>
    if v3 = 0 then
      ebX10_searchOrders_221 er g m4
    else
      bd2 (eX3_keepTrial g x1 x3 m4) fun v8 m9 =>
      ebX10_searchOrders_221 er g m9
  else
    ebX10_searchOrders_221 er g m
def ebX10_searchOrders_0 (er : Int → Int → Int → Shp → Mem → Option (Int × Shp × Mem)) (x1 x2 x3 : Int) (g : Shp) (m : Mem) : Option (Int × Shp × Mem) :=
  bdl (iter (eBX10_searchOrders_6 er x1 x2 x3) 100000 (0, 0, g, m)) fun cv1 sv2 =>
  ebX10_searchOrders_196 er x1 x3 sv2.1 sv2.2.2.1 sv2.2.2.2
def eX10_searchOrders : Nat → Int → Int → Int → Shp → Mem → Option (Int × Shp × Mem)
  | 0, _, _, _, _, _ => none
  | d + 1, x1, x2, x3, g, m => ebX10_searchOrders_0 (eX10_searchOrders d) x1 x2 x3 g m
def ebX10_order_33 (g : Shp) (m : Mem) : Option (Int × Shp × Mem) :=
  some ((-1), g, m)
def ebX10_order_122 (z0 : Int) (g : Shp) (m : Mem) : Option (Int × Shp × Mem) :=
  some (z0, g, m)
def ebX10_order_68 (x4 : Int) (g : Shp) (m : Mem) : Option (Int × Shp × Mem) :=
  if (m 143 7) = 0 then
    some ((-4), g, m)
  else
    if x4 = ((-1)) then
      some (m 143 6, g, m)
    else
      if (m 143 5) ≤ x4 then
        ebX10_order_122 ((-4)) g m
      else
        ck ((0 : Int) ≤ x4 ∧ x4 < 3) <|
        ebX10_order_122 (m 146 x4) g m
def ebX10_order_0 (x1 x2 x3 x4 : Int) (g : Shp) (m : Mem) : Option (Int × Shp × Mem) :=
  bd2 (eX10_isColour g x1 m) fun v1 m2 =>
  if v1 = 0 then
    ebX10_order_33 g m2
  else
    bd2 (eX10_isColour g x2 m2) fun v5 m6 =>
    if v5 = 0 then
      ebX10_order_33 g m6
    else
      bd2 (eX10_isColour g x3 m6) fun v9 m10 =>
      if v9 = 0 then
        ebX10_order_33 g m10
      else
        if x4 < ((-1)) then
          ebX10_order_33 g m10
        else
          if x4 < 3 then
            bd2 (eX3_isFor g x1 x2 x3 m10) fun v16 m17 =>
            if v16 = 0 then
              bd2 (eX3_begin g x1 x2 x3 m17) fun v21 m22 =>
              bd3 (eX10_searchOrders 5 0 85 0 g m22) fun v25 g26 m27 =>
              ebX10_order_68 x4 g26 m27
            else
              ebX10_order_68 x4 g m17
          else
            ebX10_order_33 g m10
def eX10_order (x1 x2 x3 x4 : Int) (g : Shp) (m : Mem) : Option (Int × Shp × Mem) := ebX10_order_0 x1 x2 x3 x4 g m
set_option maxRecDepth 20000 in
theorem qX0_forgetWorths_30 {g : Shp} {m : Mem} {x1 : Int} (h : Sh g m) (hg : gOk g)  : bX0_forgetWorths_30 5 x1 g m = ebX0_forgetWorths_30 x1 g m := by
  unfold bX0_forgetWorths_30 ebX0_forgetWorths_30
  have k1 := h.2.2.1.2.2
  rewrite [ck_t k1]
  refine bd2_q (qJ7_fill_fda19 h k1) (fun v2 m3 h4 => ?_)
  have hm3 := nJ7_fill_fda19 h k1 ((qJ7_fill_fda19 h k1).symm.trans h4)
  rfl
theorem nX0_forgetWorths_30 {g : Shp} {m : Mem} {x1 : Int} (h : Sh g m) (hg : gOk g)  {r : Int} {g' : Shp} {m' : Mem} (hF : ebX0_forgetWorths_30 x1 g m = some (r, g', m')) : (Sh g' m' ∧ gOk g') ∧ gX g g' := by
  unfold ebX0_forgetWorths_30 at hF
  have k1 := h.2.2.1.2.2
  obtain ⟨v2, m3, h4, hF⟩ := bd2_ok hF
  have hm3 := nJ7_fill_fda19 h k1 h4
  cases hF
  exact ⟨⟨hm3, hg⟩, gX.rf _⟩
set_option maxRecDepth 20000 in
theorem qX0_forgetWorths_27 {g : Shp} {m : Mem} {x1 z1 : Int} (h : Sh g m) (hg : gOk g) (hz1 : gk g z1 = 20) : bX0_forgetWorths_27 5 x1 5 z1 g m = ebX0_forgetWorths_27 x1 z1 g m := by
  unfold bX0_forgetWorths_27 ebX0_forgetWorths_27
  refine vm_c (fun m1 em1 => ?_)
  have hm1 := h.wo em1 hz1
  exact qX0_forgetWorths_30 hm1 hg 
theorem nX0_forgetWorths_27 {g : Shp} {m : Mem} {x1 z1 : Int} (h : Sh g m) (hg : gOk g) (hz1 : gk g z1 = 20) {r : Int} {g' : Shp} {m' : Mem} (hF : ebX0_forgetWorths_27 x1 z1 g m = some (r, g', m')) : (Sh g' m' ∧ gOk g') ∧ gX g g' := by
  unfold ebX0_forgetWorths_27 at hF
  obtain ⟨m1, em1, hF⟩ := vm_ok hF
  have hm1 := h.wo em1 hz1
  exact nX0_forgetWorths_30 hm1 hg  hF
set_option maxRecDepth 20000 in
theorem qX0_forgetWorths_0 {g : Shp} {m : Mem} (h : Sh g m) (hg : gOk g)  : bX0_forgetWorths_0 5 g m = ebX0_forgetWorths_0 g m := by
  unfold bX0_forgetWorths_0 ebX0_forgetWorths_0
  have k1 := s_5_0 h
  rewrite [k1.1, ck_t k1.2.1]
  refine vv_c (fun y2 ey2 => ?_)
  have k3 := h.2.2.1.2.2
  rewrite [ck_t k3]
  refine if_c (fun hc4 => ?_) (fun hc4 => ?_)
  · exact qX0_forgetWorths_30 h hg
  · refine ck_c (fun h5 => ?_)
    refine vg_c (fun g6 eg6 => ?_)
    refine vm_c (fun m7 em7 => ?_)
    refine vv_c (fun y8 ey8 => ?_)
    have hm7 := h.nw hg eg6 em7
    have hgm7 := gA_ok hg h5 eg6
    have gxm7 := gA_X hg eg6
    have ky8 := gA_k eg6 ey8
    exact qX0_forgetWorths_27 hm7 hgm7 ky8
theorem nX0_forgetWorths_0 {g : Shp} {m : Mem} (h : Sh g m) (hg : gOk g)  {r : Int} {g' : Shp} {m' : Mem} (hF : ebX0_forgetWorths_0 g m = some (r, g', m')) : (Sh g' m' ∧ gOk g') ∧ gX g g' := by
  unfold ebX0_forgetWorths_0 at hF
  have k1 := s_5_0 h
  obtain ⟨y2, ey2, hF⟩ := vv_ok hF
  have k3 := h.2.2.1.2.2
  rcases if_ok hF with ⟨hc4, hF⟩ | ⟨hc4, hF⟩
  · exact nX0_forgetWorths_30 h hg  hF
  · obtain ⟨h5, hF⟩ := ck_ok hF
    obtain ⟨g6, eg6, hF⟩ := vg_ok hF
    obtain ⟨m7, em7, hF⟩ := vm_ok hF
    obtain ⟨y8, ey8, hF⟩ := vv_ok hF
    have hm7 := h.nw hg eg6 em7
    have hgm7 := gA_ok hg h5 eg6
    have gxm7 := gA_X hg eg6
    have ky8 := gA_k eg6 ey8
    exact ⟨(nX0_forgetWorths_27 hm7 hgm7 ky8 hF).1, gxm7.tr (nX0_forgetWorths_27 hm7 hgm7 ky8 hF).2⟩
theorem qX0_forgetWorths {g : Shp} {m : Mem} (h : Sh g m) (hg : gOk g)  : fX0_forgetWorths 5 g m = eX0_forgetWorths g m := qX0_forgetWorths_0 h hg 
theorem nX0_forgetWorths {g : Shp} {m : Mem} (h : Sh g m) (hg : gOk g)  {r : Int} {g' : Shp} {m' : Mem} (hF : eX0_forgetWorths g m = some (r, g', m')) : (Sh g' m' ∧ gOk g') ∧ gX g g' := nX0_forgetWorths_0 h hg  hF
set_option maxRecDepth 20000 in
theorem qX0_find_123 {g : Shp} {m : Mem} {x3 x4 x5 x6 x7 : Int} (h : Sh g m) (hg : gOk g) (hx3 : gk g x3 = 2) (hx5 : gk g x5 = 10) : bX0_find_123 5 x3 x4 x5 x6 x7 g m = ebX0_find_123 x3 x4 x5 x6 x7 g m := by
  unfold bX0_find_123 ebX0_find_123
  refine vv_c (fun y1 ey1 => ?_)
  rfl
theorem nX0_find_123 {g : Shp} {m : Mem} {x3 x4 x5 x6 x7 : Int} (h : Sh g m) (hg : gOk g) (hx3 : gk g x3 = 2) (hx5 : gk g x5 = 10) {c1 : Int} {s1 : (Int × Mem)} (hF : ebX0_find_123 x3 x4 x5 x6 x7 g m = some (c1, s1)) : Sh g s1.2 := by
  unfold ebX0_find_123 at hF
  obtain ⟨y1, ey1, hF⟩ := vv_ok hF
  cases hF
  exact h
set_option maxRecDepth 20000 in
theorem qX0_find_57 {g : Shp} {m : Mem} {x3 x4 x5 x6 x7 : Int} (h : Sh g m) (hg : gOk g) (hx3 : gk g x3 = 2) (hx5 : gk g x5 = 10) : bX0_find_57 5 x3 x4 x5 x6 x7 g m = ebX0_find_57 x3 x4 x5 x6 x7 g m := by
  unfold bX0_find_57 ebX0_find_57
  have k1 := s_5_0 h
  rewrite [k1.1, ck_t k1.2.1]
  have k2 := s_6_0 h
  rewrite [k2.1, ck_t k2.2.1]
  try rewrite [k2.2.2]
  refine ck_c (fun i3 => ?_)
  refine if_c (fun hc4 => ?_) (fun hc4 => ?_)
  · rfl
  · have k5 := s_5_0 h
    have k6 := s_6_1 h
    rewrite [k6.1, ck_t k6.2.1]
    try rewrite [k6.2.2]
    refine ck_c (fun i7 => ?_)
    refine bd2_q (qX0_layingsOf h ) (fun v8 m9 h10 => ?_)
    have hm9 := nX0_layingsOf h  ((qX0_layingsOf h ).symm.trans h10)
    refine ck_c (fun k11 => ?_)
    refine if_c (fun hc12 => ?_) (fun hc12 => ?_)
    · have k13 := s_5_0 hm9
      rewrite [k13.1, ck_t k13.2.1]
      have k14 := s_6_1 hm9
      rewrite [k14.1, ck_t k14.2.1]
      try rewrite [k14.2.2]
      refine ck_c (fun i15 => ?_)
      have k16 := s_5_3 hm9
      rewrite [k16.1, ck_t k16.2.1]
      refine bd2_q (qX2_list hm9 k11 k16.2.1) (fun v17 m18 h19 => ?_)
      have hm18 := nX2_list hm9 k11 k16.2.1 ((qX2_list hm9 k11 k16.2.1).symm.trans h19)
      exact qX0_find_123 hm18 hg hx3 hx5
    · exact qX0_find_123 hm9 hg hx3 hx5
theorem nX0_find_57 {g : Shp} {m : Mem} {x3 x4 x5 x6 x7 : Int} (h : Sh g m) (hg : gOk g) (hx3 : gk g x3 = 2) (hx5 : gk g x5 = 10) {c1 : Int} {s1 : (Int × Mem)} (hF : ebX0_find_57 x3 x4 x5 x6 x7 g m = some (c1, s1)) : Sh g s1.2 := by
  unfold ebX0_find_57 at hF
  have k1 := s_5_0 h
  have k2 := s_6_0 h
  obtain ⟨i3, hF⟩ := ck_ok hF
  rcases if_ok hF with ⟨hc4, hF⟩ | ⟨hc4, hF⟩
  · cases hF
    exact h
  · have k5 := s_5_0 h
    have k6 := s_6_1 h
    obtain ⟨i7, hF⟩ := ck_ok hF
    obtain ⟨v8, m9, h10, hF⟩ := bd2_ok hF
    have hm9 := nX0_layingsOf h  h10
    obtain ⟨k11, hF⟩ := ck_ok hF
    rcases if_ok hF with ⟨hc12, hF⟩ | ⟨hc12, hF⟩
    · have k13 := s_5_0 hm9
      have k14 := s_6_1 hm9
      obtain ⟨i15, hF⟩ := ck_ok hF
      have k16 := s_5_3 hm9
      obtain ⟨v17, m18, h19, hF⟩ := bd2_ok hF
      have hm18 := nX2_list hm9 k11 k16.2.1 h19
      exact nX0_find_123 hm18 hg hx3 hx5 hF
    · exact nX0_find_123 hm9 hg hx3 hx5 hF
theorem nlX0_find_57 {g : Shp} {x3 x4 x5 x6 : Int} (hg : gOk g) (hx3 : gk g x3 = 2) (hx5 : gk g x5 = 10) {n : Nat} {s0 s1 : (Int × Mem)} {c1 : Int} (h : Sh g s0.2) (hI : iter (eBX0_find_57 x3 x4 x5 x6 g) n s0 = some (c1, s1)) : Sh g s1.2 :=
  iter_inv (B := eBX0_find_57 x3 x4 x5 x6 g) (fun q => Sh g q.2) (fun s c s' hs hB => nX0_find_57 hs hg hx3 hx5 hB) n s0 c1 s1 h hI
theorem qlX0_find_57 {g : Shp} {x3 x4 x5 x6 : Int} (hg : gOk g) (hx3 : gk g x3 = 2) (hx5 : gk g x5 = 10) {n : Nat} {s0 : (Int × Mem)} (h : Sh g s0.2) : iter (BX0_find_57 5 x3 x4 x5 x6 g) n s0 = iter (eBX0_find_57 x3 x4 x5 x6 g) n s0 :=
  iter_eq (B := BX0_find_57 5 x3 x4 x5 x6 g) (E := eBX0_find_57 x3 x4 x5 x6 g) (fun q => Sh g q.2) (fun s hs => qX0_find_57 hs hg hx3 hx5) (fun s c s' hs hB => nX0_find_57 hs hg hx3 hx5 ((qX0_find_57 hs hg hx3 hx5).symm.trans hB)) n s0 h
set_option maxRecDepth 20000 in
theorem qX0_find_129 {g : Shp} {m : Mem} {x3 x4 x5 x6 : Int} (h : Sh g m) (hg : gOk g) (hx3 : gk g x3 = 2) (hx5 : gk g x5 = 10) : bX0_find_129 5 x3 x4 x5 x6 g m = ebX0_find_129 x3 x4 x5 x6 g m := by
  unfold bX0_find_129 ebX0_find_129
  refine vv_c (fun y1 ey1 => ?_)
  rfl
theorem nX0_find_129 {g : Shp} {m : Mem} {x3 x4 x5 x6 : Int} (h : Sh g m) (hg : gOk g) (hx3 : gk g x3 = 2) (hx5 : gk g x5 = 10) {c1 : Int} {s1 : (Int × Mem)} (hF : ebX0_find_129 x3 x4 x5 x6 g m = some (c1, s1)) : Sh g s1.2 := by
  unfold ebX0_find_129 at hF
  obtain ⟨y1, ey1, hF⟩ := vv_ok hF
  cases hF
  exact h
set_option maxRecDepth 20000 in
theorem qX0_find_42 {g : Shp} {m : Mem} {x3 x4 x5 x6 : Int} (h : Sh g m) (hg : gOk g) (hx3 : gk g x3 = 2) (hx5 : gk g x5 = 10) : bX0_find_42 5 x3 x4 x5 x6 g m = ebX0_find_42 x3 x4 x5 x6 g m := by
  unfold bX0_find_42 ebX0_find_42
  have k1 := s_5_0 h
  rewrite [k1.1, ck_t k1.2.1]
  refine if_c (fun hc2 => ?_) (fun hc2 => ?_)
  · rfl
  · refine bdl_q (qlX0_find_57 hg hx3 hx5 (n := 100000) (s0 := (1, m)) h) (fun cv3 sv4 hi5 => ?_)
    have h6 := nlX0_find_57 hg hx3 hx5 (s0 := (1, m)) h ((qlX0_find_57 hg hx3 hx5 (n := 100000) (s0 := (1, m)) h).symm.trans hi5)
    exact qX0_find_129 h6 hg hx3 hx5
theorem nX0_find_42 {g : Shp} {m : Mem} {x3 x4 x5 x6 : Int} (h : Sh g m) (hg : gOk g) (hx3 : gk g x3 = 2) (hx5 : gk g x5 = 10) {c1 : Int} {s1 : (Int × Mem)} (hF : ebX0_find_42 x3 x4 x5 x6 g m = some (c1, s1)) : Sh g s1.2 := by
  unfold ebX0_find_42 at hF
  have k1 := s_5_0 h
  rcases if_ok hF with ⟨hc2, hF⟩ | ⟨hc2, hF⟩
  · cases hF
    exact h
  · obtain ⟨cv3, sv4, hi5, hF⟩ := bdl_ok hF
    have h6 := nlX0_find_57 hg hx3 hx5 (s0 := (1, m)) h hi5
    exact nX0_find_129 h6 hg hx3 hx5 hF
theorem nlX0_find_42 {g : Shp} {x3 x4 x5 : Int} (hg : gOk g) (hx3 : gk g x3 = 2) (hx5 : gk g x5 = 10) {n : Nat} {s0 s1 : (Int × Mem)} {c1 : Int} (h : Sh g s0.2) (hI : iter (eBX0_find_42 x3 x4 x5 g) n s0 = some (c1, s1)) : Sh g s1.2 :=
  iter_inv (B := eBX0_find_42 x3 x4 x5 g) (fun q => Sh g q.2) (fun s c s' hs hB => nX0_find_42 hs hg hx3 hx5 hB) n s0 c1 s1 h hI
theorem qlX0_find_42 {g : Shp} {x3 x4 x5 : Int} (hg : gOk g) (hx3 : gk g x3 = 2) (hx5 : gk g x5 = 10) {n : Nat} {s0 : (Int × Mem)} (h : Sh g s0.2) : iter (BX0_find_42 5 x3 x4 x5 g) n s0 = iter (eBX0_find_42 x3 x4 x5 g) n s0 :=
  iter_eq (B := BX0_find_42 5 x3 x4 x5 g) (E := eBX0_find_42 x3 x4 x5 g) (fun q => Sh g q.2) (fun s hs => qX0_find_42 hs hg hx3 hx5) (fun s c s' hs hB => nX0_find_42 hs hg hx3 hx5 ((qX0_find_42 hs hg hx3 hx5).symm.trans hB)) n s0 h
set_option maxRecDepth 20000 in
theorem qX0_find_232 {g : Shp} {m : Mem} {x5 x6 : Int} (h : Sh g m) (hg : gOk g) (hx5 : gk g x5 = 10) : bX0_find_232 5 x5 x6 g m = ebX0_find_232 x5 x6 g m := by
  unfold bX0_find_232 ebX0_find_232
  refine if_c (fun hc1 => ?_) (fun hc1 => ?_)
  · rfl
  · have k2 := s_5_0 h
    rewrite [k2.1, ck_t k2.2.1]
    refine if_c (fun hc3 => ?_) (fun hc3 => ?_)
    · rfl
    · refine bd2_q (qX0_setStone h hx5) (fun v4 m5 h6 => ?_)
      have hm5 := nX0_setStone h hx5 ((qX0_setStone h hx5).symm.trans h6)
      refine vv_c (fun y7 ey7 => ?_)
      rfl
theorem nX0_find_232 {g : Shp} {m : Mem} {x5 x6 : Int} (h : Sh g m) (hg : gOk g) (hx5 : gk g x5 = 10) {c1 : Int} {s1 : (Int × Mem)} (hF : ebX0_find_232 x5 x6 g m = some (c1, s1)) : Sh g s1.2 := by
  unfold ebX0_find_232 at hF
  rcases if_ok hF with ⟨hc1, hF⟩ | ⟨hc1, hF⟩
  · cases hF
    exact h
  · have k2 := s_5_0 h
    rcases if_ok hF with ⟨hc3, hF⟩ | ⟨hc3, hF⟩
    · cases hF
      exact h
    · obtain ⟨v4, m5, h6, hF⟩ := bd2_ok hF
      have hm5 := nX0_setStone h hx5 h6
      obtain ⟨y7, ey7, hF⟩ := vv_ok hF
      cases hF
      exact hm5
theorem nlX0_find_232 {g : Shp} {x5 : Int} (hg : gOk g) (hx5 : gk g x5 = 10) {n : Nat} {s0 s1 : (Int × Mem)} {c1 : Int} (h : Sh g s0.2) (hI : iter (eBX0_find_232 x5 g) n s0 = some (c1, s1)) : Sh g s1.2 :=
  iter_inv (B := eBX0_find_232 x5 g) (fun q => Sh g q.2) (fun s c s' hs hB => nX0_find_232 hs hg hx5 hB) n s0 c1 s1 h hI
theorem qlX0_find_232 {g : Shp} {x5 : Int} (hg : gOk g) (hx5 : gk g x5 = 10) {n : Nat} {s0 : (Int × Mem)} (h : Sh g s0.2) : iter (BX0_find_232 5 x5 g) n s0 = iter (eBX0_find_232 x5 g) n s0 :=
  iter_eq (B := BX0_find_232 5 x5 g) (E := eBX0_find_232 x5 g) (fun q => Sh g q.2) (fun s hs => qX0_find_232 hs hg hx5) (fun s c s' hs hB => nX0_find_232 hs hg hx5 ((qX0_find_232 hs hg hx5).symm.trans hB)) n s0 h
set_option maxRecDepth 20000 in
theorem qX0_find_265 {g : Shp} {m : Mem} (h : Sh g m) (hg : gOk g)  : bX0_find_265 g m = ebX0_find_265 g m := by
  unfold bX0_find_265 ebX0_find_265
  rfl
theorem nX0_find_265 {g : Shp} {m : Mem} (h : Sh g m) (hg : gOk g)  {r : Int} {g' : Shp} {m' : Mem} (hF : ebX0_find_265 g m = some (r, g', m')) : (Sh g' m' ∧ gOk g') ∧ gX g g' := by
  unfold ebX0_find_265 at hF
  cases hF
  exact ⟨⟨h, hg⟩, gX.rf _⟩
set_option maxRecDepth 20000 in
theorem qX0_find_139 {g : Shp} {m : Mem} {x3 x4 x5 : Int} (h : Sh g m) (hg : gOk g) (hx3 : gk g x3 = 2) (hx5 : gk g x5 = 10) : bX0_find_139 5 x3 x4 x5 g m = ebX0_find_139 x3 x4 x5 g m := by
  unfold bX0_find_139 ebX0_find_139
  have k1 := u2_1 h (r := x3) (q := x3 + 2) hx3 rfl
  rewrite [k1.1, ck_t k1.2.1]
  have k2 := s_5_4 h
  rewrite [k2.1, ck_t k2.2.1]
  try rewrite [k1.2.2]
  try rewrite [k2.2.2]
  refine ck_c (fun h3 => ?_)
  refine vm_c (fun m4 em4 => ?_)
  have hm4 := h.cp em4 k2.2.1
  refine vm_c (fun m5 em5 => ?_)
  have hm5 := hm4.s em5 (nRf (sk_5 hm4) (by decide) (by decide))
  refine bd2_q (qX0_cellsOf hm5 ) (fun v6 m7 h8 => ?_)
  have hm7 := nX0_cellsOf hm5  ((qX0_cellsOf hm5 ).symm.trans h8)
  refine vm_c (fun m9 em9 => ?_)
  have hm9 := hm7.s em9 (nRf (sk_5 hm7) (by decide) (by decide))
  have k10 := s_5_4 hm9
  rewrite [k10.1, ck_t k10.2.1]
  try rewrite [k10.2.2]
  refine ck_c (fun i11 => ?_)
  have k12 := s_5_4 hm9
  try rewrite [k12.2.2]
  refine ck_c (fun i13 => ?_)
  have k14 := s_5_4 hm9
  try rewrite [k14.2.2]
  refine ck_c (fun i15 => ?_)
  refine bd2_q (qX0_worthOf 24 hm9 ) (fun v16 m17 h18 => ?_)
  have hm17 := nX0_worthOf 24 hm9  ((qX0_worthOf 24 hm9 ).symm.trans h18)
  refine vm_c (fun m19 em19 => ?_)
  have hm19 := hm17.s em19 (nRf (sk_5 hm17) (by decide) (by decide))
  refine if_c (fun hc20 => ?_) (fun hc20 => ?_)
  · refine vm_c (fun m21 em21 => ?_)
    have hm21 := hm19.s em21 (nRf hx5 (by decide) (by decide))
    refine vm_c (fun m22 em22 => ?_)
    have hm22 := hm21.s em22 (nRf hx5 (by decide) (by decide))
    refine bdl_q (qlX0_find_232 hg hx5 (n := 100000) (s0 := (0, m22)) hm22) (fun cv23 sv24 hi25 => ?_)
    have h26 := nlX0_find_232 hg hx5 (s0 := (0, m22)) hm22 ((qlX0_find_232 hg hx5 (n := 100000) (s0 := (0, m22)) hm22).symm.trans hi25)
    exact qX0_find_265 h26 hg 
  · rfl
theorem nX0_find_139 {g : Shp} {m : Mem} {x3 x4 x5 : Int} (h : Sh g m) (hg : gOk g) (hx3 : gk g x3 = 2) (hx5 : gk g x5 = 10) {r : Int} {g' : Shp} {m' : Mem} (hF : ebX0_find_139 x3 x4 x5 g m = some (r, g', m')) : (Sh g' m' ∧ gOk g') ∧ gX g g' := by
  unfold ebX0_find_139 at hF
  have k1 := u2_1 h (r := x3) (q := x3 + 2) hx3 rfl
  have k2 := s_5_4 h
  obtain ⟨h3, hF⟩ := ck_ok hF
  obtain ⟨m4, em4, hF⟩ := vm_ok hF
  have hm4 := h.cp em4 k2.2.1
  obtain ⟨m5, em5, hF⟩ := vm_ok hF
  have hm5 := hm4.s em5 (nRf (sk_5 hm4) (by decide) (by decide))
  obtain ⟨v6, m7, h8, hF⟩ := bd2_ok hF
  have hm7 := nX0_cellsOf hm5  h8
  obtain ⟨m9, em9, hF⟩ := vm_ok hF
  have hm9 := hm7.s em9 (nRf (sk_5 hm7) (by decide) (by decide))
  have k10 := s_5_4 hm9
  obtain ⟨i11, hF⟩ := ck_ok hF
  have k12 := s_5_4 hm9
  obtain ⟨i13, hF⟩ := ck_ok hF
  have k14 := s_5_4 hm9
  obtain ⟨i15, hF⟩ := ck_ok hF
  obtain ⟨v16, m17, h18, hF⟩ := bd2_ok hF
  have hm17 := nX0_worthOf 24 hm9  h18
  obtain ⟨m19, em19, hF⟩ := vm_ok hF
  have hm19 := hm17.s em19 (nRf (sk_5 hm17) (by decide) (by decide))
  rcases if_ok hF with ⟨hc20, hF⟩ | ⟨hc20, hF⟩
  · obtain ⟨m21, em21, hF⟩ := vm_ok hF
    have hm21 := hm19.s em21 (nRf hx5 (by decide) (by decide))
    obtain ⟨m22, em22, hF⟩ := vm_ok hF
    have hm22 := hm21.s em22 (nRf hx5 (by decide) (by decide))
    obtain ⟨cv23, sv24, hi25, hF⟩ := bdl_ok hF
    have h26 := nlX0_find_232 hg hx5 (s0 := (0, m22)) hm22 hi25
    exact nX0_find_265 h26 hg  hF
  · cases hF
    exact ⟨⟨hm19, hg⟩, gX.rf _⟩
set_option maxRecDepth 20000 in
theorem qX0_find_135 {g : Shp} {m : Mem} {x3 x4 x5 : Int} (h : Sh g m) (hg : gOk g) (hx3 : gk g x3 = 2) (hx5 : gk g x5 = 10) : bX0_find_135 5 x3 x4 x5 g m = ebX0_find_135 x3 x4 x5 g m := by
  unfold bX0_find_135 ebX0_find_135
  refine bd3_q (qX0_forgetWorths h hg ) (fun v1 g2 m3 h4 => ?_)
  have hm3 := nX0_forgetWorths h hg  ((qX0_forgetWorths h hg ).symm.trans h4)
  exact qX0_find_139 hm3.1.1 hm3.1.2 (hm3.2.k hx3 (by decide)) (hm3.2.k hx5 (by decide))
theorem nX0_find_135 {g : Shp} {m : Mem} {x3 x4 x5 : Int} (h : Sh g m) (hg : gOk g) (hx3 : gk g x3 = 2) (hx5 : gk g x5 = 10) {r : Int} {g' : Shp} {m' : Mem} (hF : ebX0_find_135 x3 x4 x5 g m = some (r, g', m')) : (Sh g' m' ∧ gOk g') ∧ gX g g' := by
  unfold ebX0_find_135 at hF
  obtain ⟨v1, g2, m3, h4, hF⟩ := bd3_ok hF
  have hm3 := nX0_forgetWorths h hg  h4
  exact ⟨(nX0_find_139 hm3.1.1 hm3.1.2 (hm3.2.k hx3 (by decide)) (hm3.2.k hx5 (by decide)) hF).1, hm3.2.tr (nX0_find_139 hm3.1.1 hm3.1.2 (hm3.2.k hx3 (by decide)) (hm3.2.k hx5 (by decide)) hF).2⟩
set_option maxRecDepth 20000 in
theorem qX0_find_0 {g : Shp} {m : Mem} {x1 x2 x3 x4 x5 : Int} (h : Sh g m) (hg : gOk g) (hx1 : gk g x1 = 6) (hx2 : gk g x2 = 20) (hx3 : gk g x3 = 2) (hx5 : gk g x5 = 10) : bX0_find_0 5 x1 x2 x3 x4 x5 g m = ebX0_find_0 x1 x2 x3 x4 x5 g m := by
  unfold bX0_find_0 ebX0_find_0
  refine bd2_q (qX9_clear h hx5) (fun v1 m2 h3 => ?_)
  have hm2 := nX9_clear h hx5 ((qX9_clear h hx5).symm.trans h3)
  have k4 := s_5_0 hm2
  rewrite [k4.1, ck_t k4.2.1]
  have k5 := u2_0 hm2 (r := x3) (q := x3 + 1) hx3 rfl
  rewrite [k5.1, ck_t k5.2.1]
  refine bd2_q (qX6_split hm2 hx1 k5.2.1) (fun v6 m7 h8 => ?_)
  have hm7 := nX6_split hm2 hx1 k5.2.1 ((qX6_split hm2 hx1 k5.2.1).symm.trans h8)
  have k9 := s_5_0 hm7
  rewrite [k9.1, ck_t k9.2.1]
  refine if_c (fun hc10 => ?_) (fun hc10 => ?_)
  · refine bd2_q (qX0_keepSizes hm7 hx2) (fun v11 m12 h13 => ?_)
    have hm12 := nX0_keepSizes hm7 hx2 ((qX0_keepSizes hm7 hx2).symm.trans h13)
    refine bdl_q (qlX0_find_42 hg hx3 hx5 (n := 100000) (s0 := (0, m12)) hm12) (fun cv14 sv15 hi16 => ?_)
    have h17 := nlX0_find_42 hg hx3 hx5 (s0 := (0, m12)) hm12 ((qlX0_find_42 hg hx3 hx5 (n := 100000) (s0 := (0, m12)) hm12).symm.trans hi16)
    exact qX0_find_135 h17 hg hx3 hx5
  · rfl
theorem nX0_find_0 {g : Shp} {m : Mem} {x1 x2 x3 x4 x5 : Int} (h : Sh g m) (hg : gOk g) (hx1 : gk g x1 = 6) (hx2 : gk g x2 = 20) (hx3 : gk g x3 = 2) (hx5 : gk g x5 = 10) {r : Int} {g' : Shp} {m' : Mem} (hF : ebX0_find_0 x1 x2 x3 x4 x5 g m = some (r, g', m')) : (Sh g' m' ∧ gOk g') ∧ gX g g' := by
  unfold ebX0_find_0 at hF
  obtain ⟨v1, m2, h3, hF⟩ := bd2_ok hF
  have hm2 := nX9_clear h hx5 h3
  have k4 := s_5_0 hm2
  have k5 := u2_0 hm2 (r := x3) (q := x3 + 1) hx3 rfl
  obtain ⟨v6, m7, h8, hF⟩ := bd2_ok hF
  have hm7 := nX6_split hm2 hx1 k5.2.1 h8
  have k9 := s_5_0 hm7
  rcases if_ok hF with ⟨hc10, hF⟩ | ⟨hc10, hF⟩
  · obtain ⟨v11, m12, h13, hF⟩ := bd2_ok hF
    have hm12 := nX0_keepSizes hm7 hx2 h13
    obtain ⟨cv14, sv15, hi16, hF⟩ := bdl_ok hF
    have h17 := nlX0_find_42 hg hx3 hx5 (s0 := (0, m12)) hm12 hi16
    exact nX0_find_135 h17 hg hx3 hx5 hF
  · cases hF
    exact ⟨⟨hm7, hg⟩, gX.rf _⟩
theorem qX0_find {x1 x2 x3 x4 x5 : Int} {g : Shp} {m : Mem} (h : Sh g m) (hg : gOk g) (hx1 : gk g x1 = 6) (hx2 : gk g x2 = 20) (hx3 : gk g x3 = 2) (hx5 : gk g x5 = 10) : fX0_find 5 x1 x2 x3 x4 x5 g m = eX0_find x1 x2 x3 x4 x5 g m := qX0_find_0 h hg hx1 hx2 hx3 hx5
theorem nX0_find {x1 x2 x3 x4 x5 : Int} {g : Shp} {m : Mem} (h : Sh g m) (hg : gOk g) (hx1 : gk g x1 = 6) (hx2 : gk g x2 = 20) (hx3 : gk g x3 = 2) (hx5 : gk g x5 = 10) {r : Int} {g' : Shp} {m' : Mem} (hF : eX0_find x1 x2 x3 x4 x5 g m = some (r, g', m')) : (Sh g' m' ∧ gOk g') ∧ gX g g' := nX0_find_0 h hg hx1 hx2 hx3 hx5 hF
set_option maxRecDepth 20000 in
theorem qX10_wayOf_52 {g : Shp} {m : Mem} {x3 : Int} (h : Sh g m) (hg : gOk g) (hx3 : gk g x3 = 10) : bX10_wayOf_52 x3 g m = ebX10_wayOf_52 x3 g m := by
  unfold bX10_wayOf_52 ebX10_wayOf_52
  rfl
theorem nX10_wayOf_52 {g : Shp} {m : Mem} {x3 : Int} (h : Sh g m) (hg : gOk g) (hx3 : gk g x3 = 10) {r : Int} {g' : Shp} {m' : Mem} (hF : ebX10_wayOf_52 x3 g m = some (r, g', m')) : (Sh g' m' ∧ gOk g') ∧ gX g g' := by
  unfold ebX10_wayOf_52 at hF
  cases hF
  exact ⟨⟨h, hg⟩, gX.rf _⟩
set_option maxRecDepth 20000 in
theorem qX10_wayOf_47 {g : Shp} {m : Mem} {x3 : Int} (h : Sh g m) (hg : gOk g) (hx3 : gk g x3 = 10) : bX10_wayOf_47 x3 g m = ebX10_wayOf_47 x3 g m := by
  unfold bX10_wayOf_47 ebX10_wayOf_47
  refine vm_c (fun m1 em1 => ?_)
  have hm1 := h.s em1 (nRf hx3 (by decide) (by decide))
  exact qX10_wayOf_52 hm1 hg hx3
theorem nX10_wayOf_47 {g : Shp} {m : Mem} {x3 : Int} (h : Sh g m) (hg : gOk g) (hx3 : gk g x3 = 10) {r : Int} {g' : Shp} {m' : Mem} (hF : ebX10_wayOf_47 x3 g m = some (r, g', m')) : (Sh g' m' ∧ gOk g') ∧ gX g g' := by
  unfold ebX10_wayOf_47 at hF
  obtain ⟨m1, em1, hF⟩ := vm_ok hF
  have hm1 := h.s em1 (nRf hx3 (by decide) (by decide))
  exact nX10_wayOf_52 hm1 hg hx3 hF
set_option maxRecDepth 20000 in
theorem qX10_wayOf_0 {g : Shp} {m : Mem} {x1 x2 : Int} (h : Sh g m) (hg : gOk g)  : bX10_wayOf_0 1 x1 x2 g m = ebX10_wayOf_0 x1 x2 g m := by
  unfold bX10_wayOf_0 ebX10_wayOf_0
  have k1 := s_1_5 h
  rewrite [k1.1, ck_t k1.2.1]
  try rewrite [k1.2.2]
  refine ck_c (fun i2 => ?_)
  have k3 := a24 h (r := 176) (i := w32 ((w32 (x1 * 3)) + x2)) k1.2.1 i2 rfl
  try rewrite [k3.1]
  rewrite [ck_t k3.2]
  refine vv_k (fun y4 ey4 => ?_)
  subst ey4
  refine if_c (fun hc5 => ?_) (fun hc5 => ?_)
  · have k6 := s_1_1 h
    rewrite [k6.1, ck_t k6.2.1]
    have k7 := h.2.2.1.1
    rewrite [ck_t k7]
    have k8 := u8_2 h (r := m 1 6) (q := m 1 6 + 3) k7 rfl
    rewrite [k8.1, ck_t k8.2.1]
    try rewrite [al25 h k8.2.1]
    refine ck_c (fun i9 => ?_)
    have k10 := a25 h (r := m 1 6 + 3) (i := x1) k8.2.1 i9 rfl
    try rewrite [k10.1]
    rewrite [ck_t k10.2]
    have k11 := h.2.2.1.1
    have k12 := u8_0 h (r := m 1 6) (q := m 1 6 + 1) k11 rfl
    rewrite [k12.1, ck_t k12.2.1]
    have k13 := s_1_2 h
    rewrite [k13.1, ck_t k13.2.1]
    refine bd3_q (qX0_find h hg k10.2 k12.2.1 k13.2.1 k3.2) (fun v14 g15 m16 h17 => ?_)
    have hm16 := nX0_find h hg k10.2 k12.2.1 k13.2.1 k3.2 ((qX0_find h hg k10.2 k12.2.1 k13.2.1 k3.2).symm.trans h17)
    exact qX10_wayOf_47 hm16.1.1 hm16.1.2 (hm16.2.k k3.2 (by decide))
  · exact qX10_wayOf_52 h hg k3.2
theorem nX10_wayOf_0 {g : Shp} {m : Mem} {x1 x2 : Int} (h : Sh g m) (hg : gOk g)  {r : Int} {g' : Shp} {m' : Mem} (hF : ebX10_wayOf_0 x1 x2 g m = some (r, g', m')) : (Sh g' m' ∧ gOk g') ∧ gX g g' := by
  unfold ebX10_wayOf_0 at hF
  have k1 := s_1_5 h
  obtain ⟨i2, hF⟩ := ck_ok hF
  have k3 := a24 h (r := 176) (i := w32 ((w32 (x1 * 3)) + x2)) k1.2.1 i2 rfl
  rcases if_ok hF with ⟨hc5, hF⟩ | ⟨hc5, hF⟩
  · have k6 := s_1_1 h
    have k7 := h.2.2.1.1
    have k8 := u8_2 h (r := m 1 6) (q := m 1 6 + 3) k7 rfl
    obtain ⟨i9, hF⟩ := ck_ok hF
    have k10 := a25 h (r := m 1 6 + 3) (i := x1) k8.2.1 i9 rfl
    have k11 := h.2.2.1.1
    have k12 := u8_0 h (r := m 1 6) (q := m 1 6 + 1) k11 rfl
    have k13 := s_1_2 h
    obtain ⟨v14, g15, m16, h17, hF⟩ := bd3_ok hF
    have hm16 := nX0_find h hg k10.2 k12.2.1 k13.2.1 k3.2 h17
    exact ⟨(nX10_wayOf_47 hm16.1.1 hm16.1.2 (hm16.2.k k3.2 (by decide)) hF).1, hm16.2.tr (nX10_wayOf_47 hm16.1.1 hm16.1.2 (hm16.2.k k3.2 (by decide)) hF).2⟩
  · exact nX10_wayOf_52 h hg k3.2 hF
theorem qX10_wayOf {x1 x2 : Int} {g : Shp} {m : Mem} (h : Sh g m) (hg : gOk g)  : fX10_wayOf 1 x1 x2 g m = eX10_wayOf x1 x2 g m := qX10_wayOf_0 h hg 
theorem nX10_wayOf {x1 x2 : Int} {g : Shp} {m : Mem} (h : Sh g m) (hg : gOk g)  {r : Int} {g' : Shp} {m' : Mem} (hF : eX10_wayOf x1 x2 g m = some (r, g', m')) : (Sh g' m' ∧ gOk g') ∧ gX g g' := nX10_wayOf_0 h hg  hF
set_option maxRecDepth 20000 in
theorem qX10_way_21 {g : Shp} {m : Mem} (h : Sh g m) (hg : gOk g)  : bX10_way_21 g m = ebX10_way_21 g m := by
  unfold bX10_way_21 ebX10_way_21
  rfl
theorem nX10_way_21 {g : Shp} {m : Mem} (h : Sh g m) (hg : gOk g)  {r : Int} {g' : Shp} {m' : Mem} (hF : ebX10_way_21 g m = some (r, g', m')) : (Sh g' m' ∧ gOk g') ∧ gX g g' := by
  unfold ebX10_way_21 at hF
  cases hF
  exact ⟨⟨h, hg⟩, gX.rf _⟩
set_option maxRecDepth 20000 in
theorem qX10_way_100 {g : Shp} {m : Mem} {z0 : Int} (h : Sh g m) (hg : gOk g)  : bX10_way_100 z0 g m = ebX10_way_100 z0 g m := by
  unfold bX10_way_100 ebX10_way_100
  rfl
theorem nX10_way_100 {g : Shp} {m : Mem} {z0 : Int} (h : Sh g m) (hg : gOk g)  {r : Int} {g' : Shp} {m' : Mem} (hF : ebX10_way_100 z0 g m = some (r, g', m')) : (Sh g' m' ∧ gOk g') ∧ gX g g' := by
  unfold ebX10_way_100 at hF
  cases hF
  exact ⟨⟨h, hg⟩, gX.rf _⟩
set_option maxRecDepth 20000 in
theorem qX10_way_43 {g : Shp} {m : Mem} {x3 z0 : Int} (h : Sh g m) (hg : gOk g) (hz0 : gk g z0 = 10) : bX10_way_43 x3 z0 g m = ebX10_way_43 x3 z0 g m := by
  unfold bX10_way_43 ebX10_way_43
  refine if_c (fun hc1 => ?_) (fun hc1 => ?_)
  · rfl
  · refine if_c (fun hc2 => ?_) (fun hc2 => ?_)
    · rfl
    · refine if_c (fun hc3 => ?_) (fun hc3 => ?_)
      · rfl
      · refine if_c (fun hc4 => ?_) (fun hc4 => ?_)
        · exact qX10_way_100 h hg
        · have k5 := u10_0 h (r := z0) (q := z0 + 1) hz0 rfl
          rewrite [k5.1, ck_t k5.2.1]
          try rewrite [k5.2.2]
          refine ck_c (fun i6 => ?_)
          exact qX10_way_100 h hg 
theorem nX10_way_43 {g : Shp} {m : Mem} {x3 z0 : Int} (h : Sh g m) (hg : gOk g) (hz0 : gk g z0 = 10) {r : Int} {g' : Shp} {m' : Mem} (hF : ebX10_way_43 x3 z0 g m = some (r, g', m')) : (Sh g' m' ∧ gOk g') ∧ gX g g' := by
  unfold ebX10_way_43 at hF
  rcases if_ok hF with ⟨hc1, hF⟩ | ⟨hc1, hF⟩
  · cases hF
    exact ⟨⟨h, hg⟩, gX.rf _⟩
  · rcases if_ok hF with ⟨hc2, hF⟩ | ⟨hc2, hF⟩
    · cases hF
      exact ⟨⟨h, hg⟩, gX.rf _⟩
    · rcases if_ok hF with ⟨hc3, hF⟩ | ⟨hc3, hF⟩
      · cases hF
        exact ⟨⟨h, hg⟩, gX.rf _⟩
      · rcases if_ok hF with ⟨hc4, hF⟩ | ⟨hc4, hF⟩
        · exact nX10_way_100 h hg  hF
        · have k5 := u10_0 h (r := z0) (q := z0 + 1) hz0 rfl
          obtain ⟨i6, hF⟩ := ck_ok hF
          exact nX10_way_100 h hg  hF
set_option maxRecDepth 20000 in
theorem qX10_way_0 {g : Shp} {m : Mem} {x1 x2 x3 : Int} (h : Sh g m) (hg : gOk g)  : bX10_way_0 1 x1 x2 x3 g m = ebX10_way_0 x1 x2 x3 g m := by
  unfold bX10_way_0 ebX10_way_0
  refine bd2_q (qX10_isLine h ) (fun v1 m2 h3 => ?_)
  have hm2 := nX10_isLine h  ((qX10_isLine h ).symm.trans h3)
  refine if_c (fun hc4 => ?_) (fun hc4 => ?_)
  · exact qX10_way_21 hm2 hg
  · refine bd2_q (qX10_isColour hm2 ) (fun v5 m6 h7 => ?_)
    have hm6 := nX10_isColour hm2  ((qX10_isColour hm2 ).symm.trans h7)
    refine if_c (fun hc8 => ?_) (fun hc8 => ?_)
    · exact qX10_way_21 hm6 hg
    · refine if_c (fun hc9 => ?_) (fun hc9 => ?_)
      · have k10 := s_1_2 hm6
        rewrite [k10.1, ck_t k10.2.1]
        refine bd2_q (qX1_isCovered hm6 k10.2.1) (fun v11 m12 h13 => ?_)
        have hm12 := nX1_isCovered hm6 k10.2.1 ((qX1_isCovered hm6 k10.2.1).symm.trans h13)
        refine if_c (fun hc14 => ?_) (fun hc14 => ?_)
        · refine bd3_q (qX10_wayOf hm12 hg ) (fun v15 g16 m17 h18 => ?_)
          have hm17 := nX10_wayOf hm12 hg  ((qX10_wayOf hm12 hg ).symm.trans h18)
          refine ck_c (fun k19 => ?_)
          exact qX10_way_43 hm17.1.1 hm17.1.2 k19
        · rfl
      · exact qX10_way_21 hm6 hg
theorem nX10_way_0 {g : Shp} {m : Mem} {x1 x2 x3 : Int} (h : Sh g m) (hg : gOk g)  {r : Int} {g' : Shp} {m' : Mem} (hF : ebX10_way_0 x1 x2 x3 g m = some (r, g', m')) : (Sh g' m' ∧ gOk g') ∧ gX g g' := by
  unfold ebX10_way_0 at hF
  obtain ⟨v1, m2, h3, hF⟩ := bd2_ok hF
  have hm2 := nX10_isLine h  h3
  rcases if_ok hF with ⟨hc4, hF⟩ | ⟨hc4, hF⟩
  · exact nX10_way_21 hm2 hg  hF
  · obtain ⟨v5, m6, h7, hF⟩ := bd2_ok hF
    have hm6 := nX10_isColour hm2  h7
    rcases if_ok hF with ⟨hc8, hF⟩ | ⟨hc8, hF⟩
    · exact nX10_way_21 hm6 hg  hF
    · rcases if_ok hF with ⟨hc9, hF⟩ | ⟨hc9, hF⟩
      · have k10 := s_1_2 hm6
        obtain ⟨v11, m12, h13, hF⟩ := bd2_ok hF
        have hm12 := nX1_isCovered hm6 k10.2.1 h13
        rcases if_ok hF with ⟨hc14, hF⟩ | ⟨hc14, hF⟩
        · obtain ⟨v15, g16, m17, h18, hF⟩ := bd3_ok hF
          have hm17 := nX10_wayOf hm12 hg  h18
          obtain ⟨k19, hF⟩ := ck_ok hF
          exact ⟨(nX10_way_43 hm17.1.1 hm17.1.2 k19 hF).1, hm17.2.tr (nX10_way_43 hm17.1.1 hm17.1.2 k19 hF).2⟩
        · cases hF
          exact ⟨⟨hm12, hg⟩, gX.rf _⟩
      · exact nX10_way_21 hm6 hg  hF
theorem qX10_way {x1 x2 x3 : Int} {g : Shp} {m : Mem} (h : Sh g m) (hg : gOk g)  : fX10_way 1 x1 x2 x3 g m = eX10_way x1 x2 x3 g m := qX10_way_0 h hg 
theorem nX10_way {x1 x2 x3 : Int} {g : Shp} {m : Mem} (h : Sh g m) (hg : gOk g)  {r : Int} {g' : Shp} {m' : Mem} (hF : eX10_way x1 x2 x3 g m = some (r, g', m')) : (Sh g' m' ∧ gOk g') ∧ gX g g' := nX10_way_0 h hg  hF
set_option maxRecDepth 20000 in
theorem qX10_best_79 {g : Shp} {m : Mem} {x1 x2 x3 x4 : Int} (h : Sh g m) (hg : gOk g)  : bX10_best_79 1 x1 x2 x3 x4 g m = ebX10_best_79 x1 x2 x3 x4 g m := by
  unfold bX10_best_79 ebX10_best_79
  refine vv_c (fun y1 ey1 => ?_)
  rfl
theorem nX10_best_79 {g : Shp} {m : Mem} {x1 x2 x3 x4 : Int} (h : Sh g m) (hg : gOk g)  {c1 : Int} {s1 : (Int × Int × Int × Shp × Mem)} (hF : ebX10_best_79 x1 x2 x3 x4 g m = some (c1, s1)) : (Sh s1.2.2.2.1 s1.2.2.2.2 ∧ gOk s1.2.2.2.1) ∧ gX g s1.2.2.2.1 := by
  unfold ebX10_best_79 at hF
  obtain ⟨y1, ey1, hF⟩ := vv_ok hF
  cases hF
  exact ⟨⟨h, hg⟩, gX.rf _⟩
set_option maxRecDepth 20000 in
theorem qX10_best_70 {g : Shp} {m : Mem} {x1 x4 x5 : Int} (h : Sh g m) (hg : gOk g) (hx5 : gk g x5 = 10) : bX10_best_70 1 x1 x4 x5 g m = ebX10_best_70 x1 x4 x5 g m := by
  unfold bX10_best_70 ebX10_best_70
  refine vv_c (fun y1 ey1 => ?_)
  exact qX10_best_79 h hg 
theorem nX10_best_70 {g : Shp} {m : Mem} {x1 x4 x5 : Int} (h : Sh g m) (hg : gOk g) (hx5 : gk g x5 = 10) {c1 : Int} {s1 : (Int × Int × Int × Shp × Mem)} (hF : ebX10_best_70 x1 x4 x5 g m = some (c1, s1)) : (Sh s1.2.2.2.1 s1.2.2.2.2 ∧ gOk s1.2.2.2.1) ∧ gX g s1.2.2.2.1 := by
  unfold ebX10_best_70 at hF
  obtain ⟨y1, ey1, hF⟩ := vv_ok hF
  exact nX10_best_79 h hg  hF
set_option maxRecDepth 20000 in
theorem qX10_best_45 {g : Shp} {m : Mem} {x1 x2 x3 x4 z0 : Int} (h : Sh g m) (hg : gOk g) (hz0 : gk g z0 = 10) : bX10_best_45 1 x1 x2 x3 x4 z0 g m = ebX10_best_45 x1 x2 x3 x4 z0 g m := by
  unfold bX10_best_45 ebX10_best_45
  refine if_c (fun hc1 => ?_) (fun hc1 => ?_)
  · exact qX10_best_79 h hg
  · refine if_c (fun hc2 => ?_) (fun hc2 => ?_)
    · exact qX10_best_70 h hg hz0
    · refine if_c (fun hc3 => ?_) (fun hc3 => ?_)
      · exact qX10_best_79 h hg
      · exact qX10_best_70 h hg hz0
theorem nX10_best_45 {g : Shp} {m : Mem} {x1 x2 x3 x4 z0 : Int} (h : Sh g m) (hg : gOk g) (hz0 : gk g z0 = 10) {c1 : Int} {s1 : (Int × Int × Int × Shp × Mem)} (hF : ebX10_best_45 x1 x2 x3 x4 z0 g m = some (c1, s1)) : (Sh s1.2.2.2.1 s1.2.2.2.2 ∧ gOk s1.2.2.2.1) ∧ gX g s1.2.2.2.1 := by
  unfold ebX10_best_45 at hF
  rcases if_ok hF with ⟨hc1, hF⟩ | ⟨hc1, hF⟩
  · exact nX10_best_79 h hg  hF
  · rcases if_ok hF with ⟨hc2, hF⟩ | ⟨hc2, hF⟩
    · exact nX10_best_70 h hg hz0 hF
    · rcases if_ok hF with ⟨hc3, hF⟩ | ⟨hc3, hF⟩
      · exact nX10_best_79 h hg  hF
      · exact nX10_best_70 h hg hz0 hF
set_option maxRecDepth 20000 in
theorem qX10_best_32 {g : Shp} {m : Mem} {x1 x2 x3 x4 : Int} (h : Sh g m) (hg : gOk g)  : bX10_best_32 1 x1 x2 x3 x4 g m = ebX10_best_32 x1 x2 x3 x4 g m := by
  unfold bX10_best_32 ebX10_best_32
  refine if_c (fun hc1 => ?_) (fun hc1 => ?_)
  · rfl
  · refine bd3_q (qX10_wayOf h hg ) (fun v2 g3 m4 h5 => ?_)
    have hm4 := nX10_wayOf h hg  ((qX10_wayOf h hg ).symm.trans h5)
    refine ck_c (fun k6 => ?_)
    exact qX10_best_45 hm4.1.1 hm4.1.2 k6
theorem nX10_best_32 {g : Shp} {m : Mem} {x1 x2 x3 x4 : Int} (h : Sh g m) (hg : gOk g)  {c1 : Int} {s1 : (Int × Int × Int × Shp × Mem)} (hF : ebX10_best_32 x1 x2 x3 x4 g m = some (c1, s1)) : (Sh s1.2.2.2.1 s1.2.2.2.2 ∧ gOk s1.2.2.2.1) ∧ gX g s1.2.2.2.1 := by
  unfold ebX10_best_32 at hF
  rcases if_ok hF with ⟨hc1, hF⟩ | ⟨hc1, hF⟩
  · cases hF
    exact ⟨⟨h, hg⟩, gX.rf _⟩
  · obtain ⟨v2, g3, m4, h5, hF⟩ := bd3_ok hF
    have hm4 := nX10_wayOf h hg  h5
    obtain ⟨k6, hF⟩ := ck_ok hF
    exact ⟨(nX10_best_45 hm4.1.1 hm4.1.2 k6 hF).1, hm4.2.tr (nX10_best_45 hm4.1.1 hm4.1.2 k6 hF).2⟩
theorem nlX10_best_32 {x1 : Int} {n : Nat} {s0 s1 : (Int × Int × Int × Shp × Mem)} {c1 : Int}  (h : Sh s0.2.2.2.1 s0.2.2.2.2) (hg : gOk s0.2.2.2.1) (hI : iter (eBX10_best_32 x1) n s0 = some (c1, s1)) : (Sh s1.2.2.2.1 s1.2.2.2.2 ∧ gOk s1.2.2.2.1) ∧ gX s0.2.2.2.1 s1.2.2.2.1 :=
  iter_inv (B := eBX10_best_32 x1) (fun q => (Sh q.2.2.2.1 q.2.2.2.2 ∧ gOk q.2.2.2.1) ∧ gX s0.2.2.2.1 q.2.2.2.1) (fun s c s' hs hB => by
    have h2 := nX10_best_32 hs.1.1 hs.1.2  hB
    exact ⟨h2.1, hs.2.tr h2.2⟩) n s0 c1 s1 ⟨⟨h, hg⟩, gX.rf _⟩ hI
theorem qlX10_best_32 {x1 : Int} {n : Nat} {s0 : (Int × Int × Int × Shp × Mem)}  (h : Sh s0.2.2.2.1 s0.2.2.2.2) (hg : gOk s0.2.2.2.1) : iter (BX10_best_32 1 x1) n s0 = iter (eBX10_best_32 x1) n s0 :=
  iter_eq (B := BX10_best_32 1 x1) (E := eBX10_best_32 x1) (fun q => (Sh q.2.2.2.1 q.2.2.2.2 ∧ gOk q.2.2.2.1) ∧ gX s0.2.2.2.1 q.2.2.2.1) (fun s hs => qX10_best_32 hs.1.1 hs.1.2 ) (fun s c s' hs hB => by
    have h2 := nX10_best_32 hs.1.1 hs.1.2  ((qX10_best_32 hs.1.1 hs.1.2 ).symm.trans hB)
    exact ⟨h2.1, hs.2.tr h2.2⟩) n s0 ⟨⟨h, hg⟩, gX.rf _⟩
set_option maxRecDepth 20000 in
theorem qX10_best_85 {g : Shp} {m : Mem} {x2 : Int} (h : Sh g m) (hg : gOk g)  : bX10_best_85 x2 g m = ebX10_best_85 x2 g m := by
  unfold bX10_best_85 ebX10_best_85
  rfl
theorem nX10_best_85 {g : Shp} {m : Mem} {x2 : Int} (h : Sh g m) (hg : gOk g)  {r : Int} {g' : Shp} {m' : Mem} (hF : ebX10_best_85 x2 g m = some (r, g', m')) : (Sh g' m' ∧ gOk g') ∧ gX g g' := by
  unfold ebX10_best_85 at hF
  cases hF
  exact ⟨⟨h, hg⟩, gX.rf _⟩
set_option maxRecDepth 20000 in
theorem qX10_best_0 {g : Shp} {m : Mem} {x1 : Int} (h : Sh g m) (hg : gOk g)  : bX10_best_0 1 x1 g m = ebX10_best_0 x1 g m := by
  unfold bX10_best_0 ebX10_best_0
  refine bd2_q (qX10_isLine h ) (fun v1 m2 h3 => ?_)
  have hm2 := nX10_isLine h  ((qX10_isLine h ).symm.trans h3)
  refine if_c (fun hc4 => ?_) (fun hc4 => ?_)
  · rfl
  · have k5 := s_1_2 hm2
    rewrite [k5.1, ck_t k5.2.1]
    refine bd2_q (qX1_isCovered hm2 k5.2.1) (fun v6 m7 h8 => ?_)
    have hm7 := nX1_isCovered hm2 k5.2.1 ((qX1_isCovered hm2 k5.2.1).symm.trans h8)
    refine if_c (fun hc9 => ?_) (fun hc9 => ?_)
    · refine bdl_q (qlX10_best_32 (n := 100000) (s0 := ((-4), 0, 0, g, m7))  hm7 hg) (fun cv10 sv11 hi12 => ?_)
      have h13 := nlX10_best_32 (s0 := ((-4), 0, 0, g, m7))  hm7 hg ((qlX10_best_32 (n := 100000) (s0 := ((-4), 0, 0, g, m7))  hm7 hg).symm.trans hi12)
      exact qX10_best_85 h13.1.1 h13.1.2 
    · rfl
theorem nX10_best_0 {g : Shp} {m : Mem} {x1 : Int} (h : Sh g m) (hg : gOk g)  {r : Int} {g' : Shp} {m' : Mem} (hF : ebX10_best_0 x1 g m = some (r, g', m')) : (Sh g' m' ∧ gOk g') ∧ gX g g' := by
  unfold ebX10_best_0 at hF
  obtain ⟨v1, m2, h3, hF⟩ := bd2_ok hF
  have hm2 := nX10_isLine h  h3
  rcases if_ok hF with ⟨hc4, hF⟩ | ⟨hc4, hF⟩
  · cases hF
    exact ⟨⟨hm2, hg⟩, gX.rf _⟩
  · have k5 := s_1_2 hm2
    obtain ⟨v6, m7, h8, hF⟩ := bd2_ok hF
    have hm7 := nX1_isCovered hm2 k5.2.1 h8
    rcases if_ok hF with ⟨hc9, hF⟩ | ⟨hc9, hF⟩
    · obtain ⟨cv10, sv11, hi12, hF⟩ := bdl_ok hF
      have h13 := nlX10_best_32 (s0 := ((-4), 0, 0, g, m7))  hm7 hg hi12
      exact ⟨(nX10_best_85 h13.1.1 h13.1.2  hF).1, h13.2.tr (nX10_best_85 h13.1.1 h13.1.2  hF).2⟩
    · cases hF
      exact ⟨⟨hm7, hg⟩, gX.rf _⟩
theorem qX10_best {x1 : Int} {g : Shp} {m : Mem} (h : Sh g m) (hg : gOk g)  : fX10_best 1 x1 g m = eX10_best x1 g m := qX10_best_0 h hg 
theorem nX10_best {x1 : Int} {g : Shp} {m : Mem} (h : Sh g m) (hg : gOk g)  {r : Int} {g' : Shp} {m' : Mem} (hF : eX10_best x1 g m = some (r, g', m')) : (Sh g' m' ∧ gOk g') ∧ gX g g' := nX10_best_0 h hg  hF
set_option maxRecDepth 20000 in
theorem qX10_cover_15 {g : Shp} {m : Mem} (h : Sh g m) (hg : gOk g)  : bX10_cover_15 g m = ebX10_cover_15 g m := by
  unfold bX10_cover_15 ebX10_cover_15
  rfl
theorem nX10_cover_15 {g : Shp} {m : Mem} (h : Sh g m) (hg : gOk g)  {r : Int} {g' : Shp} {m' : Mem} (hF : ebX10_cover_15 g m = some (r, g', m')) : (Sh g' m' ∧ gOk g') ∧ gX g g' := by
  unfold ebX10_cover_15 at hF
  cases hF
  exact ⟨⟨h, hg⟩, gX.rf _⟩
set_option maxRecDepth 20000 in
theorem qX10_cover_37 {g : Shp} {m : Mem} {x1 x2 z0 : Int} (h : Sh g m) (hg : gOk g) (hz0 : gk g z0 = 10) : bX10_cover_37 1 x1 x2 z0 g m = ebX10_cover_37 x1 x2 z0 g m := by
  unfold bX10_cover_37 ebX10_cover_37
  refine if_c (fun hc1 => ?_) (fun hc1 => ?_)
  · rfl
  · refine bd2_q (qX10_beginChange h ) (fun v2 m3 h4 => ?_)
    have hm3 := nX10_beginChange h  ((qX10_beginChange h ).symm.trans h4)
    have k5 := s_1_2 hm3
    rewrite [k5.1, ck_t k5.2.1]
    have k6 := hm3.2.2.1.1
    rewrite [ck_t k6]
    have k7 := u8_2 hm3 (r := m3 1 6) (q := m3 1 6 + 3) k6 rfl
    rewrite [k7.1, ck_t k7.2.1]
    try rewrite [al25 hm3 k7.2.1]
    refine ck_c (fun i8 => ?_)
    have k9 := a25 hm3 (r := m3 1 6 + 3) (i := x1) k7.2.1 i8 rfl
    try rewrite [k9.1]
    rewrite [ck_t k9.2]
    refine bd2_q (qX1_putDown hm3 k5.2.1 k9.2 hz0) (fun v10 m11 h12 => ?_)
    have hm11 := nX1_putDown hm3 k5.2.1 k9.2 hz0 ((qX1_putDown hm3 k5.2.1 k9.2 hz0).symm.trans h12)
    rfl
theorem nX10_cover_37 {g : Shp} {m : Mem} {x1 x2 z0 : Int} (h : Sh g m) (hg : gOk g) (hz0 : gk g z0 = 10) {r : Int} {g' : Shp} {m' : Mem} (hF : ebX10_cover_37 x1 x2 z0 g m = some (r, g', m')) : (Sh g' m' ∧ gOk g') ∧ gX g g' := by
  unfold ebX10_cover_37 at hF
  rcases if_ok hF with ⟨hc1, hF⟩ | ⟨hc1, hF⟩
  · cases hF
    exact ⟨⟨h, hg⟩, gX.rf _⟩
  · obtain ⟨v2, m3, h4, hF⟩ := bd2_ok hF
    have hm3 := nX10_beginChange h  h4
    have k5 := s_1_2 hm3
    have k6 := hm3.2.2.1.1
    have k7 := u8_2 hm3 (r := m3 1 6) (q := m3 1 6 + 3) k6 rfl
    obtain ⟨i8, hF⟩ := ck_ok hF
    have k9 := a25 hm3 (r := m3 1 6 + 3) (i := x1) k7.2.1 i8 rfl
    obtain ⟨v10, m11, h12, hF⟩ := bd2_ok hF
    have hm11 := nX1_putDown hm3 k5.2.1 k9.2 hz0 h12
    cases hF
    exact ⟨⟨hm11, hg⟩, gX.rf _⟩
set_option maxRecDepth 20000 in
theorem qX10_cover_0 {g : Shp} {m : Mem} {x1 x2 : Int} (h : Sh g m) (hg : gOk g)  : bX10_cover_0 1 x1 x2 g m = ebX10_cover_0 x1 x2 g m := by
  unfold bX10_cover_0 ebX10_cover_0
  refine bd2_q (qX10_isLine h ) (fun v1 m2 h3 => ?_)
  have hm2 := nX10_isLine h  ((qX10_isLine h ).symm.trans h3)
  refine if_c (fun hc4 => ?_) (fun hc4 => ?_)
  · exact qX10_cover_15 hm2 hg
  · refine bd2_q (qX10_isColour hm2 ) (fun v5 m6 h7 => ?_)
    have hm6 := nX10_isColour hm2  ((qX10_isColour hm2 ).symm.trans h7)
    refine if_c (fun hc8 => ?_) (fun hc8 => ?_)
    · exact qX10_cover_15 hm6 hg
    · have k9 := s_1_2 hm6
      rewrite [k9.1, ck_t k9.2.1]
      refine bd2_q (qX1_isCovered hm6 k9.2.1) (fun v10 m11 h12 => ?_)
      have hm11 := nX1_isCovered hm6 k9.2.1 ((qX1_isCovered hm6 k9.2.1).symm.trans h12)
      refine if_c (fun hc13 => ?_) (fun hc13 => ?_)
      · refine bd3_q (qX10_wayOf hm11 hg ) (fun v14 g15 m16 h17 => ?_)
        have hm16 := nX10_wayOf hm11 hg  ((qX10_wayOf hm11 hg ).symm.trans h17)
        refine ck_c (fun k18 => ?_)
        exact qX10_cover_37 hm16.1.1 hm16.1.2 k18
      · rfl
theorem nX10_cover_0 {g : Shp} {m : Mem} {x1 x2 : Int} (h : Sh g m) (hg : gOk g)  {r : Int} {g' : Shp} {m' : Mem} (hF : ebX10_cover_0 x1 x2 g m = some (r, g', m')) : (Sh g' m' ∧ gOk g') ∧ gX g g' := by
  unfold ebX10_cover_0 at hF
  obtain ⟨v1, m2, h3, hF⟩ := bd2_ok hF
  have hm2 := nX10_isLine h  h3
  rcases if_ok hF with ⟨hc4, hF⟩ | ⟨hc4, hF⟩
  · exact nX10_cover_15 hm2 hg  hF
  · obtain ⟨v5, m6, h7, hF⟩ := bd2_ok hF
    have hm6 := nX10_isColour hm2  h7
    rcases if_ok hF with ⟨hc8, hF⟩ | ⟨hc8, hF⟩
    · exact nX10_cover_15 hm6 hg  hF
    · have k9 := s_1_2 hm6
      obtain ⟨v10, m11, h12, hF⟩ := bd2_ok hF
      have hm11 := nX1_isCovered hm6 k9.2.1 h12
      rcases if_ok hF with ⟨hc13, hF⟩ | ⟨hc13, hF⟩
      · obtain ⟨v14, g15, m16, h17, hF⟩ := bd3_ok hF
        have hm16 := nX10_wayOf hm11 hg  h17
        obtain ⟨k18, hF⟩ := ck_ok hF
        exact ⟨(nX10_cover_37 hm16.1.1 hm16.1.2 k18 hF).1, hm16.2.tr (nX10_cover_37 hm16.1.1 hm16.1.2 k18 hF).2⟩
      · cases hF
        exact ⟨⟨hm11, hg⟩, gX.rf _⟩
theorem qX10_cover {x1 x2 : Int} {g : Shp} {m : Mem} (h : Sh g m) (hg : gOk g)  : fX10_cover 1 x1 x2 g m = eX10_cover x1 x2 g m := qX10_cover_0 h hg 
theorem nX10_cover {x1 x2 : Int} {g : Shp} {m : Mem} (h : Sh g m) (hg : gOk g)  {r : Int} {g' : Shp} {m' : Mem} (hF : eX10_cover x1 x2 g m = some (r, g', m')) : (Sh g' m' ∧ gOk g') ∧ gX g g' := nX10_cover_0 h hg  hF
set_option maxRecDepth 20000 in
theorem qX10_searchOrders_190 {fr : Int → Int → Int → Int → Shp → Mem → Option (Int × Shp × Mem)} {er : Int → Int → Int → Shp → Mem → Option (Int × Shp × Mem)} (hrq : ∀ {x1 x2 x3 : Int} {g : Shp} {m : Mem}, Sh g m → gOk g → gk g x2 = 2 → fr 1 x1 x2 x3 g m = er x1 x2 x3 g m) (hrn : ∀ {x1 x2 x3 : Int} {g : Shp} {m : Mem} {r : Int} {g' : Shp} {m' : Mem}, Sh g m → gOk g → gk g x2 = 2 → er x1 x2 x3 g m = some (r, g', m') → (Sh g' m' ∧ gOk g') ∧ gX g g') {g : Shp} {m : Mem} {x1 x2 x3 x4 x5 : Int} (h : Sh g m) (hg : gOk g) (hx2 : gk g x2 = 2) : bX10_searchOrders_190 fr 1 x1 x2 x3 x4 x5 g m = ebX10_searchOrders_190 er x1 x2 x3 x4 x5 g m := by
  unfold bX10_searchOrders_190 ebX10_searchOrders_190
  refine vv_c (fun y1 ey1 => ?_)
  rfl
theorem nX10_searchOrders_190 {er : Int → Int → Int → Shp → Mem → Option (Int × Shp × Mem)} (hrn : ∀ {x1 x2 x3 : Int} {g : Shp} {m : Mem} {r : Int} {g' : Shp} {m' : Mem}, Sh g m → gOk g → gk g x2 = 2 → er x1 x2 x3 g m = some (r, g', m') → (Sh g' m' ∧ gOk g') ∧ gX g g') {g : Shp} {m : Mem} {x1 x2 x3 x4 x5 : Int} (h : Sh g m) (hg : gOk g) (hx2 : gk g x2 = 2) {c1 : Int} {s1 : (Int × Int × Shp × Mem)} (hF : ebX10_searchOrders_190 er x1 x2 x3 x4 x5 g m = some (c1, s1)) : (Sh s1.2.2.1 s1.2.2.2 ∧ gOk s1.2.2.1) ∧ gX g s1.2.2.1 := by
  unfold ebX10_searchOrders_190 at hF
  obtain ⟨y1, ey1, hF⟩ := vv_ok hF
  cases hF
  exact ⟨⟨h, hg⟩, gX.rf _⟩
set_option maxRecDepth 20000 in
theorem qX10_searchOrders_91 {fr : Int → Int → Int → Int → Shp → Mem → Option (Int × Shp × Mem)} {er : Int → Int → Int → Shp → Mem → Option (Int × Shp × Mem)} (hrq : ∀ {x1 x2 x3 : Int} {g : Shp} {m : Mem}, Sh g m → gOk g → gk g x2 = 2 → fr 1 x1 x2 x3 g m = er x1 x2 x3 g m) (hrn : ∀ {x1 x2 x3 : Int} {g : Shp} {m : Mem} {r : Int} {g' : Shp} {m' : Mem}, Sh g m → gOk g → gk g x2 = 2 → er x1 x2 x3 g m = some (r, g', m') → (Sh g' m' ∧ gOk g') ∧ gX g g') {g : Shp} {m : Mem} {x1 x2 x3 x4 x5 x6 x7 : Int} (h : Sh g m) (hg : gOk g) (hx2 : gk g x2 = 2) (hx6 : gk g x6 = 6) (hx7 : gk g x7 = 10) : bX10_searchOrders_91 fr 1 x1 x2 x3 x4 x5 x6 x7 g m = ebX10_searchOrders_91 er x1 x2 x3 x4 x5 x6 x7 g m := by
  unfold bX10_searchOrders_91 ebX10_searchOrders_91
  refine vv_c (fun y1 ey1 => ?_)
  refine if_c (fun hc2 => ?_) (fun hc2 => ?_)
  · exact qX10_searchOrders_190 hrq hrn h hg hx2
  · have k3 := s_1_4 h
    rewrite [k3.1, ck_t k3.2.1]
    refine bd2_q (qX3_isFewer h ) (fun v4 m5 h6 => ?_)
    have hm5 := nX3_isFewer h  ((qX3_isFewer h ).symm.trans h6)
    refine if_c (fun hc7 => ?_) (fun hc7 => ?_)
    · exact qX10_searchOrders_190 hrq hrn hm5 hg hx2
    · have k8 := s_1_4 hm5
      rewrite [k8.1, ck_t k8.2.1]
      have k9 := s_143_3 hm5
      rewrite [k9.1, ck_t k9.2.1]
      try rewrite [k9.2.2]
      refine ck_c (fun i10 => ?_)
      have k11 := a23l hm5 k9.2.1 (k9.2.2) i10
      rewrite [ck_t k11]
      refine bd2_q (qX1_copy hm5 k11 hx2) (fun v12 m13 h14 => ?_)
      have hm13 := nX1_copy hm5 k11 hx2 ((qX1_copy hm5 k11 hx2).symm.trans h14)
      have k15 := s_1_4 hm13
      rewrite [k15.1, ck_t k15.2.1]
      have k16 := s_143_3 hm13
      rewrite [k16.1, ck_t k16.2.1]
      try rewrite [k16.2.2]
      refine ck_c (fun i17 => ?_)
      have k18 := a23l hm13 k16.2.1 (k16.2.2) i17
      rewrite [ck_t k18]
      have k19 := s_1_4 hm13
      have k20 := s_143_0 hm13
      rewrite [k20.1, ck_t k20.2.1]
      try rewrite [k20.2.2]
      refine ck_c (fun i21 => ?_)
      refine bd2_q (qX1_putDown hm13 k18 hx6 hx7) (fun v22 m23 h24 => ?_)
      have hm23 := nX1_putDown hm13 k18 hx6 hx7 ((qX1_putDown hm13 k18 hx6 hx7).symm.trans h24)
      have k25 := s_1_4 hm23
      rewrite [k25.1, ck_t k25.2.1]
      have k26 := s_143_1 hm23
      rewrite [k26.1, ck_t k26.2.1]
      try rewrite [k26.2.2]
      refine ck_c (fun i27 => ?_)
      refine vm_c (fun m28 em28 => ?_)
      have hm28 := hm23.s em28 (nRa k26.2.1 (by decide))
      have k29 := s_1_4 hm28
      rewrite [k29.1, ck_t k29.2.1]
      have k30 := s_143_3 hm28
      rewrite [k30.1, ck_t k30.2.1]
      try rewrite [k30.2.2]
      refine ck_c (fun i31 => ?_)
      have k32 := a23l hm28 k30.2.1 (k30.2.2) i31
      rewrite [ck_t k32]
      refine bd3_q (hrq hm28 hg k32) (fun v33 g34 m35 h36 => ?_)
      have hm35 := hrn hm28 hg k32 ((hrq hm28 hg k32).symm.trans h36)
      exact qX10_searchOrders_190 hrq hrn hm35.1.1 hm35.1.2 (hm35.2.k hx2 (by decide))
theorem nX10_searchOrders_91 {er : Int → Int → Int → Shp → Mem → Option (Int × Shp × Mem)} (hrn : ∀ {x1 x2 x3 : Int} {g : Shp} {m : Mem} {r : Int} {g' : Shp} {m' : Mem}, Sh g m → gOk g → gk g x2 = 2 → er x1 x2 x3 g m = some (r, g', m') → (Sh g' m' ∧ gOk g') ∧ gX g g') {g : Shp} {m : Mem} {x1 x2 x3 x4 x5 x6 x7 : Int} (h : Sh g m) (hg : gOk g) (hx2 : gk g x2 = 2) (hx6 : gk g x6 = 6) (hx7 : gk g x7 = 10) {c1 : Int} {s1 : (Int × Int × Shp × Mem)} (hF : ebX10_searchOrders_91 er x1 x2 x3 x4 x5 x6 x7 g m = some (c1, s1)) : (Sh s1.2.2.1 s1.2.2.2 ∧ gOk s1.2.2.1) ∧ gX g s1.2.2.1 := by
  unfold ebX10_searchOrders_91 at hF
  obtain ⟨y1, ey1, hF⟩ := vv_ok hF
  rcases if_ok hF with ⟨hc2, hF⟩ | ⟨hc2, hF⟩
  · exact nX10_searchOrders_190 hrn h hg hx2 hF
  · have k3 := s_1_4 h
    obtain ⟨v4, m5, h6, hF⟩ := bd2_ok hF
    have hm5 := nX3_isFewer h  h6
    rcases if_ok hF with ⟨hc7, hF⟩ | ⟨hc7, hF⟩
    · exact nX10_searchOrders_190 hrn hm5 hg hx2 hF
    · have k8 := s_1_4 hm5
      have k9 := s_143_3 hm5
      obtain ⟨i10, hF⟩ := ck_ok hF
      have k11 := a23l hm5 k9.2.1 (k9.2.2) i10
      obtain ⟨v12, m13, h14, hF⟩ := bd2_ok hF
      have hm13 := nX1_copy hm5 k11 hx2 h14
      have k15 := s_1_4 hm13
      have k16 := s_143_3 hm13
      obtain ⟨i17, hF⟩ := ck_ok hF
      have k18 := a23l hm13 k16.2.1 (k16.2.2) i17
      have k19 := s_1_4 hm13
      have k20 := s_143_0 hm13
      obtain ⟨i21, hF⟩ := ck_ok hF
      obtain ⟨v22, m23, h24, hF⟩ := bd2_ok hF
      have hm23 := nX1_putDown hm13 k18 hx6 hx7 h24
      have k25 := s_1_4 hm23
      have k26 := s_143_1 hm23
      obtain ⟨i27, hF⟩ := ck_ok hF
      obtain ⟨m28, em28, hF⟩ := vm_ok hF
      have hm28 := hm23.s em28 (nRa k26.2.1 (by decide))
      have k29 := s_1_4 hm28
      have k30 := s_143_3 hm28
      obtain ⟨i31, hF⟩ := ck_ok hF
      have k32 := a23l hm28 k30.2.1 (k30.2.2) i31
      obtain ⟨v33, g34, m35, h36, hF⟩ := bd3_ok hF
      have hm35 := hrn hm28 hg k32 h36
      exact ⟨(nX10_searchOrders_190 hrn hm35.1.1 hm35.1.2 (hm35.2.k hx2 (by decide)) hF).1, hm35.2.tr (nX10_searchOrders_190 hrn hm35.1.1 hm35.1.2 (hm35.2.k hx2 (by decide)) hF).2⟩
set_option maxRecDepth 20000 in
theorem qX10_searchOrders_6 {fr : Int → Int → Int → Int → Shp → Mem → Option (Int × Shp × Mem)} {er : Int → Int → Int → Shp → Mem → Option (Int × Shp × Mem)} (hrq : ∀ {x1 x2 x3 : Int} {g : Shp} {m : Mem}, Sh g m → gOk g → gk g x2 = 2 → fr 1 x1 x2 x3 g m = er x1 x2 x3 g m) (hrn : ∀ {x1 x2 x3 : Int} {g : Shp} {m : Mem} {r : Int} {g' : Shp} {m' : Mem}, Sh g m → gOk g → gk g x2 = 2 → er x1 x2 x3 g m = some (r, g', m') → (Sh g' m' ∧ gOk g') ∧ gX g g') {g : Shp} {m : Mem} {x1 x2 x3 x4 x5 : Int} (h : Sh g m) (hg : gOk g) (hx2 : gk g x2 = 2) : bX10_searchOrders_6 fr 1 x1 x2 x3 x4 x5 g m = ebX10_searchOrders_6 er x1 x2 x3 x4 x5 g m := by
  unfold bX10_searchOrders_6 ebX10_searchOrders_6
  have k1 := h.2.2.1.1
  rewrite [ck_t k1]
  refine if_c (fun hc2 => ?_) (fun hc2 => ?_)
  · rfl
  · refine bd2_q (qX1_isCovered h hx2) (fun v3 m4 h5 => ?_)
    have hm4 := nX1_isCovered h hx2 ((qX1_isCovered h hx2).symm.trans h5)
    refine if_c (fun hc6 => ?_) (fun hc6 => ?_)
    · refine vv_c (fun y7 ey7 => ?_)
      refine if_c (fun hc8 => ?_) (fun hc8 => ?_)
      · have k9 := hm4.2.2.1.1
        rewrite [ck_t k9]
        have k10 := u8_2 hm4 (r := m4 1 6) (q := m4 1 6 + 3) k9 rfl
        rewrite [k10.1, ck_t k10.2.1]
        try rewrite [al25 hm4 k10.2.1]
        refine ck_c (fun i11 => ?_)
        have k12 := a25 hm4 (r := m4 1 6 + 3) (i := x5) k10.2.1 i11 rfl
        try rewrite [k12.1]
        rewrite [ck_t k12.2]
        refine vv_k (fun y13 ey13 => ?_)
        subst ey13
        have k14 := s_1_4 hm4
        rewrite [k14.1, ck_t k14.2.1]
        have k15 := s_143_4 hm4
        rewrite [k15.1, ck_t k15.2.1]
        refine vv_k (fun y16 ey16 => ?_)
        subst ey16
        have k17 := s_1_1 hm4
        rewrite [k17.1, ck_t k17.2.1]
        have k18 := hm4.2.2.1.1
        have k19 := u8_0 hm4 (r := m4 1 6) (q := m4 1 6 + 1) k18 rfl
        rewrite [k19.1, ck_t k19.2.1]
        have k20 := s_1_4 hm4
        have k21 := s_143_0 hm4
        rewrite [k21.1, ck_t k21.2.1]
        try rewrite [k21.2.2]
        refine ck_c (fun i22 => ?_)
        refine bd3_q (qX0_find hm4 hg k12.2 k19.2.1 hx2 k15.2.1) (fun v23 g24 m25 h26 => ?_)
        have hm25 := nX0_find hm4 hg k12.2 k19.2.1 hx2 k15.2.1 ((qX0_find hm4 hg k12.2 k19.2.1 hx2 k15.2.1).symm.trans h26)
        exact qX10_searchOrders_91 hrq hrn hm25.1.1 hm25.1.2 (hm25.2.k hx2 (by decide)) (hm25.2.k k12.2 (by decide)) (hm25.2.k k15.2.1 (by decide))
      · exact qX10_searchOrders_190 hrq hrn hm4 hg hx2
    · exact qX10_searchOrders_190 hrq hrn hm4 hg hx2
theorem nX10_searchOrders_6 {er : Int → Int → Int → Shp → Mem → Option (Int × Shp × Mem)} (hrn : ∀ {x1 x2 x3 : Int} {g : Shp} {m : Mem} {r : Int} {g' : Shp} {m' : Mem}, Sh g m → gOk g → gk g x2 = 2 → er x1 x2 x3 g m = some (r, g', m') → (Sh g' m' ∧ gOk g') ∧ gX g g') {g : Shp} {m : Mem} {x1 x2 x3 x4 x5 : Int} (h : Sh g m) (hg : gOk g) (hx2 : gk g x2 = 2) {c1 : Int} {s1 : (Int × Int × Shp × Mem)} (hF : ebX10_searchOrders_6 er x1 x2 x3 x4 x5 g m = some (c1, s1)) : (Sh s1.2.2.1 s1.2.2.2 ∧ gOk s1.2.2.1) ∧ gX g s1.2.2.1 := by
  unfold ebX10_searchOrders_6 at hF
  have k1 := h.2.2.1.1
  rcases if_ok hF with ⟨hc2, hF⟩ | ⟨hc2, hF⟩
  · cases hF
    exact ⟨⟨h, hg⟩, gX.rf _⟩
  · obtain ⟨v3, m4, h5, hF⟩ := bd2_ok hF
    have hm4 := nX1_isCovered h hx2 h5
    rcases if_ok hF with ⟨hc6, hF⟩ | ⟨hc6, hF⟩
    · obtain ⟨y7, ey7, hF⟩ := vv_ok hF
      rcases if_ok hF with ⟨hc8, hF⟩ | ⟨hc8, hF⟩
      · have k9 := hm4.2.2.1.1
        have k10 := u8_2 hm4 (r := m4 1 6) (q := m4 1 6 + 3) k9 rfl
        obtain ⟨i11, hF⟩ := ck_ok hF
        have k12 := a25 hm4 (r := m4 1 6 + 3) (i := x5) k10.2.1 i11 rfl
        have k14 := s_1_4 hm4
        have k15 := s_143_4 hm4
        have k17 := s_1_1 hm4
        have k18 := hm4.2.2.1.1
        have k19 := u8_0 hm4 (r := m4 1 6) (q := m4 1 6 + 1) k18 rfl
        have k20 := s_1_4 hm4
        have k21 := s_143_0 hm4
        obtain ⟨i22, hF⟩ := ck_ok hF
        obtain ⟨v23, g24, m25, h26, hF⟩ := bd3_ok hF
        have hm25 := nX0_find hm4 hg k12.2 k19.2.1 hx2 k15.2.1 h26
        exact ⟨(nX10_searchOrders_91 hrn hm25.1.1 hm25.1.2 (hm25.2.k hx2 (by decide)) (hm25.2.k k12.2 (by decide)) (hm25.2.k k15.2.1 (by decide)) hF).1, hm25.2.tr (nX10_searchOrders_91 hrn hm25.1.1 hm25.1.2 (hm25.2.k hx2 (by decide)) (hm25.2.k k12.2 (by decide)) (hm25.2.k k15.2.1 (by decide)) hF).2⟩
      · exact nX10_searchOrders_190 hrn hm4 hg hx2 hF
    · exact nX10_searchOrders_190 hrn hm4 hg hx2 hF
theorem nlX10_searchOrders_6 {er : Int → Int → Int → Shp → Mem → Option (Int × Shp × Mem)} (hrn : ∀ {x1 x2 x3 : Int} {g : Shp} {m : Mem} {r : Int} {g' : Shp} {m' : Mem}, Sh g m → gOk g → gk g x2 = 2 → er x1 x2 x3 g m = some (r, g', m') → (Sh g' m' ∧ gOk g') ∧ gX g g') {x1 x2 x3 : Int} {n : Nat} {s0 s1 : (Int × Int × Shp × Mem)} {c1 : Int} (hx2 : gk s0.2.2.1 x2 = 2) (h : Sh s0.2.2.1 s0.2.2.2) (hg : gOk s0.2.2.1) (hI : iter (eBX10_searchOrders_6 er x1 x2 x3) n s0 = some (c1, s1)) : (Sh s1.2.2.1 s1.2.2.2 ∧ gOk s1.2.2.1) ∧ gX s0.2.2.1 s1.2.2.1 :=
  iter_inv (B := eBX10_searchOrders_6 er x1 x2 x3) (fun q => (Sh q.2.2.1 q.2.2.2 ∧ gOk q.2.2.1) ∧ gX s0.2.2.1 q.2.2.1) (fun s c s' hs hB => by
    have h2 := nX10_searchOrders_6 hrn hs.1.1 hs.1.2 (hs.2.k hx2 (by decide)) hB
    exact ⟨h2.1, hs.2.tr h2.2⟩) n s0 c1 s1 ⟨⟨h, hg⟩, gX.rf _⟩ hI
theorem qlX10_searchOrders_6 {fr : Int → Int → Int → Int → Shp → Mem → Option (Int × Shp × Mem)} {er : Int → Int → Int → Shp → Mem → Option (Int × Shp × Mem)} (hrq : ∀ {x1 x2 x3 : Int} {g : Shp} {m : Mem}, Sh g m → gOk g → gk g x2 = 2 → fr 1 x1 x2 x3 g m = er x1 x2 x3 g m) (hrn : ∀ {x1 x2 x3 : Int} {g : Shp} {m : Mem} {r : Int} {g' : Shp} {m' : Mem}, Sh g m → gOk g → gk g x2 = 2 → er x1 x2 x3 g m = some (r, g', m') → (Sh g' m' ∧ gOk g') ∧ gX g g') {x1 x2 x3 : Int} {n : Nat} {s0 : (Int × Int × Shp × Mem)} (hx2 : gk s0.2.2.1 x2 = 2) (h : Sh s0.2.2.1 s0.2.2.2) (hg : gOk s0.2.2.1) : iter (BX10_searchOrders_6 fr 1 x1 x2 x3) n s0 = iter (eBX10_searchOrders_6 er x1 x2 x3) n s0 :=
  iter_eq (B := BX10_searchOrders_6 fr 1 x1 x2 x3) (E := eBX10_searchOrders_6 er x1 x2 x3) (fun q => (Sh q.2.2.1 q.2.2.2 ∧ gOk q.2.2.1) ∧ gX s0.2.2.1 q.2.2.1) (fun s hs => qX10_searchOrders_6 hrq hrn hs.1.1 hs.1.2 (hs.2.k hx2 (by decide))) (fun s c s' hs hB => by
    have h2 := nX10_searchOrders_6 hrn hs.1.1 hs.1.2 (hs.2.k hx2 (by decide)) ((qX10_searchOrders_6 hrq hrn hs.1.1 hs.1.2 (hs.2.k hx2 (by decide))).symm.trans hB)
    exact ⟨h2.1, hs.2.tr h2.2⟩) n s0 ⟨⟨h, hg⟩, gX.rf _⟩
set_option maxRecDepth 20000 in
theorem qX10_searchOrders_221 {fr : Int → Int → Int → Int → Shp → Mem → Option (Int × Shp × Mem)} {er : Int → Int → Int → Shp → Mem → Option (Int × Shp × Mem)} (hrq : ∀ {x1 x2 x3 : Int} {g : Shp} {m : Mem}, Sh g m → gOk g → gk g x2 = 2 → fr 1 x1 x2 x3 g m = er x1 x2 x3 g m) (hrn : ∀ {x1 x2 x3 : Int} {g : Shp} {m : Mem} {r : Int} {g' : Shp} {m' : Mem}, Sh g m → gOk g → gk g x2 = 2 → er x1 x2 x3 g m = some (r, g', m') → (Sh g' m' ∧ gOk g') ∧ gX g g') {g : Shp} {m : Mem} (h : Sh g m) (hg : gOk g)  : bX10_searchOrders_221 fr g m = ebX10_searchOrders_221 er g m := by
  unfold bX10_searchOrders_221 ebX10_searchOrders_221
  rfl
theorem nX10_searchOrders_221 {er : Int → Int → Int → Shp → Mem → Option (Int × Shp × Mem)} (hrn : ∀ {x1 x2 x3 : Int} {g : Shp} {m : Mem} {r : Int} {g' : Shp} {m' : Mem}, Sh g m → gOk g → gk g x2 = 2 → er x1 x2 x3 g m = some (r, g', m') → (Sh g' m' ∧ gOk g') ∧ gX g g') {g : Shp} {m : Mem} (h : Sh g m) (hg : gOk g)  {r : Int} {g' : Shp} {m' : Mem} (hF : ebX10_searchOrders_221 er g m = some (r, g', m')) : (Sh g' m' ∧ gOk g') ∧ gX g g' := by
  unfold ebX10_searchOrders_221 at hF
  cases hF
  exact ⟨⟨h, hg⟩, gX.rf _⟩
set_option maxRecDepth 20000 in
theorem qX10_searchOrders_196 {fr : Int → Int → Int → Int → Shp → Mem → Option (Int × Shp × Mem)} {er : Int → Int → Int → Shp → Mem → Option (Int × Shp × Mem)} (hrq : ∀ {x1 x2 x3 : Int} {g : Shp} {m : Mem}, Sh g m → gOk g → gk g x2 = 2 → fr 1 x1 x2 x3 g m = er x1 x2 x3 g m) (hrn : ∀ {x1 x2 x3 : Int} {g : Shp} {m : Mem} {r : Int} {g' : Shp} {m' : Mem}, Sh g m → gOk g → gk g x2 = 2 → er x1 x2 x3 g m = some (r, g', m') → (Sh g' m' ∧ gOk g') ∧ gX g g') {g : Shp} {m : Mem} {x1 x3 x4 : Int} (h : Sh g m) (hg : gOk g)  : bX10_searchOrders_196 fr 1 x1 x3 x4 g m = ebX10_searchOrders_196 er x1 x3 x4 g m := by
  unfold bX10_searchOrders_196 ebX10_searchOrders_196
  refine if_c (fun hc1 => ?_) (fun hc1 => ?_)
  · have k2 := s_1_4 h
    rewrite [k2.1, ck_t k2.2.1]
    refine bd2_q (qX3_isFewer h ) (fun v3 m4 h5 => ?_)
    have hm4 := nX3_isFewer h  ((qX3_isFewer h ).symm.trans h5)
    refine if_c (fun hc6 => ?_) (fun hc6 => ?_)
    · exact qX10_searchOrders_221 hrq hrn hm4 hg
    · have k7 := s_1_4 hm4
      rewrite [k7.1, ck_t k7.2.1]
      refine bd2_q (qX3_keepTrial hm4 ) (fun v8 m9 h10 => ?_)
      have hm9 := nX3_keepTrial hm4  ((qX3_keepTrial hm4 ).symm.trans h10)
      exact qX10_searchOrders_221 hrq hrn hm9 hg 
  · exact qX10_searchOrders_221 hrq hrn h hg
theorem nX10_searchOrders_196 {er : Int → Int → Int → Shp → Mem → Option (Int × Shp × Mem)} (hrn : ∀ {x1 x2 x3 : Int} {g : Shp} {m : Mem} {r : Int} {g' : Shp} {m' : Mem}, Sh g m → gOk g → gk g x2 = 2 → er x1 x2 x3 g m = some (r, g', m') → (Sh g' m' ∧ gOk g') ∧ gX g g') {g : Shp} {m : Mem} {x1 x3 x4 : Int} (h : Sh g m) (hg : gOk g)  {r : Int} {g' : Shp} {m' : Mem} (hF : ebX10_searchOrders_196 er x1 x3 x4 g m = some (r, g', m')) : (Sh g' m' ∧ gOk g') ∧ gX g g' := by
  unfold ebX10_searchOrders_196 at hF
  rcases if_ok hF with ⟨hc1, hF⟩ | ⟨hc1, hF⟩
  · have k2 := s_1_4 h
    obtain ⟨v3, m4, h5, hF⟩ := bd2_ok hF
    have hm4 := nX3_isFewer h  h5
    rcases if_ok hF with ⟨hc6, hF⟩ | ⟨hc6, hF⟩
    · exact nX10_searchOrders_221 hrn hm4 hg  hF
    · have k7 := s_1_4 hm4
      obtain ⟨v8, m9, h10, hF⟩ := bd2_ok hF
      have hm9 := nX3_keepTrial hm4  h10
      exact nX10_searchOrders_221 hrn hm9 hg  hF
  · exact nX10_searchOrders_221 hrn h hg  hF
set_option maxRecDepth 20000 in
theorem qX10_searchOrders_0 {fr : Int → Int → Int → Int → Shp → Mem → Option (Int × Shp × Mem)} {er : Int → Int → Int → Shp → Mem → Option (Int × Shp × Mem)} (hrq : ∀ {x1 x2 x3 : Int} {g : Shp} {m : Mem}, Sh g m → gOk g → gk g x2 = 2 → fr 1 x1 x2 x3 g m = er x1 x2 x3 g m) (hrn : ∀ {x1 x2 x3 : Int} {g : Shp} {m : Mem} {r : Int} {g' : Shp} {m' : Mem}, Sh g m → gOk g → gk g x2 = 2 → er x1 x2 x3 g m = some (r, g', m') → (Sh g' m' ∧ gOk g') ∧ gX g g') {g : Shp} {m : Mem} {x1 x2 x3 : Int} (h : Sh g m) (hg : gOk g) (hx2 : gk g x2 = 2) : bX10_searchOrders_0 fr 1 x1 x2 x3 g m = ebX10_searchOrders_0 er x1 x2 x3 g m := by
  unfold bX10_searchOrders_0 ebX10_searchOrders_0
  refine bdl_q (qlX10_searchOrders_6 hrq hrn (n := 100000) (s0 := (0, 0, g, m)) hx2 h hg) (fun cv1 sv2 hi3 => ?_)
  have h4 := nlX10_searchOrders_6 hrn (s0 := (0, 0, g, m)) hx2 h hg ((qlX10_searchOrders_6 hrq hrn (n := 100000) (s0 := (0, 0, g, m)) hx2 h hg).symm.trans hi3)
  exact qX10_searchOrders_196 hrq hrn h4.1.1 h4.1.2 
theorem nX10_searchOrders_0 {er : Int → Int → Int → Shp → Mem → Option (Int × Shp × Mem)} (hrn : ∀ {x1 x2 x3 : Int} {g : Shp} {m : Mem} {r : Int} {g' : Shp} {m' : Mem}, Sh g m → gOk g → gk g x2 = 2 → er x1 x2 x3 g m = some (r, g', m') → (Sh g' m' ∧ gOk g') ∧ gX g g') {g : Shp} {m : Mem} {x1 x2 x3 : Int} (h : Sh g m) (hg : gOk g) (hx2 : gk g x2 = 2) {r : Int} {g' : Shp} {m' : Mem} (hF : ebX10_searchOrders_0 er x1 x2 x3 g m = some (r, g', m')) : (Sh g' m' ∧ gOk g') ∧ gX g g' := by
  unfold ebX10_searchOrders_0 at hF
  obtain ⟨cv1, sv2, hi3, hF⟩ := bdl_ok hF
  have h4 := nlX10_searchOrders_6 hrn (s0 := (0, 0, g, m)) hx2 h hg hi3
  exact ⟨(nX10_searchOrders_196 hrn h4.1.1 h4.1.2  hF).1, h4.2.tr (nX10_searchOrders_196 hrn h4.1.1 h4.1.2  hF).2⟩
theorem nX10_searchOrders (d : Nat) : ∀ {x1 x2 x3 : Int} {g : Shp} {m : Mem} {r : Int} {g' : Shp} {m' : Mem}, Sh g m → gOk g → gk g x2 = 2 → eX10_searchOrders d x1 x2 x3 g m = some (r, g', m') → (Sh g' m' ∧ gOk g') ∧ gX g g' := by
  induction d with
  | zero => intro x1 x2 x3 g m r g' m' h hg hx2 hF; exact absurd hF (by simp [eX10_searchOrders])
  | succ d ih => intro x1 x2 x3 g m r g' m' h hg hx2 hF; exact nX10_searchOrders_0 ih h hg hx2 hF
theorem qX10_searchOrders (d : Nat) : ∀ {x1 x2 x3 : Int} {g : Shp} {m : Mem}, Sh g m → gOk g → gk g x2 = 2 → fX10_searchOrders d 1 x1 x2 x3 g m = eX10_searchOrders d x1 x2 x3 g m := by
  induction d with
  | zero => intro x1 x2 x3 g m h hg hx2; rfl
  | succ d ih => intro x1 x2 x3 g m h hg hx2; exact qX10_searchOrders_0 ih (nX10_searchOrders d) h hg hx2
set_option maxRecDepth 20000 in
theorem qX10_order_33 {g : Shp} {m : Mem} (h : Sh g m) (hg : gOk g)  : bX10_order_33 g m = ebX10_order_33 g m := by
  unfold bX10_order_33 ebX10_order_33
  rfl
theorem nX10_order_33 {g : Shp} {m : Mem} (h : Sh g m) (hg : gOk g)  {r : Int} {g' : Shp} {m' : Mem} (hF : ebX10_order_33 g m = some (r, g', m')) : (Sh g' m' ∧ gOk g') ∧ gX g g' := by
  unfold ebX10_order_33 at hF
  cases hF
  exact ⟨⟨h, hg⟩, gX.rf _⟩
set_option maxRecDepth 20000 in
theorem qX10_order_122 {g : Shp} {m : Mem} {z0 : Int} (h : Sh g m) (hg : gOk g)  : bX10_order_122 z0 g m = ebX10_order_122 z0 g m := by
  unfold bX10_order_122 ebX10_order_122
  rfl
theorem nX10_order_122 {g : Shp} {m : Mem} {z0 : Int} (h : Sh g m) (hg : gOk g)  {r : Int} {g' : Shp} {m' : Mem} (hF : ebX10_order_122 z0 g m = some (r, g', m')) : (Sh g' m' ∧ gOk g') ∧ gX g g' := by
  unfold ebX10_order_122 at hF
  cases hF
  exact ⟨⟨h, hg⟩, gX.rf _⟩
set_option maxRecDepth 20000 in
theorem qX10_order_68 {g : Shp} {m : Mem} {x4 : Int} (h : Sh g m) (hg : gOk g)  : bX10_order_68 1 x4 g m = ebX10_order_68 x4 g m := by
  unfold bX10_order_68 ebX10_order_68
  have k1 := s_1_4 h
  rewrite [k1.1, ck_t k1.2.1]
  refine if_c (fun hc2 => ?_) (fun hc2 => ?_)
  · rfl
  · refine if_c (fun hc3 => ?_) (fun hc3 => ?_)
    · have k4 := s_1_4 h
      rfl
    · have k5 := s_1_4 h
      refine if_c (fun hc6 => ?_) (fun hc6 => ?_)
      · exact qX10_order_122 h hg
      · have k7 := s_1_4 h
        have k8 := s_143_2 h
        rewrite [k8.1, ck_t k8.2.1]
        try rewrite [k8.2.2]
        refine ck_c (fun i9 => ?_)
        exact qX10_order_122 h hg 
theorem nX10_order_68 {g : Shp} {m : Mem} {x4 : Int} (h : Sh g m) (hg : gOk g)  {r : Int} {g' : Shp} {m' : Mem} (hF : ebX10_order_68 x4 g m = some (r, g', m')) : (Sh g' m' ∧ gOk g') ∧ gX g g' := by
  unfold ebX10_order_68 at hF
  have k1 := s_1_4 h
  rcases if_ok hF with ⟨hc2, hF⟩ | ⟨hc2, hF⟩
  · cases hF
    exact ⟨⟨h, hg⟩, gX.rf _⟩
  · rcases if_ok hF with ⟨hc3, hF⟩ | ⟨hc3, hF⟩
    · have k4 := s_1_4 h
      cases hF
      exact ⟨⟨h, hg⟩, gX.rf _⟩
    · have k5 := s_1_4 h
      rcases if_ok hF with ⟨hc6, hF⟩ | ⟨hc6, hF⟩
      · exact nX10_order_122 h hg  hF
      · have k7 := s_1_4 h
        have k8 := s_143_2 h
        obtain ⟨i9, hF⟩ := ck_ok hF
        exact nX10_order_122 h hg  hF
set_option maxRecDepth 20000 in
theorem qX10_order_0 {g : Shp} {m : Mem} {x1 x2 x3 x4 : Int} (h : Sh g m) (hg : gOk g)  : bX10_order_0 1 x1 x2 x3 x4 g m = ebX10_order_0 x1 x2 x3 x4 g m := by
  unfold bX10_order_0 ebX10_order_0
  refine bd2_q (qX10_isColour h ) (fun v1 m2 h3 => ?_)
  have hm2 := nX10_isColour h  ((qX10_isColour h ).symm.trans h3)
  refine if_c (fun hc4 => ?_) (fun hc4 => ?_)
  · exact qX10_order_33 hm2 hg
  · refine bd2_q (qX10_isColour hm2 ) (fun v5 m6 h7 => ?_)
    have hm6 := nX10_isColour hm2  ((qX10_isColour hm2 ).symm.trans h7)
    refine if_c (fun hc8 => ?_) (fun hc8 => ?_)
    · exact qX10_order_33 hm6 hg
    · refine bd2_q (qX10_isColour hm6 ) (fun v9 m10 h11 => ?_)
      have hm10 := nX10_isColour hm6  ((qX10_isColour hm6 ).symm.trans h11)
      refine if_c (fun hc12 => ?_) (fun hc12 => ?_)
      · exact qX10_order_33 hm10 hg
      · refine if_c (fun hc13 => ?_) (fun hc13 => ?_)
        · exact qX10_order_33 hm10 hg
        · refine if_c (fun hc14 => ?_) (fun hc14 => ?_)
          · have k15 := s_1_4 hm10
            rewrite [k15.1, ck_t k15.2.1]
            refine bd2_q (qX3_isFor hm10 ) (fun v16 m17 h18 => ?_)
            have hm17 := nX3_isFor hm10  ((qX3_isFor hm10 ).symm.trans h18)
            refine if_c (fun hc19 => ?_) (fun hc19 => ?_)
            · have k20 := s_1_4 hm17
              rewrite [k20.1, ck_t k20.2.1]
              refine bd2_q (qX3_begin hm17 ) (fun v21 m22 h23 => ?_)
              have hm22 := nX3_begin hm17  ((qX3_begin hm17 ).symm.trans h23)
              have k24 := s_1_2 hm22
              rewrite [k24.1, ck_t k24.2.1]
              refine bd3_q (qX10_searchOrders 5 hm22 hg k24.2.1) (fun v25 g26 m27 h28 => ?_)
              have hm27 := nX10_searchOrders 5 hm22 hg k24.2.1 ((qX10_searchOrders 5 hm22 hg k24.2.1).symm.trans h28)
              exact qX10_order_68 hm27.1.1 hm27.1.2 
            · exact qX10_order_68 hm17 hg
          · exact qX10_order_33 hm10 hg
theorem nX10_order_0 {g : Shp} {m : Mem} {x1 x2 x3 x4 : Int} (h : Sh g m) (hg : gOk g)  {r : Int} {g' : Shp} {m' : Mem} (hF : ebX10_order_0 x1 x2 x3 x4 g m = some (r, g', m')) : (Sh g' m' ∧ gOk g') ∧ gX g g' := by
  unfold ebX10_order_0 at hF
  obtain ⟨v1, m2, h3, hF⟩ := bd2_ok hF
  have hm2 := nX10_isColour h  h3
  rcases if_ok hF with ⟨hc4, hF⟩ | ⟨hc4, hF⟩
  · exact nX10_order_33 hm2 hg  hF
  · obtain ⟨v5, m6, h7, hF⟩ := bd2_ok hF
    have hm6 := nX10_isColour hm2  h7
    rcases if_ok hF with ⟨hc8, hF⟩ | ⟨hc8, hF⟩
    · exact nX10_order_33 hm6 hg  hF
    · obtain ⟨v9, m10, h11, hF⟩ := bd2_ok hF
      have hm10 := nX10_isColour hm6  h11
      rcases if_ok hF with ⟨hc12, hF⟩ | ⟨hc12, hF⟩
      · exact nX10_order_33 hm10 hg  hF
      · rcases if_ok hF with ⟨hc13, hF⟩ | ⟨hc13, hF⟩
        · exact nX10_order_33 hm10 hg  hF
        · rcases if_ok hF with ⟨hc14, hF⟩ | ⟨hc14, hF⟩
          · have k15 := s_1_4 hm10
            obtain ⟨v16, m17, h18, hF⟩ := bd2_ok hF
            have hm17 := nX3_isFor hm10  h18
            rcases if_ok hF with ⟨hc19, hF⟩ | ⟨hc19, hF⟩
            · have k20 := s_1_4 hm17
              obtain ⟨v21, m22, h23, hF⟩ := bd2_ok hF
              have hm22 := nX3_begin hm17  h23
              have k24 := s_1_2 hm22
              obtain ⟨v25, g26, m27, h28, hF⟩ := bd3_ok hF
              have hm27 := nX10_searchOrders 5 hm22 hg k24.2.1 h28
              exact ⟨(nX10_order_68 hm27.1.1 hm27.1.2  hF).1, hm27.2.tr (nX10_order_68 hm27.1.1 hm27.1.2  hF).2⟩
            · exact nX10_order_68 hm17 hg  hF
          · exact nX10_order_33 hm10 hg  hF
theorem qX10_order {x1 x2 x3 x4 : Int} {g : Shp} {m : Mem} (h : Sh g m) (hg : gOk g)  : fX10_order 1 x1 x2 x3 x4 g m = eX10_order x1 x2 x3 x4 g m := qX10_order_0 h hg 
theorem nX10_order {x1 x2 x3 x4 : Int} {g : Shp} {m : Mem} (h : Sh g m) (hg : gOk g)  {r : Int} {g' : Shp} {m' : Mem} (hF : eX10_order x1 x2 x3 x4 g m = some (r, g', m')) : (Sh g' m' ∧ gOk g') ∧ gX g g' := nX10_order_0 h hg  hF
