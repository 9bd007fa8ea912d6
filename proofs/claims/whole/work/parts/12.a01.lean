def bX10_cover_15 (g : Shp) (m : Mem) : Option (Int × Shp × Mem) :=
  some ((-1), g, m)
def bX10_cover_37 (x0 x1 x2 z0 : Int) (g : Shp) (m : Mem) : Option (Int × Shp × Mem) :=
  if (m z0 7) = 0 then
    some ((-4), g, m)
  else
    bd2 (fX10_beginChange g x0 m) fun v2 m3 =>
    ck (gk g (m3 x0 2) = 2) <|
    ck (gk g (m3 x0 6) = 8) <|
    ck (gk g (m3 (m3 x0 6) 2) = 25) <|
    ck ((0 : Int) ≤ x1 ∧ x1 < gl g (m3 (m3 x0 6) 2)) <|
    ck (gk g (m3 (m3 (m3 x0 6) 2) x1) = 6) <|
    bd2 (fX1_putDown g (m3 x0 2) x1 (m3 (m3 (m3 x0 6) 2) x1) x2 z0 m3) fun v10 m11 =>
    some (m11 z0 5, g, m11)
def bX10_cover_0 (x0 x1 x2 : Int) (g : Shp) (m : Mem) : Option (Int × Shp × Mem) :=
  bd2 (fX10_isLine g x0 x1 m) fun v1 m2 =>
  if v1 = 0 then
    bX10_cover_15 g m2
  else
    bd2 (fX10_isColour g x2 m2) fun v6 m7 =>
    if v6 = 0 then
      bX10_cover_15 g m7
    else
      ck (gk g (m7 x0 2) = 2) <|
      bd2 (fX1_isCovered g (m7 x0 2) x1 m7) fun v12 m13 =>
      if v12 = 0 then
        bd3 (fX10_wayOf x0 x1 x2 g m13) fun v17 g18 m19 =>
        ck (gk g18 v17 = 10) <|
        bX10_cover_37 x0 x1 x2 v17 g18 m19
      else
        some ((-2), g, m13)
def fX10_cover (x0 x1 x2 : Int) (g : Shp) (m : Mem) : Option (Int × Shp × Mem) := bX10_cover_0 x0 x1 x2 g m
def bX10_searchOrders_190 (fr : Int → Int → Int → Int → Shp → Mem → Option (Int × Shp × Mem)) (x0 x1 x2 x3 x4 x5 : Int) (g : Shp) (m : Mem) : Option (Int × (Int × Int × Shp × Mem)) :=
  vv (w32 (x5 + 1)) fun y1 =>
  some (0, (x4, y1, g, m))
def bX10_searchOrders_91 (fr : Int → Int → Int → Int → Shp → Mem → Option (Int × Shp × Mem)) (x0 x1 x2 x3 x4 x5 x6 x7 : Int) (g : Shp) (m : Mem) : Option (Int × (Int × Int × Shp × Mem)) :=
  vv (w32 (x3 + (m x7 5))) fun y1 =>
  if (m x7 7) = 0 then
    bX10_searchOrders_190 fr x0 x1 x2 x3 x4 x5 g m
  else
    ck (gk g (m x0 4) = 4) <|
    bd2 (fX3_isFewer g (m x0 4) y1 m) fun v4 m5 =>
    if v4 = 0 then
      bX10_searchOrders_190 fr x0 x1 x2 x3 x4 x5 g m5
    else
      ck (gk g (m5 x0 4) = 4) <|
      ck (gk g (m5 (m5 x0 4) 3) = 23) <|
      ck ((0 : Int) ≤ x1 ∧ x1 < gl g (m5 (m5 x0 4) 3)) <|
      ck (gk g (m5 (m5 (m5 x0 4) 3) x1) = 2) <|
      bd2 (fX1_copy g (m5 (m5 (m5 x0 4) 3) x1) x2 m5) fun v13 m14 =>
      ck (gk g (m14 x0 4) = 4) <|
      ck (gk g (m14 (m14 x0 4) 3) = 23) <|
      ck ((0 : Int) ≤ x1 ∧ x1 < gl g (m14 (m14 x0 4) 3)) <|
      ck (gk g (m14 (m14 (m14 x0 4) 3) x1) = 2) <|
      ck (gk g (m14 (m14 x0 4) 0) = 20) <|
      ck ((0 : Int) ≤ x5 ∧ x5 < gl g (m14 (m14 x0 4) 0)) <|
      bd2 (fX1_putDown g (m14 (m14 (m14 x0 4) 3) x1) x5 x6 (m14 (m14 (m14 x0 4) 0) x5) x7 m14) fun v22 m23 =>
      ck (gk g (m23 x0 4) = 4) <|
      ck (gk g (m23 (m23 x0 4) 1) = 20) <|
      ck ((0 : Int) ≤ x1 ∧ x1 < gl g (m23 (m23 x0 4) 1)) <|
      vm (ms m23 (m23 (m23 x0 4) 1) x1 x5) fun m28 =>
      ck (gk g (m28 x0 4) = 4) <|
      ck (gk g (m28 (m28 x0 4) 3) = 23) <|
      ck ((0 : Int) ≤ x1 ∧ x1 < gl g (m28 (m28 x0 4) 3)) <|
      ck (gk g (m28 (m28 (m28 x0 4) 3) x1) = 2) <|
      bd3 (fr x0 (w32 (x1 + 1)) (m28 (m28 (m28 x0 4) 3) x1) y1 g m28) fun v33 g34 m35 =>
      bX10_searchOrders_190 fr x0 x1 x2 x3 x4 x5 g34 m35
def bX10_searchOrders_6 (fr : Int → Int → Int → Int → Shp → Mem → Option (Int × Shp × Mem)) (x0 x1 x2 x3 x4 x5 : Int) (g : Shp) (m : Mem) : Option (Int × (Int × Int × Shp × Mem)) :=
  ck (gk g (m x0 6) = 8) <|
  if (m (m x0 6) 5) ≤ x5 then
    some (1, (x4, x5, g, m))
  else
    bd2 (fX1_isCovered g x2 x5 m) fun v3 m4 =>
    if v3 = 0 then
      vv (w32 (x4 + 1)) fun y8 =>
      if x1 < 3 then
        ck (gk g (m4 x0 6) = 8) <|
        ck (gk g (m4 (m4 x0 6) 2) = 25) <|
        ck ((0 : Int) ≤ x5 ∧ x5 < gl g (m4 (m4 x0 6) 2)) <|
        ck (gk g (m4 (m4 (m4 x0 6) 2) x5) = 6) <|
        vv (m4 (m4 (m4 x0 6) 2) x5) fun y14 =>
        ck (gk g (m4 x0 4) = 4) <|
        ck (gk g (m4 (m4 x0 4) 4) = 10) <|
        vv (m4 (m4 x0 4) 4) fun y17 =>
        ck (gk g (m4 x0 1) = 1) <|
        ck (gk g (m4 (m4 x0 6) 0) = 20) <|
        ck (gk g (m4 (m4 x0 4) 0) = 20) <|
        ck ((0 : Int) ≤ x5 ∧ x5 < gl g (m4 (m4 x0 4) 0)) <|
        bd3 (fX0_find (m4 x0 1) y14 (m4 (m4 x0 6) 0) x2 (m4 (m4 (m4 x0 4) 0) x5) y17 g m4) fun v22 g23 m24 =>
        bX10_searchOrders_91 fr x0 x1 x2 x3 y8 x5 y14 y17 g23 m24
      else
        bX10_searchOrders_190 fr x0 x1 x2 x3 y8 x5 g m4
    else
      bX10_searchOrders_190 fr x0 x1 x2 x3 x4 x5 g m4
def BX10_searchOrders_6 (fr : Int → Int → Int → Int → Shp → Mem → Option (Int × Shp × Mem)) (x0 x1 x2 x3 : Int) (q : (Int × Int × Shp × Mem)) : Option (Int × (Int × Int × Shp × Mem)) := bX10_searchOrders_6 fr x0 x1 x2 x3 q.1 q.2.1 q.2.2.1 q.2.2.2
def bX10_searchOrders_221 (fr : Int → Int → Int → Int → Shp → Mem → Option (Int × Shp × Mem)) (g : Shp) (m : Mem) : Option (Int × Shp × Mem) :=
  some (0, g, m)
def bX10_searchOrders_196 (fr : Int → Int → Int → Int → Shp → Mem → Option (Int × Shp × Mem)) (x0 x1 x3 x4 : Int) (g : Shp) (m : Mem) : Option (Int × Shp × Mem) :=
  if x4 = 0 then
    ck (gk g (m x0 4) = 4) <|
    bd2 (fX3_isFewer g (m x0 4) x3 m) fun v3 m4 =>
    if v3 = 0 then
      bX10_searchOrders_221 fr g m4
    else
      ck (gk g (m4 x0 4) = 4) <|
      bd2 (fX3_keepTrial g (m4 x0 4) x1 x3 m4) fun v9 m10 =>
      bX10_searchOrders_221 fr g m10
  else
    bX10_searchOrders_221 fr g m
def bX10_searchOrders_0 (fr : Int → Int → Int → Int → Shp → Mem → Option (Int × Shp × Mem)) (x0 x1 x2 x3 : Int) (g : Shp) (m : Mem) : Option (Int × Shp × Mem) :=
  bdl (iter (BX10_searchOrders_6 fr x0 x1 x2 x3) 100000 (0, 0, g, m)) fun cv1 sv2 =>
  bX10_searchOrders_196 fr x0 x1 x3 sv2.1 sv2.2.2.1 sv2.2.2.2
def fX10_searchOrders : Nat → Int → Int → Int → Int → Shp → Mem → Option (Int × Shp × Mem)
  | 0, _, _, _, _, _, _ => none
  | d + 1, x0, x1, x2, x3, g, m => bX10_searchOrders_0 (fX10_searchOrders d) x0 x1 x2 x3 g m
def bX10_order_33 (g : Shp) (m : Mem) : Option (Int × Shp × Mem) :=
  some ((-1), g, m)
def bX10_order_122 (z0 : Int) (g : Shp) (m : Mem) : Option (Int × Shp × Mem) :=
  some (z0, g, m)
def bX10_order_68 (x0 x4 : Int) (g : Shp) (m : Mem) : Option (Int × Shp × Mem) :=
  ck (gk g (m x0 4) = 4) <|
  if (m (m x0 4) 7) = 0 then
    some ((-4), g, m)
  else
    if x4 = ((-1)) then
      some (m (m x0 4) 6, g, m)
    else
      if (m (m x0 4) 5) ≤ x4 then
        bX10_order_122 ((-4)) g m
      else
        ck (gk g (m (m x0 4) 2) = 20) <|
        ck ((0 : Int) ≤ x4 ∧ x4 < gl g (m (m x0 4) 2)) <|
        bX10_order_122 (m (m (m x0 4) 2) x4) g m
def bX10_order_0 (x0 x1 x2 x3 x4 : Int) (g : Shp) (m : Mem) : Option (Int × Shp × Mem) :=
  bd2 (fX10_isColour g x1 m) fun v1 m2 =>
  if v1 = 0 then
    bX10_order_33 g m2
  else
    bd2 (fX10_isColour g x2 m2) fun v6 m7 =>
    if v6 = 0 then
      bX10_order_33 g m7
    else
      bd2 (fX10_isColour g x3 m7) fun v11 m12 =>
      if v11 = 0 then
        bX10_order_33 g m12
      else
        if x4 < ((-1)) then
          bX10_order_33 g m12
        else
          if x4 < 3 then
            ck (gk g (m12 x0 4) = 4) <|
            bd2 (fX3_isFor g (m12 x0 4) x1 x2 x3 m12) fun v19 m20 =>
            if v19 = 0 then
              ck (gk g (m20 x0 4) = 4) <|
              bd2 (fX3_begin g (m20 x0 4) x1 x2 x3 m20) fun v25 m26 =>
              ck (gk g (m26 x0 2) = 2) <|
              bd3 (fX10_searchOrders 5 x0 0 (m26 x0 2) 0 g m26) fun v29 g30 m31 =>
              bX10_order_68 x0 x4 g30 m31
            else
              bX10_order_68 x0 x4 g m20
          else
            bX10_order_33 g m12
def fX10_order (x0 x1 x2 x3 x4 : Int) (g : Shp) (m : Mem) : Option (Int × Shp × Mem) := bX10_order_0 x0 x1 x2 x3 x4 g m
def bX11_init_386 (x0 z0 : Int) (g : Shp) (m : Mem) : Option (Int × Shp × Mem) :=
  vm (ms m x0 10 (w32 ((m x0 10) + 1))) fun m1 =>
  bd2 (fX11_takeRead g x0 m1) fun v2 m3 =>
  some (0, g, m3)
def bX11_init_385 (x0 : Int) (g : Shp) (m : Mem) : Option (Int × Shp × Mem) :=
  bX11_init_386 x0 0 g m
def bX11_init_339 (x0 z0 : Int) (g : Shp) (m : Mem) : Option (Int × Shp × Mem) :=
  vm (ms m x0 10 (w32 ((m x0 10) + 1))) fun m1 =>
  bd2 (fX11_beginLine g x0 0 5 m1) fun v2 m3 =>
  if z0 = 0 then
    bX11_init_385 x0 g m3
  else
    bd2 (fX11_goRun g x0 114 12 m3) fun v6 m7 =>
    if v6 = 0 then
      bX11_init_385 x0 g m7
    else
      bd2 (fX11_goRun g x0 117 3 m7) fun v11 m12 =>
      if v11 = 0 then
        bX11_init_385 x0 g m12
      else
        bX11_init_386 x0 1 g m12
def bX11_init_338 (x0 : Int) (g : Shp) (m : Mem) : Option (Int × Shp × Mem) :=
  bX11_init_339 x0 0 g m
def bX11_init_301 (x0 z0 : Int) (g : Shp) (m : Mem) : Option (Int × Shp × Mem) :=
  vm (ms m x0 10 (w32 ((m x0 10) + 1))) fun m1 =>
  bd2 (fX11_beginLine g x0 6 0 m1) fun v2 m3 =>
  if z0 = 0 then
    bX11_init_338 x0 g m3
  else
    bd2 (fX11_goRun g x0 100 8 m3) fun v6 m7 =>
    if v6 = 0 then
      bX11_init_338 x0 g m7
    else
      bX11_init_339 x0 1 g m7
def bX11_init_300 (x0 : Int) (g : Shp) (m : Mem) : Option (Int × Shp × Mem) :=
  bX11_init_301 x0 0 g m
def bX11_init_209 (x0 z0 z1 : Int) (g : Shp) (m : Mem) : Option (Int × Shp × Mem) :=
  vm (ms m z0 38 z1) fun m1 =>
  bd2 (fX11_begin g x0 m1) fun v2 m3 =>
  ck (gk g (m3 x0 9) = 20) <|
  ck ((0 : Int) ≤ 0 ∧ 0 < gl g (m3 x0 9)) <|
  vm (ms m3 (m3 x0 9) 0 4) fun m7 =>
  ck (gk g (m7 x0 9) = 20) <|
  ck ((0 : Int) ≤ 1 ∧ 1 < gl g (m7 x0 9)) <|
  vm (ms m7 (m7 x0 9) 1 4) fun m10 =>
  ck (gk g (m10 x0 9) = 20) <|
  ck ((0 : Int) ≤ 2 ∧ 2 < gl g (m10 x0 9)) <|
  vm (ms m10 (m10 x0 9) 2 2) fun m13 =>
  ck (gk g (m13 x0 9) = 20) <|
  ck ((0 : Int) ≤ 3 ∧ 3 < gl g (m13 x0 9)) <|
  vm (ms m13 (m13 x0 9) 3 3) fun m16 =>
  ck (gk g (m16 x0 9) = 20) <|
  ck ((0 : Int) ≤ 4 ∧ 4 < gl g (m16 x0 9)) <|
  vm (ms m16 (m16 x0 9) 4 2) fun m19 =>
  ck (gk g (m19 x0 9) = 20) <|
  ck ((0 : Int) ≤ 5 ∧ 5 < gl g (m19 x0 9)) <|
  vm (ms m19 (m19 x0 9) 5 1) fun m22 =>
  bd2 (fX11_beginLine g x0 2 2 m22) fun v23 m24 =>
  bd2 (fX11_goRun g x0 114 9 m24) fun v26 m27 =>
  if v26 = 0 then
    bX11_init_300 x0 g m27
  else
    bd2 (fX11_goRun g x0 100 6 m27) fun v31 m32 =>
    if v31 = 0 then
      bX11_init_300 x0 g m32
    else
      bd2 (fX11_goRun g x0 108 4 m32) fun v36 m37 =>
      if v36 = 0 then
        bX11_init_300 x0 g m37
      else
        bX11_init_301 x0 1 g m37
def bX11_init_202 (x0 z0 z1 : Int) (g : Shp) (m : Mem) : Option (Int × Shp × Mem) :=
  vm (ms m z0 37 z1) fun m1 =>
  ck (gn g < 1000000 ∧ (0 : Int) ≤ 3 ∧ 3 < (1000000 : Int)) <|
  vg (gA g 20 3 3) fun g2 =>
  vm (mA g m1) fun m3 =>
  vv ((gn g : Int) + 1) fun y4 =>
  bX11_init_209 x0 x0 y4 g2 m3
def bX11_init_195 (x0 z0 z1 : Int) (g : Shp) (m : Mem) : Option (Int × Shp × Mem) :=
  vm (ms m z0 34 z1) fun m1 =>
  ck (gn g < 1000000 ∧ (0 : Int) ≤ 3 ∧ 3 < (1000000 : Int)) <|
  vg (gA g 20 3 3) fun g2 =>
  vm (mA g m1) fun m3 =>
  vv ((gn g : Int) + 1) fun y4 =>
  bX11_init_202 x0 x0 y4 g2 m3
def bX11_init_187 (x0 z0 z1 : Int) (g : Shp) (m : Mem) : Option (Int × Shp × Mem) :=
  vm (ms m z0 33 z1) fun m1 =>
  ck (gn g < 1000000 ∧ (0 : Int) ≤ 18 ∧ 18 < (1000000 : Int)) <|
  vg (gA g 21 18 18) fun g2 =>
  vm (mA g m1) fun m3 =>
  vv ((gn g : Int) + 1) fun y4 =>
  bX11_init_195 x0 x0 y4 g2 m3
def bX11_init_179 (x0 z0 z1 : Int) (g : Shp) (m : Mem) : Option (Int × Shp × Mem) :=
  vm (ms m z0 32 z1) fun m1 =>
  ck (gn g < 1000000 ∧ (0 : Int) ≤ 18 ∧ 18 < (1000000 : Int)) <|
  vg (gA g 20 18 18) fun g2 =>
  vm (mA g m1) fun m3 =>
  vv ((gn g : Int) + 1) fun y4 =>
  bX11_init_187 x0 x0 y4 g2 m3
def bX11_init_171 (x0 z0 z1 : Int) (g : Shp) (m : Mem) : Option (Int × Shp × Mem) :=
  vm (ms m z0 31 z1) fun m1 =>
  ck (gn g < 1000000 ∧ (0 : Int) ≤ 18 ∧ 18 < (1000000 : Int)) <|
  vg (gA g 20 18 18) fun g2 =>
  vm (mA g m1) fun m3 =>
  vv ((gn g : Int) + 1) fun y4 =>
  bX11_init_179 x0 x0 y4 g2 m3
def bX11_init_163 (x0 z0 z1 : Int) (g : Shp) (m : Mem) : Option (Int × Shp × Mem) :=
  vm (ms m z0 30 z1) fun m1 =>
  ck (gn g < 1000000 ∧ (0 : Int) ≤ 61 ∧ 61 < (1000000 : Int)) <|
  vg (gA g 21 61 61) fun g2 =>
  vm (mA g m1) fun m3 =>
  vv ((gn g : Int) + 1) fun y4 =>
  bX11_init_171 x0 x0 y4 g2 m3
def bX11_init_155 (x0 z0 z1 : Int) (g : Shp) (m : Mem) : Option (Int × Shp × Mem) :=
  vm (ms m z0 29 z1) fun m1 =>
  ck (gn g < 1000000 ∧ (0 : Int) ≤ 61 ∧ 61 < (1000000 : Int)) <|
  vg (gA g 20 61 61) fun g2 =>
  vm (mA g m1) fun m3 =>
  vv ((gn g : Int) + 1) fun y4 =>
  bX11_init_163 x0 x0 y4 g2 m3
def bX11_init_146 (x0 z0 z1 : Int) (g : Shp) (m : Mem) : Option (Int × Shp × Mem) :=
  vm (ms m z0 28 z1) fun m1 =>
  ck (gn g < 1000000 ∧ (0 : Int) ≤ 10290 ∧ 10290 < (1000000 : Int)) <|
  vg (gA g 20 10290 10290) fun g2 =>
  vm (mA g m1) fun m3 =>
  vv ((gn g : Int) + 1) fun y4 =>
  bX11_init_155 x0 x0 y4 g2 m3
def bX11_init_137 (x0 z0 z1 : Int) (g : Shp) (m : Mem) : Option (Int × Shp × Mem) :=
  vm (ms m z0 26 z1) fun m1 =>
  ck (gn g < 1000000 ∧ (0 : Int) ≤ 10633 ∧ 10633 < (1000000 : Int)) <|
  vg (gA g 20 10633 10633) fun g2 =>
  vm (mA g m1) fun m3 =>
  vv ((gn g : Int) + 1) fun y4 =>
  bX11_init_146 x0 x0 y4 g2 m3
def bX11_init_129 (x0 z0 z1 : Int) (g : Shp) (m : Mem) : Option (Int × Shp × Mem) :=
  vm (ms m z0 25 z1) fun m1 =>
  ck (gn g < 1000000 ∧ (0 : Int) ≤ 60 ∧ 60 < (1000000 : Int)) <|
  vg (gA g 21 60 60) fun g2 =>
  vm (mA g m1) fun m3 =>
  vv ((gn g : Int) + 1) fun y4 =>
  bX11_init_137 x0 x0 y4 g2 m3
def bX11_init_121 (x0 z0 z1 : Int) (g : Shp) (m : Mem) : Option (Int × Shp × Mem) :=
  vm (ms m z0 24 z1) fun m1 =>
  ck (gn g < 1000000 ∧ (0 : Int) ≤ 60 ∧ 60 < (1000000 : Int)) <|
  vg (gA g 20 60 60) fun g2 =>
  vm (mA g m1) fun m3 =>
  vv ((gn g : Int) + 1) fun y4 =>
  bX11_init_129 x0 x0 y4 g2 m3
def bX11_init_112 (x0 z0 z1 : Int) (g : Shp) (m : Mem) : Option (Int × Shp × Mem) :=
  vm (ms m z0 23 z1) fun m1 =>
  ck (gn g < 1000000 ∧ (0 : Int) ≤ 180 ∧ 180 < (1000000 : Int)) <|
  vg (gA g 20 180 180) fun g2 =>
  vm (mA g m1) fun m3 =>
  vv ((gn g : Int) + 1) fun y4 =>
  bX11_init_121 x0 x0 y4 g2 m3
def bX11_init_105 (x0 z0 z1 : Int) (g : Shp) (m : Mem) : Option (Int × Shp × Mem) :=
  vm (ms m z0 22 z1) fun m1 =>
  ck (gn g < 1000000 ∧ (0 : Int) ≤ 3 ∧ 3 < (1000000 : Int)) <|
  vg (gA g 20 3 3) fun g2 =>
  vm (mA g m1) fun m3 =>
  vv ((gn g : Int) + 1) fun y4 =>
  bX11_init_112 x0 x0 y4 g2 m3
def bX11_init_97 (x0 z0 z1 : Int) (g : Shp) (m : Mem) : Option (Int × Shp × Mem) :=
  vm (ms m z0 21 z1) fun m1 =>
  ck (gn g < 1000000 ∧ (0 : Int) ≤ 15 ∧ 15 < (1000000 : Int)) <|
  vg (gA g 20 15 15) fun g2 =>
  vm (mA g m1) fun m3 =>
  vv ((gn g : Int) + 1) fun y4 =>
  bX11_init_105 x0 x0 y4 g2 m3
def bX11_init_90 (x0 z0 z1 : Int) (g : Shp) (m : Mem) : Option (Int × Shp × Mem) :=
  vm (ms m z0 19 z1) fun m1 =>
  ck (gn g < 1000000 ∧ (0 : Int) ≤ 3 ∧ 3 < (1000000 : Int)) <|
  vg (gA g 20 3 3) fun g2 =>
  vm (mA g m1) fun m3 =>
  vv ((gn g : Int) + 1) fun y4 =>
  bX11_init_97 x0 x0 y4 g2 m3
def bX11_init_83 (x0 z0 z1 : Int) (g : Shp) (m : Mem) : Option (Int × Shp × Mem) :=
  vm (ms m z0 14 z1) fun m1 =>
  ck (gn g < 1000000 ∧ (0 : Int) ≤ 3 ∧ 3 < (1000000 : Int)) <|
  vg (gA g 20 3 3) fun g2 =>
  vm (mA g m1) fun m3 =>
  vv ((gn g : Int) + 1) fun y4 =>
  bX11_init_90 x0 x0 y4 g2 m3
def bX11_init_74 (x0 z0 z1 : Int) (g : Shp) (m : Mem) : Option (Int × Shp × Mem) :=
  vm (ms m z0 13 z1) fun m1 =>
  ck (gn g < 1000000 ∧ (0 : Int) ≤ 180 ∧ 180 < (1000000 : Int)) <|
  vg (gA g 20 180 180) fun g2 =>
  vm (mA g m1) fun m3 =>
  vv ((gn g : Int) + 1) fun y4 =>
  bX11_init_83 x0 x0 y4 g2 m3
def bX11_init_67 (x0 z0 z1 : Int) (g : Shp) (m : Mem) : Option (Int × Shp × Mem) :=
  vm (ms m z0 12 z1) fun m1 =>
  ck (gn g < 1000000 ∧ (0 : Int) ≤ 3 ∧ 3 < (1000000 : Int)) <|
  vg (gA g 20 3 3) fun g2 =>
  vm (mA g m1) fun m3 =>
  vv ((gn g : Int) + 1) fun y4 =>
  bX11_init_74 x0 x0 y4 g2 m3
def bX11_init_59 (x0 z0 z1 : Int) (g : Shp) (m : Mem) : Option (Int × Shp × Mem) :=
  vm (ms m z0 11 z1) fun m1 =>
  ck (gn g < 1000000 ∧ (0 : Int) ≤ 15 ∧ 15 < (1000000 : Int)) <|
  vg (gA g 20 15 15) fun g2 =>
  vm (mA g m1) fun m3 =>
  vv ((gn g : Int) + 1) fun y4 =>
  bX11_init_67 x0 x0 y4 g2 m3
def bX11_init_52 (x0 z0 z1 : Int) (g : Shp) (m : Mem) : Option (Int × Shp × Mem) :=
  vm (ms m z0 9 z1) fun m1 =>
  ck (gn g < 1000000 ∧ (0 : Int) ≤ 3 ∧ 3 < (1000000 : Int)) <|
  vg (gA g 20 3 3) fun g2 =>
  vm (mA g m1) fun m3 =>
  vv ((gn g : Int) + 1) fun y4 =>
  bX11_init_59 x0 x0 y4 g2 m3
def bX11_init_44 (x0 z0 z1 : Int) (g : Shp) (m : Mem) : Option (Int × Shp × Mem) :=
  vm (ms m z0 7 z1) fun m1 =>
  ck (gn g < 1000000 ∧ (0 : Int) ≤ 9 ∧ 9 < (1000000 : Int)) <|
  vg (gA g 20 9 9) fun g2 =>
  vm (mA g m1) fun m3 =>
  vv ((gn g : Int) + 1) fun y4 =>
  bX11_init_52 x0 x0 y4 g2 m3
def bX11_init_37 (x0 z0 z1 : Int) (g : Shp) (m : Mem) : Option (Int × Shp × Mem) :=
  vm (ms m z0 4 z1) fun m1 =>
  ck (gn g < 1000000 ∧ (0 : Int) ≤ 3 ∧ 3 < (1000000 : Int)) <|
  vg (gA g 20 3 3) fun g2 =>
  vm (mA g m1) fun m3 =>
  vv ((gn g : Int) + 1) fun y4 =>
  bX11_init_44 x0 x0 y4 g2 m3
def bX11_init_28 (x0 z0 z1 : Int) (g : Shp) (m : Mem) : Option (Int × Shp × Mem) :=
  vm (ms m z0 2 z1) fun m1 =>
  ck (gn g < 1000000 ∧ (0 : Int) ≤ 200 ∧ 200 < (1000000 : Int)) <|
  vg (gA g 20 200 200) fun g2 =>
  vm (mA g m1) fun m3 =>
  vv ((gn g : Int) + 1) fun y4 =>
  bX11_init_37 x0 x0 y4 g2 m3
def bX11_init_19 (x0 z0 z1 : Int) (g : Shp) (m : Mem) : Option (Int × Shp × Mem) :=
  vm (ms m z0 1 z1) fun m1 =>
  ck (gn g < 1000000 ∧ (0 : Int) ≤ 2598 ∧ 2598 < (1000000 : Int)) <|
  vg (gA g 20 2598 2598) fun g2 =>
  vm (mA g m1) fun m3 =>
  vv ((gn g : Int) + 1) fun y4 =>
  bX11_init_28 x0 x0 y4 g2 m3
def bX11_init_10 (x0 z0 z1 : Int) (g : Shp) (m : Mem) : Option (Int × Shp × Mem) :=
  vm (ms m z0 0 z1) fun m1 =>
  ck (gn g < 1000000 ∧ (0 : Int) ≤ 433 ∧ 433 < (1000000 : Int)) <|
  vg (gA g 20 433 433) fun g2 =>
  vm (mA g m1) fun m3 =>
  vv ((gn g : Int) + 1) fun y4 =>
  bX11_init_19 x0 x0 y4 g2 m3
def bX11_init_0 (x0 : Int) (g : Shp) (m : Mem) : Option (Int × Shp × Mem) :=
  ck (gn g < 1000000 ∧ (0 : Int) ≤ 433 ∧ 433 < (1000000 : Int)) <|
  vg (gA g 20 433 433) fun g1 =>
  vm (mA g m) fun m2 =>
  vv ((gn g : Int) + 1) fun y3 =>
  bX11_init_10 x0 x0 y3 g1 m2
def fX11_init (x0 : Int) (g : Shp) (m : Mem) : Option (Int × Shp × Mem) := bX11_init_0 x0 g m
theorem xX10_cover_15 {g : Shp} {m : Mem} {r : Int} {g' : Shp} {m' : Mem} (hF : bX10_cover_15 g m = some (r, g', m')) (hg : gOk g) : gX g g' ∧ gOk g' := by
  unfold bX10_cover_15 at hF
  cases hF
  exact ⟨gX.rf _, hg⟩
set_option maxRecDepth 20000 in
theorem wX10_cover_15 {p : Program} {l : Launch} {e : Env} {s : State} {mt : MethodId} {args : Array Value} {below : List Frame} {meth : Method} {c : Code} {Q : State → Prop} {G : Gl} {A : Nat → Prop} {H0 : Heap} {ad : Int → Nat} {g : Shp} {ad0 : Int → Nat} {g0 : Shp} {n0 t0 cells slots mc msl : Nat} {H : Heap} {locs : List Loc} {ls : Array Slot} {m : Mem} (C : CallFix p mt c cX10_cover 4 s args tb RX10) (S : Wd G A s H0 ad g m H locs)  (hl : lv_has ls 4 []) (hq : aX g0 ad0 ad ∧ gX g0 g) (hn : gn g = n0 + cells ∧ gs g = t0 + slots) {r : Int} {g' : Shp} {m' : Mem} (hF : bX10_cover_15 g m = some (r, g', m')) (he : gn g' ≤ n0 + mc ∧ gs g' ≤ t0 + msl) (Kr : ∀ (ad : Int → Nat) (H : Heap) (locs : List Loc) (pc : Nat) (ls : Array Slot) (cells slots : Nat), aX g0 ad0 ad → gn g' = n0 + cells ∧ gs g' = t0 + slots → Wd G A s H0 ad g' m' H locs → decode cX10_cover pc = .ok (.ireturn, 1) → r32 r ∧ (false = true → r = 0 ∨ r = 1) → narrow .int (.int (iI r)) = .int (iI r) → W p l e (rX10_cover mc msl) s mt args below meth c H locs cells slots Q (F0 mt pc ls [.int (iI r)])) : W p l e (rX10_cover mc msl) s mt args below meth c H locs cells slots Q (F0 mt 15 ls []) := by
  have hXx := xX10_cover_15 hF S.g
  have hle : cells ≤ mc ∧ slots ≤ msl := by
    have h1 := hXx.1.1
    have h2 := hXx.1.2.1
    omega
  unfold bX10_cover_15 at hF
  refine q_iconst C (-1) dX10_cover_15 ?_
  cases hF
  exact Kr _ _ _ _ _ _ _ hq.1 hn S dX10_cover_16 ⟨(rl (-1) rfl), fun h9 => absurd h9 (by decide)⟩ rfl
theorem xX10_cover_37 {g : Shp} {m : Mem} {x0 x1 x2 z0 : Int} {r : Int} {g' : Shp} {m' : Mem} (hF : bX10_cover_37 x0 x1 x2 z0 g m = some (r, g', m')) (hg : gOk g) : gX g g' ∧ gOk g' := by
  unfold bX10_cover_37 at hF
  by_cases hc1 : (m z0 7) = 0
  · have hF := if_t hc1 hF
    cases hF
    exact ⟨gX.rf _, hg⟩
  · have hF := if_f hc1 hF
    obtain ⟨v2, m3, h4, hF⟩ := bd2_ok hF
    obtain ⟨k5, hF⟩ := ck_ok hF
    obtain ⟨k6, hF⟩ := ck_ok hF
    obtain ⟨k7, hF⟩ := ck_ok hF
    obtain ⟨i8, hF⟩ := ck_ok hF
    obtain ⟨k9, hF⟩ := ck_ok hF
    obtain ⟨v10, m11, h12, hF⟩ := bd2_ok hF
    cases hF
    exact ⟨gX.rf _, hg⟩
set_option maxRecDepth 20000 in
theorem wX10_cover_37 {p : Program} {l : Launch} {e : Env} {s : State} {mt : MethodId} {args : Array Value} {below : List Frame} {meth : Method} {c : Code} {Q : State → Prop} {G : Gl} {A : Nat → Prop} {H0 : Heap} {ad : Int → Nat} {g : Shp} {ad0 : Int → Nat} {g0 : Shp} {n0 t0 cells slots mc msl : Nat} {H : Heap} {locs : List Loc} {ls : Array Slot} {m : Mem} {x0 x1 x2 z0 : Int} (C : CallFix p mt c cX10_cover 4 s args tb RX10) (S : Wd G A s H0 ad g m H locs) (hx0 : gk g x0 = 11) (hx1 : r32 x1) (hx2 : r32 x2) (hz0 : gk g z0 = 10) (hl : lv_has ls 4 [(0, .ref (ad x0)), (1, .int (iI x1)), (2, .int (iI x2))]) (hq : aX g0 ad0 ad ∧ gX g0 g) (hn : gn g = n0 + cells ∧ gs g = t0 + slots) {r : Int} {g' : Shp} {m' : Mem} (hF : bX10_cover_37 x0 x1 x2 z0 g m = some (r, g', m')) (he : gn g' ≤ n0 + mc ∧ gs g' ≤ t0 + msl) (Kr : ∀ (ad : Int → Nat) (H : Heap) (locs : List Loc) (pc : Nat) (ls : Array Slot) (cells slots : Nat), aX g0 ad0 ad → gn g' = n0 + cells ∧ gs g' = t0 + slots → Wd G A s H0 ad g' m' H locs → decode cX10_cover pc = .ok (.ireturn, 1) → r32 r ∧ (false = true → r = 0 ∨ r = 1) → narrow .int (.int (iI r)) = .int (iI r) → W p l e (rX10_cover mc msl) s mt args below meth c H locs cells slots Q (F0 mt pc ls [.int (iI r)])) : W p l e (rX10_cover mc msl) s mt args below meth c H locs cells slots Q (F0 mt 37 ls [.ref (ad z0)]) := by
  have hXx := xX10_cover_37 hF S.g
  have hle : cells ≤ mc ∧ slots ≤ msl := by
    have h1 := hXx.1.1
    have h2 := hXx.1.2.1
    omega
  unfold bX10_cover_37 at hF
  refine q_astore_n C hl [(3, .ref (ad z0)), (0, .ref (ad x0)), (1, .int (iI x1)), (2, .int (iI x2))] rfl rfl (by decide) rfl dX10_cover_37 (fun ls hl => ?_)
  refine q_aload_n C hl 0 rfl rfl dX10_cover_38 ?_
  refine q_geti C S 7 fo_RX10_158 (j := 7) rfl rfl hz0 dX10_cover_39 ?_
  refine q_if_ne C (S.r _ _) 48 dX10_cover_42 (by decide) (fun hc1 => ?_) (fun hc1 => ?_)
  · have hF := if_t hc1 hF
    refine q_bipush C (-4) (by decide) dX10_cover_45 ?_
    cases hF
    exact Kr _ _ _ _ _ _ _ hq.1 hn S dX10_cover_47 ⟨(rl (-4) rfl), fun h9 => absurd h9 (by decide)⟩ rfl
  · have hF := if_f hc1 hF
    refine q_aload_n C hl 1 rfl rfl dX10_cover_48 ?_
    obtain ⟨v2, m3, h4, hF⟩ := bd2_ok hF
    refine q_cv S (run_V (As := []) (rest := []) C S (cX10_beginChange_ok l G hx0 h4 ad _) hx0 ⟨by decide, _, _, rfl⟩ gd_RX10_90 hdV_X10_beginChange rfl ⟨rfl, rfl, (Nat.le_of_ble_eq_true rfl), (Nat.le_of_ble_eq_true rfl)⟩ hle hl.1 rfl (Nat.le_of_ble_eq_true rfl) dX10_cover_49) (fun H locs Sm3 => ?_)
    refine q_aload_n C hl 1 rfl rfl dX10_cover_52 ?_
    obtain ⟨k5, hF⟩ := ck_ok hF
    refine q_getr C Sm3 2 fo_RX10_26 (j := 2) rfl rfl hx0 k5 (by decide) dX10_cover_53 ?_
    refine q_iload_n C hl 2 rfl rfl dX10_cover_56 ?_
    refine q_aload_n C hl 1 rfl rfl dX10_cover_57 ?_
    obtain ⟨k6, hF⟩ := ck_ok hF
    refine q_getr C Sm3 6 fo_RX10_53 (j := 6) rfl rfl hx0 k6 (by decide) dX10_cover_58 ?_
    obtain ⟨k7, hF⟩ := ck_ok hF
    refine q_getr C Sm3 2 fo_RX10_97 (j := 2) rfl rfl k6 k7 (by decide) dX10_cover_61 ?_
    refine q_iload_n C hl 2 rfl rfl dX10_cover_64 ?_
    obtain ⟨i8, hF⟩ := ck_ok hF
    obtain ⟨k9, hF⟩ := ck_ok hF
    refine q_aald C Sm3 k7 (by decide) i8 k9 (by decide) dX10_cover_65 ?_
    refine q_iload_n C hl 3 rfl rfl dX10_cover_66 ?_
    refine q_aload_n C hl 0 rfl rfl dX10_cover_67 ?_
    obtain ⟨v10, m11, h12, hF⟩ := bd2_ok hF
    refine q_cv Sm3 (run_V (As := [.int (iI x1), .ref (ad (m3 (m3 (m3 x0 6) 2) x1)), .int (iI x2), .ref (ad z0)]) (rest := []) C Sm3 (cX1_putDown_ok l G k5 hx1 k9 hx2 hz0 h12 ad _) k5 ⟨by decide, _, _, rfl⟩ gd_RX10_166 hdV_X1_putDown rfl ⟨rfl, rfl, (Nat.le_of_ble_eq_true rfl), (Nat.le_of_ble_eq_true rfl)⟩ hle hl.1 rfl (Nat.le_of_ble_eq_true rfl) dX10_cover_68) (fun H locs Sm11 => ?_)
    refine q_aload_n C hl 0 rfl rfl dX10_cover_71 ?_
    refine q_geti C Sm11 5 fo_RX10_162 (j := 5) rfl rfl hz0 dX10_cover_72 ?_
    cases hF
    exact Kr _ _ _ _ _ _ _ hq.1 hn Sm11 dX10_cover_75 ⟨(Sm11.r _ _), fun h9 => absurd h9 (by decide)⟩ rfl
theorem xX10_cover_0 {g : Shp} {m : Mem} {x0 x1 x2 : Int} {r : Int} {g' : Shp} {m' : Mem} (hF : bX10_cover_0 x0 x1 x2 g m = some (r, g', m')) (hg : gOk g) : gX g g' ∧ gOk g' := by
  unfold bX10_cover_0 at hF
  obtain ⟨v1, m2, h3, hF⟩ := bd2_ok hF
  by_cases hc5 : v1 = 0
  · have hF := if_t hc5 hF
    exact xX10_cover_15 hF hg
  · have hF := if_f hc5 hF
    obtain ⟨v6, m7, h8, hF⟩ := bd2_ok hF
    by_cases hc10 : v6 = 0
    · have hF := if_t hc10 hF
      exact xX10_cover_15 hF hg
    · have hF := if_f hc10 hF
      obtain ⟨k11, hF⟩ := ck_ok hF
      obtain ⟨v12, m13, h14, hF⟩ := bd2_ok hF
      by_cases hc16 : v12 = 0
      · have hF := if_t hc16 hF
        obtain ⟨v17, g18, m19, h20, hF⟩ := bd3_ok hF
        have hX3 := xX10_wayOf_f h20 hg
        obtain ⟨k22, hF⟩ := ck_ok hF
        have hG2 := hX3.2
        have hX2 := hX3.1
        exact gX2 hX2 (xX10_cover_37 hF hG2)
      · have hF := if_f hc16 hF
        cases hF
        exact ⟨gX.rf _, hg⟩
set_option maxRecDepth 20000 in
theorem wX10_cover_0 {p : Program} {l : Launch} {e : Env} {s : State} {mt : MethodId} {args : Array Value} {below : List Frame} {meth : Method} {c : Code} {Q : State → Prop} {G : Gl} {A : Nat → Prop} {H0 : Heap} {ad : Int → Nat} {g : Shp} {ad0 : Int → Nat} {g0 : Shp} {n0 t0 cells slots mc msl : Nat} {H : Heap} {locs : List Loc} {ls : Array Slot} {m : Mem} {x0 x1 x2 : Int} (C : CallFix p mt c cX10_cover 4 s args tb RX10) (S : Wd G A s H0 ad g m H locs) (hx0 : gk g x0 = 11) (hx1 : r32 x1) (hx2 : r32 x2) (hl : lv_has ls 4 [(0, .ref (ad x0)), (1, .int (iI x1)), (2, .int (iI x2))]) (hq : aX g0 ad0 ad ∧ gX g0 g) (hn : gn g = n0 + cells ∧ gs g = t0 + slots) {r : Int} {g' : Shp} {m' : Mem} (hF : bX10_cover_0 x0 x1 x2 g m = some (r, g', m')) (he : gn g' ≤ n0 + mc ∧ gs g' ≤ t0 + msl) (Kr : ∀ (ad : Int → Nat) (H : Heap) (locs : List Loc) (pc : Nat) (ls : Array Slot) (cells slots : Nat), aX g0 ad0 ad → gn g' = n0 + cells ∧ gs g' = t0 + slots → Wd G A s H0 ad g' m' H locs → decode cX10_cover pc = .ok (.ireturn, 1) → r32 r ∧ (false = true → r = 0 ∨ r = 1) → narrow .int (.int (iI r)) = .int (iI r) → W p l e (rX10_cover mc msl) s mt args below meth c H locs cells slots Q (F0 mt pc ls [.int (iI r)])) : W p l e (rX10_cover mc msl) s mt args below meth c H locs cells slots Q (F0 mt 0 ls []) := by
  have hXx := xX10_cover_0 hF S.g
  have hle : cells ≤ mc ∧ slots ≤ msl := by
    have h1 := hXx.1.1
    have h2 := hXx.1.2.1
    omega
  unfold bX10_cover_0 at hF
  refine q_aload_n C hl 0 rfl rfl dX10_cover_0 ?_
  refine q_iload_n C hl 1 rfl rfl dX10_cover_1 ?_
  obtain ⟨v1, m2, h3, hF⟩ := bd2_ok hF
  refine q_ci S (run_V (As := [.int (iI x1)]) (rest := []) C S (cX10_isLine_ok l G hx0 hx1 h3 ad _) hx0 ⟨by decide, _, _, rfl⟩ gd_RX10_93 hdV_X10_isLine rfl ⟨rfl, rfl, (Nat.le_of_ble_eq_true rfl), (Nat.le_of_ble_eq_true rfl)⟩ hle hl.1 rfl (Nat.le_of_ble_eq_true rfl) dX10_cover_2) (fun H locs Sm2 h4 => ?_)
  refine q_if_eq C h4.1 15 dX10_cover_5 (by decide) (fun hc5 => ?_) (fun hc5 => ?_)
  · have hF := if_t hc5 hF
    exact wX10_cover_15 C Sm2  (lv_sub hl [] rfl) hq hn hF he Kr
  · have hF := if_f hc5 hF
    refine q_iload_n C hl 2 rfl rfl dX10_cover_8 ?_
    obtain ⟨v6, m7, h8, hF⟩ := bd2_ok hF
    refine q_ci Sm2 (run_S (As := [.int (iI x2)]) (rest := []) C Sm2 (cX10_isColour_ok l G hx2 h8 ad _) gd_RX10_151 hd_X10_isColour rfl ⟨rfl, rfl, (Nat.le_of_ble_eq_true rfl), (Nat.le_of_ble_eq_true rfl)⟩ hle hl.1 rfl (Nat.le_of_ble_eq_true rfl) dX10_cover_9) (fun H locs Sm7 h9 => ?_)
    refine q_if_ne C h9.1 17 dX10_cover_12 (by decide) (fun hc10 => ?_) (fun hc10 => ?_)
    · have hF := if_t hc10 hF
      exact wX10_cover_15 C Sm7  (lv_sub hl [] rfl) hq hn hF he Kr
    · have hF := if_f hc10 hF
      refine q_aload_n C hl 0 rfl rfl dX10_cover_17 ?_
      obtain ⟨k11, hF⟩ := ck_ok hF
      refine q_getr C Sm7 2 fo_RX10_26 (j := 2) rfl rfl hx0 k11 (by decide) dX10_cover_18 ?_
      refine q_iload_n C hl 1 rfl rfl dX10_cover_21 ?_
      obtain ⟨v12, m13, h14, hF⟩ := bd2_ok hF
      refine q_ci Sm7 (run_V (As := [.int (iI x1)]) (rest := []) C Sm7 (cX1_isCovered_ok l G k11 hx1 h14 ad _) k11 ⟨by decide, _, _, rfl⟩ gd_RX10_133 hdV_X1_isCovered rfl ⟨rfl, rfl, (Nat.le_of_ble_eq_true rfl), (Nat.le_of_ble_eq_true rfl)⟩ hle hl.1 rfl (Nat.le_of_ble_eq_true rfl) dX10_cover_22) (fun H locs Sm13 h15 => ?_)
      refine q_if_eq C h15.1 31 dX10_cover_25 (by decide) (fun hc16 => ?_) (fun hc16 => ?_)
      · have hF := if_t hc16 hF
        refine q_aload_n C hl 0 rfl rfl dX10_cover_31 ?_
        refine q_iload_n C hl 1 rfl rfl dX10_cover_32 ?_
        refine q_iload_n C hl 2 rfl rfl dX10_cover_33 ?_
        obtain ⟨v17, g18, m19, h20, hF⟩ := bd3_ok hF
        have hX3 := xX10_wayOf_f h20 Sm13.g
        obtain ⟨k22, hF⟩ := ck_ok hF
        have hG2 := hX3.2
        have hX2 := hX3.1
        have hXr := (xX10_cover_37 hF hG2).1
        refine q_crA Sm13 (run_V (As := [.int (iI x1), .int (iI x2)]) (rest := []) C Sm13 (cX10_wayOf_ok l G hx0 hx1 hx2 h20 ad _) hx0 ⟨by decide, _, _, rfl⟩ gd_RX10_154 hdV_X10_wayOf rfl ⟨rfl, rfl, (Nat.le_of_ble_eq_true rfl), (Nat.le_of_ble_eq_true rfl)⟩ (by have h1 := hXr.1; have h2 := hXr.2.1; have h3 := hX2.1; have h4 := hX2.2.1; exact ⟨by show _ ≤ mc; omega, by show _ ≤ msl; omega⟩) hl.1 rfl (Nat.le_of_ble_eq_true rfl) dX10_cover_34) (fun ad21 H locs hax Sm19 h23 => ?_)
        have hq : aX g0 ad0 ad21 ∧ gX g0 g18 := ⟨hq.1.tr hq.2 hax, hq.2.tr hX2⟩
        have hn : gn g18 = n0 + (cells + (gn g18 - gn g)) ∧ gs g18 = t0 + (slots + (gs g18 - gs g)) := by have h3 := hX2.1; have h4 := hX2.2.1; omega
        have k24 := hX2.k hx0 (by decide)
        have ak24 : ad21 x0 = ad x0 := hax _ (kz hx0 (by decide))
        rw [← ak24] at hl
        exact wX10_cover_37 C Sm19 k24 hx1 hx2 k22 (lv_sub hl [0, 1, 2] rfl) hq hn hF he Kr
      · have hF := if_f hc16 hF
        refine q_bipush C (-2) (by decide) dX10_cover_28 ?_
        cases hF
        exact Kr _ _ _ _ _ _ _ hq.1 hn Sm13 dX10_cover_30 ⟨(rl (-2) rfl), fun h9 => absurd h9 (by decide)⟩ rfl
theorem xX10_cover_f {x0 x1 x2 : Int} {g : Shp} {m : Mem} {r : Int} {g' : Shp} {m' : Mem} (hF : fX10_cover x0 x1 x2 g m = some (r, g', m')) (hg : gOk g) : gX g g' ∧ gOk g' := xX10_cover_0 hF hg
theorem cX10_cover_ok (l : Launch) (G : Gl) {x0 x1 x2 : Int} {g : Shp} {m : Mem} {r : Int} {g' : Shp} {m' : Mem} (hx0 : gk g x0 = 11) (hx1 : r32 x1) (hx2 : r32 x2) (hF : fX10_cover x0 x1 x2 g m = some (r, g', m')) : mIA l yX10_cover (wT yX10_cover cX10_cover 4 (some .int)) rX10_cover G false (fun ad => [.ref (ad x0), .int (iI x1), .int (iI x2)]) g m r g' m' :=
  met_iA (rm := rX10_cover) (by decide) (fun ad => Nat.le_of_ble_eq_true rfl) (fun hg => (xX10_cover_f hF hg).1) (fun p e s mt args below meth c Q A H0 H locs ad ls mc msl hmc hms C hnm S hl Kr => wX10_cover_0 (n0 := gn g) (t0 := gs g) C S hx0 hx1 hx2 hl ⟨fun _ _ => rfl, gX.rf _⟩ ⟨rfl, rfl⟩ hF (by have h9 := (xX10_cover_f hF S.g).1; have h1 := h9.1; have h2 := h9.2.1; omega) Kr)
theorem xX10_searchOrders_190 {fr : Int → Int → Int → Int → Shp → Mem → Option (Int × Shp × Mem)} (hfx : ∀ {x0 x1 x2 x3 : Int} {g : Shp} {m : Mem} {r : Int} {g' : Shp} {m' : Mem}, fr x0 x1 x2 x3 g m = some (r, g', m') → gOk g → gX g g' ∧ gOk g') {g : Shp} {m : Mem} {x0 x1 x2 x3 x4 x5 : Int} {c1 : Int} {s1 : (Int × Int × Shp × Mem)} (hF : bX10_searchOrders_190 fr x0 x1 x2 x3 x4 x5 g m = some (c1, s1)) (hg : gOk g) : gX g s1.2.2.1 ∧ gOk s1.2.2.1 := by
  unfold bX10_searchOrders_190 at hF
  obtain ⟨y1, ey1, hF⟩ := vv_ok hF
  cases hF
  exact ⟨gX.rf _, hg⟩
set_option maxRecDepth 20000 in
theorem wX10_searchOrders_190 {p : Program} {l : Launch} {e : Env} {s : State} {mt : MethodId} {args : Array Value} {below : List Frame} {meth : Method} {c : Code} {Q : State → Prop} {G : Gl} {A : Nat → Prop} {H0 : Heap} {ad : Int → Nat} {g : Shp} {ad0 : Int → Nat} {g0 : Shp} {n0 t0 cells slots mc msl : Nat} {d : Nat} {fr : Int → Int → Int → Int → Shp → Mem → Option (Int × Shp × Mem)} (hfr : ∀ {x0 x1 x2 x3 : Int} {g : Shp} {m : Mem} {r : Int} {g' : Shp} {m' : Mem}, gk g x0 = 11 → r32 x1 → gk g x2 = 2 → r32 x3 → fr x0 x1 x2 x3 g m = some (r, g', m') → mVA l yX10_searchOrders (wT yX10_searchOrders cX10_searchOrders 9 none) (rX10_searchOrders d) G (fun ad => [.ref (ad x0), .int (iI x1), .ref (ad x2), .int (iI x3)]) g m g' m') (hfx : ∀ {x0 x1 x2 x3 : Int} {g : Shp} {m : Mem} {r : Int} {g' : Shp} {m' : Mem}, fr x0 x1 x2 x3 g m = some (r, g', m') → gOk g → gX g g' ∧ gOk g') {H : Heap} {locs : List Loc} {ls : Array Slot} {m : Mem} {x0 x1 x2 x3 x4 x5 : Int} (C : CallFix p mt c cX10_searchOrders 9 s args tb RX10) (S : Wd G A s H0 ad g m H locs) (hx0 : gk g x0 = 11) (hx1 : r32 x1) (hx2 : gk g x2 = 2) (hx3 : r32 x3) (hx4 : r32 x4) (hx5 : r32 x5) (hl : lv_has ls 9 [(0, .ref (ad x0)), (1, .int (iI x1)), (2, .ref (ad x2)), (3, .int (iI x3)), (4, .int (iI x4)), (5, .int (iI x5))]) (hq : aX g0 ad0 ad ∧ gX g0 g) (hn : gn g = n0 + cells ∧ gs g = t0 + slots) {c1 : Int} {s1 : (Int × Int × Shp × Mem)} (hF : bX10_searchOrders_190 fr x0 x1 x2 x3 x4 x5 g m = some (c1, s1)) (he : gn s1.2.2.1 ≤ n0 + mc ∧ gs s1.2.2.1 ≤ t0 + msl) (K0 : c1 = 0 → ∀ (ad : Int → Nat) (H : Heap) (locs : List Loc) (ls : Array Slot) (cells slots : Nat), aX g0 ad0 ad ∧ gX g0 s1.2.2.1 → gn s1.2.2.1 = n0 + cells ∧ gs s1.2.2.1 = t0 + slots → gk s1.2.2.1 x0 = 11 → gk s1.2.2.1 x2 = 2 → r32 s1.1 → r32 s1.2.1 → Wd G A s H0 ad s1.2.2.1 s1.2.2.2 H locs → lv_has ls 9 [(0, .ref (ad x0)), (1, .int (iI x1)), (2, .ref (ad x2)), (3, .int (iI x3)), (4, .int (iI s1.1)), (5, .int (iI s1.2.1))] → W p l e (rX10_searchOrders (d + 1) mc msl) s mt args below meth c H locs cells slots Q (F0 mt 6 ls [])) (K1 : c1 = 1 → ∀ (ad : Int → Nat) (H : Heap) (locs : List Loc) (ls : Array Slot) (cells slots : Nat), aX g0 ad0 ad ∧ gX g0 s1.2.2.1 → gn s1.2.2.1 = n0 + cells ∧ gs s1.2.2.1 = t0 + slots → gk s1.2.2.1 x0 = 11 → r32 s1.1 → Wd G A s H0 ad s1.2.2.1 s1.2.2.2 H locs → lv_has ls 9 [(0, .ref (ad x0)), (1, .int (iI x1)), (3, .int (iI x3)), (4, .int (iI s1.1))] → W p l e (rX10_searchOrders (d + 1) mc msl) s mt args below meth c H locs cells slots Q (F0 mt 196 ls [])) : W p l e (rX10_searchOrders (d + 1) mc msl) s mt args below meth c H locs cells slots Q (F0 mt 190 ls []) := by
  have hXx := xX10_searchOrders_190 hfx hF S.g
  have hle : cells ≤ mc ∧ slots ≤ msl := by
    have h1 := hXx.1.1
    have h2 := hXx.1.2.1
    omega
  unfold bX10_searchOrders_190 at hF
  obtain ⟨y1, ey1, hF⟩ := vv_ok hF
  have ry1 : r32 y1 := ey1 ▸ r32_w _
  refine q_iinc C hl 5 [(5, .int (iI y1)), (0, .ref (ad x0)), (1, .int (iI x1)), (2, .ref (ad x2)), (3, .int (iI x3)), (4, .int (iI x4))] rfl ey1 (by decide) rfl dX10_searchOrders_190 (fun ls hl => ?_)
  refine q_goto C 6 dX10_searchOrders_193 (by decide) ?_
  cases hF
  exact K0 rfl _ _ _ _ _ _ hq hn hx0 hx2 hx4 ry1 S (lv_sub hl [1, 2, 3, 4, 5, 0] rfl)
theorem xX10_searchOrders_91 {fr : Int → Int → Int → Int → Shp → Mem → Option (Int × Shp × Mem)} (hfx : ∀ {x0 x1 x2 x3 : Int} {g : Shp} {m : Mem} {r : Int} {g' : Shp} {m' : Mem}, fr x0 x1 x2 x3 g m = some (r, g', m') → gOk g → gX g g' ∧ gOk g') {g : Shp} {m : Mem} {x0 x1 x2 x3 x4 x5 x6 x7 : Int} {c1 : Int} {s1 : (Int × Int × Shp × Mem)} (hF : bX10_searchOrders_91 fr x0 x1 x2 x3 x4 x5 x6 x7 g m = some (c1, s1)) (hg : gOk g) : gX g s1.2.2.1 ∧ gOk s1.2.2.1 := by
  unfold bX10_searchOrders_91 at hF
  obtain ⟨y1, ey1, hF⟩ := vv_ok hF
  by_cases hc2 : (m x7 7) = 0
  · have hF := if_t hc2 hF
    exact xX10_searchOrders_190 hfx hF hg
  · have hF := if_f hc2 hF
    obtain ⟨k3, hF⟩ := ck_ok hF
    obtain ⟨v4, m5, h6, hF⟩ := bd2_ok hF
    by_cases hc8 : v4 = 0
    · have hF := if_t hc8 hF
      exact xX10_searchOrders_190 hfx hF hg
    · have hF := if_f hc8 hF
      obtain ⟨k9, hF⟩ := ck_ok hF
      obtain ⟨k10, hF⟩ := ck_ok hF
      obtain ⟨i11, hF⟩ := ck_ok hF
      obtain ⟨k12, hF⟩ := ck_ok hF
      obtain ⟨v13, m14, h15, hF⟩ := bd2_ok hF
      obtain ⟨k16, hF⟩ := ck_ok hF
      obtain ⟨k17, hF⟩ := ck_ok hF
      obtain ⟨i18, hF⟩ := ck_ok hF
      obtain ⟨k19, hF⟩ := ck_ok hF
      obtain ⟨k20, hF⟩ := ck_ok hF
      obtain ⟨i21, hF⟩ := ck_ok hF
      obtain ⟨v22, m23, h24, hF⟩ := bd2_ok hF
      obtain ⟨k25, hF⟩ := ck_ok hF
      obtain ⟨k26, hF⟩ := ck_ok hF
      obtain ⟨i27, hF⟩ := ck_ok hF
      obtain ⟨m28, em28, hF⟩ := vm_ok hF
      obtain ⟨k29, hF⟩ := ck_ok hF
      obtain ⟨k30, hF⟩ := ck_ok hF
      obtain ⟨i31, hF⟩ := ck_ok hF
      obtain ⟨k32, hF⟩ := ck_ok hF
      obtain ⟨v33, g34, m35, h36, hF⟩ := bd3_ok hF
      have hX3 := hfx h36 hg
      have hG2 := hX3.2
      have hX2 := hX3.1
      exact gX2 hX2 (xX10_searchOrders_190 hfx hF hG2)
set_option maxRecDepth 20000 in
theorem wX10_searchOrders_91 {p : Program} {l : Launch} {e : Env} {s : State} {mt : MethodId} {args : Array Value} {below : List Frame} {meth : Method} {c : Code} {Q : State → Prop} {G : Gl} {A : Nat → Prop} {H0 : Heap} {ad : Int → Nat} {g : Shp} {ad0 : Int → Nat} {g0 : Shp} {n0 t0 cells slots mc msl : Nat} {d : Nat} {fr : Int → Int → Int → Int → Shp → Mem → Option (Int × Shp × Mem)} (hfr : ∀ {x0 x1 x2 x3 : Int} {g : Shp} {m : Mem} {r : Int} {g' : Shp} {m' : Mem}, gk g x0 = 11 → r32 x1 → gk g x2 = 2 → r32 x3 → fr x0 x1 x2 x3 g m = some (r, g', m') → mVA l yX10_searchOrders (wT yX10_searchOrders cX10_searchOrders 9 none) (rX10_searchOrders d) G (fun ad => [.ref (ad x0), .int (iI x1), .ref (ad x2), .int (iI x3)]) g m g' m') (hfx : ∀ {x0 x1 x2 x3 : Int} {g : Shp} {m : Mem} {r : Int} {g' : Shp} {m' : Mem}, fr x0 x1 x2 x3 g m = some (r, g', m') → gOk g → gX g g' ∧ gOk g') {H : Heap} {locs : List Loc} {ls : Array Slot} {m : Mem} {x0 x1 x2 x3 x4 x5 x6 x7 : Int} (C : CallFix p mt c cX10_searchOrders 9 s args tb RX10) (S : Wd G A s H0 ad g m H locs) (hx0 : gk g x0 = 11) (hx1 : r32 x1) (hx2 : gk g x2 = 2) (hx3 : r32 x3) (hx4 : r32 x4) (hx5 : r32 x5) (hx6 : gk g x6 = 6) (hx7 : gk g x7 = 10) (hl : lv_has ls 9 [(0, .ref (ad x0)), (1, .int (iI x1)), (2, .ref (ad x2)), (3, .int (iI x3)), (4, .int (iI x4)), (5, .int (iI x5)), (6, .ref (ad x6)), (7, .ref (ad x7))]) (hq : aX g0 ad0 ad ∧ gX g0 g) (hn : gn g = n0 + cells ∧ gs g = t0 + slots) {c1 : Int} {s1 : (Int × Int × Shp × Mem)} (hF : bX10_searchOrders_91 fr x0 x1 x2 x3 x4 x5 x6 x7 g m = some (c1, s1)) (he : gn s1.2.2.1 ≤ n0 + mc ∧ gs s1.2.2.1 ≤ t0 + msl) (K0 : c1 = 0 → ∀ (ad : Int → Nat) (H : Heap) (locs : List Loc) (ls : Array Slot) (cells slots : Nat), aX g0 ad0 ad ∧ gX g0 s1.2.2.1 → gn s1.2.2.1 = n0 + cells ∧ gs s1.2.2.1 = t0 + slots → gk s1.2.2.1 x0 = 11 → gk s1.2.2.1 x2 = 2 → r32 s1.1 → r32 s1.2.1 → Wd G A s H0 ad s1.2.2.1 s1.2.2.2 H locs → lv_has ls 9 [(0, .ref (ad x0)), (1, .int (iI x1)), (2, .ref (ad x2)), (3, .int (iI x3)), (4, .int (iI s1.1)), (5, .int (iI s1.2.1))] → W p l e (rX10_searchOrders (d + 1) mc msl) s mt args below meth c H locs cells slots Q (F0 mt 6 ls [])) (K1 : c1 = 1 → ∀ (ad : Int → Nat) (H : Heap) (locs : List Loc) (ls : Array Slot) (cells slots : Nat), aX g0 ad0 ad ∧ gX g0 s1.2.2.1 → gn s1.2.2.1 = n0 + cells ∧ gs s1.2.2.1 = t0 + slots → gk s1.2.2.1 x0 = 11 → r32 s1.1 → Wd G A s H0 ad s1.2.2.1 s1.2.2.2 H locs → lv_has ls 9 [(0, .ref (ad x0)), (1, .int (iI x1)), (3, .int (iI x3)), (4, .int (iI s1.1))] → W p l e (rX10_searchOrders (d + 1) mc msl) s mt args below meth c H locs cells slots Q (F0 mt 196 ls [])) : W p l e (rX10_searchOrders (d + 1) mc msl) s mt args below meth c H locs cells slots Q (F0 mt 91 ls []) := by
  have hXx := xX10_searchOrders_91 hfx hF S.g
  have hle : cells ≤ mc ∧ slots ≤ msl := by
    have h1 := hXx.1.1
    have h2 := hXx.1.2.1
    omega
  unfold bX10_searchOrders_91 at hF
  refine q_iload_n C hl 3 rfl rfl dX10_searchOrders_91 ?_
  refine q_aload C hl 7 rfl dX10_searchOrders_92 ?_
  refine q_geti C S 5 fo_RX10_162 (j := 5) rfl rfl hx7 dX10_searchOrders_94 ?_
  refine q_iadd C dX10_searchOrders_97 ?_
  obtain ⟨y1, ey1, hF⟩ := vv_ok hF
  have ry1 : r32 y1 := ey1 ▸ (r32_w _)
  refine q_istore C hl [(8, .int (iI y1)), (0, .ref (ad x0)), (1, .int (iI x1)), (2, .ref (ad x2)), (3, .int (iI x3)), (4, .int (iI x4)), (5, .int (iI x5)), (6, .ref (ad x6)), (7, .ref (ad x7))] ey1 (by decide) rfl dX10_searchOrders_98 (fun ls hl => ?_)
  refine q_aload C hl 8 rfl dX10_searchOrders_100 ?_
  refine q_geti C S 7 fo_RX10_158 (j := 7) rfl rfl hx7 dX10_searchOrders_102 ?_
  refine q_if_eq C (S.r _ _) 190 dX10_searchOrders_105 (by decide) (fun hc2 => ?_) (fun hc2 => ?_)
  · have hF := if_t hc2 hF
    exact wX10_searchOrders_190 hfr hfx C S hx0 hx1 hx2 hx3 hx4 hx5 (lv_sub hl [1, 2, 3, 4, 5, 6] rfl) hq hn hF he K0 K1
  · have hF := if_f hc2 hF
    refine q_aload_n C hl 1 rfl rfl dX10_searchOrders_108 ?_
    obtain ⟨k3, hF⟩ := ck_ok hF
    refine q_getr C S 4 fo_RX10_40 (j := 4) rfl rfl hx0 k3 (by decide) dX10_searchOrders_109 ?_
    refine q_iload C hl 0 rfl dX10_searchOrders_112 ?_
    obtain ⟨v4, m5, h6, hF⟩ := bd2_ok hF
    refine q_ci S (run_V (As := [.int (iI y1)]) (rest := []) C S (cX3_isFewer_ok l G k3 ry1 h6 ad _) k3 ⟨by decide, _, _, rfl⟩ gd_RX10_251 hdV_X3_isFewer rfl ⟨rfl, rfl, by dsimp only [rX10_searchOrders, rX3_isFewer]; omega, by dsimp only [rX10_searchOrders, rX3_isFewer]; omega⟩ hle hl.1 rfl (Nat.le_of_ble_eq_true rfl) dX10_searchOrders_114) (fun H locs Sm5 h7 => ?_)
    refine q_if_eq C h7.1 190 dX10_searchOrders_117 (by decide) (fun hc8 => ?_) (fun hc8 => ?_)
    · have hF := if_t hc8 hF
      exact wX10_searchOrders_190 hfr hfx C Sm5 hx0 hx1 hx2 hx3 hx4 hx5 (lv_sub hl [1, 2, 3, 4, 5, 6] rfl) hq hn hF he K0 K1
    · have hF := if_f hc8 hF
      refine q_aload_n C hl 1 rfl rfl dX10_searchOrders_120 ?_
      obtain ⟨k9, hF⟩ := ck_ok hF
      refine q_getr C Sm5 4 fo_RX10_40 (j := 4) rfl rfl hx0 k9 (by decide) dX10_searchOrders_121 ?_
      obtain ⟨k10, hF⟩ := ck_ok hF
      refine q_getr C Sm5 3 fo_RX10_254 (j := 3) rfl rfl k9 k10 (by decide) dX10_searchOrders_124 ?_
      refine q_iload_n C hl 2 rfl rfl dX10_searchOrders_127 ?_
      obtain ⟨i11, hF⟩ := ck_ok hF
      obtain ⟨k12, hF⟩ := ck_ok hF
      refine q_aald C Sm5 k10 (by decide) i11 k12 (by decide) dX10_searchOrders_128 ?_
      refine q_aload_n C hl 3 rfl rfl dX10_searchOrders_129 ?_
      obtain ⟨v13, m14, h15, hF⟩ := bd2_ok hF
      refine q_cv Sm5 (run_V (As := [.ref (ad x2)]) (rest := []) C Sm5 (cX1_copy_ok l G k12 hx2 h15 ad _) k12 ⟨by decide, _, _, rfl⟩ gd_RX10_258 hdV_X1_copy rfl ⟨rfl, rfl, by dsimp only [rX10_searchOrders, rX1_copy]; omega, by dsimp only [rX10_searchOrders, rX1_copy]; omega⟩ hle hl.1 rfl (Nat.le_of_ble_eq_true rfl) dX10_searchOrders_130) (fun H locs Sm14 => ?_)
      refine q_aload_n C hl 1 rfl rfl dX10_searchOrders_133 ?_
      obtain ⟨k16, hF⟩ := ck_ok hF
      refine q_getr C Sm14 4 fo_RX10_40 (j := 4) rfl rfl hx0 k16 (by decide) dX10_searchOrders_134 ?_
      obtain ⟨k17, hF⟩ := ck_ok hF
      refine q_getr C Sm14 3 fo_RX10_254 (j := 3) rfl rfl k16 k17 (by decide) dX10_searchOrders_137 ?_
      refine q_iload_n C hl 2 rfl rfl dX10_searchOrders_140 ?_
      obtain ⟨i18, hF⟩ := ck_ok hF
      obtain ⟨k19, hF⟩ := ck_ok hF
      refine q_aald C Sm14 k17 (by decide) i18 k19 (by decide) dX10_searchOrders_141 ?_
      refine q_iload C hl 6 rfl dX10_searchOrders_142 ?_
      refine q_aload C hl 7 rfl dX10_searchOrders_144 ?_
      refine q_aload_n C hl 1 rfl rfl dX10_searchOrders_146 ?_
      refine q_getr C Sm14 4 fo_RX10_40 (j := 4) rfl rfl hx0 k16 (by decide) dX10_searchOrders_147 ?_
      obtain ⟨k20, hF⟩ := ck_ok hF
      refine q_getr C Sm14 0 fo_RX10_250 (j := 0) rfl rfl k16 k20 (by decide) dX10_searchOrders_150 ?_
      refine q_iload C hl 6 rfl dX10_searchOrders_153 ?_
      obtain ⟨i21, hF⟩ := ck_ok hF
      refine q_iald C Sm14 k20 i21 dX10_searchOrders_155 ?_
      refine q_aload C hl 8 rfl dX10_searchOrders_156 ?_
      obtain ⟨v22, m23, h24, hF⟩ := bd2_ok hF
      refine q_cv Sm14 (run_V (As := [.int (iI x5), .ref (ad x6), .int (iI (m14 (m14 (m14 x0 4) 0) x5)), .ref (ad x7)]) (rest := []) C Sm14 (cX1_putDown_ok l G k19 hx5 hx6 (Sm14.r _ _) hx7 h24 ad _) k19 ⟨by decide, _, _, rfl⟩ gd_RX10_166 hdV_X1_putDown rfl ⟨rfl, rfl, by dsimp only [rX10_searchOrders, rX1_putDown]; omega, by dsimp only [rX10_searchOrders, rX1_putDown]; omega⟩ hle hl.1 rfl (Nat.le_of_ble_eq_true rfl) dX10_searchOrders_158) (fun H locs Sm23 => ?_)
      refine q_aload_n C hl 1 rfl rfl dX10_searchOrders_161 ?_
      obtain ⟨k25, hF⟩ := ck_ok hF
      refine q_getr C Sm23 4 fo_RX10_40 (j := 4) rfl rfl hx0 k25 (by decide) dX10_searchOrders_162 ?_
      obtain ⟨k26, hF⟩ := ck_ok hF
      refine q_getr C Sm23 1 fo_RX10_261 (j := 1) rfl rfl k25 k26 (by decide) dX10_searchOrders_165 ?_
      refine q_iload_n C hl 2 rfl rfl dX10_searchOrders_168 ?_
      refine q_iload C hl 6 rfl dX10_searchOrders_169 ?_
      obtain ⟨i27, hF⟩ := ck_ok hF
      obtain ⟨m28, em28, hF⟩ := vm_ok hF
      refine q_iast C Sm23 k26 i27 hx5 em28 dX10_searchOrders_171 (fun H locs Sm28 => ?_)
      refine q_aload_n C hl 1 rfl rfl dX10_searchOrders_172 ?_
      refine q_iload_n C hl 2 rfl rfl dX10_searchOrders_173 ?_
      refine q_iconst C 1 dX10_searchOrders_174 ?_
      refine q_iadd C dX10_searchOrders_175 ?_
      refine q_aload_n C hl 1 rfl rfl dX10_searchOrders_176 ?_
      obtain ⟨k29, hF⟩ := ck_ok hF
      refine q_getr C Sm28 4 fo_RX10_40 (j := 4) rfl rfl hx0 k29 (by decide) dX10_searchOrders_177 ?_
      obtain ⟨k30, hF⟩ := ck_ok hF
      refine q_getr C Sm28 3 fo_RX10_254 (j := 3) rfl rfl k29 k30 (by decide) dX10_searchOrders_180 ?_
      refine q_iload_n C hl 2 rfl rfl dX10_searchOrders_183 ?_
      obtain ⟨i31, hF⟩ := ck_ok hF
      obtain ⟨k32, hF⟩ := ck_ok hF
      refine q_aald C Sm28 k30 (by decide) i31 k32 (by decide) dX10_searchOrders_184 ?_
      refine q_iload C hl 0 rfl dX10_searchOrders_185 ?_
      obtain ⟨v33, g34, m35, h36, hF⟩ := bd3_ok hF
      have hX3 := hfx h36 Sm28.g
      have hG2 := hX3.2
      have hX2 := hX3.1
      have hXr := (xX10_searchOrders_190 hfx hF hG2).1
      refine q_cvA Sm28 (run_V (As := [.int (iI (w32 (x1 + 1))), .ref (ad (m28 (m28 (m28 x0 4) 3) x1)), .int (iI y1)]) (rest := []) C Sm28 (hfr hx0 (r32_w _) k32 ry1 h36 ad _) hx0 ⟨by decide, _, _, rfl⟩ gd_RX10_185 hdV_X10_searchOrders rfl ⟨rfl, rfl, by dsimp only [rX10_searchOrders, rX10_searchOrders]; omega, by dsimp only [rX10_searchOrders, rX10_searchOrders]; omega⟩ (by have h1 := hXr.1; have h2 := hXr.2.1; have h3 := hX2.1; have h4 := hX2.2.1; exact ⟨by show _ ≤ mc; omega, by show _ ≤ msl; omega⟩) hl.1 rfl (Nat.le_of_ble_eq_true rfl) dX10_searchOrders_187) (fun ad37 H locs hax Sm35 => ?_)
      have hq : aX g0 ad0 ad37 ∧ gX g0 g34 := ⟨hq.1.tr hq.2 hax, hq.2.tr hX2⟩
      have hn : gn g34 = n0 + (cells + (gn g34 - gn g)) ∧ gs g34 = t0 + (slots + (gs g34 - gs g)) := by have h3 := hX2.1; have h4 := hX2.2.1; omega
      have k38 := hX2.k hx0 (by decide)
      have ak38 : ad37 x0 = ad x0 := hax _ (kz hx0 (by decide))
      have k39 := hX2.k hx2 (by decide)
      have ak39 : ad37 x2 = ad x2 := hax _ (kz hx2 (by decide))
      have k40 := hX2.k hx6 (by decide)
      have ak40 : ad37 x6 = ad x6 := hax _ (kz hx6 (by decide))
      have k41 := hX2.k hx7 (by decide)
      have ak41 : ad37 x7 = ad x7 := hax _ (kz hx7 (by decide))
      rw [← ak38] at hl
      rw [← ak39] at hl
      rw [← ak40] at hl
      rw [← ak41] at hl
      exact wX10_searchOrders_190 hfr hfx C Sm35 k38 hx1 k39 hx3 hx4 hx5 (lv_sub hl [1, 2, 3, 4, 5, 6] rfl) hq hn hF he K0 K1
theorem xX10_searchOrders_6 {fr : Int → Int → Int → Int → Shp → Mem → Option (Int × Shp × Mem)} (hfx : ∀ {x0 x1 x2 x3 : Int} {g : Shp} {m : Mem} {r : Int} {g' : Shp} {m' : Mem}, fr x0 x1 x2 x3 g m = some (r, g', m') → gOk g → gX g g' ∧ gOk g') {g : Shp} {m : Mem} {x0 x1 x2 x3 x4 x5 : Int} {c1 : Int} {s1 : (Int × Int × Shp × Mem)} (hF : bX10_searchOrders_6 fr x0 x1 x2 x3 x4 x5 g m = some (c1, s1)) (hg : gOk g) : gX g s1.2.2.1 ∧ gOk s1.2.2.1 := by
  unfold bX10_searchOrders_6 at hF
  obtain ⟨k1, hF⟩ := ck_ok hF
  by_cases hc2 : (m (m x0 6) 5) ≤ x5
  · have hF := if_t hc2 hF
    cases hF
    exact ⟨gX.rf _, hg⟩
  · have hF := if_f hc2 hF
    obtain ⟨v3, m4, h5, hF⟩ := bd2_ok hF
    by_cases hc7 : v3 = 0
    · have hF := if_t hc7 hF
      obtain ⟨y8, ey8, hF⟩ := vv_ok hF
      by_cases hc9 : x1 < 3
      · have hF := if_t hc9 hF
        obtain ⟨k10, hF⟩ := ck_ok hF
        obtain ⟨k11, hF⟩ := ck_ok hF
        obtain ⟨i12, hF⟩ := ck_ok hF
        obtain ⟨k13, hF⟩ := ck_ok hF
        obtain ⟨y14, ey14, hF⟩ := vv_ok hF
        obtain ⟨k15, hF⟩ := ck_ok hF
        obtain ⟨k16, hF⟩ := ck_ok hF
        obtain ⟨y17, ey17, hF⟩ := vv_ok hF
        obtain ⟨k18, hF⟩ := ck_ok hF
        obtain ⟨k19, hF⟩ := ck_ok hF
        obtain ⟨k20, hF⟩ := ck_ok hF
        obtain ⟨i21, hF⟩ := ck_ok hF
        obtain ⟨v22, g23, m24, h25, hF⟩ := bd3_ok hF
        have hX3 := xX0_find_f h25 hg
        have hG2 := hX3.2
        have hX2 := hX3.1
        exact gX2 hX2 (xX10_searchOrders_91 hfx hF hG2)
      · have hF := if_f hc9 hF
        exact xX10_searchOrders_190 hfx hF hg
    · have hF := if_f hc7 hF
      exact xX10_searchOrders_190 hfx hF hg
set_option maxRecDepth 20000 in
theorem wX10_searchOrders_6 {p : Program} {l : Launch} {e : Env} {s : State} {mt : MethodId} {args : Array Value} {below : List Frame} {meth : Method} {c : Code} {Q : State → Prop} {G : Gl} {A : Nat → Prop} {H0 : Heap} {ad : Int → Nat} {g : Shp} {ad0 : Int → Nat} {g0 : Shp} {n0 t0 cells slots mc msl : Nat} {d : Nat} {fr : Int → Int → Int → Int → Shp → Mem → Option (Int × Shp × Mem)} (hfr : ∀ {x0 x1 x2 x3 : Int} {g : Shp} {m : Mem} {r : Int} {g' : Shp} {m' : Mem}, gk g x0 = 11 → r32 x1 → gk g x2 = 2 → r32 x3 → fr x0 x1 x2 x3 g m = some (r, g', m') → mVA l yX10_searchOrders (wT yX10_searchOrders cX10_searchOrders 9 none) (rX10_searchOrders d) G (fun ad => [.ref (ad x0), .int (iI x1), .ref (ad x2), .int (iI x3)]) g m g' m') (hfx : ∀ {x0 x1 x2 x3 : Int} {g : Shp} {m : Mem} {r : Int} {g' : Shp} {m' : Mem}, fr x0 x1 x2 x3 g m = some (r, g', m') → gOk g → gX g g' ∧ gOk g') {H : Heap} {locs : List Loc} {ls : Array Slot} {m : Mem} {x0 x1 x2 x3 x4 x5 : Int} (C : CallFix p mt c cX10_searchOrders 9 s args tb RX10) (S : Wd G A s H0 ad g m H locs) (hx0 : gk g x0 = 11) (hx1 : r32 x1) (hx2 : gk g x2 = 2) (hx3 : r32 x3) (hx4 : r32 x4) (hx5 : r32 x5) (hl : lv_has ls 9 [(0, .ref (ad x0)), (1, .int (iI x1)), (2, .ref (ad x2)), (3, .int (iI x3)), (4, .int (iI x4)), (5, .int (iI x5))]) (hq : aX g0 ad0 ad ∧ gX g0 g) (hn : gn g = n0 + cells ∧ gs g = t0 + slots) {c1 : Int} {s1 : (Int × Int × Shp × Mem)} (hF : bX10_searchOrders_6 fr x0 x1 x2 x3 x4 x5 g m = some (c1, s1)) (he : gn s1.2.2.1 ≤ n0 + mc ∧ gs s1.2.2.1 ≤ t0 + msl) (K0 : c1 = 0 → ∀ (ad : Int → Nat) (H : Heap) (locs : List Loc) (ls : Array Slot) (cells slots : Nat), aX g0 ad0 ad ∧ gX g0 s1.2.2.1 → gn s1.2.2.1 = n0 + cells ∧ gs s1.2.2.1 = t0 + slots → gk s1.2.2.1 x0 = 11 → gk s1.2.2.1 x2 = 2 → r32 s1.1 → r32 s1.2.1 → Wd G A s H0 ad s1.2.2.1 s1.2.2.2 H locs → lv_has ls 9 [(0, .ref (ad x0)), (1, .int (iI x1)), (2, .ref (ad x2)), (3, .int (iI x3)), (4, .int (iI s1.1)), (5, .int (iI s1.2.1))] → W p l e (rX10_searchOrders (d + 1) mc msl) s mt args below meth c H locs cells slots Q (F0 mt 6 ls [])) (K1 : c1 = 1 → ∀ (ad : Int → Nat) (H : Heap) (locs : List Loc) (ls : Array Slot) (cells slots : Nat), aX g0 ad0 ad ∧ gX g0 s1.2.2.1 → gn s1.2.2.1 = n0 + cells ∧ gs s1.2.2.1 = t0 + slots → gk s1.2.2.1 x0 = 11 → r32 s1.1 → Wd G A s H0 ad s1.2.2.1 s1.2.2.2 H locs → lv_has ls 9 [(0, .ref (ad x0)), (1, .int (iI x1)), (3, .int (iI x3)), (4, .int (iI s1.1))] → W p l e (rX10_searchOrders (d + 1) mc msl) s mt args below meth c H locs cells slots Q (F0 mt 196 ls [])) : W p l e (rX10_searchOrders (d + 1) mc msl) s mt args below meth c H locs cells slots Q (F0 mt 6 ls []) := by
  have hXx := xX10_searchOrders_6 hfx hF S.g
  have hle : cells ≤ mc ∧ slots ≤ msl := by
    have h1 := hXx.1.1
    have h2 := hXx.1.2.1
    omega
  unfold bX10_searchOrders_6 at hF
  refine q_iload C hl 5 rfl dX10_searchOrders_6 ?_
  refine q_aload_n C hl 0 rfl rfl dX10_searchOrders_8 ?_
  obtain ⟨k1, hF⟩ := ck_ok hF
  refine q_getr C S 6 fo_RX10_53 (j := 6) rfl rfl hx0 k1 (by decide) dX10_searchOrders_9 ?_
  refine q_geti C S 5 fo_RX10_214 (j := 5) rfl rfl k1 dX10_searchOrders_12 ?_
  refine q_icmp_ge C hx5 (S.r _ _) 196 dX10_searchOrders_15 (by decide) (fun hc2 => ?_) (fun hc2 => ?_)
  · have hF := if_t hc2 hF
    cases hF
    exact K1 rfl _ _ _ _ _ _ hq hn hx0 hx4 S (lv_sub hl [0, 1, 3, 4] rfl)
  · have hF := if_f hc2 hF
    refine q_aload_n C hl 2 rfl rfl dX10_searchOrders_18 ?_
    refine q_iload C hl 5 rfl dX10_searchOrders_19 ?_
    obtain ⟨v3, m4, h5, hF⟩ := bd2_ok hF
    refine q_ci S (run_V (As := [.int (iI x5)]) (rest := []) C S (cX1_isCovered_ok l G hx2 hx5 h5 ad _) hx2 ⟨by decide, _, _, rfl⟩ gd_RX10_133 hdV_X1_isCovered rfl ⟨rfl, rfl, by dsimp only [rX10_searchOrders, rX1_isCovered]; omega, by dsimp only [rX10_searchOrders, rX1_isCovered]; omega⟩ hle hl.1 rfl (Nat.le_of_ble_eq_true rfl) dX10_searchOrders_21) (fun H locs Sm4 h6 => ?_)
    refine q_if_eq C h6.1 30 dX10_searchOrders_24 (by decide) (fun hc7 => ?_) (fun hc7 => ?_)
    · have hF := if_t hc7 hF
      obtain ⟨y8, ey8, hF⟩ := vv_ok hF
      have ry8 : r32 y8 := ey8 ▸ r32_w _
      refine q_iinc C hl 4 [(4, .int (iI y8)), (0, .ref (ad x0)), (1, .int (iI x1)), (2, .ref (ad x2)), (3, .int (iI x3)), (5, .int (iI x5))] rfl ey8 (by decide) rfl dX10_searchOrders_30 (fun ls hl => ?_)
      refine q_iload_n C hl 2 rfl rfl dX10_searchOrders_33 ?_
      refine q_iconst C 3 dX10_searchOrders_34 ?_
      refine q_icmp_lt C hx1 (rl 3 rfl) 41 dX10_searchOrders_35 (by decide) (fun hc9 => ?_) (fun hc9 => ?_)
      · have hF := if_t hc9 hF
        refine q_aload_n C hl 1 rfl rfl dX10_searchOrders_41 ?_
        obtain ⟨k10, hF⟩ := ck_ok hF
        refine q_getr C Sm4 6 fo_RX10_53 (j := 6) rfl rfl hx0 k10 (by decide) dX10_searchOrders_42 ?_
        obtain ⟨k11, hF⟩ := ck_ok hF
        refine q_getr C Sm4 2 fo_RX10_97 (j := 2) rfl rfl k10 k11 (by decide) dX10_searchOrders_45 ?_
        refine q_iload C hl 5 rfl dX10_searchOrders_48 ?_
        obtain ⟨i12, hF⟩ := ck_ok hF
        obtain ⟨k13, hF⟩ := ck_ok hF
        refine q_aald C Sm4 k11 (by decide) i12 k13 (by decide) dX10_searchOrders_50 ?_
        obtain ⟨y14, ey14, hF⟩ := vv_ok hF
        have ky14 : gk g y14 = 6 := ey14 ▸ k13
        refine q_astore C hl [(6, .ref (ad y14)), (4, .int (iI y8)), (0, .ref (ad x0)), (1, .int (iI x1)), (2, .ref (ad x2)), (3, .int (iI x3)), (5, .int (iI x5))] ey14 (by decide) rfl dX10_searchOrders_51 (fun ls hl => ?_)
        refine q_aload_n C hl 2 rfl rfl dX10_searchOrders_53 ?_
        obtain ⟨k15, hF⟩ := ck_ok hF
        refine q_getr C Sm4 4 fo_RX10_40 (j := 4) rfl rfl hx0 k15 (by decide) dX10_searchOrders_54 ?_
        obtain ⟨k16, hF⟩ := ck_ok hF
        refine q_getr C Sm4 4 fo_RX10_246 (j := 4) rfl rfl k15 k16 (by decide) dX10_searchOrders_57 ?_
        obtain ⟨y17, ey17, hF⟩ := vv_ok hF
        have ky17 : gk g y17 = 10 := ey17 ▸ k16
        refine q_astore C hl [(7, .ref (ad y17)), (6, .ref (ad y14)), (4, .int (iI y8)), (0, .ref (ad x0)), (1, .int (iI x1)), (2, .ref (ad x2)), (3, .int (iI x3)), (5, .int (iI x5))] ey17 (by decide) rfl dX10_searchOrders_60 (fun ls hl => ?_)
        refine q_aload_n C hl 3 rfl rfl dX10_searchOrders_62 ?_
        obtain ⟨k18, hF⟩ := ck_ok hF
        refine q_getr C Sm4 1 fo_RX10_19 (j := 1) rfl rfl hx0 k18 (by decide) dX10_searchOrders_63 ?_
        refine q_aload C hl 1 rfl dX10_searchOrders_66 ?_
        refine q_aload_n C hl 3 rfl rfl dX10_searchOrders_68 ?_
        refine q_getr C Sm4 6 fo_RX10_53 (j := 6) rfl rfl hx0 k10 (by decide) dX10_searchOrders_69 ?_
        obtain ⟨k19, hF⟩ := ck_ok hF
        refine q_getr C Sm4 0 fo_RX10_170 (j := 0) rfl rfl k10 k19 (by decide) dX10_searchOrders_72 ?_
        refine q_aload_n C hl 5 rfl rfl dX10_searchOrders_75 ?_
        refine q_aload_n C hl 3 rfl rfl dX10_searchOrders_76 ?_
        refine q_getr C Sm4 4 fo_RX10_40 (j := 4) rfl rfl hx0 k15 (by decide) dX10_searchOrders_77 ?_
        obtain ⟨k20, hF⟩ := ck_ok hF
        refine q_getr C Sm4 0 fo_RX10_250 (j := 0) rfl rfl k15 k20 (by decide) dX10_searchOrders_80 ?_
        refine q_iload C hl 7 rfl dX10_searchOrders_83 ?_
        obtain ⟨i21, hF⟩ := ck_ok hF
        refine q_iald C Sm4 k20 i21 dX10_searchOrders_85 ?_
        refine q_aload C hl 0 rfl dX10_searchOrders_86 ?_
        obtain ⟨v22, g23, m24, h25, hF⟩ := bd3_ok hF
        have hX3 := xX0_find_f h25 Sm4.g
        have hG2 := hX3.2
        have hX2 := hX3.1
        have hXr := (xX10_searchOrders_91 hfx hF hG2).1
        refine q_cvA Sm4 (run_V (As := [.ref (ad y14), .ref (ad (m4 (m4 x0 6) 0)), .ref (ad x2), .int (iI (m4 (m4 (m4 x0 4) 0) x5)), .ref (ad y17)]) (rest := []) C Sm4 (cX0_find_ok l G k18 ky14 k19 hx2 (Sm4.r _ _) ky17 h25 ad _) k18 ⟨by decide, _, _, rfl⟩ gd_RX10_242 hdV_X0_find rfl ⟨rfl, rfl, by dsimp only [rX10_searchOrders, rX0_find]; omega, by dsimp only [rX10_searchOrders, rX0_find]; omega⟩ (by have h1 := hXr.1; have h2 := hXr.2.1; have h3 := hX2.1; have h4 := hX2.2.1; exact ⟨by show _ ≤ mc; omega, by show _ ≤ msl; omega⟩) hl.1 rfl (Nat.le_of_ble_eq_true rfl) dX10_searchOrders_88) (fun ad26 H locs hax Sm24 => ?_)
        have hq : aX g0 ad0 ad26 ∧ gX g0 g23 := ⟨hq.1.tr hq.2 hax, hq.2.tr hX2⟩
        have hn : gn g23 = n0 + (cells + (gn g23 - gn g)) ∧ gs g23 = t0 + (slots + (gs g23 - gs g)) := by have h3 := hX2.1; have h4 := hX2.2.1; omega
        have k27 := hX2.k hx0 (by decide)
        have ak27 : ad26 x0 = ad x0 := hax _ (kz hx0 (by decide))
        have k28 := hX2.k hx2 (by decide)
        have ak28 : ad26 x2 = ad x2 := hax _ (kz hx2 (by decide))
        have k29 := hX2.k ky14 (by decide)
        have ak29 : ad26 y14 = ad y14 := hax _ (kz ky14 (by decide))
        have k30 := hX2.k ky17 (by decide)
        have ak30 : ad26 y17 = ad y17 := hax _ (kz ky17 (by decide))
        rw [← ak27] at hl
        rw [← ak28] at hl
        rw [← ak29] at hl
        rw [← ak30] at hl
        exact wX10_searchOrders_91 hfr hfx C Sm24 k27 hx1 k28 hx3 ry8 hx5 k29 k30 (lv_sub hl [3, 4, 5, 6, 2, 7, 1, 0] rfl) hq hn hF he K0 K1
      · have hF := if_f hc9 hF
        refine q_goto C 190 dX10_searchOrders_38 (by decide) ?_
        exact wX10_searchOrders_190 hfr hfx C Sm4 hx0 hx1 hx2 hx3 ry8 hx5 (lv_sub hl [1, 2, 3, 4, 0, 5] rfl) hq hn hF he K0 K1
    · have hF := if_f hc7 hF
      refine q_goto C 190 dX10_searchOrders_27 (by decide) ?_
      exact wX10_searchOrders_190 hfr hfx C Sm4 hx0 hx1 hx2 hx3 hx4 hx5 (lv_sub hl [0, 1, 2, 3, 4, 5] rfl) hq hn hF he K0 K1
theorem yX10_searchOrders_6 {fr : Int → Int → Int → Int → Shp → Mem → Option (Int × Shp × Mem)} (hfx : ∀ {x0 x1 x2 x3 : Int} {g : Shp} {m : Mem} {r : Int} {g' : Shp} {m' : Mem}, fr x0 x1 x2 x3 g m = some (r, g', m') → gOk g → gX g g' ∧ gOk g') {x0 x1 x2 x3 : Int} {n : Nat} {s0 s1 : (Int × Int × Shp × Mem)} {c1 : Int} (hI : iter (BX10_searchOrders_6 fr x0 x1 x2 x3) n s0 = some (c1, s1)) (hg : gOk s0.2.2.1) : gX s0.2.2.1 s1.2.2.1 ∧ gOk s1.2.2.1 :=
  iter_gX (B := BX10_searchOrders_6 fr x0 x1 x2 x3) (fun q => q.2.2.1) (fun s c s' hB hg => xX10_searchOrders_6 hfx hB hg) n s0 c1 s1 hI hg
set_option maxRecDepth 20000 in
theorem lX10_searchOrders_6 {p : Program} {l : Launch} {e : Env} {s : State} {mt : MethodId} {args : Array Value} {below : List Frame} {meth : Method} {c : Code} {Q : State → Prop} {G : Gl} {A : Nat → Prop} {H0 : Heap} {ad0 : Int → Nat} {g0 : Shp} {n0 t0 mc msl : Nat} {d : Nat} {fr : Int → Int → Int → Int → Shp → Mem → Option (Int × Shp × Mem)} (hfr : ∀ {x0 x1 x2 x3 : Int} {g : Shp} {m : Mem} {r : Int} {g' : Shp} {m' : Mem}, gk g x0 = 11 → r32 x1 → gk g x2 = 2 → r32 x3 → fr x0 x1 x2 x3 g m = some (r, g', m') → mVA l yX10_searchOrders (wT yX10_searchOrders cX10_searchOrders 9 none) (rX10_searchOrders d) G (fun ad => [.ref (ad x0), .int (iI x1), .ref (ad x2), .int (iI x3)]) g m g' m') (hfx : ∀ {x0 x1 x2 x3 : Int} {g : Shp} {m : Mem} {r : Int} {g' : Shp} {m' : Mem}, fr x0 x1 x2 x3 g m = some (r, g', m') → gOk g → gX g g' ∧ gOk g') {x0 x1 x2 x3 : Int} (C : CallFix p mt c cX10_searchOrders 9 s args tb RX10) (hx1 : r32 x1) (hx3 : r32 x3) {n : Nat} {s0 s1 : (Int × Int × Shp × Mem)} {c1 : Int} (hI : iter (BX10_searchOrders_6 fr x0 x1 x2 x3) n s0 = some (c1, s1)) (he : gn s1.2.2.1 ≤ n0 + mc ∧ gs s1.2.2.1 ≤ t0 + msl) (K1 : c1 = 1 → ∀ (ad : Int → Nat) (H : Heap) (locs : List Loc) (ls : Array Slot) (cells slots : Nat), aX g0 ad0 ad ∧ gX g0 s1.2.2.1 → gn s1.2.2.1 = n0 + cells ∧ gs s1.2.2.1 = t0 + slots → gk s1.2.2.1 x0 = 11 → r32 s1.1 → Wd G A s H0 ad s1.2.2.1 s1.2.2.2 H locs → lv_has ls 9 [(0, .ref (ad x0)), (1, .int (iI x1)), (3, .int (iI x3)), (4, .int (iI s1.1))] → W p l e (rX10_searchOrders (d + 1) mc msl) s mt args below meth c H locs cells slots Q (F0 mt 196 ls [])) : ∀ (ad : Int → Nat) (H : Heap) (locs : List Loc) (ls : Array Slot) (cells slots : Nat), aX g0 ad0 ad ∧ gX g0 s0.2.2.1 → gn s0.2.2.1 = n0 + cells ∧ gs s0.2.2.1 = t0 + slots → gk s0.2.2.1 x0 = 11 → gk s0.2.2.1 x2 = 2 → r32 s0.1 → r32 s0.2.1 → Wd G A s H0 ad s0.2.2.1 s0.2.2.2 H locs → lv_has ls 9 [(0, .ref (ad x0)), (1, .int (iI x1)), (2, .ref (ad x2)), (3, .int (iI x3)), (4, .int (iI s0.1)), (5, .int (iI s0.2.1))] → W p l e (rX10_searchOrders (d + 1) mc msl) s mt args below meth c H locs cells slots Q (F0 mt 6 ls []) := by
  refine iter_WA (Pw := fun q => ∀ (ad : Int → Nat) (H : Heap) (locs : List Loc) (ls : Array Slot) (cells slots : Nat), aX g0 ad0 ad ∧ gX g0 q.2.2.1 → gn q.2.2.1 = n0 + cells ∧ gs q.2.2.1 = t0 + slots → gk q.2.2.1 x0 = 11 → gk q.2.2.1 x2 = 2 → r32 q.1 → r32 q.2.1 → Wd G A s H0 ad q.2.2.1 q.2.2.2 H locs → lv_has ls 9 [(0, .ref (ad x0)), (1, .int (iI x1)), (2, .ref (ad x2)), (3, .int (iI x3)), (4, .int (iI q.1)), (5, .int (iI q.2.1))] → W p l e (rX10_searchOrders (d + 1) mc msl) s mt args below meth c H locs cells slots Q (F0 mt 6 ls [])) (Px := fun c0 q => (c0 = 1 → ∀ (ad : Int → Nat) (H : Heap) (locs : List Loc) (ls : Array Slot) (cells slots : Nat), aX g0 ad0 ad ∧ gX g0 q.2.2.1 → gn q.2.2.1 = n0 + cells ∧ gs q.2.2.1 = t0 + slots → gk q.2.2.1 x0 = 11 → r32 q.1 → Wd G A s H0 ad q.2.2.1 q.2.2.2 H locs → lv_has ls 9 [(0, .ref (ad x0)), (1, .int (iI x1)), (3, .int (iI x3)), (4, .int (iI q.1))] → W p l e (rX10_searchOrders (d + 1) mc msl) s mt args below meth c H locs cells slots Q (F0 mt 196 ls []))) ?_ _ _ hI K1
  intro n s c s' hB hR K0 kx ad H locs ls cells slots hq hn f0 f1 f2 f3 S hl
  have hX1 := xX10_searchOrders_6 hfx hB S.g
  have hX2 : gn s'.2.2.1 ≤ gn s1.2.2.1 ∧ gs s'.2.2.1 ≤ gs s1.2.2.1 := by
    rcases hR with ⟨_, h2⟩ | ⟨_, h2, _⟩
    · have h3 := (yX10_searchOrders_6 hfx h2 hX1.2).1
      exact ⟨h3.1, h3.2.1⟩
    · rw [h2]; exact ⟨Nat.le_refl _, Nat.le_refl _⟩
  exact wX10_searchOrders_6 hfr hfx C S f0 hx1 f1 hx3 f2 f3 hl hq hn hB (by omega) K0 (fun h9 => (kx (by rw [h9]; decide)) h9)
theorem xX10_searchOrders_221 {fr : Int → Int → Int → Int → Shp → Mem → Option (Int × Shp × Mem)} (hfx : ∀ {x0 x1 x2 x3 : Int} {g : Shp} {m : Mem} {r : Int} {g' : Shp} {m' : Mem}, fr x0 x1 x2 x3 g m = some (r, g', m') → gOk g → gX g g' ∧ gOk g') {g : Shp} {m : Mem} {r : Int} {g' : Shp} {m' : Mem} (hF : bX10_searchOrders_221 fr g m = some (r, g', m')) (hg : gOk g) : gX g g' ∧ gOk g' := by
  unfold bX10_searchOrders_221 at hF
  cases hF
  exact ⟨gX.rf _, hg⟩
set_option maxRecDepth 20000 in
theorem wX10_searchOrders_221 {p : Program} {l : Launch} {e : Env} {s : State} {mt : MethodId} {args : Array Value} {below : List Frame} {meth : Method} {c : Code} {Q : State → Prop} {G : Gl} {A : Nat → Prop} {H0 : Heap} {ad : Int → Nat} {g : Shp} {ad0 : Int → Nat} {g0 : Shp} {n0 t0 cells slots mc msl : Nat} {d : Nat} {fr : Int → Int → Int → Int → Shp → Mem → Option (Int × Shp × Mem)} (hfr : ∀ {x0 x1 x2 x3 : Int} {g : Shp} {m : Mem} {r : Int} {g' : Shp} {m' : Mem}, gk g x0 = 11 → r32 x1 → gk g x2 = 2 → r32 x3 → fr x0 x1 x2 x3 g m = some (r, g', m') → mVA l yX10_searchOrders (wT yX10_searchOrders cX10_searchOrders 9 none) (rX10_searchOrders d) G (fun ad => [.ref (ad x0), .int (iI x1), .ref (ad x2), .int (iI x3)]) g m g' m') (hfx : ∀ {x0 x1 x2 x3 : Int} {g : Shp} {m : Mem} {r : Int} {g' : Shp} {m' : Mem}, fr x0 x1 x2 x3 g m = some (r, g', m') → gOk g → gX g g' ∧ gOk g') {H : Heap} {locs : List Loc} {ls : Array Slot} {m : Mem} (C : CallFix p mt c cX10_searchOrders 9 s args tb RX10) (S : Wd G A s H0 ad g m H locs)  (hl : lv_has ls 9 []) (hq : aX g0 ad0 ad ∧ gX g0 g) (hn : gn g = n0 + cells ∧ gs g = t0 + slots) {r : Int} {g' : Shp} {m' : Mem} (hF : bX10_searchOrders_221 fr g m = some (r, g', m')) (he : gn g' ≤ n0 + mc ∧ gs g' ≤ t0 + msl) (Kr : ∀ (ad : Int → Nat) (H : Heap) (locs : List Loc) (pc : Nat) (ls : Array Slot) (cells slots : Nat), aX g0 ad0 ad → gn g' = n0 + cells ∧ gs g' = t0 + slots → Wd G A s H0 ad g' m' H locs → decode cX10_searchOrders pc = .ok (.return_, 1) → W p l e (rX10_searchOrders (d + 1) mc msl) s mt args below meth c H locs cells slots Q (F0 mt pc ls [])) : W p l e (rX10_searchOrders (d + 1) mc msl) s mt args below meth c H locs cells slots Q (F0 mt 221 ls []) := by
  have hXx := xX10_searchOrders_221 hfx hF S.g
  have hle : cells ≤ mc ∧ slots ≤ msl := by
    have h1 := hXx.1.1
    have h2 := hXx.1.2.1
    omega
  unfold bX10_searchOrders_221 at hF
  cases hF
  exact Kr _ _ _ _ _ _ _ hq.1 hn S dX10_searchOrders_221
theorem xX10_searchOrders_196 {fr : Int → Int → Int → Int → Shp → Mem → Option (Int × Shp × Mem)} (hfx : ∀ {x0 x1 x2 x3 : Int} {g : Shp} {m : Mem} {r : Int} {g' : Shp} {m' : Mem}, fr x0 x1 x2 x3 g m = some (r, g', m') → gOk g → gX g g' ∧ gOk g') {g : Shp} {m : Mem} {x0 x1 x3 x4 : Int} {r : Int} {g' : Shp} {m' : Mem} (hF : bX10_searchOrders_196 fr x0 x1 x3 x4 g m = some (r, g', m')) (hg : gOk g) : gX g g' ∧ gOk g' := by
  unfold bX10_searchOrders_196 at hF
  by_cases hc1 : x4 = 0
  · have hF := if_t hc1 hF
    obtain ⟨k2, hF⟩ := ck_ok hF
    obtain ⟨v3, m4, h5, hF⟩ := bd2_ok hF
    by_cases hc7 : v3 = 0
    · have hF := if_t hc7 hF
      exact xX10_searchOrders_221 hfx hF hg
    · have hF := if_f hc7 hF
      obtain ⟨k8, hF⟩ := ck_ok hF
      obtain ⟨v9, m10, h11, hF⟩ := bd2_ok hF
      exact xX10_searchOrders_221 hfx hF hg
  · have hF := if_f hc1 hF
    exact xX10_searchOrders_221 hfx hF hg
set_option maxRecDepth 20000 in
theorem wX10_searchOrders_196 {p : Program} {l : Launch} {e : Env} {s : State} {mt : MethodId} {args : Array Value} {below : List Frame} {meth : Method} {c : Code} {Q : State → Prop} {G : Gl} {A : Nat → Prop} {H0 : Heap} {ad : Int → Nat} {g : Shp} {ad0 : Int → Nat} {g0 : Shp} {n0 t0 cells slots mc msl : Nat} {d : Nat} {fr : Int → Int → Int → Int → Shp → Mem → Option (Int × Shp × Mem)} (hfr : ∀ {x0 x1 x2 x3 : Int} {g : Shp} {m : Mem} {r : Int} {g' : Shp} {m' : Mem}, gk g x0 = 11 → r32 x1 → gk g x2 = 2 → r32 x3 → fr x0 x1 x2 x3 g m = some (r, g', m') → mVA l yX10_searchOrders (wT yX10_searchOrders cX10_searchOrders 9 none) (rX10_searchOrders d) G (fun ad => [.ref (ad x0), .int (iI x1), .ref (ad x2), .int (iI x3)]) g m g' m') (hfx : ∀ {x0 x1 x2 x3 : Int} {g : Shp} {m : Mem} {r : Int} {g' : Shp} {m' : Mem}, fr x0 x1 x2 x3 g m = some (r, g', m') → gOk g → gX g g' ∧ gOk g') {H : Heap} {locs : List Loc} {ls : Array Slot} {m : Mem} {x0 x1 x3 x4 : Int} (C : CallFix p mt c cX10_searchOrders 9 s args tb RX10) (S : Wd G A s H0 ad g m H locs) (hx0 : gk g x0 = 11) (hx1 : r32 x1) (hx3 : r32 x3) (hx4 : r32 x4) (hl : lv_has ls 9 [(0, .ref (ad x0)), (1, .int (iI x1)), (3, .int (iI x3)), (4, .int (iI x4))]) (hq : aX g0 ad0 ad ∧ gX g0 g) (hn : gn g = n0 + cells ∧ gs g = t0 + slots) {r : Int} {g' : Shp} {m' : Mem} (hF : bX10_searchOrders_196 fr x0 x1 x3 x4 g m = some (r, g', m')) (he : gn g' ≤ n0 + mc ∧ gs g' ≤ t0 + msl) (Kr : ∀ (ad : Int → Nat) (H : Heap) (locs : List Loc) (pc : Nat) (ls : Array Slot) (cells slots : Nat), aX g0 ad0 ad → gn g' = n0 + cells ∧ gs g' = t0 + slots → Wd G A s H0 ad g' m' H locs → decode cX10_searchOrders pc = .ok (.return_, 1) → W p l e (rX10_searchOrders (d + 1) mc msl) s mt args below meth c H locs cells slots Q (F0 mt pc ls [])) : W p l e (rX10_searchOrders (d + 1) mc msl) s mt args below meth c H locs cells slots Q (F0 mt 196 ls []) := by
  have hXx := xX10_searchOrders_196 hfx hF S.g
  have hle : cells ≤ mc ∧ slots ≤ msl := by
    have h1 := hXx.1.1
    have h2 := hXx.1.2.1
    omega
  unfold bX10_searchOrders_196 at hF
  refine q_iload C hl 3 rfl dX10_searchOrders_196 ?_
  refine q_if_ne C hx4 221 dX10_searchOrders_198 (by decide) (fun hc1 => ?_) (fun hc1 => ?_)
  · have hF := if_t hc1 hF
    refine q_aload_n C hl 0 rfl rfl dX10_searchOrders_201 ?_
    obtain ⟨k2, hF⟩ := ck_ok hF
    refine q_getr C S 4 fo_RX10_40 (j := 4) rfl rfl hx0 k2 (by decide) dX10_searchOrders_202 ?_
    refine q_iload_n C hl 2 rfl rfl dX10_searchOrders_205 ?_
    obtain ⟨v3, m4, h5, hF⟩ := bd2_ok hF
    refine q_ci S (run_V (As := [.int (iI x3)]) (rest := []) C S (cX3_isFewer_ok l G k2 hx3 h5 ad _) k2 ⟨by decide, _, _, rfl⟩ gd_RX10_251 hdV_X3_isFewer rfl ⟨rfl, rfl, by dsimp only [rX10_searchOrders, rX3_isFewer]; omega, by dsimp only [rX10_searchOrders, rX3_isFewer]; omega⟩ hle hl.1 rfl (Nat.le_of_ble_eq_true rfl) dX10_searchOrders_206) (fun H locs Sm4 h6 => ?_)
    refine q_if_eq C h6.1 221 dX10_searchOrders_209 (by decide) (fun hc7 => ?_) (fun hc7 => ?_)
    · have hF := if_t hc7 hF
      exact wX10_searchOrders_221 hfr hfx C Sm4  (lv_sub hl [] rfl) hq hn hF he Kr
    · have hF := if_f hc7 hF
      refine q_aload_n C hl 0 rfl rfl dX10_searchOrders_212 ?_
      obtain ⟨k8, hF⟩ := ck_ok hF
      refine q_getr C Sm4 4 fo_RX10_40 (j := 4) rfl rfl hx0 k8 (by decide) dX10_searchOrders_213 ?_
      refine q_iload_n C hl 1 rfl rfl dX10_searchOrders_216 ?_
      refine q_iload_n C hl 2 rfl rfl dX10_searchOrders_217 ?_
      obtain ⟨v9, m10, h11, hF⟩ := bd2_ok hF
      refine q_cv Sm4 (run_V (As := [.int (iI x1), .int (iI x3)]) (rest := []) C Sm4 (cX3_keepTrial_ok l G k8 hx1 hx3 h11 ad _) k8 ⟨by decide, _, _, rfl⟩ gd_RX10_264 hdV_X3_keepTrial rfl ⟨rfl, rfl, by dsimp only [rX10_searchOrders, rX3_keepTrial]; omega, by dsimp only [rX10_searchOrders, rX3_keepTrial]; omega⟩ hle hl.1 rfl (Nat.le_of_ble_eq_true rfl) dX10_searchOrders_218) (fun H locs Sm10 => ?_)
      exact wX10_searchOrders_221 hfr hfx C Sm10  (lv_sub hl [] rfl) hq hn hF he Kr
  · have hF := if_f hc1 hF
    exact wX10_searchOrders_221 hfr hfx C S  (lv_sub hl [] rfl) hq hn hF he Kr
theorem xX10_searchOrders_0 {fr : Int → Int → Int → Int → Shp → Mem → Option (Int × Shp × Mem)} (hfx : ∀ {x0 x1 x2 x3 : Int} {g : Shp} {m : Mem} {r : Int} {g' : Shp} {m' : Mem}, fr x0 x1 x2 x3 g m = some (r, g', m') → gOk g → gX g g' ∧ gOk g') {g : Shp} {m : Mem} {x0 x1 x2 x3 : Int} {r : Int} {g' : Shp} {m' : Mem} (hF : bX10_searchOrders_0 fr x0 x1 x2 x3 g m = some (r, g', m')) (hg : gOk g) : gX g g' ∧ gOk g' := by
  unfold bX10_searchOrders_0 at hF
  obtain ⟨cv1, sv2, hi3, hF⟩ := bdl_ok hF
  have hy := yX10_searchOrders_6 hfx hi3 hg
  exact gX2 hy.1 (xX10_searchOrders_196 hfx hF hy.2)
set_option maxRecDepth 20000 in
theorem wX10_searchOrders_0 {p : Program} {l : Launch} {e : Env} {s : State} {mt : MethodId} {args : Array Value} {below : List Frame} {meth : Method} {c : Code} {Q : State → Prop} {G : Gl} {A : Nat → Prop} {H0 : Heap} {ad : Int → Nat} {g : Shp} {ad0 : Int → Nat} {g0 : Shp} {n0 t0 cells slots mc msl : Nat} {d : Nat} {fr : Int → Int → Int → Int → Shp → Mem → Option (Int × Shp × Mem)} (hfr : ∀ {x0 x1 x2 x3 : Int} {g : Shp} {m : Mem} {r : Int} {g' : Shp} {m' : Mem}, gk g x0 = 11 → r32 x1 → gk g x2 = 2 → r32 x3 → fr x0 x1 x2 x3 g m = some (r, g', m') → mVA l yX10_searchOrders (wT yX10_searchOrders cX10_searchOrders 9 none) (rX10_searchOrders d) G (fun ad => [.ref (ad x0), .int (iI x1), .ref (ad x2), .int (iI x3)]) g m g' m') (hfx : ∀ {x0 x1 x2 x3 : Int} {g : Shp} {m : Mem} {r : Int} {g' : Shp} {m' : Mem}, fr x0 x1 x2 x3 g m = some (r, g', m') → gOk g → gX g g' ∧ gOk g') {H : Heap} {locs : List Loc} {ls : Array Slot} {m : Mem} {x0 x1 x2 x3 : Int} (C : CallFix p mt c cX10_searchOrders 9 s args tb RX10) (S : Wd G A s H0 ad g m H locs) (hx0 : gk g x0 = 11) (hx1 : r32 x1) (hx2 : gk g x2 = 2) (hx3 : r32 x3) (hl : lv_has ls 9 [(0, .ref (ad x0)), (1, .int (iI x1)), (2, .ref (ad x2)), (3, .int (iI x3))]) (hq : aX g0 ad0 ad ∧ gX g0 g) (hn : gn g = n0 + cells ∧ gs g = t0 + slots) {r : Int} {g' : Shp} {m' : Mem} (hF : bX10_searchOrders_0 fr x0 x1 x2 x3 g m = some (r, g', m')) (he : gn g' ≤ n0 + mc ∧ gs g' ≤ t0 + msl) (Kr : ∀ (ad : Int → Nat) (H : Heap) (locs : List Loc) (pc : Nat) (ls : Array Slot) (cells slots : Nat), aX g0 ad0 ad → gn g' = n0 + cells ∧ gs g' = t0 + slots → Wd G A s H0 ad g' m' H locs → decode cX10_searchOrders pc = .ok (.return_, 1) → W p l e (rX10_searchOrders (d + 1) mc msl) s mt args below meth c H locs cells slots Q (F0 mt pc ls [])) : W p l e (rX10_searchOrders (d + 1) mc msl) s mt args below meth c H locs cells slots Q (F0 mt 0 ls []) := by
  have hXx := xX10_searchOrders_0 hfx hF S.g
  have hle : cells ≤ mc ∧ slots ≤ msl := by
    have h1 := hXx.1.1
    have h2 := hXx.1.2.1
    omega
  unfold bX10_searchOrders_0 at hF
  refine q_iconst C 0 dX10_searchOrders_0 ?_
  refine q_istore C hl [(4, .int (iI 0)), (0, .ref (ad x0)), (1, .int (iI x1)), (2, .ref (ad x2)), (3, .int (iI x3))] rfl (by decide) rfl dX10_searchOrders_1 (fun ls hl => ?_)
  refine q_iconst C 0 dX10_searchOrders_3 ?_
  refine q_istore C hl [(5, .int (iI 0)), (4, .int (iI 0)), (0, .ref (ad x0)), (1, .int (iI x1)), (2, .ref (ad x2)), (3, .int (iI x3))] rfl (by decide) rfl dX10_searchOrders_4 (fun ls hl => ?_)
  obtain ⟨cv1, sv2, hi3, hF⟩ := bdl_ok hF
  have hy := yX10_searchOrders_6 hfx hi3 S.g
  have hXr := (xX10_searchOrders_196 hfx hF hy.2).1
  refine lX10_searchOrders_6 hfr hfx C hx1 hx3 hi3 (by have h1 := hXr.1; have h2 := hXr.2.1; omega) ?_ _ _ _ _ _ _ hq hn hx0 hx2 (rl 0 rfl) (rl 0 rfl) S (lv_sub hl [2, 3, 4, 5, 1, 0] rfl)
  intro _ ad H locs ls cells slots hq hn f5 f6 S4 hl
  exact wX10_searchOrders_196 hfr hfx C S4 f5 hx1 hx3 f6 (lv_sub hl [0, 1, 2, 3] rfl) hq hn hF he Kr
theorem xX10_searchOrders_f (d : Nat) : ∀ {x0 x1 x2 x3 : Int} {g : Shp} {m : Mem} {r : Int} {g' : Shp} {m' : Mem}, fX10_searchOrders d x0 x1 x2 x3 g m = some (r, g', m') → gOk g → gX g g' ∧ gOk g' := by
  induction d with
  | zero => intro x0 x1 x2 x3 g m r g' m' hF; exact absurd hF (by simp [fX10_searchOrders])
  | succ d ih => intro x0 x1 x2 x3 g m r g' m' hF hg; exact xX10_searchOrders_0 ih hF hg
theorem cX10_searchOrders_ok (l : Launch) (G : Gl) (d : Nat) : ∀ {x0 x1 x2 x3 : Int} {g : Shp} {m : Mem} {r : Int} {g' : Shp} {m' : Mem}, gk g x0 = 11 → r32 x1 → gk g x2 = 2 → r32 x3 → fX10_searchOrders d x0 x1 x2 x3 g m = some (r, g', m') → mVA l yX10_searchOrders (wT yX10_searchOrders cX10_searchOrders 9 none) (rX10_searchOrders d) G (fun ad => [.ref (ad x0), .int (iI x1), .ref (ad x2), .int (iI x3)]) g m g' m' := by
  induction d with
  | zero =>
    intro x0 x1 x2 x3 g m r g' m' hx0 hx1 hx2 hx3 hF
    exact absurd hF (by simp [fX10_searchOrders])
  | succ d ih =>
    intro x0 x1 x2 x3 g m r g' m' hx0 hx1 hx2 hx3 hF
    exact met_vA (rm := rX10_searchOrders (d + 1)) (by decide) (fun ad => Nat.le_of_ble_eq_true rfl) (fun hg => (xX10_searchOrders_f (d + 1) hF hg).1) (fun p e s mt args below meth c Q A H0 H locs ad ls mc msl hmc hms C hnm S hl Kr => wX10_searchOrders_0 (n0 := gn g) (t0 := gs g) ih (xX10_searchOrders_f d) C S hx0 hx1 hx2 hx3 hl ⟨fun _ _ => rfl, gX.rf _⟩ ⟨rfl, rfl⟩ hF (by have h9 := (xX10_searchOrders_f (d + 1) (g := g) (m := m) hF S.g).1; have h1 := h9.1; have h2 := h9.2.1; omega) Kr)
theorem xX10_order_33 {g : Shp} {m : Mem} {r : Int} {g' : Shp} {m' : Mem} (hF : bX10_order_33 g m = some (r, g', m')) (hg : gOk g) : gX g g' ∧ gOk g' := by
  unfold bX10_order_33 at hF
  cases hF
  exact ⟨gX.rf _, hg⟩
set_option maxRecDepth 20000 in
theorem wX10_order_33 {p : Program} {l : Launch} {e : Env} {s : State} {mt : MethodId} {args : Array Value} {below : List Frame} {meth : Method} {c : Code} {Q : State → Prop} {G : Gl} {A : Nat → Prop} {H0 : Heap} {ad : Int → Nat} {g : Shp} {ad0 : Int → Nat} {g0 : Shp} {n0 t0 cells slots mc msl : Nat} {H : Heap} {locs : List Loc} {ls : Array Slot} {m : Mem} (C : CallFix p mt c cX10_order 5 s args tb RX10) (S : Wd G A s H0 ad g m H locs)  (hl : lv_has ls 5 []) (hq : aX g0 ad0 ad ∧ gX g0 g) (hn : gn g = n0 + cells ∧ gs g = t0 + slots) {r : Int} {g' : Shp} {m' : Mem} (hF : bX10_order_33 g m = some (r, g', m')) (he : gn g' ≤ n0 + mc ∧ gs g' ≤ t0 + msl) (Kr : ∀ (ad : Int → Nat) (H : Heap) (locs : List Loc) (pc : Nat) (ls : Array Slot) (cells slots : Nat), aX g0 ad0 ad → gn g' = n0 + cells ∧ gs g' = t0 + slots → Wd G A s H0 ad g' m' H locs → decode cX10_order pc = .ok (.ireturn, 1) → r32 r ∧ (false = true → r = 0 ∨ r = 1) → narrow .int (.int (iI r)) = .int (iI r) → W p l e (rX10_order mc msl) s mt args below meth c H locs cells slots Q (F0 mt pc ls [.int (iI r)])) : W p l e (rX10_order mc msl) s mt args below meth c H locs cells slots Q (F0 mt 33 ls []) := by
  have hXx := xX10_order_33 hF S.g
  have hle : cells ≤ mc ∧ slots ≤ msl := by
    have h1 := hXx.1.1
    have h2 := hXx.1.2.1
    omega
  unfold bX10_order_33 at hF
  refine q_iconst C (-1) dX10_order_33 ?_
  cases hF
  exact Kr _ _ _ _ _ _ _ hq.1 hn S dX10_order_34 ⟨(rl (-1) rfl), fun h9 => absurd h9 (by decide)⟩ rfl
theorem xX10_order_122 {g : Shp} {m : Mem} {z0 : Int} {r : Int} {g' : Shp} {m' : Mem} (hF : bX10_order_122 z0 g m = some (r, g', m')) (hg : gOk g) : gX g g' ∧ gOk g' := by
  unfold bX10_order_122 at hF
  cases hF
  exact ⟨gX.rf _, hg⟩
set_option maxRecDepth 20000 in
theorem wX10_order_122 {p : Program} {l : Launch} {e : Env} {s : State} {mt : MethodId} {args : Array Value} {below : List Frame} {meth : Method} {c : Code} {Q : State → Prop} {G : Gl} {A : Nat → Prop} {H0 : Heap} {ad : Int → Nat} {g : Shp} {ad0 : Int → Nat} {g0 : Shp} {n0 t0 cells slots mc msl : Nat} {H : Heap} {locs : List Loc} {ls : Array Slot} {m : Mem} {z0 : Int} (C : CallFix p mt c cX10_order 5 s args tb RX10) (S : Wd G A s H0 ad g m H locs) (hz0 : r32 z0) (hl : lv_has ls 5 []) (hq : aX g0 ad0 ad ∧ gX g0 g) (hn : gn g = n0 + cells ∧ gs g = t0 + slots) {r : Int} {g' : Shp} {m' : Mem} (hF : bX10_order_122 z0 g m = some (r, g', m')) (he : gn g' ≤ n0 + mc ∧ gs g' ≤ t0 + msl) (Kr : ∀ (ad : Int → Nat) (H : Heap) (locs : List Loc) (pc : Nat) (ls : Array Slot) (cells slots : Nat), aX g0 ad0 ad → gn g' = n0 + cells ∧ gs g' = t0 + slots → Wd G A s H0 ad g' m' H locs → decode cX10_order pc = .ok (.ireturn, 1) → r32 r ∧ (false = true → r = 0 ∨ r = 1) → narrow .int (.int (iI r)) = .int (iI r) → W p l e (rX10_order mc msl) s mt args below meth c H locs cells slots Q (F0 mt pc ls [.int (iI r)])) : W p l e (rX10_order mc msl) s mt args below meth c H locs cells slots Q (F0 mt 122 ls [.int (iI z0)]) := by
  have hXx := xX10_order_122 hF S.g
  have hle : cells ≤ mc ∧ slots ≤ msl := by
    have h1 := hXx.1.1
    have h2 := hXx.1.2.1
    omega
  unfold bX10_order_122 at hF
  cases hF
  exact Kr _ _ _ _ _ _ _ hq.1 hn S dX10_order_122 ⟨hz0, fun h9 => absurd h9 (by decide)⟩ rfl
theorem xX10_order_68 {g : Shp} {m : Mem} {x0 x4 : Int} {r : Int} {g' : Shp} {m' : Mem} (hF : bX10_order_68 x0 x4 g m = some (r, g', m')) (hg : gOk g) : gX g g' ∧ gOk g' := by
  unfold bX10_order_68 at hF
  obtain ⟨k1, hF⟩ := ck_ok hF
  by_cases hc2 : (m (m x0 4) 7) = 0
  · have hF := if_t hc2 hF
    cases hF
    exact ⟨gX.rf _, hg⟩
  · have hF := if_f hc2 hF
    by_cases hc3 : x4 = ((-1))
    · have hF := if_t hc3 hF
      cases hF
      exact ⟨gX.rf _, hg⟩
    · have hF := if_f hc3 hF
      by_cases hc4 : (m (m x0 4) 5) ≤ x4
      · have hF := if_t hc4 hF
        exact xX10_order_122 hF hg
      · have hF := if_f hc4 hF
        obtain ⟨k5, hF⟩ := ck_ok hF
        obtain ⟨i6, hF⟩ := ck_ok hF
        exact xX10_order_122 hF hg
set_option maxRecDepth 20000 in
theorem wX10_order_68 {p : Program} {l : Launch} {e : Env} {s : State} {mt : MethodId} {args : Array Value} {below : List Frame} {meth : Method} {c : Code} {Q : State → Prop} {G : Gl} {A : Nat → Prop} {H0 : Heap} {ad : Int → Nat} {g : Shp} {ad0 : Int → Nat} {g0 : Shp} {n0 t0 cells slots mc msl : Nat} {H : Heap} {locs : List Loc} {ls : Array Slot} {m : Mem} {x0 x4 : Int} (C : CallFix p mt c cX10_order 5 s args tb RX10) (S : Wd G A s H0 ad g m H locs) (hx0 : gk g x0 = 11) (hx4 : r32 x4) (hl : lv_has ls 5 [(0, .ref (ad x0)), (4, .int (iI x4))]) (hq : aX g0 ad0 ad ∧ gX g0 g) (hn : gn g = n0 + cells ∧ gs g = t0 + slots) {r : Int} {g' : Shp} {m' : Mem} (hF : bX10_order_68 x0 x4 g m = some (r, g', m')) (he : gn g' ≤ n0 + mc ∧ gs g' ≤ t0 + msl) (Kr : ∀ (ad : Int → Nat) (H : Heap) (locs : List Loc) (pc : Nat) (ls : Array Slot) (cells slots : Nat), aX g0 ad0 ad → gn g' = n0 + cells ∧ gs g' = t0 + slots → Wd G A s H0 ad g' m' H locs → decode cX10_order pc = .ok (.ireturn, 1) → r32 r ∧ (false = true → r = 0 ∨ r = 1) → narrow .int (.int (iI r)) = .int (iI r) → W p l e (rX10_order mc msl) s mt args below meth c H locs cells slots Q (F0 mt pc ls [.int (iI r)])) : W p l e (rX10_order mc msl) s mt args below meth c H locs cells slots Q (F0 mt 68 ls []) := by
  have hXx := xX10_order_68 hF S.g
  have hle : cells ≤ mc ∧ slots ≤ msl := by
    have h1 := hXx.1.1
    have h2 := hXx.1.2.1
    omega
  unfold bX10_order_68 at hF
  refine q_aload_n C hl 0 rfl rfl dX10_order_68 ?_
  obtain ⟨k1, hF⟩ := ck_ok hF
  refine q_getr C S 4 fo_RX10_40 (j := 4) rfl rfl hx0 k1 (by decide) dX10_order_69 ?_
  refine q_geti C S 7 fo_RX10_189 (j := 7) rfl rfl k1 dX10_order_72 ?_
  refine q_if_ne C (S.r _ _) 81 dX10_order_75 (by decide) (fun hc2 => ?_) (fun hc2 => ?_)
  · have hF := if_t hc2 hF
    refine q_bipush C (-4) (by decide) dX10_order_78 ?_
    cases hF
    exact Kr _ _ _ _ _ _ _ hq.1 hn S dX10_order_80 ⟨(rl (-4) rfl), fun h9 => absurd h9 (by decide)⟩ rfl
  · have hF := if_f hc2 hF
    refine q_iload C hl 1 rfl dX10_order_81 ?_
    refine q_iconst C (-1) dX10_order_83 ?_
    refine q_icmp_ne C hx4 (rl (-1) rfl) 95 dX10_order_84 (by decide) (fun hc3 => ?_) (fun hc3 => ?_)
    · have hF := if_t hc3 hF
      refine q_aload_n C hl 0 rfl rfl dX10_order_87 ?_
      refine q_getr C S 4 fo_RX10_40 (j := 4) rfl rfl hx0 k1 (by decide) dX10_order_88 ?_
      refine q_geti C S 6 fo_RX10_192 (j := 6) rfl rfl k1 dX10_order_91 ?_
      cases hF
      exact Kr _ _ _ _ _ _ _ hq.1 hn S dX10_order_94 ⟨(S.r _ _), fun h9 => absurd h9 (by decide)⟩ rfl
    · have hF := if_f hc3 hF
      refine q_iload C hl 1 rfl dX10_order_95 ?_
      refine q_aload_n C hl 0 rfl rfl dX10_order_97 ?_
      refine q_getr C S 4 fo_RX10_40 (j := 4) rfl rfl hx0 k1 (by decide) dX10_order_98 ?_
      refine q_geti C S 5 fo_RX10_195 (j := 5) rfl rfl k1 dX10_order_101 ?_
      refine q_icmp_ge C hx4 (S.r _ _) 120 dX10_order_104 (by decide) (fun hc4 => ?_) (fun hc4 => ?_)
      · have hF := if_t hc4 hF
        refine q_bipush C (-4) (by decide) dX10_order_120 ?_
        exact wX10_order_122 C S (rl (-4) rfl) (lv_sub hl [] rfl) hq hn hF he Kr
      · have hF := if_f hc4 hF
        refine q_aload_n C hl 0 rfl rfl dX10_order_107 ?_
        refine q_getr C S 4 fo_RX10_40 (j := 4) rfl rfl hx0 k1 (by decide) dX10_order_108 ?_
        obtain ⟨k5, hF⟩ := ck_ok hF
        refine q_getr C S 2 fo_RX10_196 (j := 2) rfl rfl k1 k5 (by decide) dX10_order_111 ?_
        refine q_iload C hl 1 rfl dX10_order_114 ?_
        obtain ⟨i6, hF⟩ := ck_ok hF
        refine q_iald C S k5 i6 dX10_order_116 ?_
        refine q_goto C 122 dX10_order_117 (by decide) ?_
        exact wX10_order_122 C S (S.r _ _) (lv_sub hl [] rfl) hq hn hF he Kr
theorem xX10_order_0 {g : Shp} {m : Mem} {x0 x1 x2 x3 x4 : Int} {r : Int} {g' : Shp} {m' : Mem} (hF : bX10_order_0 x0 x1 x2 x3 x4 g m = some (r, g', m')) (hg : gOk g) : gX g g' ∧ gOk g' := by
  unfold bX10_order_0 at hF
  obtain ⟨v1, m2, h3, hF⟩ := bd2_ok hF
  by_cases hc5 : v1 = 0
  · have hF := if_t hc5 hF
    exact xX10_order_33 hF hg
  · have hF := if_f hc5 hF
    obtain ⟨v6, m7, h8, hF⟩ := bd2_ok hF
    by_cases hc10 : v6 = 0
    · have hF := if_t hc10 hF
      exact xX10_order_33 hF hg
    · have hF := if_f hc10 hF
      obtain ⟨v11, m12, h13, hF⟩ := bd2_ok hF
      by_cases hc15 : v11 = 0
      · have hF := if_t hc15 hF
        exact xX10_order_33 hF hg
      · have hF := if_f hc15 hF
        by_cases hc16 : x4 < ((-1))
        · have hF := if_t hc16 hF
          exact xX10_order_33 hF hg
        · have hF := if_f hc16 hF
          by_cases hc17 : x4 < 3
          · have hF := if_t hc17 hF
            obtain ⟨k18, hF⟩ := ck_ok hF
            obtain ⟨v19, m20, h21, hF⟩ := bd2_ok hF
            by_cases hc23 : v19 = 0
            · have hF := if_t hc23 hF
              obtain ⟨k24, hF⟩ := ck_ok hF
              obtain ⟨v25, m26, h27, hF⟩ := bd2_ok hF
              obtain ⟨k28, hF⟩ := ck_ok hF
              obtain ⟨v29, g30, m31, h32, hF⟩ := bd3_ok hF
              have hX3 := xX10_searchOrders_f 5 h32 hg
              have hG2 := hX3.2
              have hX2 := hX3.1
              exact gX2 hX2 (xX10_order_68 hF hG2)
            · have hF := if_f hc23 hF
              exact xX10_order_68 hF hg
          · have hF := if_f hc17 hF
            exact xX10_order_33 hF hg
set_option maxRecDepth 20000 in
theorem wX10_order_0 {p : Program} {l : Launch} {e : Env} {s : State} {mt : MethodId} {args : Array Value} {below : List Frame} {meth : Method} {c : Code} {Q : State → Prop} {G : Gl} {A : Nat → Prop} {H0 : Heap} {ad : Int → Nat} {g : Shp} {ad0 : Int → Nat} {g0 : Shp} {n0 t0 cells slots mc msl : Nat} {H : Heap} {locs : List Loc} {ls : Array Slot} {m : Mem} {x0 x1 x2 x3 x4 : Int} (C : CallFix p mt c cX10_order 5 s args tb RX10) (S : Wd G A s H0 ad g m H locs) (hx0 : gk g x0 = 11) (hx1 : r32 x1) (hx2 : r32 x2) (hx3 : r32 x3) (hx4 : r32 x4) (hl : lv_has ls 5 [(0, .ref (ad x0)), (1, .int (iI x1)), (2, .int (iI x2)), (3, .int (iI x3)), (4, .int (iI x4))]) (hq : aX g0 ad0 ad ∧ gX g0 g) (hn : gn g = n0 + cells ∧ gs g = t0 + slots) {r : Int} {g' : Shp} {m' : Mem} (hF : bX10_order_0 x0 x1 x2 x3 x4 g m = some (r, g', m')) (he : gn g' ≤ n0 + mc ∧ gs g' ≤ t0 + msl) (Kr : ∀ (ad : Int → Nat) (H : Heap) (locs : List Loc) (pc : Nat) (ls : Array Slot) (cells slots : Nat), aX g0 ad0 ad → gn g' = n0 + cells ∧ gs g' = t0 + slots → Wd G A s H0 ad g' m' H locs → decode cX10_order pc = .ok (.ireturn, 1) → r32 r ∧ (false = true → r = 0 ∨ r = 1) → narrow .int (.int (iI r)) = .int (iI r) → W p l e (rX10_order mc msl) s mt args below meth c H locs cells slots Q (F0 mt pc ls [.int (iI r)])) : W p l e (rX10_order mc msl) s mt args below meth c H locs cells slots Q (F0 mt 0 ls []) := by
  have hXx := xX10_order_0 hF S.g
  have hle : cells ≤ mc ∧ slots ≤ msl := by
    have h1 := hXx.1.1
    have h2 := hXx.1.2.1
    omega
  unfold bX10_order_0 at hF
  refine q_iload_n C hl 1 rfl rfl dX10_order_0 ?_
  obtain ⟨v1, m2, h3, hF⟩ := bd2_ok hF
  refine q_ci S (run_S (As := [.int (iI x1)]) (rest := []) C S (cX10_isColour_ok l G hx1 h3 ad _) gd_RX10_151 hd_X10_isColour rfl ⟨rfl, rfl, (Nat.le_of_ble_eq_true rfl), (Nat.le_of_ble_eq_true rfl)⟩ hle hl.1 rfl (Nat.le_of_ble_eq_true rfl) dX10_order_1) (fun H locs Sm2 h4 => ?_)
  refine q_if_eq C h4.1 33 dX10_order_4 (by decide) (fun hc5 => ?_) (fun hc5 => ?_)
  · have hF := if_t hc5 hF
    exact wX10_order_33 C Sm2  (lv_sub hl [] rfl) hq hn hF he Kr
  · have hF := if_f hc5 hF
    refine q_iload_n C hl 2 rfl rfl dX10_order_7 ?_
    obtain ⟨v6, m7, h8, hF⟩ := bd2_ok hF
    refine q_ci Sm2 (run_S (As := [.int (iI x2)]) (rest := []) C Sm2 (cX10_isColour_ok l G hx2 h8 ad _) gd_RX10_151 hd_X10_isColour rfl ⟨rfl, rfl, (Nat.le_of_ble_eq_true rfl), (Nat.le_of_ble_eq_true rfl)⟩ hle hl.1 rfl (Nat.le_of_ble_eq_true rfl) dX10_order_8) (fun H locs Sm7 h9 => ?_)
    refine q_if_eq C h9.1 33 dX10_order_11 (by decide) (fun hc10 => ?_) (fun hc10 => ?_)
    · have hF := if_t hc10 hF
      exact wX10_order_33 C Sm7  (lv_sub hl [] rfl) hq hn hF he Kr
    · have hF := if_f hc10 hF
      refine q_iload_n C hl 3 rfl rfl dX10_order_14 ?_
      obtain ⟨v11, m12, h13, hF⟩ := bd2_ok hF
      refine q_ci Sm7 (run_S (As := [.int (iI x3)]) (rest := []) C Sm7 (cX10_isColour_ok l G hx3 h13 ad _) gd_RX10_151 hd_X10_isColour rfl ⟨rfl, rfl, (Nat.le_of_ble_eq_true rfl), (Nat.le_of_ble_eq_true rfl)⟩ hle hl.1 rfl (Nat.le_of_ble_eq_true rfl) dX10_order_15) (fun H locs Sm12 h14 => ?_)
      refine q_if_eq C h14.1 33 dX10_order_18 (by decide) (fun hc15 => ?_) (fun hc15 => ?_)
      · have hF := if_t hc15 hF
        exact wX10_order_33 C Sm12  (lv_sub hl [] rfl) hq hn hF he Kr
      · have hF := if_f hc15 hF
        refine q_iload C hl 4 rfl dX10_order_21 ?_
        refine q_iconst C (-1) dX10_order_23 ?_
        refine q_icmp_lt C hx4 (rl (-1) rfl) 33 dX10_order_24 (by decide) (fun hc16 => ?_) (fun hc16 => ?_)
        · have hF := if_t hc16 hF
          exact wX10_order_33 C Sm12  (lv_sub hl [] rfl) hq hn hF he Kr
        · have hF := if_f hc16 hF
          refine q_iload C hl 4 rfl dX10_order_27 ?_
          refine q_iconst C 3 dX10_order_29 ?_
          refine q_icmp_lt C hx4 (rl 3 rfl) 35 dX10_order_30 (by decide) (fun hc17 => ?_) (fun hc17 => ?_)
          · have hF := if_t hc17 hF
            refine q_aload_n C hl 0 rfl rfl dX10_order_35 ?_
            obtain ⟨k18, hF⟩ := ck_ok hF
            refine q_getr C Sm12 4 fo_RX10_40 (j := 4) rfl rfl hx0 k18 (by decide) dX10_order_36 ?_
            refine q_iload_n C hl 1 rfl rfl dX10_order_39 ?_
            refine q_iload_n C hl 2 rfl rfl dX10_order_40 ?_
            refine q_iload_n C hl 3 rfl rfl dX10_order_41 ?_
            obtain ⟨v19, m20, h21, hF⟩ := bd2_ok hF
            refine q_ci Sm12 (run_V (As := [.int (iI x1), .int (iI x2), .int (iI x3)]) (rest := []) C Sm12 (cX3_isFor_ok l G k18 hx1 hx2 hx3 h21 ad _) k18 ⟨by decide, _, _, rfl⟩ gd_RX10_177 hdV_X3_isFor rfl ⟨rfl, rfl, (Nat.le_of_ble_eq_true rfl), (Nat.le_of_ble_eq_true rfl)⟩ hle hl.1 rfl (Nat.le_of_ble_eq_true rfl) dX10_order_42) (fun H locs Sm20 h22 => ?_)
            refine q_if_ne C h22.1 68 dX10_order_45 (by decide) (fun hc23 => ?_) (fun hc23 => ?_)
            · have hF := if_t hc23 hF
              refine q_aload_n C hl 0 rfl rfl dX10_order_48 ?_
              obtain ⟨k24, hF⟩ := ck_ok hF
              refine q_getr C Sm20 4 fo_RX10_40 (j := 4) rfl rfl hx0 k24 (by decide) dX10_order_49 ?_
              refine q_iload_n C hl 1 rfl rfl dX10_order_52 ?_
              refine q_iload_n C hl 2 rfl rfl dX10_order_53 ?_
              refine q_iload_n C hl 3 rfl rfl dX10_order_54 ?_
              obtain ⟨v25, m26, h27, hF⟩ := bd2_ok hF
              refine q_cv Sm20 (run_V (As := [.int (iI x1), .int (iI x2), .int (iI x3)]) (rest := []) C Sm20 (cX3_begin_ok l G k24 hx1 hx2 hx3 h27 ad _) k24 ⟨by decide, _, _, rfl⟩ gd_RX10_181 hdV_X3_begin rfl ⟨rfl, rfl, (Nat.le_of_ble_eq_true rfl), (Nat.le_of_ble_eq_true rfl)⟩ hle hl.1 rfl (Nat.le_of_ble_eq_true rfl) dX10_order_55) (fun H locs Sm26 => ?_)
              refine q_aload_n C hl 0 rfl rfl dX10_order_58 ?_
              refine q_iconst C 0 dX10_order_59 ?_
              refine q_aload_n C hl 0 rfl rfl dX10_order_60 ?_
              obtain ⟨k28, hF⟩ := ck_ok hF
              refine q_getr C Sm26 2 fo_RX10_26 (j := 2) rfl rfl hx0 k28 (by decide) dX10_order_61 ?_
              refine q_iconst C 0 dX10_order_64 ?_
              obtain ⟨v29, g30, m31, h32, hF⟩ := bd3_ok hF
              have hX3 := xX10_searchOrders_f 5 h32 Sm26.g
              have hG2 := hX3.2
              have hX2 := hX3.1
              have hXr := (xX10_order_68 hF hG2).1
              refine q_cvA Sm26 (run_V (As := [.int (iI 0), .ref (ad (m26 x0 2)), .int (iI 0)]) (rest := []) C Sm26 (cX10_searchOrders_ok l G 5 hx0 (rl 0 rfl) k28 (rl 0 rfl) h32 ad _) hx0 ⟨by decide, _, _, rfl⟩ gd_RX10_185 hdV_X10_searchOrders rfl ⟨rfl, rfl, (Nat.le_of_ble_eq_true rfl), (Nat.le_of_ble_eq_true rfl)⟩ (by have h1 := hXr.1; have h2 := hXr.2.1; have h3 := hX2.1; have h4 := hX2.2.1; exact ⟨by show _ ≤ mc; omega, by show _ ≤ msl; omega⟩) hl.1 rfl (Nat.le_of_ble_eq_true rfl) dX10_order_65) (fun ad33 H locs hax Sm31 => ?_)
              have hq : aX g0 ad0 ad33 ∧ gX g0 g30 := ⟨hq.1.tr hq.2 hax, hq.2.tr hX2⟩
              have hn : gn g30 = n0 + (cells + (gn g30 - gn g)) ∧ gs g30 = t0 + (slots + (gs g30 - gs g)) := by have h3 := hX2.1; have h4 := hX2.2.1; omega
              have k34 := hX2.k hx0 (by decide)
              have ak34 : ad33 x0 = ad x0 := hax _ (kz hx0 (by decide))
              rw [← ak34] at hl
              exact wX10_order_68 C Sm31 k34 hx4 (lv_sub hl [0, 4] rfl) hq hn hF he Kr
            · have hF := if_f hc23 hF
              exact wX10_order_68 C Sm20 hx0 hx4 (lv_sub hl [0, 4] rfl) hq hn hF he Kr
          · have hF := if_f hc17 hF
            exact wX10_order_33 C Sm12  (lv_sub hl [] rfl) hq hn hF he Kr
theorem xX10_order_f {x0 x1 x2 x3 x4 : Int} {g : Shp} {m : Mem} {r : Int} {g' : Shp} {m' : Mem} (hF : fX10_order x0 x1 x2 x3 x4 g m = some (r, g', m')) (hg : gOk g) : gX g g' ∧ gOk g' := xX10_order_0 hF hg
theorem cX10_order_ok (l : Launch) (G : Gl) {x0 x1 x2 x3 x4 : Int} {g : Shp} {m : Mem} {r : Int} {g' : Shp} {m' : Mem} (hx0 : gk g x0 = 11) (hx1 : r32 x1) (hx2 : r32 x2) (hx3 : r32 x3) (hx4 : r32 x4) (hF : fX10_order x0 x1 x2 x3 x4 g m = some (r, g', m')) : mIA l yX10_order (wT yX10_order cX10_order 5 (some .int)) rX10_order G false (fun ad => [.ref (ad x0), .int (iI x1), .int (iI x2), .int (iI x3), .int (iI x4)]) g m r g' m' :=
  met_iA (rm := rX10_order) (by decide) (fun ad => Nat.le_of_ble_eq_true rfl) (fun hg => (xX10_order_f hF hg).1) (fun p e s mt args below meth c Q A H0 H locs ad ls mc msl hmc hms C hnm S hl Kr => wX10_order_0 (n0 := gn g) (t0 := gs g) C S hx0 hx1 hx2 hx3 hx4 hl ⟨fun _ _ => rfl, gX.rf _⟩ ⟨rfl, rfl⟩ hF (by have h9 := (xX10_order_f hF S.g).1; have h1 := h9.1; have h2 := h9.2.1; omega) Kr)
theorem xX11_init_386 {g : Shp} {m : Mem} {x0 z0 : Int} {r : Int} {g' : Shp} {m' : Mem} (hF : bX11_init_386 x0 z0 g m = some (r, g', m')) (hg : gOk g) : gX g g' ∧ gOk g' := by
  unfold bX11_init_386 at hF
  obtain ⟨m1, em1, hF⟩ := vm_ok hF
  obtain ⟨v2, m3, h4, hF⟩ := bd2_ok hF
  cases hF
  exact ⟨gX.rf _, hg⟩
set_option maxRecDepth 20000 in
theorem wX11_init_386 {p : Program} {l : Launch} {e : Env} {s : State} {mt : MethodId} {args : Array Value} {below : List Frame} {meth : Method} {c : Code} {Q : State → Prop} {G : Gl} {A : Nat → Prop} {H0 : Heap} {ad : Int → Nat} {g : Shp} {ad0 : Int → Nat} {g0 : Shp} {n0 t0 cells slots mc msl : Nat} (hnm : meth.name = "<init>") {H : Heap} {locs : List Loc} {ls : Array Slot} {m : Mem} {x0 z0 : Int} (C : CallFix p mt c cX11_init 2 s args tb RX11) (S : Wd G A s H0 ad g m H locs) (hx0 : gk g x0 = 12) (hz0 : r32 z0) (hl : lv_has ls 2 [(0, .ref (ad x0))]) (hq : aX g0 ad0 ad ∧ gX g0 g) (hn : gn g = n0 + cells ∧ gs g = t0 + slots) {r : Int} {g' : Shp} {m' : Mem} (hF : bX11_init_386 x0 z0 g m = some (r, g', m')) (he : gn g' ≤ n0 + mc ∧ gs g' ≤ t0 + msl) (Kr : ∀ (ad : Int → Nat) (H : Heap) (locs : List Loc) (pc : Nat) (ls : Array Slot) (cells slots : Nat), aX g0 ad0 ad → gn g' = n0 + cells ∧ gs g' = t0 + slots → Wd G A s H0 ad g' m' H locs → decode cX11_init pc = .ok (.return_, 1) → W p l e (rX11_init mc msl) s mt args below meth c H locs cells slots Q (F0 mt pc ls [])) : W p l e (rX11_init mc msl) s mt args below meth c H locs cells slots Q (F0 mt 386 ls [.int (iI z0)]) := by
  have hXx := xX11_init_386 hF S.g
  have hle : cells ≤ mc ∧ slots ≤ msl := by
    have h1 := hXx.1.1
    have h2 := hXx.1.2.1
    omega
  unfold bX11_init_386 at hF
  refine q_istore_n C hl [(1, .int (iI z0)), (0, .ref (ad x0))] rfl rfl (by decide) rfl dX11_init_386 (fun ls hl => ?_)
  refine q_aload_n C hl 1 rfl rfl dX11_init_387 ?_
  refine q_dup C rfl dX11_init_388 ?_
  refine q_geti C S 10 fo_RX11_100 (j := 10) rfl rfl hx0 dX11_init_389 ?_
  refine q_iconst C 1 dX11_init_392 ?_
  refine q_iadd C dX11_init_393 ?_
  obtain ⟨m1, em1, hF⟩ := vm_ok hF
  refine q_put C S 10 fo_RX11_100 fp_12_10 (fun h9 => absurd h9 (by decide)) (j := 10) rfl hx0 rfl rfl rfl (r32_w _) (fun h9 => absurd h9 (by decide)) em1 dX11_init_394 (fun H locs Sm1 => ?_)
  refine q_aload_n C hl 1 rfl rfl dX11_init_397 ?_
  obtain ⟨v2, m3, h4, hF⟩ := bd2_ok hF
  refine q_cv Sm1 (run_V (As := []) (rest := []) C Sm1 (cX11_takeRead_ok l G hx0 h4 ad _) hx0 ⟨by decide, _, _, rfl⟩ gd_RX11_104 hdV_X11_takeRead rfl ⟨rfl, rfl, (Nat.le_of_ble_eq_true rfl), (Nat.le_of_ble_eq_true rfl)⟩ hle hl.1 rfl (Nat.le_of_ble_eq_true rfl) dX11_init_398) (fun H locs Sm3 => ?_)
  cases hF
  exact Kr _ _ _ _ _ _ _ hq.1 hn Sm3 dX11_init_401
theorem xX11_init_385 {g : Shp} {m : Mem} {x0 : Int} {r : Int} {g' : Shp} {m' : Mem} (hF : bX11_init_385 x0 g m = some (r, g', m')) (hg : gOk g) : gX g g' ∧ gOk g' := by
  unfold bX11_init_385 at hF
  exact xX11_init_386 hF hg
set_option maxRecDepth 20000 in
theorem wX11_init_385 {p : Program} {l : Launch} {e : Env} {s : State} {mt : MethodId} {args : Array Value} {below : List Frame} {meth : Method} {c : Code} {Q : State → Prop} {G : Gl} {A : Nat → Prop} {H0 : Heap} {ad : Int → Nat} {g : Shp} {ad0 : Int → Nat} {g0 : Shp} {n0 t0 cells slots mc msl : Nat} (hnm : meth.name = "<init>") {H : Heap} {locs : List Loc} {ls : Array Slot} {m : Mem} {x0 : Int} (C : CallFix p mt c cX11_init 2 s args tb RX11) (S : Wd G A s H0 ad g m H locs) (hx0 : gk g x0 = 12) (hl : lv_has ls 2 [(0, .ref (ad x0))]) (hq : aX g0 ad0 ad ∧ gX g0 g) (hn : gn g = n0 + cells ∧ gs g = t0 + slots) {r : Int} {g' : Shp} {m' : Mem} (hF : bX11_init_385 x0 g m = some (r, g', m')) (he : gn g' ≤ n0 + mc ∧ gs g' ≤ t0 + msl) (Kr : ∀ (ad : Int → Nat) (H : Heap) (locs : List Loc) (pc : Nat) (ls : Array Slot) (cells slots : Nat), aX g0 ad0 ad → gn g' = n0 + cells ∧ gs g' = t0 + slots → Wd G A s H0 ad g' m' H locs → decode cX11_init pc = .ok (.return_, 1) → W p l e (rX11_init mc msl) s mt args below meth c H locs cells slots Q (F0 mt pc ls [])) : W p l e (rX11_init mc msl) s mt args below meth c H locs cells slots Q (F0 mt 385 ls []) := by
  have hXx := xX11_init_385 hF S.g
  have hle : cells ≤ mc ∧ slots ≤ msl := by
    have h1 := hXx.1.1
    have h2 := hXx.1.2.1
    omega
  unfold bX11_init_385 at hF
  refine q_iconst C 0 dX11_init_385 ?_
  exact wX11_init_386 hnm C S hx0 (rl 0 rfl) (lv_sub hl [0] rfl) hq hn hF he Kr
theorem xX11_init_339 {g : Shp} {m : Mem} {x0 z0 : Int} {r : Int} {g' : Shp} {m' : Mem} (hF : bX11_init_339 x0 z0 g m = some (r, g', m')) (hg : gOk g) : gX g g' ∧ gOk g' := by
  unfold bX11_init_339 at hF
  obtain ⟨m1, em1, hF⟩ := vm_ok hF
  obtain ⟨v2, m3, h4, hF⟩ := bd2_ok hF
  by_cases hc5 : z0 = 0
  · have hF := if_t hc5 hF
    exact xX11_init_385 hF hg
  · have hF := if_f hc5 hF
    obtain ⟨v6, m7, h8, hF⟩ := bd2_ok hF
    by_cases hc10 : v6 = 0
    · have hF := if_t hc10 hF
      exact xX11_init_385 hF hg
    · have hF := if_f hc10 hF
      obtain ⟨v11, m12, h13, hF⟩ := bd2_ok hF
      by_cases hc15 : v11 = 0
      · have hF := if_t hc15 hF
        exact xX11_init_385 hF hg
      · have hF := if_f hc15 hF
        exact xX11_init_386 hF hg
set_option maxRecDepth 20000 in
theorem wX11_init_339 {p : Program} {l : Launch} {e : Env} {s : State} {mt : MethodId} {args : Array Value} {below : List Frame} {meth : Method} {c : Code} {Q : State → Prop} {G : Gl} {A : Nat → Prop} {H0 : Heap} {ad : Int → Nat} {g : Shp} {ad0 : Int → Nat} {g0 : Shp} {n0 t0 cells slots mc msl : Nat} (hnm : meth.name = "<init>") {H : Heap} {locs : List Loc} {ls : Array Slot} {m : Mem} {x0 z0 : Int} (C : CallFix p mt c cX11_init 2 s args tb RX11) (S : Wd G A s H0 ad g m H locs) (hx0 : gk g x0 = 12) (hz0 : r32 z0) (hl : lv_has ls 2 [(0, .ref (ad x0))]) (hq : aX g0 ad0 ad ∧ gX g0 g) (hn : gn g = n0 + cells ∧ gs g = t0 + slots) {r : Int} {g' : Shp} {m' : Mem} (hF : bX11_init_339 x0 z0 g m = some (r, g', m')) (he : gn g' ≤ n0 + mc ∧ gs g' ≤ t0 + msl) (Kr : ∀ (ad : Int → Nat) (H : Heap) (locs : List Loc) (pc : Nat) (ls : Array Slot) (cells slots : Nat), aX g0 ad0 ad → gn g' = n0 + cells ∧ gs g' = t0 + slots → Wd G A s H0 ad g' m' H locs → decode cX11_init pc = .ok (.return_, 1) → W p l e (rX11_init mc msl) s mt args below meth c H locs cells slots Q (F0 mt pc ls [])) : W p l e (rX11_init mc msl) s mt args below meth c H locs cells slots Q (F0 mt 339 ls [.int (iI z0)]) := by
  have hXx := xX11_init_339 hF S.g
  have hle : cells ≤ mc ∧ slots ≤ msl := by
    have h1 := hXx.1.1
    have h2 := hXx.1.2.1
    omega
  unfold bX11_init_339 at hF
  refine q_istore_n C hl [(1, .int (iI z0)), (0, .ref (ad x0))] rfl rfl (by decide) rfl dX11_init_339 (fun ls hl => ?_)
  refine q_aload_n C hl 1 rfl rfl dX11_init_340 ?_
  refine q_dup C rfl dX11_init_341 ?_
  refine q_geti C S 10 fo_RX11_100 (j := 10) rfl rfl hx0 dX11_init_342 ?_
  refine q_iconst C 1 dX11_init_345 ?_
  refine q_iadd C dX11_init_346 ?_
  obtain ⟨m1, em1, hF⟩ := vm_ok hF
  refine q_put C S 10 fo_RX11_100 fp_12_10 (fun h9 => absurd h9 (by decide)) (j := 10) rfl hx0 rfl rfl rfl (r32_w _) (fun h9 => absurd h9 (by decide)) em1 dX11_init_347 (fun H locs Sm1 => ?_)
  refine q_aload_n C hl 1 rfl rfl dX11_init_350 ?_
  refine q_iconst C 0 dX11_init_351 ?_
  refine q_iconst C 5 dX11_init_352 ?_
  obtain ⟨v2, m3, h4, hF⟩ := bd2_ok hF
  refine q_cv Sm1 (run_V (As := [.int (iI 0), .int (iI 5)]) (rest := []) C Sm1 (cX11_beginLine_ok l G hx0 (rl 0 rfl) (rl 5 rfl) h4 ad _) hx0 ⟨by decide, _, _, rfl⟩ gd_RX11_92 hdV_X11_beginLine rfl ⟨rfl, rfl, (Nat.le_of_ble_eq_true rfl), (Nat.le_of_ble_eq_true rfl)⟩ hle hl.1 rfl (Nat.le_of_ble_eq_true rfl) dX11_init_353) (fun H locs Sm3 => ?_)
  refine q_iload_n C hl 0 rfl rfl dX11_init_356 ?_
  refine q_if_eq C hz0 385 dX11_init_357 (by decide) (fun hc5 => ?_) (fun hc5 => ?_)
  · have hF := if_t hc5 hF
    exact wX11_init_385 hnm C Sm3 hx0 (lv_sub hl [1] rfl) hq hn hF he Kr
  · have hF := if_f hc5 hF
    refine q_aload_n C hl 1 rfl rfl dX11_init_360 ?_
    refine q_bipush C 114 (by decide) dX11_init_361 ?_
    refine q_bipush C 12 (by decide) dX11_init_363 ?_
    obtain ⟨v6, m7, h8, hF⟩ := bd2_ok hF
    refine q_ci Sm3 (run_V (As := [.int (iI 114), .int (iI 12)]) (rest := []) C Sm3 (cX11_goRun_ok l G hx0 (rl 114 rfl) (rl 12 rfl) h8 ad _) hx0 ⟨by decide, _, _, rfl⟩ gd_RX11_96 hdV_X11_goRun rfl ⟨rfl, rfl, (Nat.le_of_ble_eq_true rfl), (Nat.le_of_ble_eq_true rfl)⟩ hle hl.1 rfl (Nat.le_of_ble_eq_true rfl) dX11_init_365) (fun H locs Sm7 h9 => ?_)
    refine q_if_eq C h9.1 385 dX11_init_368 (by decide) (fun hc10 => ?_) (fun hc10 => ?_)
    · have hF := if_t hc10 hF
      exact wX11_init_385 hnm C Sm7 hx0 (lv_sub hl [1] rfl) hq hn hF he Kr
    · have hF := if_f hc10 hF
      refine q_aload_n C hl 1 rfl rfl dX11_init_371 ?_
      refine q_bipush C 117 (by decide) dX11_init_372 ?_
      refine q_iconst C 3 dX11_init_374 ?_
      obtain ⟨v11, m12, h13, hF⟩ := bd2_ok hF
      refine q_ci Sm7 (run_V (As := [.int (iI 117), .int (iI 3)]) (rest := []) C Sm7 (cX11_goRun_ok l G hx0 (rl 117 rfl) (rl 3 rfl) h13 ad _) hx0 ⟨by decide, _, _, rfl⟩ gd_RX11_96 hdV_X11_goRun rfl ⟨rfl, rfl, (Nat.le_of_ble_eq_true rfl), (Nat.le_of_ble_eq_true rfl)⟩ hle hl.1 rfl (Nat.le_of_ble_eq_true rfl) dX11_init_375) (fun H locs Sm12 h14 => ?_)
      refine q_if_eq C h14.1 385 dX11_init_378 (by decide) (fun hc15 => ?_) (fun hc15 => ?_)
      · have hF := if_t hc15 hF
        exact wX11_init_385 hnm C Sm12 hx0 (lv_sub hl [1] rfl) hq hn hF he Kr
      · have hF := if_f hc15 hF
        refine q_iconst C 1 dX11_init_381 ?_
        refine q_goto C 386 dX11_init_382 (by decide) ?_
        exact wX11_init_386 hnm C Sm12 hx0 (rl 1 rfl) (lv_sub hl [1] rfl) hq hn hF he Kr
theorem xX11_init_338 {g : Shp} {m : Mem} {x0 : Int} {r : Int} {g' : Shp} {m' : Mem} (hF : bX11_init_338 x0 g m = some (r, g', m')) (hg : gOk g) : gX g g' ∧ gOk g' := by
  unfold bX11_init_338 at hF
  exact xX11_init_339 hF hg
set_option maxRecDepth 20000 in
theorem wX11_init_338 {p : Program} {l : Launch} {e : Env} {s : State} {mt : MethodId} {args : Array Value} {below : List Frame} {meth : Method} {c : Code} {Q : State → Prop} {G : Gl} {A : Nat → Prop} {H0 : Heap} {ad : Int → Nat} {g : Shp} {ad0 : Int → Nat} {g0 : Shp} {n0 t0 cells slots mc msl : Nat} (hnm : meth.name = "<init>") {H : Heap} {locs : List Loc} {ls : Array Slot} {m : Mem} {x0 : Int} (C : CallFix p mt c cX11_init 2 s args tb RX11) (S : Wd G A s H0 ad g m H locs) (hx0 : gk g x0 = 12) (hl : lv_has ls 2 [(0, .ref (ad x0))]) (hq : aX g0 ad0 ad ∧ gX g0 g) (hn : gn g = n0 + cells ∧ gs g = t0 + slots) {r : Int} {g' : Shp} {m' : Mem} (hF : bX11_init_338 x0 g m = some (r, g', m')) (he : gn g' ≤ n0 + mc ∧ gs g' ≤ t0 + msl) (Kr : ∀ (ad : Int → Nat) (H : Heap) (locs : List Loc) (pc : Nat) (ls : Array Slot) (cells slots : Nat), aX g0 ad0 ad → gn g' = n0 + cells ∧ gs g' = t0 + slots → Wd G A s H0 ad g' m' H locs → decode cX11_init pc = .ok (.return_, 1) → W p l e (rX11_init mc msl) s mt args below meth c H locs cells slots Q (F0 mt pc ls [])) : W p l e (rX11_init mc msl) s mt args below meth c H locs cells slots Q (F0 mt 338 ls []) := by
  have hXx := xX11_init_338 hF S.g
  have hle : cells ≤ mc ∧ slots ≤ msl := by
    have h1 := hXx.1.1
    have h2 := hXx.1.2.1
    omega
  unfold bX11_init_338 at hF
  refine q_iconst C 0 dX11_init_338 ?_
  exact wX11_init_339 hnm C S hx0 (rl 0 rfl) (lv_sub hl [0] rfl) hq hn hF he Kr
theorem xX11_init_301 {g : Shp} {m : Mem} {x0 z0 : Int} {r : Int} {g' : Shp} {m' : Mem} (hF : bX11_init_301 x0 z0 g m = some (r, g', m')) (hg : gOk g) : gX g g' ∧ gOk g' := by
  unfold bX11_init_301 at hF
  obtain ⟨m1, em1, hF⟩ := vm_ok hF
  obtain ⟨v2, m3, h4, hF⟩ := bd2_ok hF
  by_cases hc5 : z0 = 0
  · have hF := if_t hc5 hF
    exact xX11_init_338 hF hg
  · have hF := if_f hc5 hF
    obtain ⟨v6, m7, h8, hF⟩ := bd2_ok hF
    by_cases hc10 : v6 = 0
    · have hF := if_t hc10 hF
      exact xX11_init_338 hF hg
    · have hF := if_f hc10 hF
      exact xX11_init_339 hF hg
set_option maxRecDepth 20000 in
theorem wX11_init_301 {p : Program} {l : Launch} {e : Env} {s : State} {mt : MethodId} {args : Array Value} {below : List Frame} {meth : Method} {c : Code} {Q : State → Prop} {G : Gl} {A : Nat → Prop} {H0 : Heap} {ad : Int → Nat} {g : Shp} {ad0 : Int → Nat} {g0 : Shp} {n0 t0 cells slots mc msl : Nat} (hnm : meth.name = "<init>") {H : Heap} {locs : List Loc} {ls : Array Slot} {m : Mem} {x0 z0 : Int} (C : CallFix p mt c cX11_init 2 s args tb RX11) (S : Wd G A s H0 ad g m H locs) (hx0 : gk g x0 = 12) (hz0 : r32 z0) (hl : lv_has ls 2 [(0, .ref (ad x0))]) (hq : aX g0 ad0 ad ∧ gX g0 g) (hn : gn g = n0 + cells ∧ gs g = t0 + slots) {r : Int} {g' : Shp} {m' : Mem} (hF : bX11_init_301 x0 z0 g m = some (r, g', m')) (he : gn g' ≤ n0 + mc ∧ gs g' ≤ t0 + msl) (Kr : ∀ (ad : Int → Nat) (H : Heap) (locs : List Loc) (pc : Nat) (ls : Array Slot) (cells slots : Nat), aX g0 ad0 ad → gn g' = n0 + cells ∧ gs g' = t0 + slots → Wd G A s H0 ad g' m' H locs → decode cX11_init pc = .ok (.return_, 1) → W p l e (rX11_init mc msl) s mt args below meth c H locs cells slots Q (F0 mt pc ls [])) : W p l e (rX11_init mc msl) s mt args below meth c H locs cells slots Q (F0 mt 301 ls [.int (iI z0)]) := by
  have hXx := xX11_init_301 hF S.g
  have hle : cells ≤ mc ∧ slots ≤ msl := by
    have h1 := hXx.1.1
    have h2 := hXx.1.2.1
    omega
  unfold bX11_init_301 at hF
  refine q_istore_n C hl [(1, .int (iI z0)), (0, .ref (ad x0))] rfl rfl (by decide) rfl dX11_init_301 (fun ls hl => ?_)
  refine q_aload_n C hl 1 rfl rfl dX11_init_302 ?_
  refine q_dup C rfl dX11_init_303 ?_
  refine q_geti C S 10 fo_RX11_100 (j := 10) rfl rfl hx0 dX11_init_304 ?_
  refine q_iconst C 1 dX11_init_307 ?_
  refine q_iadd C dX11_init_308 ?_
  obtain ⟨m1, em1, hF⟩ := vm_ok hF
  refine q_put C S 10 fo_RX11_100 fp_12_10 (fun h9 => absurd h9 (by decide)) (j := 10) rfl hx0 rfl rfl rfl (r32_w _) (fun h9 => absurd h9 (by decide)) em1 dX11_init_309 (fun H locs Sm1 => ?_)
  refine q_aload_n C hl 1 rfl rfl dX11_init_312 ?_
  refine q_bipush C 6 (by decide) dX11_init_313 ?_
  refine q_iconst C 0 dX11_init_315 ?_
  obtain ⟨v2, m3, h4, hF⟩ := bd2_ok hF
  refine q_cv Sm1 (run_V (As := [.int (iI 6), .int (iI 0)]) (rest := []) C Sm1 (cX11_beginLine_ok l G hx0 (rl 6 rfl) (rl 0 rfl) h4 ad _) hx0 ⟨by decide, _, _, rfl⟩ gd_RX11_92 hdV_X11_beginLine rfl ⟨rfl, rfl, (Nat.le_of_ble_eq_true rfl), (Nat.le_of_ble_eq_true rfl)⟩ hle hl.1 rfl (Nat.le_of_ble_eq_true rfl) dX11_init_316) (fun H locs Sm3 => ?_)
  refine q_iload_n C hl 0 rfl rfl dX11_init_319 ?_
  refine q_if_eq C hz0 338 dX11_init_320 (by decide) (fun hc5 => ?_) (fun hc5 => ?_)
  · have hF := if_t hc5 hF
    exact wX11_init_338 hnm C Sm3 hx0 (lv_sub hl [1] rfl) hq hn hF he Kr
  · have hF := if_f hc5 hF
    refine q_aload_n C hl 1 rfl rfl dX11_init_323 ?_
    refine q_bipush C 100 (by decide) dX11_init_324 ?_
    refine q_bipush C 8 (by decide) dX11_init_326 ?_
    obtain ⟨v6, m7, h8, hF⟩ := bd2_ok hF
    refine q_ci Sm3 (run_V (As := [.int (iI 100), .int (iI 8)]) (rest := []) C Sm3 (cX11_goRun_ok l G hx0 (rl 100 rfl) (rl 8 rfl) h8 ad _) hx0 ⟨by decide, _, _, rfl⟩ gd_RX11_96 hdV_X11_goRun rfl ⟨rfl, rfl, (Nat.le_of_ble_eq_true rfl), (Nat.le_of_ble_eq_true rfl)⟩ hle hl.1 rfl (Nat.le_of_ble_eq_true rfl) dX11_init_328) (fun H locs Sm7 h9 => ?_)
    refine q_if_eq C h9.1 338 dX11_init_331 (by decide) (fun hc10 => ?_) (fun hc10 => ?_)
    · have hF := if_t hc10 hF
      exact wX11_init_338 hnm C Sm7 hx0 (lv_sub hl [1] rfl) hq hn hF he Kr
    · have hF := if_f hc10 hF
      refine q_iconst C 1 dX11_init_334 ?_
      refine q_goto C 339 dX11_init_335 (by decide) ?_
      exact wX11_init_339 hnm C Sm7 hx0 (rl 1 rfl) (lv_sub hl [1] rfl) hq hn hF he Kr
theorem xX11_init_300 {g : Shp} {m : Mem} {x0 : Int} {r : Int} {g' : Shp} {m' : Mem} (hF : bX11_init_300 x0 g m = some (r, g', m')) (hg : gOk g) : gX g g' ∧ gOk g' := by
  unfold bX11_init_300 at hF
  exact xX11_init_301 hF hg
set_option maxRecDepth 20000 in
theorem wX11_init_300 {p : Program} {l : Launch} {e : Env} {s : State} {mt : MethodId} {args : Array Value} {below : List Frame} {meth : Method} {c : Code} {Q : State → Prop} {G : Gl} {A : Nat → Prop} {H0 : Heap} {ad : Int → Nat} {g : Shp} {ad0 : Int → Nat} {g0 : Shp} {n0 t0 cells slots mc msl : Nat} (hnm : meth.name = "<init>") {H : Heap} {locs : List Loc} {ls : Array Slot} {m : Mem} {x0 : Int} (C : CallFix p mt c cX11_init 2 s args tb RX11) (S : Wd G A s H0 ad g m H locs) (hx0 : gk g x0 = 12) (hl : lv_has ls 2 [(0, .ref (ad x0))]) (hq : aX g0 ad0 ad ∧ gX g0 g) (hn : gn g = n0 + cells ∧ gs g = t0 + slots) {r : Int} {g' : Shp} {m' : Mem} (hF : bX11_init_300 x0 g m = some (r, g', m')) (he : gn g' ≤ n0 + mc ∧ gs g' ≤ t0 + msl) (Kr : ∀ (ad : Int → Nat) (H : Heap) (locs : List Loc) (pc : Nat) (ls : Array Slot) (cells slots : Nat), aX g0 ad0 ad → gn g' = n0 + cells ∧ gs g' = t0 + slots → Wd G A s H0 ad g' m' H locs → decode cX11_init pc = .ok (.return_, 1) → W p l e (rX11_init mc msl) s mt args below meth c H locs cells slots Q (F0 mt pc ls [])) : W p l e (rX11_init mc msl) s mt args below meth c H locs cells slots Q (F0 mt 300 ls []) := by
  have hXx := xX11_init_300 hF S.g
  have hle : cells ≤ mc ∧ slots ≤ msl := by
    have h1 := hXx.1.1
    have h2 := hXx.1.2.1
    omega
  unfold bX11_init_300 at hF
  refine q_iconst C 0 dX11_init_300 ?_
  exact wX11_init_301 hnm C S hx0 (rl 0 rfl) (lv_sub hl [0] rfl) hq hn hF he Kr
theorem xX11_init_209 {g : Shp} {m : Mem} {x0 z0 z1 : Int} {r : Int} {g' : Shp} {m' : Mem} (hF : bX11_init_209 x0 z0 z1 g m = some (r, g', m')) (hg : gOk g) : gX g g' ∧ gOk g' := by
  unfold bX11_init_209 at hF
  obtain ⟨m1, em1, hF⟩ := vm_ok hF
  obtain ⟨v2, m3, h4, hF⟩ := bd2_ok hF
  obtain ⟨k5, hF⟩ := ck_ok hF
  obtain ⟨i6, hF⟩ := ck_ok hF
  obtain ⟨m7, em7, hF⟩ := vm_ok hF
  obtain ⟨k8, hF⟩ := ck_ok hF
  obtain ⟨i9, hF⟩ := ck_ok hF
  obtain ⟨m10, em10, hF⟩ := vm_ok hF
  obtain ⟨k11, hF⟩ := ck_ok hF
  obtain ⟨i12, hF⟩ := ck_ok hF
  obtain ⟨m13, em13, hF⟩ := vm_ok hF
  obtain ⟨k14, hF⟩ := ck_ok hF
  obtain ⟨i15, hF⟩ := ck_ok hF
  obtain ⟨m16, em16, hF⟩ := vm_ok hF
  obtain ⟨k17, hF⟩ := ck_ok hF
  obtain ⟨i18, hF⟩ := ck_ok hF
  obtain ⟨m19, em19, hF⟩ := vm_ok hF
  obtain ⟨k20, hF⟩ := ck_ok hF
  obtain ⟨i21, hF⟩ := ck_ok hF
  obtain ⟨m22, em22, hF⟩ := vm_ok hF
  obtain ⟨v23, m24, h25, hF⟩ := bd2_ok hF
  obtain ⟨v26, m27, h28, hF⟩ := bd2_ok hF
  by_cases hc30 : v26 = 0
  · have hF := if_t hc30 hF
    exact xX11_init_300 hF hg
  · have hF := if_f hc30 hF
    obtain ⟨v31, m32, h33, hF⟩ := bd2_ok hF
    by_cases hc35 : v31 = 0
    · have hF := if_t hc35 hF
      exact xX11_init_300 hF hg
    · have hF := if_f hc35 hF
      obtain ⟨v36, m37, h38, hF⟩ := bd2_ok hF
      by_cases hc40 : v36 = 0
      · have hF := if_t hc40 hF
        exact xX11_init_300 hF hg
      · have hF := if_f hc40 hF
        exact xX11_init_301 hF hg
set_option maxRecDepth 20000 in
theorem wX11_init_209 {p : Program} {l : Launch} {e : Env} {s : State} {mt : MethodId} {args : Array Value} {below : List Frame} {meth : Method} {c : Code} {Q : State → Prop} {G : Gl} {A : Nat → Prop} {H0 : Heap} {ad : Int → Nat} {g : Shp} {ad0 : Int → Nat} {g0 : Shp} {n0 t0 cells slots mc msl : Nat} (hnm : meth.name = "<init>") {H : Heap} {locs : List Loc} {ls : Array Slot} {m : Mem} {x0 z0 z1 : Int} (C : CallFix p mt c cX11_init 2 s args tb RX11) (S : Wd G A s H0 ad g m H locs) (hx0 : gk g x0 = 12) (hz0 : gk g z0 = 12) (hz1 : gk g z1 = 20) (hl : lv_has ls 2 [(0, .ref (ad x0))]) (hq : aX g0 ad0 ad ∧ gX g0 g) (hn : gn g = n0 + cells ∧ gs g = t0 + slots) {r : Int} {g' : Shp} {m' : Mem} (hF : bX11_init_209 x0 z0 z1 g m = some (r, g', m')) (he : gn g' ≤ n0 + mc ∧ gs g' ≤ t0 + msl) (Kr : ∀ (ad : Int → Nat) (H : Heap) (locs : List Loc) (pc : Nat) (ls : Array Slot) (cells slots : Nat), aX g0 ad0 ad → gn g' = n0 + cells ∧ gs g' = t0 + slots → Wd G A s H0 ad g' m' H locs → decode cX11_init pc = .ok (.return_, 1) → W p l e (rX11_init mc msl) s mt args below meth c H locs cells slots Q (F0 mt pc ls [])) : W p l e (rX11_init mc msl) s mt args below meth c H locs cells slots Q (F0 mt 209 ls [.ref (ad z1), .ref (ad z0)]) := by
  have hXx := xX11_init_209 hF S.g
  have hle : cells ≤ mc ∧ slots ≤ msl := by
    have h1 := hXx.1.1
    have h2 := hXx.1.2.1
    omega
  unfold bX11_init_209 at hF
  obtain ⟨m1, em1, hF⟩ := vm_ok hF
  refine q_put C S 38 fo_RX11_86 fp_12_38 (fun _ => ⟨hnm, rfl⟩) (j := 38) rfl hz0 (orf_ok S hz1 (by decide) rfl) rfl rfl (S.k hz1 (by decide)) (fun _ => kz hz1 (by decide)) em1 dX11_init_209 (fun H locs Sm1 => ?_)
  refine q_aload_n C hl 0 rfl rfl dX11_init_212 ?_
  obtain ⟨v2, m3, h4, hF⟩ := bd2_ok hF
  refine q_cv Sm1 (run_V (As := []) (rest := []) C Sm1 (cX11_begin_ok l G hx0 h4 ad _) hx0 ⟨by decide, _, _, rfl⟩ gd_RX11_89 hdV_X11_begin rfl ⟨rfl, rfl, (Nat.le_of_ble_eq_true rfl), (Nat.le_of_ble_eq_true rfl)⟩ hle hl.1 rfl (Nat.le_of_ble_eq_true rfl) dX11_init_213) (fun H locs Sm3 => ?_)
  refine q_aload_n C hl 0 rfl rfl dX11_init_216 ?_
  obtain ⟨k5, hF⟩ := ck_ok hF
  refine q_getr C Sm3 9 fo_RX11_25 (j := 9) rfl rfl hx0 k5 (by decide) dX11_init_217 ?_
  refine q_iconst C 0 dX11_init_220 ?_
  refine q_iconst C 4 dX11_init_221 ?_
  obtain ⟨i6, hF⟩ := ck_ok hF
  obtain ⟨m7, em7, hF⟩ := vm_ok hF
  refine q_iast C Sm3 k5 i6 (rl 4 rfl) em7 dX11_init_222 (fun H locs Sm7 => ?_)
  refine q_aload_n C hl 0 rfl rfl dX11_init_223 ?_
  obtain ⟨k8, hF⟩ := ck_ok hF
  refine q_getr C Sm7 9 fo_RX11_25 (j := 9) rfl rfl hx0 k8 (by decide) dX11_init_224 ?_
  refine q_iconst C 1 dX11_init_227 ?_
  refine q_iconst C 4 dX11_init_228 ?_
  obtain ⟨i9, hF⟩ := ck_ok hF
  obtain ⟨m10, em10, hF⟩ := vm_ok hF
  refine q_iast C Sm7 k8 i9 (rl 4 rfl) em10 dX11_init_229 (fun H locs Sm10 => ?_)
  refine q_aload_n C hl 0 rfl rfl dX11_init_230 ?_
  obtain ⟨k11, hF⟩ := ck_ok hF
  refine q_getr C Sm10 9 fo_RX11_25 (j := 9) rfl rfl hx0 k11 (by decide) dX11_init_231 ?_
  refine q_iconst C 2 dX11_init_234 ?_
  refine q_iconst C 2 dX11_init_235 ?_
  obtain ⟨i12, hF⟩ := ck_ok hF
  obtain ⟨m13, em13, hF⟩ := vm_ok hF
  refine q_iast C Sm10 k11 i12 (rl 2 rfl) em13 dX11_init_236 (fun H locs Sm13 => ?_)
  refine q_aload_n C hl 0 rfl rfl dX11_init_237 ?_
  obtain ⟨k14, hF⟩ := ck_ok hF
  refine q_getr C Sm13 9 fo_RX11_25 (j := 9) rfl rfl hx0 k14 (by decide) dX11_init_238 ?_
  refine q_iconst C 3 dX11_init_241 ?_
  refine q_iconst C 3 dX11_init_242 ?_
  obtain ⟨i15, hF⟩ := ck_ok hF
  obtain ⟨m16, em16, hF⟩ := vm_ok hF
  refine q_iast C Sm13 k14 i15 (rl 3 rfl) em16 dX11_init_243 (fun H locs Sm16 => ?_)
  refine q_aload_n C hl 0 rfl rfl dX11_init_244 ?_
  obtain ⟨k17, hF⟩ := ck_ok hF
  refine q_getr C Sm16 9 fo_RX11_25 (j := 9) rfl rfl hx0 k17 (by decide) dX11_init_245 ?_
  refine q_iconst C 4 dX11_init_248 ?_
  refine q_iconst C 2 dX11_init_249 ?_
  obtain ⟨i18, hF⟩ := ck_ok hF
  obtain ⟨m19, em19, hF⟩ := vm_ok hF
  refine q_iast C Sm16 k17 i18 (rl 2 rfl) em19 dX11_init_250 (fun H locs Sm19 => ?_)
  refine q_aload_n C hl 0 rfl rfl dX11_init_251 ?_
  obtain ⟨k20, hF⟩ := ck_ok hF
  refine q_getr C Sm19 9 fo_RX11_25 (j := 9) rfl rfl hx0 k20 (by decide) dX11_init_252 ?_
  refine q_iconst C 5 dX11_init_255 ?_
  refine q_iconst C 1 dX11_init_256 ?_
  obtain ⟨i21, hF⟩ := ck_ok hF
  obtain ⟨m22, em22, hF⟩ := vm_ok hF
  refine q_iast C Sm19 k20 i21 (rl 1 rfl) em22 dX11_init_257 (fun H locs Sm22 => ?_)
  refine q_aload_n C hl 0 rfl rfl dX11_init_258 ?_
  refine q_iconst C 2 dX11_init_259 ?_
  refine q_iconst C 2 dX11_init_260 ?_
  obtain ⟨v23, m24, h25, hF⟩ := bd2_ok hF
  refine q_cv Sm22 (run_V (As := [.int (iI 2), .int (iI 2)]) (rest := []) C Sm22 (cX11_beginLine_ok l G hx0 (rl 2 rfl) (rl 2 rfl) h25 ad _) hx0 ⟨by decide, _, _, rfl⟩ gd_RX11_92 hdV_X11_beginLine rfl ⟨rfl, rfl, (Nat.le_of_ble_eq_true rfl), (Nat.le_of_ble_eq_true rfl)⟩ hle hl.1 rfl (Nat.le_of_ble_eq_true rfl) dX11_init_261) (fun H locs Sm24 => ?_)
  refine q_aload_n C hl 0 rfl rfl dX11_init_264 ?_
  refine q_bipush C 114 (by decide) dX11_init_265 ?_
  refine q_bipush C 9 (by decide) dX11_init_267 ?_
  obtain ⟨v26, m27, h28, hF⟩ := bd2_ok hF
  refine q_ci Sm24 (run_V (As := [.int (iI 114), .int (iI 9)]) (rest := []) C Sm24 (cX11_goRun_ok l G hx0 (rl 114 rfl) (rl 9 rfl) h28 ad _) hx0 ⟨by decide, _, _, rfl⟩ gd_RX11_96 hdV_X11_goRun rfl ⟨rfl, rfl, (Nat.le_of_ble_eq_true rfl), (Nat.le_of_ble_eq_true rfl)⟩ hle hl.1 rfl (Nat.le_of_ble_eq_true rfl) dX11_init_269) (fun H locs Sm27 h29 => ?_)
  refine q_if_eq C h29.1 300 dX11_init_272 (by decide) (fun hc30 => ?_) (fun hc30 => ?_)
  · have hF := if_t hc30 hF
    exact wX11_init_300 hnm C Sm27 hx0 (lv_sub hl [0] rfl) hq hn hF he Kr
  · have hF := if_f hc30 hF
    refine q_aload_n C hl 0 rfl rfl dX11_init_275 ?_
    refine q_bipush C 100 (by decide) dX11_init_276 ?_
    refine q_bipush C 6 (by decide) dX11_init_278 ?_
    obtain ⟨v31, m32, h33, hF⟩ := bd2_ok hF
    refine q_ci Sm27 (run_V (As := [.int (iI 100), .int (iI 6)]) (rest := []) C Sm27 (cX11_goRun_ok l G hx0 (rl 100 rfl) (rl 6 rfl) h33 ad _) hx0 ⟨by decide, _, _, rfl⟩ gd_RX11_96 hdV_X11_goRun rfl ⟨rfl, rfl, (Nat.le_of_ble_eq_true rfl), (Nat.le_of_ble_eq_true rfl)⟩ hle hl.1 rfl (Nat.le_of_ble_eq_true rfl) dX11_init_280) (fun H locs Sm32 h34 => ?_)
    refine q_if_eq C h34.1 300 dX11_init_283 (by decide) (fun hc35 => ?_) (fun hc35 => ?_)
    · have hF := if_t hc35 hF
      exact wX11_init_300 hnm C Sm32 hx0 (lv_sub hl [0] rfl) hq hn hF he Kr
    · have hF := if_f hc35 hF
      refine q_aload_n C hl 0 rfl rfl dX11_init_286 ?_
      refine q_bipush C 108 (by decide) dX11_init_287 ?_
      refine q_iconst C 4 dX11_init_289 ?_
      obtain ⟨v36, m37, h38, hF⟩ := bd2_ok hF
      refine q_ci Sm32 (run_V (As := [.int (iI 108), .int (iI 4)]) (rest := []) C Sm32 (cX11_goRun_ok l G hx0 (rl 108 rfl) (rl 4 rfl) h38 ad _) hx0 ⟨by decide, _, _, rfl⟩ gd_RX11_96 hdV_X11_goRun rfl ⟨rfl, rfl, (Nat.le_of_ble_eq_true rfl), (Nat.le_of_ble_eq_true rfl)⟩ hle hl.1 rfl (Nat.le_of_ble_eq_true rfl) dX11_init_290) (fun H locs Sm37 h39 => ?_)
      refine q_if_eq C h39.1 300 dX11_init_293 (by decide) (fun hc40 => ?_) (fun hc40 => ?_)
      · have hF := if_t hc40 hF
        exact wX11_init_300 hnm C Sm37 hx0 (lv_sub hl [0] rfl) hq hn hF he Kr
      · have hF := if_f hc40 hF
        refine q_iconst C 1 dX11_init_296 ?_
        refine q_goto C 301 dX11_init_297 (by decide) ?_
        exact wX11_init_301 hnm C Sm37 hx0 (rl 1 rfl) (lv_sub hl [0] rfl) hq hn hF he Kr
theorem xX11_init_202 {g : Shp} {m : Mem} {x0 z0 z1 : Int} {r : Int} {g' : Shp} {m' : Mem} (hF : bX11_init_202 x0 z0 z1 g m = some (r, g', m')) (hg : gOk g) : gX g g' ∧ gOk g' := by
  unfold bX11_init_202 at hF
  obtain ⟨m1, em1, hF⟩ := vm_ok hF
  obtain ⟨h5, hF⟩ := ck_ok hF
  obtain ⟨g2, eg2, hF⟩ := vg_ok hF
  obtain ⟨m3, em3, hF⟩ := vm_ok hF
  obtain ⟨y4, ey4, hF⟩ := vv_ok hF
  have hG2 := gA_ok hg h5 eg2
  have hX2 := gA_X hg eg2
  exact gX2 hX2 (xX11_init_209 hF hG2)
set_option maxRecDepth 20000 in
theorem wX11_init_202 {p : Program} {l : Launch} {e : Env} {s : State} {mt : MethodId} {args : Array Value} {below : List Frame} {meth : Method} {c : Code} {Q : State → Prop} {G : Gl} {A : Nat → Prop} {H0 : Heap} {ad : Int → Nat} {g : Shp} {ad0 : Int → Nat} {g0 : Shp} {n0 t0 cells slots mc msl : Nat} (hnm : meth.name = "<init>") {H : Heap} {locs : List Loc} {ls : Array Slot} {m : Mem} {x0 z0 z1 : Int} (C : CallFix p mt c cX11_init 2 s args tb RX11) (S : Wd G A s H0 ad g m H locs) (hx0 : gk g x0 = 12) (hz0 : gk g z0 = 12) (hz1 : gk g z1 = 20) (hl : lv_has ls 2 [(0, .ref (ad x0))]) (hq : aX g0 ad0 ad ∧ gX g0 g) (hn : gn g = n0 + cells ∧ gs g = t0 + slots) {r : Int} {g' : Shp} {m' : Mem} (hF : bX11_init_202 x0 z0 z1 g m = some (r, g', m')) (he : gn g' ≤ n0 + mc ∧ gs g' ≤ t0 + msl) (Kr : ∀ (ad : Int → Nat) (H : Heap) (locs : List Loc) (pc : Nat) (ls : Array Slot) (cells slots : Nat), aX g0 ad0 ad → gn g' = n0 + cells ∧ gs g' = t0 + slots → Wd G A s H0 ad g' m' H locs → decode cX11_init pc = .ok (.return_, 1) → W p l e (rX11_init mc msl) s mt args below meth c H locs cells slots Q (F0 mt pc ls [])) : W p l e (rX11_init mc msl) s mt args below meth c H locs cells slots Q (F0 mt 202 ls [.ref (ad z1), .ref (ad z0)]) := by
  have hXx := xX11_init_202 hF S.g
  have hle : cells ≤ mc ∧ slots ≤ msl := by
    have h1 := hXx.1.1
    have h2 := hXx.1.2.1
    omega
  unfold bX11_init_202 at hF
  obtain ⟨m1, em1, hF⟩ := vm_ok hF
  refine q_put C S 37 fo_RX11_83 fp_12_37 (fun _ => ⟨hnm, rfl⟩) (j := 37) rfl hz0 (orf_ok S hz1 (by decide) rfl) rfl rfl (S.k hz1 (by decide)) (fun _ => kz hz1 (by decide)) em1 dX11_init_202 (fun H locs Sm1 => ?_)
  refine q_aload_n C hl 0 rfl rfl dX11_init_205 ?_
  refine q_iconst C 3 dX11_init_206 ?_
  obtain ⟨h5, hF⟩ := ck_ok hF
  obtain ⟨g2, eg2, hF⟩ := vg_ok hF
  obtain ⟨m3, em3, hF⟩ := vm_ok hF
  obtain ⟨y4, ey4, hF⟩ := vv_ok hF
  have hG2 := gA_ok Sm1.g h5 eg2
  have hX2 := gA_X Sm1.g eg2
  have hN2 := gA_n eg2
  have hXr := (xX11_init_209 hF hG2).1
  refine q_newi C Sm1 rfl (Or.inl ⟨rfl, rfl, rfl⟩) tw113 h5 (by have h1 := hXr.1; have h2 := hXr.2.1; exact ⟨by show _ ≤ mc; omega, by show _ ≤ msl; omega⟩) eg2 em3 dX11_init_207 (fun ad6 H hax Sm3 => ?_)
  rw [← ey4]
  have ky4 := gA_k eg2 ey4
  have hq : aX g0 ad0 ad6 ∧ gX g0 g2 := ⟨hq.1.tr hq.2 hax, hq.2.tr hX2⟩
  have hn : gn g2 = n0 + (cells + 1) ∧ gs g2 = t0 + (slots + 3) := by omega
  have k7 := hX2.k hx0 (by decide)
  have ak7 : ad6 x0 = ad x0 := hax _ (kz hx0 (by decide))
  rw [← ak7] at hl
  rw [← ak7]
  exact wX11_init_209 hnm C Sm3 k7 k7 ky4 (lv_sub hl [0] rfl) hq hn hF he Kr
theorem xX11_init_195 {g : Shp} {m : Mem} {x0 z0 z1 : Int} {r : Int} {g' : Shp} {m' : Mem} (hF : bX11_init_195 x0 z0 z1 g m = some (r, g', m')) (hg : gOk g) : gX g g' ∧ gOk g' := by
  unfold bX11_init_195 at hF
  obtain ⟨m1, em1, hF⟩ := vm_ok hF
  obtain ⟨h5, hF⟩ := ck_ok hF
  obtain ⟨g2, eg2, hF⟩ := vg_ok hF
  obtain ⟨m3, em3, hF⟩ := vm_ok hF
  obtain ⟨y4, ey4, hF⟩ := vv_ok hF
  have hG2 := gA_ok hg h5 eg2
  have hX2 := gA_X hg eg2
  exact gX2 hX2 (xX11_init_202 hF hG2)
set_option maxRecDepth 20000 in
theorem wX11_init_195 {p : Program} {l : Launch} {e : Env} {s : State} {mt : MethodId} {args : Array Value} {below : List Frame} {meth : Method} {c : Code} {Q : State → Prop} {G : Gl} {A : Nat → Prop} {H0 : Heap} {ad : Int → Nat} {g : Shp} {ad0 : Int → Nat} {g0 : Shp} {n0 t0 cells slots mc msl : Nat} (hnm : meth.name = "<init>") {H : Heap} {locs : List Loc} {ls : Array Slot} {m : Mem} {x0 z0 z1 : Int} (C : CallFix p mt c cX11_init 2 s args tb RX11) (S : Wd G A s H0 ad g m H locs) (hx0 : gk g x0 = 12) (hz0 : gk g z0 = 12) (hz1 : gk g z1 = 21) (hl : lv_has ls 2 [(0, .ref (ad x0))]) (hq : aX g0 ad0 ad ∧ gX g0 g) (hn : gn g = n0 + cells ∧ gs g = t0 + slots) {r : Int} {g' : Shp} {m' : Mem} (hF : bX11_init_195 x0 z0 z1 g m = some (r, g', m')) (he : gn g' ≤ n0 + mc ∧ gs g' ≤ t0 + msl) (Kr : ∀ (ad : Int → Nat) (H : Heap) (locs : List Loc) (pc : Nat) (ls : Array Slot) (cells slots : Nat), aX g0 ad0 ad → gn g' = n0 + cells ∧ gs g' = t0 + slots → Wd G A s H0 ad g' m' H locs → decode cX11_init pc = .ok (.return_, 1) → W p l e (rX11_init mc msl) s mt args below meth c H locs cells slots Q (F0 mt pc ls [])) : W p l e (rX11_init mc msl) s mt args below meth c H locs cells slots Q (F0 mt 195 ls [.ref (ad z1), .ref (ad z0)]) := by
  have hXx := xX11_init_195 hF S.g
  have hle : cells ≤ mc ∧ slots ≤ msl := by
    have h1 := hXx.1.1
    have h2 := hXx.1.2.1
    omega
  unfold bX11_init_195 at hF
  obtain ⟨m1, em1, hF⟩ := vm_ok hF
  refine q_put C S 34 fo_RX11_80 fp_12_34 (fun _ => ⟨hnm, rfl⟩) (j := 34) rfl hz0 (orf_ok S hz1 (by decide) rfl) rfl rfl (S.k hz1 (by decide)) (fun _ => kz hz1 (by decide)) em1 dX11_init_195 (fun H locs Sm1 => ?_)
  refine q_aload_n C hl 0 rfl rfl dX11_init_198 ?_
  refine q_iconst C 3 dX11_init_199 ?_
  obtain ⟨h5, hF⟩ := ck_ok hF
  obtain ⟨g2, eg2, hF⟩ := vg_ok hF
  obtain ⟨m3, em3, hF⟩ := vm_ok hF
  obtain ⟨y4, ey4, hF⟩ := vv_ok hF
  have hG2 := gA_ok Sm1.g h5 eg2
  have hX2 := gA_X Sm1.g eg2
  have hN2 := gA_n eg2
  have hXr := (xX11_init_202 hF hG2).1
  refine q_newi C Sm1 rfl (Or.inl ⟨rfl, rfl, rfl⟩) tw113 h5 (by have h1 := hXr.1; have h2 := hXr.2.1; exact ⟨by show _ ≤ mc; omega, by show _ ≤ msl; omega⟩) eg2 em3 dX11_init_200 (fun ad6 H hax Sm3 => ?_)
  rw [← ey4]
  have ky4 := gA_k eg2 ey4
  have hq : aX g0 ad0 ad6 ∧ gX g0 g2 := ⟨hq.1.tr hq.2 hax, hq.2.tr hX2⟩
  have hn : gn g2 = n0 + (cells + 1) ∧ gs g2 = t0 + (slots + 3) := by omega
  have k7 := hX2.k hx0 (by decide)
  have ak7 : ad6 x0 = ad x0 := hax _ (kz hx0 (by decide))
  rw [← ak7] at hl
  rw [← ak7]
  exact wX11_init_202 hnm C Sm3 k7 k7 ky4 (lv_sub hl [0] rfl) hq hn hF he Kr
theorem xX11_init_187 {g : Shp} {m : Mem} {x0 z0 z1 : Int} {r : Int} {g' : Shp} {m' : Mem} (hF : bX11_init_187 x0 z0 z1 g m = some (r, g', m')) (hg : gOk g) : gX g g' ∧ gOk g' := by
  unfold bX11_init_187 at hF
  obtain ⟨m1, em1, hF⟩ := vm_ok hF
  obtain ⟨h5, hF⟩ := ck_ok hF
  obtain ⟨g2, eg2, hF⟩ := vg_ok hF
  obtain ⟨m3, em3, hF⟩ := vm_ok hF
  obtain ⟨y4, ey4, hF⟩ := vv_ok hF
  have hG2 := gA_ok hg h5 eg2
  have hX2 := gA_X hg eg2
  exact gX2 hX2 (xX11_init_195 hF hG2)
set_option maxRecDepth 20000 in
theorem wX11_init_187 {p : Program} {l : Launch} {e : Env} {s : State} {mt : MethodId} {args : Array Value} {below : List Frame} {meth : Method} {c : Code} {Q : State → Prop} {G : Gl} {A : Nat → Prop} {H0 : Heap} {ad : Int → Nat} {g : Shp} {ad0 : Int → Nat} {g0 : Shp} {n0 t0 cells slots mc msl : Nat} (hnm : meth.name = "<init>") {H : Heap} {locs : List Loc} {ls : Array Slot} {m : Mem} {x0 z0 z1 : Int} (C : CallFix p mt c cX11_init 2 s args tb RX11) (S : Wd G A s H0 ad g m H locs) (hx0 : gk g x0 = 12) (hz0 : gk g z0 = 12) (hz1 : gk g z1 = 20) (hl : lv_has ls 2 [(0, .ref (ad x0))]) (hq : aX g0 ad0 ad ∧ gX g0 g) (hn : gn g = n0 + cells ∧ gs g = t0 + slots) {r : Int} {g' : Shp} {m' : Mem} (hF : bX11_init_187 x0 z0 z1 g m = some (r, g', m')) (he : gn g' ≤ n0 + mc ∧ gs g' ≤ t0 + msl) (Kr : ∀ (ad : Int → Nat) (H : Heap) (locs : List Loc) (pc : Nat) (ls : Array Slot) (cells slots : Nat), aX g0 ad0 ad → gn g' = n0 + cells ∧ gs g' = t0 + slots → Wd G A s H0 ad g' m' H locs → decode cX11_init pc = .ok (.return_, 1) → W p l e (rX11_init mc msl) s mt args below meth c H locs cells slots Q (F0 mt pc ls [])) : W p l e (rX11_init mc msl) s mt args below meth c H locs cells slots Q (F0 mt 187 ls [.ref (ad z1), .ref (ad z0)]) := by
  have hXx := xX11_init_187 hF S.g
  have hle : cells ≤ mc ∧ slots ≤ msl := by
    have h1 := hXx.1.1
    have h2 := hXx.1.2.1
    omega
  unfold bX11_init_187 at hF
  obtain ⟨m1, em1, hF⟩ := vm_ok hF
  refine q_put C S 33 fo_RX11_77 fp_12_33 (fun _ => ⟨hnm, rfl⟩) (j := 33) rfl hz0 (orf_ok S hz1 (by decide) rfl) rfl rfl (S.k hz1 (by decide)) (fun _ => kz hz1 (by decide)) em1 dX11_init_187 (fun H locs Sm1 => ?_)
  refine q_aload_n C hl 0 rfl rfl dX11_init_190 ?_
  refine q_bipush C 18 (by decide) dX11_init_191 ?_
  obtain ⟨h5, hF⟩ := ck_ok hF
  obtain ⟨g2, eg2, hF⟩ := vg_ok hF
  obtain ⟨m3, em3, hF⟩ := vm_ok hF
  obtain ⟨y4, ey4, hF⟩ := vv_ok hF
  have hG2 := gA_ok Sm1.g h5 eg2
  have hX2 := gA_X Sm1.g eg2
  have hN2 := gA_n eg2
  have hXr := (xX11_init_195 hF hG2).1
  refine q_newi C Sm1 rfl (Or.inr (Or.inl ⟨rfl, rfl, rfl⟩)) tw141 h5 (by have h1 := hXr.1; have h2 := hXr.2.1; exact ⟨by show _ ≤ mc; omega, by show _ ≤ msl; omega⟩) eg2 em3 dX11_init_193 (fun ad6 H hax Sm3 => ?_)
  rw [← ey4]
  have ky4 := gA_k eg2 ey4
  have hq : aX g0 ad0 ad6 ∧ gX g0 g2 := ⟨hq.1.tr hq.2 hax, hq.2.tr hX2⟩
  have hn : gn g2 = n0 + (cells + 1) ∧ gs g2 = t0 + (slots + 18) := by omega
  have k7 := hX2.k hx0 (by decide)
  have ak7 : ad6 x0 = ad x0 := hax _ (kz hx0 (by decide))
  rw [← ak7] at hl
  rw [← ak7]
  exact wX11_init_195 hnm C Sm3 k7 k7 ky4 (lv_sub hl [0] rfl) hq hn hF he Kr
theorem xX11_init_179 {g : Shp} {m : Mem} {x0 z0 z1 : Int} {r : Int} {g' : Shp} {m' : Mem} (hF : bX11_init_179 x0 z0 z1 g m = some (r, g', m')) (hg : gOk g) : gX g g' ∧ gOk g' := by
  unfold bX11_init_179 at hF
  obtain ⟨m1, em1, hF⟩ := vm_ok hF
  obtain ⟨h5, hF⟩ := ck_ok hF
  obtain ⟨g2, eg2, hF⟩ := vg_ok hF
  obtain ⟨m3, em3, hF⟩ := vm_ok hF
  obtain ⟨y4, ey4, hF⟩ := vv_ok hF
  have hG2 := gA_ok hg h5 eg2
  have hX2 := gA_X hg eg2
  exact gX2 hX2 (xX11_init_187 hF hG2)
set_option maxRecDepth 20000 in
theorem wX11_init_179 {p : Program} {l : Launch} {e : Env} {s : State} {mt : MethodId} {args : Array Value} {below : List Frame} {meth : Method} {c : Code} {Q : State → Prop} {G : Gl} {A : Nat → Prop} {H0 : Heap} {ad : Int → Nat} {g : Shp} {ad0 : Int → Nat} {g0 : Shp} {n0 t0 cells slots mc msl : Nat} (hnm : meth.name = "<init>") {H : Heap} {locs : List Loc} {ls : Array Slot} {m : Mem} {x0 z0 z1 : Int} (C : CallFix p mt c cX11_init 2 s args tb RX11) (S : Wd G A s H0 ad g m H locs) (hx0 : gk g x0 = 12) (hz0 : gk g z0 = 12) (hz1 : gk g z1 = 20) (hl : lv_has ls 2 [(0, .ref (ad x0))]) (hq : aX g0 ad0 ad ∧ gX g0 g) (hn : gn g = n0 + cells ∧ gs g = t0 + slots) {r : Int} {g' : Shp} {m' : Mem} (hF : bX11_init_179 x0 z0 z1 g m = some (r, g', m')) (he : gn g' ≤ n0 + mc ∧ gs g' ≤ t0 + msl) (Kr : ∀ (ad : Int → Nat) (H : Heap) (locs : List Loc) (pc : Nat) (ls : Array Slot) (cells slots : Nat), aX g0 ad0 ad → gn g' = n0 + cells ∧ gs g' = t0 + slots → Wd G A s H0 ad g' m' H locs → decode cX11_init pc = .ok (.return_, 1) → W p l e (rX11_init mc msl) s mt args below meth c H locs cells slots Q (F0 mt pc ls [])) : W p l e (rX11_init mc msl) s mt args below meth c H locs cells slots Q (F0 mt 179 ls [.ref (ad z1), .ref (ad z0)]) := by
  have hXx := xX11_init_179 hF S.g
  have hle : cells ≤ mc ∧ slots ≤ msl := by
    have h1 := hXx.1.1
    have h2 := hXx.1.2.1
    omega
  unfold bX11_init_179 at hF
  obtain ⟨m1, em1, hF⟩ := vm_ok hF
  refine q_put C S 32 fo_RX11_74 fp_12_32 (fun _ => ⟨hnm, rfl⟩) (j := 32) rfl hz0 (orf_ok S hz1 (by decide) rfl) rfl rfl (S.k hz1 (by decide)) (fun _ => kz hz1 (by decide)) em1 dX11_init_179 (fun H locs Sm1 => ?_)
  refine q_aload_n C hl 0 rfl rfl dX11_init_182 ?_
  refine q_bipush C 18 (by decide) dX11_init_183 ?_
  obtain ⟨h5, hF⟩ := ck_ok hF
  obtain ⟨g2, eg2, hF⟩ := vg_ok hF
  obtain ⟨m3, em3, hF⟩ := vm_ok hF
  obtain ⟨y4, ey4, hF⟩ := vv_ok hF
  have hG2 := gA_ok Sm1.g h5 eg2
  have hX2 := gA_X Sm1.g eg2
  have hN2 := gA_n eg2
  have hXr := (xX11_init_187 hF hG2).1
  refine q_newi C Sm1 rfl (Or.inl ⟨rfl, rfl, rfl⟩) tw113 h5 (by have h1 := hXr.1; have h2 := hXr.2.1; exact ⟨by show _ ≤ mc; omega, by show _ ≤ msl; omega⟩) eg2 em3 dX11_init_185 (fun ad6 H hax Sm3 => ?_)
  rw [← ey4]
  have ky4 := gA_k eg2 ey4
  have hq : aX g0 ad0 ad6 ∧ gX g0 g2 := ⟨hq.1.tr hq.2 hax, hq.2.tr hX2⟩
  have hn : gn g2 = n0 + (cells + 1) ∧ gs g2 = t0 + (slots + 18) := by omega
  have k7 := hX2.k hx0 (by decide)
  have ak7 : ad6 x0 = ad x0 := hax _ (kz hx0 (by decide))
  rw [← ak7] at hl
  rw [← ak7]
  exact wX11_init_187 hnm C Sm3 k7 k7 ky4 (lv_sub hl [0] rfl) hq hn hF he Kr
theorem xX11_init_171 {g : Shp} {m : Mem} {x0 z0 z1 : Int} {r : Int} {g' : Shp} {m' : Mem} (hF : bX11_init_171 x0 z0 z1 g m = some (r, g', m')) (hg : gOk g) : gX g g' ∧ gOk g' := by
  unfold bX11_init_171 at hF
  obtain ⟨m1, em1, hF⟩ := vm_ok hF
  obtain ⟨h5, hF⟩ := ck_ok hF
  obtain ⟨g2, eg2, hF⟩ := vg_ok hF
  obtain ⟨m3, em3, hF⟩ := vm_ok hF
  obtain ⟨y4, ey4, hF⟩ := vv_ok hF
  have hG2 := gA_ok hg h5 eg2
  have hX2 := gA_X hg eg2
  exact gX2 hX2 (xX11_init_179 hF hG2)
set_option maxRecDepth 20000 in
theorem wX11_init_171 {p : Program} {l : Launch} {e : Env} {s : State} {mt : MethodId} {args : Array Value} {below : List Frame} {meth : Method} {c : Code} {Q : State → Prop} {G : Gl} {A : Nat → Prop} {H0 : Heap} {ad : Int → Nat} {g : Shp} {ad0 : Int → Nat} {g0 : Shp} {n0 t0 cells slots mc msl : Nat} (hnm : meth.name = "<init>") {H : Heap} {locs : List Loc} {ls : Array Slot} {m : Mem} {x0 z0 z1 : Int} (C : CallFix p mt c cX11_init 2 s args tb RX11) (S : Wd G A s H0 ad g m H locs) (hx0 : gk g x0 = 12) (hz0 : gk g z0 = 12) (hz1 : gk g z1 = 21) (hl : lv_has ls 2 [(0, .ref (ad x0))]) (hq : aX g0 ad0 ad ∧ gX g0 g) (hn : gn g = n0 + cells ∧ gs g = t0 + slots) {r : Int} {g' : Shp} {m' : Mem} (hF : bX11_init_171 x0 z0 z1 g m = some (r, g', m')) (he : gn g' ≤ n0 + mc ∧ gs g' ≤ t0 + msl) (Kr : ∀ (ad : Int → Nat) (H : Heap) (locs : List Loc) (pc : Nat) (ls : Array Slot) (cells slots : Nat), aX g0 ad0 ad → gn g' = n0 + cells ∧ gs g' = t0 + slots → Wd G A s H0 ad g' m' H locs → decode cX11_init pc = .ok (.return_, 1) → W p l e (rX11_init mc msl) s mt args below meth c H locs cells slots Q (F0 mt pc ls [])) : W p l e (rX11_init mc msl) s mt args below meth c H locs cells slots Q (F0 mt 171 ls [.ref (ad z1), .ref (ad z0)]) := by
  have hXx := xX11_init_171 hF S.g
  have hle : cells ≤ mc ∧ slots ≤ msl := by
    have h1 := hXx.1.1
    have h2 := hXx.1.2.1
    omega
  unfold bX11_init_171 at hF
  obtain ⟨m1, em1, hF⟩ := vm_ok hF
  refine q_put C S 31 fo_RX11_71 fp_12_31 (fun _ => ⟨hnm, rfl⟩) (j := 31) rfl hz0 (orf_ok S hz1 (by decide) rfl) rfl rfl (S.k hz1 (by decide)) (fun _ => kz hz1 (by decide)) em1 dX11_init_171 (fun H locs Sm1 => ?_)
  refine q_aload_n C hl 0 rfl rfl dX11_init_174 ?_
  refine q_bipush C 18 (by decide) dX11_init_175 ?_
  obtain ⟨h5, hF⟩ := ck_ok hF
  obtain ⟨g2, eg2, hF⟩ := vg_ok hF
  obtain ⟨m3, em3, hF⟩ := vm_ok hF
  obtain ⟨y4, ey4, hF⟩ := vv_ok hF
  have hG2 := gA_ok Sm1.g h5 eg2
  have hX2 := gA_X Sm1.g eg2
  have hN2 := gA_n eg2
  have hXr := (xX11_init_179 hF hG2).1
  refine q_newi C Sm1 rfl (Or.inl ⟨rfl, rfl, rfl⟩) tw113 h5 (by have h1 := hXr.1; have h2 := hXr.2.1; exact ⟨by show _ ≤ mc; omega, by show _ ≤ msl; omega⟩) eg2 em3 dX11_init_177 (fun ad6 H hax Sm3 => ?_)
  rw [← ey4]
  have ky4 := gA_k eg2 ey4
  have hq : aX g0 ad0 ad6 ∧ gX g0 g2 := ⟨hq.1.tr hq.2 hax, hq.2.tr hX2⟩
  have hn : gn g2 = n0 + (cells + 1) ∧ gs g2 = t0 + (slots + 18) := by omega
  have k7 := hX2.k hx0 (by decide)
  have ak7 : ad6 x0 = ad x0 := hax _ (kz hx0 (by decide))
  rw [← ak7] at hl
  rw [← ak7]
  exact wX11_init_179 hnm C Sm3 k7 k7 ky4 (lv_sub hl [0] rfl) hq hn hF he Kr
theorem xX11_init_163 {g : Shp} {m : Mem} {x0 z0 z1 : Int} {r : Int} {g' : Shp} {m' : Mem} (hF : bX11_init_163 x0 z0 z1 g m = some (r, g', m')) (hg : gOk g) : gX g g' ∧ gOk g' := by
  unfold bX11_init_163 at hF
  obtain ⟨m1, em1, hF⟩ := vm_ok hF
  obtain ⟨h5, hF⟩ := ck_ok hF
  obtain ⟨g2, eg2, hF⟩ := vg_ok hF
  obtain ⟨m3, em3, hF⟩ := vm_ok hF
  obtain ⟨y4, ey4, hF⟩ := vv_ok hF
  have hG2 := gA_ok hg h5 eg2
  have hX2 := gA_X hg eg2
  exact gX2 hX2 (xX11_init_171 hF hG2)
set_option maxRecDepth 20000 in
theorem wX11_init_163 {p : Program} {l : Launch} {e : Env} {s : State} {mt : MethodId} {args : Array Value} {below : List Frame} {meth : Method} {c : Code} {Q : State → Prop} {G : Gl} {A : Nat → Prop} {H0 : Heap} {ad : Int → Nat} {g : Shp} {ad0 : Int → Nat} {g0 : Shp} {n0 t0 cells slots mc msl : Nat} (hnm : meth.name = "<init>") {H : Heap} {locs : List Loc} {ls : Array Slot} {m : Mem} {x0 z0 z1 : Int} (C : CallFix p mt c cX11_init 2 s args tb RX11) (S : Wd G A s H0 ad g m H locs) (hx0 : gk g x0 = 12) (hz0 : gk g z0 = 12) (hz1 : gk g z1 = 20) (hl : lv_has ls 2 [(0, .ref (ad x0))]) (hq : aX g0 ad0 ad ∧ gX g0 g) (hn : gn g = n0 + cells ∧ gs g = t0 + slots) {r : Int} {g' : Shp} {m' : Mem} (hF : bX11_init_163 x0 z0 z1 g m = some (r, g', m')) (he : gn g' ≤ n0 + mc ∧ gs g' ≤ t0 + msl) (Kr : ∀ (ad : Int → Nat) (H : Heap) (locs : List Loc) (pc : Nat) (ls : Array Slot) (cells slots : Nat), aX g0 ad0 ad → gn g' = n0 + cells ∧ gs g' = t0 + slots → Wd G A s H0 ad g' m' H locs → decode cX11_init pc = .ok (.return_, 1) → W p l e (rX11_init mc msl) s mt args below meth c H locs cells slots Q (F0 mt pc ls [])) : W p l e (rX11_init mc msl) s mt args below meth c H locs cells slots Q (F0 mt 163 ls [.ref (ad z1), .ref (ad z0)]) := by
  have hXx := xX11_init_163 hF S.g
  have hle : cells ≤ mc ∧ slots ≤ msl := by
    have h1 := hXx.1.1
    have h2 := hXx.1.2.1
    omega
  unfold bX11_init_163 at hF
  obtain ⟨m1, em1, hF⟩ := vm_ok hF
  refine q_put C S 30 fo_RX11_68 fp_12_30 (fun _ => ⟨hnm, rfl⟩) (j := 30) rfl hz0 (orf_ok S hz1 (by decide) rfl) rfl rfl (S.k hz1 (by decide)) (fun _ => kz hz1 (by decide)) em1 dX11_init_163 (fun H locs Sm1 => ?_)
  refine q_aload_n C hl 0 rfl rfl dX11_init_166 ?_
  refine q_bipush C 61 (by decide) dX11_init_167 ?_
  obtain ⟨h5, hF⟩ := ck_ok hF
  obtain ⟨g2, eg2, hF⟩ := vg_ok hF
  obtain ⟨m3, em3, hF⟩ := vm_ok hF
  obtain ⟨y4, ey4, hF⟩ := vv_ok hF
  have hG2 := gA_ok Sm1.g h5 eg2
  have hX2 := gA_X Sm1.g eg2
  have hN2 := gA_n eg2
  have hXr := (xX11_init_171 hF hG2).1
  refine q_newi C Sm1 rfl (Or.inr (Or.inl ⟨rfl, rfl, rfl⟩)) tw141 h5 (by have h1 := hXr.1; have h2 := hXr.2.1; exact ⟨by show _ ≤ mc; omega, by show _ ≤ msl; omega⟩) eg2 em3 dX11_init_169 (fun ad6 H hax Sm3 => ?_)
  rw [← ey4]
  have ky4 := gA_k eg2 ey4
  have hq : aX g0 ad0 ad6 ∧ gX g0 g2 := ⟨hq.1.tr hq.2 hax, hq.2.tr hX2⟩
  have hn : gn g2 = n0 + (cells + 1) ∧ gs g2 = t0 + (slots + 61) := by omega
  have k7 := hX2.k hx0 (by decide)
  have ak7 : ad6 x0 = ad x0 := hax _ (kz hx0 (by decide))
  rw [← ak7] at hl
  rw [← ak7]
  exact wX11_init_171 hnm C Sm3 k7 k7 ky4 (lv_sub hl [0] rfl) hq hn hF he Kr
theorem xX11_init_155 {g : Shp} {m : Mem} {x0 z0 z1 : Int} {r : Int} {g' : Shp} {m' : Mem} (hF : bX11_init_155 x0 z0 z1 g m = some (r, g', m')) (hg : gOk g) : gX g g' ∧ gOk g' := by
  unfold bX11_init_155 at hF
  obtain ⟨m1, em1, hF⟩ := vm_ok hF
  obtain ⟨h5, hF⟩ := ck_ok hF
  obtain ⟨g2, eg2, hF⟩ := vg_ok hF
  obtain ⟨m3, em3, hF⟩ := vm_ok hF
  obtain ⟨y4, ey4, hF⟩ := vv_ok hF
  have hG2 := gA_ok hg h5 eg2
  have hX2 := gA_X hg eg2
  exact gX2 hX2 (xX11_init_163 hF hG2)
set_option maxRecDepth 20000 in
theorem wX11_init_155 {p : Program} {l : Launch} {e : Env} {s : State} {mt : MethodId} {args : Array Value} {below : List Frame} {meth : Method} {c : Code} {Q : State → Prop} {G : Gl} {A : Nat → Prop} {H0 : Heap} {ad : Int → Nat} {g : Shp} {ad0 : Int → Nat} {g0 : Shp} {n0 t0 cells slots mc msl : Nat} (hnm : meth.name = "<init>") {H : Heap} {locs : List Loc} {ls : Array Slot} {m : Mem} {x0 z0 z1 : Int} (C : CallFix p mt c cX11_init 2 s args tb RX11) (S : Wd G A s H0 ad g m H locs) (hx0 : gk g x0 = 12) (hz0 : gk g z0 = 12) (hz1 : gk g z1 = 20) (hl : lv_has ls 2 [(0, .ref (ad x0))]) (hq : aX g0 ad0 ad ∧ gX g0 g) (hn : gn g = n0 + cells ∧ gs g = t0 + slots) {r : Int} {g' : Shp} {m' : Mem} (hF : bX11_init_155 x0 z0 z1 g m = some (r, g', m')) (he : gn g' ≤ n0 + mc ∧ gs g' ≤ t0 + msl) (Kr : ∀ (ad : Int → Nat) (H : Heap) (locs : List Loc) (pc : Nat) (ls : Array Slot) (cells slots : Nat), aX g0 ad0 ad → gn g' = n0 + cells ∧ gs g' = t0 + slots → Wd G A s H0 ad g' m' H locs → decode cX11_init pc = .ok (.return_, 1) → W p l e (rX11_init mc msl) s mt args below meth c H locs cells slots Q (F0 mt pc ls [])) : W p l e (rX11_init mc msl) s mt args below meth c H locs cells slots Q (F0 mt 155 ls [.ref (ad z1), .ref (ad z0)]) := by
  have hXx := xX11_init_155 hF S.g
  have hle : cells ≤ mc ∧ slots ≤ msl := by
    have h1 := hXx.1.1
    have h2 := hXx.1.2.1
    omega
  unfold bX11_init_155 at hF
  obtain ⟨m1, em1, hF⟩ := vm_ok hF
  refine q_put C S 29 fo_RX11_65 fp_12_29 (fun _ => ⟨hnm, rfl⟩) (j := 29) rfl hz0 (orf_ok S hz1 (by decide) rfl) rfl rfl (S.k hz1 (by decide)) (fun _ => kz hz1 (by decide)) em1 dX11_init_155 (fun H locs Sm1 => ?_)
  refine q_aload_n C hl 0 rfl rfl dX11_init_158 ?_
  refine q_bipush C 61 (by decide) dX11_init_159 ?_
  obtain ⟨h5, hF⟩ := ck_ok hF
  obtain ⟨g2, eg2, hF⟩ := vg_ok hF
  obtain ⟨m3, em3, hF⟩ := vm_ok hF
  obtain ⟨y4, ey4, hF⟩ := vv_ok hF
  have hG2 := gA_ok Sm1.g h5 eg2
  have hX2 := gA_X Sm1.g eg2
  have hN2 := gA_n eg2
  have hXr := (xX11_init_163 hF hG2).1
  refine q_newi C Sm1 rfl (Or.inl ⟨rfl, rfl, rfl⟩) tw113 h5 (by have h1 := hXr.1; have h2 := hXr.2.1; exact ⟨by show _ ≤ mc; omega, by show _ ≤ msl; omega⟩) eg2 em3 dX11_init_161 (fun ad6 H hax Sm3 => ?_)
  rw [← ey4]
  have ky4 := gA_k eg2 ey4
  have hq : aX g0 ad0 ad6 ∧ gX g0 g2 := ⟨hq.1.tr hq.2 hax, hq.2.tr hX2⟩
  have hn : gn g2 = n0 + (cells + 1) ∧ gs g2 = t0 + (slots + 61) := by omega
  have k7 := hX2.k hx0 (by decide)
  have ak7 : ad6 x0 = ad x0 := hax _ (kz hx0 (by decide))
  rw [← ak7] at hl
  rw [← ak7]
  exact wX11_init_163 hnm C Sm3 k7 k7 ky4 (lv_sub hl [0] rfl) hq hn hF he Kr
theorem xX11_init_146 {g : Shp} {m : Mem} {x0 z0 z1 : Int} {r : Int} {g' : Shp} {m' : Mem} (hF : bX11_init_146 x0 z0 z1 g m = some (r, g', m')) (hg : gOk g) : gX g g' ∧ gOk g' := by
  unfold bX11_init_146 at hF
  obtain ⟨m1, em1, hF⟩ := vm_ok hF
  obtain ⟨h5, hF⟩ := ck_ok hF
  obtain ⟨g2, eg2, hF⟩ := vg_ok hF
  obtain ⟨m3, em3, hF⟩ := vm_ok hF
  obtain ⟨y4, ey4, hF⟩ := vv_ok hF
  have hG2 := gA_ok hg h5 eg2
  have hX2 := gA_X hg eg2
  exact gX2 hX2 (xX11_init_155 hF hG2)
set_option maxRecDepth 20000 in
theorem wX11_init_146 {p : Program} {l : Launch} {e : Env} {s : State} {mt : MethodId} {args : Array Value} {below : List Frame} {meth : Method} {c : Code} {Q : State → Prop} {G : Gl} {A : Nat → Prop} {H0 : Heap} {ad : Int → Nat} {g : Shp} {ad0 : Int → Nat} {g0 : Shp} {n0 t0 cells slots mc msl : Nat} (hnm : meth.name = "<init>") {H : Heap} {locs : List Loc} {ls : Array Slot} {m : Mem} {x0 z0 z1 : Int} (C : CallFix p mt c cX11_init 2 s args tb RX11) (S : Wd G A s H0 ad g m H locs) (hx0 : gk g x0 = 12) (hz0 : gk g z0 = 12) (hz1 : gk g z1 = 20) (hl : lv_has ls 2 [(0, .ref (ad x0))]) (hq : aX g0 ad0 ad ∧ gX g0 g) (hn : gn g = n0 + cells ∧ gs g = t0 + slots) {r : Int} {g' : Shp} {m' : Mem} (hF : bX11_init_146 x0 z0 z1 g m = some (r, g', m')) (he : gn g' ≤ n0 + mc ∧ gs g' ≤ t0 + msl) (Kr : ∀ (ad : Int → Nat) (H : Heap) (locs : List Loc) (pc : Nat) (ls : Array Slot) (cells slots : Nat), aX g0 ad0 ad → gn g' = n0 + cells ∧ gs g' = t0 + slots → Wd G A s H0 ad g' m' H locs → decode cX11_init pc = .ok (.return_, 1) → W p l e (rX11_init mc msl) s mt args below meth c H locs cells slots Q (F0 mt pc ls [])) : W p l e (rX11_init mc msl) s mt args below meth c H locs cells slots Q (F0 mt 146 ls [.ref (ad z1), .ref (ad z0)]) := by
  have hXx := xX11_init_146 hF S.g
  have hle : cells ≤ mc ∧ slots ≤ msl := by
    have h1 := hXx.1.1
    have h2 := hXx.1.2.1
    omega
  unfold bX11_init_146 at hF
  obtain ⟨m1, em1, hF⟩ := vm_ok hF
  refine q_put C S 28 fo_RX11_62 fp_12_28 (fun _ => ⟨hnm, rfl⟩) (j := 28) rfl hz0 (orf_ok S hz1 (by decide) rfl) rfl rfl (S.k hz1 (by decide)) (fun _ => kz hz1 (by decide)) em1 dX11_init_146 (fun H locs Sm1 => ?_)
  refine q_aload_n C hl 0 rfl rfl dX11_init_149 ?_
  refine q_sipush C 10290 (by decide) dX11_init_150 ?_
  obtain ⟨h5, hF⟩ := ck_ok hF
  obtain ⟨g2, eg2, hF⟩ := vg_ok hF
  obtain ⟨m3, em3, hF⟩ := vm_ok hF
  obtain ⟨y4, ey4, hF⟩ := vv_ok hF
  have hG2 := gA_ok Sm1.g h5 eg2
  have hX2 := gA_X Sm1.g eg2
  have hN2 := gA_n eg2
  have hXr := (xX11_init_155 hF hG2).1
  refine q_newi C Sm1 rfl (Or.inl ⟨rfl, rfl, rfl⟩) tw113 h5 (by have h1 := hXr.1; have h2 := hXr.2.1; exact ⟨by show _ ≤ mc; omega, by show _ ≤ msl; omega⟩) eg2 em3 dX11_init_153 (fun ad6 H hax Sm3 => ?_)
  rw [← ey4]
  have ky4 := gA_k eg2 ey4
  have hq : aX g0 ad0 ad6 ∧ gX g0 g2 := ⟨hq.1.tr hq.2 hax, hq.2.tr hX2⟩
  have hn : gn g2 = n0 + (cells + 1) ∧ gs g2 = t0 + (slots + 10290) := by omega
  have k7 := hX2.k hx0 (by decide)
  have ak7 : ad6 x0 = ad x0 := hax _ (kz hx0 (by decide))
  rw [← ak7] at hl
  rw [← ak7]
  exact wX11_init_155 hnm C Sm3 k7 k7 ky4 (lv_sub hl [0] rfl) hq hn hF he Kr
theorem xX11_init_137 {g : Shp} {m : Mem} {x0 z0 z1 : Int} {r : Int} {g' : Shp} {m' : Mem} (hF : bX11_init_137 x0 z0 z1 g m = some (r, g', m')) (hg : gOk g) : gX g g' ∧ gOk g' := by
  unfold bX11_init_137 at hF
  obtain ⟨m1, em1, hF⟩ := vm_ok hF
  obtain ⟨h5, hF⟩ := ck_ok hF
  obtain ⟨g2, eg2, hF⟩ := vg_ok hF
  obtain ⟨m3, em3, hF⟩ := vm_ok hF
  obtain ⟨y4, ey4, hF⟩ := vv_ok hF
  have hG2 := gA_ok hg h5 eg2
  have hX2 := gA_X hg eg2
  exact gX2 hX2 (xX11_init_146 hF hG2)
set_option maxRecDepth 20000 in
theorem wX11_init_137 {p : Program} {l : Launch} {e : Env} {s : State} {mt : MethodId} {args : Array Value} {below : List Frame} {meth : Method} {c : Code} {Q : State → Prop} {G : Gl} {A : Nat → Prop} {H0 : Heap} {ad : Int → Nat} {g : Shp} {ad0 : Int → Nat} {g0 : Shp} {n0 t0 cells slots mc msl : Nat} (hnm : meth.name = "<init>") {H : Heap} {locs : List Loc} {ls : Array Slot} {m : Mem} {x0 z0 z1 : Int} (C : CallFix p mt c cX11_init 2 s args tb RX11) (S : Wd G A s H0 ad g m H locs) (hx0 : gk g x0 = 12) (hz0 : gk g z0 = 12) (hz1 : gk g z1 = 21) (hl : lv_has ls 2 [(0, .ref (ad x0))]) (hq : aX g0 ad0 ad ∧ gX g0 g) (hn : gn g = n0 + cells ∧ gs g = t0 + slots) {r : Int} {g' : Shp} {m' : Mem} (hF : bX11_init_137 x0 z0 z1 g m = some (r, g', m')) (he : gn g' ≤ n0 + mc ∧ gs g' ≤ t0 + msl) (Kr : ∀ (ad : Int → Nat) (H : Heap) (locs : List Loc) (pc : Nat) (ls : Array Slot) (cells slots : Nat), aX g0 ad0 ad → gn g' = n0 + cells ∧ gs g' = t0 + slots → Wd G A s H0 ad g' m' H locs → decode cX11_init pc = .ok (.return_, 1) → W p l e (rX11_init mc msl) s mt args below meth c H locs cells slots Q (F0 mt pc ls [])) : W p l e (rX11_init mc msl) s mt args below meth c H locs cells slots Q (F0 mt 137 ls [.ref (ad z1), .ref (ad z0)]) := by
  have hXx := xX11_init_137 hF S.g
  have hle : cells ≤ mc ∧ slots ≤ msl := by
    have h1 := hXx.1.1
    have h2 := hXx.1.2.1
    omega
  unfold bX11_init_137 at hF
  obtain ⟨m1, em1, hF⟩ := vm_ok hF
  refine q_put C S 26 fo_RX11_58 fp_12_26 (fun _ => ⟨hnm, rfl⟩) (j := 26) rfl hz0 (orf_ok S hz1 (by decide) rfl) rfl rfl (S.k hz1 (by decide)) (fun _ => kz hz1 (by decide)) em1 dX11_init_137 (fun H locs Sm1 => ?_)
  refine q_aload_n C hl 0 rfl rfl dX11_init_140 ?_
  refine q_sipush C 10633 (by decide) dX11_init_141 ?_
  obtain ⟨h5, hF⟩ := ck_ok hF
  obtain ⟨g2, eg2, hF⟩ := vg_ok hF
  obtain ⟨m3, em3, hF⟩ := vm_ok hF
  obtain ⟨y4, ey4, hF⟩ := vv_ok hF
  have hG2 := gA_ok Sm1.g h5 eg2
  have hX2 := gA_X Sm1.g eg2
  have hN2 := gA_n eg2
  have hXr := (xX11_init_146 hF hG2).1
  refine q_newi C Sm1 rfl (Or.inl ⟨rfl, rfl, rfl⟩) tw113 h5 (by have h1 := hXr.1; have h2 := hXr.2.1; exact ⟨by show _ ≤ mc; omega, by show _ ≤ msl; omega⟩) eg2 em3 dX11_init_144 (fun ad6 H hax Sm3 => ?_)
  rw [← ey4]
  have ky4 := gA_k eg2 ey4
  have hq : aX g0 ad0 ad6 ∧ gX g0 g2 := ⟨hq.1.tr hq.2 hax, hq.2.tr hX2⟩
  have hn : gn g2 = n0 + (cells + 1) ∧ gs g2 = t0 + (slots + 10633) := by omega
  have k7 := hX2.k hx0 (by decide)
  have ak7 : ad6 x0 = ad x0 := hax _ (kz hx0 (by decide))
  rw [← ak7] at hl
  rw [← ak7]
  exact wX11_init_146 hnm C Sm3 k7 k7 ky4 (lv_sub hl [0] rfl) hq hn hF he Kr
theorem xX11_init_129 {g : Shp} {m : Mem} {x0 z0 z1 : Int} {r : Int} {g' : Shp} {m' : Mem} (hF : bX11_init_129 x0 z0 z1 g m = some (r, g', m')) (hg : gOk g) : gX g g' ∧ gOk g' := by
  unfold bX11_init_129 at hF
  obtain ⟨m1, em1, hF⟩ := vm_ok hF
  obtain ⟨h5, hF⟩ := ck_ok hF
  obtain ⟨g2, eg2, hF⟩ := vg_ok hF
  obtain ⟨m3, em3, hF⟩ := vm_ok hF
  obtain ⟨y4, ey4, hF⟩ := vv_ok hF
  have hG2 := gA_ok hg h5 eg2
  have hX2 := gA_X hg eg2
  exact gX2 hX2 (xX11_init_137 hF hG2)
set_option maxRecDepth 20000 in
theorem wX11_init_129 {p : Program} {l : Launch} {e : Env} {s : State} {mt : MethodId} {args : Array Value} {below : List Frame} {meth : Method} {c : Code} {Q : State → Prop} {G : Gl} {A : Nat → Prop} {H0 : Heap} {ad : Int → Nat} {g : Shp} {ad0 : Int → Nat} {g0 : Shp} {n0 t0 cells slots mc msl : Nat} (hnm : meth.name = "<init>") {H : Heap} {locs : List Loc} {ls : Array Slot} {m : Mem} {x0 z0 z1 : Int} (C : CallFix p mt c cX11_init 2 s args tb RX11) (S : Wd G A s H0 ad g m H locs) (hx0 : gk g x0 = 12) (hz0 : gk g z0 = 12) (hz1 : gk g z1 = 20) (hl : lv_has ls 2 [(0, .ref (ad x0))]) (hq : aX g0 ad0 ad ∧ gX g0 g) (hn : gn g = n0 + cells ∧ gs g = t0 + slots) {r : Int} {g' : Shp} {m' : Mem} (hF : bX11_init_129 x0 z0 z1 g m = some (r, g', m')) (he : gn g' ≤ n0 + mc ∧ gs g' ≤ t0 + msl) (Kr : ∀ (ad : Int → Nat) (H : Heap) (locs : List Loc) (pc : Nat) (ls : Array Slot) (cells slots : Nat), aX g0 ad0 ad → gn g' = n0 + cells ∧ gs g' = t0 + slots → Wd G A s H0 ad g' m' H locs → decode cX11_init pc = .ok (.return_, 1) → W p l e (rX11_init mc msl) s mt args below meth c H locs cells slots Q (F0 mt pc ls [])) : W p l e (rX11_init mc msl) s mt args below meth c H locs cells slots Q (F0 mt 129 ls [.ref (ad z1), .ref (ad z0)]) := by
  have hXx := xX11_init_129 hF S.g
  have hle : cells ≤ mc ∧ slots ≤ msl := by
    have h1 := hXx.1.1
    have h2 := hXx.1.2.1
    omega
  unfold bX11_init_129 at hF
  obtain ⟨m1, em1, hF⟩ := vm_ok hF
  refine q_put C S 25 fo_RX11_55 fp_12_25 (fun _ => ⟨hnm, rfl⟩) (j := 25) rfl hz0 (orf_ok S hz1 (by decide) rfl) rfl rfl (S.k hz1 (by decide)) (fun _ => kz hz1 (by decide)) em1 dX11_init_129 (fun H locs Sm1 => ?_)
  refine q_aload_n C hl 0 rfl rfl dX11_init_132 ?_
  refine q_bipush C 60 (by decide) dX11_init_133 ?_
  obtain ⟨h5, hF⟩ := ck_ok hF
  obtain ⟨g2, eg2, hF⟩ := vg_ok hF
  obtain ⟨m3, em3, hF⟩ := vm_ok hF
  obtain ⟨y4, ey4, hF⟩ := vv_ok hF
  have hG2 := gA_ok Sm1.g h5 eg2
  have hX2 := gA_X Sm1.g eg2
  have hN2 := gA_n eg2
  have hXr := (xX11_init_137 hF hG2).1
  refine q_newi C Sm1 rfl (Or.inr (Or.inl ⟨rfl, rfl, rfl⟩)) tw141 h5 (by have h1 := hXr.1; have h2 := hXr.2.1; exact ⟨by show _ ≤ mc; omega, by show _ ≤ msl; omega⟩) eg2 em3 dX11_init_135 (fun ad6 H hax Sm3 => ?_)
  rw [← ey4]
  have ky4 := gA_k eg2 ey4
  have hq : aX g0 ad0 ad6 ∧ gX g0 g2 := ⟨hq.1.tr hq.2 hax, hq.2.tr hX2⟩
  have hn : gn g2 = n0 + (cells + 1) ∧ gs g2 = t0 + (slots + 60) := by omega
  have k7 := hX2.k hx0 (by decide)
  have ak7 : ad6 x0 = ad x0 := hax _ (kz hx0 (by decide))
  rw [← ak7] at hl
  rw [← ak7]
  exact wX11_init_137 hnm C Sm3 k7 k7 ky4 (lv_sub hl [0] rfl) hq hn hF he Kr
theorem xX11_init_121 {g : Shp} {m : Mem} {x0 z0 z1 : Int} {r : Int} {g' : Shp} {m' : Mem} (hF : bX11_init_121 x0 z0 z1 g m = some (r, g', m')) (hg : gOk g) : gX g g' ∧ gOk g' := by
  unfold bX11_init_121 at hF
  obtain ⟨m1, em1, hF⟩ := vm_ok hF
  obtain ⟨h5, hF⟩ := ck_ok hF
  obtain ⟨g2, eg2, hF⟩ := vg_ok hF
  obtain ⟨m3, em3, hF⟩ := vm_ok hF
  obtain ⟨y4, ey4, hF⟩ := vv_ok hF
  have hG2 := gA_ok hg h5 eg2
  have hX2 := gA_X hg eg2
  exact gX2 hX2 (xX11_init_129 hF hG2)
set_option maxRecDepth 20000 in
theorem wX11_init_121 {p : Program} {l : Launch} {e : Env} {s : State} {mt : MethodId} {args : Array Value} {below : List Frame} {meth : Method} {c : Code} {Q : State → Prop} {G : Gl} {A : Nat → Prop} {H0 : Heap} {ad : Int → Nat} {g : Shp} {ad0 : Int → Nat} {g0 : Shp} {n0 t0 cells slots mc msl : Nat} (hnm : meth.name = "<init>") {H : Heap} {locs : List Loc} {ls : Array Slot} {m : Mem} {x0 z0 z1 : Int} (C : CallFix p mt c cX11_init 2 s args tb RX11) (S : Wd G A s H0 ad g m H locs) (hx0 : gk g x0 = 12) (hz0 : gk g z0 = 12) (hz1 : gk g z1 = 20) (hl : lv_has ls 2 [(0, .ref (ad x0))]) (hq : aX g0 ad0 ad ∧ gX g0 g) (hn : gn g = n0 + cells ∧ gs g = t0 + slots) {r : Int} {g' : Shp} {m' : Mem} (hF : bX11_init_121 x0 z0 z1 g m = some (r, g', m')) (he : gn g' ≤ n0 + mc ∧ gs g' ≤ t0 + msl) (Kr : ∀ (ad : Int → Nat) (H : Heap) (locs : List Loc) (pc : Nat) (ls : Array Slot) (cells slots : Nat), aX g0 ad0 ad → gn g' = n0 + cells ∧ gs g' = t0 + slots → Wd G A s H0 ad g' m' H locs → decode cX11_init pc = .ok (.return_, 1) → W p l e (rX11_init mc msl) s mt args below meth c H locs cells slots Q (F0 mt pc ls [])) : W p l e (rX11_init mc msl) s mt args below meth c H locs cells slots Q (F0 mt 121 ls [.ref (ad z1), .ref (ad z0)]) := by
  have hXx := xX11_init_121 hF S.g
  have hle : cells ≤ mc ∧ slots ≤ msl := by
    have h1 := hXx.1.1
    have h2 := hXx.1.2.1
    omega
  unfold bX11_init_121 at hF
  obtain ⟨m1, em1, hF⟩ := vm_ok hF
  refine q_put C S 24 fo_RX11_52 fp_12_24 (fun _ => ⟨hnm, rfl⟩) (j := 24) rfl hz0 (orf_ok S hz1 (by decide) rfl) rfl rfl (S.k hz1 (by decide)) (fun _ => kz hz1 (by decide)) em1 dX11_init_121 (fun H locs Sm1 => ?_)
  refine q_aload_n C hl 0 rfl rfl dX11_init_124 ?_
  refine q_bipush C 60 (by decide) dX11_init_125 ?_
  obtain ⟨h5, hF⟩ := ck_ok hF
  obtain ⟨g2, eg2, hF⟩ := vg_ok hF
  obtain ⟨m3, em3, hF⟩ := vm_ok hF
  obtain ⟨y4, ey4, hF⟩ := vv_ok hF
  have hG2 := gA_ok Sm1.g h5 eg2
  have hX2 := gA_X Sm1.g eg2
  have hN2 := gA_n eg2
  have hXr := (xX11_init_129 hF hG2).1
  refine q_newi C Sm1 rfl (Or.inl ⟨rfl, rfl, rfl⟩) tw113 h5 (by have h1 := hXr.1; have h2 := hXr.2.1; exact ⟨by show _ ≤ mc; omega, by show _ ≤ msl; omega⟩) eg2 em3 dX11_init_127 (fun ad6 H hax Sm3 => ?_)
  rw [← ey4]
  have ky4 := gA_k eg2 ey4
  have hq : aX g0 ad0 ad6 ∧ gX g0 g2 := ⟨hq.1.tr hq.2 hax, hq.2.tr hX2⟩
  have hn : gn g2 = n0 + (cells + 1) ∧ gs g2 = t0 + (slots + 60) := by omega
  have k7 := hX2.k hx0 (by decide)
  have ak7 : ad6 x0 = ad x0 := hax _ (kz hx0 (by decide))
  rw [← ak7] at hl
  rw [← ak7]
  exact wX11_init_129 hnm C Sm3 k7 k7 ky4 (lv_sub hl [0] rfl) hq hn hF he Kr
theorem xX11_init_112 {g : Shp} {m : Mem} {x0 z0 z1 : Int} {r : Int} {g' : Shp} {m' : Mem} (hF : bX11_init_112 x0 z0 z1 g m = some (r, g', m')) (hg : gOk g) : gX g g' ∧ gOk g' := by
  unfold bX11_init_112 at hF
  obtain ⟨m1, em1, hF⟩ := vm_ok hF
  obtain ⟨h5, hF⟩ := ck_ok hF
  obtain ⟨g2, eg2, hF⟩ := vg_ok hF
  obtain ⟨m3, em3, hF⟩ := vm_ok hF
  obtain ⟨y4, ey4, hF⟩ := vv_ok hF
  have hG2 := gA_ok hg h5 eg2
  have hX2 := gA_X hg eg2
  exact gX2 hX2 (xX11_init_121 hF hG2)
set_option maxRecDepth 20000 in
theorem wX11_init_112 {p : Program} {l : Launch} {e : Env} {s : State} {mt : MethodId} {args : Array Value} {below : List Frame} {meth : Method} {c : Code} {Q : State → Prop} {G : Gl} {A : Nat → Prop} {H0 : Heap} {ad : Int → Nat} {g : Shp} {ad0 : Int → Nat} {g0 : Shp} {n0 t0 cells slots mc msl : Nat} (hnm : meth.name = "<init>") {H : Heap} {locs : List Loc} {ls : Array Slot} {m : Mem} {x0 z0 z1 : Int} (C : CallFix p mt c cX11_init 2 s args tb RX11) (S : Wd G A s H0 ad g m H locs) (hx0 : gk g x0 = 12) (hz0 : gk g z0 = 12) (hz1 : gk g z1 = 20) (hl : lv_has ls 2 [(0, .ref (ad x0))]) (hq : aX g0 ad0 ad ∧ gX g0 g) (hn : gn g = n0 + cells ∧ gs g = t0 + slots) {r : Int} {g' : Shp} {m' : Mem} (hF : bX11_init_112 x0 z0 z1 g m = some (r, g', m')) (he : gn g' ≤ n0 + mc ∧ gs g' ≤ t0 + msl) (Kr : ∀ (ad : Int → Nat) (H : Heap) (locs : List Loc) (pc : Nat) (ls : Array Slot) (cells slots : Nat), aX g0 ad0 ad → gn g' = n0 + cells ∧ gs g' = t0 + slots → Wd G A s H0 ad g' m' H locs → decode cX11_init pc = .ok (.return_, 1) → W p l e (rX11_init mc msl) s mt args below meth c H locs cells slots Q (F0 mt pc ls [])) : W p l e (rX11_init mc msl) s mt args below meth c H locs cells slots Q (F0 mt 112 ls [.ref (ad z1), .ref (ad z0)]) := by
  have hXx := xX11_init_112 hF S.g
  have hle : cells ≤ mc ∧ slots ≤ msl := by
    have h1 := hXx.1.1
    have h2 := hXx.1.2.1
    omega
  unfold bX11_init_112 at hF
  obtain ⟨m1, em1, hF⟩ := vm_ok hF
  refine q_put C S 23 fo_RX11_49 fp_12_23 (fun _ => ⟨hnm, rfl⟩) (j := 23) rfl hz0 (orf_ok S hz1 (by decide) rfl) rfl rfl (S.k hz1 (by decide)) (fun _ => kz hz1 (by decide)) em1 dX11_init_112 (fun H locs Sm1 => ?_)
  refine q_aload_n C hl 0 rfl rfl dX11_init_115 ?_
  refine q_sipush C 180 (by decide) dX11_init_116 ?_
  obtain ⟨h5, hF⟩ := ck_ok hF
  obtain ⟨g2, eg2, hF⟩ := vg_ok hF
  obtain ⟨m3, em3, hF⟩ := vm_ok hF
  obtain ⟨y4, ey4, hF⟩ := vv_ok hF
  have hG2 := gA_ok Sm1.g h5 eg2
  have hX2 := gA_X Sm1.g eg2
  have hN2 := gA_n eg2
  have hXr := (xX11_init_121 hF hG2).1
  refine q_newi C Sm1 rfl (Or.inl ⟨rfl, rfl, rfl⟩) tw113 h5 (by have h1 := hXr.1; have h2 := hXr.2.1; exact ⟨by show _ ≤ mc; omega, by show _ ≤ msl; omega⟩) eg2 em3 dX11_init_119 (fun ad6 H hax Sm3 => ?_)
  rw [← ey4]
  have ky4 := gA_k eg2 ey4
  have hq : aX g0 ad0 ad6 ∧ gX g0 g2 := ⟨hq.1.tr hq.2 hax, hq.2.tr hX2⟩
  have hn : gn g2 = n0 + (cells + 1) ∧ gs g2 = t0 + (slots + 180) := by omega
  have k7 := hX2.k hx0 (by decide)
  have ak7 : ad6 x0 = ad x0 := hax _ (kz hx0 (by decide))
  rw [← ak7] at hl
  rw [← ak7]
  exact wX11_init_121 hnm C Sm3 k7 k7 ky4 (lv_sub hl [0] rfl) hq hn hF he Kr
theorem xX11_init_105 {g : Shp} {m : Mem} {x0 z0 z1 : Int} {r : Int} {g' : Shp} {m' : Mem} (hF : bX11_init_105 x0 z0 z1 g m = some (r, g', m')) (hg : gOk g) : gX g g' ∧ gOk g' := by
  unfold bX11_init_105 at hF
  obtain ⟨m1, em1, hF⟩ := vm_ok hF
  obtain ⟨h5, hF⟩ := ck_ok hF
  obtain ⟨g2, eg2, hF⟩ := vg_ok hF
  obtain ⟨m3, em3, hF⟩ := vm_ok hF
  obtain ⟨y4, ey4, hF⟩ := vv_ok hF
  have hG2 := gA_ok hg h5 eg2
  have hX2 := gA_X hg eg2
  exact gX2 hX2 (xX11_init_112 hF hG2)
set_option maxRecDepth 20000 in
theorem wX11_init_105 {p : Program} {l : Launch} {e : Env} {s : State} {mt : MethodId} {args : Array Value} {below : List Frame} {meth : Method} {c : Code} {Q : State → Prop} {G : Gl} {A : Nat → Prop} {H0 : Heap} {ad : Int → Nat} {g : Shp} {ad0 : Int → Nat} {g0 : Shp} {n0 t0 cells slots mc msl : Nat} (hnm : meth.name = "<init>") {H : Heap} {locs : List Loc} {ls : Array Slot} {m : Mem} {x0 z0 z1 : Int} (C : CallFix p mt c cX11_init 2 s args tb RX11) (S : Wd G A s H0 ad g m H locs) (hx0 : gk g x0 = 12) (hz0 : gk g z0 = 12) (hz1 : gk g z1 = 20) (hl : lv_has ls 2 [(0, .ref (ad x0))]) (hq : aX g0 ad0 ad ∧ gX g0 g) (hn : gn g = n0 + cells ∧ gs g = t0 + slots) {r : Int} {g' : Shp} {m' : Mem} (hF : bX11_init_105 x0 z0 z1 g m = some (r, g', m')) (he : gn g' ≤ n0 + mc ∧ gs g' ≤ t0 + msl) (Kr : ∀ (ad : Int → Nat) (H : Heap) (locs : List Loc) (pc : Nat) (ls : Array Slot) (cells slots : Nat), aX g0 ad0 ad → gn g' = n0 + cells ∧ gs g' = t0 + slots → Wd G A s H0 ad g' m' H locs → decode cX11_init pc = .ok (.return_, 1) → W p l e (rX11_init mc msl) s mt args below meth c H locs cells slots Q (F0 mt pc ls [])) : W p l e (rX11_init mc msl) s mt args below meth c H locs cells slots Q (F0 mt 105 ls [.ref (ad z1), .ref (ad z0)]) := by
  have hXx := xX11_init_105 hF S.g
  have hle : cells ≤ mc ∧ slots ≤ msl := by
    have h1 := hXx.1.1
    have h2 := hXx.1.2.1
    omega
  unfold bX11_init_105 at hF
  obtain ⟨m1, em1, hF⟩ := vm_ok hF
  refine q_put C S 22 fo_RX11_46 fp_12_22 (fun _ => ⟨hnm, rfl⟩) (j := 22) rfl hz0 (orf_ok S hz1 (by decide) rfl) rfl rfl (S.k hz1 (by decide)) (fun _ => kz hz1 (by decide)) em1 dX11_init_105 (fun H locs Sm1 => ?_)
  refine q_aload_n C hl 0 rfl rfl dX11_init_108 ?_
  refine q_iconst C 3 dX11_init_109 ?_
  obtain ⟨h5, hF⟩ := ck_ok hF
  obtain ⟨g2, eg2, hF⟩ := vg_ok hF
  obtain ⟨m3, em3, hF⟩ := vm_ok hF
  obtain ⟨y4, ey4, hF⟩ := vv_ok hF
  have hG2 := gA_ok Sm1.g h5 eg2
  have hX2 := gA_X Sm1.g eg2
  have hN2 := gA_n eg2
  have hXr := (xX11_init_112 hF hG2).1
  refine q_newi C Sm1 rfl (Or.inl ⟨rfl, rfl, rfl⟩) tw113 h5 (by have h1 := hXr.1; have h2 := hXr.2.1; exact ⟨by show _ ≤ mc; omega, by show _ ≤ msl; omega⟩) eg2 em3 dX11_init_110 (fun ad6 H hax Sm3 => ?_)
  rw [← ey4]
  have ky4 := gA_k eg2 ey4
  have hq : aX g0 ad0 ad6 ∧ gX g0 g2 := ⟨hq.1.tr hq.2 hax, hq.2.tr hX2⟩
  have hn : gn g2 = n0 + (cells + 1) ∧ gs g2 = t0 + (slots + 3) := by omega
  have k7 := hX2.k hx0 (by decide)
  have ak7 : ad6 x0 = ad x0 := hax _ (kz hx0 (by decide))
  rw [← ak7] at hl
  rw [← ak7]
  exact wX11_init_112 hnm C Sm3 k7 k7 ky4 (lv_sub hl [0] rfl) hq hn hF he Kr
theorem xX11_init_97 {g : Shp} {m : Mem} {x0 z0 z1 : Int} {r : Int} {g' : Shp} {m' : Mem} (hF : bX11_init_97 x0 z0 z1 g m = some (r, g', m')) (hg : gOk g) : gX g g' ∧ gOk g' := by
  unfold bX11_init_97 at hF
  obtain ⟨m1, em1, hF⟩ := vm_ok hF
  obtain ⟨h5, hF⟩ := ck_ok hF
  obtain ⟨g2, eg2, hF⟩ := vg_ok hF
  obtain ⟨m3, em3, hF⟩ := vm_ok hF
  obtain ⟨y4, ey4, hF⟩ := vv_ok hF
  have hG2 := gA_ok hg h5 eg2
  have hX2 := gA_X hg eg2
  exact gX2 hX2 (xX11_init_105 hF hG2)
set_option maxRecDepth 20000 in
theorem wX11_init_97 {p : Program} {l : Launch} {e : Env} {s : State} {mt : MethodId} {args : Array Value} {below : List Frame} {meth : Method} {c : Code} {Q : State → Prop} {G : Gl} {A : Nat → Prop} {H0 : Heap} {ad : Int → Nat} {g : Shp} {ad0 : Int → Nat} {g0 : Shp} {n0 t0 cells slots mc msl : Nat} (hnm : meth.name = "<init>") {H : Heap} {locs : List Loc} {ls : Array Slot} {m : Mem} {x0 z0 z1 : Int} (C : CallFix p mt c cX11_init 2 s args tb RX11) (S : Wd G A s H0 ad g m H locs) (hx0 : gk g x0 = 12) (hz0 : gk g z0 = 12) (hz1 : gk g z1 = 20) (hl : lv_has ls 2 [(0, .ref (ad x0))]) (hq : aX g0 ad0 ad ∧ gX g0 g) (hn : gn g = n0 + cells ∧ gs g = t0 + slots) {r : Int} {g' : Shp} {m' : Mem} (hF : bX11_init_97 x0 z0 z1 g m = some (r, g', m')) (he : gn g' ≤ n0 + mc ∧ gs g' ≤ t0 + msl) (Kr : ∀ (ad : Int → Nat) (H : Heap) (locs : List Loc) (pc : Nat) (ls : Array Slot) (cells slots : Nat), aX g0 ad0 ad → gn g' = n0 + cells ∧ gs g' = t0 + slots → Wd G A s H0 ad g' m' H locs → decode cX11_init pc = .ok (.return_, 1) → W p l e (rX11_init mc msl) s mt args below meth c H locs cells slots Q (F0 mt pc ls [])) : W p l e (rX11_init mc msl) s mt args below meth c H locs cells slots Q (F0 mt 97 ls [.ref (ad z1), .ref (ad z0)]) := by
  have hXx := xX11_init_97 hF S.g
  have hle : cells ≤ mc ∧ slots ≤ msl := by
    have h1 := hXx.1.1
    have h2 := hXx.1.2.1
    omega
  unfold bX11_init_97 at hF
  obtain ⟨m1, em1, hF⟩ := vm_ok hF
  refine q_put C S 21 fo_RX11_43 fp_12_21 (fun _ => ⟨hnm, rfl⟩) (j := 21) rfl hz0 (orf_ok S hz1 (by decide) rfl) rfl rfl (S.k hz1 (by decide)) (fun _ => kz hz1 (by decide)) em1 dX11_init_97 (fun H locs Sm1 => ?_)
  refine q_aload_n C hl 0 rfl rfl dX11_init_100 ?_
  refine q_bipush C 15 (by decide) dX11_init_101 ?_
  obtain ⟨h5, hF⟩ := ck_ok hF
  obtain ⟨g2, eg2, hF⟩ := vg_ok hF
  obtain ⟨m3, em3, hF⟩ := vm_ok hF
  obtain ⟨y4, ey4, hF⟩ := vv_ok hF
  have hG2 := gA_ok Sm1.g h5 eg2
  have hX2 := gA_X Sm1.g eg2
  have hN2 := gA_n eg2
  have hXr := (xX11_init_105 hF hG2).1
  refine q_newi C Sm1 rfl (Or.inl ⟨rfl, rfl, rfl⟩) tw113 h5 (by have h1 := hXr.1; have h2 := hXr.2.1; exact ⟨by show _ ≤ mc; omega, by show _ ≤ msl; omega⟩) eg2 em3 dX11_init_103 (fun ad6 H hax Sm3 => ?_)
  rw [← ey4]
  have ky4 := gA_k eg2 ey4
  have hq : aX g0 ad0 ad6 ∧ gX g0 g2 := ⟨hq.1.tr hq.2 hax, hq.2.tr hX2⟩
  have hn : gn g2 = n0 + (cells + 1) ∧ gs g2 = t0 + (slots + 15) := by omega
  have k7 := hX2.k hx0 (by decide)
  have ak7 : ad6 x0 = ad x0 := hax _ (kz hx0 (by decide))
  rw [← ak7] at hl
  rw [← ak7]
  exact wX11_init_105 hnm C Sm3 k7 k7 ky4 (lv_sub hl [0] rfl) hq hn hF he Kr
theorem xX11_init_90 {g : Shp} {m : Mem} {x0 z0 z1 : Int} {r : Int} {g' : Shp} {m' : Mem} (hF : bX11_init_90 x0 z0 z1 g m = some (r, g', m')) (hg : gOk g) : gX g g' ∧ gOk g' := by
  unfold bX11_init_90 at hF
  obtain ⟨m1, em1, hF⟩ := vm_ok hF
  obtain ⟨h5, hF⟩ := ck_ok hF
  obtain ⟨g2, eg2, hF⟩ := vg_ok hF
  obtain ⟨m3, em3, hF⟩ := vm_ok hF
  obtain ⟨y4, ey4, hF⟩ := vv_ok hF
  have hG2 := gA_ok hg h5 eg2
  have hX2 := gA_X hg eg2
  exact gX2 hX2 (xX11_init_97 hF hG2)
set_option maxRecDepth 20000 in
theorem wX11_init_90 {p : Program} {l : Launch} {e : Env} {s : State} {mt : MethodId} {args : Array Value} {below : List Frame} {meth : Method} {c : Code} {Q : State → Prop} {G : Gl} {A : Nat → Prop} {H0 : Heap} {ad : Int → Nat} {g : Shp} {ad0 : Int → Nat} {g0 : Shp} {n0 t0 cells slots mc msl : Nat} (hnm : meth.name = "<init>") {H : Heap} {locs : List Loc} {ls : Array Slot} {m : Mem} {x0 z0 z1 : Int} (C : CallFix p mt c cX11_init 2 s args tb RX11) (S : Wd G A s H0 ad g m H locs) (hx0 : gk g x0 = 12) (hz0 : gk g z0 = 12) (hz1 : gk g z1 = 20) (hl : lv_has ls 2 [(0, .ref (ad x0))]) (hq : aX g0 ad0 ad ∧ gX g0 g) (hn : gn g = n0 + cells ∧ gs g = t0 + slots) {r : Int} {g' : Shp} {m' : Mem} (hF : bX11_init_90 x0 z0 z1 g m = some (r, g', m')) (he : gn g' ≤ n0 + mc ∧ gs g' ≤ t0 + msl) (Kr : ∀ (ad : Int → Nat) (H : Heap) (locs : List Loc) (pc : Nat) (ls : Array Slot) (cells slots : Nat), aX g0 ad0 ad → gn g' = n0 + cells ∧ gs g' = t0 + slots → Wd G A s H0 ad g' m' H locs → decode cX11_init pc = .ok (.return_, 1) → W p l e (rX11_init mc msl) s mt args below meth c H locs cells slots Q (F0 mt pc ls [])) : W p l e (rX11_init mc msl) s mt args below meth c H locs cells slots Q (F0 mt 90 ls [.ref (ad z1), .ref (ad z0)]) := by
  have hXx := xX11_init_90 hF S.g
  have hle : cells ≤ mc ∧ slots ≤ msl := by
    have h1 := hXx.1.1
    have h2 := hXx.1.2.1
    omega
  unfold bX11_init_90 at hF
  obtain ⟨m1, em1, hF⟩ := vm_ok hF
  refine q_put C S 19 fo_RX11_40 fp_12_19 (fun _ => ⟨hnm, rfl⟩) (j := 19) rfl hz0 (orf_ok S hz1 (by decide) rfl) rfl rfl (S.k hz1 (by decide)) (fun _ => kz hz1 (by decide)) em1 dX11_init_90 (fun H locs Sm1 => ?_)
  refine q_aload_n C hl 0 rfl rfl dX11_init_93 ?_
  refine q_iconst C 3 dX11_init_94 ?_
  obtain ⟨h5, hF⟩ := ck_ok hF
  obtain ⟨g2, eg2, hF⟩ := vg_ok hF
  obtain ⟨m3, em3, hF⟩ := vm_ok hF
  obtain ⟨y4, ey4, hF⟩ := vv_ok hF
  have hG2 := gA_ok Sm1.g h5 eg2
  have hX2 := gA_X Sm1.g eg2
  have hN2 := gA_n eg2
  have hXr := (xX11_init_97 hF hG2).1
  refine q_newi C Sm1 rfl (Or.inl ⟨rfl, rfl, rfl⟩) tw113 h5 (by have h1 := hXr.1; have h2 := hXr.2.1; exact ⟨by show _ ≤ mc; omega, by show _ ≤ msl; omega⟩) eg2 em3 dX11_init_95 (fun ad6 H hax Sm3 => ?_)
  rw [← ey4]
  have ky4 := gA_k eg2 ey4
  have hq : aX g0 ad0 ad6 ∧ gX g0 g2 := ⟨hq.1.tr hq.2 hax, hq.2.tr hX2⟩
  have hn : gn g2 = n0 + (cells + 1) ∧ gs g2 = t0 + (slots + 3) := by omega
  have k7 := hX2.k hx0 (by decide)
  have ak7 : ad6 x0 = ad x0 := hax _ (kz hx0 (by decide))
  rw [← ak7] at hl
  rw [← ak7]
  exact wX11_init_97 hnm C Sm3 k7 k7 ky4 (lv_sub hl [0] rfl) hq hn hF he Kr
theorem xX11_init_83 {g : Shp} {m : Mem} {x0 z0 z1 : Int} {r : Int} {g' : Shp} {m' : Mem} (hF : bX11_init_83 x0 z0 z1 g m = some (r, g', m')) (hg : gOk g) : gX g g' ∧ gOk g' := by
  unfold bX11_init_83 at hF
  obtain ⟨m1, em1, hF⟩ := vm_ok hF
  obtain ⟨h5, hF⟩ := ck_ok hF
  obtain ⟨g2, eg2, hF⟩ := vg_ok hF
  obtain ⟨m3, em3, hF⟩ := vm_ok hF
  obtain ⟨y4, ey4, hF⟩ := vv_ok hF
  have hG2 := gA_ok hg h5 eg2
  have hX2 := gA_X hg eg2
  exact gX2 hX2 (xX11_init_90 hF hG2)
set_option maxRecDepth 20000 in
theorem wX11_init_83 {p : Program} {l : Launch} {e : Env} {s : State} {mt : MethodId} {args : Array Value} {below : List Frame} {meth : Method} {c : Code} {Q : State → Prop} {G : Gl} {A : Nat → Prop} {H0 : Heap} {ad : Int → Nat} {g : Shp} {ad0 : Int → Nat} {g0 : Shp} {n0 t0 cells slots mc msl : Nat} (hnm : meth.name = "<init>") {H : Heap} {locs : List Loc} {ls : Array Slot} {m : Mem} {x0 z0 z1 : Int} (C : CallFix p mt c cX11_init 2 s args tb RX11) (S : Wd G A s H0 ad g m H locs) (hx0 : gk g x0 = 12) (hz0 : gk g z0 = 12) (hz1 : gk g z1 = 20) (hl : lv_has ls 2 [(0, .ref (ad x0))]) (hq : aX g0 ad0 ad ∧ gX g0 g) (hn : gn g = n0 + cells ∧ gs g = t0 + slots) {r : Int} {g' : Shp} {m' : Mem} (hF : bX11_init_83 x0 z0 z1 g m = some (r, g', m')) (he : gn g' ≤ n0 + mc ∧ gs g' ≤ t0 + msl) (Kr : ∀ (ad : Int → Nat) (H : Heap) (locs : List Loc) (pc : Nat) (ls : Array Slot) (cells slots : Nat), aX g0 ad0 ad → gn g' = n0 + cells ∧ gs g' = t0 + slots → Wd G A s H0 ad g' m' H locs → decode cX11_init pc = .ok (.return_, 1) → W p l e (rX11_init mc msl) s mt args below meth c H locs cells slots Q (F0 mt pc ls [])) : W p l e (rX11_init mc msl) s mt args below meth c H locs cells slots Q (F0 mt 83 ls [.ref (ad z1), .ref (ad z0)]) := by
  have hXx := xX11_init_83 hF S.g
  have hle : cells ≤ mc ∧ slots ≤ msl := by
    have h1 := hXx.1.1
    have h2 := hXx.1.2.1
    omega
  unfold bX11_init_83 at hF
  obtain ⟨m1, em1, hF⟩ := vm_ok hF
  refine q_put C S 14 fo_RX11_37 fp_12_14 (fun _ => ⟨hnm, rfl⟩) (j := 14) rfl hz0 (orf_ok S hz1 (by decide) rfl) rfl rfl (S.k hz1 (by decide)) (fun _ => kz hz1 (by decide)) em1 dX11_init_83 (fun H locs Sm1 => ?_)
  refine q_aload_n C hl 0 rfl rfl dX11_init_86 ?_
  refine q_iconst C 3 dX11_init_87 ?_
  obtain ⟨h5, hF⟩ := ck_ok hF
  obtain ⟨g2, eg2, hF⟩ := vg_ok hF
  obtain ⟨m3, em3, hF⟩ := vm_ok hF
  obtain ⟨y4, ey4, hF⟩ := vv_ok hF
  have hG2 := gA_ok Sm1.g h5 eg2
  have hX2 := gA_X Sm1.g eg2
  have hN2 := gA_n eg2
  have hXr := (xX11_init_90 hF hG2).1
  refine q_newi C Sm1 rfl (Or.inl ⟨rfl, rfl, rfl⟩) tw113 h5 (by have h1 := hXr.1; have h2 := hXr.2.1; exact ⟨by show _ ≤ mc; omega, by show _ ≤ msl; omega⟩) eg2 em3 dX11_init_88 (fun ad6 H hax Sm3 => ?_)
  rw [← ey4]
  have ky4 := gA_k eg2 ey4
  have hq : aX g0 ad0 ad6 ∧ gX g0 g2 := ⟨hq.1.tr hq.2 hax, hq.2.tr hX2⟩
  have hn : gn g2 = n0 + (cells + 1) ∧ gs g2 = t0 + (slots + 3) := by omega
  have k7 := hX2.k hx0 (by decide)
  have ak7 : ad6 x0 = ad x0 := hax _ (kz hx0 (by decide))
  rw [← ak7] at hl
  rw [← ak7]
  exact wX11_init_90 hnm C Sm3 k7 k7 ky4 (lv_sub hl [0] rfl) hq hn hF he Kr
theorem xX11_init_74 {g : Shp} {m : Mem} {x0 z0 z1 : Int} {r : Int} {g' : Shp} {m' : Mem} (hF : bX11_init_74 x0 z0 z1 g m = some (r, g', m')) (hg : gOk g) : gX g g' ∧ gOk g' := by
  unfold bX11_init_74 at hF
  obtain ⟨m1, em1, hF⟩ := vm_ok hF
  obtain ⟨h5, hF⟩ := ck_ok hF
  obtain ⟨g2, eg2, hF⟩ := vg_ok hF
  obtain ⟨m3, em3, hF⟩ := vm_ok hF
  obtain ⟨y4, ey4, hF⟩ := vv_ok hF
  have hG2 := gA_ok hg h5 eg2
  have hX2 := gA_X hg eg2
  exact gX2 hX2 (xX11_init_83 hF hG2)
set_option maxRecDepth 20000 in
theorem wX11_init_74 {p : Program} {l : Launch} {e : Env} {s : State} {mt : MethodId} {args : Array Value} {below : List Frame} {meth : Method} {c : Code} {Q : State → Prop} {G : Gl} {A : Nat → Prop} {H0 : Heap} {ad : Int → Nat} {g : Shp} {ad0 : Int → Nat} {g0 : Shp} {n0 t0 cells slots mc msl : Nat} (hnm : meth.name = "<init>") {H : Heap} {locs : List Loc} {ls : Array Slot} {m : Mem} {x0 z0 z1 : Int} (C : CallFix p mt c cX11_init 2 s args tb RX11) (S : Wd G A s H0 ad g m H locs) (hx0 : gk g x0 = 12) (hz0 : gk g z0 = 12) (hz1 : gk g z1 = 20) (hl : lv_has ls 2 [(0, .ref (ad x0))]) (hq : aX g0 ad0 ad ∧ gX g0 g) (hn : gn g = n0 + cells ∧ gs g = t0 + slots) {r : Int} {g' : Shp} {m' : Mem} (hF : bX11_init_74 x0 z0 z1 g m = some (r, g', m')) (he : gn g' ≤ n0 + mc ∧ gs g' ≤ t0 + msl) (Kr : ∀ (ad : Int → Nat) (H : Heap) (locs : List Loc) (pc : Nat) (ls : Array Slot) (cells slots : Nat), aX g0 ad0 ad → gn g' = n0 + cells ∧ gs g' = t0 + slots → Wd G A s H0 ad g' m' H locs → decode cX11_init pc = .ok (.return_, 1) → W p l e (rX11_init mc msl) s mt args below meth c H locs cells slots Q (F0 mt pc ls [])) : W p l e (rX11_init mc msl) s mt args below meth c H locs cells slots Q (F0 mt 74 ls [.ref (ad z1), .ref (ad z0)]) := by
  have hXx := xX11_init_74 hF S.g
  have hle : cells ≤ mc ∧ slots ≤ msl := by
    have h1 := hXx.1.1
    have h2 := hXx.1.2.1
    omega
  unfold bX11_init_74 at hF
  obtain ⟨m1, em1, hF⟩ := vm_ok hF
  refine q_put C S 13 fo_RX11_34 fp_12_13 (fun _ => ⟨hnm, rfl⟩) (j := 13) rfl hz0 (orf_ok S hz1 (by decide) rfl) rfl rfl (S.k hz1 (by decide)) (fun _ => kz hz1 (by decide)) em1 dX11_init_74 (fun H locs Sm1 => ?_)
  refine q_aload_n C hl 0 rfl rfl dX11_init_77 ?_
  refine q_sipush C 180 (by decide) dX11_init_78 ?_
  obtain ⟨h5, hF⟩ := ck_ok hF
  obtain ⟨g2, eg2, hF⟩ := vg_ok hF
  obtain ⟨m3, em3, hF⟩ := vm_ok hF
  obtain ⟨y4, ey4, hF⟩ := vv_ok hF
  have hG2 := gA_ok Sm1.g h5 eg2
  have hX2 := gA_X Sm1.g eg2
  have hN2 := gA_n eg2
  have hXr := (xX11_init_83 hF hG2).1
  refine q_newi C Sm1 rfl (Or.inl ⟨rfl, rfl, rfl⟩) tw113 h5 (by have h1 := hXr.1; have h2 := hXr.2.1; exact ⟨by show _ ≤ mc; omega, by show _ ≤ msl; omega⟩) eg2 em3 dX11_init_81 (fun ad6 H hax Sm3 => ?_)
  rw [← ey4]
  have ky4 := gA_k eg2 ey4
  have hq : aX g0 ad0 ad6 ∧ gX g0 g2 := ⟨hq.1.tr hq.2 hax, hq.2.tr hX2⟩
  have hn : gn g2 = n0 + (cells + 1) ∧ gs g2 = t0 + (slots + 180) := by omega
  have k7 := hX2.k hx0 (by decide)
  have ak7 : ad6 x0 = ad x0 := hax _ (kz hx0 (by decide))
  rw [← ak7] at hl
  rw [← ak7]
  exact wX11_init_83 hnm C Sm3 k7 k7 ky4 (lv_sub hl [0] rfl) hq hn hF he Kr
theorem xX11_init_67 {g : Shp} {m : Mem} {x0 z0 z1 : Int} {r : Int} {g' : Shp} {m' : Mem} (hF : bX11_init_67 x0 z0 z1 g m = some (r, g', m')) (hg : gOk g) : gX g g' ∧ gOk g' := by
  unfold bX11_init_67 at hF
  obtain ⟨m1, em1, hF⟩ := vm_ok hF
  obtain ⟨h5, hF⟩ := ck_ok hF
  obtain ⟨g2, eg2, hF⟩ := vg_ok hF
  obtain ⟨m3, em3, hF⟩ := vm_ok hF
  obtain ⟨y4, ey4, hF⟩ := vv_ok hF
  have hG2 := gA_ok hg h5 eg2
  have hX2 := gA_X hg eg2
  exact gX2 hX2 (xX11_init_74 hF hG2)
set_option maxRecDepth 20000 in
theorem wX11_init_67 {p : Program} {l : Launch} {e : Env} {s : State} {mt : MethodId} {args : Array Value} {below : List Frame} {meth : Method} {c : Code} {Q : State → Prop} {G : Gl} {A : Nat → Prop} {H0 : Heap} {ad : Int → Nat} {g : Shp} {ad0 : Int → Nat} {g0 : Shp} {n0 t0 cells slots mc msl : Nat} (hnm : meth.name = "<init>") {H : Heap} {locs : List Loc} {ls : Array Slot} {m : Mem} {x0 z0 z1 : Int} (C : CallFix p mt c cX11_init 2 s args tb RX11) (S : Wd G A s H0 ad g m H locs) (hx0 : gk g x0 = 12) (hz0 : gk g z0 = 12) (hz1 : gk g z1 = 20) (hl : lv_has ls 2 [(0, .ref (ad x0))]) (hq : aX g0 ad0 ad ∧ gX g0 g) (hn : gn g = n0 + cells ∧ gs g = t0 + slots) {r : Int} {g' : Shp} {m' : Mem} (hF : bX11_init_67 x0 z0 z1 g m = some (r, g', m')) (he : gn g' ≤ n0 + mc ∧ gs g' ≤ t0 + msl) (Kr : ∀ (ad : Int → Nat) (H : Heap) (locs : List Loc) (pc : Nat) (ls : Array Slot) (cells slots : Nat), aX g0 ad0 ad → gn g' = n0 + cells ∧ gs g' = t0 + slots → Wd G A s H0 ad g' m' H locs → decode cX11_init pc = .ok (.return_, 1) → W p l e (rX11_init mc msl) s mt args below meth c H locs cells slots Q (F0 mt pc ls [])) : W p l e (rX11_init mc msl) s mt args below meth c H locs cells slots Q (F0 mt 67 ls [.ref (ad z1), .ref (ad z0)]) := by
  have hXx := xX11_init_67 hF S.g
  have hle : cells ≤ mc ∧ slots ≤ msl := by
    have h1 := hXx.1.1
    have h2 := hXx.1.2.1
    omega
  unfold bX11_init_67 at hF
  obtain ⟨m1, em1, hF⟩ := vm_ok hF
  refine q_put C S 12 fo_RX11_31 fp_12_12 (fun _ => ⟨hnm, rfl⟩) (j := 12) rfl hz0 (orf_ok S hz1 (by decide) rfl) rfl rfl (S.k hz1 (by decide)) (fun _ => kz hz1 (by decide)) em1 dX11_init_67 (fun H locs Sm1 => ?_)
  refine q_aload_n C hl 0 rfl rfl dX11_init_70 ?_
  refine q_iconst C 3 dX11_init_71 ?_
  obtain ⟨h5, hF⟩ := ck_ok hF
  obtain ⟨g2, eg2, hF⟩ := vg_ok hF
  obtain ⟨m3, em3, hF⟩ := vm_ok hF
  obtain ⟨y4, ey4, hF⟩ := vv_ok hF
  have hG2 := gA_ok Sm1.g h5 eg2
  have hX2 := gA_X Sm1.g eg2
  have hN2 := gA_n eg2
  have hXr := (xX11_init_74 hF hG2).1
  refine q_newi C Sm1 rfl (Or.inl ⟨rfl, rfl, rfl⟩) tw113 h5 (by have h1 := hXr.1; have h2 := hXr.2.1; exact ⟨by show _ ≤ mc; omega, by show _ ≤ msl; omega⟩) eg2 em3 dX11_init_72 (fun ad6 H hax Sm3 => ?_)
  rw [← ey4]
  have ky4 := gA_k eg2 ey4
  have hq : aX g0 ad0 ad6 ∧ gX g0 g2 := ⟨hq.1.tr hq.2 hax, hq.2.tr hX2⟩
  have hn : gn g2 = n0 + (cells + 1) ∧ gs g2 = t0 + (slots + 3) := by omega
  have k7 := hX2.k hx0 (by decide)
  have ak7 : ad6 x0 = ad x0 := hax _ (kz hx0 (by decide))
  rw [← ak7] at hl
  rw [← ak7]
  exact wX11_init_74 hnm C Sm3 k7 k7 ky4 (lv_sub hl [0] rfl) hq hn hF he Kr
theorem xX11_init_59 {g : Shp} {m : Mem} {x0 z0 z1 : Int} {r : Int} {g' : Shp} {m' : Mem} (hF : bX11_init_59 x0 z0 z1 g m = some (r, g', m')) (hg : gOk g) : gX g g' ∧ gOk g' := by
  unfold bX11_init_59 at hF
  obtain ⟨m1, em1, hF⟩ := vm_ok hF
  obtain ⟨h5, hF⟩ := ck_ok hF
  obtain ⟨g2, eg2, hF⟩ := vg_ok hF
  obtain ⟨m3, em3, hF⟩ := vm_ok hF
  obtain ⟨y4, ey4, hF⟩ := vv_ok hF
  have hG2 := gA_ok hg h5 eg2
  have hX2 := gA_X hg eg2
  exact gX2 hX2 (xX11_init_67 hF hG2)
set_option maxRecDepth 20000 in
theorem wX11_init_59 {p : Program} {l : Launch} {e : Env} {s : State} {mt : MethodId} {args : Array Value} {below : List Frame} {meth : Method} {c : Code} {Q : State → Prop} {G : Gl} {A : Nat → Prop} {H0 : Heap} {ad : Int → Nat} {g : Shp} {ad0 : Int → Nat} {g0 : Shp} {n0 t0 cells slots mc msl : Nat} (hnm : meth.name = "<init>") {H : Heap} {locs : List Loc} {ls : Array Slot} {m : Mem} {x0 z0 z1 : Int} (C : CallFix p mt c cX11_init 2 s args tb RX11) (S : Wd G A s H0 ad g m H locs) (hx0 : gk g x0 = 12) (hz0 : gk g z0 = 12) (hz1 : gk g z1 = 20) (hl : lv_has ls 2 [(0, .ref (ad x0))]) (hq : aX g0 ad0 ad ∧ gX g0 g) (hn : gn g = n0 + cells ∧ gs g = t0 + slots) {r : Int} {g' : Shp} {m' : Mem} (hF : bX11_init_59 x0 z0 z1 g m = some (r, g', m')) (he : gn g' ≤ n0 + mc ∧ gs g' ≤ t0 + msl) (Kr : ∀ (ad : Int → Nat) (H : Heap) (locs : List Loc) (pc : Nat) (ls : Array Slot) (cells slots : Nat), aX g0 ad0 ad → gn g' = n0 + cells ∧ gs g' = t0 + slots → Wd G A s H0 ad g' m' H locs → decode cX11_init pc = .ok (.return_, 1) → W p l e (rX11_init mc msl) s mt args below meth c H locs cells slots Q (F0 mt pc ls [])) : W p l e (rX11_init mc msl) s mt args below meth c H locs cells slots Q (F0 mt 59 ls [.ref (ad z1), .ref (ad z0)]) := by
  have hXx := xX11_init_59 hF S.g
  have hle : cells ≤ mc ∧ slots ≤ msl := by
    have h1 := hXx.1.1
    have h2 := hXx.1.2.1
    omega
  unfold bX11_init_59 at hF
  obtain ⟨m1, em1, hF⟩ := vm_ok hF
  refine q_put C S 11 fo_RX11_28 fp_12_11 (fun _ => ⟨hnm, rfl⟩) (j := 11) rfl hz0 (orf_ok S hz1 (by decide) rfl) rfl rfl (S.k hz1 (by decide)) (fun _ => kz hz1 (by decide)) em1 dX11_init_59 (fun H locs Sm1 => ?_)
  refine q_aload_n C hl 0 rfl rfl dX11_init_62 ?_
  refine q_bipush C 15 (by decide) dX11_init_63 ?_
  obtain ⟨h5, hF⟩ := ck_ok hF
  obtain ⟨g2, eg2, hF⟩ := vg_ok hF
  obtain ⟨m3, em3, hF⟩ := vm_ok hF
  obtain ⟨y4, ey4, hF⟩ := vv_ok hF
  have hG2 := gA_ok Sm1.g h5 eg2
  have hX2 := gA_X Sm1.g eg2
  have hN2 := gA_n eg2
  have hXr := (xX11_init_67 hF hG2).1
  refine q_newi C Sm1 rfl (Or.inl ⟨rfl, rfl, rfl⟩) tw113 h5 (by have h1 := hXr.1; have h2 := hXr.2.1; exact ⟨by show _ ≤ mc; omega, by show _ ≤ msl; omega⟩) eg2 em3 dX11_init_65 (fun ad6 H hax Sm3 => ?_)
  rw [← ey4]
  have ky4 := gA_k eg2 ey4
  have hq : aX g0 ad0 ad6 ∧ gX g0 g2 := ⟨hq.1.tr hq.2 hax, hq.2.tr hX2⟩
  have hn : gn g2 = n0 + (cells + 1) ∧ gs g2 = t0 + (slots + 15) := by omega
  have k7 := hX2.k hx0 (by decide)
  have ak7 : ad6 x0 = ad x0 := hax _ (kz hx0 (by decide))
  rw [← ak7] at hl
  rw [← ak7]
  exact wX11_init_67 hnm C Sm3 k7 k7 ky4 (lv_sub hl [0] rfl) hq hn hF he Kr
theorem xX11_init_52 {g : Shp} {m : Mem} {x0 z0 z1 : Int} {r : Int} {g' : Shp} {m' : Mem} (hF : bX11_init_52 x0 z0 z1 g m = some (r, g', m')) (hg : gOk g) : gX g g' ∧ gOk g' := by
  unfold bX11_init_52 at hF
  obtain ⟨m1, em1, hF⟩ := vm_ok hF
  obtain ⟨h5, hF⟩ := ck_ok hF
  obtain ⟨g2, eg2, hF⟩ := vg_ok hF
  obtain ⟨m3, em3, hF⟩ := vm_ok hF
  obtain ⟨y4, ey4, hF⟩ := vv_ok hF
  have hG2 := gA_ok hg h5 eg2
  have hX2 := gA_X hg eg2
  exact gX2 hX2 (xX11_init_59 hF hG2)
set_option maxRecDepth 20000 in
theorem wX11_init_52 {p : Program} {l : Launch} {e : Env} {s : State} {mt : MethodId} {args : Array Value} {below : List Frame} {meth : Method} {c : Code} {Q : State → Prop} {G : Gl} {A : Nat → Prop} {H0 : Heap} {ad : Int → Nat} {g : Shp} {ad0 : Int → Nat} {g0 : Shp} {n0 t0 cells slots mc msl : Nat} (hnm : meth.name = "<init>") {H : Heap} {locs : List Loc} {ls : Array Slot} {m : Mem} {x0 z0 z1 : Int} (C : CallFix p mt c cX11_init 2 s args tb RX11) (S : Wd G A s H0 ad g m H locs) (hx0 : gk g x0 = 12) (hz0 : gk g z0 = 12) (hz1 : gk g z1 = 20) (hl : lv_has ls 2 [(0, .ref (ad x0))]) (hq : aX g0 ad0 ad ∧ gX g0 g) (hn : gn g = n0 + cells ∧ gs g = t0 + slots) {r : Int} {g' : Shp} {m' : Mem} (hF : bX11_init_52 x0 z0 z1 g m = some (r, g', m')) (he : gn g' ≤ n0 + mc ∧ gs g' ≤ t0 + msl) (Kr : ∀ (ad : Int → Nat) (H : Heap) (locs : List Loc) (pc : Nat) (ls : Array Slot) (cells slots : Nat), aX g0 ad0 ad → gn g' = n0 + cells ∧ gs g' = t0 + slots → Wd G A s H0 ad g' m' H locs → decode cX11_init pc = .ok (.return_, 1) → W p l e (rX11_init mc msl) s mt args below meth c H locs cells slots Q (F0 mt pc ls [])) : W p l e (rX11_init mc msl) s mt args below meth c H locs cells slots Q (F0 mt 52 ls [.ref (ad z1), .ref (ad z0)]) := by
  have hXx := xX11_init_52 hF S.g
  have hle : cells ≤ mc ∧ slots ≤ msl := by
    have h1 := hXx.1.1
    have h2 := hXx.1.2.1
    omega
  unfold bX11_init_52 at hF
  obtain ⟨m1, em1, hF⟩ := vm_ok hF
  refine q_put C S 9 fo_RX11_25 fp_12_9 (fun _ => ⟨hnm, rfl⟩) (j := 9) rfl hz0 (orf_ok S hz1 (by decide) rfl) rfl rfl (S.k hz1 (by decide)) (fun _ => kz hz1 (by decide)) em1 dX11_init_52 (fun H locs Sm1 => ?_)
  refine q_aload_n C hl 0 rfl rfl dX11_init_55 ?_
  refine q_iconst C 3 dX11_init_56 ?_
  obtain ⟨h5, hF⟩ := ck_ok hF
  obtain ⟨g2, eg2, hF⟩ := vg_ok hF
  obtain ⟨m3, em3, hF⟩ := vm_ok hF
  obtain ⟨y4, ey4, hF⟩ := vv_ok hF
  have hG2 := gA_ok Sm1.g h5 eg2
  have hX2 := gA_X Sm1.g eg2
  have hN2 := gA_n eg2
  have hXr := (xX11_init_59 hF hG2).1
  refine q_newi C Sm1 rfl (Or.inl ⟨rfl, rfl, rfl⟩) tw113 h5 (by have h1 := hXr.1; have h2 := hXr.2.1; exact ⟨by show _ ≤ mc; omega, by show _ ≤ msl; omega⟩) eg2 em3 dX11_init_57 (fun ad6 H hax Sm3 => ?_)
  rw [← ey4]
  have ky4 := gA_k eg2 ey4
  have hq : aX g0 ad0 ad6 ∧ gX g0 g2 := ⟨hq.1.tr hq.2 hax, hq.2.tr hX2⟩
  have hn : gn g2 = n0 + (cells + 1) ∧ gs g2 = t0 + (slots + 3) := by omega
  have k7 := hX2.k hx0 (by decide)
  have ak7 : ad6 x0 = ad x0 := hax _ (kz hx0 (by decide))
  rw [← ak7] at hl
  rw [← ak7]
  exact wX11_init_59 hnm C Sm3 k7 k7 ky4 (lv_sub hl [0] rfl) hq hn hF he Kr
theorem xX11_init_44 {g : Shp} {m : Mem} {x0 z0 z1 : Int} {r : Int} {g' : Shp} {m' : Mem} (hF : bX11_init_44 x0 z0 z1 g m = some (r, g', m')) (hg : gOk g) : gX g g' ∧ gOk g' := by
  unfold bX11_init_44 at hF
  obtain ⟨m1, em1, hF⟩ := vm_ok hF
  obtain ⟨h5, hF⟩ := ck_ok hF
  obtain ⟨g2, eg2, hF⟩ := vg_ok hF
  obtain ⟨m3, em3, hF⟩ := vm_ok hF
  obtain ⟨y4, ey4, hF⟩ := vv_ok hF
  have hG2 := gA_ok hg h5 eg2
  have hX2 := gA_X hg eg2
  exact gX2 hX2 (xX11_init_52 hF hG2)
set_option maxRecDepth 20000 in
theorem wX11_init_44 {p : Program} {l : Launch} {e : Env} {s : State} {mt : MethodId} {args : Array Value} {below : List Frame} {meth : Method} {c : Code} {Q : State → Prop} {G : Gl} {A : Nat → Prop} {H0 : Heap} {ad : Int → Nat} {g : Shp} {ad0 : Int → Nat} {g0 : Shp} {n0 t0 cells slots mc msl : Nat} (hnm : meth.name = "<init>") {H : Heap} {locs : List Loc} {ls : Array Slot} {m : Mem} {x0 z0 z1 : Int} (C : CallFix p mt c cX11_init 2 s args tb RX11) (S : Wd G A s H0 ad g m H locs) (hx0 : gk g x0 = 12) (hz0 : gk g z0 = 12) (hz1 : gk g z1 = 20) (hl : lv_has ls 2 [(0, .ref (ad x0))]) (hq : aX g0 ad0 ad ∧ gX g0 g) (hn : gn g = n0 + cells ∧ gs g = t0 + slots) {r : Int} {g' : Shp} {m' : Mem} (hF : bX11_init_44 x0 z0 z1 g m = some (r, g', m')) (he : gn g' ≤ n0 + mc ∧ gs g' ≤ t0 + msl) (Kr : ∀ (ad : Int → Nat) (H : Heap) (locs : List Loc) (pc : Nat) (ls : Array Slot) (cells slots : Nat), aX g0 ad0 ad → gn g' = n0 + cells ∧ gs g' = t0 + slots → Wd G A s H0 ad g' m' H locs → decode cX11_init pc = .ok (.return_, 1) → W p l e (rX11_init mc msl) s mt args below meth c H locs cells slots Q (F0 mt pc ls [])) : W p l e (rX11_init mc msl) s mt args below meth c H locs cells slots Q (F0 mt 44 ls [.ref (ad z1), .ref (ad z0)]) := by
  have hXx := xX11_init_44 hF S.g
  have hle : cells ≤ mc ∧ slots ≤ msl := by
    have h1 := hXx.1.1
    have h2 := hXx.1.2.1
    omega
  unfold bX11_init_44 at hF
  obtain ⟨m1, em1, hF⟩ := vm_ok hF
  refine q_put C S 7 fo_RX11_22 fp_12_7 (fun _ => ⟨hnm, rfl⟩) (j := 7) rfl hz0 (orf_ok S hz1 (by decide) rfl) rfl rfl (S.k hz1 (by decide)) (fun _ => kz hz1 (by decide)) em1 dX11_init_44 (fun H locs Sm1 => ?_)
  refine q_aload_n C hl 0 rfl rfl dX11_init_47 ?_
  refine q_bipush C 9 (by decide) dX11_init_48 ?_
  obtain ⟨h5, hF⟩ := ck_ok hF
  obtain ⟨g2, eg2, hF⟩ := vg_ok hF
  obtain ⟨m3, em3, hF⟩ := vm_ok hF
  obtain ⟨y4, ey4, hF⟩ := vv_ok hF
  have hG2 := gA_ok Sm1.g h5 eg2
  have hX2 := gA_X Sm1.g eg2
  have hN2 := gA_n eg2
  have hXr := (xX11_init_52 hF hG2).1
  refine q_newi C Sm1 rfl (Or.inl ⟨rfl, rfl, rfl⟩) tw113 h5 (by have h1 := hXr.1; have h2 := hXr.2.1; exact ⟨by show _ ≤ mc; omega, by show _ ≤ msl; omega⟩) eg2 em3 dX11_init_50 (fun ad6 H hax Sm3 => ?_)
  rw [← ey4]
  have ky4 := gA_k eg2 ey4
  have hq : aX g0 ad0 ad6 ∧ gX g0 g2 := ⟨hq.1.tr hq.2 hax, hq.2.tr hX2⟩
  have hn : gn g2 = n0 + (cells + 1) ∧ gs g2 = t0 + (slots + 9) := by omega
  have k7 := hX2.k hx0 (by decide)
  have ak7 : ad6 x0 = ad x0 := hax _ (kz hx0 (by decide))
  rw [← ak7] at hl
  rw [← ak7]
  exact wX11_init_52 hnm C Sm3 k7 k7 ky4 (lv_sub hl [0] rfl) hq hn hF he Kr
theorem xX11_init_37 {g : Shp} {m : Mem} {x0 z0 z1 : Int} {r : Int} {g' : Shp} {m' : Mem} (hF : bX11_init_37 x0 z0 z1 g m = some (r, g', m')) (hg : gOk g) : gX g g' ∧ gOk g' := by
  unfold bX11_init_37 at hF
  obtain ⟨m1, em1, hF⟩ := vm_ok hF
  obtain ⟨h5, hF⟩ := ck_ok hF
  obtain ⟨g2, eg2, hF⟩ := vg_ok hF
  obtain ⟨m3, em3, hF⟩ := vm_ok hF
  obtain ⟨y4, ey4, hF⟩ := vv_ok hF
  have hG2 := gA_ok hg h5 eg2
  have hX2 := gA_X hg eg2
  exact gX2 hX2 (xX11_init_44 hF hG2)
set_option maxRecDepth 20000 in
theorem wX11_init_37 {p : Program} {l : Launch} {e : Env} {s : State} {mt : MethodId} {args : Array Value} {below : List Frame} {meth : Method} {c : Code} {Q : State → Prop} {G : Gl} {A : Nat → Prop} {H0 : Heap} {ad : Int → Nat} {g : Shp} {ad0 : Int → Nat} {g0 : Shp} {n0 t0 cells slots mc msl : Nat} (hnm : meth.name = "<init>") {H : Heap} {locs : List Loc} {ls : Array Slot} {m : Mem} {x0 z0 z1 : Int} (C : CallFix p mt c cX11_init 2 s args tb RX11) (S : Wd G A s H0 ad g m H locs) (hx0 : gk g x0 = 12) (hz0 : gk g z0 = 12) (hz1 : gk g z1 = 20) (hl : lv_has ls 2 [(0, .ref (ad x0))]) (hq : aX g0 ad0 ad ∧ gX g0 g) (hn : gn g = n0 + cells ∧ gs g = t0 + slots) {r : Int} {g' : Shp} {m' : Mem} (hF : bX11_init_37 x0 z0 z1 g m = some (r, g', m')) (he : gn g' ≤ n0 + mc ∧ gs g' ≤ t0 + msl) (Kr : ∀ (ad : Int → Nat) (H : Heap) (locs : List Loc) (pc : Nat) (ls : Array Slot) (cells slots : Nat), aX g0 ad0 ad → gn g' = n0 + cells ∧ gs g' = t0 + slots → Wd G A s H0 ad g' m' H locs → decode cX11_init pc = .ok (.return_, 1) → W p l e (rX11_init mc msl) s mt args below meth c H locs cells slots Q (F0 mt pc ls [])) : W p l e (rX11_init mc msl) s mt args below meth c H locs cells slots Q (F0 mt 37 ls [.ref (ad z1), .ref (ad z0)]) := by
  have hXx := xX11_init_37 hF S.g
  have hle : cells ≤ mc ∧ slots ≤ msl := by
    have h1 := hXx.1.1
    have h2 := hXx.1.2.1
    omega
  unfold bX11_init_37 at hF
  obtain ⟨m1, em1, hF⟩ := vm_ok hF
  refine q_put C S 4 fo_RX11_19 fp_12_4 (fun _ => ⟨hnm, rfl⟩) (j := 4) rfl hz0 (orf_ok S hz1 (by decide) rfl) rfl rfl (S.k hz1 (by decide)) (fun _ => kz hz1 (by decide)) em1 dX11_init_37 (fun H locs Sm1 => ?_)
  refine q_aload_n C hl 0 rfl rfl dX11_init_40 ?_
  refine q_iconst C 3 dX11_init_41 ?_
  obtain ⟨h5, hF⟩ := ck_ok hF
  obtain ⟨g2, eg2, hF⟩ := vg_ok hF
  obtain ⟨m3, em3, hF⟩ := vm_ok hF
  obtain ⟨y4, ey4, hF⟩ := vv_ok hF
  have hG2 := gA_ok Sm1.g h5 eg2
  have hX2 := gA_X Sm1.g eg2
  have hN2 := gA_n eg2
  have hXr := (xX11_init_44 hF hG2).1
  refine q_newi C Sm1 rfl (Or.inl ⟨rfl, rfl, rfl⟩) tw113 h5 (by have h1 := hXr.1; have h2 := hXr.2.1; exact ⟨by show _ ≤ mc; omega, by show _ ≤ msl; omega⟩) eg2 em3 dX11_init_42 (fun ad6 H hax Sm3 => ?_)
  rw [← ey4]
  have ky4 := gA_k eg2 ey4
  have hq : aX g0 ad0 ad6 ∧ gX g0 g2 := ⟨hq.1.tr hq.2 hax, hq.2.tr hX2⟩
  have hn : gn g2 = n0 + (cells + 1) ∧ gs g2 = t0 + (slots + 3) := by omega
  have k7 := hX2.k hx0 (by decide)
  have ak7 : ad6 x0 = ad x0 := hax _ (kz hx0 (by decide))
  rw [← ak7] at hl
  rw [← ak7]
  exact wX11_init_44 hnm C Sm3 k7 k7 ky4 (lv_sub hl [0] rfl) hq hn hF he Kr
theorem xX11_init_28 {g : Shp} {m : Mem} {x0 z0 z1 : Int} {r : Int} {g' : Shp} {m' : Mem} (hF : bX11_init_28 x0 z0 z1 g m = some (r, g', m')) (hg : gOk g) : gX g g' ∧ gOk g' := by
  unfold bX11_init_28 at hF
  obtain ⟨m1, em1, hF⟩ := vm_ok hF
  obtain ⟨h5, hF⟩ := ck_ok hF
  obtain ⟨g2, eg2, hF⟩ := vg_ok hF
  obtain ⟨m3, em3, hF⟩ := vm_ok hF
  obtain ⟨y4, ey4, hF⟩ := vv_ok hF
  have hG2 := gA_ok hg h5 eg2
  have hX2 := gA_X hg eg2
  exact gX2 hX2 (xX11_init_37 hF hG2)
set_option maxRecDepth 20000 in
theorem wX11_init_28 {p : Program} {l : Launch} {e : Env} {s : State} {mt : MethodId} {args : Array Value} {below : List Frame} {meth : Method} {c : Code} {Q : State → Prop} {G : Gl} {A : Nat → Prop} {H0 : Heap} {ad : Int → Nat} {g : Shp} {ad0 : Int → Nat} {g0 : Shp} {n0 t0 cells slots mc msl : Nat} (hnm : meth.name = "<init>") {H : Heap} {locs : List Loc} {ls : Array Slot} {m : Mem} {x0 z0 z1 : Int} (C : CallFix p mt c cX11_init 2 s args tb RX11) (S : Wd G A s H0 ad g m H locs) (hx0 : gk g x0 = 12) (hz0 : gk g z0 = 12) (hz1 : gk g z1 = 20) (hl : lv_has ls 2 [(0, .ref (ad x0))]) (hq : aX g0 ad0 ad ∧ gX g0 g) (hn : gn g = n0 + cells ∧ gs g = t0 + slots) {r : Int} {g' : Shp} {m' : Mem} (hF : bX11_init_28 x0 z0 z1 g m = some (r, g', m')) (he : gn g' ≤ n0 + mc ∧ gs g' ≤ t0 + msl) (Kr : ∀ (ad : Int → Nat) (H : Heap) (locs : List Loc) (pc : Nat) (ls : Array Slot) (cells slots : Nat), aX g0 ad0 ad → gn g' = n0 + cells ∧ gs g' = t0 + slots → Wd G A s H0 ad g' m' H locs → decode cX11_init pc = .ok (.return_, 1) → W p l e (rX11_init mc msl) s mt args below meth c H locs cells slots Q (F0 mt pc ls [])) : W p l e (rX11_init mc msl) s mt args below meth c H locs cells slots Q (F0 mt 28 ls [.ref (ad z1), .ref (ad z0)]) := by
  have hXx := xX11_init_28 hF S.g
  have hle : cells ≤ mc ∧ slots ≤ msl := by
    have h1 := hXx.1.1
    have h2 := hXx.1.2.1
    omega
  unfold bX11_init_28 at hF
  obtain ⟨m1, em1, hF⟩ := vm_ok hF
  refine q_put C S 2 fo_RX11_16 fp_12_2 (fun _ => ⟨hnm, rfl⟩) (j := 2) rfl hz0 (orf_ok S hz1 (by decide) rfl) rfl rfl (S.k hz1 (by decide)) (fun _ => kz hz1 (by decide)) em1 dX11_init_28 (fun H locs Sm1 => ?_)
  refine q_aload_n C hl 0 rfl rfl dX11_init_31 ?_
  refine q_sipush C 200 (by decide) dX11_init_32 ?_
  obtain ⟨h5, hF⟩ := ck_ok hF
  obtain ⟨g2, eg2, hF⟩ := vg_ok hF
  obtain ⟨m3, em3, hF⟩ := vm_ok hF
  obtain ⟨y4, ey4, hF⟩ := vv_ok hF
  have hG2 := gA_ok Sm1.g h5 eg2
  have hX2 := gA_X Sm1.g eg2
  have hN2 := gA_n eg2
  have hXr := (xX11_init_37 hF hG2).1
  refine q_newi C Sm1 rfl (Or.inl ⟨rfl, rfl, rfl⟩) tw113 h5 (by have h1 := hXr.1; have h2 := hXr.2.1; exact ⟨by show _ ≤ mc; omega, by show _ ≤ msl; omega⟩) eg2 em3 dX11_init_35 (fun ad6 H hax Sm3 => ?_)
  rw [← ey4]
  have ky4 := gA_k eg2 ey4
  have hq : aX g0 ad0 ad6 ∧ gX g0 g2 := ⟨hq.1.tr hq.2 hax, hq.2.tr hX2⟩
  have hn : gn g2 = n0 + (cells + 1) ∧ gs g2 = t0 + (slots + 200) := by omega
  have k7 := hX2.k hx0 (by decide)
  have ak7 : ad6 x0 = ad x0 := hax _ (kz hx0 (by decide))
  rw [← ak7] at hl
  rw [← ak7]
  exact wX11_init_37 hnm C Sm3 k7 k7 ky4 (lv_sub hl [0] rfl) hq hn hF he Kr
theorem xX11_init_19 {g : Shp} {m : Mem} {x0 z0 z1 : Int} {r : Int} {g' : Shp} {m' : Mem} (hF : bX11_init_19 x0 z0 z1 g m = some (r, g', m')) (hg : gOk g) : gX g g' ∧ gOk g' := by
  unfold bX11_init_19 at hF
  obtain ⟨m1, em1, hF⟩ := vm_ok hF
  obtain ⟨h5, hF⟩ := ck_ok hF
  obtain ⟨g2, eg2, hF⟩ := vg_ok hF
  obtain ⟨m3, em3, hF⟩ := vm_ok hF
  obtain ⟨y4, ey4, hF⟩ := vv_ok hF
  have hG2 := gA_ok hg h5 eg2
  have hX2 := gA_X hg eg2
  exact gX2 hX2 (xX11_init_28 hF hG2)
set_option maxRecDepth 20000 in
theorem wX11_init_19 {p : Program} {l : Launch} {e : Env} {s : State} {mt : MethodId} {args : Array Value} {below : List Frame} {meth : Method} {c : Code} {Q : State → Prop} {G : Gl} {A : Nat → Prop} {H0 : Heap} {ad : Int → Nat} {g : Shp} {ad0 : Int → Nat} {g0 : Shp} {n0 t0 cells slots mc msl : Nat} (hnm : meth.name = "<init>") {H : Heap} {locs : List Loc} {ls : Array Slot} {m : Mem} {x0 z0 z1 : Int} (C : CallFix p mt c cX11_init 2 s args tb RX11) (S : Wd G A s H0 ad g m H locs) (hx0 : gk g x0 = 12) (hz0 : gk g z0 = 12) (hz1 : gk g z1 = 20) (hl : lv_has ls 2 [(0, .ref (ad x0))]) (hq : aX g0 ad0 ad ∧ gX g0 g) (hn : gn g = n0 + cells ∧ gs g = t0 + slots) {r : Int} {g' : Shp} {m' : Mem} (hF : bX11_init_19 x0 z0 z1 g m = some (r, g', m')) (he : gn g' ≤ n0 + mc ∧ gs g' ≤ t0 + msl) (Kr : ∀ (ad : Int → Nat) (H : Heap) (locs : List Loc) (pc : Nat) (ls : Array Slot) (cells slots : Nat), aX g0 ad0 ad → gn g' = n0 + cells ∧ gs g' = t0 + slots → Wd G A s H0 ad g' m' H locs → decode cX11_init pc = .ok (.return_, 1) → W p l e (rX11_init mc msl) s mt args below meth c H locs cells slots Q (F0 mt pc ls [])) : W p l e (rX11_init mc msl) s mt args below meth c H locs cells slots Q (F0 mt 19 ls [.ref (ad z1), .ref (ad z0)]) := by
  have hXx := xX11_init_19 hF S.g
  have hle : cells ≤ mc ∧ slots ≤ msl := by
    have h1 := hXx.1.1
    have h2 := hXx.1.2.1
    omega
  unfold bX11_init_19 at hF
  obtain ⟨m1, em1, hF⟩ := vm_ok hF
  refine q_put C S 1 fo_RX11_13 fp_12_1 (fun _ => ⟨hnm, rfl⟩) (j := 1) rfl hz0 (orf_ok S hz1 (by decide) rfl) rfl rfl (S.k hz1 (by decide)) (fun _ => kz hz1 (by decide)) em1 dX11_init_19 (fun H locs Sm1 => ?_)
  refine q_aload_n C hl 0 rfl rfl dX11_init_22 ?_
  refine q_sipush C 2598 (by decide) dX11_init_23 ?_
  obtain ⟨h5, hF⟩ := ck_ok hF
  obtain ⟨g2, eg2, hF⟩ := vg_ok hF
  obtain ⟨m3, em3, hF⟩ := vm_ok hF
  obtain ⟨y4, ey4, hF⟩ := vv_ok hF
  have hG2 := gA_ok Sm1.g h5 eg2
  have hX2 := gA_X Sm1.g eg2
  have hN2 := gA_n eg2
  have hXr := (xX11_init_28 hF hG2).1
  refine q_newi C Sm1 rfl (Or.inl ⟨rfl, rfl, rfl⟩) tw113 h5 (by have h1 := hXr.1; have h2 := hXr.2.1; exact ⟨by show _ ≤ mc; omega, by show _ ≤ msl; omega⟩) eg2 em3 dX11_init_26 (fun ad6 H hax Sm3 => ?_)
  rw [← ey4]
  have ky4 := gA_k eg2 ey4
  have hq : aX g0 ad0 ad6 ∧ gX g0 g2 := ⟨hq.1.tr hq.2 hax, hq.2.tr hX2⟩
  have hn : gn g2 = n0 + (cells + 1) ∧ gs g2 = t0 + (slots + 2598) := by omega
  have k7 := hX2.k hx0 (by decide)
  have ak7 : ad6 x0 = ad x0 := hax _ (kz hx0 (by decide))
  rw [← ak7] at hl
  rw [← ak7]
  exact wX11_init_28 hnm C Sm3 k7 k7 ky4 (lv_sub hl [0] rfl) hq hn hF he Kr
theorem xX11_init_10 {g : Shp} {m : Mem} {x0 z0 z1 : Int} {r : Int} {g' : Shp} {m' : Mem} (hF : bX11_init_10 x0 z0 z1 g m = some (r, g', m')) (hg : gOk g) : gX g g' ∧ gOk g' := by
  unfold bX11_init_10 at hF
  obtain ⟨m1, em1, hF⟩ := vm_ok hF
  obtain ⟨h5, hF⟩ := ck_ok hF
  obtain ⟨g2, eg2, hF⟩ := vg_ok hF
  obtain ⟨m3, em3, hF⟩ := vm_ok hF
  obtain ⟨y4, ey4, hF⟩ := vv_ok hF
  have hG2 := gA_ok hg h5 eg2
  have hX2 := gA_X hg eg2
  exact gX2 hX2 (xX11_init_19 hF hG2)
set_option maxRecDepth 20000 in
theorem wX11_init_10 {p : Program} {l : Launch} {e : Env} {s : State} {mt : MethodId} {args : Array Value} {below : List Frame} {meth : Method} {c : Code} {Q : State → Prop} {G : Gl} {A : Nat → Prop} {H0 : Heap} {ad : Int → Nat} {g : Shp} {ad0 : Int → Nat} {g0 : Shp} {n0 t0 cells slots mc msl : Nat} (hnm : meth.name = "<init>") {H : Heap} {locs : List Loc} {ls : Array Slot} {m : Mem} {x0 z0 z1 : Int} (C : CallFix p mt c cX11_init 2 s args tb RX11) (S : Wd G A s H0 ad g m H locs) (hx0 : gk g x0 = 12) (hz0 : gk g z0 = 12) (hz1 : gk g z1 = 20) (hl : lv_has ls 2 [(0, .ref (ad x0))]) (hq : aX g0 ad0 ad ∧ gX g0 g) (hn : gn g = n0 + cells ∧ gs g = t0 + slots) {r : Int} {g' : Shp} {m' : Mem} (hF : bX11_init_10 x0 z0 z1 g m = some (r, g', m')) (he : gn g' ≤ n0 + mc ∧ gs g' ≤ t0 + msl) (Kr : ∀ (ad : Int → Nat) (H : Heap) (locs : List Loc) (pc : Nat) (ls : Array Slot) (cells slots : Nat), aX g0 ad0 ad → gn g' = n0 + cells ∧ gs g' = t0 + slots → Wd G A s H0 ad g' m' H locs → decode cX11_init pc = .ok (.return_, 1) → W p l e (rX11_init mc msl) s mt args below meth c H locs cells slots Q (F0 mt pc ls [])) : W p l e (rX11_init mc msl) s mt args below meth c H locs cells slots Q (F0 mt 10 ls [.ref (ad z1), .ref (ad z0)]) := by
  have hXx := xX11_init_10 hF S.g
  have hle : cells ≤ mc ∧ slots ≤ msl := by
    have h1 := hXx.1.1
    have h2 := hXx.1.2.1
    omega
  unfold bX11_init_10 at hF
  obtain ⟨m1, em1, hF⟩ := vm_ok hF
  refine q_put C S 0 fo_RX11_7 fp_12_0 (fun _ => ⟨hnm, rfl⟩) (j := 0) rfl hz0 (orf_ok S hz1 (by decide) rfl) rfl rfl (S.k hz1 (by decide)) (fun _ => kz hz1 (by decide)) em1 dX11_init_10 (fun H locs Sm1 => ?_)
  refine q_aload_n C hl 0 rfl rfl dX11_init_13 ?_
  refine q_sipush C 433 (by decide) dX11_init_14 ?_
  obtain ⟨h5, hF⟩ := ck_ok hF
  obtain ⟨g2, eg2, hF⟩ := vg_ok hF
  obtain ⟨m3, em3, hF⟩ := vm_ok hF
  obtain ⟨y4, ey4, hF⟩ := vv_ok hF
  have hG2 := gA_ok Sm1.g h5 eg2
  have hX2 := gA_X Sm1.g eg2
  have hN2 := gA_n eg2
  have hXr := (xX11_init_19 hF hG2).1
  refine q_newi C Sm1 rfl (Or.inl ⟨rfl, rfl, rfl⟩) tw113 h5 (by have h1 := hXr.1; have h2 := hXr.2.1; exact ⟨by show _ ≤ mc; omega, by show _ ≤ msl; omega⟩) eg2 em3 dX11_init_17 (fun ad6 H hax Sm3 => ?_)
  rw [← ey4]
  have ky4 := gA_k eg2 ey4
  have hq : aX g0 ad0 ad6 ∧ gX g0 g2 := ⟨hq.1.tr hq.2 hax, hq.2.tr hX2⟩
  have hn : gn g2 = n0 + (cells + 1) ∧ gs g2 = t0 + (slots + 433) := by omega
  have k7 := hX2.k hx0 (by decide)
  have ak7 : ad6 x0 = ad x0 := hax _ (kz hx0 (by decide))
  rw [← ak7] at hl
  rw [← ak7]
  exact wX11_init_19 hnm C Sm3 k7 k7 ky4 (lv_sub hl [0] rfl) hq hn hF he Kr
theorem xX11_init_0 {g : Shp} {m : Mem} {x0 : Int} {r : Int} {g' : Shp} {m' : Mem} (hF : bX11_init_0 x0 g m = some (r, g', m')) (hg : gOk g) : gX g g' ∧ gOk g' := by
  unfold bX11_init_0 at hF
  obtain ⟨h4, hF⟩ := ck_ok hF
  obtain ⟨g1, eg1, hF⟩ := vg_ok hF
  obtain ⟨m2, em2, hF⟩ := vm_ok hF
  obtain ⟨y3, ey3, hF⟩ := vv_ok hF
  have hG2 := gA_ok hg h4 eg1
  have hX2 := gA_X hg eg1
  exact gX2 hX2 (xX11_init_10 hF hG2)
set_option maxRecDepth 20000 in
theorem wX11_init_0 {p : Program} {l : Launch} {e : Env} {s : State} {mt : MethodId} {args : Array Value} {below : List Frame} {meth : Method} {c : Code} {Q : State → Prop} {G : Gl} {A : Nat → Prop} {H0 : Heap} {ad : Int → Nat} {g : Shp} {ad0 : Int → Nat} {g0 : Shp} {n0 t0 cells slots mc msl : Nat} (hnm : meth.name = "<init>") {H : Heap} {locs : List Loc} {ls : Array Slot} {m : Mem} {x0 : Int} (C : CallFix p mt c cX11_init 2 s args tb RX11) (S : Wd G A s H0 ad g m H locs) (hx0 : gk g x0 = 12) (hl : lv_has ls 2 [(0, .ref (ad x0))]) (hq : aX g0 ad0 ad ∧ gX g0 g) (hn : gn g = n0 + cells ∧ gs g = t0 + slots) {r : Int} {g' : Shp} {m' : Mem} (hF : bX11_init_0 x0 g m = some (r, g', m')) (he : gn g' ≤ n0 + mc ∧ gs g' ≤ t0 + msl) (Kr : ∀ (ad : Int → Nat) (H : Heap) (locs : List Loc) (pc : Nat) (ls : Array Slot) (cells slots : Nat), aX g0 ad0 ad → gn g' = n0 + cells ∧ gs g' = t0 + slots → Wd G A s H0 ad g' m' H locs → decode cX11_init pc = .ok (.return_, 1) → W p l e (rX11_init mc msl) s mt args below meth c H locs cells slots Q (F0 mt pc ls [])) : W p l e (rX11_init mc msl) s mt args below meth c H locs cells slots Q (F0 mt 0 ls []) := by
  have hXx := xX11_init_0 hF S.g
  have hle : cells ≤ mc ∧ slots ≤ msl := by
    have h1 := hXx.1.1
    have h2 := hXx.1.2.1
    omega
  unfold bX11_init_0 at hF
  refine q_aload_n C hl 0 rfl rfl dX11_init_0 ?_
  refine q_oinit C tw859 tw90 tw91 hl.1 (Nat.le_of_ble_eq_true rfl) (Nat.le_of_ble_eq_true rfl) dX11_init_1 ?_
  refine q_aload_n C hl 0 rfl rfl dX11_init_4 ?_
  refine q_sipush C 433 (by decide) dX11_init_5 ?_
  obtain ⟨h4, hF⟩ := ck_ok hF
  obtain ⟨g1, eg1, hF⟩ := vg_ok hF
  obtain ⟨m2, em2, hF⟩ := vm_ok hF
  obtain ⟨y3, ey3, hF⟩ := vv_ok hF
  have hG2 := gA_ok S.g h4 eg1
  have hX2 := gA_X S.g eg1
  have hN2 := gA_n eg1
  have hXr := (xX11_init_10 hF hG2).1
  refine q_newi C S rfl (Or.inl ⟨rfl, rfl, rfl⟩) tw113 h4 (by have h1 := hXr.1; have h2 := hXr.2.1; exact ⟨by show _ ≤ mc; omega, by show _ ≤ msl; omega⟩) eg1 em2 dX11_init_8 (fun ad5 H hax Sm2 => ?_)
  rw [← ey3]
  have ky3 := gA_k eg1 ey3
  have hq : aX g0 ad0 ad5 ∧ gX g0 g1 := ⟨hq.1.tr hq.2 hax, hq.2.tr hX2⟩
  have hn : gn g1 = n0 + (cells + 1) ∧ gs g1 = t0 + (slots + 433) := by omega
  have k6 := hX2.k hx0 (by decide)
  have ak6 : ad5 x0 = ad x0 := hax _ (kz hx0 (by decide))
  rw [← ak6] at hl
  rw [← ak6]
  exact wX11_init_10 hnm C Sm2 k6 k6 ky3 (lv_sub hl [0] rfl) hq hn hF he Kr
theorem xX11_init_f {x0 : Int} {g : Shp} {m : Mem} {r : Int} {g' : Shp} {m' : Mem} (hF : fX11_init x0 g m = some (r, g', m')) (hg : gOk g) : gX g g' ∧ gOk g' := xX11_init_0 hF hg
theorem cX11_init_ok (l : Launch) (G : Gl) {x0 : Int} {g : Shp} {m : Mem} {r : Int} {g' : Shp} {m' : Mem} (hx0 : gk g x0 = 12) (hF : fX11_init x0 g m = some (r, g', m')) : mVA l yX11_init (wT yX11_init cX11_init 2 none) rX11_init G (fun ad => [.ref (ad x0)]) g m g' m' :=
  met_vA (rm := rX11_init) (by decide) (fun ad => Nat.le_of_ble_eq_true rfl) (fun hg => (xX11_init_f hF hg).1) (fun p e s mt args below meth c Q A H0 H locs ad ls mc msl hmc hms C hnm S hl Kr => wX11_init_0 (n0 := gn g) (t0 := gs g) hnm C S hx0 hl ⟨fun _ _ => rfl, gX.rf _⟩ ⟨rfl, rfl⟩ hF (by have h9 := (xX11_init_f hF S.g).1; have h1 := h9.1; have h2 := h9.2.1; omega) Kr)
