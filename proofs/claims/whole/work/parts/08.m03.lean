def bX11_way_21 (g : Shp) (m : Mem) : Option (Int × Mem) :=
  some ((-1), m)
def bX11_way_66 (g : Shp) (z0 : Int) (m : Mem) : Option (Int × Mem) :=
  some (z0, m)
def bX11_way_121 (g : Shp) (z0 z1 : Int) (m : Mem) : Option (Int × Mem) :=
  some (w32 (z0 + z1), m)
def bX11_way_0 (g : Shp) (x0 x1 x2 x3 : Int) (m : Mem) : Option (Int × Mem) :=
  bd2 (fX11_isLine g x0 x1 m) fun v1 m2 =>
  if v1 = 0 then
    bX11_way_21 g m2
  else
    bd2 (fX11_isColour g x2 m2) fun v6 m7 =>
    if v6 = 0 then
      bX11_way_21 g m7
    else
      if ((-2)) ≤ x3 then
        bd2 (fX11_isCovered g x0 x1 m7) fun v12 m13 =>
        if v12 = 0 then
          bd2 (fX11_findWay g x0 x1 x2 m13) fun v17 m18 =>
          if v17 = 0 then
            some ((-4), m18)
          else
            if 0 ≤ x3 then
              if x3 < (m18 x0 35) then
                ck (gk g (m18 x0 32) = 20) <|
                ck ((0 : Int) ≤ x3 ∧ x3 < gl g (m18 x0 32)) <|
                ck (gk g (m18 x0 33) = 20) <|
                ck ((0 : Int) ≤ x3 ∧ x3 < gl g (m18 x0 33)) <|
                ck ((0 : Int) ≤ x3 ∧ x3 < gl g (m18 x0 32)) <|
                ck (gk g (m18 x0 19) = 20) <|
                ck ((0 : Int) ≤ x3 ∧ x3 < gl g (m18 x0 33)) <|
                ck ((0 : Int) ≤ (m18 (m18 x0 33) x3) ∧ (m18 (m18 x0 33) x3) < gl g (m18 x0 19)) <|
                if (m18 (m18 x0 19) (m18 (m18 x0 33) x3)) ≤ (m18 (m18 x0 32) x3) then
                  bX11_way_121 g (w32 ((w32 (20 * (m18 (m18 x0 32) x3))) + (w32 (2 * (m18 (m18 x0 33) x3))))) 0 m18
                else
                  bX11_way_121 g (w32 ((w32 (20 * (m18 (m18 x0 32) x3))) + (w32 (2 * (m18 (m18 x0 33) x3))))) 1 m18
              else
                some ((-4), m18)
            else
              if x3 = ((-1)) then
                bX11_way_66 g (m18 x0 36) m18
              else
                bX11_way_66 g (m18 x0 35) m18
        else
          some ((-2), m13)
      else
        bX11_way_21 g m7
def fX11_way (g : Shp) (x0 x1 x2 x3 : Int) (m : Mem) : Option (Int × Mem) := bX11_way_0 g x0 x1 x2 x3 m
def bX11_best_62 (g : Shp) (x0 x1 x2 x3 x4 : Int) (m : Mem) : Option (Int × (Int × Int × Int × Mem)) :=
  vv (w32 (x4 + 1)) fun y1 =>
  some (0, (x2, x3, y1, m))
def bX11_best_30 (g : Shp) (x0 x1 x2 x3 x4 : Int) (m : Mem) : Option (Int × (Int × Int × Int × Mem)) :=
  if 3 ≤ x4 then
    some (1, (x2, x3, x4, m))
  else
    bd2 (fX11_findWay g x0 x1 x4 m) fun v2 m3 =>
    if v2 = 0 then
      bX11_best_62 g x0 x1 x2 x3 x4 m3
    else
      if x3 ≤ (m3 x0 36) then
        bX11_best_62 g x0 x1 x2 x3 x4 m3
      else
        vv (m3 x0 36) fun y8 =>
        bX11_best_62 g x0 x1 x4 y8 x4 m3
def BX11_best_30 (g : Shp) (x0 x1 : Int) (q : (Int × Int × Int × Mem)) : Option (Int × (Int × Int × Int × Mem)) := bX11_best_30 g x0 x1 q.1 q.2.1 q.2.2.1 q.2.2.2
def bX11_best_68 (g : Shp) (x2 : Int) (m : Mem) : Option (Int × Mem) :=
  some (x2, m)
def bX11_best_0 (g : Shp) (x0 x1 : Int) (m : Mem) : Option (Int × Mem) :=
  bd2 (fX11_isLine g x0 x1 m) fun v1 m2 =>
  if v1 = 0 then
    some ((-1), m2)
  else
    bd2 (fX11_isCovered g x0 x1 m2) fun v6 m7 =>
    if v6 = 0 then
      bdl (iter (BX11_best_30 g x0 x1) 100000 ((-4), 1000000, 0, m7)) fun cv11 sv12 =>
      bX11_best_68 g sv12.1 sv12.2.2.2
    else
      some ((-2), m7)
def fX11_best (g : Shp) (x0 x1 : Int) (m : Mem) : Option (Int × Mem) := bX11_best_0 g x0 x1 m
def bX11_coverBy_136 (g : Shp) (x0 x1 x2 x3 z0 z1 z2 z3 : Int) (m : Mem) : Option (Int × (Int × Mem)) :=
  ck ((0 : Int) ≤ z1 ∧ z1 < gl g z0) <|
  vm (ms m z0 z1 (w32 (z2 + z3))) fun m2 =>
  vv (w32 (x3 + 1)) fun y3 =>
  some (0, (y3, m2))
def bX11_coverBy_109 (g : Shp) (x0 x1 x2 x3 x6 z0 z1 z2 z3 : Int) (m : Mem) : Option (Int × (Int × Mem)) :=
  ck ((0 : Int) ≤ z1 ∧ z1 < gl g z0) <|
  vm (ms m z0 z1 (w32 (z2 + z3))) fun m2 =>
  ck (gk g (m2 x0 0) = 20) <|
  ck ((0 : Int) ≤ (w32 (28 + x1)) ∧ (w32 (28 + x1)) < gl g (m2 x0 0)) <|
  if x6 = 0 then
    ck (gk g (m2 x0 32) = 20) <|
    ck ((0 : Int) ≤ x3 ∧ x3 < gl g (m2 x0 32)) <|
    bX11_coverBy_136 g x0 x1 x2 x3 (m2 x0 0) (w32 (28 + x1)) (m2 (m2 x0 0) (w32 (28 + x1))) (m2 (m2 x0 32) x3) m2
  else
    bX11_coverBy_136 g x0 x1 x2 x3 (m2 x0 0) (w32 (28 + x1)) (m2 (m2 x0 0) (w32 (28 + x1))) 0 m2
def bX11_coverBy_53 (g : Shp) (x0 x1 x2 x3 x4 x5 z0 : Int) (m : Mem) : Option (Int × (Int × Mem)) :=
  ck (gk g (m x0 0) = 20) <|
  ck ((0 : Int) ≤ (w32 ((w32 (1 + (w32 (3 * x2)))) + x4)) ∧ (w32 ((w32 (1 + (w32 (3 * x2)))) + x4)) < gl g (m x0 0)) <|
  ck ((0 : Int) ≤ (w32 ((w32 (1 + (w32 (3 * x2)))) + x4)) ∧ (w32 ((w32 (1 + (w32 (3 * x2)))) + x4)) < gl g (m x0 0)) <|
  vm (ms m (m x0 0) (w32 ((w32 (1 + (w32 (3 * x2)))) + x4)) (w32 ((m (m x0 0) (w32 ((w32 (1 + (w32 (3 * x2)))) + x4))) - 1))) fun m4 =>
  ck (gk g (m4 x0 0) = 20) <|
  ck ((0 : Int) ≤ 32 ∧ 32 < gl g (m4 x0 0)) <|
  ck ((0 : Int) ≤ 32 ∧ 32 < gl g (m4 x0 0)) <|
  vm (ms m4 (m4 x0 0) 32 (w32 ((m4 (m4 x0 0) 32) + x5))) fun m8 =>
  ck (gk g (m8 x0 0) = 20) <|
  ck ((0 : Int) ≤ (w32 ((w32 (19 + (w32 (3 * x1)))) + x4)) ∧ (w32 ((w32 (19 + (w32 (3 * x1)))) + x4)) < gl g (m8 x0 0)) <|
  if z0 = 0 then
    bX11_coverBy_109 g x0 x1 x2 x3 z0 (m8 x0 0) (w32 ((w32 (19 + (w32 (3 * x1)))) + x4)) (m8 (m8 x0 0) (w32 ((w32 (19 + (w32 (3 * x1)))) + x4))) 0 m8
  else
    bX11_coverBy_109 g x0 x1 x2 x3 z0 (m8 x0 0) (w32 ((w32 (19 + (w32 (3 * x1)))) + x4)) (m8 (m8 x0 0) (w32 ((w32 (19 + (w32 (3 * x1)))) + x4))) 1 m8
def bX11_coverBy_52 (g : Shp) (x0 x1 x2 x3 x4 x5 : Int) (m : Mem) : Option (Int × (Int × Mem)) :=
  bX11_coverBy_53 g x0 x1 x2 x3 x4 x5 0 m
def bX11_coverBy_2 (g : Shp) (x0 x1 x2 x3 : Int) (m : Mem) : Option (Int × (Int × Mem)) :=
  if (m x0 35) ≤ x3 then
    some (1, (x3, m))
  else
    ck (gk g (m x0 33) = 20) <|
    ck ((0 : Int) ≤ x3 ∧ x3 < gl g (m x0 33)) <|
    vv (m (m x0 33) x3) fun y4 =>
    ck (gk g (m x0 19) = 20) <|
    ck ((0 : Int) ≤ y4 ∧ y4 < gl g (m x0 19)) <|
    ck (gk g (m x0 32) = 20) <|
    ck ((0 : Int) ≤ x3 ∧ x3 < gl g (m x0 32)) <|
    vv (w32 ((m (m x0 19) y4) - (m (m x0 32) x3))) fun y9 =>
    if y9 = 0 then
      ck (gk g (m x0 34) = 21) <|
      ck ((0 : Int) ≤ x3 ∧ x3 < gl g (m x0 34)) <|
      if (m (m x0 34) x3) = 0 then
        bX11_coverBy_53 g x0 x1 x2 x3 y4 y9 1 m
      else
        bX11_coverBy_52 g x0 x1 x2 x3 y4 y9 m
    else
      bX11_coverBy_52 g x0 x1 x2 x3 y4 y9 m
def BX11_coverBy_2 (g : Shp) (x0 x1 x2 : Int) (q : (Int × Mem)) : Option (Int × (Int × Mem)) := bX11_coverBy_2 g x0 x1 x2 q.1 q.2
def bX11_coverBy_251 (g : Shp) (x0 x1 x3 z0 z1 z2 : Int) (m : Mem) : Option (Int × (Int × Mem)) :=
  ck ((0 : Int) ≤ z1 ∧ z1 < gl g z0) <|
  vm (ms m z0 z1 z2) fun m2 =>
  vv (w32 (x3 + 1)) fun y3 =>
  some (0, (y3, m2))
def bX11_coverBy_196 (g : Shp) (x0 x1 x3 : Int) (m : Mem) : Option (Int × (Int × Mem)) :=
  ck (gk g (m x0 23) = 20) <|
  ck ((0 : Int) ≤ x1 ∧ x1 < gl g (m x0 23)) <|
  if (m (m x0 23) x1) ≤ x3 then
    some (1, (x3, m))
  else
    ck (gk g (m x0 24) = 20) <|
    ck ((0 : Int) ≤ (w32 ((w32 (60 * x1)) + x3)) ∧ (w32 ((w32 (60 * x1)) + x3)) < gl g (m x0 24)) <|
    vv (w32 (33 + (m (m x0 24) (w32 ((w32 (60 * x1)) + x3))))) fun y6 =>
    ck (gk g (m x0 0) = 20) <|
    ck ((0 : Int) ≤ y6 ∧ y6 < gl g (m x0 0)) <|
    if (m (m x0 0) y6) = ((-4)) then
      bX11_coverBy_251 g x0 x1 x3 (m x0 0) y6 x1 m
    else
      ck ((0 : Int) ≤ y6 ∧ y6 < gl g (m x0 0)) <|
      bX11_coverBy_251 g x0 x1 x3 (m x0 0) y6 (m (m x0 0) y6) m
def BX11_coverBy_196 (g : Shp) (x0 x1 : Int) (q : (Int × Mem)) : Option (Int × (Int × Mem)) := bX11_coverBy_196 g x0 x1 q.1 q.2
def bX11_coverBy_258 (g : Shp) (m : Mem) : Option (Int × Mem) :=
  some (0, m)
def bX11_coverBy_144 (g : Shp) (x0 x1 x2 : Int) (m : Mem) : Option (Int × Mem) :=
  ck (gk g (m x0 0) = 20) <|
  ck ((0 : Int) ≤ (w32 (10 + x1)) ∧ (w32 (10 + x1)) < gl g (m x0 0)) <|
  vm (ms m (m x0 0) (w32 (10 + x1)) x2) fun m3 =>
  ck (gk g (m3 x0 0) = 20) <|
  ck ((0 : Int) ≤ (w32 (13 + x1)) ∧ (w32 (13 + x1)) < gl g (m3 x0 0)) <|
  vm (ms m3 (m3 x0 0) (w32 (13 + x1)) (m3 x0 35)) fun m6 =>
  ck (gk g (m6 x0 0) = 20) <|
  ck ((0 : Int) ≤ (w32 (16 + x1)) ∧ (w32 (16 + x1)) < gl g (m6 x0 0)) <|
  vm (ms m6 (m6 x0 0) (w32 (16 + x1)) (m6 x0 36)) fun m9 =>
  ck (gk g (m9 x0 0) = 20) <|
  ck ((0 : Int) ≤ 31 ∧ 31 < gl g (m9 x0 0)) <|
  ck ((0 : Int) ≤ 31 ∧ 31 < gl g (m9 x0 0)) <|
  vm (ms m9 (m9 x0 0) 31 (w32 ((m9 (m9 x0 0) 31) + (m9 x0 36)))) fun m13 =>
  bdl (iter (BX11_coverBy_196 g x0 x1) 100000 (0, m13)) fun cv14 sv15 =>
  bX11_coverBy_258 g sv15.2
def bX11_coverBy_0 (g : Shp) (x0 x1 x2 : Int) (m : Mem) : Option (Int × Mem) :=
  bdl (iter (BX11_coverBy_2 g x0 x1 x2) 100000 (0, m)) fun cv1 sv2 =>
  bX11_coverBy_144 g x0 x1 x2 sv2.2
def fX11_coverBy (g : Shp) (x0 x1 x2 : Int) (m : Mem) : Option (Int × Mem) := bX11_coverBy_0 g x0 x1 x2 m
def bX11_cover_15 (g : Shp) (m : Mem) : Option (Int × Mem) :=
  some ((-1), m)
def bX11_cover_0 (g : Shp) (x0 x1 x2 : Int) (m : Mem) : Option (Int × Mem) :=
  bd2 (fX11_isLine g x0 x1 m) fun v1 m2 =>
  if v1 = 0 then
    bX11_cover_15 g m2
  else
    bd2 (fX11_isColour g x2 m2) fun v6 m7 =>
    if v6 = 0 then
      bX11_cover_15 g m7
    else
      bd2 (fX11_isCovered g x0 x1 m7) fun v11 m12 =>
      if v11 = 0 then
        bd2 (fX11_findWay g x0 x1 x2 m12) fun v16 m17 =>
        if v16 = 0 then
          some ((-4), m17)
        else
          bd2 (fX11_note g x0 m17) fun v21 m22 =>
          bd2 (fX11_coverBy g x0 x1 x2 m22) fun v24 m25 =>
          some (m25 x0 36, m25)
      else
        some ((-2), m12)
def fX11_cover (g : Shp) (x0 x1 x2 : Int) (m : Mem) : Option (Int × Mem) := bX11_cover_0 g x0 x1 x2 m
def bX11_takeUp_96 (g : Shp) (x0 x1 x2 x3 x4 x5 z0 : Int) (m : Mem) : Option (Int × (Int × Int × Mem)) :=
  ck (gk g (m x0 0) = 20) <|
  ck ((0 : Int) ≤ x4 ∧ x4 < gl g (m x0 0)) <|
  ck ((0 : Int) ≤ x4 ∧ x4 < gl g (m x0 0)) <|
  vm (ms m (m x0 0) x4 (w32 ((m (m x0 0) x4) + z0))) fun m4 =>
  vv (w32 (x2 + z0)) fun y5 =>
  ck (gk g (m4 x0 0) = 20) <|
  ck ((0 : Int) ≤ 32 ∧ 32 < gl g (m4 x0 0)) <|
  ck (gk g (m4 x0 19) = 20) <|
  ck ((0 : Int) ≤ x3 ∧ x3 < gl g (m4 x0 19)) <|
  ck ((0 : Int) ≤ 32 ∧ 32 < gl g (m4 x0 0)) <|
  vm (ms m4 (m4 x0 0) 32 (w32 ((m4 (m4 x0 0) 32) + (w32 ((m4 (m4 x0 19) x3) * (w32 (x5 - z0))))))) fun m11 =>
  ck (gk g (m11 x0 0) = 20) <|
  ck ((0 : Int) ≤ (w32 ((w32 (19 + (w32 (3 * x1)))) + x3)) ∧ (w32 ((w32 (19 + (w32 (3 * x1)))) + x3)) < gl g (m11 x0 0)) <|
  vm (ms m11 (m11 x0 0) (w32 ((w32 (19 + (w32 (3 * x1)))) + x3)) 0) fun m14 =>
  vv (w32 (x3 + 1)) fun y15 =>
  some (0, (y5, y15, m14))
def bX11_takeUp_29 (g : Shp) (x0 x1 x2 x3 : Int) (m : Mem) : Option (Int × (Int × Int × Mem)) :=
  if 3 ≤ x3 then
    some (1, (x2, x3, m))
  else
    ck (gk g (m x0 0) = 20) <|
    ck ((0 : Int) ≤ (w32 (10 + x1)) ∧ (w32 (10 + x1)) < gl g (m x0 0)) <|
    vv (w32 ((w32 (1 + (w32 (3 * (m (m x0 0) (w32 (10 + x1))))))) + x3)) fun y4 =>
    ck ((0 : Int) ≤ (w32 ((w32 (19 + (w32 (3 * x1)))) + x3)) ∧ (w32 ((w32 (19 + (w32 (3 * x1)))) + x3)) < gl g (m x0 0)) <|
    vv (m (m x0 0) (w32 ((w32 (19 + (w32 (3 * x1)))) + x3))) fun y6 =>
    ck ((0 : Int) ≤ y4 ∧ y4 < gl g (m x0 0)) <|
    if (w32 (6 - (m (m x0 0) y4))) ≤ y6 then
      ck ((0 : Int) ≤ y4 ∧ y4 < gl g (m x0 0)) <|
      bX11_takeUp_96 g x0 x1 x2 x3 y4 y6 (w32 (6 - (m (m x0 0) y4))) m
    else
      bX11_takeUp_96 g x0 x1 x2 x3 y4 y6 y6 m
def BX11_takeUp_29 (g : Shp) (x0 x1 : Int) (q : (Int × Int × Mem)) : Option (Int × (Int × Int × Mem)) := bX11_takeUp_29 g x0 x1 q.1 q.2.1 q.2.2
def bX11_takeUp_253 (g : Shp) (x0 x1 x2 x3 z0 z1 z2 : Int) (m : Mem) : Option (Int × (Int × Mem)) :=
  ck ((0 : Int) ≤ z1 ∧ z1 < gl g z0) <|
  vm (ms m z0 z1 z2) fun m2 =>
  vv (w32 (x3 + 1)) fun y3 =>
  some (0, (y3, m2))
def bX11_takeUp_220 (g : Shp) (x0 x1 x2 x3 : Int) (m : Mem) : Option (Int × (Int × Mem)) :=
  if 433 ≤ x3 then
    some (1, (x3, m))
  else
    ck (gk g (m x0 0) = 20) <|
    ck ((0 : Int) ≤ x3 ∧ x3 < gl g (m x0 0)) <|
    if (m (m x0 0) x3) = x1 then
      bX11_takeUp_253 g x0 x1 x2 x3 (m x0 0) x3 ((-4)) m
    else
      ck ((0 : Int) ≤ x3 ∧ x3 < gl g (m x0 0)) <|
      bX11_takeUp_253 g x0 x1 x2 x3 (m x0 0) x3 (m (m x0 0) x3) m
def BX11_takeUp_220 (g : Shp) (x0 x1 x2 : Int) (q : (Int × Mem)) : Option (Int × (Int × Mem)) := bX11_takeUp_220 g x0 x1 x2 q.1 q.2
def bX11_takeUp_260 (g : Shp) (x2 : Int) (m : Mem) : Option (Int × Mem) :=
  some (x2, m)
def bX11_takeUp_157 (g : Shp) (x0 x1 x2 : Int) (m : Mem) : Option (Int × Mem) :=
  ck (gk g (m x0 0) = 20) <|
  ck ((0 : Int) ≤ 32 ∧ 32 < gl g (m x0 0)) <|
  ck ((0 : Int) ≤ (w32 (28 + x1)) ∧ (w32 (28 + x1)) < gl g (m x0 0)) <|
  ck ((0 : Int) ≤ 32 ∧ 32 < gl g (m x0 0)) <|
  vm (ms m (m x0 0) 32 (w32 ((m (m x0 0) 32) + (m (m x0 0) (w32 (28 + x1)))))) fun m5 =>
  ck (gk g (m5 x0 0) = 20) <|
  ck ((0 : Int) ≤ (w32 (28 + x1)) ∧ (w32 (28 + x1)) < gl g (m5 x0 0)) <|
  vm (ms m5 (m5 x0 0) (w32 (28 + x1)) 0) fun m8 =>
  ck (gk g (m8 x0 0) = 20) <|
  ck ((0 : Int) ≤ (w32 (13 + x1)) ∧ (w32 (13 + x1)) < gl g (m8 x0 0)) <|
  vm (ms m8 (m8 x0 0) (w32 (13 + x1)) 0) fun m11 =>
  ck (gk g (m11 x0 0) = 20) <|
  ck ((0 : Int) ≤ (w32 (16 + x1)) ∧ (w32 (16 + x1)) < gl g (m11 x0 0)) <|
  vm (ms m11 (m11 x0 0) (w32 (16 + x1)) 0) fun m14 =>
  ck (gk g (m14 x0 0) = 20) <|
  ck ((0 : Int) ≤ (w32 (10 + x1)) ∧ (w32 (10 + x1)) < gl g (m14 x0 0)) <|
  vm (ms m14 (m14 x0 0) (w32 (10 + x1)) ((-4))) fun m17 =>
  bdl (iter (BX11_takeUp_220 g x0 x1 x2) 100000 (33, m17)) fun cv18 sv19 =>
  bX11_takeUp_260 g x2 sv19.2
def bX11_takeUp_0 (g : Shp) (x0 x1 : Int) (m : Mem) : Option (Int × Mem) :=
  bd2 (fX11_isLine g x0 x1 m) fun v1 m2 =>
  if v1 = 0 then
    some ((-1), m2)
  else
    bd2 (fX11_isCovered g x0 x1 m2) fun v6 m7 =>
    if v6 = 0 then
      some ((-2), m7)
    else
      bd2 (fX11_note g x0 m7) fun v11 m12 =>
      bdl (iter (BX11_takeUp_29 g x0 x1) 100000 (0, 0, m12)) fun cv14 sv15 =>
      bX11_takeUp_157 g x0 x1 sv15.1 sv15.2.2
def fX11_takeUp (g : Shp) (x0 x1 : Int) (m : Mem) : Option (Int × Mem) := bX11_takeUp_0 g x0 x1 m
def bX11_isTurns_101 (g : Shp) (x0 x1 x3 x4 z0 : Int) (m : Mem) : Option (Int × (Int × Int × Mem)) :=
  vv (w32 (x4 + 1)) fun y1 =>
  some (0, (z0, y1, m))
def bX11_isTurns_100 (g : Shp) (x0 x1 x3 x4 : Int) (m : Mem) : Option (Int × (Int × Int × Mem)) :=
  bX11_isTurns_101 g x0 x1 x3 x4 0 m
def bX11_isTurns_65 (g : Shp) (x0 x1 x2 x3 x4 : Int) (m : Mem) : Option (Int × (Int × Int × Mem)) :=
  if x3 ≤ x4 then
    some (1, (x2, x4, m))
  else
    if x1 ≤ x3 then
      some (1, (x2, x4, m))
    else
      if x2 = 0 then
        bX11_isTurns_100 g x0 x1 x3 x4 m
      else
        ck (gk g (m x0 38) = 20) <|
        ck ((0 : Int) ≤ x4 ∧ x4 < gl g (m x0 38)) <|
        ck ((0 : Int) ≤ x3 ∧ x3 < gl g (m x0 38)) <|
        if (m (m x0 38) x4) = (m (m x0 38) x3) then
          bX11_isTurns_100 g x0 x1 x3 x4 m
        else
          bX11_isTurns_101 g x0 x1 x3 x4 1 m
def BX11_isTurns_65 (g : Shp) (x0 x1 x3 : Int) (q : (Int × Int × Mem)) : Option (Int × (Int × Int × Mem)) := bX11_isTurns_65 g x0 x1 q.1 x3 q.2.1 q.2.2
def bX11_isTurns_108 (g : Shp) (x0 x1 x2 x3 : Int) (m : Mem) : Option (Int × (Int × Int × Mem)) :=
  vv (w32 (x3 + 1)) fun y1 =>
  some (0, (x2, y1, m))
def bX11_isTurns_61 (g : Shp) (x0 x1 x3 z0 : Int) (m : Mem) : Option (Int × (Int × Int × Mem)) :=
  bdl (iter (BX11_isTurns_65 g x0 x1 x3) 100000 (z0, 0, m)) fun cv1 sv2 =>
  bX11_isTurns_108 g x0 x1 sv2.1 x3 sv2.2.2
def bX11_isTurns_56 (g : Shp) (x0 x1 x3 : Int) (m : Mem) : Option (Int × (Int × Int × Mem)) :=
  bX11_isTurns_61 g x0 x1 x3 1 m
def bX11_isTurns_60 (g : Shp) (x0 x1 x3 : Int) (m : Mem) : Option (Int × (Int × Int × Mem)) :=
  bX11_isTurns_61 g x0 x1 x3 0 m
def bX11_isTurns_4 (g : Shp) (x0 x1 x2 x3 : Int) (m : Mem) : Option (Int × (Int × Int × Mem)) :=
  if 3 ≤ x3 then
    some (1, (x2, x3, m))
  else
    if x2 = 0 then
      bX11_isTurns_60 g x0 x1 x3 m
    else
      if x1 ≤ x3 then
        ck (gk g (m x0 38) = 20) <|
        ck ((0 : Int) ≤ x3 ∧ x3 < gl g (m x0 38)) <|
        if (m (m x0 38) x3) = 0 then
          bX11_isTurns_56 g x0 x1 x3 m
        else
          bX11_isTurns_60 g x0 x1 x3 m
      else
        ck (gk g (m x0 38) = 20) <|
        ck ((0 : Int) ≤ x3 ∧ x3 < gl g (m x0 38)) <|
        bd2 (fX11_isLine g x0 (m (m x0 38) x3) m) fun v9 m10 =>
        if v9 = 0 then
          bX11_isTurns_60 g x0 x1 x3 m10
        else
          ck (gk g (m10 x0 38) = 20) <|
          ck ((0 : Int) ≤ x3 ∧ x3 < gl g (m10 x0 38)) <|
          bd2 (fX11_isCovered g x0 (m10 (m10 x0 38) x3) m10) fun v16 m17 =>
          if v16 = 0 then
            bX11_isTurns_56 g x0 x1 x3 m17
          else
            bX11_isTurns_60 g x0 x1 x3 m17
def BX11_isTurns_4 (g : Shp) (x0 x1 : Int) (q : (Int × Int × Mem)) : Option (Int × (Int × Int × Mem)) := bX11_isTurns_4 g x0 x1 q.1 q.2.1 q.2.2
def bX11_isTurns_114 (g : Shp) (x2 : Int) (m : Mem) : Option (Int × Mem) :=
  ck (x2 = 0 ∨ x2 = 1) <|
  some (x2, m)
def bX11_isTurns_0 (g : Shp) (x0 x1 : Int) (m : Mem) : Option (Int × Mem) :=
  bdl (iter (BX11_isTurns_4 g x0 x1) 100000 (1, 0, m)) fun cv1 sv2 =>
  bX11_isTurns_114 g sv2.1 sv2.2.2
def fX11_isTurns (g : Shp) (x0 x1 : Int) (m : Mem) : Option (Int × Mem) := bX11_isTurns_0 g x0 x1 m
set_option maxRecDepth 20000 in
theorem wX11_way_21 {p : Program} {l : Launch} {e : Env} {s : State} {mt : MethodId} {args : Array Value} {below : List Frame} {meth : Method} {c : Code} {Q : State → Prop} {G : Gl} {A : Nat → Prop} {H0 : Heap} {ad : Int → Nat} {g : Shp} {H : Heap} {locs : List Loc} {ls : Array Slot} {m : Mem} (C : CallFix p mt c cX11_way 4 s args tb RX11) (S : Wd G A s H0 ad g m H locs)  (hl : lv_has ls 4 []) {r : Int} {m' : Mem} (hF : bX11_way_21 g m = some (r, m')) (Kr : ∀ (H : Heap) (locs : List Loc) (pc : Nat) (ls : Array Slot), Wd G A s H0 ad g m' H locs → decode cX11_way pc = .ok (.ireturn, 1) → r32 r ∧ (false = true → r = 0 ∨ r = 1) → narrow .int (.int (iI r)) = .int (iI r) → W p l e rX11_way s mt args below meth c H locs 0 0 Q (F0 mt pc ls [.int (iI r)])) : W p l e rX11_way s mt args below meth c H locs 0 0 Q (F0 mt 21 ls []) := by
  unfold bX11_way_21 at hF
  refine q_iconst C (-1) dX11_way_21 ?_
  cases hF
  exact Kr _ _ _ _ S dX11_way_22 ⟨(rl (-1) rfl), fun h9 => absurd h9 (by decide)⟩ rfl
set_option maxRecDepth 20000 in
theorem wX11_way_66 {p : Program} {l : Launch} {e : Env} {s : State} {mt : MethodId} {args : Array Value} {below : List Frame} {meth : Method} {c : Code} {Q : State → Prop} {G : Gl} {A : Nat → Prop} {H0 : Heap} {ad : Int → Nat} {g : Shp} {H : Heap} {locs : List Loc} {ls : Array Slot} {m : Mem} {z0 : Int} (C : CallFix p mt c cX11_way 4 s args tb RX11) (S : Wd G A s H0 ad g m H locs) (hz0 : r32 z0) (hl : lv_has ls 4 []) {r : Int} {m' : Mem} (hF : bX11_way_66 g z0 m = some (r, m')) (Kr : ∀ (H : Heap) (locs : List Loc) (pc : Nat) (ls : Array Slot), Wd G A s H0 ad g m' H locs → decode cX11_way pc = .ok (.ireturn, 1) → r32 r ∧ (false = true → r = 0 ∨ r = 1) → narrow .int (.int (iI r)) = .int (iI r) → W p l e rX11_way s mt args below meth c H locs 0 0 Q (F0 mt pc ls [.int (iI r)])) : W p l e rX11_way s mt args below meth c H locs 0 0 Q (F0 mt 66 ls [.int (iI z0)]) := by
  unfold bX11_way_66 at hF
  cases hF
  exact Kr _ _ _ _ S dX11_way_66 ⟨hz0, fun h9 => absurd h9 (by decide)⟩ rfl
set_option maxRecDepth 20000 in
theorem wX11_way_121 {p : Program} {l : Launch} {e : Env} {s : State} {mt : MethodId} {args : Array Value} {below : List Frame} {meth : Method} {c : Code} {Q : State → Prop} {G : Gl} {A : Nat → Prop} {H0 : Heap} {ad : Int → Nat} {g : Shp} {H : Heap} {locs : List Loc} {ls : Array Slot} {m : Mem} {z0 z1 : Int} (C : CallFix p mt c cX11_way 4 s args tb RX11) (S : Wd G A s H0 ad g m H locs) (hz0 : r32 z0) (hz1 : r32 z1) (hl : lv_has ls 4 []) {r : Int} {m' : Mem} (hF : bX11_way_121 g z0 z1 m = some (r, m')) (Kr : ∀ (H : Heap) (locs : List Loc) (pc : Nat) (ls : Array Slot), Wd G A s H0 ad g m' H locs → decode cX11_way pc = .ok (.ireturn, 1) → r32 r ∧ (false = true → r = 0 ∨ r = 1) → narrow .int (.int (iI r)) = .int (iI r) → W p l e rX11_way s mt args below meth c H locs 0 0 Q (F0 mt pc ls [.int (iI r)])) : W p l e rX11_way s mt args below meth c H locs 0 0 Q (F0 mt 121 ls [.int (iI z1), .int (iI z0)]) := by
  unfold bX11_way_121 at hF
  refine q_iadd C dX11_way_121 ?_
  cases hF
  exact Kr _ _ _ _ S dX11_way_122 ⟨(r32_w _), fun h9 => absurd h9 (by decide)⟩ rfl
set_option maxRecDepth 20000 in
theorem wX11_way_0 {p : Program} {l : Launch} {e : Env} {s : State} {mt : MethodId} {args : Array Value} {below : List Frame} {meth : Method} {c : Code} {Q : State → Prop} {G : Gl} {A : Nat → Prop} {H0 : Heap} {ad : Int → Nat} {g : Shp} {H : Heap} {locs : List Loc} {ls : Array Slot} {m : Mem} {x0 x1 x2 x3 : Int} (C : CallFix p mt c cX11_way 4 s args tb RX11) (S : Wd G A s H0 ad g m H locs) (hx0 : gk g x0 = 12) (hx1 : r32 x1) (hx2 : r32 x2) (hx3 : r32 x3) (hl : lv_has ls 4 [(0, .ref (ad x0)), (1, .int (iI x1)), (2, .int (iI x2)), (3, .int (iI x3))]) {r : Int} {m' : Mem} (hF : bX11_way_0 g x0 x1 x2 x3 m = some (r, m')) (Kr : ∀ (H : Heap) (locs : List Loc) (pc : Nat) (ls : Array Slot), Wd G A s H0 ad g m' H locs → decode cX11_way pc = .ok (.ireturn, 1) → r32 r ∧ (false = true → r = 0 ∨ r = 1) → narrow .int (.int (iI r)) = .int (iI r) → W p l e rX11_way s mt args below meth c H locs 0 0 Q (F0 mt pc ls [.int (iI r)])) : W p l e rX11_way s mt args below meth c H locs 0 0 Q (F0 mt 0 ls []) := by
  unfold bX11_way_0 at hF
  refine q_aload_n C hl 0 rfl rfl dX11_way_0 ?_
  refine q_iload_n C hl 1 rfl rfl dX11_way_1 ?_
  obtain ⟨v1, m2, h3, hF⟩ := bd2_ok hF
  refine q_ci S (run_V (As := [.int (iI x1)]) (rest := []) C S (cX11_isLine_ok l G hx0 hx1 h3 ad _) hx0 ⟨by decide, _, _, rfl⟩ gd_RX11_176 hdV_X11_isLine rfl ⟨rfl, rfl, by decide, by decide⟩ ⟨Nat.zero_le _, Nat.zero_le _⟩ hl.1 rfl (Nat.le_of_ble_eq_true rfl) dX11_way_2) (fun H locs Sm2 h4 => ?_)
  refine q_if_eq C h4.1 21 dX11_way_5 (by decide) (fun hc5 => ?_) (fun hc5 => ?_)
  · have hF := if_t hc5 hF
    exact wX11_way_21 C Sm2  (lv_sub hl [] rfl) hF Kr
  · have hF := if_f hc5 hF
    refine q_iload_n C hl 2 rfl rfl dX11_way_8 ?_
    obtain ⟨v6, m7, h8, hF⟩ := bd2_ok hF
    refine q_ci Sm2 (run_S (As := [.int (iI x2)]) (rest := []) C Sm2 (cX11_isColour_ok l G hx2 h8 ad _) gd_RX11_148 hd_X11_isColour rfl ⟨rfl, rfl, by decide, by decide⟩ ⟨Nat.zero_le _, Nat.zero_le _⟩ hl.1 rfl (Nat.le_of_ble_eq_true rfl) dX11_way_9) (fun H locs Sm7 h9 => ?_)
    refine q_if_eq C h9.1 21 dX11_way_12 (by decide) (fun hc10 => ?_) (fun hc10 => ?_)
    · have hF := if_t hc10 hF
      exact wX11_way_21 C Sm7  (lv_sub hl [] rfl) hF Kr
    · have hF := if_f hc10 hF
      refine q_iload_n C hl 3 rfl rfl dX11_way_15 ?_
      refine q_bipush C (-2) (by decide) dX11_way_16 ?_
      refine q_icmp_ge C hx3 (rl (-2) rfl) 23 dX11_way_18 (by decide) (fun hc11 => ?_) (fun hc11 => ?_)
      · have hF := if_t hc11 hF
        refine q_aload_n C hl 0 rfl rfl dX11_way_23 ?_
        refine q_iload_n C hl 1 rfl rfl dX11_way_24 ?_
        obtain ⟨v12, m13, h14, hF⟩ := bd2_ok hF
        refine q_ci Sm7 (run_V (As := [.int (iI x1)]) (rest := []) C Sm7 (cX11_isCovered_ok l G hx0 hx1 h14 ad _) hx0 ⟨by decide, _, _, rfl⟩ gd_RX11_190 hdV_X11_isCovered rfl ⟨rfl, rfl, by decide, by decide⟩ ⟨Nat.zero_le _, Nat.zero_le _⟩ hl.1 rfl (Nat.le_of_ble_eq_true rfl) dX11_way_25) (fun H locs Sm13 h15 => ?_)
        refine q_if_eq C h15.1 34 dX11_way_28 (by decide) (fun hc16 => ?_) (fun hc16 => ?_)
        · have hF := if_t hc16 hF
          refine q_aload_n C hl 0 rfl rfl dX11_way_34 ?_
          refine q_iload_n C hl 1 rfl rfl dX11_way_35 ?_
          refine q_iload_n C hl 2 rfl rfl dX11_way_36 ?_
          obtain ⟨v17, m18, h19, hF⟩ := bd2_ok hF
          refine q_ci Sm13 (run_V (As := [.int (iI x1), .int (iI x2)]) (rest := []) C Sm13 (cX11_findWay_ok l G hx0 hx1 hx2 h19 ad _) hx0 ⟨by decide, _, _, rfl⟩ gd_RX11_228 hdV_X11_findWay rfl ⟨rfl, rfl, by decide, by decide⟩ ⟨Nat.zero_le _, Nat.zero_le _⟩ hl.1 rfl (Nat.le_of_ble_eq_true rfl) dX11_way_37) (fun H locs Sm18 h20 => ?_)
          refine q_if_ne C h20.1 46 dX11_way_40 (by decide) (fun hc21 => ?_) (fun hc21 => ?_)
          · have hF := if_t hc21 hF
            refine q_bipush C (-4) (by decide) dX11_way_43 ?_
            cases hF
            exact Kr _ _ _ _ Sm18 dX11_way_45 ⟨(rl (-4) rfl), fun h9 => absurd h9 (by decide)⟩ rfl
          · have hF := if_f hc21 hF
            refine q_iload_n C hl 3 rfl rfl dX11_way_46 ?_
            refine q_if_ge C hx3 67 dX11_way_47 (by decide) (fun hc22 => ?_) (fun hc22 => ?_)
            · have hF := if_t hc22 hF
              refine q_iload_n C hl 3 rfl rfl dX11_way_67 ?_
              refine q_aload_n C hl 0 rfl rfl dX11_way_68 ?_
              refine q_geti C Sm18 35 fo_RX11_221 (j := 35) rfl rfl hx0 dX11_way_69 ?_
              refine q_icmp_lt C hx3 (Sm18.r _ _) 78 dX11_way_72 (by decide) (fun hc23 => ?_) (fun hc23 => ?_)
              · have hF := if_t hc23 hF
                refine q_bipush C 20 (by decide) dX11_way_78 ?_
                refine q_aload_n C hl 0 rfl rfl dX11_way_80 ?_
                obtain ⟨k24, hF⟩ := ck_ok hF
                refine q_getr C Sm18 32 fo_RX11_74 (j := 32) rfl rfl hx0 k24 (by decide) dX11_way_81 ?_
                refine q_iload_n C hl 3 rfl rfl dX11_way_84 ?_
                obtain ⟨i25, hF⟩ := ck_ok hF
                refine q_iald C Sm18 k24 i25 dX11_way_85 ?_
                refine q_imul C dX11_way_86 ?_
                refine q_iconst C 2 dX11_way_87 ?_
                refine q_aload_n C hl 0 rfl rfl dX11_way_88 ?_
                obtain ⟨k26, hF⟩ := ck_ok hF
                refine q_getr C Sm18 33 fo_RX11_77 (j := 33) rfl rfl hx0 k26 (by decide) dX11_way_89 ?_
                refine q_iload_n C hl 3 rfl rfl dX11_way_92 ?_
                obtain ⟨i27, hF⟩ := ck_ok hF
                refine q_iald C Sm18 k26 i27 dX11_way_93 ?_
                refine q_imul C dX11_way_94 ?_
                refine q_iadd C dX11_way_95 ?_
                refine q_aload_n C hl 0 rfl rfl dX11_way_96 ?_
                refine q_getr C Sm18 32 fo_RX11_74 (j := 32) rfl rfl hx0 k24 (by decide) dX11_way_97 ?_
                refine q_iload_n C hl 3 rfl rfl dX11_way_100 ?_
                obtain ⟨i28, hF⟩ := ck_ok hF
                refine q_iald C Sm18 k24 i28 dX11_way_101 ?_
                refine q_aload_n C hl 0 rfl rfl dX11_way_102 ?_
                obtain ⟨k29, hF⟩ := ck_ok hF
                refine q_getr C Sm18 19 fo_RX11_40 (j := 19) rfl rfl hx0 k29 (by decide) dX11_way_103 ?_
                refine q_aload_n C hl 0 rfl rfl dX11_way_106 ?_
                refine q_getr C Sm18 33 fo_RX11_77 (j := 33) rfl rfl hx0 k26 (by decide) dX11_way_107 ?_
                refine q_iload_n C hl 3 rfl rfl dX11_way_110 ?_
                obtain ⟨i30, hF⟩ := ck_ok hF
                refine q_iald C Sm18 k26 i30 dX11_way_111 ?_
                obtain ⟨i31, hF⟩ := ck_ok hF
                refine q_iald C Sm18 k29 i31 dX11_way_112 ?_
                refine q_icmp_ge C (Sm18.r _ _) (Sm18.r _ _) 120 dX11_way_113 (by decide) (fun hc32 => ?_) (fun hc32 => ?_)
                · have hF := if_t hc32 hF
                  refine q_iconst C 0 dX11_way_120 ?_
                  exact wX11_way_121 C Sm18 (r32_w _) (rl 0 rfl) (lv_sub hl [] rfl) hF Kr
                · have hF := if_f hc32 hF
                  refine q_iconst C 1 dX11_way_116 ?_
                  refine q_goto C 121 dX11_way_117 (by decide) ?_
                  exact wX11_way_121 C Sm18 (r32_w _) (rl 1 rfl) (lv_sub hl [] rfl) hF Kr
              · have hF := if_f hc23 hF
                refine q_bipush C (-4) (by decide) dX11_way_75 ?_
                cases hF
                exact Kr _ _ _ _ Sm18 dX11_way_77 ⟨(rl (-4) rfl), fun h9 => absurd h9 (by decide)⟩ rfl
            · have hF := if_f hc22 hF
              refine q_iload_n C hl 3 rfl rfl dX11_way_50 ?_
              refine q_iconst C (-1) dX11_way_51 ?_
              refine q_icmp_ne C hx3 (rl (-1) rfl) 62 dX11_way_52 (by decide) (fun hc33 => ?_) (fun hc33 => ?_)
              · have hF := if_t hc33 hF
                refine q_aload_n C hl 0 rfl rfl dX11_way_55 ?_
                refine q_geti C Sm18 36 fo_RX11_218 (j := 36) rfl rfl hx0 dX11_way_56 ?_
                refine q_goto C 66 dX11_way_59 (by decide) ?_
                exact wX11_way_66 C Sm18 (Sm18.r _ _) (lv_sub hl [] rfl) hF Kr
              · have hF := if_f hc33 hF
                refine q_aload_n C hl 0 rfl rfl dX11_way_62 ?_
                refine q_geti C Sm18 35 fo_RX11_221 (j := 35) rfl rfl hx0 dX11_way_63 ?_
                exact wX11_way_66 C Sm18 (Sm18.r _ _) (lv_sub hl [] rfl) hF Kr
        · have hF := if_f hc16 hF
          refine q_bipush C (-2) (by decide) dX11_way_31 ?_
          cases hF
          exact Kr _ _ _ _ Sm13 dX11_way_33 ⟨(rl (-2) rfl), fun h9 => absurd h9 (by decide)⟩ rfl
      · have hF := if_f hc11 hF
        exact wX11_way_21 C Sm7  (lv_sub hl [] rfl) hF Kr
theorem cX11_way_ok (l : Launch) (G : Gl) {g : Shp} {x0 x1 x2 x3 : Int} {m m' : Mem} {r : Int} (hx0 : gk g x0 = 12) (hx1 : r32 x1) (hx2 : r32 x2) (hx3 : r32 x3) (hF : fX11_way g x0 x1 x2 x3 m = some (r, m')) : mI l yX11_way (wT yX11_way cX11_way 4 (some .int)) rX11_way G false (fun ad => [.ref (ad x0), .int (iI x1), .int (iI x2), .int (iI x3)]) g m r m' :=
  met_i (by decide) (fun ad => Nat.le_of_ble_eq_true rfl) (fun p e s mt args below meth c Q A H0 H locs ad ls C hnm S hl Kr => wX11_way_0 C S hx0 hx1 hx2 hx3 hl hF Kr)
set_option maxRecDepth 20000 in
theorem wX11_best_62 {p : Program} {l : Launch} {e : Env} {s : State} {mt : MethodId} {args : Array Value} {below : List Frame} {meth : Method} {c : Code} {Q : State → Prop} {G : Gl} {A : Nat → Prop} {H0 : Heap} {ad : Int → Nat} {g : Shp} {H : Heap} {locs : List Loc} {ls : Array Slot} {m : Mem} {x0 x1 x2 x3 x4 : Int} (C : CallFix p mt c cX11_best 5 s args tb RX11) (S : Wd G A s H0 ad g m H locs) (hx0 : gk g x0 = 12) (hx1 : r32 x1) (hx2 : r32 x2) (hx3 : r32 x3) (hx4 : r32 x4) (hl : lv_has ls 5 [(0, .ref (ad x0)), (1, .int (iI x1)), (2, .int (iI x2)), (3, .int (iI x3)), (4, .int (iI x4))]) {c1 : Int} {s1 : (Int × Int × Int × Mem)} (hF : bX11_best_62 g x0 x1 x2 x3 x4 m = some (c1, s1)) (K0 : c1 = 0 → ∀ (H : Heap) (locs : List Loc) (ls : Array Slot), r32 s1.1 → r32 s1.2.1 → r32 s1.2.2.1 → Wd G A s H0 ad g s1.2.2.2 H locs → lv_has ls 5 [(0, .ref (ad x0)), (1, .int (iI x1)), (2, .int (iI s1.1)), (3, .int (iI s1.2.1)), (4, .int (iI s1.2.2.1))] → W p l e rX11_best s mt args below meth c H locs 0 0 Q (F0 mt 30 ls [])) (K1 : c1 = 1 → ∀ (H : Heap) (locs : List Loc) (ls : Array Slot), r32 s1.1 → Wd G A s H0 ad g s1.2.2.2 H locs → lv_has ls 5 [(2, .int (iI s1.1))] → W p l e rX11_best s mt args below meth c H locs 0 0 Q (F0 mt 68 ls [])) : W p l e rX11_best s mt args below meth c H locs 0 0 Q (F0 mt 62 ls []) := by
  unfold bX11_best_62 at hF
  obtain ⟨y1, ey1, hF⟩ := vv_ok hF
  have ry1 : r32 y1 := ey1 ▸ r32_w _
  refine q_iinc C hl 4 [(4, .int (iI y1)), (0, .ref (ad x0)), (1, .int (iI x1)), (2, .int (iI x2)), (3, .int (iI x3))] rfl ey1 (by decide) rfl dX11_best_62 (fun ls hl => ?_)
  refine q_goto C 30 dX11_best_65 (by decide) ?_
  cases hF
  exact K0 rfl _ _ _ hx2 hx3 ry1 S (lv_sub hl [1, 2, 3, 4, 0] rfl)
set_option maxRecDepth 20000 in
theorem wX11_best_30 {p : Program} {l : Launch} {e : Env} {s : State} {mt : MethodId} {args : Array Value} {below : List Frame} {meth : Method} {c : Code} {Q : State → Prop} {G : Gl} {A : Nat → Prop} {H0 : Heap} {ad : Int → Nat} {g : Shp} {H : Heap} {locs : List Loc} {ls : Array Slot} {m : Mem} {x0 x1 x2 x3 x4 : Int} (C : CallFix p mt c cX11_best 5 s args tb RX11) (S : Wd G A s H0 ad g m H locs) (hx0 : gk g x0 = 12) (hx1 : r32 x1) (hx2 : r32 x2) (hx3 : r32 x3) (hx4 : r32 x4) (hl : lv_has ls 5 [(0, .ref (ad x0)), (1, .int (iI x1)), (2, .int (iI x2)), (3, .int (iI x3)), (4, .int (iI x4))]) {c1 : Int} {s1 : (Int × Int × Int × Mem)} (hF : bX11_best_30 g x0 x1 x2 x3 x4 m = some (c1, s1)) (K0 : c1 = 0 → ∀ (H : Heap) (locs : List Loc) (ls : Array Slot), r32 s1.1 → r32 s1.2.1 → r32 s1.2.2.1 → Wd G A s H0 ad g s1.2.2.2 H locs → lv_has ls 5 [(0, .ref (ad x0)), (1, .int (iI x1)), (2, .int (iI s1.1)), (3, .int (iI s1.2.1)), (4, .int (iI s1.2.2.1))] → W p l e rX11_best s mt args below meth c H locs 0 0 Q (F0 mt 30 ls [])) (K1 : c1 = 1 → ∀ (H : Heap) (locs : List Loc) (ls : Array Slot), r32 s1.1 → Wd G A s H0 ad g s1.2.2.2 H locs → lv_has ls 5 [(2, .int (iI s1.1))] → W p l e rX11_best s mt args below meth c H locs 0 0 Q (F0 mt 68 ls [])) : W p l e rX11_best s mt args below meth c H locs 0 0 Q (F0 mt 30 ls []) := by
  unfold bX11_best_30 at hF
  refine q_iload C hl 4 rfl dX11_best_30 ?_
  refine q_iconst C 3 dX11_best_32 ?_
  refine q_icmp_ge C hx4 (rl 3 rfl) 68 dX11_best_33 (by decide) (fun hc1 => ?_) (fun hc1 => ?_)
  · have hF := if_t hc1 hF
    cases hF
    exact K1 rfl _ _ _ hx2 S (lv_sub hl [2] rfl)
  · have hF := if_f hc1 hF
    refine q_aload_n C hl 0 rfl rfl dX11_best_36 ?_
    refine q_iload_n C hl 1 rfl rfl dX11_best_37 ?_
    refine q_iload C hl 4 rfl dX11_best_38 ?_
    obtain ⟨v2, m3, h4, hF⟩ := bd2_ok hF
    refine q_ci S (run_V (As := [.int (iI x1), .int (iI x4)]) (rest := []) C S (cX11_findWay_ok l G hx0 hx1 hx4 h4 ad _) hx0 ⟨by decide, _, _, rfl⟩ gd_RX11_228 hdV_X11_findWay rfl ⟨rfl, rfl, by decide, by decide⟩ ⟨Nat.zero_le _, Nat.zero_le _⟩ hl.1 rfl (Nat.le_of_ble_eq_true rfl) dX11_best_40) (fun H locs Sm3 h5 => ?_)
    refine q_if_eq C h5.1 62 dX11_best_43 (by decide) (fun hc6 => ?_) (fun hc6 => ?_)
    · have hF := if_t hc6 hF
      exact wX11_best_62 C Sm3 hx0 hx1 hx2 hx3 hx4 (lv_sub hl [0, 1, 2, 3, 4] rfl) hF K0 K1
    · have hF := if_f hc6 hF
      refine q_aload_n C hl 0 rfl rfl dX11_best_46 ?_
      refine q_geti C Sm3 36 fo_RX11_218 (j := 36) rfl rfl hx0 dX11_best_47 ?_
      refine q_iload_n C hl 3 rfl rfl dX11_best_50 ?_
      refine q_icmp_ge C (Sm3.r _ _) hx3 62 dX11_best_51 (by decide) (fun hc7 => ?_) (fun hc7 => ?_)
      · have hF := if_t hc7 hF
        exact wX11_best_62 C Sm3 hx0 hx1 hx2 hx3 hx4 (lv_sub hl [0, 1, 2, 3, 4] rfl) hF K0 K1
      · have hF := if_f hc7 hF
        refine q_iload C hl 4 rfl dX11_best_54 ?_
        refine q_istore_n C hl [(2, .int (iI x4)), (0, .ref (ad x0)), (1, .int (iI x1)), (3, .int (iI x3)), (4, .int (iI x4))] rfl rfl (by decide) rfl dX11_best_56 (fun ls hl => ?_)
        refine q_aload_n C hl 1 rfl rfl dX11_best_57 ?_
        refine q_geti C Sm3 36 fo_RX11_218 (j := 36) rfl rfl hx0 dX11_best_58 ?_
        obtain ⟨y8, ey8, hF⟩ := vv_ok hF
        have ry8 : r32 y8 := ey8 ▸ (Sm3.r _ _)
        refine q_istore_n C hl [(3, .int (iI y8)), (2, .int (iI x4)), (0, .ref (ad x0)), (1, .int (iI x1)), (4, .int (iI x4))] ey8 rfl (by decide) rfl dX11_best_61 (fun ls hl => ?_)
        exact wX11_best_62 C Sm3 hx0 hx1 hx4 ry8 hx4 (lv_sub hl [2, 3, 1, 0, 4] rfl) hF K0 K1
set_option maxRecDepth 20000 in
theorem lX11_best_30 {p : Program} {l : Launch} {e : Env} {s : State} {mt : MethodId} {args : Array Value} {below : List Frame} {meth : Method} {c : Code} {Q : State → Prop} {G : Gl} {A : Nat → Prop} {H0 : Heap} {ad : Int → Nat} {g : Shp} {x0 x1 : Int} (C : CallFix p mt c cX11_best 5 s args tb RX11) (hx0 : gk g x0 = 12) (hx1 : r32 x1) {n : Nat} {s0 s1 : (Int × Int × Int × Mem)} {c1 : Int} (hI : iter (BX11_best_30 g x0 x1) n s0 = some (c1, s1)) (K1 : c1 = 1 → ∀ (H : Heap) (locs : List Loc) (ls : Array Slot), r32 s1.1 → Wd G A s H0 ad g s1.2.2.2 H locs → lv_has ls 5 [(2, .int (iI s1.1))] → W p l e rX11_best s mt args below meth c H locs 0 0 Q (F0 mt 68 ls [])) : ∀ (H : Heap) (locs : List Loc) (ls : Array Slot), r32 s0.1 → r32 s0.2.1 → r32 s0.2.2.1 → Wd G A s H0 ad g s0.2.2.2 H locs → lv_has ls 5 [(0, .ref (ad x0)), (1, .int (iI x1)), (2, .int (iI s0.1)), (3, .int (iI s0.2.1)), (4, .int (iI s0.2.2.1))] → W p l e rX11_best s mt args below meth c H locs 0 0 Q (F0 mt 30 ls []) :=
  iter_W (Pw := fun q => ∀ (H : Heap) (locs : List Loc) (ls : Array Slot), r32 q.1 → r32 q.2.1 → r32 q.2.2.1 → Wd G A s H0 ad g q.2.2.2 H locs → lv_has ls 5 [(0, .ref (ad x0)), (1, .int (iI x1)), (2, .int (iI q.1)), (3, .int (iI q.2.1)), (4, .int (iI q.2.2.1))] → W p l e rX11_best s mt args below meth c H locs 0 0 Q (F0 mt 30 ls [])) (Px := fun c0 q => (c0 = 1 → ∀ (H : Heap) (locs : List Loc) (ls : Array Slot), r32 q.1 → Wd G A s H0 ad g q.2.2.2 H locs → lv_has ls 5 [(2, .int (iI q.1))] → W p l e rX11_best s mt args below meth c H locs 0 0 Q (F0 mt 68 ls [])))
    (fun s c s' hB K0 kx H locs ls f0 f1 f2 S hl => wX11_best_30 C S hx0 hx1 f0 f1 f2 hl hB K0 (fun h9 => (kx (by rw [h9]; decide)) h9)) _ _ _ _ hI K1
set_option maxRecDepth 20000 in
theorem wX11_best_68 {p : Program} {l : Launch} {e : Env} {s : State} {mt : MethodId} {args : Array Value} {below : List Frame} {meth : Method} {c : Code} {Q : State → Prop} {G : Gl} {A : Nat → Prop} {H0 : Heap} {ad : Int → Nat} {g : Shp} {H : Heap} {locs : List Loc} {ls : Array Slot} {m : Mem} {x2 : Int} (C : CallFix p mt c cX11_best 5 s args tb RX11) (S : Wd G A s H0 ad g m H locs) (hx2 : r32 x2) (hl : lv_has ls 5 [(2, .int (iI x2))]) {r : Int} {m' : Mem} (hF : bX11_best_68 g x2 m = some (r, m')) (Kr : ∀ (H : Heap) (locs : List Loc) (pc : Nat) (ls : Array Slot), Wd G A s H0 ad g m' H locs → decode cX11_best pc = .ok (.ireturn, 1) → r32 r ∧ (false = true → r = 0 ∨ r = 1) → narrow .int (.int (iI r)) = .int (iI r) → W p l e rX11_best s mt args below meth c H locs 0 0 Q (F0 mt pc ls [.int (iI r)])) : W p l e rX11_best s mt args below meth c H locs 0 0 Q (F0 mt 68 ls []) := by
  unfold bX11_best_68 at hF
  refine q_iload_n C hl 0 rfl rfl dX11_best_68 ?_
  cases hF
  exact Kr _ _ _ _ S dX11_best_69 ⟨hx2, fun h9 => absurd h9 (by decide)⟩ rfl
set_option maxRecDepth 20000 in
theorem wX11_best_0 {p : Program} {l : Launch} {e : Env} {s : State} {mt : MethodId} {args : Array Value} {below : List Frame} {meth : Method} {c : Code} {Q : State → Prop} {G : Gl} {A : Nat → Prop} {H0 : Heap} {ad : Int → Nat} {g : Shp} {H : Heap} {locs : List Loc} {ls : Array Slot} {m : Mem} {x0 x1 : Int} (C : CallFix p mt c cX11_best 5 s args tb RX11) (S : Wd G A s H0 ad g m H locs) (hx0 : gk g x0 = 12) (hx1 : r32 x1) (hl : lv_has ls 5 [(0, .ref (ad x0)), (1, .int (iI x1))]) {r : Int} {m' : Mem} (hF : bX11_best_0 g x0 x1 m = some (r, m')) (Kr : ∀ (H : Heap) (locs : List Loc) (pc : Nat) (ls : Array Slot), Wd G A s H0 ad g m' H locs → decode cX11_best pc = .ok (.ireturn, 1) → r32 r ∧ (false = true → r = 0 ∨ r = 1) → narrow .int (.int (iI r)) = .int (iI r) → W p l e rX11_best s mt args below meth c H locs 0 0 Q (F0 mt pc ls [.int (iI r)])) : W p l e rX11_best s mt args below meth c H locs 0 0 Q (F0 mt 0 ls []) := by
  unfold bX11_best_0 at hF
  refine q_aload_n C hl 0 rfl rfl dX11_best_0 ?_
  refine q_iload_n C hl 1 rfl rfl dX11_best_1 ?_
  obtain ⟨v1, m2, h3, hF⟩ := bd2_ok hF
  refine q_ci S (run_V (As := [.int (iI x1)]) (rest := []) C S (cX11_isLine_ok l G hx0 hx1 h3 ad _) hx0 ⟨by decide, _, _, rfl⟩ gd_RX11_176 hdV_X11_isLine rfl ⟨rfl, rfl, by decide, by decide⟩ ⟨Nat.zero_le _, Nat.zero_le _⟩ hl.1 rfl (Nat.le_of_ble_eq_true rfl) dX11_best_2) (fun H locs Sm2 h4 => ?_)
  refine q_if_ne C h4.1 10 dX11_best_5 (by decide) (fun hc5 => ?_) (fun hc5 => ?_)
  · have hF := if_t hc5 hF
    refine q_iconst C (-1) dX11_best_8 ?_
    cases hF
    exact Kr _ _ _ _ Sm2 dX11_best_9 ⟨(rl (-1) rfl), fun h9 => absurd h9 (by decide)⟩ rfl
  · have hF := if_f hc5 hF
    refine q_aload_n C hl 0 rfl rfl dX11_best_10 ?_
    refine q_iload_n C hl 1 rfl rfl dX11_best_11 ?_
    obtain ⟨v6, m7, h8, hF⟩ := bd2_ok hF
    refine q_ci Sm2 (run_V (As := [.int (iI x1)]) (rest := []) C Sm2 (cX11_isCovered_ok l G hx0 hx1 h8 ad _) hx0 ⟨by decide, _, _, rfl⟩ gd_RX11_190 hdV_X11_isCovered rfl ⟨rfl, rfl, by decide, by decide⟩ ⟨Nat.zero_le _, Nat.zero_le _⟩ hl.1 rfl (Nat.le_of_ble_eq_true rfl) dX11_best_12) (fun H locs Sm7 h9 => ?_)
    refine q_if_eq C h9.1 21 dX11_best_15 (by decide) (fun hc10 => ?_) (fun hc10 => ?_)
    · have hF := if_t hc10 hF
      refine q_bipush C (-4) (by decide) dX11_best_21 ?_
      refine q_istore_n C hl [(2, .int (iI ((-4)))), (0, .ref (ad x0)), (1, .int (iI x1))] rfl rfl (by decide) rfl dX11_best_23 (fun ls hl => ?_)
      refine q_ldc C 1000000 (by decide) tw1115 dX11_best_24 ?_
      refine q_istore_n C hl [(3, .int (iI 1000000)), (2, .int (iI ((-4)))), (0, .ref (ad x0)), (1, .int (iI x1))] rfl rfl (by decide) rfl dX11_best_26 (fun ls hl => ?_)
      refine q_iconst C 0 dX11_best_27 ?_
      refine q_istore C hl [(4, .int (iI 0)), (3, .int (iI 1000000)), (2, .int (iI ((-4)))), (0, .ref (ad x0)), (1, .int (iI x1))] rfl (by decide) rfl dX11_best_28 (fun ls hl => ?_)
      obtain ⟨cv11, sv12, hi13, hF⟩ := bdl_ok hF
      refine lX11_best_30 C hx0 hx1 hi13 ?_ _ _ _ (rl (-4) rfl) (rl 1000000 rfl) (rl 0 rfl) Sm7 (lv_sub hl [3, 4, 2, 1, 0] rfl)
      intro _ H locs ls f15 S14 hl
      exact wX11_best_68 C S14 f15 (lv_sub hl [0] rfl) hF Kr
    · have hF := if_f hc10 hF
      refine q_bipush C (-2) (by decide) dX11_best_18 ?_
      cases hF
      exact Kr _ _ _ _ Sm7 dX11_best_20 ⟨(rl (-2) rfl), fun h9 => absurd h9 (by decide)⟩ rfl
theorem cX11_best_ok (l : Launch) (G : Gl) {g : Shp} {x0 x1 : Int} {m m' : Mem} {r : Int} (hx0 : gk g x0 = 12) (hx1 : r32 x1) (hF : fX11_best g x0 x1 m = some (r, m')) : mI l yX11_best (wT yX11_best cX11_best 5 (some .int)) rX11_best G false (fun ad => [.ref (ad x0), .int (iI x1)]) g m r m' :=
  met_i (by decide) (fun ad => Nat.le_of_ble_eq_true rfl) (fun p e s mt args below meth c Q A H0 H locs ad ls C hnm S hl Kr => wX11_best_0 C S hx0 hx1 hl hF Kr)
set_option maxRecDepth 20000 in
theorem wX11_coverBy_136 {p : Program} {l : Launch} {e : Env} {s : State} {mt : MethodId} {args : Array Value} {below : List Frame} {meth : Method} {c : Code} {Q : State → Prop} {G : Gl} {A : Nat → Prop} {H0 : Heap} {ad : Int → Nat} {g : Shp} {H : Heap} {locs : List Loc} {ls : Array Slot} {m : Mem} {x0 x1 x2 x3 z0 z1 z2 z3 : Int} (C : CallFix p mt c cX11_coverBy 7 s args tb RX11) (S : Wd G A s H0 ad g m H locs) (hx0 : gk g x0 = 12) (hx1 : r32 x1) (hx2 : r32 x2) (hx3 : r32 x3) (hz0 : gk g z0 = 20) (hz1 : r32 z1) (hz2 : r32 z2) (hz3 : r32 z3) (hl : lv_has ls 7 [(0, .ref (ad x0)), (1, .int (iI x1)), (2, .int (iI x2)), (3, .int (iI x3))]) {c1 : Int} {s1 : (Int × Mem)} (hF : bX11_coverBy_136 g x0 x1 x2 x3 z0 z1 z2 z3 m = some (c1, s1)) (K0 : c1 = 0 → ∀ (H : Heap) (locs : List Loc) (ls : Array Slot), r32 s1.1 → Wd G A s H0 ad g s1.2 H locs → lv_has ls 7 [(0, .ref (ad x0)), (1, .int (iI x1)), (2, .int (iI x2)), (3, .int (iI s1.1))] → W p l e rX11_coverBy s mt args below meth c H locs 0 0 Q (F0 mt 2 ls [])) (K1 : c1 = 1 → ∀ (H : Heap) (locs : List Loc) (ls : Array Slot), Wd G A s H0 ad g s1.2 H locs → lv_has ls 7 [(0, .ref (ad x0)), (1, .int (iI x1)), (2, .int (iI x2))] → W p l e rX11_coverBy s mt args below meth c H locs 0 0 Q (F0 mt 144 ls [])) : W p l e rX11_coverBy s mt args below meth c H locs 0 0 Q (F0 mt 136 ls [.int (iI z3), .int (iI z2), .int (iI z1), .ref (ad z0)]) := by
  unfold bX11_coverBy_136 at hF
  refine q_iadd C dX11_coverBy_136 ?_
  obtain ⟨i1, hF⟩ := ck_ok hF
  obtain ⟨m2, em2, hF⟩ := vm_ok hF
  refine q_iast C S hz0 i1 (r32_w _) em2 dX11_coverBy_137 (fun H locs Sm2 => ?_)
  obtain ⟨y3, ey3, hF⟩ := vv_ok hF
  have ry3 : r32 y3 := ey3 ▸ r32_w _
  refine q_iinc C hl 3 [(3, .int (iI y3)), (0, .ref (ad x0)), (1, .int (iI x1)), (2, .int (iI x2))] rfl ey3 (by decide) rfl dX11_coverBy_138 (fun ls hl => ?_)
  refine q_goto C 2 dX11_coverBy_141 (by decide) ?_
  cases hF
  exact K0 rfl _ _ _ ry3 Sm2 (lv_sub hl [1, 2, 3, 0] rfl)
set_option maxRecDepth 20000 in
theorem wX11_coverBy_109 {p : Program} {l : Launch} {e : Env} {s : State} {mt : MethodId} {args : Array Value} {below : List Frame} {meth : Method} {c : Code} {Q : State → Prop} {G : Gl} {A : Nat → Prop} {H0 : Heap} {ad : Int → Nat} {g : Shp} {H : Heap} {locs : List Loc} {ls : Array Slot} {m : Mem} {x0 x1 x2 x3 x6 z0 z1 z2 z3 : Int} (C : CallFix p mt c cX11_coverBy 7 s args tb RX11) (S : Wd G A s H0 ad g m H locs) (hx0 : gk g x0 = 12) (hx1 : r32 x1) (hx2 : r32 x2) (hx3 : r32 x3) (hx6 : r32 x6) (hz0 : gk g z0 = 20) (hz1 : r32 z1) (hz2 : r32 z2) (hz3 : r32 z3) (hl : lv_has ls 7 [(0, .ref (ad x0)), (1, .int (iI x1)), (2, .int (iI x2)), (3, .int (iI x3)), (6, .int (iI x6))]) {c1 : Int} {s1 : (Int × Mem)} (hF : bX11_coverBy_109 g x0 x1 x2 x3 x6 z0 z1 z2 z3 m = some (c1, s1)) (K0 : c1 = 0 → ∀ (H : Heap) (locs : List Loc) (ls : Array Slot), r32 s1.1 → Wd G A s H0 ad g s1.2 H locs → lv_has ls 7 [(0, .ref (ad x0)), (1, .int (iI x1)), (2, .int (iI x2)), (3, .int (iI s1.1))] → W p l e rX11_coverBy s mt args below meth c H locs 0 0 Q (F0 mt 2 ls [])) (K1 : c1 = 1 → ∀ (H : Heap) (locs : List Loc) (ls : Array Slot), Wd G A s H0 ad g s1.2 H locs → lv_has ls 7 [(0, .ref (ad x0)), (1, .int (iI x1)), (2, .int (iI x2))] → W p l e rX11_coverBy s mt args below meth c H locs 0 0 Q (F0 mt 144 ls [])) : W p l e rX11_coverBy s mt args below meth c H locs 0 0 Q (F0 mt 109 ls [.int (iI z3), .int (iI z2), .int (iI z1), .ref (ad z0)]) := by
  unfold bX11_coverBy_109 at hF
  refine q_iadd C dX11_coverBy_109 ?_
  obtain ⟨i1, hF⟩ := ck_ok hF
  obtain ⟨m2, em2, hF⟩ := vm_ok hF
  refine q_iast C S hz0 i1 (r32_w _) em2 dX11_coverBy_110 (fun H locs Sm2 => ?_)
  refine q_aload_n C hl 0 rfl rfl dX11_coverBy_111 ?_
  obtain ⟨k3, hF⟩ := ck_ok hF
  refine q_getr C Sm2 0 fo_RX11_7 (j := 0) rfl rfl hx0 k3 (by decide) dX11_coverBy_112 ?_
  refine q_bipush C 28 (by decide) dX11_coverBy_115 ?_
  refine q_iload_n C hl 1 rfl rfl dX11_coverBy_117 ?_
  refine q_iadd C dX11_coverBy_118 ?_
  refine q_dup2 C rfl rfl dX11_coverBy_119 ?_
  obtain ⟨i4, hF⟩ := ck_ok hF
  refine q_iald C Sm2 k3 i4 dX11_coverBy_120 ?_
  refine q_iload C hl 4 rfl dX11_coverBy_121 ?_
  refine q_if_eq C hx6 130 dX11_coverBy_123 (by decide) (fun hc5 => ?_) (fun hc5 => ?_)
  · have hF := if_t hc5 hF
    refine q_aload_n C hl 0 rfl rfl dX11_coverBy_130 ?_
    obtain ⟨k6, hF⟩ := ck_ok hF
    refine q_getr C Sm2 32 fo_RX11_74 (j := 32) rfl rfl hx0 k6 (by decide) dX11_coverBy_131 ?_
    refine q_iload_n C hl 3 rfl rfl dX11_coverBy_134 ?_
    obtain ⟨i7, hF⟩ := ck_ok hF
    refine q_iald C Sm2 k6 i7 dX11_coverBy_135 ?_
    exact wX11_coverBy_136 C Sm2 hx0 hx1 hx2 hx3 k3 (r32_w _) (Sm2.r _ _) (Sm2.r _ _) (lv_sub hl [0, 1, 2, 3] rfl) hF K0 K1
  · have hF := if_f hc5 hF
    refine q_iconst C 0 dX11_coverBy_126 ?_
    refine q_goto C 136 dX11_coverBy_127 (by decide) ?_
    exact wX11_coverBy_136 C Sm2 hx0 hx1 hx2 hx3 k3 (r32_w _) (Sm2.r _ _) (rl 0 rfl) (lv_sub hl [0, 1, 2, 3] rfl) hF K0 K1
set_option maxRecDepth 20000 in
theorem wX11_coverBy_53 {p : Program} {l : Launch} {e : Env} {s : State} {mt : MethodId} {args : Array Value} {below : List Frame} {meth : Method} {c : Code} {Q : State → Prop} {G : Gl} {A : Nat → Prop} {H0 : Heap} {ad : Int → Nat} {g : Shp} {H : Heap} {locs : List Loc} {ls : Array Slot} {m : Mem} {x0 x1 x2 x3 x4 x5 z0 : Int} (C : CallFix p mt c cX11_coverBy 7 s args tb RX11) (S : Wd G A s H0 ad g m H locs) (hx0 : gk g x0 = 12) (hx1 : r32 x1) (hx2 : r32 x2) (hx3 : r32 x3) (hx4 : r32 x4) (hx5 : r32 x5) (hz0 : r32 z0) (hl : lv_has ls 7 [(0, .ref (ad x0)), (1, .int (iI x1)), (2, .int (iI x2)), (3, .int (iI x3)), (4, .int (iI x4)), (5, .int (iI x5))]) {c1 : Int} {s1 : (Int × Mem)} (hF : bX11_coverBy_53 g x0 x1 x2 x3 x4 x5 z0 m = some (c1, s1)) (K0 : c1 = 0 → ∀ (H : Heap) (locs : List Loc) (ls : Array Slot), r32 s1.1 → Wd G A s H0 ad g s1.2 H locs → lv_has ls 7 [(0, .ref (ad x0)), (1, .int (iI x1)), (2, .int (iI x2)), (3, .int (iI s1.1))] → W p l e rX11_coverBy s mt args below meth c H locs 0 0 Q (F0 mt 2 ls [])) (K1 : c1 = 1 → ∀ (H : Heap) (locs : List Loc) (ls : Array Slot), Wd G A s H0 ad g s1.2 H locs → lv_has ls 7 [(0, .ref (ad x0)), (1, .int (iI x1)), (2, .int (iI x2))] → W p l e rX11_coverBy s mt args below meth c H locs 0 0 Q (F0 mt 144 ls [])) : W p l e rX11_coverBy s mt args below meth c H locs 0 0 Q (F0 mt 53 ls [.int (iI z0)]) := by
  unfold bX11_coverBy_53 at hF
  refine q_istore C hl [(6, .int (iI z0)), (0, .ref (ad x0)), (1, .int (iI x1)), (2, .int (iI x2)), (3, .int (iI x3)), (4, .int (iI x4)), (5, .int (iI x5))] rfl (by decide) rfl dX11_coverBy_53 (fun ls hl => ?_)
  refine q_aload_n C hl 1 rfl rfl dX11_coverBy_55 ?_
  obtain ⟨k1, hF⟩ := ck_ok hF
  refine q_getr C S 0 fo_RX11_7 (j := 0) rfl rfl hx0 k1 (by decide) dX11_coverBy_56 ?_
  refine q_iconst C 1 dX11_coverBy_59 ?_
  refine q_iconst C 3 dX11_coverBy_60 ?_
  refine q_iload_n C hl 3 rfl rfl dX11_coverBy_61 ?_
  refine q_imul C dX11_coverBy_62 ?_
  refine q_iadd C dX11_coverBy_63 ?_
  refine q_iload C hl 5 rfl dX11_coverBy_64 ?_
  refine q_iadd C dX11_coverBy_66 ?_
  refine q_dup2 C rfl rfl dX11_coverBy_67 ?_
  obtain ⟨i2, hF⟩ := ck_ok hF
  refine q_iald C S k1 i2 dX11_coverBy_68 ?_
  refine q_iconst C 1 dX11_coverBy_69 ?_
  refine q_isub C dX11_coverBy_70 ?_
  obtain ⟨i3, hF⟩ := ck_ok hF
  obtain ⟨m4, em4, hF⟩ := vm_ok hF
  refine q_iast C S k1 i3 (r32_w _) em4 dX11_coverBy_71 (fun H locs Sm4 => ?_)
  refine q_aload_n C hl 1 rfl rfl dX11_coverBy_72 ?_
  obtain ⟨k5, hF⟩ := ck_ok hF
  refine q_getr C Sm4 0 fo_RX11_7 (j := 0) rfl rfl hx0 k5 (by decide) dX11_coverBy_73 ?_
  refine q_bipush C 32 (by decide) dX11_coverBy_76 ?_
  refine q_dup2 C rfl rfl dX11_coverBy_78 ?_
  obtain ⟨i6, hF⟩ := ck_ok hF
  refine q_iald C Sm4 k5 i6 dX11_coverBy_79 ?_
  refine q_iload C hl 6 rfl dX11_coverBy_80 ?_
  refine q_iadd C dX11_coverBy_82 ?_
  obtain ⟨i7, hF⟩ := ck_ok hF
  obtain ⟨m8, em8, hF⟩ := vm_ok hF
  refine q_iast C Sm4 k5 i7 (r32_w _) em8 dX11_coverBy_83 (fun H locs Sm8 => ?_)
  refine q_aload_n C hl 1 rfl rfl dX11_coverBy_84 ?_
  obtain ⟨k9, hF⟩ := ck_ok hF
  refine q_getr C Sm8 0 fo_RX11_7 (j := 0) rfl rfl hx0 k9 (by decide) dX11_coverBy_85 ?_
  refine q_bipush C 19 (by decide) dX11_coverBy_88 ?_
  refine q_iconst C 3 dX11_coverBy_90 ?_
  refine q_iload_n C hl 2 rfl rfl dX11_coverBy_91 ?_
  refine q_imul C dX11_coverBy_92 ?_
  refine q_iadd C dX11_coverBy_93 ?_
  refine q_iload C hl 5 rfl dX11_coverBy_94 ?_
  refine q_iadd C dX11_coverBy_96 ?_
  refine q_dup2 C rfl rfl dX11_coverBy_97 ?_
  obtain ⟨i10, hF⟩ := ck_ok hF
  refine q_iald C Sm8 k9 i10 dX11_coverBy_98 ?_
  refine q_iload C hl 0 rfl dX11_coverBy_99 ?_
  refine q_if_eq C hz0 108 dX11_coverBy_101 (by decide) (fun hc11 => ?_) (fun hc11 => ?_)
  · have hF := if_t hc11 hF
    refine q_iconst C 0 dX11_coverBy_108 ?_
    exact wX11_coverBy_109 C Sm8 hx0 hx1 hx2 hx3 hz0 k9 (r32_w _) (Sm8.r _ _) (rl 0 rfl) (lv_sub hl [1, 2, 3, 4, 0] rfl) hF K0 K1
  · have hF := if_f hc11 hF
    refine q_iconst C 1 dX11_coverBy_104 ?_
    refine q_goto C 109 dX11_coverBy_105 (by decide) ?_
    exact wX11_coverBy_109 C Sm8 hx0 hx1 hx2 hx3 hz0 k9 (r32_w _) (Sm8.r _ _) (rl 1 rfl) (lv_sub hl [1, 2, 3, 4, 0] rfl) hF K0 K1
set_option maxRecDepth 20000 in
theorem wX11_coverBy_52 {p : Program} {l : Launch} {e : Env} {s : State} {mt : MethodId} {args : Array Value} {below : List Frame} {meth : Method} {c : Code} {Q : State → Prop} {G : Gl} {A : Nat → Prop} {H0 : Heap} {ad : Int → Nat} {g : Shp} {H : Heap} {locs : List Loc} {ls : Array Slot} {m : Mem} {x0 x1 x2 x3 x4 x5 : Int} (C : CallFix p mt c cX11_coverBy 7 s args tb RX11) (S : Wd G A s H0 ad g m H locs) (hx0 : gk g x0 = 12) (hx1 : r32 x1) (hx2 : r32 x2) (hx3 : r32 x3) (hx4 : r32 x4) (hx5 : r32 x5) (hl : lv_has ls 7 [(0, .ref (ad x0)), (1, .int (iI x1)), (2, .int (iI x2)), (3, .int (iI x3)), (4, .int (iI x4)), (5, .int (iI x5))]) {c1 : Int} {s1 : (Int × Mem)} (hF : bX11_coverBy_52 g x0 x1 x2 x3 x4 x5 m = some (c1, s1)) (K0 : c1 = 0 → ∀ (H : Heap) (locs : List Loc) (ls : Array Slot), r32 s1.1 → Wd G A s H0 ad g s1.2 H locs → lv_has ls 7 [(0, .ref (ad x0)), (1, .int (iI x1)), (2, .int (iI x2)), (3, .int (iI s1.1))] → W p l e rX11_coverBy s mt args below meth c H locs 0 0 Q (F0 mt 2 ls [])) (K1 : c1 = 1 → ∀ (H : Heap) (locs : List Loc) (ls : Array Slot), Wd G A s H0 ad g s1.2 H locs → lv_has ls 7 [(0, .ref (ad x0)), (1, .int (iI x1)), (2, .int (iI x2))] → W p l e rX11_coverBy s mt args below meth c H locs 0 0 Q (F0 mt 144 ls [])) : W p l e rX11_coverBy s mt args below meth c H locs 0 0 Q (F0 mt 52 ls []) := by
  unfold bX11_coverBy_52 at hF
  refine q_iconst C 0 dX11_coverBy_52 ?_
  exact wX11_coverBy_53 C S hx0 hx1 hx2 hx3 hx4 hx5 (rl 0 rfl) (lv_sub hl [0, 1, 2, 3, 4, 5] rfl) hF K0 K1
set_option maxRecDepth 20000 in
theorem wX11_coverBy_2 {p : Program} {l : Launch} {e : Env} {s : State} {mt : MethodId} {args : Array Value} {below : List Frame} {meth : Method} {c : Code} {Q : State → Prop} {G : Gl} {A : Nat → Prop} {H0 : Heap} {ad : Int → Nat} {g : Shp} {H : Heap} {locs : List Loc} {ls : Array Slot} {m : Mem} {x0 x1 x2 x3 : Int} (C : CallFix p mt c cX11_coverBy 7 s args tb RX11) (S : Wd G A s H0 ad g m H locs) (hx0 : gk g x0 = 12) (hx1 : r32 x1) (hx2 : r32 x2) (hx3 : r32 x3) (hl : lv_has ls 7 [(0, .ref (ad x0)), (1, .int (iI x1)), (2, .int (iI x2)), (3, .int (iI x3))]) {c1 : Int} {s1 : (Int × Mem)} (hF : bX11_coverBy_2 g x0 x1 x2 x3 m = some (c1, s1)) (K0 : c1 = 0 → ∀ (H : Heap) (locs : List Loc) (ls : Array Slot), r32 s1.1 → Wd G A s H0 ad g s1.2 H locs → lv_has ls 7 [(0, .ref (ad x0)), (1, .int (iI x1)), (2, .int (iI x2)), (3, .int (iI s1.1))] → W p l e rX11_coverBy s mt args below meth c H locs 0 0 Q (F0 mt 2 ls [])) (K1 : c1 = 1 → ∀ (H : Heap) (locs : List Loc) (ls : Array Slot), Wd G A s H0 ad g s1.2 H locs → lv_has ls 7 [(0, .ref (ad x0)), (1, .int (iI x1)), (2, .int (iI x2))] → W p l e rX11_coverBy s mt args below meth c H locs 0 0 Q (F0 mt 144 ls [])) : W p l e rX11_coverBy s mt args below meth c H locs 0 0 Q (F0 mt 2 ls []) := by
  unfold bX11_coverBy_2 at hF
  refine q_iload_n C hl 3 rfl rfl dX11_coverBy_2 ?_
  refine q_aload_n C hl 0 rfl rfl dX11_coverBy_3 ?_
  refine q_geti C S 35 fo_RX11_221 (j := 35) rfl rfl hx0 dX11_coverBy_4 ?_
  refine q_icmp_ge C hx3 (S.r _ _) 144 dX11_coverBy_7 (by decide) (fun hc1 => ?_) (fun hc1 => ?_)
  · have hF := if_t hc1 hF
    cases hF
    exact K1 rfl _ _ _  S (lv_sub hl [0, 1, 2] rfl)
  · have hF := if_f hc1 hF
    refine q_aload_n C hl 0 rfl rfl dX11_coverBy_10 ?_
    obtain ⟨k2, hF⟩ := ck_ok hF
    refine q_getr C S 33 fo_RX11_77 (j := 33) rfl rfl hx0 k2 (by decide) dX11_coverBy_11 ?_
    refine q_iload_n C hl 3 rfl rfl dX11_coverBy_14 ?_
    obtain ⟨i3, hF⟩ := ck_ok hF
    refine q_iald C S k2 i3 dX11_coverBy_15 ?_
    obtain ⟨y4, ey4, hF⟩ := vv_ok hF
    have ry4 : r32 y4 := ey4 ▸ (S.r _ _)
    refine q_istore C hl [(4, .int (iI y4)), (0, .ref (ad x0)), (1, .int (iI x1)), (2, .int (iI x2)), (3, .int (iI x3))] ey4 (by decide) rfl dX11_coverBy_16 (fun ls hl => ?_)
    refine q_aload_n C hl 1 rfl rfl dX11_coverBy_18 ?_
    obtain ⟨k5, hF⟩ := ck_ok hF
    refine q_getr C S 19 fo_RX11_40 (j := 19) rfl rfl hx0 k5 (by decide) dX11_coverBy_19 ?_
    refine q_iload C hl 0 rfl dX11_coverBy_22 ?_
    obtain ⟨i6, hF⟩ := ck_ok hF
    refine q_iald C S k5 i6 dX11_coverBy_24 ?_
    refine q_aload_n C hl 1 rfl rfl dX11_coverBy_25 ?_
    obtain ⟨k7, hF⟩ := ck_ok hF
    refine q_getr C S 32 fo_RX11_74 (j := 32) rfl rfl hx0 k7 (by decide) dX11_coverBy_26 ?_
    refine q_iload_n C hl 4 rfl rfl dX11_coverBy_29 ?_
    obtain ⟨i8, hF⟩ := ck_ok hF
    refine q_iald C S k7 i8 dX11_coverBy_30 ?_
    refine q_isub C dX11_coverBy_31 ?_
    obtain ⟨y9, ey9, hF⟩ := vv_ok hF
    have ry9 : r32 y9 := ey9 ▸ (r32_w _)
    refine q_istore C hl [(5, .int (iI y9)), (4, .int (iI y4)), (0, .ref (ad x0)), (1, .int (iI x1)), (2, .int (iI x2)), (3, .int (iI x3))] ey9 (by decide) rfl dX11_coverBy_32 (fun ls hl => ?_)
    refine q_iload C hl 0 rfl dX11_coverBy_34 ?_
    refine q_if_ne C ry9 52 dX11_coverBy_36 (by decide) (fun hc10 => ?_) (fun hc10 => ?_)
    · have hF := if_t hc10 hF
      refine q_aload_n C hl 2 rfl rfl dX11_coverBy_39 ?_
      obtain ⟨k11, hF⟩ := ck_ok hF
      refine q_getr C S 34 fo_RX11_80 (j := 34) rfl rfl hx0 k11 (by decide) dX11_coverBy_40 ?_
      refine q_iload_n C hl 5 rfl rfl dX11_coverBy_43 ?_
      obtain ⟨i12, hF⟩ := ck_ok hF
      refine q_zald C S k11 i12 dX11_coverBy_44 ?_
      refine q_if_ne C (S.r _ _) 52 dX11_coverBy_45 (by decide) (fun hc13 => ?_) (fun hc13 => ?_)
      · have hF := if_t hc13 hF
        refine q_iconst C 1 dX11_coverBy_48 ?_
        refine q_goto C 53 dX11_coverBy_49 (by decide) ?_
        exact wX11_coverBy_53 C S hx0 hx1 hx2 hx3 ry4 ry9 (rl 1 rfl) (lv_sub hl [2, 3, 4, 5, 1, 0] rfl) hF K0 K1
      · have hF := if_f hc13 hF
        exact wX11_coverBy_52 C S hx0 hx1 hx2 hx3 ry4 ry9 (lv_sub hl [2, 3, 4, 5, 1, 0] rfl) hF K0 K1
    · have hF := if_f hc10 hF
      exact wX11_coverBy_52 C S hx0 hx1 hx2 hx3 ry4 ry9 (lv_sub hl [2, 3, 4, 5, 1, 0] rfl) hF K0 K1
set_option maxRecDepth 20000 in
theorem lX11_coverBy_2 {p : Program} {l : Launch} {e : Env} {s : State} {mt : MethodId} {args : Array Value} {below : List Frame} {meth : Method} {c : Code} {Q : State → Prop} {G : Gl} {A : Nat → Prop} {H0 : Heap} {ad : Int → Nat} {g : Shp} {x0 x1 x2 : Int} (C : CallFix p mt c cX11_coverBy 7 s args tb RX11) (hx0 : gk g x0 = 12) (hx1 : r32 x1) (hx2 : r32 x2) {n : Nat} {s0 s1 : (Int × Mem)} {c1 : Int} (hI : iter (BX11_coverBy_2 g x0 x1 x2) n s0 = some (c1, s1)) (K1 : c1 = 1 → ∀ (H : Heap) (locs : List Loc) (ls : Array Slot), Wd G A s H0 ad g s1.2 H locs → lv_has ls 7 [(0, .ref (ad x0)), (1, .int (iI x1)), (2, .int (iI x2))] → W p l e rX11_coverBy s mt args below meth c H locs 0 0 Q (F0 mt 144 ls [])) : ∀ (H : Heap) (locs : List Loc) (ls : Array Slot), r32 s0.1 → Wd G A s H0 ad g s0.2 H locs → lv_has ls 7 [(0, .ref (ad x0)), (1, .int (iI x1)), (2, .int (iI x2)), (3, .int (iI s0.1))] → W p l e rX11_coverBy s mt args below meth c H locs 0 0 Q (F0 mt 2 ls []) :=
  iter_W (Pw := fun q => ∀ (H : Heap) (locs : List Loc) (ls : Array Slot), r32 q.1 → Wd G A s H0 ad g q.2 H locs → lv_has ls 7 [(0, .ref (ad x0)), (1, .int (iI x1)), (2, .int (iI x2)), (3, .int (iI q.1))] → W p l e rX11_coverBy s mt args below meth c H locs 0 0 Q (F0 mt 2 ls [])) (Px := fun c0 q => (c0 = 1 → ∀ (H : Heap) (locs : List Loc) (ls : Array Slot), Wd G A s H0 ad g q.2 H locs → lv_has ls 7 [(0, .ref (ad x0)), (1, .int (iI x1)), (2, .int (iI x2))] → W p l e rX11_coverBy s mt args below meth c H locs 0 0 Q (F0 mt 144 ls [])))
    (fun s c s' hB K0 kx H locs ls f0 S hl => wX11_coverBy_2 C S hx0 hx1 hx2 f0 hl hB K0 (fun h9 => (kx (by rw [h9]; decide)) h9)) _ _ _ _ hI K1
set_option maxRecDepth 20000 in
theorem wX11_coverBy_251 {p : Program} {l : Launch} {e : Env} {s : State} {mt : MethodId} {args : Array Value} {below : List Frame} {meth : Method} {c : Code} {Q : State → Prop} {G : Gl} {A : Nat → Prop} {H0 : Heap} {ad : Int → Nat} {g : Shp} {H : Heap} {locs : List Loc} {ls : Array Slot} {m : Mem} {x0 x1 x3 z0 z1 z2 : Int} (C : CallFix p mt c cX11_coverBy 7 s args tb RX11) (S : Wd G A s H0 ad g m H locs) (hx0 : gk g x0 = 12) (hx1 : r32 x1) (hx3 : r32 x3) (hz0 : gk g z0 = 20) (hz1 : r32 z1) (hz2 : r32 z2) (hl : lv_has ls 7 [(0, .ref (ad x0)), (1, .int (iI x1)), (3, .int (iI x3))]) {c1 : Int} {s1 : (Int × Mem)} (hF : bX11_coverBy_251 g x0 x1 x3 z0 z1 z2 m = some (c1, s1)) (K0 : c1 = 0 → ∀ (H : Heap) (locs : List Loc) (ls : Array Slot), r32 s1.1 → Wd G A s H0 ad g s1.2 H locs → lv_has ls 7 [(0, .ref (ad x0)), (1, .int (iI x1)), (3, .int (iI s1.1))] → W p l e rX11_coverBy s mt args below meth c H locs 0 0 Q (F0 mt 196 ls [])) (K1 : c1 = 1 → ∀ (H : Heap) (locs : List Loc) (ls : Array Slot), Wd G A s H0 ad g s1.2 H locs → lv_has ls 7 [] → W p l e rX11_coverBy s mt args below meth c H locs 0 0 Q (F0 mt 258 ls [])) : W p l e rX11_coverBy s mt args below meth c H locs 0 0 Q (F0 mt 251 ls [.int (iI z2), .int (iI z1), .ref (ad z0)]) := by
  unfold bX11_coverBy_251 at hF
  obtain ⟨i1, hF⟩ := ck_ok hF
  obtain ⟨m2, em2, hF⟩ := vm_ok hF
  refine q_iast C S hz0 i1 hz2 em2 dX11_coverBy_251 (fun H locs Sm2 => ?_)
  obtain ⟨y3, ey3, hF⟩ := vv_ok hF
  have ry3 : r32 y3 := ey3 ▸ r32_w _
  refine q_iinc C hl 2 [(3, .int (iI y3)), (0, .ref (ad x0)), (1, .int (iI x1))] rfl ey3 (by decide) rfl dX11_coverBy_252 (fun ls hl => ?_)
  refine q_goto C 196 dX11_coverBy_255 (by decide) ?_
  cases hF
  exact K0 rfl _ _ _ ry3 Sm2 (lv_sub hl [1, 2, 0] rfl)
set_option maxRecDepth 20000 in
theorem wX11_coverBy_196 {p : Program} {l : Launch} {e : Env} {s : State} {mt : MethodId} {args : Array Value} {below : List Frame} {meth : Method} {c : Code} {Q : State → Prop} {G : Gl} {A : Nat → Prop} {H0 : Heap} {ad : Int → Nat} {g : Shp} {H : Heap} {locs : List Loc} {ls : Array Slot} {m : Mem} {x0 x1 x3 : Int} (C : CallFix p mt c cX11_coverBy 7 s args tb RX11) (S : Wd G A s H0 ad g m H locs) (hx0 : gk g x0 = 12) (hx1 : r32 x1) (hx3 : r32 x3) (hl : lv_has ls 7 [(0, .ref (ad x0)), (1, .int (iI x1)), (3, .int (iI x3))]) {c1 : Int} {s1 : (Int × Mem)} (hF : bX11_coverBy_196 g x0 x1 x3 m = some (c1, s1)) (K0 : c1 = 0 → ∀ (H : Heap) (locs : List Loc) (ls : Array Slot), r32 s1.1 → Wd G A s H0 ad g s1.2 H locs → lv_has ls 7 [(0, .ref (ad x0)), (1, .int (iI x1)), (3, .int (iI s1.1))] → W p l e rX11_coverBy s mt args below meth c H locs 0 0 Q (F0 mt 196 ls [])) (K1 : c1 = 1 → ∀ (H : Heap) (locs : List Loc) (ls : Array Slot), Wd G A s H0 ad g s1.2 H locs → lv_has ls 7 [] → W p l e rX11_coverBy s mt args below meth c H locs 0 0 Q (F0 mt 258 ls [])) : W p l e rX11_coverBy s mt args below meth c H locs 0 0 Q (F0 mt 196 ls []) := by
  unfold bX11_coverBy_196 at hF
  refine q_iload_n C hl 2 rfl rfl dX11_coverBy_196 ?_
  refine q_aload_n C hl 0 rfl rfl dX11_coverBy_197 ?_
  obtain ⟨k1, hF⟩ := ck_ok hF
  refine q_getr C S 23 fo_RX11_49 (j := 23) rfl rfl hx0 k1 (by decide) dX11_coverBy_198 ?_
  refine q_iload_n C hl 1 rfl rfl dX11_coverBy_201 ?_
  obtain ⟨i2, hF⟩ := ck_ok hF
  refine q_iald C S k1 i2 dX11_coverBy_202 ?_
  refine q_icmp_ge C hx3 (S.r _ _) 258 dX11_coverBy_203 (by decide) (fun hc3 => ?_) (fun hc3 => ?_)
  · have hF := if_t hc3 hF
    cases hF
    exact K1 rfl _ _ _  S (lv_sub hl [] rfl)
  · have hF := if_f hc3 hF
    refine q_bipush C 33 (by decide) dX11_coverBy_206 ?_
    refine q_aload_n C hl 0 rfl rfl dX11_coverBy_208 ?_
    obtain ⟨k4, hF⟩ := ck_ok hF
    refine q_getr C S 24 fo_RX11_52 (j := 24) rfl rfl hx0 k4 (by decide) dX11_coverBy_209 ?_
    refine q_bipush C 60 (by decide) dX11_coverBy_212 ?_
    refine q_iload_n C hl 1 rfl rfl dX11_coverBy_214 ?_
    refine q_imul C dX11_coverBy_215 ?_
    refine q_iload_n C hl 2 rfl rfl dX11_coverBy_216 ?_
    refine q_iadd C dX11_coverBy_217 ?_
    obtain ⟨i5, hF⟩ := ck_ok hF
    refine q_iald C S k4 i5 dX11_coverBy_218 ?_
    refine q_iadd C dX11_coverBy_219 ?_
    obtain ⟨y6, ey6, hF⟩ := vv_ok hF
    have ry6 : r32 y6 := ey6 ▸ (r32_w _)
    refine q_istore C hl [(4, .int (iI y6)), (0, .ref (ad x0)), (1, .int (iI x1)), (3, .int (iI x3))] ey6 (by decide) rfl dX11_coverBy_220 (fun ls hl => ?_)
    refine q_aload_n C hl 1 rfl rfl dX11_coverBy_222 ?_
    obtain ⟨k7, hF⟩ := ck_ok hF
    refine q_getr C S 0 fo_RX11_7 (j := 0) rfl rfl hx0 k7 (by decide) dX11_coverBy_223 ?_
    refine q_iload C hl 0 rfl dX11_coverBy_226 ?_
    refine q_aload_n C hl 1 rfl rfl dX11_coverBy_228 ?_
    refine q_getr C S 0 fo_RX11_7 (j := 0) rfl rfl hx0 k7 (by decide) dX11_coverBy_229 ?_
    refine q_iload C hl 0 rfl dX11_coverBy_232 ?_
    obtain ⟨i8, hF⟩ := ck_ok hF
    refine q_iald C S k7 i8 dX11_coverBy_234 ?_
    refine q_bipush C (-4) (by decide) dX11_coverBy_235 ?_
    refine q_icmp_ne C (S.r _ _) (rl (-4) rfl) 244 dX11_coverBy_237 (by decide) (fun hc9 => ?_) (fun hc9 => ?_)
    · have hF := if_t hc9 hF
      refine q_iload_n C hl 2 rfl rfl dX11_coverBy_240 ?_
      refine q_goto C 251 dX11_coverBy_241 (by decide) ?_
      exact wX11_coverBy_251 C S hx0 hx1 hx3 k7 ry6 hx1 (lv_sub hl [1, 2, 3] rfl) hF K0 K1
    · have hF := if_f hc9 hF
      refine q_aload_n C hl 1 rfl rfl dX11_coverBy_244 ?_
      refine q_getr C S 0 fo_RX11_7 (j := 0) rfl rfl hx0 k7 (by decide) dX11_coverBy_245 ?_
      refine q_iload C hl 0 rfl dX11_coverBy_248 ?_
      obtain ⟨i10, hF⟩ := ck_ok hF
      refine q_iald C S k7 i10 dX11_coverBy_250 ?_
      exact wX11_coverBy_251 C S hx0 hx1 hx3 k7 ry6 (S.r _ _) (lv_sub hl [1, 2, 3] rfl) hF K0 K1
set_option maxRecDepth 20000 in
theorem lX11_coverBy_196 {p : Program} {l : Launch} {e : Env} {s : State} {mt : MethodId} {args : Array Value} {below : List Frame} {meth : Method} {c : Code} {Q : State → Prop} {G : Gl} {A : Nat → Prop} {H0 : Heap} {ad : Int → Nat} {g : Shp} {x0 x1 : Int} (C : CallFix p mt c cX11_coverBy 7 s args tb RX11) (hx0 : gk g x0 = 12) (hx1 : r32 x1) {n : Nat} {s0 s1 : (Int × Mem)} {c1 : Int} (hI : iter (BX11_coverBy_196 g x0 x1) n s0 = some (c1, s1)) (K1 : c1 = 1 → ∀ (H : Heap) (locs : List Loc) (ls : Array Slot), Wd G A s H0 ad g s1.2 H locs → lv_has ls 7 [] → W p l e rX11_coverBy s mt args below meth c H locs 0 0 Q (F0 mt 258 ls [])) : ∀ (H : Heap) (locs : List Loc) (ls : Array Slot), r32 s0.1 → Wd G A s H0 ad g s0.2 H locs → lv_has ls 7 [(0, .ref (ad x0)), (1, .int (iI x1)), (3, .int (iI s0.1))] → W p l e rX11_coverBy s mt args below meth c H locs 0 0 Q (F0 mt 196 ls []) :=
  iter_W (Pw := fun q => ∀ (H : Heap) (locs : List Loc) (ls : Array Slot), r32 q.1 → Wd G A s H0 ad g q.2 H locs → lv_has ls 7 [(0, .ref (ad x0)), (1, .int (iI x1)), (3, .int (iI q.1))] → W p l e rX11_coverBy s mt args below meth c H locs 0 0 Q (F0 mt 196 ls [])) (Px := fun c0 q => (c0 = 1 → ∀ (H : Heap) (locs : List Loc) (ls : Array Slot), Wd G A s H0 ad g q.2 H locs → lv_has ls 7 [] → W p l e rX11_coverBy s mt args below meth c H locs 0 0 Q (F0 mt 258 ls [])))
    (fun s c s' hB K0 kx H locs ls f0 S hl => wX11_coverBy_196 C S hx0 hx1 f0 hl hB K0 (fun h9 => (kx (by rw [h9]; decide)) h9)) _ _ _ _ hI K1
set_option maxRecDepth 20000 in
theorem wX11_coverBy_258 {p : Program} {l : Launch} {e : Env} {s : State} {mt : MethodId} {args : Array Value} {below : List Frame} {meth : Method} {c : Code} {Q : State → Prop} {G : Gl} {A : Nat → Prop} {H0 : Heap} {ad : Int → Nat} {g : Shp} {H : Heap} {locs : List Loc} {ls : Array Slot} {m : Mem} (C : CallFix p mt c cX11_coverBy 7 s args tb RX11) (S : Wd G A s H0 ad g m H locs)  (hl : lv_has ls 7 []) {r : Int} {m' : Mem} (hF : bX11_coverBy_258 g m = some (r, m')) (Kr : ∀ (H : Heap) (locs : List Loc) (pc : Nat) (ls : Array Slot), Wd G A s H0 ad g m' H locs → decode cX11_coverBy pc = .ok (.return_, 1) → W p l e rX11_coverBy s mt args below meth c H locs 0 0 Q (F0 mt pc ls [])) : W p l e rX11_coverBy s mt args below meth c H locs 0 0 Q (F0 mt 258 ls []) := by
  unfold bX11_coverBy_258 at hF
  cases hF
  exact Kr _ _ _ _ S dX11_coverBy_258
set_option maxRecDepth 20000 in
theorem wX11_coverBy_144 {p : Program} {l : Launch} {e : Env} {s : State} {mt : MethodId} {args : Array Value} {below : List Frame} {meth : Method} {c : Code} {Q : State → Prop} {G : Gl} {A : Nat → Prop} {H0 : Heap} {ad : Int → Nat} {g : Shp} {H : Heap} {locs : List Loc} {ls : Array Slot} {m : Mem} {x0 x1 x2 : Int} (C : CallFix p mt c cX11_coverBy 7 s args tb RX11) (S : Wd G A s H0 ad g m H locs) (hx0 : gk g x0 = 12) (hx1 : r32 x1) (hx2 : r32 x2) (hl : lv_has ls 7 [(0, .ref (ad x0)), (1, .int (iI x1)), (2, .int (iI x2))]) {r : Int} {m' : Mem} (hF : bX11_coverBy_144 g x0 x1 x2 m = some (r, m')) (Kr : ∀ (H : Heap) (locs : List Loc) (pc : Nat) (ls : Array Slot), Wd G A s H0 ad g m' H locs → decode cX11_coverBy pc = .ok (.return_, 1) → W p l e rX11_coverBy s mt args below meth c H locs 0 0 Q (F0 mt pc ls [])) : W p l e rX11_coverBy s mt args below meth c H locs 0 0 Q (F0 mt 144 ls []) := by
  unfold bX11_coverBy_144 at hF
  refine q_aload_n C hl 0 rfl rfl dX11_coverBy_144 ?_
  obtain ⟨k1, hF⟩ := ck_ok hF
  refine q_getr C S 0 fo_RX11_7 (j := 0) rfl rfl hx0 k1 (by decide) dX11_coverBy_145 ?_
  refine q_bipush C 10 (by decide) dX11_coverBy_148 ?_
  refine q_iload_n C hl 1 rfl rfl dX11_coverBy_150 ?_
  refine q_iadd C dX11_coverBy_151 ?_
  refine q_iload_n C hl 2 rfl rfl dX11_coverBy_152 ?_
  obtain ⟨i2, hF⟩ := ck_ok hF
  obtain ⟨m3, em3, hF⟩ := vm_ok hF
  refine q_iast C S k1 i2 hx2 em3 dX11_coverBy_153 (fun H locs Sm3 => ?_)
  refine q_aload_n C hl 0 rfl rfl dX11_coverBy_154 ?_
  obtain ⟨k4, hF⟩ := ck_ok hF
  refine q_getr C Sm3 0 fo_RX11_7 (j := 0) rfl rfl hx0 k4 (by decide) dX11_coverBy_155 ?_
  refine q_bipush C 13 (by decide) dX11_coverBy_158 ?_
  refine q_iload_n C hl 1 rfl rfl dX11_coverBy_160 ?_
  refine q_iadd C dX11_coverBy_161 ?_
  refine q_aload_n C hl 0 rfl rfl dX11_coverBy_162 ?_
  refine q_geti C Sm3 35 fo_RX11_221 (j := 35) rfl rfl hx0 dX11_coverBy_163 ?_
  obtain ⟨i5, hF⟩ := ck_ok hF
  obtain ⟨m6, em6, hF⟩ := vm_ok hF
  refine q_iast C Sm3 k4 i5 (Sm3.r _ _) em6 dX11_coverBy_166 (fun H locs Sm6 => ?_)
  refine q_aload_n C hl 0 rfl rfl dX11_coverBy_167 ?_
  obtain ⟨k7, hF⟩ := ck_ok hF
  refine q_getr C Sm6 0 fo_RX11_7 (j := 0) rfl rfl hx0 k7 (by decide) dX11_coverBy_168 ?_
  refine q_bipush C 16 (by decide) dX11_coverBy_171 ?_
  refine q_iload_n C hl 1 rfl rfl dX11_coverBy_173 ?_
  refine q_iadd C dX11_coverBy_174 ?_
  refine q_aload_n C hl 0 rfl rfl dX11_coverBy_175 ?_
  refine q_geti C Sm6 36 fo_RX11_218 (j := 36) rfl rfl hx0 dX11_coverBy_176 ?_
  obtain ⟨i8, hF⟩ := ck_ok hF
  obtain ⟨m9, em9, hF⟩ := vm_ok hF
  refine q_iast C Sm6 k7 i8 (Sm6.r _ _) em9 dX11_coverBy_179 (fun H locs Sm9 => ?_)
  refine q_aload_n C hl 0 rfl rfl dX11_coverBy_180 ?_
  obtain ⟨k10, hF⟩ := ck_ok hF
  refine q_getr C Sm9 0 fo_RX11_7 (j := 0) rfl rfl hx0 k10 (by decide) dX11_coverBy_181 ?_
  refine q_bipush C 31 (by decide) dX11_coverBy_184 ?_
  refine q_dup2 C rfl rfl dX11_coverBy_186 ?_
  obtain ⟨i11, hF⟩ := ck_ok hF
  refine q_iald C Sm9 k10 i11 dX11_coverBy_187 ?_
  refine q_aload_n C hl 0 rfl rfl dX11_coverBy_188 ?_
  refine q_geti C Sm9 36 fo_RX11_218 (j := 36) rfl rfl hx0 dX11_coverBy_189 ?_
  refine q_iadd C dX11_coverBy_192 ?_
  obtain ⟨i12, hF⟩ := ck_ok hF
  obtain ⟨m13, em13, hF⟩ := vm_ok hF
  refine q_iast C Sm9 k10 i12 (r32_w _) em13 dX11_coverBy_193 (fun H locs Sm13 => ?_)
  refine q_iconst C 0 dX11_coverBy_194 ?_
  refine q_istore_n C hl [(3, .int (iI 0)), (0, .ref (ad x0)), (1, .int (iI x1)), (2, .int (iI x2))] rfl rfl (by decide) rfl dX11_coverBy_195 (fun ls hl => ?_)
  obtain ⟨cv14, sv15, hi16, hF⟩ := bdl_ok hF
  refine lX11_coverBy_196 C hx0 hx1 hi16 ?_ _ _ _ (rl 0 rfl) Sm13 (lv_sub hl [1, 2, 0] rfl)
  intro _ H locs ls  S17 hl
  exact wX11_coverBy_258 C S17  (lv_sub hl [] rfl) hF Kr
set_option maxRecDepth 20000 in
theorem wX11_coverBy_0 {p : Program} {l : Launch} {e : Env} {s : State} {mt : MethodId} {args : Array Value} {below : List Frame} {meth : Method} {c : Code} {Q : State → Prop} {G : Gl} {A : Nat → Prop} {H0 : Heap} {ad : Int → Nat} {g : Shp} {H : Heap} {locs : List Loc} {ls : Array Slot} {m : Mem} {x0 x1 x2 : Int} (C : CallFix p mt c cX11_coverBy 7 s args tb RX11) (S : Wd G A s H0 ad g m H locs) (hx0 : gk g x0 = 12) (hx1 : r32 x1) (hx2 : r32 x2) (hl : lv_has ls 7 [(0, .ref (ad x0)), (1, .int (iI x1)), (2, .int (iI x2))]) {r : Int} {m' : Mem} (hF : bX11_coverBy_0 g x0 x1 x2 m = some (r, m')) (Kr : ∀ (H : Heap) (locs : List Loc) (pc : Nat) (ls : Array Slot), Wd G A s H0 ad g m' H locs → decode cX11_coverBy pc = .ok (.return_, 1) → W p l e rX11_coverBy s mt args below meth c H locs 0 0 Q (F0 mt pc ls [])) : W p l e rX11_coverBy s mt args below meth c H locs 0 0 Q (F0 mt 0 ls []) := by
  unfold bX11_coverBy_0 at hF
  refine q_iconst C 0 dX11_coverBy_0 ?_
  refine q_istore_n C hl [(3, .int (iI 0)), (0, .ref (ad x0)), (1, .int (iI x1)), (2, .int (iI x2))] rfl rfl (by decide) rfl dX11_coverBy_1 (fun ls hl => ?_)
  obtain ⟨cv1, sv2, hi3, hF⟩ := bdl_ok hF
  refine lX11_coverBy_2 C hx0 hx1 hx2 hi3 ?_ _ _ _ (rl 0 rfl) S (lv_sub hl [1, 2, 3, 0] rfl)
  intro _ H locs ls  S4 hl
  exact wX11_coverBy_144 C S4 hx0 hx1 hx2 (lv_sub hl [0, 1, 2] rfl) hF Kr
theorem cX11_coverBy_ok (l : Launch) (G : Gl) {g : Shp} {x0 x1 x2 : Int} {m m' : Mem} {r : Int} (hx0 : gk g x0 = 12) (hx1 : r32 x1) (hx2 : r32 x2) (hF : fX11_coverBy g x0 x1 x2 m = some (r, m')) : mV l yX11_coverBy (wT yX11_coverBy cX11_coverBy 7 none) rX11_coverBy G (fun ad => [.ref (ad x0), .int (iI x1), .int (iI x2)]) g m m' :=
  met_v (by decide) (fun ad => Nat.le_of_ble_eq_true rfl) (fun p e s mt args below meth c Q A H0 H locs ad ls C hnm S hl Kr => wX11_coverBy_0 C S hx0 hx1 hx2 hl hF Kr)
set_option maxRecDepth 20000 in
theorem wX11_cover_15 {p : Program} {l : Launch} {e : Env} {s : State} {mt : MethodId} {args : Array Value} {below : List Frame} {meth : Method} {c : Code} {Q : State → Prop} {G : Gl} {A : Nat → Prop} {H0 : Heap} {ad : Int → Nat} {g : Shp} {H : Heap} {locs : List Loc} {ls : Array Slot} {m : Mem} (C : CallFix p mt c cX11_cover 3 s args tb RX11) (S : Wd G A s H0 ad g m H locs)  (hl : lv_has ls 3 []) {r : Int} {m' : Mem} (hF : bX11_cover_15 g m = some (r, m')) (Kr : ∀ (H : Heap) (locs : List Loc) (pc : Nat) (ls : Array Slot), Wd G A s H0 ad g m' H locs → decode cX11_cover pc = .ok (.ireturn, 1) → r32 r ∧ (false = true → r = 0 ∨ r = 1) → narrow .int (.int (iI r)) = .int (iI r) → W p l e rX11_cover s mt args below meth c H locs 0 0 Q (F0 mt pc ls [.int (iI r)])) : W p l e rX11_cover s mt args below meth c H locs 0 0 Q (F0 mt 15 ls []) := by
  unfold bX11_cover_15 at hF
  refine q_iconst C (-1) dX11_cover_15 ?_
  cases hF
  exact Kr _ _ _ _ S dX11_cover_16 ⟨(rl (-1) rfl), fun h9 => absurd h9 (by decide)⟩ rfl
set_option maxRecDepth 20000 in
theorem wX11_cover_0 {p : Program} {l : Launch} {e : Env} {s : State} {mt : MethodId} {args : Array Value} {below : List Frame} {meth : Method} {c : Code} {Q : State → Prop} {G : Gl} {A : Nat → Prop} {H0 : Heap} {ad : Int → Nat} {g : Shp} {H : Heap} {locs : List Loc} {ls : Array Slot} {m : Mem} {x0 x1 x2 : Int} (C : CallFix p mt c cX11_cover 3 s args tb RX11) (S : Wd G A s H0 ad g m H locs) (hx0 : gk g x0 = 12) (hx1 : r32 x1) (hx2 : r32 x2) (hl : lv_has ls 3 [(0, .ref (ad x0)), (1, .int (iI x1)), (2, .int (iI x2))]) {r : Int} {m' : Mem} (hF : bX11_cover_0 g x0 x1 x2 m = some (r, m')) (Kr : ∀ (H : Heap) (locs : List Loc) (pc : Nat) (ls : Array Slot), Wd G A s H0 ad g m' H locs → decode cX11_cover pc = .ok (.ireturn, 1) → r32 r ∧ (false = true → r = 0 ∨ r = 1) → narrow .int (.int (iI r)) = .int (iI r) → W p l e rX11_cover s mt args below meth c H locs 0 0 Q (F0 mt pc ls [.int (iI r)])) : W p l e rX11_cover s mt args below meth c H locs 0 0 Q (F0 mt 0 ls []) := by
  unfold bX11_cover_0 at hF
  refine q_aload_n C hl 0 rfl rfl dX11_cover_0 ?_
  refine q_iload_n C hl 1 rfl rfl dX11_cover_1 ?_
  obtain ⟨v1, m2, h3, hF⟩ := bd2_ok hF
  refine q_ci S (run_V (As := [.int (iI x1)]) (rest := []) C S (cX11_isLine_ok l G hx0 hx1 h3 ad _) hx0 ⟨by decide, _, _, rfl⟩ gd_RX11_176 hdV_X11_isLine rfl ⟨rfl, rfl, by decide, by decide⟩ ⟨Nat.zero_le _, Nat.zero_le _⟩ hl.1 rfl (Nat.le_of_ble_eq_true rfl) dX11_cover_2) (fun H locs Sm2 h4 => ?_)
  refine q_if_eq C h4.1 15 dX11_cover_5 (by decide) (fun hc5 => ?_) (fun hc5 => ?_)
  · have hF := if_t hc5 hF
    exact wX11_cover_15 C Sm2  (lv_sub hl [] rfl) hF Kr
  · have hF := if_f hc5 hF
    refine q_iload_n C hl 2 rfl rfl dX11_cover_8 ?_
    obtain ⟨v6, m7, h8, hF⟩ := bd2_ok hF
    refine q_ci Sm2 (run_S (As := [.int (iI x2)]) (rest := []) C Sm2 (cX11_isColour_ok l G hx2 h8 ad _) gd_RX11_148 hd_X11_isColour rfl ⟨rfl, rfl, by decide, by decide⟩ ⟨Nat.zero_le _, Nat.zero_le _⟩ hl.1 rfl (Nat.le_of_ble_eq_true rfl) dX11_cover_9) (fun H locs Sm7 h9 => ?_)
    refine q_if_ne C h9.1 17 dX11_cover_12 (by decide) (fun hc10 => ?_) (fun hc10 => ?_)
    · have hF := if_t hc10 hF
      exact wX11_cover_15 C Sm7  (lv_sub hl [] rfl) hF Kr
    · have hF := if_f hc10 hF
      refine q_aload_n C hl 0 rfl rfl dX11_cover_17 ?_
      refine q_iload_n C hl 1 rfl rfl dX11_cover_18 ?_
      obtain ⟨v11, m12, h13, hF⟩ := bd2_ok hF
      refine q_ci Sm7 (run_V (As := [.int (iI x1)]) (rest := []) C Sm7 (cX11_isCovered_ok l G hx0 hx1 h13 ad _) hx0 ⟨by decide, _, _, rfl⟩ gd_RX11_190 hdV_X11_isCovered rfl ⟨rfl, rfl, by decide, by decide⟩ ⟨Nat.zero_le _, Nat.zero_le _⟩ hl.1 rfl (Nat.le_of_ble_eq_true rfl) dX11_cover_19) (fun H locs Sm12 h14 => ?_)
      refine q_if_eq C h14.1 28 dX11_cover_22 (by decide) (fun hc15 => ?_) (fun hc15 => ?_)
      · have hF := if_t hc15 hF
        refine q_aload_n C hl 0 rfl rfl dX11_cover_28 ?_
        refine q_iload_n C hl 1 rfl rfl dX11_cover_29 ?_
        refine q_iload_n C hl 2 rfl rfl dX11_cover_30 ?_
        obtain ⟨v16, m17, h18, hF⟩ := bd2_ok hF
        refine q_ci Sm12 (run_V (As := [.int (iI x1), .int (iI x2)]) (rest := []) C Sm12 (cX11_findWay_ok l G hx0 hx1 hx2 h18 ad _) hx0 ⟨by decide, _, _, rfl⟩ gd_RX11_228 hdV_X11_findWay rfl ⟨rfl, rfl, by decide, by decide⟩ ⟨Nat.zero_le _, Nat.zero_le _⟩ hl.1 rfl (Nat.le_of_ble_eq_true rfl) dX11_cover_31) (fun H locs Sm17 h19 => ?_)
        refine q_if_ne C h19.1 40 dX11_cover_34 (by decide) (fun hc20 => ?_) (fun hc20 => ?_)
        · have hF := if_t hc20 hF
          refine q_bipush C (-4) (by decide) dX11_cover_37 ?_
          cases hF
          exact Kr _ _ _ _ Sm17 dX11_cover_39 ⟨(rl (-4) rfl), fun h9 => absurd h9 (by decide)⟩ rfl
        · have hF := if_f hc20 hF
          refine q_aload_n C hl 0 rfl rfl dX11_cover_40 ?_
          obtain ⟨v21, m22, h23, hF⟩ := bd2_ok hF
          refine q_cv Sm17 (run_V (As := []) (rest := []) C Sm17 (cX11_note_ok l G hx0 h23 ad _) hx0 ⟨by decide, _, _, rfl⟩ gd_RX11_173 hdV_X11_note rfl ⟨rfl, rfl, by decide, by decide⟩ ⟨Nat.zero_le _, Nat.zero_le _⟩ hl.1 rfl (Nat.le_of_ble_eq_true rfl) dX11_cover_41) (fun H locs Sm22 => ?_)
          refine q_aload_n C hl 0 rfl rfl dX11_cover_44 ?_
          refine q_iload_n C hl 1 rfl rfl dX11_cover_45 ?_
          refine q_iload_n C hl 2 rfl rfl dX11_cover_46 ?_
          obtain ⟨v24, m25, h26, hF⟩ := bd2_ok hF
          refine q_cv Sm22 (run_V (As := [.int (iI x1), .int (iI x2)]) (rest := []) C Sm22 (cX11_coverBy_ok l G hx0 hx1 hx2 h26 ad _) hx0 ⟨by decide, _, _, rfl⟩ gd_RX11_231 hdV_X11_coverBy rfl ⟨rfl, rfl, by decide, by decide⟩ ⟨Nat.zero_le _, Nat.zero_le _⟩ hl.1 rfl (Nat.le_of_ble_eq_true rfl) dX11_cover_47) (fun H locs Sm25 => ?_)
          refine q_aload_n C hl 0 rfl rfl dX11_cover_50 ?_
          refine q_geti C Sm25 36 fo_RX11_218 (j := 36) rfl rfl hx0 dX11_cover_51 ?_
          cases hF
          exact Kr _ _ _ _ Sm25 dX11_cover_54 ⟨(Sm25.r _ _), fun h9 => absurd h9 (by decide)⟩ rfl
      · have hF := if_f hc15 hF
        refine q_bipush C (-2) (by decide) dX11_cover_25 ?_
        cases hF
        exact Kr _ _ _ _ Sm12 dX11_cover_27 ⟨(rl (-2) rfl), fun h9 => absurd h9 (by decide)⟩ rfl
theorem cX11_cover_ok (l : Launch) (G : Gl) {g : Shp} {x0 x1 x2 : Int} {m m' : Mem} {r : Int} (hx0 : gk g x0 = 12) (hx1 : r32 x1) (hx2 : r32 x2) (hF : fX11_cover g x0 x1 x2 m = some (r, m')) : mI l yX11_cover (wT yX11_cover cX11_cover 3 (some .int)) rX11_cover G false (fun ad => [.ref (ad x0), .int (iI x1), .int (iI x2)]) g m r m' :=
  met_i (by decide) (fun ad => Nat.le_of_ble_eq_true rfl) (fun p e s mt args below meth c Q A H0 H locs ad ls C hnm S hl Kr => wX11_cover_0 C S hx0 hx1 hx2 hl hF Kr)
set_option maxRecDepth 20000 in
theorem wX11_takeUp_96 {p : Program} {l : Launch} {e : Env} {s : State} {mt : MethodId} {args : Array Value} {below : List Frame} {meth : Method} {c : Code} {Q : State → Prop} {G : Gl} {A : Nat → Prop} {H0 : Heap} {ad : Int → Nat} {g : Shp} {H : Heap} {locs : List Loc} {ls : Array Slot} {m : Mem} {x0 x1 x2 x3 x4 x5 z0 : Int} (C : CallFix p mt c cX11_takeUp 7 s args tb RX11) (S : Wd G A s H0 ad g m H locs) (hx0 : gk g x0 = 12) (hx1 : r32 x1) (hx2 : r32 x2) (hx3 : r32 x3) (hx4 : r32 x4) (hx5 : r32 x5) (hz0 : r32 z0) (hl : lv_has ls 7 [(0, .ref (ad x0)), (1, .int (iI x1)), (2, .int (iI x2)), (3, .int (iI x3)), (4, .int (iI x4)), (5, .int (iI x5))]) {c1 : Int} {s1 : (Int × Int × Mem)} (hF : bX11_takeUp_96 g x0 x1 x2 x3 x4 x5 z0 m = some (c1, s1)) (K0 : c1 = 0 → ∀ (H : Heap) (locs : List Loc) (ls : Array Slot), r32 s1.1 → r32 s1.2.1 → Wd G A s H0 ad g s1.2.2 H locs → lv_has ls 7 [(0, .ref (ad x0)), (1, .int (iI x1)), (2, .int (iI s1.1)), (3, .int (iI s1.2.1))] → W p l e rX11_takeUp s mt args below meth c H locs 0 0 Q (F0 mt 29 ls [])) (K1 : c1 = 1 → ∀ (H : Heap) (locs : List Loc) (ls : Array Slot), r32 s1.1 → Wd G A s H0 ad g s1.2.2 H locs → lv_has ls 7 [(0, .ref (ad x0)), (1, .int (iI x1)), (2, .int (iI s1.1))] → W p l e rX11_takeUp s mt args below meth c H locs 0 0 Q (F0 mt 157 ls [])) : W p l e rX11_takeUp s mt args below meth c H locs 0 0 Q (F0 mt 96 ls [.int (iI z0)]) := by
  unfold bX11_takeUp_96 at hF
  refine q_istore C hl [(6, .int (iI z0)), (0, .ref (ad x0)), (1, .int (iI x1)), (2, .int (iI x2)), (3, .int (iI x3)), (4, .int (iI x4)), (5, .int (iI x5))] rfl (by decide) rfl dX11_takeUp_96 (fun ls hl => ?_)
  refine q_aload_n C hl 1 rfl rfl dX11_takeUp_98 ?_
  obtain ⟨k1, hF⟩ := ck_ok hF
  refine q_getr C S 0 fo_RX11_7 (j := 0) rfl rfl hx0 k1 (by decide) dX11_takeUp_99 ?_
  refine q_iload C hl 5 rfl dX11_takeUp_102 ?_
  refine q_dup2 C rfl rfl dX11_takeUp_104 ?_
  obtain ⟨i2, hF⟩ := ck_ok hF
  refine q_iald C S k1 i2 dX11_takeUp_105 ?_
  refine q_iload C hl 0 rfl dX11_takeUp_106 ?_
  refine q_iadd C dX11_takeUp_108 ?_
  obtain ⟨i3, hF⟩ := ck_ok hF
  obtain ⟨m4, em4, hF⟩ := vm_ok hF
  refine q_iast C S k1 i3 (r32_w _) em4 dX11_takeUp_109 (fun H locs Sm4 => ?_)
  refine q_iload_n C hl 3 rfl rfl dX11_takeUp_110 ?_
  refine q_iload C hl 0 rfl dX11_takeUp_111 ?_
  refine q_iadd C dX11_takeUp_113 ?_
  obtain ⟨y5, ey5, hF⟩ := vv_ok hF
  have ry5 : r32 y5 := ey5 ▸ (r32_w _)
  refine q_istore_n C hl [(2, .int (iI y5)), (6, .int (iI z0)), (0, .ref (ad x0)), (1, .int (iI x1)), (3, .int (iI x3)), (4, .int (iI x4)), (5, .int (iI x5))] ey5 rfl (by decide) rfl dX11_takeUp_114 (fun ls hl => ?_)
  refine q_aload_n C hl 2 rfl rfl dX11_takeUp_115 ?_
  obtain ⟨k6, hF⟩ := ck_ok hF
  refine q_getr C Sm4 0 fo_RX11_7 (j := 0) rfl rfl hx0 k6 (by decide) dX11_takeUp_116 ?_
  refine q_bipush C 32 (by decide) dX11_takeUp_119 ?_
  refine q_dup2 C rfl rfl dX11_takeUp_121 ?_
  obtain ⟨i7, hF⟩ := ck_ok hF
  refine q_iald C Sm4 k6 i7 dX11_takeUp_122 ?_
  refine q_aload_n C hl 2 rfl rfl dX11_takeUp_123 ?_
  obtain ⟨k8, hF⟩ := ck_ok hF
  refine q_getr C Sm4 19 fo_RX11_40 (j := 19) rfl rfl hx0 k8 (by decide) dX11_takeUp_124 ?_
  refine q_iload_n C hl 4 rfl rfl dX11_takeUp_127 ?_
  obtain ⟨i9, hF⟩ := ck_ok hF
  refine q_iald C Sm4 k8 i9 dX11_takeUp_128 ?_
  refine q_iload C hl 6 rfl dX11_takeUp_129 ?_
  refine q_iload C hl 1 rfl dX11_takeUp_131 ?_
  refine q_isub C dX11_takeUp_133 ?_
  refine q_imul C dX11_takeUp_134 ?_
  refine q_iadd C dX11_takeUp_135 ?_
  obtain ⟨i10, hF⟩ := ck_ok hF
  obtain ⟨m11, em11, hF⟩ := vm_ok hF
  refine q_iast C Sm4 k6 i10 (r32_w _) em11 dX11_takeUp_136 (fun H locs Sm11 => ?_)
  refine q_aload_n C hl 2 rfl rfl dX11_takeUp_137 ?_
  obtain ⟨k12, hF⟩ := ck_ok hF
  refine q_getr C Sm11 0 fo_RX11_7 (j := 0) rfl rfl hx0 k12 (by decide) dX11_takeUp_138 ?_
  refine q_bipush C 19 (by decide) dX11_takeUp_141 ?_
  refine q_iconst C 3 dX11_takeUp_143 ?_
  refine q_iload_n C hl 3 rfl rfl dX11_takeUp_144 ?_
  refine q_imul C dX11_takeUp_145 ?_
  refine q_iadd C dX11_takeUp_146 ?_
  refine q_iload_n C hl 4 rfl rfl dX11_takeUp_147 ?_
  refine q_iadd C dX11_takeUp_148 ?_
  refine q_iconst C 0 dX11_takeUp_149 ?_
  obtain ⟨i13, hF⟩ := ck_ok hF
  obtain ⟨m14, em14, hF⟩ := vm_ok hF
  refine q_iast C Sm11 k12 i13 (rl 0 rfl) em14 dX11_takeUp_150 (fun H locs Sm14 => ?_)
  obtain ⟨y15, ey15, hF⟩ := vv_ok hF
  have ry15 : r32 y15 := ey15 ▸ r32_w _
  refine q_iinc C hl 4 [(3, .int (iI y15)), (2, .int (iI y5)), (6, .int (iI z0)), (0, .ref (ad x0)), (1, .int (iI x1)), (4, .int (iI x4)), (5, .int (iI x5))] rfl ey15 (by decide) rfl dX11_takeUp_151 (fun ls hl => ?_)
  refine q_goto C 29 dX11_takeUp_154 (by decide) ?_
  cases hF
  exact K0 rfl _ _ _ ry5 ry15 Sm14 (lv_sub hl [3, 4, 1, 0] rfl)
set_option maxRecDepth 20000 in
theorem wX11_takeUp_29 {p : Program} {l : Launch} {e : Env} {s : State} {mt : MethodId} {args : Array Value} {below : List Frame} {meth : Method} {c : Code} {Q : State → Prop} {G : Gl} {A : Nat → Prop} {H0 : Heap} {ad : Int → Nat} {g : Shp} {H : Heap} {locs : List Loc} {ls : Array Slot} {m : Mem} {x0 x1 x2 x3 : Int} (C : CallFix p mt c cX11_takeUp 7 s args tb RX11) (S : Wd G A s H0 ad g m H locs) (hx0 : gk g x0 = 12) (hx1 : r32 x1) (hx2 : r32 x2) (hx3 : r32 x3) (hl : lv_has ls 7 [(0, .ref (ad x0)), (1, .int (iI x1)), (2, .int (iI x2)), (3, .int (iI x3))]) {c1 : Int} {s1 : (Int × Int × Mem)} (hF : bX11_takeUp_29 g x0 x1 x2 x3 m = some (c1, s1)) (K0 : c1 = 0 → ∀ (H : Heap) (locs : List Loc) (ls : Array Slot), r32 s1.1 → r32 s1.2.1 → Wd G A s H0 ad g s1.2.2 H locs → lv_has ls 7 [(0, .ref (ad x0)), (1, .int (iI x1)), (2, .int (iI s1.1)), (3, .int (iI s1.2.1))] → W p l e rX11_takeUp s mt args below meth c H locs 0 0 Q (F0 mt 29 ls [])) (K1 : c1 = 1 → ∀ (H : Heap) (locs : List Loc) (ls : Array Slot), r32 s1.1 → Wd G A s H0 ad g s1.2.2 H locs → lv_has ls 7 [(0, .ref (ad x0)), (1, .int (iI x1)), (2, .int (iI s1.1))] → W p l e rX11_takeUp s mt args below meth c H locs 0 0 Q (F0 mt 157 ls [])) : W p l e rX11_takeUp s mt args below meth c H locs 0 0 Q (F0 mt 29 ls []) := by
  unfold bX11_takeUp_29 at hF
  refine q_iload_n C hl 3 rfl rfl dX11_takeUp_29 ?_
  refine q_iconst C 3 dX11_takeUp_30 ?_
  refine q_icmp_ge C hx3 (rl 3 rfl) 157 dX11_takeUp_31 (by decide) (fun hc1 => ?_) (fun hc1 => ?_)
  · have hF := if_t hc1 hF
    cases hF
    exact K1 rfl _ _ _ hx2 S (lv_sub hl [0, 1, 2] rfl)
  · have hF := if_f hc1 hF
    refine q_iconst C 1 dX11_takeUp_34 ?_
    refine q_iconst C 3 dX11_takeUp_35 ?_
    refine q_aload_n C hl 0 rfl rfl dX11_takeUp_36 ?_
    obtain ⟨k2, hF⟩ := ck_ok hF
    refine q_getr C S 0 fo_RX11_7 (j := 0) rfl rfl hx0 k2 (by decide) dX11_takeUp_37 ?_
    refine q_bipush C 10 (by decide) dX11_takeUp_40 ?_
    refine q_iload_n C hl 1 rfl rfl dX11_takeUp_42 ?_
    refine q_iadd C dX11_takeUp_43 ?_
    obtain ⟨i3, hF⟩ := ck_ok hF
    refine q_iald C S k2 i3 dX11_takeUp_44 ?_
    refine q_imul C dX11_takeUp_45 ?_
    refine q_iadd C dX11_takeUp_46 ?_
    refine q_iload_n C hl 3 rfl rfl dX11_takeUp_47 ?_
    refine q_iadd C dX11_takeUp_48 ?_
    obtain ⟨y4, ey4, hF⟩ := vv_ok hF
    have ry4 : r32 y4 := ey4 ▸ (r32_w _)
    refine q_istore C hl [(4, .int (iI y4)), (0, .ref (ad x0)), (1, .int (iI x1)), (2, .int (iI x2)), (3, .int (iI x3))] ey4 (by decide) rfl dX11_takeUp_49 (fun ls hl => ?_)
    refine q_aload_n C hl 1 rfl rfl dX11_takeUp_51 ?_
    refine q_getr C S 0 fo_RX11_7 (j := 0) rfl rfl hx0 k2 (by decide) dX11_takeUp_52 ?_
    refine q_bipush C 19 (by decide) dX11_takeUp_55 ?_
    refine q_iconst C 3 dX11_takeUp_57 ?_
    refine q_iload_n C hl 2 rfl rfl dX11_takeUp_58 ?_
    refine q_imul C dX11_takeUp_59 ?_
    refine q_iadd C dX11_takeUp_60 ?_
    refine q_iload_n C hl 4 rfl rfl dX11_takeUp_61 ?_
    refine q_iadd C dX11_takeUp_62 ?_
    obtain ⟨i5, hF⟩ := ck_ok hF
    refine q_iald C S k2 i5 dX11_takeUp_63 ?_
    obtain ⟨y6, ey6, hF⟩ := vv_ok hF
    have ry6 : r32 y6 := ey6 ▸ (S.r _ _)
    refine q_istore C hl [(5, .int (iI y6)), (4, .int (iI y4)), (0, .ref (ad x0)), (1, .int (iI x1)), (2, .int (iI x2)), (3, .int (iI x3))] ey6 (by decide) rfl dX11_takeUp_64 (fun ls hl => ?_)
    refine q_iload C hl 0 rfl dX11_takeUp_66 ?_
    refine q_bipush C 6 (by decide) dX11_takeUp_68 ?_
    refine q_aload_n C hl 2 rfl rfl dX11_takeUp_70 ?_
    refine q_getr C S 0 fo_RX11_7 (j := 0) rfl rfl hx0 k2 (by decide) dX11_takeUp_71 ?_
    refine q_iload C hl 1 rfl dX11_takeUp_74 ?_
    obtain ⟨i7, hF⟩ := ck_ok hF
    refine q_iald C S k2 i7 dX11_takeUp_76 ?_
    refine q_isub C dX11_takeUp_77 ?_
    refine q_icmp_ge C ry6 (r32_w _) 86 dX11_takeUp_78 (by decide) (fun hc8 => ?_) (fun hc8 => ?_)
    · have hF := if_t hc8 hF
      refine q_bipush C 6 (by decide) dX11_takeUp_86 ?_
      refine q_aload_n C hl 2 rfl rfl dX11_takeUp_88 ?_
      refine q_getr C S 0 fo_RX11_7 (j := 0) rfl rfl hx0 k2 (by decide) dX11_takeUp_89 ?_
      refine q_iload C hl 1 rfl dX11_takeUp_92 ?_
      obtain ⟨i9, hF⟩ := ck_ok hF
      refine q_iald C S k2 i9 dX11_takeUp_94 ?_
      refine q_isub C dX11_takeUp_95 ?_
      exact wX11_takeUp_96 C S hx0 hx1 hx2 hx3 ry4 ry6 (r32_w _) (lv_sub hl [2, 3, 4, 5, 1, 0] rfl) hF K0 K1
    · have hF := if_f hc8 hF
      refine q_iload C hl 0 rfl dX11_takeUp_81 ?_
      refine q_goto C 96 dX11_takeUp_83 (by decide) ?_
      exact wX11_takeUp_96 C S hx0 hx1 hx2 hx3 ry4 ry6 ry6 (lv_sub hl [2, 3, 4, 5, 1, 0] rfl) hF K0 K1
set_option maxRecDepth 20000 in
theorem lX11_takeUp_29 {p : Program} {l : Launch} {e : Env} {s : State} {mt : MethodId} {args : Array Value} {below : List Frame} {meth : Method} {c : Code} {Q : State → Prop} {G : Gl} {A : Nat → Prop} {H0 : Heap} {ad : Int → Nat} {g : Shp} {x0 x1 : Int} (C : CallFix p mt c cX11_takeUp 7 s args tb RX11) (hx0 : gk g x0 = 12) (hx1 : r32 x1) {n : Nat} {s0 s1 : (Int × Int × Mem)} {c1 : Int} (hI : iter (BX11_takeUp_29 g x0 x1) n s0 = some (c1, s1)) (K1 : c1 = 1 → ∀ (H : Heap) (locs : List Loc) (ls : Array Slot), r32 s1.1 → Wd G A s H0 ad g s1.2.2 H locs → lv_has ls 7 [(0, .ref (ad x0)), (1, .int (iI x1)), (2, .int (iI s1.1))] → W p l e rX11_takeUp s mt args below meth c H locs 0 0 Q (F0 mt 157 ls [])) : ∀ (H : Heap) (locs : List Loc) (ls : Array Slot), r32 s0.1 → r32 s0.2.1 → Wd G A s H0 ad g s0.2.2 H locs → lv_has ls 7 [(0, .ref (ad x0)), (1, .int (iI x1)), (2, .int (iI s0.1)), (3, .int (iI s0.2.1))] → W p l e rX11_takeUp s mt args below meth c H locs 0 0 Q (F0 mt 29 ls []) :=
  iter_W (Pw := fun q => ∀ (H : Heap) (locs : List Loc) (ls : Array Slot), r32 q.1 → r32 q.2.1 → Wd G A s H0 ad g q.2.2 H locs → lv_has ls 7 [(0, .ref (ad x0)), (1, .int (iI x1)), (2, .int (iI q.1)), (3, .int (iI q.2.1))] → W p l e rX11_takeUp s mt args below meth c H locs 0 0 Q (F0 mt 29 ls [])) (Px := fun c0 q => (c0 = 1 → ∀ (H : Heap) (locs : List Loc) (ls : Array Slot), r32 q.1 → Wd G A s H0 ad g q.2.2 H locs → lv_has ls 7 [(0, .ref (ad x0)), (1, .int (iI x1)), (2, .int (iI q.1))] → W p l e rX11_takeUp s mt args below meth c H locs 0 0 Q (F0 mt 157 ls [])))
    (fun s c s' hB K0 kx H locs ls f0 f1 S hl => wX11_takeUp_29 C S hx0 hx1 f0 f1 hl hB K0 (fun h9 => (kx (by rw [h9]; decide)) h9)) _ _ _ _ hI K1
set_option maxRecDepth 20000 in
theorem wX11_takeUp_253 {p : Program} {l : Launch} {e : Env} {s : State} {mt : MethodId} {args : Array Value} {below : List Frame} {meth : Method} {c : Code} {Q : State → Prop} {G : Gl} {A : Nat → Prop} {H0 : Heap} {ad : Int → Nat} {g : Shp} {H : Heap} {locs : List Loc} {ls : Array Slot} {m : Mem} {x0 x1 x2 x3 z0 z1 z2 : Int} (C : CallFix p mt c cX11_takeUp 7 s args tb RX11) (S : Wd G A s H0 ad g m H locs) (hx0 : gk g x0 = 12) (hx1 : r32 x1) (hx2 : r32 x2) (hx3 : r32 x3) (hz0 : gk g z0 = 20) (hz1 : r32 z1) (hz2 : r32 z2) (hl : lv_has ls 7 [(0, .ref (ad x0)), (1, .int (iI x1)), (2, .int (iI x2)), (3, .int (iI x3))]) {c1 : Int} {s1 : (Int × Mem)} (hF : bX11_takeUp_253 g x0 x1 x2 x3 z0 z1 z2 m = some (c1, s1)) (K0 : c1 = 0 → ∀ (H : Heap) (locs : List Loc) (ls : Array Slot), r32 s1.1 → Wd G A s H0 ad g s1.2 H locs → lv_has ls 7 [(0, .ref (ad x0)), (1, .int (iI x1)), (2, .int (iI x2)), (3, .int (iI s1.1))] → W p l e rX11_takeUp s mt args below meth c H locs 0 0 Q (F0 mt 220 ls [])) (K1 : c1 = 1 → ∀ (H : Heap) (locs : List Loc) (ls : Array Slot), Wd G A s H0 ad g s1.2 H locs → lv_has ls 7 [(2, .int (iI x2))] → W p l e rX11_takeUp s mt args below meth c H locs 0 0 Q (F0 mt 260 ls [])) : W p l e rX11_takeUp s mt args below meth c H locs 0 0 Q (F0 mt 253 ls [.int (iI z2), .int (iI z1), .ref (ad z0)]) := by
  unfold bX11_takeUp_253 at hF
  obtain ⟨i1, hF⟩ := ck_ok hF
  obtain ⟨m2, em2, hF⟩ := vm_ok hF
  refine q_iast C S hz0 i1 hz2 em2 dX11_takeUp_253 (fun H locs Sm2 => ?_)
  obtain ⟨y3, ey3, hF⟩ := vv_ok hF
  have ry3 : r32 y3 := ey3 ▸ r32_w _
  refine q_iinc C hl 3 [(3, .int (iI y3)), (0, .ref (ad x0)), (1, .int (iI x1)), (2, .int (iI x2))] rfl ey3 (by decide) rfl dX11_takeUp_254 (fun ls hl => ?_)
  refine q_goto C 220 dX11_takeUp_257 (by decide) ?_
  cases hF
  exact K0 rfl _ _ _ ry3 Sm2 (lv_sub hl [1, 2, 3, 0] rfl)
set_option maxRecDepth 20000 in
theorem wX11_takeUp_220 {p : Program} {l : Launch} {e : Env} {s : State} {mt : MethodId} {args : Array Value} {below : List Frame} {meth : Method} {c : Code} {Q : State → Prop} {G : Gl} {A : Nat → Prop} {H0 : Heap} {ad : Int → Nat} {g : Shp} {H : Heap} {locs : List Loc} {ls : Array Slot} {m : Mem} {x0 x1 x2 x3 : Int} (C : CallFix p mt c cX11_takeUp 7 s args tb RX11) (S : Wd G A s H0 ad g m H locs) (hx0 : gk g x0 = 12) (hx1 : r32 x1) (hx2 : r32 x2) (hx3 : r32 x3) (hl : lv_has ls 7 [(0, .ref (ad x0)), (1, .int (iI x1)), (2, .int (iI x2)), (3, .int (iI x3))]) {c1 : Int} {s1 : (Int × Mem)} (hF : bX11_takeUp_220 g x0 x1 x2 x3 m = some (c1, s1)) (K0 : c1 = 0 → ∀ (H : Heap) (locs : List Loc) (ls : Array Slot), r32 s1.1 → Wd G A s H0 ad g s1.2 H locs → lv_has ls 7 [(0, .ref (ad x0)), (1, .int (iI x1)), (2, .int (iI x2)), (3, .int (iI s1.1))] → W p l e rX11_takeUp s mt args below meth c H locs 0 0 Q (F0 mt 220 ls [])) (K1 : c1 = 1 → ∀ (H : Heap) (locs : List Loc) (ls : Array Slot), Wd G A s H0 ad g s1.2 H locs → lv_has ls 7 [(2, .int (iI x2))] → W p l e rX11_takeUp s mt args below meth c H locs 0 0 Q (F0 mt 260 ls [])) : W p l e rX11_takeUp s mt args below meth c H locs 0 0 Q (F0 mt 220 ls []) := by
  unfold bX11_takeUp_220 at hF
  refine q_iload_n C hl 3 rfl rfl dX11_takeUp_220 ?_
  refine q_sipush C 433 (by decide) dX11_takeUp_221 ?_
  refine q_icmp_ge C hx3 (rl 433 rfl) 260 dX11_takeUp_224 (by decide) (fun hc1 => ?_) (fun hc1 => ?_)
  · have hF := if_t hc1 hF
    cases hF
    exact K1 rfl _ _ _  S (lv_sub hl [2] rfl)
  · have hF := if_f hc1 hF
    refine q_aload_n C hl 0 rfl rfl dX11_takeUp_227 ?_
    obtain ⟨k2, hF⟩ := ck_ok hF
    refine q_getr C S 0 fo_RX11_7 (j := 0) rfl rfl hx0 k2 (by decide) dX11_takeUp_228 ?_
    refine q_iload_n C hl 3 rfl rfl dX11_takeUp_231 ?_
    refine q_aload_n C hl 0 rfl rfl dX11_takeUp_232 ?_
    refine q_getr C S 0 fo_RX11_7 (j := 0) rfl rfl hx0 k2 (by decide) dX11_takeUp_233 ?_
    refine q_iload_n C hl 3 rfl rfl dX11_takeUp_236 ?_
    obtain ⟨i3, hF⟩ := ck_ok hF
    refine q_iald C S k2 i3 dX11_takeUp_237 ?_
    refine q_iload_n C hl 1 rfl rfl dX11_takeUp_238 ?_
    refine q_icmp_ne C (S.r _ _) hx1 247 dX11_takeUp_239 (by decide) (fun hc4 => ?_) (fun hc4 => ?_)
    · have hF := if_t hc4 hF
      refine q_bipush C (-4) (by decide) dX11_takeUp_242 ?_
      refine q_goto C 253 dX11_takeUp_244 (by decide) ?_
      exact wX11_takeUp_253 C S hx0 hx1 hx2 hx3 k2 hx3 (rl (-4) rfl) (lv_sub hl [0, 1, 2, 3] rfl) hF K0 K1
    · have hF := if_f hc4 hF
      refine q_aload_n C hl 0 rfl rfl dX11_takeUp_247 ?_
      refine q_getr C S 0 fo_RX11_7 (j := 0) rfl rfl hx0 k2 (by decide) dX11_takeUp_248 ?_
      refine q_iload_n C hl 3 rfl rfl dX11_takeUp_251 ?_
      obtain ⟨i5, hF⟩ := ck_ok hF
      refine q_iald C S k2 i5 dX11_takeUp_252 ?_
      exact wX11_takeUp_253 C S hx0 hx1 hx2 hx3 k2 hx3 (S.r _ _) (lv_sub hl [0, 1, 2, 3] rfl) hF K0 K1
set_option maxRecDepth 20000 in
theorem lX11_takeUp_220 {p : Program} {l : Launch} {e : Env} {s : State} {mt : MethodId} {args : Array Value} {below : List Frame} {meth : Method} {c : Code} {Q : State → Prop} {G : Gl} {A : Nat → Prop} {H0 : Heap} {ad : Int → Nat} {g : Shp} {x0 x1 x2 : Int} (C : CallFix p mt c cX11_takeUp 7 s args tb RX11) (hx0 : gk g x0 = 12) (hx1 : r32 x1) (hx2 : r32 x2) {n : Nat} {s0 s1 : (Int × Mem)} {c1 : Int} (hI : iter (BX11_takeUp_220 g x0 x1 x2) n s0 = some (c1, s1)) (K1 : c1 = 1 → ∀ (H : Heap) (locs : List Loc) (ls : Array Slot), Wd G A s H0 ad g s1.2 H locs → lv_has ls 7 [(2, .int (iI x2))] → W p l e rX11_takeUp s mt args below meth c H locs 0 0 Q (F0 mt 260 ls [])) : ∀ (H : Heap) (locs : List Loc) (ls : Array Slot), r32 s0.1 → Wd G A s H0 ad g s0.2 H locs → lv_has ls 7 [(0, .ref (ad x0)), (1, .int (iI x1)), (2, .int (iI x2)), (3, .int (iI s0.1))] → W p l e rX11_takeUp s mt args below meth c H locs 0 0 Q (F0 mt 220 ls []) :=
  iter_W (Pw := fun q => ∀ (H : Heap) (locs : List Loc) (ls : Array Slot), r32 q.1 → Wd G A s H0 ad g q.2 H locs → lv_has ls 7 [(0, .ref (ad x0)), (1, .int (iI x1)), (2, .int (iI x2)), (3, .int (iI q.1))] → W p l e rX11_takeUp s mt args below meth c H locs 0 0 Q (F0 mt 220 ls [])) (Px := fun c0 q => (c0 = 1 → ∀ (H : Heap) (locs : List Loc) (ls : Array Slot), Wd G A s H0 ad g q.2 H locs → lv_has ls 7 [(2, .int (iI x2))] → W p l e rX11_takeUp s mt args below meth c H locs 0 0 Q (F0 mt 260 ls [])))
    (fun s c s' hB K0 kx H locs ls f0 S hl => wX11_takeUp_220 C S hx0 hx1 hx2 f0 hl hB K0 (fun h9 => (kx (by rw [h9]; decide)) h9)) _ _ _ _ hI K1
set_option maxRecDepth 20000 in
theorem wX11_takeUp_260 {p : Program} {l : Launch} {e : Env} {s : State} {mt : MethodId} {args : Array Value} {below : List Frame} {meth : Method} {c : Code} {Q : State → Prop} {G : Gl} {A : Nat → Prop} {H0 : Heap} {ad : Int → Nat} {g : Shp} {H : Heap} {locs : List Loc} {ls : Array Slot} {m : Mem} {x2 : Int} (C : CallFix p mt c cX11_takeUp 7 s args tb RX11) (S : Wd G A s H0 ad g m H locs) (hx2 : r32 x2) (hl : lv_has ls 7 [(2, .int (iI x2))]) {r : Int} {m' : Mem} (hF : bX11_takeUp_260 g x2 m = some (r, m')) (Kr : ∀ (H : Heap) (locs : List Loc) (pc : Nat) (ls : Array Slot), Wd G A s H0 ad g m' H locs → decode cX11_takeUp pc = .ok (.ireturn, 1) → r32 r ∧ (false = true → r = 0 ∨ r = 1) → narrow .int (.int (iI r)) = .int (iI r) → W p l e rX11_takeUp s mt args below meth c H locs 0 0 Q (F0 mt pc ls [.int (iI r)])) : W p l e rX11_takeUp s mt args below meth c H locs 0 0 Q (F0 mt 260 ls []) := by
  unfold bX11_takeUp_260 at hF
  refine q_iload_n C hl 0 rfl rfl dX11_takeUp_260 ?_
  cases hF
  exact Kr _ _ _ _ S dX11_takeUp_261 ⟨hx2, fun h9 => absurd h9 (by decide)⟩ rfl
set_option maxRecDepth 20000 in
theorem wX11_takeUp_157 {p : Program} {l : Launch} {e : Env} {s : State} {mt : MethodId} {args : Array Value} {below : List Frame} {meth : Method} {c : Code} {Q : State → Prop} {G : Gl} {A : Nat → Prop} {H0 : Heap} {ad : Int → Nat} {g : Shp} {H : Heap} {locs : List Loc} {ls : Array Slot} {m : Mem} {x0 x1 x2 : Int} (C : CallFix p mt c cX11_takeUp 7 s args tb RX11) (S : Wd G A s H0 ad g m H locs) (hx0 : gk g x0 = 12) (hx1 : r32 x1) (hx2 : r32 x2) (hl : lv_has ls 7 [(0, .ref (ad x0)), (1, .int (iI x1)), (2, .int (iI x2))]) {r : Int} {m' : Mem} (hF : bX11_takeUp_157 g x0 x1 x2 m = some (r, m')) (Kr : ∀ (H : Heap) (locs : List Loc) (pc : Nat) (ls : Array Slot), Wd G A s H0 ad g m' H locs → decode cX11_takeUp pc = .ok (.ireturn, 1) → r32 r ∧ (false = true → r = 0 ∨ r = 1) → narrow .int (.int (iI r)) = .int (iI r) → W p l e rX11_takeUp s mt args below meth c H locs 0 0 Q (F0 mt pc ls [.int (iI r)])) : W p l e rX11_takeUp s mt args below meth c H locs 0 0 Q (F0 mt 157 ls []) := by
  unfold bX11_takeUp_157 at hF
  refine q_aload_n C hl 0 rfl rfl dX11_takeUp_157 ?_
  obtain ⟨k1, hF⟩ := ck_ok hF
  refine q_getr C S 0 fo_RX11_7 (j := 0) rfl rfl hx0 k1 (by decide) dX11_takeUp_158 ?_
  refine q_bipush C 32 (by decide) dX11_takeUp_161 ?_
  refine q_dup2 C rfl rfl dX11_takeUp_163 ?_
  obtain ⟨i2, hF⟩ := ck_ok hF
  refine q_iald C S k1 i2 dX11_takeUp_164 ?_
  refine q_aload_n C hl 0 rfl rfl dX11_takeUp_165 ?_
  refine q_getr C S 0 fo_RX11_7 (j := 0) rfl rfl hx0 k1 (by decide) dX11_takeUp_166 ?_
  refine q_bipush C 28 (by decide) dX11_takeUp_169 ?_
  refine q_iload_n C hl 1 rfl rfl dX11_takeUp_171 ?_
  refine q_iadd C dX11_takeUp_172 ?_
  obtain ⟨i3, hF⟩ := ck_ok hF
  refine q_iald C S k1 i3 dX11_takeUp_173 ?_
  refine q_iadd C dX11_takeUp_174 ?_
  obtain ⟨i4, hF⟩ := ck_ok hF
  obtain ⟨m5, em5, hF⟩ := vm_ok hF
  refine q_iast C S k1 i4 (r32_w _) em5 dX11_takeUp_175 (fun H locs Sm5 => ?_)
  refine q_aload_n C hl 0 rfl rfl dX11_takeUp_176 ?_
  obtain ⟨k6, hF⟩ := ck_ok hF
  refine q_getr C Sm5 0 fo_RX11_7 (j := 0) rfl rfl hx0 k6 (by decide) dX11_takeUp_177 ?_
  refine q_bipush C 28 (by decide) dX11_takeUp_180 ?_
  refine q_iload_n C hl 1 rfl rfl dX11_takeUp_182 ?_
  refine q_iadd C dX11_takeUp_183 ?_
  refine q_iconst C 0 dX11_takeUp_184 ?_
  obtain ⟨i7, hF⟩ := ck_ok hF
  obtain ⟨m8, em8, hF⟩ := vm_ok hF
  refine q_iast C Sm5 k6 i7 (rl 0 rfl) em8 dX11_takeUp_185 (fun H locs Sm8 => ?_)
  refine q_aload_n C hl 0 rfl rfl dX11_takeUp_186 ?_
  obtain ⟨k9, hF⟩ := ck_ok hF
  refine q_getr C Sm8 0 fo_RX11_7 (j := 0) rfl rfl hx0 k9 (by decide) dX11_takeUp_187 ?_
  refine q_bipush C 13 (by decide) dX11_takeUp_190 ?_
  refine q_iload_n C hl 1 rfl rfl dX11_takeUp_192 ?_
  refine q_iadd C dX11_takeUp_193 ?_
  refine q_iconst C 0 dX11_takeUp_194 ?_
  obtain ⟨i10, hF⟩ := ck_ok hF
  obtain ⟨m11, em11, hF⟩ := vm_ok hF
  refine q_iast C Sm8 k9 i10 (rl 0 rfl) em11 dX11_takeUp_195 (fun H locs Sm11 => ?_)
  refine q_aload_n C hl 0 rfl rfl dX11_takeUp_196 ?_
  obtain ⟨k12, hF⟩ := ck_ok hF
  refine q_getr C Sm11 0 fo_RX11_7 (j := 0) rfl rfl hx0 k12 (by decide) dX11_takeUp_197 ?_
  refine q_bipush C 16 (by decide) dX11_takeUp_200 ?_
  refine q_iload_n C hl 1 rfl rfl dX11_takeUp_202 ?_
  refine q_iadd C dX11_takeUp_203 ?_
  refine q_iconst C 0 dX11_takeUp_204 ?_
  obtain ⟨i13, hF⟩ := ck_ok hF
  obtain ⟨m14, em14, hF⟩ := vm_ok hF
  refine q_iast C Sm11 k12 i13 (rl 0 rfl) em14 dX11_takeUp_205 (fun H locs Sm14 => ?_)
  refine q_aload_n C hl 0 rfl rfl dX11_takeUp_206 ?_
  obtain ⟨k15, hF⟩ := ck_ok hF
  refine q_getr C Sm14 0 fo_RX11_7 (j := 0) rfl rfl hx0 k15 (by decide) dX11_takeUp_207 ?_
  refine q_bipush C 10 (by decide) dX11_takeUp_210 ?_
  refine q_iload_n C hl 1 rfl rfl dX11_takeUp_212 ?_
  refine q_iadd C dX11_takeUp_213 ?_
  refine q_bipush C (-4) (by decide) dX11_takeUp_214 ?_
  obtain ⟨i16, hF⟩ := ck_ok hF
  obtain ⟨m17, em17, hF⟩ := vm_ok hF
  refine q_iast C Sm14 k15 i16 (rl (-4) rfl) em17 dX11_takeUp_216 (fun H locs Sm17 => ?_)
  refine q_bipush C 33 (by decide) dX11_takeUp_217 ?_
  refine q_istore_n C hl [(3, .int (iI 33)), (0, .ref (ad x0)), (1, .int (iI x1)), (2, .int (iI x2))] rfl rfl (by decide) rfl dX11_takeUp_219 (fun ls hl => ?_)
  obtain ⟨cv18, sv19, hi20, hF⟩ := bdl_ok hF
  refine lX11_takeUp_220 C hx0 hx1 hx2 hi20 ?_ _ _ _ (rl 33 rfl) Sm17 (lv_sub hl [1, 2, 3, 0] rfl)
  intro _ H locs ls  S21 hl
  exact wX11_takeUp_260 C S21 hx2 (lv_sub hl [0] rfl) hF Kr
set_option maxRecDepth 20000 in
theorem wX11_takeUp_0 {p : Program} {l : Launch} {e : Env} {s : State} {mt : MethodId} {args : Array Value} {below : List Frame} {meth : Method} {c : Code} {Q : State → Prop} {G : Gl} {A : Nat → Prop} {H0 : Heap} {ad : Int → Nat} {g : Shp} {H : Heap} {locs : List Loc} {ls : Array Slot} {m : Mem} {x0 x1 : Int} (C : CallFix p mt c cX11_takeUp 7 s args tb RX11) (S : Wd G A s H0 ad g m H locs) (hx0 : gk g x0 = 12) (hx1 : r32 x1) (hl : lv_has ls 7 [(0, .ref (ad x0)), (1, .int (iI x1))]) {r : Int} {m' : Mem} (hF : bX11_takeUp_0 g x0 x1 m = some (r, m')) (Kr : ∀ (H : Heap) (locs : List Loc) (pc : Nat) (ls : Array Slot), Wd G A s H0 ad g m' H locs → decode cX11_takeUp pc = .ok (.ireturn, 1) → r32 r ∧ (false = true → r = 0 ∨ r = 1) → narrow .int (.int (iI r)) = .int (iI r) → W p l e rX11_takeUp s mt args below meth c H locs 0 0 Q (F0 mt pc ls [.int (iI r)])) : W p l e rX11_takeUp s mt args below meth c H locs 0 0 Q (F0 mt 0 ls []) := by
  unfold bX11_takeUp_0 at hF
  refine q_aload_n C hl 0 rfl rfl dX11_takeUp_0 ?_
  refine q_iload_n C hl 1 rfl rfl dX11_takeUp_1 ?_
  obtain ⟨v1, m2, h3, hF⟩ := bd2_ok hF
  refine q_ci S (run_V (As := [.int (iI x1)]) (rest := []) C S (cX11_isLine_ok l G hx0 hx1 h3 ad _) hx0 ⟨by decide, _, _, rfl⟩ gd_RX11_176 hdV_X11_isLine rfl ⟨rfl, rfl, by decide, by decide⟩ ⟨Nat.zero_le _, Nat.zero_le _⟩ hl.1 rfl (Nat.le_of_ble_eq_true rfl) dX11_takeUp_2) (fun H locs Sm2 h4 => ?_)
  refine q_if_ne C h4.1 10 dX11_takeUp_5 (by decide) (fun hc5 => ?_) (fun hc5 => ?_)
  · have hF := if_t hc5 hF
    refine q_iconst C (-1) dX11_takeUp_8 ?_
    cases hF
    exact Kr _ _ _ _ Sm2 dX11_takeUp_9 ⟨(rl (-1) rfl), fun h9 => absurd h9 (by decide)⟩ rfl
  · have hF := if_f hc5 hF
    refine q_aload_n C hl 0 rfl rfl dX11_takeUp_10 ?_
    refine q_iload_n C hl 1 rfl rfl dX11_takeUp_11 ?_
    obtain ⟨v6, m7, h8, hF⟩ := bd2_ok hF
    refine q_ci Sm2 (run_V (As := [.int (iI x1)]) (rest := []) C Sm2 (cX11_isCovered_ok l G hx0 hx1 h8 ad _) hx0 ⟨by decide, _, _, rfl⟩ gd_RX11_190 hdV_X11_isCovered rfl ⟨rfl, rfl, by decide, by decide⟩ ⟨Nat.zero_le _, Nat.zero_le _⟩ hl.1 rfl (Nat.le_of_ble_eq_true rfl) dX11_takeUp_12) (fun H locs Sm7 h9 => ?_)
    refine q_if_ne C h9.1 21 dX11_takeUp_15 (by decide) (fun hc10 => ?_) (fun hc10 => ?_)
    · have hF := if_t hc10 hF
      refine q_bipush C (-2) (by decide) dX11_takeUp_18 ?_
      cases hF
      exact Kr _ _ _ _ Sm7 dX11_takeUp_20 ⟨(rl (-2) rfl), fun h9 => absurd h9 (by decide)⟩ rfl
    · have hF := if_f hc10 hF
      refine q_aload_n C hl 0 rfl rfl dX11_takeUp_21 ?_
      obtain ⟨v11, m12, h13, hF⟩ := bd2_ok hF
      refine q_cv Sm7 (run_V (As := []) (rest := []) C Sm7 (cX11_note_ok l G hx0 h13 ad _) hx0 ⟨by decide, _, _, rfl⟩ gd_RX11_173 hdV_X11_note rfl ⟨rfl, rfl, by decide, by decide⟩ ⟨Nat.zero_le _, Nat.zero_le _⟩ hl.1 rfl (Nat.le_of_ble_eq_true rfl) dX11_takeUp_22) (fun H locs Sm12 => ?_)
      refine q_iconst C 0 dX11_takeUp_25 ?_
      refine q_istore_n C hl [(2, .int (iI 0)), (0, .ref (ad x0)), (1, .int (iI x1))] rfl rfl (by decide) rfl dX11_takeUp_26 (fun ls hl => ?_)
      refine q_iconst C 0 dX11_takeUp_27 ?_
      refine q_istore_n C hl [(3, .int (iI 0)), (2, .int (iI 0)), (0, .ref (ad x0)), (1, .int (iI x1))] rfl rfl (by decide) rfl dX11_takeUp_28 (fun ls hl => ?_)
      obtain ⟨cv14, sv15, hi16, hF⟩ := bdl_ok hF
      refine lX11_takeUp_29 C hx0 hx1 hi16 ?_ _ _ _ (rl 0 rfl) (rl 0 rfl) Sm12 (lv_sub hl [2, 3, 1, 0] rfl)
      intro _ H locs ls f18 S17 hl
      exact wX11_takeUp_157 C S17 hx0 hx1 f18 (lv_sub hl [0, 1, 2] rfl) hF Kr
theorem cX11_takeUp_ok (l : Launch) (G : Gl) {g : Shp} {x0 x1 : Int} {m m' : Mem} {r : Int} (hx0 : gk g x0 = 12) (hx1 : r32 x1) (hF : fX11_takeUp g x0 x1 m = some (r, m')) : mI l yX11_takeUp (wT yX11_takeUp cX11_takeUp 7 (some .int)) rX11_takeUp G false (fun ad => [.ref (ad x0), .int (iI x1)]) g m r m' :=
  met_i (by decide) (fun ad => Nat.le_of_ble_eq_true rfl) (fun p e s mt args below meth c Q A H0 H locs ad ls C hnm S hl Kr => wX11_takeUp_0 C S hx0 hx1 hl hF Kr)
set_option maxRecDepth 20000 in
theorem wX11_isTurns_101 {p : Program} {l : Launch} {e : Env} {s : State} {mt : MethodId} {args : Array Value} {below : List Frame} {meth : Method} {c : Code} {Q : State → Prop} {G : Gl} {A : Nat → Prop} {H0 : Heap} {ad : Int → Nat} {g : Shp} {H : Heap} {locs : List Loc} {ls : Array Slot} {m : Mem} {x0 x1 x3 x4 z0 : Int} (C : CallFix p mt c cX11_isTurns 5 s args tb RX11) (S : Wd G A s H0 ad g m H locs) (hx0 : gk g x0 = 12) (hx1 : r32 x1) (hx3 : r32 x3) (hx4 : r32 x4) (hz0 : r32 z0) (hl : lv_has ls 5 [(0, .ref (ad x0)), (1, .int (iI x1)), (3, .int (iI x3)), (4, .int (iI x4))]) {c1 : Int} {s1 : (Int × Int × Mem)} (hF : bX11_isTurns_101 g x0 x1 x3 x4 z0 m = some (c1, s1)) (K0 : c1 = 0 → ∀ (H : Heap) (locs : List Loc) (ls : Array Slot), r32 s1.1 → r32 s1.2.1 → Wd G A s H0 ad g s1.2.2 H locs → lv_has ls 5 [(0, .ref (ad x0)), (1, .int (iI x1)), (2, .int (iI s1.1)), (3, .int (iI x3)), (4, .int (iI s1.2.1))] → W p l e rX11_isTurns s mt args below meth c H locs 0 0 Q (F0 mt 65 ls [])) (K1 : c1 = 1 → ∀ (H : Heap) (locs : List Loc) (ls : Array Slot), r32 s1.1 → Wd G A s H0 ad g s1.2.2 H locs → lv_has ls 5 [(0, .ref (ad x0)), (1, .int (iI x1)), (2, .int (iI s1.1)), (3, .int (iI x3))] → W p l e rX11_isTurns s mt args below meth c H locs 0 0 Q (F0 mt 108 ls [])) : W p l e rX11_isTurns s mt args below meth c H locs 0 0 Q (F0 mt 101 ls [.int (iI z0)]) := by
  unfold bX11_isTurns_101 at hF
  refine q_istore_n C hl [(2, .int (iI z0)), (0, .ref (ad x0)), (1, .int (iI x1)), (3, .int (iI x3)), (4, .int (iI x4))] rfl rfl (by decide) rfl dX11_isTurns_101 (fun ls hl => ?_)
  obtain ⟨y1, ey1, hF⟩ := vv_ok hF
  have ry1 : r32 y1 := ey1 ▸ r32_w _
  refine q_iinc C hl 4 [(4, .int (iI y1)), (2, .int (iI z0)), (0, .ref (ad x0)), (1, .int (iI x1)), (3, .int (iI x3))] rfl ey1 (by decide) rfl dX11_isTurns_102 (fun ls hl => ?_)
  refine q_goto C 65 dX11_isTurns_105 (by decide) ?_
  cases hF
  exact K0 rfl _ _ _ hz0 ry1 S (lv_sub hl [2, 3, 1, 4, 0] rfl)
set_option maxRecDepth 20000 in
theorem wX11_isTurns_100 {p : Program} {l : Launch} {e : Env} {s : State} {mt : MethodId} {args : Array Value} {below : List Frame} {meth : Method} {c : Code} {Q : State → Prop} {G : Gl} {A : Nat → Prop} {H0 : Heap} {ad : Int → Nat} {g : Shp} {H : Heap} {locs : List Loc} {ls : Array Slot} {m : Mem} {x0 x1 x3 x4 : Int} (C : CallFix p mt c cX11_isTurns 5 s args tb RX11) (S : Wd G A s H0 ad g m H locs) (hx0 : gk g x0 = 12) (hx1 : r32 x1) (hx3 : r32 x3) (hx4 : r32 x4) (hl : lv_has ls 5 [(0, .ref (ad x0)), (1, .int (iI x1)), (3, .int (iI x3)), (4, .int (iI x4))]) {c1 : Int} {s1 : (Int × Int × Mem)} (hF : bX11_isTurns_100 g x0 x1 x3 x4 m = some (c1, s1)) (K0 : c1 = 0 → ∀ (H : Heap) (locs : List Loc) (ls : Array Slot), r32 s1.1 → r32 s1.2.1 → Wd G A s H0 ad g s1.2.2 H locs → lv_has ls 5 [(0, .ref (ad x0)), (1, .int (iI x1)), (2, .int (iI s1.1)), (3, .int (iI x3)), (4, .int (iI s1.2.1))] → W p l e rX11_isTurns s mt args below meth c H locs 0 0 Q (F0 mt 65 ls [])) (K1 : c1 = 1 → ∀ (H : Heap) (locs : List Loc) (ls : Array Slot), r32 s1.1 → Wd G A s H0 ad g s1.2.2 H locs → lv_has ls 5 [(0, .ref (ad x0)), (1, .int (iI x1)), (2, .int (iI s1.1)), (3, .int (iI x3))] → W p l e rX11_isTurns s mt args below meth c H locs 0 0 Q (F0 mt 108 ls [])) : W p l e rX11_isTurns s mt args below meth c H locs 0 0 Q (F0 mt 100 ls []) := by
  unfold bX11_isTurns_100 at hF
  refine q_iconst C 0 dX11_isTurns_100 ?_
  exact wX11_isTurns_101 C S hx0 hx1 hx3 hx4 (rl 0 rfl) (lv_sub hl [0, 1, 2, 3] rfl) hF K0 K1
set_option maxRecDepth 20000 in
theorem wX11_isTurns_65 {p : Program} {l : Launch} {e : Env} {s : State} {mt : MethodId} {args : Array Value} {below : List Frame} {meth : Method} {c : Code} {Q : State → Prop} {G : Gl} {A : Nat → Prop} {H0 : Heap} {ad : Int → Nat} {g : Shp} {H : Heap} {locs : List Loc} {ls : Array Slot} {m : Mem} {x0 x1 x2 x3 x4 : Int} (C : CallFix p mt c cX11_isTurns 5 s args tb RX11) (S : Wd G A s H0 ad g m H locs) (hx0 : gk g x0 = 12) (hx1 : r32 x1) (hx2 : r32 x2) (hx3 : r32 x3) (hx4 : r32 x4) (hl : lv_has ls 5 [(0, .ref (ad x0)), (1, .int (iI x1)), (2, .int (iI x2)), (3, .int (iI x3)), (4, .int (iI x4))]) {c1 : Int} {s1 : (Int × Int × Mem)} (hF : bX11_isTurns_65 g x0 x1 x2 x3 x4 m = some (c1, s1)) (K0 : c1 = 0 → ∀ (H : Heap) (locs : List Loc) (ls : Array Slot), r32 s1.1 → r32 s1.2.1 → Wd G A s H0 ad g s1.2.2 H locs → lv_has ls 5 [(0, .ref (ad x0)), (1, .int (iI x1)), (2, .int (iI s1.1)), (3, .int (iI x3)), (4, .int (iI s1.2.1))] → W p l e rX11_isTurns s mt args below meth c H locs 0 0 Q (F0 mt 65 ls [])) (K1 : c1 = 1 → ∀ (H : Heap) (locs : List Loc) (ls : Array Slot), r32 s1.1 → Wd G A s H0 ad g s1.2.2 H locs → lv_has ls 5 [(0, .ref (ad x0)), (1, .int (iI x1)), (2, .int (iI s1.1)), (3, .int (iI x3))] → W p l e rX11_isTurns s mt args below meth c H locs 0 0 Q (F0 mt 108 ls [])) : W p l e rX11_isTurns s mt args below meth c H locs 0 0 Q (F0 mt 65 ls []) := by
  unfold bX11_isTurns_65 at hF
  refine q_iload C hl 4 rfl dX11_isTurns_65 ?_
  refine q_iload_n C hl 3 rfl rfl dX11_isTurns_67 ?_
  refine q_icmp_ge C hx4 hx3 108 dX11_isTurns_68 (by decide) (fun hc1 => ?_) (fun hc1 => ?_)
  · have hF := if_t hc1 hF
    cases hF
    exact K1 rfl _ _ _ hx2 S (lv_sub hl [0, 1, 2, 3] rfl)
  · have hF := if_f hc1 hF
    refine q_iload_n C hl 3 rfl rfl dX11_isTurns_71 ?_
    refine q_iload_n C hl 1 rfl rfl dX11_isTurns_72 ?_
    refine q_icmp_ge C hx3 hx1 108 dX11_isTurns_73 (by decide) (fun hc2 => ?_) (fun hc2 => ?_)
    · have hF := if_t hc2 hF
      cases hF
      exact K1 rfl _ _ _ hx2 S (lv_sub hl [0, 1, 2, 3] rfl)
    · have hF := if_f hc2 hF
      refine q_iload_n C hl 2 rfl rfl dX11_isTurns_76 ?_
      refine q_if_eq C hx2 100 dX11_isTurns_77 (by decide) (fun hc3 => ?_) (fun hc3 => ?_)
      · have hF := if_t hc3 hF
        exact wX11_isTurns_100 C S hx0 hx1 hx3 hx4 (lv_sub hl [0, 1, 3, 4] rfl) hF K0 K1
      · have hF := if_f hc3 hF
        refine q_aload_n C hl 0 rfl rfl dX11_isTurns_80 ?_
        obtain ⟨k4, hF⟩ := ck_ok hF
        refine q_getr C S 38 fo_RX11_86 (j := 38) rfl rfl hx0 k4 (by decide) dX11_isTurns_81 ?_
        refine q_iload C hl 4 rfl dX11_isTurns_84 ?_
        obtain ⟨i5, hF⟩ := ck_ok hF
        refine q_iald C S k4 i5 dX11_isTurns_86 ?_
        refine q_aload_n C hl 0 rfl rfl dX11_isTurns_87 ?_
        refine q_getr C S 38 fo_RX11_86 (j := 38) rfl rfl hx0 k4 (by decide) dX11_isTurns_88 ?_
        refine q_iload_n C hl 3 rfl rfl dX11_isTurns_91 ?_
        obtain ⟨i6, hF⟩ := ck_ok hF
        refine q_iald C S k4 i6 dX11_isTurns_92 ?_
        refine q_icmp_eq C (S.r _ _) (S.r _ _) 100 dX11_isTurns_93 (by decide) (fun hc7 => ?_) (fun hc7 => ?_)
        · have hF := if_t hc7 hF
          exact wX11_isTurns_100 C S hx0 hx1 hx3 hx4 (lv_sub hl [0, 1, 3, 4] rfl) hF K0 K1
        · have hF := if_f hc7 hF
          refine q_iconst C 1 dX11_isTurns_96 ?_
          refine q_goto C 101 dX11_isTurns_97 (by decide) ?_
          exact wX11_isTurns_101 C S hx0 hx1 hx3 hx4 (rl 1 rfl) (lv_sub hl [0, 1, 3, 4] rfl) hF K0 K1
set_option maxRecDepth 20000 in
theorem lX11_isTurns_65 {p : Program} {l : Launch} {e : Env} {s : State} {mt : MethodId} {args : Array Value} {below : List Frame} {meth : Method} {c : Code} {Q : State → Prop} {G : Gl} {A : Nat → Prop} {H0 : Heap} {ad : Int → Nat} {g : Shp} {x0 x1 x3 : Int} (C : CallFix p mt c cX11_isTurns 5 s args tb RX11) (hx0 : gk g x0 = 12) (hx1 : r32 x1) (hx3 : r32 x3) {n : Nat} {s0 s1 : (Int × Int × Mem)} {c1 : Int} (hI : iter (BX11_isTurns_65 g x0 x1 x3) n s0 = some (c1, s1)) (K1 : c1 = 1 → ∀ (H : Heap) (locs : List Loc) (ls : Array Slot), r32 s1.1 → Wd G A s H0 ad g s1.2.2 H locs → lv_has ls 5 [(0, .ref (ad x0)), (1, .int (iI x1)), (2, .int (iI s1.1)), (3, .int (iI x3))] → W p l e rX11_isTurns s mt args below meth c H locs 0 0 Q (F0 mt 108 ls [])) : ∀ (H : Heap) (locs : List Loc) (ls : Array Slot), r32 s0.1 → r32 s0.2.1 → Wd G A s H0 ad g s0.2.2 H locs → lv_has ls 5 [(0, .ref (ad x0)), (1, .int (iI x1)), (2, .int (iI s0.1)), (3, .int (iI x3)), (4, .int (iI s0.2.1))] → W p l e rX11_isTurns s mt args below meth c H locs 0 0 Q (F0 mt 65 ls []) :=
  iter_W (Pw := fun q => ∀ (H : Heap) (locs : List Loc) (ls : Array Slot), r32 q.1 → r32 q.2.1 → Wd G A s H0 ad g q.2.2 H locs → lv_has ls 5 [(0, .ref (ad x0)), (1, .int (iI x1)), (2, .int (iI q.1)), (3, .int (iI x3)), (4, .int (iI q.2.1))] → W p l e rX11_isTurns s mt args below meth c H locs 0 0 Q (F0 mt 65 ls [])) (Px := fun c0 q => (c0 = 1 → ∀ (H : Heap) (locs : List Loc) (ls : Array Slot), r32 q.1 → Wd G A s H0 ad g q.2.2 H locs → lv_has ls 5 [(0, .ref (ad x0)), (1, .int (iI x1)), (2, .int (iI q.1)), (3, .int (iI x3))] → W p l e rX11_isTurns s mt args below meth c H locs 0 0 Q (F0 mt 108 ls [])))
    (fun s c s' hB K0 kx H locs ls f0 f1 S hl => wX11_isTurns_65 C S hx0 hx1 f0 hx3 f1 hl hB K0 (fun h9 => (kx (by rw [h9]; decide)) h9)) _ _ _ _ hI K1
set_option maxRecDepth 20000 in
theorem wX11_isTurns_108 {p : Program} {l : Launch} {e : Env} {s : State} {mt : MethodId} {args : Array Value} {below : List Frame} {meth : Method} {c : Code} {Q : State → Prop} {G : Gl} {A : Nat → Prop} {H0 : Heap} {ad : Int → Nat} {g : Shp} {H : Heap} {locs : List Loc} {ls : Array Slot} {m : Mem} {x0 x1 x2 x3 : Int} (C : CallFix p mt c cX11_isTurns 5 s args tb RX11) (S : Wd G A s H0 ad g m H locs) (hx0 : gk g x0 = 12) (hx1 : r32 x1) (hx2 : r32 x2) (hx3 : r32 x3) (hl : lv_has ls 5 [(0, .ref (ad x0)), (1, .int (iI x1)), (2, .int (iI x2)), (3, .int (iI x3))]) {c1 : Int} {s1 : (Int × Int × Mem)} (hF : bX11_isTurns_108 g x0 x1 x2 x3 m = some (c1, s1)) (K0 : c1 = 0 → ∀ (H : Heap) (locs : List Loc) (ls : Array Slot), r32 s1.1 → r32 s1.2.1 → Wd G A s H0 ad g s1.2.2 H locs → lv_has ls 5 [(0, .ref (ad x0)), (1, .int (iI x1)), (2, .int (iI s1.1)), (3, .int (iI s1.2.1))] → W p l e rX11_isTurns s mt args below meth c H locs 0 0 Q (F0 mt 4 ls [])) (K1 : c1 = 1 → ∀ (H : Heap) (locs : List Loc) (ls : Array Slot), r32 s1.1 → Wd G A s H0 ad g s1.2.2 H locs → lv_has ls 5 [(2, .int (iI s1.1))] → W p l e rX11_isTurns s mt args below meth c H locs 0 0 Q (F0 mt 114 ls [])) : W p l e rX11_isTurns s mt args below meth c H locs 0 0 Q (F0 mt 108 ls []) := by
  unfold bX11_isTurns_108 at hF
  obtain ⟨y1, ey1, hF⟩ := vv_ok hF
  have ry1 : r32 y1 := ey1 ▸ r32_w _
  refine q_iinc C hl 3 [(3, .int (iI y1)), (0, .ref (ad x0)), (1, .int (iI x1)), (2, .int (iI x2))] rfl ey1 (by decide) rfl dX11_isTurns_108 (fun ls hl => ?_)
  refine q_goto C 4 dX11_isTurns_111 (by decide) ?_
  cases hF
  exact K0 rfl _ _ _ hx2 ry1 S (lv_sub hl [1, 2, 3, 0] rfl)
set_option maxRecDepth 20000 in
theorem wX11_isTurns_61 {p : Program} {l : Launch} {e : Env} {s : State} {mt : MethodId} {args : Array Value} {below : List Frame} {meth : Method} {c : Code} {Q : State → Prop} {G : Gl} {A : Nat → Prop} {H0 : Heap} {ad : Int → Nat} {g : Shp} {H : Heap} {locs : List Loc} {ls : Array Slot} {m : Mem} {x0 x1 x3 z0 : Int} (C : CallFix p mt c cX11_isTurns 5 s args tb RX11) (S : Wd G A s H0 ad g m H locs) (hx0 : gk g x0 = 12) (hx1 : r32 x1) (hx3 : r32 x3) (hz0 : r32 z0) (hl : lv_has ls 5 [(0, .ref (ad x0)), (1, .int (iI x1)), (3, .int (iI x3))]) {c1 : Int} {s1 : (Int × Int × Mem)} (hF : bX11_isTurns_61 g x0 x1 x3 z0 m = some (c1, s1)) (K0 : c1 = 0 → ∀ (H : Heap) (locs : List Loc) (ls : Array Slot), r32 s1.1 → r32 s1.2.1 → Wd G A s H0 ad g s1.2.2 H locs → lv_has ls 5 [(0, .ref (ad x0)), (1, .int (iI x1)), (2, .int (iI s1.1)), (3, .int (iI s1.2.1))] → W p l e rX11_isTurns s mt args below meth c H locs 0 0 Q (F0 mt 4 ls [])) (K1 : c1 = 1 → ∀ (H : Heap) (locs : List Loc) (ls : Array Slot), r32 s1.1 → Wd G A s H0 ad g s1.2.2 H locs → lv_has ls 5 [(2, .int (iI s1.1))] → W p l e rX11_isTurns s mt args below meth c H locs 0 0 Q (F0 mt 114 ls [])) : W p l e rX11_isTurns s mt args below meth c H locs 0 0 Q (F0 mt 61 ls [.int (iI z0)]) := by
  unfold bX11_isTurns_61 at hF
  refine q_istore_n C hl [(2, .int (iI z0)), (0, .ref (ad x0)), (1, .int (iI x1)), (3, .int (iI x3))] rfl rfl (by decide) rfl dX11_isTurns_61 (fun ls hl => ?_)
  refine q_iconst C 0 dX11_isTurns_62 ?_
  refine q_istore C hl [(4, .int (iI 0)), (2, .int (iI z0)), (0, .ref (ad x0)), (1, .int (iI x1)), (3, .int (iI x3))] rfl (by decide) rfl dX11_isTurns_63 (fun ls hl => ?_)
  obtain ⟨cv1, sv2, hi3, hF⟩ := bdl_ok hF
  refine lX11_isTurns_65 C hx0 hx1 hx3 hi3 ?_ _ _ _ hz0 (rl 0 rfl) S (lv_sub hl [2, 3, 1, 4, 0] rfl)
  intro _ H locs ls f5 S4 hl
  exact wX11_isTurns_108 C S4 hx0 hx1 f5 hx3 (lv_sub hl [0, 1, 2, 3] rfl) hF K0 K1
set_option maxRecDepth 20000 in
theorem wX11_isTurns_56 {p : Program} {l : Launch} {e : Env} {s : State} {mt : MethodId} {args : Array Value} {below : List Frame} {meth : Method} {c : Code} {Q : State → Prop} {G : Gl} {A : Nat → Prop} {H0 : Heap} {ad : Int → Nat} {g : Shp} {H : Heap} {locs : List Loc} {ls : Array Slot} {m : Mem} {x0 x1 x3 : Int} (C : CallFix p mt c cX11_isTurns 5 s args tb RX11) (S : Wd G A s H0 ad g m H locs) (hx0 : gk g x0 = 12) (hx1 : r32 x1) (hx3 : r32 x3) (hl : lv_has ls 5 [(0, .ref (ad x0)), (1, .int (iI x1)), (3, .int (iI x3))]) {c1 : Int} {s1 : (Int × Int × Mem)} (hF : bX11_isTurns_56 g x0 x1 x3 m = some (c1, s1)) (K0 : c1 = 0 → ∀ (H : Heap) (locs : List Loc) (ls : Array Slot), r32 s1.1 → r32 s1.2.1 → Wd G A s H0 ad g s1.2.2 H locs → lv_has ls 5 [(0, .ref (ad x0)), (1, .int (iI x1)), (2, .int (iI s1.1)), (3, .int (iI s1.2.1))] → W p l e rX11_isTurns s mt args below meth c H locs 0 0 Q (F0 mt 4 ls [])) (K1 : c1 = 1 → ∀ (H : Heap) (locs : List Loc) (ls : Array Slot), r32 s1.1 → Wd G A s H0 ad g s1.2.2 H locs → lv_has ls 5 [(2, .int (iI s1.1))] → W p l e rX11_isTurns s mt args below meth c H locs 0 0 Q (F0 mt 114 ls [])) : W p l e rX11_isTurns s mt args below meth c H locs 0 0 Q (F0 mt 56 ls []) := by
  unfold bX11_isTurns_56 at hF
  refine q_iconst C 1 dX11_isTurns_56 ?_
  refine q_goto C 61 dX11_isTurns_57 (by decide) ?_
  exact wX11_isTurns_61 C S hx0 hx1 hx3 (rl 1 rfl) (lv_sub hl [0, 1, 2] rfl) hF K0 K1
set_option maxRecDepth 20000 in
theorem wX11_isTurns_60 {p : Program} {l : Launch} {e : Env} {s : State} {mt : MethodId} {args : Array Value} {below : List Frame} {meth : Method} {c : Code} {Q : State → Prop} {G : Gl} {A : Nat → Prop} {H0 : Heap} {ad : Int → Nat} {g : Shp} {H : Heap} {locs : List Loc} {ls : Array Slot} {m : Mem} {x0 x1 x3 : Int} (C : CallFix p mt c cX11_isTurns 5 s args tb RX11) (S : Wd G A s H0 ad g m H locs) (hx0 : gk g x0 = 12) (hx1 : r32 x1) (hx3 : r32 x3) (hl : lv_has ls 5 [(0, .ref (ad x0)), (1, .int (iI x1)), (3, .int (iI x3))]) {c1 : Int} {s1 : (Int × Int × Mem)} (hF : bX11_isTurns_60 g x0 x1 x3 m = some (c1, s1)) (K0 : c1 = 0 → ∀ (H : Heap) (locs : List Loc) (ls : Array Slot), r32 s1.1 → r32 s1.2.1 → Wd G A s H0 ad g s1.2.2 H locs → lv_has ls 5 [(0, .ref (ad x0)), (1, .int (iI x1)), (2, .int (iI s1.1)), (3, .int (iI s1.2.1))] → W p l e rX11_isTurns s mt args below meth c H locs 0 0 Q (F0 mt 4 ls [])) (K1 : c1 = 1 → ∀ (H : Heap) (locs : List Loc) (ls : Array Slot), r32 s1.1 → Wd G A s H0 ad g s1.2.2 H locs → lv_has ls 5 [(2, .int (iI s1.1))] → W p l e rX11_isTurns s mt args below meth c H locs 0 0 Q (F0 mt 114 ls [])) : W p l e rX11_isTurns s mt args below meth c H locs 0 0 Q (F0 mt 60 ls []) := by
  unfold bX11_isTurns_60 at hF
  refine q_iconst C 0 dX11_isTurns_60 ?_
  exact wX11_isTurns_61 C S hx0 hx1 hx3 (rl 0 rfl) (lv_sub hl [0, 1, 2] rfl) hF K0 K1
set_option maxRecDepth 20000 in
theorem wX11_isTurns_4 {p : Program} {l : Launch} {e : Env} {s : State} {mt : MethodId} {args : Array Value} {below : List Frame} {meth : Method} {c : Code} {Q : State → Prop} {G : Gl} {A : Nat → Prop} {H0 : Heap} {ad : Int → Nat} {g : Shp} {H : Heap} {locs : List Loc} {ls : Array Slot} {m : Mem} {x0 x1 x2 x3 : Int} (C : CallFix p mt c cX11_isTurns 5 s args tb RX11) (S : Wd G A s H0 ad g m H locs) (hx0 : gk g x0 = 12) (hx1 : r32 x1) (hx2 : r32 x2) (hx3 : r32 x3) (hl : lv_has ls 5 [(0, .ref (ad x0)), (1, .int (iI x1)), (2, .int (iI x2)), (3, .int (iI x3))]) {c1 : Int} {s1 : (Int × Int × Mem)} (hF : bX11_isTurns_4 g x0 x1 x2 x3 m = some (c1, s1)) (K0 : c1 = 0 → ∀ (H : Heap) (locs : List Loc) (ls : Array Slot), r32 s1.1 → r32 s1.2.1 → Wd G A s H0 ad g s1.2.2 H locs → lv_has ls 5 [(0, .ref (ad x0)), (1, .int (iI x1)), (2, .int (iI s1.1)), (3, .int (iI s1.2.1))] → W p l e rX11_isTurns s mt args below meth c H locs 0 0 Q (F0 mt 4 ls [])) (K1 : c1 = 1 → ∀ (H : Heap) (locs : List Loc) (ls : Array Slot), r32 s1.1 → Wd G A s H0 ad g s1.2.2 H locs → lv_has ls 5 [(2, .int (iI s1.1))] → W p l e rX11_isTurns s mt args below meth c H locs 0 0 Q (F0 mt 114 ls [])) : W p l e rX11_isTurns s mt args below meth c H locs 0 0 Q (F0 mt 4 ls []) := by
  unfold bX11_isTurns_4 at hF
  refine q_iload_n C hl 3 rfl rfl dX11_isTurns_4 ?_
  refine q_iconst C 3 dX11_isTurns_5 ?_
  refine q_icmp_ge C hx3 (rl 3 rfl) 114 dX11_isTurns_6 (by decide) (fun hc1 => ?_) (fun hc1 => ?_)
  · have hF := if_t hc1 hF
    cases hF
    exact K1 rfl _ _ _ hx2 S (lv_sub hl [2] rfl)
  · have hF := if_f hc1 hF
    refine q_iload_n C hl 2 rfl rfl dX11_isTurns_9 ?_
    refine q_if_eq C hx2 60 dX11_isTurns_10 (by decide) (fun hc2 => ?_) (fun hc2 => ?_)
    · have hF := if_t hc2 hF
      exact wX11_isTurns_60 C S hx0 hx1 hx3 (lv_sub hl [0, 1, 3] rfl) hF K0 K1
    · have hF := if_f hc2 hF
      refine q_iload_n C hl 3 rfl rfl dX11_isTurns_13 ?_
      refine q_iload_n C hl 1 rfl rfl dX11_isTurns_14 ?_
      refine q_icmp_ge C hx3 hx1 47 dX11_isTurns_15 (by decide) (fun hc3 => ?_) (fun hc3 => ?_)
      · have hF := if_t hc3 hF
        refine q_aload_n C hl 0 rfl rfl dX11_isTurns_47 ?_
        obtain ⟨k4, hF⟩ := ck_ok hF
        refine q_getr C S 38 fo_RX11_86 (j := 38) rfl rfl hx0 k4 (by decide) dX11_isTurns_48 ?_
        refine q_iload_n C hl 3 rfl rfl dX11_isTurns_51 ?_
        obtain ⟨i5, hF⟩ := ck_ok hF
        refine q_iald C S k4 i5 dX11_isTurns_52 ?_
        refine q_if_ne C (S.r _ _) 60 dX11_isTurns_53 (by decide) (fun hc6 => ?_) (fun hc6 => ?_)
        · have hF := if_t hc6 hF
          exact wX11_isTurns_56 C S hx0 hx1 hx3 (lv_sub hl [0, 1, 3] rfl) hF K0 K1
        · have hF := if_f hc6 hF
          exact wX11_isTurns_60 C S hx0 hx1 hx3 (lv_sub hl [0, 1, 3] rfl) hF K0 K1
      · have hF := if_f hc3 hF
        refine q_aload_n C hl 0 rfl rfl dX11_isTurns_18 ?_
        refine q_aload_n C hl 0 rfl rfl dX11_isTurns_19 ?_
        obtain ⟨k7, hF⟩ := ck_ok hF
        refine q_getr C S 38 fo_RX11_86 (j := 38) rfl rfl hx0 k7 (by decide) dX11_isTurns_20 ?_
        refine q_iload_n C hl 3 rfl rfl dX11_isTurns_23 ?_
        obtain ⟨i8, hF⟩ := ck_ok hF
        refine q_iald C S k7 i8 dX11_isTurns_24 ?_
        obtain ⟨v9, m10, h11, hF⟩ := bd2_ok hF
        refine q_ci S (run_V (As := [.int (iI (m (m x0 38) x3))]) (rest := []) C S (cX11_isLine_ok l G hx0 (S.r _ _) h11 ad _) hx0 ⟨by decide, _, _, rfl⟩ gd_RX11_176 hdV_X11_isLine rfl ⟨rfl, rfl, by decide, by decide⟩ ⟨Nat.zero_le _, Nat.zero_le _⟩ hl.1 rfl (Nat.le_of_ble_eq_true rfl) dX11_isTurns_25) (fun H locs Sm10 h12 => ?_)
        refine q_if_eq C h12.1 60 dX11_isTurns_28 (by decide) (fun hc13 => ?_) (fun hc13 => ?_)
        · have hF := if_t hc13 hF
          exact wX11_isTurns_60 C Sm10 hx0 hx1 hx3 (lv_sub hl [0, 1, 3] rfl) hF K0 K1
        · have hF := if_f hc13 hF
          refine q_aload_n C hl 0 rfl rfl dX11_isTurns_31 ?_
          refine q_aload_n C hl 0 rfl rfl dX11_isTurns_32 ?_
          obtain ⟨k14, hF⟩ := ck_ok hF
          refine q_getr C Sm10 38 fo_RX11_86 (j := 38) rfl rfl hx0 k14 (by decide) dX11_isTurns_33 ?_
          refine q_iload_n C hl 3 rfl rfl dX11_isTurns_36 ?_
          obtain ⟨i15, hF⟩ := ck_ok hF
          refine q_iald C Sm10 k14 i15 dX11_isTurns_37 ?_
          obtain ⟨v16, m17, h18, hF⟩ := bd2_ok hF
          refine q_ci Sm10 (run_V (As := [.int (iI (m10 (m10 x0 38) x3))]) (rest := []) C Sm10 (cX11_isCovered_ok l G hx0 (Sm10.r _ _) h18 ad _) hx0 ⟨by decide, _, _, rfl⟩ gd_RX11_190 hdV_X11_isCovered rfl ⟨rfl, rfl, by decide, by decide⟩ ⟨Nat.zero_le _, Nat.zero_le _⟩ hl.1 rfl (Nat.le_of_ble_eq_true rfl) dX11_isTurns_38) (fun H locs Sm17 h19 => ?_)
          refine q_if_ne C h19.1 60 dX11_isTurns_41 (by decide) (fun hc20 => ?_) (fun hc20 => ?_)
          · have hF := if_t hc20 hF
            refine q_goto C 56 dX11_isTurns_44 (by decide) ?_
            exact wX11_isTurns_56 C Sm17 hx0 hx1 hx3 (lv_sub hl [0, 1, 3] rfl) hF K0 K1
          · have hF := if_f hc20 hF
            exact wX11_isTurns_60 C Sm17 hx0 hx1 hx3 (lv_sub hl [0, 1, 3] rfl) hF K0 K1
set_option maxRecDepth 20000 in
theorem lX11_isTurns_4 {p : Program} {l : Launch} {e : Env} {s : State} {mt : MethodId} {args : Array Value} {below : List Frame} {meth : Method} {c : Code} {Q : State → Prop} {G : Gl} {A : Nat → Prop} {H0 : Heap} {ad : Int → Nat} {g : Shp} {x0 x1 : Int} (C : CallFix p mt c cX11_isTurns 5 s args tb RX11) (hx0 : gk g x0 = 12) (hx1 : r32 x1) {n : Nat} {s0 s1 : (Int × Int × Mem)} {c1 : Int} (hI : iter (BX11_isTurns_4 g x0 x1) n s0 = some (c1, s1)) (K1 : c1 = 1 → ∀ (H : Heap) (locs : List Loc) (ls : Array Slot), r32 s1.1 → Wd G A s H0 ad g s1.2.2 H locs → lv_has ls 5 [(2, .int (iI s1.1))] → W p l e rX11_isTurns s mt args below meth c H locs 0 0 Q (F0 mt 114 ls [])) : ∀ (H : Heap) (locs : List Loc) (ls : Array Slot), r32 s0.1 → r32 s0.2.1 → Wd G A s H0 ad g s0.2.2 H locs → lv_has ls 5 [(0, .ref (ad x0)), (1, .int (iI x1)), (2, .int (iI s0.1)), (3, .int (iI s0.2.1))] → W p l e rX11_isTurns s mt args below meth c H locs 0 0 Q (F0 mt 4 ls []) :=
  iter_W (Pw := fun q => ∀ (H : Heap) (locs : List Loc) (ls : Array Slot), r32 q.1 → r32 q.2.1 → Wd G A s H0 ad g q.2.2 H locs → lv_has ls 5 [(0, .ref (ad x0)), (1, .int (iI x1)), (2, .int (iI q.1)), (3, .int (iI q.2.1))] → W p l e rX11_isTurns s mt args below meth c H locs 0 0 Q (F0 mt 4 ls [])) (Px := fun c0 q => (c0 = 1 → ∀ (H : Heap) (locs : List Loc) (ls : Array Slot), r32 q.1 → Wd G A s H0 ad g q.2.2 H locs → lv_has ls 5 [(2, .int (iI q.1))] → W p l e rX11_isTurns s mt args below meth c H locs 0 0 Q (F0 mt 114 ls [])))
    (fun s c s' hB K0 kx H locs ls f0 f1 S hl => wX11_isTurns_4 C S hx0 hx1 f0 f1 hl hB K0 (fun h9 => (kx (by rw [h9]; decide)) h9)) _ _ _ _ hI K1
set_option maxRecDepth 20000 in
theorem wX11_isTurns_114 {p : Program} {l : Launch} {e : Env} {s : State} {mt : MethodId} {args : Array Value} {below : List Frame} {meth : Method} {c : Code} {Q : State → Prop} {G : Gl} {A : Nat → Prop} {H0 : Heap} {ad : Int → Nat} {g : Shp} {H : Heap} {locs : List Loc} {ls : Array Slot} {m : Mem} {x2 : Int} (C : CallFix p mt c cX11_isTurns 5 s args tb RX11) (S : Wd G A s H0 ad g m H locs) (hx2 : r32 x2) (hl : lv_has ls 5 [(2, .int (iI x2))]) {r : Int} {m' : Mem} (hF : bX11_isTurns_114 g x2 m = some (r, m')) (Kr : ∀ (H : Heap) (locs : List Loc) (pc : Nat) (ls : Array Slot), Wd G A s H0 ad g m' H locs → decode cX11_isTurns pc = .ok (.ireturn, 1) → r32 r ∧ (true = true → r = 0 ∨ r = 1) → narrow .boolean (.int (iI r)) = .int (iI r) → W p l e rX11_isTurns s mt args below meth c H locs 0 0 Q (F0 mt pc ls [.int (iI r)])) : W p l e rX11_isTurns s mt args below meth c H locs 0 0 Q (F0 mt 114 ls []) := by
  unfold bX11_isTurns_114 at hF
  refine q_iload_n C hl 0 rfl rfl dX11_isTurns_114 ?_
  obtain ⟨b1, hF⟩ := ck_ok hF
  cases hF
  exact Kr _ _ _ _ S dX11_isTurns_115 ⟨r_b b1, fun _ => b1⟩ (nr_b b1)
set_option maxRecDepth 20000 in
theorem wX11_isTurns_0 {p : Program} {l : Launch} {e : Env} {s : State} {mt : MethodId} {args : Array Value} {below : List Frame} {meth : Method} {c : Code} {Q : State → Prop} {G : Gl} {A : Nat → Prop} {H0 : Heap} {ad : Int → Nat} {g : Shp} {H : Heap} {locs : List Loc} {ls : Array Slot} {m : Mem} {x0 x1 : Int} (C : CallFix p mt c cX11_isTurns 5 s args tb RX11) (S : Wd G A s H0 ad g m H locs) (hx0 : gk g x0 = 12) (hx1 : r32 x1) (hl : lv_has ls 5 [(0, .ref (ad x0)), (1, .int (iI x1))]) {r : Int} {m' : Mem} (hF : bX11_isTurns_0 g x0 x1 m = some (r, m')) (Kr : ∀ (H : Heap) (locs : List Loc) (pc : Nat) (ls : Array Slot), Wd G A s H0 ad g m' H locs → decode cX11_isTurns pc = .ok (.ireturn, 1) → r32 r ∧ (true = true → r = 0 ∨ r = 1) → narrow .boolean (.int (iI r)) = .int (iI r) → W p l e rX11_isTurns s mt args below meth c H locs 0 0 Q (F0 mt pc ls [.int (iI r)])) : W p l e rX11_isTurns s mt args below meth c H locs 0 0 Q (F0 mt 0 ls []) := by
  unfold bX11_isTurns_0 at hF
  refine q_iconst C 1 dX11_isTurns_0 ?_
  refine q_istore_n C hl [(2, .int (iI 1)), (0, .ref (ad x0)), (1, .int (iI x1))] rfl rfl (by decide) rfl dX11_isTurns_1 (fun ls hl => ?_)
  refine q_iconst C 0 dX11_isTurns_2 ?_
  refine q_istore_n C hl [(3, .int (iI 0)), (2, .int (iI 1)), (0, .ref (ad x0)), (1, .int (iI x1))] rfl rfl (by decide) rfl dX11_isTurns_3 (fun ls hl => ?_)
  obtain ⟨cv1, sv2, hi3, hF⟩ := bdl_ok hF
  refine lX11_isTurns_4 C hx0 hx1 hi3 ?_ _ _ _ (rl 1 rfl) (rl 0 rfl) S (lv_sub hl [2, 3, 1, 0] rfl)
  intro _ H locs ls f5 S4 hl
  exact wX11_isTurns_114 C S4 f5 (lv_sub hl [0] rfl) hF Kr
theorem cX11_isTurns_ok (l : Launch) (G : Gl) {g : Shp} {x0 x1 : Int} {m m' : Mem} {r : Int} (hx0 : gk g x0 = 12) (hx1 : r32 x1) (hF : fX11_isTurns g x0 x1 m = some (r, m')) : mI l yX11_isTurns (wT yX11_isTurns cX11_isTurns 5 (some .boolean)) rX11_isTurns G true (fun ad => [.ref (ad x0), .int (iI x1)]) g m r m' :=
  met_i (by decide) (fun ad => Nat.le_of_ble_eq_true rfl) (fun p e s mt args below meth c Q A H0 H locs ad ls C hnm S hl Kr => wX11_isTurns_0 C S hx0 hx1 hl hF Kr)
