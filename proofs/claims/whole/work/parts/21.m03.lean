def ebX11_way_21 (g : Shp) (m : Mem) : Option (Int × Mem) :=
  some ((-1), m)
def ebX11_way_66 (g : Shp) (z0 : Int) (m : Mem) : Option (Int × Mem) :=
  some (z0, m)
def ebX11_way_121 (g : Shp) (z0 z1 : Int) (m : Mem) : Option (Int × Mem) :=
  some (w32 (z0 + z1), m)
def ebX11_way_0 (g : Shp) (x1 x2 x3 : Int) (m : Mem) : Option (Int × Mem) :=
  bd2 (eX11_isLine g x1 m) fun v1 m2 =>
  if v1 = 0 then
    ebX11_way_21 g m2
  else
    bd2 (eX11_isColour g x2 m2) fun v5 m6 =>
    if v5 = 0 then
      ebX11_way_21 g m6
    else
      if ((-2)) ≤ x3 then
        bd2 (eX11_isCovered g x1 m6) fun v10 m11 =>
        if v10 = 0 then
          bd2 (eX11_findWay g x1 x2 m11) fun v14 m15 =>
          if v14 = 0 then
            some ((-4), m15)
          else
            if 0 ≤ x3 then
              if x3 < (m15 241 35) then
                ck ((0 : Int) ≤ x3 ∧ x3 < 18) <|
                ck ((0 : Int) ≤ x3 ∧ x3 < 18) <|
                ck ((0 : Int) ≤ x3 ∧ x3 < 18) <|
                ck ((0 : Int) ≤ x3 ∧ x3 < 18) <|
                ck ((0 : Int) ≤ (m15 264 x3) ∧ (m15 264 x3) < 3) <|
                if (m15 252 (m15 264 x3)) ≤ (m15 263 x3) then
                  ebX11_way_121 g (w32 ((w32 (20 * (m15 263 x3))) + (w32 (2 * (m15 264 x3))))) 0 m15
                else
                  ebX11_way_121 g (w32 ((w32 (20 * (m15 263 x3))) + (w32 (2 * (m15 264 x3))))) 1 m15
              else
                some ((-4), m15)
            else
              if x3 = ((-1)) then
                ebX11_way_66 g (m15 241 36) m15
              else
                ebX11_way_66 g (m15 241 35) m15
        else
          some ((-2), m11)
      else
        ebX11_way_21 g m6
def eX11_way (g : Shp) (x1 x2 x3 : Int) (m : Mem) : Option (Int × Mem) := ebX11_way_0 g x1 x2 x3 m
def ebX11_best_62 (g : Shp) (x1 x2 x3 x4 : Int) (m : Mem) : Option (Int × (Int × Int × Int × Mem)) :=
  vv (w32 (x4 + 1)) fun y1 =>
  some (0, (x2, x3, y1, m))
def ebX11_best_30 (g : Shp) (x1 x2 x3 x4 : Int) (m : Mem) : Option (Int × (Int × Int × Int × Mem)) :=
  if 3 ≤ x4 then
    some (1, (x2, x3, x4, m))
  else
    bd2 (eX11_findWay g x1 x4 m) fun v2 m3 =>
    if v2 = 0 then
      ebX11_best_62 g x1 x2 x3 x4 m3
    else
      if x3 ≤ (m3 241 36) then
        ebX11_best_62 g x1 x2 x3 x4 m3
      else
        vv (m3 241 36) fun y7 =>
        ebX11_best_62 g x1 x4 y7 x4 m3
def eBX11_best_30 (g : Shp) (x1 : Int) (q : (Int × Int × Int × Mem)) : Option (Int × (Int × Int × Int × Mem)) := ebX11_best_30 g x1 q.1 q.2.1 q.2.2.1 q.2.2.2
def ebX11_best_68 (g : Shp) (x2 : Int) (m : Mem) : Option (Int × Mem) :=
  some (x2, m)
def ebX11_best_0 (g : Shp) (x1 : Int) (m : Mem) : Option (Int × Mem) :=
  bd2 (eX11_isLine g x1 m) fun v1 m2 =>
  if v1 = 0 then
    some ((-1), m2)
  else
    bd2 (eX11_isCovered g x1 m2) fun v5 m6 =>
    if v5 = 0 then
      bdl (iter (eBX11_best_30 g x1) 100000 ((-4), 1000000, 0, m6)) fun cv9 sv10 =>
      ebX11_best_68 g sv10.1 sv10.2.2.2
    else
      some ((-2), m6)
def eX11_best (g : Shp) (x1 : Int) (m : Mem) : Option (Int × Mem) := ebX11_best_0 g x1 m
def ebX11_coverBy_136 (g : Shp) (x1 x2 x3 z0 z1 z2 z3 : Int) (m : Mem) : Option (Int × (Int × Mem)) :=
  ck ((0 : Int) ≤ z1 ∧ z1 < gl g z0) <|
  vm (ms m z0 z1 (w32 (z2 + z3))) fun m2 =>
  vv (w32 (x3 + 1)) fun y3 =>
  some (0, (y3, m2))
def ebX11_coverBy_109 (g : Shp) (x1 x2 x3 x6 z0 z1 z2 z3 : Int) (m : Mem) : Option (Int × (Int × Mem)) :=
  ck ((0 : Int) ≤ z1 ∧ z1 < gl g z0) <|
  vm (ms m z0 z1 (w32 (z2 + z3))) fun m2 =>
  ck ((0 : Int) ≤ (w32 (28 + x1)) ∧ (w32 (28 + x1)) < 433) <|
  if x6 = 0 then
    ck ((0 : Int) ≤ x3 ∧ x3 < 18) <|
    ebX11_coverBy_136 g x1 x2 x3 242 (w32 (28 + x1)) (m2 242 (w32 (28 + x1))) (m2 263 x3) m2
  else
    ebX11_coverBy_136 g x1 x2 x3 242 (w32 (28 + x1)) (m2 242 (w32 (28 + x1))) 0 m2
def ebX11_coverBy_53 (g : Shp) (x1 x2 x3 x4 x5 z0 : Int) (m : Mem) : Option (Int × (Int × Mem)) :=
  ck ((0 : Int) ≤ (w32 ((w32 (1 + (w32 (3 * x2)))) + x4)) ∧ (w32 ((w32 (1 + (w32 (3 * x2)))) + x4)) < 433) <|
  ck ((0 : Int) ≤ (w32 ((w32 (1 + (w32 (3 * x2)))) + x4)) ∧ (w32 ((w32 (1 + (w32 (3 * x2)))) + x4)) < 433) <|
  vm (ms m 242 (w32 ((w32 (1 + (w32 (3 * x2)))) + x4)) (w32 ((m 242 (w32 ((w32 (1 + (w32 (3 * x2)))) + x4))) - 1))) fun m4 =>
  ck ((0 : Int) ≤ 32 ∧ 32 < (433 : Int)) <|
  ck ((0 : Int) ≤ 32 ∧ 32 < (433 : Int)) <|
  vm (ms m4 242 32 (w32 ((m4 242 32) + x5))) fun m8 =>
  ck ((0 : Int) ≤ (w32 ((w32 (19 + (w32 (3 * x1)))) + x4)) ∧ (w32 ((w32 (19 + (w32 (3 * x1)))) + x4)) < 433) <|
  if z0 = 0 then
    ebX11_coverBy_109 g x1 x2 x3 z0 242 (w32 ((w32 (19 + (w32 (3 * x1)))) + x4)) (m8 242 (w32 ((w32 (19 + (w32 (3 * x1)))) + x4))) 0 m8
  else
    ebX11_coverBy_109 g x1 x2 x3 z0 242 (w32 ((w32 (19 + (w32 (3 * x1)))) + x4)) (m8 242 (w32 ((w32 (19 + (w32 (3 * x1)))) + x4))) 1 m8
def ebX11_coverBy_52 (g : Shp) (x1 x2 x3 x4 x5 : Int) (m : Mem) : Option (Int × (Int × Mem)) :=
  ebX11_coverBy_53 g x1 x2 x3 x4 x5 0 m
def ebX11_coverBy_2 (g : Shp) (x1 x2 x3 : Int) (m : Mem) : Option (Int × (Int × Mem)) :=
  if (m 241 35) ≤ x3 then
    some (1, (x3, m))
  else
    ck ((0 : Int) ≤ x3 ∧ x3 < 18) <|
    vv (m 264 x3) fun y4 =>
    ck ((0 : Int) ≤ y4 ∧ y4 < 3) <|
    ck ((0 : Int) ≤ x3 ∧ x3 < 18) <|
    vv (w32 ((m 252 y4) - (m 263 x3))) fun y9 =>
    if y9 = 0 then
      ck ((0 : Int) ≤ x3 ∧ x3 < 18) <|
      if (m 265 x3) = 0 then
        ebX11_coverBy_53 g x1 x2 x3 y4 y9 1 m
      else
        ebX11_coverBy_52 g x1 x2 x3 y4 y9 m
    else
      ebX11_coverBy_52 g x1 x2 x3 y4 y9 m
def eBX11_coverBy_2 (g : Shp) (x1 x2 : Int) (q : (Int × Mem)) : Option (Int × (Int × Mem)) := ebX11_coverBy_2 g x1 x2 q.1 q.2
def ebX11_coverBy_251 (g : Shp) (x1 x3 z0 z1 z2 : Int) (m : Mem) : Option (Int × (Int × Mem)) :=
  ck ((0 : Int) ≤ z1 ∧ z1 < gl g z0) <|
  vm (ms m z0 z1 z2) fun m2 =>
  vv (w32 (x3 + 1)) fun y3 =>
  some (0, (y3, m2))
def ebX11_coverBy_196 (g : Shp) (x1 x3 : Int) (m : Mem) : Option (Int × (Int × Mem)) :=
  ck ((0 : Int) ≤ x1 ∧ x1 < 3) <|
  if (m 255 x1) ≤ x3 then
    some (1, (x3, m))
  else
    ck ((0 : Int) ≤ (w32 ((w32 (60 * x1)) + x3)) ∧ (w32 ((w32 (60 * x1)) + x3)) < 180) <|
    vv (w32 (33 + (m 256 (w32 ((w32 (60 * x1)) + x3))))) fun y6 =>
    ck ((0 : Int) ≤ y6 ∧ y6 < 433) <|
    if (m 242 y6) = ((-4)) then
      ebX11_coverBy_251 g x1 x3 242 y6 x1 m
    else
      ck ((0 : Int) ≤ y6 ∧ y6 < 433) <|
      ebX11_coverBy_251 g x1 x3 242 y6 (m 242 y6) m
def eBX11_coverBy_196 (g : Shp) (x1 : Int) (q : (Int × Mem)) : Option (Int × (Int × Mem)) := ebX11_coverBy_196 g x1 q.1 q.2
def ebX11_coverBy_258 (g : Shp) (m : Mem) : Option (Int × Mem) :=
  some (0, m)
def ebX11_coverBy_144 (g : Shp) (x1 x2 : Int) (m : Mem) : Option (Int × Mem) :=
  ck ((0 : Int) ≤ (w32 (10 + x1)) ∧ (w32 (10 + x1)) < 433) <|
  vm (ms m 242 (w32 (10 + x1)) x2) fun m3 =>
  ck ((0 : Int) ≤ (w32 (13 + x1)) ∧ (w32 (13 + x1)) < 433) <|
  vm (ms m3 242 (w32 (13 + x1)) (m3 241 35)) fun m6 =>
  ck ((0 : Int) ≤ (w32 (16 + x1)) ∧ (w32 (16 + x1)) < 433) <|
  vm (ms m6 242 (w32 (16 + x1)) (m6 241 36)) fun m9 =>
  ck ((0 : Int) ≤ 31 ∧ 31 < (433 : Int)) <|
  ck ((0 : Int) ≤ 31 ∧ 31 < (433 : Int)) <|
  vm (ms m9 242 31 (w32 ((m9 242 31) + (m9 241 36)))) fun m13 =>
  bdl (iter (eBX11_coverBy_196 g x1) 100000 (0, m13)) fun cv14 sv15 =>
  ebX11_coverBy_258 g sv15.2
def ebX11_coverBy_0 (g : Shp) (x1 x2 : Int) (m : Mem) : Option (Int × Mem) :=
  bdl (iter (eBX11_coverBy_2 g x1 x2) 100000 (0, m)) fun cv1 sv2 =>
  ebX11_coverBy_144 g x1 x2 sv2.2
def eX11_coverBy (g : Shp) (x1 x2 : Int) (m : Mem) : Option (Int × Mem) := ebX11_coverBy_0 g x1 x2 m
def ebX11_cover_15 (g : Shp) (m : Mem) : Option (Int × Mem) :=
  some ((-1), m)
def ebX11_cover_0 (g : Shp) (x1 x2 : Int) (m : Mem) : Option (Int × Mem) :=
  bd2 (eX11_isLine g x1 m) fun v1 m2 =>
  if v1 = 0 then
    ebX11_cover_15 g m2
  else
    bd2 (eX11_isColour g x2 m2) fun v5 m6 =>
    if v5 = 0 then
      ebX11_cover_15 g m6
    else
      bd2 (eX11_isCovered g x1 m6) fun v9 m10 =>
      if v9 = 0 then
        bd2 (eX11_findWay g x1 x2 m10) fun v13 m14 =>
        if v13 = 0 then
          some ((-4), m14)
        else
          bd2 (eX11_note g m14) fun v17 m18 =>
          bd2 (eX11_coverBy g x1 x2 m18) fun v20 m21 =>
          some (m21 241 36, m21)
      else
        some ((-2), m10)
def eX11_cover (g : Shp) (x1 x2 : Int) (m : Mem) : Option (Int × Mem) := ebX11_cover_0 g x1 x2 m
def ebX11_takeUp_96 (g : Shp) (x1 x2 x3 x4 x5 z0 : Int) (m : Mem) : Option (Int × (Int × Int × Mem)) :=
  ck ((0 : Int) ≤ x4 ∧ x4 < 433) <|
  ck ((0 : Int) ≤ x4 ∧ x4 < 433) <|
  vm (ms m 242 x4 (w32 ((m 242 x4) + z0))) fun m4 =>
  vv (w32 (x2 + z0)) fun y5 =>
  ck ((0 : Int) ≤ 32 ∧ 32 < (433 : Int)) <|
  ck ((0 : Int) ≤ x3 ∧ x3 < 3) <|
  ck ((0 : Int) ≤ 32 ∧ 32 < (433 : Int)) <|
  vm (ms m4 242 32 (w32 ((m4 242 32) + (w32 ((m4 252 x3) * (w32 (x5 - z0))))))) fun m11 =>
  ck ((0 : Int) ≤ (w32 ((w32 (19 + (w32 (3 * x1)))) + x3)) ∧ (w32 ((w32 (19 + (w32 (3 * x1)))) + x3)) < 433) <|
  vm (ms m11 242 (w32 ((w32 (19 + (w32 (3 * x1)))) + x3)) 0) fun m14 =>
  vv (w32 (x3 + 1)) fun y15 =>
  some (0, (y5, y15, m14))
def ebX11_takeUp_29 (g : Shp) (x1 x2 x3 : Int) (m : Mem) : Option (Int × (Int × Int × Mem)) :=
  if 3 ≤ x3 then
    some (1, (x2, x3, m))
  else
    ck ((0 : Int) ≤ (w32 (10 + x1)) ∧ (w32 (10 + x1)) < 433) <|
    vv (w32 ((w32 (1 + (w32 (3 * (m 242 (w32 (10 + x1))))))) + x3)) fun y4 =>
    ck ((0 : Int) ≤ (w32 ((w32 (19 + (w32 (3 * x1)))) + x3)) ∧ (w32 ((w32 (19 + (w32 (3 * x1)))) + x3)) < 433) <|
    vv (m 242 (w32 ((w32 (19 + (w32 (3 * x1)))) + x3))) fun y7 =>
    ck ((0 : Int) ≤ y4 ∧ y4 < 433) <|
    if (w32 (6 - (m 242 y4))) ≤ y7 then
      ck ((0 : Int) ≤ y4 ∧ y4 < 433) <|
      ebX11_takeUp_96 g x1 x2 x3 y4 y7 (w32 (6 - (m 242 y4))) m
    else
      ebX11_takeUp_96 g x1 x2 x3 y4 y7 y7 m
def eBX11_takeUp_29 (g : Shp) (x1 : Int) (q : (Int × Int × Mem)) : Option (Int × (Int × Int × Mem)) := ebX11_takeUp_29 g x1 q.1 q.2.1 q.2.2
def ebX11_takeUp_253 (g : Shp) (x1 x2 x3 z0 z1 z2 : Int) (m : Mem) : Option (Int × (Int × Mem)) :=
  ck ((0 : Int) ≤ z1 ∧ z1 < gl g z0) <|
  vm (ms m z0 z1 z2) fun m2 =>
  vv (w32 (x3 + 1)) fun y3 =>
  some (0, (y3, m2))
def ebX11_takeUp_220 (g : Shp) (x1 x2 x3 : Int) (m : Mem) : Option (Int × (Int × Mem)) :=
  if 433 ≤ x3 then
    some (1, (x3, m))
  else
    ck ((0 : Int) ≤ x3 ∧ x3 < 433) <|
    if (m 242 x3) = x1 then
      ebX11_takeUp_253 g x1 x2 x3 242 x3 ((-4)) m
    else
      ck ((0 : Int) ≤ x3 ∧ x3 < 433) <|
      ebX11_takeUp_253 g x1 x2 x3 242 x3 (m 242 x3) m
def eBX11_takeUp_220 (g : Shp) (x1 x2 : Int) (q : (Int × Mem)) : Option (Int × (Int × Mem)) := ebX11_takeUp_220 g x1 x2 q.1 q.2
def ebX11_takeUp_260 (g : Shp) (x2 : Int) (m : Mem) : Option (Int × Mem) :=
  some (x2, m)
def ebX11_takeUp_157 (g : Shp) (x1 x2 : Int) (m : Mem) : Option (Int × Mem) :=
  ck ((0 : Int) ≤ 32 ∧ 32 < (433 : Int)) <|
  ck ((0 : Int) ≤ (w32 (28 + x1)) ∧ (w32 (28 + x1)) < 433) <|
  ck ((0 : Int) ≤ 32 ∧ 32 < (433 : Int)) <|
  vm (ms m 242 32 (w32 ((m 242 32) + (m 242 (w32 (28 + x1)))))) fun m6 =>
  ck ((0 : Int) ≤ (w32 (28 + x1)) ∧ (w32 (28 + x1)) < 433) <|
  vm (ms m6 242 (w32 (28 + x1)) 0) fun m9 =>
  ck ((0 : Int) ≤ (w32 (13 + x1)) ∧ (w32 (13 + x1)) < 433) <|
  vm (ms m9 242 (w32 (13 + x1)) 0) fun m12 =>
  ck ((0 : Int) ≤ (w32 (16 + x1)) ∧ (w32 (16 + x1)) < 433) <|
  vm (ms m12 242 (w32 (16 + x1)) 0) fun m15 =>
  ck ((0 : Int) ≤ (w32 (10 + x1)) ∧ (w32 (10 + x1)) < 433) <|
  vm (ms m15 242 (w32 (10 + x1)) ((-4))) fun m18 =>
  bdl (iter (eBX11_takeUp_220 g x1 x2) 100000 (33, m18)) fun cv19 sv20 =>
  ebX11_takeUp_260 g x2 sv20.2
def ebX11_takeUp_0 (g : Shp) (x1 : Int) (m : Mem) : Option (Int × Mem) :=
  bd2 (eX11_isLine g x1 m) fun v1 m2 =>
  if v1 = 0 then
    some ((-1), m2)
  else
    bd2 (eX11_isCovered g x1 m2) fun v5 m6 =>
    if v5 = 0 then
      some ((-2), m6)
    else
      bd2 (eX11_note g m6) fun v9 m10 =>
      bdl (iter (eBX11_takeUp_29 g x1) 100000 (0, 0, m10)) fun cv12 sv13 =>
      ebX11_takeUp_157 g x1 sv13.1 sv13.2.2
def eX11_takeUp (g : Shp) (x1 : Int) (m : Mem) : Option (Int × Mem) := ebX11_takeUp_0 g x1 m
def ebX11_isTurns_101 (g : Shp) (x1 x3 x4 z0 : Int) (m : Mem) : Option (Int × (Int × Int × Mem)) :=
  vv (w32 (x4 + 1)) fun y1 =>
  some (0, (z0, y1, m))
def ebX11_isTurns_100 (g : Shp) (x1 x3 x4 : Int) (m : Mem) : Option (Int × (Int × Int × Mem)) :=
  ebX11_isTurns_101 g x1 x3 x4 0 m
def ebX11_isTurns_65 (g : Shp) (x1 x2 x3 x4 : Int) (m : Mem) : Option (Int × (Int × Int × Mem)) :=
  if x3 ≤ x4 then
    some (1, (x2, x4, m))
  else
    if x1 ≤ x3 then
      some (1, (x2, x4, m))
    else
      if x2 = 0 then
        ebX11_isTurns_100 g x1 x3 x4 m
      else
        ck ((0 : Int) ≤ x4 ∧ x4 < 3) <|
        ck ((0 : Int) ≤ x3 ∧ x3 < 3) <|
        if (m 267 x4) = (m 267 x3) then
          ebX11_isTurns_100 g x1 x3 x4 m
        else
          ebX11_isTurns_101 g x1 x3 x4 1 m
def eBX11_isTurns_65 (g : Shp) (x1 x3 : Int) (q : (Int × Int × Mem)) : Option (Int × (Int × Int × Mem)) := ebX11_isTurns_65 g x1 q.1 x3 q.2.1 q.2.2
def ebX11_isTurns_108 (g : Shp) (x1 x2 x3 : Int) (m : Mem) : Option (Int × (Int × Int × Mem)) :=
  vv (w32 (x3 + 1)) fun y1 =>
  some (0, (x2, y1, m))
def ebX11_isTurns_61 (g : Shp) (x1 x3 z0 : Int) (m : Mem) : Option (Int × (Int × Int × Mem)) :=
  bdl (iter (eBX11_isTurns_65 g x1 x3) 100000 (z0, 0, m)) fun cv1 sv2 =>
  ebX11_isTurns_108 g x1 sv2.1 x3 sv2.2.2
def ebX11_isTurns_56 (g : Shp) (x1 x3 : Int) (m : Mem) : Option (Int × (Int × Int × Mem)) :=
  ebX11_isTurns_61 g x1 x3 1 m
def ebX11_isTurns_60 (g : Shp) (x1 x3 : Int) (m : Mem) : Option (Int × (Int × Int × Mem)) :=
  ebX11_isTurns_61 g x1 x3 0 m
def ebX11_isTurns_4 (g : Shp) (x1 x2 x3 : Int) (m : Mem) : Option (Int × (Int × Int × Mem)) :=
  if 3 ≤ x3 then
    some (1, (x2, x3, m))
  else
    if x2 = 0 then
      ebX11_isTurns_60 g x1 x3 m
    else
      if x1 ≤ x3 then
        ck ((0 : Int) ≤ x3 ∧ x3 < 3) <|
        if (m 267 x3) = 0 then
          ebX11_isTurns_56 g x1 x3 m
        else
          ebX11_isTurns_60 g x1 x3 m
      else
        ck ((0 : Int) ≤ x3 ∧ x3 < 3) <|
        bd2 (eX11_isLine g (m 267 x3) m) fun v9 m10 =>
        if v9 = 0 then
          ebX11_isTurns_60 g x1 x3 m10
        else
          ck ((0 : Int) ≤ x3 ∧ x3 < 3) <|
          bd2 (eX11_isCovered g (m10 267 x3) m10) fun v15 m16 =>
          if v15 = 0 then
            ebX11_isTurns_56 g x1 x3 m16
          else
            ebX11_isTurns_60 g x1 x3 m16
def eBX11_isTurns_4 (g : Shp) (x1 : Int) (q : (Int × Int × Mem)) : Option (Int × (Int × Int × Mem)) := ebX11_isTurns_4 g x1 q.1 q.2.1 q.2.2
def ebX11_isTurns_114 (g : Shp) (x2 : Int) (m : Mem) : Option (Int × Mem) :=
  ck (x2 = 0 ∨ x2 = 1) <|
  some (x2, m)
def ebX11_isTurns_0 (g : Shp) (x1 : Int) (m : Mem) : Option (Int × Mem) :=
  bdl (iter (eBX11_isTurns_4 g x1) 100000 (1, 0, m)) fun cv1 sv2 =>
  ebX11_isTurns_114 g sv2.1 sv2.2.2
def eX11_isTurns (g : Shp) (x1 : Int) (m : Mem) : Option (Int × Mem) := ebX11_isTurns_0 g x1 m
set_option maxRecDepth 20000 in
theorem qX11_way_21 {g : Shp} {m : Mem} (h : Sh g m)  : bX11_way_21 g m = ebX11_way_21 g m := by
  unfold bX11_way_21 ebX11_way_21
  rfl
theorem nX11_way_21 {g : Shp} {m : Mem} (h : Sh g m)  {r : Int} {m' : Mem} (hF : ebX11_way_21 g m = some (r, m')) : Sh g m' := by
  unfold ebX11_way_21 at hF
  cases hF
  exact h
set_option maxRecDepth 20000 in
theorem qX11_way_66 {g : Shp} {m : Mem} {z0 : Int} (h : Sh g m)  : bX11_way_66 g z0 m = ebX11_way_66 g z0 m := by
  unfold bX11_way_66 ebX11_way_66
  rfl
theorem nX11_way_66 {g : Shp} {m : Mem} {z0 : Int} (h : Sh g m)  {r : Int} {m' : Mem} (hF : ebX11_way_66 g z0 m = some (r, m')) : Sh g m' := by
  unfold ebX11_way_66 at hF
  cases hF
  exact h
set_option maxRecDepth 20000 in
theorem qX11_way_121 {g : Shp} {m : Mem} {z0 z1 : Int} (h : Sh g m)  : bX11_way_121 g z0 z1 m = ebX11_way_121 g z0 z1 m := by
  unfold bX11_way_121 ebX11_way_121
  rfl
theorem nX11_way_121 {g : Shp} {m : Mem} {z0 z1 : Int} (h : Sh g m)  {r : Int} {m' : Mem} (hF : ebX11_way_121 g z0 z1 m = some (r, m')) : Sh g m' := by
  unfold ebX11_way_121 at hF
  cases hF
  exact h
set_option maxRecDepth 20000 in
theorem qX11_way_0 {g : Shp} {m : Mem} {x1 x2 x3 : Int} (h : Sh g m)  : bX11_way_0 g 241 x1 x2 x3 m = ebX11_way_0 g x1 x2 x3 m := by
  unfold bX11_way_0 ebX11_way_0
  refine bd2_q (qX11_isLine h ) (fun v1 m2 h3 => ?_)
  have hm2 := nX11_isLine h  ((qX11_isLine h ).symm.trans h3)
  refine if_c (fun hc4 => ?_) (fun hc4 => ?_)
  · exact qX11_way_21 hm2
  · refine bd2_q (qX11_isColour hm2 ) (fun v5 m6 h7 => ?_)
    have hm6 := nX11_isColour hm2  ((qX11_isColour hm2 ).symm.trans h7)
    refine if_c (fun hc8 => ?_) (fun hc8 => ?_)
    · exact qX11_way_21 hm6
    · refine if_c (fun hc9 => ?_) (fun hc9 => ?_)
      · refine bd2_q (qX11_isCovered hm6 ) (fun v10 m11 h12 => ?_)
        have hm11 := nX11_isCovered hm6  ((qX11_isCovered hm6 ).symm.trans h12)
        refine if_c (fun hc13 => ?_) (fun hc13 => ?_)
        · refine bd2_q (qX11_findWay hm11 ) (fun v14 m15 h16 => ?_)
          have hm15 := nX11_findWay hm11  ((qX11_findWay hm11 ).symm.trans h16)
          refine if_c (fun hc17 => ?_) (fun hc17 => ?_)
          · rfl
          · refine if_c (fun hc18 => ?_) (fun hc18 => ?_)
            · refine if_c (fun hc19 => ?_) (fun hc19 => ?_)
              · have k20 := s_241_32 hm15
                rewrite [k20.1, ck_t k20.2.1]
                try rewrite [k20.2.2]
                refine ck_c (fun i21 => ?_)
                have k22 := s_241_33 hm15
                rewrite [k22.1, ck_t k22.2.1]
                try rewrite [k22.2.2]
                refine ck_c (fun i23 => ?_)
                have k24 := s_241_32 hm15
                try rewrite [k24.2.2]
                refine ck_c (fun i25 => ?_)
                have k26 := s_241_19 hm15
                rewrite [k26.1, ck_t k26.2.1]
                have k27 := s_241_33 hm15
                try rewrite [k27.2.2]
                refine ck_c (fun i28 => ?_)
                try rewrite [k26.2.2]
                refine ck_c (fun i29 => ?_)
                refine if_c (fun hc30 => ?_) (fun hc30 => ?_)
                · exact qX11_way_121 hm15
                · exact qX11_way_121 hm15
              · rfl
            · refine if_c (fun hc31 => ?_) (fun hc31 => ?_)
              · exact qX11_way_66 hm15
              · exact qX11_way_66 hm15
        · rfl
      · exact qX11_way_21 hm6
theorem nX11_way_0 {g : Shp} {m : Mem} {x1 x2 x3 : Int} (h : Sh g m)  {r : Int} {m' : Mem} (hF : ebX11_way_0 g x1 x2 x3 m = some (r, m')) : Sh g m' := by
  unfold ebX11_way_0 at hF
  obtain ⟨v1, m2, h3, hF⟩ := bd2_ok hF
  have hm2 := nX11_isLine h  h3
  rcases if_ok hF with ⟨hc4, hF⟩ | ⟨hc4, hF⟩
  · exact nX11_way_21 hm2  hF
  · obtain ⟨v5, m6, h7, hF⟩ := bd2_ok hF
    have hm6 := nX11_isColour hm2  h7
    rcases if_ok hF with ⟨hc8, hF⟩ | ⟨hc8, hF⟩
    · exact nX11_way_21 hm6  hF
    · rcases if_ok hF with ⟨hc9, hF⟩ | ⟨hc9, hF⟩
      · obtain ⟨v10, m11, h12, hF⟩ := bd2_ok hF
        have hm11 := nX11_isCovered hm6  h12
        rcases if_ok hF with ⟨hc13, hF⟩ | ⟨hc13, hF⟩
        · obtain ⟨v14, m15, h16, hF⟩ := bd2_ok hF
          have hm15 := nX11_findWay hm11  h16
          rcases if_ok hF with ⟨hc17, hF⟩ | ⟨hc17, hF⟩
          · cases hF
            exact hm15
          · rcases if_ok hF with ⟨hc18, hF⟩ | ⟨hc18, hF⟩
            · rcases if_ok hF with ⟨hc19, hF⟩ | ⟨hc19, hF⟩
              · have k20 := s_241_32 hm15
                obtain ⟨i21, hF⟩ := ck_ok hF
                have k22 := s_241_33 hm15
                obtain ⟨i23, hF⟩ := ck_ok hF
                have k24 := s_241_32 hm15
                obtain ⟨i25, hF⟩ := ck_ok hF
                have k26 := s_241_19 hm15
                have k27 := s_241_33 hm15
                obtain ⟨i28, hF⟩ := ck_ok hF
                obtain ⟨i29, hF⟩ := ck_ok hF
                rcases if_ok hF with ⟨hc30, hF⟩ | ⟨hc30, hF⟩
                · exact nX11_way_121 hm15  hF
                · exact nX11_way_121 hm15  hF
              · cases hF
                exact hm15
            · rcases if_ok hF with ⟨hc31, hF⟩ | ⟨hc31, hF⟩
              · exact nX11_way_66 hm15  hF
              · exact nX11_way_66 hm15  hF
        · cases hF
          exact hm11
      · exact nX11_way_21 hm6  hF
theorem qX11_way {g : Shp} {m : Mem} {x1 x2 x3 : Int} (h : Sh g m)  : fX11_way g 241 x1 x2 x3 m = eX11_way g x1 x2 x3 m := qX11_way_0 h 
theorem nX11_way {g : Shp} {m : Mem} {x1 x2 x3 : Int} (h : Sh g m)  {r : Int} {m' : Mem} (hF : eX11_way g x1 x2 x3 m = some (r, m')) : Sh g m' := nX11_way_0 h  hF
set_option maxRecDepth 20000 in
theorem qX11_best_62 {g : Shp} {m : Mem} {x1 x2 x3 x4 : Int} (h : Sh g m)  : bX11_best_62 g 241 x1 x2 x3 x4 m = ebX11_best_62 g x1 x2 x3 x4 m := by
  unfold bX11_best_62 ebX11_best_62
  refine vv_c (fun y1 ey1 => ?_)
  rfl
theorem nX11_best_62 {g : Shp} {m : Mem} {x1 x2 x3 x4 : Int} (h : Sh g m)  {c1 : Int} {s1 : (Int × Int × Int × Mem)} (hF : ebX11_best_62 g x1 x2 x3 x4 m = some (c1, s1)) : Sh g s1.2.2.2 := by
  unfold ebX11_best_62 at hF
  obtain ⟨y1, ey1, hF⟩ := vv_ok hF
  cases hF
  exact h
set_option maxRecDepth 20000 in
theorem qX11_best_30 {g : Shp} {m : Mem} {x1 x2 x3 x4 : Int} (h : Sh g m)  : bX11_best_30 g 241 x1 x2 x3 x4 m = ebX11_best_30 g x1 x2 x3 x4 m := by
  unfold bX11_best_30 ebX11_best_30
  refine if_c (fun hc1 => ?_) (fun hc1 => ?_)
  · rfl
  · refine bd2_q (qX11_findWay h ) (fun v2 m3 h4 => ?_)
    have hm3 := nX11_findWay h  ((qX11_findWay h ).symm.trans h4)
    refine if_c (fun hc5 => ?_) (fun hc5 => ?_)
    · exact qX11_best_62 hm3
    · refine if_c (fun hc6 => ?_) (fun hc6 => ?_)
      · exact qX11_best_62 hm3
      · refine vv_c (fun y7 ey7 => ?_)
        exact qX11_best_62 hm3 
theorem nX11_best_30 {g : Shp} {m : Mem} {x1 x2 x3 x4 : Int} (h : Sh g m)  {c1 : Int} {s1 : (Int × Int × Int × Mem)} (hF : ebX11_best_30 g x1 x2 x3 x4 m = some (c1, s1)) : Sh g s1.2.2.2 := by
  unfold ebX11_best_30 at hF
  rcases if_ok hF with ⟨hc1, hF⟩ | ⟨hc1, hF⟩
  · cases hF
    exact h
  · obtain ⟨v2, m3, h4, hF⟩ := bd2_ok hF
    have hm3 := nX11_findWay h  h4
    rcases if_ok hF with ⟨hc5, hF⟩ | ⟨hc5, hF⟩
    · exact nX11_best_62 hm3  hF
    · rcases if_ok hF with ⟨hc6, hF⟩ | ⟨hc6, hF⟩
      · exact nX11_best_62 hm3  hF
      · obtain ⟨y7, ey7, hF⟩ := vv_ok hF
        exact nX11_best_62 hm3  hF
theorem nlX11_best_30 {g : Shp} {x1 : Int}  {n : Nat} {s0 s1 : (Int × Int × Int × Mem)} {c1 : Int} (h : Sh g s0.2.2.2) (hI : iter (eBX11_best_30 g x1) n s0 = some (c1, s1)) : Sh g s1.2.2.2 :=
  iter_inv (B := eBX11_best_30 g x1) (fun q => Sh g q.2.2.2) (fun s c s' hs hB => nX11_best_30 hs  hB) n s0 c1 s1 h hI
theorem qlX11_best_30 {g : Shp} {x1 : Int}  {n : Nat} {s0 : (Int × Int × Int × Mem)} (h : Sh g s0.2.2.2) : iter (BX11_best_30 g 241 x1) n s0 = iter (eBX11_best_30 g x1) n s0 :=
  iter_eq (B := BX11_best_30 g 241 x1) (E := eBX11_best_30 g x1) (fun q => Sh g q.2.2.2) (fun s hs => qX11_best_30 hs ) (fun s c s' hs hB => nX11_best_30 hs  ((qX11_best_30 hs ).symm.trans hB)) n s0 h
set_option maxRecDepth 20000 in
theorem qX11_best_68 {g : Shp} {m : Mem} {x2 : Int} (h : Sh g m)  : bX11_best_68 g x2 m = ebX11_best_68 g x2 m := by
  unfold bX11_best_68 ebX11_best_68
  rfl
theorem nX11_best_68 {g : Shp} {m : Mem} {x2 : Int} (h : Sh g m)  {r : Int} {m' : Mem} (hF : ebX11_best_68 g x2 m = some (r, m')) : Sh g m' := by
  unfold ebX11_best_68 at hF
  cases hF
  exact h
set_option maxRecDepth 20000 in
theorem qX11_best_0 {g : Shp} {m : Mem} {x1 : Int} (h : Sh g m)  : bX11_best_0 g 241 x1 m = ebX11_best_0 g x1 m := by
  unfold bX11_best_0 ebX11_best_0
  refine bd2_q (qX11_isLine h ) (fun v1 m2 h3 => ?_)
  have hm2 := nX11_isLine h  ((qX11_isLine h ).symm.trans h3)
  refine if_c (fun hc4 => ?_) (fun hc4 => ?_)
  · rfl
  · refine bd2_q (qX11_isCovered hm2 ) (fun v5 m6 h7 => ?_)
    have hm6 := nX11_isCovered hm2  ((qX11_isCovered hm2 ).symm.trans h7)
    refine if_c (fun hc8 => ?_) (fun hc8 => ?_)
    · refine bdl_q (qlX11_best_30  (n := 100000) (s0 := ((-4), 1000000, 0, m6)) hm6) (fun cv9 sv10 hi11 => ?_)
      have h12 := nlX11_best_30  (s0 := ((-4), 1000000, 0, m6)) hm6 ((qlX11_best_30  (n := 100000) (s0 := ((-4), 1000000, 0, m6)) hm6).symm.trans hi11)
      exact qX11_best_68 h12 
    · rfl
theorem nX11_best_0 {g : Shp} {m : Mem} {x1 : Int} (h : Sh g m)  {r : Int} {m' : Mem} (hF : ebX11_best_0 g x1 m = some (r, m')) : Sh g m' := by
  unfold ebX11_best_0 at hF
  obtain ⟨v1, m2, h3, hF⟩ := bd2_ok hF
  have hm2 := nX11_isLine h  h3
  rcases if_ok hF with ⟨hc4, hF⟩ | ⟨hc4, hF⟩
  · cases hF
    exact hm2
  · obtain ⟨v5, m6, h7, hF⟩ := bd2_ok hF
    have hm6 := nX11_isCovered hm2  h7
    rcases if_ok hF with ⟨hc8, hF⟩ | ⟨hc8, hF⟩
    · obtain ⟨cv9, sv10, hi11, hF⟩ := bdl_ok hF
      have h12 := nlX11_best_30  (s0 := ((-4), 1000000, 0, m6)) hm6 hi11
      exact nX11_best_68 h12  hF
    · cases hF
      exact hm6
theorem qX11_best {g : Shp} {m : Mem} {x1 : Int} (h : Sh g m)  : fX11_best g 241 x1 m = eX11_best g x1 m := qX11_best_0 h 
theorem nX11_best {g : Shp} {m : Mem} {x1 : Int} (h : Sh g m)  {r : Int} {m' : Mem} (hF : eX11_best g x1 m = some (r, m')) : Sh g m' := nX11_best_0 h  hF
set_option maxRecDepth 20000 in
theorem qX11_coverBy_136 {g : Shp} {m : Mem} {x1 x2 x3 z0 z1 z2 z3 : Int} (h : Sh g m) (hz0 : gk g z0 = 20) : bX11_coverBy_136 g 241 x1 x2 x3 z0 z1 z2 z3 m = ebX11_coverBy_136 g x1 x2 x3 z0 z1 z2 z3 m := by
  unfold bX11_coverBy_136 ebX11_coverBy_136
  refine ck_c (fun i1 => ?_)
  refine vm_c (fun m2 em2 => ?_)
  have hm2 := h.s em2 (nRa hz0 (by decide))
  refine vv_c (fun y3 ey3 => ?_)
  rfl
theorem nX11_coverBy_136 {g : Shp} {m : Mem} {x1 x2 x3 z0 z1 z2 z3 : Int} (h : Sh g m) (hz0 : gk g z0 = 20) {c1 : Int} {s1 : (Int × Mem)} (hF : ebX11_coverBy_136 g x1 x2 x3 z0 z1 z2 z3 m = some (c1, s1)) : Sh g s1.2 := by
  unfold ebX11_coverBy_136 at hF
  obtain ⟨i1, hF⟩ := ck_ok hF
  obtain ⟨m2, em2, hF⟩ := vm_ok hF
  have hm2 := h.s em2 (nRa hz0 (by decide))
  obtain ⟨y3, ey3, hF⟩ := vv_ok hF
  cases hF
  exact hm2
set_option maxRecDepth 20000 in
theorem qX11_coverBy_109 {g : Shp} {m : Mem} {x1 x2 x3 x6 z0 z1 z2 z3 : Int} (h : Sh g m) (hz0 : gk g z0 = 20) : bX11_coverBy_109 g 241 x1 x2 x3 x6 z0 z1 z2 z3 m = ebX11_coverBy_109 g x1 x2 x3 x6 z0 z1 z2 z3 m := by
  unfold bX11_coverBy_109 ebX11_coverBy_109
  refine ck_c (fun i1 => ?_)
  refine vm_c (fun m2 em2 => ?_)
  have hm2 := h.s em2 (nRa hz0 (by decide))
  have k3 := s_241_0 hm2
  rewrite [k3.1, ck_t k3.2.1]
  try rewrite [k3.2.2]
  refine ck_c (fun i4 => ?_)
  refine if_c (fun hc5 => ?_) (fun hc5 => ?_)
  · have k6 := s_241_32 hm2
    rewrite [k6.1, ck_t k6.2.1]
    try rewrite [k6.2.2]
    refine ck_c (fun i7 => ?_)
    exact qX11_coverBy_136 hm2 k3.2.1
  · exact qX11_coverBy_136 hm2 k3.2.1
theorem nX11_coverBy_109 {g : Shp} {m : Mem} {x1 x2 x3 x6 z0 z1 z2 z3 : Int} (h : Sh g m) (hz0 : gk g z0 = 20) {c1 : Int} {s1 : (Int × Mem)} (hF : ebX11_coverBy_109 g x1 x2 x3 x6 z0 z1 z2 z3 m = some (c1, s1)) : Sh g s1.2 := by
  unfold ebX11_coverBy_109 at hF
  obtain ⟨i1, hF⟩ := ck_ok hF
  obtain ⟨m2, em2, hF⟩ := vm_ok hF
  have hm2 := h.s em2 (nRa hz0 (by decide))
  have k3 := s_241_0 hm2
  obtain ⟨i4, hF⟩ := ck_ok hF
  rcases if_ok hF with ⟨hc5, hF⟩ | ⟨hc5, hF⟩
  · have k6 := s_241_32 hm2
    obtain ⟨i7, hF⟩ := ck_ok hF
    exact nX11_coverBy_136 hm2 k3.2.1 hF
  · exact nX11_coverBy_136 hm2 k3.2.1 hF
set_option maxRecDepth 20000 in
theorem qX11_coverBy_53 {g : Shp} {m : Mem} {x1 x2 x3 x4 x5 z0 : Int} (h : Sh g m)  : bX11_coverBy_53 g 241 x1 x2 x3 x4 x5 z0 m = ebX11_coverBy_53 g x1 x2 x3 x4 x5 z0 m := by
  unfold bX11_coverBy_53 ebX11_coverBy_53
  have k1 := s_241_0 h
  rewrite [k1.1, ck_t k1.2.1]
  try rewrite [k1.2.2]
  refine ck_c (fun i2 => ?_)
  try rewrite [k1.2.2]
  refine ck_c (fun i3 => ?_)
  refine vm_c (fun m4 em4 => ?_)
  have hm4 := h.s em4 (nRa k1.2.1 (by decide))
  have k5 := s_241_0 hm4
  rewrite [k5.1, ck_t k5.2.1]
  try rewrite [k5.2.2]
  refine ck_c (fun i6 => ?_)
  try rewrite [k5.2.2]
  refine ck_c (fun i7 => ?_)
  refine vm_c (fun m8 em8 => ?_)
  have hm8 := hm4.s em8 (nRa k5.2.1 (by decide))
  have k9 := s_241_0 hm8
  rewrite [k9.1, ck_t k9.2.1]
  try rewrite [k9.2.2]
  refine ck_c (fun i10 => ?_)
  refine if_c (fun hc11 => ?_) (fun hc11 => ?_)
  · exact qX11_coverBy_109 hm8 k9.2.1
  · exact qX11_coverBy_109 hm8 k9.2.1
theorem nX11_coverBy_53 {g : Shp} {m : Mem} {x1 x2 x3 x4 x5 z0 : Int} (h : Sh g m)  {c1 : Int} {s1 : (Int × Mem)} (hF : ebX11_coverBy_53 g x1 x2 x3 x4 x5 z0 m = some (c1, s1)) : Sh g s1.2 := by
  unfold ebX11_coverBy_53 at hF
  have k1 := s_241_0 h
  obtain ⟨i2, hF⟩ := ck_ok hF
  obtain ⟨i3, hF⟩ := ck_ok hF
  obtain ⟨m4, em4, hF⟩ := vm_ok hF
  have hm4 := h.s em4 (nRa k1.2.1 (by decide))
  have k5 := s_241_0 hm4
  obtain ⟨i6, hF⟩ := ck_ok hF
  obtain ⟨i7, hF⟩ := ck_ok hF
  obtain ⟨m8, em8, hF⟩ := vm_ok hF
  have hm8 := hm4.s em8 (nRa k5.2.1 (by decide))
  have k9 := s_241_0 hm8
  obtain ⟨i10, hF⟩ := ck_ok hF
  rcases if_ok hF with ⟨hc11, hF⟩ | ⟨hc11, hF⟩
  · exact nX11_coverBy_109 hm8 k9.2.1 hF
  · exact nX11_coverBy_109 hm8 k9.2.1 hF
set_option maxRecDepth 20000 in
theorem qX11_coverBy_52 {g : Shp} {m : Mem} {x1 x2 x3 x4 x5 : Int} (h : Sh g m)  : bX11_coverBy_52 g 241 x1 x2 x3 x4 x5 m = ebX11_coverBy_52 g x1 x2 x3 x4 x5 m := by
  unfold bX11_coverBy_52 ebX11_coverBy_52
  exact qX11_coverBy_53 h 
theorem nX11_coverBy_52 {g : Shp} {m : Mem} {x1 x2 x3 x4 x5 : Int} (h : Sh g m)  {c1 : Int} {s1 : (Int × Mem)} (hF : ebX11_coverBy_52 g x1 x2 x3 x4 x5 m = some (c1, s1)) : Sh g s1.2 := by
  unfold ebX11_coverBy_52 at hF
  exact nX11_coverBy_53 h  hF
set_option maxRecDepth 20000 in
theorem qX11_coverBy_2 {g : Shp} {m : Mem} {x1 x2 x3 : Int} (h : Sh g m)  : bX11_coverBy_2 g 241 x1 x2 x3 m = ebX11_coverBy_2 g x1 x2 x3 m := by
  unfold bX11_coverBy_2 ebX11_coverBy_2
  refine if_c (fun hc1 => ?_) (fun hc1 => ?_)
  · rfl
  · have k2 := s_241_33 h
    rewrite [k2.1, ck_t k2.2.1]
    try rewrite [k2.2.2]
    refine ck_c (fun i3 => ?_)
    refine vv_c (fun y4 ey4 => ?_)
    have k5 := s_241_19 h
    rewrite [k5.1, ck_t k5.2.1]
    try rewrite [k5.2.2]
    refine ck_c (fun i6 => ?_)
    have k7 := s_241_32 h
    rewrite [k7.1, ck_t k7.2.1]
    try rewrite [k7.2.2]
    refine ck_c (fun i8 => ?_)
    refine vv_c (fun y9 ey9 => ?_)
    refine if_c (fun hc10 => ?_) (fun hc10 => ?_)
    · have k11 := s_241_34 h
      rewrite [k11.1, ck_t k11.2.1]
      try rewrite [k11.2.2]
      refine ck_c (fun i12 => ?_)
      refine if_c (fun hc13 => ?_) (fun hc13 => ?_)
      · exact qX11_coverBy_53 h
      · exact qX11_coverBy_52 h
    · exact qX11_coverBy_52 h
theorem nX11_coverBy_2 {g : Shp} {m : Mem} {x1 x2 x3 : Int} (h : Sh g m)  {c1 : Int} {s1 : (Int × Mem)} (hF : ebX11_coverBy_2 g x1 x2 x3 m = some (c1, s1)) : Sh g s1.2 := by
  unfold ebX11_coverBy_2 at hF
  rcases if_ok hF with ⟨hc1, hF⟩ | ⟨hc1, hF⟩
  · cases hF
    exact h
  · have k2 := s_241_33 h
    obtain ⟨i3, hF⟩ := ck_ok hF
    obtain ⟨y4, ey4, hF⟩ := vv_ok hF
    have k5 := s_241_19 h
    obtain ⟨i6, hF⟩ := ck_ok hF
    have k7 := s_241_32 h
    obtain ⟨i8, hF⟩ := ck_ok hF
    obtain ⟨y9, ey9, hF⟩ := vv_ok hF
    rcases if_ok hF with ⟨hc10, hF⟩ | ⟨hc10, hF⟩
    · have k11 := s_241_34 h
      obtain ⟨i12, hF⟩ := ck_ok hF
      rcases if_ok hF with ⟨hc13, hF⟩ | ⟨hc13, hF⟩
      · exact nX11_coverBy_53 h  hF
      · exact nX11_coverBy_52 h  hF
    · exact nX11_coverBy_52 h  hF
theorem nlX11_coverBy_2 {g : Shp} {x1 x2 : Int}  {n : Nat} {s0 s1 : (Int × Mem)} {c1 : Int} (h : Sh g s0.2) (hI : iter (eBX11_coverBy_2 g x1 x2) n s0 = some (c1, s1)) : Sh g s1.2 :=
  iter_inv (B := eBX11_coverBy_2 g x1 x2) (fun q => Sh g q.2) (fun s c s' hs hB => nX11_coverBy_2 hs  hB) n s0 c1 s1 h hI
theorem qlX11_coverBy_2 {g : Shp} {x1 x2 : Int}  {n : Nat} {s0 : (Int × Mem)} (h : Sh g s0.2) : iter (BX11_coverBy_2 g 241 x1 x2) n s0 = iter (eBX11_coverBy_2 g x1 x2) n s0 :=
  iter_eq (B := BX11_coverBy_2 g 241 x1 x2) (E := eBX11_coverBy_2 g x1 x2) (fun q => Sh g q.2) (fun s hs => qX11_coverBy_2 hs ) (fun s c s' hs hB => nX11_coverBy_2 hs  ((qX11_coverBy_2 hs ).symm.trans hB)) n s0 h
set_option maxRecDepth 20000 in
theorem qX11_coverBy_251 {g : Shp} {m : Mem} {x1 x3 z0 z1 z2 : Int} (h : Sh g m) (hz0 : gk g z0 = 20) : bX11_coverBy_251 g 241 x1 x3 z0 z1 z2 m = ebX11_coverBy_251 g x1 x3 z0 z1 z2 m := by
  unfold bX11_coverBy_251 ebX11_coverBy_251
  refine ck_c (fun i1 => ?_)
  refine vm_c (fun m2 em2 => ?_)
  have hm2 := h.s em2 (nRa hz0 (by decide))
  refine vv_c (fun y3 ey3 => ?_)
  rfl
theorem nX11_coverBy_251 {g : Shp} {m : Mem} {x1 x3 z0 z1 z2 : Int} (h : Sh g m) (hz0 : gk g z0 = 20) {c1 : Int} {s1 : (Int × Mem)} (hF : ebX11_coverBy_251 g x1 x3 z0 z1 z2 m = some (c1, s1)) : Sh g s1.2 := by
  unfold ebX11_coverBy_251 at hF
  obtain ⟨i1, hF⟩ := ck_ok hF
  obtain ⟨m2, em2, hF⟩ := vm_ok hF
  have hm2 := h.s em2 (nRa hz0 (by decide))
  obtain ⟨y3, ey3, hF⟩ := vv_ok hF
  cases hF
  exact hm2
set_option maxRecDepth 20000 in
theorem qX11_coverBy_196 {g : Shp} {m : Mem} {x1 x3 : Int} (h : Sh g m)  : bX11_coverBy_196 g 241 x1 x3 m = ebX11_coverBy_196 g x1 x3 m := by
  unfold bX11_coverBy_196 ebX11_coverBy_196
  have k1 := s_241_23 h
  rewrite [k1.1, ck_t k1.2.1]
  try rewrite [k1.2.2]
  refine ck_c (fun i2 => ?_)
  refine if_c (fun hc3 => ?_) (fun hc3 => ?_)
  · rfl
  · have k4 := s_241_24 h
    rewrite [k4.1, ck_t k4.2.1]
    try rewrite [k4.2.2]
    refine ck_c (fun i5 => ?_)
    refine vv_c (fun y6 ey6 => ?_)
    have k7 := s_241_0 h
    rewrite [k7.1, ck_t k7.2.1]
    have k8 := s_241_0 h
    try rewrite [k8.2.2]
    refine ck_c (fun i9 => ?_)
    refine if_c (fun hc10 => ?_) (fun hc10 => ?_)
    · exact qX11_coverBy_251 h k7.2.1
    · have k11 := s_241_0 h
      try rewrite [k11.2.2]
      refine ck_c (fun i12 => ?_)
      exact qX11_coverBy_251 h k7.2.1
theorem nX11_coverBy_196 {g : Shp} {m : Mem} {x1 x3 : Int} (h : Sh g m)  {c1 : Int} {s1 : (Int × Mem)} (hF : ebX11_coverBy_196 g x1 x3 m = some (c1, s1)) : Sh g s1.2 := by
  unfold ebX11_coverBy_196 at hF
  have k1 := s_241_23 h
  obtain ⟨i2, hF⟩ := ck_ok hF
  rcases if_ok hF with ⟨hc3, hF⟩ | ⟨hc3, hF⟩
  · cases hF
    exact h
  · have k4 := s_241_24 h
    obtain ⟨i5, hF⟩ := ck_ok hF
    obtain ⟨y6, ey6, hF⟩ := vv_ok hF
    have k7 := s_241_0 h
    have k8 := s_241_0 h
    obtain ⟨i9, hF⟩ := ck_ok hF
    rcases if_ok hF with ⟨hc10, hF⟩ | ⟨hc10, hF⟩
    · exact nX11_coverBy_251 h k7.2.1 hF
    · have k11 := s_241_0 h
      obtain ⟨i12, hF⟩ := ck_ok hF
      exact nX11_coverBy_251 h k7.2.1 hF
theorem nlX11_coverBy_196 {g : Shp} {x1 : Int}  {n : Nat} {s0 s1 : (Int × Mem)} {c1 : Int} (h : Sh g s0.2) (hI : iter (eBX11_coverBy_196 g x1) n s0 = some (c1, s1)) : Sh g s1.2 :=
  iter_inv (B := eBX11_coverBy_196 g x1) (fun q => Sh g q.2) (fun s c s' hs hB => nX11_coverBy_196 hs  hB) n s0 c1 s1 h hI
theorem qlX11_coverBy_196 {g : Shp} {x1 : Int}  {n : Nat} {s0 : (Int × Mem)} (h : Sh g s0.2) : iter (BX11_coverBy_196 g 241 x1) n s0 = iter (eBX11_coverBy_196 g x1) n s0 :=
  iter_eq (B := BX11_coverBy_196 g 241 x1) (E := eBX11_coverBy_196 g x1) (fun q => Sh g q.2) (fun s hs => qX11_coverBy_196 hs ) (fun s c s' hs hB => nX11_coverBy_196 hs  ((qX11_coverBy_196 hs ).symm.trans hB)) n s0 h
set_option maxRecDepth 20000 in
theorem qX11_coverBy_258 {g : Shp} {m : Mem} (h : Sh g m)  : bX11_coverBy_258 g m = ebX11_coverBy_258 g m := by
  unfold bX11_coverBy_258 ebX11_coverBy_258
  rfl
theorem nX11_coverBy_258 {g : Shp} {m : Mem} (h : Sh g m)  {r : Int} {m' : Mem} (hF : ebX11_coverBy_258 g m = some (r, m')) : Sh g m' := by
  unfold ebX11_coverBy_258 at hF
  cases hF
  exact h
set_option maxRecDepth 20000 in
theorem qX11_coverBy_144 {g : Shp} {m : Mem} {x1 x2 : Int} (h : Sh g m)  : bX11_coverBy_144 g 241 x1 x2 m = ebX11_coverBy_144 g x1 x2 m := by
  unfold bX11_coverBy_144 ebX11_coverBy_144
  have k1 := s_241_0 h
  rewrite [k1.1, ck_t k1.2.1]
  try rewrite [k1.2.2]
  refine ck_c (fun i2 => ?_)
  refine vm_c (fun m3 em3 => ?_)
  have hm3 := h.s em3 (nRa k1.2.1 (by decide))
  have k4 := s_241_0 hm3
  rewrite [k4.1, ck_t k4.2.1]
  try rewrite [k4.2.2]
  refine ck_c (fun i5 => ?_)
  refine vm_c (fun m6 em6 => ?_)
  have hm6 := hm3.s em6 (nRa k4.2.1 (by decide))
  have k7 := s_241_0 hm6
  rewrite [k7.1, ck_t k7.2.1]
  try rewrite [k7.2.2]
  refine ck_c (fun i8 => ?_)
  refine vm_c (fun m9 em9 => ?_)
  have hm9 := hm6.s em9 (nRa k7.2.1 (by decide))
  have k10 := s_241_0 hm9
  rewrite [k10.1, ck_t k10.2.1]
  try rewrite [k10.2.2]
  refine ck_c (fun i11 => ?_)
  try rewrite [k10.2.2]
  refine ck_c (fun i12 => ?_)
  refine vm_c (fun m13 em13 => ?_)
  have hm13 := hm9.s em13 (nRa k10.2.1 (by decide))
  refine bdl_q (qlX11_coverBy_196  (n := 100000) (s0 := (0, m13)) hm13) (fun cv14 sv15 hi16 => ?_)
  have h17 := nlX11_coverBy_196  (s0 := (0, m13)) hm13 ((qlX11_coverBy_196  (n := 100000) (s0 := (0, m13)) hm13).symm.trans hi16)
  exact qX11_coverBy_258 h17 
theorem nX11_coverBy_144 {g : Shp} {m : Mem} {x1 x2 : Int} (h : Sh g m)  {r : Int} {m' : Mem} (hF : ebX11_coverBy_144 g x1 x2 m = some (r, m')) : Sh g m' := by
  unfold ebX11_coverBy_144 at hF
  have k1 := s_241_0 h
  obtain ⟨i2, hF⟩ := ck_ok hF
  obtain ⟨m3, em3, hF⟩ := vm_ok hF
  have hm3 := h.s em3 (nRa k1.2.1 (by decide))
  have k4 := s_241_0 hm3
  obtain ⟨i5, hF⟩ := ck_ok hF
  obtain ⟨m6, em6, hF⟩ := vm_ok hF
  have hm6 := hm3.s em6 (nRa k4.2.1 (by decide))
  have k7 := s_241_0 hm6
  obtain ⟨i8, hF⟩ := ck_ok hF
  obtain ⟨m9, em9, hF⟩ := vm_ok hF
  have hm9 := hm6.s em9 (nRa k7.2.1 (by decide))
  have k10 := s_241_0 hm9
  obtain ⟨i11, hF⟩ := ck_ok hF
  obtain ⟨i12, hF⟩ := ck_ok hF
  obtain ⟨m13, em13, hF⟩ := vm_ok hF
  have hm13 := hm9.s em13 (nRa k10.2.1 (by decide))
  obtain ⟨cv14, sv15, hi16, hF⟩ := bdl_ok hF
  have h17 := nlX11_coverBy_196  (s0 := (0, m13)) hm13 hi16
  exact nX11_coverBy_258 h17  hF
set_option maxRecDepth 20000 in
theorem qX11_coverBy_0 {g : Shp} {m : Mem} {x1 x2 : Int} (h : Sh g m)  : bX11_coverBy_0 g 241 x1 x2 m = ebX11_coverBy_0 g x1 x2 m := by
  unfold bX11_coverBy_0 ebX11_coverBy_0
  refine bdl_q (qlX11_coverBy_2  (n := 100000) (s0 := (0, m)) h) (fun cv1 sv2 hi3 => ?_)
  have h4 := nlX11_coverBy_2  (s0 := (0, m)) h ((qlX11_coverBy_2  (n := 100000) (s0 := (0, m)) h).symm.trans hi3)
  exact qX11_coverBy_144 h4 
theorem nX11_coverBy_0 {g : Shp} {m : Mem} {x1 x2 : Int} (h : Sh g m)  {r : Int} {m' : Mem} (hF : ebX11_coverBy_0 g x1 x2 m = some (r, m')) : Sh g m' := by
  unfold ebX11_coverBy_0 at hF
  obtain ⟨cv1, sv2, hi3, hF⟩ := bdl_ok hF
  have h4 := nlX11_coverBy_2  (s0 := (0, m)) h hi3
  exact nX11_coverBy_144 h4  hF
theorem qX11_coverBy {g : Shp} {m : Mem} {x1 x2 : Int} (h : Sh g m)  : fX11_coverBy g 241 x1 x2 m = eX11_coverBy g x1 x2 m := qX11_coverBy_0 h 
theorem nX11_coverBy {g : Shp} {m : Mem} {x1 x2 : Int} (h : Sh g m)  {r : Int} {m' : Mem} (hF : eX11_coverBy g x1 x2 m = some (r, m')) : Sh g m' := nX11_coverBy_0 h  hF
set_option maxRecDepth 20000 in
theorem qX11_cover_15 {g : Shp} {m : Mem} (h : Sh g m)  : bX11_cover_15 g m = ebX11_cover_15 g m := by
  unfold bX11_cover_15 ebX11_cover_15
  rfl
theorem nX11_cover_15 {g : Shp} {m : Mem} (h : Sh g m)  {r : Int} {m' : Mem} (hF : ebX11_cover_15 g m = some (r, m')) : Sh g m' := by
  unfold ebX11_cover_15 at hF
  cases hF
  exact h
set_option maxRecDepth 20000 in
theorem qX11_cover_0 {g : Shp} {m : Mem} {x1 x2 : Int} (h : Sh g m)  : bX11_cover_0 g 241 x1 x2 m = ebX11_cover_0 g x1 x2 m := by
  unfold bX11_cover_0 ebX11_cover_0
  refine bd2_q (qX11_isLine h ) (fun v1 m2 h3 => ?_)
  have hm2 := nX11_isLine h  ((qX11_isLine h ).symm.trans h3)
  refine if_c (fun hc4 => ?_) (fun hc4 => ?_)
  · exact qX11_cover_15 hm2
  · refine bd2_q (qX11_isColour hm2 ) (fun v5 m6 h7 => ?_)
    have hm6 := nX11_isColour hm2  ((qX11_isColour hm2 ).symm.trans h7)
    refine if_c (fun hc8 => ?_) (fun hc8 => ?_)
    · exact qX11_cover_15 hm6
    · refine bd2_q (qX11_isCovered hm6 ) (fun v9 m10 h11 => ?_)
      have hm10 := nX11_isCovered hm6  ((qX11_isCovered hm6 ).symm.trans h11)
      refine if_c (fun hc12 => ?_) (fun hc12 => ?_)
      · refine bd2_q (qX11_findWay hm10 ) (fun v13 m14 h15 => ?_)
        have hm14 := nX11_findWay hm10  ((qX11_findWay hm10 ).symm.trans h15)
        refine if_c (fun hc16 => ?_) (fun hc16 => ?_)
        · rfl
        · refine bd2_q (qX11_note hm14 ) (fun v17 m18 h19 => ?_)
          have hm18 := nX11_note hm14  ((qX11_note hm14 ).symm.trans h19)
          refine bd2_q (qX11_coverBy hm18 ) (fun v20 m21 h22 => ?_)
          have hm21 := nX11_coverBy hm18  ((qX11_coverBy hm18 ).symm.trans h22)
          rfl
      · rfl
theorem nX11_cover_0 {g : Shp} {m : Mem} {x1 x2 : Int} (h : Sh g m)  {r : Int} {m' : Mem} (hF : ebX11_cover_0 g x1 x2 m = some (r, m')) : Sh g m' := by
  unfold ebX11_cover_0 at hF
  obtain ⟨v1, m2, h3, hF⟩ := bd2_ok hF
  have hm2 := nX11_isLine h  h3
  rcases if_ok hF with ⟨hc4, hF⟩ | ⟨hc4, hF⟩
  · exact nX11_cover_15 hm2  hF
  · obtain ⟨v5, m6, h7, hF⟩ := bd2_ok hF
    have hm6 := nX11_isColour hm2  h7
    rcases if_ok hF with ⟨hc8, hF⟩ | ⟨hc8, hF⟩
    · exact nX11_cover_15 hm6  hF
    · obtain ⟨v9, m10, h11, hF⟩ := bd2_ok hF
      have hm10 := nX11_isCovered hm6  h11
      rcases if_ok hF with ⟨hc12, hF⟩ | ⟨hc12, hF⟩
      · obtain ⟨v13, m14, h15, hF⟩ := bd2_ok hF
        have hm14 := nX11_findWay hm10  h15
        rcases if_ok hF with ⟨hc16, hF⟩ | ⟨hc16, hF⟩
        · cases hF
          exact hm14
        · obtain ⟨v17, m18, h19, hF⟩ := bd2_ok hF
          have hm18 := nX11_note hm14  h19
          obtain ⟨v20, m21, h22, hF⟩ := bd2_ok hF
          have hm21 := nX11_coverBy hm18  h22
          cases hF
          exact hm21
      · cases hF
        exact hm10
theorem qX11_cover {g : Shp} {m : Mem} {x1 x2 : Int} (h : Sh g m)  : fX11_cover g 241 x1 x2 m = eX11_cover g x1 x2 m := qX11_cover_0 h 
theorem nX11_cover {g : Shp} {m : Mem} {x1 x2 : Int} (h : Sh g m)  {r : Int} {m' : Mem} (hF : eX11_cover g x1 x2 m = some (r, m')) : Sh g m' := nX11_cover_0 h  hF
set_option maxRecDepth 20000 in
theorem qX11_takeUp_96 {g : Shp} {m : Mem} {x1 x2 x3 x4 x5 z0 : Int} (h : Sh g m)  : bX11_takeUp_96 g 241 x1 x2 x3 x4 x5 z0 m = ebX11_takeUp_96 g x1 x2 x3 x4 x5 z0 m := by
  unfold bX11_takeUp_96 ebX11_takeUp_96
  have k1 := s_241_0 h
  rewrite [k1.1, ck_t k1.2.1]
  try rewrite [k1.2.2]
  refine ck_c (fun i2 => ?_)
  try rewrite [k1.2.2]
  refine ck_c (fun i3 => ?_)
  refine vm_c (fun m4 em4 => ?_)
  have hm4 := h.s em4 (nRa k1.2.1 (by decide))
  refine vv_c (fun y5 ey5 => ?_)
  have k6 := s_241_0 hm4
  rewrite [k6.1, ck_t k6.2.1]
  try rewrite [k6.2.2]
  refine ck_c (fun i7 => ?_)
  have k8 := s_241_19 hm4
  rewrite [k8.1, ck_t k8.2.1]
  try rewrite [k8.2.2]
  refine ck_c (fun i9 => ?_)
  try rewrite [k6.2.2]
  refine ck_c (fun i10 => ?_)
  refine vm_c (fun m11 em11 => ?_)
  have hm11 := hm4.s em11 (nRa k6.2.1 (by decide))
  have k12 := s_241_0 hm11
  rewrite [k12.1, ck_t k12.2.1]
  try rewrite [k12.2.2]
  refine ck_c (fun i13 => ?_)
  refine vm_c (fun m14 em14 => ?_)
  have hm14 := hm11.s em14 (nRa k12.2.1 (by decide))
  refine vv_c (fun y15 ey15 => ?_)
  rfl
theorem nX11_takeUp_96 {g : Shp} {m : Mem} {x1 x2 x3 x4 x5 z0 : Int} (h : Sh g m)  {c1 : Int} {s1 : (Int × Int × Mem)} (hF : ebX11_takeUp_96 g x1 x2 x3 x4 x5 z0 m = some (c1, s1)) : Sh g s1.2.2 := by
  unfold ebX11_takeUp_96 at hF
  have k1 := s_241_0 h
  obtain ⟨i2, hF⟩ := ck_ok hF
  obtain ⟨i3, hF⟩ := ck_ok hF
  obtain ⟨m4, em4, hF⟩ := vm_ok hF
  have hm4 := h.s em4 (nRa k1.2.1 (by decide))
  obtain ⟨y5, ey5, hF⟩ := vv_ok hF
  have k6 := s_241_0 hm4
  obtain ⟨i7, hF⟩ := ck_ok hF
  have k8 := s_241_19 hm4
  obtain ⟨i9, hF⟩ := ck_ok hF
  obtain ⟨i10, hF⟩ := ck_ok hF
  obtain ⟨m11, em11, hF⟩ := vm_ok hF
  have hm11 := hm4.s em11 (nRa k6.2.1 (by decide))
  have k12 := s_241_0 hm11
  obtain ⟨i13, hF⟩ := ck_ok hF
  obtain ⟨m14, em14, hF⟩ := vm_ok hF
  have hm14 := hm11.s em14 (nRa k12.2.1 (by decide))
  obtain ⟨y15, ey15, hF⟩ := vv_ok hF
  cases hF
  exact hm14
set_option maxRecDepth 20000 in
theorem qX11_takeUp_29 {g : Shp} {m : Mem} {x1 x2 x3 : Int} (h : Sh g m)  : bX11_takeUp_29 g 241 x1 x2 x3 m = ebX11_takeUp_29 g x1 x2 x3 m := by
  unfold bX11_takeUp_29 ebX11_takeUp_29
  refine if_c (fun hc1 => ?_) (fun hc1 => ?_)
  · rfl
  · have k2 := s_241_0 h
    rewrite [k2.1, ck_t k2.2.1]
    try rewrite [k2.2.2]
    refine ck_c (fun i3 => ?_)
    refine vv_c (fun y4 ey4 => ?_)
    have k5 := s_241_0 h
    try rewrite [k5.2.2]
    refine ck_c (fun i6 => ?_)
    refine vv_c (fun y7 ey7 => ?_)
    have k8 := s_241_0 h
    try rewrite [k8.2.2]
    refine ck_c (fun i9 => ?_)
    refine if_c (fun hc10 => ?_) (fun hc10 => ?_)
    · have k11 := s_241_0 h
      try rewrite [k11.2.2]
      refine ck_c (fun i12 => ?_)
      exact qX11_takeUp_96 h 
    · exact qX11_takeUp_96 h
theorem nX11_takeUp_29 {g : Shp} {m : Mem} {x1 x2 x3 : Int} (h : Sh g m)  {c1 : Int} {s1 : (Int × Int × Mem)} (hF : ebX11_takeUp_29 g x1 x2 x3 m = some (c1, s1)) : Sh g s1.2.2 := by
  unfold ebX11_takeUp_29 at hF
  rcases if_ok hF with ⟨hc1, hF⟩ | ⟨hc1, hF⟩
  · cases hF
    exact h
  · have k2 := s_241_0 h
    obtain ⟨i3, hF⟩ := ck_ok hF
    obtain ⟨y4, ey4, hF⟩ := vv_ok hF
    have k5 := s_241_0 h
    obtain ⟨i6, hF⟩ := ck_ok hF
    obtain ⟨y7, ey7, hF⟩ := vv_ok hF
    have k8 := s_241_0 h
    obtain ⟨i9, hF⟩ := ck_ok hF
    rcases if_ok hF with ⟨hc10, hF⟩ | ⟨hc10, hF⟩
    · have k11 := s_241_0 h
      obtain ⟨i12, hF⟩ := ck_ok hF
      exact nX11_takeUp_96 h  hF
    · exact nX11_takeUp_96 h  hF
theorem nlX11_takeUp_29 {g : Shp} {x1 : Int}  {n : Nat} {s0 s1 : (Int × Int × Mem)} {c1 : Int} (h : Sh g s0.2.2) (hI : iter (eBX11_takeUp_29 g x1) n s0 = some (c1, s1)) : Sh g s1.2.2 :=
  iter_inv (B := eBX11_takeUp_29 g x1) (fun q => Sh g q.2.2) (fun s c s' hs hB => nX11_takeUp_29 hs  hB) n s0 c1 s1 h hI
theorem qlX11_takeUp_29 {g : Shp} {x1 : Int}  {n : Nat} {s0 : (Int × Int × Mem)} (h : Sh g s0.2.2) : iter (BX11_takeUp_29 g 241 x1) n s0 = iter (eBX11_takeUp_29 g x1) n s0 :=
  iter_eq (B := BX11_takeUp_29 g 241 x1) (E := eBX11_takeUp_29 g x1) (fun q => Sh g q.2.2) (fun s hs => qX11_takeUp_29 hs ) (fun s c s' hs hB => nX11_takeUp_29 hs  ((qX11_takeUp_29 hs ).symm.trans hB)) n s0 h
set_option maxRecDepth 20000 in
theorem qX11_takeUp_253 {g : Shp} {m : Mem} {x1 x2 x3 z0 z1 z2 : Int} (h : Sh g m) (hz0 : gk g z0 = 20) : bX11_takeUp_253 g 241 x1 x2 x3 z0 z1 z2 m = ebX11_takeUp_253 g x1 x2 x3 z0 z1 z2 m := by
  unfold bX11_takeUp_253 ebX11_takeUp_253
  refine ck_c (fun i1 => ?_)
  refine vm_c (fun m2 em2 => ?_)
  have hm2 := h.s em2 (nRa hz0 (by decide))
  refine vv_c (fun y3 ey3 => ?_)
  rfl
theorem nX11_takeUp_253 {g : Shp} {m : Mem} {x1 x2 x3 z0 z1 z2 : Int} (h : Sh g m) (hz0 : gk g z0 = 20) {c1 : Int} {s1 : (Int × Mem)} (hF : ebX11_takeUp_253 g x1 x2 x3 z0 z1 z2 m = some (c1, s1)) : Sh g s1.2 := by
  unfold ebX11_takeUp_253 at hF
  obtain ⟨i1, hF⟩ := ck_ok hF
  obtain ⟨m2, em2, hF⟩ := vm_ok hF
  have hm2 := h.s em2 (nRa hz0 (by decide))
  obtain ⟨y3, ey3, hF⟩ := vv_ok hF
  cases hF
  exact hm2
set_option maxRecDepth 20000 in
theorem qX11_takeUp_220 {g : Shp} {m : Mem} {x1 x2 x3 : Int} (h : Sh g m)  : bX11_takeUp_220 g 241 x1 x2 x3 m = ebX11_takeUp_220 g x1 x2 x3 m := by
  unfold bX11_takeUp_220 ebX11_takeUp_220
  refine if_c (fun hc1 => ?_) (fun hc1 => ?_)
  · rfl
  · have k2 := s_241_0 h
    rewrite [k2.1, ck_t k2.2.1]
    have k3 := s_241_0 h
    try rewrite [k3.2.2]
    refine ck_c (fun i4 => ?_)
    refine if_c (fun hc5 => ?_) (fun hc5 => ?_)
    · exact qX11_takeUp_253 h k2.2.1
    · have k6 := s_241_0 h
      try rewrite [k6.2.2]
      refine ck_c (fun i7 => ?_)
      exact qX11_takeUp_253 h k2.2.1
theorem nX11_takeUp_220 {g : Shp} {m : Mem} {x1 x2 x3 : Int} (h : Sh g m)  {c1 : Int} {s1 : (Int × Mem)} (hF : ebX11_takeUp_220 g x1 x2 x3 m = some (c1, s1)) : Sh g s1.2 := by
  unfold ebX11_takeUp_220 at hF
  rcases if_ok hF with ⟨hc1, hF⟩ | ⟨hc1, hF⟩
  · cases hF
    exact h
  · have k2 := s_241_0 h
    have k3 := s_241_0 h
    obtain ⟨i4, hF⟩ := ck_ok hF
    rcases if_ok hF with ⟨hc5, hF⟩ | ⟨hc5, hF⟩
    · exact nX11_takeUp_253 h k2.2.1 hF
    · have k6 := s_241_0 h
      obtain ⟨i7, hF⟩ := ck_ok hF
      exact nX11_takeUp_253 h k2.2.1 hF
theorem nlX11_takeUp_220 {g : Shp} {x1 x2 : Int}  {n : Nat} {s0 s1 : (Int × Mem)} {c1 : Int} (h : Sh g s0.2) (hI : iter (eBX11_takeUp_220 g x1 x2) n s0 = some (c1, s1)) : Sh g s1.2 :=
  iter_inv (B := eBX11_takeUp_220 g x1 x2) (fun q => Sh g q.2) (fun s c s' hs hB => nX11_takeUp_220 hs  hB) n s0 c1 s1 h hI
theorem qlX11_takeUp_220 {g : Shp} {x1 x2 : Int}  {n : Nat} {s0 : (Int × Mem)} (h : Sh g s0.2) : iter (BX11_takeUp_220 g 241 x1 x2) n s0 = iter (eBX11_takeUp_220 g x1 x2) n s0 :=
  iter_eq (B := BX11_takeUp_220 g 241 x1 x2) (E := eBX11_takeUp_220 g x1 x2) (fun q => Sh g q.2) (fun s hs => qX11_takeUp_220 hs ) (fun s c s' hs hB => nX11_takeUp_220 hs  ((qX11_takeUp_220 hs ).symm.trans hB)) n s0 h
set_option maxRecDepth 20000 in
theorem qX11_takeUp_260 {g : Shp} {m : Mem} {x2 : Int} (h : Sh g m)  : bX11_takeUp_260 g x2 m = ebX11_takeUp_260 g x2 m := by
  unfold bX11_takeUp_260 ebX11_takeUp_260
  rfl
theorem nX11_takeUp_260 {g : Shp} {m : Mem} {x2 : Int} (h : Sh g m)  {r : Int} {m' : Mem} (hF : ebX11_takeUp_260 g x2 m = some (r, m')) : Sh g m' := by
  unfold ebX11_takeUp_260 at hF
  cases hF
  exact h
set_option maxRecDepth 20000 in
theorem qX11_takeUp_157 {g : Shp} {m : Mem} {x1 x2 : Int} (h : Sh g m)  : bX11_takeUp_157 g 241 x1 x2 m = ebX11_takeUp_157 g x1 x2 m := by
  unfold bX11_takeUp_157 ebX11_takeUp_157
  have k1 := s_241_0 h
  rewrite [k1.1, ck_t k1.2.1]
  try rewrite [k1.2.2]
  refine ck_c (fun i2 => ?_)
  have k3 := s_241_0 h
  try rewrite [k3.2.2]
  refine ck_c (fun i4 => ?_)
  try rewrite [k1.2.2]
  refine ck_c (fun i5 => ?_)
  refine vm_c (fun m6 em6 => ?_)
  have hm6 := h.s em6 (nRa k1.2.1 (by decide))
  have k7 := s_241_0 hm6
  rewrite [k7.1, ck_t k7.2.1]
  try rewrite [k7.2.2]
  refine ck_c (fun i8 => ?_)
  refine vm_c (fun m9 em9 => ?_)
  have hm9 := hm6.s em9 (nRa k7.2.1 (by decide))
  have k10 := s_241_0 hm9
  rewrite [k10.1, ck_t k10.2.1]
  try rewrite [k10.2.2]
  refine ck_c (fun i11 => ?_)
  refine vm_c (fun m12 em12 => ?_)
  have hm12 := hm9.s em12 (nRa k10.2.1 (by decide))
  have k13 := s_241_0 hm12
  rewrite [k13.1, ck_t k13.2.1]
  try rewrite [k13.2.2]
  refine ck_c (fun i14 => ?_)
  refine vm_c (fun m15 em15 => ?_)
  have hm15 := hm12.s em15 (nRa k13.2.1 (by decide))
  have k16 := s_241_0 hm15
  rewrite [k16.1, ck_t k16.2.1]
  try rewrite [k16.2.2]
  refine ck_c (fun i17 => ?_)
  refine vm_c (fun m18 em18 => ?_)
  have hm18 := hm15.s em18 (nRa k16.2.1 (by decide))
  refine bdl_q (qlX11_takeUp_220  (n := 100000) (s0 := (33, m18)) hm18) (fun cv19 sv20 hi21 => ?_)
  have h22 := nlX11_takeUp_220  (s0 := (33, m18)) hm18 ((qlX11_takeUp_220  (n := 100000) (s0 := (33, m18)) hm18).symm.trans hi21)
  exact qX11_takeUp_260 h22 
theorem nX11_takeUp_157 {g : Shp} {m : Mem} {x1 x2 : Int} (h : Sh g m)  {r : Int} {m' : Mem} (hF : ebX11_takeUp_157 g x1 x2 m = some (r, m')) : Sh g m' := by
  unfold ebX11_takeUp_157 at hF
  have k1 := s_241_0 h
  obtain ⟨i2, hF⟩ := ck_ok hF
  have k3 := s_241_0 h
  obtain ⟨i4, hF⟩ := ck_ok hF
  obtain ⟨i5, hF⟩ := ck_ok hF
  obtain ⟨m6, em6, hF⟩ := vm_ok hF
  have hm6 := h.s em6 (nRa k1.2.1 (by decide))
  have k7 := s_241_0 hm6
  obtain ⟨i8, hF⟩ := ck_ok hF
  obtain ⟨m9, em9, hF⟩ := vm_ok hF
  have hm9 := hm6.s em9 (nRa k7.2.1 (by decide))
  have k10 := s_241_0 hm9
  obtain ⟨i11, hF⟩ := ck_ok hF
  obtain ⟨m12, em12, hF⟩ := vm_ok hF
  have hm12 := hm9.s em12 (nRa k10.2.1 (by decide))
  have k13 := s_241_0 hm12
  obtain ⟨i14, hF⟩ := ck_ok hF
  obtain ⟨m15, em15, hF⟩ := vm_ok hF
  have hm15 := hm12.s em15 (nRa k13.2.1 (by decide))
  have k16 := s_241_0 hm15
  obtain ⟨i17, hF⟩ := ck_ok hF
  obtain ⟨m18, em18, hF⟩ := vm_ok hF
  have hm18 := hm15.s em18 (nRa k16.2.1 (by decide))
  obtain ⟨cv19, sv20, hi21, hF⟩ := bdl_ok hF
  have h22 := nlX11_takeUp_220  (s0 := (33, m18)) hm18 hi21
  exact nX11_takeUp_260 h22  hF
set_option maxRecDepth 20000 in
theorem qX11_takeUp_0 {g : Shp} {m : Mem} {x1 : Int} (h : Sh g m)  : bX11_takeUp_0 g 241 x1 m = ebX11_takeUp_0 g x1 m := by
  unfold bX11_takeUp_0 ebX11_takeUp_0
  refine bd2_q (qX11_isLine h ) (fun v1 m2 h3 => ?_)
  have hm2 := nX11_isLine h  ((qX11_isLine h ).symm.trans h3)
  refine if_c (fun hc4 => ?_) (fun hc4 => ?_)
  · rfl
  · refine bd2_q (qX11_isCovered hm2 ) (fun v5 m6 h7 => ?_)
    have hm6 := nX11_isCovered hm2  ((qX11_isCovered hm2 ).symm.trans h7)
    refine if_c (fun hc8 => ?_) (fun hc8 => ?_)
    · rfl
    · refine bd2_q (qX11_note hm6 ) (fun v9 m10 h11 => ?_)
      have hm10 := nX11_note hm6  ((qX11_note hm6 ).symm.trans h11)
      refine bdl_q (qlX11_takeUp_29  (n := 100000) (s0 := (0, 0, m10)) hm10) (fun cv12 sv13 hi14 => ?_)
      have h15 := nlX11_takeUp_29  (s0 := (0, 0, m10)) hm10 ((qlX11_takeUp_29  (n := 100000) (s0 := (0, 0, m10)) hm10).symm.trans hi14)
      exact qX11_takeUp_157 h15 
theorem nX11_takeUp_0 {g : Shp} {m : Mem} {x1 : Int} (h : Sh g m)  {r : Int} {m' : Mem} (hF : ebX11_takeUp_0 g x1 m = some (r, m')) : Sh g m' := by
  unfold ebX11_takeUp_0 at hF
  obtain ⟨v1, m2, h3, hF⟩ := bd2_ok hF
  have hm2 := nX11_isLine h  h3
  rcases if_ok hF with ⟨hc4, hF⟩ | ⟨hc4, hF⟩
  · cases hF
    exact hm2
  · obtain ⟨v5, m6, h7, hF⟩ := bd2_ok hF
    have hm6 := nX11_isCovered hm2  h7
    rcases if_ok hF with ⟨hc8, hF⟩ | ⟨hc8, hF⟩
    · cases hF
      exact hm6
    · obtain ⟨v9, m10, h11, hF⟩ := bd2_ok hF
      have hm10 := nX11_note hm6  h11
      obtain ⟨cv12, sv13, hi14, hF⟩ := bdl_ok hF
      have h15 := nlX11_takeUp_29  (s0 := (0, 0, m10)) hm10 hi14
      exact nX11_takeUp_157 h15  hF
theorem qX11_takeUp {g : Shp} {m : Mem} {x1 : Int} (h : Sh g m)  : fX11_takeUp g 241 x1 m = eX11_takeUp g x1 m := qX11_takeUp_0 h 
theorem nX11_takeUp {g : Shp} {m : Mem} {x1 : Int} (h : Sh g m)  {r : Int} {m' : Mem} (hF : eX11_takeUp g x1 m = some (r, m')) : Sh g m' := nX11_takeUp_0 h  hF
set_option maxRecDepth 20000 in
theorem qX11_isTurns_101 {g : Shp} {m : Mem} {x1 x3 x4 z0 : Int} (h : Sh g m)  : bX11_isTurns_101 g 241 x1 x3 x4 z0 m = ebX11_isTurns_101 g x1 x3 x4 z0 m := by
  unfold bX11_isTurns_101 ebX11_isTurns_101
  refine vv_c (fun y1 ey1 => ?_)
  rfl
theorem nX11_isTurns_101 {g : Shp} {m : Mem} {x1 x3 x4 z0 : Int} (h : Sh g m)  {c1 : Int} {s1 : (Int × Int × Mem)} (hF : ebX11_isTurns_101 g x1 x3 x4 z0 m = some (c1, s1)) : Sh g s1.2.2 := by
  unfold ebX11_isTurns_101 at hF
  obtain ⟨y1, ey1, hF⟩ := vv_ok hF
  cases hF
  exact h
set_option maxRecDepth 20000 in
theorem qX11_isTurns_100 {g : Shp} {m : Mem} {x1 x3 x4 : Int} (h : Sh g m)  : bX11_isTurns_100 g 241 x1 x3 x4 m = ebX11_isTurns_100 g x1 x3 x4 m := by
  unfold bX11_isTurns_100 ebX11_isTurns_100
  exact qX11_isTurns_101 h 
theorem nX11_isTurns_100 {g : Shp} {m : Mem} {x1 x3 x4 : Int} (h : Sh g m)  {c1 : Int} {s1 : (Int × Int × Mem)} (hF : ebX11_isTurns_100 g x1 x3 x4 m = some (c1, s1)) : Sh g s1.2.2 := by
  unfold ebX11_isTurns_100 at hF
  exact nX11_isTurns_101 h  hF
set_option maxRecDepth 20000 in
theorem qX11_isTurns_65 {g : Shp} {m : Mem} {x1 x2 x3 x4 : Int} (h : Sh g m)  : bX11_isTurns_65 g 241 x1 x2 x3 x4 m = ebX11_isTurns_65 g x1 x2 x3 x4 m := by
  unfold bX11_isTurns_65 ebX11_isTurns_65
  refine if_c (fun hc1 => ?_) (fun hc1 => ?_)
  · rfl
  · refine if_c (fun hc2 => ?_) (fun hc2 => ?_)
    · rfl
    · refine if_c (fun hc3 => ?_) (fun hc3 => ?_)
      · exact qX11_isTurns_100 h
      · have k4 := s_241_38 h
        rewrite [k4.1, ck_t k4.2.1]
        try rewrite [k4.2.2]
        refine ck_c (fun i5 => ?_)
        have k6 := s_241_38 h
        try rewrite [k6.2.2]
        refine ck_c (fun i7 => ?_)
        refine if_c (fun hc8 => ?_) (fun hc8 => ?_)
        · exact qX11_isTurns_100 h
        · exact qX11_isTurns_101 h
theorem nX11_isTurns_65 {g : Shp} {m : Mem} {x1 x2 x3 x4 : Int} (h : Sh g m)  {c1 : Int} {s1 : (Int × Int × Mem)} (hF : ebX11_isTurns_65 g x1 x2 x3 x4 m = some (c1, s1)) : Sh g s1.2.2 := by
  unfold ebX11_isTurns_65 at hF
  rcases if_ok hF with ⟨hc1, hF⟩ | ⟨hc1, hF⟩
  · cases hF
    exact h
  · rcases if_ok hF with ⟨hc2, hF⟩ | ⟨hc2, hF⟩
    · cases hF
      exact h
    · rcases if_ok hF with ⟨hc3, hF⟩ | ⟨hc3, hF⟩
      · exact nX11_isTurns_100 h  hF
      · have k4 := s_241_38 h
        obtain ⟨i5, hF⟩ := ck_ok hF
        have k6 := s_241_38 h
        obtain ⟨i7, hF⟩ := ck_ok hF
        rcases if_ok hF with ⟨hc8, hF⟩ | ⟨hc8, hF⟩
        · exact nX11_isTurns_100 h  hF
        · exact nX11_isTurns_101 h  hF
theorem nlX11_isTurns_65 {g : Shp} {x1 x3 : Int}  {n : Nat} {s0 s1 : (Int × Int × Mem)} {c1 : Int} (h : Sh g s0.2.2) (hI : iter (eBX11_isTurns_65 g x1 x3) n s0 = some (c1, s1)) : Sh g s1.2.2 :=
  iter_inv (B := eBX11_isTurns_65 g x1 x3) (fun q => Sh g q.2.2) (fun s c s' hs hB => nX11_isTurns_65 hs  hB) n s0 c1 s1 h hI
theorem qlX11_isTurns_65 {g : Shp} {x1 x3 : Int}  {n : Nat} {s0 : (Int × Int × Mem)} (h : Sh g s0.2.2) : iter (BX11_isTurns_65 g 241 x1 x3) n s0 = iter (eBX11_isTurns_65 g x1 x3) n s0 :=
  iter_eq (B := BX11_isTurns_65 g 241 x1 x3) (E := eBX11_isTurns_65 g x1 x3) (fun q => Sh g q.2.2) (fun s hs => qX11_isTurns_65 hs ) (fun s c s' hs hB => nX11_isTurns_65 hs  ((qX11_isTurns_65 hs ).symm.trans hB)) n s0 h
set_option maxRecDepth 20000 in
theorem qX11_isTurns_108 {g : Shp} {m : Mem} {x1 x2 x3 : Int} (h : Sh g m)  : bX11_isTurns_108 g 241 x1 x2 x3 m = ebX11_isTurns_108 g x1 x2 x3 m := by
  unfold bX11_isTurns_108 ebX11_isTurns_108
  refine vv_c (fun y1 ey1 => ?_)
  rfl
theorem nX11_isTurns_108 {g : Shp} {m : Mem} {x1 x2 x3 : Int} (h : Sh g m)  {c1 : Int} {s1 : (Int × Int × Mem)} (hF : ebX11_isTurns_108 g x1 x2 x3 m = some (c1, s1)) : Sh g s1.2.2 := by
  unfold ebX11_isTurns_108 at hF
  obtain ⟨y1, ey1, hF⟩ := vv_ok hF
  cases hF
  exact h
set_option maxRecDepth 20000 in
theorem qX11_isTurns_61 {g : Shp} {m : Mem} {x1 x3 z0 : Int} (h : Sh g m)  : bX11_isTurns_61 g 241 x1 x3 z0 m = ebX11_isTurns_61 g x1 x3 z0 m := by
  unfold bX11_isTurns_61 ebX11_isTurns_61
  refine bdl_q (qlX11_isTurns_65  (n := 100000) (s0 := (z0, 0, m)) h) (fun cv1 sv2 hi3 => ?_)
  have h4 := nlX11_isTurns_65  (s0 := (z0, 0, m)) h ((qlX11_isTurns_65  (n := 100000) (s0 := (z0, 0, m)) h).symm.trans hi3)
  exact qX11_isTurns_108 h4 
theorem nX11_isTurns_61 {g : Shp} {m : Mem} {x1 x3 z0 : Int} (h : Sh g m)  {c1 : Int} {s1 : (Int × Int × Mem)} (hF : ebX11_isTurns_61 g x1 x3 z0 m = some (c1, s1)) : Sh g s1.2.2 := by
  unfold ebX11_isTurns_61 at hF
  obtain ⟨cv1, sv2, hi3, hF⟩ := bdl_ok hF
  have h4 := nlX11_isTurns_65  (s0 := (z0, 0, m)) h hi3
  exact nX11_isTurns_108 h4  hF
set_option maxRecDepth 20000 in
theorem qX11_isTurns_56 {g : Shp} {m : Mem} {x1 x3 : Int} (h : Sh g m)  : bX11_isTurns_56 g 241 x1 x3 m = ebX11_isTurns_56 g x1 x3 m := by
  unfold bX11_isTurns_56 ebX11_isTurns_56
  exact qX11_isTurns_61 h 
theorem nX11_isTurns_56 {g : Shp} {m : Mem} {x1 x3 : Int} (h : Sh g m)  {c1 : Int} {s1 : (Int × Int × Mem)} (hF : ebX11_isTurns_56 g x1 x3 m = some (c1, s1)) : Sh g s1.2.2 := by
  unfold ebX11_isTurns_56 at hF
  exact nX11_isTurns_61 h  hF
set_option maxRecDepth 20000 in
theorem qX11_isTurns_60 {g : Shp} {m : Mem} {x1 x3 : Int} (h : Sh g m)  : bX11_isTurns_60 g 241 x1 x3 m = ebX11_isTurns_60 g x1 x3 m := by
  unfold bX11_isTurns_60 ebX11_isTurns_60
  exact qX11_isTurns_61 h 
theorem nX11_isTurns_60 {g : Shp} {m : Mem} {x1 x3 : Int} (h : Sh g m)  {c1 : Int} {s1 : (Int × Int × Mem)} (hF : ebX11_isTurns_60 g x1 x3 m = some (c1, s1)) : Sh g s1.2.2 := by
  unfold ebX11_isTurns_60 at hF
  exact nX11_isTurns_61 h  hF
set_option maxRecDepth 20000 in
theorem qX11_isTurns_4 {g : Shp} {m : Mem} {x1 x2 x3 : Int} (h : Sh g m)  : bX11_isTurns_4 g 241 x1 x2 x3 m = ebX11_isTurns_4 g x1 x2 x3 m := by
  unfold bX11_isTurns_4 ebX11_isTurns_4
  refine if_c (fun hc1 => ?_) (fun hc1 => ?_)
  · rfl
  · refine if_c (fun hc2 => ?_) (fun hc2 => ?_)
    · exact qX11_isTurns_60 h
    · refine if_c (fun hc3 => ?_) (fun hc3 => ?_)
      · have k4 := s_241_38 h
        rewrite [k4.1, ck_t k4.2.1]
        try rewrite [k4.2.2]
        refine ck_c (fun i5 => ?_)
        refine if_c (fun hc6 => ?_) (fun hc6 => ?_)
        · exact qX11_isTurns_56 h
        · exact qX11_isTurns_60 h
      · have k7 := s_241_38 h
        rewrite [k7.1, ck_t k7.2.1]
        try rewrite [k7.2.2]
        refine ck_c (fun i8 => ?_)
        refine bd2_q (qX11_isLine h ) (fun v9 m10 h11 => ?_)
        have hm10 := nX11_isLine h  ((qX11_isLine h ).symm.trans h11)
        refine if_c (fun hc12 => ?_) (fun hc12 => ?_)
        · exact qX11_isTurns_60 hm10
        · have k13 := s_241_38 hm10
          rewrite [k13.1, ck_t k13.2.1]
          try rewrite [k13.2.2]
          refine ck_c (fun i14 => ?_)
          refine bd2_q (qX11_isCovered hm10 ) (fun v15 m16 h17 => ?_)
          have hm16 := nX11_isCovered hm10  ((qX11_isCovered hm10 ).symm.trans h17)
          refine if_c (fun hc18 => ?_) (fun hc18 => ?_)
          · exact qX11_isTurns_56 hm16
          · exact qX11_isTurns_60 hm16
theorem nX11_isTurns_4 {g : Shp} {m : Mem} {x1 x2 x3 : Int} (h : Sh g m)  {c1 : Int} {s1 : (Int × Int × Mem)} (hF : ebX11_isTurns_4 g x1 x2 x3 m = some (c1, s1)) : Sh g s1.2.2 := by
  unfold ebX11_isTurns_4 at hF
  rcases if_ok hF with ⟨hc1, hF⟩ | ⟨hc1, hF⟩
  · cases hF
    exact h
  · rcases if_ok hF with ⟨hc2, hF⟩ | ⟨hc2, hF⟩
    · exact nX11_isTurns_60 h  hF
    · rcases if_ok hF with ⟨hc3, hF⟩ | ⟨hc3, hF⟩
      · have k4 := s_241_38 h
        obtain ⟨i5, hF⟩ := ck_ok hF
        rcases if_ok hF with ⟨hc6, hF⟩ | ⟨hc6, hF⟩
        · exact nX11_isTurns_56 h  hF
        · exact nX11_isTurns_60 h  hF
      · have k7 := s_241_38 h
        obtain ⟨i8, hF⟩ := ck_ok hF
        obtain ⟨v9, m10, h11, hF⟩ := bd2_ok hF
        have hm10 := nX11_isLine h  h11
        rcases if_ok hF with ⟨hc12, hF⟩ | ⟨hc12, hF⟩
        · exact nX11_isTurns_60 hm10  hF
        · have k13 := s_241_38 hm10
          obtain ⟨i14, hF⟩ := ck_ok hF
          obtain ⟨v15, m16, h17, hF⟩ := bd2_ok hF
          have hm16 := nX11_isCovered hm10  h17
          rcases if_ok hF with ⟨hc18, hF⟩ | ⟨hc18, hF⟩
          · exact nX11_isTurns_56 hm16  hF
          · exact nX11_isTurns_60 hm16  hF
theorem nlX11_isTurns_4 {g : Shp} {x1 : Int}  {n : Nat} {s0 s1 : (Int × Int × Mem)} {c1 : Int} (h : Sh g s0.2.2) (hI : iter (eBX11_isTurns_4 g x1) n s0 = some (c1, s1)) : Sh g s1.2.2 :=
  iter_inv (B := eBX11_isTurns_4 g x1) (fun q => Sh g q.2.2) (fun s c s' hs hB => nX11_isTurns_4 hs  hB) n s0 c1 s1 h hI
theorem qlX11_isTurns_4 {g : Shp} {x1 : Int}  {n : Nat} {s0 : (Int × Int × Mem)} (h : Sh g s0.2.2) : iter (BX11_isTurns_4 g 241 x1) n s0 = iter (eBX11_isTurns_4 g x1) n s0 :=
  iter_eq (B := BX11_isTurns_4 g 241 x1) (E := eBX11_isTurns_4 g x1) (fun q => Sh g q.2.2) (fun s hs => qX11_isTurns_4 hs ) (fun s c s' hs hB => nX11_isTurns_4 hs  ((qX11_isTurns_4 hs ).symm.trans hB)) n s0 h
set_option maxRecDepth 20000 in
theorem qX11_isTurns_114 {g : Shp} {m : Mem} {x2 : Int} (h : Sh g m)  : bX11_isTurns_114 g x2 m = ebX11_isTurns_114 g x2 m := by
  unfold bX11_isTurns_114 ebX11_isTurns_114
  refine ck_c (fun b1 => ?_)
  rfl
theorem nX11_isTurns_114 {g : Shp} {m : Mem} {x2 : Int} (h : Sh g m)  {r : Int} {m' : Mem} (hF : ebX11_isTurns_114 g x2 m = some (r, m')) : Sh g m' := by
  unfold ebX11_isTurns_114 at hF
  obtain ⟨b1, hF⟩ := ck_ok hF
  cases hF
  exact h
set_option maxRecDepth 20000 in
theorem qX11_isTurns_0 {g : Shp} {m : Mem} {x1 : Int} (h : Sh g m)  : bX11_isTurns_0 g 241 x1 m = ebX11_isTurns_0 g x1 m := by
  unfold bX11_isTurns_0 ebX11_isTurns_0
  refine bdl_q (qlX11_isTurns_4  (n := 100000) (s0 := (1, 0, m)) h) (fun cv1 sv2 hi3 => ?_)
  have h4 := nlX11_isTurns_4  (s0 := (1, 0, m)) h ((qlX11_isTurns_4  (n := 100000) (s0 := (1, 0, m)) h).symm.trans hi3)
  exact qX11_isTurns_114 h4 
theorem nX11_isTurns_0 {g : Shp} {m : Mem} {x1 : Int} (h : Sh g m)  {r : Int} {m' : Mem} (hF : ebX11_isTurns_0 g x1 m = some (r, m')) : Sh g m' := by
  unfold ebX11_isTurns_0 at hF
  obtain ⟨cv1, sv2, hi3, hF⟩ := bdl_ok hF
  have h4 := nlX11_isTurns_4  (s0 := (1, 0, m)) h hi3
  exact nX11_isTurns_114 h4  hF
theorem qX11_isTurns {g : Shp} {m : Mem} {x1 : Int} (h : Sh g m)  : fX11_isTurns g 241 x1 m = eX11_isTurns g x1 m := qX11_isTurns_0 h 
theorem nX11_isTurns {g : Shp} {m : Mem} {x1 : Int} (h : Sh g m)  {r : Int} {m' : Mem} (hF : eX11_isTurns g x1 m = some (r, m')) : Sh g m' := nX11_isTurns_0 h  hF
