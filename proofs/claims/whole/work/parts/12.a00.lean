def bX6_init_17 (z0 z1 : Int) (g : Shp) (m : Mem) : Option (Int × Shp × Mem) :=
  vm (ms m z0 1 z1) fun m1 =>
  some (0, g, m1)
def bX6_init_9 (x0 z0 z1 : Int) (g : Shp) (m : Mem) : Option (Int × Shp × Mem) :=
  vm (ms m z0 0 z1) fun m1 =>
  ck (gn g < 1000000 ∧ (0 : Int) ≤ 60 ∧ 60 < (1000000 : Int)) <|
  vg (gA g 21 60 60) fun g2 =>
  vm (mA g m1) fun m3 =>
  vv ((gn g : Int) + 1) fun y4 =>
  bX6_init_17 x0 y4 g2 m3
def bX6_init_0 (x0 : Int) (g : Shp) (m : Mem) : Option (Int × Shp × Mem) :=
  ck (gn g < 1000000 ∧ (0 : Int) ≤ 60 ∧ 60 < (1000000 : Int)) <|
  vg (gA g 20 60 60) fun g1 =>
  vm (mA g m) fun m2 =>
  vv ((gn g : Int) + 1) fun y3 =>
  bX6_init_9 x0 x0 y3 g1 m2
def fX6_init (x0 : Int) (g : Shp) (m : Mem) : Option (Int × Shp × Mem) := bX6_init_0 x0 g m
def bX2_init_17 (z0 z1 : Int) (g : Shp) (m : Mem) : Option (Int × Shp × Mem) :=
  vm (ms m z0 1 z1) fun m1 =>
  some (0, g, m1)
def bX2_init_9 (x0 z0 z1 : Int) (g : Shp) (m : Mem) : Option (Int × Shp × Mem) :=
  vm (ms m z0 0 z1) fun m1 =>
  ck (gn g < 1000000 ∧ (0 : Int) ≤ 16 ∧ 16 < (1000000 : Int)) <|
  vg (gA g 20 16 16) fun g2 =>
  vm (mA g m1) fun m3 =>
  vv ((gn g : Int) + 1) fun y4 =>
  bX2_init_17 x0 y4 g2 m3
def bX2_init_0 (x0 : Int) (g : Shp) (m : Mem) : Option (Int × Shp × Mem) :=
  ck (gn g < 1000000 ∧ (0 : Int) ≤ 48 ∧ 48 < (1000000 : Int)) <|
  vg (gA g 20 48 48) fun g1 =>
  vm (mA g m) fun m2 =>
  vv ((gn g : Int) + 1) fun y3 =>
  bX2_init_9 x0 x0 y3 g1 m2
def fX2_init (x0 : Int) (g : Shp) (m : Mem) : Option (Int × Shp × Mem) := bX2_init_0 x0 g m
def bX0_init_70 (x0 x1 z0 z1 z2 : Int) (g : Shp) (m : Mem) : Option (Int × (Int × Shp × Mem)) :=
  ck ((0 : Int) ≤ z1 ∧ z1 < gl g z0) <|
  vm (ms m z0 z1 z2) fun m2 =>
  vv (w32 (x1 + 1)) fun y3 =>
  some (0, (y3, g, m2))
def bX0_init_66 (x0 x1 z0 z1 z2 : Int) (g : Shp) (m : Mem) : Option (Int × (Int × Shp × Mem)) :=
  bd3 (fX2_init z2 g m) fun v1 g2 m3 =>
  bX0_init_70 x0 x1 z0 z1 z2 g2 m3
def bX0_init_49 (x0 x1 : Int) (g : Shp) (m : Mem) : Option (Int × (Int × Shp × Mem)) :=
  ck (gk g (m x0 1) = 26) <|
  if (gl g (m x0 1)) ≤ x1 then
    some (1, (x1, g, m))
  else
    ck (gn g < 1000000 ∧ (0 : Int) ≤ 0 ∧ 0 < (1000000 : Int)) <|
    vg (gA g 3 0 4) fun g3 =>
    vm (mA g m) fun m4 =>
    vv ((gn g : Int) + 1) fun y5 =>
    bX0_init_66 x0 x1 (m x0 1) x1 y5 g3 m4
def BX0_init_49 (x0 : Int) (q : (Int × Shp × Mem)) : Option (Int × (Int × Shp × Mem)) := bX0_init_49 x0 q.1 q.2.1 q.2.2
def bX0_init_77 (g : Shp) (m : Mem) : Option (Int × Shp × Mem) :=
  some (0, g, m)
def bX0_init_44 (x0 z0 z1 : Int) (g : Shp) (m : Mem) : Option (Int × Shp × Mem) :=
  vm (ms m z0 4 z1) fun m1 =>
  bdl (iter (BX0_init_49 x0) 100000 (0, g, m1)) fun cv2 sv3 =>
  bX0_init_77 sv3.2.1 sv3.2.2
def bX0_init_37 (x0 z0 z1 : Int) (g : Shp) (m : Mem) : Option (Int × Shp × Mem) :=
  vm (ms m z0 3 z1) fun m1 =>
  ck (gn g < 1000000 ∧ (0 : Int) ≤ 3 ∧ 3 < (1000000 : Int)) <|
  vg (gA g 20 3 3) fun g2 =>
  vm (mA g m1) fun m3 =>
  vv ((gn g : Int) + 1) fun y4 =>
  bX0_init_44 x0 x0 y4 g2 m3
def bX0_init_30 (x0 z0 z1 : Int) (g : Shp) (m : Mem) : Option (Int × Shp × Mem) :=
  vm (ms m z0 2 z1) fun m1 =>
  ck (gn g < 1000000 ∧ (0 : Int) ≤ 3 ∧ 3 < (1000000 : Int)) <|
  vg (gA g 20 3 3) fun g2 =>
  vm (mA g m1) fun m3 =>
  vv ((gn g : Int) + 1) fun y4 =>
  bX0_init_37 x0 x0 y4 g2 m3
def bX0_init_21 (x0 z0 z1 : Int) (g : Shp) (m : Mem) : Option (Int × Shp × Mem) :=
  vm (ms m z0 1 z1) fun m1 =>
  ck (gn g < 1000000 ∧ (0 : Int) ≤ 1715 ∧ 1715 < (1000000 : Int)) <|
  vg (gA g 20 1715 1715) fun g2 =>
  vm (mA g m1) fun m3 =>
  vv ((gn g : Int) + 1) fun y4 =>
  bX0_init_30 x0 x0 y4 g2 m3
def bX0_init_12 (x0 z0 z1 : Int) (g : Shp) (m : Mem) : Option (Int × Shp × Mem) :=
  vm (ms m z0 0 z1) fun m1 =>
  ck (gn g < 1000000 ∧ (0 : Int) ≤ 24 ∧ 24 < (1000000 : Int)) <|
  vg (gA g 26 24 24) fun g2 =>
  vm (mA g m1) fun m3 =>
  vv ((gn g : Int) + 1) fun y4 =>
  bX0_init_21 x0 x0 y4 g2 m3
def bX0_init_8 (x0 z0 z1 : Int) (g : Shp) (m : Mem) : Option (Int × Shp × Mem) :=
  bd3 (fX6_init z1 g m) fun v1 g2 m3 =>
  bX0_init_12 x0 z0 z1 g2 m3
def bX0_init_0 (x0 : Int) (g : Shp) (m : Mem) : Option (Int × Shp × Mem) :=
  ck (gn g < 1000000 ∧ (0 : Int) ≤ 0 ∧ 0 < (1000000 : Int)) <|
  vg (gA g 7 0 3) fun g1 =>
  vm (mA g m) fun m2 =>
  vv ((gn g : Int) + 1) fun y3 =>
  bX0_init_8 x0 x0 y3 g1 m2
def fX0_init (x0 : Int) (g : Shp) (m : Mem) : Option (Int × Shp × Mem) := bX0_init_0 x0 g m
def bX0_forgetWorths_30 (x0 x1 : Int) (g : Shp) (m : Mem) : Option (Int × Shp × Mem) :=
  ck (gk g (m x0 2) = 20) <|
  bd2 (fJ7_fill_fda19 g (m x0 2) 0 x1 ((-1)) m) fun v2 m3 =>
  some (0, g, m3)
def bX0_forgetWorths_27 (x0 x1 z0 z1 : Int) (g : Shp) (m : Mem) : Option (Int × Shp × Mem) :=
  vm (ms m z0 2 z1) fun m1 =>
  bX0_forgetWorths_30 x0 x1 g m1
def bX0_forgetWorths_0 (x0 : Int) (g : Shp) (m : Mem) : Option (Int × Shp × Mem) :=
  ck (gk g (m x0 0) = 7) <|
  vv (w32 ((m (m x0 0) 2) * 343)) fun y2 =>
  ck (gk g (m x0 2) = 20) <|
  if y2 ≤ (gl g (m x0 2)) then
    bX0_forgetWorths_30 x0 y2 g m
  else
    ck (gn g < 1000000 ∧ (0 : Int) ≤ 6174 ∧ 6174 < (1000000 : Int)) <|
    vg (gA g 20 6174 6174) fun g5 =>
    vm (mA g m) fun m6 =>
    vv ((gn g : Int) + 1) fun y7 =>
    bX0_forgetWorths_27 x0 y2 x0 y7 g5 m6
def fX0_forgetWorths (x0 : Int) (g : Shp) (m : Mem) : Option (Int × Shp × Mem) := bX0_forgetWorths_0 x0 g m
def bX0_find_123 (x0 x3 x4 x5 x6 x7 : Int) (g : Shp) (m : Mem) : Option (Int × (Int × Mem)) :=
  vv (w32 (x7 + 1)) fun y1 =>
  some (0, (y1, m))
def bX0_find_57 (x0 x3 x4 x5 x6 x7 : Int) (g : Shp) (m : Mem) : Option (Int × (Int × Mem)) :=
  ck (gk g (m x0 0) = 7) <|
  ck (gk g (m (m x0 0) 0) = 20) <|
  ck ((0 : Int) ≤ x6 ∧ x6 < gl g (m (m x0 0) 0)) <|
  if (m (m (m x0 0) 0) x6) < x7 then
    some (1, (x7, m))
  else
    ck (gk g (m (m x0 0) 1) = 21) <|
    ck ((0 : Int) ≤ x6 ∧ x6 < gl g (m (m x0 0) 1)) <|
    bd2 (fX0_layingsOf g x0 x7 (m (m (m x0 0) 1) x6) m) fun v7 m8 =>
    ck (gk g v7 = 3) <|
    if (m8 v7 3) = 0 then
      ck (gk g (m8 x0 0) = 7) <|
      ck (gk g (m8 (m8 x0 0) 1) = 21) <|
      ck ((0 : Int) ≤ x6 ∧ x6 < gl g (m8 (m8 x0 0) 1)) <|
      ck (gk g (m8 x0 3) = 20) <|
      bd2 (fX2_list g v7 x7 (m8 (m8 (m8 x0 0) 1) x6) (m8 x0 3) (m8 x0 5) m8) fun v17 m18 =>
      bX0_find_123 x0 x3 x4 x5 x6 x7 g m18
    else
      bX0_find_123 x0 x3 x4 x5 x6 x7 g m8
def BX0_find_57 (x0 x3 x4 x5 x6 : Int) (g : Shp) (q : (Int × Mem)) : Option (Int × (Int × Mem)) := bX0_find_57 x0 x3 x4 x5 x6 q.1 g q.2
def bX0_find_129 (x0 x3 x4 x5 x6 : Int) (g : Shp) (m : Mem) : Option (Int × (Int × Mem)) :=
  vv (w32 (x6 + 1)) fun y1 =>
  some (0, (y1, m))
def bX0_find_42 (x0 x3 x4 x5 x6 : Int) (g : Shp) (m : Mem) : Option (Int × (Int × Mem)) :=
  ck (gk g (m x0 0) = 7) <|
  if (m (m x0 0) 2) ≤ x6 then
    some (1, (x6, m))
  else
    bdl (iter (BX0_find_57 x0 x3 x4 x5 x6 g) 100000 (1, m)) fun cv3 sv4 =>
    bX0_find_129 x0 x3 x4 x5 x6 g sv4.2
def BX0_find_42 (x0 x3 x4 x5 : Int) (g : Shp) (q : (Int × Mem)) : Option (Int × (Int × Mem)) := bX0_find_42 x0 x3 x4 x5 q.1 g q.2
def bX0_find_232 (x0 x5 x6 : Int) (g : Shp) (m : Mem) : Option (Int × (Int × Mem)) :=
  if 18 ≤ x6 then
    some (1, (x6, m))
  else
    ck (gk g (m x0 0) = 7) <|
    if (m (m x0 0) 2) ≤ (m x0 6) then
      some (1, (x6, m))
    else
      bd2 (fX0_setStone g x0 x5 m) fun v4 m5 =>
      vv (w32 (x6 + 1)) fun y7 =>
      some (0, (y7, m5))
def BX0_find_232 (x0 x5 : Int) (g : Shp) (q : (Int × Mem)) : Option (Int × (Int × Mem)) := bX0_find_232 x0 x5 q.1 g q.2
def bX0_find_265 (g : Shp) (m : Mem) : Option (Int × Shp × Mem) :=
  some (0, g, m)
def bX0_find_139 (x0 x3 x4 x5 : Int) (g : Shp) (m : Mem) : Option (Int × Shp × Mem) :=
  ck (gk g (m x3 1) = 20) <|
  ck (gk g (m x0 4) = 20) <|
  ck ((0 : Int) ≤ (w32 (x4 * 3)) ∧ (0 : Int) ≤ 0 ∧ (0 : Int) ≤ 3 ∧ (w32 (x4 * 3)) + 3 ≤ gl g (m x3 1) ∧ 0 + 3 ≤ gl g (m x0 4)) <|
  vm (mcp m (m x3 1) (w32 (x4 * 3)) (m x0 4) 0 3) fun m4 =>
  vm (ms m4 x0 6 0) fun m5 =>
  bd2 (fX0_cellsOf g x0 0 m5) fun v6 m7 =>
  vm (ms m7 x0 7 v6) fun m10 =>
  ck (gk g (m10 x0 4) = 20) <|
  ck ((0 : Int) ≤ 0 ∧ 0 < gl g (m10 x0 4)) <|
  ck ((0 : Int) ≤ 1 ∧ 1 < gl g (m10 x0 4)) <|
  ck ((0 : Int) ≤ 2 ∧ 2 < gl g (m10 x0 4)) <|
  bd2 (fX0_worthOf 24 g x0 0 (m10 x0 7) (m10 (m10 x0 4) 0) (m10 (m10 x0 4) 1) (m10 (m10 x0 4) 2) m10) fun v15 m16 =>
  vm (ms m16 x0 8 v15) fun m19 =>
  if (m19 x0 8) < 1048576 then
    vm (ms m19 x5 7 1) fun m21 =>
    vm (ms m21 x5 5 (jdiv (m21 x0 8) 32)) fun m22 =>
    bdl (iter (BX0_find_232 x0 x5 g) 100000 (0, m22)) fun cv23 sv24 =>
    bX0_find_265 g sv24.2
  else
    some (0, g, m19)
def bX0_find_135 (x0 x3 x4 x5 : Int) (g : Shp) (m : Mem) : Option (Int × Shp × Mem) :=
  bd3 (fX0_forgetWorths x0 g m) fun v1 g2 m3 =>
  bX0_find_139 x0 x3 x4 x5 g2 m3
def bX0_find_0 (x0 x1 x2 x3 x4 x5 : Int) (g : Shp) (m : Mem) : Option (Int × Shp × Mem) :=
  bd2 (fX9_clear g x5 m) fun v1 m2 =>
  ck (gk g (m2 x0 0) = 7) <|
  ck (gk g (m2 x3 0) = 20) <|
  bd2 (fX6_split g (m2 x0 0) x1 (m2 x3 0) m2) fun v6 m7 =>
  ck (gk g (m7 x0 0) = 7) <|
  if (m7 (m7 x0 0) 2) ≤ 18 then
    bd2 (fX0_keepSizes g x0 x2 (m7 x3 7) m7) fun v11 m12 =>
    bdl (iter (BX0_find_42 x0 x3 x4 x5 g) 100000 (0, m12)) fun cv14 sv15 =>
    bX0_find_135 x0 x3 x4 x5 g sv15.2
  else
    some (0, g, m7)
def fX0_find (x0 x1 x2 x3 x4 x5 : Int) (g : Shp) (m : Mem) : Option (Int × Shp × Mem) := bX0_find_0 x0 x1 x2 x3 x4 x5 g m
def bX1_init_54 (z0 z1 : Int) (g : Shp) (m : Mem) : Option (Int × Shp × Mem) :=
  vm (ms m z0 6 z1) fun m1 =>
  some (0, g, m1)
def bX1_init_47 (x0 z0 z1 : Int) (g : Shp) (m : Mem) : Option (Int × Shp × Mem) :=
  vm (ms m z0 5 z1) fun m1 =>
  ck (gn g < 1000000 ∧ (0 : Int) ≤ 3 ∧ 3 < (1000000 : Int)) <|
  vg (gA g 20 3 3) fun g2 =>
  vm (mA g m1) fun m3 =>
  vv ((gn g : Int) + 1) fun y4 =>
  bX1_init_54 x0 y4 g2 m3
def bX1_init_39 (x0 z0 z1 : Int) (g : Shp) (m : Mem) : Option (Int × Shp × Mem) :=
  vm (ms m z0 4 z1) fun m1 =>
  ck (gn g < 1000000 ∧ (0 : Int) ≤ 9 ∧ 9 < (1000000 : Int)) <|
  vg (gA g 20 9 9) fun g2 =>
  vm (mA g m1) fun m3 =>
  vv ((gn g : Int) + 1) fun y4 =>
  bX1_init_47 x0 x0 y4 g2 m3
def bX1_init_32 (x0 z0 z1 : Int) (g : Shp) (m : Mem) : Option (Int × Shp × Mem) :=
  vm (ms m z0 3 z1) fun m1 =>
  ck (gn g < 1000000 ∧ (0 : Int) ≤ 3 ∧ 3 < (1000000 : Int)) <|
  vg (gA g 20 3 3) fun g2 =>
  vm (mA g m1) fun m3 =>
  vv ((gn g : Int) + 1) fun y4 =>
  bX1_init_39 x0 x0 y4 g2 m3
def bX1_init_25 (x0 z0 z1 : Int) (g : Shp) (m : Mem) : Option (Int × Shp × Mem) :=
  vm (ms m z0 2 z1) fun m1 =>
  ck (gn g < 1000000 ∧ (0 : Int) ≤ 3 ∧ 3 < (1000000 : Int)) <|
  vg (gA g 20 3 3) fun g2 =>
  vm (mA g m1) fun m3 =>
  vv ((gn g : Int) + 1) fun y4 =>
  bX1_init_32 x0 x0 y4 g2 m3
def bX1_init_18 (x0 z0 z1 : Int) (g : Shp) (m : Mem) : Option (Int × Shp × Mem) :=
  vm (ms m z0 1 z1) fun m1 =>
  ck (gn g < 1000000 ∧ (0 : Int) ≤ 3 ∧ 3 < (1000000 : Int)) <|
  vg (gA g 20 3 3) fun g2 =>
  vm (mA g m1) fun m3 =>
  vv ((gn g : Int) + 1) fun y4 =>
  bX1_init_25 x0 x0 y4 g2 m3
def bX1_init_10 (x0 z0 z1 : Int) (g : Shp) (m : Mem) : Option (Int × Shp × Mem) :=
  vm (ms m z0 0 z1) fun m1 =>
  ck (gn g < 1000000 ∧ (0 : Int) ≤ 9 ∧ 9 < (1000000 : Int)) <|
  vg (gA g 20 9 9) fun g2 =>
  vm (mA g m1) fun m3 =>
  vv ((gn g : Int) + 1) fun y4 =>
  bX1_init_18 x0 x0 y4 g2 m3
def bX1_init_0 (x0 : Int) (g : Shp) (m : Mem) : Option (Int × Shp × Mem) :=
  ck (gn g < 1000000 ∧ (0 : Int) ≤ 400 ∧ 400 < (1000000 : Int)) <|
  vg (gA g 20 400 400) fun g1 =>
  vm (mA g m) fun m2 =>
  vv ((gn g : Int) + 1) fun y3 =>
  bX1_init_10 x0 x0 y3 g1 m2
def fX1_init (x0 : Int) (g : Shp) (m : Mem) : Option (Int × Shp × Mem) := bX1_init_0 x0 g m
def bX9_init_23 (z0 z1 : Int) (g : Shp) (m : Mem) : Option (Int × Shp × Mem) :=
  vm (ms m z0 2 z1) fun m1 =>
  some (0, g, m1)
def bX9_init_16 (x0 z0 z1 : Int) (g : Shp) (m : Mem) : Option (Int × Shp × Mem) :=
  vm (ms m z0 1 z1) fun m1 =>
  ck (gn g < 1000000 ∧ (0 : Int) ≤ 3 ∧ 3 < (1000000 : Int)) <|
  vg (gA g 20 3 3) fun g2 =>
  vm (mA g m1) fun m3 =>
  vv ((gn g : Int) + 1) fun y4 =>
  bX9_init_23 x0 y4 g2 m3
def bX9_init_9 (x0 z0 z1 : Int) (g : Shp) (m : Mem) : Option (Int × Shp × Mem) :=
  vm (ms m z0 0 z1) fun m1 =>
  ck (gn g < 1000000 ∧ (0 : Int) ≤ 3 ∧ 3 < (1000000 : Int)) <|
  vg (gA g 20 3 3) fun g2 =>
  vm (mA g m1) fun m3 =>
  vv ((gn g : Int) + 1) fun y4 =>
  bX9_init_16 x0 x0 y4 g2 m3
def bX9_init_0 (x0 : Int) (g : Shp) (m : Mem) : Option (Int × Shp × Mem) :=
  ck (gn g < 1000000 ∧ (0 : Int) ≤ 18 ∧ 18 < (1000000 : Int)) <|
  vg (gA g 20 18 18) fun g1 =>
  vm (mA g m) fun m2 =>
  vv ((gn g : Int) + 1) fun y3 =>
  bX9_init_9 x0 x0 y3 g1 m2
def fX9_init (x0 : Int) (g : Shp) (m : Mem) : Option (Int × Shp × Mem) := bX9_init_0 x0 g m
def bX3_init_63 (x0 x1 z0 z1 z2 : Int) (g : Shp) (m : Mem) : Option (Int × (Int × Shp × Mem)) :=
  ck ((0 : Int) ≤ z1 ∧ z1 < gl g z0) <|
  vm (ms m z0 z1 z2) fun m2 =>
  vv (w32 (x1 + 1)) fun y3 =>
  some (0, (y3, g, m2))
def bX3_init_59 (x0 x1 z0 z1 z2 : Int) (g : Shp) (m : Mem) : Option (Int × (Int × Shp × Mem)) :=
  bd3 (fX1_init z2 g m) fun v1 g2 m3 =>
  bX3_init_63 x0 x1 z0 z1 z2 g2 m3
def bX3_init_46 (x0 x1 : Int) (g : Shp) (m : Mem) : Option (Int × (Int × Shp × Mem)) :=
  if 3 ≤ x1 then
    some (1, (x1, g, m))
  else
    ck (gk g (m x0 3) = 23) <|
    ck (gn g < 1000000 ∧ (0 : Int) ≤ 0 ∧ 0 < (1000000 : Int)) <|
    vg (gA g 2 0 10) fun g3 =>
    vm (mA g m) fun m4 =>
    vv ((gn g : Int) + 1) fun y5 =>
    bX3_init_59 x0 x1 (m x0 3) x1 y5 g3 m4
def BX3_init_46 (x0 : Int) (q : (Int × Shp × Mem)) : Option (Int × (Int × Shp × Mem)) := bX3_init_46 x0 q.1 q.2.1 q.2.2
def bX3_init_70 (g : Shp) (m : Mem) : Option (Int × Shp × Mem) :=
  some (0, g, m)
def bX3_init_41 (x0 z0 z1 : Int) (g : Shp) (m : Mem) : Option (Int × Shp × Mem) :=
  vm (ms m z0 4 z1) fun m1 =>
  bdl (iter (BX3_init_46 x0) 100000 (0, g, m1)) fun cv2 sv3 =>
  bX3_init_70 sv3.2.1 sv3.2.2
def bX3_init_37 (x0 z0 z1 : Int) (g : Shp) (m : Mem) : Option (Int × Shp × Mem) :=
  bd3 (fX9_init z1 g m) fun v1 g2 m3 =>
  bX3_init_41 x0 z0 z1 g2 m3
def bX3_init_30 (x0 z0 z1 : Int) (g : Shp) (m : Mem) : Option (Int × Shp × Mem) :=
  vm (ms m z0 3 z1) fun m1 =>
  ck (gn g < 1000000 ∧ (0 : Int) ≤ 0 ∧ 0 < (1000000 : Int)) <|
  vg (gA g 10 0 9) fun g2 =>
  vm (mA g m1) fun m3 =>
  vv ((gn g : Int) + 1) fun y4 =>
  bX3_init_37 x0 x0 y4 g2 m3
def bX3_init_22 (x0 z0 z1 : Int) (g : Shp) (m : Mem) : Option (Int × Shp × Mem) :=
  vm (ms m z0 2 z1) fun m1 =>
  ck (gn g < 1000000 ∧ (0 : Int) ≤ 3 ∧ 3 < (1000000 : Int)) <|
  vg (gA g 23 3 3) fun g2 =>
  vm (mA g m1) fun m3 =>
  vv ((gn g : Int) + 1) fun y4 =>
  bX3_init_30 x0 x0 y4 g2 m3
def bX3_init_15 (x0 z0 z1 : Int) (g : Shp) (m : Mem) : Option (Int × Shp × Mem) :=
  vm (ms m z0 1 z1) fun m1 =>
  ck (gn g < 1000000 ∧ (0 : Int) ≤ 3 ∧ 3 < (1000000 : Int)) <|
  vg (gA g 20 3 3) fun g2 =>
  vm (mA g m1) fun m3 =>
  vv ((gn g : Int) + 1) fun y4 =>
  bX3_init_22 x0 x0 y4 g2 m3
def bX3_init_8 (x0 z0 z1 : Int) (g : Shp) (m : Mem) : Option (Int × Shp × Mem) :=
  vm (ms m z0 0 z1) fun m1 =>
  ck (gn g < 1000000 ∧ (0 : Int) ≤ 3 ∧ 3 < (1000000 : Int)) <|
  vg (gA g 20 3 3) fun g2 =>
  vm (mA g m1) fun m3 =>
  vv ((gn g : Int) + 1) fun y4 =>
  bX3_init_15 x0 x0 y4 g2 m3
def bX3_init_0 (x0 : Int) (g : Shp) (m : Mem) : Option (Int × Shp × Mem) :=
  ck (gn g < 1000000 ∧ (0 : Int) ≤ 3 ∧ 3 < (1000000 : Int)) <|
  vg (gA g 20 3 3) fun g1 =>
  vm (mA g m) fun m2 =>
  vv ((gn g : Int) + 1) fun y3 =>
  bX3_init_8 x0 x0 y3 g1 m2
def fX3_init (x0 : Int) (g : Shp) (m : Mem) : Option (Int × Shp × Mem) := bX3_init_0 x0 g m
def bX4_init_33 (x0 x1 z0 z1 z2 : Int) (g : Shp) (m : Mem) : Option (Int × (Int × Shp × Mem)) :=
  ck ((0 : Int) ≤ z1 ∧ z1 < gl g z0) <|
  vm (ms m z0 z1 z2) fun m2 =>
  vv (w32 (x1 + 1)) fun y3 =>
  some (0, (y3, g, m2))
def bX4_init_29 (x0 x1 z0 z1 z2 : Int) (g : Shp) (m : Mem) : Option (Int × (Int × Shp × Mem)) :=
  bd3 (fX1_init z2 g m) fun v1 g2 m3 =>
  bX4_init_33 x0 x1 z0 z1 z2 g2 m3
def bX4_init_15 (x0 x1 : Int) (g : Shp) (m : Mem) : Option (Int × (Int × Shp × Mem)) :=
  if 6 ≤ x1 then
    some (1, (x1, g, m))
  else
    ck (gk g (m x0 0) = 23) <|
    ck (gn g < 1000000 ∧ (0 : Int) ≤ 0 ∧ 0 < (1000000 : Int)) <|
    vg (gA g 2 0 10) fun g3 =>
    vm (mA g m) fun m4 =>
    vv ((gn g : Int) + 1) fun y5 =>
    bX4_init_29 x0 x1 (m x0 0) x1 y5 g3 m4
def BX4_init_15 (x0 : Int) (q : (Int × Shp × Mem)) : Option (Int × (Int × Shp × Mem)) := bX4_init_15 x0 q.1 q.2.1 q.2.2
def bX4_init_40 (g : Shp) (m : Mem) : Option (Int × Shp × Mem) :=
  some (0, g, m)
def bX4_init_10 (x0 z0 z1 : Int) (g : Shp) (m : Mem) : Option (Int × Shp × Mem) :=
  vm (ms m z0 0 z1) fun m1 =>
  bdl (iter (BX4_init_15 x0) 100000 (0, g, m1)) fun cv2 sv3 =>
  bX4_init_40 sv3.2.1 sv3.2.2
def bX4_init_0 (x0 : Int) (g : Shp) (m : Mem) : Option (Int × Shp × Mem) :=
  ck (gn g < 1000000 ∧ (0 : Int) ≤ 6 ∧ 6 < (1000000 : Int)) <|
  vg (gA g 23 6 6) fun g1 =>
  vm (mA g m) fun m2 =>
  vv ((gn g : Int) + 1) fun y3 =>
  bX4_init_10 x0 x0 y3 g1 m2
def fX4_init (x0 : Int) (g : Shp) (m : Mem) : Option (Int × Shp × Mem) := bX4_init_0 x0 g m
def bX5_init_16 (z0 z1 : Int) (g : Shp) (m : Mem) : Option (Int × Shp × Mem) :=
  vm (ms m z0 1 z1) fun m1 =>
  some (0, g, m1)
def bX5_init_9 (x0 z0 z1 : Int) (g : Shp) (m : Mem) : Option (Int × Shp × Mem) :=
  vm (ms m z0 0 z1) fun m1 =>
  ck (gn g < 1000000 ∧ (0 : Int) ≤ 5 ∧ 5 < (1000000 : Int)) <|
  vg (gA g 20 5 5) fun g2 =>
  vm (mA g m1) fun m3 =>
  vv ((gn g : Int) + 1) fun y4 =>
  bX5_init_16 x0 y4 g2 m3
def bX5_init_0 (x0 : Int) (g : Shp) (m : Mem) : Option (Int × Shp × Mem) :=
  ck (gn g < 1000000 ∧ (0 : Int) ≤ 60 ∧ 60 < (1000000 : Int)) <|
  vg (gA g 20 60 60) fun g1 =>
  vm (mA g m) fun m2 =>
  vv ((gn g : Int) + 1) fun y3 =>
  bX5_init_9 x0 x0 y3 g1 m2
def fX5_init (x0 : Int) (g : Shp) (m : Mem) : Option (Int × Shp × Mem) := bX5_init_0 x0 g m
def bX7_init_55 (x0 x1 z0 z1 z2 : Int) (g : Shp) (m : Mem) : Option (Int × (Int × Shp × Mem)) :=
  ck ((0 : Int) ≤ z1 ∧ z1 < gl g z0) <|
  vm (ms m z0 z1 z2) fun m2 =>
  vv (w32 (x1 + 1)) fun y3 =>
  some (0, (y3, g, m2))
def bX7_init_51 (x0 x1 z0 z1 z2 : Int) (g : Shp) (m : Mem) : Option (Int × (Int × Shp × Mem)) :=
  bd3 (fX5_init z2 g m) fun v1 g2 m3 =>
  bX7_init_55 x0 x1 z0 z1 z2 g2 m3
def bX7_init_38 (x0 x1 : Int) (g : Shp) (m : Mem) : Option (Int × (Int × Shp × Mem)) :=
  if 3 ≤ x1 then
    some (1, (x1, g, m))
  else
    ck (gk g (m x0 2) = 25) <|
    ck (gn g < 1000000 ∧ (0 : Int) ≤ 0 ∧ 0 < (1000000 : Int)) <|
    vg (gA g 6 0 7) fun g3 =>
    vm (mA g m) fun m4 =>
    vv ((gn g : Int) + 1) fun y5 =>
    bX7_init_51 x0 x1 (m x0 2) x1 y5 g3 m4
def BX7_init_38 (x0 : Int) (q : (Int × Shp × Mem)) : Option (Int × (Int × Shp × Mem)) := bX7_init_38 x0 q.1 q.2.1 q.2.2
def bX7_init_62 (g : Shp) (m : Mem) : Option (Int × Shp × Mem) :=
  some (0, g, m)
def bX7_init_33 (x0 z0 z1 : Int) (g : Shp) (m : Mem) : Option (Int × Shp × Mem) :=
  vm (ms m z0 3 z1) fun m1 =>
  bdl (iter (BX7_init_38 x0) 100000 (0, g, m1)) fun cv2 sv3 =>
  bX7_init_62 sv3.2.1 sv3.2.2
def bX7_init_24 (x0 z0 z1 : Int) (g : Shp) (m : Mem) : Option (Int × Shp × Mem) :=
  vm (ms m z0 2 z1) fun m1 =>
  ck (gn g < 1000000 ∧ (0 : Int) ≤ 400 ∧ 400 < (1000000 : Int)) <|
  vg (gA g 20 400 400) fun g2 =>
  vm (mA g m1) fun m3 =>
  vv ((gn g : Int) + 1) fun y4 =>
  bX7_init_33 x0 x0 y4 g2 m3
def bX7_init_16 (x0 z0 z1 : Int) (g : Shp) (m : Mem) : Option (Int × Shp × Mem) :=
  vm (ms m z0 1 z1) fun m1 =>
  ck (gn g < 1000000 ∧ (0 : Int) ≤ 3 ∧ 3 < (1000000 : Int)) <|
  vg (gA g 25 3 3) fun g2 =>
  vm (mA g m1) fun m3 =>
  vv ((gn g : Int) + 1) fun y4 =>
  bX7_init_24 x0 x0 y4 g2 m3
def bX7_init_8 (x0 z0 z1 : Int) (g : Shp) (m : Mem) : Option (Int × Shp × Mem) :=
  vm (ms m z0 0 z1) fun m1 =>
  ck (gn g < 1000000 ∧ (0 : Int) ≤ 9 ∧ 9 < (1000000 : Int)) <|
  vg (gA g 20 9 9) fun g2 =>
  vm (mA g m1) fun m3 =>
  vv ((gn g : Int) + 1) fun y4 =>
  bX7_init_16 x0 x0 y4 g2 m3
def bX7_init_0 (x0 : Int) (g : Shp) (m : Mem) : Option (Int × Shp × Mem) :=
  ck (gn g < 1000000 ∧ (0 : Int) ≤ 3 ∧ 3 < (1000000 : Int)) <|
  vg (gA g 20 3 3) fun g1 =>
  vm (mA g m) fun m2 =>
  vv ((gn g : Int) + 1) fun y3 =>
  bX7_init_8 x0 x0 y3 g1 m2
def fX7_init (x0 : Int) (g : Shp) (m : Mem) : Option (Int × Shp × Mem) := bX7_init_0 x0 g m
def bX8_init_17 (z0 z1 : Int) (g : Shp) (m : Mem) : Option (Int × Shp × Mem) :=
  vm (ms m z0 1 z1) fun m1 =>
  some (0, g, m1)
def bX8_init_10 (x0 z0 z1 : Int) (g : Shp) (m : Mem) : Option (Int × Shp × Mem) :=
  vm (ms m z0 0 z1) fun m1 =>
  ck (gn g < 1000000 ∧ (0 : Int) ≤ 4 ∧ 4 < (1000000 : Int)) <|
  vg (gA g 20 4 4) fun g2 =>
  vm (mA g m1) fun m3 =>
  vv ((gn g : Int) + 1) fun y4 =>
  bX8_init_17 x0 y4 g2 m3
def bX8_init_0 (x0 : Int) (g : Shp) (m : Mem) : Option (Int × Shp × Mem) :=
  ck (gn g < 1000000 ∧ (0 : Int) ≤ 200 ∧ 200 < (1000000 : Int)) <|
  vg (gA g 22 200 200) fun g1 =>
  vm (mA g m) fun m2 =>
  vv ((gn g : Int) + 1) fun y3 =>
  bX8_init_10 x0 x0 y3 g1 m2
def fX8_init (x0 : Int) (g : Shp) (m : Mem) : Option (Int × Shp × Mem) := bX8_init_0 x0 g m
def bX10_wayOf_52 (x3 : Int) (g : Shp) (m : Mem) : Option (Int × Shp × Mem) :=
  some (x3, g, m)
def bX10_wayOf_47 (x3 : Int) (g : Shp) (m : Mem) : Option (Int × Shp × Mem) :=
  vm (ms m x3 8 1) fun m1 =>
  bX10_wayOf_52 x3 g m1
def bX10_wayOf_0 (x0 x1 x2 : Int) (g : Shp) (m : Mem) : Option (Int × Shp × Mem) :=
  ck (gk g (m x0 5) = 24) <|
  ck ((0 : Int) ≤ (w32 ((w32 (x1 * 3)) + x2)) ∧ (w32 ((w32 (x1 * 3)) + x2)) < gl g (m x0 5)) <|
  ck (gk g (m (m x0 5) (w32 ((w32 (x1 * 3)) + x2))) = 10) <|
  vv (m (m x0 5) (w32 ((w32 (x1 * 3)) + x2))) fun y4 =>
  if (m y4 8) = 0 then
    ck (gk g (m x0 1) = 1) <|
    ck (gk g (m x0 6) = 8) <|
    ck (gk g (m (m x0 6) 2) = 25) <|
    ck ((0 : Int) ≤ x1 ∧ x1 < gl g (m (m x0 6) 2)) <|
    ck (gk g (m (m (m x0 6) 2) x1) = 6) <|
    ck (gk g (m (m x0 6) 0) = 20) <|
    ck (gk g (m x0 2) = 2) <|
    bd3 (fX0_find (m x0 1) (m (m (m x0 6) 2) x1) (m (m x0 6) 0) (m x0 2) x2 y4 g m) fun v13 g14 m15 =>
    bX10_wayOf_47 y4 g14 m15
  else
    bX10_wayOf_52 y4 g m
def fX10_wayOf (x0 x1 x2 : Int) (g : Shp) (m : Mem) : Option (Int × Shp × Mem) := bX10_wayOf_0 x0 x1 x2 g m
def bX10_way_21 (g : Shp) (m : Mem) : Option (Int × Shp × Mem) :=
  some ((-1), g, m)
def bX10_way_100 (z0 : Int) (g : Shp) (m : Mem) : Option (Int × Shp × Mem) :=
  some (z0, g, m)
def bX10_way_43 (x3 z0 : Int) (g : Shp) (m : Mem) : Option (Int × Shp × Mem) :=
  if (m z0 7) = 0 then
    some ((-4), g, m)
  else
    if x3 = ((-1)) then
      some (m z0 5, g, m)
    else
      if x3 = ((-2)) then
        some (m z0 4, g, m)
      else
        if (m z0 4) ≤ x3 then
          bX10_way_100 ((-4)) g m
        else
          ck (gk g (m z0 0) = 20) <|
          ck ((0 : Int) ≤ x3 ∧ x3 < gl g (m z0 0)) <|
          bX10_way_100 (m (m z0 0) x3) g m
def bX10_way_0 (x0 x1 x2 x3 : Int) (g : Shp) (m : Mem) : Option (Int × Shp × Mem) :=
  bd2 (fX10_isLine g x0 x1 m) fun v1 m2 =>
  if v1 = 0 then
    bX10_way_21 g m2
  else
    bd2 (fX10_isColour g x2 m2) fun v6 m7 =>
    if v6 = 0 then
      bX10_way_21 g m7
    else
      if ((-2)) ≤ x3 then
        ck (gk g (m7 x0 2) = 2) <|
        bd2 (fX1_isCovered g (m7 x0 2) x1 m7) fun v13 m14 =>
        if v13 = 0 then
          bd3 (fX10_wayOf x0 x1 x2 g m14) fun v18 g19 m20 =>
          ck (gk g19 v18 = 10) <|
          bX10_way_43 x3 v18 g19 m20
        else
          some ((-2), g, m14)
      else
        bX10_way_21 g m7
def fX10_way (x0 x1 x2 x3 : Int) (g : Shp) (m : Mem) : Option (Int × Shp × Mem) := bX10_way_0 x0 x1 x2 x3 g m
def bX10_best_79 (x0 x1 x2 x3 x4 : Int) (g : Shp) (m : Mem) : Option (Int × (Int × Int × Int × Shp × Mem)) :=
  vv (w32 (x4 + 1)) fun y1 =>
  some (0, (x2, x3, y1, g, m))
def bX10_best_70 (x0 x1 x4 x5 : Int) (g : Shp) (m : Mem) : Option (Int × (Int × Int × Int × Shp × Mem)) :=
  vv (m x5 5) fun y1 =>
  bX10_best_79 x0 x1 x4 y1 x4 g m
def bX10_best_45 (x0 x1 x2 x3 x4 z0 : Int) (g : Shp) (m : Mem) : Option (Int × (Int × Int × Int × Shp × Mem)) :=
  if (m z0 7) = 0 then
    bX10_best_79 x0 x1 x2 x3 x4 g m
  else
    if x2 = ((-4)) then
      bX10_best_70 x0 x1 x4 z0 g m
    else
      if x3 ≤ (m z0 5) then
        bX10_best_79 x0 x1 x2 x3 x4 g m
      else
        bX10_best_70 x0 x1 x4 z0 g m
def bX10_best_32 (x0 x1 x2 x3 x4 : Int) (g : Shp) (m : Mem) : Option (Int × (Int × Int × Int × Shp × Mem)) :=
  if 3 ≤ x4 then
    some (1, (x2, x3, x4, g, m))
  else
    bd3 (fX10_wayOf x0 x1 x4 g m) fun v2 g3 m4 =>
    ck (gk g3 v2 = 10) <|
    bX10_best_45 x0 x1 x2 x3 x4 v2 g3 m4
def BX10_best_32 (x0 x1 : Int) (q : (Int × Int × Int × Shp × Mem)) : Option (Int × (Int × Int × Int × Shp × Mem)) := bX10_best_32 x0 x1 q.1 q.2.1 q.2.2.1 q.2.2.2.1 q.2.2.2.2
def bX10_best_85 (x2 : Int) (g : Shp) (m : Mem) : Option (Int × Shp × Mem) :=
  some (x2, g, m)
def bX10_best_0 (x0 x1 : Int) (g : Shp) (m : Mem) : Option (Int × Shp × Mem) :=
  bd2 (fX10_isLine g x0 x1 m) fun v1 m2 =>
  if v1 = 0 then
    some ((-1), g, m2)
  else
    ck (gk g (m2 x0 2) = 2) <|
    bd2 (fX1_isCovered g (m2 x0 2) x1 m2) fun v7 m8 =>
    if v7 = 0 then
      bdl (iter (BX10_best_32 x0 x1) 100000 ((-4), 0, 0, g, m8)) fun cv12 sv13 =>
      bX10_best_85 sv13.1 sv13.2.2.2.1 sv13.2.2.2.2
    else
      some ((-2), g, m8)
def fX10_best (x0 x1 : Int) (g : Shp) (m : Mem) : Option (Int × Shp × Mem) := bX10_best_0 x0 x1 g m
theorem xX6_init_17 {g : Shp} {m : Mem} {z0 z1 : Int} {r : Int} {g' : Shp} {m' : Mem} (hF : bX6_init_17 z0 z1 g m = some (r, g', m')) (hg : gOk g) : gX g g' ∧ gOk g' := by
  unfold bX6_init_17 at hF
  obtain ⟨m1, em1, hF⟩ := vm_ok hF
  cases hF
  exact ⟨gX.rf _, hg⟩
set_option maxRecDepth 20000 in
theorem wX6_init_17 {p : Program} {l : Launch} {e : Env} {s : State} {mt : MethodId} {args : Array Value} {below : List Frame} {meth : Method} {c : Code} {Q : State → Prop} {G : Gl} {A : Nat → Prop} {H0 : Heap} {ad : Int → Nat} {g : Shp} {ad0 : Int → Nat} {g0 : Shp} {n0 t0 cells slots mc msl : Nat} (hnm : meth.name = "<init>") {H : Heap} {locs : List Loc} {ls : Array Slot} {m : Mem} {z0 z1 : Int} (C : CallFix p mt c cX6_init 1 s args tb RX6) (S : Wd G A s H0 ad g m H locs) (hz0 : gk g z0 = 7) (hz1 : gk g z1 = 21) (hl : lv_has ls 1 []) (hq : aX g0 ad0 ad ∧ gX g0 g) (hn : gn g = n0 + cells ∧ gs g = t0 + slots) {r : Int} {g' : Shp} {m' : Mem} (hF : bX6_init_17 z0 z1 g m = some (r, g', m')) (he : gn g' ≤ n0 + mc ∧ gs g' ≤ t0 + msl) (Kr : ∀ (ad : Int → Nat) (H : Heap) (locs : List Loc) (pc : Nat) (ls : Array Slot) (cells slots : Nat), aX g0 ad0 ad → gn g' = n0 + cells ∧ gs g' = t0 + slots → Wd G A s H0 ad g' m' H locs → decode cX6_init pc = .ok (.return_, 1) → W p l e (rX6_init mc msl) s mt args below meth c H locs cells slots Q (F0 mt pc ls [])) : W p l e (rX6_init mc msl) s mt args below meth c H locs cells slots Q (F0 mt 17 ls [.ref (ad z1), .ref (ad z0)]) := by
  have hXx := xX6_init_17 hF S.g
  have hle : cells ≤ mc ∧ slots ≤ msl := by
    have h1 := hXx.1.1
    have h2 := hXx.1.2.1
    omega
  unfold bX6_init_17 at hF
  obtain ⟨m1, em1, hF⟩ := vm_ok hF
  refine q_put C S 1 fo_RX6_15 fp_7_1 (fun _ => ⟨hnm, rfl⟩) (j := 1) rfl hz0 (orf_ok S hz1 (by decide) rfl) rfl rfl (S.k hz1 (by decide)) (fun _ => kz hz1 (by decide)) em1 dX6_init_17 (fun H locs Sm1 => ?_)
  cases hF
  exact Kr _ _ _ _ _ _ _ hq.1 hn Sm1 dX6_init_20
theorem xX6_init_9 {g : Shp} {m : Mem} {x0 z0 z1 : Int} {r : Int} {g' : Shp} {m' : Mem} (hF : bX6_init_9 x0 z0 z1 g m = some (r, g', m')) (hg : gOk g) : gX g g' ∧ gOk g' := by
  unfold bX6_init_9 at hF
  obtain ⟨m1, em1, hF⟩ := vm_ok hF
  obtain ⟨h5, hF⟩ := ck_ok hF
  obtain ⟨g2, eg2, hF⟩ := vg_ok hF
  obtain ⟨m3, em3, hF⟩ := vm_ok hF
  obtain ⟨y4, ey4, hF⟩ := vv_ok hF
  have hG2 := gA_ok hg h5 eg2
  have hX2 := gA_X hg eg2
  exact gX2 hX2 (xX6_init_17 hF hG2)
set_option maxRecDepth 20000 in
theorem wX6_init_9 {p : Program} {l : Launch} {e : Env} {s : State} {mt : MethodId} {args : Array Value} {below : List Frame} {meth : Method} {c : Code} {Q : State → Prop} {G : Gl} {A : Nat → Prop} {H0 : Heap} {ad : Int → Nat} {g : Shp} {ad0 : Int → Nat} {g0 : Shp} {n0 t0 cells slots mc msl : Nat} (hnm : meth.name = "<init>") {H : Heap} {locs : List Loc} {ls : Array Slot} {m : Mem} {x0 z0 z1 : Int} (C : CallFix p mt c cX6_init 1 s args tb RX6) (S : Wd G A s H0 ad g m H locs) (hx0 : gk g x0 = 7) (hz0 : gk g z0 = 7) (hz1 : gk g z1 = 20) (hl : lv_has ls 1 [(0, .ref (ad x0))]) (hq : aX g0 ad0 ad ∧ gX g0 g) (hn : gn g = n0 + cells ∧ gs g = t0 + slots) {r : Int} {g' : Shp} {m' : Mem} (hF : bX6_init_9 x0 z0 z1 g m = some (r, g', m')) (he : gn g' ≤ n0 + mc ∧ gs g' ≤ t0 + msl) (Kr : ∀ (ad : Int → Nat) (H : Heap) (locs : List Loc) (pc : Nat) (ls : Array Slot) (cells slots : Nat), aX g0 ad0 ad → gn g' = n0 + cells ∧ gs g' = t0 + slots → Wd G A s H0 ad g' m' H locs → decode cX6_init pc = .ok (.return_, 1) → W p l e (rX6_init mc msl) s mt args below meth c H locs cells slots Q (F0 mt pc ls [])) : W p l e (rX6_init mc msl) s mt args below meth c H locs cells slots Q (F0 mt 9 ls [.ref (ad z1), .ref (ad z0)]) := by
  have hXx := xX6_init_9 hF S.g
  have hle : cells ≤ mc ∧ slots ≤ msl := by
    have h1 := hXx.1.1
    have h2 := hXx.1.2.1
    omega
  unfold bX6_init_9 at hF
  obtain ⟨m1, em1, hF⟩ := vm_ok hF
  refine q_put C S 0 fo_RX6_9 fp_7_0 (fun _ => ⟨hnm, rfl⟩) (j := 0) rfl hz0 (orf_ok S hz1 (by decide) rfl) rfl rfl (S.k hz1 (by decide)) (fun _ => kz hz1 (by decide)) em1 dX6_init_9 (fun H locs Sm1 => ?_)
  refine q_aload_n C hl 0 rfl rfl dX6_init_12 ?_
  refine q_bipush C 60 (by decide) dX6_init_13 ?_
  obtain ⟨h5, hF⟩ := ck_ok hF
  obtain ⟨g2, eg2, hF⟩ := vg_ok hF
  obtain ⟨m3, em3, hF⟩ := vm_ok hF
  obtain ⟨y4, ey4, hF⟩ := vv_ok hF
  have hG2 := gA_ok Sm1.g h5 eg2
  have hX2 := gA_X Sm1.g eg2
  have hN2 := gA_n eg2
  have hXr := (xX6_init_17 hF hG2).1
  refine q_newi C Sm1 rfl (Or.inr (Or.inl ⟨rfl, rfl, rfl⟩)) tw141 h5 (by have h1 := hXr.1; have h2 := hXr.2.1; exact ⟨by show _ ≤ mc; omega, by show _ ≤ msl; omega⟩) eg2 em3 dX6_init_15 (fun ad6 H hax Sm3 => ?_)
  rw [← ey4]
  have ky4 := gA_k eg2 ey4
  have hq : aX g0 ad0 ad6 ∧ gX g0 g2 := ⟨hq.1.tr hq.2 hax, hq.2.tr hX2⟩
  have hn : gn g2 = n0 + (cells + 1) ∧ gs g2 = t0 + (slots + 60) := by omega
  have k7 := hX2.k hx0 (by decide)
  have ak7 : ad6 x0 = ad x0 := hax _ (kz hx0 (by decide))
  rw [← ak7] at hl
  rw [← ak7]
  exact wX6_init_17 hnm C Sm3 k7 ky4 (lv_sub hl [] rfl) hq hn hF he Kr
theorem xX6_init_0 {g : Shp} {m : Mem} {x0 : Int} {r : Int} {g' : Shp} {m' : Mem} (hF : bX6_init_0 x0 g m = some (r, g', m')) (hg : gOk g) : gX g g' ∧ gOk g' := by
  unfold bX6_init_0 at hF
  obtain ⟨h4, hF⟩ := ck_ok hF
  obtain ⟨g1, eg1, hF⟩ := vg_ok hF
  obtain ⟨m2, em2, hF⟩ := vm_ok hF
  obtain ⟨y3, ey3, hF⟩ := vv_ok hF
  have hG2 := gA_ok hg h4 eg1
  have hX2 := gA_X hg eg1
  exact gX2 hX2 (xX6_init_9 hF hG2)
set_option maxRecDepth 20000 in
theorem wX6_init_0 {p : Program} {l : Launch} {e : Env} {s : State} {mt : MethodId} {args : Array Value} {below : List Frame} {meth : Method} {c : Code} {Q : State → Prop} {G : Gl} {A : Nat → Prop} {H0 : Heap} {ad : Int → Nat} {g : Shp} {ad0 : Int → Nat} {g0 : Shp} {n0 t0 cells slots mc msl : Nat} (hnm : meth.name = "<init>") {H : Heap} {locs : List Loc} {ls : Array Slot} {m : Mem} {x0 : Int} (C : CallFix p mt c cX6_init 1 s args tb RX6) (S : Wd G A s H0 ad g m H locs) (hx0 : gk g x0 = 7) (hl : lv_has ls 1 [(0, .ref (ad x0))]) (hq : aX g0 ad0 ad ∧ gX g0 g) (hn : gn g = n0 + cells ∧ gs g = t0 + slots) {r : Int} {g' : Shp} {m' : Mem} (hF : bX6_init_0 x0 g m = some (r, g', m')) (he : gn g' ≤ n0 + mc ∧ gs g' ≤ t0 + msl) (Kr : ∀ (ad : Int → Nat) (H : Heap) (locs : List Loc) (pc : Nat) (ls : Array Slot) (cells slots : Nat), aX g0 ad0 ad → gn g' = n0 + cells ∧ gs g' = t0 + slots → Wd G A s H0 ad g' m' H locs → decode cX6_init pc = .ok (.return_, 1) → W p l e (rX6_init mc msl) s mt args below meth c H locs cells slots Q (F0 mt pc ls [])) : W p l e (rX6_init mc msl) s mt args below meth c H locs cells slots Q (F0 mt 0 ls []) := by
  have hXx := xX6_init_0 hF S.g
  have hle : cells ≤ mc ∧ slots ≤ msl := by
    have h1 := hXx.1.1
    have h2 := hXx.1.2.1
    omega
  unfold bX6_init_0 at hF
  refine q_aload_n C hl 0 rfl rfl dX6_init_0 ?_
  refine q_oinit C tw125 tw90 tw91 hl.1 (Nat.le_of_ble_eq_true rfl) (Nat.le_of_ble_eq_true rfl) dX6_init_1 ?_
  refine q_aload_n C hl 0 rfl rfl dX6_init_4 ?_
  refine q_bipush C 60 (by decide) dX6_init_5 ?_
  obtain ⟨h4, hF⟩ := ck_ok hF
  obtain ⟨g1, eg1, hF⟩ := vg_ok hF
  obtain ⟨m2, em2, hF⟩ := vm_ok hF
  obtain ⟨y3, ey3, hF⟩ := vv_ok hF
  have hG2 := gA_ok S.g h4 eg1
  have hX2 := gA_X S.g eg1
  have hN2 := gA_n eg1
  have hXr := (xX6_init_9 hF hG2).1
  refine q_newi C S rfl (Or.inl ⟨rfl, rfl, rfl⟩) tw113 h4 (by have h1 := hXr.1; have h2 := hXr.2.1; exact ⟨by show _ ≤ mc; omega, by show _ ≤ msl; omega⟩) eg1 em2 dX6_init_7 (fun ad5 H hax Sm2 => ?_)
  rw [← ey3]
  have ky3 := gA_k eg1 ey3
  have hq : aX g0 ad0 ad5 ∧ gX g0 g1 := ⟨hq.1.tr hq.2 hax, hq.2.tr hX2⟩
  have hn : gn g1 = n0 + (cells + 1) ∧ gs g1 = t0 + (slots + 60) := by omega
  have k6 := hX2.k hx0 (by decide)
  have ak6 : ad5 x0 = ad x0 := hax _ (kz hx0 (by decide))
  rw [← ak6] at hl
  rw [← ak6]
  exact wX6_init_9 hnm C Sm2 k6 k6 ky3 (lv_sub hl [0] rfl) hq hn hF he Kr
theorem xX6_init_f {x0 : Int} {g : Shp} {m : Mem} {r : Int} {g' : Shp} {m' : Mem} (hF : fX6_init x0 g m = some (r, g', m')) (hg : gOk g) : gX g g' ∧ gOk g' := xX6_init_0 hF hg
theorem cX6_init_ok (l : Launch) (G : Gl) {x0 : Int} {g : Shp} {m : Mem} {r : Int} {g' : Shp} {m' : Mem} (hx0 : gk g x0 = 7) (hF : fX6_init x0 g m = some (r, g', m')) : mVA l yX6_init (wT yX6_init cX6_init 1 none) rX6_init G (fun ad => [.ref (ad x0)]) g m g' m' :=
  met_vA (rm := rX6_init) (by decide) (fun ad => Nat.le_of_ble_eq_true rfl) (fun hg => (xX6_init_f hF hg).1) (fun p e s mt args below meth c Q A H0 H locs ad ls mc msl hmc hms C hnm S hl Kr => wX6_init_0 (n0 := gn g) (t0 := gs g) hnm C S hx0 hl ⟨fun _ _ => rfl, gX.rf _⟩ ⟨rfl, rfl⟩ hF (by have h9 := (xX6_init_f hF S.g).1; have h1 := h9.1; have h2 := h9.2.1; omega) Kr)
theorem xX2_init_17 {g : Shp} {m : Mem} {z0 z1 : Int} {r : Int} {g' : Shp} {m' : Mem} (hF : bX2_init_17 z0 z1 g m = some (r, g', m')) (hg : gOk g) : gX g g' ∧ gOk g' := by
  unfold bX2_init_17 at hF
  obtain ⟨m1, em1, hF⟩ := vm_ok hF
  cases hF
  exact ⟨gX.rf _, hg⟩
set_option maxRecDepth 20000 in
theorem wX2_init_17 {p : Program} {l : Launch} {e : Env} {s : State} {mt : MethodId} {args : Array Value} {below : List Frame} {meth : Method} {c : Code} {Q : State → Prop} {G : Gl} {A : Nat → Prop} {H0 : Heap} {ad : Int → Nat} {g : Shp} {ad0 : Int → Nat} {g0 : Shp} {n0 t0 cells slots mc msl : Nat} (hnm : meth.name = "<init>") {H : Heap} {locs : List Loc} {ls : Array Slot} {m : Mem} {z0 z1 : Int} (C : CallFix p mt c cX2_init 1 s args tb RX2) (S : Wd G A s H0 ad g m H locs) (hz0 : gk g z0 = 3) (hz1 : gk g z1 = 20) (hl : lv_has ls 1 []) (hq : aX g0 ad0 ad ∧ gX g0 g) (hn : gn g = n0 + cells ∧ gs g = t0 + slots) {r : Int} {g' : Shp} {m' : Mem} (hF : bX2_init_17 z0 z1 g m = some (r, g', m')) (he : gn g' ≤ n0 + mc ∧ gs g' ≤ t0 + msl) (Kr : ∀ (ad : Int → Nat) (H : Heap) (locs : List Loc) (pc : Nat) (ls : Array Slot) (cells slots : Nat), aX g0 ad0 ad → gn g' = n0 + cells ∧ gs g' = t0 + slots → Wd G A s H0 ad g' m' H locs → decode cX2_init pc = .ok (.return_, 1) → W p l e (rX2_init mc msl) s mt args below meth c H locs cells slots Q (F0 mt pc ls [])) : W p l e (rX2_init mc msl) s mt args below meth c H locs cells slots Q (F0 mt 17 ls [.ref (ad z1), .ref (ad z0)]) := by
  have hXx := xX2_init_17 hF S.g
  have hle : cells ≤ mc ∧ slots ≤ msl := by
    have h1 := hXx.1.1
    have h2 := hXx.1.2.1
    omega
  unfold bX2_init_17 at hF
  obtain ⟨m1, em1, hF⟩ := vm_ok hF
  refine q_put C S 1 fo_RX2_15 fp_3_1 (fun _ => ⟨hnm, rfl⟩) (j := 1) rfl hz0 (orf_ok S hz1 (by decide) rfl) rfl rfl (S.k hz1 (by decide)) (fun _ => kz hz1 (by decide)) em1 dX2_init_17 (fun H locs Sm1 => ?_)
  cases hF
  exact Kr _ _ _ _ _ _ _ hq.1 hn Sm1 dX2_init_20
theorem xX2_init_9 {g : Shp} {m : Mem} {x0 z0 z1 : Int} {r : Int} {g' : Shp} {m' : Mem} (hF : bX2_init_9 x0 z0 z1 g m = some (r, g', m')) (hg : gOk g) : gX g g' ∧ gOk g' := by
  unfold bX2_init_9 at hF
  obtain ⟨m1, em1, hF⟩ := vm_ok hF
  obtain ⟨h5, hF⟩ := ck_ok hF
  obtain ⟨g2, eg2, hF⟩ := vg_ok hF
  obtain ⟨m3, em3, hF⟩ := vm_ok hF
  obtain ⟨y4, ey4, hF⟩ := vv_ok hF
  have hG2 := gA_ok hg h5 eg2
  have hX2 := gA_X hg eg2
  exact gX2 hX2 (xX2_init_17 hF hG2)
set_option maxRecDepth 20000 in
theorem wX2_init_9 {p : Program} {l : Launch} {e : Env} {s : State} {mt : MethodId} {args : Array Value} {below : List Frame} {meth : Method} {c : Code} {Q : State → Prop} {G : Gl} {A : Nat → Prop} {H0 : Heap} {ad : Int → Nat} {g : Shp} {ad0 : Int → Nat} {g0 : Shp} {n0 t0 cells slots mc msl : Nat} (hnm : meth.name = "<init>") {H : Heap} {locs : List Loc} {ls : Array Slot} {m : Mem} {x0 z0 z1 : Int} (C : CallFix p mt c cX2_init 1 s args tb RX2) (S : Wd G A s H0 ad g m H locs) (hx0 : gk g x0 = 3) (hz0 : gk g z0 = 3) (hz1 : gk g z1 = 20) (hl : lv_has ls 1 [(0, .ref (ad x0))]) (hq : aX g0 ad0 ad ∧ gX g0 g) (hn : gn g = n0 + cells ∧ gs g = t0 + slots) {r : Int} {g' : Shp} {m' : Mem} (hF : bX2_init_9 x0 z0 z1 g m = some (r, g', m')) (he : gn g' ≤ n0 + mc ∧ gs g' ≤ t0 + msl) (Kr : ∀ (ad : Int → Nat) (H : Heap) (locs : List Loc) (pc : Nat) (ls : Array Slot) (cells slots : Nat), aX g0 ad0 ad → gn g' = n0 + cells ∧ gs g' = t0 + slots → Wd G A s H0 ad g' m' H locs → decode cX2_init pc = .ok (.return_, 1) → W p l e (rX2_init mc msl) s mt args below meth c H locs cells slots Q (F0 mt pc ls [])) : W p l e (rX2_init mc msl) s mt args below meth c H locs cells slots Q (F0 mt 9 ls [.ref (ad z1), .ref (ad z0)]) := by
  have hXx := xX2_init_9 hF S.g
  have hle : cells ≤ mc ∧ slots ≤ msl := by
    have h1 := hXx.1.1
    have h2 := hXx.1.2.1
    omega
  unfold bX2_init_9 at hF
  obtain ⟨m1, em1, hF⟩ := vm_ok hF
  refine q_put C S 0 fo_RX2_11 fp_3_0 (fun _ => ⟨hnm, rfl⟩) (j := 0) rfl hz0 (orf_ok S hz1 (by decide) rfl) rfl rfl (S.k hz1 (by decide)) (fun _ => kz hz1 (by decide)) em1 dX2_init_9 (fun H locs Sm1 => ?_)
  refine q_aload_n C hl 0 rfl rfl dX2_init_12 ?_
  refine q_bipush C 16 (by decide) dX2_init_13 ?_
  obtain ⟨h5, hF⟩ := ck_ok hF
  obtain ⟨g2, eg2, hF⟩ := vg_ok hF
  obtain ⟨m3, em3, hF⟩ := vm_ok hF
  obtain ⟨y4, ey4, hF⟩ := vv_ok hF
  have hG2 := gA_ok Sm1.g h5 eg2
  have hX2 := gA_X Sm1.g eg2
  have hN2 := gA_n eg2
  have hXr := (xX2_init_17 hF hG2).1
  refine q_newi C Sm1 rfl (Or.inl ⟨rfl, rfl, rfl⟩) tw113 h5 (by have h1 := hXr.1; have h2 := hXr.2.1; exact ⟨by show _ ≤ mc; omega, by show _ ≤ msl; omega⟩) eg2 em3 dX2_init_15 (fun ad6 H hax Sm3 => ?_)
  rw [← ey4]
  have ky4 := gA_k eg2 ey4
  have hq : aX g0 ad0 ad6 ∧ gX g0 g2 := ⟨hq.1.tr hq.2 hax, hq.2.tr hX2⟩
  have hn : gn g2 = n0 + (cells + 1) ∧ gs g2 = t0 + (slots + 16) := by omega
  have k7 := hX2.k hx0 (by decide)
  have ak7 : ad6 x0 = ad x0 := hax _ (kz hx0 (by decide))
  rw [← ak7] at hl
  rw [← ak7]
  exact wX2_init_17 hnm C Sm3 k7 ky4 (lv_sub hl [] rfl) hq hn hF he Kr
theorem xX2_init_0 {g : Shp} {m : Mem} {x0 : Int} {r : Int} {g' : Shp} {m' : Mem} (hF : bX2_init_0 x0 g m = some (r, g', m')) (hg : gOk g) : gX g g' ∧ gOk g' := by
  unfold bX2_init_0 at hF
  obtain ⟨h4, hF⟩ := ck_ok hF
  obtain ⟨g1, eg1, hF⟩ := vg_ok hF
  obtain ⟨m2, em2, hF⟩ := vm_ok hF
  obtain ⟨y3, ey3, hF⟩ := vv_ok hF
  have hG2 := gA_ok hg h4 eg1
  have hX2 := gA_X hg eg1
  exact gX2 hX2 (xX2_init_9 hF hG2)
set_option maxRecDepth 20000 in
theorem wX2_init_0 {p : Program} {l : Launch} {e : Env} {s : State} {mt : MethodId} {args : Array Value} {below : List Frame} {meth : Method} {c : Code} {Q : State → Prop} {G : Gl} {A : Nat → Prop} {H0 : Heap} {ad : Int → Nat} {g : Shp} {ad0 : Int → Nat} {g0 : Shp} {n0 t0 cells slots mc msl : Nat} (hnm : meth.name = "<init>") {H : Heap} {locs : List Loc} {ls : Array Slot} {m : Mem} {x0 : Int} (C : CallFix p mt c cX2_init 1 s args tb RX2) (S : Wd G A s H0 ad g m H locs) (hx0 : gk g x0 = 3) (hl : lv_has ls 1 [(0, .ref (ad x0))]) (hq : aX g0 ad0 ad ∧ gX g0 g) (hn : gn g = n0 + cells ∧ gs g = t0 + slots) {r : Int} {g' : Shp} {m' : Mem} (hF : bX2_init_0 x0 g m = some (r, g', m')) (he : gn g' ≤ n0 + mc ∧ gs g' ≤ t0 + msl) (Kr : ∀ (ad : Int → Nat) (H : Heap) (locs : List Loc) (pc : Nat) (ls : Array Slot) (cells slots : Nat), aX g0 ad0 ad → gn g' = n0 + cells ∧ gs g' = t0 + slots → Wd G A s H0 ad g' m' H locs → decode cX2_init pc = .ok (.return_, 1) → W p l e (rX2_init mc msl) s mt args below meth c H locs cells slots Q (F0 mt pc ls [])) : W p l e (rX2_init mc msl) s mt args below meth c H locs cells slots Q (F0 mt 0 ls []) := by
  have hXx := xX2_init_0 hF S.g
  have hle : cells ≤ mc ∧ slots ≤ msl := by
    have h1 := hXx.1.1
    have h2 := hXx.1.2.1
    omega
  unfold bX2_init_0 at hF
  refine q_aload_n C hl 0 rfl rfl dX2_init_0 ?_
  refine q_oinit C tw148 tw90 tw91 hl.1 (Nat.le_of_ble_eq_true rfl) (Nat.le_of_ble_eq_true rfl) dX2_init_1 ?_
  refine q_aload_n C hl 0 rfl rfl dX2_init_4 ?_
  refine q_bipush C 48 (by decide) dX2_init_5 ?_
  obtain ⟨h4, hF⟩ := ck_ok hF
  obtain ⟨g1, eg1, hF⟩ := vg_ok hF
  obtain ⟨m2, em2, hF⟩ := vm_ok hF
  obtain ⟨y3, ey3, hF⟩ := vv_ok hF
  have hG2 := gA_ok S.g h4 eg1
  have hX2 := gA_X S.g eg1
  have hN2 := gA_n eg1
  have hXr := (xX2_init_9 hF hG2).1
  refine q_newi C S rfl (Or.inl ⟨rfl, rfl, rfl⟩) tw113 h4 (by have h1 := hXr.1; have h2 := hXr.2.1; exact ⟨by show _ ≤ mc; omega, by show _ ≤ msl; omega⟩) eg1 em2 dX2_init_7 (fun ad5 H hax Sm2 => ?_)
  rw [← ey3]
  have ky3 := gA_k eg1 ey3
  have hq : aX g0 ad0 ad5 ∧ gX g0 g1 := ⟨hq.1.tr hq.2 hax, hq.2.tr hX2⟩
  have hn : gn g1 = n0 + (cells + 1) ∧ gs g1 = t0 + (slots + 48) := by omega
  have k6 := hX2.k hx0 (by decide)
  have ak6 : ad5 x0 = ad x0 := hax _ (kz hx0 (by decide))
  rw [← ak6] at hl
  rw [← ak6]
  exact wX2_init_9 hnm C Sm2 k6 k6 ky3 (lv_sub hl [0] rfl) hq hn hF he Kr
theorem xX2_init_f {x0 : Int} {g : Shp} {m : Mem} {r : Int} {g' : Shp} {m' : Mem} (hF : fX2_init x0 g m = some (r, g', m')) (hg : gOk g) : gX g g' ∧ gOk g' := xX2_init_0 hF hg
theorem cX2_init_ok (l : Launch) (G : Gl) {x0 : Int} {g : Shp} {m : Mem} {r : Int} {g' : Shp} {m' : Mem} (hx0 : gk g x0 = 3) (hF : fX2_init x0 g m = some (r, g', m')) : mVA l yX2_init (wT yX2_init cX2_init 1 none) rX2_init G (fun ad => [.ref (ad x0)]) g m g' m' :=
  met_vA (rm := rX2_init) (by decide) (fun ad => Nat.le_of_ble_eq_true rfl) (fun hg => (xX2_init_f hF hg).1) (fun p e s mt args below meth c Q A H0 H locs ad ls mc msl hmc hms C hnm S hl Kr => wX2_init_0 (n0 := gn g) (t0 := gs g) hnm C S hx0 hl ⟨fun _ _ => rfl, gX.rf _⟩ ⟨rfl, rfl⟩ hF (by have h9 := (xX2_init_f hF S.g).1; have h1 := h9.1; have h2 := h9.2.1; omega) Kr)
theorem xX0_init_70 {g : Shp} {m : Mem} {x0 x1 z0 z1 z2 : Int} {c1 : Int} {s1 : (Int × Shp × Mem)} (hF : bX0_init_70 x0 x1 z0 z1 z2 g m = some (c1, s1)) (hg : gOk g) : gX g s1.2.1 ∧ gOk s1.2.1 := by
  unfold bX0_init_70 at hF
  obtain ⟨i1, hF⟩ := ck_ok hF
  obtain ⟨m2, em2, hF⟩ := vm_ok hF
  obtain ⟨y3, ey3, hF⟩ := vv_ok hF
  cases hF
  exact ⟨gX.rf _, hg⟩
set_option maxRecDepth 20000 in
theorem wX0_init_70 {p : Program} {l : Launch} {e : Env} {s : State} {mt : MethodId} {args : Array Value} {below : List Frame} {meth : Method} {c : Code} {Q : State → Prop} {G : Gl} {A : Nat → Prop} {H0 : Heap} {ad : Int → Nat} {g : Shp} {ad0 : Int → Nat} {g0 : Shp} {n0 t0 cells slots mc msl : Nat} (hnm : meth.name = "<init>") {H : Heap} {locs : List Loc} {ls : Array Slot} {m : Mem} {x0 x1 z0 z1 z2 : Int} (C : CallFix p mt c cX0_init 2 s args tb RX0) (S : Wd G A s H0 ad g m H locs) (hx0 : gk g x0 = 1) (hx1 : r32 x1) (hz0 : gk g z0 = 26) (hz1 : r32 z1) (hz2 : gk g z2 = 3) (hl : lv_has ls 2 [(0, .ref (ad x0)), (1, .int (iI x1))]) (hq : aX g0 ad0 ad ∧ gX g0 g) (hn : gn g = n0 + cells ∧ gs g = t0 + slots) {c1 : Int} {s1 : (Int × Shp × Mem)} (hF : bX0_init_70 x0 x1 z0 z1 z2 g m = some (c1, s1)) (he : gn s1.2.1 ≤ n0 + mc ∧ gs s1.2.1 ≤ t0 + msl) (K0 : c1 = 0 → ∀ (ad : Int → Nat) (H : Heap) (locs : List Loc) (ls : Array Slot) (cells slots : Nat), aX g0 ad0 ad ∧ gX g0 s1.2.1 → gn s1.2.1 = n0 + cells ∧ gs s1.2.1 = t0 + slots → gk s1.2.1 x0 = 1 → r32 s1.1 → Wd G A s H0 ad s1.2.1 s1.2.2 H locs → lv_has ls 2 [(0, .ref (ad x0)), (1, .int (iI s1.1))] → W p l e (rX0_init mc msl) s mt args below meth c H locs cells slots Q (F0 mt 49 ls [])) (K1 : c1 = 1 → ∀ (ad : Int → Nat) (H : Heap) (locs : List Loc) (ls : Array Slot) (cells slots : Nat), aX g0 ad0 ad ∧ gX g0 s1.2.1 → gn s1.2.1 = n0 + cells ∧ gs s1.2.1 = t0 + slots → Wd G A s H0 ad s1.2.1 s1.2.2 H locs → lv_has ls 2 [] → W p l e (rX0_init mc msl) s mt args below meth c H locs cells slots Q (F0 mt 77 ls [])) : W p l e (rX0_init mc msl) s mt args below meth c H locs cells slots Q (F0 mt 70 ls [.ref (ad z2), .int (iI z1), .ref (ad z0)]) := by
  have hXx := xX0_init_70 hF S.g
  have hle : cells ≤ mc ∧ slots ≤ msl := by
    have h1 := hXx.1.1
    have h2 := hXx.1.2.1
    omega
  unfold bX0_init_70 at hF
  obtain ⟨i1, hF⟩ := ck_ok hF
  obtain ⟨m2, em2, hF⟩ := vm_ok hF
  refine q_aast C S hz0 (by decide) i1 hz2 ⟨by decide, rfl⟩ rfl (S.k hz2 (by decide)) em2 dX0_init_70 (fun H locs Sm2 => ?_)
  obtain ⟨y3, ey3, hF⟩ := vv_ok hF
  have ry3 : r32 y3 := ey3 ▸ r32_w _
  refine q_iinc C hl 1 [(1, .int (iI y3)), (0, .ref (ad x0))] rfl ey3 (by decide) rfl dX0_init_71 (fun ls hl => ?_)
  refine q_goto C 49 dX0_init_74 (by decide) ?_
  cases hF
  exact K0 rfl _ _ _ _ _ _ hq hn hx0 ry3 Sm2 (lv_sub hl [1, 0] rfl)
theorem xX0_init_66 {g : Shp} {m : Mem} {x0 x1 z0 z1 z2 : Int} {c1 : Int} {s1 : (Int × Shp × Mem)} (hF : bX0_init_66 x0 x1 z0 z1 z2 g m = some (c1, s1)) (hg : gOk g) : gX g s1.2.1 ∧ gOk s1.2.1 := by
  unfold bX0_init_66 at hF
  obtain ⟨v1, g2, m3, h4, hF⟩ := bd3_ok hF
  have hX3 := xX2_init_f h4 hg
  have hG2 := hX3.2
  have hX2 := hX3.1
  exact gX2 hX2 (xX0_init_70 hF hG2)
set_option maxRecDepth 20000 in
theorem wX0_init_66 {p : Program} {l : Launch} {e : Env} {s : State} {mt : MethodId} {args : Array Value} {below : List Frame} {meth : Method} {c : Code} {Q : State → Prop} {G : Gl} {A : Nat → Prop} {H0 : Heap} {ad : Int → Nat} {g : Shp} {ad0 : Int → Nat} {g0 : Shp} {n0 t0 cells slots mc msl : Nat} (hnm : meth.name = "<init>") {H : Heap} {locs : List Loc} {ls : Array Slot} {m : Mem} {x0 x1 z0 z1 z2 : Int} (C : CallFix p mt c cX0_init 2 s args tb RX0) (S : Wd G A s H0 ad g m H locs) (hx0 : gk g x0 = 1) (hx1 : r32 x1) (hz0 : gk g z0 = 26) (hz1 : r32 z1) (hz2 : gk g z2 = 3) (hl : lv_has ls 2 [(0, .ref (ad x0)), (1, .int (iI x1))]) (hq : aX g0 ad0 ad ∧ gX g0 g) (hn : gn g = n0 + cells ∧ gs g = t0 + slots) {c1 : Int} {s1 : (Int × Shp × Mem)} (hF : bX0_init_66 x0 x1 z0 z1 z2 g m = some (c1, s1)) (he : gn s1.2.1 ≤ n0 + mc ∧ gs s1.2.1 ≤ t0 + msl) (K0 : c1 = 0 → ∀ (ad : Int → Nat) (H : Heap) (locs : List Loc) (ls : Array Slot) (cells slots : Nat), aX g0 ad0 ad ∧ gX g0 s1.2.1 → gn s1.2.1 = n0 + cells ∧ gs s1.2.1 = t0 + slots → gk s1.2.1 x0 = 1 → r32 s1.1 → Wd G A s H0 ad s1.2.1 s1.2.2 H locs → lv_has ls 2 [(0, .ref (ad x0)), (1, .int (iI s1.1))] → W p l e (rX0_init mc msl) s mt args below meth c H locs cells slots Q (F0 mt 49 ls [])) (K1 : c1 = 1 → ∀ (ad : Int → Nat) (H : Heap) (locs : List Loc) (ls : Array Slot) (cells slots : Nat), aX g0 ad0 ad ∧ gX g0 s1.2.1 → gn s1.2.1 = n0 + cells ∧ gs s1.2.1 = t0 + slots → Wd G A s H0 ad s1.2.1 s1.2.2 H locs → lv_has ls 2 [] → W p l e (rX0_init mc msl) s mt args below meth c H locs cells slots Q (F0 mt 77 ls [])) : W p l e (rX0_init mc msl) s mt args below meth c H locs cells slots Q (F0 mt 66 ls [.ref (ad z2), .int (iI z1), .ref (ad z0)]) := by
  have hXx := xX0_init_66 hF S.g
  have hle : cells ≤ mc ∧ slots ≤ msl := by
    have h1 := hXx.1.1
    have h2 := hXx.1.2.1
    omega
  unfold bX0_init_66 at hF
  refine q_dup C rfl dX0_init_66 ?_
  obtain ⟨v1, g2, m3, h4, hF⟩ := bd3_ok hF
  have hX3 := xX2_init_f h4 S.g
  have hG2 := hX3.2
  have hX2 := hX3.1
  have hXr := (xX0_init_70 hF hG2).1
  refine q_cvA S (run_IN (As := []) (rest := [.ref (ad z2), .int (iI z1), .ref (ad z0)]) C S (cX2_init_ok l G hz2 h4 ad _) (host := "StoneFloors") (by decide) tw147 tw68 tw146 rfl hd_X2_init rfl ⟨rfl, rfl, (Nat.le_of_ble_eq_true rfl), (Nat.le_of_ble_eq_true rfl)⟩ (by have h1 := hXr.1; have h2 := hXr.2.1; have h3 := hX2.1; have h4 := hX2.2.1; exact ⟨by show _ ≤ mc; omega, by show _ ≤ msl; omega⟩) hl.1 rfl (Nat.le_of_ble_eq_true rfl) dX0_init_67) (fun ad5 H locs hax Sm3 => ?_)
  have hq : aX g0 ad0 ad5 ∧ gX g0 g2 := ⟨hq.1.tr hq.2 hax, hq.2.tr hX2⟩
  have hn : gn g2 = n0 + (cells + (gn g2 - gn g)) ∧ gs g2 = t0 + (slots + (gs g2 - gs g)) := by have h3 := hX2.1; have h4 := hX2.2.1; omega
  have k6 := hX2.k hx0 (by decide)
  have ak6 : ad5 x0 = ad x0 := hax _ (kz hx0 (by decide))
  rw [← ak6] at hl
  have k7 := hX2.k hz0 (by decide)
  have ak7 : ad5 z0 = ad z0 := hax _ (kz hz0 (by decide))
  have k8 := hX2.k hz2 (by decide)
  have ak8 : ad5 z2 = ad z2 := hax _ (kz hz2 (by decide))
  rw [← ak7]
  rw [← ak8]
  exact wX0_init_70 hnm C Sm3 k6 hx1 k7 hz1 k8 (lv_sub hl [0, 1] rfl) hq hn hF he K0 K1
theorem xX0_init_49 {g : Shp} {m : Mem} {x0 x1 : Int} {c1 : Int} {s1 : (Int × Shp × Mem)} (hF : bX0_init_49 x0 x1 g m = some (c1, s1)) (hg : gOk g) : gX g s1.2.1 ∧ gOk s1.2.1 := by
  unfold bX0_init_49 at hF
  obtain ⟨k1, hF⟩ := ck_ok hF
  by_cases hc2 : (gl g (m x0 1)) ≤ x1
  · have hF := if_t hc2 hF
    cases hF
    exact ⟨gX.rf _, hg⟩
  · have hF := if_f hc2 hF
    obtain ⟨h6, hF⟩ := ck_ok hF
    obtain ⟨g3, eg3, hF⟩ := vg_ok hF
    obtain ⟨m4, em4, hF⟩ := vm_ok hF
    obtain ⟨y5, ey5, hF⟩ := vv_ok hF
    have hG2 := gA_ok hg h6 eg3
    have hX2 := gA_X hg eg3
    exact gX2 hX2 (xX0_init_66 hF hG2)
set_option maxRecDepth 20000 in
theorem wX0_init_49 {p : Program} {l : Launch} {e : Env} {s : State} {mt : MethodId} {args : Array Value} {below : List Frame} {meth : Method} {c : Code} {Q : State → Prop} {G : Gl} {A : Nat → Prop} {H0 : Heap} {ad : Int → Nat} {g : Shp} {ad0 : Int → Nat} {g0 : Shp} {n0 t0 cells slots mc msl : Nat} (hnm : meth.name = "<init>") {H : Heap} {locs : List Loc} {ls : Array Slot} {m : Mem} {x0 x1 : Int} (C : CallFix p mt c cX0_init 2 s args tb RX0) (S : Wd G A s H0 ad g m H locs) (hx0 : gk g x0 = 1) (hx1 : r32 x1) (hl : lv_has ls 2 [(0, .ref (ad x0)), (1, .int (iI x1))]) (hq : aX g0 ad0 ad ∧ gX g0 g) (hn : gn g = n0 + cells ∧ gs g = t0 + slots) {c1 : Int} {s1 : (Int × Shp × Mem)} (hF : bX0_init_49 x0 x1 g m = some (c1, s1)) (he : gn s1.2.1 ≤ n0 + mc ∧ gs s1.2.1 ≤ t0 + msl) (K0 : c1 = 0 → ∀ (ad : Int → Nat) (H : Heap) (locs : List Loc) (ls : Array Slot) (cells slots : Nat), aX g0 ad0 ad ∧ gX g0 s1.2.1 → gn s1.2.1 = n0 + cells ∧ gs s1.2.1 = t0 + slots → gk s1.2.1 x0 = 1 → r32 s1.1 → Wd G A s H0 ad s1.2.1 s1.2.2 H locs → lv_has ls 2 [(0, .ref (ad x0)), (1, .int (iI s1.1))] → W p l e (rX0_init mc msl) s mt args below meth c H locs cells slots Q (F0 mt 49 ls [])) (K1 : c1 = 1 → ∀ (ad : Int → Nat) (H : Heap) (locs : List Loc) (ls : Array Slot) (cells slots : Nat), aX g0 ad0 ad ∧ gX g0 s1.2.1 → gn s1.2.1 = n0 + cells ∧ gs s1.2.1 = t0 + slots → Wd G A s H0 ad s1.2.1 s1.2.2 H locs → lv_has ls 2 [] → W p l e (rX0_init mc msl) s mt args below meth c H locs cells slots Q (F0 mt 77 ls [])) : W p l e (rX0_init mc msl) s mt args below meth c H locs cells slots Q (F0 mt 49 ls []) := by
  have hXx := xX0_init_49 hF S.g
  have hle : cells ≤ mc ∧ slots ≤ msl := by
    have h1 := hXx.1.1
    have h2 := hXx.1.2.1
    omega
  unfold bX0_init_49 at hF
  refine q_iload_n C hl 1 rfl rfl dX0_init_49 ?_
  refine q_aload_n C hl 0 rfl rfl dX0_init_50 ?_
  obtain ⟨k1, hF⟩ := ck_ok hF
  refine q_getr C S 1 fo_RX0_20 (j := 1) rfl rfl hx0 k1 (by decide) dX0_init_51 ?_
  refine q_alen C S k1 (by decide) dX0_init_54 ?_
  refine q_icmp_ge C hx1 (S.l _) 77 dX0_init_55 (by decide) (fun hc2 => ?_) (fun hc2 => ?_)
  · have hF := if_t hc2 hF
    cases hF
    exact K1 rfl _ _ _ _ _ _ hq hn  S (lv_sub hl [] rfl)
  · have hF := if_f hc2 hF
    refine q_aload_n C hl 0 rfl rfl dX0_init_58 ?_
    refine q_getr C S 1 fo_RX0_20 (j := 1) rfl rfl hx0 k1 (by decide) dX0_init_59 ?_
    refine q_iload_n C hl 1 rfl rfl dX0_init_62 ?_
    obtain ⟨h6, hF⟩ := ck_ok hF
    obtain ⟨g3, eg3, hF⟩ := vg_ok hF
    obtain ⟨m4, em4, hF⟩ := vm_ok hF
    obtain ⟨y5, ey5, hF⟩ := vv_ok hF
    have hG2 := gA_ok S.g h6 eg3
    have hX2 := gA_X S.g eg3
    have hN2 := gA_n eg3
    have hXr := (xX0_init_66 hF hG2).1
    refine q_new C S nk_RX0_18 h6 (by have h1 := hXr.1; have h2 := hXr.2.1; exact ⟨by show _ ≤ mc; omega, by show _ ≤ msl; omega⟩) eg3 em4 dX0_init_63 (fun ad7 H hax Sm4 => ?_)
    rw [← ey5]
    have ky5 := gA_k eg3 ey5
    have hq : aX g0 ad0 ad7 ∧ gX g0 g3 := ⟨hq.1.tr hq.2 hax, hq.2.tr hX2⟩
    have hn : gn g3 = n0 + (cells + 1) ∧ gs g3 = t0 + (slots + 4) := by omega
    have k8 := hX2.k hx0 (by decide)
    have ak8 : ad7 x0 = ad x0 := hax _ (kz hx0 (by decide))
    rw [← ak8] at hl
    have k9 := hX2.k k1 (by decide)
    have ak9 : ad7 (m x0 1) = ad (m x0 1) := hax _ (kz k1 (by decide))
    rw [← ak9]
    exact wX0_init_66 hnm C Sm4 k8 hx1 k9 hx1 ky5 (lv_sub hl [0, 1] rfl) hq hn hF he K0 K1
theorem yX0_init_49 {x0 : Int} {n : Nat} {s0 s1 : (Int × Shp × Mem)} {c1 : Int} (hI : iter (BX0_init_49 x0) n s0 = some (c1, s1)) (hg : gOk s0.2.1) : gX s0.2.1 s1.2.1 ∧ gOk s1.2.1 :=
  iter_gX (B := BX0_init_49 x0) (fun q => q.2.1) (fun s c s' hB hg => xX0_init_49 hB hg) n s0 c1 s1 hI hg
set_option maxRecDepth 20000 in
theorem lX0_init_49 {p : Program} {l : Launch} {e : Env} {s : State} {mt : MethodId} {args : Array Value} {below : List Frame} {meth : Method} {c : Code} {Q : State → Prop} {G : Gl} {A : Nat → Prop} {H0 : Heap} {ad0 : Int → Nat} {g0 : Shp} {n0 t0 mc msl : Nat} (hnm : meth.name = "<init>") {x0 : Int} (C : CallFix p mt c cX0_init 2 s args tb RX0)  {n : Nat} {s0 s1 : (Int × Shp × Mem)} {c1 : Int} (hI : iter (BX0_init_49 x0) n s0 = some (c1, s1)) (he : gn s1.2.1 ≤ n0 + mc ∧ gs s1.2.1 ≤ t0 + msl) (K1 : c1 = 1 → ∀ (ad : Int → Nat) (H : Heap) (locs : List Loc) (ls : Array Slot) (cells slots : Nat), aX g0 ad0 ad ∧ gX g0 s1.2.1 → gn s1.2.1 = n0 + cells ∧ gs s1.2.1 = t0 + slots → Wd G A s H0 ad s1.2.1 s1.2.2 H locs → lv_has ls 2 [] → W p l e (rX0_init mc msl) s mt args below meth c H locs cells slots Q (F0 mt 77 ls [])) : ∀ (ad : Int → Nat) (H : Heap) (locs : List Loc) (ls : Array Slot) (cells slots : Nat), aX g0 ad0 ad ∧ gX g0 s0.2.1 → gn s0.2.1 = n0 + cells ∧ gs s0.2.1 = t0 + slots → gk s0.2.1 x0 = 1 → r32 s0.1 → Wd G A s H0 ad s0.2.1 s0.2.2 H locs → lv_has ls 2 [(0, .ref (ad x0)), (1, .int (iI s0.1))] → W p l e (rX0_init mc msl) s mt args below meth c H locs cells slots Q (F0 mt 49 ls []) := by
  refine iter_WA (Pw := fun q => ∀ (ad : Int → Nat) (H : Heap) (locs : List Loc) (ls : Array Slot) (cells slots : Nat), aX g0 ad0 ad ∧ gX g0 q.2.1 → gn q.2.1 = n0 + cells ∧ gs q.2.1 = t0 + slots → gk q.2.1 x0 = 1 → r32 q.1 → Wd G A s H0 ad q.2.1 q.2.2 H locs → lv_has ls 2 [(0, .ref (ad x0)), (1, .int (iI q.1))] → W p l e (rX0_init mc msl) s mt args below meth c H locs cells slots Q (F0 mt 49 ls [])) (Px := fun c0 q => (c0 = 1 → ∀ (ad : Int → Nat) (H : Heap) (locs : List Loc) (ls : Array Slot) (cells slots : Nat), aX g0 ad0 ad ∧ gX g0 q.2.1 → gn q.2.1 = n0 + cells ∧ gs q.2.1 = t0 + slots → Wd G A s H0 ad q.2.1 q.2.2 H locs → lv_has ls 2 [] → W p l e (rX0_init mc msl) s mt args below meth c H locs cells slots Q (F0 mt 77 ls []))) ?_ _ _ hI K1
  intro n s c s' hB hR K0 kx ad H locs ls cells slots hq hn f0 f1 S hl
  have hX1 := xX0_init_49 hB S.g
  have hX2 : gn s'.2.1 ≤ gn s1.2.1 ∧ gs s'.2.1 ≤ gs s1.2.1 := by
    rcases hR with ⟨_, h2⟩ | ⟨_, h2, _⟩
    · have h3 := (yX0_init_49 h2 hX1.2).1
      exact ⟨h3.1, h3.2.1⟩
    · rw [h2]; exact ⟨Nat.le_refl _, Nat.le_refl _⟩
  exact wX0_init_49 hnm C S f0 f1 hl hq hn hB (by omega) K0 (fun h9 => (kx (by rw [h9]; decide)) h9)
theorem xX0_init_77 {g : Shp} {m : Mem} {r : Int} {g' : Shp} {m' : Mem} (hF : bX0_init_77 g m = some (r, g', m')) (hg : gOk g) : gX g g' ∧ gOk g' := by
  unfold bX0_init_77 at hF
  cases hF
  exact ⟨gX.rf _, hg⟩
set_option maxRecDepth 20000 in
theorem wX0_init_77 {p : Program} {l : Launch} {e : Env} {s : State} {mt : MethodId} {args : Array Value} {below : List Frame} {meth : Method} {c : Code} {Q : State → Prop} {G : Gl} {A : Nat → Prop} {H0 : Heap} {ad : Int → Nat} {g : Shp} {ad0 : Int → Nat} {g0 : Shp} {n0 t0 cells slots mc msl : Nat} (hnm : meth.name = "<init>") {H : Heap} {locs : List Loc} {ls : Array Slot} {m : Mem} (C : CallFix p mt c cX0_init 2 s args tb RX0) (S : Wd G A s H0 ad g m H locs)  (hl : lv_has ls 2 []) (hq : aX g0 ad0 ad ∧ gX g0 g) (hn : gn g = n0 + cells ∧ gs g = t0 + slots) {r : Int} {g' : Shp} {m' : Mem} (hF : bX0_init_77 g m = some (r, g', m')) (he : gn g' ≤ n0 + mc ∧ gs g' ≤ t0 + msl) (Kr : ∀ (ad : Int → Nat) (H : Heap) (locs : List Loc) (pc : Nat) (ls : Array Slot) (cells slots : Nat), aX g0 ad0 ad → gn g' = n0 + cells ∧ gs g' = t0 + slots → Wd G A s H0 ad g' m' H locs → decode cX0_init pc = .ok (.return_, 1) → W p l e (rX0_init mc msl) s mt args below meth c H locs cells slots Q (F0 mt pc ls [])) : W p l e (rX0_init mc msl) s mt args below meth c H locs cells slots Q (F0 mt 77 ls []) := by
  have hXx := xX0_init_77 hF S.g
  have hle : cells ≤ mc ∧ slots ≤ msl := by
    have h1 := hXx.1.1
    have h2 := hXx.1.2.1
    omega
  unfold bX0_init_77 at hF
  cases hF
  exact Kr _ _ _ _ _ _ _ hq.1 hn S dX0_init_77
theorem xX0_init_44 {g : Shp} {m : Mem} {x0 z0 z1 : Int} {r : Int} {g' : Shp} {m' : Mem} (hF : bX0_init_44 x0 z0 z1 g m = some (r, g', m')) (hg : gOk g) : gX g g' ∧ gOk g' := by
  unfold bX0_init_44 at hF
  obtain ⟨m1, em1, hF⟩ := vm_ok hF
  obtain ⟨cv2, sv3, hi4, hF⟩ := bdl_ok hF
  have hy := yX0_init_49 hi4 hg
  exact gX2 hy.1 (xX0_init_77 hF hy.2)
set_option maxRecDepth 20000 in
theorem wX0_init_44 {p : Program} {l : Launch} {e : Env} {s : State} {mt : MethodId} {args : Array Value} {below : List Frame} {meth : Method} {c : Code} {Q : State → Prop} {G : Gl} {A : Nat → Prop} {H0 : Heap} {ad : Int → Nat} {g : Shp} {ad0 : Int → Nat} {g0 : Shp} {n0 t0 cells slots mc msl : Nat} (hnm : meth.name = "<init>") {H : Heap} {locs : List Loc} {ls : Array Slot} {m : Mem} {x0 z0 z1 : Int} (C : CallFix p mt c cX0_init 2 s args tb RX0) (S : Wd G A s H0 ad g m H locs) (hx0 : gk g x0 = 1) (hz0 : gk g z0 = 1) (hz1 : gk g z1 = 20) (hl : lv_has ls 2 [(0, .ref (ad x0))]) (hq : aX g0 ad0 ad ∧ gX g0 g) (hn : gn g = n0 + cells ∧ gs g = t0 + slots) {r : Int} {g' : Shp} {m' : Mem} (hF : bX0_init_44 x0 z0 z1 g m = some (r, g', m')) (he : gn g' ≤ n0 + mc ∧ gs g' ≤ t0 + msl) (Kr : ∀ (ad : Int → Nat) (H : Heap) (locs : List Loc) (pc : Nat) (ls : Array Slot) (cells slots : Nat), aX g0 ad0 ad → gn g' = n0 + cells ∧ gs g' = t0 + slots → Wd G A s H0 ad g' m' H locs → decode cX0_init pc = .ok (.return_, 1) → W p l e (rX0_init mc msl) s mt args below meth c H locs cells slots Q (F0 mt pc ls [])) : W p l e (rX0_init mc msl) s mt args below meth c H locs cells slots Q (F0 mt 44 ls [.ref (ad z1), .ref (ad z0)]) := by
  have hXx := xX0_init_44 hF S.g
  have hle : cells ≤ mc ∧ slots ≤ msl := by
    have h1 := hXx.1.1
    have h2 := hXx.1.2.1
    omega
  unfold bX0_init_44 at hF
  obtain ⟨m1, em1, hF⟩ := vm_ok hF
  refine q_put C S 4 fo_RX0_31 fp_1_4 (fun _ => ⟨hnm, rfl⟩) (j := 4) rfl hz0 (orf_ok S hz1 (by decide) rfl) rfl rfl (S.k hz1 (by decide)) (fun _ => kz hz1 (by decide)) em1 dX0_init_44 (fun H locs Sm1 => ?_)
  refine q_iconst C 0 dX0_init_47 ?_
  refine q_istore_n C hl [(1, .int (iI 0)), (0, .ref (ad x0))] rfl rfl (by decide) rfl dX0_init_48 (fun ls hl => ?_)
  obtain ⟨cv2, sv3, hi4, hF⟩ := bdl_ok hF
  have hy := yX0_init_49 hi4 Sm1.g
  have hXr := (xX0_init_77 hF hy.2).1
  refine lX0_init_49 hnm C hi4 (by have h1 := hXr.1; have h2 := hXr.2.1; omega) ?_ _ _ _ _ _ _ hq hn hx0 (rl 0 rfl) Sm1 (lv_sub hl [1, 0] rfl)
  intro _ ad H locs ls cells slots hq hn  S5 hl
  exact wX0_init_77 hnm C S5  (lv_sub hl [] rfl) hq hn hF he Kr
theorem xX0_init_37 {g : Shp} {m : Mem} {x0 z0 z1 : Int} {r : Int} {g' : Shp} {m' : Mem} (hF : bX0_init_37 x0 z0 z1 g m = some (r, g', m')) (hg : gOk g) : gX g g' ∧ gOk g' := by
  unfold bX0_init_37 at hF
  obtain ⟨m1, em1, hF⟩ := vm_ok hF
  obtain ⟨h5, hF⟩ := ck_ok hF
  obtain ⟨g2, eg2, hF⟩ := vg_ok hF
  obtain ⟨m3, em3, hF⟩ := vm_ok hF
  obtain ⟨y4, ey4, hF⟩ := vv_ok hF
  have hG2 := gA_ok hg h5 eg2
  have hX2 := gA_X hg eg2
  exact gX2 hX2 (xX0_init_44 hF hG2)
set_option maxRecDepth 20000 in
theorem wX0_init_37 {p : Program} {l : Launch} {e : Env} {s : State} {mt : MethodId} {args : Array Value} {below : List Frame} {meth : Method} {c : Code} {Q : State → Prop} {G : Gl} {A : Nat → Prop} {H0 : Heap} {ad : Int → Nat} {g : Shp} {ad0 : Int → Nat} {g0 : Shp} {n0 t0 cells slots mc msl : Nat} (hnm : meth.name = "<init>") {H : Heap} {locs : List Loc} {ls : Array Slot} {m : Mem} {x0 z0 z1 : Int} (C : CallFix p mt c cX0_init 2 s args tb RX0) (S : Wd G A s H0 ad g m H locs) (hx0 : gk g x0 = 1) (hz0 : gk g z0 = 1) (hz1 : gk g z1 = 20) (hl : lv_has ls 2 [(0, .ref (ad x0))]) (hq : aX g0 ad0 ad ∧ gX g0 g) (hn : gn g = n0 + cells ∧ gs g = t0 + slots) {r : Int} {g' : Shp} {m' : Mem} (hF : bX0_init_37 x0 z0 z1 g m = some (r, g', m')) (he : gn g' ≤ n0 + mc ∧ gs g' ≤ t0 + msl) (Kr : ∀ (ad : Int → Nat) (H : Heap) (locs : List Loc) (pc : Nat) (ls : Array Slot) (cells slots : Nat), aX g0 ad0 ad → gn g' = n0 + cells ∧ gs g' = t0 + slots → Wd G A s H0 ad g' m' H locs → decode cX0_init pc = .ok (.return_, 1) → W p l e (rX0_init mc msl) s mt args below meth c H locs cells slots Q (F0 mt pc ls [])) : W p l e (rX0_init mc msl) s mt args below meth c H locs cells slots Q (F0 mt 37 ls [.ref (ad z1), .ref (ad z0)]) := by
  have hXx := xX0_init_37 hF S.g
  have hle : cells ≤ mc ∧ slots ≤ msl := by
    have h1 := hXx.1.1
    have h2 := hXx.1.2.1
    omega
  unfold bX0_init_37 at hF
  obtain ⟨m1, em1, hF⟩ := vm_ok hF
  refine q_put C S 3 fo_RX0_28 fp_1_3 (fun _ => ⟨hnm, rfl⟩) (j := 3) rfl hz0 (orf_ok S hz1 (by decide) rfl) rfl rfl (S.k hz1 (by decide)) (fun _ => kz hz1 (by decide)) em1 dX0_init_37 (fun H locs Sm1 => ?_)
  refine q_aload_n C hl 0 rfl rfl dX0_init_40 ?_
  refine q_iconst C 3 dX0_init_41 ?_
  obtain ⟨h5, hF⟩ := ck_ok hF
  obtain ⟨g2, eg2, hF⟩ := vg_ok hF
  obtain ⟨m3, em3, hF⟩ := vm_ok hF
  obtain ⟨y4, ey4, hF⟩ := vv_ok hF
  have hG2 := gA_ok Sm1.g h5 eg2
  have hX2 := gA_X Sm1.g eg2
  have hN2 := gA_n eg2
  have hXr := (xX0_init_44 hF hG2).1
  refine q_newi C Sm1 rfl (Or.inl ⟨rfl, rfl, rfl⟩) tw113 h5 (by have h1 := hXr.1; have h2 := hXr.2.1; exact ⟨by show _ ≤ mc; omega, by show _ ≤ msl; omega⟩) eg2 em3 dX0_init_42 (fun ad6 H hax Sm3 => ?_)
  rw [← ey4]
  have ky4 := gA_k eg2 ey4
  have hq : aX g0 ad0 ad6 ∧ gX g0 g2 := ⟨hq.1.tr hq.2 hax, hq.2.tr hX2⟩
  have hn : gn g2 = n0 + (cells + 1) ∧ gs g2 = t0 + (slots + 3) := by omega
  have k7 := hX2.k hx0 (by decide)
  have ak7 : ad6 x0 = ad x0 := hax _ (kz hx0 (by decide))
  rw [← ak7] at hl
  rw [← ak7]
  exact wX0_init_44 hnm C Sm3 k7 k7 ky4 (lv_sub hl [0] rfl) hq hn hF he Kr
theorem xX0_init_30 {g : Shp} {m : Mem} {x0 z0 z1 : Int} {r : Int} {g' : Shp} {m' : Mem} (hF : bX0_init_30 x0 z0 z1 g m = some (r, g', m')) (hg : gOk g) : gX g g' ∧ gOk g' := by
  unfold bX0_init_30 at hF
  obtain ⟨m1, em1, hF⟩ := vm_ok hF
  obtain ⟨h5, hF⟩ := ck_ok hF
  obtain ⟨g2, eg2, hF⟩ := vg_ok hF
  obtain ⟨m3, em3, hF⟩ := vm_ok hF
  obtain ⟨y4, ey4, hF⟩ := vv_ok hF
  have hG2 := gA_ok hg h5 eg2
  have hX2 := gA_X hg eg2
  exact gX2 hX2 (xX0_init_37 hF hG2)
set_option maxRecDepth 20000 in
theorem wX0_init_30 {p : Program} {l : Launch} {e : Env} {s : State} {mt : MethodId} {args : Array Value} {below : List Frame} {meth : Method} {c : Code} {Q : State → Prop} {G : Gl} {A : Nat → Prop} {H0 : Heap} {ad : Int → Nat} {g : Shp} {ad0 : Int → Nat} {g0 : Shp} {n0 t0 cells slots mc msl : Nat} (hnm : meth.name = "<init>") {H : Heap} {locs : List Loc} {ls : Array Slot} {m : Mem} {x0 z0 z1 : Int} (C : CallFix p mt c cX0_init 2 s args tb RX0) (S : Wd G A s H0 ad g m H locs) (hx0 : gk g x0 = 1) (hz0 : gk g z0 = 1) (hz1 : gk g z1 = 20) (hl : lv_has ls 2 [(0, .ref (ad x0))]) (hq : aX g0 ad0 ad ∧ gX g0 g) (hn : gn g = n0 + cells ∧ gs g = t0 + slots) {r : Int} {g' : Shp} {m' : Mem} (hF : bX0_init_30 x0 z0 z1 g m = some (r, g', m')) (he : gn g' ≤ n0 + mc ∧ gs g' ≤ t0 + msl) (Kr : ∀ (ad : Int → Nat) (H : Heap) (locs : List Loc) (pc : Nat) (ls : Array Slot) (cells slots : Nat), aX g0 ad0 ad → gn g' = n0 + cells ∧ gs g' = t0 + slots → Wd G A s H0 ad g' m' H locs → decode cX0_init pc = .ok (.return_, 1) → W p l e (rX0_init mc msl) s mt args below meth c H locs cells slots Q (F0 mt pc ls [])) : W p l e (rX0_init mc msl) s mt args below meth c H locs cells slots Q (F0 mt 30 ls [.ref (ad z1), .ref (ad z0)]) := by
  have hXx := xX0_init_30 hF S.g
  have hle : cells ≤ mc ∧ slots ≤ msl := by
    have h1 := hXx.1.1
    have h2 := hXx.1.2.1
    omega
  unfold bX0_init_30 at hF
  obtain ⟨m1, em1, hF⟩ := vm_ok hF
  refine q_put C S 2 fo_RX0_24 fp_1_2 (fun h9 => absurd h9 (by decide)) (j := 2) rfl hz0 (orf_ok S hz1 (by decide) rfl) rfl rfl (S.k hz1 (by decide)) (fun _ => kz hz1 (by decide)) em1 dX0_init_30 (fun H locs Sm1 => ?_)
  refine q_aload_n C hl 0 rfl rfl dX0_init_33 ?_
  refine q_iconst C 3 dX0_init_34 ?_
  obtain ⟨h5, hF⟩ := ck_ok hF
  obtain ⟨g2, eg2, hF⟩ := vg_ok hF
  obtain ⟨m3, em3, hF⟩ := vm_ok hF
  obtain ⟨y4, ey4, hF⟩ := vv_ok hF
  have hG2 := gA_ok Sm1.g h5 eg2
  have hX2 := gA_X Sm1.g eg2
  have hN2 := gA_n eg2
  have hXr := (xX0_init_37 hF hG2).1
  refine q_newi C Sm1 rfl (Or.inl ⟨rfl, rfl, rfl⟩) tw113 h5 (by have h1 := hXr.1; have h2 := hXr.2.1; exact ⟨by show _ ≤ mc; omega, by show _ ≤ msl; omega⟩) eg2 em3 dX0_init_35 (fun ad6 H hax Sm3 => ?_)
  rw [← ey4]
  have ky4 := gA_k eg2 ey4
  have hq : aX g0 ad0 ad6 ∧ gX g0 g2 := ⟨hq.1.tr hq.2 hax, hq.2.tr hX2⟩
  have hn : gn g2 = n0 + (cells + 1) ∧ gs g2 = t0 + (slots + 3) := by omega
  have k7 := hX2.k hx0 (by decide)
  have ak7 : ad6 x0 = ad x0 := hax _ (kz hx0 (by decide))
  rw [← ak7] at hl
  rw [← ak7]
  exact wX0_init_37 hnm C Sm3 k7 k7 ky4 (lv_sub hl [0] rfl) hq hn hF he Kr
theorem xX0_init_21 {g : Shp} {m : Mem} {x0 z0 z1 : Int} {r : Int} {g' : Shp} {m' : Mem} (hF : bX0_init_21 x0 z0 z1 g m = some (r, g', m')) (hg : gOk g) : gX g g' ∧ gOk g' := by
  unfold bX0_init_21 at hF
  obtain ⟨m1, em1, hF⟩ := vm_ok hF
  obtain ⟨h5, hF⟩ := ck_ok hF
  obtain ⟨g2, eg2, hF⟩ := vg_ok hF
  obtain ⟨m3, em3, hF⟩ := vm_ok hF
  obtain ⟨y4, ey4, hF⟩ := vv_ok hF
  have hG2 := gA_ok hg h5 eg2
  have hX2 := gA_X hg eg2
  exact gX2 hX2 (xX0_init_30 hF hG2)
set_option maxRecDepth 20000 in
theorem wX0_init_21 {p : Program} {l : Launch} {e : Env} {s : State} {mt : MethodId} {args : Array Value} {below : List Frame} {meth : Method} {c : Code} {Q : State → Prop} {G : Gl} {A : Nat → Prop} {H0 : Heap} {ad : Int → Nat} {g : Shp} {ad0 : Int → Nat} {g0 : Shp} {n0 t0 cells slots mc msl : Nat} (hnm : meth.name = "<init>") {H : Heap} {locs : List Loc} {ls : Array Slot} {m : Mem} {x0 z0 z1 : Int} (C : CallFix p mt c cX0_init 2 s args tb RX0) (S : Wd G A s H0 ad g m H locs) (hx0 : gk g x0 = 1) (hz0 : gk g z0 = 1) (hz1 : gk g z1 = 26) (hl : lv_has ls 2 [(0, .ref (ad x0))]) (hq : aX g0 ad0 ad ∧ gX g0 g) (hn : gn g = n0 + cells ∧ gs g = t0 + slots) {r : Int} {g' : Shp} {m' : Mem} (hF : bX0_init_21 x0 z0 z1 g m = some (r, g', m')) (he : gn g' ≤ n0 + mc ∧ gs g' ≤ t0 + msl) (Kr : ∀ (ad : Int → Nat) (H : Heap) (locs : List Loc) (pc : Nat) (ls : Array Slot) (cells slots : Nat), aX g0 ad0 ad → gn g' = n0 + cells ∧ gs g' = t0 + slots → Wd G A s H0 ad g' m' H locs → decode cX0_init pc = .ok (.return_, 1) → W p l e (rX0_init mc msl) s mt args below meth c H locs cells slots Q (F0 mt pc ls [])) : W p l e (rX0_init mc msl) s mt args below meth c H locs cells slots Q (F0 mt 21 ls [.ref (ad z1), .ref (ad z0)]) := by
  have hXx := xX0_init_21 hF S.g
  have hle : cells ≤ mc ∧ slots ≤ msl := by
    have h1 := hXx.1.1
    have h2 := hXx.1.2.1
    omega
  unfold bX0_init_21 at hF
  obtain ⟨m1, em1, hF⟩ := vm_ok hF
  refine q_put C S 1 fo_RX0_20 fp_1_1 (fun _ => ⟨hnm, rfl⟩) (j := 1) rfl hz0 (orf_ok S hz1 (by decide) rfl) rfl rfl (S.k hz1 (by decide)) (fun _ => kz hz1 (by decide)) em1 dX0_init_21 (fun H locs Sm1 => ?_)
  refine q_aload_n C hl 0 rfl rfl dX0_init_24 ?_
  refine q_sipush C 1715 (by decide) dX0_init_25 ?_
  obtain ⟨h5, hF⟩ := ck_ok hF
  obtain ⟨g2, eg2, hF⟩ := vg_ok hF
  obtain ⟨m3, em3, hF⟩ := vm_ok hF
  obtain ⟨y4, ey4, hF⟩ := vv_ok hF
  have hG2 := gA_ok Sm1.g h5 eg2
  have hX2 := gA_X Sm1.g eg2
  have hN2 := gA_n eg2
  have hXr := (xX0_init_30 hF hG2).1
  refine q_newi C Sm1 rfl (Or.inl ⟨rfl, rfl, rfl⟩) tw113 h5 (by have h1 := hXr.1; have h2 := hXr.2.1; exact ⟨by show _ ≤ mc; omega, by show _ ≤ msl; omega⟩) eg2 em3 dX0_init_28 (fun ad6 H hax Sm3 => ?_)
  rw [← ey4]
  have ky4 := gA_k eg2 ey4
  have hq : aX g0 ad0 ad6 ∧ gX g0 g2 := ⟨hq.1.tr hq.2 hax, hq.2.tr hX2⟩
  have hn : gn g2 = n0 + (cells + 1) ∧ gs g2 = t0 + (slots + 1715) := by omega
  have k7 := hX2.k hx0 (by decide)
  have ak7 : ad6 x0 = ad x0 := hax _ (kz hx0 (by decide))
  rw [← ak7] at hl
  rw [← ak7]
  exact wX0_init_30 hnm C Sm3 k7 k7 ky4 (lv_sub hl [0] rfl) hq hn hF he Kr
theorem xX0_init_12 {g : Shp} {m : Mem} {x0 z0 z1 : Int} {r : Int} {g' : Shp} {m' : Mem} (hF : bX0_init_12 x0 z0 z1 g m = some (r, g', m')) (hg : gOk g) : gX g g' ∧ gOk g' := by
  unfold bX0_init_12 at hF
  obtain ⟨m1, em1, hF⟩ := vm_ok hF
  obtain ⟨h5, hF⟩ := ck_ok hF
  obtain ⟨g2, eg2, hF⟩ := vg_ok hF
  obtain ⟨m3, em3, hF⟩ := vm_ok hF
  obtain ⟨y4, ey4, hF⟩ := vv_ok hF
  have hG2 := gA_ok hg h5 eg2
  have hX2 := gA_X hg eg2
  exact gX2 hX2 (xX0_init_21 hF hG2)
set_option maxRecDepth 20000 in
theorem wX0_init_12 {p : Program} {l : Launch} {e : Env} {s : State} {mt : MethodId} {args : Array Value} {below : List Frame} {meth : Method} {c : Code} {Q : State → Prop} {G : Gl} {A : Nat → Prop} {H0 : Heap} {ad : Int → Nat} {g : Shp} {ad0 : Int → Nat} {g0 : Shp} {n0 t0 cells slots mc msl : Nat} (hnm : meth.name = "<init>") {H : Heap} {locs : List Loc} {ls : Array Slot} {m : Mem} {x0 z0 z1 : Int} (C : CallFix p mt c cX0_init 2 s args tb RX0) (S : Wd G A s H0 ad g m H locs) (hx0 : gk g x0 = 1) (hz0 : gk g z0 = 1) (hz1 : gk g z1 = 7) (hl : lv_has ls 2 [(0, .ref (ad x0))]) (hq : aX g0 ad0 ad ∧ gX g0 g) (hn : gn g = n0 + cells ∧ gs g = t0 + slots) {r : Int} {g' : Shp} {m' : Mem} (hF : bX0_init_12 x0 z0 z1 g m = some (r, g', m')) (he : gn g' ≤ n0 + mc ∧ gs g' ≤ t0 + msl) (Kr : ∀ (ad : Int → Nat) (H : Heap) (locs : List Loc) (pc : Nat) (ls : Array Slot) (cells slots : Nat), aX g0 ad0 ad → gn g' = n0 + cells ∧ gs g' = t0 + slots → Wd G A s H0 ad g' m' H locs → decode cX0_init pc = .ok (.return_, 1) → W p l e (rX0_init mc msl) s mt args below meth c H locs cells slots Q (F0 mt pc ls [])) : W p l e (rX0_init mc msl) s mt args below meth c H locs cells slots Q (F0 mt 12 ls [.ref (ad z1), .ref (ad z0)]) := by
  have hXx := xX0_init_12 hF S.g
  have hle : cells ≤ mc ∧ slots ≤ msl := by
    have h1 := hXx.1.1
    have h2 := hXx.1.2.1
    omega
  unfold bX0_init_12 at hF
  obtain ⟨m1, em1, hF⟩ := vm_ok hF
  refine q_put C S 0 fo_RX0_14 fp_1_0 (fun _ => ⟨hnm, rfl⟩) (j := 0) rfl hz0 (orf_ok S hz1 (by decide) rfl) rfl rfl (S.k hz1 (by decide)) (fun _ => kz hz1 (by decide)) em1 dX0_init_12 (fun H locs Sm1 => ?_)
  refine q_aload_n C hl 0 rfl rfl dX0_init_15 ?_
  refine q_bipush C 24 (by decide) dX0_init_16 ?_
  obtain ⟨h5, hF⟩ := ck_ok hF
  obtain ⟨g2, eg2, hF⟩ := vg_ok hF
  obtain ⟨m3, em3, hF⟩ := vm_ok hF
  obtain ⟨y4, ey4, hF⟩ := vv_ok hF
  have hG2 := gA_ok Sm1.g h5 eg2
  have hX2 := gA_X Sm1.g eg2
  have hN2 := gA_n eg2
  have hXr := (xX0_init_21 hF hG2).1
  refine q_newq C Sm1 rfl (Or.inr (Or.inr (Or.inr ⟨rfl, rfl⟩))) tw142 h5 (by have h1 := hXr.1; have h2 := hXr.2.1; exact ⟨by show _ ≤ mc; omega, by show _ ≤ msl; omega⟩) eg2 em3 dX0_init_18 (fun ad6 H hax Sm3 => ?_)
  rw [← ey4]
  have ky4 := gA_k eg2 ey4
  have hq : aX g0 ad0 ad6 ∧ gX g0 g2 := ⟨hq.1.tr hq.2 hax, hq.2.tr hX2⟩
  have hn : gn g2 = n0 + (cells + 1) ∧ gs g2 = t0 + (slots + 24) := by omega
  have k7 := hX2.k hx0 (by decide)
  have ak7 : ad6 x0 = ad x0 := hax _ (kz hx0 (by decide))
  rw [← ak7] at hl
  rw [← ak7]
  exact wX0_init_21 hnm C Sm3 k7 k7 ky4 (lv_sub hl [0] rfl) hq hn hF he Kr
theorem xX0_init_8 {g : Shp} {m : Mem} {x0 z0 z1 : Int} {r : Int} {g' : Shp} {m' : Mem} (hF : bX0_init_8 x0 z0 z1 g m = some (r, g', m')) (hg : gOk g) : gX g g' ∧ gOk g' := by
  unfold bX0_init_8 at hF
  obtain ⟨v1, g2, m3, h4, hF⟩ := bd3_ok hF
  have hX3 := xX6_init_f h4 hg
  have hG2 := hX3.2
  have hX2 := hX3.1
  exact gX2 hX2 (xX0_init_12 hF hG2)
set_option maxRecDepth 20000 in
theorem wX0_init_8 {p : Program} {l : Launch} {e : Env} {s : State} {mt : MethodId} {args : Array Value} {below : List Frame} {meth : Method} {c : Code} {Q : State → Prop} {G : Gl} {A : Nat → Prop} {H0 : Heap} {ad : Int → Nat} {g : Shp} {ad0 : Int → Nat} {g0 : Shp} {n0 t0 cells slots mc msl : Nat} (hnm : meth.name = "<init>") {H : Heap} {locs : List Loc} {ls : Array Slot} {m : Mem} {x0 z0 z1 : Int} (C : CallFix p mt c cX0_init 2 s args tb RX0) (S : Wd G A s H0 ad g m H locs) (hx0 : gk g x0 = 1) (hz0 : gk g z0 = 1) (hz1 : gk g z1 = 7) (hl : lv_has ls 2 [(0, .ref (ad x0))]) (hq : aX g0 ad0 ad ∧ gX g0 g) (hn : gn g = n0 + cells ∧ gs g = t0 + slots) {r : Int} {g' : Shp} {m' : Mem} (hF : bX0_init_8 x0 z0 z1 g m = some (r, g', m')) (he : gn g' ≤ n0 + mc ∧ gs g' ≤ t0 + msl) (Kr : ∀ (ad : Int → Nat) (H : Heap) (locs : List Loc) (pc : Nat) (ls : Array Slot) (cells slots : Nat), aX g0 ad0 ad → gn g' = n0 + cells ∧ gs g' = t0 + slots → Wd G A s H0 ad g' m' H locs → decode cX0_init pc = .ok (.return_, 1) → W p l e (rX0_init mc msl) s mt args below meth c H locs cells slots Q (F0 mt pc ls [])) : W p l e (rX0_init mc msl) s mt args below meth c H locs cells slots Q (F0 mt 8 ls [.ref (ad z1), .ref (ad z0)]) := by
  have hXx := xX0_init_8 hF S.g
  have hle : cells ≤ mc ∧ slots ≤ msl := by
    have h1 := hXx.1.1
    have h2 := hXx.1.2.1
    omega
  unfold bX0_init_8 at hF
  refine q_dup C rfl dX0_init_8 ?_
  obtain ⟨v1, g2, m3, h4, hF⟩ := bd3_ok hF
  have hX3 := xX6_init_f h4 S.g
  have hG2 := hX3.2
  have hX2 := hX3.1
  have hXr := (xX0_init_12 hF hG2).1
  refine q_cvA S (run_IN (As := []) (rest := [.ref (ad z1), .ref (ad z0)]) C S (cX6_init_ok l G hz1 h4 ad _) (host := "StoneFloors") (by decide) tw124 tw67 tw123 rfl hd_X6_init rfl ⟨rfl, rfl, (Nat.le_of_ble_eq_true rfl), (Nat.le_of_ble_eq_true rfl)⟩ (by have h1 := hXr.1; have h2 := hXr.2.1; have h3 := hX2.1; have h4 := hX2.2.1; exact ⟨by show _ ≤ mc; omega, by show _ ≤ msl; omega⟩) hl.1 rfl (Nat.le_of_ble_eq_true rfl) dX0_init_9) (fun ad5 H locs hax Sm3 => ?_)
  have hq : aX g0 ad0 ad5 ∧ gX g0 g2 := ⟨hq.1.tr hq.2 hax, hq.2.tr hX2⟩
  have hn : gn g2 = n0 + (cells + (gn g2 - gn g)) ∧ gs g2 = t0 + (slots + (gs g2 - gs g)) := by have h3 := hX2.1; have h4 := hX2.2.1; omega
  have k6 := hX2.k hx0 (by decide)
  have ak6 : ad5 x0 = ad x0 := hax _ (kz hx0 (by decide))
  rw [← ak6] at hl
  have k7 := hX2.k hz0 (by decide)
  have ak7 : ad5 z0 = ad z0 := hax _ (kz hz0 (by decide))
  have k8 := hX2.k hz1 (by decide)
  have ak8 : ad5 z1 = ad z1 := hax _ (kz hz1 (by decide))
  rw [← ak7]
  rw [← ak8]
  exact wX0_init_12 hnm C Sm3 k6 k7 k8 (lv_sub hl [0] rfl) hq hn hF he Kr
theorem xX0_init_0 {g : Shp} {m : Mem} {x0 : Int} {r : Int} {g' : Shp} {m' : Mem} (hF : bX0_init_0 x0 g m = some (r, g', m')) (hg : gOk g) : gX g g' ∧ gOk g' := by
  unfold bX0_init_0 at hF
  obtain ⟨h4, hF⟩ := ck_ok hF
  obtain ⟨g1, eg1, hF⟩ := vg_ok hF
  obtain ⟨m2, em2, hF⟩ := vm_ok hF
  obtain ⟨y3, ey3, hF⟩ := vv_ok hF
  have hG2 := gA_ok hg h4 eg1
  have hX2 := gA_X hg eg1
  exact gX2 hX2 (xX0_init_8 hF hG2)
set_option maxRecDepth 20000 in
theorem wX0_init_0 {p : Program} {l : Launch} {e : Env} {s : State} {mt : MethodId} {args : Array Value} {below : List Frame} {meth : Method} {c : Code} {Q : State → Prop} {G : Gl} {A : Nat → Prop} {H0 : Heap} {ad : Int → Nat} {g : Shp} {ad0 : Int → Nat} {g0 : Shp} {n0 t0 cells slots mc msl : Nat} (hnm : meth.name = "<init>") {H : Heap} {locs : List Loc} {ls : Array Slot} {m : Mem} {x0 : Int} (C : CallFix p mt c cX0_init 2 s args tb RX0) (S : Wd G A s H0 ad g m H locs) (hx0 : gk g x0 = 1) (hl : lv_has ls 2 [(0, .ref (ad x0))]) (hq : aX g0 ad0 ad ∧ gX g0 g) (hn : gn g = n0 + cells ∧ gs g = t0 + slots) {r : Int} {g' : Shp} {m' : Mem} (hF : bX0_init_0 x0 g m = some (r, g', m')) (he : gn g' ≤ n0 + mc ∧ gs g' ≤ t0 + msl) (Kr : ∀ (ad : Int → Nat) (H : Heap) (locs : List Loc) (pc : Nat) (ls : Array Slot) (cells slots : Nat), aX g0 ad0 ad → gn g' = n0 + cells ∧ gs g' = t0 + slots → Wd G A s H0 ad g' m' H locs → decode cX0_init pc = .ok (.return_, 1) → W p l e (rX0_init mc msl) s mt args below meth c H locs cells slots Q (F0 mt pc ls [])) : W p l e (rX0_init mc msl) s mt args below meth c H locs cells slots Q (F0 mt 0 ls []) := by
  have hXx := xX0_init_0 hF S.g
  have hle : cells ≤ mc ∧ slots ≤ msl := by
    have h1 := hXx.1.1
    have h2 := hXx.1.2.1
    omega
  unfold bX0_init_0 at hF
  refine q_aload_n C hl 0 rfl rfl dX0_init_0 ?_
  refine q_oinit C tw119 tw90 tw91 hl.1 (Nat.le_of_ble_eq_true rfl) (Nat.le_of_ble_eq_true rfl) dX0_init_1 ?_
  refine q_aload_n C hl 0 rfl rfl dX0_init_4 ?_
  obtain ⟨h4, hF⟩ := ck_ok hF
  obtain ⟨g1, eg1, hF⟩ := vg_ok hF
  obtain ⟨m2, em2, hF⟩ := vm_ok hF
  obtain ⟨y3, ey3, hF⟩ := vv_ok hF
  have hG2 := gA_ok S.g h4 eg1
  have hX2 := gA_X S.g eg1
  have hN2 := gA_n eg1
  have hXr := (xX0_init_8 hF hG2).1
  refine q_new C S nk_RX0_11 h4 (by have h1 := hXr.1; have h2 := hXr.2.1; exact ⟨by show _ ≤ mc; omega, by show _ ≤ msl; omega⟩) eg1 em2 dX0_init_5 (fun ad5 H hax Sm2 => ?_)
  rw [← ey3]
  have ky3 := gA_k eg1 ey3
  have hq : aX g0 ad0 ad5 ∧ gX g0 g1 := ⟨hq.1.tr hq.2 hax, hq.2.tr hX2⟩
  have hn : gn g1 = n0 + (cells + 1) ∧ gs g1 = t0 + (slots + 3) := by omega
  have k6 := hX2.k hx0 (by decide)
  have ak6 : ad5 x0 = ad x0 := hax _ (kz hx0 (by decide))
  rw [← ak6] at hl
  rw [← ak6]
  exact wX0_init_8 hnm C Sm2 k6 k6 ky3 (lv_sub hl [0] rfl) hq hn hF he Kr
theorem xX0_init_f {x0 : Int} {g : Shp} {m : Mem} {r : Int} {g' : Shp} {m' : Mem} (hF : fX0_init x0 g m = some (r, g', m')) (hg : gOk g) : gX g g' ∧ gOk g' := xX0_init_0 hF hg
theorem cX0_init_ok (l : Launch) (G : Gl) {x0 : Int} {g : Shp} {m : Mem} {r : Int} {g' : Shp} {m' : Mem} (hx0 : gk g x0 = 1) (hF : fX0_init x0 g m = some (r, g', m')) : mVA l yX0_init (wT yX0_init cX0_init 2 none) rX0_init G (fun ad => [.ref (ad x0)]) g m g' m' :=
  met_vA (rm := rX0_init) (by decide) (fun ad => Nat.le_of_ble_eq_true rfl) (fun hg => (xX0_init_f hF hg).1) (fun p e s mt args below meth c Q A H0 H locs ad ls mc msl hmc hms C hnm S hl Kr => wX0_init_0 (n0 := gn g) (t0 := gs g) hnm C S hx0 hl ⟨fun _ _ => rfl, gX.rf _⟩ ⟨rfl, rfl⟩ hF (by have h9 := (xX0_init_f hF S.g).1; have h1 := h9.1; have h2 := h9.2.1; omega) Kr)
theorem xX0_forgetWorths_30 {g : Shp} {m : Mem} {x0 x1 : Int} {r : Int} {g' : Shp} {m' : Mem} (hF : bX0_forgetWorths_30 x0 x1 g m = some (r, g', m')) (hg : gOk g) : gX g g' ∧ gOk g' := by
  unfold bX0_forgetWorths_30 at hF
  obtain ⟨k1, hF⟩ := ck_ok hF
  obtain ⟨v2, m3, h4, hF⟩ := bd2_ok hF
  cases hF
  exact ⟨gX.rf _, hg⟩
set_option maxRecDepth 20000 in
theorem wX0_forgetWorths_30 {p : Program} {l : Launch} {e : Env} {s : State} {mt : MethodId} {args : Array Value} {below : List Frame} {meth : Method} {c : Code} {Q : State → Prop} {G : Gl} {A : Nat → Prop} {H0 : Heap} {ad : Int → Nat} {g : Shp} {ad0 : Int → Nat} {g0 : Shp} {n0 t0 cells slots mc msl : Nat} {H : Heap} {locs : List Loc} {ls : Array Slot} {m : Mem} {x0 x1 : Int} (C : CallFix p mt c cX0_forgetWorths 2 s args tb RX0) (S : Wd G A s H0 ad g m H locs) (hx0 : gk g x0 = 1) (hx1 : r32 x1) (hl : lv_has ls 2 [(0, .ref (ad x0)), (1, .int (iI x1))]) (hq : aX g0 ad0 ad ∧ gX g0 g) (hn : gn g = n0 + cells ∧ gs g = t0 + slots) {r : Int} {g' : Shp} {m' : Mem} (hF : bX0_forgetWorths_30 x0 x1 g m = some (r, g', m')) (he : gn g' ≤ n0 + mc ∧ gs g' ≤ t0 + msl) (Kr : ∀ (ad : Int → Nat) (H : Heap) (locs : List Loc) (pc : Nat) (ls : Array Slot) (cells slots : Nat), aX g0 ad0 ad → gn g' = n0 + cells ∧ gs g' = t0 + slots → Wd G A s H0 ad g' m' H locs → decode cX0_forgetWorths pc = .ok (.return_, 1) → W p l e (rX0_forgetWorths mc msl) s mt args below meth c H locs cells slots Q (F0 mt pc ls [])) : W p l e (rX0_forgetWorths mc msl) s mt args below meth c H locs cells slots Q (F0 mt 30 ls []) := by
  have hXx := xX0_forgetWorths_30 hF S.g
  have hle : cells ≤ mc ∧ slots ≤ msl := by
    have h1 := hXx.1.1
    have h2 := hXx.1.2.1
    omega
  unfold bX0_forgetWorths_30 at hF
  refine q_aload_n C hl 0 rfl rfl dX0_forgetWorths_30 ?_
  obtain ⟨k1, hF⟩ := ck_ok hF
  refine q_getr C S 2 fo_RX0_24 (j := 2) rfl rfl hx0 k1 (by decide) dX0_forgetWorths_31 ?_
  refine q_iconst C 0 dX0_forgetWorths_34 ?_
  refine q_iload_n C hl 1 rfl rfl dX0_forgetWorths_35 ?_
  refine q_iconst C (-1) dX0_forgetWorths_36 ?_
  obtain ⟨v2, m3, h4, hF⟩ := bd2_ok hF
  refine q_cv S (run_S (As := [.ref (ad (m x0 2)), .int (iI 0), .int (iI x1), .int (iI ((-1)))]) (rest := []) C S (cJ7_fill_fda19_ok l G k1 (rl 0 rfl) hx1 (rl (-1) rfl) h4 ad _) gd_RX0_120 hd_J7_fill_fda19 rfl ⟨rfl, rfl, (Nat.le_of_ble_eq_true rfl), (Nat.le_of_ble_eq_true rfl)⟩ hle hl.1 rfl (Nat.le_of_ble_eq_true rfl) dX0_forgetWorths_37) (fun H locs Sm3 => ?_)
  cases hF
  exact Kr _ _ _ _ _ _ _ hq.1 hn Sm3 dX0_forgetWorths_40
theorem xX0_forgetWorths_27 {g : Shp} {m : Mem} {x0 x1 z0 z1 : Int} {r : Int} {g' : Shp} {m' : Mem} (hF : bX0_forgetWorths_27 x0 x1 z0 z1 g m = some (r, g', m')) (hg : gOk g) : gX g g' ∧ gOk g' := by
  unfold bX0_forgetWorths_27 at hF
  obtain ⟨m1, em1, hF⟩ := vm_ok hF
  exact xX0_forgetWorths_30 hF hg
set_option maxRecDepth 20000 in
theorem wX0_forgetWorths_27 {p : Program} {l : Launch} {e : Env} {s : State} {mt : MethodId} {args : Array Value} {below : List Frame} {meth : Method} {c : Code} {Q : State → Prop} {G : Gl} {A : Nat → Prop} {H0 : Heap} {ad : Int → Nat} {g : Shp} {ad0 : Int → Nat} {g0 : Shp} {n0 t0 cells slots mc msl : Nat} {H : Heap} {locs : List Loc} {ls : Array Slot} {m : Mem} {x0 x1 z0 z1 : Int} (C : CallFix p mt c cX0_forgetWorths 2 s args tb RX0) (S : Wd G A s H0 ad g m H locs) (hx0 : gk g x0 = 1) (hx1 : r32 x1) (hz0 : gk g z0 = 1) (hz1 : gk g z1 = 20) (hl : lv_has ls 2 [(0, .ref (ad x0)), (1, .int (iI x1))]) (hq : aX g0 ad0 ad ∧ gX g0 g) (hn : gn g = n0 + cells ∧ gs g = t0 + slots) {r : Int} {g' : Shp} {m' : Mem} (hF : bX0_forgetWorths_27 x0 x1 z0 z1 g m = some (r, g', m')) (he : gn g' ≤ n0 + mc ∧ gs g' ≤ t0 + msl) (Kr : ∀ (ad : Int → Nat) (H : Heap) (locs : List Loc) (pc : Nat) (ls : Array Slot) (cells slots : Nat), aX g0 ad0 ad → gn g' = n0 + cells ∧ gs g' = t0 + slots → Wd G A s H0 ad g' m' H locs → decode cX0_forgetWorths pc = .ok (.return_, 1) → W p l e (rX0_forgetWorths mc msl) s mt args below meth c H locs cells slots Q (F0 mt pc ls [])) : W p l e (rX0_forgetWorths mc msl) s mt args below meth c H locs cells slots Q (F0 mt 27 ls [.ref (ad z1), .ref (ad z0)]) := by
  have hXx := xX0_forgetWorths_27 hF S.g
  have hle : cells ≤ mc ∧ slots ≤ msl := by
    have h1 := hXx.1.1
    have h2 := hXx.1.2.1
    omega
  unfold bX0_forgetWorths_27 at hF
  obtain ⟨m1, em1, hF⟩ := vm_ok hF
  refine q_put C S 2 fo_RX0_24 fp_1_2 (fun h9 => absurd h9 (by decide)) (j := 2) rfl hz0 (orf_ok S hz1 (by decide) rfl) rfl rfl (S.k hz1 (by decide)) (fun _ => kz hz1 (by decide)) em1 dX0_forgetWorths_27 (fun H locs Sm1 => ?_)
  exact wX0_forgetWorths_30 C Sm1 hx0 hx1 (lv_sub hl [0, 1] rfl) hq hn hF he Kr
theorem xX0_forgetWorths_0 {g : Shp} {m : Mem} {x0 : Int} {r : Int} {g' : Shp} {m' : Mem} (hF : bX0_forgetWorths_0 x0 g m = some (r, g', m')) (hg : gOk g) : gX g g' ∧ gOk g' := by
  unfold bX0_forgetWorths_0 at hF
  obtain ⟨k1, hF⟩ := ck_ok hF
  obtain ⟨y2, ey2, hF⟩ := vv_ok hF
  obtain ⟨k3, hF⟩ := ck_ok hF
  by_cases hc4 : y2 ≤ (gl g (m x0 2))
  · have hF := if_t hc4 hF
    exact xX0_forgetWorths_30 hF hg
  · have hF := if_f hc4 hF
    obtain ⟨h8, hF⟩ := ck_ok hF
    obtain ⟨g5, eg5, hF⟩ := vg_ok hF
    obtain ⟨m6, em6, hF⟩ := vm_ok hF
    obtain ⟨y7, ey7, hF⟩ := vv_ok hF
    have hG2 := gA_ok hg h8 eg5
    have hX2 := gA_X hg eg5
    exact gX2 hX2 (xX0_forgetWorths_27 hF hG2)
set_option maxRecDepth 20000 in
theorem wX0_forgetWorths_0 {p : Program} {l : Launch} {e : Env} {s : State} {mt : MethodId} {args : Array Value} {below : List Frame} {meth : Method} {c : Code} {Q : State → Prop} {G : Gl} {A : Nat → Prop} {H0 : Heap} {ad : Int → Nat} {g : Shp} {ad0 : Int → Nat} {g0 : Shp} {n0 t0 cells slots mc msl : Nat} {H : Heap} {locs : List Loc} {ls : Array Slot} {m : Mem} {x0 : Int} (C : CallFix p mt c cX0_forgetWorths 2 s args tb RX0) (S : Wd G A s H0 ad g m H locs) (hx0 : gk g x0 = 1) (hl : lv_has ls 2 [(0, .ref (ad x0))]) (hq : aX g0 ad0 ad ∧ gX g0 g) (hn : gn g = n0 + cells ∧ gs g = t0 + slots) {r : Int} {g' : Shp} {m' : Mem} (hF : bX0_forgetWorths_0 x0 g m = some (r, g', m')) (he : gn g' ≤ n0 + mc ∧ gs g' ≤ t0 + msl) (Kr : ∀ (ad : Int → Nat) (H : Heap) (locs : List Loc) (pc : Nat) (ls : Array Slot) (cells slots : Nat), aX g0 ad0 ad → gn g' = n0 + cells ∧ gs g' = t0 + slots → Wd G A s H0 ad g' m' H locs → decode cX0_forgetWorths pc = .ok (.return_, 1) → W p l e (rX0_forgetWorths mc msl) s mt args below meth c H locs cells slots Q (F0 mt pc ls [])) : W p l e (rX0_forgetWorths mc msl) s mt args below meth c H locs cells slots Q (F0 mt 0 ls []) := by
  have hXx := xX0_forgetWorths_0 hF S.g
  have hle : cells ≤ mc ∧ slots ≤ msl := by
    have h1 := hXx.1.1
    have h2 := hXx.1.2.1
    omega
  unfold bX0_forgetWorths_0 at hF
  refine q_aload_n C hl 0 rfl rfl dX0_forgetWorths_0 ?_
  obtain ⟨k1, hF⟩ := ck_ok hF
  refine q_getr C S 0 fo_RX0_14 (j := 0) rfl rfl hx0 k1 (by decide) dX0_forgetWorths_1 ?_
  refine q_geti C S 2 fo_RX0_49 (j := 2) rfl rfl k1 dX0_forgetWorths_4 ?_
  refine q_sipush C 343 (by decide) dX0_forgetWorths_7 ?_
  refine q_imul C dX0_forgetWorths_10 ?_
  obtain ⟨y2, ey2, hF⟩ := vv_ok hF
  have ry2 : r32 y2 := ey2 ▸ (r32_w _)
  refine q_istore_n C hl [(1, .int (iI y2)), (0, .ref (ad x0))] ey2 rfl (by decide) rfl dX0_forgetWorths_11 (fun ls hl => ?_)
  refine q_aload_n C hl 1 rfl rfl dX0_forgetWorths_12 ?_
  obtain ⟨k3, hF⟩ := ck_ok hF
  refine q_getr C S 2 fo_RX0_24 (j := 2) rfl rfl hx0 k3 (by decide) dX0_forgetWorths_13 ?_
  refine q_alen C S k3 (by decide) dX0_forgetWorths_16 ?_
  refine q_iload_n C hl 0 rfl rfl dX0_forgetWorths_17 ?_
  refine q_icmp_ge C (S.l _) ry2 30 dX0_forgetWorths_18 (by decide) (fun hc4 => ?_) (fun hc4 => ?_)
  · have hF := if_t hc4 hF
    exact wX0_forgetWorths_30 C S hx0 ry2 (lv_sub hl [1, 0] rfl) hq hn hF he Kr
  · have hF := if_f hc4 hF
    refine q_aload_n C hl 1 rfl rfl dX0_forgetWorths_21 ?_
    refine q_sipush C 6174 (by decide) dX0_forgetWorths_22 ?_
    obtain ⟨h8, hF⟩ := ck_ok hF
    obtain ⟨g5, eg5, hF⟩ := vg_ok hF
    obtain ⟨m6, em6, hF⟩ := vm_ok hF
    obtain ⟨y7, ey7, hF⟩ := vv_ok hF
    have hG2 := gA_ok S.g h8 eg5
    have hX2 := gA_X S.g eg5
    have hN2 := gA_n eg5
    have hXr := (xX0_forgetWorths_27 hF hG2).1
    refine q_newi C S rfl (Or.inl ⟨rfl, rfl, rfl⟩) tw113 h8 (by have h1 := hXr.1; have h2 := hXr.2.1; exact ⟨by show _ ≤ mc; omega, by show _ ≤ msl; omega⟩) eg5 em6 dX0_forgetWorths_25 (fun ad9 H hax Sm6 => ?_)
    rw [← ey7]
    have ky7 := gA_k eg5 ey7
    have hq : aX g0 ad0 ad9 ∧ gX g0 g5 := ⟨hq.1.tr hq.2 hax, hq.2.tr hX2⟩
    have hn : gn g5 = n0 + (cells + 1) ∧ gs g5 = t0 + (slots + 6174) := by omega
    have k10 := hX2.k hx0 (by decide)
    have ak10 : ad9 x0 = ad x0 := hax _ (kz hx0 (by decide))
    rw [← ak10] at hl
    rw [← ak10]
    exact wX0_forgetWorths_27 C Sm6 k10 ry2 k10 ky7 (lv_sub hl [1, 0] rfl) hq hn hF he Kr
theorem xX0_forgetWorths_f {x0 : Int} {g : Shp} {m : Mem} {r : Int} {g' : Shp} {m' : Mem} (hF : fX0_forgetWorths x0 g m = some (r, g', m')) (hg : gOk g) : gX g g' ∧ gOk g' := xX0_forgetWorths_0 hF hg
theorem cX0_forgetWorths_ok (l : Launch) (G : Gl) {x0 : Int} {g : Shp} {m : Mem} {r : Int} {g' : Shp} {m' : Mem} (hx0 : gk g x0 = 1) (hF : fX0_forgetWorths x0 g m = some (r, g', m')) : mVA l yX0_forgetWorths (wT yX0_forgetWorths cX0_forgetWorths 2 none) rX0_forgetWorths G (fun ad => [.ref (ad x0)]) g m g' m' :=
  met_vA (rm := rX0_forgetWorths) (by decide) (fun ad => Nat.le_of_ble_eq_true rfl) (fun hg => (xX0_forgetWorths_f hF hg).1) (fun p e s mt args below meth c Q A H0 H locs ad ls mc msl hmc hms C hnm S hl Kr => wX0_forgetWorths_0 (n0 := gn g) (t0 := gs g) C S hx0 hl ⟨fun _ _ => rfl, gX.rf _⟩ ⟨rfl, rfl⟩ hF (by have h9 := (xX0_forgetWorths_f hF S.g).1; have h1 := h9.1; have h2 := h9.2.1; omega) Kr)
set_option maxRecDepth 20000 in
theorem wX0_find_123 {p : Program} {l : Launch} {e : Env} {s : State} {mt : MethodId} {args : Array Value} {below : List Frame} {meth : Method} {c : Code} {Q : State → Prop} {G : Gl} {A : Nat → Prop} {H0 : Heap} {ad : Int → Nat} {g : Shp} {cells slots mc msl : Nat} {H : Heap} {locs : List Loc} {ls : Array Slot} {m : Mem} {x0 x3 x4 x5 x6 x7 : Int} (C : CallFix p mt c cX0_find 9 s args tb RX0) (S : Wd G A s H0 ad g m H locs) (hx0 : gk g x0 = 1) (hx3 : gk g x3 = 2) (hx4 : r32 x4) (hx5 : gk g x5 = 10) (hx6 : r32 x6) (hx7 : r32 x7) (hl : lv_has ls 9 [(0, .ref (ad x0)), (3, .ref (ad x3)), (4, .int (iI x4)), (5, .ref (ad x5)), (6, .int (iI x6)), (7, .int (iI x7))]) (hle : cells ≤ mc ∧ slots ≤ msl) {c1 : Int} {s1 : (Int × Mem)} (hF : bX0_find_123 x0 x3 x4 x5 x6 x7 g m = some (c1, s1)) (K0 : c1 = 0 → ∀ (H : Heap) (locs : List Loc) (ls : Array Slot), r32 s1.1 → Wd G A s H0 ad g s1.2 H locs → lv_has ls 9 [(0, .ref (ad x0)), (3, .ref (ad x3)), (4, .int (iI x4)), (5, .ref (ad x5)), (6, .int (iI x6)), (7, .int (iI s1.1))] → W p l e (rX0_find mc msl) s mt args below meth c H locs cells slots Q (F0 mt 57 ls [])) (K1 : c1 = 1 → ∀ (H : Heap) (locs : List Loc) (ls : Array Slot), Wd G A s H0 ad g s1.2 H locs → lv_has ls 9 [(0, .ref (ad x0)), (3, .ref (ad x3)), (4, .int (iI x4)), (5, .ref (ad x5)), (6, .int (iI x6))] → W p l e (rX0_find mc msl) s mt args below meth c H locs cells slots Q (F0 mt 129 ls [])) : W p l e (rX0_find mc msl) s mt args below meth c H locs cells slots Q (F0 mt 123 ls []) := by
  unfold bX0_find_123 at hF
  obtain ⟨y1, ey1, hF⟩ := vv_ok hF
  have ry1 : r32 y1 := ey1 ▸ r32_w _
  refine q_iinc C hl 5 [(7, .int (iI y1)), (0, .ref (ad x0)), (3, .ref (ad x3)), (4, .int (iI x4)), (5, .ref (ad x5)), (6, .int (iI x6))] rfl ey1 (by decide) rfl dX0_find_123 (fun ls hl => ?_)
  refine q_goto C 57 dX0_find_126 (by decide) ?_
  cases hF
  exact K0 rfl _ _ _ ry1 S (lv_sub hl [1, 2, 3, 4, 5, 0] rfl)
set_option maxRecDepth 20000 in
theorem wX0_find_57 {p : Program} {l : Launch} {e : Env} {s : State} {mt : MethodId} {args : Array Value} {below : List Frame} {meth : Method} {c : Code} {Q : State → Prop} {G : Gl} {A : Nat → Prop} {H0 : Heap} {ad : Int → Nat} {g : Shp} {cells slots mc msl : Nat} {H : Heap} {locs : List Loc} {ls : Array Slot} {m : Mem} {x0 x3 x4 x5 x6 x7 : Int} (C : CallFix p mt c cX0_find 9 s args tb RX0) (S : Wd G A s H0 ad g m H locs) (hx0 : gk g x0 = 1) (hx3 : gk g x3 = 2) (hx4 : r32 x4) (hx5 : gk g x5 = 10) (hx6 : r32 x6) (hx7 : r32 x7) (hl : lv_has ls 9 [(0, .ref (ad x0)), (3, .ref (ad x3)), (4, .int (iI x4)), (5, .ref (ad x5)), (6, .int (iI x6)), (7, .int (iI x7))]) (hle : cells ≤ mc ∧ slots ≤ msl) {c1 : Int} {s1 : (Int × Mem)} (hF : bX0_find_57 x0 x3 x4 x5 x6 x7 g m = some (c1, s1)) (K0 : c1 = 0 → ∀ (H : Heap) (locs : List Loc) (ls : Array Slot), r32 s1.1 → Wd G A s H0 ad g s1.2 H locs → lv_has ls 9 [(0, .ref (ad x0)), (3, .ref (ad x3)), (4, .int (iI x4)), (5, .ref (ad x5)), (6, .int (iI x6)), (7, .int (iI s1.1))] → W p l e (rX0_find mc msl) s mt args below meth c H locs cells slots Q (F0 mt 57 ls [])) (K1 : c1 = 1 → ∀ (H : Heap) (locs : List Loc) (ls : Array Slot), Wd G A s H0 ad g s1.2 H locs → lv_has ls 9 [(0, .ref (ad x0)), (3, .ref (ad x3)), (4, .int (iI x4)), (5, .ref (ad x5)), (6, .int (iI x6))] → W p l e (rX0_find mc msl) s mt args below meth c H locs cells slots Q (F0 mt 129 ls [])) : W p l e (rX0_find mc msl) s mt args below meth c H locs cells slots Q (F0 mt 57 ls []) := by
  unfold bX0_find_57 at hF
  refine q_iload C hl 5 rfl dX0_find_57 ?_
  refine q_aload_n C hl 0 rfl rfl dX0_find_59 ?_
  obtain ⟨k1, hF⟩ := ck_ok hF
  refine q_getr C S 0 fo_RX0_14 (j := 0) rfl rfl hx0 k1 (by decide) dX0_find_60 ?_
  obtain ⟨k2, hF⟩ := ck_ok hF
  refine q_getr C S 0 fo_RX0_60 (j := 0) rfl rfl k1 k2 (by decide) dX0_find_63 ?_
  refine q_iload C hl 4 rfl dX0_find_66 ?_
  obtain ⟨i3, hF⟩ := ck_ok hF
  refine q_iald C S k2 i3 dX0_find_68 ?_
  refine q_icmp_gt C hx7 (S.r _ _) 129 dX0_find_69 (by decide) (fun hc4 => ?_) (fun hc4 => ?_)
  · have hF := if_t hc4 hF
    cases hF
    exact K1 rfl _ _ _  S (lv_sub hl [0, 1, 2, 3, 4] rfl)
  · have hF := if_f hc4 hF
    refine q_aload_n C hl 0 rfl rfl dX0_find_72 ?_
    refine q_iload C hl 5 rfl dX0_find_73 ?_
    refine q_aload_n C hl 0 rfl rfl dX0_find_75 ?_
    refine q_getr C S 0 fo_RX0_14 (j := 0) rfl rfl hx0 k1 (by decide) dX0_find_76 ?_
    obtain ⟨k5, hF⟩ := ck_ok hF
    refine q_getr C S 1 fo_RX0_63 (j := 1) rfl rfl k1 k5 (by decide) dX0_find_79 ?_
    refine q_iload C hl 4 rfl dX0_find_82 ?_
    obtain ⟨i6, hF⟩ := ck_ok hF
    refine q_zald C S k5 i6 dX0_find_84 ?_
    obtain ⟨v7, m8, h9, hF⟩ := bd2_ok hF
    obtain ⟨k11, hF⟩ := ck_ok hF
    refine q_cr S (run_V (As := [.int (iI x7), .int (iI (m (m (m x0 0) 1) x6))]) (rest := []) C S (cX0_layingsOf_ok l G hx0 hx7 (S.r _ _) h9 ad _) hx0 ⟨by decide, _, _, rfl⟩ gd_RX0_67 hdV_X0_layingsOf rfl ⟨rfl, rfl, (Nat.le_of_ble_eq_true rfl), (Nat.le_of_ble_eq_true rfl)⟩ hle hl.1 rfl (Nat.le_of_ble_eq_true rfl) dX0_find_85) (fun H locs Sm8 h10 => ?_)
    refine q_astore C hl [(8, .ref (ad v7)), (0, .ref (ad x0)), (3, .ref (ad x3)), (4, .int (iI x4)), (5, .ref (ad x5)), (6, .int (iI x6)), (7, .int (iI x7))] rfl (by decide) rfl dX0_find_88 (fun ls hl => ?_)
    refine q_aload C hl 0 rfl dX0_find_90 ?_
    refine q_geti C Sm8 3 fo_RX0_71 (j := 3) rfl rfl k11 dX0_find_92 ?_
    refine q_if_ne C (Sm8.r _ _) 123 dX0_find_95 (by decide) (fun hc12 => ?_) (fun hc12 => ?_)
    · have hF := if_t hc12 hF
      refine q_aload C hl 0 rfl dX0_find_98 ?_
      refine q_iload C hl 6 rfl dX0_find_100 ?_
      refine q_aload_n C hl 1 rfl rfl dX0_find_102 ?_
      obtain ⟨k13, hF⟩ := ck_ok hF
      refine q_getr C Sm8 0 fo_RX0_14 (j := 0) rfl rfl hx0 k13 (by decide) dX0_find_103 ?_
      obtain ⟨k14, hF⟩ := ck_ok hF
      refine q_getr C Sm8 1 fo_RX0_63 (j := 1) rfl rfl k13 k14 (by decide) dX0_find_106 ?_
      refine q_iload C hl 5 rfl dX0_find_109 ?_
      obtain ⟨i15, hF⟩ := ck_ok hF
      refine q_zald C Sm8 k14 i15 dX0_find_111 ?_
      refine q_aload_n C hl 1 rfl rfl dX0_find_112 ?_
      obtain ⟨k16, hF⟩ := ck_ok hF
      refine q_getr C Sm8 3 fo_RX0_28 (j := 3) rfl rfl hx0 k16 (by decide) dX0_find_113 ?_
      refine q_aload_n C hl 1 rfl rfl dX0_find_116 ?_
      refine q_geti C Sm8 5 fo_RX0_75 (j := 5) rfl rfl hx0 dX0_find_117 ?_
      obtain ⟨v17, m18, h19, hF⟩ := bd2_ok hF
      refine q_cv Sm8 (run_V (As := [.int (iI x7), .int (iI (m8 (m8 (m8 x0 0) 1) x6)), .ref (ad (m8 x0 3)), .int (iI (m8 x0 5))]) (rest := []) C Sm8 (cX2_list_ok l G k11 hx7 (Sm8.r _ _) k16 (Sm8.r _ _) h19 ad _) k11 ⟨by decide, _, _, rfl⟩ gd_RX0_76 hdV_X2_list rfl ⟨rfl, rfl, (Nat.le_of_ble_eq_true rfl), (Nat.le_of_ble_eq_true rfl)⟩ hle hl.1 rfl (Nat.le_of_ble_eq_true rfl) dX0_find_120) (fun H locs Sm18 => ?_)
      exact wX0_find_123 C Sm18 hx0 hx3 hx4 hx5 hx6 hx7 (lv_sub hl [1, 2, 3, 4, 5, 6] rfl) hle hF K0 K1
    · have hF := if_f hc12 hF
      exact wX0_find_123 C Sm8 hx0 hx3 hx4 hx5 hx6 hx7 (lv_sub hl [1, 2, 3, 4, 5, 6] rfl) hle hF K0 K1
set_option maxRecDepth 20000 in
theorem lX0_find_57 {p : Program} {l : Launch} {e : Env} {s : State} {mt : MethodId} {args : Array Value} {below : List Frame} {meth : Method} {c : Code} {Q : State → Prop} {G : Gl} {A : Nat → Prop} {H0 : Heap} {ad : Int → Nat} {g : Shp} {cells slots mc msl : Nat} {x0 x3 x4 x5 x6 : Int} (C : CallFix p mt c cX0_find 9 s args tb RX0) (hx0 : gk g x0 = 1) (hx3 : gk g x3 = 2) (hx4 : r32 x4) (hx5 : gk g x5 = 10) (hx6 : r32 x6) (hle : cells ≤ mc ∧ slots ≤ msl) {n : Nat} {s0 s1 : (Int × Mem)} {c1 : Int} (hI : iter (BX0_find_57 x0 x3 x4 x5 x6 g) n s0 = some (c1, s1)) (K1 : c1 = 1 → ∀ (H : Heap) (locs : List Loc) (ls : Array Slot), Wd G A s H0 ad g s1.2 H locs → lv_has ls 9 [(0, .ref (ad x0)), (3, .ref (ad x3)), (4, .int (iI x4)), (5, .ref (ad x5)), (6, .int (iI x6))] → W p l e (rX0_find mc msl) s mt args below meth c H locs cells slots Q (F0 mt 129 ls [])) : ∀ (H : Heap) (locs : List Loc) (ls : Array Slot), r32 s0.1 → Wd G A s H0 ad g s0.2 H locs → lv_has ls 9 [(0, .ref (ad x0)), (3, .ref (ad x3)), (4, .int (iI x4)), (5, .ref (ad x5)), (6, .int (iI x6)), (7, .int (iI s0.1))] → W p l e (rX0_find mc msl) s mt args below meth c H locs cells slots Q (F0 mt 57 ls []) :=
  iter_W (Pw := fun q => ∀ (H : Heap) (locs : List Loc) (ls : Array Slot), r32 q.1 → Wd G A s H0 ad g q.2 H locs → lv_has ls 9 [(0, .ref (ad x0)), (3, .ref (ad x3)), (4, .int (iI x4)), (5, .ref (ad x5)), (6, .int (iI x6)), (7, .int (iI q.1))] → W p l e (rX0_find mc msl) s mt args below meth c H locs cells slots Q (F0 mt 57 ls [])) (Px := fun c0 q => (c0 = 1 → ∀ (H : Heap) (locs : List Loc) (ls : Array Slot), Wd G A s H0 ad g q.2 H locs → lv_has ls 9 [(0, .ref (ad x0)), (3, .ref (ad x3)), (4, .int (iI x4)), (5, .ref (ad x5)), (6, .int (iI x6))] → W p l e (rX0_find mc msl) s mt args below meth c H locs cells slots Q (F0 mt 129 ls [])))
    (fun s c s' hB K0 kx H locs ls f0 S hl => wX0_find_57 C S hx0 hx3 hx4 hx5 hx6 f0 hl hle hB K0 (fun h9 => (kx (by rw [h9]; decide)) h9)) _ _ _ _ hI K1
set_option maxRecDepth 20000 in
theorem wX0_find_129 {p : Program} {l : Launch} {e : Env} {s : State} {mt : MethodId} {args : Array Value} {below : List Frame} {meth : Method} {c : Code} {Q : State → Prop} {G : Gl} {A : Nat → Prop} {H0 : Heap} {ad : Int → Nat} {g : Shp} {cells slots mc msl : Nat} {H : Heap} {locs : List Loc} {ls : Array Slot} {m : Mem} {x0 x3 x4 x5 x6 : Int} (C : CallFix p mt c cX0_find 9 s args tb RX0) (S : Wd G A s H0 ad g m H locs) (hx0 : gk g x0 = 1) (hx3 : gk g x3 = 2) (hx4 : r32 x4) (hx5 : gk g x5 = 10) (hx6 : r32 x6) (hl : lv_has ls 9 [(0, .ref (ad x0)), (3, .ref (ad x3)), (4, .int (iI x4)), (5, .ref (ad x5)), (6, .int (iI x6))]) (hle : cells ≤ mc ∧ slots ≤ msl) {c1 : Int} {s1 : (Int × Mem)} (hF : bX0_find_129 x0 x3 x4 x5 x6 g m = some (c1, s1)) (K0 : c1 = 0 → ∀ (H : Heap) (locs : List Loc) (ls : Array Slot), r32 s1.1 → Wd G A s H0 ad g s1.2 H locs → lv_has ls 9 [(0, .ref (ad x0)), (3, .ref (ad x3)), (4, .int (iI x4)), (5, .ref (ad x5)), (6, .int (iI s1.1))] → W p l e (rX0_find mc msl) s mt args below meth c H locs cells slots Q (F0 mt 42 ls [])) (K1 : c1 = 1 → ∀ (H : Heap) (locs : List Loc) (ls : Array Slot), Wd G A s H0 ad g s1.2 H locs → lv_has ls 9 [(0, .ref (ad x0)), (3, .ref (ad x3)), (4, .int (iI x4)), (5, .ref (ad x5))] → W p l e (rX0_find mc msl) s mt args below meth c H locs cells slots Q (F0 mt 135 ls [])) : W p l e (rX0_find mc msl) s mt args below meth c H locs cells slots Q (F0 mt 129 ls []) := by
  unfold bX0_find_129 at hF
  obtain ⟨y1, ey1, hF⟩ := vv_ok hF
  have ry1 : r32 y1 := ey1 ▸ r32_w _
  refine q_iinc C hl 4 [(6, .int (iI y1)), (0, .ref (ad x0)), (3, .ref (ad x3)), (4, .int (iI x4)), (5, .ref (ad x5))] rfl ey1 (by decide) rfl dX0_find_129 (fun ls hl => ?_)
  refine q_goto C 42 dX0_find_132 (by decide) ?_
  cases hF
  exact K0 rfl _ _ _ ry1 S (lv_sub hl [1, 2, 3, 4, 0] rfl)
set_option maxRecDepth 20000 in
theorem wX0_find_42 {p : Program} {l : Launch} {e : Env} {s : State} {mt : MethodId} {args : Array Value} {below : List Frame} {meth : Method} {c : Code} {Q : State → Prop} {G : Gl} {A : Nat → Prop} {H0 : Heap} {ad : Int → Nat} {g : Shp} {cells slots mc msl : Nat} {H : Heap} {locs : List Loc} {ls : Array Slot} {m : Mem} {x0 x3 x4 x5 x6 : Int} (C : CallFix p mt c cX0_find 9 s args tb RX0) (S : Wd G A s H0 ad g m H locs) (hx0 : gk g x0 = 1) (hx3 : gk g x3 = 2) (hx4 : r32 x4) (hx5 : gk g x5 = 10) (hx6 : r32 x6) (hl : lv_has ls 9 [(0, .ref (ad x0)), (3, .ref (ad x3)), (4, .int (iI x4)), (5, .ref (ad x5)), (6, .int (iI x6))]) (hle : cells ≤ mc ∧ slots ≤ msl) {c1 : Int} {s1 : (Int × Mem)} (hF : bX0_find_42 x0 x3 x4 x5 x6 g m = some (c1, s1)) (K0 : c1 = 0 → ∀ (H : Heap) (locs : List Loc) (ls : Array Slot), r32 s1.1 → Wd G A s H0 ad g s1.2 H locs → lv_has ls 9 [(0, .ref (ad x0)), (3, .ref (ad x3)), (4, .int (iI x4)), (5, .ref (ad x5)), (6, .int (iI s1.1))] → W p l e (rX0_find mc msl) s mt args below meth c H locs cells slots Q (F0 mt 42 ls [])) (K1 : c1 = 1 → ∀ (H : Heap) (locs : List Loc) (ls : Array Slot), Wd G A s H0 ad g s1.2 H locs → lv_has ls 9 [(0, .ref (ad x0)), (3, .ref (ad x3)), (4, .int (iI x4)), (5, .ref (ad x5))] → W p l e (rX0_find mc msl) s mt args below meth c H locs cells slots Q (F0 mt 135 ls [])) : W p l e (rX0_find mc msl) s mt args below meth c H locs cells slots Q (F0 mt 42 ls []) := by
  unfold bX0_find_42 at hF
  refine q_iload C hl 4 rfl dX0_find_42 ?_
  refine q_aload_n C hl 0 rfl rfl dX0_find_44 ?_
  obtain ⟨k1, hF⟩ := ck_ok hF
  refine q_getr C S 0 fo_RX0_14 (j := 0) rfl rfl hx0 k1 (by decide) dX0_find_45 ?_
  refine q_geti C S 2 fo_RX0_49 (j := 2) rfl rfl k1 dX0_find_48 ?_
  refine q_icmp_ge C hx6 (S.r _ _) 135 dX0_find_51 (by decide) (fun hc2 => ?_) (fun hc2 => ?_)
  · have hF := if_t hc2 hF
    cases hF
    exact K1 rfl _ _ _  S (lv_sub hl [0, 1, 2, 3] rfl)
  · have hF := if_f hc2 hF
    refine q_iconst C 1 dX0_find_54 ?_
    refine q_istore C hl [(7, .int (iI 1)), (0, .ref (ad x0)), (3, .ref (ad x3)), (4, .int (iI x4)), (5, .ref (ad x5)), (6, .int (iI x6))] rfl (by decide) rfl dX0_find_55 (fun ls hl => ?_)
    obtain ⟨cv3, sv4, hi5, hF⟩ := bdl_ok hF
    refine lX0_find_57 C hx0 hx3 hx4 hx5 hx6 hle hi5 ?_ _ _ _ (rl 1 rfl) S (lv_sub hl [1, 2, 3, 4, 5, 0] rfl)
    intro _ H locs ls  S6 hl
    exact wX0_find_129 C S6 hx0 hx3 hx4 hx5 hx6 (lv_sub hl [0, 1, 2, 3, 4] rfl) hle hF K0 K1
set_option maxRecDepth 20000 in
theorem lX0_find_42 {p : Program} {l : Launch} {e : Env} {s : State} {mt : MethodId} {args : Array Value} {below : List Frame} {meth : Method} {c : Code} {Q : State → Prop} {G : Gl} {A : Nat → Prop} {H0 : Heap} {ad : Int → Nat} {g : Shp} {cells slots mc msl : Nat} {x0 x3 x4 x5 : Int} (C : CallFix p mt c cX0_find 9 s args tb RX0) (hx0 : gk g x0 = 1) (hx3 : gk g x3 = 2) (hx4 : r32 x4) (hx5 : gk g x5 = 10) (hle : cells ≤ mc ∧ slots ≤ msl) {n : Nat} {s0 s1 : (Int × Mem)} {c1 : Int} (hI : iter (BX0_find_42 x0 x3 x4 x5 g) n s0 = some (c1, s1)) (K1 : c1 = 1 → ∀ (H : Heap) (locs : List Loc) (ls : Array Slot), Wd G A s H0 ad g s1.2 H locs → lv_has ls 9 [(0, .ref (ad x0)), (3, .ref (ad x3)), (4, .int (iI x4)), (5, .ref (ad x5))] → W p l e (rX0_find mc msl) s mt args below meth c H locs cells slots Q (F0 mt 135 ls [])) : ∀ (H : Heap) (locs : List Loc) (ls : Array Slot), r32 s0.1 → Wd G A s H0 ad g s0.2 H locs → lv_has ls 9 [(0, .ref (ad x0)), (3, .ref (ad x3)), (4, .int (iI x4)), (5, .ref (ad x5)), (6, .int (iI s0.1))] → W p l e (rX0_find mc msl) s mt args below meth c H locs cells slots Q (F0 mt 42 ls []) :=
  iter_W (Pw := fun q => ∀ (H : Heap) (locs : List Loc) (ls : Array Slot), r32 q.1 → Wd G A s H0 ad g q.2 H locs → lv_has ls 9 [(0, .ref (ad x0)), (3, .ref (ad x3)), (4, .int (iI x4)), (5, .ref (ad x5)), (6, .int (iI q.1))] → W p l e (rX0_find mc msl) s mt args below meth c H locs cells slots Q (F0 mt 42 ls [])) (Px := fun c0 q => (c0 = 1 → ∀ (H : Heap) (locs : List Loc) (ls : Array Slot), Wd G A s H0 ad g q.2 H locs → lv_has ls 9 [(0, .ref (ad x0)), (3, .ref (ad x3)), (4, .int (iI x4)), (5, .ref (ad x5))] → W p l e (rX0_find mc msl) s mt args below meth c H locs cells slots Q (F0 mt 135 ls [])))
    (fun s c s' hB K0 kx H locs ls f0 S hl => wX0_find_42 C S hx0 hx3 hx4 hx5 f0 hl hle hB K0 (fun h9 => (kx (by rw [h9]; decide)) h9)) _ _ _ _ hI K1
set_option maxRecDepth 20000 in
theorem wX0_find_232 {p : Program} {l : Launch} {e : Env} {s : State} {mt : MethodId} {args : Array Value} {below : List Frame} {meth : Method} {c : Code} {Q : State → Prop} {G : Gl} {A : Nat → Prop} {H0 : Heap} {ad : Int → Nat} {g : Shp} {cells slots mc msl : Nat} {H : Heap} {locs : List Loc} {ls : Array Slot} {m : Mem} {x0 x5 x6 : Int} (C : CallFix p mt c cX0_find 9 s args tb RX0) (S : Wd G A s H0 ad g m H locs) (hx0 : gk g x0 = 1) (hx5 : gk g x5 = 10) (hx6 : r32 x6) (hl : lv_has ls 9 [(0, .ref (ad x0)), (5, .ref (ad x5)), (6, .int (iI x6))]) (hle : cells ≤ mc ∧ slots ≤ msl) {c1 : Int} {s1 : (Int × Mem)} (hF : bX0_find_232 x0 x5 x6 g m = some (c1, s1)) (K0 : c1 = 0 → ∀ (H : Heap) (locs : List Loc) (ls : Array Slot), r32 s1.1 → Wd G A s H0 ad g s1.2 H locs → lv_has ls 9 [(0, .ref (ad x0)), (5, .ref (ad x5)), (6, .int (iI s1.1))] → W p l e (rX0_find mc msl) s mt args below meth c H locs cells slots Q (F0 mt 232 ls [])) (K1 : c1 = 1 → ∀ (H : Heap) (locs : List Loc) (ls : Array Slot), Wd G A s H0 ad g s1.2 H locs → lv_has ls 9 [] → W p l e (rX0_find mc msl) s mt args below meth c H locs cells slots Q (F0 mt 265 ls [])) : W p l e (rX0_find mc msl) s mt args below meth c H locs cells slots Q (F0 mt 232 ls []) := by
  unfold bX0_find_232 at hF
  refine q_iload C hl 2 rfl dX0_find_232 ?_
  refine q_bipush C 18 (by decide) dX0_find_234 ?_
  refine q_icmp_ge C hx6 (rl 18 rfl) 265 dX0_find_236 (by decide) (fun hc1 => ?_) (fun hc1 => ?_)
  · have hF := if_t hc1 hF
    cases hF
    exact K1 rfl _ _ _  S (lv_sub hl [] rfl)
  · have hF := if_f hc1 hF
    refine q_aload_n C hl 0 rfl rfl dX0_find_239 ?_
    refine q_geti C S 6 fo_RX0_92 (j := 6) rfl rfl hx0 dX0_find_240 ?_
    refine q_aload_n C hl 0 rfl rfl dX0_find_243 ?_
    obtain ⟨k2, hF⟩ := ck_ok hF
    refine q_getr C S 0 fo_RX0_14 (j := 0) rfl rfl hx0 k2 (by decide) dX0_find_244 ?_
    refine q_geti C S 2 fo_RX0_49 (j := 2) rfl rfl k2 dX0_find_247 ?_
    refine q_icmp_ge C (S.r _ _) (S.r _ _) 265 dX0_find_250 (by decide) (fun hc3 => ?_) (fun hc3 => ?_)
    · have hF := if_t hc3 hF
      cases hF
      exact K1 rfl _ _ _  S (lv_sub hl [] rfl)
    · have hF := if_f hc3 hF
      refine q_aload_n C hl 0 rfl rfl dX0_find_253 ?_
      refine q_aload C hl 1 rfl dX0_find_254 ?_
      obtain ⟨v4, m5, h6, hF⟩ := bd2_ok hF
      refine q_cv S (run_V (As := [.ref (ad x5)]) (rest := []) C S (cX0_setStone_ok l G hx0 hx5 h6 ad _) hx0 ⟨by decide, _, _, rfl⟩ gd_RX0_116 hdV_X0_setStone rfl ⟨rfl, rfl, (Nat.le_of_ble_eq_true rfl), (Nat.le_of_ble_eq_true rfl)⟩ hle hl.1 rfl (Nat.le_of_ble_eq_true rfl) dX0_find_256) (fun H locs Sm5 => ?_)
      obtain ⟨y7, ey7, hF⟩ := vv_ok hF
      have ry7 : r32 y7 := ey7 ▸ r32_w _
      refine q_iinc C hl 2 [(6, .int (iI y7)), (0, .ref (ad x0)), (5, .ref (ad x5))] rfl ey7 (by decide) rfl dX0_find_259 (fun ls hl => ?_)
      refine q_goto C 232 dX0_find_262 (by decide) ?_
      cases hF
      exact K0 rfl _ _ _ ry7 Sm5 (lv_sub hl [1, 2, 0] rfl)
set_option maxRecDepth 20000 in
theorem lX0_find_232 {p : Program} {l : Launch} {e : Env} {s : State} {mt : MethodId} {args : Array Value} {below : List Frame} {meth : Method} {c : Code} {Q : State → Prop} {G : Gl} {A : Nat → Prop} {H0 : Heap} {ad : Int → Nat} {g : Shp} {cells slots mc msl : Nat} {x0 x5 : Int} (C : CallFix p mt c cX0_find 9 s args tb RX0) (hx0 : gk g x0 = 1) (hx5 : gk g x5 = 10) (hle : cells ≤ mc ∧ slots ≤ msl) {n : Nat} {s0 s1 : (Int × Mem)} {c1 : Int} (hI : iter (BX0_find_232 x0 x5 g) n s0 = some (c1, s1)) (K1 : c1 = 1 → ∀ (H : Heap) (locs : List Loc) (ls : Array Slot), Wd G A s H0 ad g s1.2 H locs → lv_has ls 9 [] → W p l e (rX0_find mc msl) s mt args below meth c H locs cells slots Q (F0 mt 265 ls [])) : ∀ (H : Heap) (locs : List Loc) (ls : Array Slot), r32 s0.1 → Wd G A s H0 ad g s0.2 H locs → lv_has ls 9 [(0, .ref (ad x0)), (5, .ref (ad x5)), (6, .int (iI s0.1))] → W p l e (rX0_find mc msl) s mt args below meth c H locs cells slots Q (F0 mt 232 ls []) :=
  iter_W (Pw := fun q => ∀ (H : Heap) (locs : List Loc) (ls : Array Slot), r32 q.1 → Wd G A s H0 ad g q.2 H locs → lv_has ls 9 [(0, .ref (ad x0)), (5, .ref (ad x5)), (6, .int (iI q.1))] → W p l e (rX0_find mc msl) s mt args below meth c H locs cells slots Q (F0 mt 232 ls [])) (Px := fun c0 q => (c0 = 1 → ∀ (H : Heap) (locs : List Loc) (ls : Array Slot), Wd G A s H0 ad g q.2 H locs → lv_has ls 9 [] → W p l e (rX0_find mc msl) s mt args below meth c H locs cells slots Q (F0 mt 265 ls [])))
    (fun s c s' hB K0 kx H locs ls f0 S hl => wX0_find_232 C S hx0 hx5 f0 hl hle hB K0 (fun h9 => (kx (by rw [h9]; decide)) h9)) _ _ _ _ hI K1
theorem xX0_find_265 {g : Shp} {m : Mem} {r : Int} {g' : Shp} {m' : Mem} (hF : bX0_find_265 g m = some (r, g', m')) (hg : gOk g) : gX g g' ∧ gOk g' := by
  unfold bX0_find_265 at hF
  cases hF
  exact ⟨gX.rf _, hg⟩
set_option maxRecDepth 20000 in
theorem wX0_find_265 {p : Program} {l : Launch} {e : Env} {s : State} {mt : MethodId} {args : Array Value} {below : List Frame} {meth : Method} {c : Code} {Q : State → Prop} {G : Gl} {A : Nat → Prop} {H0 : Heap} {ad : Int → Nat} {g : Shp} {ad0 : Int → Nat} {g0 : Shp} {n0 t0 cells slots mc msl : Nat} {H : Heap} {locs : List Loc} {ls : Array Slot} {m : Mem} (C : CallFix p mt c cX0_find 9 s args tb RX0) (S : Wd G A s H0 ad g m H locs)  (hl : lv_has ls 9 []) (hq : aX g0 ad0 ad ∧ gX g0 g) (hn : gn g = n0 + cells ∧ gs g = t0 + slots) {r : Int} {g' : Shp} {m' : Mem} (hF : bX0_find_265 g m = some (r, g', m')) (he : gn g' ≤ n0 + mc ∧ gs g' ≤ t0 + msl) (Kr : ∀ (ad : Int → Nat) (H : Heap) (locs : List Loc) (pc : Nat) (ls : Array Slot) (cells slots : Nat), aX g0 ad0 ad → gn g' = n0 + cells ∧ gs g' = t0 + slots → Wd G A s H0 ad g' m' H locs → decode cX0_find pc = .ok (.return_, 1) → W p l e (rX0_find mc msl) s mt args below meth c H locs cells slots Q (F0 mt pc ls [])) : W p l e (rX0_find mc msl) s mt args below meth c H locs cells slots Q (F0 mt 265 ls []) := by
  have hXx := xX0_find_265 hF S.g
  have hle : cells ≤ mc ∧ slots ≤ msl := by
    have h1 := hXx.1.1
    have h2 := hXx.1.2.1
    omega
  unfold bX0_find_265 at hF
  cases hF
  exact Kr _ _ _ _ _ _ _ hq.1 hn S dX0_find_265
theorem xX0_find_139 {g : Shp} {m : Mem} {x0 x3 x4 x5 : Int} {r : Int} {g' : Shp} {m' : Mem} (hF : bX0_find_139 x0 x3 x4 x5 g m = some (r, g', m')) (hg : gOk g) : gX g g' ∧ gOk g' := by
  unfold bX0_find_139 at hF
  obtain ⟨k1, hF⟩ := ck_ok hF
  obtain ⟨k2, hF⟩ := ck_ok hF
  obtain ⟨h3, hF⟩ := ck_ok hF
  obtain ⟨m4, em4, hF⟩ := vm_ok hF
  obtain ⟨m5, em5, hF⟩ := vm_ok hF
  obtain ⟨v6, m7, h8, hF⟩ := bd2_ok hF
  obtain ⟨m10, em10, hF⟩ := vm_ok hF
  obtain ⟨k11, hF⟩ := ck_ok hF
  obtain ⟨i12, hF⟩ := ck_ok hF
  obtain ⟨i13, hF⟩ := ck_ok hF
  obtain ⟨i14, hF⟩ := ck_ok hF
  obtain ⟨v15, m16, h17, hF⟩ := bd2_ok hF
  obtain ⟨m19, em19, hF⟩ := vm_ok hF
  by_cases hc20 : (m19 x0 8) < 1048576
  · have hF := if_t hc20 hF
    obtain ⟨m21, em21, hF⟩ := vm_ok hF
    obtain ⟨m22, em22, hF⟩ := vm_ok hF
    obtain ⟨cv23, sv24, hi25, hF⟩ := bdl_ok hF
    exact xX0_find_265 hF hg
  · have hF := if_f hc20 hF
    cases hF
    exact ⟨gX.rf _, hg⟩
set_option maxRecDepth 20000 in
theorem wX0_find_139 {p : Program} {l : Launch} {e : Env} {s : State} {mt : MethodId} {args : Array Value} {below : List Frame} {meth : Method} {c : Code} {Q : State → Prop} {G : Gl} {A : Nat → Prop} {H0 : Heap} {ad : Int → Nat} {g : Shp} {ad0 : Int → Nat} {g0 : Shp} {n0 t0 cells slots mc msl : Nat} {H : Heap} {locs : List Loc} {ls : Array Slot} {m : Mem} {x0 x3 x4 x5 : Int} (C : CallFix p mt c cX0_find 9 s args tb RX0) (S : Wd G A s H0 ad g m H locs) (hx0 : gk g x0 = 1) (hx3 : gk g x3 = 2) (hx4 : r32 x4) (hx5 : gk g x5 = 10) (hl : lv_has ls 9 [(0, .ref (ad x0)), (3, .ref (ad x3)), (4, .int (iI x4)), (5, .ref (ad x5))]) (hq : aX g0 ad0 ad ∧ gX g0 g) (hn : gn g = n0 + cells ∧ gs g = t0 + slots) {r : Int} {g' : Shp} {m' : Mem} (hF : bX0_find_139 x0 x3 x4 x5 g m = some (r, g', m')) (he : gn g' ≤ n0 + mc ∧ gs g' ≤ t0 + msl) (Kr : ∀ (ad : Int → Nat) (H : Heap) (locs : List Loc) (pc : Nat) (ls : Array Slot) (cells slots : Nat), aX g0 ad0 ad → gn g' = n0 + cells ∧ gs g' = t0 + slots → Wd G A s H0 ad g' m' H locs → decode cX0_find pc = .ok (.return_, 1) → W p l e (rX0_find mc msl) s mt args below meth c H locs cells slots Q (F0 mt pc ls [])) : W p l e (rX0_find mc msl) s mt args below meth c H locs cells slots Q (F0 mt 139 ls []) := by
  have hXx := xX0_find_139 hF S.g
  have hle : cells ≤ mc ∧ slots ≤ msl := by
    have h1 := hXx.1.1
    have h2 := hXx.1.2.1
    omega
  unfold bX0_find_139 at hF
  refine q_aload_n C hl 1 rfl rfl dX0_find_139 ?_
  obtain ⟨k1, hF⟩ := ck_ok hF
  refine q_getr C S 1 fo_RX0_83 (j := 1) rfl rfl hx3 k1 (by decide) dX0_find_140 ?_
  refine q_iload C hl 2 rfl dX0_find_143 ?_
  refine q_iconst C 3 dX0_find_145 ?_
  refine q_imul C dX0_find_146 ?_
  refine q_aload_n C hl 0 rfl rfl dX0_find_147 ?_
  obtain ⟨k2, hF⟩ := ck_ok hF
  refine q_getr C S 4 fo_RX0_31 (j := 4) rfl rfl hx0 k2 (by decide) dX0_find_148 ?_
  refine q_iconst C 0 dX0_find_151 ?_
  refine q_iconst C 3 dX0_find_152 ?_
  obtain ⟨h3, hF⟩ := ck_ok hF
  obtain ⟨m4, em4, hF⟩ := vm_ok hF
  refine q_acopy C S ⟨tw690, tw517, tw516, tw80⟩ hl.1 k1 k2 h3.1 h3.2.1 h3.2.2.1 h3.2.2.2.1 h3.2.2.2.2 (Nat.le_of_ble_eq_true rfl) (Nat.le_of_ble_eq_true rfl) em4 dX0_find_153 (fun H locs Sm4 => ?_)
  refine q_aload_n C hl 0 rfl rfl dX0_find_156 ?_
  refine q_iconst C 0 dX0_find_157 ?_
  obtain ⟨m5, em5, hF⟩ := vm_ok hF
  refine q_put C Sm4 6 fo_RX0_92 fp_1_6 (fun h9 => absurd h9 (by decide)) (j := 6) rfl hx0 rfl rfl rfl (rl 0 rfl) (fun h9 => absurd h9 (by decide)) em5 dX0_find_158 (fun H locs Sm5 => ?_)
  refine q_aload_n C hl 0 rfl rfl dX0_find_161 ?_
  refine q_aload_n C hl 0 rfl rfl dX0_find_162 ?_
  refine q_iconst C 0 dX0_find_163 ?_
  obtain ⟨v6, m7, h8, hF⟩ := bd2_ok hF
  refine q_ci Sm5 (run_V (As := [.int (iI 0)]) (rest := [.ref (ad x0)]) C Sm5 (cX0_cellsOf_ok l G hx0 (rl 0 rfl) h8 ad _) hx0 ⟨by decide, _, _, rfl⟩ gd_RX0_95 hdV_X0_cellsOf rfl ⟨rfl, rfl, (Nat.le_of_ble_eq_true rfl), (Nat.le_of_ble_eq_true rfl)⟩ hle hl.1 rfl (Nat.le_of_ble_eq_true rfl) dX0_find_164) (fun H locs Sm7 h9 => ?_)
  obtain ⟨m10, em10, hF⟩ := vm_ok hF
  refine q_put C Sm7 7 fo_RX0_99 fp_1_7 (fun h9 => absurd h9 (by decide)) (j := 7) rfl hx0 rfl rfl rfl h9.1 (fun h9 => absurd h9 (by decide)) em10 dX0_find_167 (fun H locs Sm10 => ?_)
  refine q_aload_n C hl 0 rfl rfl dX0_find_170 ?_
  refine q_aload_n C hl 0 rfl rfl dX0_find_171 ?_
  refine q_iconst C 0 dX0_find_172 ?_
  refine q_aload_n C hl 0 rfl rfl dX0_find_173 ?_
  refine q_geti C Sm10 7 fo_RX0_99 (j := 7) rfl rfl hx0 dX0_find_174 ?_
  refine q_aload_n C hl 0 rfl rfl dX0_find_177 ?_
  obtain ⟨k11, hF⟩ := ck_ok hF
  refine q_getr C Sm10 4 fo_RX0_31 (j := 4) rfl rfl hx0 k11 (by decide) dX0_find_178 ?_
  refine q_iconst C 0 dX0_find_181 ?_
  obtain ⟨i12, hF⟩ := ck_ok hF
  refine q_iald C Sm10 k11 i12 dX0_find_182 ?_
  refine q_aload_n C hl 0 rfl rfl dX0_find_183 ?_
  refine q_getr C Sm10 4 fo_RX0_31 (j := 4) rfl rfl hx0 k11 (by decide) dX0_find_184 ?_
  refine q_iconst C 1 dX0_find_187 ?_
  obtain ⟨i13, hF⟩ := ck_ok hF
  refine q_iald C Sm10 k11 i13 dX0_find_188 ?_
  refine q_aload_n C hl 0 rfl rfl dX0_find_189 ?_
  refine q_getr C Sm10 4 fo_RX0_31 (j := 4) rfl rfl hx0 k11 (by decide) dX0_find_190 ?_
  refine q_iconst C 2 dX0_find_193 ?_
  obtain ⟨i14, hF⟩ := ck_ok hF
  refine q_iald C Sm10 k11 i14 dX0_find_194 ?_
  obtain ⟨v15, m16, h17, hF⟩ := bd2_ok hF
  refine q_ci Sm10 (run_V (As := [.int (iI 0), .int (iI (m10 x0 7)), .int (iI (m10 (m10 x0 4) 0)), .int (iI (m10 (m10 x0 4) 1)), .int (iI (m10 (m10 x0 4) 2))]) (rest := [.ref (ad x0)]) C Sm10 (cX0_worthOf_ok l G 24 hx0 (rl 0 rfl) (Sm10.r _ _) (Sm10.r _ _) (Sm10.r _ _) (Sm10.r _ _) h17 ad _) hx0 ⟨by decide, _, _, rfl⟩ gd_RX0_102 hdV_X0_worthOf rfl ⟨rfl, rfl, (Nat.le_of_ble_eq_true rfl), (Nat.le_of_ble_eq_true rfl)⟩ hle hl.1 rfl (Nat.le_of_ble_eq_true rfl) dX0_find_195) (fun H locs Sm16 h18 => ?_)
  obtain ⟨m19, em19, hF⟩ := vm_ok hF
  refine q_put C Sm16 8 fo_RX0_106 fp_1_8 (fun h9 => absurd h9 (by decide)) (j := 8) rfl hx0 rfl rfl rfl h18.1 (fun h9 => absurd h9 (by decide)) em19 dX0_find_198 (fun H locs Sm19 => ?_)
  refine q_aload_n C hl 0 rfl rfl dX0_find_201 ?_
  refine q_geti C Sm19 8 fo_RX0_106 (j := 8) rfl rfl hx0 dX0_find_202 ?_
  refine q_ldc C 1048576 (by decide) tw724 dX0_find_205 ?_
  refine q_icmp_lt C (Sm19.r _ _) (rl 1048576 rfl) 211 dX0_find_207 (by decide) (fun hc20 => ?_) (fun hc20 => ?_)
  · have hF := if_t hc20 hF
    refine q_aload C hl 3 rfl dX0_find_211 ?_
    refine q_iconst C 1 dX0_find_213 ?_
    obtain ⟨m21, em21, hF⟩ := vm_ok hF
    refine q_put C Sm19 7 fo_RX0_110 fp_10_7 (fun h9 => absurd h9 (by decide)) (j := 7) rfl hx5 rfl (nr_b b_1) (ft_b b_1) (rl 1 rfl) (fun h9 => absurd h9 (by decide)) em21 dX0_find_214 (fun H locs Sm21 => ?_)
    refine q_aload C hl 3 rfl dX0_find_217 ?_
    refine q_aload_n C hl 0 rfl rfl dX0_find_219 ?_
    refine q_geti C Sm21 8 fo_RX0_106 (j := 8) rfl rfl hx0 dX0_find_220 ?_
    refine q_bipush C 32 (by decide) dX0_find_223 ?_
    refine q_idiv C (Sm21.r _ _) (rl 32 rfl) (by decide) dX0_find_225 ?_
    obtain ⟨m22, em22, hF⟩ := vm_ok hF
    refine q_put C Sm21 5 fo_RX0_113 fp_10_5 (fun h9 => absurd h9 (by decide)) (j := 5) rfl hx5 rfl rfl rfl (r32_w _) (fun h9 => absurd h9 (by decide)) em22 dX0_find_226 (fun H locs Sm22 => ?_)
    refine q_iconst C 0 dX0_find_229 ?_
    refine q_istore C hl [(6, .int (iI 0)), (0, .ref (ad x0)), (3, .ref (ad x3)), (4, .int (iI x4)), (5, .ref (ad x5))] rfl (by decide) rfl dX0_find_230 (fun ls hl => ?_)
    obtain ⟨cv23, sv24, hi25, hF⟩ := bdl_ok hF
    refine lX0_find_232 C hx0 hx5 hle hi25 ?_ _ _ _ (rl 0 rfl) Sm22 (lv_sub hl [1, 4, 0] rfl)
    intro _ H locs ls  S26 hl
    exact wX0_find_265 C S26  (lv_sub hl [] rfl) hq hn hF he Kr
  · have hF := if_f hc20 hF
    cases hF
    exact Kr _ _ _ _ _ _ _ hq.1 hn Sm19 dX0_find_210
theorem xX0_find_135 {g : Shp} {m : Mem} {x0 x3 x4 x5 : Int} {r : Int} {g' : Shp} {m' : Mem} (hF : bX0_find_135 x0 x3 x4 x5 g m = some (r, g', m')) (hg : gOk g) : gX g g' ∧ gOk g' := by
  unfold bX0_find_135 at hF
  obtain ⟨v1, g2, m3, h4, hF⟩ := bd3_ok hF
  have hX3 := xX0_forgetWorths_f h4 hg
  have hG2 := hX3.2
  have hX2 := hX3.1
  exact gX2 hX2 (xX0_find_139 hF hG2)
set_option maxRecDepth 20000 in
theorem wX0_find_135 {p : Program} {l : Launch} {e : Env} {s : State} {mt : MethodId} {args : Array Value} {below : List Frame} {meth : Method} {c : Code} {Q : State → Prop} {G : Gl} {A : Nat → Prop} {H0 : Heap} {ad : Int → Nat} {g : Shp} {ad0 : Int → Nat} {g0 : Shp} {n0 t0 cells slots mc msl : Nat} {H : Heap} {locs : List Loc} {ls : Array Slot} {m : Mem} {x0 x3 x4 x5 : Int} (C : CallFix p mt c cX0_find 9 s args tb RX0) (S : Wd G A s H0 ad g m H locs) (hx0 : gk g x0 = 1) (hx3 : gk g x3 = 2) (hx4 : r32 x4) (hx5 : gk g x5 = 10) (hl : lv_has ls 9 [(0, .ref (ad x0)), (3, .ref (ad x3)), (4, .int (iI x4)), (5, .ref (ad x5))]) (hq : aX g0 ad0 ad ∧ gX g0 g) (hn : gn g = n0 + cells ∧ gs g = t0 + slots) {r : Int} {g' : Shp} {m' : Mem} (hF : bX0_find_135 x0 x3 x4 x5 g m = some (r, g', m')) (he : gn g' ≤ n0 + mc ∧ gs g' ≤ t0 + msl) (Kr : ∀ (ad : Int → Nat) (H : Heap) (locs : List Loc) (pc : Nat) (ls : Array Slot) (cells slots : Nat), aX g0 ad0 ad → gn g' = n0 + cells ∧ gs g' = t0 + slots → Wd G A s H0 ad g' m' H locs → decode cX0_find pc = .ok (.return_, 1) → W p l e (rX0_find mc msl) s mt args below meth c H locs cells slots Q (F0 mt pc ls [])) : W p l e (rX0_find mc msl) s mt args below meth c H locs cells slots Q (F0 mt 135 ls []) := by
  have hXx := xX0_find_135 hF S.g
  have hle : cells ≤ mc ∧ slots ≤ msl := by
    have h1 := hXx.1.1
    have h2 := hXx.1.2.1
    omega
  unfold bX0_find_135 at hF
  refine q_aload_n C hl 0 rfl rfl dX0_find_135 ?_
  obtain ⟨v1, g2, m3, h4, hF⟩ := bd3_ok hF
  have hX3 := xX0_forgetWorths_f h4 S.g
  have hG2 := hX3.2
  have hX2 := hX3.1
  have hXr := (xX0_find_139 hF hG2).1
  refine q_cvA S (run_V (As := []) (rest := []) C S (cX0_forgetWorths_ok l G hx0 h4 ad _) hx0 ⟨by decide, _, _, rfl⟩ gd_RX0_80 hdV_X0_forgetWorths rfl ⟨rfl, rfl, (Nat.le_of_ble_eq_true rfl), (Nat.le_of_ble_eq_true rfl)⟩ (by have h1 := hXr.1; have h2 := hXr.2.1; have h3 := hX2.1; have h4 := hX2.2.1; exact ⟨by show _ ≤ mc; omega, by show _ ≤ msl; omega⟩) hl.1 rfl (Nat.le_of_ble_eq_true rfl) dX0_find_136) (fun ad5 H locs hax Sm3 => ?_)
  have hq : aX g0 ad0 ad5 ∧ gX g0 g2 := ⟨hq.1.tr hq.2 hax, hq.2.tr hX2⟩
  have hn : gn g2 = n0 + (cells + (gn g2 - gn g)) ∧ gs g2 = t0 + (slots + (gs g2 - gs g)) := by have h3 := hX2.1; have h4 := hX2.2.1; omega
  have k6 := hX2.k hx0 (by decide)
  have ak6 : ad5 x0 = ad x0 := hax _ (kz hx0 (by decide))
  have k7 := hX2.k hx3 (by decide)
  have ak7 : ad5 x3 = ad x3 := hax _ (kz hx3 (by decide))
  have k8 := hX2.k hx5 (by decide)
  have ak8 : ad5 x5 = ad x5 := hax _ (kz hx5 (by decide))
  rw [← ak6] at hl
  rw [← ak7] at hl
  rw [← ak8] at hl
  exact wX0_find_139 C Sm3 k6 k7 hx4 k8 (lv_sub hl [0, 1, 2, 3] rfl) hq hn hF he Kr
theorem xX0_find_0 {g : Shp} {m : Mem} {x0 x1 x2 x3 x4 x5 : Int} {r : Int} {g' : Shp} {m' : Mem} (hF : bX0_find_0 x0 x1 x2 x3 x4 x5 g m = some (r, g', m')) (hg : gOk g) : gX g g' ∧ gOk g' := by
  unfold bX0_find_0 at hF
  obtain ⟨v1, m2, h3, hF⟩ := bd2_ok hF
  obtain ⟨k4, hF⟩ := ck_ok hF
  obtain ⟨k5, hF⟩ := ck_ok hF
  obtain ⟨v6, m7, h8, hF⟩ := bd2_ok hF
  obtain ⟨k9, hF⟩ := ck_ok hF
  by_cases hc10 : (m7 (m7 x0 0) 2) ≤ 18
  · have hF := if_t hc10 hF
    obtain ⟨v11, m12, h13, hF⟩ := bd2_ok hF
    obtain ⟨cv14, sv15, hi16, hF⟩ := bdl_ok hF
    exact xX0_find_135 hF hg
  · have hF := if_f hc10 hF
    cases hF
    exact ⟨gX.rf _, hg⟩
set_option maxRecDepth 20000 in
theorem wX0_find_0 {p : Program} {l : Launch} {e : Env} {s : State} {mt : MethodId} {args : Array Value} {below : List Frame} {meth : Method} {c : Code} {Q : State → Prop} {G : Gl} {A : Nat → Prop} {H0 : Heap} {ad : Int → Nat} {g : Shp} {ad0 : Int → Nat} {g0 : Shp} {n0 t0 cells slots mc msl : Nat} {H : Heap} {locs : List Loc} {ls : Array Slot} {m : Mem} {x0 x1 x2 x3 x4 x5 : Int} (C : CallFix p mt c cX0_find 9 s args tb RX0) (S : Wd G A s H0 ad g m H locs) (hx0 : gk g x0 = 1) (hx1 : gk g x1 = 6) (hx2 : gk g x2 = 20) (hx3 : gk g x3 = 2) (hx4 : r32 x4) (hx5 : gk g x5 = 10) (hl : lv_has ls 9 [(0, .ref (ad x0)), (1, .ref (ad x1)), (2, .ref (ad x2)), (3, .ref (ad x3)), (4, .int (iI x4)), (5, .ref (ad x5))]) (hq : aX g0 ad0 ad ∧ gX g0 g) (hn : gn g = n0 + cells ∧ gs g = t0 + slots) {r : Int} {g' : Shp} {m' : Mem} (hF : bX0_find_0 x0 x1 x2 x3 x4 x5 g m = some (r, g', m')) (he : gn g' ≤ n0 + mc ∧ gs g' ≤ t0 + msl) (Kr : ∀ (ad : Int → Nat) (H : Heap) (locs : List Loc) (pc : Nat) (ls : Array Slot) (cells slots : Nat), aX g0 ad0 ad → gn g' = n0 + cells ∧ gs g' = t0 + slots → Wd G A s H0 ad g' m' H locs → decode cX0_find pc = .ok (.return_, 1) → W p l e (rX0_find mc msl) s mt args below meth c H locs cells slots Q (F0 mt pc ls [])) : W p l e (rX0_find mc msl) s mt args below meth c H locs cells slots Q (F0 mt 0 ls []) := by
  have hXx := xX0_find_0 hF S.g
  have hle : cells ≤ mc ∧ slots ≤ msl := by
    have h1 := hXx.1.1
    have h2 := hXx.1.2.1
    omega
  unfold bX0_find_0 at hF
  refine q_aload C hl 5 rfl dX0_find_0 ?_
  obtain ⟨v1, m2, h3, hF⟩ := bd2_ok hF
  refine q_cv S (run_V (As := []) (rest := []) C S (cX9_clear_ok l G hx5 h3 ad _) hx5 ⟨by decide, _, _, rfl⟩ gd_RX0_35 hdV_X9_clear rfl ⟨rfl, rfl, (Nat.le_of_ble_eq_true rfl), (Nat.le_of_ble_eq_true rfl)⟩ hle hl.1 rfl (Nat.le_of_ble_eq_true rfl) dX0_find_2) (fun H locs Sm2 => ?_)
  refine q_aload_n C hl 0 rfl rfl dX0_find_5 ?_
  obtain ⟨k4, hF⟩ := ck_ok hF
  refine q_getr C Sm2 0 fo_RX0_14 (j := 0) rfl rfl hx0 k4 (by decide) dX0_find_6 ?_
  refine q_aload_n C hl 1 rfl rfl dX0_find_9 ?_
  refine q_aload_n C hl 3 rfl rfl dX0_find_10 ?_
  obtain ⟨k5, hF⟩ := ck_ok hF
  refine q_getr C Sm2 0 fo_RX0_40 (j := 0) rfl rfl hx3 k5 (by decide) dX0_find_11 ?_
  obtain ⟨v6, m7, h8, hF⟩ := bd2_ok hF
  refine q_cv Sm2 (run_V (As := [.ref (ad x1), .ref (ad (m2 x3 0))]) (rest := []) C Sm2 (cX6_split_ok l G k4 hx1 k5 h8 ad _) k4 ⟨by decide, _, _, rfl⟩ gd_RX0_45 hdV_X6_split rfl ⟨rfl, rfl, (Nat.le_of_ble_eq_true rfl), (Nat.le_of_ble_eq_true rfl)⟩ hle hl.1 rfl (Nat.le_of_ble_eq_true rfl) dX0_find_14) (fun H locs Sm7 => ?_)
  refine q_aload_n C hl 0 rfl rfl dX0_find_17 ?_
  obtain ⟨k9, hF⟩ := ck_ok hF
  refine q_getr C Sm7 0 fo_RX0_14 (j := 0) rfl rfl hx0 k9 (by decide) dX0_find_18 ?_
  refine q_geti C Sm7 2 fo_RX0_49 (j := 2) rfl rfl k9 dX0_find_21 ?_
  refine q_bipush C 18 (by decide) dX0_find_24 ?_
  refine q_icmp_le C (Sm7.r _ _) (rl 18 rfl) 30 dX0_find_26 (by decide) (fun hc10 => ?_) (fun hc10 => ?_)
  · have hF := if_t hc10 hF
    refine q_aload_n C hl 0 rfl rfl dX0_find_30 ?_
    refine q_aload_n C hl 2 rfl rfl dX0_find_31 ?_
    refine q_aload_n C hl 3 rfl rfl dX0_find_32 ?_
    refine q_geti C Sm7 7 fo_RX0_53 (j := 7) rfl rfl hx3 dX0_find_33 ?_
    obtain ⟨v11, m12, h13, hF⟩ := bd2_ok hF
    refine q_cv Sm7 (run_V (As := [.ref (ad x2), .int (iI (m7 x3 7))]) (rest := []) C Sm7 (cX0_keepSizes_ok l G hx0 hx2 (Sm7.r _ _) h13 ad _) hx0 ⟨by decide, _, _, rfl⟩ gd_RX0_56 hdV_X0_keepSizes rfl ⟨rfl, rfl, (Nat.le_of_ble_eq_true rfl), (Nat.le_of_ble_eq_true rfl)⟩ hle hl.1 rfl (Nat.le_of_ble_eq_true rfl) dX0_find_36) (fun H locs Sm12 => ?_)
    refine q_iconst C 0 dX0_find_39 ?_
    refine q_istore C hl [(6, .int (iI 0)), (0, .ref (ad x0)), (1, .ref (ad x1)), (2, .ref (ad x2)), (3, .ref (ad x3)), (4, .int (iI x4)), (5, .ref (ad x5))] rfl (by decide) rfl dX0_find_40 (fun ls hl => ?_)
    obtain ⟨cv14, sv15, hi16, hF⟩ := bdl_ok hF
    refine lX0_find_42 C hx0 hx3 hx4 hx5 hle hi16 ?_ _ _ _ (rl 0 rfl) Sm12 (lv_sub hl [1, 4, 5, 6, 0] rfl)
    intro _ H locs ls  S17 hl
    exact wX0_find_135 C S17 hx0 hx3 hx4 hx5 (lv_sub hl [0, 1, 2, 3] rfl) hq hn hF he Kr
  · have hF := if_f hc10 hF
    cases hF
    exact Kr _ _ _ _ _ _ _ hq.1 hn Sm7 dX0_find_29
theorem xX0_find_f {x0 x1 x2 x3 x4 x5 : Int} {g : Shp} {m : Mem} {r : Int} {g' : Shp} {m' : Mem} (hF : fX0_find x0 x1 x2 x3 x4 x5 g m = some (r, g', m')) (hg : gOk g) : gX g g' ∧ gOk g' := xX0_find_0 hF hg
theorem cX0_find_ok (l : Launch) (G : Gl) {x0 x1 x2 x3 x4 x5 : Int} {g : Shp} {m : Mem} {r : Int} {g' : Shp} {m' : Mem} (hx0 : gk g x0 = 1) (hx1 : gk g x1 = 6) (hx2 : gk g x2 = 20) (hx3 : gk g x3 = 2) (hx4 : r32 x4) (hx5 : gk g x5 = 10) (hF : fX0_find x0 x1 x2 x3 x4 x5 g m = some (r, g', m')) : mVA l yX0_find (wT yX0_find cX0_find 9 none) rX0_find G (fun ad => [.ref (ad x0), .ref (ad x1), .ref (ad x2), .ref (ad x3), .int (iI x4), .ref (ad x5)]) g m g' m' :=
  met_vA (rm := rX0_find) (by decide) (fun ad => Nat.le_of_ble_eq_true rfl) (fun hg => (xX0_find_f hF hg).1) (fun p e s mt args below meth c Q A H0 H locs ad ls mc msl hmc hms C hnm S hl Kr => wX0_find_0 (n0 := gn g) (t0 := gs g) C S hx0 hx1 hx2 hx3 hx4 hx5 hl ⟨fun _ _ => rfl, gX.rf _⟩ ⟨rfl, rfl⟩ hF (by have h9 := (xX0_find_f hF S.g).1; have h1 := h9.1; have h2 := h9.2.1; omega) Kr)
theorem xX1_init_54 {g : Shp} {m : Mem} {z0 z1 : Int} {r : Int} {g' : Shp} {m' : Mem} (hF : bX1_init_54 z0 z1 g m = some (r, g', m')) (hg : gOk g) : gX g g' ∧ gOk g' := by
  unfold bX1_init_54 at hF
  obtain ⟨m1, em1, hF⟩ := vm_ok hF
  cases hF
  exact ⟨gX.rf _, hg⟩
set_option maxRecDepth 20000 in
theorem wX1_init_54 {p : Program} {l : Launch} {e : Env} {s : State} {mt : MethodId} {args : Array Value} {below : List Frame} {meth : Method} {c : Code} {Q : State → Prop} {G : Gl} {A : Nat → Prop} {H0 : Heap} {ad : Int → Nat} {g : Shp} {ad0 : Int → Nat} {g0 : Shp} {n0 t0 cells slots mc msl : Nat} (hnm : meth.name = "<init>") {H : Heap} {locs : List Loc} {ls : Array Slot} {m : Mem} {z0 z1 : Int} (C : CallFix p mt c cX1_init 1 s args tb RX1) (S : Wd G A s H0 ad g m H locs) (hz0 : gk g z0 = 2) (hz1 : gk g z1 = 20) (hl : lv_has ls 1 []) (hq : aX g0 ad0 ad ∧ gX g0 g) (hn : gn g = n0 + cells ∧ gs g = t0 + slots) {r : Int} {g' : Shp} {m' : Mem} (hF : bX1_init_54 z0 z1 g m = some (r, g', m')) (he : gn g' ≤ n0 + mc ∧ gs g' ≤ t0 + msl) (Kr : ∀ (ad : Int → Nat) (H : Heap) (locs : List Loc) (pc : Nat) (ls : Array Slot) (cells slots : Nat), aX g0 ad0 ad → gn g' = n0 + cells ∧ gs g' = t0 + slots → Wd G A s H0 ad g' m' H locs → decode cX1_init pc = .ok (.return_, 1) → W p l e (rX1_init mc msl) s mt args below meth c H locs cells slots Q (F0 mt pc ls [])) : W p l e (rX1_init mc msl) s mt args below meth c H locs cells slots Q (F0 mt 54 ls [.ref (ad z1), .ref (ad z0)]) := by
  have hXx := xX1_init_54 hF S.g
  have hle : cells ≤ mc ∧ slots ≤ msl := by
    have h1 := hXx.1.1
    have h2 := hXx.1.2.1
    omega
  unfold bX1_init_54 at hF
  obtain ⟨m1, em1, hF⟩ := vm_ok hF
  refine q_put C S 6 fo_RX1_30 fp_2_6 (fun _ => ⟨hnm, rfl⟩) (j := 6) rfl hz0 (orf_ok S hz1 (by decide) rfl) rfl rfl (S.k hz1 (by decide)) (fun _ => kz hz1 (by decide)) em1 dX1_init_54 (fun H locs Sm1 => ?_)
  cases hF
  exact Kr _ _ _ _ _ _ _ hq.1 hn Sm1 dX1_init_57
theorem xX1_init_47 {g : Shp} {m : Mem} {x0 z0 z1 : Int} {r : Int} {g' : Shp} {m' : Mem} (hF : bX1_init_47 x0 z0 z1 g m = some (r, g', m')) (hg : gOk g) : gX g g' ∧ gOk g' := by
  unfold bX1_init_47 at hF
  obtain ⟨m1, em1, hF⟩ := vm_ok hF
  obtain ⟨h5, hF⟩ := ck_ok hF
  obtain ⟨g2, eg2, hF⟩ := vg_ok hF
  obtain ⟨m3, em3, hF⟩ := vm_ok hF
  obtain ⟨y4, ey4, hF⟩ := vv_ok hF
  have hG2 := gA_ok hg h5 eg2
  have hX2 := gA_X hg eg2
  exact gX2 hX2 (xX1_init_54 hF hG2)
set_option maxRecDepth 20000 in
theorem wX1_init_47 {p : Program} {l : Launch} {e : Env} {s : State} {mt : MethodId} {args : Array Value} {below : List Frame} {meth : Method} {c : Code} {Q : State → Prop} {G : Gl} {A : Nat → Prop} {H0 : Heap} {ad : Int → Nat} {g : Shp} {ad0 : Int → Nat} {g0 : Shp} {n0 t0 cells slots mc msl : Nat} (hnm : meth.name = "<init>") {H : Heap} {locs : List Loc} {ls : Array Slot} {m : Mem} {x0 z0 z1 : Int} (C : CallFix p mt c cX1_init 1 s args tb RX1) (S : Wd G A s H0 ad g m H locs) (hx0 : gk g x0 = 2) (hz0 : gk g z0 = 2) (hz1 : gk g z1 = 20) (hl : lv_has ls 1 [(0, .ref (ad x0))]) (hq : aX g0 ad0 ad ∧ gX g0 g) (hn : gn g = n0 + cells ∧ gs g = t0 + slots) {r : Int} {g' : Shp} {m' : Mem} (hF : bX1_init_47 x0 z0 z1 g m = some (r, g', m')) (he : gn g' ≤ n0 + mc ∧ gs g' ≤ t0 + msl) (Kr : ∀ (ad : Int → Nat) (H : Heap) (locs : List Loc) (pc : Nat) (ls : Array Slot) (cells slots : Nat), aX g0 ad0 ad → gn g' = n0 + cells ∧ gs g' = t0 + slots → Wd G A s H0 ad g' m' H locs → decode cX1_init pc = .ok (.return_, 1) → W p l e (rX1_init mc msl) s mt args below meth c H locs cells slots Q (F0 mt pc ls [])) : W p l e (rX1_init mc msl) s mt args below meth c H locs cells slots Q (F0 mt 47 ls [.ref (ad z1), .ref (ad z0)]) := by
  have hXx := xX1_init_47 hF S.g
  have hle : cells ≤ mc ∧ slots ≤ msl := by
    have h1 := hXx.1.1
    have h2 := hXx.1.2.1
    omega
  unfold bX1_init_47 at hF
  obtain ⟨m1, em1, hF⟩ := vm_ok hF
  refine q_put C S 5 fo_RX1_27 fp_2_5 (fun _ => ⟨hnm, rfl⟩) (j := 5) rfl hz0 (orf_ok S hz1 (by decide) rfl) rfl rfl (S.k hz1 (by decide)) (fun _ => kz hz1 (by decide)) em1 dX1_init_47 (fun H locs Sm1 => ?_)
  refine q_aload_n C hl 0 rfl rfl dX1_init_50 ?_
  refine q_iconst C 3 dX1_init_51 ?_
  obtain ⟨h5, hF⟩ := ck_ok hF
  obtain ⟨g2, eg2, hF⟩ := vg_ok hF
  obtain ⟨m3, em3, hF⟩ := vm_ok hF
  obtain ⟨y4, ey4, hF⟩ := vv_ok hF
  have hG2 := gA_ok Sm1.g h5 eg2
  have hX2 := gA_X Sm1.g eg2
  have hN2 := gA_n eg2
  have hXr := (xX1_init_54 hF hG2).1
  refine q_newi C Sm1 rfl (Or.inl ⟨rfl, rfl, rfl⟩) tw113 h5 (by have h1 := hXr.1; have h2 := hXr.2.1; exact ⟨by show _ ≤ mc; omega, by show _ ≤ msl; omega⟩) eg2 em3 dX1_init_52 (fun ad6 H hax Sm3 => ?_)
  rw [← ey4]
  have ky4 := gA_k eg2 ey4
  have hq : aX g0 ad0 ad6 ∧ gX g0 g2 := ⟨hq.1.tr hq.2 hax, hq.2.tr hX2⟩
  have hn : gn g2 = n0 + (cells + 1) ∧ gs g2 = t0 + (slots + 3) := by omega
  have k7 := hX2.k hx0 (by decide)
  have ak7 : ad6 x0 = ad x0 := hax _ (kz hx0 (by decide))
  rw [← ak7] at hl
  rw [← ak7]
  exact wX1_init_54 hnm C Sm3 k7 ky4 (lv_sub hl [] rfl) hq hn hF he Kr
theorem xX1_init_39 {g : Shp} {m : Mem} {x0 z0 z1 : Int} {r : Int} {g' : Shp} {m' : Mem} (hF : bX1_init_39 x0 z0 z1 g m = some (r, g', m')) (hg : gOk g) : gX g g' ∧ gOk g' := by
  unfold bX1_init_39 at hF
  obtain ⟨m1, em1, hF⟩ := vm_ok hF
  obtain ⟨h5, hF⟩ := ck_ok hF
  obtain ⟨g2, eg2, hF⟩ := vg_ok hF
  obtain ⟨m3, em3, hF⟩ := vm_ok hF
  obtain ⟨y4, ey4, hF⟩ := vv_ok hF
  have hG2 := gA_ok hg h5 eg2
  have hX2 := gA_X hg eg2
  exact gX2 hX2 (xX1_init_47 hF hG2)
set_option maxRecDepth 20000 in
theorem wX1_init_39 {p : Program} {l : Launch} {e : Env} {s : State} {mt : MethodId} {args : Array Value} {below : List Frame} {meth : Method} {c : Code} {Q : State → Prop} {G : Gl} {A : Nat → Prop} {H0 : Heap} {ad : Int → Nat} {g : Shp} {ad0 : Int → Nat} {g0 : Shp} {n0 t0 cells slots mc msl : Nat} (hnm : meth.name = "<init>") {H : Heap} {locs : List Loc} {ls : Array Slot} {m : Mem} {x0 z0 z1 : Int} (C : CallFix p mt c cX1_init 1 s args tb RX1) (S : Wd G A s H0 ad g m H locs) (hx0 : gk g x0 = 2) (hz0 : gk g z0 = 2) (hz1 : gk g z1 = 20) (hl : lv_has ls 1 [(0, .ref (ad x0))]) (hq : aX g0 ad0 ad ∧ gX g0 g) (hn : gn g = n0 + cells ∧ gs g = t0 + slots) {r : Int} {g' : Shp} {m' : Mem} (hF : bX1_init_39 x0 z0 z1 g m = some (r, g', m')) (he : gn g' ≤ n0 + mc ∧ gs g' ≤ t0 + msl) (Kr : ∀ (ad : Int → Nat) (H : Heap) (locs : List Loc) (pc : Nat) (ls : Array Slot) (cells slots : Nat), aX g0 ad0 ad → gn g' = n0 + cells ∧ gs g' = t0 + slots → Wd G A s H0 ad g' m' H locs → decode cX1_init pc = .ok (.return_, 1) → W p l e (rX1_init mc msl) s mt args below meth c H locs cells slots Q (F0 mt pc ls [])) : W p l e (rX1_init mc msl) s mt args below meth c H locs cells slots Q (F0 mt 39 ls [.ref (ad z1), .ref (ad z0)]) := by
  have hXx := xX1_init_39 hF S.g
  have hle : cells ≤ mc ∧ slots ≤ msl := by
    have h1 := hXx.1.1
    have h2 := hXx.1.2.1
    omega
  unfold bX1_init_39 at hF
  obtain ⟨m1, em1, hF⟩ := vm_ok hF
  refine q_put C S 4 fo_RX1_24 fp_2_4 (fun _ => ⟨hnm, rfl⟩) (j := 4) rfl hz0 (orf_ok S hz1 (by decide) rfl) rfl rfl (S.k hz1 (by decide)) (fun _ => kz hz1 (by decide)) em1 dX1_init_39 (fun H locs Sm1 => ?_)
  refine q_aload_n C hl 0 rfl rfl dX1_init_42 ?_
  refine q_bipush C 9 (by decide) dX1_init_43 ?_
  obtain ⟨h5, hF⟩ := ck_ok hF
  obtain ⟨g2, eg2, hF⟩ := vg_ok hF
  obtain ⟨m3, em3, hF⟩ := vm_ok hF
  obtain ⟨y4, ey4, hF⟩ := vv_ok hF
  have hG2 := gA_ok Sm1.g h5 eg2
  have hX2 := gA_X Sm1.g eg2
  have hN2 := gA_n eg2
  have hXr := (xX1_init_47 hF hG2).1
  refine q_newi C Sm1 rfl (Or.inl ⟨rfl, rfl, rfl⟩) tw113 h5 (by have h1 := hXr.1; have h2 := hXr.2.1; exact ⟨by show _ ≤ mc; omega, by show _ ≤ msl; omega⟩) eg2 em3 dX1_init_45 (fun ad6 H hax Sm3 => ?_)
  rw [← ey4]
  have ky4 := gA_k eg2 ey4
  have hq : aX g0 ad0 ad6 ∧ gX g0 g2 := ⟨hq.1.tr hq.2 hax, hq.2.tr hX2⟩
  have hn : gn g2 = n0 + (cells + 1) ∧ gs g2 = t0 + (slots + 9) := by omega
  have k7 := hX2.k hx0 (by decide)
  have ak7 : ad6 x0 = ad x0 := hax _ (kz hx0 (by decide))
  rw [← ak7] at hl
  rw [← ak7]
  exact wX1_init_47 hnm C Sm3 k7 k7 ky4 (lv_sub hl [0] rfl) hq hn hF he Kr
theorem xX1_init_32 {g : Shp} {m : Mem} {x0 z0 z1 : Int} {r : Int} {g' : Shp} {m' : Mem} (hF : bX1_init_32 x0 z0 z1 g m = some (r, g', m')) (hg : gOk g) : gX g g' ∧ gOk g' := by
  unfold bX1_init_32 at hF
  obtain ⟨m1, em1, hF⟩ := vm_ok hF
  obtain ⟨h5, hF⟩ := ck_ok hF
  obtain ⟨g2, eg2, hF⟩ := vg_ok hF
  obtain ⟨m3, em3, hF⟩ := vm_ok hF
  obtain ⟨y4, ey4, hF⟩ := vv_ok hF
  have hG2 := gA_ok hg h5 eg2
  have hX2 := gA_X hg eg2
  exact gX2 hX2 (xX1_init_39 hF hG2)
set_option maxRecDepth 20000 in
theorem wX1_init_32 {p : Program} {l : Launch} {e : Env} {s : State} {mt : MethodId} {args : Array Value} {below : List Frame} {meth : Method} {c : Code} {Q : State → Prop} {G : Gl} {A : Nat → Prop} {H0 : Heap} {ad : Int → Nat} {g : Shp} {ad0 : Int → Nat} {g0 : Shp} {n0 t0 cells slots mc msl : Nat} (hnm : meth.name = "<init>") {H : Heap} {locs : List Loc} {ls : Array Slot} {m : Mem} {x0 z0 z1 : Int} (C : CallFix p mt c cX1_init 1 s args tb RX1) (S : Wd G A s H0 ad g m H locs) (hx0 : gk g x0 = 2) (hz0 : gk g z0 = 2) (hz1 : gk g z1 = 20) (hl : lv_has ls 1 [(0, .ref (ad x0))]) (hq : aX g0 ad0 ad ∧ gX g0 g) (hn : gn g = n0 + cells ∧ gs g = t0 + slots) {r : Int} {g' : Shp} {m' : Mem} (hF : bX1_init_32 x0 z0 z1 g m = some (r, g', m')) (he : gn g' ≤ n0 + mc ∧ gs g' ≤ t0 + msl) (Kr : ∀ (ad : Int → Nat) (H : Heap) (locs : List Loc) (pc : Nat) (ls : Array Slot) (cells slots : Nat), aX g0 ad0 ad → gn g' = n0 + cells ∧ gs g' = t0 + slots → Wd G A s H0 ad g' m' H locs → decode cX1_init pc = .ok (.return_, 1) → W p l e (rX1_init mc msl) s mt args below meth c H locs cells slots Q (F0 mt pc ls [])) : W p l e (rX1_init mc msl) s mt args below meth c H locs cells slots Q (F0 mt 32 ls [.ref (ad z1), .ref (ad z0)]) := by
  have hXx := xX1_init_32 hF S.g
  have hle : cells ≤ mc ∧ slots ≤ msl := by
    have h1 := hXx.1.1
    have h2 := hXx.1.2.1
    omega
  unfold bX1_init_32 at hF
  obtain ⟨m1, em1, hF⟩ := vm_ok hF
  refine q_put C S 3 fo_RX1_21 fp_2_3 (fun _ => ⟨hnm, rfl⟩) (j := 3) rfl hz0 (orf_ok S hz1 (by decide) rfl) rfl rfl (S.k hz1 (by decide)) (fun _ => kz hz1 (by decide)) em1 dX1_init_32 (fun H locs Sm1 => ?_)
  refine q_aload_n C hl 0 rfl rfl dX1_init_35 ?_
  refine q_iconst C 3 dX1_init_36 ?_
  obtain ⟨h5, hF⟩ := ck_ok hF
  obtain ⟨g2, eg2, hF⟩ := vg_ok hF
  obtain ⟨m3, em3, hF⟩ := vm_ok hF
  obtain ⟨y4, ey4, hF⟩ := vv_ok hF
  have hG2 := gA_ok Sm1.g h5 eg2
  have hX2 := gA_X Sm1.g eg2
  have hN2 := gA_n eg2
  have hXr := (xX1_init_39 hF hG2).1
  refine q_newi C Sm1 rfl (Or.inl ⟨rfl, rfl, rfl⟩) tw113 h5 (by have h1 := hXr.1; have h2 := hXr.2.1; exact ⟨by show _ ≤ mc; omega, by show _ ≤ msl; omega⟩) eg2 em3 dX1_init_37 (fun ad6 H hax Sm3 => ?_)
  rw [← ey4]
  have ky4 := gA_k eg2 ey4
  have hq : aX g0 ad0 ad6 ∧ gX g0 g2 := ⟨hq.1.tr hq.2 hax, hq.2.tr hX2⟩
  have hn : gn g2 = n0 + (cells + 1) ∧ gs g2 = t0 + (slots + 3) := by omega
  have k7 := hX2.k hx0 (by decide)
  have ak7 : ad6 x0 = ad x0 := hax _ (kz hx0 (by decide))
  rw [← ak7] at hl
  rw [← ak7]
  exact wX1_init_39 hnm C Sm3 k7 k7 ky4 (lv_sub hl [0] rfl) hq hn hF he Kr
theorem xX1_init_25 {g : Shp} {m : Mem} {x0 z0 z1 : Int} {r : Int} {g' : Shp} {m' : Mem} (hF : bX1_init_25 x0 z0 z1 g m = some (r, g', m')) (hg : gOk g) : gX g g' ∧ gOk g' := by
  unfold bX1_init_25 at hF
  obtain ⟨m1, em1, hF⟩ := vm_ok hF
  obtain ⟨h5, hF⟩ := ck_ok hF
  obtain ⟨g2, eg2, hF⟩ := vg_ok hF
  obtain ⟨m3, em3, hF⟩ := vm_ok hF
  obtain ⟨y4, ey4, hF⟩ := vv_ok hF
  have hG2 := gA_ok hg h5 eg2
  have hX2 := gA_X hg eg2
  exact gX2 hX2 (xX1_init_32 hF hG2)
set_option maxRecDepth 20000 in
theorem wX1_init_25 {p : Program} {l : Launch} {e : Env} {s : State} {mt : MethodId} {args : Array Value} {below : List Frame} {meth : Method} {c : Code} {Q : State → Prop} {G : Gl} {A : Nat → Prop} {H0 : Heap} {ad : Int → Nat} {g : Shp} {ad0 : Int → Nat} {g0 : Shp} {n0 t0 cells slots mc msl : Nat} (hnm : meth.name = "<init>") {H : Heap} {locs : List Loc} {ls : Array Slot} {m : Mem} {x0 z0 z1 : Int} (C : CallFix p mt c cX1_init 1 s args tb RX1) (S : Wd G A s H0 ad g m H locs) (hx0 : gk g x0 = 2) (hz0 : gk g z0 = 2) (hz1 : gk g z1 = 20) (hl : lv_has ls 1 [(0, .ref (ad x0))]) (hq : aX g0 ad0 ad ∧ gX g0 g) (hn : gn g = n0 + cells ∧ gs g = t0 + slots) {r : Int} {g' : Shp} {m' : Mem} (hF : bX1_init_25 x0 z0 z1 g m = some (r, g', m')) (he : gn g' ≤ n0 + mc ∧ gs g' ≤ t0 + msl) (Kr : ∀ (ad : Int → Nat) (H : Heap) (locs : List Loc) (pc : Nat) (ls : Array Slot) (cells slots : Nat), aX g0 ad0 ad → gn g' = n0 + cells ∧ gs g' = t0 + slots → Wd G A s H0 ad g' m' H locs → decode cX1_init pc = .ok (.return_, 1) → W p l e (rX1_init mc msl) s mt args below meth c H locs cells slots Q (F0 mt pc ls [])) : W p l e (rX1_init mc msl) s mt args below meth c H locs cells slots Q (F0 mt 25 ls [.ref (ad z1), .ref (ad z0)]) := by
  have hXx := xX1_init_25 hF S.g
  have hle : cells ≤ mc ∧ slots ≤ msl := by
    have h1 := hXx.1.1
    have h2 := hXx.1.2.1
    omega
  unfold bX1_init_25 at hF
  obtain ⟨m1, em1, hF⟩ := vm_ok hF
  refine q_put C S 2 fo_RX1_18 fp_2_2 (fun _ => ⟨hnm, rfl⟩) (j := 2) rfl hz0 (orf_ok S hz1 (by decide) rfl) rfl rfl (S.k hz1 (by decide)) (fun _ => kz hz1 (by decide)) em1 dX1_init_25 (fun H locs Sm1 => ?_)
  refine q_aload_n C hl 0 rfl rfl dX1_init_28 ?_
  refine q_iconst C 3 dX1_init_29 ?_
  obtain ⟨h5, hF⟩ := ck_ok hF
  obtain ⟨g2, eg2, hF⟩ := vg_ok hF
  obtain ⟨m3, em3, hF⟩ := vm_ok hF
  obtain ⟨y4, ey4, hF⟩ := vv_ok hF
  have hG2 := gA_ok Sm1.g h5 eg2
  have hX2 := gA_X Sm1.g eg2
  have hN2 := gA_n eg2
  have hXr := (xX1_init_32 hF hG2).1
  refine q_newi C Sm1 rfl (Or.inl ⟨rfl, rfl, rfl⟩) tw113 h5 (by have h1 := hXr.1; have h2 := hXr.2.1; exact ⟨by show _ ≤ mc; omega, by show _ ≤ msl; omega⟩) eg2 em3 dX1_init_30 (fun ad6 H hax Sm3 => ?_)
  rw [← ey4]
  have ky4 := gA_k eg2 ey4
  have hq : aX g0 ad0 ad6 ∧ gX g0 g2 := ⟨hq.1.tr hq.2 hax, hq.2.tr hX2⟩
  have hn : gn g2 = n0 + (cells + 1) ∧ gs g2 = t0 + (slots + 3) := by omega
  have k7 := hX2.k hx0 (by decide)
  have ak7 : ad6 x0 = ad x0 := hax _ (kz hx0 (by decide))
  rw [← ak7] at hl
  rw [← ak7]
  exact wX1_init_32 hnm C Sm3 k7 k7 ky4 (lv_sub hl [0] rfl) hq hn hF he Kr
theorem xX1_init_18 {g : Shp} {m : Mem} {x0 z0 z1 : Int} {r : Int} {g' : Shp} {m' : Mem} (hF : bX1_init_18 x0 z0 z1 g m = some (r, g', m')) (hg : gOk g) : gX g g' ∧ gOk g' := by
  unfold bX1_init_18 at hF
  obtain ⟨m1, em1, hF⟩ := vm_ok hF
  obtain ⟨h5, hF⟩ := ck_ok hF
  obtain ⟨g2, eg2, hF⟩ := vg_ok hF
  obtain ⟨m3, em3, hF⟩ := vm_ok hF
  obtain ⟨y4, ey4, hF⟩ := vv_ok hF
  have hG2 := gA_ok hg h5 eg2
  have hX2 := gA_X hg eg2
  exact gX2 hX2 (xX1_init_25 hF hG2)
set_option maxRecDepth 20000 in
theorem wX1_init_18 {p : Program} {l : Launch} {e : Env} {s : State} {mt : MethodId} {args : Array Value} {below : List Frame} {meth : Method} {c : Code} {Q : State → Prop} {G : Gl} {A : Nat → Prop} {H0 : Heap} {ad : Int → Nat} {g : Shp} {ad0 : Int → Nat} {g0 : Shp} {n0 t0 cells slots mc msl : Nat} (hnm : meth.name = "<init>") {H : Heap} {locs : List Loc} {ls : Array Slot} {m : Mem} {x0 z0 z1 : Int} (C : CallFix p mt c cX1_init 1 s args tb RX1) (S : Wd G A s H0 ad g m H locs) (hx0 : gk g x0 = 2) (hz0 : gk g z0 = 2) (hz1 : gk g z1 = 20) (hl : lv_has ls 1 [(0, .ref (ad x0))]) (hq : aX g0 ad0 ad ∧ gX g0 g) (hn : gn g = n0 + cells ∧ gs g = t0 + slots) {r : Int} {g' : Shp} {m' : Mem} (hF : bX1_init_18 x0 z0 z1 g m = some (r, g', m')) (he : gn g' ≤ n0 + mc ∧ gs g' ≤ t0 + msl) (Kr : ∀ (ad : Int → Nat) (H : Heap) (locs : List Loc) (pc : Nat) (ls : Array Slot) (cells slots : Nat), aX g0 ad0 ad → gn g' = n0 + cells ∧ gs g' = t0 + slots → Wd G A s H0 ad g' m' H locs → decode cX1_init pc = .ok (.return_, 1) → W p l e (rX1_init mc msl) s mt args below meth c H locs cells slots Q (F0 mt pc ls [])) : W p l e (rX1_init mc msl) s mt args below meth c H locs cells slots Q (F0 mt 18 ls [.ref (ad z1), .ref (ad z0)]) := by
  have hXx := xX1_init_18 hF S.g
  have hle : cells ≤ mc ∧ slots ≤ msl := by
    have h1 := hXx.1.1
    have h2 := hXx.1.2.1
    omega
  unfold bX1_init_18 at hF
  obtain ⟨m1, em1, hF⟩ := vm_ok hF
  refine q_put C S 1 fo_RX1_15 fp_2_1 (fun _ => ⟨hnm, rfl⟩) (j := 1) rfl hz0 (orf_ok S hz1 (by decide) rfl) rfl rfl (S.k hz1 (by decide)) (fun _ => kz hz1 (by decide)) em1 dX1_init_18 (fun H locs Sm1 => ?_)
  refine q_aload_n C hl 0 rfl rfl dX1_init_21 ?_
  refine q_iconst C 3 dX1_init_22 ?_
  obtain ⟨h5, hF⟩ := ck_ok hF
  obtain ⟨g2, eg2, hF⟩ := vg_ok hF
  obtain ⟨m3, em3, hF⟩ := vm_ok hF
  obtain ⟨y4, ey4, hF⟩ := vv_ok hF
  have hG2 := gA_ok Sm1.g h5 eg2
  have hX2 := gA_X Sm1.g eg2
  have hN2 := gA_n eg2
  have hXr := (xX1_init_25 hF hG2).1
  refine q_newi C Sm1 rfl (Or.inl ⟨rfl, rfl, rfl⟩) tw113 h5 (by have h1 := hXr.1; have h2 := hXr.2.1; exact ⟨by show _ ≤ mc; omega, by show _ ≤ msl; omega⟩) eg2 em3 dX1_init_23 (fun ad6 H hax Sm3 => ?_)
  rw [← ey4]
  have ky4 := gA_k eg2 ey4
  have hq : aX g0 ad0 ad6 ∧ gX g0 g2 := ⟨hq.1.tr hq.2 hax, hq.2.tr hX2⟩
  have hn : gn g2 = n0 + (cells + 1) ∧ gs g2 = t0 + (slots + 3) := by omega
  have k7 := hX2.k hx0 (by decide)
  have ak7 : ad6 x0 = ad x0 := hax _ (kz hx0 (by decide))
  rw [← ak7] at hl
  rw [← ak7]
  exact wX1_init_25 hnm C Sm3 k7 k7 ky4 (lv_sub hl [0] rfl) hq hn hF he Kr
theorem xX1_init_10 {g : Shp} {m : Mem} {x0 z0 z1 : Int} {r : Int} {g' : Shp} {m' : Mem} (hF : bX1_init_10 x0 z0 z1 g m = some (r, g', m')) (hg : gOk g) : gX g g' ∧ gOk g' := by
  unfold bX1_init_10 at hF
  obtain ⟨m1, em1, hF⟩ := vm_ok hF
  obtain ⟨h5, hF⟩ := ck_ok hF
  obtain ⟨g2, eg2, hF⟩ := vg_ok hF
  obtain ⟨m3, em3, hF⟩ := vm_ok hF
  obtain ⟨y4, ey4, hF⟩ := vv_ok hF
  have hG2 := gA_ok hg h5 eg2
  have hX2 := gA_X hg eg2
  exact gX2 hX2 (xX1_init_18 hF hG2)
set_option maxRecDepth 20000 in
theorem wX1_init_10 {p : Program} {l : Launch} {e : Env} {s : State} {mt : MethodId} {args : Array Value} {below : List Frame} {meth : Method} {c : Code} {Q : State → Prop} {G : Gl} {A : Nat → Prop} {H0 : Heap} {ad : Int → Nat} {g : Shp} {ad0 : Int → Nat} {g0 : Shp} {n0 t0 cells slots mc msl : Nat} (hnm : meth.name = "<init>") {H : Heap} {locs : List Loc} {ls : Array Slot} {m : Mem} {x0 z0 z1 : Int} (C : CallFix p mt c cX1_init 1 s args tb RX1) (S : Wd G A s H0 ad g m H locs) (hx0 : gk g x0 = 2) (hz0 : gk g z0 = 2) (hz1 : gk g z1 = 20) (hl : lv_has ls 1 [(0, .ref (ad x0))]) (hq : aX g0 ad0 ad ∧ gX g0 g) (hn : gn g = n0 + cells ∧ gs g = t0 + slots) {r : Int} {g' : Shp} {m' : Mem} (hF : bX1_init_10 x0 z0 z1 g m = some (r, g', m')) (he : gn g' ≤ n0 + mc ∧ gs g' ≤ t0 + msl) (Kr : ∀ (ad : Int → Nat) (H : Heap) (locs : List Loc) (pc : Nat) (ls : Array Slot) (cells slots : Nat), aX g0 ad0 ad → gn g' = n0 + cells ∧ gs g' = t0 + slots → Wd G A s H0 ad g' m' H locs → decode cX1_init pc = .ok (.return_, 1) → W p l e (rX1_init mc msl) s mt args below meth c H locs cells slots Q (F0 mt pc ls [])) : W p l e (rX1_init mc msl) s mt args below meth c H locs cells slots Q (F0 mt 10 ls [.ref (ad z1), .ref (ad z0)]) := by
  have hXx := xX1_init_10 hF S.g
  have hle : cells ≤ mc ∧ slots ≤ msl := by
    have h1 := hXx.1.1
    have h2 := hXx.1.2.1
    omega
  unfold bX1_init_10 at hF
  obtain ⟨m1, em1, hF⟩ := vm_ok hF
  refine q_put C S 0 fo_RX1_9 fp_2_0 (fun _ => ⟨hnm, rfl⟩) (j := 0) rfl hz0 (orf_ok S hz1 (by decide) rfl) rfl rfl (S.k hz1 (by decide)) (fun _ => kz hz1 (by decide)) em1 dX1_init_10 (fun H locs Sm1 => ?_)
  refine q_aload_n C hl 0 rfl rfl dX1_init_13 ?_
  refine q_bipush C 9 (by decide) dX1_init_14 ?_
  obtain ⟨h5, hF⟩ := ck_ok hF
  obtain ⟨g2, eg2, hF⟩ := vg_ok hF
  obtain ⟨m3, em3, hF⟩ := vm_ok hF
  obtain ⟨y4, ey4, hF⟩ := vv_ok hF
  have hG2 := gA_ok Sm1.g h5 eg2
  have hX2 := gA_X Sm1.g eg2
  have hN2 := gA_n eg2
  have hXr := (xX1_init_18 hF hG2).1
  refine q_newi C Sm1 rfl (Or.inl ⟨rfl, rfl, rfl⟩) tw113 h5 (by have h1 := hXr.1; have h2 := hXr.2.1; exact ⟨by show _ ≤ mc; omega, by show _ ≤ msl; omega⟩) eg2 em3 dX1_init_16 (fun ad6 H hax Sm3 => ?_)
  rw [← ey4]
  have ky4 := gA_k eg2 ey4
  have hq : aX g0 ad0 ad6 ∧ gX g0 g2 := ⟨hq.1.tr hq.2 hax, hq.2.tr hX2⟩
  have hn : gn g2 = n0 + (cells + 1) ∧ gs g2 = t0 + (slots + 9) := by omega
  have k7 := hX2.k hx0 (by decide)
  have ak7 : ad6 x0 = ad x0 := hax _ (kz hx0 (by decide))
  rw [← ak7] at hl
  rw [← ak7]
  exact wX1_init_18 hnm C Sm3 k7 k7 ky4 (lv_sub hl [0] rfl) hq hn hF he Kr
theorem xX1_init_0 {g : Shp} {m : Mem} {x0 : Int} {r : Int} {g' : Shp} {m' : Mem} (hF : bX1_init_0 x0 g m = some (r, g', m')) (hg : gOk g) : gX g g' ∧ gOk g' := by
  unfold bX1_init_0 at hF
  obtain ⟨h4, hF⟩ := ck_ok hF
  obtain ⟨g1, eg1, hF⟩ := vg_ok hF
  obtain ⟨m2, em2, hF⟩ := vm_ok hF
  obtain ⟨y3, ey3, hF⟩ := vv_ok hF
  have hG2 := gA_ok hg h4 eg1
  have hX2 := gA_X hg eg1
  exact gX2 hX2 (xX1_init_10 hF hG2)
set_option maxRecDepth 20000 in
theorem wX1_init_0 {p : Program} {l : Launch} {e : Env} {s : State} {mt : MethodId} {args : Array Value} {below : List Frame} {meth : Method} {c : Code} {Q : State → Prop} {G : Gl} {A : Nat → Prop} {H0 : Heap} {ad : Int → Nat} {g : Shp} {ad0 : Int → Nat} {g0 : Shp} {n0 t0 cells slots mc msl : Nat} (hnm : meth.name = "<init>") {H : Heap} {locs : List Loc} {ls : Array Slot} {m : Mem} {x0 : Int} (C : CallFix p mt c cX1_init 1 s args tb RX1) (S : Wd G A s H0 ad g m H locs) (hx0 : gk g x0 = 2) (hl : lv_has ls 1 [(0, .ref (ad x0))]) (hq : aX g0 ad0 ad ∧ gX g0 g) (hn : gn g = n0 + cells ∧ gs g = t0 + slots) {r : Int} {g' : Shp} {m' : Mem} (hF : bX1_init_0 x0 g m = some (r, g', m')) (he : gn g' ≤ n0 + mc ∧ gs g' ≤ t0 + msl) (Kr : ∀ (ad : Int → Nat) (H : Heap) (locs : List Loc) (pc : Nat) (ls : Array Slot) (cells slots : Nat), aX g0 ad0 ad → gn g' = n0 + cells ∧ gs g' = t0 + slots → Wd G A s H0 ad g' m' H locs → decode cX1_init pc = .ok (.return_, 1) → W p l e (rX1_init mc msl) s mt args below meth c H locs cells slots Q (F0 mt pc ls [])) : W p l e (rX1_init mc msl) s mt args below meth c H locs cells slots Q (F0 mt 0 ls []) := by
  have hXx := xX1_init_0 hF S.g
  have hle : cells ≤ mc ∧ slots ≤ msl := by
    have h1 := hXx.1.1
    have h2 := hXx.1.2.1
    omega
  unfold bX1_init_0 at hF
  refine q_aload_n C hl 0 rfl rfl dX1_init_0 ?_
  refine q_oinit C tw200 tw90 tw91 hl.1 (Nat.le_of_ble_eq_true rfl) (Nat.le_of_ble_eq_true rfl) dX1_init_1 ?_
  refine q_aload_n C hl 0 rfl rfl dX1_init_4 ?_
  refine q_sipush C 400 (by decide) dX1_init_5 ?_
  obtain ⟨h4, hF⟩ := ck_ok hF
  obtain ⟨g1, eg1, hF⟩ := vg_ok hF
  obtain ⟨m2, em2, hF⟩ := vm_ok hF
  obtain ⟨y3, ey3, hF⟩ := vv_ok hF
  have hG2 := gA_ok S.g h4 eg1
  have hX2 := gA_X S.g eg1
  have hN2 := gA_n eg1
  have hXr := (xX1_init_10 hF hG2).1
  refine q_newi C S rfl (Or.inl ⟨rfl, rfl, rfl⟩) tw113 h4 (by have h1 := hXr.1; have h2 := hXr.2.1; exact ⟨by show _ ≤ mc; omega, by show _ ≤ msl; omega⟩) eg1 em2 dX1_init_8 (fun ad5 H hax Sm2 => ?_)
  rw [← ey3]
  have ky3 := gA_k eg1 ey3
  have hq : aX g0 ad0 ad5 ∧ gX g0 g1 := ⟨hq.1.tr hq.2 hax, hq.2.tr hX2⟩
  have hn : gn g1 = n0 + (cells + 1) ∧ gs g1 = t0 + (slots + 400) := by omega
  have k6 := hX2.k hx0 (by decide)
  have ak6 : ad5 x0 = ad x0 := hax _ (kz hx0 (by decide))
  rw [← ak6] at hl
  rw [← ak6]
  exact wX1_init_10 hnm C Sm2 k6 k6 ky3 (lv_sub hl [0] rfl) hq hn hF he Kr
theorem xX1_init_f {x0 : Int} {g : Shp} {m : Mem} {r : Int} {g' : Shp} {m' : Mem} (hF : fX1_init x0 g m = some (r, g', m')) (hg : gOk g) : gX g g' ∧ gOk g' := xX1_init_0 hF hg
theorem cX1_init_ok (l : Launch) (G : Gl) {x0 : Int} {g : Shp} {m : Mem} {r : Int} {g' : Shp} {m' : Mem} (hx0 : gk g x0 = 2) (hF : fX1_init x0 g m = some (r, g', m')) : mVA l yX1_init (wT yX1_init cX1_init 1 none) rX1_init G (fun ad => [.ref (ad x0)]) g m g' m' :=
  met_vA (rm := rX1_init) (by decide) (fun ad => Nat.le_of_ble_eq_true rfl) (fun hg => (xX1_init_f hF hg).1) (fun p e s mt args below meth c Q A H0 H locs ad ls mc msl hmc hms C hnm S hl Kr => wX1_init_0 (n0 := gn g) (t0 := gs g) hnm C S hx0 hl ⟨fun _ _ => rfl, gX.rf _⟩ ⟨rfl, rfl⟩ hF (by have h9 := (xX1_init_f hF S.g).1; have h1 := h9.1; have h2 := h9.2.1; omega) Kr)
theorem xX9_init_23 {g : Shp} {m : Mem} {z0 z1 : Int} {r : Int} {g' : Shp} {m' : Mem} (hF : bX9_init_23 z0 z1 g m = some (r, g', m')) (hg : gOk g) : gX g g' ∧ gOk g' := by
  unfold bX9_init_23 at hF
  obtain ⟨m1, em1, hF⟩ := vm_ok hF
  cases hF
  exact ⟨gX.rf _, hg⟩
set_option maxRecDepth 20000 in
theorem wX9_init_23 {p : Program} {l : Launch} {e : Env} {s : State} {mt : MethodId} {args : Array Value} {below : List Frame} {meth : Method} {c : Code} {Q : State → Prop} {G : Gl} {A : Nat → Prop} {H0 : Heap} {ad : Int → Nat} {g : Shp} {ad0 : Int → Nat} {g0 : Shp} {n0 t0 cells slots mc msl : Nat} (hnm : meth.name = "<init>") {H : Heap} {locs : List Loc} {ls : Array Slot} {m : Mem} {z0 z1 : Int} (C : CallFix p mt c cX9_init 1 s args tb RX9) (S : Wd G A s H0 ad g m H locs) (hz0 : gk g z0 = 10) (hz1 : gk g z1 = 20) (hl : lv_has ls 1 []) (hq : aX g0 ad0 ad ∧ gX g0 g) (hn : gn g = n0 + cells ∧ gs g = t0 + slots) {r : Int} {g' : Shp} {m' : Mem} (hF : bX9_init_23 z0 z1 g m = some (r, g', m')) (he : gn g' ≤ n0 + mc ∧ gs g' ≤ t0 + msl) (Kr : ∀ (ad : Int → Nat) (H : Heap) (locs : List Loc) (pc : Nat) (ls : Array Slot) (cells slots : Nat), aX g0 ad0 ad → gn g' = n0 + cells ∧ gs g' = t0 + slots → Wd G A s H0 ad g' m' H locs → decode cX9_init pc = .ok (.return_, 1) → W p l e (rX9_init mc msl) s mt args below meth c H locs cells slots Q (F0 mt pc ls [])) : W p l e (rX9_init mc msl) s mt args below meth c H locs cells slots Q (F0 mt 23 ls [.ref (ad z1), .ref (ad z0)]) := by
  have hXx := xX9_init_23 hF S.g
  have hle : cells ≤ mc ∧ slots ≤ msl := by
    have h1 := hXx.1.1
    have h2 := hXx.1.2.1
    omega
  unfold bX9_init_23 at hF
  obtain ⟨m1, em1, hF⟩ := vm_ok hF
  refine q_put C S 2 fo_RX9_18 fp_10_2 (fun _ => ⟨hnm, rfl⟩) (j := 2) rfl hz0 (orf_ok S hz1 (by decide) rfl) rfl rfl (S.k hz1 (by decide)) (fun _ => kz hz1 (by decide)) em1 dX9_init_23 (fun H locs Sm1 => ?_)
  cases hF
  exact Kr _ _ _ _ _ _ _ hq.1 hn Sm1 dX9_init_26
theorem xX9_init_16 {g : Shp} {m : Mem} {x0 z0 z1 : Int} {r : Int} {g' : Shp} {m' : Mem} (hF : bX9_init_16 x0 z0 z1 g m = some (r, g', m')) (hg : gOk g) : gX g g' ∧ gOk g' := by
  unfold bX9_init_16 at hF
  obtain ⟨m1, em1, hF⟩ := vm_ok hF
  obtain ⟨h5, hF⟩ := ck_ok hF
  obtain ⟨g2, eg2, hF⟩ := vg_ok hF
  obtain ⟨m3, em3, hF⟩ := vm_ok hF
  obtain ⟨y4, ey4, hF⟩ := vv_ok hF
  have hG2 := gA_ok hg h5 eg2
  have hX2 := gA_X hg eg2
  exact gX2 hX2 (xX9_init_23 hF hG2)
set_option maxRecDepth 20000 in
theorem wX9_init_16 {p : Program} {l : Launch} {e : Env} {s : State} {mt : MethodId} {args : Array Value} {below : List Frame} {meth : Method} {c : Code} {Q : State → Prop} {G : Gl} {A : Nat → Prop} {H0 : Heap} {ad : Int → Nat} {g : Shp} {ad0 : Int → Nat} {g0 : Shp} {n0 t0 cells slots mc msl : Nat} (hnm : meth.name = "<init>") {H : Heap} {locs : List Loc} {ls : Array Slot} {m : Mem} {x0 z0 z1 : Int} (C : CallFix p mt c cX9_init 1 s args tb RX9) (S : Wd G A s H0 ad g m H locs) (hx0 : gk g x0 = 10) (hz0 : gk g z0 = 10) (hz1 : gk g z1 = 20) (hl : lv_has ls 1 [(0, .ref (ad x0))]) (hq : aX g0 ad0 ad ∧ gX g0 g) (hn : gn g = n0 + cells ∧ gs g = t0 + slots) {r : Int} {g' : Shp} {m' : Mem} (hF : bX9_init_16 x0 z0 z1 g m = some (r, g', m')) (he : gn g' ≤ n0 + mc ∧ gs g' ≤ t0 + msl) (Kr : ∀ (ad : Int → Nat) (H : Heap) (locs : List Loc) (pc : Nat) (ls : Array Slot) (cells slots : Nat), aX g0 ad0 ad → gn g' = n0 + cells ∧ gs g' = t0 + slots → Wd G A s H0 ad g' m' H locs → decode cX9_init pc = .ok (.return_, 1) → W p l e (rX9_init mc msl) s mt args below meth c H locs cells slots Q (F0 mt pc ls [])) : W p l e (rX9_init mc msl) s mt args below meth c H locs cells slots Q (F0 mt 16 ls [.ref (ad z1), .ref (ad z0)]) := by
  have hXx := xX9_init_16 hF S.g
  have hle : cells ≤ mc ∧ slots ≤ msl := by
    have h1 := hXx.1.1
    have h2 := hXx.1.2.1
    omega
  unfold bX9_init_16 at hF
  obtain ⟨m1, em1, hF⟩ := vm_ok hF
  refine q_put C S 1 fo_RX9_15 fp_10_1 (fun _ => ⟨hnm, rfl⟩) (j := 1) rfl hz0 (orf_ok S hz1 (by decide) rfl) rfl rfl (S.k hz1 (by decide)) (fun _ => kz hz1 (by decide)) em1 dX9_init_16 (fun H locs Sm1 => ?_)
  refine q_aload_n C hl 0 rfl rfl dX9_init_19 ?_
  refine q_iconst C 3 dX9_init_20 ?_
  obtain ⟨h5, hF⟩ := ck_ok hF
  obtain ⟨g2, eg2, hF⟩ := vg_ok hF
  obtain ⟨m3, em3, hF⟩ := vm_ok hF
  obtain ⟨y4, ey4, hF⟩ := vv_ok hF
  have hG2 := gA_ok Sm1.g h5 eg2
  have hX2 := gA_X Sm1.g eg2
  have hN2 := gA_n eg2
  have hXr := (xX9_init_23 hF hG2).1
  refine q_newi C Sm1 rfl (Or.inl ⟨rfl, rfl, rfl⟩) tw113 h5 (by have h1 := hXr.1; have h2 := hXr.2.1; exact ⟨by show _ ≤ mc; omega, by show _ ≤ msl; omega⟩) eg2 em3 dX9_init_21 (fun ad6 H hax Sm3 => ?_)
  rw [← ey4]
  have ky4 := gA_k eg2 ey4
  have hq : aX g0 ad0 ad6 ∧ gX g0 g2 := ⟨hq.1.tr hq.2 hax, hq.2.tr hX2⟩
  have hn : gn g2 = n0 + (cells + 1) ∧ gs g2 = t0 + (slots + 3) := by omega
  have k7 := hX2.k hx0 (by decide)
  have ak7 : ad6 x0 = ad x0 := hax _ (kz hx0 (by decide))
  rw [← ak7] at hl
  rw [← ak7]
  exact wX9_init_23 hnm C Sm3 k7 ky4 (lv_sub hl [] rfl) hq hn hF he Kr
theorem xX9_init_9 {g : Shp} {m : Mem} {x0 z0 z1 : Int} {r : Int} {g' : Shp} {m' : Mem} (hF : bX9_init_9 x0 z0 z1 g m = some (r, g', m')) (hg : gOk g) : gX g g' ∧ gOk g' := by
  unfold bX9_init_9 at hF
  obtain ⟨m1, em1, hF⟩ := vm_ok hF
  obtain ⟨h5, hF⟩ := ck_ok hF
  obtain ⟨g2, eg2, hF⟩ := vg_ok hF
  obtain ⟨m3, em3, hF⟩ := vm_ok hF
  obtain ⟨y4, ey4, hF⟩ := vv_ok hF
  have hG2 := gA_ok hg h5 eg2
  have hX2 := gA_X hg eg2
  exact gX2 hX2 (xX9_init_16 hF hG2)
set_option maxRecDepth 20000 in
theorem wX9_init_9 {p : Program} {l : Launch} {e : Env} {s : State} {mt : MethodId} {args : Array Value} {below : List Frame} {meth : Method} {c : Code} {Q : State → Prop} {G : Gl} {A : Nat → Prop} {H0 : Heap} {ad : Int → Nat} {g : Shp} {ad0 : Int → Nat} {g0 : Shp} {n0 t0 cells slots mc msl : Nat} (hnm : meth.name = "<init>") {H : Heap} {locs : List Loc} {ls : Array Slot} {m : Mem} {x0 z0 z1 : Int} (C : CallFix p mt c cX9_init 1 s args tb RX9) (S : Wd G A s H0 ad g m H locs) (hx0 : gk g x0 = 10) (hz0 : gk g z0 = 10) (hz1 : gk g z1 = 20) (hl : lv_has ls 1 [(0, .ref (ad x0))]) (hq : aX g0 ad0 ad ∧ gX g0 g) (hn : gn g = n0 + cells ∧ gs g = t0 + slots) {r : Int} {g' : Shp} {m' : Mem} (hF : bX9_init_9 x0 z0 z1 g m = some (r, g', m')) (he : gn g' ≤ n0 + mc ∧ gs g' ≤ t0 + msl) (Kr : ∀ (ad : Int → Nat) (H : Heap) (locs : List Loc) (pc : Nat) (ls : Array Slot) (cells slots : Nat), aX g0 ad0 ad → gn g' = n0 + cells ∧ gs g' = t0 + slots → Wd G A s H0 ad g' m' H locs → decode cX9_init pc = .ok (.return_, 1) → W p l e (rX9_init mc msl) s mt args below meth c H locs cells slots Q (F0 mt pc ls [])) : W p l e (rX9_init mc msl) s mt args below meth c H locs cells slots Q (F0 mt 9 ls [.ref (ad z1), .ref (ad z0)]) := by
  have hXx := xX9_init_9 hF S.g
  have hle : cells ≤ mc ∧ slots ≤ msl := by
    have h1 := hXx.1.1
    have h2 := hXx.1.2.1
    omega
  unfold bX9_init_9 at hF
  obtain ⟨m1, em1, hF⟩ := vm_ok hF
  refine q_put C S 0 fo_RX9_9 fp_10_0 (fun _ => ⟨hnm, rfl⟩) (j := 0) rfl hz0 (orf_ok S hz1 (by decide) rfl) rfl rfl (S.k hz1 (by decide)) (fun _ => kz hz1 (by decide)) em1 dX9_init_9 (fun H locs Sm1 => ?_)
  refine q_aload_n C hl 0 rfl rfl dX9_init_12 ?_
  refine q_iconst C 3 dX9_init_13 ?_
  obtain ⟨h5, hF⟩ := ck_ok hF
  obtain ⟨g2, eg2, hF⟩ := vg_ok hF
  obtain ⟨m3, em3, hF⟩ := vm_ok hF
  obtain ⟨y4, ey4, hF⟩ := vv_ok hF
  have hG2 := gA_ok Sm1.g h5 eg2
  have hX2 := gA_X Sm1.g eg2
  have hN2 := gA_n eg2
  have hXr := (xX9_init_16 hF hG2).1
  refine q_newi C Sm1 rfl (Or.inl ⟨rfl, rfl, rfl⟩) tw113 h5 (by have h1 := hXr.1; have h2 := hXr.2.1; exact ⟨by show _ ≤ mc; omega, by show _ ≤ msl; omega⟩) eg2 em3 dX9_init_14 (fun ad6 H hax Sm3 => ?_)
  rw [← ey4]
  have ky4 := gA_k eg2 ey4
  have hq : aX g0 ad0 ad6 ∧ gX g0 g2 := ⟨hq.1.tr hq.2 hax, hq.2.tr hX2⟩
  have hn : gn g2 = n0 + (cells + 1) ∧ gs g2 = t0 + (slots + 3) := by omega
  have k7 := hX2.k hx0 (by decide)
  have ak7 : ad6 x0 = ad x0 := hax _ (kz hx0 (by decide))
  rw [← ak7] at hl
  rw [← ak7]
  exact wX9_init_16 hnm C Sm3 k7 k7 ky4 (lv_sub hl [0] rfl) hq hn hF he Kr
theorem xX9_init_0 {g : Shp} {m : Mem} {x0 : Int} {r : Int} {g' : Shp} {m' : Mem} (hF : bX9_init_0 x0 g m = some (r, g', m')) (hg : gOk g) : gX g g' ∧ gOk g' := by
  unfold bX9_init_0 at hF
  obtain ⟨h4, hF⟩ := ck_ok hF
  obtain ⟨g1, eg1, hF⟩ := vg_ok hF
  obtain ⟨m2, em2, hF⟩ := vm_ok hF
  obtain ⟨y3, ey3, hF⟩ := vv_ok hF
  have hG2 := gA_ok hg h4 eg1
  have hX2 := gA_X hg eg1
  exact gX2 hX2 (xX9_init_9 hF hG2)
set_option maxRecDepth 20000 in
theorem wX9_init_0 {p : Program} {l : Launch} {e : Env} {s : State} {mt : MethodId} {args : Array Value} {below : List Frame} {meth : Method} {c : Code} {Q : State → Prop} {G : Gl} {A : Nat → Prop} {H0 : Heap} {ad : Int → Nat} {g : Shp} {ad0 : Int → Nat} {g0 : Shp} {n0 t0 cells slots mc msl : Nat} (hnm : meth.name = "<init>") {H : Heap} {locs : List Loc} {ls : Array Slot} {m : Mem} {x0 : Int} (C : CallFix p mt c cX9_init 1 s args tb RX9) (S : Wd G A s H0 ad g m H locs) (hx0 : gk g x0 = 10) (hl : lv_has ls 1 [(0, .ref (ad x0))]) (hq : aX g0 ad0 ad ∧ gX g0 g) (hn : gn g = n0 + cells ∧ gs g = t0 + slots) {r : Int} {g' : Shp} {m' : Mem} (hF : bX9_init_0 x0 g m = some (r, g', m')) (he : gn g' ≤ n0 + mc ∧ gs g' ≤ t0 + msl) (Kr : ∀ (ad : Int → Nat) (H : Heap) (locs : List Loc) (pc : Nat) (ls : Array Slot) (cells slots : Nat), aX g0 ad0 ad → gn g' = n0 + cells ∧ gs g' = t0 + slots → Wd G A s H0 ad g' m' H locs → decode cX9_init pc = .ok (.return_, 1) → W p l e (rX9_init mc msl) s mt args below meth c H locs cells slots Q (F0 mt pc ls [])) : W p l e (rX9_init mc msl) s mt args below meth c H locs cells slots Q (F0 mt 0 ls []) := by
  have hXx := xX9_init_0 hF S.g
  have hle : cells ≤ mc ∧ slots ≤ msl := by
    have h1 := hXx.1.1
    have h2 := hXx.1.2.1
    omega
  unfold bX9_init_0 at hF
  refine q_aload_n C hl 0 rfl rfl dX9_init_0 ?_
  refine q_oinit C tw272 tw90 tw91 hl.1 (Nat.le_of_ble_eq_true rfl) (Nat.le_of_ble_eq_true rfl) dX9_init_1 ?_
  refine q_aload_n C hl 0 rfl rfl dX9_init_4 ?_
  refine q_bipush C 18 (by decide) dX9_init_5 ?_
  obtain ⟨h4, hF⟩ := ck_ok hF
  obtain ⟨g1, eg1, hF⟩ := vg_ok hF
  obtain ⟨m2, em2, hF⟩ := vm_ok hF
  obtain ⟨y3, ey3, hF⟩ := vv_ok hF
  have hG2 := gA_ok S.g h4 eg1
  have hX2 := gA_X S.g eg1
  have hN2 := gA_n eg1
  have hXr := (xX9_init_9 hF hG2).1
  refine q_newi C S rfl (Or.inl ⟨rfl, rfl, rfl⟩) tw113 h4 (by have h1 := hXr.1; have h2 := hXr.2.1; exact ⟨by show _ ≤ mc; omega, by show _ ≤ msl; omega⟩) eg1 em2 dX9_init_7 (fun ad5 H hax Sm2 => ?_)
  rw [← ey3]
  have ky3 := gA_k eg1 ey3
  have hq : aX g0 ad0 ad5 ∧ gX g0 g1 := ⟨hq.1.tr hq.2 hax, hq.2.tr hX2⟩
  have hn : gn g1 = n0 + (cells + 1) ∧ gs g1 = t0 + (slots + 18) := by omega
  have k6 := hX2.k hx0 (by decide)
  have ak6 : ad5 x0 = ad x0 := hax _ (kz hx0 (by decide))
  rw [← ak6] at hl
  rw [← ak6]
  exact wX9_init_9 hnm C Sm2 k6 k6 ky3 (lv_sub hl [0] rfl) hq hn hF he Kr
theorem xX9_init_f {x0 : Int} {g : Shp} {m : Mem} {r : Int} {g' : Shp} {m' : Mem} (hF : fX9_init x0 g m = some (r, g', m')) (hg : gOk g) : gX g g' ∧ gOk g' := xX9_init_0 hF hg
theorem cX9_init_ok (l : Launch) (G : Gl) {x0 : Int} {g : Shp} {m : Mem} {r : Int} {g' : Shp} {m' : Mem} (hx0 : gk g x0 = 10) (hF : fX9_init x0 g m = some (r, g', m')) : mVA l yX9_init (wT yX9_init cX9_init 1 none) rX9_init G (fun ad => [.ref (ad x0)]) g m g' m' :=
  met_vA (rm := rX9_init) (by decide) (fun ad => Nat.le_of_ble_eq_true rfl) (fun hg => (xX9_init_f hF hg).1) (fun p e s mt args below meth c Q A H0 H locs ad ls mc msl hmc hms C hnm S hl Kr => wX9_init_0 (n0 := gn g) (t0 := gs g) hnm C S hx0 hl ⟨fun _ _ => rfl, gX.rf _⟩ ⟨rfl, rfl⟩ hF (by have h9 := (xX9_init_f hF S.g).1; have h1 := h9.1; have h2 := h9.2.1; omega) Kr)
theorem xX3_init_63 {g : Shp} {m : Mem} {x0 x1 z0 z1 z2 : Int} {c1 : Int} {s1 : (Int × Shp × Mem)} (hF : bX3_init_63 x0 x1 z0 z1 z2 g m = some (c1, s1)) (hg : gOk g) : gX g s1.2.1 ∧ gOk s1.2.1 := by
  unfold bX3_init_63 at hF
  obtain ⟨i1, hF⟩ := ck_ok hF
  obtain ⟨m2, em2, hF⟩ := vm_ok hF
  obtain ⟨y3, ey3, hF⟩ := vv_ok hF
  cases hF
  exact ⟨gX.rf _, hg⟩
set_option maxRecDepth 20000 in
theorem wX3_init_63 {p : Program} {l : Launch} {e : Env} {s : State} {mt : MethodId} {args : Array Value} {below : List Frame} {meth : Method} {c : Code} {Q : State → Prop} {G : Gl} {A : Nat → Prop} {H0 : Heap} {ad : Int → Nat} {g : Shp} {ad0 : Int → Nat} {g0 : Shp} {n0 t0 cells slots mc msl : Nat} (hnm : meth.name = "<init>") {H : Heap} {locs : List Loc} {ls : Array Slot} {m : Mem} {x0 x1 z0 z1 z2 : Int} (C : CallFix p mt c cX3_init 2 s args tb RX3) (S : Wd G A s H0 ad g m H locs) (hx0 : gk g x0 = 4) (hx1 : r32 x1) (hz0 : gk g z0 = 23) (hz1 : r32 z1) (hz2 : gk g z2 = 2) (hl : lv_has ls 2 [(0, .ref (ad x0)), (1, .int (iI x1))]) (hq : aX g0 ad0 ad ∧ gX g0 g) (hn : gn g = n0 + cells ∧ gs g = t0 + slots) {c1 : Int} {s1 : (Int × Shp × Mem)} (hF : bX3_init_63 x0 x1 z0 z1 z2 g m = some (c1, s1)) (he : gn s1.2.1 ≤ n0 + mc ∧ gs s1.2.1 ≤ t0 + msl) (K0 : c1 = 0 → ∀ (ad : Int → Nat) (H : Heap) (locs : List Loc) (ls : Array Slot) (cells slots : Nat), aX g0 ad0 ad ∧ gX g0 s1.2.1 → gn s1.2.1 = n0 + cells ∧ gs s1.2.1 = t0 + slots → gk s1.2.1 x0 = 4 → r32 s1.1 → Wd G A s H0 ad s1.2.1 s1.2.2 H locs → lv_has ls 2 [(0, .ref (ad x0)), (1, .int (iI s1.1))] → W p l e (rX3_init mc msl) s mt args below meth c H locs cells slots Q (F0 mt 46 ls [])) (K1 : c1 = 1 → ∀ (ad : Int → Nat) (H : Heap) (locs : List Loc) (ls : Array Slot) (cells slots : Nat), aX g0 ad0 ad ∧ gX g0 s1.2.1 → gn s1.2.1 = n0 + cells ∧ gs s1.2.1 = t0 + slots → Wd G A s H0 ad s1.2.1 s1.2.2 H locs → lv_has ls 2 [] → W p l e (rX3_init mc msl) s mt args below meth c H locs cells slots Q (F0 mt 70 ls [])) : W p l e (rX3_init mc msl) s mt args below meth c H locs cells slots Q (F0 mt 63 ls [.ref (ad z2), .int (iI z1), .ref (ad z0)]) := by
  have hXx := xX3_init_63 hF S.g
  have hle : cells ≤ mc ∧ slots ≤ msl := by
    have h1 := hXx.1.1
    have h2 := hXx.1.2.1
    omega
  unfold bX3_init_63 at hF
  obtain ⟨i1, hF⟩ := ck_ok hF
  obtain ⟨m2, em2, hF⟩ := vm_ok hF
  refine q_aast C S hz0 (by decide) i1 hz2 ⟨by decide, rfl⟩ rfl (S.k hz2 (by decide)) em2 dX3_init_63 (fun H locs Sm2 => ?_)
  obtain ⟨y3, ey3, hF⟩ := vv_ok hF
  have ry3 : r32 y3 := ey3 ▸ r32_w _
  refine q_iinc C hl 1 [(1, .int (iI y3)), (0, .ref (ad x0))] rfl ey3 (by decide) rfl dX3_init_64 (fun ls hl => ?_)
  refine q_goto C 46 dX3_init_67 (by decide) ?_
  cases hF
  exact K0 rfl _ _ _ _ _ _ hq hn hx0 ry3 Sm2 (lv_sub hl [1, 0] rfl)
theorem xX3_init_59 {g : Shp} {m : Mem} {x0 x1 z0 z1 z2 : Int} {c1 : Int} {s1 : (Int × Shp × Mem)} (hF : bX3_init_59 x0 x1 z0 z1 z2 g m = some (c1, s1)) (hg : gOk g) : gX g s1.2.1 ∧ gOk s1.2.1 := by
  unfold bX3_init_59 at hF
  obtain ⟨v1, g2, m3, h4, hF⟩ := bd3_ok hF
  have hX3 := xX1_init_f h4 hg
  have hG2 := hX3.2
  have hX2 := hX3.1
  exact gX2 hX2 (xX3_init_63 hF hG2)
set_option maxRecDepth 20000 in
theorem wX3_init_59 {p : Program} {l : Launch} {e : Env} {s : State} {mt : MethodId} {args : Array Value} {below : List Frame} {meth : Method} {c : Code} {Q : State → Prop} {G : Gl} {A : Nat → Prop} {H0 : Heap} {ad : Int → Nat} {g : Shp} {ad0 : Int → Nat} {g0 : Shp} {n0 t0 cells slots mc msl : Nat} (hnm : meth.name = "<init>") {H : Heap} {locs : List Loc} {ls : Array Slot} {m : Mem} {x0 x1 z0 z1 z2 : Int} (C : CallFix p mt c cX3_init 2 s args tb RX3) (S : Wd G A s H0 ad g m H locs) (hx0 : gk g x0 = 4) (hx1 : r32 x1) (hz0 : gk g z0 = 23) (hz1 : r32 z1) (hz2 : gk g z2 = 2) (hl : lv_has ls 2 [(0, .ref (ad x0)), (1, .int (iI x1))]) (hq : aX g0 ad0 ad ∧ gX g0 g) (hn : gn g = n0 + cells ∧ gs g = t0 + slots) {c1 : Int} {s1 : (Int × Shp × Mem)} (hF : bX3_init_59 x0 x1 z0 z1 z2 g m = some (c1, s1)) (he : gn s1.2.1 ≤ n0 + mc ∧ gs s1.2.1 ≤ t0 + msl) (K0 : c1 = 0 → ∀ (ad : Int → Nat) (H : Heap) (locs : List Loc) (ls : Array Slot) (cells slots : Nat), aX g0 ad0 ad ∧ gX g0 s1.2.1 → gn s1.2.1 = n0 + cells ∧ gs s1.2.1 = t0 + slots → gk s1.2.1 x0 = 4 → r32 s1.1 → Wd G A s H0 ad s1.2.1 s1.2.2 H locs → lv_has ls 2 [(0, .ref (ad x0)), (1, .int (iI s1.1))] → W p l e (rX3_init mc msl) s mt args below meth c H locs cells slots Q (F0 mt 46 ls [])) (K1 : c1 = 1 → ∀ (ad : Int → Nat) (H : Heap) (locs : List Loc) (ls : Array Slot) (cells slots : Nat), aX g0 ad0 ad ∧ gX g0 s1.2.1 → gn s1.2.1 = n0 + cells ∧ gs s1.2.1 = t0 + slots → Wd G A s H0 ad s1.2.1 s1.2.2 H locs → lv_has ls 2 [] → W p l e (rX3_init mc msl) s mt args below meth c H locs cells slots Q (F0 mt 70 ls [])) : W p l e (rX3_init mc msl) s mt args below meth c H locs cells slots Q (F0 mt 59 ls [.ref (ad z2), .int (iI z1), .ref (ad z0)]) := by
  have hXx := xX3_init_59 hF S.g
  have hle : cells ≤ mc ∧ slots ≤ msl := by
    have h1 := hXx.1.1
    have h2 := hXx.1.2.1
    omega
  unfold bX3_init_59 at hF
  refine q_dup C rfl dX3_init_59 ?_
  obtain ⟨v1, g2, m3, h4, hF⟩ := bd3_ok hF
  have hX3 := xX1_init_f h4 S.g
  have hG2 := hX3.2
  have hX2 := hX3.1
  have hXr := (xX3_init_63 hF hG2).1
  refine q_cvA S (run_IN (As := []) (rest := [.ref (ad z2), .int (iI z1), .ref (ad z0)]) C S (cX1_init_ok l G hz2 h4 ad _) (host := "StoneFloors") (by decide) tw199 tw69 tw198 rfl hd_X1_init rfl ⟨rfl, rfl, (Nat.le_of_ble_eq_true rfl), (Nat.le_of_ble_eq_true rfl)⟩ (by have h1 := hXr.1; have h2 := hXr.2.1; have h3 := hX2.1; have h4 := hX2.2.1; exact ⟨by show _ ≤ mc; omega, by show _ ≤ msl; omega⟩) hl.1 rfl (Nat.le_of_ble_eq_true rfl) dX3_init_60) (fun ad5 H locs hax Sm3 => ?_)
  have hq : aX g0 ad0 ad5 ∧ gX g0 g2 := ⟨hq.1.tr hq.2 hax, hq.2.tr hX2⟩
  have hn : gn g2 = n0 + (cells + (gn g2 - gn g)) ∧ gs g2 = t0 + (slots + (gs g2 - gs g)) := by have h3 := hX2.1; have h4 := hX2.2.1; omega
  have k6 := hX2.k hx0 (by decide)
  have ak6 : ad5 x0 = ad x0 := hax _ (kz hx0 (by decide))
  rw [← ak6] at hl
  have k7 := hX2.k hz0 (by decide)
  have ak7 : ad5 z0 = ad z0 := hax _ (kz hz0 (by decide))
  have k8 := hX2.k hz2 (by decide)
  have ak8 : ad5 z2 = ad z2 := hax _ (kz hz2 (by decide))
  rw [← ak7]
  rw [← ak8]
  exact wX3_init_63 hnm C Sm3 k6 hx1 k7 hz1 k8 (lv_sub hl [0, 1] rfl) hq hn hF he K0 K1
theorem xX3_init_46 {g : Shp} {m : Mem} {x0 x1 : Int} {c1 : Int} {s1 : (Int × Shp × Mem)} (hF : bX3_init_46 x0 x1 g m = some (c1, s1)) (hg : gOk g) : gX g s1.2.1 ∧ gOk s1.2.1 := by
  unfold bX3_init_46 at hF
  by_cases hc1 : 3 ≤ x1
  · have hF := if_t hc1 hF
    cases hF
    exact ⟨gX.rf _, hg⟩
  · have hF := if_f hc1 hF
    obtain ⟨k2, hF⟩ := ck_ok hF
    obtain ⟨h6, hF⟩ := ck_ok hF
    obtain ⟨g3, eg3, hF⟩ := vg_ok hF
    obtain ⟨m4, em4, hF⟩ := vm_ok hF
    obtain ⟨y5, ey5, hF⟩ := vv_ok hF
    have hG2 := gA_ok hg h6 eg3
    have hX2 := gA_X hg eg3
    exact gX2 hX2 (xX3_init_59 hF hG2)
set_option maxRecDepth 20000 in
theorem wX3_init_46 {p : Program} {l : Launch} {e : Env} {s : State} {mt : MethodId} {args : Array Value} {below : List Frame} {meth : Method} {c : Code} {Q : State → Prop} {G : Gl} {A : Nat → Prop} {H0 : Heap} {ad : Int → Nat} {g : Shp} {ad0 : Int → Nat} {g0 : Shp} {n0 t0 cells slots mc msl : Nat} (hnm : meth.name = "<init>") {H : Heap} {locs : List Loc} {ls : Array Slot} {m : Mem} {x0 x1 : Int} (C : CallFix p mt c cX3_init 2 s args tb RX3) (S : Wd G A s H0 ad g m H locs) (hx0 : gk g x0 = 4) (hx1 : r32 x1) (hl : lv_has ls 2 [(0, .ref (ad x0)), (1, .int (iI x1))]) (hq : aX g0 ad0 ad ∧ gX g0 g) (hn : gn g = n0 + cells ∧ gs g = t0 + slots) {c1 : Int} {s1 : (Int × Shp × Mem)} (hF : bX3_init_46 x0 x1 g m = some (c1, s1)) (he : gn s1.2.1 ≤ n0 + mc ∧ gs s1.2.1 ≤ t0 + msl) (K0 : c1 = 0 → ∀ (ad : Int → Nat) (H : Heap) (locs : List Loc) (ls : Array Slot) (cells slots : Nat), aX g0 ad0 ad ∧ gX g0 s1.2.1 → gn s1.2.1 = n0 + cells ∧ gs s1.2.1 = t0 + slots → gk s1.2.1 x0 = 4 → r32 s1.1 → Wd G A s H0 ad s1.2.1 s1.2.2 H locs → lv_has ls 2 [(0, .ref (ad x0)), (1, .int (iI s1.1))] → W p l e (rX3_init mc msl) s mt args below meth c H locs cells slots Q (F0 mt 46 ls [])) (K1 : c1 = 1 → ∀ (ad : Int → Nat) (H : Heap) (locs : List Loc) (ls : Array Slot) (cells slots : Nat), aX g0 ad0 ad ∧ gX g0 s1.2.1 → gn s1.2.1 = n0 + cells ∧ gs s1.2.1 = t0 + slots → Wd G A s H0 ad s1.2.1 s1.2.2 H locs → lv_has ls 2 [] → W p l e (rX3_init mc msl) s mt args below meth c H locs cells slots Q (F0 mt 70 ls [])) : W p l e (rX3_init mc msl) s mt args below meth c H locs cells slots Q (F0 mt 46 ls []) := by
  have hXx := xX3_init_46 hF S.g
  have hle : cells ≤ mc ∧ slots ≤ msl := by
    have h1 := hXx.1.1
    have h2 := hXx.1.2.1
    omega
  unfold bX3_init_46 at hF
  refine q_iload_n C hl 1 rfl rfl dX3_init_46 ?_
  refine q_iconst C 3 dX3_init_47 ?_
  refine q_icmp_ge C hx1 (rl 3 rfl) 70 dX3_init_48 (by decide) (fun hc1 => ?_) (fun hc1 => ?_)
  · have hF := if_t hc1 hF
    cases hF
    exact K1 rfl _ _ _ _ _ _ hq hn  S (lv_sub hl [] rfl)
  · have hF := if_f hc1 hF
    refine q_aload_n C hl 0 rfl rfl dX3_init_51 ?_
    obtain ⟨k2, hF⟩ := ck_ok hF
    refine q_getr C S 3 fo_RX3_23 (j := 3) rfl rfl hx0 k2 (by decide) dX3_init_52 ?_
    refine q_iload_n C hl 1 rfl rfl dX3_init_55 ?_
    obtain ⟨h6, hF⟩ := ck_ok hF
    obtain ⟨g3, eg3, hF⟩ := vg_ok hF
    obtain ⟨m4, em4, hF⟩ := vm_ok hF
    obtain ⟨y5, ey5, hF⟩ := vv_ok hF
    have hG2 := gA_ok S.g h6 eg3
    have hX2 := gA_X S.g eg3
    have hN2 := gA_n eg3
    have hXr := (xX3_init_59 hF hG2).1
    refine q_new C S nk_RX3_21 h6 (by have h1 := hXr.1; have h2 := hXr.2.1; exact ⟨by show _ ≤ mc; omega, by show _ ≤ msl; omega⟩) eg3 em4 dX3_init_56 (fun ad7 H hax Sm4 => ?_)
    rw [← ey5]
    have ky5 := gA_k eg3 ey5
    have hq : aX g0 ad0 ad7 ∧ gX g0 g3 := ⟨hq.1.tr hq.2 hax, hq.2.tr hX2⟩
    have hn : gn g3 = n0 + (cells + 1) ∧ gs g3 = t0 + (slots + 10) := by omega
    have k8 := hX2.k hx0 (by decide)
    have ak8 : ad7 x0 = ad x0 := hax _ (kz hx0 (by decide))
    rw [← ak8] at hl
    have k9 := hX2.k k2 (by decide)
    have ak9 : ad7 (m x0 3) = ad (m x0 3) := hax _ (kz k2 (by decide))
    rw [← ak9]
    exact wX3_init_59 hnm C Sm4 k8 hx1 k9 hx1 ky5 (lv_sub hl [0, 1] rfl) hq hn hF he K0 K1
theorem yX3_init_46 {x0 : Int} {n : Nat} {s0 s1 : (Int × Shp × Mem)} {c1 : Int} (hI : iter (BX3_init_46 x0) n s0 = some (c1, s1)) (hg : gOk s0.2.1) : gX s0.2.1 s1.2.1 ∧ gOk s1.2.1 :=
  iter_gX (B := BX3_init_46 x0) (fun q => q.2.1) (fun s c s' hB hg => xX3_init_46 hB hg) n s0 c1 s1 hI hg
set_option maxRecDepth 20000 in
theorem lX3_init_46 {p : Program} {l : Launch} {e : Env} {s : State} {mt : MethodId} {args : Array Value} {below : List Frame} {meth : Method} {c : Code} {Q : State → Prop} {G : Gl} {A : Nat → Prop} {H0 : Heap} {ad0 : Int → Nat} {g0 : Shp} {n0 t0 mc msl : Nat} (hnm : meth.name = "<init>") {x0 : Int} (C : CallFix p mt c cX3_init 2 s args tb RX3)  {n : Nat} {s0 s1 : (Int × Shp × Mem)} {c1 : Int} (hI : iter (BX3_init_46 x0) n s0 = some (c1, s1)) (he : gn s1.2.1 ≤ n0 + mc ∧ gs s1.2.1 ≤ t0 + msl) (K1 : c1 = 1 → ∀ (ad : Int → Nat) (H : Heap) (locs : List Loc) (ls : Array Slot) (cells slots : Nat), aX g0 ad0 ad ∧ gX g0 s1.2.1 → gn s1.2.1 = n0 + cells ∧ gs s1.2.1 = t0 + slots → Wd G A s H0 ad s1.2.1 s1.2.2 H locs → lv_has ls 2 [] → W p l e (rX3_init mc msl) s mt args below meth c H locs cells slots Q (F0 mt 70 ls [])) : ∀ (ad : Int → Nat) (H : Heap) (locs : List Loc) (ls : Array Slot) (cells slots : Nat), aX g0 ad0 ad ∧ gX g0 s0.2.1 → gn s0.2.1 = n0 + cells ∧ gs s0.2.1 = t0 + slots → gk s0.2.1 x0 = 4 → r32 s0.1 → Wd G A s H0 ad s0.2.1 s0.2.2 H locs → lv_has ls 2 [(0, .ref (ad x0)), (1, .int (iI s0.1))] → W p l e (rX3_init mc msl) s mt args below meth c H locs cells slots Q (F0 mt 46 ls []) := by
  refine iter_WA (Pw := fun q => ∀ (ad : Int → Nat) (H : Heap) (locs : List Loc) (ls : Array Slot) (cells slots : Nat), aX g0 ad0 ad ∧ gX g0 q.2.1 → gn q.2.1 = n0 + cells ∧ gs q.2.1 = t0 + slots → gk q.2.1 x0 = 4 → r32 q.1 → Wd G A s H0 ad q.2.1 q.2.2 H locs → lv_has ls 2 [(0, .ref (ad x0)), (1, .int (iI q.1))] → W p l e (rX3_init mc msl) s mt args below meth c H locs cells slots Q (F0 mt 46 ls [])) (Px := fun c0 q => (c0 = 1 → ∀ (ad : Int → Nat) (H : Heap) (locs : List Loc) (ls : Array Slot) (cells slots : Nat), aX g0 ad0 ad ∧ gX g0 q.2.1 → gn q.2.1 = n0 + cells ∧ gs q.2.1 = t0 + slots → Wd G A s H0 ad q.2.1 q.2.2 H locs → lv_has ls 2 [] → W p l e (rX3_init mc msl) s mt args below meth c H locs cells slots Q (F0 mt 70 ls []))) ?_ _ _ hI K1
  intro n s c s' hB hR K0 kx ad H locs ls cells slots hq hn f0 f1 S hl
  have hX1 := xX3_init_46 hB S.g
  have hX2 : gn s'.2.1 ≤ gn s1.2.1 ∧ gs s'.2.1 ≤ gs s1.2.1 := by
    rcases hR with ⟨_, h2⟩ | ⟨_, h2, _⟩
    · have h3 := (yX3_init_46 h2 hX1.2).1
      exact ⟨h3.1, h3.2.1⟩
    · rw [h2]; exact ⟨Nat.le_refl _, Nat.le_refl _⟩
  exact wX3_init_46 hnm C S f0 f1 hl hq hn hB (by omega) K0 (fun h9 => (kx (by rw [h9]; decide)) h9)
theorem xX3_init_70 {g : Shp} {m : Mem} {r : Int} {g' : Shp} {m' : Mem} (hF : bX3_init_70 g m = some (r, g', m')) (hg : gOk g) : gX g g' ∧ gOk g' := by
  unfold bX3_init_70 at hF
  cases hF
  exact ⟨gX.rf _, hg⟩
set_option maxRecDepth 20000 in
theorem wX3_init_70 {p : Program} {l : Launch} {e : Env} {s : State} {mt : MethodId} {args : Array Value} {below : List Frame} {meth : Method} {c : Code} {Q : State → Prop} {G : Gl} {A : Nat → Prop} {H0 : Heap} {ad : Int → Nat} {g : Shp} {ad0 : Int → Nat} {g0 : Shp} {n0 t0 cells slots mc msl : Nat} (hnm : meth.name = "<init>") {H : Heap} {locs : List Loc} {ls : Array Slot} {m : Mem} (C : CallFix p mt c cX3_init 2 s args tb RX3) (S : Wd G A s H0 ad g m H locs)  (hl : lv_has ls 2 []) (hq : aX g0 ad0 ad ∧ gX g0 g) (hn : gn g = n0 + cells ∧ gs g = t0 + slots) {r : Int} {g' : Shp} {m' : Mem} (hF : bX3_init_70 g m = some (r, g', m')) (he : gn g' ≤ n0 + mc ∧ gs g' ≤ t0 + msl) (Kr : ∀ (ad : Int → Nat) (H : Heap) (locs : List Loc) (pc : Nat) (ls : Array Slot) (cells slots : Nat), aX g0 ad0 ad → gn g' = n0 + cells ∧ gs g' = t0 + slots → Wd G A s H0 ad g' m' H locs → decode cX3_init pc = .ok (.return_, 1) → W p l e (rX3_init mc msl) s mt args below meth c H locs cells slots Q (F0 mt pc ls [])) : W p l e (rX3_init mc msl) s mt args below meth c H locs cells slots Q (F0 mt 70 ls []) := by
  have hXx := xX3_init_70 hF S.g
  have hle : cells ≤ mc ∧ slots ≤ msl := by
    have h1 := hXx.1.1
    have h2 := hXx.1.2.1
    omega
  unfold bX3_init_70 at hF
  cases hF
  exact Kr _ _ _ _ _ _ _ hq.1 hn S dX3_init_70
theorem xX3_init_41 {g : Shp} {m : Mem} {x0 z0 z1 : Int} {r : Int} {g' : Shp} {m' : Mem} (hF : bX3_init_41 x0 z0 z1 g m = some (r, g', m')) (hg : gOk g) : gX g g' ∧ gOk g' := by
  unfold bX3_init_41 at hF
  obtain ⟨m1, em1, hF⟩ := vm_ok hF
  obtain ⟨cv2, sv3, hi4, hF⟩ := bdl_ok hF
  have hy := yX3_init_46 hi4 hg
  exact gX2 hy.1 (xX3_init_70 hF hy.2)
set_option maxRecDepth 20000 in
theorem wX3_init_41 {p : Program} {l : Launch} {e : Env} {s : State} {mt : MethodId} {args : Array Value} {below : List Frame} {meth : Method} {c : Code} {Q : State → Prop} {G : Gl} {A : Nat → Prop} {H0 : Heap} {ad : Int → Nat} {g : Shp} {ad0 : Int → Nat} {g0 : Shp} {n0 t0 cells slots mc msl : Nat} (hnm : meth.name = "<init>") {H : Heap} {locs : List Loc} {ls : Array Slot} {m : Mem} {x0 z0 z1 : Int} (C : CallFix p mt c cX3_init 2 s args tb RX3) (S : Wd G A s H0 ad g m H locs) (hx0 : gk g x0 = 4) (hz0 : gk g z0 = 4) (hz1 : gk g z1 = 10) (hl : lv_has ls 2 [(0, .ref (ad x0))]) (hq : aX g0 ad0 ad ∧ gX g0 g) (hn : gn g = n0 + cells ∧ gs g = t0 + slots) {r : Int} {g' : Shp} {m' : Mem} (hF : bX3_init_41 x0 z0 z1 g m = some (r, g', m')) (he : gn g' ≤ n0 + mc ∧ gs g' ≤ t0 + msl) (Kr : ∀ (ad : Int → Nat) (H : Heap) (locs : List Loc) (pc : Nat) (ls : Array Slot) (cells slots : Nat), aX g0 ad0 ad → gn g' = n0 + cells ∧ gs g' = t0 + slots → Wd G A s H0 ad g' m' H locs → decode cX3_init pc = .ok (.return_, 1) → W p l e (rX3_init mc msl) s mt args below meth c H locs cells slots Q (F0 mt pc ls [])) : W p l e (rX3_init mc msl) s mt args below meth c H locs cells slots Q (F0 mt 41 ls [.ref (ad z1), .ref (ad z0)]) := by
  have hXx := xX3_init_41 hF S.g
  have hle : cells ≤ mc ∧ slots ≤ msl := by
    have h1 := hXx.1.1
    have h2 := hXx.1.2.1
    omega
  unfold bX3_init_41 at hF
  obtain ⟨m1, em1, hF⟩ := vm_ok hF
  refine q_put C S 4 fo_RX3_30 fp_4_4 (fun _ => ⟨hnm, rfl⟩) (j := 4) rfl hz0 (orf_ok S hz1 (by decide) rfl) rfl rfl (S.k hz1 (by decide)) (fun _ => kz hz1 (by decide)) em1 dX3_init_41 (fun H locs Sm1 => ?_)
  refine q_iconst C 0 dX3_init_44 ?_
  refine q_istore_n C hl [(1, .int (iI 0)), (0, .ref (ad x0))] rfl rfl (by decide) rfl dX3_init_45 (fun ls hl => ?_)
  obtain ⟨cv2, sv3, hi4, hF⟩ := bdl_ok hF
  have hy := yX3_init_46 hi4 Sm1.g
  have hXr := (xX3_init_70 hF hy.2).1
  refine lX3_init_46 hnm C hi4 (by have h1 := hXr.1; have h2 := hXr.2.1; omega) ?_ _ _ _ _ _ _ hq hn hx0 (rl 0 rfl) Sm1 (lv_sub hl [1, 0] rfl)
  intro _ ad H locs ls cells slots hq hn  S5 hl
  exact wX3_init_70 hnm C S5  (lv_sub hl [] rfl) hq hn hF he Kr
theorem xX3_init_37 {g : Shp} {m : Mem} {x0 z0 z1 : Int} {r : Int} {g' : Shp} {m' : Mem} (hF : bX3_init_37 x0 z0 z1 g m = some (r, g', m')) (hg : gOk g) : gX g g' ∧ gOk g' := by
  unfold bX3_init_37 at hF
  obtain ⟨v1, g2, m3, h4, hF⟩ := bd3_ok hF
  have hX3 := xX9_init_f h4 hg
  have hG2 := hX3.2
  have hX2 := hX3.1
  exact gX2 hX2 (xX3_init_41 hF hG2)
set_option maxRecDepth 20000 in
theorem wX3_init_37 {p : Program} {l : Launch} {e : Env} {s : State} {mt : MethodId} {args : Array Value} {below : List Frame} {meth : Method} {c : Code} {Q : State → Prop} {G : Gl} {A : Nat → Prop} {H0 : Heap} {ad : Int → Nat} {g : Shp} {ad0 : Int → Nat} {g0 : Shp} {n0 t0 cells slots mc msl : Nat} (hnm : meth.name = "<init>") {H : Heap} {locs : List Loc} {ls : Array Slot} {m : Mem} {x0 z0 z1 : Int} (C : CallFix p mt c cX3_init 2 s args tb RX3) (S : Wd G A s H0 ad g m H locs) (hx0 : gk g x0 = 4) (hz0 : gk g z0 = 4) (hz1 : gk g z1 = 10) (hl : lv_has ls 2 [(0, .ref (ad x0))]) (hq : aX g0 ad0 ad ∧ gX g0 g) (hn : gn g = n0 + cells ∧ gs g = t0 + slots) {r : Int} {g' : Shp} {m' : Mem} (hF : bX3_init_37 x0 z0 z1 g m = some (r, g', m')) (he : gn g' ≤ n0 + mc ∧ gs g' ≤ t0 + msl) (Kr : ∀ (ad : Int → Nat) (H : Heap) (locs : List Loc) (pc : Nat) (ls : Array Slot) (cells slots : Nat), aX g0 ad0 ad → gn g' = n0 + cells ∧ gs g' = t0 + slots → Wd G A s H0 ad g' m' H locs → decode cX3_init pc = .ok (.return_, 1) → W p l e (rX3_init mc msl) s mt args below meth c H locs cells slots Q (F0 mt pc ls [])) : W p l e (rX3_init mc msl) s mt args below meth c H locs cells slots Q (F0 mt 37 ls [.ref (ad z1), .ref (ad z0)]) := by
  have hXx := xX3_init_37 hF S.g
  have hle : cells ≤ mc ∧ slots ≤ msl := by
    have h1 := hXx.1.1
    have h2 := hXx.1.2.1
    omega
  unfold bX3_init_37 at hF
  refine q_dup C rfl dX3_init_37 ?_
  obtain ⟨v1, g2, m3, h4, hF⟩ := bd3_ok hF
  have hX3 := xX9_init_f h4 S.g
  have hG2 := hX3.2
  have hX2 := hX3.1
  have hXr := (xX3_init_41 hF hG2).1
  refine q_cvA S (run_IN (As := []) (rest := [.ref (ad z1), .ref (ad z0)]) C S (cX9_init_ok l G hz1 h4 ad _) (host := "StoneFloors") (by decide) tw271 tw72 tw270 rfl hd_X9_init rfl ⟨rfl, rfl, (Nat.le_of_ble_eq_true rfl), (Nat.le_of_ble_eq_true rfl)⟩ (by have h1 := hXr.1; have h2 := hXr.2.1; have h3 := hX2.1; have h4 := hX2.2.1; exact ⟨by show _ ≤ mc; omega, by show _ ≤ msl; omega⟩) hl.1 rfl (Nat.le_of_ble_eq_true rfl) dX3_init_38) (fun ad5 H locs hax Sm3 => ?_)
  have hq : aX g0 ad0 ad5 ∧ gX g0 g2 := ⟨hq.1.tr hq.2 hax, hq.2.tr hX2⟩
  have hn : gn g2 = n0 + (cells + (gn g2 - gn g)) ∧ gs g2 = t0 + (slots + (gs g2 - gs g)) := by have h3 := hX2.1; have h4 := hX2.2.1; omega
  have k6 := hX2.k hx0 (by decide)
  have ak6 : ad5 x0 = ad x0 := hax _ (kz hx0 (by decide))
  rw [← ak6] at hl
  have k7 := hX2.k hz0 (by decide)
  have ak7 : ad5 z0 = ad z0 := hax _ (kz hz0 (by decide))
  have k8 := hX2.k hz1 (by decide)
  have ak8 : ad5 z1 = ad z1 := hax _ (kz hz1 (by decide))
  rw [← ak7]
  rw [← ak8]
  exact wX3_init_41 hnm C Sm3 k6 k7 k8 (lv_sub hl [0] rfl) hq hn hF he Kr
theorem xX3_init_30 {g : Shp} {m : Mem} {x0 z0 z1 : Int} {r : Int} {g' : Shp} {m' : Mem} (hF : bX3_init_30 x0 z0 z1 g m = some (r, g', m')) (hg : gOk g) : gX g g' ∧ gOk g' := by
  unfold bX3_init_30 at hF
  obtain ⟨m1, em1, hF⟩ := vm_ok hF
  obtain ⟨h5, hF⟩ := ck_ok hF
  obtain ⟨g2, eg2, hF⟩ := vg_ok hF
  obtain ⟨m3, em3, hF⟩ := vm_ok hF
  obtain ⟨y4, ey4, hF⟩ := vv_ok hF
  have hG2 := gA_ok hg h5 eg2
  have hX2 := gA_X hg eg2
  exact gX2 hX2 (xX3_init_37 hF hG2)
set_option maxRecDepth 20000 in
theorem wX3_init_30 {p : Program} {l : Launch} {e : Env} {s : State} {mt : MethodId} {args : Array Value} {below : List Frame} {meth : Method} {c : Code} {Q : State → Prop} {G : Gl} {A : Nat → Prop} {H0 : Heap} {ad : Int → Nat} {g : Shp} {ad0 : Int → Nat} {g0 : Shp} {n0 t0 cells slots mc msl : Nat} (hnm : meth.name = "<init>") {H : Heap} {locs : List Loc} {ls : Array Slot} {m : Mem} {x0 z0 z1 : Int} (C : CallFix p mt c cX3_init 2 s args tb RX3) (S : Wd G A s H0 ad g m H locs) (hx0 : gk g x0 = 4) (hz0 : gk g z0 = 4) (hz1 : gk g z1 = 23) (hl : lv_has ls 2 [(0, .ref (ad x0))]) (hq : aX g0 ad0 ad ∧ gX g0 g) (hn : gn g = n0 + cells ∧ gs g = t0 + slots) {r : Int} {g' : Shp} {m' : Mem} (hF : bX3_init_30 x0 z0 z1 g m = some (r, g', m')) (he : gn g' ≤ n0 + mc ∧ gs g' ≤ t0 + msl) (Kr : ∀ (ad : Int → Nat) (H : Heap) (locs : List Loc) (pc : Nat) (ls : Array Slot) (cells slots : Nat), aX g0 ad0 ad → gn g' = n0 + cells ∧ gs g' = t0 + slots → Wd G A s H0 ad g' m' H locs → decode cX3_init pc = .ok (.return_, 1) → W p l e (rX3_init mc msl) s mt args below meth c H locs cells slots Q (F0 mt pc ls [])) : W p l e (rX3_init mc msl) s mt args below meth c H locs cells slots Q (F0 mt 30 ls [.ref (ad z1), .ref (ad z0)]) := by
  have hXx := xX3_init_30 hF S.g
  have hle : cells ≤ mc ∧ slots ≤ msl := by
    have h1 := hXx.1.1
    have h2 := hXx.1.2.1
    omega
  unfold bX3_init_30 at hF
  obtain ⟨m1, em1, hF⟩ := vm_ok hF
  refine q_put C S 3 fo_RX3_23 fp_4_3 (fun _ => ⟨hnm, rfl⟩) (j := 3) rfl hz0 (orf_ok S hz1 (by decide) rfl) rfl rfl (S.k hz1 (by decide)) (fun _ => kz hz1 (by decide)) em1 dX3_init_30 (fun H locs Sm1 => ?_)
  refine q_aload_n C hl 0 rfl rfl dX3_init_33 ?_
  obtain ⟨h5, hF⟩ := ck_ok hF
  obtain ⟨g2, eg2, hF⟩ := vg_ok hF
  obtain ⟨m3, em3, hF⟩ := vm_ok hF
  obtain ⟨y4, ey4, hF⟩ := vv_ok hF
  have hG2 := gA_ok Sm1.g h5 eg2
  have hX2 := gA_X Sm1.g eg2
  have hN2 := gA_n eg2
  have hXr := (xX3_init_37 hF hG2).1
  refine q_new C Sm1 nk_RX3_27 h5 (by have h1 := hXr.1; have h2 := hXr.2.1; exact ⟨by show _ ≤ mc; omega, by show _ ≤ msl; omega⟩) eg2 em3 dX3_init_34 (fun ad6 H hax Sm3 => ?_)
  rw [← ey4]
  have ky4 := gA_k eg2 ey4
  have hq : aX g0 ad0 ad6 ∧ gX g0 g2 := ⟨hq.1.tr hq.2 hax, hq.2.tr hX2⟩
  have hn : gn g2 = n0 + (cells + 1) ∧ gs g2 = t0 + (slots + 9) := by omega
  have k7 := hX2.k hx0 (by decide)
  have ak7 : ad6 x0 = ad x0 := hax _ (kz hx0 (by decide))
  rw [← ak7] at hl
  rw [← ak7]
  exact wX3_init_37 hnm C Sm3 k7 k7 ky4 (lv_sub hl [0] rfl) hq hn hF he Kr
theorem xX3_init_22 {g : Shp} {m : Mem} {x0 z0 z1 : Int} {r : Int} {g' : Shp} {m' : Mem} (hF : bX3_init_22 x0 z0 z1 g m = some (r, g', m')) (hg : gOk g) : gX g g' ∧ gOk g' := by
  unfold bX3_init_22 at hF
  obtain ⟨m1, em1, hF⟩ := vm_ok hF
  obtain ⟨h5, hF⟩ := ck_ok hF
  obtain ⟨g2, eg2, hF⟩ := vg_ok hF
  obtain ⟨m3, em3, hF⟩ := vm_ok hF
  obtain ⟨y4, ey4, hF⟩ := vv_ok hF
  have hG2 := gA_ok hg h5 eg2
  have hX2 := gA_X hg eg2
  exact gX2 hX2 (xX3_init_30 hF hG2)
set_option maxRecDepth 20000 in
theorem wX3_init_22 {p : Program} {l : Launch} {e : Env} {s : State} {mt : MethodId} {args : Array Value} {below : List Frame} {meth : Method} {c : Code} {Q : State → Prop} {G : Gl} {A : Nat → Prop} {H0 : Heap} {ad : Int → Nat} {g : Shp} {ad0 : Int → Nat} {g0 : Shp} {n0 t0 cells slots mc msl : Nat} (hnm : meth.name = "<init>") {H : Heap} {locs : List Loc} {ls : Array Slot} {m : Mem} {x0 z0 z1 : Int} (C : CallFix p mt c cX3_init 2 s args tb RX3) (S : Wd G A s H0 ad g m H locs) (hx0 : gk g x0 = 4) (hz0 : gk g z0 = 4) (hz1 : gk g z1 = 20) (hl : lv_has ls 2 [(0, .ref (ad x0))]) (hq : aX g0 ad0 ad ∧ gX g0 g) (hn : gn g = n0 + cells ∧ gs g = t0 + slots) {r : Int} {g' : Shp} {m' : Mem} (hF : bX3_init_22 x0 z0 z1 g m = some (r, g', m')) (he : gn g' ≤ n0 + mc ∧ gs g' ≤ t0 + msl) (Kr : ∀ (ad : Int → Nat) (H : Heap) (locs : List Loc) (pc : Nat) (ls : Array Slot) (cells slots : Nat), aX g0 ad0 ad → gn g' = n0 + cells ∧ gs g' = t0 + slots → Wd G A s H0 ad g' m' H locs → decode cX3_init pc = .ok (.return_, 1) → W p l e (rX3_init mc msl) s mt args below meth c H locs cells slots Q (F0 mt pc ls [])) : W p l e (rX3_init mc msl) s mt args below meth c H locs cells slots Q (F0 mt 22 ls [.ref (ad z1), .ref (ad z0)]) := by
  have hXx := xX3_init_22 hF S.g
  have hle : cells ≤ mc ∧ slots ≤ msl := by
    have h1 := hXx.1.1
    have h2 := hXx.1.2.1
    omega
  unfold bX3_init_22 at hF
  obtain ⟨m1, em1, hF⟩ := vm_ok hF
  refine q_put C S 2 fo_RX3_18 fp_4_2 (fun _ => ⟨hnm, rfl⟩) (j := 2) rfl hz0 (orf_ok S hz1 (by decide) rfl) rfl rfl (S.k hz1 (by decide)) (fun _ => kz hz1 (by decide)) em1 dX3_init_22 (fun H locs Sm1 => ?_)
  refine q_aload_n C hl 0 rfl rfl dX3_init_25 ?_
  refine q_iconst C 3 dX3_init_26 ?_
  obtain ⟨h5, hF⟩ := ck_ok hF
  obtain ⟨g2, eg2, hF⟩ := vg_ok hF
  obtain ⟨m3, em3, hF⟩ := vm_ok hF
  obtain ⟨y4, ey4, hF⟩ := vv_ok hF
  have hG2 := gA_ok Sm1.g h5 eg2
  have hX2 := gA_X Sm1.g eg2
  have hN2 := gA_n eg2
  have hXr := (xX3_init_30 hF hG2).1
  refine q_newq C Sm1 rfl (Or.inl ⟨rfl, rfl⟩) tw266 h5 (by have h1 := hXr.1; have h2 := hXr.2.1; exact ⟨by show _ ≤ mc; omega, by show _ ≤ msl; omega⟩) eg2 em3 dX3_init_27 (fun ad6 H hax Sm3 => ?_)
  rw [← ey4]
  have ky4 := gA_k eg2 ey4
  have hq : aX g0 ad0 ad6 ∧ gX g0 g2 := ⟨hq.1.tr hq.2 hax, hq.2.tr hX2⟩
  have hn : gn g2 = n0 + (cells + 1) ∧ gs g2 = t0 + (slots + 3) := by omega
  have k7 := hX2.k hx0 (by decide)
  have ak7 : ad6 x0 = ad x0 := hax _ (kz hx0 (by decide))
  rw [← ak7] at hl
  rw [← ak7]
  exact wX3_init_30 hnm C Sm3 k7 k7 ky4 (lv_sub hl [0] rfl) hq hn hF he Kr
theorem xX3_init_15 {g : Shp} {m : Mem} {x0 z0 z1 : Int} {r : Int} {g' : Shp} {m' : Mem} (hF : bX3_init_15 x0 z0 z1 g m = some (r, g', m')) (hg : gOk g) : gX g g' ∧ gOk g' := by
  unfold bX3_init_15 at hF
  obtain ⟨m1, em1, hF⟩ := vm_ok hF
  obtain ⟨h5, hF⟩ := ck_ok hF
  obtain ⟨g2, eg2, hF⟩ := vg_ok hF
  obtain ⟨m3, em3, hF⟩ := vm_ok hF
  obtain ⟨y4, ey4, hF⟩ := vv_ok hF
  have hG2 := gA_ok hg h5 eg2
  have hX2 := gA_X hg eg2
  exact gX2 hX2 (xX3_init_22 hF hG2)
set_option maxRecDepth 20000 in
theorem wX3_init_15 {p : Program} {l : Launch} {e : Env} {s : State} {mt : MethodId} {args : Array Value} {below : List Frame} {meth : Method} {c : Code} {Q : State → Prop} {G : Gl} {A : Nat → Prop} {H0 : Heap} {ad : Int → Nat} {g : Shp} {ad0 : Int → Nat} {g0 : Shp} {n0 t0 cells slots mc msl : Nat} (hnm : meth.name = "<init>") {H : Heap} {locs : List Loc} {ls : Array Slot} {m : Mem} {x0 z0 z1 : Int} (C : CallFix p mt c cX3_init 2 s args tb RX3) (S : Wd G A s H0 ad g m H locs) (hx0 : gk g x0 = 4) (hz0 : gk g z0 = 4) (hz1 : gk g z1 = 20) (hl : lv_has ls 2 [(0, .ref (ad x0))]) (hq : aX g0 ad0 ad ∧ gX g0 g) (hn : gn g = n0 + cells ∧ gs g = t0 + slots) {r : Int} {g' : Shp} {m' : Mem} (hF : bX3_init_15 x0 z0 z1 g m = some (r, g', m')) (he : gn g' ≤ n0 + mc ∧ gs g' ≤ t0 + msl) (Kr : ∀ (ad : Int → Nat) (H : Heap) (locs : List Loc) (pc : Nat) (ls : Array Slot) (cells slots : Nat), aX g0 ad0 ad → gn g' = n0 + cells ∧ gs g' = t0 + slots → Wd G A s H0 ad g' m' H locs → decode cX3_init pc = .ok (.return_, 1) → W p l e (rX3_init mc msl) s mt args below meth c H locs cells slots Q (F0 mt pc ls [])) : W p l e (rX3_init mc msl) s mt args below meth c H locs cells slots Q (F0 mt 15 ls [.ref (ad z1), .ref (ad z0)]) := by
  have hXx := xX3_init_15 hF S.g
  have hle : cells ≤ mc ∧ slots ≤ msl := by
    have h1 := hXx.1.1
    have h2 := hXx.1.2.1
    omega
  unfold bX3_init_15 at hF
  obtain ⟨m1, em1, hF⟩ := vm_ok hF
  refine q_put C S 1 fo_RX3_15 fp_4_1 (fun _ => ⟨hnm, rfl⟩) (j := 1) rfl hz0 (orf_ok S hz1 (by decide) rfl) rfl rfl (S.k hz1 (by decide)) (fun _ => kz hz1 (by decide)) em1 dX3_init_15 (fun H locs Sm1 => ?_)
  refine q_aload_n C hl 0 rfl rfl dX3_init_18 ?_
  refine q_iconst C 3 dX3_init_19 ?_
  obtain ⟨h5, hF⟩ := ck_ok hF
  obtain ⟨g2, eg2, hF⟩ := vg_ok hF
  obtain ⟨m3, em3, hF⟩ := vm_ok hF
  obtain ⟨y4, ey4, hF⟩ := vv_ok hF
  have hG2 := gA_ok Sm1.g h5 eg2
  have hX2 := gA_X Sm1.g eg2
  have hN2 := gA_n eg2
  have hXr := (xX3_init_22 hF hG2).1
  refine q_newi C Sm1 rfl (Or.inl ⟨rfl, rfl, rfl⟩) tw113 h5 (by have h1 := hXr.1; have h2 := hXr.2.1; exact ⟨by show _ ≤ mc; omega, by show _ ≤ msl; omega⟩) eg2 em3 dX3_init_20 (fun ad6 H hax Sm3 => ?_)
  rw [← ey4]
  have ky4 := gA_k eg2 ey4
  have hq : aX g0 ad0 ad6 ∧ gX g0 g2 := ⟨hq.1.tr hq.2 hax, hq.2.tr hX2⟩
  have hn : gn g2 = n0 + (cells + 1) ∧ gs g2 = t0 + (slots + 3) := by omega
  have k7 := hX2.k hx0 (by decide)
  have ak7 : ad6 x0 = ad x0 := hax _ (kz hx0 (by decide))
  rw [← ak7] at hl
  rw [← ak7]
  exact wX3_init_22 hnm C Sm3 k7 k7 ky4 (lv_sub hl [0] rfl) hq hn hF he Kr
theorem xX3_init_8 {g : Shp} {m : Mem} {x0 z0 z1 : Int} {r : Int} {g' : Shp} {m' : Mem} (hF : bX3_init_8 x0 z0 z1 g m = some (r, g', m')) (hg : gOk g) : gX g g' ∧ gOk g' := by
  unfold bX3_init_8 at hF
  obtain ⟨m1, em1, hF⟩ := vm_ok hF
  obtain ⟨h5, hF⟩ := ck_ok hF
  obtain ⟨g2, eg2, hF⟩ := vg_ok hF
  obtain ⟨m3, em3, hF⟩ := vm_ok hF
  obtain ⟨y4, ey4, hF⟩ := vv_ok hF
  have hG2 := gA_ok hg h5 eg2
  have hX2 := gA_X hg eg2
  exact gX2 hX2 (xX3_init_15 hF hG2)
set_option maxRecDepth 20000 in
theorem wX3_init_8 {p : Program} {l : Launch} {e : Env} {s : State} {mt : MethodId} {args : Array Value} {below : List Frame} {meth : Method} {c : Code} {Q : State → Prop} {G : Gl} {A : Nat → Prop} {H0 : Heap} {ad : Int → Nat} {g : Shp} {ad0 : Int → Nat} {g0 : Shp} {n0 t0 cells slots mc msl : Nat} (hnm : meth.name = "<init>") {H : Heap} {locs : List Loc} {ls : Array Slot} {m : Mem} {x0 z0 z1 : Int} (C : CallFix p mt c cX3_init 2 s args tb RX3) (S : Wd G A s H0 ad g m H locs) (hx0 : gk g x0 = 4) (hz0 : gk g z0 = 4) (hz1 : gk g z1 = 20) (hl : lv_has ls 2 [(0, .ref (ad x0))]) (hq : aX g0 ad0 ad ∧ gX g0 g) (hn : gn g = n0 + cells ∧ gs g = t0 + slots) {r : Int} {g' : Shp} {m' : Mem} (hF : bX3_init_8 x0 z0 z1 g m = some (r, g', m')) (he : gn g' ≤ n0 + mc ∧ gs g' ≤ t0 + msl) (Kr : ∀ (ad : Int → Nat) (H : Heap) (locs : List Loc) (pc : Nat) (ls : Array Slot) (cells slots : Nat), aX g0 ad0 ad → gn g' = n0 + cells ∧ gs g' = t0 + slots → Wd G A s H0 ad g' m' H locs → decode cX3_init pc = .ok (.return_, 1) → W p l e (rX3_init mc msl) s mt args below meth c H locs cells slots Q (F0 mt pc ls [])) : W p l e (rX3_init mc msl) s mt args below meth c H locs cells slots Q (F0 mt 8 ls [.ref (ad z1), .ref (ad z0)]) := by
  have hXx := xX3_init_8 hF S.g
  have hle : cells ≤ mc ∧ slots ≤ msl := by
    have h1 := hXx.1.1
    have h2 := hXx.1.2.1
    omega
  unfold bX3_init_8 at hF
  obtain ⟨m1, em1, hF⟩ := vm_ok hF
  refine q_put C S 0 fo_RX3_9 fp_4_0 (fun _ => ⟨hnm, rfl⟩) (j := 0) rfl hz0 (orf_ok S hz1 (by decide) rfl) rfl rfl (S.k hz1 (by decide)) (fun _ => kz hz1 (by decide)) em1 dX3_init_8 (fun H locs Sm1 => ?_)
  refine q_aload_n C hl 0 rfl rfl dX3_init_11 ?_
  refine q_iconst C 3 dX3_init_12 ?_
  obtain ⟨h5, hF⟩ := ck_ok hF
  obtain ⟨g2, eg2, hF⟩ := vg_ok hF
  obtain ⟨m3, em3, hF⟩ := vm_ok hF
  obtain ⟨y4, ey4, hF⟩ := vv_ok hF
  have hG2 := gA_ok Sm1.g h5 eg2
  have hX2 := gA_X Sm1.g eg2
  have hN2 := gA_n eg2
  have hXr := (xX3_init_15 hF hG2).1
  refine q_newi C Sm1 rfl (Or.inl ⟨rfl, rfl, rfl⟩) tw113 h5 (by have h1 := hXr.1; have h2 := hXr.2.1; exact ⟨by show _ ≤ mc; omega, by show _ ≤ msl; omega⟩) eg2 em3 dX3_init_13 (fun ad6 H hax Sm3 => ?_)
  rw [← ey4]
  have ky4 := gA_k eg2 ey4
  have hq : aX g0 ad0 ad6 ∧ gX g0 g2 := ⟨hq.1.tr hq.2 hax, hq.2.tr hX2⟩
  have hn : gn g2 = n0 + (cells + 1) ∧ gs g2 = t0 + (slots + 3) := by omega
  have k7 := hX2.k hx0 (by decide)
  have ak7 : ad6 x0 = ad x0 := hax _ (kz hx0 (by decide))
  rw [← ak7] at hl
  rw [← ak7]
  exact wX3_init_15 hnm C Sm3 k7 k7 ky4 (lv_sub hl [0] rfl) hq hn hF he Kr
theorem xX3_init_0 {g : Shp} {m : Mem} {x0 : Int} {r : Int} {g' : Shp} {m' : Mem} (hF : bX3_init_0 x0 g m = some (r, g', m')) (hg : gOk g) : gX g g' ∧ gOk g' := by
  unfold bX3_init_0 at hF
  obtain ⟨h4, hF⟩ := ck_ok hF
  obtain ⟨g1, eg1, hF⟩ := vg_ok hF
  obtain ⟨m2, em2, hF⟩ := vm_ok hF
  obtain ⟨y3, ey3, hF⟩ := vv_ok hF
  have hG2 := gA_ok hg h4 eg1
  have hX2 := gA_X hg eg1
  exact gX2 hX2 (xX3_init_8 hF hG2)
set_option maxRecDepth 20000 in
theorem wX3_init_0 {p : Program} {l : Launch} {e : Env} {s : State} {mt : MethodId} {args : Array Value} {below : List Frame} {meth : Method} {c : Code} {Q : State → Prop} {G : Gl} {A : Nat → Prop} {H0 : Heap} {ad : Int → Nat} {g : Shp} {ad0 : Int → Nat} {g0 : Shp} {n0 t0 cells slots mc msl : Nat} (hnm : meth.name = "<init>") {H : Heap} {locs : List Loc} {ls : Array Slot} {m : Mem} {x0 : Int} (C : CallFix p mt c cX3_init 2 s args tb RX3) (S : Wd G A s H0 ad g m H locs) (hx0 : gk g x0 = 4) (hl : lv_has ls 2 [(0, .ref (ad x0))]) (hq : aX g0 ad0 ad ∧ gX g0 g) (hn : gn g = n0 + cells ∧ gs g = t0 + slots) {r : Int} {g' : Shp} {m' : Mem} (hF : bX3_init_0 x0 g m = some (r, g', m')) (he : gn g' ≤ n0 + mc ∧ gs g' ≤ t0 + msl) (Kr : ∀ (ad : Int → Nat) (H : Heap) (locs : List Loc) (pc : Nat) (ls : Array Slot) (cells slots : Nat), aX g0 ad0 ad → gn g' = n0 + cells ∧ gs g' = t0 + slots → Wd G A s H0 ad g' m' H locs → decode cX3_init pc = .ok (.return_, 1) → W p l e (rX3_init mc msl) s mt args below meth c H locs cells slots Q (F0 mt pc ls [])) : W p l e (rX3_init mc msl) s mt args below meth c H locs cells slots Q (F0 mt 0 ls []) := by
  have hXx := xX3_init_0 hF S.g
  have hle : cells ≤ mc ∧ slots ≤ msl := by
    have h1 := hXx.1.1
    have h2 := hXx.1.2.1
    omega
  unfold bX3_init_0 at hF
  refine q_aload_n C hl 0 rfl rfl dX3_init_0 ?_
  refine q_oinit C tw265 tw90 tw91 hl.1 (Nat.le_of_ble_eq_true rfl) (Nat.le_of_ble_eq_true rfl) dX3_init_1 ?_
  refine q_aload_n C hl 0 rfl rfl dX3_init_4 ?_
  refine q_iconst C 3 dX3_init_5 ?_
  obtain ⟨h4, hF⟩ := ck_ok hF
  obtain ⟨g1, eg1, hF⟩ := vg_ok hF
  obtain ⟨m2, em2, hF⟩ := vm_ok hF
  obtain ⟨y3, ey3, hF⟩ := vv_ok hF
  have hG2 := gA_ok S.g h4 eg1
  have hX2 := gA_X S.g eg1
  have hN2 := gA_n eg1
  have hXr := (xX3_init_8 hF hG2).1
  refine q_newi C S rfl (Or.inl ⟨rfl, rfl, rfl⟩) tw113 h4 (by have h1 := hXr.1; have h2 := hXr.2.1; exact ⟨by show _ ≤ mc; omega, by show _ ≤ msl; omega⟩) eg1 em2 dX3_init_6 (fun ad5 H hax Sm2 => ?_)
  rw [← ey3]
  have ky3 := gA_k eg1 ey3
  have hq : aX g0 ad0 ad5 ∧ gX g0 g1 := ⟨hq.1.tr hq.2 hax, hq.2.tr hX2⟩
  have hn : gn g1 = n0 + (cells + 1) ∧ gs g1 = t0 + (slots + 3) := by omega
  have k6 := hX2.k hx0 (by decide)
  have ak6 : ad5 x0 = ad x0 := hax _ (kz hx0 (by decide))
  rw [← ak6] at hl
  rw [← ak6]
  exact wX3_init_8 hnm C Sm2 k6 k6 ky3 (lv_sub hl [0] rfl) hq hn hF he Kr
theorem xX3_init_f {x0 : Int} {g : Shp} {m : Mem} {r : Int} {g' : Shp} {m' : Mem} (hF : fX3_init x0 g m = some (r, g', m')) (hg : gOk g) : gX g g' ∧ gOk g' := xX3_init_0 hF hg
theorem cX3_init_ok (l : Launch) (G : Gl) {x0 : Int} {g : Shp} {m : Mem} {r : Int} {g' : Shp} {m' : Mem} (hx0 : gk g x0 = 4) (hF : fX3_init x0 g m = some (r, g', m')) : mVA l yX3_init (wT yX3_init cX3_init 2 none) rX3_init G (fun ad => [.ref (ad x0)]) g m g' m' :=
  met_vA (rm := rX3_init) (by decide) (fun ad => Nat.le_of_ble_eq_true rfl) (fun hg => (xX3_init_f hF hg).1) (fun p e s mt args below meth c Q A H0 H locs ad ls mc msl hmc hms C hnm S hl Kr => wX3_init_0 (n0 := gn g) (t0 := gs g) hnm C S hx0 hl ⟨fun _ _ => rfl, gX.rf _⟩ ⟨rfl, rfl⟩ hF (by have h9 := (xX3_init_f hF S.g).1; have h1 := h9.1; have h2 := h9.2.1; omega) Kr)
theorem xX4_init_33 {g : Shp} {m : Mem} {x0 x1 z0 z1 z2 : Int} {c1 : Int} {s1 : (Int × Shp × Mem)} (hF : bX4_init_33 x0 x1 z0 z1 z2 g m = some (c1, s1)) (hg : gOk g) : gX g s1.2.1 ∧ gOk s1.2.1 := by
  unfold bX4_init_33 at hF
  obtain ⟨i1, hF⟩ := ck_ok hF
  obtain ⟨m2, em2, hF⟩ := vm_ok hF
  obtain ⟨y3, ey3, hF⟩ := vv_ok hF
  cases hF
  exact ⟨gX.rf _, hg⟩
set_option maxRecDepth 20000 in
theorem wX4_init_33 {p : Program} {l : Launch} {e : Env} {s : State} {mt : MethodId} {args : Array Value} {below : List Frame} {meth : Method} {c : Code} {Q : State → Prop} {G : Gl} {A : Nat → Prop} {H0 : Heap} {ad : Int → Nat} {g : Shp} {ad0 : Int → Nat} {g0 : Shp} {n0 t0 cells slots mc msl : Nat} (hnm : meth.name = "<init>") {H : Heap} {locs : List Loc} {ls : Array Slot} {m : Mem} {x0 x1 z0 z1 z2 : Int} (C : CallFix p mt c cX4_init 2 s args tb RX4) (S : Wd G A s H0 ad g m H locs) (hx0 : gk g x0 = 5) (hx1 : r32 x1) (hz0 : gk g z0 = 23) (hz1 : r32 z1) (hz2 : gk g z2 = 2) (hl : lv_has ls 2 [(0, .ref (ad x0)), (1, .int (iI x1))]) (hq : aX g0 ad0 ad ∧ gX g0 g) (hn : gn g = n0 + cells ∧ gs g = t0 + slots) {c1 : Int} {s1 : (Int × Shp × Mem)} (hF : bX4_init_33 x0 x1 z0 z1 z2 g m = some (c1, s1)) (he : gn s1.2.1 ≤ n0 + mc ∧ gs s1.2.1 ≤ t0 + msl) (K0 : c1 = 0 → ∀ (ad : Int → Nat) (H : Heap) (locs : List Loc) (ls : Array Slot) (cells slots : Nat), aX g0 ad0 ad ∧ gX g0 s1.2.1 → gn s1.2.1 = n0 + cells ∧ gs s1.2.1 = t0 + slots → gk s1.2.1 x0 = 5 → r32 s1.1 → Wd G A s H0 ad s1.2.1 s1.2.2 H locs → lv_has ls 2 [(0, .ref (ad x0)), (1, .int (iI s1.1))] → W p l e (rX4_init mc msl) s mt args below meth c H locs cells slots Q (F0 mt 15 ls [])) (K1 : c1 = 1 → ∀ (ad : Int → Nat) (H : Heap) (locs : List Loc) (ls : Array Slot) (cells slots : Nat), aX g0 ad0 ad ∧ gX g0 s1.2.1 → gn s1.2.1 = n0 + cells ∧ gs s1.2.1 = t0 + slots → Wd G A s H0 ad s1.2.1 s1.2.2 H locs → lv_has ls 2 [] → W p l e (rX4_init mc msl) s mt args below meth c H locs cells slots Q (F0 mt 40 ls [])) : W p l e (rX4_init mc msl) s mt args below meth c H locs cells slots Q (F0 mt 33 ls [.ref (ad z2), .int (iI z1), .ref (ad z0)]) := by
  have hXx := xX4_init_33 hF S.g
  have hle : cells ≤ mc ∧ slots ≤ msl := by
    have h1 := hXx.1.1
    have h2 := hXx.1.2.1
    omega
  unfold bX4_init_33 at hF
  obtain ⟨i1, hF⟩ := ck_ok hF
  obtain ⟨m2, em2, hF⟩ := vm_ok hF
  refine q_aast C S hz0 (by decide) i1 hz2 ⟨by decide, rfl⟩ rfl (S.k hz2 (by decide)) em2 dX4_init_33 (fun H locs Sm2 => ?_)
  obtain ⟨y3, ey3, hF⟩ := vv_ok hF
  have ry3 : r32 y3 := ey3 ▸ r32_w _
  refine q_iinc C hl 1 [(1, .int (iI y3)), (0, .ref (ad x0))] rfl ey3 (by decide) rfl dX4_init_34 (fun ls hl => ?_)
  refine q_goto C 15 dX4_init_37 (by decide) ?_
  cases hF
  exact K0 rfl _ _ _ _ _ _ hq hn hx0 ry3 Sm2 (lv_sub hl [1, 0] rfl)
theorem xX4_init_29 {g : Shp} {m : Mem} {x0 x1 z0 z1 z2 : Int} {c1 : Int} {s1 : (Int × Shp × Mem)} (hF : bX4_init_29 x0 x1 z0 z1 z2 g m = some (c1, s1)) (hg : gOk g) : gX g s1.2.1 ∧ gOk s1.2.1 := by
  unfold bX4_init_29 at hF
  obtain ⟨v1, g2, m3, h4, hF⟩ := bd3_ok hF
  have hX3 := xX1_init_f h4 hg
  have hG2 := hX3.2
  have hX2 := hX3.1
  exact gX2 hX2 (xX4_init_33 hF hG2)
set_option maxRecDepth 20000 in
theorem wX4_init_29 {p : Program} {l : Launch} {e : Env} {s : State} {mt : MethodId} {args : Array Value} {below : List Frame} {meth : Method} {c : Code} {Q : State → Prop} {G : Gl} {A : Nat → Prop} {H0 : Heap} {ad : Int → Nat} {g : Shp} {ad0 : Int → Nat} {g0 : Shp} {n0 t0 cells slots mc msl : Nat} (hnm : meth.name = "<init>") {H : Heap} {locs : List Loc} {ls : Array Slot} {m : Mem} {x0 x1 z0 z1 z2 : Int} (C : CallFix p mt c cX4_init 2 s args tb RX4) (S : Wd G A s H0 ad g m H locs) (hx0 : gk g x0 = 5) (hx1 : r32 x1) (hz0 : gk g z0 = 23) (hz1 : r32 z1) (hz2 : gk g z2 = 2) (hl : lv_has ls 2 [(0, .ref (ad x0)), (1, .int (iI x1))]) (hq : aX g0 ad0 ad ∧ gX g0 g) (hn : gn g = n0 + cells ∧ gs g = t0 + slots) {c1 : Int} {s1 : (Int × Shp × Mem)} (hF : bX4_init_29 x0 x1 z0 z1 z2 g m = some (c1, s1)) (he : gn s1.2.1 ≤ n0 + mc ∧ gs s1.2.1 ≤ t0 + msl) (K0 : c1 = 0 → ∀ (ad : Int → Nat) (H : Heap) (locs : List Loc) (ls : Array Slot) (cells slots : Nat), aX g0 ad0 ad ∧ gX g0 s1.2.1 → gn s1.2.1 = n0 + cells ∧ gs s1.2.1 = t0 + slots → gk s1.2.1 x0 = 5 → r32 s1.1 → Wd G A s H0 ad s1.2.1 s1.2.2 H locs → lv_has ls 2 [(0, .ref (ad x0)), (1, .int (iI s1.1))] → W p l e (rX4_init mc msl) s mt args below meth c H locs cells slots Q (F0 mt 15 ls [])) (K1 : c1 = 1 → ∀ (ad : Int → Nat) (H : Heap) (locs : List Loc) (ls : Array Slot) (cells slots : Nat), aX g0 ad0 ad ∧ gX g0 s1.2.1 → gn s1.2.1 = n0 + cells ∧ gs s1.2.1 = t0 + slots → Wd G A s H0 ad s1.2.1 s1.2.2 H locs → lv_has ls 2 [] → W p l e (rX4_init mc msl) s mt args below meth c H locs cells slots Q (F0 mt 40 ls [])) : W p l e (rX4_init mc msl) s mt args below meth c H locs cells slots Q (F0 mt 29 ls [.ref (ad z2), .int (iI z1), .ref (ad z0)]) := by
  have hXx := xX4_init_29 hF S.g
  have hle : cells ≤ mc ∧ slots ≤ msl := by
    have h1 := hXx.1.1
    have h2 := hXx.1.2.1
    omega
  unfold bX4_init_29 at hF
  refine q_dup C rfl dX4_init_29 ?_
  obtain ⟨v1, g2, m3, h4, hF⟩ := bd3_ok hF
  have hX3 := xX1_init_f h4 S.g
  have hG2 := hX3.2
  have hX2 := hX3.1
  have hXr := (xX4_init_33 hF hG2).1
  refine q_cvA S (run_IN (As := []) (rest := [.ref (ad z2), .int (iI z1), .ref (ad z0)]) C S (cX1_init_ok l G hz2 h4 ad _) (host := "StoneFloors") (by decide) tw199 tw69 tw198 rfl hd_X1_init rfl ⟨rfl, rfl, (Nat.le_of_ble_eq_true rfl), (Nat.le_of_ble_eq_true rfl)⟩ (by have h1 := hXr.1; have h2 := hXr.2.1; have h3 := hX2.1; have h4 := hX2.2.1; exact ⟨by show _ ≤ mc; omega, by show _ ≤ msl; omega⟩) hl.1 rfl (Nat.le_of_ble_eq_true rfl) dX4_init_30) (fun ad5 H locs hax Sm3 => ?_)
  have hq : aX g0 ad0 ad5 ∧ gX g0 g2 := ⟨hq.1.tr hq.2 hax, hq.2.tr hX2⟩
  have hn : gn g2 = n0 + (cells + (gn g2 - gn g)) ∧ gs g2 = t0 + (slots + (gs g2 - gs g)) := by have h3 := hX2.1; have h4 := hX2.2.1; omega
  have k6 := hX2.k hx0 (by decide)
  have ak6 : ad5 x0 = ad x0 := hax _ (kz hx0 (by decide))
  rw [← ak6] at hl
  have k7 := hX2.k hz0 (by decide)
  have ak7 : ad5 z0 = ad z0 := hax _ (kz hz0 (by decide))
  have k8 := hX2.k hz2 (by decide)
  have ak8 : ad5 z2 = ad z2 := hax _ (kz hz2 (by decide))
  rw [← ak7]
  rw [← ak8]
  exact wX4_init_33 hnm C Sm3 k6 hx1 k7 hz1 k8 (lv_sub hl [0, 1] rfl) hq hn hF he K0 K1
theorem xX4_init_15 {g : Shp} {m : Mem} {x0 x1 : Int} {c1 : Int} {s1 : (Int × Shp × Mem)} (hF : bX4_init_15 x0 x1 g m = some (c1, s1)) (hg : gOk g) : gX g s1.2.1 ∧ gOk s1.2.1 := by
  unfold bX4_init_15 at hF
  by_cases hc1 : 6 ≤ x1
  · have hF := if_t hc1 hF
    cases hF
    exact ⟨gX.rf _, hg⟩
  · have hF := if_f hc1 hF
    obtain ⟨k2, hF⟩ := ck_ok hF
    obtain ⟨h6, hF⟩ := ck_ok hF
    obtain ⟨g3, eg3, hF⟩ := vg_ok hF
    obtain ⟨m4, em4, hF⟩ := vm_ok hF
    obtain ⟨y5, ey5, hF⟩ := vv_ok hF
    have hG2 := gA_ok hg h6 eg3
    have hX2 := gA_X hg eg3
    exact gX2 hX2 (xX4_init_29 hF hG2)
set_option maxRecDepth 20000 in
theorem wX4_init_15 {p : Program} {l : Launch} {e : Env} {s : State} {mt : MethodId} {args : Array Value} {below : List Frame} {meth : Method} {c : Code} {Q : State → Prop} {G : Gl} {A : Nat → Prop} {H0 : Heap} {ad : Int → Nat} {g : Shp} {ad0 : Int → Nat} {g0 : Shp} {n0 t0 cells slots mc msl : Nat} (hnm : meth.name = "<init>") {H : Heap} {locs : List Loc} {ls : Array Slot} {m : Mem} {x0 x1 : Int} (C : CallFix p mt c cX4_init 2 s args tb RX4) (S : Wd G A s H0 ad g m H locs) (hx0 : gk g x0 = 5) (hx1 : r32 x1) (hl : lv_has ls 2 [(0, .ref (ad x0)), (1, .int (iI x1))]) (hq : aX g0 ad0 ad ∧ gX g0 g) (hn : gn g = n0 + cells ∧ gs g = t0 + slots) {c1 : Int} {s1 : (Int × Shp × Mem)} (hF : bX4_init_15 x0 x1 g m = some (c1, s1)) (he : gn s1.2.1 ≤ n0 + mc ∧ gs s1.2.1 ≤ t0 + msl) (K0 : c1 = 0 → ∀ (ad : Int → Nat) (H : Heap) (locs : List Loc) (ls : Array Slot) (cells slots : Nat), aX g0 ad0 ad ∧ gX g0 s1.2.1 → gn s1.2.1 = n0 + cells ∧ gs s1.2.1 = t0 + slots → gk s1.2.1 x0 = 5 → r32 s1.1 → Wd G A s H0 ad s1.2.1 s1.2.2 H locs → lv_has ls 2 [(0, .ref (ad x0)), (1, .int (iI s1.1))] → W p l e (rX4_init mc msl) s mt args below meth c H locs cells slots Q (F0 mt 15 ls [])) (K1 : c1 = 1 → ∀ (ad : Int → Nat) (H : Heap) (locs : List Loc) (ls : Array Slot) (cells slots : Nat), aX g0 ad0 ad ∧ gX g0 s1.2.1 → gn s1.2.1 = n0 + cells ∧ gs s1.2.1 = t0 + slots → Wd G A s H0 ad s1.2.1 s1.2.2 H locs → lv_has ls 2 [] → W p l e (rX4_init mc msl) s mt args below meth c H locs cells slots Q (F0 mt 40 ls [])) : W p l e (rX4_init mc msl) s mt args below meth c H locs cells slots Q (F0 mt 15 ls []) := by
  have hXx := xX4_init_15 hF S.g
  have hle : cells ≤ mc ∧ slots ≤ msl := by
    have h1 := hXx.1.1
    have h2 := hXx.1.2.1
    omega
  unfold bX4_init_15 at hF
  refine q_iload_n C hl 1 rfl rfl dX4_init_15 ?_
  refine q_bipush C 6 (by decide) dX4_init_16 ?_
  refine q_icmp_ge C hx1 (rl 6 rfl) 40 dX4_init_18 (by decide) (fun hc1 => ?_) (fun hc1 => ?_)
  · have hF := if_t hc1 hF
    cases hF
    exact K1 rfl _ _ _ _ _ _ hq hn  S (lv_sub hl [] rfl)
  · have hF := if_f hc1 hF
    refine q_aload_n C hl 0 rfl rfl dX4_init_21 ?_
    obtain ⟨k2, hF⟩ := ck_ok hF
    refine q_getr C S 0 fo_RX4_11 (j := 0) rfl rfl hx0 k2 (by decide) dX4_init_22 ?_
    refine q_iload_n C hl 1 rfl rfl dX4_init_25 ?_
    obtain ⟨h6, hF⟩ := ck_ok hF
    obtain ⟨g3, eg3, hF⟩ := vg_ok hF
    obtain ⟨m4, em4, hF⟩ := vm_ok hF
    obtain ⟨y5, ey5, hF⟩ := vv_ok hF
    have hG2 := gA_ok S.g h6 eg3
    have hX2 := gA_X S.g eg3
    have hN2 := gA_n eg3
    have hXr := (xX4_init_29 hF hG2).1
    refine q_new C S nk_RX4_9 h6 (by have h1 := hXr.1; have h2 := hXr.2.1; exact ⟨by show _ ≤ mc; omega, by show _ ≤ msl; omega⟩) eg3 em4 dX4_init_26 (fun ad7 H hax Sm4 => ?_)
    rw [← ey5]
    have ky5 := gA_k eg3 ey5
    have hq : aX g0 ad0 ad7 ∧ gX g0 g3 := ⟨hq.1.tr hq.2 hax, hq.2.tr hX2⟩
    have hn : gn g3 = n0 + (cells + 1) ∧ gs g3 = t0 + (slots + 10) := by omega
    have k8 := hX2.k hx0 (by decide)
    have ak8 : ad7 x0 = ad x0 := hax _ (kz hx0 (by decide))
    rw [← ak8] at hl
    have k9 := hX2.k k2 (by decide)
    have ak9 : ad7 (m x0 0) = ad (m x0 0) := hax _ (kz k2 (by decide))
    rw [← ak9]
    exact wX4_init_29 hnm C Sm4 k8 hx1 k9 hx1 ky5 (lv_sub hl [0, 1] rfl) hq hn hF he K0 K1
theorem yX4_init_15 {x0 : Int} {n : Nat} {s0 s1 : (Int × Shp × Mem)} {c1 : Int} (hI : iter (BX4_init_15 x0) n s0 = some (c1, s1)) (hg : gOk s0.2.1) : gX s0.2.1 s1.2.1 ∧ gOk s1.2.1 :=
  iter_gX (B := BX4_init_15 x0) (fun q => q.2.1) (fun s c s' hB hg => xX4_init_15 hB hg) n s0 c1 s1 hI hg
set_option maxRecDepth 20000 in
theorem lX4_init_15 {p : Program} {l : Launch} {e : Env} {s : State} {mt : MethodId} {args : Array Value} {below : List Frame} {meth : Method} {c : Code} {Q : State → Prop} {G : Gl} {A : Nat → Prop} {H0 : Heap} {ad0 : Int → Nat} {g0 : Shp} {n0 t0 mc msl : Nat} (hnm : meth.name = "<init>") {x0 : Int} (C : CallFix p mt c cX4_init 2 s args tb RX4)  {n : Nat} {s0 s1 : (Int × Shp × Mem)} {c1 : Int} (hI : iter (BX4_init_15 x0) n s0 = some (c1, s1)) (he : gn s1.2.1 ≤ n0 + mc ∧ gs s1.2.1 ≤ t0 + msl) (K1 : c1 = 1 → ∀ (ad : Int → Nat) (H : Heap) (locs : List Loc) (ls : Array Slot) (cells slots : Nat), aX g0 ad0 ad ∧ gX g0 s1.2.1 → gn s1.2.1 = n0 + cells ∧ gs s1.2.1 = t0 + slots → Wd G A s H0 ad s1.2.1 s1.2.2 H locs → lv_has ls 2 [] → W p l e (rX4_init mc msl) s mt args below meth c H locs cells slots Q (F0 mt 40 ls [])) : ∀ (ad : Int → Nat) (H : Heap) (locs : List Loc) (ls : Array Slot) (cells slots : Nat), aX g0 ad0 ad ∧ gX g0 s0.2.1 → gn s0.2.1 = n0 + cells ∧ gs s0.2.1 = t0 + slots → gk s0.2.1 x0 = 5 → r32 s0.1 → Wd G A s H0 ad s0.2.1 s0.2.2 H locs → lv_has ls 2 [(0, .ref (ad x0)), (1, .int (iI s0.1))] → W p l e (rX4_init mc msl) s mt args below meth c H locs cells slots Q (F0 mt 15 ls []) := by
  refine iter_WA (Pw := fun q => ∀ (ad : Int → Nat) (H : Heap) (locs : List Loc) (ls : Array Slot) (cells slots : Nat), aX g0 ad0 ad ∧ gX g0 q.2.1 → gn q.2.1 = n0 + cells ∧ gs q.2.1 = t0 + slots → gk q.2.1 x0 = 5 → r32 q.1 → Wd G A s H0 ad q.2.1 q.2.2 H locs → lv_has ls 2 [(0, .ref (ad x0)), (1, .int (iI q.1))] → W p l e (rX4_init mc msl) s mt args below meth c H locs cells slots Q (F0 mt 15 ls [])) (Px := fun c0 q => (c0 = 1 → ∀ (ad : Int → Nat) (H : Heap) (locs : List Loc) (ls : Array Slot) (cells slots : Nat), aX g0 ad0 ad ∧ gX g0 q.2.1 → gn q.2.1 = n0 + cells ∧ gs q.2.1 = t0 + slots → Wd G A s H0 ad q.2.1 q.2.2 H locs → lv_has ls 2 [] → W p l e (rX4_init mc msl) s mt args below meth c H locs cells slots Q (F0 mt 40 ls []))) ?_ _ _ hI K1
  intro n s c s' hB hR K0 kx ad H locs ls cells slots hq hn f0 f1 S hl
  have hX1 := xX4_init_15 hB S.g
  have hX2 : gn s'.2.1 ≤ gn s1.2.1 ∧ gs s'.2.1 ≤ gs s1.2.1 := by
    rcases hR with ⟨_, h2⟩ | ⟨_, h2, _⟩
    · have h3 := (yX4_init_15 h2 hX1.2).1
      exact ⟨h3.1, h3.2.1⟩
    · rw [h2]; exact ⟨Nat.le_refl _, Nat.le_refl _⟩
  exact wX4_init_15 hnm C S f0 f1 hl hq hn hB (by omega) K0 (fun h9 => (kx (by rw [h9]; decide)) h9)
theorem xX4_init_40 {g : Shp} {m : Mem} {r : Int} {g' : Shp} {m' : Mem} (hF : bX4_init_40 g m = some (r, g', m')) (hg : gOk g) : gX g g' ∧ gOk g' := by
  unfold bX4_init_40 at hF
  cases hF
  exact ⟨gX.rf _, hg⟩
set_option maxRecDepth 20000 in
theorem wX4_init_40 {p : Program} {l : Launch} {e : Env} {s : State} {mt : MethodId} {args : Array Value} {below : List Frame} {meth : Method} {c : Code} {Q : State → Prop} {G : Gl} {A : Nat → Prop} {H0 : Heap} {ad : Int → Nat} {g : Shp} {ad0 : Int → Nat} {g0 : Shp} {n0 t0 cells slots mc msl : Nat} (hnm : meth.name = "<init>") {H : Heap} {locs : List Loc} {ls : Array Slot} {m : Mem} (C : CallFix p mt c cX4_init 2 s args tb RX4) (S : Wd G A s H0 ad g m H locs)  (hl : lv_has ls 2 []) (hq : aX g0 ad0 ad ∧ gX g0 g) (hn : gn g = n0 + cells ∧ gs g = t0 + slots) {r : Int} {g' : Shp} {m' : Mem} (hF : bX4_init_40 g m = some (r, g', m')) (he : gn g' ≤ n0 + mc ∧ gs g' ≤ t0 + msl) (Kr : ∀ (ad : Int → Nat) (H : Heap) (locs : List Loc) (pc : Nat) (ls : Array Slot) (cells slots : Nat), aX g0 ad0 ad → gn g' = n0 + cells ∧ gs g' = t0 + slots → Wd G A s H0 ad g' m' H locs → decode cX4_init pc = .ok (.return_, 1) → W p l e (rX4_init mc msl) s mt args below meth c H locs cells slots Q (F0 mt pc ls [])) : W p l e (rX4_init mc msl) s mt args below meth c H locs cells slots Q (F0 mt 40 ls []) := by
  have hXx := xX4_init_40 hF S.g
  have hle : cells ≤ mc ∧ slots ≤ msl := by
    have h1 := hXx.1.1
    have h2 := hXx.1.2.1
    omega
  unfold bX4_init_40 at hF
  cases hF
  exact Kr _ _ _ _ _ _ _ hq.1 hn S dX4_init_40
theorem xX4_init_10 {g : Shp} {m : Mem} {x0 z0 z1 : Int} {r : Int} {g' : Shp} {m' : Mem} (hF : bX4_init_10 x0 z0 z1 g m = some (r, g', m')) (hg : gOk g) : gX g g' ∧ gOk g' := by
  unfold bX4_init_10 at hF
  obtain ⟨m1, em1, hF⟩ := vm_ok hF
  obtain ⟨cv2, sv3, hi4, hF⟩ := bdl_ok hF
  have hy := yX4_init_15 hi4 hg
  exact gX2 hy.1 (xX4_init_40 hF hy.2)
set_option maxRecDepth 20000 in
theorem wX4_init_10 {p : Program} {l : Launch} {e : Env} {s : State} {mt : MethodId} {args : Array Value} {below : List Frame} {meth : Method} {c : Code} {Q : State → Prop} {G : Gl} {A : Nat → Prop} {H0 : Heap} {ad : Int → Nat} {g : Shp} {ad0 : Int → Nat} {g0 : Shp} {n0 t0 cells slots mc msl : Nat} (hnm : meth.name = "<init>") {H : Heap} {locs : List Loc} {ls : Array Slot} {m : Mem} {x0 z0 z1 : Int} (C : CallFix p mt c cX4_init 2 s args tb RX4) (S : Wd G A s H0 ad g m H locs) (hx0 : gk g x0 = 5) (hz0 : gk g z0 = 5) (hz1 : gk g z1 = 23) (hl : lv_has ls 2 [(0, .ref (ad x0))]) (hq : aX g0 ad0 ad ∧ gX g0 g) (hn : gn g = n0 + cells ∧ gs g = t0 + slots) {r : Int} {g' : Shp} {m' : Mem} (hF : bX4_init_10 x0 z0 z1 g m = some (r, g', m')) (he : gn g' ≤ n0 + mc ∧ gs g' ≤ t0 + msl) (Kr : ∀ (ad : Int → Nat) (H : Heap) (locs : List Loc) (pc : Nat) (ls : Array Slot) (cells slots : Nat), aX g0 ad0 ad → gn g' = n0 + cells ∧ gs g' = t0 + slots → Wd G A s H0 ad g' m' H locs → decode cX4_init pc = .ok (.return_, 1) → W p l e (rX4_init mc msl) s mt args below meth c H locs cells slots Q (F0 mt pc ls [])) : W p l e (rX4_init mc msl) s mt args below meth c H locs cells slots Q (F0 mt 10 ls [.ref (ad z1), .ref (ad z0)]) := by
  have hXx := xX4_init_10 hF S.g
  have hle : cells ≤ mc ∧ slots ≤ msl := by
    have h1 := hXx.1.1
    have h2 := hXx.1.2.1
    omega
  unfold bX4_init_10 at hF
  obtain ⟨m1, em1, hF⟩ := vm_ok hF
  refine q_put C S 0 fo_RX4_11 fp_5_0 (fun _ => ⟨hnm, rfl⟩) (j := 0) rfl hz0 (orf_ok S hz1 (by decide) rfl) rfl rfl (S.k hz1 (by decide)) (fun _ => kz hz1 (by decide)) em1 dX4_init_10 (fun H locs Sm1 => ?_)
  refine q_iconst C 0 dX4_init_13 ?_
  refine q_istore_n C hl [(1, .int (iI 0)), (0, .ref (ad x0))] rfl rfl (by decide) rfl dX4_init_14 (fun ls hl => ?_)
  obtain ⟨cv2, sv3, hi4, hF⟩ := bdl_ok hF
  have hy := yX4_init_15 hi4 Sm1.g
  have hXr := (xX4_init_40 hF hy.2).1
  refine lX4_init_15 hnm C hi4 (by have h1 := hXr.1; have h2 := hXr.2.1; omega) ?_ _ _ _ _ _ _ hq hn hx0 (rl 0 rfl) Sm1 (lv_sub hl [1, 0] rfl)
  intro _ ad H locs ls cells slots hq hn  S5 hl
  exact wX4_init_40 hnm C S5  (lv_sub hl [] rfl) hq hn hF he Kr
theorem xX4_init_0 {g : Shp} {m : Mem} {x0 : Int} {r : Int} {g' : Shp} {m' : Mem} (hF : bX4_init_0 x0 g m = some (r, g', m')) (hg : gOk g) : gX g g' ∧ gOk g' := by
  unfold bX4_init_0 at hF
  obtain ⟨h4, hF⟩ := ck_ok hF
  obtain ⟨g1, eg1, hF⟩ := vg_ok hF
  obtain ⟨m2, em2, hF⟩ := vm_ok hF
  obtain ⟨y3, ey3, hF⟩ := vv_ok hF
  have hG2 := gA_ok hg h4 eg1
  have hX2 := gA_X hg eg1
  exact gX2 hX2 (xX4_init_10 hF hG2)
set_option maxRecDepth 20000 in
theorem wX4_init_0 {p : Program} {l : Launch} {e : Env} {s : State} {mt : MethodId} {args : Array Value} {below : List Frame} {meth : Method} {c : Code} {Q : State → Prop} {G : Gl} {A : Nat → Prop} {H0 : Heap} {ad : Int → Nat} {g : Shp} {ad0 : Int → Nat} {g0 : Shp} {n0 t0 cells slots mc msl : Nat} (hnm : meth.name = "<init>") {H : Heap} {locs : List Loc} {ls : Array Slot} {m : Mem} {x0 : Int} (C : CallFix p mt c cX4_init 2 s args tb RX4) (S : Wd G A s H0 ad g m H locs) (hx0 : gk g x0 = 5) (hl : lv_has ls 2 [(0, .ref (ad x0))]) (hq : aX g0 ad0 ad ∧ gX g0 g) (hn : gn g = n0 + cells ∧ gs g = t0 + slots) {r : Int} {g' : Shp} {m' : Mem} (hF : bX4_init_0 x0 g m = some (r, g', m')) (he : gn g' ≤ n0 + mc ∧ gs g' ≤ t0 + msl) (Kr : ∀ (ad : Int → Nat) (H : Heap) (locs : List Loc) (pc : Nat) (ls : Array Slot) (cells slots : Nat), aX g0 ad0 ad → gn g' = n0 + cells ∧ gs g' = t0 + slots → Wd G A s H0 ad g' m' H locs → decode cX4_init pc = .ok (.return_, 1) → W p l e (rX4_init mc msl) s mt args below meth c H locs cells slots Q (F0 mt pc ls [])) : W p l e (rX4_init mc msl) s mt args below meth c H locs cells slots Q (F0 mt 0 ls []) := by
  have hXx := xX4_init_0 hF S.g
  have hle : cells ≤ mc ∧ slots ≤ msl := by
    have h1 := hXx.1.1
    have h2 := hXx.1.2.1
    omega
  unfold bX4_init_0 at hF
  refine q_aload_n C hl 0 rfl rfl dX4_init_0 ?_
  refine q_oinit C tw248 tw90 tw91 hl.1 (Nat.le_of_ble_eq_true rfl) (Nat.le_of_ble_eq_true rfl) dX4_init_1 ?_
  refine q_aload_n C hl 0 rfl rfl dX4_init_4 ?_
  refine q_bipush C 6 (by decide) dX4_init_5 ?_
  obtain ⟨h4, hF⟩ := ck_ok hF
  obtain ⟨g1, eg1, hF⟩ := vg_ok hF
  obtain ⟨m2, em2, hF⟩ := vm_ok hF
  obtain ⟨y3, ey3, hF⟩ := vv_ok hF
  have hG2 := gA_ok S.g h4 eg1
  have hX2 := gA_X S.g eg1
  have hN2 := gA_n eg1
  have hXr := (xX4_init_10 hF hG2).1
  refine q_newq C S rfl (Or.inl ⟨rfl, rfl⟩) tw249 h4 (by have h1 := hXr.1; have h2 := hXr.2.1; exact ⟨by show _ ≤ mc; omega, by show _ ≤ msl; omega⟩) eg1 em2 dX4_init_7 (fun ad5 H hax Sm2 => ?_)
  rw [← ey3]
  have ky3 := gA_k eg1 ey3
  have hq : aX g0 ad0 ad5 ∧ gX g0 g1 := ⟨hq.1.tr hq.2 hax, hq.2.tr hX2⟩
  have hn : gn g1 = n0 + (cells + 1) ∧ gs g1 = t0 + (slots + 6) := by omega
  have k6 := hX2.k hx0 (by decide)
  have ak6 : ad5 x0 = ad x0 := hax _ (kz hx0 (by decide))
  rw [← ak6] at hl
  rw [← ak6]
  exact wX4_init_10 hnm C Sm2 k6 k6 ky3 (lv_sub hl [0] rfl) hq hn hF he Kr
theorem xX4_init_f {x0 : Int} {g : Shp} {m : Mem} {r : Int} {g' : Shp} {m' : Mem} (hF : fX4_init x0 g m = some (r, g', m')) (hg : gOk g) : gX g g' ∧ gOk g' := xX4_init_0 hF hg
theorem cX4_init_ok (l : Launch) (G : Gl) {x0 : Int} {g : Shp} {m : Mem} {r : Int} {g' : Shp} {m' : Mem} (hx0 : gk g x0 = 5) (hF : fX4_init x0 g m = some (r, g', m')) : mVA l yX4_init (wT yX4_init cX4_init 2 none) rX4_init G (fun ad => [.ref (ad x0)]) g m g' m' :=
  met_vA (rm := rX4_init) (by decide) (fun ad => Nat.le_of_ble_eq_true rfl) (fun hg => (xX4_init_f hF hg).1) (fun p e s mt args below meth c Q A H0 H locs ad ls mc msl hmc hms C hnm S hl Kr => wX4_init_0 (n0 := gn g) (t0 := gs g) hnm C S hx0 hl ⟨fun _ _ => rfl, gX.rf _⟩ ⟨rfl, rfl⟩ hF (by have h9 := (xX4_init_f hF S.g).1; have h1 := h9.1; have h2 := h9.2.1; omega) Kr)
theorem xX5_init_16 {g : Shp} {m : Mem} {z0 z1 : Int} {r : Int} {g' : Shp} {m' : Mem} (hF : bX5_init_16 z0 z1 g m = some (r, g', m')) (hg : gOk g) : gX g g' ∧ gOk g' := by
  unfold bX5_init_16 at hF
  obtain ⟨m1, em1, hF⟩ := vm_ok hF
  cases hF
  exact ⟨gX.rf _, hg⟩
set_option maxRecDepth 20000 in
theorem wX5_init_16 {p : Program} {l : Launch} {e : Env} {s : State} {mt : MethodId} {args : Array Value} {below : List Frame} {meth : Method} {c : Code} {Q : State → Prop} {G : Gl} {A : Nat → Prop} {H0 : Heap} {ad : Int → Nat} {g : Shp} {ad0 : Int → Nat} {g0 : Shp} {n0 t0 cells slots mc msl : Nat} (hnm : meth.name = "<init>") {H : Heap} {locs : List Loc} {ls : Array Slot} {m : Mem} {z0 z1 : Int} (C : CallFix p mt c cX5_init 1 s args tb RX5) (S : Wd G A s H0 ad g m H locs) (hz0 : gk g z0 = 6) (hz1 : gk g z1 = 20) (hl : lv_has ls 1 []) (hq : aX g0 ad0 ad ∧ gX g0 g) (hn : gn g = n0 + cells ∧ gs g = t0 + slots) {r : Int} {g' : Shp} {m' : Mem} (hF : bX5_init_16 z0 z1 g m = some (r, g', m')) (he : gn g' ≤ n0 + mc ∧ gs g' ≤ t0 + msl) (Kr : ∀ (ad : Int → Nat) (H : Heap) (locs : List Loc) (pc : Nat) (ls : Array Slot) (cells slots : Nat), aX g0 ad0 ad → gn g' = n0 + cells ∧ gs g' = t0 + slots → Wd G A s H0 ad g' m' H locs → decode cX5_init pc = .ok (.return_, 1) → W p l e (rX5_init mc msl) s mt args below meth c H locs cells slots Q (F0 mt pc ls [])) : W p l e (rX5_init mc msl) s mt args below meth c H locs cells slots Q (F0 mt 16 ls [.ref (ad z1), .ref (ad z0)]) := by
  have hXx := xX5_init_16 hF S.g
  have hle : cells ≤ mc ∧ slots ≤ msl := by
    have h1 := hXx.1.1
    have h2 := hXx.1.2.1
    omega
  unfold bX5_init_16 at hF
  obtain ⟨m1, em1, hF⟩ := vm_ok hF
  refine q_put C S 1 fo_RX5_15 fp_6_1 (fun _ => ⟨hnm, rfl⟩) (j := 1) rfl hz0 (orf_ok S hz1 (by decide) rfl) rfl rfl (S.k hz1 (by decide)) (fun _ => kz hz1 (by decide)) em1 dX5_init_16 (fun H locs Sm1 => ?_)
  cases hF
  exact Kr _ _ _ _ _ _ _ hq.1 hn Sm1 dX5_init_19
theorem xX5_init_9 {g : Shp} {m : Mem} {x0 z0 z1 : Int} {r : Int} {g' : Shp} {m' : Mem} (hF : bX5_init_9 x0 z0 z1 g m = some (r, g', m')) (hg : gOk g) : gX g g' ∧ gOk g' := by
  unfold bX5_init_9 at hF
  obtain ⟨m1, em1, hF⟩ := vm_ok hF
  obtain ⟨h5, hF⟩ := ck_ok hF
  obtain ⟨g2, eg2, hF⟩ := vg_ok hF
  obtain ⟨m3, em3, hF⟩ := vm_ok hF
  obtain ⟨y4, ey4, hF⟩ := vv_ok hF
  have hG2 := gA_ok hg h5 eg2
  have hX2 := gA_X hg eg2
  exact gX2 hX2 (xX5_init_16 hF hG2)
set_option maxRecDepth 20000 in
theorem wX5_init_9 {p : Program} {l : Launch} {e : Env} {s : State} {mt : MethodId} {args : Array Value} {below : List Frame} {meth : Method} {c : Code} {Q : State → Prop} {G : Gl} {A : Nat → Prop} {H0 : Heap} {ad : Int → Nat} {g : Shp} {ad0 : Int → Nat} {g0 : Shp} {n0 t0 cells slots mc msl : Nat} (hnm : meth.name = "<init>") {H : Heap} {locs : List Loc} {ls : Array Slot} {m : Mem} {x0 z0 z1 : Int} (C : CallFix p mt c cX5_init 1 s args tb RX5) (S : Wd G A s H0 ad g m H locs) (hx0 : gk g x0 = 6) (hz0 : gk g z0 = 6) (hz1 : gk g z1 = 20) (hl : lv_has ls 1 [(0, .ref (ad x0))]) (hq : aX g0 ad0 ad ∧ gX g0 g) (hn : gn g = n0 + cells ∧ gs g = t0 + slots) {r : Int} {g' : Shp} {m' : Mem} (hF : bX5_init_9 x0 z0 z1 g m = some (r, g', m')) (he : gn g' ≤ n0 + mc ∧ gs g' ≤ t0 + msl) (Kr : ∀ (ad : Int → Nat) (H : Heap) (locs : List Loc) (pc : Nat) (ls : Array Slot) (cells slots : Nat), aX g0 ad0 ad → gn g' = n0 + cells ∧ gs g' = t0 + slots → Wd G A s H0 ad g' m' H locs → decode cX5_init pc = .ok (.return_, 1) → W p l e (rX5_init mc msl) s mt args below meth c H locs cells slots Q (F0 mt pc ls [])) : W p l e (rX5_init mc msl) s mt args below meth c H locs cells slots Q (F0 mt 9 ls [.ref (ad z1), .ref (ad z0)]) := by
  have hXx := xX5_init_9 hF S.g
  have hle : cells ≤ mc ∧ slots ≤ msl := by
    have h1 := hXx.1.1
    have h2 := hXx.1.2.1
    omega
  unfold bX5_init_9 at hF
  obtain ⟨m1, em1, hF⟩ := vm_ok hF
  refine q_put C S 0 fo_RX5_9 fp_6_0 (fun _ => ⟨hnm, rfl⟩) (j := 0) rfl hz0 (orf_ok S hz1 (by decide) rfl) rfl rfl (S.k hz1 (by decide)) (fun _ => kz hz1 (by decide)) em1 dX5_init_9 (fun H locs Sm1 => ?_)
  refine q_aload_n C hl 0 rfl rfl dX5_init_12 ?_
  refine q_iconst C 5 dX5_init_13 ?_
  obtain ⟨h5, hF⟩ := ck_ok hF
  obtain ⟨g2, eg2, hF⟩ := vg_ok hF
  obtain ⟨m3, em3, hF⟩ := vm_ok hF
  obtain ⟨y4, ey4, hF⟩ := vv_ok hF
  have hG2 := gA_ok Sm1.g h5 eg2
  have hX2 := gA_X Sm1.g eg2
  have hN2 := gA_n eg2
  have hXr := (xX5_init_16 hF hG2).1
  refine q_newi C Sm1 rfl (Or.inl ⟨rfl, rfl, rfl⟩) tw113 h5 (by have h1 := hXr.1; have h2 := hXr.2.1; exact ⟨by show _ ≤ mc; omega, by show _ ≤ msl; omega⟩) eg2 em3 dX5_init_14 (fun ad6 H hax Sm3 => ?_)
  rw [← ey4]
  have ky4 := gA_k eg2 ey4
  have hq : aX g0 ad0 ad6 ∧ gX g0 g2 := ⟨hq.1.tr hq.2 hax, hq.2.tr hX2⟩
  have hn : gn g2 = n0 + (cells + 1) ∧ gs g2 = t0 + (slots + 5) := by omega
  have k7 := hX2.k hx0 (by decide)
  have ak7 : ad6 x0 = ad x0 := hax _ (kz hx0 (by decide))
  rw [← ak7] at hl
  rw [← ak7]
  exact wX5_init_16 hnm C Sm3 k7 ky4 (lv_sub hl [] rfl) hq hn hF he Kr
theorem xX5_init_0 {g : Shp} {m : Mem} {x0 : Int} {r : Int} {g' : Shp} {m' : Mem} (hF : bX5_init_0 x0 g m = some (r, g', m')) (hg : gOk g) : gX g g' ∧ gOk g' := by
  unfold bX5_init_0 at hF
  obtain ⟨h4, hF⟩ := ck_ok hF
  obtain ⟨g1, eg1, hF⟩ := vg_ok hF
  obtain ⟨m2, em2, hF⟩ := vm_ok hF
  obtain ⟨y3, ey3, hF⟩ := vv_ok hF
  have hG2 := gA_ok hg h4 eg1
  have hX2 := gA_X hg eg1
  exact gX2 hX2 (xX5_init_9 hF hG2)
set_option maxRecDepth 20000 in
theorem wX5_init_0 {p : Program} {l : Launch} {e : Env} {s : State} {mt : MethodId} {args : Array Value} {below : List Frame} {meth : Method} {c : Code} {Q : State → Prop} {G : Gl} {A : Nat → Prop} {H0 : Heap} {ad : Int → Nat} {g : Shp} {ad0 : Int → Nat} {g0 : Shp} {n0 t0 cells slots mc msl : Nat} (hnm : meth.name = "<init>") {H : Heap} {locs : List Loc} {ls : Array Slot} {m : Mem} {x0 : Int} (C : CallFix p mt c cX5_init 1 s args tb RX5) (S : Wd G A s H0 ad g m H locs) (hx0 : gk g x0 = 6) (hl : lv_has ls 1 [(0, .ref (ad x0))]) (hq : aX g0 ad0 ad ∧ gX g0 g) (hn : gn g = n0 + cells ∧ gs g = t0 + slots) {r : Int} {g' : Shp} {m' : Mem} (hF : bX5_init_0 x0 g m = some (r, g', m')) (he : gn g' ≤ n0 + mc ∧ gs g' ≤ t0 + msl) (Kr : ∀ (ad : Int → Nat) (H : Heap) (locs : List Loc) (pc : Nat) (ls : Array Slot) (cells slots : Nat), aX g0 ad0 ad → gn g' = n0 + cells ∧ gs g' = t0 + slots → Wd G A s H0 ad g' m' H locs → decode cX5_init pc = .ok (.return_, 1) → W p l e (rX5_init mc msl) s mt args below meth c H locs cells slots Q (F0 mt pc ls [])) : W p l e (rX5_init mc msl) s mt args below meth c H locs cells slots Q (F0 mt 0 ls []) := by
  have hXx := xX5_init_0 hF S.g
  have hle : cells ≤ mc ∧ slots ≤ msl := by
    have h1 := hXx.1.1
    have h2 := hXx.1.2.1
    omega
  unfold bX5_init_0 at hF
  refine q_aload_n C hl 0 rfl rfl dX5_init_0 ?_
  refine q_oinit C tw365 tw90 tw91 hl.1 (Nat.le_of_ble_eq_true rfl) (Nat.le_of_ble_eq_true rfl) dX5_init_1 ?_
  refine q_aload_n C hl 0 rfl rfl dX5_init_4 ?_
  refine q_bipush C 60 (by decide) dX5_init_5 ?_
  obtain ⟨h4, hF⟩ := ck_ok hF
  obtain ⟨g1, eg1, hF⟩ := vg_ok hF
  obtain ⟨m2, em2, hF⟩ := vm_ok hF
  obtain ⟨y3, ey3, hF⟩ := vv_ok hF
  have hG2 := gA_ok S.g h4 eg1
  have hX2 := gA_X S.g eg1
  have hN2 := gA_n eg1
  have hXr := (xX5_init_9 hF hG2).1
  refine q_newi C S rfl (Or.inl ⟨rfl, rfl, rfl⟩) tw113 h4 (by have h1 := hXr.1; have h2 := hXr.2.1; exact ⟨by show _ ≤ mc; omega, by show _ ≤ msl; omega⟩) eg1 em2 dX5_init_7 (fun ad5 H hax Sm2 => ?_)
  rw [← ey3]
  have ky3 := gA_k eg1 ey3
  have hq : aX g0 ad0 ad5 ∧ gX g0 g1 := ⟨hq.1.tr hq.2 hax, hq.2.tr hX2⟩
  have hn : gn g1 = n0 + (cells + 1) ∧ gs g1 = t0 + (slots + 60) := by omega
  have k6 := hX2.k hx0 (by decide)
  have ak6 : ad5 x0 = ad x0 := hax _ (kz hx0 (by decide))
  rw [← ak6] at hl
  rw [← ak6]
  exact wX5_init_9 hnm C Sm2 k6 k6 ky3 (lv_sub hl [0] rfl) hq hn hF he Kr
theorem xX5_init_f {x0 : Int} {g : Shp} {m : Mem} {r : Int} {g' : Shp} {m' : Mem} (hF : fX5_init x0 g m = some (r, g', m')) (hg : gOk g) : gX g g' ∧ gOk g' := xX5_init_0 hF hg
theorem cX5_init_ok (l : Launch) (G : Gl) {x0 : Int} {g : Shp} {m : Mem} {r : Int} {g' : Shp} {m' : Mem} (hx0 : gk g x0 = 6) (hF : fX5_init x0 g m = some (r, g', m')) : mVA l yX5_init (wT yX5_init cX5_init 1 none) rX5_init G (fun ad => [.ref (ad x0)]) g m g' m' :=
  met_vA (rm := rX5_init) (by decide) (fun ad => Nat.le_of_ble_eq_true rfl) (fun hg => (xX5_init_f hF hg).1) (fun p e s mt args below meth c Q A H0 H locs ad ls mc msl hmc hms C hnm S hl Kr => wX5_init_0 (n0 := gn g) (t0 := gs g) hnm C S hx0 hl ⟨fun _ _ => rfl, gX.rf _⟩ ⟨rfl, rfl⟩ hF (by have h9 := (xX5_init_f hF S.g).1; have h1 := h9.1; have h2 := h9.2.1; omega) Kr)
theorem xX7_init_55 {g : Shp} {m : Mem} {x0 x1 z0 z1 z2 : Int} {c1 : Int} {s1 : (Int × Shp × Mem)} (hF : bX7_init_55 x0 x1 z0 z1 z2 g m = some (c1, s1)) (hg : gOk g) : gX g s1.2.1 ∧ gOk s1.2.1 := by
  unfold bX7_init_55 at hF
  obtain ⟨i1, hF⟩ := ck_ok hF
  obtain ⟨m2, em2, hF⟩ := vm_ok hF
  obtain ⟨y3, ey3, hF⟩ := vv_ok hF
  cases hF
  exact ⟨gX.rf _, hg⟩
set_option maxRecDepth 20000 in
theorem wX7_init_55 {p : Program} {l : Launch} {e : Env} {s : State} {mt : MethodId} {args : Array Value} {below : List Frame} {meth : Method} {c : Code} {Q : State → Prop} {G : Gl} {A : Nat → Prop} {H0 : Heap} {ad : Int → Nat} {g : Shp} {ad0 : Int → Nat} {g0 : Shp} {n0 t0 cells slots mc msl : Nat} (hnm : meth.name = "<init>") {H : Heap} {locs : List Loc} {ls : Array Slot} {m : Mem} {x0 x1 z0 z1 z2 : Int} (C : CallFix p mt c cX7_init 2 s args tb RX7) (S : Wd G A s H0 ad g m H locs) (hx0 : gk g x0 = 8) (hx1 : r32 x1) (hz0 : gk g z0 = 25) (hz1 : r32 z1) (hz2 : gk g z2 = 6) (hl : lv_has ls 2 [(0, .ref (ad x0)), (1, .int (iI x1))]) (hq : aX g0 ad0 ad ∧ gX g0 g) (hn : gn g = n0 + cells ∧ gs g = t0 + slots) {c1 : Int} {s1 : (Int × Shp × Mem)} (hF : bX7_init_55 x0 x1 z0 z1 z2 g m = some (c1, s1)) (he : gn s1.2.1 ≤ n0 + mc ∧ gs s1.2.1 ≤ t0 + msl) (K0 : c1 = 0 → ∀ (ad : Int → Nat) (H : Heap) (locs : List Loc) (ls : Array Slot) (cells slots : Nat), aX g0 ad0 ad ∧ gX g0 s1.2.1 → gn s1.2.1 = n0 + cells ∧ gs s1.2.1 = t0 + slots → gk s1.2.1 x0 = 8 → r32 s1.1 → Wd G A s H0 ad s1.2.1 s1.2.2 H locs → lv_has ls 2 [(0, .ref (ad x0)), (1, .int (iI s1.1))] → W p l e (rX7_init mc msl) s mt args below meth c H locs cells slots Q (F0 mt 38 ls [])) (K1 : c1 = 1 → ∀ (ad : Int → Nat) (H : Heap) (locs : List Loc) (ls : Array Slot) (cells slots : Nat), aX g0 ad0 ad ∧ gX g0 s1.2.1 → gn s1.2.1 = n0 + cells ∧ gs s1.2.1 = t0 + slots → Wd G A s H0 ad s1.2.1 s1.2.2 H locs → lv_has ls 2 [] → W p l e (rX7_init mc msl) s mt args below meth c H locs cells slots Q (F0 mt 62 ls [])) : W p l e (rX7_init mc msl) s mt args below meth c H locs cells slots Q (F0 mt 55 ls [.ref (ad z2), .int (iI z1), .ref (ad z0)]) := by
  have hXx := xX7_init_55 hF S.g
  have hle : cells ≤ mc ∧ slots ≤ msl := by
    have h1 := hXx.1.1
    have h2 := hXx.1.2.1
    omega
  unfold bX7_init_55 at hF
  obtain ⟨i1, hF⟩ := ck_ok hF
  obtain ⟨m2, em2, hF⟩ := vm_ok hF
  refine q_aast C S hz0 (by decide) i1 hz2 ⟨by decide, rfl⟩ rfl (S.k hz2 (by decide)) em2 dX7_init_55 (fun H locs Sm2 => ?_)
  obtain ⟨y3, ey3, hF⟩ := vv_ok hF
  have ry3 : r32 y3 := ey3 ▸ r32_w _
  refine q_iinc C hl 1 [(1, .int (iI y3)), (0, .ref (ad x0))] rfl ey3 (by decide) rfl dX7_init_56 (fun ls hl => ?_)
  refine q_goto C 38 dX7_init_59 (by decide) ?_
  cases hF
  exact K0 rfl _ _ _ _ _ _ hq hn hx0 ry3 Sm2 (lv_sub hl [1, 0] rfl)
theorem xX7_init_51 {g : Shp} {m : Mem} {x0 x1 z0 z1 z2 : Int} {c1 : Int} {s1 : (Int × Shp × Mem)} (hF : bX7_init_51 x0 x1 z0 z1 z2 g m = some (c1, s1)) (hg : gOk g) : gX g s1.2.1 ∧ gOk s1.2.1 := by
  unfold bX7_init_51 at hF
  obtain ⟨v1, g2, m3, h4, hF⟩ := bd3_ok hF
  have hX3 := xX5_init_f h4 hg
  have hG2 := hX3.2
  have hX2 := hX3.1
  exact gX2 hX2 (xX7_init_55 hF hG2)
set_option maxRecDepth 20000 in
theorem wX7_init_51 {p : Program} {l : Launch} {e : Env} {s : State} {mt : MethodId} {args : Array Value} {below : List Frame} {meth : Method} {c : Code} {Q : State → Prop} {G : Gl} {A : Nat → Prop} {H0 : Heap} {ad : Int → Nat} {g : Shp} {ad0 : Int → Nat} {g0 : Shp} {n0 t0 cells slots mc msl : Nat} (hnm : meth.name = "<init>") {H : Heap} {locs : List Loc} {ls : Array Slot} {m : Mem} {x0 x1 z0 z1 z2 : Int} (C : CallFix p mt c cX7_init 2 s args tb RX7) (S : Wd G A s H0 ad g m H locs) (hx0 : gk g x0 = 8) (hx1 : r32 x1) (hz0 : gk g z0 = 25) (hz1 : r32 z1) (hz2 : gk g z2 = 6) (hl : lv_has ls 2 [(0, .ref (ad x0)), (1, .int (iI x1))]) (hq : aX g0 ad0 ad ∧ gX g0 g) (hn : gn g = n0 + cells ∧ gs g = t0 + slots) {c1 : Int} {s1 : (Int × Shp × Mem)} (hF : bX7_init_51 x0 x1 z0 z1 z2 g m = some (c1, s1)) (he : gn s1.2.1 ≤ n0 + mc ∧ gs s1.2.1 ≤ t0 + msl) (K0 : c1 = 0 → ∀ (ad : Int → Nat) (H : Heap) (locs : List Loc) (ls : Array Slot) (cells slots : Nat), aX g0 ad0 ad ∧ gX g0 s1.2.1 → gn s1.2.1 = n0 + cells ∧ gs s1.2.1 = t0 + slots → gk s1.2.1 x0 = 8 → r32 s1.1 → Wd G A s H0 ad s1.2.1 s1.2.2 H locs → lv_has ls 2 [(0, .ref (ad x0)), (1, .int (iI s1.1))] → W p l e (rX7_init mc msl) s mt args below meth c H locs cells slots Q (F0 mt 38 ls [])) (K1 : c1 = 1 → ∀ (ad : Int → Nat) (H : Heap) (locs : List Loc) (ls : Array Slot) (cells slots : Nat), aX g0 ad0 ad ∧ gX g0 s1.2.1 → gn s1.2.1 = n0 + cells ∧ gs s1.2.1 = t0 + slots → Wd G A s H0 ad s1.2.1 s1.2.2 H locs → lv_has ls 2 [] → W p l e (rX7_init mc msl) s mt args below meth c H locs cells slots Q (F0 mt 62 ls [])) : W p l e (rX7_init mc msl) s mt args below meth c H locs cells slots Q (F0 mt 51 ls [.ref (ad z2), .int (iI z1), .ref (ad z0)]) := by
  have hXx := xX7_init_51 hF S.g
  have hle : cells ≤ mc ∧ slots ≤ msl := by
    have h1 := hXx.1.1
    have h2 := hXx.1.2.1
    omega
  unfold bX7_init_51 at hF
  refine q_dup C rfl dX7_init_51 ?_
  obtain ⟨v1, g2, m3, h4, hF⟩ := bd3_ok hF
  have hX3 := xX5_init_f h4 S.g
  have hG2 := hX3.2
  have hX2 := hX3.1
  have hXr := (xX7_init_55 hF hG2).1
  refine q_cvA S (run_IN (As := []) (rest := [.ref (ad z2), .int (iI z1), .ref (ad z0)]) C S (cX5_init_ok l G hz2 h4 ad _) (host := "StoneFloors") (by decide) tw364 tw74 tw363 rfl hd_X5_init rfl ⟨rfl, rfl, (Nat.le_of_ble_eq_true rfl), (Nat.le_of_ble_eq_true rfl)⟩ (by have h1 := hXr.1; have h2 := hXr.2.1; have h3 := hX2.1; have h4 := hX2.2.1; exact ⟨by show _ ≤ mc; omega, by show _ ≤ msl; omega⟩) hl.1 rfl (Nat.le_of_ble_eq_true rfl) dX7_init_52) (fun ad5 H locs hax Sm3 => ?_)
  have hq : aX g0 ad0 ad5 ∧ gX g0 g2 := ⟨hq.1.tr hq.2 hax, hq.2.tr hX2⟩
  have hn : gn g2 = n0 + (cells + (gn g2 - gn g)) ∧ gs g2 = t0 + (slots + (gs g2 - gs g)) := by have h3 := hX2.1; have h4 := hX2.2.1; omega
  have k6 := hX2.k hx0 (by decide)
  have ak6 : ad5 x0 = ad x0 := hax _ (kz hx0 (by decide))
  rw [← ak6] at hl
  have k7 := hX2.k hz0 (by decide)
  have ak7 : ad5 z0 = ad z0 := hax _ (kz hz0 (by decide))
  have k8 := hX2.k hz2 (by decide)
  have ak8 : ad5 z2 = ad z2 := hax _ (kz hz2 (by decide))
  rw [← ak7]
  rw [← ak8]
  exact wX7_init_55 hnm C Sm3 k6 hx1 k7 hz1 k8 (lv_sub hl [0, 1] rfl) hq hn hF he K0 K1
theorem xX7_init_38 {g : Shp} {m : Mem} {x0 x1 : Int} {c1 : Int} {s1 : (Int × Shp × Mem)} (hF : bX7_init_38 x0 x1 g m = some (c1, s1)) (hg : gOk g) : gX g s1.2.1 ∧ gOk s1.2.1 := by
  unfold bX7_init_38 at hF
  by_cases hc1 : 3 ≤ x1
  · have hF := if_t hc1 hF
    cases hF
    exact ⟨gX.rf _, hg⟩
  · have hF := if_f hc1 hF
    obtain ⟨k2, hF⟩ := ck_ok hF
    obtain ⟨h6, hF⟩ := ck_ok hF
    obtain ⟨g3, eg3, hF⟩ := vg_ok hF
    obtain ⟨m4, em4, hF⟩ := vm_ok hF
    obtain ⟨y5, ey5, hF⟩ := vv_ok hF
    have hG2 := gA_ok hg h6 eg3
    have hX2 := gA_X hg eg3
    exact gX2 hX2 (xX7_init_51 hF hG2)
set_option maxRecDepth 20000 in
theorem wX7_init_38 {p : Program} {l : Launch} {e : Env} {s : State} {mt : MethodId} {args : Array Value} {below : List Frame} {meth : Method} {c : Code} {Q : State → Prop} {G : Gl} {A : Nat → Prop} {H0 : Heap} {ad : Int → Nat} {g : Shp} {ad0 : Int → Nat} {g0 : Shp} {n0 t0 cells slots mc msl : Nat} (hnm : meth.name = "<init>") {H : Heap} {locs : List Loc} {ls : Array Slot} {m : Mem} {x0 x1 : Int} (C : CallFix p mt c cX7_init 2 s args tb RX7) (S : Wd G A s H0 ad g m H locs) (hx0 : gk g x0 = 8) (hx1 : r32 x1) (hl : lv_has ls 2 [(0, .ref (ad x0)), (1, .int (iI x1))]) (hq : aX g0 ad0 ad ∧ gX g0 g) (hn : gn g = n0 + cells ∧ gs g = t0 + slots) {c1 : Int} {s1 : (Int × Shp × Mem)} (hF : bX7_init_38 x0 x1 g m = some (c1, s1)) (he : gn s1.2.1 ≤ n0 + mc ∧ gs s1.2.1 ≤ t0 + msl) (K0 : c1 = 0 → ∀ (ad : Int → Nat) (H : Heap) (locs : List Loc) (ls : Array Slot) (cells slots : Nat), aX g0 ad0 ad ∧ gX g0 s1.2.1 → gn s1.2.1 = n0 + cells ∧ gs s1.2.1 = t0 + slots → gk s1.2.1 x0 = 8 → r32 s1.1 → Wd G A s H0 ad s1.2.1 s1.2.2 H locs → lv_has ls 2 [(0, .ref (ad x0)), (1, .int (iI s1.1))] → W p l e (rX7_init mc msl) s mt args below meth c H locs cells slots Q (F0 mt 38 ls [])) (K1 : c1 = 1 → ∀ (ad : Int → Nat) (H : Heap) (locs : List Loc) (ls : Array Slot) (cells slots : Nat), aX g0 ad0 ad ∧ gX g0 s1.2.1 → gn s1.2.1 = n0 + cells ∧ gs s1.2.1 = t0 + slots → Wd G A s H0 ad s1.2.1 s1.2.2 H locs → lv_has ls 2 [] → W p l e (rX7_init mc msl) s mt args below meth c H locs cells slots Q (F0 mt 62 ls [])) : W p l e (rX7_init mc msl) s mt args below meth c H locs cells slots Q (F0 mt 38 ls []) := by
  have hXx := xX7_init_38 hF S.g
  have hle : cells ≤ mc ∧ slots ≤ msl := by
    have h1 := hXx.1.1
    have h2 := hXx.1.2.1
    omega
  unfold bX7_init_38 at hF
  refine q_iload_n C hl 1 rfl rfl dX7_init_38 ?_
  refine q_iconst C 3 dX7_init_39 ?_
  refine q_icmp_ge C hx1 (rl 3 rfl) 62 dX7_init_40 (by decide) (fun hc1 => ?_) (fun hc1 => ?_)
  · have hF := if_t hc1 hF
    cases hF
    exact K1 rfl _ _ _ _ _ _ hq hn  S (lv_sub hl [] rfl)
  · have hF := if_f hc1 hF
    refine q_aload_n C hl 0 rfl rfl dX7_init_43 ?_
    obtain ⟨k2, hF⟩ := ck_ok hF
    refine q_getr C S 2 fo_RX7_20 (j := 2) rfl rfl hx0 k2 (by decide) dX7_init_44 ?_
    refine q_iload_n C hl 1 rfl rfl dX7_init_47 ?_
    obtain ⟨h6, hF⟩ := ck_ok hF
    obtain ⟨g3, eg3, hF⟩ := vg_ok hF
    obtain ⟨m4, em4, hF⟩ := vm_ok hF
    obtain ⟨y5, ey5, hF⟩ := vv_ok hF
    have hG2 := gA_ok S.g h6 eg3
    have hX2 := gA_X S.g eg3
    have hN2 := gA_n eg3
    have hXr := (xX7_init_51 hF hG2).1
    refine q_new C S nk_RX7_18 h6 (by have h1 := hXr.1; have h2 := hXr.2.1; exact ⟨by show _ ≤ mc; omega, by show _ ≤ msl; omega⟩) eg3 em4 dX7_init_48 (fun ad7 H hax Sm4 => ?_)
    rw [← ey5]
    have ky5 := gA_k eg3 ey5
    have hq : aX g0 ad0 ad7 ∧ gX g0 g3 := ⟨hq.1.tr hq.2 hax, hq.2.tr hX2⟩
    have hn : gn g3 = n0 + (cells + 1) ∧ gs g3 = t0 + (slots + 7) := by omega
    have k8 := hX2.k hx0 (by decide)
    have ak8 : ad7 x0 = ad x0 := hax _ (kz hx0 (by decide))
    rw [← ak8] at hl
    have k9 := hX2.k k2 (by decide)
    have ak9 : ad7 (m x0 2) = ad (m x0 2) := hax _ (kz k2 (by decide))
    rw [← ak9]
    exact wX7_init_51 hnm C Sm4 k8 hx1 k9 hx1 ky5 (lv_sub hl [0, 1] rfl) hq hn hF he K0 K1
theorem yX7_init_38 {x0 : Int} {n : Nat} {s0 s1 : (Int × Shp × Mem)} {c1 : Int} (hI : iter (BX7_init_38 x0) n s0 = some (c1, s1)) (hg : gOk s0.2.1) : gX s0.2.1 s1.2.1 ∧ gOk s1.2.1 :=
  iter_gX (B := BX7_init_38 x0) (fun q => q.2.1) (fun s c s' hB hg => xX7_init_38 hB hg) n s0 c1 s1 hI hg
set_option maxRecDepth 20000 in
theorem lX7_init_38 {p : Program} {l : Launch} {e : Env} {s : State} {mt : MethodId} {args : Array Value} {below : List Frame} {meth : Method} {c : Code} {Q : State → Prop} {G : Gl} {A : Nat → Prop} {H0 : Heap} {ad0 : Int → Nat} {g0 : Shp} {n0 t0 mc msl : Nat} (hnm : meth.name = "<init>") {x0 : Int} (C : CallFix p mt c cX7_init 2 s args tb RX7)  {n : Nat} {s0 s1 : (Int × Shp × Mem)} {c1 : Int} (hI : iter (BX7_init_38 x0) n s0 = some (c1, s1)) (he : gn s1.2.1 ≤ n0 + mc ∧ gs s1.2.1 ≤ t0 + msl) (K1 : c1 = 1 → ∀ (ad : Int → Nat) (H : Heap) (locs : List Loc) (ls : Array Slot) (cells slots : Nat), aX g0 ad0 ad ∧ gX g0 s1.2.1 → gn s1.2.1 = n0 + cells ∧ gs s1.2.1 = t0 + slots → Wd G A s H0 ad s1.2.1 s1.2.2 H locs → lv_has ls 2 [] → W p l e (rX7_init mc msl) s mt args below meth c H locs cells slots Q (F0 mt 62 ls [])) : ∀ (ad : Int → Nat) (H : Heap) (locs : List Loc) (ls : Array Slot) (cells slots : Nat), aX g0 ad0 ad ∧ gX g0 s0.2.1 → gn s0.2.1 = n0 + cells ∧ gs s0.2.1 = t0 + slots → gk s0.2.1 x0 = 8 → r32 s0.1 → Wd G A s H0 ad s0.2.1 s0.2.2 H locs → lv_has ls 2 [(0, .ref (ad x0)), (1, .int (iI s0.1))] → W p l e (rX7_init mc msl) s mt args below meth c H locs cells slots Q (F0 mt 38 ls []) := by
  refine iter_WA (Pw := fun q => ∀ (ad : Int → Nat) (H : Heap) (locs : List Loc) (ls : Array Slot) (cells slots : Nat), aX g0 ad0 ad ∧ gX g0 q.2.1 → gn q.2.1 = n0 + cells ∧ gs q.2.1 = t0 + slots → gk q.2.1 x0 = 8 → r32 q.1 → Wd G A s H0 ad q.2.1 q.2.2 H locs → lv_has ls 2 [(0, .ref (ad x0)), (1, .int (iI q.1))] → W p l e (rX7_init mc msl) s mt args below meth c H locs cells slots Q (F0 mt 38 ls [])) (Px := fun c0 q => (c0 = 1 → ∀ (ad : Int → Nat) (H : Heap) (locs : List Loc) (ls : Array Slot) (cells slots : Nat), aX g0 ad0 ad ∧ gX g0 q.2.1 → gn q.2.1 = n0 + cells ∧ gs q.2.1 = t0 + slots → Wd G A s H0 ad q.2.1 q.2.2 H locs → lv_has ls 2 [] → W p l e (rX7_init mc msl) s mt args below meth c H locs cells slots Q (F0 mt 62 ls []))) ?_ _ _ hI K1
  intro n s c s' hB hR K0 kx ad H locs ls cells slots hq hn f0 f1 S hl
  have hX1 := xX7_init_38 hB S.g
  have hX2 : gn s'.2.1 ≤ gn s1.2.1 ∧ gs s'.2.1 ≤ gs s1.2.1 := by
    rcases hR with ⟨_, h2⟩ | ⟨_, h2, _⟩
    · have h3 := (yX7_init_38 h2 hX1.2).1
      exact ⟨h3.1, h3.2.1⟩
    · rw [h2]; exact ⟨Nat.le_refl _, Nat.le_refl _⟩
  exact wX7_init_38 hnm C S f0 f1 hl hq hn hB (by omega) K0 (fun h9 => (kx (by rw [h9]; decide)) h9)
theorem xX7_init_62 {g : Shp} {m : Mem} {r : Int} {g' : Shp} {m' : Mem} (hF : bX7_init_62 g m = some (r, g', m')) (hg : gOk g) : gX g g' ∧ gOk g' := by
  unfold bX7_init_62 at hF
  cases hF
  exact ⟨gX.rf _, hg⟩
set_option maxRecDepth 20000 in
theorem wX7_init_62 {p : Program} {l : Launch} {e : Env} {s : State} {mt : MethodId} {args : Array Value} {below : List Frame} {meth : Method} {c : Code} {Q : State → Prop} {G : Gl} {A : Nat → Prop} {H0 : Heap} {ad : Int → Nat} {g : Shp} {ad0 : Int → Nat} {g0 : Shp} {n0 t0 cells slots mc msl : Nat} (hnm : meth.name = "<init>") {H : Heap} {locs : List Loc} {ls : Array Slot} {m : Mem} (C : CallFix p mt c cX7_init 2 s args tb RX7) (S : Wd G A s H0 ad g m H locs)  (hl : lv_has ls 2 []) (hq : aX g0 ad0 ad ∧ gX g0 g) (hn : gn g = n0 + cells ∧ gs g = t0 + slots) {r : Int} {g' : Shp} {m' : Mem} (hF : bX7_init_62 g m = some (r, g', m')) (he : gn g' ≤ n0 + mc ∧ gs g' ≤ t0 + msl) (Kr : ∀ (ad : Int → Nat) (H : Heap) (locs : List Loc) (pc : Nat) (ls : Array Slot) (cells slots : Nat), aX g0 ad0 ad → gn g' = n0 + cells ∧ gs g' = t0 + slots → Wd G A s H0 ad g' m' H locs → decode cX7_init pc = .ok (.return_, 1) → W p l e (rX7_init mc msl) s mt args below meth c H locs cells slots Q (F0 mt pc ls [])) : W p l e (rX7_init mc msl) s mt args below meth c H locs cells slots Q (F0 mt 62 ls []) := by
  have hXx := xX7_init_62 hF S.g
  have hle : cells ≤ mc ∧ slots ≤ msl := by
    have h1 := hXx.1.1
    have h2 := hXx.1.2.1
    omega
  unfold bX7_init_62 at hF
  cases hF
  exact Kr _ _ _ _ _ _ _ hq.1 hn S dX7_init_62
theorem xX7_init_33 {g : Shp} {m : Mem} {x0 z0 z1 : Int} {r : Int} {g' : Shp} {m' : Mem} (hF : bX7_init_33 x0 z0 z1 g m = some (r, g', m')) (hg : gOk g) : gX g g' ∧ gOk g' := by
  unfold bX7_init_33 at hF
  obtain ⟨m1, em1, hF⟩ := vm_ok hF
  obtain ⟨cv2, sv3, hi4, hF⟩ := bdl_ok hF
  have hy := yX7_init_38 hi4 hg
  exact gX2 hy.1 (xX7_init_62 hF hy.2)
set_option maxRecDepth 20000 in
theorem wX7_init_33 {p : Program} {l : Launch} {e : Env} {s : State} {mt : MethodId} {args : Array Value} {below : List Frame} {meth : Method} {c : Code} {Q : State → Prop} {G : Gl} {A : Nat → Prop} {H0 : Heap} {ad : Int → Nat} {g : Shp} {ad0 : Int → Nat} {g0 : Shp} {n0 t0 cells slots mc msl : Nat} (hnm : meth.name = "<init>") {H : Heap} {locs : List Loc} {ls : Array Slot} {m : Mem} {x0 z0 z1 : Int} (C : CallFix p mt c cX7_init 2 s args tb RX7) (S : Wd G A s H0 ad g m H locs) (hx0 : gk g x0 = 8) (hz0 : gk g z0 = 8) (hz1 : gk g z1 = 20) (hl : lv_has ls 2 [(0, .ref (ad x0))]) (hq : aX g0 ad0 ad ∧ gX g0 g) (hn : gn g = n0 + cells ∧ gs g = t0 + slots) {r : Int} {g' : Shp} {m' : Mem} (hF : bX7_init_33 x0 z0 z1 g m = some (r, g', m')) (he : gn g' ≤ n0 + mc ∧ gs g' ≤ t0 + msl) (Kr : ∀ (ad : Int → Nat) (H : Heap) (locs : List Loc) (pc : Nat) (ls : Array Slot) (cells slots : Nat), aX g0 ad0 ad → gn g' = n0 + cells ∧ gs g' = t0 + slots → Wd G A s H0 ad g' m' H locs → decode cX7_init pc = .ok (.return_, 1) → W p l e (rX7_init mc msl) s mt args below meth c H locs cells slots Q (F0 mt pc ls [])) : W p l e (rX7_init mc msl) s mt args below meth c H locs cells slots Q (F0 mt 33 ls [.ref (ad z1), .ref (ad z0)]) := by
  have hXx := xX7_init_33 hF S.g
  have hle : cells ≤ mc ∧ slots ≤ msl := by
    have h1 := hXx.1.1
    have h2 := hXx.1.2.1
    omega
  unfold bX7_init_33 at hF
  obtain ⟨m1, em1, hF⟩ := vm_ok hF
  refine q_put C S 3 fo_RX7_24 fp_8_3 (fun _ => ⟨hnm, rfl⟩) (j := 3) rfl hz0 (orf_ok S hz1 (by decide) rfl) rfl rfl (S.k hz1 (by decide)) (fun _ => kz hz1 (by decide)) em1 dX7_init_33 (fun H locs Sm1 => ?_)
  refine q_iconst C 0 dX7_init_36 ?_
  refine q_istore_n C hl [(1, .int (iI 0)), (0, .ref (ad x0))] rfl rfl (by decide) rfl dX7_init_37 (fun ls hl => ?_)
  obtain ⟨cv2, sv3, hi4, hF⟩ := bdl_ok hF
  have hy := yX7_init_38 hi4 Sm1.g
  have hXr := (xX7_init_62 hF hy.2).1
  refine lX7_init_38 hnm C hi4 (by have h1 := hXr.1; have h2 := hXr.2.1; omega) ?_ _ _ _ _ _ _ hq hn hx0 (rl 0 rfl) Sm1 (lv_sub hl [1, 0] rfl)
  intro _ ad H locs ls cells slots hq hn  S5 hl
  exact wX7_init_62 hnm C S5  (lv_sub hl [] rfl) hq hn hF he Kr
theorem xX7_init_24 {g : Shp} {m : Mem} {x0 z0 z1 : Int} {r : Int} {g' : Shp} {m' : Mem} (hF : bX7_init_24 x0 z0 z1 g m = some (r, g', m')) (hg : gOk g) : gX g g' ∧ gOk g' := by
  unfold bX7_init_24 at hF
  obtain ⟨m1, em1, hF⟩ := vm_ok hF
  obtain ⟨h5, hF⟩ := ck_ok hF
  obtain ⟨g2, eg2, hF⟩ := vg_ok hF
  obtain ⟨m3, em3, hF⟩ := vm_ok hF
  obtain ⟨y4, ey4, hF⟩ := vv_ok hF
  have hG2 := gA_ok hg h5 eg2
  have hX2 := gA_X hg eg2
  exact gX2 hX2 (xX7_init_33 hF hG2)
set_option maxRecDepth 20000 in
theorem wX7_init_24 {p : Program} {l : Launch} {e : Env} {s : State} {mt : MethodId} {args : Array Value} {below : List Frame} {meth : Method} {c : Code} {Q : State → Prop} {G : Gl} {A : Nat → Prop} {H0 : Heap} {ad : Int → Nat} {g : Shp} {ad0 : Int → Nat} {g0 : Shp} {n0 t0 cells slots mc msl : Nat} (hnm : meth.name = "<init>") {H : Heap} {locs : List Loc} {ls : Array Slot} {m : Mem} {x0 z0 z1 : Int} (C : CallFix p mt c cX7_init 2 s args tb RX7) (S : Wd G A s H0 ad g m H locs) (hx0 : gk g x0 = 8) (hz0 : gk g z0 = 8) (hz1 : gk g z1 = 25) (hl : lv_has ls 2 [(0, .ref (ad x0))]) (hq : aX g0 ad0 ad ∧ gX g0 g) (hn : gn g = n0 + cells ∧ gs g = t0 + slots) {r : Int} {g' : Shp} {m' : Mem} (hF : bX7_init_24 x0 z0 z1 g m = some (r, g', m')) (he : gn g' ≤ n0 + mc ∧ gs g' ≤ t0 + msl) (Kr : ∀ (ad : Int → Nat) (H : Heap) (locs : List Loc) (pc : Nat) (ls : Array Slot) (cells slots : Nat), aX g0 ad0 ad → gn g' = n0 + cells ∧ gs g' = t0 + slots → Wd G A s H0 ad g' m' H locs → decode cX7_init pc = .ok (.return_, 1) → W p l e (rX7_init mc msl) s mt args below meth c H locs cells slots Q (F0 mt pc ls [])) : W p l e (rX7_init mc msl) s mt args below meth c H locs cells slots Q (F0 mt 24 ls [.ref (ad z1), .ref (ad z0)]) := by
  have hXx := xX7_init_24 hF S.g
  have hle : cells ≤ mc ∧ slots ≤ msl := by
    have h1 := hXx.1.1
    have h2 := hXx.1.2.1
    omega
  unfold bX7_init_24 at hF
  obtain ⟨m1, em1, hF⟩ := vm_ok hF
  refine q_put C S 2 fo_RX7_20 fp_8_2 (fun _ => ⟨hnm, rfl⟩) (j := 2) rfl hz0 (orf_ok S hz1 (by decide) rfl) rfl rfl (S.k hz1 (by decide)) (fun _ => kz hz1 (by decide)) em1 dX7_init_24 (fun H locs Sm1 => ?_)
  refine q_aload_n C hl 0 rfl rfl dX7_init_27 ?_
  refine q_sipush C 400 (by decide) dX7_init_28 ?_
  obtain ⟨h5, hF⟩ := ck_ok hF
  obtain ⟨g2, eg2, hF⟩ := vg_ok hF
  obtain ⟨m3, em3, hF⟩ := vm_ok hF
  obtain ⟨y4, ey4, hF⟩ := vv_ok hF
  have hG2 := gA_ok Sm1.g h5 eg2
  have hX2 := gA_X Sm1.g eg2
  have hN2 := gA_n eg2
  have hXr := (xX7_init_33 hF hG2).1
  refine q_newi C Sm1 rfl (Or.inl ⟨rfl, rfl, rfl⟩) tw113 h5 (by have h1 := hXr.1; have h2 := hXr.2.1; exact ⟨by show _ ≤ mc; omega, by show _ ≤ msl; omega⟩) eg2 em3 dX7_init_31 (fun ad6 H hax Sm3 => ?_)
  rw [← ey4]
  have ky4 := gA_k eg2 ey4
  have hq : aX g0 ad0 ad6 ∧ gX g0 g2 := ⟨hq.1.tr hq.2 hax, hq.2.tr hX2⟩
  have hn : gn g2 = n0 + (cells + 1) ∧ gs g2 = t0 + (slots + 400) := by omega
  have k7 := hX2.k hx0 (by decide)
  have ak7 : ad6 x0 = ad x0 := hax _ (kz hx0 (by decide))
  rw [← ak7] at hl
  rw [← ak7]
  exact wX7_init_33 hnm C Sm3 k7 k7 ky4 (lv_sub hl [0] rfl) hq hn hF he Kr
theorem xX7_init_16 {g : Shp} {m : Mem} {x0 z0 z1 : Int} {r : Int} {g' : Shp} {m' : Mem} (hF : bX7_init_16 x0 z0 z1 g m = some (r, g', m')) (hg : gOk g) : gX g g' ∧ gOk g' := by
  unfold bX7_init_16 at hF
  obtain ⟨m1, em1, hF⟩ := vm_ok hF
  obtain ⟨h5, hF⟩ := ck_ok hF
  obtain ⟨g2, eg2, hF⟩ := vg_ok hF
  obtain ⟨m3, em3, hF⟩ := vm_ok hF
  obtain ⟨y4, ey4, hF⟩ := vv_ok hF
  have hG2 := gA_ok hg h5 eg2
  have hX2 := gA_X hg eg2
  exact gX2 hX2 (xX7_init_24 hF hG2)
set_option maxRecDepth 20000 in
theorem wX7_init_16 {p : Program} {l : Launch} {e : Env} {s : State} {mt : MethodId} {args : Array Value} {below : List Frame} {meth : Method} {c : Code} {Q : State → Prop} {G : Gl} {A : Nat → Prop} {H0 : Heap} {ad : Int → Nat} {g : Shp} {ad0 : Int → Nat} {g0 : Shp} {n0 t0 cells slots mc msl : Nat} (hnm : meth.name = "<init>") {H : Heap} {locs : List Loc} {ls : Array Slot} {m : Mem} {x0 z0 z1 : Int} (C : CallFix p mt c cX7_init 2 s args tb RX7) (S : Wd G A s H0 ad g m H locs) (hx0 : gk g x0 = 8) (hz0 : gk g z0 = 8) (hz1 : gk g z1 = 20) (hl : lv_has ls 2 [(0, .ref (ad x0))]) (hq : aX g0 ad0 ad ∧ gX g0 g) (hn : gn g = n0 + cells ∧ gs g = t0 + slots) {r : Int} {g' : Shp} {m' : Mem} (hF : bX7_init_16 x0 z0 z1 g m = some (r, g', m')) (he : gn g' ≤ n0 + mc ∧ gs g' ≤ t0 + msl) (Kr : ∀ (ad : Int → Nat) (H : Heap) (locs : List Loc) (pc : Nat) (ls : Array Slot) (cells slots : Nat), aX g0 ad0 ad → gn g' = n0 + cells ∧ gs g' = t0 + slots → Wd G A s H0 ad g' m' H locs → decode cX7_init pc = .ok (.return_, 1) → W p l e (rX7_init mc msl) s mt args below meth c H locs cells slots Q (F0 mt pc ls [])) : W p l e (rX7_init mc msl) s mt args below meth c H locs cells slots Q (F0 mt 16 ls [.ref (ad z1), .ref (ad z0)]) := by
  have hXx := xX7_init_16 hF S.g
  have hle : cells ≤ mc ∧ slots ≤ msl := by
    have h1 := hXx.1.1
    have h2 := hXx.1.2.1
    omega
  unfold bX7_init_16 at hF
  obtain ⟨m1, em1, hF⟩ := vm_ok hF
  refine q_put C S 1 fo_RX7_15 fp_8_1 (fun _ => ⟨hnm, rfl⟩) (j := 1) rfl hz0 (orf_ok S hz1 (by decide) rfl) rfl rfl (S.k hz1 (by decide)) (fun _ => kz hz1 (by decide)) em1 dX7_init_16 (fun H locs Sm1 => ?_)
  refine q_aload_n C hl 0 rfl rfl dX7_init_19 ?_
  refine q_iconst C 3 dX7_init_20 ?_
  obtain ⟨h5, hF⟩ := ck_ok hF
  obtain ⟨g2, eg2, hF⟩ := vg_ok hF
  obtain ⟨m3, em3, hF⟩ := vm_ok hF
  obtain ⟨y4, ey4, hF⟩ := vv_ok hF
  have hG2 := gA_ok Sm1.g h5 eg2
  have hX2 := gA_X Sm1.g eg2
  have hN2 := gA_n eg2
  have hXr := (xX7_init_24 hF hG2).1
  refine q_newq C Sm1 rfl (Or.inr (Or.inr (Or.inl ⟨rfl, rfl⟩))) tw359 h5 (by have h1 := hXr.1; have h2 := hXr.2.1; exact ⟨by show _ ≤ mc; omega, by show _ ≤ msl; omega⟩) eg2 em3 dX7_init_21 (fun ad6 H hax Sm3 => ?_)
  rw [← ey4]
  have ky4 := gA_k eg2 ey4
  have hq : aX g0 ad0 ad6 ∧ gX g0 g2 := ⟨hq.1.tr hq.2 hax, hq.2.tr hX2⟩
  have hn : gn g2 = n0 + (cells + 1) ∧ gs g2 = t0 + (slots + 3) := by omega
  have k7 := hX2.k hx0 (by decide)
  have ak7 : ad6 x0 = ad x0 := hax _ (kz hx0 (by decide))
  rw [← ak7] at hl
  rw [← ak7]
  exact wX7_init_24 hnm C Sm3 k7 k7 ky4 (lv_sub hl [0] rfl) hq hn hF he Kr
theorem xX7_init_8 {g : Shp} {m : Mem} {x0 z0 z1 : Int} {r : Int} {g' : Shp} {m' : Mem} (hF : bX7_init_8 x0 z0 z1 g m = some (r, g', m')) (hg : gOk g) : gX g g' ∧ gOk g' := by
  unfold bX7_init_8 at hF
  obtain ⟨m1, em1, hF⟩ := vm_ok hF
  obtain ⟨h5, hF⟩ := ck_ok hF
  obtain ⟨g2, eg2, hF⟩ := vg_ok hF
  obtain ⟨m3, em3, hF⟩ := vm_ok hF
  obtain ⟨y4, ey4, hF⟩ := vv_ok hF
  have hG2 := gA_ok hg h5 eg2
  have hX2 := gA_X hg eg2
  exact gX2 hX2 (xX7_init_16 hF hG2)
set_option maxRecDepth 20000 in
theorem wX7_init_8 {p : Program} {l : Launch} {e : Env} {s : State} {mt : MethodId} {args : Array Value} {below : List Frame} {meth : Method} {c : Code} {Q : State → Prop} {G : Gl} {A : Nat → Prop} {H0 : Heap} {ad : Int → Nat} {g : Shp} {ad0 : Int → Nat} {g0 : Shp} {n0 t0 cells slots mc msl : Nat} (hnm : meth.name = "<init>") {H : Heap} {locs : List Loc} {ls : Array Slot} {m : Mem} {x0 z0 z1 : Int} (C : CallFix p mt c cX7_init 2 s args tb RX7) (S : Wd G A s H0 ad g m H locs) (hx0 : gk g x0 = 8) (hz0 : gk g z0 = 8) (hz1 : gk g z1 = 20) (hl : lv_has ls 2 [(0, .ref (ad x0))]) (hq : aX g0 ad0 ad ∧ gX g0 g) (hn : gn g = n0 + cells ∧ gs g = t0 + slots) {r : Int} {g' : Shp} {m' : Mem} (hF : bX7_init_8 x0 z0 z1 g m = some (r, g', m')) (he : gn g' ≤ n0 + mc ∧ gs g' ≤ t0 + msl) (Kr : ∀ (ad : Int → Nat) (H : Heap) (locs : List Loc) (pc : Nat) (ls : Array Slot) (cells slots : Nat), aX g0 ad0 ad → gn g' = n0 + cells ∧ gs g' = t0 + slots → Wd G A s H0 ad g' m' H locs → decode cX7_init pc = .ok (.return_, 1) → W p l e (rX7_init mc msl) s mt args below meth c H locs cells slots Q (F0 mt pc ls [])) : W p l e (rX7_init mc msl) s mt args below meth c H locs cells slots Q (F0 mt 8 ls [.ref (ad z1), .ref (ad z0)]) := by
  have hXx := xX7_init_8 hF S.g
  have hle : cells ≤ mc ∧ slots ≤ msl := by
    have h1 := hXx.1.1
    have h2 := hXx.1.2.1
    omega
  unfold bX7_init_8 at hF
  obtain ⟨m1, em1, hF⟩ := vm_ok hF
  refine q_put C S 0 fo_RX7_9 fp_8_0 (fun _ => ⟨hnm, rfl⟩) (j := 0) rfl hz0 (orf_ok S hz1 (by decide) rfl) rfl rfl (S.k hz1 (by decide)) (fun _ => kz hz1 (by decide)) em1 dX7_init_8 (fun H locs Sm1 => ?_)
  refine q_aload_n C hl 0 rfl rfl dX7_init_11 ?_
  refine q_bipush C 9 (by decide) dX7_init_12 ?_
  obtain ⟨h5, hF⟩ := ck_ok hF
  obtain ⟨g2, eg2, hF⟩ := vg_ok hF
  obtain ⟨m3, em3, hF⟩ := vm_ok hF
  obtain ⟨y4, ey4, hF⟩ := vv_ok hF
  have hG2 := gA_ok Sm1.g h5 eg2
  have hX2 := gA_X Sm1.g eg2
  have hN2 := gA_n eg2
  have hXr := (xX7_init_16 hF hG2).1
  refine q_newi C Sm1 rfl (Or.inl ⟨rfl, rfl, rfl⟩) tw113 h5 (by have h1 := hXr.1; have h2 := hXr.2.1; exact ⟨by show _ ≤ mc; omega, by show _ ≤ msl; omega⟩) eg2 em3 dX7_init_14 (fun ad6 H hax Sm3 => ?_)
  rw [← ey4]
  have ky4 := gA_k eg2 ey4
  have hq : aX g0 ad0 ad6 ∧ gX g0 g2 := ⟨hq.1.tr hq.2 hax, hq.2.tr hX2⟩
  have hn : gn g2 = n0 + (cells + 1) ∧ gs g2 = t0 + (slots + 9) := by omega
  have k7 := hX2.k hx0 (by decide)
  have ak7 : ad6 x0 = ad x0 := hax _ (kz hx0 (by decide))
  rw [← ak7] at hl
  rw [← ak7]
  exact wX7_init_16 hnm C Sm3 k7 k7 ky4 (lv_sub hl [0] rfl) hq hn hF he Kr
theorem xX7_init_0 {g : Shp} {m : Mem} {x0 : Int} {r : Int} {g' : Shp} {m' : Mem} (hF : bX7_init_0 x0 g m = some (r, g', m')) (hg : gOk g) : gX g g' ∧ gOk g' := by
  unfold bX7_init_0 at hF
  obtain ⟨h4, hF⟩ := ck_ok hF
  obtain ⟨g1, eg1, hF⟩ := vg_ok hF
  obtain ⟨m2, em2, hF⟩ := vm_ok hF
  obtain ⟨y3, ey3, hF⟩ := vv_ok hF
  have hG2 := gA_ok hg h4 eg1
  have hX2 := gA_X hg eg1
  exact gX2 hX2 (xX7_init_8 hF hG2)
set_option maxRecDepth 20000 in
theorem wX7_init_0 {p : Program} {l : Launch} {e : Env} {s : State} {mt : MethodId} {args : Array Value} {below : List Frame} {meth : Method} {c : Code} {Q : State → Prop} {G : Gl} {A : Nat → Prop} {H0 : Heap} {ad : Int → Nat} {g : Shp} {ad0 : Int → Nat} {g0 : Shp} {n0 t0 cells slots mc msl : Nat} (hnm : meth.name = "<init>") {H : Heap} {locs : List Loc} {ls : Array Slot} {m : Mem} {x0 : Int} (C : CallFix p mt c cX7_init 2 s args tb RX7) (S : Wd G A s H0 ad g m H locs) (hx0 : gk g x0 = 8) (hl : lv_has ls 2 [(0, .ref (ad x0))]) (hq : aX g0 ad0 ad ∧ gX g0 g) (hn : gn g = n0 + cells ∧ gs g = t0 + slots) {r : Int} {g' : Shp} {m' : Mem} (hF : bX7_init_0 x0 g m = some (r, g', m')) (he : gn g' ≤ n0 + mc ∧ gs g' ≤ t0 + msl) (Kr : ∀ (ad : Int → Nat) (H : Heap) (locs : List Loc) (pc : Nat) (ls : Array Slot) (cells slots : Nat), aX g0 ad0 ad → gn g' = n0 + cells ∧ gs g' = t0 + slots → Wd G A s H0 ad g' m' H locs → decode cX7_init pc = .ok (.return_, 1) → W p l e (rX7_init mc msl) s mt args below meth c H locs cells slots Q (F0 mt pc ls [])) : W p l e (rX7_init mc msl) s mt args below meth c H locs cells slots Q (F0 mt 0 ls []) := by
  have hXx := xX7_init_0 hF S.g
  have hle : cells ≤ mc ∧ slots ≤ msl := by
    have h1 := hXx.1.1
    have h2 := hXx.1.2.1
    omega
  unfold bX7_init_0 at hF
  refine q_aload_n C hl 0 rfl rfl dX7_init_0 ?_
  refine q_oinit C tw358 tw90 tw91 hl.1 (Nat.le_of_ble_eq_true rfl) (Nat.le_of_ble_eq_true rfl) dX7_init_1 ?_
  refine q_aload_n C hl 0 rfl rfl dX7_init_4 ?_
  refine q_iconst C 3 dX7_init_5 ?_
  obtain ⟨h4, hF⟩ := ck_ok hF
  obtain ⟨g1, eg1, hF⟩ := vg_ok hF
  obtain ⟨m2, em2, hF⟩ := vm_ok hF
  obtain ⟨y3, ey3, hF⟩ := vv_ok hF
  have hG2 := gA_ok S.g h4 eg1
  have hX2 := gA_X S.g eg1
  have hN2 := gA_n eg1
  have hXr := (xX7_init_8 hF hG2).1
  refine q_newi C S rfl (Or.inl ⟨rfl, rfl, rfl⟩) tw113 h4 (by have h1 := hXr.1; have h2 := hXr.2.1; exact ⟨by show _ ≤ mc; omega, by show _ ≤ msl; omega⟩) eg1 em2 dX7_init_6 (fun ad5 H hax Sm2 => ?_)
  rw [← ey3]
  have ky3 := gA_k eg1 ey3
  have hq : aX g0 ad0 ad5 ∧ gX g0 g1 := ⟨hq.1.tr hq.2 hax, hq.2.tr hX2⟩
  have hn : gn g1 = n0 + (cells + 1) ∧ gs g1 = t0 + (slots + 3) := by omega
  have k6 := hX2.k hx0 (by decide)
  have ak6 : ad5 x0 = ad x0 := hax _ (kz hx0 (by decide))
  rw [← ak6] at hl
  rw [← ak6]
  exact wX7_init_8 hnm C Sm2 k6 k6 ky3 (lv_sub hl [0] rfl) hq hn hF he Kr
theorem xX7_init_f {x0 : Int} {g : Shp} {m : Mem} {r : Int} {g' : Shp} {m' : Mem} (hF : fX7_init x0 g m = some (r, g', m')) (hg : gOk g) : gX g g' ∧ gOk g' := xX7_init_0 hF hg
theorem cX7_init_ok (l : Launch) (G : Gl) {x0 : Int} {g : Shp} {m : Mem} {r : Int} {g' : Shp} {m' : Mem} (hx0 : gk g x0 = 8) (hF : fX7_init x0 g m = some (r, g', m')) : mVA l yX7_init (wT yX7_init cX7_init 2 none) rX7_init G (fun ad => [.ref (ad x0)]) g m g' m' :=
  met_vA (rm := rX7_init) (by decide) (fun ad => Nat.le_of_ble_eq_true rfl) (fun hg => (xX7_init_f hF hg).1) (fun p e s mt args below meth c Q A H0 H locs ad ls mc msl hmc hms C hnm S hl Kr => wX7_init_0 (n0 := gn g) (t0 := gs g) hnm C S hx0 hl ⟨fun _ _ => rfl, gX.rf _⟩ ⟨rfl, rfl⟩ hF (by have h9 := (xX7_init_f hF S.g).1; have h1 := h9.1; have h2 := h9.2.1; omega) Kr)
theorem xX8_init_17 {g : Shp} {m : Mem} {z0 z1 : Int} {r : Int} {g' : Shp} {m' : Mem} (hF : bX8_init_17 z0 z1 g m = some (r, g', m')) (hg : gOk g) : gX g g' ∧ gOk g' := by
  unfold bX8_init_17 at hF
  obtain ⟨m1, em1, hF⟩ := vm_ok hF
  cases hF
  exact ⟨gX.rf _, hg⟩
set_option maxRecDepth 20000 in
theorem wX8_init_17 {p : Program} {l : Launch} {e : Env} {s : State} {mt : MethodId} {args : Array Value} {below : List Frame} {meth : Method} {c : Code} {Q : State → Prop} {G : Gl} {A : Nat → Prop} {H0 : Heap} {ad : Int → Nat} {g : Shp} {ad0 : Int → Nat} {g0 : Shp} {n0 t0 cells slots mc msl : Nat} (hnm : meth.name = "<init>") {H : Heap} {locs : List Loc} {ls : Array Slot} {m : Mem} {z0 z1 : Int} (C : CallFix p mt c cX8_init 1 s args tb RX8) (S : Wd G A s H0 ad g m H locs) (hz0 : gk g z0 = 9) (hz1 : gk g z1 = 20) (hl : lv_has ls 1 []) (hq : aX g0 ad0 ad ∧ gX g0 g) (hn : gn g = n0 + cells ∧ gs g = t0 + slots) {r : Int} {g' : Shp} {m' : Mem} (hF : bX8_init_17 z0 z1 g m = some (r, g', m')) (he : gn g' ≤ n0 + mc ∧ gs g' ≤ t0 + msl) (Kr : ∀ (ad : Int → Nat) (H : Heap) (locs : List Loc) (pc : Nat) (ls : Array Slot) (cells slots : Nat), aX g0 ad0 ad → gn g' = n0 + cells ∧ gs g' = t0 + slots → Wd G A s H0 ad g' m' H locs → decode cX8_init pc = .ok (.return_, 1) → W p l e (rX8_init mc msl) s mt args below meth c H locs cells slots Q (F0 mt pc ls [])) : W p l e (rX8_init mc msl) s mt args below meth c H locs cells slots Q (F0 mt 17 ls [.ref (ad z1), .ref (ad z0)]) := by
  have hXx := xX8_init_17 hF S.g
  have hle : cells ≤ mc ∧ slots ≤ msl := by
    have h1 := hXx.1.1
    have h2 := hXx.1.2.1
    omega
  unfold bX8_init_17 at hF
  obtain ⟨m1, em1, hF⟩ := vm_ok hF
  refine q_put C S 1 fo_RX8_15 fp_9_1 (fun _ => ⟨hnm, rfl⟩) (j := 1) rfl hz0 (orf_ok S hz1 (by decide) rfl) rfl rfl (S.k hz1 (by decide)) (fun _ => kz hz1 (by decide)) em1 dX8_init_17 (fun H locs Sm1 => ?_)
  cases hF
  exact Kr _ _ _ _ _ _ _ hq.1 hn Sm1 dX8_init_20
theorem xX8_init_10 {g : Shp} {m : Mem} {x0 z0 z1 : Int} {r : Int} {g' : Shp} {m' : Mem} (hF : bX8_init_10 x0 z0 z1 g m = some (r, g', m')) (hg : gOk g) : gX g g' ∧ gOk g' := by
  unfold bX8_init_10 at hF
  obtain ⟨m1, em1, hF⟩ := vm_ok hF
  obtain ⟨h5, hF⟩ := ck_ok hF
  obtain ⟨g2, eg2, hF⟩ := vg_ok hF
  obtain ⟨m3, em3, hF⟩ := vm_ok hF
  obtain ⟨y4, ey4, hF⟩ := vv_ok hF
  have hG2 := gA_ok hg h5 eg2
  have hX2 := gA_X hg eg2
  exact gX2 hX2 (xX8_init_17 hF hG2)
set_option maxRecDepth 20000 in
theorem wX8_init_10 {p : Program} {l : Launch} {e : Env} {s : State} {mt : MethodId} {args : Array Value} {below : List Frame} {meth : Method} {c : Code} {Q : State → Prop} {G : Gl} {A : Nat → Prop} {H0 : Heap} {ad : Int → Nat} {g : Shp} {ad0 : Int → Nat} {g0 : Shp} {n0 t0 cells slots mc msl : Nat} (hnm : meth.name = "<init>") {H : Heap} {locs : List Loc} {ls : Array Slot} {m : Mem} {x0 z0 z1 : Int} (C : CallFix p mt c cX8_init 1 s args tb RX8) (S : Wd G A s H0 ad g m H locs) (hx0 : gk g x0 = 9) (hz0 : gk g z0 = 9) (hz1 : gk g z1 = 22) (hl : lv_has ls 1 [(0, .ref (ad x0))]) (hq : aX g0 ad0 ad ∧ gX g0 g) (hn : gn g = n0 + cells ∧ gs g = t0 + slots) {r : Int} {g' : Shp} {m' : Mem} (hF : bX8_init_10 x0 z0 z1 g m = some (r, g', m')) (he : gn g' ≤ n0 + mc ∧ gs g' ≤ t0 + msl) (Kr : ∀ (ad : Int → Nat) (H : Heap) (locs : List Loc) (pc : Nat) (ls : Array Slot) (cells slots : Nat), aX g0 ad0 ad → gn g' = n0 + cells ∧ gs g' = t0 + slots → Wd G A s H0 ad g' m' H locs → decode cX8_init pc = .ok (.return_, 1) → W p l e (rX8_init mc msl) s mt args below meth c H locs cells slots Q (F0 mt pc ls [])) : W p l e (rX8_init mc msl) s mt args below meth c H locs cells slots Q (F0 mt 10 ls [.ref (ad z1), .ref (ad z0)]) := by
  have hXx := xX8_init_10 hF S.g
  have hle : cells ≤ mc ∧ slots ≤ msl := by
    have h1 := hXx.1.1
    have h2 := hXx.1.2.1
    omega
  unfold bX8_init_10 at hF
  obtain ⟨m1, em1, hF⟩ := vm_ok hF
  refine q_put C S 0 fo_RX8_9 fp_9_0 (fun _ => ⟨hnm, rfl⟩) (j := 0) rfl hz0 (orf_ok S hz1 (by decide) rfl) rfl rfl (S.k hz1 (by decide)) (fun _ => kz hz1 (by decide)) em1 dX8_init_10 (fun H locs Sm1 => ?_)
  refine q_aload_n C hl 0 rfl rfl dX8_init_13 ?_
  refine q_iconst C 4 dX8_init_14 ?_
  obtain ⟨h5, hF⟩ := ck_ok hF
  obtain ⟨g2, eg2, hF⟩ := vg_ok hF
  obtain ⟨m3, em3, hF⟩ := vm_ok hF
  obtain ⟨y4, ey4, hF⟩ := vv_ok hF
  have hG2 := gA_ok Sm1.g h5 eg2
  have hX2 := gA_X Sm1.g eg2
  have hN2 := gA_n eg2
  have hXr := (xX8_init_17 hF hG2).1
  refine q_newi C Sm1 rfl (Or.inl ⟨rfl, rfl, rfl⟩) tw113 h5 (by have h1 := hXr.1; have h2 := hXr.2.1; exact ⟨by show _ ≤ mc; omega, by show _ ≤ msl; omega⟩) eg2 em3 dX8_init_15 (fun ad6 H hax Sm3 => ?_)
  rw [← ey4]
  have ky4 := gA_k eg2 ey4
  have hq : aX g0 ad0 ad6 ∧ gX g0 g2 := ⟨hq.1.tr hq.2 hax, hq.2.tr hX2⟩
  have hn : gn g2 = n0 + (cells + 1) ∧ gs g2 = t0 + (slots + 4) := by omega
  have k7 := hX2.k hx0 (by decide)
  have ak7 : ad6 x0 = ad x0 := hax _ (kz hx0 (by decide))
  rw [← ak7] at hl
  rw [← ak7]
  exact wX8_init_17 hnm C Sm3 k7 ky4 (lv_sub hl [] rfl) hq hn hF he Kr
theorem xX8_init_0 {g : Shp} {m : Mem} {x0 : Int} {r : Int} {g' : Shp} {m' : Mem} (hF : bX8_init_0 x0 g m = some (r, g', m')) (hg : gOk g) : gX g g' ∧ gOk g' := by
  unfold bX8_init_0 at hF
  obtain ⟨h4, hF⟩ := ck_ok hF
  obtain ⟨g1, eg1, hF⟩ := vg_ok hF
  obtain ⟨m2, em2, hF⟩ := vm_ok hF
  obtain ⟨y3, ey3, hF⟩ := vv_ok hF
  have hG2 := gA_ok hg h4 eg1
  have hX2 := gA_X hg eg1
  exact gX2 hX2 (xX8_init_10 hF hG2)
set_option maxRecDepth 20000 in
theorem wX8_init_0 {p : Program} {l : Launch} {e : Env} {s : State} {mt : MethodId} {args : Array Value} {below : List Frame} {meth : Method} {c : Code} {Q : State → Prop} {G : Gl} {A : Nat → Prop} {H0 : Heap} {ad : Int → Nat} {g : Shp} {ad0 : Int → Nat} {g0 : Shp} {n0 t0 cells slots mc msl : Nat} (hnm : meth.name = "<init>") {H : Heap} {locs : List Loc} {ls : Array Slot} {m : Mem} {x0 : Int} (C : CallFix p mt c cX8_init 1 s args tb RX8) (S : Wd G A s H0 ad g m H locs) (hx0 : gk g x0 = 9) (hl : lv_has ls 1 [(0, .ref (ad x0))]) (hq : aX g0 ad0 ad ∧ gX g0 g) (hn : gn g = n0 + cells ∧ gs g = t0 + slots) {r : Int} {g' : Shp} {m' : Mem} (hF : bX8_init_0 x0 g m = some (r, g', m')) (he : gn g' ≤ n0 + mc ∧ gs g' ≤ t0 + msl) (Kr : ∀ (ad : Int → Nat) (H : Heap) (locs : List Loc) (pc : Nat) (ls : Array Slot) (cells slots : Nat), aX g0 ad0 ad → gn g' = n0 + cells ∧ gs g' = t0 + slots → Wd G A s H0 ad g' m' H locs → decode cX8_init pc = .ok (.return_, 1) → W p l e (rX8_init mc msl) s mt args below meth c H locs cells slots Q (F0 mt pc ls [])) : W p l e (rX8_init mc msl) s mt args below meth c H locs cells slots Q (F0 mt 0 ls []) := by
  have hXx := xX8_init_0 hF S.g
  have hle : cells ≤ mc ∧ slots ≤ msl := by
    have h1 := hXx.1.1
    have h2 := hXx.1.2.1
    omega
  unfold bX8_init_0 at hF
  refine q_aload_n C hl 0 rfl rfl dX8_init_0 ?_
  refine q_oinit C tw97 tw90 tw91 hl.1 (Nat.le_of_ble_eq_true rfl) (Nat.le_of_ble_eq_true rfl) dX8_init_1 ?_
  refine q_aload_n C hl 0 rfl rfl dX8_init_4 ?_
  refine q_sipush C 200 (by decide) dX8_init_5 ?_
  obtain ⟨h4, hF⟩ := ck_ok hF
  obtain ⟨g1, eg1, hF⟩ := vg_ok hF
  obtain ⟨m2, em2, hF⟩ := vm_ok hF
  obtain ⟨y3, ey3, hF⟩ := vv_ok hF
  have hG2 := gA_ok S.g h4 eg1
  have hX2 := gA_X S.g eg1
  have hN2 := gA_n eg1
  have hXr := (xX8_init_10 hF hG2).1
  refine q_newi C S rfl (Or.inr (Or.inr ⟨rfl, rfl, rfl⟩)) tw112 h4 (by have h1 := hXr.1; have h2 := hXr.2.1; exact ⟨by show _ ≤ mc; omega, by show _ ≤ msl; omega⟩) eg1 em2 dX8_init_8 (fun ad5 H hax Sm2 => ?_)
  rw [← ey3]
  have ky3 := gA_k eg1 ey3
  have hq : aX g0 ad0 ad5 ∧ gX g0 g1 := ⟨hq.1.tr hq.2 hax, hq.2.tr hX2⟩
  have hn : gn g1 = n0 + (cells + 1) ∧ gs g1 = t0 + (slots + 200) := by omega
  have k6 := hX2.k hx0 (by decide)
  have ak6 : ad5 x0 = ad x0 := hax _ (kz hx0 (by decide))
  rw [← ak6] at hl
  rw [← ak6]
  exact wX8_init_10 hnm C Sm2 k6 k6 ky3 (lv_sub hl [0] rfl) hq hn hF he Kr
theorem xX8_init_f {x0 : Int} {g : Shp} {m : Mem} {r : Int} {g' : Shp} {m' : Mem} (hF : fX8_init x0 g m = some (r, g', m')) (hg : gOk g) : gX g g' ∧ gOk g' := xX8_init_0 hF hg
theorem cX8_init_ok (l : Launch) (G : Gl) {x0 : Int} {g : Shp} {m : Mem} {r : Int} {g' : Shp} {m' : Mem} (hx0 : gk g x0 = 9) (hF : fX8_init x0 g m = some (r, g', m')) : mVA l yX8_init (wT yX8_init cX8_init 1 none) rX8_init G (fun ad => [.ref (ad x0)]) g m g' m' :=
  met_vA (rm := rX8_init) (by decide) (fun ad => Nat.le_of_ble_eq_true rfl) (fun hg => (xX8_init_f hF hg).1) (fun p e s mt args below meth c Q A H0 H locs ad ls mc msl hmc hms C hnm S hl Kr => wX8_init_0 (n0 := gn g) (t0 := gs g) hnm C S hx0 hl ⟨fun _ _ => rfl, gX.rf _⟩ ⟨rfl, rfl⟩ hF (by have h9 := (xX8_init_f hF S.g).1; have h1 := h9.1; have h2 := h9.2.1; omega) Kr)
theorem xX10_wayOf_52 {g : Shp} {m : Mem} {x3 : Int} {r : Int} {g' : Shp} {m' : Mem} (hF : bX10_wayOf_52 x3 g m = some (r, g', m')) (hg : gOk g) : gX g g' ∧ gOk g' := by
  unfold bX10_wayOf_52 at hF
  cases hF
  exact ⟨gX.rf _, hg⟩
set_option maxRecDepth 20000 in
theorem wX10_wayOf_52 {p : Program} {l : Launch} {e : Env} {s : State} {mt : MethodId} {args : Array Value} {below : List Frame} {meth : Method} {c : Code} {Q : State → Prop} {G : Gl} {A : Nat → Prop} {H0 : Heap} {ad : Int → Nat} {g : Shp} {ad0 : Int → Nat} {g0 : Shp} {n0 t0 cells slots mc msl : Nat} {H : Heap} {locs : List Loc} {ls : Array Slot} {m : Mem} {x3 : Int} (C : CallFix p mt c cX10_wayOf 4 s args tb RX10) (S : Wd G A s H0 ad g m H locs) (hx3 : gk g x3 = 10) (hl : lv_has ls 4 [(3, .ref (ad x3))]) (hq : aX g0 ad0 ad ∧ gX g0 g) (hn : gn g = n0 + cells ∧ gs g = t0 + slots) {r : Int} {g' : Shp} {m' : Mem} (hF : bX10_wayOf_52 x3 g m = some (r, g', m')) (he : gn g' ≤ n0 + mc ∧ gs g' ≤ t0 + msl) (Kr : ∀ (ad : Int → Nat) (H : Heap) (locs : List Loc) (pc : Nat) (ls : Array Slot) (cells slots : Nat), aX g0 ad0 ad → gn g' = n0 + cells ∧ gs g' = t0 + slots → Wd G A s H0 ad g' m' H locs → decode cX10_wayOf pc = .ok (.areturn, 1) → r32 r → W p l e (rX10_wayOf mc msl) s mt args below meth c H locs cells slots Q (F0 mt pc ls [.ref (ad r)])) : W p l e (rX10_wayOf mc msl) s mt args below meth c H locs cells slots Q (F0 mt 52 ls []) := by
  have hXx := xX10_wayOf_52 hF S.g
  have hle : cells ≤ mc ∧ slots ≤ msl := by
    have h1 := hXx.1.1
    have h2 := hXx.1.2.1
    omega
  unfold bX10_wayOf_52 at hF
  refine q_aload_n C hl 0 rfl rfl dX10_wayOf_52 ?_
  cases hF
  exact Kr _ _ _ _ _ _ _ hq.1 hn S dX10_wayOf_53 (S.k hx3 (by decide))
theorem xX10_wayOf_47 {g : Shp} {m : Mem} {x3 : Int} {r : Int} {g' : Shp} {m' : Mem} (hF : bX10_wayOf_47 x3 g m = some (r, g', m')) (hg : gOk g) : gX g g' ∧ gOk g' := by
  unfold bX10_wayOf_47 at hF
  obtain ⟨m1, em1, hF⟩ := vm_ok hF
  exact xX10_wayOf_52 hF hg
set_option maxRecDepth 20000 in
theorem wX10_wayOf_47 {p : Program} {l : Launch} {e : Env} {s : State} {mt : MethodId} {args : Array Value} {below : List Frame} {meth : Method} {c : Code} {Q : State → Prop} {G : Gl} {A : Nat → Prop} {H0 : Heap} {ad : Int → Nat} {g : Shp} {ad0 : Int → Nat} {g0 : Shp} {n0 t0 cells slots mc msl : Nat} {H : Heap} {locs : List Loc} {ls : Array Slot} {m : Mem} {x3 : Int} (C : CallFix p mt c cX10_wayOf 4 s args tb RX10) (S : Wd G A s H0 ad g m H locs) (hx3 : gk g x3 = 10) (hl : lv_has ls 4 [(3, .ref (ad x3))]) (hq : aX g0 ad0 ad ∧ gX g0 g) (hn : gn g = n0 + cells ∧ gs g = t0 + slots) {r : Int} {g' : Shp} {m' : Mem} (hF : bX10_wayOf_47 x3 g m = some (r, g', m')) (he : gn g' ≤ n0 + mc ∧ gs g' ≤ t0 + msl) (Kr : ∀ (ad : Int → Nat) (H : Heap) (locs : List Loc) (pc : Nat) (ls : Array Slot) (cells slots : Nat), aX g0 ad0 ad → gn g' = n0 + cells ∧ gs g' = t0 + slots → Wd G A s H0 ad g' m' H locs → decode cX10_wayOf pc = .ok (.areturn, 1) → r32 r → W p l e (rX10_wayOf mc msl) s mt args below meth c H locs cells slots Q (F0 mt pc ls [.ref (ad r)])) : W p l e (rX10_wayOf mc msl) s mt args below meth c H locs cells slots Q (F0 mt 47 ls []) := by
  have hXx := xX10_wayOf_47 hF S.g
  have hle : cells ≤ mc ∧ slots ≤ msl := by
    have h1 := hXx.1.1
    have h2 := hXx.1.2.1
    omega
  unfold bX10_wayOf_47 at hF
  refine q_aload_n C hl 0 rfl rfl dX10_wayOf_47 ?_
  refine q_iconst C 1 dX10_wayOf_48 ?_
  obtain ⟨m1, em1, hF⟩ := vm_ok hF
  refine q_put C S 8 fo_RX10_238 fp_10_8 (fun h9 => absurd h9 (by decide)) (j := 8) rfl hx3 rfl (nr_b b_1) (ft_b b_1) (rl 1 rfl) (fun h9 => absurd h9 (by decide)) em1 dX10_wayOf_49 (fun H locs Sm1 => ?_)
  exact wX10_wayOf_52 C Sm1 hx3 (lv_sub hl [0] rfl) hq hn hF he Kr
theorem xX10_wayOf_0 {g : Shp} {m : Mem} {x0 x1 x2 : Int} {r : Int} {g' : Shp} {m' : Mem} (hF : bX10_wayOf_0 x0 x1 x2 g m = some (r, g', m')) (hg : gOk g) : gX g g' ∧ gOk g' := by
  unfold bX10_wayOf_0 at hF
  obtain ⟨k1, hF⟩ := ck_ok hF
  obtain ⟨i2, hF⟩ := ck_ok hF
  obtain ⟨k3, hF⟩ := ck_ok hF
  obtain ⟨y4, ey4, hF⟩ := vv_ok hF
  by_cases hc5 : (m y4 8) = 0
  · have hF := if_t hc5 hF
    obtain ⟨k6, hF⟩ := ck_ok hF
    obtain ⟨k7, hF⟩ := ck_ok hF
    obtain ⟨k8, hF⟩ := ck_ok hF
    obtain ⟨i9, hF⟩ := ck_ok hF
    obtain ⟨k10, hF⟩ := ck_ok hF
    obtain ⟨k11, hF⟩ := ck_ok hF
    obtain ⟨k12, hF⟩ := ck_ok hF
    obtain ⟨v13, g14, m15, h16, hF⟩ := bd3_ok hF
    have hX3 := xX0_find_f h16 hg
    have hG2 := hX3.2
    have hX2 := hX3.1
    exact gX2 hX2 (xX10_wayOf_47 hF hG2)
  · have hF := if_f hc5 hF
    exact xX10_wayOf_52 hF hg
set_option maxRecDepth 20000 in
theorem wX10_wayOf_0 {p : Program} {l : Launch} {e : Env} {s : State} {mt : MethodId} {args : Array Value} {below : List Frame} {meth : Method} {c : Code} {Q : State → Prop} {G : Gl} {A : Nat → Prop} {H0 : Heap} {ad : Int → Nat} {g : Shp} {ad0 : Int → Nat} {g0 : Shp} {n0 t0 cells slots mc msl : Nat} {H : Heap} {locs : List Loc} {ls : Array Slot} {m : Mem} {x0 x1 x2 : Int} (C : CallFix p mt c cX10_wayOf 4 s args tb RX10) (S : Wd G A s H0 ad g m H locs) (hx0 : gk g x0 = 11) (hx1 : r32 x1) (hx2 : r32 x2) (hl : lv_has ls 4 [(0, .ref (ad x0)), (1, .int (iI x1)), (2, .int (iI x2))]) (hq : aX g0 ad0 ad ∧ gX g0 g) (hn : gn g = n0 + cells ∧ gs g = t0 + slots) {r : Int} {g' : Shp} {m' : Mem} (hF : bX10_wayOf_0 x0 x1 x2 g m = some (r, g', m')) (he : gn g' ≤ n0 + mc ∧ gs g' ≤ t0 + msl) (Kr : ∀ (ad : Int → Nat) (H : Heap) (locs : List Loc) (pc : Nat) (ls : Array Slot) (cells slots : Nat), aX g0 ad0 ad → gn g' = n0 + cells ∧ gs g' = t0 + slots → Wd G A s H0 ad g' m' H locs → decode cX10_wayOf pc = .ok (.areturn, 1) → r32 r → W p l e (rX10_wayOf mc msl) s mt args below meth c H locs cells slots Q (F0 mt pc ls [.ref (ad r)])) : W p l e (rX10_wayOf mc msl) s mt args below meth c H locs cells slots Q (F0 mt 0 ls []) := by
  have hXx := xX10_wayOf_0 hF S.g
  have hle : cells ≤ mc ∧ slots ≤ msl := by
    have h1 := hXx.1.1
    have h2 := hXx.1.2.1
    omega
  unfold bX10_wayOf_0 at hF
  refine q_aload_n C hl 0 rfl rfl dX10_wayOf_0 ?_
  obtain ⟨k1, hF⟩ := ck_ok hF
  refine q_getr C S 5 fo_RX10_46 (j := 5) rfl rfl hx0 k1 (by decide) dX10_wayOf_1 ?_
  refine q_iload_n C hl 1 rfl rfl dX10_wayOf_4 ?_
  refine q_iconst C 3 dX10_wayOf_5 ?_
  refine q_imul C dX10_wayOf_6 ?_
  refine q_iload_n C hl 2 rfl rfl dX10_wayOf_7 ?_
  refine q_iadd C dX10_wayOf_8 ?_
  obtain ⟨i2, hF⟩ := ck_ok hF
  obtain ⟨k3, hF⟩ := ck_ok hF
  refine q_aald C S k1 (by decide) i2 k3 (by decide) dX10_wayOf_9 ?_
  obtain ⟨y4, ey4, hF⟩ := vv_ok hF
  have ky4 : gk g y4 = 10 := ey4 ▸ k3
  refine q_astore_n C hl [(3, .ref (ad y4)), (0, .ref (ad x0)), (1, .int (iI x1)), (2, .int (iI x2))] ey4 rfl (by decide) rfl dX10_wayOf_10 (fun ls hl => ?_)
  refine q_aload_n C hl 0 rfl rfl dX10_wayOf_11 ?_
  refine q_geti C S 8 fo_RX10_238 (j := 8) rfl rfl ky4 dX10_wayOf_12 ?_
  refine q_if_ne C (S.r _ _) 52 dX10_wayOf_15 (by decide) (fun hc5 => ?_) (fun hc5 => ?_)
  · have hF := if_t hc5 hF
    refine q_aload_n C hl 1 rfl rfl dX10_wayOf_18 ?_
    obtain ⟨k6, hF⟩ := ck_ok hF
    refine q_getr C S 1 fo_RX10_19 (j := 1) rfl rfl hx0 k6 (by decide) dX10_wayOf_19 ?_
    refine q_aload_n C hl 1 rfl rfl dX10_wayOf_22 ?_
    obtain ⟨k7, hF⟩ := ck_ok hF
    refine q_getr C S 6 fo_RX10_53 (j := 6) rfl rfl hx0 k7 (by decide) dX10_wayOf_23 ?_
    obtain ⟨k8, hF⟩ := ck_ok hF
    refine q_getr C S 2 fo_RX10_97 (j := 2) rfl rfl k7 k8 (by decide) dX10_wayOf_26 ?_
    refine q_iload_n C hl 2 rfl rfl dX10_wayOf_29 ?_
    obtain ⟨i9, hF⟩ := ck_ok hF
    obtain ⟨k10, hF⟩ := ck_ok hF
    refine q_aald C S k8 (by decide) i9 k10 (by decide) dX10_wayOf_30 ?_
    refine q_aload_n C hl 1 rfl rfl dX10_wayOf_31 ?_
    refine q_getr C S 6 fo_RX10_53 (j := 6) rfl rfl hx0 k7 (by decide) dX10_wayOf_32 ?_
    obtain ⟨k11, hF⟩ := ck_ok hF
    refine q_getr C S 0 fo_RX10_170 (j := 0) rfl rfl k7 k11 (by decide) dX10_wayOf_35 ?_
    refine q_aload_n C hl 1 rfl rfl dX10_wayOf_38 ?_
    obtain ⟨k12, hF⟩ := ck_ok hF
    refine q_getr C S 2 fo_RX10_26 (j := 2) rfl rfl hx0 k12 (by decide) dX10_wayOf_39 ?_
    refine q_iload_n C hl 3 rfl rfl dX10_wayOf_42 ?_
    refine q_aload_n C hl 0 rfl rfl dX10_wayOf_43 ?_
    obtain ⟨v13, g14, m15, h16, hF⟩ := bd3_ok hF
    have hX3 := xX0_find_f h16 S.g
    have hG2 := hX3.2
    have hX2 := hX3.1
    have hXr := (xX10_wayOf_47 hF hG2).1
    refine q_cvA S (run_V (As := [.ref (ad (m (m (m x0 6) 2) x1)), .ref (ad (m (m x0 6) 0)), .ref (ad (m x0 2)), .int (iI x2), .ref (ad y4)]) (rest := []) C S (cX0_find_ok l G k6 k10 k11 k12 hx2 ky4 h16 ad _) k6 ⟨by decide, _, _, rfl⟩ gd_RX10_242 hdV_X0_find rfl ⟨rfl, rfl, (Nat.le_of_ble_eq_true rfl), (Nat.le_of_ble_eq_true rfl)⟩ (by have h1 := hXr.1; have h2 := hXr.2.1; have h3 := hX2.1; have h4 := hX2.2.1; exact ⟨by show _ ≤ mc; omega, by show _ ≤ msl; omega⟩) hl.1 rfl (Nat.le_of_ble_eq_true rfl) dX10_wayOf_44) (fun ad17 H locs hax Sm15 => ?_)
    have hq : aX g0 ad0 ad17 ∧ gX g0 g14 := ⟨hq.1.tr hq.2 hax, hq.2.tr hX2⟩
    have hn : gn g14 = n0 + (cells + (gn g14 - gn g)) ∧ gs g14 = t0 + (slots + (gs g14 - gs g)) := by have h3 := hX2.1; have h4 := hX2.2.1; omega
    have k18 := hX2.k hx0 (by decide)
    have ak18 : ad17 x0 = ad x0 := hax _ (kz hx0 (by decide))
    have k19 := hX2.k ky4 (by decide)
    have ak19 : ad17 y4 = ad y4 := hax _ (kz ky4 (by decide))
    rw [← ak18] at hl
    rw [← ak19] at hl
    exact wX10_wayOf_47 C Sm15 k19 (lv_sub hl [0] rfl) hq hn hF he Kr
  · have hF := if_f hc5 hF
    exact wX10_wayOf_52 C S ky4 (lv_sub hl [0] rfl) hq hn hF he Kr
theorem xX10_wayOf_f {x0 x1 x2 : Int} {g : Shp} {m : Mem} {r : Int} {g' : Shp} {m' : Mem} (hF : fX10_wayOf x0 x1 x2 g m = some (r, g', m')) (hg : gOk g) : gX g g' ∧ gOk g' := xX10_wayOf_0 hF hg
theorem cX10_wayOf_ok (l : Launch) (G : Gl) {x0 x1 x2 : Int} {g : Shp} {m : Mem} {r : Int} {g' : Shp} {m' : Mem} (hx0 : gk g x0 = 11) (hx1 : r32 x1) (hx2 : r32 x2) (hF : fX10_wayOf x0 x1 x2 g m = some (r, g', m')) : mRA l yX10_wayOf (wT yX10_wayOf cX10_wayOf 4 (some (.object "StoneFloors$Way"))) rX10_wayOf G (fun ad => [.ref (ad x0), .int (iI x1), .int (iI x2)]) g m r g' m' :=
  met_rA (rm := rX10_wayOf) (by decide) (fun ad => Nat.le_of_ble_eq_true rfl) (fun hg => (xX10_wayOf_f hF hg).1) (fun p e s mt args below meth c Q A H0 H locs ad ls mc msl hmc hms C hnm S hl Kr => wX10_wayOf_0 (n0 := gn g) (t0 := gs g) C S hx0 hx1 hx2 hl ⟨fun _ _ => rfl, gX.rf _⟩ ⟨rfl, rfl⟩ hF (by have h9 := (xX10_wayOf_f hF S.g).1; have h1 := h9.1; have h2 := h9.2.1; omega) Kr)
theorem xX10_way_21 {g : Shp} {m : Mem} {r : Int} {g' : Shp} {m' : Mem} (hF : bX10_way_21 g m = some (r, g', m')) (hg : gOk g) : gX g g' ∧ gOk g' := by
  unfold bX10_way_21 at hF
  cases hF
  exact ⟨gX.rf _, hg⟩
set_option maxRecDepth 20000 in
theorem wX10_way_21 {p : Program} {l : Launch} {e : Env} {s : State} {mt : MethodId} {args : Array Value} {below : List Frame} {meth : Method} {c : Code} {Q : State → Prop} {G : Gl} {A : Nat → Prop} {H0 : Heap} {ad : Int → Nat} {g : Shp} {ad0 : Int → Nat} {g0 : Shp} {n0 t0 cells slots mc msl : Nat} {H : Heap} {locs : List Loc} {ls : Array Slot} {m : Mem} (C : CallFix p mt c cX10_way 5 s args tb RX10) (S : Wd G A s H0 ad g m H locs)  (hl : lv_has ls 5 []) (hq : aX g0 ad0 ad ∧ gX g0 g) (hn : gn g = n0 + cells ∧ gs g = t0 + slots) {r : Int} {g' : Shp} {m' : Mem} (hF : bX10_way_21 g m = some (r, g', m')) (he : gn g' ≤ n0 + mc ∧ gs g' ≤ t0 + msl) (Kr : ∀ (ad : Int → Nat) (H : Heap) (locs : List Loc) (pc : Nat) (ls : Array Slot) (cells slots : Nat), aX g0 ad0 ad → gn g' = n0 + cells ∧ gs g' = t0 + slots → Wd G A s H0 ad g' m' H locs → decode cX10_way pc = .ok (.ireturn, 1) → r32 r ∧ (false = true → r = 0 ∨ r = 1) → narrow .int (.int (iI r)) = .int (iI r) → W p l e (rX10_way mc msl) s mt args below meth c H locs cells slots Q (F0 mt pc ls [.int (iI r)])) : W p l e (rX10_way mc msl) s mt args below meth c H locs cells slots Q (F0 mt 21 ls []) := by
  have hXx := xX10_way_21 hF S.g
  have hle : cells ≤ mc ∧ slots ≤ msl := by
    have h1 := hXx.1.1
    have h2 := hXx.1.2.1
    omega
  unfold bX10_way_21 at hF
  refine q_iconst C (-1) dX10_way_21 ?_
  cases hF
  exact Kr _ _ _ _ _ _ _ hq.1 hn S dX10_way_22 ⟨(rl (-1) rfl), fun h9 => absurd h9 (by decide)⟩ rfl
theorem xX10_way_100 {g : Shp} {m : Mem} {z0 : Int} {r : Int} {g' : Shp} {m' : Mem} (hF : bX10_way_100 z0 g m = some (r, g', m')) (hg : gOk g) : gX g g' ∧ gOk g' := by
  unfold bX10_way_100 at hF
  cases hF
  exact ⟨gX.rf _, hg⟩
set_option maxRecDepth 20000 in
theorem wX10_way_100 {p : Program} {l : Launch} {e : Env} {s : State} {mt : MethodId} {args : Array Value} {below : List Frame} {meth : Method} {c : Code} {Q : State → Prop} {G : Gl} {A : Nat → Prop} {H0 : Heap} {ad : Int → Nat} {g : Shp} {ad0 : Int → Nat} {g0 : Shp} {n0 t0 cells slots mc msl : Nat} {H : Heap} {locs : List Loc} {ls : Array Slot} {m : Mem} {z0 : Int} (C : CallFix p mt c cX10_way 5 s args tb RX10) (S : Wd G A s H0 ad g m H locs) (hz0 : r32 z0) (hl : lv_has ls 5 []) (hq : aX g0 ad0 ad ∧ gX g0 g) (hn : gn g = n0 + cells ∧ gs g = t0 + slots) {r : Int} {g' : Shp} {m' : Mem} (hF : bX10_way_100 z0 g m = some (r, g', m')) (he : gn g' ≤ n0 + mc ∧ gs g' ≤ t0 + msl) (Kr : ∀ (ad : Int → Nat) (H : Heap) (locs : List Loc) (pc : Nat) (ls : Array Slot) (cells slots : Nat), aX g0 ad0 ad → gn g' = n0 + cells ∧ gs g' = t0 + slots → Wd G A s H0 ad g' m' H locs → decode cX10_way pc = .ok (.ireturn, 1) → r32 r ∧ (false = true → r = 0 ∨ r = 1) → narrow .int (.int (iI r)) = .int (iI r) → W p l e (rX10_way mc msl) s mt args below meth c H locs cells slots Q (F0 mt pc ls [.int (iI r)])) : W p l e (rX10_way mc msl) s mt args below meth c H locs cells slots Q (F0 mt 100 ls [.int (iI z0)]) := by
  have hXx := xX10_way_100 hF S.g
  have hle : cells ≤ mc ∧ slots ≤ msl := by
    have h1 := hXx.1.1
    have h2 := hXx.1.2.1
    omega
  unfold bX10_way_100 at hF
  cases hF
  exact Kr _ _ _ _ _ _ _ hq.1 hn S dX10_way_100 ⟨hz0, fun h9 => absurd h9 (by decide)⟩ rfl
theorem xX10_way_43 {g : Shp} {m : Mem} {x3 z0 : Int} {r : Int} {g' : Shp} {m' : Mem} (hF : bX10_way_43 x3 z0 g m = some (r, g', m')) (hg : gOk g) : gX g g' ∧ gOk g' := by
  unfold bX10_way_43 at hF
  by_cases hc1 : (m z0 7) = 0
  · have hF := if_t hc1 hF
    cases hF
    exact ⟨gX.rf _, hg⟩
  · have hF := if_f hc1 hF
    by_cases hc2 : x3 = ((-1))
    · have hF := if_t hc2 hF
      cases hF
      exact ⟨gX.rf _, hg⟩
    · have hF := if_f hc2 hF
      by_cases hc3 : x3 = ((-2))
      · have hF := if_t hc3 hF
        cases hF
        exact ⟨gX.rf _, hg⟩
      · have hF := if_f hc3 hF
        by_cases hc4 : (m z0 4) ≤ x3
        · have hF := if_t hc4 hF
          exact xX10_way_100 hF hg
        · have hF := if_f hc4 hF
          obtain ⟨k5, hF⟩ := ck_ok hF
          obtain ⟨i6, hF⟩ := ck_ok hF
          exact xX10_way_100 hF hg
set_option maxRecDepth 20000 in
theorem wX10_way_43 {p : Program} {l : Launch} {e : Env} {s : State} {mt : MethodId} {args : Array Value} {below : List Frame} {meth : Method} {c : Code} {Q : State → Prop} {G : Gl} {A : Nat → Prop} {H0 : Heap} {ad : Int → Nat} {g : Shp} {ad0 : Int → Nat} {g0 : Shp} {n0 t0 cells slots mc msl : Nat} {H : Heap} {locs : List Loc} {ls : Array Slot} {m : Mem} {x3 z0 : Int} (C : CallFix p mt c cX10_way 5 s args tb RX10) (S : Wd G A s H0 ad g m H locs) (hx3 : r32 x3) (hz0 : gk g z0 = 10) (hl : lv_has ls 5 [(3, .int (iI x3))]) (hq : aX g0 ad0 ad ∧ gX g0 g) (hn : gn g = n0 + cells ∧ gs g = t0 + slots) {r : Int} {g' : Shp} {m' : Mem} (hF : bX10_way_43 x3 z0 g m = some (r, g', m')) (he : gn g' ≤ n0 + mc ∧ gs g' ≤ t0 + msl) (Kr : ∀ (ad : Int → Nat) (H : Heap) (locs : List Loc) (pc : Nat) (ls : Array Slot) (cells slots : Nat), aX g0 ad0 ad → gn g' = n0 + cells ∧ gs g' = t0 + slots → Wd G A s H0 ad g' m' H locs → decode cX10_way pc = .ok (.ireturn, 1) → r32 r ∧ (false = true → r = 0 ∨ r = 1) → narrow .int (.int (iI r)) = .int (iI r) → W p l e (rX10_way mc msl) s mt args below meth c H locs cells slots Q (F0 mt pc ls [.int (iI r)])) : W p l e (rX10_way mc msl) s mt args below meth c H locs cells slots Q (F0 mt 43 ls [.ref (ad z0)]) := by
  have hXx := xX10_way_43 hF S.g
  have hle : cells ≤ mc ∧ slots ≤ msl := by
    have h1 := hXx.1.1
    have h2 := hXx.1.2.1
    omega
  unfold bX10_way_43 at hF
  refine q_astore C hl [(4, .ref (ad z0)), (3, .int (iI x3))] rfl (by decide) rfl dX10_way_43 (fun ls hl => ?_)
  refine q_aload C hl 0 rfl dX10_way_45 ?_
  refine q_geti C S 7 fo_RX10_158 (j := 7) rfl rfl hz0 dX10_way_47 ?_
  refine q_if_ne C (S.r _ _) 56 dX10_way_50 (by decide) (fun hc1 => ?_) (fun hc1 => ?_)
  · have hF := if_t hc1 hF
    refine q_bipush C (-4) (by decide) dX10_way_53 ?_
    cases hF
    exact Kr _ _ _ _ _ _ _ hq.1 hn S dX10_way_55 ⟨(rl (-4) rfl), fun h9 => absurd h9 (by decide)⟩ rfl
  · have hF := if_f hc1 hF
    refine q_iload_n C hl 1 rfl rfl dX10_way_56 ?_
    refine q_iconst C (-1) dX10_way_57 ?_
    refine q_icmp_ne C hx3 (rl (-1) rfl) 67 dX10_way_58 (by decide) (fun hc2 => ?_) (fun hc2 => ?_)
    · have hF := if_t hc2 hF
      refine q_aload C hl 0 rfl dX10_way_61 ?_
      refine q_geti C S 5 fo_RX10_162 (j := 5) rfl rfl hz0 dX10_way_63 ?_
      cases hF
      exact Kr _ _ _ _ _ _ _ hq.1 hn S dX10_way_66 ⟨(S.r _ _), fun h9 => absurd h9 (by decide)⟩ rfl
    · have hF := if_f hc2 hF
      refine q_iload_n C hl 1 rfl rfl dX10_way_67 ?_
      refine q_bipush C (-2) (by decide) dX10_way_68 ?_
      refine q_icmp_ne C hx3 (rl (-2) rfl) 79 dX10_way_70 (by decide) (fun hc3 => ?_) (fun hc3 => ?_)
      · have hF := if_t hc3 hF
        refine q_aload C hl 0 rfl dX10_way_73 ?_
        refine q_geti C S 4 fo_RX10_164 (j := 4) rfl rfl hz0 dX10_way_75 ?_
        cases hF
        exact Kr _ _ _ _ _ _ _ hq.1 hn S dX10_way_78 ⟨(S.r _ _), fun h9 => absurd h9 (by decide)⟩ rfl
      · have hF := if_f hc3 hF
        refine q_iload_n C hl 1 rfl rfl dX10_way_79 ?_
        refine q_aload C hl 0 rfl dX10_way_80 ?_
        refine q_geti C S 4 fo_RX10_164 (j := 4) rfl rfl hz0 dX10_way_82 ?_
        refine q_icmp_ge C hx3 (S.r _ _) 98 dX10_way_85 (by decide) (fun hc4 => ?_) (fun hc4 => ?_)
        · have hF := if_t hc4 hF
          refine q_bipush C (-4) (by decide) dX10_way_98 ?_
          exact wX10_way_100 C S (rl (-4) rfl) (lv_sub hl [] rfl) hq hn hF he Kr
        · have hF := if_f hc4 hF
          refine q_aload C hl 0 rfl dX10_way_88 ?_
          obtain ⟨k5, hF⟩ := ck_ok hF
          refine q_getr C S 0 fo_RX10_165 (j := 0) rfl rfl hz0 k5 (by decide) dX10_way_90 ?_
          refine q_iload_n C hl 1 rfl rfl dX10_way_93 ?_
          obtain ⟨i6, hF⟩ := ck_ok hF
          refine q_iald C S k5 i6 dX10_way_94 ?_
          refine q_goto C 100 dX10_way_95 (by decide) ?_
          exact wX10_way_100 C S (S.r _ _) (lv_sub hl [] rfl) hq hn hF he Kr
theorem xX10_way_0 {g : Shp} {m : Mem} {x0 x1 x2 x3 : Int} {r : Int} {g' : Shp} {m' : Mem} (hF : bX10_way_0 x0 x1 x2 x3 g m = some (r, g', m')) (hg : gOk g) : gX g g' ∧ gOk g' := by
  unfold bX10_way_0 at hF
  obtain ⟨v1, m2, h3, hF⟩ := bd2_ok hF
  by_cases hc5 : v1 = 0
  · have hF := if_t hc5 hF
    exact xX10_way_21 hF hg
  · have hF := if_f hc5 hF
    obtain ⟨v6, m7, h8, hF⟩ := bd2_ok hF
    by_cases hc10 : v6 = 0
    · have hF := if_t hc10 hF
      exact xX10_way_21 hF hg
    · have hF := if_f hc10 hF
      by_cases hc11 : ((-2)) ≤ x3
      · have hF := if_t hc11 hF
        obtain ⟨k12, hF⟩ := ck_ok hF
        obtain ⟨v13, m14, h15, hF⟩ := bd2_ok hF
        by_cases hc17 : v13 = 0
        · have hF := if_t hc17 hF
          obtain ⟨v18, g19, m20, h21, hF⟩ := bd3_ok hF
          have hX3 := xX10_wayOf_f h21 hg
          obtain ⟨k23, hF⟩ := ck_ok hF
          have hG2 := hX3.2
          have hX2 := hX3.1
          exact gX2 hX2 (xX10_way_43 hF hG2)
        · have hF := if_f hc17 hF
          cases hF
          exact ⟨gX.rf _, hg⟩
      · have hF := if_f hc11 hF
        exact xX10_way_21 hF hg
set_option maxRecDepth 20000 in
theorem wX10_way_0 {p : Program} {l : Launch} {e : Env} {s : State} {mt : MethodId} {args : Array Value} {below : List Frame} {meth : Method} {c : Code} {Q : State → Prop} {G : Gl} {A : Nat → Prop} {H0 : Heap} {ad : Int → Nat} {g : Shp} {ad0 : Int → Nat} {g0 : Shp} {n0 t0 cells slots mc msl : Nat} {H : Heap} {locs : List Loc} {ls : Array Slot} {m : Mem} {x0 x1 x2 x3 : Int} (C : CallFix p mt c cX10_way 5 s args tb RX10) (S : Wd G A s H0 ad g m H locs) (hx0 : gk g x0 = 11) (hx1 : r32 x1) (hx2 : r32 x2) (hx3 : r32 x3) (hl : lv_has ls 5 [(0, .ref (ad x0)), (1, .int (iI x1)), (2, .int (iI x2)), (3, .int (iI x3))]) (hq : aX g0 ad0 ad ∧ gX g0 g) (hn : gn g = n0 + cells ∧ gs g = t0 + slots) {r : Int} {g' : Shp} {m' : Mem} (hF : bX10_way_0 x0 x1 x2 x3 g m = some (r, g', m')) (he : gn g' ≤ n0 + mc ∧ gs g' ≤ t0 + msl) (Kr : ∀ (ad : Int → Nat) (H : Heap) (locs : List Loc) (pc : Nat) (ls : Array Slot) (cells slots : Nat), aX g0 ad0 ad → gn g' = n0 + cells ∧ gs g' = t0 + slots → Wd G A s H0 ad g' m' H locs → decode cX10_way pc = .ok (.ireturn, 1) → r32 r ∧ (false = true → r = 0 ∨ r = 1) → narrow .int (.int (iI r)) = .int (iI r) → W p l e (rX10_way mc msl) s mt args below meth c H locs cells slots Q (F0 mt pc ls [.int (iI r)])) : W p l e (rX10_way mc msl) s mt args below meth c H locs cells slots Q (F0 mt 0 ls []) := by
  have hXx := xX10_way_0 hF S.g
  have hle : cells ≤ mc ∧ slots ≤ msl := by
    have h1 := hXx.1.1
    have h2 := hXx.1.2.1
    omega
  unfold bX10_way_0 at hF
  refine q_aload_n C hl 0 rfl rfl dX10_way_0 ?_
  refine q_iload_n C hl 1 rfl rfl dX10_way_1 ?_
  obtain ⟨v1, m2, h3, hF⟩ := bd2_ok hF
  refine q_ci S (run_V (As := [.int (iI x1)]) (rest := []) C S (cX10_isLine_ok l G hx0 hx1 h3 ad _) hx0 ⟨by decide, _, _, rfl⟩ gd_RX10_93 hdV_X10_isLine rfl ⟨rfl, rfl, (Nat.le_of_ble_eq_true rfl), (Nat.le_of_ble_eq_true rfl)⟩ hle hl.1 rfl (Nat.le_of_ble_eq_true rfl) dX10_way_2) (fun H locs Sm2 h4 => ?_)
  refine q_if_eq C h4.1 21 dX10_way_5 (by decide) (fun hc5 => ?_) (fun hc5 => ?_)
  · have hF := if_t hc5 hF
    exact wX10_way_21 C Sm2  (lv_sub hl [] rfl) hq hn hF he Kr
  · have hF := if_f hc5 hF
    refine q_iload_n C hl 2 rfl rfl dX10_way_8 ?_
    obtain ⟨v6, m7, h8, hF⟩ := bd2_ok hF
    refine q_ci Sm2 (run_S (As := [.int (iI x2)]) (rest := []) C Sm2 (cX10_isColour_ok l G hx2 h8 ad _) gd_RX10_151 hd_X10_isColour rfl ⟨rfl, rfl, (Nat.le_of_ble_eq_true rfl), (Nat.le_of_ble_eq_true rfl)⟩ hle hl.1 rfl (Nat.le_of_ble_eq_true rfl) dX10_way_9) (fun H locs Sm7 h9 => ?_)
    refine q_if_eq C h9.1 21 dX10_way_12 (by decide) (fun hc10 => ?_) (fun hc10 => ?_)
    · have hF := if_t hc10 hF
      exact wX10_way_21 C Sm7  (lv_sub hl [] rfl) hq hn hF he Kr
    · have hF := if_f hc10 hF
      refine q_iload_n C hl 3 rfl rfl dX10_way_15 ?_
      refine q_bipush C (-2) (by decide) dX10_way_16 ?_
      refine q_icmp_ge C hx3 (rl (-2) rfl) 23 dX10_way_18 (by decide) (fun hc11 => ?_) (fun hc11 => ?_)
      · have hF := if_t hc11 hF
        refine q_aload_n C hl 0 rfl rfl dX10_way_23 ?_
        obtain ⟨k12, hF⟩ := ck_ok hF
        refine q_getr C Sm7 2 fo_RX10_26 (j := 2) rfl rfl hx0 k12 (by decide) dX10_way_24 ?_
        refine q_iload_n C hl 1 rfl rfl dX10_way_27 ?_
        obtain ⟨v13, m14, h15, hF⟩ := bd2_ok hF
        refine q_ci Sm7 (run_V (As := [.int (iI x1)]) (rest := []) C Sm7 (cX1_isCovered_ok l G k12 hx1 h15 ad _) k12 ⟨by decide, _, _, rfl⟩ gd_RX10_133 hdV_X1_isCovered rfl ⟨rfl, rfl, (Nat.le_of_ble_eq_true rfl), (Nat.le_of_ble_eq_true rfl)⟩ hle hl.1 rfl (Nat.le_of_ble_eq_true rfl) dX10_way_28) (fun H locs Sm14 h16 => ?_)
        refine q_if_eq C h16.1 37 dX10_way_31 (by decide) (fun hc17 => ?_) (fun hc17 => ?_)
        · have hF := if_t hc17 hF
          refine q_aload_n C hl 0 rfl rfl dX10_way_37 ?_
          refine q_iload_n C hl 1 rfl rfl dX10_way_38 ?_
          refine q_iload_n C hl 2 rfl rfl dX10_way_39 ?_
          obtain ⟨v18, g19, m20, h21, hF⟩ := bd3_ok hF
          have hX3 := xX10_wayOf_f h21 Sm14.g
          obtain ⟨k23, hF⟩ := ck_ok hF
          have hG2 := hX3.2
          have hX2 := hX3.1
          have hXr := (xX10_way_43 hF hG2).1
          refine q_crA Sm14 (run_V (As := [.int (iI x1), .int (iI x2)]) (rest := []) C Sm14 (cX10_wayOf_ok l G hx0 hx1 hx2 h21 ad _) hx0 ⟨by decide, _, _, rfl⟩ gd_RX10_154 hdV_X10_wayOf rfl ⟨rfl, rfl, (Nat.le_of_ble_eq_true rfl), (Nat.le_of_ble_eq_true rfl)⟩ (by have h1 := hXr.1; have h2 := hXr.2.1; have h3 := hX2.1; have h4 := hX2.2.1; exact ⟨by show _ ≤ mc; omega, by show _ ≤ msl; omega⟩) hl.1 rfl (Nat.le_of_ble_eq_true rfl) dX10_way_40) (fun ad22 H locs hax Sm20 h24 => ?_)
          have hq : aX g0 ad0 ad22 ∧ gX g0 g19 := ⟨hq.1.tr hq.2 hax, hq.2.tr hX2⟩
          have hn : gn g19 = n0 + (cells + (gn g19 - gn g)) ∧ gs g19 = t0 + (slots + (gs g19 - gs g)) := by have h3 := hX2.1; have h4 := hX2.2.1; omega
          have k25 := hX2.k hx0 (by decide)
          have ak25 : ad22 x0 = ad x0 := hax _ (kz hx0 (by decide))
          rw [← ak25] at hl
          exact wX10_way_43 C Sm20 hx3 k23 (lv_sub hl [3] rfl) hq hn hF he Kr
        · have hF := if_f hc17 hF
          refine q_bipush C (-2) (by decide) dX10_way_34 ?_
          cases hF
          exact Kr _ _ _ _ _ _ _ hq.1 hn Sm14 dX10_way_36 ⟨(rl (-2) rfl), fun h9 => absurd h9 (by decide)⟩ rfl
      · have hF := if_f hc11 hF
        exact wX10_way_21 C Sm7  (lv_sub hl [] rfl) hq hn hF he Kr
theorem xX10_way_f {x0 x1 x2 x3 : Int} {g : Shp} {m : Mem} {r : Int} {g' : Shp} {m' : Mem} (hF : fX10_way x0 x1 x2 x3 g m = some (r, g', m')) (hg : gOk g) : gX g g' ∧ gOk g' := xX10_way_0 hF hg
theorem cX10_way_ok (l : Launch) (G : Gl) {x0 x1 x2 x3 : Int} {g : Shp} {m : Mem} {r : Int} {g' : Shp} {m' : Mem} (hx0 : gk g x0 = 11) (hx1 : r32 x1) (hx2 : r32 x2) (hx3 : r32 x3) (hF : fX10_way x0 x1 x2 x3 g m = some (r, g', m')) : mIA l yX10_way (wT yX10_way cX10_way 5 (some .int)) rX10_way G false (fun ad => [.ref (ad x0), .int (iI x1), .int (iI x2), .int (iI x3)]) g m r g' m' :=
  met_iA (rm := rX10_way) (by decide) (fun ad => Nat.le_of_ble_eq_true rfl) (fun hg => (xX10_way_f hF hg).1) (fun p e s mt args below meth c Q A H0 H locs ad ls mc msl hmc hms C hnm S hl Kr => wX10_way_0 (n0 := gn g) (t0 := gs g) C S hx0 hx1 hx2 hx3 hl ⟨fun _ _ => rfl, gX.rf _⟩ ⟨rfl, rfl⟩ hF (by have h9 := (xX10_way_f hF S.g).1; have h1 := h9.1; have h2 := h9.2.1; omega) Kr)
theorem xX10_best_79 {g : Shp} {m : Mem} {x0 x1 x2 x3 x4 : Int} {c1 : Int} {s1 : (Int × Int × Int × Shp × Mem)} (hF : bX10_best_79 x0 x1 x2 x3 x4 g m = some (c1, s1)) (hg : gOk g) : gX g s1.2.2.2.1 ∧ gOk s1.2.2.2.1 := by
  unfold bX10_best_79 at hF
  obtain ⟨y1, ey1, hF⟩ := vv_ok hF
  cases hF
  exact ⟨gX.rf _, hg⟩
set_option maxRecDepth 20000 in
theorem wX10_best_79 {p : Program} {l : Launch} {e : Env} {s : State} {mt : MethodId} {args : Array Value} {below : List Frame} {meth : Method} {c : Code} {Q : State → Prop} {G : Gl} {A : Nat → Prop} {H0 : Heap} {ad : Int → Nat} {g : Shp} {ad0 : Int → Nat} {g0 : Shp} {n0 t0 cells slots mc msl : Nat} {H : Heap} {locs : List Loc} {ls : Array Slot} {m : Mem} {x0 x1 x2 x3 x4 : Int} (C : CallFix p mt c cX10_best 6 s args tb RX10) (S : Wd G A s H0 ad g m H locs) (hx0 : gk g x0 = 11) (hx1 : r32 x1) (hx2 : r32 x2) (hx3 : r32 x3) (hx4 : r32 x4) (hl : lv_has ls 6 [(0, .ref (ad x0)), (1, .int (iI x1)), (2, .int (iI x2)), (3, .int (iI x3)), (4, .int (iI x4))]) (hq : aX g0 ad0 ad ∧ gX g0 g) (hn : gn g = n0 + cells ∧ gs g = t0 + slots) {c1 : Int} {s1 : (Int × Int × Int × Shp × Mem)} (hF : bX10_best_79 x0 x1 x2 x3 x4 g m = some (c1, s1)) (he : gn s1.2.2.2.1 ≤ n0 + mc ∧ gs s1.2.2.2.1 ≤ t0 + msl) (K0 : c1 = 0 → ∀ (ad : Int → Nat) (H : Heap) (locs : List Loc) (ls : Array Slot) (cells slots : Nat), aX g0 ad0 ad ∧ gX g0 s1.2.2.2.1 → gn s1.2.2.2.1 = n0 + cells ∧ gs s1.2.2.2.1 = t0 + slots → gk s1.2.2.2.1 x0 = 11 → r32 s1.1 → r32 s1.2.1 → r32 s1.2.2.1 → Wd G A s H0 ad s1.2.2.2.1 s1.2.2.2.2 H locs → lv_has ls 6 [(0, .ref (ad x0)), (1, .int (iI x1)), (2, .int (iI s1.1)), (3, .int (iI s1.2.1)), (4, .int (iI s1.2.2.1))] → W p l e (rX10_best mc msl) s mt args below meth c H locs cells slots Q (F0 mt 32 ls [])) (K1 : c1 = 1 → ∀ (ad : Int → Nat) (H : Heap) (locs : List Loc) (ls : Array Slot) (cells slots : Nat), aX g0 ad0 ad ∧ gX g0 s1.2.2.2.1 → gn s1.2.2.2.1 = n0 + cells ∧ gs s1.2.2.2.1 = t0 + slots → r32 s1.1 → Wd G A s H0 ad s1.2.2.2.1 s1.2.2.2.2 H locs → lv_has ls 6 [(2, .int (iI s1.1))] → W p l e (rX10_best mc msl) s mt args below meth c H locs cells slots Q (F0 mt 85 ls [])) : W p l e (rX10_best mc msl) s mt args below meth c H locs cells slots Q (F0 mt 79 ls []) := by
  have hXx := xX10_best_79 hF S.g
  have hle : cells ≤ mc ∧ slots ≤ msl := by
    have h1 := hXx.1.1
    have h2 := hXx.1.2.1
    omega
  unfold bX10_best_79 at hF
  obtain ⟨y1, ey1, hF⟩ := vv_ok hF
  have ry1 : r32 y1 := ey1 ▸ r32_w _
  refine q_iinc C hl 4 [(4, .int (iI y1)), (0, .ref (ad x0)), (1, .int (iI x1)), (2, .int (iI x2)), (3, .int (iI x3))] rfl ey1 (by decide) rfl dX10_best_79 (fun ls hl => ?_)
  refine q_goto C 32 dX10_best_82 (by decide) ?_
  cases hF
  exact K0 rfl _ _ _ _ _ _ hq hn hx0 hx2 hx3 ry1 S (lv_sub hl [1, 2, 3, 4, 0] rfl)
theorem xX10_best_70 {g : Shp} {m : Mem} {x0 x1 x4 x5 : Int} {c1 : Int} {s1 : (Int × Int × Int × Shp × Mem)} (hF : bX10_best_70 x0 x1 x4 x5 g m = some (c1, s1)) (hg : gOk g) : gX g s1.2.2.2.1 ∧ gOk s1.2.2.2.1 := by
  unfold bX10_best_70 at hF
  obtain ⟨y1, ey1, hF⟩ := vv_ok hF
  exact xX10_best_79 hF hg
set_option maxRecDepth 20000 in
theorem wX10_best_70 {p : Program} {l : Launch} {e : Env} {s : State} {mt : MethodId} {args : Array Value} {below : List Frame} {meth : Method} {c : Code} {Q : State → Prop} {G : Gl} {A : Nat → Prop} {H0 : Heap} {ad : Int → Nat} {g : Shp} {ad0 : Int → Nat} {g0 : Shp} {n0 t0 cells slots mc msl : Nat} {H : Heap} {locs : List Loc} {ls : Array Slot} {m : Mem} {x0 x1 x4 x5 : Int} (C : CallFix p mt c cX10_best 6 s args tb RX10) (S : Wd G A s H0 ad g m H locs) (hx0 : gk g x0 = 11) (hx1 : r32 x1) (hx4 : r32 x4) (hx5 : gk g x5 = 10) (hl : lv_has ls 6 [(0, .ref (ad x0)), (1, .int (iI x1)), (4, .int (iI x4)), (5, .ref (ad x5))]) (hq : aX g0 ad0 ad ∧ gX g0 g) (hn : gn g = n0 + cells ∧ gs g = t0 + slots) {c1 : Int} {s1 : (Int × Int × Int × Shp × Mem)} (hF : bX10_best_70 x0 x1 x4 x5 g m = some (c1, s1)) (he : gn s1.2.2.2.1 ≤ n0 + mc ∧ gs s1.2.2.2.1 ≤ t0 + msl) (K0 : c1 = 0 → ∀ (ad : Int → Nat) (H : Heap) (locs : List Loc) (ls : Array Slot) (cells slots : Nat), aX g0 ad0 ad ∧ gX g0 s1.2.2.2.1 → gn s1.2.2.2.1 = n0 + cells ∧ gs s1.2.2.2.1 = t0 + slots → gk s1.2.2.2.1 x0 = 11 → r32 s1.1 → r32 s1.2.1 → r32 s1.2.2.1 → Wd G A s H0 ad s1.2.2.2.1 s1.2.2.2.2 H locs → lv_has ls 6 [(0, .ref (ad x0)), (1, .int (iI x1)), (2, .int (iI s1.1)), (3, .int (iI s1.2.1)), (4, .int (iI s1.2.2.1))] → W p l e (rX10_best mc msl) s mt args below meth c H locs cells slots Q (F0 mt 32 ls [])) (K1 : c1 = 1 → ∀ (ad : Int → Nat) (H : Heap) (locs : List Loc) (ls : Array Slot) (cells slots : Nat), aX g0 ad0 ad ∧ gX g0 s1.2.2.2.1 → gn s1.2.2.2.1 = n0 + cells ∧ gs s1.2.2.2.1 = t0 + slots → r32 s1.1 → Wd G A s H0 ad s1.2.2.2.1 s1.2.2.2.2 H locs → lv_has ls 6 [(2, .int (iI s1.1))] → W p l e (rX10_best mc msl) s mt args below meth c H locs cells slots Q (F0 mt 85 ls [])) : W p l e (rX10_best mc msl) s mt args below meth c H locs cells slots Q (F0 mt 70 ls []) := by
  have hXx := xX10_best_70 hF S.g
  have hle : cells ≤ mc ∧ slots ≤ msl := by
    have h1 := hXx.1.1
    have h2 := hXx.1.2.1
    omega
  unfold bX10_best_70 at hF
  refine q_iload C hl 2 rfl dX10_best_70 ?_
  refine q_istore_n C hl [(2, .int (iI x4)), (0, .ref (ad x0)), (1, .int (iI x1)), (4, .int (iI x4)), (5, .ref (ad x5))] rfl rfl (by decide) rfl dX10_best_72 (fun ls hl => ?_)
  refine q_aload C hl 4 rfl dX10_best_73 ?_
  refine q_geti C S 5 fo_RX10_162 (j := 5) rfl rfl hx5 dX10_best_75 ?_
  obtain ⟨y1, ey1, hF⟩ := vv_ok hF
  have ry1 : r32 y1 := ey1 ▸ (S.r _ _)
  refine q_istore_n C hl [(3, .int (iI y1)), (2, .int (iI x4)), (0, .ref (ad x0)), (1, .int (iI x1)), (4, .int (iI x4)), (5, .ref (ad x5))] ey1 rfl (by decide) rfl dX10_best_78 (fun ls hl => ?_)
  exact wX10_best_79 C S hx0 hx1 hx4 ry1 hx4 (lv_sub hl [2, 3, 1, 0, 4] rfl) hq hn hF he K0 K1
theorem xX10_best_45 {g : Shp} {m : Mem} {x0 x1 x2 x3 x4 z0 : Int} {c1 : Int} {s1 : (Int × Int × Int × Shp × Mem)} (hF : bX10_best_45 x0 x1 x2 x3 x4 z0 g m = some (c1, s1)) (hg : gOk g) : gX g s1.2.2.2.1 ∧ gOk s1.2.2.2.1 := by
  unfold bX10_best_45 at hF
  by_cases hc1 : (m z0 7) = 0
  · have hF := if_t hc1 hF
    exact xX10_best_79 hF hg
  · have hF := if_f hc1 hF
    by_cases hc2 : x2 = ((-4))
    · have hF := if_t hc2 hF
      exact xX10_best_70 hF hg
    · have hF := if_f hc2 hF
      by_cases hc3 : x3 ≤ (m z0 5)
      · have hF := if_t hc3 hF
        exact xX10_best_79 hF hg
      · have hF := if_f hc3 hF
        exact xX10_best_70 hF hg
set_option maxRecDepth 20000 in
theorem wX10_best_45 {p : Program} {l : Launch} {e : Env} {s : State} {mt : MethodId} {args : Array Value} {below : List Frame} {meth : Method} {c : Code} {Q : State → Prop} {G : Gl} {A : Nat → Prop} {H0 : Heap} {ad : Int → Nat} {g : Shp} {ad0 : Int → Nat} {g0 : Shp} {n0 t0 cells slots mc msl : Nat} {H : Heap} {locs : List Loc} {ls : Array Slot} {m : Mem} {x0 x1 x2 x3 x4 z0 : Int} (C : CallFix p mt c cX10_best 6 s args tb RX10) (S : Wd G A s H0 ad g m H locs) (hx0 : gk g x0 = 11) (hx1 : r32 x1) (hx2 : r32 x2) (hx3 : r32 x3) (hx4 : r32 x4) (hz0 : gk g z0 = 10) (hl : lv_has ls 6 [(0, .ref (ad x0)), (1, .int (iI x1)), (2, .int (iI x2)), (3, .int (iI x3)), (4, .int (iI x4))]) (hq : aX g0 ad0 ad ∧ gX g0 g) (hn : gn g = n0 + cells ∧ gs g = t0 + slots) {c1 : Int} {s1 : (Int × Int × Int × Shp × Mem)} (hF : bX10_best_45 x0 x1 x2 x3 x4 z0 g m = some (c1, s1)) (he : gn s1.2.2.2.1 ≤ n0 + mc ∧ gs s1.2.2.2.1 ≤ t0 + msl) (K0 : c1 = 0 → ∀ (ad : Int → Nat) (H : Heap) (locs : List Loc) (ls : Array Slot) (cells slots : Nat), aX g0 ad0 ad ∧ gX g0 s1.2.2.2.1 → gn s1.2.2.2.1 = n0 + cells ∧ gs s1.2.2.2.1 = t0 + slots → gk s1.2.2.2.1 x0 = 11 → r32 s1.1 → r32 s1.2.1 → r32 s1.2.2.1 → Wd G A s H0 ad s1.2.2.2.1 s1.2.2.2.2 H locs → lv_has ls 6 [(0, .ref (ad x0)), (1, .int (iI x1)), (2, .int (iI s1.1)), (3, .int (iI s1.2.1)), (4, .int (iI s1.2.2.1))] → W p l e (rX10_best mc msl) s mt args below meth c H locs cells slots Q (F0 mt 32 ls [])) (K1 : c1 = 1 → ∀ (ad : Int → Nat) (H : Heap) (locs : List Loc) (ls : Array Slot) (cells slots : Nat), aX g0 ad0 ad ∧ gX g0 s1.2.2.2.1 → gn s1.2.2.2.1 = n0 + cells ∧ gs s1.2.2.2.1 = t0 + slots → r32 s1.1 → Wd G A s H0 ad s1.2.2.2.1 s1.2.2.2.2 H locs → lv_has ls 6 [(2, .int (iI s1.1))] → W p l e (rX10_best mc msl) s mt args below meth c H locs cells slots Q (F0 mt 85 ls [])) : W p l e (rX10_best mc msl) s mt args below meth c H locs cells slots Q (F0 mt 45 ls [.ref (ad z0)]) := by
  have hXx := xX10_best_45 hF S.g
  have hle : cells ≤ mc ∧ slots ≤ msl := by
    have h1 := hXx.1.1
    have h2 := hXx.1.2.1
    omega
  unfold bX10_best_45 at hF
  refine q_astore C hl [(5, .ref (ad z0)), (0, .ref (ad x0)), (1, .int (iI x1)), (2, .int (iI x2)), (3, .int (iI x3)), (4, .int (iI x4))] rfl (by decide) rfl dX10_best_45 (fun ls hl => ?_)
  refine q_aload C hl 0 rfl dX10_best_47 ?_
  refine q_geti C S 7 fo_RX10_158 (j := 7) rfl rfl hz0 dX10_best_49 ?_
  refine q_if_eq C (S.r _ _) 79 dX10_best_52 (by decide) (fun hc1 => ?_) (fun hc1 => ?_)
  · have hF := if_t hc1 hF
    exact wX10_best_79 C S hx0 hx1 hx2 hx3 hx4 (lv_sub hl [1, 2, 3, 4, 5] rfl) hq hn hF he K0 K1
  · have hF := if_f hc1 hF
    refine q_iload_n C hl 3 rfl rfl dX10_best_55 ?_
    refine q_bipush C (-4) (by decide) dX10_best_56 ?_
    refine q_icmp_eq C hx2 (rl (-4) rfl) 70 dX10_best_58 (by decide) (fun hc2 => ?_) (fun hc2 => ?_)
    · have hF := if_t hc2 hF
      exact wX10_best_70 C S hx0 hx1 hx4 hz0 (lv_sub hl [1, 2, 5, 0] rfl) hq hn hF he K0 K1
    · have hF := if_f hc2 hF
      refine q_aload C hl 0 rfl dX10_best_61 ?_
      refine q_geti C S 5 fo_RX10_162 (j := 5) rfl rfl hz0 dX10_best_63 ?_
      refine q_iload_n C hl 4 rfl rfl dX10_best_66 ?_
      refine q_icmp_ge C (S.r _ _) hx3 79 dX10_best_67 (by decide) (fun hc3 => ?_) (fun hc3 => ?_)
      · have hF := if_t hc3 hF
        exact wX10_best_79 C S hx0 hx1 hx2 hx3 hx4 (lv_sub hl [1, 2, 3, 4, 5] rfl) hq hn hF he K0 K1
      · have hF := if_f hc3 hF
        exact wX10_best_70 C S hx0 hx1 hx4 hz0 (lv_sub hl [1, 2, 5, 0] rfl) hq hn hF he K0 K1
theorem xX10_best_32 {g : Shp} {m : Mem} {x0 x1 x2 x3 x4 : Int} {c1 : Int} {s1 : (Int × Int × Int × Shp × Mem)} (hF : bX10_best_32 x0 x1 x2 x3 x4 g m = some (c1, s1)) (hg : gOk g) : gX g s1.2.2.2.1 ∧ gOk s1.2.2.2.1 := by
  unfold bX10_best_32 at hF
  by_cases hc1 : 3 ≤ x4
  · have hF := if_t hc1 hF
    cases hF
    exact ⟨gX.rf _, hg⟩
  · have hF := if_f hc1 hF
    obtain ⟨v2, g3, m4, h5, hF⟩ := bd3_ok hF
    have hX3 := xX10_wayOf_f h5 hg
    obtain ⟨k7, hF⟩ := ck_ok hF
    have hG2 := hX3.2
    have hX2 := hX3.1
    exact gX2 hX2 (xX10_best_45 hF hG2)
set_option maxRecDepth 20000 in
theorem wX10_best_32 {p : Program} {l : Launch} {e : Env} {s : State} {mt : MethodId} {args : Array Value} {below : List Frame} {meth : Method} {c : Code} {Q : State → Prop} {G : Gl} {A : Nat → Prop} {H0 : Heap} {ad : Int → Nat} {g : Shp} {ad0 : Int → Nat} {g0 : Shp} {n0 t0 cells slots mc msl : Nat} {H : Heap} {locs : List Loc} {ls : Array Slot} {m : Mem} {x0 x1 x2 x3 x4 : Int} (C : CallFix p mt c cX10_best 6 s args tb RX10) (S : Wd G A s H0 ad g m H locs) (hx0 : gk g x0 = 11) (hx1 : r32 x1) (hx2 : r32 x2) (hx3 : r32 x3) (hx4 : r32 x4) (hl : lv_has ls 6 [(0, .ref (ad x0)), (1, .int (iI x1)), (2, .int (iI x2)), (3, .int (iI x3)), (4, .int (iI x4))]) (hq : aX g0 ad0 ad ∧ gX g0 g) (hn : gn g = n0 + cells ∧ gs g = t0 + slots) {c1 : Int} {s1 : (Int × Int × Int × Shp × Mem)} (hF : bX10_best_32 x0 x1 x2 x3 x4 g m = some (c1, s1)) (he : gn s1.2.2.2.1 ≤ n0 + mc ∧ gs s1.2.2.2.1 ≤ t0 + msl) (K0 : c1 = 0 → ∀ (ad : Int → Nat) (H : Heap) (locs : List Loc) (ls : Array Slot) (cells slots : Nat), aX g0 ad0 ad ∧ gX g0 s1.2.2.2.1 → gn s1.2.2.2.1 = n0 + cells ∧ gs s1.2.2.2.1 = t0 + slots → gk s1.2.2.2.1 x0 = 11 → r32 s1.1 → r32 s1.2.1 → r32 s1.2.2.1 → Wd G A s H0 ad s1.2.2.2.1 s1.2.2.2.2 H locs → lv_has ls 6 [(0, .ref (ad x0)), (1, .int (iI x1)), (2, .int (iI s1.1)), (3, .int (iI s1.2.1)), (4, .int (iI s1.2.2.1))] → W p l e (rX10_best mc msl) s mt args below meth c H locs cells slots Q (F0 mt 32 ls [])) (K1 : c1 = 1 → ∀ (ad : Int → Nat) (H : Heap) (locs : List Loc) (ls : Array Slot) (cells slots : Nat), aX g0 ad0 ad ∧ gX g0 s1.2.2.2.1 → gn s1.2.2.2.1 = n0 + cells ∧ gs s1.2.2.2.1 = t0 + slots → r32 s1.1 → Wd G A s H0 ad s1.2.2.2.1 s1.2.2.2.2 H locs → lv_has ls 6 [(2, .int (iI s1.1))] → W p l e (rX10_best mc msl) s mt args below meth c H locs cells slots Q (F0 mt 85 ls [])) : W p l e (rX10_best mc msl) s mt args below meth c H locs cells slots Q (F0 mt 32 ls []) := by
  have hXx := xX10_best_32 hF S.g
  have hle : cells ≤ mc ∧ slots ≤ msl := by
    have h1 := hXx.1.1
    have h2 := hXx.1.2.1
    omega
  unfold bX10_best_32 at hF
  refine q_iload C hl 4 rfl dX10_best_32 ?_
  refine q_iconst C 3 dX10_best_34 ?_
  refine q_icmp_ge C hx4 (rl 3 rfl) 85 dX10_best_35 (by decide) (fun hc1 => ?_) (fun hc1 => ?_)
  · have hF := if_t hc1 hF
    cases hF
    exact K1 rfl _ _ _ _ _ _ hq hn hx2 S (lv_sub hl [2] rfl)
  · have hF := if_f hc1 hF
    refine q_aload_n C hl 0 rfl rfl dX10_best_38 ?_
    refine q_iload_n C hl 1 rfl rfl dX10_best_39 ?_
    refine q_iload C hl 4 rfl dX10_best_40 ?_
    obtain ⟨v2, g3, m4, h5, hF⟩ := bd3_ok hF
    have hX3 := xX10_wayOf_f h5 S.g
    obtain ⟨k7, hF⟩ := ck_ok hF
    have hG2 := hX3.2
    have hX2 := hX3.1
    have hXr := (xX10_best_45 hF hG2).1
    refine q_crA S (run_V (As := [.int (iI x1), .int (iI x4)]) (rest := []) C S (cX10_wayOf_ok l G hx0 hx1 hx4 h5 ad _) hx0 ⟨by decide, _, _, rfl⟩ gd_RX10_154 hdV_X10_wayOf rfl ⟨rfl, rfl, (Nat.le_of_ble_eq_true rfl), (Nat.le_of_ble_eq_true rfl)⟩ (by have h1 := hXr.1; have h2 := hXr.2.1; have h3 := hX2.1; have h4 := hX2.2.1; exact ⟨by show _ ≤ mc; omega, by show _ ≤ msl; omega⟩) hl.1 rfl (Nat.le_of_ble_eq_true rfl) dX10_best_42) (fun ad6 H locs hax Sm4 h8 => ?_)
    have hq : aX g0 ad0 ad6 ∧ gX g0 g3 := ⟨hq.1.tr hq.2 hax, hq.2.tr hX2⟩
    have hn : gn g3 = n0 + (cells + (gn g3 - gn g)) ∧ gs g3 = t0 + (slots + (gs g3 - gs g)) := by have h3 := hX2.1; have h4 := hX2.2.1; omega
    have k9 := hX2.k hx0 (by decide)
    have ak9 : ad6 x0 = ad x0 := hax _ (kz hx0 (by decide))
    rw [← ak9] at hl
    exact wX10_best_45 C Sm4 k9 hx1 hx2 hx3 hx4 k7 (lv_sub hl [0, 1, 2, 3, 4] rfl) hq hn hF he K0 K1
theorem yX10_best_32 {x0 x1 : Int} {n : Nat} {s0 s1 : (Int × Int × Int × Shp × Mem)} {c1 : Int} (hI : iter (BX10_best_32 x0 x1) n s0 = some (c1, s1)) (hg : gOk s0.2.2.2.1) : gX s0.2.2.2.1 s1.2.2.2.1 ∧ gOk s1.2.2.2.1 :=
  iter_gX (B := BX10_best_32 x0 x1) (fun q => q.2.2.2.1) (fun s c s' hB hg => xX10_best_32 hB hg) n s0 c1 s1 hI hg
set_option maxRecDepth 20000 in
theorem lX10_best_32 {p : Program} {l : Launch} {e : Env} {s : State} {mt : MethodId} {args : Array Value} {below : List Frame} {meth : Method} {c : Code} {Q : State → Prop} {G : Gl} {A : Nat → Prop} {H0 : Heap} {ad0 : Int → Nat} {g0 : Shp} {n0 t0 mc msl : Nat} {x0 x1 : Int} (C : CallFix p mt c cX10_best 6 s args tb RX10) (hx1 : r32 x1) {n : Nat} {s0 s1 : (Int × Int × Int × Shp × Mem)} {c1 : Int} (hI : iter (BX10_best_32 x0 x1) n s0 = some (c1, s1)) (he : gn s1.2.2.2.1 ≤ n0 + mc ∧ gs s1.2.2.2.1 ≤ t0 + msl) (K1 : c1 = 1 → ∀ (ad : Int → Nat) (H : Heap) (locs : List Loc) (ls : Array Slot) (cells slots : Nat), aX g0 ad0 ad ∧ gX g0 s1.2.2.2.1 → gn s1.2.2.2.1 = n0 + cells ∧ gs s1.2.2.2.1 = t0 + slots → r32 s1.1 → Wd G A s H0 ad s1.2.2.2.1 s1.2.2.2.2 H locs → lv_has ls 6 [(2, .int (iI s1.1))] → W p l e (rX10_best mc msl) s mt args below meth c H locs cells slots Q (F0 mt 85 ls [])) : ∀ (ad : Int → Nat) (H : Heap) (locs : List Loc) (ls : Array Slot) (cells slots : Nat), aX g0 ad0 ad ∧ gX g0 s0.2.2.2.1 → gn s0.2.2.2.1 = n0 + cells ∧ gs s0.2.2.2.1 = t0 + slots → gk s0.2.2.2.1 x0 = 11 → r32 s0.1 → r32 s0.2.1 → r32 s0.2.2.1 → Wd G A s H0 ad s0.2.2.2.1 s0.2.2.2.2 H locs → lv_has ls 6 [(0, .ref (ad x0)), (1, .int (iI x1)), (2, .int (iI s0.1)), (3, .int (iI s0.2.1)), (4, .int (iI s0.2.2.1))] → W p l e (rX10_best mc msl) s mt args below meth c H locs cells slots Q (F0 mt 32 ls []) := by
  refine iter_WA (Pw := fun q => ∀ (ad : Int → Nat) (H : Heap) (locs : List Loc) (ls : Array Slot) (cells slots : Nat), aX g0 ad0 ad ∧ gX g0 q.2.2.2.1 → gn q.2.2.2.1 = n0 + cells ∧ gs q.2.2.2.1 = t0 + slots → gk q.2.2.2.1 x0 = 11 → r32 q.1 → r32 q.2.1 → r32 q.2.2.1 → Wd G A s H0 ad q.2.2.2.1 q.2.2.2.2 H locs → lv_has ls 6 [(0, .ref (ad x0)), (1, .int (iI x1)), (2, .int (iI q.1)), (3, .int (iI q.2.1)), (4, .int (iI q.2.2.1))] → W p l e (rX10_best mc msl) s mt args below meth c H locs cells slots Q (F0 mt 32 ls [])) (Px := fun c0 q => (c0 = 1 → ∀ (ad : Int → Nat) (H : Heap) (locs : List Loc) (ls : Array Slot) (cells slots : Nat), aX g0 ad0 ad ∧ gX g0 q.2.2.2.1 → gn q.2.2.2.1 = n0 + cells ∧ gs q.2.2.2.1 = t0 + slots → r32 q.1 → Wd G A s H0 ad q.2.2.2.1 q.2.2.2.2 H locs → lv_has ls 6 [(2, .int (iI q.1))] → W p l e (rX10_best mc msl) s mt args below meth c H locs cells slots Q (F0 mt 85 ls []))) ?_ _ _ hI K1
  intro n s c s' hB hR K0 kx ad H locs ls cells slots hq hn f0 f1 f2 f3 S hl
  have hX1 := xX10_best_32 hB S.g
  have hX2 : gn s'.2.2.2.1 ≤ gn s1.2.2.2.1 ∧ gs s'.2.2.2.1 ≤ gs s1.2.2.2.1 := by
    rcases hR with ⟨_, h2⟩ | ⟨_, h2, _⟩
    · have h3 := (yX10_best_32 h2 hX1.2).1
      exact ⟨h3.1, h3.2.1⟩
    · rw [h2]; exact ⟨Nat.le_refl _, Nat.le_refl _⟩
  exact wX10_best_32 C S f0 hx1 f1 f2 f3 hl hq hn hB (by omega) K0 (fun h9 => (kx (by rw [h9]; decide)) h9)
theorem xX10_best_85 {g : Shp} {m : Mem} {x2 : Int} {r : Int} {g' : Shp} {m' : Mem} (hF : bX10_best_85 x2 g m = some (r, g', m')) (hg : gOk g) : gX g g' ∧ gOk g' := by
  unfold bX10_best_85 at hF
  cases hF
  exact ⟨gX.rf _, hg⟩
set_option maxRecDepth 20000 in
theorem wX10_best_85 {p : Program} {l : Launch} {e : Env} {s : State} {mt : MethodId} {args : Array Value} {below : List Frame} {meth : Method} {c : Code} {Q : State → Prop} {G : Gl} {A : Nat → Prop} {H0 : Heap} {ad : Int → Nat} {g : Shp} {ad0 : Int → Nat} {g0 : Shp} {n0 t0 cells slots mc msl : Nat} {H : Heap} {locs : List Loc} {ls : Array Slot} {m : Mem} {x2 : Int} (C : CallFix p mt c cX10_best 6 s args tb RX10) (S : Wd G A s H0 ad g m H locs) (hx2 : r32 x2) (hl : lv_has ls 6 [(2, .int (iI x2))]) (hq : aX g0 ad0 ad ∧ gX g0 g) (hn : gn g = n0 + cells ∧ gs g = t0 + slots) {r : Int} {g' : Shp} {m' : Mem} (hF : bX10_best_85 x2 g m = some (r, g', m')) (he : gn g' ≤ n0 + mc ∧ gs g' ≤ t0 + msl) (Kr : ∀ (ad : Int → Nat) (H : Heap) (locs : List Loc) (pc : Nat) (ls : Array Slot) (cells slots : Nat), aX g0 ad0 ad → gn g' = n0 + cells ∧ gs g' = t0 + slots → Wd G A s H0 ad g' m' H locs → decode cX10_best pc = .ok (.ireturn, 1) → r32 r ∧ (false = true → r = 0 ∨ r = 1) → narrow .int (.int (iI r)) = .int (iI r) → W p l e (rX10_best mc msl) s mt args below meth c H locs cells slots Q (F0 mt pc ls [.int (iI r)])) : W p l e (rX10_best mc msl) s mt args below meth c H locs cells slots Q (F0 mt 85 ls []) := by
  have hXx := xX10_best_85 hF S.g
  have hle : cells ≤ mc ∧ slots ≤ msl := by
    have h1 := hXx.1.1
    have h2 := hXx.1.2.1
    omega
  unfold bX10_best_85 at hF
  refine q_iload_n C hl 0 rfl rfl dX10_best_85 ?_
  cases hF
  exact Kr _ _ _ _ _ _ _ hq.1 hn S dX10_best_86 ⟨hx2, fun h9 => absurd h9 (by decide)⟩ rfl
theorem xX10_best_0 {g : Shp} {m : Mem} {x0 x1 : Int} {r : Int} {g' : Shp} {m' : Mem} (hF : bX10_best_0 x0 x1 g m = some (r, g', m')) (hg : gOk g) : gX g g' ∧ gOk g' := by
  unfold bX10_best_0 at hF
  obtain ⟨v1, m2, h3, hF⟩ := bd2_ok hF
  by_cases hc5 : v1 = 0
  · have hF := if_t hc5 hF
    cases hF
    exact ⟨gX.rf _, hg⟩
  · have hF := if_f hc5 hF
    obtain ⟨k6, hF⟩ := ck_ok hF
    obtain ⟨v7, m8, h9, hF⟩ := bd2_ok hF
    by_cases hc11 : v7 = 0
    · have hF := if_t hc11 hF
      obtain ⟨cv12, sv13, hi14, hF⟩ := bdl_ok hF
      have hy := yX10_best_32 hi14 hg
      exact gX2 hy.1 (xX10_best_85 hF hy.2)
    · have hF := if_f hc11 hF
      cases hF
      exact ⟨gX.rf _, hg⟩
set_option maxRecDepth 20000 in
theorem wX10_best_0 {p : Program} {l : Launch} {e : Env} {s : State} {mt : MethodId} {args : Array Value} {below : List Frame} {meth : Method} {c : Code} {Q : State → Prop} {G : Gl} {A : Nat → Prop} {H0 : Heap} {ad : Int → Nat} {g : Shp} {ad0 : Int → Nat} {g0 : Shp} {n0 t0 cells slots mc msl : Nat} {H : Heap} {locs : List Loc} {ls : Array Slot} {m : Mem} {x0 x1 : Int} (C : CallFix p mt c cX10_best 6 s args tb RX10) (S : Wd G A s H0 ad g m H locs) (hx0 : gk g x0 = 11) (hx1 : r32 x1) (hl : lv_has ls 6 [(0, .ref (ad x0)), (1, .int (iI x1))]) (hq : aX g0 ad0 ad ∧ gX g0 g) (hn : gn g = n0 + cells ∧ gs g = t0 + slots) {r : Int} {g' : Shp} {m' : Mem} (hF : bX10_best_0 x0 x1 g m = some (r, g', m')) (he : gn g' ≤ n0 + mc ∧ gs g' ≤ t0 + msl) (Kr : ∀ (ad : Int → Nat) (H : Heap) (locs : List Loc) (pc : Nat) (ls : Array Slot) (cells slots : Nat), aX g0 ad0 ad → gn g' = n0 + cells ∧ gs g' = t0 + slots → Wd G A s H0 ad g' m' H locs → decode cX10_best pc = .ok (.ireturn, 1) → r32 r ∧ (false = true → r = 0 ∨ r = 1) → narrow .int (.int (iI r)) = .int (iI r) → W p l e (rX10_best mc msl) s mt args below meth c H locs cells slots Q (F0 mt pc ls [.int (iI r)])) : W p l e (rX10_best mc msl) s mt args below meth c H locs cells slots Q (F0 mt 0 ls []) := by
  have hXx := xX10_best_0 hF S.g
  have hle : cells ≤ mc ∧ slots ≤ msl := by
    have h1 := hXx.1.1
    have h2 := hXx.1.2.1
    omega
  unfold bX10_best_0 at hF
  refine q_aload_n C hl 0 rfl rfl dX10_best_0 ?_
  refine q_iload_n C hl 1 rfl rfl dX10_best_1 ?_
  obtain ⟨v1, m2, h3, hF⟩ := bd2_ok hF
  refine q_ci S (run_V (As := [.int (iI x1)]) (rest := []) C S (cX10_isLine_ok l G hx0 hx1 h3 ad _) hx0 ⟨by decide, _, _, rfl⟩ gd_RX10_93 hdV_X10_isLine rfl ⟨rfl, rfl, (Nat.le_of_ble_eq_true rfl), (Nat.le_of_ble_eq_true rfl)⟩ hle hl.1 rfl (Nat.le_of_ble_eq_true rfl) dX10_best_2) (fun H locs Sm2 h4 => ?_)
  refine q_if_ne C h4.1 10 dX10_best_5 (by decide) (fun hc5 => ?_) (fun hc5 => ?_)
  · have hF := if_t hc5 hF
    refine q_iconst C (-1) dX10_best_8 ?_
    cases hF
    exact Kr _ _ _ _ _ _ _ hq.1 hn Sm2 dX10_best_9 ⟨(rl (-1) rfl), fun h9 => absurd h9 (by decide)⟩ rfl
  · have hF := if_f hc5 hF
    refine q_aload_n C hl 0 rfl rfl dX10_best_10 ?_
    obtain ⟨k6, hF⟩ := ck_ok hF
    refine q_getr C Sm2 2 fo_RX10_26 (j := 2) rfl rfl hx0 k6 (by decide) dX10_best_11 ?_
    refine q_iload_n C hl 1 rfl rfl dX10_best_14 ?_
    obtain ⟨v7, m8, h9, hF⟩ := bd2_ok hF
    refine q_ci Sm2 (run_V (As := [.int (iI x1)]) (rest := []) C Sm2 (cX1_isCovered_ok l G k6 hx1 h9 ad _) k6 ⟨by decide, _, _, rfl⟩ gd_RX10_133 hdV_X1_isCovered rfl ⟨rfl, rfl, (Nat.le_of_ble_eq_true rfl), (Nat.le_of_ble_eq_true rfl)⟩ hle hl.1 rfl (Nat.le_of_ble_eq_true rfl) dX10_best_15) (fun H locs Sm8 h10 => ?_)
    refine q_if_eq C h10.1 24 dX10_best_18 (by decide) (fun hc11 => ?_) (fun hc11 => ?_)
    · have hF := if_t hc11 hF
      refine q_bipush C (-4) (by decide) dX10_best_24 ?_
      refine q_istore_n C hl [(2, .int (iI ((-4)))), (0, .ref (ad x0)), (1, .int (iI x1))] rfl rfl (by decide) rfl dX10_best_26 (fun ls hl => ?_)
      refine q_iconst C 0 dX10_best_27 ?_
      refine q_istore_n C hl [(3, .int (iI 0)), (2, .int (iI ((-4)))), (0, .ref (ad x0)), (1, .int (iI x1))] rfl rfl (by decide) rfl dX10_best_28 (fun ls hl => ?_)
      refine q_iconst C 0 dX10_best_29 ?_
      refine q_istore C hl [(4, .int (iI 0)), (3, .int (iI 0)), (2, .int (iI ((-4)))), (0, .ref (ad x0)), (1, .int (iI x1))] rfl (by decide) rfl dX10_best_30 (fun ls hl => ?_)
      obtain ⟨cv12, sv13, hi14, hF⟩ := bdl_ok hF
      have hy := yX10_best_32 hi14 Sm8.g
      have hXr := (xX10_best_85 hF hy.2).1
      refine lX10_best_32 C hx1 hi14 (by have h1 := hXr.1; have h2 := hXr.2.1; omega) ?_ _ _ _ _ _ _ hq hn hx0 (rl (-4) rfl) (rl 0 rfl) (rl 0 rfl) Sm8 (lv_sub hl [3, 4, 2, 1, 0] rfl)
      intro _ ad H locs ls cells slots hq hn f16 S15 hl
      exact wX10_best_85 C S15 f16 (lv_sub hl [0] rfl) hq hn hF he Kr
    · have hF := if_f hc11 hF
      refine q_bipush C (-2) (by decide) dX10_best_21 ?_
      cases hF
      exact Kr _ _ _ _ _ _ _ hq.1 hn Sm8 dX10_best_23 ⟨(rl (-2) rfl), fun h9 => absurd h9 (by decide)⟩ rfl
theorem xX10_best_f {x0 x1 : Int} {g : Shp} {m : Mem} {r : Int} {g' : Shp} {m' : Mem} (hF : fX10_best x0 x1 g m = some (r, g', m')) (hg : gOk g) : gX g g' ∧ gOk g' := xX10_best_0 hF hg
theorem cX10_best_ok (l : Launch) (G : Gl) {x0 x1 : Int} {g : Shp} {m : Mem} {r : Int} {g' : Shp} {m' : Mem} (hx0 : gk g x0 = 11) (hx1 : r32 x1) (hF : fX10_best x0 x1 g m = some (r, g', m')) : mIA l yX10_best (wT yX10_best cX10_best 6 (some .int)) rX10_best G false (fun ad => [.ref (ad x0), .int (iI x1)]) g m r g' m' :=
  met_iA (rm := rX10_best) (by decide) (fun ad => Nat.le_of_ble_eq_true rfl) (fun hg => (xX10_best_f hF hg).1) (fun p e s mt args below meth c Q A H0 H locs ad ls mc msl hmc hms C hnm S hl Kr => wX10_best_0 (n0 := gn g) (t0 := gs g) C S hx0 hx1 hl ⟨fun _ _ => rfl, gX.rf _⟩ ⟨rfl, rfl⟩ hF (by have h9 := (xX10_best_f hF S.g).1; have h1 := h9.1; have h2 := h9.2.1; omega) Kr)
