def bX0_keepSizes_46 (g : Shp) (x0 x1 x2 x4 z0 : Int) (m : Mem) : Option (Int × (Int × Int × Mem)) :=
  vv (w32 (x4 + 1)) fun y1 =>
  some (0, (z0, y1, m))
def bX0_keepSizes_45 (g : Shp) (x0 x1 x2 x4 : Int) (m : Mem) : Option (Int × (Int × Int × Mem)) :=
  bX0_keepSizes_46 g x0 x1 x2 x4 0 m
def bX0_keepSizes_17 (g : Shp) (x0 x1 x2 x3 x4 : Int) (m : Mem) : Option (Int × (Int × Int × Mem)) :=
  if 3 ≤ x4 then
    some (1, (x3, x4, m))
  else
    if x3 = 0 then
      bX0_keepSizes_45 g x0 x1 x2 x4 m
    else
      ck (gk g (m x0 3) = 20) <|
      ck ((0 : Int) ≤ x4 ∧ x4 < gl g (m x0 3)) <|
      ck ((0 : Int) ≤ x4 ∧ x4 < gl g x1) <|
      if (m (m x0 3) x4) = (m x1 x4) then
        bX0_keepSizes_46 g x0 x1 x2 x4 1 m
      else
        bX0_keepSizes_45 g x0 x1 x2 x4 m
def BX0_keepSizes_17 (g : Shp) (x0 x1 x2 : Int) (q : (Int × Int × Mem)) : Option (Int × (Int × Int × Mem)) := bX0_keepSizes_17 g x0 x1 x2 q.1 q.2.1 q.2.2
def bX0_keepSizes_77 (g : Shp) (x0 x4 : Int) (m : Mem) : Option (Int × (Int × Mem)) :=
  ck (gk g (m x0 1) = 26) <|
  if (gl g (m x0 1)) ≤ x4 then
    some (1, (x4, m))
  else
    ck ((0 : Int) ≤ x4 ∧ x4 < gl g (m x0 1)) <|
    ck (gk g (m (m x0 1) x4) = 3) <|
    vm (ms m (m (m x0 1) x4) 3 0) fun m5 =>
    vv (w32 (x4 + 1)) fun y6 =>
    some (0, (y6, m5))
def BX0_keepSizes_77 (g : Shp) (x0 : Int) (q : (Int × Mem)) : Option (Int × (Int × Mem)) := bX0_keepSizes_77 g x0 q.1 q.2
def bX0_keepSizes_104 (g : Shp) (m : Mem) : Option (Int × Mem) :=
  some (0, m)
def bX0_keepSizes_53 (g : Shp) (x0 x1 x2 x3 : Int) (m : Mem) : Option (Int × Mem) :=
  if x3 = 0 then
    ck (gk g (m x0 3) = 20) <|
    ck ((0 : Int) ≤ 0 ∧ (0 : Int) ≤ 0 ∧ (0 : Int) ≤ 3 ∧ 0 + 3 ≤ gl g x1 ∧ 0 + 3 ≤ gl g (m x0 3)) <|
    vm (mcp m x1 0 (m x0 3) 0 3) fun m4 =>
    vm (ms m4 x0 5 x2) fun m5 =>
    bdl (iter (BX0_keepSizes_77 g x0) 100000 (0, m5)) fun cv6 sv7 =>
    bX0_keepSizes_104 g sv7.2
  else
    some (0, m)
def bX0_keepSizes_13 (g : Shp) (x0 x1 x2 z0 : Int) (m : Mem) : Option (Int × Mem) :=
  bdl (iter (BX0_keepSizes_17 g x0 x1 x2) 100000 (z0, 0, m)) fun cv1 sv2 =>
  bX0_keepSizes_53 g x0 x1 x2 sv2.1 sv2.2.2
def bX0_keepSizes_0 (g : Shp) (x0 x1 x2 : Int) (m : Mem) : Option (Int × Mem) :=
  if (m x0 5) = x2 then
    bX0_keepSizes_13 g x0 x1 x2 1 m
  else
    bX0_keepSizes_13 g x0 x1 x2 0 m
def fX0_keepSizes (g : Shp) (x0 x1 x2 : Int) (m : Mem) : Option (Int × Mem) := bX0_keepSizes_0 g x0 x1 x2 m
def bX0_layingsOf_18 (g : Shp) (z0 z1 z2 : Int) (m : Mem) : Option (Int × Mem) :=
  ck ((0 : Int) ≤ (w32 (z1 + z2)) ∧ (w32 (z1 + z2)) < gl g z0) <|
  ck (gk g (m z0 (w32 (z1 + z2))) = 3) <|
  some (m z0 (w32 (z1 + z2)), m)
def bX0_layingsOf_0 (g : Shp) (x0 x1 x2 : Int) (m : Mem) : Option (Int × Mem) :=
  ck (gk g (m x0 1) = 26) <|
  if x2 = 0 then
    bX0_layingsOf_18 g (m x0 1) (w32 (2 * (w32 (x1 - 1)))) 0 m
  else
    bX0_layingsOf_18 g (m x0 1) (w32 (2 * (w32 (x1 - 1)))) 1 m
def fX0_layingsOf (g : Shp) (x0 x1 x2 : Int) (m : Mem) : Option (Int × Mem) := bX0_layingsOf_0 g x0 x1 x2 m
def bX0_cellsOf_24 (g : Shp) (z0 : Int) (m : Mem) : Option (Int × Mem) :=
  some (z0, m)
def bX0_cellsOf_0 (g : Shp) (x0 x1 : Int) (m : Mem) : Option (Int × Mem) :=
  ck (gk g (m x0 0) = 7) <|
  if (m (m x0 0) 2) ≤ x1 then
    bX0_cellsOf_24 g 0 m
  else
    ck (gk g (m (m x0 0) 0) = 20) <|
    ck ((0 : Int) ≤ x1 ∧ x1 < gl g (m (m x0 0) 0)) <|
    bX0_cellsOf_24 g (m (m (m x0 0) 0) x1) m
def fX0_cellsOf (g : Shp) (x0 x1 : Int) (m : Mem) : Option (Int × Mem) := bX0_cellsOf_0 g x0 x1 m
def bX2_stones_0 (g : Shp) (x0 x1 : Int) (m : Mem) : Option (Int × Mem) :=
  vv (w32 (x1 * 3)) fun y1 =>
  ck (gk g (m x0 0) = 20) <|
  ck ((0 : Int) ≤ y1 ∧ y1 < gl g (m x0 0)) <|
  ck ((0 : Int) ≤ (w32 (y1 + 1)) ∧ (w32 (y1 + 1)) < gl g (m x0 0)) <|
  ck ((0 : Int) ≤ (w32 (y1 + 2)) ∧ (w32 (y1 + 2)) < gl g (m x0 0)) <|
  some (w32 ((w32 ((m (m x0 0) y1) + (m (m x0 0) (w32 (y1 + 1))))) + (m (m x0 0) (w32 (y1 + 2)))), m)
def fX2_stones (g : Shp) (x0 x1 : Int) (m : Mem) : Option (Int × Mem) := bX2_stones_0 g x0 x1 m
def bX2_canBeTakenFrom_48 (g : Shp) (z0 : Int) (m : Mem) : Option (Int × Mem) :=
  ck (z0 = 0 ∨ z0 = 1) <|
  some (z0, m)
def bX2_canBeTakenFrom_47 (g : Shp) (m : Mem) : Option (Int × Mem) :=
  bX2_canBeTakenFrom_48 g 0 m
def bX2_canBeTakenFrom_0 (g : Shp) (x0 x1 x2 x3 x4 : Int) (m : Mem) : Option (Int × Mem) :=
  vv (w32 (x4 * 3)) fun y1 =>
  ck (gk g (m x0 0) = 20) <|
  ck ((0 : Int) ≤ y1 ∧ y1 < gl g (m x0 0)) <|
  if x1 < (m (m x0 0) y1) then
    bX2_canBeTakenFrom_47 g m
  else
    ck ((0 : Int) ≤ (w32 (y1 + 1)) ∧ (w32 (y1 + 1)) < gl g (m x0 0)) <|
    if x2 < (m (m x0 0) (w32 (y1 + 1))) then
      bX2_canBeTakenFrom_47 g m
    else
      ck ((0 : Int) ≤ (w32 (y1 + 2)) ∧ (w32 (y1 + 2)) < gl g (m x0 0)) <|
      if x3 < (m (m x0 0) (w32 (y1 + 2))) then
        bX2_canBeTakenFrom_47 g m
      else
        bX2_canBeTakenFrom_48 g 1 m
def fX2_canBeTakenFrom (g : Shp) (x0 x1 x2 x3 x4 : Int) (m : Mem) : Option (Int × Mem) := bX2_canBeTakenFrom_0 g x0 x1 x2 x3 x4 m
def bX0_worthOf_230 (fr : Shp → Int → Int → Int → Int → Int → Int → Mem → Option (Int × Mem)) (g : Shp) (x0 x1 x3 x4 x5 x6 x7 x8 x9 x10 : Int) (m : Mem) : Option (Int × (Int × Int × Mem)) :=
  vv (w32 (x10 + 1)) fun y1 =>
  some (0, (x9, y1, m))
def bX0_worthOf_107 (fr : Shp → Int → Int → Int → Int → Int → Int → Mem → Option (Int × Mem)) (g : Shp) (x0 x1 x3 x4 x5 x6 x7 x8 x9 x10 : Int) (m : Mem) : Option (Int × (Int × Int × Mem)) :=
  if (m x8 2) ≤ x10 then
    some (1, (x9, x10, m))
  else
    ck (gk g (m x8 1) = 20) <|
    ck ((0 : Int) ≤ x10 ∧ x10 < gl g (m x8 1)) <|
    bd2 (fX2_stones g x8 x10 m) fun v4 m5 =>
    vv (w32 ((w32 ((m (m x8 1) x10) * 32)) + v4)) fun y8 =>
    if x9 ≤ y8 then
      bX0_worthOf_230 fr g x0 x1 x3 x4 x5 x6 x7 x8 x9 x10 m5
    else
      bd2 (fX2_canBeTakenFrom g x8 x3 x4 x5 x10 m5) fun v10 m11 =>
      if v10 = 0 then
        bX0_worthOf_230 fr g x0 x1 x3 x4 x5 x6 x7 x8 x9 x10 m11
      else
        vv (w32 (x10 * 3)) fun y15 =>
        bd2 (fX0_cellsOf g x0 (w32 (x1 + 1)) m11) fun v16 m17 =>
        ck (gk g (m17 x8 0) = 20) <|
        ck ((0 : Int) ≤ y15 ∧ y15 < gl g (m17 x8 0)) <|
        ck ((0 : Int) ≤ (w32 (y15 + 1)) ∧ (w32 (y15 + 1)) < gl g (m17 x8 0)) <|
        ck ((0 : Int) ≤ (w32 (y15 + 2)) ∧ (w32 (y15 + 2)) < gl g (m17 x8 0)) <|
        bd2 (fr g x0 (w32 (x1 + 1)) v16 (w32 (x3 - (m17 (m17 x8 0) y15))) (w32 (x4 - (m17 (m17 x8 0) (w32 (y15 + 1))))) (w32 (x5 - (m17 (m17 x8 0) (w32 (y15 + 2))))) m17) fun v24 m25 =>
        vv (jmin x9 (w32 (y8 + v24))) fun y28 =>
        bX0_worthOf_230 fr g x0 x1 x3 x4 x5 x6 x7 x8 y28 x10 m25
def BX0_worthOf_107 (fr : Shp → Int → Int → Int → Int → Int → Int → Mem → Option (Int × Mem)) (g : Shp) (x0 x1 x3 x4 x5 x6 x7 x8 : Int) (q : (Int × Int × Mem)) : Option (Int × (Int × Int × Mem)) := bX0_worthOf_107 fr g x0 x1 x3 x4 x5 x6 x7 x8 q.1 q.2.1 q.2.2
def bX0_worthOf_17 (fr : Shp → Int → Int → Int → Int → Int → Int → Mem → Option (Int × Mem)) (g : Shp) (m : Mem) : Option (Int × Mem) :=
  some (0, m)
def bX0_worthOf_250 (fr : Shp → Int → Int → Int → Int → Int → Int → Mem → Option (Int × Mem)) (g : Shp) (x9 : Int) (m : Mem) : Option (Int × Mem) :=
  some (x9, m)
def bX0_worthOf_236 (fr : Shp → Int → Int → Int → Int → Int → Int → Mem → Option (Int × Mem)) (g : Shp) (x0 x6 x7 x9 : Int) (m : Mem) : Option (Int × Mem) :=
  if x7 = 0 then
    bX0_worthOf_250 fr g x9 m
  else
    ck (gk g (m x0 2) = 20) <|
    ck ((0 : Int) ≤ x6 ∧ x6 < gl g (m x0 2)) <|
    vm (ms m (m x0 2) x6 x9) fun m4 =>
    bX0_worthOf_250 fr g x9 m4
def bX0_worthOf_84 (fr : Shp → Int → Int → Int → Int → Int → Int → Mem → Option (Int × Mem)) (g : Shp) (x0 x1 x2 x3 x4 x5 x6 x7 : Int) (m : Mem) : Option (Int × Mem) :=
  ck (gk g (m x0 0) = 7) <|
  ck (gk g (m (m x0 0) 1) = 21) <|
  ck ((0 : Int) ≤ x1 ∧ x1 < gl g (m (m x0 0) 1)) <|
  bd2 (fX0_layingsOf g x0 x2 (m (m (m x0 0) 1) x1) m) fun v4 m5 =>
  ck (gk g v4 = 3) <|
  bdl (iter (BX0_worthOf_107 fr g x0 x1 x3 x4 x5 x6 x7 v4) 100000 (1048576, 0, m5)) fun cv9 sv10 =>
  bX0_worthOf_236 fr g x0 x6 x7 sv10.1 sv10.2.2
def bX0_worthOf_58 (fr : Shp → Int → Int → Int → Int → Int → Int → Mem → Option (Int × Mem)) (g : Shp) (x0 x1 x2 x3 x4 x5 x6 z0 : Int) (m : Mem) : Option (Int × Mem) :=
  if z0 = 0 then
    bX0_worthOf_84 fr g x0 x1 x2 x3 x4 x5 x6 z0 m
  else
    ck (gk g (m x0 2) = 20) <|
    ck ((0 : Int) ≤ x6 ∧ x6 < gl g (m x0 2)) <|
    if (m (m x0 2) x6) = ((-1)) then
      bX0_worthOf_84 fr g x0 x1 x2 x3 x4 x5 x6 z0 m
    else
      ck ((0 : Int) ≤ x6 ∧ x6 < gl g (m x0 2)) <|
      some (m (m x0 2) x6, m)
def bX0_worthOf_0 (fr : Shp → Int → Int → Int → Int → Int → Int → Mem → Option (Int × Mem)) (g : Shp) (x0 x1 x2 x3 x4 x5 : Int) (m : Mem) : Option (Int × Mem) :=
  ck (gk g (m x0 0) = 7) <|
  if (m (m x0 0) 2) ≤ x1 then
    bX0_worthOf_17 fr g m
  else
    if x1 < 18 then
      vv (w32 ((w32 ((w32 (x1 * 343)) + (w32 ((w32 ((w32 (x3 * 7)) + x4)) * 7)))) + x5)) fun y4 =>
      ck (gk g (m (m x0 0) 0) = 20) <|
      ck ((0 : Int) ≤ x1 ∧ x1 < gl g (m (m x0 0) 0)) <|
      if x2 = (m (m (m x0 0) 0) x1) then
        bX0_worthOf_58 fr g x0 x1 x2 x3 x4 x5 y4 1 m
      else
        bX0_worthOf_58 fr g x0 x1 x2 x3 x4 x5 y4 0 m
    else
      bX0_worthOf_17 fr g m
def fX0_worthOf : Nat → Shp → Int → Int → Int → Int → Int → Int → Mem → Option (Int × Mem)
  | 0, _, _, _, _, _, _, _, _ => none
  | d + 1, g, x0, x1, x2, x3, x4, x5, m => bX0_worthOf_0 (fX0_worthOf d) g x0 x1 x2 x3 x4 x5 m
def bX0_isAslant_52 (g : Shp) (z0 : Int) (m : Mem) : Option (Int × Mem) :=
  ck (z0 = 0 ∨ z0 = 1) <|
  some (z0, m)
def bX0_isAslant_51 (g : Shp) (m : Mem) : Option (Int × Mem) :=
  bX0_isAslant_52 g 0 m
def bX0_isAslant_19 (g : Shp) (x0 x1 z0 : Int) (m : Mem) : Option (Int × Mem) :=
  if x1 = (m x0 7) then
    ck (gk g (m x0 0) = 7) <|
    ck (gk g (m (m x0 0) 1) = 21) <|
    ck ((0 : Int) ≤ (m x0 6) ∧ (m x0 6) < gl g (m (m x0 0) 1)) <|
    if (m (m (m x0 0) 1) (m x0 6)) = 0 then
      bX0_isAslant_51 g m
    else
      if z0 = 0 then
        bX0_isAslant_52 g 1 m
      else
        bX0_isAslant_51 g m
  else
    bX0_isAslant_51 g m
def bX0_isAslant_18 (g : Shp) (x0 x1 : Int) (m : Mem) : Option (Int × Mem) :=
  bX0_isAslant_19 g x0 x1 0 m
def bX0_isAslant_0 (g : Shp) (x0 x1 x2 : Int) (m : Mem) : Option (Int × Mem) :=
  if x2 = 0 then
    ck (gk g (m x0 3) = 20) <|
    ck ((0 : Int) ≤ 0 ∧ 0 < gl g (m x0 3)) <|
    if x1 = (m (m x0 3) 0) then
      bX0_isAslant_19 g x0 x1 1 m
    else
      bX0_isAslant_18 g x0 x1 m
  else
    bX0_isAslant_18 g x0 x1 m
def fX0_isAslant (g : Shp) (x0 x1 x2 : Int) (m : Mem) : Option (Int × Mem) := bX0_isAslant_0 g x0 x1 x2 m
def bX0_ownWorth_29 (g : Shp) (z0 z1 : Int) (m : Mem) : Option (Int × Mem) :=
  vv (w32 (z0 + z1)) fun y1 =>
  some (w32 ((w32 (y1 * 32)) + 1), m)
def bX0_ownWorth_15 (g : Shp) (x0 x1 x2 z0 : Int) (m : Mem) : Option (Int × Mem) :=
  bd2 (fX0_isAslant g x0 x1 x2 m) fun v1 m2 =>
  if v1 = 0 then
    bX0_ownWorth_29 g z0 0 m2
  else
    bX0_ownWorth_29 g z0 1 m2
def bX0_ownWorth_0 (g : Shp) (x0 x1 x2 : Int) (m : Mem) : Option (Int × Mem) :=
  ck (gk g (m x0 3) = 20) <|
  ck ((0 : Int) ≤ x2 ∧ x2 < gl g (m x0 3)) <|
  if (m (m x0 3) x2) ≤ x1 then
    bX0_ownWorth_15 g x0 x1 x2 0 m
  else
    bX0_ownWorth_15 g x0 x1 x2 1 m
def fX0_ownWorth (g : Shp) (x0 x1 x2 : Int) (m : Mem) : Option (Int × Mem) := bX0_ownWorth_0 g x0 x1 x2 m
def bX0_isNext_141 (g : Shp) (z0 : Int) (m : Mem) : Option (Int × Mem) :=
  ck (z0 = 0 ∨ z0 = 1) <|
  some (z0, m)
def bX0_isNext_108 (g : Shp) (x0 x1 x2 z0 : Int) (m : Mem) : Option (Int × Mem) :=
  ck (gk g (m x0 4) = 20) <|
  ck ((0 : Int) ≤ x2 ∧ x2 < gl g (m x0 4)) <|
  ck ((0 : Int) ≤ x2 ∧ x2 < gl g (m x0 4)) <|
  vm (ms m (m x0 4) x2 (w32 ((m (m x0 4) x2) + 1))) fun m4 =>
  bd2 (fX0_ownWorth g x0 x1 x2 m4) fun v5 m6 =>
  if (w32 (v5 + z0)) = (m6 x0 8) then
    bX0_isNext_141 g 1 m6
  else
    bX0_isNext_141 g 0 m6
def bX0_isNext_21 (g : Shp) (x0 x1 x2 x3 : Int) (m : Mem) : Option (Int × Mem) :=
  ck (gk g (m x0 4) = 20) <|
  ck ((0 : Int) ≤ x2 ∧ x2 < gl g (m x0 4)) <|
  ck ((0 : Int) ≤ x2 ∧ x2 < gl g (m x0 4)) <|
  vm (ms m (m x0 4) x2 (w32 ((m (m x0 4) x2) - 1))) fun m4 =>
  if x3 = 0 then
    bd2 (fX0_cellsOf g x0 (w32 ((m4 x0 6) + 1)) m4) fun v6 m7 =>
    ck (gk g (m7 x0 4) = 20) <|
    ck ((0 : Int) ≤ 0 ∧ 0 < gl g (m7 x0 4)) <|
    ck ((0 : Int) ≤ 1 ∧ 1 < gl g (m7 x0 4)) <|
    ck ((0 : Int) ≤ 2 ∧ 2 < gl g (m7 x0 4)) <|
    bd2 (fX0_worthOf 24 g x0 (w32 ((m4 x0 6) + 1)) v6 (m7 (m7 x0 4) 0) (m7 (m7 x0 4) 1) (m7 (m7 x0 4) 2) m7) fun v14 m15 =>
    bX0_isNext_108 g x0 x1 x2 v14 m15
  else
    ck (gk g (m4 x0 4) = 20) <|
    ck ((0 : Int) ≤ 0 ∧ 0 < gl g (m4 x0 4)) <|
    ck ((0 : Int) ≤ 1 ∧ 1 < gl g (m4 x0 4)) <|
    ck ((0 : Int) ≤ 2 ∧ 2 < gl g (m4 x0 4)) <|
    bd2 (fX0_worthOf 24 g x0 (m4 x0 6) (w32 (x3 - (m4 x0 5))) (m4 (m4 x0 4) 0) (m4 (m4 x0 4) 1) (m4 (m4 x0 4) 2) m4) fun v22 m23 =>
    bX0_isNext_108 g x0 x1 x2 v22 m23
def bX0_isNext_0 (g : Shp) (x0 x1 x2 : Int) (m : Mem) : Option (Int × Mem) :=
  vv (w32 ((m x0 7) - x1)) fun y1 =>
  if y1 ≤ 0 then
    bX0_isNext_21 g x0 x1 x2 y1 m
  else
    if (m x0 5) < y1 then
      bX0_isNext_21 g x0 x1 x2 y1 m
    else
      some (0, m)
def fX0_isNext (g : Shp) (x0 x1 x2 : Int) (m : Mem) : Option (Int × Mem) := bX0_isNext_0 g x0 x1 x2 m
def bX9_add_115 (g : Shp) (m : Mem) : Option (Int × Mem) :=
  some (0, m)
def bX9_add_92 (g : Shp) (x0 x1 : Int) (m : Mem) : Option (Int × Mem) :=
  vm (ms m x0 3 (w32 ((m x0 3) + x1))) fun m1 =>
  bX9_add_115 g m1
def bX9_add_48 (g : Shp) (x0 x1 x2 x3 x4 x5 z0 z1 z2 z3 : Int) (m : Mem) : Option (Int × Mem) :=
  ck ((0 : Int) ≤ z1 ∧ z1 < gl g z0) <|
  vm (ms m z0 z1 (w32 (z2 + z3))) fun m2 =>
  vm (ms m2 x0 4 (w32 ((m2 x0 4) + 1))) fun m3 =>
  ck (gk g (m3 x0 1) = 20) <|
  ck ((0 : Int) ≤ x2 ∧ x2 < gl g (m3 x0 1)) <|
  ck ((0 : Int) ≤ x2 ∧ x2 < gl g (m3 x0 1)) <|
  vm (ms m3 (m3 x0 1) x2 (w32 ((m3 (m3 x0 1) x2) + 1))) fun m7 =>
  vm (ms m7 x0 6 (w32 ((m7 x0 6) + (w32 (x3 - x1))))) fun m8 =>
  if x5 = 0 then
    if x4 = 0 then
      ck (gk g (m8 x0 2) = 20) <|
      ck ((0 : Int) ≤ x2 ∧ x2 < gl g (m8 x0 2)) <|
      ck ((0 : Int) ≤ x2 ∧ x2 < gl g (m8 x0 2)) <|
      vm (ms m8 (m8 x0 2) x2 (w32 ((m8 (m8 x0 2) x2) + 1))) fun m14 =>
      bX9_add_115 g m14
    else
      bX9_add_92 g x0 x1 m8
  else
    bX9_add_92 g x0 x1 m8
def bX9_add_20 (g : Shp) (x0 x1 x2 x3 x4 z0 : Int) (m : Mem) : Option (Int × Mem) :=
  ck (gk g (m x0 0) = 20) <|
  if z0 = 0 then
    bX9_add_48 g x0 x1 x2 x3 x4 z0 (m x0 0) (m x0 4) (w32 ((w32 (20 * x1)) + (w32 (2 * x2)))) 0 m
  else
    bX9_add_48 g x0 x1 x2 x3 x4 z0 (m x0 0) (m x0 4) (w32 ((w32 (20 * x1)) + (w32 (2 * x2)))) 1 m
def bX9_add_0 (g : Shp) (x0 x1 x2 x3 x4 : Int) (m : Mem) : Option (Int × Mem) :=
  if (m x0 4) < 18 then
    if x3 ≤ x1 then
      bX9_add_20 g x0 x1 x2 x3 x4 0 m
    else
      bX9_add_20 g x0 x1 x2 x3 x4 1 m
  else
    some (0, m)
def fX9_add (g : Shp) (x0 x1 x2 x3 x4 : Int) (m : Mem) : Option (Int × Mem) := bX9_add_0 g x0 x1 x2 x3 x4 m
def bX0_goBehind_48 (g : Shp) (m : Mem) : Option (Int × Mem) :=
  some (0, m)
def bX0_goBehind_0 (g : Shp) (x0 x1 : Int) (m : Mem) : Option (Int × Mem) :=
  if x1 = (m x0 7) then
    vm (ms m x0 6 (w32 ((m x0 6) + 1))) fun m2 =>
    bd2 (fX0_cellsOf g x0 (m2 x0 6) m2) fun v3 m4 =>
    vm (ms m4 x0 7 v3) fun m7 =>
    bX0_goBehind_48 g m7
  else
    vm (ms m x0 7 (w32 ((m x0 7) - (w32 (x1 + (m x0 5)))))) fun m8 =>
    bX0_goBehind_48 g m8
def fX0_goBehind (g : Shp) (x0 x1 : Int) (m : Mem) : Option (Int × Mem) := bX0_goBehind_0 g x0 x1 m
set_option maxRecDepth 20000 in
theorem wX0_keepSizes_46 {p : Program} {l : Launch} {e : Env} {s : State} {mt : MethodId} {args : Array Value} {below : List Frame} {meth : Method} {c : Code} {Q : State → Prop} {G : Gl} {A : Nat → Prop} {H0 : Heap} {ad : Int → Nat} {g : Shp} {H : Heap} {locs : List Loc} {ls : Array Slot} {m : Mem} {x0 x1 x2 x4 z0 : Int} (C : CallFix p mt c cX0_keepSizes 5 s args tb RX0) (S : Wd G A s H0 ad g m H locs) (hx0 : gk g x0 = 1) (hx1 : gk g x1 = 20) (hx2 : r32 x2) (hx4 : r32 x4) (hz0 : r32 z0) (hl : lv_has ls 5 [(0, .ref (ad x0)), (1, .ref (ad x1)), (2, .int (iI x2)), (4, .int (iI x4))]) {c1 : Int} {s1 : (Int × Int × Mem)} (hF : bX0_keepSizes_46 g x0 x1 x2 x4 z0 m = some (c1, s1)) (K0 : c1 = 0 → ∀ (H : Heap) (locs : List Loc) (ls : Array Slot), r32 s1.1 → r32 s1.2.1 → Wd G A s H0 ad g s1.2.2 H locs → lv_has ls 5 [(0, .ref (ad x0)), (1, .ref (ad x1)), (2, .int (iI x2)), (3, .int (iI s1.1)), (4, .int (iI s1.2.1))] → W p l e rX0_keepSizes s mt args below meth c H locs 0 0 Q (F0 mt 17 ls [])) (K1 : c1 = 1 → ∀ (H : Heap) (locs : List Loc) (ls : Array Slot), r32 s1.1 → Wd G A s H0 ad g s1.2.2 H locs → lv_has ls 5 [(0, .ref (ad x0)), (1, .ref (ad x1)), (2, .int (iI x2)), (3, .int (iI s1.1))] → W p l e rX0_keepSizes s mt args below meth c H locs 0 0 Q (F0 mt 53 ls [])) : W p l e rX0_keepSizes s mt args below meth c H locs 0 0 Q (F0 mt 46 ls [.int (iI z0)]) := by
  unfold bX0_keepSizes_46 at hF
  refine q_istore_n C hl [(3, .int (iI z0)), (0, .ref (ad x0)), (1, .ref (ad x1)), (2, .int (iI x2)), (4, .int (iI x4))] rfl rfl (by decide) rfl dX0_keepSizes_46 (fun ls hl => ?_)
  obtain ⟨y1, ey1, hF⟩ := vv_ok hF
  have ry1 : r32 y1 := ey1 ▸ r32_w _
  refine q_iinc C hl 4 [(4, .int (iI y1)), (3, .int (iI z0)), (0, .ref (ad x0)), (1, .ref (ad x1)), (2, .int (iI x2))] rfl ey1 (by decide) rfl dX0_keepSizes_47 (fun ls hl => ?_)
  refine q_goto C 17 dX0_keepSizes_50 (by decide) ?_
  cases hF
  exact K0 rfl _ _ _ hz0 ry1 S (lv_sub hl [2, 3, 4, 1, 0] rfl)
set_option maxRecDepth 20000 in
theorem wX0_keepSizes_45 {p : Program} {l : Launch} {e : Env} {s : State} {mt : MethodId} {args : Array Value} {below : List Frame} {meth : Method} {c : Code} {Q : State → Prop} {G : Gl} {A : Nat → Prop} {H0 : Heap} {ad : Int → Nat} {g : Shp} {H : Heap} {locs : List Loc} {ls : Array Slot} {m : Mem} {x0 x1 x2 x4 : Int} (C : CallFix p mt c cX0_keepSizes 5 s args tb RX0) (S : Wd G A s H0 ad g m H locs) (hx0 : gk g x0 = 1) (hx1 : gk g x1 = 20) (hx2 : r32 x2) (hx4 : r32 x4) (hl : lv_has ls 5 [(0, .ref (ad x0)), (1, .ref (ad x1)), (2, .int (iI x2)), (4, .int (iI x4))]) {c1 : Int} {s1 : (Int × Int × Mem)} (hF : bX0_keepSizes_45 g x0 x1 x2 x4 m = some (c1, s1)) (K0 : c1 = 0 → ∀ (H : Heap) (locs : List Loc) (ls : Array Slot), r32 s1.1 → r32 s1.2.1 → Wd G A s H0 ad g s1.2.2 H locs → lv_has ls 5 [(0, .ref (ad x0)), (1, .ref (ad x1)), (2, .int (iI x2)), (3, .int (iI s1.1)), (4, .int (iI s1.2.1))] → W p l e rX0_keepSizes s mt args below meth c H locs 0 0 Q (F0 mt 17 ls [])) (K1 : c1 = 1 → ∀ (H : Heap) (locs : List Loc) (ls : Array Slot), r32 s1.1 → Wd G A s H0 ad g s1.2.2 H locs → lv_has ls 5 [(0, .ref (ad x0)), (1, .ref (ad x1)), (2, .int (iI x2)), (3, .int (iI s1.1))] → W p l e rX0_keepSizes s mt args below meth c H locs 0 0 Q (F0 mt 53 ls [])) : W p l e rX0_keepSizes s mt args below meth c H locs 0 0 Q (F0 mt 45 ls []) := by
  unfold bX0_keepSizes_45 at hF
  refine q_iconst C 0 dX0_keepSizes_45 ?_
  exact wX0_keepSizes_46 C S hx0 hx1 hx2 hx4 (rl 0 rfl) (lv_sub hl [0, 1, 2, 3] rfl) hF K0 K1
set_option maxRecDepth 20000 in
theorem wX0_keepSizes_17 {p : Program} {l : Launch} {e : Env} {s : State} {mt : MethodId} {args : Array Value} {below : List Frame} {meth : Method} {c : Code} {Q : State → Prop} {G : Gl} {A : Nat → Prop} {H0 : Heap} {ad : Int → Nat} {g : Shp} {H : Heap} {locs : List Loc} {ls : Array Slot} {m : Mem} {x0 x1 x2 x3 x4 : Int} (C : CallFix p mt c cX0_keepSizes 5 s args tb RX0) (S : Wd G A s H0 ad g m H locs) (hx0 : gk g x0 = 1) (hx1 : gk g x1 = 20) (hx2 : r32 x2) (hx3 : r32 x3) (hx4 : r32 x4) (hl : lv_has ls 5 [(0, .ref (ad x0)), (1, .ref (ad x1)), (2, .int (iI x2)), (3, .int (iI x3)), (4, .int (iI x4))]) {c1 : Int} {s1 : (Int × Int × Mem)} (hF : bX0_keepSizes_17 g x0 x1 x2 x3 x4 m = some (c1, s1)) (K0 : c1 = 0 → ∀ (H : Heap) (locs : List Loc) (ls : Array Slot), r32 s1.1 → r32 s1.2.1 → Wd G A s H0 ad g s1.2.2 H locs → lv_has ls 5 [(0, .ref (ad x0)), (1, .ref (ad x1)), (2, .int (iI x2)), (3, .int (iI s1.1)), (4, .int (iI s1.2.1))] → W p l e rX0_keepSizes s mt args below meth c H locs 0 0 Q (F0 mt 17 ls [])) (K1 : c1 = 1 → ∀ (H : Heap) (locs : List Loc) (ls : Array Slot), r32 s1.1 → Wd G A s H0 ad g s1.2.2 H locs → lv_has ls 5 [(0, .ref (ad x0)), (1, .ref (ad x1)), (2, .int (iI x2)), (3, .int (iI s1.1))] → W p l e rX0_keepSizes s mt args below meth c H locs 0 0 Q (F0 mt 53 ls [])) : W p l e rX0_keepSizes s mt args below meth c H locs 0 0 Q (F0 mt 17 ls []) := by
  unfold bX0_keepSizes_17 at hF
  refine q_iload C hl 4 rfl dX0_keepSizes_17 ?_
  refine q_iconst C 3 dX0_keepSizes_19 ?_
  refine q_icmp_ge C hx4 (rl 3 rfl) 53 dX0_keepSizes_20 (by decide) (fun hc1 => ?_) (fun hc1 => ?_)
  · have hF := if_t hc1 hF
    cases hF
    exact K1 rfl _ _ _ hx3 S (lv_sub hl [0, 1, 2, 3] rfl)
  · have hF := if_f hc1 hF
    refine q_iload_n C hl 3 rfl rfl dX0_keepSizes_23 ?_
    refine q_if_eq C hx3 45 dX0_keepSizes_24 (by decide) (fun hc2 => ?_) (fun hc2 => ?_)
    · have hF := if_t hc2 hF
      exact wX0_keepSizes_45 C S hx0 hx1 hx2 hx4 (lv_sub hl [0, 1, 2, 4] rfl) hF K0 K1
    · have hF := if_f hc2 hF
      refine q_aload_n C hl 0 rfl rfl dX0_keepSizes_27 ?_
      obtain ⟨k3, hF⟩ := ck_ok hF
      refine q_getr C S 3 fo_RX0_28 (j := 3) rfl rfl hx0 k3 (by decide) dX0_keepSizes_28 ?_
      refine q_iload C hl 4 rfl dX0_keepSizes_31 ?_
      obtain ⟨i4, hF⟩ := ck_ok hF
      refine q_iald C S k3 i4 dX0_keepSizes_33 ?_
      refine q_aload_n C hl 1 rfl rfl dX0_keepSizes_34 ?_
      refine q_iload C hl 4 rfl dX0_keepSizes_35 ?_
      obtain ⟨i5, hF⟩ := ck_ok hF
      refine q_iald C S hx1 i5 dX0_keepSizes_37 ?_
      refine q_icmp_ne C (S.r _ _) (S.r _ _) 45 dX0_keepSizes_38 (by decide) (fun hc6 => ?_) (fun hc6 => ?_)
      · have hF := if_t hc6 hF
        refine q_iconst C 1 dX0_keepSizes_41 ?_
        refine q_goto C 46 dX0_keepSizes_42 (by decide) ?_
        exact wX0_keepSizes_46 C S hx0 hx1 hx2 hx4 (rl 1 rfl) (lv_sub hl [0, 1, 2, 4] rfl) hF K0 K1
      · have hF := if_f hc6 hF
        exact wX0_keepSizes_45 C S hx0 hx1 hx2 hx4 (lv_sub hl [0, 1, 2, 4] rfl) hF K0 K1
set_option maxRecDepth 20000 in
theorem lX0_keepSizes_17 {p : Program} {l : Launch} {e : Env} {s : State} {mt : MethodId} {args : Array Value} {below : List Frame} {meth : Method} {c : Code} {Q : State → Prop} {G : Gl} {A : Nat → Prop} {H0 : Heap} {ad : Int → Nat} {g : Shp} {x0 x1 x2 : Int} (C : CallFix p mt c cX0_keepSizes 5 s args tb RX0) (hx0 : gk g x0 = 1) (hx1 : gk g x1 = 20) (hx2 : r32 x2) {n : Nat} {s0 s1 : (Int × Int × Mem)} {c1 : Int} (hI : iter (BX0_keepSizes_17 g x0 x1 x2) n s0 = some (c1, s1)) (K1 : c1 = 1 → ∀ (H : Heap) (locs : List Loc) (ls : Array Slot), r32 s1.1 → Wd G A s H0 ad g s1.2.2 H locs → lv_has ls 5 [(0, .ref (ad x0)), (1, .ref (ad x1)), (2, .int (iI x2)), (3, .int (iI s1.1))] → W p l e rX0_keepSizes s mt args below meth c H locs 0 0 Q (F0 mt 53 ls [])) : ∀ (H : Heap) (locs : List Loc) (ls : Array Slot), r32 s0.1 → r32 s0.2.1 → Wd G A s H0 ad g s0.2.2 H locs → lv_has ls 5 [(0, .ref (ad x0)), (1, .ref (ad x1)), (2, .int (iI x2)), (3, .int (iI s0.1)), (4, .int (iI s0.2.1))] → W p l e rX0_keepSizes s mt args below meth c H locs 0 0 Q (F0 mt 17 ls []) :=
  iter_W (Pw := fun q => ∀ (H : Heap) (locs : List Loc) (ls : Array Slot), r32 q.1 → r32 q.2.1 → Wd G A s H0 ad g q.2.2 H locs → lv_has ls 5 [(0, .ref (ad x0)), (1, .ref (ad x1)), (2, .int (iI x2)), (3, .int (iI q.1)), (4, .int (iI q.2.1))] → W p l e rX0_keepSizes s mt args below meth c H locs 0 0 Q (F0 mt 17 ls [])) (Px := fun c0 q => (c0 = 1 → ∀ (H : Heap) (locs : List Loc) (ls : Array Slot), r32 q.1 → Wd G A s H0 ad g q.2.2 H locs → lv_has ls 5 [(0, .ref (ad x0)), (1, .ref (ad x1)), (2, .int (iI x2)), (3, .int (iI q.1))] → W p l e rX0_keepSizes s mt args below meth c H locs 0 0 Q (F0 mt 53 ls [])))
    (fun s c s' hB K0 kx H locs ls f0 f1 S hl => wX0_keepSizes_17 C S hx0 hx1 hx2 f0 f1 hl hB K0 (fun h9 => (kx (by rw [h9]; decide)) h9)) _ _ _ _ hI K1
set_option maxRecDepth 20000 in
theorem wX0_keepSizes_77 {p : Program} {l : Launch} {e : Env} {s : State} {mt : MethodId} {args : Array Value} {below : List Frame} {meth : Method} {c : Code} {Q : State → Prop} {G : Gl} {A : Nat → Prop} {H0 : Heap} {ad : Int → Nat} {g : Shp} {H : Heap} {locs : List Loc} {ls : Array Slot} {m : Mem} {x0 x4 : Int} (C : CallFix p mt c cX0_keepSizes 5 s args tb RX0) (S : Wd G A s H0 ad g m H locs) (hx0 : gk g x0 = 1) (hx4 : r32 x4) (hl : lv_has ls 5 [(0, .ref (ad x0)), (4, .int (iI x4))]) {c1 : Int} {s1 : (Int × Mem)} (hF : bX0_keepSizes_77 g x0 x4 m = some (c1, s1)) (K0 : c1 = 0 → ∀ (H : Heap) (locs : List Loc) (ls : Array Slot), r32 s1.1 → Wd G A s H0 ad g s1.2 H locs → lv_has ls 5 [(0, .ref (ad x0)), (4, .int (iI s1.1))] → W p l e rX0_keepSizes s mt args below meth c H locs 0 0 Q (F0 mt 77 ls [])) (K1 : c1 = 1 → ∀ (H : Heap) (locs : List Loc) (ls : Array Slot), Wd G A s H0 ad g s1.2 H locs → lv_has ls 5 [] → W p l e rX0_keepSizes s mt args below meth c H locs 0 0 Q (F0 mt 104 ls [])) : W p l e rX0_keepSizes s mt args below meth c H locs 0 0 Q (F0 mt 77 ls []) := by
  unfold bX0_keepSizes_77 at hF
  refine q_iload C hl 1 rfl dX0_keepSizes_77 ?_
  refine q_aload_n C hl 0 rfl rfl dX0_keepSizes_79 ?_
  obtain ⟨k1, hF⟩ := ck_ok hF
  refine q_getr C S 1 fo_RX0_20 (j := 1) rfl rfl hx0 k1 (by decide) dX0_keepSizes_80 ?_
  refine q_alen C S k1 (by decide) dX0_keepSizes_83 ?_
  refine q_icmp_ge C hx4 (S.l _) 104 dX0_keepSizes_84 (by decide) (fun hc2 => ?_) (fun hc2 => ?_)
  · have hF := if_t hc2 hF
    cases hF
    exact K1 rfl _ _ _  S (lv_sub hl [] rfl)
  · have hF := if_f hc2 hF
    refine q_aload_n C hl 0 rfl rfl dX0_keepSizes_87 ?_
    refine q_getr C S 1 fo_RX0_20 (j := 1) rfl rfl hx0 k1 (by decide) dX0_keepSizes_88 ?_
    refine q_iload C hl 1 rfl dX0_keepSizes_91 ?_
    obtain ⟨i3, hF⟩ := ck_ok hF
    obtain ⟨k4, hF⟩ := ck_ok hF
    refine q_aald C S k1 (by decide) i3 k4 (by decide) dX0_keepSizes_93 ?_
    refine q_iconst C 0 dX0_keepSizes_94 ?_
    obtain ⟨m5, em5, hF⟩ := vm_ok hF
    refine q_put C S 3 fo_RX0_71 fp_3_3 (fun h9 => absurd h9 (by decide)) (j := 3) rfl k4 rfl (nr_b b_0) (ft_b b_0) (rl 0 rfl) (fun h9 => absurd h9 (by decide)) em5 dX0_keepSizes_95 (fun H locs Sm5 => ?_)
    obtain ⟨y6, ey6, hF⟩ := vv_ok hF
    have ry6 : r32 y6 := ey6 ▸ r32_w _
    refine q_iinc C hl 1 [(4, .int (iI y6)), (0, .ref (ad x0))] rfl ey6 (by decide) rfl dX0_keepSizes_98 (fun ls hl => ?_)
    refine q_goto C 77 dX0_keepSizes_101 (by decide) ?_
    cases hF
    exact K0 rfl _ _ _ ry6 Sm5 (lv_sub hl [1, 0] rfl)
set_option maxRecDepth 20000 in
theorem lX0_keepSizes_77 {p : Program} {l : Launch} {e : Env} {s : State} {mt : MethodId} {args : Array Value} {below : List Frame} {meth : Method} {c : Code} {Q : State → Prop} {G : Gl} {A : Nat → Prop} {H0 : Heap} {ad : Int → Nat} {g : Shp} {x0 : Int} (C : CallFix p mt c cX0_keepSizes 5 s args tb RX0) (hx0 : gk g x0 = 1) {n : Nat} {s0 s1 : (Int × Mem)} {c1 : Int} (hI : iter (BX0_keepSizes_77 g x0) n s0 = some (c1, s1)) (K1 : c1 = 1 → ∀ (H : Heap) (locs : List Loc) (ls : Array Slot), Wd G A s H0 ad g s1.2 H locs → lv_has ls 5 [] → W p l e rX0_keepSizes s mt args below meth c H locs 0 0 Q (F0 mt 104 ls [])) : ∀ (H : Heap) (locs : List Loc) (ls : Array Slot), r32 s0.1 → Wd G A s H0 ad g s0.2 H locs → lv_has ls 5 [(0, .ref (ad x0)), (4, .int (iI s0.1))] → W p l e rX0_keepSizes s mt args below meth c H locs 0 0 Q (F0 mt 77 ls []) :=
  iter_W (Pw := fun q => ∀ (H : Heap) (locs : List Loc) (ls : Array Slot), r32 q.1 → Wd G A s H0 ad g q.2 H locs → lv_has ls 5 [(0, .ref (ad x0)), (4, .int (iI q.1))] → W p l e rX0_keepSizes s mt args below meth c H locs 0 0 Q (F0 mt 77 ls [])) (Px := fun c0 q => (c0 = 1 → ∀ (H : Heap) (locs : List Loc) (ls : Array Slot), Wd G A s H0 ad g q.2 H locs → lv_has ls 5 [] → W p l e rX0_keepSizes s mt args below meth c H locs 0 0 Q (F0 mt 104 ls [])))
    (fun s c s' hB K0 kx H locs ls f0 S hl => wX0_keepSizes_77 C S hx0 f0 hl hB K0 (fun h9 => (kx (by rw [h9]; decide)) h9)) _ _ _ _ hI K1
set_option maxRecDepth 20000 in
theorem wX0_keepSizes_104 {p : Program} {l : Launch} {e : Env} {s : State} {mt : MethodId} {args : Array Value} {below : List Frame} {meth : Method} {c : Code} {Q : State → Prop} {G : Gl} {A : Nat → Prop} {H0 : Heap} {ad : Int → Nat} {g : Shp} {H : Heap} {locs : List Loc} {ls : Array Slot} {m : Mem} (C : CallFix p mt c cX0_keepSizes 5 s args tb RX0) (S : Wd G A s H0 ad g m H locs)  (hl : lv_has ls 5 []) {r : Int} {m' : Mem} (hF : bX0_keepSizes_104 g m = some (r, m')) (Kr : ∀ (H : Heap) (locs : List Loc) (pc : Nat) (ls : Array Slot), Wd G A s H0 ad g m' H locs → decode cX0_keepSizes pc = .ok (.return_, 1) → W p l e rX0_keepSizes s mt args below meth c H locs 0 0 Q (F0 mt pc ls [])) : W p l e rX0_keepSizes s mt args below meth c H locs 0 0 Q (F0 mt 104 ls []) := by
  unfold bX0_keepSizes_104 at hF
  cases hF
  exact Kr _ _ _ _ S dX0_keepSizes_104
set_option maxRecDepth 20000 in
theorem wX0_keepSizes_53 {p : Program} {l : Launch} {e : Env} {s : State} {mt : MethodId} {args : Array Value} {below : List Frame} {meth : Method} {c : Code} {Q : State → Prop} {G : Gl} {A : Nat → Prop} {H0 : Heap} {ad : Int → Nat} {g : Shp} {H : Heap} {locs : List Loc} {ls : Array Slot} {m : Mem} {x0 x1 x2 x3 : Int} (C : CallFix p mt c cX0_keepSizes 5 s args tb RX0) (S : Wd G A s H0 ad g m H locs) (hx0 : gk g x0 = 1) (hx1 : gk g x1 = 20) (hx2 : r32 x2) (hx3 : r32 x3) (hl : lv_has ls 5 [(0, .ref (ad x0)), (1, .ref (ad x1)), (2, .int (iI x2)), (3, .int (iI x3))]) {r : Int} {m' : Mem} (hF : bX0_keepSizes_53 g x0 x1 x2 x3 m = some (r, m')) (Kr : ∀ (H : Heap) (locs : List Loc) (pc : Nat) (ls : Array Slot), Wd G A s H0 ad g m' H locs → decode cX0_keepSizes pc = .ok (.return_, 1) → W p l e rX0_keepSizes s mt args below meth c H locs 0 0 Q (F0 mt pc ls [])) : W p l e rX0_keepSizes s mt args below meth c H locs 0 0 Q (F0 mt 53 ls []) := by
  unfold bX0_keepSizes_53 at hF
  refine q_iload_n C hl 3 rfl rfl dX0_keepSizes_53 ?_
  refine q_if_eq C hx3 58 dX0_keepSizes_54 (by decide) (fun hc1 => ?_) (fun hc1 => ?_)
  · have hF := if_t hc1 hF
    refine q_aload_n C hl 1 rfl rfl dX0_keepSizes_58 ?_
    refine q_iconst C 0 dX0_keepSizes_59 ?_
    refine q_aload_n C hl 0 rfl rfl dX0_keepSizes_60 ?_
    obtain ⟨k2, hF⟩ := ck_ok hF
    refine q_getr C S 3 fo_RX0_28 (j := 3) rfl rfl hx0 k2 (by decide) dX0_keepSizes_61 ?_
    refine q_iconst C 0 dX0_keepSizes_64 ?_
    refine q_iconst C 3 dX0_keepSizes_65 ?_
    obtain ⟨h3, hF⟩ := ck_ok hF
    obtain ⟨m4, em4, hF⟩ := vm_ok hF
    refine q_acopy C S ⟨tw690, tw517, tw516, tw80⟩ hl.1 hx1 k2 h3.1 h3.2.1 h3.2.2.1 h3.2.2.2.1 h3.2.2.2.2 (by decide) (by decide) em4 dX0_keepSizes_66 (fun H locs Sm4 => ?_)
    refine q_aload_n C hl 0 rfl rfl dX0_keepSizes_69 ?_
    refine q_iload_n C hl 2 rfl rfl dX0_keepSizes_70 ?_
    obtain ⟨m5, em5, hF⟩ := vm_ok hF
    refine q_put C Sm4 5 fo_RX0_75 fp_1_5 (fun h9 => absurd h9 (by decide)) (j := 5) rfl hx0 rfl rfl rfl hx2 (fun h9 => absurd h9 (by decide)) em5 dX0_keepSizes_71 (fun H locs Sm5 => ?_)
    refine q_iconst C 0 dX0_keepSizes_74 ?_
    refine q_istore C hl [(4, .int (iI 0)), (0, .ref (ad x0)), (1, .ref (ad x1)), (2, .int (iI x2)), (3, .int (iI x3))] rfl (by decide) rfl dX0_keepSizes_75 (fun ls hl => ?_)
    obtain ⟨cv6, sv7, hi8, hF⟩ := bdl_ok hF
    refine lX0_keepSizes_77 C hx0 hi8 ?_ _ _ _ (rl 0 rfl) Sm5 (lv_sub hl [1, 0] rfl)
    intro _ H locs ls  S9 hl
    exact wX0_keepSizes_104 C S9  (lv_sub hl [] rfl) hF Kr
  · have hF := if_f hc1 hF
    cases hF
    exact Kr _ _ _ _ S dX0_keepSizes_57
set_option maxRecDepth 20000 in
theorem wX0_keepSizes_13 {p : Program} {l : Launch} {e : Env} {s : State} {mt : MethodId} {args : Array Value} {below : List Frame} {meth : Method} {c : Code} {Q : State → Prop} {G : Gl} {A : Nat → Prop} {H0 : Heap} {ad : Int → Nat} {g : Shp} {H : Heap} {locs : List Loc} {ls : Array Slot} {m : Mem} {x0 x1 x2 z0 : Int} (C : CallFix p mt c cX0_keepSizes 5 s args tb RX0) (S : Wd G A s H0 ad g m H locs) (hx0 : gk g x0 = 1) (hx1 : gk g x1 = 20) (hx2 : r32 x2) (hz0 : r32 z0) (hl : lv_has ls 5 [(0, .ref (ad x0)), (1, .ref (ad x1)), (2, .int (iI x2))]) {r : Int} {m' : Mem} (hF : bX0_keepSizes_13 g x0 x1 x2 z0 m = some (r, m')) (Kr : ∀ (H : Heap) (locs : List Loc) (pc : Nat) (ls : Array Slot), Wd G A s H0 ad g m' H locs → decode cX0_keepSizes pc = .ok (.return_, 1) → W p l e rX0_keepSizes s mt args below meth c H locs 0 0 Q (F0 mt pc ls [])) : W p l e rX0_keepSizes s mt args below meth c H locs 0 0 Q (F0 mt 13 ls [.int (iI z0)]) := by
  unfold bX0_keepSizes_13 at hF
  refine q_istore_n C hl [(3, .int (iI z0)), (0, .ref (ad x0)), (1, .ref (ad x1)), (2, .int (iI x2))] rfl rfl (by decide) rfl dX0_keepSizes_13 (fun ls hl => ?_)
  refine q_iconst C 0 dX0_keepSizes_14 ?_
  refine q_istore C hl [(4, .int (iI 0)), (3, .int (iI z0)), (0, .ref (ad x0)), (1, .ref (ad x1)), (2, .int (iI x2))] rfl (by decide) rfl dX0_keepSizes_15 (fun ls hl => ?_)
  obtain ⟨cv1, sv2, hi3, hF⟩ := bdl_ok hF
  refine lX0_keepSizes_17 C hx0 hx1 hx2 hi3 ?_ _ _ _ hz0 (rl 0 rfl) S (lv_sub hl [2, 3, 4, 1, 0] rfl)
  intro _ H locs ls f5 S4 hl
  exact wX0_keepSizes_53 C S4 hx0 hx1 hx2 f5 (lv_sub hl [0, 1, 2, 3] rfl) hF Kr
set_option maxRecDepth 20000 in
theorem wX0_keepSizes_0 {p : Program} {l : Launch} {e : Env} {s : State} {mt : MethodId} {args : Array Value} {below : List Frame} {meth : Method} {c : Code} {Q : State → Prop} {G : Gl} {A : Nat → Prop} {H0 : Heap} {ad : Int → Nat} {g : Shp} {H : Heap} {locs : List Loc} {ls : Array Slot} {m : Mem} {x0 x1 x2 : Int} (C : CallFix p mt c cX0_keepSizes 5 s args tb RX0) (S : Wd G A s H0 ad g m H locs) (hx0 : gk g x0 = 1) (hx1 : gk g x1 = 20) (hx2 : r32 x2) (hl : lv_has ls 5 [(0, .ref (ad x0)), (1, .ref (ad x1)), (2, .int (iI x2))]) {r : Int} {m' : Mem} (hF : bX0_keepSizes_0 g x0 x1 x2 m = some (r, m')) (Kr : ∀ (H : Heap) (locs : List Loc) (pc : Nat) (ls : Array Slot), Wd G A s H0 ad g m' H locs → decode cX0_keepSizes pc = .ok (.return_, 1) → W p l e rX0_keepSizes s mt args below meth c H locs 0 0 Q (F0 mt pc ls [])) : W p l e rX0_keepSizes s mt args below meth c H locs 0 0 Q (F0 mt 0 ls []) := by
  unfold bX0_keepSizes_0 at hF
  refine q_aload_n C hl 0 rfl rfl dX0_keepSizes_0 ?_
  refine q_geti C S 5 fo_RX0_75 (j := 5) rfl rfl hx0 dX0_keepSizes_1 ?_
  refine q_iload_n C hl 2 rfl rfl dX0_keepSizes_4 ?_
  refine q_icmp_ne C (S.r _ _) hx2 12 dX0_keepSizes_5 (by decide) (fun hc1 => ?_) (fun hc1 => ?_)
  · have hF := if_t hc1 hF
    refine q_iconst C 1 dX0_keepSizes_8 ?_
    refine q_goto C 13 dX0_keepSizes_9 (by decide) ?_
    exact wX0_keepSizes_13 C S hx0 hx1 hx2 (rl 1 rfl) (lv_sub hl [0, 1, 2] rfl) hF Kr
  · have hF := if_f hc1 hF
    refine q_iconst C 0 dX0_keepSizes_12 ?_
    exact wX0_keepSizes_13 C S hx0 hx1 hx2 (rl 0 rfl) (lv_sub hl [0, 1, 2] rfl) hF Kr
theorem cX0_keepSizes_ok (l : Launch) (G : Gl) {g : Shp} {x0 x1 x2 : Int} {m m' : Mem} {r : Int} (hx0 : gk g x0 = 1) (hx1 : gk g x1 = 20) (hx2 : r32 x2) (hF : fX0_keepSizes g x0 x1 x2 m = some (r, m')) : mV l yX0_keepSizes (wT yX0_keepSizes cX0_keepSizes 5 none) rX0_keepSizes G (fun ad => [.ref (ad x0), .ref (ad x1), .int (iI x2)]) g m m' :=
  met_v (by decide) (fun ad => Nat.le_of_ble_eq_true rfl) (fun p e s mt args below meth c Q A H0 H locs ad ls C hnm S hl Kr => wX0_keepSizes_0 C S hx0 hx1 hx2 hl hF Kr)
set_option maxRecDepth 20000 in
theorem wX0_layingsOf_18 {p : Program} {l : Launch} {e : Env} {s : State} {mt : MethodId} {args : Array Value} {below : List Frame} {meth : Method} {c : Code} {Q : State → Prop} {G : Gl} {A : Nat → Prop} {H0 : Heap} {ad : Int → Nat} {g : Shp} {H : Heap} {locs : List Loc} {ls : Array Slot} {m : Mem} {z0 z1 z2 : Int} (C : CallFix p mt c cX0_layingsOf 3 s args tb RX0) (S : Wd G A s H0 ad g m H locs) (hz0 : gk g z0 = 26) (hz1 : r32 z1) (hz2 : r32 z2) (hl : lv_has ls 3 []) {r : Int} {m' : Mem} (hF : bX0_layingsOf_18 g z0 z1 z2 m = some (r, m')) (Kr : ∀ (H : Heap) (locs : List Loc) (pc : Nat) (ls : Array Slot), Wd G A s H0 ad g m' H locs → decode cX0_layingsOf pc = .ok (.areturn, 1) → r32 r → W p l e rX0_layingsOf s mt args below meth c H locs 0 0 Q (F0 mt pc ls [.ref (ad r)])) : W p l e rX0_layingsOf s mt args below meth c H locs 0 0 Q (F0 mt 18 ls [.int (iI z2), .int (iI z1), .ref (ad z0)]) := by
  unfold bX0_layingsOf_18 at hF
  refine q_iadd C dX0_layingsOf_18 ?_
  obtain ⟨i1, hF⟩ := ck_ok hF
  obtain ⟨k2, hF⟩ := ck_ok hF
  refine q_aald C S hz0 (by decide) i1 k2 (by decide) dX0_layingsOf_19 ?_
  cases hF
  exact Kr _ _ _ _ S dX0_layingsOf_20 (S.k k2 (by decide))
set_option maxRecDepth 20000 in
theorem wX0_layingsOf_0 {p : Program} {l : Launch} {e : Env} {s : State} {mt : MethodId} {args : Array Value} {below : List Frame} {meth : Method} {c : Code} {Q : State → Prop} {G : Gl} {A : Nat → Prop} {H0 : Heap} {ad : Int → Nat} {g : Shp} {H : Heap} {locs : List Loc} {ls : Array Slot} {m : Mem} {x0 x1 x2 : Int} (C : CallFix p mt c cX0_layingsOf 3 s args tb RX0) (S : Wd G A s H0 ad g m H locs) (hx0 : gk g x0 = 1) (hx1 : r32 x1) (hx2 : r32 x2) (hl : lv_has ls 3 [(0, .ref (ad x0)), (1, .int (iI x1)), (2, .int (iI x2))]) {r : Int} {m' : Mem} (hF : bX0_layingsOf_0 g x0 x1 x2 m = some (r, m')) (Kr : ∀ (H : Heap) (locs : List Loc) (pc : Nat) (ls : Array Slot), Wd G A s H0 ad g m' H locs → decode cX0_layingsOf pc = .ok (.areturn, 1) → r32 r → W p l e rX0_layingsOf s mt args below meth c H locs 0 0 Q (F0 mt pc ls [.ref (ad r)])) : W p l e rX0_layingsOf s mt args below meth c H locs 0 0 Q (F0 mt 0 ls []) := by
  unfold bX0_layingsOf_0 at hF
  refine q_aload_n C hl 0 rfl rfl dX0_layingsOf_0 ?_
  obtain ⟨k1, hF⟩ := ck_ok hF
  refine q_getr C S 1 fo_RX0_20 (j := 1) rfl rfl hx0 k1 (by decide) dX0_layingsOf_1 ?_
  refine q_iconst C 2 dX0_layingsOf_4 ?_
  refine q_iload_n C hl 1 rfl rfl dX0_layingsOf_5 ?_
  refine q_iconst C 1 dX0_layingsOf_6 ?_
  refine q_isub C dX0_layingsOf_7 ?_
  refine q_imul C dX0_layingsOf_8 ?_
  refine q_iload_n C hl 2 rfl rfl dX0_layingsOf_9 ?_
  refine q_if_eq C hx2 17 dX0_layingsOf_10 (by decide) (fun hc2 => ?_) (fun hc2 => ?_)
  · have hF := if_t hc2 hF
    refine q_iconst C 0 dX0_layingsOf_17 ?_
    exact wX0_layingsOf_18 C S k1 (r32_w _) (rl 0 rfl) (lv_sub hl [] rfl) hF Kr
  · have hF := if_f hc2 hF
    refine q_iconst C 1 dX0_layingsOf_13 ?_
    refine q_goto C 18 dX0_layingsOf_14 (by decide) ?_
    exact wX0_layingsOf_18 C S k1 (r32_w _) (rl 1 rfl) (lv_sub hl [] rfl) hF Kr
theorem cX0_layingsOf_ok (l : Launch) (G : Gl) {g : Shp} {x0 x1 x2 : Int} {m m' : Mem} {r : Int} (hx0 : gk g x0 = 1) (hx1 : r32 x1) (hx2 : r32 x2) (hF : fX0_layingsOf g x0 x1 x2 m = some (r, m')) : mR l yX0_layingsOf (wT yX0_layingsOf cX0_layingsOf 3 (some (.object "StoneFloors$Layings"))) rX0_layingsOf G (fun ad => [.ref (ad x0), .int (iI x1), .int (iI x2)]) g m r m' :=
  met_r (by decide) (fun ad => Nat.le_of_ble_eq_true rfl) (fun p e s mt args below meth c Q A H0 H locs ad ls C hnm S hl Kr => wX0_layingsOf_0 C S hx0 hx1 hx2 hl hF Kr)
set_option maxRecDepth 20000 in
theorem wX0_cellsOf_24 {p : Program} {l : Launch} {e : Env} {s : State} {mt : MethodId} {args : Array Value} {below : List Frame} {meth : Method} {c : Code} {Q : State → Prop} {G : Gl} {A : Nat → Prop} {H0 : Heap} {ad : Int → Nat} {g : Shp} {H : Heap} {locs : List Loc} {ls : Array Slot} {m : Mem} {z0 : Int} (C : CallFix p mt c cX0_cellsOf 2 s args tb RX0) (S : Wd G A s H0 ad g m H locs) (hz0 : r32 z0) (hl : lv_has ls 2 []) {r : Int} {m' : Mem} (hF : bX0_cellsOf_24 g z0 m = some (r, m')) (Kr : ∀ (H : Heap) (locs : List Loc) (pc : Nat) (ls : Array Slot), Wd G A s H0 ad g m' H locs → decode cX0_cellsOf pc = .ok (.ireturn, 1) → r32 r ∧ (false = true → r = 0 ∨ r = 1) → narrow .int (.int (iI r)) = .int (iI r) → W p l e rX0_cellsOf s mt args below meth c H locs 0 0 Q (F0 mt pc ls [.int (iI r)])) : W p l e rX0_cellsOf s mt args below meth c H locs 0 0 Q (F0 mt 24 ls [.int (iI z0)]) := by
  unfold bX0_cellsOf_24 at hF
  cases hF
  exact Kr _ _ _ _ S dX0_cellsOf_24 ⟨hz0, fun h9 => absurd h9 (by decide)⟩ rfl
set_option maxRecDepth 20000 in
theorem wX0_cellsOf_0 {p : Program} {l : Launch} {e : Env} {s : State} {mt : MethodId} {args : Array Value} {below : List Frame} {meth : Method} {c : Code} {Q : State → Prop} {G : Gl} {A : Nat → Prop} {H0 : Heap} {ad : Int → Nat} {g : Shp} {H : Heap} {locs : List Loc} {ls : Array Slot} {m : Mem} {x0 x1 : Int} (C : CallFix p mt c cX0_cellsOf 2 s args tb RX0) (S : Wd G A s H0 ad g m H locs) (hx0 : gk g x0 = 1) (hx1 : r32 x1) (hl : lv_has ls 2 [(0, .ref (ad x0)), (1, .int (iI x1))]) {r : Int} {m' : Mem} (hF : bX0_cellsOf_0 g x0 x1 m = some (r, m')) (Kr : ∀ (H : Heap) (locs : List Loc) (pc : Nat) (ls : Array Slot), Wd G A s H0 ad g m' H locs → decode cX0_cellsOf pc = .ok (.ireturn, 1) → r32 r ∧ (false = true → r = 0 ∨ r = 1) → narrow .int (.int (iI r)) = .int (iI r) → W p l e rX0_cellsOf s mt args below meth c H locs 0 0 Q (F0 mt pc ls [.int (iI r)])) : W p l e rX0_cellsOf s mt args below meth c H locs 0 0 Q (F0 mt 0 ls []) := by
  unfold bX0_cellsOf_0 at hF
  refine q_iload_n C hl 1 rfl rfl dX0_cellsOf_0 ?_
  refine q_aload_n C hl 0 rfl rfl dX0_cellsOf_1 ?_
  obtain ⟨k1, hF⟩ := ck_ok hF
  refine q_getr C S 0 fo_RX0_14 (j := 0) rfl rfl hx0 k1 (by decide) dX0_cellsOf_2 ?_
  refine q_geti C S 2 fo_RX0_49 (j := 2) rfl rfl k1 dX0_cellsOf_5 ?_
  refine q_icmp_ge C hx1 (S.r _ _) 23 dX0_cellsOf_8 (by decide) (fun hc2 => ?_) (fun hc2 => ?_)
  · have hF := if_t hc2 hF
    refine q_iconst C 0 dX0_cellsOf_23 ?_
    exact wX0_cellsOf_24 C S (rl 0 rfl) (lv_sub hl [] rfl) hF Kr
  · have hF := if_f hc2 hF
    refine q_aload_n C hl 0 rfl rfl dX0_cellsOf_11 ?_
    refine q_getr C S 0 fo_RX0_14 (j := 0) rfl rfl hx0 k1 (by decide) dX0_cellsOf_12 ?_
    obtain ⟨k3, hF⟩ := ck_ok hF
    refine q_getr C S 0 fo_RX0_60 (j := 0) rfl rfl k1 k3 (by decide) dX0_cellsOf_15 ?_
    refine q_iload_n C hl 1 rfl rfl dX0_cellsOf_18 ?_
    obtain ⟨i4, hF⟩ := ck_ok hF
    refine q_iald C S k3 i4 dX0_cellsOf_19 ?_
    refine q_goto C 24 dX0_cellsOf_20 (by decide) ?_
    exact wX0_cellsOf_24 C S (S.r _ _) (lv_sub hl [] rfl) hF Kr
theorem cX0_cellsOf_ok (l : Launch) (G : Gl) {g : Shp} {x0 x1 : Int} {m m' : Mem} {r : Int} (hx0 : gk g x0 = 1) (hx1 : r32 x1) (hF : fX0_cellsOf g x0 x1 m = some (r, m')) : mI l yX0_cellsOf (wT yX0_cellsOf cX0_cellsOf 2 (some .int)) rX0_cellsOf G false (fun ad => [.ref (ad x0), .int (iI x1)]) g m r m' :=
  met_i (by decide) (fun ad => Nat.le_of_ble_eq_true rfl) (fun p e s mt args below meth c Q A H0 H locs ad ls C hnm S hl Kr => wX0_cellsOf_0 C S hx0 hx1 hl hF Kr)
set_option maxRecDepth 20000 in
theorem wX2_stones_0 {p : Program} {l : Launch} {e : Env} {s : State} {mt : MethodId} {args : Array Value} {below : List Frame} {meth : Method} {c : Code} {Q : State → Prop} {G : Gl} {A : Nat → Prop} {H0 : Heap} {ad : Int → Nat} {g : Shp} {H : Heap} {locs : List Loc} {ls : Array Slot} {m : Mem} {x0 x1 : Int} (C : CallFix p mt c cX2_stones 3 s args tb RX2) (S : Wd G A s H0 ad g m H locs) (hx0 : gk g x0 = 3) (hx1 : r32 x1) (hl : lv_has ls 3 [(0, .ref (ad x0)), (1, .int (iI x1))]) {r : Int} {m' : Mem} (hF : bX2_stones_0 g x0 x1 m = some (r, m')) (Kr : ∀ (H : Heap) (locs : List Loc) (pc : Nat) (ls : Array Slot), Wd G A s H0 ad g m' H locs → decode cX2_stones pc = .ok (.ireturn, 1) → r32 r ∧ (false = true → r = 0 ∨ r = 1) → narrow .int (.int (iI r)) = .int (iI r) → W p l e rX2_stones s mt args below meth c H locs 0 0 Q (F0 mt pc ls [.int (iI r)])) : W p l e rX2_stones s mt args below meth c H locs 0 0 Q (F0 mt 0 ls []) := by
  unfold bX2_stones_0 at hF
  refine q_iload_n C hl 1 rfl rfl dX2_stones_0 ?_
  refine q_iconst C 3 dX2_stones_1 ?_
  refine q_imul C dX2_stones_2 ?_
  obtain ⟨y1, ey1, hF⟩ := vv_ok hF
  have ry1 : r32 y1 := ey1 ▸ (r32_w _)
  refine q_istore_n C hl [(2, .int (iI y1)), (0, .ref (ad x0)), (1, .int (iI x1))] ey1 rfl (by decide) rfl dX2_stones_3 (fun ls hl => ?_)
  refine q_aload_n C hl 1 rfl rfl dX2_stones_4 ?_
  obtain ⟨k2, hF⟩ := ck_ok hF
  refine q_getr C S 0 fo_RX2_11 (j := 0) rfl rfl hx0 k2 (by decide) dX2_stones_5 ?_
  refine q_iload_n C hl 0 rfl rfl dX2_stones_8 ?_
  obtain ⟨i3, hF⟩ := ck_ok hF
  refine q_iald C S k2 i3 dX2_stones_9 ?_
  refine q_aload_n C hl 1 rfl rfl dX2_stones_10 ?_
  refine q_getr C S 0 fo_RX2_11 (j := 0) rfl rfl hx0 k2 (by decide) dX2_stones_11 ?_
  refine q_iload_n C hl 0 rfl rfl dX2_stones_14 ?_
  refine q_iconst C 1 dX2_stones_15 ?_
  refine q_iadd C dX2_stones_16 ?_
  obtain ⟨i4, hF⟩ := ck_ok hF
  refine q_iald C S k2 i4 dX2_stones_17 ?_
  refine q_iadd C dX2_stones_18 ?_
  refine q_aload_n C hl 1 rfl rfl dX2_stones_19 ?_
  refine q_getr C S 0 fo_RX2_11 (j := 0) rfl rfl hx0 k2 (by decide) dX2_stones_20 ?_
  refine q_iload_n C hl 0 rfl rfl dX2_stones_23 ?_
  refine q_iconst C 2 dX2_stones_24 ?_
  refine q_iadd C dX2_stones_25 ?_
  obtain ⟨i5, hF⟩ := ck_ok hF
  refine q_iald C S k2 i5 dX2_stones_26 ?_
  refine q_iadd C dX2_stones_27 ?_
  cases hF
  exact Kr _ _ _ _ S dX2_stones_28 ⟨(r32_w _), fun h9 => absurd h9 (by decide)⟩ rfl
theorem cX2_stones_ok (l : Launch) (G : Gl) {g : Shp} {x0 x1 : Int} {m m' : Mem} {r : Int} (hx0 : gk g x0 = 3) (hx1 : r32 x1) (hF : fX2_stones g x0 x1 m = some (r, m')) : mI l yX2_stones (wT yX2_stones cX2_stones 3 (some .int)) rX2_stones G false (fun ad => [.ref (ad x0), .int (iI x1)]) g m r m' :=
  met_i (by decide) (fun ad => Nat.le_of_ble_eq_true rfl) (fun p e s mt args below meth c Q A H0 H locs ad ls C hnm S hl Kr => wX2_stones_0 C S hx0 hx1 hl hF Kr)
set_option maxRecDepth 20000 in
theorem wX2_canBeTakenFrom_48 {p : Program} {l : Launch} {e : Env} {s : State} {mt : MethodId} {args : Array Value} {below : List Frame} {meth : Method} {c : Code} {Q : State → Prop} {G : Gl} {A : Nat → Prop} {H0 : Heap} {ad : Int → Nat} {g : Shp} {H : Heap} {locs : List Loc} {ls : Array Slot} {m : Mem} {z0 : Int} (C : CallFix p mt c cX2_canBeTakenFrom 6 s args tb RX2) (S : Wd G A s H0 ad g m H locs) (hz0 : r32 z0) (hl : lv_has ls 6 []) {r : Int} {m' : Mem} (hF : bX2_canBeTakenFrom_48 g z0 m = some (r, m')) (Kr : ∀ (H : Heap) (locs : List Loc) (pc : Nat) (ls : Array Slot), Wd G A s H0 ad g m' H locs → decode cX2_canBeTakenFrom pc = .ok (.ireturn, 1) → r32 r ∧ (true = true → r = 0 ∨ r = 1) → narrow .boolean (.int (iI r)) = .int (iI r) → W p l e rX2_canBeTakenFrom s mt args below meth c H locs 0 0 Q (F0 mt pc ls [.int (iI r)])) : W p l e rX2_canBeTakenFrom s mt args below meth c H locs 0 0 Q (F0 mt 48 ls [.int (iI z0)]) := by
  unfold bX2_canBeTakenFrom_48 at hF
  obtain ⟨b1, hF⟩ := ck_ok hF
  cases hF
  exact Kr _ _ _ _ S dX2_canBeTakenFrom_48 ⟨r_b b1, fun _ => b1⟩ (nr_b b1)
set_option maxRecDepth 20000 in
theorem wX2_canBeTakenFrom_47 {p : Program} {l : Launch} {e : Env} {s : State} {mt : MethodId} {args : Array Value} {below : List Frame} {meth : Method} {c : Code} {Q : State → Prop} {G : Gl} {A : Nat → Prop} {H0 : Heap} {ad : Int → Nat} {g : Shp} {H : Heap} {locs : List Loc} {ls : Array Slot} {m : Mem} (C : CallFix p mt c cX2_canBeTakenFrom 6 s args tb RX2) (S : Wd G A s H0 ad g m H locs)  (hl : lv_has ls 6 []) {r : Int} {m' : Mem} (hF : bX2_canBeTakenFrom_47 g m = some (r, m')) (Kr : ∀ (H : Heap) (locs : List Loc) (pc : Nat) (ls : Array Slot), Wd G A s H0 ad g m' H locs → decode cX2_canBeTakenFrom pc = .ok (.ireturn, 1) → r32 r ∧ (true = true → r = 0 ∨ r = 1) → narrow .boolean (.int (iI r)) = .int (iI r) → W p l e rX2_canBeTakenFrom s mt args below meth c H locs 0 0 Q (F0 mt pc ls [.int (iI r)])) : W p l e rX2_canBeTakenFrom s mt args below meth c H locs 0 0 Q (F0 mt 47 ls []) := by
  unfold bX2_canBeTakenFrom_47 at hF
  refine q_iconst C 0 dX2_canBeTakenFrom_47 ?_
  exact wX2_canBeTakenFrom_48 C S (rl 0 rfl) (lv_sub hl [] rfl) hF Kr
set_option maxRecDepth 20000 in
theorem wX2_canBeTakenFrom_0 {p : Program} {l : Launch} {e : Env} {s : State} {mt : MethodId} {args : Array Value} {below : List Frame} {meth : Method} {c : Code} {Q : State → Prop} {G : Gl} {A : Nat → Prop} {H0 : Heap} {ad : Int → Nat} {g : Shp} {H : Heap} {locs : List Loc} {ls : Array Slot} {m : Mem} {x0 x1 x2 x3 x4 : Int} (C : CallFix p mt c cX2_canBeTakenFrom 6 s args tb RX2) (S : Wd G A s H0 ad g m H locs) (hx0 : gk g x0 = 3) (hx1 : r32 x1) (hx2 : r32 x2) (hx3 : r32 x3) (hx4 : r32 x4) (hl : lv_has ls 6 [(0, .ref (ad x0)), (1, .int (iI x1)), (2, .int (iI x2)), (3, .int (iI x3)), (4, .int (iI x4))]) {r : Int} {m' : Mem} (hF : bX2_canBeTakenFrom_0 g x0 x1 x2 x3 x4 m = some (r, m')) (Kr : ∀ (H : Heap) (locs : List Loc) (pc : Nat) (ls : Array Slot), Wd G A s H0 ad g m' H locs → decode cX2_canBeTakenFrom pc = .ok (.ireturn, 1) → r32 r ∧ (true = true → r = 0 ∨ r = 1) → narrow .boolean (.int (iI r)) = .int (iI r) → W p l e rX2_canBeTakenFrom s mt args below meth c H locs 0 0 Q (F0 mt pc ls [.int (iI r)])) : W p l e rX2_canBeTakenFrom s mt args below meth c H locs 0 0 Q (F0 mt 0 ls []) := by
  unfold bX2_canBeTakenFrom_0 at hF
  refine q_iload C hl 4 rfl dX2_canBeTakenFrom_0 ?_
  refine q_iconst C 3 dX2_canBeTakenFrom_2 ?_
  refine q_imul C dX2_canBeTakenFrom_3 ?_
  obtain ⟨y1, ey1, hF⟩ := vv_ok hF
  have ry1 : r32 y1 := ey1 ▸ (r32_w _)
  refine q_istore C hl [(5, .int (iI y1)), (0, .ref (ad x0)), (1, .int (iI x1)), (2, .int (iI x2)), (3, .int (iI x3)), (4, .int (iI x4))] ey1 (by decide) rfl dX2_canBeTakenFrom_4 (fun ls hl => ?_)
  refine q_aload_n C hl 1 rfl rfl dX2_canBeTakenFrom_6 ?_
  obtain ⟨k2, hF⟩ := ck_ok hF
  refine q_getr C S 0 fo_RX2_11 (j := 0) rfl rfl hx0 k2 (by decide) dX2_canBeTakenFrom_7 ?_
  refine q_iload C hl 0 rfl dX2_canBeTakenFrom_10 ?_
  obtain ⟨i3, hF⟩ := ck_ok hF
  refine q_iald C S k2 i3 dX2_canBeTakenFrom_12 ?_
  refine q_iload_n C hl 2 rfl rfl dX2_canBeTakenFrom_13 ?_
  refine q_icmp_gt C (S.r _ _) hx1 47 dX2_canBeTakenFrom_14 (by decide) (fun hc4 => ?_) (fun hc4 => ?_)
  · have hF := if_t hc4 hF
    exact wX2_canBeTakenFrom_47 C S  (lv_sub hl [] rfl) hF Kr
  · have hF := if_f hc4 hF
    refine q_aload_n C hl 1 rfl rfl dX2_canBeTakenFrom_17 ?_
    refine q_getr C S 0 fo_RX2_11 (j := 0) rfl rfl hx0 k2 (by decide) dX2_canBeTakenFrom_18 ?_
    refine q_iload C hl 0 rfl dX2_canBeTakenFrom_21 ?_
    refine q_iconst C 1 dX2_canBeTakenFrom_23 ?_
    refine q_iadd C dX2_canBeTakenFrom_24 ?_
    obtain ⟨i5, hF⟩ := ck_ok hF
    refine q_iald C S k2 i5 dX2_canBeTakenFrom_25 ?_
    refine q_iload_n C hl 3 rfl rfl dX2_canBeTakenFrom_26 ?_
    refine q_icmp_gt C (S.r _ _) hx2 47 dX2_canBeTakenFrom_27 (by decide) (fun hc6 => ?_) (fun hc6 => ?_)
    · have hF := if_t hc6 hF
      exact wX2_canBeTakenFrom_47 C S  (lv_sub hl [] rfl) hF Kr
    · have hF := if_f hc6 hF
      refine q_aload_n C hl 1 rfl rfl dX2_canBeTakenFrom_30 ?_
      refine q_getr C S 0 fo_RX2_11 (j := 0) rfl rfl hx0 k2 (by decide) dX2_canBeTakenFrom_31 ?_
      refine q_iload C hl 0 rfl dX2_canBeTakenFrom_34 ?_
      refine q_iconst C 2 dX2_canBeTakenFrom_36 ?_
      refine q_iadd C dX2_canBeTakenFrom_37 ?_
      obtain ⟨i7, hF⟩ := ck_ok hF
      refine q_iald C S k2 i7 dX2_canBeTakenFrom_38 ?_
      refine q_iload_n C hl 4 rfl rfl dX2_canBeTakenFrom_39 ?_
      refine q_icmp_gt C (S.r _ _) hx3 47 dX2_canBeTakenFrom_40 (by decide) (fun hc8 => ?_) (fun hc8 => ?_)
      · have hF := if_t hc8 hF
        exact wX2_canBeTakenFrom_47 C S  (lv_sub hl [] rfl) hF Kr
      · have hF := if_f hc8 hF
        refine q_iconst C 1 dX2_canBeTakenFrom_43 ?_
        refine q_goto C 48 dX2_canBeTakenFrom_44 (by decide) ?_
        exact wX2_canBeTakenFrom_48 C S (rl 1 rfl) (lv_sub hl [] rfl) hF Kr
theorem cX2_canBeTakenFrom_ok (l : Launch) (G : Gl) {g : Shp} {x0 x1 x2 x3 x4 : Int} {m m' : Mem} {r : Int} (hx0 : gk g x0 = 3) (hx1 : r32 x1) (hx2 : r32 x2) (hx3 : r32 x3) (hx4 : r32 x4) (hF : fX2_canBeTakenFrom g x0 x1 x2 x3 x4 m = some (r, m')) : mI l yX2_canBeTakenFrom (wT yX2_canBeTakenFrom cX2_canBeTakenFrom 6 (some .boolean)) rX2_canBeTakenFrom G true (fun ad => [.ref (ad x0), .int (iI x1), .int (iI x2), .int (iI x3), .int (iI x4)]) g m r m' :=
  met_i (by decide) (fun ad => Nat.le_of_ble_eq_true rfl) (fun p e s mt args below meth c Q A H0 H locs ad ls C hnm S hl Kr => wX2_canBeTakenFrom_0 C S hx0 hx1 hx2 hx3 hx4 hl hF Kr)
set_option maxRecDepth 20000 in
theorem wX0_worthOf_230 {p : Program} {l : Launch} {e : Env} {s : State} {mt : MethodId} {args : Array Value} {below : List Frame} {meth : Method} {c : Code} {Q : State → Prop} {G : Gl} {A : Nat → Prop} {H0 : Heap} {ad : Int → Nat} {g : Shp} {d : Nat} {fr : Shp → Int → Int → Int → Int → Int → Int → Mem → Option (Int × Mem)} (hfr : ∀ {g : Shp} {x0 x1 x2 x3 x4 x5 : Int} {m m' : Mem} {r : Int}, gk g x0 = 1 → r32 x1 → r32 x2 → r32 x3 → r32 x4 → r32 x5 → fr g x0 x1 x2 x3 x4 x5 m = some (r, m') → mI l yX0_worthOf (wT yX0_worthOf cX0_worthOf 14 (some .int)) (rX0_worthOf d) G false (fun ad => [.ref (ad x0), .int (iI x1), .int (iI x2), .int (iI x3), .int (iI x4), .int (iI x5)]) g m r m') {H : Heap} {locs : List Loc} {ls : Array Slot} {m : Mem} {x0 x1 x3 x4 x5 x6 x7 x8 x9 x10 : Int} (C : CallFix p mt c cX0_worthOf 14 s args tb RX0) (S : Wd G A s H0 ad g m H locs) (hx0 : gk g x0 = 1) (hx1 : r32 x1) (hx3 : r32 x3) (hx4 : r32 x4) (hx5 : r32 x5) (hx6 : r32 x6) (hx7 : r32 x7) (hx8 : gk g x8 = 3) (hx9 : r32 x9) (hx10 : r32 x10) (hl : lv_has ls 14 [(0, .ref (ad x0)), (1, .int (iI x1)), (3, .int (iI x3)), (4, .int (iI x4)), (5, .int (iI x5)), (6, .int (iI x6)), (7, .int (iI x7)), (8, .ref (ad x8)), (9, .int (iI x9)), (10, .int (iI x10))]) {c1 : Int} {s1 : (Int × Int × Mem)} (hF : bX0_worthOf_230 fr g x0 x1 x3 x4 x5 x6 x7 x8 x9 x10 m = some (c1, s1)) (K0 : c1 = 0 → ∀ (H : Heap) (locs : List Loc) (ls : Array Slot), r32 s1.1 → r32 s1.2.1 → Wd G A s H0 ad g s1.2.2 H locs → lv_has ls 14 [(0, .ref (ad x0)), (1, .int (iI x1)), (3, .int (iI x3)), (4, .int (iI x4)), (5, .int (iI x5)), (6, .int (iI x6)), (7, .int (iI x7)), (8, .ref (ad x8)), (9, .int (iI s1.1)), (10, .int (iI s1.2.1))] → W p l e (rX0_worthOf (d + 1)) s mt args below meth c H locs 0 0 Q (F0 mt 107 ls [])) (K1 : c1 = 1 → ∀ (H : Heap) (locs : List Loc) (ls : Array Slot), r32 s1.1 → Wd G A s H0 ad g s1.2.2 H locs → lv_has ls 14 [(0, .ref (ad x0)), (6, .int (iI x6)), (7, .int (iI x7)), (9, .int (iI s1.1))] → W p l e (rX0_worthOf (d + 1)) s mt args below meth c H locs 0 0 Q (F0 mt 236 ls [])) : W p l e (rX0_worthOf (d + 1)) s mt args below meth c H locs 0 0 Q (F0 mt 230 ls []) := by
  unfold bX0_worthOf_230 at hF
  obtain ⟨y1, ey1, hF⟩ := vv_ok hF
  have ry1 : r32 y1 := ey1 ▸ r32_w _
  refine q_iinc C hl 9 [(10, .int (iI y1)), (0, .ref (ad x0)), (1, .int (iI x1)), (3, .int (iI x3)), (4, .int (iI x4)), (5, .int (iI x5)), (6, .int (iI x6)), (7, .int (iI x7)), (8, .ref (ad x8)), (9, .int (iI x9))] rfl ey1 (by decide) rfl dX0_worthOf_230 (fun ls hl => ?_)
  refine q_goto C 107 dX0_worthOf_233 (by decide) ?_
  cases hF
  exact K0 rfl _ _ _ hx9 ry1 S (lv_sub hl [1, 2, 3, 4, 5, 6, 7, 8, 9, 0] rfl)
set_option maxRecDepth 20000 in
theorem wX0_worthOf_107 {p : Program} {l : Launch} {e : Env} {s : State} {mt : MethodId} {args : Array Value} {below : List Frame} {meth : Method} {c : Code} {Q : State → Prop} {G : Gl} {A : Nat → Prop} {H0 : Heap} {ad : Int → Nat} {g : Shp} {d : Nat} {fr : Shp → Int → Int → Int → Int → Int → Int → Mem → Option (Int × Mem)} (hfr : ∀ {g : Shp} {x0 x1 x2 x3 x4 x5 : Int} {m m' : Mem} {r : Int}, gk g x0 = 1 → r32 x1 → r32 x2 → r32 x3 → r32 x4 → r32 x5 → fr g x0 x1 x2 x3 x4 x5 m = some (r, m') → mI l yX0_worthOf (wT yX0_worthOf cX0_worthOf 14 (some .int)) (rX0_worthOf d) G false (fun ad => [.ref (ad x0), .int (iI x1), .int (iI x2), .int (iI x3), .int (iI x4), .int (iI x5)]) g m r m') {H : Heap} {locs : List Loc} {ls : Array Slot} {m : Mem} {x0 x1 x3 x4 x5 x6 x7 x8 x9 x10 : Int} (C : CallFix p mt c cX0_worthOf 14 s args tb RX0) (S : Wd G A s H0 ad g m H locs) (hx0 : gk g x0 = 1) (hx1 : r32 x1) (hx3 : r32 x3) (hx4 : r32 x4) (hx5 : r32 x5) (hx6 : r32 x6) (hx7 : r32 x7) (hx8 : gk g x8 = 3) (hx9 : r32 x9) (hx10 : r32 x10) (hl : lv_has ls 14 [(0, .ref (ad x0)), (1, .int (iI x1)), (3, .int (iI x3)), (4, .int (iI x4)), (5, .int (iI x5)), (6, .int (iI x6)), (7, .int (iI x7)), (8, .ref (ad x8)), (9, .int (iI x9)), (10, .int (iI x10))]) {c1 : Int} {s1 : (Int × Int × Mem)} (hF : bX0_worthOf_107 fr g x0 x1 x3 x4 x5 x6 x7 x8 x9 x10 m = some (c1, s1)) (K0 : c1 = 0 → ∀ (H : Heap) (locs : List Loc) (ls : Array Slot), r32 s1.1 → r32 s1.2.1 → Wd G A s H0 ad g s1.2.2 H locs → lv_has ls 14 [(0, .ref (ad x0)), (1, .int (iI x1)), (3, .int (iI x3)), (4, .int (iI x4)), (5, .int (iI x5)), (6, .int (iI x6)), (7, .int (iI x7)), (8, .ref (ad x8)), (9, .int (iI s1.1)), (10, .int (iI s1.2.1))] → W p l e (rX0_worthOf (d + 1)) s mt args below meth c H locs 0 0 Q (F0 mt 107 ls [])) (K1 : c1 = 1 → ∀ (H : Heap) (locs : List Loc) (ls : Array Slot), r32 s1.1 → Wd G A s H0 ad g s1.2.2 H locs → lv_has ls 14 [(0, .ref (ad x0)), (6, .int (iI x6)), (7, .int (iI x7)), (9, .int (iI s1.1))] → W p l e (rX0_worthOf (d + 1)) s mt args below meth c H locs 0 0 Q (F0 mt 236 ls [])) : W p l e (rX0_worthOf (d + 1)) s mt args below meth c H locs 0 0 Q (F0 mt 107 ls []) := by
  unfold bX0_worthOf_107 at hF
  refine q_iload C hl 9 rfl dX0_worthOf_107 ?_
  refine q_aload C hl 7 rfl dX0_worthOf_109 ?_
  refine q_geti C S 2 fo_RX0_126 (j := 2) rfl rfl hx8 dX0_worthOf_111 ?_
  refine q_icmp_ge C hx10 (S.r _ _) 236 dX0_worthOf_114 (by decide) (fun hc1 => ?_) (fun hc1 => ?_)
  · have hF := if_t hc1 hF
    cases hF
    exact K1 rfl _ _ _ hx9 S (lv_sub hl [0, 5, 6, 8] rfl)
  · have hF := if_f hc1 hF
    refine q_aload C hl 7 rfl dX0_worthOf_117 ?_
    obtain ⟨k2, hF⟩ := ck_ok hF
    refine q_getr C S 1 fo_RX0_127 (j := 1) rfl rfl hx8 k2 (by decide) dX0_worthOf_119 ?_
    refine q_iload C hl 9 rfl dX0_worthOf_122 ?_
    obtain ⟨i3, hF⟩ := ck_ok hF
    refine q_iald C S k2 i3 dX0_worthOf_124 ?_
    refine q_bipush C 32 (by decide) dX0_worthOf_125 ?_
    refine q_imul C dX0_worthOf_127 ?_
    refine q_aload C hl 7 rfl dX0_worthOf_128 ?_
    refine q_iload C hl 9 rfl dX0_worthOf_130 ?_
    obtain ⟨v4, m5, h6, hF⟩ := bd2_ok hF
    refine q_ci S (run_V (As := [.int (iI x10)]) (rest := [.int (iI (w32 ((m (m x8 1) x10) * 32)))]) C S (cX2_stones_ok l G hx8 hx10 h6 ad _) hx8 ⟨by decide, _, _, rfl⟩ gd_RX0_130 hdV_X2_stones rfl ⟨rfl, rfl, by dsimp only [rX0_worthOf, rX2_stones]; omega, by dsimp only [rX0_worthOf, rX2_stones]; omega⟩ ⟨Nat.zero_le _, Nat.zero_le _⟩ hl.1 rfl (Nat.le_of_ble_eq_true rfl) dX0_worthOf_132) (fun H locs Sm5 h7 => ?_)
    refine q_iadd C dX0_worthOf_135 ?_
    obtain ⟨y8, ey8, hF⟩ := vv_ok hF
    have ry8 : r32 y8 := ey8 ▸ (r32_w _)
    refine q_istore C hl [(11, .int (iI y8)), (0, .ref (ad x0)), (1, .int (iI x1)), (3, .int (iI x3)), (4, .int (iI x4)), (5, .int (iI x5)), (6, .int (iI x6)), (7, .int (iI x7)), (8, .ref (ad x8)), (9, .int (iI x9)), (10, .int (iI x10))] ey8 (by decide) rfl dX0_worthOf_136 (fun ls hl => ?_)
    refine q_iload C hl 0 rfl dX0_worthOf_138 ?_
    refine q_iload C hl 9 rfl dX0_worthOf_140 ?_
    refine q_icmp_ge C ry8 hx9 230 dX0_worthOf_142 (by decide) (fun hc9 => ?_) (fun hc9 => ?_)
    · have hF := if_t hc9 hF
      exact wX0_worthOf_230 hfr C Sm5 hx0 hx1 hx3 hx4 hx5 hx6 hx7 hx8 hx9 hx10 (lv_sub hl [1, 2, 3, 4, 5, 6, 7, 8, 9, 10] rfl) hF K0 K1
    · have hF := if_f hc9 hF
      refine q_aload C hl 8 rfl dX0_worthOf_145 ?_
      refine q_iload_n C hl 3 rfl rfl dX0_worthOf_147 ?_
      refine q_iload C hl 4 rfl dX0_worthOf_148 ?_
      refine q_iload C hl 5 rfl dX0_worthOf_150 ?_
      refine q_iload C hl 10 rfl dX0_worthOf_152 ?_
      obtain ⟨v10, m11, h12, hF⟩ := bd2_ok hF
      refine q_ci Sm5 (run_V (As := [.int (iI x3), .int (iI x4), .int (iI x5), .int (iI x10)]) (rest := []) C Sm5 (cX2_canBeTakenFrom_ok l G hx8 hx3 hx4 hx5 hx10 h12 ad _) hx8 ⟨by decide, _, _, rfl⟩ gd_RX0_133 hdV_X2_canBeTakenFrom rfl ⟨rfl, rfl, by dsimp only [rX0_worthOf, rX2_canBeTakenFrom]; omega, by dsimp only [rX0_worthOf, rX2_canBeTakenFrom]; omega⟩ ⟨Nat.zero_le _, Nat.zero_le _⟩ hl.1 rfl (Nat.le_of_ble_eq_true rfl) dX0_worthOf_154) (fun H locs Sm11 h13 => ?_)
      refine q_if_eq C h13.1 230 dX0_worthOf_157 (by decide) (fun hc14 => ?_) (fun hc14 => ?_)
      · have hF := if_t hc14 hF
        exact wX0_worthOf_230 hfr C Sm11 hx0 hx1 hx3 hx4 hx5 hx6 hx7 hx8 hx9 hx10 (lv_sub hl [1, 2, 3, 4, 5, 6, 7, 8, 9, 10] rfl) hF K0 K1
      · have hF := if_f hc14 hF
        refine q_iload C hl 10 rfl dX0_worthOf_160 ?_
        refine q_iconst C 3 dX0_worthOf_162 ?_
        refine q_imul C dX0_worthOf_163 ?_
        obtain ⟨y15, ey15, hF⟩ := vv_ok hF
        have ry15 : r32 y15 := ey15 ▸ (r32_w _)
        refine q_istore C hl [(12, .int (iI y15)), (11, .int (iI y8)), (0, .ref (ad x0)), (1, .int (iI x1)), (3, .int (iI x3)), (4, .int (iI x4)), (5, .int (iI x5)), (6, .int (iI x6)), (7, .int (iI x7)), (8, .ref (ad x8)), (9, .int (iI x9)), (10, .int (iI x10))] ey15 (by decide) rfl dX0_worthOf_164 (fun ls hl => ?_)
        refine q_aload_n C hl 2 rfl rfl dX0_worthOf_166 ?_
        refine q_iload_n C hl 3 rfl rfl dX0_worthOf_167 ?_
        refine q_iconst C 1 dX0_worthOf_168 ?_
        refine q_iadd C dX0_worthOf_169 ?_
        refine q_aload_n C hl 2 rfl rfl dX0_worthOf_170 ?_
        refine q_iload_n C hl 3 rfl rfl dX0_worthOf_171 ?_
        refine q_iconst C 1 dX0_worthOf_172 ?_
        refine q_iadd C dX0_worthOf_173 ?_
        obtain ⟨v16, m17, h18, hF⟩ := bd2_ok hF
        refine q_ci Sm11 (run_V (As := [.int (iI (w32 (x1 + 1)))]) (rest := [.int (iI (w32 (x1 + 1))), .ref (ad x0)]) C Sm11 (cX0_cellsOf_ok l G hx0 (r32_w _) h18 ad _) hx0 ⟨by decide, _, _, rfl⟩ gd_RX0_95 hdV_X0_cellsOf rfl ⟨rfl, rfl, by dsimp only [rX0_worthOf, rX0_cellsOf]; omega, by dsimp only [rX0_worthOf, rX0_cellsOf]; omega⟩ ⟨Nat.zero_le _, Nat.zero_le _⟩ hl.1 rfl (Nat.le_of_ble_eq_true rfl) dX0_worthOf_174) (fun H locs Sm17 h19 => ?_)
        refine q_iload_n C hl 4 rfl rfl dX0_worthOf_177 ?_
        refine q_aload C hl 9 rfl dX0_worthOf_178 ?_
        obtain ⟨k20, hF⟩ := ck_ok hF
        refine q_getr C Sm17 0 fo_RX0_137 (j := 0) rfl rfl hx8 k20 (by decide) dX0_worthOf_180 ?_
        refine q_iload C hl 0 rfl dX0_worthOf_183 ?_
        obtain ⟨i21, hF⟩ := ck_ok hF
        refine q_iald C Sm17 k20 i21 dX0_worthOf_185 ?_
        refine q_isub C dX0_worthOf_186 ?_
        refine q_iload C hl 5 rfl dX0_worthOf_187 ?_
        refine q_aload C hl 9 rfl dX0_worthOf_189 ?_
        refine q_getr C Sm17 0 fo_RX0_137 (j := 0) rfl rfl hx8 k20 (by decide) dX0_worthOf_191 ?_
        refine q_iload C hl 0 rfl dX0_worthOf_194 ?_
        refine q_iconst C 1 dX0_worthOf_196 ?_
        refine q_iadd C dX0_worthOf_197 ?_
        obtain ⟨i22, hF⟩ := ck_ok hF
        refine q_iald C Sm17 k20 i22 dX0_worthOf_198 ?_
        refine q_isub C dX0_worthOf_199 ?_
        refine q_iload C hl 6 rfl dX0_worthOf_200 ?_
        refine q_aload C hl 9 rfl dX0_worthOf_202 ?_
        refine q_getr C Sm17 0 fo_RX0_137 (j := 0) rfl rfl hx8 k20 (by decide) dX0_worthOf_204 ?_
        refine q_iload C hl 0 rfl dX0_worthOf_207 ?_
        refine q_iconst C 2 dX0_worthOf_209 ?_
        refine q_iadd C dX0_worthOf_210 ?_
        obtain ⟨i23, hF⟩ := ck_ok hF
        refine q_iald C Sm17 k20 i23 dX0_worthOf_211 ?_
        refine q_isub C dX0_worthOf_212 ?_
        obtain ⟨v24, m25, h26, hF⟩ := bd2_ok hF
        refine q_ci Sm17 (run_V (As := [.int (iI (w32 (x1 + 1))), .int (iI v16), .int (iI (w32 (x3 - (m17 (m17 x8 0) y15)))), .int (iI (w32 (x4 - (m17 (m17 x8 0) (w32 (y15 + 1)))))), .int (iI (w32 (x5 - (m17 (m17 x8 0) (w32 (y15 + 2))))))]) (rest := []) C Sm17 (hfr hx0 (r32_w _) h19.1 (r32_w _) (r32_w _) (r32_w _) h26 ad _) hx0 ⟨by decide, _, _, rfl⟩ gd_RX0_102 hdV_X0_worthOf rfl ⟨rfl, rfl, by dsimp only [rX0_worthOf, rX0_worthOf]; omega, by dsimp only [rX0_worthOf, rX0_worthOf]; omega⟩ ⟨Nat.zero_le _, Nat.zero_le _⟩ hl.1 rfl (Nat.le_of_ble_eq_true rfl) dX0_worthOf_213) (fun H locs Sm25 h27 => ?_)
        refine q_istore C hl [(13, .int (iI v24)), (12, .int (iI y15)), (11, .int (iI y8)), (0, .ref (ad x0)), (1, .int (iI x1)), (3, .int (iI x3)), (4, .int (iI x4)), (5, .int (iI x5)), (6, .int (iI x6)), (7, .int (iI x7)), (8, .ref (ad x8)), (9, .int (iI x9)), (10, .int (iI x10))] rfl (by decide) rfl dX0_worthOf_216 (fun ls hl => ?_)
        refine q_iload C hl 11 rfl dX0_worthOf_218 ?_
        refine q_iload C hl 2 rfl dX0_worthOf_220 ?_
        refine q_iload C hl 0 rfl dX0_worthOf_222 ?_
        refine q_iadd C dX0_worthOf_224 ?_
        refine q_min C ⟨tw730, tw731, tw82, tw732⟩ hl.1 hx9 (r32_w _) (by simp [rX0_worthOf]; try omega) (by simp [rX0_worthOf]; try omega) ⟨Nat.zero_le _, Nat.zero_le _⟩ dX0_worthOf_225 ?_
        obtain ⟨y28, ey28, hF⟩ := vv_ok hF
        have ry28 : r32 y28 := ey28 ▸ (r32_min hx9 (r32_w _))
        refine q_istore C hl [(9, .int (iI y28)), (13, .int (iI v24)), (12, .int (iI y15)), (11, .int (iI y8)), (0, .ref (ad x0)), (1, .int (iI x1)), (3, .int (iI x3)), (4, .int (iI x4)), (5, .int (iI x5)), (6, .int (iI x6)), (7, .int (iI x7)), (8, .ref (ad x8)), (10, .int (iI x10))] ey28 (by decide) rfl dX0_worthOf_228 (fun ls hl => ?_)
        exact wX0_worthOf_230 hfr C Sm25 hx0 hx1 hx3 hx4 hx5 hx6 hx7 hx8 ry28 hx10 (lv_sub hl [4, 5, 6, 7, 8, 9, 10, 11, 0, 12] rfl) hF K0 K1
set_option maxRecDepth 20000 in
theorem lX0_worthOf_107 {p : Program} {l : Launch} {e : Env} {s : State} {mt : MethodId} {args : Array Value} {below : List Frame} {meth : Method} {c : Code} {Q : State → Prop} {G : Gl} {A : Nat → Prop} {H0 : Heap} {ad : Int → Nat} {g : Shp} {d : Nat} {fr : Shp → Int → Int → Int → Int → Int → Int → Mem → Option (Int × Mem)} (hfr : ∀ {g : Shp} {x0 x1 x2 x3 x4 x5 : Int} {m m' : Mem} {r : Int}, gk g x0 = 1 → r32 x1 → r32 x2 → r32 x3 → r32 x4 → r32 x5 → fr g x0 x1 x2 x3 x4 x5 m = some (r, m') → mI l yX0_worthOf (wT yX0_worthOf cX0_worthOf 14 (some .int)) (rX0_worthOf d) G false (fun ad => [.ref (ad x0), .int (iI x1), .int (iI x2), .int (iI x3), .int (iI x4), .int (iI x5)]) g m r m') {x0 x1 x3 x4 x5 x6 x7 x8 : Int} (C : CallFix p mt c cX0_worthOf 14 s args tb RX0) (hx0 : gk g x0 = 1) (hx1 : r32 x1) (hx3 : r32 x3) (hx4 : r32 x4) (hx5 : r32 x5) (hx6 : r32 x6) (hx7 : r32 x7) (hx8 : gk g x8 = 3) {n : Nat} {s0 s1 : (Int × Int × Mem)} {c1 : Int} (hI : iter (BX0_worthOf_107 fr g x0 x1 x3 x4 x5 x6 x7 x8) n s0 = some (c1, s1)) (K1 : c1 = 1 → ∀ (H : Heap) (locs : List Loc) (ls : Array Slot), r32 s1.1 → Wd G A s H0 ad g s1.2.2 H locs → lv_has ls 14 [(0, .ref (ad x0)), (6, .int (iI x6)), (7, .int (iI x7)), (9, .int (iI s1.1))] → W p l e (rX0_worthOf (d + 1)) s mt args below meth c H locs 0 0 Q (F0 mt 236 ls [])) : ∀ (H : Heap) (locs : List Loc) (ls : Array Slot), r32 s0.1 → r32 s0.2.1 → Wd G A s H0 ad g s0.2.2 H locs → lv_has ls 14 [(0, .ref (ad x0)), (1, .int (iI x1)), (3, .int (iI x3)), (4, .int (iI x4)), (5, .int (iI x5)), (6, .int (iI x6)), (7, .int (iI x7)), (8, .ref (ad x8)), (9, .int (iI s0.1)), (10, .int (iI s0.2.1))] → W p l e (rX0_worthOf (d + 1)) s mt args below meth c H locs 0 0 Q (F0 mt 107 ls []) :=
  iter_W (Pw := fun q => ∀ (H : Heap) (locs : List Loc) (ls : Array Slot), r32 q.1 → r32 q.2.1 → Wd G A s H0 ad g q.2.2 H locs → lv_has ls 14 [(0, .ref (ad x0)), (1, .int (iI x1)), (3, .int (iI x3)), (4, .int (iI x4)), (5, .int (iI x5)), (6, .int (iI x6)), (7, .int (iI x7)), (8, .ref (ad x8)), (9, .int (iI q.1)), (10, .int (iI q.2.1))] → W p l e (rX0_worthOf (d + 1)) s mt args below meth c H locs 0 0 Q (F0 mt 107 ls [])) (Px := fun c0 q => (c0 = 1 → ∀ (H : Heap) (locs : List Loc) (ls : Array Slot), r32 q.1 → Wd G A s H0 ad g q.2.2 H locs → lv_has ls 14 [(0, .ref (ad x0)), (6, .int (iI x6)), (7, .int (iI x7)), (9, .int (iI q.1))] → W p l e (rX0_worthOf (d + 1)) s mt args below meth c H locs 0 0 Q (F0 mt 236 ls [])))
    (fun s c s' hB K0 kx H locs ls f0 f1 S hl => wX0_worthOf_107 hfr C S hx0 hx1 hx3 hx4 hx5 hx6 hx7 hx8 f0 f1 hl hB K0 (fun h9 => (kx (by rw [h9]; decide)) h9)) _ _ _ _ hI K1
set_option maxRecDepth 20000 in
theorem wX0_worthOf_17 {p : Program} {l : Launch} {e : Env} {s : State} {mt : MethodId} {args : Array Value} {below : List Frame} {meth : Method} {c : Code} {Q : State → Prop} {G : Gl} {A : Nat → Prop} {H0 : Heap} {ad : Int → Nat} {g : Shp} {d : Nat} {fr : Shp → Int → Int → Int → Int → Int → Int → Mem → Option (Int × Mem)} (hfr : ∀ {g : Shp} {x0 x1 x2 x3 x4 x5 : Int} {m m' : Mem} {r : Int}, gk g x0 = 1 → r32 x1 → r32 x2 → r32 x3 → r32 x4 → r32 x5 → fr g x0 x1 x2 x3 x4 x5 m = some (r, m') → mI l yX0_worthOf (wT yX0_worthOf cX0_worthOf 14 (some .int)) (rX0_worthOf d) G false (fun ad => [.ref (ad x0), .int (iI x1), .int (iI x2), .int (iI x3), .int (iI x4), .int (iI x5)]) g m r m') {H : Heap} {locs : List Loc} {ls : Array Slot} {m : Mem} (C : CallFix p mt c cX0_worthOf 14 s args tb RX0) (S : Wd G A s H0 ad g m H locs)  (hl : lv_has ls 14 []) {r : Int} {m' : Mem} (hF : bX0_worthOf_17 fr g m = some (r, m')) (Kr : ∀ (H : Heap) (locs : List Loc) (pc : Nat) (ls : Array Slot), Wd G A s H0 ad g m' H locs → decode cX0_worthOf pc = .ok (.ireturn, 1) → r32 r ∧ (false = true → r = 0 ∨ r = 1) → narrow .int (.int (iI r)) = .int (iI r) → W p l e (rX0_worthOf (d + 1)) s mt args below meth c H locs 0 0 Q (F0 mt pc ls [.int (iI r)])) : W p l e (rX0_worthOf (d + 1)) s mt args below meth c H locs 0 0 Q (F0 mt 17 ls []) := by
  unfold bX0_worthOf_17 at hF
  refine q_iconst C 0 dX0_worthOf_17 ?_
  cases hF
  exact Kr _ _ _ _ S dX0_worthOf_18 ⟨(rl 0 rfl), fun h9 => absurd h9 (by decide)⟩ rfl
set_option maxRecDepth 20000 in
theorem wX0_worthOf_250 {p : Program} {l : Launch} {e : Env} {s : State} {mt : MethodId} {args : Array Value} {below : List Frame} {meth : Method} {c : Code} {Q : State → Prop} {G : Gl} {A : Nat → Prop} {H0 : Heap} {ad : Int → Nat} {g : Shp} {d : Nat} {fr : Shp → Int → Int → Int → Int → Int → Int → Mem → Option (Int × Mem)} (hfr : ∀ {g : Shp} {x0 x1 x2 x3 x4 x5 : Int} {m m' : Mem} {r : Int}, gk g x0 = 1 → r32 x1 → r32 x2 → r32 x3 → r32 x4 → r32 x5 → fr g x0 x1 x2 x3 x4 x5 m = some (r, m') → mI l yX0_worthOf (wT yX0_worthOf cX0_worthOf 14 (some .int)) (rX0_worthOf d) G false (fun ad => [.ref (ad x0), .int (iI x1), .int (iI x2), .int (iI x3), .int (iI x4), .int (iI x5)]) g m r m') {H : Heap} {locs : List Loc} {ls : Array Slot} {m : Mem} {x9 : Int} (C : CallFix p mt c cX0_worthOf 14 s args tb RX0) (S : Wd G A s H0 ad g m H locs) (hx9 : r32 x9) (hl : lv_has ls 14 [(9, .int (iI x9))]) {r : Int} {m' : Mem} (hF : bX0_worthOf_250 fr g x9 m = some (r, m')) (Kr : ∀ (H : Heap) (locs : List Loc) (pc : Nat) (ls : Array Slot), Wd G A s H0 ad g m' H locs → decode cX0_worthOf pc = .ok (.ireturn, 1) → r32 r ∧ (false = true → r = 0 ∨ r = 1) → narrow .int (.int (iI r)) = .int (iI r) → W p l e (rX0_worthOf (d + 1)) s mt args below meth c H locs 0 0 Q (F0 mt pc ls [.int (iI r)])) : W p l e (rX0_worthOf (d + 1)) s mt args below meth c H locs 0 0 Q (F0 mt 250 ls []) := by
  unfold bX0_worthOf_250 at hF
  refine q_iload C hl 0 rfl dX0_worthOf_250 ?_
  cases hF
  exact Kr _ _ _ _ S dX0_worthOf_252 ⟨hx9, fun h9 => absurd h9 (by decide)⟩ rfl
set_option maxRecDepth 20000 in
theorem wX0_worthOf_236 {p : Program} {l : Launch} {e : Env} {s : State} {mt : MethodId} {args : Array Value} {below : List Frame} {meth : Method} {c : Code} {Q : State → Prop} {G : Gl} {A : Nat → Prop} {H0 : Heap} {ad : Int → Nat} {g : Shp} {d : Nat} {fr : Shp → Int → Int → Int → Int → Int → Int → Mem → Option (Int × Mem)} (hfr : ∀ {g : Shp} {x0 x1 x2 x3 x4 x5 : Int} {m m' : Mem} {r : Int}, gk g x0 = 1 → r32 x1 → r32 x2 → r32 x3 → r32 x4 → r32 x5 → fr g x0 x1 x2 x3 x4 x5 m = some (r, m') → mI l yX0_worthOf (wT yX0_worthOf cX0_worthOf 14 (some .int)) (rX0_worthOf d) G false (fun ad => [.ref (ad x0), .int (iI x1), .int (iI x2), .int (iI x3), .int (iI x4), .int (iI x5)]) g m r m') {H : Heap} {locs : List Loc} {ls : Array Slot} {m : Mem} {x0 x6 x7 x9 : Int} (C : CallFix p mt c cX0_worthOf 14 s args tb RX0) (S : Wd G A s H0 ad g m H locs) (hx0 : gk g x0 = 1) (hx6 : r32 x6) (hx7 : r32 x7) (hx9 : r32 x9) (hl : lv_has ls 14 [(0, .ref (ad x0)), (6, .int (iI x6)), (7, .int (iI x7)), (9, .int (iI x9))]) {r : Int} {m' : Mem} (hF : bX0_worthOf_236 fr g x0 x6 x7 x9 m = some (r, m')) (Kr : ∀ (H : Heap) (locs : List Loc) (pc : Nat) (ls : Array Slot), Wd G A s H0 ad g m' H locs → decode cX0_worthOf pc = .ok (.ireturn, 1) → r32 r ∧ (false = true → r = 0 ∨ r = 1) → narrow .int (.int (iI r)) = .int (iI r) → W p l e (rX0_worthOf (d + 1)) s mt args below meth c H locs 0 0 Q (F0 mt pc ls [.int (iI r)])) : W p l e (rX0_worthOf (d + 1)) s mt args below meth c H locs 0 0 Q (F0 mt 236 ls []) := by
  unfold bX0_worthOf_236 at hF
  refine q_iload C hl 2 rfl dX0_worthOf_236 ?_
  refine q_if_eq C hx7 250 dX0_worthOf_238 (by decide) (fun hc1 => ?_) (fun hc1 => ?_)
  · have hF := if_t hc1 hF
    exact wX0_worthOf_250 hfr C S hx9 (lv_sub hl [3] rfl) hF Kr
  · have hF := if_f hc1 hF
    refine q_aload_n C hl 0 rfl rfl dX0_worthOf_241 ?_
    obtain ⟨k2, hF⟩ := ck_ok hF
    refine q_getr C S 2 fo_RX0_24 (j := 2) rfl rfl hx0 k2 (by decide) dX0_worthOf_242 ?_
    refine q_iload C hl 1 rfl dX0_worthOf_245 ?_
    refine q_iload C hl 3 rfl dX0_worthOf_247 ?_
    obtain ⟨i3, hF⟩ := ck_ok hF
    obtain ⟨m4, em4, hF⟩ := vm_ok hF
    refine q_iast C S k2 i3 hx9 em4 dX0_worthOf_249 (fun H locs Sm4 => ?_)
    exact wX0_worthOf_250 hfr C Sm4 hx9 (lv_sub hl [3] rfl) hF Kr
set_option maxRecDepth 20000 in
theorem wX0_worthOf_84 {p : Program} {l : Launch} {e : Env} {s : State} {mt : MethodId} {args : Array Value} {below : List Frame} {meth : Method} {c : Code} {Q : State → Prop} {G : Gl} {A : Nat → Prop} {H0 : Heap} {ad : Int → Nat} {g : Shp} {d : Nat} {fr : Shp → Int → Int → Int → Int → Int → Int → Mem → Option (Int × Mem)} (hfr : ∀ {g : Shp} {x0 x1 x2 x3 x4 x5 : Int} {m m' : Mem} {r : Int}, gk g x0 = 1 → r32 x1 → r32 x2 → r32 x3 → r32 x4 → r32 x5 → fr g x0 x1 x2 x3 x4 x5 m = some (r, m') → mI l yX0_worthOf (wT yX0_worthOf cX0_worthOf 14 (some .int)) (rX0_worthOf d) G false (fun ad => [.ref (ad x0), .int (iI x1), .int (iI x2), .int (iI x3), .int (iI x4), .int (iI x5)]) g m r m') {H : Heap} {locs : List Loc} {ls : Array Slot} {m : Mem} {x0 x1 x2 x3 x4 x5 x6 x7 : Int} (C : CallFix p mt c cX0_worthOf 14 s args tb RX0) (S : Wd G A s H0 ad g m H locs) (hx0 : gk g x0 = 1) (hx1 : r32 x1) (hx2 : r32 x2) (hx3 : r32 x3) (hx4 : r32 x4) (hx5 : r32 x5) (hx6 : r32 x6) (hx7 : r32 x7) (hl : lv_has ls 14 [(0, .ref (ad x0)), (1, .int (iI x1)), (2, .int (iI x2)), (3, .int (iI x3)), (4, .int (iI x4)), (5, .int (iI x5)), (6, .int (iI x6)), (7, .int (iI x7))]) {r : Int} {m' : Mem} (hF : bX0_worthOf_84 fr g x0 x1 x2 x3 x4 x5 x6 x7 m = some (r, m')) (Kr : ∀ (H : Heap) (locs : List Loc) (pc : Nat) (ls : Array Slot), Wd G A s H0 ad g m' H locs → decode cX0_worthOf pc = .ok (.ireturn, 1) → r32 r ∧ (false = true → r = 0 ∨ r = 1) → narrow .int (.int (iI r)) = .int (iI r) → W p l e (rX0_worthOf (d + 1)) s mt args below meth c H locs 0 0 Q (F0 mt pc ls [.int (iI r)])) : W p l e (rX0_worthOf (d + 1)) s mt args below meth c H locs 0 0 Q (F0 mt 84 ls []) := by
  unfold bX0_worthOf_84 at hF
  refine q_aload_n C hl 0 rfl rfl dX0_worthOf_84 ?_
  refine q_iload_n C hl 2 rfl rfl dX0_worthOf_85 ?_
  refine q_aload_n C hl 0 rfl rfl dX0_worthOf_86 ?_
  obtain ⟨k1, hF⟩ := ck_ok hF
  refine q_getr C S 0 fo_RX0_14 (j := 0) rfl rfl hx0 k1 (by decide) dX0_worthOf_87 ?_
  obtain ⟨k2, hF⟩ := ck_ok hF
  refine q_getr C S 1 fo_RX0_63 (j := 1) rfl rfl k1 k2 (by decide) dX0_worthOf_90 ?_
  refine q_iload_n C hl 1 rfl rfl dX0_worthOf_93 ?_
  obtain ⟨i3, hF⟩ := ck_ok hF
  refine q_zald C S k2 i3 dX0_worthOf_94 ?_
  obtain ⟨v4, m5, h6, hF⟩ := bd2_ok hF
  obtain ⟨k8, hF⟩ := ck_ok hF
  refine q_cr S (run_V (As := [.int (iI x2), .int (iI (m (m (m x0 0) 1) x1))]) (rest := []) C S (cX0_layingsOf_ok l G hx0 hx2 (S.r _ _) h6 ad _) hx0 ⟨by decide, _, _, rfl⟩ gd_RX0_67 hdV_X0_layingsOf rfl ⟨rfl, rfl, by dsimp only [rX0_worthOf, rX0_layingsOf]; omega, by dsimp only [rX0_worthOf, rX0_layingsOf]; omega⟩ ⟨Nat.zero_le _, Nat.zero_le _⟩ hl.1 rfl (Nat.le_of_ble_eq_true rfl) dX0_worthOf_95) (fun H locs Sm5 h7 => ?_)
  refine q_astore C hl [(8, .ref (ad v4)), (0, .ref (ad x0)), (1, .int (iI x1)), (2, .int (iI x2)), (3, .int (iI x3)), (4, .int (iI x4)), (5, .int (iI x5)), (6, .int (iI x6)), (7, .int (iI x7))] rfl (by decide) rfl dX0_worthOf_98 (fun ls hl => ?_)
  refine q_ldc C 1048576 (by decide) tw724 dX0_worthOf_100 ?_
  refine q_istore C hl [(9, .int (iI 1048576)), (8, .ref (ad v4)), (0, .ref (ad x0)), (1, .int (iI x1)), (2, .int (iI x2)), (3, .int (iI x3)), (4, .int (iI x4)), (5, .int (iI x5)), (6, .int (iI x6)), (7, .int (iI x7))] rfl (by decide) rfl dX0_worthOf_102 (fun ls hl => ?_)
  refine q_iconst C 0 dX0_worthOf_104 ?_
  refine q_istore C hl [(10, .int (iI 0)), (9, .int (iI 1048576)), (8, .ref (ad v4)), (0, .ref (ad x0)), (1, .int (iI x1)), (2, .int (iI x2)), (3, .int (iI x3)), (4, .int (iI x4)), (5, .int (iI x5)), (6, .int (iI x6)), (7, .int (iI x7))] rfl (by decide) rfl dX0_worthOf_105 (fun ls hl => ?_)
  obtain ⟨cv9, sv10, hi11, hF⟩ := bdl_ok hF
  refine lX0_worthOf_107 hfr C hx0 hx1 hx3 hx4 hx5 hx6 hx7 k8 hi11 ?_ _ _ _ (rl 1048576 rfl) (rl 0 rfl) Sm5 (lv_sub hl [3, 4, 6, 7, 8, 9, 10, 2, 1, 0] rfl)
  intro _ H locs ls f13 S12 hl
  exact wX0_worthOf_236 hfr C S12 hx0 hx6 hx7 f13 (lv_sub hl [0, 1, 2, 3] rfl) hF Kr
set_option maxRecDepth 20000 in
theorem wX0_worthOf_58 {p : Program} {l : Launch} {e : Env} {s : State} {mt : MethodId} {args : Array Value} {below : List Frame} {meth : Method} {c : Code} {Q : State → Prop} {G : Gl} {A : Nat → Prop} {H0 : Heap} {ad : Int → Nat} {g : Shp} {d : Nat} {fr : Shp → Int → Int → Int → Int → Int → Int → Mem → Option (Int × Mem)} (hfr : ∀ {g : Shp} {x0 x1 x2 x3 x4 x5 : Int} {m m' : Mem} {r : Int}, gk g x0 = 1 → r32 x1 → r32 x2 → r32 x3 → r32 x4 → r32 x5 → fr g x0 x1 x2 x3 x4 x5 m = some (r, m') → mI l yX0_worthOf (wT yX0_worthOf cX0_worthOf 14 (some .int)) (rX0_worthOf d) G false (fun ad => [.ref (ad x0), .int (iI x1), .int (iI x2), .int (iI x3), .int (iI x4), .int (iI x5)]) g m r m') {H : Heap} {locs : List Loc} {ls : Array Slot} {m : Mem} {x0 x1 x2 x3 x4 x5 x6 z0 : Int} (C : CallFix p mt c cX0_worthOf 14 s args tb RX0) (S : Wd G A s H0 ad g m H locs) (hx0 : gk g x0 = 1) (hx1 : r32 x1) (hx2 : r32 x2) (hx3 : r32 x3) (hx4 : r32 x4) (hx5 : r32 x5) (hx6 : r32 x6) (hz0 : r32 z0) (hl : lv_has ls 14 [(0, .ref (ad x0)), (1, .int (iI x1)), (2, .int (iI x2)), (3, .int (iI x3)), (4, .int (iI x4)), (5, .int (iI x5)), (6, .int (iI x6))]) {r : Int} {m' : Mem} (hF : bX0_worthOf_58 fr g x0 x1 x2 x3 x4 x5 x6 z0 m = some (r, m')) (Kr : ∀ (H : Heap) (locs : List Loc) (pc : Nat) (ls : Array Slot), Wd G A s H0 ad g m' H locs → decode cX0_worthOf pc = .ok (.ireturn, 1) → r32 r ∧ (false = true → r = 0 ∨ r = 1) → narrow .int (.int (iI r)) = .int (iI r) → W p l e (rX0_worthOf (d + 1)) s mt args below meth c H locs 0 0 Q (F0 mt pc ls [.int (iI r)])) : W p l e (rX0_worthOf (d + 1)) s mt args below meth c H locs 0 0 Q (F0 mt 58 ls [.int (iI z0)]) := by
  unfold bX0_worthOf_58 at hF
  refine q_istore C hl [(7, .int (iI z0)), (0, .ref (ad x0)), (1, .int (iI x1)), (2, .int (iI x2)), (3, .int (iI x3)), (4, .int (iI x4)), (5, .int (iI x5)), (6, .int (iI x6))] rfl (by decide) rfl dX0_worthOf_58 (fun ls hl => ?_)
  refine q_iload C hl 0 rfl dX0_worthOf_60 ?_
  refine q_if_eq C hz0 84 dX0_worthOf_62 (by decide) (fun hc1 => ?_) (fun hc1 => ?_)
  · have hF := if_t hc1 hF
    exact wX0_worthOf_84 hfr C S hx0 hx1 hx2 hx3 hx4 hx5 hx6 hz0 (lv_sub hl [1, 2, 3, 4, 5, 6, 7, 0] rfl) hF Kr
  · have hF := if_f hc1 hF
    refine q_aload_n C hl 1 rfl rfl dX0_worthOf_65 ?_
    obtain ⟨k2, hF⟩ := ck_ok hF
    refine q_getr C S 2 fo_RX0_24 (j := 2) rfl rfl hx0 k2 (by decide) dX0_worthOf_66 ?_
    refine q_iload C hl 7 rfl dX0_worthOf_69 ?_
    obtain ⟨i3, hF⟩ := ck_ok hF
    refine q_iald C S k2 i3 dX0_worthOf_71 ?_
    refine q_iconst C (-1) dX0_worthOf_72 ?_
    refine q_icmp_eq C (S.r _ _) (rl (-1) rfl) 84 dX0_worthOf_73 (by decide) (fun hc4 => ?_) (fun hc4 => ?_)
    · have hF := if_t hc4 hF
      exact wX0_worthOf_84 hfr C S hx0 hx1 hx2 hx3 hx4 hx5 hx6 hz0 (lv_sub hl [1, 2, 3, 4, 5, 6, 7, 0] rfl) hF Kr
    · have hF := if_f hc4 hF
      refine q_aload_n C hl 1 rfl rfl dX0_worthOf_76 ?_
      refine q_getr C S 2 fo_RX0_24 (j := 2) rfl rfl hx0 k2 (by decide) dX0_worthOf_77 ?_
      refine q_iload C hl 7 rfl dX0_worthOf_80 ?_
      obtain ⟨i5, hF⟩ := ck_ok hF
      refine q_iald C S k2 i5 dX0_worthOf_82 ?_
      cases hF
      exact Kr _ _ _ _ S dX0_worthOf_83 ⟨(S.r _ _), fun h9 => absurd h9 (by decide)⟩ rfl
set_option maxRecDepth 20000 in
theorem wX0_worthOf_0 {p : Program} {l : Launch} {e : Env} {s : State} {mt : MethodId} {args : Array Value} {below : List Frame} {meth : Method} {c : Code} {Q : State → Prop} {G : Gl} {A : Nat → Prop} {H0 : Heap} {ad : Int → Nat} {g : Shp} {d : Nat} {fr : Shp → Int → Int → Int → Int → Int → Int → Mem → Option (Int × Mem)} (hfr : ∀ {g : Shp} {x0 x1 x2 x3 x4 x5 : Int} {m m' : Mem} {r : Int}, gk g x0 = 1 → r32 x1 → r32 x2 → r32 x3 → r32 x4 → r32 x5 → fr g x0 x1 x2 x3 x4 x5 m = some (r, m') → mI l yX0_worthOf (wT yX0_worthOf cX0_worthOf 14 (some .int)) (rX0_worthOf d) G false (fun ad => [.ref (ad x0), .int (iI x1), .int (iI x2), .int (iI x3), .int (iI x4), .int (iI x5)]) g m r m') {H : Heap} {locs : List Loc} {ls : Array Slot} {m : Mem} {x0 x1 x2 x3 x4 x5 : Int} (C : CallFix p mt c cX0_worthOf 14 s args tb RX0) (S : Wd G A s H0 ad g m H locs) (hx0 : gk g x0 = 1) (hx1 : r32 x1) (hx2 : r32 x2) (hx3 : r32 x3) (hx4 : r32 x4) (hx5 : r32 x5) (hl : lv_has ls 14 [(0, .ref (ad x0)), (1, .int (iI x1)), (2, .int (iI x2)), (3, .int (iI x3)), (4, .int (iI x4)), (5, .int (iI x5))]) {r : Int} {m' : Mem} (hF : bX0_worthOf_0 fr g x0 x1 x2 x3 x4 x5 m = some (r, m')) (Kr : ∀ (H : Heap) (locs : List Loc) (pc : Nat) (ls : Array Slot), Wd G A s H0 ad g m' H locs → decode cX0_worthOf pc = .ok (.ireturn, 1) → r32 r ∧ (false = true → r = 0 ∨ r = 1) → narrow .int (.int (iI r)) = .int (iI r) → W p l e (rX0_worthOf (d + 1)) s mt args below meth c H locs 0 0 Q (F0 mt pc ls [.int (iI r)])) : W p l e (rX0_worthOf (d + 1)) s mt args below meth c H locs 0 0 Q (F0 mt 0 ls []) := by
  unfold bX0_worthOf_0 at hF
  refine q_iload_n C hl 1 rfl rfl dX0_worthOf_0 ?_
  refine q_aload_n C hl 0 rfl rfl dX0_worthOf_1 ?_
  obtain ⟨k1, hF⟩ := ck_ok hF
  refine q_getr C S 0 fo_RX0_14 (j := 0) rfl rfl hx0 k1 (by decide) dX0_worthOf_2 ?_
  refine q_geti C S 2 fo_RX0_49 (j := 2) rfl rfl k1 dX0_worthOf_5 ?_
  refine q_icmp_ge C hx1 (S.r _ _) 17 dX0_worthOf_8 (by decide) (fun hc2 => ?_) (fun hc2 => ?_)
  · have hF := if_t hc2 hF
    exact wX0_worthOf_17 hfr C S  (lv_sub hl [] rfl) hF Kr
  · have hF := if_f hc2 hF
    refine q_iload_n C hl 1 rfl rfl dX0_worthOf_11 ?_
    refine q_bipush C 18 (by decide) dX0_worthOf_12 ?_
    refine q_icmp_lt C hx1 (rl 18 rfl) 19 dX0_worthOf_14 (by decide) (fun hc3 => ?_) (fun hc3 => ?_)
    · have hF := if_t hc3 hF
      refine q_iload_n C hl 1 rfl rfl dX0_worthOf_19 ?_
      refine q_sipush C 343 (by decide) dX0_worthOf_20 ?_
      refine q_imul C dX0_worthOf_23 ?_
      refine q_iload_n C hl 3 rfl rfl dX0_worthOf_24 ?_
      refine q_bipush C 7 (by decide) dX0_worthOf_25 ?_
      refine q_imul C dX0_worthOf_27 ?_
      refine q_iload C hl 4 rfl dX0_worthOf_28 ?_
      refine q_iadd C dX0_worthOf_30 ?_
      refine q_bipush C 7 (by decide) dX0_worthOf_31 ?_
      refine q_imul C dX0_worthOf_33 ?_
      refine q_iadd C dX0_worthOf_34 ?_
      refine q_iload C hl 5 rfl dX0_worthOf_35 ?_
      refine q_iadd C dX0_worthOf_37 ?_
      obtain ⟨y4, ey4, hF⟩ := vv_ok hF
      have ry4 : r32 y4 := ey4 ▸ (r32_w _)
      refine q_istore C hl [(6, .int (iI y4)), (0, .ref (ad x0)), (1, .int (iI x1)), (2, .int (iI x2)), (3, .int (iI x3)), (4, .int (iI x4)), (5, .int (iI x5))] ey4 (by decide) rfl dX0_worthOf_38 (fun ls hl => ?_)
      refine q_iload_n C hl 3 rfl rfl dX0_worthOf_40 ?_
      refine q_aload_n C hl 1 rfl rfl dX0_worthOf_41 ?_
      refine q_getr C S 0 fo_RX0_14 (j := 0) rfl rfl hx0 k1 (by decide) dX0_worthOf_42 ?_
      obtain ⟨k5, hF⟩ := ck_ok hF
      refine q_getr C S 0 fo_RX0_60 (j := 0) rfl rfl k1 k5 (by decide) dX0_worthOf_45 ?_
      refine q_iload_n C hl 2 rfl rfl dX0_worthOf_48 ?_
      obtain ⟨i6, hF⟩ := ck_ok hF
      refine q_iald C S k5 i6 dX0_worthOf_49 ?_
      refine q_icmp_ne C hx2 (S.r _ _) 57 dX0_worthOf_50 (by decide) (fun hc7 => ?_) (fun hc7 => ?_)
      · have hF := if_t hc7 hF
        refine q_iconst C 1 dX0_worthOf_53 ?_
        refine q_goto C 58 dX0_worthOf_54 (by decide) ?_
        exact wX0_worthOf_58 hfr C S hx0 hx1 hx2 hx3 hx4 hx5 ry4 (rl 1 rfl) (lv_sub hl [1, 2, 3, 4, 5, 6, 0] rfl) hF Kr
      · have hF := if_f hc7 hF
        refine q_iconst C 0 dX0_worthOf_57 ?_
        exact wX0_worthOf_58 hfr C S hx0 hx1 hx2 hx3 hx4 hx5 ry4 (rl 0 rfl) (lv_sub hl [1, 2, 3, 4, 5, 6, 0] rfl) hF Kr
    · have hF := if_f hc3 hF
      exact wX0_worthOf_17 hfr C S  (lv_sub hl [] rfl) hF Kr
theorem cX0_worthOf_ok (l : Launch) (G : Gl) (d : Nat) : ∀ {g : Shp} {x0 x1 x2 x3 x4 x5 : Int} {m m' : Mem} {r : Int}, gk g x0 = 1 → r32 x1 → r32 x2 → r32 x3 → r32 x4 → r32 x5 → fX0_worthOf d g x0 x1 x2 x3 x4 x5 m = some (r, m') → mI l yX0_worthOf (wT yX0_worthOf cX0_worthOf 14 (some .int)) (rX0_worthOf d) G false (fun ad => [.ref (ad x0), .int (iI x1), .int (iI x2), .int (iI x3), .int (iI x4), .int (iI x5)]) g m r m' := by
  induction d with
  | zero =>
    intro g x0 x1 x2 x3 x4 x5 m m' r hx0 hx1 hx2 hx3 hx4 hx5 hF
    exact absurd hF (by simp [fX0_worthOf])
  | succ d ih =>
    intro g x0 x1 x2 x3 x4 x5 m m' r hx0 hx1 hx2 hx3 hx4 hx5 hF
    exact met_i (by decide) (fun ad => Nat.le_of_ble_eq_true rfl) (fun p e s mt args below meth c Q A H0 H locs ad ls C hnm S hl Kr => wX0_worthOf_0 ih C S hx0 hx1 hx2 hx3 hx4 hx5 hl hF Kr)
set_option maxRecDepth 20000 in
theorem wX0_isAslant_52 {p : Program} {l : Launch} {e : Env} {s : State} {mt : MethodId} {args : Array Value} {below : List Frame} {meth : Method} {c : Code} {Q : State → Prop} {G : Gl} {A : Nat → Prop} {H0 : Heap} {ad : Int → Nat} {g : Shp} {H : Heap} {locs : List Loc} {ls : Array Slot} {m : Mem} {z0 : Int} (C : CallFix p mt c cX0_isAslant 4 s args tb RX0) (S : Wd G A s H0 ad g m H locs) (hz0 : r32 z0) (hl : lv_has ls 4 []) {r : Int} {m' : Mem} (hF : bX0_isAslant_52 g z0 m = some (r, m')) (Kr : ∀ (H : Heap) (locs : List Loc) (pc : Nat) (ls : Array Slot), Wd G A s H0 ad g m' H locs → decode cX0_isAslant pc = .ok (.ireturn, 1) → r32 r ∧ (true = true → r = 0 ∨ r = 1) → narrow .boolean (.int (iI r)) = .int (iI r) → W p l e rX0_isAslant s mt args below meth c H locs 0 0 Q (F0 mt pc ls [.int (iI r)])) : W p l e rX0_isAslant s mt args below meth c H locs 0 0 Q (F0 mt 52 ls [.int (iI z0)]) := by
  unfold bX0_isAslant_52 at hF
  obtain ⟨b1, hF⟩ := ck_ok hF
  cases hF
  exact Kr _ _ _ _ S dX0_isAslant_52 ⟨r_b b1, fun _ => b1⟩ (nr_b b1)
set_option maxRecDepth 20000 in
theorem wX0_isAslant_51 {p : Program} {l : Launch} {e : Env} {s : State} {mt : MethodId} {args : Array Value} {below : List Frame} {meth : Method} {c : Code} {Q : State → Prop} {G : Gl} {A : Nat → Prop} {H0 : Heap} {ad : Int → Nat} {g : Shp} {H : Heap} {locs : List Loc} {ls : Array Slot} {m : Mem} (C : CallFix p mt c cX0_isAslant 4 s args tb RX0) (S : Wd G A s H0 ad g m H locs)  (hl : lv_has ls 4 []) {r : Int} {m' : Mem} (hF : bX0_isAslant_51 g m = some (r, m')) (Kr : ∀ (H : Heap) (locs : List Loc) (pc : Nat) (ls : Array Slot), Wd G A s H0 ad g m' H locs → decode cX0_isAslant pc = .ok (.ireturn, 1) → r32 r ∧ (true = true → r = 0 ∨ r = 1) → narrow .boolean (.int (iI r)) = .int (iI r) → W p l e rX0_isAslant s mt args below meth c H locs 0 0 Q (F0 mt pc ls [.int (iI r)])) : W p l e rX0_isAslant s mt args below meth c H locs 0 0 Q (F0 mt 51 ls []) := by
  unfold bX0_isAslant_51 at hF
  refine q_iconst C 0 dX0_isAslant_51 ?_
  exact wX0_isAslant_52 C S (rl 0 rfl) (lv_sub hl [] rfl) hF Kr
set_option maxRecDepth 20000 in
theorem wX0_isAslant_19 {p : Program} {l : Launch} {e : Env} {s : State} {mt : MethodId} {args : Array Value} {below : List Frame} {meth : Method} {c : Code} {Q : State → Prop} {G : Gl} {A : Nat → Prop} {H0 : Heap} {ad : Int → Nat} {g : Shp} {H : Heap} {locs : List Loc} {ls : Array Slot} {m : Mem} {x0 x1 z0 : Int} (C : CallFix p mt c cX0_isAslant 4 s args tb RX0) (S : Wd G A s H0 ad g m H locs) (hx0 : gk g x0 = 1) (hx1 : r32 x1) (hz0 : r32 z0) (hl : lv_has ls 4 [(0, .ref (ad x0)), (1, .int (iI x1))]) {r : Int} {m' : Mem} (hF : bX0_isAslant_19 g x0 x1 z0 m = some (r, m')) (Kr : ∀ (H : Heap) (locs : List Loc) (pc : Nat) (ls : Array Slot), Wd G A s H0 ad g m' H locs → decode cX0_isAslant pc = .ok (.ireturn, 1) → r32 r ∧ (true = true → r = 0 ∨ r = 1) → narrow .boolean (.int (iI r)) = .int (iI r) → W p l e rX0_isAslant s mt args below meth c H locs 0 0 Q (F0 mt pc ls [.int (iI r)])) : W p l e rX0_isAslant s mt args below meth c H locs 0 0 Q (F0 mt 19 ls [.int (iI z0)]) := by
  unfold bX0_isAslant_19 at hF
  refine q_istore_n C hl [(3, .int (iI z0)), (0, .ref (ad x0)), (1, .int (iI x1))] rfl rfl (by decide) rfl dX0_isAslant_19 (fun ls hl => ?_)
  refine q_iload_n C hl 2 rfl rfl dX0_isAslant_20 ?_
  refine q_aload_n C hl 1 rfl rfl dX0_isAslant_21 ?_
  refine q_geti C S 7 fo_RX0_99 (j := 7) rfl rfl hx0 dX0_isAslant_22 ?_
  refine q_icmp_ne C hx1 (S.r _ _) 51 dX0_isAslant_25 (by decide) (fun hc1 => ?_) (fun hc1 => ?_)
  · have hF := if_t hc1 hF
    refine q_aload_n C hl 1 rfl rfl dX0_isAslant_28 ?_
    obtain ⟨k2, hF⟩ := ck_ok hF
    refine q_getr C S 0 fo_RX0_14 (j := 0) rfl rfl hx0 k2 (by decide) dX0_isAslant_29 ?_
    obtain ⟨k3, hF⟩ := ck_ok hF
    refine q_getr C S 1 fo_RX0_63 (j := 1) rfl rfl k2 k3 (by decide) dX0_isAslant_32 ?_
    refine q_aload_n C hl 1 rfl rfl dX0_isAslant_35 ?_
    refine q_geti C S 6 fo_RX0_92 (j := 6) rfl rfl hx0 dX0_isAslant_36 ?_
    obtain ⟨i4, hF⟩ := ck_ok hF
    refine q_zald C S k3 i4 dX0_isAslant_39 ?_
    refine q_if_eq C (S.r _ _) 51 dX0_isAslant_40 (by decide) (fun hc5 => ?_) (fun hc5 => ?_)
    · have hF := if_t hc5 hF
      exact wX0_isAslant_51 C S  (lv_sub hl [] rfl) hF Kr
    · have hF := if_f hc5 hF
      refine q_iload_n C hl 0 rfl rfl dX0_isAslant_43 ?_
      refine q_if_ne C hz0 51 dX0_isAslant_44 (by decide) (fun hc6 => ?_) (fun hc6 => ?_)
      · have hF := if_t hc6 hF
        refine q_iconst C 1 dX0_isAslant_47 ?_
        refine q_goto C 52 dX0_isAslant_48 (by decide) ?_
        exact wX0_isAslant_52 C S (rl 1 rfl) (lv_sub hl [] rfl) hF Kr
      · have hF := if_f hc6 hF
        exact wX0_isAslant_51 C S  (lv_sub hl [] rfl) hF Kr
  · have hF := if_f hc1 hF
    exact wX0_isAslant_51 C S  (lv_sub hl [] rfl) hF Kr
set_option maxRecDepth 20000 in
theorem wX0_isAslant_18 {p : Program} {l : Launch} {e : Env} {s : State} {mt : MethodId} {args : Array Value} {below : List Frame} {meth : Method} {c : Code} {Q : State → Prop} {G : Gl} {A : Nat → Prop} {H0 : Heap} {ad : Int → Nat} {g : Shp} {H : Heap} {locs : List Loc} {ls : Array Slot} {m : Mem} {x0 x1 : Int} (C : CallFix p mt c cX0_isAslant 4 s args tb RX0) (S : Wd G A s H0 ad g m H locs) (hx0 : gk g x0 = 1) (hx1 : r32 x1) (hl : lv_has ls 4 [(0, .ref (ad x0)), (1, .int (iI x1))]) {r : Int} {m' : Mem} (hF : bX0_isAslant_18 g x0 x1 m = some (r, m')) (Kr : ∀ (H : Heap) (locs : List Loc) (pc : Nat) (ls : Array Slot), Wd G A s H0 ad g m' H locs → decode cX0_isAslant pc = .ok (.ireturn, 1) → r32 r ∧ (true = true → r = 0 ∨ r = 1) → narrow .boolean (.int (iI r)) = .int (iI r) → W p l e rX0_isAslant s mt args below meth c H locs 0 0 Q (F0 mt pc ls [.int (iI r)])) : W p l e rX0_isAslant s mt args below meth c H locs 0 0 Q (F0 mt 18 ls []) := by
  unfold bX0_isAslant_18 at hF
  refine q_iconst C 0 dX0_isAslant_18 ?_
  exact wX0_isAslant_19 C S hx0 hx1 (rl 0 rfl) (lv_sub hl [0, 1] rfl) hF Kr
set_option maxRecDepth 20000 in
theorem wX0_isAslant_0 {p : Program} {l : Launch} {e : Env} {s : State} {mt : MethodId} {args : Array Value} {below : List Frame} {meth : Method} {c : Code} {Q : State → Prop} {G : Gl} {A : Nat → Prop} {H0 : Heap} {ad : Int → Nat} {g : Shp} {H : Heap} {locs : List Loc} {ls : Array Slot} {m : Mem} {x0 x1 x2 : Int} (C : CallFix p mt c cX0_isAslant 4 s args tb RX0) (S : Wd G A s H0 ad g m H locs) (hx0 : gk g x0 = 1) (hx1 : r32 x1) (hx2 : r32 x2) (hl : lv_has ls 4 [(0, .ref (ad x0)), (1, .int (iI x1)), (2, .int (iI x2))]) {r : Int} {m' : Mem} (hF : bX0_isAslant_0 g x0 x1 x2 m = some (r, m')) (Kr : ∀ (H : Heap) (locs : List Loc) (pc : Nat) (ls : Array Slot), Wd G A s H0 ad g m' H locs → decode cX0_isAslant pc = .ok (.ireturn, 1) → r32 r ∧ (true = true → r = 0 ∨ r = 1) → narrow .boolean (.int (iI r)) = .int (iI r) → W p l e rX0_isAslant s mt args below meth c H locs 0 0 Q (F0 mt pc ls [.int (iI r)])) : W p l e rX0_isAslant s mt args below meth c H locs 0 0 Q (F0 mt 0 ls []) := by
  unfold bX0_isAslant_0 at hF
  refine q_iload_n C hl 2 rfl rfl dX0_isAslant_0 ?_
  refine q_if_ne C hx2 18 dX0_isAslant_1 (by decide) (fun hc1 => ?_) (fun hc1 => ?_)
  · have hF := if_t hc1 hF
    refine q_iload_n C hl 1 rfl rfl dX0_isAslant_4 ?_
    refine q_aload_n C hl 0 rfl rfl dX0_isAslant_5 ?_
    obtain ⟨k2, hF⟩ := ck_ok hF
    refine q_getr C S 3 fo_RX0_28 (j := 3) rfl rfl hx0 k2 (by decide) dX0_isAslant_6 ?_
    refine q_iconst C 0 dX0_isAslant_9 ?_
    obtain ⟨i3, hF⟩ := ck_ok hF
    refine q_iald C S k2 i3 dX0_isAslant_10 ?_
    refine q_icmp_ne C hx1 (S.r _ _) 18 dX0_isAslant_11 (by decide) (fun hc4 => ?_) (fun hc4 => ?_)
    · have hF := if_t hc4 hF
      refine q_iconst C 1 dX0_isAslant_14 ?_
      refine q_goto C 19 dX0_isAslant_15 (by decide) ?_
      exact wX0_isAslant_19 C S hx0 hx1 (rl 1 rfl) (lv_sub hl [0, 1] rfl) hF Kr
    · have hF := if_f hc4 hF
      exact wX0_isAslant_18 C S hx0 hx1 (lv_sub hl [0, 1] rfl) hF Kr
  · have hF := if_f hc1 hF
    exact wX0_isAslant_18 C S hx0 hx1 (lv_sub hl [0, 1] rfl) hF Kr
theorem cX0_isAslant_ok (l : Launch) (G : Gl) {g : Shp} {x0 x1 x2 : Int} {m m' : Mem} {r : Int} (hx0 : gk g x0 = 1) (hx1 : r32 x1) (hx2 : r32 x2) (hF : fX0_isAslant g x0 x1 x2 m = some (r, m')) : mI l yX0_isAslant (wT yX0_isAslant cX0_isAslant 4 (some .boolean)) rX0_isAslant G true (fun ad => [.ref (ad x0), .int (iI x1), .int (iI x2)]) g m r m' :=
  met_i (by decide) (fun ad => Nat.le_of_ble_eq_true rfl) (fun p e s mt args below meth c Q A H0 H locs ad ls C hnm S hl Kr => wX0_isAslant_0 C S hx0 hx1 hx2 hl hF Kr)
set_option maxRecDepth 20000 in
theorem wX0_ownWorth_29 {p : Program} {l : Launch} {e : Env} {s : State} {mt : MethodId} {args : Array Value} {below : List Frame} {meth : Method} {c : Code} {Q : State → Prop} {G : Gl} {A : Nat → Prop} {H0 : Heap} {ad : Int → Nat} {g : Shp} {H : Heap} {locs : List Loc} {ls : Array Slot} {m : Mem} {z0 z1 : Int} (C : CallFix p mt c cX0_ownWorth 4 s args tb RX0) (S : Wd G A s H0 ad g m H locs) (hz0 : r32 z0) (hz1 : r32 z1) (hl : lv_has ls 4 []) {r : Int} {m' : Mem} (hF : bX0_ownWorth_29 g z0 z1 m = some (r, m')) (Kr : ∀ (H : Heap) (locs : List Loc) (pc : Nat) (ls : Array Slot), Wd G A s H0 ad g m' H locs → decode cX0_ownWorth pc = .ok (.ireturn, 1) → r32 r ∧ (false = true → r = 0 ∨ r = 1) → narrow .int (.int (iI r)) = .int (iI r) → W p l e rX0_ownWorth s mt args below meth c H locs 0 0 Q (F0 mt pc ls [.int (iI r)])) : W p l e rX0_ownWorth s mt args below meth c H locs 0 0 Q (F0 mt 29 ls [.int (iI z1), .int (iI z0)]) := by
  unfold bX0_ownWorth_29 at hF
  refine q_iadd C dX0_ownWorth_29 ?_
  obtain ⟨y1, ey1, hF⟩ := vv_ok hF
  have ry1 : r32 y1 := ey1 ▸ (r32_w _)
  refine q_istore_n C hl [(3, .int (iI y1))] ey1 rfl (by decide) rfl dX0_ownWorth_30 (fun ls hl => ?_)
  refine q_iload_n C hl 0 rfl rfl dX0_ownWorth_31 ?_
  refine q_bipush C 32 (by decide) dX0_ownWorth_32 ?_
  refine q_imul C dX0_ownWorth_34 ?_
  refine q_iconst C 1 dX0_ownWorth_35 ?_
  refine q_iadd C dX0_ownWorth_36 ?_
  cases hF
  exact Kr _ _ _ _ S dX0_ownWorth_37 ⟨(r32_w _), fun h9 => absurd h9 (by decide)⟩ rfl
set_option maxRecDepth 20000 in
theorem wX0_ownWorth_15 {p : Program} {l : Launch} {e : Env} {s : State} {mt : MethodId} {args : Array Value} {below : List Frame} {meth : Method} {c : Code} {Q : State → Prop} {G : Gl} {A : Nat → Prop} {H0 : Heap} {ad : Int → Nat} {g : Shp} {H : Heap} {locs : List Loc} {ls : Array Slot} {m : Mem} {x0 x1 x2 z0 : Int} (C : CallFix p mt c cX0_ownWorth 4 s args tb RX0) (S : Wd G A s H0 ad g m H locs) (hx0 : gk g x0 = 1) (hx1 : r32 x1) (hx2 : r32 x2) (hz0 : r32 z0) (hl : lv_has ls 4 [(0, .ref (ad x0)), (1, .int (iI x1)), (2, .int (iI x2))]) {r : Int} {m' : Mem} (hF : bX0_ownWorth_15 g x0 x1 x2 z0 m = some (r, m')) (Kr : ∀ (H : Heap) (locs : List Loc) (pc : Nat) (ls : Array Slot), Wd G A s H0 ad g m' H locs → decode cX0_ownWorth pc = .ok (.ireturn, 1) → r32 r ∧ (false = true → r = 0 ∨ r = 1) → narrow .int (.int (iI r)) = .int (iI r) → W p l e rX0_ownWorth s mt args below meth c H locs 0 0 Q (F0 mt pc ls [.int (iI r)])) : W p l e rX0_ownWorth s mt args below meth c H locs 0 0 Q (F0 mt 15 ls [.int (iI z0)]) := by
  unfold bX0_ownWorth_15 at hF
  refine q_aload_n C hl 0 rfl rfl dX0_ownWorth_15 ?_
  refine q_iload_n C hl 1 rfl rfl dX0_ownWorth_16 ?_
  refine q_iload_n C hl 2 rfl rfl dX0_ownWorth_17 ?_
  obtain ⟨v1, m2, h3, hF⟩ := bd2_ok hF
  refine q_ci S (run_V (As := [.int (iI x1), .int (iI x2)]) (rest := [.int (iI z0)]) C S (cX0_isAslant_ok l G hx0 hx1 hx2 h3 ad _) hx0 ⟨by decide, _, _, rfl⟩ gd_RX0_150 hdV_X0_isAslant rfl ⟨rfl, rfl, by decide, by decide⟩ ⟨Nat.zero_le _, Nat.zero_le _⟩ hl.1 rfl (Nat.le_of_ble_eq_true rfl) dX0_ownWorth_18) (fun H locs Sm2 h4 => ?_)
  refine q_if_eq C h4.1 28 dX0_ownWorth_21 (by decide) (fun hc5 => ?_) (fun hc5 => ?_)
  · have hF := if_t hc5 hF
    refine q_iconst C 0 dX0_ownWorth_28 ?_
    exact wX0_ownWorth_29 C Sm2 hz0 (rl 0 rfl) (lv_sub hl [] rfl) hF Kr
  · have hF := if_f hc5 hF
    refine q_iconst C 1 dX0_ownWorth_24 ?_
    refine q_goto C 29 dX0_ownWorth_25 (by decide) ?_
    exact wX0_ownWorth_29 C Sm2 hz0 (rl 1 rfl) (lv_sub hl [] rfl) hF Kr
set_option maxRecDepth 20000 in
theorem wX0_ownWorth_0 {p : Program} {l : Launch} {e : Env} {s : State} {mt : MethodId} {args : Array Value} {below : List Frame} {meth : Method} {c : Code} {Q : State → Prop} {G : Gl} {A : Nat → Prop} {H0 : Heap} {ad : Int → Nat} {g : Shp} {H : Heap} {locs : List Loc} {ls : Array Slot} {m : Mem} {x0 x1 x2 : Int} (C : CallFix p mt c cX0_ownWorth 4 s args tb RX0) (S : Wd G A s H0 ad g m H locs) (hx0 : gk g x0 = 1) (hx1 : r32 x1) (hx2 : r32 x2) (hl : lv_has ls 4 [(0, .ref (ad x0)), (1, .int (iI x1)), (2, .int (iI x2))]) {r : Int} {m' : Mem} (hF : bX0_ownWorth_0 g x0 x1 x2 m = some (r, m')) (Kr : ∀ (H : Heap) (locs : List Loc) (pc : Nat) (ls : Array Slot), Wd G A s H0 ad g m' H locs → decode cX0_ownWorth pc = .ok (.ireturn, 1) → r32 r ∧ (false = true → r = 0 ∨ r = 1) → narrow .int (.int (iI r)) = .int (iI r) → W p l e rX0_ownWorth s mt args below meth c H locs 0 0 Q (F0 mt pc ls [.int (iI r)])) : W p l e rX0_ownWorth s mt args below meth c H locs 0 0 Q (F0 mt 0 ls []) := by
  unfold bX0_ownWorth_0 at hF
  refine q_iload_n C hl 1 rfl rfl dX0_ownWorth_0 ?_
  refine q_aload_n C hl 0 rfl rfl dX0_ownWorth_1 ?_
  obtain ⟨k1, hF⟩ := ck_ok hF
  refine q_getr C S 3 fo_RX0_28 (j := 3) rfl rfl hx0 k1 (by decide) dX0_ownWorth_2 ?_
  refine q_iload_n C hl 2 rfl rfl dX0_ownWorth_5 ?_
  obtain ⟨i2, hF⟩ := ck_ok hF
  refine q_iald C S k1 i2 dX0_ownWorth_6 ?_
  refine q_icmp_ge C hx1 (S.r _ _) 14 dX0_ownWorth_7 (by decide) (fun hc3 => ?_) (fun hc3 => ?_)
  · have hF := if_t hc3 hF
    refine q_iconst C 0 dX0_ownWorth_14 ?_
    exact wX0_ownWorth_15 C S hx0 hx1 hx2 (rl 0 rfl) (lv_sub hl [0, 1, 2] rfl) hF Kr
  · have hF := if_f hc3 hF
    refine q_iconst C 1 dX0_ownWorth_10 ?_
    refine q_goto C 15 dX0_ownWorth_11 (by decide) ?_
    exact wX0_ownWorth_15 C S hx0 hx1 hx2 (rl 1 rfl) (lv_sub hl [0, 1, 2] rfl) hF Kr
theorem cX0_ownWorth_ok (l : Launch) (G : Gl) {g : Shp} {x0 x1 x2 : Int} {m m' : Mem} {r : Int} (hx0 : gk g x0 = 1) (hx1 : r32 x1) (hx2 : r32 x2) (hF : fX0_ownWorth g x0 x1 x2 m = some (r, m')) : mI l yX0_ownWorth (wT yX0_ownWorth cX0_ownWorth 4 (some .int)) rX0_ownWorth G false (fun ad => [.ref (ad x0), .int (iI x1), .int (iI x2)]) g m r m' :=
  met_i (by decide) (fun ad => Nat.le_of_ble_eq_true rfl) (fun p e s mt args below meth c Q A H0 H locs ad ls C hnm S hl Kr => wX0_ownWorth_0 C S hx0 hx1 hx2 hl hF Kr)
set_option maxRecDepth 20000 in
theorem wX0_isNext_141 {p : Program} {l : Launch} {e : Env} {s : State} {mt : MethodId} {args : Array Value} {below : List Frame} {meth : Method} {c : Code} {Q : State → Prop} {G : Gl} {A : Nat → Prop} {H0 : Heap} {ad : Int → Nat} {g : Shp} {H : Heap} {locs : List Loc} {ls : Array Slot} {m : Mem} {z0 : Int} (C : CallFix p mt c cX0_isNext 5 s args tb RX0) (S : Wd G A s H0 ad g m H locs) (hz0 : r32 z0) (hl : lv_has ls 5 []) {r : Int} {m' : Mem} (hF : bX0_isNext_141 g z0 m = some (r, m')) (Kr : ∀ (H : Heap) (locs : List Loc) (pc : Nat) (ls : Array Slot), Wd G A s H0 ad g m' H locs → decode cX0_isNext pc = .ok (.ireturn, 1) → r32 r ∧ (true = true → r = 0 ∨ r = 1) → narrow .boolean (.int (iI r)) = .int (iI r) → W p l e rX0_isNext s mt args below meth c H locs 0 0 Q (F0 mt pc ls [.int (iI r)])) : W p l e rX0_isNext s mt args below meth c H locs 0 0 Q (F0 mt 141 ls [.int (iI z0)]) := by
  unfold bX0_isNext_141 at hF
  obtain ⟨b1, hF⟩ := ck_ok hF
  cases hF
  exact Kr _ _ _ _ S dX0_isNext_141 ⟨r_b b1, fun _ => b1⟩ (nr_b b1)
set_option maxRecDepth 20000 in
theorem wX0_isNext_108 {p : Program} {l : Launch} {e : Env} {s : State} {mt : MethodId} {args : Array Value} {below : List Frame} {meth : Method} {c : Code} {Q : State → Prop} {G : Gl} {A : Nat → Prop} {H0 : Heap} {ad : Int → Nat} {g : Shp} {H : Heap} {locs : List Loc} {ls : Array Slot} {m : Mem} {x0 x1 x2 z0 : Int} (C : CallFix p mt c cX0_isNext 5 s args tb RX0) (S : Wd G A s H0 ad g m H locs) (hx0 : gk g x0 = 1) (hx1 : r32 x1) (hx2 : r32 x2) (hz0 : r32 z0) (hl : lv_has ls 5 [(0, .ref (ad x0)), (1, .int (iI x1)), (2, .int (iI x2))]) {r : Int} {m' : Mem} (hF : bX0_isNext_108 g x0 x1 x2 z0 m = some (r, m')) (Kr : ∀ (H : Heap) (locs : List Loc) (pc : Nat) (ls : Array Slot), Wd G A s H0 ad g m' H locs → decode cX0_isNext pc = .ok (.ireturn, 1) → r32 r ∧ (true = true → r = 0 ∨ r = 1) → narrow .boolean (.int (iI r)) = .int (iI r) → W p l e rX0_isNext s mt args below meth c H locs 0 0 Q (F0 mt pc ls [.int (iI r)])) : W p l e rX0_isNext s mt args below meth c H locs 0 0 Q (F0 mt 108 ls [.int (iI z0)]) := by
  unfold bX0_isNext_108 at hF
  refine q_istore C hl [(4, .int (iI z0)), (0, .ref (ad x0)), (1, .int (iI x1)), (2, .int (iI x2))] rfl (by decide) rfl dX0_isNext_108 (fun ls hl => ?_)
  refine q_aload_n C hl 1 rfl rfl dX0_isNext_110 ?_
  obtain ⟨k1, hF⟩ := ck_ok hF
  refine q_getr C S 4 fo_RX0_31 (j := 4) rfl rfl hx0 k1 (by decide) dX0_isNext_111 ?_
  refine q_iload_n C hl 3 rfl rfl dX0_isNext_114 ?_
  refine q_dup2 C rfl rfl dX0_isNext_115 ?_
  obtain ⟨i2, hF⟩ := ck_ok hF
  refine q_iald C S k1 i2 dX0_isNext_116 ?_
  refine q_iconst C 1 dX0_isNext_117 ?_
  refine q_iadd C dX0_isNext_118 ?_
  obtain ⟨i3, hF⟩ := ck_ok hF
  obtain ⟨m4, em4, hF⟩ := vm_ok hF
  refine q_iast C S k1 i3 (r32_w _) em4 dX0_isNext_119 (fun H locs Sm4 => ?_)
  refine q_aload_n C hl 1 rfl rfl dX0_isNext_120 ?_
  refine q_iload_n C hl 2 rfl rfl dX0_isNext_121 ?_
  refine q_iload_n C hl 3 rfl rfl dX0_isNext_122 ?_
  obtain ⟨v5, m6, h7, hF⟩ := bd2_ok hF
  refine q_ci Sm4 (run_V (As := [.int (iI x1), .int (iI x2)]) (rest := []) C Sm4 (cX0_ownWorth_ok l G hx0 hx1 hx2 h7 ad _) hx0 ⟨by decide, _, _, rfl⟩ gd_RX0_153 hdV_X0_ownWorth rfl ⟨rfl, rfl, by decide, by decide⟩ ⟨Nat.zero_le _, Nat.zero_le _⟩ hl.1 rfl (Nat.le_of_ble_eq_true rfl) dX0_isNext_123) (fun H locs Sm6 h8 => ?_)
  refine q_iload C hl 0 rfl dX0_isNext_126 ?_
  refine q_iadd C dX0_isNext_128 ?_
  refine q_aload_n C hl 1 rfl rfl dX0_isNext_129 ?_
  refine q_geti C Sm6 8 fo_RX0_106 (j := 8) rfl rfl hx0 dX0_isNext_130 ?_
  refine q_icmp_ne C (r32_w _) (Sm6.r _ _) 140 dX0_isNext_133 (by decide) (fun hc9 => ?_) (fun hc9 => ?_)
  · have hF := if_t hc9 hF
    refine q_iconst C 1 dX0_isNext_136 ?_
    refine q_goto C 141 dX0_isNext_137 (by decide) ?_
    exact wX0_isNext_141 C Sm6 (rl 1 rfl) (lv_sub hl [] rfl) hF Kr
  · have hF := if_f hc9 hF
    refine q_iconst C 0 dX0_isNext_140 ?_
    exact wX0_isNext_141 C Sm6 (rl 0 rfl) (lv_sub hl [] rfl) hF Kr
set_option maxRecDepth 20000 in
theorem wX0_isNext_21 {p : Program} {l : Launch} {e : Env} {s : State} {mt : MethodId} {args : Array Value} {below : List Frame} {meth : Method} {c : Code} {Q : State → Prop} {G : Gl} {A : Nat → Prop} {H0 : Heap} {ad : Int → Nat} {g : Shp} {H : Heap} {locs : List Loc} {ls : Array Slot} {m : Mem} {x0 x1 x2 x3 : Int} (C : CallFix p mt c cX0_isNext 5 s args tb RX0) (S : Wd G A s H0 ad g m H locs) (hx0 : gk g x0 = 1) (hx1 : r32 x1) (hx2 : r32 x2) (hx3 : r32 x3) (hl : lv_has ls 5 [(0, .ref (ad x0)), (1, .int (iI x1)), (2, .int (iI x2)), (3, .int (iI x3))]) {r : Int} {m' : Mem} (hF : bX0_isNext_21 g x0 x1 x2 x3 m = some (r, m')) (Kr : ∀ (H : Heap) (locs : List Loc) (pc : Nat) (ls : Array Slot), Wd G A s H0 ad g m' H locs → decode cX0_isNext pc = .ok (.ireturn, 1) → r32 r ∧ (true = true → r = 0 ∨ r = 1) → narrow .boolean (.int (iI r)) = .int (iI r) → W p l e rX0_isNext s mt args below meth c H locs 0 0 Q (F0 mt pc ls [.int (iI r)])) : W p l e rX0_isNext s mt args below meth c H locs 0 0 Q (F0 mt 21 ls []) := by
  unfold bX0_isNext_21 at hF
  refine q_aload_n C hl 0 rfl rfl dX0_isNext_21 ?_
  obtain ⟨k1, hF⟩ := ck_ok hF
  refine q_getr C S 4 fo_RX0_31 (j := 4) rfl rfl hx0 k1 (by decide) dX0_isNext_22 ?_
  refine q_iload_n C hl 2 rfl rfl dX0_isNext_25 ?_
  refine q_dup2 C rfl rfl dX0_isNext_26 ?_
  obtain ⟨i2, hF⟩ := ck_ok hF
  refine q_iald C S k1 i2 dX0_isNext_27 ?_
  refine q_iconst C 1 dX0_isNext_28 ?_
  refine q_isub C dX0_isNext_29 ?_
  obtain ⟨i3, hF⟩ := ck_ok hF
  obtain ⟨m4, em4, hF⟩ := vm_ok hF
  refine q_iast C S k1 i3 (r32_w _) em4 dX0_isNext_30 (fun H locs Sm4 => ?_)
  refine q_iload_n C hl 3 rfl rfl dX0_isNext_31 ?_
  refine q_if_ne C hx3 76 dX0_isNext_32 (by decide) (fun hc5 => ?_) (fun hc5 => ?_)
  · have hF := if_t hc5 hF
    refine q_aload_n C hl 0 rfl rfl dX0_isNext_35 ?_
    refine q_aload_n C hl 0 rfl rfl dX0_isNext_36 ?_
    refine q_geti C Sm4 6 fo_RX0_92 (j := 6) rfl rfl hx0 dX0_isNext_37 ?_
    refine q_iconst C 1 dX0_isNext_40 ?_
    refine q_iadd C dX0_isNext_41 ?_
    refine q_aload_n C hl 0 rfl rfl dX0_isNext_42 ?_
    refine q_aload_n C hl 0 rfl rfl dX0_isNext_43 ?_
    refine q_geti C Sm4 6 fo_RX0_92 (j := 6) rfl rfl hx0 dX0_isNext_44 ?_
    refine q_iconst C 1 dX0_isNext_47 ?_
    refine q_iadd C dX0_isNext_48 ?_
    obtain ⟨v6, m7, h8, hF⟩ := bd2_ok hF
    refine q_ci Sm4 (run_V (As := [.int (iI (w32 ((m4 x0 6) + 1)))]) (rest := [.int (iI (w32 ((m4 x0 6) + 1))), .ref (ad x0)]) C Sm4 (cX0_cellsOf_ok l G hx0 (r32_w _) h8 ad _) hx0 ⟨by decide, _, _, rfl⟩ gd_RX0_95 hdV_X0_cellsOf rfl ⟨rfl, rfl, by decide, by decide⟩ ⟨Nat.zero_le _, Nat.zero_le _⟩ hl.1 rfl (Nat.le_of_ble_eq_true rfl) dX0_isNext_49) (fun H locs Sm7 h9 => ?_)
    refine q_aload_n C hl 0 rfl rfl dX0_isNext_52 ?_
    obtain ⟨k10, hF⟩ := ck_ok hF
    refine q_getr C Sm7 4 fo_RX0_31 (j := 4) rfl rfl hx0 k10 (by decide) dX0_isNext_53 ?_
    refine q_iconst C 0 dX0_isNext_56 ?_
    obtain ⟨i11, hF⟩ := ck_ok hF
    refine q_iald C Sm7 k10 i11 dX0_isNext_57 ?_
    refine q_aload_n C hl 0 rfl rfl dX0_isNext_58 ?_
    refine q_getr C Sm7 4 fo_RX0_31 (j := 4) rfl rfl hx0 k10 (by decide) dX0_isNext_59 ?_
    refine q_iconst C 1 dX0_isNext_62 ?_
    obtain ⟨i12, hF⟩ := ck_ok hF
    refine q_iald C Sm7 k10 i12 dX0_isNext_63 ?_
    refine q_aload_n C hl 0 rfl rfl dX0_isNext_64 ?_
    refine q_getr C Sm7 4 fo_RX0_31 (j := 4) rfl rfl hx0 k10 (by decide) dX0_isNext_65 ?_
    refine q_iconst C 2 dX0_isNext_68 ?_
    obtain ⟨i13, hF⟩ := ck_ok hF
    refine q_iald C Sm7 k10 i13 dX0_isNext_69 ?_
    obtain ⟨v14, m15, h16, hF⟩ := bd2_ok hF
    refine q_ci Sm7 (run_V (As := [.int (iI (w32 ((m4 x0 6) + 1))), .int (iI v6), .int (iI (m7 (m7 x0 4) 0)), .int (iI (m7 (m7 x0 4) 1)), .int (iI (m7 (m7 x0 4) 2))]) (rest := []) C Sm7 (cX0_worthOf_ok l G 24 hx0 (r32_w _) h9.1 (Sm7.r _ _) (Sm7.r _ _) (Sm7.r _ _) h16 ad _) hx0 ⟨by decide, _, _, rfl⟩ gd_RX0_102 hdV_X0_worthOf rfl ⟨rfl, rfl, by decide, by decide⟩ ⟨Nat.zero_le _, Nat.zero_le _⟩ hl.1 rfl (Nat.le_of_ble_eq_true rfl) dX0_isNext_70) (fun H locs Sm15 h17 => ?_)
    refine q_goto C 108 dX0_isNext_73 (by decide) ?_
    exact wX0_isNext_108 C Sm15 hx0 hx1 hx2 h17.1 (lv_sub hl [0, 1, 2] rfl) hF Kr
  · have hF := if_f hc5 hF
    refine q_aload_n C hl 0 rfl rfl dX0_isNext_76 ?_
    refine q_aload_n C hl 0 rfl rfl dX0_isNext_77 ?_
    refine q_geti C Sm4 6 fo_RX0_92 (j := 6) rfl rfl hx0 dX0_isNext_78 ?_
    refine q_iload_n C hl 3 rfl rfl dX0_isNext_81 ?_
    refine q_aload_n C hl 0 rfl rfl dX0_isNext_82 ?_
    refine q_geti C Sm4 5 fo_RX0_75 (j := 5) rfl rfl hx0 dX0_isNext_83 ?_
    refine q_isub C dX0_isNext_86 ?_
    refine q_aload_n C hl 0 rfl rfl dX0_isNext_87 ?_
    obtain ⟨k18, hF⟩ := ck_ok hF
    refine q_getr C Sm4 4 fo_RX0_31 (j := 4) rfl rfl hx0 k18 (by decide) dX0_isNext_88 ?_
    refine q_iconst C 0 dX0_isNext_91 ?_
    obtain ⟨i19, hF⟩ := ck_ok hF
    refine q_iald C Sm4 k18 i19 dX0_isNext_92 ?_
    refine q_aload_n C hl 0 rfl rfl dX0_isNext_93 ?_
    refine q_getr C Sm4 4 fo_RX0_31 (j := 4) rfl rfl hx0 k18 (by decide) dX0_isNext_94 ?_
    refine q_iconst C 1 dX0_isNext_97 ?_
    obtain ⟨i20, hF⟩ := ck_ok hF
    refine q_iald C Sm4 k18 i20 dX0_isNext_98 ?_
    refine q_aload_n C hl 0 rfl rfl dX0_isNext_99 ?_
    refine q_getr C Sm4 4 fo_RX0_31 (j := 4) rfl rfl hx0 k18 (by decide) dX0_isNext_100 ?_
    refine q_iconst C 2 dX0_isNext_103 ?_
    obtain ⟨i21, hF⟩ := ck_ok hF
    refine q_iald C Sm4 k18 i21 dX0_isNext_104 ?_
    obtain ⟨v22, m23, h24, hF⟩ := bd2_ok hF
    refine q_ci Sm4 (run_V (As := [.int (iI (m4 x0 6)), .int (iI (w32 (x3 - (m4 x0 5)))), .int (iI (m4 (m4 x0 4) 0)), .int (iI (m4 (m4 x0 4) 1)), .int (iI (m4 (m4 x0 4) 2))]) (rest := []) C Sm4 (cX0_worthOf_ok l G 24 hx0 (Sm4.r _ _) (r32_w _) (Sm4.r _ _) (Sm4.r _ _) (Sm4.r _ _) h24 ad _) hx0 ⟨by decide, _, _, rfl⟩ gd_RX0_102 hdV_X0_worthOf rfl ⟨rfl, rfl, by decide, by decide⟩ ⟨Nat.zero_le _, Nat.zero_le _⟩ hl.1 rfl (Nat.le_of_ble_eq_true rfl) dX0_isNext_105) (fun H locs Sm23 h25 => ?_)
    exact wX0_isNext_108 C Sm23 hx0 hx1 hx2 h25.1 (lv_sub hl [0, 1, 2] rfl) hF Kr
set_option maxRecDepth 20000 in
theorem wX0_isNext_0 {p : Program} {l : Launch} {e : Env} {s : State} {mt : MethodId} {args : Array Value} {below : List Frame} {meth : Method} {c : Code} {Q : State → Prop} {G : Gl} {A : Nat → Prop} {H0 : Heap} {ad : Int → Nat} {g : Shp} {H : Heap} {locs : List Loc} {ls : Array Slot} {m : Mem} {x0 x1 x2 : Int} (C : CallFix p mt c cX0_isNext 5 s args tb RX0) (S : Wd G A s H0 ad g m H locs) (hx0 : gk g x0 = 1) (hx1 : r32 x1) (hx2 : r32 x2) (hl : lv_has ls 5 [(0, .ref (ad x0)), (1, .int (iI x1)), (2, .int (iI x2))]) {r : Int} {m' : Mem} (hF : bX0_isNext_0 g x0 x1 x2 m = some (r, m')) (Kr : ∀ (H : Heap) (locs : List Loc) (pc : Nat) (ls : Array Slot), Wd G A s H0 ad g m' H locs → decode cX0_isNext pc = .ok (.ireturn, 1) → r32 r ∧ (true = true → r = 0 ∨ r = 1) → narrow .boolean (.int (iI r)) = .int (iI r) → W p l e rX0_isNext s mt args below meth c H locs 0 0 Q (F0 mt pc ls [.int (iI r)])) : W p l e rX0_isNext s mt args below meth c H locs 0 0 Q (F0 mt 0 ls []) := by
  unfold bX0_isNext_0 at hF
  refine q_aload_n C hl 0 rfl rfl dX0_isNext_0 ?_
  refine q_geti C S 7 fo_RX0_99 (j := 7) rfl rfl hx0 dX0_isNext_1 ?_
  refine q_iload_n C hl 1 rfl rfl dX0_isNext_4 ?_
  refine q_isub C dX0_isNext_5 ?_
  obtain ⟨y1, ey1, hF⟩ := vv_ok hF
  have ry1 : r32 y1 := ey1 ▸ (r32_w _)
  refine q_istore_n C hl [(3, .int (iI y1)), (0, .ref (ad x0)), (1, .int (iI x1)), (2, .int (iI x2))] ey1 rfl (by decide) rfl dX0_isNext_6 (fun ls hl => ?_)
  refine q_iload_n C hl 0 rfl rfl dX0_isNext_7 ?_
  refine q_if_le C ry1 21 dX0_isNext_8 (by decide) (fun hc2 => ?_) (fun hc2 => ?_)
  · have hF := if_t hc2 hF
    exact wX0_isNext_21 C S hx0 hx1 hx2 ry1 (lv_sub hl [1, 2, 3, 0] rfl) hF Kr
  · have hF := if_f hc2 hF
    refine q_iload_n C hl 0 rfl rfl dX0_isNext_11 ?_
    refine q_aload_n C hl 1 rfl rfl dX0_isNext_12 ?_
    refine q_geti C S 5 fo_RX0_75 (j := 5) rfl rfl hx0 dX0_isNext_13 ?_
    refine q_icmp_gt C ry1 (S.r _ _) 21 dX0_isNext_16 (by decide) (fun hc3 => ?_) (fun hc3 => ?_)
    · have hF := if_t hc3 hF
      exact wX0_isNext_21 C S hx0 hx1 hx2 ry1 (lv_sub hl [1, 2, 3, 0] rfl) hF Kr
    · have hF := if_f hc3 hF
      refine q_iconst C 0 dX0_isNext_19 ?_
      cases hF
      exact Kr _ _ _ _ S dX0_isNext_20 ⟨r_b b_0, fun _ => b_0⟩ (nr_b b_0)
theorem cX0_isNext_ok (l : Launch) (G : Gl) {g : Shp} {x0 x1 x2 : Int} {m m' : Mem} {r : Int} (hx0 : gk g x0 = 1) (hx1 : r32 x1) (hx2 : r32 x2) (hF : fX0_isNext g x0 x1 x2 m = some (r, m')) : mI l yX0_isNext (wT yX0_isNext cX0_isNext 5 (some .boolean)) rX0_isNext G true (fun ad => [.ref (ad x0), .int (iI x1), .int (iI x2)]) g m r m' :=
  met_i (by decide) (fun ad => Nat.le_of_ble_eq_true rfl) (fun p e s mt args below meth c Q A H0 H locs ad ls C hnm S hl Kr => wX0_isNext_0 C S hx0 hx1 hx2 hl hF Kr)
set_option maxRecDepth 20000 in
theorem wX9_add_115 {p : Program} {l : Launch} {e : Env} {s : State} {mt : MethodId} {args : Array Value} {below : List Frame} {meth : Method} {c : Code} {Q : State → Prop} {G : Gl} {A : Nat → Prop} {H0 : Heap} {ad : Int → Nat} {g : Shp} {H : Heap} {locs : List Loc} {ls : Array Slot} {m : Mem} (C : CallFix p mt c cX9_add 6 s args tb RX9) (S : Wd G A s H0 ad g m H locs)  (hl : lv_has ls 6 []) {r : Int} {m' : Mem} (hF : bX9_add_115 g m = some (r, m')) (Kr : ∀ (H : Heap) (locs : List Loc) (pc : Nat) (ls : Array Slot), Wd G A s H0 ad g m' H locs → decode cX9_add pc = .ok (.return_, 1) → W p l e rX9_add s mt args below meth c H locs 0 0 Q (F0 mt pc ls [])) : W p l e rX9_add s mt args below meth c H locs 0 0 Q (F0 mt 115 ls []) := by
  unfold bX9_add_115 at hF
  cases hF
  exact Kr _ _ _ _ S dX9_add_115
set_option maxRecDepth 20000 in
theorem wX9_add_92 {p : Program} {l : Launch} {e : Env} {s : State} {mt : MethodId} {args : Array Value} {below : List Frame} {meth : Method} {c : Code} {Q : State → Prop} {G : Gl} {A : Nat → Prop} {H0 : Heap} {ad : Int → Nat} {g : Shp} {H : Heap} {locs : List Loc} {ls : Array Slot} {m : Mem} {x0 x1 : Int} (C : CallFix p mt c cX9_add 6 s args tb RX9) (S : Wd G A s H0 ad g m H locs) (hx0 : gk g x0 = 10) (hx1 : r32 x1) (hl : lv_has ls 6 [(0, .ref (ad x0)), (1, .int (iI x1))]) {r : Int} {m' : Mem} (hF : bX9_add_92 g x0 x1 m = some (r, m')) (Kr : ∀ (H : Heap) (locs : List Loc) (pc : Nat) (ls : Array Slot), Wd G A s H0 ad g m' H locs → decode cX9_add pc = .ok (.return_, 1) → W p l e rX9_add s mt args below meth c H locs 0 0 Q (F0 mt pc ls [])) : W p l e rX9_add s mt args below meth c H locs 0 0 Q (F0 mt 92 ls []) := by
  unfold bX9_add_92 at hF
  refine q_aload_n C hl 0 rfl rfl dX9_add_92 ?_
  refine q_dup C rfl dX9_add_93 ?_
  refine q_geti C S 3 fo_RX9_27 (j := 3) rfl rfl hx0 dX9_add_94 ?_
  refine q_iload_n C hl 1 rfl rfl dX9_add_97 ?_
  refine q_iadd C dX9_add_98 ?_
  obtain ⟨m1, em1, hF⟩ := vm_ok hF
  refine q_put C S 3 fo_RX9_27 fp_10_3 (fun h9 => absurd h9 (by decide)) (j := 3) rfl hx0 rfl rfl rfl (r32_w _) (fun h9 => absurd h9 (by decide)) em1 dX9_add_99 (fun H locs Sm1 => ?_)
  refine q_goto C 115 dX9_add_102 (by decide) ?_
  exact wX9_add_115 C Sm1  (lv_sub hl [] rfl) hF Kr
set_option maxRecDepth 20000 in
theorem wX9_add_48 {p : Program} {l : Launch} {e : Env} {s : State} {mt : MethodId} {args : Array Value} {below : List Frame} {meth : Method} {c : Code} {Q : State → Prop} {G : Gl} {A : Nat → Prop} {H0 : Heap} {ad : Int → Nat} {g : Shp} {H : Heap} {locs : List Loc} {ls : Array Slot} {m : Mem} {x0 x1 x2 x3 x4 x5 z0 z1 z2 z3 : Int} (C : CallFix p mt c cX9_add 6 s args tb RX9) (S : Wd G A s H0 ad g m H locs) (hx0 : gk g x0 = 10) (hx1 : r32 x1) (hx2 : r32 x2) (hx3 : r32 x3) (hx4 : r32 x4) (hx5 : r32 x5) (hz0 : gk g z0 = 20) (hz1 : r32 z1) (hz2 : r32 z2) (hz3 : r32 z3) (hl : lv_has ls 6 [(0, .ref (ad x0)), (1, .int (iI x1)), (2, .int (iI x2)), (3, .int (iI x3)), (4, .int (iI x4)), (5, .int (iI x5))]) {r : Int} {m' : Mem} (hF : bX9_add_48 g x0 x1 x2 x3 x4 x5 z0 z1 z2 z3 m = some (r, m')) (Kr : ∀ (H : Heap) (locs : List Loc) (pc : Nat) (ls : Array Slot), Wd G A s H0 ad g m' H locs → decode cX9_add pc = .ok (.return_, 1) → W p l e rX9_add s mt args below meth c H locs 0 0 Q (F0 mt pc ls [])) : W p l e rX9_add s mt args below meth c H locs 0 0 Q (F0 mt 48 ls [.int (iI z3), .int (iI z2), .int (iI z1), .ref (ad z0)]) := by
  unfold bX9_add_48 at hF
  refine q_iadd C dX9_add_48 ?_
  obtain ⟨i1, hF⟩ := ck_ok hF
  obtain ⟨m2, em2, hF⟩ := vm_ok hF
  refine q_iast C S hz0 i1 (r32_w _) em2 dX9_add_49 (fun H locs Sm2 => ?_)
  refine q_aload_n C hl 0 rfl rfl dX9_add_50 ?_
  refine q_dup C rfl dX9_add_51 ?_
  refine q_geti C Sm2 4 fo_RX9_31 (j := 4) rfl rfl hx0 dX9_add_52 ?_
  refine q_iconst C 1 dX9_add_55 ?_
  refine q_iadd C dX9_add_56 ?_
  obtain ⟨m3, em3, hF⟩ := vm_ok hF
  refine q_put C Sm2 4 fo_RX9_31 fp_10_4 (fun h9 => absurd h9 (by decide)) (j := 4) rfl hx0 rfl rfl rfl (r32_w _) (fun h9 => absurd h9 (by decide)) em3 dX9_add_57 (fun H locs Sm3 => ?_)
  refine q_aload_n C hl 0 rfl rfl dX9_add_60 ?_
  obtain ⟨k4, hF⟩ := ck_ok hF
  refine q_getr C Sm3 1 fo_RX9_15 (j := 1) rfl rfl hx0 k4 (by decide) dX9_add_61 ?_
  refine q_iload_n C hl 2 rfl rfl dX9_add_64 ?_
  refine q_dup2 C rfl rfl dX9_add_65 ?_
  obtain ⟨i5, hF⟩ := ck_ok hF
  refine q_iald C Sm3 k4 i5 dX9_add_66 ?_
  refine q_iconst C 1 dX9_add_67 ?_
  refine q_iadd C dX9_add_68 ?_
  obtain ⟨i6, hF⟩ := ck_ok hF
  obtain ⟨m7, em7, hF⟩ := vm_ok hF
  refine q_iast C Sm3 k4 i6 (r32_w _) em7 dX9_add_69 (fun H locs Sm7 => ?_)
  refine q_aload_n C hl 0 rfl rfl dX9_add_70 ?_
  refine q_dup C rfl dX9_add_71 ?_
  refine q_geti C Sm7 6 fo_RX9_37 (j := 6) rfl rfl hx0 dX9_add_72 ?_
  refine q_iload_n C hl 3 rfl rfl dX9_add_75 ?_
  refine q_iload_n C hl 1 rfl rfl dX9_add_76 ?_
  refine q_isub C dX9_add_77 ?_
  refine q_iadd C dX9_add_78 ?_
  obtain ⟨m8, em8, hF⟩ := vm_ok hF
  refine q_put C Sm7 6 fo_RX9_37 fp_10_6 (fun h9 => absurd h9 (by decide)) (j := 6) rfl hx0 rfl rfl rfl (r32_w _) (fun h9 => absurd h9 (by decide)) em8 dX9_add_79 (fun H locs Sm8 => ?_)
  refine q_iload C hl 5 rfl dX9_add_82 ?_
  refine q_if_ne C hx5 92 dX9_add_84 (by decide) (fun hc9 => ?_) (fun hc9 => ?_)
  · have hF := if_t hc9 hF
    refine q_iload C hl 4 rfl dX9_add_87 ?_
    refine q_if_eq C hx4 105 dX9_add_89 (by decide) (fun hc10 => ?_) (fun hc10 => ?_)
    · have hF := if_t hc10 hF
      refine q_aload_n C hl 0 rfl rfl dX9_add_105 ?_
      obtain ⟨k11, hF⟩ := ck_ok hF
      refine q_getr C Sm8 2 fo_RX9_18 (j := 2) rfl rfl hx0 k11 (by decide) dX9_add_106 ?_
      refine q_iload_n C hl 2 rfl rfl dX9_add_109 ?_
      refine q_dup2 C rfl rfl dX9_add_110 ?_
      obtain ⟨i12, hF⟩ := ck_ok hF
      refine q_iald C Sm8 k11 i12 dX9_add_111 ?_
      refine q_iconst C 1 dX9_add_112 ?_
      refine q_iadd C dX9_add_113 ?_
      obtain ⟨i13, hF⟩ := ck_ok hF
      obtain ⟨m14, em14, hF⟩ := vm_ok hF
      refine q_iast C Sm8 k11 i13 (r32_w _) em14 dX9_add_114 (fun H locs Sm14 => ?_)
      exact wX9_add_115 C Sm14  (lv_sub hl [] rfl) hF Kr
    · have hF := if_f hc10 hF
      exact wX9_add_92 C Sm8 hx0 hx1 (lv_sub hl [0, 1] rfl) hF Kr
  · have hF := if_f hc9 hF
    exact wX9_add_92 C Sm8 hx0 hx1 (lv_sub hl [0, 1] rfl) hF Kr
set_option maxRecDepth 20000 in
theorem wX9_add_20 {p : Program} {l : Launch} {e : Env} {s : State} {mt : MethodId} {args : Array Value} {below : List Frame} {meth : Method} {c : Code} {Q : State → Prop} {G : Gl} {A : Nat → Prop} {H0 : Heap} {ad : Int → Nat} {g : Shp} {H : Heap} {locs : List Loc} {ls : Array Slot} {m : Mem} {x0 x1 x2 x3 x4 z0 : Int} (C : CallFix p mt c cX9_add 6 s args tb RX9) (S : Wd G A s H0 ad g m H locs) (hx0 : gk g x0 = 10) (hx1 : r32 x1) (hx2 : r32 x2) (hx3 : r32 x3) (hx4 : r32 x4) (hz0 : r32 z0) (hl : lv_has ls 6 [(0, .ref (ad x0)), (1, .int (iI x1)), (2, .int (iI x2)), (3, .int (iI x3)), (4, .int (iI x4))]) {r : Int} {m' : Mem} (hF : bX9_add_20 g x0 x1 x2 x3 x4 z0 m = some (r, m')) (Kr : ∀ (H : Heap) (locs : List Loc) (pc : Nat) (ls : Array Slot), Wd G A s H0 ad g m' H locs → decode cX9_add pc = .ok (.return_, 1) → W p l e rX9_add s mt args below meth c H locs 0 0 Q (F0 mt pc ls [])) : W p l e rX9_add s mt args below meth c H locs 0 0 Q (F0 mt 20 ls [.int (iI z0)]) := by
  unfold bX9_add_20 at hF
  refine q_istore C hl [(5, .int (iI z0)), (0, .ref (ad x0)), (1, .int (iI x1)), (2, .int (iI x2)), (3, .int (iI x3)), (4, .int (iI x4))] rfl (by decide) rfl dX9_add_20 (fun ls hl => ?_)
  refine q_aload_n C hl 1 rfl rfl dX9_add_22 ?_
  obtain ⟨k1, hF⟩ := ck_ok hF
  refine q_getr C S 0 fo_RX9_9 (j := 0) rfl rfl hx0 k1 (by decide) dX9_add_23 ?_
  refine q_aload_n C hl 1 rfl rfl dX9_add_26 ?_
  refine q_geti C S 4 fo_RX9_31 (j := 4) rfl rfl hx0 dX9_add_27 ?_
  refine q_bipush C 20 (by decide) dX9_add_30 ?_
  refine q_iload_n C hl 2 rfl rfl dX9_add_32 ?_
  refine q_imul C dX9_add_33 ?_
  refine q_iconst C 2 dX9_add_34 ?_
  refine q_iload_n C hl 3 rfl rfl dX9_add_35 ?_
  refine q_imul C dX9_add_36 ?_
  refine q_iadd C dX9_add_37 ?_
  refine q_iload C hl 0 rfl dX9_add_38 ?_
  refine q_if_eq C hz0 47 dX9_add_40 (by decide) (fun hc2 => ?_) (fun hc2 => ?_)
  · have hF := if_t hc2 hF
    refine q_iconst C 0 dX9_add_47 ?_
    exact wX9_add_48 C S hx0 hx1 hx2 hx3 hx4 hz0 k1 (S.r _ _) (r32_w _) (rl 0 rfl) (lv_sub hl [1, 2, 3, 4, 5, 0] rfl) hF Kr
  · have hF := if_f hc2 hF
    refine q_iconst C 1 dX9_add_43 ?_
    refine q_goto C 48 dX9_add_44 (by decide) ?_
    exact wX9_add_48 C S hx0 hx1 hx2 hx3 hx4 hz0 k1 (S.r _ _) (r32_w _) (rl 1 rfl) (lv_sub hl [1, 2, 3, 4, 5, 0] rfl) hF Kr
set_option maxRecDepth 20000 in
theorem wX9_add_0 {p : Program} {l : Launch} {e : Env} {s : State} {mt : MethodId} {args : Array Value} {below : List Frame} {meth : Method} {c : Code} {Q : State → Prop} {G : Gl} {A : Nat → Prop} {H0 : Heap} {ad : Int → Nat} {g : Shp} {H : Heap} {locs : List Loc} {ls : Array Slot} {m : Mem} {x0 x1 x2 x3 x4 : Int} (C : CallFix p mt c cX9_add 6 s args tb RX9) (S : Wd G A s H0 ad g m H locs) (hx0 : gk g x0 = 10) (hx1 : r32 x1) (hx2 : r32 x2) (hx3 : r32 x3) (hx4 : r32 x4) (hl : lv_has ls 6 [(0, .ref (ad x0)), (1, .int (iI x1)), (2, .int (iI x2)), (3, .int (iI x3)), (4, .int (iI x4))]) {r : Int} {m' : Mem} (hF : bX9_add_0 g x0 x1 x2 x3 x4 m = some (r, m')) (Kr : ∀ (H : Heap) (locs : List Loc) (pc : Nat) (ls : Array Slot), Wd G A s H0 ad g m' H locs → decode cX9_add pc = .ok (.return_, 1) → W p l e rX9_add s mt args below meth c H locs 0 0 Q (F0 mt pc ls [])) : W p l e rX9_add s mt args below meth c H locs 0 0 Q (F0 mt 0 ls []) := by
  unfold bX9_add_0 at hF
  refine q_aload_n C hl 0 rfl rfl dX9_add_0 ?_
  refine q_geti C S 4 fo_RX9_31 (j := 4) rfl rfl hx0 dX9_add_1 ?_
  refine q_bipush C 18 (by decide) dX9_add_4 ?_
  refine q_icmp_lt C (S.r _ _) (rl 18 rfl) 10 dX9_add_6 (by decide) (fun hc1 => ?_) (fun hc1 => ?_)
  · have hF := if_t hc1 hF
    refine q_iload_n C hl 1 rfl rfl dX9_add_10 ?_
    refine q_iload_n C hl 3 rfl rfl dX9_add_11 ?_
    refine q_icmp_ge C hx1 hx3 19 dX9_add_12 (by decide) (fun hc2 => ?_) (fun hc2 => ?_)
    · have hF := if_t hc2 hF
      refine q_iconst C 0 dX9_add_19 ?_
      exact wX9_add_20 C S hx0 hx1 hx2 hx3 hx4 (rl 0 rfl) (lv_sub hl [0, 1, 2, 3, 4] rfl) hF Kr
    · have hF := if_f hc2 hF
      refine q_iconst C 1 dX9_add_15 ?_
      refine q_goto C 20 dX9_add_16 (by decide) ?_
      exact wX9_add_20 C S hx0 hx1 hx2 hx3 hx4 (rl 1 rfl) (lv_sub hl [0, 1, 2, 3, 4] rfl) hF Kr
  · have hF := if_f hc1 hF
    cases hF
    exact Kr _ _ _ _ S dX9_add_9
theorem cX9_add_ok (l : Launch) (G : Gl) {g : Shp} {x0 x1 x2 x3 x4 : Int} {m m' : Mem} {r : Int} (hx0 : gk g x0 = 10) (hx1 : r32 x1) (hx2 : r32 x2) (hx3 : r32 x3) (hx4 : r32 x4) (hF : fX9_add g x0 x1 x2 x3 x4 m = some (r, m')) : mV l yX9_add (wT yX9_add cX9_add 6 none) rX9_add G (fun ad => [.ref (ad x0), .int (iI x1), .int (iI x2), .int (iI x3), .int (iI x4)]) g m m' :=
  met_v (by decide) (fun ad => Nat.le_of_ble_eq_true rfl) (fun p e s mt args below meth c Q A H0 H locs ad ls C hnm S hl Kr => wX9_add_0 C S hx0 hx1 hx2 hx3 hx4 hl hF Kr)
set_option maxRecDepth 20000 in
theorem wX0_goBehind_48 {p : Program} {l : Launch} {e : Env} {s : State} {mt : MethodId} {args : Array Value} {below : List Frame} {meth : Method} {c : Code} {Q : State → Prop} {G : Gl} {A : Nat → Prop} {H0 : Heap} {ad : Int → Nat} {g : Shp} {H : Heap} {locs : List Loc} {ls : Array Slot} {m : Mem} (C : CallFix p mt c cX0_goBehind 2 s args tb RX0) (S : Wd G A s H0 ad g m H locs)  (hl : lv_has ls 2 []) {r : Int} {m' : Mem} (hF : bX0_goBehind_48 g m = some (r, m')) (Kr : ∀ (H : Heap) (locs : List Loc) (pc : Nat) (ls : Array Slot), Wd G A s H0 ad g m' H locs → decode cX0_goBehind pc = .ok (.return_, 1) → W p l e rX0_goBehind s mt args below meth c H locs 0 0 Q (F0 mt pc ls [])) : W p l e rX0_goBehind s mt args below meth c H locs 0 0 Q (F0 mt 48 ls []) := by
  unfold bX0_goBehind_48 at hF
  cases hF
  exact Kr _ _ _ _ S dX0_goBehind_48
set_option maxRecDepth 20000 in
theorem wX0_goBehind_0 {p : Program} {l : Launch} {e : Env} {s : State} {mt : MethodId} {args : Array Value} {below : List Frame} {meth : Method} {c : Code} {Q : State → Prop} {G : Gl} {A : Nat → Prop} {H0 : Heap} {ad : Int → Nat} {g : Shp} {H : Heap} {locs : List Loc} {ls : Array Slot} {m : Mem} {x0 x1 : Int} (C : CallFix p mt c cX0_goBehind 2 s args tb RX0) (S : Wd G A s H0 ad g m H locs) (hx0 : gk g x0 = 1) (hx1 : r32 x1) (hl : lv_has ls 2 [(0, .ref (ad x0)), (1, .int (iI x1))]) {r : Int} {m' : Mem} (hF : bX0_goBehind_0 g x0 x1 m = some (r, m')) (Kr : ∀ (H : Heap) (locs : List Loc) (pc : Nat) (ls : Array Slot), Wd G A s H0 ad g m' H locs → decode cX0_goBehind pc = .ok (.return_, 1) → W p l e rX0_goBehind s mt args below meth c H locs 0 0 Q (F0 mt pc ls [])) : W p l e rX0_goBehind s mt args below meth c H locs 0 0 Q (F0 mt 0 ls []) := by
  unfold bX0_goBehind_0 at hF
  refine q_iload_n C hl 1 rfl rfl dX0_goBehind_0 ?_
  refine q_aload_n C hl 0 rfl rfl dX0_goBehind_1 ?_
  refine q_geti C S 7 fo_RX0_99 (j := 7) rfl rfl hx0 dX0_goBehind_2 ?_
  refine q_icmp_ne C hx1 (S.r _ _) 33 dX0_goBehind_5 (by decide) (fun hc1 => ?_) (fun hc1 => ?_)
  · have hF := if_t hc1 hF
    refine q_aload_n C hl 0 rfl rfl dX0_goBehind_8 ?_
    refine q_dup C rfl dX0_goBehind_9 ?_
    refine q_geti C S 6 fo_RX0_92 (j := 6) rfl rfl hx0 dX0_goBehind_10 ?_
    refine q_iconst C 1 dX0_goBehind_13 ?_
    refine q_iadd C dX0_goBehind_14 ?_
    obtain ⟨m2, em2, hF⟩ := vm_ok hF
    refine q_put C S 6 fo_RX0_92 fp_1_6 (fun h9 => absurd h9 (by decide)) (j := 6) rfl hx0 rfl rfl rfl (r32_w _) (fun h9 => absurd h9 (by decide)) em2 dX0_goBehind_15 (fun H locs Sm2 => ?_)
    refine q_aload_n C hl 0 rfl rfl dX0_goBehind_18 ?_
    refine q_aload_n C hl 0 rfl rfl dX0_goBehind_19 ?_
    refine q_aload_n C hl 0 rfl rfl dX0_goBehind_20 ?_
    refine q_geti C Sm2 6 fo_RX0_92 (j := 6) rfl rfl hx0 dX0_goBehind_21 ?_
    obtain ⟨v3, m4, h5, hF⟩ := bd2_ok hF
    refine q_ci Sm2 (run_V (As := [.int (iI (m2 x0 6))]) (rest := [.ref (ad x0)]) C Sm2 (cX0_cellsOf_ok l G hx0 (Sm2.r _ _) h5 ad _) hx0 ⟨by decide, _, _, rfl⟩ gd_RX0_95 hdV_X0_cellsOf rfl ⟨rfl, rfl, by decide, by decide⟩ ⟨Nat.zero_le _, Nat.zero_le _⟩ hl.1 rfl (Nat.le_of_ble_eq_true rfl) dX0_goBehind_24) (fun H locs Sm4 h6 => ?_)
    obtain ⟨m7, em7, hF⟩ := vm_ok hF
    refine q_put C Sm4 7 fo_RX0_99 fp_1_7 (fun h9 => absurd h9 (by decide)) (j := 7) rfl hx0 rfl rfl rfl h6.1 (fun h9 => absurd h9 (by decide)) em7 dX0_goBehind_27 (fun H locs Sm7 => ?_)
    refine q_goto C 48 dX0_goBehind_30 (by decide) ?_
    exact wX0_goBehind_48 C Sm7  (lv_sub hl [] rfl) hF Kr
  · have hF := if_f hc1 hF
    refine q_aload_n C hl 0 rfl rfl dX0_goBehind_33 ?_
    refine q_dup C rfl dX0_goBehind_34 ?_
    refine q_geti C S 7 fo_RX0_99 (j := 7) rfl rfl hx0 dX0_goBehind_35 ?_
    refine q_iload_n C hl 1 rfl rfl dX0_goBehind_38 ?_
    refine q_aload_n C hl 0 rfl rfl dX0_goBehind_39 ?_
    refine q_geti C S 5 fo_RX0_75 (j := 5) rfl rfl hx0 dX0_goBehind_40 ?_
    refine q_iadd C dX0_goBehind_43 ?_
    refine q_isub C dX0_goBehind_44 ?_
    obtain ⟨m8, em8, hF⟩ := vm_ok hF
    refine q_put C S 7 fo_RX0_99 fp_1_7 (fun h9 => absurd h9 (by decide)) (j := 7) rfl hx0 rfl rfl rfl (r32_w _) (fun h9 => absurd h9 (by decide)) em8 dX0_goBehind_45 (fun H locs Sm8 => ?_)
    exact wX0_goBehind_48 C Sm8  (lv_sub hl [] rfl) hF Kr
theorem cX0_goBehind_ok (l : Launch) (G : Gl) {g : Shp} {x0 x1 : Int} {m m' : Mem} {r : Int} (hx0 : gk g x0 = 1) (hx1 : r32 x1) (hF : fX0_goBehind g x0 x1 m = some (r, m')) : mV l yX0_goBehind (wT yX0_goBehind cX0_goBehind 2 none) rX0_goBehind G (fun ad => [.ref (ad x0), .int (iI x1)]) g m m' :=
  met_v (by decide) (fun ad => Nat.le_of_ble_eq_true rfl) (fun p e s mt args below meth c Q A H0 H locs ad ls C hnm S hl Kr => wX0_goBehind_0 C S hx0 hx1 hl hF Kr)
