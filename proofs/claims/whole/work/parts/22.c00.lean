def ebX0_keepSizes_46 (g : Shp) (x1 x2 x4 z0 : Int) (m : Mem) : Option (Int × (Int × Int × Mem)) :=
  vv (w32 (x4 + 1)) fun y1 =>
  some (0, (z0, y1, m))
def ebX0_keepSizes_45 (g : Shp) (x1 x2 x4 : Int) (m : Mem) : Option (Int × (Int × Int × Mem)) :=
  ebX0_keepSizes_46 g x1 x2 x4 0 m
def ebX0_keepSizes_17 (g : Shp) (x1 x2 x3 x4 : Int) (m : Mem) : Option (Int × (Int × Int × Mem)) :=
  if 3 ≤ x4 then
    some (1, (x3, x4, m))
  else
    if x3 = 0 then
      ebX0_keepSizes_45 g x1 x2 x4 m
    else
      ck ((0 : Int) ≤ x4 ∧ x4 < 3) <|
      ck ((0 : Int) ≤ x4 ∧ x4 < gl g x1) <|
      if (m 11 x4) = (m x1 x4) then
        ebX0_keepSizes_46 g x1 x2 x4 1 m
      else
        ebX0_keepSizes_45 g x1 x2 x4 m
def eBX0_keepSizes_17 (g : Shp) (x1 x2 : Int) (q : (Int × Int × Mem)) : Option (Int × (Int × Int × Mem)) := ebX0_keepSizes_17 g x1 x2 q.1 q.2.1 q.2.2
def ebX0_keepSizes_77 (g : Shp) (x4 : Int) (m : Mem) : Option (Int × (Int × Mem)) :=
  if 24 ≤ x4 then
    some (1, (x4, m))
  else
    ck ((0 : Int) ≤ x4 ∧ x4 < 24) <|
    vm (ms m (9 + (4 + 3 * x4)) 3 0) fun m6 =>
    vv (w32 (x4 + 1)) fun y7 =>
    some (0, (y7, m6))
def eBX0_keepSizes_77 (g : Shp) (q : (Int × Mem)) : Option (Int × (Int × Mem)) := ebX0_keepSizes_77 g q.1 q.2
def ebX0_keepSizes_104 (g : Shp) (m : Mem) : Option (Int × Mem) :=
  some (0, m)
def ebX0_keepSizes_53 (g : Shp) (x1 x2 x3 : Int) (m : Mem) : Option (Int × Mem) :=
  if x3 = 0 then
    ck ((0 : Int) ≤ 0 ∧ (0 : Int) ≤ 0 ∧ (0 : Int) ≤ 3 ∧ 0 + 3 ≤ (gl g x1 : Int) ∧ 0 + 3 ≤ (3 : Int)) <|
    vm (mcp m x1 0 11 0 3) fun m4 =>
    vm (ms m4 5 5 x2) fun m5 =>
    bdl (iter (eBX0_keepSizes_77 g) 100000 (0, m5)) fun cv6 sv7 =>
    ebX0_keepSizes_104 g sv7.2
  else
    some (0, m)
def ebX0_keepSizes_13 (g : Shp) (x1 x2 z0 : Int) (m : Mem) : Option (Int × Mem) :=
  bdl (iter (eBX0_keepSizes_17 g x1 x2) 100000 (z0, 0, m)) fun cv1 sv2 =>
  ebX0_keepSizes_53 g x1 x2 sv2.1 sv2.2.2
def ebX0_keepSizes_0 (g : Shp) (x1 x2 : Int) (m : Mem) : Option (Int × Mem) :=
  if (m 5 5) = x2 then
    ebX0_keepSizes_13 g x1 x2 1 m
  else
    ebX0_keepSizes_13 g x1 x2 0 m
def eX0_keepSizes (g : Shp) (x1 x2 : Int) (m : Mem) : Option (Int × Mem) := ebX0_keepSizes_0 g x1 x2 m
def ebX0_layingsOf_18 (g : Shp) (z0 z1 z2 : Int) (m : Mem) : Option (Int × Mem) :=
  ck ((0 : Int) ≤ (w32 (z1 + z2)) ∧ (w32 (z1 + z2)) < 24) <|
  some (z0 + (4 + 3 * (w32 (z1 + z2))), m)
def ebX0_layingsOf_0 (g : Shp) (x1 x2 : Int) (m : Mem) : Option (Int × Mem) :=
  if x2 = 0 then
    ebX0_layingsOf_18 g 9 (w32 (2 * (w32 (x1 - 1)))) 0 m
  else
    ebX0_layingsOf_18 g 9 (w32 (2 * (w32 (x1 - 1)))) 1 m
def eX0_layingsOf (g : Shp) (x1 x2 : Int) (m : Mem) : Option (Int × Mem) := ebX0_layingsOf_0 g x1 x2 m
def ebX0_cellsOf_24 (g : Shp) (z0 : Int) (m : Mem) : Option (Int × Mem) :=
  some (z0, m)
def ebX0_cellsOf_0 (g : Shp) (x1 : Int) (m : Mem) : Option (Int × Mem) :=
  if (m 6 2) ≤ x1 then
    ebX0_cellsOf_24 g 0 m
  else
    ck ((0 : Int) ≤ x1 ∧ x1 < 60) <|
    ebX0_cellsOf_24 g (m 7 x1) m
def eX0_cellsOf (g : Shp) (x1 : Int) (m : Mem) : Option (Int × Mem) := ebX0_cellsOf_0 g x1 m
def ebX2_stones_0 (g : Shp) (x0 x1 : Int) (m : Mem) : Option (Int × Mem) :=
  vv (w32 (x1 * 3)) fun y1 =>
  ck ((0 : Int) ≤ y1 ∧ y1 < 48) <|
  ck ((0 : Int) ≤ (w32 (y1 + 1)) ∧ (w32 (y1 + 1)) < 48) <|
  ck ((0 : Int) ≤ (w32 (y1 + 2)) ∧ (w32 (y1 + 2)) < 48) <|
  some (w32 ((w32 ((m (x0 + 1) y1) + (m (x0 + 1) (w32 (y1 + 1))))) + (m (x0 + 1) (w32 (y1 + 2)))), m)
def eX2_stones (g : Shp) (x0 x1 : Int) (m : Mem) : Option (Int × Mem) := ebX2_stones_0 g x0 x1 m
def ebX2_canBeTakenFrom_48 (g : Shp) (z0 : Int) (m : Mem) : Option (Int × Mem) :=
  ck (z0 = 0 ∨ z0 = 1) <|
  some (z0, m)
def ebX2_canBeTakenFrom_47 (g : Shp) (m : Mem) : Option (Int × Mem) :=
  ebX2_canBeTakenFrom_48 g 0 m
def ebX2_canBeTakenFrom_0 (g : Shp) (x0 x1 x2 x3 x4 : Int) (m : Mem) : Option (Int × Mem) :=
  vv (w32 (x4 * 3)) fun y1 =>
  ck ((0 : Int) ≤ y1 ∧ y1 < 48) <|
  if x1 < (m (x0 + 1) y1) then
    ebX2_canBeTakenFrom_47 g m
  else
    ck ((0 : Int) ≤ (w32 (y1 + 1)) ∧ (w32 (y1 + 1)) < 48) <|
    if x2 < (m (x0 + 1) (w32 (y1 + 1))) then
      ebX2_canBeTakenFrom_47 g m
    else
      ck ((0 : Int) ≤ (w32 (y1 + 2)) ∧ (w32 (y1 + 2)) < 48) <|
      if x3 < (m (x0 + 1) (w32 (y1 + 2))) then
        ebX2_canBeTakenFrom_47 g m
      else
        ebX2_canBeTakenFrom_48 g 1 m
def eX2_canBeTakenFrom (g : Shp) (x0 x1 x2 x3 x4 : Int) (m : Mem) : Option (Int × Mem) := ebX2_canBeTakenFrom_0 g x0 x1 x2 x3 x4 m
def ebX0_worthOf_230 (er : Shp → Int → Int → Int → Int → Int → Mem → Option (Int × Mem)) (g : Shp) (x1 x3 x4 x5 x6 x7 x8 x9 x10 : Int) (m : Mem) : Option (Int × (Int × Int × Mem)) :=
  vv (w32 (x10 + 1)) fun y1 =>
  some (0, (x9, y1, m))
def ebX0_worthOf_107 (er : Shp → Int → Int → Int → Int → Int → Mem → Option (Int × Mem)) (g : Shp) (x1 x3 x4 x5 x6 x7 x8 x9 x10 : Int) (m : Mem) : Option (Int × (Int × Int × Mem)) :=
  if (m x8 2) ≤ x10 then
    some (1, (x9, x10, m))
  else
    ck ((0 : Int) ≤ x10 ∧ x10 < 16) <|
    bd2 (eX2_stones g x8 x10 m) fun v4 m5 =>
    vv (w32 ((w32 ((m (x8 + 2) x10) * 32)) + v4)) fun y7 =>
    if x9 ≤ y7 then
      ebX0_worthOf_230 er g x1 x3 x4 x5 x6 x7 x8 x9 x10 m5
    else
      bd2 (eX2_canBeTakenFrom g x8 x3 x4 x5 x10 m5) fun v9 m10 =>
      if v9 = 0 then
        ebX0_worthOf_230 er g x1 x3 x4 x5 x6 x7 x8 x9 x10 m10
      else
        vv (w32 (x10 * 3)) fun y13 =>
        bd2 (eX0_cellsOf g (w32 (x1 + 1)) m10) fun v14 m15 =>
        ck ((0 : Int) ≤ y13 ∧ y13 < 48) <|
        ck ((0 : Int) ≤ (w32 (y13 + 1)) ∧ (w32 (y13 + 1)) < 48) <|
        ck ((0 : Int) ≤ (w32 (y13 + 2)) ∧ (w32 (y13 + 2)) < 48) <|
        bd2 (er g (w32 (x1 + 1)) v14 (w32 (x3 - (m15 (x8 + 1) y13))) (w32 (x4 - (m15 (x8 + 1) (w32 (y13 + 1))))) (w32 (x5 - (m15 (x8 + 1) (w32 (y13 + 2))))) m15) fun v23 m24 =>
        vv (jmin x9 (w32 (y7 + v23))) fun y26 =>
        ebX0_worthOf_230 er g x1 x3 x4 x5 x6 x7 x8 y26 x10 m24
def eBX0_worthOf_107 (er : Shp → Int → Int → Int → Int → Int → Mem → Option (Int × Mem)) (g : Shp) (x1 x3 x4 x5 x6 x7 x8 : Int) (q : (Int × Int × Mem)) : Option (Int × (Int × Int × Mem)) := ebX0_worthOf_107 er g x1 x3 x4 x5 x6 x7 x8 q.1 q.2.1 q.2.2
def ebX0_worthOf_17 (er : Shp → Int → Int → Int → Int → Int → Mem → Option (Int × Mem)) (g : Shp) (m : Mem) : Option (Int × Mem) :=
  some (0, m)
def ebX0_worthOf_250 (er : Shp → Int → Int → Int → Int → Int → Mem → Option (Int × Mem)) (g : Shp) (x9 : Int) (m : Mem) : Option (Int × Mem) :=
  some (x9, m)
def ebX0_worthOf_236 (er : Shp → Int → Int → Int → Int → Int → Mem → Option (Int × Mem)) (g : Shp) (x6 x7 x9 : Int) (m : Mem) : Option (Int × Mem) :=
  if x7 = 0 then
    ebX0_worthOf_250 er g x9 m
  else
    ck ((0 : Int) ≤ x6 ∧ x6 < gl g (m 5 2)) <|
    vm (ms m (m 5 2) x6 x9) fun m4 =>
    ebX0_worthOf_250 er g x9 m4
def ebX0_worthOf_84 (er : Shp → Int → Int → Int → Int → Int → Mem → Option (Int × Mem)) (g : Shp) (x1 x2 x3 x4 x5 x6 x7 : Int) (m : Mem) : Option (Int × Mem) :=
  ck ((0 : Int) ≤ x1 ∧ x1 < 60) <|
  bd2 (eX0_layingsOf g x2 (m 8 x1) m) fun v4 m5 =>
  ck (gk g v4 = 3) <|
  bdl (iter (eBX0_worthOf_107 er g x1 x3 x4 x5 x6 x7 v4) 100000 (1048576, 0, m5)) fun cv8 sv9 =>
  ebX0_worthOf_236 er g x6 x7 sv9.1 sv9.2.2
def ebX0_worthOf_58 (er : Shp → Int → Int → Int → Int → Int → Mem → Option (Int × Mem)) (g : Shp) (x1 x2 x3 x4 x5 x6 z0 : Int) (m : Mem) : Option (Int × Mem) :=
  if z0 = 0 then
    ebX0_worthOf_84 er g x1 x2 x3 x4 x5 x6 z0 m
  else
    ck ((0 : Int) ≤ x6 ∧ x6 < gl g (m 5 2)) <|
    if (m (m 5 2) x6) = ((-1)) then
      ebX0_worthOf_84 er g x1 x2 x3 x4 x5 x6 z0 m
    else
      ck ((0 : Int) ≤ x6 ∧ x6 < gl g (m 5 2)) <|
      some (m (m 5 2) x6, m)
def ebX0_worthOf_0 (er : Shp → Int → Int → Int → Int → Int → Mem → Option (Int × Mem)) (g : Shp) (x1 x2 x3 x4 x5 : Int) (m : Mem) : Option (Int × Mem) :=
  if (m 6 2) ≤ x1 then
    ebX0_worthOf_17 er g m
  else
    if x1 < 18 then
      vv (w32 ((w32 ((w32 (x1 * 343)) + (w32 ((w32 ((w32 (x3 * 7)) + x4)) * 7)))) + x5)) fun y4 =>
      ck ((0 : Int) ≤ x1 ∧ x1 < 60) <|
      if x2 = (m 7 x1) then
        ebX0_worthOf_58 er g x1 x2 x3 x4 x5 y4 1 m
      else
        ebX0_worthOf_58 er g x1 x2 x3 x4 x5 y4 0 m
    else
      ebX0_worthOf_17 er g m
def eX0_worthOf : Nat → Shp → Int → Int → Int → Int → Int → Mem → Option (Int × Mem)
  | 0, _, _, _, _, _, _, _ => none
  | d + 1, g, x1, x2, x3, x4, x5, m => ebX0_worthOf_0 (eX0_worthOf d) g x1 x2 x3 x4 x5 m
def ebX0_isAslant_52 (g : Shp) (z0 : Int) (m : Mem) : Option (Int × Mem) :=
  ck (z0 = 0 ∨ z0 = 1) <|
  some (z0, m)
def ebX0_isAslant_51 (g : Shp) (m : Mem) : Option (Int × Mem) :=
  ebX0_isAslant_52 g 0 m
def ebX0_isAslant_19 (g : Shp) (x1 z0 : Int) (m : Mem) : Option (Int × Mem) :=
  if x1 = (m 5 7) then
    ck ((0 : Int) ≤ (m 5 6) ∧ (m 5 6) < 60) <|
    if (m 8 (m 5 6)) = 0 then
      ebX0_isAslant_51 g m
    else
      if z0 = 0 then
        ebX0_isAslant_52 g 1 m
      else
        ebX0_isAslant_51 g m
  else
    ebX0_isAslant_51 g m
def ebX0_isAslant_18 (g : Shp) (x1 : Int) (m : Mem) : Option (Int × Mem) :=
  ebX0_isAslant_19 g x1 0 m
def ebX0_isAslant_0 (g : Shp) (x1 x2 : Int) (m : Mem) : Option (Int × Mem) :=
  if x2 = 0 then
    ck ((0 : Int) ≤ 0 ∧ 0 < (3 : Int)) <|
    if x1 = (m 11 0) then
      ebX0_isAslant_19 g x1 1 m
    else
      ebX0_isAslant_18 g x1 m
  else
    ebX0_isAslant_18 g x1 m
def eX0_isAslant (g : Shp) (x1 x2 : Int) (m : Mem) : Option (Int × Mem) := ebX0_isAslant_0 g x1 x2 m
def ebX0_ownWorth_29 (g : Shp) (z0 z1 : Int) (m : Mem) : Option (Int × Mem) :=
  vv (w32 (z0 + z1)) fun y1 =>
  some (w32 ((w32 (y1 * 32)) + 1), m)
def ebX0_ownWorth_15 (g : Shp) (x1 x2 z0 : Int) (m : Mem) : Option (Int × Mem) :=
  bd2 (eX0_isAslant g x1 x2 m) fun v1 m2 =>
  if v1 = 0 then
    ebX0_ownWorth_29 g z0 0 m2
  else
    ebX0_ownWorth_29 g z0 1 m2
def ebX0_ownWorth_0 (g : Shp) (x1 x2 : Int) (m : Mem) : Option (Int × Mem) :=
  ck ((0 : Int) ≤ x2 ∧ x2 < 3) <|
  if (m 11 x2) ≤ x1 then
    ebX0_ownWorth_15 g x1 x2 0 m
  else
    ebX0_ownWorth_15 g x1 x2 1 m
def eX0_ownWorth (g : Shp) (x1 x2 : Int) (m : Mem) : Option (Int × Mem) := ebX0_ownWorth_0 g x1 x2 m
def ebX0_isNext_141 (g : Shp) (z0 : Int) (m : Mem) : Option (Int × Mem) :=
  ck (z0 = 0 ∨ z0 = 1) <|
  some (z0, m)
def ebX0_isNext_108 (g : Shp) (x1 x2 z0 : Int) (m : Mem) : Option (Int × Mem) :=
  ck ((0 : Int) ≤ x2 ∧ x2 < 3) <|
  ck ((0 : Int) ≤ x2 ∧ x2 < 3) <|
  vm (ms m 12 x2 (w32 ((m 12 x2) + 1))) fun m4 =>
  bd2 (eX0_ownWorth g x1 x2 m4) fun v5 m6 =>
  if (w32 (v5 + z0)) = (m6 5 8) then
    ebX0_isNext_141 g 1 m6
  else
    ebX0_isNext_141 g 0 m6
def ebX0_isNext_21 (g : Shp) (x1 x2 x3 : Int) (m : Mem) : Option (Int × Mem) :=
  ck ((0 : Int) ≤ x2 ∧ x2 < 3) <|
  ck ((0 : Int) ≤ x2 ∧ x2 < 3) <|
  vm (ms m 12 x2 (w32 ((m 12 x2) - 1))) fun m4 =>
  if x3 = 0 then
    bd2 (eX0_cellsOf g (w32 ((m4 5 6) + 1)) m4) fun v6 m7 =>
    ck ((0 : Int) ≤ 0 ∧ 0 < (3 : Int)) <|
    ck ((0 : Int) ≤ 1 ∧ 1 < (3 : Int)) <|
    ck ((0 : Int) ≤ 2 ∧ 2 < (3 : Int)) <|
    bd2 (eX0_worthOf 24 g (w32 ((m4 5 6) + 1)) v6 (m7 12 0) (m7 12 1) (m7 12 2) m7) fun v15 m16 =>
    ebX0_isNext_108 g x1 x2 v15 m16
  else
    ck ((0 : Int) ≤ 0 ∧ 0 < (3 : Int)) <|
    ck ((0 : Int) ≤ 1 ∧ 1 < (3 : Int)) <|
    ck ((0 : Int) ≤ 2 ∧ 2 < (3 : Int)) <|
    bd2 (eX0_worthOf 24 g (m4 5 6) (w32 (x3 - (m4 5 5))) (m4 12 0) (m4 12 1) (m4 12 2) m4) fun v24 m25 =>
    ebX0_isNext_108 g x1 x2 v24 m25
def ebX0_isNext_0 (g : Shp) (x1 x2 : Int) (m : Mem) : Option (Int × Mem) :=
  vv (w32 ((m 5 7) - x1)) fun y1 =>
  if y1 ≤ 0 then
    ebX0_isNext_21 g x1 x2 y1 m
  else
    if (m 5 5) < y1 then
      ebX0_isNext_21 g x1 x2 y1 m
    else
      some (0, m)
def eX0_isNext (g : Shp) (x1 x2 : Int) (m : Mem) : Option (Int × Mem) := ebX0_isNext_0 g x1 x2 m
def ebX9_add_115 (g : Shp) (m : Mem) : Option (Int × Mem) :=
  some (0, m)
def ebX9_add_92 (g : Shp) (x0 x1 : Int) (m : Mem) : Option (Int × Mem) :=
  vm (ms m x0 3 (w32 ((m x0 3) + x1))) fun m1 =>
  ebX9_add_115 g m1
def ebX9_add_48 (g : Shp) (x0 x1 x2 x3 x4 x5 z0 z1 z2 z3 : Int) (m : Mem) : Option (Int × Mem) :=
  ck ((0 : Int) ≤ z1 ∧ z1 < gl g z0) <|
  vm (ms m z0 z1 (w32 (z2 + z3))) fun m2 =>
  vm (ms m2 x0 4 (w32 ((m2 x0 4) + 1))) fun m3 =>
  ck ((0 : Int) ≤ x2 ∧ x2 < 3) <|
  ck ((0 : Int) ≤ x2 ∧ x2 < 3) <|
  vm (ms m3 (x0 + 2) x2 (w32 ((m3 (x0 + 2) x2) + 1))) fun m7 =>
  vm (ms m7 x0 6 (w32 ((m7 x0 6) + (w32 (x3 - x1))))) fun m8 =>
  if x5 = 0 then
    if x4 = 0 then
      ck ((0 : Int) ≤ x2 ∧ x2 < 3) <|
      ck ((0 : Int) ≤ x2 ∧ x2 < 3) <|
      vm (ms m8 (x0 + 3) x2 (w32 ((m8 (x0 + 3) x2) + 1))) fun m14 =>
      ebX9_add_115 g m14
    else
      ebX9_add_92 g x0 x1 m8
  else
    ebX9_add_92 g x0 x1 m8
def ebX9_add_20 (g : Shp) (x0 x1 x2 x3 x4 z0 : Int) (m : Mem) : Option (Int × Mem) :=
  if z0 = 0 then
    ebX9_add_48 g x0 x1 x2 x3 x4 z0 (x0 + 1) (m x0 4) (w32 ((w32 (20 * x1)) + (w32 (2 * x2)))) 0 m
  else
    ebX9_add_48 g x0 x1 x2 x3 x4 z0 (x0 + 1) (m x0 4) (w32 ((w32 (20 * x1)) + (w32 (2 * x2)))) 1 m
def ebX9_add_0 (g : Shp) (x0 x1 x2 x3 x4 : Int) (m : Mem) : Option (Int × Mem) :=
  if (m x0 4) < 18 then
    if x3 ≤ x1 then
      ebX9_add_20 g x0 x1 x2 x3 x4 0 m
    else
      ebX9_add_20 g x0 x1 x2 x3 x4 1 m
  else
    some (0, m)
def eX9_add (g : Shp) (x0 x1 x2 x3 x4 : Int) (m : Mem) : Option (Int × Mem) := ebX9_add_0 g x0 x1 x2 x3 x4 m
def ebX0_goBehind_48 (g : Shp) (m : Mem) : Option (Int × Mem) :=
  some (0, m)
def ebX0_goBehind_0 (g : Shp) (x1 : Int) (m : Mem) : Option (Int × Mem) :=
  if x1 = (m 5 7) then
    vm (ms m 5 6 (w32 ((m 5 6) + 1))) fun m2 =>
    bd2 (eX0_cellsOf g (m2 5 6) m2) fun v3 m4 =>
    vm (ms m4 5 7 v3) fun m6 =>
    ebX0_goBehind_48 g m6
  else
    vm (ms m 5 7 (w32 ((m 5 7) - (w32 (x1 + (m 5 5)))))) fun m7 =>
    ebX0_goBehind_48 g m7
def eX0_goBehind (g : Shp) (x1 : Int) (m : Mem) : Option (Int × Mem) := ebX0_goBehind_0 g x1 m
set_option maxRecDepth 20000 in
theorem qX0_keepSizes_46 {g : Shp} {m : Mem} {x1 x2 x4 z0 : Int} (h : Sh g m) (hx1 : gk g x1 = 20) : bX0_keepSizes_46 g 5 x1 x2 x4 z0 m = ebX0_keepSizes_46 g x1 x2 x4 z0 m := by
  unfold bX0_keepSizes_46 ebX0_keepSizes_46
  refine vv_c (fun y1 ey1 => ?_)
  rfl
theorem nX0_keepSizes_46 {g : Shp} {m : Mem} {x1 x2 x4 z0 : Int} (h : Sh g m) (hx1 : gk g x1 = 20) {c1 : Int} {s1 : (Int × Int × Mem)} (hF : ebX0_keepSizes_46 g x1 x2 x4 z0 m = some (c1, s1)) : Sh g s1.2.2 := by
  unfold ebX0_keepSizes_46 at hF
  obtain ⟨y1, ey1, hF⟩ := vv_ok hF
  cases hF
  exact h
set_option maxRecDepth 20000 in
theorem qX0_keepSizes_45 {g : Shp} {m : Mem} {x1 x2 x4 : Int} (h : Sh g m) (hx1 : gk g x1 = 20) : bX0_keepSizes_45 g 5 x1 x2 x4 m = ebX0_keepSizes_45 g x1 x2 x4 m := by
  unfold bX0_keepSizes_45 ebX0_keepSizes_45
  exact qX0_keepSizes_46 h hx1
theorem nX0_keepSizes_45 {g : Shp} {m : Mem} {x1 x2 x4 : Int} (h : Sh g m) (hx1 : gk g x1 = 20) {c1 : Int} {s1 : (Int × Int × Mem)} (hF : ebX0_keepSizes_45 g x1 x2 x4 m = some (c1, s1)) : Sh g s1.2.2 := by
  unfold ebX0_keepSizes_45 at hF
  exact nX0_keepSizes_46 h hx1 hF
set_option maxRecDepth 20000 in
theorem qX0_keepSizes_17 {g : Shp} {m : Mem} {x1 x2 x3 x4 : Int} (h : Sh g m) (hx1 : gk g x1 = 20) : bX0_keepSizes_17 g 5 x1 x2 x3 x4 m = ebX0_keepSizes_17 g x1 x2 x3 x4 m := by
  unfold bX0_keepSizes_17 ebX0_keepSizes_17
  refine if_c (fun hc1 => ?_) (fun hc1 => ?_)
  · rfl
  · refine if_c (fun hc2 => ?_) (fun hc2 => ?_)
    · exact qX0_keepSizes_45 h hx1
    · have k3 := s_5_3 h
      rewrite [k3.1, ck_t k3.2.1]
      try rewrite [k3.2.2]
      refine ck_c (fun i4 => ?_)
      refine ck_c (fun i5 => ?_)
      refine if_c (fun hc6 => ?_) (fun hc6 => ?_)
      · exact qX0_keepSizes_46 h hx1
      · exact qX0_keepSizes_45 h hx1
theorem nX0_keepSizes_17 {g : Shp} {m : Mem} {x1 x2 x3 x4 : Int} (h : Sh g m) (hx1 : gk g x1 = 20) {c1 : Int} {s1 : (Int × Int × Mem)} (hF : ebX0_keepSizes_17 g x1 x2 x3 x4 m = some (c1, s1)) : Sh g s1.2.2 := by
  unfold ebX0_keepSizes_17 at hF
  rcases if_ok hF with ⟨hc1, hF⟩ | ⟨hc1, hF⟩
  · cases hF
    exact h
  · rcases if_ok hF with ⟨hc2, hF⟩ | ⟨hc2, hF⟩
    · exact nX0_keepSizes_45 h hx1 hF
    · have k3 := s_5_3 h
      obtain ⟨i4, hF⟩ := ck_ok hF
      obtain ⟨i5, hF⟩ := ck_ok hF
      rcases if_ok hF with ⟨hc6, hF⟩ | ⟨hc6, hF⟩
      · exact nX0_keepSizes_46 h hx1 hF
      · exact nX0_keepSizes_45 h hx1 hF
theorem nlX0_keepSizes_17 {g : Shp} {x1 x2 : Int} (hx1 : gk g x1 = 20) {n : Nat} {s0 s1 : (Int × Int × Mem)} {c1 : Int} (h : Sh g s0.2.2) (hI : iter (eBX0_keepSizes_17 g x1 x2) n s0 = some (c1, s1)) : Sh g s1.2.2 :=
  iter_inv (B := eBX0_keepSizes_17 g x1 x2) (fun q => Sh g q.2.2) (fun s c s' hs hB => nX0_keepSizes_17 hs hx1 hB) n s0 c1 s1 h hI
theorem qlX0_keepSizes_17 {g : Shp} {x1 x2 : Int} (hx1 : gk g x1 = 20) {n : Nat} {s0 : (Int × Int × Mem)} (h : Sh g s0.2.2) : iter (BX0_keepSizes_17 g 5 x1 x2) n s0 = iter (eBX0_keepSizes_17 g x1 x2) n s0 :=
  iter_eq (B := BX0_keepSizes_17 g 5 x1 x2) (E := eBX0_keepSizes_17 g x1 x2) (fun q => Sh g q.2.2) (fun s hs => qX0_keepSizes_17 hs hx1) (fun s c s' hs hB => nX0_keepSizes_17 hs hx1 ((qX0_keepSizes_17 hs hx1).symm.trans hB)) n s0 h
set_option maxRecDepth 20000 in
theorem qX0_keepSizes_77 {g : Shp} {m : Mem} {x4 : Int} (h : Sh g m)  : bX0_keepSizes_77 g 5 x4 m = ebX0_keepSizes_77 g x4 m := by
  unfold bX0_keepSizes_77 ebX0_keepSizes_77
  have k1 := s_5_1 h
  rewrite [k1.1, ck_t k1.2.1]
  rewrite [k1.2.2]
  refine if_c (fun hc2 => ?_) (fun hc2 => ?_)
  · rfl
  · have k3 := s_5_1 h
    try rewrite [k3.2.2]
    refine ck_c (fun i4 => ?_)
    have k5 := a26 h (r := 9) (i := x4) k3.2.1 i4 rfl
    try rewrite [k5.1]
    rewrite [ck_t k5.2]
    refine vm_c (fun m6 em6 => ?_)
    have hm6 := h.s em6 (nRf k5.2 (by decide) (by decide))
    refine vv_c (fun y7 ey7 => ?_)
    rfl
theorem nX0_keepSizes_77 {g : Shp} {m : Mem} {x4 : Int} (h : Sh g m)  {c1 : Int} {s1 : (Int × Mem)} (hF : ebX0_keepSizes_77 g x4 m = some (c1, s1)) : Sh g s1.2 := by
  unfold ebX0_keepSizes_77 at hF
  have k1 := s_5_1 h
  rcases if_ok hF with ⟨hc2, hF⟩ | ⟨hc2, hF⟩
  · cases hF
    exact h
  · have k3 := s_5_1 h
    obtain ⟨i4, hF⟩ := ck_ok hF
    have k5 := a26 h (r := 9) (i := x4) k3.2.1 i4 rfl
    obtain ⟨m6, em6, hF⟩ := vm_ok hF
    have hm6 := h.s em6 (nRf k5.2 (by decide) (by decide))
    obtain ⟨y7, ey7, hF⟩ := vv_ok hF
    cases hF
    exact hm6
theorem nlX0_keepSizes_77 {g : Shp}  {n : Nat} {s0 s1 : (Int × Mem)} {c1 : Int} (h : Sh g s0.2) (hI : iter (eBX0_keepSizes_77 g ) n s0 = some (c1, s1)) : Sh g s1.2 :=
  iter_inv (B := eBX0_keepSizes_77 g ) (fun q => Sh g q.2) (fun s c s' hs hB => nX0_keepSizes_77 hs  hB) n s0 c1 s1 h hI
theorem qlX0_keepSizes_77 {g : Shp}  {n : Nat} {s0 : (Int × Mem)} (h : Sh g s0.2) : iter (BX0_keepSizes_77 g 5) n s0 = iter (eBX0_keepSizes_77 g ) n s0 :=
  iter_eq (B := BX0_keepSizes_77 g 5) (E := eBX0_keepSizes_77 g ) (fun q => Sh g q.2) (fun s hs => qX0_keepSizes_77 hs ) (fun s c s' hs hB => nX0_keepSizes_77 hs  ((qX0_keepSizes_77 hs ).symm.trans hB)) n s0 h
set_option maxRecDepth 20000 in
theorem qX0_keepSizes_104 {g : Shp} {m : Mem} (h : Sh g m)  : bX0_keepSizes_104 g m = ebX0_keepSizes_104 g m := by
  unfold bX0_keepSizes_104 ebX0_keepSizes_104
  rfl
theorem nX0_keepSizes_104 {g : Shp} {m : Mem} (h : Sh g m)  {r : Int} {m' : Mem} (hF : ebX0_keepSizes_104 g m = some (r, m')) : Sh g m' := by
  unfold ebX0_keepSizes_104 at hF
  cases hF
  exact h
set_option maxRecDepth 20000 in
theorem qX0_keepSizes_53 {g : Shp} {m : Mem} {x1 x2 x3 : Int} (h : Sh g m) (hx1 : gk g x1 = 20) : bX0_keepSizes_53 g 5 x1 x2 x3 m = ebX0_keepSizes_53 g x1 x2 x3 m := by
  unfold bX0_keepSizes_53 ebX0_keepSizes_53
  refine if_c (fun hc1 => ?_) (fun hc1 => ?_)
  · have k2 := s_5_3 h
    rewrite [k2.1, ck_t k2.2.1]
    try rewrite [k2.2.2]
    refine ck_c (fun h3 => ?_)
    refine vm_c (fun m4 em4 => ?_)
    have hm4 := h.cp em4 k2.2.1
    refine vm_c (fun m5 em5 => ?_)
    have hm5 := hm4.s em5 (nRf (sk_5 hm4) (by decide) (by decide))
    refine bdl_q (qlX0_keepSizes_77  (n := 100000) (s0 := (0, m5)) hm5) (fun cv6 sv7 hi8 => ?_)
    have h9 := nlX0_keepSizes_77  (s0 := (0, m5)) hm5 ((qlX0_keepSizes_77  (n := 100000) (s0 := (0, m5)) hm5).symm.trans hi8)
    exact qX0_keepSizes_104 h9 
  · rfl
theorem nX0_keepSizes_53 {g : Shp} {m : Mem} {x1 x2 x3 : Int} (h : Sh g m) (hx1 : gk g x1 = 20) {r : Int} {m' : Mem} (hF : ebX0_keepSizes_53 g x1 x2 x3 m = some (r, m')) : Sh g m' := by
  unfold ebX0_keepSizes_53 at hF
  rcases if_ok hF with ⟨hc1, hF⟩ | ⟨hc1, hF⟩
  · have k2 := s_5_3 h
    obtain ⟨h3, hF⟩ := ck_ok hF
    obtain ⟨m4, em4, hF⟩ := vm_ok hF
    have hm4 := h.cp em4 k2.2.1
    obtain ⟨m5, em5, hF⟩ := vm_ok hF
    have hm5 := hm4.s em5 (nRf (sk_5 hm4) (by decide) (by decide))
    obtain ⟨cv6, sv7, hi8, hF⟩ := bdl_ok hF
    have h9 := nlX0_keepSizes_77  (s0 := (0, m5)) hm5 hi8
    exact nX0_keepSizes_104 h9  hF
  · cases hF
    exact h
set_option maxRecDepth 20000 in
theorem qX0_keepSizes_13 {g : Shp} {m : Mem} {x1 x2 z0 : Int} (h : Sh g m) (hx1 : gk g x1 = 20) : bX0_keepSizes_13 g 5 x1 x2 z0 m = ebX0_keepSizes_13 g x1 x2 z0 m := by
  unfold bX0_keepSizes_13 ebX0_keepSizes_13
  refine bdl_q (qlX0_keepSizes_17 hx1 (n := 100000) (s0 := (z0, 0, m)) h) (fun cv1 sv2 hi3 => ?_)
  have h4 := nlX0_keepSizes_17 hx1 (s0 := (z0, 0, m)) h ((qlX0_keepSizes_17 hx1 (n := 100000) (s0 := (z0, 0, m)) h).symm.trans hi3)
  exact qX0_keepSizes_53 h4 hx1
theorem nX0_keepSizes_13 {g : Shp} {m : Mem} {x1 x2 z0 : Int} (h : Sh g m) (hx1 : gk g x1 = 20) {r : Int} {m' : Mem} (hF : ebX0_keepSizes_13 g x1 x2 z0 m = some (r, m')) : Sh g m' := by
  unfold ebX0_keepSizes_13 at hF
  obtain ⟨cv1, sv2, hi3, hF⟩ := bdl_ok hF
  have h4 := nlX0_keepSizes_17 hx1 (s0 := (z0, 0, m)) h hi3
  exact nX0_keepSizes_53 h4 hx1 hF
set_option maxRecDepth 20000 in
theorem qX0_keepSizes_0 {g : Shp} {m : Mem} {x1 x2 : Int} (h : Sh g m) (hx1 : gk g x1 = 20) : bX0_keepSizes_0 g 5 x1 x2 m = ebX0_keepSizes_0 g x1 x2 m := by
  unfold bX0_keepSizes_0 ebX0_keepSizes_0
  refine if_c (fun hc1 => ?_) (fun hc1 => ?_)
  · exact qX0_keepSizes_13 h hx1
  · exact qX0_keepSizes_13 h hx1
theorem nX0_keepSizes_0 {g : Shp} {m : Mem} {x1 x2 : Int} (h : Sh g m) (hx1 : gk g x1 = 20) {r : Int} {m' : Mem} (hF : ebX0_keepSizes_0 g x1 x2 m = some (r, m')) : Sh g m' := by
  unfold ebX0_keepSizes_0 at hF
  rcases if_ok hF with ⟨hc1, hF⟩ | ⟨hc1, hF⟩
  · exact nX0_keepSizes_13 h hx1 hF
  · exact nX0_keepSizes_13 h hx1 hF
theorem qX0_keepSizes {g : Shp} {m : Mem} {x1 x2 : Int} (h : Sh g m) (hx1 : gk g x1 = 20) : fX0_keepSizes g 5 x1 x2 m = eX0_keepSizes g x1 x2 m := qX0_keepSizes_0 h hx1
theorem nX0_keepSizes {g : Shp} {m : Mem} {x1 x2 : Int} (h : Sh g m) (hx1 : gk g x1 = 20) {r : Int} {m' : Mem} (hF : eX0_keepSizes g x1 x2 m = some (r, m')) : Sh g m' := nX0_keepSizes_0 h hx1 hF
set_option maxRecDepth 20000 in
theorem qX0_layingsOf_18 {g : Shp} {m : Mem} {z0 z1 z2 : Int} (h : Sh g m) (hz0 : gk g z0 = 26) : bX0_layingsOf_18 g z0 z1 z2 m = ebX0_layingsOf_18 g z0 z1 z2 m := by
  unfold bX0_layingsOf_18 ebX0_layingsOf_18
  try rewrite [al26 h hz0]
  refine ck_c (fun i1 => ?_)
  have k2 := a26 h (r := z0) (i := w32 (z1 + z2)) hz0 i1 rfl
  try rewrite [k2.1]
  rewrite [ck_t k2.2]
  rfl
theorem nX0_layingsOf_18 {g : Shp} {m : Mem} {z0 z1 z2 : Int} (h : Sh g m) (hz0 : gk g z0 = 26) {r : Int} {m' : Mem} (hF : ebX0_layingsOf_18 g z0 z1 z2 m = some (r, m')) : Sh g m' := by
  unfold ebX0_layingsOf_18 at hF
  obtain ⟨i1, hF⟩ := ck_ok hF
  have k2 := a26 h (r := z0) (i := w32 (z1 + z2)) hz0 i1 rfl
  cases hF
  exact h
set_option maxRecDepth 20000 in
theorem qX0_layingsOf_0 {g : Shp} {m : Mem} {x1 x2 : Int} (h : Sh g m)  : bX0_layingsOf_0 g 5 x1 x2 m = ebX0_layingsOf_0 g x1 x2 m := by
  unfold bX0_layingsOf_0 ebX0_layingsOf_0
  have k1 := s_5_1 h
  rewrite [k1.1, ck_t k1.2.1]
  refine if_c (fun hc2 => ?_) (fun hc2 => ?_)
  · exact qX0_layingsOf_18 h k1.2.1
  · exact qX0_layingsOf_18 h k1.2.1
theorem nX0_layingsOf_0 {g : Shp} {m : Mem} {x1 x2 : Int} (h : Sh g m)  {r : Int} {m' : Mem} (hF : ebX0_layingsOf_0 g x1 x2 m = some (r, m')) : Sh g m' := by
  unfold ebX0_layingsOf_0 at hF
  have k1 := s_5_1 h
  rcases if_ok hF with ⟨hc2, hF⟩ | ⟨hc2, hF⟩
  · exact nX0_layingsOf_18 h k1.2.1 hF
  · exact nX0_layingsOf_18 h k1.2.1 hF
theorem qX0_layingsOf {g : Shp} {m : Mem} {x1 x2 : Int} (h : Sh g m)  : fX0_layingsOf g 5 x1 x2 m = eX0_layingsOf g x1 x2 m := qX0_layingsOf_0 h 
theorem nX0_layingsOf {g : Shp} {m : Mem} {x1 x2 : Int} (h : Sh g m)  {r : Int} {m' : Mem} (hF : eX0_layingsOf g x1 x2 m = some (r, m')) : Sh g m' := nX0_layingsOf_0 h  hF
set_option maxRecDepth 20000 in
theorem qX0_cellsOf_24 {g : Shp} {m : Mem} {z0 : Int} (h : Sh g m)  : bX0_cellsOf_24 g z0 m = ebX0_cellsOf_24 g z0 m := by
  unfold bX0_cellsOf_24 ebX0_cellsOf_24
  rfl
theorem nX0_cellsOf_24 {g : Shp} {m : Mem} {z0 : Int} (h : Sh g m)  {r : Int} {m' : Mem} (hF : ebX0_cellsOf_24 g z0 m = some (r, m')) : Sh g m' := by
  unfold ebX0_cellsOf_24 at hF
  cases hF
  exact h
set_option maxRecDepth 20000 in
theorem qX0_cellsOf_0 {g : Shp} {m : Mem} {x1 : Int} (h : Sh g m)  : bX0_cellsOf_0 g 5 x1 m = ebX0_cellsOf_0 g x1 m := by
  unfold bX0_cellsOf_0 ebX0_cellsOf_0
  have k1 := s_5_0 h
  rewrite [k1.1, ck_t k1.2.1]
  refine if_c (fun hc2 => ?_) (fun hc2 => ?_)
  · exact qX0_cellsOf_24 h
  · have k3 := s_5_0 h
    have k4 := s_6_0 h
    rewrite [k4.1, ck_t k4.2.1]
    try rewrite [k4.2.2]
    refine ck_c (fun i5 => ?_)
    exact qX0_cellsOf_24 h 
theorem nX0_cellsOf_0 {g : Shp} {m : Mem} {x1 : Int} (h : Sh g m)  {r : Int} {m' : Mem} (hF : ebX0_cellsOf_0 g x1 m = some (r, m')) : Sh g m' := by
  unfold ebX0_cellsOf_0 at hF
  have k1 := s_5_0 h
  rcases if_ok hF with ⟨hc2, hF⟩ | ⟨hc2, hF⟩
  · exact nX0_cellsOf_24 h  hF
  · have k3 := s_5_0 h
    have k4 := s_6_0 h
    obtain ⟨i5, hF⟩ := ck_ok hF
    exact nX0_cellsOf_24 h  hF
theorem qX0_cellsOf {g : Shp} {m : Mem} {x1 : Int} (h : Sh g m)  : fX0_cellsOf g 5 x1 m = eX0_cellsOf g x1 m := qX0_cellsOf_0 h 
theorem nX0_cellsOf {g : Shp} {m : Mem} {x1 : Int} (h : Sh g m)  {r : Int} {m' : Mem} (hF : eX0_cellsOf g x1 m = some (r, m')) : Sh g m' := nX0_cellsOf_0 h  hF
set_option maxRecDepth 20000 in
theorem qX2_stones_0 {g : Shp} {m : Mem} {x0 x1 : Int} (h : Sh g m) (hx0 : gk g x0 = 3) : bX2_stones_0 g x0 x1 m = ebX2_stones_0 g x0 x1 m := by
  unfold bX2_stones_0 ebX2_stones_0
  refine vv_c (fun y1 ey1 => ?_)
  have k2 := u3_0 h (r := x0) (q := x0 + 1) hx0 rfl
  rewrite [k2.1, ck_t k2.2.1]
  try rewrite [k2.2.2]
  refine ck_c (fun i3 => ?_)
  have k4 := u3_0 h (r := x0) (q := x0 + 1) hx0 rfl
  try rewrite [k4.2.2]
  refine ck_c (fun i5 => ?_)
  have k6 := u3_0 h (r := x0) (q := x0 + 1) hx0 rfl
  try rewrite [k6.2.2]
  refine ck_c (fun i7 => ?_)
  rfl
theorem nX2_stones_0 {g : Shp} {m : Mem} {x0 x1 : Int} (h : Sh g m) (hx0 : gk g x0 = 3) {r : Int} {m' : Mem} (hF : ebX2_stones_0 g x0 x1 m = some (r, m')) : Sh g m' := by
  unfold ebX2_stones_0 at hF
  obtain ⟨y1, ey1, hF⟩ := vv_ok hF
  have k2 := u3_0 h (r := x0) (q := x0 + 1) hx0 rfl
  obtain ⟨i3, hF⟩ := ck_ok hF
  have k4 := u3_0 h (r := x0) (q := x0 + 1) hx0 rfl
  obtain ⟨i5, hF⟩ := ck_ok hF
  have k6 := u3_0 h (r := x0) (q := x0 + 1) hx0 rfl
  obtain ⟨i7, hF⟩ := ck_ok hF
  cases hF
  exact h
theorem qX2_stones {g : Shp} {m : Mem} {x0 x1 : Int} (h : Sh g m) (hx0 : gk g x0 = 3) : fX2_stones g x0 x1 m = eX2_stones g x0 x1 m := qX2_stones_0 h hx0
theorem nX2_stones {g : Shp} {m : Mem} {x0 x1 : Int} (h : Sh g m) (hx0 : gk g x0 = 3) {r : Int} {m' : Mem} (hF : eX2_stones g x0 x1 m = some (r, m')) : Sh g m' := nX2_stones_0 h hx0 hF
set_option maxRecDepth 20000 in
theorem qX2_canBeTakenFrom_48 {g : Shp} {m : Mem} {z0 : Int} (h : Sh g m)  : bX2_canBeTakenFrom_48 g z0 m = ebX2_canBeTakenFrom_48 g z0 m := by
  unfold bX2_canBeTakenFrom_48 ebX2_canBeTakenFrom_48
  refine ck_c (fun b1 => ?_)
  rfl
theorem nX2_canBeTakenFrom_48 {g : Shp} {m : Mem} {z0 : Int} (h : Sh g m)  {r : Int} {m' : Mem} (hF : ebX2_canBeTakenFrom_48 g z0 m = some (r, m')) : Sh g m' := by
  unfold ebX2_canBeTakenFrom_48 at hF
  obtain ⟨b1, hF⟩ := ck_ok hF
  cases hF
  exact h
set_option maxRecDepth 20000 in
theorem qX2_canBeTakenFrom_47 {g : Shp} {m : Mem} (h : Sh g m)  : bX2_canBeTakenFrom_47 g m = ebX2_canBeTakenFrom_47 g m := by
  unfold bX2_canBeTakenFrom_47 ebX2_canBeTakenFrom_47
  exact qX2_canBeTakenFrom_48 h 
theorem nX2_canBeTakenFrom_47 {g : Shp} {m : Mem} (h : Sh g m)  {r : Int} {m' : Mem} (hF : ebX2_canBeTakenFrom_47 g m = some (r, m')) : Sh g m' := by
  unfold ebX2_canBeTakenFrom_47 at hF
  exact nX2_canBeTakenFrom_48 h  hF
set_option maxRecDepth 20000 in
theorem qX2_canBeTakenFrom_0 {g : Shp} {m : Mem} {x0 x1 x2 x3 x4 : Int} (h : Sh g m) (hx0 : gk g x0 = 3) : bX2_canBeTakenFrom_0 g x0 x1 x2 x3 x4 m = ebX2_canBeTakenFrom_0 g x0 x1 x2 x3 x4 m := by
  unfold bX2_canBeTakenFrom_0 ebX2_canBeTakenFrom_0
  refine vv_c (fun y1 ey1 => ?_)
  have k2 := u3_0 h (r := x0) (q := x0 + 1) hx0 rfl
  rewrite [k2.1, ck_t k2.2.1]
  try rewrite [k2.2.2]
  refine ck_c (fun i3 => ?_)
  refine if_c (fun hc4 => ?_) (fun hc4 => ?_)
  · exact qX2_canBeTakenFrom_47 h
  · have k5 := u3_0 h (r := x0) (q := x0 + 1) hx0 rfl
    try rewrite [k5.2.2]
    refine ck_c (fun i6 => ?_)
    refine if_c (fun hc7 => ?_) (fun hc7 => ?_)
    · exact qX2_canBeTakenFrom_47 h
    · have k8 := u3_0 h (r := x0) (q := x0 + 1) hx0 rfl
      try rewrite [k8.2.2]
      refine ck_c (fun i9 => ?_)
      refine if_c (fun hc10 => ?_) (fun hc10 => ?_)
      · exact qX2_canBeTakenFrom_47 h
      · exact qX2_canBeTakenFrom_48 h
theorem nX2_canBeTakenFrom_0 {g : Shp} {m : Mem} {x0 x1 x2 x3 x4 : Int} (h : Sh g m) (hx0 : gk g x0 = 3) {r : Int} {m' : Mem} (hF : ebX2_canBeTakenFrom_0 g x0 x1 x2 x3 x4 m = some (r, m')) : Sh g m' := by
  unfold ebX2_canBeTakenFrom_0 at hF
  obtain ⟨y1, ey1, hF⟩ := vv_ok hF
  have k2 := u3_0 h (r := x0) (q := x0 + 1) hx0 rfl
  obtain ⟨i3, hF⟩ := ck_ok hF
  rcases if_ok hF with ⟨hc4, hF⟩ | ⟨hc4, hF⟩
  · exact nX2_canBeTakenFrom_47 h  hF
  · have k5 := u3_0 h (r := x0) (q := x0 + 1) hx0 rfl
    obtain ⟨i6, hF⟩ := ck_ok hF
    rcases if_ok hF with ⟨hc7, hF⟩ | ⟨hc7, hF⟩
    · exact nX2_canBeTakenFrom_47 h  hF
    · have k8 := u3_0 h (r := x0) (q := x0 + 1) hx0 rfl
      obtain ⟨i9, hF⟩ := ck_ok hF
      rcases if_ok hF with ⟨hc10, hF⟩ | ⟨hc10, hF⟩
      · exact nX2_canBeTakenFrom_47 h  hF
      · exact nX2_canBeTakenFrom_48 h  hF
theorem qX2_canBeTakenFrom {g : Shp} {m : Mem} {x0 x1 x2 x3 x4 : Int} (h : Sh g m) (hx0 : gk g x0 = 3) : fX2_canBeTakenFrom g x0 x1 x2 x3 x4 m = eX2_canBeTakenFrom g x0 x1 x2 x3 x4 m := qX2_canBeTakenFrom_0 h hx0
theorem nX2_canBeTakenFrom {g : Shp} {m : Mem} {x0 x1 x2 x3 x4 : Int} (h : Sh g m) (hx0 : gk g x0 = 3) {r : Int} {m' : Mem} (hF : eX2_canBeTakenFrom g x0 x1 x2 x3 x4 m = some (r, m')) : Sh g m' := nX2_canBeTakenFrom_0 h hx0 hF
set_option maxRecDepth 20000 in
theorem qX0_worthOf_230 {fr : Shp → Int → Int → Int → Int → Int → Int → Mem → Option (Int × Mem)} {er : Shp → Int → Int → Int → Int → Int → Mem → Option (Int × Mem)} (hrq : ∀ {g : Shp} {m : Mem} {x1 x2 x3 x4 x5 : Int}, Sh g m → fr g 5 x1 x2 x3 x4 x5 m = er g x1 x2 x3 x4 x5 m) (hrn : ∀ {g : Shp} {m m' : Mem} {x1 x2 x3 x4 x5 r : Int}, Sh g m → er g x1 x2 x3 x4 x5 m = some (r, m') → Sh g m') {g : Shp} {m : Mem} {x1 x3 x4 x5 x6 x7 x8 x9 x10 : Int} (h : Sh g m) (hx8 : gk g x8 = 3) : bX0_worthOf_230 fr g 5 x1 x3 x4 x5 x6 x7 x8 x9 x10 m = ebX0_worthOf_230 er g x1 x3 x4 x5 x6 x7 x8 x9 x10 m := by
  unfold bX0_worthOf_230 ebX0_worthOf_230
  refine vv_c (fun y1 ey1 => ?_)
  rfl
theorem nX0_worthOf_230 {er : Shp → Int → Int → Int → Int → Int → Mem → Option (Int × Mem)} (hrn : ∀ {g : Shp} {m m' : Mem} {x1 x2 x3 x4 x5 r : Int}, Sh g m → er g x1 x2 x3 x4 x5 m = some (r, m') → Sh g m') {g : Shp} {m : Mem} {x1 x3 x4 x5 x6 x7 x8 x9 x10 : Int} (h : Sh g m) (hx8 : gk g x8 = 3) {c1 : Int} {s1 : (Int × Int × Mem)} (hF : ebX0_worthOf_230 er g x1 x3 x4 x5 x6 x7 x8 x9 x10 m = some (c1, s1)) : Sh g s1.2.2 := by
  unfold ebX0_worthOf_230 at hF
  obtain ⟨y1, ey1, hF⟩ := vv_ok hF
  cases hF
  exact h
set_option maxRecDepth 20000 in
theorem qX0_worthOf_107 {fr : Shp → Int → Int → Int → Int → Int → Int → Mem → Option (Int × Mem)} {er : Shp → Int → Int → Int → Int → Int → Mem → Option (Int × Mem)} (hrq : ∀ {g : Shp} {m : Mem} {x1 x2 x3 x4 x5 : Int}, Sh g m → fr g 5 x1 x2 x3 x4 x5 m = er g x1 x2 x3 x4 x5 m) (hrn : ∀ {g : Shp} {m m' : Mem} {x1 x2 x3 x4 x5 r : Int}, Sh g m → er g x1 x2 x3 x4 x5 m = some (r, m') → Sh g m') {g : Shp} {m : Mem} {x1 x3 x4 x5 x6 x7 x8 x9 x10 : Int} (h : Sh g m) (hx8 : gk g x8 = 3) : bX0_worthOf_107 fr g 5 x1 x3 x4 x5 x6 x7 x8 x9 x10 m = ebX0_worthOf_107 er g x1 x3 x4 x5 x6 x7 x8 x9 x10 m := by
  unfold bX0_worthOf_107 ebX0_worthOf_107
  refine if_c (fun hc1 => ?_) (fun hc1 => ?_)
  · rfl
  · have k2 := u3_1 h (r := x8) (q := x8 + 2) hx8 rfl
    rewrite [k2.1, ck_t k2.2.1]
    try rewrite [k2.2.2]
    refine ck_c (fun i3 => ?_)
    refine bd2_q (qX2_stones h hx8) (fun v4 m5 h6 => ?_)
    have hm5 := nX2_stones h hx8 ((qX2_stones h hx8).symm.trans h6)
    refine vv_c (fun y7 ey7 => ?_)
    refine if_c (fun hc8 => ?_) (fun hc8 => ?_)
    · exact qX0_worthOf_230 hrq hrn hm5 hx8
    · refine bd2_q (qX2_canBeTakenFrom hm5 hx8) (fun v9 m10 h11 => ?_)
      have hm10 := nX2_canBeTakenFrom hm5 hx8 ((qX2_canBeTakenFrom hm5 hx8).symm.trans h11)
      refine if_c (fun hc12 => ?_) (fun hc12 => ?_)
      · exact qX0_worthOf_230 hrq hrn hm10 hx8
      · refine vv_c (fun y13 ey13 => ?_)
        refine bd2_q (qX0_cellsOf hm10 ) (fun v14 m15 h16 => ?_)
        have hm15 := nX0_cellsOf hm10  ((qX0_cellsOf hm10 ).symm.trans h16)
        have k17 := u3_0 hm15 (r := x8) (q := x8 + 1) hx8 rfl
        rewrite [k17.1, ck_t k17.2.1]
        try rewrite [k17.2.2]
        refine ck_c (fun i18 => ?_)
        have k19 := u3_0 hm15 (r := x8) (q := x8 + 1) hx8 rfl
        try rewrite [k19.2.2]
        refine ck_c (fun i20 => ?_)
        have k21 := u3_0 hm15 (r := x8) (q := x8 + 1) hx8 rfl
        try rewrite [k21.2.2]
        refine ck_c (fun i22 => ?_)
        refine bd2_q (hrq hm15 ) (fun v23 m24 h25 => ?_)
        have hm24 := hrn hm15  ((hrq hm15 ).symm.trans h25)
        refine vv_c (fun y26 ey26 => ?_)
        exact qX0_worthOf_230 hrq hrn hm24 hx8
theorem nX0_worthOf_107 {er : Shp → Int → Int → Int → Int → Int → Mem → Option (Int × Mem)} (hrn : ∀ {g : Shp} {m m' : Mem} {x1 x2 x3 x4 x5 r : Int}, Sh g m → er g x1 x2 x3 x4 x5 m = some (r, m') → Sh g m') {g : Shp} {m : Mem} {x1 x3 x4 x5 x6 x7 x8 x9 x10 : Int} (h : Sh g m) (hx8 : gk g x8 = 3) {c1 : Int} {s1 : (Int × Int × Mem)} (hF : ebX0_worthOf_107 er g x1 x3 x4 x5 x6 x7 x8 x9 x10 m = some (c1, s1)) : Sh g s1.2.2 := by
  unfold ebX0_worthOf_107 at hF
  rcases if_ok hF with ⟨hc1, hF⟩ | ⟨hc1, hF⟩
  · cases hF
    exact h
  · have k2 := u3_1 h (r := x8) (q := x8 + 2) hx8 rfl
    obtain ⟨i3, hF⟩ := ck_ok hF
    obtain ⟨v4, m5, h6, hF⟩ := bd2_ok hF
    have hm5 := nX2_stones h hx8 h6
    obtain ⟨y7, ey7, hF⟩ := vv_ok hF
    rcases if_ok hF with ⟨hc8, hF⟩ | ⟨hc8, hF⟩
    · exact nX0_worthOf_230 hrn hm5 hx8 hF
    · obtain ⟨v9, m10, h11, hF⟩ := bd2_ok hF
      have hm10 := nX2_canBeTakenFrom hm5 hx8 h11
      rcases if_ok hF with ⟨hc12, hF⟩ | ⟨hc12, hF⟩
      · exact nX0_worthOf_230 hrn hm10 hx8 hF
      · obtain ⟨y13, ey13, hF⟩ := vv_ok hF
        obtain ⟨v14, m15, h16, hF⟩ := bd2_ok hF
        have hm15 := nX0_cellsOf hm10  h16
        have k17 := u3_0 hm15 (r := x8) (q := x8 + 1) hx8 rfl
        obtain ⟨i18, hF⟩ := ck_ok hF
        have k19 := u3_0 hm15 (r := x8) (q := x8 + 1) hx8 rfl
        obtain ⟨i20, hF⟩ := ck_ok hF
        have k21 := u3_0 hm15 (r := x8) (q := x8 + 1) hx8 rfl
        obtain ⟨i22, hF⟩ := ck_ok hF
        obtain ⟨v23, m24, h25, hF⟩ := bd2_ok hF
        have hm24 := hrn hm15  h25
        obtain ⟨y26, ey26, hF⟩ := vv_ok hF
        exact nX0_worthOf_230 hrn hm24 hx8 hF
theorem nlX0_worthOf_107 {er : Shp → Int → Int → Int → Int → Int → Mem → Option (Int × Mem)} (hrn : ∀ {g : Shp} {m m' : Mem} {x1 x2 x3 x4 x5 r : Int}, Sh g m → er g x1 x2 x3 x4 x5 m = some (r, m') → Sh g m') {g : Shp} {x1 x3 x4 x5 x6 x7 x8 : Int} (hx8 : gk g x8 = 3) {n : Nat} {s0 s1 : (Int × Int × Mem)} {c1 : Int} (h : Sh g s0.2.2) (hI : iter (eBX0_worthOf_107 er g x1 x3 x4 x5 x6 x7 x8) n s0 = some (c1, s1)) : Sh g s1.2.2 :=
  iter_inv (B := eBX0_worthOf_107 er g x1 x3 x4 x5 x6 x7 x8) (fun q => Sh g q.2.2) (fun s c s' hs hB => nX0_worthOf_107 hrn hs hx8 hB) n s0 c1 s1 h hI
theorem qlX0_worthOf_107 {fr : Shp → Int → Int → Int → Int → Int → Int → Mem → Option (Int × Mem)} {er : Shp → Int → Int → Int → Int → Int → Mem → Option (Int × Mem)} (hrq : ∀ {g : Shp} {m : Mem} {x1 x2 x3 x4 x5 : Int}, Sh g m → fr g 5 x1 x2 x3 x4 x5 m = er g x1 x2 x3 x4 x5 m) (hrn : ∀ {g : Shp} {m m' : Mem} {x1 x2 x3 x4 x5 r : Int}, Sh g m → er g x1 x2 x3 x4 x5 m = some (r, m') → Sh g m') {g : Shp} {x1 x3 x4 x5 x6 x7 x8 : Int} (hx8 : gk g x8 = 3) {n : Nat} {s0 : (Int × Int × Mem)} (h : Sh g s0.2.2) : iter (BX0_worthOf_107 fr g 5 x1 x3 x4 x5 x6 x7 x8) n s0 = iter (eBX0_worthOf_107 er g x1 x3 x4 x5 x6 x7 x8) n s0 :=
  iter_eq (B := BX0_worthOf_107 fr g 5 x1 x3 x4 x5 x6 x7 x8) (E := eBX0_worthOf_107 er g x1 x3 x4 x5 x6 x7 x8) (fun q => Sh g q.2.2) (fun s hs => qX0_worthOf_107 hrq hrn hs hx8) (fun s c s' hs hB => nX0_worthOf_107 hrn hs hx8 ((qX0_worthOf_107 hrq hrn hs hx8).symm.trans hB)) n s0 h
set_option maxRecDepth 20000 in
theorem qX0_worthOf_17 {fr : Shp → Int → Int → Int → Int → Int → Int → Mem → Option (Int × Mem)} {er : Shp → Int → Int → Int → Int → Int → Mem → Option (Int × Mem)} (hrq : ∀ {g : Shp} {m : Mem} {x1 x2 x3 x4 x5 : Int}, Sh g m → fr g 5 x1 x2 x3 x4 x5 m = er g x1 x2 x3 x4 x5 m) (hrn : ∀ {g : Shp} {m m' : Mem} {x1 x2 x3 x4 x5 r : Int}, Sh g m → er g x1 x2 x3 x4 x5 m = some (r, m') → Sh g m') {g : Shp} {m : Mem} (h : Sh g m)  : bX0_worthOf_17 fr g m = ebX0_worthOf_17 er g m := by
  unfold bX0_worthOf_17 ebX0_worthOf_17
  rfl
theorem nX0_worthOf_17 {er : Shp → Int → Int → Int → Int → Int → Mem → Option (Int × Mem)} (hrn : ∀ {g : Shp} {m m' : Mem} {x1 x2 x3 x4 x5 r : Int}, Sh g m → er g x1 x2 x3 x4 x5 m = some (r, m') → Sh g m') {g : Shp} {m : Mem} (h : Sh g m)  {r : Int} {m' : Mem} (hF : ebX0_worthOf_17 er g m = some (r, m')) : Sh g m' := by
  unfold ebX0_worthOf_17 at hF
  cases hF
  exact h
set_option maxRecDepth 20000 in
theorem qX0_worthOf_250 {fr : Shp → Int → Int → Int → Int → Int → Int → Mem → Option (Int × Mem)} {er : Shp → Int → Int → Int → Int → Int → Mem → Option (Int × Mem)} (hrq : ∀ {g : Shp} {m : Mem} {x1 x2 x3 x4 x5 : Int}, Sh g m → fr g 5 x1 x2 x3 x4 x5 m = er g x1 x2 x3 x4 x5 m) (hrn : ∀ {g : Shp} {m m' : Mem} {x1 x2 x3 x4 x5 r : Int}, Sh g m → er g x1 x2 x3 x4 x5 m = some (r, m') → Sh g m') {g : Shp} {m : Mem} {x9 : Int} (h : Sh g m)  : bX0_worthOf_250 fr g x9 m = ebX0_worthOf_250 er g x9 m := by
  unfold bX0_worthOf_250 ebX0_worthOf_250
  rfl
theorem nX0_worthOf_250 {er : Shp → Int → Int → Int → Int → Int → Mem → Option (Int × Mem)} (hrn : ∀ {g : Shp} {m m' : Mem} {x1 x2 x3 x4 x5 r : Int}, Sh g m → er g x1 x2 x3 x4 x5 m = some (r, m') → Sh g m') {g : Shp} {m : Mem} {x9 : Int} (h : Sh g m)  {r : Int} {m' : Mem} (hF : ebX0_worthOf_250 er g x9 m = some (r, m')) : Sh g m' := by
  unfold ebX0_worthOf_250 at hF
  cases hF
  exact h
set_option maxRecDepth 20000 in
theorem qX0_worthOf_236 {fr : Shp → Int → Int → Int → Int → Int → Int → Mem → Option (Int × Mem)} {er : Shp → Int → Int → Int → Int → Int → Mem → Option (Int × Mem)} (hrq : ∀ {g : Shp} {m : Mem} {x1 x2 x3 x4 x5 : Int}, Sh g m → fr g 5 x1 x2 x3 x4 x5 m = er g x1 x2 x3 x4 x5 m) (hrn : ∀ {g : Shp} {m m' : Mem} {x1 x2 x3 x4 x5 r : Int}, Sh g m → er g x1 x2 x3 x4 x5 m = some (r, m') → Sh g m') {g : Shp} {m : Mem} {x6 x7 x9 : Int} (h : Sh g m)  : bX0_worthOf_236 fr g 5 x6 x7 x9 m = ebX0_worthOf_236 er g x6 x7 x9 m := by
  unfold bX0_worthOf_236 ebX0_worthOf_236
  refine if_c (fun hc1 => ?_) (fun hc1 => ?_)
  · exact qX0_worthOf_250 hrq hrn h
  · have k2 := h.2.2.1.2.2
    rewrite [ck_t k2]
    refine ck_c (fun i3 => ?_)
    refine vm_c (fun m4 em4 => ?_)
    have hm4 := h.s em4 (nRa k2 (by decide))
    exact qX0_worthOf_250 hrq hrn hm4 
theorem nX0_worthOf_236 {er : Shp → Int → Int → Int → Int → Int → Mem → Option (Int × Mem)} (hrn : ∀ {g : Shp} {m m' : Mem} {x1 x2 x3 x4 x5 r : Int}, Sh g m → er g x1 x2 x3 x4 x5 m = some (r, m') → Sh g m') {g : Shp} {m : Mem} {x6 x7 x9 : Int} (h : Sh g m)  {r : Int} {m' : Mem} (hF : ebX0_worthOf_236 er g x6 x7 x9 m = some (r, m')) : Sh g m' := by
  unfold ebX0_worthOf_236 at hF
  rcases if_ok hF with ⟨hc1, hF⟩ | ⟨hc1, hF⟩
  · exact nX0_worthOf_250 hrn h  hF
  · have k2 := h.2.2.1.2.2
    obtain ⟨i3, hF⟩ := ck_ok hF
    obtain ⟨m4, em4, hF⟩ := vm_ok hF
    have hm4 := h.s em4 (nRa k2 (by decide))
    exact nX0_worthOf_250 hrn hm4  hF
set_option maxRecDepth 20000 in
theorem qX0_worthOf_84 {fr : Shp → Int → Int → Int → Int → Int → Int → Mem → Option (Int × Mem)} {er : Shp → Int → Int → Int → Int → Int → Mem → Option (Int × Mem)} (hrq : ∀ {g : Shp} {m : Mem} {x1 x2 x3 x4 x5 : Int}, Sh g m → fr g 5 x1 x2 x3 x4 x5 m = er g x1 x2 x3 x4 x5 m) (hrn : ∀ {g : Shp} {m m' : Mem} {x1 x2 x3 x4 x5 r : Int}, Sh g m → er g x1 x2 x3 x4 x5 m = some (r, m') → Sh g m') {g : Shp} {m : Mem} {x1 x2 x3 x4 x5 x6 x7 : Int} (h : Sh g m)  : bX0_worthOf_84 fr g 5 x1 x2 x3 x4 x5 x6 x7 m = ebX0_worthOf_84 er g x1 x2 x3 x4 x5 x6 x7 m := by
  unfold bX0_worthOf_84 ebX0_worthOf_84
  have k1 := s_5_0 h
  rewrite [k1.1, ck_t k1.2.1]
  have k2 := s_6_1 h
  rewrite [k2.1, ck_t k2.2.1]
  try rewrite [k2.2.2]
  refine ck_c (fun i3 => ?_)
  refine bd2_q (qX0_layingsOf h ) (fun v4 m5 h6 => ?_)
  have hm5 := nX0_layingsOf h  ((qX0_layingsOf h ).symm.trans h6)
  refine ck_c (fun k7 => ?_)
  refine bdl_q (qlX0_worthOf_107 hrq hrn k7 (n := 100000) (s0 := (1048576, 0, m5)) hm5) (fun cv8 sv9 hi10 => ?_)
  have h11 := nlX0_worthOf_107 hrn k7 (s0 := (1048576, 0, m5)) hm5 ((qlX0_worthOf_107 hrq hrn k7 (n := 100000) (s0 := (1048576, 0, m5)) hm5).symm.trans hi10)
  exact qX0_worthOf_236 hrq hrn h11 
theorem nX0_worthOf_84 {er : Shp → Int → Int → Int → Int → Int → Mem → Option (Int × Mem)} (hrn : ∀ {g : Shp} {m m' : Mem} {x1 x2 x3 x4 x5 r : Int}, Sh g m → er g x1 x2 x3 x4 x5 m = some (r, m') → Sh g m') {g : Shp} {m : Mem} {x1 x2 x3 x4 x5 x6 x7 : Int} (h : Sh g m)  {r : Int} {m' : Mem} (hF : ebX0_worthOf_84 er g x1 x2 x3 x4 x5 x6 x7 m = some (r, m')) : Sh g m' := by
  unfold ebX0_worthOf_84 at hF
  have k1 := s_5_0 h
  have k2 := s_6_1 h
  obtain ⟨i3, hF⟩ := ck_ok hF
  obtain ⟨v4, m5, h6, hF⟩ := bd2_ok hF
  have hm5 := nX0_layingsOf h  h6
  obtain ⟨k7, hF⟩ := ck_ok hF
  obtain ⟨cv8, sv9, hi10, hF⟩ := bdl_ok hF
  have h11 := nlX0_worthOf_107 hrn k7 (s0 := (1048576, 0, m5)) hm5 hi10
  exact nX0_worthOf_236 hrn h11  hF
set_option maxRecDepth 20000 in
theorem qX0_worthOf_58 {fr : Shp → Int → Int → Int → Int → Int → Int → Mem → Option (Int × Mem)} {er : Shp → Int → Int → Int → Int → Int → Mem → Option (Int × Mem)} (hrq : ∀ {g : Shp} {m : Mem} {x1 x2 x3 x4 x5 : Int}, Sh g m → fr g 5 x1 x2 x3 x4 x5 m = er g x1 x2 x3 x4 x5 m) (hrn : ∀ {g : Shp} {m m' : Mem} {x1 x2 x3 x4 x5 r : Int}, Sh g m → er g x1 x2 x3 x4 x5 m = some (r, m') → Sh g m') {g : Shp} {m : Mem} {x1 x2 x3 x4 x5 x6 z0 : Int} (h : Sh g m)  : bX0_worthOf_58 fr g 5 x1 x2 x3 x4 x5 x6 z0 m = ebX0_worthOf_58 er g x1 x2 x3 x4 x5 x6 z0 m := by
  unfold bX0_worthOf_58 ebX0_worthOf_58
  refine if_c (fun hc1 => ?_) (fun hc1 => ?_)
  · exact qX0_worthOf_84 hrq hrn h
  · have k2 := h.2.2.1.2.2
    rewrite [ck_t k2]
    refine ck_c (fun i3 => ?_)
    refine if_c (fun hc4 => ?_) (fun hc4 => ?_)
    · exact qX0_worthOf_84 hrq hrn h
    · have k5 := h.2.2.1.2.2
      refine ck_c (fun i6 => ?_)
      rfl
theorem nX0_worthOf_58 {er : Shp → Int → Int → Int → Int → Int → Mem → Option (Int × Mem)} (hrn : ∀ {g : Shp} {m m' : Mem} {x1 x2 x3 x4 x5 r : Int}, Sh g m → er g x1 x2 x3 x4 x5 m = some (r, m') → Sh g m') {g : Shp} {m : Mem} {x1 x2 x3 x4 x5 x6 z0 : Int} (h : Sh g m)  {r : Int} {m' : Mem} (hF : ebX0_worthOf_58 er g x1 x2 x3 x4 x5 x6 z0 m = some (r, m')) : Sh g m' := by
  unfold ebX0_worthOf_58 at hF
  rcases if_ok hF with ⟨hc1, hF⟩ | ⟨hc1, hF⟩
  · exact nX0_worthOf_84 hrn h  hF
  · have k2 := h.2.2.1.2.2
    obtain ⟨i3, hF⟩ := ck_ok hF
    rcases if_ok hF with ⟨hc4, hF⟩ | ⟨hc4, hF⟩
    · exact nX0_worthOf_84 hrn h  hF
    · have k5 := h.2.2.1.2.2
      obtain ⟨i6, hF⟩ := ck_ok hF
      cases hF
      exact h
set_option maxRecDepth 20000 in
theorem qX0_worthOf_0 {fr : Shp → Int → Int → Int → Int → Int → Int → Mem → Option (Int × Mem)} {er : Shp → Int → Int → Int → Int → Int → Mem → Option (Int × Mem)} (hrq : ∀ {g : Shp} {m : Mem} {x1 x2 x3 x4 x5 : Int}, Sh g m → fr g 5 x1 x2 x3 x4 x5 m = er g x1 x2 x3 x4 x5 m) (hrn : ∀ {g : Shp} {m m' : Mem} {x1 x2 x3 x4 x5 r : Int}, Sh g m → er g x1 x2 x3 x4 x5 m = some (r, m') → Sh g m') {g : Shp} {m : Mem} {x1 x2 x3 x4 x5 : Int} (h : Sh g m)  : bX0_worthOf_0 fr g 5 x1 x2 x3 x4 x5 m = ebX0_worthOf_0 er g x1 x2 x3 x4 x5 m := by
  unfold bX0_worthOf_0 ebX0_worthOf_0
  have k1 := s_5_0 h
  rewrite [k1.1, ck_t k1.2.1]
  refine if_c (fun hc2 => ?_) (fun hc2 => ?_)
  · exact qX0_worthOf_17 hrq hrn h
  · refine if_c (fun hc3 => ?_) (fun hc3 => ?_)
    · refine vv_c (fun y4 ey4 => ?_)
      have k5 := s_5_0 h
      have k6 := s_6_0 h
      rewrite [k6.1, ck_t k6.2.1]
      try rewrite [k6.2.2]
      refine ck_c (fun i7 => ?_)
      refine if_c (fun hc8 => ?_) (fun hc8 => ?_)
      · exact qX0_worthOf_58 hrq hrn h
      · exact qX0_worthOf_58 hrq hrn h
    · exact qX0_worthOf_17 hrq hrn h
theorem nX0_worthOf_0 {er : Shp → Int → Int → Int → Int → Int → Mem → Option (Int × Mem)} (hrn : ∀ {g : Shp} {m m' : Mem} {x1 x2 x3 x4 x5 r : Int}, Sh g m → er g x1 x2 x3 x4 x5 m = some (r, m') → Sh g m') {g : Shp} {m : Mem} {x1 x2 x3 x4 x5 : Int} (h : Sh g m)  {r : Int} {m' : Mem} (hF : ebX0_worthOf_0 er g x1 x2 x3 x4 x5 m = some (r, m')) : Sh g m' := by
  unfold ebX0_worthOf_0 at hF
  have k1 := s_5_0 h
  rcases if_ok hF with ⟨hc2, hF⟩ | ⟨hc2, hF⟩
  · exact nX0_worthOf_17 hrn h  hF
  · rcases if_ok hF with ⟨hc3, hF⟩ | ⟨hc3, hF⟩
    · obtain ⟨y4, ey4, hF⟩ := vv_ok hF
      have k5 := s_5_0 h
      have k6 := s_6_0 h
      obtain ⟨i7, hF⟩ := ck_ok hF
      rcases if_ok hF with ⟨hc8, hF⟩ | ⟨hc8, hF⟩
      · exact nX0_worthOf_58 hrn h  hF
      · exact nX0_worthOf_58 hrn h  hF
    · exact nX0_worthOf_17 hrn h  hF
theorem nX0_worthOf (d : Nat) : ∀ {g : Shp} {m m' : Mem} {x1 x2 x3 x4 x5 r : Int}, Sh g m → eX0_worthOf d g x1 x2 x3 x4 x5 m = some (r, m') → Sh g m' := by
  induction d with
  | zero => intro g m m' x1 x2 x3 x4 x5 r h  hF; exact absurd hF (by simp [eX0_worthOf])
  | succ d ih => intro g m m' x1 x2 x3 x4 x5 r h  hF; exact nX0_worthOf_0 ih h  hF
theorem qX0_worthOf (d : Nat) : ∀ {g : Shp} {m : Mem} {x1 x2 x3 x4 x5 : Int}, Sh g m → fX0_worthOf d g 5 x1 x2 x3 x4 x5 m = eX0_worthOf d g x1 x2 x3 x4 x5 m := by
  induction d with
  | zero => intro g m x1 x2 x3 x4 x5 h ; rfl
  | succ d ih => intro g m x1 x2 x3 x4 x5 h ; exact qX0_worthOf_0 ih (nX0_worthOf d) h 
set_option maxRecDepth 20000 in
theorem qX0_isAslant_52 {g : Shp} {m : Mem} {z0 : Int} (h : Sh g m)  : bX0_isAslant_52 g z0 m = ebX0_isAslant_52 g z0 m := by
  unfold bX0_isAslant_52 ebX0_isAslant_52
  refine ck_c (fun b1 => ?_)
  rfl
theorem nX0_isAslant_52 {g : Shp} {m : Mem} {z0 : Int} (h : Sh g m)  {r : Int} {m' : Mem} (hF : ebX0_isAslant_52 g z0 m = some (r, m')) : Sh g m' := by
  unfold ebX0_isAslant_52 at hF
  obtain ⟨b1, hF⟩ := ck_ok hF
  cases hF
  exact h
set_option maxRecDepth 20000 in
theorem qX0_isAslant_51 {g : Shp} {m : Mem} (h : Sh g m)  : bX0_isAslant_51 g m = ebX0_isAslant_51 g m := by
  unfold bX0_isAslant_51 ebX0_isAslant_51
  exact qX0_isAslant_52 h 
theorem nX0_isAslant_51 {g : Shp} {m : Mem} (h : Sh g m)  {r : Int} {m' : Mem} (hF : ebX0_isAslant_51 g m = some (r, m')) : Sh g m' := by
  unfold ebX0_isAslant_51 at hF
  exact nX0_isAslant_52 h  hF
set_option maxRecDepth 20000 in
theorem qX0_isAslant_19 {g : Shp} {m : Mem} {x1 z0 : Int} (h : Sh g m)  : bX0_isAslant_19 g 5 x1 z0 m = ebX0_isAslant_19 g x1 z0 m := by
  unfold bX0_isAslant_19 ebX0_isAslant_19
  refine if_c (fun hc1 => ?_) (fun hc1 => ?_)
  · have k2 := s_5_0 h
    rewrite [k2.1, ck_t k2.2.1]
    have k3 := s_6_1 h
    rewrite [k3.1, ck_t k3.2.1]
    try rewrite [k3.2.2]
    refine ck_c (fun i4 => ?_)
    refine if_c (fun hc5 => ?_) (fun hc5 => ?_)
    · exact qX0_isAslant_51 h
    · refine if_c (fun hc6 => ?_) (fun hc6 => ?_)
      · exact qX0_isAslant_52 h
      · exact qX0_isAslant_51 h
  · exact qX0_isAslant_51 h
theorem nX0_isAslant_19 {g : Shp} {m : Mem} {x1 z0 : Int} (h : Sh g m)  {r : Int} {m' : Mem} (hF : ebX0_isAslant_19 g x1 z0 m = some (r, m')) : Sh g m' := by
  unfold ebX0_isAslant_19 at hF
  rcases if_ok hF with ⟨hc1, hF⟩ | ⟨hc1, hF⟩
  · have k2 := s_5_0 h
    have k3 := s_6_1 h
    obtain ⟨i4, hF⟩ := ck_ok hF
    rcases if_ok hF with ⟨hc5, hF⟩ | ⟨hc5, hF⟩
    · exact nX0_isAslant_51 h  hF
    · rcases if_ok hF with ⟨hc6, hF⟩ | ⟨hc6, hF⟩
      · exact nX0_isAslant_52 h  hF
      · exact nX0_isAslant_51 h  hF
  · exact nX0_isAslant_51 h  hF
set_option maxRecDepth 20000 in
theorem qX0_isAslant_18 {g : Shp} {m : Mem} {x1 : Int} (h : Sh g m)  : bX0_isAslant_18 g 5 x1 m = ebX0_isAslant_18 g x1 m := by
  unfold bX0_isAslant_18 ebX0_isAslant_18
  exact qX0_isAslant_19 h 
theorem nX0_isAslant_18 {g : Shp} {m : Mem} {x1 : Int} (h : Sh g m)  {r : Int} {m' : Mem} (hF : ebX0_isAslant_18 g x1 m = some (r, m')) : Sh g m' := by
  unfold ebX0_isAslant_18 at hF
  exact nX0_isAslant_19 h  hF
set_option maxRecDepth 20000 in
theorem qX0_isAslant_0 {g : Shp} {m : Mem} {x1 x2 : Int} (h : Sh g m)  : bX0_isAslant_0 g 5 x1 x2 m = ebX0_isAslant_0 g x1 x2 m := by
  unfold bX0_isAslant_0 ebX0_isAslant_0
  refine if_c (fun hc1 => ?_) (fun hc1 => ?_)
  · have k2 := s_5_3 h
    rewrite [k2.1, ck_t k2.2.1]
    try rewrite [k2.2.2]
    refine ck_c (fun i3 => ?_)
    refine if_c (fun hc4 => ?_) (fun hc4 => ?_)
    · exact qX0_isAslant_19 h
    · exact qX0_isAslant_18 h
  · exact qX0_isAslant_18 h
theorem nX0_isAslant_0 {g : Shp} {m : Mem} {x1 x2 : Int} (h : Sh g m)  {r : Int} {m' : Mem} (hF : ebX0_isAslant_0 g x1 x2 m = some (r, m')) : Sh g m' := by
  unfold ebX0_isAslant_0 at hF
  rcases if_ok hF with ⟨hc1, hF⟩ | ⟨hc1, hF⟩
  · have k2 := s_5_3 h
    obtain ⟨i3, hF⟩ := ck_ok hF
    rcases if_ok hF with ⟨hc4, hF⟩ | ⟨hc4, hF⟩
    · exact nX0_isAslant_19 h  hF
    · exact nX0_isAslant_18 h  hF
  · exact nX0_isAslant_18 h  hF
theorem qX0_isAslant {g : Shp} {m : Mem} {x1 x2 : Int} (h : Sh g m)  : fX0_isAslant g 5 x1 x2 m = eX0_isAslant g x1 x2 m := qX0_isAslant_0 h 
theorem nX0_isAslant {g : Shp} {m : Mem} {x1 x2 : Int} (h : Sh g m)  {r : Int} {m' : Mem} (hF : eX0_isAslant g x1 x2 m = some (r, m')) : Sh g m' := nX0_isAslant_0 h  hF
set_option maxRecDepth 20000 in
theorem qX0_ownWorth_29 {g : Shp} {m : Mem} {z0 z1 : Int} (h : Sh g m)  : bX0_ownWorth_29 g z0 z1 m = ebX0_ownWorth_29 g z0 z1 m := by
  unfold bX0_ownWorth_29 ebX0_ownWorth_29
  refine vv_c (fun y1 ey1 => ?_)
  rfl
theorem nX0_ownWorth_29 {g : Shp} {m : Mem} {z0 z1 : Int} (h : Sh g m)  {r : Int} {m' : Mem} (hF : ebX0_ownWorth_29 g z0 z1 m = some (r, m')) : Sh g m' := by
  unfold ebX0_ownWorth_29 at hF
  obtain ⟨y1, ey1, hF⟩ := vv_ok hF
  cases hF
  exact h
set_option maxRecDepth 20000 in
theorem qX0_ownWorth_15 {g : Shp} {m : Mem} {x1 x2 z0 : Int} (h : Sh g m)  : bX0_ownWorth_15 g 5 x1 x2 z0 m = ebX0_ownWorth_15 g x1 x2 z0 m := by
  unfold bX0_ownWorth_15 ebX0_ownWorth_15
  refine bd2_q (qX0_isAslant h ) (fun v1 m2 h3 => ?_)
  have hm2 := nX0_isAslant h  ((qX0_isAslant h ).symm.trans h3)
  refine if_c (fun hc4 => ?_) (fun hc4 => ?_)
  · exact qX0_ownWorth_29 hm2
  · exact qX0_ownWorth_29 hm2
theorem nX0_ownWorth_15 {g : Shp} {m : Mem} {x1 x2 z0 : Int} (h : Sh g m)  {r : Int} {m' : Mem} (hF : ebX0_ownWorth_15 g x1 x2 z0 m = some (r, m')) : Sh g m' := by
  unfold ebX0_ownWorth_15 at hF
  obtain ⟨v1, m2, h3, hF⟩ := bd2_ok hF
  have hm2 := nX0_isAslant h  h3
  rcases if_ok hF with ⟨hc4, hF⟩ | ⟨hc4, hF⟩
  · exact nX0_ownWorth_29 hm2  hF
  · exact nX0_ownWorth_29 hm2  hF
set_option maxRecDepth 20000 in
theorem qX0_ownWorth_0 {g : Shp} {m : Mem} {x1 x2 : Int} (h : Sh g m)  : bX0_ownWorth_0 g 5 x1 x2 m = ebX0_ownWorth_0 g x1 x2 m := by
  unfold bX0_ownWorth_0 ebX0_ownWorth_0
  have k1 := s_5_3 h
  rewrite [k1.1, ck_t k1.2.1]
  try rewrite [k1.2.2]
  refine ck_c (fun i2 => ?_)
  refine if_c (fun hc3 => ?_) (fun hc3 => ?_)
  · exact qX0_ownWorth_15 h
  · exact qX0_ownWorth_15 h
theorem nX0_ownWorth_0 {g : Shp} {m : Mem} {x1 x2 : Int} (h : Sh g m)  {r : Int} {m' : Mem} (hF : ebX0_ownWorth_0 g x1 x2 m = some (r, m')) : Sh g m' := by
  unfold ebX0_ownWorth_0 at hF
  have k1 := s_5_3 h
  obtain ⟨i2, hF⟩ := ck_ok hF
  rcases if_ok hF with ⟨hc3, hF⟩ | ⟨hc3, hF⟩
  · exact nX0_ownWorth_15 h  hF
  · exact nX0_ownWorth_15 h  hF
theorem qX0_ownWorth {g : Shp} {m : Mem} {x1 x2 : Int} (h : Sh g m)  : fX0_ownWorth g 5 x1 x2 m = eX0_ownWorth g x1 x2 m := qX0_ownWorth_0 h 
theorem nX0_ownWorth {g : Shp} {m : Mem} {x1 x2 : Int} (h : Sh g m)  {r : Int} {m' : Mem} (hF : eX0_ownWorth g x1 x2 m = some (r, m')) : Sh g m' := nX0_ownWorth_0 h  hF
set_option maxRecDepth 20000 in
theorem qX0_isNext_141 {g : Shp} {m : Mem} {z0 : Int} (h : Sh g m)  : bX0_isNext_141 g z0 m = ebX0_isNext_141 g z0 m := by
  unfold bX0_isNext_141 ebX0_isNext_141
  refine ck_c (fun b1 => ?_)
  rfl
theorem nX0_isNext_141 {g : Shp} {m : Mem} {z0 : Int} (h : Sh g m)  {r : Int} {m' : Mem} (hF : ebX0_isNext_141 g z0 m = some (r, m')) : Sh g m' := by
  unfold ebX0_isNext_141 at hF
  obtain ⟨b1, hF⟩ := ck_ok hF
  cases hF
  exact h
set_option maxRecDepth 20000 in
theorem qX0_isNext_108 {g : Shp} {m : Mem} {x1 x2 z0 : Int} (h : Sh g m)  : bX0_isNext_108 g 5 x1 x2 z0 m = ebX0_isNext_108 g x1 x2 z0 m := by
  unfold bX0_isNext_108 ebX0_isNext_108
  have k1 := s_5_4 h
  rewrite [k1.1, ck_t k1.2.1]
  try rewrite [k1.2.2]
  refine ck_c (fun i2 => ?_)
  try rewrite [k1.2.2]
  refine ck_c (fun i3 => ?_)
  refine vm_c (fun m4 em4 => ?_)
  have hm4 := h.s em4 (nRa k1.2.1 (by decide))
  refine bd2_q (qX0_ownWorth hm4 ) (fun v5 m6 h7 => ?_)
  have hm6 := nX0_ownWorth hm4  ((qX0_ownWorth hm4 ).symm.trans h7)
  refine if_c (fun hc8 => ?_) (fun hc8 => ?_)
  · exact qX0_isNext_141 hm6
  · exact qX0_isNext_141 hm6
theorem nX0_isNext_108 {g : Shp} {m : Mem} {x1 x2 z0 : Int} (h : Sh g m)  {r : Int} {m' : Mem} (hF : ebX0_isNext_108 g x1 x2 z0 m = some (r, m')) : Sh g m' := by
  unfold ebX0_isNext_108 at hF
  have k1 := s_5_4 h
  obtain ⟨i2, hF⟩ := ck_ok hF
  obtain ⟨i3, hF⟩ := ck_ok hF
  obtain ⟨m4, em4, hF⟩ := vm_ok hF
  have hm4 := h.s em4 (nRa k1.2.1 (by decide))
  obtain ⟨v5, m6, h7, hF⟩ := bd2_ok hF
  have hm6 := nX0_ownWorth hm4  h7
  rcases if_ok hF with ⟨hc8, hF⟩ | ⟨hc8, hF⟩
  · exact nX0_isNext_141 hm6  hF
  · exact nX0_isNext_141 hm6  hF
set_option maxRecDepth 20000 in
theorem qX0_isNext_21 {g : Shp} {m : Mem} {x1 x2 x3 : Int} (h : Sh g m)  : bX0_isNext_21 g 5 x1 x2 x3 m = ebX0_isNext_21 g x1 x2 x3 m := by
  unfold bX0_isNext_21 ebX0_isNext_21
  have k1 := s_5_4 h
  rewrite [k1.1, ck_t k1.2.1]
  try rewrite [k1.2.2]
  refine ck_c (fun i2 => ?_)
  try rewrite [k1.2.2]
  refine ck_c (fun i3 => ?_)
  refine vm_c (fun m4 em4 => ?_)
  have hm4 := h.s em4 (nRa k1.2.1 (by decide))
  refine if_c (fun hc5 => ?_) (fun hc5 => ?_)
  · refine bd2_q (qX0_cellsOf hm4 ) (fun v6 m7 h8 => ?_)
    have hm7 := nX0_cellsOf hm4  ((qX0_cellsOf hm4 ).symm.trans h8)
    have k9 := s_5_4 hm7
    rewrite [k9.1, ck_t k9.2.1]
    try rewrite [k9.2.2]
    refine ck_c (fun i10 => ?_)
    have k11 := s_5_4 hm7
    try rewrite [k11.2.2]
    refine ck_c (fun i12 => ?_)
    have k13 := s_5_4 hm7
    try rewrite [k13.2.2]
    refine ck_c (fun i14 => ?_)
    refine bd2_q (qX0_worthOf 24 hm7 ) (fun v15 m16 h17 => ?_)
    have hm16 := nX0_worthOf 24 hm7  ((qX0_worthOf 24 hm7 ).symm.trans h17)
    exact qX0_isNext_108 hm16 
  · have k18 := s_5_4 hm4
    rewrite [k18.1, ck_t k18.2.1]
    try rewrite [k18.2.2]
    refine ck_c (fun i19 => ?_)
    have k20 := s_5_4 hm4
    try rewrite [k20.2.2]
    refine ck_c (fun i21 => ?_)
    have k22 := s_5_4 hm4
    try rewrite [k22.2.2]
    refine ck_c (fun i23 => ?_)
    refine bd2_q (qX0_worthOf 24 hm4 ) (fun v24 m25 h26 => ?_)
    have hm25 := nX0_worthOf 24 hm4  ((qX0_worthOf 24 hm4 ).symm.trans h26)
    exact qX0_isNext_108 hm25 
theorem nX0_isNext_21 {g : Shp} {m : Mem} {x1 x2 x3 : Int} (h : Sh g m)  {r : Int} {m' : Mem} (hF : ebX0_isNext_21 g x1 x2 x3 m = some (r, m')) : Sh g m' := by
  unfold ebX0_isNext_21 at hF
  have k1 := s_5_4 h
  obtain ⟨i2, hF⟩ := ck_ok hF
  obtain ⟨i3, hF⟩ := ck_ok hF
  obtain ⟨m4, em4, hF⟩ := vm_ok hF
  have hm4 := h.s em4 (nRa k1.2.1 (by decide))
  rcases if_ok hF with ⟨hc5, hF⟩ | ⟨hc5, hF⟩
  · obtain ⟨v6, m7, h8, hF⟩ := bd2_ok hF
    have hm7 := nX0_cellsOf hm4  h8
    have k9 := s_5_4 hm7
    obtain ⟨i10, hF⟩ := ck_ok hF
    have k11 := s_5_4 hm7
    obtain ⟨i12, hF⟩ := ck_ok hF
    have k13 := s_5_4 hm7
    obtain ⟨i14, hF⟩ := ck_ok hF
    obtain ⟨v15, m16, h17, hF⟩ := bd2_ok hF
    have hm16 := nX0_worthOf 24 hm7  h17
    exact nX0_isNext_108 hm16  hF
  · have k18 := s_5_4 hm4
    obtain ⟨i19, hF⟩ := ck_ok hF
    have k20 := s_5_4 hm4
    obtain ⟨i21, hF⟩ := ck_ok hF
    have k22 := s_5_4 hm4
    obtain ⟨i23, hF⟩ := ck_ok hF
    obtain ⟨v24, m25, h26, hF⟩ := bd2_ok hF
    have hm25 := nX0_worthOf 24 hm4  h26
    exact nX0_isNext_108 hm25  hF
set_option maxRecDepth 20000 in
theorem qX0_isNext_0 {g : Shp} {m : Mem} {x1 x2 : Int} (h : Sh g m)  : bX0_isNext_0 g 5 x1 x2 m = ebX0_isNext_0 g x1 x2 m := by
  unfold bX0_isNext_0 ebX0_isNext_0
  refine vv_c (fun y1 ey1 => ?_)
  refine if_c (fun hc2 => ?_) (fun hc2 => ?_)
  · exact qX0_isNext_21 h
  · refine if_c (fun hc3 => ?_) (fun hc3 => ?_)
    · exact qX0_isNext_21 h
    · rfl
theorem nX0_isNext_0 {g : Shp} {m : Mem} {x1 x2 : Int} (h : Sh g m)  {r : Int} {m' : Mem} (hF : ebX0_isNext_0 g x1 x2 m = some (r, m')) : Sh g m' := by
  unfold ebX0_isNext_0 at hF
  obtain ⟨y1, ey1, hF⟩ := vv_ok hF
  rcases if_ok hF with ⟨hc2, hF⟩ | ⟨hc2, hF⟩
  · exact nX0_isNext_21 h  hF
  · rcases if_ok hF with ⟨hc3, hF⟩ | ⟨hc3, hF⟩
    · exact nX0_isNext_21 h  hF
    · cases hF
      exact h
theorem qX0_isNext {g : Shp} {m : Mem} {x1 x2 : Int} (h : Sh g m)  : fX0_isNext g 5 x1 x2 m = eX0_isNext g x1 x2 m := qX0_isNext_0 h 
theorem nX0_isNext {g : Shp} {m : Mem} {x1 x2 : Int} (h : Sh g m)  {r : Int} {m' : Mem} (hF : eX0_isNext g x1 x2 m = some (r, m')) : Sh g m' := nX0_isNext_0 h  hF
set_option maxRecDepth 20000 in
theorem qX9_add_115 {g : Shp} {m : Mem} (h : Sh g m)  : bX9_add_115 g m = ebX9_add_115 g m := by
  unfold bX9_add_115 ebX9_add_115
  rfl
theorem nX9_add_115 {g : Shp} {m : Mem} (h : Sh g m)  {r : Int} {m' : Mem} (hF : ebX9_add_115 g m = some (r, m')) : Sh g m' := by
  unfold ebX9_add_115 at hF
  cases hF
  exact h
set_option maxRecDepth 20000 in
theorem qX9_add_92 {g : Shp} {m : Mem} {x0 x1 : Int} (h : Sh g m) (hx0 : gk g x0 = 10) : bX9_add_92 g x0 x1 m = ebX9_add_92 g x0 x1 m := by
  unfold bX9_add_92 ebX9_add_92
  refine vm_c (fun m1 em1 => ?_)
  have hm1 := h.s em1 (nRf hx0 (by decide) (by decide))
  exact qX9_add_115 hm1 
theorem nX9_add_92 {g : Shp} {m : Mem} {x0 x1 : Int} (h : Sh g m) (hx0 : gk g x0 = 10) {r : Int} {m' : Mem} (hF : ebX9_add_92 g x0 x1 m = some (r, m')) : Sh g m' := by
  unfold ebX9_add_92 at hF
  obtain ⟨m1, em1, hF⟩ := vm_ok hF
  have hm1 := h.s em1 (nRf hx0 (by decide) (by decide))
  exact nX9_add_115 hm1  hF
set_option maxRecDepth 20000 in
theorem qX9_add_48 {g : Shp} {m : Mem} {x0 x1 x2 x3 x4 x5 z0 z1 z2 z3 : Int} (h : Sh g m) (hx0 : gk g x0 = 10) (hz0 : gk g z0 = 20) : bX9_add_48 g x0 x1 x2 x3 x4 x5 z0 z1 z2 z3 m = ebX9_add_48 g x0 x1 x2 x3 x4 x5 z0 z1 z2 z3 m := by
  unfold bX9_add_48 ebX9_add_48
  refine ck_c (fun i1 => ?_)
  refine vm_c (fun m2 em2 => ?_)
  have hm2 := h.s em2 (nRa hz0 (by decide))
  refine vm_c (fun m3 em3 => ?_)
  have hm3 := hm2.s em3 (nRf hx0 (by decide) (by decide))
  have k4 := u10_1 hm3 (r := x0) (q := x0 + 2) hx0 rfl
  rewrite [k4.1, ck_t k4.2.1]
  try rewrite [k4.2.2]
  refine ck_c (fun i5 => ?_)
  try rewrite [k4.2.2]
  refine ck_c (fun i6 => ?_)
  refine vm_c (fun m7 em7 => ?_)
  have hm7 := hm3.s em7 (nRa k4.2.1 (by decide))
  refine vm_c (fun m8 em8 => ?_)
  have hm8 := hm7.s em8 (nRf hx0 (by decide) (by decide))
  refine if_c (fun hc9 => ?_) (fun hc9 => ?_)
  · refine if_c (fun hc10 => ?_) (fun hc10 => ?_)
    · have k11 := u10_2 hm8 (r := x0) (q := x0 + 3) hx0 rfl
      rewrite [k11.1, ck_t k11.2.1]
      try rewrite [k11.2.2]
      refine ck_c (fun i12 => ?_)
      try rewrite [k11.2.2]
      refine ck_c (fun i13 => ?_)
      refine vm_c (fun m14 em14 => ?_)
      have hm14 := hm8.s em14 (nRa k11.2.1 (by decide))
      exact qX9_add_115 hm14 
    · exact qX9_add_92 hm8 hx0
  · exact qX9_add_92 hm8 hx0
theorem nX9_add_48 {g : Shp} {m : Mem} {x0 x1 x2 x3 x4 x5 z0 z1 z2 z3 : Int} (h : Sh g m) (hx0 : gk g x0 = 10) (hz0 : gk g z0 = 20) {r : Int} {m' : Mem} (hF : ebX9_add_48 g x0 x1 x2 x3 x4 x5 z0 z1 z2 z3 m = some (r, m')) : Sh g m' := by
  unfold ebX9_add_48 at hF
  obtain ⟨i1, hF⟩ := ck_ok hF
  obtain ⟨m2, em2, hF⟩ := vm_ok hF
  have hm2 := h.s em2 (nRa hz0 (by decide))
  obtain ⟨m3, em3, hF⟩ := vm_ok hF
  have hm3 := hm2.s em3 (nRf hx0 (by decide) (by decide))
  have k4 := u10_1 hm3 (r := x0) (q := x0 + 2) hx0 rfl
  obtain ⟨i5, hF⟩ := ck_ok hF
  obtain ⟨i6, hF⟩ := ck_ok hF
  obtain ⟨m7, em7, hF⟩ := vm_ok hF
  have hm7 := hm3.s em7 (nRa k4.2.1 (by decide))
  obtain ⟨m8, em8, hF⟩ := vm_ok hF
  have hm8 := hm7.s em8 (nRf hx0 (by decide) (by decide))
  rcases if_ok hF with ⟨hc9, hF⟩ | ⟨hc9, hF⟩
  · rcases if_ok hF with ⟨hc10, hF⟩ | ⟨hc10, hF⟩
    · have k11 := u10_2 hm8 (r := x0) (q := x0 + 3) hx0 rfl
      obtain ⟨i12, hF⟩ := ck_ok hF
      obtain ⟨i13, hF⟩ := ck_ok hF
      obtain ⟨m14, em14, hF⟩ := vm_ok hF
      have hm14 := hm8.s em14 (nRa k11.2.1 (by decide))
      exact nX9_add_115 hm14  hF
    · exact nX9_add_92 hm8 hx0 hF
  · exact nX9_add_92 hm8 hx0 hF
set_option maxRecDepth 20000 in
theorem qX9_add_20 {g : Shp} {m : Mem} {x0 x1 x2 x3 x4 z0 : Int} (h : Sh g m) (hx0 : gk g x0 = 10) : bX9_add_20 g x0 x1 x2 x3 x4 z0 m = ebX9_add_20 g x0 x1 x2 x3 x4 z0 m := by
  unfold bX9_add_20 ebX9_add_20
  have k1 := u10_0 h (r := x0) (q := x0 + 1) hx0 rfl
  rewrite [k1.1, ck_t k1.2.1]
  refine if_c (fun hc2 => ?_) (fun hc2 => ?_)
  · exact qX9_add_48 h hx0 k1.2.1
  · exact qX9_add_48 h hx0 k1.2.1
theorem nX9_add_20 {g : Shp} {m : Mem} {x0 x1 x2 x3 x4 z0 : Int} (h : Sh g m) (hx0 : gk g x0 = 10) {r : Int} {m' : Mem} (hF : ebX9_add_20 g x0 x1 x2 x3 x4 z0 m = some (r, m')) : Sh g m' := by
  unfold ebX9_add_20 at hF
  have k1 := u10_0 h (r := x0) (q := x0 + 1) hx0 rfl
  rcases if_ok hF with ⟨hc2, hF⟩ | ⟨hc2, hF⟩
  · exact nX9_add_48 h hx0 k1.2.1 hF
  · exact nX9_add_48 h hx0 k1.2.1 hF
set_option maxRecDepth 20000 in
theorem qX9_add_0 {g : Shp} {m : Mem} {x0 x1 x2 x3 x4 : Int} (h : Sh g m) (hx0 : gk g x0 = 10) : bX9_add_0 g x0 x1 x2 x3 x4 m = ebX9_add_0 g x0 x1 x2 x3 x4 m := by
  unfold bX9_add_0 ebX9_add_0
  refine if_c (fun hc1 => ?_) (fun hc1 => ?_)
  · refine if_c (fun hc2 => ?_) (fun hc2 => ?_)
    · exact qX9_add_20 h hx0
    · exact qX9_add_20 h hx0
  · rfl
theorem nX9_add_0 {g : Shp} {m : Mem} {x0 x1 x2 x3 x4 : Int} (h : Sh g m) (hx0 : gk g x0 = 10) {r : Int} {m' : Mem} (hF : ebX9_add_0 g x0 x1 x2 x3 x4 m = some (r, m')) : Sh g m' := by
  unfold ebX9_add_0 at hF
  rcases if_ok hF with ⟨hc1, hF⟩ | ⟨hc1, hF⟩
  · rcases if_ok hF with ⟨hc2, hF⟩ | ⟨hc2, hF⟩
    · exact nX9_add_20 h hx0 hF
    · exact nX9_add_20 h hx0 hF
  · cases hF
    exact h
theorem qX9_add {g : Shp} {m : Mem} {x0 x1 x2 x3 x4 : Int} (h : Sh g m) (hx0 : gk g x0 = 10) : fX9_add g x0 x1 x2 x3 x4 m = eX9_add g x0 x1 x2 x3 x4 m := qX9_add_0 h hx0
theorem nX9_add {g : Shp} {m : Mem} {x0 x1 x2 x3 x4 : Int} (h : Sh g m) (hx0 : gk g x0 = 10) {r : Int} {m' : Mem} (hF : eX9_add g x0 x1 x2 x3 x4 m = some (r, m')) : Sh g m' := nX9_add_0 h hx0 hF
set_option maxRecDepth 20000 in
theorem qX0_goBehind_48 {g : Shp} {m : Mem} (h : Sh g m)  : bX0_goBehind_48 g m = ebX0_goBehind_48 g m := by
  unfold bX0_goBehind_48 ebX0_goBehind_48
  rfl
theorem nX0_goBehind_48 {g : Shp} {m : Mem} (h : Sh g m)  {r : Int} {m' : Mem} (hF : ebX0_goBehind_48 g m = some (r, m')) : Sh g m' := by
  unfold ebX0_goBehind_48 at hF
  cases hF
  exact h
set_option maxRecDepth 20000 in
theorem qX0_goBehind_0 {g : Shp} {m : Mem} {x1 : Int} (h : Sh g m)  : bX0_goBehind_0 g 5 x1 m = ebX0_goBehind_0 g x1 m := by
  unfold bX0_goBehind_0 ebX0_goBehind_0
  refine if_c (fun hc1 => ?_) (fun hc1 => ?_)
  · refine vm_c (fun m2 em2 => ?_)
    have hm2 := h.s em2 (nRf (sk_5 h) (by decide) (by decide))
    refine bd2_q (qX0_cellsOf hm2 ) (fun v3 m4 h5 => ?_)
    have hm4 := nX0_cellsOf hm2  ((qX0_cellsOf hm2 ).symm.trans h5)
    refine vm_c (fun m6 em6 => ?_)
    have hm6 := hm4.s em6 (nRf (sk_5 hm4) (by decide) (by decide))
    exact qX0_goBehind_48 hm6 
  · refine vm_c (fun m7 em7 => ?_)
    have hm7 := h.s em7 (nRf (sk_5 h) (by decide) (by decide))
    exact qX0_goBehind_48 hm7 
theorem nX0_goBehind_0 {g : Shp} {m : Mem} {x1 : Int} (h : Sh g m)  {r : Int} {m' : Mem} (hF : ebX0_goBehind_0 g x1 m = some (r, m')) : Sh g m' := by
  unfold ebX0_goBehind_0 at hF
  rcases if_ok hF with ⟨hc1, hF⟩ | ⟨hc1, hF⟩
  · obtain ⟨m2, em2, hF⟩ := vm_ok hF
    have hm2 := h.s em2 (nRf (sk_5 h) (by decide) (by decide))
    obtain ⟨v3, m4, h5, hF⟩ := bd2_ok hF
    have hm4 := nX0_cellsOf hm2  h5
    obtain ⟨m6, em6, hF⟩ := vm_ok hF
    have hm6 := hm4.s em6 (nRf (sk_5 hm4) (by decide) (by decide))
    exact nX0_goBehind_48 hm6  hF
  · obtain ⟨m7, em7, hF⟩ := vm_ok hF
    have hm7 := h.s em7 (nRf (sk_5 h) (by decide) (by decide))
    exact nX0_goBehind_48 hm7  hF
theorem qX0_goBehind {g : Shp} {m : Mem} {x1 : Int} (h : Sh g m)  : fX0_goBehind g 5 x1 m = eX0_goBehind g x1 m := qX0_goBehind_0 h 
theorem nX0_goBehind {g : Shp} {m : Mem} {x1 : Int} (h : Sh g m)  {r : Int} {m' : Mem} (hF : eX0_goBehind g x1 m = some (r, m')) : Sh g m' := nX0_goBehind_0 h  hF
