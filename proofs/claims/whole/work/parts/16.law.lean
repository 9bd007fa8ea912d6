def bL_law_631 (L : Nat) (xs : Nat → Int32) (x0 x1 x2 x3 : Int) (g : Shp) (m : Mem) : Option (Int × (Int × Shp × Mem)) :=
  vv (w32 (x3 + 5)) fun y1 =>
  some (0, (y1, g, m))
def bL_law_360 (L : Nat) (xs : Nat → Int32) (x0 x1 x2 x3 z0 : Int) (g : Shp) (m : Mem) : Option (Int × (Int × Shp × Mem)) :=
  ck ((0 : Int) ≤ (w32 (x3 + 1)) ∧ (w32 (x3 + 1)) < (L : Int)) <|
  ck ((0 : Int) ≤ (w32 (x3 + 2)) ∧ (w32 (x3 + 2)) < (L : Int)) <|
  ck ((0 : Int) ≤ (w32 (x3 + 3)) ∧ (w32 (x3 + 3)) < (L : Int)) <|
  bd2 (fX11_way g x2 (sx xs (w32 (x3 + 1))) (sx xs (w32 (x3 + 2))) (sx xs (w32 (x3 + 3))) m) fun v4 m5 =>
  if z0 = v4 then
    bL_law_631 L xs x0 x1 x2 x3 g m5
  else
    none
def bL_law_393 (L : Nat) (xs : Nat → Int32) (x0 x1 x2 x3 z0 : Int) (g : Shp) (m : Mem) : Option (Int × (Int × Shp × Mem)) :=
  ck ((0 : Int) ≤ (w32 (x3 + 1)) ∧ (w32 (x3 + 1)) < (L : Int)) <|
  bd2 (fX11_best g x2 (sx xs (w32 (x3 + 1))) m) fun v2 m3 =>
  if z0 = v2 then
    bL_law_631 L xs x0 x1 x2 x3 g m3
  else
    none
def bL_law_421 (L : Nat) (xs : Nat → Int32) (x0 x1 x2 x3 z0 : Int) (g : Shp) (m : Mem) : Option (Int × (Int × Shp × Mem)) :=
  ck ((0 : Int) ≤ (w32 (x3 + 1)) ∧ (w32 (x3 + 1)) < (L : Int)) <|
  ck ((0 : Int) ≤ (w32 (x3 + 2)) ∧ (w32 (x3 + 2)) < (L : Int)) <|
  bd2 (fX11_cover g x2 (sx xs (w32 (x3 + 1))) (sx xs (w32 (x3 + 2))) m) fun v3 m4 =>
  if z0 = v3 then
    bL_law_631 L xs x0 x1 x2 x3 g m4
  else
    none
def bL_law_487 (L : Nat) (xs : Nat → Int32) (x0 x1 x2 x3 z0 : Int) (g : Shp) (m : Mem) : Option (Int × (Int × Shp × Mem)) :=
  ck ((0 : Int) ≤ (w32 (x3 + 1)) ∧ (w32 (x3 + 1)) < (L : Int)) <|
  ck ((0 : Int) ≤ (w32 (x3 + 2)) ∧ (w32 (x3 + 2)) < (L : Int)) <|
  ck ((0 : Int) ≤ (w32 (x3 + 3)) ∧ (w32 (x3 + 3)) < (L : Int)) <|
  ck ((0 : Int) ≤ (w32 (x3 + 4)) ∧ (w32 (x3 + 4)) < (L : Int)) <|
  bd2 (fX11_order g x2 (sx xs (w32 (x3 + 1))) (sx xs (w32 (x3 + 2))) (sx xs (w32 (x3 + 3))) (sx xs (w32 (x3 + 4))) m) fun v5 m6 =>
  if z0 = v5 then
    bL_law_631 L xs x0 x1 x2 x3 g m6
  else
    none
def bL_law_18 (L : Nat) (xs : Nat → Int32) (x0 x1 x2 x3 : Int) (g : Shp) (m : Mem) : Option (Int × (Int × Shp × Mem)) :=
  if (w32 (((L : Int)) - 5)) < x3 then
    some (1, (x3, g, m))
  else
    ck ((0 : Int) ≤ x3 ∧ x3 < (L : Int)) <|
    if (bAnd (sx xs x3) 31) = 0 then
      ck ((0 : Int) ≤ (w32 (x3 + 1)) ∧ (w32 (x3 + 1)) < (L : Int)) <|
      bd2 (fX10_write g x1 (sx xs (w32 (x3 + 1))) m) fun v5 m6 =>
      ck ((0 : Int) ≤ (w32 (x3 + 1)) ∧ (w32 (x3 + 1)) < (L : Int)) <|
      bd2 (fX11_write g x2 (sx xs (w32 (x3 + 1))) m6) fun v10 m11 =>
      if v5 = v10 then
        bL_law_631 L xs x0 x1 x2 x3 g m11
      else
        none
    else
      if (bAnd (sx xs x3) 31) = 1 then
        bd2 (fX10_wipe g x1 m) fun v16 m17 =>
        bd2 (fX11_wipe g x2 m17) fun v20 m21 =>
        if v16 = v20 then
          bL_law_631 L xs x0 x1 x2 x3 g m21
        else
          none
      else
        if (bAnd (sx xs x3) 31) = 2 then
          bd2 (fX10_fault g x1 m) fun v26 m27 =>
          bd2 (fX11_fault g x2 m27) fun v30 m31 =>
          if v26 = v30 then
            bL_law_631 L xs x0 x1 x2 x3 g m31
          else
            none
        else
          if (bAnd (sx xs x3) 31) = 3 then
            bd2 (fX10_lay g x1 m) fun v36 m37 =>
            bd2 (fX11_lay g x2 m37) fun v40 m41 =>
            if v36 = v40 then
              bL_law_631 L xs x0 x1 x2 x3 g m41
            else
              none
          else
            if (bAnd (sx xs x3) 31) = 4 then
              ck ((0 : Int) ≤ (w32 (x3 + 1)) ∧ (w32 (x3 + 1)) < (L : Int)) <|
              bd2 (fX10_joint g x1 (sx xs (w32 (x3 + 1))) m) fun v47 m48 =>
              ck ((0 : Int) ≤ (w32 (x3 + 1)) ∧ (w32 (x3 + 1)) < (L : Int)) <|
              bd2 (fX11_joint g x2 (sx xs (w32 (x3 + 1))) m48) fun v52 m53 =>
              if v47 = v52 then
                bL_law_631 L xs x0 x1 x2 x3 g m53
              else
                none
            else
              if (bAnd (sx xs x3) 31) = 5 then
                ck ((0 : Int) ≤ (w32 (x3 + 1)) ∧ (w32 (x3 + 1)) < (L : Int)) <|
                ck ((0 : Int) ≤ (w32 (x3 + 2)) ∧ (w32 (x3 + 2)) < (L : Int)) <|
                bd2 (fX10_line g x1 (sx xs (w32 (x3 + 1))) (sx xs (w32 (x3 + 2))) m) fun v60 m61 =>
                ck ((0 : Int) ≤ (w32 (x3 + 1)) ∧ (w32 (x3 + 1)) < (L : Int)) <|
                ck ((0 : Int) ≤ (w32 (x3 + 2)) ∧ (w32 (x3 + 2)) < (L : Int)) <|
                bd2 (fX11_line g x2 (sx xs (w32 (x3 + 1))) (sx xs (w32 (x3 + 2))) m61) fun v66 m67 =>
                if v60 = v66 then
                  bL_law_631 L xs x0 x1 x2 x3 g m67
                else
                  none
              else
                if (bAnd (sx xs x3) 31) = 6 then
                  ck ((0 : Int) ≤ (w32 (x3 + 1)) ∧ (w32 (x3 + 1)) < (L : Int)) <|
                  ck ((0 : Int) ≤ (w32 (x3 + 2)) ∧ (w32 (x3 + 2)) < (L : Int)) <|
                  bd2 (fX10_cell g x1 (sx xs (w32 (x3 + 1))) (sx xs (w32 (x3 + 2))) m) fun v74 m75 =>
                  ck ((0 : Int) ≤ (w32 (x3 + 1)) ∧ (w32 (x3 + 1)) < (L : Int)) <|
                  ck ((0 : Int) ≤ (w32 (x3 + 2)) ∧ (w32 (x3 + 2)) < (L : Int)) <|
                  bd2 (fX11_cell g x2 (sx xs (w32 (x3 + 1))) (sx xs (w32 (x3 + 2))) m75) fun v80 m81 =>
                  if v74 = v80 then
                    bL_law_631 L xs x0 x1 x2 x3 g m81
                  else
                    none
                else
                  if (bAnd (sx xs x3) 31) = 7 then
                    ck ((0 : Int) ≤ (w32 (x3 + 1)) ∧ (w32 (x3 + 1)) < (L : Int)) <|
                    ck ((0 : Int) ≤ (w32 (x3 + 2)) ∧ (w32 (x3 + 2)) < (L : Int)) <|
                    bd2 (fX10_whose g x1 (sx xs (w32 (x3 + 1))) (sx xs (w32 (x3 + 2))) m) fun v88 m89 =>
                    ck ((0 : Int) ≤ (w32 (x3 + 1)) ∧ (w32 (x3 + 1)) < (L : Int)) <|
                    ck ((0 : Int) ≤ (w32 (x3 + 2)) ∧ (w32 (x3 + 2)) < (L : Int)) <|
                    bd2 (fX11_whose g x2 (sx xs (w32 (x3 + 1))) (sx xs (w32 (x3 + 2))) m89) fun v94 m95 =>
                    if v88 = v94 then
                      bL_law_631 L xs x0 x1 x2 x3 g m95
                    else
                      none
                  else
                    if (bAnd (sx xs x3) 31) = 8 then
                      ck ((0 : Int) ≤ (w32 (x3 + 1)) ∧ (w32 (x3 + 1)) < (L : Int)) <|
                      ck ((0 : Int) ≤ (w32 (x3 + 2)) ∧ (w32 (x3 + 2)) < (L : Int)) <|
                      bd2 (fX10_piece g x1 (sx xs (w32 (x3 + 1))) (sx xs (w32 (x3 + 2))) m) fun v102 m103 =>
                      ck ((0 : Int) ≤ (w32 (x3 + 1)) ∧ (w32 (x3 + 1)) < (L : Int)) <|
                      ck ((0 : Int) ≤ (w32 (x3 + 2)) ∧ (w32 (x3 + 2)) < (L : Int)) <|
                      bd2 (fX11_piece g x2 (sx xs (w32 (x3 + 1))) (sx xs (w32 (x3 + 2))) m103) fun v108 m109 =>
                      if v102 = v108 then
                        bL_law_631 L xs x0 x1 x2 x3 g m109
                      else
                        none
                    else
                      if (bAnd (sx xs x3) 31) = 9 then
                        ck ((0 : Int) ≤ (w32 (x3 + 1)) ∧ (w32 (x3 + 1)) < (L : Int)) <|
                        ck ((0 : Int) ≤ (w32 (x3 + 2)) ∧ (w32 (x3 + 2)) < (L : Int)) <|
                        ck ((0 : Int) ≤ (w32 (x3 + 3)) ∧ (w32 (x3 + 3)) < (L : Int)) <|
                        bd3 (fX10_way x1 (sx xs (w32 (x3 + 1))) (sx xs (w32 (x3 + 2))) (sx xs (w32 (x3 + 3))) g m) fun v117 g118 m119 =>
                        bL_law_360 L xs x0 x1 x2 x3 v117 g118 m119
                      else
                        if (bAnd (sx xs x3) 31) = 10 then
                          ck ((0 : Int) ≤ (w32 (x3 + 1)) ∧ (w32 (x3 + 1)) < (L : Int)) <|
                          bd3 (fX10_best x1 (sx xs (w32 (x3 + 1))) g m) fun v127 g128 m129 =>
                          bL_law_393 L xs x0 x1 x2 x3 v127 g128 m129
                        else
                          if (bAnd (sx xs x3) 31) = 11 then
                            ck ((0 : Int) ≤ (w32 (x3 + 1)) ∧ (w32 (x3 + 1)) < (L : Int)) <|
                            ck ((0 : Int) ≤ (w32 (x3 + 2)) ∧ (w32 (x3 + 2)) < (L : Int)) <|
                            bd3 (fX10_cover x1 (sx xs (w32 (x3 + 1))) (sx xs (w32 (x3 + 2))) g m) fun v138 g139 m140 =>
                            bL_law_421 L xs x0 x1 x2 x3 v138 g139 m140
                          else
                            if (bAnd (sx xs x3) 31) = 12 then
                              ck ((0 : Int) ≤ (w32 (x3 + 1)) ∧ (w32 (x3 + 1)) < (L : Int)) <|
                              bd2 (fX10_takeUp g x1 (sx xs (w32 (x3 + 1))) m) fun v148 m149 =>
                              ck ((0 : Int) ≤ (w32 (x3 + 1)) ∧ (w32 (x3 + 1)) < (L : Int)) <|
                              bd2 (fX11_takeUp g x2 (sx xs (w32 (x3 + 1))) m149) fun v153 m154 =>
                              if v148 = v153 then
                                bL_law_631 L xs x0 x1 x2 x3 g m154
                              else
                                none
                            else
                              if (bAnd (sx xs x3) 31) = 13 then
                                ck ((0 : Int) ≤ (w32 (x3 + 1)) ∧ (w32 (x3 + 1)) < (L : Int)) <|
                                ck ((0 : Int) ≤ (w32 (x3 + 2)) ∧ (w32 (x3 + 2)) < (L : Int)) <|
                                ck ((0 : Int) ≤ (w32 (x3 + 3)) ∧ (w32 (x3 + 3)) < (L : Int)) <|
                                ck ((0 : Int) ≤ (w32 (x3 + 4)) ∧ (w32 (x3 + 4)) < (L : Int)) <|
                                bd3 (fX10_order x1 (sx xs (w32 (x3 + 1))) (sx xs (w32 (x3 + 2))) (sx xs (w32 (x3 + 3))) (sx xs (w32 (x3 + 4))) g m) fun v163 g164 m165 =>
                                bL_law_487 L xs x0 x1 x2 x3 v163 g164 m165
                              else
                                if (bAnd (sx xs x3) 31) = 14 then
                                  ck ((0 : Int) ≤ (w32 (x3 + 1)) ∧ (w32 (x3 + 1)) < (L : Int)) <|
                                  ck ((0 : Int) ≤ (w32 (x3 + 2)) ∧ (w32 (x3 + 2)) < (L : Int)) <|
                                  bd2 (fX10_bag g x1 (sx xs (w32 (x3 + 1))) (sx xs (w32 (x3 + 2))) m) fun v174 m175 =>
                                  ck ((0 : Int) ≤ (w32 (x3 + 1)) ∧ (w32 (x3 + 1)) < (L : Int)) <|
                                  ck ((0 : Int) ≤ (w32 (x3 + 2)) ∧ (w32 (x3 + 2)) < (L : Int)) <|
                                  bd2 (fX11_bag g x2 (sx xs (w32 (x3 + 1))) (sx xs (w32 (x3 + 2))) m175) fun v180 m181 =>
                                  if v174 = v180 then
                                    bL_law_631 L xs x0 x1 x2 x3 g m181
                                  else
                                    none
                                else
                                  if (bAnd (sx xs x3) 31) = 15 then
                                    ck ((0 : Int) ≤ (w32 (x3 + 1)) ∧ (w32 (x3 + 1)) < (L : Int)) <|
                                    bd2 (fX10_fill g x1 (sx xs (w32 (x3 + 1))) m) fun v187 m188 =>
                                    ck ((0 : Int) ≤ (w32 (x3 + 1)) ∧ (w32 (x3 + 1)) < (L : Int)) <|
                                    bd2 (fX11_fill g x2 (sx xs (w32 (x3 + 1))) m188) fun v192 m193 =>
                                    if v187 = v192 then
                                      bL_law_631 L xs x0 x1 x2 x3 g m193
                                    else
                                      none
                                  else
                                    if (bAnd (sx xs x3) 31) = 16 then
                                      bd2 (fX10_undo g x1 m) fun v198 m199 =>
                                      bd2 (fX11_undo g x2 m199) fun v202 m203 =>
                                      if v198 = v202 then
                                        bL_law_631 L xs x0 x1 x2 x3 g m203
                                      else
                                        none
                                    else
                                      if (bAnd (sx xs x3) 31) = 17 then
                                        ck ((0 : Int) ≤ (w32 (x3 + 1)) ∧ (w32 (x3 + 1)) < (L : Int)) <|
                                        bd2 (fX10_drawn g x1 (sx xs (w32 (x3 + 1))) m) fun v209 m210 =>
                                        ck ((0 : Int) ≤ (w32 (x3 + 1)) ∧ (w32 (x3 + 1)) < (L : Int)) <|
                                        bd2 (fX11_drawn g x2 (sx xs (w32 (x3 + 1))) m210) fun v214 m215 =>
                                        if v209 = v214 then
                                          bL_law_631 L xs x0 x1 x2 x3 g m215
                                        else
                                          none
                                      else
                                        if (bAnd (sx xs x3) 31) = 18 then
                                          ck ((0 : Int) ≤ (w32 (x3 + 1)) ∧ (w32 (x3 + 1)) < (L : Int)) <|
                                          bd2 (fX10_count g x1 (sx xs (w32 (x3 + 1))) m) fun v221 m222 =>
                                          ck ((0 : Int) ≤ (w32 (x3 + 1)) ∧ (w32 (x3 + 1)) < (L : Int)) <|
                                          bd2 (fX11_count g x2 (sx xs (w32 (x3 + 1))) m222) fun v226 m227 =>
                                          if v221 = v226 then
                                            bL_law_631 L xs x0 x1 x2 x3 g m227
                                          else
                                            none
                                        else
                                          bL_law_631 L xs x0 x1 x2 x3 g m
def BL_law_18 (L : Nat) (xs : Nat → Int32) (x0 x1 x2 : Int) (q : (Int × Shp × Mem)) : Option (Int × (Int × Shp × Mem)) := bL_law_18 L xs x0 x1 x2 q.1 q.2.1 q.2.2
def bL_law_637 (L : Nat) (xs : Nat → Int32) (g : Shp) (m : Mem) : Option (Int × Shp × Mem) :=
  some (1, g, m)
def bL_law_15 (L : Nat) (xs : Nat → Int32) (x0 x1 z0 : Int) (g : Shp) (m : Mem) : Option (Int × Shp × Mem) :=
  bdl (iter (BL_law_18 L xs x0 x1 z0) 100000 (0, g, m)) fun cv1 sv2 =>
  bL_law_637 L xs sv2.2.1 sv2.2.2
def bL_law_11 (L : Nat) (xs : Nat → Int32) (x0 x1 z0 : Int) (g : Shp) (m : Mem) : Option (Int × Shp × Mem) :=
  bd3 (fX11_init z0 g m) fun v1 g2 m3 =>
  bL_law_15 L xs x0 x1 z0 g2 m3
def bL_law_7 (L : Nat) (xs : Nat → Int32) (x0 z0 : Int) (g : Shp) (m : Mem) : Option (Int × Shp × Mem) :=
  ck (gn g < 1000000 ∧ (0 : Int) ≤ 0 ∧ 0 < (1000000 : Int)) <|
  vg (gA g 12 0 39) fun g1 =>
  vm (mA g m) fun m2 =>
  vv ((gn g : Int) + 1) fun y3 =>
  bL_law_11 L xs x0 z0 y3 g1 m2
def bL_law_3 (L : Nat) (xs : Nat → Int32) (x0 z0 : Int) (g : Shp) (m : Mem) : Option (Int × Shp × Mem) :=
  bd3 (fX10_init z0 g m) fun v1 g2 m3 =>
  bL_law_7 L xs x0 z0 g2 m3
def bL_law_0 (L : Nat) (xs : Nat → Int32) (x0 : Int) (g : Shp) (m : Mem) : Option (Int × Shp × Mem) :=
  ck (gn g < 1000000 ∧ (0 : Int) ≤ 0 ∧ 0 < (1000000 : Int)) <|
  vg (gA g 11 0 8) fun g1 =>
  vm (mA g m) fun m2 =>
  vv ((gn g : Int) + 1) fun y3 =>
  bL_law_3 L xs x0 y3 g1 m2
def fL_law (L : Nat) (xs : Nat → Int32) (g : Shp) (m : Mem) : Option (Int × Shp × Mem) := bL_law_0 L xs 0 g m
theorem xL_law_631 {L : Nat} {xs : Nat → Int32} {g : Shp} {m : Mem} {x0 x1 x2 x3 : Int} {c1 : Int} {s1 : (Int × Shp × Mem)} (hF : bL_law_631 L xs x0 x1 x2 x3 g m = some (c1, s1)) (hg : gOk g) : gX g s1.2.1 ∧ gOk s1.2.1 := by
  unfold bL_law_631 at hF
  obtain ⟨y1, ey1, hF⟩ := vv_ok hF
  cases hF
  exact ⟨gX.rf _, hg⟩
set_option maxRecDepth 20000 in
theorem wL_law_631 {p : Program} {l : Launch} {e : Env} {s : State} {mt : MethodId} {args : Array Value} {below : List Frame} {meth : Method} {c : Code} {Q : State → Prop} {G : Gl} {A : Nat → Prop} {H0 : Heap} {ad : Int → Nat} {g : Shp} {ad0 : Int → Nat} {g0 : Shp} {n0 t0 cells slots mc msl : Nat} {k v b L : Nat} {xs : Nat → Int32} (hH0 : H0 = s.heap) (hQ : SQ A k v s s.heap) (hSC : SC b L xs A s H0) {H : Heap} {locs : List Loc} {ls : Array Slot} {m : Mem} {x0 x1 x2 x3 : Int} (C : CallFix p mt c cL_law 4 s args tb RL) (S : Wd G A s H0 ad g m H locs) (hx0 : True) (hx1 : gk g x1 = 11) (hx2 : gk g x2 = 12) (hx3 : r32 x3) (hl : lv_has ls 4 [(0, .ref b), (1, .ref (ad x1)), (2, .ref (ad x2)), (3, .int (iI x3))]) (hq : aX g0 ad0 ad ∧ gX g0 g) (hn : gn g = n0 + cells ∧ gs g = t0 + slots) {c1 : Int} {s1 : (Int × Shp × Mem)} (hF : bL_law_631 L xs x0 x1 x2 x3 g m = some (c1, s1)) (he : gn s1.2.1 ≤ n0 + mc ∧ gs s1.2.1 ≤ t0 + msl) (K0 : c1 = 0 → ∀ (ad : Int → Nat) (H : Heap) (locs : List Loc) (ls : Array Slot) (cells slots : Nat), aX g0 ad0 ad ∧ gX g0 s1.2.1 → gn s1.2.1 = n0 + cells ∧ gs s1.2.1 = t0 + slots → True → gk s1.2.1 x1 = 11 → gk s1.2.1 x2 = 12 → r32 s1.1 → Wd G A s H0 ad s1.2.1 s1.2.2 H locs → lv_has ls 4 [(0, .ref b), (1, .ref (ad x1)), (2, .ref (ad x2)), (3, .int (iI s1.1))] → W p l e (rL_law mc msl) s mt args below meth c H locs cells slots Q (F0 mt 18 ls [])) (K1 : c1 = 1 → ∀ (ad : Int → Nat) (H : Heap) (locs : List Loc) (ls : Array Slot) (cells slots : Nat), aX g0 ad0 ad ∧ gX g0 s1.2.1 → gn s1.2.1 = n0 + cells ∧ gs s1.2.1 = t0 + slots → Wd G A s H0 ad s1.2.1 s1.2.2 H locs → lv_has ls 4 [] → W p l e (rL_law mc msl) s mt args below meth c H locs cells slots Q (F0 mt 637 ls [])) : W p l e (rL_law mc msl) s mt args below meth c H locs cells slots Q (F0 mt 631 ls []) := by
  have hXx := xL_law_631 hF S.g
  have hle : cells ≤ mc ∧ slots ≤ msl := by
    have h1 := hXx.1.1
    have h2 := hXx.1.2.1
    omega
  unfold bL_law_631 at hF
  obtain ⟨y1, ey1, hF⟩ := vv_ok hF
  have ry1 : r32 y1 := ey1 ▸ r32_w _
  refine q_iinc C hl 3 [(3, .int (iI y1)), (0, .ref b), (1, .ref (ad x1)), (2, .ref (ad x2))] rfl ey1 (by decide) rfl dL_law_631 (fun ls hl => ?_)
  refine q_goto C 18 dL_law_634 (by decide) ?_
  cases hF
  exact K0 rfl _ _ _ _ _ _ hq hn trivial hx1 hx2 ry1 S (lv_sub hl [1, 2, 3, 0] rfl)
theorem xL_law_360 {L : Nat} {xs : Nat → Int32} {g : Shp} {m : Mem} {x0 x1 x2 x3 z0 : Int} {c1 : Int} {s1 : (Int × Shp × Mem)} (hF : bL_law_360 L xs x0 x1 x2 x3 z0 g m = some (c1, s1)) (hg : gOk g) : gX g s1.2.1 ∧ gOk s1.2.1 := by
  unfold bL_law_360 at hF
  obtain ⟨i1, hF⟩ := ck_ok hF
  obtain ⟨i2, hF⟩ := ck_ok hF
  obtain ⟨i3, hF⟩ := ck_ok hF
  obtain ⟨v4, m5, h6, hF⟩ := bd2_ok hF
  by_cases hc8 : z0 = v4
  · have hF := if_t hc8 hF
    exact xL_law_631 hF hg
  · have hF := if_f hc8 hF
    exact absurd hF (by simp)
set_option maxRecDepth 20000 in
theorem wL_law_360 {p : Program} {l : Launch} {e : Env} {s : State} {mt : MethodId} {args : Array Value} {below : List Frame} {meth : Method} {c : Code} {Q : State → Prop} {G : Gl} {A : Nat → Prop} {H0 : Heap} {ad : Int → Nat} {g : Shp} {ad0 : Int → Nat} {g0 : Shp} {n0 t0 cells slots mc msl : Nat} {k v b L : Nat} {xs : Nat → Int32} (hH0 : H0 = s.heap) (hQ : SQ A k v s s.heap) (hSC : SC b L xs A s H0) {H : Heap} {locs : List Loc} {ls : Array Slot} {m : Mem} {x0 x1 x2 x3 z0 : Int} (C : CallFix p mt c cL_law 4 s args tb RL) (S : Wd G A s H0 ad g m H locs) (hx0 : True) (hx1 : gk g x1 = 11) (hx2 : gk g x2 = 12) (hx3 : r32 x3) (hz0 : r32 z0) (hl : lv_has ls 4 [(0, .ref b), (1, .ref (ad x1)), (2, .ref (ad x2)), (3, .int (iI x3))]) (hq : aX g0 ad0 ad ∧ gX g0 g) (hn : gn g = n0 + cells ∧ gs g = t0 + slots) {c1 : Int} {s1 : (Int × Shp × Mem)} (hF : bL_law_360 L xs x0 x1 x2 x3 z0 g m = some (c1, s1)) (he : gn s1.2.1 ≤ n0 + mc ∧ gs s1.2.1 ≤ t0 + msl) (K0 : c1 = 0 → ∀ (ad : Int → Nat) (H : Heap) (locs : List Loc) (ls : Array Slot) (cells slots : Nat), aX g0 ad0 ad ∧ gX g0 s1.2.1 → gn s1.2.1 = n0 + cells ∧ gs s1.2.1 = t0 + slots → True → gk s1.2.1 x1 = 11 → gk s1.2.1 x2 = 12 → r32 s1.1 → Wd G A s H0 ad s1.2.1 s1.2.2 H locs → lv_has ls 4 [(0, .ref b), (1, .ref (ad x1)), (2, .ref (ad x2)), (3, .int (iI s1.1))] → W p l e (rL_law mc msl) s mt args below meth c H locs cells slots Q (F0 mt 18 ls [])) (K1 : c1 = 1 → ∀ (ad : Int → Nat) (H : Heap) (locs : List Loc) (ls : Array Slot) (cells slots : Nat), aX g0 ad0 ad ∧ gX g0 s1.2.1 → gn s1.2.1 = n0 + cells ∧ gs s1.2.1 = t0 + slots → Wd G A s H0 ad s1.2.1 s1.2.2 H locs → lv_has ls 4 [] → W p l e (rL_law mc msl) s mt args below meth c H locs cells slots Q (F0 mt 637 ls [])) : W p l e (rL_law mc msl) s mt args below meth c H locs cells slots Q (F0 mt 360 ls [.int (iI z0)]) := by
  have hXx := xL_law_360 hF S.g
  have hle : cells ≤ mc ∧ slots ≤ msl := by
    have h1 := hXx.1.1
    have h2 := hXx.1.2.1
    omega
  unfold bL_law_360 at hF
  refine q_aload_n C hl 2 rfl rfl dL_law_360 ?_
  refine q_aload_n C hl 0 rfl rfl dL_law_361 ?_
  refine q_iload_n C hl 3 rfl rfl dL_law_362 ?_
  refine q_iconst C 1 dL_law_363 ?_
  refine q_iadd C dL_law_364 ?_
  obtain ⟨i1, hF⟩ := ck_ok hF
  refine q_scr C S hSC i1 dL_law_365 ?_
  refine q_aload_n C hl 0 rfl rfl dL_law_366 ?_
  refine q_iload_n C hl 3 rfl rfl dL_law_367 ?_
  refine q_iconst C 2 dL_law_368 ?_
  refine q_iadd C dL_law_369 ?_
  obtain ⟨i2, hF⟩ := ck_ok hF
  refine q_scr C S hSC i2 dL_law_370 ?_
  refine q_aload_n C hl 0 rfl rfl dL_law_371 ?_
  refine q_iload_n C hl 3 rfl rfl dL_law_372 ?_
  refine q_iconst C 3 dL_law_373 ?_
  refine q_iadd C dL_law_374 ?_
  obtain ⟨i3, hF⟩ := ck_ok hF
  refine q_scr C S hSC i3 dL_law_375 ?_
  obtain ⟨v4, m5, h6, hF⟩ := bd2_ok hF
  refine q_ci S (run_V (As := [.int (iI (sx xs (w32 (x3 + 1)))), .int (iI (sx xs (w32 (x3 + 2)))), .int (iI (sx xs (w32 (x3 + 3))))]) (rest := [.int (iI z0)]) C S (cX11_way_ok l G hx2 (r32_of _) (r32_of _) (r32_of _) h6 ad _) hx2 ⟨by decide, _, _, rfl⟩ gd_RL_56 hdV_X11_way rfl ⟨rfl, rfl, (Nat.le_of_ble_eq_true rfl), (Nat.le_of_ble_eq_true rfl)⟩ hle hl.1 rfl (Nat.le_of_ble_eq_true rfl) dL_law_376) (fun H locs Sm5 h7 => ?_)
  refine q_icmp_eq C hz0 h7.1 631 dL_law_379 (by decide) (fun hc8 => ?_) (fun hc8 => ?_)
  · have hF := if_t hc8 hF
    exact wL_law_631 hH0 hQ hSC C Sm5 trivial hx1 hx2 hx3 (lv_sub hl [0, 1, 2, 3] rfl) hq hn hF he K0 K1
  · have hF := if_f hc8 hF
    exact absurd hF (by simp)
theorem xL_law_393 {L : Nat} {xs : Nat → Int32} {g : Shp} {m : Mem} {x0 x1 x2 x3 z0 : Int} {c1 : Int} {s1 : (Int × Shp × Mem)} (hF : bL_law_393 L xs x0 x1 x2 x3 z0 g m = some (c1, s1)) (hg : gOk g) : gX g s1.2.1 ∧ gOk s1.2.1 := by
  unfold bL_law_393 at hF
  obtain ⟨i1, hF⟩ := ck_ok hF
  obtain ⟨v2, m3, h4, hF⟩ := bd2_ok hF
  by_cases hc6 : z0 = v2
  · have hF := if_t hc6 hF
    exact xL_law_631 hF hg
  · have hF := if_f hc6 hF
    exact absurd hF (by simp)
set_option maxRecDepth 20000 in
theorem wL_law_393 {p : Program} {l : Launch} {e : Env} {s : State} {mt : MethodId} {args : Array Value} {below : List Frame} {meth : Method} {c : Code} {Q : State → Prop} {G : Gl} {A : Nat → Prop} {H0 : Heap} {ad : Int → Nat} {g : Shp} {ad0 : Int → Nat} {g0 : Shp} {n0 t0 cells slots mc msl : Nat} {k v b L : Nat} {xs : Nat → Int32} (hH0 : H0 = s.heap) (hQ : SQ A k v s s.heap) (hSC : SC b L xs A s H0) {H : Heap} {locs : List Loc} {ls : Array Slot} {m : Mem} {x0 x1 x2 x3 z0 : Int} (C : CallFix p mt c cL_law 4 s args tb RL) (S : Wd G A s H0 ad g m H locs) (hx0 : True) (hx1 : gk g x1 = 11) (hx2 : gk g x2 = 12) (hx3 : r32 x3) (hz0 : r32 z0) (hl : lv_has ls 4 [(0, .ref b), (1, .ref (ad x1)), (2, .ref (ad x2)), (3, .int (iI x3))]) (hq : aX g0 ad0 ad ∧ gX g0 g) (hn : gn g = n0 + cells ∧ gs g = t0 + slots) {c1 : Int} {s1 : (Int × Shp × Mem)} (hF : bL_law_393 L xs x0 x1 x2 x3 z0 g m = some (c1, s1)) (he : gn s1.2.1 ≤ n0 + mc ∧ gs s1.2.1 ≤ t0 + msl) (K0 : c1 = 0 → ∀ (ad : Int → Nat) (H : Heap) (locs : List Loc) (ls : Array Slot) (cells slots : Nat), aX g0 ad0 ad ∧ gX g0 s1.2.1 → gn s1.2.1 = n0 + cells ∧ gs s1.2.1 = t0 + slots → True → gk s1.2.1 x1 = 11 → gk s1.2.1 x2 = 12 → r32 s1.1 → Wd G A s H0 ad s1.2.1 s1.2.2 H locs → lv_has ls 4 [(0, .ref b), (1, .ref (ad x1)), (2, .ref (ad x2)), (3, .int (iI s1.1))] → W p l e (rL_law mc msl) s mt args below meth c H locs cells slots Q (F0 mt 18 ls [])) (K1 : c1 = 1 → ∀ (ad : Int → Nat) (H : Heap) (locs : List Loc) (ls : Array Slot) (cells slots : Nat), aX g0 ad0 ad ∧ gX g0 s1.2.1 → gn s1.2.1 = n0 + cells ∧ gs s1.2.1 = t0 + slots → Wd G A s H0 ad s1.2.1 s1.2.2 H locs → lv_has ls 4 [] → W p l e (rL_law mc msl) s mt args below meth c H locs cells slots Q (F0 mt 637 ls [])) : W p l e (rL_law mc msl) s mt args below meth c H locs cells slots Q (F0 mt 393 ls [.int (iI z0)]) := by
  have hXx := xL_law_393 hF S.g
  have hle : cells ≤ mc ∧ slots ≤ msl := by
    have h1 := hXx.1.1
    have h2 := hXx.1.2.1
    omega
  unfold bL_law_393 at hF
  refine q_aload_n C hl 2 rfl rfl dL_law_393 ?_
  refine q_aload_n C hl 0 rfl rfl dL_law_394 ?_
  refine q_iload_n C hl 3 rfl rfl dL_law_395 ?_
  refine q_iconst C 1 dL_law_396 ?_
  refine q_iadd C dL_law_397 ?_
  obtain ⟨i1, hF⟩ := ck_ok hF
  refine q_scr C S hSC i1 dL_law_398 ?_
  obtain ⟨v2, m3, h4, hF⟩ := bd2_ok hF
  refine q_ci S (run_V (As := [.int (iI (sx xs (w32 (x3 + 1))))]) (rest := [.int (iI z0)]) C S (cX11_best_ok l G hx2 (r32_of _) h4 ad _) hx2 ⟨by decide, _, _, rfl⟩ gd_RL_60 hdV_X11_best rfl ⟨rfl, rfl, (Nat.le_of_ble_eq_true rfl), (Nat.le_of_ble_eq_true rfl)⟩ hle hl.1 rfl (Nat.le_of_ble_eq_true rfl) dL_law_399) (fun H locs Sm3 h5 => ?_)
  refine q_icmp_eq C hz0 h5.1 631 dL_law_402 (by decide) (fun hc6 => ?_) (fun hc6 => ?_)
  · have hF := if_t hc6 hF
    exact wL_law_631 hH0 hQ hSC C Sm3 trivial hx1 hx2 hx3 (lv_sub hl [0, 1, 2, 3] rfl) hq hn hF he K0 K1
  · have hF := if_f hc6 hF
    exact absurd hF (by simp)
theorem xL_law_421 {L : Nat} {xs : Nat → Int32} {g : Shp} {m : Mem} {x0 x1 x2 x3 z0 : Int} {c1 : Int} {s1 : (Int × Shp × Mem)} (hF : bL_law_421 L xs x0 x1 x2 x3 z0 g m = some (c1, s1)) (hg : gOk g) : gX g s1.2.1 ∧ gOk s1.2.1 := by
  unfold bL_law_421 at hF
  obtain ⟨i1, hF⟩ := ck_ok hF
  obtain ⟨i2, hF⟩ := ck_ok hF
  obtain ⟨v3, m4, h5, hF⟩ := bd2_ok hF
  by_cases hc7 : z0 = v3
  · have hF := if_t hc7 hF
    exact xL_law_631 hF hg
  · have hF := if_f hc7 hF
    exact absurd hF (by simp)
set_option maxRecDepth 20000 in
theorem wL_law_421 {p : Program} {l : Launch} {e : Env} {s : State} {mt : MethodId} {args : Array Value} {below : List Frame} {meth : Method} {c : Code} {Q : State → Prop} {G : Gl} {A : Nat → Prop} {H0 : Heap} {ad : Int → Nat} {g : Shp} {ad0 : Int → Nat} {g0 : Shp} {n0 t0 cells slots mc msl : Nat} {k v b L : Nat} {xs : Nat → Int32} (hH0 : H0 = s.heap) (hQ : SQ A k v s s.heap) (hSC : SC b L xs A s H0) {H : Heap} {locs : List Loc} {ls : Array Slot} {m : Mem} {x0 x1 x2 x3 z0 : Int} (C : CallFix p mt c cL_law 4 s args tb RL) (S : Wd G A s H0 ad g m H locs) (hx0 : True) (hx1 : gk g x1 = 11) (hx2 : gk g x2 = 12) (hx3 : r32 x3) (hz0 : r32 z0) (hl : lv_has ls 4 [(0, .ref b), (1, .ref (ad x1)), (2, .ref (ad x2)), (3, .int (iI x3))]) (hq : aX g0 ad0 ad ∧ gX g0 g) (hn : gn g = n0 + cells ∧ gs g = t0 + slots) {c1 : Int} {s1 : (Int × Shp × Mem)} (hF : bL_law_421 L xs x0 x1 x2 x3 z0 g m = some (c1, s1)) (he : gn s1.2.1 ≤ n0 + mc ∧ gs s1.2.1 ≤ t0 + msl) (K0 : c1 = 0 → ∀ (ad : Int → Nat) (H : Heap) (locs : List Loc) (ls : Array Slot) (cells slots : Nat), aX g0 ad0 ad ∧ gX g0 s1.2.1 → gn s1.2.1 = n0 + cells ∧ gs s1.2.1 = t0 + slots → True → gk s1.2.1 x1 = 11 → gk s1.2.1 x2 = 12 → r32 s1.1 → Wd G A s H0 ad s1.2.1 s1.2.2 H locs → lv_has ls 4 [(0, .ref b), (1, .ref (ad x1)), (2, .ref (ad x2)), (3, .int (iI s1.1))] → W p l e (rL_law mc msl) s mt args below meth c H locs cells slots Q (F0 mt 18 ls [])) (K1 : c1 = 1 → ∀ (ad : Int → Nat) (H : Heap) (locs : List Loc) (ls : Array Slot) (cells slots : Nat), aX g0 ad0 ad ∧ gX g0 s1.2.1 → gn s1.2.1 = n0 + cells ∧ gs s1.2.1 = t0 + slots → Wd G A s H0 ad s1.2.1 s1.2.2 H locs → lv_has ls 4 [] → W p l e (rL_law mc msl) s mt args below meth c H locs cells slots Q (F0 mt 637 ls [])) : W p l e (rL_law mc msl) s mt args below meth c H locs cells slots Q (F0 mt 421 ls [.int (iI z0)]) := by
  have hXx := xL_law_421 hF S.g
  have hle : cells ≤ mc ∧ slots ≤ msl := by
    have h1 := hXx.1.1
    have h2 := hXx.1.2.1
    omega
  unfold bL_law_421 at hF
  refine q_aload_n C hl 2 rfl rfl dL_law_421 ?_
  refine q_aload_n C hl 0 rfl rfl dL_law_422 ?_
  refine q_iload_n C hl 3 rfl rfl dL_law_423 ?_
  refine q_iconst C 1 dL_law_424 ?_
  refine q_iadd C dL_law_425 ?_
  obtain ⟨i1, hF⟩ := ck_ok hF
  refine q_scr C S hSC i1 dL_law_426 ?_
  refine q_aload_n C hl 0 rfl rfl dL_law_427 ?_
  refine q_iload_n C hl 3 rfl rfl dL_law_428 ?_
  refine q_iconst C 2 dL_law_429 ?_
  refine q_iadd C dL_law_430 ?_
  obtain ⟨i2, hF⟩ := ck_ok hF
  refine q_scr C S hSC i2 dL_law_431 ?_
  obtain ⟨v3, m4, h5, hF⟩ := bd2_ok hF
  refine q_ci S (run_V (As := [.int (iI (sx xs (w32 (x3 + 1)))), .int (iI (sx xs (w32 (x3 + 2))))]) (rest := [.int (iI z0)]) C S (cX11_cover_ok l G hx2 (r32_of _) (r32_of _) h5 ad _) hx2 ⟨by decide, _, _, rfl⟩ gd_RL_64 hdV_X11_cover rfl ⟨rfl, rfl, (Nat.le_of_ble_eq_true rfl), (Nat.le_of_ble_eq_true rfl)⟩ hle hl.1 rfl (Nat.le_of_ble_eq_true rfl) dL_law_432) (fun H locs Sm4 h6 => ?_)
  refine q_icmp_eq C hz0 h6.1 631 dL_law_435 (by decide) (fun hc7 => ?_) (fun hc7 => ?_)
  · have hF := if_t hc7 hF
    exact wL_law_631 hH0 hQ hSC C Sm4 trivial hx1 hx2 hx3 (lv_sub hl [0, 1, 2, 3] rfl) hq hn hF he K0 K1
  · have hF := if_f hc7 hF
    exact absurd hF (by simp)
theorem xL_law_487 {L : Nat} {xs : Nat → Int32} {g : Shp} {m : Mem} {x0 x1 x2 x3 z0 : Int} {c1 : Int} {s1 : (Int × Shp × Mem)} (hF : bL_law_487 L xs x0 x1 x2 x3 z0 g m = some (c1, s1)) (hg : gOk g) : gX g s1.2.1 ∧ gOk s1.2.1 := by
  unfold bL_law_487 at hF
  obtain ⟨i1, hF⟩ := ck_ok hF
  obtain ⟨i2, hF⟩ := ck_ok hF
  obtain ⟨i3, hF⟩ := ck_ok hF
  obtain ⟨i4, hF⟩ := ck_ok hF
  obtain ⟨v5, m6, h7, hF⟩ := bd2_ok hF
  by_cases hc9 : z0 = v5
  · have hF := if_t hc9 hF
    exact xL_law_631 hF hg
  · have hF := if_f hc9 hF
    exact absurd hF (by simp)
set_option maxRecDepth 20000 in
theorem wL_law_487 {p : Program} {l : Launch} {e : Env} {s : State} {mt : MethodId} {args : Array Value} {below : List Frame} {meth : Method} {c : Code} {Q : State → Prop} {G : Gl} {A : Nat → Prop} {H0 : Heap} {ad : Int → Nat} {g : Shp} {ad0 : Int → Nat} {g0 : Shp} {n0 t0 cells slots mc msl : Nat} {k v b L : Nat} {xs : Nat → Int32} (hH0 : H0 = s.heap) (hQ : SQ A k v s s.heap) (hSC : SC b L xs A s H0) {H : Heap} {locs : List Loc} {ls : Array Slot} {m : Mem} {x0 x1 x2 x3 z0 : Int} (C : CallFix p mt c cL_law 4 s args tb RL) (S : Wd G A s H0 ad g m H locs) (hx0 : True) (hx1 : gk g x1 = 11) (hx2 : gk g x2 = 12) (hx3 : r32 x3) (hz0 : r32 z0) (hl : lv_has ls 4 [(0, .ref b), (1, .ref (ad x1)), (2, .ref (ad x2)), (3, .int (iI x3))]) (hq : aX g0 ad0 ad ∧ gX g0 g) (hn : gn g = n0 + cells ∧ gs g = t0 + slots) {c1 : Int} {s1 : (Int × Shp × Mem)} (hF : bL_law_487 L xs x0 x1 x2 x3 z0 g m = some (c1, s1)) (he : gn s1.2.1 ≤ n0 + mc ∧ gs s1.2.1 ≤ t0 + msl) (K0 : c1 = 0 → ∀ (ad : Int → Nat) (H : Heap) (locs : List Loc) (ls : Array Slot) (cells slots : Nat), aX g0 ad0 ad ∧ gX g0 s1.2.1 → gn s1.2.1 = n0 + cells ∧ gs s1.2.1 = t0 + slots → True → gk s1.2.1 x1 = 11 → gk s1.2.1 x2 = 12 → r32 s1.1 → Wd G A s H0 ad s1.2.1 s1.2.2 H locs → lv_has ls 4 [(0, .ref b), (1, .ref (ad x1)), (2, .ref (ad x2)), (3, .int (iI s1.1))] → W p l e (rL_law mc msl) s mt args below meth c H locs cells slots Q (F0 mt 18 ls [])) (K1 : c1 = 1 → ∀ (ad : Int → Nat) (H : Heap) (locs : List Loc) (ls : Array Slot) (cells slots : Nat), aX g0 ad0 ad ∧ gX g0 s1.2.1 → gn s1.2.1 = n0 + cells ∧ gs s1.2.1 = t0 + slots → Wd G A s H0 ad s1.2.1 s1.2.2 H locs → lv_has ls 4 [] → W p l e (rL_law mc msl) s mt args below meth c H locs cells slots Q (F0 mt 637 ls [])) : W p l e (rL_law mc msl) s mt args below meth c H locs cells slots Q (F0 mt 487 ls [.int (iI z0)]) := by
  have hXx := xL_law_487 hF S.g
  have hle : cells ≤ mc ∧ slots ≤ msl := by
    have h1 := hXx.1.1
    have h2 := hXx.1.2.1
    omega
  unfold bL_law_487 at hF
  refine q_aload_n C hl 2 rfl rfl dL_law_487 ?_
  refine q_aload_n C hl 0 rfl rfl dL_law_488 ?_
  refine q_iload_n C hl 3 rfl rfl dL_law_489 ?_
  refine q_iconst C 1 dL_law_490 ?_
  refine q_iadd C dL_law_491 ?_
  obtain ⟨i1, hF⟩ := ck_ok hF
  refine q_scr C S hSC i1 dL_law_492 ?_
  refine q_aload_n C hl 0 rfl rfl dL_law_493 ?_
  refine q_iload_n C hl 3 rfl rfl dL_law_494 ?_
  refine q_iconst C 2 dL_law_495 ?_
  refine q_iadd C dL_law_496 ?_
  obtain ⟨i2, hF⟩ := ck_ok hF
  refine q_scr C S hSC i2 dL_law_497 ?_
  refine q_aload_n C hl 0 rfl rfl dL_law_498 ?_
  refine q_iload_n C hl 3 rfl rfl dL_law_499 ?_
  refine q_iconst C 3 dL_law_500 ?_
  refine q_iadd C dL_law_501 ?_
  obtain ⟨i3, hF⟩ := ck_ok hF
  refine q_scr C S hSC i3 dL_law_502 ?_
  refine q_aload_n C hl 0 rfl rfl dL_law_503 ?_
  refine q_iload_n C hl 3 rfl rfl dL_law_504 ?_
  refine q_iconst C 4 dL_law_505 ?_
  refine q_iadd C dL_law_506 ?_
  obtain ⟨i4, hF⟩ := ck_ok hF
  refine q_scr C S hSC i4 dL_law_507 ?_
  obtain ⟨v5, m6, h7, hF⟩ := bd2_ok hF
  refine q_ci S (run_V (As := [.int (iI (sx xs (w32 (x3 + 1)))), .int (iI (sx xs (w32 (x3 + 2)))), .int (iI (sx xs (w32 (x3 + 3)))), .int (iI (sx xs (w32 (x3 + 4))))]) (rest := [.int (iI z0)]) C S (cX11_order_ok l G hx2 (r32_of _) (r32_of _) (r32_of _) (r32_of _) h7 ad _) hx2 ⟨by decide, _, _, rfl⟩ gd_RL_73 hdV_X11_order rfl ⟨rfl, rfl, (Nat.le_of_ble_eq_true rfl), (Nat.le_of_ble_eq_true rfl)⟩ hle hl.1 rfl (Nat.le_of_ble_eq_true rfl) dL_law_508) (fun H locs Sm6 h8 => ?_)
  refine q_icmp_eq C hz0 h8.1 631 dL_law_511 (by decide) (fun hc9 => ?_) (fun hc9 => ?_)
  · have hF := if_t hc9 hF
    exact wL_law_631 hH0 hQ hSC C Sm6 trivial hx1 hx2 hx3 (lv_sub hl [0, 1, 2, 3] rfl) hq hn hF he K0 K1
  · have hF := if_f hc9 hF
    exact absurd hF (by simp)
theorem xL_law_18 {L : Nat} {xs : Nat → Int32} {g : Shp} {m : Mem} {x0 x1 x2 x3 : Int} {c1 : Int} {s1 : (Int × Shp × Mem)} (hF : bL_law_18 L xs x0 x1 x2 x3 g m = some (c1, s1)) (hg : gOk g) : gX g s1.2.1 ∧ gOk s1.2.1 := by
  unfold bL_law_18 at hF
  by_cases hc1 : (w32 (((L : Int)) - 5)) < x3
  · have hF := if_t hc1 hF
    cases hF
    exact ⟨gX.rf _, hg⟩
  · have hF := if_f hc1 hF
    obtain ⟨i2, hF⟩ := ck_ok hF
    by_cases hc3 : (bAnd (sx xs x3) 31) = 0
    · have hF := if_t hc3 hF
      obtain ⟨i4, hF⟩ := ck_ok hF
      obtain ⟨v5, m6, h7, hF⟩ := bd2_ok hF
      obtain ⟨i9, hF⟩ := ck_ok hF
      obtain ⟨v10, m11, h12, hF⟩ := bd2_ok hF
      by_cases hc14 : v5 = v10
      · have hF := if_t hc14 hF
        exact xL_law_631 hF hg
      · have hF := if_f hc14 hF
        exact absurd hF (by simp)
    · have hF := if_f hc3 hF
      by_cases hc15 : (bAnd (sx xs x3) 31) = 1
      · have hF := if_t hc15 hF
        obtain ⟨v16, m17, h18, hF⟩ := bd2_ok hF
        obtain ⟨v20, m21, h22, hF⟩ := bd2_ok hF
        by_cases hc24 : v16 = v20
        · have hF := if_t hc24 hF
          exact xL_law_631 hF hg
        · have hF := if_f hc24 hF
          exact absurd hF (by simp)
      · have hF := if_f hc15 hF
        by_cases hc25 : (bAnd (sx xs x3) 31) = 2
        · have hF := if_t hc25 hF
          obtain ⟨v26, m27, h28, hF⟩ := bd2_ok hF
          obtain ⟨v30, m31, h32, hF⟩ := bd2_ok hF
          by_cases hc34 : v26 = v30
          · have hF := if_t hc34 hF
            exact xL_law_631 hF hg
          · have hF := if_f hc34 hF
            exact absurd hF (by simp)
        · have hF := if_f hc25 hF
          by_cases hc35 : (bAnd (sx xs x3) 31) = 3
          · have hF := if_t hc35 hF
            obtain ⟨v36, m37, h38, hF⟩ := bd2_ok hF
            obtain ⟨v40, m41, h42, hF⟩ := bd2_ok hF
            by_cases hc44 : v36 = v40
            · have hF := if_t hc44 hF
              exact xL_law_631 hF hg
            · have hF := if_f hc44 hF
              exact absurd hF (by simp)
          · have hF := if_f hc35 hF
            by_cases hc45 : (bAnd (sx xs x3) 31) = 4
            · have hF := if_t hc45 hF
              obtain ⟨i46, hF⟩ := ck_ok hF
              obtain ⟨v47, m48, h49, hF⟩ := bd2_ok hF
              obtain ⟨i51, hF⟩ := ck_ok hF
              obtain ⟨v52, m53, h54, hF⟩ := bd2_ok hF
              by_cases hc56 : v47 = v52
              · have hF := if_t hc56 hF
                exact xL_law_631 hF hg
              · have hF := if_f hc56 hF
                exact absurd hF (by simp)
            · have hF := if_f hc45 hF
              by_cases hc57 : (bAnd (sx xs x3) 31) = 5
              · have hF := if_t hc57 hF
                obtain ⟨i58, hF⟩ := ck_ok hF
                obtain ⟨i59, hF⟩ := ck_ok hF
                obtain ⟨v60, m61, h62, hF⟩ := bd2_ok hF
                obtain ⟨i64, hF⟩ := ck_ok hF
                obtain ⟨i65, hF⟩ := ck_ok hF
                obtain ⟨v66, m67, h68, hF⟩ := bd2_ok hF
                by_cases hc70 : v60 = v66
                · have hF := if_t hc70 hF
                  exact xL_law_631 hF hg
                · have hF := if_f hc70 hF
                  exact absurd hF (by simp)
              · have hF := if_f hc57 hF
                by_cases hc71 : (bAnd (sx xs x3) 31) = 6
                · have hF := if_t hc71 hF
                  obtain ⟨i72, hF⟩ := ck_ok hF
                  obtain ⟨i73, hF⟩ := ck_ok hF
                  obtain ⟨v74, m75, h76, hF⟩ := bd2_ok hF
                  obtain ⟨i78, hF⟩ := ck_ok hF
                  obtain ⟨i79, hF⟩ := ck_ok hF
                  obtain ⟨v80, m81, h82, hF⟩ := bd2_ok hF
                  by_cases hc84 : v74 = v80
                  · have hF := if_t hc84 hF
                    exact xL_law_631 hF hg
                  · have hF := if_f hc84 hF
                    exact absurd hF (by simp)
                · have hF := if_f hc71 hF
                  by_cases hc85 : (bAnd (sx xs x3) 31) = 7
                  · have hF := if_t hc85 hF
                    obtain ⟨i86, hF⟩ := ck_ok hF
                    obtain ⟨i87, hF⟩ := ck_ok hF
                    obtain ⟨v88, m89, h90, hF⟩ := bd2_ok hF
                    obtain ⟨i92, hF⟩ := ck_ok hF
                    obtain ⟨i93, hF⟩ := ck_ok hF
                    obtain ⟨v94, m95, h96, hF⟩ := bd2_ok hF
                    by_cases hc98 : v88 = v94
                    · have hF := if_t hc98 hF
                      exact xL_law_631 hF hg
                    · have hF := if_f hc98 hF
                      exact absurd hF (by simp)
                  · have hF := if_f hc85 hF
                    by_cases hc99 : (bAnd (sx xs x3) 31) = 8
                    · have hF := if_t hc99 hF
                      obtain ⟨i100, hF⟩ := ck_ok hF
                      obtain ⟨i101, hF⟩ := ck_ok hF
                      obtain ⟨v102, m103, h104, hF⟩ := bd2_ok hF
                      obtain ⟨i106, hF⟩ := ck_ok hF
                      obtain ⟨i107, hF⟩ := ck_ok hF
                      obtain ⟨v108, m109, h110, hF⟩ := bd2_ok hF
                      by_cases hc112 : v102 = v108
                      · have hF := if_t hc112 hF
                        exact xL_law_631 hF hg
                      · have hF := if_f hc112 hF
                        exact absurd hF (by simp)
                    · have hF := if_f hc99 hF
                      by_cases hc113 : (bAnd (sx xs x3) 31) = 9
                      · have hF := if_t hc113 hF
                        obtain ⟨i114, hF⟩ := ck_ok hF
                        obtain ⟨i115, hF⟩ := ck_ok hF
                        obtain ⟨i116, hF⟩ := ck_ok hF
                        obtain ⟨v117, g118, m119, h120, hF⟩ := bd3_ok hF
                        have hX3 := xX10_way_f h120 hg
                        have hG2 := hX3.2
                        have hX2 := hX3.1
                        exact gX2 hX2 (xL_law_360 hF hG2)
                      · have hF := if_f hc113 hF
                        by_cases hc125 : (bAnd (sx xs x3) 31) = 10
                        · have hF := if_t hc125 hF
                          obtain ⟨i126, hF⟩ := ck_ok hF
                          obtain ⟨v127, g128, m129, h130, hF⟩ := bd3_ok hF
                          have hX3 := xX10_best_f h130 hg
                          have hG2 := hX3.2
                          have hX2 := hX3.1
                          exact gX2 hX2 (xL_law_393 hF hG2)
                        · have hF := if_f hc125 hF
                          by_cases hc135 : (bAnd (sx xs x3) 31) = 11
                          · have hF := if_t hc135 hF
                            obtain ⟨i136, hF⟩ := ck_ok hF
                            obtain ⟨i137, hF⟩ := ck_ok hF
                            obtain ⟨v138, g139, m140, h141, hF⟩ := bd3_ok hF
                            have hX3 := xX10_cover_f h141 hg
                            have hG2 := hX3.2
                            have hX2 := hX3.1
                            exact gX2 hX2 (xL_law_421 hF hG2)
                          · have hF := if_f hc135 hF
                            by_cases hc146 : (bAnd (sx xs x3) 31) = 12
                            · have hF := if_t hc146 hF
                              obtain ⟨i147, hF⟩ := ck_ok hF
                              obtain ⟨v148, m149, h150, hF⟩ := bd2_ok hF
                              obtain ⟨i152, hF⟩ := ck_ok hF
                              obtain ⟨v153, m154, h155, hF⟩ := bd2_ok hF
                              by_cases hc157 : v148 = v153
                              · have hF := if_t hc157 hF
                                exact xL_law_631 hF hg
                              · have hF := if_f hc157 hF
                                exact absurd hF (by simp)
                            · have hF := if_f hc146 hF
                              by_cases hc158 : (bAnd (sx xs x3) 31) = 13
                              · have hF := if_t hc158 hF
                                obtain ⟨i159, hF⟩ := ck_ok hF
                                obtain ⟨i160, hF⟩ := ck_ok hF
                                obtain ⟨i161, hF⟩ := ck_ok hF
                                obtain ⟨i162, hF⟩ := ck_ok hF
                                obtain ⟨v163, g164, m165, h166, hF⟩ := bd3_ok hF
                                have hX3 := xX10_order_f h166 hg
                                have hG2 := hX3.2
                                have hX2 := hX3.1
                                exact gX2 hX2 (xL_law_487 hF hG2)
                              · have hF := if_f hc158 hF
                                by_cases hc171 : (bAnd (sx xs x3) 31) = 14
                                · have hF := if_t hc171 hF
                                  obtain ⟨i172, hF⟩ := ck_ok hF
                                  obtain ⟨i173, hF⟩ := ck_ok hF
                                  obtain ⟨v174, m175, h176, hF⟩ := bd2_ok hF
                                  obtain ⟨i178, hF⟩ := ck_ok hF
                                  obtain ⟨i179, hF⟩ := ck_ok hF
                                  obtain ⟨v180, m181, h182, hF⟩ := bd2_ok hF
                                  by_cases hc184 : v174 = v180
                                  · have hF := if_t hc184 hF
                                    exact xL_law_631 hF hg
                                  · have hF := if_f hc184 hF
                                    exact absurd hF (by simp)
                                · have hF := if_f hc171 hF
                                  by_cases hc185 : (bAnd (sx xs x3) 31) = 15
                                  · have hF := if_t hc185 hF
                                    obtain ⟨i186, hF⟩ := ck_ok hF
                                    obtain ⟨v187, m188, h189, hF⟩ := bd2_ok hF
                                    obtain ⟨i191, hF⟩ := ck_ok hF
                                    obtain ⟨v192, m193, h194, hF⟩ := bd2_ok hF
                                    by_cases hc196 : v187 = v192
                                    · have hF := if_t hc196 hF
                                      exact xL_law_631 hF hg
                                    · have hF := if_f hc196 hF
                                      exact absurd hF (by simp)
                                  · have hF := if_f hc185 hF
                                    by_cases hc197 : (bAnd (sx xs x3) 31) = 16
                                    · have hF := if_t hc197 hF
                                      obtain ⟨v198, m199, h200, hF⟩ := bd2_ok hF
                                      obtain ⟨v202, m203, h204, hF⟩ := bd2_ok hF
                                      by_cases hc206 : v198 = v202
                                      · have hF := if_t hc206 hF
                                        exact xL_law_631 hF hg
                                      · have hF := if_f hc206 hF
                                        exact absurd hF (by simp)
                                    · have hF := if_f hc197 hF
                                      by_cases hc207 : (bAnd (sx xs x3) 31) = 17
                                      · have hF := if_t hc207 hF
                                        obtain ⟨i208, hF⟩ := ck_ok hF
                                        obtain ⟨v209, m210, h211, hF⟩ := bd2_ok hF
                                        obtain ⟨i213, hF⟩ := ck_ok hF
                                        obtain ⟨v214, m215, h216, hF⟩ := bd2_ok hF
                                        by_cases hc218 : v209 = v214
                                        · have hF := if_t hc218 hF
                                          exact xL_law_631 hF hg
                                        · have hF := if_f hc218 hF
                                          exact absurd hF (by simp)
                                      · have hF := if_f hc207 hF
                                        by_cases hc219 : (bAnd (sx xs x3) 31) = 18
                                        · have hF := if_t hc219 hF
                                          obtain ⟨i220, hF⟩ := ck_ok hF
                                          obtain ⟨v221, m222, h223, hF⟩ := bd2_ok hF
                                          obtain ⟨i225, hF⟩ := ck_ok hF
                                          obtain ⟨v226, m227, h228, hF⟩ := bd2_ok hF
                                          by_cases hc230 : v221 = v226
                                          · have hF := if_t hc230 hF
                                            exact xL_law_631 hF hg
                                          · have hF := if_f hc230 hF
                                            exact absurd hF (by simp)
                                        · have hF := if_f hc219 hF
                                          exact xL_law_631 hF hg
set_option maxRecDepth 20000 in
theorem wL_law_18 {p : Program} {l : Launch} {e : Env} {s : State} {mt : MethodId} {args : Array Value} {below : List Frame} {meth : Method} {c : Code} {Q : State → Prop} {G : Gl} {A : Nat → Prop} {H0 : Heap} {ad : Int → Nat} {g : Shp} {ad0 : Int → Nat} {g0 : Shp} {n0 t0 cells slots mc msl : Nat} {k v b L : Nat} {xs : Nat → Int32} (hH0 : H0 = s.heap) (hQ : SQ A k v s s.heap) (hSC : SC b L xs A s H0) {H : Heap} {locs : List Loc} {ls : Array Slot} {m : Mem} {x0 x1 x2 x3 : Int} (C : CallFix p mt c cL_law 4 s args tb RL) (S : Wd G A s H0 ad g m H locs) (hx0 : True) (hx1 : gk g x1 = 11) (hx2 : gk g x2 = 12) (hx3 : r32 x3) (hl : lv_has ls 4 [(0, .ref b), (1, .ref (ad x1)), (2, .ref (ad x2)), (3, .int (iI x3))]) (hq : aX g0 ad0 ad ∧ gX g0 g) (hn : gn g = n0 + cells ∧ gs g = t0 + slots) {c1 : Int} {s1 : (Int × Shp × Mem)} (hF : bL_law_18 L xs x0 x1 x2 x3 g m = some (c1, s1)) (he : gn s1.2.1 ≤ n0 + mc ∧ gs s1.2.1 ≤ t0 + msl) (K0 : c1 = 0 → ∀ (ad : Int → Nat) (H : Heap) (locs : List Loc) (ls : Array Slot) (cells slots : Nat), aX g0 ad0 ad ∧ gX g0 s1.2.1 → gn s1.2.1 = n0 + cells ∧ gs s1.2.1 = t0 + slots → True → gk s1.2.1 x1 = 11 → gk s1.2.1 x2 = 12 → r32 s1.1 → Wd G A s H0 ad s1.2.1 s1.2.2 H locs → lv_has ls 4 [(0, .ref b), (1, .ref (ad x1)), (2, .ref (ad x2)), (3, .int (iI s1.1))] → W p l e (rL_law mc msl) s mt args below meth c H locs cells slots Q (F0 mt 18 ls [])) (K1 : c1 = 1 → ∀ (ad : Int → Nat) (H : Heap) (locs : List Loc) (ls : Array Slot) (cells slots : Nat), aX g0 ad0 ad ∧ gX g0 s1.2.1 → gn s1.2.1 = n0 + cells ∧ gs s1.2.1 = t0 + slots → Wd G A s H0 ad s1.2.1 s1.2.2 H locs → lv_has ls 4 [] → W p l e (rL_law mc msl) s mt args below meth c H locs cells slots Q (F0 mt 637 ls [])) : W p l e (rL_law mc msl) s mt args below meth c H locs cells slots Q (F0 mt 18 ls []) := by
  have hXx := xL_law_18 hF S.g
  have hle : cells ≤ mc ∧ slots ≤ msl := by
    have h1 := hXx.1.1
    have h2 := hXx.1.2.1
    omega
  unfold bL_law_18 at hF
  refine q_iload_n C hl 3 rfl rfl dL_law_18 ?_
  refine q_aload_n C hl 0 rfl rfl dL_law_19 ?_
  refine q_scl C S hSC dL_law_20 ?_
  refine q_iconst C 5 dL_law_21 ?_
  refine q_isub C dL_law_22 ?_
  refine q_icmp_gt C hx3 (r32_w _) 637 dL_law_23 (by decide) (fun hc1 => ?_) (fun hc1 => ?_)
  · have hF := if_t hc1 hF
    cases hF
    exact K1 rfl _ _ _ _ _ _ hq hn  S (lv_sub hl [] rfl)
  · have hF := if_f hc1 hF
    refine q_aload_n C hl 0 rfl rfl dL_law_26 ?_
    refine q_iload_n C hl 3 rfl rfl dL_law_27 ?_
    obtain ⟨i2, hF⟩ := ck_ok hF
    refine q_scr C S hSC i2 dL_law_28 ?_
    refine q_bipush C 31 (by decide) dL_law_29 ?_
    refine q_iand C dL_law_31 ?_
    by_cases hc3 : (bAnd (sx xs x3) 31) = 0
    · have hF := if_t hc3 hF
      refine q_tin C (r32_of _) 0 hc3 92 124 dL_law_32 (by decide) rfl (by decide) ?_
      refine q_aload_n C hl 1 rfl rfl dL_law_124 ?_
      refine q_aload_n C hl 0 rfl rfl dL_law_125 ?_
      refine q_iload_n C hl 3 rfl rfl dL_law_126 ?_
      refine q_iconst C 1 dL_law_127 ?_
      refine q_iadd C dL_law_128 ?_
      obtain ⟨i4, hF⟩ := ck_ok hF
      refine q_scr C S hSC i4 dL_law_129 ?_
      obtain ⟨v5, m6, h7, hF⟩ := bd2_ok hF
      refine q_ci S (run_V (As := [.int (iI (sx xs (w32 (x3 + 1))))]) (rest := []) C S (cX10_write_ok l G hx1 (r32_of _) h7 ad _) hx1 ⟨by decide, _, _, rfl⟩ gd_RL_13 hdV_X10_write rfl ⟨rfl, rfl, (Nat.le_of_ble_eq_true rfl), (Nat.le_of_ble_eq_true rfl)⟩ hle hl.1 rfl (Nat.le_of_ble_eq_true rfl) dL_law_130) (fun H locs Sm6 h8 => ?_)
      refine q_aload_n C hl 2 rfl rfl dL_law_133 ?_
      refine q_aload_n C hl 0 rfl rfl dL_law_134 ?_
      refine q_iload_n C hl 3 rfl rfl dL_law_135 ?_
      refine q_iconst C 1 dL_law_136 ?_
      refine q_iadd C dL_law_137 ?_
      obtain ⟨i9, hF⟩ := ck_ok hF
      refine q_scr C Sm6 hSC i9 dL_law_138 ?_
      obtain ⟨v10, m11, h12, hF⟩ := bd2_ok hF
      refine q_ci Sm6 (run_V (As := [.int (iI (sx xs (w32 (x3 + 1))))]) (rest := [.int (iI v5)]) C Sm6 (cX11_write_ok l G hx2 (r32_of _) h12 ad _) hx2 ⟨by decide, _, _, rfl⟩ gd_RL_17 hdV_X11_write rfl ⟨rfl, rfl, (Nat.le_of_ble_eq_true rfl), (Nat.le_of_ble_eq_true rfl)⟩ hle hl.1 rfl (Nat.le_of_ble_eq_true rfl) dL_law_139) (fun H locs Sm11 h13 => ?_)
      refine q_icmp_eq C h8.1 h13.1 631 dL_law_142 (by decide) (fun hc14 => ?_) (fun hc14 => ?_)
      · have hF := if_t hc14 hF
        exact wL_law_631 hH0 hQ hSC C Sm11 trivial hx1 hx2 hx3 (lv_sub hl [0, 1, 2, 3] rfl) hq hn hF he K0 K1
      · have hF := if_f hc14 hF
        exact absurd hF (by simp)
    · have hF := if_f hc3 hF
      by_cases hc15 : (bAnd (sx xs x3) 31) = 1
      · have hF := if_t hc15 hF
        refine q_tin C (r32_of _) 1 hc15 115 147 dL_law_32 (by decide) rfl (by decide) ?_
        refine q_aload_n C hl 1 rfl rfl dL_law_147 ?_
        obtain ⟨v16, m17, h18, hF⟩ := bd2_ok hF
        refine q_ci S (run_V (As := []) (rest := []) C S (cX10_wipe_ok l G hx1 h18 ad _) hx1 ⟨by decide, _, _, rfl⟩ gd_RL_18 hdV_X10_wipe rfl ⟨rfl, rfl, (Nat.le_of_ble_eq_true rfl), (Nat.le_of_ble_eq_true rfl)⟩ hle hl.1 rfl (Nat.le_of_ble_eq_true rfl) dL_law_148) (fun H locs Sm17 h19 => ?_)
        refine q_aload_n C hl 2 rfl rfl dL_law_151 ?_
        obtain ⟨v20, m21, h22, hF⟩ := bd2_ok hF
        refine q_ci Sm17 (run_V (As := []) (rest := [.int (iI v16)]) C Sm17 (cX11_wipe_ok l G hx2 h22 ad _) hx2 ⟨by decide, _, _, rfl⟩ gd_RL_22 hdV_X11_wipe rfl ⟨rfl, rfl, (Nat.le_of_ble_eq_true rfl), (Nat.le_of_ble_eq_true rfl)⟩ hle hl.1 rfl (Nat.le_of_ble_eq_true rfl) dL_law_152) (fun H locs Sm21 h23 => ?_)
        refine q_icmp_eq C h19.1 h23.1 631 dL_law_155 (by decide) (fun hc24 => ?_) (fun hc24 => ?_)
        · have hF := if_t hc24 hF
          exact wL_law_631 hH0 hQ hSC C Sm21 trivial hx1 hx2 hx3 (lv_sub hl [0, 1, 2, 3] rfl) hq hn hF he K0 K1
        · have hF := if_f hc24 hF
          exact absurd hF (by simp)
      · have hF := if_f hc15 hF
        by_cases hc25 : (bAnd (sx xs x3) 31) = 2
        · have hF := if_t hc25 hF
          refine q_tin C (r32_of _) 2 hc25 128 160 dL_law_32 (by decide) rfl (by decide) ?_
          refine q_aload_n C hl 1 rfl rfl dL_law_160 ?_
          obtain ⟨v26, m27, h28, hF⟩ := bd2_ok hF
          refine q_ci S (run_V (As := []) (rest := []) C S (cX10_fault_ok l G hx1 h28 ad _) hx1 ⟨by decide, _, _, rfl⟩ gd_RL_23 hdV_X10_fault rfl ⟨rfl, rfl, (Nat.le_of_ble_eq_true rfl), (Nat.le_of_ble_eq_true rfl)⟩ hle hl.1 rfl (Nat.le_of_ble_eq_true rfl) dL_law_161) (fun H locs Sm27 h29 => ?_)
          refine q_aload_n C hl 2 rfl rfl dL_law_164 ?_
          obtain ⟨v30, m31, h32, hF⟩ := bd2_ok hF
          refine q_ci Sm27 (run_V (As := []) (rest := [.int (iI v26)]) C Sm27 (cX11_fault_ok l G hx2 h32 ad _) hx2 ⟨by decide, _, _, rfl⟩ gd_RL_26 hdV_X11_fault rfl ⟨rfl, rfl, (Nat.le_of_ble_eq_true rfl), (Nat.le_of_ble_eq_true rfl)⟩ hle hl.1 rfl (Nat.le_of_ble_eq_true rfl) dL_law_165) (fun H locs Sm31 h33 => ?_)
          refine q_icmp_eq C h29.1 h33.1 631 dL_law_168 (by decide) (fun hc34 => ?_) (fun hc34 => ?_)
          · have hF := if_t hc34 hF
            exact wL_law_631 hH0 hQ hSC C Sm31 trivial hx1 hx2 hx3 (lv_sub hl [0, 1, 2, 3] rfl) hq hn hF he K0 K1
          · have hF := if_f hc34 hF
            exact absurd hF (by simp)
        · have hF := if_f hc25 hF
          by_cases hc35 : (bAnd (sx xs x3) 31) = 3
          · have hF := if_t hc35 hF
            refine q_tin C (r32_of _) 3 hc35 141 173 dL_law_32 (by decide) rfl (by decide) ?_
            refine q_aload_n C hl 1 rfl rfl dL_law_173 ?_
            obtain ⟨v36, m37, h38, hF⟩ := bd2_ok hF
            refine q_ci S (run_V (As := []) (rest := []) C S (cX10_lay_ok l G hx1 h38 ad _) hx1 ⟨by decide, _, _, rfl⟩ gd_RL_27 hdV_X10_lay rfl ⟨rfl, rfl, (Nat.le_of_ble_eq_true rfl), (Nat.le_of_ble_eq_true rfl)⟩ hle hl.1 rfl (Nat.le_of_ble_eq_true rfl) dL_law_174) (fun H locs Sm37 h39 => ?_)
            refine q_aload_n C hl 2 rfl rfl dL_law_177 ?_
            obtain ⟨v40, m41, h42, hF⟩ := bd2_ok hF
            refine q_ci Sm37 (run_V (As := []) (rest := [.int (iI v36)]) C Sm37 (cX11_lay_ok l G hx2 h42 ad _) hx2 ⟨by decide, _, _, rfl⟩ gd_RL_30 hdV_X11_lay rfl ⟨rfl, rfl, (Nat.le_of_ble_eq_true rfl), (Nat.le_of_ble_eq_true rfl)⟩ hle hl.1 rfl (Nat.le_of_ble_eq_true rfl) dL_law_178) (fun H locs Sm41 h43 => ?_)
            refine q_icmp_eq C h39.1 h43.1 631 dL_law_181 (by decide) (fun hc44 => ?_) (fun hc44 => ?_)
            · have hF := if_t hc44 hF
              exact wL_law_631 hH0 hQ hSC C Sm41 trivial hx1 hx2 hx3 (lv_sub hl [0, 1, 2, 3] rfl) hq hn hF he K0 K1
            · have hF := if_f hc44 hF
              exact absurd hF (by simp)
          · have hF := if_f hc35 hF
            by_cases hc45 : (bAnd (sx xs x3) 31) = 4
            · have hF := if_t hc45 hF
              refine q_tin C (r32_of _) 4 hc45 154 186 dL_law_32 (by decide) rfl (by decide) ?_
              refine q_aload_n C hl 1 rfl rfl dL_law_186 ?_
              refine q_aload_n C hl 0 rfl rfl dL_law_187 ?_
              refine q_iload_n C hl 3 rfl rfl dL_law_188 ?_
              refine q_iconst C 1 dL_law_189 ?_
              refine q_iadd C dL_law_190 ?_
              obtain ⟨i46, hF⟩ := ck_ok hF
              refine q_scr C S hSC i46 dL_law_191 ?_
              obtain ⟨v47, m48, h49, hF⟩ := bd2_ok hF
              refine q_ci S (run_V (As := [.int (iI (sx xs (w32 (x3 + 1))))]) (rest := []) C S (cX10_joint_ok l G hx1 (r32_of _) h49 ad _) hx1 ⟨by decide, _, _, rfl⟩ gd_RL_31 hdV_X10_joint rfl ⟨rfl, rfl, (Nat.le_of_ble_eq_true rfl), (Nat.le_of_ble_eq_true rfl)⟩ hle hl.1 rfl (Nat.le_of_ble_eq_true rfl) dL_law_192) (fun H locs Sm48 h50 => ?_)
              refine q_aload_n C hl 2 rfl rfl dL_law_195 ?_
              refine q_aload_n C hl 0 rfl rfl dL_law_196 ?_
              refine q_iload_n C hl 3 rfl rfl dL_law_197 ?_
              refine q_iconst C 1 dL_law_198 ?_
              refine q_iadd C dL_law_199 ?_
              obtain ⟨i51, hF⟩ := ck_ok hF
              refine q_scr C Sm48 hSC i51 dL_law_200 ?_
              obtain ⟨v52, m53, h54, hF⟩ := bd2_ok hF
              refine q_ci Sm48 (run_V (As := [.int (iI (sx xs (w32 (x3 + 1))))]) (rest := [.int (iI v47)]) C Sm48 (cX11_joint_ok l G hx2 (r32_of _) h54 ad _) hx2 ⟨by decide, _, _, rfl⟩ gd_RL_34 hdV_X11_joint rfl ⟨rfl, rfl, (Nat.le_of_ble_eq_true rfl), (Nat.le_of_ble_eq_true rfl)⟩ hle hl.1 rfl (Nat.le_of_ble_eq_true rfl) dL_law_201) (fun H locs Sm53 h55 => ?_)
              refine q_icmp_eq C h50.1 h55.1 631 dL_law_204 (by decide) (fun hc56 => ?_) (fun hc56 => ?_)
              · have hF := if_t hc56 hF
                exact wL_law_631 hH0 hQ hSC C Sm53 trivial hx1 hx2 hx3 (lv_sub hl [0, 1, 2, 3] rfl) hq hn hF he K0 K1
              · have hF := if_f hc56 hF
                exact absurd hF (by simp)
            · have hF := if_f hc45 hF
              by_cases hc57 : (bAnd (sx xs x3) 31) = 5
              · have hF := if_t hc57 hF
                refine q_tin C (r32_of _) 5 hc57 177 209 dL_law_32 (by decide) rfl (by decide) ?_
                refine q_aload_n C hl 1 rfl rfl dL_law_209 ?_
                refine q_aload_n C hl 0 rfl rfl dL_law_210 ?_
                refine q_iload_n C hl 3 rfl rfl dL_law_211 ?_
                refine q_iconst C 1 dL_law_212 ?_
                refine q_iadd C dL_law_213 ?_
                obtain ⟨i58, hF⟩ := ck_ok hF
                refine q_scr C S hSC i58 dL_law_214 ?_
                refine q_aload_n C hl 0 rfl rfl dL_law_215 ?_
                refine q_iload_n C hl 3 rfl rfl dL_law_216 ?_
                refine q_iconst C 2 dL_law_217 ?_
                refine q_iadd C dL_law_218 ?_
                obtain ⟨i59, hF⟩ := ck_ok hF
                refine q_scr C S hSC i59 dL_law_219 ?_
                obtain ⟨v60, m61, h62, hF⟩ := bd2_ok hF
                refine q_ci S (run_V (As := [.int (iI (sx xs (w32 (x3 + 1)))), .int (iI (sx xs (w32 (x3 + 2))))]) (rest := []) C S (cX10_line_ok l G hx1 (r32_of _) (r32_of _) h62 ad _) hx1 ⟨by decide, _, _, rfl⟩ gd_RL_35 hdV_X10_line rfl ⟨rfl, rfl, (Nat.le_of_ble_eq_true rfl), (Nat.le_of_ble_eq_true rfl)⟩ hle hl.1 rfl (Nat.le_of_ble_eq_true rfl) dL_law_220) (fun H locs Sm61 h63 => ?_)
                refine q_aload_n C hl 2 rfl rfl dL_law_223 ?_
                refine q_aload_n C hl 0 rfl rfl dL_law_224 ?_
                refine q_iload_n C hl 3 rfl rfl dL_law_225 ?_
                refine q_iconst C 1 dL_law_226 ?_
                refine q_iadd C dL_law_227 ?_
                obtain ⟨i64, hF⟩ := ck_ok hF
                refine q_scr C Sm61 hSC i64 dL_law_228 ?_
                refine q_aload_n C hl 0 rfl rfl dL_law_229 ?_
                refine q_iload_n C hl 3 rfl rfl dL_law_230 ?_
                refine q_iconst C 2 dL_law_231 ?_
                refine q_iadd C dL_law_232 ?_
                obtain ⟨i65, hF⟩ := ck_ok hF
                refine q_scr C Sm61 hSC i65 dL_law_233 ?_
                obtain ⟨v66, m67, h68, hF⟩ := bd2_ok hF
                refine q_ci Sm61 (run_V (As := [.int (iI (sx xs (w32 (x3 + 1)))), .int (iI (sx xs (w32 (x3 + 2))))]) (rest := [.int (iI v60)]) C Sm61 (cX11_line_ok l G hx2 (r32_of _) (r32_of _) h68 ad _) hx2 ⟨by decide, _, _, rfl⟩ gd_RL_39 hdV_X11_line rfl ⟨rfl, rfl, (Nat.le_of_ble_eq_true rfl), (Nat.le_of_ble_eq_true rfl)⟩ hle hl.1 rfl (Nat.le_of_ble_eq_true rfl) dL_law_234) (fun H locs Sm67 h69 => ?_)
                refine q_icmp_eq C h63.1 h69.1 631 dL_law_237 (by decide) (fun hc70 => ?_) (fun hc70 => ?_)
                · have hF := if_t hc70 hF
                  exact wL_law_631 hH0 hQ hSC C Sm67 trivial hx1 hx2 hx3 (lv_sub hl [0, 1, 2, 3] rfl) hq hn hF he K0 K1
                · have hF := if_f hc70 hF
                  exact absurd hF (by simp)
              · have hF := if_f hc57 hF
                by_cases hc71 : (bAnd (sx xs x3) 31) = 6
                · have hF := if_t hc71 hF
                  refine q_tin C (r32_of _) 6 hc71 210 242 dL_law_32 (by decide) rfl (by decide) ?_
                  refine q_aload_n C hl 1 rfl rfl dL_law_242 ?_
                  refine q_aload_n C hl 0 rfl rfl dL_law_243 ?_
                  refine q_iload_n C hl 3 rfl rfl dL_law_244 ?_
                  refine q_iconst C 1 dL_law_245 ?_
                  refine q_iadd C dL_law_246 ?_
                  obtain ⟨i72, hF⟩ := ck_ok hF
                  refine q_scr C S hSC i72 dL_law_247 ?_
                  refine q_aload_n C hl 0 rfl rfl dL_law_248 ?_
                  refine q_iload_n C hl 3 rfl rfl dL_law_249 ?_
                  refine q_iconst C 2 dL_law_250 ?_
                  refine q_iadd C dL_law_251 ?_
                  obtain ⟨i73, hF⟩ := ck_ok hF
                  refine q_scr C S hSC i73 dL_law_252 ?_
                  obtain ⟨v74, m75, h76, hF⟩ := bd2_ok hF
                  refine q_ci S (run_V (As := [.int (iI (sx xs (w32 (x3 + 1)))), .int (iI (sx xs (w32 (x3 + 2))))]) (rest := []) C S (cX10_cell_ok l G hx1 (r32_of _) (r32_of _) h76 ad _) hx1 ⟨by decide, _, _, rfl⟩ gd_RL_40 hdV_X10_cell rfl ⟨rfl, rfl, (Nat.le_of_ble_eq_true rfl), (Nat.le_of_ble_eq_true rfl)⟩ hle hl.1 rfl (Nat.le_of_ble_eq_true rfl) dL_law_253) (fun H locs Sm75 h77 => ?_)
                  refine q_aload_n C hl 2 rfl rfl dL_law_256 ?_
                  refine q_aload_n C hl 0 rfl rfl dL_law_257 ?_
                  refine q_iload_n C hl 3 rfl rfl dL_law_258 ?_
                  refine q_iconst C 1 dL_law_259 ?_
                  refine q_iadd C dL_law_260 ?_
                  obtain ⟨i78, hF⟩ := ck_ok hF
                  refine q_scr C Sm75 hSC i78 dL_law_261 ?_
                  refine q_aload_n C hl 0 rfl rfl dL_law_262 ?_
                  refine q_iload_n C hl 3 rfl rfl dL_law_263 ?_
                  refine q_iconst C 2 dL_law_264 ?_
                  refine q_iadd C dL_law_265 ?_
                  obtain ⟨i79, hF⟩ := ck_ok hF
                  refine q_scr C Sm75 hSC i79 dL_law_266 ?_
                  obtain ⟨v80, m81, h82, hF⟩ := bd2_ok hF
                  refine q_ci Sm75 (run_V (As := [.int (iI (sx xs (w32 (x3 + 1)))), .int (iI (sx xs (w32 (x3 + 2))))]) (rest := [.int (iI v74)]) C Sm75 (cX11_cell_ok l G hx2 (r32_of _) (r32_of _) h82 ad _) hx2 ⟨by decide, _, _, rfl⟩ gd_RL_43 hdV_X11_cell rfl ⟨rfl, rfl, (Nat.le_of_ble_eq_true rfl), (Nat.le_of_ble_eq_true rfl)⟩ hle hl.1 rfl (Nat.le_of_ble_eq_true rfl) dL_law_267) (fun H locs Sm81 h83 => ?_)
                  refine q_icmp_eq C h77.1 h83.1 631 dL_law_270 (by decide) (fun hc84 => ?_) (fun hc84 => ?_)
                  · have hF := if_t hc84 hF
                    exact wL_law_631 hH0 hQ hSC C Sm81 trivial hx1 hx2 hx3 (lv_sub hl [0, 1, 2, 3] rfl) hq hn hF he K0 K1
                  · have hF := if_f hc84 hF
                    exact absurd hF (by simp)
                · have hF := if_f hc71 hF
                  by_cases hc85 : (bAnd (sx xs x3) 31) = 7
                  · have hF := if_t hc85 hF
                    refine q_tin C (r32_of _) 7 hc85 243 275 dL_law_32 (by decide) rfl (by decide) ?_
                    refine q_aload_n C hl 1 rfl rfl dL_law_275 ?_
                    refine q_aload_n C hl 0 rfl rfl dL_law_276 ?_
                    refine q_iload_n C hl 3 rfl rfl dL_law_277 ?_
                    refine q_iconst C 1 dL_law_278 ?_
                    refine q_iadd C dL_law_279 ?_
                    obtain ⟨i86, hF⟩ := ck_ok hF
                    refine q_scr C S hSC i86 dL_law_280 ?_
                    refine q_aload_n C hl 0 rfl rfl dL_law_281 ?_
                    refine q_iload_n C hl 3 rfl rfl dL_law_282 ?_
                    refine q_iconst C 2 dL_law_283 ?_
                    refine q_iadd C dL_law_284 ?_
                    obtain ⟨i87, hF⟩ := ck_ok hF
                    refine q_scr C S hSC i87 dL_law_285 ?_
                    obtain ⟨v88, m89, h90, hF⟩ := bd2_ok hF
                    refine q_ci S (run_V (As := [.int (iI (sx xs (w32 (x3 + 1)))), .int (iI (sx xs (w32 (x3 + 2))))]) (rest := []) C S (cX10_whose_ok l G hx1 (r32_of _) (r32_of _) h90 ad _) hx1 ⟨by decide, _, _, rfl⟩ gd_RL_44 hdV_X10_whose rfl ⟨rfl, rfl, (Nat.le_of_ble_eq_true rfl), (Nat.le_of_ble_eq_true rfl)⟩ hle hl.1 rfl (Nat.le_of_ble_eq_true rfl) dL_law_286) (fun H locs Sm89 h91 => ?_)
                    refine q_aload_n C hl 2 rfl rfl dL_law_289 ?_
                    refine q_aload_n C hl 0 rfl rfl dL_law_290 ?_
                    refine q_iload_n C hl 3 rfl rfl dL_law_291 ?_
                    refine q_iconst C 1 dL_law_292 ?_
                    refine q_iadd C dL_law_293 ?_
                    obtain ⟨i92, hF⟩ := ck_ok hF
                    refine q_scr C Sm89 hSC i92 dL_law_294 ?_
                    refine q_aload_n C hl 0 rfl rfl dL_law_295 ?_
                    refine q_iload_n C hl 3 rfl rfl dL_law_296 ?_
                    refine q_iconst C 2 dL_law_297 ?_
                    refine q_iadd C dL_law_298 ?_
                    obtain ⟨i93, hF⟩ := ck_ok hF
                    refine q_scr C Sm89 hSC i93 dL_law_299 ?_
                    obtain ⟨v94, m95, h96, hF⟩ := bd2_ok hF
                    refine q_ci Sm89 (run_V (As := [.int (iI (sx xs (w32 (x3 + 1)))), .int (iI (sx xs (w32 (x3 + 2))))]) (rest := [.int (iI v88)]) C Sm89 (cX11_whose_ok l G hx2 (r32_of _) (r32_of _) h96 ad _) hx2 ⟨by decide, _, _, rfl⟩ gd_RL_47 hdV_X11_whose rfl ⟨rfl, rfl, (Nat.le_of_ble_eq_true rfl), (Nat.le_of_ble_eq_true rfl)⟩ hle hl.1 rfl (Nat.le_of_ble_eq_true rfl) dL_law_300) (fun H locs Sm95 h97 => ?_)
                    refine q_icmp_eq C h91.1 h97.1 631 dL_law_303 (by decide) (fun hc98 => ?_) (fun hc98 => ?_)
                    · have hF := if_t hc98 hF
                      exact wL_law_631 hH0 hQ hSC C Sm95 trivial hx1 hx2 hx3 (lv_sub hl [0, 1, 2, 3] rfl) hq hn hF he K0 K1
                    · have hF := if_f hc98 hF
                      exact absurd hF (by simp)
                  · have hF := if_f hc85 hF
                    by_cases hc99 : (bAnd (sx xs x3) 31) = 8
                    · have hF := if_t hc99 hF
                      refine q_tin C (r32_of _) 8 hc99 276 308 dL_law_32 (by decide) rfl (by decide) ?_
                      refine q_aload_n C hl 1 rfl rfl dL_law_308 ?_
                      refine q_aload_n C hl 0 rfl rfl dL_law_309 ?_
                      refine q_iload_n C hl 3 rfl rfl dL_law_310 ?_
                      refine q_iconst C 1 dL_law_311 ?_
                      refine q_iadd C dL_law_312 ?_
                      obtain ⟨i100, hF⟩ := ck_ok hF
                      refine q_scr C S hSC i100 dL_law_313 ?_
                      refine q_aload_n C hl 0 rfl rfl dL_law_314 ?_
                      refine q_iload_n C hl 3 rfl rfl dL_law_315 ?_
                      refine q_iconst C 2 dL_law_316 ?_
                      refine q_iadd C dL_law_317 ?_
                      obtain ⟨i101, hF⟩ := ck_ok hF
                      refine q_scr C S hSC i101 dL_law_318 ?_
                      obtain ⟨v102, m103, h104, hF⟩ := bd2_ok hF
                      refine q_ci S (run_V (As := [.int (iI (sx xs (w32 (x3 + 1)))), .int (iI (sx xs (w32 (x3 + 2))))]) (rest := []) C S (cX10_piece_ok l G hx1 (r32_of _) (r32_of _) h104 ad _) hx1 ⟨by decide, _, _, rfl⟩ gd_RL_48 hdV_X10_piece rfl ⟨rfl, rfl, (Nat.le_of_ble_eq_true rfl), (Nat.le_of_ble_eq_true rfl)⟩ hle hl.1 rfl (Nat.le_of_ble_eq_true rfl) dL_law_319) (fun H locs Sm103 h105 => ?_)
                      refine q_aload_n C hl 2 rfl rfl dL_law_322 ?_
                      refine q_aload_n C hl 0 rfl rfl dL_law_323 ?_
                      refine q_iload_n C hl 3 rfl rfl dL_law_324 ?_
                      refine q_iconst C 1 dL_law_325 ?_
                      refine q_iadd C dL_law_326 ?_
                      obtain ⟨i106, hF⟩ := ck_ok hF
                      refine q_scr C Sm103 hSC i106 dL_law_327 ?_
                      refine q_aload_n C hl 0 rfl rfl dL_law_328 ?_
                      refine q_iload_n C hl 3 rfl rfl dL_law_329 ?_
                      refine q_iconst C 2 dL_law_330 ?_
                      refine q_iadd C dL_law_331 ?_
                      obtain ⟨i107, hF⟩ := ck_ok hF
                      refine q_scr C Sm103 hSC i107 dL_law_332 ?_
                      obtain ⟨v108, m109, h110, hF⟩ := bd2_ok hF
                      refine q_ci Sm103 (run_V (As := [.int (iI (sx xs (w32 (x3 + 1)))), .int (iI (sx xs (w32 (x3 + 2))))]) (rest := [.int (iI v102)]) C Sm103 (cX11_piece_ok l G hx2 (r32_of _) (r32_of _) h110 ad _) hx2 ⟨by decide, _, _, rfl⟩ gd_RL_51 hdV_X11_piece rfl ⟨rfl, rfl, (Nat.le_of_ble_eq_true rfl), (Nat.le_of_ble_eq_true rfl)⟩ hle hl.1 rfl (Nat.le_of_ble_eq_true rfl) dL_law_333) (fun H locs Sm109 h111 => ?_)
                      refine q_icmp_eq C h105.1 h111.1 631 dL_law_336 (by decide) (fun hc112 => ?_) (fun hc112 => ?_)
                      · have hF := if_t hc112 hF
                        exact wL_law_631 hH0 hQ hSC C Sm109 trivial hx1 hx2 hx3 (lv_sub hl [0, 1, 2, 3] rfl) hq hn hF he K0 K1
                      · have hF := if_f hc112 hF
                        exact absurd hF (by simp)
                    · have hF := if_f hc99 hF
                      by_cases hc113 : (bAnd (sx xs x3) 31) = 9
                      · have hF := if_t hc113 hF
                        refine q_tin C (r32_of _) 9 hc113 309 341 dL_law_32 (by decide) rfl (by decide) ?_
                        refine q_aload_n C hl 1 rfl rfl dL_law_341 ?_
                        refine q_aload_n C hl 0 rfl rfl dL_law_342 ?_
                        refine q_iload_n C hl 3 rfl rfl dL_law_343 ?_
                        refine q_iconst C 1 dL_law_344 ?_
                        refine q_iadd C dL_law_345 ?_
                        obtain ⟨i114, hF⟩ := ck_ok hF
                        refine q_scr C S hSC i114 dL_law_346 ?_
                        refine q_aload_n C hl 0 rfl rfl dL_law_347 ?_
                        refine q_iload_n C hl 3 rfl rfl dL_law_348 ?_
                        refine q_iconst C 2 dL_law_349 ?_
                        refine q_iadd C dL_law_350 ?_
                        obtain ⟨i115, hF⟩ := ck_ok hF
                        refine q_scr C S hSC i115 dL_law_351 ?_
                        refine q_aload_n C hl 0 rfl rfl dL_law_352 ?_
                        refine q_iload_n C hl 3 rfl rfl dL_law_353 ?_
                        refine q_iconst C 3 dL_law_354 ?_
                        refine q_iadd C dL_law_355 ?_
                        obtain ⟨i116, hF⟩ := ck_ok hF
                        refine q_scr C S hSC i116 dL_law_356 ?_
                        obtain ⟨v117, g118, m119, h120, hF⟩ := bd3_ok hF
                        have hX3 := xX10_way_f h120 S.g
                        have hG2 := hX3.2
                        have hX2 := hX3.1
                        have hXr := (xL_law_360 hF hG2).1
                        refine q_ciA S (run_V (As := [.int (iI (sx xs (w32 (x3 + 1)))), .int (iI (sx xs (w32 (x3 + 2)))), .int (iI (sx xs (w32 (x3 + 3))))]) (rest := []) C S (cX10_way_ok l G hx1 (r32_of _) (r32_of _) (r32_of _) h120 ad _) hx1 ⟨by decide, _, _, rfl⟩ gd_RL_52 hdV_X10_way rfl ⟨rfl, rfl, (Nat.le_of_ble_eq_true rfl), (Nat.le_of_ble_eq_true rfl)⟩ (by have h1 := hXr.1; have h2 := hXr.2.1; have h3 := hX2.1; have h4 := hX2.2.1; exact ⟨by show _ ≤ mc; omega, by show _ ≤ msl; omega⟩) hl.1 rfl (Nat.le_of_ble_eq_true rfl) dL_law_357) (fun ad121 H locs hax Sm119 h122 => ?_)
                        have hq : aX g0 ad0 ad121 ∧ gX g0 g118 := ⟨hq.1.tr hq.2 hax, hq.2.tr hX2⟩
                        have hn : gn g118 = n0 + (cells + (gn g118 - gn g)) ∧ gs g118 = t0 + (slots + (gs g118 - gs g)) := by have h3 := hX2.1; have h4 := hX2.2.1; omega
                        have k123 := hX2.k hx1 (by decide)
                        have ak123 : ad121 x1 = ad x1 := hax _ (kz hx1 (by decide))
                        have k124 := hX2.k hx2 (by decide)
                        have ak124 : ad121 x2 = ad x2 := hax _ (kz hx2 (by decide))
                        rw [← ak123] at hl
                        rw [← ak124] at hl
                        exact wL_law_360 hH0 hQ hSC C Sm119 trivial k123 k124 hx3 h122.1 (lv_sub hl [0, 1, 2, 3] rfl) hq hn hF he K0 K1
                      · have hF := if_f hc113 hF
                        by_cases hc125 : (bAnd (sx xs x3) 31) = 10
                        · have hF := if_t hc125 hF
                          refine q_tin C (r32_of _) 10 hc125 352 384 dL_law_32 (by decide) rfl (by decide) ?_
                          refine q_aload_n C hl 1 rfl rfl dL_law_384 ?_
                          refine q_aload_n C hl 0 rfl rfl dL_law_385 ?_
                          refine q_iload_n C hl 3 rfl rfl dL_law_386 ?_
                          refine q_iconst C 1 dL_law_387 ?_
                          refine q_iadd C dL_law_388 ?_
                          obtain ⟨i126, hF⟩ := ck_ok hF
                          refine q_scr C S hSC i126 dL_law_389 ?_
                          obtain ⟨v127, g128, m129, h130, hF⟩ := bd3_ok hF
                          have hX3 := xX10_best_f h130 S.g
                          have hG2 := hX3.2
                          have hX2 := hX3.1
                          have hXr := (xL_law_393 hF hG2).1
                          refine q_ciA S (run_V (As := [.int (iI (sx xs (w32 (x3 + 1))))]) (rest := []) C S (cX10_best_ok l G hx1 (r32_of _) h130 ad _) hx1 ⟨by decide, _, _, rfl⟩ gd_RL_57 hdV_X10_best rfl ⟨rfl, rfl, (Nat.le_of_ble_eq_true rfl), (Nat.le_of_ble_eq_true rfl)⟩ (by have h1 := hXr.1; have h2 := hXr.2.1; have h3 := hX2.1; have h4 := hX2.2.1; exact ⟨by show _ ≤ mc; omega, by show _ ≤ msl; omega⟩) hl.1 rfl (Nat.le_of_ble_eq_true rfl) dL_law_390) (fun ad131 H locs hax Sm129 h132 => ?_)
                          have hq : aX g0 ad0 ad131 ∧ gX g0 g128 := ⟨hq.1.tr hq.2 hax, hq.2.tr hX2⟩
                          have hn : gn g128 = n0 + (cells + (gn g128 - gn g)) ∧ gs g128 = t0 + (slots + (gs g128 - gs g)) := by have h3 := hX2.1; have h4 := hX2.2.1; omega
                          have k133 := hX2.k hx1 (by decide)
                          have ak133 : ad131 x1 = ad x1 := hax _ (kz hx1 (by decide))
                          have k134 := hX2.k hx2 (by decide)
                          have ak134 : ad131 x2 = ad x2 := hax _ (kz hx2 (by decide))
                          rw [← ak133] at hl
                          rw [← ak134] at hl
                          exact wL_law_393 hH0 hQ hSC C Sm129 trivial k133 k134 hx3 h132.1 (lv_sub hl [0, 1, 2, 3] rfl) hq hn hF he K0 K1
                        · have hF := if_f hc125 hF
                          by_cases hc135 : (bAnd (sx xs x3) 31) = 11
                          · have hF := if_t hc135 hF
                            refine q_tin C (r32_of _) 11 hc135 375 407 dL_law_32 (by decide) rfl (by decide) ?_
                            refine q_aload_n C hl 1 rfl rfl dL_law_407 ?_
                            refine q_aload_n C hl 0 rfl rfl dL_law_408 ?_
                            refine q_iload_n C hl 3 rfl rfl dL_law_409 ?_
                            refine q_iconst C 1 dL_law_410 ?_
                            refine q_iadd C dL_law_411 ?_
                            obtain ⟨i136, hF⟩ := ck_ok hF
                            refine q_scr C S hSC i136 dL_law_412 ?_
                            refine q_aload_n C hl 0 rfl rfl dL_law_413 ?_
                            refine q_iload_n C hl 3 rfl rfl dL_law_414 ?_
                            refine q_iconst C 2 dL_law_415 ?_
                            refine q_iadd C dL_law_416 ?_
                            obtain ⟨i137, hF⟩ := ck_ok hF
                            refine q_scr C S hSC i137 dL_law_417 ?_
                            obtain ⟨v138, g139, m140, h141, hF⟩ := bd3_ok hF
                            have hX3 := xX10_cover_f h141 S.g
                            have hG2 := hX3.2
                            have hX2 := hX3.1
                            have hXr := (xL_law_421 hF hG2).1
                            refine q_ciA S (run_V (As := [.int (iI (sx xs (w32 (x3 + 1)))), .int (iI (sx xs (w32 (x3 + 2))))]) (rest := []) C S (cX10_cover_ok l G hx1 (r32_of _) (r32_of _) h141 ad _) hx1 ⟨by decide, _, _, rfl⟩ gd_RL_61 hdV_X10_cover rfl ⟨rfl, rfl, (Nat.le_of_ble_eq_true rfl), (Nat.le_of_ble_eq_true rfl)⟩ (by have h1 := hXr.1; have h2 := hXr.2.1; have h3 := hX2.1; have h4 := hX2.2.1; exact ⟨by show _ ≤ mc; omega, by show _ ≤ msl; omega⟩) hl.1 rfl (Nat.le_of_ble_eq_true rfl) dL_law_418) (fun ad142 H locs hax Sm140 h143 => ?_)
                            have hq : aX g0 ad0 ad142 ∧ gX g0 g139 := ⟨hq.1.tr hq.2 hax, hq.2.tr hX2⟩
                            have hn : gn g139 = n0 + (cells + (gn g139 - gn g)) ∧ gs g139 = t0 + (slots + (gs g139 - gs g)) := by have h3 := hX2.1; have h4 := hX2.2.1; omega
                            have k144 := hX2.k hx1 (by decide)
                            have ak144 : ad142 x1 = ad x1 := hax _ (kz hx1 (by decide))
                            have k145 := hX2.k hx2 (by decide)
                            have ak145 : ad142 x2 = ad x2 := hax _ (kz hx2 (by decide))
                            rw [← ak144] at hl
                            rw [← ak145] at hl
                            exact wL_law_421 hH0 hQ hSC C Sm140 trivial k144 k145 hx3 h143.1 (lv_sub hl [0, 1, 2, 3] rfl) hq hn hF he K0 K1
                          · have hF := if_f hc135 hF
                            by_cases hc146 : (bAnd (sx xs x3) 31) = 12
                            · have hF := if_t hc146 hF
                              refine q_tin C (r32_of _) 12 hc146 408 440 dL_law_32 (by decide) rfl (by decide) ?_
                              refine q_aload_n C hl 1 rfl rfl dL_law_440 ?_
                              refine q_aload_n C hl 0 rfl rfl dL_law_441 ?_
                              refine q_iload_n C hl 3 rfl rfl dL_law_442 ?_
                              refine q_iconst C 1 dL_law_443 ?_
                              refine q_iadd C dL_law_444 ?_
                              obtain ⟨i147, hF⟩ := ck_ok hF
                              refine q_scr C S hSC i147 dL_law_445 ?_
                              obtain ⟨v148, m149, h150, hF⟩ := bd2_ok hF
                              refine q_ci S (run_V (As := [.int (iI (sx xs (w32 (x3 + 1))))]) (rest := []) C S (cX10_takeUp_ok l G hx1 (r32_of _) h150 ad _) hx1 ⟨by decide, _, _, rfl⟩ gd_RL_65 hdV_X10_takeUp rfl ⟨rfl, rfl, (Nat.le_of_ble_eq_true rfl), (Nat.le_of_ble_eq_true rfl)⟩ hle hl.1 rfl (Nat.le_of_ble_eq_true rfl) dL_law_446) (fun H locs Sm149 h151 => ?_)
                              refine q_aload_n C hl 2 rfl rfl dL_law_449 ?_
                              refine q_aload_n C hl 0 rfl rfl dL_law_450 ?_
                              refine q_iload_n C hl 3 rfl rfl dL_law_451 ?_
                              refine q_iconst C 1 dL_law_452 ?_
                              refine q_iadd C dL_law_453 ?_
                              obtain ⟨i152, hF⟩ := ck_ok hF
                              refine q_scr C Sm149 hSC i152 dL_law_454 ?_
                              obtain ⟨v153, m154, h155, hF⟩ := bd2_ok hF
                              refine q_ci Sm149 (run_V (As := [.int (iI (sx xs (w32 (x3 + 1))))]) (rest := [.int (iI v148)]) C Sm149 (cX11_takeUp_ok l G hx2 (r32_of _) h155 ad _) hx2 ⟨by decide, _, _, rfl⟩ gd_RL_68 hdV_X11_takeUp rfl ⟨rfl, rfl, (Nat.le_of_ble_eq_true rfl), (Nat.le_of_ble_eq_true rfl)⟩ hle hl.1 rfl (Nat.le_of_ble_eq_true rfl) dL_law_455) (fun H locs Sm154 h156 => ?_)
                              refine q_icmp_eq C h151.1 h156.1 631 dL_law_458 (by decide) (fun hc157 => ?_) (fun hc157 => ?_)
                              · have hF := if_t hc157 hF
                                exact wL_law_631 hH0 hQ hSC C Sm154 trivial hx1 hx2 hx3 (lv_sub hl [0, 1, 2, 3] rfl) hq hn hF he K0 K1
                              · have hF := if_f hc157 hF
                                exact absurd hF (by simp)
                            · have hF := if_f hc146 hF
                              by_cases hc158 : (bAnd (sx xs x3) 31) = 13
                              · have hF := if_t hc158 hF
                                refine q_tin C (r32_of _) 13 hc158 431 463 dL_law_32 (by decide) rfl (by decide) ?_
                                refine q_aload_n C hl 1 rfl rfl dL_law_463 ?_
                                refine q_aload_n C hl 0 rfl rfl dL_law_464 ?_
                                refine q_iload_n C hl 3 rfl rfl dL_law_465 ?_
                                refine q_iconst C 1 dL_law_466 ?_
                                refine q_iadd C dL_law_467 ?_
                                obtain ⟨i159, hF⟩ := ck_ok hF
                                refine q_scr C S hSC i159 dL_law_468 ?_
                                refine q_aload_n C hl 0 rfl rfl dL_law_469 ?_
                                refine q_iload_n C hl 3 rfl rfl dL_law_470 ?_
                                refine q_iconst C 2 dL_law_471 ?_
                                refine q_iadd C dL_law_472 ?_
                                obtain ⟨i160, hF⟩ := ck_ok hF
                                refine q_scr C S hSC i160 dL_law_473 ?_
                                refine q_aload_n C hl 0 rfl rfl dL_law_474 ?_
                                refine q_iload_n C hl 3 rfl rfl dL_law_475 ?_
                                refine q_iconst C 3 dL_law_476 ?_
                                refine q_iadd C dL_law_477 ?_
                                obtain ⟨i161, hF⟩ := ck_ok hF
                                refine q_scr C S hSC i161 dL_law_478 ?_
                                refine q_aload_n C hl 0 rfl rfl dL_law_479 ?_
                                refine q_iload_n C hl 3 rfl rfl dL_law_480 ?_
                                refine q_iconst C 4 dL_law_481 ?_
                                refine q_iadd C dL_law_482 ?_
                                obtain ⟨i162, hF⟩ := ck_ok hF
                                refine q_scr C S hSC i162 dL_law_483 ?_
                                obtain ⟨v163, g164, m165, h166, hF⟩ := bd3_ok hF
                                have hX3 := xX10_order_f h166 S.g
                                have hG2 := hX3.2
                                have hX2 := hX3.1
                                have hXr := (xL_law_487 hF hG2).1
                                refine q_ciA S (run_V (As := [.int (iI (sx xs (w32 (x3 + 1)))), .int (iI (sx xs (w32 (x3 + 2)))), .int (iI (sx xs (w32 (x3 + 3)))), .int (iI (sx xs (w32 (x3 + 4))))]) (rest := []) C S (cX10_order_ok l G hx1 (r32_of _) (r32_of _) (r32_of _) (r32_of _) h166 ad _) hx1 ⟨by decide, _, _, rfl⟩ gd_RL_69 hdV_X10_order rfl ⟨rfl, rfl, (Nat.le_of_ble_eq_true rfl), (Nat.le_of_ble_eq_true rfl)⟩ (by have h1 := hXr.1; have h2 := hXr.2.1; have h3 := hX2.1; have h4 := hX2.2.1; exact ⟨by show _ ≤ mc; omega, by show _ ≤ msl; omega⟩) hl.1 rfl (Nat.le_of_ble_eq_true rfl) dL_law_484) (fun ad167 H locs hax Sm165 h168 => ?_)
                                have hq : aX g0 ad0 ad167 ∧ gX g0 g164 := ⟨hq.1.tr hq.2 hax, hq.2.tr hX2⟩
                                have hn : gn g164 = n0 + (cells + (gn g164 - gn g)) ∧ gs g164 = t0 + (slots + (gs g164 - gs g)) := by have h3 := hX2.1; have h4 := hX2.2.1; omega
                                have k169 := hX2.k hx1 (by decide)
                                have ak169 : ad167 x1 = ad x1 := hax _ (kz hx1 (by decide))
                                have k170 := hX2.k hx2 (by decide)
                                have ak170 : ad167 x2 = ad x2 := hax _ (kz hx2 (by decide))
                                rw [← ak169] at hl
                                rw [← ak170] at hl
                                exact wL_law_487 hH0 hQ hSC C Sm165 trivial k169 k170 hx3 h168.1 (lv_sub hl [0, 1, 2, 3] rfl) hq hn hF he K0 K1
                              · have hF := if_f hc158 hF
                                by_cases hc171 : (bAnd (sx xs x3) 31) = 14
                                · have hF := if_t hc171 hF
                                  refine q_tin C (r32_of _) 14 hc171 484 516 dL_law_32 (by decide) rfl (by decide) ?_
                                  refine q_aload_n C hl 1 rfl rfl dL_law_516 ?_
                                  refine q_aload_n C hl 0 rfl rfl dL_law_517 ?_
                                  refine q_iload_n C hl 3 rfl rfl dL_law_518 ?_
                                  refine q_iconst C 1 dL_law_519 ?_
                                  refine q_iadd C dL_law_520 ?_
                                  obtain ⟨i172, hF⟩ := ck_ok hF
                                  refine q_scr C S hSC i172 dL_law_521 ?_
                                  refine q_aload_n C hl 0 rfl rfl dL_law_522 ?_
                                  refine q_iload_n C hl 3 rfl rfl dL_law_523 ?_
                                  refine q_iconst C 2 dL_law_524 ?_
                                  refine q_iadd C dL_law_525 ?_
                                  obtain ⟨i173, hF⟩ := ck_ok hF
                                  refine q_scr C S hSC i173 dL_law_526 ?_
                                  obtain ⟨v174, m175, h176, hF⟩ := bd2_ok hF
                                  refine q_ci S (run_V (As := [.int (iI (sx xs (w32 (x3 + 1)))), .int (iI (sx xs (w32 (x3 + 2))))]) (rest := []) C S (cX10_bag_ok l G hx1 (r32_of _) (r32_of _) h176 ad _) hx1 ⟨by decide, _, _, rfl⟩ gd_RL_74 hdV_X10_bag rfl ⟨rfl, rfl, (Nat.le_of_ble_eq_true rfl), (Nat.le_of_ble_eq_true rfl)⟩ hle hl.1 rfl (Nat.le_of_ble_eq_true rfl) dL_law_527) (fun H locs Sm175 h177 => ?_)
                                  refine q_aload_n C hl 2 rfl rfl dL_law_530 ?_
                                  refine q_aload_n C hl 0 rfl rfl dL_law_531 ?_
                                  refine q_iload_n C hl 3 rfl rfl dL_law_532 ?_
                                  refine q_iconst C 1 dL_law_533 ?_
                                  refine q_iadd C dL_law_534 ?_
                                  obtain ⟨i178, hF⟩ := ck_ok hF
                                  refine q_scr C Sm175 hSC i178 dL_law_535 ?_
                                  refine q_aload_n C hl 0 rfl rfl dL_law_536 ?_
                                  refine q_iload_n C hl 3 rfl rfl dL_law_537 ?_
                                  refine q_iconst C 2 dL_law_538 ?_
                                  refine q_iadd C dL_law_539 ?_
                                  obtain ⟨i179, hF⟩ := ck_ok hF
                                  refine q_scr C Sm175 hSC i179 dL_law_540 ?_
                                  obtain ⟨v180, m181, h182, hF⟩ := bd2_ok hF
                                  refine q_ci Sm175 (run_V (As := [.int (iI (sx xs (w32 (x3 + 1)))), .int (iI (sx xs (w32 (x3 + 2))))]) (rest := [.int (iI v174)]) C Sm175 (cX11_bag_ok l G hx2 (r32_of _) (r32_of _) h182 ad _) hx2 ⟨by decide, _, _, rfl⟩ gd_RL_77 hdV_X11_bag rfl ⟨rfl, rfl, (Nat.le_of_ble_eq_true rfl), (Nat.le_of_ble_eq_true rfl)⟩ hle hl.1 rfl (Nat.le_of_ble_eq_true rfl) dL_law_541) (fun H locs Sm181 h183 => ?_)
                                  refine q_icmp_eq C h177.1 h183.1 631 dL_law_544 (by decide) (fun hc184 => ?_) (fun hc184 => ?_)
                                  · have hF := if_t hc184 hF
                                    exact wL_law_631 hH0 hQ hSC C Sm181 trivial hx1 hx2 hx3 (lv_sub hl [0, 1, 2, 3] rfl) hq hn hF he K0 K1
                                  · have hF := if_f hc184 hF
                                    exact absurd hF (by simp)
                                · have hF := if_f hc171 hF
                                  by_cases hc185 : (bAnd (sx xs x3) 31) = 15
                                  · have hF := if_t hc185 hF
                                    refine q_tin C (r32_of _) 15 hc185 517 549 dL_law_32 (by decide) rfl (by decide) ?_
                                    refine q_aload_n C hl 1 rfl rfl dL_law_549 ?_
                                    refine q_aload_n C hl 0 rfl rfl dL_law_550 ?_
                                    refine q_iload_n C hl 3 rfl rfl dL_law_551 ?_
                                    refine q_iconst C 1 dL_law_552 ?_
                                    refine q_iadd C dL_law_553 ?_
                                    obtain ⟨i186, hF⟩ := ck_ok hF
                                    refine q_scr C S hSC i186 dL_law_554 ?_
                                    obtain ⟨v187, m188, h189, hF⟩ := bd2_ok hF
                                    refine q_ci S (run_V (As := [.int (iI (sx xs (w32 (x3 + 1))))]) (rest := []) C S (cX10_fill_ok l G hx1 (r32_of _) h189 ad _) hx1 ⟨by decide, _, _, rfl⟩ gd_RL_78 hdV_X10_fill rfl ⟨rfl, rfl, (Nat.le_of_ble_eq_true rfl), (Nat.le_of_ble_eq_true rfl)⟩ hle hl.1 rfl (Nat.le_of_ble_eq_true rfl) dL_law_555) (fun H locs Sm188 h190 => ?_)
                                    refine q_aload_n C hl 2 rfl rfl dL_law_558 ?_
                                    refine q_aload_n C hl 0 rfl rfl dL_law_559 ?_
                                    refine q_iload_n C hl 3 rfl rfl dL_law_560 ?_
                                    refine q_iconst C 1 dL_law_561 ?_
                                    refine q_iadd C dL_law_562 ?_
                                    obtain ⟨i191, hF⟩ := ck_ok hF
                                    refine q_scr C Sm188 hSC i191 dL_law_563 ?_
                                    obtain ⟨v192, m193, h194, hF⟩ := bd2_ok hF
                                    refine q_ci Sm188 (run_V (As := [.int (iI (sx xs (w32 (x3 + 1))))]) (rest := [.int (iI v187)]) C Sm188 (cX11_fill_ok l G hx2 (r32_of _) h194 ad _) hx2 ⟨by decide, _, _, rfl⟩ gd_RL_81 hdV_X11_fill rfl ⟨rfl, rfl, (Nat.le_of_ble_eq_true rfl), (Nat.le_of_ble_eq_true rfl)⟩ hle hl.1 rfl (Nat.le_of_ble_eq_true rfl) dL_law_564) (fun H locs Sm193 h195 => ?_)
                                    refine q_icmp_eq C h190.1 h195.1 631 dL_law_567 (by decide) (fun hc196 => ?_) (fun hc196 => ?_)
                                    · have hF := if_t hc196 hF
                                      exact wL_law_631 hH0 hQ hSC C Sm193 trivial hx1 hx2 hx3 (lv_sub hl [0, 1, 2, 3] rfl) hq hn hF he K0 K1
                                    · have hF := if_f hc196 hF
                                      exact absurd hF (by simp)
                                  · have hF := if_f hc185 hF
                                    by_cases hc197 : (bAnd (sx xs x3) 31) = 16
                                    · have hF := if_t hc197 hF
                                      refine q_tin C (r32_of _) 16 hc197 540 572 dL_law_32 (by decide) rfl (by decide) ?_
                                      refine q_aload_n C hl 1 rfl rfl dL_law_572 ?_
                                      obtain ⟨v198, m199, h200, hF⟩ := bd2_ok hF
                                      refine q_ci S (run_V (As := []) (rest := []) C S (cX10_undo_ok l G hx1 h200 ad _) hx1 ⟨by decide, _, _, rfl⟩ gd_RL_82 hdV_X10_undo rfl ⟨rfl, rfl, (Nat.le_of_ble_eq_true rfl), (Nat.le_of_ble_eq_true rfl)⟩ hle hl.1 rfl (Nat.le_of_ble_eq_true rfl) dL_law_573) (fun H locs Sm199 h201 => ?_)
                                      refine q_aload_n C hl 2 rfl rfl dL_law_576 ?_
                                      obtain ⟨v202, m203, h204, hF⟩ := bd2_ok hF
                                      refine q_ci Sm199 (run_V (As := []) (rest := [.int (iI v198)]) C Sm199 (cX11_undo_ok l G hx2 h204 ad _) hx2 ⟨by decide, _, _, rfl⟩ gd_RL_85 hdV_X11_undo rfl ⟨rfl, rfl, (Nat.le_of_ble_eq_true rfl), (Nat.le_of_ble_eq_true rfl)⟩ hle hl.1 rfl (Nat.le_of_ble_eq_true rfl) dL_law_577) (fun H locs Sm203 h205 => ?_)
                                      refine q_icmp_eq C h201.1 h205.1 631 dL_law_580 (by decide) (fun hc206 => ?_) (fun hc206 => ?_)
                                      · have hF := if_t hc206 hF
                                        exact wL_law_631 hH0 hQ hSC C Sm203 trivial hx1 hx2 hx3 (lv_sub hl [0, 1, 2, 3] rfl) hq hn hF he K0 K1
                                      · have hF := if_f hc206 hF
                                        exact absurd hF (by simp)
                                    · have hF := if_f hc197 hF
                                      by_cases hc207 : (bAnd (sx xs x3) 31) = 17
                                      · have hF := if_t hc207 hF
                                        refine q_tin C (r32_of _) 17 hc207 553 585 dL_law_32 (by decide) rfl (by decide) ?_
                                        refine q_aload_n C hl 1 rfl rfl dL_law_585 ?_
                                        refine q_aload_n C hl 0 rfl rfl dL_law_586 ?_
                                        refine q_iload_n C hl 3 rfl rfl dL_law_587 ?_
                                        refine q_iconst C 1 dL_law_588 ?_
                                        refine q_iadd C dL_law_589 ?_
                                        obtain ⟨i208, hF⟩ := ck_ok hF
                                        refine q_scr C S hSC i208 dL_law_590 ?_
                                        obtain ⟨v209, m210, h211, hF⟩ := bd2_ok hF
                                        refine q_ci S (run_V (As := [.int (iI (sx xs (w32 (x3 + 1))))]) (rest := []) C S (cX10_drawn_ok l G hx1 (r32_of _) h211 ad _) hx1 ⟨by decide, _, _, rfl⟩ gd_RL_86 hdV_X10_drawn rfl ⟨rfl, rfl, (Nat.le_of_ble_eq_true rfl), (Nat.le_of_ble_eq_true rfl)⟩ hle hl.1 rfl (Nat.le_of_ble_eq_true rfl) dL_law_591) (fun H locs Sm210 h212 => ?_)
                                        refine q_aload_n C hl 2 rfl rfl dL_law_594 ?_
                                        refine q_aload_n C hl 0 rfl rfl dL_law_595 ?_
                                        refine q_iload_n C hl 3 rfl rfl dL_law_596 ?_
                                        refine q_iconst C 1 dL_law_597 ?_
                                        refine q_iadd C dL_law_598 ?_
                                        obtain ⟨i213, hF⟩ := ck_ok hF
                                        refine q_scr C Sm210 hSC i213 dL_law_599 ?_
                                        obtain ⟨v214, m215, h216, hF⟩ := bd2_ok hF
                                        refine q_ci Sm210 (run_V (As := [.int (iI (sx xs (w32 (x3 + 1))))]) (rest := [.int (iI v209)]) C Sm210 (cX11_drawn_ok l G hx2 (r32_of _) h216 ad _) hx2 ⟨by decide, _, _, rfl⟩ gd_RL_89 hdV_X11_drawn rfl ⟨rfl, rfl, (Nat.le_of_ble_eq_true rfl), (Nat.le_of_ble_eq_true rfl)⟩ hle hl.1 rfl (Nat.le_of_ble_eq_true rfl) dL_law_600) (fun H locs Sm215 h217 => ?_)
                                        refine q_icmp_eq C h212.1 h217.1 631 dL_law_603 (by decide) (fun hc218 => ?_) (fun hc218 => ?_)
                                        · have hF := if_t hc218 hF
                                          exact wL_law_631 hH0 hQ hSC C Sm215 trivial hx1 hx2 hx3 (lv_sub hl [0, 1, 2, 3] rfl) hq hn hF he K0 K1
                                        · have hF := if_f hc218 hF
                                          exact absurd hF (by simp)
                                      · have hF := if_f hc207 hF
                                        by_cases hc219 : (bAnd (sx xs x3) 31) = 18
                                        · have hF := if_t hc219 hF
                                          refine q_tin C (r32_of _) 18 hc219 576 608 dL_law_32 (by decide) rfl (by decide) ?_
                                          refine q_aload_n C hl 1 rfl rfl dL_law_608 ?_
                                          refine q_aload_n C hl 0 rfl rfl dL_law_609 ?_
                                          refine q_iload_n C hl 3 rfl rfl dL_law_610 ?_
                                          refine q_iconst C 1 dL_law_611 ?_
                                          refine q_iadd C dL_law_612 ?_
                                          obtain ⟨i220, hF⟩ := ck_ok hF
                                          refine q_scr C S hSC i220 dL_law_613 ?_
                                          obtain ⟨v221, m222, h223, hF⟩ := bd2_ok hF
                                          refine q_ci S (run_V (As := [.int (iI (sx xs (w32 (x3 + 1))))]) (rest := []) C S (cX10_count_ok l G hx1 (r32_of _) h223 ad _) hx1 ⟨by decide, _, _, rfl⟩ gd_RL_90 hdV_X10_count rfl ⟨rfl, rfl, (Nat.le_of_ble_eq_true rfl), (Nat.le_of_ble_eq_true rfl)⟩ hle hl.1 rfl (Nat.le_of_ble_eq_true rfl) dL_law_614) (fun H locs Sm222 h224 => ?_)
                                          refine q_aload_n C hl 2 rfl rfl dL_law_617 ?_
                                          refine q_aload_n C hl 0 rfl rfl dL_law_618 ?_
                                          refine q_iload_n C hl 3 rfl rfl dL_law_619 ?_
                                          refine q_iconst C 1 dL_law_620 ?_
                                          refine q_iadd C dL_law_621 ?_
                                          obtain ⟨i225, hF⟩ := ck_ok hF
                                          refine q_scr C Sm222 hSC i225 dL_law_622 ?_
                                          obtain ⟨v226, m227, h228, hF⟩ := bd2_ok hF
                                          refine q_ci Sm222 (run_V (As := [.int (iI (sx xs (w32 (x3 + 1))))]) (rest := [.int (iI v221)]) C Sm222 (cX11_count_ok l G hx2 (r32_of _) h228 ad _) hx2 ⟨by decide, _, _, rfl⟩ gd_RL_93 hdV_X11_count rfl ⟨rfl, rfl, (Nat.le_of_ble_eq_true rfl), (Nat.le_of_ble_eq_true rfl)⟩ hle hl.1 rfl (Nat.le_of_ble_eq_true rfl) dL_law_623) (fun H locs Sm227 h229 => ?_)
                                          refine q_icmp_eq C h224.1 h229.1 631 dL_law_626 (by decide) (fun hc230 => ?_) (fun hc230 => ?_)
                                          · have hF := if_t hc230 hF
                                            exact wL_law_631 hH0 hQ hSC C Sm227 trivial hx1 hx2 hx3 (lv_sub hl [0, 1, 2, 3] rfl) hq hn hF he K0 K1
                                          · have hF := if_f hc230 hF
                                            exact absurd hF (by simp)
                                        · have hF := if_f hc219 hF
                                          refine q_tout C (r32_of _) 631 dL_law_32 (by omega) (by decide) ?_
                                          exact wL_law_631 hH0 hQ hSC C S trivial hx1 hx2 hx3 (lv_sub hl [0, 1, 2, 3] rfl) hq hn hF he K0 K1
theorem yL_law_18 {L : Nat} {xs : Nat → Int32} {x0 x1 x2 : Int} {n : Nat} {s0 s1 : (Int × Shp × Mem)} {c1 : Int} (hI : iter (BL_law_18 L xs x0 x1 x2) n s0 = some (c1, s1)) (hg : gOk s0.2.1) : gX s0.2.1 s1.2.1 ∧ gOk s1.2.1 :=
  iter_gX (B := BL_law_18 L xs x0 x1 x2) (fun q => q.2.1) (fun s c s' hB hg => xL_law_18 hB hg) n s0 c1 s1 hI hg
set_option maxRecDepth 20000 in
theorem lL_law_18 {p : Program} {l : Launch} {e : Env} {s : State} {mt : MethodId} {args : Array Value} {below : List Frame} {meth : Method} {c : Code} {Q : State → Prop} {G : Gl} {A : Nat → Prop} {H0 : Heap} {ad0 : Int → Nat} {g0 : Shp} {n0 t0 mc msl : Nat} {k v b L : Nat} {xs : Nat → Int32} (hH0 : H0 = s.heap) (hQ : SQ A k v s s.heap) (hSC : SC b L xs A s H0) {x0 x1 x2 : Int} (C : CallFix p mt c cL_law 4 s args tb RL)  {n : Nat} {s0 s1 : (Int × Shp × Mem)} {c1 : Int} (hI : iter (BL_law_18 L xs x0 x1 x2) n s0 = some (c1, s1)) (he : gn s1.2.1 ≤ n0 + mc ∧ gs s1.2.1 ≤ t0 + msl) (K1 : c1 = 1 → ∀ (ad : Int → Nat) (H : Heap) (locs : List Loc) (ls : Array Slot) (cells slots : Nat), aX g0 ad0 ad ∧ gX g0 s1.2.1 → gn s1.2.1 = n0 + cells ∧ gs s1.2.1 = t0 + slots → Wd G A s H0 ad s1.2.1 s1.2.2 H locs → lv_has ls 4 [] → W p l e (rL_law mc msl) s mt args below meth c H locs cells slots Q (F0 mt 637 ls [])) : ∀ (ad : Int → Nat) (H : Heap) (locs : List Loc) (ls : Array Slot) (cells slots : Nat), aX g0 ad0 ad ∧ gX g0 s0.2.1 → gn s0.2.1 = n0 + cells ∧ gs s0.2.1 = t0 + slots → True → gk s0.2.1 x1 = 11 → gk s0.2.1 x2 = 12 → r32 s0.1 → Wd G A s H0 ad s0.2.1 s0.2.2 H locs → lv_has ls 4 [(0, .ref b), (1, .ref (ad x1)), (2, .ref (ad x2)), (3, .int (iI s0.1))] → W p l e (rL_law mc msl) s mt args below meth c H locs cells slots Q (F0 mt 18 ls []) := by
  refine iter_WA (Pw := fun q => ∀ (ad : Int → Nat) (H : Heap) (locs : List Loc) (ls : Array Slot) (cells slots : Nat), aX g0 ad0 ad ∧ gX g0 q.2.1 → gn q.2.1 = n0 + cells ∧ gs q.2.1 = t0 + slots → True → gk q.2.1 x1 = 11 → gk q.2.1 x2 = 12 → r32 q.1 → Wd G A s H0 ad q.2.1 q.2.2 H locs → lv_has ls 4 [(0, .ref b), (1, .ref (ad x1)), (2, .ref (ad x2)), (3, .int (iI q.1))] → W p l e (rL_law mc msl) s mt args below meth c H locs cells slots Q (F0 mt 18 ls [])) (Px := fun c0 q => (c0 = 1 → ∀ (ad : Int → Nat) (H : Heap) (locs : List Loc) (ls : Array Slot) (cells slots : Nat), aX g0 ad0 ad ∧ gX g0 q.2.1 → gn q.2.1 = n0 + cells ∧ gs q.2.1 = t0 + slots → Wd G A s H0 ad q.2.1 q.2.2 H locs → lv_has ls 4 [] → W p l e (rL_law mc msl) s mt args below meth c H locs cells slots Q (F0 mt 637 ls []))) ?_ _ _ hI K1
  intro n s c s' hB hR K0 kx ad H locs ls cells slots hq hn f0 f1 f2 f3 S hl
  have hX1 := xL_law_18 hB S.g
  have hX2 : gn s'.2.1 ≤ gn s1.2.1 ∧ gs s'.2.1 ≤ gs s1.2.1 := by
    rcases hR with ⟨_, h2⟩ | ⟨_, h2, _⟩
    · have h3 := (yL_law_18 h2 hX1.2).1
      exact ⟨h3.1, h3.2.1⟩
    · rw [h2]; exact ⟨Nat.le_refl _, Nat.le_refl _⟩
  exact wL_law_18 hH0 hQ hSC C S f0 f1 f2 f3 hl hq hn hB (by omega) K0 (fun h9 => (kx (by rw [h9]; decide)) h9)
theorem xL_law_637 {L : Nat} {xs : Nat → Int32} {g : Shp} {m : Mem} {r : Int} {g' : Shp} {m' : Mem} (hF : bL_law_637 L xs g m = some (r, g', m')) (hg : gOk g) : gX g g' ∧ gOk g' := by
  unfold bL_law_637 at hF
  cases hF
  exact ⟨gX.rf _, hg⟩
set_option maxRecDepth 20000 in
theorem wL_law_637 {p : Program} {l : Launch} {e : Env} {s : State} {mt : MethodId} {args : Array Value} {below : List Frame} {meth : Method} {c : Code} {Q : State → Prop} {G : Gl} {A : Nat → Prop} {H0 : Heap} {ad : Int → Nat} {g : Shp} {ad0 : Int → Nat} {g0 : Shp} {n0 t0 cells slots mc msl : Nat} {k v b L : Nat} {xs : Nat → Int32} (hH0 : H0 = s.heap) (hQ : SQ A k v s s.heap) (hSC : SC b L xs A s H0) {H : Heap} {locs : List Loc} {ls : Array Slot} {m : Mem} (C : CallFix p mt c cL_law 4 s args tb RL) (S : Wd G A s H0 ad g m H locs)  (hl : lv_has ls 4 []) (hq : aX g0 ad0 ad ∧ gX g0 g) (hn : gn g = n0 + cells ∧ gs g = t0 + slots) {r : Int} {g' : Shp} {m' : Mem} (hF : bL_law_637 L xs g m = some (r, g', m')) (he : gn g' ≤ n0 + mc ∧ gs g' ≤ t0 + msl) (Kr : ∀ (ad : Int → Nat) (H : Heap) (locs : List Loc) (pc : Nat) (ls : Array Slot) (cells slots : Nat), aX g0 ad0 ad → gn g' = n0 + cells ∧ gs g' = t0 + slots → Wd G A s H0 ad g' m' H locs → decode cL_law pc = .ok (.ireturn, 1) → r32 r ∧ (true = true → r = 0 ∨ r = 1) → narrow .boolean (.int (iI r)) = .int (iI r) → W p l e (rL_law mc msl) s mt args below meth c H locs cells slots Q (F0 mt pc ls [.int (iI r)])) : W p l e (rL_law mc msl) s mt args below meth c H locs cells slots Q (F0 mt 637 ls []) := by
  have hXx := xL_law_637 hF S.g
  have hle : cells ≤ mc ∧ slots ≤ msl := by
    have h1 := hXx.1.1
    have h2 := hXx.1.2.1
    omega
  unfold bL_law_637 at hF
  refine q_iconst C 1 dL_law_637 ?_
  cases hF
  exact Kr _ _ _ _ _ _ _ hq.1 hn S dL_law_638 ⟨r_b b_1, fun _ => b_1⟩ (nr_b b_1)
theorem xL_law_15 {L : Nat} {xs : Nat → Int32} {g : Shp} {m : Mem} {x0 x1 z0 : Int} {r : Int} {g' : Shp} {m' : Mem} (hF : bL_law_15 L xs x0 x1 z0 g m = some (r, g', m')) (hg : gOk g) : gX g g' ∧ gOk g' := by
  unfold bL_law_15 at hF
  obtain ⟨cv1, sv2, hi3, hF⟩ := bdl_ok hF
  have hy := yL_law_18 hi3 hg
  exact gX2 hy.1 (xL_law_637 hF hy.2)
set_option maxRecDepth 20000 in
theorem wL_law_15 {p : Program} {l : Launch} {e : Env} {s : State} {mt : MethodId} {args : Array Value} {below : List Frame} {meth : Method} {c : Code} {Q : State → Prop} {G : Gl} {A : Nat → Prop} {H0 : Heap} {ad : Int → Nat} {g : Shp} {ad0 : Int → Nat} {g0 : Shp} {n0 t0 cells slots mc msl : Nat} {k v b L : Nat} {xs : Nat → Int32} (hH0 : H0 = s.heap) (hQ : SQ A k v s s.heap) (hSC : SC b L xs A s H0) {H : Heap} {locs : List Loc} {ls : Array Slot} {m : Mem} {x0 x1 z0 : Int} (C : CallFix p mt c cL_law 4 s args tb RL) (S : Wd G A s H0 ad g m H locs) (hx0 : True) (hx1 : gk g x1 = 11) (hz0 : gk g z0 = 12) (hl : lv_has ls 4 [(0, .ref b), (1, .ref (ad x1))]) (hq : aX g0 ad0 ad ∧ gX g0 g) (hn : gn g = n0 + cells ∧ gs g = t0 + slots) {r : Int} {g' : Shp} {m' : Mem} (hF : bL_law_15 L xs x0 x1 z0 g m = some (r, g', m')) (he : gn g' ≤ n0 + mc ∧ gs g' ≤ t0 + msl) (Kr : ∀ (ad : Int → Nat) (H : Heap) (locs : List Loc) (pc : Nat) (ls : Array Slot) (cells slots : Nat), aX g0 ad0 ad → gn g' = n0 + cells ∧ gs g' = t0 + slots → Wd G A s H0 ad g' m' H locs → decode cL_law pc = .ok (.ireturn, 1) → r32 r ∧ (true = true → r = 0 ∨ r = 1) → narrow .boolean (.int (iI r)) = .int (iI r) → W p l e (rL_law mc msl) s mt args below meth c H locs cells slots Q (F0 mt pc ls [.int (iI r)])) : W p l e (rL_law mc msl) s mt args below meth c H locs cells slots Q (F0 mt 15 ls [.ref (ad z0)]) := by
  have hXx := xL_law_15 hF S.g
  have hle : cells ≤ mc ∧ slots ≤ msl := by
    have h1 := hXx.1.1
    have h2 := hXx.1.2.1
    omega
  unfold bL_law_15 at hF
  refine q_astore_n C hl [(2, .ref (ad z0)), (0, .ref b), (1, .ref (ad x1))] rfl rfl (by decide) rfl dL_law_15 (fun ls hl => ?_)
  refine q_iconst C 0 dL_law_16 ?_
  refine q_istore_n C hl [(3, .int (iI 0)), (2, .ref (ad z0)), (0, .ref b), (1, .ref (ad x1))] rfl rfl (by decide) rfl dL_law_17 (fun ls hl => ?_)
  obtain ⟨cv1, sv2, hi3, hF⟩ := bdl_ok hF
  have hy := yL_law_18 hi3 S.g
  have hXr := (xL_law_637 hF hy.2).1
  refine lL_law_18 hH0 hQ hSC C hi3 (by have h1 := hXr.1; have h2 := hXr.2.1; omega) ?_ _ _ _ _ _ _ hq hn trivial hx1 hz0 (rl 0 rfl) S (lv_sub hl [2, 3, 1, 0] rfl)
  intro _ ad H locs ls cells slots hq hn  S4 hl
  exact wL_law_637 hH0 hQ hSC C S4  (lv_sub hl [] rfl) hq hn hF he Kr
theorem xL_law_11 {L : Nat} {xs : Nat → Int32} {g : Shp} {m : Mem} {x0 x1 z0 : Int} {r : Int} {g' : Shp} {m' : Mem} (hF : bL_law_11 L xs x0 x1 z0 g m = some (r, g', m')) (hg : gOk g) : gX g g' ∧ gOk g' := by
  unfold bL_law_11 at hF
  obtain ⟨v1, g2, m3, h4, hF⟩ := bd3_ok hF
  have hX3 := xX11_init_f h4 hg
  have hG2 := hX3.2
  have hX2 := hX3.1
  exact gX2 hX2 (xL_law_15 hF hG2)
set_option maxRecDepth 20000 in
theorem wL_law_11 {p : Program} {l : Launch} {e : Env} {s : State} {mt : MethodId} {args : Array Value} {below : List Frame} {meth : Method} {c : Code} {Q : State → Prop} {G : Gl} {A : Nat → Prop} {H0 : Heap} {ad : Int → Nat} {g : Shp} {ad0 : Int → Nat} {g0 : Shp} {n0 t0 cells slots mc msl : Nat} {k v b L : Nat} {xs : Nat → Int32} (hH0 : H0 = s.heap) (hQ : SQ A k v s s.heap) (hSC : SC b L xs A s H0) {H : Heap} {locs : List Loc} {ls : Array Slot} {m : Mem} {x0 x1 z0 : Int} (C : CallFix p mt c cL_law 4 s args tb RL) (S : Wd G A s H0 ad g m H locs) (hx0 : True) (hx1 : gk g x1 = 11) (hz0 : gk g z0 = 12) (hl : lv_has ls 4 [(0, .ref b), (1, .ref (ad x1))]) (hq : aX g0 ad0 ad ∧ gX g0 g) (hn : gn g = n0 + cells ∧ gs g = t0 + slots) {r : Int} {g' : Shp} {m' : Mem} (hF : bL_law_11 L xs x0 x1 z0 g m = some (r, g', m')) (he : gn g' ≤ n0 + mc ∧ gs g' ≤ t0 + msl) (Kr : ∀ (ad : Int → Nat) (H : Heap) (locs : List Loc) (pc : Nat) (ls : Array Slot) (cells slots : Nat), aX g0 ad0 ad → gn g' = n0 + cells ∧ gs g' = t0 + slots → Wd G A s H0 ad g' m' H locs → decode cL_law pc = .ok (.ireturn, 1) → r32 r ∧ (true = true → r = 0 ∨ r = 1) → narrow .boolean (.int (iI r)) = .int (iI r) → W p l e (rL_law mc msl) s mt args below meth c H locs cells slots Q (F0 mt pc ls [.int (iI r)])) : W p l e (rL_law mc msl) s mt args below meth c H locs cells slots Q (F0 mt 11 ls [.ref (ad z0)]) := by
  have hXx := xL_law_11 hF S.g
  have hle : cells ≤ mc ∧ slots ≤ msl := by
    have h1 := hXx.1.1
    have h2 := hXx.1.2.1
    omega
  unfold bL_law_11 at hF
  refine q_dup C rfl dL_law_11 ?_
  obtain ⟨v1, g2, m3, h4, hF⟩ := bd3_ok hF
  have hX3 := xX11_init_f h4 S.g
  have hG2 := hX3.2
  have hX2 := hX3.1
  have hXr := (xL_law_15 hF hG2).1
  refine q_cvA S (run_I (As := []) (rest := [.ref (ad z0)]) C S (cX11_init_ok l G hz0 h4 ad _) tw858 tw81 tw856 tw857 rfl hd_X11_init rfl ⟨rfl, rfl, (Nat.le_of_ble_eq_true rfl), (Nat.le_of_ble_eq_true rfl)⟩ (by have h1 := hXr.1; have h2 := hXr.2.1; have h3 := hX2.1; have h4 := hX2.2.1; exact ⟨by show _ ≤ mc; omega, by show _ ≤ msl; omega⟩) hl.1 rfl (Nat.le_of_ble_eq_true rfl) dL_law_12) (fun ad5 H locs hax Sm3 => ?_)
  have hq : aX g0 ad0 ad5 ∧ gX g0 g2 := ⟨hq.1.tr hq.2 hax, hq.2.tr hX2⟩
  have hn : gn g2 = n0 + (cells + (gn g2 - gn g)) ∧ gs g2 = t0 + (slots + (gs g2 - gs g)) := by have h3 := hX2.1; have h4 := hX2.2.1; omega
  have k6 := hX2.k hx1 (by decide)
  have ak6 : ad5 x1 = ad x1 := hax _ (kz hx1 (by decide))
  rw [← ak6] at hl
  have k7 := hX2.k hz0 (by decide)
  have ak7 : ad5 z0 = ad z0 := hax _ (kz hz0 (by decide))
  rw [← ak7]
  exact wL_law_15 hH0 hQ hSC C Sm3 trivial k6 k7 (lv_sub hl [0, 1] rfl) hq hn hF he Kr
theorem xL_law_7 {L : Nat} {xs : Nat → Int32} {g : Shp} {m : Mem} {x0 z0 : Int} {r : Int} {g' : Shp} {m' : Mem} (hF : bL_law_7 L xs x0 z0 g m = some (r, g', m')) (hg : gOk g) : gX g g' ∧ gOk g' := by
  unfold bL_law_7 at hF
  obtain ⟨h4, hF⟩ := ck_ok hF
  obtain ⟨g1, eg1, hF⟩ := vg_ok hF
  obtain ⟨m2, em2, hF⟩ := vm_ok hF
  obtain ⟨y3, ey3, hF⟩ := vv_ok hF
  have hG2 := gA_ok hg h4 eg1
  have hX2 := gA_X hg eg1
  exact gX2 hX2 (xL_law_11 hF hG2)
set_option maxRecDepth 20000 in
theorem wL_law_7 {p : Program} {l : Launch} {e : Env} {s : State} {mt : MethodId} {args : Array Value} {below : List Frame} {meth : Method} {c : Code} {Q : State → Prop} {G : Gl} {A : Nat → Prop} {H0 : Heap} {ad : Int → Nat} {g : Shp} {ad0 : Int → Nat} {g0 : Shp} {n0 t0 cells slots mc msl : Nat} {k v b L : Nat} {xs : Nat → Int32} (hH0 : H0 = s.heap) (hQ : SQ A k v s s.heap) (hSC : SC b L xs A s H0) {H : Heap} {locs : List Loc} {ls : Array Slot} {m : Mem} {x0 z0 : Int} (C : CallFix p mt c cL_law 4 s args tb RL) (S : Wd G A s H0 ad g m H locs) (hx0 : True) (hz0 : gk g z0 = 11) (hl : lv_has ls 4 [(0, .ref b)]) (hq : aX g0 ad0 ad ∧ gX g0 g) (hn : gn g = n0 + cells ∧ gs g = t0 + slots) {r : Int} {g' : Shp} {m' : Mem} (hF : bL_law_7 L xs x0 z0 g m = some (r, g', m')) (he : gn g' ≤ n0 + mc ∧ gs g' ≤ t0 + msl) (Kr : ∀ (ad : Int → Nat) (H : Heap) (locs : List Loc) (pc : Nat) (ls : Array Slot) (cells slots : Nat), aX g0 ad0 ad → gn g' = n0 + cells ∧ gs g' = t0 + slots → Wd G A s H0 ad g' m' H locs → decode cL_law pc = .ok (.ireturn, 1) → r32 r ∧ (true = true → r = 0 ∨ r = 1) → narrow .boolean (.int (iI r)) = .int (iI r) → W p l e (rL_law mc msl) s mt args below meth c H locs cells slots Q (F0 mt pc ls [.int (iI r)])) : W p l e (rL_law mc msl) s mt args below meth c H locs cells slots Q (F0 mt 7 ls [.ref (ad z0)]) := by
  have hXx := xL_law_7 hF S.g
  have hle : cells ≤ mc ∧ slots ≤ msl := by
    have h1 := hXx.1.1
    have h2 := hXx.1.2.1
    omega
  unfold bL_law_7 at hF
  refine q_astore_n C hl [(1, .ref (ad z0)), (0, .ref b)] rfl rfl (by decide) rfl dL_law_7 (fun ls hl => ?_)
  obtain ⟨h4, hF⟩ := ck_ok hF
  obtain ⟨g1, eg1, hF⟩ := vg_ok hF
  obtain ⟨m2, em2, hF⟩ := vm_ok hF
  obtain ⟨y3, ey3, hF⟩ := vv_ok hF
  have hG2 := gA_ok S.g h4 eg1
  have hX2 := gA_X S.g eg1
  have hN2 := gA_n eg1
  have hXr := (xL_law_11 hF hG2).1
  refine q_new C S nk_RL_10 h4 (by have h1 := hXr.1; have h2 := hXr.2.1; exact ⟨by show _ ≤ mc; omega, by show _ ≤ msl; omega⟩) eg1 em2 dL_law_8 (fun ad5 H hax Sm2 => ?_)
  rw [← ey3]
  have ky3 := gA_k eg1 ey3
  have hq : aX g0 ad0 ad5 ∧ gX g0 g1 := ⟨hq.1.tr hq.2 hax, hq.2.tr hX2⟩
  have hn : gn g1 = n0 + (cells + 1) ∧ gs g1 = t0 + (slots + 39) := by omega
  have k6 := hX2.k hz0 (by decide)
  have ak6 : ad5 z0 = ad z0 := hax _ (kz hz0 (by decide))
  rw [← ak6] at hl
  exact wL_law_11 hH0 hQ hSC C Sm2 trivial k6 ky3 (lv_sub hl [1, 0] rfl) hq hn hF he Kr
theorem xL_law_3 {L : Nat} {xs : Nat → Int32} {g : Shp} {m : Mem} {x0 z0 : Int} {r : Int} {g' : Shp} {m' : Mem} (hF : bL_law_3 L xs x0 z0 g m = some (r, g', m')) (hg : gOk g) : gX g g' ∧ gOk g' := by
  unfold bL_law_3 at hF
  obtain ⟨v1, g2, m3, h4, hF⟩ := bd3_ok hF
  have hX3 := xX10_init_f h4 hg
  have hG2 := hX3.2
  have hX2 := hX3.1
  exact gX2 hX2 (xL_law_7 hF hG2)
set_option maxRecDepth 20000 in
theorem wL_law_3 {p : Program} {l : Launch} {e : Env} {s : State} {mt : MethodId} {args : Array Value} {below : List Frame} {meth : Method} {c : Code} {Q : State → Prop} {G : Gl} {A : Nat → Prop} {H0 : Heap} {ad : Int → Nat} {g : Shp} {ad0 : Int → Nat} {g0 : Shp} {n0 t0 cells slots mc msl : Nat} {k v b L : Nat} {xs : Nat → Int32} (hH0 : H0 = s.heap) (hQ : SQ A k v s s.heap) (hSC : SC b L xs A s H0) {H : Heap} {locs : List Loc} {ls : Array Slot} {m : Mem} {x0 z0 : Int} (C : CallFix p mt c cL_law 4 s args tb RL) (S : Wd G A s H0 ad g m H locs) (hx0 : True) (hz0 : gk g z0 = 11) (hl : lv_has ls 4 [(0, .ref b)]) (hq : aX g0 ad0 ad ∧ gX g0 g) (hn : gn g = n0 + cells ∧ gs g = t0 + slots) {r : Int} {g' : Shp} {m' : Mem} (hF : bL_law_3 L xs x0 z0 g m = some (r, g', m')) (he : gn g' ≤ n0 + mc ∧ gs g' ≤ t0 + msl) (Kr : ∀ (ad : Int → Nat) (H : Heap) (locs : List Loc) (pc : Nat) (ls : Array Slot) (cells slots : Nat), aX g0 ad0 ad → gn g' = n0 + cells ∧ gs g' = t0 + slots → Wd G A s H0 ad g' m' H locs → decode cL_law pc = .ok (.ireturn, 1) → r32 r ∧ (true = true → r = 0 ∨ r = 1) → narrow .boolean (.int (iI r)) = .int (iI r) → W p l e (rL_law mc msl) s mt args below meth c H locs cells slots Q (F0 mt pc ls [.int (iI r)])) : W p l e (rL_law mc msl) s mt args below meth c H locs cells slots Q (F0 mt 3 ls [.ref (ad z0)]) := by
  have hXx := xL_law_3 hF S.g
  have hle : cells ≤ mc ∧ slots ≤ msl := by
    have h1 := hXx.1.1
    have h2 := hXx.1.2.1
    omega
  unfold bL_law_3 at hF
  refine q_dup C rfl dL_law_3 ?_
  obtain ⟨v1, g2, m3, h4, hF⟩ := bd3_ok hF
  have hX3 := xX10_init_f h4 S.g
  have hG2 := hX3.2
  have hX2 := hX3.1
  have hXr := (xL_law_7 hF hG2).1
  refine q_cvA S (run_IT (As := []) (rest := [.ref (ad z0)]) C S hH0 hQ (cX10_init_ok l G hz0 h4 ad _ k v) tw88 tw64 tw86 tw87 rfl hd_X10_init rfl ⟨rfl, rfl, (Nat.le_of_ble_eq_true rfl), (Nat.le_of_ble_eq_true rfl)⟩ (by have h1 := hXr.1; have h2 := hXr.2.1; have h3 := hX2.1; have h4 := hX2.2.1; exact ⟨by show _ ≤ mc; omega, by show _ ≤ msl; omega⟩) hl.1 rfl (Nat.le_of_ble_eq_true rfl) dL_law_4) (fun ad5 H locs hax Sm3 => ?_)
  have hq : aX g0 ad0 ad5 ∧ gX g0 g2 := ⟨hq.1.tr hq.2 hax, hq.2.tr hX2⟩
  have hn : gn g2 = n0 + (cells + (gn g2 - gn g)) ∧ gs g2 = t0 + (slots + (gs g2 - gs g)) := by have h3 := hX2.1; have h4 := hX2.2.1; omega
  have k6 := hX2.k hz0 (by decide)
  have ak6 : ad5 z0 = ad z0 := hax _ (kz hz0 (by decide))
  rw [← ak6]
  exact wL_law_7 hH0 hQ hSC C Sm3 trivial k6 (lv_sub hl [0] rfl) hq hn hF he Kr
theorem xL_law_0 {L : Nat} {xs : Nat → Int32} {g : Shp} {m : Mem} {x0 : Int} {r : Int} {g' : Shp} {m' : Mem} (hF : bL_law_0 L xs x0 g m = some (r, g', m')) (hg : gOk g) : gX g g' ∧ gOk g' := by
  unfold bL_law_0 at hF
  obtain ⟨h4, hF⟩ := ck_ok hF
  obtain ⟨g1, eg1, hF⟩ := vg_ok hF
  obtain ⟨m2, em2, hF⟩ := vm_ok hF
  obtain ⟨y3, ey3, hF⟩ := vv_ok hF
  have hG2 := gA_ok hg h4 eg1
  have hX2 := gA_X hg eg1
  exact gX2 hX2 (xL_law_3 hF hG2)
set_option maxRecDepth 20000 in
theorem wL_law_0 {p : Program} {l : Launch} {e : Env} {s : State} {mt : MethodId} {args : Array Value} {below : List Frame} {meth : Method} {c : Code} {Q : State → Prop} {G : Gl} {A : Nat → Prop} {H0 : Heap} {ad : Int → Nat} {g : Shp} {ad0 : Int → Nat} {g0 : Shp} {n0 t0 cells slots mc msl : Nat} {k v b L : Nat} {xs : Nat → Int32} (hH0 : H0 = s.heap) (hQ : SQ A k v s s.heap) (hSC : SC b L xs A s H0) {H : Heap} {locs : List Loc} {ls : Array Slot} {m : Mem} {x0 : Int} (C : CallFix p mt c cL_law 4 s args tb RL) (S : Wd G A s H0 ad g m H locs) (hx0 : True) (hl : lv_has ls 4 [(0, .ref b)]) (hq : aX g0 ad0 ad ∧ gX g0 g) (hn : gn g = n0 + cells ∧ gs g = t0 + slots) {r : Int} {g' : Shp} {m' : Mem} (hF : bL_law_0 L xs x0 g m = some (r, g', m')) (he : gn g' ≤ n0 + mc ∧ gs g' ≤ t0 + msl) (Kr : ∀ (ad : Int → Nat) (H : Heap) (locs : List Loc) (pc : Nat) (ls : Array Slot) (cells slots : Nat), aX g0 ad0 ad → gn g' = n0 + cells ∧ gs g' = t0 + slots → Wd G A s H0 ad g' m' H locs → decode cL_law pc = .ok (.ireturn, 1) → r32 r ∧ (true = true → r = 0 ∨ r = 1) → narrow .boolean (.int (iI r)) = .int (iI r) → W p l e (rL_law mc msl) s mt args below meth c H locs cells slots Q (F0 mt pc ls [.int (iI r)])) : W p l e (rL_law mc msl) s mt args below meth c H locs cells slots Q (F0 mt 0 ls []) := by
  have hXx := xL_law_0 hF S.g
  have hle : cells ≤ mc ∧ slots ≤ msl := by
    have h1 := hXx.1.1
    have h2 := hXx.1.2.1
    omega
  unfold bL_law_0 at hF
  obtain ⟨h4, hF⟩ := ck_ok hF
  obtain ⟨g1, eg1, hF⟩ := vg_ok hF
  obtain ⟨m2, em2, hF⟩ := vm_ok hF
  obtain ⟨y3, ey3, hF⟩ := vv_ok hF
  have hG2 := gA_ok S.g h4 eg1
  have hX2 := gA_X S.g eg1
  have hN2 := gA_n eg1
  have hXr := (xL_law_3 hF hG2).1
  refine q_new C S nk_RL_7 h4 (by have h1 := hXr.1; have h2 := hXr.2.1; exact ⟨by show _ ≤ mc; omega, by show _ ≤ msl; omega⟩) eg1 em2 dL_law_0 (fun ad5 H hax Sm2 => ?_)
  rw [← ey3]
  have ky3 := gA_k eg1 ey3
  have hq : aX g0 ad0 ad5 ∧ gX g0 g1 := ⟨hq.1.tr hq.2 hax, hq.2.tr hX2⟩
  have hn : gn g1 = n0 + (cells + 1) ∧ gs g1 = t0 + (slots + 8) := by omega
  exact wL_law_3 hH0 hQ hSC C Sm2 trivial ky3 (lv_sub hl [0] rfl) hq hn hF he Kr
