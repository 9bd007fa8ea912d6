def ebL_law_631 (L : Nat) (xs : Nat → Int32) (x0 x3 : Int) (g : Shp) (m : Mem) : Option (Int × (Int × Shp × Mem)) :=
  vv (w32 (x3 + 5)) fun y1 =>
  some (0, (y1, g, m))
def ebL_law_360 (L : Nat) (xs : Nat → Int32) (x0 x3 z0 : Int) (g : Shp) (m : Mem) : Option (Int × (Int × Shp × Mem)) :=
  ck ((0 : Int) ≤ (w32 (x3 + 1)) ∧ (w32 (x3 + 1)) < (L : Int)) <|
  ck ((0 : Int) ≤ (w32 (x3 + 2)) ∧ (w32 (x3 + 2)) < (L : Int)) <|
  ck ((0 : Int) ≤ (w32 (x3 + 3)) ∧ (w32 (x3 + 3)) < (L : Int)) <|
  bd2 (eX11_way g (sx xs (w32 (x3 + 1))) (sx xs (w32 (x3 + 2))) (sx xs (w32 (x3 + 3))) m) fun v4 m5 =>
  if z0 = v4 then
    ebL_law_631 L xs x0 x3 g m5
  else
    none
def ebL_law_393 (L : Nat) (xs : Nat → Int32) (x0 x3 z0 : Int) (g : Shp) (m : Mem) : Option (Int × (Int × Shp × Mem)) :=
  ck ((0 : Int) ≤ (w32 (x3 + 1)) ∧ (w32 (x3 + 1)) < (L : Int)) <|
  bd2 (eX11_best g (sx xs (w32 (x3 + 1))) m) fun v2 m3 =>
  if z0 = v2 then
    ebL_law_631 L xs x0 x3 g m3
  else
    none
def ebL_law_421 (L : Nat) (xs : Nat → Int32) (x0 x3 z0 : Int) (g : Shp) (m : Mem) : Option (Int × (Int × Shp × Mem)) :=
  ck ((0 : Int) ≤ (w32 (x3 + 1)) ∧ (w32 (x3 + 1)) < (L : Int)) <|
  ck ((0 : Int) ≤ (w32 (x3 + 2)) ∧ (w32 (x3 + 2)) < (L : Int)) <|
  bd2 (eX11_cover g (sx xs (w32 (x3 + 1))) (sx xs (w32 (x3 + 2))) m) fun v3 m4 =>
  if z0 = v3 then
    ebL_law_631 L xs x0 x3 g m4
  else
    none
def ebL_law_487 (L : Nat) (xs : Nat → Int32) (x0 x3 z0 : Int) (g : Shp) (m : Mem) : Option (Int × (Int × Shp × Mem)) :=
  ck ((0 : Int) ≤ (w32 (x3 + 1)) ∧ (w32 (x3 + 1)) < (L : Int)) <|
  ck ((0 : Int) ≤ (w32 (x3 + 2)) ∧ (w32 (x3 + 2)) < (L : Int)) <|
  ck ((0 : Int) ≤ (w32 (x3 + 3)) ∧ (w32 (x3 + 3)) < (L : Int)) <|
  ck ((0 : Int) ≤ (w32 (x3 + 4)) ∧ (w32 (x3 + 4)) < (L : Int)) <|
  bd2 (eX11_order g (sx xs (w32 (x3 + 1))) (sx xs (w32 (x3 + 2))) (sx xs (w32 (x3 + 3))) (sx xs (w32 (x3 + 4))) m) fun v5 m6 =>
  if z0 = v5 then
    ebL_law_631 L xs x0 x3 g m6
  else
    none
def ebL_law_18 (L : Nat) (xs : Nat → Int32) (x0 x3 : Int) (g : Shp) (m : Mem) : Option (Int × (Int × Shp × Mem)) :=
  if (w32 (((L : Int)) - 5)) < x3 then
    some (1, (x3, g, m))
  else
    ck ((0 : Int) ≤ x3 ∧ x3 < (L : Int)) <|
    if (bAnd (sx xs x3) 31) = 0 then
      ck ((0 : Int) ≤ (w32 (x3 + 1)) ∧ (w32 (x3 + 1)) < (L : Int)) <|
      bd2 (eX10_write g (sx xs (w32 (x3 + 1))) m) fun v5 m6 =>
      ck ((0 : Int) ≤ (w32 (x3 + 1)) ∧ (w32 (x3 + 1)) < (L : Int)) <|
      bd2 (eX11_write g (sx xs (w32 (x3 + 1))) m6) fun v9 m10 =>
      if v5 = v9 then
        ebL_law_631 L xs x0 x3 g m10
      else
        none
    else
      if (bAnd (sx xs x3) 31) = 1 then
        bd2 (eX10_wipe g m) fun v14 m15 =>
        bd2 (eX11_wipe g m15) fun v17 m18 =>
        if v14 = v17 then
          ebL_law_631 L xs x0 x3 g m18
        else
          none
      else
        if (bAnd (sx xs x3) 31) = 2 then
          bd2 (eX10_fault g m) fun v22 m23 =>
          bd2 (eX11_fault g m23) fun v25 m26 =>
          if v22 = v25 then
            ebL_law_631 L xs x0 x3 g m26
          else
            none
        else
          if (bAnd (sx xs x3) 31) = 3 then
            bd2 (eX10_lay g m) fun v30 m31 =>
            bd2 (eX11_lay g m31) fun v33 m34 =>
            if v30 = v33 then
              ebL_law_631 L xs x0 x3 g m34
            else
              none
          else
            if (bAnd (sx xs x3) 31) = 4 then
              ck ((0 : Int) ≤ (w32 (x3 + 1)) ∧ (w32 (x3 + 1)) < (L : Int)) <|
              bd2 (eX10_joint g (sx xs (w32 (x3 + 1))) m) fun v39 m40 =>
              ck ((0 : Int) ≤ (w32 (x3 + 1)) ∧ (w32 (x3 + 1)) < (L : Int)) <|
              bd2 (eX11_joint g (sx xs (w32 (x3 + 1))) m40) fun v43 m44 =>
              if v39 = v43 then
                ebL_law_631 L xs x0 x3 g m44
              else
                none
            else
              if (bAnd (sx xs x3) 31) = 5 then
                ck ((0 : Int) ≤ (w32 (x3 + 1)) ∧ (w32 (x3 + 1)) < (L : Int)) <|
                ck ((0 : Int) ≤ (w32 (x3 + 2)) ∧ (w32 (x3 + 2)) < (L : Int)) <|
                bd2 (eX10_line g (sx xs (w32 (x3 + 1))) (sx xs (w32 (x3 + 2))) m) fun v50 m51 =>
                ck ((0 : Int) ≤ (w32 (x3 + 1)) ∧ (w32 (x3 + 1)) < (L : Int)) <|
                ck ((0 : Int) ≤ (w32 (x3 + 2)) ∧ (w32 (x3 + 2)) < (L : Int)) <|
                bd2 (eX11_line g (sx xs (w32 (x3 + 1))) (sx xs (w32 (x3 + 2))) m51) fun v55 m56 =>
                if v50 = v55 then
                  ebL_law_631 L xs x0 x3 g m56
                else
                  none
              else
                if (bAnd (sx xs x3) 31) = 6 then
                  ck ((0 : Int) ≤ (w32 (x3 + 1)) ∧ (w32 (x3 + 1)) < (L : Int)) <|
                  ck ((0 : Int) ≤ (w32 (x3 + 2)) ∧ (w32 (x3 + 2)) < (L : Int)) <|
                  bd2 (eX10_cell g (sx xs (w32 (x3 + 1))) (sx xs (w32 (x3 + 2))) m) fun v62 m63 =>
                  ck ((0 : Int) ≤ (w32 (x3 + 1)) ∧ (w32 (x3 + 1)) < (L : Int)) <|
                  ck ((0 : Int) ≤ (w32 (x3 + 2)) ∧ (w32 (x3 + 2)) < (L : Int)) <|
                  bd2 (eX11_cell g (sx xs (w32 (x3 + 1))) (sx xs (w32 (x3 + 2))) m63) fun v67 m68 =>
                  if v62 = v67 then
                    ebL_law_631 L xs x0 x3 g m68
                  else
                    none
                else
                  if (bAnd (sx xs x3) 31) = 7 then
                    ck ((0 : Int) ≤ (w32 (x3 + 1)) ∧ (w32 (x3 + 1)) < (L : Int)) <|
                    ck ((0 : Int) ≤ (w32 (x3 + 2)) ∧ (w32 (x3 + 2)) < (L : Int)) <|
                    bd2 (eX10_whose g (sx xs (w32 (x3 + 1))) (sx xs (w32 (x3 + 2))) m) fun v74 m75 =>
                    ck ((0 : Int) ≤ (w32 (x3 + 1)) ∧ (w32 (x3 + 1)) < (L : Int)) <|
                    ck ((0 : Int) ≤ (w32 (x3 + 2)) ∧ (w32 (x3 + 2)) < (L : Int)) <|
                    bd2 (eX11_whose g (sx xs (w32 (x3 + 1))) (sx xs (w32 (x3 + 2))) m75) fun v79 m80 =>
                    if v74 = v79 then
                      ebL_law_631 L xs x0 x3 g m80
                    else
                      none
                  else
                    if (bAnd (sx xs x3) 31) = 8 then
                      ck ((0 : Int) ≤ (w32 (x3 + 1)) ∧ (w32 (x3 + 1)) < (L : Int)) <|
                      ck ((0 : Int) ≤ (w32 (x3 + 2)) ∧ (w32 (x3 + 2)) < (L : Int)) <|
                      bd2 (eX10_piece g (sx xs (w32 (x3 + 1))) (sx xs (w32 (x3 + 2))) m) fun v86 m87 =>
                      ck ((0 : Int) ≤ (w32 (x3 + 1)) ∧ (w32 (x3 + 1)) < (L : Int)) <|
                      ck ((0 : Int) ≤ (w32 (x3 + 2)) ∧ (w32 (x3 + 2)) < (L : Int)) <|
                      bd2 (eX11_piece g (sx xs (w32 (x3 + 1))) (sx xs (w32 (x3 + 2))) m87) fun v91 m92 =>
                      if v86 = v91 then
                        ebL_law_631 L xs x0 x3 g m92
                      else
                        none
                    else
                      if (bAnd (sx xs x3) 31) = 9 then
                        ck ((0 : Int) ≤ (w32 (x3 + 1)) ∧ (w32 (x3 + 1)) < (L : Int)) <|
                        ck ((0 : Int) ≤ (w32 (x3 + 2)) ∧ (w32 (x3 + 2)) < (L : Int)) <|
                        ck ((0 : Int) ≤ (w32 (x3 + 3)) ∧ (w32 (x3 + 3)) < (L : Int)) <|
                        bd3 (eX10_way (sx xs (w32 (x3 + 1))) (sx xs (w32 (x3 + 2))) (sx xs (w32 (x3 + 3))) g m) fun v99 g100 m101 =>
                        ebL_law_360 L xs x0 x3 v99 g100 m101
                      else
                        if (bAnd (sx xs x3) 31) = 10 then
                          ck ((0 : Int) ≤ (w32 (x3 + 1)) ∧ (w32 (x3 + 1)) < (L : Int)) <|
                          bd3 (eX10_best (sx xs (w32 (x3 + 1))) g m) fun v105 g106 m107 =>
                          ebL_law_393 L xs x0 x3 v105 g106 m107
                        else
                          if (bAnd (sx xs x3) 31) = 11 then
                            ck ((0 : Int) ≤ (w32 (x3 + 1)) ∧ (w32 (x3 + 1)) < (L : Int)) <|
                            ck ((0 : Int) ≤ (w32 (x3 + 2)) ∧ (w32 (x3 + 2)) < (L : Int)) <|
                            bd3 (eX10_cover (sx xs (w32 (x3 + 1))) (sx xs (w32 (x3 + 2))) g m) fun v112 g113 m114 =>
                            ebL_law_421 L xs x0 x3 v112 g113 m114
                          else
                            if (bAnd (sx xs x3) 31) = 12 then
                              ck ((0 : Int) ≤ (w32 (x3 + 1)) ∧ (w32 (x3 + 1)) < (L : Int)) <|
                              bd2 (eX10_takeUp g (sx xs (w32 (x3 + 1))) m) fun v118 m119 =>
                              ck ((0 : Int) ≤ (w32 (x3 + 1)) ∧ (w32 (x3 + 1)) < (L : Int)) <|
                              bd2 (eX11_takeUp g (sx xs (w32 (x3 + 1))) m119) fun v122 m123 =>
                              if v118 = v122 then
                                ebL_law_631 L xs x0 x3 g m123
                              else
                                none
                            else
                              if (bAnd (sx xs x3) 31) = 13 then
                                ck ((0 : Int) ≤ (w32 (x3 + 1)) ∧ (w32 (x3 + 1)) < (L : Int)) <|
                                ck ((0 : Int) ≤ (w32 (x3 + 2)) ∧ (w32 (x3 + 2)) < (L : Int)) <|
                                ck ((0 : Int) ≤ (w32 (x3 + 3)) ∧ (w32 (x3 + 3)) < (L : Int)) <|
                                ck ((0 : Int) ≤ (w32 (x3 + 4)) ∧ (w32 (x3 + 4)) < (L : Int)) <|
                                bd3 (eX10_order (sx xs (w32 (x3 + 1))) (sx xs (w32 (x3 + 2))) (sx xs (w32 (x3 + 3))) (sx xs (w32 (x3 + 4))) g m) fun v131 g132 m133 =>
                                ebL_law_487 L xs x0 x3 v131 g132 m133
                              else
                                if (bAnd (sx xs x3) 31) = 14 then
                                  ck ((0 : Int) ≤ (w32 (x3 + 1)) ∧ (w32 (x3 + 1)) < (L : Int)) <|
                                  ck ((0 : Int) ≤ (w32 (x3 + 2)) ∧ (w32 (x3 + 2)) < (L : Int)) <|
                                  bd2 (eX10_bag g (sx xs (w32 (x3 + 1))) (sx xs (w32 (x3 + 2))) m) fun v138 m139 =>
                                  ck ((0 : Int) ≤ (w32 (x3 + 1)) ∧ (w32 (x3 + 1)) < (L : Int)) <|
                                  ck ((0 : Int) ≤ (w32 (x3 + 2)) ∧ (w32 (x3 + 2)) < (L : Int)) <|
                                  bd2 (eX11_bag g (sx xs (w32 (x3 + 1))) (sx xs (w32 (x3 + 2))) m139) fun v143 m144 =>
                                  if v138 = v143 then
                                    ebL_law_631 L xs x0 x3 g m144
                                  else
                                    none
                                else
                                  if (bAnd (sx xs x3) 31) = 15 then
                                    ck ((0 : Int) ≤ (w32 (x3 + 1)) ∧ (w32 (x3 + 1)) < (L : Int)) <|
                                    bd2 (eX10_fill g (sx xs (w32 (x3 + 1))) m) fun v149 m150 =>
                                    ck ((0 : Int) ≤ (w32 (x3 + 1)) ∧ (w32 (x3 + 1)) < (L : Int)) <|
                                    bd2 (eX11_fill g (sx xs (w32 (x3 + 1))) m150) fun v153 m154 =>
                                    if v149 = v153 then
                                      ebL_law_631 L xs x0 x3 g m154
                                    else
                                      none
                                  else
                                    if (bAnd (sx xs x3) 31) = 16 then
                                      bd2 (eX10_undo g m) fun v158 m159 =>
                                      bd2 (eX11_undo g m159) fun v161 m162 =>
                                      if v158 = v161 then
                                        ebL_law_631 L xs x0 x3 g m162
                                      else
                                        none
                                    else
                                      if (bAnd (sx xs x3) 31) = 17 then
                                        ck ((0 : Int) ≤ (w32 (x3 + 1)) ∧ (w32 (x3 + 1)) < (L : Int)) <|
                                        bd2 (eX10_drawn g (sx xs (w32 (x3 + 1))) m) fun v167 m168 =>
                                        ck ((0 : Int) ≤ (w32 (x3 + 1)) ∧ (w32 (x3 + 1)) < (L : Int)) <|
                                        bd2 (eX11_drawn g (sx xs (w32 (x3 + 1))) m168) fun v171 m172 =>
                                        if v167 = v171 then
                                          ebL_law_631 L xs x0 x3 g m172
                                        else
                                          none
                                      else
                                        if (bAnd (sx xs x3) 31) = 18 then
                                          ck ((0 : Int) ≤ (w32 (x3 + 1)) ∧ (w32 (x3 + 1)) < (L : Int)) <|
                                          bd2 (eX10_count g (sx xs (w32 (x3 + 1))) m) fun v177 m178 =>
                                          ck ((0 : Int) ≤ (w32 (x3 + 1)) ∧ (w32 (x3 + 1)) < (L : Int)) <|
                                          bd2 (eX11_count g (sx xs (w32 (x3 + 1))) m178) fun v181 m182 =>
                                          if v177 = v181 then
                                            ebL_law_631 L xs x0 x3 g m182
                                          else
                                            none
                                        else
                                          ebL_law_631 L xs x0 x3 g m
def eBL_law_18 (L : Nat) (xs : Nat → Int32) (x0 : Int) (q : (Int × Shp × Mem)) : Option (Int × (Int × Shp × Mem)) := ebL_law_18 L xs x0 q.1 q.2.1 q.2.2
set_option maxRecDepth 20000 in
theorem qL_law_631 {L : Nat} {xs : Nat → Int32} {g : Shp} {m : Mem} {x0 x3 : Int} (h : Sh g m) (hg : gOk g)  : bL_law_631 L xs x0 1 241 x3 g m = ebL_law_631 L xs x0 x3 g m := by
  unfold bL_law_631 ebL_law_631
  refine vv_c (fun y1 ey1 => ?_)
  rfl
theorem nL_law_631 {L : Nat} {xs : Nat → Int32} {g : Shp} {m : Mem} {x0 x3 : Int} (h : Sh g m) (hg : gOk g)  {c1 : Int} {s1 : (Int × Shp × Mem)} (hF : ebL_law_631 L xs x0 x3 g m = some (c1, s1)) : (Sh s1.2.1 s1.2.2 ∧ gOk s1.2.1) ∧ gX g s1.2.1 := by
  unfold ebL_law_631 at hF
  obtain ⟨y1, ey1, hF⟩ := vv_ok hF
  cases hF
  exact ⟨⟨h, hg⟩, gX.rf _⟩
set_option maxRecDepth 20000 in
theorem qL_law_360 {L : Nat} {xs : Nat → Int32} {g : Shp} {m : Mem} {x0 x3 z0 : Int} (h : Sh g m) (hg : gOk g)  : bL_law_360 L xs x0 1 241 x3 z0 g m = ebL_law_360 L xs x0 x3 z0 g m := by
  unfold bL_law_360 ebL_law_360
  refine ck_c (fun i1 => ?_)
  refine ck_c (fun i2 => ?_)
  refine ck_c (fun i3 => ?_)
  refine bd2_q (qX11_way h ) (fun v4 m5 h6 => ?_)
  have hm5 := nX11_way h  ((qX11_way h ).symm.trans h6)
  refine if_c (fun hc7 => ?_) (fun hc7 => ?_)
  · exact qL_law_631 hm5 hg
  · rfl
theorem nL_law_360 {L : Nat} {xs : Nat → Int32} {g : Shp} {m : Mem} {x0 x3 z0 : Int} (h : Sh g m) (hg : gOk g)  {c1 : Int} {s1 : (Int × Shp × Mem)} (hF : ebL_law_360 L xs x0 x3 z0 g m = some (c1, s1)) : (Sh s1.2.1 s1.2.2 ∧ gOk s1.2.1) ∧ gX g s1.2.1 := by
  unfold ebL_law_360 at hF
  obtain ⟨i1, hF⟩ := ck_ok hF
  obtain ⟨i2, hF⟩ := ck_ok hF
  obtain ⟨i3, hF⟩ := ck_ok hF
  obtain ⟨v4, m5, h6, hF⟩ := bd2_ok hF
  have hm5 := nX11_way h  h6
  rcases if_ok hF with ⟨hc7, hF⟩ | ⟨hc7, hF⟩
  · exact nL_law_631 hm5 hg  hF
  · exact absurd hF (by simp)
set_option maxRecDepth 20000 in
theorem qL_law_393 {L : Nat} {xs : Nat → Int32} {g : Shp} {m : Mem} {x0 x3 z0 : Int} (h : Sh g m) (hg : gOk g)  : bL_law_393 L xs x0 1 241 x3 z0 g m = ebL_law_393 L xs x0 x3 z0 g m := by
  unfold bL_law_393 ebL_law_393
  refine ck_c (fun i1 => ?_)
  refine bd2_q (qX11_best h ) (fun v2 m3 h4 => ?_)
  have hm3 := nX11_best h  ((qX11_best h ).symm.trans h4)
  refine if_c (fun hc5 => ?_) (fun hc5 => ?_)
  · exact qL_law_631 hm3 hg
  · rfl
theorem nL_law_393 {L : Nat} {xs : Nat → Int32} {g : Shp} {m : Mem} {x0 x3 z0 : Int} (h : Sh g m) (hg : gOk g)  {c1 : Int} {s1 : (Int × Shp × Mem)} (hF : ebL_law_393 L xs x0 x3 z0 g m = some (c1, s1)) : (Sh s1.2.1 s1.2.2 ∧ gOk s1.2.1) ∧ gX g s1.2.1 := by
  unfold ebL_law_393 at hF
  obtain ⟨i1, hF⟩ := ck_ok hF
  obtain ⟨v2, m3, h4, hF⟩ := bd2_ok hF
  have hm3 := nX11_best h  h4
  rcases if_ok hF with ⟨hc5, hF⟩ | ⟨hc5, hF⟩
  · exact nL_law_631 hm3 hg  hF
  · exact absurd hF (by simp)
set_option maxRecDepth 20000 in
theorem qL_law_421 {L : Nat} {xs : Nat → Int32} {g : Shp} {m : Mem} {x0 x3 z0 : Int} (h : Sh g m) (hg : gOk g)  : bL_law_421 L xs x0 1 241 x3 z0 g m = ebL_law_421 L xs x0 x3 z0 g m := by
  unfold bL_law_421 ebL_law_421
  refine ck_c (fun i1 => ?_)
  refine ck_c (fun i2 => ?_)
  refine bd2_q (qX11_cover h ) (fun v3 m4 h5 => ?_)
  have hm4 := nX11_cover h  ((qX11_cover h ).symm.trans h5)
  refine if_c (fun hc6 => ?_) (fun hc6 => ?_)
  · exact qL_law_631 hm4 hg
  · rfl
theorem nL_law_421 {L : Nat} {xs : Nat → Int32} {g : Shp} {m : Mem} {x0 x3 z0 : Int} (h : Sh g m) (hg : gOk g)  {c1 : Int} {s1 : (Int × Shp × Mem)} (hF : ebL_law_421 L xs x0 x3 z0 g m = some (c1, s1)) : (Sh s1.2.1 s1.2.2 ∧ gOk s1.2.1) ∧ gX g s1.2.1 := by
  unfold ebL_law_421 at hF
  obtain ⟨i1, hF⟩ := ck_ok hF
  obtain ⟨i2, hF⟩ := ck_ok hF
  obtain ⟨v3, m4, h5, hF⟩ := bd2_ok hF
  have hm4 := nX11_cover h  h5
  rcases if_ok hF with ⟨hc6, hF⟩ | ⟨hc6, hF⟩
  · exact nL_law_631 hm4 hg  hF
  · exact absurd hF (by simp)
set_option maxRecDepth 20000 in
theorem qL_law_487 {L : Nat} {xs : Nat → Int32} {g : Shp} {m : Mem} {x0 x3 z0 : Int} (h : Sh g m) (hg : gOk g)  : bL_law_487 L xs x0 1 241 x3 z0 g m = ebL_law_487 L xs x0 x3 z0 g m := by
  unfold bL_law_487 ebL_law_487
  refine ck_c (fun i1 => ?_)
  refine ck_c (fun i2 => ?_)
  refine ck_c (fun i3 => ?_)
  refine ck_c (fun i4 => ?_)
  refine bd2_q (qX11_order h ) (fun v5 m6 h7 => ?_)
  have hm6 := nX11_order h  ((qX11_order h ).symm.trans h7)
  refine if_c (fun hc8 => ?_) (fun hc8 => ?_)
  · exact qL_law_631 hm6 hg
  · rfl
theorem nL_law_487 {L : Nat} {xs : Nat → Int32} {g : Shp} {m : Mem} {x0 x3 z0 : Int} (h : Sh g m) (hg : gOk g)  {c1 : Int} {s1 : (Int × Shp × Mem)} (hF : ebL_law_487 L xs x0 x3 z0 g m = some (c1, s1)) : (Sh s1.2.1 s1.2.2 ∧ gOk s1.2.1) ∧ gX g s1.2.1 := by
  unfold ebL_law_487 at hF
  obtain ⟨i1, hF⟩ := ck_ok hF
  obtain ⟨i2, hF⟩ := ck_ok hF
  obtain ⟨i3, hF⟩ := ck_ok hF
  obtain ⟨i4, hF⟩ := ck_ok hF
  obtain ⟨v5, m6, h7, hF⟩ := bd2_ok hF
  have hm6 := nX11_order h  h7
  rcases if_ok hF with ⟨hc8, hF⟩ | ⟨hc8, hF⟩
  · exact nL_law_631 hm6 hg  hF
  · exact absurd hF (by simp)
set_option maxRecDepth 20000 in
theorem qL_law_18 {L : Nat} {xs : Nat → Int32} {g : Shp} {m : Mem} {x0 x3 : Int} (h : Sh g m) (hg : gOk g)  : bL_law_18 L xs x0 1 241 x3 g m = ebL_law_18 L xs x0 x3 g m := by
  unfold bL_law_18 ebL_law_18
  refine if_c (fun hc1 => ?_) (fun hc1 => ?_)
  · rfl
  · refine ck_c (fun i2 => ?_)
    refine if_c (fun hc3 => ?_) (fun hc3 => ?_)
    · refine ck_c (fun i4 => ?_)
      refine bd2_q (qX10_write h ) (fun v5 m6 h7 => ?_)
      have hm6 := nX10_write h  ((qX10_write h ).symm.trans h7)
      refine ck_c (fun i8 => ?_)
      refine bd2_q (qX11_write hm6 ) (fun v9 m10 h11 => ?_)
      have hm10 := nX11_write hm6  ((qX11_write hm6 ).symm.trans h11)
      refine if_c (fun hc12 => ?_) (fun hc12 => ?_)
      · exact qL_law_631 hm10 hg
      · rfl
    · refine if_c (fun hc13 => ?_) (fun hc13 => ?_)
      · refine bd2_q (qX10_wipe h ) (fun v14 m15 h16 => ?_)
        have hm15 := nX10_wipe h  ((qX10_wipe h ).symm.trans h16)
        refine bd2_q (qX11_wipe hm15 ) (fun v17 m18 h19 => ?_)
        have hm18 := nX11_wipe hm15  ((qX11_wipe hm15 ).symm.trans h19)
        refine if_c (fun hc20 => ?_) (fun hc20 => ?_)
        · exact qL_law_631 hm18 hg
        · rfl
      · refine if_c (fun hc21 => ?_) (fun hc21 => ?_)
        · refine bd2_q (qX10_fault h ) (fun v22 m23 h24 => ?_)
          have hm23 := nX10_fault h  ((qX10_fault h ).symm.trans h24)
          refine bd2_q (qX11_fault hm23 ) (fun v25 m26 h27 => ?_)
          have hm26 := nX11_fault hm23  ((qX11_fault hm23 ).symm.trans h27)
          refine if_c (fun hc28 => ?_) (fun hc28 => ?_)
          · exact qL_law_631 hm26 hg
          · rfl
        · refine if_c (fun hc29 => ?_) (fun hc29 => ?_)
          · refine bd2_q (qX10_lay h ) (fun v30 m31 h32 => ?_)
            have hm31 := nX10_lay h  ((qX10_lay h ).symm.trans h32)
            refine bd2_q (qX11_lay hm31 ) (fun v33 m34 h35 => ?_)
            have hm34 := nX11_lay hm31  ((qX11_lay hm31 ).symm.trans h35)
            refine if_c (fun hc36 => ?_) (fun hc36 => ?_)
            · exact qL_law_631 hm34 hg
            · rfl
          · refine if_c (fun hc37 => ?_) (fun hc37 => ?_)
            · refine ck_c (fun i38 => ?_)
              refine bd2_q (qX10_joint h ) (fun v39 m40 h41 => ?_)
              have hm40 := nX10_joint h  ((qX10_joint h ).symm.trans h41)
              refine ck_c (fun i42 => ?_)
              refine bd2_q (qX11_joint hm40 ) (fun v43 m44 h45 => ?_)
              have hm44 := nX11_joint hm40  ((qX11_joint hm40 ).symm.trans h45)
              refine if_c (fun hc46 => ?_) (fun hc46 => ?_)
              · exact qL_law_631 hm44 hg
              · rfl
            · refine if_c (fun hc47 => ?_) (fun hc47 => ?_)
              · refine ck_c (fun i48 => ?_)
                refine ck_c (fun i49 => ?_)
                refine bd2_q (qX10_line h ) (fun v50 m51 h52 => ?_)
                have hm51 := nX10_line h  ((qX10_line h ).symm.trans h52)
                refine ck_c (fun i53 => ?_)
                refine ck_c (fun i54 => ?_)
                refine bd2_q (qX11_line hm51 ) (fun v55 m56 h57 => ?_)
                have hm56 := nX11_line hm51  ((qX11_line hm51 ).symm.trans h57)
                refine if_c (fun hc58 => ?_) (fun hc58 => ?_)
                · exact qL_law_631 hm56 hg
                · rfl
              · refine if_c (fun hc59 => ?_) (fun hc59 => ?_)
                · refine ck_c (fun i60 => ?_)
                  refine ck_c (fun i61 => ?_)
                  refine bd2_q (qX10_cell h ) (fun v62 m63 h64 => ?_)
                  have hm63 := nX10_cell h  ((qX10_cell h ).symm.trans h64)
                  refine ck_c (fun i65 => ?_)
                  refine ck_c (fun i66 => ?_)
                  refine bd2_q (qX11_cell hm63 ) (fun v67 m68 h69 => ?_)
                  have hm68 := nX11_cell hm63  ((qX11_cell hm63 ).symm.trans h69)
                  refine if_c (fun hc70 => ?_) (fun hc70 => ?_)
                  · exact qL_law_631 hm68 hg
                  · rfl
                · refine if_c (fun hc71 => ?_) (fun hc71 => ?_)
                  · refine ck_c (fun i72 => ?_)
                    refine ck_c (fun i73 => ?_)
                    refine bd2_q (qX10_whose h ) (fun v74 m75 h76 => ?_)
                    have hm75 := nX10_whose h  ((qX10_whose h ).symm.trans h76)
                    refine ck_c (fun i77 => ?_)
                    refine ck_c (fun i78 => ?_)
                    refine bd2_q (qX11_whose hm75 ) (fun v79 m80 h81 => ?_)
                    have hm80 := nX11_whose hm75  ((qX11_whose hm75 ).symm.trans h81)
                    refine if_c (fun hc82 => ?_) (fun hc82 => ?_)
                    · exact qL_law_631 hm80 hg
                    · rfl
                  · refine if_c (fun hc83 => ?_) (fun hc83 => ?_)
                    · refine ck_c (fun i84 => ?_)
                      refine ck_c (fun i85 => ?_)
                      refine bd2_q (qX10_piece h ) (fun v86 m87 h88 => ?_)
                      have hm87 := nX10_piece h  ((qX10_piece h ).symm.trans h88)
                      refine ck_c (fun i89 => ?_)
                      refine ck_c (fun i90 => ?_)
                      refine bd2_q (qX11_piece hm87 ) (fun v91 m92 h93 => ?_)
                      have hm92 := nX11_piece hm87  ((qX11_piece hm87 ).symm.trans h93)
                      refine if_c (fun hc94 => ?_) (fun hc94 => ?_)
                      · exact qL_law_631 hm92 hg
                      · rfl
                    · refine if_c (fun hc95 => ?_) (fun hc95 => ?_)
                      · refine ck_c (fun i96 => ?_)
                        refine ck_c (fun i97 => ?_)
                        refine ck_c (fun i98 => ?_)
                        refine bd3_q (qX10_way h hg ) (fun v99 g100 m101 h102 => ?_)
                        have hm101 := nX10_way h hg  ((qX10_way h hg ).symm.trans h102)
                        exact qL_law_360 hm101.1.1 hm101.1.2 
                      · refine if_c (fun hc103 => ?_) (fun hc103 => ?_)
                        · refine ck_c (fun i104 => ?_)
                          refine bd3_q (qX10_best h hg ) (fun v105 g106 m107 h108 => ?_)
                          have hm107 := nX10_best h hg  ((qX10_best h hg ).symm.trans h108)
                          exact qL_law_393 hm107.1.1 hm107.1.2 
                        · refine if_c (fun hc109 => ?_) (fun hc109 => ?_)
                          · refine ck_c (fun i110 => ?_)
                            refine ck_c (fun i111 => ?_)
                            refine bd3_q (qX10_cover h hg ) (fun v112 g113 m114 h115 => ?_)
                            have hm114 := nX10_cover h hg  ((qX10_cover h hg ).symm.trans h115)
                            exact qL_law_421 hm114.1.1 hm114.1.2 
                          · refine if_c (fun hc116 => ?_) (fun hc116 => ?_)
                            · refine ck_c (fun i117 => ?_)
                              refine bd2_q (qX10_takeUp h ) (fun v118 m119 h120 => ?_)
                              have hm119 := nX10_takeUp h  ((qX10_takeUp h ).symm.trans h120)
                              refine ck_c (fun i121 => ?_)
                              refine bd2_q (qX11_takeUp hm119 ) (fun v122 m123 h124 => ?_)
                              have hm123 := nX11_takeUp hm119  ((qX11_takeUp hm119 ).symm.trans h124)
                              refine if_c (fun hc125 => ?_) (fun hc125 => ?_)
                              · exact qL_law_631 hm123 hg
                              · rfl
                            · refine if_c (fun hc126 => ?_) (fun hc126 => ?_)
                              · refine ck_c (fun i127 => ?_)
                                refine ck_c (fun i128 => ?_)
                                refine ck_c (fun i129 => ?_)
                                refine ck_c (fun i130 => ?_)
                                refine bd3_q (qX10_order h hg ) (fun v131 g132 m133 h134 => ?_)
                                have hm133 := nX10_order h hg  ((qX10_order h hg ).symm.trans h134)
                                exact qL_law_487 hm133.1.1 hm133.1.2 
                              · refine if_c (fun hc135 => ?_) (fun hc135 => ?_)
                                · refine ck_c (fun i136 => ?_)
                                  refine ck_c (fun i137 => ?_)
                                  refine bd2_q (qX10_bag h ) (fun v138 m139 h140 => ?_)
                                  have hm139 := nX10_bag h  ((qX10_bag h ).symm.trans h140)
                                  refine ck_c (fun i141 => ?_)
                                  refine ck_c (fun i142 => ?_)
                                  refine bd2_q (qX11_bag hm139 ) (fun v143 m144 h145 => ?_)
                                  have hm144 := nX11_bag hm139  ((qX11_bag hm139 ).symm.trans h145)
                                  refine if_c (fun hc146 => ?_) (fun hc146 => ?_)
                                  · exact qL_law_631 hm144 hg
                                  · rfl
                                · refine if_c (fun hc147 => ?_) (fun hc147 => ?_)
                                  · refine ck_c (fun i148 => ?_)
                                    refine bd2_q (qX10_fill h ) (fun v149 m150 h151 => ?_)
                                    have hm150 := nX10_fill h  ((qX10_fill h ).symm.trans h151)
                                    refine ck_c (fun i152 => ?_)
                                    refine bd2_q (qX11_fill hm150 ) (fun v153 m154 h155 => ?_)
                                    have hm154 := nX11_fill hm150  ((qX11_fill hm150 ).symm.trans h155)
                                    refine if_c (fun hc156 => ?_) (fun hc156 => ?_)
                                    · exact qL_law_631 hm154 hg
                                    · rfl
                                  · refine if_c (fun hc157 => ?_) (fun hc157 => ?_)
                                    · refine bd2_q (qX10_undo h ) (fun v158 m159 h160 => ?_)
                                      have hm159 := nX10_undo h  ((qX10_undo h ).symm.trans h160)
                                      refine bd2_q (qX11_undo hm159 ) (fun v161 m162 h163 => ?_)
                                      have hm162 := nX11_undo hm159  ((qX11_undo hm159 ).symm.trans h163)
                                      refine if_c (fun hc164 => ?_) (fun hc164 => ?_)
                                      · exact qL_law_631 hm162 hg
                                      · rfl
                                    · refine if_c (fun hc165 => ?_) (fun hc165 => ?_)
                                      · refine ck_c (fun i166 => ?_)
                                        refine bd2_q (qX10_drawn h ) (fun v167 m168 h169 => ?_)
                                        have hm168 := nX10_drawn h  ((qX10_drawn h ).symm.trans h169)
                                        refine ck_c (fun i170 => ?_)
                                        refine bd2_q (qX11_drawn hm168 ) (fun v171 m172 h173 => ?_)
                                        have hm172 := nX11_drawn hm168  ((qX11_drawn hm168 ).symm.trans h173)
                                        refine if_c (fun hc174 => ?_) (fun hc174 => ?_)
                                        · exact qL_law_631 hm172 hg
                                        · rfl
                                      · refine if_c (fun hc175 => ?_) (fun hc175 => ?_)
                                        · refine ck_c (fun i176 => ?_)
                                          refine bd2_q (qX10_count h ) (fun v177 m178 h179 => ?_)
                                          have hm178 := nX10_count h  ((qX10_count h ).symm.trans h179)
                                          refine ck_c (fun i180 => ?_)
                                          refine bd2_q (qX11_count hm178 ) (fun v181 m182 h183 => ?_)
                                          have hm182 := nX11_count hm178  ((qX11_count hm178 ).symm.trans h183)
                                          refine if_c (fun hc184 => ?_) (fun hc184 => ?_)
                                          · exact qL_law_631 hm182 hg
                                          · rfl
                                        · exact qL_law_631 h hg
theorem nL_law_18 {L : Nat} {xs : Nat → Int32} {g : Shp} {m : Mem} {x0 x3 : Int} (h : Sh g m) (hg : gOk g)  {c1 : Int} {s1 : (Int × Shp × Mem)} (hF : ebL_law_18 L xs x0 x3 g m = some (c1, s1)) : (Sh s1.2.1 s1.2.2 ∧ gOk s1.2.1) ∧ gX g s1.2.1 := by
  unfold ebL_law_18 at hF
  rcases if_ok hF with ⟨hc1, hF⟩ | ⟨hc1, hF⟩
  · cases hF
    exact ⟨⟨h, hg⟩, gX.rf _⟩
  · obtain ⟨i2, hF⟩ := ck_ok hF
    rcases if_ok hF with ⟨hc3, hF⟩ | ⟨hc3, hF⟩
    · obtain ⟨i4, hF⟩ := ck_ok hF
      obtain ⟨v5, m6, h7, hF⟩ := bd2_ok hF
      have hm6 := nX10_write h  h7
      obtain ⟨i8, hF⟩ := ck_ok hF
      obtain ⟨v9, m10, h11, hF⟩ := bd2_ok hF
      have hm10 := nX11_write hm6  h11
      rcases if_ok hF with ⟨hc12, hF⟩ | ⟨hc12, hF⟩
      · exact nL_law_631 hm10 hg  hF
      · exact absurd hF (by simp)
    · rcases if_ok hF with ⟨hc13, hF⟩ | ⟨hc13, hF⟩
      · obtain ⟨v14, m15, h16, hF⟩ := bd2_ok hF
        have hm15 := nX10_wipe h  h16
        obtain ⟨v17, m18, h19, hF⟩ := bd2_ok hF
        have hm18 := nX11_wipe hm15  h19
        rcases if_ok hF with ⟨hc20, hF⟩ | ⟨hc20, hF⟩
        · exact nL_law_631 hm18 hg  hF
        · exact absurd hF (by simp)
      · rcases if_ok hF with ⟨hc21, hF⟩ | ⟨hc21, hF⟩
        · obtain ⟨v22, m23, h24, hF⟩ := bd2_ok hF
          have hm23 := nX10_fault h  h24
          obtain ⟨v25, m26, h27, hF⟩ := bd2_ok hF
          have hm26 := nX11_fault hm23  h27
          rcases if_ok hF with ⟨hc28, hF⟩ | ⟨hc28, hF⟩
          · exact nL_law_631 hm26 hg  hF
          · exact absurd hF (by simp)
        · rcases if_ok hF with ⟨hc29, hF⟩ | ⟨hc29, hF⟩
          · obtain ⟨v30, m31, h32, hF⟩ := bd2_ok hF
            have hm31 := nX10_lay h  h32
            obtain ⟨v33, m34, h35, hF⟩ := bd2_ok hF
            have hm34 := nX11_lay hm31  h35
            rcases if_ok hF with ⟨hc36, hF⟩ | ⟨hc36, hF⟩
            · exact nL_law_631 hm34 hg  hF
            · exact absurd hF (by simp)
          · rcases if_ok hF with ⟨hc37, hF⟩ | ⟨hc37, hF⟩
            · obtain ⟨i38, hF⟩ := ck_ok hF
              obtain ⟨v39, m40, h41, hF⟩ := bd2_ok hF
              have hm40 := nX10_joint h  h41
              obtain ⟨i42, hF⟩ := ck_ok hF
              obtain ⟨v43, m44, h45, hF⟩ := bd2_ok hF
              have hm44 := nX11_joint hm40  h45
              rcases if_ok hF with ⟨hc46, hF⟩ | ⟨hc46, hF⟩
              · exact nL_law_631 hm44 hg  hF
              · exact absurd hF (by simp)
            · rcases if_ok hF with ⟨hc47, hF⟩ | ⟨hc47, hF⟩
              · obtain ⟨i48, hF⟩ := ck_ok hF
                obtain ⟨i49, hF⟩ := ck_ok hF
                obtain ⟨v50, m51, h52, hF⟩ := bd2_ok hF
                have hm51 := nX10_line h  h52
                obtain ⟨i53, hF⟩ := ck_ok hF
                obtain ⟨i54, hF⟩ := ck_ok hF
                obtain ⟨v55, m56, h57, hF⟩ := bd2_ok hF
                have hm56 := nX11_line hm51  h57
                rcases if_ok hF with ⟨hc58, hF⟩ | ⟨hc58, hF⟩
                · exact nL_law_631 hm56 hg  hF
                · exact absurd hF (by simp)
              · rcases if_ok hF with ⟨hc59, hF⟩ | ⟨hc59, hF⟩
                · obtain ⟨i60, hF⟩ := ck_ok hF
                  obtain ⟨i61, hF⟩ := ck_ok hF
                  obtain ⟨v62, m63, h64, hF⟩ := bd2_ok hF
                  have hm63 := nX10_cell h  h64
                  obtain ⟨i65, hF⟩ := ck_ok hF
                  obtain ⟨i66, hF⟩ := ck_ok hF
                  obtain ⟨v67, m68, h69, hF⟩ := bd2_ok hF
                  have hm68 := nX11_cell hm63  h69
                  rcases if_ok hF with ⟨hc70, hF⟩ | ⟨hc70, hF⟩
                  · exact nL_law_631 hm68 hg  hF
                  · exact absurd hF (by simp)
                · rcases if_ok hF with ⟨hc71, hF⟩ | ⟨hc71, hF⟩
                  · obtain ⟨i72, hF⟩ := ck_ok hF
                    obtain ⟨i73, hF⟩ := ck_ok hF
                    obtain ⟨v74, m75, h76, hF⟩ := bd2_ok hF
                    have hm75 := nX10_whose h  h76
                    obtain ⟨i77, hF⟩ := ck_ok hF
                    obtain ⟨i78, hF⟩ := ck_ok hF
                    obtain ⟨v79, m80, h81, hF⟩ := bd2_ok hF
                    have hm80 := nX11_whose hm75  h81
                    rcases if_ok hF with ⟨hc82, hF⟩ | ⟨hc82, hF⟩
                    · exact nL_law_631 hm80 hg  hF
                    · exact absurd hF (by simp)
                  · rcases if_ok hF with ⟨hc83, hF⟩ | ⟨hc83, hF⟩
                    · obtain ⟨i84, hF⟩ := ck_ok hF
                      obtain ⟨i85, hF⟩ := ck_ok hF
                      obtain ⟨v86, m87, h88, hF⟩ := bd2_ok hF
                      have hm87 := nX10_piece h  h88
                      obtain ⟨i89, hF⟩ := ck_ok hF
                      obtain ⟨i90, hF⟩ := ck_ok hF
                      obtain ⟨v91, m92, h93, hF⟩ := bd2_ok hF
                      have hm92 := nX11_piece hm87  h93
                      rcases if_ok hF with ⟨hc94, hF⟩ | ⟨hc94, hF⟩
                      · exact nL_law_631 hm92 hg  hF
                      · exact absurd hF (by simp)
                    · rcases if_ok hF with ⟨hc95, hF⟩ | ⟨hc95, hF⟩
                      · obtain ⟨i96, hF⟩ := ck_ok hF
                        obtain ⟨i97, hF⟩ := ck_ok hF
                        obtain ⟨i98, hF⟩ := ck_ok hF
                        obtain ⟨v99, g100, m101, h102, hF⟩ := bd3_ok hF
                        have hm101 := nX10_way h hg  h102
                        exact ⟨(nL_law_360 hm101.1.1 hm101.1.2  hF).1, hm101.2.tr (nL_law_360 hm101.1.1 hm101.1.2  hF).2⟩
                      · rcases if_ok hF with ⟨hc103, hF⟩ | ⟨hc103, hF⟩
                        · obtain ⟨i104, hF⟩ := ck_ok hF
                          obtain ⟨v105, g106, m107, h108, hF⟩ := bd3_ok hF
                          have hm107 := nX10_best h hg  h108
                          exact ⟨(nL_law_393 hm107.1.1 hm107.1.2  hF).1, hm107.2.tr (nL_law_393 hm107.1.1 hm107.1.2  hF).2⟩
                        · rcases if_ok hF with ⟨hc109, hF⟩ | ⟨hc109, hF⟩
                          · obtain ⟨i110, hF⟩ := ck_ok hF
                            obtain ⟨i111, hF⟩ := ck_ok hF
                            obtain ⟨v112, g113, m114, h115, hF⟩ := bd3_ok hF
                            have hm114 := nX10_cover h hg  h115
                            exact ⟨(nL_law_421 hm114.1.1 hm114.1.2  hF).1, hm114.2.tr (nL_law_421 hm114.1.1 hm114.1.2  hF).2⟩
                          · rcases if_ok hF with ⟨hc116, hF⟩ | ⟨hc116, hF⟩
                            · obtain ⟨i117, hF⟩ := ck_ok hF
                              obtain ⟨v118, m119, h120, hF⟩ := bd2_ok hF
                              have hm119 := nX10_takeUp h  h120
                              obtain ⟨i121, hF⟩ := ck_ok hF
                              obtain ⟨v122, m123, h124, hF⟩ := bd2_ok hF
                              have hm123 := nX11_takeUp hm119  h124
                              rcases if_ok hF with ⟨hc125, hF⟩ | ⟨hc125, hF⟩
                              · exact nL_law_631 hm123 hg  hF
                              · exact absurd hF (by simp)
                            · rcases if_ok hF with ⟨hc126, hF⟩ | ⟨hc126, hF⟩
                              · obtain ⟨i127, hF⟩ := ck_ok hF
                                obtain ⟨i128, hF⟩ := ck_ok hF
                                obtain ⟨i129, hF⟩ := ck_ok hF
                                obtain ⟨i130, hF⟩ := ck_ok hF
                                obtain ⟨v131, g132, m133, h134, hF⟩ := bd3_ok hF
                                have hm133 := nX10_order h hg  h134
                                exact ⟨(nL_law_487 hm133.1.1 hm133.1.2  hF).1, hm133.2.tr (nL_law_487 hm133.1.1 hm133.1.2  hF).2⟩
                              · rcases if_ok hF with ⟨hc135, hF⟩ | ⟨hc135, hF⟩
                                · obtain ⟨i136, hF⟩ := ck_ok hF
                                  obtain ⟨i137, hF⟩ := ck_ok hF
                                  obtain ⟨v138, m139, h140, hF⟩ := bd2_ok hF
                                  have hm139 := nX10_bag h  h140
                                  obtain ⟨i141, hF⟩ := ck_ok hF
                                  obtain ⟨i142, hF⟩ := ck_ok hF
                                  obtain ⟨v143, m144, h145, hF⟩ := bd2_ok hF
                                  have hm144 := nX11_bag hm139  h145
                                  rcases if_ok hF with ⟨hc146, hF⟩ | ⟨hc146, hF⟩
                                  · exact nL_law_631 hm144 hg  hF
                                  · exact absurd hF (by simp)
                                · rcases if_ok hF with ⟨hc147, hF⟩ | ⟨hc147, hF⟩
                                  · obtain ⟨i148, hF⟩ := ck_ok hF
                                    obtain ⟨v149, m150, h151, hF⟩ := bd2_ok hF
                                    have hm150 := nX10_fill h  h151
                                    obtain ⟨i152, hF⟩ := ck_ok hF
                                    obtain ⟨v153, m154, h155, hF⟩ := bd2_ok hF
                                    have hm154 := nX11_fill hm150  h155
                                    rcases if_ok hF with ⟨hc156, hF⟩ | ⟨hc156, hF⟩
                                    · exact nL_law_631 hm154 hg  hF
                                    · exact absurd hF (by simp)
                                  · rcases if_ok hF with ⟨hc157, hF⟩ | ⟨hc157, hF⟩
                                    · obtain ⟨v158, m159, h160, hF⟩ := bd2_ok hF
                                      have hm159 := nX10_undo h  h160
                                      obtain ⟨v161, m162, h163, hF⟩ := bd2_ok hF
                                      have hm162 := nX11_undo hm159  h163
                                      rcases if_ok hF with ⟨hc164, hF⟩ | ⟨hc164, hF⟩
                                      · exact nL_law_631 hm162 hg  hF
                                      · exact absurd hF (by simp)
                                    · rcases if_ok hF with ⟨hc165, hF⟩ | ⟨hc165, hF⟩
                                      · obtain ⟨i166, hF⟩ := ck_ok hF
                                        obtain ⟨v167, m168, h169, hF⟩ := bd2_ok hF
                                        have hm168 := nX10_drawn h  h169
                                        obtain ⟨i170, hF⟩ := ck_ok hF
                                        obtain ⟨v171, m172, h173, hF⟩ := bd2_ok hF
                                        have hm172 := nX11_drawn hm168  h173
                                        rcases if_ok hF with ⟨hc174, hF⟩ | ⟨hc174, hF⟩
                                        · exact nL_law_631 hm172 hg  hF
                                        · exact absurd hF (by simp)
                                      · rcases if_ok hF with ⟨hc175, hF⟩ | ⟨hc175, hF⟩
                                        · obtain ⟨i176, hF⟩ := ck_ok hF
                                          obtain ⟨v177, m178, h179, hF⟩ := bd2_ok hF
                                          have hm178 := nX10_count h  h179
                                          obtain ⟨i180, hF⟩ := ck_ok hF
                                          obtain ⟨v181, m182, h183, hF⟩ := bd2_ok hF
                                          have hm182 := nX11_count hm178  h183
                                          rcases if_ok hF with ⟨hc184, hF⟩ | ⟨hc184, hF⟩
                                          · exact nL_law_631 hm182 hg  hF
                                          · exact absurd hF (by simp)
                                        · exact nL_law_631 h hg  hF
theorem nlL_law_18 {L : Nat} {xs : Nat → Int32} {x0 : Int} {n : Nat} {s0 s1 : (Int × Shp × Mem)} {c1 : Int}  (h : Sh s0.2.1 s0.2.2) (hg : gOk s0.2.1) (hI : iter (eBL_law_18 L xs x0) n s0 = some (c1, s1)) : (Sh s1.2.1 s1.2.2 ∧ gOk s1.2.1) ∧ gX s0.2.1 s1.2.1 :=
  iter_inv (B := eBL_law_18 L xs x0) (fun q => (Sh q.2.1 q.2.2 ∧ gOk q.2.1) ∧ gX s0.2.1 q.2.1) (fun s c s' hs hB => by
    have h2 := nL_law_18 hs.1.1 hs.1.2  hB
    exact ⟨h2.1, hs.2.tr h2.2⟩) n s0 c1 s1 ⟨⟨h, hg⟩, gX.rf _⟩ hI
theorem qlL_law_18 {L : Nat} {xs : Nat → Int32} {x0 : Int} {n : Nat} {s0 : (Int × Shp × Mem)}  (h : Sh s0.2.1 s0.2.2) (hg : gOk s0.2.1) : iter (BL_law_18 L xs x0 1 241) n s0 = iter (eBL_law_18 L xs x0) n s0 :=
  iter_eq (B := BL_law_18 L xs x0 1 241) (E := eBL_law_18 L xs x0) (fun q => (Sh q.2.1 q.2.2 ∧ gOk q.2.1) ∧ gX s0.2.1 q.2.1) (fun s hs => qL_law_18 hs.1.1 hs.1.2 ) (fun s c s' hs hB => by
    have h2 := nL_law_18 hs.1.1 hs.1.2  ((qL_law_18 hs.1.1 hs.1.2 ).symm.trans hB)
    exact ⟨h2.1, hs.2.tr h2.2⟩) n s0 ⟨⟨h, hg⟩, gX.rf _⟩
