def ebX10_uncovered_29 (g : Shp) (x1 x2 : Int) (m : Mem) : Option (Int × (Int × Int × Mem)) :=
  vv (w32 (x2 + 1)) fun y1 =>
  some (0, (x1, y1, m))
def ebX10_uncovered_4 (g : Shp) (x1 x2 : Int) (m : Mem) : Option (Int × (Int × Int × Mem)) :=
  if (m (m 1 6) 5) ≤ x2 then
    some (1, (x1, x2, m))
  else
    bd2 (eX1_isCovered g 85 x2 m) fun v4 m5 =>
    if v4 = 0 then
      vv (w32 (x1 + 1)) fun y8 =>
      ebX10_uncovered_29 g y8 x2 m5
    else
      ebX10_uncovered_29 g x1 x2 m5
def eBX10_uncovered_4 (g : Shp) (q : (Int × Int × Mem)) : Option (Int × (Int × Int × Mem)) := ebX10_uncovered_4 g q.1 q.2.1 q.2.2
def ebX10_uncovered_35 (g : Shp) (x1 : Int) (m : Mem) : Option (Int × Mem) :=
  some (x1, m)
def ebX10_uncovered_0 (g : Shp) (m : Mem) : Option (Int × Mem) :=
  bdl (iter (eBX10_uncovered_4 g) 100000 (0, 0, m)) fun cv1 sv2 =>
  ebX10_uncovered_35 g sv2.1 sv2.2.2
def eX10_uncovered (g : Shp) (m : Mem) : Option (Int × Mem) := ebX10_uncovered_0 g m
def ebX10_count_0 (g : Shp) (x1 : Int) (m : Mem) : Option (Int × Mem) :=
  if x1 = 0 then
    some (m (m 1 6) 5, m)
  else
    if x1 = 1 then
      ck ((0 : Int) ≤ (w32 (x1 - 1)) ∧ (w32 (x1 - 1)) < 3) <|
      some (m (m 1 6 + 1) (w32 (x1 - 1)), m)
    else
      if x1 = 2 then
        ck ((0 : Int) ≤ (w32 (x1 - 1)) ∧ (w32 (x1 - 1)) < 3) <|
        some (m (m 1 6 + 1) (w32 (x1 - 1)), m)
      else
        if x1 = 3 then
          ck ((0 : Int) ≤ (w32 (x1 - 1)) ∧ (w32 (x1 - 1)) < 3) <|
          some (m (m 1 6 + 1) (w32 (x1 - 1)), m)
        else
          if x1 = 4 then
            some (m 85 7, m)
          else
            if x1 = 5 then
              some (m 85 8, m)
            else
              if x1 = 6 then
                some (m 85 9, m)
              else
                if x1 = 7 then
                  some (m 93 1, m)
                else
                  if x1 = 8 then
                    some (m 2 3, m)
                  else
                    if x1 = 9 then
                      bd2 (eX10_uncovered g m) fun v27 m28 =>
                      some (w32 ((m (m 1 6) 5) - v27), m28)
                    else
                      if x1 = 10 then
                        bd2 (eX7_sharedCells g (m 1 6) m) fun v32 m33 =>
                        some (v32, m33)
                      else
                        some ((-1), m)
def eX10_count (g : Shp) (x1 : Int) (m : Mem) : Option (Int × Mem) := ebX10_count_0 g x1 m
set_option maxRecDepth 20000 in
theorem qX10_uncovered_29 {g : Shp} {m : Mem} {x1 x2 : Int} (h : Sh g m)  : bX10_uncovered_29 g 1 x1 x2 m = ebX10_uncovered_29 g x1 x2 m := by
  unfold bX10_uncovered_29 ebX10_uncovered_29
  refine vv_c (fun y1 ey1 => ?_)
  rfl
theorem nX10_uncovered_29 {g : Shp} {m : Mem} {x1 x2 : Int} (h : Sh g m)  {c1 : Int} {s1 : (Int × Int × Mem)} (hF : ebX10_uncovered_29 g x1 x2 m = some (c1, s1)) : Sh g s1.2.2 := by
  unfold ebX10_uncovered_29 at hF
  obtain ⟨y1, ey1, hF⟩ := vv_ok hF
  cases hF
  exact h
set_option maxRecDepth 20000 in
theorem qX10_uncovered_4 {g : Shp} {m : Mem} {x1 x2 : Int} (h : Sh g m)  : bX10_uncovered_4 g 1 x1 x2 m = ebX10_uncovered_4 g x1 x2 m := by
  unfold bX10_uncovered_4 ebX10_uncovered_4
  have k1 := h.2.2.1.1
  rewrite [ck_t k1]
  refine if_c (fun hc2 => ?_) (fun hc2 => ?_)
  · rfl
  · have k3 := s_1_2 h
    rewrite [k3.1, ck_t k3.2.1]
    refine bd2_q (qX1_isCovered h k3.2.1) (fun v4 m5 h6 => ?_)
    have hm5 := nX1_isCovered h k3.2.1 ((qX1_isCovered h k3.2.1).symm.trans h6)
    refine if_c (fun hc7 => ?_) (fun hc7 => ?_)
    · refine vv_c (fun y8 ey8 => ?_)
      exact qX10_uncovered_29 hm5 
    · exact qX10_uncovered_29 hm5
theorem nX10_uncovered_4 {g : Shp} {m : Mem} {x1 x2 : Int} (h : Sh g m)  {c1 : Int} {s1 : (Int × Int × Mem)} (hF : ebX10_uncovered_4 g x1 x2 m = some (c1, s1)) : Sh g s1.2.2 := by
  unfold ebX10_uncovered_4 at hF
  have k1 := h.2.2.1.1
  rcases if_ok hF with ⟨hc2, hF⟩ | ⟨hc2, hF⟩
  · cases hF
    exact h
  · have k3 := s_1_2 h
    obtain ⟨v4, m5, h6, hF⟩ := bd2_ok hF
    have hm5 := nX1_isCovered h k3.2.1 h6
    rcases if_ok hF with ⟨hc7, hF⟩ | ⟨hc7, hF⟩
    · obtain ⟨y8, ey8, hF⟩ := vv_ok hF
      exact nX10_uncovered_29 hm5  hF
    · exact nX10_uncovered_29 hm5  hF
theorem nlX10_uncovered_4 {g : Shp}  {n : Nat} {s0 s1 : (Int × Int × Mem)} {c1 : Int} (h : Sh g s0.2.2) (hI : iter (eBX10_uncovered_4 g ) n s0 = some (c1, s1)) : Sh g s1.2.2 :=
  iter_inv (B := eBX10_uncovered_4 g ) (fun q => Sh g q.2.2) (fun s c s' hs hB => nX10_uncovered_4 hs  hB) n s0 c1 s1 h hI
theorem qlX10_uncovered_4 {g : Shp}  {n : Nat} {s0 : (Int × Int × Mem)} (h : Sh g s0.2.2) : iter (BX10_uncovered_4 g 1) n s0 = iter (eBX10_uncovered_4 g ) n s0 :=
  iter_eq (B := BX10_uncovered_4 g 1) (E := eBX10_uncovered_4 g ) (fun q => Sh g q.2.2) (fun s hs => qX10_uncovered_4 hs ) (fun s c s' hs hB => nX10_uncovered_4 hs  ((qX10_uncovered_4 hs ).symm.trans hB)) n s0 h
set_option maxRecDepth 20000 in
theorem qX10_uncovered_35 {g : Shp} {m : Mem} {x1 : Int} (h : Sh g m)  : bX10_uncovered_35 g x1 m = ebX10_uncovered_35 g x1 m := by
  unfold bX10_uncovered_35 ebX10_uncovered_35
  rfl
theorem nX10_uncovered_35 {g : Shp} {m : Mem} {x1 : Int} (h : Sh g m)  {r : Int} {m' : Mem} (hF : ebX10_uncovered_35 g x1 m = some (r, m')) : Sh g m' := by
  unfold ebX10_uncovered_35 at hF
  cases hF
  exact h
set_option maxRecDepth 20000 in
theorem qX10_uncovered_0 {g : Shp} {m : Mem} (h : Sh g m)  : bX10_uncovered_0 g 1 m = ebX10_uncovered_0 g m := by
  unfold bX10_uncovered_0 ebX10_uncovered_0
  refine bdl_q (qlX10_uncovered_4  (n := 100000) (s0 := (0, 0, m)) h) (fun cv1 sv2 hi3 => ?_)
  have h4 := nlX10_uncovered_4  (s0 := (0, 0, m)) h ((qlX10_uncovered_4  (n := 100000) (s0 := (0, 0, m)) h).symm.trans hi3)
  exact qX10_uncovered_35 h4 
theorem nX10_uncovered_0 {g : Shp} {m : Mem} (h : Sh g m)  {r : Int} {m' : Mem} (hF : ebX10_uncovered_0 g m = some (r, m')) : Sh g m' := by
  unfold ebX10_uncovered_0 at hF
  obtain ⟨cv1, sv2, hi3, hF⟩ := bdl_ok hF
  have h4 := nlX10_uncovered_4  (s0 := (0, 0, m)) h hi3
  exact nX10_uncovered_35 h4  hF
theorem qX10_uncovered {g : Shp} {m : Mem} (h : Sh g m)  : fX10_uncovered g 1 m = eX10_uncovered g m := qX10_uncovered_0 h 
theorem nX10_uncovered {g : Shp} {m : Mem} (h : Sh g m)  {r : Int} {m' : Mem} (hF : eX10_uncovered g m = some (r, m')) : Sh g m' := nX10_uncovered_0 h  hF
set_option maxRecDepth 20000 in
theorem qX10_count_0 {g : Shp} {m : Mem} {x1 : Int} (h : Sh g m)  : bX10_count_0 g 1 x1 m = ebX10_count_0 g x1 m := by
  unfold bX10_count_0 ebX10_count_0
  refine if_c (fun hc1 => ?_) (fun hc1 => ?_)
  · have k2 := h.2.2.1.1
    rewrite [ck_t k2]
    rfl
  · refine if_c (fun hc3 => ?_) (fun hc3 => ?_)
    · have k4 := h.2.2.1.1
      rewrite [ck_t k4]
      have k5 := u8_0 h (r := m 1 6) (q := m 1 6 + 1) k4 rfl
      rewrite [k5.1, ck_t k5.2.1]
      try rewrite [k5.2.2]
      refine ck_c (fun i6 => ?_)
      rfl
    · refine if_c (fun hc7 => ?_) (fun hc7 => ?_)
      · have k8 := h.2.2.1.1
        rewrite [ck_t k8]
        have k9 := u8_0 h (r := m 1 6) (q := m 1 6 + 1) k8 rfl
        rewrite [k9.1, ck_t k9.2.1]
        try rewrite [k9.2.2]
        refine ck_c (fun i10 => ?_)
        rfl
      · refine if_c (fun hc11 => ?_) (fun hc11 => ?_)
        · have k12 := h.2.2.1.1
          rewrite [ck_t k12]
          have k13 := u8_0 h (r := m 1 6) (q := m 1 6 + 1) k12 rfl
          rewrite [k13.1, ck_t k13.2.1]
          try rewrite [k13.2.2]
          refine ck_c (fun i14 => ?_)
          rfl
        · refine if_c (fun hc15 => ?_) (fun hc15 => ?_)
          · have k16 := s_1_2 h
            rewrite [k16.1, ck_t k16.2.1]
            rfl
          · refine if_c (fun hc17 => ?_) (fun hc17 => ?_)
            · have k18 := s_1_2 h
              rewrite [k18.1, ck_t k18.2.1]
              rfl
            · refine if_c (fun hc19 => ?_) (fun hc19 => ?_)
              · have k20 := s_1_2 h
                rewrite [k20.1, ck_t k20.2.1]
                rfl
              · refine if_c (fun hc21 => ?_) (fun hc21 => ?_)
                · have k22 := s_1_3 h
                  rewrite [k22.1, ck_t k22.2.1]
                  rfl
                · refine if_c (fun hc23 => ?_) (fun hc23 => ?_)
                  · have k24 := s_1_0 h
                    rewrite [k24.1, ck_t k24.2.1]
                    rfl
                  · refine if_c (fun hc25 => ?_) (fun hc25 => ?_)
                    · have k26 := h.2.2.1.1
                      rewrite [ck_t k26]
                      refine bd2_q (qX10_uncovered h ) (fun v27 m28 h29 => ?_)
                      have hm28 := nX10_uncovered h  ((qX10_uncovered h ).symm.trans h29)
                      rfl
                    · refine if_c (fun hc30 => ?_) (fun hc30 => ?_)
                      · have k31 := h.2.2.1.1
                        rewrite [ck_t k31]
                        refine bd2_q (qX7_sharedCells h k31) (fun v32 m33 h34 => ?_)
                        have hm33 := nX7_sharedCells h k31 ((qX7_sharedCells h k31).symm.trans h34)
                        rfl
                      · rfl
theorem nX10_count_0 {g : Shp} {m : Mem} {x1 : Int} (h : Sh g m)  {r : Int} {m' : Mem} (hF : ebX10_count_0 g x1 m = some (r, m')) : Sh g m' := by
  unfold ebX10_count_0 at hF
  rcases if_ok hF with ⟨hc1, hF⟩ | ⟨hc1, hF⟩
  · have k2 := h.2.2.1.1
    cases hF
    exact h
  · rcases if_ok hF with ⟨hc3, hF⟩ | ⟨hc3, hF⟩
    · have k4 := h.2.2.1.1
      have k5 := u8_0 h (r := m 1 6) (q := m 1 6 + 1) k4 rfl
      obtain ⟨i6, hF⟩ := ck_ok hF
      cases hF
      exact h
    · rcases if_ok hF with ⟨hc7, hF⟩ | ⟨hc7, hF⟩
      · have k8 := h.2.2.1.1
        have k9 := u8_0 h (r := m 1 6) (q := m 1 6 + 1) k8 rfl
        obtain ⟨i10, hF⟩ := ck_ok hF
        cases hF
        exact h
      · rcases if_ok hF with ⟨hc11, hF⟩ | ⟨hc11, hF⟩
        · have k12 := h.2.2.1.1
          have k13 := u8_0 h (r := m 1 6) (q := m 1 6 + 1) k12 rfl
          obtain ⟨i14, hF⟩ := ck_ok hF
          cases hF
          exact h
        · rcases if_ok hF with ⟨hc15, hF⟩ | ⟨hc15, hF⟩
          · have k16 := s_1_2 h
            cases hF
            exact h
          · rcases if_ok hF with ⟨hc17, hF⟩ | ⟨hc17, hF⟩
            · have k18 := s_1_2 h
              cases hF
              exact h
            · rcases if_ok hF with ⟨hc19, hF⟩ | ⟨hc19, hF⟩
              · have k20 := s_1_2 h
                cases hF
                exact h
              · rcases if_ok hF with ⟨hc21, hF⟩ | ⟨hc21, hF⟩
                · have k22 := s_1_3 h
                  cases hF
                  exact h
                · rcases if_ok hF with ⟨hc23, hF⟩ | ⟨hc23, hF⟩
                  · have k24 := s_1_0 h
                    cases hF
                    exact h
                  · rcases if_ok hF with ⟨hc25, hF⟩ | ⟨hc25, hF⟩
                    · have k26 := h.2.2.1.1
                      obtain ⟨v27, m28, h29, hF⟩ := bd2_ok hF
                      have hm28 := nX10_uncovered h  h29
                      cases hF
                      exact hm28
                    · rcases if_ok hF with ⟨hc30, hF⟩ | ⟨hc30, hF⟩
                      · have k31 := h.2.2.1.1
                        obtain ⟨v32, m33, h34, hF⟩ := bd2_ok hF
                        have hm33 := nX7_sharedCells h k31 h34
                        cases hF
                        exact hm33
                      · cases hF
                        exact h
theorem qX10_count {g : Shp} {m : Mem} {x1 : Int} (h : Sh g m)  : fX10_count g 1 x1 m = eX10_count g x1 m := qX10_count_0 h 
theorem nX10_count {g : Shp} {m : Mem} {x1 : Int} (h : Sh g m)  {r : Int} {m' : Mem} (hF : eX10_count g x1 m = some (r, m')) : Sh g m' := nX10_count_0 h  hF
