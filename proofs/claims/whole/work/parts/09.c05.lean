def bX10_uncovered_29 (g : Shp) (x0 x1 x2 : Int) (m : Mem) : Option (Int × (Int × Int × Mem)) :=
  vv (w32 (x2 + 1)) fun y1 =>
  some (0, (x1, y1, m))
def bX10_uncovered_4 (g : Shp) (x0 x1 x2 : Int) (m : Mem) : Option (Int × (Int × Int × Mem)) :=
  ck (gk g (m x0 6) = 8) <|
  if (m (m x0 6) 5) ≤ x2 then
    some (1, (x1, x2, m))
  else
    ck (gk g (m x0 2) = 2) <|
    bd2 (fX1_isCovered g (m x0 2) x2 m) fun v4 m5 =>
    if v4 = 0 then
      vv (w32 (x1 + 1)) fun y9 =>
      bX10_uncovered_29 g x0 y9 x2 m5
    else
      bX10_uncovered_29 g x0 x1 x2 m5
def BX10_uncovered_4 (g : Shp) (x0 : Int) (q : (Int × Int × Mem)) : Option (Int × (Int × Int × Mem)) := bX10_uncovered_4 g x0 q.1 q.2.1 q.2.2
def bX10_uncovered_35 (g : Shp) (x1 : Int) (m : Mem) : Option (Int × Mem) :=
  some (x1, m)
def bX10_uncovered_0 (g : Shp) (x0 : Int) (m : Mem) : Option (Int × Mem) :=
  bdl (iter (BX10_uncovered_4 g x0) 100000 (0, 0, m)) fun cv1 sv2 =>
  bX10_uncovered_35 g sv2.1 sv2.2.2
def fX10_uncovered (g : Shp) (x0 : Int) (m : Mem) : Option (Int × Mem) := bX10_uncovered_0 g x0 m
def bX10_count_0 (g : Shp) (x0 x1 : Int) (m : Mem) : Option (Int × Mem) :=
  if x1 = 0 then
    ck (gk g (m x0 6) = 8) <|
    some (m (m x0 6) 5, m)
  else
    if x1 = 1 then
      ck (gk g (m x0 6) = 8) <|
      ck (gk g (m (m x0 6) 0) = 20) <|
      ck ((0 : Int) ≤ (w32 (x1 - 1)) ∧ (w32 (x1 - 1)) < gl g (m (m x0 6) 0)) <|
      some (m (m (m x0 6) 0) (w32 (x1 - 1)), m)
    else
      if x1 = 2 then
        ck (gk g (m x0 6) = 8) <|
        ck (gk g (m (m x0 6) 0) = 20) <|
        ck ((0 : Int) ≤ (w32 (x1 - 1)) ∧ (w32 (x1 - 1)) < gl g (m (m x0 6) 0)) <|
        some (m (m (m x0 6) 0) (w32 (x1 - 1)), m)
      else
        if x1 = 3 then
          ck (gk g (m x0 6) = 8) <|
          ck (gk g (m (m x0 6) 0) = 20) <|
          ck ((0 : Int) ≤ (w32 (x1 - 1)) ∧ (w32 (x1 - 1)) < gl g (m (m x0 6) 0)) <|
          some (m (m (m x0 6) 0) (w32 (x1 - 1)), m)
        else
          if x1 = 4 then
            ck (gk g (m x0 2) = 2) <|
            some (m (m x0 2) 7, m)
          else
            if x1 = 5 then
              ck (gk g (m x0 2) = 2) <|
              some (m (m x0 2) 8, m)
            else
              if x1 = 6 then
                ck (gk g (m x0 2) = 2) <|
                some (m (m x0 2) 9, m)
              else
                if x1 = 7 then
                  ck (gk g (m x0 3) = 5) <|
                  some (m (m x0 3) 1, m)
                else
                  if x1 = 8 then
                    ck (gk g (m x0 0) = 9) <|
                    some (m (m x0 0) 3, m)
                  else
                    if x1 = 9 then
                      ck (gk g (m x0 6) = 8) <|
                      bd2 (fX10_uncovered g x0 m) fun v27 m28 =>
                      some (w32 ((m (m x0 6) 5) - v27), m28)
                    else
                      if x1 = 10 then
                        ck (gk g (m x0 6) = 8) <|
                        bd2 (fX7_sharedCells g (m x0 6) m) fun v33 m34 =>
                        some (v33, m34)
                      else
                        some ((-1), m)
def fX10_count (g : Shp) (x0 x1 : Int) (m : Mem) : Option (Int × Mem) := bX10_count_0 g x0 x1 m
set_option maxRecDepth 20000 in
theorem wX10_uncovered_29 {p : Program} {l : Launch} {e : Env} {s : State} {mt : MethodId} {args : Array Value} {below : List Frame} {meth : Method} {c : Code} {Q : State → Prop} {G : Gl} {A : Nat → Prop} {H0 : Heap} {ad : Int → Nat} {g : Shp} {H : Heap} {locs : List Loc} {ls : Array Slot} {m : Mem} {x0 x1 x2 : Int} (C : CallFix p mt c cX10_uncovered 3 s args tb RX10) (S : Wd G A s H0 ad g m H locs) (hx0 : gk g x0 = 11) (hx1 : r32 x1) (hx2 : r32 x2) (hl : lv_has ls 3 [(0, .ref (ad x0)), (1, .int (iI x1)), (2, .int (iI x2))]) {c1 : Int} {s1 : (Int × Int × Mem)} (hF : bX10_uncovered_29 g x0 x1 x2 m = some (c1, s1)) (K0 : c1 = 0 → ∀ (H : Heap) (locs : List Loc) (ls : Array Slot), r32 s1.1 → r32 s1.2.1 → Wd G A s H0 ad g s1.2.2 H locs → lv_has ls 3 [(0, .ref (ad x0)), (1, .int (iI s1.1)), (2, .int (iI s1.2.1))] → W p l e rX10_uncovered s mt args below meth c H locs 0 0 Q (F0 mt 4 ls [])) (K1 : c1 = 1 → ∀ (H : Heap) (locs : List Loc) (ls : Array Slot), r32 s1.1 → Wd G A s H0 ad g s1.2.2 H locs → lv_has ls 3 [(1, .int (iI s1.1))] → W p l e rX10_uncovered s mt args below meth c H locs 0 0 Q (F0 mt 35 ls [])) : W p l e rX10_uncovered s mt args below meth c H locs 0 0 Q (F0 mt 29 ls []) := by
  unfold bX10_uncovered_29 at hF
  obtain ⟨y1, ey1, hF⟩ := vv_ok hF
  have ry1 : r32 y1 := ey1 ▸ r32_w _
  refine q_iinc C hl 2 [(2, .int (iI y1)), (0, .ref (ad x0)), (1, .int (iI x1))] rfl ey1 (by decide) rfl dX10_uncovered_29 (fun ls hl => ?_)
  refine q_goto C 4 dX10_uncovered_32 (by decide) ?_
  cases hF
  exact K0 rfl _ _ _ hx1 ry1 S (lv_sub hl [1, 2, 0] rfl)
set_option maxRecDepth 20000 in
theorem wX10_uncovered_4 {p : Program} {l : Launch} {e : Env} {s : State} {mt : MethodId} {args : Array Value} {below : List Frame} {meth : Method} {c : Code} {Q : State → Prop} {G : Gl} {A : Nat → Prop} {H0 : Heap} {ad : Int → Nat} {g : Shp} {H : Heap} {locs : List Loc} {ls : Array Slot} {m : Mem} {x0 x1 x2 : Int} (C : CallFix p mt c cX10_uncovered 3 s args tb RX10) (S : Wd G A s H0 ad g m H locs) (hx0 : gk g x0 = 11) (hx1 : r32 x1) (hx2 : r32 x2) (hl : lv_has ls 3 [(0, .ref (ad x0)), (1, .int (iI x1)), (2, .int (iI x2))]) {c1 : Int} {s1 : (Int × Int × Mem)} (hF : bX10_uncovered_4 g x0 x1 x2 m = some (c1, s1)) (K0 : c1 = 0 → ∀ (H : Heap) (locs : List Loc) (ls : Array Slot), r32 s1.1 → r32 s1.2.1 → Wd G A s H0 ad g s1.2.2 H locs → lv_has ls 3 [(0, .ref (ad x0)), (1, .int (iI s1.1)), (2, .int (iI s1.2.1))] → W p l e rX10_uncovered s mt args below meth c H locs 0 0 Q (F0 mt 4 ls [])) (K1 : c1 = 1 → ∀ (H : Heap) (locs : List Loc) (ls : Array Slot), r32 s1.1 → Wd G A s H0 ad g s1.2.2 H locs → lv_has ls 3 [(1, .int (iI s1.1))] → W p l e rX10_uncovered s mt args below meth c H locs 0 0 Q (F0 mt 35 ls [])) : W p l e rX10_uncovered s mt args below meth c H locs 0 0 Q (F0 mt 4 ls []) := by
  unfold bX10_uncovered_4 at hF
  refine q_iload_n C hl 2 rfl rfl dX10_uncovered_4 ?_
  refine q_aload_n C hl 0 rfl rfl dX10_uncovered_5 ?_
  obtain ⟨k1, hF⟩ := ck_ok hF
  refine q_getr C S 6 fo_RX10_53 (j := 6) rfl rfl hx0 k1 (by decide) dX10_uncovered_6 ?_
  refine q_geti C S 5 fo_RX10_214 (j := 5) rfl rfl k1 dX10_uncovered_9 ?_
  refine q_icmp_ge C hx2 (S.r _ _) 35 dX10_uncovered_12 (by decide) (fun hc2 => ?_) (fun hc2 => ?_)
  · have hF := if_t hc2 hF
    cases hF
    exact K1 rfl _ _ _ hx1 S (lv_sub hl [1] rfl)
  · have hF := if_f hc2 hF
    refine q_aload_n C hl 0 rfl rfl dX10_uncovered_15 ?_
    obtain ⟨k3, hF⟩ := ck_ok hF
    refine q_getr C S 2 fo_RX10_26 (j := 2) rfl rfl hx0 k3 (by decide) dX10_uncovered_16 ?_
    refine q_iload_n C hl 2 rfl rfl dX10_uncovered_19 ?_
    obtain ⟨v4, m5, h6, hF⟩ := bd2_ok hF
    refine q_ci S (run_V (As := [.int (iI x2)]) (rest := []) C S (cX1_isCovered_ok l G k3 hx2 h6 ad _) k3 ⟨by decide, _, _, rfl⟩ gd_RX10_133 hdV_X1_isCovered rfl ⟨rfl, rfl, by decide, by decide⟩ ⟨Nat.zero_le _, Nat.zero_le _⟩ hl.1 rfl (Nat.le_of_ble_eq_true rfl) dX10_uncovered_20) (fun H locs Sm5 h7 => ?_)
    refine q_if_ne C h7.1 29 dX10_uncovered_23 (by decide) (fun hc8 => ?_) (fun hc8 => ?_)
    · have hF := if_t hc8 hF
      obtain ⟨y9, ey9, hF⟩ := vv_ok hF
      have ry9 : r32 y9 := ey9 ▸ r32_w _
      refine q_iinc C hl 1 [(1, .int (iI y9)), (0, .ref (ad x0)), (2, .int (iI x2))] rfl ey9 (by decide) rfl dX10_uncovered_26 (fun ls hl => ?_)
      exact wX10_uncovered_29 C Sm5 hx0 ry9 hx2 (lv_sub hl [1, 0, 2] rfl) hF K0 K1
    · have hF := if_f hc8 hF
      exact wX10_uncovered_29 C Sm5 hx0 hx1 hx2 (lv_sub hl [0, 1, 2] rfl) hF K0 K1
set_option maxRecDepth 20000 in
theorem lX10_uncovered_4 {p : Program} {l : Launch} {e : Env} {s : State} {mt : MethodId} {args : Array Value} {below : List Frame} {meth : Method} {c : Code} {Q : State → Prop} {G : Gl} {A : Nat → Prop} {H0 : Heap} {ad : Int → Nat} {g : Shp} {x0 : Int} (C : CallFix p mt c cX10_uncovered 3 s args tb RX10) (hx0 : gk g x0 = 11) {n : Nat} {s0 s1 : (Int × Int × Mem)} {c1 : Int} (hI : iter (BX10_uncovered_4 g x0) n s0 = some (c1, s1)) (K1 : c1 = 1 → ∀ (H : Heap) (locs : List Loc) (ls : Array Slot), r32 s1.1 → Wd G A s H0 ad g s1.2.2 H locs → lv_has ls 3 [(1, .int (iI s1.1))] → W p l e rX10_uncovered s mt args below meth c H locs 0 0 Q (F0 mt 35 ls [])) : ∀ (H : Heap) (locs : List Loc) (ls : Array Slot), r32 s0.1 → r32 s0.2.1 → Wd G A s H0 ad g s0.2.2 H locs → lv_has ls 3 [(0, .ref (ad x0)), (1, .int (iI s0.1)), (2, .int (iI s0.2.1))] → W p l e rX10_uncovered s mt args below meth c H locs 0 0 Q (F0 mt 4 ls []) :=
  iter_W (Pw := fun q => ∀ (H : Heap) (locs : List Loc) (ls : Array Slot), r32 q.1 → r32 q.2.1 → Wd G A s H0 ad g q.2.2 H locs → lv_has ls 3 [(0, .ref (ad x0)), (1, .int (iI q.1)), (2, .int (iI q.2.1))] → W p l e rX10_uncovered s mt args below meth c H locs 0 0 Q (F0 mt 4 ls [])) (Px := fun c0 q => (c0 = 1 → ∀ (H : Heap) (locs : List Loc) (ls : Array Slot), r32 q.1 → Wd G A s H0 ad g q.2.2 H locs → lv_has ls 3 [(1, .int (iI q.1))] → W p l e rX10_uncovered s mt args below meth c H locs 0 0 Q (F0 mt 35 ls [])))
    (fun s c s' hB K0 kx H locs ls f0 f1 S hl => wX10_uncovered_4 C S hx0 f0 f1 hl hB K0 (fun h9 => (kx (by rw [h9]; decide)) h9)) _ _ _ _ hI K1
set_option maxRecDepth 20000 in
theorem wX10_uncovered_35 {p : Program} {l : Launch} {e : Env} {s : State} {mt : MethodId} {args : Array Value} {below : List Frame} {meth : Method} {c : Code} {Q : State → Prop} {G : Gl} {A : Nat → Prop} {H0 : Heap} {ad : Int → Nat} {g : Shp} {H : Heap} {locs : List Loc} {ls : Array Slot} {m : Mem} {x1 : Int} (C : CallFix p mt c cX10_uncovered 3 s args tb RX10) (S : Wd G A s H0 ad g m H locs) (hx1 : r32 x1) (hl : lv_has ls 3 [(1, .int (iI x1))]) {r : Int} {m' : Mem} (hF : bX10_uncovered_35 g x1 m = some (r, m')) (Kr : ∀ (H : Heap) (locs : List Loc) (pc : Nat) (ls : Array Slot), Wd G A s H0 ad g m' H locs → decode cX10_uncovered pc = .ok (.ireturn, 1) → r32 r ∧ (false = true → r = 0 ∨ r = 1) → narrow .int (.int (iI r)) = .int (iI r) → W p l e rX10_uncovered s mt args below meth c H locs 0 0 Q (F0 mt pc ls [.int (iI r)])) : W p l e rX10_uncovered s mt args below meth c H locs 0 0 Q (F0 mt 35 ls []) := by
  unfold bX10_uncovered_35 at hF
  refine q_iload_n C hl 0 rfl rfl dX10_uncovered_35 ?_
  cases hF
  exact Kr _ _ _ _ S dX10_uncovered_36 ⟨hx1, fun h9 => absurd h9 (by decide)⟩ rfl
set_option maxRecDepth 20000 in
theorem wX10_uncovered_0 {p : Program} {l : Launch} {e : Env} {s : State} {mt : MethodId} {args : Array Value} {below : List Frame} {meth : Method} {c : Code} {Q : State → Prop} {G : Gl} {A : Nat → Prop} {H0 : Heap} {ad : Int → Nat} {g : Shp} {H : Heap} {locs : List Loc} {ls : Array Slot} {m : Mem} {x0 : Int} (C : CallFix p mt c cX10_uncovered 3 s args tb RX10) (S : Wd G A s H0 ad g m H locs) (hx0 : gk g x0 = 11) (hl : lv_has ls 3 [(0, .ref (ad x0))]) {r : Int} {m' : Mem} (hF : bX10_uncovered_0 g x0 m = some (r, m')) (Kr : ∀ (H : Heap) (locs : List Loc) (pc : Nat) (ls : Array Slot), Wd G A s H0 ad g m' H locs → decode cX10_uncovered pc = .ok (.ireturn, 1) → r32 r ∧ (false = true → r = 0 ∨ r = 1) → narrow .int (.int (iI r)) = .int (iI r) → W p l e rX10_uncovered s mt args below meth c H locs 0 0 Q (F0 mt pc ls [.int (iI r)])) : W p l e rX10_uncovered s mt args below meth c H locs 0 0 Q (F0 mt 0 ls []) := by
  unfold bX10_uncovered_0 at hF
  refine q_iconst C 0 dX10_uncovered_0 ?_
  refine q_istore_n C hl [(1, .int (iI 0)), (0, .ref (ad x0))] rfl rfl (by decide) rfl dX10_uncovered_1 (fun ls hl => ?_)
  refine q_iconst C 0 dX10_uncovered_2 ?_
  refine q_istore_n C hl [(2, .int (iI 0)), (1, .int (iI 0)), (0, .ref (ad x0))] rfl rfl (by decide) rfl dX10_uncovered_3 (fun ls hl => ?_)
  obtain ⟨cv1, sv2, hi3, hF⟩ := bdl_ok hF
  refine lX10_uncovered_4 C hx0 hi3 ?_ _ _ _ (rl 0 rfl) (rl 0 rfl) S (lv_sub hl [2, 1, 0] rfl)
  intro _ H locs ls f5 S4 hl
  exact wX10_uncovered_35 C S4 f5 (lv_sub hl [0] rfl) hF Kr
theorem cX10_uncovered_ok (l : Launch) (G : Gl) {g : Shp} {x0 : Int} {m m' : Mem} {r : Int} (hx0 : gk g x0 = 11) (hF : fX10_uncovered g x0 m = some (r, m')) : mI l yX10_uncovered (wT yX10_uncovered cX10_uncovered 3 (some .int)) rX10_uncovered G false (fun ad => [.ref (ad x0)]) g m r m' :=
  met_i (by decide) (fun ad => Nat.le_of_ble_eq_true rfl) (fun p e s mt args below meth c Q A H0 H locs ad ls C hnm S hl Kr => wX10_uncovered_0 C S hx0 hl hF Kr)
set_option maxRecDepth 20000 in
theorem wX10_count_0 {p : Program} {l : Launch} {e : Env} {s : State} {mt : MethodId} {args : Array Value} {below : List Frame} {meth : Method} {c : Code} {Q : State → Prop} {G : Gl} {A : Nat → Prop} {H0 : Heap} {ad : Int → Nat} {g : Shp} {H : Heap} {locs : List Loc} {ls : Array Slot} {m : Mem} {x0 x1 : Int} (C : CallFix p mt c cX10_count 2 s args tb RX10) (S : Wd G A s H0 ad g m H locs) (hx0 : gk g x0 = 11) (hx1 : r32 x1) (hl : lv_has ls 2 [(0, .ref (ad x0)), (1, .int (iI x1))]) {r : Int} {m' : Mem} (hF : bX10_count_0 g x0 x1 m = some (r, m')) (Kr : ∀ (H : Heap) (locs : List Loc) (pc : Nat) (ls : Array Slot), Wd G A s H0 ad g m' H locs → decode cX10_count pc = .ok (.ireturn, 1) → r32 r ∧ (false = true → r = 0 ∨ r = 1) → narrow .int (.int (iI r)) = .int (iI r) → W p l e rX10_count s mt args below meth c H locs 0 0 Q (F0 mt pc ls [.int (iI r)])) : W p l e rX10_count s mt args below meth c H locs 0 0 Q (F0 mt 0 ls []) := by
  unfold bX10_count_0 at hF
  refine q_iload_n C hl 1 rfl rfl dX10_count_0 ?_
  by_cases hc1 : x1 = 0
  · have hF := if_t hc1 hF
    refine q_tin C hx1 0 hc1 59 60 dX10_count_1 (by decide) rfl (by decide) ?_
    refine q_aload_n C hl 0 rfl rfl dX10_count_60 ?_
    obtain ⟨k2, hF⟩ := ck_ok hF
    refine q_getr C S 6 fo_RX10_53 (j := 6) rfl rfl hx0 k2 (by decide) dX10_count_61 ?_
    refine q_geti C S 5 fo_RX10_214 (j := 5) rfl rfl k2 dX10_count_64 ?_
    cases hF
    exact Kr _ _ _ _ S dX10_count_67 ⟨(S.r _ _), fun h9 => absurd h9 (by decide)⟩ rfl
  · have hF := if_f hc1 hF
    by_cases hc3 : x1 = 1
    · have hF := if_t hc3 hF
      refine q_tin C hx1 1 hc3 67 68 dX10_count_1 (by decide) rfl (by decide) ?_
      refine q_aload_n C hl 0 rfl rfl dX10_count_68 ?_
      obtain ⟨k4, hF⟩ := ck_ok hF
      refine q_getr C S 6 fo_RX10_53 (j := 6) rfl rfl hx0 k4 (by decide) dX10_count_69 ?_
      obtain ⟨k5, hF⟩ := ck_ok hF
      refine q_getr C S 0 fo_RX10_170 (j := 0) rfl rfl k4 k5 (by decide) dX10_count_72 ?_
      refine q_iload_n C hl 1 rfl rfl dX10_count_75 ?_
      refine q_iconst C 1 dX10_count_76 ?_
      refine q_isub C dX10_count_77 ?_
      obtain ⟨i6, hF⟩ := ck_ok hF
      refine q_iald C S k5 i6 dX10_count_78 ?_
      cases hF
      exact Kr _ _ _ _ S dX10_count_79 ⟨(S.r _ _), fun h9 => absurd h9 (by decide)⟩ rfl
    · have hF := if_f hc3 hF
      by_cases hc7 : x1 = 2
      · have hF := if_t hc7 hF
        refine q_tin C hx1 2 hc7 67 68 dX10_count_1 (by decide) rfl (by decide) ?_
        refine q_aload_n C hl 0 rfl rfl dX10_count_68 ?_
        obtain ⟨k8, hF⟩ := ck_ok hF
        refine q_getr C S 6 fo_RX10_53 (j := 6) rfl rfl hx0 k8 (by decide) dX10_count_69 ?_
        obtain ⟨k9, hF⟩ := ck_ok hF
        refine q_getr C S 0 fo_RX10_170 (j := 0) rfl rfl k8 k9 (by decide) dX10_count_72 ?_
        refine q_iload_n C hl 1 rfl rfl dX10_count_75 ?_
        refine q_iconst C 1 dX10_count_76 ?_
        refine q_isub C dX10_count_77 ?_
        obtain ⟨i10, hF⟩ := ck_ok hF
        refine q_iald C S k9 i10 dX10_count_78 ?_
        cases hF
        exact Kr _ _ _ _ S dX10_count_79 ⟨(S.r _ _), fun h9 => absurd h9 (by decide)⟩ rfl
      · have hF := if_f hc7 hF
        by_cases hc11 : x1 = 3
        · have hF := if_t hc11 hF
          refine q_tin C hx1 3 hc11 67 68 dX10_count_1 (by decide) rfl (by decide) ?_
          refine q_aload_n C hl 0 rfl rfl dX10_count_68 ?_
          obtain ⟨k12, hF⟩ := ck_ok hF
          refine q_getr C S 6 fo_RX10_53 (j := 6) rfl rfl hx0 k12 (by decide) dX10_count_69 ?_
          obtain ⟨k13, hF⟩ := ck_ok hF
          refine q_getr C S 0 fo_RX10_170 (j := 0) rfl rfl k12 k13 (by decide) dX10_count_72 ?_
          refine q_iload_n C hl 1 rfl rfl dX10_count_75 ?_
          refine q_iconst C 1 dX10_count_76 ?_
          refine q_isub C dX10_count_77 ?_
          obtain ⟨i14, hF⟩ := ck_ok hF
          refine q_iald C S k13 i14 dX10_count_78 ?_
          cases hF
          exact Kr _ _ _ _ S dX10_count_79 ⟨(S.r _ _), fun h9 => absurd h9 (by decide)⟩ rfl
        · have hF := if_f hc11 hF
          by_cases hc15 : x1 = 4
          · have hF := if_t hc15 hF
            refine q_tin C hx1 4 hc15 79 80 dX10_count_1 (by decide) rfl (by decide) ?_
            refine q_aload_n C hl 0 rfl rfl dX10_count_80 ?_
            obtain ⟨k16, hF⟩ := ck_ok hF
            refine q_getr C S 2 fo_RX10_26 (j := 2) rfl rfl hx0 k16 (by decide) dX10_count_81 ?_
            refine q_geti C S 7 fo_RX10_87 (j := 7) rfl rfl k16 dX10_count_84 ?_
            cases hF
            exact Kr _ _ _ _ S dX10_count_87 ⟨(S.r _ _), fun h9 => absurd h9 (by decide)⟩ rfl
          · have hF := if_f hc15 hF
            by_cases hc17 : x1 = 5
            · have hF := if_t hc17 hF
              refine q_tin C hx1 5 hc17 87 88 dX10_count_1 (by decide) rfl (by decide) ?_
              refine q_aload_n C hl 0 rfl rfl dX10_count_88 ?_
              obtain ⟨k18, hF⟩ := ck_ok hF
              refine q_getr C S 2 fo_RX10_26 (j := 2) rfl rfl hx0 k18 (by decide) dX10_count_89 ?_
              refine q_geti C S 8 fo_RX10_220 (j := 8) rfl rfl k18 dX10_count_92 ?_
              cases hF
              exact Kr _ _ _ _ S dX10_count_95 ⟨(S.r _ _), fun h9 => absurd h9 (by decide)⟩ rfl
            · have hF := if_f hc17 hF
              by_cases hc19 : x1 = 6
              · have hF := if_t hc19 hF
                refine q_tin C hx1 6 hc19 95 96 dX10_count_1 (by decide) rfl (by decide) ?_
                refine q_aload_n C hl 0 rfl rfl dX10_count_96 ?_
                obtain ⟨k20, hF⟩ := ck_ok hF
                refine q_getr C S 2 fo_RX10_26 (j := 2) rfl rfl hx0 k20 (by decide) dX10_count_97 ?_
                refine q_geti C S 9 fo_RX10_223 (j := 9) rfl rfl k20 dX10_count_100 ?_
                cases hF
                exact Kr _ _ _ _ S dX10_count_103 ⟨(S.r _ _), fun h9 => absurd h9 (by decide)⟩ rfl
              · have hF := if_f hc19 hF
                by_cases hc21 : x1 = 7
                · have hF := if_t hc21 hF
                  refine q_tin C hx1 7 hc21 103 104 dX10_count_1 (by decide) rfl (by decide) ?_
                  refine q_aload_n C hl 0 rfl rfl dX10_count_104 ?_
                  obtain ⟨k22, hF⟩ := ck_ok hF
                  refine q_getr C S 3 fo_RX10_33 (j := 3) rfl rfl hx0 k22 (by decide) dX10_count_105 ?_
                  refine q_geti C S 1 fo_RX10_206 (j := 1) rfl rfl k22 dX10_count_108 ?_
                  cases hF
                  exact Kr _ _ _ _ S dX10_count_111 ⟨(S.r _ _), fun h9 => absurd h9 (by decide)⟩ rfl
                · have hF := if_f hc21 hF
                  by_cases hc23 : x1 = 8
                  · have hF := if_t hc23 hF
                    refine q_tin C hx1 8 hc23 111 112 dX10_count_1 (by decide) rfl (by decide) ?_
                    refine q_aload_n C hl 0 rfl rfl dX10_count_112 ?_
                    obtain ⟨k24, hF⟩ := ck_ok hF
                    refine q_getr C S 0 fo_RX10_12 (j := 0) rfl rfl hx0 k24 (by decide) dX10_count_113 ?_
                    refine q_geti C S 3 fo_RX10_80 (j := 3) rfl rfl k24 dX10_count_116 ?_
                    cases hF
                    exact Kr _ _ _ _ S dX10_count_119 ⟨(S.r _ _), fun h9 => absurd h9 (by decide)⟩ rfl
                  · have hF := if_f hc23 hF
                    by_cases hc25 : x1 = 9
                    · have hF := if_t hc25 hF
                      refine q_tin C hx1 9 hc25 119 120 dX10_count_1 (by decide) rfl (by decide) ?_
                      refine q_aload_n C hl 0 rfl rfl dX10_count_120 ?_
                      obtain ⟨k26, hF⟩ := ck_ok hF
                      refine q_getr C S 6 fo_RX10_53 (j := 6) rfl rfl hx0 k26 (by decide) dX10_count_121 ?_
                      refine q_geti C S 5 fo_RX10_214 (j := 5) rfl rfl k26 dX10_count_124 ?_
                      refine q_aload_n C hl 0 rfl rfl dX10_count_127 ?_
                      obtain ⟨v27, m28, h29, hF⟩ := bd2_ok hF
                      refine q_ci S (run_V (As := []) (rest := [.int (iI (m (m x0 6) 5))]) C S (cX10_uncovered_ok l G hx0 h29 ad _) hx0 ⟨by decide, _, _, rfl⟩ gd_RX10_226 hdV_X10_uncovered rfl ⟨rfl, rfl, by decide, by decide⟩ ⟨Nat.zero_le _, Nat.zero_le _⟩ hl.1 rfl (Nat.le_of_ble_eq_true rfl) dX10_count_128) (fun H locs Sm28 h30 => ?_)
                      refine q_isub C dX10_count_131 ?_
                      cases hF
                      exact Kr _ _ _ _ Sm28 dX10_count_132 ⟨(r32_w _), fun h9 => absurd h9 (by decide)⟩ rfl
                    · have hF := if_f hc25 hF
                      by_cases hc31 : x1 = 10
                      · have hF := if_t hc31 hF
                        refine q_tin C hx1 10 hc31 132 133 dX10_count_1 (by decide) rfl (by decide) ?_
                        refine q_aload_n C hl 0 rfl rfl dX10_count_133 ?_
                        obtain ⟨k32, hF⟩ := ck_ok hF
                        refine q_getr C S 6 fo_RX10_53 (j := 6) rfl rfl hx0 k32 (by decide) dX10_count_134 ?_
                        obtain ⟨v33, m34, h35, hF⟩ := bd2_ok hF
                        refine q_ci S (run_V (As := []) (rest := []) C S (cX7_sharedCells_ok l G k32 h35 ad _) k32 ⟨by decide, _, _, rfl⟩ gd_RX10_229 hdV_X7_sharedCells rfl ⟨rfl, rfl, by decide, by decide⟩ ⟨Nat.zero_le _, Nat.zero_le _⟩ hl.1 rfl (Nat.le_of_ble_eq_true rfl) dX10_count_137) (fun H locs Sm34 h36 => ?_)
                        cases hF
                        exact Kr _ _ _ _ Sm34 dX10_count_140 ⟨h36.1, fun h9 => absurd h9 (by decide)⟩ rfl
                      · have hF := if_f hc31 hF
                        refine q_tout C hx1 141 dX10_count_1 (by omega) (by decide) ?_
                        refine q_iconst C (-1) dX10_count_141 ?_
                        cases hF
                        exact Kr _ _ _ _ S dX10_count_142 ⟨(rl (-1) rfl), fun h9 => absurd h9 (by decide)⟩ rfl
theorem cX10_count_ok (l : Launch) (G : Gl) {g : Shp} {x0 x1 : Int} {m m' : Mem} {r : Int} (hx0 : gk g x0 = 11) (hx1 : r32 x1) (hF : fX10_count g x0 x1 m = some (r, m')) : mI l yX10_count (wT yX10_count cX10_count 2 (some .int)) rX10_count G false (fun ad => [.ref (ad x0), .int (iI x1)]) g m r m' :=
  met_i (by decide) (fun ad => Nat.le_of_ble_eq_true rfl) (fun p e s mt args below meth c Q A H0 H locs ad ls C hnm S hl Kr => wX10_count_0 C S hx0 hx1 hl hF Kr)
