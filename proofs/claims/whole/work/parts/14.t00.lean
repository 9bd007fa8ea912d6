def bX10_init_113 (x0 x1 z0 z1 z2 : Int) (g : Shp) (m : Mem) : Option (Int × (Int × Shp × Mem)) :=
  ck ((0 : Int) ≤ z1 ∧ z1 < gl g z0) <|
  vm (ms m z0 z1 z2) fun m2 =>
  vv (w32 (x1 + 1)) fun y3 =>
  some (0, (y3, g, m2))
def bX10_init_109 (x0 x1 z0 z1 z2 : Int) (g : Shp) (m : Mem) : Option (Int × (Int × Shp × Mem)) :=
  bd3 (fX9_init z2 g m) fun v1 g2 m3 =>
  bX10_init_113 x0 x1 z0 z1 z2 g2 m3
def bX10_init_92 (x0 x1 : Int) (g : Shp) (m : Mem) : Option (Int × (Int × Shp × Mem)) :=
  ck (gk g (m x0 5) = 24) <|
  if (gl g (m x0 5)) ≤ x1 then
    some (1, (x1, g, m))
  else
    ck (gn g < 1000000 ∧ (0 : Int) ≤ 0 ∧ 0 < (1000000 : Int)) <|
    vg (gA g 10 0 9) fun g3 =>
    vm (mA g m) fun m4 =>
    vv ((gn g : Int) + 1) fun y5 =>
    bX10_init_109 x0 x1 (m x0 5) x1 y5 g3 m4
def BX10_init_92 (x0 : Int) (q : (Int × Shp × Mem)) : Option (Int × (Int × Shp × Mem)) := bX10_init_92 x0 q.1 q.2.1 q.2.2
def bX10_init_122 (x0 x1 : Int) (g : Shp) (m : Mem) : Option (Int × (Int × Mem)) :=
  if 59 ≤ x1 then
    some (1, (x1, m))
  else
    ck (gk g (m x0 0) = 9) <|
    ck ((0 : Int) ≤ x1 ∧ x1 < 59) <|
    bd2 (fX8_append g (m x0 0) (sAt x1) m) fun v4 m5 =>
    vv (w32 (x1 + 1)) fun y7 =>
    some (0, (y7, m5))
def BX10_init_122 (x0 : Int) (g : Shp) (q : (Int × Mem)) : Option (Int × (Int × Mem)) := bX10_init_122 x0 q.1 g q.2
def bX10_init_150 (x0 : Int) (g : Shp) (m : Mem) : Option (Int × Shp × Mem) :=
  bd2 (fX10_layText g x0 m) fun v1 m2 =>
  ck (gk g (m2 x0 0) = 9) <|
  vm (ms m2 (m2 x0 0) 3 0) fun m6 =>
  some (0, g, m6)
def bX10_init_120 (x0 : Int) (g : Shp) (m : Mem) : Option (Int × Shp × Mem) :=
  bdl (iter (BX10_init_122 x0 g) 100000 (0, m)) fun cv1 sv2 =>
  bX10_init_150 x0 g sv2.2
def bX10_init_87 (x0 z0 z1 : Int) (g : Shp) (m : Mem) : Option (Int × Shp × Mem) :=
  vm (ms m z0 7 z1) fun m1 =>
  bdl (iter (BX10_init_92 x0) 100000 (0, g, m1)) fun cv2 sv3 =>
  bX10_init_120 x0 sv3.2.1 sv3.2.2
def bX10_init_83 (x0 z0 z1 : Int) (g : Shp) (m : Mem) : Option (Int × Shp × Mem) :=
  bd3 (fX7_init z1 g m) fun v1 g2 m3 =>
  bX10_init_87 x0 z0 z1 g2 m3
def bX10_init_76 (x0 z0 z1 : Int) (g : Shp) (m : Mem) : Option (Int × Shp × Mem) :=
  vm (ms m z0 6 z1) fun m1 =>
  ck (gn g < 1000000 ∧ (0 : Int) ≤ 0 ∧ 0 < (1000000 : Int)) <|
  vg (gA g 8 0 6) fun g2 =>
  vm (mA g m1) fun m3 =>
  vv ((gn g : Int) + 1) fun y4 =>
  bX10_init_83 x0 x0 y4 g2 m3
def bX10_init_72 (x0 z0 z1 : Int) (g : Shp) (m : Mem) : Option (Int × Shp × Mem) :=
  bd3 (fX7_init z1 g m) fun v1 g2 m3 =>
  bX10_init_76 x0 z0 z1 g2 m3
def bX10_init_65 (x0 z0 z1 : Int) (g : Shp) (m : Mem) : Option (Int × Shp × Mem) :=
  vm (ms m z0 5 z1) fun m1 =>
  ck (gn g < 1000000 ∧ (0 : Int) ≤ 0 ∧ 0 < (1000000 : Int)) <|
  vg (gA g 8 0 6) fun g2 =>
  vm (mA g m1) fun m3 =>
  vv ((gn g : Int) + 1) fun y4 =>
  bX10_init_72 x0 x0 y4 g2 m3
def bX10_init_56 (x0 z0 z1 : Int) (g : Shp) (m : Mem) : Option (Int × Shp × Mem) :=
  vm (ms m z0 4 z1) fun m1 =>
  ck (gn g < 1000000 ∧ (0 : Int) ≤ 9 ∧ 9 < (1000000 : Int)) <|
  vg (gA g 24 9 9) fun g2 =>
  vm (mA g m1) fun m3 =>
  vv ((gn g : Int) + 1) fun y4 =>
  bX10_init_65 x0 x0 y4 g2 m3
def bX10_init_52 (x0 z0 z1 : Int) (g : Shp) (m : Mem) : Option (Int × Shp × Mem) :=
  bd3 (fX3_init z1 g m) fun v1 g2 m3 =>
  bX10_init_56 x0 z0 z1 g2 m3
def bX10_init_45 (x0 z0 z1 : Int) (g : Shp) (m : Mem) : Option (Int × Shp × Mem) :=
  vm (ms m z0 3 z1) fun m1 =>
  ck (gn g < 1000000 ∧ (0 : Int) ≤ 0 ∧ 0 < (1000000 : Int)) <|
  vg (gA g 4 0 9) fun g2 =>
  vm (mA g m1) fun m3 =>
  vv ((gn g : Int) + 1) fun y4 =>
  bX10_init_52 x0 x0 y4 g2 m3
def bX10_init_41 (x0 z0 z1 : Int) (g : Shp) (m : Mem) : Option (Int × Shp × Mem) :=
  bd3 (fX4_init z1 g m) fun v1 g2 m3 =>
  bX10_init_45 x0 z0 z1 g2 m3
def bX10_init_34 (x0 z0 z1 : Int) (g : Shp) (m : Mem) : Option (Int × Shp × Mem) :=
  vm (ms m z0 2 z1) fun m1 =>
  ck (gn g < 1000000 ∧ (0 : Int) ≤ 0 ∧ 0 < (1000000 : Int)) <|
  vg (gA g 5 0 2) fun g2 =>
  vm (mA g m1) fun m3 =>
  vv ((gn g : Int) + 1) fun y4 =>
  bX10_init_41 x0 x0 y4 g2 m3
def bX10_init_30 (x0 z0 z1 : Int) (g : Shp) (m : Mem) : Option (Int × Shp × Mem) :=
  bd3 (fX1_init z1 g m) fun v1 g2 m3 =>
  bX10_init_34 x0 z0 z1 g2 m3
def bX10_init_23 (x0 z0 z1 : Int) (g : Shp) (m : Mem) : Option (Int × Shp × Mem) :=
  vm (ms m z0 1 z1) fun m1 =>
  ck (gn g < 1000000 ∧ (0 : Int) ≤ 0 ∧ 0 < (1000000 : Int)) <|
  vg (gA g 2 0 10) fun g2 =>
  vm (mA g m1) fun m3 =>
  vv ((gn g : Int) + 1) fun y4 =>
  bX10_init_30 x0 x0 y4 g2 m3
def bX10_init_19 (x0 z0 z1 : Int) (g : Shp) (m : Mem) : Option (Int × Shp × Mem) :=
  bd3 (fX0_init z1 g m) fun v1 g2 m3 =>
  bX10_init_23 x0 z0 z1 g2 m3
def bX10_init_12 (x0 z0 z1 : Int) (g : Shp) (m : Mem) : Option (Int × Shp × Mem) :=
  vm (ms m z0 0 z1) fun m1 =>
  ck (gn g < 1000000 ∧ (0 : Int) ≤ 0 ∧ 0 < (1000000 : Int)) <|
  vg (gA g 1 0 9) fun g2 =>
  vm (mA g m1) fun m3 =>
  vv ((gn g : Int) + 1) fun y4 =>
  bX10_init_19 x0 x0 y4 g2 m3
def bX10_init_8 (x0 z0 z1 : Int) (g : Shp) (m : Mem) : Option (Int × Shp × Mem) :=
  bd3 (fX8_init z1 g m) fun v1 g2 m3 =>
  bX10_init_12 x0 z0 z1 g2 m3
def bX10_init_0 (x0 : Int) (g : Shp) (m : Mem) : Option (Int × Shp × Mem) :=
  ck (gn g < 1000000 ∧ (0 : Int) ≤ 0 ∧ 0 < (1000000 : Int)) <|
  vg (gA g 9 0 4) fun g1 =>
  vm (mA g m) fun m2 =>
  vv ((gn g : Int) + 1) fun y3 =>
  bX10_init_8 x0 x0 y3 g1 m2
def fX10_init (x0 : Int) (g : Shp) (m : Mem) : Option (Int × Shp × Mem) := bX10_init_0 x0 g m
theorem xX10_init_113 {g : Shp} {m : Mem} {x0 x1 z0 z1 z2 : Int} {c1 : Int} {s1 : (Int × Shp × Mem)} (hF : bX10_init_113 x0 x1 z0 z1 z2 g m = some (c1, s1)) (hg : gOk g) : gX g s1.2.1 ∧ gOk s1.2.1 := by
  unfold bX10_init_113 at hF
  obtain ⟨i1, hF⟩ := ck_ok hF
  obtain ⟨m2, em2, hF⟩ := vm_ok hF
  obtain ⟨y3, ey3, hF⟩ := vv_ok hF
  cases hF
  exact ⟨gX.rf _, hg⟩
set_option maxRecDepth 20000 in
theorem wX10_init_113 {p : Program} {l : Launch} {e : Env} {s : State} {mt : MethodId} {args : Array Value} {below : List Frame} {meth : Method} {c : Code} {Q : State → Prop} {G : Gl} {A : Nat → Prop} {H0 : Heap} {ad : Int → Nat} {g : Shp} {ad0 : Int → Nat} {g0 : Shp} {n0 t0 cells slots mc msl : Nat} {k v : Nat} (hnm : meth.name = "<init>") (hH0 : H0 = s.heap) (hQ : SQ A k v s s.heap) {H : Heap} {locs : List Loc} {ls : Array Slot} {m : Mem} {x0 x1 z0 z1 z2 : Int} (C : CallFix p mt c cX10_init 2 s args tb RX10) (S : Wd G A s H0 ad g m H locs) (hx0 : gk g x0 = 11) (hx1 : r32 x1) (hz0 : gk g z0 = 24) (hz1 : r32 z1) (hz2 : gk g z2 = 10) (hl : lv_has ls 2 [(0, .ref (ad x0)), (1, .int (iI x1))]) (hq : aX g0 ad0 ad ∧ gX g0 g) (hn : gn g = n0 + cells ∧ gs g = t0 + slots) {c1 : Int} {s1 : (Int × Shp × Mem)} (hF : bX10_init_113 x0 x1 z0 z1 z2 g m = some (c1, s1)) (he : gn s1.2.1 ≤ n0 + mc ∧ gs s1.2.1 ≤ t0 + msl) (K0 : c1 = 0 → ∀ (ad : Int → Nat) (H : Heap) (locs : List Loc) (ls : Array Slot) (cells slots : Nat), aX g0 ad0 ad ∧ gX g0 s1.2.1 → gn s1.2.1 = n0 + cells ∧ gs s1.2.1 = t0 + slots → gk s1.2.1 x0 = 11 → r32 s1.1 → Wd G A s H0 ad s1.2.1 s1.2.2 H locs → lv_has ls 2 [(0, .ref (ad x0)), (1, .int (iI s1.1))] → W p l e (rX10_init mc msl) s mt args below meth c H locs cells slots Q (F0 mt 92 ls [])) (K1 : c1 = 1 → ∀ (ad : Int → Nat) (H : Heap) (locs : List Loc) (ls : Array Slot) (cells slots : Nat), aX g0 ad0 ad ∧ gX g0 s1.2.1 → gn s1.2.1 = n0 + cells ∧ gs s1.2.1 = t0 + slots → gk s1.2.1 x0 = 11 → Wd G A s H0 ad s1.2.1 s1.2.2 H locs → lv_has ls 2 [(0, .ref (ad x0))] → W p l e (rX10_init mc msl) s mt args below meth c H locs cells slots Q (F0 mt 120 ls [])) : W p l e (rX10_init mc msl) s mt args below meth c H locs cells slots Q (F0 mt 113 ls [.ref (ad z2), .int (iI z1), .ref (ad z0)]) := by
  have hXx := xX10_init_113 hF S.g
  have hle : cells ≤ mc ∧ slots ≤ msl := by
    have h1 := hXx.1.1
    have h2 := hXx.1.2.1
    omega
  unfold bX10_init_113 at hF
  obtain ⟨i1, hF⟩ := ck_ok hF
  obtain ⟨m2, em2, hF⟩ := vm_ok hF
  refine q_aast C S hz0 (by decide) i1 hz2 ⟨by decide, rfl⟩ rfl (S.k hz2 (by decide)) em2 dX10_init_113 (fun H locs Sm2 => ?_)
  obtain ⟨y3, ey3, hF⟩ := vv_ok hF
  have ry3 : r32 y3 := ey3 ▸ r32_w _
  refine q_iinc C hl 1 [(1, .int (iI y3)), (0, .ref (ad x0))] rfl ey3 (by decide) rfl dX10_init_114 (fun ls hl => ?_)
  refine q_goto C 92 dX10_init_117 (by decide) ?_
  cases hF
  exact K0 rfl _ _ _ _ _ _ hq hn hx0 ry3 Sm2 (lv_sub hl [1, 0] rfl)
theorem xX10_init_109 {g : Shp} {m : Mem} {x0 x1 z0 z1 z2 : Int} {c1 : Int} {s1 : (Int × Shp × Mem)} (hF : bX10_init_109 x0 x1 z0 z1 z2 g m = some (c1, s1)) (hg : gOk g) : gX g s1.2.1 ∧ gOk s1.2.1 := by
  unfold bX10_init_109 at hF
  obtain ⟨v1, g2, m3, h4, hF⟩ := bd3_ok hF
  have hX3 := xX9_init_f h4 hg
  have hG2 := hX3.2
  have hX2 := hX3.1
  exact gX2 hX2 (xX10_init_113 hF hG2)
set_option maxRecDepth 20000 in
theorem wX10_init_109 {p : Program} {l : Launch} {e : Env} {s : State} {mt : MethodId} {args : Array Value} {below : List Frame} {meth : Method} {c : Code} {Q : State → Prop} {G : Gl} {A : Nat → Prop} {H0 : Heap} {ad : Int → Nat} {g : Shp} {ad0 : Int → Nat} {g0 : Shp} {n0 t0 cells slots mc msl : Nat} {k v : Nat} (hnm : meth.name = "<init>") (hH0 : H0 = s.heap) (hQ : SQ A k v s s.heap) {H : Heap} {locs : List Loc} {ls : Array Slot} {m : Mem} {x0 x1 z0 z1 z2 : Int} (C : CallFix p mt c cX10_init 2 s args tb RX10) (S : Wd G A s H0 ad g m H locs) (hx0 : gk g x0 = 11) (hx1 : r32 x1) (hz0 : gk g z0 = 24) (hz1 : r32 z1) (hz2 : gk g z2 = 10) (hl : lv_has ls 2 [(0, .ref (ad x0)), (1, .int (iI x1))]) (hq : aX g0 ad0 ad ∧ gX g0 g) (hn : gn g = n0 + cells ∧ gs g = t0 + slots) {c1 : Int} {s1 : (Int × Shp × Mem)} (hF : bX10_init_109 x0 x1 z0 z1 z2 g m = some (c1, s1)) (he : gn s1.2.1 ≤ n0 + mc ∧ gs s1.2.1 ≤ t0 + msl) (K0 : c1 = 0 → ∀ (ad : Int → Nat) (H : Heap) (locs : List Loc) (ls : Array Slot) (cells slots : Nat), aX g0 ad0 ad ∧ gX g0 s1.2.1 → gn s1.2.1 = n0 + cells ∧ gs s1.2.1 = t0 + slots → gk s1.2.1 x0 = 11 → r32 s1.1 → Wd G A s H0 ad s1.2.1 s1.2.2 H locs → lv_has ls 2 [(0, .ref (ad x0)), (1, .int (iI s1.1))] → W p l e (rX10_init mc msl) s mt args below meth c H locs cells slots Q (F0 mt 92 ls [])) (K1 : c1 = 1 → ∀ (ad : Int → Nat) (H : Heap) (locs : List Loc) (ls : Array Slot) (cells slots : Nat), aX g0 ad0 ad ∧ gX g0 s1.2.1 → gn s1.2.1 = n0 + cells ∧ gs s1.2.1 = t0 + slots → gk s1.2.1 x0 = 11 → Wd G A s H0 ad s1.2.1 s1.2.2 H locs → lv_has ls 2 [(0, .ref (ad x0))] → W p l e (rX10_init mc msl) s mt args below meth c H locs cells slots Q (F0 mt 120 ls [])) : W p l e (rX10_init mc msl) s mt args below meth c H locs cells slots Q (F0 mt 109 ls [.ref (ad z2), .int (iI z1), .ref (ad z0)]) := by
  have hXx := xX10_init_109 hF S.g
  have hle : cells ≤ mc ∧ slots ≤ msl := by
    have h1 := hXx.1.1
    have h2 := hXx.1.2.1
    omega
  unfold bX10_init_109 at hF
  refine q_dup C rfl dX10_init_109 ?_
  obtain ⟨v1, g2, m3, h4, hF⟩ := bd3_ok hF
  have hX3 := xX9_init_f h4 S.g
  have hG2 := hX3.2
  have hX2 := hX3.1
  have hXr := (xX10_init_113 hF hG2).1
  refine q_cvA S (run_IN (As := []) (rest := [.ref (ad z2), .int (iI z1), .ref (ad z0)]) C S (cX9_init_ok l G hz2 h4 ad _) (host := "StoneFloors") (by decide) tw271 tw72 tw270 rfl hd_X9_init rfl ⟨rfl, rfl, (Nat.le_of_ble_eq_true rfl), (Nat.le_of_ble_eq_true rfl)⟩ (by have h1 := hXr.1; have h2 := hXr.2.1; have h3 := hX2.1; have h4 := hX2.2.1; exact ⟨by show _ ≤ mc; omega, by show _ ≤ msl; omega⟩) hl.1 rfl (Nat.le_of_ble_eq_true rfl) dX10_init_110) (fun ad5 H locs hax Sm3 => ?_)
  have hq : aX g0 ad0 ad5 ∧ gX g0 g2 := ⟨hq.1.tr hq.2 hax, hq.2.tr hX2⟩
  have hn : gn g2 = n0 + (cells + (gn g2 - gn g)) ∧ gs g2 = t0 + (slots + (gs g2 - gs g)) := by have h3 := hX2.1; have h4 := hX2.2.1; omega
  have k6 := hX2.k hx0 (by decide)
  have ak6 : ad5 x0 = ad x0 := hax _ (kz hx0 (by decide))
  rw [← ak6] at hl
  have k7 := hX2.k hz0 (by decide)
  have ak7 : ad5 z0 = ad z0 := hax _ (kz hz0 (by decide))
  have k8 := hX2.k hz2 (by decide)
  have ak8 : ad5 z2 = ad z2 := hax _ (kz hz2 (by decide))
  rw [← ak7]
  rw [← ak8]
  exact wX10_init_113 hnm hH0 hQ C Sm3 k6 hx1 k7 hz1 k8 (lv_sub hl [0, 1] rfl) hq hn hF he K0 K1
theorem xX10_init_92 {g : Shp} {m : Mem} {x0 x1 : Int} {c1 : Int} {s1 : (Int × Shp × Mem)} (hF : bX10_init_92 x0 x1 g m = some (c1, s1)) (hg : gOk g) : gX g s1.2.1 ∧ gOk s1.2.1 := by
  unfold bX10_init_92 at hF
  obtain ⟨k1, hF⟩ := ck_ok hF
  by_cases hc2 : (gl g (m x0 5)) ≤ x1
  · have hF := if_t hc2 hF
    cases hF
    exact ⟨gX.rf _, hg⟩
  · have hF := if_f hc2 hF
    obtain ⟨h6, hF⟩ := ck_ok hF
    obtain ⟨g3, eg3, hF⟩ := vg_ok hF
    obtain ⟨m4, em4, hF⟩ := vm_ok hF
    obtain ⟨y5, ey5, hF⟩ := vv_ok hF
    have hG2 := gA_ok hg h6 eg3
    have hX2 := gA_X hg eg3
    exact gX2 hX2 (xX10_init_109 hF hG2)
set_option maxRecDepth 20000 in
theorem wX10_init_92 {p : Program} {l : Launch} {e : Env} {s : State} {mt : MethodId} {args : Array Value} {below : List Frame} {meth : Method} {c : Code} {Q : State → Prop} {G : Gl} {A : Nat → Prop} {H0 : Heap} {ad : Int → Nat} {g : Shp} {ad0 : Int → Nat} {g0 : Shp} {n0 t0 cells slots mc msl : Nat} {k v : Nat} (hnm : meth.name = "<init>") (hH0 : H0 = s.heap) (hQ : SQ A k v s s.heap) {H : Heap} {locs : List Loc} {ls : Array Slot} {m : Mem} {x0 x1 : Int} (C : CallFix p mt c cX10_init 2 s args tb RX10) (S : Wd G A s H0 ad g m H locs) (hx0 : gk g x0 = 11) (hx1 : r32 x1) (hl : lv_has ls 2 [(0, .ref (ad x0)), (1, .int (iI x1))]) (hq : aX g0 ad0 ad ∧ gX g0 g) (hn : gn g = n0 + cells ∧ gs g = t0 + slots) {c1 : Int} {s1 : (Int × Shp × Mem)} (hF : bX10_init_92 x0 x1 g m = some (c1, s1)) (he : gn s1.2.1 ≤ n0 + mc ∧ gs s1.2.1 ≤ t0 + msl) (K0 : c1 = 0 → ∀ (ad : Int → Nat) (H : Heap) (locs : List Loc) (ls : Array Slot) (cells slots : Nat), aX g0 ad0 ad ∧ gX g0 s1.2.1 → gn s1.2.1 = n0 + cells ∧ gs s1.2.1 = t0 + slots → gk s1.2.1 x0 = 11 → r32 s1.1 → Wd G A s H0 ad s1.2.1 s1.2.2 H locs → lv_has ls 2 [(0, .ref (ad x0)), (1, .int (iI s1.1))] → W p l e (rX10_init mc msl) s mt args below meth c H locs cells slots Q (F0 mt 92 ls [])) (K1 : c1 = 1 → ∀ (ad : Int → Nat) (H : Heap) (locs : List Loc) (ls : Array Slot) (cells slots : Nat), aX g0 ad0 ad ∧ gX g0 s1.2.1 → gn s1.2.1 = n0 + cells ∧ gs s1.2.1 = t0 + slots → gk s1.2.1 x0 = 11 → Wd G A s H0 ad s1.2.1 s1.2.2 H locs → lv_has ls 2 [(0, .ref (ad x0))] → W p l e (rX10_init mc msl) s mt args below meth c H locs cells slots Q (F0 mt 120 ls [])) : W p l e (rX10_init mc msl) s mt args below meth c H locs cells slots Q (F0 mt 92 ls []) := by
  have hXx := xX10_init_92 hF S.g
  have hle : cells ≤ mc ∧ slots ≤ msl := by
    have h1 := hXx.1.1
    have h2 := hXx.1.2.1
    omega
  unfold bX10_init_92 at hF
  refine q_iload_n C hl 1 rfl rfl dX10_init_92 ?_
  refine q_aload_n C hl 0 rfl rfl dX10_init_93 ?_
  obtain ⟨k1, hF⟩ := ck_ok hF
  refine q_getr C S 5 fo_RX10_46 (j := 5) rfl rfl hx0 k1 (by decide) dX10_init_94 ?_
  refine q_alen C S k1 (by decide) dX10_init_97 ?_
  refine q_icmp_ge C hx1 (S.l _) 120 dX10_init_98 (by decide) (fun hc2 => ?_) (fun hc2 => ?_)
  · have hF := if_t hc2 hF
    cases hF
    exact K1 rfl _ _ _ _ _ _ hq hn hx0 S (lv_sub hl [0] rfl)
  · have hF := if_f hc2 hF
    refine q_aload_n C hl 0 rfl rfl dX10_init_101 ?_
    refine q_getr C S 5 fo_RX10_46 (j := 5) rfl rfl hx0 k1 (by decide) dX10_init_102 ?_
    refine q_iload_n C hl 1 rfl rfl dX10_init_105 ?_
    obtain ⟨h6, hF⟩ := ck_ok hF
    obtain ⟨g3, eg3, hF⟩ := vg_ok hF
    obtain ⟨m4, em4, hF⟩ := vm_ok hF
    obtain ⟨y5, ey5, hF⟩ := vv_ok hF
    have hG2 := gA_ok S.g h6 eg3
    have hX2 := gA_X S.g eg3
    have hN2 := gA_n eg3
    have hXr := (xX10_init_109 hF hG2).1
    refine q_new C S nk_RX10_44 h6 (by have h1 := hXr.1; have h2 := hXr.2.1; exact ⟨by show _ ≤ mc; omega, by show _ ≤ msl; omega⟩) eg3 em4 dX10_init_106 (fun ad7 H hax Sm4 => ?_)
    rw [← ey5]
    have ky5 := gA_k eg3 ey5
    have hq : aX g0 ad0 ad7 ∧ gX g0 g3 := ⟨hq.1.tr hq.2 hax, hq.2.tr hX2⟩
    have hn : gn g3 = n0 + (cells + 1) ∧ gs g3 = t0 + (slots + 9) := by omega
    have k8 := hX2.k hx0 (by decide)
    have ak8 : ad7 x0 = ad x0 := hax _ (kz hx0 (by decide))
    rw [← ak8] at hl
    have k9 := hX2.k k1 (by decide)
    have ak9 : ad7 (m x0 5) = ad (m x0 5) := hax _ (kz k1 (by decide))
    rw [← ak9]
    exact wX10_init_109 hnm hH0 hQ C Sm4 k8 hx1 k9 hx1 ky5 (lv_sub hl [0, 1] rfl) hq hn hF he K0 K1
theorem yX10_init_92 {x0 : Int} {n : Nat} {s0 s1 : (Int × Shp × Mem)} {c1 : Int} (hI : iter (BX10_init_92 x0) n s0 = some (c1, s1)) (hg : gOk s0.2.1) : gX s0.2.1 s1.2.1 ∧ gOk s1.2.1 :=
  iter_gX (B := BX10_init_92 x0) (fun q => q.2.1) (fun s c s' hB hg => xX10_init_92 hB hg) n s0 c1 s1 hI hg
set_option maxRecDepth 20000 in
theorem lX10_init_92 {p : Program} {l : Launch} {e : Env} {s : State} {mt : MethodId} {args : Array Value} {below : List Frame} {meth : Method} {c : Code} {Q : State → Prop} {G : Gl} {A : Nat → Prop} {H0 : Heap} {ad0 : Int → Nat} {g0 : Shp} {n0 t0 mc msl : Nat} {k v : Nat} (hnm : meth.name = "<init>") (hH0 : H0 = s.heap) (hQ : SQ A k v s s.heap) {x0 : Int} (C : CallFix p mt c cX10_init 2 s args tb RX10)  {n : Nat} {s0 s1 : (Int × Shp × Mem)} {c1 : Int} (hI : iter (BX10_init_92 x0) n s0 = some (c1, s1)) (he : gn s1.2.1 ≤ n0 + mc ∧ gs s1.2.1 ≤ t0 + msl) (K1 : c1 = 1 → ∀ (ad : Int → Nat) (H : Heap) (locs : List Loc) (ls : Array Slot) (cells slots : Nat), aX g0 ad0 ad ∧ gX g0 s1.2.1 → gn s1.2.1 = n0 + cells ∧ gs s1.2.1 = t0 + slots → gk s1.2.1 x0 = 11 → Wd G A s H0 ad s1.2.1 s1.2.2 H locs → lv_has ls 2 [(0, .ref (ad x0))] → W p l e (rX10_init mc msl) s mt args below meth c H locs cells slots Q (F0 mt 120 ls [])) : ∀ (ad : Int → Nat) (H : Heap) (locs : List Loc) (ls : Array Slot) (cells slots : Nat), aX g0 ad0 ad ∧ gX g0 s0.2.1 → gn s0.2.1 = n0 + cells ∧ gs s0.2.1 = t0 + slots → gk s0.2.1 x0 = 11 → r32 s0.1 → Wd G A s H0 ad s0.2.1 s0.2.2 H locs → lv_has ls 2 [(0, .ref (ad x0)), (1, .int (iI s0.1))] → W p l e (rX10_init mc msl) s mt args below meth c H locs cells slots Q (F0 mt 92 ls []) := by
  refine iter_WA (Pw := fun q => ∀ (ad : Int → Nat) (H : Heap) (locs : List Loc) (ls : Array Slot) (cells slots : Nat), aX g0 ad0 ad ∧ gX g0 q.2.1 → gn q.2.1 = n0 + cells ∧ gs q.2.1 = t0 + slots → gk q.2.1 x0 = 11 → r32 q.1 → Wd G A s H0 ad q.2.1 q.2.2 H locs → lv_has ls 2 [(0, .ref (ad x0)), (1, .int (iI q.1))] → W p l e (rX10_init mc msl) s mt args below meth c H locs cells slots Q (F0 mt 92 ls [])) (Px := fun c0 q => (c0 = 1 → ∀ (ad : Int → Nat) (H : Heap) (locs : List Loc) (ls : Array Slot) (cells slots : Nat), aX g0 ad0 ad ∧ gX g0 q.2.1 → gn q.2.1 = n0 + cells ∧ gs q.2.1 = t0 + slots → gk q.2.1 x0 = 11 → Wd G A s H0 ad q.2.1 q.2.2 H locs → lv_has ls 2 [(0, .ref (ad x0))] → W p l e (rX10_init mc msl) s mt args below meth c H locs cells slots Q (F0 mt 120 ls []))) ?_ _ _ hI K1
  intro n s c s' hB hR K0 kx ad H locs ls cells slots hq hn f0 f1 S hl
  have hX1 := xX10_init_92 hB S.g
  have hX2 : gn s'.2.1 ≤ gn s1.2.1 ∧ gs s'.2.1 ≤ gs s1.2.1 := by
    rcases hR with ⟨_, h2⟩ | ⟨_, h2, _⟩
    · have h3 := (yX10_init_92 h2 hX1.2).1
      exact ⟨h3.1, h3.2.1⟩
    · rw [h2]; exact ⟨Nat.le_refl _, Nat.le_refl _⟩
  exact wX10_init_92 hnm hH0 hQ C S f0 f1 hl hq hn hB (by omega) K0 (fun h9 => (kx (by rw [h9]; decide)) h9)
set_option maxRecDepth 20000 in
theorem wX10_init_122 {p : Program} {l : Launch} {e : Env} {s : State} {mt : MethodId} {args : Array Value} {below : List Frame} {meth : Method} {c : Code} {Q : State → Prop} {G : Gl} {A : Nat → Prop} {H0 : Heap} {ad : Int → Nat} {g : Shp} {cells slots mc msl : Nat} {k v : Nat} (hnm : meth.name = "<init>") (hH0 : H0 = s.heap) (hQ : SQ A k v s s.heap) {H : Heap} {locs : List Loc} {ls : Array Slot} {m : Mem} {x0 x1 : Int} (C : CallFix p mt c cX10_init 2 s args tb RX10) (S : Wd G A s H0 ad g m H locs) (hx0 : gk g x0 = 11) (hx1 : r32 x1) (hl : lv_has ls 2 [(0, .ref (ad x0)), (1, .int (iI x1))]) (hle : cells ≤ mc ∧ slots ≤ msl) {c1 : Int} {s1 : (Int × Mem)} (hF : bX10_init_122 x0 x1 g m = some (c1, s1)) (K0 : c1 = 0 → ∀ (H : Heap) (locs : List Loc) (ls : Array Slot), r32 s1.1 → Wd G A s H0 ad g s1.2 H locs → lv_has ls 2 [(0, .ref (ad x0)), (1, .int (iI s1.1))] → W p l e (rX10_init mc msl) s mt args below meth c H locs cells slots Q (F0 mt 122 ls [])) (K1 : c1 = 1 → ∀ (H : Heap) (locs : List Loc) (ls : Array Slot), Wd G A s H0 ad g s1.2 H locs → lv_has ls 2 [(0, .ref (ad x0))] → W p l e (rX10_init mc msl) s mt args below meth c H locs cells slots Q (F0 mt 150 ls [])) : W p l e (rX10_init mc msl) s mt args below meth c H locs cells slots Q (F0 mt 122 ls []) := by
  unfold bX10_init_122 at hF
  refine q_iload_n C hl 1 rfl rfl dX10_init_122 ?_
  refine q_ldcs C hQ dX10_init_123 ?_
  refine q_slen C S hH0 hQ ⟨Nat.le_of_ble_eq_true rfl, Nat.le_of_ble_eq_true rfl⟩ hle hl.1 (Nat.le_of_ble_eq_true rfl) dX10_init_125 ?_
  refine q_icmp_ge C hx1 (rl 59 rfl) 150 dX10_init_128 (by decide) (fun hc1 => ?_) (fun hc1 => ?_)
  · have hF := if_t hc1 hF
    cases hF
    exact K1 rfl _ _ _  S (lv_sub hl [0] rfl)
  · have hF := if_f hc1 hF
    refine q_aload_n C hl 0 rfl rfl dX10_init_131 ?_
    obtain ⟨k2, hF⟩ := ck_ok hF
    refine q_getr C S 0 fo_RX10_12 (j := 0) rfl rfl hx0 k2 (by decide) dX10_init_132 ?_
    refine q_ldcs C hQ dX10_init_135 ?_
    refine q_iload_n C hl 1 rfl rfl dX10_init_137 ?_
    obtain ⟨i3, hF⟩ := ck_ok hF
    refine q_schar C S hH0 hQ i3 ⟨Nat.le_of_ble_eq_true rfl, Nat.le_of_ble_eq_true rfl⟩ hle hl.1 (Nat.le_of_ble_eq_true rfl) dX10_init_138 ?_
    obtain ⟨v4, m5, h6, hF⟩ := bd2_ok hF
    refine q_cv S (run_V (As := [.int (iI (sAt x1))]) (rest := []) C S (cX8_append_ok l G k2 (r32_s i3) h6 ad _) k2 ⟨by decide, _, _, rfl⟩ gd_RX10_73 hdV_X8_append rfl ⟨rfl, rfl, (Nat.le_of_ble_eq_true rfl), (Nat.le_of_ble_eq_true rfl)⟩ hle hl.1 rfl (Nat.le_of_ble_eq_true rfl) dX10_init_141) (fun H locs Sm5 => ?_)
    obtain ⟨y7, ey7, hF⟩ := vv_ok hF
    have ry7 : r32 y7 := ey7 ▸ r32_w _
    refine q_iinc C hl 1 [(1, .int (iI y7)), (0, .ref (ad x0))] rfl ey7 (by decide) rfl dX10_init_144 (fun ls hl => ?_)
    refine q_goto C 122 dX10_init_147 (by decide) ?_
    cases hF
    exact K0 rfl _ _ _ ry7 Sm5 (lv_sub hl [1, 0] rfl)
set_option maxRecDepth 20000 in
theorem lX10_init_122 {p : Program} {l : Launch} {e : Env} {s : State} {mt : MethodId} {args : Array Value} {below : List Frame} {meth : Method} {c : Code} {Q : State → Prop} {G : Gl} {A : Nat → Prop} {H0 : Heap} {ad : Int → Nat} {g : Shp} {cells slots mc msl : Nat} {k v : Nat} (hnm : meth.name = "<init>") (hH0 : H0 = s.heap) (hQ : SQ A k v s s.heap) {x0 : Int} (C : CallFix p mt c cX10_init 2 s args tb RX10) (hx0 : gk g x0 = 11) (hle : cells ≤ mc ∧ slots ≤ msl) {n : Nat} {s0 s1 : (Int × Mem)} {c1 : Int} (hI : iter (BX10_init_122 x0 g) n s0 = some (c1, s1)) (K1 : c1 = 1 → ∀ (H : Heap) (locs : List Loc) (ls : Array Slot), Wd G A s H0 ad g s1.2 H locs → lv_has ls 2 [(0, .ref (ad x0))] → W p l e (rX10_init mc msl) s mt args below meth c H locs cells slots Q (F0 mt 150 ls [])) : ∀ (H : Heap) (locs : List Loc) (ls : Array Slot), r32 s0.1 → Wd G A s H0 ad g s0.2 H locs → lv_has ls 2 [(0, .ref (ad x0)), (1, .int (iI s0.1))] → W p l e (rX10_init mc msl) s mt args below meth c H locs cells slots Q (F0 mt 122 ls []) :=
  iter_W (Pw := fun q => ∀ (H : Heap) (locs : List Loc) (ls : Array Slot), r32 q.1 → Wd G A s H0 ad g q.2 H locs → lv_has ls 2 [(0, .ref (ad x0)), (1, .int (iI q.1))] → W p l e (rX10_init mc msl) s mt args below meth c H locs cells slots Q (F0 mt 122 ls [])) (Px := fun c0 q => (c0 = 1 → ∀ (H : Heap) (locs : List Loc) (ls : Array Slot), Wd G A s H0 ad g q.2 H locs → lv_has ls 2 [(0, .ref (ad x0))] → W p l e (rX10_init mc msl) s mt args below meth c H locs cells slots Q (F0 mt 150 ls [])))
    (fun s c s' hB K0 kx H locs ls f0 S hl => wX10_init_122 hnm hH0 hQ C S hx0 f0 hl hle hB K0 (fun h9 => (kx (by rw [h9]; decide)) h9)) _ _ _ _ hI K1
theorem xX10_init_150 {g : Shp} {m : Mem} {x0 : Int} {r : Int} {g' : Shp} {m' : Mem} (hF : bX10_init_150 x0 g m = some (r, g', m')) (hg : gOk g) : gX g g' ∧ gOk g' := by
  unfold bX10_init_150 at hF
  obtain ⟨v1, m2, h3, hF⟩ := bd2_ok hF
  obtain ⟨k5, hF⟩ := ck_ok hF
  obtain ⟨m6, em6, hF⟩ := vm_ok hF
  cases hF
  exact ⟨gX.rf _, hg⟩
set_option maxRecDepth 20000 in
theorem wX10_init_150 {p : Program} {l : Launch} {e : Env} {s : State} {mt : MethodId} {args : Array Value} {below : List Frame} {meth : Method} {c : Code} {Q : State → Prop} {G : Gl} {A : Nat → Prop} {H0 : Heap} {ad : Int → Nat} {g : Shp} {ad0 : Int → Nat} {g0 : Shp} {n0 t0 cells slots mc msl : Nat} {k v : Nat} (hnm : meth.name = "<init>") (hH0 : H0 = s.heap) (hQ : SQ A k v s s.heap) {H : Heap} {locs : List Loc} {ls : Array Slot} {m : Mem} {x0 : Int} (C : CallFix p mt c cX10_init 2 s args tb RX10) (S : Wd G A s H0 ad g m H locs) (hx0 : gk g x0 = 11) (hl : lv_has ls 2 [(0, .ref (ad x0))]) (hq : aX g0 ad0 ad ∧ gX g0 g) (hn : gn g = n0 + cells ∧ gs g = t0 + slots) {r : Int} {g' : Shp} {m' : Mem} (hF : bX10_init_150 x0 g m = some (r, g', m')) (he : gn g' ≤ n0 + mc ∧ gs g' ≤ t0 + msl) (Kr : ∀ (ad : Int → Nat) (H : Heap) (locs : List Loc) (pc : Nat) (ls : Array Slot) (cells slots : Nat), aX g0 ad0 ad → gn g' = n0 + cells ∧ gs g' = t0 + slots → Wd G A s H0 ad g' m' H locs → decode cX10_init pc = .ok (.return_, 1) → W p l e (rX10_init mc msl) s mt args below meth c H locs cells slots Q (F0 mt pc ls [])) : W p l e (rX10_init mc msl) s mt args below meth c H locs cells slots Q (F0 mt 150 ls []) := by
  have hXx := xX10_init_150 hF S.g
  have hle : cells ≤ mc ∧ slots ≤ msl := by
    have h1 := hXx.1.1
    have h2 := hXx.1.2.1
    omega
  unfold bX10_init_150 at hF
  refine q_aload_n C hl 0 rfl rfl dX10_init_150 ?_
  obtain ⟨v1, m2, h3, hF⟩ := bd2_ok hF
  refine q_ci S (run_V (As := []) (rest := []) C S (cX10_layText_ok l G hx0 h3 ad _) hx0 ⟨by decide, _, _, rfl⟩ gd_RX10_77 hdV_X10_layText rfl ⟨rfl, rfl, (Nat.le_of_ble_eq_true rfl), (Nat.le_of_ble_eq_true rfl)⟩ hle hl.1 rfl (Nat.le_of_ble_eq_true rfl) dX10_init_151) (fun H locs Sm2 h4 => ?_)
  refine q_pop C rfl dX10_init_154 ?_
  refine q_aload_n C hl 0 rfl rfl dX10_init_155 ?_
  obtain ⟨k5, hF⟩ := ck_ok hF
  refine q_getr C Sm2 0 fo_RX10_12 (j := 0) rfl rfl hx0 k5 (by decide) dX10_init_156 ?_
  refine q_iconst C 0 dX10_init_159 ?_
  obtain ⟨m6, em6, hF⟩ := vm_ok hF
  refine q_put C Sm2 3 fo_RX10_80 fp_9_3 (fun h9 => absurd h9 (by decide)) (j := 3) rfl k5 rfl rfl rfl (rl 0 rfl) (fun h9 => absurd h9 (by decide)) em6 dX10_init_160 (fun H locs Sm6 => ?_)
  cases hF
  exact Kr _ _ _ _ _ _ _ hq.1 hn Sm6 dX10_init_163
theorem xX10_init_120 {g : Shp} {m : Mem} {x0 : Int} {r : Int} {g' : Shp} {m' : Mem} (hF : bX10_init_120 x0 g m = some (r, g', m')) (hg : gOk g) : gX g g' ∧ gOk g' := by
  unfold bX10_init_120 at hF
  obtain ⟨cv1, sv2, hi3, hF⟩ := bdl_ok hF
  exact xX10_init_150 hF hg
set_option maxRecDepth 20000 in
theorem wX10_init_120 {p : Program} {l : Launch} {e : Env} {s : State} {mt : MethodId} {args : Array Value} {below : List Frame} {meth : Method} {c : Code} {Q : State → Prop} {G : Gl} {A : Nat → Prop} {H0 : Heap} {ad : Int → Nat} {g : Shp} {ad0 : Int → Nat} {g0 : Shp} {n0 t0 cells slots mc msl : Nat} {k v : Nat} (hnm : meth.name = "<init>") (hH0 : H0 = s.heap) (hQ : SQ A k v s s.heap) {H : Heap} {locs : List Loc} {ls : Array Slot} {m : Mem} {x0 : Int} (C : CallFix p mt c cX10_init 2 s args tb RX10) (S : Wd G A s H0 ad g m H locs) (hx0 : gk g x0 = 11) (hl : lv_has ls 2 [(0, .ref (ad x0))]) (hq : aX g0 ad0 ad ∧ gX g0 g) (hn : gn g = n0 + cells ∧ gs g = t0 + slots) {r : Int} {g' : Shp} {m' : Mem} (hF : bX10_init_120 x0 g m = some (r, g', m')) (he : gn g' ≤ n0 + mc ∧ gs g' ≤ t0 + msl) (Kr : ∀ (ad : Int → Nat) (H : Heap) (locs : List Loc) (pc : Nat) (ls : Array Slot) (cells slots : Nat), aX g0 ad0 ad → gn g' = n0 + cells ∧ gs g' = t0 + slots → Wd G A s H0 ad g' m' H locs → decode cX10_init pc = .ok (.return_, 1) → W p l e (rX10_init mc msl) s mt args below meth c H locs cells slots Q (F0 mt pc ls [])) : W p l e (rX10_init mc msl) s mt args below meth c H locs cells slots Q (F0 mt 120 ls []) := by
  have hXx := xX10_init_120 hF S.g
  have hle : cells ≤ mc ∧ slots ≤ msl := by
    have h1 := hXx.1.1
    have h2 := hXx.1.2.1
    omega
  unfold bX10_init_120 at hF
  refine q_iconst C 0 dX10_init_120 ?_
  refine q_istore_n C hl [(1, .int (iI 0)), (0, .ref (ad x0))] rfl rfl (by decide) rfl dX10_init_121 (fun ls hl => ?_)
  obtain ⟨cv1, sv2, hi3, hF⟩ := bdl_ok hF
  refine lX10_init_122 hnm hH0 hQ C hx0 hle hi3 ?_ _ _ _ (rl 0 rfl) S (lv_sub hl [1, 0] rfl)
  intro _ H locs ls  S4 hl
  exact wX10_init_150 hnm hH0 hQ C S4 hx0 (lv_sub hl [0] rfl) hq hn hF he Kr
theorem xX10_init_87 {g : Shp} {m : Mem} {x0 z0 z1 : Int} {r : Int} {g' : Shp} {m' : Mem} (hF : bX10_init_87 x0 z0 z1 g m = some (r, g', m')) (hg : gOk g) : gX g g' ∧ gOk g' := by
  unfold bX10_init_87 at hF
  obtain ⟨m1, em1, hF⟩ := vm_ok hF
  obtain ⟨cv2, sv3, hi4, hF⟩ := bdl_ok hF
  have hy := yX10_init_92 hi4 hg
  exact gX2 hy.1 (xX10_init_120 hF hy.2)
set_option maxRecDepth 20000 in
theorem wX10_init_87 {p : Program} {l : Launch} {e : Env} {s : State} {mt : MethodId} {args : Array Value} {below : List Frame} {meth : Method} {c : Code} {Q : State → Prop} {G : Gl} {A : Nat → Prop} {H0 : Heap} {ad : Int → Nat} {g : Shp} {ad0 : Int → Nat} {g0 : Shp} {n0 t0 cells slots mc msl : Nat} {k v : Nat} (hnm : meth.name = "<init>") (hH0 : H0 = s.heap) (hQ : SQ A k v s s.heap) {H : Heap} {locs : List Loc} {ls : Array Slot} {m : Mem} {x0 z0 z1 : Int} (C : CallFix p mt c cX10_init 2 s args tb RX10) (S : Wd G A s H0 ad g m H locs) (hx0 : gk g x0 = 11) (hz0 : gk g z0 = 11) (hz1 : gk g z1 = 8) (hl : lv_has ls 2 [(0, .ref (ad x0))]) (hq : aX g0 ad0 ad ∧ gX g0 g) (hn : gn g = n0 + cells ∧ gs g = t0 + slots) {r : Int} {g' : Shp} {m' : Mem} (hF : bX10_init_87 x0 z0 z1 g m = some (r, g', m')) (he : gn g' ≤ n0 + mc ∧ gs g' ≤ t0 + msl) (Kr : ∀ (ad : Int → Nat) (H : Heap) (locs : List Loc) (pc : Nat) (ls : Array Slot) (cells slots : Nat), aX g0 ad0 ad → gn g' = n0 + cells ∧ gs g' = t0 + slots → Wd G A s H0 ad g' m' H locs → decode cX10_init pc = .ok (.return_, 1) → W p l e (rX10_init mc msl) s mt args below meth c H locs cells slots Q (F0 mt pc ls [])) : W p l e (rX10_init mc msl) s mt args below meth c H locs cells slots Q (F0 mt 87 ls [.ref (ad z1), .ref (ad z0)]) := by
  have hXx := xX10_init_87 hF S.g
  have hle : cells ≤ mc ∧ slots ≤ msl := by
    have h1 := hXx.1.1
    have h2 := hXx.1.2.1
    omega
  unfold bX10_init_87 at hF
  obtain ⟨m1, em1, hF⟩ := vm_ok hF
  refine q_put C S 7 fo_RX10_57 fp_11_7 (fun h9 => absurd h9 (by decide)) (j := 7) rfl hz0 (orf_ok S hz1 (by decide) rfl) rfl rfl (S.k hz1 (by decide)) (fun _ => kz hz1 (by decide)) em1 dX10_init_87 (fun H locs Sm1 => ?_)
  refine q_iconst C 0 dX10_init_90 ?_
  refine q_istore_n C hl [(1, .int (iI 0)), (0, .ref (ad x0))] rfl rfl (by decide) rfl dX10_init_91 (fun ls hl => ?_)
  obtain ⟨cv2, sv3, hi4, hF⟩ := bdl_ok hF
  have hy := yX10_init_92 hi4 Sm1.g
  have hXr := (xX10_init_120 hF hy.2).1
  refine lX10_init_92 hnm hH0 hQ C hi4 (by have h1 := hXr.1; have h2 := hXr.2.1; omega) ?_ _ _ _ _ _ _ hq hn hx0 (rl 0 rfl) Sm1 (lv_sub hl [1, 0] rfl)
  intro _ ad H locs ls cells slots hq hn f6 S5 hl
  exact wX10_init_120 hnm hH0 hQ C S5 f6 (lv_sub hl [0] rfl) hq hn hF he Kr
theorem xX10_init_83 {g : Shp} {m : Mem} {x0 z0 z1 : Int} {r : Int} {g' : Shp} {m' : Mem} (hF : bX10_init_83 x0 z0 z1 g m = some (r, g', m')) (hg : gOk g) : gX g g' ∧ gOk g' := by
  unfold bX10_init_83 at hF
  obtain ⟨v1, g2, m3, h4, hF⟩ := bd3_ok hF
  have hX3 := xX7_init_f h4 hg
  have hG2 := hX3.2
  have hX2 := hX3.1
  exact gX2 hX2 (xX10_init_87 hF hG2)
set_option maxRecDepth 20000 in
theorem wX10_init_83 {p : Program} {l : Launch} {e : Env} {s : State} {mt : MethodId} {args : Array Value} {below : List Frame} {meth : Method} {c : Code} {Q : State → Prop} {G : Gl} {A : Nat → Prop} {H0 : Heap} {ad : Int → Nat} {g : Shp} {ad0 : Int → Nat} {g0 : Shp} {n0 t0 cells slots mc msl : Nat} {k v : Nat} (hnm : meth.name = "<init>") (hH0 : H0 = s.heap) (hQ : SQ A k v s s.heap) {H : Heap} {locs : List Loc} {ls : Array Slot} {m : Mem} {x0 z0 z1 : Int} (C : CallFix p mt c cX10_init 2 s args tb RX10) (S : Wd G A s H0 ad g m H locs) (hx0 : gk g x0 = 11) (hz0 : gk g z0 = 11) (hz1 : gk g z1 = 8) (hl : lv_has ls 2 [(0, .ref (ad x0))]) (hq : aX g0 ad0 ad ∧ gX g0 g) (hn : gn g = n0 + cells ∧ gs g = t0 + slots) {r : Int} {g' : Shp} {m' : Mem} (hF : bX10_init_83 x0 z0 z1 g m = some (r, g', m')) (he : gn g' ≤ n0 + mc ∧ gs g' ≤ t0 + msl) (Kr : ∀ (ad : Int → Nat) (H : Heap) (locs : List Loc) (pc : Nat) (ls : Array Slot) (cells slots : Nat), aX g0 ad0 ad → gn g' = n0 + cells ∧ gs g' = t0 + slots → Wd G A s H0 ad g' m' H locs → decode cX10_init pc = .ok (.return_, 1) → W p l e (rX10_init mc msl) s mt args below meth c H locs cells slots Q (F0 mt pc ls [])) : W p l e (rX10_init mc msl) s mt args below meth c H locs cells slots Q (F0 mt 83 ls [.ref (ad z1), .ref (ad z0)]) := by
  have hXx := xX10_init_83 hF S.g
  have hle : cells ≤ mc ∧ slots ≤ msl := by
    have h1 := hXx.1.1
    have h2 := hXx.1.2.1
    omega
  unfold bX10_init_83 at hF
  refine q_dup C rfl dX10_init_83 ?_
  obtain ⟨v1, g2, m3, h4, hF⟩ := bd3_ok hF
  have hX3 := xX7_init_f h4 S.g
  have hG2 := hX3.2
  have hX2 := hX3.1
  have hXr := (xX10_init_87 hF hG2).1
  refine q_cvA S (run_I (As := []) (rest := [.ref (ad z1), .ref (ad z0)]) C S (cX7_init_ok l G hz1 h4 ad _) tw357 tw73 tw355 tw356 rfl hd_X7_init rfl ⟨rfl, rfl, (Nat.le_of_ble_eq_true rfl), (Nat.le_of_ble_eq_true rfl)⟩ (by have h1 := hXr.1; have h2 := hXr.2.1; have h3 := hX2.1; have h4 := hX2.2.1; exact ⟨by show _ ≤ mc; omega, by show _ ≤ msl; omega⟩) hl.1 rfl (Nat.le_of_ble_eq_true rfl) dX10_init_84) (fun ad5 H locs hax Sm3 => ?_)
  have hq : aX g0 ad0 ad5 ∧ gX g0 g2 := ⟨hq.1.tr hq.2 hax, hq.2.tr hX2⟩
  have hn : gn g2 = n0 + (cells + (gn g2 - gn g)) ∧ gs g2 = t0 + (slots + (gs g2 - gs g)) := by have h3 := hX2.1; have h4 := hX2.2.1; omega
  have k6 := hX2.k hx0 (by decide)
  have ak6 : ad5 x0 = ad x0 := hax _ (kz hx0 (by decide))
  rw [← ak6] at hl
  have k7 := hX2.k hz0 (by decide)
  have ak7 : ad5 z0 = ad z0 := hax _ (kz hz0 (by decide))
  have k8 := hX2.k hz1 (by decide)
  have ak8 : ad5 z1 = ad z1 := hax _ (kz hz1 (by decide))
  rw [← ak7]
  rw [← ak8]
  exact wX10_init_87 hnm hH0 hQ C Sm3 k6 k7 k8 (lv_sub hl [0] rfl) hq hn hF he Kr
theorem xX10_init_76 {g : Shp} {m : Mem} {x0 z0 z1 : Int} {r : Int} {g' : Shp} {m' : Mem} (hF : bX10_init_76 x0 z0 z1 g m = some (r, g', m')) (hg : gOk g) : gX g g' ∧ gOk g' := by
  unfold bX10_init_76 at hF
  obtain ⟨m1, em1, hF⟩ := vm_ok hF
  obtain ⟨h5, hF⟩ := ck_ok hF
  obtain ⟨g2, eg2, hF⟩ := vg_ok hF
  obtain ⟨m3, em3, hF⟩ := vm_ok hF
  obtain ⟨y4, ey4, hF⟩ := vv_ok hF
  have hG2 := gA_ok hg h5 eg2
  have hX2 := gA_X hg eg2
  exact gX2 hX2 (xX10_init_83 hF hG2)
set_option maxRecDepth 20000 in
theorem wX10_init_76 {p : Program} {l : Launch} {e : Env} {s : State} {mt : MethodId} {args : Array Value} {below : List Frame} {meth : Method} {c : Code} {Q : State → Prop} {G : Gl} {A : Nat → Prop} {H0 : Heap} {ad : Int → Nat} {g : Shp} {ad0 : Int → Nat} {g0 : Shp} {n0 t0 cells slots mc msl : Nat} {k v : Nat} (hnm : meth.name = "<init>") (hH0 : H0 = s.heap) (hQ : SQ A k v s s.heap) {H : Heap} {locs : List Loc} {ls : Array Slot} {m : Mem} {x0 z0 z1 : Int} (C : CallFix p mt c cX10_init 2 s args tb RX10) (S : Wd G A s H0 ad g m H locs) (hx0 : gk g x0 = 11) (hz0 : gk g z0 = 11) (hz1 : gk g z1 = 8) (hl : lv_has ls 2 [(0, .ref (ad x0))]) (hq : aX g0 ad0 ad ∧ gX g0 g) (hn : gn g = n0 + cells ∧ gs g = t0 + slots) {r : Int} {g' : Shp} {m' : Mem} (hF : bX10_init_76 x0 z0 z1 g m = some (r, g', m')) (he : gn g' ≤ n0 + mc ∧ gs g' ≤ t0 + msl) (Kr : ∀ (ad : Int → Nat) (H : Heap) (locs : List Loc) (pc : Nat) (ls : Array Slot) (cells slots : Nat), aX g0 ad0 ad → gn g' = n0 + cells ∧ gs g' = t0 + slots → Wd G A s H0 ad g' m' H locs → decode cX10_init pc = .ok (.return_, 1) → W p l e (rX10_init mc msl) s mt args below meth c H locs cells slots Q (F0 mt pc ls [])) : W p l e (rX10_init mc msl) s mt args below meth c H locs cells slots Q (F0 mt 76 ls [.ref (ad z1), .ref (ad z0)]) := by
  have hXx := xX10_init_76 hF S.g
  have hle : cells ≤ mc ∧ slots ≤ msl := by
    have h1 := hXx.1.1
    have h2 := hXx.1.2.1
    omega
  unfold bX10_init_76 at hF
  obtain ⟨m1, em1, hF⟩ := vm_ok hF
  refine q_put C S 6 fo_RX10_53 fp_11_6 (fun h9 => absurd h9 (by decide)) (j := 6) rfl hz0 (orf_ok S hz1 (by decide) rfl) rfl rfl (S.k hz1 (by decide)) (fun _ => kz hz1 (by decide)) em1 dX10_init_76 (fun H locs Sm1 => ?_)
  refine q_aload_n C hl 0 rfl rfl dX10_init_79 ?_
  obtain ⟨h5, hF⟩ := ck_ok hF
  obtain ⟨g2, eg2, hF⟩ := vg_ok hF
  obtain ⟨m3, em3, hF⟩ := vm_ok hF
  obtain ⟨y4, ey4, hF⟩ := vv_ok hF
  have hG2 := gA_ok Sm1.g h5 eg2
  have hX2 := gA_X Sm1.g eg2
  have hN2 := gA_n eg2
  have hXr := (xX10_init_83 hF hG2).1
  refine q_new C Sm1 nk_RX10_50 h5 (by have h1 := hXr.1; have h2 := hXr.2.1; exact ⟨by show _ ≤ mc; omega, by show _ ≤ msl; omega⟩) eg2 em3 dX10_init_80 (fun ad6 H hax Sm3 => ?_)
  rw [← ey4]
  have ky4 := gA_k eg2 ey4
  have hq : aX g0 ad0 ad6 ∧ gX g0 g2 := ⟨hq.1.tr hq.2 hax, hq.2.tr hX2⟩
  have hn : gn g2 = n0 + (cells + 1) ∧ gs g2 = t0 + (slots + 6) := by omega
  have k7 := hX2.k hx0 (by decide)
  have ak7 : ad6 x0 = ad x0 := hax _ (kz hx0 (by decide))
  rw [← ak7] at hl
  rw [← ak7]
  exact wX10_init_83 hnm hH0 hQ C Sm3 k7 k7 ky4 (lv_sub hl [0] rfl) hq hn hF he Kr
theorem xX10_init_72 {g : Shp} {m : Mem} {x0 z0 z1 : Int} {r : Int} {g' : Shp} {m' : Mem} (hF : bX10_init_72 x0 z0 z1 g m = some (r, g', m')) (hg : gOk g) : gX g g' ∧ gOk g' := by
  unfold bX10_init_72 at hF
  obtain ⟨v1, g2, m3, h4, hF⟩ := bd3_ok hF
  have hX3 := xX7_init_f h4 hg
  have hG2 := hX3.2
  have hX2 := hX3.1
  exact gX2 hX2 (xX10_init_76 hF hG2)
set_option maxRecDepth 20000 in
theorem wX10_init_72 {p : Program} {l : Launch} {e : Env} {s : State} {mt : MethodId} {args : Array Value} {below : List Frame} {meth : Method} {c : Code} {Q : State → Prop} {G : Gl} {A : Nat → Prop} {H0 : Heap} {ad : Int → Nat} {g : Shp} {ad0 : Int → Nat} {g0 : Shp} {n0 t0 cells slots mc msl : Nat} {k v : Nat} (hnm : meth.name = "<init>") (hH0 : H0 = s.heap) (hQ : SQ A k v s s.heap) {H : Heap} {locs : List Loc} {ls : Array Slot} {m : Mem} {x0 z0 z1 : Int} (C : CallFix p mt c cX10_init 2 s args tb RX10) (S : Wd G A s H0 ad g m H locs) (hx0 : gk g x0 = 11) (hz0 : gk g z0 = 11) (hz1 : gk g z1 = 8) (hl : lv_has ls 2 [(0, .ref (ad x0))]) (hq : aX g0 ad0 ad ∧ gX g0 g) (hn : gn g = n0 + cells ∧ gs g = t0 + slots) {r : Int} {g' : Shp} {m' : Mem} (hF : bX10_init_72 x0 z0 z1 g m = some (r, g', m')) (he : gn g' ≤ n0 + mc ∧ gs g' ≤ t0 + msl) (Kr : ∀ (ad : Int → Nat) (H : Heap) (locs : List Loc) (pc : Nat) (ls : Array Slot) (cells slots : Nat), aX g0 ad0 ad → gn g' = n0 + cells ∧ gs g' = t0 + slots → Wd G A s H0 ad g' m' H locs → decode cX10_init pc = .ok (.return_, 1) → W p l e (rX10_init mc msl) s mt args below meth c H locs cells slots Q (F0 mt pc ls [])) : W p l e (rX10_init mc msl) s mt args below meth c H locs cells slots Q (F0 mt 72 ls [.ref (ad z1), .ref (ad z0)]) := by
  have hXx := xX10_init_72 hF S.g
  have hle : cells ≤ mc ∧ slots ≤ msl := by
    have h1 := hXx.1.1
    have h2 := hXx.1.2.1
    omega
  unfold bX10_init_72 at hF
  refine q_dup C rfl dX10_init_72 ?_
  obtain ⟨v1, g2, m3, h4, hF⟩ := bd3_ok hF
  have hX3 := xX7_init_f h4 S.g
  have hG2 := hX3.2
  have hX2 := hX3.1
  have hXr := (xX10_init_76 hF hG2).1
  refine q_cvA S (run_I (As := []) (rest := [.ref (ad z1), .ref (ad z0)]) C S (cX7_init_ok l G hz1 h4 ad _) tw357 tw73 tw355 tw356 rfl hd_X7_init rfl ⟨rfl, rfl, (Nat.le_of_ble_eq_true rfl), (Nat.le_of_ble_eq_true rfl)⟩ (by have h1 := hXr.1; have h2 := hXr.2.1; have h3 := hX2.1; have h4 := hX2.2.1; exact ⟨by show _ ≤ mc; omega, by show _ ≤ msl; omega⟩) hl.1 rfl (Nat.le_of_ble_eq_true rfl) dX10_init_73) (fun ad5 H locs hax Sm3 => ?_)
  have hq : aX g0 ad0 ad5 ∧ gX g0 g2 := ⟨hq.1.tr hq.2 hax, hq.2.tr hX2⟩
  have hn : gn g2 = n0 + (cells + (gn g2 - gn g)) ∧ gs g2 = t0 + (slots + (gs g2 - gs g)) := by have h3 := hX2.1; have h4 := hX2.2.1; omega
  have k6 := hX2.k hx0 (by decide)
  have ak6 : ad5 x0 = ad x0 := hax _ (kz hx0 (by decide))
  rw [← ak6] at hl
  have k7 := hX2.k hz0 (by decide)
  have ak7 : ad5 z0 = ad z0 := hax _ (kz hz0 (by decide))
  have k8 := hX2.k hz1 (by decide)
  have ak8 : ad5 z1 = ad z1 := hax _ (kz hz1 (by decide))
  rw [← ak7]
  rw [← ak8]
  exact wX10_init_76 hnm hH0 hQ C Sm3 k6 k7 k8 (lv_sub hl [0] rfl) hq hn hF he Kr
theorem xX10_init_65 {g : Shp} {m : Mem} {x0 z0 z1 : Int} {r : Int} {g' : Shp} {m' : Mem} (hF : bX10_init_65 x0 z0 z1 g m = some (r, g', m')) (hg : gOk g) : gX g g' ∧ gOk g' := by
  unfold bX10_init_65 at hF
  obtain ⟨m1, em1, hF⟩ := vm_ok hF
  obtain ⟨h5, hF⟩ := ck_ok hF
  obtain ⟨g2, eg2, hF⟩ := vg_ok hF
  obtain ⟨m3, em3, hF⟩ := vm_ok hF
  obtain ⟨y4, ey4, hF⟩ := vv_ok hF
  have hG2 := gA_ok hg h5 eg2
  have hX2 := gA_X hg eg2
  exact gX2 hX2 (xX10_init_72 hF hG2)
set_option maxRecDepth 20000 in
theorem wX10_init_65 {p : Program} {l : Launch} {e : Env} {s : State} {mt : MethodId} {args : Array Value} {below : List Frame} {meth : Method} {c : Code} {Q : State → Prop} {G : Gl} {A : Nat → Prop} {H0 : Heap} {ad : Int → Nat} {g : Shp} {ad0 : Int → Nat} {g0 : Shp} {n0 t0 cells slots mc msl : Nat} {k v : Nat} (hnm : meth.name = "<init>") (hH0 : H0 = s.heap) (hQ : SQ A k v s s.heap) {H : Heap} {locs : List Loc} {ls : Array Slot} {m : Mem} {x0 z0 z1 : Int} (C : CallFix p mt c cX10_init 2 s args tb RX10) (S : Wd G A s H0 ad g m H locs) (hx0 : gk g x0 = 11) (hz0 : gk g z0 = 11) (hz1 : gk g z1 = 24) (hl : lv_has ls 2 [(0, .ref (ad x0))]) (hq : aX g0 ad0 ad ∧ gX g0 g) (hn : gn g = n0 + cells ∧ gs g = t0 + slots) {r : Int} {g' : Shp} {m' : Mem} (hF : bX10_init_65 x0 z0 z1 g m = some (r, g', m')) (he : gn g' ≤ n0 + mc ∧ gs g' ≤ t0 + msl) (Kr : ∀ (ad : Int → Nat) (H : Heap) (locs : List Loc) (pc : Nat) (ls : Array Slot) (cells slots : Nat), aX g0 ad0 ad → gn g' = n0 + cells ∧ gs g' = t0 + slots → Wd G A s H0 ad g' m' H locs → decode cX10_init pc = .ok (.return_, 1) → W p l e (rX10_init mc msl) s mt args below meth c H locs cells slots Q (F0 mt pc ls [])) : W p l e (rX10_init mc msl) s mt args below meth c H locs cells slots Q (F0 mt 65 ls [.ref (ad z1), .ref (ad z0)]) := by
  have hXx := xX10_init_65 hF S.g
  have hle : cells ≤ mc ∧ slots ≤ msl := by
    have h1 := hXx.1.1
    have h2 := hXx.1.2.1
    omega
  unfold bX10_init_65 at hF
  obtain ⟨m1, em1, hF⟩ := vm_ok hF
  refine q_put C S 5 fo_RX10_46 fp_11_5 (fun _ => ⟨hnm, rfl⟩) (j := 5) rfl hz0 (orf_ok S hz1 (by decide) rfl) rfl rfl (S.k hz1 (by decide)) (fun _ => kz hz1 (by decide)) em1 dX10_init_65 (fun H locs Sm1 => ?_)
  refine q_aload_n C hl 0 rfl rfl dX10_init_68 ?_
  obtain ⟨h5, hF⟩ := ck_ok hF
  obtain ⟨g2, eg2, hF⟩ := vg_ok hF
  obtain ⟨m3, em3, hF⟩ := vm_ok hF
  obtain ⟨y4, ey4, hF⟩ := vv_ok hF
  have hG2 := gA_ok Sm1.g h5 eg2
  have hX2 := gA_X Sm1.g eg2
  have hN2 := gA_n eg2
  have hXr := (xX10_init_72 hF hG2).1
  refine q_new C Sm1 nk_RX10_50 h5 (by have h1 := hXr.1; have h2 := hXr.2.1; exact ⟨by show _ ≤ mc; omega, by show _ ≤ msl; omega⟩) eg2 em3 dX10_init_69 (fun ad6 H hax Sm3 => ?_)
  rw [← ey4]
  have ky4 := gA_k eg2 ey4
  have hq : aX g0 ad0 ad6 ∧ gX g0 g2 := ⟨hq.1.tr hq.2 hax, hq.2.tr hX2⟩
  have hn : gn g2 = n0 + (cells + 1) ∧ gs g2 = t0 + (slots + 6) := by omega
  have k7 := hX2.k hx0 (by decide)
  have ak7 : ad6 x0 = ad x0 := hax _ (kz hx0 (by decide))
  rw [← ak7] at hl
  rw [← ak7]
  exact wX10_init_72 hnm hH0 hQ C Sm3 k7 k7 ky4 (lv_sub hl [0] rfl) hq hn hF he Kr
theorem xX10_init_56 {g : Shp} {m : Mem} {x0 z0 z1 : Int} {r : Int} {g' : Shp} {m' : Mem} (hF : bX10_init_56 x0 z0 z1 g m = some (r, g', m')) (hg : gOk g) : gX g g' ∧ gOk g' := by
  unfold bX10_init_56 at hF
  obtain ⟨m1, em1, hF⟩ := vm_ok hF
  obtain ⟨h5, hF⟩ := ck_ok hF
  obtain ⟨g2, eg2, hF⟩ := vg_ok hF
  obtain ⟨m3, em3, hF⟩ := vm_ok hF
  obtain ⟨y4, ey4, hF⟩ := vv_ok hF
  have hG2 := gA_ok hg h5 eg2
  have hX2 := gA_X hg eg2
  exact gX2 hX2 (xX10_init_65 hF hG2)
set_option maxRecDepth 20000 in
theorem wX10_init_56 {p : Program} {l : Launch} {e : Env} {s : State} {mt : MethodId} {args : Array Value} {below : List Frame} {meth : Method} {c : Code} {Q : State → Prop} {G : Gl} {A : Nat → Prop} {H0 : Heap} {ad : Int → Nat} {g : Shp} {ad0 : Int → Nat} {g0 : Shp} {n0 t0 cells slots mc msl : Nat} {k v : Nat} (hnm : meth.name = "<init>") (hH0 : H0 = s.heap) (hQ : SQ A k v s s.heap) {H : Heap} {locs : List Loc} {ls : Array Slot} {m : Mem} {x0 z0 z1 : Int} (C : CallFix p mt c cX10_init 2 s args tb RX10) (S : Wd G A s H0 ad g m H locs) (hx0 : gk g x0 = 11) (hz0 : gk g z0 = 11) (hz1 : gk g z1 = 4) (hl : lv_has ls 2 [(0, .ref (ad x0))]) (hq : aX g0 ad0 ad ∧ gX g0 g) (hn : gn g = n0 + cells ∧ gs g = t0 + slots) {r : Int} {g' : Shp} {m' : Mem} (hF : bX10_init_56 x0 z0 z1 g m = some (r, g', m')) (he : gn g' ≤ n0 + mc ∧ gs g' ≤ t0 + msl) (Kr : ∀ (ad : Int → Nat) (H : Heap) (locs : List Loc) (pc : Nat) (ls : Array Slot) (cells slots : Nat), aX g0 ad0 ad → gn g' = n0 + cells ∧ gs g' = t0 + slots → Wd G A s H0 ad g' m' H locs → decode cX10_init pc = .ok (.return_, 1) → W p l e (rX10_init mc msl) s mt args below meth c H locs cells slots Q (F0 mt pc ls [])) : W p l e (rX10_init mc msl) s mt args below meth c H locs cells slots Q (F0 mt 56 ls [.ref (ad z1), .ref (ad z0)]) := by
  have hXx := xX10_init_56 hF S.g
  have hle : cells ≤ mc ∧ slots ≤ msl := by
    have h1 := hXx.1.1
    have h2 := hXx.1.2.1
    omega
  unfold bX10_init_56 at hF
  obtain ⟨m1, em1, hF⟩ := vm_ok hF
  refine q_put C S 4 fo_RX10_40 fp_11_4 (fun _ => ⟨hnm, rfl⟩) (j := 4) rfl hz0 (orf_ok S hz1 (by decide) rfl) rfl rfl (S.k hz1 (by decide)) (fun _ => kz hz1 (by decide)) em1 dX10_init_56 (fun H locs Sm1 => ?_)
  refine q_aload_n C hl 0 rfl rfl dX10_init_59 ?_
  refine q_bipush C 9 (by decide) dX10_init_60 ?_
  obtain ⟨h5, hF⟩ := ck_ok hF
  obtain ⟨g2, eg2, hF⟩ := vg_ok hF
  obtain ⟨m3, em3, hF⟩ := vm_ok hF
  obtain ⟨y4, ey4, hF⟩ := vv_ok hF
  have hG2 := gA_ok Sm1.g h5 eg2
  have hX2 := gA_X Sm1.g eg2
  have hN2 := gA_n eg2
  have hXr := (xX10_init_65 hF hG2).1
  refine q_newq C Sm1 rfl (Or.inr (Or.inl ⟨rfl, rfl⟩)) tw351 h5 (by have h1 := hXr.1; have h2 := hXr.2.1; exact ⟨by show _ ≤ mc; omega, by show _ ≤ msl; omega⟩) eg2 em3 dX10_init_62 (fun ad6 H hax Sm3 => ?_)
  rw [← ey4]
  have ky4 := gA_k eg2 ey4
  have hq : aX g0 ad0 ad6 ∧ gX g0 g2 := ⟨hq.1.tr hq.2 hax, hq.2.tr hX2⟩
  have hn : gn g2 = n0 + (cells + 1) ∧ gs g2 = t0 + (slots + 9) := by omega
  have k7 := hX2.k hx0 (by decide)
  have ak7 : ad6 x0 = ad x0 := hax _ (kz hx0 (by decide))
  rw [← ak7] at hl
  rw [← ak7]
  exact wX10_init_65 hnm hH0 hQ C Sm3 k7 k7 ky4 (lv_sub hl [0] rfl) hq hn hF he Kr
theorem xX10_init_52 {g : Shp} {m : Mem} {x0 z0 z1 : Int} {r : Int} {g' : Shp} {m' : Mem} (hF : bX10_init_52 x0 z0 z1 g m = some (r, g', m')) (hg : gOk g) : gX g g' ∧ gOk g' := by
  unfold bX10_init_52 at hF
  obtain ⟨v1, g2, m3, h4, hF⟩ := bd3_ok hF
  have hX3 := xX3_init_f h4 hg
  have hG2 := hX3.2
  have hX2 := hX3.1
  exact gX2 hX2 (xX10_init_56 hF hG2)
set_option maxRecDepth 20000 in
theorem wX10_init_52 {p : Program} {l : Launch} {e : Env} {s : State} {mt : MethodId} {args : Array Value} {below : List Frame} {meth : Method} {c : Code} {Q : State → Prop} {G : Gl} {A : Nat → Prop} {H0 : Heap} {ad : Int → Nat} {g : Shp} {ad0 : Int → Nat} {g0 : Shp} {n0 t0 cells slots mc msl : Nat} {k v : Nat} (hnm : meth.name = "<init>") (hH0 : H0 = s.heap) (hQ : SQ A k v s s.heap) {H : Heap} {locs : List Loc} {ls : Array Slot} {m : Mem} {x0 z0 z1 : Int} (C : CallFix p mt c cX10_init 2 s args tb RX10) (S : Wd G A s H0 ad g m H locs) (hx0 : gk g x0 = 11) (hz0 : gk g z0 = 11) (hz1 : gk g z1 = 4) (hl : lv_has ls 2 [(0, .ref (ad x0))]) (hq : aX g0 ad0 ad ∧ gX g0 g) (hn : gn g = n0 + cells ∧ gs g = t0 + slots) {r : Int} {g' : Shp} {m' : Mem} (hF : bX10_init_52 x0 z0 z1 g m = some (r, g', m')) (he : gn g' ≤ n0 + mc ∧ gs g' ≤ t0 + msl) (Kr : ∀ (ad : Int → Nat) (H : Heap) (locs : List Loc) (pc : Nat) (ls : Array Slot) (cells slots : Nat), aX g0 ad0 ad → gn g' = n0 + cells ∧ gs g' = t0 + slots → Wd G A s H0 ad g' m' H locs → decode cX10_init pc = .ok (.return_, 1) → W p l e (rX10_init mc msl) s mt args below meth c H locs cells slots Q (F0 mt pc ls [])) : W p l e (rX10_init mc msl) s mt args below meth c H locs cells slots Q (F0 mt 52 ls [.ref (ad z1), .ref (ad z0)]) := by
  have hXx := xX10_init_52 hF S.g
  have hle : cells ≤ mc ∧ slots ≤ msl := by
    have h1 := hXx.1.1
    have h2 := hXx.1.2.1
    omega
  unfold bX10_init_52 at hF
  refine q_dup C rfl dX10_init_52 ?_
  obtain ⟨v1, g2, m3, h4, hF⟩ := bd3_ok hF
  have hX3 := xX3_init_f h4 S.g
  have hG2 := hX3.2
  have hX2 := hX3.1
  have hXr := (xX10_init_56 hF hG2).1
  refine q_cvA S (run_I (As := []) (rest := [.ref (ad z1), .ref (ad z0)]) C S (cX3_init_ok l G hz1 h4 ad _) tw264 tw71 tw262 tw263 rfl hd_X3_init rfl ⟨rfl, rfl, (Nat.le_of_ble_eq_true rfl), (Nat.le_of_ble_eq_true rfl)⟩ (by have h1 := hXr.1; have h2 := hXr.2.1; have h3 := hX2.1; have h4 := hX2.2.1; exact ⟨by show _ ≤ mc; omega, by show _ ≤ msl; omega⟩) hl.1 rfl (Nat.le_of_ble_eq_true rfl) dX10_init_53) (fun ad5 H locs hax Sm3 => ?_)
  have hq : aX g0 ad0 ad5 ∧ gX g0 g2 := ⟨hq.1.tr hq.2 hax, hq.2.tr hX2⟩
  have hn : gn g2 = n0 + (cells + (gn g2 - gn g)) ∧ gs g2 = t0 + (slots + (gs g2 - gs g)) := by have h3 := hX2.1; have h4 := hX2.2.1; omega
  have k6 := hX2.k hx0 (by decide)
  have ak6 : ad5 x0 = ad x0 := hax _ (kz hx0 (by decide))
  rw [← ak6] at hl
  have k7 := hX2.k hz0 (by decide)
  have ak7 : ad5 z0 = ad z0 := hax _ (kz hz0 (by decide))
  have k8 := hX2.k hz1 (by decide)
  have ak8 : ad5 z1 = ad z1 := hax _ (kz hz1 (by decide))
  rw [← ak7]
  rw [← ak8]
  exact wX10_init_56 hnm hH0 hQ C Sm3 k6 k7 k8 (lv_sub hl [0] rfl) hq hn hF he Kr
theorem xX10_init_45 {g : Shp} {m : Mem} {x0 z0 z1 : Int} {r : Int} {g' : Shp} {m' : Mem} (hF : bX10_init_45 x0 z0 z1 g m = some (r, g', m')) (hg : gOk g) : gX g g' ∧ gOk g' := by
  unfold bX10_init_45 at hF
  obtain ⟨m1, em1, hF⟩ := vm_ok hF
  obtain ⟨h5, hF⟩ := ck_ok hF
  obtain ⟨g2, eg2, hF⟩ := vg_ok hF
  obtain ⟨m3, em3, hF⟩ := vm_ok hF
  obtain ⟨y4, ey4, hF⟩ := vv_ok hF
  have hG2 := gA_ok hg h5 eg2
  have hX2 := gA_X hg eg2
  exact gX2 hX2 (xX10_init_52 hF hG2)
set_option maxRecDepth 20000 in
theorem wX10_init_45 {p : Program} {l : Launch} {e : Env} {s : State} {mt : MethodId} {args : Array Value} {below : List Frame} {meth : Method} {c : Code} {Q : State → Prop} {G : Gl} {A : Nat → Prop} {H0 : Heap} {ad : Int → Nat} {g : Shp} {ad0 : Int → Nat} {g0 : Shp} {n0 t0 cells slots mc msl : Nat} {k v : Nat} (hnm : meth.name = "<init>") (hH0 : H0 = s.heap) (hQ : SQ A k v s s.heap) {H : Heap} {locs : List Loc} {ls : Array Slot} {m : Mem} {x0 z0 z1 : Int} (C : CallFix p mt c cX10_init 2 s args tb RX10) (S : Wd G A s H0 ad g m H locs) (hx0 : gk g x0 = 11) (hz0 : gk g z0 = 11) (hz1 : gk g z1 = 5) (hl : lv_has ls 2 [(0, .ref (ad x0))]) (hq : aX g0 ad0 ad ∧ gX g0 g) (hn : gn g = n0 + cells ∧ gs g = t0 + slots) {r : Int} {g' : Shp} {m' : Mem} (hF : bX10_init_45 x0 z0 z1 g m = some (r, g', m')) (he : gn g' ≤ n0 + mc ∧ gs g' ≤ t0 + msl) (Kr : ∀ (ad : Int → Nat) (H : Heap) (locs : List Loc) (pc : Nat) (ls : Array Slot) (cells slots : Nat), aX g0 ad0 ad → gn g' = n0 + cells ∧ gs g' = t0 + slots → Wd G A s H0 ad g' m' H locs → decode cX10_init pc = .ok (.return_, 1) → W p l e (rX10_init mc msl) s mt args below meth c H locs cells slots Q (F0 mt pc ls [])) : W p l e (rX10_init mc msl) s mt args below meth c H locs cells slots Q (F0 mt 45 ls [.ref (ad z1), .ref (ad z0)]) := by
  have hXx := xX10_init_45 hF S.g
  have hle : cells ≤ mc ∧ slots ≤ msl := by
    have h1 := hXx.1.1
    have h2 := hXx.1.2.1
    omega
  unfold bX10_init_45 at hF
  obtain ⟨m1, em1, hF⟩ := vm_ok hF
  refine q_put C S 3 fo_RX10_33 fp_11_3 (fun _ => ⟨hnm, rfl⟩) (j := 3) rfl hz0 (orf_ok S hz1 (by decide) rfl) rfl rfl (S.k hz1 (by decide)) (fun _ => kz hz1 (by decide)) em1 dX10_init_45 (fun H locs Sm1 => ?_)
  refine q_aload_n C hl 0 rfl rfl dX10_init_48 ?_
  obtain ⟨h5, hF⟩ := ck_ok hF
  obtain ⟨g2, eg2, hF⟩ := vg_ok hF
  obtain ⟨m3, em3, hF⟩ := vm_ok hF
  obtain ⟨y4, ey4, hF⟩ := vv_ok hF
  have hG2 := gA_ok Sm1.g h5 eg2
  have hX2 := gA_X Sm1.g eg2
  have hN2 := gA_n eg2
  have hXr := (xX10_init_52 hF hG2).1
  refine q_new C Sm1 nk_RX10_37 h5 (by have h1 := hXr.1; have h2 := hXr.2.1; exact ⟨by show _ ≤ mc; omega, by show _ ≤ msl; omega⟩) eg2 em3 dX10_init_49 (fun ad6 H hax Sm3 => ?_)
  rw [← ey4]
  have ky4 := gA_k eg2 ey4
  have hq : aX g0 ad0 ad6 ∧ gX g0 g2 := ⟨hq.1.tr hq.2 hax, hq.2.tr hX2⟩
  have hn : gn g2 = n0 + (cells + 1) ∧ gs g2 = t0 + (slots + 9) := by omega
  have k7 := hX2.k hx0 (by decide)
  have ak7 : ad6 x0 = ad x0 := hax _ (kz hx0 (by decide))
  rw [← ak7] at hl
  rw [← ak7]
  exact wX10_init_52 hnm hH0 hQ C Sm3 k7 k7 ky4 (lv_sub hl [0] rfl) hq hn hF he Kr
theorem xX10_init_41 {g : Shp} {m : Mem} {x0 z0 z1 : Int} {r : Int} {g' : Shp} {m' : Mem} (hF : bX10_init_41 x0 z0 z1 g m = some (r, g', m')) (hg : gOk g) : gX g g' ∧ gOk g' := by
  unfold bX10_init_41 at hF
  obtain ⟨v1, g2, m3, h4, hF⟩ := bd3_ok hF
  have hX3 := xX4_init_f h4 hg
  have hG2 := hX3.2
  have hX2 := hX3.1
  exact gX2 hX2 (xX10_init_45 hF hG2)
set_option maxRecDepth 20000 in
theorem wX10_init_41 {p : Program} {l : Launch} {e : Env} {s : State} {mt : MethodId} {args : Array Value} {below : List Frame} {meth : Method} {c : Code} {Q : State → Prop} {G : Gl} {A : Nat → Prop} {H0 : Heap} {ad : Int → Nat} {g : Shp} {ad0 : Int → Nat} {g0 : Shp} {n0 t0 cells slots mc msl : Nat} {k v : Nat} (hnm : meth.name = "<init>") (hH0 : H0 = s.heap) (hQ : SQ A k v s s.heap) {H : Heap} {locs : List Loc} {ls : Array Slot} {m : Mem} {x0 z0 z1 : Int} (C : CallFix p mt c cX10_init 2 s args tb RX10) (S : Wd G A s H0 ad g m H locs) (hx0 : gk g x0 = 11) (hz0 : gk g z0 = 11) (hz1 : gk g z1 = 5) (hl : lv_has ls 2 [(0, .ref (ad x0))]) (hq : aX g0 ad0 ad ∧ gX g0 g) (hn : gn g = n0 + cells ∧ gs g = t0 + slots) {r : Int} {g' : Shp} {m' : Mem} (hF : bX10_init_41 x0 z0 z1 g m = some (r, g', m')) (he : gn g' ≤ n0 + mc ∧ gs g' ≤ t0 + msl) (Kr : ∀ (ad : Int → Nat) (H : Heap) (locs : List Loc) (pc : Nat) (ls : Array Slot) (cells slots : Nat), aX g0 ad0 ad → gn g' = n0 + cells ∧ gs g' = t0 + slots → Wd G A s H0 ad g' m' H locs → decode cX10_init pc = .ok (.return_, 1) → W p l e (rX10_init mc msl) s mt args below meth c H locs cells slots Q (F0 mt pc ls [])) : W p l e (rX10_init mc msl) s mt args below meth c H locs cells slots Q (F0 mt 41 ls [.ref (ad z1), .ref (ad z0)]) := by
  have hXx := xX10_init_41 hF S.g
  have hle : cells ≤ mc ∧ slots ≤ msl := by
    have h1 := hXx.1.1
    have h2 := hXx.1.2.1
    omega
  unfold bX10_init_41 at hF
  refine q_dup C rfl dX10_init_41 ?_
  obtain ⟨v1, g2, m3, h4, hF⟩ := bd3_ok hF
  have hX3 := xX4_init_f h4 S.g
  have hG2 := hX3.2
  have hX2 := hX3.1
  have hXr := (xX10_init_45 hF hG2).1
  refine q_cvA S (run_I (As := []) (rest := [.ref (ad z1), .ref (ad z0)]) C S (cX4_init_ok l G hz1 h4 ad _) tw247 tw70 tw245 tw246 rfl hd_X4_init rfl ⟨rfl, rfl, (Nat.le_of_ble_eq_true rfl), (Nat.le_of_ble_eq_true rfl)⟩ (by have h1 := hXr.1; have h2 := hXr.2.1; have h3 := hX2.1; have h4 := hX2.2.1; exact ⟨by show _ ≤ mc; omega, by show _ ≤ msl; omega⟩) hl.1 rfl (Nat.le_of_ble_eq_true rfl) dX10_init_42) (fun ad5 H locs hax Sm3 => ?_)
  have hq : aX g0 ad0 ad5 ∧ gX g0 g2 := ⟨hq.1.tr hq.2 hax, hq.2.tr hX2⟩
  have hn : gn g2 = n0 + (cells + (gn g2 - gn g)) ∧ gs g2 = t0 + (slots + (gs g2 - gs g)) := by have h3 := hX2.1; have h4 := hX2.2.1; omega
  have k6 := hX2.k hx0 (by decide)
  have ak6 : ad5 x0 = ad x0 := hax _ (kz hx0 (by decide))
  rw [← ak6] at hl
  have k7 := hX2.k hz0 (by decide)
  have ak7 : ad5 z0 = ad z0 := hax _ (kz hz0 (by decide))
  have k8 := hX2.k hz1 (by decide)
  have ak8 : ad5 z1 = ad z1 := hax _ (kz hz1 (by decide))
  rw [← ak7]
  rw [← ak8]
  exact wX10_init_45 hnm hH0 hQ C Sm3 k6 k7 k8 (lv_sub hl [0] rfl) hq hn hF he Kr
theorem xX10_init_34 {g : Shp} {m : Mem} {x0 z0 z1 : Int} {r : Int} {g' : Shp} {m' : Mem} (hF : bX10_init_34 x0 z0 z1 g m = some (r, g', m')) (hg : gOk g) : gX g g' ∧ gOk g' := by
  unfold bX10_init_34 at hF
  obtain ⟨m1, em1, hF⟩ := vm_ok hF
  obtain ⟨h5, hF⟩ := ck_ok hF
  obtain ⟨g2, eg2, hF⟩ := vg_ok hF
  obtain ⟨m3, em3, hF⟩ := vm_ok hF
  obtain ⟨y4, ey4, hF⟩ := vv_ok hF
  have hG2 := gA_ok hg h5 eg2
  have hX2 := gA_X hg eg2
  exact gX2 hX2 (xX10_init_41 hF hG2)
set_option maxRecDepth 20000 in
theorem wX10_init_34 {p : Program} {l : Launch} {e : Env} {s : State} {mt : MethodId} {args : Array Value} {below : List Frame} {meth : Method} {c : Code} {Q : State → Prop} {G : Gl} {A : Nat → Prop} {H0 : Heap} {ad : Int → Nat} {g : Shp} {ad0 : Int → Nat} {g0 : Shp} {n0 t0 cells slots mc msl : Nat} {k v : Nat} (hnm : meth.name = "<init>") (hH0 : H0 = s.heap) (hQ : SQ A k v s s.heap) {H : Heap} {locs : List Loc} {ls : Array Slot} {m : Mem} {x0 z0 z1 : Int} (C : CallFix p mt c cX10_init 2 s args tb RX10) (S : Wd G A s H0 ad g m H locs) (hx0 : gk g x0 = 11) (hz0 : gk g z0 = 11) (hz1 : gk g z1 = 2) (hl : lv_has ls 2 [(0, .ref (ad x0))]) (hq : aX g0 ad0 ad ∧ gX g0 g) (hn : gn g = n0 + cells ∧ gs g = t0 + slots) {r : Int} {g' : Shp} {m' : Mem} (hF : bX10_init_34 x0 z0 z1 g m = some (r, g', m')) (he : gn g' ≤ n0 + mc ∧ gs g' ≤ t0 + msl) (Kr : ∀ (ad : Int → Nat) (H : Heap) (locs : List Loc) (pc : Nat) (ls : Array Slot) (cells slots : Nat), aX g0 ad0 ad → gn g' = n0 + cells ∧ gs g' = t0 + slots → Wd G A s H0 ad g' m' H locs → decode cX10_init pc = .ok (.return_, 1) → W p l e (rX10_init mc msl) s mt args below meth c H locs cells slots Q (F0 mt pc ls [])) : W p l e (rX10_init mc msl) s mt args below meth c H locs cells slots Q (F0 mt 34 ls [.ref (ad z1), .ref (ad z0)]) := by
  have hXx := xX10_init_34 hF S.g
  have hle : cells ≤ mc ∧ slots ≤ msl := by
    have h1 := hXx.1.1
    have h2 := hXx.1.2.1
    omega
  unfold bX10_init_34 at hF
  obtain ⟨m1, em1, hF⟩ := vm_ok hF
  refine q_put C S 2 fo_RX10_26 fp_11_2 (fun _ => ⟨hnm, rfl⟩) (j := 2) rfl hz0 (orf_ok S hz1 (by decide) rfl) rfl rfl (S.k hz1 (by decide)) (fun _ => kz hz1 (by decide)) em1 dX10_init_34 (fun H locs Sm1 => ?_)
  refine q_aload_n C hl 0 rfl rfl dX10_init_37 ?_
  obtain ⟨h5, hF⟩ := ck_ok hF
  obtain ⟨g2, eg2, hF⟩ := vg_ok hF
  obtain ⟨m3, em3, hF⟩ := vm_ok hF
  obtain ⟨y4, ey4, hF⟩ := vv_ok hF
  have hG2 := gA_ok Sm1.g h5 eg2
  have hX2 := gA_X Sm1.g eg2
  have hN2 := gA_n eg2
  have hXr := (xX10_init_41 hF hG2).1
  refine q_new C Sm1 nk_RX10_30 h5 (by have h1 := hXr.1; have h2 := hXr.2.1; exact ⟨by show _ ≤ mc; omega, by show _ ≤ msl; omega⟩) eg2 em3 dX10_init_38 (fun ad6 H hax Sm3 => ?_)
  rw [← ey4]
  have ky4 := gA_k eg2 ey4
  have hq : aX g0 ad0 ad6 ∧ gX g0 g2 := ⟨hq.1.tr hq.2 hax, hq.2.tr hX2⟩
  have hn : gn g2 = n0 + (cells + 1) ∧ gs g2 = t0 + (slots + 2) := by omega
  have k7 := hX2.k hx0 (by decide)
  have ak7 : ad6 x0 = ad x0 := hax _ (kz hx0 (by decide))
  rw [← ak7] at hl
  rw [← ak7]
  exact wX10_init_41 hnm hH0 hQ C Sm3 k7 k7 ky4 (lv_sub hl [0] rfl) hq hn hF he Kr
theorem xX10_init_30 {g : Shp} {m : Mem} {x0 z0 z1 : Int} {r : Int} {g' : Shp} {m' : Mem} (hF : bX10_init_30 x0 z0 z1 g m = some (r, g', m')) (hg : gOk g) : gX g g' ∧ gOk g' := by
  unfold bX10_init_30 at hF
  obtain ⟨v1, g2, m3, h4, hF⟩ := bd3_ok hF
  have hX3 := xX1_init_f h4 hg
  have hG2 := hX3.2
  have hX2 := hX3.1
  exact gX2 hX2 (xX10_init_34 hF hG2)
set_option maxRecDepth 20000 in
theorem wX10_init_30 {p : Program} {l : Launch} {e : Env} {s : State} {mt : MethodId} {args : Array Value} {below : List Frame} {meth : Method} {c : Code} {Q : State → Prop} {G : Gl} {A : Nat → Prop} {H0 : Heap} {ad : Int → Nat} {g : Shp} {ad0 : Int → Nat} {g0 : Shp} {n0 t0 cells slots mc msl : Nat} {k v : Nat} (hnm : meth.name = "<init>") (hH0 : H0 = s.heap) (hQ : SQ A k v s s.heap) {H : Heap} {locs : List Loc} {ls : Array Slot} {m : Mem} {x0 z0 z1 : Int} (C : CallFix p mt c cX10_init 2 s args tb RX10) (S : Wd G A s H0 ad g m H locs) (hx0 : gk g x0 = 11) (hz0 : gk g z0 = 11) (hz1 : gk g z1 = 2) (hl : lv_has ls 2 [(0, .ref (ad x0))]) (hq : aX g0 ad0 ad ∧ gX g0 g) (hn : gn g = n0 + cells ∧ gs g = t0 + slots) {r : Int} {g' : Shp} {m' : Mem} (hF : bX10_init_30 x0 z0 z1 g m = some (r, g', m')) (he : gn g' ≤ n0 + mc ∧ gs g' ≤ t0 + msl) (Kr : ∀ (ad : Int → Nat) (H : Heap) (locs : List Loc) (pc : Nat) (ls : Array Slot) (cells slots : Nat), aX g0 ad0 ad → gn g' = n0 + cells ∧ gs g' = t0 + slots → Wd G A s H0 ad g' m' H locs → decode cX10_init pc = .ok (.return_, 1) → W p l e (rX10_init mc msl) s mt args below meth c H locs cells slots Q (F0 mt pc ls [])) : W p l e (rX10_init mc msl) s mt args below meth c H locs cells slots Q (F0 mt 30 ls [.ref (ad z1), .ref (ad z0)]) := by
  have hXx := xX10_init_30 hF S.g
  have hle : cells ≤ mc ∧ slots ≤ msl := by
    have h1 := hXx.1.1
    have h2 := hXx.1.2.1
    omega
  unfold bX10_init_30 at hF
  refine q_dup C rfl dX10_init_30 ?_
  obtain ⟨v1, g2, m3, h4, hF⟩ := bd3_ok hF
  have hX3 := xX1_init_f h4 S.g
  have hG2 := hX3.2
  have hX2 := hX3.1
  have hXr := (xX10_init_34 hF hG2).1
  refine q_cvA S (run_IN (As := []) (rest := [.ref (ad z1), .ref (ad z0)]) C S (cX1_init_ok l G hz1 h4 ad _) (host := "StoneFloors") (by decide) tw199 tw69 tw198 rfl hd_X1_init rfl ⟨rfl, rfl, (Nat.le_of_ble_eq_true rfl), (Nat.le_of_ble_eq_true rfl)⟩ (by have h1 := hXr.1; have h2 := hXr.2.1; have h3 := hX2.1; have h4 := hX2.2.1; exact ⟨by show _ ≤ mc; omega, by show _ ≤ msl; omega⟩) hl.1 rfl (Nat.le_of_ble_eq_true rfl) dX10_init_31) (fun ad5 H locs hax Sm3 => ?_)
  have hq : aX g0 ad0 ad5 ∧ gX g0 g2 := ⟨hq.1.tr hq.2 hax, hq.2.tr hX2⟩
  have hn : gn g2 = n0 + (cells + (gn g2 - gn g)) ∧ gs g2 = t0 + (slots + (gs g2 - gs g)) := by have h3 := hX2.1; have h4 := hX2.2.1; omega
  have k6 := hX2.k hx0 (by decide)
  have ak6 : ad5 x0 = ad x0 := hax _ (kz hx0 (by decide))
  rw [← ak6] at hl
  have k7 := hX2.k hz0 (by decide)
  have ak7 : ad5 z0 = ad z0 := hax _ (kz hz0 (by decide))
  have k8 := hX2.k hz1 (by decide)
  have ak8 : ad5 z1 = ad z1 := hax _ (kz hz1 (by decide))
  rw [← ak7]
  rw [← ak8]
  exact wX10_init_34 hnm hH0 hQ C Sm3 k6 k7 k8 (lv_sub hl [0] rfl) hq hn hF he Kr
theorem xX10_init_23 {g : Shp} {m : Mem} {x0 z0 z1 : Int} {r : Int} {g' : Shp} {m' : Mem} (hF : bX10_init_23 x0 z0 z1 g m = some (r, g', m')) (hg : gOk g) : gX g g' ∧ gOk g' := by
  unfold bX10_init_23 at hF
  obtain ⟨m1, em1, hF⟩ := vm_ok hF
  obtain ⟨h5, hF⟩ := ck_ok hF
  obtain ⟨g2, eg2, hF⟩ := vg_ok hF
  obtain ⟨m3, em3, hF⟩ := vm_ok hF
  obtain ⟨y4, ey4, hF⟩ := vv_ok hF
  have hG2 := gA_ok hg h5 eg2
  have hX2 := gA_X hg eg2
  exact gX2 hX2 (xX10_init_30 hF hG2)
set_option maxRecDepth 20000 in
theorem wX10_init_23 {p : Program} {l : Launch} {e : Env} {s : State} {mt : MethodId} {args : Array Value} {below : List Frame} {meth : Method} {c : Code} {Q : State → Prop} {G : Gl} {A : Nat → Prop} {H0 : Heap} {ad : Int → Nat} {g : Shp} {ad0 : Int → Nat} {g0 : Shp} {n0 t0 cells slots mc msl : Nat} {k v : Nat} (hnm : meth.name = "<init>") (hH0 : H0 = s.heap) (hQ : SQ A k v s s.heap) {H : Heap} {locs : List Loc} {ls : Array Slot} {m : Mem} {x0 z0 z1 : Int} (C : CallFix p mt c cX10_init 2 s args tb RX10) (S : Wd G A s H0 ad g m H locs) (hx0 : gk g x0 = 11) (hz0 : gk g z0 = 11) (hz1 : gk g z1 = 1) (hl : lv_has ls 2 [(0, .ref (ad x0))]) (hq : aX g0 ad0 ad ∧ gX g0 g) (hn : gn g = n0 + cells ∧ gs g = t0 + slots) {r : Int} {g' : Shp} {m' : Mem} (hF : bX10_init_23 x0 z0 z1 g m = some (r, g', m')) (he : gn g' ≤ n0 + mc ∧ gs g' ≤ t0 + msl) (Kr : ∀ (ad : Int → Nat) (H : Heap) (locs : List Loc) (pc : Nat) (ls : Array Slot) (cells slots : Nat), aX g0 ad0 ad → gn g' = n0 + cells ∧ gs g' = t0 + slots → Wd G A s H0 ad g' m' H locs → decode cX10_init pc = .ok (.return_, 1) → W p l e (rX10_init mc msl) s mt args below meth c H locs cells slots Q (F0 mt pc ls [])) : W p l e (rX10_init mc msl) s mt args below meth c H locs cells slots Q (F0 mt 23 ls [.ref (ad z1), .ref (ad z0)]) := by
  have hXx := xX10_init_23 hF S.g
  have hle : cells ≤ mc ∧ slots ≤ msl := by
    have h1 := hXx.1.1
    have h2 := hXx.1.2.1
    omega
  unfold bX10_init_23 at hF
  obtain ⟨m1, em1, hF⟩ := vm_ok hF
  refine q_put C S 1 fo_RX10_19 fp_11_1 (fun _ => ⟨hnm, rfl⟩) (j := 1) rfl hz0 (orf_ok S hz1 (by decide) rfl) rfl rfl (S.k hz1 (by decide)) (fun _ => kz hz1 (by decide)) em1 dX10_init_23 (fun H locs Sm1 => ?_)
  refine q_aload_n C hl 0 rfl rfl dX10_init_26 ?_
  obtain ⟨h5, hF⟩ := ck_ok hF
  obtain ⟨g2, eg2, hF⟩ := vg_ok hF
  obtain ⟨m3, em3, hF⟩ := vm_ok hF
  obtain ⟨y4, ey4, hF⟩ := vv_ok hF
  have hG2 := gA_ok Sm1.g h5 eg2
  have hX2 := gA_X Sm1.g eg2
  have hN2 := gA_n eg2
  have hXr := (xX10_init_30 hF hG2).1
  refine q_new C Sm1 nk_RX10_23 h5 (by have h1 := hXr.1; have h2 := hXr.2.1; exact ⟨by show _ ≤ mc; omega, by show _ ≤ msl; omega⟩) eg2 em3 dX10_init_27 (fun ad6 H hax Sm3 => ?_)
  rw [← ey4]
  have ky4 := gA_k eg2 ey4
  have hq : aX g0 ad0 ad6 ∧ gX g0 g2 := ⟨hq.1.tr hq.2 hax, hq.2.tr hX2⟩
  have hn : gn g2 = n0 + (cells + 1) ∧ gs g2 = t0 + (slots + 10) := by omega
  have k7 := hX2.k hx0 (by decide)
  have ak7 : ad6 x0 = ad x0 := hax _ (kz hx0 (by decide))
  rw [← ak7] at hl
  rw [← ak7]
  exact wX10_init_30 hnm hH0 hQ C Sm3 k7 k7 ky4 (lv_sub hl [0] rfl) hq hn hF he Kr
theorem xX10_init_19 {g : Shp} {m : Mem} {x0 z0 z1 : Int} {r : Int} {g' : Shp} {m' : Mem} (hF : bX10_init_19 x0 z0 z1 g m = some (r, g', m')) (hg : gOk g) : gX g g' ∧ gOk g' := by
  unfold bX10_init_19 at hF
  obtain ⟨v1, g2, m3, h4, hF⟩ := bd3_ok hF
  have hX3 := xX0_init_f h4 hg
  have hG2 := hX3.2
  have hX2 := hX3.1
  exact gX2 hX2 (xX10_init_23 hF hG2)
set_option maxRecDepth 20000 in
theorem wX10_init_19 {p : Program} {l : Launch} {e : Env} {s : State} {mt : MethodId} {args : Array Value} {below : List Frame} {meth : Method} {c : Code} {Q : State → Prop} {G : Gl} {A : Nat → Prop} {H0 : Heap} {ad : Int → Nat} {g : Shp} {ad0 : Int → Nat} {g0 : Shp} {n0 t0 cells slots mc msl : Nat} {k v : Nat} (hnm : meth.name = "<init>") (hH0 : H0 = s.heap) (hQ : SQ A k v s s.heap) {H : Heap} {locs : List Loc} {ls : Array Slot} {m : Mem} {x0 z0 z1 : Int} (C : CallFix p mt c cX10_init 2 s args tb RX10) (S : Wd G A s H0 ad g m H locs) (hx0 : gk g x0 = 11) (hz0 : gk g z0 = 11) (hz1 : gk g z1 = 1) (hl : lv_has ls 2 [(0, .ref (ad x0))]) (hq : aX g0 ad0 ad ∧ gX g0 g) (hn : gn g = n0 + cells ∧ gs g = t0 + slots) {r : Int} {g' : Shp} {m' : Mem} (hF : bX10_init_19 x0 z0 z1 g m = some (r, g', m')) (he : gn g' ≤ n0 + mc ∧ gs g' ≤ t0 + msl) (Kr : ∀ (ad : Int → Nat) (H : Heap) (locs : List Loc) (pc : Nat) (ls : Array Slot) (cells slots : Nat), aX g0 ad0 ad → gn g' = n0 + cells ∧ gs g' = t0 + slots → Wd G A s H0 ad g' m' H locs → decode cX10_init pc = .ok (.return_, 1) → W p l e (rX10_init mc msl) s mt args below meth c H locs cells slots Q (F0 mt pc ls [])) : W p l e (rX10_init mc msl) s mt args below meth c H locs cells slots Q (F0 mt 19 ls [.ref (ad z1), .ref (ad z0)]) := by
  have hXx := xX10_init_19 hF S.g
  have hle : cells ≤ mc ∧ slots ≤ msl := by
    have h1 := hXx.1.1
    have h2 := hXx.1.2.1
    omega
  unfold bX10_init_19 at hF
  refine q_dup C rfl dX10_init_19 ?_
  obtain ⟨v1, g2, m3, h4, hF⟩ := bd3_ok hF
  have hX3 := xX0_init_f h4 S.g
  have hG2 := hX3.2
  have hX2 := hX3.1
  have hXr := (xX10_init_23 hF hG2).1
  refine q_cvA S (run_I (As := []) (rest := [.ref (ad z1), .ref (ad z0)]) C S (cX0_init_ok l G hz1 h4 ad _) tw118 tw66 tw116 tw117 rfl hd_X0_init rfl ⟨rfl, rfl, (Nat.le_of_ble_eq_true rfl), (Nat.le_of_ble_eq_true rfl)⟩ (by have h1 := hXr.1; have h2 := hXr.2.1; have h3 := hX2.1; have h4 := hX2.2.1; exact ⟨by show _ ≤ mc; omega, by show _ ≤ msl; omega⟩) hl.1 rfl (Nat.le_of_ble_eq_true rfl) dX10_init_20) (fun ad5 H locs hax Sm3 => ?_)
  have hq : aX g0 ad0 ad5 ∧ gX g0 g2 := ⟨hq.1.tr hq.2 hax, hq.2.tr hX2⟩
  have hn : gn g2 = n0 + (cells + (gn g2 - gn g)) ∧ gs g2 = t0 + (slots + (gs g2 - gs g)) := by have h3 := hX2.1; have h4 := hX2.2.1; omega
  have k6 := hX2.k hx0 (by decide)
  have ak6 : ad5 x0 = ad x0 := hax _ (kz hx0 (by decide))
  rw [← ak6] at hl
  have k7 := hX2.k hz0 (by decide)
  have ak7 : ad5 z0 = ad z0 := hax _ (kz hz0 (by decide))
  have k8 := hX2.k hz1 (by decide)
  have ak8 : ad5 z1 = ad z1 := hax _ (kz hz1 (by decide))
  rw [← ak7]
  rw [← ak8]
  exact wX10_init_23 hnm hH0 hQ C Sm3 k6 k7 k8 (lv_sub hl [0] rfl) hq hn hF he Kr
theorem xX10_init_12 {g : Shp} {m : Mem} {x0 z0 z1 : Int} {r : Int} {g' : Shp} {m' : Mem} (hF : bX10_init_12 x0 z0 z1 g m = some (r, g', m')) (hg : gOk g) : gX g g' ∧ gOk g' := by
  unfold bX10_init_12 at hF
  obtain ⟨m1, em1, hF⟩ := vm_ok hF
  obtain ⟨h5, hF⟩ := ck_ok hF
  obtain ⟨g2, eg2, hF⟩ := vg_ok hF
  obtain ⟨m3, em3, hF⟩ := vm_ok hF
  obtain ⟨y4, ey4, hF⟩ := vv_ok hF
  have hG2 := gA_ok hg h5 eg2
  have hX2 := gA_X hg eg2
  exact gX2 hX2 (xX10_init_19 hF hG2)
set_option maxRecDepth 20000 in
theorem wX10_init_12 {p : Program} {l : Launch} {e : Env} {s : State} {mt : MethodId} {args : Array Value} {below : List Frame} {meth : Method} {c : Code} {Q : State → Prop} {G : Gl} {A : Nat → Prop} {H0 : Heap} {ad : Int → Nat} {g : Shp} {ad0 : Int → Nat} {g0 : Shp} {n0 t0 cells slots mc msl : Nat} {k v : Nat} (hnm : meth.name = "<init>") (hH0 : H0 = s.heap) (hQ : SQ A k v s s.heap) {H : Heap} {locs : List Loc} {ls : Array Slot} {m : Mem} {x0 z0 z1 : Int} (C : CallFix p mt c cX10_init 2 s args tb RX10) (S : Wd G A s H0 ad g m H locs) (hx0 : gk g x0 = 11) (hz0 : gk g z0 = 11) (hz1 : gk g z1 = 9) (hl : lv_has ls 2 [(0, .ref (ad x0))]) (hq : aX g0 ad0 ad ∧ gX g0 g) (hn : gn g = n0 + cells ∧ gs g = t0 + slots) {r : Int} {g' : Shp} {m' : Mem} (hF : bX10_init_12 x0 z0 z1 g m = some (r, g', m')) (he : gn g' ≤ n0 + mc ∧ gs g' ≤ t0 + msl) (Kr : ∀ (ad : Int → Nat) (H : Heap) (locs : List Loc) (pc : Nat) (ls : Array Slot) (cells slots : Nat), aX g0 ad0 ad → gn g' = n0 + cells ∧ gs g' = t0 + slots → Wd G A s H0 ad g' m' H locs → decode cX10_init pc = .ok (.return_, 1) → W p l e (rX10_init mc msl) s mt args below meth c H locs cells slots Q (F0 mt pc ls [])) : W p l e (rX10_init mc msl) s mt args below meth c H locs cells slots Q (F0 mt 12 ls [.ref (ad z1), .ref (ad z0)]) := by
  have hXx := xX10_init_12 hF S.g
  have hle : cells ≤ mc ∧ slots ≤ msl := by
    have h1 := hXx.1.1
    have h2 := hXx.1.2.1
    omega
  unfold bX10_init_12 at hF
  obtain ⟨m1, em1, hF⟩ := vm_ok hF
  refine q_put C S 0 fo_RX10_12 fp_11_0 (fun _ => ⟨hnm, rfl⟩) (j := 0) rfl hz0 (orf_ok S hz1 (by decide) rfl) rfl rfl (S.k hz1 (by decide)) (fun _ => kz hz1 (by decide)) em1 dX10_init_12 (fun H locs Sm1 => ?_)
  refine q_aload_n C hl 0 rfl rfl dX10_init_15 ?_
  obtain ⟨h5, hF⟩ := ck_ok hF
  obtain ⟨g2, eg2, hF⟩ := vg_ok hF
  obtain ⟨m3, em3, hF⟩ := vm_ok hF
  obtain ⟨y4, ey4, hF⟩ := vv_ok hF
  have hG2 := gA_ok Sm1.g h5 eg2
  have hX2 := gA_X Sm1.g eg2
  have hN2 := gA_n eg2
  have hXr := (xX10_init_19 hF hG2).1
  refine q_new C Sm1 nk_RX10_16 h5 (by have h1 := hXr.1; have h2 := hXr.2.1; exact ⟨by show _ ≤ mc; omega, by show _ ≤ msl; omega⟩) eg2 em3 dX10_init_16 (fun ad6 H hax Sm3 => ?_)
  rw [← ey4]
  have ky4 := gA_k eg2 ey4
  have hq : aX g0 ad0 ad6 ∧ gX g0 g2 := ⟨hq.1.tr hq.2 hax, hq.2.tr hX2⟩
  have hn : gn g2 = n0 + (cells + 1) ∧ gs g2 = t0 + (slots + 9) := by omega
  have k7 := hX2.k hx0 (by decide)
  have ak7 : ad6 x0 = ad x0 := hax _ (kz hx0 (by decide))
  rw [← ak7] at hl
  rw [← ak7]
  exact wX10_init_19 hnm hH0 hQ C Sm3 k7 k7 ky4 (lv_sub hl [0] rfl) hq hn hF he Kr
theorem xX10_init_8 {g : Shp} {m : Mem} {x0 z0 z1 : Int} {r : Int} {g' : Shp} {m' : Mem} (hF : bX10_init_8 x0 z0 z1 g m = some (r, g', m')) (hg : gOk g) : gX g g' ∧ gOk g' := by
  unfold bX10_init_8 at hF
  obtain ⟨v1, g2, m3, h4, hF⟩ := bd3_ok hF
  have hX3 := xX8_init_f h4 hg
  have hG2 := hX3.2
  have hX2 := hX3.1
  exact gX2 hX2 (xX10_init_12 hF hG2)
set_option maxRecDepth 20000 in
theorem wX10_init_8 {p : Program} {l : Launch} {e : Env} {s : State} {mt : MethodId} {args : Array Value} {below : List Frame} {meth : Method} {c : Code} {Q : State → Prop} {G : Gl} {A : Nat → Prop} {H0 : Heap} {ad : Int → Nat} {g : Shp} {ad0 : Int → Nat} {g0 : Shp} {n0 t0 cells slots mc msl : Nat} {k v : Nat} (hnm : meth.name = "<init>") (hH0 : H0 = s.heap) (hQ : SQ A k v s s.heap) {H : Heap} {locs : List Loc} {ls : Array Slot} {m : Mem} {x0 z0 z1 : Int} (C : CallFix p mt c cX10_init 2 s args tb RX10) (S : Wd G A s H0 ad g m H locs) (hx0 : gk g x0 = 11) (hz0 : gk g z0 = 11) (hz1 : gk g z1 = 9) (hl : lv_has ls 2 [(0, .ref (ad x0))]) (hq : aX g0 ad0 ad ∧ gX g0 g) (hn : gn g = n0 + cells ∧ gs g = t0 + slots) {r : Int} {g' : Shp} {m' : Mem} (hF : bX10_init_8 x0 z0 z1 g m = some (r, g', m')) (he : gn g' ≤ n0 + mc ∧ gs g' ≤ t0 + msl) (Kr : ∀ (ad : Int → Nat) (H : Heap) (locs : List Loc) (pc : Nat) (ls : Array Slot) (cells slots : Nat), aX g0 ad0 ad → gn g' = n0 + cells ∧ gs g' = t0 + slots → Wd G A s H0 ad g' m' H locs → decode cX10_init pc = .ok (.return_, 1) → W p l e (rX10_init mc msl) s mt args below meth c H locs cells slots Q (F0 mt pc ls [])) : W p l e (rX10_init mc msl) s mt args below meth c H locs cells slots Q (F0 mt 8 ls [.ref (ad z1), .ref (ad z0)]) := by
  have hXx := xX10_init_8 hF S.g
  have hle : cells ≤ mc ∧ slots ≤ msl := by
    have h1 := hXx.1.1
    have h2 := hXx.1.2.1
    omega
  unfold bX10_init_8 at hF
  refine q_dup C rfl dX10_init_8 ?_
  obtain ⟨v1, g2, m3, h4, hF⟩ := bd3_ok hF
  have hX3 := xX8_init_f h4 S.g
  have hG2 := hX3.2
  have hX2 := hX3.1
  have hXr := (xX10_init_12 hF hG2).1
  refine q_cvA S (run_IN (As := []) (rest := [.ref (ad z1), .ref (ad z0)]) C S (cX8_init_ok l G hz1 h4 ad _) (host := "StoneFloors") (by decide) tw96 tw65 tw95 rfl hd_X8_init rfl ⟨rfl, rfl, (Nat.le_of_ble_eq_true rfl), (Nat.le_of_ble_eq_true rfl)⟩ (by have h1 := hXr.1; have h2 := hXr.2.1; have h3 := hX2.1; have h4 := hX2.2.1; exact ⟨by show _ ≤ mc; omega, by show _ ≤ msl; omega⟩) hl.1 rfl (Nat.le_of_ble_eq_true rfl) dX10_init_9) (fun ad5 H locs hax Sm3 => ?_)
  have hq : aX g0 ad0 ad5 ∧ gX g0 g2 := ⟨hq.1.tr hq.2 hax, hq.2.tr hX2⟩
  have hn : gn g2 = n0 + (cells + (gn g2 - gn g)) ∧ gs g2 = t0 + (slots + (gs g2 - gs g)) := by have h3 := hX2.1; have h4 := hX2.2.1; omega
  have k6 := hX2.k hx0 (by decide)
  have ak6 : ad5 x0 = ad x0 := hax _ (kz hx0 (by decide))
  rw [← ak6] at hl
  have k7 := hX2.k hz0 (by decide)
  have ak7 : ad5 z0 = ad z0 := hax _ (kz hz0 (by decide))
  have k8 := hX2.k hz1 (by decide)
  have ak8 : ad5 z1 = ad z1 := hax _ (kz hz1 (by decide))
  rw [← ak7]
  rw [← ak8]
  exact wX10_init_12 hnm hH0 hQ C Sm3 k6 k7 k8 (lv_sub hl [0] rfl) hq hn hF he Kr
theorem xX10_init_0 {g : Shp} {m : Mem} {x0 : Int} {r : Int} {g' : Shp} {m' : Mem} (hF : bX10_init_0 x0 g m = some (r, g', m')) (hg : gOk g) : gX g g' ∧ gOk g' := by
  unfold bX10_init_0 at hF
  obtain ⟨h4, hF⟩ := ck_ok hF
  obtain ⟨g1, eg1, hF⟩ := vg_ok hF
  obtain ⟨m2, em2, hF⟩ := vm_ok hF
  obtain ⟨y3, ey3, hF⟩ := vv_ok hF
  have hG2 := gA_ok hg h4 eg1
  have hX2 := gA_X hg eg1
  exact gX2 hX2 (xX10_init_8 hF hG2)
set_option maxRecDepth 20000 in
theorem wX10_init_0 {p : Program} {l : Launch} {e : Env} {s : State} {mt : MethodId} {args : Array Value} {below : List Frame} {meth : Method} {c : Code} {Q : State → Prop} {G : Gl} {A : Nat → Prop} {H0 : Heap} {ad : Int → Nat} {g : Shp} {ad0 : Int → Nat} {g0 : Shp} {n0 t0 cells slots mc msl : Nat} {k v : Nat} (hnm : meth.name = "<init>") (hH0 : H0 = s.heap) (hQ : SQ A k v s s.heap) {H : Heap} {locs : List Loc} {ls : Array Slot} {m : Mem} {x0 : Int} (C : CallFix p mt c cX10_init 2 s args tb RX10) (S : Wd G A s H0 ad g m H locs) (hx0 : gk g x0 = 11) (hl : lv_has ls 2 [(0, .ref (ad x0))]) (hq : aX g0 ad0 ad ∧ gX g0 g) (hn : gn g = n0 + cells ∧ gs g = t0 + slots) {r : Int} {g' : Shp} {m' : Mem} (hF : bX10_init_0 x0 g m = some (r, g', m')) (he : gn g' ≤ n0 + mc ∧ gs g' ≤ t0 + msl) (Kr : ∀ (ad : Int → Nat) (H : Heap) (locs : List Loc) (pc : Nat) (ls : Array Slot) (cells slots : Nat), aX g0 ad0 ad → gn g' = n0 + cells ∧ gs g' = t0 + slots → Wd G A s H0 ad g' m' H locs → decode cX10_init pc = .ok (.return_, 1) → W p l e (rX10_init mc msl) s mt args below meth c H locs cells slots Q (F0 mt pc ls [])) : W p l e (rX10_init mc msl) s mt args below meth c H locs cells slots Q (F0 mt 0 ls []) := by
  have hXx := xX10_init_0 hF S.g
  have hle : cells ≤ mc ∧ slots ≤ msl := by
    have h1 := hXx.1.1
    have h2 := hXx.1.2.1
    omega
  unfold bX10_init_0 at hF
  refine q_aload_n C hl 0 rfl rfl dX10_init_0 ?_
  refine q_oinit C tw89 tw90 tw91 hl.1 (Nat.le_of_ble_eq_true rfl) (Nat.le_of_ble_eq_true rfl) dX10_init_1 ?_
  refine q_aload_n C hl 0 rfl rfl dX10_init_4 ?_
  obtain ⟨h4, hF⟩ := ck_ok hF
  obtain ⟨g1, eg1, hF⟩ := vg_ok hF
  obtain ⟨m2, em2, hF⟩ := vm_ok hF
  obtain ⟨y3, ey3, hF⟩ := vv_ok hF
  have hG2 := gA_ok S.g h4 eg1
  have hX2 := gA_X S.g eg1
  have hN2 := gA_n eg1
  have hXr := (xX10_init_8 hF hG2).1
  refine q_new C S nk_RX10_9 h4 (by have h1 := hXr.1; have h2 := hXr.2.1; exact ⟨by show _ ≤ mc; omega, by show _ ≤ msl; omega⟩) eg1 em2 dX10_init_5 (fun ad5 H hax Sm2 => ?_)
  rw [← ey3]
  have ky3 := gA_k eg1 ey3
  have hq : aX g0 ad0 ad5 ∧ gX g0 g1 := ⟨hq.1.tr hq.2 hax, hq.2.tr hX2⟩
  have hn : gn g1 = n0 + (cells + 1) ∧ gs g1 = t0 + (slots + 4) := by omega
  have k6 := hX2.k hx0 (by decide)
  have ak6 : ad5 x0 = ad x0 := hax _ (kz hx0 (by decide))
  rw [← ak6] at hl
  rw [← ak6]
  exact wX10_init_8 hnm hH0 hQ C Sm2 k6 k6 ky3 (lv_sub hl [0] rfl) hq hn hF he Kr
theorem xX10_init_f {x0 : Int} {g : Shp} {m : Mem} {r : Int} {g' : Shp} {m' : Mem} (hF : fX10_init x0 g m = some (r, g', m')) (hg : gOk g) : gX g g' ∧ gOk g' := xX10_init_0 hF hg
theorem cX10_init_ok (l : Launch) (G : Gl) {x0 : Int} {g : Shp} {m : Mem} {r : Int} {g' : Shp} {m' : Mem} (hx0 : gk g x0 = 11) (hF : fX10_init x0 g m = some (r, g', m')) : mVT l yX10_init (wT yX10_init cX10_init 2 none) rX10_init G (fun ad => [.ref (ad x0)]) g m g' m' :=
  met_vT (rm := rX10_init) (by decide) (fun ad => Nat.le_of_ble_eq_true rfl) (fun hg => (xX10_init_f hF hg).1) (fun p e s mt args below meth c Q A H0 H locs ad ls mc msl k v hmc hms C hnm hH0 hQ S hl Kr => wX10_init_0 (n0 := gn g) (t0 := gs g) hnm hH0 hQ C S hx0 hl ⟨fun _ _ => rfl, gX.rf _⟩ ⟨rfl, rfl⟩ hF (by have h9 := (xX10_init_f hF S.g).1; have h1 := h9.1; have h2 := h9.2.1; omega) Kr)
