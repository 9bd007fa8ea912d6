/-! ===== a step of the law's loop, and the law ===== -/
theorem T_vg {α : Type} {v : Shp} {k : Shp → Option α} {P : α → Prop} (h : T (k v) P) : T (vg v k) P := h
theorem law_step {L : Nat} {xs : Nat → Int32} {x0 x3 : Int} {g : Shp} {m : Mem} (hL : L ≤ 2560) (h0 : 0 ≤ x3) (hS : Sh g m) (hG : gOk g) (h : Inv g m) :
    T (ebL_law_18 L xs x0 x3 g m) (fun q => (q.1 = 0 ∧ x3 + 5 ≤ (L : Int) ∧ q.2.1 = x3 + 5 ∧ Inv q.2.2.1 q.2.2.2) ∨ (q.1 = 1 ∧ Inv q.2.2.1 q.2.2.2)) := by
  have hc : Core m := h.1
  have h242 : gl g 242 = 433 := (hS.1 (242, 20, 433) (List.mem_of_getElem? (i := 241) rfl)).2
  have h244 : gl g 244 = 2598 := (hS.1 (244, 20, 2598) (List.mem_of_getElem? (i := 243) rfl)).2
  have h86 : gl g 86 = 400 := (hS.1 (86, 20, 400) (List.mem_of_getElem? (i := 85) rfl)).2
  have h91 : gl g 91 = 9 := (hS.1 (91, 20, 9) (List.mem_of_getElem? (i := 90) rfl)).2
  have u7 := (hS.2.2.2 (m 1 7)).2.2.1 hS.2.2.1.2.1
  have u6 := (hS.2.2.2 (m 1 6)).2.2.1 hS.2.2.1.1
  have p2 : gl g (m 1 7 + 2) = 9 := u7.2.1.2.2
  have p4 : gl g (m 1 7 + 4) = 400 := u7.2.2.2.2.2
  have p1 : gl g (m 1 6 + 1) = 3 := u6.1.2.2
  clear u6 u7
  have hlay : Two (eX10_lay g m) (eX11_lay g) (Inv g) := T_mono (op_lay p2 p4 h86 h91 h242 hc) (fun _ hq => T_mono hq (fun _ hp => ⟨hp.1, hp.2.inv h⟩))
  unfold ebL_law_18
  refine T_if (fun _ => T_some (Or.inr ⟨rfl, h⟩)) (fun hx => ?_)
  rw [w32_id (by omega) (by omega)] at hx
  have e1 := w32_id (x := x3 + 1) (by omega) (by omega)
  have e2 := w32_id (x := x3 + 2) (by omega) (by omega)
  have e3 := w32_id (x := x3 + 3) (by omega) (by omega)
  have e4 := w32_id (x := x3 + 4) (by omega) (by omega)
  have e5 := w32_id (x := x3 + 5) (by omega) (by omega)
  have c1 : (0 : Int) ≤ w32 (x3 + 1) ∧ w32 (x3 + 1) < (L : Int) := by omega
  have c2 : (0 : Int) ≤ w32 (x3 + 2) ∧ w32 (x3 + 2) < (L : Int) := by omega
  have c3 : (0 : Int) ≤ w32 (x3 + 3) ∧ w32 (x3 + 3) < (L : Int) := by omega
  have c4 : (0 : Int) ≤ w32 (x3 + 4) ∧ w32 (x3 + 4) < (L : Int) := by omega
  have hl5 : x3 + 5 ≤ (L : Int) := by omega
  have fin : ∀ (g' : Shp) (m' : Mem), Inv g' m' → T (ebL_law_631 L xs x0 x3 g' m') (fun q => (q.1 = 0 ∧ x3 + 5 ≤ (L : Int) ∧ q.2.1 = x3 + 5 ∧ Inv q.2.2.1 q.2.2.2) ∨ (q.1 = 1 ∧ Inv q.2.2.1 q.2.2.2)) := by
    intro g' m' hi
    unfold ebL_law_631
    exact T_vv (T_some (Or.inl ⟨rfl, hl5, e5, hi⟩))
  have t0 : ∀ {a : Option (Int × Mem)} {b : Mem → Option (Int × Mem)}, Two a b (Inv g) → T (bd2 a fun v m1 => bd2 (b m1) fun w m2 => if v = w then ebL_law_631 L xs x0 x3 g m2 else none) (fun q => (q.1 = 0 ∧ x3 + 5 ≤ (L : Int) ∧ q.2.1 = x3 + 5 ∧ Inv q.2.2.1 q.2.2.2) ∨ (q.1 = 1 ∧ Inv q.2.2.1 q.2.2.2)) :=
    fun ht => T_bd2 ht (fun v m1 hq => T_bd2 hq (fun w m2 hp => T_it hp.1 (fin _ _ hp.2)))
  have t1 : ∀ {a : Option (Int × Mem)} {b : Mem → Option (Int × Mem)}, Two a b (Inv g) → T (ck ((0 : Int) ≤ (w32 (x3 + 1)) ∧ (w32 (x3 + 1)) < (L : Int)) <| bd2 a fun v m1 => ck ((0 : Int) ≤ (w32 (x3 + 1)) ∧ (w32 (x3 + 1)) < (L : Int)) <| bd2 (b m1) fun w m2 => if v = w then ebL_law_631 L xs x0 x3 g m2 else none) (fun q => (q.1 = 0 ∧ x3 + 5 ≤ (L : Int) ∧ q.2.1 = x3 + 5 ∧ Inv q.2.2.1 q.2.2.2) ∨ (q.1 = 1 ∧ Inv q.2.2.1 q.2.2.2)) :=
    fun ht => T_ck c1 (T_bd2 ht (fun v m1 hq => T_ck c1 (T_bd2 hq (fun w m2 hp => T_it hp.1 (fin _ _ hp.2)))))
  have t2 : ∀ {a : Option (Int × Mem)} {b : Mem → Option (Int × Mem)}, Two a b (Inv g) → T (ck ((0 : Int) ≤ (w32 (x3 + 1)) ∧ (w32 (x3 + 1)) < (L : Int)) <| ck ((0 : Int) ≤ (w32 (x3 + 2)) ∧ (w32 (x3 + 2)) < (L : Int)) <| bd2 a fun v m1 => ck ((0 : Int) ≤ (w32 (x3 + 1)) ∧ (w32 (x3 + 1)) < (L : Int)) <| ck ((0 : Int) ≤ (w32 (x3 + 2)) ∧ (w32 (x3 + 2)) < (L : Int)) <| bd2 (b m1) fun w m2 => if v = w then ebL_law_631 L xs x0 x3 g m2 else none) (fun q => (q.1 = 0 ∧ x3 + 5 ≤ (L : Int) ∧ q.2.1 = x3 + 5 ∧ Inv q.2.2.1 q.2.2.2) ∨ (q.1 = 1 ∧ Inv q.2.2.1 q.2.2.2)) :=
    fun ht => T_ck c1 (T_ck c2 (T_bd2 ht (fun v m1 hq => T_ck c1 (T_ck c2 (T_bd2 hq (fun w m2 hp => T_it hp.1 (fin _ _ hp.2)))))))
  refine T_ck ⟨h0, by omega⟩ ?_
  refine T_if (fun _ => t1 ((op_write hc).inv h)) (fun _ => ?_)
  refine T_if (fun _ => t0 ((op_wipe hc).inv h)) (fun _ => ?_)
  refine T_if (fun _ => t0 ((op_fault p2 p4 hc).inv h)) (fun _ => ?_)
  refine T_if (fun _ => t0 hlay) (fun _ => ?_)
  refine T_if (fun _ => t1 ((op_joint h242 h244 hc).inv h)) (fun _ => ?_)
  refine T_if (fun _ => t2 ((op_line hc).inv h)) (fun _ => ?_)
  refine T_if (fun _ => t2 ((op_cell hc).inv h)) (fun _ => ?_)
  refine T_if (fun _ => t2 ((op_whose hc).inv h)) (fun _ => ?_)
  refine T_if (fun _ => t2 ((op_piece h86 hc).inv h)) (fun _ => ?_)
  refine T_if (fun _ => T_ck c1 (T_ck c2 (T_ck c3 (T_bd3 (op_way hS hG h) (fun v g1 m1 hq => ?_))))) (fun _ => ?_)
  · unfold ebL_law_360
    exact T_ck c1 (T_ck c2 (T_ck c3 (T_bd2 hq (fun w m2 hp => T_it hp.1 (fin _ _ hp.2)))))
  refine T_if (fun _ => T_ck c1 (T_bd3 (op_best hS hG h) (fun v g1 m1 hq => ?_))) (fun _ => ?_)
  · unfold ebL_law_393
    exact T_ck c1 (T_bd2 hq (fun w m2 hp => T_it hp.1 (fin _ _ hp.2)))
  refine T_if (fun _ => T_ck c1 (T_ck c2 (T_bd3 (op_cover hS hG h) (fun v g1 m1 hq => ?_)))) (fun _ => ?_)
  · unfold ebL_law_421
    exact T_ck c1 (T_ck c2 (T_bd2 hq (fun w m2 hp => T_it hp.1 (fin _ _ hp.2))))
  refine T_if (fun _ => t1 ((op_takeUp h242 h244 p1 h91 hc).inv h)) (fun _ => ?_)
  refine T_if (fun _ => T_ck c1 (T_ck c2 (T_ck c3 (T_ck c4 (T_bd3 (op_order hS hG h) (fun v g1 m1 hq => ?_)))))) (fun _ => ?_)
  · unfold ebL_law_487
    exact T_ck c1 (T_ck c2 (T_ck c3 (T_ck c4 (T_bd2 hq (fun w m2 hp => T_it hp.1 (fin _ _ hp.2))))))
  refine T_if (fun _ => t2 ((op_bag hc).inv h)) (fun _ => ?_)
  refine T_if (fun _ => t1 ((op_fill h242 h244 hc).inv h)) (fun _ => ?_)
  refine T_if (fun _ => t0 ((op_undo h242 h244 hc).inv h)) (fun _ => ?_)
  refine T_if (fun _ => t1 ((op_drawn hc).inv h)) (fun _ => ?_)
  refine T_if (fun _ => t1 ((op_count hc).inv h)) (fun _ => ?_)
  exact fin _ _ h
theorem law_loop {L : Nat} {xs : Nat → Int32} {x0 : Int} {g : Shp} {m : Mem} (hL : L ≤ 2560) (hS : Sh g m) (hG : gOk g) (h : Inv g m) :
    T (iter (eBL_law_18 L xs x0) 100000 (0, g, m)) (fun q => Inv q.2.2.1 q.2.2.2) := by
  refine iter_T (σ := Int × Shp × Mem) (fun s => (0 ≤ s.1 ∧ s.1 ≤ (L : Int)) ∧ (Sh s.2.1 s.2.2 ∧ gOk s.2.1) ∧ Inv s.2.1 s.2.2) (fun s => ((L : Int) - s.1).toNat) ?_ 100000 (0, g, m) ⟨⟨Int.le_refl 0, by show (0 : Int) ≤ (L : Int); omega⟩, ⟨hS, hG⟩, h⟩ (by show ((L : Int) - 0).toNat < 100000; omega)
  intro s hs
  obtain ⟨⟨s0, sL⟩, ⟨sS, sG⟩, sI⟩ := hs
  unfold eBL_law_18
  refine T_mono (T_eq (law_step (xs := xs) (x0 := x0) hL s0 sS sG sI)) ?_
  rintro ⟨c, s'⟩ ⟨he, hq⟩
  have hn := (nL_law_18 sS sG he).1
  rcases hq with ⟨q1, q2, q3, q4⟩ | ⟨q1, q2⟩
  · have q3' : s'.1 = s.1 + 5 := q3
    refine ⟨fun _ => ⟨⟨?_, hn, q4⟩, ?_⟩, fun hne => absurd q1 hne⟩
    · show 0 ≤ s'.1 ∧ s'.1 ≤ (L : Int)
      omega
    · show ((L : Int) - s'.1).toNat < ((L : Int) - s.1).toNat
      omega
  · refine ⟨fun h0 => ?_, fun _ => q2⟩
    have q1' : c = 1 := q1
    have h0' : c = 0 := h0
    omega
theorem law_pure : LawPure := by
  intro L xs hL
  obtain ⟨r1, g1, m1, h1, n1, r2, g2, m2, h2, hS, hG, hI⟩ := st_all
  have key : T (fL_law L xs gZ mZ) (fun q => q.1 = 1 ∧ gn q.2.1 ≤ 600000 ∧ gs q.2.1 ≤ 7302250) := by
    unfold fL_law bL_law_0
    refine T_ck ⟨by decide, by decide, by decide⟩ (T_vg (T_vm (T_vv ?_)))
    rw [show ((gn gZ : Nat) : Int) + 1 = 1 from rfl]
    unfold bL_law_3
    rw [show fX10_init 1 (gA gZ 11 0 8) (mA gZ mZ) = some (r1, g1, m1) from h1]
    show T (bL_law_7 L xs 0 1 g1 m1) _
    unfold bL_law_7
    refine T_ck ⟨by omega, by decide, by decide⟩ (T_vg (T_vm (T_vv ?_)))
    rw [n1, show ((240 : Nat) : Int) + 1 = 241 from rfl]
    unfold bL_law_11
    rw [show fX11_init 241 (gA g1 12 0 39) (mA g1 m1) = some (r2, g2, m2) from h2]
    show T (bL_law_15 L xs 0 1 241 g2 m2) _
    unfold bL_law_15
    rw [qlL_law_18 (s0 := (0, g2, m2)) hS hG]
    refine T_bdl (law_loop hL hS hG hI) ?_
    intro c s hi
    unfold bL_law_637
    have hr : RmOk s.2.1 s.2.2 := (show Inv s.2.1 s.2.2 from hi).2.1
    refine T_some ⟨rfl, ?_⟩
    show gn s.2.1 ≤ 600000 ∧ gs s.2.1 ≤ 7302250
    rcases hr with hr | hr
    · have a := hr.2.1; have b := hr.2.2; omega
    · have a := hr.2.2.1; have b := hr.2.2.2; omega
  obtain ⟨⟨a, g', m'⟩, he, ha, hb⟩ := key
  have ha2 : a = 1 := ha
  subst ha2
  exact ⟨g', m', he, hb⟩
