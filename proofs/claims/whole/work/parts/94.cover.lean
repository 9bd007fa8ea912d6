/-! ===== cover ===== -/
/-- a change of the floor with the reference's search in between -/
theorem Done.ch2 {m m1 m2 m2' m3 m4 : Mem} (h : Core m) (hb : BC m m1) (h2 : ∀ a, (a < 85 ∨ 92 < a) → m2 a = m1 a) (hF : RwF m2 m2') (hn : NT m2' m3)
    (h4 : ∀ a, a ≠ 241 → a ≠ 242 → a ≠ 243 → (a < 257 ∨ 267 < a) → m4 a = m3 a) (h40 : m4 241 3 = m3 241 3 ∧ m4 241 5 = m3 241 5 ∧ m4 241 20 = m3 241 20)
    (hr : RowEq (rowC m2 85) (m4 242)) (hw : WRow (dt m) (m4 242)) : Done m m4 := by
  have b8 := hb.2.2.2.2
  let mB : Mem := fun a => if a = 241 ∨ 257 ≤ a ∧ a ≤ 265 then m2' a else m a
  let m1s : Mem := fun a => if a = 241 ∨ 257 ≤ a ∧ a ≤ 265 then m2' a else m1 a
  have eB : ∀ a, ¬ (a = 241 ∨ 257 ≤ a ∧ a ≤ 265) → mB a = m a := fun a ha => by show (if _ then _ else _) = _; rw [if_neg ha]
  have e1 : ∀ a, ¬ (a = 241 ∨ 257 ≤ a ∧ a ≤ 265) → m1s a = m1 a := fun a ha => by show (if _ then _ else _) = _; rw [if_neg ha]
  have eBr : ∀ a, (a = 241 ∨ 257 ≤ a ∧ a ≤ 265) → mB a = m2' a := fun a ha => by show (if _ then _ else _) = _; rw [if_pos ha]
  have e1r : ∀ a, (a = 241 ∨ 257 ≤ a ∧ a ≤ 265) → m1s a = m2' a := fun a ha => by show (if _ then _ else _) = _; rw [if_pos ha]
  have e241 : m2 241 = m 241 := by rw [h2 241 (by decide), b8 241 (by decide) (by decide) (by decide)]
  have hFB : RwF m mB := by
    refine ⟨fun b q1 q2 q3 => ?_, fun a a1 a2 => eB a (by omega)⟩
    rw [eBr 241 (Or.inl rfl), hF.1 b q1 q2 q3, e241]
  have hDB := RwF.done h hFB
  have hP : PastOk m := h.2.2.2.2.2.1
  have hP1 := hb.1
  have hBC : BC mB m1s := by
    obtain ⟨c1, ⟨s, c2, c3, c4, c5⟩, c6, c7, c8⟩ := hb
    refine ⟨c1.c (by rw [e1 93 (by decide)]) (e1 94 (by decide)), ⟨s, by rw [eB 93 (by decide)]; exact c2, by rw [e1 93 (by decide), eB 93 (by decide)]; exact c3, fun i i0 i1 => ?_, ?_⟩, ⟨fun w w0 w1 => by rw [e1 _ (by omega)]; exact c6.1 w w0 w1, by rw [e1 143 (by decide)]; exact c6.2⟩, fun a b q1 q2 => ?_, fun a q1 q2 q3 => ?_⟩
    · rw [eB 93 (by decide)] at i1
      have h3 := hP.1
      have hr1 := c1.rg (i := i) i0 (by omega)
      have hr2 := hP.rg (i := i + s) (by omega) (by omega)
      rw [e1 94 (by decide), eB 94 (by decide), rowC_c (m := m1) (fun x a b => e1 x (by omega)), rowC_c (m := m) (fun x a b => eB x (by omega))]
      exact c4 i i0 i1
    · have h3 := hP.1
      have hr1 := c1.rg (i := m 93 1 - s) (by omega) (by omega)
      rw [e1 94 (by decide), eB 93 (by decide), rowC_c (m := m1) (fun x a b => e1 x (by omega)), rowC_c (m := m) (fun x a b => eB x (by omega))]
      exact c5
    · by_cases q : a = 241 ∨ 257 ≤ a ∧ a ≤ 265
      · rw [e1r a q, eBr a q]
      · rw [e1 a q, eB a q]; exact c7 a b q1 q2
    · by_cases q : a = 241 ∨ 257 ≤ a ∧ a ≤ 265
      · rw [e1r a q, eBr a q]
      · rw [e1 a q, eB a q]; exact c8 a q1 q2 q3
  have hd : dt mB = dt m := hDB.2.1
  have hD := Done.ch (m := mB) (m1 := m1s) (m2 := m2') hDB.1 hBC (fun a ha => ?_) hn h4 h40 ?_ (by rw [hd]; exact hw)
  · obtain ⟨d1, d2, k1, k2⟩ := hD
    refine ⟨d1, by rw [d2, hd], fun a ha => by rw [k1 a ha]; exact eB a (by omega), ?_⟩
    rcases k2 with ⟨q1, q2⟩ | q
    · refine Or.inl ⟨fun a ha => by rw [q1 a ha]; exact eB a (by omega), fun k a b => by rw [q2 k a b, eB 242 (by decide)]⟩
    · exact Or.inr q
  · by_cases q : a = 241 ∨ 257 ≤ a ∧ a ≤ 265
    · rw [e1r a q]
    · rw [e1 a q, hF.2 a (by omega) (by omega)]; exact h2 a ha
  · rw [rowC_c (m := m2) (fun x a b => hF.2 x (by omega) (by omega))]
    exact hr
theorem op_cover {g : Shp} {m : Mem} {x y : Int} (hS : Sh g m) (hG : gOk g) (h : Inv g m) : TwoA (eX10_cover x y g m) (fun g m => eX11_cover g x y m) Inv := by
  have hl := h.c1
  have hd := h.1.2.1
  have hW := h.1.2.2.2.2.1.2
  unfold TwoA eX10_cover ebX10_cover_0 ebX10_cover_15
  refine T_bd2 (tX10_isLine hl.2) ?_
  intro r1 m1 e1
  cases e1
  have rl : ∀ {g' : Shp} {m' : Mem} (_ : dt m' = dt m), T (eX11_isLine g' x m') (fun q => q = ((if 0 ≤ x ∧ x < dl (dt m) then 1 else 0), m')) := fun {g' m'} e => by
    have := tX11_isLine (g := g') (m := m') (v := x) (by rw [e]; exact hl.1)
    rw [e] at this
    exact this
  by_cases hx : 0 ≤ x ∧ x < dl (dt m)
  · rw [if_pos hx]
    refine T_ie (by decide) (T_bd2 tX10_isColour ?_)
    intro r2 m2 e2
    cases e2
    by_cases hy : 0 ≤ y ∧ y ≤ 2
    · rw [if_pos hy]
      refine T_ie (by decide) (T_bd2 (tX1_isCovered ⟨hx.1, by omega⟩) ?_)
      intro r3 m3 e3
      cases e3
      rw [cov_eq h ⟨hx.1, by omega⟩]
      by_cases hc : m 242 (10 + x) = -4
      · rw [if_pos hc]
        refine T_it rfl (T_bd3 (tX10_wayOf hS hG h hx hy) ?_)
        rintro r4 g4 m4 ⟨u1, u2, u3, ⟨u4, u5, u6⟩, u7⟩
        dsimp only at u1 u2 u3 u4 u5 u6 u7
        rw [u1]
        refine T_ck u2 ?_
        have e241 : m4 241 = m 241 := u7 241 (by decide) (by decide) (by decide)
        have e242 : m4 242 = m 242 := u7 242 (by decide) (by decide) (by decide)
        have edt : dt m4 = dt m := dt_c (by rw [e241]) (fun a a1 a2 => u7 a (by omega) (by omega) (by omega))
        have hwr := wyA_r (i := x) (c := y) ⟨hx.1, by omega⟩ hy
        have start : ∀ (m5 : Mem) (v : Int), dt m5 = dt m → m5 242 = m 242 → (∀ (m6 : Mem) (r6 : Int), RwF m5 m6 → ((r6 = 0 ∧ cR (dt m) (m 242) x y = 1000000) ∨ (r6 = 1 ∧ cR (dt m) (m 242) x y ≠ 1000000 ∧ RWay m6 (dt m) (m 242) x y)) → T (if r6 = 0 then some ((-4 : Int), m6) else bd2 (eX11_note g4 m6) fun v17 m18 => bd2 (eX11_coverBy g4 x y m18) fun v20 m21 => some (m21 241 36, m21)) (fun p => v = p.1 ∧ Inv g4 p.2)) → T (eX11_cover g4 x y m5) (fun p => v = p.1 ∧ Inv g4 p.2) := by
          intro m5 v d5 r5 hk
          unfold eX11_cover ebX11_cover_0
          refine T_bd2 (rl d5) ?_
          intro q1 n1 f1
          cases f1
          rw [if_pos hx]
          refine T_ie (by decide) (T_bd2 tX11_isColour ?_)
          intro q2 n2 f2
          cases f2
          rw [if_pos hy]
          refine T_ie (by decide) (T_bd2 (tX11_isCovered ⟨hx.1, by omega⟩) ?_)
          intro q3 n3 f3
          cases f3
          rw [r5, if_pos hc]
          have hfw := tX11_findWay (g := g4) (m := m5) (d := dt m) (i := x) (c := y) d5 hd hx (by rw [r5]; exact hW) hy
          rw [r5] at hfw
          refine T_it rfl (T_bd2 hfw ?_)
          rintro q4 n4 ⟨w1, w2⟩
          exact hk n4 q4 w1 w2
        unfold ebX10_cover_37
        rcases u3 with ⟨v1, v2⟩ | ⟨v1, v2, v3, v4, v5⟩
        · rw [v1]
          refine T_it rfl (T_some (start m4 (-4) edt e242 (fun m6 r6 w1 w2 => ?_)))
          rcases w2 with ⟨w3, _⟩ | ⟨_, w4, _⟩
          · subst w3
            exact T_it rfl (T_some ⟨rfl, (RwF.done u4.1 w1).inv u4⟩)
          · exact absurd v2 w4
        · rw [v1]
          obtain ⟨ht4, hp4, hs4, hpl4, ⟨hr4, hw4⟩, ⟨q1, q2, q3⟩⟩ := id u4.1
          refine T_ie (by decide) (T_bd2 (tBC q1) ?_)
          intro r5 m5 hb
          dsimp only at hb
          have b8 := hb.2.2.2.2
          have hP : 177 ≤ m4 1 6 ∧ m4 1 6 ≤ 191 := by rcases hs4 with hs | hs <;> omega
          have e51 : m5 1 = m4 1 := b8 1 (by decide) (by decide) (by decide)
          rw [e51, show m4 1 6 + 3 + (2 + 3 * x) = m4 1 6 + 5 + 3 * x by omega]
          rw [edt] at hpl4
          have row5 : RowEq (rowC m5 85) (m 242) := by
            rw [rowC_c (m := m4) (fun a u v => b8 a (by omega) (by omega) (by omega)), ← e242]
            exact hr4
          have w5 : WayN m5 (wyA x y) (dz (dt m)) (sR (dt m) (m 242) x y) (cR (dt m) (m 242) x y % 32).toNat := by
            unfold WayN at v4 ⊢
            rw [hb.2.2.2.1 _ _ (Or.inl (by decide)) (by omega), hb.2.2.2.1 _ _ (Or.inl (by decide)) (by omega), hb.2.2.2.1 _ _ (Or.inl (by decide)) (by omega)]
            have f1 : ∀ k, 1 ≤ k → k ≤ 3 → ∀ j, j ≠ 8 → m5 (wyA x y + k) j = m4 (wyA x y + k) j := fun k a b j hj => hb.2.2.2.1 _ _ (Or.inl hj) (by omega)
            have hn18 : (cR (dt m) (m 242) x y % 32).toNat ≤ 18 := by
              have := (cR_b (i := x) (c := y) hd hW hy).resolve_left v2
              omega
            have f2 : ∀ j, m5 (wyA x y + 1) j = m4 (wyA x y + 1) j := by
              intro j
              exact hb.2.2.2.1 _ _ (Or.inr (by unfold wyA; omega)) (by omega)
            refine ⟨v4.1, fun i hi => by rw [f2]; exact v4.2.1 i hi, fun s s0 s1 => by rw [f1 2 (by decide) (by decide) s (by omega), f1 3 (by decide) (by decide) s (by omega)]; exact v4.2.2.1 s s0 s1, v4.2.2.2⟩
          refine T_ck ⟨hx.1, by omega⟩ (T_bd2 (tX1_putDown (d := dt m) (R := m 242) hd hx (hpl4.c hl.1.2 (fun a u v => b8 a (by omega) (by omega) (by omega))) (by omega) row5 hW hy v2 w5 (by rw [hb.2.2.2.1 _ _ (Or.inl (by decide)) (by omega)]; exact v3) (by omega)) ?_)
          rintro r6 m6 ⟨k1, k2⟩
          dsimp only at k1 k2
          refine T_some ?_
          dsimp only
          have e65 : m6 (wyA x y) 5 = cR (dt m) (m 242) x y / 32 := by rw [k2 _ (by omega), hb.2.2.2.1 _ _ (Or.inl (by decide)) (by omega)]; exact v3
          rw [e65]
          have e2' : ∀ a, a ≠ 143 → (a < 85 ∨ 142 < a) → (a < 205 ∨ 237 < a) → m6 a = m4 a := fun a u v w => by rw [k2 a (by omega), b8 a u (by omega) w]
          have d6 : dt m6 = dt m := by rw [← edt]; exact dt_c (by rw [e2' 241 (by decide) (by decide) (by decide)]) (fun a u v => e2' a (by omega) (by omega) (by omega))
          have r6' : m6 242 = m 242 := by rw [e2' 242 (by decide) (by decide) (by decide)]; exact e242
          refine start m6 _ d6 r6' (fun m7 r7 w1 w2 => ?_)
          rcases w2 with ⟨_, w3⟩ | ⟨w3, _, w4⟩
          · exact absurd w3 v2
          subst w3
          refine T_ie (by decide) ?_
          have e7 : ∀ a, a ≠ 241 → (a < 257 ∨ 265 < a) → m7 a = m6 a := w1.2
          have q0 := q1.1
          have hT4 := u5.1.1
          have e73 : m7 241 3 = m4 241 3 := by rw [w1.1 3 (by decide) (by decide) (by decide), e2' 241 (by decide) (by decide) (by decide)]
          refine T_bd2 (tNT (hT4 (242, 20, 433) (by decide)).2 (hT4 (244, 20, 2598) (by decide)).2 (by rw [e73]; omega)) ?_
          intro r8 m8 hn
          dsimp only at hn
          have e8 : ∀ a, a ≠ 241 → a ≠ 244 → m8 a = m7 a := hn.2.2
          have d8 : dt m8 = dt m := by
            rw [← d6]
            exact dt_c (by rw [hn.2.1 20 (by decide), w1.1 20 (by decide) (by decide) (by decide)]) (fun a u v => by rw [e8 a (by omega) (by omega), e7 a (by omega) (by omega)])
          have r8' : ∀ k, 0 ≤ k → k < 433 → m8 242 k = m 242 k := fun k _ _ => by rw [e8 242 (by decide) (by decide), e7 242 (by decide) (by decide), r6']
          have w8 : RWay m8 (dt m) (m 242) x y := by
            unfold RWay at w4 ⊢
            rw [hn.2.1 36 (by decide), hn.2.1 35 (by decide), e8 263 (by decide) (by decide), e8 264 (by decide) (by decide), e8 265 (by decide) (by decide)]
            exact w4
          refine T_bd2 (tX11_coverBy (g := g4) hd d8 hx r8' hW hc hy v2 w8 v5 (hT4 (242, 20, 433) (by decide)).2) ?_
          rintro r9 m9 ⟨j1, j2⟩
          dsimp only at j1 j2
          refine T_some ⟨?_, ?_⟩
          · dsimp only
            rw [j2 241 (by decide)]; exact w8.1.symm
          · have hD : Done m4 m9 := Done.ch2 u4.1 hb (m2 := m6) (fun a ha => k2 a (by omega)) w1 hn (fun a a1 a2 a3 a4 => j2 a a2) ⟨by rw [j2 241 (by decide)], by rw [j2 241 (by decide)], by rw [j2 241 (by decide)]⟩ (k1.tr j1.sy) (by rw [edt]; exact WRow.c hl.1.2 (covR_w hd hx hW hy v2 hc) j1)
            exact hD.inv u4
      · rw [if_neg hc]
        refine T_ie (by decide) (T_some ?_)
        dsimp only
        unfold eX11_cover ebX11_cover_0
        refine T_bd2 (rl rfl) ?_
        intro q1 n1 f1
        cases f1
        rw [if_pos hx]
        refine T_ie (by decide) (T_bd2 tX11_isColour ?_)
        intro q2 n2 f2
        cases f2
        rw [if_pos hy]
        refine T_ie (by decide) (T_bd2 (tX11_isCovered ⟨hx.1, by omega⟩) ?_)
        intro q3 n3 f3
        cases f3
        rw [if_neg hc]
        exact T_ie (by decide) (T_some ⟨rfl, h⟩)
    · rw [if_neg hy]
      refine T_it rfl (T_some ?_)
      dsimp only
      unfold eX11_cover ebX11_cover_0 ebX11_cover_15
      refine T_bd2 (rl rfl) ?_
      intro q1 n1 f1
      cases f1
      rw [if_pos hx]
      refine T_ie (by decide) (T_bd2 tX11_isColour ?_)
      intro q2 n2 f2
      cases f2
      rw [if_neg hy]
      exact T_it rfl (T_some ⟨rfl, h⟩)
  · rw [if_neg hx]
    refine T_it rfl (T_some ?_)
    dsimp only
    unfold eX11_cover ebX11_cover_0 ebX11_cover_15
    refine T_bd2 (rl rfl) ?_
    intro q1 n1 f1
    cases f1
    rw [if_neg hx]
    exact T_it rfl (T_some ⟨rfl, h⟩)
