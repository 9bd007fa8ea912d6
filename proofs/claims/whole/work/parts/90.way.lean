/-! ===== way ===== -/
theorem Inv.c1 {g : Shp} {m : Mem} (h : Inv g m) : (1 ≤ dl (dt m) ∧ dl (dt m) ≤ 3) ∧ m (m 1 6) 5 = dl (dt m) := ⟨h.1.2.1.1, h.1.2.2.2.1.2.1⟩
theorem cov_eq {g : Shp} {m : Mem} (h : Inv g m) {x : Int} (hx : 0 ≤ x ∧ x < 3) : rowC m 85 (10 + x) = m 242 (10 + x) := h.1.2.2.2.2.1.1 _ (by omega) (by omega)
/-- behind a line, a colour and no cover: what the program does first, and the reference -/
theorem op_way {g : Shp} {m : Mem} {x y k : Int} (hS : Sh g m) (hG : gOk g) (h : Inv g m) : TwoA (eX10_way x y k g m) (fun g m => eX11_way g x y k m) Inv := by
  have hl := h.c1
  unfold TwoA eX10_way ebX10_way_0 ebX10_way_21
  refine T_bd2 (tX10_isLine hl.2) ?_
  intro r1 m1 e1
  cases e1
  have rl : ∀ {g' : Shp} {m' : Mem} (_ : dt m' = dt m), T (eX11_isLine g' x m') (fun q => q = ((if 0 ≤ x ∧ x < dl (dt m) then 1 else 0), m')) := fun {g' m'} e => by
    have := tX11_isLine (g := g') (m := m') (v := x) (by rw [e]; exact hl.1)
    rw [e] at this
    exact this
  by_cases hx : 0 ≤ x ∧ x < dl (dt m)
  · rw [if_pos hx]
    refine T_ie (by decide) (T_bd2 tX10_isColour ?_)
    intro r2 m2 e2
    cases e2
    by_cases hy : 0 ≤ y ∧ y ≤ 2
    · rw [if_pos hy]
      refine T_ie (by decide) (T_if (fun hk => T_bd2 (tX1_isCovered ⟨hx.1, by omega⟩) ?_) (fun hk => T_some ?_))
      · intro r3 m3 e3
        cases e3
        rw [cov_eq h ⟨hx.1, by omega⟩]
        by_cases hc : m 242 (10 + x) = -4
        · rw [if_pos hc]
          refine T_it rfl (T_bd3 (tX10_wayOf hS hG h hx hy) ?_)
          rintro r4 g4 m4 ⟨u1, u2, u3, ⟨u4, u5, u6⟩, u7⟩
          dsimp only at u1 u2 u3 u4 u5 u6 u7
          rw [u1]
          refine T_ck u2 ?_
          have e241 : m4 241 = m 241 := u7 241 (by decide) (by decide) (by decide)
          have e242 : m4 242 = m 242 := u7 242 (by decide) (by decide) (by decide)
          have edt : dt m4 = dt m := dt_c (by rw [e241]) (fun a a1 a2 => u7 a (by omega) (by omega) (by omega))
          have hd := h.1.2.1
          have ref : ∀ v : Int, (∀ m5, RwF m4 m5 → ((cR (dt m) (m 242) x y = 1000000 ∧ v = -4) ∨ (cR (dt m) (m 242) x y ≠ 1000000 ∧ (RWay m5 (dt m) (m 242) x y → v = if 0 ≤ k then (if k < cR (dt m) (m 242) x y % 32 then wcode (dz (dt m)) (sR (dt m) (m 242) x y) k.toNat else -4) else if k = -1 then cR (dt m) (m 242) x y / 32 else cR (dt m) (m 242) x y % 32)))) → WSq (dz (dt m)) (sR (dt m) (m 242) x y) (cR (dt m) (m 242) x y % 32).toNat ∨ cR (dt m) (m 242) x y = 1000000 → T (eX11_way g4 x y k m4) (fun p => v = p.1 ∧ Inv g4 p.2) := by
            intro v hv hWS
            unfold eX11_way ebX11_way_0
            refine T_bd2 (rl edt) ?_
            intro q1 n1 f1
            cases f1
            rw [if_pos hx]
            refine T_ie (by decide) (T_bd2 tX11_isColour ?_)
            intro q2 n2 f2
            cases f2
            rw [if_pos hy]
            refine T_ie (by decide) (T_it hk (T_bd2 (tX11_isCovered ⟨hx.1, by omega⟩) ?_))
            intro q3 n3 f3
            cases f3
            rw [e242, if_pos hc]
            have hfw := tX11_findWay (g := g4) (m := m4) (d := dt m) (i := x) (c := y) edt hd hx (by rw [e242]; exact h.1.2.2.2.2.1.2) hy
            rw [e242] at hfw
            refine T_it rfl (T_bd2 hfw ?_)
            rintro q4 n4 ⟨w1, w2⟩
            dsimp only at w1 w2
            have hinv : Inv g4 n4 := (RwF.done u4.1 w1).inv u4
            rcases w2 with ⟨w3, w4⟩ | ⟨w3, w4, w5⟩
            · subst w3
              refine T_it rfl (T_some ⟨?_, hinv⟩)
              rcases hv n4 w1 with ⟨_, z⟩ | ⟨z, _⟩
              · exact z
              · exact absurd w4 z
            · subst w3
              refine T_ie (by decide) ?_
              have hvv := ((hv n4 w1).resolve_left (fun z => w4 z.1)).2 w5
              obtain ⟨y1, y2, y3⟩ := w5
              have hWS := hWS.resolve_right w4
              have hb := h.1.2.2.2.2.1.2
              have hm18 : cR (dt m) (m 242) x y % 32 ≤ 18 := by
                have hbo : bok (bR (m 242) y) := ⟨hb.2.1 _ (by omega) (by omega), hb.2.1 _ (by omega) (by omega), hb.2.1 _ (by omega) (by omega)⟩
                have := (Cw_m (e := enR (dt m) (m 242) x) ⟨hd.2.1, hb.1⟩ _ (xR (dt m) (m 242) x) (bR (m 242) y) (Nat.le_refl _) hbo w4).1
                have h3 := bok_s hbo
                have : cR (dt m) (m 242) x y % 32 ≤ bsum (bR (m 242) y) := this
                omega
              rw [y1, y2]
              by_cases hk0 : 0 ≤ k
              · rw [if_pos hk0] at hvv
                refine T_it hk0 (T_if (fun c1 => ?_) (fun c1 => T_some ⟨by rw [if_neg c1] at hvv; exact hvv, hinv⟩))
                rw [if_pos c1] at hvv
                obtain ⟨z1, z2, z3⟩ := y3 k.toNat (by omega)
                obtain ⟨⟨t1, t2⟩, ⟨t3, t4, t5⟩, t6⟩ := hWS k.toNat (by omega)
                rw [show ((k.toNat : Nat) : Int) = k by omega] at z1 z2 z3
                have e252 : n4 252 = dz (dt m) := by
                  rw [w1.2 252 (by decide) (by decide), ← edt]; rfl
                rw [z1, z2, e252]
                unfold ebX11_way_121
                rw [w32_id (x := 20 * (sR (dt m) (m 242) x y).1 k.toNat) (by omega) (by omega), w32_id (x := 2 * (sR (dt m) (m 242) x y).2.1 k.toNat) (by omega) (by omega), w32_id (x := 20 * (sR (dt m) (m 242) x y).1 k.toNat + 2 * (sR (dt m) (m 242) x y).2.1 k.toNat) (by omega) (by omega)]
                unfold wcode at hvv
                refine T_ck ⟨hk0, by omega⟩ (T_ck ⟨hk0, by omega⟩ (T_ck ⟨hk0, by omega⟩ (T_ck ⟨hk0, by omega⟩ (T_ck ⟨t1, by omega⟩ (T_if (fun c2 => T_some ⟨?_, hinv⟩) (fun c2 => T_some ⟨?_, hinv⟩))))))
                · dsimp only
                  rw [w32_id (by omega) (by omega), hvv, if_neg (by omega)]
                · dsimp only
                  rw [w32_id (by omega) (by omega), hvv, if_pos (by omega)]
              · rw [if_neg hk0] at hvv
                refine T_ie hk0 ?_
                unfold ebX11_way_66
                exact T_if (fun c1 => T_some ⟨by rw [if_pos c1] at hvv; exact hvv, hinv⟩) (fun c1 => T_some ⟨by rw [if_neg c1] at hvv; exact hvv, hinv⟩)
          unfold ebX10_way_43 ebX10_way_100
          rcases u3 with ⟨v1, v2⟩ | ⟨v1, v2, v3, v4, v5⟩
          · rw [v1]
            exact T_it rfl (T_some (ref (-4) (fun m5 _ => Or.inl ⟨v2, rfl⟩) (Or.inr v2)))
          · rw [v1, v3, v4.1]
            have hcm : 0 ≤ cR (dt m) (m 242) x y % 32 := by omega
            refine T_ie (by decide) (T_if (fun c1 => T_some (ref _ (fun m5 _ => Or.inr ⟨v2, fun _ => ?_⟩) (Or.inl v5))) (fun c1 => T_if (fun c2 => T_some (ref _ (fun m5 _ => Or.inr ⟨v2, fun _ => ?_⟩) (Or.inl v5))) (fun c2 => T_if (fun c3 => T_some (ref _ (fun m5 _ => Or.inr ⟨v2, fun _ => ?_⟩) (Or.inl v5))) (fun c3 => T_ck ⟨by omega, ?_⟩ (T_some (ref _ (fun m5 _ => Or.inr ⟨v2, fun _ => ?_⟩) (Or.inl v5)))))))
            · dsimp only
              rw [if_neg (by omega), if_pos c1]
            · dsimp only
              rw [if_neg (by omega), if_neg c1]; omega
            · dsimp only
              rw [if_pos (by omega), if_neg (by omega)]
            · have hb := h.1.2.2.2.2.1.2
              have hbo : bok (bR (m 242) y) := ⟨hb.2.1 _ (by omega) (by omega), hb.2.1 _ (by omega) (by omega), hb.2.1 _ (by omega) (by omega)⟩
              have := (Cw_m (e := enR (dt m) (m 242) x) ⟨hd.2.1, hb.1⟩ _ (xR (dt m) (m 242) x) (bR (m 242) y) (Nat.le_refl _) hbo v2).1
              have h3 := bok_s hbo
              have : cR (dt m) (m 242) x y % 32 ≤ bsum (bR (m 242) y) := this
              omega
            · dsimp only
              rw [if_pos (by omega), if_pos (by omega), ← v4.2.1 k.toNat (by omega), show ((k.toNat : Nat) : Int) = k by omega]
        · rw [if_neg hc]
          refine T_ie (by decide) (T_some ?_)
          dsimp only
          unfold eX11_way ebX11_way_0
          refine T_bd2 (rl rfl) ?_
          intro q1 n1 f1
          cases f1
          rw [if_pos hx]
          refine T_ie (by decide) (T_bd2 tX11_isColour ?_)
          intro q2 n2 f2
          cases f2
          rw [if_pos hy]
          refine T_ie (by decide) (T_it hk (T_bd2 (tX11_isCovered ⟨hx.1, by omega⟩) ?_))
          intro q3 n3 f3
          cases f3
          rw [if_neg hc]
          exact T_ie (by decide) (T_some ⟨rfl, h⟩)
      · dsimp only
        unfold eX11_way ebX11_way_0 ebX11_way_21
        refine T_bd2 (rl rfl) ?_
        intro q1 n1 f1
        cases f1
        rw [if_pos hx]
        refine T_ie (by decide) (T_bd2 tX11_isColour ?_)
        intro q2 n2 f2
        cases f2
        rw [if_pos hy]
        exact T_ie (by decide) (T_ie hk (T_some ⟨rfl, h⟩))
    · rw [if_neg hy]
      refine T_it rfl (T_some ?_)
      dsimp only
      unfold eX11_way ebX11_way_0 ebX11_way_21
      refine T_bd2 (rl rfl) ?_
      intro q1 n1 f1
      cases f1
      rw [if_pos hx]
      refine T_ie (by decide) (T_bd2 tX11_isColour ?_)
      intro q2 n2 f2
      cases f2
      rw [if_neg hy]
      exact T_it rfl (T_some ⟨rfl, h⟩)
  · rw [if_neg hx]
    refine T_it rfl (T_some ?_)
    dsimp only
    unfold eX11_way ebX11_way_0 ebX11_way_21
    refine T_bd2 (rl rfl) ?_
    intro q1 n1 f1
    cases f1
    rw [if_neg hx]
    exact T_it rfl (T_some ⟨rfl, h⟩)
