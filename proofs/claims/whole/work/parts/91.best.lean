/-! ===== best ===== -/
noncomputable def bsP (d : Dt) (R : Int → Int) (i : Int) : Nat → Int × Int
  | 0 => (-4, 1000000)
  | c + 1 => if cR d R i c ≠ 1000000 ∧ cR d R i c / 32 < (bsP d R i c).2 then ((c : Int), cR d R i c / 32) else bsP d R i c
theorem cR_b {d : Dt} {R : Int → Int} {i c : Int} (hd : WPl d) (hW : WRow d R) (hc : 0 ≤ c ∧ c ≤ 2) : cR d R i c = 1000000 ∨ 0 ≤ cR d R i c ∧ cR d R i c ≤ 1170 ∧ cR d R i c % 32 ≤ 18 := by
  have hbo : bok (bR R c) := ⟨hW.2.1 _ (by omega) (by omega), hW.2.1 _ (by omega) (by omega), hW.2.1 _ (by omega) (by omega)⟩
  have he : Eok (enR d R i) := ⟨hd.2.1, hW.1⟩
  have h1 := Cw_vb he (x := xR d R i) hbo
  unfold vb at h1
  have h3 := bok_s hbo
  by_cases q : cR d R i c = 1000000
  · exact Or.inl q
  · have h2 : cR d R i c % 32 ≤ bsum (bR R c) := (Cw_m he _ (xR d R i) (bR R c) (Nat.le_refl _) hbo q).1
    have h4 : cR d R i c = 1000000 ∨ 0 ≤ cR d R i c ∧ cR d R i c ≤ 1170 := h1
    right; omega
theorem bsP_4 {d : Dt} {R : Int → Int} {i : Int} (hd : WPl d) (hW : WRow d R) : ∀ c : Nat, c ≤ 3 → ((bsP d R i c).1 = -4 ∧ (bsP d R i c).2 = 1000000 ∨ 0 ≤ (bsP d R i c).1 ∧ (bsP d R i c).2 ≤ 1000)
  | 0, _ => Or.inl ⟨rfl, rfl⟩
  | c + 1, hc => by
    have h1 := bsP_4 (i := i) hd hW c (by omega)
    unfold bsP
    split
    · rename_i q
      have := (cR_b (i := i) (c := c) hd hW (by omega)).resolve_left q.1
      right
      dsimp only
      omega
    · exact h1
theorem op_best {g : Shp} {m : Mem} {x : Int} (hS : Sh g m) (hG : gOk g) (h : Inv g m) : TwoA (eX10_best x g m) (fun g m => eX11_best g x m) Inv := by
  have hl := h.c1
  have hd := h.1.2.1
  have hW := h.1.2.2.2.2.1.2
  unfold TwoA eX10_best ebX10_best_0
  refine T_bd2 (tX10_isLine hl.2) ?_
  intro r1 m1 e1
  cases e1
  have rl : ∀ {g' : Shp} {m' : Mem} (_ : dt m' = dt m), T (eX11_isLine g' x m') (fun q => q = ((if 0 ≤ x ∧ x < dl (dt m) then 1 else 0), m')) := fun {g' m'} e => by
    have := tX11_isLine (g := g') (m := m') (v := x) (by rw [e]; exact hl.1)
    rw [e] at this
    exact this
  by_cases hx : 0 ≤ x ∧ x < dl (dt m)
  · rw [if_pos hx]
    refine T_ie (by decide) (T_bd2 (tX1_isCovered ⟨hx.1, by omega⟩) ?_)
    intro r3 m3 e3
    cases e3
    rw [cov_eq h ⟨hx.1, by omega⟩]
    by_cases hc : m 242 (10 + x) = -4
    · rw [if_pos hc]
      refine T_it rfl (T_bdl (Q := fun r => (r.2.1 = (bsP (dt m) (m 242) x 3).1) ∧ Inv r.2.2.2.2.1 r.2.2.2.2.2 ∧ dt r.2.2.2.2.2 = dt m ∧ r.2.2.2.2.2 242 = m 242)
        (iter_T (fun s : Int × Int × Int × Shp × Mem => (0 ≤ s.2.2.1 ∧ s.2.2.1 ≤ 3) ∧ s.1 = (bsP (dt m) (m 242) x s.2.2.1.toNat).1 ∧ (s.1 = -4 ∨ s.2.1 = (bsP (dt m) (m 242) x s.2.2.1.toNat).2) ∧ Inv s.2.2.2.1 s.2.2.2.2 ∧ (Sh s.2.2.2.1 s.2.2.2.2 ∧ gOk s.2.2.2.1) ∧ dt s.2.2.2.2 = dt m ∧ s.2.2.2.2 242 = m 242) (fun s => (3 - s.2.2.1).toNat) ?_ 100000 ((-4), 0, 0, g, m) ⟨by dsimp only; decide, rfl, Or.inl rfl, h, ⟨hS, hG⟩, rfl, rfl⟩ (by dsimp only; decide)) ?_)
      · rintro ⟨b, f, c, g', m'⟩ ⟨c1, b1, b2, i1, ⟨s1, s2⟩, d1, d2⟩
        dsimp only at c1 b1 b2 i1 s1 s2 d1 d2
        unfold eBX10_best_32 ebX10_best_32
        dsimp only
        refine T_if (fun cc => T_out (by decide) ⟨?_, i1, d1, d2⟩) (fun cc => ?_)
        · dsimp only
          rw [b1, show c.toNat = 3 by omega]
        · have hx' : 0 ≤ x ∧ x < dl (dt m') := by rw [d1]; exact hx
          refine T_bd3 (tX10_wayOf s1 s2 i1 hx' ⟨c1.1, by omega⟩) ?_
          rintro r4 g4 m4 ⟨u1, u2, u3, ⟨u4, u5, u6⟩, u7⟩
          dsimp only at u1 u2 u3 u4 u5 u6 u7
          rw [u1]
          refine T_ck u2 ?_
          rw [d1, d2] at u3
          have e241 : m4 241 = m' 241 := u7 241 (by decide) (by decide) (by decide)
          have e242 : m4 242 = m 242 := by rw [u7 242 (by decide) (by decide) (by decide)]; exact d2
          have edt : dt m4 = dt m := by rw [← d1]; exact dt_c (by rw [e241]) (fun a a1 a2 => u7 a (by omega) (by omega) (by omega))
          have es : (c + 1).toNat = c.toNat + 1 := by omega
          have ec : ((c.toNat : Nat) : Int) = c := by omega
          have hb4 := bsP_4 (i := x) hd hW c.toNat (by omega)
          have hst : bsP (dt m) (m 242) x (c.toNat + 1) = if cR (dt m) (m 242) x c ≠ 1000000 ∧ cR (dt m) (m 242) x c / 32 < (bsP (dt m) (m 242) x c.toNat).2 then (c, cR (dt m) (m 242) x c / 32) else bsP (dt m) (m 242) x c.toNat := by
            conv => lhs; unfold bsP
            rw [ec]
          have go : ∀ b' f' : Int, b' = (bsP (dt m) (m 242) x (c.toNat + 1)).1 → (b' = -4 ∨ f' = (bsP (dt m) (m 242) x (c.toNat + 1)).2) → T (ebX10_best_79 x b' f' c g4 m4) (G (fun s : Int × Int × Int × Shp × Mem => (0 ≤ s.2.2.1 ∧ s.2.2.1 ≤ 3) ∧ s.1 = (bsP (dt m) (m 242) x s.2.2.1.toNat).1 ∧ (s.1 = -4 ∨ s.2.1 = (bsP (dt m) (m 242) x s.2.2.1.toNat).2) ∧ Inv s.2.2.2.1 s.2.2.2.2 ∧ (Sh s.2.2.2.1 s.2.2.2.2 ∧ gOk s.2.2.2.1) ∧ dt s.2.2.2.2 = dt m ∧ s.2.2.2.2 242 = m 242) (fun s => (3 - s.2.2.1).toNat) (3 - c).toNat (fun r => (r.2.1 = (bsP (dt m) (m 242) x 3).1) ∧ Inv r.2.2.2.2.1 r.2.2.2.2.2 ∧ dt r.2.2.2.2.2 = dt m ∧ r.2.2.2.2.2 242 = m 242)) := by
            intro b' f' h1 h2
            unfold ebX10_best_79
            rw [w32_id (by omega) (by omega)]
            refine T_vv (T_go ⟨by dsimp only; omega, ?_, ?_, u4, u5, edt, e242⟩ (by dsimp only; omega))
            · dsimp only; rw [es]; exact h1
            · dsimp only; rw [es]; exact h2
          unfold ebX10_best_45 ebX10_best_70
          rcases u3 with ⟨v1, v2⟩ | ⟨v1, v2, v3, v4, v5⟩
          · rw [v1]
            rw [if_neg (fun q => q.1 v2)] at hst
            exact T_it rfl (go b f (by rw [hst]; exact b1) (by rw [hst]; exact b2))
          · rw [v1, v3]
            have hcb := (cR_b (i := x) (c := c) hd hW (by omega)).resolve_left v2
            refine T_ie (by decide) (T_if (fun z1 => T_vv ?_) (fun z1 => T_if (fun z2 => ?_) (fun z2 => T_vv ?_)))
            · have h2 : (bsP (dt m) (m 242) x c.toNat).2 = 1000000 := by
                rcases hb4 with ⟨_, q⟩ | ⟨q, _⟩
                · exact q
                · omega
              rw [if_pos ⟨v2, by omega⟩] at hst
              exact go c _ (by rw [hst]) (Or.inr (by rw [hst]))
            · have h2 := b2.resolve_left z1
              rw [if_neg (fun q => by have := q.2; omega)] at hst
              exact go b f (by rw [hst]; exact b1) (by rw [hst]; exact b2)
            · have h2 := b2.resolve_left z1
              rw [if_pos ⟨v2, by omega⟩] at hst
              exact go c _ (by rw [hst]) (Or.inr (by rw [hst]))
      · rintro cc ⟨b, f, c, g4, m4⟩ ⟨b1, i1, d1, d2⟩
        dsimp only at b1 i1 d1 d2 ⊢
        unfold ebX10_best_85
        refine T_some ?_
        dsimp only
        unfold eX11_best ebX11_best_0
        refine T_bd2 (rl d1) ?_
        intro q1 n1 f1
        cases f1
        rw [if_pos hx]
        refine T_ie (by decide) (T_bd2 (tX11_isCovered ⟨hx.1, by omega⟩) ?_)
        intro q3 n3 f3
        cases f3
        rw [d2, if_pos hc]
        refine T_it rfl (T_bdl (Q := fun r => r.2.1 = (bsP (dt m) (m 242) x 3).1 ∧ Inv g4 r.2.2.2.2)
          (iter3 (fun b' f' c' m' => (0 ≤ c' ∧ c' ≤ 3) ∧ b' = (bsP (dt m) (m 242) x c'.toNat).1 ∧ f' = (bsP (dt m) (m 242) x c'.toNat).2 ∧ Inv g4 m' ∧ dt m' = dt m ∧ m' 242 = m 242) (fun _ _ c' => (3 - c').toNat) ⟨by decide, rfl, rfl, i1, d1, d2⟩ (by decide) ?_) ?_)
        · rintro b' f' c' m' ⟨c1, b1', f1', i1', d1', d2'⟩
          unfold eBX11_best_30 ebX11_best_30
          simp only
          refine T_if (fun cc => T_out (by decide) ⟨?_, i1'⟩) (fun cc => ?_)
          · dsimp only
            rw [b1', show c'.toNat = 3 by omega]
          · have hfw := tX11_findWay (g := g4) (m := m') (d := dt m) (i := x) (c := c') d1' hd hx (by rw [d2']; exact hW) ⟨c1.1, by omega⟩
            rw [d2'] at hfw
            refine T_bd2 hfw ?_
            rintro q4 n4 ⟨w1, w2⟩
            dsimp only at w1 w2
            have hdn := RwF.done i1'.1 w1
            have hinv : Inv g4 n4 := hdn.inv i1'
            have edt : dt n4 = dt m := by rw [hdn.2.1]; exact d1'
            have e242 : n4 242 = m 242 := by rw [w1.2 242 (by decide) (by decide)]; exact d2'
            have es : (c' + 1).toNat = c'.toNat + 1 := by omega
            have ec : ((c'.toNat : Nat) : Int) = c' := by omega
            have hst : bsP (dt m) (m 242) x (c'.toNat + 1) = if cR (dt m) (m 242) x c' ≠ 1000000 ∧ cR (dt m) (m 242) x c' / 32 < (bsP (dt m) (m 242) x c'.toNat).2 then (c', cR (dt m) (m 242) x c' / 32) else bsP (dt m) (m 242) x c'.toNat := by
              conv => lhs; unfold bsP
              rw [ec]
            unfold ebX11_best_62
            rw [w32_id (by omega) (by omega)]
            rcases w2 with ⟨w3, w4⟩ | ⟨w3, w4, w5⟩
            · subst w3
              rw [if_neg (fun q => q.1 w4)] at hst
              refine T_it rfl (T_vv (T_go ⟨⟨by simp only; omega, by simp only; omega⟩, ?_, ?_, hinv, edt, e242⟩ (by simp only; omega)))
              · simp only [es]; rw [hst]; exact b1'
              · simp only [es]; rw [hst]; exact f1'
            · subst w3
              rw [w5.1]
              refine T_ie (by decide) (T_if (fun z1 => T_vv (T_go ⟨⟨by simp only; omega, by simp only; omega⟩, ?_, ?_, hinv, edt, e242⟩ (by simp only; omega))) (fun z1 => T_vv (T_vv (T_go ⟨⟨by simp only; omega, by simp only; omega⟩, ?_, ?_, hinv, edt, e242⟩ (by simp only; omega)))))
              · rw [if_neg (fun q => by have := q.2; omega)] at hst
                simp only [es]; rw [hst]; exact b1'
              · rw [if_neg (fun q => by have := q.2; omega)] at hst
                simp only [es]; rw [hst]; exact f1'
              · rw [if_pos ⟨w4, by omega⟩] at hst
                simp only [es]; rw [hst]
              · rw [if_pos ⟨w4, by omega⟩] at hst
                simp only [es]; rw [hst]
        · rintro c5 ⟨b5, f5, c6, m5⟩ ⟨h5, h6⟩
          exact T_some ⟨by dsimp only at h5 ⊢; rw [h5, b1], h6⟩
    · rw [if_neg hc]
      refine T_ie (by decide) (T_some ?_)
      dsimp only
      unfold eX11_best ebX11_best_0
      refine T_bd2 (rl rfl) ?_
      intro q1 n1 f1
      cases f1
      rw [if_pos hx]
      refine T_ie (by decide) (T_bd2 (tX11_isCovered ⟨hx.1, by omega⟩) ?_)
      intro q3 n3 f3
      cases f3
      rw [if_neg hc]
      exact T_ie (by decide) (T_some ⟨rfl, h⟩)
  · rw [if_neg hx]
    refine T_it rfl (T_some ?_)
    dsimp only
    unfold eX11_best ebX11_best_0
    refine T_bd2 (rl rfl) ?_
    intro q1 n1 f1
    cases f1
    rw [if_neg hx]
    exact T_it rfl (T_some ⟨rfl, h⟩)
