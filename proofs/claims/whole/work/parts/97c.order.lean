theorem Done.ord {m m' : Mem} (h : Core m) (hf : ∀ a, a ≠ 241 → a ≠ 242 → a ≠ 243 → (a < 257 ∨ 267 < a) → m' a = m a) (h3 : m' 241 3 = m 241 3) (h5 : m' 241 5 = m 241 5) (h20 : m' 241 20 = m 241 20) (hr0 : RowEq (m' 242) (m 242)) : Done m m' := by
  obtain ⟨ht, hw, hs, hp, ⟨hr, hr2⟩, hq⟩ := h
  have hP : (m 1 6 = 177 ∧ m 1 7 = 191) ∨ (m 1 6 = 191 ∧ m 1 7 = 177) := hs
  have hd : dt m' = dt m := dt_c h20 (fun a b c => hf a (by omega) (by omega) (by omega) (by omega))
  have h1 : m' 1 = m 1 := hf 1 (by decide) (by decide) (by decide) (by decide)
  refine ⟨⟨ht.c h5 (by rw [hf 2 (by decide) (by decide) (by decide) (by decide)]) (hf 3 (by decide) (by decide) (by decide) (by decide)) (hf 245 (by decide) (by decide) (by decide) (by decide)), by rw [hd]; exact hw, by unfold ISw; rw [h1]; exact hs, ?_, ⟨?_, ?_⟩, hq.c hd (fun a b c => hf a (by omega) (by omega) (by omega) (by omega)) h3 (hf 244 (by decide) (by decide) (by decide) (by decide))⟩, hd, fun a ha => hf a (by omega) (by omega) (by omega) (by omega), Or.inl ⟨fun a ha => hf a (by omega) (by omega) (by omega) (by omega), fun k a b => hr0 k a b⟩⟩
  · rw [h1, hd]
    exact hp.c hw.1.2 (fun a b c => hf a (by omega) (by omega) (by omega) (by omega))
  · rw [rowC_c (m := m) (fun x a b => hf x (by omega) (by omega) (by omega) (by omega))]
    exact hr.tr hr0.sy
  · rw [hd]
    exact hr2.c hw.1.2 hr0
def cnt (u : U3) (k : Nat) : Nat := ((List.range k).filter (fun j => uo u ((j : Nat) : Int))).length
theorem cnt_s (u : U3) (k : Nat) : cnt u (k + 1) = cnt u k + (if uo u ((k : Nat) : Int) = true then 1 else 0) := by
  unfold cnt
  rw [List.range_succ, List.filter_append, List.length_append]
  congr 1
  by_cases q : uo u ((k : Nat) : Int) = true
  · rw [if_pos q]; simp [q]
  · rw [if_neg q]; simp [q]
theorem cnt_uc : ∀ (a b c : Bool) (n : Fin 4), (∀ j : Fin 3, n.val ≤ j.val → uo (a, b, c) ((j.val : Nat) : Int) = false) → cnt (a, b, c) n.val = uc (a, b, c) := by decide +kernel
theorem lsc_len : ∀ (a b c : Bool) (code : Fin 27), (lsc (a, b, c) code.val).length = uc (a, b, c) := by decide +kernel
theorem lsc_at : ∀ (a b c : Bool) (code : Fin 27) (k : Fin 3), k.val < uc (a, b, c) → (lsc (a, b, c) code.val).getD k.val 0 = ((tc code.val k.val : Nat) : Int) := by decide +kernel
/-- what the codes below c gave -/
noncomputable def bC (d : Dt) (R cs : Int → Int) (c : Nat) : Ac := fb (fun ts => vT d cs ts R) (((List.range c).filter (fun code => av (uR d R) code 3)).map (lsc (uR d R))) none
theorem bC_27 {d : Dt} {R cs : Int → Int} : bC d R cs 27 = bO d R cs := by
  unfold bC bO
  generalize uR d R = u
  obtain ⟨a, b, c⟩ := u
  rw [cd_pm a b c]
theorem bC_s {d : Dt} {R cs : Int → Int} {c : Nat} : bC d R cs (c + 1) = if av (uR d R) c 3 = true then fs1 (vT d cs (lsc (uR d R) c) R) (lsc (uR d R) c) (bC d R cs c) else bC d R cs c := by
  unfold bC
  rw [List.range_succ, List.filter_append, List.map_append, fb_app]
  by_cases q : av (uR d R) c 3 = true
  · rw [if_pos q]; simp [q, fb]
  · rw [if_neg q]; simp [q, fb]
/-- fewest and best as the reference holds them -/
def RfO (u : U3) (acc : Ac) (f b : Int) : Prop := match acc with
  | none => f = 1000000 ∧ b = -4
  | some q => (f = q.1 ∧ q.1 < 1000000) ∧ ∃ code : Nat, code < 27 ∧ b = code ∧ q.2 = lsc u code
theorem op_order {g : Shp} {m : Mem} {x y z k : Int} (hS : Sh g m) (hG : gOk g) (h : Inv g m) : TwoA (eX10_order x y z k g m) (fun g m => eX11_order g x y z k m) Inv := by
  have hd := h.1.2.1
  have hl := hd.1
  have hW := h.1.2.2.2.2.1.2
  have bad : ¬ ((0 ≤ x ∧ x ≤ 2) ∧ (0 ≤ y ∧ y ≤ 2) ∧ (0 ≤ z ∧ z ≤ 2) ∧ -1 ≤ k ∧ k ≤ 2) → T (eX11_order g x y z k m) (fun p => (-1 : Int) = p.1 ∧ Inv g p.2) := by
    intro hn
    unfold eX11_order ebX11_order_0 ebX11_order_31
    refine T_bd2 tX11_isColour ?_
    intro q1 n1 f1
    cases f1
    by_cases hx : 0 ≤ x ∧ x ≤ 2
    · rw [if_pos hx]
      refine T_ie (by decide) (T_bd2 tX11_isColour ?_)
      intro q2 n2 f2
      cases f2
      by_cases hy : 0 ≤ y ∧ y ≤ 2
      · rw [if_pos hy]
        refine T_ie (by decide) (T_bd2 tX11_isColour ?_)
        intro q3 n3 f3
        cases f3
        by_cases hz : 0 ≤ z ∧ z ≤ 2
        · rw [if_pos hz]
          refine T_ie (by decide) (T_bd2 tX11_in ?_)
          intro q4 n4 f4
          cases f4
          rw [if_neg (fun q => hn ⟨hx, hy, hz, q⟩)]
          exact T_it rfl (T_some ⟨rfl, h⟩)
        · rw [if_neg hz]
          exact T_it rfl (T_some ⟨rfl, h⟩)
      · rw [if_neg hy]
        exact T_it rfl (T_some ⟨rfl, h⟩)
    · rw [if_neg hx]
      exact T_it rfl (T_some ⟨rfl, h⟩)
  unfold TwoA eX10_order ebX10_order_0 ebX10_order_33
  refine T_bd2 tX10_isColour ?_
  intro r1 m1 e1
  cases e1
  by_cases hx : 0 ≤ x ∧ x ≤ 2
  case neg => rw [if_neg hx]; exact T_it rfl (T_some (bad (fun q => hx q.1)))
  rw [if_pos hx]
  refine T_ie (by decide) (T_bd2 tX10_isColour ?_)
  intro r2 m2 e2
  cases e2
  by_cases hy : 0 ≤ y ∧ y ≤ 2
  case neg => rw [if_neg hy]; exact T_it rfl (T_some (bad (fun q => hy q.2.1)))
  rw [if_pos hy]
  refine T_ie (by decide) (T_bd2 tX10_isColour ?_)
  intro r3 m3 e3
  cases e3
  by_cases hz : 0 ≤ z ∧ z ≤ 2
  case neg => rw [if_neg hz]; exact T_it rfl (T_some (bad (fun q => hz q.2.2.1)))
  rw [if_pos hz]
  refine T_ie (by decide) (T_if (fun c1 => T_some (bad (fun q => by have := q.2.2.2.1; omega))) (fun c1 => T_if (fun c2 => ?_) (fun c2 => T_some (bad (fun q => by have := q.2.2.2.2; omega)))))
  refine T_mono (ord_cls hS hG h hx hy hz ⟨by omega, c2⟩) ?_
  rintro ⟨r4, g4, m4⟩ ⟨u1, u2, ⟨u3, u3'⟩, u4⟩
  dsimp only at u1 u2 u3 u3' u4 ⊢
  rw [u1]
  have e242 : m4 242 = m 242 := u4 242 (by decide) (by decide)
  have edt : dt m4 = dt m := dt_c (by rw [u4 241 (by decide) (by decide)]) (fun a a1 a2 => u4 a (by omega) (by omega))
  unfold eX11_order ebX11_order_0
  refine T_bd2 tX11_isColour ?_
  intro q1 n1 f1
  cases f1
  rw [if_pos hx]
  refine T_ie (by decide) (T_bd2 tX11_isColour ?_)
  intro q2 n2 f2
  cases f2
  rw [if_pos hy]
  refine T_ie (by decide) (T_bd2 tX11_isColour ?_)
  intro q3 n3 f3
  cases f3
  rw [if_pos hz]
  refine T_ie (by decide) (T_bd2 tX11_in ?_)
  intro q4 n4 f4
  cases f4
  rw [if_pos (show -1 ≤ k ∧ k ≤ 2 by omega)]
  refine T_ie (by decide) (T_ck (by decide) (T_vm' (fun m5 e5 => T_ck (by decide) (T_vm' (fun m6 e6 => T_ck (by decide) (T_vm' (fun m7 e7 => ?_)))))))
  have f7 : ∀ a, a ≠ 266 → m7 a = m4 a := fun a ha => by rw [e7, ms_f ha, e6, ms_f ha, e5, ms_f ha]
  have c7 : ∀ i, 0 ≤ i → i < 3 → m7 266 i = csF x y z i := by
    intro i a b
    rw [e7]
    unfold csF
    rcases (show i = 0 ∨ i = 1 ∨ i = 2 by omega) with q | q | q <;> subst q
    · rw [if_pos rfl, ms_y (by decide), e6, ms_y (by decide), e5, ms_at]
    · rw [if_neg (by decide), if_pos rfl, ms_y (by decide), e6, ms_at]
    · rw [if_neg (by decide), if_neg (by decide), ms_at]
  have d7 : dt m7 = dt m := by rw [← edt]; exact dt_c (by rw [f7 241 (by decide)]) (fun a a1 a2 => f7 a (by omega))
  have r7 : m7 242 = m 242 := by rw [f7 242 (by decide)]; exact e242
  have hcs := csF_r hx hy hz
  refine T_bdl (Q := fun r => r.2.1 = ((uc (uR (dt m) (m 242)) : Nat) : Int) ∧ r.2.2.2 = m7)
    (iter2 (fun v i m' => (0 ≤ i ∧ i ≤ dl (dt m)) ∧ v = ((cnt (uR (dt m) (m 242)) i.toNat : Nat) : Int) ∧ m' = m7) (fun _ i => (dl (dt m) - i).toNat) ⟨by omega, rfl, rfl⟩ (by omega) ?_) ?_
  · rintro v i m' ⟨i1, hv, rfl⟩
    unfold eBX11_order_60 ebX11_order_60 ebX11_order_85
    have e20 : m' 241 20 = dl (dt m) := by rw [← d7]; rfl
    simp only [e20]
    have es : (i + 1).toNat = i.toNat + 1 := by omega
    have hcs' := cnt_s (uR (dt m) (m 242)) i.toNat
    rw [show ((i.toNat : Nat) : Int) = i by omega] at hcs'
    have hcb : cnt (uR (dt m) (m 242)) i.toNat ≤ i.toNat := by
      unfold cnt
      exact Nat.le_trans (List.length_filter_le _ _) (by simp)
    refine T_if (fun c => T_out (by decide) ⟨?_, rfl⟩) (fun c => T_bd2 (tX11_isCovered ⟨i1.1, by omega⟩) ?_)
    · dsimp only
      rw [hv, show i = dl (dt m) by omega]
      congr 1
      have := cnt_uc (uR (dt m) (m 242)).1 (uR (dt m) (m 242)).2.1 (uR (dt m) (m 242)).2.2 ⟨(dl (dt m)).toNat, by omega⟩ (fun j hj => ?_)
      · exact this
      · by_cases q : uo (uR (dt m) (m 242)) ((j.val : Nat) : Int) = true
        · have := uR_o.mp q
          dsimp only at hj
          omega
        · rw [Bool.not_eq_true] at q; exact q
    · intro q5 n5 f5
      cases f5
      rw [r7]
      by_cases ho : m 242 (10 + i) = -4
      · rw [if_pos ho]
        have huo : uo (uR (dt m) (m 242)) i = true := uR_o.mpr ⟨⟨i1.1, by omega⟩, by omega, ho⟩
        rw [if_pos huo] at hcs'
        rw [w32_id (x := v + 1) (by omega) (by omega), w32_id (by omega) (by omega)]
        refine T_it rfl (T_vv (T_vv (T_go ⟨⟨by simp only; omega, by simp only; omega⟩, ?_, rfl⟩ (by simp only; omega))))
        simp only [es]
        rw [hcs', hv]; omega
      · rw [if_neg ho]
        have huo : ¬ uo (uR (dt m) (m 242)) i = true := fun q => ho (uR_o.mp q).2.2
        rw [if_neg huo] at hcs'
        rw [w32_id (x := v + 0) (by omega) (by omega), w32_id (x := i + 1) (by omega) (by omega)]
        refine T_ie (by decide) (T_vv (T_vv (T_go ⟨⟨by simp only; omega, by simp only; omega⟩, ?_, rfl⟩ (by simp only; omega))))
        simp only [es]
        rw [hcs', hv]; omega
  · rintro c8 ⟨v, i, m8⟩ ⟨hv, hm8⟩
    dsimp only at hv hm8 ⊢
    subst hm8
    rw [hv]
    have hu3 : uc (uR (dt m) (m 242)) ≤ 3 := uc_3 _ _ _
    unfold ebX11_order_94
    generalize hu : uR (dt m) (m 242) = u at *
    refine T_bdl (Q := fun r => RfO u (bC (dt m) (m 242) (csF x y z) 27) r.2.1 r.2.2.1 ∧ RowEq (r.2.2.2.2 242) (m 242) ∧ (∀ b, b ≠ 27 → b ≠ 35 → b ≠ 36 → r.2.2.2.2 241 b = m8 241 b) ∧ ∀ a, a ≠ 241 → a ≠ 242 → a ≠ 243 → a ≠ 267 → (a < 257 ∨ 265 < a) → r.2.2.2.2 a = m8 a)
      (iter3 (fun f b c m' => (0 ≤ c ∧ c ≤ 27) ∧ RfO u (bC (dt m) (m 242) (csF x y z) c.toNat) f b ∧ RowEq (m' 242) (m 242) ∧ (∀ b, b ≠ 27 → b ≠ 35 → b ≠ 36 → m' 241 b = m8 241 b) ∧ ∀ a, a ≠ 241 → a ≠ 242 → a ≠ 243 → a ≠ 267 → (a < 257 ∨ 265 < a) → m' a = m8 a) (fun _ _ c => (27 - c).toNat) ⟨by decide, ⟨rfl, rfl⟩, by rw [r7]; exact RowEq.rf _, fun _ _ _ _ => rfl, fun _ _ _ _ _ _ => rfl⟩ (by decide) ?_) ?_
    · rintro f b c m' ⟨c1', hR, hrow, h241, hfr⟩
      unfold eBX11_order_105 ebX11_order_105
      simp only
      refine T_if (fun cc => T_out (by decide) ⟨?_, hrow, h241, hfr⟩) (fun cc => ?_)
      · rw [show c.toNat = 27 by omega] at hR; exact hR
      obtain ⟨code, hcode⟩ : ∃ n : Nat, c = n := ⟨c.toNat, by omega⟩
      subst hcode
      have es : ((code : Int) + 1).toNat = code + 1 := by omega
      have en : ((code : Int)).toNat = code := by omega
      rw [en] at hR
      refine T_bd2 (tX11_layTurns (by omega)) ?_
      rintro q5 m9 ⟨t1, t2⟩
      dsimp only at t1 t2
      have d9 : dt m9 = dt m := by rw [← d7]; exact dt_c (by rw [t2 241 (by decide), h241 20 (by decide) (by decide) (by decide)]) (fun a a1 a2 => by rw [t2 a (by omega), hfr a (by omega) (by omega) (by omega) (by omega) (by omega)])
      have row9 : RowEq (m9 242) (m 242) := by rw [t2 242 (by decide)]; exact hrow
      have hit := tX11_isTurns (g := g4) (m := m9) (d := dt m) (code := code) (by omega) hd d9 t1
      rw [uR_c row9, hu] at hit
      refine T_bd2 hit ?_
      intro q6 n6 f6
      obtain ⟨er6, em6⟩ := Prod.mk.inj f6
      rw [em6]
      have fr9 : (∀ b, b ≠ 27 → b ≠ 35 → b ≠ 36 → m9 241 b = m8 241 b) ∧ ∀ a, a ≠ 241 → a ≠ 242 → a ≠ 243 → a ≠ 267 → (a < 257 ∨ 265 < a) → m9 a = m8 a := ⟨fun b b1 b2 b3 => by rw [t2 241 (by decide)]; exact h241 b b1 b2 b3, fun a a1 a2 a3 a4 a5 => by rw [t2 a a4]; exact hfr a a1 a2 a3 a4 a5⟩
      have hst := bC_s (d := dt m) (R := m 242) (cs := csF x y z) (c := code)
      rw [hu] at hst
      unfold ebX11_order_149 ebX11_order_165 ebX11_order_167
      rw [w32_id (x := (code : Int) + 1) (by omega) (by omega)]
      cases hb : av u code 3 with
      | false =>
        rw [hb] at er6 hst
        rw [if_neg (by decide)] at hst
        refine T_it er6 (T_vv (T_go ⟨⟨by simp only; omega, by simp only; omega⟩, ?_, row9, fr9.1, fr9.2⟩ (by simp only; omega)))
        simp only [es]
        rw [hst]; exact hR
      | true =>
        rw [hb] at er6 hst
        rw [if_pos rfl] at hst
        have hmem : lsc u code ∈ pm 3 u := by
          obtain ⟨ua, ub, uc'⟩ := u
          rw [← cd_pm ua ub uc']
          exact List.mem_map_of_mem (List.mem_filter.mpr ⟨List.mem_range.mpr (by omega), hb⟩)
        have hlen : (lsc u code).length = uc u := by
          obtain ⟨ua, ub, uc'⟩ := u
          exact lsc_len ua ub uc' ⟨code, by omega⟩
        have hat : ∀ j : Nat, j < uc u → (lsc u code).getD j 0 = ((tc code j : Nat) : Int) := by
          intro j hj
          obtain ⟨ua, ub, uc'⟩ := u
          exact lsc_at ua ub uc' ⟨code, by omega⟩ ⟨j, by omega⟩ hj
        have hcut := tX11_cutsByTurns (g := g4) (m := m9) (d := dt m) (cs := csF x y z) (R := m 242) (ts := lsc u code) u3.1 hd d9 hcs (fun i a b => by rw [t2 266 (by decide), hfr 266 (by decide) (by decide) (by decide) (by decide) (by decide)]; exact c7 i a b) row9 hW (by rw [hu]; exact hmem) (by omega) (fun j hj => by rw [hat j (by omega)]; exact t1 j (by omega))
        rw [hlen] at hcut
        refine T_ie (by rw [er6]; decide) (T_bd2 hcut ?_)
        rintro v9 m10 ⟨w1, w2, w3⟩
        dsimp only at w1 w2 w3
        have fr10 : (∀ b, b ≠ 27 → b ≠ 35 → b ≠ 36 → m10 241 b = m8 241 b) ∧ ∀ a, a ≠ 241 → a ≠ 242 → a ≠ 243 → a ≠ 267 → (a < 257 ∨ 265 < a) → m10 a = m8 a := ⟨fun b b1 b2 b3 => by rw [w3.1 b b1 b2 b3]; exact fr9.1 b b1 b2 b3, fun a a1 a2 a3 a4 a5 => by rw [w3.2 a a1 a2 a3 a5]; exact fr9.2 a a1 a2 a3 a4 a5⟩
        have hvb := vT_b hd hcs 3 (m 242) hW (lsc u code) (by rw [hu]; exact hmem)
        rw [← w1] at hst hvb
        refine T_if (fun z1 => T_it z1 (T_vv (T_go ⟨⟨by simp only; omega, by simp only; omega⟩, ?_, w2, fr10.1, fr10.2⟩ (by simp only; omega)))) (fun z1 => T_ie z1 (T_vv (T_go ⟨⟨by simp only; omega, by simp only; omega⟩, ?_, w2, fr10.1, fr10.2⟩ (by simp only; omega))))
        · simp only [es]
          rw [hst]
          unfold RfO fs1 at *
          cases hac : bC (dt m) (m 242) (csF x y z) code with
          | none =>
            rw [hac] at hR
            dsimp only at hR ⊢
            rw [if_neg (by omega)]; exact hR
          | some q =>
            rw [hac] at hR
            dsimp only at hR ⊢
            have hq1 := hR.1.1
            rw [if_neg (by omega)]; exact hR
        · simp only [es]
          rw [hst]
          unfold RfO fs1 at *
          cases hac : bC (dt m) (m 242) (csF x y z) code with
          | none =>
            rw [hac] at hR
            dsimp only at hR ⊢
            have hf0 := hR.1
            rw [if_pos (by omega)]
            exact ⟨⟨rfl, by dsimp only; omega⟩, code, by omega, rfl, rfl⟩
          | some q =>
            rw [hac] at hR
            dsimp only at hR ⊢
            have hq1 := hR.1
            rw [if_pos (by omega)]
            exact ⟨⟨rfl, by dsimp only; omega⟩, code, by omega, rfl, rfl⟩
    · rintro c9 ⟨f, b, c, m9⟩ ⟨hR, hrow, h241, hfr⟩
      dsimp only at hR hrow h241 hfr ⊢
      rw [bC_27] at hR
      have fin : ∀ m10 : Mem, (∀ a, a ≠ 267 → m10 a = m9 a) → Inv g4 m10 := by
        intro m10 hm10
        have hD : Done m4 m10 := Done.ord u2.1 (fun a a1 a2 a3 a4 => by rw [hm10 a (by omega), hfr a a1 a2 a3 (by omega) (by omega), f7 a (by omega)]) (by rw [hm10 241 (by decide), h241 3 (by decide) (by decide) (by decide), f7 241 (by decide)]) (by rw [hm10 241 (by decide), h241 5 (by decide) (by decide) (by decide), f7 241 (by decide)]) (by rw [hm10 241 (by decide), h241 20 (by decide) (by decide) (by decide), f7 241 (by decide)]) (by rw [hm10 242 (by decide), e242]; exact hrow)
        exact hD.inv u2
      unfold ebX11_order_173 ebX11_order_187 ebX11_order_214 ansO
      unfold RfO at hR
      cases hac : bO (dt m) (m 242) (csF x y z) with
      | none =>
        rw [hac] at hR
        dsimp only at hR ⊢
        exact T_it hR.2 (T_some ⟨rfl, fin m9 (fun _ _ => rfl)⟩)
      | some q =>
        rw [hac] at hR
        dsimp only at hR ⊢
        obtain ⟨⟨hf, _⟩, code, hc27, hb, hq⟩ := hR
        have hlen : q.2.length = uc u := by
          rw [hq]
          obtain ⟨ua, ub, uc'⟩ := u
          exact lsc_len ua ub uc' ⟨code, hc27⟩
        rw [hlen]
        refine T_ie (by omega) (T_if (fun z1 => ?_) (fun z1 => T_some ⟨by dsimp only; rw [if_neg (by omega), if_pos (by omega)], fin m9 (fun _ _ => rfl)⟩))
        rw [hb]
        refine T_bd2 (tX11_layTurns hc27) ?_
        rintro q5 m10 ⟨t1, t2⟩
        dsimp only at t1 t2
        refine T_if (fun z2 => T_some ⟨by dsimp only; rw [if_pos z2, hf], fin m10 t2⟩) (fun z2 => T_ck ⟨by omega, by omega⟩ (T_some ⟨?_, fin m10 t2⟩))
        dsimp only
        rw [if_neg z2, if_neg (by omega), hq]
        have h1 := t1 k.toNat (by omega)
        rw [show ((k.toNat : Nat) : Int) = k by omega] at h1
        rw [h1]
        obtain ⟨ua, ub, uc'⟩ := u
        exact lsc_at ua ub uc' ⟨code, hc27⟩ ⟨k.toNat, by omega⟩ (by dsimp only; omega)
