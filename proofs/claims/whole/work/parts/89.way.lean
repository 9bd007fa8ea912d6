theorem Core.f {m m' : Mem} (h : Core m) (hf : ∀ a, a ≤ 267 → (a < 5 ∨ 84 < a) → (a < 143 ∨ 175 < a) → (a < 205 ∨ 240 < a) → m' a = m a) : Core m' ∧ dt m' = dt m := by
  obtain ⟨ht, hw, hs, hp, ⟨hr, hr2⟩, hq⟩ := h
  have hP : (m 1 6 = 177 ∧ m 1 7 = 191) ∨ (m 1 6 = 191 ∧ m 1 7 = 177) := hs
  have g : ∀ a, 241 ≤ a → a ≤ 267 → m' a = m a := fun a a1 a2 => hf a a2 (by omega) (by omega) (by omega)
  have hd : dt m' = dt m := dt_c (by rw [g 241 (by decide) (by decide)]) (fun a b c => g a (by omega) (by omega))
  have h1 : m' 1 = m 1 := hf 1 (by decide) (by decide) (by decide) (by decide)
  refine ⟨⟨ht.c (by rw [g 241 (by decide) (by decide)]) (by rw [hf 2 (by decide) (by decide) (by decide) (by decide)]) (hf 3 (by decide) (by decide) (by decide) (by decide)) (g 245 (by decide) (by decide)), by rw [hd]; exact hw, by unfold ISw; rw [h1]; exact hs, ?_, ⟨?_, ?_⟩, hq.c hd (fun a b c => hf a (by omega) (by omega) (by omega) (by omega)) (by rw [g 241 (by decide) (by decide)]) (g 244 (by decide) (by decide))⟩, hd⟩
  · rw [h1, hd]
    exact hp.c hw.1.2 (fun a b c => hf a (by omega) (by omega) (by omega) (by omega))
  · rw [g 242 (by decide) (by decide), rowC_c (fun x a b => hf x (by omega) (by omega) (by omega) (by omega))]
    exact hr
  · rw [hd, g 242 (by decide) (by decide)]
    exact hr2
theorem wyA_r {i c : Int} (hi : 0 ≤ i ∧ i < 3) (hc : 0 ≤ c ∧ c ≤ 2) : 205 ≤ wyA i c ∧ wyA i c ≤ 237 := by unfold wyA; omega
theorem Done.inv {g : Shp} {m m' : Mem} (h : Inv g m) (hD : Done m m') : Inv g m' := by
  obtain ⟨h1, h2, h3, h4, h5, h6⟩ := h
  obtain ⟨d1, d2, k1, k2⟩ := hD
  have hd := h1.2.1
  refine ⟨d1, ?_, h3.c (by rw [k1 5 (Or.inl rfl)]) (fun a ha => k1 a (by omega)), ?_, ?_, fun k a b => by rw [k1 147 (by omega)]; exact h6 k a b⟩
  · unfold RmOk
    rw [k1 5 (Or.inl rfl)]
    exact h2
  · intro i c i0 i1 c0 c1
    have hwr := wyA_r ⟨i0, i1⟩ ⟨c0, c1⟩
    rcases k2 with ⟨q1, q2⟩ | ⟨q1, q2⟩
    · rw [q1 _ (by omega), d2]
      rcases h4 i c i0 i1 c0 c1 with u | ⟨u1, u2⟩
      · exact Or.inl u
      · exact Or.inr ⟨u1, WayR_c (hd.2.2 i i0 u1) (fun k a b => (q2 k a b).symm) ⟨c0, c1⟩ (fun a a1 a2 => q1 a (by omega)) u2⟩
    · left
      have := q1 (3 * i + c) (by omega) (by omega)
      unfold wyA
      exact this
  · rcases k2 with ⟨q1, q2⟩ | ⟨q1, q2⟩
    · unfold OrdC
      rw [q1 143 (by omega), q1 144 (by omega), d2]
      rcases h5 with u | ⟨u1, u2⟩
      · exact Or.inl u
      · exact Or.inr ⟨u1, OrdR_c hd u1 (fun k a b => (q2 k a b).symm) (q1 143 (by omega)) (q1 146 (by omega)) u2⟩
    · exact Or.inl q2
theorem LayEnd.inv {g : Shp} {m m' : Mem} (h : Inv g m) (hD : LayEnd m m') : Inv g m' := by
  rcases hD with hD | ⟨d1, k1, k2, k3⟩
  · exact hD.inv h
  · obtain ⟨h1, h2, h3, h4, h5, h6⟩ := h
    refine ⟨d1, ?_, h3.c (by rw [k1 5 (Or.inl rfl)]) (fun a ha => k1 a (by omega)), fun i c i0 i1 c0 c1 => Or.inl ?_, Or.inl k3, fun k a b => by rw [k1 147 (by omega)]; exact h6 k a b⟩
    · unfold RmOk
      rw [k1 5 (Or.inl rfl)]
      exact h2
    · have := k2 (3 * i + c) (by omega) (by omega)
      unfold wyA
      exact this
/-- calls that may make cells -/
def TwoA (a : Option (Int × Shp × Mem)) (b : Shp → Mem → Option (Int × Mem)) (P : Shp → Mem → Prop) : Prop := T a (fun q => T (b q.2.1 q.2.2) (fun p => q.1 = p.1 ∧ P q.2.1 p.2))
theorem Two.inv {g : Shp} {m : Mem} {a : Option (Int × Mem)} {b : Mem → Option (Int × Mem)} (h : Inv g m) (h2 : Two a b (Done m)) : Two a b (Inv g) := T_mono h2 (fun _ hq => T_mono hq (fun _ hp => ⟨hp.1, hp.2.inv h⟩))
theorem sh_w {g : Shp} {m : Mem} (hS : Sh g m) {k : Int} (hk : 0 ≤ k ∧ k < 9) : gk g (205 + 4 * k) = 10 := by
  have := (((hS.2.2.2 176).2.2.2.2.2.1 (hS.1 (176, 24, 9) (by decide)).1).2 k hk.1 hk.2).2
  rw [show (176 : Int) + (29 + 4 * k) = 205 + 4 * k by omega] at this
  exact this
theorem tX10_wayOf {g : Shp} {m : Mem} {i c : Int} (hS : Sh g m) (hG : gOk g) (h : Inv g m) (hi : 0 ≤ i ∧ i < dl (dt m)) (hc : 0 ≤ c ∧ c ≤ 2) :
    T (eX10_wayOf i c g m) (fun r => r.1 = wyA i c ∧ gk r.2.1 (wyA i c) = 10 ∧ WayR r.2.2 (wyA i c) (dt m) (m 242) i c ∧ (Inv r.2.1 r.2.2 ∧ (Sh r.2.1 r.2.2 ∧ gOk r.2.1) ∧ gX g r.2.1) ∧ ∀ a, a ≤ 267 → (a < 5 ∨ 84 < a) → (a < 205 ∨ 240 < a) → r.2.2 a = m a) := by
  obtain ⟨h1, h2, h3, h4, h5, h6⟩ := id h
  have hd := h1.2.1
  have hl := hd.1.2
  have hs : (m 1 6 = 177 ∧ m 1 7 = 191) ∨ (m 1 6 = 191 ∧ m 1 7 = 177) := h1.2.2.1
  have hwr := wyA_r (i := i) (c := c) ⟨hi.1, by omega⟩ hc
  have hgw : gk g (wyA i c) = 10 := by unfold wyA; exact sh_w hS (by omega)
  have main : T (eX10_wayOf i c g m) (fun r => r.1 = wyA i c ∧ WayR r.2.2 (wyA i c) (dt m) (m 242) i c ∧ Inv r.2.1 r.2.2 ∧ ∀ a, a ≤ 267 → (a < 5 ∨ 84 < a) → (a < 205 ∨ 240 < a) → r.2.2 a = m a) := by
    unfold eX10_wayOf ebX10_wayOf_0
    have ew : (176 : Int) + (29 + 4 * w32 (w32 (i * 3) + c)) = wyA i c := by
      rw [w32_id (x := i * 3) (by omega) (by omega), w32_id (by omega) (by omega)]
      unfold wyA
      omega
    rw [ew, w32_id (x := i * 3) (by omega) (by omega), w32_id (x := i * 3 + c) (by omega) (by omega)]
    unfold ebX10_wayOf_52
    refine T_ck ⟨by omega, by omega⟩ (T_if (fun cc => T_ck ⟨hi.1, by omega⟩ ?_) (fun cc => T_some ⟨rfl, ?_, h, fun _ _ _ _ => rfl⟩))
    · rw [show m 1 6 + 3 + (2 + 3 * i) = m 1 6 + 5 + 3 * i by omega]
      refine T_bd3 (tX0_find hS hG h2 h3 hd hi h1.2.2.2.1 h1.2.2.2.2.1.1 h1.2.2.2.2.1.2 (by omega) (by decide) (hS.1 (86, 20, 400) (by decide)).2 hc (Or.inr hwr) (by omega) hgw) ?_
      rintro r1 g1 m1 ⟨u1, u2, u3, u4, u5⟩
      dsimp only at u1 u2 u3 u4 u5
      unfold ebX10_wayOf_47 ebX10_wayOf_52
      refine T_vm' (fun m2 e2 => T_some ⟨rfl, ?_, ?_, fun a a1 a2 a3 => ?_⟩)
      · dsimp only
        unfold WayR WayN at *
        rw [e2, ms_y (by decide), ms_y (by decide), ms_y (by decide), ms_y (by decide), ms_y (by decide), ms_f (by omega), ms_f (by omega), ms_f (by omega)]
        exact u1
      · have f2 : ∀ a, a ≤ 267 → (a < 5 ∨ 84 < a) → (a < wyA i c ∨ wyA i c + 3 < a) → m2 a = m a := fun a a1 a2 a3 => by rw [e2, ms_f (by omega)]; exact u4 a a1 a2 a3
        obtain ⟨hC, hdt⟩ := Core.f h1 (fun a a1 a2 a3 a4 => f2 a a1 a2 (by omega))
        have e242 : m2 242 = m 242 := f2 242 (by decide) (by decide) (by omega)
        dsimp only
        refine ⟨hC, ?_, ?_, fun i' c' i0 i1 c0 c1 => ?_, ?_, fun k a b => by rw [f2 147 (by decide) (by decide) (by omega)]; exact h6 k a b⟩
        · unfold RmOk
          rw [e2, ms_f (by omega)]
          exact u3
        · exact u2.c (by rw [e2, ms_f (by omega)]) (fun a ha => by rw [e2, ms_f (by omega)])
        · rw [hdt, e242]
          have hwr' := wyA_r (i := i') (c := c') ⟨i0, i1⟩ ⟨c0, c1⟩
          by_cases ee : wyA i' c' = wyA i c
          · have e3 : i' = i ∧ c' = c := by unfold wyA at ee; omega
            rw [e3.1, e3.2]
            right
            refine ⟨hi.2, ?_⟩
            unfold WayR WayN at *
            rw [e2, ms_y (by decide), ms_y (by decide), ms_y (by decide), ms_y (by decide), ms_y (by decide), ms_f (by omega), ms_f (by omega), ms_f (by omega)]
            exact u1
          · have hap : wyA i' c' + 3 < wyA i c ∨ wyA i c + 3 < wyA i' c' := by unfold wyA at *; omega
            rw [f2 _ (by omega) (by omega) (by omega)]
            rcases h4 i' c' i0 i1 c0 c1 with q | ⟨q1, q2⟩
            · exact Or.inl q
            · exact Or.inr ⟨q1, WayR_c (hd.2.2 i' i0 q1) (RowEq.rf _) ⟨c0, c1⟩ (fun a a1 a2 => f2 a (by omega) (by omega) (by omega)) q2⟩
        · unfold OrdC
          rw [f2 143 (by decide) (by decide) (by omega), f2 144 (by decide) (by decide) (by omega), hdt, e242]
          rcases h5 with q | ⟨q1, q2⟩
          · exact Or.inl q
          · exact Or.inr ⟨q1, OrdR_c hd q1 (RowEq.rf _) (f2 143 (by decide) (by decide) (by omega)) (f2 146 (by decide) (by decide) (by omega)) q2⟩
      · dsimp only
        rw [e2, ms_f (by omega)]
        exact u4 a a1 a2 (by omega)
    · exact ((h4 i c hi.1 (by omega) hc.1 hc.2).resolve_left cc).2
  obtain ⟨⟨r, g', m'⟩, e, u1, u2, u3, u4⟩ := main
  have hn := nX10_wayOf hS hG e
  exact ⟨_, e, u1, hn.2.k hgw (by decide), u2, ⟨u3, hn.1, hn.2⟩, u4⟩
/-- the reference has looked for a way: nothing else has changed -/
theorem RwF.done {m m' : Mem} (h : Core m) (hF : RwF m m') : Done m m' := by
  refine Done.tx2 h (fun a a1 a2 a3 a4 => hF.2 a a1 (by omega)) (hF.1 3 (by decide) (by decide) (by decide)) (hF.1 5 (by decide) (by decide) (by decide)) (hF.1 20 (by decide) (by decide) (by decide)) (fun a ha => hF.2 a (by omega) (by omega))
