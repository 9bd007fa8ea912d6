theorem op_undo {g : Shp} {m : Mem} (hg1 : gl g 242 = 433) (hg2 : gl g 244 = 2598) (h : Core m) : Two (eX10_undo g m) (eX11_undo g) (Done m) := by
  obtain ⟨ht, hp, hs, hpl, ⟨hr0, hw0⟩, ⟨q1, q2, q3⟩⟩ := id h
  have q0 := q1.1
  have hl := hp.1.2
  unfold Two eX10_undo ebX10_undo_0
  refine T_if (fun h0 => T2 ?_) (fun h0 => ?_)
  · unfold eX11_undo ebX11_undo_0
    exact T_it (by omega) (T_r rfl (Done.rf h))
  · refine T_bd2 (tX4_giveBack q1 (by omega)) ?_
    rintro r m1 ⟨b1, b2, b3, b4, b5⟩
    simp only at b1 b2 b3 b4 b5
    refine T_bd2 tX10_forgetAnswers ?_
    rintro r2 m2 ⟨f1, f2, f3, f4⟩
    simp only at f1 f2 f3 f4
    have e93 : m2 93 = m1 93 := f4 93 (by decide) (by decide)
    have e94 : m2 94 = m 94 := by rw [f4 94 (by decide) (by decide), b3]
    have e2 : ∀ a, a ≠ 143 → (a < 205 ∨ 237 < a) → (a < 85 ∨ 93 < a) → m2 a = m a := fun a x y z => by rw [f4 a x y, b5 a z]
    have e41 : m2 241 = m 241 := e2 241 (by decide) (by decide) (by decide)
    have e44 : m2 244 = m 244 := e2 244 (by decide) (by decide) (by decide)
    refine T2 (T_mono (tX11_undo hg1 hg2 (by rw [e41]; omega)) ?_)
    rintro ⟨r3, m3⟩ ⟨u1, u2, u3, u4, u5⟩
    simp only at u1 u2 u3 u4 u5 ⊢
    rw [e41] at u1 u2 u3
    rw [e44] at u3
    have eA : ∀ a, a ≠ 143 → (a < 205 ∨ 237 < a) → (a < 85 ∨ 93 < a) → a ≠ 241 → a ≠ 242 → m3 a = m a := fun a x y z u v => by rw [u5 a u v, e2 a x y z]
    have hd : dt m3 = dt m := dt_c (by rw [u4 20 (by decide), e41]) (fun a x y => eA a (by omega) (by omega) (by omega) (by omega) (by omega))
    have hP : 177 ≤ m 1 6 ∧ m 1 6 ≤ 191 := by rcases hs with hs | hs <;> omega
    have e1 : m3 1 = m 1 := eA 1 (by decide) (by decide) (by decide) (by decide) (by decide)
    have hlast := q3 (m 93 1 - 1) (by omega) (by omega)
    have hrow : RowEq (m3 242) (pastR m (m 93 1 - 1)) := fun k a b => by rw [u3 k a b, q2]; rfl
    refine ⟨by rw [e93, b2, u1, q2], ⟨ht.c ?_ ?_ ?_ ?_, by rw [hd]; exact hp, by unfold ISw; rw [e1]; exact hs, ?_, ⟨?_, ?_⟩, ⟨q1.1.1 |> fun _ => ?_, ?_, fun i x y => ?_⟩⟩, hd, fun a ha => eA a (by omega) (by omega) (by omega) (by omega) (by omega), Or.inr ⟨fun w x y => ?_, ?_⟩⟩
    · rw [u4 5 (by decide), e41]
    · rw [eA 2 (by decide) (by decide) (by decide) (by decide) (by decide)]
    · exact eA 3 (by decide) (by decide) (by decide) (by decide) (by decide)
    · exact eA 245 (by decide) (by decide) (by decide) (by decide) (by decide)
    · rw [e1, hd]
      exact hpl.c hl (fun a x y => eA a (by omega) (by omega) (by omega) (by omega) (by omega))
    · rw [rowC_c (m := m1) (fun a x y => by rw [u5 a (by omega) (by omega), f4 a (by omega) (by omega)])]
      exact (b4.tr hlast.1).tr hrow.sy
    · rw [hd]
      exact hlast.2.c hl hrow
    · exact b1.c (by rw [u5 93 (by decide) (by decide), e93]) (by rw [u5 94 (by decide) (by decide), e94, b3])
    · rw [u2, u5 93 (by decide) (by decide), e93, b2, q2]
    · rw [u5 93 (by decide) (by decide), e93, b2] at y
      rw [u5 94 (by decide) (by decide), e94, hd]
      have hg := q1.rg x (by omega)
      have hpr : pastR m3 i = pastR m i := by unfold pastR; rw [u5 244 (by decide) (by decide), e44]
      rw [hpr, rowC_c (m := m) (fun a u v => eA a (by omega) (by omega) (by omega) (by omega) (by omega))]
      exact q3 i x (by omega)
    · rw [u5 _ (by omega) (by omega)]; exact f1 w x y
    · rw [u5 _ (by omega) (by omega)]; exact f2
theorem op_bag {g : Shp} {m : Mem} {x y : Int} (h : Core m) : Two (eX10_bag g x y m) (eX11_bag g x y) (Done m) := by
  obtain ⟨ht, hp, hs, hpl, ⟨hr0, hw0⟩, ⟨q1, q2, q3⟩⟩ := id h
  have bad : ¬ ((0 ≤ x ∧ x ≤ 2) ∧ 0 ≤ y ∧ y ≤ 2) → T (ebX10_bag_16 g m) (fun q => T (eX11_bag g x y q.2) (fun p => q.1 = p.1 ∧ Done m p.2)) := by
    intro hx
    refine T2 ?_
    unfold eX11_bag ebX11_bag_0
    refine T_bd2 tX11_isColour ?_
    intro r m' q
    cases q
    refine T_if (fun hc => T_r rfl (Done.rf h)) (fun hc => T_bd2 tX11_in ?_)
    intro r m' q
    cases q
    refine T_if (fun hd => T_r rfl (Done.rf h)) (fun hd => ?_)
    exfalso
    apply hx
    refine ⟨?_, ?_⟩
    · by_cases c : 0 ≤ x ∧ x ≤ 2
      · exact c
      · rw [if_neg c] at hc; exact absurd rfl hc
    · by_cases c : 0 ≤ y ∧ y ≤ 2
      · exact c
      · rw [if_neg c] at hd; exact absurd rfl hd
  unfold Two eX10_bag ebX10_bag_0
  refine T_bd2 tX10_isColour ?_
  intro r m' q
  cases q
  refine T_if (fun hc => bad (fun q => by rw [if_pos q.1] at hc; exact absurd hc (by decide))) (fun hc => ?_)
  have hx : 0 ≤ x ∧ x ≤ 2 := by
    by_cases c : 0 ≤ x ∧ x ≤ 2
    · exact c
    · rw [if_neg c] at hc; exact absurd rfl hc
  refine T_if (fun hy => bad (by omega)) (fun hy => T_if (fun hy2 => ?_) (fun hy2 => bad (by omega)))
  simp (disch := omega) only [w32_id]
  refine T_ck ⟨by omega, by omega⟩ (T2 ?_)
  unfold eX11_bag ebX11_bag_0
  refine T_bd2 tX11_isColour ?_
  intro r m' q
  cases q
  rw [if_pos hx]
  refine T_ie (by decide) (T_bd2 tX11_in ?_)
  intro r m' q
  cases q
  rw [if_pos (show 0 ≤ y ∧ y ≤ 2 by omega)]
  simp (disch := omega) only [w32_id]
  refine T_ie (by decide) (T_ck ⟨by omega, by omega⟩ (T_r ?_ (Done.rf h)))
  rw [show 1 + 3 * x + y = 1 + (x * 3 + y) by omega, ← hr0 _ (by omega) (by omega), rowC_b (by omega)]
  rfl
theorem op_whose {g : Shp} {m : Mem} {x y : Int} (h : Core m) : Two (eX10_whose g x y m) (eX11_whose g x y) (Done m) := by
  obtain ⟨ht, hp, hs, hpl, ⟨hr0, hw0⟩, ⟨q1, q2, q3⟩⟩ := id h
  have hon : T (eX10_isOnGround g x y m) (fun q => q = ((if (0 ≤ x ∧ x ≤ 19) ∧ 0 ≤ y ∧ y ≤ 19 then 1 else 0), m)) := by
    unfold eX10_isOnGround ebX10_isOnGround_0
    refine T_if (fun h => ?_) (fun h1 => T_if (fun h => ?_) (fun h2 => T_if (fun h => ?_) (fun h3 => T_if (fun h => ?_) (fun h4 => ?_))))
    · rw [if_neg (by omega)]; exact ⟨(0, m), rfl, rfl⟩
    · rw [if_neg (by omega)]; exact ⟨(0, m), rfl, rfl⟩
    · rw [if_neg (by omega)]; exact ⟨(0, m), rfl, rfl⟩
    · rw [if_neg (by omega)]; exact ⟨(0, m), rfl, rfl⟩
    · rw [if_pos (by omega)]; exact ⟨(1, m), rfl, rfl⟩
  unfold Two eX10_whose ebX10_whose_0
  refine T_bd2 hon ?_
  intro r m' q
  cases q
  by_cases hx : (0 ≤ x ∧ x ≤ 19) ∧ 0 ≤ y ∧ y ≤ 19
  · rw [if_pos hx]
    simp (disch := omega) only [w32_id]
    refine T_ie (by decide) (T_ck ⟨by omega, by omega⟩ (T2 ?_))
    unfold eX11_whose ebX11_whose_0
    refine T_bd2 tX11_in ?_
    intro r m' q
    cases q
    rw [if_pos hx.1]
    refine T_ie (by decide) (T_bd2 tX11_in ?_)
    intro r m' q
    cases q
    rw [if_pos hx.2]
    simp (disch := omega) only [w32_id]
    refine T_ie (by decide) (T_ck ⟨by omega, by omega⟩ (T_r ?_ (Done.rf h)))
    rw [show 33 + 20 * y + x = 33 + (20 * y + x) by omega, ← hr0 _ (by omega) (by omega), rowC_o (by omega)]
    rfl
  · rw [if_neg hx]
    refine T_it rfl (T2 ?_)
    unfold eX11_whose ebX11_whose_0
    refine T_bd2 tX11_in ?_
    intro r m' q
    cases q
    refine T_if (fun hc => T_r rfl (Done.rf h)) (fun hc => T_bd2 tX11_in ?_)
    intro r m' q
    cases q
    refine T_if (fun hd => T_r rfl (Done.rf h)) (fun hd => ?_)
    exfalso
    apply hx
    refine ⟨?_, ?_⟩
    · by_cases c : 0 ≤ x ∧ x ≤ 19
      · exact c
      · rw [if_neg c] at hc; exact absurd rfl hc
    · by_cases c : 0 ≤ y ∧ y ≤ 19
      · exact c
      · rw [if_neg c] at hd; exact absurd rfl hd
theorem op_cell {g : Shp} {m : Mem} {x y : Int} (h : Core m) : Two (eX10_cell g x y m) (eX11_cell g x y) (Done m) := by
  obtain ⟨ht, hp, hs, hpl, ⟨hr0, hw0⟩, ⟨q1, q2, q3⟩⟩ := id h
  unfold Two eX10_cell ebX10_cell_0
  refine T_bd2 (tX10_isLine hpl.2.1) ?_
  intro r m' q
  cases q
  by_cases hx : 0 ≤ x ∧ x < dl (dt m)
  · rw [if_pos hx]
    refine T_ie (by decide) ?_
    have hl := hp.1.2
    have hi := hpl.2.2.1 x hx.1 hx.2
    have hn := (hp.2.2 x hx.1 hx.2).mx
    have e : m 1 6 + 3 + (2 + 3 * x) = m 1 6 + 5 + 3 * x := by omega
    refine T_if (fun hy => T_ck ⟨by omega, by omega⟩ (T_if (fun hc => T2 ?_) (fun hc => T_ck ⟨by omega, by omega⟩ (T_ck ⟨by omega, ?_⟩ (T2 ?_))))) (fun hy => T2 ?_)
    · unfold eX11_cell ebX11_cell_0
      refine T_bd2 (tX11_isLine hp.1) ?_
      intro r m' q
      cases q
      rw [if_pos hx]
      rw [e, hi.1] at hc
      exact T_ie (by decide) (T_it hy (T_ck ⟨by omega, by omega⟩ (T_it hc (T_r rfl (Done.rf h)))))
    · rw [e, hi.1] at hc
      omega
    · unfold eX11_cell ebX11_cell_0
      refine T_bd2 (tX11_isLine hp.1) ?_
      intro r m' q
      cases q
      rw [if_pos hx]
      rw [e, hi.1] at hc
      simp (disch := omega) only [w32_id]
      refine T_ie (by decide) (T_it hy (T_ck ⟨by omega, by omega⟩ (T_ie hc (T_ck ⟨by omega, by omega⟩ (T_r ?_ (Done.rf h))))))
      rw [e, hi.2.2.1 y hy (by omega)]
      rfl
    · unfold eX11_cell ebX11_cell_0
      refine T_bd2 (tX11_isLine hp.1) ?_
      intro r m' q
      cases q
      rw [if_pos hx]
      exact T_ie (by decide) (T_ie hy (T_r rfl (Done.rf h)))
  · rw [if_neg hx]
    refine T_it rfl (T2 ?_)
    unfold eX11_cell ebX11_cell_0
    refine T_bd2 (tX11_isLine hp.1) ?_
    intro r m' q
    cases q
    rw [if_neg hx]
    exact T_it rfl (T_r rfl (Done.rf h))
