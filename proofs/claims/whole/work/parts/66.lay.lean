/-! ===== the program's floor begins ===== -/
theorem tX1_strip {g : Shp} {m : Mem} {i : Int} (hi : 0 ≤ i ∧ i < 3) (hg : gl g 91 = 9) : T (eX1_strip g 85 i m) (fun q => q.2 88 i = -4 ∧ q.2 89 i = 0 ∧ q.2 90 i = 0 ∧ q.2 92 i = 0 ∧ (∀ s, 3 * i ≤ s → s < 3 * i + 3 → q.2 91 s = 0) ∧ (∀ j, j ≠ i → q.2 88 j = m 88 j ∧ q.2 89 j = m 89 j ∧ q.2 90 j = m 90 j ∧ q.2 92 j = m 92 j) ∧ (∀ s, (s < 3 * i ∨ 3 * i + 3 ≤ s) → q.2 91 s = m 91 s) ∧ ∀ x, x ≠ 88 → x ≠ 89 → x ≠ 90 → x ≠ 91 → x ≠ 92 → q.2 x = m x) := by
  unfold eX1_strip ebX1_strip_0
  refine T_ck hi (T_vm' (fun m1 e1 => T_ck hi (T_vm' (fun m2 e2 => T_ck hi (T_vm' (fun m3 e3 => T_ck hi (T_vm' (fun m4 e4 => ?_))))))))
  rw [w32_id (x := i * 3) (by omega) (by omega), w32_id (by omega) (by omega)]
  refine T_bd2 (tJ7_fill (r := 91) (by omega) (by omega) (by rw [hg]; omega) (by rw [hg]; decide)) ?_
  rintro r m5 ⟨a5, b5, c5⟩
  dsimp only at a5 b5 c5
  refine T_some ⟨?_, ?_, ?_, ?_, fun s s0 s1 => a5 s (by omega) (by omega), fun j hj => ⟨?_, ?_, ?_, ?_⟩, fun s hs => ?_, fun x x1 x2 x3 x4 x5 => ?_⟩
  · dsimp only; rw [c5 88 (by decide), e4, ms_x (by decide), e3, ms_x (by decide), e2, ms_x (by decide), e1]; exact ms_at _ _ _ _
  · dsimp only; rw [c5 89 (by decide), e4, ms_x (by decide), e3, ms_x (by decide), e2]; exact ms_at _ _ _ _
  · dsimp only; rw [c5 90 (by decide), e4, ms_x (by decide), e3]; exact ms_at _ _ _ _
  · dsimp only; rw [c5 92 (by decide), e4]; exact ms_at _ _ _ _
  · dsimp only; rw [c5 88 (by decide), e4, ms_x (by decide), e3, ms_x (by decide), e2, ms_x (by decide), e1, ms_y hj]
  · dsimp only; rw [c5 89 (by decide), e4, ms_x (by decide), e3, ms_x (by decide), e2, ms_y hj, e1, ms_x (by decide)]
  · dsimp only; rw [c5 90 (by decide), e4, ms_x (by decide), e3, ms_y hj, e2, ms_x (by decide), e1, ms_x (by decide)]
  · dsimp only; rw [c5 92 (by decide), e4, ms_y hj, e3, ms_x (by decide), e2, ms_x (by decide), e1, ms_x (by decide)]
  · dsimp only; rw [b5 s (by omega), e4, ms_x (by decide), e3, ms_x (by decide), e2, ms_x (by decide), e1, ms_x (by decide)]
  · dsimp only; rw [c5 x x4, e4, ms_f (by omega), e3, ms_f (by omega), e2, ms_f (by omega), e1, ms_f (by omega)]
theorem tX1_begin {g : Shp} {m : Mem} {P : Int} (hP : 93 ≤ P) (hg1 : gl g 86 = 400) (hg : gl g 91 = 9) : T (eX1_begin g 85 P m) (fun q => RowEq (rowC q.2 85) (layR (m P 4) (m (P + 2))) ∧ ∀ x, (x < 85 ∨ 92 < x) → q.2 x = m x) := by
  unfold eX1_begin ebX1_begin_0
  refine T_bd2 (tJ7_fillA (r := 86) (by rw [hg1]; decide) (by rw [hg1]; decide)) ?_
  rintro r1 m1 ⟨a1, b1⟩
  dsimp only at a1 b1
  rw [hg1] at a1
  refine T_ck (by decide) (T_vm' (fun m2 e2 => ?_))
  refine T_bdl (Q := fun q => (∀ j, 0 ≤ j → j < 3 → q.2.2 88 j = -4 ∧ q.2.2 89 j = 0 ∧ q.2.2 90 j = 0 ∧ q.2.2 92 j = 0) ∧ (∀ s, 0 ≤ s → s < 9 → q.2.2 91 s = 0) ∧ ∀ x, x ≠ 88 → x ≠ 89 → x ≠ 90 → x ≠ 91 → x ≠ 92 → q.2.2 x = m2 x)
    (iter1 (fun k m' => (0 ≤ k ∧ k ≤ 3) ∧ (∀ j, 0 ≤ j → j < k → m' 88 j = -4 ∧ m' 89 j = 0 ∧ m' 90 j = 0 ∧ m' 92 j = 0) ∧ (∀ s, 0 ≤ s → s < 3 * k → m' 91 s = 0) ∧ ∀ x, x ≠ 88 → x ≠ 89 → x ≠ 90 → x ≠ 91 → x ≠ 92 → m' x = m2 x) (fun k => (3 - k).toNat) ⟨by decide, fun j a b => by omega, fun j a b => by omega, fun _ _ _ _ _ _ => rfl⟩ (by decide) ?_) ?_
  · rintro k m' ⟨k1, k2, k3, k4⟩
    unfold eBX1_begin_29 ebX1_begin_29
    simp only
    refine T_if (fun hc => T_out (by decide) ⟨fun j a b => k2 j a (by omega), fun s a b => k3 s a (by omega), k4⟩) (fun hc => T_bd2 (tX1_strip ⟨by omega, by omega⟩ hg) ?_)
    rintro r3 m3 ⟨u1, u2, u3, u4, u5, u6, u7, u8⟩
    dsimp only at u1 u2 u3 u4 u5 u6 u7 u8
    rw [w32_id (by omega) (by omega)]
    refine T_vv (T_go ⟨⟨by simp only; omega, by simp only; omega⟩, fun j a b => ?_, fun s a b => ?_, fun x x1 x2 x3 x4 x5 => ?_⟩ (by simp only; omega))
    · simp only at b ⊢
      by_cases q : j = k
      · rw [q]; exact ⟨u1, u2, u3, u4⟩
      · obtain ⟨v1, v2, v3, v4⟩ := u6 j q
        rw [v1, v2, v3, v4]; exact k2 j a (by omega)
    · simp only at b ⊢
      by_cases q : 3 * k ≤ s
      · exact u5 s q (by omega)
      · rw [u7 s (by omega)]; exact k3 s a (by omega)
    · simp only
      rw [u8 x x1 x2 x3 x4 x5]; exact k4 x x1 x2 x3 x4 x5
  · rintro c ⟨k, m3⟩ ⟨q1, q2, q3⟩
    dsimp only at q1 q2 q3
    unfold ebX1_begin_45
    dsimp only
    have e4 : m3 P 4 = m P 4 := by rw [q3 P (by omega) (by omega) (by omega) (by omega) (by omega), e2, mcp_f (by omega), b1 P (by omega)]
    rw [e4]
    refine T_vm' (fun m4 e4' => T_vm' (fun m5 e5 => T_vm' (fun m6 e6 => T_some ⟨fun k k0 k1 => ?_, fun x hx => ?_⟩)))
    · dsimp only
      have f : ∀ x, x ≠ 85 → m6 x = m3 x := fun x hx => by rw [e6, ms_f hx, e5, ms_f hx, e4', ms_f hx]
      unfold layR
      by_cases h0 : k = 0
      · rw [if_pos h0, h0, rowC_0, e6, ms_y (by decide), e5, ms_y (by decide), e4', ms_at]
      · rw [if_neg h0]
        by_cases h1 : k < 10
        · rw [if_pos h1, show k = 1 + (k - 1) by omega, rowC_b (by omega), show 1 + (k - 1) - 1 = k - 1 by omega, f _ (by decide), q3 _ (by decide) (by decide) (by decide) (by decide) (by decide), e2]
          rw [mcp_in (by omega) (by omega), show (0 : Int) + (k - 1 - 0) = k - 1 by omega, b1 (P + 2) (by omega)]
        · rw [if_neg h1]
          by_cases h2 : k < 13
          · rw [if_pos h2, show k = 10 + (k - 10) by omega, rowC_c' (by omega), f _ (by decide)]; exact (q1 (k - 10) (by omega) (by omega)).1
          · rw [if_neg h2]
            by_cases h3 : k < 33
            · rw [if_pos h3]
              by_cases h4 : k < 16
              · rw [show k = 13 + (k - 13) by omega, rowC_s (by omega), f _ (by decide)]; exact (q1 (k - 13) (by omega) (by omega)).2.1
              · by_cases h5 : k < 19
                · rw [show k = 16 + (k - 16) by omega, rowC_k (by omega), f _ (by decide)]; exact (q1 (k - 16) (by omega) (by omega)).2.2.1
                · by_cases h6 : k < 28
                  · rw [show k = 19 + (k - 19) by omega, rowC_u (by omega), f _ (by decide)]; exact q2 (k - 19) (by omega) (by omega)
                  · by_cases h7 : k < 31
                    · rw [show k = 28 + (k - 28) by omega, rowC_p (by omega), f _ (by decide)]; exact (q1 (k - 28) (by omega) (by omega)).2.2.2
                    · by_cases h8 : k = 31
                      · rw [h8, rowC_31, e6, ms_y (by decide), e5, ms_at]
                      · rw [show k = 32 by omega, rowC_32, e6, ms_at]
            · rw [if_neg h3, show k = 33 + (k - 33) by omega, rowC_o (by omega), f _ (by decide), q3 _ (by decide) (by decide) (by decide) (by decide) (by decide), e2, mcp_x (by decide)]
              exact a1 (k - 33) (by omega) (by omega)
    · dsimp only
      rw [e6, ms_f (by omega), e5, ms_f (by omega), e4', ms_f (by omega), q3 x (by omega) (by omega) (by omega) (by omega) (by omega), e2, mcp_f (by omega), b1 x (by omega)]
theorem layR_w {d : Dt} {j : Int} {b : Int → Int} (hj : 0 ≤ j ∧ j ≤ 2) (hb : ∀ k, 0 ≤ k → k < 9 → 0 ≤ b k ∧ b k ≤ 6) : WRow d (layR j b) := by
  have e10 : ∀ i, 0 ≤ i → i < 3 → layR j b (10 + i) = -4 := fun i a c => by unfold layR; rw [if_neg (by omega), if_neg (by omega), if_pos (by omega)]
  have e0 : ∀ k, 13 ≤ k → k < 33 → layR j b k = 0 := fun i a c => by unfold layR; rw [if_neg (by omega), if_neg (by omega), if_neg (by omega), if_pos (by omega)]
  refine ⟨?_, fun k k1 k2 => ?_, fun i a c => Or.inl (e10 i a c), fun i a c _ => ⟨e0 _ (by omega) (by omega), fun s s0 s1 => e0 _ (by omega) (by omega)⟩, fun i s a c s0 s1 => by rw [e0 _ (by omega) (by omega)]; decide, fun c a e => Or.inl ?_, by rw [e0 32 (by decide) (by decide)]; decide⟩
  · unfold layR; rw [if_pos rfl]; exact hj
  · unfold layR; rw [if_neg (by omega), if_pos k2]; exact hb (k - 1) (by omega) (by omega)
  · unfold layR; rw [if_neg (by omega), if_neg (by omega), if_neg (by omega), if_neg (by omega)]
/-- behind a lay: all is begun anew -/
def LayEnd (m m' : Mem) : Prop := Done m m' ∨ Core m' ∧ (∀ a, (a = 5 ∨ a = 11 ∨ a = 147 ∨ 13 ≤ a ∧ a ≤ 84) → m' a = m a) ∧ (∀ w, 0 ≤ w → w < 9 → m' (205 + 4 * w) 8 = 0) ∧ m' 143 8 = 0
theorem op_lay {g : Shp} {m : Mem} (hg2 : gl g (m 1 7 + 2) = 9) (hg4 : gl g (m 1 7 + 4) = 400) (hg86 : gl g 86 = 400) (hg91 : gl g 91 = 9) (hg242 : gl g 242 = 433) (h : Core m) : Two (eX10_lay g m) (eX11_lay g) (LayEnd m) := by
  have hs : (m 1 6 = 177 ∧ m 1 7 = 191) ∨ (m 1 6 = 191 ∧ m 1 7 = 177) := h.2.2.1
  unfold Two eX10_lay ebX10_lay_0
  refine T_bd2 (Q := fun q => T (eX11_lay g q.2) (fun p => q.1 = p.1 ∧ LayEnd m p.2)) ?_ (fun r m' hq => T_some hq)
  unfold eX10_layText ebX10_layText_0 ebX10_layText_26
  refine T_bd2 (rd_class hg2 hg4 h) (fun r m1 h1 => ?_)
  dsimp only at h1
  have no : (∀ m2, Rd m m2 r → ¬ (r = -4 ∧ ¬ m2 241 10 = 0)) → T (some ((-2 : Int), m1)) (fun q => T (eX11_lay g q.2) (fun p => q.1 = p.1 ∧ LayEnd m p.2)) := by
    intro hno
    refine T_some ?_
    dsimp only
    unfold eX11_lay ebX11_lay_0 ebX11_lay_16
    refine T_bd2 (rd_ref h h1) ?_
    rintro r2 m2 ⟨e, h2⟩
    dsimp only at e h2
    subst e
    refine T_if (fun c1 => T_if (fun c2 => T_some ⟨rfl, Or.inl (h2.done h)⟩) (fun c2 => absurd ⟨c1, c2⟩ (hno m2 h2))) (fun c1 => T_some ⟨rfl, Or.inl (h2.done h)⟩)
  refine T_if (fun c1 => ?_) (fun c1 => no (fun m2 _ q => c1 q.1))
  obtain ⟨k1, k2, k3, k4, k5⟩ := id h1
  obtain ⟨_, k6, k7⟩ := k5.resolve_left (by omega)
  have e17 : m1 1 7 = m 1 7 := by rw [k1]
  have e16 : m1 1 6 = m 1 6 := by rw [k1]
  rw [e17, e16]
  have el : m1 (m 1 7) 5 = dl (pR (m 245) (m 241 5) 300 0 S0).2.1 := k6.1.2.1
  generalize hS : (pR (m 245) (m 241 5) 300 0 S0).2 = S at *
  refine T_if (fun c2 => no (fun m2 h2 q => q.2 ?_)) (fun c2 => ?_)
  · have h3 := (h2.2.2.2.2.resolve_left (by omega)).2
    rw [hS] at h3
    have e2 : m2 241 10 = dl S.1 := h3.1.1
    rw [e2, ← el]
    exact c2
  · refine T_vm' (fun m2 e2 => T_vm' (fun m3 e3 => ?_))
    have e36 : m3 1 6 = m 1 7 := by rw [e3, ms_y (by decide), e2, ms_at]
    have e37 : m3 1 7 = m 1 6 := by rw [e3, ms_at]
    have f3 : ∀ x, x ≠ 1 → m3 x = m1 x := fun x x1 => by rw [e3, ms_f x1, e2, ms_f x1]
    rw [e36]
    refine T_bd2 (tX1_begin (P := m 1 7) (by omega) hg86 hg91) ?_
    rintro r4 m4 ⟨a4, b4⟩
    dsimp only at a4 b4
    refine T_vm' (fun m5 e5 => T_bd2 tX10_forgetAnswers ?_)
    rintro r6 m6 ⟨a6, b6, c6, d6⟩
    dsimp only at a6 b6 c6 d6
    have f6 : ∀ x, x ≠ 1 → (x < 85 ∨ 93 < x) → x ≠ 143 → (x < 205 ∨ 237 < x) → m6 x = m1 x := fun x x1 x2 x3 x4 => by rw [d6 x x3 x4, e5, ms_f (by omega), b4 x (by omega), f3 x x1]
    have f61 : m6 1 = m3 1 := by rw [d6 1 (by decide) (by decide), e5, ms_f (by decide), b4 1 (by decide)]
    refine T_some ?_
    dsimp only
    rw [f61, e36, f6 (m 1 7) (by omega) (by omega) (by omega) (by omega), el]
    unfold eX11_lay ebX11_lay_0 ebX11_lay_16
    have g245 : m6 245 = m 245 := by rw [f6 245 (by decide) (by decide) (by decide) (by decide)]; exact k3 245 (by decide) (by decide) (by omega)
    have g241 : m6 241 = m 241 := by rw [f6 241 (by decide) (by decide) (by decide) (by decide)]; exact k3 241 (by decide) (by decide) (by omega)
    refine T_bd2 (tX11_readText (n := m 241 5) g245 (by rw [g241]) h.1.1.2) ?_
    rintro r7 m7 ⟨a7, b7, c7⟩
    dsimp only at a7 b7 c7
    rw [← k4, c1] at b7
    subst b7
    have h7 := (c7.resolve_left (by decide)).2
    rw [hS] at h7
    obtain ⟨⟨d1, d2, d3⟩, d4, d5⟩ := h7
    have d1 : m7 241 10 = dl S.1 := d1
    have d2 : ∀ k, 0 ≤ k → k < 3 → m7 246 k = dz S.1 k := d2
    have d3 : ∀ i, 0 ≤ i → i < dl S.1 → m7 248 i = dr S.1 i ∧ m7 250 i = dn S.1 i ∧ (∀ r, 0 ≤ r → r < dr S.1 i → m7 249 (5 * i + r) = dg S.1 i r) ∧ ∀ k, 0 ≤ k → k < dn S.1 i → m7 251 (60 * i + k) = dc S.1 i k := d3
    refine T_it rfl (T_ie (by rw [d1, ← el]; exact c2) (T_bd2 (tX11_takeRead hg242) ?_))
    rintro r8 m8 ⟨t1, t2, t3, t4, t5, t6, t7, t8⟩
    dsimp only at t1 t2 t3 t4 t5 t6 t7 t8
    refine T_some ⟨by dsimp only; rw [t1, d1], Or.inr ?_⟩
    dsimp only
    have f8 : ∀ x, x ≠ 241 → x ≠ 242 → (x < 246 ∨ 256 < x) → m8 x = m6 x := fun x x1 x2 x3 => by rw [t4 x x1 x2 (by omega)]; exact a7.2 x x1 (by omega)
    have f81 : ∀ x, x ≠ 1 → (x < 85 ∨ 93 < x) → x ≠ 143 → (x < 205 ∨ 237 < x) → x ≠ 241 → x ≠ 242 → (x < 246 ∨ 256 < x) → m8 x = m1 x := fun x x1 x2 x3 x4 x5 x6 x7 => (f8 x x5 x6 x7).trans (f6 x x1 x2 x3 x4)
    have f82 : ∀ x, x ≠ 1 → x ≠ 2 → x ≠ 4 → (x < 85 ∨ 93 < x) → (x < 177 ∨ 204 < x) → x ≠ 143 → (x < 205 ∨ 237 < x) → x ≠ 241 → x ≠ 242 → (x < 246 ∨ 256 < x) → m8 x = m x := fun x x1 x2 x3 x4 x5 x6 x7 x8 x9 xa => (f81 x x1 x4 x6 x7 x8 x9 xa).trans (k3 x x2 x3 (by omega))
    have s1 : m8 1 = m3 1 := by rw [f8 1 (by decide) (by decide) (by decide), f61]
    have s93 : m8 93 1 = 0 := by rw [f8 93 (by decide) (by decide) (by decide), d6 93 (by decide) (by decide), e5, ms_at]
    have hD : DEq (dt m8) S.1 := by
      refine ⟨by show m8 241 20 = _; rw [t1, d1], fun k a b => ?_, fun i a b => ?_⟩
      · show m8 252 k = _
        rw [(t5 k a b).1]; exact d2 k a b
      · obtain ⟨u1, u2, u3, u4⟩ := d3 i a b
        have hwl := k7.2.2.1 i a b
        have hm := hwl.mx
        have hm5 := hwl.1
        have hl3 := k7.1
        refine ⟨?_, ?_, fun r r0 r1 => ?_, fun k k0 kn => ?_⟩
        · show m8 253 i = _
          rw [(t5 i a (by omega)).2.1]; exact u1
        · show m8 255 i = _
          rw [(t5 i a (by omega)).2.2]; exact u2
        · show m8 254 (5 * i + r) = _
          rw [t6 _ (by omega) (by omega)]; exact u3 r r0 r1
        · show m8 256 (60 * i + k) = _
          rw [t7 _ (by omega) (by omega)]; exact u4 k k0 kn
    have hWL : ∀ i, 0 ≤ i → i < dl S.1 → WLine S.1 i := k7.2.2.1
    have hl1 : 1 ≤ dl S.1 ∧ dl S.1 ≤ 3 := by
      have := k7.1
      rw [el] at c2
      omega
    have eP : ∀ x, m 1 7 ≤ x → x ≤ m 1 7 + 13 → m8 x = m1 x := fun x a b => f81 x (by omega) (by omega) (by omega) (by omega) (by omega) (by omega) (by omega)
    have hWd : WPl (dt m8) := by
      refine ⟨by rw [hD.1]; exact hl1, ?_, fun i a b => hD.wl ⟨a, by rw [← hD.1]; exact b⟩ (hWL i a (by rw [← hD.1]; exact b))⟩
      rw [hD.2.1 0 (by decide) (by decide), hD.2.1 1 (by decide) (by decide), hD.2.1 2 (by decide) (by decide)]
      exact k7.2.1
    have hrow : ∀ k, 0 ≤ k → k < 433 → layR (m3 (m 1 7) 4) (m3 (m 1 7 + 2)) k = layR (m7 241 8) (m7 247) k := by
      intro k a b
      rw [f3 _ (by omega), f3 _ (by omega), d4, k6.2.1]
      unfold layR
      by_cases h0 : k = 0
      · rw [if_pos h0, if_pos h0]
      · rw [if_neg h0, if_neg h0]
        by_cases h1 : k < 10
        · rw [if_pos h1, if_pos h1, k6.2.2 _ (by omega) (by omega), d5 _ (by omega) (by omega)]
        · rw [if_neg h1, if_neg h1]
    have hWr : WRow (dt m8) (m8 242) := WRow.c hWd.1.2 (layR_w (d := dt m8) (j := m7 241 8) (b := m7 247) (by rw [d4]; exact k7.2.2.2.1) (fun k a b => by rw [d5 k a b]; exact k7.2.2.2.2 k a b)) t8
    refine ⟨⟨?_, hWd, ?_, ?_, ⟨?_, hWr⟩, ?_, ?_, ?_⟩, fun a ha => f82 a (by omega) (by omega) (by omega) (by omega) (by omega) (by omega) (by omega) (by omega) (by omega) (by omega), fun w w0 w1 => ?_, ?_⟩
    · refine h.1.c ?_ ?_ (f82 3 (by decide) (by decide) (by decide) (by decide) (by decide) (by decide) (by decide) (by decide) (by decide) (by decide)) ?_
      · rw [t3 5 (by decide) (by decide), a7.1 5 (by decide) (by decide) (by decide) (by decide) (by decide) (by decide) (by decide), g241]
      · rw [f81 2 (by decide) (by decide) (by decide) (by decide) (by decide) (by decide) (by decide)]; exact k2
      · exact f82 245 (by decide) (by decide) (by decide) (by decide) (by decide) (by decide) (by decide) (by decide) (by decide) (by decide)
    · unfold ISw
      rw [s1, e36, e37]
      omega
    · rw [s1, e36]
      exact hD.ipl hWL (k6.1.c k7.1.2 eP)
    · refine RowEq.tr ?_ (RowEq.tr hrow (fun k a b => (t8 k a b).symm))
      rw [rowC_c (m := m4) (fun x a b => by rw [f8 x (by omega) (by omega) (by omega), d6 x (by omega) (by omega), e5, ms_f (by omega)])]
      exact a4
    · refine ⟨by rw [s93]; decide, ?_⟩
      rw [f82 94 (by decide) (by decide) (by decide) (by decide) (by decide) (by decide) (by decide) (by decide) (by decide) (by decide)]
      exact h.2.2.2.2.2.1.2
    · rw [t2, s93]
    · intro i a b
      rw [s93] at b
      omega
    · rw [f8 _ (by omega) (by omega) (by omega)]; exact a6 w w0 w1
    · rw [f8 _ (by decide) (by decide) (by decide)]; exact b6
