/-! ===== a line that was read is sound ===== -/
theorem lnR_w {t : Int → Int} {n : Int} : ∀ (k : Nat) (a : Int) (s : Ls), WLs s → ∀ a' s', lnR t n k a s = some (a', s') → WLs s' ∧ 1 ≤ s'.2.1 ∧ a < a'
  | 0, _, _, _, _, _, h => absurd h (by unfold lnR; simp)
  | k + 1, a, s, hw, a', s', h => by
    by_cases o : rnOk t n a s
    · have oa := o.a
      have hr := hw.2.1
      by_cases e : sg t n (rnA t n a) 59 = 1
      · rw [lnR_end o e] at h
        obtain ⟨e1, e2⟩ := Prod.mk.inj (Option.some.inj h)
        rw [← e1, ← e2]
        exact ⟨o.w hw, by show 1 ≤ s.2.1 + 1; omega, by omega⟩
      · rw [lnR_go o e] at h
        have := lnR_w k _ _ (o.w hw) a' s' h
        exact ⟨this.1, this.2.1, by omega⟩
    · rw [lnR_no o] at h
      exact absurd h (by simp)
theorem lnF_all {t : Int → Int} {n a a' : Int} {s : Ls} (h : lnF t n a = some (a', s)) : WLs s ∧ 1 ≤ s.2.1 ∧ a < a' := by
  unfold lnF at h
  by_cases e : nmOk t n a 0 19 2 ∧ sg t n (ps t n a 2 - 1) 44 = 1
  · rw [if_pos e] at h
    have h1 := lnR_w _ _ _ (WLs.z (e.1 0 (by decide)).2 (e.1 1 (by decide)).2) _ _ h
    have h2 := ps_r (t := t) (n := n) (a := a) 2
    exact ⟨h1.1, h1.2.1, by have := h1.2.2; omega⟩
  · rw [if_neg e] at h
    exact absurd h (by simp)
theorem lnF_w {t : Int → Int} {n a a' : Int} {s : Ls} (h : lnF t n a = some (a', s)) : WLs s := (lnF_all h).1
theorem lnF_a {t : Int → Int} {n a a' : Int} {s : Ls} (h : lnF t n a = some (a', s)) : a < a' := (lnF_all h).2.2
/-- the reference's item -/
theorem ri_step {m m' : Mem} {t : Int → Int} {n a : Int} {S : St} {l : Nat} (hl : dl S.1 = l) (hw : WSt S) (hc : RI m S) (h : itR m t n a l m') : ∃ a' S', itN t n a S = some (a', S') ∧ m' 241 6 = a' ∧ RI m' S' := by
  obtain ⟨w1, w2, w3, w4, w5⟩ := hw
  obtain ⟨⟨d1, d2, d3⟩, c5, c6⟩ := hc
  have d1 : m 241 10 = dl S.1 := d1
  have d2 : ∀ k, 0 ≤ k → k < 3 → m 246 k = dz S.1 k := d2
  have d3 : ∀ i, 0 ≤ i → i < dl S.1 → m 248 i = dr S.1 i ∧ m 250 i = dn S.1 i ∧ (∀ r, 0 ≤ r → r < dr S.1 i → m 249 (5 * i + r) = dg S.1 i r) ∧ ∀ k, 0 ≤ k → k < dn S.1 i → m 251 (60 * i + k) = dc S.1 i k := d3
  rcases h with ⟨h1, h2, h3, h4, h5, h6⟩ | ⟨h1, h2, h3, h4, h5, h6⟩ | ⟨h1, h2, h3, h4, h5, h6⟩ | ⟨h1, h2, a', s, h3, h4, h5, h6, h7, h8⟩
  · refine ⟨_, _, itN_z h1 h2, h3, ⟨?_, h4, ?_⟩, ?_, fun k a b => ?_⟩
    · show m' 241 10 = dl S.1
      rw [h5 10 (by decide)]; exact d1
    · show ∀ i, 0 ≤ i → i < dl S.1 → m' 248 i = dr S.1 i ∧ m' 250 i = dn S.1 i ∧ (∀ r, 0 ≤ r → r < dr S.1 i → m' 249 (5 * i + r) = dg S.1 i r) ∧ ∀ k, 0 ≤ k → k < dn S.1 i → m' 251 (60 * i + k) = dc S.1 i k
      rw [h6 248 (by decide) (by decide), h6 249 (by decide) (by decide), h6 250 (by decide) (by decide), h6 251 (by decide) (by decide)]
      exact d3
    · rw [h5 8 (by decide)]; exact c5
    · rw [h6 247 (by decide) (by decide)]; exact c6 k a b
  · refine ⟨_, _, itN_j h1 h2, h3, ⟨?_, ?_, ?_⟩, h4, fun k a b => ?_⟩
    · show m' 241 10 = dl S.1
      rw [h5 10 (by decide) (by decide)]; exact d1
    · show ∀ k, 0 ≤ k → k < 3 → m' 246 k = dz S.1 k
      rw [h6 246 (by decide)]; exact d2
    · show ∀ i, 0 ≤ i → i < dl S.1 → m' 248 i = dr S.1 i ∧ m' 250 i = dn S.1 i ∧ (∀ r, 0 ≤ r → r < dr S.1 i → m' 249 (5 * i + r) = dg S.1 i r) ∧ ∀ k, 0 ≤ k → k < dn S.1 i → m' 251 (60 * i + k) = dc S.1 i k
      rw [h6 248 (by decide), h6 249 (by decide), h6 250 (by decide), h6 251 (by decide)]
      exact d3
    · rw [h6 247 (by decide)]; exact c6 k a b
  · refine ⟨_, _, itN_b h1 h2, h3, ⟨?_, ?_, ?_⟩, ?_, fun k k0 k9 => ?_⟩
    · show m' 241 10 = dl S.1
      rw [h5 10 (by decide)]; exact d1
    · show ∀ k, 0 ≤ k → k < 3 → m' 246 k = dz S.1 k
      rw [h6 246 (by decide) (by decide)]; exact d2
    · show ∀ i, 0 ≤ i → i < dl S.1 → m' 248 i = dr S.1 i ∧ m' 250 i = dn S.1 i ∧ (∀ r, 0 ≤ r → r < dr S.1 i → m' 249 (5 * i + r) = dg S.1 i r) ∧ ∀ k, 0 ≤ k → k < dn S.1 i → m' 251 (60 * i + k) = dc S.1 i k
      rw [h6 248 (by decide) (by decide), h6 249 (by decide) (by decide), h6 250 (by decide) (by decide), h6 251 (by decide) (by decide)]
      exact d3
    · rw [h5 8 (by decide)]; exact c5
    · rw [h4 k k0 k9]
      unfold bgV
      dsimp only
      by_cases q : 3 * nv t n (ps t n (a + 1) 0) ≤ k ∧ k < 3 * nv t n (ps t n (a + 1) 0) + 3
      · rw [if_pos q, if_pos q]
      · rw [if_neg q, if_neg q]; exact c6 k k0 k9
  · refine ⟨_, _, itN_l h1 (by omega) h3, h4, ⟨?_, ?_, ?_⟩, ?_, fun k k0 k9 => ?_⟩
    · show m' 241 10 = dl S.1 + 1
      rw [h7, hl]
    · show ∀ k, 0 ≤ k → k < 3 → m' 246 k = dz S.1 k
      rw [h8.2.1 246 (by decide) (by decide) (by decide) (by decide) (by decide)]; exact d2
    · show ∀ i, 0 ≤ i → i < dl S.1 + 1 → m' 248 i = dr (addL S.1 s) i ∧ m' 250 i = dn (addL S.1 s) i ∧ (∀ r, 0 ≤ r → r < dr (addL S.1 s) i → m' 249 (5 * i + r) = dg (addL S.1 s) i r) ∧ ∀ k, 0 ≤ k → k < dn (addL S.1 s) i → m' 251 (60 * i + k) = dc (addL S.1 s) i k
      intro i i0 i1
      by_cases e : i = dl S.1
      · obtain ⟨e1, e2, e3, e4⟩ := addL_n (d := S.1) (s := s)
        obtain ⟨⟨k1, k2, k3, k4, k5⟩, k6, k7, k8⟩ := h6
        have hn := lnF_w h3
        have hn1 := hn.n
        have hn2 := hn.2.1
        rw [e, e1, e2, hl]
        rw [hl] at e3 e4
        exact ⟨k6, k4, fun r r0 r1 => by rw [e3 r r0 (by omega)]; exact k8 r r0 r1, fun k k0 kn => by rw [e4 k k0 (by omega)]; exact k5 k k0 kn⟩
      · obtain ⟨e1, e2, e3, e4⟩ := addL_o (d := S.1) (s := s) (i := i) ⟨i0, by omega⟩
        obtain ⟨q1, q2, q3, q4⟩ := d3 i i0 (by omega)
        have hm := (w3 i i0 (by omega)).mx
        have hm5 := (w3 i i0 (by omega)).1
        rw [(h8.2.2.1 i (by omega)).1, (h8.2.2.1 i (by omega)).2, e1, e2]
        refine ⟨q1, q2, fun r r0 r1 => ?_, fun k k0 kn => ?_⟩
        · rw [h8.2.2.2.1 _ (by omega), e3 r r0 (by omega)]; exact q3 r r0 r1
        · rw [h8.2.2.2.2 _ (by omega), e4 k k0 (by omega)]; exact q4 k k0 kn
    · rw [h8.1 8 (by decide) (by decide) (by decide) (by decide) (by decide) (by decide)]; exact c5
    · rw [h8.2.1 247 (by decide) (by decide) (by decide) (by decide) (by decide)]; exact c6 k k0 k9
/-! ===== the whole text, pure: the first fault or -4, and what was told ===== -/
noncomputable def pR (t : Int → Int) (n : Int) : Nat → Int → St → Int × St
  | 0, _, S => (-4, S)
  | k + 1, a, S => if n ≤ a then (-4, S) else match itN t n a S with
    | none => (a, S)
    | some q => pR t n k q.1 q.2
theorem pR_e {t : Int → Int} {n a : Int} {S : St} (h : n ≤ a) (k : Nat) : pR t n k a S = (-4, S) := by
  cases k with
  | zero => rfl
  | succ k => unfold pR; rw [if_pos h]
theorem pR_n {t : Int → Int} {n a : Int} {S : St} {k : Nat} (h : ¬ n ≤ a) (h2 : itN t n a S = none) : pR t n (k + 1) a S = (a, S) := by
  unfold pR; rw [if_neg h, h2]
theorem pR_s {t : Int → Int} {n a a' : Int} {S S' : St} {k : Nat} (h : ¬ n ≤ a) (h2 : itN t n a S = some (a', S')) : pR t n (k + 1) a S = pR t n k a' S' := by
  conv => lhs; unfold pR
  rw [if_neg h, h2]
theorem itN_a {t : Int → Int} {n a a' : Int} {S S' : St} (h : itN t n a S = some (a', S')) : a < a' := by
  unfold itN at h
  by_cases h1 : t a = 122 ∧ okZ t n (a + 1)
  · rw [if_pos h1] at h
    have e := (Prod.mk.inj (Option.some.inj h)).1
    have := ps_r (t := t) (n := n) (a := a + 1) 3
    omega
  rw [if_neg h1] at h
  by_cases h2 : t a = 106 ∧ okJ t n (a + 1)
  · rw [if_pos h2] at h
    have e := (Prod.mk.inj (Option.some.inj h)).1
    have := ps_r (t := t) (n := n) (a := a + 1) 1
    omega
  rw [if_neg h2] at h
  by_cases h3 : t a = 98 ∧ okB t n (a + 1)
  · rw [if_pos h3] at h
    have e := (Prod.mk.inj (Option.some.inj h)).1
    have := ps_r (t := t) (n := n) (a := a + 1) 4
    omega
  rw [if_neg h3] at h
  by_cases h4 : t a = 108 ∧ dl S.1 < 3
  · rw [if_pos h4] at h
    cases hF : lnF t n (a + 1) with
    | none => rw [hF] at h; exact absurd h (by simp)
    | some q =>
      rw [hF] at h
      have e := (Prod.mk.inj (Option.some.inj h)).1
      have := lnF_a (a' := q.1) (s := q.2) hF
      omega
  · rw [if_neg h4] at h; exact absurd h (by simp)
theorem tX8_firstFault_loop {g : Shp} {m : Mem} {P n a : Int} {t : Int → Int} {S : St} (hP : 4 < P) (hg : gl g (P + 4) = 400) (ht : Tx m t n) (ha : m 2 2 = a) (h0 : a = 0) (hc : CI m P S) (hw : WSt S) :
    T (iter (eBX8_firstFault_11 g P) 100000 (0, 0, m)) (fun q => (∀ b, b ≠ 2 → q.2.2.2 2 b = m 2 b) ∧ (∀ x, x ≠ 2 → x ≠ 4 → (x < P ∨ P + 13 < x) → q.2.2.2 x = m x)
      ∧ ((q.1 = 1 ∧ q.2.2.1 = (pR t n 300 a S).1 ∧ 0 ≤ (pR t n 300 a S).1) ∨ (q.1 = 2 ∧ (pR t n 300 a S).1 = -4 ∧ CI q.2.2.2 P (pR t n 300 a S).2 ∧ WSt (pR t n 300 a S).2))) := by
  refine iter2 (fun x y m' => (0 ≤ x ∧ x ≤ 200) ∧ (∀ b, b ≠ 2 → m' 2 b = m 2 b) ∧ (∀ x, x ≠ 2 → x ≠ 4 → (x < P ∨ P + 13 < x) → m' x = m x) ∧ ∃ (k : Nat) (a' : Int) (S' : St), pR t n k a' S' = pR t n 300 a S ∧ n - a' < k ∧ x ≤ a' ∧ m' 2 2 = a' ∧ CI m' P S' ∧ WSt S') (fun x _ => (201 - x).toNat)
    ⟨by decide, fun _ _ => rfl, fun _ _ _ _ => rfl, 300, a, S, rfl, by have := ht.2.1; omega, by omega, ha, hc, hw⟩ (by decide) ?_
  rintro x y m' ⟨hx, hf2, hf, k, a', S', hR, hk, hxa, ha', hc', hw'⟩
  have hn := ht.2.1
  have tx : Tx m' t n := ht.c (hf2 3 (by decide)) (hf 3 (by decide) (by decide) (by omega))
  unfold eBX8_firstFault_11 ebX8_firstFault_11
  simp only
  rw [ha', tx.1]
  have out : n ≤ a' → (pR t n 300 a S).1 = -4 ∧ CI m' P (pR t n 300 a S).2 ∧ WSt (pR t n 300 a S).2 := by
    intro h
    rw [← hR, pR_e h k]
    exact ⟨rfl, hc', hw'⟩
  refine T_if (fun h1 => T_out (by decide) ⟨hf2, hf, Or.inr ⟨rfl, out (by omega)⟩⟩) (fun h1 => T_if (fun h2 => T_out (by decide) ⟨hf2, hf, Or.inr ⟨rfl, out h2⟩⟩) (fun h2 => T_vv ?_))
  obtain ⟨l, hl⟩ : ∃ l : Nat, dl S'.1 = l := ⟨(dl S'.1).toNat, by have := hw'.1; omega⟩
  refine T_bd2 (tX8_readItem (l := l) (f := fD S'.1) (by have := hw'.1; omega) (by rw [hc'.1.2.1]; exact hl) hP hg hc'.1.ov (fun c => by unfold fD; rw [decide_eq_false (by omega), Bool.false_and]) tx ha' (by omega) (by omega)) ?_
  rintro r m2 ⟨q1, q2, q3⟩
  dsimp only at q1 q2 q3
  have g2 : ∀ b, b ≠ 2 → m2 2 b = m 2 b := fun b hb => (q1 b hb).trans (hf2 b hb)
  have gf : ∀ x, x ≠ 2 → x ≠ 4 → (x < P ∨ P + 13 < x) → m2 x = m x := fun b b1 b2 b3 => (q2 b b1 b2 b3).trans (hf b b1 b2 b3)
  obtain ⟨k', rfl⟩ : ∃ k', k = k' + 1 := ⟨k - 1, by omega⟩
  rcases q3 with ⟨e, h⟩ | ⟨e, h⟩
  · subst e
    obtain ⟨a2, S2, s1, s2, s3, s4⟩ := ci_step hP hl hw' hc' h
    have hlt := itN_a s1
    refine T_ie (by decide) ?_
    rw [w32_id (by omega) (by omega)]
    refine T_vv (T_go ⟨⟨by simp only; omega, by simp only; omega⟩, g2, gf, k', a2, S2, ?_, by omega, by simp only; omega, s2, s3, s4⟩ (by simp only; omega))
    rw [← hR, pR_s h2 s1]
  · subst e
    refine T_it rfl (T_out (by decide) ⟨g2, gf, Or.inl ⟨rfl, ?_, ?_⟩⟩)
    · rw [← hR, pR_n h2 (itN_n hl h)]
    · rw [← hR, pR_n h2 (itN_n hl h)]; dsimp only; omega
theorem tX11_readText_loop {g : Shp} {m : Mem} {n a : Int} {t : Int → Int} {S : St} (ht : TxR m t n a) (h0 : a = 0) (hc : RI m S) (hw : WSt S) (hstep : ∀ a S a' S', WSt S → itN t n a S = some (a', S') → WSt S') :
    T (iter (eBX11_readText_9 g) 100000 (0, m)) (fun q => RAll m q.2.2 ∧ ((q.1 = 1 ∧ q.2.1 = (pR t n 300 a S).1 ∧ 0 ≤ (pR t n 300 a S).1) ∨ (q.1 = 2 ∧ (pR t n 300 a S).1 = -4 ∧ RI q.2.2 (pR t n 300 a S).2))) := by
  have hn2 := ht.2.2.1
  refine iter_T (fun q : Int × Mem => RAll m q.2 ∧ ∃ (k : Nat) (a' : Int) (S' : St), pR t n k a' S' = pR t n 300 a S ∧ n - a' < k ∧ 0 ≤ a' ∧ q.2 241 6 = a' ∧ RI q.2 S' ∧ WSt S') (fun q => (1000 - q.2 241 6).toNat) ?_ 100000 (0, m) ⟨RAll.rf m, 300, a, S, rfl, by omega, by omega, ht.2.2.2.1, hc, hw⟩ (by dsimp only; rw [ht.2.2.2.1, h0]; decide)
  rintro ⟨x, m'⟩ ⟨hf, k, a', S', hR, hk, h0', ha', hc', hw'⟩
  dsimp only at hf ha' hc'
  have e5 : m' 241 5 = n := by rw [hf.1 5 (by decide) (by decide) (by decide) (by decide) (by decide) (by decide) (by decide)]; exact ht.2.1
  unfold eBX11_readText_9 ebX11_readText_9
  dsimp only
  simp only [ha', e5]
  refine T_if (fun h1 => T_out (by decide) ⟨hf, Or.inr ⟨rfl, ?_⟩⟩) (fun h1 => T_vv ?_)
  · rw [← hR, pR_e h1 k]
    exact ⟨rfl, hc'⟩
  · have tx : TxR m' t n a' := ⟨by rw [hf.2 245 (by decide) (by decide)]; exact ht.1, e5, hn2, ha', h0', by omega⟩
    obtain ⟨l, hl⟩ : ∃ l : Nat, dl S'.1 = l := ⟨(dl S'.1).toNat, by have := hw'.1; omega⟩
    refine T_bd2 (tX11_readItem (l := l) (by have := hw'.1; omega) (by rw [← hl]; exact hc'.1.1) tx (by omega)) ?_
    rintro r m2 ⟨q1, q3⟩
    dsimp only at q1 q3
    have gf := hf.tr q1
    obtain ⟨k', rfl⟩ : ∃ k', k = k' + 1 := ⟨k - 1, by omega⟩
    rcases q3 with ⟨e, h⟩ | ⟨e, h⟩
    · subst e
      obtain ⟨a2, S2, s1, s2, s3⟩ := ri_step hl hw' hc' h
      have hlt := itN_a s1
      refine T_ie (by decide) (T_go ⟨gf, k', a2, S2, ?_, by omega, by omega, s2, s3, hstep _ _ _ _ hw' s1⟩ ?_)
      · rw [← hR, pR_s h1 s1]
      · dsimp only; omega
    · subst e
      refine T_it rfl (T_out (by decide) ⟨gf, Or.inl ⟨rfl, ?_, ?_⟩⟩)
      · rw [← hR, pR_n h1 (itN_n hl h)]
      · rw [← hR, pR_n h1 (itN_n hl h)]; dsimp only; omega
