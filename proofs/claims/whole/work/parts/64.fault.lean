theorem itN_w {t : Int → Int} {n a a' : Int} {S S' : St} (hw : WSt S) (h : itN t n a S = some (a', S')) : WSt S' := by
  obtain ⟨w1, w2, w3, w4, w5⟩ := hw
  unfold itN at h
  by_cases h1 : t a = 122 ∧ okZ t n (a + 1)
  · rw [if_pos h1] at h
    rw [← (Prod.mk.inj (Option.some.inj h)).2]
    obtain ⟨_, h2⟩ := h1
    exact ⟨w1, ⟨(h2.1.1 0 (by decide)).2.1, h2.1.2.1, h2.1.2.2, (h2.1.1 2 (by decide)).2.2⟩, w3, w4, w5⟩
  rw [if_neg h1] at h
  by_cases h2 : t a = 106 ∧ okJ t n (a + 1)
  · rw [if_pos h2] at h
    rw [← (Prod.mk.inj (Option.some.inj h)).2]
    exact ⟨w1, w2, w3, (h2.2.1 0 (by decide)).2, w5⟩
  rw [if_neg h2] at h
  by_cases h3 : t a = 98 ∧ okB t n (a + 1)
  · rw [if_pos h3] at h
    rw [← (Prod.mk.inj (Option.some.inj h)).2]
    refine ⟨w1, w2, w3, w4, fun k k0 k9 => ?_⟩
    dsimp only
    unfold bgV
    by_cases q : 3 * nv t n (ps t n (a + 1) 0) ≤ k ∧ k < 3 * nv t n (ps t n (a + 1) 0) + 3
    · rw [if_pos q]
      exact (h3.2.1.1 (k - 3 * nv t n (ps t n (a + 1) 0) + 1).toNat (by omega)).2
    · rw [if_neg q]; exact w5 k k0 k9
  rw [if_neg h3] at h
  by_cases h4 : t a = 108 ∧ dl S.1 < 3
  · rw [if_pos h4] at h
    cases hF : lnF t n (a + 1) with
    | none => rw [hF] at h; exact absurd h (by simp)
    | some q =>
      rw [hF] at h
      have e := (Prod.mk.inj (Option.some.inj h)).2
      have hs := lnF_all (a' := q.1) (s := q.2) hF
      rw [← e]
      refine ⟨⟨by rw [addL_l]; omega, by rw [addL_l]; omega⟩, w2, fun i i0 i1 => ?_, w4, w5⟩
      have i1 : i < dl S.1 + 1 := i1
      by_cases e : i = dl S.1
      · rw [e]; exact addL_w hs.1 hs.2.1
      · exact addL_wo ⟨i0, by omega⟩ (w3 i i0 (by omega))
  · rw [if_neg h4] at h; exact absurd h (by simp)
def S0 : St := ((0, (fun k => if k = 0 then 2 else if k = 1 then 3 else 5), (fun _ => 0), (fun _ => 0), (fun _ => 0), (fun _ => 0)), 0, fun _ => 6)
theorem S0_w : WSt S0 := by
  refine ⟨⟨Int.le_refl 0, ?_⟩, ⟨?_, ?_, ?_, ?_⟩, fun i a (b : i < 0) => by omega, ⟨Int.le_refl 0, ?_⟩, fun k a b => ⟨?_, ?_⟩⟩
  · show (0 : Int) ≤ 3; decide
  · show (1 : Int) ≤ 2; decide
  · show (2 : Int) < 3; decide
  · show (3 : Int) < 5; decide
  · show (5 : Int) ≤ 9; decide
  · show (0 : Int) ≤ 2; decide
  · show (0 : Int) ≤ 6; decide
  · show (6 : Int) ≤ 6; decide
theorem tJ7_fillA {g : Shp} {m : Mem} {r v : Int} (h0 : 0 ≤ gl g r) (h3 : gl g r ≤ 90000) : T (eJ7_fill_53178 g r v m) (fun q => (∀ k, 0 ≤ k → k < gl g r → q.2 r k = v) ∧ ∀ a, a ≠ r → q.2 a = m a) := by
  unfold eJ7_fill_53178 ebJ7_fill_53178_0
  refine T_vv (T_bdl (Q := fun q => (∀ k, 0 ≤ k → k < gl g r → q.2.2 r k = v) ∧ ∀ a, a ≠ r → q.2.2 a = m a)
    (iter1 (fun k m' => (0 ≤ k ∧ k ≤ gl g r) ∧ (∀ j, 0 ≤ j → j < k → m' r j = v) ∧ ∀ a, a ≠ r → m' a = m a) (fun k => (gl g r - k).toNat) ⟨by omega, fun j a b => by omega, fun _ _ => rfl⟩ (by omega) ?_) ?_)
  · rintro k m' ⟨k1, k3, k5⟩
    unfold eBJ7_fill_53178_5 ebJ7_fill_53178_5
    simp only
    refine T_if (fun hc => T_out (by decide) ⟨fun j a b => k3 j a (by omega), k5⟩) (fun hc => ?_)
    rw [w32_id (by omega) (by omega)]
    refine T_ck ⟨by omega, by omega⟩ (T_vm (T_vv (T_go ⟨⟨by simp only; omega, by simp only; omega⟩, fun j a b => ?_, fun a ha => ?_⟩ (by simp only; omega))))
    · simp only at b ⊢
      by_cases q : j = k
      · rw [q, ms_at]
      · rw [ms_y q]; exact k3 j a (by omega)
    · simp only
      rw [ms_f ha]; exact k5 a ha
  · rintro c ⟨k, m'⟩ h
    exact T_some h
theorem tX7_clear {g : Shp} {m : Mem} {P : Int} (hg2 : gl g (P + 2) = 9) (hg4 : gl g (P + 4) = 400) : T (eX7_clear g P m) (fun q => CI q.2 P S0 ∧ ∀ x, (x < P ∨ P + 13 < x) → q.2 x = m x) := by
  unfold eX7_clear ebX7_clear_0
  refine T_ck (by decide) (T_vm' (fun m1 e1 => T_ck (by decide) (T_vm' (fun m2 e2 => T_ck (by decide) (T_vm' (fun m3 e3 => T_bd2 (tJ7_fillA (by omega) (by omega)) ?_))))))
  rintro r4 m4 ⟨a4, b4⟩
  dsimp only at a4 b4
  refine T_bd2 (tJ7_fillA (by omega) (by omega)) ?_
  rintro r5 m5 ⟨a5, b5⟩
  dsimp only at a5 b5
  refine T_vm' (fun m6 e6 => T_vm' (fun m7 e7 => T_some ⟨⟨⟨fun k k0 k3 => ?_, ?_, fun i i0 (i1 : i < 0) => by omega, fun c c0 c1 => ⟨0, by decide, ?_, fun i hi => ?_⟩⟩, ?_, fun k k0 k9 => ?_⟩, fun x hx => ?_⟩))
  · dsimp only
    rw [e7, ms_x (by omega), e6, ms_x (by omega), b5 _ (by omega), b4 _ (by omega), e3]
    rcases (show k = 0 ∨ k = 1 ∨ k = 2 by omega) with e | e | e
    · subst e; rw [ms_y (by decide), e2, ms_y (by decide), e1, ms_at]; rfl
    · subst e; rw [ms_y (by decide), e2, ms_at]; rfl
    · subst e; rw [ms_at]; rfl
  · dsimp only
    rw [e7, ms_at]; rfl
  · dsimp only
    rw [e7, ms_x (by omega), e6, ms_x (by omega), a5 c c0 (by omega)]; rfl
  · rw [Nat.zero_testBit]
    constructor
    · intro q; exact absurd q (by decide)
    · rintro ⟨q, _⟩
      have q : (i : Int) < 0 := q
      omega
  · dsimp only
    rw [e7, ms_y (by decide), e6, ms_at]; rfl
  · dsimp only
    rw [e7, ms_x (by omega), e6, ms_x (by omega), b5 _ (by omega), a4 k k0 (by omega)]; rfl
  · dsimp only
    rw [e7, ms_f (by omega), e6, ms_f (by omega), b5 _ (by omega), b4 _ (by omega), e3, ms_f (by omega), e2, ms_f (by omega), e1, ms_f (by omega)]
theorem tX8_firstFault {g : Shp} {m : Mem} {P n : Int} {t : Int → Int} (hP : 4 < P) (hg2 : gl g (P + 2) = 9) (hg4 : gl g (P + 4) = 400) (ht : Tx m t n) :
    T (eX8_firstFault g P m) (fun q => (∀ b, b ≠ 2 → q.2 2 b = m 2 b) ∧ (∀ x, x ≠ 2 → x ≠ 4 → (x < P ∨ P + 13 < x) → q.2 x = m x) ∧ q.1 = (pR t n 300 0 S0).1 ∧ ((0 ≤ q.1) ∨ q.1 = -4 ∧ CI q.2 P (pR t n 300 0 S0).2 ∧ WSt (pR t n 300 0 S0).2)) := by
  unfold eX8_firstFault ebX8_firstFault_0
  refine T_bd2 (tX7_clear hg2 hg4) ?_
  rintro r1 m1 ⟨a1, b1⟩
  dsimp only at a1 b1
  refine T_vm' (fun m2 e2 => ?_)
  have f2 : ∀ b, b ≠ 2 → m2 2 b = m 2 b := fun b hb => by rw [e2, ms_y hb, b1 2 (by omega)]
  have f3 : ∀ x, x ≠ 2 → (x < P ∨ P + 13 < x) → m2 x = m x := fun x x1 x2 => by rw [e2, ms_f x1, b1 x x2]
  have hc2 : CI m2 P S0 := by
    obtain ⟨⟨q1, q2, q3, q4⟩, q5, q6⟩ := a1
    have e : ∀ x, x ≠ 2 → m2 x = m1 x := fun x x1 => by rw [e2, ms_f x1]
    refine ⟨⟨fun k a b => by rw [e _ (by omega)]; exact q1 k a b, by rw [e _ (by omega)]; exact q2, fun i i0 (i1 : i < 0) => by omega, fun c a b => by rw [e _ (by omega)]; exact q4 c a b⟩, by rw [e _ (by omega)]; exact q5, fun k a b => by rw [e _ (by omega)]; exact q6 k a b⟩
  refine T_bdl (tX8_firstFault_loop (a := 0) hP hg4 (ht.c (f2 3 (by decide)) (f3 3 (by decide) (by omega))) (by rw [e2, ms_at]) rfl hc2 S0_w) ?_
  rintro c ⟨x, y, m3⟩ ⟨k1, k2, k3⟩
  dsimp only at k1 k2 k3 ⊢
  have g2 : ∀ b, b ≠ 2 → m3 2 b = m 2 b := fun b hb => (k1 b hb).trans (f2 b hb)
  have gf : ∀ x, x ≠ 2 → x ≠ 4 → (x < P ∨ P + 13 < x) → m3 x = m x := fun x x1 x2 x3 => (k2 x x1 x2 x3).trans (f3 x x1 x3)
  unfold ebX8_firstFault_42 ebX8_firstFault_50
  rcases k3 with ⟨e, h1, h2⟩ | ⟨e, h1, h2, h3⟩
  · subst e
    exact T_it rfl (T_some ⟨g2, gf, h1, Or.inl (by dsimp only; omega)⟩)
  · subst e
    exact T_ie (by decide) (T_some ⟨g2, gf, h1.symm, Or.inr ⟨rfl, h2, h3⟩⟩)
theorem tX11_begin {g : Shp} {m : Mem} : T (eX11_begin g m) (fun q => RI q.2 S0 ∧ (∀ b, b ≠ 8 → b ≠ 10 → q.2 241 b = m 241 b) ∧ ∀ x, x ≠ 241 → x ≠ 246 → x ≠ 247 → q.2 x = m x) := by
  unfold eX11_begin ebX11_begin_0
  refine T_ck (by decide) (T_vm' (fun m1 e1 => T_ck (by decide) (T_vm' (fun m2 e2 => T_ck (by decide) (T_vm' (fun m3 e3 => T_vm' (fun m4 e4 => ?_)))))))
  refine T_bdl (Q := fun q => (∀ k, 0 ≤ k → k < 9 → q.2.2 247 k = 6) ∧ ∀ x, x ≠ 247 → q.2.2 x = m4 x)
    (iter1 (fun k m' => (0 ≤ k ∧ k ≤ 9) ∧ (∀ j, 0 ≤ j → j < k → m' 247 j = 6) ∧ ∀ x, x ≠ 247 → m' x = m4 x) (fun k => (9 - k).toNat) ⟨by decide, fun j a b => by omega, fun _ _ => rfl⟩ (by decide) ?_) ?_
  · rintro k m' ⟨k1, k3, k5⟩
    unfold eBX11_begin_28 ebX11_begin_28
    simp only
    refine T_if (fun hc => T_out (by decide) ⟨fun j a b => k3 j a (by omega), k5⟩) (fun hc => ?_)
    rw [w32_id (by omega) (by omega)]
    refine T_ck ⟨by omega, by omega⟩ (T_vm (T_vv (T_go ⟨⟨by simp only; omega, by simp only; omega⟩, fun j a b => ?_, fun a ha => ?_⟩ (by simp only; omega))))
    · simp only at b ⊢
      by_cases q : j = k
      · rw [q, ms_at]
      · rw [ms_y q]; exact k3 j a (by omega)
    · simp only
      rw [ms_f ha]; exact k5 a ha
  · rintro c ⟨k, m5⟩ ⟨h1, h2⟩
    dsimp only at h1 h2
    unfold ebX11_begin_48
    dsimp only
    refine T_vm' (fun m6 e6 => T_some ⟨⟨⟨?_, fun k k0 k3 => ?_, fun i i0 (i1 : i < 0) => by omega⟩, ?_, fun k k0 k9 => ?_⟩, fun b b1 b2 => ?_, fun x x1 x2 x3 => ?_⟩)
    · show m6 241 10 = 0
      rw [e6, ms_at]
    · show m6 246 k = _
      rw [e6, ms_x (by decide), h2 246 (by decide), e4, ms_x (by decide), e3]
      rcases (show k = 0 ∨ k = 1 ∨ k = 2 by omega) with e | e | e
      · subst e; rw [ms_y (by decide), e2, ms_y (by decide), e1, ms_at]; rfl
      · subst e; rw [ms_y (by decide), e2, ms_at]; rfl
      · subst e; rw [ms_at]; rfl
    · dsimp only
      rw [e6, ms_y (by decide), h2 241 (by decide), e4, ms_at]; rfl
    · dsimp only
      rw [e6, ms_x (by decide), h1 k k0 k9]; rfl
    · dsimp only
      rw [e6, ms_y b2, h2 241 (by decide), e4, ms_y b1, e3, ms_x (by decide), e2, ms_x (by decide), e1, ms_x (by decide)]
    · dsimp only
      rw [e6, ms_f x1, h2 x x3, e4, ms_f x1, e3, ms_f x2, e2, ms_f x2, e1, ms_f x2]
theorem tX11_readText {g : Shp} {m : Mem} {n : Int} {t : Int → Int} (h1 : m 245 = t) (h2 : m 241 5 = n) (h3 : n ≤ 200) :
    T (eX11_readText g m) (fun q => RAll m q.2 ∧ q.1 = (pR t n 300 0 S0).1 ∧ (0 ≤ q.1 ∨ q.1 = -4 ∧ RI q.2 (pR t n 300 0 S0).2)) := by
  unfold eX11_readText ebX11_readText_0
  refine T_bd2 tX11_begin ?_
  rintro r1 m1 ⟨a1, b1, c1⟩
  dsimp only at a1 b1 c1
  refine T_vm' (fun m2 e2 => ?_)
  have f1 : ∀ b, b ≠ 6 → m2 241 b = m1 241 b := fun b hb => by rw [e2, ms_y hb]
  have f2 : ∀ x, x ≠ 241 → m2 x = m1 x := fun x x1 => by rw [e2, ms_f x1]
  have ra : RAll m m2 := ⟨fun b q1 q2 q3 _ _ _ _ => (f1 b q1).trans (b1 b q2 q3), fun x x1 x2 => (f2 x x1).trans (c1 x x1 (by omega) (by omega))⟩
  have hr : RI m2 S0 := by
    obtain ⟨⟨q1, q2, q3⟩, q5, q6⟩ := a1
    refine ⟨⟨?_, ?_, fun i i0 (i1 : i < 0) => by omega⟩, by rw [f1 8 (by decide)]; exact q5, fun k a b => by rw [f2 247 (by decide)]; exact q6 k a b⟩
    · show m2 241 10 = _
      rw [f1 10 (by decide)]; exact q1
    · show ∀ k, 0 ≤ k → k < 3 → m2 246 k = _
      rw [f2 246 (by decide)]; exact q2
  refine T_bdl (tX11_readText_loop (a := 0) (n := n) (t := t) ⟨by rw [f2 245 (by decide), c1 245 (by decide) (by decide) (by decide)]; exact h1, by rw [f1 5 (by decide), b1 5 (by decide) (by decide)]; exact h2, h3, by rw [e2, ms_at], by decide, by decide⟩ rfl hr S0_w (fun a S a' S' hw h => itN_w hw h)) ?_
  rintro c ⟨x, m3⟩ ⟨k1, k3⟩
  dsimp only at k1 k3 ⊢
  unfold ebX11_readText_32 ebX11_readText_37
  rcases k3 with ⟨e, q1, q2⟩ | ⟨e, q1, q2⟩
  · subst e
    exact T_it rfl (T_some ⟨ra.tr k1, q1, Or.inl (by dsimp only; omega)⟩)
  · subst e
    exact T_ie (by decide) (T_some ⟨ra.tr k1, q1.symm, Or.inr ⟨rfl, q2⟩⟩)
