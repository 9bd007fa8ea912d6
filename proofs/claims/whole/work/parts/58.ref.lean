def LsR (m : Mem) (l : Nat) (s : Ls) : Prop := PtR m l s.1 ∧ m 248 l = s.2.1 ∧ (0 < s.2.1 → m 241 18 = s.2.2.1) ∧ ∀ j, 0 ≤ j → j < s.2.1 → m 249 (5 * l + j) = s.2.2.2 j
def lgOk (c v : Int) (s : Ls) : Prop := wC c ∧ (1 ≤ v ∧ v ≤ 12) ∧ lsOk (wX c) (wY c) (wA c) v s
def grP (m : Mem) (c v : Int) (l : Nat) (s : Ls) (q : Int × Mem) : Prop := RFr l m q.2 ∧ ((q.1 = 1 ∧ lgOk c v s ∧ LsR q.2 l (lsGo (wX c) (wY c) (wA c) v s)) ∨ q.1 = 0 ∧ ¬ lgOk c v s)
theorem tX11_goRun {g : Shp} {m : Mem} {c v : Int} {l : Nat} {s : Ls} (hl : l < 3) (h10 : m 241 10 = l) (hw : WLs s) (hp : LsR m l s) : T (eX11_goRun g c v m) (grP m c v l s) := by
  have hb := hw.n
  have hr := hw.2.1
  obtain ⟨hp1, hp2, hp3, hp4⟩ := hp
  have no : ¬ lgOk c v s → T (ebX11_goRun_91 g m) (grP m c v l s) := fun h => T_some ⟨RFr.rf l m, Or.inr ⟨rfl, h⟩⟩
  have yes : wC c → (1 ≤ v ∧ v ≤ 12) → s.2.1 < 5 → ¬ (0 < s.2.1 ∧ wA c = s.2.2.1) → T (ebX11_goRun_93 g c v l (wA c) m) (grP m c v l s) := by
    intro hc hv h5 hnw
    unfold ebX11_goRun_93
    refine T_ck (by unfold wA; split <;> decide) (T_vm' (fun m1 e1 => ?_))
    have f1 : ∀ x, x ≠ 241 → m1 x = m x := fun x hx => by rw [e1, ms_f hx]
    have f2 : ∀ b, b ≠ 18 → m1 241 b = m 241 b := fun b hb => by rw [e1, ms_y hb]
    have hfr : RFr l m m1 := ⟨fun b _ _ _ b4 => f2 b b4, fun x x1 _ _ _ _ => f1 x x1, fun i _ => ⟨by rw [f1 248 (by decide)], by rw [f1 250 (by decide)]⟩, fun j _ => by rw [f1 249 (by decide)], fun j _ => by rw [f1 251 (by decide)]⟩
    have hp1' : PtR m1 l s.1 := by
      unfold PtR
      rw [f2 15 (by decide), f2 16 (by decide), f2 17 (by decide), f1 250 (by decide), f1 251 (by decide)]
      exact hp1
    refine T_bdl (tX11_goRun_loop (g := g) (m := m1) (c := c) (n := v) hl (by rw [f2 10 (by decide)]; exact h10) hw.1 ⟨by omega, by omega, by omega⟩ hp1') ?_
    rintro r ⟨k, m2⟩ ⟨⟨k1, k2, k3, k4⟩, k5⟩
    dsimp only at k1 k2 k3 k4 k5 ⊢
    rcases k5 with ⟨e, ha, hq⟩ | ⟨e, ha⟩
    · subst e
      refine T_ie (by decide) ?_
      unfold ebX11_goRun_210
      have e248 : m2 248 l = s.2.1 := by rw [k3, f1 248 (by decide)]; exact hp2
      rw [e248, w32_id (x := 5 * (l : Int)) (by omega) (by omega), w32_id (by omega) (by omega)]
      refine T_ck ⟨by omega, by omega⟩ (T_ck ⟨by omega, by omega⟩ (T_vm' (fun m3 e3 => ?_)))
      rw [show m3 248 l = s.2.1 by rw [e3, ms_x (by decide)]; exact e248, w32_id (by omega) (by omega)]
      refine T_ck ⟨by omega, by omega⟩ (T_ck ⟨by omega, by omega⟩ (T_vm' (fun m4 e4 => ?_)))
      have g1 : ∀ x, x ≠ 248 → x ≠ 249 → m4 x = m2 x := fun x a b => by rw [e4, ms_f a, e3, ms_f b]
      refine T_some ⟨(hfr.tr k1).tr ⟨fun b _ _ _ _ => by dsimp only; rw [g1 241 (by decide) (by decide)], fun x _ a b _ _ => g1 x a b, fun i hi => ⟨by dsimp only; rw [e4, ms_y hi, e3, ms_x (by decide)], by dsimp only; rw [g1 250 (by decide) (by decide)]⟩, fun j hj => by dsimp only; rw [e4, ms_x (by decide), e3, ms_y (by omega)], fun j _ => by dsimp only; rw [g1 251 (by decide) (by decide)]⟩, Or.inl ⟨rfl, ⟨hc, hv, h5, hnw, ha⟩, ?_, ?_, ?_, ?_⟩⟩
      · unfold PtR at hq ⊢
        dsimp only
        rw [g1 241 (by decide) (by decide), g1 250 (by decide) (by decide), g1 251 (by decide) (by decide)]
        exact hq
      · dsimp only
        rw [e4, ms_at]; rfl
      · intro _
        dsimp only
        rw [g1 241 (by decide) (by decide), k2, e1, ms_at]; rfl
      · intro j j0 j1
        have j1' : j < s.2.1 + 1 := j1
        show m4 249 (5 * l + j) = up s.2.2.2 s.2.1 v j
        rw [e4, ms_x (by decide), e3]
        by_cases e : j = s.2.1
        · rw [e, ms_at, up_at]
        · rw [ms_y (by omega), up_ne e, k4, f1 249 (by decide)]; exact hp4 j j0 (by omega)
    · subst e
      exact T_it rfl (T_some ⟨hfr.tr k1, Or.inr ⟨rfl, fun h => ha h.2.2.2.2⟩⟩)
  have mid : wC c → T (ebX11_goRun_53 g c v l (wA c) m) (grP m c v l s) := by
    intro hc
    unfold ebX11_goRun_53
    refine T_bd2 tX11_in ?_
    intro r m1 e
    cases e
    by_cases hv : 1 ≤ v ∧ v ≤ 12
    · rw [if_pos hv, hp2]
      refine T_ie (by decide) (T_ck ⟨by omega, by omega⟩ (T_if (fun h => no (fun q => by have := q.2.2.1; omega)) (fun h => T_ck ⟨by omega, by omega⟩ (T_if (fun h2 => yes hc hv (by omega) (by omega)) (fun h2 => ?_)))))
      rw [hp3 (by omega)]
      exact T_if (fun h3 => no (fun q => q.2.2.2.1 ⟨by omega, h3⟩)) (fun h3 => yes hc hv (by omega) (fun q => h3 q.2))
    · rw [if_neg hv]
      exact T_it rfl (no (fun q => hv q.2.1))
  unfold eX11_goRun ebX11_goRun_0 ebX11_goRun_17 ebX11_goRun_22 ebX11_goRun_36 ebX11_goRun_41
  rw [h10]
  have ew1 : c = 114 ∨ c = 108 → wA c = 1 := fun h => by unfold wA; rw [if_pos h]
  have ew0 : ¬ (c = 114 ∨ c = 108) → wA c = 0 := fun h => by unfold wA; rw [if_neg h]
  refine T_vv (T_if (fun h1 => ?_) (fun h1 => T_if (fun h2 => ?_) (fun h2 => ?_)))
  · have m1 := mid (Or.inl h1)
    rw [ew1 (Or.inl h1)] at m1
    exact T_ie (by omega) (T_ie (by omega) (T_ie (by decide) m1))
  · have m1 := mid (Or.inr (Or.inl h2))
    rw [ew1 (Or.inr h2)] at m1
    exact T_ie (by omega) (T_ie (by omega) (T_ie (by decide) m1))
  · have e0 := ew0 (by omega)
    refine T_if (fun h3 => ?_) (fun h3 => T_if (fun h4 => ?_) (fun h4 => ?_))
    · have m1 := mid (Or.inr (Or.inr (Or.inr h3)))
      rw [e0] at m1
      exact T_it rfl (T_ie (by decide) m1)
    · have m1 := mid (Or.inr (Or.inr (Or.inl h4)))
      rw [e0] at m1
      exact T_it rfl (T_ie (by decide) m1)
    · refine T_it rfl (T_it rfl (no ?_))
      rintro ⟨q | q | q | q, _⟩ <;> omega
/-! ===== the reference's signs and numbers ===== -/
def TxR (m : Mem) (t : Int → Int) (n a : Int) : Prop := m 245 = t ∧ m 241 5 = n ∧ n ≤ 200 ∧ m 241 6 = a ∧ 0 ≤ a ∧ a ≤ 1000
/-- only the place in the text has changed -/
def Rat (m m' : Mem) : Prop := (∀ b, b ≠ 6 → m' 241 b = m 241 b) ∧ ∀ x, x ≠ 241 → m' x = m x
theorem Rat.tr {m m' m'' : Mem} (h : Rat m m') (h2 : Rat m' m'') : Rat m m'' := ⟨fun b hb => (h2.1 b hb).trans (h.1 b hb), fun b hb => (h2.2 b hb).trans (h.2 b hb)⟩
theorem Rat.rf (m : Mem) : Rat m m := ⟨fun _ _ => rfl, fun _ _ => rfl⟩
theorem TxR.c {m m' : Mem} {t : Int → Int} {n a a' : Int} (h : TxR m t n a) (h2 : Rat m m') (h6 : m' 241 6 = a') (ha : 0 ≤ a' ∧ a' ≤ 1000) : TxR m' t n a' := ⟨(h2.2 245 (by decide)).trans h.1, (h2.1 5 (by decide)).trans h.2.1, h.2.2.1, h6, ha⟩
theorem rSign {g : Shp} {m : Mem} {t : Int → Int} {n a c : Int} (h : TxR m t n a) : T (eX11_takeSign g c m) (fun q => q.1 = sg t n a c ∧ q.2 241 6 = a + sg t n a c ∧ Rat m q.2) := by
  obtain ⟨h1, h2, h3, h4, h5⟩ := h
  have := tX11_takeSign (g := g) (m := m) (c := c) (by omega) (by omega)
  rw [h1, h2, h4] at this
  exact T_mono this (fun q hq => ⟨hq.1, by rw [hq.2, ms_at], fun b hb => by rw [hq.2, ms_y hb], fun x hx => by rw [hq.2, ms_f hx]⟩)
theorem rNum {g : Shp} {m : Mem} {t : Int → Int} {n a : Int} (h : TxR m t n a) : T (eX11_takeNumber g m) (fun q => q.1 = nv t n a ∧ q.2 241 6 = a + nf t n a ∧ Rat m q.2) := by
  obtain ⟨h1, h2, h3, h4, h5⟩ := h
  have := tX11_takeNumber (g := g) (m := m) (by omega) (by omega)
  rw [h1, h2, h4] at this
  exact this
/-- what an item leaves as it is -/
theorem nmOk_s {t : Int → Int} {n a lo hi : Int} {k : Nat} : nmOk t n a lo hi (k + 1) ↔ nmOk t n a lo hi k ∧ (0 < k → sg t n (ps t n a k - 1) 44 = 1) ∧ lo ≤ nv t n (ps t n a k) ∧ nv t n (ps t n a k) ≤ hi := by
  constructor
  · exact fun h => ⟨fun j hj => h j (by omega), h k (by omega)⟩
  · intro h j hj
    by_cases e : j = k
    · rw [e]; exact h.2
    · exact h.1 j (by omega)
theorem tX11_readSizes {g : Shp} {m : Mem} {t : Int → Int} {n a : Int} (h : TxR m t n a) (ha : a ≤ 900) :
    T (eX11_readSizes g m) (fun q => (∀ b, b ≠ 6 → q.2 241 b = m 241 b) ∧ (∀ x, x ≠ 241 → x ≠ 246 → q.2 x = m x)
      ∧ ((q.1 = 1 ∧ okZ t n a ∧ q.2 241 6 = ps t n a 3 ∧ ∀ k, 0 ≤ k → k < 3 → q.2 246 k = nv t n (ps t n a k.toNat)) ∨ q.1 = 0 ∧ ¬ okZ t n a)) := by
  have hps1 := ps_r (t := t) (n := n) (a := a) 1
  have hps2 := ps_r (t := t) (n := n) (a := a) 2
  have hps3 := ps_r (t := t) (n := n) (a := a) 3
  have h00 := h.2.2.2.2.1
  unfold eX11_readSizes ebX11_readSizes_0 ebX11_readSizes_72
  refine T_bd2 (rNum h) ?_
  rintro v1 m1 ⟨a1, b1, c1⟩
  dsimp only at a1 b1 c1
  have r1 := nf_r t n a
  refine T_bd2 (rSign (h.c c1 b1 (by omega))) ?_
  rintro v2 m2 ⟨a2, b2, c2⟩
  dsimp only at a2 b2 c2
  have r2 := sg_r t n (a + nf t n a) 44
  refine T_bd2 (rNum (h.c (c1.tr c2) b2 (by omega))) ?_
  rintro v3 m3 ⟨a3, b3, c3⟩
  dsimp only at a3 b3 c3
  have r3 := nf_r t n (a + nf t n a + sg t n (a + nf t n a) 44)
  generalize hp2 : a + nf t n a + sg t n (a + nf t n a) 44 = p2 at *
  refine T_bd2 (rSign (h.c ((c1.tr c2).tr c3) b3 (by omega))) ?_
  rintro v4 m4 ⟨a4, b4, c4⟩
  dsimp only at a4 b4 c4
  have r4 := sg_r t n (p2 + nf t n p2) 44
  refine T_bd2 (rNum (h.c (((c1.tr c2).tr c3).tr c4) b4 (by omega))) ?_
  rintro v5 m5 ⟨a5, b5, c5⟩
  dsimp only at a5 b5 c5
  generalize hp4 : p2 + nf t n p2 + sg t n (p2 + nf t n p2) 44 = p4 at *
  have r5 := nf_r t n p4
  have k5 := (((c1.tr c2).tr c3).tr c4).tr c5
  have e1 : ps t n a 1 = a + nf t n a + 1 := rfl
  have i1 : v2 = 1 → ps t n a 1 = p2 := fun q => by rw [e1]; omega
  have e2 : ps t n a 2 = ps t n a 1 + nf t n (ps t n a 1) + 1 := rfl
  have e3 : ps t n a 3 = ps t n a 2 + nf t n (ps t n a 2) + 1 := rfl
  have i2 : v2 = 1 → v4 = 1 → ps t n a 2 = p4 := fun q1 q2 => by rw [e2, i1 q1]; omega
  have i3 : v2 = 1 → v4 = 1 → ps t n a 3 = p4 + nf t n p4 + 1 := fun q1 q2 => by rw [e3, i2 q1 q2]
  have nz : ∀ {m' : Mem}, Rat m m' → ¬ okZ t n a → T (some ((0 : Int), m')) (fun q => (∀ b, b ≠ 6 → q.2 241 b = m 241 b) ∧ (∀ x, x ≠ 241 → x ≠ 246 → q.2 x = m x)
      ∧ ((q.1 = 1 ∧ okZ t n a ∧ q.2 241 6 = ps t n a 3 ∧ ∀ k, 0 ≤ k → k < 3 → q.2 246 k = nv t n (ps t n a k.toNat)) ∨ q.1 = 0 ∧ ¬ okZ t n a)) := fun hr hz => T_some ⟨hr.1, fun x x1 _ => hr.2 x x1, Or.inr ⟨rfl, hz⟩⟩
  have okE : okZ t n a ↔ v2 = 1 ∧ v4 = 1 ∧ sg t n (p4 + nf t n p4) 59 = 1 ∧ (1 ≤ v1 ∧ v1 < v3 ∧ v3 < v5 ∧ v5 ≤ 9) := by
    constructor
    · rintro ⟨⟨q1, q2, q3⟩, q4⟩
      have z0 := q1 0 (by decide)
      have z1 := q1 1 (by decide)
      have z2 := q1 2 (by decide)
      have s1 := z1.1 (by decide)
      rw [e1, show a + nf t n a + 1 - 1 = a + nf t n a by omega, ← a2] at s1
      have s2 := z2.1 (by decide)
      rw [e2, i1 s1, show p2 + nf t n p2 + 1 - 1 = p2 + nf t n p2 by omega, ← a4] at s2
      rw [i3 s1 s2, show p4 + nf t n p4 + 1 - 1 = p4 + nf t n p4 by omega] at q4
      rw [i1 s1] at q2 q3
      rw [i2 s1 s2] at q3
      have z0' := z0.2
      have z2' := z2.2
      rw [i2 s1 s2] at z2'
      have e0 : ps t n a 0 = a := rfl
      rw [e0] at z0' q2
      refine ⟨s1, s2, q4, ?_⟩
      rw [a1, a3, a5]
      exact ⟨z0'.1, q2, q3, z2'.2⟩
    · rintro ⟨s1, s2, q4, q⟩
      have e0 : ps t n a 0 = a := rfl
      rw [a1, a3, a5] at q
      unfold okZ
      rw [i3 s1 s2, i1 s1, i2 s1 s2, e0, show p4 + nf t n p4 + 1 - 1 = p4 + nf t n p4 by omega]
      refine ⟨⟨fun j hj => ?_, q.2.1, q.2.2.1⟩, q4⟩
      rcases (show j = 0 ∨ j = 1 ∨ j = 2 by omega) with e | e | e
      · subst e; rw [e0]; exact ⟨fun h => absurd h (by decide), by omega, by omega⟩
      · subst e
        refine ⟨fun _ => ?_, ?_⟩
        · rw [e1, show a + nf t n a + 1 - 1 = a + nf t n a by omega, ← a2]; exact s1
        · rw [i1 s1]; omega
      · subst e
        refine ⟨fun _ => ?_, ?_⟩
        · rw [e2, i1 s1, show p2 + nf t n p2 + 1 - 1 = p2 + nf t n p2 by omega, ← a4]; exact s2
        · rw [i2 s1 s2]; omega
  rw [← a2] at r2
  rw [← a4] at r4
  refine T_if (fun z => nz k5 (fun q => absurd ((okE.mp q).1.symm.trans z) (by decide))) (fun z => T_if (fun z2 => nz k5 (fun q => absurd ((okE.mp q).2.1.symm.trans z2) (by decide))) (fun z2 => ?_))
  refine T_bd2 (rSign (h.c k5 b5 ?_)) ?_
  · clear okE nz i1 i2 i3 e1 e2 e3
    omega
  rintro v6 m6 ⟨a6, b6, c6⟩
  dsimp only at a6 b6 c6
  have k6 := k5.tr c6
  have r6 := sg_r t n (p4 + nf t n p4) 59
  rw [← a6] at r6 okE
  have w2 := r2.resolve_left z
  have w4 := r4.resolve_left z2
  refine T_if (fun z3 => nz k6 (fun q => absurd ((okE.mp q).2.2.1.symm.trans z3) (by decide))) (fun z3 => T_if (fun z4 => nz k6 (fun q => absurd (okE.mp q).2.2.2.1 (Int.not_le.mpr z4))) (fun z4 => T_if (fun z5 => nz k6 (fun q => absurd (okE.mp q).2.2.2.2.1 (Int.not_lt.mpr z5))) (fun z5 => T_if (fun z6 => nz k6 (fun q => absurd (okE.mp q).2.2.2.2.2.1 (Int.not_lt.mpr z6))) (fun z6 => T_if (fun z7 => ?_) (fun z7 => nz k6 (fun q => z7 (okE.mp q).2.2.2.2.2.2))))))
  have w6 := r6.resolve_left z3
  refine T_ck (by decide) (T_vm (T_ck (by decide) (T_vm (T_ck (by decide) (T_vm (T_some ⟨fun b hb => ?_, fun x x1 x2 => ?_, Or.inl ⟨rfl, okE.mpr ⟨w2, w4, w6, Int.not_lt.mp z4, Int.not_le.mp z5, Int.not_le.mp z6, z7⟩, ?_, fun k k0 k1 => ?_⟩⟩))))))
  · dsimp only; rw [ms_x (by decide), ms_x (by decide), ms_x (by decide)]; exact k6.1 b hb
  · dsimp only; rw [ms_f x2, ms_f x2, ms_f x2]; exact k6.2 x x1
  · dsimp only; rw [ms_x (by decide), ms_x (by decide), ms_x (by decide), i3 w2 w4, b6, ← a6, w6]
  · dsimp only
    rcases (show k = 0 ∨ k = 1 ∨ k = 2 by omega) with e | e | e
    · subst e; rw [ms_y (by decide), ms_y (by decide), ms_at, a1]; rfl
    · subst e; rw [ms_y (by decide), ms_at, a3, ← i1 w2]; rfl
    · subst e; rw [ms_at, a5, ← i2 w2 w4]; rfl
