def bgV (t : Int → Int) (n a : Int) (B : Int → Int) (k : Int) : Int := if 3 * nv t n (ps t n a 0) ≤ k ∧ k < 3 * nv t n (ps t n a 0) + 3 then nv t n (ps t n a (k - 3 * nv t n (ps t n a 0) + 1).toNat) else B k
def itC (m : Mem) (P : Int) (t : Int → Int) (n a : Int) (l : Nat) (f : Nat → Int → Bool) (m' : Mem) : Prop :=
  (t a = 122 ∧ okZ t n (a + 1) ∧ m' 2 2 = ps t n (a + 1) 3 ∧ (∀ k, 0 ≤ k → k < 3 → m' (P + 1) k = nv t n (ps t n (a + 1) k.toNat)) ∧ ∀ x, x ≠ 2 → x ≠ 4 → x ≠ P + 1 → m' x = m x)
  ∨ (t a = 106 ∧ okJ t n (a + 1) ∧ m' 2 2 = ps t n (a + 1) 1 ∧ m' P 4 = nv t n (ps t n (a + 1) 0) ∧ (∀ b, b ≠ 4 → m' P b = m P b) ∧ ∀ x, x ≠ 2 → x ≠ 4 → x ≠ P → m' x = m x)
  ∨ (t a = 98 ∧ okB t n (a + 1) ∧ m' 2 2 = ps t n (a + 1) 4 ∧ (∀ k, 0 ≤ k → k < 9 → m' (P + 2) k = bgV t n (a + 1) (m (P + 2)) k) ∧ ∀ x, x ≠ 2 → x ≠ 4 → x ≠ P + 2 → m' x = m x)
  ∨ (t a = 108 ∧ l < 3 ∧ ∃ a' s, lnF t n (a + 1) = some (a', s) ∧ WLs s ∧ 1 ≤ s.2.1 ∧ m' 2 2 = a' + 1 ∧ 0 ≤ a' ∧ LsC m' (P + 5 + 3 * l) s ∧ OvB m' (P + 4) (ovF f l s.1) ∧ m' P 5 = l + 1 ∧ (∀ b, b ≠ 5 → m' P b = m P b) ∧ ∀ x, x ≠ 2 → x ≠ 4 → x ≠ P → x ≠ P + 5 + 3 * l → x ≠ P + 5 + 3 * l + 1 → x ≠ P + 5 + 3 * l + 2 → x ≠ P + 4 → m' x = m x)
def itQ (m : Mem) (P : Int) (t : Int → Int) (n a : Int) (l : Nat) (f : Nat → Int → Bool) (q : Int × Mem) : Prop :=
  (∀ b, b ≠ 2 → q.2 2 b = m 2 b) ∧ (∀ x, x ≠ 2 → x ≠ 4 → (x < P ∨ P + 13 < x) → q.2 x = m x) ∧ ((q.1 = 1 ∧ itC m P t n a l f q.2) ∨ q.1 = 0 ∧ ¬ itOk t n l a)
theorem it_end {g : Shp} {m m1 : Mem} {P : Int} {t : Int → Int} {n a a1 v : Int} {l : Nat} {f : Nat → Int → Bool} (ht : Tx m1 t n) (hP : 4 < P) (k1 : ∀ b, b ≠ 2 → m1 2 b = m 2 b) (k2 : ∀ x, x ≠ 2 → x ≠ 4 → (x < P ∨ P + 13 < x) → m1 x = m x)
    (h : (v = 1 ∧ m1 2 2 = a1 ∧ 0 ≤ a1 ∧ (∀ m2 : Mem, sg t n a1 59 = 1 → m2 2 2 = a1 + 1 → (∀ b, b ≠ 2 → m2 2 b = m1 2 b) → (∀ x, x ≠ 2 → m2 x = m1 x) → itC m P t n a l f m2) ∧ (¬ sg t n a1 59 = 1 → ¬ itOk t n l a)) ∨ v = 0 ∧ ¬ itOk t n l a) :
    T (ebX8_readItem_71 g v m1) (itQ m P t n a l f) := by
  unfold ebX8_readItem_71 ebX8_readItem_88 ebX8_readItem_89
  rcases h with ⟨e, ha, h0, h1, h2⟩ | ⟨e, h1⟩
  · subst e
    refine T_ie (by decide) (T_bd2 (uTake ht ha h0) ?_)
    rintro r m2 ⟨q1, q2, q3, q4⟩
    dsimp only at q1 q2 q3 q4
    have g2 : ∀ b, b ≠ 2 → m2 2 b = m 2 b := fun b hb => (q3 b hb).trans (k1 b hb)
    have gf : ∀ x, x ≠ 2 → x ≠ 4 → (x < P ∨ P + 13 < x) → m2 x = m x := fun b b1 b2 b3 => (q4 b b1).trans (k2 b b1 b2 b3)
    refine T_if (fun z => T_ck (by decide) (T_some ⟨g2, gf, Or.inr ⟨rfl, h2 (by omega)⟩⟩)) (fun z => T_ck (by decide) (T_some ⟨g2, gf, Or.inl ⟨rfl, ?_⟩⟩))
    have := (sg_r t n a1 59).resolve_left (by omega)
    exact h1 m2 this (by omega) q3 q4
  · subst e
    exact T_it rfl (T_ck (by decide) (T_some ⟨k1, k2, Or.inr ⟨rfl, h1⟩⟩))
theorem it_z {t : Int → Int} {n a : Int} {l : Nat} (h : t a = 122) (h2 : ¬ okZ t n (a + 1)) : ¬ itOk t n l a := by
  rintro (⟨_, q⟩ | ⟨q, _⟩ | ⟨q, _⟩ | ⟨q, _⟩)
  · exact h2 q
  · omega
  · omega
  · omega
theorem it_j {t : Int → Int} {n a : Int} {l : Nat} (h : t a = 106) (h2 : ¬ okJ t n (a + 1)) : ¬ itOk t n l a := by
  rintro (⟨q, _⟩ | ⟨_, q⟩ | ⟨q, _⟩ | ⟨q, _⟩)
  · omega
  · exact h2 q
  · omega
  · omega
theorem it_b {t : Int → Int} {n a : Int} {l : Nat} (h : t a = 98) (h2 : ¬ okB t n (a + 1)) : ¬ itOk t n l a := by
  rintro (⟨q, _⟩ | ⟨q, _⟩ | ⟨_, q⟩ | ⟨q, _⟩)
  · omega
  · omega
  · exact h2 q
  · omega
theorem it_l {t : Int → Int} {n a : Int} {l : Nat} (h : t a = 108) (h2 : ¬ (l < 3 ∧ ∃ a' s, lnF t n (a + 1) = some (a', s))) : ¬ itOk t n l a := by
  rintro (⟨q, _⟩ | ⟨q, _⟩ | ⟨q, _⟩ | ⟨_, q⟩)
  · omega
  · omega
  · omega
  · exact h2 q
theorem tX8_readLine3 {g : Shp} {m : Mem} {P : Int} (h : m P 5 = 3) : T (eX8_readLine g P m) (fun q => q = (0, m)) := by
  unfold eX8_readLine ebX8_readLine_0 ebX8_readLine_28
  rw [h]
  exact T_it (by decide) (T_some rfl)
theorem T_and {α : Type} {x : Option α} {P Q : α → Prop} (h : T x P) (h2 : T x Q) : T x (fun y => P y ∧ Q y) := by
  obtain ⟨y, a, b⟩ := h
  obtain ⟨z, c, d⟩ := h2
  rw [a] at c
  cases c
  exact ⟨y, a, b, d⟩
theorem tX8_readItem {g : Shp} {m : Mem} {t : Int → Int} {n a P : Int} {f : Nat → Int → Bool} {l : Nat} (hl : l ≤ 3) (h5 : m P 5 = l) (hP : 4 < P) (hg : gl g (P + 4) = 400) (hov : OvB m (P + 4) f) (hf0 : ∀ c, f l c = false) (ht : Tx m t n) (ha : m 2 2 = a) (h0 : 0 ≤ a) (hn : a < n) :
    T (eX8_readItem g P m) (itQ m P t n a l f) := by
  unfold eX8_readItem ebX8_readItem_0
  have keep : ∀ {m1 : Mem} {c : Int} {r : Int}, (r = sg t n a c ∧ m1 2 2 = a + sg t n a c ∧ (∀ b, b ≠ 2 → m1 2 b = m 2 b) ∧ ∀ a, a ≠ 2 → m1 a = m a) → r = 0 → m1 2 2 = a ∧ ¬ t a = c := by
    rintro m1 c r ⟨e1, e2, _, _⟩ h
    rw [h] at e1
    exact ⟨by omega, fun q => by rw [sg_1.mpr ⟨hn, q⟩] at e1; exact absurd e1 (by decide)⟩
  have got : ∀ {m1 : Mem} {c : Int} {r : Int}, (r = sg t n a c ∧ m1 2 2 = a + sg t n a c ∧ (∀ b, b ≠ 2 → m1 2 b = m 2 b) ∧ ∀ a, a ≠ 2 → m1 a = m a) → ¬ r = 0 → m1 2 2 = a + 1 ∧ t a = c := by
    rintro m1 c r ⟨e1, e2, _, _⟩ h
    have := (sg_r t n a c).resolve_left (fun q => h (e1.trans q))
    exact ⟨by omega, (sg_1.mp this).2⟩
  refine T_bd2 (uTake ht ha h0) (fun r1 m1 (h1 : r1 = sg t n a 122 ∧ m1 2 2 = a + sg t n a 122 ∧ (∀ b, b ≠ 2 → m1 2 b = m 2 b) ∧ ∀ a, a ≠ 2 → m1 a = m a) => T_if (fun z1 => ?_) (fun z1 => ?_))
  · have k1 := keep h1 z1
    refine T_bd2 (uTake (ht.c (h1.2.2.1 3 (by decide)) (h1.2.2.2 3 (by decide))) k1.1 h0) (fun r2 m2 (h2' : r2 = sg t n a 106 ∧ m2 2 2 = a + sg t n a 106 ∧ (∀ b, b ≠ 2 → m2 2 b = m1 2 b) ∧ ∀ a, a ≠ 2 → m2 a = m1 a) => ?_)
    have h2 : r2 = sg t n a 106 ∧ m2 2 2 = a + sg t n a 106 ∧ (∀ b, b ≠ 2 → m2 2 b = m 2 b) ∧ ∀ a, a ≠ 2 → m2 a = m a := ⟨h2'.1, h2'.2.1, fun b q => (h2'.2.2.1 b q).trans (h1.2.2.1 b q), fun b q => (h2'.2.2.2 b q).trans (h1.2.2.2 b q)⟩
    refine T_if (fun z2 => ?_) (fun z2 => ?_)
    · have k2 := keep h2 z2
      refine T_bd2 (uTake (ht.c (h2.2.2.1 3 (by decide)) (h2.2.2.2 3 (by decide))) k2.1 h0) (fun r3 m3 (h3' : r3 = sg t n a 98 ∧ m3 2 2 = a + sg t n a 98 ∧ (∀ b, b ≠ 2 → m3 2 b = m2 2 b) ∧ ∀ a, a ≠ 2 → m3 a = m2 a) => ?_)
      have h3 : r3 = sg t n a 98 ∧ m3 2 2 = a + sg t n a 98 ∧ (∀ b, b ≠ 2 → m3 2 b = m 2 b) ∧ ∀ a, a ≠ 2 → m3 a = m a := ⟨h3'.1, h3'.2.1, fun b q => (h3'.2.2.1 b q).trans (h2.2.2.1 b q), fun b q => (h3'.2.2.2 b q).trans (h2.2.2.2 b q)⟩
      refine T_if (fun z3 => ?_) (fun z3 => ?_)
      · have k3 := keep h3 z3
        refine T_bd2 (uTake (ht.c (h3.2.2.1 3 (by decide)) (h3.2.2.2 3 (by decide))) k3.1 h0) (fun r4 m4 (h4' : r4 = sg t n a 108 ∧ m4 2 2 = a + sg t n a 108 ∧ (∀ b, b ≠ 2 → m4 2 b = m3 2 b) ∧ ∀ a, a ≠ 2 → m4 a = m3 a) => ?_)
        have h4 : r4 = sg t n a 108 ∧ m4 2 2 = a + sg t n a 108 ∧ (∀ b, b ≠ 2 → m4 2 b = m 2 b) ∧ ∀ a, a ≠ 2 → m4 a = m a := ⟨h4'.1, h4'.2.1, fun b q => (h4'.2.2.1 b q).trans (h3.2.2.1 b q), fun b q => (h4'.2.2.2 b q).trans (h3.2.2.2 b q)⟩
        have tx4 : Tx m4 t n := ht.c (h4.2.2.1 3 (by decide)) (h4.2.2.2 3 (by decide))
        refine T_if (fun z4 => ?_) (fun z4 => ?_)
        · have k4 := keep h4 z4
          refine it_end (a1 := a) tx4 hP h4.2.2.1 (fun b b1 _ _ => h4.2.2.2 b b1) (Or.inr ⟨rfl, ?_⟩)
          rintro (⟨q, _⟩ | ⟨q, _⟩ | ⟨q, _⟩ | ⟨q, _⟩)
          · exact k1.2 q
          · exact k2.2 q
          · exact k3.2 q
          · exact k4.2 q
        · have k4 := got h4 z4
          have h45 : m4 P 5 = l := by rw [h4.2.2.2 P (by omega)]; exact h5
          refine T_bd2 (T_and (Q := fun q => l = 3 → q.2 = m4) (tX8_readLine hl h45 hP hg (hov.c (h4.2.2.2 _ (by omega))) hf0 tx4 k4.1 (by omega)) ?_) ?_
          · by_cases e : l = 3
            · exact T_mono (tX8_readLine3 (by rw [h45, e]; rfl)) (fun q hq _ => by rw [hq])
            · exact T_mono (tX8_readLine hl h45 hP hg (hov.c (h4.2.2.2 _ (by omega))) hf0 tx4 k4.1 (by omega)) (fun q _ h => absurd h e)
          rintro v m5 ⟨⟨u1, u2, u3, u4⟩, u5⟩
          dsimp only at u1 u2 u3 u4 u5
          have w2 : ∀ b, b ≠ 2 → m5 2 b = m 2 b := fun b hb => (u1 b hb).trans (h4.2.2.1 b hb)
          have wf : ∀ x, x ≠ 2 → x ≠ 4 → (x < P ∨ P + 13 < x) → m5 x = m x := fun b b1 b2 b3 => by
            by_cases e : l = 3
            · rw [u5 e]; exact h4.2.2.2 b b1
            · rw [u3 b b1 b2 (by omega) (by omega) (by omega) (by omega) (by omega)]; exact h4.2.2.2 b b1
          rcases u4 with ⟨e, l3, p5, a', s, y1, y2, y3, y4, y5, y6, y7⟩ | ⟨e, y⟩
          · refine it_end (a1 := a') (tx4.c (u1 3 (by decide)) (u3 3 (by decide) (by decide) (by omega) (by omega) (by omega) (by omega) (by omega))) hP w2 wf (Or.inl ⟨e, y4, y5.1, fun m6 s1 s2 s3 s4 => Or.inr (Or.inr (Or.inr ⟨k4.2, l3, a', s, y1, y2, y3, s2, y5.1, y6.c (fun b b1 b2 => s4 b (by omega)), y7.c (s4 _ (by omega)), ?_, fun b hb => ?_, fun b b1 b2 b3 b4 b5 b6 b7 => ?_⟩)), fun h => absurd y5.2 h⟩)
            · rw [s4 P (by omega)]; exact p5
            · rw [s4 P (by omega), u2 b hb, h4.2.2.2 P (by omega)]
            · rw [s4 b b1, u3 b b1 b2 b3 b4 b5 b6 b7]; exact h4.2.2.2 b b1
          · exact it_end (a1 := a) (tx4.c (u1 3 (by decide)) (u3 3 (by decide) (by decide) (by omega) (by omega) (by omega) (by omega) (by omega))) hP w2 wf (Or.inr ⟨e, it_l k4.2 y⟩)
      · have k3 := got h3 z3
        have tx4 : Tx m3 t n := ht.c (h3.2.2.1 3 (by decide)) (h3.2.2.2 3 (by decide))
        have hps := ps_r (t := t) (n := n) (a := a + 1) 4
        refine T_bd2 (tX8_readBag hP tx4 k3.1 (by omega)) ?_
        rintro v m5 ⟨u1, u3, u4⟩
        dsimp only at u1 u3 u4
        have w2 : ∀ b, b ≠ 2 → m5 2 b = m 2 b := fun b hb => (u1 b hb).trans (h3.2.2.1 b hb)
        have wf : ∀ x, x ≠ 2 → x ≠ 4 → (x < P ∨ P + 13 < x) → m5 x = m x := fun b b1 b2 b3 => by rw [u3 b b1 b2 (by omega)]; exact h3.2.2.2 b b1
        rcases u4 with ⟨e, y1, y2, y3⟩ | ⟨e, y⟩
        · refine it_end (a1 := ps t n (a + 1) 4 - 1) (tx4.c (u1 3 (by decide)) (u3 3 (by decide) (by decide) (by omega))) hP w2 wf (Or.inl ⟨e, y2, by omega, fun m6 s1 s2 s3 s4 => Or.inr (Or.inr (Or.inl ⟨k3.2, ⟨y1, s1⟩, by omega, fun k q1 q2 => ?_, fun b b1 b2 b3 => ?_⟩)), fun h => it_b k3.2 (fun q => h q.2)⟩)
          · rw [s4 (P + 2) (by omega), y3 k q1 q2, h3.2.2.2 (P + 2) (by omega)]; rfl
          · rw [s4 b b1, u3 b b1 b2 b3]; exact h3.2.2.2 b b1
        · exact it_end (a1 := a) (tx4.c (u1 3 (by decide)) (u3 3 (by decide) (by decide) (by omega))) hP w2 wf (Or.inr ⟨e, it_b k3.2 (fun q => y q.1)⟩)
    · have k2 := got h2 z2
      have tx4 : Tx m2 t n := ht.c (h2.2.2.1 3 (by decide)) (h2.2.2.2 3 (by decide))
      have hps := ps_r (t := t) (n := n) (a := a + 1) 1
      refine T_bd2 (tX8_readJoint hP tx4 k2.1 (by omega)) ?_
      rintro v m5 ⟨u1, u2, u3, u4⟩
      dsimp only at u1 u2 u3 u4
      have w2 : ∀ b, b ≠ 2 → m5 2 b = m 2 b := fun b hb => (u1 b hb).trans (h2.2.2.1 b hb)
      have wf : ∀ x, x ≠ 2 → x ≠ 4 → (x < P ∨ P + 13 < x) → m5 x = m x := fun b b1 b2 b3 => by rw [u3 b b1 b2 (by omega)]; exact h2.2.2.2 b b1
      rcases u4 with ⟨e, y1, y2, y3⟩ | ⟨e, y⟩
      · refine it_end (a1 := ps t n (a + 1) 1 - 1) (tx4.c (u1 3 (by decide)) (u3 3 (by decide) (by decide) (by omega))) hP w2 wf (Or.inl ⟨e, y2, by omega, fun m6 s1 s2 s3 s4 => Or.inr (Or.inl ⟨k2.2, ⟨y1, s1⟩, by omega, ?_, fun b hb => ?_, fun b b1 b2 b3 => ?_⟩), fun h => it_j k2.2 (fun q => h q.2)⟩)
        · rw [s4 P (by omega)]; exact y3
        · rw [s4 P (by omega), u2 b hb, h2.2.2.2 P (by omega)]
        · rw [s4 b b1, u3 b b1 b2 b3]; exact h2.2.2.2 b b1
      · exact it_end (a1 := a) (tx4.c (u1 3 (by decide)) (u3 3 (by decide) (by decide) (by omega))) hP w2 wf (Or.inr ⟨e, it_j k2.2 (fun q => y q.1)⟩)
  · have k1 := got h1 z1
    have tx4 : Tx m1 t n := ht.c (h1.2.2.1 3 (by decide)) (h1.2.2.2 3 (by decide))
    have hps := ps_r (t := t) (n := n) (a := a + 1) 3
    refine T_bd2 (tX8_readSizes hP tx4 k1.1 (by omega)) ?_
    rintro v m5 ⟨u1, u3, u4⟩
    dsimp only at u1 u3 u4
    have w2 : ∀ b, b ≠ 2 → m5 2 b = m 2 b := fun b hb => (u1 b hb).trans (h1.2.2.1 b hb)
    have wf : ∀ x, x ≠ 2 → x ≠ 4 → (x < P ∨ P + 13 < x) → m5 x = m x := fun b b1 b2 b3 => by rw [u3 b b1 b2 (by omega)]; exact h1.2.2.2 b b1
    rcases u4 with ⟨e, y1, y2, y3⟩ | ⟨e, y⟩
    · refine it_end (a1 := ps t n (a + 1) 3 - 1) (tx4.c (u1 3 (by decide)) (u3 3 (by decide) (by decide) (by omega))) hP w2 wf (Or.inl ⟨e, y2, by omega, fun m6 s1 s2 s3 s4 => Or.inl ⟨k1.2, ⟨y1, s1⟩, by omega, fun k q1 q2 => ?_, fun b b1 b2 b3 => ?_⟩, fun h => it_z k1.2 (fun q => h q.2)⟩)
      · rw [s4 (P + 1) (by omega)]; exact y3 k q1 q2
      · rw [s4 b b1, u3 b b1 b2 b3]; exact h1.2.2.2 b b1
    · exact it_end (a1 := a) (tx4.c (u1 3 (by decide)) (u3 3 (by decide) (by decide) (by omega))) hP w2 wf (Or.inr ⟨e, it_z k1.2 (fun q => y q.1)⟩)
